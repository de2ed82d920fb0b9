def fX8_begin (h : ST) (o : Nat) (o1 : Nat) : Option (ST) :=
  bnd (pw h o 0 0) fun h1 =>
  bnd (pw h1 o 1 0) fun h3 =>
  bnd (pw h3 o 2 0) fun h5 =>
  bnd (acp 9 9 h5 (o1 + 3) (o + 1) 0 0 9) fun h7 =>
  bnd (fJ7_fill_53178 h7 (o + 2) 9 0) fun r9 =>
  bnd (acp 10 10 r9 (o1 + 11) (o + 3) 0 0 10) fun h11 =>
  some h11
set_option maxRecDepth 100000 in
set_option maxHeartbeats 4000000 in
theorem kX8_begin {l : Launch} {g : GE} {B : Nat} {h : ST} {o : Nat} (ho_o : o < 395) (hk_o : KC o = (7, 0)) {o1 : Nat} (ho_o1 : o1 < 395) (hk_o1 : KC o1 = (1, 0)) {y : ST} (hf : fX8_begin h o o1 = some y) : CT l yX8_begin cX8_begin 2 none 2 KC 395 g B [.ref (gA g o), .ref (gA g o1)] h none y := by
  refine CT.of pn_X8 (Nat.le_of_ble_eq_true rfl) ?_
  intro p e s m below meth c hr F
  have F : Fx p s m _ meth c cX8_begin 2 "DustParish$State" 395 g B := F
  refine V_lv (lv' := [(0, .ref (gA g o)), (1, .ref (gA g o1))]) rfl ?_
  unfold fX8_begin at hf
  refine v_aload_n (pc := 0) (j := 0) F dX8_begin_0 rfl rfl ?_
  refine v_iconst (pc := 1) (v := 0) F dX8_begin_1 ic_0 ?_
  obtain ⟨h1, e2, hf⟩ := bnd_some hf
  refine v_pfl (pc := 2) F fl_X8_21 pl_7_0 dX8_begin_2 ho_o hk_o fv_7_0 rfl rfl e2 ?_
  refine v_aload_n (pc := 5) (j := 0) F dX8_begin_5 rfl rfl ?_
  refine v_iconst (pc := 6) (v := 0) F dX8_begin_6 ic_0 ?_
  obtain ⟨h3, e4, hf⟩ := bnd_some hf
  refine v_pfl (pc := 7) F fl_X8_25 pl_7_1 dX8_begin_7 ho_o hk_o fv_7_1 rfl rfl e4 ?_
  refine v_aload_n (pc := 10) (j := 0) F dX8_begin_10 rfl rfl ?_
  refine v_iconst (pc := 11) (v := 0) F dX8_begin_11 ic_0 ?_
  obtain ⟨h5, e6, hf⟩ := bnd_some hf
  refine v_pfl (pc := 12) F fl_X8_28 pl_7_2 dX8_begin_12 ho_o hk_o fv_7_2 rfl rfl e6 ?_
  refine v_aload_n (pc := 15) (j := 1) F dX8_begin_15 rfl rfl ?_
  refine v_ifl (pc := 16) F fl_X8_31 dX8_begin_16 ho_o1 hk_o1 fv_1_3 ?_
  refine v_iconst (pc := 19) (v := 0) F dX8_begin_19 ic_0 ?_
  refine v_aload_n (pc := 20) (j := 0) F dX8_begin_20 rfl rfl ?_
  refine v_ifl (pc := 21) F fl_X8_9 dX8_begin_21 ho_o hk_o fv_7_3 ?_
  refine v_iconst (pc := 24) (v := 0) F dX8_begin_24 ic_0 ?_
  refine v_bipush (pc := 25) (v := 9) F dX8_begin_25 bp_9 ?_
  obtain ⟨h7, e8, hf⟩ := bnd_some hf
  refine v_copy (pc := 27) F tw_453 acpW dX8_begin_27 (ly_1_3 ho_o1 hk_o1).1 (ly_1_3 ho_o1 hk_o1).2 (ly_7_3 ho_o hk_o).1 (ly_7_3 ho_o hk_o).2 e8 (by decide) (Nat.le_of_ble_eq_true rfl) ?_
  refine v_aload_n (pc := 30) (j := 0) F dX8_begin_30 rfl rfl ?_
  refine v_ifl (pc := 31) F fl_X8_15 dX8_begin_31 ho_o hk_o fv_7_4 ?_
  refine v_iconst (pc := 34) (v := 0) F dX8_begin_34 ic_0 ?_
  obtain ⟨r9, e10, hf⟩ := bnd_some hf
  refine v_callSv (pc := 35) (As := [.ref (gA g (o + 2)), .int 0]) F cl_X8_40 dX8_begin_35 (kJ7_fill_53178 (ly_7_4 ho_o hk_o).1 (ly_7_4 ho_o hk_o).2 e10) rfl rfl (Nat.le_of_ble_eq_true rfl) (by decide) (Nat.zero_le _) ?_
  refine v_aload_n (pc := 38) (j := 1) F dX8_begin_38 rfl rfl ?_
  refine v_ifl (pc := 39) F fl_X8_46 dX8_begin_39 ho_o1 hk_o1 fv_1_14 ?_
  refine v_iconst (pc := 42) (v := 0) F dX8_begin_42 ic_0 ?_
  refine v_aload_n (pc := 43) (j := 0) F dX8_begin_43 rfl rfl ?_
  refine v_ifl (pc := 44) F fl_X8_18 dX8_begin_44 ho_o hk_o fv_7_5 ?_
  refine v_iconst (pc := 47) (v := 0) F dX8_begin_47 ic_0 ?_
  refine v_bipush (pc := 48) (v := 10) F dX8_begin_48 bp_10 ?_
  obtain ⟨h11, e12, hf⟩ := bnd_some hf
  refine v_copy (pc := 50) F tw_453 acpW dX8_begin_50 (ly_1_14 ho_o1 hk_o1).1 (ly_1_14 ho_o1 hk_o1).2 (ly_7_5 ho_o hk_o).1 (ly_7_5 ho_o hk_o).2 e12 (by decide) (Nat.le_of_ble_eq_true rfl) ?_
  exact v_vret (pc := 53) F hr dX8_begin_53 (Option.some.inj hf) (Nat.zero_le _)
def fX3_begin (h : ST) (o : Nat) (o1 : Nat) : Option (ST) :=
  bnd (fX8_begin h (o + 1) o1) fun r1 =>
  bnd (pw r1 (o + 5) 0 0) fun h3 =>
  bnd (pw h3 (o + 167) 0 0) fun h5 =>
  some h5
set_option maxRecDepth 100000 in
set_option maxHeartbeats 4000000 in
theorem kX3_begin {l : Launch} {g : GE} {B : Nat} {h : ST} {o : Nat} (ho_o : o < 395) (hk_o : KC o = (2, 0)) {o1 : Nat} (ho_o1 : o1 < 395) (hk_o1 : KC o1 = (1, 0)) {y : ST} (hf : fX3_begin h o o1 = some y) : CT l yX3_begin cX3_begin 2 none 3 KC 395 g B [.ref (gA g o), .ref (gA g o1)] h none y := by
  refine CT.of pn_X3 (Nat.le_of_ble_eq_true rfl) ?_
  intro p e s m below meth c hr F
  have F : Fx p s m _ meth c cX3_begin 2 "DustParish$Present" 395 g B := F
  refine V_lv (lv' := [(0, .ref (gA g o)), (1, .ref (gA g o1))]) rfl ?_
  unfold fX3_begin at hf
  refine v_aload_n (pc := 0) (j := 0) F dX3_begin_0 rfl rfl ?_
  refine v_ifl (pc := 1) F fl_X3_10 dX3_begin_1 ho_o hk_o fv_2_0 ?_
  refine v_aload_n (pc := 4) (j := 1) F dX3_begin_4 rfl rfl ?_
  obtain ⟨r1, e2, hf⟩ := bnd_some hf
  refine v_callVv (pc := 5) (As := [.ref (gA g o1)]) F cl_X3_34 dX3_begin_5 (kX8_begin (ly_2_0 ho_o hk_o).1 (ly_2_0 ho_o hk_o).2 ho_o1 hk_o1 e2) (ly_2_0 ho_o hk_o).1 (ly_2_0 ho_o hk_o).2 rc_7 rfl rfl (Nat.le_of_ble_eq_true rfl) (by decide) (Nat.zero_le _) ?_
  refine v_aload_n (pc := 8) (j := 0) F dX3_begin_8 rfl rfl ?_
  refine v_ifl (pc := 9) F fl_X3_19 dX3_begin_9 ho_o hk_o fv_2_1 ?_
  refine v_iconst (pc := 12) (v := 0) F dX3_begin_12 ic_0 ?_
  obtain ⟨h3, e4, hf⟩ := bnd_some hf
  refine v_pfl (pc := 13) F fl_X3_38 pl_0_0 dX3_begin_13 (ly_2_1 ho_o hk_o).1 (ly_2_1 ho_o hk_o).2 fv_0_0 rfl rfl e4 ?_
  refine v_aload_n (pc := 16) (j := 0) F dX3_begin_16 rfl rfl ?_
  refine v_ifl (pc := 17) F fl_X3_26 dX3_begin_17 ho_o hk_o fv_2_2 ?_
  refine v_iconst (pc := 20) (v := 0) F dX3_begin_20 ic_0 ?_
  obtain ⟨h5, e6, hf⟩ := bnd_some hf
  refine v_pfl (pc := 21) F fl_X3_42 pl_6_0 dX3_begin_21 (ly_2_2 ho_o hk_o).1 (ly_2_2 ho_o hk_o).2 fv_6_0 rfl rfl e6 ?_
  exact v_vret (pc := 24) F hr dX3_begin_24 (Option.some.inj hf) (Nat.zero_le _)
def fX10_parish_12 (h : ST)  : Option ((Int32 ⊕ Nat) × ST) :=
  some (.inr 2, h)
def fX10_parish (h : ST) (a1 : Int32) : Option ((Int32 ⊕ Nat) × ST) :=
  if a1 < 0 then
  fX10_parish_12 h 
  else
  if a1 ≤ (h 0 1) then
    bnd (pw h 0 1 0) fun h3 =>
      bnd (rf KC 395 1 (h3 0 4)) fun f5 =>
      bnd (fX4_read h3 a1 f5) fun r7 =>
      if r7.1 = 0 then
      bnd (pw r7.2 0 2 (-1)) fun h10 =>
        bnd (rf KC 395 1 (h10 0 3)) fun f12 =>
        bnd (rf KC 395 1 (h10 0 4)) fun f14 =>
        bnd (pw h10 0 3 (Int32.ofNat f14)) fun h16 =>
        bnd (pw h16 0 4 (Int32.ofNat f12)) fun h18 =>
        bnd (rf KC 395 1 (h18 0 3)) fun f20 =>
        bnd (fX2_measure h18 f20) fun r22 =>
        bnd (rf KC 395 1 (r22 0 3)) fun f24 =>
        bnd (fX3_begin r22 42 f24) fun r26 =>
        bnd (pw r26 0 8 0) fun h28 =>
        some (.inl 0, h28)
      else
      bnd (fX4_place r7.2) fun r30 =>
        bnd (pw r7.2 0 2 r30) fun h32 =>
        bnd (rd 3 (h32 213) 0) fun v34 =>
        bnd (wr 3 h32 213 0 (v34 + 1)) fun h36 =>
        some (.inl r7.1, h36)
    else
    fX10_parish_12 h 
set_option maxRecDepth 100000 in
set_option maxHeartbeats 4000000 in
theorem tX10_parish_12 {p : Program} {l : Launch} {e : Env} {s : State} {m : MethodId} {args : Array Value} {below : List Frame} {meth : Method} {c : Code} {g : GE} {B : Nat} {h : ST}  (F : Fx p s m args meth c cX10_parish 4 "DustParish" 395 g B)
    {y : (Int32 ⊕ Nat) × ST} (hr : meth.sig.returnType = (some .int)) (hT : l.stackTraces = false) (hex : ∀ x ∈ c.exceptionTable.toList, False) (hf : fX10_parish_12 h  = some y) : V p l e 18 1 s m args below meth c (vx_MQ below (QX KC 395 g (ocI y.1) y.2) (XX KC 395 g (ocI y.1) y.2) args s 1 (6 * 1) (WA 395 g)) KC 395 g B 4 0 h 12 [] [] := by
  unfold fX10_parish_12 at hf
  exact v_throw0 (pc := 12) (E := xIA) F hT xw_IA hex dX10_parish_12 dX10_parish_15 dX10_parish_16 dX10_parish_19 (congrArg ocI (some_fst hf)) (some_snd hf) (by decide) (Nat.le_of_ble_eq_true rfl) (by decide)
set_option maxRecDepth 100000 in
set_option maxHeartbeats 4000000 in
theorem kX10_parish {l : Launch} {g : GE} {B : Nat} {h : ST} {a1 : Int32} {y : (Int32 ⊕ Nat) × ST} (hT : l.stackTraces = false) (hf : fX10_parish h a1 = some y) : XT l yX10_parish cX10_parish 4 (some .int) 18 1 KC 395 g B [.ref (gA g 0), .int a1] h (ocI y.1) y.2 := by
  refine XT.of pn_X10 (Nat.le_of_ble_eq_true rfl) ?_
  intro p e s m below meth c hr hex F
  have F : Fx p s m _ meth c cX10_parish 4 "DustParish" 395 g B := F
  refine V_lv (lv' := [(0, .ref (gA g 0)), (1, .int a1)]) rfl ?_
  unfold fX10_parish at hf
  refine v_iload_n (pc := 0) (j := 1) F dX10_parish_0 rfl rfl ?_
  refine v_if_lt (pc := 1) (tgt := 12) F dX10_parish_1 (by decide) (fun c1 => ?_) (fun c1 => ?_)
  · have hf := ite_t hf c1
    refine V.sub (lv' := []) [] rfl ?_
    exact tX10_parish_12 F hr hT hex hf
  · have hf := ite_f hf c1
    refine v_iload_n (pc := 4) (j := 1) F dX10_parish_4 rfl rfl ?_
    refine v_aload_n (pc := 5) (j := 0) F dX10_parish_5 rfl rfl ?_
    refine v_ifl (pc := 6) F fl_X10_13 dX10_parish_6 kc_0.1 kc_0.2 fv_9_1 ?_
    refine v_icmp_le (pc := 9) (tgt := 20) F dX10_parish_9 (by decide) (fun c2 => ?_) (fun c2 => ?_)
    · have hf := ite_t hf c2
      refine v_aload_n (pc := 20) (j := 0) F dX10_parish_20 rfl rfl ?_
      refine v_iconst (pc := 21) (v := 0) F dX10_parish_21 ic_0 ?_
      obtain ⟨h3, e4, hf⟩ := bnd_some hf
      refine v_pfl (pc := 22) F fl_X10_13 pl_9_1 dX10_parish_22 kc_0.1 kc_0.2 fv_9_1 rfl rfl e4 ?_
      refine v_aload_n (pc := 25) (j := 0) F dX10_parish_25 rfl rfl ?_
      refine v_ifl (pc := 26) F fl_X10_35 dX10_parish_26 kc_0.1 kc_0.2 fv_9_5 ?_
      refine v_iload_n (pc := 29) (j := 1) F dX10_parish_29 rfl rfl ?_
      refine v_aload_n (pc := 30) (j := 0) F dX10_parish_30 rfl rfl ?_
      obtain ⟨f5, e6, hf⟩ := bnd_some hf
      obtain ⟨ho_f5, hk_f5, e6⟩ := rf_in e6
      refine v_ifl (pc := 31) F fl_X10_27 dX10_parish_31 kc_0.1 kc_0.2 (fv_9_4 e6) ?_
      obtain ⟨r7, e8, hf⟩ := bnd_some hf
      refine v_callVi (pc := 34) (As := [.int a1, .ref (gA g f5)]) F cl_X10_86 dX10_parish_34 (kX4_read ho_f5 hk_f5 e8) kc_38.1 kc_38.2 rc_3 rfl rfl (Nat.le_of_ble_eq_true rfl) (by decide) (Nat.zero_le _) ?_
      refine v_istore_n (pc := 37) (lv' := [(0, .ref (gA g 0)), (1, .int a1), (2, .int r7.1)]) F dX10_parish_37 rfl (by decide) rfl ?_
      refine v_iload_n (pc := 38) (j := 2) F dX10_parish_38 rfl rfl ?_
      refine v_if_eq (pc := 39) (tgt := 68) F dX10_parish_39 (by decide) (fun c9 => ?_) (fun c9 => ?_)
      · have hf := ite_t hf c9
        refine v_aload_n (pc := 68) (j := 0) F dX10_parish_68 rfl rfl ?_
        refine v_iconst (pc := 69) (v := (-1)) F dX10_parish_69 ic_m1 ?_
        obtain ⟨h10, e11, hf⟩ := bnd_some hf
        refine v_pfl (pc := 70) F fl_X10_17 pl_9_2 dX10_parish_70 kc_0.1 kc_0.2 fv_9_2 rfl rfl e11 ?_
        refine v_aload_n (pc := 73) (j := 0) F dX10_parish_73 rfl rfl ?_
        obtain ⟨f12, e13, hf⟩ := bnd_some hf
        obtain ⟨ho_f12, hk_f12, e13⟩ := rf_in e13
        refine v_ifl (pc := 74) F fl_X10_23 dX10_parish_74 kc_0.1 kc_0.2 (fv_9_3 e13) ?_
        refine v_astore_n (pc := 77) (lv' := [(0, .ref (gA g 0)), (1, .int a1), (2, .int r7.1), (3, .ref (gA g f12))]) F dX10_parish_77 rfl (by decide) rfl ?_
        refine v_aload_n (pc := 78) (j := 0) F dX10_parish_78 rfl rfl ?_
        refine v_aload_n (pc := 79) (j := 0) F dX10_parish_79 rfl rfl ?_
        obtain ⟨f14, e15, hf⟩ := bnd_some hf
        obtain ⟨ho_f14, hk_f14, e15⟩ := rf_in e15
        refine v_ifl (pc := 80) F fl_X10_27 dX10_parish_80 kc_0.1 kc_0.2 (fv_9_4 e15) ?_
        obtain ⟨h16, e17, hf⟩ := bnd_some hf
        refine v_pfl (pc := 83) F fl_X10_23 pl_9_3 dX10_parish_83 kc_0.1 kc_0.2 (fv_9_3 (ofNat_back (Nat.lt_trans ho_f14 (by decide)))) rfl rfl e17 ?_
        refine v_aload_n (pc := 86) (j := 0) F dX10_parish_86 rfl rfl ?_
        refine v_aload_n (pc := 87) (j := 3) F dX10_parish_87 rfl rfl ?_
        obtain ⟨h18, e19, hf⟩ := bnd_some hf
        refine v_pfl (pc := 88) F fl_X10_27 pl_9_4 dX10_parish_88 kc_0.1 kc_0.2 (fv_9_4 (ofNat_back (Nat.lt_trans ho_f12 (by decide)))) rfl rfl e19 ?_
        refine v_aload_n (pc := 91) (j := 0) F dX10_parish_91 rfl rfl ?_
        obtain ⟨f20, e21, hf⟩ := bnd_some hf
        obtain ⟨ho_f20, hk_f20, e21⟩ := rf_in e21
        refine v_ifl (pc := 92) F fl_X10_23 dX10_parish_92 kc_0.1 kc_0.2 (fv_9_3 e21) ?_
        obtain ⟨r22, e23, hf⟩ := bnd_some hf
        refine v_callVv (pc := 95) (As := []) F cl_X10_97 dX10_parish_95 (kX2_measure ho_f20 hk_f20 e23) ho_f20 hk_f20 rc_1 rfl rfl (Nat.le_of_ble_eq_true rfl) (by decide) (Nat.zero_le _) ?_
        refine v_aload_n (pc := 98) (j := 0) F dX10_parish_98 rfl rfl ?_
        refine v_ifl (pc := 99) F fl_X10_42 dX10_parish_99 kc_0.1 kc_0.2 fv_9_6 ?_
        refine v_aload_n (pc := 102) (j := 0) F dX10_parish_102 rfl rfl ?_
        obtain ⟨f24, e25, hf⟩ := bnd_some hf
        obtain ⟨ho_f24, hk_f24, e25⟩ := rf_in e25
        refine v_ifl (pc := 103) F fl_X10_23 dX10_parish_103 kc_0.1 kc_0.2 (fv_9_3 e25) ?_
        obtain ⟨r26, e27, hf⟩ := bnd_some hf
        refine v_callVv (pc := 106) (As := [.ref (gA g f24)]) F cl_X10_100 dX10_parish_106 (kX3_begin kc_42.1 kc_42.2 ho_f24 hk_f24 e27) kc_42.1 kc_42.2 rc_2 rfl rfl (Nat.le_of_ble_eq_true rfl) (by decide) (Nat.zero_le _) ?_
        refine v_aload_n (pc := 109) (j := 0) F dX10_parish_109 rfl rfl ?_
        refine v_iconst (pc := 110) (v := 0) F dX10_parish_110 ic_0 ?_
        obtain ⟨h28, e29, hf⟩ := bnd_some hf
        refine v_pfl (pc := 111) F fl_X10_49 pl_9_8 dX10_parish_111 kc_0.1 kc_0.2 fv_9_8 rfl rfl e29 ?_
        refine v_iconst (pc := 114) (v := 0) F dX10_parish_114 ic_0 ?_
        exact v_xiret (pc := 115) F hr dX10_parish_115 (some_fst hf) (some_snd hf) (by decide)
      · have hf := ite_f hf c9
        refine v_aload_n (pc := 42) (j := 0) F dX10_parish_42 rfl rfl ?_
        refine v_aload_n (pc := 43) (j := 0) F dX10_parish_43 rfl rfl ?_
        refine v_ifl (pc := 44) F fl_X10_35 dX10_parish_44 kc_0.1 kc_0.2 fv_9_5 ?_
        obtain ⟨r30, e31, hf⟩ := bnd_some hf
        refine v_callVi (pc := 47) (As := []) F cl_X10_90 dX10_parish_47 (kX4_place e31) kc_38.1 kc_38.2 rc_3 rfl rfl (Nat.le_of_ble_eq_true rfl) (by decide) (Nat.zero_le _) ?_
        obtain ⟨h32, e33, hf⟩ := bnd_some hf
        refine v_pfl (pc := 50) F fl_X10_17 pl_9_2 dX10_parish_50 kc_0.1 kc_0.2 fv_9_2 rfl rfl e33 ?_
        refine v_aload_n (pc := 53) (j := 0) F dX10_parish_53 rfl rfl ?_
        refine v_ifl (pc := 54) F fl_X10_42 dX10_parish_54 kc_0.1 kc_0.2 fv_9_6 ?_
        refine v_ifl (pc := 57) F fl_X10_94 dX10_parish_57 kc_42.1 kc_42.2 fv_2_3 ?_
        refine v_iconst (pc := 60) (v := 0) F dX10_parish_60 ic_0 ?_
        refine v_dup2_11 (pc := 61) F dX10_parish_61 rfl rfl ?_
        obtain ⟨v34, e35, hf⟩ := bnd_some hf
        refine v_iald (pc := 62) F dX10_parish_62 kc_213.1 kc_213.2 e35 ?_
        refine v_iconst (pc := 63) (v := 1) F dX10_parish_63 ic_1 ?_
        refine v_iadd (pc := 64) F dX10_parish_64 ?_
        obtain ⟨h36, e37, hf⟩ := bnd_some hf
        refine v_iast (pc := 65) F dX10_parish_65 kc_213.1 kc_213.2 e37 ?_
        refine v_iload_n (pc := 66) (j := 2) F dX10_parish_66 rfl rfl ?_
        exact v_xiret (pc := 67) F hr dX10_parish_67 (some_fst hf) (some_snd hf) (by decide)
    · have hf := ite_f hf c2
      refine V.sub (lv' := []) [] rfl ?_
      exact tX10_parish_12 F hr hT hex hf
def fX10_plan_45 (h : ST)  : Option (Int32 × ST) :=
  bnd (fX10_refuse h 1) fun r3 =>
  some (r3.1, r3.2)
def fX10_plan_25 (h : ST) (l1 : Int32) (l2 : Int32) (q0 : Int32) : Option (Int32 × ST) :=
  if q0 = 0 then
  fX10_plan_45 h 
  else
  if l1 < 0 then
    fX10_plan_45 h 
    else
    bnd (rf KC 395 1 (h 0 3)) fun f6 =>
      if l1 < (h f6 13) then
      bnd (fX0_remember h 47 43) fun r9 =>
        bnd (rd 10 (r9 46) l1) fun v11 =>
        bnd (wr 10 r9 46 l1 l2) fun h13 =>
        some (v11, h13)
      else
      fX10_plan_45 h 
def fX10_plan_20 (h : ST) (l1 : Int32) (l2 : Int32) : Option (Int32 × ST) :=
  fX10_plan_25 h l1 l2 1
def fX10_plan_24 (h : ST) (l1 : Int32) (l2 : Int32) : Option (Int32 × ST) :=
  fX10_plan_25 h l1 l2 0
def fX10_plan (h : ST) (a1 : Int32) (a2 : Int32) : Option (Int32 × ST) :=
  if a2 = 5 then
  fX10_plan_20 h a1 a2
  else
  if a2 < 0 then
    fX10_plan_24 h a1 a2
    else
    bnd (rf KC 395 1 (h 0 3)) fun f16 =>
      if (h f16 8) ≤ a2 then
      fX10_plan_24 h a1 a2
      else
      fX10_plan_20 h a1 a2
set_option maxRecDepth 100000 in
set_option maxHeartbeats 4000000 in
theorem tX10_plan_45 {p : Program} {l : Launch} {e : Env} {s : State} {m : MethodId} {args : Array Value} {below : List Frame} {meth : Method} {c : Code} {g : GE} {B : Nat} {h : ST}  (F : Fx p s m args meth c cX10_plan 5 "DustParish" 395 g B)
    {y : Int32 × ST} (hr : meth.sig.returnType = (some .int)) (hf : fX10_plan_45 h  = some y) : V p l e 3 0 s m args below meth c (MQ below (QO KC 395 g (some (.int y.1)) y.2) args s 0 (6 * 0) (WA 395 g)) KC 395 g B 5 0 h 45 [(0, .ref (gA g 0))] [] := by
  unfold fX10_plan_45 at hf
  refine v_aload_n (pc := 45) (j := 0) F dX10_plan_45 rfl rfl ?_
  refine v_iconst (pc := 46) (v := 1) F dX10_plan_46 ic_1 ?_
  obtain ⟨r3, e4, hf⟩ := bnd_some hf
  refine v_callVi (pc := 47) (As := [.int 1]) F cl_X10_207 dX10_plan_47 (kX10_refuse e4) kc_0.1 kc_0.2 rc_9 rfl rfl (Nat.le_of_ble_eq_true rfl) (by decide) (Nat.zero_le _) ?_
  exact v_iret (pc := 50) F hr dX10_plan_50 (some_fst hf) (some_snd hf) (Nat.zero_le _)
set_option maxRecDepth 100000 in
set_option maxHeartbeats 4000000 in
theorem tX10_plan_25 {p : Program} {l : Launch} {e : Env} {s : State} {m : MethodId} {args : Array Value} {below : List Frame} {meth : Method} {c : Code} {g : GE} {B : Nat} {h : ST}  {l1 : Int32} {l2 : Int32} {q0 : Int32} (F : Fx p s m args meth c cX10_plan 5 "DustParish" 395 g B)
    {y : Int32 × ST} (hr : meth.sig.returnType = (some .int)) (hf : fX10_plan_25 h l1 l2 q0 = some y) : V p l e 3 0 s m args below meth c (MQ below (QO KC 395 g (some (.int y.1)) y.2) args s 0 (6 * 0) (WA 395 g)) KC 395 g B 5 0 h 25 [(0, .ref (gA g 0)), (1, .int l1), (2, .int l2)] [.int q0] := by
  unfold fX10_plan_25 at hf
  refine v_istore_n (pc := 25) (lv' := [(0, .ref (gA g 0)), (1, .int l1), (2, .int l2), (3, .int q0)]) F dX10_plan_25 rfl (by decide) rfl ?_
  refine v_iload_n (pc := 26) (j := 3) F dX10_plan_26 rfl rfl ?_
  refine v_if_eq (pc := 27) (tgt := 45) F dX10_plan_27 (by decide) (fun c2 => ?_) (fun c2 => ?_)
  · have hf := ite_t hf c2
    refine V.sub (lv' := [(0, .ref (gA g 0))]) [0] rfl ?_
    exact tX10_plan_45 F hr hf
  · have hf := ite_f hf c2
    refine v_iload_n (pc := 30) (j := 1) F dX10_plan_30 rfl rfl ?_
    refine v_if_lt (pc := 31) (tgt := 45) F dX10_plan_31 (by decide) (fun c5 => ?_) (fun c5 => ?_)
    · have hf := ite_t hf c5
      refine V.sub (lv' := [(0, .ref (gA g 0))]) [0] rfl ?_
      exact tX10_plan_45 F hr hf
    · have hf := ite_f hf c5
      refine v_iload_n (pc := 34) (j := 1) F dX10_plan_34 rfl rfl ?_
      refine v_aload_n (pc := 35) (j := 0) F dX10_plan_35 rfl rfl ?_
      obtain ⟨f6, e7, hf⟩ := bnd_some hf
      obtain ⟨ho_f6, hk_f6, e7⟩ := rf_in e7
      refine v_ifl (pc := 36) F fl_X10_23 dX10_plan_36 kc_0.1 kc_0.2 (fv_9_3 e7) ?_
      refine v_ifl (pc := 39) F fl_X10_113 dX10_plan_39 ho_f6 hk_f6 fv_1_13 ?_
      refine v_icmp_lt (pc := 42) (tgt := 51) F dX10_plan_42 (by decide) (fun c8 => ?_) (fun c8 => ?_)
      · have hf := ite_t hf c8
        refine v_aload_n (pc := 51) (j := 0) F dX10_plan_51 rfl rfl ?_
        refine v_ifl (pc := 52) F fl_X10_42 dX10_plan_52 kc_0.1 kc_0.2 fv_9_6 ?_
        refine v_ifl (pc := 55) F fl_X10_143 dX10_plan_55 kc_42.1 kc_42.2 fv_2_1 ?_
        refine v_aload_n (pc := 58) (j := 0) F dX10_plan_58 rfl rfl ?_
        refine v_ifl (pc := 59) F fl_X10_42 dX10_plan_59 kc_0.1 kc_0.2 fv_9_6 ?_
        refine v_ifl (pc := 62) F fl_X10_122 dX10_plan_62 kc_42.1 kc_42.2 fv_2_0 ?_
        obtain ⟨r9, e10, hf⟩ := bnd_some hf
        refine v_callVv (pc := 65) (As := [.ref (gA g 43)]) F cl_X10_210 dX10_plan_65 (kX0_remember kc_47.1 kc_47.2 kc_43.1 kc_43.2 e10) kc_47.1 kc_47.2 rc_0 rfl rfl (Nat.le_of_ble_eq_true rfl) (by decide) (Nat.zero_le _) ?_
        refine v_aload_n (pc := 68) (j := 0) F dX10_plan_68 rfl rfl ?_
        refine v_ifl (pc := 69) F fl_X10_42 dX10_plan_69 kc_0.1 kc_0.2 fv_9_6 ?_
        refine v_ifl (pc := 72) F fl_X10_122 dX10_plan_72 kc_42.1 kc_42.2 fv_2_0 ?_
        refine v_ifl (pc := 75) F fl_X10_229 dX10_plan_75 kc_43.1 kc_43.2 fv_7_5 ?_
        refine v_iload_n (pc := 78) (j := 1) F dX10_plan_78 rfl rfl ?_
        obtain ⟨v11, e12, hf⟩ := bnd_some hf
        refine v_iald (pc := 79) F dX10_plan_79 kc_46.1 kc_46.2 e12 ?_
        refine v_istore (pc := 80) (lv' := [(0, .ref (gA g 0)), (1, .int l1), (2, .int l2), (3, .int q0), (4, .int v11)]) F dX10_plan_80 (by decide) rfl ?_
        refine v_aload_n (pc := 82) (j := 0) F dX10_plan_82 rfl rfl ?_
        refine v_ifl (pc := 83) F fl_X10_42 dX10_plan_83 kc_0.1 kc_0.2 fv_9_6 ?_
        refine v_ifl (pc := 86) F fl_X10_122 dX10_plan_86 kc_42.1 kc_42.2 fv_2_0 ?_
        refine v_ifl (pc := 89) F fl_X10_229 dX10_plan_89 kc_43.1 kc_43.2 fv_7_5 ?_
        refine v_iload_n (pc := 92) (j := 1) F dX10_plan_92 rfl rfl ?_
        refine v_iload_n (pc := 93) (j := 2) F dX10_plan_93 rfl rfl ?_
        obtain ⟨h13, e14, hf⟩ := bnd_some hf
        refine v_iast (pc := 94) F dX10_plan_94 kc_46.1 kc_46.2 e14 ?_
        refine v_iload (pc := 95) (j := 4) F dX10_plan_95 rfl ?_
        exact v_iret (pc := 97) F hr dX10_plan_97 (some_fst hf) (some_snd hf) (Nat.zero_le _)
      · have hf := ite_f hf c8
        refine V.sub (lv' := [(0, .ref (gA g 0))]) [0] rfl ?_
        exact tX10_plan_45 F hr hf
set_option maxRecDepth 100000 in
set_option maxHeartbeats 4000000 in
theorem tX10_plan_20 {p : Program} {l : Launch} {e : Env} {s : State} {m : MethodId} {args : Array Value} {below : List Frame} {meth : Method} {c : Code} {g : GE} {B : Nat} {h : ST}  {l1 : Int32} {l2 : Int32} (F : Fx p s m args meth c cX10_plan 5 "DustParish" 395 g B)
    {y : Int32 × ST} (hr : meth.sig.returnType = (some .int)) (hf : fX10_plan_20 h l1 l2 = some y) : V p l e 3 0 s m args below meth c (MQ below (QO KC 395 g (some (.int y.1)) y.2) args s 0 (6 * 0) (WA 395 g)) KC 395 g B 5 0 h 20 [(0, .ref (gA g 0)), (1, .int l1), (2, .int l2)] [] := by
  unfold fX10_plan_20 at hf
  refine v_iconst (pc := 20) (v := 1) F dX10_plan_20 ic_1 ?_
  refine v_goto (pc := 21) (tgt := 25) F dX10_plan_21 (by decide) ?_
  exact tX10_plan_25 F hr hf
set_option maxRecDepth 100000 in
set_option maxHeartbeats 4000000 in
theorem tX10_plan_24 {p : Program} {l : Launch} {e : Env} {s : State} {m : MethodId} {args : Array Value} {below : List Frame} {meth : Method} {c : Code} {g : GE} {B : Nat} {h : ST}  {l1 : Int32} {l2 : Int32} (F : Fx p s m args meth c cX10_plan 5 "DustParish" 395 g B)
    {y : Int32 × ST} (hr : meth.sig.returnType = (some .int)) (hf : fX10_plan_24 h l1 l2 = some y) : V p l e 3 0 s m args below meth c (MQ below (QO KC 395 g (some (.int y.1)) y.2) args s 0 (6 * 0) (WA 395 g)) KC 395 g B 5 0 h 24 [(0, .ref (gA g 0)), (1, .int l1), (2, .int l2)] [] := by
  unfold fX10_plan_24 at hf
  refine v_iconst (pc := 24) (v := 0) F dX10_plan_24 ic_0 ?_
  exact tX10_plan_25 F hr hf
set_option maxRecDepth 100000 in
set_option maxHeartbeats 4000000 in
theorem kX10_plan {l : Launch} {g : GE} {B : Nat} {h : ST} {a1 : Int32} {a2 : Int32} {y : Int32 × ST} (hf : fX10_plan h a1 a2 = some y) : CT l yX10_plan cX10_plan 5 (some .int) 3 KC 395 g B [.ref (gA g 0), .int a1, .int a2] h (some (.int y.1)) y.2 := by
  refine CT.of pn_X10 (Nat.le_of_ble_eq_true rfl) ?_
  intro p e s m below meth c hr F
  have F : Fx p s m _ meth c cX10_plan 5 "DustParish" 395 g B := F
  refine V_lv (lv' := [(0, .ref (gA g 0)), (1, .int a1), (2, .int a2)]) rfl ?_
  unfold fX10_plan at hf
  refine v_iload_n (pc := 0) (j := 2) F dX10_plan_0 rfl rfl ?_
  refine v_iconst (pc := 1) (v := 5) F dX10_plan_1 ic_5 ?_
  refine v_icmp_eq (pc := 2) (tgt := 20) F dX10_plan_2 (by decide) (fun c1 => ?_) (fun c1 => ?_)
  · have hf := ite_t hf c1
    exact tX10_plan_20 F hr hf
  · have hf := ite_f hf c1
    refine v_iload_n (pc := 5) (j := 2) F dX10_plan_5 rfl rfl ?_
    refine v_if_lt (pc := 6) (tgt := 24) F dX10_plan_6 (by decide) (fun c15 => ?_) (fun c15 => ?_)
    · have hf := ite_t hf c15
      exact tX10_plan_24 F hr hf
    · have hf := ite_f hf c15
      refine v_iload_n (pc := 9) (j := 2) F dX10_plan_9 rfl rfl ?_
      refine v_aload_n (pc := 10) (j := 0) F dX10_plan_10 rfl rfl ?_
      obtain ⟨f16, e17, hf⟩ := bnd_some hf
      obtain ⟨ho_f16, hk_f16, e17⟩ := rf_in e17
      refine v_ifl (pc := 11) F fl_X10_23 dX10_plan_11 kc_0.1 kc_0.2 (fv_9_3 e17) ?_
      refine v_ifl (pc := 14) F fl_X10_110 dX10_plan_14 ho_f16 hk_f16 fv_1_8 ?_
      refine v_icmp_ge (pc := 17) (tgt := 24) F dX10_plan_17 (by decide) (fun c18 => ?_) (fun c18 => ?_)
      · have hf := ite_t hf c18
        exact tX10_plan_24 F hr hf
      · have hf := ite_f hf c18
        exact tX10_plan_20 F hr hf
def fX10_poorest_52 (h : ST) (l2 : Int32) (l3 : Int32) : Option ((Int32 × Int32) ⊕ Int32) :=
  some (.inl (l2, l3 + 1))
def fX10_poorest_50 (h : ST) (l3 : Int32) : Option ((Int32 × Int32) ⊕ Int32) :=
  fX10_poorest_52 h l3 l3
def fX10_poorest_13 (h : ST) (s1 : (Int32 × Int32)) : Option ((Int32 × Int32) ⊕ Int32) :=
  bnd (rf KC 395 1 (h 0 3)) fun f5 =>
  if (h f5 0) ≤ s1.2 then
  some (.inr s1.1)
  else
  if s1.1 = (-1) then
    fX10_poorest_50 h s1.2
    else
    bnd (rd 9 (h 387) s1.2) fun v9 =>
      bnd (rd 9 (h 387) s1.1) fun v11 =>
      if v11 ≤ v9 then
      fX10_poorest_52 h s1.1 s1.2
      else
      fX10_poorest_50 h s1.2
def fX10_poorest (h : ST) (a1 : Int32) : Option ((Int32 ⊕ Nat) × ST) :=
  bnd (fX10_needAhead h a1) fun r1 =>
  sm r1 (fun _ => bnd (fX10_tryDays h a1) fun r3 =>
  bnd (lp FU (fX10_poorest_13 r3) ((-1), 0)) fun x14 =>
  some (.inl x14, r3)) (fun r1 => some (.inr r1, h))
set_option maxRecDepth 100000 in
set_option maxHeartbeats 4000000 in
theorem tX10_poorest_52 {p : Program} {l : Launch} {e : Env} {s : State} {m : MethodId} {args : Array Value} {below : List Frame} {meth : Method} {c : Code} {g : GE} {B : Nat} {h : ST}  {l2 : Int32} {l3 : Int32} (F : Fx p s m args meth c cX10_poorest 4 "DustParish" 395 g B)
    {Q : State → Prop} {y : (Int32 × Int32) ⊕ Int32} (hk : ∀ v : (Int32 × Int32), y = Sum.inl v → V p l e 9 1 s m args below meth c Q KC 395 g B 4 1 h 13 [(0, .ref (gA g 0)), (2, .int v.1), (3, .int v.2)] []) (hx0 : ∀ v : Int32, y = Sum.inr v → V p l e 9 1 s m args below meth c Q KC 395 g B 4 1 h 58 [(2, .int v)] []) (hf : fX10_poorest_52 h l2 l3 = some y) : V p l e 9 1 s m args below meth c Q KC 395 g B 4 1 h 52 [(0, .ref (gA g 0)), (2, .int l2), (3, .int l3)] [] := by
  unfold fX10_poorest_52 at hf
  refine v_iinc (pc := 52) (j := 2) (v := l3 + 1) (lv' := [(0, .ref (gA g 0)), (2, .int l2), (3, .int (l3 + 1))]) F dX10_poorest_52 rfl (congrArg (fun z => l3 + z) ic_1) (by decide) rfl ?_
  refine v_goto (pc := 55) (tgt := 13) F dX10_poorest_55 (by decide) ?_
  exact hk (l2, l3 + 1) (Option.some.inj hf).symm
set_option maxRecDepth 100000 in
set_option maxHeartbeats 4000000 in
theorem tX10_poorest_50 {p : Program} {l : Launch} {e : Env} {s : State} {m : MethodId} {args : Array Value} {below : List Frame} {meth : Method} {c : Code} {g : GE} {B : Nat} {h : ST}  {l3 : Int32} (F : Fx p s m args meth c cX10_poorest 4 "DustParish" 395 g B)
    {Q : State → Prop} {y : (Int32 × Int32) ⊕ Int32} (hk : ∀ v : (Int32 × Int32), y = Sum.inl v → V p l e 9 1 s m args below meth c Q KC 395 g B 4 1 h 13 [(0, .ref (gA g 0)), (2, .int v.1), (3, .int v.2)] []) (hx0 : ∀ v : Int32, y = Sum.inr v → V p l e 9 1 s m args below meth c Q KC 395 g B 4 1 h 58 [(2, .int v)] []) (hf : fX10_poorest_50 h l3 = some y) : V p l e 9 1 s m args below meth c Q KC 395 g B 4 1 h 50 [(0, .ref (gA g 0)), (3, .int l3)] [] := by
  unfold fX10_poorest_50 at hf
  refine v_iload_n (pc := 50) (j := 1) F dX10_poorest_50 rfl rfl ?_
  refine v_istore_n (pc := 51) (lv' := [(0, .ref (gA g 0)), (2, .int l3), (3, .int l3)]) F dX10_poorest_51 rfl (by decide) rfl ?_
  exact tX10_poorest_52 F hk hx0 hf
set_option maxRecDepth 100000 in
set_option maxHeartbeats 4000000 in
theorem tX10_poorest_13 {p : Program} {l : Launch} {e : Env} {s : State} {m : MethodId} {args : Array Value} {below : List Frame} {meth : Method} {c : Code} {g : GE} {B : Nat}  {h : ST}  {Q : State → Prop} {x : Int32} {nf : Nat} {s0 : (Int32 × Int32)} (F : Fx p s m args meth c cX10_poorest 4 "DustParish" 395 g B) (hX0 : V p l e 9 1 s m args below meth c Q KC 395 g B 4 1 h 58 [(2, .int x)] []) (hl : lp nf (fX10_poorest_13 h) s0 = some x) : V p l e 9 1 s m args below meth c Q KC 395 g B 4 1 h 13 [(0, .ref (gA g 0)), (2, .int s0.1), (3, .int s0.2)] [] := by
  refine lp_ind (P := fun s0 => V p l e 9 1 s m args below meth c Q KC 395 g B 4 1 h 13 [(0, .ref (gA g 0)), (2, .int s0.1), (3, .int s0.2)] []) ?_ nf s0 hl
  intro s1 y hf hk hx
  have hx0 : ∀ v : Int32, y = Sum.inr v → V p l e 9 1 s m args below meth c Q KC 395 g B 4 1 h 58 [(2, .int v)] [] := fun v e9 => by rw [hx v e9]; exact hX0
  unfold fX10_poorest_13 at hf
  refine v_iload_n (pc := 13) (j := 2) F dX10_poorest_13 rfl rfl ?_
  refine v_aload_n (pc := 14) (j := 0) F dX10_poorest_14 rfl rfl ?_
  obtain ⟨f5, e6, hf⟩ := bnd_some hf
  obtain ⟨ho_f5, hk_f5, e6⟩ := rf_in e6
  refine v_ifl (pc := 15) F fl_X10_23 dX10_poorest_15 kc_0.1 kc_0.2 (fv_9_3 e6) ?_
  refine v_ifl (pc := 18) F fl_X10_104 dX10_poorest_18 ho_f5 hk_f5 fv_1_0 ?_
  refine v_icmp_ge (pc := 21) (tgt := 58) F dX10_poorest_21 (by decide) (fun c7 => ?_) (fun c7 => ?_)
  · have hf := ite_t hf c7
    refine V.sub (lv' := [(2, .int s1.1)]) [1] rfl ?_
    exact hx0 s1.1 (Option.some.inj hf).symm
  · have hf := ite_f hf c7
    refine v_iload_n (pc := 24) (j := 1) F dX10_poorest_24 rfl rfl ?_
    refine v_iconst (pc := 25) (v := (-1)) F dX10_poorest_25 ic_m1 ?_
    refine v_icmp_eq (pc := 26) (tgt := 50) F dX10_poorest_26 (by decide) (fun c8 => ?_) (fun c8 => ?_)
    · have hf := ite_t hf c8
      refine V.sub (lv' := [(0, .ref (gA g 0)), (3, .int s1.2)]) [0, 2] rfl ?_
      exact tX10_poorest_50 F hk hx0 hf
    · have hf := ite_f hf c8
      refine v_aload_n (pc := 29) (j := 0) F dX10_poorest_29 rfl rfl ?_
      refine v_ifl (pc := 30) F fl_X10_56 dX10_poorest_30 kc_0.1 kc_0.2 fv_9_9 ?_
      refine v_ifl (pc := 33) F fl_X10_171 dX10_poorest_33 kc_386.1 kc_386.2 fv_7_3 ?_
      refine v_iload_n (pc := 36) (j := 2) F dX10_poorest_36 rfl rfl ?_
      obtain ⟨v9, e10, hf⟩ := bnd_some hf
      refine v_iald (pc := 37) F dX10_poorest_37 kc_387.1 kc_387.2 e10 ?_
      refine v_aload_n (pc := 38) (j := 0) F dX10_poorest_38 rfl rfl ?_
      refine v_ifl (pc := 39) F fl_X10_56 dX10_poorest_39 kc_0.1 kc_0.2 fv_9_9 ?_
      refine v_ifl (pc := 42) F fl_X10_171 dX10_poorest_42 kc_386.1 kc_386.2 fv_7_3 ?_
      refine v_iload_n (pc := 45) (j := 1) F dX10_poorest_45 rfl rfl ?_
      obtain ⟨v11, e12, hf⟩ := bnd_some hf
      refine v_iald (pc := 46) F dX10_poorest_46 kc_387.1 kc_387.2 e12 ?_
      refine v_icmp_ge (pc := 47) (tgt := 52) F dX10_poorest_47 (by decide) (fun c13 => ?_) (fun c13 => ?_)
      · have hf := ite_t hf c13
        exact tX10_poorest_52 F hk hx0 hf
      · have hf := ite_f hf c13
        refine V.sub (lv' := [(0, .ref (gA g 0)), (3, .int s1.2)]) [0, 2] rfl ?_
        exact tX10_poorest_50 F hk hx0 hf
set_option maxRecDepth 100000 in
set_option maxHeartbeats 4000000 in
theorem kX10_poorest {l : Launch} {g : GE} {B : Nat} {h : ST} {a1 : Int32} {y : (Int32 ⊕ Nat) × ST} (hT : l.stackTraces = false) (hf : fX10_poorest h a1 = some y) : XT l yX10_poorest cX10_poorest 4 (some .int) 9 1 KC 395 g B [.ref (gA g 0), .int a1] h (ocI y.1) y.2 := by
  refine XT.of pn_X10 (Nat.le_of_ble_eq_true rfl) ?_
  intro p e s m below meth c hr hex F
  have F : Fx p s m _ meth c cX10_poorest 4 "DustParish" 395 g B := F
  refine V_lv (lv' := [(0, .ref (gA g 0)), (1, .int a1)]) rfl ?_
  unfold fX10_poorest at hf
  refine v_iload_n (pc := 0) (j := 1) F dX10_poorest_0 rfl rfl ?_
  obtain ⟨r1, e2, hf⟩ := bnd_some hf
  rcases r1 with v9 | r1
  · have hf := sm_l hf
    refine v_xcallS (pc := 1) (As := [.int a1]) F cl_X10_235 dX10_poorest_1 (kX10_needAhead hT e2) rfl rfl (Nat.le_of_ble_eq_true rfl) (by decide) (by decide) ?_
    refine v_aload_n (pc := 4) (j := 0) F dX10_poorest_4 rfl rfl ?_
    refine v_iload_n (pc := 5) (j := 1) F dX10_poorest_5 rfl rfl ?_
    obtain ⟨r3, e4, hf⟩ := bnd_some hf
    refine v_callVv (pc := 6) (As := [.int a1]) F cl_X10_238 dX10_poorest_6 (kX10_tryDays e4) kc_0.1 kc_0.2 rc_9 rfl rfl (Nat.le_of_ble_eq_true rfl) (by decide) (by decide) ?_
    refine v_iconst (pc := 9) (v := (-1)) F dX10_poorest_9 ic_m1 ?_
    refine v_istore_n (pc := 10) (lv' := [(0, .ref (gA g 0)), (1, .int a1), (2, .int (-1))]) F dX10_poorest_10 rfl (by decide) rfl ?_
    refine v_iconst (pc := 11) (v := 0) F dX10_poorest_11 ic_0 ?_
    refine v_istore_n (pc := 12) (lv' := [(0, .ref (gA g 0)), (1, .int a1), (2, .int (-1)), (3, .int 0)]) F dX10_poorest_12 rfl (by decide) rfl ?_
    obtain ⟨x14, e15, hf⟩ := bnd_some hf
    refine V.sub (lv' := [(0, .ref (gA g 0)), (2, .int (-1)), (3, .int 0)]) [0, 2, 3] rfl ?_
    refine tX10_poorest_13 (s0 := ((-1), 0)) F ?_ e15
    refine v_iload_n (pc := 58) (j := 0) F dX10_poorest_58 rfl rfl ?_
    exact v_xiret (pc := 59) F hr dX10_poorest_59 (some_fst hf) (some_snd hf) (by decide)
  · have hf := sm_r hf
    exact v_xcallSX (pc := 1) (As := [.int a1]) F cl_X10_235 dX10_poorest_1 (kX10_needAhead hT e2) rfl rfl (Nat.le_of_ble_eq_true rfl) (by decide) (by decide) hex (congrArg ocI (some_fst hf)) (some_snd hf)
def fX10_restore_18 (h : ST)  : Option (Int32 × ST) :=
  bnd (zb (h 0 8)) fun z2 =>
  some (z2, h)
def fX10_restore (h : ST) : Option (Int32 × ST) :=
  if (h 0 8) = 0 then
  fX10_restore_18 h 
  else
  bnd (fX3_copy h 42 214) fun r4 =>
    fX10_restore_18 r4 
set_option maxRecDepth 100000 in
set_option maxHeartbeats 4000000 in
theorem tX10_restore_18 {p : Program} {l : Launch} {e : Env} {s : State} {m : MethodId} {args : Array Value} {below : List Frame} {meth : Method} {c : Code} {g : GE} {B : Nat} {h : ST}  (F : Fx p s m args meth c cX10_restore 1 "DustParish" 395 g B)
    {y : Int32 × ST} (hr : meth.sig.returnType = (some .boolean)) (hf : fX10_restore_18 h  = some y) : V p l e 4 0 s m args below meth c (MQ below (QO KC 395 g (some (.int y.1)) y.2) args s 0 (6 * 0) (WA 395 g)) KC 395 g B 1 0 h 18 [(0, .ref (gA g 0))] [] := by
  unfold fX10_restore_18 at hf
  refine v_aload_n (pc := 18) (j := 0) F dX10_restore_18 rfl rfl ?_
  refine v_ifl (pc := 19) F fl_X10_49 dX10_restore_19 kc_0.1 kc_0.2 fv_9_8 ?_
  obtain ⟨z2, e3, hf⟩ := bnd_some hf
  exact v_zret (pc := 22) F hr dX10_restore_22 (zb_in e3).2 ((zb_in e3).1.symm.trans (some_fst hf)) (some_snd hf) (Nat.zero_le _)
set_option maxRecDepth 100000 in
set_option maxHeartbeats 4000000 in
theorem kX10_restore {l : Launch} {g : GE} {B : Nat} {h : ST} {y : Int32 × ST} (hf : fX10_restore h = some y) : CT l yX10_restore cX10_restore 1 (some .boolean) 4 KC 395 g B [.ref (gA g 0)] h (some (.int y.1)) y.2 := by
  refine CT.of pn_X10 (Nat.le_of_ble_eq_true rfl) ?_
  intro p e s m below meth c hr F
  have F : Fx p s m _ meth c cX10_restore 1 "DustParish" 395 g B := F
  refine V_lv (lv' := [(0, .ref (gA g 0))]) rfl ?_
  unfold fX10_restore at hf
  refine v_aload_n (pc := 0) (j := 0) F dX10_restore_0 rfl rfl ?_
  refine v_ifl (pc := 1) F fl_X10_49 dX10_restore_1 kc_0.1 kc_0.2 fv_9_8 ?_
  refine v_if_eq (pc := 4) (tgt := 18) F dX10_restore_4 (by decide) (fun c1 => ?_) (fun c1 => ?_)
  · have hf := ite_t hf c1
    exact tX10_restore_18 F hr hf
  · have hf := ite_f hf c1
    refine v_aload_n (pc := 7) (j := 0) F dX10_restore_7 rfl rfl ?_
    refine v_ifl (pc := 8) F fl_X10_42 dX10_restore_8 kc_0.1 kc_0.2 fv_9_6 ?_
    refine v_aload_n (pc := 11) (j := 0) F dX10_restore_11 rfl rfl ?_
    refine v_ifl (pc := 12) F fl_X10_46 dX10_restore_12 kc_0.1 kc_0.2 fv_9_7 ?_
    obtain ⟨r4, e5, hf⟩ := bnd_some hf
    refine v_callVv (pc := 15) (As := [.ref (gA g 214)]) F cl_X10_349 dX10_restore_15 (kX3_copy kc_42.1 kc_42.2 kc_214.1 kc_214.2 e5) kc_42.1 kc_42.2 rc_2 rfl rfl (Nat.le_of_ble_eq_true rfl) (by decide) (Nat.zero_le _) ?_
    exact tX10_restore_18 F hr hf
def fX10_riches_10 (h : ST)  : Option ((Int32 ⊕ Nat)) :=
  some (.inr 1)
def fX10_riches_61 (h : ST) (l1 : Int32) (l2 : Int32) (l3 : Int32) : Option ((Int32 × Int32) ⊕ Int32) :=
  some (.inl (l2, l3 + 1))
def fX10_riches_22 (h : ST) (l1 : Int32) (s1 : (Int32 × Int32)) : Option ((Int32 × Int32) ⊕ Int32) :=
  bnd (rf KC 395 1 (h 0 3)) fun f3 =>
  if (h f3 0) ≤ s1.2 then
  some (.inr s1.1)
  else
  bnd (rf KC 395 1 (h 0 3)) fun f6 =>
    bnd (rd 9 (h (f6 + 2)) s1.2) fun v8 =>
    if v8 = l1 then
    bnd (rd 9 (h 44) s1.2) fun v11 =>
      fX10_riches_61 h l1 (s1.1 + v11) s1.2
    else
    fX10_riches_61 h l1 s1.1 s1.2
def fX10_riches (h : ST) (a1 : Int32) : Option ((Int32 ⊕ Nat)) :=
  if a1 < 0 then
  fX10_riches_10 h 
  else
  if a1 < 6 then
    bnd (lp FU (fX10_riches_22 h a1) (0, 0)) fun x13 =>
      some (.inl x13)
    else
    fX10_riches_10 h 
set_option maxRecDepth 100000 in
set_option maxHeartbeats 4000000 in
theorem tX10_riches_10 {p : Program} {l : Launch} {e : Env} {s : State} {m : MethodId} {args : Array Value} {below : List Frame} {meth : Method} {c : Code} {g : GE} {B : Nat} {h : ST}  (F : Fx p s m args meth c cX10_riches 4 "DustParish" 395 g B)
    {y : (Int32 ⊕ Nat)} (hr : meth.sig.returnType = (some .int)) (hT : l.stackTraces = false) (hex : ∀ x ∈ c.exceptionTable.toList, False) (hf : fX10_riches_10 h  = some y) : V p l e 8 1 s m args below meth c (vx_MQ below (QX KC 395 g (ocI y) h) (XX KC 395 g (ocI y) h) args s 1 (6 * 1) (WA 395 g)) KC 395 g B 4 0 h 10 [] [] := by
  unfold fX10_riches_10 at hf
  exact v_throw0 (pc := 10) (E := xNS) F hT xw_NS hex dX10_riches_10 dX10_riches_13 dX10_riches_14 dX10_riches_17 (congrArg ocI (Option.some.inj hf)) rfl (by decide) (Nat.le_of_ble_eq_true rfl) (by decide)
set_option maxRecDepth 100000 in
set_option maxHeartbeats 4000000 in
theorem tX10_riches_61 {p : Program} {l : Launch} {e : Env} {s : State} {m : MethodId} {args : Array Value} {below : List Frame} {meth : Method} {c : Code} {g : GE} {B : Nat} {h : ST}  {l1 : Int32} {l2 : Int32} {l3 : Int32} (F : Fx p s m args meth c cX10_riches 4 "DustParish" 395 g B)
    {Q : State → Prop} {y : (Int32 × Int32) ⊕ Int32} (hk : ∀ v : (Int32 × Int32), y = Sum.inl v → V p l e 8 1 s m args below meth c Q KC 395 g B 4 0 h 22 [(0, .ref (gA g 0)), (1, .int l1), (2, .int v.1), (3, .int v.2)] []) (hx0 : ∀ v : Int32, y = Sum.inr v → V p l e 8 1 s m args below meth c Q KC 395 g B 4 0 h 67 [(2, .int v)] []) (hf : fX10_riches_61 h l1 l2 l3 = some y) : V p l e 8 1 s m args below meth c Q KC 395 g B 4 0 h 61 [(0, .ref (gA g 0)), (1, .int l1), (2, .int l2), (3, .int l3)] [] := by
  unfold fX10_riches_61 at hf
  refine v_iinc (pc := 61) (j := 3) (v := l3 + 1) (lv' := [(0, .ref (gA g 0)), (1, .int l1), (2, .int l2), (3, .int (l3 + 1))]) F dX10_riches_61 rfl (congrArg (fun z => l3 + z) ic_1) (by decide) rfl ?_
  refine v_goto (pc := 64) (tgt := 22) F dX10_riches_64 (by decide) ?_
  exact hk (l2, l3 + 1) (Option.some.inj hf).symm
set_option maxRecDepth 100000 in
set_option maxHeartbeats 4000000 in
theorem tX10_riches_22 {p : Program} {l : Launch} {e : Env} {s : State} {m : MethodId} {args : Array Value} {below : List Frame} {meth : Method} {c : Code} {g : GE} {B : Nat}  {h : ST}  {l1 : Int32} {Q : State → Prop} {x : Int32} {nf : Nat} {s0 : (Int32 × Int32)} (F : Fx p s m args meth c cX10_riches 4 "DustParish" 395 g B) (hX0 : V p l e 8 1 s m args below meth c Q KC 395 g B 4 0 h 67 [(2, .int x)] []) (hl : lp nf (fX10_riches_22 h l1) s0 = some x) : V p l e 8 1 s m args below meth c Q KC 395 g B 4 0 h 22 [(0, .ref (gA g 0)), (1, .int l1), (2, .int s0.1), (3, .int s0.2)] [] := by
  refine lp_ind (P := fun s0 => V p l e 8 1 s m args below meth c Q KC 395 g B 4 0 h 22 [(0, .ref (gA g 0)), (1, .int l1), (2, .int s0.1), (3, .int s0.2)] []) ?_ nf s0 hl
  intro s1 y hf hk hx
  have hx0 : ∀ v : Int32, y = Sum.inr v → V p l e 8 1 s m args below meth c Q KC 395 g B 4 0 h 67 [(2, .int v)] [] := fun v e9 => by rw [hx v e9]; exact hX0
  unfold fX10_riches_22 at hf
  refine v_iload_n (pc := 22) (j := 3) F dX10_riches_22 rfl rfl ?_
  refine v_aload_n (pc := 23) (j := 0) F dX10_riches_23 rfl rfl ?_
  obtain ⟨f3, e4, hf⟩ := bnd_some hf
  obtain ⟨ho_f3, hk_f3, e4⟩ := rf_in e4
  refine v_ifl (pc := 24) F fl_X10_23 dX10_riches_24 kc_0.1 kc_0.2 (fv_9_3 e4) ?_
  refine v_ifl (pc := 27) F fl_X10_104 dX10_riches_27 ho_f3 hk_f3 fv_1_0 ?_
  refine v_icmp_ge (pc := 30) (tgt := 67) F dX10_riches_30 (by decide) (fun c5 => ?_) (fun c5 => ?_)
  · have hf := ite_t hf c5
    refine V.sub (lv' := [(2, .int s1.1)]) [2] rfl ?_
    exact hx0 s1.1 (Option.some.inj hf).symm
  · have hf := ite_f hf c5
    refine v_aload_n (pc := 33) (j := 0) F dX10_riches_33 rfl rfl ?_
    obtain ⟨f6, e7, hf⟩ := bnd_some hf
    obtain ⟨ho_f6, hk_f6, e7⟩ := rf_in e7
    refine v_ifl (pc := 34) F fl_X10_23 dX10_riches_34 kc_0.1 kc_0.2 (fv_9_3 e7) ?_
    refine v_ifl (pc := 37) F fl_X10_168 dX10_riches_37 ho_f6 hk_f6 fv_1_2 ?_
    refine v_iload_n (pc := 40) (j := 3) F dX10_riches_40 rfl rfl ?_
    obtain ⟨v8, e9, hf⟩ := bnd_some hf
    refine v_iald (pc := 41) F dX10_riches_41 (ly_1_2 ho_f6 hk_f6).1 (ly_1_2 ho_f6 hk_f6).2 e9 ?_
    refine v_iload_n (pc := 42) (j := 1) F dX10_riches_42 rfl rfl ?_
    refine v_icmp_ne (pc := 43) (tgt := 61) F dX10_riches_43 (by decide) (fun c10 => ?_) (fun c10 => ?_)
    · have hf := ite_f hf c10
      exact tX10_riches_61 F hk hx0 hf
    · have hf := ite_t hf c10
      refine v_iload_n (pc := 46) (j := 2) F dX10_riches_46 rfl rfl ?_
      refine v_aload_n (pc := 47) (j := 0) F dX10_riches_47 rfl rfl ?_
      refine v_ifl (pc := 48) F fl_X10_42 dX10_riches_48 kc_0.1 kc_0.2 fv_9_6 ?_
      refine v_ifl (pc := 51) F fl_X10_122 dX10_riches_51 kc_42.1 kc_42.2 fv_2_0 ?_
      refine v_ifl (pc := 54) F fl_X10_171 dX10_riches_54 kc_43.1 kc_43.2 fv_7_3 ?_
      refine v_iload_n (pc := 57) (j := 3) F dX10_riches_57 rfl rfl ?_
      obtain ⟨v11, e12, hf⟩ := bnd_some hf
      refine v_iald (pc := 58) F dX10_riches_58 kc_44.1 kc_44.2 e12 ?_
      refine v_iadd (pc := 59) F dX10_riches_59 ?_
      refine v_istore_n (pc := 60) (lv' := [(0, .ref (gA g 0)), (1, .int l1), (2, .int (s1.1 + v11)), (3, .int s1.2)]) F dX10_riches_60 rfl (by decide) rfl ?_
      exact tX10_riches_61 F hk hx0 hf
set_option maxRecDepth 100000 in
set_option maxHeartbeats 4000000 in
theorem kX10_riches {l : Launch} {g : GE} {B : Nat} {h : ST} {a1 : Int32} {y : (Int32 ⊕ Nat)} (hT : l.stackTraces = false) (hf : fX10_riches h a1 = some y) : XT l yX10_riches cX10_riches 4 (some .int) 8 1 KC 395 g B [.ref (gA g 0), .int a1] h (ocI y) h := by
  refine XT.of pn_X10 (Nat.le_of_ble_eq_true rfl) ?_
  intro p e s m below meth c hr hex F
  have F : Fx p s m _ meth c cX10_riches 4 "DustParish" 395 g B := F
  refine V_lv (lv' := [(0, .ref (gA g 0)), (1, .int a1)]) rfl ?_
  unfold fX10_riches at hf
  refine v_iload_n (pc := 0) (j := 1) F dX10_riches_0 rfl rfl ?_
  refine v_if_lt (pc := 1) (tgt := 10) F dX10_riches_1 (by decide) (fun c1 => ?_) (fun c1 => ?_)
  · have hf := ite_t hf c1
    refine V.sub (lv' := []) [] rfl ?_
    exact tX10_riches_10 F hr hT hex hf
  · have hf := ite_f hf c1
    refine v_iload_n (pc := 4) (j := 1) F dX10_riches_4 rfl rfl ?_
    refine v_bipush (pc := 5) (v := 6) F dX10_riches_5 bp_6 ?_
    refine v_icmp_lt (pc := 7) (tgt := 18) F dX10_riches_7 (by decide) (fun c2 => ?_) (fun c2 => ?_)
    · have hf := ite_t hf c2
      refine v_iconst (pc := 18) (v := 0) F dX10_riches_18 ic_0 ?_
      refine v_istore_n (pc := 19) (lv' := [(0, .ref (gA g 0)), (1, .int a1), (2, .int 0)]) F dX10_riches_19 rfl (by decide) rfl ?_
      refine v_iconst (pc := 20) (v := 0) F dX10_riches_20 ic_0 ?_
      refine v_istore_n (pc := 21) (lv' := [(0, .ref (gA g 0)), (1, .int a1), (2, .int 0), (3, .int 0)]) F dX10_riches_21 rfl (by decide) rfl ?_
      obtain ⟨x13, e14, hf⟩ := bnd_some hf
      refine tX10_riches_22 (s0 := (0, 0)) F ?_ e14
      refine v_iload_n (pc := 67) (j := 0) F dX10_riches_67 rfl rfl ?_
      exact v_xiret (pc := 68) F hr dX10_riches_68 (Option.some.inj hf) rfl (by decide)
    · have hf := ite_f hf c2
      refine V.sub (lv' := []) [] rfl ?_
      exact tX10_riches_10 F hr hT hex hf
def fX2_doorsOf_28 (h : ST) (o : Nat) (l1 : Int32) (l3 : Int32) (q0 : Int32) (q1 : Int32) : Option ((Int32 × Int32) ⊕ Int32) :=
  some (.inl (q0 + q1, l3 + 1))
def fX2_doorsOf_4 (h : ST) (o : Nat) (l1 : Int32) (s1 : (Int32 × Int32)) : Option ((Int32 × Int32) ⊕ Int32) :=
  if (h o 5) ≤ s1.2 then
  some (.inr s1.1)
  else
  bnd (fX2_behind h o s1.2 l1) fun r2 =>
    if r2 = (-1) then
    fX2_doorsOf_28 h o l1 s1.2 s1.1 0
    else
    fX2_doorsOf_28 h o l1 s1.2 s1.1 1
def fX2_doorsOf (h : ST) (o : Nat) (a1 : Int32) : Option (Int32) :=
  bnd (lp FU (fX2_doorsOf_4 h o a1) (0, 0)) fun x5 =>
  some x5
set_option maxRecDepth 100000 in
set_option maxHeartbeats 4000000 in
theorem tX2_doorsOf_28 {p : Program} {l : Launch} {e : Env} {s : State} {m : MethodId} {args : Array Value} {below : List Frame} {meth : Method} {c : Code} {g : GE} {B : Nat} {h : ST} {o : Nat} (ho_o : o < 395) (hk_o : KC o = (1, 0)) {l1 : Int32} {l3 : Int32} {q0 : Int32} {q1 : Int32} (F : Fx p s m args meth c cX2_doorsOf 4 "DustParish$Facts" 395 g B)
    {Q : State → Prop} {y : (Int32 × Int32) ⊕ Int32} (hk : ∀ v : (Int32 × Int32), y = Sum.inl v → V p l e 2 0 s m args below meth c Q KC 395 g B 4 0 h 4 [(0, .ref (gA g o)), (1, .int l1), (2, .int v.1), (3, .int v.2)] []) (hx0 : ∀ v : Int32, y = Sum.inr v → V p l e 2 0 s m args below meth c Q KC 395 g B 4 0 h 36 [(2, .int v)] []) (hf : fX2_doorsOf_28 h o l1 l3 q0 q1 = some y) : V p l e 2 0 s m args below meth c Q KC 395 g B 4 0 h 28 [(0, .ref (gA g o)), (1, .int l1), (3, .int l3)] [.int q1, .int q0] := by
  unfold fX2_doorsOf_28 at hf
  refine v_iadd (pc := 28) F dX2_doorsOf_28 ?_
  refine v_istore_n (pc := 29) (lv' := [(0, .ref (gA g o)), (1, .int l1), (2, .int (q0 + q1)), (3, .int l3)]) F dX2_doorsOf_29 rfl (by decide) rfl ?_
  refine v_iinc (pc := 30) (j := 3) (v := l3 + 1) (lv' := [(0, .ref (gA g o)), (1, .int l1), (2, .int (q0 + q1)), (3, .int (l3 + 1))]) F dX2_doorsOf_30 rfl (congrArg (fun z => l3 + z) ic_1) (by decide) rfl ?_
  refine v_goto (pc := 33) (tgt := 4) F dX2_doorsOf_33 (by decide) ?_
  exact hk (q0 + q1, l3 + 1) (Option.some.inj hf).symm
set_option maxRecDepth 100000 in
set_option maxHeartbeats 4000000 in
theorem tX2_doorsOf_4 {p : Program} {l : Launch} {e : Env} {s : State} {m : MethodId} {args : Array Value} {below : List Frame} {meth : Method} {c : Code} {g : GE} {B : Nat}  {h : ST} {o : Nat} (ho_o : o < 395) (hk_o : KC o = (1, 0)) {l1 : Int32} {Q : State → Prop} {x : Int32} {nf : Nat} {s0 : (Int32 × Int32)} (F : Fx p s m args meth c cX2_doorsOf 4 "DustParish$Facts" 395 g B) (hX0 : V p l e 2 0 s m args below meth c Q KC 395 g B 4 0 h 36 [(2, .int x)] []) (hl : lp nf (fX2_doorsOf_4 h o l1) s0 = some x) : V p l e 2 0 s m args below meth c Q KC 395 g B 4 0 h 4 [(0, .ref (gA g o)), (1, .int l1), (2, .int s0.1), (3, .int s0.2)] [] := by
  refine lp_ind (P := fun s0 => V p l e 2 0 s m args below meth c Q KC 395 g B 4 0 h 4 [(0, .ref (gA g o)), (1, .int l1), (2, .int s0.1), (3, .int s0.2)] []) ?_ nf s0 hl
  intro s1 y hf hk hx
  have hx0 : ∀ v : Int32, y = Sum.inr v → V p l e 2 0 s m args below meth c Q KC 395 g B 4 0 h 36 [(2, .int v)] [] := fun v e9 => by rw [hx v e9]; exact hX0
  unfold fX2_doorsOf_4 at hf
  refine v_iload_n (pc := 4) (j := 3) F dX2_doorsOf_4 rfl rfl ?_
  refine v_aload_n (pc := 5) (j := 0) F dX2_doorsOf_5 rfl rfl ?_
  refine v_ifl (pc := 6) F fl_X2_62 dX2_doorsOf_6 ho_o hk_o fv_1_5 ?_
  refine v_icmp_ge (pc := 9) (tgt := 36) F dX2_doorsOf_9 (by decide) (fun c1 => ?_) (fun c1 => ?_)
  · have hf := ite_t hf c1
    refine V.sub (lv' := [(2, .int s1.1)]) [2] rfl ?_
    exact hx0 s1.1 (Option.some.inj hf).symm
  · have hf := ite_f hf c1
    refine v_iload_n (pc := 12) (j := 2) F dX2_doorsOf_12 rfl rfl ?_
    refine v_aload_n (pc := 13) (j := 0) F dX2_doorsOf_13 rfl rfl ?_
    refine v_iload_n (pc := 14) (j := 3) F dX2_doorsOf_14 rfl rfl ?_
    refine v_iload_n (pc := 15) (j := 1) F dX2_doorsOf_15 rfl rfl ?_
    obtain ⟨r2, e3, hf⟩ := bnd_some hf
    refine v_callVi (pc := 16) (As := [.int s1.2, .int l1]) F cl_X2_94 dX2_doorsOf_16 (kX2_behind ho_o hk_o e3) ho_o hk_o rc_1 rfl rfl (Nat.le_of_ble_eq_true rfl) (by decide) (Nat.zero_le _) ?_
    refine v_iconst (pc := 19) (v := (-1)) F dX2_doorsOf_19 ic_m1 ?_
    refine v_icmp_eq (pc := 20) (tgt := 27) F dX2_doorsOf_20 (by decide) (fun c4 => ?_) (fun c4 => ?_)
    · have hf := ite_t hf c4
      refine v_iconst (pc := 27) (v := 0) F dX2_doorsOf_27 ic_0 ?_
      refine V.sub (lv' := [(0, .ref (gA g o)), (1, .int l1), (3, .int s1.2)]) [0, 1, 3] rfl ?_
      exact tX2_doorsOf_28 ho_o hk_o F hk hx0 hf
    · have hf := ite_f hf c4
      refine v_iconst (pc := 23) (v := 1) F dX2_doorsOf_23 ic_1 ?_
      refine v_goto (pc := 24) (tgt := 28) F dX2_doorsOf_24 (by decide) ?_
      refine V.sub (lv' := [(0, .ref (gA g o)), (1, .int l1), (3, .int s1.2)]) [0, 1, 3] rfl ?_
      exact tX2_doorsOf_28 ho_o hk_o F hk hx0 hf
set_option maxRecDepth 100000 in
set_option maxHeartbeats 4000000 in
theorem kX2_doorsOf {l : Launch} {g : GE} {B : Nat} {h : ST} {o : Nat} (ho_o : o < 395) (hk_o : KC o = (1, 0)) {a1 : Int32} {y : Int32} (hf : fX2_doorsOf h o a1 = some y) : CT l yX2_doorsOf cX2_doorsOf 4 (some .int) 2 KC 395 g B [.ref (gA g o), .int a1] h (some (.int y)) h := by
  refine CT.of pn_X2 (Nat.le_of_ble_eq_true rfl) ?_
  intro p e s m below meth c hr F
  have F : Fx p s m _ meth c cX2_doorsOf 4 "DustParish$Facts" 395 g B := F
  refine V_lv (lv' := [(0, .ref (gA g o)), (1, .int a1)]) rfl ?_
  unfold fX2_doorsOf at hf
  refine v_iconst (pc := 0) (v := 0) F dX2_doorsOf_0 ic_0 ?_
  refine v_istore_n (pc := 1) (lv' := [(0, .ref (gA g o)), (1, .int a1), (2, .int 0)]) F dX2_doorsOf_1 rfl (by decide) rfl ?_
  refine v_iconst (pc := 2) (v := 0) F dX2_doorsOf_2 ic_0 ?_
  refine v_istore_n (pc := 3) (lv' := [(0, .ref (gA g o)), (1, .int a1), (2, .int 0), (3, .int 0)]) F dX2_doorsOf_3 rfl (by decide) rfl ?_
  obtain ⟨x5, e6, hf⟩ := bnd_some hf
  refine tX2_doorsOf_4 (s0 := (0, 0)) ho_o hk_o F ?_ e6
  refine v_iload_n (pc := 36) (j := 0) F dX2_doorsOf_36 rfl rfl ?_
  exact v_iret (pc := 37) F hr dX2_doorsOf_37 (Option.some.inj hf) rfl (Nat.zero_le _)
def fX10_room (h : ST) (a1 : Int32) (a2 : Int32) : Option ((Int32 ⊕ Nat) × ST) :=
  bnd (fX10_needRoom h a1) fun r1 =>
  sm r1 (fun _ => if a2 = 0 then
  bnd (rf KC 395 1 (h 0 3)) fun f4 =>
    bnd (rd 9 (h (f4 + 1)) a1) fun v6 =>
    some (.inl v6, h)
  else
  if a2 = 1 then
  bnd (rf KC 395 1 (h 0 3)) fun f9 =>
    bnd (rd 9 (h (f9 + 2)) a1) fun v11 =>
    some (.inl v11, h)
  else
  if a2 = 2 then
  bnd (rd 9 (h 44) a1) fun v14 =>
    some (.inl v14, h)
  else
  if a2 = 3 then
  bnd (rf KC 395 1 (h 0 3)) fun f17 =>
    bnd (rd 9 (h (f17 + 4)) a1) fun v19 =>
    some (.inl v19, h)
  else
  if a2 = 4 then
  bnd (rd 9 (h 45) a1) fun v22 =>
    some (.inl v22, h)
  else
  if a2 = 5 then
  bnd (rf KC 395 1 (h 0 3)) fun f25 =>
    bnd (fX1_titheOf h f25 43 a1) fun r27 =>
    some (.inl r27.1, r27.2)
  else
  if a2 = 6 then
  bnd (rf KC 395 1 (h 0 3)) fun f30 =>
    bnd (fX2_doorsOf h f30 a1) fun r32 =>
    some (.inl r32, h)
  else
  some (.inr 1, h)) (fun r1 => some (.inr r1, h))
set_option maxRecDepth 100000 in
set_option maxHeartbeats 4000000 in
theorem kX10_room {l : Launch} {g : GE} {B : Nat} {h : ST} {a1 : Int32} {a2 : Int32} {y : (Int32 ⊕ Nat) × ST} (hT : l.stackTraces = false) (hf : fX10_room h a1 a2 = some y) : XT l yX10_room cX10_room 3 (some .int) 9 2 KC 395 g B [.ref (gA g 0), .int a1, .int a2] h (ocI y.1) y.2 := by
  refine XT.of pn_X10 (Nat.le_of_ble_eq_true rfl) ?_
  intro p e s m below meth c hr hex F
  have F : Fx p s m _ meth c cX10_room 3 "DustParish" 395 g B := F
  refine V_lv (lv' := [(0, .ref (gA g 0)), (1, .int a1), (2, .int a2)]) rfl ?_
  unfold fX10_room at hf
  refine v_aload_n (pc := 0) (j := 0) F dX10_room_0 rfl rfl ?_
  refine v_iload_n (pc := 1) (j := 1) F dX10_room_1 rfl rfl ?_
  obtain ⟨r1, e2, hf⟩ := bnd_some hf
  rcases r1 with v9 | r1
  · have hf := sm_l hf
    refine v_xcallV (pc := 2) (As := [.int a1]) F cl_X10_162 dX10_room_2 (kX10_needRoom hT e2) kc_0.1 kc_0.2 rc_9 rfl rfl (Nat.le_of_ble_eq_true rfl) (by decide) (by decide) ?_
    refine v_iload_n (pc := 5) (j := 2) F dX10_room_5 rfl rfl ?_
    by_cases c3 : a2 = 0
    · have hf := ite_t hf c3
      refine v_tabIn (pc := 6) (off := 42) (tgt := 48) F dX10_room_6 (by rw [c3]; decide) (by rw [c3]; decide) (by rw [c3]; rfl) (by decide) ?_
      refine v_aload_n (pc := 48) (j := 0) F dX10_room_48 rfl rfl ?_
      obtain ⟨f4, e5, hf⟩ := bnd_some hf
      obtain ⟨ho_f4, hk_f4, e5⟩ := rf_in e5
      refine v_ifl (pc := 49) F fl_X10_23 dX10_room_49 kc_0.1 kc_0.2 (fv_9_3 e5) ?_
      refine v_ifl (pc := 52) F fl_X10_165 dX10_room_52 ho_f4 hk_f4 fv_1_1 ?_
      refine v_iload_n (pc := 55) (j := 1) F dX10_room_55 rfl rfl ?_
      obtain ⟨v6, e7, hf⟩ := bnd_some hf
      refine v_iald (pc := 56) F dX10_room_56 (ly_1_1 ho_f4 hk_f4).1 (ly_1_1 ho_f4 hk_f4).2 e7 ?_
      exact v_xiret (pc := 57) F hr dX10_room_57 (some_fst hf) (some_snd hf) (by decide)
    have hf := ite_f hf c3
    by_cases c8 : a2 = 1
    · have hf := ite_t hf c8
      refine v_tabIn (pc := 6) (off := 52) (tgt := 58) F dX10_room_6 (by rw [c8]; decide) (by rw [c8]; decide) (by rw [c8]; rfl) (by decide) ?_
      refine v_aload_n (pc := 58) (j := 0) F dX10_room_58 rfl rfl ?_
      obtain ⟨f9, e10, hf⟩ := bnd_some hf
      obtain ⟨ho_f9, hk_f9, e10⟩ := rf_in e10
      refine v_ifl (pc := 59) F fl_X10_23 dX10_room_59 kc_0.1 kc_0.2 (fv_9_3 e10) ?_
      refine v_ifl (pc := 62) F fl_X10_168 dX10_room_62 ho_f9 hk_f9 fv_1_2 ?_
      refine v_iload_n (pc := 65) (j := 1) F dX10_room_65 rfl rfl ?_
      obtain ⟨v11, e12, hf⟩ := bnd_some hf
      refine v_iald (pc := 66) F dX10_room_66 (ly_1_2 ho_f9 hk_f9).1 (ly_1_2 ho_f9 hk_f9).2 e12 ?_
      exact v_xiret (pc := 67) F hr dX10_room_67 (some_fst hf) (some_snd hf) (by decide)
    have hf := ite_f hf c8
    by_cases c13 : a2 = 2
    · have hf := ite_t hf c13
      refine v_tabIn (pc := 6) (off := 62) (tgt := 68) F dX10_room_6 (by rw [c13]; decide) (by rw [c13]; decide) (by rw [c13]; rfl) (by decide) ?_
      refine v_aload_n (pc := 68) (j := 0) F dX10_room_68 rfl rfl ?_
      refine v_ifl (pc := 69) F fl_X10_42 dX10_room_69 kc_0.1 kc_0.2 fv_9_6 ?_
      refine v_ifl (pc := 72) F fl_X10_122 dX10_room_72 kc_42.1 kc_42.2 fv_2_0 ?_
      refine v_ifl (pc := 75) F fl_X10_171 dX10_room_75 kc_43.1 kc_43.2 fv_7_3 ?_
      refine v_iload_n (pc := 78) (j := 1) F dX10_room_78 rfl rfl ?_
      obtain ⟨v14, e15, hf⟩ := bnd_some hf
      refine v_iald (pc := 79) F dX10_room_79 kc_44.1 kc_44.2 e15 ?_
      exact v_xiret (pc := 80) F hr dX10_room_80 (some_fst hf) (some_snd hf) (by decide)
    have hf := ite_f hf c13
    by_cases c16 : a2 = 3
    · have hf := ite_t hf c16
      refine v_tabIn (pc := 6) (off := 75) (tgt := 81) F dX10_room_6 (by rw [c16]; decide) (by rw [c16]; decide) (by rw [c16]; rfl) (by decide) ?_
      refine v_aload_n (pc := 81) (j := 0) F dX10_room_81 rfl rfl ?_
      obtain ⟨f17, e18, hf⟩ := bnd_some hf
      obtain ⟨ho_f17, hk_f17, e18⟩ := rf_in e18
      refine v_ifl (pc := 82) F fl_X10_23 dX10_room_82 kc_0.1 kc_0.2 (fv_9_3 e18) ?_
      refine v_ifl (pc := 85) F fl_X10_174 dX10_room_85 ho_f17 hk_f17 fv_1_4 ?_
      refine v_iload_n (pc := 88) (j := 1) F dX10_room_88 rfl rfl ?_
      obtain ⟨v19, e20, hf⟩ := bnd_some hf
      refine v_iald (pc := 89) F dX10_room_89 (ly_1_4 ho_f17 hk_f17).1 (ly_1_4 ho_f17 hk_f17).2 e20 ?_
      exact v_xiret (pc := 90) F hr dX10_room_90 (some_fst hf) (some_snd hf) (by decide)
    have hf := ite_f hf c16
    by_cases c21 : a2 = 4
    · have hf := ite_t hf c21
      refine v_tabIn (pc := 6) (off := 85) (tgt := 91) F dX10_room_6 (by rw [c21]; decide) (by rw [c21]; decide) (by rw [c21]; rfl) (by decide) ?_
      refine v_aload_n (pc := 91) (j := 0) F dX10_room_91 rfl rfl ?_
      refine v_ifl (pc := 92) F fl_X10_42 dX10_room_92 kc_0.1 kc_0.2 fv_9_6 ?_
      refine v_ifl (pc := 95) F fl_X10_122 dX10_room_95 kc_42.1 kc_42.2 fv_2_0 ?_
      refine v_ifl (pc := 98) F fl_X10_177 dX10_room_98 kc_43.1 kc_43.2 fv_7_4 ?_
      refine v_iload_n (pc := 101) (j := 1) F dX10_room_101 rfl rfl ?_
      obtain ⟨v22, e23, hf⟩ := bnd_some hf
      refine v_iald (pc := 102) F dX10_room_102 kc_45.1 kc_45.2 e23 ?_
      exact v_xiret (pc := 103) F hr dX10_room_103 (some_fst hf) (some_snd hf) (by decide)
    have hf := ite_f hf c21
    by_cases c24 : a2 = 5
    · have hf := ite_t hf c24
      refine v_tabIn (pc := 6) (off := 98) (tgt := 104) F dX10_room_6 (by rw [c24]; decide) (by rw [c24]; decide) (by rw [c24]; rfl) (by decide) ?_
      refine v_aload_n (pc := 104) (j := 0) F dX10_room_104 rfl rfl ?_
      obtain ⟨f25, e26, hf⟩ := bnd_some hf
      obtain ⟨ho_f25, hk_f25, e26⟩ := rf_in e26
      refine v_ifl (pc := 105) F fl_X10_23 dX10_room_105 kc_0.1 kc_0.2 (fv_9_3 e26) ?_
      refine v_aload_n (pc := 108) (j := 0) F dX10_room_108 rfl rfl ?_
      refine v_ifl (pc := 109) F fl_X10_42 dX10_room_109 kc_0.1 kc_0.2 fv_9_6 ?_
      refine v_ifl (pc := 112) F fl_X10_122 dX10_room_112 kc_42.1 kc_42.2 fv_2_0 ?_
      refine v_iload_n (pc := 115) (j := 1) F dX10_room_115 rfl rfl ?_
      obtain ⟨r27, e28, hf⟩ := bnd_some hf
      refine v_callSi (pc := 116) (As := [.ref (gA g f25), .ref (gA g 43), .int a1]) F cl_X10_180 dX10_room_116 (kX1_titheOf ho_f25 hk_f25 kc_43.1 kc_43.2 e28) rfl rfl (Nat.le_of_ble_eq_true rfl) (by decide) (by decide) ?_
      exact v_xiret (pc := 119) F hr dX10_room_119 (some_fst hf) (some_snd hf) (by decide)
    have hf := ite_f hf c24
    by_cases c29 : a2 = 6
    · have hf := ite_t hf c29
      refine v_tabIn (pc := 6) (off := 114) (tgt := 120) F dX10_room_6 (by rw [c29]; decide) (by rw [c29]; decide) (by rw [c29]; rfl) (by decide) ?_
      refine v_aload_n (pc := 120) (j := 0) F dX10_room_120 rfl rfl ?_
      obtain ⟨f30, e31, hf⟩ := bnd_some hf
      obtain ⟨ho_f30, hk_f30, e31⟩ := rf_in e31
      refine v_ifl (pc := 121) F fl_X10_23 dX10_room_121 kc_0.1 kc_0.2 (fv_9_3 e31) ?_
      refine v_iload_n (pc := 124) (j := 1) F dX10_room_124 rfl rfl ?_
      obtain ⟨r32, e33, hf⟩ := bnd_some hf
      refine v_callVi (pc := 125) (As := [.int a1]) F cl_X10_184 dX10_room_125 (kX2_doorsOf ho_f30 hk_f30 e33) ho_f30 hk_f30 rc_1 rfl rfl (Nat.le_of_ble_eq_true rfl) (by decide) (by decide) ?_
      exact v_xiret (pc := 128) F hr dX10_room_128 (some_fst hf) (some_snd hf) (by decide)
    have hf := ite_f hf c29
    have n_c3 : ¬ (a2).toInt = 0 := lv_neT c3 rfl
    have n_c8 : ¬ (a2).toInt = 1 := lv_neT c8 rfl
    have n_c13 : ¬ (a2).toInt = 2 := lv_neT c13 rfl
    have n_c16 : ¬ (a2).toInt = 3 := lv_neT c16 rfl
    have n_c21 : ¬ (a2).toInt = 4 := lv_neT c21 rfl
    have n_c24 : ¬ (a2).toInt = 5 := lv_neT c24 rfl
    have n_c29 : ¬ (a2).toInt = 6 := lv_neT c29 rfl
    refine v_tabOut (pc := 6) (tgt := 129) F dX10_room_6 (by omega) (by decide) ?_
    exact v_throw0 (pc := 129) (E := xNS) F hT xw_NS hex dX10_room_129 dX10_room_132 dX10_room_133 dX10_room_136 (congrArg ocI (some_fst hf)) (some_snd hf) (by decide) (Nat.le_of_ble_eq_true rfl) (by decide)
  · have hf := sm_r hf
    exact v_xcallX (pc := 2) (As := [.int a1]) F cl_X10_162 dX10_room_2 (kX10_needRoom hT e2) kc_0.1 kc_0.2 rc_9 rfl rfl (Nat.le_of_ble_eq_true rfl) (by decide) (by decide) hex (congrArg ocI (some_fst hf)) (some_snd hf)
def fX10_walkTo_82 (h : ST) (l2 : Int32) (l3 : Int32) (l4 : Int32) (l5 : Int32) : Option ((Int32 × Int32) ⊕ Int32) :=
  some (.inl (l4, l5 + 1))
def fX10_walkTo_20 (h : ST) (l2 : Int32) (l3 : Int32) (s1 : (Int32 × Int32)) : Option ((Int32 × Int32) ⊕ Int32) :=
  bnd (rf KC 395 1 (h 0 3)) fun f2 =>
  if (h f2 0) ≤ s1.2 then
  some (.inr s1.1)
  else
  bnd (rd 4608 (h 394) ((l2 * 9) + s1.2)) fun v5 =>
    bnd (rf KC 395 1 (h 0 3)) fun f7 =>
    bnd (fX2_wayFrom h f7 s1.2 l3) fun r9 =>
    if v5 = (-1) then
    fX10_walkTo_82 h l2 l3 s1.1 s1.2
    else
    if r9 = (-1) then
      fX10_walkTo_82 h l2 l3 s1.1 s1.2
      else
      bnd (fX10_shorter h s1.1 (v5 + r9)) fun r13 =>
        fX10_walkTo_82 h l2 l3 r13 s1.2
def fX10_walkTo (h : ST) (a1 : Int32) (a2 : Int32) (a3 : Int32) : Option (Int32) :=
  if a2 = 0 then
  bnd (rf KC 395 1 (h 0 3)) fun f17 =>
    bnd (fX2_wayFrom h f17 a1 a3) fun r19 =>
    some r19
  else
  bnd (lp FU (fX10_walkTo_20 h a2 a3) ((-1), 0)) fun x15 =>
    some x15
set_option maxRecDepth 100000 in
set_option maxHeartbeats 4000000 in
theorem tX10_walkTo_82 {p : Program} {l : Launch} {e : Env} {s : State} {m : MethodId} {args : Array Value} {below : List Frame} {meth : Method} {c : Code} {g : GE} {B : Nat} {h : ST}  {l2 : Int32} {l3 : Int32} {l4 : Int32} {l5 : Int32} (F : Fx p s m args meth c cX10_walkTo 8 "DustParish" 395 g B)
    {Q : State → Prop} {y : (Int32 × Int32) ⊕ Int32} (hk : ∀ v : (Int32 × Int32), y = Sum.inl v → V p l e 2 0 s m args below meth c Q KC 395 g B 8 0 h 20 [(0, .ref (gA g 0)), (2, .int l2), (3, .int l3), (4, .int v.1), (5, .int v.2)] []) (hx0 : ∀ v : Int32, y = Sum.inr v → V p l e 2 0 s m args below meth c Q KC 395 g B 8 0 h 88 [(4, .int v)] []) (hf : fX10_walkTo_82 h l2 l3 l4 l5 = some y) : V p l e 2 0 s m args below meth c Q KC 395 g B 8 0 h 82 [(0, .ref (gA g 0)), (2, .int l2), (3, .int l3), (4, .int l4), (5, .int l5)] [] := by
  unfold fX10_walkTo_82 at hf
  refine v_iinc (pc := 82) (j := 4) (v := l5 + 1) (lv' := [(0, .ref (gA g 0)), (2, .int l2), (3, .int l3), (4, .int l4), (5, .int (l5 + 1))]) F dX10_walkTo_82 rfl (congrArg (fun z => l5 + z) ic_1) (by decide) rfl ?_
  refine v_goto (pc := 85) (tgt := 20) F dX10_walkTo_85 (by decide) ?_
  exact hk (l4, l5 + 1) (Option.some.inj hf).symm
set_option maxRecDepth 100000 in
set_option maxHeartbeats 4000000 in
theorem tX10_walkTo_20 {p : Program} {l : Launch} {e : Env} {s : State} {m : MethodId} {args : Array Value} {below : List Frame} {meth : Method} {c : Code} {g : GE} {B : Nat}  {h : ST}  {l2 : Int32} {l3 : Int32} {Q : State → Prop} {x : Int32} {nf : Nat} {s0 : (Int32 × Int32)} (F : Fx p s m args meth c cX10_walkTo 8 "DustParish" 395 g B) (hX0 : V p l e 2 0 s m args below meth c Q KC 395 g B 8 0 h 88 [(4, .int x)] []) (hl : lp nf (fX10_walkTo_20 h l2 l3) s0 = some x) : V p l e 2 0 s m args below meth c Q KC 395 g B 8 0 h 20 [(0, .ref (gA g 0)), (2, .int l2), (3, .int l3), (4, .int s0.1), (5, .int s0.2)] [] := by
  refine lp_ind (P := fun s0 => V p l e 2 0 s m args below meth c Q KC 395 g B 8 0 h 20 [(0, .ref (gA g 0)), (2, .int l2), (3, .int l3), (4, .int s0.1), (5, .int s0.2)] []) ?_ nf s0 hl
  intro s1 y hf hk hx
  have hx0 : ∀ v : Int32, y = Sum.inr v → V p l e 2 0 s m args below meth c Q KC 395 g B 8 0 h 88 [(4, .int v)] [] := fun v e9 => by rw [hx v e9]; exact hX0
  unfold fX10_walkTo_20 at hf
  refine v_iload (pc := 20) (j := 4) F dX10_walkTo_20 rfl ?_
  refine v_aload_n (pc := 22) (j := 0) F dX10_walkTo_22 rfl rfl ?_
  obtain ⟨f2, e3, hf⟩ := bnd_some hf
  obtain ⟨ho_f2, hk_f2, e3⟩ := rf_in e3
  refine v_ifl (pc := 23) F fl_X10_23 dX10_walkTo_23 kc_0.1 kc_0.2 (fv_9_3 e3) ?_
  refine v_ifl (pc := 26) F fl_X10_104 dX10_walkTo_26 ho_f2 hk_f2 fv_1_0 ?_
  refine v_icmp_ge (pc := 29) (tgt := 88) F dX10_walkTo_29 (by decide) (fun c4 => ?_) (fun c4 => ?_)
  · have hf := ite_t hf c4
    refine V.sub (lv' := [(4, .int s1.1)]) [3] rfl ?_
    exact hx0 s1.1 (Option.some.inj hf).symm
  · have hf := ite_f hf c4
    refine v_aload_n (pc := 32) (j := 0) F dX10_walkTo_32 rfl rfl ?_
    refine v_ifl (pc := 33) F fl_X10_73 dX10_walkTo_33 kc_0.1 kc_0.2 fv_9_14 ?_
    refine v_iload_n (pc := 36) (j := 1) F dX10_walkTo_36 rfl rfl ?_
    refine v_bipush (pc := 37) (v := 9) F dX10_walkTo_37 bp_9 ?_
    refine v_imul (pc := 39) F dX10_walkTo_39 ?_
    refine v_iload (pc := 40) (j := 4) F dX10_walkTo_40 rfl ?_
    refine v_iadd (pc := 42) F dX10_walkTo_42 ?_
    obtain ⟨v5, e6, hf⟩ := bnd_some hf
    refine v_iald (pc := 43) F dX10_walkTo_43 kc_394.1 kc_394.2 e6 ?_
    refine v_istore (pc := 44) (lv' := [(0, .ref (gA g 0)), (2, .int l2), (3, .int l3), (4, .int s1.1), (5, .int s1.2), (6, .int v5)]) F dX10_walkTo_44 (by decide) rfl ?_
    refine v_aload_n (pc := 46) (j := 0) F dX10_walkTo_46 rfl rfl ?_
    obtain ⟨f7, e8, hf⟩ := bnd_some hf
    obtain ⟨ho_f7, hk_f7, e8⟩ := rf_in e8
    refine v_ifl (pc := 47) F fl_X10_23 dX10_walkTo_47 kc_0.1 kc_0.2 (fv_9_3 e8) ?_
    refine v_iload (pc := 50) (j := 4) F dX10_walkTo_50 rfl ?_
    refine v_iload_n (pc := 52) (j := 2) F dX10_walkTo_52 rfl rfl ?_
    obtain ⟨r9, e10, hf⟩ := bnd_some hf
    refine v_callVi (pc := 53) (As := [.int s1.2, .int l3]) F cl_X10_188 dX10_walkTo_53 (kX2_wayFrom ho_f7 hk_f7 e10) ho_f7 hk_f7 rc_1 rfl rfl (Nat.le_of_ble_eq_true rfl) (by decide) (Nat.zero_le _) ?_
    refine v_istore (pc := 56) (lv' := [(0, .ref (gA g 0)), (2, .int l2), (3, .int l3), (4, .int s1.1), (5, .int s1.2), (6, .int v5), (7, .int r9)]) F dX10_walkTo_56 (by decide) rfl ?_
    refine v_iload (pc := 58) (j := 5) F dX10_walkTo_58 rfl ?_
    refine v_iconst (pc := 60) (v := (-1)) F dX10_walkTo_60 ic_m1 ?_
    refine v_icmp_eq (pc := 61) (tgt := 82) F dX10_walkTo_61 (by decide) (fun c11 => ?_) (fun c11 => ?_)
    · have hf := ite_t hf c11
      refine V.sub (lv' := [(0, .ref (gA g 0)), (2, .int l2), (3, .int l3), (4, .int s1.1), (5, .int s1.2)]) [0, 1, 2, 3, 4] rfl ?_
      exact tX10_walkTo_82 F hk hx0 hf
    · have hf := ite_f hf c11
      refine v_iload (pc := 64) (j := 6) F dX10_walkTo_64 rfl ?_
      refine v_iconst (pc := 66) (v := (-1)) F dX10_walkTo_66 ic_m1 ?_
      refine v_icmp_eq (pc := 67) (tgt := 82) F dX10_walkTo_67 (by decide) (fun c12 => ?_) (fun c12 => ?_)
      · have hf := ite_t hf c12
        refine V.sub (lv' := [(0, .ref (gA g 0)), (2, .int l2), (3, .int l3), (4, .int s1.1), (5, .int s1.2)]) [0, 1, 2, 3, 4] rfl ?_
        exact tX10_walkTo_82 F hk hx0 hf
      · have hf := ite_f hf c12
        refine v_iload (pc := 70) (j := 3) F dX10_walkTo_70 rfl ?_
        refine v_iload (pc := 72) (j := 5) F dX10_walkTo_72 rfl ?_
        refine v_iload (pc := 74) (j := 6) F dX10_walkTo_74 rfl ?_
        refine v_iadd (pc := 76) F dX10_walkTo_76 ?_
        obtain ⟨r13, e14, hf⟩ := bnd_some hf
        refine v_callSi (pc := 77) (As := [.int s1.1, .int (v5 + r9)]) F cl_X10_279 dX10_walkTo_77 (kX10_shorter e14) rfl rfl (Nat.le_of_ble_eq_true rfl) (by decide) (Nat.zero_le _) ?_
        refine v_istore (pc := 80) (lv' := [(0, .ref (gA g 0)), (2, .int l2), (3, .int l3), (4, .int r13), (5, .int s1.2), (6, .int v5), (7, .int r9)]) F dX10_walkTo_80 (by decide) rfl ?_
        refine V.sub (lv' := [(0, .ref (gA g 0)), (2, .int l2), (3, .int l3), (4, .int r13), (5, .int s1.2)]) [0, 1, 2, 3, 4] rfl ?_
        exact tX10_walkTo_82 F hk hx0 hf
set_option maxRecDepth 100000 in
set_option maxHeartbeats 4000000 in
theorem kX10_walkTo {l : Launch} {g : GE} {B : Nat} {h : ST} {a1 : Int32} {a2 : Int32} {a3 : Int32} {y : Int32} (hf : fX10_walkTo h a1 a2 a3 = some y) : CT l yX10_walkTo cX10_walkTo 8 (some .int) 2 KC 395 g B [.ref (gA g 0), .int a1, .int a2, .int a3] h (some (.int y)) h := by
  refine CT.of pn_X10 (Nat.le_of_ble_eq_true rfl) ?_
  intro p e s m below meth c hr F
  have F : Fx p s m _ meth c cX10_walkTo 8 "DustParish" 395 g B := F
  refine V_lv (lv' := [(0, .ref (gA g 0)), (1, .int a1), (2, .int a2), (3, .int a3)]) rfl ?_
  unfold fX10_walkTo at hf
  refine v_iload_n (pc := 0) (j := 2) F dX10_walkTo_0 rfl rfl ?_
  refine v_if_ne (pc := 1) (tgt := 14) F dX10_walkTo_1 (by decide) (fun c1 => ?_) (fun c1 => ?_)
  · have hf := ite_f hf c1
    refine v_iconst (pc := 14) (v := (-1)) F dX10_walkTo_14 ic_m1 ?_
    refine v_istore (pc := 15) (lv' := [(0, .ref (gA g 0)), (1, .int a1), (2, .int a2), (3, .int a3), (4, .int (-1))]) F dX10_walkTo_15 (by decide) rfl ?_
    refine v_iconst (pc := 17) (v := 0) F dX10_walkTo_17 ic_0 ?_
    refine v_istore (pc := 18) (lv' := [(0, .ref (gA g 0)), (1, .int a1), (2, .int a2), (3, .int a3), (4, .int (-1)), (5, .int 0)]) F dX10_walkTo_18 (by decide) rfl ?_
    obtain ⟨x15, e16, hf⟩ := bnd_some hf
    refine V.sub (lv' := [(0, .ref (gA g 0)), (2, .int a2), (3, .int a3), (4, .int (-1)), (5, .int 0)]) [0, 2, 3, 4, 5] rfl ?_
    refine tX10_walkTo_20 (s0 := ((-1), 0)) F ?_ e16
    refine v_iload (pc := 88) (j := 0) F dX10_walkTo_88 rfl ?_
    exact v_iret (pc := 90) F hr dX10_walkTo_90 (Option.some.inj hf) rfl (Nat.zero_le _)
  · have hf := ite_t hf c1
    refine v_aload_n (pc := 4) (j := 0) F dX10_walkTo_4 rfl rfl ?_
    obtain ⟨f17, e18, hf⟩ := bnd_some hf
    obtain ⟨ho_f17, hk_f17, e18⟩ := rf_in e18
    refine v_ifl (pc := 5) F fl_X10_23 dX10_walkTo_5 kc_0.1 kc_0.2 (fv_9_3 e18) ?_
    refine v_iload_n (pc := 8) (j := 1) F dX10_walkTo_8 rfl rfl ?_
    refine v_iload_n (pc := 9) (j := 3) F dX10_walkTo_9 rfl rfl ?_
    obtain ⟨r19, e20, hf⟩ := bnd_some hf
    refine v_callVi (pc := 10) (As := [.int a1, .int a3]) F cl_X10_188 dX10_walkTo_10 (kX2_wayFrom ho_f17 hk_f17 e20) ho_f17 hk_f17 rc_1 rfl rfl (Nat.le_of_ble_eq_true rfl) (by decide) (Nat.zero_le _) ?_
    exact v_iret (pc := 13) F hr dX10_walkTo_13 (Option.some.inj hf) rfl (Nat.zero_le _)
def fX10_walkAll_77 (h : ST) (l1 : Int32) (l2 : Int32) (l3 : Int32) (l4 : Int32) : Option ((ST × Int32) ⊕ ST) :=
  some (.inl (h, l4 + 1))
def fX10_walkAll_29 (l1 : Int32) (l2 : Int32) (l3 : Int32) (s1 : (ST × Int32)) : Option ((ST × Int32) ⊕ ST) :=
  bnd (rf KC 395 1 (s1.1 0 3)) fun f5 =>
  if (s1.1 f5 0) ≤ s1.2 then
  some (.inr s1.1)
  else
  if (l3 &&& ((1 : Int32) <<< (s1.2 &&& 31))) = 0 then
    fX10_walkAll_77 s1.1 l1 l2 l3 s1.2
    else
    bnd (fX10_walkTo s1.1 l1 (l3 &&& (((1 : Int32) <<< (s1.2 &&& 31)) ^^^ (-1))) s1.2) fun r9 =>
      bnd (wr 4608 s1.1 394 ((l3 * 9) + s1.2) r9) fun h11 =>
      fX10_walkAll_77 h11 l1 l2 l3 s1.2
def fX10_walkAll_83 (h : ST) (l1 : Int32) (l2 : Int32) (l3 : Int32) : Option ((ST × Int32) ⊕ ST) :=
  some (.inl (h, l3 + 1))
def fX10_walkAll_10 (l1 : Int32) (l2 : Int32) (s1 : (ST × Int32)) : Option ((ST × Int32) ⊕ ST) :=
  if l2 < s1.2 then
  some (.inr s1.1)
  else
  if (s1.2 &&& (l2 ^^^ (-1))) = 0 then
    bnd (lp FU (fX10_walkAll_29 l1 l2 s1.2) (s1.1, 0)) fun x13 =>
      fX10_walkAll_83 x13 l1 l2 s1.2
    else
    fX10_walkAll_83 s1.1 l1 l2 s1.2
def fX10_walkAll (h : ST) (a1 : Int32) (a2 : Int32) : Option (ST) :=
  bnd (fJ7_fill_53178 h 394 4608 (-1)) fun r1 =>
  bnd (lp FU (fX10_walkAll_10 a1 a2) (r1, 1)) fun x15 =>
  some x15
set_option maxRecDepth 100000 in
set_option maxHeartbeats 4000000 in
theorem tX10_walkAll_77 {p : Program} {l : Launch} {e : Env} {s : State} {m : MethodId} {args : Array Value} {below : List Frame} {meth : Method} {c : Code} {g : GE} {B : Nat} {h : ST}  {l1 : Int32} {l2 : Int32} {l3 : Int32} {l4 : Int32} (F : Fx p s m args meth c cX10_walkAll 5 "DustParish" 395 g B)
    {Q : State → Prop} {y : (ST × Int32) ⊕ ST} (hk : ∀ v : (ST × Int32), y = Sum.inl v → V p l e 3 0 s m args below meth c Q KC 395 g B 5 0 v.1 29 [(0, .ref (gA g 0)), (1, .int l1), (2, .int l2), (3, .int l3), (4, .int v.2)] []) (hx0 : ∀ v : ST, y = Sum.inr v → V p l e 3 0 s m args below meth c Q KC 395 g B 5 0 v 83 [(0, .ref (gA g 0)), (1, .int l1), (2, .int l2), (3, .int l3)] []) (hf : fX10_walkAll_77 h l1 l2 l3 l4 = some y) : V p l e 3 0 s m args below meth c Q KC 395 g B 5 0 h 77 [(0, .ref (gA g 0)), (1, .int l1), (2, .int l2), (3, .int l3), (4, .int l4)] [] := by
  unfold fX10_walkAll_77 at hf
  refine v_iinc (pc := 77) (j := 4) (v := l4 + 1) (lv' := [(0, .ref (gA g 0)), (1, .int l1), (2, .int l2), (3, .int l3), (4, .int (l4 + 1))]) F dX10_walkAll_77 rfl (congrArg (fun z => l4 + z) ic_1) (by decide) rfl ?_
  refine v_goto (pc := 80) (tgt := 29) F dX10_walkAll_80 (by decide) ?_
  exact hk (h, l4 + 1) (Option.some.inj hf).symm
set_option maxRecDepth 100000 in
set_option maxHeartbeats 4000000 in
theorem tX10_walkAll_29 {p : Program} {l : Launch} {e : Env} {s : State} {m : MethodId} {args : Array Value} {below : List Frame} {meth : Method} {c : Code} {g : GE} {B : Nat}   {l1 : Int32} {l2 : Int32} {l3 : Int32} {Q : State → Prop} {x : ST} {nf : Nat} {s0 : (ST × Int32)} (F : Fx p s m args meth c cX10_walkAll 5 "DustParish" 395 g B) (hX0 : V p l e 3 0 s m args below meth c Q KC 395 g B 5 0 x 83 [(0, .ref (gA g 0)), (1, .int l1), (2, .int l2), (3, .int l3)] []) (hl : lp nf (fX10_walkAll_29 l1 l2 l3) s0 = some x) : V p l e 3 0 s m args below meth c Q KC 395 g B 5 0 s0.1 29 [(0, .ref (gA g 0)), (1, .int l1), (2, .int l2), (3, .int l3), (4, .int s0.2)] [] := by
  refine lp_ind (P := fun s0 => V p l e 3 0 s m args below meth c Q KC 395 g B 5 0 s0.1 29 [(0, .ref (gA g 0)), (1, .int l1), (2, .int l2), (3, .int l3), (4, .int s0.2)] []) ?_ nf s0 hl
  intro s1 y hf hk hx
  have hx0 : ∀ v : ST, y = Sum.inr v → V p l e 3 0 s m args below meth c Q KC 395 g B 5 0 v 83 [(0, .ref (gA g 0)), (1, .int l1), (2, .int l2), (3, .int l3)] [] := fun v e9 => by rw [hx v e9]; exact hX0
  unfold fX10_walkAll_29 at hf
  refine v_iload (pc := 29) (j := 4) F dX10_walkAll_29 rfl ?_
  refine v_aload_n (pc := 31) (j := 0) F dX10_walkAll_31 rfl rfl ?_
  obtain ⟨f5, e6, hf⟩ := bnd_some hf
  obtain ⟨ho_f5, hk_f5, e6⟩ := rf_in e6
  refine v_ifl (pc := 32) F fl_X10_23 dX10_walkAll_32 kc_0.1 kc_0.2 (fv_9_3 e6) ?_
  refine v_ifl (pc := 35) F fl_X10_104 dX10_walkAll_35 ho_f5 hk_f5 fv_1_0 ?_
  refine v_icmp_ge (pc := 38) (tgt := 83) F dX10_walkAll_38 (by decide) (fun c7 => ?_) (fun c7 => ?_)
  · have hf := ite_t hf c7
    refine V.sub (lv' := [(0, .ref (gA g 0)), (1, .int l1), (2, .int l2), (3, .int l3)]) [0, 1, 2, 3] rfl ?_
    exact hx0 s1.1 (Option.some.inj hf).symm
  · have hf := ite_f hf c7
    refine v_iload_n (pc := 41) (j := 3) F dX10_walkAll_41 rfl rfl ?_
    refine v_iconst (pc := 42) (v := 1) F dX10_walkAll_42 ic_1 ?_
    refine v_iload (pc := 43) (j := 4) F dX10_walkAll_43 rfl ?_
    refine v_ishl (pc := 45) F dX10_walkAll_45 ?_
    refine v_iand (pc := 46) F dX10_walkAll_46 ?_
    refine v_if_eq (pc := 47) (tgt := 77) F dX10_walkAll_47 (by decide) (fun c8 => ?_) (fun c8 => ?_)
    · have hf := ite_t hf c8
      exact tX10_walkAll_77 F hk hx0 hf
    · have hf := ite_f hf c8
      refine v_aload_n (pc := 50) (j := 0) F dX10_walkAll_50 rfl rfl ?_
      refine v_ifl (pc := 51) F fl_X10_73 dX10_walkAll_51 kc_0.1 kc_0.2 fv_9_14 ?_
      refine v_iload_n (pc := 54) (j := 3) F dX10_walkAll_54 rfl rfl ?_
      refine v_bipush (pc := 55) (v := 9) F dX10_walkAll_55 bp_9 ?_
      refine v_imul (pc := 57) F dX10_walkAll_57 ?_
      refine v_iload (pc := 58) (j := 4) F dX10_walkAll_58 rfl ?_
      refine v_iadd (pc := 60) F dX10_walkAll_60 ?_
      refine v_aload_n (pc := 61) (j := 0) F dX10_walkAll_61 rfl rfl ?_
      refine v_iload_n (pc := 62) (j := 1) F dX10_walkAll_62 rfl rfl ?_
      refine v_iload_n (pc := 63) (j := 3) F dX10_walkAll_63 rfl rfl ?_
      refine v_iconst (pc := 64) (v := 1) F dX10_walkAll_64 ic_1 ?_
      refine v_iload (pc := 65) (j := 4) F dX10_walkAll_65 rfl ?_
      refine v_ishl (pc := 67) F dX10_walkAll_67 ?_
      refine v_iconst (pc := 68) (v := (-1)) F dX10_walkAll_68 ic_m1 ?_
      refine v_ixor (pc := 69) F dX10_walkAll_69 ?_
      refine v_iand (pc := 70) F dX10_walkAll_70 ?_
      refine v_iload (pc := 71) (j := 4) F dX10_walkAll_71 rfl ?_
      obtain ⟨r9, e10, hf⟩ := bnd_some hf
      refine v_callVi (pc := 73) (As := [.int l1, .int (l3 &&& (((1 : Int32) <<< (s1.2 &&& 31)) ^^^ (-1))), .int s1.2]) F cl_X10_288 dX10_walkAll_73 (kX10_walkTo e10) kc_0.1 kc_0.2 rc_9 rfl rfl (Nat.le_of_ble_eq_true rfl) (by decide) (Nat.zero_le _) ?_
      obtain ⟨h11, e12, hf⟩ := bnd_some hf
      refine v_iast (pc := 76) F dX10_walkAll_76 kc_394.1 kc_394.2 e12 ?_
      exact tX10_walkAll_77 F hk hx0 hf
set_option maxRecDepth 100000 in
set_option maxHeartbeats 4000000 in
theorem tX10_walkAll_83 {p : Program} {l : Launch} {e : Env} {s : State} {m : MethodId} {args : Array Value} {below : List Frame} {meth : Method} {c : Code} {g : GE} {B : Nat} {h : ST}  {l1 : Int32} {l2 : Int32} {l3 : Int32} (F : Fx p s m args meth c cX10_walkAll 5 "DustParish" 395 g B)
    {Q : State → Prop} {y : (ST × Int32) ⊕ ST} (hk : ∀ v : (ST × Int32), y = Sum.inl v → V p l e 3 0 s m args below meth c Q KC 395 g B 5 0 v.1 10 [(0, .ref (gA g 0)), (1, .int l1), (2, .int l2), (3, .int v.2)] []) (hx0 : ∀ v : ST, y = Sum.inr v → V p l e 3 0 s m args below meth c Q KC 395 g B 5 0 v 89 [] []) (hf : fX10_walkAll_83 h l1 l2 l3 = some y) : V p l e 3 0 s m args below meth c Q KC 395 g B 5 0 h 83 [(0, .ref (gA g 0)), (1, .int l1), (2, .int l2), (3, .int l3)] [] := by
  unfold fX10_walkAll_83 at hf
  refine v_iinc (pc := 83) (j := 3) (v := l3 + 1) (lv' := [(0, .ref (gA g 0)), (1, .int l1), (2, .int l2), (3, .int (l3 + 1))]) F dX10_walkAll_83 rfl (congrArg (fun z => l3 + z) ic_1) (by decide) rfl ?_
  refine v_goto (pc := 86) (tgt := 10) F dX10_walkAll_86 (by decide) ?_
  exact hk (h, l3 + 1) (Option.some.inj hf).symm
set_option maxRecDepth 100000 in
set_option maxHeartbeats 4000000 in
theorem tX10_walkAll_10 {p : Program} {l : Launch} {e : Env} {s : State} {m : MethodId} {args : Array Value} {below : List Frame} {meth : Method} {c : Code} {g : GE} {B : Nat}   {l1 : Int32} {l2 : Int32} {Q : State → Prop} {x : ST} {nf : Nat} {s0 : (ST × Int32)} (F : Fx p s m args meth c cX10_walkAll 5 "DustParish" 395 g B) (hX0 : V p l e 3 0 s m args below meth c Q KC 395 g B 5 0 x 89 [] []) (hl : lp nf (fX10_walkAll_10 l1 l2) s0 = some x) : V p l e 3 0 s m args below meth c Q KC 395 g B 5 0 s0.1 10 [(0, .ref (gA g 0)), (1, .int l1), (2, .int l2), (3, .int s0.2)] [] := by
  refine lp_ind (P := fun s0 => V p l e 3 0 s m args below meth c Q KC 395 g B 5 0 s0.1 10 [(0, .ref (gA g 0)), (1, .int l1), (2, .int l2), (3, .int s0.2)] []) ?_ nf s0 hl
  intro s1 y hf hk hx
  have hx0 : ∀ v : ST, y = Sum.inr v → V p l e 3 0 s m args below meth c Q KC 395 g B 5 0 v 89 [] [] := fun v e9 => by rw [hx v e9]; exact hX0
  unfold fX10_walkAll_10 at hf
  refine v_iload_n (pc := 10) (j := 3) F dX10_walkAll_10 rfl rfl ?_
  refine v_iload_n (pc := 11) (j := 2) F dX10_walkAll_11 rfl rfl ?_
  refine v_icmp_gt (pc := 12) (tgt := 89) F dX10_walkAll_12 (by decide) (fun c3 => ?_) (fun c3 => ?_)
  · have hf := ite_t hf c3
    refine V.sub (lv' := []) [] rfl ?_
    exact hx0 s1.1 (Option.some.inj hf).symm
  · have hf := ite_f hf c3
    refine v_iload_n (pc := 15) (j := 3) F dX10_walkAll_15 rfl rfl ?_
    refine v_iload_n (pc := 16) (j := 2) F dX10_walkAll_16 rfl rfl ?_
    refine v_iconst (pc := 17) (v := (-1)) F dX10_walkAll_17 ic_m1 ?_
    refine v_ixor (pc := 18) F dX10_walkAll_18 ?_
    refine v_iand (pc := 19) F dX10_walkAll_19 ?_
    refine v_if_eq (pc := 20) (tgt := 26) F dX10_walkAll_20 (by decide) (fun c4 => ?_) (fun c4 => ?_)
    · have hf := ite_t hf c4
      refine v_iconst (pc := 26) (v := 0) F dX10_walkAll_26 ic_0 ?_
      refine v_istore (pc := 27) (lv' := [(0, .ref (gA g 0)), (1, .int l1), (2, .int l2), (3, .int s1.2), (4, .int 0)]) F dX10_walkAll_27 (by decide) rfl ?_
      obtain ⟨x13, e14, hf⟩ := bnd_some hf
      refine tX10_walkAll_29 (s0 := (s1.1, 0)) F ?_ e14
      exact tX10_walkAll_83 F hk hx0 hf
    · have hf := ite_f hf c4
      refine v_goto (pc := 23) (tgt := 83) F dX10_walkAll_23 (by decide) ?_
      exact tX10_walkAll_83 F hk hx0 hf
set_option maxRecDepth 100000 in
set_option maxHeartbeats 4000000 in
theorem kX10_walkAll {l : Launch} {g : GE} {B : Nat} {h : ST} {a1 : Int32} {a2 : Int32} {y : ST} (hf : fX10_walkAll h a1 a2 = some y) : CT l yX10_walkAll cX10_walkAll 5 none 3 KC 395 g B [.ref (gA g 0), .int a1, .int a2] h none y := by
  refine CT.of pn_X10 (Nat.le_of_ble_eq_true rfl) ?_
  intro p e s m below meth c hr F
  have F : Fx p s m _ meth c cX10_walkAll 5 "DustParish" 395 g B := F
  refine V_lv (lv' := [(0, .ref (gA g 0)), (1, .int a1), (2, .int a2)]) rfl ?_
  unfold fX10_walkAll at hf
  refine v_aload_n (pc := 0) (j := 0) F dX10_walkAll_0 rfl rfl ?_
  refine v_ifl (pc := 1) F fl_X10_73 dX10_walkAll_1 kc_0.1 kc_0.2 fv_9_14 ?_
  refine v_iconst (pc := 4) (v := (-1)) F dX10_walkAll_4 ic_m1 ?_
  obtain ⟨r1, e2, hf⟩ := bnd_some hf
  refine v_callSv (pc := 5) (As := [.ref (gA g 394), .int (-1)]) F cl_X10_282 dX10_walkAll_5 (kJ7_fill_53178 kc_394.1 kc_394.2 e2) rfl rfl (Nat.le_of_ble_eq_true rfl) (by decide) (Nat.zero_le _) ?_
  refine v_iconst (pc := 8) (v := 1) F dX10_walkAll_8 ic_1 ?_
  refine v_istore_n (pc := 9) (lv' := [(0, .ref (gA g 0)), (1, .int a1), (2, .int a2), (3, .int 1)]) F dX10_walkAll_9 rfl (by decide) rfl ?_
  obtain ⟨x15, e16, hf⟩ := bnd_some hf
  refine tX10_walkAll_10 (s0 := (r1, 1)) F ?_ e16
  exact v_vret (pc := 89) F hr dX10_walkAll_89 (Option.some.inj hf) (Nat.zero_le _)
def fX10_round_51 (h : ST) (l3 : Int32) (s1 : (Int32 × Int32)) : Option ((Int32 × Int32) ⊕ Int32) :=
  bnd (rf KC 395 1 (h 0 3)) fun f9 =>
  if (h f9 0) ≤ s1.2 then
  some (.inr s1.1)
  else
  bnd (rd 4608 (h 394) ((l3 * 9) + s1.2)) fun v12 =>
    bnd (fX10_shorter h s1.1 v12) fun r14 =>
    some (.inl (r14, s1.2 + 1))
def fX10_round (h : ST) (a1 : Int32) (a2 : Int32) : Option ((Int32 ⊕ Nat) × ST) :=
  bnd (fX10_needRoom h a1) fun r1 =>
  sm r1 (fun _ => bnd (rf KC 395 1 (h 0 3)) fun f3 =>
  if ((a2.toUInt32 >>> ((h f3 0).toUInt32 &&& Int32.toUInt32 31)).toInt32) = 0 then
  if (a2 &&& (((1 : Int32) <<< (a1 &&& 31)) ^^^ (-1))) = 0 then
    some (.inl 0, h)
    else
    bnd (fX10_walkAll h a1 (a2 &&& (((1 : Int32) <<< (a1 &&& 31)) ^^^ (-1)))) fun r7 =>
      bnd (lp FU (fX10_round_51 r7 (a2 &&& (((1 : Int32) <<< (a1 &&& 31)) ^^^ (-1)))) ((-1), 0)) fun x16 =>
      some (.inl x16, r7)
  else
  some (.inr 2, h)) (fun r1 => some (.inr r1, h))
set_option maxRecDepth 100000 in
set_option maxHeartbeats 4000000 in
theorem tX10_round_51 {p : Program} {l : Launch} {e : Env} {s : State} {m : MethodId} {args : Array Value} {below : List Frame} {meth : Method} {c : Code} {g : GE} {B : Nat}  {h : ST}  {l3 : Int32} {Q : State → Prop} {x : Int32} {nf : Nat} {s0 : (Int32 × Int32)} (F : Fx p s m args meth c cX10_round 6 "DustParish" 395 g B) (hX0 : V p l e 9 2 s m args below meth c Q KC 395 g B 6 1 h 88 [(4, .int x)] []) (hl : lp nf (fX10_round_51 h l3) s0 = some x) : V p l e 9 2 s m args below meth c Q KC 395 g B 6 1 h 51 [(0, .ref (gA g 0)), (3, .int l3), (4, .int s0.1), (5, .int s0.2)] [] := by
  refine lp_ind (P := fun s0 => V p l e 9 2 s m args below meth c Q KC 395 g B 6 1 h 51 [(0, .ref (gA g 0)), (3, .int l3), (4, .int s0.1), (5, .int s0.2)] []) ?_ nf s0 hl
  intro s1 y hf hk hx
  have hx0 : ∀ v : Int32, y = Sum.inr v → V p l e 9 2 s m args below meth c Q KC 395 g B 6 1 h 88 [(4, .int v)] [] := fun v e9 => by rw [hx v e9]; exact hX0
  unfold fX10_round_51 at hf
  refine v_iload (pc := 51) (j := 3) F dX10_round_51 rfl ?_
  refine v_aload_n (pc := 53) (j := 0) F dX10_round_53 rfl rfl ?_
  obtain ⟨f9, e10, hf⟩ := bnd_some hf
  obtain ⟨ho_f9, hk_f9, e10⟩ := rf_in e10
  refine v_ifl (pc := 54) F fl_X10_23 dX10_round_54 kc_0.1 kc_0.2 (fv_9_3 e10) ?_
  refine v_ifl (pc := 57) F fl_X10_104 dX10_round_57 ho_f9 hk_f9 fv_1_0 ?_
  refine v_icmp_ge (pc := 60) (tgt := 88) F dX10_round_60 (by decide) (fun c11 => ?_) (fun c11 => ?_)
  · have hf := ite_t hf c11
    refine V.sub (lv' := [(4, .int s1.1)]) [2] rfl ?_
    exact hx0 s1.1 (Option.some.inj hf).symm
  · have hf := ite_f hf c11
    refine v_iload (pc := 63) (j := 2) F dX10_round_63 rfl ?_
    refine v_aload_n (pc := 65) (j := 0) F dX10_round_65 rfl rfl ?_
    refine v_ifl (pc := 66) F fl_X10_73 dX10_round_66 kc_0.1 kc_0.2 fv_9_14 ?_
    refine v_iload_n (pc := 69) (j := 1) F dX10_round_69 rfl rfl ?_
    refine v_bipush (pc := 70) (v := 9) F dX10_round_70 bp_9 ?_
    refine v_imul (pc := 72) F dX10_round_72 ?_
    refine v_iload (pc := 73) (j := 3) F dX10_round_73 rfl ?_
    refine v_iadd (pc := 75) F dX10_round_75 ?_
    obtain ⟨v12, e13, hf⟩ := bnd_some hf
    refine v_iald (pc := 76) F dX10_round_76 kc_394.1 kc_394.2 e13 ?_
    obtain ⟨r14, e15, hf⟩ := bnd_some hf
    refine v_callSi (pc := 77) (As := [.int s1.1, .int v12]) F cl_X10_279 dX10_round_77 (kX10_shorter e15) rfl rfl (Nat.le_of_ble_eq_true rfl) (by decide) (by decide) ?_
    refine v_istore (pc := 80) (lv' := [(0, .ref (gA g 0)), (3, .int l3), (4, .int r14), (5, .int s1.2)]) F dX10_round_80 (by decide) rfl ?_
    refine v_iinc (pc := 82) (j := 3) (v := s1.2 + 1) (lv' := [(0, .ref (gA g 0)), (3, .int l3), (4, .int r14), (5, .int (s1.2 + 1))]) F dX10_round_82 rfl (congrArg (fun z => s1.2 + z) ic_1) (by decide) rfl ?_
    refine v_goto (pc := 85) (tgt := 51) F dX10_round_85 (by decide) ?_
    exact hk (r14, s1.2 + 1) (Option.some.inj hf).symm
set_option maxRecDepth 100000 in
set_option maxHeartbeats 4000000 in
theorem kX10_round {l : Launch} {g : GE} {B : Nat} {h : ST} {a1 : Int32} {a2 : Int32} {y : (Int32 ⊕ Nat) × ST} (hT : l.stackTraces = false) (hf : fX10_round h a1 a2 = some y) : XT l yX10_round cX10_round 6 (some .int) 9 2 KC 395 g B [.ref (gA g 0), .int a1, .int a2] h (ocI y.1) y.2 := by
  refine XT.of pn_X10 (Nat.le_of_ble_eq_true rfl) ?_
  intro p e s m below meth c hr hex F
  have F : Fx p s m _ meth c cX10_round 6 "DustParish" 395 g B := F
  refine V_lv (lv' := [(0, .ref (gA g 0)), (1, .int a1), (2, .int a2)]) rfl ?_
  unfold fX10_round at hf
  refine v_aload_n (pc := 0) (j := 0) F dX10_round_0 rfl rfl ?_
  refine v_iload_n (pc := 1) (j := 1) F dX10_round_1 rfl rfl ?_
  obtain ⟨r1, e2, hf⟩ := bnd_some hf
  rcases r1 with v9 | r1
  · have hf := sm_l hf
    refine v_xcallV (pc := 2) (As := [.int a1]) F cl_X10_162 dX10_round_2 (kX10_needRoom hT e2) kc_0.1 kc_0.2 rc_9 rfl rfl (Nat.le_of_ble_eq_true rfl) (by decide) (by decide) ?_
    refine v_iload_n (pc := 5) (j := 2) F dX10_round_5 rfl rfl ?_
    refine v_aload_n (pc := 6) (j := 0) F dX10_round_6 rfl rfl ?_
    obtain ⟨f3, e4, hf⟩ := bnd_some hf
    obtain ⟨ho_f3, hk_f3, e4⟩ := rf_in e4
    refine v_ifl (pc := 7) F fl_X10_23 dX10_round_7 kc_0.1 kc_0.2 (fv_9_3 e4) ?_
    refine v_ifl (pc := 10) F fl_X10_104 dX10_round_10 ho_f3 hk_f3 fv_1_0 ?_
    refine v_iushr (pc := 13) F dX10_round_13 rfl ?_
    refine v_if_eq (pc := 14) (tgt := 25) F dX10_round_14 (by decide) (fun c5 => ?_) (fun c5 => ?_)
    · have hf := ite_t hf c5
      refine v_iload_n (pc := 25) (j := 2) F dX10_round_25 rfl rfl ?_
      refine v_iconst (pc := 26) (v := 1) F dX10_round_26 ic_1 ?_
      refine v_iload_n (pc := 27) (j := 1) F dX10_round_27 rfl rfl ?_
      refine v_ishl (pc := 28) F dX10_round_28 ?_
      refine v_iconst (pc := 29) (v := (-1)) F dX10_round_29 ic_m1 ?_
      refine v_ixor (pc := 30) F dX10_round_30 ?_
      refine v_iand (pc := 31) F dX10_round_31 ?_
      refine v_istore_n (pc := 32) (lv' := [(0, .ref (gA g 0)), (1, .int a1), (2, .int a2), (3, .int (a2 &&& (((1 : Int32) <<< (a1 &&& 31)) ^^^ (-1))))]) F dX10_round_32 rfl (by decide) rfl ?_
      refine v_iload_n (pc := 33) (j := 3) F dX10_round_33 rfl rfl ?_
      refine v_if_ne (pc := 34) (tgt := 39) F dX10_round_34 (by decide) (fun c6 => ?_) (fun c6 => ?_)
      · have hf := ite_f hf c6
        refine v_aload_n (pc := 39) (j := 0) F dX10_round_39 rfl rfl ?_
        refine v_iload_n (pc := 40) (j := 1) F dX10_round_40 rfl rfl ?_
        refine v_iload_n (pc := 41) (j := 3) F dX10_round_41 rfl rfl ?_
        obtain ⟨r7, e8, hf⟩ := bnd_some hf
        refine v_callVv (pc := 42) (As := [.int a1, .int (a2 &&& (((1 : Int32) <<< (a1 &&& 31)) ^^^ (-1)))]) F cl_X10_275 dX10_round_42 (kX10_walkAll e8) kc_0.1 kc_0.2 rc_9 rfl rfl (Nat.le_of_ble_eq_true rfl) (by decide) (by decide) ?_
        refine v_iconst (pc := 45) (v := (-1)) F dX10_round_45 ic_m1 ?_
        refine v_istore (pc := 46) (lv' := [(0, .ref (gA g 0)), (1, .int a1), (2, .int a2), (3, .int (a2 &&& (((1 : Int32) <<< (a1 &&& 31)) ^^^ (-1)))), (4, .int (-1))]) F dX10_round_46 (by decide) rfl ?_
        refine v_iconst (pc := 48) (v := 0) F dX10_round_48 ic_0 ?_
        refine v_istore (pc := 49) (lv' := [(0, .ref (gA g 0)), (1, .int a1), (2, .int a2), (3, .int (a2 &&& (((1 : Int32) <<< (a1 &&& 31)) ^^^ (-1)))), (4, .int (-1)), (5, .int 0)]) F dX10_round_49 (by decide) rfl ?_
        obtain ⟨x16, e17, hf⟩ := bnd_some hf
        refine V.sub (lv' := [(0, .ref (gA g 0)), (3, .int (a2 &&& (((1 : Int32) <<< (a1 &&& 31)) ^^^ (-1)))), (4, .int (-1)), (5, .int 0)]) [0, 3, 4, 5] rfl ?_
        refine tX10_round_51 (s0 := ((-1), 0)) F ?_ e17
        refine v_iload (pc := 88) (j := 0) F dX10_round_88 rfl ?_
        exact v_xiret (pc := 90) F hr dX10_round_90 (some_fst hf) (some_snd hf) (by decide)
      · have hf := ite_t hf c6
        refine v_iconst (pc := 37) (v := 0) F dX10_round_37 ic_0 ?_
        exact v_xiret (pc := 38) F hr dX10_round_38 (some_fst hf) (some_snd hf) (by decide)
    · have hf := ite_f hf c5
      exact v_throw0 (pc := 17) (E := xIA) F hT xw_IA hex dX10_round_17 dX10_round_20 dX10_round_21 dX10_round_24 (congrArg ocI (some_fst hf)) (some_snd hf) (by decide) (Nat.le_of_ble_eq_true rfl) (by decide)
  · have hf := sm_r hf
    exact v_xcallX (pc := 2) (As := [.int a1]) F cl_X10_162 dX10_round_2 (kX10_needRoom hT e2) kc_0.1 kc_0.2 rc_9 rfl rfl (Nat.le_of_ble_eq_true rfl) (by decide) (by decide) hex (congrArg ocI (some_fst hf)) (some_snd hf)
def fX7_add_49 (h : ST)  : Option (ST) :=
  some h
def fX7_add (h : ST) (o : Nat) (a1 : Int32) (a2 : Int32) (a3 : Int32) : Option (ST) :=
  if 8 ≤ (h o 0) then
  fX7_add_49 h 
  else
  bnd (wr 8 h (o + 1) (h o 0) a1) fun h2 =>
    bnd (wr 8 h2 (o + 2) (h2 o 0) a2) fun h4 =>
    bnd (wr 8 h4 (o + 3) (h4 o 0) a3) fun h6 =>
    bnd (pw h6 o 0 ((h6 o 0) + 1)) fun h8 =>
    fX7_add_49 h8 
set_option maxRecDepth 100000 in
set_option maxHeartbeats 4000000 in
theorem tX7_add_49 {p : Program} {l : Launch} {e : Env} {s : State} {m : MethodId} {args : Array Value} {below : List Frame} {meth : Method} {c : Code} {g : GE} {B : Nat} {h : ST}  (F : Fx p s m args meth c cX7_add 4 "DustParish$Sights" 395 g B)
    {y : ST} (hr : meth.sig.returnType = none) (hf : fX7_add_49 h  = some y) : V p l e 1 0 s m args below meth c (MQ below (QO KC 395 g none y) args s 0 (6 * 0) (WA 395 g)) KC 395 g B 4 0 h 49 [] [] := by
  unfold fX7_add_49 at hf
  exact v_vret (pc := 49) F hr dX7_add_49 (Option.some.inj hf) (Nat.zero_le _)
set_option maxRecDepth 100000 in
set_option maxHeartbeats 4000000 in
theorem kX7_add {l : Launch} {g : GE} {B : Nat} {h : ST} {o : Nat} (ho_o : o < 395) (hk_o : KC o = (6, 0)) {a1 : Int32} {a2 : Int32} {a3 : Int32} {y : ST} (hf : fX7_add h o a1 a2 a3 = some y) : CT l yX7_add cX7_add 4 none 1 KC 395 g B [.ref (gA g o), .int a1, .int a2, .int a3] h none y := by
  refine CT.of pn_X7 (Nat.le_of_ble_eq_true rfl) ?_
  intro p e s m below meth c hr F
  have F : Fx p s m _ meth c cX7_add 4 "DustParish$Sights" 395 g B := F
  refine V_lv (lv' := [(0, .ref (gA g o)), (1, .int a1), (2, .int a2), (3, .int a3)]) rfl ?_
  unfold fX7_add at hf
  refine v_aload_n (pc := 0) (j := 0) F dX7_add_0 rfl rfl ?_
  refine v_ifl (pc := 1) F fl_X7_9 dX7_add_1 ho_o hk_o fv_6_0 ?_
  refine v_bipush (pc := 4) (v := 8) F dX7_add_4 bp_8 ?_
  refine v_icmp_ge (pc := 6) (tgt := 49) F dX7_add_6 (by decide) (fun c1 => ?_) (fun c1 => ?_)
  · have hf := ite_t hf c1
    refine V.sub (lv' := []) [] rfl ?_
    exact tX7_add_49 F hr hf
  · have hf := ite_f hf c1
    refine v_aload_n (pc := 9) (j := 0) F dX7_add_9 rfl rfl ?_
    refine v_ifl (pc := 10) F fl_X7_15 dX7_add_10 ho_o hk_o fv_6_1 ?_
    refine v_aload_n (pc := 13) (j := 0) F dX7_add_13 rfl rfl ?_
    refine v_ifl (pc := 14) F fl_X7_9 dX7_add_14 ho_o hk_o fv_6_0 ?_
    refine v_iload_n (pc := 17) (j := 1) F dX7_add_17 rfl rfl ?_
    obtain ⟨h2, e3, hf⟩ := bnd_some hf
    refine v_iast (pc := 18) F dX7_add_18 (ly_6_1 ho_o hk_o).1 (ly_6_1 ho_o hk_o).2 e3 ?_
    refine v_aload_n (pc := 19) (j := 0) F dX7_add_19 rfl rfl ?_
    refine v_ifl (pc := 20) F fl_X7_19 dX7_add_20 ho_o hk_o fv_6_2 ?_
    refine v_aload_n (pc := 23) (j := 0) F dX7_add_23 rfl rfl ?_
    refine v_ifl (pc := 24) F fl_X7_9 dX7_add_24 ho_o hk_o fv_6_0 ?_
    refine v_iload_n (pc := 27) (j := 2) F dX7_add_27 rfl rfl ?_
    obtain ⟨h4, e5, hf⟩ := bnd_some hf
    refine v_iast (pc := 28) F dX7_add_28 (ly_6_2 ho_o hk_o).1 (ly_6_2 ho_o hk_o).2 e5 ?_
    refine v_aload_n (pc := 29) (j := 0) F dX7_add_29 rfl rfl ?_
    refine v_ifl (pc := 30) F fl_X7_22 dX7_add_30 ho_o hk_o fv_6_3 ?_
    refine v_aload_n (pc := 33) (j := 0) F dX7_add_33 rfl rfl ?_
    refine v_ifl (pc := 34) F fl_X7_9 dX7_add_34 ho_o hk_o fv_6_0 ?_
    refine v_iload_n (pc := 37) (j := 3) F dX7_add_37 rfl rfl ?_
    obtain ⟨h6, e7, hf⟩ := bnd_some hf
    refine v_iast (pc := 38) F dX7_add_38 (ly_6_3 ho_o hk_o).1 (ly_6_3 ho_o hk_o).2 e7 ?_
    refine v_aload_n (pc := 39) (j := 0) F dX7_add_39 rfl rfl ?_
    refine v_dup (pc := 40) F dX7_add_40 rfl ?_
    refine v_ifl (pc := 41) F fl_X7_9 dX7_add_41 ho_o hk_o fv_6_0 ?_
    refine v_iconst (pc := 44) (v := 1) F dX7_add_44 ic_1 ?_
    refine v_iadd (pc := 45) F dX7_add_45 ?_
    obtain ⟨h8, e9, hf⟩ := bnd_some hf
    refine v_pfl (pc := 46) F fl_X7_9 pl_6_0 dX7_add_46 ho_o hk_o fv_6_0 rfl rfl e9 ?_
    refine V.sub (lv' := []) [] rfl ?_
    exact tX7_add_49 F hr hf
def fX10_see_41 (h : ST)  : Option ((Int32 ⊕ Nat) × ST) :=
  bnd (fX10_refuse h 2) fun r4 =>
  some (.inl r4.1, r4.2)
def fX10_see (h : ST) (a1 : Int32) (a2 : Int32) (a3 : Int32) : Option ((Int32 ⊕ Nat) × ST) :=
  bnd (fX10_needRoom h a1) fun r1 =>
  sm r1 (fun _ => if 8 ≤ (h 209 0) then
  fX10_see_41 h 
  else
  if a2 < 0 then
    fX10_see_41 h 
    else
    if 30 < a2 then
      fX10_see_41 h 
      else
      if a3 < 0 then
        fX10_see_41 h 
        else
        if a3 ≤ 9999 then
          bnd (fX7_add h 209 a1 a2 a3) fun r10 =>
            some (.inl (r10 209 0), r10)
          else
          fX10_see_41 h ) (fun r1 => some (.inr r1, h))
set_option maxRecDepth 100000 in
set_option maxHeartbeats 4000000 in
theorem tX10_see_41 {p : Program} {l : Launch} {e : Env} {s : State} {m : MethodId} {args : Array Value} {below : List Frame} {meth : Method} {c : Code} {g : GE} {B : Nat} {h : ST}  (F : Fx p s m args meth c cX10_see 4 "DustParish" 395 g B)
    {y : (Int32 ⊕ Nat) × ST} (hr : meth.sig.returnType = (some .int)) (hT : l.stackTraces = false) (hex : ∀ x ∈ c.exceptionTable.toList, False) (hf : fX10_see_41 h  = some y) : V p l e 9 1 s m args below meth c (vx_MQ below (QX KC 395 g (ocI y.1) y.2) (XX KC 395 g (ocI y.1) y.2) args s 1 (6 * 1) (WA 395 g)) KC 395 g B 4 1 h 41 [(0, .ref (gA g 0))] [] := by
  unfold fX10_see_41 at hf
  refine v_aload_n (pc := 41) (j := 0) F dX10_see_41 rfl rfl ?_
  refine v_iconst (pc := 42) (v := 2) F dX10_see_42 ic_2 ?_
  obtain ⟨r4, e5, hf⟩ := bnd_some hf
  refine v_callVi (pc := 43) (As := [.int 2]) F cl_X10_207 dX10_see_43 (kX10_refuse e5) kc_0.1 kc_0.2 rc_9 rfl rfl (Nat.le_of_ble_eq_true rfl) (by decide) (by decide) ?_
  exact v_xiret (pc := 46) F hr dX10_see_46 (some_fst hf) (some_snd hf) (by decide)
set_option maxRecDepth 100000 in
set_option maxHeartbeats 4000000 in
theorem kX10_see {l : Launch} {g : GE} {B : Nat} {h : ST} {a1 : Int32} {a2 : Int32} {a3 : Int32} {y : (Int32 ⊕ Nat) × ST} (hT : l.stackTraces = false) (hf : fX10_see h a1 a2 a3 = some y) : XT l yX10_see cX10_see 4 (some .int) 9 1 KC 395 g B [.ref (gA g 0), .int a1, .int a2, .int a3] h (ocI y.1) y.2 := by
  refine XT.of pn_X10 (Nat.le_of_ble_eq_true rfl) ?_
  intro p e s m below meth c hr hex F
  have F : Fx p s m _ meth c cX10_see 4 "DustParish" 395 g B := F
  refine V_lv (lv' := [(0, .ref (gA g 0)), (1, .int a1), (2, .int a2), (3, .int a3)]) rfl ?_
  unfold fX10_see at hf
  refine v_aload_n (pc := 0) (j := 0) F dX10_see_0 rfl rfl ?_
  refine v_iload_n (pc := 1) (j := 1) F dX10_see_1 rfl rfl ?_
  obtain ⟨r1, e2, hf⟩ := bnd_some hf
  rcases r1 with v9 | r1
  · have hf := sm_l hf
    refine v_xcallV (pc := 2) (As := [.int a1]) F cl_X10_162 dX10_see_2 (kX10_needRoom hT e2) kc_0.1 kc_0.2 rc_9 rfl rfl (Nat.le_of_ble_eq_true rfl) (by decide) (by decide) ?_
    refine v_aload_n (pc := 5) (j := 0) F dX10_see_5 rfl rfl ?_
    refine v_ifl (pc := 6) F fl_X10_42 dX10_see_6 kc_0.1 kc_0.2 fv_9_6 ?_
    refine v_ifl (pc := 9) F fl_X10_152 dX10_see_9 kc_42.1 kc_42.2 fv_2_2 ?_
    refine v_ifl (pc := 12) F fl_X10_156 dX10_see_12 kc_209.1 kc_209.2 fv_6_0 ?_
    refine v_bipush (pc := 15) (v := 8) F dX10_see_15 bp_8 ?_
    refine v_icmp_ge (pc := 17) (tgt := 41) F dX10_see_17 (by decide) (fun c3 => ?_) (fun c3 => ?_)
    · have hf := ite_t hf c3
      refine V.sub (lv' := [(0, .ref (gA g 0))]) [0] rfl ?_
      exact tX10_see_41 F hr hT hex hf
    · have hf := ite_f hf c3
      refine v_iload_n (pc := 20) (j := 2) F dX10_see_20 rfl rfl ?_
      refine v_if_lt (pc := 21) (tgt := 41) F dX10_see_21 (by decide) (fun c6 => ?_) (fun c6 => ?_)
      · have hf := ite_t hf c6
        refine V.sub (lv' := [(0, .ref (gA g 0))]) [0] rfl ?_
        exact tX10_see_41 F hr hT hex hf
      · have hf := ite_f hf c6
        refine v_iload_n (pc := 24) (j := 2) F dX10_see_24 rfl rfl ?_
        refine v_bipush (pc := 25) (v := 30) F dX10_see_25 bp_30 ?_
        refine v_icmp_gt (pc := 27) (tgt := 41) F dX10_see_27 (by decide) (fun c7 => ?_) (fun c7 => ?_)
        · have hf := ite_t hf c7
          refine V.sub (lv' := [(0, .ref (gA g 0))]) [0] rfl ?_
          exact tX10_see_41 F hr hT hex hf
        · have hf := ite_f hf c7
          refine v_iload_n (pc := 30) (j := 3) F dX10_see_30 rfl rfl ?_
          refine v_if_lt (pc := 31) (tgt := 41) F dX10_see_31 (by decide) (fun c8 => ?_) (fun c8 => ?_)
          · have hf := ite_t hf c8
            refine V.sub (lv' := [(0, .ref (gA g 0))]) [0] rfl ?_
            exact tX10_see_41 F hr hT hex hf
          · have hf := ite_f hf c8
            refine v_iload_n (pc := 34) (j := 3) F dX10_see_34 rfl rfl ?_
            refine v_sipush (pc := 35) (v := 9999) F dX10_see_35 sp_9999 ?_
            refine v_icmp_le (pc := 38) (tgt := 47) F dX10_see_38 (by decide) (fun c9 => ?_) (fun c9 => ?_)
            · have hf := ite_t hf c9
              refine v_aload_n (pc := 47) (j := 0) F dX10_see_47 rfl rfl ?_
              refine v_ifl (pc := 48) F fl_X10_42 dX10_see_48 kc_0.1 kc_0.2 fv_9_6 ?_
              refine v_ifl (pc := 51) F fl_X10_152 dX10_see_51 kc_42.1 kc_42.2 fv_2_2 ?_
              refine v_iload_n (pc := 54) (j := 1) F dX10_see_54 rfl rfl ?_
              refine v_iload_n (pc := 55) (j := 2) F dX10_see_55 rfl rfl ?_
              refine v_iload_n (pc := 56) (j := 3) F dX10_see_56 rfl rfl ?_
              obtain ⟨r10, e11, hf⟩ := bnd_some hf
              refine v_callVv (pc := 57) (As := [.int a1, .int a2, .int a3]) F cl_X10_309 dX10_see_57 (kX7_add kc_209.1 kc_209.2 e11) kc_209.1 kc_209.2 rc_6 rfl rfl (Nat.le_of_ble_eq_true rfl) (by decide) (by decide) ?_
              refine v_aload_n (pc := 60) (j := 0) F dX10_see_60 rfl rfl ?_
              refine v_ifl (pc := 61) F fl_X10_42 dX10_see_61 kc_0.1 kc_0.2 fv_9_6 ?_
              refine v_ifl (pc := 64) F fl_X10_152 dX10_see_64 kc_42.1 kc_42.2 fv_2_2 ?_
              refine v_ifl (pc := 67) F fl_X10_156 dX10_see_67 kc_209.1 kc_209.2 fv_6_0 ?_
              exact v_xiret (pc := 70) F hr dX10_see_70 (some_fst hf) (some_snd hf) (by decide)
            · have hf := ite_f hf c9
              refine V.sub (lv' := [(0, .ref (gA g 0))]) [0] rfl ?_
              exact tX10_see_41 F hr hT hex hf
  · have hf := sm_r hf
    exact v_xcallX (pc := 2) (As := [.int a1]) F cl_X10_162 dX10_see_2 (kX10_needRoom hT e2) kc_0.1 kc_0.2 rc_9 rfl rfl (Nat.le_of_ble_eq_true rfl) (by decide) (by decide) hex (congrArg ocI (some_fst hf)) (some_snd hf)
def fX10_shake (h : ST) (a1 : Int32) (a2 : Int32) : Option ((Int32 ⊕ Nat) × ST) :=
  bnd (fX10_needRoom h a1) fun r1 =>
  sm r1 (fun _ => bnd (fX10_needRoom h a2) fun r3 =>
  sm r3 (fun _ => bnd (rf KC 395 1 (h 0 3)) fun f5 =>
  bnd (fX2_hasDoor h f5 a1 a2) fun r7 =>
  if r7 = 0 then
  bnd (fX10_refuse h 1) fun r16 =>
    some (.inl r16.1, r16.2)
  else
  bnd (fX0_remember h 47 43) fun r10 =>
    bnd (rd 9 (r10 44) a1) fun v12 =>
    bnd (fX8_bring r10 43 a1 a2 (v12 / 2)) fun r14 =>
    some (.inl (v12 / 2), r14)) (fun r3 => some (.inr r3, h))) (fun r1 => some (.inr r1, h))
set_option maxRecDepth 100000 in
set_option maxHeartbeats 4000000 in
theorem kX10_shake {l : Launch} {g : GE} {B : Nat} {h : ST} {a1 : Int32} {a2 : Int32} {y : (Int32 ⊕ Nat) × ST} (hT : l.stackTraces = false) (hf : fX10_shake h a1 a2 = some y) : XT l yX10_shake cX10_shake 4 (some .int) 9 2 KC 395 g B [.ref (gA g 0), .int a1, .int a2] h (ocI y.1) y.2 := by
  refine XT.of pn_X10 (Nat.le_of_ble_eq_true rfl) ?_
  intro p e s m below meth c hr hex F
  have F : Fx p s m _ meth c cX10_shake 4 "DustParish" 395 g B := F
  refine V_lv (lv' := [(0, .ref (gA g 0)), (1, .int a1), (2, .int a2)]) rfl ?_
  unfold fX10_shake at hf
  refine v_aload_n (pc := 0) (j := 0) F dX10_shake_0 rfl rfl ?_
  refine v_iload_n (pc := 1) (j := 1) F dX10_shake_1 rfl rfl ?_
  obtain ⟨r1, e2, hf⟩ := bnd_some hf
  rcases r1 with v9 | r1
  · have hf := sm_l hf
    refine v_xcallV (pc := 2) (As := [.int a1]) F cl_X10_162 dX10_shake_2 (kX10_needRoom hT e2) kc_0.1 kc_0.2 rc_9 rfl rfl (Nat.le_of_ble_eq_true rfl) (by decide) (by decide) ?_
    refine v_aload_n (pc := 5) (j := 0) F dX10_shake_5 rfl rfl ?_
    refine v_iload_n (pc := 6) (j := 2) F dX10_shake_6 rfl rfl ?_
    obtain ⟨r3, e4, hf⟩ := bnd_some hf
    rcases r3 with v9 | r3
    · have hf := sm_l hf
      refine v_xcallV (pc := 7) (As := [.int a2]) F cl_X10_162 dX10_shake_7 (kX10_needRoom hT e4) kc_0.1 kc_0.2 rc_9 rfl rfl (Nat.le_of_ble_eq_true rfl) (by decide) (by decide) ?_
      refine v_aload_n (pc := 10) (j := 0) F dX10_shake_10 rfl rfl ?_
      obtain ⟨f5, e6, hf⟩ := bnd_some hf
      obtain ⟨ho_f5, hk_f5, e6⟩ := rf_in e6
      refine v_ifl (pc := 11) F fl_X10_23 dX10_shake_11 kc_0.1 kc_0.2 (fv_9_3 e6) ?_
      refine v_iload_n (pc := 14) (j := 1) F dX10_shake_14 rfl rfl ?_
      refine v_iload_n (pc := 15) (j := 2) F dX10_shake_15 rfl rfl ?_
      obtain ⟨r7, e8, hf⟩ := bnd_some hf
      refine v_callVi (pc := 16) (As := [.int a1, .int a2]) F cl_X10_218 dX10_shake_16 (kX2_hasDoor ho_f5 hk_f5 e8) ho_f5 hk_f5 rc_1 rfl rfl (Nat.le_of_ble_eq_true rfl) (by decide) (by decide) ?_
      refine v_if_ne (pc := 19) (tgt := 28) F dX10_shake_19 (by decide) (fun c9 => ?_) (fun c9 => ?_)
      · have hf := ite_f hf c9
        refine v_aload_n (pc := 28) (j := 0) F dX10_shake_28 rfl rfl ?_
        refine v_ifl (pc := 29) F fl_X10_42 dX10_shake_29 kc_0.1 kc_0.2 fv_9_6 ?_
        refine v_ifl (pc := 32) F fl_X10_143 dX10_shake_32 kc_42.1 kc_42.2 fv_2_1 ?_
        refine v_aload_n (pc := 35) (j := 0) F dX10_shake_35 rfl rfl ?_
        refine v_ifl (pc := 36) F fl_X10_42 dX10_shake_36 kc_0.1 kc_0.2 fv_9_6 ?_
        refine v_ifl (pc := 39) F fl_X10_122 dX10_shake_39 kc_42.1 kc_42.2 fv_2_0 ?_
        obtain ⟨r10, e11, hf⟩ := bnd_some hf
        refine v_callVv (pc := 42) (As := [.ref (gA g 43)]) F cl_X10_210 dX10_shake_42 (kX0_remember kc_47.1 kc_47.2 kc_43.1 kc_43.2 e11) kc_47.1 kc_47.2 rc_0 rfl rfl (Nat.le_of_ble_eq_true rfl) (by decide) (by decide) ?_
        refine v_aload_n (pc := 45) (j := 0) F dX10_shake_45 rfl rfl ?_
        refine v_ifl (pc := 46) F fl_X10_42 dX10_shake_46 kc_0.1 kc_0.2 fv_9_6 ?_
        refine v_ifl (pc := 49) F fl_X10_122 dX10_shake_49 kc_42.1 kc_42.2 fv_2_0 ?_
        refine v_ifl (pc := 52) F fl_X10_171 dX10_shake_52 kc_43.1 kc_43.2 fv_7_3 ?_
        refine v_iload_n (pc := 55) (j := 1) F dX10_shake_55 rfl rfl ?_
        obtain ⟨v12, e13, hf⟩ := bnd_some hf
        refine v_iald (pc := 56) F dX10_shake_56 kc_44.1 kc_44.2 e13 ?_
        refine v_iconst (pc := 57) (v := 2) F dX10_shake_57 ic_2 ?_
        refine v_idiv (pc := 58) F dX10_shake_58 (by decide) ?_
        refine v_istore_n (pc := 59) (lv' := [(0, .ref (gA g 0)), (1, .int a1), (2, .int a2), (3, .int (v12 / 2))]) F dX10_shake_59 rfl (by decide) rfl ?_
        refine v_aload_n (pc := 60) (j := 0) F dX10_shake_60 rfl rfl ?_
        refine v_ifl (pc := 61) F fl_X10_42 dX10_shake_61 kc_0.1 kc_0.2 fv_9_6 ?_
        refine v_ifl (pc := 64) F fl_X10_122 dX10_shake_64 kc_42.1 kc_42.2 fv_2_0 ?_
        refine v_iload_n (pc := 67) (j := 1) F dX10_shake_67 rfl rfl ?_
        refine v_iload_n (pc := 68) (j := 2) F dX10_shake_68 rfl rfl ?_
        refine v_iload_n (pc := 69) (j := 3) F dX10_shake_69 rfl rfl ?_
        obtain ⟨r14, e15, hf⟩ := bnd_some hf
        refine v_callVv (pc := 70) (As := [.int a1, .int a2, .int (v12 / 2)]) F cl_X10_222 dX10_shake_70 (kX8_bring kc_43.1 kc_43.2 e15) kc_43.1 kc_43.2 rc_7 rfl rfl (Nat.le_of_ble_eq_true rfl) (by decide) (by decide) ?_
        refine v_iload_n (pc := 73) (j := 3) F dX10_shake_73 rfl rfl ?_
        exact v_xiret (pc := 74) F hr dX10_shake_74 (some_fst hf) (some_snd hf) (by decide)
      · have hf := ite_t hf c9
        refine v_aload_n (pc := 22) (j := 0) F dX10_shake_22 rfl rfl ?_
        refine v_iconst (pc := 23) (v := 1) F dX10_shake_23 ic_1 ?_
        obtain ⟨r16, e17, hf⟩ := bnd_some hf
        refine v_callVi (pc := 24) (As := [.int 1]) F cl_X10_207 dX10_shake_24 (kX10_refuse e17) kc_0.1 kc_0.2 rc_9 rfl rfl (Nat.le_of_ble_eq_true rfl) (by decide) (by decide) ?_
        exact v_xiret (pc := 27) F hr dX10_shake_27 (some_fst hf) (some_snd hf) (by decide)
    · have hf := sm_r hf
      exact v_xcallX (pc := 7) (As := [.int a2]) F cl_X10_162 dX10_shake_7 (kX10_needRoom hT e4) kc_0.1 kc_0.2 rc_9 rfl rfl (Nat.le_of_ble_eq_true rfl) (by decide) (by decide) hex (congrArg ocI (some_fst hf)) (some_snd hf)
  · have hf := sm_r hf
    exact v_xcallX (pc := 2) (As := [.int a1]) F cl_X10_162 dX10_shake_2 (kX10_needRoom hT e2) kc_0.1 kc_0.2 rc_9 rfl rfl (Nat.le_of_ble_eq_true rfl) (by decide) (by decide) hex (congrArg ocI (some_fst hf)) (some_snd hf)
