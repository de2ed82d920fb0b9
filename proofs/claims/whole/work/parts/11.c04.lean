def fX10_order_54 (h : ST) (q0 : Int32) : Option ((Int32 ⊕ Nat) × ST) :=
  some (.inl q0, h)
def fX10_order_33 (h : ST) (l1 : Int32) (l2 : Int32) : Option ((Int32 ⊕ Nat) × ST) :=
  bnd (fX10_findOrder h l1) fun r4 =>
  if l2 = (-1) then
  fX10_order_54 r4.2 r4.1
  else
  bnd (rd 5 (r4.2 391) l2) fun v7 =>
    fX10_order_54 r4.2 v7
def fX10_order_25 (h : ST)  : Option ((Int32 ⊕ Nat) × ST) :=
  some (.inr 1, h)
def fX10_order (h : ST) (a1 : Int32) (a2 : Int32) : Option ((Int32 ⊕ Nat) × ST) :=
  bnd (fX10_needRoom h a1) fun r1 =>
  sm r1 (fun _ => if a2 = (-1) then
  fX10_order_33 h a1 a2
  else
  if a2 < 0 then
    fX10_order_25 h 
    else
    bnd (rf KC 395 1 (h 0 3)) fun f10 =>
      if a2 < (h f10 8) then
      fX10_order_33 h a1 a2
      else
      fX10_order_25 h ) (fun r1 => some (.inr r1, h))
set_option maxRecDepth 100000 in
set_option maxHeartbeats 4000000 in
theorem tX10_order_54 {p : Program} {l : Launch} {e : Env} {s : State} {m : MethodId} {args : Array Value} {below : List Frame} {meth : Method} {c : Code} {g : GE} {B : Nat} {h : ST}  {q0 : Int32} (F : Fx p s m args meth c cX10_order 4 "DustParish" 395 g B)
    {y : (Int32 ⊕ Nat) × ST} (hr : meth.sig.returnType = (some .int)) (hT : l.stackTraces = false) (hex : ∀ x ∈ c.exceptionTable.toList, False) (hf : fX10_order_54 h q0 = some y) : V p l e 9 2 s m args below meth c (vx_MQ below (QX KC 395 g (ocI y.1) y.2) (XX KC 395 g (ocI y.1) y.2) args s 2 (6 * 2) (WA 395 g)) KC 395 g B 4 1 h 54 [] [.int q0] := by
  unfold fX10_order_54 at hf
  exact v_xiret (pc := 54) F hr dX10_order_54 (some_fst hf) (some_snd hf) (by decide)
set_option maxRecDepth 100000 in
set_option maxHeartbeats 4000000 in
theorem tX10_order_33 {p : Program} {l : Launch} {e : Env} {s : State} {m : MethodId} {args : Array Value} {below : List Frame} {meth : Method} {c : Code} {g : GE} {B : Nat} {h : ST}  {l1 : Int32} {l2 : Int32} (F : Fx p s m args meth c cX10_order 4 "DustParish" 395 g B)
    {y : (Int32 ⊕ Nat) × ST} (hr : meth.sig.returnType = (some .int)) (hT : l.stackTraces = false) (hex : ∀ x ∈ c.exceptionTable.toList, False) (hf : fX10_order_33 h l1 l2 = some y) : V p l e 9 2 s m args below meth c (vx_MQ below (QX KC 395 g (ocI y.1) y.2) (XX KC 395 g (ocI y.1) y.2) args s 2 (6 * 2) (WA 395 g)) KC 395 g B 4 1 h 33 [(0, .ref (gA g 0)), (1, .int l1), (2, .int l2)] [] := by
  unfold fX10_order_33 at hf
  refine v_aload_n (pc := 33) (j := 0) F dX10_order_33 rfl rfl ?_
  refine v_iload_n (pc := 34) (j := 1) F dX10_order_34 rfl rfl ?_
  obtain ⟨r4, e5, hf⟩ := bnd_some hf
  refine v_callVi (pc := 35) (As := [.int l1]) F cl_X10_254 dX10_order_35 (kX10_findOrder e5) kc_0.1 kc_0.2 rc_9 rfl rfl (Nat.le_of_ble_eq_true rfl) (by decide) (by decide) ?_
  refine v_istore_n (pc := 38) (lv' := [(0, .ref (gA g 0)), (1, .int l1), (2, .int l2), (3, .int r4.1)]) F dX10_order_38 rfl (by decide) rfl ?_
  refine v_iload_n (pc := 39) (j := 2) F dX10_order_39 rfl rfl ?_
  refine v_iconst (pc := 40) (v := (-1)) F dX10_order_40 ic_m1 ?_
  refine v_icmp_ne (pc := 41) (tgt := 48) F dX10_order_41 (by decide) (fun c6 => ?_) (fun c6 => ?_)
  · have hf := ite_f hf c6
    refine v_aload_n (pc := 48) (j := 0) F dX10_order_48 rfl rfl ?_
    refine v_ifl (pc := 49) F fl_X10_64 dX10_order_49 kc_0.1 kc_0.2 fv_9_11 ?_
    refine v_iload_n (pc := 52) (j := 2) F dX10_order_52 rfl rfl ?_
    obtain ⟨v7, e8, hf⟩ := bnd_some hf
    refine v_iald (pc := 53) F dX10_order_53 kc_391.1 kc_391.2 e8 ?_
    refine V.sub (lv' := []) [] rfl ?_
    exact tX10_order_54 F hr hT hex hf
  · have hf := ite_t hf c6
    refine v_iload_n (pc := 44) (j := 3) F dX10_order_44 rfl rfl ?_
    refine v_goto (pc := 45) (tgt := 54) F dX10_order_45 (by decide) ?_
    refine V.sub (lv' := []) [] rfl ?_
    exact tX10_order_54 F hr hT hex hf
set_option maxRecDepth 100000 in
set_option maxHeartbeats 4000000 in
theorem tX10_order_25 {p : Program} {l : Launch} {e : Env} {s : State} {m : MethodId} {args : Array Value} {below : List Frame} {meth : Method} {c : Code} {g : GE} {B : Nat} {h : ST}  (F : Fx p s m args meth c cX10_order 4 "DustParish" 395 g B)
    {y : (Int32 ⊕ Nat) × ST} (hr : meth.sig.returnType = (some .int)) (hT : l.stackTraces = false) (hex : ∀ x ∈ c.exceptionTable.toList, False) (hf : fX10_order_25 h  = some y) : V p l e 9 2 s m args below meth c (vx_MQ below (QX KC 395 g (ocI y.1) y.2) (XX KC 395 g (ocI y.1) y.2) args s 2 (6 * 2) (WA 395 g)) KC 395 g B 4 1 h 25 [] [] := by
  unfold fX10_order_25 at hf
  exact v_throw0 (pc := 25) (E := xNS) F hT xw_NS hex dX10_order_25 dX10_order_28 dX10_order_29 dX10_order_32 (congrArg ocI (some_fst hf)) (some_snd hf) (by decide) (Nat.le_of_ble_eq_true rfl) (by decide)
set_option maxRecDepth 100000 in
set_option maxHeartbeats 4000000 in
theorem kX10_order {l : Launch} {g : GE} {B : Nat} {h : ST} {a1 : Int32} {a2 : Int32} {y : (Int32 ⊕ Nat) × ST} (hT : l.stackTraces = false) (hf : fX10_order h a1 a2 = some y) : XT l yX10_order cX10_order 4 (some .int) 9 2 KC 395 g B [.ref (gA g 0), .int a1, .int a2] h (ocI y.1) y.2 := by
  refine XT.of pn_X10 (Nat.le_of_ble_eq_true rfl) ?_
  intro p e s m below meth c hr hex F
  have F : Fx p s m _ meth c cX10_order 4 "DustParish" 395 g B := F
  refine V_lv (lv' := [(0, .ref (gA g 0)), (1, .int a1), (2, .int a2)]) rfl ?_
  unfold fX10_order at hf
  refine v_aload_n (pc := 0) (j := 0) F dX10_order_0 rfl rfl ?_
  refine v_iload_n (pc := 1) (j := 1) F dX10_order_1 rfl rfl ?_
  obtain ⟨r1, e2, hf⟩ := bnd_some hf
  rcases r1 with v9 | r1
  · have hf := sm_l hf
    refine v_xcallV (pc := 2) (As := [.int a1]) F cl_X10_162 dX10_order_2 (kX10_needRoom hT e2) kc_0.1 kc_0.2 rc_9 rfl rfl (Nat.le_of_ble_eq_true rfl) (by decide) (by decide) ?_
    refine v_iload_n (pc := 5) (j := 2) F dX10_order_5 rfl rfl ?_
    refine v_iconst (pc := 6) (v := (-1)) F dX10_order_6 ic_m1 ?_
    refine v_icmp_eq (pc := 7) (tgt := 33) F dX10_order_7 (by decide) (fun c3 => ?_) (fun c3 => ?_)
    · have hf := ite_t hf c3
      exact tX10_order_33 F hr hT hex hf
    · have hf := ite_f hf c3
      refine v_iload_n (pc := 10) (j := 2) F dX10_order_10 rfl rfl ?_
      refine v_if_lt (pc := 11) (tgt := 25) F dX10_order_11 (by decide) (fun c9 => ?_) (fun c9 => ?_)
      · have hf := ite_t hf c9
        refine V.sub (lv' := []) [] rfl ?_
        exact tX10_order_25 F hr hT hex hf
      · have hf := ite_f hf c9
        refine v_iload_n (pc := 14) (j := 2) F dX10_order_14 rfl rfl ?_
        refine v_aload_n (pc := 15) (j := 0) F dX10_order_15 rfl rfl ?_
        obtain ⟨f10, e11, hf⟩ := bnd_some hf
        obtain ⟨ho_f10, hk_f10, e11⟩ := rf_in e11
        refine v_ifl (pc := 16) F fl_X10_23 dX10_order_16 kc_0.1 kc_0.2 (fv_9_3 e11) ?_
        refine v_ifl (pc := 19) F fl_X10_110 dX10_order_19 ho_f10 hk_f10 fv_1_8 ?_
        refine v_icmp_lt (pc := 22) (tgt := 33) F dX10_order_22 (by decide) (fun c12 => ?_) (fun c12 => ?_)
        · have hf := ite_t hf c12
          exact tX10_order_33 F hr hT hex hf
        · have hf := ite_f hf c12
          refine V.sub (lv' := []) [] rfl ?_
          exact tX10_order_25 F hr hT hex hf
  · have hf := sm_r hf
    exact v_xcallX (pc := 2) (As := [.int a1]) F cl_X10_162 dX10_order_2 (kX10_needRoom hT e2) kc_0.1 kc_0.2 rc_9 rfl rfl (Nat.le_of_ble_eq_true rfl) (by decide) (by decide) hex (congrArg ocI (some_fst hf)) (some_snd hf)
def fX5_clear (h : ST) (o : Nat) : Option (ST) :=
  bnd (pw h o 1 0) fun h1 =>
  some h1
set_option maxRecDepth 100000 in
set_option maxHeartbeats 4000000 in
theorem kX5_clear {l : Launch} {g : GE} {B : Nat} {h : ST} {o : Nat} (ho_o : o < 395) (hk_o : KC o = (4, 0)) {y : ST} (hf : fX5_clear h o = some y) : CT l yX5_clear cX5_clear 1 none 1 KC 395 g B [.ref (gA g o)] h none y := by
  refine CT.of pn_X5 (Nat.le_of_ble_eq_true rfl) ?_
  intro p e s m below meth c hr F
  have F : Fx p s m _ meth c cX5_clear 1 "DustParish$Rule" 395 g B := F
  refine V_lv (lv' := [(0, .ref (gA g o))]) rfl ?_
  unfold fX5_clear at hf
  refine v_aload_n (pc := 0) (j := 0) F dX5_clear_0 rfl rfl ?_
  refine v_iconst (pc := 1) (v := 0) F dX5_clear_1 ic_0 ?_
  obtain ⟨h1, e2, hf⟩ := bnd_some hf
  refine v_pfl (pc := 2) F fl_X5_15 pl_4_1 dX5_clear_2 ho_o hk_o fv_4_1 rfl rfl e2 ?_
  exact v_vret (pc := 5) F hr dX5_clear_5 (Option.some.inj hf) (Nat.zero_le _)
def fX2_clear (h : ST) (o : Nat) : Option (ST) :=
  bnd (pw h o 0 0) fun h1 =>
  bnd (pw h1 o 5 0) fun h3 =>
  bnd (pw h3 o 8 0) fun h5 =>
  bnd (pw h5 o 13 0) fun h7 =>
  bnd (pw h7 o 15 7) fun h9 =>
  bnd (pw h9 o 16 10) fun h11 =>
  bnd (fX5_clear h11 (o + 12)) fun r13 =>
  bnd (fJ7_fill_53178 r13 (o + 16) 81 (-1)) fun r15 =>
  some r15
set_option maxRecDepth 100000 in
set_option maxHeartbeats 4000000 in
theorem kX2_clear {l : Launch} {g : GE} {B : Nat} {h : ST} {o : Nat} (ho_o : o < 395) (hk_o : KC o = (1, 0)) {y : ST} (hf : fX2_clear h o = some y) : CT l yX2_clear cX2_clear 1 none 2 KC 395 g B [.ref (gA g o)] h none y := by
  refine CT.of pn_X2 (Nat.le_of_ble_eq_true rfl) ?_
  intro p e s m below meth c hr F
  have F : Fx p s m _ meth c cX2_clear 1 "DustParish$Facts" 395 g B := F
  refine V_lv (lv' := [(0, .ref (gA g o))]) rfl ?_
  unfold fX2_clear at hf
  refine v_aload_n (pc := 0) (j := 0) F dX2_clear_0 rfl rfl ?_
  refine v_iconst (pc := 1) (v := 0) F dX2_clear_1 ic_0 ?_
  obtain ⟨h1, e2, hf⟩ := bnd_some hf
  refine v_pfl (pc := 2) F fl_X2_58 pl_1_0 dX2_clear_2 ho_o hk_o fv_1_0 rfl rfl e2 ?_
  refine v_aload_n (pc := 5) (j := 0) F dX2_clear_5 rfl rfl ?_
  refine v_iconst (pc := 6) (v := 0) F dX2_clear_6 ic_0 ?_
  obtain ⟨h3, e4, hf⟩ := bnd_some hf
  refine v_pfl (pc := 7) F fl_X2_62 pl_1_5 dX2_clear_7 ho_o hk_o fv_1_5 rfl rfl e4 ?_
  refine v_aload_n (pc := 10) (j := 0) F dX2_clear_10 rfl rfl ?_
  refine v_iconst (pc := 11) (v := 0) F dX2_clear_11 ic_0 ?_
  obtain ⟨h5, e6, hf⟩ := bnd_some hf
  refine v_pfl (pc := 12) F fl_X2_65 pl_1_8 dX2_clear_12 ho_o hk_o fv_1_8 rfl rfl e6 ?_
  refine v_aload_n (pc := 15) (j := 0) F dX2_clear_15 rfl rfl ?_
  refine v_iconst (pc := 16) (v := 0) F dX2_clear_16 ic_0 ?_
  obtain ⟨h7, e8, hf⟩ := bnd_some hf
  refine v_pfl (pc := 17) F fl_X2_68 pl_1_13 dX2_clear_17 ho_o hk_o fv_1_13 rfl rfl e8 ?_
  refine v_aload_n (pc := 20) (j := 0) F dX2_clear_20 rfl rfl ?_
  refine v_bipush (pc := 21) (v := 7) F dX2_clear_21 bp_7 ?_
  obtain ⟨h9, e10, hf⟩ := bnd_some hf
  refine v_pfl (pc := 23) F fl_X2_71 pl_1_15 dX2_clear_23 ho_o hk_o fv_1_15 rfl rfl e10 ?_
  refine v_aload_n (pc := 26) (j := 0) F dX2_clear_26 rfl rfl ?_
  refine v_bipush (pc := 27) (v := 10) F dX2_clear_27 bp_10 ?_
  obtain ⟨h11, e12, hf⟩ := bnd_some hf
  refine v_pfl (pc := 29) F fl_X2_74 pl_1_16 dX2_clear_29 ho_o hk_o fv_1_16 rfl rfl e12 ?_
  refine v_aload_n (pc := 32) (j := 0) F dX2_clear_32 rfl rfl ?_
  refine v_ifl (pc := 33) F fl_X2_48 dX2_clear_33 ho_o hk_o fv_1_17 ?_
  obtain ⟨r13, e14, hf⟩ := bnd_some hf
  refine v_callVv (pc := 36) (As := []) F cl_X2_77 dX2_clear_36 (kX5_clear (ly_1_17 ho_o hk_o).1 (ly_1_17 ho_o hk_o).2 e14) (ly_1_17 ho_o hk_o).1 (ly_1_17 ho_o hk_o).2 rc_4 rfl rfl (Nat.le_of_ble_eq_true rfl) (by decide) (Nat.zero_le _) ?_
  refine v_aload_n (pc := 39) (j := 0) F dX2_clear_39 rfl rfl ?_
  refine v_ifl (pc := 40) F fl_X2_52 dX2_clear_40 ho_o hk_o fv_1_18 ?_
  refine v_iconst (pc := 43) (v := (-1)) F dX2_clear_43 ic_m1 ?_
  obtain ⟨r15, e16, hf⟩ := bnd_some hf
  refine v_callSv (pc := 44) (As := [.ref (gA g (o + 16)), .int (-1)]) F cl_X2_80 dX2_clear_44 (kJ7_fill_53178 (ly_1_18 ho_o hk_o).1 (ly_1_18 ho_o hk_o).2 e16) rfl rfl (Nat.le_of_ble_eq_true rfl) (by decide) (Nat.zero_le _) ?_
  exact v_vret (pc := 47) F hr dX2_clear_47 (Option.some.inj hf) (Nat.zero_le _)
def fX9_isBlank_17 (h : ST) (q0 : Int32) : Option (Int32) :=
  bnd (zb q0) fun z2 =>
  some z2
def fX9_isBlank_12 (h : ST)  : Option (Int32) :=
  fX9_isBlank_17 h 1
def fX9_isBlank (h : ST) (a1 : Int32) : Option (Int32) :=
  if a1 = 32 then
  fX9_isBlank_12 h 
  else
  if a1 = 10 then
    fX9_isBlank_12 h 
    else
    fX9_isBlank_17 h 0
set_option maxRecDepth 100000 in
set_option maxHeartbeats 4000000 in
theorem tX9_isBlank_17 {p : Program} {l : Launch} {e : Env} {s : State} {m : MethodId} {args : Array Value} {below : List Frame} {meth : Method} {c : Code} {g : GE} {B : Nat} {h : ST}  {q0 : Int32} (F : Fx p s m args meth c cX9_isBlank 1 "DustParish$Tokens" 395 g B)
    {y : Int32} (hr : meth.sig.returnType = (some .boolean)) (hf : fX9_isBlank_17 h q0 = some y) : V p l e 1 0 s m args below meth c (MQ below (QO KC 395 g (some (.int y)) h) args s 0 (6 * 0) (WA 395 g)) KC 395 g B 1 0 h 17 [] [.int q0] := by
  unfold fX9_isBlank_17 at hf
  obtain ⟨z2, e3, hf⟩ := bnd_some hf
  exact v_zret (pc := 17) F hr dX9_isBlank_17 (zb_in e3).2 ((zb_in e3).1.symm.trans (Option.some.inj hf)) rfl (Nat.zero_le _)
set_option maxRecDepth 100000 in
set_option maxHeartbeats 4000000 in
theorem tX9_isBlank_12 {p : Program} {l : Launch} {e : Env} {s : State} {m : MethodId} {args : Array Value} {below : List Frame} {meth : Method} {c : Code} {g : GE} {B : Nat} {h : ST}  (F : Fx p s m args meth c cX9_isBlank 1 "DustParish$Tokens" 395 g B)
    {y : Int32} (hr : meth.sig.returnType = (some .boolean)) (hf : fX9_isBlank_12 h  = some y) : V p l e 1 0 s m args below meth c (MQ below (QO KC 395 g (some (.int y)) h) args s 0 (6 * 0) (WA 395 g)) KC 395 g B 1 0 h 12 [] [] := by
  unfold fX9_isBlank_12 at hf
  refine v_iconst (pc := 12) (v := 1) F dX9_isBlank_12 ic_1 ?_
  refine v_goto (pc := 13) (tgt := 17) F dX9_isBlank_13 (by decide) ?_
  exact tX9_isBlank_17 F hr hf
set_option maxRecDepth 100000 in
set_option maxHeartbeats 4000000 in
theorem kX9_isBlank {l : Launch} {g : GE} {B : Nat} {h : ST} {a1 : Int32} {y : Int32} (hf : fX9_isBlank h a1 = some y) : CT l yX9_isBlank cX9_isBlank 1 (some .boolean) 1 KC 395 g B [.int a1] h (some (.int y)) h := by
  refine CT.of pn_X9 (Nat.le_of_ble_eq_true rfl) ?_
  intro p e s m below meth c hr F
  have F : Fx p s m _ meth c cX9_isBlank 1 "DustParish$Tokens" 395 g B := F
  refine V_lv (lv' := [(0, .int a1)]) rfl ?_
  unfold fX9_isBlank at hf
  refine v_iload_n (pc := 0) (j := 0) F dX9_isBlank_0 rfl rfl ?_
  refine v_bipush (pc := 1) (v := 32) F dX9_isBlank_1 bp_32 ?_
  refine v_icmp_eq (pc := 3) (tgt := 12) F dX9_isBlank_3 (by decide) (fun c1 => ?_) (fun c1 => ?_)
  · have hf := ite_t hf c1
    refine V.sub (lv' := []) [] rfl ?_
    exact tX9_isBlank_12 F hr hf
  · have hf := ite_f hf c1
    refine v_iload_n (pc := 6) (j := 0) F dX9_isBlank_6 rfl rfl ?_
    refine v_bipush (pc := 7) (v := 10) F dX9_isBlank_7 bp_10 ?_
    refine v_icmp_ne (pc := 9) (tgt := 16) F dX9_isBlank_9 (by decide) (fun c4 => ?_) (fun c4 => ?_)
    · have hf := ite_f hf c4
      refine v_iconst (pc := 16) (v := 0) F dX9_isBlank_16 ic_0 ?_
      refine V.sub (lv' := []) [] rfl ?_
      exact tX9_isBlank_17 F hr hf
    · have hf := ite_t hf c4
      refine V.sub (lv' := []) [] rfl ?_
      exact tX9_isBlank_12 F hr hf
def fX9_isLetter_17 (h : ST) (q0 : Int32) : Option (Int32) :=
  bnd (zb q0) fun z2 =>
  some z2
def fX9_isLetter_16 (h : ST)  : Option (Int32) :=
  fX9_isLetter_17 h 0
def fX9_isLetter (h : ST) (a1 : Int32) : Option (Int32) :=
  if a1 < 97 then
  fX9_isLetter_16 h 
  else
  if 122 < a1 then
    fX9_isLetter_16 h 
    else
    fX9_isLetter_17 h 1
set_option maxRecDepth 100000 in
set_option maxHeartbeats 4000000 in
theorem tX9_isLetter_17 {p : Program} {l : Launch} {e : Env} {s : State} {m : MethodId} {args : Array Value} {below : List Frame} {meth : Method} {c : Code} {g : GE} {B : Nat} {h : ST}  {q0 : Int32} (F : Fx p s m args meth c cX9_isLetter 1 "DustParish$Tokens" 395 g B)
    {y : Int32} (hr : meth.sig.returnType = (some .boolean)) (hf : fX9_isLetter_17 h q0 = some y) : V p l e 1 0 s m args below meth c (MQ below (QO KC 395 g (some (.int y)) h) args s 0 (6 * 0) (WA 395 g)) KC 395 g B 1 0 h 17 [] [.int q0] := by
  unfold fX9_isLetter_17 at hf
  obtain ⟨z2, e3, hf⟩ := bnd_some hf
  exact v_zret (pc := 17) F hr dX9_isLetter_17 (zb_in e3).2 ((zb_in e3).1.symm.trans (Option.some.inj hf)) rfl (Nat.zero_le _)
set_option maxRecDepth 100000 in
set_option maxHeartbeats 4000000 in
theorem tX9_isLetter_16 {p : Program} {l : Launch} {e : Env} {s : State} {m : MethodId} {args : Array Value} {below : List Frame} {meth : Method} {c : Code} {g : GE} {B : Nat} {h : ST}  (F : Fx p s m args meth c cX9_isLetter 1 "DustParish$Tokens" 395 g B)
    {y : Int32} (hr : meth.sig.returnType = (some .boolean)) (hf : fX9_isLetter_16 h  = some y) : V p l e 1 0 s m args below meth c (MQ below (QO KC 395 g (some (.int y)) h) args s 0 (6 * 0) (WA 395 g)) KC 395 g B 1 0 h 16 [] [] := by
  unfold fX9_isLetter_16 at hf
  refine v_iconst (pc := 16) (v := 0) F dX9_isLetter_16 ic_0 ?_
  exact tX9_isLetter_17 F hr hf
set_option maxRecDepth 100000 in
set_option maxHeartbeats 4000000 in
theorem kX9_isLetter {l : Launch} {g : GE} {B : Nat} {h : ST} {a1 : Int32} {y : Int32} (hf : fX9_isLetter h a1 = some y) : CT l yX9_isLetter cX9_isLetter 1 (some .boolean) 1 KC 395 g B [.int a1] h (some (.int y)) h := by
  refine CT.of pn_X9 (Nat.le_of_ble_eq_true rfl) ?_
  intro p e s m below meth c hr F
  have F : Fx p s m _ meth c cX9_isLetter 1 "DustParish$Tokens" 395 g B := F
  refine V_lv (lv' := [(0, .int a1)]) rfl ?_
  unfold fX9_isLetter at hf
  refine v_iload_n (pc := 0) (j := 0) F dX9_isLetter_0 rfl rfl ?_
  refine v_bipush (pc := 1) (v := 97) F dX9_isLetter_1 bp_97 ?_
  refine v_icmp_lt (pc := 3) (tgt := 16) F dX9_isLetter_3 (by decide) (fun c1 => ?_) (fun c1 => ?_)
  · have hf := ite_t hf c1
    refine V.sub (lv' := []) [] rfl ?_
    exact tX9_isLetter_16 F hr hf
  · have hf := ite_f hf c1
    refine v_iload_n (pc := 6) (j := 0) F dX9_isLetter_6 rfl rfl ?_
    refine v_bipush (pc := 7) (v := 122) F dX9_isLetter_7 bp_122 ?_
    refine v_icmp_gt (pc := 9) (tgt := 16) F dX9_isLetter_9 (by decide) (fun c4 => ?_) (fun c4 => ?_)
    · have hf := ite_t hf c4
      refine V.sub (lv' := []) [] rfl ?_
      exact tX9_isLetter_16 F hr hf
    · have hf := ite_f hf c4
      refine v_iconst (pc := 12) (v := 1) F dX9_isLetter_12 ic_1 ?_
      refine v_goto (pc := 13) (tgt := 17) F dX9_isLetter_13 (by decide) ?_
      refine V.sub (lv' := []) [] rfl ?_
      exact tX9_isLetter_17 F hr hf
def fX9_isDigit_17 (h : ST) (q0 : Int32) : Option (Int32) :=
  bnd (zb q0) fun z2 =>
  some z2
def fX9_isDigit_16 (h : ST)  : Option (Int32) :=
  fX9_isDigit_17 h 0
def fX9_isDigit (h : ST) (a1 : Int32) : Option (Int32) :=
  if a1 < 48 then
  fX9_isDigit_16 h 
  else
  if 57 < a1 then
    fX9_isDigit_16 h 
    else
    fX9_isDigit_17 h 1
set_option maxRecDepth 100000 in
set_option maxHeartbeats 4000000 in
theorem tX9_isDigit_17 {p : Program} {l : Launch} {e : Env} {s : State} {m : MethodId} {args : Array Value} {below : List Frame} {meth : Method} {c : Code} {g : GE} {B : Nat} {h : ST}  {q0 : Int32} (F : Fx p s m args meth c cX9_isDigit 1 "DustParish$Tokens" 395 g B)
    {y : Int32} (hr : meth.sig.returnType = (some .boolean)) (hf : fX9_isDigit_17 h q0 = some y) : V p l e 1 0 s m args below meth c (MQ below (QO KC 395 g (some (.int y)) h) args s 0 (6 * 0) (WA 395 g)) KC 395 g B 1 0 h 17 [] [.int q0] := by
  unfold fX9_isDigit_17 at hf
  obtain ⟨z2, e3, hf⟩ := bnd_some hf
  exact v_zret (pc := 17) F hr dX9_isDigit_17 (zb_in e3).2 ((zb_in e3).1.symm.trans (Option.some.inj hf)) rfl (Nat.zero_le _)
set_option maxRecDepth 100000 in
set_option maxHeartbeats 4000000 in
theorem tX9_isDigit_16 {p : Program} {l : Launch} {e : Env} {s : State} {m : MethodId} {args : Array Value} {below : List Frame} {meth : Method} {c : Code} {g : GE} {B : Nat} {h : ST}  (F : Fx p s m args meth c cX9_isDigit 1 "DustParish$Tokens" 395 g B)
    {y : Int32} (hr : meth.sig.returnType = (some .boolean)) (hf : fX9_isDigit_16 h  = some y) : V p l e 1 0 s m args below meth c (MQ below (QO KC 395 g (some (.int y)) h) args s 0 (6 * 0) (WA 395 g)) KC 395 g B 1 0 h 16 [] [] := by
  unfold fX9_isDigit_16 at hf
  refine v_iconst (pc := 16) (v := 0) F dX9_isDigit_16 ic_0 ?_
  exact tX9_isDigit_17 F hr hf
set_option maxRecDepth 100000 in
set_option maxHeartbeats 4000000 in
theorem kX9_isDigit {l : Launch} {g : GE} {B : Nat} {h : ST} {a1 : Int32} {y : Int32} (hf : fX9_isDigit h a1 = some y) : CT l yX9_isDigit cX9_isDigit 1 (some .boolean) 1 KC 395 g B [.int a1] h (some (.int y)) h := by
  refine CT.of pn_X9 (Nat.le_of_ble_eq_true rfl) ?_
  intro p e s m below meth c hr F
  have F : Fx p s m _ meth c cX9_isDigit 1 "DustParish$Tokens" 395 g B := F
  refine V_lv (lv' := [(0, .int a1)]) rfl ?_
  unfold fX9_isDigit at hf
  refine v_iload_n (pc := 0) (j := 0) F dX9_isDigit_0 rfl rfl ?_
  refine v_bipush (pc := 1) (v := 48) F dX9_isDigit_1 bp_48 ?_
  refine v_icmp_lt (pc := 3) (tgt := 16) F dX9_isDigit_3 (by decide) (fun c1 => ?_) (fun c1 => ?_)
  · have hf := ite_t hf c1
    refine V.sub (lv' := []) [] rfl ?_
    exact tX9_isDigit_16 F hr hf
  · have hf := ite_f hf c1
    refine v_iload_n (pc := 6) (j := 0) F dX9_isDigit_6 rfl rfl ?_
    refine v_bipush (pc := 7) (v := 57) F dX9_isDigit_7 bp_57 ?_
    refine v_icmp_gt (pc := 9) (tgt := 16) F dX9_isDigit_9 (by decide) (fun c4 => ?_) (fun c4 => ?_)
    · have hf := ite_t hf c4
      refine V.sub (lv' := []) [] rfl ?_
      exact tX9_isDigit_16 F hr hf
    · have hf := ite_f hf c4
      refine v_iconst (pc := 12) (v := 1) F dX9_isDigit_12 ic_1 ?_
      refine v_goto (pc := 13) (tgt := 17) F dX9_isDigit_13 (by decide) ?_
      refine V.sub (lv' := []) [] rfl ?_
      exact tX9_isDigit_17 F hr hf
def fX9_takeNumber_72 (h : ST) (q1 : Int32) : Option (ST ⊕ ST) :=
  bnd (pw h 39 2 q1) fun h10 =>
  bnd (pw h10 39 4 ((h10 39 4) + 1)) fun h12 =>
  some (.inl h12)
def fX9_takeNumber_5 (s1 : ST) : Option (ST ⊕ ST) :=
  if (s1 39 5) ≤ (s1 39 4) then
  some (.inr s1)
  else
  bnd (rd 700 (s1 1) (s1 39 4)) fun v4 =>
    bnd (fX9_isDigit s1 v4) fun r6 =>
    if r6 = 0 then
    some (.inr s1)
    else
    if 4 ≤ ((s1 39 4) - (s1 39 1)) then
      fX9_takeNumber_72 s1 (s1 39 2)
      else
      bnd (rd 700 (s1 1) (s1 39 4)) fun v14 =>
        fX9_takeNumber_72 s1 ((((s1 39 2) * 10) + v14) - 48)
def fX9_takeNumber_107 (h : ST) (q1 : Int32) : Option (ST) :=
  bnd (zb q1) fun z19 =>
  bnd (pw h 39 3 q1) fun h21 =>
  some h21
def fX9_takeNumber_88 (h : ST)  : Option (ST) :=
  if ((h 39 4) - (h 39 1)) ≤ 4 then
  fX9_takeNumber_107 h 0
  else
  fX9_takeNumber_107 h 1
def fX9_takeNumber (h : ST) : Option (ST) :=
  bnd (pw h 39 2 0) fun h1 =>
  bnd (lp FU (fX9_takeNumber_5) h1) fun x16 =>
  fX9_takeNumber_88 x16 
set_option maxRecDepth 100000 in
set_option maxHeartbeats 4000000 in
theorem tX9_takeNumber_72 {p : Program} {l : Launch} {e : Env} {s : State} {m : MethodId} {args : Array Value} {below : List Frame} {meth : Method} {c : Code} {g : GE} {B : Nat} {h : ST}  {q1 : Int32} (F : Fx p s m args meth c cX9_takeNumber 1 "DustParish$Tokens" 395 g B)
    {Q : State → Prop} {y : ST ⊕ ST} (hk : ∀ v : ST, y = Sum.inl v → V p l e 2 0 s m args below meth c Q KC 395 g B 1 0 v 5 [(0, .ref (gA g 39))] []) (hx0 : ∀ v : ST, y = Sum.inr v → V p l e 2 0 s m args below meth c Q KC 395 g B 1 0 v 88 [(0, .ref (gA g 39))] []) (hf : fX9_takeNumber_72 h q1 = some y) : V p l e 2 0 s m args below meth c Q KC 395 g B 1 0 h 72 [(0, .ref (gA g 39))] [.int q1, .ref (gA g 39)] := by
  unfold fX9_takeNumber_72 at hf
  obtain ⟨h10, e11, hf⟩ := bnd_some hf
  refine v_pfl (pc := 72) F fl_X9_16 pl_8_2 dX9_takeNumber_72 kc_39.1 kc_39.2 fv_8_2 rfl rfl e11 ?_
  refine v_aload_n (pc := 75) (j := 0) F dX9_takeNumber_75 rfl rfl ?_
  refine v_dup (pc := 76) F dX9_takeNumber_76 rfl ?_
  refine v_ifl (pc := 77) F fl_X9_23 dX9_takeNumber_77 kc_39.1 kc_39.2 fv_8_4 ?_
  refine v_iconst (pc := 80) (v := 1) F dX9_takeNumber_80 ic_1 ?_
  refine v_iadd (pc := 81) F dX9_takeNumber_81 ?_
  obtain ⟨h12, e13, hf⟩ := bnd_some hf
  refine v_pfl (pc := 82) F fl_X9_23 pl_8_4 dX9_takeNumber_82 kc_39.1 kc_39.2 fv_8_4 rfl rfl e13 ?_
  refine v_goto (pc := 85) (tgt := 5) F dX9_takeNumber_85 (by decide) ?_
  exact hk h12 (Option.some.inj hf).symm
set_option maxRecDepth 100000 in
set_option maxHeartbeats 4000000 in
theorem tX9_takeNumber_5 {p : Program} {l : Launch} {e : Env} {s : State} {m : MethodId} {args : Array Value} {below : List Frame} {meth : Method} {c : Code} {g : GE} {B : Nat}   {Q : State → Prop} {x : ST} {nf : Nat} {s0 : ST} (F : Fx p s m args meth c cX9_takeNumber 1 "DustParish$Tokens" 395 g B) (hX0 : V p l e 2 0 s m args below meth c Q KC 395 g B 1 0 x 88 [(0, .ref (gA g 39))] []) (hl : lp nf (fX9_takeNumber_5) s0 = some x) : V p l e 2 0 s m args below meth c Q KC 395 g B 1 0 s0 5 [(0, .ref (gA g 39))] [] := by
  refine lp_ind (P := fun s0 => V p l e 2 0 s m args below meth c Q KC 395 g B 1 0 s0 5 [(0, .ref (gA g 39))] []) ?_ nf s0 hl
  intro s1 y hf hk hx
  have hx0 : ∀ v : ST, y = Sum.inr v → V p l e 2 0 s m args below meth c Q KC 395 g B 1 0 v 88 [(0, .ref (gA g 39))] [] := fun v e9 => by rw [hx v e9]; exact hX0
  unfold fX9_takeNumber_5 at hf
  refine v_aload_n (pc := 5) (j := 0) F dX9_takeNumber_5 rfl rfl ?_
  refine v_ifl (pc := 6) F fl_X9_23 dX9_takeNumber_6 kc_39.1 kc_39.2 fv_8_4 ?_
  refine v_aload_n (pc := 9) (j := 0) F dX9_takeNumber_9 rfl rfl ?_
  refine v_ifl (pc := 10) F fl_X9_26 dX9_takeNumber_10 kc_39.1 kc_39.2 fv_8_5 ?_
  refine v_icmp_ge (pc := 13) (tgt := 88) F dX9_takeNumber_13 (by decide) (fun c3 => ?_) (fun c3 => ?_)
  · have hf := ite_t hf c3
    exact hx0 s1 (Option.some.inj hf).symm
  · have hf := ite_f hf c3
    refine v_aload_n (pc := 16) (j := 0) F dX9_takeNumber_16 rfl rfl ?_
    refine v_ifl (pc := 17) F fl_X9_29 dX9_takeNumber_17 kc_39.1 kc_39.2 fv_8_6 ?_
    refine v_aload_n (pc := 20) (j := 0) F dX9_takeNumber_20 rfl rfl ?_
    refine v_ifl (pc := 21) F fl_X9_23 dX9_takeNumber_21 kc_39.1 kc_39.2 fv_8_4 ?_
    obtain ⟨v4, e5, hf⟩ := bnd_some hf
    refine v_bald (pc := 24) F dX9_takeNumber_24 kc_1.1 kc_1.2 e5 ?_
    obtain ⟨r6, e7, hf⟩ := bnd_some hf
    refine v_callSi (pc := 25) (As := [.int v4]) F cl_X9_49 dX9_takeNumber_25 (kX9_isDigit e7) rfl rfl (Nat.le_of_ble_eq_true rfl) (by decide) (Nat.zero_le _) ?_
    refine v_if_eq (pc := 28) (tgt := 88) F dX9_takeNumber_28 (by decide) (fun c8 => ?_) (fun c8 => ?_)
    · have hf := ite_t hf c8
      exact hx0 s1 (Option.some.inj hf).symm
    · have hf := ite_f hf c8
      refine v_aload_n (pc := 31) (j := 0) F dX9_takeNumber_31 rfl rfl ?_
      refine v_aload_n (pc := 32) (j := 0) F dX9_takeNumber_32 rfl rfl ?_
      refine v_ifl (pc := 33) F fl_X9_23 dX9_takeNumber_33 kc_39.1 kc_39.2 fv_8_4 ?_
      refine v_aload_n (pc := 36) (j := 0) F dX9_takeNumber_36 rfl rfl ?_
      refine v_ifl (pc := 37) F fl_X9_13 dX9_takeNumber_37 kc_39.1 kc_39.2 fv_8_1 ?_
      refine v_isub (pc := 40) F dX9_takeNumber_40 ?_
      refine v_iconst (pc := 41) (v := 4) F dX9_takeNumber_41 ic_4 ?_
      refine v_icmp_ge (pc := 42) (tgt := 68) F dX9_takeNumber_42 (by decide) (fun c9 => ?_) (fun c9 => ?_)
      · have hf := ite_t hf c9
        refine v_aload_n (pc := 68) (j := 0) F dX9_takeNumber_68 rfl rfl ?_
        refine v_ifl (pc := 69) F fl_X9_16 dX9_takeNumber_69 kc_39.1 kc_39.2 fv_8_2 ?_
        exact tX9_takeNumber_72 F hk hx0 hf
      · have hf := ite_f hf c9
        refine v_aload_n (pc := 45) (j := 0) F dX9_takeNumber_45 rfl rfl ?_
        refine v_ifl (pc := 46) F fl_X9_16 dX9_takeNumber_46 kc_39.1 kc_39.2 fv_8_2 ?_
        refine v_bipush (pc := 49) (v := 10) F dX9_takeNumber_49 bp_10 ?_
        refine v_imul (pc := 51) F dX9_takeNumber_51 ?_
        refine v_aload_n (pc := 52) (j := 0) F dX9_takeNumber_52 rfl rfl ?_
        refine v_ifl (pc := 53) F fl_X9_29 dX9_takeNumber_53 kc_39.1 kc_39.2 fv_8_6 ?_
        refine v_aload_n (pc := 56) (j := 0) F dX9_takeNumber_56 rfl rfl ?_
        refine v_ifl (pc := 57) F fl_X9_23 dX9_takeNumber_57 kc_39.1 kc_39.2 fv_8_4 ?_
        obtain ⟨v14, e15, hf⟩ := bnd_some hf
        refine v_bald (pc := 60) F dX9_takeNumber_60 kc_1.1 kc_1.2 e15 ?_
        refine v_iadd (pc := 61) F dX9_takeNumber_61 ?_
        refine v_bipush (pc := 62) (v := 48) F dX9_takeNumber_62 bp_48 ?_
        refine v_isub (pc := 64) F dX9_takeNumber_64 ?_
        refine v_goto (pc := 65) (tgt := 72) F dX9_takeNumber_65 (by decide) ?_
        exact tX9_takeNumber_72 F hk hx0 hf
set_option maxRecDepth 100000 in
set_option maxHeartbeats 4000000 in
theorem tX9_takeNumber_107 {p : Program} {l : Launch} {e : Env} {s : State} {m : MethodId} {args : Array Value} {below : List Frame} {meth : Method} {c : Code} {g : GE} {B : Nat} {h : ST}  {q1 : Int32} (F : Fx p s m args meth c cX9_takeNumber 1 "DustParish$Tokens" 395 g B)
    {y : ST} (hr : meth.sig.returnType = none) (hf : fX9_takeNumber_107 h q1 = some y) : V p l e 2 0 s m args below meth c (MQ below (QO KC 395 g none y) args s 0 (6 * 0) (WA 395 g)) KC 395 g B 1 0 h 107 [] [.int q1, .ref (gA g 39)] := by
  unfold fX9_takeNumber_107 at hf
  obtain ⟨z19, e20, hf⟩ := bnd_some hf
  obtain ⟨h21, e22, hf⟩ := bnd_some hf
  refine v_pfl (pc := 107) F fl_X9_19 pl_8_3 dX9_takeNumber_107 kc_39.1 kc_39.2 fv_8_3 (zb_in e20).2 (zb_fit e20) e22 ?_
  exact v_vret (pc := 110) F hr dX9_takeNumber_110 (Option.some.inj hf) (Nat.zero_le _)
set_option maxRecDepth 100000 in
set_option maxHeartbeats 4000000 in
theorem tX9_takeNumber_88 {p : Program} {l : Launch} {e : Env} {s : State} {m : MethodId} {args : Array Value} {below : List Frame} {meth : Method} {c : Code} {g : GE} {B : Nat} {h : ST}  (F : Fx p s m args meth c cX9_takeNumber 1 "DustParish$Tokens" 395 g B)
    {y : ST} (hr : meth.sig.returnType = none) (hf : fX9_takeNumber_88 h  = some y) : V p l e 2 0 s m args below meth c (MQ below (QO KC 395 g none y) args s 0 (6 * 0) (WA 395 g)) KC 395 g B 1 0 h 88 [(0, .ref (gA g 39))] [] := by
  unfold fX9_takeNumber_88 at hf
  refine v_aload_n (pc := 88) (j := 0) F dX9_takeNumber_88 rfl rfl ?_
  refine v_aload_n (pc := 89) (j := 0) F dX9_takeNumber_89 rfl rfl ?_
  refine v_ifl (pc := 90) F fl_X9_23 dX9_takeNumber_90 kc_39.1 kc_39.2 fv_8_4 ?_
  refine v_aload_n (pc := 93) (j := 0) F dX9_takeNumber_93 rfl rfl ?_
  refine v_ifl (pc := 94) F fl_X9_13 dX9_takeNumber_94 kc_39.1 kc_39.2 fv_8_1 ?_
  refine v_isub (pc := 97) F dX9_takeNumber_97 ?_
  refine v_iconst (pc := 98) (v := 4) F dX9_takeNumber_98 ic_4 ?_
  refine v_icmp_le (pc := 99) (tgt := 106) F dX9_takeNumber_99 (by decide) (fun c18 => ?_) (fun c18 => ?_)
  · have hf := ite_t hf c18
    refine v_iconst (pc := 106) (v := 0) F dX9_takeNumber_106 ic_0 ?_
    refine V.sub (lv' := []) [] rfl ?_
    exact tX9_takeNumber_107 F hr hf
  · have hf := ite_f hf c18
    refine v_iconst (pc := 102) (v := 1) F dX9_takeNumber_102 ic_1 ?_
    refine v_goto (pc := 103) (tgt := 107) F dX9_takeNumber_103 (by decide) ?_
    refine V.sub (lv' := []) [] rfl ?_
    exact tX9_takeNumber_107 F hr hf
set_option maxRecDepth 100000 in
set_option maxHeartbeats 4000000 in
theorem kX9_takeNumber {l : Launch} {g : GE} {B : Nat} {h : ST} {y : ST} (hf : fX9_takeNumber h = some y) : CT l yX9_takeNumber cX9_takeNumber 1 none 2 KC 395 g B [.ref (gA g 39)] h none y := by
  refine CT.of pn_X9 (Nat.le_of_ble_eq_true rfl) ?_
  intro p e s m below meth c hr F
  have F : Fx p s m _ meth c cX9_takeNumber 1 "DustParish$Tokens" 395 g B := F
  refine V_lv (lv' := [(0, .ref (gA g 39))]) rfl ?_
  unfold fX9_takeNumber at hf
  refine v_aload_n (pc := 0) (j := 0) F dX9_takeNumber_0 rfl rfl ?_
  refine v_iconst (pc := 1) (v := 0) F dX9_takeNumber_1 ic_0 ?_
  obtain ⟨h1, e2, hf⟩ := bnd_some hf
  refine v_pfl (pc := 2) F fl_X9_16 pl_8_2 dX9_takeNumber_2 kc_39.1 kc_39.2 fv_8_2 rfl rfl e2 ?_
  obtain ⟨x16, e17, hf⟩ := bnd_some hf
  refine tX9_takeNumber_5 (s0 := h1) F ?_ e17
  exact tX9_takeNumber_88 F hr hf
def fX9_step_0 (s1 : ST) : Option (ST ⊕ ST) :=
  if (s1 39 5) ≤ (s1 39 4) then
  some (.inr s1)
  else
  bnd (rd 700 (s1 1) (s1 39 4)) fun v2 =>
    bnd (fX9_isBlank s1 v2) fun r4 =>
    if r4 = 0 then
    some (.inr s1)
    else
    bnd (pw s1 39 4 ((s1 39 4) + 1)) fun h7 =>
      some (.inl h7)
def fX9_step_193 (h : ST)  : Option (ST) :=
  some h
def fX9_step_180 (h : ST) (q1 : Int32) : Option (ST) :=
  bnd (pw h 39 0 q1) fun h29 =>
  bnd (pw h29 39 4 ((h29 39 4) + 1)) fun h31 =>
  fX9_step_193 h31 
def fX9_step_86 (s1 : ST) : Option (ST ⊕ ST) :=
  if (s1 39 5) ≤ (s1 39 4) then
  some (.inr s1)
  else
  bnd (rd 700 (s1 1) (s1 39 4)) fun v40 =>
    bnd (fX9_isLetter s1 v40) fun r42 =>
    if r42 = 0 then
    some (.inr s1)
    else
    bnd (pw s1 39 4 ((s1 39 4) + 1)) fun h45 =>
      some (.inl h45)
def fX9_step_39 (h : ST)  : Option (ST) :=
  bnd (pw h 39 1 (h 39 4)) fun h11 =>
  if (h11 39 4) < (h11 39 5) then
  bnd (rd 700 (h11 1) (h11 39 4)) fun v14 =>
    bnd (fX9_isLetter h11 v14) fun r16 =>
    if r16 = 0 then
    bnd (rd 700 (h11 1) (h11 39 4)) fun v19 =>
      bnd (fX9_isDigit h11 v19) fun r21 =>
      if r21 = 0 then
      bnd (rd 700 (h11 1) (h11 39 4)) fun v24 =>
        bnd (fJ0_indexOf_0f7a4 h11 0 (((v24 &&& 255).toUInt32 % 65536).toInt32)) fun r26 =>
        if r26 < 0 then
        fX9_step_180 h11 4
        else
        fX9_step_180 h11 3
      else
      bnd (pw h11 39 0 2) fun h33 =>
        bnd (fX9_takeNumber h33) fun r35 =>
        fX9_step_193 r35 
    else
    bnd (pw h11 39 0 1) fun h37 =>
      bnd (lp FU (fX9_step_86) h37) fun x47 =>
      fX9_step_193 x47 
  else
  bnd (pw h11 39 0 0) fun h49 =>
    fX9_step_193 h49 
def fX9_step (h : ST) : Option (ST) :=
  bnd (lp FU (fX9_step_0) h) fun x9 =>
  fX9_step_39 x9 
set_option maxRecDepth 100000 in
set_option maxHeartbeats 4000000 in
theorem tX9_step_0 {p : Program} {l : Launch} {e : Env} {s : State} {m : MethodId} {args : Array Value} {below : List Frame} {meth : Method} {c : Code} {g : GE} {B : Nat}   {Q : State → Prop} {x : ST} {nf : Nat} {s0 : ST} (F : Fx p s m args meth c cX9_step 1 "DustParish$Tokens" 395 g B) (hX0 : V p l e 5 0 s m args below meth c Q KC 395 g B 1 0 x 39 [(0, .ref (gA g 39))] []) (hl : lp nf (fX9_step_0) s0 = some x) : V p l e 5 0 s m args below meth c Q KC 395 g B 1 0 s0 0 [(0, .ref (gA g 39))] [] := by
  refine lp_ind (P := fun s0 => V p l e 5 0 s m args below meth c Q KC 395 g B 1 0 s0 0 [(0, .ref (gA g 39))] []) ?_ nf s0 hl
  intro s1 y hf hk hx
  have hx0 : ∀ v : ST, y = Sum.inr v → V p l e 5 0 s m args below meth c Q KC 395 g B 1 0 v 39 [(0, .ref (gA g 39))] [] := fun v e9 => by rw [hx v e9]; exact hX0
  unfold fX9_step_0 at hf
  refine v_aload_n (pc := 0) (j := 0) F dX9_step_0 rfl rfl ?_
  refine v_ifl (pc := 1) F fl_X9_23 dX9_step_1 kc_39.1 kc_39.2 fv_8_4 ?_
  refine v_aload_n (pc := 4) (j := 0) F dX9_step_4 rfl rfl ?_
  refine v_ifl (pc := 5) F fl_X9_26 dX9_step_5 kc_39.1 kc_39.2 fv_8_5 ?_
  refine v_icmp_ge (pc := 8) (tgt := 39) F dX9_step_8 (by decide) (fun c1 => ?_) (fun c1 => ?_)
  · have hf := ite_t hf c1
    exact hx0 s1 (Option.some.inj hf).symm
  · have hf := ite_f hf c1
    refine v_aload_n (pc := 11) (j := 0) F dX9_step_11 rfl rfl ?_
    refine v_ifl (pc := 12) F fl_X9_29 dX9_step_12 kc_39.1 kc_39.2 fv_8_6 ?_
    refine v_aload_n (pc := 15) (j := 0) F dX9_step_15 rfl rfl ?_
    refine v_ifl (pc := 16) F fl_X9_23 dX9_step_16 kc_39.1 kc_39.2 fv_8_4 ?_
    obtain ⟨v2, e3, hf⟩ := bnd_some hf
    refine v_bald (pc := 19) F dX9_step_19 kc_1.1 kc_1.2 e3 ?_
    obtain ⟨r4, e5, hf⟩ := bnd_some hf
    refine v_callSi (pc := 20) (As := [.int v2]) F cl_X9_42 dX9_step_20 (kX9_isBlank e5) rfl rfl (Nat.le_of_ble_eq_true rfl) (by decide) (Nat.zero_le _) ?_
    refine v_if_eq (pc := 23) (tgt := 39) F dX9_step_23 (by decide) (fun c6 => ?_) (fun c6 => ?_)
    · have hf := ite_t hf c6
      exact hx0 s1 (Option.some.inj hf).symm
    · have hf := ite_f hf c6
      refine v_aload_n (pc := 26) (j := 0) F dX9_step_26 rfl rfl ?_
      refine v_dup (pc := 27) F dX9_step_27 rfl ?_
      refine v_ifl (pc := 28) F fl_X9_23 dX9_step_28 kc_39.1 kc_39.2 fv_8_4 ?_
      refine v_iconst (pc := 31) (v := 1) F dX9_step_31 ic_1 ?_
      refine v_iadd (pc := 32) F dX9_step_32 ?_
      obtain ⟨h7, e8, hf⟩ := bnd_some hf
      refine v_pfl (pc := 33) F fl_X9_23 pl_8_4 dX9_step_33 kc_39.1 kc_39.2 fv_8_4 rfl rfl e8 ?_
      refine v_goto (pc := 36) (tgt := 0) F dX9_step_36 (by decide) ?_
      exact hk h7 (Option.some.inj hf).symm
set_option maxRecDepth 100000 in
set_option maxHeartbeats 4000000 in
theorem tX9_step_193 {p : Program} {l : Launch} {e : Env} {s : State} {m : MethodId} {args : Array Value} {below : List Frame} {meth : Method} {c : Code} {g : GE} {B : Nat} {h : ST}  (F : Fx p s m args meth c cX9_step 1 "DustParish$Tokens" 395 g B)
    {y : ST} (hr : meth.sig.returnType = none) (hf : fX9_step_193 h  = some y) : V p l e 5 0 s m args below meth c (MQ below (QO KC 395 g none y) args s 0 (6 * 0) (WA 395 g)) KC 395 g B 1 0 h 193 [] [] := by
  unfold fX9_step_193 at hf
  exact v_vret (pc := 193) F hr dX9_step_193 (Option.some.inj hf) (Nat.zero_le _)
set_option maxRecDepth 100000 in
set_option maxHeartbeats 4000000 in
theorem tX9_step_180 {p : Program} {l : Launch} {e : Env} {s : State} {m : MethodId} {args : Array Value} {below : List Frame} {meth : Method} {c : Code} {g : GE} {B : Nat} {h : ST}  {q1 : Int32} (F : Fx p s m args meth c cX9_step 1 "DustParish$Tokens" 395 g B)
    {y : ST} (hr : meth.sig.returnType = none) (hf : fX9_step_180 h q1 = some y) : V p l e 5 0 s m args below meth c (MQ below (QO KC 395 g none y) args s 0 (6 * 0) (WA 395 g)) KC 395 g B 1 0 h 180 [(0, .ref (gA g 39))] [.int q1, .ref (gA g 39)] := by
  unfold fX9_step_180 at hf
  obtain ⟨h29, e30, hf⟩ := bnd_some hf
  refine v_pfl (pc := 180) F fl_X9_9 pl_8_0 dX9_step_180 kc_39.1 kc_39.2 fv_8_0 rfl rfl e30 ?_
  refine v_aload_n (pc := 183) (j := 0) F dX9_step_183 rfl rfl ?_
  refine v_dup (pc := 184) F dX9_step_184 rfl ?_
  refine v_ifl (pc := 185) F fl_X9_23 dX9_step_185 kc_39.1 kc_39.2 fv_8_4 ?_
  refine v_iconst (pc := 188) (v := 1) F dX9_step_188 ic_1 ?_
  refine v_iadd (pc := 189) F dX9_step_189 ?_
  obtain ⟨h31, e32, hf⟩ := bnd_some hf
  refine v_pfl (pc := 190) F fl_X9_23 pl_8_4 dX9_step_190 kc_39.1 kc_39.2 fv_8_4 rfl rfl e32 ?_
  refine V.sub (lv' := []) [] rfl ?_
  exact tX9_step_193 F hr hf
set_option maxRecDepth 100000 in
set_option maxHeartbeats 4000000 in
theorem tX9_step_86 {p : Program} {l : Launch} {e : Env} {s : State} {m : MethodId} {args : Array Value} {below : List Frame} {meth : Method} {c : Code} {g : GE} {B : Nat}   {Q : State → Prop} {x : ST} {nf : Nat} {s0 : ST} (F : Fx p s m args meth c cX9_step 1 "DustParish$Tokens" 395 g B) (hX0 : V p l e 5 0 s m args below meth c Q KC 395 g B 1 0 x 193 [] []) (hl : lp nf (fX9_step_86) s0 = some x) : V p l e 5 0 s m args below meth c Q KC 395 g B 1 0 s0 86 [(0, .ref (gA g 39))] [] := by
  refine lp_ind (P := fun s0 => V p l e 5 0 s m args below meth c Q KC 395 g B 1 0 s0 86 [(0, .ref (gA g 39))] []) ?_ nf s0 hl
  intro s1 y hf hk hx
  have hx0 : ∀ v : ST, y = Sum.inr v → V p l e 5 0 s m args below meth c Q KC 395 g B 1 0 v 193 [] [] := fun v e9 => by rw [hx v e9]; exact hX0
  unfold fX9_step_86 at hf
  refine v_aload_n (pc := 86) (j := 0) F dX9_step_86 rfl rfl ?_
  refine v_ifl (pc := 87) F fl_X9_23 dX9_step_87 kc_39.1 kc_39.2 fv_8_4 ?_
  refine v_aload_n (pc := 90) (j := 0) F dX9_step_90 rfl rfl ?_
  refine v_ifl (pc := 91) F fl_X9_26 dX9_step_91 kc_39.1 kc_39.2 fv_8_5 ?_
  refine v_icmp_ge (pc := 94) (tgt := 193) F dX9_step_94 (by decide) (fun c39 => ?_) (fun c39 => ?_)
  · have hf := ite_t hf c39
    refine V.sub (lv' := []) [] rfl ?_
    exact hx0 s1 (Option.some.inj hf).symm
  · have hf := ite_f hf c39
    refine v_aload_n (pc := 97) (j := 0) F dX9_step_97 rfl rfl ?_
    refine v_ifl (pc := 98) F fl_X9_29 dX9_step_98 kc_39.1 kc_39.2 fv_8_6 ?_
    refine v_aload_n (pc := 101) (j := 0) F dX9_step_101 rfl rfl ?_
    refine v_ifl (pc := 102) F fl_X9_23 dX9_step_102 kc_39.1 kc_39.2 fv_8_4 ?_
    obtain ⟨v40, e41, hf⟩ := bnd_some hf
    refine v_bald (pc := 105) F dX9_step_105 kc_1.1 kc_1.2 e41 ?_
    obtain ⟨r42, e43, hf⟩ := bnd_some hf
    refine v_callSi (pc := 106) (As := [.int v40]) F cl_X9_46 dX9_step_106 (kX9_isLetter e43) rfl rfl (Nat.le_of_ble_eq_true rfl) (by decide) (Nat.zero_le _) ?_
    refine v_if_eq (pc := 109) (tgt := 193) F dX9_step_109 (by decide) (fun c44 => ?_) (fun c44 => ?_)
    · have hf := ite_t hf c44
      refine V.sub (lv' := []) [] rfl ?_
      exact hx0 s1 (Option.some.inj hf).symm
    · have hf := ite_f hf c44
      refine v_aload_n (pc := 112) (j := 0) F dX9_step_112 rfl rfl ?_
      refine v_dup (pc := 113) F dX9_step_113 rfl ?_
      refine v_ifl (pc := 114) F fl_X9_23 dX9_step_114 kc_39.1 kc_39.2 fv_8_4 ?_
      refine v_iconst (pc := 117) (v := 1) F dX9_step_117 ic_1 ?_
      refine v_iadd (pc := 118) F dX9_step_118 ?_
      obtain ⟨h45, e46, hf⟩ := bnd_some hf
      refine v_pfl (pc := 119) F fl_X9_23 pl_8_4 dX9_step_119 kc_39.1 kc_39.2 fv_8_4 rfl rfl e46 ?_
      refine v_goto (pc := 122) (tgt := 86) F dX9_step_122 (by decide) ?_
      exact hk h45 (Option.some.inj hf).symm
set_option maxRecDepth 100000 in
set_option maxHeartbeats 4000000 in
theorem tX9_step_39 {p : Program} {l : Launch} {e : Env} {s : State} {m : MethodId} {args : Array Value} {below : List Frame} {meth : Method} {c : Code} {g : GE} {B : Nat} {h : ST}  (F : Fx p s m args meth c cX9_step 1 "DustParish$Tokens" 395 g B)
    {y : ST} (hr : meth.sig.returnType = none) (hf : fX9_step_39 h  = some y) : V p l e 5 0 s m args below meth c (MQ below (QO KC 395 g none y) args s 0 (6 * 0) (WA 395 g)) KC 395 g B 1 0 h 39 [(0, .ref (gA g 39))] [] := by
  unfold fX9_step_39 at hf
  refine v_aload_n (pc := 39) (j := 0) F dX9_step_39 rfl rfl ?_
  refine v_aload_n (pc := 40) (j := 0) F dX9_step_40 rfl rfl ?_
  refine v_ifl (pc := 41) F fl_X9_23 dX9_step_41 kc_39.1 kc_39.2 fv_8_4 ?_
  obtain ⟨h11, e12, hf⟩ := bnd_some hf
  refine v_pfl (pc := 44) F fl_X9_13 pl_8_1 dX9_step_44 kc_39.1 kc_39.2 fv_8_1 rfl rfl e12 ?_
  refine v_aload_n (pc := 47) (j := 0) F dX9_step_47 rfl rfl ?_
  refine v_ifl (pc := 48) F fl_X9_23 dX9_step_48 kc_39.1 kc_39.2 fv_8_4 ?_
  refine v_aload_n (pc := 51) (j := 0) F dX9_step_51 rfl rfl ?_
  refine v_ifl (pc := 52) F fl_X9_26 dX9_step_52 kc_39.1 kc_39.2 fv_8_5 ?_
  refine v_icmp_lt (pc := 55) (tgt := 66) F dX9_step_55 (by decide) (fun c13 => ?_) (fun c13 => ?_)
  · have hf := ite_t hf c13
    refine v_aload_n (pc := 66) (j := 0) F dX9_step_66 rfl rfl ?_
    refine v_ifl (pc := 67) F fl_X9_29 dX9_step_67 kc_39.1 kc_39.2 fv_8_6 ?_
    refine v_aload_n (pc := 70) (j := 0) F dX9_step_70 rfl rfl ?_
    refine v_ifl (pc := 71) F fl_X9_23 dX9_step_71 kc_39.1 kc_39.2 fv_8_4 ?_
    obtain ⟨v14, e15, hf⟩ := bnd_some hf
    refine v_bald (pc := 74) F dX9_step_74 kc_1.1 kc_1.2 e15 ?_
    obtain ⟨r16, e17, hf⟩ := bnd_some hf
    refine v_callSi (pc := 75) (As := [.int v14]) F cl_X9_46 dX9_step_75 (kX9_isLetter e17) rfl rfl (Nat.le_of_ble_eq_true rfl) (by decide) (Nat.zero_le _) ?_
    refine v_if_eq (pc := 78) (tgt := 125) F dX9_step_78 (by decide) (fun c18 => ?_) (fun c18 => ?_)
    · have hf := ite_t hf c18
      refine v_aload_n (pc := 125) (j := 0) F dX9_step_125 rfl rfl ?_
      refine v_ifl (pc := 126) F fl_X9_29 dX9_step_126 kc_39.1 kc_39.2 fv_8_6 ?_
      refine v_aload_n (pc := 129) (j := 0) F dX9_step_129 rfl rfl ?_
      refine v_ifl (pc := 130) F fl_X9_23 dX9_step_130 kc_39.1 kc_39.2 fv_8_4 ?_
      obtain ⟨v19, e20, hf⟩ := bnd_some hf
      refine v_bald (pc := 133) F dX9_step_133 kc_1.1 kc_1.2 e20 ?_
      obtain ⟨r21, e22, hf⟩ := bnd_some hf
      refine v_callSi (pc := 134) (As := [.int v19]) F cl_X9_49 dX9_step_134 (kX9_isDigit e22) rfl rfl (Nat.le_of_ble_eq_true rfl) (by decide) (Nat.zero_le _) ?_
      refine v_if_eq (pc := 137) (tgt := 152) F dX9_step_137 (by decide) (fun c23 => ?_) (fun c23 => ?_)
      · have hf := ite_t hf c23
        refine v_aload_n (pc := 152) (j := 0) F dX9_step_152 rfl rfl ?_
        refine v_ldcS (pc := 153) (j := 0) (tx := ";()+-*/<=") F (by decide) dX9_step_153 ?_
        refine v_aload_n (pc := 155) (j := 0) F dX9_step_155 rfl rfl ?_
        refine v_ifl (pc := 156) F fl_X9_29 dX9_step_156 kc_39.1 kc_39.2 fv_8_6 ?_
        refine v_aload_n (pc := 159) (j := 0) F dX9_step_159 rfl rfl ?_
        refine v_ifl (pc := 160) F fl_X9_23 dX9_step_160 kc_39.1 kc_39.2 fv_8_4 ?_
        obtain ⟨v24, e25, hf⟩ := bnd_some hf
        refine v_bald (pc := 163) F dX9_step_163 kc_1.1 kc_1.2 e25 ?_
        refine v_sipush (pc := 164) (v := 255) F dX9_step_164 sp_255 ?_
        refine v_iand (pc := 167) F dX9_step_167 ?_
        refine v_i2c (pc := 168) F dX9_step_168 rfl ?_
        obtain ⟨r26, e27, hf⟩ := bnd_some hf
        refine v_callStr (pc := 169) (As := [.int (((v24 &&& 255).toUInt32 % 65536).toInt32)]) F cl_X9_57 dX9_step_169 (kJ0_indexOf_0f7a4 (by decide) e27) (by decide) rfl rfl rfl (Nat.le_of_ble_eq_true rfl) (by decide) (Nat.zero_le _) ?_
        refine v_if_lt (pc := 172) (tgt := 179) F dX9_step_172 (by decide) (fun c28 => ?_) (fun c28 => ?_)
        · have hf := ite_t hf c28
          refine v_iconst (pc := 179) (v := 4) F dX9_step_179 ic_4 ?_
          exact tX9_step_180 F hr hf
        · have hf := ite_f hf c28
          refine v_iconst (pc := 175) (v := 3) F dX9_step_175 ic_3 ?_
          refine v_goto (pc := 176) (tgt := 180) F dX9_step_176 (by decide) ?_
          exact tX9_step_180 F hr hf
      · have hf := ite_f hf c23
        refine v_aload_n (pc := 140) (j := 0) F dX9_step_140 rfl rfl ?_
        refine v_iconst (pc := 141) (v := 2) F dX9_step_141 ic_2 ?_
        obtain ⟨h33, e34, hf⟩ := bnd_some hf
        refine v_pfl (pc := 142) F fl_X9_9 pl_8_0 dX9_step_142 kc_39.1 kc_39.2 fv_8_0 rfl rfl e34 ?_
        refine v_aload_n (pc := 145) (j := 0) F dX9_step_145 rfl rfl ?_
        obtain ⟨r35, e36, hf⟩ := bnd_some hf
        refine v_callVv (pc := 146) (As := []) F cl_X9_52 dX9_step_146 (kX9_takeNumber e36) kc_39.1 kc_39.2 rc_8 rfl rfl (Nat.le_of_ble_eq_true rfl) (by decide) (Nat.zero_le _) ?_
        refine v_goto (pc := 149) (tgt := 193) F dX9_step_149 (by decide) ?_
        refine V.sub (lv' := []) [] rfl ?_
        exact tX9_step_193 F hr hf
    · have hf := ite_f hf c18
      refine v_aload_n (pc := 81) (j := 0) F dX9_step_81 rfl rfl ?_
      refine v_iconst (pc := 82) (v := 1) F dX9_step_82 ic_1 ?_
      obtain ⟨h37, e38, hf⟩ := bnd_some hf
      refine v_pfl (pc := 83) F fl_X9_9 pl_8_0 dX9_step_83 kc_39.1 kc_39.2 fv_8_0 rfl rfl e38 ?_
      obtain ⟨x47, e48, hf⟩ := bnd_some hf
      refine tX9_step_86 (s0 := h37) F ?_ e48
      exact tX9_step_193 F hr hf
  · have hf := ite_f hf c13
    refine v_aload_n (pc := 58) (j := 0) F dX9_step_58 rfl rfl ?_
    refine v_iconst (pc := 59) (v := 0) F dX9_step_59 ic_0 ?_
    obtain ⟨h49, e50, hf⟩ := bnd_some hf
    refine v_pfl (pc := 60) F fl_X9_9 pl_8_0 dX9_step_60 kc_39.1 kc_39.2 fv_8_0 rfl rfl e50 ?_
    refine v_goto (pc := 63) (tgt := 193) F dX9_step_63 (by decide) ?_
    refine V.sub (lv' := []) [] rfl ?_
    exact tX9_step_193 F hr hf
set_option maxRecDepth 100000 in
set_option maxHeartbeats 4000000 in
theorem kX9_step {l : Launch} {g : GE} {B : Nat} {h : ST} {y : ST} (hf : fX9_step h = some y) : CT l yX9_step cX9_step 1 none 5 KC 395 g B [.ref (gA g 39)] h none y := by
  refine CT.of pn_X9 (Nat.le_of_ble_eq_true rfl) ?_
  intro p e s m below meth c hr F
  have F : Fx p s m _ meth c cX9_step 1 "DustParish$Tokens" 395 g B := F
  refine V_lv (lv' := [(0, .ref (gA g 39))]) rfl ?_
  unfold fX9_step at hf
  obtain ⟨x9, e10, hf⟩ := bnd_some hf
  refine tX9_step_0 (s0 := h) F ?_ e10
  exact tX9_step_39 F hr hf
def fX9_begin (h : ST) (a1 : Int32) : Option (ST) :=
  bnd (pw h 39 5 (if (Int32.ofNat 700) < a1 then (Int32.ofNat 700) else a1)) fun h1 =>
  bnd (pw h1 39 4 0) fun h3 =>
  bnd (fX9_step h3) fun r5 =>
  some r5
set_option maxRecDepth 100000 in
set_option maxHeartbeats 4000000 in
theorem kX9_begin {l : Launch} {g : GE} {B : Nat} {h : ST} {a1 : Int32} {y : ST} (hf : fX9_begin h a1 = some y) : CT l yX9_begin cX9_begin 2 none 6 KC 395 g B [.ref (gA g 39), .int a1] h none y := by
  refine CT.of pn_X9 (Nat.le_of_ble_eq_true rfl) ?_
  intro p e s m below meth c hr F
  have F : Fx p s m _ meth c cX9_begin 2 "DustParish$Tokens" 395 g B := F
  refine V_lv (lv' := [(0, .ref (gA g 39)), (1, .int a1)]) rfl ?_
  unfold fX9_begin at hf
  refine v_aload_n (pc := 0) (j := 0) F dX9_begin_0 rfl rfl ?_
  refine v_iload_n (pc := 1) (j := 1) F dX9_begin_1 rfl rfl ?_
  refine v_aload_n (pc := 2) (j := 0) F dX9_begin_2 rfl rfl ?_
  refine v_ifl (pc := 3) F fl_X9_29 dX9_begin_3 kc_39.1 kc_39.2 fv_8_6 ?_
  refine v_alen (pc := 6) (v := Int32.ofNat 700) F dX9_begin_6 kc_1.1 kc_1.2 (by decide) (by decide) rfl ?_
  refine v_mmin (pc := 7) F tw_638 mminW dX9_begin_7 (by decide) (Nat.le_of_ble_eq_true rfl) (Nat.zero_le _) ?_
  obtain ⟨h1, e2, hf⟩ := bnd_some hf
  refine v_pfl (pc := 10) F fl_X9_26 pl_8_5 dX9_begin_10 kc_39.1 kc_39.2 fv_8_5 rfl rfl e2 ?_
  refine v_aload_n (pc := 13) (j := 0) F dX9_begin_13 rfl rfl ?_
  refine v_iconst (pc := 14) (v := 0) F dX9_begin_14 ic_0 ?_
  obtain ⟨h3, e4, hf⟩ := bnd_some hf
  refine v_pfl (pc := 15) F fl_X9_23 pl_8_4 dX9_begin_15 kc_39.1 kc_39.2 fv_8_4 rfl rfl e4 ?_
  refine v_aload_n (pc := 18) (j := 0) F dX9_begin_18 rfl rfl ?_
  obtain ⟨r5, e6, hf⟩ := bnd_some hf
  refine v_callVv (pc := 19) (As := []) F cl_X9_39 dX9_begin_19 (kX9_step e6) kc_39.1 kc_39.2 rc_8 rfl rfl (Nat.le_of_ble_eq_true rfl) (by decide) (Nat.zero_le _) ?_
  exact v_vret (pc := 22) F hr dX9_begin_22 (Option.some.inj hf) (Nat.zero_le _)
def fX9_isWord_24 (h : ST)  : Option (Int32) :=
  some 0
def fX9_isWord_28 (h : ST) (k1_ : Nat) (s1 : Int32) : Option (Int32 ⊕ (Unit ⊕ Unit)) :=
  bnd (fJ0_length_8abf5 h k1_ ) fun r5 =>
  if r5 ≤ s1 then
  some (.inr (.inr ()))
  else
  bnd (rd 700 (h 1) ((h 39 1) + s1)) fun v8 =>
    bnd (fJ0_charAt_5068e h k1_ s1) fun r10 =>
    if v8 = r10 then
    some (.inl (s1 + 1))
    else
    some (.inr (.inl ()))
def fX9_isWord (h : ST) (k1_ : Nat) : Option (Int32) :=
  if (h 39 0) = 1 then
  bnd (fJ0_length_8abf5 h k1_ ) fun r2 =>
    if ((h 39 4) - (h 39 1)) = r2 then
    bnd (lp FU (fX9_isWord_28 h k1_) 0) fun x13 =>
      sm x13 (fun v => some 0) (fun v => some 1)
    else
    fX9_isWord_24 h 
  else
  fX9_isWord_24 h 
set_option maxRecDepth 100000 in
set_option maxHeartbeats 4000000 in
theorem tX9_isWord_24 {p : Program} {l : Launch} {e : Env} {s : State} {m : MethodId} {args : Array Value} {below : List Frame} {meth : Method} {c : Code} {g : GE} {B : Nat} {h : ST}  (F : Fx p s m args meth c cX9_isWord 3 "DustParish$Tokens" 395 g B)
    {y : Int32} (hr : meth.sig.returnType = (some .boolean)) (hf : fX9_isWord_24 h  = some y) : V p l e 12 0 s m args below meth c (MQ below (QO KC 395 g (some (.int y)) h) args s 0 (6 * 0) (WA 395 g)) KC 395 g B 3 0 h 24 [] [] := by
  unfold fX9_isWord_24 at hf
  refine v_iconst (pc := 24) (v := 0) F dX9_isWord_24 ic_0 ?_
  exact v_zret (pc := 25) F hr dX9_isWord_25 rfl (Option.some.inj hf) rfl (Nat.zero_le _)
set_option maxRecDepth 100000 in
set_option maxHeartbeats 4000000 in
theorem tX9_isWord_28 {p : Program} {l : Launch} {e : Env} {s : State} {m : MethodId} {args : Array Value} {below : List Frame} {meth : Method} {c : Code} {g : GE} {B : Nat}  {h : ST} {k1_ : Nat} (hs_k1_ : k1_ < SN) {Q : State → Prop} {x : (Unit ⊕ Unit)} {nf : Nat} {s0 : Int32} (F : Fx p s m args meth c cX9_isWord 3 "DustParish$Tokens" 395 g B) (hX0 : ∀ v : Unit, x = (.inl v) → V p l e 12 0 s m args below meth c Q KC 395 g B 3 0 h 55 [] []) (hX1 : ∀ v : Unit, x = (.inr v) → V p l e 12 0 s m args below meth c Q KC 395 g B 3 0 h 63 [] []) (hl : lp nf (fX9_isWord_28 h k1_) s0 = some x) : V p l e 12 0 s m args below meth c Q KC 395 g B 3 0 h 28 [(0, .ref (gA g 39)), (1, .ref (gK g k1_)), (2, .int s0)] [] := by
  refine lp_ind (P := fun s0 => V p l e 12 0 s m args below meth c Q KC 395 g B 3 0 h 28 [(0, .ref (gA g 39)), (1, .ref (gK g k1_)), (2, .int s0)] []) ?_ nf s0 hl
  intro s1 y hf hk hx
  have hx0 : ∀ v : Unit, y = Sum.inr (.inl v) → V p l e 12 0 s m args below meth c Q KC 395 g B 3 0 h 55 [] [] := fun v e9 => hX0 v (hx _ e9).symm
  have hx1 : ∀ v : Unit, y = Sum.inr (.inr v) → V p l e 12 0 s m args below meth c Q KC 395 g B 3 0 h 63 [] [] := fun v e9 => hX1 v (hx _ e9).symm
  unfold fX9_isWord_28 at hf
  refine v_iload_n (pc := 28) (j := 2) F dX9_isWord_28 rfl rfl ?_
  refine v_aload_n (pc := 29) (j := 1) F dX9_isWord_29 rfl rfl ?_
  obtain ⟨r5, e6, hf⟩ := bnd_some hf
  refine v_callStr (pc := 30) (As := []) F cl_X9_63 dX9_isWord_30 (kJ0_length_8abf5 hs_k1_ e6) hs_k1_ rfl rfl rfl (Nat.le_of_ble_eq_true rfl) (by decide) (Nat.zero_le _) ?_
  refine v_icmp_ge (pc := 33) (tgt := 63) F dX9_isWord_33 (by decide) (fun c7 => ?_) (fun c7 => ?_)
  · have hf := ite_t hf c7
    refine V.sub (lv' := []) [] rfl ?_
    exact hx1 () (Option.some.inj hf).symm
  · have hf := ite_f hf c7
    refine v_aload_n (pc := 36) (j := 0) F dX9_isWord_36 rfl rfl ?_
    refine v_ifl (pc := 37) F fl_X9_29 dX9_isWord_37 kc_39.1 kc_39.2 fv_8_6 ?_
    refine v_aload_n (pc := 40) (j := 0) F dX9_isWord_40 rfl rfl ?_
    refine v_ifl (pc := 41) F fl_X9_13 dX9_isWord_41 kc_39.1 kc_39.2 fv_8_1 ?_
    refine v_iload_n (pc := 44) (j := 2) F dX9_isWord_44 rfl rfl ?_
    refine v_iadd (pc := 45) F dX9_isWord_45 ?_
    obtain ⟨v8, e9, hf⟩ := bnd_some hf
    refine v_bald (pc := 46) F dX9_isWord_46 kc_1.1 kc_1.2 e9 ?_
    refine v_aload_n (pc := 47) (j := 1) F dX9_isWord_47 rfl rfl ?_
    refine v_iload_n (pc := 48) (j := 2) F dX9_isWord_48 rfl rfl ?_
    obtain ⟨r10, e11, hf⟩ := bnd_some hf
    refine v_callStr (pc := 49) (As := [.int s1]) F cl_X9_66 dX9_isWord_49 (kJ0_charAt_5068e hs_k1_ e11) hs_k1_ rfl rfl rfl (Nat.le_of_ble_eq_true rfl) (by decide) (Nat.zero_le _) ?_
    refine v_icmp_eq (pc := 52) (tgt := 57) F dX9_isWord_52 (by decide) (fun c12 => ?_) (fun c12 => ?_)
    · have hf := ite_t hf c12
      refine v_iinc (pc := 57) (j := 2) (v := s1 + 1) (lv' := [(0, .ref (gA g 39)), (1, .ref (gK g k1_)), (2, .int (s1 + 1))]) F dX9_isWord_57 rfl (congrArg (fun z => s1 + z) ic_1) (by decide) rfl ?_
      refine v_goto (pc := 60) (tgt := 28) F dX9_isWord_60 (by decide) ?_
      exact hk (s1 + 1) (Option.some.inj hf).symm
    · have hf := ite_f hf c12
      refine V.sub (lv' := []) [] rfl ?_
      exact hx0 () (Option.some.inj hf).symm
set_option maxRecDepth 100000 in
set_option maxHeartbeats 4000000 in
theorem kX9_isWord {l : Launch} {g : GE} {B : Nat} {h : ST} {k1_ : Nat} (hs_k1_ : k1_ < SN) {y : Int32} (hf : fX9_isWord h k1_ = some y) : CT l yX9_isWord cX9_isWord 3 (some .boolean) 12 KC 395 g B [.ref (gA g 39), .ref (gK g k1_)] h (some (.int y)) h := by
  refine CT.of pn_X9 (Nat.le_of_ble_eq_true rfl) ?_
  intro p e s m below meth c hr F
  have F : Fx p s m _ meth c cX9_isWord 3 "DustParish$Tokens" 395 g B := F
  refine V_lv (lv' := [(0, .ref (gA g 39)), (1, .ref (gK g k1_))]) rfl ?_
  unfold fX9_isWord at hf
  refine v_aload_n (pc := 0) (j := 0) F dX9_isWord_0 rfl rfl ?_
  refine v_ifl (pc := 1) F fl_X9_9 dX9_isWord_1 kc_39.1 kc_39.2 fv_8_0 ?_
  refine v_iconst (pc := 4) (v := 1) F dX9_isWord_4 ic_1 ?_
  refine v_icmp_ne (pc := 5) (tgt := 24) F dX9_isWord_5 (by decide) (fun c1 => ?_) (fun c1 => ?_)
  · have hf := ite_f hf c1
    refine V.sub (lv' := []) [] rfl ?_
    exact tX9_isWord_24 F hr hf
  · have hf := ite_t hf c1
    refine v_aload_n (pc := 8) (j := 0) F dX9_isWord_8 rfl rfl ?_
    refine v_ifl (pc := 9) F fl_X9_23 dX9_isWord_9 kc_39.1 kc_39.2 fv_8_4 ?_
    refine v_aload_n (pc := 12) (j := 0) F dX9_isWord_12 rfl rfl ?_
    refine v_ifl (pc := 13) F fl_X9_13 dX9_isWord_13 kc_39.1 kc_39.2 fv_8_1 ?_
    refine v_isub (pc := 16) F dX9_isWord_16 ?_
    refine v_aload_n (pc := 17) (j := 1) F dX9_isWord_17 rfl rfl ?_
    obtain ⟨r2, e3, hf⟩ := bnd_some hf
    refine v_callStr (pc := 18) (As := []) F cl_X9_63 dX9_isWord_18 (kJ0_length_8abf5 hs_k1_ e3) hs_k1_ rfl rfl rfl (Nat.le_of_ble_eq_true rfl) (by decide) (Nat.zero_le _) ?_
    refine v_icmp_eq (pc := 21) (tgt := 26) F dX9_isWord_21 (by decide) (fun c4 => ?_) (fun c4 => ?_)
    · have hf := ite_t hf c4
      refine v_iconst (pc := 26) (v := 0) F dX9_isWord_26 ic_0 ?_
      refine v_istore_n (pc := 27) (lv' := [(0, .ref (gA g 39)), (1, .ref (gK g k1_)), (2, .int 0)]) F dX9_isWord_27 rfl (by decide) rfl ?_
      obtain ⟨x13, e14, hf⟩ := bnd_some hf
      refine tX9_isWord_28 (s0 := 0) hs_k1_ F (fun v e9 => ?_) (fun v e9 => ?_) e14
      · subst e9
        have hf := sm_l hf
        refine v_iconst (pc := 55) (v := 0) F dX9_isWord_55 ic_0 ?_
        exact v_zret (pc := 56) F hr dX9_isWord_56 rfl (Option.some.inj hf) rfl (Nat.zero_le _)
      · subst e9
        have hf := sm_r hf
        refine v_iconst (pc := 63) (v := 1) F dX9_isWord_63 ic_1 ?_
        exact v_zret (pc := 64) F hr dX9_isWord_64 rfl (Option.some.inj hf) rfl (Nat.zero_le _)
    · have hf := ite_f hf c4
      refine V.sub (lv' := []) [] rfl ?_
      exact tX9_isWord_24 F hr hf
def fX4_lookAtNumber_28 (h : ST) (q0 : Int32) : Option (Int32) :=
  some q0
def fX4_lookAtNumber (h : ST) : Option (Int32) :=
  if (h 39 0) = 2 then
  if (h 39 3) = 0 then
    fX4_lookAtNumber_28 h 0
    else
    fX4_lookAtNumber_28 h 2
  else
  some 1
set_option maxRecDepth 100000 in
set_option maxHeartbeats 4000000 in
theorem tX4_lookAtNumber_28 {p : Program} {l : Launch} {e : Env} {s : State} {m : MethodId} {args : Array Value} {below : List Frame} {meth : Method} {c : Code} {g : GE} {B : Nat} {h : ST}  {q0 : Int32} (F : Fx p s m args meth c cX4_lookAtNumber 1 "DustParish$Reader" 395 g B)
    {y : Int32} (hr : meth.sig.returnType = (some .int)) (hf : fX4_lookAtNumber_28 h q0 = some y) : V p l e 1 0 s m args below meth c (MQ below (QO KC 395 g (some (.int y)) h) args s 0 (6 * 0) (WA 395 g)) KC 395 g B 1 0 h 28 [] [.int q0] := by
  unfold fX4_lookAtNumber_28 at hf
  exact v_iret (pc := 28) F hr dX4_lookAtNumber_28 (Option.some.inj hf) rfl (Nat.zero_le _)
set_option maxRecDepth 100000 in
set_option maxHeartbeats 4000000 in
theorem kX4_lookAtNumber {l : Launch} {g : GE} {B : Nat} {h : ST} {y : Int32} (hf : fX4_lookAtNumber h = some y) : CT l yX4_lookAtNumber cX4_lookAtNumber 1 (some .int) 1 KC 395 g B [.ref (gA g 38)] h (some (.int y)) h := by
  refine CT.of pn_X4 (Nat.le_of_ble_eq_true rfl) ?_
  intro p e s m below meth c hr F
  have F : Fx p s m _ meth c cX4_lookAtNumber 1 "DustParish$Reader" 395 g B := F
  refine V_lv (lv' := [(0, .ref (gA g 38))]) rfl ?_
  unfold fX4_lookAtNumber at hf
  refine v_aload_n (pc := 0) (j := 0) F dX4_lookAtNumber_0 rfl rfl ?_
  refine v_ifl (pc := 1) F fl_X4_33 dX4_lookAtNumber_1 kc_38.1 kc_38.2 fv_3_0 ?_
  refine v_ifl (pc := 4) F fl_X4_66 dX4_lookAtNumber_4 kc_39.1 kc_39.2 fv_8_0 ?_
  refine v_iconst (pc := 7) (v := 2) F dX4_lookAtNumber_7 ic_2 ?_
  refine v_icmp_eq (pc := 8) (tgt := 13) F dX4_lookAtNumber_8 (by decide) (fun c1 => ?_) (fun c1 => ?_)
  · have hf := ite_t hf c1
    refine v_aload_n (pc := 13) (j := 0) F dX4_lookAtNumber_13 rfl rfl ?_
    refine v_ifl (pc := 14) F fl_X4_33 dX4_lookAtNumber_14 kc_38.1 kc_38.2 fv_3_0 ?_
    refine v_ifl (pc := 17) F fl_X4_139 dX4_lookAtNumber_17 kc_39.1 kc_39.2 fv_8_3 ?_
    refine v_if_eq (pc := 20) (tgt := 27) F dX4_lookAtNumber_20 (by decide) (fun c2 => ?_) (fun c2 => ?_)
    · have hf := ite_t hf c2
      refine v_iconst (pc := 27) (v := 0) F dX4_lookAtNumber_27 ic_0 ?_
      refine V.sub (lv' := []) [] rfl ?_
      exact tX4_lookAtNumber_28 F hr hf
    · have hf := ite_f hf c2
      refine v_iconst (pc := 23) (v := 2) F dX4_lookAtNumber_23 ic_2 ?_
      refine v_goto (pc := 24) (tgt := 28) F dX4_lookAtNumber_24 (by decide) ?_
      refine V.sub (lv' := []) [] rfl ?_
      exact tX4_lookAtNumber_28 F hr hf
  · have hf := ite_f hf c1
    refine v_iconst (pc := 11) (v := 1) F dX4_lookAtNumber_11 ic_1 ?_
    exact v_iret (pc := 12) F hr dX4_lookAtNumber_12 (Option.some.inj hf) rfl (Nat.zero_le _)
def fX4_readNumber_55 (h : ST) (l3 : Int32) : Option (Int32 × ST) :=
  some (l3, h)
def fX4_readNumber_33 (h : ST) (l3 : Int32) : Option (Int32 × ST) :=
  if l3 = 0 then
  bnd (pw h 38 3 (h 39 2)) fun h5 =>
    bnd (fX9_step h5) fun r7 =>
    fX4_readNumber_55 r7 l3
  else
  fX4_readNumber_55 h l3
def fX4_readNumber_31 (h : ST)  : Option (Int32 × ST) :=
  fX4_readNumber_33 h 2
def fX4_readNumber (h : ST) (a1 : Int32) (a2 : Int32) : Option (Int32 × ST) :=
  bnd (fX4_lookAtNumber h) fun r1 =>
  if r1 = 0 then
  if (h 39 2) < a1 then
    fX4_readNumber_31 h 
    else
    if (h 39 2) ≤ a2 then
      fX4_readNumber_33 h r1
      else
      fX4_readNumber_31 h 
  else
  fX4_readNumber_33 h r1
set_option maxRecDepth 100000 in
set_option maxHeartbeats 4000000 in
theorem tX4_readNumber_55 {p : Program} {l : Launch} {e : Env} {s : State} {m : MethodId} {args : Array Value} {below : List Frame} {meth : Method} {c : Code} {g : GE} {B : Nat} {h : ST}  {l3 : Int32} (F : Fx p s m args meth c cX4_readNumber 4 "DustParish$Reader" 395 g B)
    {y : Int32 × ST} (hr : meth.sig.returnType = (some .int)) (hf : fX4_readNumber_55 h l3 = some y) : V p l e 6 0 s m args below meth c (MQ below (QO KC 395 g (some (.int y.1)) y.2) args s 0 (6 * 0) (WA 395 g)) KC 395 g B 4 0 h 55 [(3, .int l3)] [] := by
  unfold fX4_readNumber_55 at hf
  refine v_iload_n (pc := 55) (j := 0) F dX4_readNumber_55 rfl rfl ?_
  exact v_iret (pc := 56) F hr dX4_readNumber_56 (some_fst hf) (some_snd hf) (Nat.zero_le _)
set_option maxRecDepth 100000 in
set_option maxHeartbeats 4000000 in
theorem tX4_readNumber_33 {p : Program} {l : Launch} {e : Env} {s : State} {m : MethodId} {args : Array Value} {below : List Frame} {meth : Method} {c : Code} {g : GE} {B : Nat} {h : ST}  {l3 : Int32} (F : Fx p s m args meth c cX4_readNumber 4 "DustParish$Reader" 395 g B)
    {y : Int32 × ST} (hr : meth.sig.returnType = (some .int)) (hf : fX4_readNumber_33 h l3 = some y) : V p l e 6 0 s m args below meth c (MQ below (QO KC 395 g (some (.int y.1)) y.2) args s 0 (6 * 0) (WA 395 g)) KC 395 g B 4 0 h 33 [(0, .ref (gA g 38)), (3, .int l3)] [] := by
  unfold fX4_readNumber_33 at hf
  refine v_iload_n (pc := 33) (j := 1) F dX4_readNumber_33 rfl rfl ?_
  refine v_if_ne (pc := 34) (tgt := 55) F dX4_readNumber_34 (by decide) (fun c4 => ?_) (fun c4 => ?_)
  · have hf := ite_f hf c4
    refine V.sub (lv' := [(3, .int l3)]) [1] rfl ?_
    exact tX4_readNumber_55 F hr hf
  · have hf := ite_t hf c4
    refine v_aload_n (pc := 37) (j := 0) F dX4_readNumber_37 rfl rfl ?_
    refine v_aload_n (pc := 38) (j := 0) F dX4_readNumber_38 rfl rfl ?_
    refine v_ifl (pc := 39) F fl_X4_33 dX4_readNumber_39 kc_38.1 kc_38.2 fv_3_0 ?_
    refine v_ifl (pc := 42) F fl_X4_133 dX4_readNumber_42 kc_39.1 kc_39.2 fv_8_2 ?_
    obtain ⟨h5, e6, hf⟩ := bnd_some hf
    refine v_pfl (pc := 45) F fl_X4_9 pl_3_3 dX4_readNumber_45 kc_38.1 kc_38.2 fv_3_3 rfl rfl e6 ?_
    refine v_aload_n (pc := 48) (j := 0) F dX4_readNumber_48 rfl rfl ?_
    refine v_ifl (pc := 49) F fl_X4_33 dX4_readNumber_49 kc_38.1 kc_38.2 fv_3_0 ?_
    obtain ⟨r7, e8, hf⟩ := bnd_some hf
    refine v_callVv (pc := 52) (As := []) F cl_X4_77 dX4_readNumber_52 (kX9_step e8) kc_39.1 kc_39.2 rc_8 rfl rfl (Nat.le_of_ble_eq_true rfl) (by decide) (Nat.zero_le _) ?_
    refine V.sub (lv' := [(3, .int l3)]) [1] rfl ?_
    exact tX4_readNumber_55 F hr hf
set_option maxRecDepth 100000 in
set_option maxHeartbeats 4000000 in
theorem tX4_readNumber_31 {p : Program} {l : Launch} {e : Env} {s : State} {m : MethodId} {args : Array Value} {below : List Frame} {meth : Method} {c : Code} {g : GE} {B : Nat} {h : ST}  (F : Fx p s m args meth c cX4_readNumber 4 "DustParish$Reader" 395 g B)
    {y : Int32 × ST} (hr : meth.sig.returnType = (some .int)) (hf : fX4_readNumber_31 h  = some y) : V p l e 6 0 s m args below meth c (MQ below (QO KC 395 g (some (.int y.1)) y.2) args s 0 (6 * 0) (WA 395 g)) KC 395 g B 4 0 h 31 [(0, .ref (gA g 38))] [] := by
  unfold fX4_readNumber_31 at hf
  refine v_iconst (pc := 31) (v := 2) F dX4_readNumber_31 ic_2 ?_
  refine v_istore_n (pc := 32) (lv' := [(0, .ref (gA g 38)), (3, .int 2)]) F dX4_readNumber_32 rfl (by decide) rfl ?_
  exact tX4_readNumber_33 F hr hf
set_option maxRecDepth 100000 in
set_option maxHeartbeats 4000000 in
theorem kX4_readNumber {l : Launch} {g : GE} {B : Nat} {h : ST} {a1 : Int32} {a2 : Int32} {y : Int32 × ST} (hf : fX4_readNumber h a1 a2 = some y) : CT l yX4_readNumber cX4_readNumber 4 (some .int) 6 KC 395 g B [.ref (gA g 38), .int a1, .int a2] h (some (.int y.1)) y.2 := by
  refine CT.of pn_X4 (Nat.le_of_ble_eq_true rfl) ?_
  intro p e s m below meth c hr F
  have F : Fx p s m _ meth c cX4_readNumber 4 "DustParish$Reader" 395 g B := F
  refine V_lv (lv' := [(0, .ref (gA g 38)), (1, .int a1), (2, .int a2)]) rfl ?_
  unfold fX4_readNumber at hf
  refine v_aload_n (pc := 0) (j := 0) F dX4_readNumber_0 rfl rfl ?_
  obtain ⟨r1, e2, hf⟩ := bnd_some hf
  refine v_callVi (pc := 1) (As := []) F cl_X4_130 dX4_readNumber_1 (kX4_lookAtNumber e2) kc_38.1 kc_38.2 rc_3 rfl rfl (Nat.le_of_ble_eq_true rfl) (by decide) (Nat.zero_le _) ?_
  refine v_istore_n (pc := 4) (lv' := [(0, .ref (gA g 38)), (1, .int a1), (2, .int a2), (3, .int r1)]) F dX4_readNumber_4 rfl (by decide) rfl ?_
  refine v_iload_n (pc := 5) (j := 3) F dX4_readNumber_5 rfl rfl ?_
  refine v_if_ne (pc := 6) (tgt := 33) F dX4_readNumber_6 (by decide) (fun c3 => ?_) (fun c3 => ?_)
  · have hf := ite_f hf c3
    refine V.sub (lv' := [(0, .ref (gA g 38)), (3, .int r1)]) [0, 3] rfl ?_
    exact tX4_readNumber_33 F hr hf
  · have hf := ite_t hf c3
    refine v_aload_n (pc := 9) (j := 0) F dX4_readNumber_9 rfl rfl ?_
    refine v_ifl (pc := 10) F fl_X4_33 dX4_readNumber_10 kc_38.1 kc_38.2 fv_3_0 ?_
    refine v_ifl (pc := 13) F fl_X4_133 dX4_readNumber_13 kc_39.1 kc_39.2 fv_8_2 ?_
    refine v_iload_n (pc := 16) (j := 1) F dX4_readNumber_16 rfl rfl ?_
    refine v_icmp_lt (pc := 17) (tgt := 31) F dX4_readNumber_17 (by decide) (fun c9 => ?_) (fun c9 => ?_)
    · have hf := ite_t hf c9
      refine V.sub (lv' := [(0, .ref (gA g 38))]) [0] rfl ?_
      exact tX4_readNumber_31 F hr hf
    · have hf := ite_f hf c9
      refine v_aload_n (pc := 20) (j := 0) F dX4_readNumber_20 rfl rfl ?_
      refine v_ifl (pc := 21) F fl_X4_33 dX4_readNumber_21 kc_38.1 kc_38.2 fv_3_0 ?_
      refine v_ifl (pc := 24) F fl_X4_133 dX4_readNumber_24 kc_39.1 kc_39.2 fv_8_2 ?_
      refine v_iload_n (pc := 27) (j := 2) F dX4_readNumber_27 rfl rfl ?_
      refine v_icmp_le (pc := 28) (tgt := 33) F dX4_readNumber_28 (by decide) (fun c10 => ?_) (fun c10 => ?_)
      · have hf := ite_t hf c10
        refine V.sub (lv' := [(0, .ref (gA g 38)), (3, .int r1)]) [0, 3] rfl ?_
        exact tX4_readNumber_33 F hr hf
      · have hf := ite_f hf c10
        refine V.sub (lv' := [(0, .ref (gA g 38))]) [0] rfl ?_
        exact tX4_readNumber_31 F hr hf
def fX4_readRoom (h : ST) (a1 : Int32) : Option (Int32 × ST) :=
  bnd (rf KC 395 1 (h 38 2)) fun f1 =>
  if (h f1 0) < 9 then
  bnd (fX9_step h) fun r4 =>
    bnd (rf KC 395 1 (r4 38 2)) fun f6 =>
    bnd (wr 9 r4 (f6 + 1) (h f1 0) a1) fun h8 =>
    bnd (fX4_readNumber h8 0 5) fun r10 =>
    if r10.1 = 0 then
    bnd (rf KC 395 1 (r10.2 38 2)) fun f13 =>
      bnd (wr 9 r10.2 (f13 + 2) (h f1 0) (r10.2 38 3)) fun h15 =>
      bnd (fX4_readNumber h15 0 999) fun r17 =>
      if r17.1 = 0 then
      bnd (rf KC 395 1 (r17.2 38 2)) fun f20 =>
        bnd (wr 9 r17.2 (f20 + 3) (h f1 0) (r17.2 38 3)) fun h22 =>
        bnd (fX4_readNumber h22 0 99) fun r24 =>
        if r24.1 = 0 then
        bnd (rf KC 395 1 (r24.2 38 2)) fun f27 =>
          bnd (wr 9 r24.2 (f27 + 4) (h f1 0) (r24.2 38 3)) fun h29 =>
          bnd (rf KC 395 1 (h29 38 2)) fun f31 =>
          bnd (pw h29 f31 0 ((h29 f31 0) + 1)) fun h33 =>
          some (0, h33)
        else
        some (r24.1, r24.2)
      else
      some (r17.1, r17.2)
    else
    some (r10.1, r10.2)
  else
  some (2, h)
set_option maxRecDepth 100000 in
set_option maxHeartbeats 4000000 in
theorem kX4_readRoom {l : Launch} {g : GE} {B : Nat} {h : ST} {a1 : Int32} {y : Int32 × ST} (hf : fX4_readRoom h a1 = some y) : CT l yX4_readRoom cX4_readRoom 4 (some .int) 7 KC 395 g B [.ref (gA g 38), .int a1] h (some (.int y.1)) y.2 := by
  refine CT.of pn_X4 (Nat.le_of_ble_eq_true rfl) ?_
  intro p e s m below meth c hr F
  have F : Fx p s m _ meth c cX4_readRoom 4 "DustParish$Reader" 395 g B := F
  refine V_lv (lv' := [(0, .ref (gA g 38)), (1, .int a1)]) rfl ?_
  unfold fX4_readRoom at hf
  refine v_aload_n (pc := 0) (j := 0) F dX4_readRoom_0 rfl rfl ?_
  obtain ⟨f1, e2, hf⟩ := bnd_some hf
  obtain ⟨ho_f1, hk_f1, e2⟩ := rf_in e2
  refine v_ifl (pc := 1) F fl_X4_52 dX4_readRoom_1 kc_38.1 kc_38.2 (fv_3_2 e2) ?_
  refine v_ifl (pc := 4) F fl_X4_142 dX4_readRoom_4 ho_f1 hk_f1 fv_1_0 ?_
  refine v_istore_n (pc := 7) (lv' := [(0, .ref (gA g 38)), (1, .int a1), (2, .int (h f1 0))]) F dX4_readRoom_7 rfl (by decide) rfl ?_
  refine v_iload_n (pc := 8) (j := 2) F dX4_readRoom_8 rfl rfl ?_
  refine v_bipush (pc := 9) (v := 9) F dX4_readRoom_9 bp_9 ?_
  refine v_icmp_lt (pc := 11) (tgt := 16) F dX4_readRoom_11 (by decide) (fun c3 => ?_) (fun c3 => ?_)
  · have hf := ite_t hf c3
    refine v_aload_n (pc := 16) (j := 0) F dX4_readRoom_16 rfl rfl ?_
    refine v_ifl (pc := 17) F fl_X4_33 dX4_readRoom_17 kc_38.1 kc_38.2 fv_3_0 ?_
    obtain ⟨r4, e5, hf⟩ := bnd_some hf
    refine v_callVv (pc := 20) (As := []) F cl_X4_77 dX4_readRoom_20 (kX9_step e5) kc_39.1 kc_39.2 rc_8 rfl rfl (Nat.le_of_ble_eq_true rfl) (by decide) (Nat.zero_le _) ?_
    refine v_aload_n (pc := 23) (j := 0) F dX4_readRoom_23 rfl rfl ?_
    obtain ⟨f6, e7, hf⟩ := bnd_some hf
    obtain ⟨ho_f6, hk_f6, e7⟩ := rf_in e7
    refine v_ifl (pc := 24) F fl_X4_52 dX4_readRoom_24 kc_38.1 kc_38.2 (fv_3_2 e7) ?_
    refine v_ifl (pc := 27) F fl_X4_145 dX4_readRoom_27 ho_f6 hk_f6 fv_1_1 ?_
    refine v_iload_n (pc := 30) (j := 2) F dX4_readRoom_30 rfl rfl ?_
    refine v_iload_n (pc := 31) (j := 1) F dX4_readRoom_31 rfl rfl ?_
    obtain ⟨h8, e9, hf⟩ := bnd_some hf
    refine v_iast (pc := 32) F dX4_readRoom_32 (ly_1_1 ho_f6 hk_f6).1 (ly_1_1 ho_f6 hk_f6).2 e9 ?_
    refine v_aload_n (pc := 33) (j := 0) F dX4_readRoom_33 rfl rfl ?_
    refine v_iconst (pc := 34) (v := 0) F dX4_readRoom_34 ic_0 ?_
    refine v_iconst (pc := 35) (v := 5) F dX4_readRoom_35 ic_5 ?_
    obtain ⟨r10, e11, hf⟩ := bnd_some hf
    refine v_callVi (pc := 36) (As := [.int 0, .int 5]) F cl_X4_149 dX4_readRoom_36 (kX4_readNumber e11) kc_38.1 kc_38.2 rc_3 rfl rfl (Nat.le_of_ble_eq_true rfl) (by decide) (Nat.zero_le _) ?_
    refine v_istore_n (pc := 39) (lv' := [(0, .ref (gA g 38)), (1, .int a1), (2, .int (h f1 0)), (3, .int r10.1)]) F dX4_readRoom_39 rfl (by decide) rfl ?_
    refine v_iload_n (pc := 40) (j := 3) F dX4_readRoom_40 rfl rfl ?_
    refine v_if_eq (pc := 41) (tgt := 46) F dX4_readRoom_41 (by decide) (fun c12 => ?_) (fun c12 => ?_)
    · have hf := ite_t hf c12
      refine v_aload_n (pc := 46) (j := 0) F dX4_readRoom_46 rfl rfl ?_
      obtain ⟨f13, e14, hf⟩ := bnd_some hf
      obtain ⟨ho_f13, hk_f13, e14⟩ := rf_in e14
      refine v_ifl (pc := 47) F fl_X4_52 dX4_readRoom_47 kc_38.1 kc_38.2 (fv_3_2 e14) ?_
      refine v_ifl (pc := 50) F fl_X4_153 dX4_readRoom_50 ho_f13 hk_f13 fv_1_2 ?_
      refine v_iload_n (pc := 53) (j := 2) F dX4_readRoom_53 rfl rfl ?_
      refine v_aload_n (pc := 54) (j := 0) F dX4_readRoom_54 rfl rfl ?_
      refine v_ifl (pc := 55) F fl_X4_9 dX4_readRoom_55 kc_38.1 kc_38.2 fv_3_3 ?_
      obtain ⟨h15, e16, hf⟩ := bnd_some hf
      refine v_iast (pc := 58) F dX4_readRoom_58 (ly_1_2 ho_f13 hk_f13).1 (ly_1_2 ho_f13 hk_f13).2 e16 ?_
      refine v_aload_n (pc := 59) (j := 0) F dX4_readRoom_59 rfl rfl ?_
      refine v_iconst (pc := 60) (v := 0) F dX4_readRoom_60 ic_0 ?_
      refine v_sipush (pc := 61) (v := 999) F dX4_readRoom_61 sp_999 ?_
      obtain ⟨r17, e18, hf⟩ := bnd_some hf
      refine v_callVi (pc := 64) (As := [.int 0, .int 999]) F cl_X4_149 dX4_readRoom_64 (kX4_readNumber e18) kc_38.1 kc_38.2 rc_3 rfl rfl (Nat.le_of_ble_eq_true rfl) (by decide) (Nat.zero_le _) ?_
      refine v_istore_n (pc := 67) (lv' := [(0, .ref (gA g 38)), (1, .int a1), (2, .int (h f1 0)), (3, .int r17.1)]) F dX4_readRoom_67 rfl (by decide) rfl ?_
      refine v_iload_n (pc := 68) (j := 3) F dX4_readRoom_68 rfl rfl ?_
      refine v_if_eq (pc := 69) (tgt := 74) F dX4_readRoom_69 (by decide) (fun c19 => ?_) (fun c19 => ?_)
      · have hf := ite_t hf c19
        refine v_aload_n (pc := 74) (j := 0) F dX4_readRoom_74 rfl rfl ?_
        obtain ⟨f20, e21, hf⟩ := bnd_some hf
        obtain ⟨ho_f20, hk_f20, e21⟩ := rf_in e21
        refine v_ifl (pc := 75) F fl_X4_52 dX4_readRoom_75 kc_38.1 kc_38.2 (fv_3_2 e21) ?_
        refine v_ifl (pc := 78) F fl_X4_156 dX4_readRoom_78 ho_f20 hk_f20 fv_1_3 ?_
        refine v_iload_n (pc := 81) (j := 2) F dX4_readRoom_81 rfl rfl ?_
        refine v_aload_n (pc := 82) (j := 0) F dX4_readRoom_82 rfl rfl ?_
        refine v_ifl (pc := 83) F fl_X4_9 dX4_readRoom_83 kc_38.1 kc_38.2 fv_3_3 ?_
        obtain ⟨h22, e23, hf⟩ := bnd_some hf
        refine v_iast (pc := 86) F dX4_readRoom_86 (ly_1_3 ho_f20 hk_f20).1 (ly_1_3 ho_f20 hk_f20).2 e23 ?_
        refine v_aload_n (pc := 87) (j := 0) F dX4_readRoom_87 rfl rfl ?_
        refine v_iconst (pc := 88) (v := 0) F dX4_readRoom_88 ic_0 ?_
        refine v_bipush (pc := 89) (v := 99) F dX4_readRoom_89 bp_99 ?_
        obtain ⟨r24, e25, hf⟩ := bnd_some hf
        refine v_callVi (pc := 91) (As := [.int 0, .int 99]) F cl_X4_149 dX4_readRoom_91 (kX4_readNumber e25) kc_38.1 kc_38.2 rc_3 rfl rfl (Nat.le_of_ble_eq_true rfl) (by decide) (Nat.zero_le _) ?_
        refine v_istore_n (pc := 94) (lv' := [(0, .ref (gA g 38)), (1, .int a1), (2, .int (h f1 0)), (3, .int r24.1)]) F dX4_readRoom_94 rfl (by decide) rfl ?_
        refine v_iload_n (pc := 95) (j := 3) F dX4_readRoom_95 rfl rfl ?_
        refine v_if_eq (pc := 96) (tgt := 101) F dX4_readRoom_96 (by decide) (fun c26 => ?_) (fun c26 => ?_)
        · have hf := ite_t hf c26
          refine v_aload_n (pc := 101) (j := 0) F dX4_readRoom_101 rfl rfl ?_
          obtain ⟨f27, e28, hf⟩ := bnd_some hf
          obtain ⟨ho_f27, hk_f27, e28⟩ := rf_in e28
          refine v_ifl (pc := 102) F fl_X4_52 dX4_readRoom_102 kc_38.1 kc_38.2 (fv_3_2 e28) ?_
          refine v_ifl (pc := 105) F fl_X4_159 dX4_readRoom_105 ho_f27 hk_f27 fv_1_4 ?_
          refine v_iload_n (pc := 108) (j := 2) F dX4_readRoom_108 rfl rfl ?_
          refine v_aload_n (pc := 109) (j := 0) F dX4_readRoom_109 rfl rfl ?_
          refine v_ifl (pc := 110) F fl_X4_9 dX4_readRoom_110 kc_38.1 kc_38.2 fv_3_3 ?_
          obtain ⟨h29, e30, hf⟩ := bnd_some hf
          refine v_iast (pc := 113) F dX4_readRoom_113 (ly_1_4 ho_f27 hk_f27).1 (ly_1_4 ho_f27 hk_f27).2 e30 ?_
          refine v_aload_n (pc := 114) (j := 0) F dX4_readRoom_114 rfl rfl ?_
          obtain ⟨f31, e32, hf⟩ := bnd_some hf
          obtain ⟨ho_f31, hk_f31, e32⟩ := rf_in e32
          refine v_ifl (pc := 115) F fl_X4_52 dX4_readRoom_115 kc_38.1 kc_38.2 (fv_3_2 e32) ?_
          refine v_dup (pc := 118) F dX4_readRoom_118 rfl ?_
          refine v_ifl (pc := 119) F fl_X4_142 dX4_readRoom_119 ho_f31 hk_f31 fv_1_0 ?_
          refine v_iconst (pc := 122) (v := 1) F dX4_readRoom_122 ic_1 ?_
          refine v_iadd (pc := 123) F dX4_readRoom_123 ?_
          obtain ⟨h33, e34, hf⟩ := bnd_some hf
          refine v_pfl (pc := 124) F fl_X4_142 pl_1_0 dX4_readRoom_124 ho_f31 hk_f31 fv_1_0 rfl rfl e34 ?_
          refine v_iconst (pc := 127) (v := 0) F dX4_readRoom_127 ic_0 ?_
          exact v_iret (pc := 128) F hr dX4_readRoom_128 (some_fst hf) (some_snd hf) (Nat.zero_le _)
        · have hf := ite_f hf c26
          refine v_iload_n (pc := 99) (j := 3) F dX4_readRoom_99 rfl rfl ?_
          exact v_iret (pc := 100) F hr dX4_readRoom_100 (some_fst hf) (some_snd hf) (Nat.zero_le _)
      · have hf := ite_f hf c19
        refine v_iload_n (pc := 72) (j := 3) F dX4_readRoom_72 rfl rfl ?_
        exact v_iret (pc := 73) F hr dX4_readRoom_73 (some_fst hf) (some_snd hf) (Nat.zero_le _)
    · have hf := ite_f hf c12
      refine v_iload_n (pc := 44) (j := 3) F dX4_readRoom_44 rfl rfl ?_
      exact v_iret (pc := 45) F hr dX4_readRoom_45 (some_fst hf) (some_snd hf) (Nat.zero_le _)
  · have hf := ite_f hf c3
    refine v_iconst (pc := 14) (v := 2) F dX4_readRoom_14 ic_2 ?_
    exact v_iret (pc := 15) F hr dX4_readRoom_15 (some_fst hf) (some_snd hf) (Nat.zero_le _)
def fX4_lookAtRoomNumber_31 (h : ST) (q0 : Int32) : Option (Int32) :=
  some q0
def fX4_lookAtRoomNumber_30 (h : ST) (l1 : Int32) : Option (Int32) :=
  fX4_lookAtRoomNumber_31 h l1
def fX4_lookAtRoomNumber (h : ST) : Option (Int32) :=
  bnd (fX4_lookAtNumber h) fun r1 =>
  if r1 = 0 then
  bnd (rf KC 395 1 (h 38 2)) fun f4 =>
    if (h 39 2) < (h f4 0) then
    fX4_lookAtRoomNumber_30 h r1
    else
    fX4_lookAtRoomNumber_31 h 3
  else
  fX4_lookAtRoomNumber_30 h r1
set_option maxRecDepth 100000 in
set_option maxHeartbeats 4000000 in
theorem tX4_lookAtRoomNumber_31 {p : Program} {l : Launch} {e : Env} {s : State} {m : MethodId} {args : Array Value} {below : List Frame} {meth : Method} {c : Code} {g : GE} {B : Nat} {h : ST}  {q0 : Int32} (F : Fx p s m args meth c cX4_lookAtRoomNumber 2 "DustParish$Reader" 395 g B)
    {y : Int32} (hr : meth.sig.returnType = (some .int)) (hf : fX4_lookAtRoomNumber_31 h q0 = some y) : V p l e 2 0 s m args below meth c (MQ below (QO KC 395 g (some (.int y)) h) args s 0 (6 * 0) (WA 395 g)) KC 395 g B 2 0 h 31 [] [.int q0] := by
  unfold fX4_lookAtRoomNumber_31 at hf
  exact v_iret (pc := 31) F hr dX4_lookAtRoomNumber_31 (Option.some.inj hf) rfl (Nat.zero_le _)
set_option maxRecDepth 100000 in
set_option maxHeartbeats 4000000 in
theorem tX4_lookAtRoomNumber_30 {p : Program} {l : Launch} {e : Env} {s : State} {m : MethodId} {args : Array Value} {below : List Frame} {meth : Method} {c : Code} {g : GE} {B : Nat} {h : ST}  {l1 : Int32} (F : Fx p s m args meth c cX4_lookAtRoomNumber 2 "DustParish$Reader" 395 g B)
    {y : Int32} (hr : meth.sig.returnType = (some .int)) (hf : fX4_lookAtRoomNumber_30 h l1 = some y) : V p l e 2 0 s m args below meth c (MQ below (QO KC 395 g (some (.int y)) h) args s 0 (6 * 0) (WA 395 g)) KC 395 g B 2 0 h 30 [(1, .int l1)] [] := by
  unfold fX4_lookAtRoomNumber_30 at hf
  refine v_iload_n (pc := 30) (j := 0) F dX4_lookAtRoomNumber_30 rfl rfl ?_
  refine V.sub (lv' := []) [] rfl ?_
  exact tX4_lookAtRoomNumber_31 F hr hf
set_option maxRecDepth 100000 in
set_option maxHeartbeats 4000000 in
theorem kX4_lookAtRoomNumber {l : Launch} {g : GE} {B : Nat} {h : ST} {y : Int32} (hf : fX4_lookAtRoomNumber h = some y) : CT l yX4_lookAtRoomNumber cX4_lookAtRoomNumber 2 (some .int) 2 KC 395 g B [.ref (gA g 38)] h (some (.int y)) h := by
  refine CT.of pn_X4 (Nat.le_of_ble_eq_true rfl) ?_
  intro p e s m below meth c hr F
  have F : Fx p s m _ meth c cX4_lookAtRoomNumber 2 "DustParish$Reader" 395 g B := F
  refine V_lv (lv' := [(0, .ref (gA g 38))]) rfl ?_
  unfold fX4_lookAtRoomNumber at hf
  refine v_aload_n (pc := 0) (j := 0) F dX4_lookAtRoomNumber_0 rfl rfl ?_
  obtain ⟨r1, e2, hf⟩ := bnd_some hf
  refine v_callVi (pc := 1) (As := []) F cl_X4_130 dX4_lookAtRoomNumber_1 (kX4_lookAtNumber e2) kc_38.1 kc_38.2 rc_3 rfl rfl (Nat.le_of_ble_eq_true rfl) (by decide) (Nat.zero_le _) ?_
  refine v_istore_n (pc := 4) (lv' := [(0, .ref (gA g 38)), (1, .int r1)]) F dX4_lookAtRoomNumber_4 rfl (by decide) rfl ?_
  refine v_iload_n (pc := 5) (j := 1) F dX4_lookAtRoomNumber_5 rfl rfl ?_
  refine v_if_ne (pc := 6) (tgt := 30) F dX4_lookAtRoomNumber_6 (by decide) (fun c3 => ?_) (fun c3 => ?_)
  · have hf := ite_f hf c3
    refine V.sub (lv' := [(1, .int r1)]) [1] rfl ?_
    exact tX4_lookAtRoomNumber_30 F hr hf
  · have hf := ite_t hf c3
    refine v_aload_n (pc := 9) (j := 0) F dX4_lookAtRoomNumber_9 rfl rfl ?_
    refine v_ifl (pc := 10) F fl_X4_33 dX4_lookAtRoomNumber_10 kc_38.1 kc_38.2 fv_3_0 ?_
    refine v_ifl (pc := 13) F fl_X4_133 dX4_lookAtRoomNumber_13 kc_39.1 kc_39.2 fv_8_2 ?_
    refine v_aload_n (pc := 16) (j := 0) F dX4_lookAtRoomNumber_16 rfl rfl ?_
    obtain ⟨f4, e5, hf⟩ := bnd_some hf
    obtain ⟨ho_f4, hk_f4, e5⟩ := rf_in e5
    refine v_ifl (pc := 17) F fl_X4_52 dX4_lookAtRoomNumber_17 kc_38.1 kc_38.2 (fv_3_2 e5) ?_
    refine v_ifl (pc := 20) F fl_X4_142 dX4_lookAtRoomNumber_20 ho_f4 hk_f4 fv_1_0 ?_
    refine v_icmp_lt (pc := 23) (tgt := 30) F dX4_lookAtRoomNumber_23 (by decide) (fun c6 => ?_) (fun c6 => ?_)
    · have hf := ite_t hf c6
      refine V.sub (lv' := [(1, .int r1)]) [1] rfl ?_
      exact tX4_lookAtRoomNumber_30 F hr hf
    · have hf := ite_f hf c6
      refine v_iconst (pc := 26) (v := 3) F dX4_lookAtRoomNumber_26 ic_3 ?_
      refine v_goto (pc := 27) (tgt := 31) F dX4_lookAtRoomNumber_27 (by decide) ?_
      refine V.sub (lv' := []) [] rfl ?_
      exact tX4_lookAtRoomNumber_31 F hr hf
def fX4_readRoomNumber_27 (h : ST) (l1 : Int32) : Option (Int32 × ST) :=
  some (l1, h)
def fX4_readRoomNumber (h : ST) : Option (Int32 × ST) :=
  bnd (fX4_lookAtRoomNumber h) fun r1 =>
  if r1 = 0 then
  bnd (pw h 38 3 (h 39 2)) fun h4 =>
    bnd (fX9_step h4) fun r6 =>
    fX4_readRoomNumber_27 r6 r1
  else
  fX4_readRoomNumber_27 h r1
set_option maxRecDepth 100000 in
set_option maxHeartbeats 4000000 in
theorem tX4_readRoomNumber_27 {p : Program} {l : Launch} {e : Env} {s : State} {m : MethodId} {args : Array Value} {below : List Frame} {meth : Method} {c : Code} {g : GE} {B : Nat} {h : ST}  {l1 : Int32} (F : Fx p s m args meth c cX4_readRoomNumber 2 "DustParish$Reader" 395 g B)
    {y : Int32 × ST} (hr : meth.sig.returnType = (some .int)) (hf : fX4_readRoomNumber_27 h l1 = some y) : V p l e 6 0 s m args below meth c (MQ below (QO KC 395 g (some (.int y.1)) y.2) args s 0 (6 * 0) (WA 395 g)) KC 395 g B 2 0 h 27 [(1, .int l1)] [] := by
  unfold fX4_readRoomNumber_27 at hf
  refine v_iload_n (pc := 27) (j := 0) F dX4_readRoomNumber_27 rfl rfl ?_
  exact v_iret (pc := 28) F hr dX4_readRoomNumber_28 (some_fst hf) (some_snd hf) (Nat.zero_le _)
set_option maxRecDepth 100000 in
set_option maxHeartbeats 4000000 in
theorem kX4_readRoomNumber {l : Launch} {g : GE} {B : Nat} {h : ST} {y : Int32 × ST} (hf : fX4_readRoomNumber h = some y) : CT l yX4_readRoomNumber cX4_readRoomNumber 2 (some .int) 6 KC 395 g B [.ref (gA g 38)] h (some (.int y.1)) y.2 := by
  refine CT.of pn_X4 (Nat.le_of_ble_eq_true rfl) ?_
  intro p e s m below meth c hr F
  have F : Fx p s m _ meth c cX4_readRoomNumber 2 "DustParish$Reader" 395 g B := F
  refine V_lv (lv' := [(0, .ref (gA g 38))]) rfl ?_
  unfold fX4_readRoomNumber at hf
  refine v_aload_n (pc := 0) (j := 0) F dX4_readRoomNumber_0 rfl rfl ?_
  obtain ⟨r1, e2, hf⟩ := bnd_some hf
  refine v_callVi (pc := 1) (As := []) F cl_X4_136 dX4_readRoomNumber_1 (kX4_lookAtRoomNumber e2) kc_38.1 kc_38.2 rc_3 rfl rfl (Nat.le_of_ble_eq_true rfl) (by decide) (Nat.zero_le _) ?_
  refine v_istore_n (pc := 4) (lv' := [(0, .ref (gA g 38)), (1, .int r1)]) F dX4_readRoomNumber_4 rfl (by decide) rfl ?_
  refine v_iload_n (pc := 5) (j := 1) F dX4_readRoomNumber_5 rfl rfl ?_
  refine v_if_ne (pc := 6) (tgt := 27) F dX4_readRoomNumber_6 (by decide) (fun c3 => ?_) (fun c3 => ?_)
  · have hf := ite_f hf c3
    refine V.sub (lv' := [(1, .int r1)]) [1] rfl ?_
    exact tX4_readRoomNumber_27 F hr hf
  · have hf := ite_t hf c3
    refine v_aload_n (pc := 9) (j := 0) F dX4_readRoomNumber_9 rfl rfl ?_
    refine v_aload_n (pc := 10) (j := 0) F dX4_readRoomNumber_10 rfl rfl ?_
    refine v_ifl (pc := 11) F fl_X4_33 dX4_readRoomNumber_11 kc_38.1 kc_38.2 fv_3_0 ?_
    refine v_ifl (pc := 14) F fl_X4_133 dX4_readRoomNumber_14 kc_39.1 kc_39.2 fv_8_2 ?_
    obtain ⟨h4, e5, hf⟩ := bnd_some hf
    refine v_pfl (pc := 17) F fl_X4_9 pl_3_3 dX4_readRoomNumber_17 kc_38.1 kc_38.2 fv_3_3 rfl rfl e5 ?_
    refine v_aload_n (pc := 20) (j := 0) F dX4_readRoomNumber_20 rfl rfl ?_
    refine v_ifl (pc := 21) F fl_X4_33 dX4_readRoomNumber_21 kc_38.1 kc_38.2 fv_3_0 ?_
    obtain ⟨r6, e7, hf⟩ := bnd_some hf
    refine v_callVv (pc := 24) (As := []) F cl_X4_77 dX4_readRoomNumber_24 (kX9_step e7) kc_39.1 kc_39.2 rc_8 rfl rfl (Nat.le_of_ble_eq_true rfl) (by decide) (Nat.zero_le _) ?_
    refine V.sub (lv' := [(1, .int r1)]) [1] rfl ?_
    exact tX4_readRoomNumber_27 F hr hf
def fX2_addDoor_63 (h : ST)  : Option (ST) :=
  some h
def fX2_addDoor (h : ST) (o : Nat) (a1 : Int32) (a2 : Int32) (a3 : Int32) : Option (ST) :=
  if 14 ≤ (h o 5) then
  fX2_addDoor_63 h 
  else
  bnd (wr 14 h (o + 5) (h o 5) a1) fun h2 =>
    bnd (wr 14 h2 (o + 6) (h2 o 5) a2) fun h4 =>
    bnd (wr 81 h4 (o + 16) ((a1 * 9) + a2) a3) fun h6 =>
    bnd (wr 81 h6 (o + 16) ((a2 * 9) + a1) a3) fun h8 =>
    bnd (pw h8 o 5 ((h8 o 5) + 1)) fun h10 =>
    fX2_addDoor_63 h10 
set_option maxRecDepth 100000 in
set_option maxHeartbeats 4000000 in
theorem tX2_addDoor_63 {p : Program} {l : Launch} {e : Env} {s : State} {m : MethodId} {args : Array Value} {below : List Frame} {meth : Method} {c : Code} {g : GE} {B : Nat} {h : ST}  (F : Fx p s m args meth c cX2_addDoor 4 "DustParish$Facts" 395 g B)
    {y : ST} (hr : meth.sig.returnType = none) (hf : fX2_addDoor_63 h  = some y) : V p l e 1 0 s m args below meth c (MQ below (QO KC 395 g none y) args s 0 (6 * 0) (WA 395 g)) KC 395 g B 4 0 h 63 [] [] := by
  unfold fX2_addDoor_63 at hf
  exact v_vret (pc := 63) F hr dX2_addDoor_63 (Option.some.inj hf) (Nat.zero_le _)
set_option maxRecDepth 100000 in
set_option maxHeartbeats 4000000 in
theorem kX2_addDoor {l : Launch} {g : GE} {B : Nat} {h : ST} {o : Nat} (ho_o : o < 395) (hk_o : KC o = (1, 0)) {a1 : Int32} {a2 : Int32} {a3 : Int32} {y : ST} (hf : fX2_addDoor h o a1 a2 a3 = some y) : CT l yX2_addDoor cX2_addDoor 4 none 1 KC 395 g B [.ref (gA g o), .int a1, .int a2, .int a3] h none y := by
  refine CT.of pn_X2 (Nat.le_of_ble_eq_true rfl) ?_
  intro p e s m below meth c hr F
  have F : Fx p s m _ meth c cX2_addDoor 4 "DustParish$Facts" 395 g B := F
  refine V_lv (lv' := [(0, .ref (gA g o)), (1, .int a1), (2, .int a2), (3, .int a3)]) rfl ?_
  unfold fX2_addDoor at hf
  refine v_aload_n (pc := 0) (j := 0) F dX2_addDoor_0 rfl rfl ?_
  refine v_ifl (pc := 1) F fl_X2_62 dX2_addDoor_1 ho_o hk_o fv_1_5 ?_
  refine v_bipush (pc := 4) (v := 14) F dX2_addDoor_4 bp_14 ?_
  refine v_icmp_ge (pc := 6) (tgt := 63) F dX2_addDoor_6 (by decide) (fun c1 => ?_) (fun c1 => ?_)
  · have hf := ite_t hf c1
    refine V.sub (lv' := []) [] rfl ?_
    exact tX2_addDoor_63 F hr hf
  · have hf := ite_f hf c1
    refine v_aload_n (pc := 9) (j := 0) F dX2_addDoor_9 rfl rfl ?_
    refine v_ifl (pc := 10) F fl_X2_24 dX2_addDoor_10 ho_o hk_o fv_1_6 ?_
    refine v_aload_n (pc := 13) (j := 0) F dX2_addDoor_13 rfl rfl ?_
    refine v_ifl (pc := 14) F fl_X2_62 dX2_addDoor_14 ho_o hk_o fv_1_5 ?_
    refine v_iload_n (pc := 17) (j := 1) F dX2_addDoor_17 rfl rfl ?_
    obtain ⟨h2, e3, hf⟩ := bnd_some hf
    refine v_iast (pc := 18) F dX2_addDoor_18 (ly_1_6 ho_o hk_o).1 (ly_1_6 ho_o hk_o).2 e3 ?_
    refine v_aload_n (pc := 19) (j := 0) F dX2_addDoor_19 rfl rfl ?_
    refine v_ifl (pc := 20) F fl_X2_27 dX2_addDoor_20 ho_o hk_o fv_1_7 ?_
    refine v_aload_n (pc := 23) (j := 0) F dX2_addDoor_23 rfl rfl ?_
    refine v_ifl (pc := 24) F fl_X2_62 dX2_addDoor_24 ho_o hk_o fv_1_5 ?_
    refine v_iload_n (pc := 27) (j := 2) F dX2_addDoor_27 rfl rfl ?_
    obtain ⟨h4, e5, hf⟩ := bnd_some hf
    refine v_iast (pc := 28) F dX2_addDoor_28 (ly_1_7 ho_o hk_o).1 (ly_1_7 ho_o hk_o).2 e5 ?_
    refine v_aload_n (pc := 29) (j := 0) F dX2_addDoor_29 rfl rfl ?_
    refine v_ifl (pc := 30) F fl_X2_52 dX2_addDoor_30 ho_o hk_o fv_1_18 ?_
    refine v_iload_n (pc := 33) (j := 1) F dX2_addDoor_33 rfl rfl ?_
    refine v_bipush (pc := 34) (v := 9) F dX2_addDoor_34 bp_9 ?_
    refine v_imul (pc := 36) F dX2_addDoor_36 ?_
    refine v_iload_n (pc := 37) (j := 2) F dX2_addDoor_37 rfl rfl ?_
    refine v_iadd (pc := 38) F dX2_addDoor_38 ?_
    refine v_iload_n (pc := 39) (j := 3) F dX2_addDoor_39 rfl rfl ?_
    obtain ⟨h6, e7, hf⟩ := bnd_some hf
    refine v_iast (pc := 40) F dX2_addDoor_40 (ly_1_18 ho_o hk_o).1 (ly_1_18 ho_o hk_o).2 e7 ?_
    refine v_aload_n (pc := 41) (j := 0) F dX2_addDoor_41 rfl rfl ?_
    refine v_ifl (pc := 42) F fl_X2_52 dX2_addDoor_42 ho_o hk_o fv_1_18 ?_
    refine v_iload_n (pc := 45) (j := 2) F dX2_addDoor_45 rfl rfl ?_
    refine v_bipush (pc := 46) (v := 9) F dX2_addDoor_46 bp_9 ?_
    refine v_imul (pc := 48) F dX2_addDoor_48 ?_
    refine v_iload_n (pc := 49) (j := 1) F dX2_addDoor_49 rfl rfl ?_
    refine v_iadd (pc := 50) F dX2_addDoor_50 ?_
    refine v_iload_n (pc := 51) (j := 3) F dX2_addDoor_51 rfl rfl ?_
    obtain ⟨h8, e9, hf⟩ := bnd_some hf
    refine v_iast (pc := 52) F dX2_addDoor_52 (ly_1_18 ho_o hk_o).1 (ly_1_18 ho_o hk_o).2 e9 ?_
    refine v_aload_n (pc := 53) (j := 0) F dX2_addDoor_53 rfl rfl ?_
    refine v_dup (pc := 54) F dX2_addDoor_54 rfl ?_
    refine v_ifl (pc := 55) F fl_X2_62 dX2_addDoor_55 ho_o hk_o fv_1_5 ?_
    refine v_iconst (pc := 58) (v := 1) F dX2_addDoor_58 ic_1 ?_
    refine v_iadd (pc := 59) F dX2_addDoor_59 ?_
    obtain ⟨h10, e11, hf⟩ := bnd_some hf
    refine v_pfl (pc := 60) F fl_X2_62 pl_1_5 dX2_addDoor_60 ho_o hk_o fv_1_5 rfl rfl e11 ?_
    refine V.sub (lv' := []) [] rfl ?_
    exact tX2_addDoor_63 F hr hf
