def fX4_readDoor_123 (h : ST) (l1 : Int32) : Option (Int32 × ST) :=
  some (l1, h)
def fX4_readDoor_77 (h : ST) (l1 : Int32) (l2 : Int32) : Option (Int32 × ST) :=
  if l1 = 0 then
  bnd (fX9_step h) fun r13 =>
    bnd (fX4_readNumber r13 1 9) fun r15 =>
    if r15.1 = 0 then
    bnd (rf KC 395 1 (r15.2 38 2)) fun f18 =>
      bnd (fX2_addDoor r15.2 f18 l2 (h 39 2) (r15.2 38 3)) fun r20 =>
      fX4_readDoor_123 r20 r15.1
    else
    fX4_readDoor_123 r15.2 r15.1
  else
  some (l1, h)
def fX4_readDoor_75 (h : ST) (l2 : Int32) : Option (Int32 × ST) :=
  fX4_readDoor_77 h 4 l2
def fX4_readDoor (h : ST) : Option (Int32 × ST) :=
  bnd (rf KC 395 1 (h 38 2)) fun f1 =>
  if (h f1 5) < 14 then
  bnd (fX9_step h) fun r4 =>
    bnd (fX4_readRoomNumber r4) fun r6 =>
    if r6.1 = 0 then
    bnd (fX4_lookAtRoomNumber r6.2) fun r9 =>
      if r9 = 0 then
      if (r6.2 39 2) = (r6.2 38 3) then
        fX4_readDoor_75 r6.2 (r6.2 38 3)
        else
        bnd (rf KC 395 1 (r6.2 38 2)) fun f23 =>
          bnd (fX2_hasDoor r6.2 f23 (r6.2 38 3) (r6.2 39 2)) fun r25 =>
          if r25 = 0 then
          fX4_readDoor_77 r6.2 r9 (r6.2 38 3)
          else
          fX4_readDoor_75 r6.2 (r6.2 38 3)
      else
      fX4_readDoor_77 r6.2 r9 (r6.2 38 3)
    else
    some (r6.1, r6.2)
  else
  some (2, h)
set_option maxRecDepth 100000 in
set_option maxHeartbeats 4000000 in
theorem tX4_readDoor_123 {p : Program} {l : Launch} {e : Env} {s : State} {m : MethodId} {args : Array Value} {below : List Frame} {meth : Method} {c : Code} {g : GE} {B : Nat} {h : ST}  {l1 : Int32} (F : Fx p s m args meth c cX4_readDoor 4 "DustParish$Reader" 395 g B)
    {y : Int32 × ST} (hr : meth.sig.returnType = (some .int)) (hf : fX4_readDoor_123 h l1 = some y) : V p l e 7 0 s m args below meth c (MQ below (QO KC 395 g (some (.int y.1)) y.2) args s 0 (6 * 0) (WA 395 g)) KC 395 g B 4 0 h 123 [(1, .int l1)] [] := by
  unfold fX4_readDoor_123 at hf
  refine v_iload_n (pc := 123) (j := 0) F dX4_readDoor_123 rfl rfl ?_
  exact v_iret (pc := 124) F hr dX4_readDoor_124 (some_fst hf) (some_snd hf) (Nat.zero_le _)
set_option maxRecDepth 100000 in
set_option maxHeartbeats 4000000 in
theorem tX4_readDoor_77 {p : Program} {l : Launch} {e : Env} {s : State} {m : MethodId} {args : Array Value} {below : List Frame} {meth : Method} {c : Code} {g : GE} {B : Nat} {h : ST}  {l1 : Int32} {l2 : Int32} (F : Fx p s m args meth c cX4_readDoor 4 "DustParish$Reader" 395 g B)
    {y : Int32 × ST} (hr : meth.sig.returnType = (some .int)) (hf : fX4_readDoor_77 h l1 l2 = some y) : V p l e 7 0 s m args below meth c (MQ below (QO KC 395 g (some (.int y.1)) y.2) args s 0 (6 * 0) (WA 395 g)) KC 395 g B 4 0 h 77 [(0, .ref (gA g 38)), (1, .int l1), (2, .int l2)] [] := by
  unfold fX4_readDoor_77 at hf
  refine v_iload_n (pc := 77) (j := 1) F dX4_readDoor_77 rfl rfl ?_
  refine v_if_eq (pc := 78) (tgt := 83) F dX4_readDoor_78 (by decide) (fun c12 => ?_) (fun c12 => ?_)
  · have hf := ite_t hf c12
    refine v_aload_n (pc := 83) (j := 0) F dX4_readDoor_83 rfl rfl ?_
    refine v_ifl (pc := 84) F fl_X4_33 dX4_readDoor_84 kc_38.1 kc_38.2 fv_3_0 ?_
    refine v_ifl (pc := 87) F fl_X4_133 dX4_readDoor_87 kc_39.1 kc_39.2 fv_8_2 ?_
    refine v_istore_n (pc := 90) (lv' := [(0, .ref (gA g 38)), (1, .int l1), (2, .int l2), (3, .int (h 39 2))]) F dX4_readDoor_90 rfl (by decide) rfl ?_
    refine v_aload_n (pc := 91) (j := 0) F dX4_readDoor_91 rfl rfl ?_
    refine v_ifl (pc := 92) F fl_X4_33 dX4_readDoor_92 kc_38.1 kc_38.2 fv_3_0 ?_
    obtain ⟨r13, e14, hf⟩ := bnd_some hf
    refine v_callVv (pc := 95) (As := []) F cl_X4_77 dX4_readDoor_95 (kX9_step e14) kc_39.1 kc_39.2 rc_8 rfl rfl (Nat.le_of_ble_eq_true rfl) (by decide) (Nat.zero_le _) ?_
    refine v_aload_n (pc := 98) (j := 0) F dX4_readDoor_98 rfl rfl ?_
    refine v_iconst (pc := 99) (v := 1) F dX4_readDoor_99 ic_1 ?_
    refine v_bipush (pc := 100) (v := 9) F dX4_readDoor_100 bp_9 ?_
    obtain ⟨r15, e16, hf⟩ := bnd_some hf
    refine v_callVi (pc := 102) (As := [.int 1, .int 9]) F cl_X4_149 dX4_readDoor_102 (kX4_readNumber e16) kc_38.1 kc_38.2 rc_3 rfl rfl (Nat.le_of_ble_eq_true rfl) (by decide) (Nat.zero_le _) ?_
    refine v_istore_n (pc := 105) (lv' := [(0, .ref (gA g 38)), (1, .int r15.1), (2, .int l2), (3, .int (h 39 2))]) F dX4_readDoor_105 rfl (by decide) rfl ?_
    refine v_iload_n (pc := 106) (j := 1) F dX4_readDoor_106 rfl rfl ?_
    refine v_if_ne (pc := 107) (tgt := 123) F dX4_readDoor_107 (by decide) (fun c17 => ?_) (fun c17 => ?_)
    · have hf := ite_f hf c17
      refine V.sub (lv' := [(1, .int r15.1)]) [1] rfl ?_
      exact tX4_readDoor_123 F hr hf
    · have hf := ite_t hf c17
      refine v_aload_n (pc := 110) (j := 0) F dX4_readDoor_110 rfl rfl ?_
      obtain ⟨f18, e19, hf⟩ := bnd_some hf
      obtain ⟨ho_f18, hk_f18, e19⟩ := rf_in e19
      refine v_ifl (pc := 111) F fl_X4_52 dX4_readDoor_111 kc_38.1 kc_38.2 (fv_3_2 e19) ?_
      refine v_iload_n (pc := 114) (j := 2) F dX4_readDoor_114 rfl rfl ?_
      refine v_iload_n (pc := 115) (j := 3) F dX4_readDoor_115 rfl rfl ?_
      refine v_aload_n (pc := 116) (j := 0) F dX4_readDoor_116 rfl rfl ?_
      refine v_ifl (pc := 117) F fl_X4_9 dX4_readDoor_117 kc_38.1 kc_38.2 fv_3_3 ?_
      obtain ⟨r20, e21, hf⟩ := bnd_some hf
      refine v_callVv (pc := 120) (As := [.int l2, .int (h 39 2), .int (r15.2 38 3)]) F cl_X4_172 dX4_readDoor_120 (kX2_addDoor ho_f18 hk_f18 e21) ho_f18 hk_f18 rc_1 rfl rfl (Nat.le_of_ble_eq_true rfl) (by decide) (Nat.zero_le _) ?_
      refine V.sub (lv' := [(1, .int r15.1)]) [1] rfl ?_
      exact tX4_readDoor_123 F hr hf
  · have hf := ite_f hf c12
    refine v_iload_n (pc := 81) (j := 1) F dX4_readDoor_81 rfl rfl ?_
    exact v_iret (pc := 82) F hr dX4_readDoor_82 (some_fst hf) (some_snd hf) (Nat.zero_le _)
set_option maxRecDepth 100000 in
set_option maxHeartbeats 4000000 in
theorem tX4_readDoor_75 {p : Program} {l : Launch} {e : Env} {s : State} {m : MethodId} {args : Array Value} {below : List Frame} {meth : Method} {c : Code} {g : GE} {B : Nat} {h : ST}  {l2 : Int32} (F : Fx p s m args meth c cX4_readDoor 4 "DustParish$Reader" 395 g B)
    {y : Int32 × ST} (hr : meth.sig.returnType = (some .int)) (hf : fX4_readDoor_75 h l2 = some y) : V p l e 7 0 s m args below meth c (MQ below (QO KC 395 g (some (.int y.1)) y.2) args s 0 (6 * 0) (WA 395 g)) KC 395 g B 4 0 h 75 [(0, .ref (gA g 38)), (2, .int l2)] [] := by
  unfold fX4_readDoor_75 at hf
  refine v_iconst (pc := 75) (v := 4) F dX4_readDoor_75 ic_4 ?_
  refine v_istore_n (pc := 76) (lv' := [(0, .ref (gA g 38)), (1, .int 4), (2, .int l2)]) F dX4_readDoor_76 rfl (by decide) rfl ?_
  exact tX4_readDoor_77 F hr hf
set_option maxRecDepth 100000 in
set_option maxHeartbeats 4000000 in
theorem kX4_readDoor {l : Launch} {g : GE} {B : Nat} {h : ST} {y : Int32 × ST} (hf : fX4_readDoor h = some y) : CT l yX4_readDoor cX4_readDoor 4 (some .int) 7 KC 395 g B [.ref (gA g 38)] h (some (.int y.1)) y.2 := by
  refine CT.of pn_X4 (Nat.le_of_ble_eq_true rfl) ?_
  intro p e s m below meth c hr F
  have F : Fx p s m _ meth c cX4_readDoor 4 "DustParish$Reader" 395 g B := F
  refine V_lv (lv' := [(0, .ref (gA g 38))]) rfl ?_
  unfold fX4_readDoor at hf
  refine v_aload_n (pc := 0) (j := 0) F dX4_readDoor_0 rfl rfl ?_
  obtain ⟨f1, e2, hf⟩ := bnd_some hf
  obtain ⟨ho_f1, hk_f1, e2⟩ := rf_in e2
  refine v_ifl (pc := 1) F fl_X4_52 dX4_readDoor_1 kc_38.1 kc_38.2 (fv_3_2 e2) ?_
  refine v_ifl (pc := 4) F fl_X4_162 dX4_readDoor_4 ho_f1 hk_f1 fv_1_5 ?_
  refine v_bipush (pc := 7) (v := 14) F dX4_readDoor_7 bp_14 ?_
  refine v_icmp_lt (pc := 9) (tgt := 14) F dX4_readDoor_9 (by decide) (fun c3 => ?_) (fun c3 => ?_)
  · have hf := ite_t hf c3
    refine v_aload_n (pc := 14) (j := 0) F dX4_readDoor_14 rfl rfl ?_
    refine v_ifl (pc := 15) F fl_X4_33 dX4_readDoor_15 kc_38.1 kc_38.2 fv_3_0 ?_
    obtain ⟨r4, e5, hf⟩ := bnd_some hf
    refine v_callVv (pc := 18) (As := []) F cl_X4_77 dX4_readDoor_18 (kX9_step e5) kc_39.1 kc_39.2 rc_8 rfl rfl (Nat.le_of_ble_eq_true rfl) (by decide) (Nat.zero_le _) ?_
    refine v_aload_n (pc := 21) (j := 0) F dX4_readDoor_21 rfl rfl ?_
    obtain ⟨r6, e7, hf⟩ := bnd_some hf
    refine v_callVi (pc := 22) (As := []) F cl_X4_165 dX4_readDoor_22 (kX4_readRoomNumber e7) kc_38.1 kc_38.2 rc_3 rfl rfl (Nat.le_of_ble_eq_true rfl) (by decide) (Nat.zero_le _) ?_
    refine v_istore_n (pc := 25) (lv' := [(0, .ref (gA g 38)), (1, .int r6.1)]) F dX4_readDoor_25 rfl (by decide) rfl ?_
    refine v_iload_n (pc := 26) (j := 1) F dX4_readDoor_26 rfl rfl ?_
    refine v_if_eq (pc := 27) (tgt := 32) F dX4_readDoor_27 (by decide) (fun c8 => ?_) (fun c8 => ?_)
    · have hf := ite_t hf c8
      refine v_aload_n (pc := 32) (j := 0) F dX4_readDoor_32 rfl rfl ?_
      refine v_ifl (pc := 33) F fl_X4_9 dX4_readDoor_33 kc_38.1 kc_38.2 fv_3_3 ?_
      refine v_istore_n (pc := 36) (lv' := [(0, .ref (gA g 38)), (1, .int r6.1), (2, .int (r6.2 38 3))]) F dX4_readDoor_36 rfl (by decide) rfl ?_
      refine v_aload_n (pc := 37) (j := 0) F dX4_readDoor_37 rfl rfl ?_
      obtain ⟨r9, e10, hf⟩ := bnd_some hf
      refine v_callVi (pc := 38) (As := []) F cl_X4_136 dX4_readDoor_38 (kX4_lookAtRoomNumber e10) kc_38.1 kc_38.2 rc_3 rfl rfl (Nat.le_of_ble_eq_true rfl) (by decide) (Nat.zero_le _) ?_
      refine v_istore_n (pc := 41) (lv' := [(0, .ref (gA g 38)), (1, .int r9), (2, .int (r6.2 38 3))]) F dX4_readDoor_41 rfl (by decide) rfl ?_
      refine v_iload_n (pc := 42) (j := 1) F dX4_readDoor_42 rfl rfl ?_
      refine v_if_ne (pc := 43) (tgt := 77) F dX4_readDoor_43 (by decide) (fun c11 => ?_) (fun c11 => ?_)
      · have hf := ite_f hf c11
        exact tX4_readDoor_77 F hr hf
      · have hf := ite_t hf c11
        refine v_aload_n (pc := 46) (j := 0) F dX4_readDoor_46 rfl rfl ?_
        refine v_ifl (pc := 47) F fl_X4_33 dX4_readDoor_47 kc_38.1 kc_38.2 fv_3_0 ?_
        refine v_ifl (pc := 50) F fl_X4_133 dX4_readDoor_50 kc_39.1 kc_39.2 fv_8_2 ?_
        refine v_iload_n (pc := 53) (j := 2) F dX4_readDoor_53 rfl rfl ?_
        refine v_icmp_eq (pc := 54) (tgt := 75) F dX4_readDoor_54 (by decide) (fun c22 => ?_) (fun c22 => ?_)
        · have hf := ite_t hf c22
          refine V.sub (lv' := [(0, .ref (gA g 38)), (2, .int (r6.2 38 3))]) [0, 2] rfl ?_
          exact tX4_readDoor_75 F hr hf
        · have hf := ite_f hf c22
          refine v_aload_n (pc := 57) (j := 0) F dX4_readDoor_57 rfl rfl ?_
          obtain ⟨f23, e24, hf⟩ := bnd_some hf
          obtain ⟨ho_f23, hk_f23, e24⟩ := rf_in e24
          refine v_ifl (pc := 58) F fl_X4_52 dX4_readDoor_58 kc_38.1 kc_38.2 (fv_3_2 e24) ?_
          refine v_iload_n (pc := 61) (j := 2) F dX4_readDoor_61 rfl rfl ?_
          refine v_aload_n (pc := 62) (j := 0) F dX4_readDoor_62 rfl rfl ?_
          refine v_ifl (pc := 63) F fl_X4_33 dX4_readDoor_63 kc_38.1 kc_38.2 fv_3_0 ?_
          refine v_ifl (pc := 66) F fl_X4_133 dX4_readDoor_66 kc_39.1 kc_39.2 fv_8_2 ?_
          obtain ⟨r25, e26, hf⟩ := bnd_some hf
          refine v_callVi (pc := 69) (As := [.int (r6.2 38 3), .int (r6.2 39 2)]) F cl_X4_168 dX4_readDoor_69 (kX2_hasDoor ho_f23 hk_f23 e26) ho_f23 hk_f23 rc_1 rfl rfl (Nat.le_of_ble_eq_true rfl) (by decide) (Nat.zero_le _) ?_
          refine v_if_eq (pc := 72) (tgt := 77) F dX4_readDoor_72 (by decide) (fun c27 => ?_) (fun c27 => ?_)
          · have hf := ite_t hf c27
            exact tX4_readDoor_77 F hr hf
          · have hf := ite_f hf c27
            refine V.sub (lv' := [(0, .ref (gA g 38)), (2, .int (r6.2 38 3))]) [0, 2] rfl ?_
            exact tX4_readDoor_75 F hr hf
    · have hf := ite_f hf c8
      refine v_iload_n (pc := 30) (j := 1) F dX4_readDoor_30 rfl rfl ?_
      exact v_iret (pc := 31) F hr dX4_readDoor_31 (some_fst hf) (some_snd hf) (Nat.zero_le _)
  · have hf := ite_f hf c3
    refine v_iconst (pc := 12) (v := 2) F dX4_readDoor_12 ic_2 ?_
    exact v_iret (pc := 13) F hr dX4_readDoor_13 (some_fst hf) (some_snd hf) (Nat.zero_le _)
def fX4_readWind (h : ST) : Option (Int32 × ST) :=
  bnd (rf KC 395 1 (h 38 2)) fun f1 =>
  if (h f1 8) < 5 then
  bnd (fX9_step h) fun r4 =>
    bnd (rf KC 395 1 (r4 38 2)) fun f6 =>
    bnd (rf KC 395 1 (r4 38 2)) fun f8 =>
    bnd (wr 5 r4 (f6 + 7) (r4 f8 8) 0) fun h10 =>
    bnd (rf KC 395 1 (h10 38 2)) fun f12 =>
    bnd (pw h10 f12 8 ((h10 f12 8) + 1)) fun h14 =>
    some (0, h14)
  else
  some (2, h)
set_option maxRecDepth 100000 in
set_option maxHeartbeats 4000000 in
theorem kX4_readWind {l : Launch} {g : GE} {B : Nat} {h : ST} {y : Int32 × ST} (hf : fX4_readWind h = some y) : CT l yX4_readWind cX4_readWind 1 (some .int) 6 KC 395 g B [.ref (gA g 38)] h (some (.int y.1)) y.2 := by
  refine CT.of pn_X4 (Nat.le_of_ble_eq_true rfl) ?_
  intro p e s m below meth c hr F
  have F : Fx p s m _ meth c cX4_readWind 1 "DustParish$Reader" 395 g B := F
  refine V_lv (lv' := [(0, .ref (gA g 38))]) rfl ?_
  unfold fX4_readWind at hf
  refine v_aload_n (pc := 0) (j := 0) F dX4_readWind_0 rfl rfl ?_
  obtain ⟨f1, e2, hf⟩ := bnd_some hf
  obtain ⟨ho_f1, hk_f1, e2⟩ := rf_in e2
  refine v_ifl (pc := 1) F fl_X4_52 dX4_readWind_1 kc_38.1 kc_38.2 (fv_3_2 e2) ?_
  refine v_ifl (pc := 4) F fl_X4_176 dX4_readWind_4 ho_f1 hk_f1 fv_1_8 ?_
  refine v_iconst (pc := 7) (v := 5) F dX4_readWind_7 ic_5 ?_
  refine v_icmp_lt (pc := 8) (tgt := 13) F dX4_readWind_8 (by decide) (fun c3 => ?_) (fun c3 => ?_)
  · have hf := ite_t hf c3
    refine v_aload_n (pc := 13) (j := 0) F dX4_readWind_13 rfl rfl ?_
    refine v_ifl (pc := 14) F fl_X4_33 dX4_readWind_14 kc_38.1 kc_38.2 fv_3_0 ?_
    obtain ⟨r4, e5, hf⟩ := bnd_some hf
    refine v_callVv (pc := 17) (As := []) F cl_X4_77 dX4_readWind_17 (kX9_step e5) kc_39.1 kc_39.2 rc_8 rfl rfl (Nat.le_of_ble_eq_true rfl) (by decide) (Nat.zero_le _) ?_
    refine v_aload_n (pc := 20) (j := 0) F dX4_readWind_20 rfl rfl ?_
    obtain ⟨f6, e7, hf⟩ := bnd_some hf
    obtain ⟨ho_f6, hk_f6, e7⟩ := rf_in e7
    refine v_ifl (pc := 21) F fl_X4_52 dX4_readWind_21 kc_38.1 kc_38.2 (fv_3_2 e7) ?_
    refine v_ifl (pc := 24) F fl_X4_179 dX4_readWind_24 ho_f6 hk_f6 fv_1_9 ?_
    refine v_aload_n (pc := 27) (j := 0) F dX4_readWind_27 rfl rfl ?_
    obtain ⟨f8, e9, hf⟩ := bnd_some hf
    obtain ⟨ho_f8, hk_f8, e9⟩ := rf_in e9
    refine v_ifl (pc := 28) F fl_X4_52 dX4_readWind_28 kc_38.1 kc_38.2 (fv_3_2 e9) ?_
    refine v_ifl (pc := 31) F fl_X4_176 dX4_readWind_31 ho_f8 hk_f8 fv_1_8 ?_
    refine v_iconst (pc := 34) (v := 0) F dX4_readWind_34 ic_0 ?_
    obtain ⟨h10, e11, hf⟩ := bnd_some hf
    refine v_iast (pc := 35) F dX4_readWind_35 (ly_1_9 ho_f6 hk_f6).1 (ly_1_9 ho_f6 hk_f6).2 e11 ?_
    refine v_aload_n (pc := 36) (j := 0) F dX4_readWind_36 rfl rfl ?_
    obtain ⟨f12, e13, hf⟩ := bnd_some hf
    obtain ⟨ho_f12, hk_f12, e13⟩ := rf_in e13
    refine v_ifl (pc := 37) F fl_X4_52 dX4_readWind_37 kc_38.1 kc_38.2 (fv_3_2 e13) ?_
    refine v_dup (pc := 40) F dX4_readWind_40 rfl ?_
    refine v_ifl (pc := 41) F fl_X4_176 dX4_readWind_41 ho_f12 hk_f12 fv_1_8 ?_
    refine v_iconst (pc := 44) (v := 1) F dX4_readWind_44 ic_1 ?_
    refine v_iadd (pc := 45) F dX4_readWind_45 ?_
    obtain ⟨h14, e15, hf⟩ := bnd_some hf
    refine v_pfl (pc := 46) F fl_X4_176 pl_1_8 dX4_readWind_46 ho_f12 hk_f12 fv_1_8 rfl rfl e15 ?_
    refine v_iconst (pc := 49) (v := 0) F dX4_readWind_49 ic_0 ?_
    exact v_iret (pc := 50) F hr dX4_readWind_50 (some_fst hf) (some_snd hf) (Nat.zero_le _)
  · have hf := ite_f hf c3
    refine v_iconst (pc := 11) (v := 2) F dX4_readWind_11 ic_2 ?_
    exact v_iret (pc := 12) F hr dX4_readWind_12 (some_fst hf) (some_snd hf) (Nat.zero_le _)
def fX4_readBlow_111 (h : ST) (l1 : Int32) (l2 : Int32) (l3 : Int32) : Option (Int32 × ST) :=
  if l3 = 0 then
  bnd (rf KC 395 1 (h 38 2)) fun f26 =>
    bnd (wr 40 h (f26 + 9) l2 (h 39 2)) fun h28 =>
    bnd (fX9_step h28) fun r30 =>
    bnd (fX4_readNumber r30 1 9) fun r32 =>
    if r32.1 = 0 then
    bnd (rf KC 395 1 (r32.2 38 2)) fun f35 =>
      bnd (wr 40 r32.2 (f35 + 10) l2 (r32.2 38 3)) fun h37 =>
      bnd (rf KC 395 1 (h37 38 2)) fun f39 =>
      bnd (rd 5 (h37 (f39 + 7)) l1) fun v41 =>
      bnd (wr 5 h37 (f39 + 7) l1 (v41 + 1)) fun h43 =>
      some (0, h43)
    else
    some (r32.1, r32.2)
  else
  some (l3, h)
def fX4_readBlow (h : ST) : Option (Int32 × ST) :=
  bnd (rf KC 395 1 (h 38 2)) fun f1 =>
  if 0 ≤ ((h f1 8) - 1) then
  bnd (rf KC 395 1 (h 38 2)) fun f4 =>
    bnd (rd 5 (h (f4 + 7)) ((h f1 8) - 1)) fun v6 =>
    if v6 < 8 then
    bnd (rf KC 395 1 (h 38 2)) fun f9 =>
      bnd (rd 5 (h (f9 + 7)) ((h f1 8) - 1)) fun v11 =>
      bnd (fX9_step h) fun r13 =>
      bnd (fX4_readRoomNumber r13) fun r15 =>
      if r15.1 = 0 then
      bnd (rf KC 395 1 (r15.2 38 2)) fun f18 =>
        bnd (wr 40 r15.2 (f18 + 8) ((((h f1 8) - 1) * 8) + v11) (r15.2 38 3)) fun h20 =>
        bnd (fX4_lookAtRoomNumber h20) fun r22 =>
        if r22 = 0 then
        bnd (rf KC 395 1 (h20 38 2)) fun f45 =>
          bnd (fX2_hasDoor h20 f45 (h20 38 3) (h20 39 2)) fun r47 =>
          if r47 = 0 then
          fX4_readBlow_111 h20 ((h f1 8) - 1) ((((h f1 8) - 1) * 8) + v11) 6
          else
          fX4_readBlow_111 h20 ((h f1 8) - 1) ((((h f1 8) - 1) * 8) + v11) r22
        else
        fX4_readBlow_111 h20 ((h f1 8) - 1) ((((h f1 8) - 1) * 8) + v11) r22
      else
      some (r15.1, r15.2)
    else
    some (2, h)
  else
  some (1, h)
set_option maxRecDepth 100000 in
set_option maxHeartbeats 4000000 in
theorem tX4_readBlow_111 {p : Program} {l : Launch} {e : Env} {s : State} {m : MethodId} {args : Array Value} {below : List Frame} {meth : Method} {c : Code} {g : GE} {B : Nat} {h : ST}  {l1 : Int32} {l2 : Int32} {l3 : Int32} (F : Fx p s m args meth c cX4_readBlow 4 "DustParish$Reader" 395 g B)
    {y : Int32 × ST} (hr : meth.sig.returnType = (some .int)) (hf : fX4_readBlow_111 h l1 l2 l3 = some y) : V p l e 7 0 s m args below meth c (MQ below (QO KC 395 g (some (.int y.1)) y.2) args s 0 (6 * 0) (WA 395 g)) KC 395 g B 4 0 h 111 [(0, .ref (gA g 38)), (1, .int l1), (2, .int l2), (3, .int l3)] [] := by
  unfold fX4_readBlow_111 at hf
  refine v_iload_n (pc := 111) (j := 3) F dX4_readBlow_111 rfl rfl ?_
  refine v_if_eq (pc := 112) (tgt := 117) F dX4_readBlow_112 (by decide) (fun c25 => ?_) (fun c25 => ?_)
  · have hf := ite_t hf c25
    refine v_aload_n (pc := 117) (j := 0) F dX4_readBlow_117 rfl rfl ?_
    obtain ⟨f26, e27, hf⟩ := bnd_some hf
    obtain ⟨ho_f26, hk_f26, e27⟩ := rf_in e27
    refine v_ifl (pc := 118) F fl_X4_52 dX4_readBlow_118 kc_38.1 kc_38.2 (fv_3_2 e27) ?_
    refine v_ifl (pc := 121) F fl_X4_185 dX4_readBlow_121 ho_f26 hk_f26 fv_1_11 ?_
    refine v_iload_n (pc := 124) (j := 2) F dX4_readBlow_124 rfl rfl ?_
    refine v_aload_n (pc := 125) (j := 0) F dX4_readBlow_125 rfl rfl ?_
    refine v_ifl (pc := 126) F fl_X4_33 dX4_readBlow_126 kc_38.1 kc_38.2 fv_3_0 ?_
    refine v_ifl (pc := 129) F fl_X4_133 dX4_readBlow_129 kc_39.1 kc_39.2 fv_8_2 ?_
    obtain ⟨h28, e29, hf⟩ := bnd_some hf
    refine v_iast (pc := 132) F dX4_readBlow_132 (ly_1_11 ho_f26 hk_f26).1 (ly_1_11 ho_f26 hk_f26).2 e29 ?_
    refine v_aload_n (pc := 133) (j := 0) F dX4_readBlow_133 rfl rfl ?_
    refine v_ifl (pc := 134) F fl_X4_33 dX4_readBlow_134 kc_38.1 kc_38.2 fv_3_0 ?_
    obtain ⟨r30, e31, hf⟩ := bnd_some hf
    refine v_callVv (pc := 137) (As := []) F cl_X4_77 dX4_readBlow_137 (kX9_step e31) kc_39.1 kc_39.2 rc_8 rfl rfl (Nat.le_of_ble_eq_true rfl) (by decide) (Nat.zero_le _) ?_
    refine v_aload_n (pc := 140) (j := 0) F dX4_readBlow_140 rfl rfl ?_
    refine v_iconst (pc := 141) (v := 1) F dX4_readBlow_141 ic_1 ?_
    refine v_bipush (pc := 142) (v := 9) F dX4_readBlow_142 bp_9 ?_
    obtain ⟨r32, e33, hf⟩ := bnd_some hf
    refine v_callVi (pc := 144) (As := [.int 1, .int 9]) F cl_X4_149 dX4_readBlow_144 (kX4_readNumber e33) kc_38.1 kc_38.2 rc_3 rfl rfl (Nat.le_of_ble_eq_true rfl) (by decide) (Nat.zero_le _) ?_
    refine v_istore_n (pc := 147) (lv' := [(0, .ref (gA g 38)), (1, .int l1), (2, .int l2), (3, .int r32.1)]) F dX4_readBlow_147 rfl (by decide) rfl ?_
    refine v_iload_n (pc := 148) (j := 3) F dX4_readBlow_148 rfl rfl ?_
    refine v_if_eq (pc := 149) (tgt := 154) F dX4_readBlow_149 (by decide) (fun c34 => ?_) (fun c34 => ?_)
    · have hf := ite_t hf c34
      refine v_aload_n (pc := 154) (j := 0) F dX4_readBlow_154 rfl rfl ?_
      obtain ⟨f35, e36, hf⟩ := bnd_some hf
      obtain ⟨ho_f35, hk_f35, e36⟩ := rf_in e36
      refine v_ifl (pc := 155) F fl_X4_52 dX4_readBlow_155 kc_38.1 kc_38.2 (fv_3_2 e36) ?_
      refine v_ifl (pc := 158) F fl_X4_188 dX4_readBlow_158 ho_f35 hk_f35 fv_1_12 ?_
      refine v_iload_n (pc := 161) (j := 2) F dX4_readBlow_161 rfl rfl ?_
      refine v_aload_n (pc := 162) (j := 0) F dX4_readBlow_162 rfl rfl ?_
      refine v_ifl (pc := 163) F fl_X4_9 dX4_readBlow_163 kc_38.1 kc_38.2 fv_3_3 ?_
      obtain ⟨h37, e38, hf⟩ := bnd_some hf
      refine v_iast (pc := 166) F dX4_readBlow_166 (ly_1_12 ho_f35 hk_f35).1 (ly_1_12 ho_f35 hk_f35).2 e38 ?_
      refine v_aload_n (pc := 167) (j := 0) F dX4_readBlow_167 rfl rfl ?_
      obtain ⟨f39, e40, hf⟩ := bnd_some hf
      obtain ⟨ho_f39, hk_f39, e40⟩ := rf_in e40
      refine v_ifl (pc := 168) F fl_X4_52 dX4_readBlow_168 kc_38.1 kc_38.2 (fv_3_2 e40) ?_
      refine v_ifl (pc := 171) F fl_X4_179 dX4_readBlow_171 ho_f39 hk_f39 fv_1_9 ?_
      refine v_iload_n (pc := 174) (j := 1) F dX4_readBlow_174 rfl rfl ?_
      refine v_dup2_11 (pc := 175) F dX4_readBlow_175 rfl rfl ?_
      obtain ⟨v41, e42, hf⟩ := bnd_some hf
      refine v_iald (pc := 176) F dX4_readBlow_176 (ly_1_9 ho_f39 hk_f39).1 (ly_1_9 ho_f39 hk_f39).2 e42 ?_
      refine v_iconst (pc := 177) (v := 1) F dX4_readBlow_177 ic_1 ?_
      refine v_iadd (pc := 178) F dX4_readBlow_178 ?_
      obtain ⟨h43, e44, hf⟩ := bnd_some hf
      refine v_iast (pc := 179) F dX4_readBlow_179 (ly_1_9 ho_f39 hk_f39).1 (ly_1_9 ho_f39 hk_f39).2 e44 ?_
      refine v_iconst (pc := 180) (v := 0) F dX4_readBlow_180 ic_0 ?_
      exact v_iret (pc := 181) F hr dX4_readBlow_181 (some_fst hf) (some_snd hf) (Nat.zero_le _)
    · have hf := ite_f hf c34
      refine v_iload_n (pc := 152) (j := 3) F dX4_readBlow_152 rfl rfl ?_
      exact v_iret (pc := 153) F hr dX4_readBlow_153 (some_fst hf) (some_snd hf) (Nat.zero_le _)
  · have hf := ite_f hf c25
    refine v_iload_n (pc := 115) (j := 3) F dX4_readBlow_115 rfl rfl ?_
    exact v_iret (pc := 116) F hr dX4_readBlow_116 (some_fst hf) (some_snd hf) (Nat.zero_le _)
set_option maxRecDepth 100000 in
set_option maxHeartbeats 4000000 in
theorem kX4_readBlow {l : Launch} {g : GE} {B : Nat} {h : ST} {y : Int32 × ST} (hf : fX4_readBlow h = some y) : CT l yX4_readBlow cX4_readBlow 4 (some .int) 7 KC 395 g B [.ref (gA g 38)] h (some (.int y.1)) y.2 := by
  refine CT.of pn_X4 (Nat.le_of_ble_eq_true rfl) ?_
  intro p e s m below meth c hr F
  have F : Fx p s m _ meth c cX4_readBlow 4 "DustParish$Reader" 395 g B := F
  refine V_lv (lv' := [(0, .ref (gA g 38))]) rfl ?_
  unfold fX4_readBlow at hf
  refine v_aload_n (pc := 0) (j := 0) F dX4_readBlow_0 rfl rfl ?_
  obtain ⟨f1, e2, hf⟩ := bnd_some hf
  obtain ⟨ho_f1, hk_f1, e2⟩ := rf_in e2
  refine v_ifl (pc := 1) F fl_X4_52 dX4_readBlow_1 kc_38.1 kc_38.2 (fv_3_2 e2) ?_
  refine v_ifl (pc := 4) F fl_X4_176 dX4_readBlow_4 ho_f1 hk_f1 fv_1_8 ?_
  refine v_iconst (pc := 7) (v := 1) F dX4_readBlow_7 ic_1 ?_
  refine v_isub (pc := 8) F dX4_readBlow_8 ?_
  refine v_istore_n (pc := 9) (lv' := [(0, .ref (gA g 38)), (1, .int ((h f1 8) - 1))]) F dX4_readBlow_9 rfl (by decide) rfl ?_
  refine v_iload_n (pc := 10) (j := 1) F dX4_readBlow_10 rfl rfl ?_
  refine v_if_ge (pc := 11) (tgt := 16) F dX4_readBlow_11 (by decide) (fun c3 => ?_) (fun c3 => ?_)
  · have hf := ite_t hf c3
    refine v_aload_n (pc := 16) (j := 0) F dX4_readBlow_16 rfl rfl ?_
    obtain ⟨f4, e5, hf⟩ := bnd_some hf
    obtain ⟨ho_f4, hk_f4, e5⟩ := rf_in e5
    refine v_ifl (pc := 17) F fl_X4_52 dX4_readBlow_17 kc_38.1 kc_38.2 (fv_3_2 e5) ?_
    refine v_ifl (pc := 20) F fl_X4_179 dX4_readBlow_20 ho_f4 hk_f4 fv_1_9 ?_
    refine v_iload_n (pc := 23) (j := 1) F dX4_readBlow_23 rfl rfl ?_
    obtain ⟨v6, e7, hf⟩ := bnd_some hf
    refine v_iald (pc := 24) F dX4_readBlow_24 (ly_1_9 ho_f4 hk_f4).1 (ly_1_9 ho_f4 hk_f4).2 e7 ?_
    refine v_bipush (pc := 25) (v := 8) F dX4_readBlow_25 bp_8 ?_
    refine v_icmp_lt (pc := 27) (tgt := 32) F dX4_readBlow_27 (by decide) (fun c8 => ?_) (fun c8 => ?_)
    · have hf := ite_t hf c8
      refine v_iload_n (pc := 32) (j := 1) F dX4_readBlow_32 rfl rfl ?_
      refine v_bipush (pc := 33) (v := 8) F dX4_readBlow_33 bp_8 ?_
      refine v_imul (pc := 35) F dX4_readBlow_35 ?_
      refine v_aload_n (pc := 36) (j := 0) F dX4_readBlow_36 rfl rfl ?_
      obtain ⟨f9, e10, hf⟩ := bnd_some hf
      obtain ⟨ho_f9, hk_f9, e10⟩ := rf_in e10
      refine v_ifl (pc := 37) F fl_X4_52 dX4_readBlow_37 kc_38.1 kc_38.2 (fv_3_2 e10) ?_
      refine v_ifl (pc := 40) F fl_X4_179 dX4_readBlow_40 ho_f9 hk_f9 fv_1_9 ?_
      refine v_iload_n (pc := 43) (j := 1) F dX4_readBlow_43 rfl rfl ?_
      obtain ⟨v11, e12, hf⟩ := bnd_some hf
      refine v_iald (pc := 44) F dX4_readBlow_44 (ly_1_9 ho_f9 hk_f9).1 (ly_1_9 ho_f9 hk_f9).2 e12 ?_
      refine v_iadd (pc := 45) F dX4_readBlow_45 ?_
      refine v_istore_n (pc := 46) (lv' := [(0, .ref (gA g 38)), (1, .int ((h f1 8) - 1)), (2, .int ((((h f1 8) - 1) * 8) + v11))]) F dX4_readBlow_46 rfl (by decide) rfl ?_
      refine v_aload_n (pc := 47) (j := 0) F dX4_readBlow_47 rfl rfl ?_
      refine v_ifl (pc := 48) F fl_X4_33 dX4_readBlow_48 kc_38.1 kc_38.2 fv_3_0 ?_
      obtain ⟨r13, e14, hf⟩ := bnd_some hf
      refine v_callVv (pc := 51) (As := []) F cl_X4_77 dX4_readBlow_51 (kX9_step e14) kc_39.1 kc_39.2 rc_8 rfl rfl (Nat.le_of_ble_eq_true rfl) (by decide) (Nat.zero_le _) ?_
      refine v_aload_n (pc := 54) (j := 0) F dX4_readBlow_54 rfl rfl ?_
      obtain ⟨r15, e16, hf⟩ := bnd_some hf
      refine v_callVi (pc := 55) (As := []) F cl_X4_165 dX4_readBlow_55 (kX4_readRoomNumber e16) kc_38.1 kc_38.2 rc_3 rfl rfl (Nat.le_of_ble_eq_true rfl) (by decide) (Nat.zero_le _) ?_
      refine v_istore_n (pc := 58) (lv' := [(0, .ref (gA g 38)), (1, .int ((h f1 8) - 1)), (2, .int ((((h f1 8) - 1) * 8) + v11)), (3, .int r15.1)]) F dX4_readBlow_58 rfl (by decide) rfl ?_
      refine v_iload_n (pc := 59) (j := 3) F dX4_readBlow_59 rfl rfl ?_
      refine v_if_eq (pc := 60) (tgt := 65) F dX4_readBlow_60 (by decide) (fun c17 => ?_) (fun c17 => ?_)
      · have hf := ite_t hf c17
        refine v_aload_n (pc := 65) (j := 0) F dX4_readBlow_65 rfl rfl ?_
        obtain ⟨f18, e19, hf⟩ := bnd_some hf
        obtain ⟨ho_f18, hk_f18, e19⟩ := rf_in e19
        refine v_ifl (pc := 66) F fl_X4_52 dX4_readBlow_66 kc_38.1 kc_38.2 (fv_3_2 e19) ?_
        refine v_ifl (pc := 69) F fl_X4_182 dX4_readBlow_69 ho_f18 hk_f18 fv_1_10 ?_
        refine v_iload_n (pc := 72) (j := 2) F dX4_readBlow_72 rfl rfl ?_
        refine v_aload_n (pc := 73) (j := 0) F dX4_readBlow_73 rfl rfl ?_
        refine v_ifl (pc := 74) F fl_X4_9 dX4_readBlow_74 kc_38.1 kc_38.2 fv_3_3 ?_
        obtain ⟨h20, e21, hf⟩ := bnd_some hf
        refine v_iast (pc := 77) F dX4_readBlow_77 (ly_1_10 ho_f18 hk_f18).1 (ly_1_10 ho_f18 hk_f18).2 e21 ?_
        refine v_aload_n (pc := 78) (j := 0) F dX4_readBlow_78 rfl rfl ?_
        obtain ⟨r22, e23, hf⟩ := bnd_some hf
        refine v_callVi (pc := 79) (As := []) F cl_X4_136 dX4_readBlow_79 (kX4_lookAtRoomNumber e23) kc_38.1 kc_38.2 rc_3 rfl rfl (Nat.le_of_ble_eq_true rfl) (by decide) (Nat.zero_le _) ?_
        refine v_istore_n (pc := 82) (lv' := [(0, .ref (gA g 38)), (1, .int ((h f1 8) - 1)), (2, .int ((((h f1 8) - 1) * 8) + v11)), (3, .int r22)]) F dX4_readBlow_82 rfl (by decide) rfl ?_
        refine v_iload_n (pc := 83) (j := 3) F dX4_readBlow_83 rfl rfl ?_
        refine v_if_ne (pc := 84) (tgt := 111) F dX4_readBlow_84 (by decide) (fun c24 => ?_) (fun c24 => ?_)
        · have hf := ite_f hf c24
          exact tX4_readBlow_111 F hr hf
        · have hf := ite_t hf c24
          refine v_aload_n (pc := 87) (j := 0) F dX4_readBlow_87 rfl rfl ?_
          obtain ⟨f45, e46, hf⟩ := bnd_some hf
          obtain ⟨ho_f45, hk_f45, e46⟩ := rf_in e46
          refine v_ifl (pc := 88) F fl_X4_52 dX4_readBlow_88 kc_38.1 kc_38.2 (fv_3_2 e46) ?_
          refine v_aload_n (pc := 91) (j := 0) F dX4_readBlow_91 rfl rfl ?_
          refine v_ifl (pc := 92) F fl_X4_9 dX4_readBlow_92 kc_38.1 kc_38.2 fv_3_3 ?_
          refine v_aload_n (pc := 95) (j := 0) F dX4_readBlow_95 rfl rfl ?_
          refine v_ifl (pc := 96) F fl_X4_33 dX4_readBlow_96 kc_38.1 kc_38.2 fv_3_0 ?_
          refine v_ifl (pc := 99) F fl_X4_133 dX4_readBlow_99 kc_39.1 kc_39.2 fv_8_2 ?_
          obtain ⟨r47, e48, hf⟩ := bnd_some hf
          refine v_callVi (pc := 102) (As := [.int (h20 38 3), .int (h20 39 2)]) F cl_X4_168 dX4_readBlow_102 (kX2_hasDoor ho_f45 hk_f45 e48) ho_f45 hk_f45 rc_1 rfl rfl (Nat.le_of_ble_eq_true rfl) (by decide) (Nat.zero_le _) ?_
          refine v_if_ne (pc := 105) (tgt := 111) F dX4_readBlow_105 (by decide) (fun c49 => ?_) (fun c49 => ?_)
          · have hf := ite_f hf c49
            exact tX4_readBlow_111 F hr hf
          · have hf := ite_t hf c49
            refine v_bipush (pc := 108) (v := 6) F dX4_readBlow_108 bp_6 ?_
            refine v_istore_n (pc := 110) (lv' := [(0, .ref (gA g 38)), (1, .int ((h f1 8) - 1)), (2, .int ((((h f1 8) - 1) * 8) + v11)), (3, .int 6)]) F dX4_readBlow_110 rfl (by decide) rfl ?_
            exact tX4_readBlow_111 F hr hf
      · have hf := ite_f hf c17
        refine v_iload_n (pc := 63) (j := 3) F dX4_readBlow_63 rfl rfl ?_
        exact v_iret (pc := 64) F hr dX4_readBlow_64 (some_fst hf) (some_snd hf) (Nat.zero_le _)
    · have hf := ite_f hf c8
      refine v_iconst (pc := 30) (v := 2) F dX4_readBlow_30 ic_2 ?_
      exact v_iret (pc := 31) F hr dX4_readBlow_31 (some_fst hf) (some_snd hf) (Nat.zero_le _)
  · have hf := ite_f hf c3
    refine v_iconst (pc := 14) (v := 1) F dX4_readBlow_14 ic_1 ?_
    exact v_iret (pc := 15) F hr dX4_readBlow_15 (some_fst hf) (some_snd hf) (Nat.zero_le _)
def fX4_readCalendar_97 (h : ST) (l1 : Int32) (l2 : Int32) : Option ((ST × Int32) ⊕ (ST ⊕ ((ST × Int32) ⊕ ST))) :=
  if l2 = 0 then
  bnd (rf KC 395 1 (h 38 2)) fun f13 =>
    bnd (wr 10 h (f13 + 11) l1 (h 39 2)) fun h15 =>
    bnd (rf KC 395 1 (h15 38 2)) fun f17 =>
    bnd (pw h15 f17 13 (l1 + 1)) fun h19 =>
    bnd (fX9_step h19) fun r21 =>
    some (.inl (r21, l1 + 1))
  else
  some (.inr (.inr (.inl (h, l2))))
def fX4_readCalendar_63 (h : ST) (l1 : Int32) (l2 : Int32) : Option ((ST × Int32) ⊕ (ST ⊕ ((ST × Int32) ⊕ ST))) :=
  if l2 = 0 then
  if (h 39 2) = 5 then
    fX4_readCalendar_97 h l1 l2
    else
    bnd (rf KC 395 1 (h 38 2)) fun f24 =>
      if (h 39 2) < (h f24 8) then
      fX4_readCalendar_97 h l1 l2
      else
      fX4_readCalendar_97 h l1 3
  else
  fX4_readCalendar_97 h l1 l2
def fX4_readCalendar_46 (h : ST) (l1 : Int32) : Option ((ST × Int32) ⊕ (ST ⊕ ((ST × Int32) ⊕ ST))) :=
  bnd (fX4_lookAtNumber h) fun r8 =>
  if r8 = 0 then
  if l1 = 10 then
    fX4_readCalendar_63 h l1 2
    else
    fX4_readCalendar_63 h l1 r8
  else
  fX4_readCalendar_63 h l1 r8
def fX4_readCalendar_23 (s1 : (ST × Int32)) : Option ((ST × Int32) ⊕ (ST ⊕ ((ST × Int32) ⊕ ST))) :=
  if 10 < s1.2 then
  some (.inr (.inr (.inr s1.1)))
  else
  if s1.2 ≤ 0 then
    fX4_readCalendar_46 s1.1 s1.2
    else
    if (s1.1 39 0) = 2 then
      fX4_readCalendar_46 s1.1 s1.2
      else
      some (.inr (.inl s1.1))
def fX4_readCalendar (h : ST) : Option (Int32 × ST) :=
  if (h 38 4) = 0 then
  bnd (pw h 38 4 1) fun h2 =>
    bnd (fX9_step h2) fun r4 =>
    bnd (lp FU (fX4_readCalendar_23) (r4, 0)) fun x29 =>
    sm x29 (fun v => some (0, v)) (fun w1 => sm w1 (fun v => some (v.2, v.1)) (fun v => some (0, v)))
  else
  some (5, h)
set_option maxRecDepth 100000 in
set_option maxHeartbeats 4000000 in
theorem tX4_readCalendar_97 {p : Program} {l : Launch} {e : Env} {s : State} {m : MethodId} {args : Array Value} {below : List Frame} {meth : Method} {c : Code} {g : GE} {B : Nat} {h : ST}  {l1 : Int32} {l2 : Int32} (F : Fx p s m args meth c cX4_readCalendar 3 "DustParish$Reader" 395 g B)
    {Q : State → Prop} {y : (ST × Int32) ⊕ (ST ⊕ ((ST × Int32) ⊕ ST))} (hk : ∀ v : (ST × Int32), y = Sum.inl v → V p l e 6 0 s m args below meth c Q KC 395 g B 3 0 v.1 23 [(0, .ref (gA g 38)), (1, .int v.2)] []) (hx0 : ∀ v : ST, y = Sum.inr (.inl v) → V p l e 6 0 s m args below meth c Q KC 395 g B 3 0 v 44 [] []) (hx1 : ∀ v : (ST × Int32), y = Sum.inr (.inr (.inl v)) → V p l e 6 0 s m args below meth c Q KC 395 g B 3 0 v.1 101 [(2, .int v.2)] []) (hx2 : ∀ v : ST, y = Sum.inr (.inr (.inr v)) → V p l e 6 0 s m args below meth c Q KC 395 g B 3 0 v 142 [] []) (hf : fX4_readCalendar_97 h l1 l2 = some y) : V p l e 6 0 s m args below meth c Q KC 395 g B 3 0 h 97 [(0, .ref (gA g 38)), (1, .int l1), (2, .int l2)] [] := by
  unfold fX4_readCalendar_97 at hf
  refine v_iload_n (pc := 97) (j := 2) F dX4_readCalendar_97 rfl rfl ?_
  refine v_if_eq (pc := 98) (tgt := 103) F dX4_readCalendar_98 (by decide) (fun c12 => ?_) (fun c12 => ?_)
  · have hf := ite_t hf c12
    refine v_aload_n (pc := 103) (j := 0) F dX4_readCalendar_103 rfl rfl ?_
    obtain ⟨f13, e14, hf⟩ := bnd_some hf
    obtain ⟨ho_f13, hk_f13, e14⟩ := rf_in e14
    refine v_ifl (pc := 104) F fl_X4_52 dX4_readCalendar_104 kc_38.1 kc_38.2 (fv_3_2 e14) ?_
    refine v_ifl (pc := 107) F fl_X4_191 dX4_readCalendar_107 ho_f13 hk_f13 fv_1_14 ?_
    refine v_iload_n (pc := 110) (j := 1) F dX4_readCalendar_110 rfl rfl ?_
    refine v_aload_n (pc := 111) (j := 0) F dX4_readCalendar_111 rfl rfl ?_
    refine v_ifl (pc := 112) F fl_X4_33 dX4_readCalendar_112 kc_38.1 kc_38.2 fv_3_0 ?_
    refine v_ifl (pc := 115) F fl_X4_133 dX4_readCalendar_115 kc_39.1 kc_39.2 fv_8_2 ?_
    obtain ⟨h15, e16, hf⟩ := bnd_some hf
    refine v_iast (pc := 118) F dX4_readCalendar_118 (ly_1_14 ho_f13 hk_f13).1 (ly_1_14 ho_f13 hk_f13).2 e16 ?_
    refine v_aload_n (pc := 119) (j := 0) F dX4_readCalendar_119 rfl rfl ?_
    obtain ⟨f17, e18, hf⟩ := bnd_some hf
    obtain ⟨ho_f17, hk_f17, e18⟩ := rf_in e18
    refine v_ifl (pc := 120) F fl_X4_52 dX4_readCalendar_120 kc_38.1 kc_38.2 (fv_3_2 e18) ?_
    refine v_iload_n (pc := 123) (j := 1) F dX4_readCalendar_123 rfl rfl ?_
    refine v_iconst (pc := 124) (v := 1) F dX4_readCalendar_124 ic_1 ?_
    refine v_iadd (pc := 125) F dX4_readCalendar_125 ?_
    obtain ⟨h19, e20, hf⟩ := bnd_some hf
    refine v_pfl (pc := 126) F fl_X4_193 pl_1_13 dX4_readCalendar_126 ho_f17 hk_f17 fv_1_13 rfl rfl e20 ?_
    refine v_aload_n (pc := 129) (j := 0) F dX4_readCalendar_129 rfl rfl ?_
    refine v_ifl (pc := 130) F fl_X4_33 dX4_readCalendar_130 kc_38.1 kc_38.2 fv_3_0 ?_
    obtain ⟨r21, e22, hf⟩ := bnd_some hf
    refine v_callVv (pc := 133) (As := []) F cl_X4_77 dX4_readCalendar_133 (kX9_step e22) kc_39.1 kc_39.2 rc_8 rfl rfl (Nat.le_of_ble_eq_true rfl) (by decide) (Nat.zero_le _) ?_
    refine v_iinc (pc := 136) (j := 1) (v := l1 + 1) (lv' := [(0, .ref (gA g 38)), (1, .int (l1 + 1)), (2, .int l2)]) F dX4_readCalendar_136 rfl (congrArg (fun z => l1 + z) ic_1) (by decide) rfl ?_
    refine v_goto (pc := 139) (tgt := 23) F dX4_readCalendar_139 (by decide) ?_
    refine V.sub (lv' := [(0, .ref (gA g 38)), (1, .int (l1 + 1))]) [0, 1] rfl ?_
    exact hk (r21, l1 + 1) (Option.some.inj hf).symm
  · have hf := ite_f hf c12
    refine V.sub (lv' := [(2, .int l2)]) [2] rfl ?_
    exact hx1 (h, l2) (Option.some.inj hf).symm
set_option maxRecDepth 100000 in
set_option maxHeartbeats 4000000 in
theorem tX4_readCalendar_63 {p : Program} {l : Launch} {e : Env} {s : State} {m : MethodId} {args : Array Value} {below : List Frame} {meth : Method} {c : Code} {g : GE} {B : Nat} {h : ST}  {l1 : Int32} {l2 : Int32} (F : Fx p s m args meth c cX4_readCalendar 3 "DustParish$Reader" 395 g B)
    {Q : State → Prop} {y : (ST × Int32) ⊕ (ST ⊕ ((ST × Int32) ⊕ ST))} (hk : ∀ v : (ST × Int32), y = Sum.inl v → V p l e 6 0 s m args below meth c Q KC 395 g B 3 0 v.1 23 [(0, .ref (gA g 38)), (1, .int v.2)] []) (hx0 : ∀ v : ST, y = Sum.inr (.inl v) → V p l e 6 0 s m args below meth c Q KC 395 g B 3 0 v 44 [] []) (hx1 : ∀ v : (ST × Int32), y = Sum.inr (.inr (.inl v)) → V p l e 6 0 s m args below meth c Q KC 395 g B 3 0 v.1 101 [(2, .int v.2)] []) (hx2 : ∀ v : ST, y = Sum.inr (.inr (.inr v)) → V p l e 6 0 s m args below meth c Q KC 395 g B 3 0 v 142 [] []) (hf : fX4_readCalendar_63 h l1 l2 = some y) : V p l e 6 0 s m args below meth c Q KC 395 g B 3 0 h 63 [(0, .ref (gA g 38)), (1, .int l1), (2, .int l2)] [] := by
  unfold fX4_readCalendar_63 at hf
  refine v_iload_n (pc := 63) (j := 2) F dX4_readCalendar_63 rfl rfl ?_
  refine v_if_ne (pc := 64) (tgt := 97) F dX4_readCalendar_64 (by decide) (fun c11 => ?_) (fun c11 => ?_)
  · have hf := ite_f hf c11
    exact tX4_readCalendar_97 F hk hx0 hx1 hx2 hf
  · have hf := ite_t hf c11
    refine v_aload_n (pc := 67) (j := 0) F dX4_readCalendar_67 rfl rfl ?_
    refine v_ifl (pc := 68) F fl_X4_33 dX4_readCalendar_68 kc_38.1 kc_38.2 fv_3_0 ?_
    refine v_ifl (pc := 71) F fl_X4_133 dX4_readCalendar_71 kc_39.1 kc_39.2 fv_8_2 ?_
    refine v_iconst (pc := 74) (v := 5) F dX4_readCalendar_74 ic_5 ?_
    refine v_icmp_eq (pc := 75) (tgt := 97) F dX4_readCalendar_75 (by decide) (fun c23 => ?_) (fun c23 => ?_)
    · have hf := ite_t hf c23
      exact tX4_readCalendar_97 F hk hx0 hx1 hx2 hf
    · have hf := ite_f hf c23
      refine v_aload_n (pc := 78) (j := 0) F dX4_readCalendar_78 rfl rfl ?_
      refine v_ifl (pc := 79) F fl_X4_33 dX4_readCalendar_79 kc_38.1 kc_38.2 fv_3_0 ?_
      refine v_ifl (pc := 82) F fl_X4_133 dX4_readCalendar_82 kc_39.1 kc_39.2 fv_8_2 ?_
      refine v_aload_n (pc := 85) (j := 0) F dX4_readCalendar_85 rfl rfl ?_
      obtain ⟨f24, e25, hf⟩ := bnd_some hf
      obtain ⟨ho_f24, hk_f24, e25⟩ := rf_in e25
      refine v_ifl (pc := 86) F fl_X4_52 dX4_readCalendar_86 kc_38.1 kc_38.2 (fv_3_2 e25) ?_
      refine v_ifl (pc := 89) F fl_X4_176 dX4_readCalendar_89 ho_f24 hk_f24 fv_1_8 ?_
      refine v_icmp_lt (pc := 92) (tgt := 97) F dX4_readCalendar_92 (by decide) (fun c26 => ?_) (fun c26 => ?_)
      · have hf := ite_t hf c26
        exact tX4_readCalendar_97 F hk hx0 hx1 hx2 hf
      · have hf := ite_f hf c26
        refine v_iconst (pc := 95) (v := 3) F dX4_readCalendar_95 ic_3 ?_
        refine v_istore_n (pc := 96) (lv' := [(0, .ref (gA g 38)), (1, .int l1), (2, .int 3)]) F dX4_readCalendar_96 rfl (by decide) rfl ?_
        exact tX4_readCalendar_97 F hk hx0 hx1 hx2 hf
set_option maxRecDepth 100000 in
set_option maxHeartbeats 4000000 in
theorem tX4_readCalendar_46 {p : Program} {l : Launch} {e : Env} {s : State} {m : MethodId} {args : Array Value} {below : List Frame} {meth : Method} {c : Code} {g : GE} {B : Nat} {h : ST}  {l1 : Int32} (F : Fx p s m args meth c cX4_readCalendar 3 "DustParish$Reader" 395 g B)
    {Q : State → Prop} {y : (ST × Int32) ⊕ (ST ⊕ ((ST × Int32) ⊕ ST))} (hk : ∀ v : (ST × Int32), y = Sum.inl v → V p l e 6 0 s m args below meth c Q KC 395 g B 3 0 v.1 23 [(0, .ref (gA g 38)), (1, .int v.2)] []) (hx0 : ∀ v : ST, y = Sum.inr (.inl v) → V p l e 6 0 s m args below meth c Q KC 395 g B 3 0 v 44 [] []) (hx1 : ∀ v : (ST × Int32), y = Sum.inr (.inr (.inl v)) → V p l e 6 0 s m args below meth c Q KC 395 g B 3 0 v.1 101 [(2, .int v.2)] []) (hx2 : ∀ v : ST, y = Sum.inr (.inr (.inr v)) → V p l e 6 0 s m args below meth c Q KC 395 g B 3 0 v 142 [] []) (hf : fX4_readCalendar_46 h l1 = some y) : V p l e 6 0 s m args below meth c Q KC 395 g B 3 0 h 46 [(0, .ref (gA g 38)), (1, .int l1)] [] := by
  unfold fX4_readCalendar_46 at hf
  refine v_aload_n (pc := 46) (j := 0) F dX4_readCalendar_46 rfl rfl ?_
  obtain ⟨r8, e9, hf⟩ := bnd_some hf
  refine v_callVi (pc := 47) (As := []) F cl_X4_130 dX4_readCalendar_47 (kX4_lookAtNumber e9) kc_38.1 kc_38.2 rc_3 rfl rfl (Nat.le_of_ble_eq_true rfl) (by decide) (Nat.zero_le _) ?_
  refine v_istore_n (pc := 50) (lv' := [(0, .ref (gA g 38)), (1, .int l1), (2, .int r8)]) F dX4_readCalendar_50 rfl (by decide) rfl ?_
  refine v_iload_n (pc := 51) (j := 2) F dX4_readCalendar_51 rfl rfl ?_
  refine v_if_ne (pc := 52) (tgt := 63) F dX4_readCalendar_52 (by decide) (fun c10 => ?_) (fun c10 => ?_)
  · have hf := ite_f hf c10
    exact tX4_readCalendar_63 F hk hx0 hx1 hx2 hf
  · have hf := ite_t hf c10
    refine v_iload_n (pc := 55) (j := 1) F dX4_readCalendar_55 rfl rfl ?_
    refine v_bipush (pc := 56) (v := 10) F dX4_readCalendar_56 bp_10 ?_
    refine v_icmp_ne (pc := 58) (tgt := 63) F dX4_readCalendar_58 (by decide) (fun c27 => ?_) (fun c27 => ?_)
    · have hf := ite_f hf c27
      exact tX4_readCalendar_63 F hk hx0 hx1 hx2 hf
    · have hf := ite_t hf c27
      refine v_iconst (pc := 61) (v := 2) F dX4_readCalendar_61 ic_2 ?_
      refine v_istore_n (pc := 62) (lv' := [(0, .ref (gA g 38)), (1, .int l1), (2, .int 2)]) F dX4_readCalendar_62 rfl (by decide) rfl ?_
      exact tX4_readCalendar_63 F hk hx0 hx1 hx2 hf
set_option maxRecDepth 100000 in
set_option maxHeartbeats 4000000 in
theorem tX4_readCalendar_23 {p : Program} {l : Launch} {e : Env} {s : State} {m : MethodId} {args : Array Value} {below : List Frame} {meth : Method} {c : Code} {g : GE} {B : Nat}   {Q : State → Prop} {x : (ST ⊕ ((ST × Int32) ⊕ ST))} {nf : Nat} {s0 : (ST × Int32)} (F : Fx p s m args meth c cX4_readCalendar 3 "DustParish$Reader" 395 g B) (hX0 : ∀ v : ST, x = (.inl v) → V p l e 6 0 s m args below meth c Q KC 395 g B 3 0 v 44 [] []) (hX1 : ∀ v : (ST × Int32), x = (.inr (.inl v)) → V p l e 6 0 s m args below meth c Q KC 395 g B 3 0 v.1 101 [(2, .int v.2)] []) (hX2 : ∀ v : ST, x = (.inr (.inr v)) → V p l e 6 0 s m args below meth c Q KC 395 g B 3 0 v 142 [] []) (hl : lp nf (fX4_readCalendar_23) s0 = some x) : V p l e 6 0 s m args below meth c Q KC 395 g B 3 0 s0.1 23 [(0, .ref (gA g 38)), (1, .int s0.2)] [] := by
  refine lp_ind (P := fun s0 => V p l e 6 0 s m args below meth c Q KC 395 g B 3 0 s0.1 23 [(0, .ref (gA g 38)), (1, .int s0.2)] []) ?_ nf s0 hl
  intro s1 y hf hk hx
  have hx0 : ∀ v : ST, y = Sum.inr (.inl v) → V p l e 6 0 s m args below meth c Q KC 395 g B 3 0 v 44 [] [] := fun v e9 => hX0 v (hx _ e9).symm
  have hx1 : ∀ v : (ST × Int32), y = Sum.inr (.inr (.inl v)) → V p l e 6 0 s m args below meth c Q KC 395 g B 3 0 v.1 101 [(2, .int v.2)] [] := fun v e9 => hX1 v (hx _ e9).symm
  have hx2 : ∀ v : ST, y = Sum.inr (.inr (.inr v)) → V p l e 6 0 s m args below meth c Q KC 395 g B 3 0 v 142 [] [] := fun v e9 => hX2 v (hx _ e9).symm
  unfold fX4_readCalendar_23 at hf
  refine v_iload_n (pc := 23) (j := 1) F dX4_readCalendar_23 rfl rfl ?_
  refine v_bipush (pc := 24) (v := 10) F dX4_readCalendar_24 bp_10 ?_
  refine v_icmp_gt (pc := 26) (tgt := 142) F dX4_readCalendar_26 (by decide) (fun c6 => ?_) (fun c6 => ?_)
  · have hf := ite_t hf c6
    refine V.sub (lv' := []) [] rfl ?_
    exact hx2 s1.1 (Option.some.inj hf).symm
  · have hf := ite_f hf c6
    refine v_iload_n (pc := 29) (j := 1) F dX4_readCalendar_29 rfl rfl ?_
    refine v_if_le (pc := 30) (tgt := 46) F dX4_readCalendar_30 (by decide) (fun c7 => ?_) (fun c7 => ?_)
    · have hf := ite_t hf c7
      exact tX4_readCalendar_46 F hk hx0 hx1 hx2 hf
    · have hf := ite_f hf c7
      refine v_aload_n (pc := 33) (j := 0) F dX4_readCalendar_33 rfl rfl ?_
      refine v_ifl (pc := 34) F fl_X4_33 dX4_readCalendar_34 kc_38.1 kc_38.2 fv_3_0 ?_
      refine v_ifl (pc := 37) F fl_X4_66 dX4_readCalendar_37 kc_39.1 kc_39.2 fv_8_0 ?_
      refine v_iconst (pc := 40) (v := 2) F dX4_readCalendar_40 ic_2 ?_
      refine v_icmp_eq (pc := 41) (tgt := 46) F dX4_readCalendar_41 (by decide) (fun c28 => ?_) (fun c28 => ?_)
      · have hf := ite_t hf c28
        exact tX4_readCalendar_46 F hk hx0 hx1 hx2 hf
      · have hf := ite_f hf c28
        refine V.sub (lv' := []) [] rfl ?_
        exact hx0 s1.1 (Option.some.inj hf).symm
set_option maxRecDepth 100000 in
set_option maxHeartbeats 4000000 in
theorem kX4_readCalendar {l : Launch} {g : GE} {B : Nat} {h : ST} {y : Int32 × ST} (hf : fX4_readCalendar h = some y) : CT l yX4_readCalendar cX4_readCalendar 3 (some .int) 6 KC 395 g B [.ref (gA g 38)] h (some (.int y.1)) y.2 := by
  refine CT.of pn_X4 (Nat.le_of_ble_eq_true rfl) ?_
  intro p e s m below meth c hr F
  have F : Fx p s m _ meth c cX4_readCalendar 3 "DustParish$Reader" 395 g B := F
  refine V_lv (lv' := [(0, .ref (gA g 38))]) rfl ?_
  unfold fX4_readCalendar at hf
  refine v_aload_n (pc := 0) (j := 0) F dX4_readCalendar_0 rfl rfl ?_
  refine v_ifl (pc := 1) F fl_X4_15 dX4_readCalendar_1 kc_38.1 kc_38.2 fv_3_4 ?_
  refine v_if_eq (pc := 4) (tgt := 9) F dX4_readCalendar_4 (by decide) (fun c1 => ?_) (fun c1 => ?_)
  · have hf := ite_t hf c1
    refine v_aload_n (pc := 9) (j := 0) F dX4_readCalendar_9 rfl rfl ?_
    refine v_iconst (pc := 10) (v := 1) F dX4_readCalendar_10 ic_1 ?_
    obtain ⟨h2, e3, hf⟩ := bnd_some hf
    refine v_pfl (pc := 11) F fl_X4_15 pl_3_4 dX4_readCalendar_11 kc_38.1 kc_38.2 fv_3_4 rfl rfl e3 ?_
    refine v_aload_n (pc := 14) (j := 0) F dX4_readCalendar_14 rfl rfl ?_
    refine v_ifl (pc := 15) F fl_X4_33 dX4_readCalendar_15 kc_38.1 kc_38.2 fv_3_0 ?_
    obtain ⟨r4, e5, hf⟩ := bnd_some hf
    refine v_callVv (pc := 18) (As := []) F cl_X4_77 dX4_readCalendar_18 (kX9_step e5) kc_39.1 kc_39.2 rc_8 rfl rfl (Nat.le_of_ble_eq_true rfl) (by decide) (Nat.zero_le _) ?_
    refine v_iconst (pc := 21) (v := 0) F dX4_readCalendar_21 ic_0 ?_
    refine v_istore_n (pc := 22) (lv' := [(0, .ref (gA g 38)), (1, .int 0)]) F dX4_readCalendar_22 rfl (by decide) rfl ?_
    obtain ⟨x29, e30, hf⟩ := bnd_some hf
    refine tX4_readCalendar_23 (s0 := (r4, 0)) F (fun v e9 => ?_) (fun v e9 => ?_) (fun v e9 => ?_) e30
    · subst e9
      have hf := sm_l hf
      refine v_iconst (pc := 44) (v := 0) F dX4_readCalendar_44 ic_0 ?_
      exact v_iret (pc := 45) F hr dX4_readCalendar_45 (some_fst hf) (some_snd hf) (Nat.zero_le _)
    · subst e9
      have hf := sm_r hf
      have hf := sm_l hf
      refine v_iload_n (pc := 101) (j := 0) F dX4_readCalendar_101 rfl rfl ?_
      exact v_iret (pc := 102) F hr dX4_readCalendar_102 (some_fst hf) (some_snd hf) (Nat.zero_le _)
    · subst e9
      have hf := sm_r hf
      have hf := sm_r hf
      refine v_iconst (pc := 142) (v := 0) F dX4_readCalendar_142 ic_0 ?_
      exact v_iret (pc := 143) F hr dX4_readCalendar_143 (some_fst hf) (some_snd hf) (Nat.zero_le _)
  · have hf := ite_f hf c1
    refine v_iconst (pc := 7) (v := 5) F dX4_readCalendar_7 ic_5 ?_
    exact v_iret (pc := 8) F hr dX4_readCalendar_8 (some_fst hf) (some_snd hf) (Nat.zero_le _)
def fX4_readEvery_51 (h : ST) (f8 : Nat) (l1 : Int32) (q1 : Int32) : Option (Int32 × ST) :=
  bnd (pw h f8 15 q1) fun h13 =>
  some (l1, h13)
def fX4_readEvery (h : ST) : Option (Int32 × ST) :=
  if (h 38 5) = 0 then
  bnd (pw h 38 5 1) fun h2 =>
    bnd (fX9_step h2) fun r4 =>
    bnd (fX4_readNumber r4 1 30) fun r6 =>
    bnd (rf KC 395 1 (r6.2 38 2)) fun f8 =>
    if r6.1 = 0 then
    fX4_readEvery_51 r6.2 f8 r6.1 (r6.2 38 3)
    else
    bnd (rf KC 395 1 (r6.2 38 2)) fun f11 =>
      fX4_readEvery_51 r6.2 f8 r6.1 (r6.2 f11 15)
  else
  some (5, h)
set_option maxRecDepth 100000 in
set_option maxHeartbeats 4000000 in
theorem tX4_readEvery_51 {p : Program} {l : Launch} {e : Env} {s : State} {m : MethodId} {args : Array Value} {below : List Frame} {meth : Method} {c : Code} {g : GE} {B : Nat} {h : ST} {f8 : Nat} (ho_f8 : f8 < 395) (hk_f8 : KC f8 = (1, 0)) {l1 : Int32} {q1 : Int32} (F : Fx p s m args meth c cX4_readEvery 2 "DustParish$Reader" 395 g B)
    {y : Int32 × ST} (hr : meth.sig.returnType = (some .int)) (hf : fX4_readEvery_51 h f8 l1 q1 = some y) : V p l e 7 0 s m args below meth c (MQ below (QO KC 395 g (some (.int y.1)) y.2) args s 0 (6 * 0) (WA 395 g)) KC 395 g B 2 0 h 51 [(1, .int l1)] [.int q1, .ref (gA g f8)] := by
  unfold fX4_readEvery_51 at hf
  obtain ⟨h13, e14, hf⟩ := bnd_some hf
  refine v_pfl (pc := 51) F fl_X4_196 pl_1_15 dX4_readEvery_51 ho_f8 hk_f8 fv_1_15 rfl rfl e14 ?_
  refine v_iload_n (pc := 54) (j := 0) F dX4_readEvery_54 rfl rfl ?_
  exact v_iret (pc := 55) F hr dX4_readEvery_55 (some_fst hf) (some_snd hf) (Nat.zero_le _)
set_option maxRecDepth 100000 in
set_option maxHeartbeats 4000000 in
theorem kX4_readEvery {l : Launch} {g : GE} {B : Nat} {h : ST} {y : Int32 × ST} (hf : fX4_readEvery h = some y) : CT l yX4_readEvery cX4_readEvery 2 (some .int) 7 KC 395 g B [.ref (gA g 38)] h (some (.int y.1)) y.2 := by
  refine CT.of pn_X4 (Nat.le_of_ble_eq_true rfl) ?_
  intro p e s m below meth c hr F
  have F : Fx p s m _ meth c cX4_readEvery 2 "DustParish$Reader" 395 g B := F
  refine V_lv (lv' := [(0, .ref (gA g 38))]) rfl ?_
  unfold fX4_readEvery at hf
  refine v_aload_n (pc := 0) (j := 0) F dX4_readEvery_0 rfl rfl ?_
  refine v_ifl (pc := 1) F fl_X4_19 dX4_readEvery_1 kc_38.1 kc_38.2 fv_3_5 ?_
  refine v_if_eq (pc := 4) (tgt := 9) F dX4_readEvery_4 (by decide) (fun c1 => ?_) (fun c1 => ?_)
  · have hf := ite_t hf c1
    refine v_aload_n (pc := 9) (j := 0) F dX4_readEvery_9 rfl rfl ?_
    refine v_iconst (pc := 10) (v := 1) F dX4_readEvery_10 ic_1 ?_
    obtain ⟨h2, e3, hf⟩ := bnd_some hf
    refine v_pfl (pc := 11) F fl_X4_19 pl_3_5 dX4_readEvery_11 kc_38.1 kc_38.2 fv_3_5 rfl rfl e3 ?_
    refine v_aload_n (pc := 14) (j := 0) F dX4_readEvery_14 rfl rfl ?_
    refine v_ifl (pc := 15) F fl_X4_33 dX4_readEvery_15 kc_38.1 kc_38.2 fv_3_0 ?_
    obtain ⟨r4, e5, hf⟩ := bnd_some hf
    refine v_callVv (pc := 18) (As := []) F cl_X4_77 dX4_readEvery_18 (kX9_step e5) kc_39.1 kc_39.2 rc_8 rfl rfl (Nat.le_of_ble_eq_true rfl) (by decide) (Nat.zero_le _) ?_
    refine v_aload_n (pc := 21) (j := 0) F dX4_readEvery_21 rfl rfl ?_
    refine v_iconst (pc := 22) (v := 1) F dX4_readEvery_22 ic_1 ?_
    refine v_bipush (pc := 23) (v := 30) F dX4_readEvery_23 bp_30 ?_
    obtain ⟨r6, e7, hf⟩ := bnd_some hf
    refine v_callVi (pc := 25) (As := [.int 1, .int 30]) F cl_X4_149 dX4_readEvery_25 (kX4_readNumber e7) kc_38.1 kc_38.2 rc_3 rfl rfl (Nat.le_of_ble_eq_true rfl) (by decide) (Nat.zero_le _) ?_
    refine v_istore_n (pc := 28) (lv' := [(0, .ref (gA g 38)), (1, .int r6.1)]) F dX4_readEvery_28 rfl (by decide) rfl ?_
    refine v_aload_n (pc := 29) (j := 0) F dX4_readEvery_29 rfl rfl ?_
    obtain ⟨f8, e9, hf⟩ := bnd_some hf
    obtain ⟨ho_f8, hk_f8, e9⟩ := rf_in e9
    refine v_ifl (pc := 30) F fl_X4_52 dX4_readEvery_30 kc_38.1 kc_38.2 (fv_3_2 e9) ?_
    refine v_iload_n (pc := 33) (j := 1) F dX4_readEvery_33 rfl rfl ?_
    refine v_if_ne (pc := 34) (tgt := 44) F dX4_readEvery_34 (by decide) (fun c10 => ?_) (fun c10 => ?_)
    · have hf := ite_f hf c10
      refine v_aload_n (pc := 44) (j := 0) F dX4_readEvery_44 rfl rfl ?_
      obtain ⟨f11, e12, hf⟩ := bnd_some hf
      obtain ⟨ho_f11, hk_f11, e12⟩ := rf_in e12
      refine v_ifl (pc := 45) F fl_X4_52 dX4_readEvery_45 kc_38.1 kc_38.2 (fv_3_2 e12) ?_
      refine v_ifl (pc := 48) F fl_X4_196 dX4_readEvery_48 ho_f11 hk_f11 fv_1_15 ?_
      refine V.sub (lv' := [(1, .int r6.1)]) [1] rfl ?_
      exact tX4_readEvery_51 ho_f8 hk_f8 F hr hf
    · have hf := ite_t hf c10
      refine v_aload_n (pc := 37) (j := 0) F dX4_readEvery_37 rfl rfl ?_
      refine v_ifl (pc := 38) F fl_X4_9 dX4_readEvery_38 kc_38.1 kc_38.2 fv_3_3 ?_
      refine v_goto (pc := 41) (tgt := 51) F dX4_readEvery_41 (by decide) ?_
      refine V.sub (lv' := [(1, .int r6.1)]) [1] rfl ?_
      exact tX4_readEvery_51 ho_f8 hk_f8 F hr hf
  · have hf := ite_f hf c1
    refine v_iconst (pc := 7) (v := 5) F dX4_readEvery_7 ic_5 ?_
    exact v_iret (pc := 8) F hr dX4_readEvery_8 (some_fst hf) (some_snd hf) (Nat.zero_le _)
def fX4_readClean_52 (h : ST) (f8 : Nat) (l1 : Int32) (q1 : Int32) : Option (Int32 × ST) :=
  bnd (pw h f8 16 q1) fun h13 =>
  some (l1, h13)
def fX4_readClean (h : ST) : Option (Int32 × ST) :=
  if (h 38 6) = 0 then
  bnd (pw h 38 6 1) fun h2 =>
    bnd (fX9_step h2) fun r4 =>
    bnd (fX4_readNumber r4 0 999) fun r6 =>
    bnd (rf KC 395 1 (r6.2 38 2)) fun f8 =>
    if r6.1 = 0 then
    fX4_readClean_52 r6.2 f8 r6.1 (r6.2 38 3)
    else
    bnd (rf KC 395 1 (r6.2 38 2)) fun f11 =>
      fX4_readClean_52 r6.2 f8 r6.1 (r6.2 f11 16)
  else
  some (5, h)
set_option maxRecDepth 100000 in
set_option maxHeartbeats 4000000 in
theorem tX4_readClean_52 {p : Program} {l : Launch} {e : Env} {s : State} {m : MethodId} {args : Array Value} {below : List Frame} {meth : Method} {c : Code} {g : GE} {B : Nat} {h : ST} {f8 : Nat} (ho_f8 : f8 < 395) (hk_f8 : KC f8 = (1, 0)) {l1 : Int32} {q1 : Int32} (F : Fx p s m args meth c cX4_readClean 2 "DustParish$Reader" 395 g B)
    {y : Int32 × ST} (hr : meth.sig.returnType = (some .int)) (hf : fX4_readClean_52 h f8 l1 q1 = some y) : V p l e 7 0 s m args below meth c (MQ below (QO KC 395 g (some (.int y.1)) y.2) args s 0 (6 * 0) (WA 395 g)) KC 395 g B 2 0 h 52 [(1, .int l1)] [.int q1, .ref (gA g f8)] := by
  unfold fX4_readClean_52 at hf
  obtain ⟨h13, e14, hf⟩ := bnd_some hf
  refine v_pfl (pc := 52) F fl_X4_198 pl_1_16 dX4_readClean_52 ho_f8 hk_f8 fv_1_16 rfl rfl e14 ?_
  refine v_iload_n (pc := 55) (j := 0) F dX4_readClean_55 rfl rfl ?_
  exact v_iret (pc := 56) F hr dX4_readClean_56 (some_fst hf) (some_snd hf) (Nat.zero_le _)
set_option maxRecDepth 100000 in
set_option maxHeartbeats 4000000 in
theorem kX4_readClean {l : Launch} {g : GE} {B : Nat} {h : ST} {y : Int32 × ST} (hf : fX4_readClean h = some y) : CT l yX4_readClean cX4_readClean 2 (some .int) 7 KC 395 g B [.ref (gA g 38)] h (some (.int y.1)) y.2 := by
  refine CT.of pn_X4 (Nat.le_of_ble_eq_true rfl) ?_
  intro p e s m below meth c hr F
  have F : Fx p s m _ meth c cX4_readClean 2 "DustParish$Reader" 395 g B := F
  refine V_lv (lv' := [(0, .ref (gA g 38))]) rfl ?_
  unfold fX4_readClean at hf
  refine v_aload_n (pc := 0) (j := 0) F dX4_readClean_0 rfl rfl ?_
  refine v_ifl (pc := 1) F fl_X4_22 dX4_readClean_1 kc_38.1 kc_38.2 fv_3_6 ?_
  refine v_if_eq (pc := 4) (tgt := 9) F dX4_readClean_4 (by decide) (fun c1 => ?_) (fun c1 => ?_)
  · have hf := ite_t hf c1
    refine v_aload_n (pc := 9) (j := 0) F dX4_readClean_9 rfl rfl ?_
    refine v_iconst (pc := 10) (v := 1) F dX4_readClean_10 ic_1 ?_
    obtain ⟨h2, e3, hf⟩ := bnd_some hf
    refine v_pfl (pc := 11) F fl_X4_22 pl_3_6 dX4_readClean_11 kc_38.1 kc_38.2 fv_3_6 rfl rfl e3 ?_
    refine v_aload_n (pc := 14) (j := 0) F dX4_readClean_14 rfl rfl ?_
    refine v_ifl (pc := 15) F fl_X4_33 dX4_readClean_15 kc_38.1 kc_38.2 fv_3_0 ?_
    obtain ⟨r4, e5, hf⟩ := bnd_some hf
    refine v_callVv (pc := 18) (As := []) F cl_X4_77 dX4_readClean_18 (kX9_step e5) kc_39.1 kc_39.2 rc_8 rfl rfl (Nat.le_of_ble_eq_true rfl) (by decide) (Nat.zero_le _) ?_
    refine v_aload_n (pc := 21) (j := 0) F dX4_readClean_21 rfl rfl ?_
    refine v_iconst (pc := 22) (v := 0) F dX4_readClean_22 ic_0 ?_
    refine v_sipush (pc := 23) (v := 999) F dX4_readClean_23 sp_999 ?_
    obtain ⟨r6, e7, hf⟩ := bnd_some hf
    refine v_callVi (pc := 26) (As := [.int 0, .int 999]) F cl_X4_149 dX4_readClean_26 (kX4_readNumber e7) kc_38.1 kc_38.2 rc_3 rfl rfl (Nat.le_of_ble_eq_true rfl) (by decide) (Nat.zero_le _) ?_
    refine v_istore_n (pc := 29) (lv' := [(0, .ref (gA g 38)), (1, .int r6.1)]) F dX4_readClean_29 rfl (by decide) rfl ?_
    refine v_aload_n (pc := 30) (j := 0) F dX4_readClean_30 rfl rfl ?_
    obtain ⟨f8, e9, hf⟩ := bnd_some hf
    obtain ⟨ho_f8, hk_f8, e9⟩ := rf_in e9
    refine v_ifl (pc := 31) F fl_X4_52 dX4_readClean_31 kc_38.1 kc_38.2 (fv_3_2 e9) ?_
    refine v_iload_n (pc := 34) (j := 1) F dX4_readClean_34 rfl rfl ?_
    refine v_if_ne (pc := 35) (tgt := 45) F dX4_readClean_35 (by decide) (fun c10 => ?_) (fun c10 => ?_)
    · have hf := ite_f hf c10
      refine v_aload_n (pc := 45) (j := 0) F dX4_readClean_45 rfl rfl ?_
      obtain ⟨f11, e12, hf⟩ := bnd_some hf
      obtain ⟨ho_f11, hk_f11, e12⟩ := rf_in e12
      refine v_ifl (pc := 46) F fl_X4_52 dX4_readClean_46 kc_38.1 kc_38.2 (fv_3_2 e12) ?_
      refine v_ifl (pc := 49) F fl_X4_198 dX4_readClean_49 ho_f11 hk_f11 fv_1_16 ?_
      refine V.sub (lv' := [(1, .int r6.1)]) [1] rfl ?_
      exact tX4_readClean_52 ho_f8 hk_f8 F hr hf
    · have hf := ite_t hf c10
      refine v_aload_n (pc := 38) (j := 0) F dX4_readClean_38 rfl rfl ?_
      refine v_ifl (pc := 39) F fl_X4_9 dX4_readClean_39 kc_38.1 kc_38.2 fv_3_3 ?_
      refine v_goto (pc := 42) (tgt := 52) F dX4_readClean_42 (by decide) ?_
      refine V.sub (lv' := [(1, .int r6.1)]) [1] rfl ?_
      exact tX4_readClean_52 ho_f8 hk_f8 F hr hf
  · have hf := ite_f hf c1
    refine v_iconst (pc := 7) (v := 5) F dX4_readClean_7 ic_5 ?_
    exact v_iret (pc := 8) F hr dX4_readClean_8 (some_fst hf) (some_snd hf) (Nat.zero_le _)
def fX6_wantPart (h : ST) : Option (ST) :=
  bnd (pw h 40 4 1) fun h1 =>
  bnd (pw h1 40 5 0) fun h3 =>
  some h3
set_option maxRecDepth 100000 in
set_option maxHeartbeats 4000000 in
theorem kX6_wantPart {l : Launch} {g : GE} {B : Nat} {h : ST} {y : ST} (hf : fX6_wantPart h = some y) : CT l yX6_wantPart cX6_wantPart 1 none 1 KC 395 g B [.ref (gA g 40)] h none y := by
  refine CT.of pn_X6 (Nat.le_of_ble_eq_true rfl) ?_
  intro p e s m below meth c hr F
  have F : Fx p s m _ meth c cX6_wantPart 1 "DustParish$RuleReader" 395 g B := F
  refine V_lv (lv' := [(0, .ref (gA g 40))]) rfl ?_
  unfold fX6_wantPart at hf
  refine v_aload_n (pc := 0) (j := 0) F dX6_wantPart_0 rfl rfl ?_
  refine v_iconst (pc := 1) (v := 1) F dX6_wantPart_1 ic_1 ?_
  obtain ⟨h1, e2, hf⟩ := bnd_some hf
  refine v_pfl (pc := 2) F fl_X6_25 pl_5_4 dX6_wantPart_2 kc_40.1 kc_40.2 fv_5_4 rfl rfl e2 ?_
  refine v_aload_n (pc := 5) (j := 0) F dX6_wantPart_5 rfl rfl ?_
  refine v_iconst (pc := 6) (v := 0) F dX6_wantPart_6 ic_0 ?_
  obtain ⟨h3, e4, hf⟩ := bnd_some hf
  refine v_pfl (pc := 7) F fl_X6_29 pl_5_5 dX6_wantPart_7 kc_40.1 kc_40.2 fv_5_5 rfl rfl e4 ?_
  exact v_vret (pc := 10) F hr dX6_wantPart_10 (Option.some.inj hf) (Nat.zero_le _)
def fX6_wantNot (h : ST) : Option (ST) :=
  bnd (fX6_wantPart h) fun r1 =>
  bnd (pw r1 40 5 1) fun h3 =>
  bnd (pw h3 40 3 0) fun h5 =>
  some h5
set_option maxRecDepth 100000 in
set_option maxHeartbeats 4000000 in
theorem kX6_wantNot {l : Launch} {g : GE} {B : Nat} {h : ST} {y : ST} (hf : fX6_wantNot h = some y) : CT l yX6_wantNot cX6_wantNot 1 none 2 KC 395 g B [.ref (gA g 40)] h none y := by
  refine CT.of pn_X6 (Nat.le_of_ble_eq_true rfl) ?_
  intro p e s m below meth c hr F
  have F : Fx p s m _ meth c cX6_wantNot 1 "DustParish$RuleReader" 395 g B := F
  refine V_lv (lv' := [(0, .ref (gA g 40))]) rfl ?_
  unfold fX6_wantNot at hf
  refine v_aload_n (pc := 0) (j := 0) F dX6_wantNot_0 rfl rfl ?_
  obtain ⟨r1, e2, hf⟩ := bnd_some hf
  refine v_callVv (pc := 1) (As := []) F cl_X6_63 dX6_wantNot_1 (kX6_wantPart e2) kc_40.1 kc_40.2 rc_5 rfl rfl (Nat.le_of_ble_eq_true rfl) (by decide) (Nat.zero_le _) ?_
  refine v_aload_n (pc := 4) (j := 0) F dX6_wantNot_4 rfl rfl ?_
  refine v_iconst (pc := 5) (v := 1) F dX6_wantNot_5 ic_1 ?_
  obtain ⟨h3, e4, hf⟩ := bnd_some hf
  refine v_pfl (pc := 6) F fl_X6_29 pl_5_5 dX6_wantNot_6 kc_40.1 kc_40.2 fv_5_5 rfl rfl e4 ?_
  refine v_aload_n (pc := 9) (j := 0) F dX6_wantNot_9 rfl rfl ?_
  refine v_iconst (pc := 10) (v := 0) F dX6_wantNot_10 ic_0 ?_
  obtain ⟨h5, e6, hf⟩ := bnd_some hf
  refine v_pfl (pc := 11) F fl_X6_22 pl_5_3 dX6_wantNot_11 kc_40.1 kc_40.2 fv_5_3 rfl rfl e6 ?_
  exact v_vret (pc := 14) F hr dX6_wantNot_14 (Option.some.inj hf) (Nat.zero_le _)
def fX9_isSign_26 (h : ST) (q0 : Int32) : Option (Int32) :=
  bnd (zb q0) fun z2 =>
  some z2
def fX9_isSign_25 (h : ST)  : Option (Int32) :=
  fX9_isSign_26 h 0
def fX9_isSign (h : ST) (a1 : Int32) : Option (Int32) :=
  if (h 39 0) = 3 then
  bnd (rd 700 (h 1) (h 39 1)) fun v4 =>
    if v4 = a1 then
    fX9_isSign_26 h 1
    else
    fX9_isSign_25 h 
  else
  fX9_isSign_25 h 
set_option maxRecDepth 100000 in
set_option maxHeartbeats 4000000 in
theorem tX9_isSign_26 {p : Program} {l : Launch} {e : Env} {s : State} {m : MethodId} {args : Array Value} {below : List Frame} {meth : Method} {c : Code} {g : GE} {B : Nat} {h : ST}  {q0 : Int32} (F : Fx p s m args meth c cX9_isSign 2 "DustParish$Tokens" 395 g B)
    {y : Int32} (hr : meth.sig.returnType = (some .boolean)) (hf : fX9_isSign_26 h q0 = some y) : V p l e 1 0 s m args below meth c (MQ below (QO KC 395 g (some (.int y)) h) args s 0 (6 * 0) (WA 395 g)) KC 395 g B 2 0 h 26 [] [.int q0] := by
  unfold fX9_isSign_26 at hf
  obtain ⟨z2, e3, hf⟩ := bnd_some hf
  exact v_zret (pc := 26) F hr dX9_isSign_26 (zb_in e3).2 ((zb_in e3).1.symm.trans (Option.some.inj hf)) rfl (Nat.zero_le _)
set_option maxRecDepth 100000 in
set_option maxHeartbeats 4000000 in
theorem tX9_isSign_25 {p : Program} {l : Launch} {e : Env} {s : State} {m : MethodId} {args : Array Value} {below : List Frame} {meth : Method} {c : Code} {g : GE} {B : Nat} {h : ST}  (F : Fx p s m args meth c cX9_isSign 2 "DustParish$Tokens" 395 g B)
    {y : Int32} (hr : meth.sig.returnType = (some .boolean)) (hf : fX9_isSign_25 h  = some y) : V p l e 1 0 s m args below meth c (MQ below (QO KC 395 g (some (.int y)) h) args s 0 (6 * 0) (WA 395 g)) KC 395 g B 2 0 h 25 [] [] := by
  unfold fX9_isSign_25 at hf
  refine v_iconst (pc := 25) (v := 0) F dX9_isSign_25 ic_0 ?_
  exact tX9_isSign_26 F hr hf
set_option maxRecDepth 100000 in
set_option maxHeartbeats 4000000 in
theorem kX9_isSign {l : Launch} {g : GE} {B : Nat} {h : ST} {a1 : Int32} {y : Int32} (hf : fX9_isSign h a1 = some y) : CT l yX9_isSign cX9_isSign 2 (some .boolean) 1 KC 395 g B [.ref (gA g 39), .int a1] h (some (.int y)) h := by
  refine CT.of pn_X9 (Nat.le_of_ble_eq_true rfl) ?_
  intro p e s m below meth c hr F
  have F : Fx p s m _ meth c cX9_isSign 2 "DustParish$Tokens" 395 g B := F
  refine V_lv (lv' := [(0, .ref (gA g 39)), (1, .int a1)]) rfl ?_
  unfold fX9_isSign at hf
  refine v_aload_n (pc := 0) (j := 0) F dX9_isSign_0 rfl rfl ?_
  refine v_ifl (pc := 1) F fl_X9_9 dX9_isSign_1 kc_39.1 kc_39.2 fv_8_0 ?_
  refine v_iconst (pc := 4) (v := 3) F dX9_isSign_4 ic_3 ?_
  refine v_icmp_ne (pc := 5) (tgt := 25) F dX9_isSign_5 (by decide) (fun c1 => ?_) (fun c1 => ?_)
  · have hf := ite_f hf c1
    refine V.sub (lv' := []) [] rfl ?_
    exact tX9_isSign_25 F hr hf
  · have hf := ite_t hf c1
    refine v_aload_n (pc := 8) (j := 0) F dX9_isSign_8 rfl rfl ?_
    refine v_ifl (pc := 9) F fl_X9_29 dX9_isSign_9 kc_39.1 kc_39.2 fv_8_6 ?_
    refine v_aload_n (pc := 12) (j := 0) F dX9_isSign_12 rfl rfl ?_
    refine v_ifl (pc := 13) F fl_X9_13 dX9_isSign_13 kc_39.1 kc_39.2 fv_8_1 ?_
    obtain ⟨v4, e5, hf⟩ := bnd_some hf
    refine v_bald (pc := 16) F dX9_isSign_16 kc_1.1 kc_1.2 e5 ?_
    refine v_iload_n (pc := 17) (j := 1) F dX9_isSign_17 rfl rfl ?_
    refine v_icmp_ne (pc := 18) (tgt := 25) F dX9_isSign_18 (by decide) (fun c6 => ?_) (fun c6 => ?_)
    · have hf := ite_f hf c6
      refine V.sub (lv' := []) [] rfl ?_
      exact tX9_isSign_25 F hr hf
    · have hf := ite_t hf c6
      refine v_iconst (pc := 21) (v := 1) F dX9_isSign_21 ic_1 ?_
      refine v_goto (pc := 22) (tgt := 26) F dX9_isSign_22 (by decide) ?_
      refine V.sub (lv' := []) [] rfl ?_
      exact tX9_isSign_26 F hr hf
def fX6_strengthOf (h : ST) (a1 : Int32) : Option (Int32) :=
  if a1 = (-15) then
  some 1
  else
  if a1 = (-14) then
  some 2
  else
  if a1 = (-13) then
  some 3
  else
  if a1 = (-12) then
  some 4
  else
  if a1 = (-11) then
  some 4
  else
  if a1 = (-10) then
  some 6
  else
  if a1 = (-9) then
  some 6
  else
  if a1 = (-8) then
  some 5
  else
  if a1 = (-7) then
  some 5
  else
  some 0
set_option maxRecDepth 100000 in
set_option maxHeartbeats 4000000 in
theorem kX6_strengthOf {l : Launch} {g : GE} {B : Nat} {h : ST} {a1 : Int32} {y : Int32} (hf : fX6_strengthOf h a1 = some y) : CT l yX6_strengthOf cX6_strengthOf 1 (some .int) 1 KC 395 g B [.int a1] h (some (.int y)) h := by
  refine CT.of pn_X6 (Nat.le_of_ble_eq_true rfl) ?_
  intro p e s m below meth c hr F
  have F : Fx p s m _ meth c cX6_strengthOf 1 "DustParish$RuleReader" 395 g B := F
  refine V_lv (lv' := [(0, .int a1)]) rfl ?_
  unfold fX6_strengthOf at hf
  refine v_iload_n (pc := 0) (j := 0) F dX6_strengthOf_0 rfl rfl ?_
  by_cases c1 : a1 = (-15)
  · have hf := ite_t hf c1
    refine v_tabIn (pc := 1) (off := 51) (tgt := 52) F dX6_strengthOf_1 (by rw [c1]; decide) (by rw [c1]; decide) (by rw [c1]; rfl) (by decide) ?_
    refine v_iconst (pc := 52) (v := 1) F dX6_strengthOf_52 ic_1 ?_
    exact v_iret (pc := 53) F hr dX6_strengthOf_53 (Option.some.inj hf) rfl (Nat.zero_le _)
  have hf := ite_f hf c1
  by_cases c2 : a1 = (-14)
  · have hf := ite_t hf c2
    refine v_tabIn (pc := 1) (off := 53) (tgt := 54) F dX6_strengthOf_1 (by rw [c2]; decide) (by rw [c2]; decide) (by rw [c2]; rfl) (by decide) ?_
    refine v_iconst (pc := 54) (v := 2) F dX6_strengthOf_54 ic_2 ?_
    exact v_iret (pc := 55) F hr dX6_strengthOf_55 (Option.some.inj hf) rfl (Nat.zero_le _)
  have hf := ite_f hf c2
  by_cases c3 : a1 = (-13)
  · have hf := ite_t hf c3
    refine v_tabIn (pc := 1) (off := 55) (tgt := 56) F dX6_strengthOf_1 (by rw [c3]; decide) (by rw [c3]; decide) (by rw [c3]; rfl) (by decide) ?_
    refine v_iconst (pc := 56) (v := 3) F dX6_strengthOf_56 ic_3 ?_
    exact v_iret (pc := 57) F hr dX6_strengthOf_57 (Option.some.inj hf) rfl (Nat.zero_le _)
  have hf := ite_f hf c3
  by_cases c4 : a1 = (-12)
  · have hf := ite_t hf c4
    refine v_tabIn (pc := 1) (off := 57) (tgt := 58) F dX6_strengthOf_1 (by rw [c4]; decide) (by rw [c4]; decide) (by rw [c4]; rfl) (by decide) ?_
    refine v_iconst (pc := 58) (v := 4) F dX6_strengthOf_58 ic_4 ?_
    exact v_iret (pc := 59) F hr dX6_strengthOf_59 (Option.some.inj hf) rfl (Nat.zero_le _)
  have hf := ite_f hf c4
  by_cases c5 : a1 = (-11)
  · have hf := ite_t hf c5
    refine v_tabIn (pc := 1) (off := 57) (tgt := 58) F dX6_strengthOf_1 (by rw [c5]; decide) (by rw [c5]; decide) (by rw [c5]; rfl) (by decide) ?_
    refine v_iconst (pc := 58) (v := 4) F dX6_strengthOf_58 ic_4 ?_
    exact v_iret (pc := 59) F hr dX6_strengthOf_59 (Option.some.inj hf) rfl (Nat.zero_le _)
  have hf := ite_f hf c5
  by_cases c6 : a1 = (-10)
  · have hf := ite_t hf c6
    refine v_tabIn (pc := 1) (off := 61) (tgt := 62) F dX6_strengthOf_1 (by rw [c6]; decide) (by rw [c6]; decide) (by rw [c6]; rfl) (by decide) ?_
    refine v_bipush (pc := 62) (v := 6) F dX6_strengthOf_62 bp_6 ?_
    exact v_iret (pc := 64) F hr dX6_strengthOf_64 (Option.some.inj hf) rfl (Nat.zero_le _)
  have hf := ite_f hf c6
  by_cases c7 : a1 = (-9)
  · have hf := ite_t hf c7
    refine v_tabIn (pc := 1) (off := 61) (tgt := 62) F dX6_strengthOf_1 (by rw [c7]; decide) (by rw [c7]; decide) (by rw [c7]; rfl) (by decide) ?_
    refine v_bipush (pc := 62) (v := 6) F dX6_strengthOf_62 bp_6 ?_
    exact v_iret (pc := 64) F hr dX6_strengthOf_64 (Option.some.inj hf) rfl (Nat.zero_le _)
  have hf := ite_f hf c7
  by_cases c8 : a1 = (-8)
  · have hf := ite_t hf c8
    refine v_tabIn (pc := 1) (off := 59) (tgt := 60) F dX6_strengthOf_1 (by rw [c8]; decide) (by rw [c8]; decide) (by rw [c8]; rfl) (by decide) ?_
    refine v_iconst (pc := 60) (v := 5) F dX6_strengthOf_60 ic_5 ?_
    exact v_iret (pc := 61) F hr dX6_strengthOf_61 (Option.some.inj hf) rfl (Nat.zero_le _)
  have hf := ite_f hf c8
  by_cases c9 : a1 = (-7)
  · have hf := ite_t hf c9
    refine v_tabIn (pc := 1) (off := 59) (tgt := 60) F dX6_strengthOf_1 (by rw [c9]; decide) (by rw [c9]; decide) (by rw [c9]; rfl) (by decide) ?_
    refine v_iconst (pc := 60) (v := 5) F dX6_strengthOf_60 ic_5 ?_
    exact v_iret (pc := 61) F hr dX6_strengthOf_61 (Option.some.inj hf) rfl (Nat.zero_le _)
  have hf := ite_f hf c9
  have n_c1 : ¬ (a1).toInt = -15 := lv_neT c1 rfl
  have n_c2 : ¬ (a1).toInt = -14 := lv_neT c2 rfl
  have n_c3 : ¬ (a1).toInt = -13 := lv_neT c3 rfl
  have n_c4 : ¬ (a1).toInt = -12 := lv_neT c4 rfl
  have n_c5 : ¬ (a1).toInt = -11 := lv_neT c5 rfl
  have n_c6 : ¬ (a1).toInt = -10 := lv_neT c6 rfl
  have n_c7 : ¬ (a1).toInt = -9 := lv_neT c7 rfl
  have n_c8 : ¬ (a1).toInt = -8 := lv_neT c8 rfl
  have n_c9 : ¬ (a1).toInt = -7 := lv_neT c9 rfl
  refine v_tabOut (pc := 1) (tgt := 65) F dX6_strengthOf_1 (by omega) (by decide) ?_
  refine v_iconst (pc := 65) (v := 0) F dX6_strengthOf_65 ic_0 ?_
  exact v_iret (pc := 66) F hr dX6_strengthOf_66 (Option.some.inj hf) rfl (Nat.zero_le _)
def fX5_put_30 (h : ST)  : Option (ST) :=
  some h
def fX5_put (h : ST) (o : Nat) (a1 : Int32) : Option (ST) :=
  if 700 ≤ (h o 1) then
  fX5_put_30 h 
  else
  bnd (wr 700 h (o + 2) (h o 1) a1) fun h2 =>
    bnd (pw h2 o 1 ((h2 o 1) + 1)) fun h4 =>
    fX5_put_30 h4 
set_option maxRecDepth 100000 in
set_option maxHeartbeats 4000000 in
theorem tX5_put_30 {p : Program} {l : Launch} {e : Env} {s : State} {m : MethodId} {args : Array Value} {below : List Frame} {meth : Method} {c : Code} {g : GE} {B : Nat} {h : ST}  (F : Fx p s m args meth c cX5_put 2 "DustParish$Rule" 395 g B)
    {y : ST} (hr : meth.sig.returnType = none) (hf : fX5_put_30 h  = some y) : V p l e 1 0 s m args below meth c (MQ below (QO KC 395 g none y) args s 0 (6 * 0) (WA 395 g)) KC 395 g B 2 0 h 30 [] [] := by
  unfold fX5_put_30 at hf
  exact v_vret (pc := 30) F hr dX5_put_30 (Option.some.inj hf) (Nat.zero_le _)
set_option maxRecDepth 100000 in
set_option maxHeartbeats 4000000 in
theorem kX5_put {l : Launch} {g : GE} {B : Nat} {h : ST} {o : Nat} (ho_o : o < 395) (hk_o : KC o = (4, 0)) {a1 : Int32} {y : ST} (hf : fX5_put h o a1 = some y) : CT l yX5_put cX5_put 2 none 1 KC 395 g B [.ref (gA g o), .int a1] h none y := by
  refine CT.of pn_X5 (Nat.le_of_ble_eq_true rfl) ?_
  intro p e s m below meth c hr F
  have F : Fx p s m _ meth c cX5_put 2 "DustParish$Rule" 395 g B := F
  refine V_lv (lv' := [(0, .ref (gA g o)), (1, .int a1)]) rfl ?_
  unfold fX5_put at hf
  refine v_aload_n (pc := 0) (j := 0) F dX5_put_0 rfl rfl ?_
  refine v_ifl (pc := 1) F fl_X5_15 dX5_put_1 ho_o hk_o fv_4_1 ?_
  refine v_sipush (pc := 4) (v := 700) F dX5_put_4 sp_700 ?_
  refine v_icmp_ge (pc := 7) (tgt := 30) F dX5_put_7 (by decide) (fun c1 => ?_) (fun c1 => ?_)
  · have hf := ite_t hf c1
    refine V.sub (lv' := []) [] rfl ?_
    exact tX5_put_30 F hr hf
  · have hf := ite_f hf c1
    refine v_aload_n (pc := 10) (j := 0) F dX5_put_10 rfl rfl ?_
    refine v_ifl (pc := 11) F fl_X5_19 dX5_put_11 ho_o hk_o fv_4_2 ?_
    refine v_aload_n (pc := 14) (j := 0) F dX5_put_14 rfl rfl ?_
    refine v_ifl (pc := 15) F fl_X5_15 dX5_put_15 ho_o hk_o fv_4_1 ?_
    refine v_iload_n (pc := 18) (j := 1) F dX5_put_18 rfl rfl ?_
    obtain ⟨h2, e3, hf⟩ := bnd_some hf
    refine v_iast (pc := 19) F dX5_put_19 (ly_4_2 ho_o hk_o).1 (ly_4_2 ho_o hk_o).2 e3 ?_
    refine v_aload_n (pc := 20) (j := 0) F dX5_put_20 rfl rfl ?_
    refine v_dup (pc := 21) F dX5_put_21 rfl ?_
    refine v_ifl (pc := 22) F fl_X5_15 dX5_put_22 ho_o hk_o fv_4_1 ?_
    refine v_iconst (pc := 25) (v := 1) F dX5_put_25 ic_1 ?_
    refine v_iadd (pc := 26) F dX5_put_26 ?_
    obtain ⟨h4, e5, hf⟩ := bnd_some hf
    refine v_pfl (pc := 27) F fl_X5_15 pl_4_1 dX5_put_27 ho_o hk_o fv_4_1 rfl rfl e5 ?_
    refine V.sub (lv' := []) [] rfl ?_
    exact tX5_put_30 F hr hf
def fX6_release_0 (l1 : Int32) (s1 : ST) : Option (ST ⊕ ST) :=
  if (s1 40 1) ≤ 0 then
  some (.inr s1)
  else
  bnd (rd 80 (s1 41) ((s1 40 1) - 1)) fun v2 =>
    bnd (fX6_strengthOf s1 v2) fun r4 =>
    if r4 < l1 then
    some (.inr s1)
    else
    bnd (pw s1 40 1 ((s1 40 1) - 1)) fun h7 =>
      bnd (rf KC 395 4 (h7 40 7)) fun f9 =>
      bnd (rd 80 (h7 41) (h7 40 1)) fun v11 =>
      bnd (fX5_put h7 f9 v11) fun r13 =>
      some (.inl r13)
def fX6_release_54 (h : ST)  : Option (ST) :=
  some h
def fX6_release (h : ST) (a1 : Int32) : Option (ST) :=
  bnd (lp FU (fX6_release_0 a1) h) fun x15 =>
  fX6_release_54 x15 
set_option maxRecDepth 100000 in
set_option maxHeartbeats 4000000 in
theorem tX6_release_0 {p : Program} {l : Launch} {e : Env} {s : State} {m : MethodId} {args : Array Value} {below : List Frame} {meth : Method} {c : Code} {g : GE} {B : Nat}   {l1 : Int32} {Q : State → Prop} {x : ST} {nf : Nat} {s0 : ST} (F : Fx p s m args meth c cX6_release 2 "DustParish$RuleReader" 395 g B) (hX0 : V p l e 2 0 s m args below meth c Q KC 395 g B 2 0 x 54 [] []) (hl : lp nf (fX6_release_0 l1) s0 = some x) : V p l e 2 0 s m args below meth c Q KC 395 g B 2 0 s0 0 [(0, .ref (gA g 40)), (1, .int l1)] [] := by
  refine lp_ind (P := fun s0 => V p l e 2 0 s m args below meth c Q KC 395 g B 2 0 s0 0 [(0, .ref (gA g 40)), (1, .int l1)] []) ?_ nf s0 hl
  intro s1 y hf hk hx
  have hx0 : ∀ v : ST, y = Sum.inr v → V p l e 2 0 s m args below meth c Q KC 395 g B 2 0 v 54 [] [] := fun v e9 => by rw [hx v e9]; exact hX0
  unfold fX6_release_0 at hf
  refine v_aload_n (pc := 0) (j := 0) F dX6_release_0 rfl rfl ?_
  refine v_ifl (pc := 1) F fl_X6_15 dX6_release_1 kc_40.1 kc_40.2 fv_5_1 ?_
  refine v_if_le (pc := 4) (tgt := 54) F dX6_release_4 (by decide) (fun c1 => ?_) (fun c1 => ?_)
  · have hf := ite_t hf c1
    refine V.sub (lv' := []) [] rfl ?_
    exact hx0 s1 (Option.some.inj hf).symm
  · have hf := ite_f hf c1
    refine v_aload_n (pc := 7) (j := 0) F dX6_release_7 rfl rfl ?_
    refine v_ifl (pc := 8) F fl_X6_11 dX6_release_8 kc_40.1 kc_40.2 fv_5_0 ?_
    refine v_aload_n (pc := 11) (j := 0) F dX6_release_11 rfl rfl ?_
    refine v_ifl (pc := 12) F fl_X6_15 dX6_release_12 kc_40.1 kc_40.2 fv_5_1 ?_
    refine v_iconst (pc := 15) (v := 1) F dX6_release_15 ic_1 ?_
    refine v_isub (pc := 16) F dX6_release_16 ?_
    obtain ⟨v2, e3, hf⟩ := bnd_some hf
    refine v_iald (pc := 17) F dX6_release_17 kc_41.1 kc_41.2 e3 ?_
    obtain ⟨r4, e5, hf⟩ := bnd_some hf
    refine v_callSi (pc := 18) (As := [.int v2]) F cl_X6_111 dX6_release_18 (kX6_strengthOf e5) rfl rfl (Nat.le_of_ble_eq_true rfl) (by decide) (Nat.zero_le _) ?_
    refine v_iload_n (pc := 21) (j := 1) F dX6_release_21 rfl rfl ?_
    refine v_icmp_lt (pc := 22) (tgt := 54) F dX6_release_22 (by decide) (fun c6 => ?_) (fun c6 => ?_)
    · have hf := ite_t hf c6
      refine V.sub (lv' := []) [] rfl ?_
      exact hx0 s1 (Option.some.inj hf).symm
    · have hf := ite_f hf c6
      refine v_aload_n (pc := 25) (j := 0) F dX6_release_25 rfl rfl ?_
      refine v_dup (pc := 26) F dX6_release_26 rfl ?_
      refine v_ifl (pc := 27) F fl_X6_15 dX6_release_27 kc_40.1 kc_40.2 fv_5_1 ?_
      refine v_iconst (pc := 30) (v := 1) F dX6_release_30 ic_1 ?_
      refine v_isub (pc := 31) F dX6_release_31 ?_
      obtain ⟨h7, e8, hf⟩ := bnd_some hf
      refine v_pfl (pc := 32) F fl_X6_15 pl_5_1 dX6_release_32 kc_40.1 kc_40.2 fv_5_1 rfl rfl e8 ?_
      refine v_aload_n (pc := 35) (j := 0) F dX6_release_35 rfl rfl ?_
      obtain ⟨f9, e10, hf⟩ := bnd_some hf
      obtain ⟨ho_f9, hk_f9, e10⟩ := rf_in e10
      refine v_ifl (pc := 36) F fl_X6_36 dX6_release_36 kc_40.1 kc_40.2 (fv_5_7 e10) ?_
      refine v_aload_n (pc := 39) (j := 0) F dX6_release_39 rfl rfl ?_
      refine v_ifl (pc := 40) F fl_X6_11 dX6_release_40 kc_40.1 kc_40.2 fv_5_0 ?_
      refine v_aload_n (pc := 43) (j := 0) F dX6_release_43 rfl rfl ?_
      refine v_ifl (pc := 44) F fl_X6_15 dX6_release_44 kc_40.1 kc_40.2 fv_5_1 ?_
      obtain ⟨v11, e12, hf⟩ := bnd_some hf
      refine v_iald (pc := 47) F dX6_release_47 kc_41.1 kc_41.2 e12 ?_
      obtain ⟨r13, e14, hf⟩ := bnd_some hf
      refine v_callVv (pc := 48) (As := [.int v11]) F cl_X6_84 dX6_release_48 (kX5_put ho_f9 hk_f9 e14) ho_f9 hk_f9 rc_4 rfl rfl (Nat.le_of_ble_eq_true rfl) (by decide) (Nat.zero_le _) ?_
      refine v_goto (pc := 51) (tgt := 0) F dX6_release_51 (by decide) ?_
      exact hk r13 (Option.some.inj hf).symm
set_option maxRecDepth 100000 in
set_option maxHeartbeats 4000000 in
theorem tX6_release_54 {p : Program} {l : Launch} {e : Env} {s : State} {m : MethodId} {args : Array Value} {below : List Frame} {meth : Method} {c : Code} {g : GE} {B : Nat} {h : ST}  (F : Fx p s m args meth c cX6_release 2 "DustParish$RuleReader" 395 g B)
    {y : ST} (hr : meth.sig.returnType = none) (hf : fX6_release_54 h  = some y) : V p l e 2 0 s m args below meth c (MQ below (QO KC 395 g none y) args s 0 (6 * 0) (WA 395 g)) KC 395 g B 2 0 h 54 [] [] := by
  unfold fX6_release_54 at hf
  exact v_vret (pc := 54) F hr dX6_release_54 (Option.some.inj hf) (Nat.zero_le _)
set_option maxRecDepth 100000 in
set_option maxHeartbeats 4000000 in
theorem kX6_release {l : Launch} {g : GE} {B : Nat} {h : ST} {a1 : Int32} {y : ST} (hf : fX6_release h a1 = some y) : CT l yX6_release cX6_release 2 none 2 KC 395 g B [.ref (gA g 40), .int a1] h none y := by
  refine CT.of pn_X6 (Nat.le_of_ble_eq_true rfl) ?_
  intro p e s m below meth c hr F
  have F : Fx p s m _ meth c cX6_release 2 "DustParish$RuleReader" 395 g B := F
  refine V_lv (lv' := [(0, .ref (gA g 40)), (1, .int a1)]) rfl ?_
  unfold fX6_release at hf
  obtain ⟨x15, e16, hf⟩ := bnd_some hf
  refine tX6_release_0 (s0 := h) F ?_ e16
  exact tX6_release_54 F hr hf
def fX6_hold (h : ST) (a1 : Int32) : Option (Int32 × ST) :=
  if (h 40 1) < 80 then
  bnd (wr 80 h 41 (h 40 1) a1) fun h2 =>
    bnd (pw h2 40 1 ((h2 40 1) + 1)) fun h4 =>
    some (0, h4)
  else
  some (2, h)
set_option maxRecDepth 100000 in
set_option maxHeartbeats 4000000 in
theorem kX6_hold {l : Launch} {g : GE} {B : Nat} {h : ST} {a1 : Int32} {y : Int32 × ST} (hf : fX6_hold h a1 = some y) : CT l yX6_hold cX6_hold 2 (some .int) 1 KC 395 g B [.ref (gA g 40), .int a1] h (some (.int y.1)) y.2 := by
  refine CT.of pn_X6 (Nat.le_of_ble_eq_true rfl) ?_
  intro p e s m below meth c hr F
  have F : Fx p s m _ meth c cX6_hold 2 "DustParish$RuleReader" 395 g B := F
  refine V_lv (lv' := [(0, .ref (gA g 40)), (1, .int a1)]) rfl ?_
  unfold fX6_hold at hf
  refine v_aload_n (pc := 0) (j := 0) F dX6_hold_0 rfl rfl ?_
  refine v_ifl (pc := 1) F fl_X6_15 dX6_hold_1 kc_40.1 kc_40.2 fv_5_1 ?_
  refine v_bipush (pc := 4) (v := 80) F dX6_hold_4 bp_80 ?_
  refine v_icmp_lt (pc := 6) (tgt := 11) F dX6_hold_6 (by decide) (fun c1 => ?_) (fun c1 => ?_)
  · have hf := ite_t hf c1
    refine v_aload_n (pc := 11) (j := 0) F dX6_hold_11 rfl rfl ?_
    refine v_ifl (pc := 12) F fl_X6_11 dX6_hold_12 kc_40.1 kc_40.2 fv_5_0 ?_
    refine v_aload_n (pc := 15) (j := 0) F dX6_hold_15 rfl rfl ?_
    refine v_ifl (pc := 16) F fl_X6_15 dX6_hold_16 kc_40.1 kc_40.2 fv_5_1 ?_
    refine v_iload_n (pc := 19) (j := 1) F dX6_hold_19 rfl rfl ?_
    obtain ⟨h2, e3, hf⟩ := bnd_some hf
    refine v_iast (pc := 20) F dX6_hold_20 kc_41.1 kc_41.2 e3 ?_
    refine v_aload_n (pc := 21) (j := 0) F dX6_hold_21 rfl rfl ?_
    refine v_dup (pc := 22) F dX6_hold_22 rfl ?_
    refine v_ifl (pc := 23) F fl_X6_15 dX6_hold_23 kc_40.1 kc_40.2 fv_5_1 ?_
    refine v_iconst (pc := 26) (v := 1) F dX6_hold_26 ic_1 ?_
    refine v_iadd (pc := 27) F dX6_hold_27 ?_
    obtain ⟨h4, e5, hf⟩ := bnd_some hf
    refine v_pfl (pc := 28) F fl_X6_15 pl_5_1 dX6_hold_28 kc_40.1 kc_40.2 fv_5_1 rfl rfl e5 ?_
    refine v_iconst (pc := 31) (v := 0) F dX6_hold_31 ic_0 ?_
    exact v_iret (pc := 32) F hr dX6_hold_32 (some_fst hf) (some_snd hf) (Nat.zero_le _)
  · have hf := ite_f hf c1
    refine v_iconst (pc := 9) (v := 2) F dX6_hold_9 ic_2 ?_
    exact v_iret (pc := 10) F hr dX6_hold_10 (some_fst hf) (some_snd hf) (Nat.zero_le _)
def fX6_valueAtHand_92 (h : ST) (q0 : Int32) : Option (Int32) :=
  some q0
def fX6_valueAtHand (h : ST) : Option (Int32) :=
  bnd (fX9_isWord h 12) fun r1 =>
  if r1 = 0 then
  bnd (fX9_isWord h 13) fun r4 =>
    if r4 = 0 then
    bnd (fX9_isWord h 14) fun r7 =>
      if r7 = 0 then
      bnd (fX9_isWord h 15) fun r10 =>
        if r10 = 0 then
        bnd (fX9_isWord h 16) fun r13 =>
          if r13 = 0 then
          bnd (fX9_isWord h 17) fun r16 =>
            if r16 = 0 then
            fX6_valueAtHand_92 h 0
            else
            fX6_valueAtHand_92 h (-6)
          else
          some (-5)
        else
        some (-4)
      else
      some (-3)
    else
    some (-2)
  else
  some (-1)
set_option maxRecDepth 100000 in
set_option maxHeartbeats 4000000 in
theorem tX6_valueAtHand_92 {p : Program} {l : Launch} {e : Env} {s : State} {m : MethodId} {args : Array Value} {below : List Frame} {meth : Method} {c : Code} {g : GE} {B : Nat} {h : ST}  {q0 : Int32} (F : Fx p s m args meth c cX6_valueAtHand 1 "DustParish$RuleReader" 395 g B)
    {y : Int32} (hr : meth.sig.returnType = (some .int)) (hf : fX6_valueAtHand_92 h q0 = some y) : V p l e 13 0 s m args below meth c (MQ below (QO KC 395 g (some (.int y)) h) args s 0 (6 * 0) (WA 395 g)) KC 395 g B 1 0 h 92 [] [.int q0] := by
  unfold fX6_valueAtHand_92 at hf
  exact v_iret (pc := 92) F hr dX6_valueAtHand_92 (Option.some.inj hf) rfl (Nat.zero_le _)
set_option maxRecDepth 100000 in
set_option maxHeartbeats 4000000 in
theorem kX6_valueAtHand {l : Launch} {g : GE} {B : Nat} {h : ST} {y : Int32} (hf : fX6_valueAtHand h = some y) : CT l yX6_valueAtHand cX6_valueAtHand 1 (some .int) 13 KC 395 g B [.ref (gA g 40)] h (some (.int y)) h := by
  refine CT.of pn_X6 (Nat.le_of_ble_eq_true rfl) ?_
  intro p e s m below meth c hr F
  have F : Fx p s m _ meth c cX6_valueAtHand 1 "DustParish$RuleReader" 395 g B := F
  refine V_lv (lv' := [(0, .ref (gA g 40))]) rfl ?_
  unfold fX6_valueAtHand at hf
  refine v_aload_n (pc := 0) (j := 0) F dX6_valueAtHand_0 rfl rfl ?_
  refine v_ifl (pc := 1) F fl_X6_32 dX6_valueAtHand_1 kc_40.1 kc_40.2 fv_5_6 ?_
  refine v_ldcS (pc := 4) (j := 12) (tx := "dust") F (by decide) dX6_valueAtHand_4 ?_
  obtain ⟨r1, e2, hf⟩ := bnd_some hf
  refine v_callVi (pc := 6) (As := [.ref (gK g 12)]) F cl_X6_75 dX6_valueAtHand_6 (kX9_isWord (by decide) e2) kc_39.1 kc_39.2 rc_8 rfl rfl (Nat.le_of_ble_eq_true rfl) (by decide) (Nat.zero_le _) ?_
  refine v_if_eq (pc := 9) (tgt := 14) F dX6_valueAtHand_9 (by decide) (fun c3 => ?_) (fun c3 => ?_)
  · have hf := ite_t hf c3
    refine v_aload_n (pc := 14) (j := 0) F dX6_valueAtHand_14 rfl rfl ?_
    refine v_ifl (pc := 15) F fl_X6_32 dX6_valueAtHand_15 kc_40.1 kc_40.2 fv_5_6 ?_
    refine v_ldcS (pc := 18) (j := 13) (tx := "kind") F (by decide) dX6_valueAtHand_18 ?_
    obtain ⟨r4, e5, hf⟩ := bnd_some hf
    refine v_callVi (pc := 20) (As := [.ref (gK g 13)]) F cl_X6_75 dX6_valueAtHand_20 (kX9_isWord (by decide) e5) kc_39.1 kc_39.2 rc_8 rfl rfl (Nat.le_of_ble_eq_true rfl) (by decide) (Nat.zero_le _) ?_
    refine v_if_eq (pc := 23) (tgt := 29) F dX6_valueAtHand_23 (by decide) (fun c6 => ?_) (fun c6 => ?_)
    · have hf := ite_t hf c6
      refine v_aload_n (pc := 29) (j := 0) F dX6_valueAtHand_29 rfl rfl ?_
      refine v_ifl (pc := 30) F fl_X6_32 dX6_valueAtHand_30 kc_40.1 kc_40.2 fv_5_6 ?_
      refine v_ldcS (pc := 33) (j := 14) (tx := "owner") F (by decide) dX6_valueAtHand_33 ?_
      obtain ⟨r7, e8, hf⟩ := bnd_some hf
      refine v_callVi (pc := 35) (As := [.ref (gK g 14)]) F cl_X6_75 dX6_valueAtHand_35 (kX9_isWord (by decide) e8) kc_39.1 kc_39.2 rc_8 rfl rfl (Nat.le_of_ble_eq_true rfl) (by decide) (Nat.zero_le _) ?_
      refine v_if_eq (pc := 38) (tgt := 44) F dX6_valueAtHand_38 (by decide) (fun c9 => ?_) (fun c9 => ?_)
      · have hf := ite_t hf c9
        refine v_aload_n (pc := 44) (j := 0) F dX6_valueAtHand_44 rfl rfl ?_
        refine v_ifl (pc := 45) F fl_X6_32 dX6_valueAtHand_45 kc_40.1 kc_40.2 fv_5_6 ?_
        refine v_ldcS (pc := 48) (j := 15) (tx := "day") F (by decide) dX6_valueAtHand_48 ?_
        obtain ⟨r10, e11, hf⟩ := bnd_some hf
        refine v_callVi (pc := 50) (As := [.ref (gK g 15)]) F cl_X6_75 dX6_valueAtHand_50 (kX9_isWord (by decide) e11) kc_39.1 kc_39.2 rc_8 rfl rfl (Nat.le_of_ble_eq_true rfl) (by decide) (Nat.zero_le _) ?_
        refine v_if_eq (pc := 53) (tgt := 59) F dX6_valueAtHand_53 (by decide) (fun c12 => ?_) (fun c12 => ?_)
        · have hf := ite_t hf c12
          refine v_aload_n (pc := 59) (j := 0) F dX6_valueAtHand_59 rfl rfl ?_
          refine v_ifl (pc := 60) F fl_X6_32 dX6_valueAtHand_60 kc_40.1 kc_40.2 fv_5_6 ?_
          refine v_ldcS (pc := 63) (j := 16) (tx := "rich") F (by decide) dX6_valueAtHand_63 ?_
          obtain ⟨r13, e14, hf⟩ := bnd_some hf
          refine v_callVi (pc := 65) (As := [.ref (gK g 16)]) F cl_X6_75 dX6_valueAtHand_65 (kX9_isWord (by decide) e14) kc_39.1 kc_39.2 rc_8 rfl rfl (Nat.le_of_ble_eq_true rfl) (by decide) (Nat.zero_le _) ?_
          refine v_if_eq (pc := 68) (tgt := 74) F dX6_valueAtHand_68 (by decide) (fun c15 => ?_) (fun c15 => ?_)
          · have hf := ite_t hf c15
            refine v_aload_n (pc := 74) (j := 0) F dX6_valueAtHand_74 rfl rfl ?_
            refine v_ifl (pc := 75) F fl_X6_32 dX6_valueAtHand_75 kc_40.1 kc_40.2 fv_5_6 ?_
            refine v_ldcS (pc := 78) (j := 17) (tx := "brought") F (by decide) dX6_valueAtHand_78 ?_
            obtain ⟨r16, e17, hf⟩ := bnd_some hf
            refine v_callVi (pc := 80) (As := [.ref (gK g 17)]) F cl_X6_75 dX6_valueAtHand_80 (kX9_isWord (by decide) e17) kc_39.1 kc_39.2 rc_8 rfl rfl (Nat.le_of_ble_eq_true rfl) (by decide) (Nat.zero_le _) ?_
            refine v_if_eq (pc := 83) (tgt := 91) F dX6_valueAtHand_83 (by decide) (fun c18 => ?_) (fun c18 => ?_)
            · have hf := ite_t hf c18
              refine v_iconst (pc := 91) (v := 0) F dX6_valueAtHand_91 ic_0 ?_
              refine V.sub (lv' := []) [] rfl ?_
              exact tX6_valueAtHand_92 F hr hf
            · have hf := ite_f hf c18
              refine v_bipush (pc := 86) (v := (-6)) F dX6_valueAtHand_86 bp_m6 ?_
              refine v_goto (pc := 88) (tgt := 92) F dX6_valueAtHand_88 (by decide) ?_
              refine V.sub (lv' := []) [] rfl ?_
              exact tX6_valueAtHand_92 F hr hf
          · have hf := ite_f hf c15
            refine v_bipush (pc := 71) (v := (-5)) F dX6_valueAtHand_71 bp_m5 ?_
            exact v_iret (pc := 73) F hr dX6_valueAtHand_73 (Option.some.inj hf) rfl (Nat.zero_le _)
        · have hf := ite_f hf c12
          refine v_bipush (pc := 56) (v := (-4)) F dX6_valueAtHand_56 bp_m4 ?_
          exact v_iret (pc := 58) F hr dX6_valueAtHand_58 (Option.some.inj hf) rfl (Nat.zero_le _)
      · have hf := ite_f hf c9
        refine v_bipush (pc := 41) (v := (-3)) F dX6_valueAtHand_41 bp_m3 ?_
        exact v_iret (pc := 43) F hr dX6_valueAtHand_43 (Option.some.inj hf) rfl (Nat.zero_le _)
    · have hf := ite_f hf c6
      refine v_bipush (pc := 26) (v := (-2)) F dX6_valueAtHand_26 bp_m2 ?_
      exact v_iret (pc := 28) F hr dX6_valueAtHand_28 (Option.some.inj hf) rfl (Nat.zero_le _)
  · have hf := ite_f hf c3
    refine v_iconst (pc := 12) (v := (-1)) F dX6_valueAtHand_12 ic_m1 ?_
    exact v_iret (pc := 13) F hr dX6_valueAtHand_13 (Option.some.inj hf) rfl (Nat.zero_le _)
