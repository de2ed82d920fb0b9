def fX7_add_49 (h : ST)  : Option (ST) :=
  some h
def fX7_add (h : ST) (o : Nat) (a1 : Int32) (a2 : Int32) (a3 : Int32) : Option (ST) :=
  if 8 ≤ (h o 0) then
  fX7_add_49 h 
  else
  bnd (wr 8 h (o + 1) (h o 0) a1) fun h2 =>
    bnd (wr 8 h2 (o + 2) (h2 o 0) a2) fun h4 =>
    bnd (wr 8 h4 (o + 3) (h4 o 0) a3) fun h6 =>
    bnd (pw h6 o 0 ((h6 o 0) + 1)) fun h8 =>
    fX7_add_49 h8 
set_option maxRecDepth 100000 in
set_option maxHeartbeats 4000000 in
theorem tX7_add_49 {p : Program} {l : Launch} {e : Env} {s : State} {m : MethodId} {args : Array Value} {below : List Frame} {meth : Method} {c : Code} {g : GE} {B : Nat} {h : ST}  (F : Fx p s m args meth c cX7_add 4 "DustParish$Sights" 395 g B)
    {y : ST} (hr : meth.sig.returnType = none) (hf : fX7_add_49 h  = some y) : V p l e 1 0 s m args below meth c (MQ below (QO KC 395 g none y) args s 0 (6 * 0) (fun q => B ≤ q)) KC 395 g B 4 0 h 49 [] [] := by
  unfold fX7_add_49 at hf
  exact v_vret (pc := 49) F hr dX7_add_49 (Option.some.inj hf) (Nat.zero_le _)
set_option maxRecDepth 100000 in
set_option maxHeartbeats 4000000 in
theorem kX7_add {l : Launch} {g : GE} {B : Nat} {h : ST} {o : Nat} (ho_o : o < 395) (hk_o : KC o = (6, 0)) {a1 : Int32} {a2 : Int32} {a3 : Int32} {y : ST} (hf : fX7_add h o a1 a2 a3 = some y) : CT l yX7_add cX7_add 4 none 1 KC 395 g B [.ref (gA g o), .int a1, .int a2, .int a3] h none y := by
  refine CT.of pn_X7 (Nat.le_of_ble_eq_true rfl) ?_
  intro p e s m below meth c hr F
  have F : Fx p s m _ meth c cX7_add 4 "DustParish$Sights" 395 g B := F
  refine V_lv (lv' := [(0, .ref (gA g o)), (1, .int a1), (2, .int a2), (3, .int a3)]) rfl ?_
  unfold fX7_add at hf
  refine v_aload_n (pc := 0) (j := 0) F dX7_add_0 rfl rfl ?_
  refine v_ifl (pc := 1) F fl_X7_9 dX7_add_1 ho_o hk_o fv_6_0 ?_
  refine v_bipush (pc := 4) (v := 8) F dX7_add_4 bp_8 ?_
  refine v_icmp_ge (pc := 6) (tgt := 49) F dX7_add_6 (by decide) (fun c1 => ?_) (fun c1 => ?_)
  · have hf := ite_t hf c1
    refine V.sub (lv' := []) [] rfl ?_
    exact tX7_add_49 F hr hf
  · have hf := ite_f hf c1
    refine v_aload_n (pc := 9) (j := 0) F dX7_add_9 rfl rfl ?_
    refine v_ifl (pc := 10) F fl_X7_15 dX7_add_10 ho_o hk_o fv_6_1 ?_
    refine v_aload_n (pc := 13) (j := 0) F dX7_add_13 rfl rfl ?_
    refine v_ifl (pc := 14) F fl_X7_9 dX7_add_14 ho_o hk_o fv_6_0 ?_
    refine v_iload_n (pc := 17) (j := 1) F dX7_add_17 rfl rfl ?_
    obtain ⟨h2, e3, hf⟩ := bnd_some hf
    refine v_iast (pc := 18) F dX7_add_18 (ly_6_1 ho_o hk_o).1 (ly_6_1 ho_o hk_o).2 e3 ?_
    refine v_aload_n (pc := 19) (j := 0) F dX7_add_19 rfl rfl ?_
    refine v_ifl (pc := 20) F fl_X7_19 dX7_add_20 ho_o hk_o fv_6_2 ?_
    refine v_aload_n (pc := 23) (j := 0) F dX7_add_23 rfl rfl ?_
    refine v_ifl (pc := 24) F fl_X7_9 dX7_add_24 ho_o hk_o fv_6_0 ?_
    refine v_iload_n (pc := 27) (j := 2) F dX7_add_27 rfl rfl ?_
    obtain ⟨h4, e5, hf⟩ := bnd_some hf
    refine v_iast (pc := 28) F dX7_add_28 (ly_6_2 ho_o hk_o).1 (ly_6_2 ho_o hk_o).2 e5 ?_
    refine v_aload_n (pc := 29) (j := 0) F dX7_add_29 rfl rfl ?_
    refine v_ifl (pc := 30) F fl_X7_22 dX7_add_30 ho_o hk_o fv_6_3 ?_
    refine v_aload_n (pc := 33) (j := 0) F dX7_add_33 rfl rfl ?_
    refine v_ifl (pc := 34) F fl_X7_9 dX7_add_34 ho_o hk_o fv_6_0 ?_
    refine v_iload_n (pc := 37) (j := 3) F dX7_add_37 rfl rfl ?_
    obtain ⟨h6, e7, hf⟩ := bnd_some hf
    refine v_iast (pc := 38) F dX7_add_38 (ly_6_3 ho_o hk_o).1 (ly_6_3 ho_o hk_o).2 e7 ?_
    refine v_aload_n (pc := 39) (j := 0) F dX7_add_39 rfl rfl ?_
    refine v_dup (pc := 40) F dX7_add_40 rfl ?_
    refine v_ifl (pc := 41) F fl_X7_9 dX7_add_41 ho_o hk_o fv_6_0 ?_
    refine v_iconst (pc := 44) (v := 1) F dX7_add_44 ic_1 ?_
    refine v_iadd (pc := 45) F dX7_add_45 ?_
    obtain ⟨h8, e9, hf⟩ := bnd_some hf
    refine v_pfl (pc := 46) F fl_X7_9 pl_6_0 dX7_add_46 ho_o hk_o fv_6_0 rfl rfl e9 ?_
    refine V.sub (lv' := []) [] rfl ?_
    exact tX7_add_49 F hr hf
def fX0_giveBack_38 (h : ST)  : Option (ST) :=
  some h
def fX0_giveBack (h : ST) (o : Nat) (o1 : Nat) : Option (ST) :=
  if (h o 0) ≤ 0 then
  fX0_giveBack_38 h 
  else
  bnd (pw h o 0 ((h o 0) - 1)) fun h2 =>
    bnd (bst (o + 1) (((h2 o 1) + (h2 o 0)) - ((h2 o 1) + (h2 o 0)) / 40 * 40)) fun f4 =>
    bnd (fX8_copy h2 o1 f4) fun r6 =>
    fX0_giveBack_38 r6 
set_option maxRecDepth 100000 in
set_option maxHeartbeats 4000000 in
theorem tX0_giveBack_38 {p : Program} {l : Launch} {e : Env} {s : State} {m : MethodId} {args : Array Value} {below : List Frame} {meth : Method} {c : Code} {g : GE} {B : Nat} {h : ST}  (F : Fx p s m args meth c cX0_giveBack 2 "DustParish$Acts" 395 g B)
    {y : ST} (hr : meth.sig.returnType = none) (hf : fX0_giveBack_38 h  = some y) : V p l e 2 0 s m args below meth c (MQ below (QO KC 395 g none y) args s 0 (6 * 0) (fun q => B ≤ q)) KC 395 g B 2 0 h 38 [] [] := by
  unfold fX0_giveBack_38 at hf
  exact v_vret (pc := 38) F hr dX0_giveBack_38 (Option.some.inj hf) (Nat.zero_le _)
set_option maxRecDepth 100000 in
set_option maxHeartbeats 4000000 in
theorem kX0_giveBack {l : Launch} {g : GE} {B : Nat} {h : ST} {o : Nat} (ho_o : o < 395) (hk_o : KC o = (0, 0)) {o1 : Nat} (ho_o1 : o1 < 395) (hk_o1 : KC o1 = (7, 0)) {y : ST} (hf : fX0_giveBack h o o1 = some y) : CT l yX0_giveBack cX0_giveBack 2 none 2 KC 395 g B [.ref (gA g o), .ref (gA g o1)] h none y := by
  refine CT.of pn_X0 (Nat.le_of_ble_eq_true rfl) ?_
  intro p e s m below meth c hr F
  have F : Fx p s m _ meth c cX0_giveBack 2 "DustParish$Acts" 395 g B := F
  refine V_lv (lv' := [(0, .ref (gA g o)), (1, .ref (gA g o1))]) rfl ?_
  unfold fX0_giveBack at hf
  refine v_aload_n (pc := 0) (j := 0) F dX0_giveBack_0 rfl rfl ?_
  refine v_ifl (pc := 1) F fl_X0_9 dX0_giveBack_1 ho_o hk_o fv_0_0 ?_
  refine v_if_le (pc := 4) (tgt := 38) F dX0_giveBack_4 (by decide) (fun c1 => ?_) (fun c1 => ?_)
  · have hf := ite_t hf c1
    refine V.sub (lv' := []) [] rfl ?_
    exact tX0_giveBack_38 F hr hf
  · have hf := ite_f hf c1
    refine v_aload_n (pc := 7) (j := 0) F dX0_giveBack_7 rfl rfl ?_
    refine v_dup (pc := 8) F dX0_giveBack_8 rfl ?_
    refine v_ifl (pc := 9) F fl_X0_9 dX0_giveBack_9 ho_o hk_o fv_0_0 ?_
    refine v_iconst (pc := 12) (v := 1) F dX0_giveBack_12 ic_1 ?_
    refine v_isub (pc := 13) F dX0_giveBack_13 ?_
    obtain ⟨h2, e3, hf⟩ := bnd_some hf
    refine v_pfl (pc := 14) F fl_X0_9 pl_0_0 dX0_giveBack_14 ho_o hk_o fv_0_0 rfl rfl e3 ?_
    refine v_aload_n (pc := 17) (j := 1) F dX0_giveBack_17 rfl rfl ?_
    refine v_aload_n (pc := 18) (j := 0) F dX0_giveBack_18 rfl rfl ?_
    refine v_ifl (pc := 19) F fl_X0_20 dX0_giveBack_19 ho_o hk_o fv_0_2 ?_
    refine v_aload_n (pc := 22) (j := 0) F dX0_giveBack_22 rfl rfl ?_
    refine v_ifl (pc := 23) F fl_X0_15 dX0_giveBack_23 ho_o hk_o fv_0_1 ?_
    refine v_aload_n (pc := 26) (j := 0) F dX0_giveBack_26 rfl rfl ?_
    refine v_ifl (pc := 27) F fl_X0_9 dX0_giveBack_27 ho_o hk_o fv_0_0 ?_
    refine v_iadd (pc := 30) F dX0_giveBack_30 ?_
    refine v_bipush (pc := 31) (v := 40) F dX0_giveBack_31 bp_40 ?_
    refine v_irem (pc := 33) F dX0_giveBack_33 (by decide) ?_
    obtain ⟨f4, e5, hf⟩ := bnd_some hf
    obtain ⟨ho_f4, hk_f4, hv_f4, e5⟩ := bst_in (ly_0_2 ho_o hk_o).1 (ly_0_2 ho_o hk_o).2 e5
    refine v_aald (pc := 34) (v := .ref (gA g f4)) F dX0_giveBack_34 (ly_0_2 ho_o hk_o).1 (ly_0_2 ho_o hk_o).2 (by decide) (by decide) hv_f4 (av23 e5) ?_
    obtain ⟨r6, e7, hf⟩ := bnd_some hf
    refine v_callVv (pc := 35) (As := [.ref (gA g f4)]) F cl_X0_25 dX0_giveBack_35 (kX8_copy ho_o1 hk_o1 ho_f4 hk_f4 e7) ho_o1 hk_o1 rc_7 rfl rfl (Nat.le_of_ble_eq_true rfl) (by decide) (Nat.zero_le _) ?_
    refine V.sub (lv' := []) [] rfl ?_
    exact tX0_giveBack_38 F hr hf
def fX10_undo (h : ST) : Option (Int32 × ST) :=
  if (h 47 0) = 0 then
  some ((-1), h)
  else
  bnd (fX0_giveBack h 47 43) fun r2 =>
    some (r2 47 0, r2)
set_option maxRecDepth 100000 in
set_option maxHeartbeats 4000000 in
theorem kX10_undo {l : Launch} {g : GE} {B : Nat} {h : ST} {y : Int32 × ST} (hf : fX10_undo h = some y) : CT l yX10_undo cX10_undo 1 (some .int) 3 KC 395 g B [.ref (gA g 0)] h (some (.int y.1)) y.2 := by
  refine CT.of pn_X10 (Nat.le_of_ble_eq_true rfl) ?_
  intro p e s m below meth c hr F
  have F : Fx p s m _ meth c cX10_undo 1 "DustParish" 395 g B := F
  refine V_lv (lv' := [(0, .ref (gA g 0))]) rfl ?_
  unfold fX10_undo at hf
  refine v_aload_n (pc := 0) (j := 0) F dX10_undo_0 rfl rfl ?_
  refine v_ifl (pc := 1) F fl_X10_42 dX10_undo_1 kc_0.1 kc_0.2 fv_9_6 ?_
  refine v_ifl (pc := 4) F fl_X10_143 dX10_undo_4 kc_42.1 kc_42.2 fv_2_1 ?_
  refine v_ifl (pc := 7) F fl_X10_147 dX10_undo_7 kc_47.1 kc_47.2 fv_0_0 ?_
  refine v_if_ne (pc := 10) (tgt := 15) F dX10_undo_10 (by decide) (fun c1 => ?_) (fun c1 => ?_)
  · have hf := ite_f hf c1
    refine v_aload_n (pc := 15) (j := 0) F dX10_undo_15 rfl rfl ?_
    refine v_ifl (pc := 16) F fl_X10_42 dX10_undo_16 kc_0.1 kc_0.2 fv_9_6 ?_
    refine v_ifl (pc := 19) F fl_X10_143 dX10_undo_19 kc_42.1 kc_42.2 fv_2_1 ?_
    refine v_aload_n (pc := 22) (j := 0) F dX10_undo_22 rfl rfl ?_
    refine v_ifl (pc := 23) F fl_X10_42 dX10_undo_23 kc_0.1 kc_0.2 fv_9_6 ?_
    refine v_ifl (pc := 26) F fl_X10_122 dX10_undo_26 kc_42.1 kc_42.2 fv_2_0 ?_
    obtain ⟨r2, e3, hf⟩ := bnd_some hf
    refine v_callVv (pc := 29) (As := [.ref (gA g 43)]) F cl_X10_232 dX10_undo_29 (kX0_giveBack kc_47.1 kc_47.2 kc_43.1 kc_43.2 e3) kc_47.1 kc_47.2 rc_0 rfl rfl (Nat.le_of_ble_eq_true rfl) (by decide) (Nat.zero_le _) ?_
    refine v_aload_n (pc := 32) (j := 0) F dX10_undo_32 rfl rfl ?_
    refine v_ifl (pc := 33) F fl_X10_42 dX10_undo_33 kc_0.1 kc_0.2 fv_9_6 ?_
    refine v_ifl (pc := 36) F fl_X10_143 dX10_undo_36 kc_42.1 kc_42.2 fv_2_1 ?_
    refine v_ifl (pc := 39) F fl_X10_147 dX10_undo_39 kc_47.1 kc_47.2 fv_0_0 ?_
    exact v_iret (pc := 42) F hr dX10_undo_42 (some_fst hf) (some_snd hf) (Nat.zero_le _)
  · have hf := ite_t hf c1
    refine v_iconst (pc := 13) (v := (-1)) F dX10_undo_13 ic_m1 ?_
    exact v_iret (pc := 14) F hr dX10_undo_14 (some_fst hf) (some_snd hf) (Nat.zero_le _)
