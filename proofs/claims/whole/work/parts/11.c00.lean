def fX1_isUnclean_28 (h : ST) (q0 : Int32) : Option (Int32) :=
  bnd (zb q0) fun z4 =>
  some z4
def fX1_isUnclean_27 (h : ST)  : Option (Int32) :=
  fX1_isUnclean_28 h 0
def fX1_isUnclean (h : ST) (o1 : Nat) (o2 : Nat) (a3 : Int32) : Option (Int32) :=
  bnd (rd 9 (h (o1 + 1)) a3) fun v1 =>
  if v1 = 2 then
  fX1_isUnclean_27 h 
  else
  bnd (rd 9 (h (o2 + 1)) a3) fun v6 =>
    if (h o1 16) ≤ v6 then
    fX1_isUnclean_27 h 
    else
    fX1_isUnclean_28 h 1
set_option maxRecDepth 100000 in
set_option maxHeartbeats 4000000 in
theorem tX1_isUnclean_28 {p : Program} {l : Launch} {e : Env} {s : State} {m : MethodId} {args : Array Value} {below : List Frame} {meth : Method} {c : Code} {g : GE} {B : Nat} {h : ST}  {q0 : Int32} (F : Fx p s m args meth c cX1_isUnclean 3 "DustParish$Course" 395 g B)
    {y : Int32} (hr : meth.sig.returnType = (some .boolean)) (hf : fX1_isUnclean_28 h q0 = some y) : V p l e 1 0 s m args below meth c (MQ below (QO KC 395 g (some (.int y)) h) args s 0 (6 * 0) (WA 395 g)) KC 395 g B 3 0 h 28 [] [.int q0] := by
  unfold fX1_isUnclean_28 at hf
  obtain ⟨z4, e5, hf⟩ := bnd_some hf
  exact v_zret (pc := 28) F hr dX1_isUnclean_28 (zb_in e5).2 ((zb_in e5).1.symm.trans (Option.some.inj hf)) rfl (Nat.zero_le _)
set_option maxRecDepth 100000 in
set_option maxHeartbeats 4000000 in
theorem tX1_isUnclean_27 {p : Program} {l : Launch} {e : Env} {s : State} {m : MethodId} {args : Array Value} {below : List Frame} {meth : Method} {c : Code} {g : GE} {B : Nat} {h : ST}  (F : Fx p s m args meth c cX1_isUnclean 3 "DustParish$Course" 395 g B)
    {y : Int32} (hr : meth.sig.returnType = (some .boolean)) (hf : fX1_isUnclean_27 h  = some y) : V p l e 1 0 s m args below meth c (MQ below (QO KC 395 g (some (.int y)) h) args s 0 (6 * 0) (WA 395 g)) KC 395 g B 3 0 h 27 [] [] := by
  unfold fX1_isUnclean_27 at hf
  refine v_iconst (pc := 27) (v := 0) F dX1_isUnclean_27 ic_0 ?_
  exact tX1_isUnclean_28 F hr hf
set_option maxRecDepth 100000 in
set_option maxHeartbeats 4000000 in
theorem kX1_isUnclean {l : Launch} {g : GE} {B : Nat} {h : ST} {o1 : Nat} (ho_o1 : o1 < 395) (hk_o1 : KC o1 = (1, 0)) {o2 : Nat} (ho_o2 : o2 < 395) (hk_o2 : KC o2 = (7, 0)) {a3 : Int32} {y : Int32} (hf : fX1_isUnclean h o1 o2 a3 = some y) : CT l yX1_isUnclean cX1_isUnclean 3 (some .boolean) 1 KC 395 g B [.ref (gA g o1), .ref (gA g o2), .int a3] h (some (.int y)) h := by
  refine CT.of pn_X1 (Nat.le_of_ble_eq_true rfl) ?_
  intro p e s m below meth c hr F
  have F : Fx p s m _ meth c cX1_isUnclean 3 "DustParish$Course" 395 g B := F
  refine V_lv (lv' := [(0, .ref (gA g o1)), (1, .ref (gA g o2)), (2, .int a3)]) rfl ?_
  unfold fX1_isUnclean at hf
  refine v_aload_n (pc := 0) (j := 0) F dX1_isUnclean_0 rfl rfl ?_
  refine v_ifl (pc := 1) F fl_X1_100 dX1_isUnclean_1 ho_o1 hk_o1 fv_1_1 ?_
  refine v_iload_n (pc := 4) (j := 2) F dX1_isUnclean_4 rfl rfl ?_
  obtain ⟨v1, e2, hf⟩ := bnd_some hf
  refine v_iald (pc := 5) F dX1_isUnclean_5 (ly_1_1 ho_o1 hk_o1).1 (ly_1_1 ho_o1 hk_o1).2 e2 ?_
  refine v_iconst (pc := 6) (v := 2) F dX1_isUnclean_6 ic_2 ?_
  refine v_icmp_eq (pc := 7) (tgt := 27) F dX1_isUnclean_7 (by decide) (fun c3 => ?_) (fun c3 => ?_)
  · have hf := ite_t hf c3
    refine V.sub (lv' := []) [] rfl ?_
    exact tX1_isUnclean_27 F hr hf
  · have hf := ite_f hf c3
    refine v_aload_n (pc := 10) (j := 1) F dX1_isUnclean_10 rfl rfl ?_
    refine v_ifl (pc := 11) F fl_X1_62 dX1_isUnclean_11 ho_o2 hk_o2 fv_7_3 ?_
    refine v_iload_n (pc := 14) (j := 2) F dX1_isUnclean_14 rfl rfl ?_
    obtain ⟨v6, e7, hf⟩ := bnd_some hf
    refine v_iald (pc := 15) F dX1_isUnclean_15 (ly_7_3 ho_o2 hk_o2).1 (ly_7_3 ho_o2 hk_o2).2 e7 ?_
    refine v_aload_n (pc := 16) (j := 0) F dX1_isUnclean_16 rfl rfl ?_
    refine v_ifl (pc := 17) F fl_X1_125 dX1_isUnclean_17 ho_o1 hk_o1 fv_1_16 ?_
    refine v_icmp_ge (pc := 20) (tgt := 27) F dX1_isUnclean_20 (by decide) (fun c8 => ?_) (fun c8 => ?_)
    · have hf := ite_t hf c8
      refine V.sub (lv' := []) [] rfl ?_
      exact tX1_isUnclean_27 F hr hf
    · have hf := ite_f hf c8
      refine v_iconst (pc := 23) (v := 1) F dX1_isUnclean_23 ic_1 ?_
      refine v_goto (pc := 24) (tgt := 28) F dX1_isUnclean_24 (by decide) ?_
      refine V.sub (lv' := []) [] rfl ?_
      exact tX1_isUnclean_28 F hr hf
def fX10_alms_56 (h : ST) (l1 : Int32) (l2 : Int32) : Option ((Int32 × Int32) ⊕ Int32) :=
  some (.inl (l1, l2 + 1))
def fX10_alms_4 (h : ST) (s1 : (Int32 × Int32)) : Option ((Int32 × Int32) ⊕ Int32) :=
  bnd (rf KC 395 1 (h 0 3)) fun f1 =>
  if (h f1 0) ≤ s1.2 then
  some (.inr s1.1)
  else
  bnd (rf KC 395 1 (h 0 3)) fun f4 =>
    bnd (fX1_isUnclean h f4 43 s1.2) fun r6 =>
    if r6 = 0 then
    fX10_alms_56 h s1.1 s1.2
    else
    bnd (rf KC 395 1 (h 0 3)) fun f9 =>
      bnd (rd 9 (h 44) s1.2) fun v11 =>
      fX10_alms_56 h (s1.1 + ((h f9 16) - v11)) s1.2
def fX10_alms (h : ST) : Option (Int32) :=
  bnd (lp FU (fX10_alms_4 h) (0, 0)) fun x13 =>
  some x13
set_option maxRecDepth 100000 in
set_option maxHeartbeats 4000000 in
theorem tX10_alms_56 {p : Program} {l : Launch} {e : Env} {s : State} {m : MethodId} {args : Array Value} {below : List Frame} {meth : Method} {c : Code} {g : GE} {B : Nat} {h : ST}  {l1 : Int32} {l2 : Int32} (F : Fx p s m args meth c cX10_alms 3 "DustParish" 395 g B)
    {Q : State → Prop} {y : (Int32 × Int32) ⊕ Int32} (hk : ∀ v : (Int32 × Int32), y = Sum.inl v → V p l e 2 0 s m args below meth c Q KC 395 g B 3 0 h 4 [(0, .ref (gA g 0)), (1, .int v.1), (2, .int v.2)] []) (hx0 : ∀ v : Int32, y = Sum.inr v → V p l e 2 0 s m args below meth c Q KC 395 g B 3 0 h 62 [(1, .int v)] []) (hf : fX10_alms_56 h l1 l2 = some y) : V p l e 2 0 s m args below meth c Q KC 395 g B 3 0 h 56 [(0, .ref (gA g 0)), (1, .int l1), (2, .int l2)] [] := by
  unfold fX10_alms_56 at hf
  refine v_iinc (pc := 56) (j := 2) (v := l2 + 1) (lv' := [(0, .ref (gA g 0)), (1, .int l1), (2, .int (l2 + 1))]) F dX10_alms_56 rfl (congrArg (fun z => l2 + z) ic_1) (by decide) rfl ?_
  refine v_goto (pc := 59) (tgt := 4) F dX10_alms_59 (by decide) ?_
  exact hk (l1, l2 + 1) (Option.some.inj hf).symm
set_option maxRecDepth 100000 in
set_option maxHeartbeats 4000000 in
theorem tX10_alms_4 {p : Program} {l : Launch} {e : Env} {s : State} {m : MethodId} {args : Array Value} {below : List Frame} {meth : Method} {c : Code} {g : GE} {B : Nat}  {h : ST}  {Q : State → Prop} {x : Int32} {nf : Nat} {s0 : (Int32 × Int32)} (F : Fx p s m args meth c cX10_alms 3 "DustParish" 395 g B) (hX0 : V p l e 2 0 s m args below meth c Q KC 395 g B 3 0 h 62 [(1, .int x)] []) (hl : lp nf (fX10_alms_4 h) s0 = some x) : V p l e 2 0 s m args below meth c Q KC 395 g B 3 0 h 4 [(0, .ref (gA g 0)), (1, .int s0.1), (2, .int s0.2)] [] := by
  refine lp_ind (P := fun s0 => V p l e 2 0 s m args below meth c Q KC 395 g B 3 0 h 4 [(0, .ref (gA g 0)), (1, .int s0.1), (2, .int s0.2)] []) ?_ nf s0 hl
  intro s1 y hf hk hx
  have hx0 : ∀ v : Int32, y = Sum.inr v → V p l e 2 0 s m args below meth c Q KC 395 g B 3 0 h 62 [(1, .int v)] [] := fun v e9 => by rw [hx v e9]; exact hX0
  unfold fX10_alms_4 at hf
  refine v_iload_n (pc := 4) (j := 2) F dX10_alms_4 rfl rfl ?_
  refine v_aload_n (pc := 5) (j := 0) F dX10_alms_5 rfl rfl ?_
  obtain ⟨f1, e2, hf⟩ := bnd_some hf
  obtain ⟨ho_f1, hk_f1, e2⟩ := rf_in e2
  refine v_ifl (pc := 6) F fl_X10_23 dX10_alms_6 kc_0.1 kc_0.2 (fv_9_3 e2) ?_
  refine v_ifl (pc := 9) F fl_X10_104 dX10_alms_9 ho_f1 hk_f1 fv_1_0 ?_
  refine v_icmp_ge (pc := 12) (tgt := 62) F dX10_alms_12 (by decide) (fun c3 => ?_) (fun c3 => ?_)
  · have hf := ite_t hf c3
    refine V.sub (lv' := [(1, .int s1.1)]) [1] rfl ?_
    exact hx0 s1.1 (Option.some.inj hf).symm
  · have hf := ite_f hf c3
    refine v_aload_n (pc := 15) (j := 0) F dX10_alms_15 rfl rfl ?_
    obtain ⟨f4, e5, hf⟩ := bnd_some hf
    obtain ⟨ho_f4, hk_f4, e5⟩ := rf_in e5
    refine v_ifl (pc := 16) F fl_X10_23 dX10_alms_16 kc_0.1 kc_0.2 (fv_9_3 e5) ?_
    refine v_aload_n (pc := 19) (j := 0) F dX10_alms_19 rfl rfl ?_
    refine v_ifl (pc := 20) F fl_X10_42 dX10_alms_20 kc_0.1 kc_0.2 fv_9_6 ?_
    refine v_ifl (pc := 23) F fl_X10_122 dX10_alms_23 kc_42.1 kc_42.2 fv_2_0 ?_
    refine v_iload_n (pc := 26) (j := 2) F dX10_alms_26 rfl rfl ?_
    obtain ⟨r6, e7, hf⟩ := bnd_some hf
    refine v_callSi (pc := 27) (As := [.ref (gA g f4), .ref (gA g 43), .int s1.2]) F cl_X10_271 dX10_alms_27 (kX1_isUnclean ho_f4 hk_f4 kc_43.1 kc_43.2 e7) rfl rfl (Nat.le_of_ble_eq_true rfl) (by decide) (Nat.zero_le _) ?_
    refine v_if_eq (pc := 30) (tgt := 56) F dX10_alms_30 (by decide) (fun c8 => ?_) (fun c8 => ?_)
    · have hf := ite_t hf c8
      exact tX10_alms_56 F hk hx0 hf
    · have hf := ite_f hf c8
      refine v_iload_n (pc := 33) (j := 1) F dX10_alms_33 rfl rfl ?_
      refine v_aload_n (pc := 34) (j := 0) F dX10_alms_34 rfl rfl ?_
      obtain ⟨f9, e10, hf⟩ := bnd_some hf
      obtain ⟨ho_f9, hk_f9, e10⟩ := rf_in e10
      refine v_ifl (pc := 35) F fl_X10_23 dX10_alms_35 kc_0.1 kc_0.2 (fv_9_3 e10) ?_
      refine v_ifl (pc := 38) F fl_X10_119 dX10_alms_38 ho_f9 hk_f9 fv_1_16 ?_
      refine v_aload_n (pc := 41) (j := 0) F dX10_alms_41 rfl rfl ?_
      refine v_ifl (pc := 42) F fl_X10_42 dX10_alms_42 kc_0.1 kc_0.2 fv_9_6 ?_
      refine v_ifl (pc := 45) F fl_X10_122 dX10_alms_45 kc_42.1 kc_42.2 fv_2_0 ?_
      refine v_ifl (pc := 48) F fl_X10_171 dX10_alms_48 kc_43.1 kc_43.2 fv_7_3 ?_
      refine v_iload_n (pc := 51) (j := 2) F dX10_alms_51 rfl rfl ?_
      obtain ⟨v11, e12, hf⟩ := bnd_some hf
      refine v_iald (pc := 52) F dX10_alms_52 kc_44.1 kc_44.2 e12 ?_
      refine v_isub (pc := 53) F dX10_alms_53 ?_
      refine v_iadd (pc := 54) F dX10_alms_54 ?_
      refine v_istore_n (pc := 55) (lv' := [(0, .ref (gA g 0)), (1, .int (s1.1 + ((h f9 16) - v11))), (2, .int s1.2)]) F dX10_alms_55 rfl (by decide) rfl ?_
      exact tX10_alms_56 F hk hx0 hf
set_option maxRecDepth 100000 in
set_option maxHeartbeats 4000000 in
theorem kX10_alms {l : Launch} {g : GE} {B : Nat} {h : ST} {y : Int32} (hf : fX10_alms h = some y) : CT l yX10_alms cX10_alms 3 (some .int) 2 KC 395 g B [.ref (gA g 0)] h (some (.int y)) h := by
  refine CT.of pn_X10 (Nat.le_of_ble_eq_true rfl) ?_
  intro p e s m below meth c hr F
  have F : Fx p s m _ meth c cX10_alms 3 "DustParish" 395 g B := F
  refine V_lv (lv' := [(0, .ref (gA g 0))]) rfl ?_
  unfold fX10_alms at hf
  refine v_iconst (pc := 0) (v := 0) F dX10_alms_0 ic_0 ?_
  refine v_istore_n (pc := 1) (lv' := [(0, .ref (gA g 0)), (1, .int 0)]) F dX10_alms_1 rfl (by decide) rfl ?_
  refine v_iconst (pc := 2) (v := 0) F dX10_alms_2 ic_0 ?_
  refine v_istore_n (pc := 3) (lv' := [(0, .ref (gA g 0)), (1, .int 0), (2, .int 0)]) F dX10_alms_3 rfl (by decide) rfl ?_
  obtain ⟨x13, e14, hf⟩ := bnd_some hf
  refine tX10_alms_4 (s0 := (0, 0)) F ?_ e14
  refine v_iload_n (pc := 62) (j := 0) F dX10_alms_62 rfl rfl ?_
  exact v_iret (pc := 63) F hr dX10_alms_63 (Option.some.inj hf) rfl (Nat.zero_le _)
def fX10_append_3 (l1 : Int32) (s1 : (ST × Int32)) : Option ((ST × Int32) ⊕ ST) :=
  if s1.2 < 0 then
  some (.inr s1.1)
  else
  if 700 ≤ (s1.1 0 1) then
    some (.inr s1.1)
    else
    bnd (wr 700 s1.1 1 (s1.1 0 1) (((l1 >>> (s1.2 &&& 31)).toInt8.toInt32).toInt8.toInt32)) fun h3 =>
      bnd (pw h3 0 1 ((h3 0 1) + 1)) fun h5 =>
      some (.inl (h5, s1.2 + (-8)))
def fX10_append_46 (h : ST)  : Option (ST) :=
  some h
def fX10_append (h : ST) (a1 : Int32) : Option (ST) :=
  bnd (lp FU (fX10_append_3 a1) (h, 24)) fun x7 =>
  fX10_append_46 x7 
set_option maxRecDepth 100000 in
set_option maxHeartbeats 4000000 in
theorem tX10_append_3 {p : Program} {l : Launch} {e : Env} {s : State} {m : MethodId} {args : Array Value} {below : List Frame} {meth : Method} {c : Code} {g : GE} {B : Nat}   {l1 : Int32} {Q : State → Prop} {x : ST} {nf : Nat} {s0 : (ST × Int32)} (F : Fx p s m args meth c cX10_append 3 "DustParish" 395 g B) (hX0 : V p l e 1 0 s m args below meth c Q KC 395 g B 3 0 x 46 [] []) (hl : lp nf (fX10_append_3 l1) s0 = some x) : V p l e 1 0 s m args below meth c Q KC 395 g B 3 0 s0.1 3 [(0, .ref (gA g 0)), (1, .int l1), (2, .int s0.2)] [] := by
  refine lp_ind (P := fun s0 => V p l e 1 0 s m args below meth c Q KC 395 g B 3 0 s0.1 3 [(0, .ref (gA g 0)), (1, .int l1), (2, .int s0.2)] []) ?_ nf s0 hl
  intro s1 y hf hk hx
  have hx0 : ∀ v : ST, y = Sum.inr v → V p l e 1 0 s m args below meth c Q KC 395 g B 3 0 v 46 [] [] := fun v e9 => by rw [hx v e9]; exact hX0
  unfold fX10_append_3 at hf
  refine v_iload_n (pc := 3) (j := 2) F dX10_append_3 rfl rfl ?_
  refine v_if_lt (pc := 4) (tgt := 46) F dX10_append_4 (by decide) (fun c1 => ?_) (fun c1 => ?_)
  · have hf := ite_t hf c1
    refine V.sub (lv' := []) [] rfl ?_
    exact hx0 s1.1 (Option.some.inj hf).symm
  · have hf := ite_f hf c1
    refine v_aload_n (pc := 7) (j := 0) F dX10_append_7 rfl rfl ?_
    refine v_ifl (pc := 8) F fl_X10_13 dX10_append_8 kc_0.1 kc_0.2 fv_9_1 ?_
    refine v_sipush (pc := 11) (v := 700) F dX10_append_11 sp_700 ?_
    refine v_icmp_ge (pc := 14) (tgt := 46) F dX10_append_14 (by decide) (fun c2 => ?_) (fun c2 => ?_)
    · have hf := ite_t hf c2
      refine V.sub (lv' := []) [] rfl ?_
      exact hx0 s1.1 (Option.some.inj hf).symm
    · have hf := ite_f hf c2
      refine v_aload_n (pc := 17) (j := 0) F dX10_append_17 rfl rfl ?_
      refine v_ifl (pc := 18) F fl_X10_9 dX10_append_18 kc_0.1 kc_0.2 fv_9_0 ?_
      refine v_aload_n (pc := 21) (j := 0) F dX10_append_21 rfl rfl ?_
      refine v_ifl (pc := 22) F fl_X10_13 dX10_append_22 kc_0.1 kc_0.2 fv_9_1 ?_
      refine v_iload_n (pc := 25) (j := 1) F dX10_append_25 rfl rfl ?_
      refine v_iload_n (pc := 26) (j := 2) F dX10_append_26 rfl rfl ?_
      refine v_ishr (pc := 27) F dX10_append_27 ?_
      refine v_i2b (pc := 28) F dX10_append_28 rfl ?_
      obtain ⟨h3, e4, hf⟩ := bnd_some hf
      refine v_bast (pc := 29) F dX10_append_29 kc_1.1 kc_1.2 e4 ?_
      refine v_aload_n (pc := 30) (j := 0) F dX10_append_30 rfl rfl ?_
      refine v_dup (pc := 31) F dX10_append_31 rfl ?_
      refine v_ifl (pc := 32) F fl_X10_13 dX10_append_32 kc_0.1 kc_0.2 fv_9_1 ?_
      refine v_iconst (pc := 35) (v := 1) F dX10_append_35 ic_1 ?_
      refine v_iadd (pc := 36) F dX10_append_36 ?_
      obtain ⟨h5, e6, hf⟩ := bnd_some hf
      refine v_pfl (pc := 37) F fl_X10_13 pl_9_1 dX10_append_37 kc_0.1 kc_0.2 fv_9_1 rfl rfl e6 ?_
      refine v_iinc (pc := 40) (j := 2) (v := s1.2 + (-8)) (lv' := [(0, .ref (gA g 0)), (1, .int l1), (2, .int (s1.2 + (-8)))]) F dX10_append_40 rfl (congrArg (fun z => s1.2 + z) ic_m8) (by decide) rfl ?_
      refine v_goto (pc := 43) (tgt := 3) F dX10_append_43 (by decide) ?_
      exact hk (h5, s1.2 + (-8)) (Option.some.inj hf).symm
set_option maxRecDepth 100000 in
set_option maxHeartbeats 4000000 in
theorem tX10_append_46 {p : Program} {l : Launch} {e : Env} {s : State} {m : MethodId} {args : Array Value} {below : List Frame} {meth : Method} {c : Code} {g : GE} {B : Nat} {h : ST}  (F : Fx p s m args meth c cX10_append 3 "DustParish" 395 g B)
    {y : ST} (hr : meth.sig.returnType = none) (hf : fX10_append_46 h  = some y) : V p l e 1 0 s m args below meth c (MQ below (QO KC 395 g none y) args s 0 (6 * 0) (WA 395 g)) KC 395 g B 3 0 h 46 [] [] := by
  unfold fX10_append_46 at hf
  exact v_vret (pc := 46) F hr dX10_append_46 (Option.some.inj hf) (Nat.zero_le _)
set_option maxRecDepth 100000 in
set_option maxHeartbeats 4000000 in
theorem kX10_append {l : Launch} {g : GE} {B : Nat} {h : ST} {a1 : Int32} {y : ST} (hf : fX10_append h a1 = some y) : CT l yX10_append cX10_append 3 none 1 KC 395 g B [.ref (gA g 0), .int a1] h none y := by
  refine CT.of pn_X10 (Nat.le_of_ble_eq_true rfl) ?_
  intro p e s m below meth c hr F
  have F : Fx p s m _ meth c cX10_append 3 "DustParish" 395 g B := F
  refine V_lv (lv' := [(0, .ref (gA g 0)), (1, .int a1)]) rfl ?_
  unfold fX10_append at hf
  refine v_bipush (pc := 0) (v := 24) F dX10_append_0 bp_24 ?_
  refine v_istore_n (pc := 2) (lv' := [(0, .ref (gA g 0)), (1, .int a1), (2, .int 24)]) F dX10_append_2 rfl (by decide) rfl ?_
  obtain ⟨x7, e8, hf⟩ := bnd_some hf
  refine tX10_append_3 (s0 := (h, 24)) F ?_ e8
  exact tX10_append_46 F hr hf
def fX10_blow_24 (h : ST)  : Option ((Int32 ⊕ Nat)) :=
  some (.inr 1)
def fX10_blow_64 (h : ST)  : Option ((Int32 ⊕ Nat)) :=
  some (.inr 1)
def fX10_blow_125 (h : ST) (q0 : Int32) : Option ((Int32 ⊕ Nat)) :=
  some (.inl q0)
def fX10_blow (h : ST) (a1 : Int32) (a2 : Int32) (a3 : Int32) : Option ((Int32 ⊕ Nat)) :=
  if a1 < 0 then
  fX10_blow_24 h 
  else
  bnd (rf KC 395 1 (h 0 3)) fun f2 =>
    if (h f2 8) ≤ a1 then
    fX10_blow_24 h 
    else
    if a3 < 0 then
      fX10_blow_24 h 
      else
      if a3 ≤ 2 then
        if a2 = (-1) then
          bnd (rf KC 395 1 (h 0 3)) fun f28 =>
            bnd (rd 5 (h (f28 + 7)) a1) fun v30 =>
            some (.inl v30)
          else
          if a2 < 0 then
            fX10_blow_64 h 
            else
            bnd (rf KC 395 1 (h 0 3)) fun f9 =>
              bnd (rd 5 (h (f9 + 7)) a1) fun v11 =>
              if a2 < v11 then
              if a3 = 0 then
                bnd (rf KC 395 1 (h 0 3)) fun f24 =>
                  bnd (rd 40 (h (f24 + 8)) ((a1 * 8) + a2)) fun v26 =>
                  fX10_blow_125 h v26
                else
                if a3 = 1 then
                  bnd (rf KC 395 1 (h 0 3)) fun f20 =>
                    bnd (rd 40 (h (f20 + 9)) ((a1 * 8) + a2)) fun v22 =>
                    fX10_blow_125 h v22
                  else
                  bnd (rf KC 395 1 (h 0 3)) fun f16 =>
                    bnd (rd 40 (h (f16 + 10)) ((a1 * 8) + a2)) fun v18 =>
                    fX10_blow_125 h v18
              else
              fX10_blow_64 h 
        else
        fX10_blow_24 h 
set_option maxRecDepth 100000 in
set_option maxHeartbeats 4000000 in
theorem tX10_blow_24 {p : Program} {l : Launch} {e : Env} {s : State} {m : MethodId} {args : Array Value} {below : List Frame} {meth : Method} {c : Code} {g : GE} {B : Nat} {h : ST}  (F : Fx p s m args meth c cX10_blow 5 "DustParish" 395 g B)
    {y : (Int32 ⊕ Nat)} (hr : meth.sig.returnType = (some .int)) (hT : l.stackTraces = false) (hex : ∀ x ∈ c.exceptionTable.toList, False) (hf : fX10_blow_24 h  = some y) : V p l e 8 1 s m args below meth c (vx_MQ below (QX KC 395 g (ocI y) h) (XX KC 395 g (ocI y) h) args s 1 (6 * 1) (WA 395 g)) KC 395 g B 5 0 h 24 [] [] := by
  unfold fX10_blow_24 at hf
  exact v_throw0 (pc := 24) (E := xNS) F hT xw_NS hex dX10_blow_24 dX10_blow_27 dX10_blow_28 dX10_blow_31 (congrArg ocI (Option.some.inj hf)) rfl (by decide) (Nat.le_of_ble_eq_true rfl) (by decide)
set_option maxRecDepth 100000 in
set_option maxHeartbeats 4000000 in
theorem tX10_blow_64 {p : Program} {l : Launch} {e : Env} {s : State} {m : MethodId} {args : Array Value} {below : List Frame} {meth : Method} {c : Code} {g : GE} {B : Nat} {h : ST}  (F : Fx p s m args meth c cX10_blow 5 "DustParish" 395 g B)
    {y : (Int32 ⊕ Nat)} (hr : meth.sig.returnType = (some .int)) (hT : l.stackTraces = false) (hex : ∀ x ∈ c.exceptionTable.toList, False) (hf : fX10_blow_64 h  = some y) : V p l e 8 1 s m args below meth c (vx_MQ below (QX KC 395 g (ocI y) h) (XX KC 395 g (ocI y) h) args s 1 (6 * 1) (WA 395 g)) KC 395 g B 5 0 h 64 [] [] := by
  unfold fX10_blow_64 at hf
  exact v_throw0 (pc := 64) (E := xNS) F hT xw_NS hex dX10_blow_64 dX10_blow_67 dX10_blow_68 dX10_blow_71 (congrArg ocI (Option.some.inj hf)) rfl (by decide) (Nat.le_of_ble_eq_true rfl) (by decide)
set_option maxRecDepth 100000 in
set_option maxHeartbeats 4000000 in
theorem tX10_blow_125 {p : Program} {l : Launch} {e : Env} {s : State} {m : MethodId} {args : Array Value} {below : List Frame} {meth : Method} {c : Code} {g : GE} {B : Nat} {h : ST}  {q0 : Int32} (F : Fx p s m args meth c cX10_blow 5 "DustParish" 395 g B)
    {y : (Int32 ⊕ Nat)} (hr : meth.sig.returnType = (some .int)) (hT : l.stackTraces = false) (hex : ∀ x ∈ c.exceptionTable.toList, False) (hf : fX10_blow_125 h q0 = some y) : V p l e 8 1 s m args below meth c (vx_MQ below (QX KC 395 g (ocI y) h) (XX KC 395 g (ocI y) h) args s 1 (6 * 1) (WA 395 g)) KC 395 g B 5 0 h 125 [] [.int q0] := by
  unfold fX10_blow_125 at hf
  exact v_xiret (pc := 125) F hr dX10_blow_125 (Option.some.inj hf) rfl (by decide)
set_option maxRecDepth 100000 in
set_option maxHeartbeats 4000000 in
theorem kX10_blow {l : Launch} {g : GE} {B : Nat} {h : ST} {a1 : Int32} {a2 : Int32} {a3 : Int32} {y : (Int32 ⊕ Nat)} (hT : l.stackTraces = false) (hf : fX10_blow h a1 a2 a3 = some y) : XT l yX10_blow cX10_blow 5 (some .int) 8 1 KC 395 g B [.ref (gA g 0), .int a1, .int a2, .int a3] h (ocI y) h := by
  refine XT.of pn_X10 (Nat.le_of_ble_eq_true rfl) ?_
  intro p e s m below meth c hr hex F
  have F : Fx p s m _ meth c cX10_blow 5 "DustParish" 395 g B := F
  refine V_lv (lv' := [(0, .ref (gA g 0)), (1, .int a1), (2, .int a2), (3, .int a3)]) rfl ?_
  unfold fX10_blow at hf
  refine v_iload_n (pc := 0) (j := 1) F dX10_blow_0 rfl rfl ?_
  refine v_if_lt (pc := 1) (tgt := 24) F dX10_blow_1 (by decide) (fun c1 => ?_) (fun c1 => ?_)
  · have hf := ite_t hf c1
    refine V.sub (lv' := []) [] rfl ?_
    exact tX10_blow_24 F hr hT hex hf
  · have hf := ite_f hf c1
    refine v_iload_n (pc := 4) (j := 1) F dX10_blow_4 rfl rfl ?_
    refine v_aload_n (pc := 5) (j := 0) F dX10_blow_5 rfl rfl ?_
    obtain ⟨f2, e3, hf⟩ := bnd_some hf
    obtain ⟨ho_f2, hk_f2, e3⟩ := rf_in e3
    refine v_ifl (pc := 6) F fl_X10_23 dX10_blow_6 kc_0.1 kc_0.2 (fv_9_3 e3) ?_
    refine v_ifl (pc := 9) F fl_X10_110 dX10_blow_9 ho_f2 hk_f2 fv_1_8 ?_
    refine v_icmp_ge (pc := 12) (tgt := 24) F dX10_blow_12 (by decide) (fun c4 => ?_) (fun c4 => ?_)
    · have hf := ite_t hf c4
      refine V.sub (lv' := []) [] rfl ?_
      exact tX10_blow_24 F hr hT hex hf
    · have hf := ite_f hf c4
      refine v_iload_n (pc := 15) (j := 3) F dX10_blow_15 rfl rfl ?_
      refine v_if_lt (pc := 16) (tgt := 24) F dX10_blow_16 (by decide) (fun c5 => ?_) (fun c5 => ?_)
      · have hf := ite_t hf c5
        refine V.sub (lv' := []) [] rfl ?_
        exact tX10_blow_24 F hr hT hex hf
      · have hf := ite_f hf c5
        refine v_iload_n (pc := 19) (j := 3) F dX10_blow_19 rfl rfl ?_
        refine v_iconst (pc := 20) (v := 2) F dX10_blow_20 ic_2 ?_
        refine v_icmp_le (pc := 21) (tgt := 32) F dX10_blow_21 (by decide) (fun c6 => ?_) (fun c6 => ?_)
        · have hf := ite_t hf c6
          refine v_iload_n (pc := 32) (j := 2) F dX10_blow_32 rfl rfl ?_
          refine v_iconst (pc := 33) (v := (-1)) F dX10_blow_33 ic_m1 ?_
          refine v_icmp_ne (pc := 34) (tgt := 47) F dX10_blow_34 (by decide) (fun c7 => ?_) (fun c7 => ?_)
          · have hf := ite_f hf c7
            refine v_iload_n (pc := 47) (j := 2) F dX10_blow_47 rfl rfl ?_
            refine v_if_lt (pc := 48) (tgt := 64) F dX10_blow_48 (by decide) (fun c8 => ?_) (fun c8 => ?_)
            · have hf := ite_t hf c8
              refine V.sub (lv' := []) [] rfl ?_
              exact tX10_blow_64 F hr hT hex hf
            · have hf := ite_f hf c8
              refine v_iload_n (pc := 51) (j := 2) F dX10_blow_51 rfl rfl ?_
              refine v_aload_n (pc := 52) (j := 0) F dX10_blow_52 rfl rfl ?_
              obtain ⟨f9, e10, hf⟩ := bnd_some hf
              obtain ⟨ho_f9, hk_f9, e10⟩ := rf_in e10
              refine v_ifl (pc := 53) F fl_X10_23 dX10_blow_53 kc_0.1 kc_0.2 (fv_9_3 e10) ?_
              refine v_ifl (pc := 56) F fl_X10_192 dX10_blow_56 ho_f9 hk_f9 fv_1_9 ?_
              refine v_iload_n (pc := 59) (j := 1) F dX10_blow_59 rfl rfl ?_
              obtain ⟨v11, e12, hf⟩ := bnd_some hf
              refine v_iald (pc := 60) F dX10_blow_60 (ly_1_9 ho_f9 hk_f9).1 (ly_1_9 ho_f9 hk_f9).2 e12 ?_
              refine v_icmp_lt (pc := 61) (tgt := 72) F dX10_blow_61 (by decide) (fun c13 => ?_) (fun c13 => ?_)
              · have hf := ite_t hf c13
                refine v_iload_n (pc := 72) (j := 1) F dX10_blow_72 rfl rfl ?_
                refine v_bipush (pc := 73) (v := 8) F dX10_blow_73 bp_8 ?_
                refine v_imul (pc := 75) F dX10_blow_75 ?_
                refine v_iload_n (pc := 76) (j := 2) F dX10_blow_76 rfl rfl ?_
                refine v_iadd (pc := 77) F dX10_blow_77 ?_
                refine v_istore (pc := 78) (lv' := [(0, .ref (gA g 0)), (1, .int a1), (2, .int a2), (3, .int a3), (4, .int ((a1 * 8) + a2))]) F dX10_blow_78 (by decide) rfl ?_
                refine v_iload_n (pc := 80) (j := 3) F dX10_blow_80 rfl rfl ?_
                refine v_if_ne (pc := 81) (tgt := 97) F dX10_blow_81 (by decide) (fun c14 => ?_) (fun c14 => ?_)
                · have hf := ite_f hf c14
                  refine v_iload_n (pc := 97) (j := 3) F dX10_blow_97 rfl rfl ?_
                  refine v_iconst (pc := 98) (v := 1) F dX10_blow_98 ic_1 ?_
                  refine v_icmp_ne (pc := 99) (tgt := 115) F dX10_blow_99 (by decide) (fun c15 => ?_) (fun c15 => ?_)
                  · have hf := ite_f hf c15
                    refine v_aload_n (pc := 115) (j := 0) F dX10_blow_115 rfl rfl ?_
                    obtain ⟨f16, e17, hf⟩ := bnd_some hf
                    obtain ⟨ho_f16, hk_f16, e17⟩ := rf_in e17
                    refine v_ifl (pc := 116) F fl_X10_23 dX10_blow_116 kc_0.1 kc_0.2 (fv_9_3 e17) ?_
                    refine v_ifl (pc := 119) F fl_X10_201 dX10_blow_119 ho_f16 hk_f16 fv_1_12 ?_
                    refine v_iload (pc := 122) (j := 4) F dX10_blow_122 rfl ?_
                    obtain ⟨v18, e19, hf⟩ := bnd_some hf
                    refine v_iald (pc := 124) F dX10_blow_124 (ly_1_12 ho_f16 hk_f16).1 (ly_1_12 ho_f16 hk_f16).2 e19 ?_
                    refine V.sub (lv' := []) [] rfl ?_
                    exact tX10_blow_125 F hr hT hex hf
                  · have hf := ite_t hf c15
                    refine v_aload_n (pc := 102) (j := 0) F dX10_blow_102 rfl rfl ?_
                    obtain ⟨f20, e21, hf⟩ := bnd_some hf
                    obtain ⟨ho_f20, hk_f20, e21⟩ := rf_in e21
                    refine v_ifl (pc := 103) F fl_X10_23 dX10_blow_103 kc_0.1 kc_0.2 (fv_9_3 e21) ?_
                    refine v_ifl (pc := 106) F fl_X10_198 dX10_blow_106 ho_f20 hk_f20 fv_1_11 ?_
                    refine v_iload (pc := 109) (j := 4) F dX10_blow_109 rfl ?_
                    obtain ⟨v22, e23, hf⟩ := bnd_some hf
                    refine v_iald (pc := 111) F dX10_blow_111 (ly_1_11 ho_f20 hk_f20).1 (ly_1_11 ho_f20 hk_f20).2 e23 ?_
                    refine v_goto (pc := 112) (tgt := 125) F dX10_blow_112 (by decide) ?_
                    refine V.sub (lv' := []) [] rfl ?_
                    exact tX10_blow_125 F hr hT hex hf
                · have hf := ite_t hf c14
                  refine v_aload_n (pc := 84) (j := 0) F dX10_blow_84 rfl rfl ?_
                  obtain ⟨f24, e25, hf⟩ := bnd_some hf
                  obtain ⟨ho_f24, hk_f24, e25⟩ := rf_in e25
                  refine v_ifl (pc := 85) F fl_X10_23 dX10_blow_85 kc_0.1 kc_0.2 (fv_9_3 e25) ?_
                  refine v_ifl (pc := 88) F fl_X10_195 dX10_blow_88 ho_f24 hk_f24 fv_1_10 ?_
                  refine v_iload (pc := 91) (j := 4) F dX10_blow_91 rfl ?_
                  obtain ⟨v26, e27, hf⟩ := bnd_some hf
                  refine v_iald (pc := 93) F dX10_blow_93 (ly_1_10 ho_f24 hk_f24).1 (ly_1_10 ho_f24 hk_f24).2 e27 ?_
                  refine v_goto (pc := 94) (tgt := 125) F dX10_blow_94 (by decide) ?_
                  refine V.sub (lv' := []) [] rfl ?_
                  exact tX10_blow_125 F hr hT hex hf
              · have hf := ite_f hf c13
                refine V.sub (lv' := []) [] rfl ?_
                exact tX10_blow_64 F hr hT hex hf
          · have hf := ite_t hf c7
            refine v_aload_n (pc := 37) (j := 0) F dX10_blow_37 rfl rfl ?_
            obtain ⟨f28, e29, hf⟩ := bnd_some hf
            obtain ⟨ho_f28, hk_f28, e29⟩ := rf_in e29
            refine v_ifl (pc := 38) F fl_X10_23 dX10_blow_38 kc_0.1 kc_0.2 (fv_9_3 e29) ?_
            refine v_ifl (pc := 41) F fl_X10_192 dX10_blow_41 ho_f28 hk_f28 fv_1_9 ?_
            refine v_iload_n (pc := 44) (j := 1) F dX10_blow_44 rfl rfl ?_
            obtain ⟨v30, e31, hf⟩ := bnd_some hf
            refine v_iald (pc := 45) F dX10_blow_45 (ly_1_9 ho_f28 hk_f28).1 (ly_1_9 ho_f28 hk_f28).2 e31 ?_
            exact v_xiret (pc := 46) F hr dX10_blow_46 (Option.some.inj hf) rfl (by decide)
        · have hf := ite_f hf c6
          refine V.sub (lv' := []) [] rfl ?_
          exact tX10_blow_24 F hr hT hex hf
def fX2_arrives_17 (h : ST) (q0 : Int32) : Option (Int32) :=
  some q0
def fX2_arrives (h : ST) (o : Nat) (a1 : Int32) (a2 : Int32) : Option (Int32) :=
  bnd (rd 9 (h (o + 1)) a1) fun v1 =>
  if v1 = 1 then
  fX2_arrives_17 h (a2 / 2)
  else
  fX2_arrives_17 h a2
set_option maxRecDepth 100000 in
set_option maxHeartbeats 4000000 in
theorem tX2_arrives_17 {p : Program} {l : Launch} {e : Env} {s : State} {m : MethodId} {args : Array Value} {below : List Frame} {meth : Method} {c : Code} {g : GE} {B : Nat} {h : ST}  {q0 : Int32} (F : Fx p s m args meth c cX2_arrives 3 "DustParish$Facts" 395 g B)
    {y : Int32} (hr : meth.sig.returnType = (some .int)) (hf : fX2_arrives_17 h q0 = some y) : V p l e 1 0 s m args below meth c (MQ below (QO KC 395 g (some (.int y)) h) args s 0 (6 * 0) (WA 395 g)) KC 395 g B 3 0 h 17 [] [.int q0] := by
  unfold fX2_arrives_17 at hf
  exact v_iret (pc := 17) F hr dX2_arrives_17 (Option.some.inj hf) rfl (Nat.zero_le _)
set_option maxRecDepth 100000 in
set_option maxHeartbeats 4000000 in
theorem kX2_arrives {l : Launch} {g : GE} {B : Nat} {h : ST} {o : Nat} (ho_o : o < 395) (hk_o : KC o = (1, 0)) {a1 : Int32} {a2 : Int32} {y : Int32} (hf : fX2_arrives h o a1 a2 = some y) : CT l yX2_arrives cX2_arrives 3 (some .int) 1 KC 395 g B [.ref (gA g o), .int a1, .int a2] h (some (.int y)) h := by
  refine CT.of pn_X2 (Nat.le_of_ble_eq_true rfl) ?_
  intro p e s m below meth c hr F
  have F : Fx p s m _ meth c cX2_arrives 3 "DustParish$Facts" 395 g B := F
  refine V_lv (lv' := [(0, .ref (gA g o)), (1, .int a1), (2, .int a2)]) rfl ?_
  unfold fX2_arrives at hf
  refine v_aload_n (pc := 0) (j := 0) F dX2_arrives_0 rfl rfl ?_
  refine v_ifl (pc := 1) F fl_X2_9 dX2_arrives_1 ho_o hk_o fv_1_1 ?_
  refine v_iload_n (pc := 4) (j := 1) F dX2_arrives_4 rfl rfl ?_
  obtain ⟨v1, e2, hf⟩ := bnd_some hf
  refine v_iald (pc := 5) F dX2_arrives_5 (ly_1_1 ho_o hk_o).1 (ly_1_1 ho_o hk_o).2 e2 ?_
  refine v_iconst (pc := 6) (v := 1) F dX2_arrives_6 ic_1 ?_
  refine v_icmp_ne (pc := 7) (tgt := 16) F dX2_arrives_7 (by decide) (fun c3 => ?_) (fun c3 => ?_)
  · have hf := ite_f hf c3
    refine v_iload_n (pc := 16) (j := 2) F dX2_arrives_16 rfl rfl ?_
    refine V.sub (lv' := []) [] rfl ?_
    exact tX2_arrives_17 F hr hf
  · have hf := ite_t hf c3
    refine v_iload_n (pc := 10) (j := 2) F dX2_arrives_10 rfl rfl ?_
    refine v_iconst (pc := 11) (v := 2) F dX2_arrives_11 ic_2 ?_
    refine v_idiv (pc := 12) F dX2_arrives_12 (by decide) ?_
    refine v_goto (pc := 13) (tgt := 17) F dX2_arrives_13 (by decide) ?_
    refine V.sub (lv' := []) [] rfl ?_
    exact tX2_arrives_17 F hr hf
def fX10_carryGrains_15 (h : ST)  : Option (ST) :=
  some h
def fX10_carryGrains_18 (l1 : Int32) (s1 : (ST × Int32)) : Option ((ST × Int32) ⊕ ST) :=
  bnd (rf KC 395 1 (s1.1 0 3)) fun f5 =>
  bnd (rd 5 (s1.1 (f5 + 7)) l1) fun v7 =>
  if v7 ≤ s1.2 then
  some (.inr s1.1)
  else
  bnd (rf KC 395 1 (s1.1 0 3)) fun f10 =>
    bnd (rd 40 (s1.1 (f10 + 8)) ((l1 * 8) + s1.2)) fun v12 =>
    bnd (rd 9 (s1.1 392) v12) fun v14 =>
    bnd (rf KC 395 1 (s1.1 0 3)) fun f16 =>
    bnd (rd 40 (s1.1 (f16 + 10)) ((l1 * 8) + s1.2)) fun v18 =>
    bnd (rf KC 395 1 (s1.1 0 3)) fun f20 =>
    bnd (rd 40 (s1.1 (f20 + 8)) ((l1 * 8) + s1.2)) fun v22 =>
    bnd (rd 9 (s1.1 392) v22) fun v24 =>
    bnd (wr 9 s1.1 392 v22 (v24 - ((v14 * v18) / 10))) fun h26 =>
    bnd (rf KC 395 1 (h26 0 3)) fun f28 =>
    bnd (rd 40 (h26 (f28 + 9)) ((l1 * 8) + s1.2)) fun v30 =>
    bnd (rd 9 (h26 392) v30) fun v32 =>
    bnd (rf KC 395 1 (h26 0 3)) fun f34 =>
    bnd (rf KC 395 1 (h26 0 3)) fun f36 =>
    bnd (rd 40 (h26 (f36 + 9)) ((l1 * 8) + s1.2)) fun v38 =>
    bnd (fX2_arrives h26 f34 v38 ((v14 * v18) / 10)) fun r40 =>
    bnd (wr 9 h26 392 v30 (v32 + r40)) fun h42 =>
    some (.inl (h42, s1.2 + 1))
def fX10_carryGrains (h : ST) (a1 : Int32) : Option (ST) :=
  if a1 < 0 then
  fX10_carryGrains_15 h 
  else
  bnd (rf KC 395 1 (h 0 3)) fun f2 =>
    if a1 < (h f2 8) then
    bnd (lp FU (fX10_carryGrains_18 a1) (h, 0)) fun x44 =>
      some x44
    else
    fX10_carryGrains_15 h 
set_option maxRecDepth 100000 in
set_option maxHeartbeats 4000000 in
theorem tX10_carryGrains_15 {p : Program} {l : Launch} {e : Env} {s : State} {m : MethodId} {args : Array Value} {below : List Frame} {meth : Method} {c : Code} {g : GE} {B : Nat} {h : ST}  (F : Fx p s m args meth c cX10_carryGrains 5 "DustParish" 395 g B)
    {y : ST} (hr : meth.sig.returnType = none) (hf : fX10_carryGrains_15 h  = some y) : V p l e 2 0 s m args below meth c (MQ below (QO KC 395 g none y) args s 0 (6 * 0) (WA 395 g)) KC 395 g B 5 0 h 15 [] [] := by
  unfold fX10_carryGrains_15 at hf
  exact v_vret (pc := 15) F hr dX10_carryGrains_15 (Option.some.inj hf) (Nat.zero_le _)
set_option maxRecDepth 100000 in
set_option maxHeartbeats 4000000 in
theorem tX10_carryGrains_18 {p : Program} {l : Launch} {e : Env} {s : State} {m : MethodId} {args : Array Value} {below : List Frame} {meth : Method} {c : Code} {g : GE} {B : Nat}   {l1 : Int32} {Q : State → Prop} {x : ST} {nf : Nat} {s0 : (ST × Int32)} (F : Fx p s m args meth c cX10_carryGrains 5 "DustParish" 395 g B) (hX0 : V p l e 2 0 s m args below meth c Q KC 395 g B 5 0 x 127 [] []) (hl : lp nf (fX10_carryGrains_18 l1) s0 = some x) : V p l e 2 0 s m args below meth c Q KC 395 g B 5 0 s0.1 18 [(0, .ref (gA g 0)), (1, .int l1), (2, .int s0.2)] [] := by
  refine lp_ind (P := fun s0 => V p l e 2 0 s m args below meth c Q KC 395 g B 5 0 s0.1 18 [(0, .ref (gA g 0)), (1, .int l1), (2, .int s0.2)] []) ?_ nf s0 hl
  intro s1 y hf hk hx
  have hx0 : ∀ v : ST, y = Sum.inr v → V p l e 2 0 s m args below meth c Q KC 395 g B 5 0 v 127 [] [] := fun v e9 => by rw [hx v e9]; exact hX0
  unfold fX10_carryGrains_18 at hf
  refine v_iload_n (pc := 18) (j := 2) F dX10_carryGrains_18 rfl rfl ?_
  refine v_aload_n (pc := 19) (j := 0) F dX10_carryGrains_19 rfl rfl ?_
  obtain ⟨f5, e6, hf⟩ := bnd_some hf
  obtain ⟨ho_f5, hk_f5, e6⟩ := rf_in e6
  refine v_ifl (pc := 20) F fl_X10_23 dX10_carryGrains_20 kc_0.1 kc_0.2 (fv_9_3 e6) ?_
  refine v_ifl (pc := 23) F fl_X10_192 dX10_carryGrains_23 ho_f5 hk_f5 fv_1_9 ?_
  refine v_iload_n (pc := 26) (j := 1) F dX10_carryGrains_26 rfl rfl ?_
  obtain ⟨v7, e8, hf⟩ := bnd_some hf
  refine v_iald (pc := 27) F dX10_carryGrains_27 (ly_1_9 ho_f5 hk_f5).1 (ly_1_9 ho_f5 hk_f5).2 e8 ?_
  refine v_icmp_ge (pc := 28) (tgt := 127) F dX10_carryGrains_28 (by decide) (fun c9 => ?_) (fun c9 => ?_)
  · have hf := ite_t hf c9
    refine V.sub (lv' := []) [] rfl ?_
    exact hx0 s1.1 (Option.some.inj hf).symm
  · have hf := ite_f hf c9
    refine v_iload_n (pc := 31) (j := 1) F dX10_carryGrains_31 rfl rfl ?_
    refine v_bipush (pc := 32) (v := 8) F dX10_carryGrains_32 bp_8 ?_
    refine v_imul (pc := 34) F dX10_carryGrains_34 ?_
    refine v_iload_n (pc := 35) (j := 2) F dX10_carryGrains_35 rfl rfl ?_
    refine v_iadd (pc := 36) F dX10_carryGrains_36 ?_
    refine v_istore_n (pc := 37) (lv' := [(0, .ref (gA g 0)), (1, .int l1), (2, .int s1.2), (3, .int ((l1 * 8) + s1.2))]) F dX10_carryGrains_37 rfl (by decide) rfl ?_
    refine v_aload_n (pc := 38) (j := 0) F dX10_carryGrains_38 rfl rfl ?_
    refine v_ifl (pc := 39) F fl_X10_67 dX10_carryGrains_39 kc_0.1 kc_0.2 fv_9_12 ?_
    refine v_aload_n (pc := 42) (j := 0) F dX10_carryGrains_42 rfl rfl ?_
    obtain ⟨f10, e11, hf⟩ := bnd_some hf
    obtain ⟨ho_f10, hk_f10, e11⟩ := rf_in e11
    refine v_ifl (pc := 43) F fl_X10_23 dX10_carryGrains_43 kc_0.1 kc_0.2 (fv_9_3 e11) ?_
    refine v_ifl (pc := 46) F fl_X10_195 dX10_carryGrains_46 ho_f10 hk_f10 fv_1_10 ?_
    refine v_iload_n (pc := 49) (j := 3) F dX10_carryGrains_49 rfl rfl ?_
    obtain ⟨v12, e13, hf⟩ := bnd_some hf
    refine v_iald (pc := 50) F dX10_carryGrains_50 (ly_1_10 ho_f10 hk_f10).1 (ly_1_10 ho_f10 hk_f10).2 e13 ?_
    obtain ⟨v14, e15, hf⟩ := bnd_some hf
    refine v_iald (pc := 51) F dX10_carryGrains_51 kc_392.1 kc_392.2 e15 ?_
    refine v_aload_n (pc := 52) (j := 0) F dX10_carryGrains_52 rfl rfl ?_
    obtain ⟨f16, e17, hf⟩ := bnd_some hf
    obtain ⟨ho_f16, hk_f16, e17⟩ := rf_in e17
    refine v_ifl (pc := 53) F fl_X10_23 dX10_carryGrains_53 kc_0.1 kc_0.2 (fv_9_3 e17) ?_
    refine v_ifl (pc := 56) F fl_X10_201 dX10_carryGrains_56 ho_f16 hk_f16 fv_1_12 ?_
    refine v_iload_n (pc := 59) (j := 3) F dX10_carryGrains_59 rfl rfl ?_
    obtain ⟨v18, e19, hf⟩ := bnd_some hf
    refine v_iald (pc := 60) F dX10_carryGrains_60 (ly_1_12 ho_f16 hk_f16).1 (ly_1_12 ho_f16 hk_f16).2 e19 ?_
    refine v_imul (pc := 61) F dX10_carryGrains_61 ?_
    refine v_bipush (pc := 62) (v := 10) F dX10_carryGrains_62 bp_10 ?_
    refine v_idiv (pc := 64) F dX10_carryGrains_64 (by decide) ?_
    refine v_istore (pc := 65) (lv' := [(0, .ref (gA g 0)), (1, .int l1), (2, .int s1.2), (3, .int ((l1 * 8) + s1.2)), (4, .int ((v14 * v18) / 10))]) F dX10_carryGrains_65 (by decide) rfl ?_
    refine v_aload_n (pc := 67) (j := 0) F dX10_carryGrains_67 rfl rfl ?_
    refine v_ifl (pc := 68) F fl_X10_67 dX10_carryGrains_68 kc_0.1 kc_0.2 fv_9_12 ?_
    refine v_aload_n (pc := 71) (j := 0) F dX10_carryGrains_71 rfl rfl ?_
    obtain ⟨f20, e21, hf⟩ := bnd_some hf
    obtain ⟨ho_f20, hk_f20, e21⟩ := rf_in e21
    refine v_ifl (pc := 72) F fl_X10_23 dX10_carryGrains_72 kc_0.1 kc_0.2 (fv_9_3 e21) ?_
    refine v_ifl (pc := 75) F fl_X10_195 dX10_carryGrains_75 ho_f20 hk_f20 fv_1_10 ?_
    refine v_iload_n (pc := 78) (j := 3) F dX10_carryGrains_78 rfl rfl ?_
    obtain ⟨v22, e23, hf⟩ := bnd_some hf
    refine v_iald (pc := 79) F dX10_carryGrains_79 (ly_1_10 ho_f20 hk_f20).1 (ly_1_10 ho_f20 hk_f20).2 e23 ?_
    refine v_dup2_11 (pc := 80) F dX10_carryGrains_80 rfl rfl ?_
    obtain ⟨v24, e25, hf⟩ := bnd_some hf
    refine v_iald (pc := 81) F dX10_carryGrains_81 kc_392.1 kc_392.2 e25 ?_
    refine v_iload (pc := 82) (j := 4) F dX10_carryGrains_82 rfl ?_
    refine v_isub (pc := 84) F dX10_carryGrains_84 ?_
    obtain ⟨h26, e27, hf⟩ := bnd_some hf
    refine v_iast (pc := 85) F dX10_carryGrains_85 kc_392.1 kc_392.2 e27 ?_
    refine v_aload_n (pc := 86) (j := 0) F dX10_carryGrains_86 rfl rfl ?_
    refine v_ifl (pc := 87) F fl_X10_67 dX10_carryGrains_87 kc_0.1 kc_0.2 fv_9_12 ?_
    refine v_aload_n (pc := 90) (j := 0) F dX10_carryGrains_90 rfl rfl ?_
    obtain ⟨f28, e29, hf⟩ := bnd_some hf
    obtain ⟨ho_f28, hk_f28, e29⟩ := rf_in e29
    refine v_ifl (pc := 91) F fl_X10_23 dX10_carryGrains_91 kc_0.1 kc_0.2 (fv_9_3 e29) ?_
    refine v_ifl (pc := 94) F fl_X10_198 dX10_carryGrains_94 ho_f28 hk_f28 fv_1_11 ?_
    refine v_iload_n (pc := 97) (j := 3) F dX10_carryGrains_97 rfl rfl ?_
    obtain ⟨v30, e31, hf⟩ := bnd_some hf
    refine v_iald (pc := 98) F dX10_carryGrains_98 (ly_1_11 ho_f28 hk_f28).1 (ly_1_11 ho_f28 hk_f28).2 e31 ?_
    refine v_dup2_11 (pc := 99) F dX10_carryGrains_99 rfl rfl ?_
    obtain ⟨v32, e33, hf⟩ := bnd_some hf
    refine v_iald (pc := 100) F dX10_carryGrains_100 kc_392.1 kc_392.2 e33 ?_
    refine v_aload_n (pc := 101) (j := 0) F dX10_carryGrains_101 rfl rfl ?_
    obtain ⟨f34, e35, hf⟩ := bnd_some hf
    obtain ⟨ho_f34, hk_f34, e35⟩ := rf_in e35
    refine v_ifl (pc := 102) F fl_X10_23 dX10_carryGrains_102 kc_0.1 kc_0.2 (fv_9_3 e35) ?_
    refine v_aload_n (pc := 105) (j := 0) F dX10_carryGrains_105 rfl rfl ?_
    obtain ⟨f36, e37, hf⟩ := bnd_some hf
    obtain ⟨ho_f36, hk_f36, e37⟩ := rf_in e37
    refine v_ifl (pc := 106) F fl_X10_23 dX10_carryGrains_106 kc_0.1 kc_0.2 (fv_9_3 e37) ?_
    refine v_ifl (pc := 109) F fl_X10_198 dX10_carryGrains_109 ho_f36 hk_f36 fv_1_11 ?_
    refine v_iload_n (pc := 112) (j := 3) F dX10_carryGrains_112 rfl rfl ?_
    obtain ⟨v38, e39, hf⟩ := bnd_some hf
    refine v_iald (pc := 113) F dX10_carryGrains_113 (ly_1_11 ho_f36 hk_f36).1 (ly_1_11 ho_f36 hk_f36).2 e39 ?_
    refine v_iload (pc := 114) (j := 4) F dX10_carryGrains_114 rfl ?_
    obtain ⟨r40, e41, hf⟩ := bnd_some hf
    refine v_callVi (pc := 116) (As := [.int v38, .int ((v14 * v18) / 10)]) F cl_X10_306 dX10_carryGrains_116 (kX2_arrives ho_f34 hk_f34 e41) ho_f34 hk_f34 rc_1 rfl rfl (Nat.le_of_ble_eq_true rfl) (by decide) (Nat.zero_le _) ?_
    refine v_iadd (pc := 119) F dX10_carryGrains_119 ?_
    obtain ⟨h42, e43, hf⟩ := bnd_some hf
    refine v_iast (pc := 120) F dX10_carryGrains_120 kc_392.1 kc_392.2 e43 ?_
    refine v_iinc (pc := 121) (j := 2) (v := s1.2 + 1) (lv' := [(0, .ref (gA g 0)), (1, .int l1), (2, .int (s1.2 + 1)), (3, .int ((l1 * 8) + s1.2)), (4, .int ((v14 * v18) / 10))]) F dX10_carryGrains_121 rfl (congrArg (fun z => s1.2 + z) ic_1) (by decide) rfl ?_
    refine v_goto (pc := 124) (tgt := 18) F dX10_carryGrains_124 (by decide) ?_
    refine V.sub (lv' := [(0, .ref (gA g 0)), (1, .int l1), (2, .int (s1.2 + 1))]) [0, 1, 2] rfl ?_
    exact hk (h42, s1.2 + 1) (Option.some.inj hf).symm
set_option maxRecDepth 100000 in
set_option maxHeartbeats 4000000 in
theorem kX10_carryGrains {l : Launch} {g : GE} {B : Nat} {h : ST} {a1 : Int32} {y : ST} (hf : fX10_carryGrains h a1 = some y) : CT l yX10_carryGrains cX10_carryGrains 5 none 2 KC 395 g B [.ref (gA g 0), .int a1] h none y := by
  refine CT.of pn_X10 (Nat.le_of_ble_eq_true rfl) ?_
  intro p e s m below meth c hr F
  have F : Fx p s m _ meth c cX10_carryGrains 5 "DustParish" 395 g B := F
  refine V_lv (lv' := [(0, .ref (gA g 0)), (1, .int a1)]) rfl ?_
  unfold fX10_carryGrains at hf
  refine v_iload_n (pc := 0) (j := 1) F dX10_carryGrains_0 rfl rfl ?_
  refine v_if_lt (pc := 1) (tgt := 15) F dX10_carryGrains_1 (by decide) (fun c1 => ?_) (fun c1 => ?_)
  · have hf := ite_t hf c1
    refine V.sub (lv' := []) [] rfl ?_
    exact tX10_carryGrains_15 F hr hf
  · have hf := ite_f hf c1
    refine v_iload_n (pc := 4) (j := 1) F dX10_carryGrains_4 rfl rfl ?_
    refine v_aload_n (pc := 5) (j := 0) F dX10_carryGrains_5 rfl rfl ?_
    obtain ⟨f2, e3, hf⟩ := bnd_some hf
    obtain ⟨ho_f2, hk_f2, e3⟩ := rf_in e3
    refine v_ifl (pc := 6) F fl_X10_23 dX10_carryGrains_6 kc_0.1 kc_0.2 (fv_9_3 e3) ?_
    refine v_ifl (pc := 9) F fl_X10_110 dX10_carryGrains_9 ho_f2 hk_f2 fv_1_8 ?_
    refine v_icmp_lt (pc := 12) (tgt := 16) F dX10_carryGrains_12 (by decide) (fun c4 => ?_) (fun c4 => ?_)
    · have hf := ite_t hf c4
      refine v_iconst (pc := 16) (v := 0) F dX10_carryGrains_16 ic_0 ?_
      refine v_istore_n (pc := 17) (lv' := [(0, .ref (gA g 0)), (1, .int a1), (2, .int 0)]) F dX10_carryGrains_17 rfl (by decide) rfl ?_
      obtain ⟨x44, e45, hf⟩ := bnd_some hf
      refine tX10_carryGrains_18 (s0 := (h, 0)) F ?_ e45
      exact v_vret (pc := 127) F hr dX10_carryGrains_127 (Option.some.inj hf) (Nat.zero_le _)
    · have hf := ite_f hf c4
      refine V.sub (lv' := []) [] rfl ?_
      exact tX10_carryGrains_15 F hr hf
def fX10_needAhead_10 (h : ST)  : Option ((Unit ⊕ Nat)) :=
  some (.inr 2)
def fX10_needAhead (h : ST) (a1 : Int32) : Option ((Unit ⊕ Nat)) :=
  if a1 < 0 then
  fX10_needAhead_10 h 
  else
  if a1 ≤ 99 then
    some (.inl ())
    else
    fX10_needAhead_10 h 
set_option maxRecDepth 100000 in
set_option maxHeartbeats 4000000 in
theorem tX10_needAhead_10 {p : Program} {l : Launch} {e : Env} {s : State} {m : MethodId} {args : Array Value} {below : List Frame} {meth : Method} {c : Code} {g : GE} {B : Nat} {h : ST}  (F : Fx p s m args meth c cX10_needAhead 1 "DustParish" 395 g B)
    {y : (Unit ⊕ Nat)} (hr : meth.sig.returnType = none) (hT : l.stackTraces = false) (hex : ∀ x ∈ c.exceptionTable.toList, False) (hf : fX10_needAhead_10 h  = some y) : V p l e 8 1 s m args below meth c (vx_MQ below (QX KC 395 g (ocV y) h) (XX KC 395 g (ocV y) h) args s 1 (6 * 1) (WA 395 g)) KC 395 g B 1 0 h 10 [] [] := by
  unfold fX10_needAhead_10 at hf
  exact v_throw0 (pc := 10) (E := xIA) F hT xw_IA hex dX10_needAhead_10 dX10_needAhead_13 dX10_needAhead_14 dX10_needAhead_17 (congrArg ocV (Option.some.inj hf)) rfl (by decide) (Nat.le_of_ble_eq_true rfl) (by decide)
set_option maxRecDepth 100000 in
set_option maxHeartbeats 4000000 in
theorem kX10_needAhead {l : Launch} {g : GE} {B : Nat} {h : ST} {a1 : Int32} {y : (Unit ⊕ Nat)} (hT : l.stackTraces = false) (hf : fX10_needAhead h a1 = some y) : XT l yX10_needAhead cX10_needAhead 1 none 8 1 KC 395 g B [.int a1] h (ocV y) h := by
  refine XT.of pn_X10 (Nat.le_of_ble_eq_true rfl) ?_
  intro p e s m below meth c hr hex F
  have F : Fx p s m _ meth c cX10_needAhead 1 "DustParish" 395 g B := F
  refine V_lv (lv' := [(0, .int a1)]) rfl ?_
  unfold fX10_needAhead at hf
  refine v_iload_n (pc := 0) (j := 0) F dX10_needAhead_0 rfl rfl ?_
  refine v_if_lt (pc := 1) (tgt := 10) F dX10_needAhead_1 (by decide) (fun c1 => ?_) (fun c1 => ?_)
  · have hf := ite_t hf c1
    refine V.sub (lv' := []) [] rfl ?_
    exact tX10_needAhead_10 F hr hT hex hf
  · have hf := ite_f hf c1
    refine v_iload_n (pc := 4) (j := 0) F dX10_needAhead_4 rfl rfl ?_
    refine v_bipush (pc := 5) (v := 99) F dX10_needAhead_5 bp_99 ?_
    refine v_icmp_le (pc := 7) (tgt := 18) F dX10_needAhead_7 (by decide) (fun c2 => ?_) (fun c2 => ?_)
    · have hf := ite_t hf c2
      exact v_xvret (pc := 18) F hr dX10_needAhead_18 (Option.some.inj hf) rfl (by decide)
    · have hf := ite_f hf c2
      refine V.sub (lv' := []) [] rfl ?_
      exact tX10_needAhead_10 F hr hT hex hf
def fX8_copy (h : ST) (o : Nat) (o1 : Nat) : Option (ST) :=
  bnd (pw h o 0 (h o1 0)) fun h1 =>
  bnd (pw h1 o 1 (h1 o1 1)) fun h3 =>
  bnd (pw h3 o 2 (h3 o1 2)) fun h5 =>
  bnd (acp 9 9 h5 (o1 + 1) (o + 1) 0 0 9) fun h7 =>
  bnd (acp 9 9 h7 (o1 + 2) (o + 2) 0 0 9) fun h9 =>
  bnd (acp 10 10 h9 (o1 + 3) (o + 3) 0 0 10) fun h11 =>
  some h11
set_option maxRecDepth 100000 in
set_option maxHeartbeats 4000000 in
theorem kX8_copy {l : Launch} {g : GE} {B : Nat} {h : ST} {o : Nat} (ho_o : o < 395) (hk_o : KC o = (7, 0)) {o1 : Nat} (ho_o1 : o1 < 395) (hk_o1 : KC o1 = (7, 0)) {y : ST} (hf : fX8_copy h o o1 = some y) : CT l yX8_copy cX8_copy 2 none 1 KC 395 g B [.ref (gA g o), .ref (gA g o1)] h none y := by
  refine CT.of pn_X8 (Nat.le_of_ble_eq_true rfl) ?_
  intro p e s m below meth c hr F
  have F : Fx p s m _ meth c cX8_copy 2 "DustParish$State" 395 g B := F
  refine V_lv (lv' := [(0, .ref (gA g o)), (1, .ref (gA g o1))]) rfl ?_
  unfold fX8_copy at hf
  refine v_aload_n (pc := 0) (j := 0) F dX8_copy_0 rfl rfl ?_
  refine v_aload_n (pc := 1) (j := 1) F dX8_copy_1 rfl rfl ?_
  refine v_ifl (pc := 2) F fl_X8_21 dX8_copy_2 ho_o1 hk_o1 fv_7_0 ?_
  obtain ⟨h1, e2, hf⟩ := bnd_some hf
  refine v_pfl (pc := 5) F fl_X8_21 pl_7_0 dX8_copy_5 ho_o hk_o fv_7_0 rfl rfl e2 ?_
  refine v_aload_n (pc := 8) (j := 0) F dX8_copy_8 rfl rfl ?_
  refine v_aload_n (pc := 9) (j := 1) F dX8_copy_9 rfl rfl ?_
  refine v_ifl (pc := 10) F fl_X8_25 dX8_copy_10 ho_o1 hk_o1 fv_7_1 ?_
  obtain ⟨h3, e4, hf⟩ := bnd_some hf
  refine v_pfl (pc := 13) F fl_X8_25 pl_7_1 dX8_copy_13 ho_o hk_o fv_7_1 rfl rfl e4 ?_
  refine v_aload_n (pc := 16) (j := 0) F dX8_copy_16 rfl rfl ?_
  refine v_aload_n (pc := 17) (j := 1) F dX8_copy_17 rfl rfl ?_
  refine v_ifl (pc := 18) F fl_X8_28 dX8_copy_18 ho_o1 hk_o1 fv_7_2 ?_
  obtain ⟨h5, e6, hf⟩ := bnd_some hf
  refine v_pfl (pc := 21) F fl_X8_28 pl_7_2 dX8_copy_21 ho_o hk_o fv_7_2 rfl rfl e6 ?_
  refine v_aload_n (pc := 24) (j := 1) F dX8_copy_24 rfl rfl ?_
  refine v_ifl (pc := 25) F fl_X8_9 dX8_copy_25 ho_o1 hk_o1 fv_7_3 ?_
  refine v_iconst (pc := 28) (v := 0) F dX8_copy_28 ic_0 ?_
  refine v_aload_n (pc := 29) (j := 0) F dX8_copy_29 rfl rfl ?_
  refine v_ifl (pc := 30) F fl_X8_9 dX8_copy_30 ho_o hk_o fv_7_3 ?_
  refine v_iconst (pc := 33) (v := 0) F dX8_copy_33 ic_0 ?_
  refine v_bipush (pc := 34) (v := 9) F dX8_copy_34 bp_9 ?_
  obtain ⟨h7, e8, hf⟩ := bnd_some hf
  refine v_copy (pc := 36) F tw_453 acpW dX8_copy_36 (ly_7_3 ho_o1 hk_o1).1 (ly_7_3 ho_o1 hk_o1).2 (ly_7_3 ho_o hk_o).1 (ly_7_3 ho_o hk_o).2 e8 (by decide) (Nat.le_of_ble_eq_true rfl) ?_
  refine v_aload_n (pc := 39) (j := 1) F dX8_copy_39 rfl rfl ?_
  refine v_ifl (pc := 40) F fl_X8_15 dX8_copy_40 ho_o1 hk_o1 fv_7_4 ?_
  refine v_iconst (pc := 43) (v := 0) F dX8_copy_43 ic_0 ?_
  refine v_aload_n (pc := 44) (j := 0) F dX8_copy_44 rfl rfl ?_
  refine v_ifl (pc := 45) F fl_X8_15 dX8_copy_45 ho_o hk_o fv_7_4 ?_
  refine v_iconst (pc := 48) (v := 0) F dX8_copy_48 ic_0 ?_
  refine v_bipush (pc := 49) (v := 9) F dX8_copy_49 bp_9 ?_
  obtain ⟨h9, e10, hf⟩ := bnd_some hf
  refine v_copy (pc := 51) F tw_453 acpW dX8_copy_51 (ly_7_4 ho_o1 hk_o1).1 (ly_7_4 ho_o1 hk_o1).2 (ly_7_4 ho_o hk_o).1 (ly_7_4 ho_o hk_o).2 e10 (by decide) (Nat.le_of_ble_eq_true rfl) ?_
  refine v_aload_n (pc := 54) (j := 1) F dX8_copy_54 rfl rfl ?_
  refine v_ifl (pc := 55) F fl_X8_18 dX8_copy_55 ho_o1 hk_o1 fv_7_5 ?_
  refine v_iconst (pc := 58) (v := 0) F dX8_copy_58 ic_0 ?_
  refine v_aload_n (pc := 59) (j := 0) F dX8_copy_59 rfl rfl ?_
  refine v_ifl (pc := 60) F fl_X8_18 dX8_copy_60 ho_o hk_o fv_7_5 ?_
  refine v_iconst (pc := 63) (v := 0) F dX8_copy_63 ic_0 ?_
  refine v_bipush (pc := 64) (v := 10) F dX8_copy_64 bp_10 ?_
  obtain ⟨h11, e12, hf⟩ := bnd_some hf
  refine v_copy (pc := 66) F tw_453 acpW dX8_copy_66 (ly_7_5 ho_o1 hk_o1).1 (ly_7_5 ho_o1 hk_o1).2 (ly_7_5 ho_o hk_o).1 (ly_7_5 ho_o hk_o).2 e12 (by decide) (Nat.le_of_ble_eq_true rfl) ?_
  exact v_vret (pc := 69) F hr dX8_copy_69 (Option.some.inj hf) (Nat.zero_le _)
def fX1_windOf_26 (h : ST) (q0 : Int32) : Option (Int32) :=
  some q0
def fX1_windOf_25 (h : ST)  : Option (Int32) :=
  fX1_windOf_26 h 5
def fX1_windOf (h : ST) (o1 : Nat) (o2 : Nat) (a3 : Int32) : Option (Int32) :=
  if (h o1 13) ≤ 0 then
  fX1_windOf_25 h 
  else
  if a3 < 0 then
    fX1_windOf_25 h 
    else
    grd (¬ (h o1 13) = 0) (
      bnd (rd 10 (h (o2 + 3)) (a3 - a3 / (h o1 13) * (h o1 13))) fun v4 =>
      fX1_windOf_26 h v4)
set_option maxRecDepth 100000 in
set_option maxHeartbeats 4000000 in
theorem tX1_windOf_26 {p : Program} {l : Launch} {e : Env} {s : State} {m : MethodId} {args : Array Value} {below : List Frame} {meth : Method} {c : Code} {g : GE} {B : Nat} {h : ST}  {q0 : Int32} (F : Fx p s m args meth c cX1_windOf 3 "DustParish$Course" 395 g B)
    {y : Int32} (hr : meth.sig.returnType = (some .int)) (hf : fX1_windOf_26 h q0 = some y) : V p l e 1 0 s m args below meth c (MQ below (QO KC 395 g (some (.int y)) h) args s 0 (6 * 0) (WA 395 g)) KC 395 g B 3 0 h 26 [] [.int q0] := by
  unfold fX1_windOf_26 at hf
  exact v_iret (pc := 26) F hr dX1_windOf_26 (Option.some.inj hf) rfl (Nat.zero_le _)
set_option maxRecDepth 100000 in
set_option maxHeartbeats 4000000 in
theorem tX1_windOf_25 {p : Program} {l : Launch} {e : Env} {s : State} {m : MethodId} {args : Array Value} {below : List Frame} {meth : Method} {c : Code} {g : GE} {B : Nat} {h : ST}  (F : Fx p s m args meth c cX1_windOf 3 "DustParish$Course" 395 g B)
    {y : Int32} (hr : meth.sig.returnType = (some .int)) (hf : fX1_windOf_25 h  = some y) : V p l e 1 0 s m args below meth c (MQ below (QO KC 395 g (some (.int y)) h) args s 0 (6 * 0) (WA 395 g)) KC 395 g B 3 0 h 25 [] [] := by
  unfold fX1_windOf_25 at hf
  refine v_iconst (pc := 25) (v := 5) F dX1_windOf_25 ic_5 ?_
  exact tX1_windOf_26 F hr hf
set_option maxRecDepth 100000 in
set_option maxHeartbeats 4000000 in
theorem kX1_windOf {l : Launch} {g : GE} {B : Nat} {h : ST} {o1 : Nat} (ho_o1 : o1 < 395) (hk_o1 : KC o1 = (1, 0)) {o2 : Nat} (ho_o2 : o2 < 395) (hk_o2 : KC o2 = (7, 0)) {a3 : Int32} {y : Int32} (hf : fX1_windOf h o1 o2 a3 = some y) : CT l yX1_windOf cX1_windOf 3 (some .int) 1 KC 395 g B [.ref (gA g o1), .ref (gA g o2), .int a3] h (some (.int y)) h := by
  refine CT.of pn_X1 (Nat.le_of_ble_eq_true rfl) ?_
  intro p e s m below meth c hr F
  have F : Fx p s m _ meth c cX1_windOf 3 "DustParish$Course" 395 g B := F
  refine V_lv (lv' := [(0, .ref (gA g o1)), (1, .ref (gA g o2)), (2, .int a3)]) rfl ?_
  unfold fX1_windOf at hf
  refine v_aload_n (pc := 0) (j := 0) F dX1_windOf_0 rfl rfl ?_
  refine v_ifl (pc := 1) F fl_X1_9 dX1_windOf_1 ho_o1 hk_o1 fv_1_13 ?_
  refine v_if_le (pc := 4) (tgt := 25) F dX1_windOf_4 (by decide) (fun c1 => ?_) (fun c1 => ?_)
  · have hf := ite_t hf c1
    refine V.sub (lv' := []) [] rfl ?_
    exact tX1_windOf_25 F hr hf
  · have hf := ite_f hf c1
    refine v_iload_n (pc := 7) (j := 2) F dX1_windOf_7 rfl rfl ?_
    refine v_if_lt (pc := 8) (tgt := 25) F dX1_windOf_8 (by decide) (fun c2 => ?_) (fun c2 => ?_)
    · have hf := ite_t hf c2
      refine V.sub (lv' := []) [] rfl ?_
      exact tX1_windOf_25 F hr hf
    · have hf := ite_f hf c2
      refine v_aload_n (pc := 11) (j := 1) F dX1_windOf_11 rfl rfl ?_
      refine v_ifl (pc := 12) F fl_X1_15 dX1_windOf_12 ho_o2 hk_o2 fv_7_5 ?_
      refine v_iload_n (pc := 15) (j := 2) F dX1_windOf_15 rfl rfl ?_
      refine v_aload_n (pc := 16) (j := 0) F dX1_windOf_16 rfl rfl ?_
      refine v_ifl (pc := 17) F fl_X1_9 dX1_windOf_17 ho_o1 hk_o1 fv_1_13 ?_
      obtain ⟨g3, hf⟩ := grd_some hf
      refine v_irem (pc := 20) F dX1_windOf_20 g3 ?_
      obtain ⟨v4, e5, hf⟩ := bnd_some hf
      refine v_iald (pc := 21) F dX1_windOf_21 (ly_7_5 ho_o2 hk_o2).1 (ly_7_5 ho_o2 hk_o2).2 e5 ?_
      refine v_goto (pc := 22) (tgt := 26) F dX1_windOf_22 (by decide) ?_
      refine V.sub (lv' := []) [] rfl ?_
      exact tX1_windOf_26 F hr hf
def fX2_comesTo_27 (h : ST) (q0 : Int32) : Option (Int32) :=
  some q0
def fX2_comesTo (h : ST) (o : Nat) (a1 : Int32) : Option (Int32) :=
  bnd (rd 9 (h (o + 1)) a1) fun v1 =>
  if v1 = 2 then
  bnd (rd 9 (h (o + 4)) a1) fun v6 =>
    fX2_comesTo_27 h (2 * v6)
  else
  bnd (rd 9 (h (o + 4)) a1) fun v4 =>
    fX2_comesTo_27 h v4
set_option maxRecDepth 100000 in
set_option maxHeartbeats 4000000 in
theorem tX2_comesTo_27 {p : Program} {l : Launch} {e : Env} {s : State} {m : MethodId} {args : Array Value} {below : List Frame} {meth : Method} {c : Code} {g : GE} {B : Nat} {h : ST}  {q0 : Int32} (F : Fx p s m args meth c cX2_comesTo 2 "DustParish$Facts" 395 g B)
    {y : Int32} (hr : meth.sig.returnType = (some .int)) (hf : fX2_comesTo_27 h q0 = some y) : V p l e 1 0 s m args below meth c (MQ below (QO KC 395 g (some (.int y)) h) args s 0 (6 * 0) (WA 395 g)) KC 395 g B 2 0 h 27 [] [.int q0] := by
  unfold fX2_comesTo_27 at hf
  exact v_iret (pc := 27) F hr dX2_comesTo_27 (Option.some.inj hf) rfl (Nat.zero_le _)
set_option maxRecDepth 100000 in
set_option maxHeartbeats 4000000 in
theorem kX2_comesTo {l : Launch} {g : GE} {B : Nat} {h : ST} {o : Nat} (ho_o : o < 395) (hk_o : KC o = (1, 0)) {a1 : Int32} {y : Int32} (hf : fX2_comesTo h o a1 = some y) : CT l yX2_comesTo cX2_comesTo 2 (some .int) 1 KC 395 g B [.ref (gA g o), .int a1] h (some (.int y)) h := by
  refine CT.of pn_X2 (Nat.le_of_ble_eq_true rfl) ?_
  intro p e s m below meth c hr F
  have F : Fx p s m _ meth c cX2_comesTo 2 "DustParish$Facts" 395 g B := F
  refine V_lv (lv' := [(0, .ref (gA g o)), (1, .int a1)]) rfl ?_
  unfold fX2_comesTo at hf
  refine v_aload_n (pc := 0) (j := 0) F dX2_comesTo_0 rfl rfl ?_
  refine v_ifl (pc := 1) F fl_X2_9 dX2_comesTo_1 ho_o hk_o fv_1_1 ?_
  refine v_iload_n (pc := 4) (j := 1) F dX2_comesTo_4 rfl rfl ?_
  obtain ⟨v1, e2, hf⟩ := bnd_some hf
  refine v_iald (pc := 5) F dX2_comesTo_5 (ly_1_1 ho_o hk_o).1 (ly_1_1 ho_o hk_o).2 e2 ?_
  refine v_iconst (pc := 6) (v := 2) F dX2_comesTo_6 ic_2 ?_
  refine v_icmp_ne (pc := 7) (tgt := 21) F dX2_comesTo_7 (by decide) (fun c3 => ?_) (fun c3 => ?_)
  · have hf := ite_f hf c3
    refine v_aload_n (pc := 21) (j := 0) F dX2_comesTo_21 rfl rfl ?_
    refine v_ifl (pc := 22) F fl_X2_21 dX2_comesTo_22 ho_o hk_o fv_1_4 ?_
    refine v_iload_n (pc := 25) (j := 1) F dX2_comesTo_25 rfl rfl ?_
    obtain ⟨v4, e5, hf⟩ := bnd_some hf
    refine v_iald (pc := 26) F dX2_comesTo_26 (ly_1_4 ho_o hk_o).1 (ly_1_4 ho_o hk_o).2 e5 ?_
    refine V.sub (lv' := []) [] rfl ?_
    exact tX2_comesTo_27 F hr hf
  · have hf := ite_t hf c3
    refine v_iconst (pc := 10) (v := 2) F dX2_comesTo_10 ic_2 ?_
    refine v_aload_n (pc := 11) (j := 0) F dX2_comesTo_11 rfl rfl ?_
    refine v_ifl (pc := 12) F fl_X2_21 dX2_comesTo_12 ho_o hk_o fv_1_4 ?_
    refine v_iload_n (pc := 15) (j := 1) F dX2_comesTo_15 rfl rfl ?_
    obtain ⟨v6, e7, hf⟩ := bnd_some hf
    refine v_iald (pc := 16) F dX2_comesTo_16 (ly_1_4 ho_o hk_o).1 (ly_1_4 ho_o hk_o).2 e7 ?_
    refine v_imul (pc := 17) F dX2_comesTo_17 ?_
    refine v_goto (pc := 18) (tgt := 27) F dX2_comesTo_18 (by decide) ?_
    refine V.sub (lv' := []) [] rfl ?_
    exact tX2_comesTo_27 F hr hf
def fX8_lay (h : ST) (o : Nat) (a1 : Int32) (a2 : Int32) : Option (ST) :=
  bnd (rd 9 (h (o + 1)) a1) fun v1 =>
  bnd (wr 9 h (o + 1) a1 (if (v1 + a2) < 9999 then (v1 + a2) else 9999)) fun h3 =>
  some h3
set_option maxRecDepth 100000 in
set_option maxHeartbeats 4000000 in
theorem kX8_lay {l : Launch} {g : GE} {B : Nat} {h : ST} {o : Nat} (ho_o : o < 395) (hk_o : KC o = (7, 0)) {a1 : Int32} {a2 : Int32} {y : ST} (hf : fX8_lay h o a1 a2 = some y) : CT l yX8_lay cX8_lay 3 none 1 KC 395 g B [.ref (gA g o), .int a1, .int a2] h none y := by
  refine CT.of pn_X8 (Nat.le_of_ble_eq_true rfl) ?_
  intro p e s m below meth c hr F
  have F : Fx p s m _ meth c cX8_lay 3 "DustParish$State" 395 g B := F
  refine V_lv (lv' := [(0, .ref (gA g o)), (1, .int a1), (2, .int a2)]) rfl ?_
  unfold fX8_lay at hf
  refine v_aload_n (pc := 0) (j := 0) F dX8_lay_0 rfl rfl ?_
  refine v_ifl (pc := 1) F fl_X8_9 dX8_lay_1 ho_o hk_o fv_7_3 ?_
  refine v_iload_n (pc := 4) (j := 1) F dX8_lay_4 rfl rfl ?_
  refine v_sipush (pc := 5) (v := 9999) F dX8_lay_5 sp_9999 ?_
  refine v_aload_n (pc := 8) (j := 0) F dX8_lay_8 rfl rfl ?_
  refine v_ifl (pc := 9) F fl_X8_9 dX8_lay_9 ho_o hk_o fv_7_3 ?_
  refine v_iload_n (pc := 12) (j := 1) F dX8_lay_12 rfl rfl ?_
  obtain ⟨v1, e2, hf⟩ := bnd_some hf
  refine v_iald (pc := 13) F dX8_lay_13 (ly_7_3 ho_o hk_o).1 (ly_7_3 ho_o hk_o).2 e2 ?_
  refine v_iload_n (pc := 14) (j := 2) F dX8_lay_14 rfl rfl ?_
  refine v_iadd (pc := 15) F dX8_lay_15 ?_
  refine v_mmin (pc := 16) F tw_473 mminW dX8_lay_16 (by decide) (Nat.le_of_ble_eq_true rfl) (Nat.zero_le _) ?_
  obtain ⟨h3, e4, hf⟩ := bnd_some hf
  refine v_iast (pc := 19) F dX8_lay_19 (ly_7_3 ho_o hk_o).1 (ly_7_3 ho_o hk_o).2 e4 ?_
  exact v_vret (pc := 20) F hr dX8_lay_20 (Option.some.inj hf) (Nat.zero_le _)
def fX1_carry_2 (o1 : Nat) (o2 : Nat) (l2 : Int32) (s1 : (ST × Int32)) : Option ((ST × Int32) ⊕ ST) :=
  bnd (rd 5 (s1.1 (o1 + 7)) l2) fun v1 =>
  if v1 ≤ s1.2 then
  some (.inr s1.1)
  else
  bnd (rd 40 (s1.1 (o1 + 8)) ((l2 * 8) + s1.2)) fun v4 =>
    bnd (rd 9 (s1.1 (o2 + 1)) v4) fun v6 =>
    bnd (rd 40 (s1.1 (o1 + 10)) ((l2 * 8) + s1.2)) fun v8 =>
    bnd (rd 40 (s1.1 (o1 + 8)) ((l2 * 8) + s1.2)) fun v10 =>
    bnd (rd 9 (s1.1 (o2 + 1)) v10) fun v12 =>
    bnd (wr 9 s1.1 (o2 + 1) v10 (v12 - ((v6 * v8) / 10))) fun h14 =>
    bnd (rd 40 (h14 (o1 + 9)) ((l2 * 8) + s1.2)) fun v16 =>
    bnd (rd 40 (h14 (o1 + 9)) ((l2 * 8) + s1.2)) fun v18 =>
    bnd (fX2_arrives h14 o1 v18 ((v6 * v8) / 10)) fun r20 =>
    bnd (fX8_lay h14 o2 v16 r20) fun r22 =>
    some (.inl (r22, s1.2 + 1))
def fX1_carry (h : ST) (o1 : Nat) (o2 : Nat) (a3 : Int32) : Option (ST) :=
  bnd (lp FU (fX1_carry_2 o1 o2 a3) (h, 0)) fun x24 =>
  some x24
set_option maxRecDepth 100000 in
set_option maxHeartbeats 4000000 in
theorem tX1_carry_2 {p : Program} {l : Launch} {e : Env} {s : State} {m : MethodId} {args : Array Value} {below : List Frame} {meth : Method} {c : Code} {g : GE} {B : Nat}  {o1 : Nat} (ho_o1 : o1 < 395) (hk_o1 : KC o1 = (1, 0)) {o2 : Nat} (ho_o2 : o2 < 395) (hk_o2 : KC o2 = (7, 0)) {l2 : Int32} {Q : State → Prop} {x : ST} {nf : Nat} {s0 : (ST × Int32)} (F : Fx p s m args meth c cX1_carry 6 "DustParish$Course" 395 g B) (hX0 : V p l e 2 0 s m args below meth c Q KC 395 g B 6 0 x 92 [] []) (hl : lp nf (fX1_carry_2 o1 o2 l2) s0 = some x) : V p l e 2 0 s m args below meth c Q KC 395 g B 6 0 s0.1 2 [(0, .ref (gA g o1)), (1, .ref (gA g o2)), (2, .int l2), (3, .int s0.2)] [] := by
  refine lp_ind (P := fun s0 => V p l e 2 0 s m args below meth c Q KC 395 g B 6 0 s0.1 2 [(0, .ref (gA g o1)), (1, .ref (gA g o2)), (2, .int l2), (3, .int s0.2)] []) ?_ nf s0 hl
  intro s1 y hf hk hx
  have hx0 : ∀ v : ST, y = Sum.inr v → V p l e 2 0 s m args below meth c Q KC 395 g B 6 0 v 92 [] [] := fun v e9 => by rw [hx v e9]; exact hX0
  unfold fX1_carry_2 at hf
  refine v_iload_n (pc := 2) (j := 3) F dX1_carry_2 rfl rfl ?_
  refine v_aload_n (pc := 3) (j := 0) F dX1_carry_3 rfl rfl ?_
  refine v_ifl (pc := 4) F fl_X1_59 dX1_carry_4 ho_o1 hk_o1 fv_1_9 ?_
  refine v_iload_n (pc := 7) (j := 2) F dX1_carry_7 rfl rfl ?_
  obtain ⟨v1, e2, hf⟩ := bnd_some hf
  refine v_iald (pc := 8) F dX1_carry_8 (ly_1_9 ho_o1 hk_o1).1 (ly_1_9 ho_o1 hk_o1).2 e2 ?_
  refine v_icmp_ge (pc := 9) (tgt := 92) F dX1_carry_9 (by decide) (fun c3 => ?_) (fun c3 => ?_)
  · have hf := ite_t hf c3
    refine V.sub (lv' := []) [] rfl ?_
    exact hx0 s1.1 (Option.some.inj hf).symm
  · have hf := ite_f hf c3
    refine v_iload_n (pc := 12) (j := 2) F dX1_carry_12 rfl rfl ?_
    refine v_bipush (pc := 13) (v := 8) F dX1_carry_13 bp_8 ?_
    refine v_imul (pc := 15) F dX1_carry_15 ?_
    refine v_iload_n (pc := 16) (j := 3) F dX1_carry_16 rfl rfl ?_
    refine v_iadd (pc := 17) F dX1_carry_17 ?_
    refine v_istore (pc := 18) (lv' := [(0, .ref (gA g o1)), (1, .ref (gA g o2)), (2, .int l2), (3, .int s1.2), (4, .int ((l2 * 8) + s1.2))]) F dX1_carry_18 (by decide) rfl ?_
    refine v_aload_n (pc := 20) (j := 1) F dX1_carry_20 rfl rfl ?_
    refine v_ifl (pc := 21) F fl_X1_62 dX1_carry_21 ho_o2 hk_o2 fv_7_3 ?_
    refine v_aload_n (pc := 24) (j := 0) F dX1_carry_24 rfl rfl ?_
    refine v_ifl (pc := 25) F fl_X1_65 dX1_carry_25 ho_o1 hk_o1 fv_1_10 ?_
    refine v_iload (pc := 28) (j := 4) F dX1_carry_28 rfl ?_
    obtain ⟨v4, e5, hf⟩ := bnd_some hf
    refine v_iald (pc := 30) F dX1_carry_30 (ly_1_10 ho_o1 hk_o1).1 (ly_1_10 ho_o1 hk_o1).2 e5 ?_
    obtain ⟨v6, e7, hf⟩ := bnd_some hf
    refine v_iald (pc := 31) F dX1_carry_31 (ly_7_3 ho_o2 hk_o2).1 (ly_7_3 ho_o2 hk_o2).2 e7 ?_
    refine v_aload_n (pc := 32) (j := 0) F dX1_carry_32 rfl rfl ?_
    refine v_ifl (pc := 33) F fl_X1_68 dX1_carry_33 ho_o1 hk_o1 fv_1_12 ?_
    refine v_iload (pc := 36) (j := 4) F dX1_carry_36 rfl ?_
    obtain ⟨v8, e9, hf⟩ := bnd_some hf
    refine v_iald (pc := 38) F dX1_carry_38 (ly_1_12 ho_o1 hk_o1).1 (ly_1_12 ho_o1 hk_o1).2 e9 ?_
    refine v_imul (pc := 39) F dX1_carry_39 ?_
    refine v_bipush (pc := 40) (v := 10) F dX1_carry_40 bp_10 ?_
    refine v_idiv (pc := 42) F dX1_carry_42 (by decide) ?_
    refine v_istore (pc := 43) (lv' := [(0, .ref (gA g o1)), (1, .ref (gA g o2)), (2, .int l2), (3, .int s1.2), (4, .int ((l2 * 8) + s1.2)), (5, .int ((v6 * v8) / 10))]) F dX1_carry_43 (by decide) rfl ?_
    refine v_aload_n (pc := 45) (j := 1) F dX1_carry_45 rfl rfl ?_
    refine v_ifl (pc := 46) F fl_X1_62 dX1_carry_46 ho_o2 hk_o2 fv_7_3 ?_
    refine v_aload_n (pc := 49) (j := 0) F dX1_carry_49 rfl rfl ?_
    refine v_ifl (pc := 50) F fl_X1_65 dX1_carry_50 ho_o1 hk_o1 fv_1_10 ?_
    refine v_iload (pc := 53) (j := 4) F dX1_carry_53 rfl ?_
    obtain ⟨v10, e11, hf⟩ := bnd_some hf
    refine v_iald (pc := 55) F dX1_carry_55 (ly_1_10 ho_o1 hk_o1).1 (ly_1_10 ho_o1 hk_o1).2 e11 ?_
    refine v_dup2_11 (pc := 56) F dX1_carry_56 rfl rfl ?_
    obtain ⟨v12, e13, hf⟩ := bnd_some hf
    refine v_iald (pc := 57) F dX1_carry_57 (ly_7_3 ho_o2 hk_o2).1 (ly_7_3 ho_o2 hk_o2).2 e13 ?_
    refine v_iload (pc := 58) (j := 5) F dX1_carry_58 rfl ?_
    refine v_isub (pc := 60) F dX1_carry_60 ?_
    obtain ⟨h14, e15, hf⟩ := bnd_some hf
    refine v_iast (pc := 61) F dX1_carry_61 (ly_7_3 ho_o2 hk_o2).1 (ly_7_3 ho_o2 hk_o2).2 e15 ?_
    refine v_aload_n (pc := 62) (j := 1) F dX1_carry_62 rfl rfl ?_
    refine v_aload_n (pc := 63) (j := 0) F dX1_carry_63 rfl rfl ?_
    refine v_ifl (pc := 64) F fl_X1_71 dX1_carry_64 ho_o1 hk_o1 fv_1_11 ?_
    refine v_iload (pc := 67) (j := 4) F dX1_carry_67 rfl ?_
    obtain ⟨v16, e17, hf⟩ := bnd_some hf
    refine v_iald (pc := 69) F dX1_carry_69 (ly_1_11 ho_o1 hk_o1).1 (ly_1_11 ho_o1 hk_o1).2 e17 ?_
    refine v_aload_n (pc := 70) (j := 0) F dX1_carry_70 rfl rfl ?_
    refine v_aload_n (pc := 71) (j := 0) F dX1_carry_71 rfl rfl ?_
    refine v_ifl (pc := 72) F fl_X1_71 dX1_carry_72 ho_o1 hk_o1 fv_1_11 ?_
    refine v_iload (pc := 75) (j := 4) F dX1_carry_75 rfl ?_
    obtain ⟨v18, e19, hf⟩ := bnd_some hf
    refine v_iald (pc := 77) F dX1_carry_77 (ly_1_11 ho_o1 hk_o1).1 (ly_1_11 ho_o1 hk_o1).2 e19 ?_
    refine v_iload (pc := 78) (j := 5) F dX1_carry_78 rfl ?_
    obtain ⟨r20, e21, hf⟩ := bnd_some hf
    refine v_callVi (pc := 80) (As := [.int v18, .int ((v6 * v8) / 10)]) F cl_X1_74 dX1_carry_80 (kX2_arrives ho_o1 hk_o1 e21) ho_o1 hk_o1 rc_1 rfl rfl (Nat.le_of_ble_eq_true rfl) (by decide) (Nat.zero_le _) ?_
    obtain ⟨r22, e23, hf⟩ := bnd_some hf
    refine v_callVv (pc := 83) (As := [.int v16, .int r20]) F cl_X1_44 dX1_carry_83 (kX8_lay ho_o2 hk_o2 e23) ho_o2 hk_o2 rc_7 rfl rfl (Nat.le_of_ble_eq_true rfl) (by decide) (Nat.zero_le _) ?_
    refine v_iinc (pc := 86) (j := 3) (v := s1.2 + 1) (lv' := [(0, .ref (gA g o1)), (1, .ref (gA g o2)), (2, .int l2), (3, .int (s1.2 + 1)), (4, .int ((l2 * 8) + s1.2)), (5, .int ((v6 * v8) / 10))]) F dX1_carry_86 rfl (congrArg (fun z => s1.2 + z) ic_1) (by decide) rfl ?_
    refine v_goto (pc := 89) (tgt := 2) F dX1_carry_89 (by decide) ?_
    refine V.sub (lv' := [(0, .ref (gA g o1)), (1, .ref (gA g o2)), (2, .int l2), (3, .int (s1.2 + 1))]) [0, 1, 2, 3] rfl ?_
    exact hk (r22, s1.2 + 1) (Option.some.inj hf).symm
set_option maxRecDepth 100000 in
set_option maxHeartbeats 4000000 in
theorem kX1_carry {l : Launch} {g : GE} {B : Nat} {h : ST} {o1 : Nat} (ho_o1 : o1 < 395) (hk_o1 : KC o1 = (1, 0)) {o2 : Nat} (ho_o2 : o2 < 395) (hk_o2 : KC o2 = (7, 0)) {a3 : Int32} {y : ST} (hf : fX1_carry h o1 o2 a3 = some y) : CT l yX1_carry cX1_carry 6 none 2 KC 395 g B [.ref (gA g o1), .ref (gA g o2), .int a3] h none y := by
  refine CT.of pn_X1 (Nat.le_of_ble_eq_true rfl) ?_
  intro p e s m below meth c hr F
  have F : Fx p s m _ meth c cX1_carry 6 "DustParish$Course" 395 g B := F
  refine V_lv (lv' := [(0, .ref (gA g o1)), (1, .ref (gA g o2)), (2, .int a3)]) rfl ?_
  unfold fX1_carry at hf
  refine v_iconst (pc := 0) (v := 0) F dX1_carry_0 ic_0 ?_
  refine v_istore_n (pc := 1) (lv' := [(0, .ref (gA g o1)), (1, .ref (gA g o2)), (2, .int a3), (3, .int 0)]) F dX1_carry_1 rfl (by decide) rfl ?_
  obtain ⟨x24, e25, hf⟩ := bnd_some hf
  refine tX1_carry_2 (s0 := (h, 0)) ho_o1 hk_o1 ho_o2 hk_o2 F ?_ e25
  exact v_vret (pc := 92) F hr dX1_carry_92 (Option.some.inj hf) (Nat.zero_le _)
def fX5_isEmpty_12 (h : ST) (q0 : Int32) : Option (Int32) :=
  bnd (zb q0) fun z2 =>
  some z2
def fX5_isEmpty (h : ST) (o : Nat) : Option (Int32) :=
  if (h o 1) = 0 then
  fX5_isEmpty_12 h 1
  else
  fX5_isEmpty_12 h 0
set_option maxRecDepth 100000 in
set_option maxHeartbeats 4000000 in
theorem tX5_isEmpty_12 {p : Program} {l : Launch} {e : Env} {s : State} {m : MethodId} {args : Array Value} {below : List Frame} {meth : Method} {c : Code} {g : GE} {B : Nat} {h : ST}  {q0 : Int32} (F : Fx p s m args meth c cX5_isEmpty 1 "DustParish$Rule" 395 g B)
    {y : Int32} (hr : meth.sig.returnType = (some .boolean)) (hf : fX5_isEmpty_12 h q0 = some y) : V p l e 1 0 s m args below meth c (MQ below (QO KC 395 g (some (.int y)) h) args s 0 (6 * 0) (WA 395 g)) KC 395 g B 1 0 h 12 [] [.int q0] := by
  unfold fX5_isEmpty_12 at hf
  obtain ⟨z2, e3, hf⟩ := bnd_some hf
  exact v_zret (pc := 12) F hr dX5_isEmpty_12 (zb_in e3).2 ((zb_in e3).1.symm.trans (Option.some.inj hf)) rfl (Nat.zero_le _)
set_option maxRecDepth 100000 in
set_option maxHeartbeats 4000000 in
theorem kX5_isEmpty {l : Launch} {g : GE} {B : Nat} {h : ST} {o : Nat} (ho_o : o < 395) (hk_o : KC o = (4, 0)) {y : Int32} (hf : fX5_isEmpty h o = some y) : CT l yX5_isEmpty cX5_isEmpty 1 (some .boolean) 1 KC 395 g B [.ref (gA g o)] h (some (.int y)) h := by
  refine CT.of pn_X5 (Nat.le_of_ble_eq_true rfl) ?_
  intro p e s m below meth c hr F
  have F : Fx p s m _ meth c cX5_isEmpty 1 "DustParish$Rule" 395 g B := F
  refine V_lv (lv' := [(0, .ref (gA g o))]) rfl ?_
  unfold fX5_isEmpty at hf
  refine v_aload_n (pc := 0) (j := 0) F dX5_isEmpty_0 rfl rfl ?_
  refine v_ifl (pc := 1) F fl_X5_15 dX5_isEmpty_1 ho_o hk_o fv_4_1 ?_
  refine v_if_ne (pc := 4) (tgt := 11) F dX5_isEmpty_4 (by decide) (fun c1 => ?_) (fun c1 => ?_)
  · have hf := ite_f hf c1
    refine v_iconst (pc := 11) (v := 0) F dX5_isEmpty_11 ic_0 ?_
    refine V.sub (lv' := []) [] rfl ?_
    exact tX5_isEmpty_12 F hr hf
  · have hf := ite_t hf c1
    refine v_iconst (pc := 7) (v := 1) F dX5_isEmpty_7 ic_1 ?_
    refine v_goto (pc := 8) (tgt := 12) F dX5_isEmpty_8 (by decide) ?_
    refine V.sub (lv' := []) [] rfl ?_
    exact tX5_isEmpty_12 F hr hf
def fX5_join_107 (h : ST) (q0 : Int32) : Option (Int32) :=
  some q0
def fX5_join_106 (h : ST)  : Option (Int32) :=
  fX5_join_107 h 0
def fX5_join_121 (h : ST) (q0 : Int32) : Option (Int32) :=
  some q0
def fX5_join_116 (h : ST)  : Option (Int32) :=
  fX5_join_121 h 1
def fX5_join_93 (h : ST) (q0 : Int32) : Option (Int32) :=
  some q0
def fX5_join_82 (h : ST) (q0 : Int32) : Option (Int32) :=
  some q0
def fX5_join_71 (h : ST) (q0 : Int32) : Option (Int32) :=
  some q0
def fX5_join (h : ST) (a1 : Int32) (a2 : Int32) (a3 : Int32) : Option (Int32) :=
  if a1 = (-14) then
  if a2 = 0 then
    fX5_join_106 h 
    else
    if a3 = 0 then
      fX5_join_106 h 
      else
      fX5_join_107 h 1
  else
  if a1 = (-13) then
  if a2 = 0 then
    if a3 = 0 then
      fX5_join_121 h 0
      else
      fX5_join_116 h 
    else
    fX5_join_116 h 
  else
  if a1 = (-12) then
  if a2 = a3 then
    fX5_join_93 h 1
    else
    fX5_join_93 h 0
  else
  if a1 = (-11) then
  if a3 ≤ a2 then
    fX5_join_82 h 0
    else
    fX5_join_82 h 1
  else
  if a1 = (-10) then
  if a3 = 0 then
    fX5_join_71 h 0
    else
    grd (¬ a3 = 0) (
      fX5_join_71 h (a2 / a3))
  else
  if a1 = (-9) then
  some (a2 * a3)
  else
  if a1 = (-8) then
  some (a2 - a3)
  else
  if a1 = (-7) then
  some (a2 + a3)
  else
  if a2 = 0 then
  if a3 = 0 then
    fX5_join_121 h 0
    else
    fX5_join_116 h 
  else
  fX5_join_116 h 
set_option maxRecDepth 100000 in
set_option maxHeartbeats 4000000 in
theorem tX5_join_107 {p : Program} {l : Launch} {e : Env} {s : State} {m : MethodId} {args : Array Value} {below : List Frame} {meth : Method} {c : Code} {g : GE} {B : Nat} {h : ST}  {q0 : Int32} (F : Fx p s m args meth c cX5_join 3 "DustParish$Rule" 395 g B)
    {y : Int32} (hr : meth.sig.returnType = (some .int)) (hf : fX5_join_107 h q0 = some y) : V p l e 1 0 s m args below meth c (MQ below (QO KC 395 g (some (.int y)) h) args s 0 (6 * 0) (WA 395 g)) KC 395 g B 3 0 h 107 [] [.int q0] := by
  unfold fX5_join_107 at hf
  exact v_iret (pc := 107) F hr dX5_join_107 (Option.some.inj hf) rfl (Nat.zero_le _)
set_option maxRecDepth 100000 in
set_option maxHeartbeats 4000000 in
theorem tX5_join_106 {p : Program} {l : Launch} {e : Env} {s : State} {m : MethodId} {args : Array Value} {below : List Frame} {meth : Method} {c : Code} {g : GE} {B : Nat} {h : ST}  (F : Fx p s m args meth c cX5_join 3 "DustParish$Rule" 395 g B)
    {y : Int32} (hr : meth.sig.returnType = (some .int)) (hf : fX5_join_106 h  = some y) : V p l e 1 0 s m args below meth c (MQ below (QO KC 395 g (some (.int y)) h) args s 0 (6 * 0) (WA 395 g)) KC 395 g B 3 0 h 106 [] [] := by
  unfold fX5_join_106 at hf
  refine v_iconst (pc := 106) (v := 0) F dX5_join_106 ic_0 ?_
  exact tX5_join_107 F hr hf
set_option maxRecDepth 100000 in
set_option maxHeartbeats 4000000 in
theorem tX5_join_121 {p : Program} {l : Launch} {e : Env} {s : State} {m : MethodId} {args : Array Value} {below : List Frame} {meth : Method} {c : Code} {g : GE} {B : Nat} {h : ST}  {q0 : Int32} (F : Fx p s m args meth c cX5_join 3 "DustParish$Rule" 395 g B)
    {y : Int32} (hr : meth.sig.returnType = (some .int)) (hf : fX5_join_121 h q0 = some y) : V p l e 1 0 s m args below meth c (MQ below (QO KC 395 g (some (.int y)) h) args s 0 (6 * 0) (WA 395 g)) KC 395 g B 3 0 h 121 [] [.int q0] := by
  unfold fX5_join_121 at hf
  exact v_iret (pc := 121) F hr dX5_join_121 (Option.some.inj hf) rfl (Nat.zero_le _)
set_option maxRecDepth 100000 in
set_option maxHeartbeats 4000000 in
theorem tX5_join_116 {p : Program} {l : Launch} {e : Env} {s : State} {m : MethodId} {args : Array Value} {below : List Frame} {meth : Method} {c : Code} {g : GE} {B : Nat} {h : ST}  (F : Fx p s m args meth c cX5_join 3 "DustParish$Rule" 395 g B)
    {y : Int32} (hr : meth.sig.returnType = (some .int)) (hf : fX5_join_116 h  = some y) : V p l e 1 0 s m args below meth c (MQ below (QO KC 395 g (some (.int y)) h) args s 0 (6 * 0) (WA 395 g)) KC 395 g B 3 0 h 116 [] [] := by
  unfold fX5_join_116 at hf
  refine v_iconst (pc := 116) (v := 1) F dX5_join_116 ic_1 ?_
  refine v_goto (pc := 117) (tgt := 121) F dX5_join_117 (by decide) ?_
  exact tX5_join_121 F hr hf
set_option maxRecDepth 100000 in
set_option maxHeartbeats 4000000 in
theorem tX5_join_93 {p : Program} {l : Launch} {e : Env} {s : State} {m : MethodId} {args : Array Value} {below : List Frame} {meth : Method} {c : Code} {g : GE} {B : Nat} {h : ST}  {q0 : Int32} (F : Fx p s m args meth c cX5_join 3 "DustParish$Rule" 395 g B)
    {y : Int32} (hr : meth.sig.returnType = (some .int)) (hf : fX5_join_93 h q0 = some y) : V p l e 1 0 s m args below meth c (MQ below (QO KC 395 g (some (.int y)) h) args s 0 (6 * 0) (WA 395 g)) KC 395 g B 3 0 h 93 [] [.int q0] := by
  unfold fX5_join_93 at hf
  exact v_iret (pc := 93) F hr dX5_join_93 (Option.some.inj hf) rfl (Nat.zero_le _)
set_option maxRecDepth 100000 in
set_option maxHeartbeats 4000000 in
theorem tX5_join_82 {p : Program} {l : Launch} {e : Env} {s : State} {m : MethodId} {args : Array Value} {below : List Frame} {meth : Method} {c : Code} {g : GE} {B : Nat} {h : ST}  {q0 : Int32} (F : Fx p s m args meth c cX5_join 3 "DustParish$Rule" 395 g B)
    {y : Int32} (hr : meth.sig.returnType = (some .int)) (hf : fX5_join_82 h q0 = some y) : V p l e 1 0 s m args below meth c (MQ below (QO KC 395 g (some (.int y)) h) args s 0 (6 * 0) (WA 395 g)) KC 395 g B 3 0 h 82 [] [.int q0] := by
  unfold fX5_join_82 at hf
  exact v_iret (pc := 82) F hr dX5_join_82 (Option.some.inj hf) rfl (Nat.zero_le _)
set_option maxRecDepth 100000 in
set_option maxHeartbeats 4000000 in
theorem tX5_join_71 {p : Program} {l : Launch} {e : Env} {s : State} {m : MethodId} {args : Array Value} {below : List Frame} {meth : Method} {c : Code} {g : GE} {B : Nat} {h : ST}  {q0 : Int32} (F : Fx p s m args meth c cX5_join 3 "DustParish$Rule" 395 g B)
    {y : Int32} (hr : meth.sig.returnType = (some .int)) (hf : fX5_join_71 h q0 = some y) : V p l e 1 0 s m args below meth c (MQ below (QO KC 395 g (some (.int y)) h) args s 0 (6 * 0) (WA 395 g)) KC 395 g B 3 0 h 71 [] [.int q0] := by
  unfold fX5_join_71 at hf
  exact v_iret (pc := 71) F hr dX5_join_71 (Option.some.inj hf) rfl (Nat.zero_le _)
set_option maxRecDepth 100000 in
set_option maxHeartbeats 4000000 in
theorem kX5_join {l : Launch} {g : GE} {B : Nat} {h : ST} {a1 : Int32} {a2 : Int32} {a3 : Int32} {y : Int32} (hf : fX5_join h a1 a2 a3 = some y) : CT l yX5_join cX5_join 3 (some .int) 1 KC 395 g B [.int a1, .int a2, .int a3] h (some (.int y)) h := by
  refine CT.of pn_X5 (Nat.le_of_ble_eq_true rfl) ?_
  intro p e s m below meth c hr F
  have F : Fx p s m _ meth c cX5_join 3 "DustParish$Rule" 395 g B := F
  refine V_lv (lv' := [(0, .int a1), (1, .int a2), (2, .int a3)]) rfl ?_
  unfold fX5_join at hf
  refine v_iload_n (pc := 0) (j := 0) F dX5_join_0 rfl rfl ?_
  by_cases c1 : a1 = (-14)
  · have hf := ite_t hf c1
    refine v_tabIn (pc := 1) (off := 93) (tgt := 94) F dX5_join_1 (by rw [c1]; decide) (by rw [c1]; decide) (by rw [c1]; rfl) (by decide) ?_
    refine v_iload_n (pc := 94) (j := 1) F dX5_join_94 rfl rfl ?_
    refine v_if_eq (pc := 95) (tgt := 106) F dX5_join_95 (by decide) (fun c2 => ?_) (fun c2 => ?_)
    · have hf := ite_t hf c2
      refine V.sub (lv' := []) [] rfl ?_
      exact tX5_join_106 F hr hf
    · have hf := ite_f hf c2
      refine v_iload_n (pc := 98) (j := 2) F dX5_join_98 rfl rfl ?_
      refine v_if_eq (pc := 99) (tgt := 106) F dX5_join_99 (by decide) (fun c3 => ?_) (fun c3 => ?_)
      · have hf := ite_t hf c3
        refine V.sub (lv' := []) [] rfl ?_
        exact tX5_join_106 F hr hf
      · have hf := ite_f hf c3
        refine v_iconst (pc := 102) (v := 1) F dX5_join_102 ic_1 ?_
        refine v_goto (pc := 103) (tgt := 107) F dX5_join_103 (by decide) ?_
        refine V.sub (lv' := []) [] rfl ?_
        exact tX5_join_107 F hr hf
  have hf := ite_f hf c1
  by_cases c4 : a1 = (-13)
  · have hf := ite_t hf c4
    refine v_tabIn (pc := 1) (off := 107) (tgt := 108) F dX5_join_1 (by rw [c4]; decide) (by rw [c4]; decide) (by rw [c4]; rfl) (by decide) ?_
    refine v_iload_n (pc := 108) (j := 1) F dX5_join_108 rfl rfl ?_
    refine v_if_ne (pc := 109) (tgt := 116) F dX5_join_109 (by decide) (fun c5 => ?_) (fun c5 => ?_)
    · have hf := ite_f hf c5
      refine V.sub (lv' := []) [] rfl ?_
      exact tX5_join_116 F hr hf
    · have hf := ite_t hf c5
      refine v_iload_n (pc := 112) (j := 2) F dX5_join_112 rfl rfl ?_
      refine v_if_eq (pc := 113) (tgt := 120) F dX5_join_113 (by decide) (fun c6 => ?_) (fun c6 => ?_)
      · have hf := ite_t hf c6
        refine v_iconst (pc := 120) (v := 0) F dX5_join_120 ic_0 ?_
        refine V.sub (lv' := []) [] rfl ?_
        exact tX5_join_121 F hr hf
      · have hf := ite_f hf c6
        refine V.sub (lv' := []) [] rfl ?_
        exact tX5_join_116 F hr hf
  have hf := ite_f hf c4
  by_cases c7 : a1 = (-12)
  · have hf := ite_t hf c7
    refine v_tabIn (pc := 1) (off := 82) (tgt := 83) F dX5_join_1 (by rw [c7]; decide) (by rw [c7]; decide) (by rw [c7]; rfl) (by decide) ?_
    refine v_iload_n (pc := 83) (j := 1) F dX5_join_83 rfl rfl ?_
    refine v_iload_n (pc := 84) (j := 2) F dX5_join_84 rfl rfl ?_
    refine v_icmp_ne (pc := 85) (tgt := 92) F dX5_join_85 (by decide) (fun c8 => ?_) (fun c8 => ?_)
    · have hf := ite_f hf c8
      refine v_iconst (pc := 92) (v := 0) F dX5_join_92 ic_0 ?_
      refine V.sub (lv' := []) [] rfl ?_
      exact tX5_join_93 F hr hf
    · have hf := ite_t hf c8
      refine v_iconst (pc := 88) (v := 1) F dX5_join_88 ic_1 ?_
      refine v_goto (pc := 89) (tgt := 93) F dX5_join_89 (by decide) ?_
      refine V.sub (lv' := []) [] rfl ?_
      exact tX5_join_93 F hr hf
  have hf := ite_f hf c7
  by_cases c9 : a1 = (-11)
  · have hf := ite_t hf c9
    refine v_tabIn (pc := 1) (off := 71) (tgt := 72) F dX5_join_1 (by rw [c9]; decide) (by rw [c9]; decide) (by rw [c9]; rfl) (by decide) ?_
    refine v_iload_n (pc := 72) (j := 1) F dX5_join_72 rfl rfl ?_
    refine v_iload_n (pc := 73) (j := 2) F dX5_join_73 rfl rfl ?_
    refine v_icmp_ge (pc := 74) (tgt := 81) F dX5_join_74 (by decide) (fun c10 => ?_) (fun c10 => ?_)
    · have hf := ite_t hf c10
      refine v_iconst (pc := 81) (v := 0) F dX5_join_81 ic_0 ?_
      refine V.sub (lv' := []) [] rfl ?_
      exact tX5_join_82 F hr hf
    · have hf := ite_f hf c10
      refine v_iconst (pc := 77) (v := 1) F dX5_join_77 ic_1 ?_
      refine v_goto (pc := 78) (tgt := 82) F dX5_join_78 (by decide) ?_
      refine V.sub (lv' := []) [] rfl ?_
      exact tX5_join_82 F hr hf
  have hf := ite_f hf c9
  by_cases c11 : a1 = (-10)
  · have hf := ite_t hf c11
    refine v_tabIn (pc := 1) (off := 59) (tgt := 60) F dX5_join_1 (by rw [c11]; decide) (by rw [c11]; decide) (by rw [c11]; rfl) (by decide) ?_
    refine v_iload_n (pc := 60) (j := 2) F dX5_join_60 rfl rfl ?_
    refine v_if_ne (pc := 61) (tgt := 68) F dX5_join_61 (by decide) (fun c12 => ?_) (fun c12 => ?_)
    · have hf := ite_f hf c12
      refine v_iload_n (pc := 68) (j := 1) F dX5_join_68 rfl rfl ?_
      refine v_iload_n (pc := 69) (j := 2) F dX5_join_69 rfl rfl ?_
      obtain ⟨g13, hf⟩ := grd_some hf
      refine v_idiv (pc := 70) F dX5_join_70 g13 ?_
      refine V.sub (lv' := []) [] rfl ?_
      exact tX5_join_71 F hr hf
    · have hf := ite_t hf c12
      refine v_iconst (pc := 64) (v := 0) F dX5_join_64 ic_0 ?_
      refine v_goto (pc := 65) (tgt := 71) F dX5_join_65 (by decide) ?_
      refine V.sub (lv' := []) [] rfl ?_
      exact tX5_join_71 F hr hf
  have hf := ite_f hf c11
  by_cases c14 : a1 = (-9)
  · have hf := ite_t hf c14
    refine v_tabIn (pc := 1) (off := 55) (tgt := 56) F dX5_join_1 (by rw [c14]; decide) (by rw [c14]; decide) (by rw [c14]; rfl) (by decide) ?_
    refine v_iload_n (pc := 56) (j := 1) F dX5_join_56 rfl rfl ?_
    refine v_iload_n (pc := 57) (j := 2) F dX5_join_57 rfl rfl ?_
    refine v_imul (pc := 58) F dX5_join_58 ?_
    exact v_iret (pc := 59) F hr dX5_join_59 (Option.some.inj hf) rfl (Nat.zero_le _)
  have hf := ite_f hf c14
  by_cases c15 : a1 = (-8)
  · have hf := ite_t hf c15
    refine v_tabIn (pc := 1) (off := 51) (tgt := 52) F dX5_join_1 (by rw [c15]; decide) (by rw [c15]; decide) (by rw [c15]; rfl) (by decide) ?_
    refine v_iload_n (pc := 52) (j := 1) F dX5_join_52 rfl rfl ?_
    refine v_iload_n (pc := 53) (j := 2) F dX5_join_53 rfl rfl ?_
    refine v_isub (pc := 54) F dX5_join_54 ?_
    exact v_iret (pc := 55) F hr dX5_join_55 (Option.some.inj hf) rfl (Nat.zero_le _)
  have hf := ite_f hf c15
  by_cases c16 : a1 = (-7)
  · have hf := ite_t hf c16
    refine v_tabIn (pc := 1) (off := 47) (tgt := 48) F dX5_join_1 (by rw [c16]; decide) (by rw [c16]; decide) (by rw [c16]; rfl) (by decide) ?_
    refine v_iload_n (pc := 48) (j := 1) F dX5_join_48 rfl rfl ?_
    refine v_iload_n (pc := 49) (j := 2) F dX5_join_49 rfl rfl ?_
    refine v_iadd (pc := 50) F dX5_join_50 ?_
    exact v_iret (pc := 51) F hr dX5_join_51 (Option.some.inj hf) rfl (Nat.zero_le _)
  have hf := ite_f hf c16
  have n_c1 : ¬ (a1).toInt = -14 := lv_neT c1 rfl
  have n_c4 : ¬ (a1).toInt = -13 := lv_neT c4 rfl
  have n_c7 : ¬ (a1).toInt = -12 := lv_neT c7 rfl
  have n_c9 : ¬ (a1).toInt = -11 := lv_neT c9 rfl
  have n_c11 : ¬ (a1).toInt = -10 := lv_neT c11 rfl
  have n_c14 : ¬ (a1).toInt = -9 := lv_neT c14 rfl
  have n_c15 : ¬ (a1).toInt = -8 := lv_neT c15 rfl
  have n_c16 : ¬ (a1).toInt = -7 := lv_neT c16 rfl
  refine v_tabOut (pc := 1) (tgt := 108) F dX5_join_1 (by omega) (by decide) ?_
  refine v_iload_n (pc := 108) (j := 1) F dX5_join_108 rfl rfl ?_
  refine v_if_ne (pc := 109) (tgt := 116) F dX5_join_109 (by decide) (fun c17 => ?_) (fun c17 => ?_)
  · have hf := ite_f hf c17
    refine V.sub (lv' := []) [] rfl ?_
    exact tX5_join_116 F hr hf
  · have hf := ite_t hf c17
    refine v_iload_n (pc := 112) (j := 2) F dX5_join_112 rfl rfl ?_
    refine v_if_eq (pc := 113) (tgt := 120) F dX5_join_113 (by decide) (fun c18 => ?_) (fun c18 => ?_)
    · have hf := ite_t hf c18
      refine v_iconst (pc := 120) (v := 0) F dX5_join_120 ic_0 ?_
      refine V.sub (lv' := []) [] rfl ?_
      exact tX5_join_121 F hr hf
    · have hf := ite_f hf c18
      refine V.sub (lv' := []) [] rfl ?_
      exact tX5_join_116 F hr hf
def fX5_amount_137 (h : ST) (o : Nat) (l1 : Int32) (l2 : Int32) : Option ((ST × Int32 × Int32) ⊕ (ST ⊕ (ST ⊕ (ST ⊕ ST)))) :=
  some (.inl (h, l1, l2 + 1))
def fX5_amount_97 (h : ST) (o : Nat) (l1 : Int32) (l2 : Int32) (q1 : Int32) (q2 : Int32) : Option ((ST × Int32 × Int32) ⊕ (ST ⊕ (ST ⊕ (ST ⊕ ST)))) :=
  bnd (wr 40 h (o + 3) q1 q2) fun h19 =>
  fX5_amount_137 h19 o l1 l2
def fX5_amount_54 (h : ST) (o : Nat) (l1 : Int32) (l2 : Int32) (q1 : Int32) (q2 : Int32) : Option ((ST × Int32 × Int32) ⊕ (ST ⊕ (ST ⊕ (ST ⊕ ST)))) :=
  bnd (wr 40 h (o + 3) q1 q2) fun h25 =>
  fX5_amount_137 h25 o (l1 + 1) l2
def fX5_amount_4 (o : Nat) (s1 : (ST × Int32 × Int32)) : Option ((ST × Int32 × Int32) ⊕ (ST ⊕ (ST ⊕ (ST ⊕ ST)))) :=
  if (s1.1 o 1) ≤ s1.2.2 then
  some (.inr (.inr (.inr (.inr s1.1))))
  else
  bnd (rd 700 (s1.1 (o + 2)) s1.2.2) fun v2 =>
    if v2 < (-6) then
    if v2 = (-13) then
      if 1 ≤ s1.2.1 then
        bnd (rd 40 (s1.1 (o + 3)) (s1.2.1 - 1)) fun v16 =>
          if v16 = 0 then
          fX5_amount_97 s1.1 o s1.2.1 s1.2.2 (s1.2.1 - 1) 1
          else
          fX5_amount_97 s1.1 o s1.2.1 s1.2.2 (s1.2.1 - 1) 0
        else
        some (.inr (.inr (.inl s1.1)))
      else
      if 2 ≤ s1.2.1 then
        bnd (rd 40 (s1.1 (o + 3)) ((s1.2.1 + (-1)) - 1)) fun v7 =>
          bnd (rd 40 (s1.1 (o + 3)) (s1.2.1 + (-1))) fun v9 =>
          bnd (fX5_join s1.1 v2 v7 v9) fun r11 =>
          bnd (wr 40 s1.1 (o + 3) ((s1.2.1 + (-1)) - 1) r11) fun h13 =>
          fX5_amount_137 h13 o (s1.2.1 + (-1)) s1.2.2
        else
        some (.inr (.inr (.inr (.inl s1.1))))
    else
    if s1.2.1 < 40 then
      if v2 < 0 then
        bnd (rd 6 (s1.1 (o + 1)) ((-1) - v2)) fun v23 =>
          fX5_amount_54 s1.1 o s1.2.1 s1.2.2 s1.2.1 v23
        else
        fX5_amount_54 s1.1 o s1.2.1 s1.2.2 s1.2.1 v2
      else
      some (.inr (.inl s1.1))
def fX5_amount (h : ST) (o : Nat) : Option (Int32 × ST) :=
  bnd (lp FU (fX5_amount_4 o) (h, 0, 0)) fun x27 =>
  sm x27 (fun v => some (0, v)) (fun w1 => sm w1 (fun v => some (0, v)) (fun w2 => sm w2 (fun v => some (0, v)) (fun v => bnd (rd 40 (v (o + 3)) 0) fun v29 =>
  some (v29, v))))
set_option maxRecDepth 100000 in
set_option maxHeartbeats 4000000 in
theorem tX5_amount_137 {p : Program} {l : Launch} {e : Env} {s : State} {m : MethodId} {args : Array Value} {below : List Frame} {meth : Method} {c : Code} {g : GE} {B : Nat} {h : ST} {o : Nat} (ho_o : o < 395) (hk_o : KC o = (4, 0)) {l1 : Int32} {l2 : Int32} (F : Fx p s m args meth c cX5_amount 4 "DustParish$Rule" 395 g B)
    {Q : State → Prop} {y : (ST × Int32 × Int32) ⊕ (ST ⊕ (ST ⊕ (ST ⊕ ST)))} (hk : ∀ v : (ST × Int32 × Int32), y = Sum.inl v → V p l e 2 0 s m args below meth c Q KC 395 g B 4 0 v.1 4 [(0, .ref (gA g o)), (1, .int v.2.1), (2, .int v.2.2)] []) (hx0 : ∀ v : ST, y = Sum.inr (.inl v) → V p l e 2 0 s m args below meth c Q KC 395 g B 4 0 v 31 [] []) (hx1 : ∀ v : ST, y = Sum.inr (.inr (.inl v)) → V p l e 2 0 s m args below meth c Q KC 395 g B 4 0 v 72 [] []) (hx2 : ∀ v : ST, y = Sum.inr (.inr (.inr (.inl v))) → V p l e 2 0 s m args below meth c Q KC 395 g B 4 0 v 106 [] []) (hx3 : ∀ v : ST, y = Sum.inr (.inr (.inr (.inr v))) → V p l e 2 0 s m args below meth c Q KC 395 g B 4 0 v 143 [(0, .ref (gA g o))] []) (hf : fX5_amount_137 h o l1 l2 = some y) : V p l e 2 0 s m args below meth c Q KC 395 g B 4 0 h 137 [(0, .ref (gA g o)), (1, .int l1), (2, .int l2)] [] := by
  unfold fX5_amount_137 at hf
  refine v_iinc (pc := 137) (j := 2) (v := l2 + 1) (lv' := [(0, .ref (gA g o)), (1, .int l1), (2, .int (l2 + 1))]) F dX5_amount_137 rfl (congrArg (fun z => l2 + z) ic_1) (by decide) rfl ?_
  refine v_goto (pc := 140) (tgt := 4) F dX5_amount_140 (by decide) ?_
  exact hk (h, l1, l2 + 1) (Option.some.inj hf).symm
set_option maxRecDepth 100000 in
set_option maxHeartbeats 4000000 in
theorem tX5_amount_97 {p : Program} {l : Launch} {e : Env} {s : State} {m : MethodId} {args : Array Value} {below : List Frame} {meth : Method} {c : Code} {g : GE} {B : Nat} {h : ST} {o : Nat} (ho_o : o < 395) (hk_o : KC o = (4, 0)) {l1 : Int32} {l2 : Int32} {q1 : Int32} {q2 : Int32} (F : Fx p s m args meth c cX5_amount 4 "DustParish$Rule" 395 g B)
    {Q : State → Prop} {y : (ST × Int32 × Int32) ⊕ (ST ⊕ (ST ⊕ (ST ⊕ ST)))} (hk : ∀ v : (ST × Int32 × Int32), y = Sum.inl v → V p l e 2 0 s m args below meth c Q KC 395 g B 4 0 v.1 4 [(0, .ref (gA g o)), (1, .int v.2.1), (2, .int v.2.2)] []) (hx0 : ∀ v : ST, y = Sum.inr (.inl v) → V p l e 2 0 s m args below meth c Q KC 395 g B 4 0 v 31 [] []) (hx1 : ∀ v : ST, y = Sum.inr (.inr (.inl v)) → V p l e 2 0 s m args below meth c Q KC 395 g B 4 0 v 72 [] []) (hx2 : ∀ v : ST, y = Sum.inr (.inr (.inr (.inl v))) → V p l e 2 0 s m args below meth c Q KC 395 g B 4 0 v 106 [] []) (hx3 : ∀ v : ST, y = Sum.inr (.inr (.inr (.inr v))) → V p l e 2 0 s m args below meth c Q KC 395 g B 4 0 v 143 [(0, .ref (gA g o))] []) (hf : fX5_amount_97 h o l1 l2 q1 q2 = some y) : V p l e 2 0 s m args below meth c Q KC 395 g B 4 0 h 97 [(0, .ref (gA g o)), (1, .int l1), (2, .int l2)] [.int q2, .int q1, .ref (gA g (o + 3))] := by
  unfold fX5_amount_97 at hf
  obtain ⟨h19, e20, hf⟩ := bnd_some hf
  refine v_iast (pc := 97) F dX5_amount_97 (ly_4_3 ho_o hk_o).1 (ly_4_3 ho_o hk_o).2 e20 ?_
  refine v_goto (pc := 98) (tgt := 137) F dX5_amount_98 (by decide) ?_
  exact tX5_amount_137 ho_o hk_o F hk hx0 hx1 hx2 hx3 hf
set_option maxRecDepth 100000 in
set_option maxHeartbeats 4000000 in
theorem tX5_amount_54 {p : Program} {l : Launch} {e : Env} {s : State} {m : MethodId} {args : Array Value} {below : List Frame} {meth : Method} {c : Code} {g : GE} {B : Nat} {h : ST} {o : Nat} (ho_o : o < 395) (hk_o : KC o = (4, 0)) {l1 : Int32} {l2 : Int32} {q1 : Int32} {q2 : Int32} (F : Fx p s m args meth c cX5_amount 4 "DustParish$Rule" 395 g B)
    {Q : State → Prop} {y : (ST × Int32 × Int32) ⊕ (ST ⊕ (ST ⊕ (ST ⊕ ST)))} (hk : ∀ v : (ST × Int32 × Int32), y = Sum.inl v → V p l e 2 0 s m args below meth c Q KC 395 g B 4 0 v.1 4 [(0, .ref (gA g o)), (1, .int v.2.1), (2, .int v.2.2)] []) (hx0 : ∀ v : ST, y = Sum.inr (.inl v) → V p l e 2 0 s m args below meth c Q KC 395 g B 4 0 v 31 [] []) (hx1 : ∀ v : ST, y = Sum.inr (.inr (.inl v)) → V p l e 2 0 s m args below meth c Q KC 395 g B 4 0 v 72 [] []) (hx2 : ∀ v : ST, y = Sum.inr (.inr (.inr (.inl v))) → V p l e 2 0 s m args below meth c Q KC 395 g B 4 0 v 106 [] []) (hx3 : ∀ v : ST, y = Sum.inr (.inr (.inr (.inr v))) → V p l e 2 0 s m args below meth c Q KC 395 g B 4 0 v 143 [(0, .ref (gA g o))] []) (hf : fX5_amount_54 h o l1 l2 q1 q2 = some y) : V p l e 2 0 s m args below meth c Q KC 395 g B 4 0 h 54 [(0, .ref (gA g o)), (1, .int l1), (2, .int l2)] [.int q2, .int q1, .ref (gA g (o + 3))] := by
  unfold fX5_amount_54 at hf
  obtain ⟨h25, e26, hf⟩ := bnd_some hf
  refine v_iast (pc := 54) F dX5_amount_54 (ly_4_3 ho_o hk_o).1 (ly_4_3 ho_o hk_o).2 e26 ?_
  refine v_iinc (pc := 55) (j := 1) (v := l1 + 1) (lv' := [(0, .ref (gA g o)), (1, .int (l1 + 1)), (2, .int l2)]) F dX5_amount_55 rfl (congrArg (fun z => l1 + z) ic_1) (by decide) rfl ?_
  refine v_goto (pc := 58) (tgt := 137) F dX5_amount_58 (by decide) ?_
  exact tX5_amount_137 ho_o hk_o F hk hx0 hx1 hx2 hx3 hf
set_option maxRecDepth 100000 in
set_option maxHeartbeats 4000000 in
theorem tX5_amount_4 {p : Program} {l : Launch} {e : Env} {s : State} {m : MethodId} {args : Array Value} {below : List Frame} {meth : Method} {c : Code} {g : GE} {B : Nat}  {o : Nat} (ho_o : o < 395) (hk_o : KC o = (4, 0)) {Q : State → Prop} {x : (ST ⊕ (ST ⊕ (ST ⊕ ST)))} {nf : Nat} {s0 : (ST × Int32 × Int32)} (F : Fx p s m args meth c cX5_amount 4 "DustParish$Rule" 395 g B) (hX0 : ∀ v : ST, x = (.inl v) → V p l e 2 0 s m args below meth c Q KC 395 g B 4 0 v 31 [] []) (hX1 : ∀ v : ST, x = (.inr (.inl v)) → V p l e 2 0 s m args below meth c Q KC 395 g B 4 0 v 72 [] []) (hX2 : ∀ v : ST, x = (.inr (.inr (.inl v))) → V p l e 2 0 s m args below meth c Q KC 395 g B 4 0 v 106 [] []) (hX3 : ∀ v : ST, x = (.inr (.inr (.inr v))) → V p l e 2 0 s m args below meth c Q KC 395 g B 4 0 v 143 [(0, .ref (gA g o))] []) (hl : lp nf (fX5_amount_4 o) s0 = some x) : V p l e 2 0 s m args below meth c Q KC 395 g B 4 0 s0.1 4 [(0, .ref (gA g o)), (1, .int s0.2.1), (2, .int s0.2.2)] [] := by
  refine lp_ind (P := fun s0 => V p l e 2 0 s m args below meth c Q KC 395 g B 4 0 s0.1 4 [(0, .ref (gA g o)), (1, .int s0.2.1), (2, .int s0.2.2)] []) ?_ nf s0 hl
  intro s1 y hf hk hx
  have hx0 : ∀ v : ST, y = Sum.inr (.inl v) → V p l e 2 0 s m args below meth c Q KC 395 g B 4 0 v 31 [] [] := fun v e9 => hX0 v (hx _ e9).symm
  have hx1 : ∀ v : ST, y = Sum.inr (.inr (.inl v)) → V p l e 2 0 s m args below meth c Q KC 395 g B 4 0 v 72 [] [] := fun v e9 => hX1 v (hx _ e9).symm
  have hx2 : ∀ v : ST, y = Sum.inr (.inr (.inr (.inl v))) → V p l e 2 0 s m args below meth c Q KC 395 g B 4 0 v 106 [] [] := fun v e9 => hX2 v (hx _ e9).symm
  have hx3 : ∀ v : ST, y = Sum.inr (.inr (.inr (.inr v))) → V p l e 2 0 s m args below meth c Q KC 395 g B 4 0 v 143 [(0, .ref (gA g o))] [] := fun v e9 => hX3 v (hx _ e9).symm
  unfold fX5_amount_4 at hf
  refine v_iload_n (pc := 4) (j := 2) F dX5_amount_4 rfl rfl ?_
  refine v_aload_n (pc := 5) (j := 0) F dX5_amount_5 rfl rfl ?_
  refine v_ifl (pc := 6) F fl_X5_15 dX5_amount_6 ho_o hk_o fv_4_1 ?_
  refine v_icmp_ge (pc := 9) (tgt := 143) F dX5_amount_9 (by decide) (fun c1 => ?_) (fun c1 => ?_)
  · have hf := ite_t hf c1
    refine V.sub (lv' := [(0, .ref (gA g o))]) [0] rfl ?_
    exact hx3 s1.1 (Option.some.inj hf).symm
  · have hf := ite_f hf c1
    refine v_aload_n (pc := 12) (j := 0) F dX5_amount_12 rfl rfl ?_
    refine v_ifl (pc := 13) F fl_X5_19 dX5_amount_13 ho_o hk_o fv_4_2 ?_
    refine v_iload_n (pc := 16) (j := 2) F dX5_amount_16 rfl rfl ?_
    obtain ⟨v2, e3, hf⟩ := bnd_some hf
    refine v_iald (pc := 17) F dX5_amount_17 (ly_4_2 ho_o hk_o).1 (ly_4_2 ho_o hk_o).2 e3 ?_
    refine v_istore_n (pc := 18) (lv' := [(0, .ref (gA g o)), (1, .int s1.2.1), (2, .int s1.2.2), (3, .int v2)]) F dX5_amount_18 rfl (by decide) rfl ?_
    refine v_iload_n (pc := 19) (j := 3) F dX5_amount_19 rfl rfl ?_
    refine v_bipush (pc := 20) (v := (-6)) F dX5_amount_20 bp_m6 ?_
    refine v_icmp_lt (pc := 22) (tgt := 61) F dX5_amount_22 (by decide) (fun c4 => ?_) (fun c4 => ?_)
    · have hf := ite_t hf c4
      refine v_iload_n (pc := 61) (j := 3) F dX5_amount_61 rfl rfl ?_
      refine v_bipush (pc := 62) (v := (-13)) F dX5_amount_62 bp_m13 ?_
      refine v_icmp_ne (pc := 64) (tgt := 101) F dX5_amount_64 (by decide) (fun c5 => ?_) (fun c5 => ?_)
      · have hf := ite_f hf c5
        refine v_iload_n (pc := 101) (j := 1) F dX5_amount_101 rfl rfl ?_
        refine v_iconst (pc := 102) (v := 2) F dX5_amount_102 ic_2 ?_
        refine v_icmp_ge (pc := 103) (tgt := 108) F dX5_amount_103 (by decide) (fun c6 => ?_) (fun c6 => ?_)
        · have hf := ite_t hf c6
          refine v_iinc (pc := 108) (j := 1) (v := s1.2.1 + (-1)) (lv' := [(0, .ref (gA g o)), (1, .int (s1.2.1 + (-1))), (2, .int s1.2.2), (3, .int v2)]) F dX5_amount_108 rfl (congrArg (fun z => s1.2.1 + z) ic_m1) (by decide) rfl ?_
          refine v_aload_n (pc := 111) (j := 0) F dX5_amount_111 rfl rfl ?_
          refine v_ifl (pc := 112) F fl_X5_22 dX5_amount_112 ho_o hk_o fv_4_3 ?_
          refine v_iload_n (pc := 115) (j := 1) F dX5_amount_115 rfl rfl ?_
          refine v_iconst (pc := 116) (v := 1) F dX5_amount_116 ic_1 ?_
          refine v_isub (pc := 117) F dX5_amount_117 ?_
          refine v_iload_n (pc := 118) (j := 3) F dX5_amount_118 rfl rfl ?_
          refine v_aload_n (pc := 119) (j := 0) F dX5_amount_119 rfl rfl ?_
          refine v_ifl (pc := 120) F fl_X5_22 dX5_amount_120 ho_o hk_o fv_4_3 ?_
          refine v_iload_n (pc := 123) (j := 1) F dX5_amount_123 rfl rfl ?_
          refine v_iconst (pc := 124) (v := 1) F dX5_amount_124 ic_1 ?_
          refine v_isub (pc := 125) F dX5_amount_125 ?_
          obtain ⟨v7, e8, hf⟩ := bnd_some hf
          refine v_iald (pc := 126) F dX5_amount_126 (ly_4_3 ho_o hk_o).1 (ly_4_3 ho_o hk_o).2 e8 ?_
          refine v_aload_n (pc := 127) (j := 0) F dX5_amount_127 rfl rfl ?_
          refine v_ifl (pc := 128) F fl_X5_22 dX5_amount_128 ho_o hk_o fv_4_3 ?_
          refine v_iload_n (pc := 131) (j := 1) F dX5_amount_131 rfl rfl ?_
          obtain ⟨v9, e10, hf⟩ := bnd_some hf
          refine v_iald (pc := 132) F dX5_amount_132 (ly_4_3 ho_o hk_o).1 (ly_4_3 ho_o hk_o).2 e10 ?_
          obtain ⟨r11, e12, hf⟩ := bnd_some hf
          refine v_callSi (pc := 133) (As := [.int v2, .int v7, .int v9]) F cl_X5_25 dX5_amount_133 (kX5_join e12) rfl rfl (Nat.le_of_ble_eq_true rfl) (by decide) (Nat.zero_le _) ?_
          obtain ⟨h13, e14, hf⟩ := bnd_some hf
          refine v_iast (pc := 136) F dX5_amount_136 (ly_4_3 ho_o hk_o).1 (ly_4_3 ho_o hk_o).2 e14 ?_
          refine V.sub (lv' := [(0, .ref (gA g o)), (1, .int (s1.2.1 + (-1))), (2, .int s1.2.2)]) [0, 1, 2] rfl ?_
          exact tX5_amount_137 ho_o hk_o F hk hx0 hx1 hx2 hx3 hf
        · have hf := ite_f hf c6
          refine V.sub (lv' := []) [] rfl ?_
          exact hx2 s1.1 (Option.some.inj hf).symm
      · have hf := ite_t hf c5
        refine v_iload_n (pc := 67) (j := 1) F dX5_amount_67 rfl rfl ?_
        refine v_iconst (pc := 68) (v := 1) F dX5_amount_68 ic_1 ?_
        refine v_icmp_ge (pc := 69) (tgt := 74) F dX5_amount_69 (by decide) (fun c15 => ?_) (fun c15 => ?_)
        · have hf := ite_t hf c15
          refine v_aload_n (pc := 74) (j := 0) F dX5_amount_74 rfl rfl ?_
          refine v_ifl (pc := 75) F fl_X5_22 dX5_amount_75 ho_o hk_o fv_4_3 ?_
          refine v_iload_n (pc := 78) (j := 1) F dX5_amount_78 rfl rfl ?_
          refine v_iconst (pc := 79) (v := 1) F dX5_amount_79 ic_1 ?_
          refine v_isub (pc := 80) F dX5_amount_80 ?_
          refine v_aload_n (pc := 81) (j := 0) F dX5_amount_81 rfl rfl ?_
          refine v_ifl (pc := 82) F fl_X5_22 dX5_amount_82 ho_o hk_o fv_4_3 ?_
          refine v_iload_n (pc := 85) (j := 1) F dX5_amount_85 rfl rfl ?_
          refine v_iconst (pc := 86) (v := 1) F dX5_amount_86 ic_1 ?_
          refine v_isub (pc := 87) F dX5_amount_87 ?_
          obtain ⟨v16, e17, hf⟩ := bnd_some hf
          refine v_iald (pc := 88) F dX5_amount_88 (ly_4_3 ho_o hk_o).1 (ly_4_3 ho_o hk_o).2 e17 ?_
          refine v_if_ne (pc := 89) (tgt := 96) F dX5_amount_89 (by decide) (fun c18 => ?_) (fun c18 => ?_)
          · have hf := ite_f hf c18
            refine v_iconst (pc := 96) (v := 0) F dX5_amount_96 ic_0 ?_
            refine V.sub (lv' := [(0, .ref (gA g o)), (1, .int s1.2.1), (2, .int s1.2.2)]) [0, 1, 2] rfl ?_
            exact tX5_amount_97 ho_o hk_o F hk hx0 hx1 hx2 hx3 hf
          · have hf := ite_t hf c18
            refine v_iconst (pc := 92) (v := 1) F dX5_amount_92 ic_1 ?_
            refine v_goto (pc := 93) (tgt := 97) F dX5_amount_93 (by decide) ?_
            refine V.sub (lv' := [(0, .ref (gA g o)), (1, .int s1.2.1), (2, .int s1.2.2)]) [0, 1, 2] rfl ?_
            exact tX5_amount_97 ho_o hk_o F hk hx0 hx1 hx2 hx3 hf
        · have hf := ite_f hf c15
          refine V.sub (lv' := []) [] rfl ?_
          exact hx1 s1.1 (Option.some.inj hf).symm
    · have hf := ite_f hf c4
      refine v_iload_n (pc := 25) (j := 1) F dX5_amount_25 rfl rfl ?_
      refine v_bipush (pc := 26) (v := 40) F dX5_amount_26 bp_40 ?_
      refine v_icmp_lt (pc := 28) (tgt := 33) F dX5_amount_28 (by decide) (fun c21 => ?_) (fun c21 => ?_)
      · have hf := ite_t hf c21
        refine v_aload_n (pc := 33) (j := 0) F dX5_amount_33 rfl rfl ?_
        refine v_ifl (pc := 34) F fl_X5_22 dX5_amount_34 ho_o hk_o fv_4_3 ?_
        refine v_iload_n (pc := 37) (j := 1) F dX5_amount_37 rfl rfl ?_
        refine v_iload_n (pc := 38) (j := 3) F dX5_amount_38 rfl rfl ?_
        refine v_if_lt (pc := 39) (tgt := 46) F dX5_amount_39 (by decide) (fun c22 => ?_) (fun c22 => ?_)
        · have hf := ite_t hf c22
          refine v_aload_n (pc := 46) (j := 0) F dX5_amount_46 rfl rfl ?_
          refine v_ifl (pc := 47) F fl_X5_11 dX5_amount_47 ho_o hk_o fv_4_0 ?_
          refine v_iconst (pc := 50) (v := (-1)) F dX5_amount_50 ic_m1 ?_
          refine v_iload_n (pc := 51) (j := 3) F dX5_amount_51 rfl rfl ?_
          refine v_isub (pc := 52) F dX5_amount_52 ?_
          obtain ⟨v23, e24, hf⟩ := bnd_some hf
          refine v_iald (pc := 53) F dX5_amount_53 (ly_4_0 ho_o hk_o).1 (ly_4_0 ho_o hk_o).2 e24 ?_
          refine V.sub (lv' := [(0, .ref (gA g o)), (1, .int s1.2.1), (2, .int s1.2.2)]) [0, 1, 2] rfl ?_
          exact tX5_amount_54 ho_o hk_o F hk hx0 hx1 hx2 hx3 hf
        · have hf := ite_f hf c22
          refine v_iload_n (pc := 42) (j := 3) F dX5_amount_42 rfl rfl ?_
          refine v_goto (pc := 43) (tgt := 54) F dX5_amount_43 (by decide) ?_
          refine V.sub (lv' := [(0, .ref (gA g o)), (1, .int s1.2.1), (2, .int s1.2.2)]) [0, 1, 2] rfl ?_
          exact tX5_amount_54 ho_o hk_o F hk hx0 hx1 hx2 hx3 hf
      · have hf := ite_f hf c21
        refine V.sub (lv' := []) [] rfl ?_
        exact hx0 s1.1 (Option.some.inj hf).symm
set_option maxRecDepth 100000 in
set_option maxHeartbeats 4000000 in
theorem kX5_amount {l : Launch} {g : GE} {B : Nat} {h : ST} {o : Nat} (ho_o : o < 395) (hk_o : KC o = (4, 0)) {y : Int32 × ST} (hf : fX5_amount h o = some y) : CT l yX5_amount cX5_amount 4 (some .int) 2 KC 395 g B [.ref (gA g o)] h (some (.int y.1)) y.2 := by
  refine CT.of pn_X5 (Nat.le_of_ble_eq_true rfl) ?_
  intro p e s m below meth c hr F
  have F : Fx p s m _ meth c cX5_amount 4 "DustParish$Rule" 395 g B := F
  refine V_lv (lv' := [(0, .ref (gA g o))]) rfl ?_
  unfold fX5_amount at hf
  refine v_iconst (pc := 0) (v := 0) F dX5_amount_0 ic_0 ?_
  refine v_istore_n (pc := 1) (lv' := [(0, .ref (gA g o)), (1, .int 0)]) F dX5_amount_1 rfl (by decide) rfl ?_
  refine v_iconst (pc := 2) (v := 0) F dX5_amount_2 ic_0 ?_
  refine v_istore_n (pc := 3) (lv' := [(0, .ref (gA g o)), (1, .int 0), (2, .int 0)]) F dX5_amount_3 rfl (by decide) rfl ?_
  obtain ⟨x27, e28, hf⟩ := bnd_some hf
  refine tX5_amount_4 (s0 := (h, 0, 0)) ho_o hk_o F (fun v e9 => ?_) (fun v e9 => ?_) (fun v e9 => ?_) (fun v e9 => ?_) e28
  · subst e9
    have hf := sm_l hf
    refine v_iconst (pc := 31) (v := 0) F dX5_amount_31 ic_0 ?_
    exact v_iret (pc := 32) F hr dX5_amount_32 (some_fst hf) (some_snd hf) (Nat.zero_le _)
  · subst e9
    have hf := sm_r hf
    have hf := sm_l hf
    refine v_iconst (pc := 72) (v := 0) F dX5_amount_72 ic_0 ?_
    exact v_iret (pc := 73) F hr dX5_amount_73 (some_fst hf) (some_snd hf) (Nat.zero_le _)
  · subst e9
    have hf := sm_r hf
    have hf := sm_r hf
    have hf := sm_l hf
    refine v_iconst (pc := 106) (v := 0) F dX5_amount_106 ic_0 ?_
    exact v_iret (pc := 107) F hr dX5_amount_107 (some_fst hf) (some_snd hf) (Nat.zero_le _)
  · subst e9
    have hf := sm_r hf
    have hf := sm_r hf
    have hf := sm_r hf
    refine v_aload_n (pc := 143) (j := 0) F dX5_amount_143 rfl rfl ?_
    refine v_ifl (pc := 144) F fl_X5_22 dX5_amount_144 ho_o hk_o fv_4_3 ?_
    refine v_iconst (pc := 147) (v := 0) F dX5_amount_147 ic_0 ?_
    obtain ⟨v29, e30, hf⟩ := bnd_some hf
    refine v_iald (pc := 148) F dX5_amount_148 (ly_4_3 ho_o hk_o).1 (ly_4_3 ho_o hk_o).2 e30 ?_
    exact v_iret (pc := 149) F hr dX5_amount_149 (some_fst hf) (some_snd hf) (Nat.zero_le _)
