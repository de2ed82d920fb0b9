def fX1_pass_3 (o1 : Nat) (o2 : Nat) (l2 : Int32) (l3 : Int32) (s1 : (ST × Int32)) : Option ((ST × Int32) ⊕ ST) :=
  if (s1.1 o1 0) ≤ s1.2 then
  some (.inr s1.1)
  else
  bnd (fX2_comesTo s1.1 o1 s1.2) fun r2 =>
    bnd (fX8_lay s1.1 o2 s1.2 r2) fun r4 =>
    some (.inl (r4, s1.2 + 1))
def fX1_pass_68 (h : ST) (o2 : Nat)  : Option (ST) :=
  bnd (pw h o2 0 ((h o2 0) + 1)) fun h10 =>
  some h10
def fX1_pass_48 (h : ST) (o1 : Nat) (o2 : Nat) (l3 : Int32) : Option (ST) :=
  if l3 ≤ 0 then
  fX1_pass_68 h o2 
  else
  grd (¬ l3 = 0) (
    if (((h o2 0) + 1) - ((h o2 0) + 1) / l3 * l3) = 0 then
    bnd (fX1_tithe h o1 o2) fun r14 =>
      fX1_pass_68 r14 o2 
    else
    fX1_pass_68 h o2 )
def fX1_pass (h : ST) (o1 : Nat) (o2 : Nat) (a3 : Int32) (a4 : Int32) : Option (ST) :=
  bnd (lp FU (fX1_pass_3 o1 o2 a3 a4) (h, 0)) fun x6 =>
  if a3 < 0 then
  fX1_pass_48 x6 o1 o2 a4
  else
  if (x6 o1 8) ≤ a3 then
    fX1_pass_48 x6 o1 o2 a4
    else
    bnd (fX1_carry x6 o1 o2 a3) fun r17 =>
      fX1_pass_48 r17 o1 o2 a4
set_option maxRecDepth 100000 in
set_option maxHeartbeats 4000000 in
theorem tX1_pass_3 {p : Program} {l : Launch} {e : Env} {s : State} {m : MethodId} {args : Array Value} {below : List Frame} {meth : Method} {c : Code} {g : GE} {B : Nat} {o1 : Nat} (ho_o1 : o1 < 395) (hk_o1 : KC o1 = (1, 0)) {o2 : Nat} (ho_o2 : o2 < 395) (hk_o2 : KC o2 = (7, 0)) {l2 : Int32} {l3 : Int32} {Q : State → Prop} {x : ST} {nf : Nat} {s0 : (ST × Int32)} (F : Fx p s m args meth c cX1_pass 5 "DustParish$Course" 395 g B) (hX0 : V p l e 5 0 s m args below meth c Q KC 395 g B 5 0 x 30 [(0, .ref (gA g o1)), (1, .ref (gA g o2)), (2, .int l2), (3, .int l3)] []) (hl : lp nf (fX1_pass_3 o1 o2 l2 l3) s0 = some x) : V p l e 5 0 s m args below meth c Q KC 395 g B 5 0 s0.1 3 [(0, .ref (gA g o1)), (1, .ref (gA g o2)), (2, .int l2), (3, .int l3), (4, .int s0.2)] [] := by
  refine lp_ind (P := fun s0 => V p l e 5 0 s m args below meth c Q KC 395 g B 5 0 s0.1 3 [(0, .ref (gA g o1)), (1, .ref (gA g o2)), (2, .int l2), (3, .int l3), (4, .int s0.2)] []) ?_ nf s0 hl
  intro s1 y hf hk hx
  have hx0 : ∀ v : ST, y = Sum.inr v → V p l e 5 0 s m args below meth c Q KC 395 g B 5 0 v 30 [(0, .ref (gA g o1)), (1, .ref (gA g o2)), (2, .int l2), (3, .int l3)] [] := fun v e9 => by rw [hx v e9]; exact hX0
  unfold fX1_pass_3 at hf
  refine v_iload (pc := 3) (j := 4) F dX1_pass_3 rfl ?_
  refine v_aload_n (pc := 5) (j := 0) F dX1_pass_5 rfl rfl ?_
  refine v_ifl (pc := 6) F fl_X1_37 dX1_pass_6 ho_o1 hk_o1 fv_1_0 ?_
  refine v_icmp_ge (pc := 9) (tgt := 30) F dX1_pass_9 (by decide) (fun c1 => ?_) (fun c1 => ?_)
  · have hf := ite_t hf c1
    refine V.sub (lv' := [(0, .ref (gA g o1)), (1, .ref (gA g o2)), (2, .int l2), (3, .int l3)]) [0, 1, 2, 3] rfl ?_
    exact hx0 s1.1 (Option.some.inj hf).symm
  · have hf := ite_f hf c1
    refine v_aload_n (pc := 12) (j := 1) F dX1_pass_12 rfl rfl ?_
    refine v_iload (pc := 13) (j := 4) F dX1_pass_13 rfl ?_
    refine v_aload_n (pc := 15) (j := 0) F dX1_pass_15 rfl rfl ?_
    refine v_iload (pc := 16) (j := 4) F dX1_pass_16 rfl ?_
    obtain ⟨r2, e3, hf⟩ := bnd_some hf
    refine v_callVi (pc := 18) (As := [.int s1.2]) F cl_X1_40 dX1_pass_18 (kX2_comesTo ho_o1 hk_o1 e3) ho_o1 hk_o1 rc_1 rfl rfl (Nat.le_of_ble_eq_true rfl) (by decide) (Nat.zero_le _) ?_
    obtain ⟨r4, e5, hf⟩ := bnd_some hf
    refine v_callVv (pc := 21) (As := [.int s1.2, .int r2]) F cl_X1_44 dX1_pass_21 (kX8_lay ho_o2 hk_o2 e5) ho_o2 hk_o2 rc_7 rfl rfl (Nat.le_of_ble_eq_true rfl) (by decide) (Nat.zero_le _) ?_
    refine v_iinc (pc := 24) (j := 4) (v := s1.2 + 1) (lv' := [(0, .ref (gA g o1)), (1, .ref (gA g o2)), (2, .int l2), (3, .int l3), (4, .int (s1.2 + 1))]) F dX1_pass_24 rfl (congrArg (fun z => s1.2 + z) ic_1) (by decide) rfl ?_
    refine v_goto (pc := 27) (tgt := 3) F dX1_pass_27 (by decide) ?_
    exact hk (r4, s1.2 + 1) (Option.some.inj hf).symm
set_option maxRecDepth 100000 in
set_option maxHeartbeats 4000000 in
theorem tX1_pass_68 {p : Program} {l : Launch} {e : Env} {s : State} {m : MethodId} {args : Array Value} {below : List Frame} {meth : Method} {c : Code} {g : GE} {B : Nat} {h : ST} {o2 : Nat} (ho_o2 : o2 < 395) (hk_o2 : KC o2 = (7, 0)) (F : Fx p s m args meth c cX1_pass 5 "DustParish$Course" 395 g B)
    {y : ST} (hr : meth.sig.returnType = none) (hf : fX1_pass_68 h o2  = some y) : V p l e 5 0 s m args below meth c (MQ below (QO KC 395 g none y) args s 0 (6 * 0) (fun q => B ≤ q)) KC 395 g B 5 0 h 68 [(1, .ref (gA g o2))] [] := by
  unfold fX1_pass_68 at hf
  refine v_aload_n (pc := 68) (j := 0) F dX1_pass_68 rfl rfl ?_
  refine v_dup (pc := 69) F dX1_pass_69 rfl ?_
  refine v_ifl (pc := 70) F fl_X1_21 dX1_pass_70 ho_o2 hk_o2 fv_7_0 ?_
  refine v_iconst (pc := 73) (v := 1) F dX1_pass_73 ic_1 ?_
  refine v_iadd (pc := 74) F dX1_pass_74 ?_
  obtain ⟨h10, e11, hf⟩ := bnd_some hf
  refine v_pfl (pc := 75) F fl_X1_21 pl_7_0 dX1_pass_75 ho_o2 hk_o2 fv_7_0 rfl rfl e11 ?_
  exact v_vret (pc := 78) F hr dX1_pass_78 (Option.some.inj hf) (Nat.zero_le _)
set_option maxRecDepth 100000 in
set_option maxHeartbeats 4000000 in
theorem tX1_pass_48 {p : Program} {l : Launch} {e : Env} {s : State} {m : MethodId} {args : Array Value} {below : List Frame} {meth : Method} {c : Code} {g : GE} {B : Nat} {h : ST} {o1 : Nat} (ho_o1 : o1 < 395) (hk_o1 : KC o1 = (1, 0)) {o2 : Nat} (ho_o2 : o2 < 395) (hk_o2 : KC o2 = (7, 0)) {l3 : Int32} (F : Fx p s m args meth c cX1_pass 5 "DustParish$Course" 395 g B)
    {y : ST} (hr : meth.sig.returnType = none) (hf : fX1_pass_48 h o1 o2 l3 = some y) : V p l e 5 0 s m args below meth c (MQ below (QO KC 395 g none y) args s 0 (6 * 0) (fun q => B ≤ q)) KC 395 g B 5 0 h 48 [(0, .ref (gA g o1)), (1, .ref (gA g o2)), (3, .int l3)] [] := by
  unfold fX1_pass_48 at hf
  refine v_iload_n (pc := 48) (j := 2) F dX1_pass_48 rfl rfl ?_
  refine v_if_le (pc := 49) (tgt := 68) F dX1_pass_49 (by decide) (fun c9 => ?_) (fun c9 => ?_)
  · have hf := ite_t hf c9
    refine V.sub (lv' := [(1, .ref (gA g o2))]) [1] rfl ?_
    exact tX1_pass_68 ho_o2 hk_o2 F hr hf
  · have hf := ite_f hf c9
    refine v_aload_n (pc := 52) (j := 1) F dX1_pass_52 rfl rfl ?_
    refine v_ifl (pc := 53) F fl_X1_21 dX1_pass_53 ho_o2 hk_o2 fv_7_0 ?_
    refine v_iconst (pc := 56) (v := 1) F dX1_pass_56 ic_1 ?_
    refine v_iadd (pc := 57) F dX1_pass_57 ?_
    refine v_iload_n (pc := 58) (j := 2) F dX1_pass_58 rfl rfl ?_
    obtain ⟨g12, hf⟩ := grd_some hf
    refine v_irem (pc := 59) F dX1_pass_59 g12 ?_
    refine v_if_ne (pc := 60) (tgt := 68) F dX1_pass_60 (by decide) (fun c13 => ?_) (fun c13 => ?_)
    · have hf := ite_f hf c13
      refine V.sub (lv' := [(1, .ref (gA g o2))]) [1] rfl ?_
      exact tX1_pass_68 ho_o2 hk_o2 F hr hf
    · have hf := ite_t hf c13
      refine v_aload_n (pc := 63) (j := 0) F dX1_pass_63 rfl rfl ?_
      refine v_aload_n (pc := 64) (j := 1) F dX1_pass_64 rfl rfl ?_
      obtain ⟨r14, e15, hf⟩ := bnd_some hf
      refine v_callSv (pc := 65) (As := [.ref (gA g o1), .ref (gA g o2)]) F cl_X1_55 dX1_pass_65 (kX1_tithe ho_o1 hk_o1 ho_o2 hk_o2 e15) rfl rfl (Nat.le_of_ble_eq_true rfl) (by decide) (Nat.zero_le _) ?_
      refine V.sub (lv' := [(1, .ref (gA g o2))]) [1] rfl ?_
      exact tX1_pass_68 ho_o2 hk_o2 F hr hf
set_option maxRecDepth 100000 in
set_option maxHeartbeats 4000000 in
theorem kX1_pass {l : Launch} {g : GE} {B : Nat} {h : ST} {o1 : Nat} (ho_o1 : o1 < 395) (hk_o1 : KC o1 = (1, 0)) {o2 : Nat} (ho_o2 : o2 < 395) (hk_o2 : KC o2 = (7, 0)) {a3 : Int32} {a4 : Int32} {y : ST} (hf : fX1_pass h o1 o2 a3 a4 = some y) : CT l yX1_pass cX1_pass 5 none 5 KC 395 g B [.ref (gA g o1), .ref (gA g o2), .int a3, .int a4] h none y := by
  refine CT.of pn_X1 (Nat.le_of_ble_eq_true rfl) ?_
  intro p e s m below meth c hr F
  have F : Fx p s m _ meth c cX1_pass 5 "DustParish$Course" 395 g B := F
  refine V_lv (lv' := [(0, .ref (gA g o1)), (1, .ref (gA g o2)), (2, .int a3), (3, .int a4)]) rfl ?_
  unfold fX1_pass at hf
  refine v_iconst (pc := 0) (v := 0) F dX1_pass_0 ic_0 ?_
  refine v_istore (pc := 1) (lv' := [(0, .ref (gA g o1)), (1, .ref (gA g o2)), (2, .int a3), (3, .int a4), (4, .int 0)]) F dX1_pass_1 (by decide) rfl ?_
  obtain ⟨x6, e7, hf⟩ := bnd_some hf
  refine tX1_pass_3 (s0 := (h, 0)) ho_o1 hk_o1 ho_o2 hk_o2 F ?_ e7
  refine v_iload_n (pc := 30) (j := 2) F dX1_pass_30 rfl rfl ?_
  refine v_if_lt (pc := 31) (tgt := 48) F dX1_pass_31 (by decide) (fun c8 => ?_) (fun c8 => ?_)
  · have hf := ite_t hf c8
    refine V.sub (lv' := [(0, .ref (gA g o1)), (1, .ref (gA g o2)), (3, .int a4)]) [0, 1, 3] rfl ?_
    exact tX1_pass_48 ho_o1 hk_o1 ho_o2 hk_o2 F hr hf
  · have hf := ite_f hf c8
    refine v_iload_n (pc := 34) (j := 2) F dX1_pass_34 rfl rfl ?_
    refine v_aload_n (pc := 35) (j := 0) F dX1_pass_35 rfl rfl ?_
    refine v_ifl (pc := 36) F fl_X1_48 dX1_pass_36 ho_o1 hk_o1 fv_1_8 ?_
    refine v_icmp_ge (pc := 39) (tgt := 48) F dX1_pass_39 (by decide) (fun c16 => ?_) (fun c16 => ?_)
    · have hf := ite_t hf c16
      refine V.sub (lv' := [(0, .ref (gA g o1)), (1, .ref (gA g o2)), (3, .int a4)]) [0, 1, 3] rfl ?_
      exact tX1_pass_48 ho_o1 hk_o1 ho_o2 hk_o2 F hr hf
    · have hf := ite_f hf c16
      refine v_aload_n (pc := 42) (j := 0) F dX1_pass_42 rfl rfl ?_
      refine v_aload_n (pc := 43) (j := 1) F dX1_pass_43 rfl rfl ?_
      refine v_iload_n (pc := 44) (j := 2) F dX1_pass_44 rfl rfl ?_
      obtain ⟨r17, e18, hf⟩ := bnd_some hf
      refine v_callSv (pc := 45) (As := [.ref (gA g o1), .ref (gA g o2), .int a3]) F cl_X1_51 dX1_pass_45 (kX1_carry ho_o1 hk_o1 ho_o2 hk_o2 e18) rfl rfl (Nat.le_of_ble_eq_true rfl) (by decide) (Nat.zero_le _) ?_
      refine V.sub (lv' := [(0, .ref (gA g o1)), (1, .ref (gA g o2)), (3, .int a4)]) [0, 1, 3] rfl ?_
      exact tX1_pass_48 ho_o1 hk_o1 ho_o2 hk_o2 F hr hf
def fX1_passMany_2 (o1 : Nat) (o2 : Nat) (l2 : Int32) (s1 : (ST × Int32)) : Option ((ST × Int32) ⊕ ST) :=
  if l2 ≤ s1.2 then
  some (.inr s1.1)
  else
  bnd (fX1_windOf s1.1 o1 o2 (s1.1 o2 0)) fun r2 =>
    bnd (fX1_pass s1.1 o1 o2 r2 (s1.1 o1 15)) fun r4 =>
    some (.inl (r4, s1.2 + 1))
def fX1_passMany (h : ST) (o1 : Nat) (o2 : Nat) (a3 : Int32) : Option (ST) :=
  bnd (lp FU (fX1_passMany_2 o1 o2 a3) (h, 0)) fun x6 =>
  some x6
set_option maxRecDepth 100000 in
set_option maxHeartbeats 4000000 in
theorem tX1_passMany_2 {p : Program} {l : Launch} {e : Env} {s : State} {m : MethodId} {args : Array Value} {below : List Frame} {meth : Method} {c : Code} {g : GE} {B : Nat} {o1 : Nat} (ho_o1 : o1 < 395) (hk_o1 : KC o1 = (1, 0)) {o2 : Nat} (ho_o2 : o2 < 395) (hk_o2 : KC o2 = (7, 0)) {l2 : Int32} {Q : State → Prop} {x : ST} {nf : Nat} {s0 : (ST × Int32)} (F : Fx p s m args meth c cX1_passMany 4 "DustParish$Course" 395 g B) (hX0 : V p l e 6 0 s m args below meth c Q KC 395 g B 4 0 x 31 [] []) (hl : lp nf (fX1_passMany_2 o1 o2 l2) s0 = some x) : V p l e 6 0 s m args below meth c Q KC 395 g B 4 0 s0.1 2 [(0, .ref (gA g o1)), (1, .ref (gA g o2)), (2, .int l2), (3, .int s0.2)] [] := by
  refine lp_ind (P := fun s0 => V p l e 6 0 s m args below meth c Q KC 395 g B 4 0 s0.1 2 [(0, .ref (gA g o1)), (1, .ref (gA g o2)), (2, .int l2), (3, .int s0.2)] []) ?_ nf s0 hl
  intro s1 y hf hk hx
  have hx0 : ∀ v : ST, y = Sum.inr v → V p l e 6 0 s m args below meth c Q KC 395 g B 4 0 v 31 [] [] := fun v e9 => by rw [hx v e9]; exact hX0
  unfold fX1_passMany_2 at hf
  refine v_iload_n (pc := 2) (j := 3) F dX1_passMany_2 rfl rfl ?_
  refine v_iload_n (pc := 3) (j := 2) F dX1_passMany_3 rfl rfl ?_
  refine v_icmp_ge (pc := 4) (tgt := 31) F dX1_passMany_4 (by decide) (fun c1 => ?_) (fun c1 => ?_)
  · have hf := ite_t hf c1
    refine V.sub (lv' := []) [] rfl ?_
    exact hx0 s1.1 (Option.some.inj hf).symm
  · have hf := ite_f hf c1
    refine v_aload_n (pc := 7) (j := 0) F dX1_passMany_7 rfl rfl ?_
    refine v_aload_n (pc := 8) (j := 1) F dX1_passMany_8 rfl rfl ?_
    refine v_aload_n (pc := 9) (j := 0) F dX1_passMany_9 rfl rfl ?_
    refine v_aload_n (pc := 10) (j := 1) F dX1_passMany_10 rfl rfl ?_
    refine v_aload_n (pc := 11) (j := 1) F dX1_passMany_11 rfl rfl ?_
    refine v_ifl (pc := 12) F fl_X1_21 dX1_passMany_12 ho_o2 hk_o2 fv_7_0 ?_
    obtain ⟨r2, e3, hf⟩ := bnd_some hf
    refine v_callSi (pc := 15) (As := [.ref (gA g o1), .ref (gA g o2), .int (s1.1 o2 0)]) F cl_X1_24 dX1_passMany_15 (kX1_windOf ho_o1 hk_o1 ho_o2 hk_o2 e3) rfl rfl (Nat.le_of_ble_eq_true rfl) (by decide) (Nat.zero_le _) ?_
    refine v_aload_n (pc := 18) (j := 0) F dX1_passMany_18 rfl rfl ?_
    refine v_ifl (pc := 19) F fl_X1_30 dX1_passMany_19 ho_o1 hk_o1 fv_1_15 ?_
    obtain ⟨r4, e5, hf⟩ := bnd_some hf
    refine v_callSv (pc := 22) (As := [.ref (gA g o1), .ref (gA g o2), .int r2, .int (s1.1 o1 15)]) F cl_X1_33 dX1_passMany_22 (kX1_pass ho_o1 hk_o1 ho_o2 hk_o2 e5) rfl rfl (Nat.le_of_ble_eq_true rfl) (by decide) (Nat.zero_le _) ?_
    refine v_iinc (pc := 25) (j := 3) (v := s1.2 + 1) (lv' := [(0, .ref (gA g o1)), (1, .ref (gA g o2)), (2, .int l2), (3, .int (s1.2 + 1))]) F dX1_passMany_25 rfl (congrArg (fun z => s1.2 + z) ic_1) (by decide) rfl ?_
    refine v_goto (pc := 28) (tgt := 2) F dX1_passMany_28 (by decide) ?_
    exact hk (r4, s1.2 + 1) (Option.some.inj hf).symm
set_option maxRecDepth 100000 in
set_option maxHeartbeats 4000000 in
theorem kX1_passMany {l : Launch} {g : GE} {B : Nat} {h : ST} {o1 : Nat} (ho_o1 : o1 < 395) (hk_o1 : KC o1 = (1, 0)) {o2 : Nat} (ho_o2 : o2 < 395) (hk_o2 : KC o2 = (7, 0)) {a3 : Int32} {y : ST} (hf : fX1_passMany h o1 o2 a3 = some y) : CT l yX1_passMany cX1_passMany 4 none 6 KC 395 g B [.ref (gA g o1), .ref (gA g o2), .int a3] h none y := by
  refine CT.of pn_X1 (Nat.le_of_ble_eq_true rfl) ?_
  intro p e s m below meth c hr F
  have F : Fx p s m _ meth c cX1_passMany 4 "DustParish$Course" 395 g B := F
  refine V_lv (lv' := [(0, .ref (gA g o1)), (1, .ref (gA g o2)), (2, .int a3)]) rfl ?_
  unfold fX1_passMany at hf
  refine v_iconst (pc := 0) (v := 0) F dX1_passMany_0 ic_0 ?_
  refine v_istore_n (pc := 1) (lv' := [(0, .ref (gA g o1)), (1, .ref (gA g o2)), (2, .int a3), (3, .int 0)]) F dX1_passMany_1 rfl (by decide) rfl ?_
  obtain ⟨x6, e7, hf⟩ := bnd_some hf
  refine tX1_passMany_2 (s0 := (h, 0)) ho_o1 hk_o1 ho_o2 hk_o2 F ?_ e7
  exact v_vret (pc := 31) F hr dX1_passMany_31 (Option.some.inj hf) (Nat.zero_le _)
def fX10_tryDays (h : ST) (a1 : Int32) : Option (ST) :=
  bnd (fX8_copy h 386 43) fun r1 =>
  bnd (rf KC 395 1 (r1 0 3)) fun f3 =>
  bnd (fX1_passMany r1 f3 386 a1) fun r5 =>
  some r5
set_option maxRecDepth 100000 in
set_option maxHeartbeats 4000000 in
theorem kX10_tryDays {l : Launch} {g : GE} {B : Nat} {h : ST} {a1 : Int32} {y : ST} (hf : fX10_tryDays h a1 = some y) : CT l yX10_tryDays cX10_tryDays 2 none 7 KC 395 g B [.ref (gA g 0), .int a1] h none y := by
  refine CT.of pn_X10 (Nat.le_of_ble_eq_true rfl) ?_
  intro p e s m below meth c hr F
  have F : Fx p s m _ meth c cX10_tryDays 2 "DustParish" 395 g B := F
  refine V_lv (lv' := [(0, .ref (gA g 0)), (1, .int a1)]) rfl ?_
  unfold fX10_tryDays at hf
  refine v_aload_n (pc := 0) (j := 0) F dX10_tryDays_0 rfl rfl ?_
  refine v_ifl (pc := 1) F fl_X10_56 dX10_tryDays_1 kc_0.1 kc_0.2 fv_9_9 ?_
  refine v_aload_n (pc := 4) (j := 0) F dX10_tryDays_4 rfl rfl ?_
  refine v_ifl (pc := 5) F fl_X10_42 dX10_tryDays_5 kc_0.1 kc_0.2 fv_9_6 ?_
  refine v_ifl (pc := 8) F fl_X10_122 dX10_tryDays_8 kc_42.1 kc_42.2 fv_2_0 ?_
  obtain ⟨r1, e2, hf⟩ := bnd_some hf
  refine v_callVv (pc := 11) (As := [.ref (gA g 43)]) F cl_X10_241 dX10_tryDays_11 (kX8_copy kc_386.1 kc_386.2 kc_43.1 kc_43.2 e2) kc_386.1 kc_386.2 rc_7 rfl rfl (Nat.le_of_ble_eq_true rfl) (by decide) (Nat.zero_le _) ?_
  refine v_aload_n (pc := 14) (j := 0) F dX10_tryDays_14 rfl rfl ?_
  obtain ⟨f3, e4, hf⟩ := bnd_some hf
  obtain ⟨ho_f3, hk_f3, e4⟩ := rf_in e4
  refine v_ifl (pc := 15) F fl_X10_23 dX10_tryDays_15 kc_0.1 kc_0.2 (fv_9_3 e4) ?_
  refine v_aload_n (pc := 18) (j := 0) F dX10_tryDays_18 rfl rfl ?_
  refine v_ifl (pc := 19) F fl_X10_56 dX10_tryDays_19 kc_0.1 kc_0.2 fv_9_9 ?_
  refine v_iload_n (pc := 22) (j := 1) F dX10_tryDays_22 rfl rfl ?_
  obtain ⟨r5, e6, hf⟩ := bnd_some hf
  refine v_callSv (pc := 23) (As := [.ref (gA g f3), .ref (gA g 386), .int a1]) F cl_X10_214 dX10_tryDays_23 (kX1_passMany ho_f3 hk_f3 kc_386.1 kc_386.2 e6) rfl rfl (Nat.le_of_ble_eq_true rfl) (by decide) (Nat.zero_le _) ?_
  exact v_vret (pc := 26) F hr dX10_tryDays_26 (Option.some.inj hf) (Nat.zero_le _)
def fX10_tryChange_80 (h : ST)  : Option (ST) :=
  some h
def fX10_tryChange (h : ST) (a1 : Int32) (a2 : Int32) (a3 : Int32) : Option (ST) :=
  bnd (fX8_copy h 386 43) fun r1 =>
  bnd (rd 10 (r1 389) a1) fun v3 =>
  bnd (rd 10 (r1 389) a2) fun v5 =>
  if v3 = v5 then
  fX10_tryChange_80 r1 
  else
  bnd (rd 10 (r1 389) a2) fun v8 =>
    bnd (wr 10 r1 389 a1 v8) fun h10 =>
    bnd (wr 10 h10 389 a2 v3) fun h12 =>
    bnd (rf KC 395 1 (h12 0 3)) fun f14 =>
    bnd (fX1_passMany h12 f14 386 a3) fun r16 =>
    fX10_tryChange_80 r16 
set_option maxRecDepth 100000 in
set_option maxHeartbeats 4000000 in
theorem tX10_tryChange_80 {p : Program} {l : Launch} {e : Env} {s : State} {m : MethodId} {args : Array Value} {below : List Frame} {meth : Method} {c : Code} {g : GE} {B : Nat} {h : ST}  (F : Fx p s m args meth c cX10_tryChange 5 "DustParish" 395 g B)
    {y : ST} (hr : meth.sig.returnType = none) (hf : fX10_tryChange_80 h  = some y) : V p l e 7 0 s m args below meth c (MQ below (QO KC 395 g none y) args s 0 (6 * 0) (fun q => B ≤ q)) KC 395 g B 5 0 h 80 [] [] := by
  unfold fX10_tryChange_80 at hf
  exact v_vret (pc := 80) F hr dX10_tryChange_80 (Option.some.inj hf) (Nat.zero_le _)
set_option maxRecDepth 100000 in
set_option maxHeartbeats 4000000 in
theorem kX10_tryChange {l : Launch} {g : GE} {B : Nat} {h : ST} {a1 : Int32} {a2 : Int32} {a3 : Int32} {y : ST} (hf : fX10_tryChange h a1 a2 a3 = some y) : CT l yX10_tryChange cX10_tryChange 5 none 7 KC 395 g B [.ref (gA g 0), .int a1, .int a2, .int a3] h none y := by
  refine CT.of pn_X10 (Nat.le_of_ble_eq_true rfl) ?_
  intro p e s m below meth c hr F
  have F : Fx p s m _ meth c cX10_tryChange 5 "DustParish" 395 g B := F
  refine V_lv (lv' := [(0, .ref (gA g 0)), (1, .int a1), (2, .int a2), (3, .int a3)]) rfl ?_
  unfold fX10_tryChange at hf
  refine v_aload_n (pc := 0) (j := 0) F dX10_tryChange_0 rfl rfl ?_
  refine v_ifl (pc := 1) F fl_X10_56 dX10_tryChange_1 kc_0.1 kc_0.2 fv_9_9 ?_
  refine v_aload_n (pc := 4) (j := 0) F dX10_tryChange_4 rfl rfl ?_
  refine v_ifl (pc := 5) F fl_X10_42 dX10_tryChange_5 kc_0.1 kc_0.2 fv_9_6 ?_
  refine v_ifl (pc := 8) F fl_X10_122 dX10_tryChange_8 kc_42.1 kc_42.2 fv_2_0 ?_
  obtain ⟨r1, e2, hf⟩ := bnd_some hf
  refine v_callVv (pc := 11) (As := [.ref (gA g 43)]) F cl_X10_241 dX10_tryChange_11 (kX8_copy kc_386.1 kc_386.2 kc_43.1 kc_43.2 e2) kc_386.1 kc_386.2 rc_7 rfl rfl (Nat.le_of_ble_eq_true rfl) (by decide) (Nat.zero_le _) ?_
  refine v_aload_n (pc := 14) (j := 0) F dX10_tryChange_14 rfl rfl ?_
  refine v_ifl (pc := 15) F fl_X10_56 dX10_tryChange_15 kc_0.1 kc_0.2 fv_9_9 ?_
  refine v_ifl (pc := 18) F fl_X10_229 dX10_tryChange_18 kc_386.1 kc_386.2 fv_7_5 ?_
  refine v_iload_n (pc := 21) (j := 1) F dX10_tryChange_21 rfl rfl ?_
  obtain ⟨v3, e4, hf⟩ := bnd_some hf
  refine v_iald (pc := 22) F dX10_tryChange_22 kc_389.1 kc_389.2 e4 ?_
  refine v_istore (pc := 23) (lv' := [(0, .ref (gA g 0)), (1, .int a1), (2, .int a2), (3, .int a3), (4, .int v3)]) F dX10_tryChange_23 (by decide) rfl ?_
  refine v_iload (pc := 25) (j := 4) F dX10_tryChange_25 rfl ?_
  refine v_aload_n (pc := 27) (j := 0) F dX10_tryChange_27 rfl rfl ?_
  refine v_ifl (pc := 28) F fl_X10_56 dX10_tryChange_28 kc_0.1 kc_0.2 fv_9_9 ?_
  refine v_ifl (pc := 31) F fl_X10_229 dX10_tryChange_31 kc_386.1 kc_386.2 fv_7_5 ?_
  refine v_iload_n (pc := 34) (j := 2) F dX10_tryChange_34 rfl rfl ?_
  obtain ⟨v5, e6, hf⟩ := bnd_some hf
  refine v_iald (pc := 35) F dX10_tryChange_35 kc_389.1 kc_389.2 e6 ?_
  refine v_icmp_eq (pc := 36) (tgt := 80) F dX10_tryChange_36 (by decide) (fun c7 => ?_) (fun c7 => ?_)
  · have hf := ite_t hf c7
    refine V.sub (lv' := []) [] rfl ?_
    exact tX10_tryChange_80 F hr hf
  · have hf := ite_f hf c7
    refine v_aload_n (pc := 39) (j := 0) F dX10_tryChange_39 rfl rfl ?_
    refine v_ifl (pc := 40) F fl_X10_56 dX10_tryChange_40 kc_0.1 kc_0.2 fv_9_9 ?_
    refine v_ifl (pc := 43) F fl_X10_229 dX10_tryChange_43 kc_386.1 kc_386.2 fv_7_5 ?_
    refine v_iload_n (pc := 46) (j := 1) F dX10_tryChange_46 rfl rfl ?_
    refine v_aload_n (pc := 47) (j := 0) F dX10_tryChange_47 rfl rfl ?_
    refine v_ifl (pc := 48) F fl_X10_56 dX10_tryChange_48 kc_0.1 kc_0.2 fv_9_9 ?_
    refine v_ifl (pc := 51) F fl_X10_229 dX10_tryChange_51 kc_386.1 kc_386.2 fv_7_5 ?_
    refine v_iload_n (pc := 54) (j := 2) F dX10_tryChange_54 rfl rfl ?_
    obtain ⟨v8, e9, hf⟩ := bnd_some hf
    refine v_iald (pc := 55) F dX10_tryChange_55 kc_389.1 kc_389.2 e9 ?_
    obtain ⟨h10, e11, hf⟩ := bnd_some hf
    refine v_iast (pc := 56) F dX10_tryChange_56 kc_389.1 kc_389.2 e11 ?_
    refine v_aload_n (pc := 57) (j := 0) F dX10_tryChange_57 rfl rfl ?_
    refine v_ifl (pc := 58) F fl_X10_56 dX10_tryChange_58 kc_0.1 kc_0.2 fv_9_9 ?_
    refine v_ifl (pc := 61) F fl_X10_229 dX10_tryChange_61 kc_386.1 kc_386.2 fv_7_5 ?_
    refine v_iload_n (pc := 64) (j := 2) F dX10_tryChange_64 rfl rfl ?_
    refine v_iload (pc := 65) (j := 4) F dX10_tryChange_65 rfl ?_
    obtain ⟨h12, e13, hf⟩ := bnd_some hf
    refine v_iast (pc := 67) F dX10_tryChange_67 kc_389.1 kc_389.2 e13 ?_
    refine v_aload_n (pc := 68) (j := 0) F dX10_tryChange_68 rfl rfl ?_
    obtain ⟨f14, e15, hf⟩ := bnd_some hf
    obtain ⟨ho_f14, hk_f14, e15⟩ := rf_in e15
    refine v_ifl (pc := 69) F fl_X10_23 dX10_tryChange_69 kc_0.1 kc_0.2 (fv_9_3 e15) ?_
    refine v_aload_n (pc := 72) (j := 0) F dX10_tryChange_72 rfl rfl ?_
    refine v_ifl (pc := 73) F fl_X10_56 dX10_tryChange_73 kc_0.1 kc_0.2 fv_9_9 ?_
    refine v_iload_n (pc := 76) (j := 3) F dX10_tryChange_76 rfl rfl ?_
    obtain ⟨r16, e17, hf⟩ := bnd_some hf
    refine v_callSv (pc := 77) (As := [.ref (gA g f14), .ref (gA g 386), .int a3]) F cl_X10_214 dX10_tryChange_77 (kX1_passMany ho_f14 hk_f14 kc_386.1 kc_386.2 e17) rfl rfl (Nat.le_of_ble_eq_true rfl) (by decide) (Nat.zero_le _) ?_
    refine V.sub (lv' := []) [] rfl ?_
    exact tX10_tryChange_80 F hr hf
def fX1_dustInAll_4 (h : ST) (o1 : Nat) (o2 : Nat) (s1 : (Int32 × Int32)) : Option ((Int32 × Int32) ⊕ Int32) :=
  if (h o1 0) ≤ s1.2 then
  some (.inr s1.1)
  else
  bnd (rd 9 (h (o2 + 1)) s1.2) fun v2 =>
    some (.inl (s1.1 + v2, s1.2 + 1))
def fX1_dustInAll (h : ST) (o1 : Nat) (o2 : Nat) : Option (Int32) :=
  bnd (lp FU (fX1_dustInAll_4 h o1 o2) (0, 0)) fun x4 =>
  some x4
set_option maxRecDepth 100000 in
set_option maxHeartbeats 4000000 in
theorem tX1_dustInAll_4 {p : Program} {l : Launch} {e : Env} {s : State} {m : MethodId} {args : Array Value} {below : List Frame} {meth : Method} {c : Code} {g : GE} {B : Nat} {h : ST} {o1 : Nat} (ho_o1 : o1 < 395) (hk_o1 : KC o1 = (1, 0)) {o2 : Nat} (ho_o2 : o2 < 395) (hk_o2 : KC o2 = (7, 0)) {Q : State → Prop} {x : Int32} {nf : Nat} {s0 : (Int32 × Int32)} (F : Fx p s m args meth c cX1_dustInAll 4 "DustParish$Course" 395 g B) (hX0 : V p l e 1 0 s m args below meth c Q KC 395 g B 4 0 h 27 [(2, .int x)] []) (hl : lp nf (fX1_dustInAll_4 h o1 o2) s0 = some x) : V p l e 1 0 s m args below meth c Q KC 395 g B 4 0 h 4 [(0, .ref (gA g o1)), (1, .ref (gA g o2)), (2, .int s0.1), (3, .int s0.2)] [] := by
  refine lp_ind (P := fun s0 => V p l e 1 0 s m args below meth c Q KC 395 g B 4 0 h 4 [(0, .ref (gA g o1)), (1, .ref (gA g o2)), (2, .int s0.1), (3, .int s0.2)] []) ?_ nf s0 hl
  intro s1 y hf hk hx
  have hx0 : ∀ v : Int32, y = Sum.inr v → V p l e 1 0 s m args below meth c Q KC 395 g B 4 0 h 27 [(2, .int v)] [] := fun v e9 => by rw [hx v e9]; exact hX0
  unfold fX1_dustInAll_4 at hf
  refine v_iload_n (pc := 4) (j := 3) F dX1_dustInAll_4 rfl rfl ?_
  refine v_aload_n (pc := 5) (j := 0) F dX1_dustInAll_5 rfl rfl ?_
  refine v_ifl (pc := 6) F fl_X1_37 dX1_dustInAll_6 ho_o1 hk_o1 fv_1_0 ?_
  refine v_icmp_ge (pc := 9) (tgt := 27) F dX1_dustInAll_9 (by decide) (fun c1 => ?_) (fun c1 => ?_)
  · have hf := ite_t hf c1
    refine V.sub (lv' := [(2, .int s1.1)]) [2] rfl ?_
    exact hx0 s1.1 (Option.some.inj hf).symm
  · have hf := ite_f hf c1
    refine v_iload_n (pc := 12) (j := 2) F dX1_dustInAll_12 rfl rfl ?_
    refine v_aload_n (pc := 13) (j := 1) F dX1_dustInAll_13 rfl rfl ?_
    refine v_ifl (pc := 14) F fl_X1_62 dX1_dustInAll_14 ho_o2 hk_o2 fv_7_3 ?_
    refine v_iload_n (pc := 17) (j := 3) F dX1_dustInAll_17 rfl rfl ?_
    obtain ⟨v2, e3, hf⟩ := bnd_some hf
    refine v_iald (pc := 18) F dX1_dustInAll_18 (ly_7_3 ho_o2 hk_o2).1 (ly_7_3 ho_o2 hk_o2).2 e3 ?_
    refine v_iadd (pc := 19) F dX1_dustInAll_19 ?_
    refine v_istore_n (pc := 20) (lv' := [(0, .ref (gA g o1)), (1, .ref (gA g o2)), (2, .int (s1.1 + v2)), (3, .int s1.2)]) F dX1_dustInAll_20 rfl (by decide) rfl ?_
    refine v_iinc (pc := 21) (j := 3) (v := s1.2 + 1) (lv' := [(0, .ref (gA g o1)), (1, .ref (gA g o2)), (2, .int (s1.1 + v2)), (3, .int (s1.2 + 1))]) F dX1_dustInAll_21 rfl (congrArg (fun z => s1.2 + z) ic_1) (by decide) rfl ?_
    refine v_goto (pc := 24) (tgt := 4) F dX1_dustInAll_24 (by decide) ?_
    exact hk (s1.1 + v2, s1.2 + 1) (Option.some.inj hf).symm
set_option maxRecDepth 100000 in
set_option maxHeartbeats 4000000 in
theorem kX1_dustInAll {l : Launch} {g : GE} {B : Nat} {h : ST} {o1 : Nat} (ho_o1 : o1 < 395) (hk_o1 : KC o1 = (1, 0)) {o2 : Nat} (ho_o2 : o2 < 395) (hk_o2 : KC o2 = (7, 0)) {y : Int32} (hf : fX1_dustInAll h o1 o2 = some y) : CT l yX1_dustInAll cX1_dustInAll 4 (some .int) 1 KC 395 g B [.ref (gA g o1), .ref (gA g o2)] h (some (.int y)) h := by
  refine CT.of pn_X1 (Nat.le_of_ble_eq_true rfl) ?_
  intro p e s m below meth c hr F
  have F : Fx p s m _ meth c cX1_dustInAll 4 "DustParish$Course" 395 g B := F
  refine V_lv (lv' := [(0, .ref (gA g o1)), (1, .ref (gA g o2))]) rfl ?_
  unfold fX1_dustInAll at hf
  refine v_iconst (pc := 0) (v := 0) F dX1_dustInAll_0 ic_0 ?_
  refine v_istore_n (pc := 1) (lv' := [(0, .ref (gA g o1)), (1, .ref (gA g o2)), (2, .int 0)]) F dX1_dustInAll_1 rfl (by decide) rfl ?_
  refine v_iconst (pc := 2) (v := 0) F dX1_dustInAll_2 ic_0 ?_
  refine v_istore_n (pc := 3) (lv' := [(0, .ref (gA g o1)), (1, .ref (gA g o2)), (2, .int 0), (3, .int 0)]) F dX1_dustInAll_3 rfl (by decide) rfl ?_
  obtain ⟨x4, e5, hf⟩ := bnd_some hf
  refine tX1_dustInAll_4 (s0 := (0, 0)) ho_o1 hk_o1 ho_o2 hk_o2 F ?_ e5
  refine v_iload_n (pc := 27) (j := 0) F dX1_dustInAll_27 rfl rfl ?_
  exact v_iret (pc := 28) F hr dX1_dustInAll_28 (Option.some.inj hf) rfl (Nat.zero_le _)
def fX1_heretics_32 (h : ST) (o1 : Nat) (o2 : Nat) (l2 : Int32) (l3 : Int32) : Option ((Int32 × Int32) ⊕ Int32) :=
  some (.inl (l2, l3 + 1))
def fX1_heretics_4 (h : ST) (o1 : Nat) (o2 : Nat) (s1 : (Int32 × Int32)) : Option ((Int32 × Int32) ⊕ Int32) :=
  if (h o1 0) ≤ s1.2 then
  some (.inr s1.1)
  else
  bnd (fX1_isUnclean h o1 o2 s1.2) fun r2 =>
    if r2 = 0 then
    fX1_heretics_32 h o1 o2 s1.1 s1.2
    else
    bnd (rd 9 (h (o1 + 2)) s1.2) fun v5 =>
      fX1_heretics_32 h o1 o2 (s1.1 ||| ((1 : Int32) <<< (v5 &&& 31))) s1.2
def fX1_heretics (h : ST) (o1 : Nat) (o2 : Nat) : Option (Int32) :=
  bnd (lp FU (fX1_heretics_4 h o1 o2) (0, 0)) fun x7 =>
  some x7
set_option maxRecDepth 100000 in
set_option maxHeartbeats 4000000 in
theorem tX1_heretics_32 {p : Program} {l : Launch} {e : Env} {s : State} {m : MethodId} {args : Array Value} {below : List Frame} {meth : Method} {c : Code} {g : GE} {B : Nat} {h : ST} {o1 : Nat} (ho_o1 : o1 < 395) (hk_o1 : KC o1 = (1, 0)) {o2 : Nat} (ho_o2 : o2 < 395) (hk_o2 : KC o2 = (7, 0)) {l2 : Int32} {l3 : Int32} (F : Fx p s m args meth c cX1_heretics 4 "DustParish$Course" 395 g B)
    {Q : State → Prop} {y : (Int32 × Int32) ⊕ Int32} (hk : ∀ v : (Int32 × Int32), y = Sum.inl v → V p l e 2 0 s m args below meth c Q KC 395 g B 4 0 h 4 [(0, .ref (gA g o1)), (1, .ref (gA g o2)), (2, .int v.1), (3, .int v.2)] []) (hx0 : ∀ v : Int32, y = Sum.inr v → V p l e 2 0 s m args below meth c Q KC 395 g B 4 0 h 38 [(2, .int v)] []) (hf : fX1_heretics_32 h o1 o2 l2 l3 = some y) : V p l e 2 0 s m args below meth c Q KC 395 g B 4 0 h 32 [(0, .ref (gA g o1)), (1, .ref (gA g o2)), (2, .int l2), (3, .int l3)] [] := by
  unfold fX1_heretics_32 at hf
  refine v_iinc (pc := 32) (j := 3) (v := l3 + 1) (lv' := [(0, .ref (gA g o1)), (1, .ref (gA g o2)), (2, .int l2), (3, .int (l3 + 1))]) F dX1_heretics_32 rfl (congrArg (fun z => l3 + z) ic_1) (by decide) rfl ?_
  refine v_goto (pc := 35) (tgt := 4) F dX1_heretics_35 (by decide) ?_
  exact hk (l2, l3 + 1) (Option.some.inj hf).symm
set_option maxRecDepth 100000 in
set_option maxHeartbeats 4000000 in
theorem tX1_heretics_4 {p : Program} {l : Launch} {e : Env} {s : State} {m : MethodId} {args : Array Value} {below : List Frame} {meth : Method} {c : Code} {g : GE} {B : Nat} {h : ST} {o1 : Nat} (ho_o1 : o1 < 395) (hk_o1 : KC o1 = (1, 0)) {o2 : Nat} (ho_o2 : o2 < 395) (hk_o2 : KC o2 = (7, 0)) {Q : State → Prop} {x : Int32} {nf : Nat} {s0 : (Int32 × Int32)} (F : Fx p s m args meth c cX1_heretics 4 "DustParish$Course" 395 g B) (hX0 : V p l e 2 0 s m args below meth c Q KC 395 g B 4 0 h 38 [(2, .int x)] []) (hl : lp nf (fX1_heretics_4 h o1 o2) s0 = some x) : V p l e 2 0 s m args below meth c Q KC 395 g B 4 0 h 4 [(0, .ref (gA g o1)), (1, .ref (gA g o2)), (2, .int s0.1), (3, .int s0.2)] [] := by
  refine lp_ind (P := fun s0 => V p l e 2 0 s m args below meth c Q KC 395 g B 4 0 h 4 [(0, .ref (gA g o1)), (1, .ref (gA g o2)), (2, .int s0.1), (3, .int s0.2)] []) ?_ nf s0 hl
  intro s1 y hf hk hx
  have hx0 : ∀ v : Int32, y = Sum.inr v → V p l e 2 0 s m args below meth c Q KC 395 g B 4 0 h 38 [(2, .int v)] [] := fun v e9 => by rw [hx v e9]; exact hX0
  unfold fX1_heretics_4 at hf
  refine v_iload_n (pc := 4) (j := 3) F dX1_heretics_4 rfl rfl ?_
  refine v_aload_n (pc := 5) (j := 0) F dX1_heretics_5 rfl rfl ?_
  refine v_ifl (pc := 6) F fl_X1_37 dX1_heretics_6 ho_o1 hk_o1 fv_1_0 ?_
  refine v_icmp_ge (pc := 9) (tgt := 38) F dX1_heretics_9 (by decide) (fun c1 => ?_) (fun c1 => ?_)
  · have hf := ite_t hf c1
    refine V.sub (lv' := [(2, .int s1.1)]) [2] rfl ?_
    exact hx0 s1.1 (Option.some.inj hf).symm
  · have hf := ite_f hf c1
    refine v_aload_n (pc := 12) (j := 0) F dX1_heretics_12 rfl rfl ?_
    refine v_aload_n (pc := 13) (j := 1) F dX1_heretics_13 rfl rfl ?_
    refine v_iload_n (pc := 14) (j := 3) F dX1_heretics_14 rfl rfl ?_
    obtain ⟨r2, e3, hf⟩ := bnd_some hf
    refine v_callSi (pc := 15) (As := [.ref (gA g o1), .ref (gA g o2), .int s1.2]) F cl_X1_121 dX1_heretics_15 (kX1_isUnclean ho_o1 hk_o1 ho_o2 hk_o2 e3) rfl rfl (Nat.le_of_ble_eq_true rfl) (by decide) (Nat.zero_le _) ?_
    refine v_if_eq (pc := 18) (tgt := 32) F dX1_heretics_18 (by decide) (fun c4 => ?_) (fun c4 => ?_)
    · have hf := ite_t hf c4
      exact tX1_heretics_32 ho_o1 hk_o1 ho_o2 hk_o2 F hk hx0 hf
    · have hf := ite_f hf c4
      refine v_iload_n (pc := 21) (j := 2) F dX1_heretics_21 rfl rfl ?_
      refine v_iconst (pc := 22) (v := 1) F dX1_heretics_22 ic_1 ?_
      refine v_aload_n (pc := 23) (j := 0) F dX1_heretics_23 rfl rfl ?_
      refine v_ifl (pc := 24) F fl_X1_103 dX1_heretics_24 ho_o1 hk_o1 fv_1_2 ?_
      refine v_iload_n (pc := 27) (j := 3) F dX1_heretics_27 rfl rfl ?_
      obtain ⟨v5, e6, hf⟩ := bnd_some hf
      refine v_iald (pc := 28) F dX1_heretics_28 (ly_1_2 ho_o1 hk_o1).1 (ly_1_2 ho_o1 hk_o1).2 e6 ?_
      refine v_ishl (pc := 29) F dX1_heretics_29 ?_
      refine v_ior (pc := 30) F dX1_heretics_30 ?_
      refine v_istore_n (pc := 31) (lv' := [(0, .ref (gA g o1)), (1, .ref (gA g o2)), (2, .int (s1.1 ||| ((1 : Int32) <<< (v5 &&& 31)))), (3, .int s1.2)]) F dX1_heretics_31 rfl (by decide) rfl ?_
      exact tX1_heretics_32 ho_o1 hk_o1 ho_o2 hk_o2 F hk hx0 hf
set_option maxRecDepth 100000 in
set_option maxHeartbeats 4000000 in
theorem kX1_heretics {l : Launch} {g : GE} {B : Nat} {h : ST} {o1 : Nat} (ho_o1 : o1 < 395) (hk_o1 : KC o1 = (1, 0)) {o2 : Nat} (ho_o2 : o2 < 395) (hk_o2 : KC o2 = (7, 0)) {y : Int32} (hf : fX1_heretics h o1 o2 = some y) : CT l yX1_heretics cX1_heretics 4 (some .int) 2 KC 395 g B [.ref (gA g o1), .ref (gA g o2)] h (some (.int y)) h := by
  refine CT.of pn_X1 (Nat.le_of_ble_eq_true rfl) ?_
  intro p e s m below meth c hr F
  have F : Fx p s m _ meth c cX1_heretics 4 "DustParish$Course" 395 g B := F
  refine V_lv (lv' := [(0, .ref (gA g o1)), (1, .ref (gA g o2))]) rfl ?_
  unfold fX1_heretics at hf
  refine v_iconst (pc := 0) (v := 0) F dX1_heretics_0 ic_0 ?_
  refine v_istore_n (pc := 1) (lv' := [(0, .ref (gA g o1)), (1, .ref (gA g o2)), (2, .int 0)]) F dX1_heretics_1 rfl (by decide) rfl ?_
  refine v_iconst (pc := 2) (v := 0) F dX1_heretics_2 ic_0 ?_
  refine v_istore_n (pc := 3) (lv' := [(0, .ref (gA g o1)), (1, .ref (gA g o2)), (2, .int 0), (3, .int 0)]) F dX1_heretics_3 rfl (by decide) rfl ?_
  obtain ⟨x7, e8, hf⟩ := bnd_some hf
  refine tX1_heretics_4 (s0 := (0, 0)) ho_o1 hk_o1 ho_o2 hk_o2 F ?_ e8
  refine v_iload_n (pc := 38) (j := 0) F dX1_heretics_38 rfl rfl ?_
  exact v_iret (pc := 39) F hr dX1_heretics_39 (Option.some.inj hf) rfl (Nat.zero_le _)
def fX10_refuse (h : ST) (a1 : Int32) : Option (Int32 × ST) :=
  bnd (rd 3 (h 213) a1) fun v1 =>
  bnd (wr 3 h 213 a1 (v1 + 1)) fun h3 =>
  some ((-1), h3)
set_option maxRecDepth 100000 in
set_option maxHeartbeats 4000000 in
theorem kX10_refuse {l : Launch} {g : GE} {B : Nat} {h : ST} {a1 : Int32} {y : Int32 × ST} (hf : fX10_refuse h a1 = some y) : CT l yX10_refuse cX10_refuse 2 (some .int) 1 KC 395 g B [.ref (gA g 0), .int a1] h (some (.int y.1)) y.2 := by
  refine CT.of pn_X10 (Nat.le_of_ble_eq_true rfl) ?_
  intro p e s m below meth c hr F
  have F : Fx p s m _ meth c cX10_refuse 2 "DustParish" 395 g B := F
  refine V_lv (lv' := [(0, .ref (gA g 0)), (1, .int a1)]) rfl ?_
  unfold fX10_refuse at hf
  refine v_aload_n (pc := 0) (j := 0) F dX10_refuse_0 rfl rfl ?_
  refine v_ifl (pc := 1) F fl_X10_42 dX10_refuse_1 kc_0.1 kc_0.2 fv_9_6 ?_
  refine v_ifl (pc := 4) F fl_X10_94 dX10_refuse_4 kc_42.1 kc_42.2 fv_2_3 ?_
  refine v_iload_n (pc := 7) (j := 1) F dX10_refuse_7 rfl rfl ?_
  refine v_dup2_11 (pc := 8) F dX10_refuse_8 rfl rfl ?_
  obtain ⟨v1, e2, hf⟩ := bnd_some hf
  refine v_iald (pc := 9) F dX10_refuse_9 kc_213.1 kc_213.2 e2 ?_
  refine v_iconst (pc := 10) (v := 1) F dX10_refuse_10 ic_1 ?_
  refine v_iadd (pc := 11) F dX10_refuse_11 ?_
  obtain ⟨h3, e4, hf⟩ := bnd_some hf
  refine v_iast (pc := 12) F dX10_refuse_12 kc_213.1 kc_213.2 e4 ?_
  refine v_iconst (pc := 13) (v := (-1)) F dX10_refuse_13 ic_m1 ?_
  exact v_iret (pc := 14) F hr dX10_refuse_14 (some_fst hf) (some_snd hf) (Nat.zero_le _)
def fX0_remember_32 (h : ST) (o : Nat) (o1 : Nat)  : Option (ST) :=
  bnd (bst (o + 1) (((h o 1) + (h o 0)) - ((h o 1) + (h o 0)) / 40 * 40)) fun f2 =>
  bnd (fX8_copy h f2 o1) fun r4 =>
  bnd (pw r4 o 0 ((r4 o 0) + 1)) fun h6 =>
  some h6
def fX0_remember (h : ST) (o : Nat) (o1 : Nat) : Option (ST) :=
  if (h o 0) = 40 then
  bnd (pw h o 1 (((h o 1) + 1) - ((h o 1) + 1) / 40 * 40)) fun h8 =>
    bnd (pw h8 o 0 ((h8 o 0) - 1)) fun h10 =>
    fX0_remember_32 h10 o o1 
  else
  fX0_remember_32 h o o1 
set_option maxRecDepth 100000 in
set_option maxHeartbeats 4000000 in
theorem tX0_remember_32 {p : Program} {l : Launch} {e : Env} {s : State} {m : MethodId} {args : Array Value} {below : List Frame} {meth : Method} {c : Code} {g : GE} {B : Nat} {h : ST} {o : Nat} (ho_o : o < 395) (hk_o : KC o = (0, 0)) {o1 : Nat} (ho_o1 : o1 < 395) (hk_o1 : KC o1 = (7, 0)) (F : Fx p s m args meth c cX0_remember 2 "DustParish$Acts" 395 g B)
    {y : ST} (hr : meth.sig.returnType = none) (hf : fX0_remember_32 h o o1  = some y) : V p l e 2 0 s m args below meth c (MQ below (QO KC 395 g none y) args s 0 (6 * 0) (fun q => B ≤ q)) KC 395 g B 2 0 h 32 [(0, .ref (gA g o)), (1, .ref (gA g o1))] [] := by
  unfold fX0_remember_32 at hf
  refine v_aload_n (pc := 32) (j := 0) F dX0_remember_32 rfl rfl ?_
  refine v_ifl (pc := 33) F fl_X0_20 dX0_remember_33 ho_o hk_o fv_0_2 ?_
  refine v_aload_n (pc := 36) (j := 0) F dX0_remember_36 rfl rfl ?_
  refine v_ifl (pc := 37) F fl_X0_15 dX0_remember_37 ho_o hk_o fv_0_1 ?_
  refine v_aload_n (pc := 40) (j := 0) F dX0_remember_40 rfl rfl ?_
  refine v_ifl (pc := 41) F fl_X0_9 dX0_remember_41 ho_o hk_o fv_0_0 ?_
  refine v_iadd (pc := 44) F dX0_remember_44 ?_
  refine v_bipush (pc := 45) (v := 40) F dX0_remember_45 bp_40 ?_
  refine v_irem (pc := 47) F dX0_remember_47 (by decide) ?_
  obtain ⟨f2, e3, hf⟩ := bnd_some hf
  obtain ⟨ho_f2, hk_f2, hv_f2, e3⟩ := bst_in (ly_0_2 ho_o hk_o).1 (ly_0_2 ho_o hk_o).2 e3
  refine v_aald (pc := 48) (v := .ref (gA g f2)) F dX0_remember_48 (ly_0_2 ho_o hk_o).1 (ly_0_2 ho_o hk_o).2 (by decide) (by decide) hv_f2 (av23 e3) ?_
  refine v_aload_n (pc := 49) (j := 1) F dX0_remember_49 rfl rfl ?_
  obtain ⟨r4, e5, hf⟩ := bnd_some hf
  refine v_callVv (pc := 50) (As := [.ref (gA g o1)]) F cl_X0_25 dX0_remember_50 (kX8_copy ho_f2 hk_f2 ho_o1 hk_o1 e5) ho_f2 hk_f2 rc_7 rfl rfl (Nat.le_of_ble_eq_true rfl) (by decide) (Nat.zero_le _) ?_
  refine v_aload_n (pc := 53) (j := 0) F dX0_remember_53 rfl rfl ?_
  refine v_dup (pc := 54) F dX0_remember_54 rfl ?_
  refine v_ifl (pc := 55) F fl_X0_9 dX0_remember_55 ho_o hk_o fv_0_0 ?_
  refine v_iconst (pc := 58) (v := 1) F dX0_remember_58 ic_1 ?_
  refine v_iadd (pc := 59) F dX0_remember_59 ?_
  obtain ⟨h6, e7, hf⟩ := bnd_some hf
  refine v_pfl (pc := 60) F fl_X0_9 pl_0_0 dX0_remember_60 ho_o hk_o fv_0_0 rfl rfl e7 ?_
  exact v_vret (pc := 63) F hr dX0_remember_63 (Option.some.inj hf) (Nat.zero_le _)
set_option maxRecDepth 100000 in
set_option maxHeartbeats 4000000 in
theorem kX0_remember {l : Launch} {g : GE} {B : Nat} {h : ST} {o : Nat} (ho_o : o < 395) (hk_o : KC o = (0, 0)) {o1 : Nat} (ho_o1 : o1 < 395) (hk_o1 : KC o1 = (7, 0)) {y : ST} (hf : fX0_remember h o o1 = some y) : CT l yX0_remember cX0_remember 2 none 2 KC 395 g B [.ref (gA g o), .ref (gA g o1)] h none y := by
  refine CT.of pn_X0 (Nat.le_of_ble_eq_true rfl) ?_
  intro p e s m below meth c hr F
  have F : Fx p s m _ meth c cX0_remember 2 "DustParish$Acts" 395 g B := F
  refine V_lv (lv' := [(0, .ref (gA g o)), (1, .ref (gA g o1))]) rfl ?_
  unfold fX0_remember at hf
  refine v_aload_n (pc := 0) (j := 0) F dX0_remember_0 rfl rfl ?_
  refine v_ifl (pc := 1) F fl_X0_9 dX0_remember_1 ho_o hk_o fv_0_0 ?_
  refine v_bipush (pc := 4) (v := 40) F dX0_remember_4 bp_40 ?_
  refine v_icmp_ne (pc := 6) (tgt := 32) F dX0_remember_6 (by decide) (fun c1 => ?_) (fun c1 => ?_)
  · have hf := ite_f hf c1
    exact tX0_remember_32 ho_o hk_o ho_o1 hk_o1 F hr hf
  · have hf := ite_t hf c1
    refine v_aload_n (pc := 9) (j := 0) F dX0_remember_9 rfl rfl ?_
    refine v_aload_n (pc := 10) (j := 0) F dX0_remember_10 rfl rfl ?_
    refine v_ifl (pc := 11) F fl_X0_15 dX0_remember_11 ho_o hk_o fv_0_1 ?_
    refine v_iconst (pc := 14) (v := 1) F dX0_remember_14 ic_1 ?_
    refine v_iadd (pc := 15) F dX0_remember_15 ?_
    refine v_bipush (pc := 16) (v := 40) F dX0_remember_16 bp_40 ?_
    refine v_irem (pc := 18) F dX0_remember_18 (by decide) ?_
    obtain ⟨h8, e9, hf⟩ := bnd_some hf
    refine v_pfl (pc := 19) F fl_X0_15 pl_0_1 dX0_remember_19 ho_o hk_o fv_0_1 rfl rfl e9 ?_
    refine v_aload_n (pc := 22) (j := 0) F dX0_remember_22 rfl rfl ?_
    refine v_dup (pc := 23) F dX0_remember_23 rfl ?_
    refine v_ifl (pc := 24) F fl_X0_9 dX0_remember_24 ho_o hk_o fv_0_0 ?_
    refine v_iconst (pc := 27) (v := 1) F dX0_remember_27 ic_1 ?_
    refine v_isub (pc := 28) F dX0_remember_28 ?_
    obtain ⟨h10, e11, hf⟩ := bnd_some hf
    refine v_pfl (pc := 29) F fl_X0_9 pl_0_0 dX0_remember_29 ho_o hk_o fv_0_0 rfl rfl e11 ?_
    exact tX0_remember_32 ho_o hk_o ho_o1 hk_o1 F hr hf
def fX10_days_29 (h : ST)  : Option (Int32 × ST) :=
  bnd (fX10_refuse h 1) fun r2 =>
  some (r2.1, r2.2)
def fX10_days (h : ST) (a1 : Int32) : Option (Int32 × ST) :=
  if a1 < 1 then
  fX10_days_29 h 
  else
  if 30 < a1 then
    fX10_days_29 h 
    else
    if ((h 43 0) + a1) ≤ 999 then
      bnd (fX0_remember h 47 43) fun r6 =>
        bnd (rf KC 395 1 (r6 0 3)) fun f8 =>
        bnd (fX1_passMany r6 f8 43 a1) fun r10 =>
        some (r10 43 0, r10)
      else
      fX10_days_29 h 
set_option maxRecDepth 100000 in
set_option maxHeartbeats 4000000 in
theorem tX10_days_29 {p : Program} {l : Launch} {e : Env} {s : State} {m : MethodId} {args : Array Value} {below : List Frame} {meth : Method} {c : Code} {g : GE} {B : Nat} {h : ST}  (F : Fx p s m args meth c cX10_days 2 "DustParish" 395 g B)
    {y : Int32 × ST} (hr : meth.sig.returnType = (some .int)) (hf : fX10_days_29 h  = some y) : V p l e 7 0 s m args below meth c (MQ below (QO KC 395 g (some (.int y.1)) y.2) args s 0 (6 * 0) (fun q => B ≤ q)) KC 395 g B 2 0 h 29 [(0, .ref (gA g 0))] [] := by
  unfold fX10_days_29 at hf
  refine v_aload_n (pc := 29) (j := 0) F dX10_days_29 rfl rfl ?_
  refine v_iconst (pc := 30) (v := 1) F dX10_days_30 ic_1 ?_
  obtain ⟨r2, e3, hf⟩ := bnd_some hf
  refine v_callVi (pc := 31) (As := [.int 1]) F cl_X10_207 dX10_days_31 (kX10_refuse e3) kc_0.1 kc_0.2 rc_9 rfl rfl (Nat.le_of_ble_eq_true rfl) (by decide) (Nat.zero_le _) ?_
  exact v_iret (pc := 34) F hr dX10_days_34 (some_fst hf) (some_snd hf) (Nat.zero_le _)
set_option maxRecDepth 100000 in
set_option maxHeartbeats 4000000 in
theorem kX10_days {l : Launch} {g : GE} {B : Nat} {h : ST} {a1 : Int32} {y : Int32 × ST} (hf : fX10_days h a1 = some y) : CT l yX10_days cX10_days 2 (some .int) 7 KC 395 g B [.ref (gA g 0), .int a1] h (some (.int y.1)) y.2 := by
  refine CT.of pn_X10 (Nat.le_of_ble_eq_true rfl) ?_
  intro p e s m below meth c hr F
  have F : Fx p s m _ meth c cX10_days 2 "DustParish" 395 g B := F
  refine V_lv (lv' := [(0, .ref (gA g 0)), (1, .int a1)]) rfl ?_
  unfold fX10_days at hf
  refine v_iload_n (pc := 0) (j := 1) F dX10_days_0 rfl rfl ?_
  refine v_iconst (pc := 1) (v := 1) F dX10_days_1 ic_1 ?_
  refine v_icmp_lt (pc := 2) (tgt := 29) F dX10_days_2 (by decide) (fun c1 => ?_) (fun c1 => ?_)
  · have hf := ite_t hf c1
    refine V.sub (lv' := [(0, .ref (gA g 0))]) [0] rfl ?_
    exact tX10_days_29 F hr hf
  · have hf := ite_f hf c1
    refine v_iload_n (pc := 5) (j := 1) F dX10_days_5 rfl rfl ?_
    refine v_bipush (pc := 6) (v := 30) F dX10_days_6 bp_30 ?_
    refine v_icmp_gt (pc := 8) (tgt := 29) F dX10_days_8 (by decide) (fun c4 => ?_) (fun c4 => ?_)
    · have hf := ite_t hf c4
      refine V.sub (lv' := [(0, .ref (gA g 0))]) [0] rfl ?_
      exact tX10_days_29 F hr hf
    · have hf := ite_f hf c4
      refine v_aload_n (pc := 11) (j := 0) F dX10_days_11 rfl rfl ?_
      refine v_ifl (pc := 12) F fl_X10_42 dX10_days_12 kc_0.1 kc_0.2 fv_9_6 ?_
      refine v_ifl (pc := 15) F fl_X10_122 dX10_days_15 kc_42.1 kc_42.2 fv_2_0 ?_
      refine v_ifl (pc := 18) F fl_X10_125 dX10_days_18 kc_43.1 kc_43.2 fv_7_0 ?_
      refine v_iload_n (pc := 21) (j := 1) F dX10_days_21 rfl rfl ?_
      refine v_iadd (pc := 22) F dX10_days_22 ?_
      refine v_sipush (pc := 23) (v := 999) F dX10_days_23 sp_999 ?_
      refine v_icmp_le (pc := 26) (tgt := 35) F dX10_days_26 (by decide) (fun c5 => ?_) (fun c5 => ?_)
      · have hf := ite_t hf c5
        refine v_aload_n (pc := 35) (j := 0) F dX10_days_35 rfl rfl ?_
        refine v_ifl (pc := 36) F fl_X10_42 dX10_days_36 kc_0.1 kc_0.2 fv_9_6 ?_
        refine v_ifl (pc := 39) F fl_X10_143 dX10_days_39 kc_42.1 kc_42.2 fv_2_1 ?_
        refine v_aload_n (pc := 42) (j := 0) F dX10_days_42 rfl rfl ?_
        refine v_ifl (pc := 43) F fl_X10_42 dX10_days_43 kc_0.1 kc_0.2 fv_9_6 ?_
        refine v_ifl (pc := 46) F fl_X10_122 dX10_days_46 kc_42.1 kc_42.2 fv_2_0 ?_
        obtain ⟨r6, e7, hf⟩ := bnd_some hf
        refine v_callVv (pc := 49) (As := [.ref (gA g 43)]) F cl_X10_210 dX10_days_49 (kX0_remember kc_47.1 kc_47.2 kc_43.1 kc_43.2 e7) kc_47.1 kc_47.2 rc_0 rfl rfl (Nat.le_of_ble_eq_true rfl) (by decide) (Nat.zero_le _) ?_
        refine v_aload_n (pc := 52) (j := 0) F dX10_days_52 rfl rfl ?_
        obtain ⟨f8, e9, hf⟩ := bnd_some hf
        obtain ⟨ho_f8, hk_f8, e9⟩ := rf_in e9
        refine v_ifl (pc := 53) F fl_X10_23 dX10_days_53 kc_0.1 kc_0.2 (fv_9_3 e9) ?_
        refine v_aload_n (pc := 56) (j := 0) F dX10_days_56 rfl rfl ?_
        refine v_ifl (pc := 57) F fl_X10_42 dX10_days_57 kc_0.1 kc_0.2 fv_9_6 ?_
        refine v_ifl (pc := 60) F fl_X10_122 dX10_days_60 kc_42.1 kc_42.2 fv_2_0 ?_
        refine v_iload_n (pc := 63) (j := 1) F dX10_days_63 rfl rfl ?_
        obtain ⟨r10, e11, hf⟩ := bnd_some hf
        refine v_callSv (pc := 64) (As := [.ref (gA g f8), .ref (gA g 43), .int a1]) F cl_X10_214 dX10_days_64 (kX1_passMany ho_f8 hk_f8 kc_43.1 kc_43.2 e11) rfl rfl (Nat.le_of_ble_eq_true rfl) (by decide) (Nat.zero_le _) ?_
        refine v_aload_n (pc := 67) (j := 0) F dX10_days_67 rfl rfl ?_
        refine v_ifl (pc := 68) F fl_X10_42 dX10_days_68 kc_0.1 kc_0.2 fv_9_6 ?_
        refine v_ifl (pc := 71) F fl_X10_122 dX10_days_71 kc_42.1 kc_42.2 fv_2_0 ?_
        refine v_ifl (pc := 74) F fl_X10_125 dX10_days_74 kc_43.1 kc_43.2 fv_7_0 ?_
        exact v_iret (pc := 77) F hr dX10_days_77 (some_fst hf) (some_snd hf) (Nat.zero_le _)
      · have hf := ite_f hf c5
        refine V.sub (lv' := [(0, .ref (gA g 0))]) [0] rfl ?_
        exact tX10_days_29 F hr hf
def fX10_draw_18 (h : ST) (q0 : Int32) : Option (Int32) :=
  some q0
def fX10_draw (h : ST) (a1 : Int32) (a2 : Int32) : Option (Int32) :=
  if a2 ≤ 0 then
  fX10_draw_18 h 0
  else
  grd (¬ a2 = 0) (
    fX10_draw_18 h ((((a1.toUInt32 >>> ((16 : Int32).toUInt32 &&& Int32.toUInt32 31)).toInt32) &&& 32767) - (((a1.toUInt32 >>> ((16 : Int32).toUInt32 &&& Int32.toUInt32 31)).toInt32) &&& 32767) / a2 * a2))
set_option maxRecDepth 100000 in
set_option maxHeartbeats 4000000 in
theorem tX10_draw_18 {p : Program} {l : Launch} {e : Env} {s : State} {m : MethodId} {args : Array Value} {below : List Frame} {meth : Method} {c : Code} {g : GE} {B : Nat} {h : ST}  {q0 : Int32} (F : Fx p s m args meth c cX10_draw 2 "DustParish" 395 g B)
    {y : Int32} (hr : meth.sig.returnType = (some .int)) (hf : fX10_draw_18 h q0 = some y) : V p l e 1 0 s m args below meth c (MQ below (QO KC 395 g (some (.int y)) h) args s 0 (6 * 0) (fun q => B ≤ q)) KC 395 g B 2 0 h 18 [] [.int q0] := by
  unfold fX10_draw_18 at hf
  exact v_iret (pc := 18) F hr dX10_draw_18 (Option.some.inj hf) rfl (Nat.zero_le _)
set_option maxRecDepth 100000 in
set_option maxHeartbeats 4000000 in
theorem kX10_draw {l : Launch} {g : GE} {B : Nat} {h : ST} {a1 : Int32} {a2 : Int32} {y : Int32} (hf : fX10_draw h a1 a2 = some y) : CT l yX10_draw cX10_draw 2 (some .int) 1 KC 395 g B [.int a1, .int a2] h (some (.int y)) h := by
  refine CT.of pn_X10 (Nat.le_of_ble_eq_true rfl) ?_
  intro p e s m below meth c hr F
  have F : Fx p s m _ meth c cX10_draw 2 "DustParish" 395 g B := F
  refine V_lv (lv' := [(0, .int a1), (1, .int a2)]) rfl ?_
  unfold fX10_draw at hf
  refine v_iload_n (pc := 0) (j := 1) F dX10_draw_0 rfl rfl ?_
  refine v_if_le (pc := 1) (tgt := 17) F dX10_draw_1 (by decide) (fun c1 => ?_) (fun c1 => ?_)
  · have hf := ite_t hf c1
    refine v_iconst (pc := 17) (v := 0) F dX10_draw_17 ic_0 ?_
    refine V.sub (lv' := []) [] rfl ?_
    exact tX10_draw_18 F hr hf
  · have hf := ite_f hf c1
    refine v_iload_n (pc := 4) (j := 0) F dX10_draw_4 rfl rfl ?_
    refine v_bipush (pc := 5) (v := 16) F dX10_draw_5 bp_16 ?_
    refine v_iushr (pc := 7) F dX10_draw_7 rfl ?_
    refine v_sipush (pc := 8) (v := 32767) F dX10_draw_8 sp_32767 ?_
    refine v_iand (pc := 11) F dX10_draw_11 ?_
    refine v_iload_n (pc := 12) (j := 1) F dX10_draw_12 rfl rfl ?_
    obtain ⟨g2, hf⟩ := grd_some hf
    refine v_irem (pc := 13) F dX10_draw_13 g2 ?_
    refine v_goto (pc := 14) (tgt := 18) F dX10_draw_14 (by decide) ?_
    refine V.sub (lv' := []) [] rfl ?_
    exact tX10_draw_18 F hr hf
def fX2_wayFrom (h : ST) (o : Nat) (a1 : Int32) (a2 : Int32) : Option (Int32) :=
  bnd (rd 81 (h (o + 16)) ((a1 * 9) + a2)) fun v1 =>
  some v1
set_option maxRecDepth 100000 in
set_option maxHeartbeats 4000000 in
theorem kX2_wayFrom {l : Launch} {g : GE} {B : Nat} {h : ST} {o : Nat} (ho_o : o < 395) (hk_o : KC o = (1, 0)) {a1 : Int32} {a2 : Int32} {y : Int32} (hf : fX2_wayFrom h o a1 a2 = some y) : CT l yX2_wayFrom cX2_wayFrom 3 (some .int) 1 KC 395 g B [.ref (gA g o), .int a1, .int a2] h (some (.int y)) h := by
  refine CT.of pn_X2 (Nat.le_of_ble_eq_true rfl) ?_
  intro p e s m below meth c hr F
  have F : Fx p s m _ meth c cX2_wayFrom 3 "DustParish$Facts" 395 g B := F
  refine V_lv (lv' := [(0, .ref (gA g o)), (1, .int a1), (2, .int a2)]) rfl ?_
  unfold fX2_wayFrom at hf
  refine v_aload_n (pc := 0) (j := 0) F dX2_wayFrom_0 rfl rfl ?_
  refine v_ifl (pc := 1) F fl_X2_52 dX2_wayFrom_1 ho_o hk_o fv_1_18 ?_
  refine v_iload_n (pc := 4) (j := 1) F dX2_wayFrom_4 rfl rfl ?_
  refine v_bipush (pc := 5) (v := 9) F dX2_wayFrom_5 bp_9 ?_
  refine v_imul (pc := 7) F dX2_wayFrom_7 ?_
  refine v_iload_n (pc := 8) (j := 2) F dX2_wayFrom_8 rfl rfl ?_
  refine v_iadd (pc := 9) F dX2_wayFrom_9 ?_
  obtain ⟨v1, e2, hf⟩ := bnd_some hf
  refine v_iald (pc := 10) F dX2_wayFrom_10 (ly_1_18 ho_o hk_o).1 (ly_1_18 ho_o hk_o).2 e2 ?_
  exact v_iret (pc := 11) F hr dX2_wayFrom_11 (Option.some.inj hf) rfl (Nat.zero_le _)
def fX10_fault (h : ST) : Option (Int32) :=
  some (h 0 2)
set_option maxRecDepth 100000 in
set_option maxHeartbeats 4000000 in
theorem kX10_fault {l : Launch} {g : GE} {B : Nat} {h : ST} {y : Int32} (hf : fX10_fault h = some y) : CT l yX10_fault cX10_fault 1 (some .int) 1 KC 395 g B [.ref (gA g 0)] h (some (.int y)) h := by
  refine CT.of pn_X10 (Nat.le_of_ble_eq_true rfl) ?_
  intro p e s m below meth c hr F
  have F : Fx p s m _ meth c cX10_fault 1 "DustParish" 395 g B := F
  refine V_lv (lv' := [(0, .ref (gA g 0))]) rfl ?_
  unfold fX10_fault at hf
  refine v_aload_n (pc := 0) (j := 0) F dX10_fault_0 rfl rfl ?_
  refine v_ifl (pc := 1) F fl_X10_17 dX10_fault_1 kc_0.1 kc_0.2 fv_9_2 ?_
  exact v_iret (pc := 4) F hr dX10_fault_4 (Option.some.inj hf) rfl (Nat.zero_le _)
def fX10_feed (h : ST) (a1 : Int32) (a2 : Int32) (a3 : Int32) (a4 : Int32) (a5 : Int32) : Option (Int32 × ST) :=
  if ((h 0 1) + 20) ≤ 700 then
  bnd (fX10_append h a1) fun r2 =>
    bnd (fX10_append r2 a2) fun r4 =>
    bnd (fX10_append r4 a3) fun r6 =>
    bnd (fX10_append r6 a4) fun r8 =>
    bnd (fX10_append r8 a5) fun r10 =>
    some (r10 0 1, r10)
  else
  some ((-1), h)
set_option maxRecDepth 100000 in
set_option maxHeartbeats 4000000 in
theorem kX10_feed {l : Launch} {g : GE} {B : Nat} {h : ST} {a1 : Int32} {a2 : Int32} {a3 : Int32} {a4 : Int32} {a5 : Int32} {y : Int32 × ST} (hf : fX10_feed h a1 a2 a3 a4 a5 = some y) : CT l yX10_feed cX10_feed 6 (some .int) 2 KC 395 g B [.ref (gA g 0), .int a1, .int a2, .int a3, .int a4, .int a5] h (some (.int y.1)) y.2 := by
  refine CT.of pn_X10 (Nat.le_of_ble_eq_true rfl) ?_
  intro p e s m below meth c hr F
  have F : Fx p s m _ meth c cX10_feed 6 "DustParish" 395 g B := F
  refine V_lv (lv' := [(0, .ref (gA g 0)), (1, .int a1), (2, .int a2), (3, .int a3), (4, .int a4), (5, .int a5)]) rfl ?_
  unfold fX10_feed at hf
  refine v_aload_n (pc := 0) (j := 0) F dX10_feed_0 rfl rfl ?_
  refine v_ifl (pc := 1) F fl_X10_13 dX10_feed_1 kc_0.1 kc_0.2 fv_9_1 ?_
  refine v_bipush (pc := 4) (v := 20) F dX10_feed_4 bp_20 ?_
  refine v_iadd (pc := 6) F dX10_feed_6 ?_
  refine v_sipush (pc := 7) (v := 700) F dX10_feed_7 sp_700 ?_
  refine v_icmp_le (pc := 10) (tgt := 15) F dX10_feed_10 (by decide) (fun c1 => ?_) (fun c1 => ?_)
  · have hf := ite_t hf c1
    refine v_aload_n (pc := 15) (j := 0) F dX10_feed_15 rfl rfl ?_
    refine v_iload_n (pc := 16) (j := 1) F dX10_feed_16 rfl rfl ?_
    obtain ⟨r2, e3, hf⟩ := bnd_some hf
    refine v_callVv (pc := 17) (As := [.int a1]) F cl_X10_79 dX10_feed_17 (kX10_append e3) kc_0.1 kc_0.2 rc_9 rfl rfl (Nat.le_of_ble_eq_true rfl) (by decide) (Nat.zero_le _) ?_
    refine v_aload_n (pc := 20) (j := 0) F dX10_feed_20 rfl rfl ?_
    refine v_iload_n (pc := 21) (j := 2) F dX10_feed_21 rfl rfl ?_
    obtain ⟨r4, e5, hf⟩ := bnd_some hf
    refine v_callVv (pc := 22) (As := [.int a2]) F cl_X10_79 dX10_feed_22 (kX10_append e5) kc_0.1 kc_0.2 rc_9 rfl rfl (Nat.le_of_ble_eq_true rfl) (by decide) (Nat.zero_le _) ?_
    refine v_aload_n (pc := 25) (j := 0) F dX10_feed_25 rfl rfl ?_
    refine v_iload_n (pc := 26) (j := 3) F dX10_feed_26 rfl rfl ?_
    obtain ⟨r6, e7, hf⟩ := bnd_some hf
    refine v_callVv (pc := 27) (As := [.int a3]) F cl_X10_79 dX10_feed_27 (kX10_append e7) kc_0.1 kc_0.2 rc_9 rfl rfl (Nat.le_of_ble_eq_true rfl) (by decide) (Nat.zero_le _) ?_
    refine v_aload_n (pc := 30) (j := 0) F dX10_feed_30 rfl rfl ?_
    refine v_iload (pc := 31) (j := 4) F dX10_feed_31 rfl ?_
    obtain ⟨r8, e9, hf⟩ := bnd_some hf
    refine v_callVv (pc := 33) (As := [.int a4]) F cl_X10_79 dX10_feed_33 (kX10_append e9) kc_0.1 kc_0.2 rc_9 rfl rfl (Nat.le_of_ble_eq_true rfl) (by decide) (Nat.zero_le _) ?_
    refine v_aload_n (pc := 36) (j := 0) F dX10_feed_36 rfl rfl ?_
    refine v_iload (pc := 37) (j := 5) F dX10_feed_37 rfl ?_
    obtain ⟨r10, e11, hf⟩ := bnd_some hf
    refine v_callVv (pc := 39) (As := [.int a5]) F cl_X10_79 dX10_feed_39 (kX10_append e11) kc_0.1 kc_0.2 rc_9 rfl rfl (Nat.le_of_ble_eq_true rfl) (by decide) (Nat.zero_le _) ?_
    refine v_aload_n (pc := 42) (j := 0) F dX10_feed_42 rfl rfl ?_
    refine v_ifl (pc := 43) F fl_X10_13 dX10_feed_43 kc_0.1 kc_0.2 fv_9_1 ?_
    exact v_iret (pc := 46) F hr dX10_feed_46 (some_fst hf) (some_snd hf) (Nat.zero_le _)
  · have hf := ite_f hf c1
    refine v_iconst (pc := 13) (v := (-1)) F dX10_feed_13 ic_m1 ?_
    exact v_iret (pc := 14) F hr dX10_feed_14 (some_fst hf) (some_snd hf) (Nat.zero_le _)
def fX10_swap (h : ST) (o1 : Nat) (n_o1 : Nat) (a2 : Int32) (a3 : Int32) : Option (ST) :=
  bnd (rd n_o1 (h o1) a2) fun v1 =>
  bnd (rd n_o1 (h o1) a3) fun v3 =>
  bnd (wr n_o1 h o1 a2 v3) fun h5 =>
  bnd (wr n_o1 h5 o1 a3 v1) fun h7 =>
  some h7
set_option maxRecDepth 100000 in
set_option maxHeartbeats 4000000 in
theorem kX10_swap {l : Launch} {g : GE} {B : Nat} {h : ST} {o1 n_o1 : Nat} (ho_o1 : o1 < 395) (hk_o1 : KC o1 = (20, n_o1)) {a2 : Int32} {a3 : Int32} {y : ST} (hf : fX10_swap h o1 n_o1 a2 a3 = some y) : CT l yX10_swap cX10_swap 4 none 1 KC 395 g B [.ref (gA g o1), .int a2, .int a3] h none y := by
  refine CT.of pn_X10 (Nat.le_of_ble_eq_true rfl) ?_
  intro p e s m below meth c hr F
  have F : Fx p s m _ meth c cX10_swap 4 "DustParish" 395 g B := F
  refine V_lv (lv' := [(0, .ref (gA g o1)), (1, .int a2), (2, .int a3)]) rfl ?_
  unfold fX10_swap at hf
  refine v_aload_n (pc := 0) (j := 0) F dX10_swap_0 rfl rfl ?_
  refine v_iload_n (pc := 1) (j := 1) F dX10_swap_1 rfl rfl ?_
  obtain ⟨v1, e2, hf⟩ := bnd_some hf
  refine v_iald (pc := 2) F dX10_swap_2 ho_o1 hk_o1 e2 ?_
  refine v_istore_n (pc := 3) (lv' := [(0, .ref (gA g o1)), (1, .int a2), (2, .int a3), (3, .int v1)]) F dX10_swap_3 rfl (by decide) rfl ?_
  refine v_aload_n (pc := 4) (j := 0) F dX10_swap_4 rfl rfl ?_
  refine v_iload_n (pc := 5) (j := 1) F dX10_swap_5 rfl rfl ?_
  refine v_aload_n (pc := 6) (j := 0) F dX10_swap_6 rfl rfl ?_
  refine v_iload_n (pc := 7) (j := 2) F dX10_swap_7 rfl rfl ?_
  obtain ⟨v3, e4, hf⟩ := bnd_some hf
  refine v_iald (pc := 8) F dX10_swap_8 ho_o1 hk_o1 e4 ?_
  obtain ⟨h5, e6, hf⟩ := bnd_some hf
  refine v_iast (pc := 9) F dX10_swap_9 ho_o1 hk_o1 e6 ?_
  refine v_aload_n (pc := 10) (j := 0) F dX10_swap_10 rfl rfl ?_
  refine v_iload_n (pc := 11) (j := 2) F dX10_swap_11 rfl rfl ?_
  refine v_iload_n (pc := 12) (j := 3) F dX10_swap_12 rfl rfl ?_
  obtain ⟨h7, e8, hf⟩ := bnd_some hf
  refine v_iast (pc := 13) F dX10_swap_13 ho_o1 hk_o1 e8 ?_
  exact v_vret (pc := 14) F hr dX10_swap_14 (Option.some.inj hf) (Nat.zero_le _)
def fX10_nextRow_4 (h : ST) (o1 : Nat) (n_o1 : Nat) (l1 : Int32) (s1 : Int32) : Option (Int32 ⊕ Int32) :=
  if s1 < 0 then
  some (.inr s1)
  else
  bnd (rd n_o1 (h o1) s1) fun v2 =>
    bnd (rd n_o1 (h o1) (s1 + 1)) fun v4 =>
    if v2 ≤ v4 then
    some (.inr s1)
    else
    some (.inl (s1 + (-1)))
def fX10_nextRow_35 (h : ST) (o1 : Nat) (n_o1 : Nat) (l1 : Int32) (l2 : Int32) (s1 : Int32) : Option (Int32 ⊕ Int32) :=
  if s1 ≤ l2 then
  some (.inr s1)
  else
  bnd (rd n_o1 (h o1) s1) fun v11 =>
    bnd (rd n_o1 (h o1) l2) fun v13 =>
    if v13 ≤ v11 then
    some (.inr s1)
    else
    some (.inl (s1 + (-1)))
def fX10_nextRow_71 (o1 : Nat) (n_o1 : Nat) (s1 : (ST × Int32 × Int32)) : Option ((ST × Int32 × Int32) ⊕ ST) :=
  if s1.2.2 ≤ s1.2.1 then
  some (.inr s1.1)
  else
  bnd (fX10_swap s1.1 o1 n_o1 s1.2.1 s1.2.2) fun r21 =>
    some (.inl (r21, s1.2.1 + 1, s1.2.2 + (-1)))
def fX10_nextRow_55 (h : ST) (o1 : Nat) (n_o1 : Nat) (l1 : Int32) (l2 : Int32) (l3 : Int32) : Option (Int32 × ST) :=
  bnd (fX10_swap h o1 n_o1 l2 l3) fun r18 =>
  bnd (lp FU (fX10_nextRow_71 o1 n_o1) (r18, l2 + 1, l1 - 1)) fun x23 =>
  some (1, x23)
def fX10_nextRow_25 (h : ST) (o1 : Nat) (n_o1 : Nat) (l1 : Int32) (l2 : Int32) : Option (Int32 × ST) :=
  if 0 ≤ l2 then
  bnd (lp FU (fX10_nextRow_35 h o1 n_o1 l1 l2) (l1 - 1)) fun x16 =>
    fX10_nextRow_55 h o1 n_o1 l1 l2 x16
  else
  some (0, h)
def fX10_nextRow (h : ST) (o1 : Nat) (n_o1 : Nat) (a2 : Int32) : Option (Int32 × ST) :=
  bnd (lp FU (fX10_nextRow_4 h o1 n_o1 a2) (a2 - 2)) fun x7 =>
  fX10_nextRow_25 h o1 n_o1 a2 x7
set_option maxRecDepth 100000 in
set_option maxHeartbeats 4000000 in
theorem tX10_nextRow_4 {p : Program} {l : Launch} {e : Env} {s : State} {m : MethodId} {args : Array Value} {below : List Frame} {meth : Method} {c : Code} {g : GE} {B : Nat} {h : ST} {o1 n_o1 : Nat} (ho_o1 : o1 < 395) (hk_o1 : KC o1 = (20, n_o1)) {l1 : Int32} {Q : State → Prop} {x : Int32} {nf : Nat} {s0 : Int32} (F : Fx p s m args meth c cX10_nextRow 6 "DustParish" 395 g B) (hX0 : V p l e 2 0 s m args below meth c Q KC 395 g B 6 0 h 25 [(0, .ref (gA g o1)), (1, .int l1), (2, .int x)] []) (hl : lp nf (fX10_nextRow_4 h o1 n_o1 l1) s0 = some x) : V p l e 2 0 s m args below meth c Q KC 395 g B 6 0 h 4 [(0, .ref (gA g o1)), (1, .int l1), (2, .int s0)] [] := by
  refine lp_ind (P := fun s0 => V p l e 2 0 s m args below meth c Q KC 395 g B 6 0 h 4 [(0, .ref (gA g o1)), (1, .int l1), (2, .int s0)] []) ?_ nf s0 hl
  intro s1 y hf hk hx
  have hx0 : ∀ v : Int32, y = Sum.inr v → V p l e 2 0 s m args below meth c Q KC 395 g B 6 0 h 25 [(0, .ref (gA g o1)), (1, .int l1), (2, .int v)] [] := fun v e9 => by rw [hx v e9]; exact hX0
  unfold fX10_nextRow_4 at hf
  refine v_iload_n (pc := 4) (j := 2) F dX10_nextRow_4 rfl rfl ?_
  refine v_if_lt (pc := 5) (tgt := 25) F dX10_nextRow_5 (by decide) (fun c1 => ?_) (fun c1 => ?_)
  · have hf := ite_t hf c1
    exact hx0 s1 (Option.some.inj hf).symm
  · have hf := ite_f hf c1
    refine v_aload_n (pc := 8) (j := 0) F dX10_nextRow_8 rfl rfl ?_
    refine v_iload_n (pc := 9) (j := 2) F dX10_nextRow_9 rfl rfl ?_
    obtain ⟨v2, e3, hf⟩ := bnd_some hf
    refine v_iald (pc := 10) F dX10_nextRow_10 ho_o1 hk_o1 e3 ?_
    refine v_aload_n (pc := 11) (j := 0) F dX10_nextRow_11 rfl rfl ?_
    refine v_iload_n (pc := 12) (j := 2) F dX10_nextRow_12 rfl rfl ?_
    refine v_iconst (pc := 13) (v := 1) F dX10_nextRow_13 ic_1 ?_
    refine v_iadd (pc := 14) F dX10_nextRow_14 ?_
    obtain ⟨v4, e5, hf⟩ := bnd_some hf
    refine v_iald (pc := 15) F dX10_nextRow_15 ho_o1 hk_o1 e5 ?_
    refine v_icmp_le (pc := 16) (tgt := 25) F dX10_nextRow_16 (by decide) (fun c6 => ?_) (fun c6 => ?_)
    · have hf := ite_t hf c6
      exact hx0 s1 (Option.some.inj hf).symm
    · have hf := ite_f hf c6
      refine v_iinc (pc := 19) (j := 2) (v := s1 + (-1)) (lv' := [(0, .ref (gA g o1)), (1, .int l1), (2, .int (s1 + (-1)))]) F dX10_nextRow_19 rfl (congrArg (fun z => s1 + z) ic_m1) (by decide) rfl ?_
      refine v_goto (pc := 22) (tgt := 4) F dX10_nextRow_22 (by decide) ?_
      exact hk (s1 + (-1)) (Option.some.inj hf).symm
set_option maxRecDepth 100000 in
set_option maxHeartbeats 4000000 in
theorem tX10_nextRow_35 {p : Program} {l : Launch} {e : Env} {s : State} {m : MethodId} {args : Array Value} {below : List Frame} {meth : Method} {c : Code} {g : GE} {B : Nat} {h : ST} {o1 n_o1 : Nat} (ho_o1 : o1 < 395) (hk_o1 : KC o1 = (20, n_o1)) {l1 : Int32} {l2 : Int32} {Q : State → Prop} {x : Int32} {nf : Nat} {s0 : Int32} (F : Fx p s m args meth c cX10_nextRow 6 "DustParish" 395 g B) (hX0 : V p l e 2 0 s m args below meth c Q KC 395 g B 6 0 h 55 [(0, .ref (gA g o1)), (1, .int l1), (2, .int l2), (3, .int x)] []) (hl : lp nf (fX10_nextRow_35 h o1 n_o1 l1 l2) s0 = some x) : V p l e 2 0 s m args below meth c Q KC 395 g B 6 0 h 35 [(0, .ref (gA g o1)), (1, .int l1), (2, .int l2), (3, .int s0)] [] := by
  refine lp_ind (P := fun s0 => V p l e 2 0 s m args below meth c Q KC 395 g B 6 0 h 35 [(0, .ref (gA g o1)), (1, .int l1), (2, .int l2), (3, .int s0)] []) ?_ nf s0 hl
  intro s1 y hf hk hx
  have hx0 : ∀ v : Int32, y = Sum.inr v → V p l e 2 0 s m args below meth c Q KC 395 g B 6 0 h 55 [(0, .ref (gA g o1)), (1, .int l1), (2, .int l2), (3, .int v)] [] := fun v e9 => by rw [hx v e9]; exact hX0
  unfold fX10_nextRow_35 at hf
  refine v_iload_n (pc := 35) (j := 3) F dX10_nextRow_35 rfl rfl ?_
  refine v_iload_n (pc := 36) (j := 2) F dX10_nextRow_36 rfl rfl ?_
  refine v_icmp_le (pc := 37) (tgt := 55) F dX10_nextRow_37 (by decide) (fun c10 => ?_) (fun c10 => ?_)
  · have hf := ite_t hf c10
    exact hx0 s1 (Option.some.inj hf).symm
  · have hf := ite_f hf c10
    refine v_aload_n (pc := 40) (j := 0) F dX10_nextRow_40 rfl rfl ?_
    refine v_iload_n (pc := 41) (j := 3) F dX10_nextRow_41 rfl rfl ?_
    obtain ⟨v11, e12, hf⟩ := bnd_some hf
    refine v_iald (pc := 42) F dX10_nextRow_42 ho_o1 hk_o1 e12 ?_
    refine v_aload_n (pc := 43) (j := 0) F dX10_nextRow_43 rfl rfl ?_
    refine v_iload_n (pc := 44) (j := 2) F dX10_nextRow_44 rfl rfl ?_
    obtain ⟨v13, e14, hf⟩ := bnd_some hf
    refine v_iald (pc := 45) F dX10_nextRow_45 ho_o1 hk_o1 e14 ?_
    refine v_icmp_ge (pc := 46) (tgt := 55) F dX10_nextRow_46 (by decide) (fun c15 => ?_) (fun c15 => ?_)
    · have hf := ite_t hf c15
      exact hx0 s1 (Option.some.inj hf).symm
    · have hf := ite_f hf c15
      refine v_iinc (pc := 49) (j := 3) (v := s1 + (-1)) (lv' := [(0, .ref (gA g o1)), (1, .int l1), (2, .int l2), (3, .int (s1 + (-1)))]) F dX10_nextRow_49 rfl (congrArg (fun z => s1 + z) ic_m1) (by decide) rfl ?_
      refine v_goto (pc := 52) (tgt := 35) F dX10_nextRow_52 (by decide) ?_
      exact hk (s1 + (-1)) (Option.some.inj hf).symm
set_option maxRecDepth 100000 in
set_option maxHeartbeats 4000000 in
theorem tX10_nextRow_71 {p : Program} {l : Launch} {e : Env} {s : State} {m : MethodId} {args : Array Value} {below : List Frame} {meth : Method} {c : Code} {g : GE} {B : Nat} {o1 n_o1 : Nat} (ho_o1 : o1 < 395) (hk_o1 : KC o1 = (20, n_o1)) {Q : State → Prop} {x : ST} {nf : Nat} {s0 : (ST × Int32 × Int32)} (F : Fx p s m args meth c cX10_nextRow 6 "DustParish" 395 g B) (hX0 : V p l e 2 0 s m args below meth c Q KC 395 g B 6 0 x 95 [] []) (hl : lp nf (fX10_nextRow_71 o1 n_o1) s0 = some x) : V p l e 2 0 s m args below meth c Q KC 395 g B 6 0 s0.1 71 [(0, .ref (gA g o1)), (4, .int s0.2.1), (5, .int s0.2.2)] [] := by
  refine lp_ind (P := fun s0 => V p l e 2 0 s m args below meth c Q KC 395 g B 6 0 s0.1 71 [(0, .ref (gA g o1)), (4, .int s0.2.1), (5, .int s0.2.2)] []) ?_ nf s0 hl
  intro s1 y hf hk hx
  have hx0 : ∀ v : ST, y = Sum.inr v → V p l e 2 0 s m args below meth c Q KC 395 g B 6 0 v 95 [] [] := fun v e9 => by rw [hx v e9]; exact hX0
  unfold fX10_nextRow_71 at hf
  refine v_iload (pc := 71) (j := 1) F dX10_nextRow_71 rfl ?_
  refine v_iload (pc := 73) (j := 2) F dX10_nextRow_73 rfl ?_
  refine v_icmp_ge (pc := 75) (tgt := 95) F dX10_nextRow_75 (by decide) (fun c20 => ?_) (fun c20 => ?_)
  · have hf := ite_t hf c20
    refine V.sub (lv' := []) [] rfl ?_
    exact hx0 s1.1 (Option.some.inj hf).symm
  · have hf := ite_f hf c20
    refine v_aload_n (pc := 78) (j := 0) F dX10_nextRow_78 rfl rfl ?_
    refine v_iload (pc := 79) (j := 1) F dX10_nextRow_79 rfl ?_
    refine v_iload (pc := 81) (j := 2) F dX10_nextRow_81 rfl ?_
    obtain ⟨r21, e22, hf⟩ := bnd_some hf
    refine v_callSv (pc := 83) (As := [.ref (gA g o1), .int s1.2.1, .int s1.2.2]) F cl_X10_267 dX10_nextRow_83 (kX10_swap ho_o1 hk_o1 e22) rfl rfl (Nat.le_of_ble_eq_true rfl) (by decide) (Nat.zero_le _) ?_
    refine v_iinc (pc := 86) (j := 1) (v := s1.2.1 + 1) (lv' := [(0, .ref (gA g o1)), (4, .int (s1.2.1 + 1)), (5, .int s1.2.2)]) F dX10_nextRow_86 rfl (congrArg (fun z => s1.2.1 + z) ic_1) (by decide) rfl ?_
    refine v_iinc (pc := 89) (j := 2) (v := s1.2.2 + (-1)) (lv' := [(0, .ref (gA g o1)), (4, .int (s1.2.1 + 1)), (5, .int (s1.2.2 + (-1)))]) F dX10_nextRow_89 rfl (congrArg (fun z => s1.2.2 + z) ic_m1) (by decide) rfl ?_
    refine v_goto (pc := 92) (tgt := 71) F dX10_nextRow_92 (by decide) ?_
    exact hk (r21, s1.2.1 + 1, s1.2.2 + (-1)) (Option.some.inj hf).symm
set_option maxRecDepth 100000 in
set_option maxHeartbeats 4000000 in
theorem tX10_nextRow_55 {p : Program} {l : Launch} {e : Env} {s : State} {m : MethodId} {args : Array Value} {below : List Frame} {meth : Method} {c : Code} {g : GE} {B : Nat} {h : ST} {o1 n_o1 : Nat} (ho_o1 : o1 < 395) (hk_o1 : KC o1 = (20, n_o1)) {l1 : Int32} {l2 : Int32} {l3 : Int32} (F : Fx p s m args meth c cX10_nextRow 6 "DustParish" 395 g B)
    {y : Int32 × ST} (hr : meth.sig.returnType = (some .boolean)) (hf : fX10_nextRow_55 h o1 n_o1 l1 l2 l3 = some y) : V p l e 2 0 s m args below meth c (MQ below (QO KC 395 g (some (.int y.1)) y.2) args s 0 (6 * 0) (fun q => B ≤ q)) KC 395 g B 6 0 h 55 [(0, .ref (gA g o1)), (1, .int l1), (2, .int l2), (3, .int l3)] [] := by
  unfold fX10_nextRow_55 at hf
  refine v_aload_n (pc := 55) (j := 0) F dX10_nextRow_55 rfl rfl ?_
  refine v_iload_n (pc := 56) (j := 2) F dX10_nextRow_56 rfl rfl ?_
  refine v_iload_n (pc := 57) (j := 3) F dX10_nextRow_57 rfl rfl ?_
  obtain ⟨r18, e19, hf⟩ := bnd_some hf
  refine v_callSv (pc := 58) (As := [.ref (gA g o1), .int l2, .int l3]) F cl_X10_267 dX10_nextRow_58 (kX10_swap ho_o1 hk_o1 e19) rfl rfl (Nat.le_of_ble_eq_true rfl) (by decide) (Nat.zero_le _) ?_
  refine v_iload_n (pc := 61) (j := 2) F dX10_nextRow_61 rfl rfl ?_
  refine v_iconst (pc := 62) (v := 1) F dX10_nextRow_62 ic_1 ?_
  refine v_iadd (pc := 63) F dX10_nextRow_63 ?_
  refine v_istore (pc := 64) (lv' := [(0, .ref (gA g o1)), (1, .int l1), (2, .int l2), (3, .int l3), (4, .int (l2 + 1))]) F dX10_nextRow_64 (by decide) rfl ?_
  refine v_iload_n (pc := 66) (j := 1) F dX10_nextRow_66 rfl rfl ?_
  refine v_iconst (pc := 67) (v := 1) F dX10_nextRow_67 ic_1 ?_
  refine v_isub (pc := 68) F dX10_nextRow_68 ?_
  refine v_istore (pc := 69) (lv' := [(0, .ref (gA g o1)), (1, .int l1), (2, .int l2), (3, .int l3), (4, .int (l2 + 1)), (5, .int (l1 - 1))]) F dX10_nextRow_69 (by decide) rfl ?_
  obtain ⟨x23, e24, hf⟩ := bnd_some hf
  refine V.sub (lv' := [(0, .ref (gA g o1)), (4, .int (l2 + 1)), (5, .int (l1 - 1))]) [0, 4, 5] rfl ?_
  refine tX10_nextRow_71 (s0 := (r18, l2 + 1, l1 - 1)) ho_o1 hk_o1 F ?_ e24
  refine v_iconst (pc := 95) (v := 1) F dX10_nextRow_95 ic_1 ?_
  exact v_zret (pc := 96) F hr dX10_nextRow_96 rfl (some_fst hf) (some_snd hf) (Nat.zero_le _)
set_option maxRecDepth 100000 in
set_option maxHeartbeats 4000000 in
theorem tX10_nextRow_25 {p : Program} {l : Launch} {e : Env} {s : State} {m : MethodId} {args : Array Value} {below : List Frame} {meth : Method} {c : Code} {g : GE} {B : Nat} {h : ST} {o1 n_o1 : Nat} (ho_o1 : o1 < 395) (hk_o1 : KC o1 = (20, n_o1)) {l1 : Int32} {l2 : Int32} (F : Fx p s m args meth c cX10_nextRow 6 "DustParish" 395 g B)
    {y : Int32 × ST} (hr : meth.sig.returnType = (some .boolean)) (hf : fX10_nextRow_25 h o1 n_o1 l1 l2 = some y) : V p l e 2 0 s m args below meth c (MQ below (QO KC 395 g (some (.int y.1)) y.2) args s 0 (6 * 0) (fun q => B ≤ q)) KC 395 g B 6 0 h 25 [(0, .ref (gA g o1)), (1, .int l1), (2, .int l2)] [] := by
  unfold fX10_nextRow_25 at hf
  refine v_iload_n (pc := 25) (j := 2) F dX10_nextRow_25 rfl rfl ?_
  refine v_if_ge (pc := 26) (tgt := 31) F dX10_nextRow_26 (by decide) (fun c9 => ?_) (fun c9 => ?_)
  · have hf := ite_t hf c9
    refine v_iload_n (pc := 31) (j := 1) F dX10_nextRow_31 rfl rfl ?_
    refine v_iconst (pc := 32) (v := 1) F dX10_nextRow_32 ic_1 ?_
    refine v_isub (pc := 33) F dX10_nextRow_33 ?_
    refine v_istore_n (pc := 34) (lv' := [(0, .ref (gA g o1)), (1, .int l1), (2, .int l2), (3, .int (l1 - 1))]) F dX10_nextRow_34 rfl (by decide) rfl ?_
    obtain ⟨x16, e17, hf⟩ := bnd_some hf
    refine tX10_nextRow_35 (s0 := l1 - 1) ho_o1 hk_o1 F ?_ e17
    exact tX10_nextRow_55 ho_o1 hk_o1 F hr hf
  · have hf := ite_f hf c9
    refine v_iconst (pc := 29) (v := 0) F dX10_nextRow_29 ic_0 ?_
    exact v_zret (pc := 30) F hr dX10_nextRow_30 rfl (some_fst hf) (some_snd hf) (Nat.zero_le _)
set_option maxRecDepth 100000 in
set_option maxHeartbeats 4000000 in
theorem kX10_nextRow {l : Launch} {g : GE} {B : Nat} {h : ST} {o1 n_o1 : Nat} (ho_o1 : o1 < 395) (hk_o1 : KC o1 = (20, n_o1)) {a2 : Int32} {y : Int32 × ST} (hf : fX10_nextRow h o1 n_o1 a2 = some y) : CT l yX10_nextRow cX10_nextRow 6 (some .boolean) 2 KC 395 g B [.ref (gA g o1), .int a2] h (some (.int y.1)) y.2 := by
  refine CT.of pn_X10 (Nat.le_of_ble_eq_true rfl) ?_
  intro p e s m below meth c hr F
  have F : Fx p s m _ meth c cX10_nextRow 6 "DustParish" 395 g B := F
  refine V_lv (lv' := [(0, .ref (gA g o1)), (1, .int a2)]) rfl ?_
  unfold fX10_nextRow at hf
  refine v_iload_n (pc := 0) (j := 1) F dX10_nextRow_0 rfl rfl ?_
  refine v_iconst (pc := 1) (v := 2) F dX10_nextRow_1 ic_2 ?_
  refine v_isub (pc := 2) F dX10_nextRow_2 ?_
  refine v_istore_n (pc := 3) (lv' := [(0, .ref (gA g o1)), (1, .int a2), (2, .int (a2 - 2))]) F dX10_nextRow_3 rfl (by decide) rfl ?_
  obtain ⟨x7, e8, hf⟩ := bnd_some hf
  refine tX10_nextRow_4 (s0 := a2 - 2) ho_o1 hk_o1 F ?_ e8
  exact tX10_nextRow_25 ho_o1 hk_o1 F hr hf
def fX10_findOrder_10 (l1 : Int32) (l2 : Int32) (s1 : (ST × Int32)) : Option ((ST × Int32) ⊕ ST) :=
  if l2 ≤ s1.2 then
  some (.inr s1.1)
  else
  bnd (wr 5 s1.1 390 s1.2 s1.2) fun h4 =>
    some (.inl (h4, s1.2 + 1))
def fX10_findOrder_57 (l1 : Int32) (l2 : Int32) (l3 : Int32) (l4 : Int32) (s1 : (ST × Int32)) : Option ((ST × Int32) ⊕ ST) :=
  if l2 ≤ s1.2 then
  some (.inr s1.1)
  else
  bnd (rf KC 395 1 (s1.1 0 3)) fun f12 =>
    bnd (rd 5 (s1.1 390) s1.2) fun v14 =>
    bnd (rf KC 395 1 (s1.1 0 3)) fun f16 =>
    bnd (fX1_pass s1.1 f12 386 v14 (s1.1 f16 15)) fun r18 =>
    some (.inl (r18, s1.2 + 1))
def fX10_findOrder_131 (h : ST) (l1 : Int32) (l2 : Int32) (l3 : Int32) (l4 : Int32) : Option ((ST × Int32 × Int32) ⊕ ((ST × Int32) ⊕ (ST × Int32))) :=
  bnd (fX10_nextRow h 390 5 l2) fun r25 =>
  if r25.1 = 0 then
  some (.inr (.inl (r25.2, l3)))
  else
  some (.inl (r25.2, l3, l4 + 1))
def fX10_findOrder_33 (l1 : Int32) (l2 : Int32) (s1 : (ST × Int32 × Int32)) : Option ((ST × Int32 × Int32) ⊕ ((ST × Int32) ⊕ (ST × Int32))) :=
  if 120 ≤ s1.2.2 then
  some (.inr (.inr (s1.1, s1.2.1)))
  else
  bnd (fX8_copy s1.1 386 43) fun r9 =>
    bnd (lp FU (fX10_findOrder_57 l1 l2 s1.2.1 s1.2.2) (r9, 0)) fun x20 =>
    bnd (rd 9 (x20 387) l1) fun v22 =>
    if v22 ≤ s1.2.1 then
    fX10_findOrder_131 x20 l1 l2 s1.2.1 s1.2.2
    else
    bnd (rd 9 (x20 387) l1) fun v28 =>
      bnd (acp 5 5 x20 390 391 0 0 5) fun h30 =>
      fX10_findOrder_131 h30 l1 l2 v28 s1.2.2
def fX10_findOrder_151 (h : ST) (l3 : Int32) : Option (Int32 × ST) :=
  some (l3, h)
def fX10_findOrder (h : ST) (a1 : Int32) : Option (Int32 × ST) :=
  bnd (rf KC 395 1 (h 0 3)) fun f1 =>
  bnd (lp FU (fX10_findOrder_10 a1 (h f1 8)) (h, 0)) fun x6 =>
  bnd (lp FU (fX10_findOrder_33 a1 (h f1 8)) (x6, (-1), 0)) fun x32 =>
  sm x32 (fun v => fX10_findOrder_151 v.1 v.2) (fun v => fX10_findOrder_151 v.1 v.2)
set_option maxRecDepth 100000 in
set_option maxHeartbeats 4000000 in
theorem tX10_findOrder_10 {p : Program} {l : Launch} {e : Env} {s : State} {m : MethodId} {args : Array Value} {below : List Frame} {meth : Method} {c : Code} {g : GE} {B : Nat}  {l1 : Int32} {l2 : Int32} {Q : State → Prop} {x : ST} {nf : Nat} {s0 : (ST × Int32)} (F : Fx p s m args meth c cX10_findOrder 6 "DustParish" 395 g B) (hX0 : V p l e 6 0 s m args below meth c Q KC 395 g B 6 0 x 28 [(0, .ref (gA g 0)), (1, .int l1), (2, .int l2)] []) (hl : lp nf (fX10_findOrder_10 l1 l2) s0 = some x) : V p l e 6 0 s m args below meth c Q KC 395 g B 6 0 s0.1 10 [(0, .ref (gA g 0)), (1, .int l1), (2, .int l2), (3, .int s0.2)] [] := by
  refine lp_ind (P := fun s0 => V p l e 6 0 s m args below meth c Q KC 395 g B 6 0 s0.1 10 [(0, .ref (gA g 0)), (1, .int l1), (2, .int l2), (3, .int s0.2)] []) ?_ nf s0 hl
  intro s1 y hf hk hx
  have hx0 : ∀ v : ST, y = Sum.inr v → V p l e 6 0 s m args below meth c Q KC 395 g B 6 0 v 28 [(0, .ref (gA g 0)), (1, .int l1), (2, .int l2)] [] := fun v e9 => by rw [hx v e9]; exact hX0
  unfold fX10_findOrder_10 at hf
  refine v_iload_n (pc := 10) (j := 3) F dX10_findOrder_10 rfl rfl ?_
  refine v_iload_n (pc := 11) (j := 2) F dX10_findOrder_11 rfl rfl ?_
  refine v_icmp_ge (pc := 12) (tgt := 28) F dX10_findOrder_12 (by decide) (fun c3 => ?_) (fun c3 => ?_)
  · have hf := ite_t hf c3
    refine V.sub (lv' := [(0, .ref (gA g 0)), (1, .int l1), (2, .int l2)]) [0, 1, 2] rfl ?_
    exact hx0 s1.1 (Option.some.inj hf).symm
  · have hf := ite_f hf c3
    refine v_aload_n (pc := 15) (j := 0) F dX10_findOrder_15 rfl rfl ?_
    refine v_ifl (pc := 16) F fl_X10_60 dX10_findOrder_16 kc_0.1 kc_0.2 fv_9_10 ?_
    refine v_iload_n (pc := 19) (j := 3) F dX10_findOrder_19 rfl rfl ?_
    refine v_iload_n (pc := 20) (j := 3) F dX10_findOrder_20 rfl rfl ?_
    obtain ⟨h4, e5, hf⟩ := bnd_some hf
    refine v_iast (pc := 21) F dX10_findOrder_21 kc_390.1 kc_390.2 e5 ?_
    refine v_iinc (pc := 22) (j := 3) (v := s1.2 + 1) (lv' := [(0, .ref (gA g 0)), (1, .int l1), (2, .int l2), (3, .int (s1.2 + 1))]) F dX10_findOrder_22 rfl (congrArg (fun z => s1.2 + z) ic_1) (by decide) rfl ?_
    refine v_goto (pc := 25) (tgt := 10) F dX10_findOrder_25 (by decide) ?_
    exact hk (h4, s1.2 + 1) (Option.some.inj hf).symm
set_option maxRecDepth 100000 in
set_option maxHeartbeats 4000000 in
theorem tX10_findOrder_57 {p : Program} {l : Launch} {e : Env} {s : State} {m : MethodId} {args : Array Value} {below : List Frame} {meth : Method} {c : Code} {g : GE} {B : Nat}  {l1 : Int32} {l2 : Int32} {l3 : Int32} {l4 : Int32} {Q : State → Prop} {x : ST} {nf : Nat} {s0 : (ST × Int32)} (F : Fx p s m args meth c cX10_findOrder 6 "DustParish" 395 g B) (hX0 : V p l e 6 0 s m args below meth c Q KC 395 g B 6 0 x 94 [(0, .ref (gA g 0)), (1, .int l1), (2, .int l2), (3, .int l3), (4, .int l4)] []) (hl : lp nf (fX10_findOrder_57 l1 l2 l3 l4) s0 = some x) : V p l e 6 0 s m args below meth c Q KC 395 g B 6 0 s0.1 57 [(0, .ref (gA g 0)), (1, .int l1), (2, .int l2), (3, .int l3), (4, .int l4), (5, .int s0.2)] [] := by
  refine lp_ind (P := fun s0 => V p l e 6 0 s m args below meth c Q KC 395 g B 6 0 s0.1 57 [(0, .ref (gA g 0)), (1, .int l1), (2, .int l2), (3, .int l3), (4, .int l4), (5, .int s0.2)] []) ?_ nf s0 hl
  intro s1 y hf hk hx
  have hx0 : ∀ v : ST, y = Sum.inr v → V p l e 6 0 s m args below meth c Q KC 395 g B 6 0 v 94 [(0, .ref (gA g 0)), (1, .int l1), (2, .int l2), (3, .int l3), (4, .int l4)] [] := fun v e9 => by rw [hx v e9]; exact hX0
  unfold fX10_findOrder_57 at hf
  refine v_iload (pc := 57) (j := 5) F dX10_findOrder_57 rfl ?_
  refine v_iload_n (pc := 59) (j := 2) F dX10_findOrder_59 rfl rfl ?_
  refine v_icmp_ge (pc := 60) (tgt := 94) F dX10_findOrder_60 (by decide) (fun c11 => ?_) (fun c11 => ?_)
  · have hf := ite_t hf c11
    refine V.sub (lv' := [(0, .ref (gA g 0)), (1, .int l1), (2, .int l2), (3, .int l3), (4, .int l4)]) [0, 1, 2, 3, 4] rfl ?_
    exact hx0 s1.1 (Option.some.inj hf).symm
  · have hf := ite_f hf c11
    refine v_aload_n (pc := 63) (j := 0) F dX10_findOrder_63 rfl rfl ?_
    obtain ⟨f12, e13, hf⟩ := bnd_some hf
    obtain ⟨ho_f12, hk_f12, e13⟩ := rf_in e13
    refine v_ifl (pc := 64) F fl_X10_23 dX10_findOrder_64 kc_0.1 kc_0.2 (fv_9_3 e13) ?_
    refine v_aload_n (pc := 67) (j := 0) F dX10_findOrder_67 rfl rfl ?_
    refine v_ifl (pc := 68) F fl_X10_56 dX10_findOrder_68 kc_0.1 kc_0.2 fv_9_9 ?_
    refine v_aload_n (pc := 71) (j := 0) F dX10_findOrder_71 rfl rfl ?_
    refine v_ifl (pc := 72) F fl_X10_60 dX10_findOrder_72 kc_0.1 kc_0.2 fv_9_10 ?_
    refine v_iload (pc := 75) (j := 5) F dX10_findOrder_75 rfl ?_
    obtain ⟨v14, e15, hf⟩ := bnd_some hf
    refine v_iald (pc := 77) F dX10_findOrder_77 kc_390.1 kc_390.2 e15 ?_
    refine v_aload_n (pc := 78) (j := 0) F dX10_findOrder_78 rfl rfl ?_
    obtain ⟨f16, e17, hf⟩ := bnd_some hf
    obtain ⟨ho_f16, hk_f16, e17⟩ := rf_in e17
    refine v_ifl (pc := 79) F fl_X10_23 dX10_findOrder_79 kc_0.1 kc_0.2 (fv_9_3 e17) ?_
    refine v_ifl (pc := 82) F fl_X10_116 dX10_findOrder_82 ho_f16 hk_f16 fv_1_15 ?_
    obtain ⟨r18, e19, hf⟩ := bnd_some hf
    refine v_callSv (pc := 85) (As := [.ref (gA g f12), .ref (gA g 386), .int v14, .int (s1.1 f16 15)]) F cl_X10_247 dX10_findOrder_85 (kX1_pass ho_f12 hk_f12 kc_386.1 kc_386.2 e19) rfl rfl (Nat.le_of_ble_eq_true rfl) (by decide) (Nat.zero_le _) ?_
    refine v_iinc (pc := 88) (j := 5) (v := s1.2 + 1) (lv' := [(0, .ref (gA g 0)), (1, .int l1), (2, .int l2), (3, .int l3), (4, .int l4), (5, .int (s1.2 + 1))]) F dX10_findOrder_88 rfl (congrArg (fun z => s1.2 + z) ic_1) (by decide) rfl ?_
    refine v_goto (pc := 91) (tgt := 57) F dX10_findOrder_91 (by decide) ?_
    exact hk (r18, s1.2 + 1) (Option.some.inj hf).symm
set_option maxRecDepth 100000 in
set_option maxHeartbeats 4000000 in
theorem tX10_findOrder_131 {p : Program} {l : Launch} {e : Env} {s : State} {m : MethodId} {args : Array Value} {below : List Frame} {meth : Method} {c : Code} {g : GE} {B : Nat} {h : ST}  {l1 : Int32} {l2 : Int32} {l3 : Int32} {l4 : Int32} (F : Fx p s m args meth c cX10_findOrder 6 "DustParish" 395 g B)
    {Q : State → Prop} {y : (ST × Int32 × Int32) ⊕ ((ST × Int32) ⊕ (ST × Int32))} (hk : ∀ v : (ST × Int32 × Int32), y = Sum.inl v → V p l e 6 0 s m args below meth c Q KC 395 g B 6 0 v.1 33 [(0, .ref (gA g 0)), (1, .int l1), (2, .int l2), (3, .int v.2.1), (4, .int v.2.2)] []) (hx0 : ∀ v : (ST × Int32), y = Sum.inr (.inl v) → V p l e 6 0 s m args below meth c Q KC 395 g B 6 0 v.1 142 [(3, .int v.2)] []) (hx1 : ∀ v : (ST × Int32), y = Sum.inr (.inr v) → V p l e 6 0 s m args below meth c Q KC 395 g B 6 0 v.1 151 [(3, .int v.2)] []) (hf : fX10_findOrder_131 h l1 l2 l3 l4 = some y) : V p l e 6 0 s m args below meth c Q KC 395 g B 6 0 h 131 [(0, .ref (gA g 0)), (1, .int l1), (2, .int l2), (3, .int l3), (4, .int l4)] [] := by
  unfold fX10_findOrder_131 at hf
  refine v_aload_n (pc := 131) (j := 0) F dX10_findOrder_131 rfl rfl ?_
  refine v_ifl (pc := 132) F fl_X10_60 dX10_findOrder_132 kc_0.1 kc_0.2 fv_9_10 ?_
  refine v_iload_n (pc := 135) (j := 2) F dX10_findOrder_135 rfl rfl ?_
  obtain ⟨r25, e26, hf⟩ := bnd_some hf
  refine v_callSi (pc := 136) (As := [.ref (gA g 390), .int l2]) F cl_X10_263 dX10_findOrder_136 (kX10_nextRow kc_390.1 kc_390.2 e26) rfl rfl (Nat.le_of_ble_eq_true rfl) (by decide) (Nat.zero_le _) ?_
  refine v_if_ne (pc := 139) (tgt := 145) F dX10_findOrder_139 (by decide) (fun c27 => ?_) (fun c27 => ?_)
  · have hf := ite_f hf c27
    refine v_iinc (pc := 145) (j := 4) (v := l4 + 1) (lv' := [(0, .ref (gA g 0)), (1, .int l1), (2, .int l2), (3, .int l3), (4, .int (l4 + 1))]) F dX10_findOrder_145 rfl (congrArg (fun z => l4 + z) ic_1) (by decide) rfl ?_
    refine v_goto (pc := 148) (tgt := 33) F dX10_findOrder_148 (by decide) ?_
    exact hk (r25.2, l3, l4 + 1) (Option.some.inj hf).symm
  · have hf := ite_t hf c27
    refine V.sub (lv' := [(3, .int l3)]) [3] rfl ?_
    exact hx0 (r25.2, l3) (Option.some.inj hf).symm
set_option maxRecDepth 100000 in
set_option maxHeartbeats 4000000 in
theorem tX10_findOrder_33 {p : Program} {l : Launch} {e : Env} {s : State} {m : MethodId} {args : Array Value} {below : List Frame} {meth : Method} {c : Code} {g : GE} {B : Nat}  {l1 : Int32} {l2 : Int32} {Q : State → Prop} {x : ((ST × Int32) ⊕ (ST × Int32))} {nf : Nat} {s0 : (ST × Int32 × Int32)} (F : Fx p s m args meth c cX10_findOrder 6 "DustParish" 395 g B) (hX0 : ∀ v : (ST × Int32), x = (.inl v) → V p l e 6 0 s m args below meth c Q KC 395 g B 6 0 v.1 142 [(3, .int v.2)] []) (hX1 : ∀ v : (ST × Int32), x = (.inr v) → V p l e 6 0 s m args below meth c Q KC 395 g B 6 0 v.1 151 [(3, .int v.2)] []) (hl : lp nf (fX10_findOrder_33 l1 l2) s0 = some x) : V p l e 6 0 s m args below meth c Q KC 395 g B 6 0 s0.1 33 [(0, .ref (gA g 0)), (1, .int l1), (2, .int l2), (3, .int s0.2.1), (4, .int s0.2.2)] [] := by
  refine lp_ind (P := fun s0 => V p l e 6 0 s m args below meth c Q KC 395 g B 6 0 s0.1 33 [(0, .ref (gA g 0)), (1, .int l1), (2, .int l2), (3, .int s0.2.1), (4, .int s0.2.2)] []) ?_ nf s0 hl
  intro s1 y hf hk hx
  have hx0 : ∀ v : (ST × Int32), y = Sum.inr (.inl v) → V p l e 6 0 s m args below meth c Q KC 395 g B 6 0 v.1 142 [(3, .int v.2)] [] := fun v e9 => hX0 v (hx _ e9).symm
  have hx1 : ∀ v : (ST × Int32), y = Sum.inr (.inr v) → V p l e 6 0 s m args below meth c Q KC 395 g B 6 0 v.1 151 [(3, .int v.2)] [] := fun v e9 => hX1 v (hx _ e9).symm
  unfold fX10_findOrder_33 at hf
  refine v_iload (pc := 33) (j := 4) F dX10_findOrder_33 rfl ?_
  refine v_bipush (pc := 35) (v := 120) F dX10_findOrder_35 bp_120 ?_
  refine v_icmp_ge (pc := 37) (tgt := 151) F dX10_findOrder_37 (by decide) (fun c8 => ?_) (fun c8 => ?_)
  · have hf := ite_t hf c8
    refine V.sub (lv' := [(3, .int s1.2.1)]) [3] rfl ?_
    exact hx1 (s1.1, s1.2.1) (Option.some.inj hf).symm
  · have hf := ite_f hf c8
    refine v_aload_n (pc := 40) (j := 0) F dX10_findOrder_40 rfl rfl ?_
    refine v_ifl (pc := 41) F fl_X10_56 dX10_findOrder_41 kc_0.1 kc_0.2 fv_9_9 ?_
    refine v_aload_n (pc := 44) (j := 0) F dX10_findOrder_44 rfl rfl ?_
    refine v_ifl (pc := 45) F fl_X10_42 dX10_findOrder_45 kc_0.1 kc_0.2 fv_9_6 ?_
    refine v_ifl (pc := 48) F fl_X10_122 dX10_findOrder_48 kc_42.1 kc_42.2 fv_2_0 ?_
    obtain ⟨r9, e10, hf⟩ := bnd_some hf
    refine v_callVv (pc := 51) (As := [.ref (gA g 43)]) F cl_X10_241 dX10_findOrder_51 (kX8_copy kc_386.1 kc_386.2 kc_43.1 kc_43.2 e10) kc_386.1 kc_386.2 rc_7 rfl rfl (Nat.le_of_ble_eq_true rfl) (by decide) (Nat.zero_le _) ?_
    refine v_iconst (pc := 54) (v := 0) F dX10_findOrder_54 ic_0 ?_
    refine v_istore (pc := 55) (lv' := [(0, .ref (gA g 0)), (1, .int l1), (2, .int l2), (3, .int s1.2.1), (4, .int s1.2.2), (5, .int 0)]) F dX10_findOrder_55 (by decide) rfl ?_
    obtain ⟨x20, e21, hf⟩ := bnd_some hf
    refine tX10_findOrder_57 (s0 := (r9, 0)) F ?_ e21
    refine v_aload_n (pc := 94) (j := 0) F dX10_findOrder_94 rfl rfl ?_
    refine v_ifl (pc := 95) F fl_X10_56 dX10_findOrder_95 kc_0.1 kc_0.2 fv_9_9 ?_
    refine v_ifl (pc := 98) F fl_X10_171 dX10_findOrder_98 kc_386.1 kc_386.2 fv_7_3 ?_
    refine v_iload_n (pc := 101) (j := 1) F dX10_findOrder_101 rfl rfl ?_
    obtain ⟨v22, e23, hf⟩ := bnd_some hf
    refine v_iald (pc := 102) F dX10_findOrder_102 kc_387.1 kc_387.2 e23 ?_
    refine v_iload_n (pc := 103) (j := 3) F dX10_findOrder_103 rfl rfl ?_
    refine v_icmp_le (pc := 104) (tgt := 131) F dX10_findOrder_104 (by decide) (fun c24 => ?_) (fun c24 => ?_)
    · have hf := ite_t hf c24
      exact tX10_findOrder_131 F hk hx0 hx1 hf
    · have hf := ite_f hf c24
      refine v_aload_n (pc := 107) (j := 0) F dX10_findOrder_107 rfl rfl ?_
      refine v_ifl (pc := 108) F fl_X10_56 dX10_findOrder_108 kc_0.1 kc_0.2 fv_9_9 ?_
      refine v_ifl (pc := 111) F fl_X10_171 dX10_findOrder_111 kc_386.1 kc_386.2 fv_7_3 ?_
      refine v_iload_n (pc := 114) (j := 1) F dX10_findOrder_114 rfl rfl ?_
      obtain ⟨v28, e29, hf⟩ := bnd_some hf
      refine v_iald (pc := 115) F dX10_findOrder_115 kc_387.1 kc_387.2 e29 ?_
      refine v_istore_n (pc := 116) (lv' := [(0, .ref (gA g 0)), (1, .int l1), (2, .int l2), (3, .int v28), (4, .int s1.2.2)]) F dX10_findOrder_116 rfl (by decide) rfl ?_
      refine v_aload_n (pc := 117) (j := 0) F dX10_findOrder_117 rfl rfl ?_
      refine v_ifl (pc := 118) F fl_X10_60 dX10_findOrder_118 kc_0.1 kc_0.2 fv_9_10 ?_
      refine v_iconst (pc := 121) (v := 0) F dX10_findOrder_121 ic_0 ?_
      refine v_aload_n (pc := 122) (j := 0) F dX10_findOrder_122 rfl rfl ?_
      refine v_ifl (pc := 123) F fl_X10_64 dX10_findOrder_123 kc_0.1 kc_0.2 fv_9_11 ?_
      refine v_iconst (pc := 126) (v := 0) F dX10_findOrder_126 ic_0 ?_
      refine v_iconst (pc := 127) (v := 5) F dX10_findOrder_127 ic_5 ?_
      obtain ⟨h30, e31, hf⟩ := bnd_some hf
      refine v_copy (pc := 128) F tw_1074 acpW dX10_findOrder_128 kc_390.1 kc_390.2 kc_391.1 kc_391.2 e31 (by decide) (Nat.le_of_ble_eq_true rfl) ?_
      exact tX10_findOrder_131 F hk hx0 hx1 hf
set_option maxRecDepth 100000 in
set_option maxHeartbeats 4000000 in
theorem tX10_findOrder_151 {p : Program} {l : Launch} {e : Env} {s : State} {m : MethodId} {args : Array Value} {below : List Frame} {meth : Method} {c : Code} {g : GE} {B : Nat} {h : ST}  {l3 : Int32} (F : Fx p s m args meth c cX10_findOrder 6 "DustParish" 395 g B)
    {y : Int32 × ST} (hr : meth.sig.returnType = (some .int)) (hf : fX10_findOrder_151 h l3 = some y) : V p l e 6 0 s m args below meth c (MQ below (QO KC 395 g (some (.int y.1)) y.2) args s 0 (6 * 0) (fun q => B ≤ q)) KC 395 g B 6 0 h 151 [(3, .int l3)] [] := by
  unfold fX10_findOrder_151 at hf
  refine v_iload_n (pc := 151) (j := 0) F dX10_findOrder_151 rfl rfl ?_
  exact v_iret (pc := 152) F hr dX10_findOrder_152 (some_fst hf) (some_snd hf) (Nat.zero_le _)
set_option maxRecDepth 100000 in
set_option maxHeartbeats 4000000 in
theorem kX10_findOrder {l : Launch} {g : GE} {B : Nat} {h : ST} {a1 : Int32} {y : Int32 × ST} (hf : fX10_findOrder h a1 = some y) : CT l yX10_findOrder cX10_findOrder 6 (some .int) 6 KC 395 g B [.ref (gA g 0), .int a1] h (some (.int y.1)) y.2 := by
  refine CT.of pn_X10 (Nat.le_of_ble_eq_true rfl) ?_
  intro p e s m below meth c hr F
  have F : Fx p s m _ meth c cX10_findOrder 6 "DustParish" 395 g B := F
  refine V_lv (lv' := [(0, .ref (gA g 0)), (1, .int a1)]) rfl ?_
  unfold fX10_findOrder at hf
  refine v_aload_n (pc := 0) (j := 0) F dX10_findOrder_0 rfl rfl ?_
  obtain ⟨f1, e2, hf⟩ := bnd_some hf
  obtain ⟨ho_f1, hk_f1, e2⟩ := rf_in e2
  refine v_ifl (pc := 1) F fl_X10_23 dX10_findOrder_1 kc_0.1 kc_0.2 (fv_9_3 e2) ?_
  refine v_ifl (pc := 4) F fl_X10_110 dX10_findOrder_4 ho_f1 hk_f1 fv_1_8 ?_
  refine v_istore_n (pc := 7) (lv' := [(0, .ref (gA g 0)), (1, .int a1), (2, .int (h f1 8))]) F dX10_findOrder_7 rfl (by decide) rfl ?_
  refine v_iconst (pc := 8) (v := 0) F dX10_findOrder_8 ic_0 ?_
  refine v_istore_n (pc := 9) (lv' := [(0, .ref (gA g 0)), (1, .int a1), (2, .int (h f1 8)), (3, .int 0)]) F dX10_findOrder_9 rfl (by decide) rfl ?_
  obtain ⟨x6, e7, hf⟩ := bnd_some hf
  refine tX10_findOrder_10 (s0 := (h, 0)) F ?_ e7
  refine v_iconst (pc := 28) (v := (-1)) F dX10_findOrder_28 ic_m1 ?_
  refine v_istore_n (pc := 29) (lv' := [(0, .ref (gA g 0)), (1, .int a1), (2, .int (h f1 8)), (3, .int (-1))]) F dX10_findOrder_29 rfl (by decide) rfl ?_
  refine v_iconst (pc := 30) (v := 0) F dX10_findOrder_30 ic_0 ?_
  refine v_istore (pc := 31) (lv' := [(0, .ref (gA g 0)), (1, .int a1), (2, .int (h f1 8)), (3, .int (-1)), (4, .int 0)]) F dX10_findOrder_31 (by decide) rfl ?_
  obtain ⟨x32, e33, hf⟩ := bnd_some hf
  refine tX10_findOrder_33 (s0 := (x6, (-1), 0)) F (fun v e9 => ?_) (fun v e9 => ?_) e33
  · subst e9
    have hf := sm_l hf
    refine v_goto (pc := 142) (tgt := 151) F dX10_findOrder_142 (by decide) ?_
    exact tX10_findOrder_151 F hr hf
  · subst e9
    have hf := sm_r hf
    exact tX10_findOrder_151 F hr hf
def fX10_forget (h : ST) : Option (ST) :=
  bnd (pw h 209 0 0) fun h1 =>
  some h1
set_option maxRecDepth 100000 in
set_option maxHeartbeats 4000000 in
theorem kX10_forget {l : Launch} {g : GE} {B : Nat} {h : ST} {y : ST} (hf : fX10_forget h = some y) : CT l yX10_forget cX10_forget 1 none 1 KC 395 g B [.ref (gA g 0)] h none y := by
  refine CT.of pn_X10 (Nat.le_of_ble_eq_true rfl) ?_
  intro p e s m below meth c hr F
  have F : Fx p s m _ meth c cX10_forget 1 "DustParish" 395 g B := F
  refine V_lv (lv' := [(0, .ref (gA g 0))]) rfl ?_
  unfold fX10_forget at hf
  refine v_aload_n (pc := 0) (j := 0) F dX10_forget_0 rfl rfl ?_
  refine v_ifl (pc := 1) F fl_X10_42 dX10_forget_1 kc_0.1 kc_0.2 fv_9_6 ?_
  refine v_ifl (pc := 4) F fl_X10_152 dX10_forget_4 kc_42.1 kc_42.2 fv_2_2 ?_
  refine v_iconst (pc := 7) (v := 0) F dX10_forget_7 ic_0 ?_
  obtain ⟨h1, e2, hf⟩ := bnd_some hf
  refine v_pfl (pc := 8) F fl_X10_156 pl_6_0 dX10_forget_8 kc_209.1 kc_209.2 fv_6_0 rfl rfl e2 ?_
  exact v_vret (pc := 11) F hr dX10_forget_11 (Option.some.inj hf) (Nat.zero_le _)
def fJ7_fill_53178_5 (o1 : Nat) (n_o1 : Nat) (l1 : Int32) (l3 : Int32) (s1 : (ST × Int32)) : Option ((ST × Int32) ⊕ ST) :=
  if l3 ≤ s1.2 then
  some (.inr s1.1)
  else
  bnd (wr n_o1 s1.1 o1 s1.2 l1) fun h2 =>
    some (.inl (h2, s1.2 + 1))
def fJ7_fill_53178 (h : ST) (o1 : Nat) (n_o1 : Nat) (a2 : Int32) : Option (ST) :=
  bnd (lp FU (fJ7_fill_53178_5 o1 n_o1 a2 (Int32.ofNat n_o1)) (h, 0)) fun x4 =>
  some x4
set_option maxRecDepth 100000 in
set_option maxHeartbeats 4000000 in
theorem tJ7_fill_53178_5 {p : Program} {l : Launch} {e : Env} {s : State} {m : MethodId} {args : Array Value} {below : List Frame} {meth : Method} {c : Code} {g : GE} {B : Nat} {o1 n_o1 : Nat} (ho_o1 : o1 < 395) (hk_o1 : KC o1 = (20, n_o1)) {l1 : Int32} {l3 : Int32} {Q : State → Prop} {x : ST} {nf : Nat} {s0 : (ST × Int32)} (F : Fx p s m args meth c cJ7_fill_53178 4 "java/util/Arrays" 395 g B) (hX0 : V p l e 1 0 s m args below meth c Q KC 395 g B 4 0 x 20 [] []) (hl : lp nf (fJ7_fill_53178_5 o1 n_o1 l1 l3) s0 = some x) : V p l e 1 0 s m args below meth c Q KC 395 g B 4 0 s0.1 5 [(0, .ref (gA g o1)), (1, .int l1), (2, .int s0.2), (3, .int l3)] [] := by
  refine lp_ind (P := fun s0 => V p l e 1 0 s m args below meth c Q KC 395 g B 4 0 s0.1 5 [(0, .ref (gA g o1)), (1, .int l1), (2, .int s0.2), (3, .int l3)] []) ?_ nf s0 hl
  intro s1 y hf hk hx
  have hx0 : ∀ v : ST, y = Sum.inr v → V p l e 1 0 s m args below meth c Q KC 395 g B 4 0 v 20 [] [] := fun v e9 => by rw [hx v e9]; exact hX0
  unfold fJ7_fill_53178_5 at hf
  refine v_iload_n (pc := 5) (j := 2) F dJ7_fill_53178_5 rfl rfl ?_
  refine v_iload_n (pc := 6) (j := 3) F dJ7_fill_53178_6 rfl rfl ?_
  refine v_icmp_ge (pc := 7) (tgt := 20) F dJ7_fill_53178_7 (by decide) (fun c1 => ?_) (fun c1 => ?_)
  · have hf := ite_t hf c1
    refine V.sub (lv' := []) [] rfl ?_
    exact hx0 s1.1 (Option.some.inj hf).symm
  · have hf := ite_f hf c1
    refine v_aload_n (pc := 10) (j := 0) F dJ7_fill_53178_10 rfl rfl ?_
    refine v_iload_n (pc := 11) (j := 2) F dJ7_fill_53178_11 rfl rfl ?_
    refine v_iload_n (pc := 12) (j := 1) F dJ7_fill_53178_12 rfl rfl ?_
    obtain ⟨h2, e3, hf⟩ := bnd_some hf
    refine v_iast (pc := 13) F dJ7_fill_53178_13 ho_o1 hk_o1 e3 ?_
    refine v_iinc (pc := 14) (j := 2) (v := s1.2 + 1) (lv' := [(0, .ref (gA g o1)), (1, .int l1), (2, .int (s1.2 + 1)), (3, .int l3)]) F dJ7_fill_53178_14 rfl (congrArg (fun z => s1.2 + z) ic_1) (by decide) rfl ?_
    refine v_goto (pc := 17) (tgt := 5) F dJ7_fill_53178_17 (by decide) ?_
    exact hk (h2, s1.2 + 1) (Option.some.inj hf).symm
set_option maxRecDepth 100000 in
set_option maxHeartbeats 4000000 in
theorem kJ7_fill_53178 {l : Launch} {g : GE} {B : Nat} {h : ST} {o1 n_o1 : Nat} (ho_o1 : o1 < 395) (hk_o1 : KC o1 = (20, n_o1)) {a2 : Int32} {y : ST} (hf : fJ7_fill_53178 h o1 n_o1 a2 = some y) : CT l yJ7_fill_53178 cJ7_fill_53178 4 none 1 KC 395 g B [.ref (gA g o1), .int a2] h none y := by
  refine CT.of pn_J7 (Nat.le_of_ble_eq_true rfl) ?_
  intro p e s m below meth c hr F
  have F : Fx p s m _ meth c cJ7_fill_53178 4 "java/util/Arrays" 395 g B := F
  refine V_lv (lv' := [(0, .ref (gA g o1)), (1, .int a2)]) rfl ?_
  unfold fJ7_fill_53178 at hf
  refine v_iconst (pc := 0) (v := 0) F dJ7_fill_53178_0 ic_0 ?_
  refine v_istore_n (pc := 1) (lv' := [(0, .ref (gA g o1)), (1, .int a2), (2, .int 0)]) F dJ7_fill_53178_1 rfl (by decide) rfl ?_
  refine v_aload_n (pc := 2) (j := 0) F dJ7_fill_53178_2 rfl rfl ?_
  refine v_alen (pc := 3) (v := Int32.ofNat n_o1) F dJ7_fill_53178_3 ho_o1 hk_o1 (by decide) (by decide) rfl ?_
  refine v_istore_n (pc := 4) (lv' := [(0, .ref (gA g o1)), (1, .int a2), (2, .int 0), (3, .int (Int32.ofNat n_o1))]) F dJ7_fill_53178_4 rfl (by decide) rfl ?_
  obtain ⟨x4, e5, hf⟩ := bnd_some hf
  refine tJ7_fill_53178_5 (s0 := (h, 0)) ho_o1 hk_o1 F ?_ e5
  exact v_vret (pc := 20) F hr dJ7_fill_53178_20 (Option.some.inj hf) (Nat.zero_le _)
def fX10_fullestTrialRoom_4 (h : ST) (s1 : (Int32 × Int32)) : Option ((Int32 × Int32) ⊕ Int32) :=
  bnd (rf KC 395 1 (h 0 3)) fun f1 =>
  if (h f1 0) ≤ s1.2 then
  some (.inr s1.1)
  else
  bnd (rd 9 (h 387) s1.2) fun v4 =>
    some (.inl ((if s1.1 < v4 then v4 else s1.1), s1.2 + 1))
def fX10_fullestTrialRoom (h : ST) : Option (Int32) :=
  bnd (lp FU (fX10_fullestTrialRoom_4 h) (0, 0)) fun x6 =>
  some x6
set_option maxRecDepth 100000 in
set_option maxHeartbeats 4000000 in
theorem tX10_fullestTrialRoom_4 {p : Program} {l : Launch} {e : Env} {s : State} {m : MethodId} {args : Array Value} {below : List Frame} {meth : Method} {c : Code} {g : GE} {B : Nat} {h : ST}  {Q : State → Prop} {x : Int32} {nf : Nat} {s0 : (Int32 × Int32)} (F : Fx p s m args meth c cX10_fullestTrialRoom 3 "DustParish" 395 g B) (hX0 : V p l e 1 0 s m args below meth c Q KC 395 g B 3 0 h 35 [(1, .int x)] []) (hl : lp nf (fX10_fullestTrialRoom_4 h) s0 = some x) : V p l e 1 0 s m args below meth c Q KC 395 g B 3 0 h 4 [(0, .ref (gA g 0)), (1, .int s0.1), (2, .int s0.2)] [] := by
  refine lp_ind (P := fun s0 => V p l e 1 0 s m args below meth c Q KC 395 g B 3 0 h 4 [(0, .ref (gA g 0)), (1, .int s0.1), (2, .int s0.2)] []) ?_ nf s0 hl
  intro s1 y hf hk hx
  have hx0 : ∀ v : Int32, y = Sum.inr v → V p l e 1 0 s m args below meth c Q KC 395 g B 3 0 h 35 [(1, .int v)] [] := fun v e9 => by rw [hx v e9]; exact hX0
  unfold fX10_fullestTrialRoom_4 at hf
  refine v_iload_n (pc := 4) (j := 2) F dX10_fullestTrialRoom_4 rfl rfl ?_
  refine v_aload_n (pc := 5) (j := 0) F dX10_fullestTrialRoom_5 rfl rfl ?_
  obtain ⟨f1, e2, hf⟩ := bnd_some hf
  obtain ⟨ho_f1, hk_f1, e2⟩ := rf_in e2
  refine v_ifl (pc := 6) F fl_X10_23 dX10_fullestTrialRoom_6 kc_0.1 kc_0.2 (fv_9_3 e2) ?_
  refine v_ifl (pc := 9) F fl_X10_104 dX10_fullestTrialRoom_9 ho_f1 hk_f1 fv_1_0 ?_
  refine v_icmp_ge (pc := 12) (tgt := 35) F dX10_fullestTrialRoom_12 (by decide) (fun c3 => ?_) (fun c3 => ?_)
  · have hf := ite_t hf c3
    refine V.sub (lv' := [(1, .int s1.1)]) [1] rfl ?_
    exact hx0 s1.1 (Option.some.inj hf).symm
  · have hf := ite_f hf c3
    refine v_iload_n (pc := 15) (j := 1) F dX10_fullestTrialRoom_15 rfl rfl ?_
    refine v_aload_n (pc := 16) (j := 0) F dX10_fullestTrialRoom_16 rfl rfl ?_
    refine v_ifl (pc := 17) F fl_X10_56 dX10_fullestTrialRoom_17 kc_0.1 kc_0.2 fv_9_9 ?_
    refine v_ifl (pc := 20) F fl_X10_171 dX10_fullestTrialRoom_20 kc_386.1 kc_386.2 fv_7_3 ?_
    refine v_iload_n (pc := 23) (j := 2) F dX10_fullestTrialRoom_23 rfl rfl ?_
    obtain ⟨v4, e5, hf⟩ := bnd_some hf
    refine v_iald (pc := 24) F dX10_fullestTrialRoom_24 kc_387.1 kc_387.2 e5 ?_
    refine v_mmax (pc := 25) F tw_1109 mmaxW dX10_fullestTrialRoom_25 (by decide) (Nat.le_of_ble_eq_true rfl) (Nat.zero_le _) ?_
    refine v_istore_n (pc := 28) (lv' := [(0, .ref (gA g 0)), (1, .int (if s1.1 < v4 then v4 else s1.1)), (2, .int s1.2)]) F dX10_fullestTrialRoom_28 rfl (by decide) rfl ?_
    refine v_iinc (pc := 29) (j := 2) (v := s1.2 + 1) (lv' := [(0, .ref (gA g 0)), (1, .int (if s1.1 < v4 then v4 else s1.1)), (2, .int (s1.2 + 1))]) F dX10_fullestTrialRoom_29 rfl (congrArg (fun z => s1.2 + z) ic_1) (by decide) rfl ?_
    refine v_goto (pc := 32) (tgt := 4) F dX10_fullestTrialRoom_32 (by decide) ?_
    exact hk ((if s1.1 < v4 then v4 else s1.1), s1.2 + 1) (Option.some.inj hf).symm
set_option maxRecDepth 100000 in
set_option maxHeartbeats 4000000 in
theorem kX10_fullestTrialRoom {l : Launch} {g : GE} {B : Nat} {h : ST} {y : Int32} (hf : fX10_fullestTrialRoom h = some y) : CT l yX10_fullestTrialRoom cX10_fullestTrialRoom 3 (some .int) 1 KC 395 g B [.ref (gA g 0)] h (some (.int y)) h := by
  refine CT.of pn_X10 (Nat.le_of_ble_eq_true rfl) ?_
  intro p e s m below meth c hr F
  have F : Fx p s m _ meth c cX10_fullestTrialRoom 3 "DustParish" 395 g B := F
  refine V_lv (lv' := [(0, .ref (gA g 0))]) rfl ?_
  unfold fX10_fullestTrialRoom at hf
  refine v_iconst (pc := 0) (v := 0) F dX10_fullestTrialRoom_0 ic_0 ?_
  refine v_istore_n (pc := 1) (lv' := [(0, .ref (gA g 0)), (1, .int 0)]) F dX10_fullestTrialRoom_1 rfl (by decide) rfl ?_
  refine v_iconst (pc := 2) (v := 0) F dX10_fullestTrialRoom_2 ic_0 ?_
  refine v_istore_n (pc := 3) (lv' := [(0, .ref (gA g 0)), (1, .int 0), (2, .int 0)]) F dX10_fullestTrialRoom_3 rfl (by decide) rfl ?_
  obtain ⟨x6, e7, hf⟩ := bnd_some hf
  refine tX10_fullestTrialRoom_4 (s0 := (0, 0)) F ?_ e7
  refine v_iload_n (pc := 35) (j := 0) F dX10_fullestTrialRoom_35 rfl rfl ?_
  exact v_iret (pc := 36) F hr dX10_fullestTrialRoom_36 (Option.some.inj hf) rfl (Nat.zero_le _)
def fX10_lowestRoom_2 (h : ST) (l1 : Int32) (s1 : Int32) : Option (Int32 ⊕ (Int32 ⊕ Unit)) :=
  bnd (rf KC 395 1 (h 0 3)) fun f1 =>
  if (h f1 0) ≤ s1 then
  some (.inr (.inr ()))
  else
  bnd (rf KC 395 1 (h 0 3)) fun f4 =>
    bnd (rd 9 (h (f4 + 2)) s1) fun v6 =>
    if v6 = l1 then
    some (.inr (.inl s1))
    else
    some (.inl (s1 + 1))
def fX10_lowestRoom (h : ST) (a1 : Int32) : Option (Int32) :=
  bnd (lp FU (fX10_lowestRoom_2 h a1) 0) fun x9 =>
  sm x9 (fun v => some v) (fun v => some (-1))
set_option maxRecDepth 100000 in
set_option maxHeartbeats 4000000 in
theorem tX10_lowestRoom_2 {p : Program} {l : Launch} {e : Env} {s : State} {m : MethodId} {args : Array Value} {below : List Frame} {meth : Method} {c : Code} {g : GE} {B : Nat} {h : ST}  {l1 : Int32} {Q : State → Prop} {x : (Int32 ⊕ Unit)} {nf : Nat} {s0 : Int32} (F : Fx p s m args meth c cX10_lowestRoom 3 "DustParish" 395 g B) (hX0 : ∀ v : Int32, x = (.inl v) → V p l e 1 0 s m args below meth c Q KC 395 g B 3 0 h 26 [(2, .int v)] []) (hX1 : ∀ v : Unit, x = (.inr v) → V p l e 1 0 s m args below meth c Q KC 395 g B 3 0 h 34 [] []) (hl : lp nf (fX10_lowestRoom_2 h l1) s0 = some x) : V p l e 1 0 s m args below meth c Q KC 395 g B 3 0 h 2 [(0, .ref (gA g 0)), (1, .int l1), (2, .int s0)] [] := by
  refine lp_ind (P := fun s0 => V p l e 1 0 s m args below meth c Q KC 395 g B 3 0 h 2 [(0, .ref (gA g 0)), (1, .int l1), (2, .int s0)] []) ?_ nf s0 hl
  intro s1 y hf hk hx
  have hx0 : ∀ v : Int32, y = Sum.inr (.inl v) → V p l e 1 0 s m args below meth c Q KC 395 g B 3 0 h 26 [(2, .int v)] [] := fun v e9 => hX0 v (hx _ e9).symm
  have hx1 : ∀ v : Unit, y = Sum.inr (.inr v) → V p l e 1 0 s m args below meth c Q KC 395 g B 3 0 h 34 [] [] := fun v e9 => hX1 v (hx _ e9).symm
  unfold fX10_lowestRoom_2 at hf
  refine v_iload_n (pc := 2) (j := 2) F dX10_lowestRoom_2 rfl rfl ?_
  refine v_aload_n (pc := 3) (j := 0) F dX10_lowestRoom_3 rfl rfl ?_
  obtain ⟨f1, e2, hf⟩ := bnd_some hf
  obtain ⟨ho_f1, hk_f1, e2⟩ := rf_in e2
  refine v_ifl (pc := 4) F fl_X10_23 dX10_lowestRoom_4 kc_0.1 kc_0.2 (fv_9_3 e2) ?_
  refine v_ifl (pc := 7) F fl_X10_104 dX10_lowestRoom_7 ho_f1 hk_f1 fv_1_0 ?_
  refine v_icmp_ge (pc := 10) (tgt := 34) F dX10_lowestRoom_10 (by decide) (fun c3 => ?_) (fun c3 => ?_)
  · have hf := ite_t hf c3
    refine V.sub (lv' := []) [] rfl ?_
    exact hx1 () (Option.some.inj hf).symm
  · have hf := ite_f hf c3
    refine v_aload_n (pc := 13) (j := 0) F dX10_lowestRoom_13 rfl rfl ?_
    obtain ⟨f4, e5, hf⟩ := bnd_some hf
    obtain ⟨ho_f4, hk_f4, e5⟩ := rf_in e5
    refine v_ifl (pc := 14) F fl_X10_23 dX10_lowestRoom_14 kc_0.1 kc_0.2 (fv_9_3 e5) ?_
    refine v_ifl (pc := 17) F fl_X10_168 dX10_lowestRoom_17 ho_f4 hk_f4 fv_1_2 ?_
    refine v_iload_n (pc := 20) (j := 2) F dX10_lowestRoom_20 rfl rfl ?_
    obtain ⟨v6, e7, hf⟩ := bnd_some hf
    refine v_iald (pc := 21) F dX10_lowestRoom_21 (ly_1_2 ho_f4 hk_f4).1 (ly_1_2 ho_f4 hk_f4).2 e7 ?_
    refine v_iload_n (pc := 22) (j := 1) F dX10_lowestRoom_22 rfl rfl ?_
    refine v_icmp_ne (pc := 23) (tgt := 28) F dX10_lowestRoom_23 (by decide) (fun c8 => ?_) (fun c8 => ?_)
    · have hf := ite_f hf c8
      refine v_iinc (pc := 28) (j := 2) (v := s1 + 1) (lv' := [(0, .ref (gA g 0)), (1, .int l1), (2, .int (s1 + 1))]) F dX10_lowestRoom_28 rfl (congrArg (fun z => s1 + z) ic_1) (by decide) rfl ?_
      refine v_goto (pc := 31) (tgt := 2) F dX10_lowestRoom_31 (by decide) ?_
      exact hk (s1 + 1) (Option.some.inj hf).symm
    · have hf := ite_t hf c8
      refine V.sub (lv' := [(2, .int s1)]) [2] rfl ?_
      exact hx0 s1 (Option.some.inj hf).symm
set_option maxRecDepth 100000 in
set_option maxHeartbeats 4000000 in
theorem kX10_lowestRoom {l : Launch} {g : GE} {B : Nat} {h : ST} {a1 : Int32} {y : Int32} (hf : fX10_lowestRoom h a1 = some y) : CT l yX10_lowestRoom cX10_lowestRoom 3 (some .int) 1 KC 395 g B [.ref (gA g 0), .int a1] h (some (.int y)) h := by
  refine CT.of pn_X10 (Nat.le_of_ble_eq_true rfl) ?_
  intro p e s m below meth c hr F
  have F : Fx p s m _ meth c cX10_lowestRoom 3 "DustParish" 395 g B := F
  refine V_lv (lv' := [(0, .ref (gA g 0)), (1, .int a1)]) rfl ?_
  unfold fX10_lowestRoom at hf
  refine v_iconst (pc := 0) (v := 0) F dX10_lowestRoom_0 ic_0 ?_
  refine v_istore_n (pc := 1) (lv' := [(0, .ref (gA g 0)), (1, .int a1), (2, .int 0)]) F dX10_lowestRoom_1 rfl (by decide) rfl ?_
  obtain ⟨x9, e10, hf⟩ := bnd_some hf
  refine tX10_lowestRoom_2 (s0 := 0) F (fun v e9 => ?_) (fun v e9 => ?_) e10
  · subst e9
    have hf := sm_l hf
    refine v_iload_n (pc := 26) (j := 0) F dX10_lowestRoom_26 rfl rfl ?_
    exact v_iret (pc := 27) F hr dX10_lowestRoom_27 (Option.some.inj hf) rfl (Nat.zero_le _)
  · subst e9
    have hf := sm_r hf
    refine v_iconst (pc := 34) (v := (-1)) F dX10_lowestRoom_34 ic_m1 ?_
    exact v_iret (pc := 35) F hr dX10_lowestRoom_35 (Option.some.inj hf) rfl (Nat.zero_le _)
def fX10_lossOf_45 (h : ST) (q0 : Int32) (q1 : Int32) : Option (Int32) :=
  some (q0 + q1)
def fX10_lossOf (h : ST) (a1 : Int32) (a2 : Int32) (a3 : Int32) (a4 : Int32) : Option (Int32) :=
  bnd (rf KC 395 1 (h 0 3)) fun f1 =>
  if (h f1 16) ≤ (if ((a1 - (a3 * (a1 / 2))) + (a4 * (a2 / 2))) < 9999 then ((a1 - (a3 * (a1 / 2))) + (a4 * (a2 / 2))) else 9999) then
  fX10_lossOf_45 h ((if ((a1 - (a3 * (a1 / 2))) + (a4 * (a2 / 2))) < 9999 then ((a1 - (a3 * (a1 / 2))) + (a4 * (a2 / 2))) else 9999) / 10) 0
  else
  fX10_lossOf_45 h ((if ((a1 - (a3 * (a1 / 2))) + (a4 * (a2 / 2))) < 9999 then ((a1 - (a3 * (a1 / 2))) + (a4 * (a2 / 2))) else 9999) / 10) 20
set_option maxRecDepth 100000 in
set_option maxHeartbeats 4000000 in
theorem tX10_lossOf_45 {p : Program} {l : Launch} {e : Env} {s : State} {m : MethodId} {args : Array Value} {below : List Frame} {meth : Method} {c : Code} {g : GE} {B : Nat} {h : ST}  {q0 : Int32} {q1 : Int32} (F : Fx p s m args meth c cX10_lossOf 6 "DustParish" 395 g B)
    {y : Int32} (hr : meth.sig.returnType = (some .int)) (hf : fX10_lossOf_45 h q0 q1 = some y) : V p l e 1 0 s m args below meth c (MQ below (QO KC 395 g (some (.int y)) h) args s 0 (6 * 0) (fun q => B ≤ q)) KC 395 g B 6 0 h 45 [] [.int q1, .int q0] := by
  unfold fX10_lossOf_45 at hf
  refine v_iadd (pc := 45) F dX10_lossOf_45 ?_
  exact v_iret (pc := 46) F hr dX10_lossOf_46 (Option.some.inj hf) rfl (Nat.zero_le _)
set_option maxRecDepth 100000 in
set_option maxHeartbeats 4000000 in
theorem kX10_lossOf {l : Launch} {g : GE} {B : Nat} {h : ST} {a1 : Int32} {a2 : Int32} {a3 : Int32} {a4 : Int32} {y : Int32} (hf : fX10_lossOf h a1 a2 a3 a4 = some y) : CT l yX10_lossOf cX10_lossOf 6 (some .int) 1 KC 395 g B [.ref (gA g 0), .int a1, .int a2, .int a3, .int a4] h (some (.int y)) h := by
  refine CT.of pn_X10 (Nat.le_of_ble_eq_true rfl) ?_
  intro p e s m below meth c hr F
  have F : Fx p s m _ meth c cX10_lossOf 6 "DustParish" 395 g B := F
  refine V_lv (lv' := [(0, .ref (gA g 0)), (1, .int a1), (2, .int a2), (3, .int a3), (4, .int a4)]) rfl ?_
  unfold fX10_lossOf at hf
  refine v_sipush (pc := 0) (v := 9999) F dX10_lossOf_0 sp_9999 ?_
  refine v_iload_n (pc := 3) (j := 1) F dX10_lossOf_3 rfl rfl ?_
  refine v_iload_n (pc := 4) (j := 3) F dX10_lossOf_4 rfl rfl ?_
  refine v_iload_n (pc := 5) (j := 1) F dX10_lossOf_5 rfl rfl ?_
  refine v_iconst (pc := 6) (v := 2) F dX10_lossOf_6 ic_2 ?_
  refine v_idiv (pc := 7) F dX10_lossOf_7 (by decide) ?_
  refine v_imul (pc := 8) F dX10_lossOf_8 ?_
  refine v_isub (pc := 9) F dX10_lossOf_9 ?_
  refine v_iload (pc := 10) (j := 4) F dX10_lossOf_10 rfl ?_
  refine v_iload_n (pc := 12) (j := 2) F dX10_lossOf_12 rfl rfl ?_
  refine v_iconst (pc := 13) (v := 2) F dX10_lossOf_13 ic_2 ?_
  refine v_idiv (pc := 14) F dX10_lossOf_14 (by decide) ?_
  refine v_imul (pc := 15) F dX10_lossOf_15 ?_
  refine v_iadd (pc := 16) F dX10_lossOf_16 ?_
  refine v_mmin (pc := 17) F tw_918 mminW dX10_lossOf_17 (by decide) (Nat.le_of_ble_eq_true rfl) (Nat.zero_le _) ?_
  refine v_istore (pc := 20) (lv' := [(0, .ref (gA g 0)), (1, .int a1), (2, .int a2), (3, .int a3), (4, .int a4), (5, .int (if ((a1 - (a3 * (a1 / 2))) + (a4 * (a2 / 2))) < 9999 then ((a1 - (a3 * (a1 / 2))) + (a4 * (a2 / 2))) else 9999))]) F dX10_lossOf_20 (by decide) rfl ?_
  refine v_iload (pc := 22) (j := 5) F dX10_lossOf_22 rfl ?_
  refine v_bipush (pc := 24) (v := 10) F dX10_lossOf_24 bp_10 ?_
  refine v_idiv (pc := 26) F dX10_lossOf_26 (by decide) ?_
  refine v_iload (pc := 27) (j := 5) F dX10_lossOf_27 rfl ?_
  refine v_aload_n (pc := 29) (j := 0) F dX10_lossOf_29 rfl rfl ?_
  obtain ⟨f1, e2, hf⟩ := bnd_some hf
  obtain ⟨ho_f1, hk_f1, e2⟩ := rf_in e2
  refine v_ifl (pc := 30) F fl_X10_23 dX10_lossOf_30 kc_0.1 kc_0.2 (fv_9_3 e2) ?_
  refine v_ifl (pc := 33) F fl_X10_119 dX10_lossOf_33 ho_f1 hk_f1 fv_1_16 ?_
  refine v_icmp_ge (pc := 36) (tgt := 44) F dX10_lossOf_36 (by decide) (fun c3 => ?_) (fun c3 => ?_)
  · have hf := ite_t hf c3
    refine v_iconst (pc := 44) (v := 0) F dX10_lossOf_44 ic_0 ?_
    refine V.sub (lv' := []) [] rfl ?_
    exact tX10_lossOf_45 F hr hf
  · have hf := ite_f hf c3
    refine v_bipush (pc := 39) (v := 20) F dX10_lossOf_39 bp_20 ?_
    refine v_goto (pc := 41) (tgt := 45) F dX10_lossOf_41 (by decide) ?_
    refine V.sub (lv' := []) [] rfl ?_
    exact tX10_lossOf_45 F hr hf
def fX10_rests_51 (h : ST) (q0 : Int32) : Option (Int32) :=
  bnd (zb q0) fun z6 =>
  some z6
def fX10_rests_50 (h : ST)  : Option (Int32) :=
  fX10_rests_51 h 0
def fX10_rests (h : ST) (a1 : Int32) (a2 : Int32) (a3 : Int32) (a4 : Int32) : Option (Int32) :=
  bnd (fX10_lossOf h a1 a2 a3 a4) fun r1 =>
  bnd (fX10_lossOf h a1 a2 (1 - a3) a4) fun r3 =>
  if r3 < r1 then
  fX10_rests_50 h 
  else
  bnd (fX10_lossOf h a2 a1 a4 a3) fun r8 =>
    bnd (fX10_lossOf h a2 a1 (1 - a4) a3) fun r10 =>
    if r10 < r8 then
    fX10_rests_50 h 
    else
    fX10_rests_51 h 1
set_option maxRecDepth 100000 in
set_option maxHeartbeats 4000000 in
theorem tX10_rests_51 {p : Program} {l : Launch} {e : Env} {s : State} {m : MethodId} {args : Array Value} {below : List Frame} {meth : Method} {c : Code} {g : GE} {B : Nat} {h : ST}  {q0 : Int32} (F : Fx p s m args meth c cX10_rests 5 "DustParish" 395 g B)
    {y : Int32} (hr : meth.sig.returnType = (some .boolean)) (hf : fX10_rests_51 h q0 = some y) : V p l e 2 0 s m args below meth c (MQ below (QO KC 395 g (some (.int y)) h) args s 0 (6 * 0) (fun q => B ≤ q)) KC 395 g B 5 0 h 51 [] [.int q0] := by
  unfold fX10_rests_51 at hf
  obtain ⟨z6, e7, hf⟩ := bnd_some hf
  exact v_zret (pc := 51) F hr dX10_rests_51 (zb_in e7).2 ((zb_in e7).1.symm.trans (Option.some.inj hf)) rfl (Nat.zero_le _)
set_option maxRecDepth 100000 in
set_option maxHeartbeats 4000000 in
theorem tX10_rests_50 {p : Program} {l : Launch} {e : Env} {s : State} {m : MethodId} {args : Array Value} {below : List Frame} {meth : Method} {c : Code} {g : GE} {B : Nat} {h : ST}  (F : Fx p s m args meth c cX10_rests 5 "DustParish" 395 g B)
    {y : Int32} (hr : meth.sig.returnType = (some .boolean)) (hf : fX10_rests_50 h  = some y) : V p l e 2 0 s m args below meth c (MQ below (QO KC 395 g (some (.int y)) h) args s 0 (6 * 0) (fun q => B ≤ q)) KC 395 g B 5 0 h 50 [] [] := by
  unfold fX10_rests_50 at hf
  refine v_iconst (pc := 50) (v := 0) F dX10_rests_50 ic_0 ?_
  exact tX10_rests_51 F hr hf
set_option maxRecDepth 100000 in
set_option maxHeartbeats 4000000 in
theorem kX10_rests {l : Launch} {g : GE} {B : Nat} {h : ST} {a1 : Int32} {a2 : Int32} {a3 : Int32} {a4 : Int32} {y : Int32} (hf : fX10_rests h a1 a2 a3 a4 = some y) : CT l yX10_rests cX10_rests 5 (some .boolean) 2 KC 395 g B [.ref (gA g 0), .int a1, .int a2, .int a3, .int a4] h (some (.int y)) h := by
  refine CT.of pn_X10 (Nat.le_of_ble_eq_true rfl) ?_
  intro p e s m below meth c hr F
  have F : Fx p s m _ meth c cX10_rests 5 "DustParish" 395 g B := F
  refine V_lv (lv' := [(0, .ref (gA g 0)), (1, .int a1), (2, .int a2), (3, .int a3), (4, .int a4)]) rfl ?_
  unfold fX10_rests at hf
  refine v_aload_n (pc := 0) (j := 0) F dX10_rests_0 rfl rfl ?_
  refine v_iload_n (pc := 1) (j := 1) F dX10_rests_1 rfl rfl ?_
  refine v_iload_n (pc := 2) (j := 2) F dX10_rests_2 rfl rfl ?_
  refine v_iload_n (pc := 3) (j := 3) F dX10_rests_3 rfl rfl ?_
  refine v_iload (pc := 4) (j := 4) F dX10_rests_4 rfl ?_
  obtain ⟨r1, e2, hf⟩ := bnd_some hf
  refine v_callVi (pc := 6) (As := [.int a1, .int a2, .int a3, .int a4]) F cl_X10_329 dX10_rests_6 (kX10_lossOf e2) kc_0.1 kc_0.2 rc_9 rfl rfl (Nat.le_of_ble_eq_true rfl) (by decide) (Nat.zero_le _) ?_
  refine v_aload_n (pc := 9) (j := 0) F dX10_rests_9 rfl rfl ?_
  refine v_iload_n (pc := 10) (j := 1) F dX10_rests_10 rfl rfl ?_
  refine v_iload_n (pc := 11) (j := 2) F dX10_rests_11 rfl rfl ?_
  refine v_iconst (pc := 12) (v := 1) F dX10_rests_12 ic_1 ?_
  refine v_iload_n (pc := 13) (j := 3) F dX10_rests_13 rfl rfl ?_
  refine v_isub (pc := 14) F dX10_rests_14 ?_
  refine v_iload (pc := 15) (j := 4) F dX10_rests_15 rfl ?_
  obtain ⟨r3, e4, hf⟩ := bnd_some hf
  refine v_callVi (pc := 17) (As := [.int a1, .int a2, .int (1 - a3), .int a4]) F cl_X10_329 dX10_rests_17 (kX10_lossOf e4) kc_0.1 kc_0.2 rc_9 rfl rfl (Nat.le_of_ble_eq_true rfl) (by decide) (Nat.zero_le _) ?_
  refine v_icmp_gt (pc := 20) (tgt := 50) F dX10_rests_20 (by decide) (fun c5 => ?_) (fun c5 => ?_)
  · have hf := ite_t hf c5
    refine V.sub (lv' := []) [] rfl ?_
    exact tX10_rests_50 F hr hf
  · have hf := ite_f hf c5
    refine v_aload_n (pc := 23) (j := 0) F dX10_rests_23 rfl rfl ?_
    refine v_iload_n (pc := 24) (j := 2) F dX10_rests_24 rfl rfl ?_
    refine v_iload_n (pc := 25) (j := 1) F dX10_rests_25 rfl rfl ?_
    refine v_iload (pc := 26) (j := 4) F dX10_rests_26 rfl ?_
    refine v_iload_n (pc := 28) (j := 3) F dX10_rests_28 rfl rfl ?_
    obtain ⟨r8, e9, hf⟩ := bnd_some hf
    refine v_callVi (pc := 29) (As := [.int a2, .int a1, .int a4, .int a3]) F cl_X10_329 dX10_rests_29 (kX10_lossOf e9) kc_0.1 kc_0.2 rc_9 rfl rfl (Nat.le_of_ble_eq_true rfl) (by decide) (Nat.zero_le _) ?_
    refine v_aload_n (pc := 32) (j := 0) F dX10_rests_32 rfl rfl ?_
    refine v_iload_n (pc := 33) (j := 2) F dX10_rests_33 rfl rfl ?_
    refine v_iload_n (pc := 34) (j := 1) F dX10_rests_34 rfl rfl ?_
    refine v_iconst (pc := 35) (v := 1) F dX10_rests_35 ic_1 ?_
    refine v_iload (pc := 36) (j := 4) F dX10_rests_36 rfl ?_
    refine v_isub (pc := 38) F dX10_rests_38 ?_
    refine v_iload_n (pc := 39) (j := 3) F dX10_rests_39 rfl rfl ?_
    obtain ⟨r10, e11, hf⟩ := bnd_some hf
    refine v_callVi (pc := 40) (As := [.int a2, .int a1, .int (1 - a4), .int a3]) F cl_X10_329 dX10_rests_40 (kX10_lossOf e11) kc_0.1 kc_0.2 rc_9 rfl rfl (Nat.le_of_ble_eq_true rfl) (by decide) (Nat.zero_le _) ?_
    refine v_icmp_gt (pc := 43) (tgt := 50) F dX10_rests_43 (by decide) (fun c12 => ?_) (fun c12 => ?_)
    · have hf := ite_t hf c12
      refine V.sub (lv' := []) [] rfl ?_
      exact tX10_rests_50 F hr hf
    · have hf := ite_f hf c12
      refine v_iconst (pc := 46) (v := 1) F dX10_rests_46 ic_1 ?_
      refine v_goto (pc := 47) (tgt := 51) F dX10_rests_47 (by decide) ?_
      refine V.sub (lv' := []) [] rfl ?_
      exact tX10_rests_51 F hr hf
