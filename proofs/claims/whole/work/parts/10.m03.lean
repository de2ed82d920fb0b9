def fX11_fullest_56 (h : ST) (l1 : Int32) (l2 : Int32) (l3 : Int32) (l4 : Int32) : Option ((ST × Int32 × Int32 × Int32) ⊕ (ST × Int32)) :=
  bnd (fX11_aDay h) fun r12 =>
  some (.inl (r12, l2, l3, l4 + 1))
def fX11_fullest_34 (l1 : Int32) (s1 : (ST × Int32 × Int32 × Int32)) : Option ((ST × Int32 × Int32 × Int32) ⊕ (ST × Int32)) :=
  if l1 < s1.2.2.2 then
  some (.inr (s1.1, s1.2.1))
  else
  bnd (fX11_allDust s1.1) fun r9 =>
    if r9 ≤ s1.2.2.1 then
    fX11_fullest_56 s1.1 l1 s1.2.1 s1.2.2.1 s1.2.2.2
    else
    bnd (fX11_allDust s1.1) fun r14 =>
      fX11_fullest_56 s1.1 l1 s1.2.2.2 r14 s1.2.2.2
def fX11_fullest (h : ST) (a1 : Int32) : Option (Int32 × ST) :=
  bnd (pw h 0 2 0) fun h1 =>
  bnd (fX11_isAhead h1 a1) fun r3 =>
  if r3 = 0 then
  bnd (fX11_fail h1 1) fun r20 =>
    some (r20.1, r20.2)
  else
  bnd (fX11_pack h1 27 31 0) fun r6 =>
    bnd (lp FU (fX11_fullest_34 a1) (r6, 0, (-1), 0)) fun x16 =>
    bnd (fX11_unpack x16.1 27 31 0) fun r18 =>
    some (x16.2, r18)
set_option maxRecDepth 100000 in
set_option maxHeartbeats 4000000 in
theorem tX11_fullest_56 {p : Program} {l : Launch} {e : Env} {s : State} {m : MethodId} {args : Array Value} {below : List Frame} {meth : Method} {c : Code} {g : GE} {B : Nat} {h : ST}  {l1 : Int32} {l2 : Int32} {l3 : Int32} {l4 : Int32} (F : Fx p s m args meth c cX11_fullest 5 "DustParishModel" 43 g B)
    {Q : State → Prop} {y : (ST × Int32 × Int32 × Int32) ⊕ (ST × Int32)} (hk : ∀ v : (ST × Int32 × Int32 × Int32), y = Sum.inl v → V p l e 7 0 s m args below meth c Q KM 43 g B 5 0 v.1 34 [(0, .ref (gA g 0)), (1, .int l1), (2, .int v.2.1), (3, .int v.2.2.1), (4, .int v.2.2.2)] []) (hx0 : ∀ v : (ST × Int32), y = Sum.inr v → V p l e 7 0 s m args below meth c Q KM 43 g B 5 0 v.1 66 [(0, .ref (gA g 0)), (2, .int v.2)] []) (hf : fX11_fullest_56 h l1 l2 l3 l4 = some y) : V p l e 7 0 s m args below meth c Q KM 43 g B 5 0 h 56 [(0, .ref (gA g 0)), (1, .int l1), (2, .int l2), (3, .int l3), (4, .int l4)] [] := by
  unfold fX11_fullest_56 at hf
  refine v_aload_n (pc := 56) (j := 0) F dX11_fullest_56 rfl rfl ?_
  obtain ⟨r12, e13, hf⟩ := bnd_some hf
  refine v_callVv (pc := 57) (As := []) F cl_X11_378 dX11_fullest_57 (kX11_aDay e13) km_0.1 km_0.2 rc_10 rfl rfl (Nat.le_of_ble_eq_true rfl) (by decide) (Nat.zero_le _) ?_
  refine v_iinc (pc := 60) (j := 4) (v := l4 + 1) (lv' := [(0, .ref (gA g 0)), (1, .int l1), (2, .int l2), (3, .int l3), (4, .int (l4 + 1))]) F dX11_fullest_60 rfl (congrArg (fun z => l4 + z) ic_1) (by decide) rfl ?_
  refine v_goto (pc := 63) (tgt := 34) F dX11_fullest_63 (by decide) ?_
  exact hk (r12, l2, l3, l4 + 1) (Option.some.inj hf).symm
set_option maxRecDepth 100000 in
set_option maxHeartbeats 4000000 in
theorem tX11_fullest_34 {p : Program} {l : Launch} {e : Env} {s : State} {m : MethodId} {args : Array Value} {below : List Frame} {meth : Method} {c : Code} {g : GE} {B : Nat}   {l1 : Int32} {Q : State → Prop} {x : (ST × Int32)} {nf : Nat} {s0 : (ST × Int32 × Int32 × Int32)} (F : Fx p s m args meth c cX11_fullest 5 "DustParishModel" 43 g B) (hX0 : V p l e 7 0 s m args below meth c Q KM 43 g B 5 0 x.1 66 [(0, .ref (gA g 0)), (2, .int x.2)] []) (hl : lp nf (fX11_fullest_34 l1) s0 = some x) : V p l e 7 0 s m args below meth c Q KM 43 g B 5 0 s0.1 34 [(0, .ref (gA g 0)), (1, .int l1), (2, .int s0.2.1), (3, .int s0.2.2.1), (4, .int s0.2.2.2)] [] := by
  refine lp_ind (P := fun s0 => V p l e 7 0 s m args below meth c Q KM 43 g B 5 0 s0.1 34 [(0, .ref (gA g 0)), (1, .int l1), (2, .int s0.2.1), (3, .int s0.2.2.1), (4, .int s0.2.2.2)] []) ?_ nf s0 hl
  intro s1 y hf hk hx
  have hx0 : ∀ v : (ST × Int32), y = Sum.inr v → V p l e 7 0 s m args below meth c Q KM 43 g B 5 0 v.1 66 [(0, .ref (gA g 0)), (2, .int v.2)] [] := fun v e9 => by rw [hx v e9]; exact hX0
  unfold fX11_fullest_34 at hf
  refine v_iload (pc := 34) (j := 4) F dX11_fullest_34 rfl ?_
  refine v_iload_n (pc := 36) (j := 1) F dX11_fullest_36 rfl rfl ?_
  refine v_icmp_gt (pc := 37) (tgt := 66) F dX11_fullest_37 (by decide) (fun c8 => ?_) (fun c8 => ?_)
  · have hf := ite_t hf c8
    refine V.sub (lv' := [(0, .ref (gA g 0)), (2, .int s1.2.1)]) [0, 2] rfl ?_
    exact hx0 (s1.1, s1.2.1) (Option.some.inj hf).symm
  · have hf := ite_f hf c8
    refine v_aload_n (pc := 40) (j := 0) F dX11_fullest_40 rfl rfl ?_
    obtain ⟨r9, e10, hf⟩ := bnd_some hf
    refine v_callVi (pc := 41) (As := []) F cl_X11_381 dX11_fullest_41 (kX11_allDust e10) km_0.1 km_0.2 rc_10 rfl rfl (Nat.le_of_ble_eq_true rfl) (by decide) (Nat.zero_le _) ?_
    refine v_iload_n (pc := 44) (j := 3) F dX11_fullest_44 rfl rfl ?_
    refine v_icmp_le (pc := 45) (tgt := 56) F dX11_fullest_45 (by decide) (fun c11 => ?_) (fun c11 => ?_)
    · have hf := ite_t hf c11
      exact tX11_fullest_56 F hk hx0 hf
    · have hf := ite_f hf c11
      refine v_aload_n (pc := 48) (j := 0) F dX11_fullest_48 rfl rfl ?_
      obtain ⟨r14, e15, hf⟩ := bnd_some hf
      refine v_callVi (pc := 49) (As := []) F cl_X11_381 dX11_fullest_49 (kX11_allDust e15) km_0.1 km_0.2 rc_10 rfl rfl (Nat.le_of_ble_eq_true rfl) (by decide) (Nat.zero_le _) ?_
      refine v_istore_n (pc := 52) (lv' := [(0, .ref (gA g 0)), (1, .int l1), (2, .int s1.2.1), (3, .int r14), (4, .int s1.2.2.2)]) F dX11_fullest_52 rfl (by decide) rfl ?_
      refine v_iload (pc := 53) (j := 4) F dX11_fullest_53 rfl ?_
      refine v_istore_n (pc := 55) (lv' := [(0, .ref (gA g 0)), (1, .int l1), (2, .int s1.2.2.2), (3, .int r14), (4, .int s1.2.2.2)]) F dX11_fullest_55 rfl (by decide) rfl ?_
      exact tX11_fullest_56 F hk hx0 hf
set_option maxRecDepth 100000 in
set_option maxHeartbeats 4000000 in
theorem kX11_fullest {l : Launch} {g : GE} {B : Nat} {h : ST} {a1 : Int32} {y : Int32 × ST} (hf : fX11_fullest h a1 = some y) : CT l yX11_fullest cX11_fullest 5 (some .int) 7 KM 43 g B [.ref (gA g 0), .int a1] h (some (.int y.1)) y.2 := by
  refine CT.of pn_X11 (Nat.le_of_ble_eq_true rfl) ?_
  intro p e s m below meth c hr F
  have F : Fx p s m _ meth c cX11_fullest 5 "DustParishModel" 43 g B := F
  refine V_lv (lv' := [(0, .ref (gA g 0)), (1, .int a1)]) rfl ?_
  unfold fX11_fullest at hf
  refine v_aload_n (pc := 0) (j := 0) F dX11_fullest_0 rfl rfl ?_
  refine v_iconst (pc := 1) (v := 0) F dX11_fullest_1 ic_0 ?_
  obtain ⟨h1, e2, hf⟩ := bnd_some hf
  refine v_pfl (pc := 2) F fl_X11_157 pl_10_2 dX11_fullest_2 km_0.1 km_0.2 fv_10_2 rfl rfl e2 ?_
  refine v_iload_n (pc := 5) (j := 1) F dX11_fullest_5 rfl rfl ?_
  obtain ⟨r3, e4, hf⟩ := bnd_some hf
  refine v_callSi (pc := 6) (As := [.int a1]) F cl_X11_433 dX11_fullest_6 (kX11_isAhead e4) rfl rfl (Nat.le_of_ble_eq_true rfl) (by decide) (Nat.zero_le _) ?_
  refine v_if_ne (pc := 9) (tgt := 18) F dX11_fullest_9 (by decide) (fun c5 => ?_) (fun c5 => ?_)
  · have hf := ite_f hf c5
    refine v_aload_n (pc := 18) (j := 0) F dX11_fullest_18 rfl rfl ?_
    refine v_aload_n (pc := 19) (j := 0) F dX11_fullest_19 rfl rfl ?_
    refine v_ifl (pc := 20) F fl_X11_109 dX11_fullest_20 km_0.1 km_0.2 fv_10_42 ?_
    refine v_iconst (pc := 23) (v := 0) F dX11_fullest_23 ic_0 ?_
    obtain ⟨r6, e7, hf⟩ := bnd_some hf
    refine v_callVv (pc := 24) (As := [.ref (gA g 27), .int 0]) F cl_X11_403 dX11_fullest_24 (kX11_pack km_27.1 km_27.2 e7) km_0.1 km_0.2 rc_10 rfl rfl (Nat.le_of_ble_eq_true rfl) (by decide) (Nat.zero_le _) ?_
    refine v_iconst (pc := 27) (v := 0) F dX11_fullest_27 ic_0 ?_
    refine v_istore_n (pc := 28) (lv' := [(0, .ref (gA g 0)), (1, .int a1), (2, .int 0)]) F dX11_fullest_28 rfl (by decide) rfl ?_
    refine v_iconst (pc := 29) (v := (-1)) F dX11_fullest_29 ic_m1 ?_
    refine v_istore_n (pc := 30) (lv' := [(0, .ref (gA g 0)), (1, .int a1), (2, .int 0), (3, .int (-1))]) F dX11_fullest_30 rfl (by decide) rfl ?_
    refine v_iconst (pc := 31) (v := 0) F dX11_fullest_31 ic_0 ?_
    refine v_istore (pc := 32) (lv' := [(0, .ref (gA g 0)), (1, .int a1), (2, .int 0), (3, .int (-1)), (4, .int 0)]) F dX11_fullest_32 (by decide) rfl ?_
    obtain ⟨x16, e17, hf⟩ := bnd_some hf
    refine tX11_fullest_34 (s0 := (r6, 0, (-1), 0)) F ?_ e17
    refine v_aload_n (pc := 66) (j := 0) F dX11_fullest_66 rfl rfl ?_
    refine v_aload_n (pc := 67) (j := 0) F dX11_fullest_67 rfl rfl ?_
    refine v_ifl (pc := 68) F fl_X11_109 dX11_fullest_68 km_0.1 km_0.2 fv_10_42 ?_
    refine v_iconst (pc := 71) (v := 0) F dX11_fullest_71 ic_0 ?_
    obtain ⟨r18, e19, hf⟩ := bnd_some hf
    refine v_callVv (pc := 72) (As := [.ref (gA g 27), .int 0]) F cl_X11_430 dX11_fullest_72 (kX11_unpack km_27.1 km_27.2 e19) km_0.1 km_0.2 rc_10 rfl rfl (Nat.le_of_ble_eq_true rfl) (by decide) (Nat.zero_le _) ?_
    refine v_iload_n (pc := 75) (j := 1) F dX11_fullest_75 rfl rfl ?_
    exact v_iret (pc := 76) F hr dX11_fullest_76 (some_fst hf) (some_snd hf) (Nat.zero_le _)
  · have hf := ite_t hf c5
    refine v_aload_n (pc := 12) (j := 0) F dX11_fullest_12 rfl rfl ?_
    refine v_iconst (pc := 13) (v := 1) F dX11_fullest_13 ic_1 ?_
    obtain ⟨r20, e21, hf⟩ := bnd_some hf
    refine v_callVi (pc := 14) (As := [.int 1]) F cl_X11_320 dX11_fullest_14 (kX11_fail e21) km_0.1 km_0.2 rc_10 rfl rfl (Nat.le_of_ble_eq_true rfl) (by decide) (Nat.zero_le _) ?_
    exact v_iret (pc := 17) F hr dX11_fullest_17 (some_fst hf) (some_snd hf) (Nat.zero_le _)
def fX11_lowest_2 (h : ST) (l1 : Int32) (s1 : Int32) : Option (Int32 ⊕ (Int32 ⊕ Unit)) :=
  bnd (rd 14 (h 3) 0) fun v1 =>
  if v1 ≤ s1 then
  some (.inr (.inr ()))
  else
  bnd (rd 18 (h 5) s1) fun v4 =>
    if v4 = l1 then
    some (.inr (.inl s1))
    else
    some (.inl (s1 + 1))
def fX11_lowest (h : ST) (a1 : Int32) : Option (Int32) :=
  bnd (lp FU (fX11_lowest_2 h a1) 0) fun x7 =>
  sm x7 (fun v => some v) (fun v => some (-1))
set_option maxRecDepth 100000 in
set_option maxHeartbeats 4000000 in
theorem tX11_lowest_2 {p : Program} {l : Launch} {e : Env} {s : State} {m : MethodId} {args : Array Value} {below : List Frame} {meth : Method} {c : Code} {g : GE} {B : Nat}  {h : ST}  {l1 : Int32} {Q : State → Prop} {x : (Int32 ⊕ Unit)} {nf : Nat} {s0 : Int32} (F : Fx p s m args meth c cX11_lowest 3 "DustParishModel" 43 g B) (hX0 : ∀ v : Int32, x = (.inl v) → V p l e 1 0 s m args below meth c Q KM 43 g B 3 0 h 22 [(2, .int v)] []) (hX1 : ∀ v : Unit, x = (.inr v) → V p l e 1 0 s m args below meth c Q KM 43 g B 3 0 h 30 [] []) (hl : lp nf (fX11_lowest_2 h l1) s0 = some x) : V p l e 1 0 s m args below meth c Q KM 43 g B 3 0 h 2 [(0, .ref (gA g 0)), (1, .int l1), (2, .int s0)] [] := by
  refine lp_ind (P := fun s0 => V p l e 1 0 s m args below meth c Q KM 43 g B 3 0 h 2 [(0, .ref (gA g 0)), (1, .int l1), (2, .int s0)] []) ?_ nf s0 hl
  intro s1 y hf hk hx
  have hx0 : ∀ v : Int32, y = Sum.inr (.inl v) → V p l e 1 0 s m args below meth c Q KM 43 g B 3 0 h 22 [(2, .int v)] [] := fun v e9 => hX0 v (hx _ e9).symm
  have hx1 : ∀ v : Unit, y = Sum.inr (.inr v) → V p l e 1 0 s m args below meth c Q KM 43 g B 3 0 h 30 [] [] := fun v e9 => hX1 v (hx _ e9).symm
  unfold fX11_lowest_2 at hf
  refine v_iload_n (pc := 2) (j := 2) F dX11_lowest_2 rfl rfl ?_
  refine v_aload_n (pc := 3) (j := 0) F dX11_lowest_3 rfl rfl ?_
  refine v_ifl (pc := 4) F fl_X11_36 dX11_lowest_4 km_0.1 km_0.2 fv_10_3 ?_
  refine v_iconst (pc := 7) (v := 0) F dX11_lowest_7 ic_0 ?_
  obtain ⟨v1, e2, hf⟩ := bnd_some hf
  refine v_iald (pc := 8) F dX11_lowest_8 km_3.1 km_3.2 e2 ?_
  refine v_icmp_ge (pc := 9) (tgt := 30) F dX11_lowest_9 (by decide) (fun c3 => ?_) (fun c3 => ?_)
  · have hf := ite_t hf c3
    refine V.sub (lv' := []) [] rfl ?_
    exact hx1 () (Option.some.inj hf).symm
  · have hf := ite_f hf c3
    refine v_aload_n (pc := 12) (j := 0) F dX11_lowest_12 rfl rfl ?_
    refine v_ifl (pc := 13) F fl_X11_42 dX11_lowest_13 km_0.1 km_0.2 fv_10_5 ?_
    refine v_iload_n (pc := 16) (j := 2) F dX11_lowest_16 rfl rfl ?_
    obtain ⟨v4, e5, hf⟩ := bnd_some hf
    refine v_iald (pc := 17) F dX11_lowest_17 km_5.1 km_5.2 e5 ?_
    refine v_iload_n (pc := 18) (j := 1) F dX11_lowest_18 rfl rfl ?_
    refine v_icmp_ne (pc := 19) (tgt := 24) F dX11_lowest_19 (by decide) (fun c6 => ?_) (fun c6 => ?_)
    · have hf := ite_f hf c6
      refine v_iinc (pc := 24) (j := 2) (v := s1 + 1) (lv' := [(0, .ref (gA g 0)), (1, .int l1), (2, .int (s1 + 1))]) F dX11_lowest_24 rfl (congrArg (fun z => s1 + z) ic_1) (by decide) rfl ?_
      refine v_goto (pc := 27) (tgt := 2) F dX11_lowest_27 (by decide) ?_
      exact hk (s1 + 1) (Option.some.inj hf).symm
    · have hf := ite_t hf c6
      refine V.sub (lv' := [(2, .int s1)]) [2] rfl ?_
      exact hx0 s1 (Option.some.inj hf).symm
set_option maxRecDepth 100000 in
set_option maxHeartbeats 4000000 in
theorem kX11_lowest {l : Launch} {g : GE} {B : Nat} {h : ST} {a1 : Int32} {y : Int32} (hf : fX11_lowest h a1 = some y) : CT l yX11_lowest cX11_lowest 3 (some .int) 1 KM 43 g B [.ref (gA g 0), .int a1] h (some (.int y)) h := by
  refine CT.of pn_X11 (Nat.le_of_ble_eq_true rfl) ?_
  intro p e s m below meth c hr F
  have F : Fx p s m _ meth c cX11_lowest 3 "DustParishModel" 43 g B := F
  refine V_lv (lv' := [(0, .ref (gA g 0)), (1, .int a1)]) rfl ?_
  unfold fX11_lowest at hf
  refine v_iconst (pc := 0) (v := 0) F dX11_lowest_0 ic_0 ?_
  refine v_istore_n (pc := 1) (lv' := [(0, .ref (gA g 0)), (1, .int a1), (2, .int 0)]) F dX11_lowest_1 rfl (by decide) rfl ?_
  obtain ⟨x7, e8, hf⟩ := bnd_some hf
  refine tX11_lowest_2 (s0 := 0) F (fun v e9 => ?_) (fun v e9 => ?_) e8
  · subst e9
    have hf := sm_l hf
    refine v_iload_n (pc := 22) (j := 0) F dX11_lowest_22 rfl rfl ?_
    exact v_iret (pc := 23) F hr dX11_lowest_23 (Option.some.inj hf) rfl (Nat.zero_le _)
  · subst e9
    have hf := sm_r hf
    refine v_iconst (pc := 30) (v := (-1)) F dX11_lowest_30 ic_m1 ?_
    exact v_iret (pc := 31) F hr dX11_lowest_31 (Option.some.inj hf) rfl (Nat.zero_le _)
def fX11_loss_59 (h : ST) (q0 : Int32) (q1 : Int32) : Option (Int32) :=
  some (q0 + q1)
def fX11_loss (h : ST) (a1 : Int32) (a2 : Int32) (a3 : Int32) (a4 : Int32) : Option (Int32) :=
  bnd (rd 9 (h 19) a1) fun v1 =>
  bnd (rd 9 (h 19) a1) fun v3 =>
  bnd (rd 9 (h 19) a2) fun v5 =>
  bnd (rd 14 (h 3) 5) fun v7 =>
  if v7 ≤ (if ((v1 - (a3 * (v3 / 2))) + (a4 * (v5 / 2))) < 9999 then ((v1 - (a3 * (v3 / 2))) + (a4 * (v5 / 2))) else 9999) then
  fX11_loss_59 h ((if ((v1 - (a3 * (v3 / 2))) + (a4 * (v5 / 2))) < 9999 then ((v1 - (a3 * (v3 / 2))) + (a4 * (v5 / 2))) else 9999) / 10) 0
  else
  fX11_loss_59 h ((if ((v1 - (a3 * (v3 / 2))) + (a4 * (v5 / 2))) < 9999 then ((v1 - (a3 * (v3 / 2))) + (a4 * (v5 / 2))) else 9999) / 10) 20
set_option maxRecDepth 100000 in
set_option maxHeartbeats 4000000 in
theorem tX11_loss_59 {p : Program} {l : Launch} {e : Env} {s : State} {m : MethodId} {args : Array Value} {below : List Frame} {meth : Method} {c : Code} {g : GE} {B : Nat} {h : ST}  {q0 : Int32} {q1 : Int32} (F : Fx p s m args meth c cX11_loss 6 "DustParishModel" 43 g B)
    {y : Int32} (hr : meth.sig.returnType = (some .int)) (hf : fX11_loss_59 h q0 q1 = some y) : V p l e 1 0 s m args below meth c (MQ below (QO KM 43 g (some (.int y)) h) args s 0 (6 * 0) (WA 43 g)) KM 43 g B 6 0 h 59 [] [.int q1, .int q0] := by
  unfold fX11_loss_59 at hf
  refine v_iadd (pc := 59) F dX11_loss_59 ?_
  exact v_iret (pc := 60) F hr dX11_loss_60 (Option.some.inj hf) rfl (Nat.zero_le _)
set_option maxRecDepth 100000 in
set_option maxHeartbeats 4000000 in
theorem kX11_loss {l : Launch} {g : GE} {B : Nat} {h : ST} {a1 : Int32} {a2 : Int32} {a3 : Int32} {a4 : Int32} {y : Int32} (hf : fX11_loss h a1 a2 a3 a4 = some y) : CT l yX11_loss cX11_loss 6 (some .int) 1 KM 43 g B [.ref (gA g 0), .int a1, .int a2, .int a3, .int a4] h (some (.int y)) h := by
  refine CT.of pn_X11 (Nat.le_of_ble_eq_true rfl) ?_
  intro p e s m below meth c hr F
  have F : Fx p s m _ meth c cX11_loss 6 "DustParishModel" 43 g B := F
  refine V_lv (lv' := [(0, .ref (gA g 0)), (1, .int a1), (2, .int a2), (3, .int a3), (4, .int a4)]) rfl ?_
  unfold fX11_loss at hf
  refine v_sipush (pc := 0) (v := 9999) F dX11_loss_0 sp_9999 ?_
  refine v_aload_n (pc := 3) (j := 0) F dX11_loss_3 rfl rfl ?_
  refine v_ifl (pc := 4) F fl_X11_87 dX11_loss_4 km_0.1 km_0.2 fv_10_29 ?_
  refine v_iload_n (pc := 7) (j := 1) F dX11_loss_7 rfl rfl ?_
  obtain ⟨v1, e2, hf⟩ := bnd_some hf
  refine v_iald (pc := 8) F dX11_loss_8 km_19.1 km_19.2 e2 ?_
  refine v_iload_n (pc := 9) (j := 3) F dX11_loss_9 rfl rfl ?_
  refine v_aload_n (pc := 10) (j := 0) F dX11_loss_10 rfl rfl ?_
  refine v_ifl (pc := 11) F fl_X11_87 dX11_loss_11 km_0.1 km_0.2 fv_10_29 ?_
  refine v_iload_n (pc := 14) (j := 1) F dX11_loss_14 rfl rfl ?_
  obtain ⟨v3, e4, hf⟩ := bnd_some hf
  refine v_iald (pc := 15) F dX11_loss_15 km_19.1 km_19.2 e4 ?_
  refine v_iconst (pc := 16) (v := 2) F dX11_loss_16 ic_2 ?_
  refine v_idiv (pc := 17) F dX11_loss_17 (by decide) ?_
  refine v_imul (pc := 18) F dX11_loss_18 ?_
  refine v_isub (pc := 19) F dX11_loss_19 ?_
  refine v_iload (pc := 20) (j := 4) F dX11_loss_20 rfl ?_
  refine v_aload_n (pc := 22) (j := 0) F dX11_loss_22 rfl rfl ?_
  refine v_ifl (pc := 23) F fl_X11_87 dX11_loss_23 km_0.1 km_0.2 fv_10_29 ?_
  refine v_iload_n (pc := 26) (j := 2) F dX11_loss_26 rfl rfl ?_
  obtain ⟨v5, e6, hf⟩ := bnd_some hf
  refine v_iald (pc := 27) F dX11_loss_27 km_19.1 km_19.2 e6 ?_
  refine v_iconst (pc := 28) (v := 2) F dX11_loss_28 ic_2 ?_
  refine v_idiv (pc := 29) F dX11_loss_29 (by decide) ?_
  refine v_imul (pc := 30) F dX11_loss_30 ?_
  refine v_iadd (pc := 31) F dX11_loss_31 ?_
  refine v_mmin (pc := 32) F tw_1490 mminW dX11_loss_32 (by decide) (Nat.le_of_ble_eq_true rfl) (Nat.zero_le _) ?_
  refine v_istore (pc := 35) (lv' := [(0, .ref (gA g 0)), (1, .int a1), (2, .int a2), (3, .int a3), (4, .int a4), (5, .int (if ((v1 - (a3 * (v3 / 2))) + (a4 * (v5 / 2))) < 9999 then ((v1 - (a3 * (v3 / 2))) + (a4 * (v5 / 2))) else 9999))]) F dX11_loss_35 (by decide) rfl ?_
  refine v_iload (pc := 37) (j := 5) F dX11_loss_37 rfl ?_
  refine v_bipush (pc := 39) (v := 10) F dX11_loss_39 bp_10 ?_
  refine v_idiv (pc := 41) F dX11_loss_41 (by decide) ?_
  refine v_iload (pc := 42) (j := 5) F dX11_loss_42 rfl ?_
  refine v_aload_n (pc := 44) (j := 0) F dX11_loss_44 rfl rfl ?_
  refine v_ifl (pc := 45) F fl_X11_36 dX11_loss_45 km_0.1 km_0.2 fv_10_3 ?_
  refine v_iconst (pc := 48) (v := 5) F dX11_loss_48 ic_5 ?_
  obtain ⟨v7, e8, hf⟩ := bnd_some hf
  refine v_iald (pc := 49) F dX11_loss_49 km_3.1 km_3.2 e8 ?_
  refine v_icmp_ge (pc := 50) (tgt := 58) F dX11_loss_50 (by decide) (fun c9 => ?_) (fun c9 => ?_)
  · have hf := ite_t hf c9
    refine v_iconst (pc := 58) (v := 0) F dX11_loss_58 ic_0 ?_
    refine V.sub (lv' := []) [] rfl ?_
    exact tX11_loss_59 F hr hf
  · have hf := ite_f hf c9
    refine v_bipush (pc := 53) (v := 20) F dX11_loss_53 bp_20 ?_
    refine v_goto (pc := 55) (tgt := 59) F dX11_loss_55 (by decide) ?_
    refine V.sub (lv' := []) [] rfl ?_
    exact tX11_loss_59 F hr hf
def fX11_game_14 (h : ST)  : Option (Int32 × ST) :=
  bnd (fX11_fail h 1) fun r4 =>
  some (r4.1, r4.2)
def fX11_game_49 (h : ST)  : Option (Int32 × ST) :=
  bnd (fX11_fail h 2) fun r10 =>
  some (r10.1, r10.2)
def fX11_game_193 (h : ST) (l3 : Int32) (l4 : Int32) (l5 : Int32) (l6 : Int32) (l7 : Int32) (l8 : Int32) : Option ((Int32 × Int32 × Int32) ⊕ (Int32 × Int32)) :=
  some (.inl (l6, l7, l8 + 1))
def fX11_game_191 (h : ST) (l3 : Int32) (l4 : Int32) (l5 : Int32) (l6 : Int32) (l8 : Int32) (q0 : Int32) : Option ((Int32 × Int32 × Int32) ⊕ (Int32 × Int32)) :=
  fX11_game_193 h l3 l4 l5 l6 q0 l8
def fX11_game_78 (h : ST) (l3 : Int32) (l4 : Int32) (l5 : Int32) (s1 : (Int32 × Int32 × Int32)) : Option ((Int32 × Int32 × Int32) ⊕ (Int32 × Int32)) :=
  if 4 ≤ s1.2.2 then
  some (.inr (s1.1, s1.2.1))
  else
  if l4 = (-1) then
    some (.inr (s1.1, s1.2.1))
    else
    if l5 = (-1) then
      some (.inr (s1.1, s1.2.1))
      else
      bnd (fX11_loss h l4 l5 (1 - (s1.2.2 / 2)) (s1.2.2 - s1.2.2 / 2 * 2)) fun r23 =>
        bnd (fX11_loss h l4 l5 (s1.2.2 / 2) (s1.2.2 - s1.2.2 / 2 * 2)) fun r25 =>
        if r23 < r25 then
        fX11_game_193 h l3 l4 l5 s1.1 s1.2.1 s1.2.2
        else
        bnd (fX11_loss h l5 l4 (1 - (s1.2.2 - s1.2.2 / 2 * 2)) (s1.2.2 / 2)) fun r28 =>
          bnd (fX11_loss h l5 l4 (s1.2.2 - s1.2.2 / 2 * 2) (s1.2.2 / 2)) fun r30 =>
          if r30 ≤ r28 then
          if s1.2.1 = (-1) then
            fX11_game_191 h l3 l4 l5 (s1.1 + 1) s1.2.2 ((10 * (s1.2.2 / 2)) + (s1.2.2 - s1.2.2 / 2 * 2))
            else
            fX11_game_191 h l3 l4 l5 (s1.1 + 1) s1.2.2 s1.2.1
          else
          fX11_game_193 h l3 l4 l5 s1.1 s1.2.1 s1.2.2
def fX11_game_210 (h : ST) (q0 : Int32) : Option (Int32 × ST) :=
  some (q0, h)
def fX11_game_199 (h : ST) (l3 : Int32) (l6 : Int32) (l7 : Int32) : Option (Int32 × ST) :=
  if l3 = 0 then
  fX11_game_210 h l6
  else
  fX11_game_210 h l7
def fX11_game (h : ST) (a1 : Int32) (a2 : Int32) (a3 : Int32) : Option (Int32 × ST) :=
  bnd (pw h 0 2 0) fun h1 =>
  if a3 < 0 then
  fX11_game_14 h1 
  else
  if a3 ≤ 1 then
    bnd (fX11_isIn h1 a1.toInt64 (0 : Int64) (5 : Int64)) fun r7 =>
      if r7 = 0 then
      fX11_game_49 h1 
      else
      bnd (fX11_isIn h1 a2.toInt64 (0 : Int64) (5 : Int64)) fun r12 =>
        if r12 = 0 then
        fX11_game_49 h1 
        else
        if a1 = a2 then
          fX11_game_49 h1 
          else
          bnd (fX11_lowest h1 a1) fun r16 =>
            bnd (fX11_lowest h1 a2) fun r18 =>
            bnd (lp FU (fX11_game_78 h1 a3 r16 r18) (0, (-1), 0)) fun x34 =>
            fX11_game_199 h1 a3 x34.1 x34.2
    else
    fX11_game_14 h1 
set_option maxRecDepth 100000 in
set_option maxHeartbeats 4000000 in
theorem tX11_game_14 {p : Program} {l : Launch} {e : Env} {s : State} {m : MethodId} {args : Array Value} {below : List Frame} {meth : Method} {c : Code} {g : GE} {B : Nat} {h : ST}  (F : Fx p s m args meth c cX11_game 11 "DustParishModel" 43 g B)
    {y : Int32 × ST} (hr : meth.sig.returnType = (some .int)) (hf : fX11_game_14 h  = some y) : V p l e 2 0 s m args below meth c (MQ below (QO KM 43 g (some (.int y.1)) y.2) args s 0 (6 * 0) (WA 43 g)) KM 43 g B 11 0 h 14 [(0, .ref (gA g 0))] [] := by
  unfold fX11_game_14 at hf
  refine v_aload_n (pc := 14) (j := 0) F dX11_game_14 rfl rfl ?_
  refine v_iconst (pc := 15) (v := 1) F dX11_game_15 ic_1 ?_
  obtain ⟨r4, e5, hf⟩ := bnd_some hf
  refine v_callVi (pc := 16) (As := [.int 1]) F cl_X11_320 dX11_game_16 (kX11_fail e5) km_0.1 km_0.2 rc_10 rfl rfl (Nat.le_of_ble_eq_true rfl) (by decide) (Nat.zero_le _) ?_
  exact v_iret (pc := 19) F hr dX11_game_19 (some_fst hf) (some_snd hf) (Nat.zero_le _)
set_option maxRecDepth 100000 in
set_option maxHeartbeats 4000000 in
theorem tX11_game_49 {p : Program} {l : Launch} {e : Env} {s : State} {m : MethodId} {args : Array Value} {below : List Frame} {meth : Method} {c : Code} {g : GE} {B : Nat} {h : ST}  (F : Fx p s m args meth c cX11_game 11 "DustParishModel" 43 g B)
    {y : Int32 × ST} (hr : meth.sig.returnType = (some .int)) (hf : fX11_game_49 h  = some y) : V p l e 2 0 s m args below meth c (MQ below (QO KM 43 g (some (.int y.1)) y.2) args s 0 (6 * 0) (WA 43 g)) KM 43 g B 11 0 h 49 [(0, .ref (gA g 0))] [] := by
  unfold fX11_game_49 at hf
  refine v_aload_n (pc := 49) (j := 0) F dX11_game_49 rfl rfl ?_
  refine v_iconst (pc := 50) (v := 2) F dX11_game_50 ic_2 ?_
  obtain ⟨r10, e11, hf⟩ := bnd_some hf
  refine v_callVi (pc := 51) (As := [.int 2]) F cl_X11_320 dX11_game_51 (kX11_fail e11) km_0.1 km_0.2 rc_10 rfl rfl (Nat.le_of_ble_eq_true rfl) (by decide) (Nat.zero_le _) ?_
  exact v_iret (pc := 54) F hr dX11_game_54 (some_fst hf) (some_snd hf) (Nat.zero_le _)
set_option maxRecDepth 100000 in
set_option maxHeartbeats 4000000 in
theorem tX11_game_193 {p : Program} {l : Launch} {e : Env} {s : State} {m : MethodId} {args : Array Value} {below : List Frame} {meth : Method} {c : Code} {g : GE} {B : Nat} {h : ST}  {l3 : Int32} {l4 : Int32} {l5 : Int32} {l6 : Int32} {l7 : Int32} {l8 : Int32} (F : Fx p s m args meth c cX11_game 11 "DustParishModel" 43 g B)
    {Q : State → Prop} {y : (Int32 × Int32 × Int32) ⊕ (Int32 × Int32)} (hk : ∀ v : (Int32 × Int32 × Int32), y = Sum.inl v → V p l e 2 0 s m args below meth c Q KM 43 g B 11 0 h 78 [(0, .ref (gA g 0)), (3, .int l3), (4, .int l4), (5, .int l5), (6, .int v.1), (7, .int v.2.1), (8, .int v.2.2)] []) (hx0 : ∀ v : (Int32 × Int32), y = Sum.inr v → V p l e 2 0 s m args below meth c Q KM 43 g B 11 0 h 199 [(3, .int l3), (6, .int v.1), (7, .int v.2)] []) (hf : fX11_game_193 h l3 l4 l5 l6 l7 l8 = some y) : V p l e 2 0 s m args below meth c Q KM 43 g B 11 0 h 193 [(0, .ref (gA g 0)), (3, .int l3), (4, .int l4), (5, .int l5), (6, .int l6), (7, .int l7), (8, .int l8)] [] := by
  unfold fX11_game_193 at hf
  refine v_iinc (pc := 193) (j := 6) (v := l8 + 1) (lv' := [(0, .ref (gA g 0)), (3, .int l3), (4, .int l4), (5, .int l5), (6, .int l6), (7, .int l7), (8, .int (l8 + 1))]) F dX11_game_193 rfl (congrArg (fun z => l8 + z) ic_1) (by decide) rfl ?_
  refine v_goto (pc := 196) (tgt := 78) F dX11_game_196 (by decide) ?_
  exact hk (l6, l7, l8 + 1) (Option.some.inj hf).symm
set_option maxRecDepth 100000 in
set_option maxHeartbeats 4000000 in
theorem tX11_game_191 {p : Program} {l : Launch} {e : Env} {s : State} {m : MethodId} {args : Array Value} {below : List Frame} {meth : Method} {c : Code} {g : GE} {B : Nat} {h : ST}  {l3 : Int32} {l4 : Int32} {l5 : Int32} {l6 : Int32} {l8 : Int32} {q0 : Int32} (F : Fx p s m args meth c cX11_game 11 "DustParishModel" 43 g B)
    {Q : State → Prop} {y : (Int32 × Int32 × Int32) ⊕ (Int32 × Int32)} (hk : ∀ v : (Int32 × Int32 × Int32), y = Sum.inl v → V p l e 2 0 s m args below meth c Q KM 43 g B 11 0 h 78 [(0, .ref (gA g 0)), (3, .int l3), (4, .int l4), (5, .int l5), (6, .int v.1), (7, .int v.2.1), (8, .int v.2.2)] []) (hx0 : ∀ v : (Int32 × Int32), y = Sum.inr v → V p l e 2 0 s m args below meth c Q KM 43 g B 11 0 h 199 [(3, .int l3), (6, .int v.1), (7, .int v.2)] []) (hf : fX11_game_191 h l3 l4 l5 l6 l8 q0 = some y) : V p l e 2 0 s m args below meth c Q KM 43 g B 11 0 h 191 [(0, .ref (gA g 0)), (3, .int l3), (4, .int l4), (5, .int l5), (6, .int l6), (8, .int l8)] [.int q0] := by
  unfold fX11_game_191 at hf
  refine v_istore (pc := 191) (lv' := [(0, .ref (gA g 0)), (3, .int l3), (4, .int l4), (5, .int l5), (6, .int l6), (7, .int q0), (8, .int l8)]) F dX11_game_191 (by decide) rfl ?_
  exact tX11_game_193 F hk hx0 hf
set_option maxRecDepth 100000 in
set_option maxHeartbeats 4000000 in
theorem tX11_game_78 {p : Program} {l : Launch} {e : Env} {s : State} {m : MethodId} {args : Array Value} {below : List Frame} {meth : Method} {c : Code} {g : GE} {B : Nat}  {h : ST}  {l3 : Int32} {l4 : Int32} {l5 : Int32} {Q : State → Prop} {x : (Int32 × Int32)} {nf : Nat} {s0 : (Int32 × Int32 × Int32)} (F : Fx p s m args meth c cX11_game 11 "DustParishModel" 43 g B) (hX0 : V p l e 2 0 s m args below meth c Q KM 43 g B 11 0 h 199 [(3, .int l3), (6, .int x.1), (7, .int x.2)] []) (hl : lp nf (fX11_game_78 h l3 l4 l5) s0 = some x) : V p l e 2 0 s m args below meth c Q KM 43 g B 11 0 h 78 [(0, .ref (gA g 0)), (3, .int l3), (4, .int l4), (5, .int l5), (6, .int s0.1), (7, .int s0.2.1), (8, .int s0.2.2)] [] := by
  refine lp_ind (P := fun s0 => V p l e 2 0 s m args below meth c Q KM 43 g B 11 0 h 78 [(0, .ref (gA g 0)), (3, .int l3), (4, .int l4), (5, .int l5), (6, .int s0.1), (7, .int s0.2.1), (8, .int s0.2.2)] []) ?_ nf s0 hl
  intro s1 y hf hk hx
  have hx0 : ∀ v : (Int32 × Int32), y = Sum.inr v → V p l e 2 0 s m args below meth c Q KM 43 g B 11 0 h 199 [(3, .int l3), (6, .int v.1), (7, .int v.2)] [] := fun v e9 => by rw [hx v e9]; exact hX0
  unfold fX11_game_78 at hf
  refine v_iload (pc := 78) (j := 6) F dX11_game_78 rfl ?_
  refine v_iconst (pc := 80) (v := 4) F dX11_game_80 ic_4 ?_
  refine v_icmp_ge (pc := 81) (tgt := 199) F dX11_game_81 (by decide) (fun c20 => ?_) (fun c20 => ?_)
  · have hf := ite_t hf c20
    refine V.sub (lv' := [(3, .int l3), (6, .int s1.1), (7, .int s1.2.1)]) [1, 4, 5] rfl ?_
    exact hx0 (s1.1, s1.2.1) (Option.some.inj hf).symm
  · have hf := ite_f hf c20
    refine v_iload (pc := 84) (j := 2) F dX11_game_84 rfl ?_
    refine v_iconst (pc := 86) (v := (-1)) F dX11_game_86 ic_m1 ?_
    refine v_icmp_eq (pc := 87) (tgt := 199) F dX11_game_87 (by decide) (fun c21 => ?_) (fun c21 => ?_)
    · have hf := ite_t hf c21
      refine V.sub (lv' := [(3, .int l3), (6, .int s1.1), (7, .int s1.2.1)]) [1, 4, 5] rfl ?_
      exact hx0 (s1.1, s1.2.1) (Option.some.inj hf).symm
    · have hf := ite_f hf c21
      refine v_iload (pc := 90) (j := 3) F dX11_game_90 rfl ?_
      refine v_iconst (pc := 92) (v := (-1)) F dX11_game_92 ic_m1 ?_
      refine v_icmp_eq (pc := 93) (tgt := 199) F dX11_game_93 (by decide) (fun c22 => ?_) (fun c22 => ?_)
      · have hf := ite_t hf c22
        refine V.sub (lv' := [(3, .int l3), (6, .int s1.1), (7, .int s1.2.1)]) [1, 4, 5] rfl ?_
        exact hx0 (s1.1, s1.2.1) (Option.some.inj hf).symm
      · have hf := ite_f hf c22
        refine v_iload (pc := 96) (j := 6) F dX11_game_96 rfl ?_
        refine v_iconst (pc := 98) (v := 2) F dX11_game_98 ic_2 ?_
        refine v_idiv (pc := 99) F dX11_game_99 (by decide) ?_
        refine v_istore (pc := 100) (lv' := [(0, .ref (gA g 0)), (3, .int l3), (4, .int l4), (5, .int l5), (6, .int s1.1), (7, .int s1.2.1), (8, .int s1.2.2), (9, .int (s1.2.2 / 2))]) F dX11_game_100 (by decide) rfl ?_
        refine v_iload (pc := 102) (j := 6) F dX11_game_102 rfl ?_
        refine v_iconst (pc := 104) (v := 2) F dX11_game_104 ic_2 ?_
        refine v_irem (pc := 105) F dX11_game_105 (by decide) ?_
        refine v_istore (pc := 106) (lv' := [(0, .ref (gA g 0)), (3, .int l3), (4, .int l4), (5, .int l5), (6, .int s1.1), (7, .int s1.2.1), (8, .int s1.2.2), (9, .int (s1.2.2 / 2)), (10, .int (s1.2.2 - s1.2.2 / 2 * 2))]) F dX11_game_106 (by decide) rfl ?_
        refine v_aload_n (pc := 108) (j := 0) F dX11_game_108 rfl rfl ?_
        refine v_iload (pc := 109) (j := 2) F dX11_game_109 rfl ?_
        refine v_iload (pc := 111) (j := 3) F dX11_game_111 rfl ?_
        refine v_iconst (pc := 113) (v := 1) F dX11_game_113 ic_1 ?_
        refine v_iload (pc := 114) (j := 7) F dX11_game_114 rfl ?_
        refine v_isub (pc := 116) F dX11_game_116 ?_
        refine v_iload (pc := 117) (j := 8) F dX11_game_117 rfl ?_
        obtain ⟨r23, e24, hf⟩ := bnd_some hf
        refine v_callVi (pc := 119) (As := [.int l4, .int l5, .int (1 - (s1.2.2 / 2)), .int (s1.2.2 - s1.2.2 / 2 * 2)]) F cl_X11_470 dX11_game_119 (kX11_loss e24) km_0.1 km_0.2 rc_10 rfl rfl (Nat.le_of_ble_eq_true rfl) (by decide) (Nat.zero_le _) ?_
        refine v_aload_n (pc := 122) (j := 0) F dX11_game_122 rfl rfl ?_
        refine v_iload (pc := 123) (j := 2) F dX11_game_123 rfl ?_
        refine v_iload (pc := 125) (j := 3) F dX11_game_125 rfl ?_
        refine v_iload (pc := 127) (j := 7) F dX11_game_127 rfl ?_
        refine v_iload (pc := 129) (j := 8) F dX11_game_129 rfl ?_
        obtain ⟨r25, e26, hf⟩ := bnd_some hf
        refine v_callVi (pc := 131) (As := [.int l4, .int l5, .int (s1.2.2 / 2), .int (s1.2.2 - s1.2.2 / 2 * 2)]) F cl_X11_470 dX11_game_131 (kX11_loss e26) km_0.1 km_0.2 rc_10 rfl rfl (Nat.le_of_ble_eq_true rfl) (by decide) (Nat.zero_le _) ?_
        refine v_icmp_lt (pc := 134) (tgt := 193) F dX11_game_134 (by decide) (fun c27 => ?_) (fun c27 => ?_)
        · have hf := ite_t hf c27
          refine V.sub (lv' := [(0, .ref (gA g 0)), (3, .int l3), (4, .int l4), (5, .int l5), (6, .int s1.1), (7, .int s1.2.1), (8, .int s1.2.2)]) [0, 1, 2, 3, 4, 5, 6] rfl ?_
          exact tX11_game_193 F hk hx0 hf
        · have hf := ite_f hf c27
          refine v_aload_n (pc := 137) (j := 0) F dX11_game_137 rfl rfl ?_
          refine v_iload (pc := 138) (j := 3) F dX11_game_138 rfl ?_
          refine v_iload (pc := 140) (j := 2) F dX11_game_140 rfl ?_
          refine v_iconst (pc := 142) (v := 1) F dX11_game_142 ic_1 ?_
          refine v_iload (pc := 143) (j := 8) F dX11_game_143 rfl ?_
          refine v_isub (pc := 145) F dX11_game_145 ?_
          refine v_iload (pc := 146) (j := 7) F dX11_game_146 rfl ?_
          obtain ⟨r28, e29, hf⟩ := bnd_some hf
          refine v_callVi (pc := 148) (As := [.int l5, .int l4, .int (1 - (s1.2.2 - s1.2.2 / 2 * 2)), .int (s1.2.2 / 2)]) F cl_X11_470 dX11_game_148 (kX11_loss e29) km_0.1 km_0.2 rc_10 rfl rfl (Nat.le_of_ble_eq_true rfl) (by decide) (Nat.zero_le _) ?_
          refine v_aload_n (pc := 151) (j := 0) F dX11_game_151 rfl rfl ?_
          refine v_iload (pc := 152) (j := 3) F dX11_game_152 rfl ?_
          refine v_iload (pc := 154) (j := 2) F dX11_game_154 rfl ?_
          refine v_iload (pc := 156) (j := 8) F dX11_game_156 rfl ?_
          refine v_iload (pc := 158) (j := 7) F dX11_game_158 rfl ?_
          obtain ⟨r30, e31, hf⟩ := bnd_some hf
          refine v_callVi (pc := 160) (As := [.int l5, .int l4, .int (s1.2.2 - s1.2.2 / 2 * 2), .int (s1.2.2 / 2)]) F cl_X11_470 dX11_game_160 (kX11_loss e31) km_0.1 km_0.2 rc_10 rfl rfl (Nat.le_of_ble_eq_true rfl) (by decide) (Nat.zero_le _) ?_
          refine v_icmp_ge (pc := 163) (tgt := 169) F dX11_game_163 (by decide) (fun c32 => ?_) (fun c32 => ?_)
          · have hf := ite_t hf c32
            refine v_iinc (pc := 169) (j := 4) (v := s1.1 + 1) (lv' := [(0, .ref (gA g 0)), (3, .int l3), (4, .int l4), (5, .int l5), (6, .int (s1.1 + 1)), (7, .int s1.2.1), (8, .int s1.2.2), (9, .int (s1.2.2 / 2)), (10, .int (s1.2.2 - s1.2.2 / 2 * 2))]) F dX11_game_169 rfl (congrArg (fun z => s1.1 + z) ic_1) (by decide) rfl ?_
            refine v_iload (pc := 172) (j := 5) F dX11_game_172 rfl ?_
            refine v_iconst (pc := 174) (v := (-1)) F dX11_game_174 ic_m1 ?_
            refine v_icmp_ne (pc := 175) (tgt := 189) F dX11_game_175 (by decide) (fun c33 => ?_) (fun c33 => ?_)
            · have hf := ite_f hf c33
              refine v_iload (pc := 189) (j := 5) F dX11_game_189 rfl ?_
              refine V.sub (lv' := [(0, .ref (gA g 0)), (3, .int l3), (4, .int l4), (5, .int l5), (6, .int (s1.1 + 1)), (8, .int s1.2.2)]) [0, 1, 2, 3, 4, 6] rfl ?_
              exact tX11_game_191 F hk hx0 hf
            · have hf := ite_t hf c33
              refine v_bipush (pc := 178) (v := 10) F dX11_game_178 bp_10 ?_
              refine v_iload (pc := 180) (j := 7) F dX11_game_180 rfl ?_
              refine v_imul (pc := 182) F dX11_game_182 ?_
              refine v_iload (pc := 183) (j := 8) F dX11_game_183 rfl ?_
              refine v_iadd (pc := 185) F dX11_game_185 ?_
              refine v_goto (pc := 186) (tgt := 191) F dX11_game_186 (by decide) ?_
              refine V.sub (lv' := [(0, .ref (gA g 0)), (3, .int l3), (4, .int l4), (5, .int l5), (6, .int (s1.1 + 1)), (8, .int s1.2.2)]) [0, 1, 2, 3, 4, 6] rfl ?_
              exact tX11_game_191 F hk hx0 hf
          · have hf := ite_f hf c32
            refine v_goto (pc := 166) (tgt := 193) F dX11_game_166 (by decide) ?_
            refine V.sub (lv' := [(0, .ref (gA g 0)), (3, .int l3), (4, .int l4), (5, .int l5), (6, .int s1.1), (7, .int s1.2.1), (8, .int s1.2.2)]) [0, 1, 2, 3, 4, 5, 6] rfl ?_
            exact tX11_game_193 F hk hx0 hf
set_option maxRecDepth 100000 in
set_option maxHeartbeats 4000000 in
theorem tX11_game_210 {p : Program} {l : Launch} {e : Env} {s : State} {m : MethodId} {args : Array Value} {below : List Frame} {meth : Method} {c : Code} {g : GE} {B : Nat} {h : ST}  {q0 : Int32} (F : Fx p s m args meth c cX11_game 11 "DustParishModel" 43 g B)
    {y : Int32 × ST} (hr : meth.sig.returnType = (some .int)) (hf : fX11_game_210 h q0 = some y) : V p l e 2 0 s m args below meth c (MQ below (QO KM 43 g (some (.int y.1)) y.2) args s 0 (6 * 0) (WA 43 g)) KM 43 g B 11 0 h 210 [] [.int q0] := by
  unfold fX11_game_210 at hf
  exact v_iret (pc := 210) F hr dX11_game_210 (some_fst hf) (some_snd hf) (Nat.zero_le _)
set_option maxRecDepth 100000 in
set_option maxHeartbeats 4000000 in
theorem tX11_game_199 {p : Program} {l : Launch} {e : Env} {s : State} {m : MethodId} {args : Array Value} {below : List Frame} {meth : Method} {c : Code} {g : GE} {B : Nat} {h : ST}  {l3 : Int32} {l6 : Int32} {l7 : Int32} (F : Fx p s m args meth c cX11_game 11 "DustParishModel" 43 g B)
    {y : Int32 × ST} (hr : meth.sig.returnType = (some .int)) (hf : fX11_game_199 h l3 l6 l7 = some y) : V p l e 2 0 s m args below meth c (MQ below (QO KM 43 g (some (.int y.1)) y.2) args s 0 (6 * 0) (WA 43 g)) KM 43 g B 11 0 h 199 [(3, .int l3), (6, .int l6), (7, .int l7)] [] := by
  unfold fX11_game_199 at hf
  refine v_iload_n (pc := 199) (j := 0) F dX11_game_199 rfl rfl ?_
  refine v_if_ne (pc := 200) (tgt := 208) F dX11_game_200 (by decide) (fun c36 => ?_) (fun c36 => ?_)
  · have hf := ite_f hf c36
    refine v_iload (pc := 208) (j := 2) F dX11_game_208 rfl ?_
    refine V.sub (lv' := []) [] rfl ?_
    exact tX11_game_210 F hr hf
  · have hf := ite_t hf c36
    refine v_iload (pc := 203) (j := 1) F dX11_game_203 rfl ?_
    refine v_goto (pc := 205) (tgt := 210) F dX11_game_205 (by decide) ?_
    refine V.sub (lv' := []) [] rfl ?_
    exact tX11_game_210 F hr hf
set_option maxRecDepth 100000 in
set_option maxHeartbeats 4000000 in
theorem kX11_game {l : Launch} {g : GE} {B : Nat} {h : ST} {a1 : Int32} {a2 : Int32} {a3 : Int32} {y : Int32 × ST} (hf : fX11_game h a1 a2 a3 = some y) : CT l yX11_game cX11_game 11 (some .int) 2 KM 43 g B [.ref (gA g 0), .int a1, .int a2, .int a3] h (some (.int y.1)) y.2 := by
  refine CT.of pn_X11 (Nat.le_of_ble_eq_true rfl) ?_
  intro p e s m below meth c hr F
  have F : Fx p s m _ meth c cX11_game 11 "DustParishModel" 43 g B := F
  refine V_lv (lv' := [(0, .ref (gA g 0)), (1, .int a1), (2, .int a2), (3, .int a3)]) rfl ?_
  unfold fX11_game at hf
  refine v_aload_n (pc := 0) (j := 0) F dX11_game_0 rfl rfl ?_
  refine v_iconst (pc := 1) (v := 0) F dX11_game_1 ic_0 ?_
  obtain ⟨h1, e2, hf⟩ := bnd_some hf
  refine v_pfl (pc := 2) F fl_X11_157 pl_10_2 dX11_game_2 km_0.1 km_0.2 fv_10_2 rfl rfl e2 ?_
  refine v_iload_n (pc := 5) (j := 3) F dX11_game_5 rfl rfl ?_
  refine v_if_lt (pc := 6) (tgt := 14) F dX11_game_6 (by decide) (fun c3 => ?_) (fun c3 => ?_)
  · have hf := ite_t hf c3
    refine V.sub (lv' := [(0, .ref (gA g 0))]) [0] rfl ?_
    exact tX11_game_14 F hr hf
  · have hf := ite_f hf c3
    refine v_iload_n (pc := 9) (j := 3) F dX11_game_9 rfl rfl ?_
    refine v_iconst (pc := 10) (v := 1) F dX11_game_10 ic_1 ?_
    refine v_icmp_le (pc := 11) (tgt := 20) F dX11_game_11 (by decide) (fun c6 => ?_) (fun c6 => ?_)
    · have hf := ite_t hf c6
      refine v_iload_n (pc := 20) (j := 1) F dX11_game_20 rfl rfl ?_
      refine v_i2l (pc := 21) F dX11_game_21 rfl ?_
      refine v_lconst (pc := 22) (v := 0) F dX11_game_22 rfl ?_
      refine v_ldc2 (pc := 23) F tw_1850 dX11_game_23 ?_
      obtain ⟨r7, e8, hf⟩ := bnd_some hf
      refine v_callSi (pc := 26) (As := [.long a1.toInt64, .long (0 : Int64), .long (5 : Int64)]) F cl_X11_160 dX11_game_26 (kX11_isIn e8) rfl rfl (Nat.le_of_ble_eq_true rfl) (by decide) (Nat.zero_le _) ?_
      refine v_if_eq (pc := 29) (tgt := 49) F dX11_game_29 (by decide) (fun c9 => ?_) (fun c9 => ?_)
      · have hf := ite_t hf c9
        refine V.sub (lv' := [(0, .ref (gA g 0))]) [0] rfl ?_
        exact tX11_game_49 F hr hf
      · have hf := ite_f hf c9
        refine v_iload_n (pc := 32) (j := 2) F dX11_game_32 rfl rfl ?_
        refine v_i2l (pc := 33) F dX11_game_33 rfl ?_
        refine v_lconst (pc := 34) (v := 0) F dX11_game_34 rfl ?_
        refine v_ldc2 (pc := 35) F tw_1850 dX11_game_35 ?_
        obtain ⟨r12, e13, hf⟩ := bnd_some hf
        refine v_callSi (pc := 38) (As := [.long a2.toInt64, .long (0 : Int64), .long (5 : Int64)]) F cl_X11_160 dX11_game_38 (kX11_isIn e13) rfl rfl (Nat.le_of_ble_eq_true rfl) (by decide) (Nat.zero_le _) ?_
        refine v_if_eq (pc := 41) (tgt := 49) F dX11_game_41 (by decide) (fun c14 => ?_) (fun c14 => ?_)
        · have hf := ite_t hf c14
          refine V.sub (lv' := [(0, .ref (gA g 0))]) [0] rfl ?_
          exact tX11_game_49 F hr hf
        · have hf := ite_f hf c14
          refine v_iload_n (pc := 44) (j := 1) F dX11_game_44 rfl rfl ?_
          refine v_iload_n (pc := 45) (j := 2) F dX11_game_45 rfl rfl ?_
          refine v_icmp_ne (pc := 46) (tgt := 55) F dX11_game_46 (by decide) (fun c15 => ?_) (fun c15 => ?_)
          · have hf := ite_f hf c15
            refine v_aload_n (pc := 55) (j := 0) F dX11_game_55 rfl rfl ?_
            refine v_iload_n (pc := 56) (j := 1) F dX11_game_56 rfl rfl ?_
            obtain ⟨r16, e17, hf⟩ := bnd_some hf
            refine v_callVi (pc := 57) (As := [.int a1]) F cl_X11_467 dX11_game_57 (kX11_lowest e17) km_0.1 km_0.2 rc_10 rfl rfl (Nat.le_of_ble_eq_true rfl) (by decide) (Nat.zero_le _) ?_
            refine v_istore (pc := 60) (lv' := [(0, .ref (gA g 0)), (1, .int a1), (2, .int a2), (3, .int a3), (4, .int r16)]) F dX11_game_60 (by decide) rfl ?_
            refine v_aload_n (pc := 62) (j := 0) F dX11_game_62 rfl rfl ?_
            refine v_iload_n (pc := 63) (j := 2) F dX11_game_63 rfl rfl ?_
            obtain ⟨r18, e19, hf⟩ := bnd_some hf
            refine v_callVi (pc := 64) (As := [.int a2]) F cl_X11_467 dX11_game_64 (kX11_lowest e19) km_0.1 km_0.2 rc_10 rfl rfl (Nat.le_of_ble_eq_true rfl) (by decide) (Nat.zero_le _) ?_
            refine v_istore (pc := 67) (lv' := [(0, .ref (gA g 0)), (1, .int a1), (2, .int a2), (3, .int a3), (4, .int r16), (5, .int r18)]) F dX11_game_67 (by decide) rfl ?_
            refine v_iconst (pc := 69) (v := 0) F dX11_game_69 ic_0 ?_
            refine v_istore (pc := 70) (lv' := [(0, .ref (gA g 0)), (1, .int a1), (2, .int a2), (3, .int a3), (4, .int r16), (5, .int r18), (6, .int 0)]) F dX11_game_70 (by decide) rfl ?_
            refine v_iconst (pc := 72) (v := (-1)) F dX11_game_72 ic_m1 ?_
            refine v_istore (pc := 73) (lv' := [(0, .ref (gA g 0)), (1, .int a1), (2, .int a2), (3, .int a3), (4, .int r16), (5, .int r18), (6, .int 0), (7, .int (-1))]) F dX11_game_73 (by decide) rfl ?_
            refine v_iconst (pc := 75) (v := 0) F dX11_game_75 ic_0 ?_
            refine v_istore (pc := 76) (lv' := [(0, .ref (gA g 0)), (1, .int a1), (2, .int a2), (3, .int a3), (4, .int r16), (5, .int r18), (6, .int 0), (7, .int (-1)), (8, .int 0)]) F dX11_game_76 (by decide) rfl ?_
            obtain ⟨x34, e35, hf⟩ := bnd_some hf
            refine V.sub (lv' := [(0, .ref (gA g 0)), (3, .int a3), (4, .int r16), (5, .int r18), (6, .int 0), (7, .int (-1)), (8, .int 0)]) [0, 3, 4, 5, 6, 7, 8] rfl ?_
            refine tX11_game_78 (s0 := (0, (-1), 0)) F ?_ e35
            exact tX11_game_199 F hr hf
          · have hf := ite_t hf c15
            refine V.sub (lv' := [(0, .ref (gA g 0))]) [0] rfl ?_
            exact tX11_game_49 F hr hf
    · have hf := ite_f hf c6
      refine V.sub (lv' := [(0, .ref (gA g 0))]) [0] rfl ?_
      exact tX11_game_14 F hr hf
def fX11_isOf_14 (h : ST) (q0 : Int32) : Option (Int32) :=
  bnd (zb q0) fun z2 =>
  some z2
def fX11_isOf (h : ST) (a1 : Int32) (a2 : Int32) : Option (Int32) :=
  if ((a1 >>> (a2 &&& 31)) &&& 1) = 1 then
  fX11_isOf_14 h 1
  else
  fX11_isOf_14 h 0
set_option maxRecDepth 100000 in
set_option maxHeartbeats 4000000 in
theorem tX11_isOf_14 {p : Program} {l : Launch} {e : Env} {s : State} {m : MethodId} {args : Array Value} {below : List Frame} {meth : Method} {c : Code} {g : GE} {B : Nat} {h : ST}  {q0 : Int32} (F : Fx p s m args meth c cX11_isOf 2 "DustParishModel" 43 g B)
    {y : Int32} (hr : meth.sig.returnType = (some .boolean)) (hf : fX11_isOf_14 h q0 = some y) : V p l e 1 0 s m args below meth c (MQ below (QO KM 43 g (some (.int y)) h) args s 0 (6 * 0) (WA 43 g)) KM 43 g B 2 0 h 14 [] [.int q0] := by
  unfold fX11_isOf_14 at hf
  obtain ⟨z2, e3, hf⟩ := bnd_some hf
  exact v_zret (pc := 14) F hr dX11_isOf_14 (zb_in e3).2 ((zb_in e3).1.symm.trans (Option.some.inj hf)) rfl (Nat.zero_le _)
set_option maxRecDepth 100000 in
set_option maxHeartbeats 4000000 in
theorem kX11_isOf {l : Launch} {g : GE} {B : Nat} {h : ST} {a1 : Int32} {a2 : Int32} {y : Int32} (hf : fX11_isOf h a1 a2 = some y) : CT l yX11_isOf cX11_isOf 2 (some .boolean) 1 KM 43 g B [.int a1, .int a2] h (some (.int y)) h := by
  refine CT.of pn_X11 (Nat.le_of_ble_eq_true rfl) ?_
  intro p e s m below meth c hr F
  have F : Fx p s m _ meth c cX11_isOf 2 "DustParishModel" 43 g B := F
  refine V_lv (lv' := [(0, .int a1), (1, .int a2)]) rfl ?_
  unfold fX11_isOf at hf
  refine v_iload_n (pc := 0) (j := 0) F dX11_isOf_0 rfl rfl ?_
  refine v_iload_n (pc := 1) (j := 1) F dX11_isOf_1 rfl rfl ?_
  refine v_ishr (pc := 2) F dX11_isOf_2 ?_
  refine v_iconst (pc := 3) (v := 1) F dX11_isOf_3 ic_1 ?_
  refine v_iand (pc := 4) F dX11_isOf_4 ?_
  refine v_iconst (pc := 5) (v := 1) F dX11_isOf_5 ic_1 ?_
  refine v_icmp_ne (pc := 6) (tgt := 13) F dX11_isOf_6 (by decide) (fun c1 => ?_) (fun c1 => ?_)
  · have hf := ite_f hf c1
    refine v_iconst (pc := 13) (v := 0) F dX11_isOf_13 ic_0 ?_
    refine V.sub (lv' := []) [] rfl ?_
    exact tX11_isOf_14 F hr hf
  · have hf := ite_t hf c1
    refine v_iconst (pc := 9) (v := 1) F dX11_isOf_9 ic_1 ?_
    refine v_goto (pc := 10) (tgt := 14) F dX11_isOf_10 (by decide) ?_
    refine V.sub (lv' := []) [] rfl ?_
    exact tX11_isOf_14 F hr hf
def fX11_goOrders_111 (R : ST → Int32 → Int32 → Int32 → Option (ST)) (h : ST) (l1 : Int32) (l2 : Int32) (l3 : Int32) (l4 : Int32) : Option ((ST × Int32) ⊕ ST) :=
  some (.inl (h, l4 + 1))
def fX11_goOrders_66 (R : ST → Int32 → Int32 → Int32 → Option (ST)) (l1 : Int32) (l2 : Int32) (l3 : Int32) (s1 : (ST × Int32)) : Option ((ST × Int32) ⊕ ST) :=
  bnd (rd 14 (s1.1 3) 2) fun v4 =>
  if v4 ≤ s1.2 then
  some (.inr s1.1)
  else
  bnd (fX11_isOf s1.1 l3 s1.2) fun r7 =>
    if r7 = 0 then
    bnd (wr 5 s1.1 28 l2 s1.2) fun h10 =>
      bnd (R h10 l1 (l2 + 1) (l3 ||| ((1 : Int32) <<< (s1.2 &&& 31)))) fun r12 =>
      fX11_goOrders_111 R r12 l1 l2 l3 s1.2
    else
    fX11_goOrders_111 R s1.1 l1 l2 l3 s1.2
def fX11_goOrders_36 (R : ST → Int32 → Int32 → Int32 → Option (ST)) (l2 : Int32) (s1 : (ST × Int32)) : Option ((ST × Int32) ⊕ ST) :=
  if l2 ≤ s1.2 then
  some (.inr s1.1)
  else
  bnd (rd 5 (s1.1 28) s1.2) fun v22 =>
    bnd (wr 5 s1.1 29 s1.2 v22) fun h24 =>
    some (.inl (h24, s1.2 + 1))
def fX11_goOrders_b (R : ST → Int32 → Int32 → Int32 → Option (ST)) (h : ST) (a1 : Int32) (a2 : Int32) (a3 : Int32) : Option (ST) :=
  bnd (rd 14 (h 3) 2) fun v1 =>
  if a2 = v1 then
  bnd (fX11_byOrder h a1) fun r16 =>
    if (r16.2 0 45) < r16.1 then
    bnd (pw r16.2 0 45 r16.1) fun h19 =>
      bnd (lp FU (fX11_goOrders_36 R a2) (h19, 0)) fun x26 =>
      some x26
    else
    some r16.2
  else
  bnd (lp FU (fX11_goOrders_66 R a1 a2 a3) (h, 0)) fun x14 =>
    some x14
set_option maxRecDepth 100000 in
set_option maxHeartbeats 4000000 in
theorem tX11_goOrders_111 {p : Program} {l : Launch} {e : Env} {s : State} {m : MethodId} {args : Array Value} {below : List Frame} {meth : Method} {c : Code} {g : GE} {B : Nat} {dd : Nat} {R : ST → Int32 → Int32 → Int32 → Option (ST)} (hR : ∀ {h : ST} {a1 a2 a3 : Int32} {y : ST}, R h a1 a2 a3 = some y → CT l yX11_goOrders cX11_goOrders 6 none (7 + 1 * dd) KM 43 g B [.ref (gA g 0), .int a1, .int a2, .int a3] h none y) {h : ST}  {l1 : Int32} {l2 : Int32} {l3 : Int32} {l4 : Int32} (F : Fx p s m args meth c cX11_goOrders 6 "DustParishModel" 43 g B)
    {Q : State → Prop} {y : (ST × Int32) ⊕ ST} (hk : ∀ v : (ST × Int32), y = Sum.inl v → V p l e (7 + 1 * dd + 1) 0 s m args below meth c Q KM 43 g B 6 0 v.1 66 [(0, .ref (gA g 0)), (1, .int l1), (2, .int l2), (3, .int l3), (4, .int v.2)] []) (hx0 : ∀ v : ST, y = Sum.inr v → V p l e (7 + 1 * dd + 1) 0 s m args below meth c Q KM 43 g B 6 0 v 117 [] []) (hf : fX11_goOrders_111 R h l1 l2 l3 l4 = some y) : V p l e (7 + 1 * dd + 1) 0 s m args below meth c Q KM 43 g B 6 0 h 111 [(0, .ref (gA g 0)), (1, .int l1), (2, .int l2), (3, .int l3), (4, .int l4)] [] := by
  unfold fX11_goOrders_111 at hf
  refine v_iinc (pc := 111) (j := 4) (v := l4 + 1) (lv' := [(0, .ref (gA g 0)), (1, .int l1), (2, .int l2), (3, .int l3), (4, .int (l4 + 1))]) F dX11_goOrders_111 rfl (congrArg (fun z => l4 + z) ic_1) (by decide) rfl ?_
  refine v_goto (pc := 114) (tgt := 66) F dX11_goOrders_114 (by decide) ?_
  exact hk (h, l4 + 1) (Option.some.inj hf).symm
set_option maxRecDepth 100000 in
set_option maxHeartbeats 4000000 in
theorem tX11_goOrders_66 {p : Program} {l : Launch} {e : Env} {s : State} {m : MethodId} {args : Array Value} {below : List Frame} {meth : Method} {c : Code} {g : GE} {B : Nat} {dd : Nat} {R : ST → Int32 → Int32 → Int32 → Option (ST)} (hR : ∀ {h : ST} {a1 a2 a3 : Int32} {y : ST}, R h a1 a2 a3 = some y → CT l yX11_goOrders cX11_goOrders 6 none (7 + 1 * dd) KM 43 g B [.ref (gA g 0), .int a1, .int a2, .int a3] h none y)   {l1 : Int32} {l2 : Int32} {l3 : Int32} {Q : State → Prop} {x : ST} {nf : Nat} {s0 : (ST × Int32)} (F : Fx p s m args meth c cX11_goOrders 6 "DustParishModel" 43 g B) (hX0 : V p l e (7 + 1 * dd + 1) 0 s m args below meth c Q KM 43 g B 6 0 x 117 [] []) (hl : lp nf (fX11_goOrders_66 R l1 l2 l3) s0 = some x) : V p l e (7 + 1 * dd + 1) 0 s m args below meth c Q KM 43 g B 6 0 s0.1 66 [(0, .ref (gA g 0)), (1, .int l1), (2, .int l2), (3, .int l3), (4, .int s0.2)] [] := by
  refine lp_ind (P := fun s0 => V p l e (7 + 1 * dd + 1) 0 s m args below meth c Q KM 43 g B 6 0 s0.1 66 [(0, .ref (gA g 0)), (1, .int l1), (2, .int l2), (3, .int l3), (4, .int s0.2)] []) ?_ nf s0 hl
  intro s1 y hf hk hx
  have hx0 : ∀ v : ST, y = Sum.inr v → V p l e (7 + 1 * dd + 1) 0 s m args below meth c Q KM 43 g B 6 0 v 117 [] [] := fun v e9 => by rw [hx v e9]; exact hX0
  unfold fX11_goOrders_66 at hf
  refine v_iload (pc := 66) (j := 4) F dX11_goOrders_66 rfl ?_
  refine v_aload_n (pc := 68) (j := 0) F dX11_goOrders_68 rfl rfl ?_
  refine v_ifl (pc := 69) F fl_X11_36 dX11_goOrders_69 km_0.1 km_0.2 fv_10_3 ?_
  refine v_iconst (pc := 72) (v := 2) F dX11_goOrders_72 ic_2 ?_
  obtain ⟨v4, e5, hf⟩ := bnd_some hf
  refine v_iald (pc := 73) F dX11_goOrders_73 km_3.1 km_3.2 e5 ?_
  refine v_icmp_ge (pc := 74) (tgt := 117) F dX11_goOrders_74 (by decide) (fun c6 => ?_) (fun c6 => ?_)
  · have hf := ite_t hf c6
    refine V.sub (lv' := []) [] rfl ?_
    exact hx0 s1.1 (Option.some.inj hf).symm
  · have hf := ite_f hf c6
    refine v_iload_n (pc := 77) (j := 3) F dX11_goOrders_77 rfl rfl ?_
    refine v_iload (pc := 78) (j := 4) F dX11_goOrders_78 rfl ?_
    obtain ⟨r7, e8, hf⟩ := bnd_some hf
    refine v_callSi (pc := 80) (As := [.int l3, .int s1.2]) F cl_X11_445 dX11_goOrders_80 (kX11_isOf e8) rfl rfl (Nat.le_of_ble_eq_true rfl) (by omega) (Nat.zero_le _) ?_
    refine v_if_eq (pc := 83) (tgt := 89) F dX11_goOrders_83 (by decide) (fun c9 => ?_) (fun c9 => ?_)
    · have hf := ite_t hf c9
      refine v_aload_n (pc := 89) (j := 0) F dX11_goOrders_89 rfl rfl ?_
      refine v_ifl (pc := 90) F fl_X11_112 dX11_goOrders_90 km_0.1 km_0.2 fv_10_43 ?_
      refine v_iload_n (pc := 93) (j := 2) F dX11_goOrders_93 rfl rfl ?_
      refine v_iload (pc := 94) (j := 4) F dX11_goOrders_94 rfl ?_
      obtain ⟨h10, e11, hf⟩ := bnd_some hf
      refine v_iast (pc := 96) F dX11_goOrders_96 km_28.1 km_28.2 e11 ?_
      refine v_aload_n (pc := 97) (j := 0) F dX11_goOrders_97 rfl rfl ?_
      refine v_iload_n (pc := 98) (j := 1) F dX11_goOrders_98 rfl rfl ?_
      refine v_iload_n (pc := 99) (j := 2) F dX11_goOrders_99 rfl rfl ?_
      refine v_iconst (pc := 100) (v := 1) F dX11_goOrders_100 ic_1 ?_
      refine v_iadd (pc := 101) F dX11_goOrders_101 ?_
      refine v_iload_n (pc := 102) (j := 3) F dX11_goOrders_102 rfl rfl ?_
      refine v_iconst (pc := 103) (v := 1) F dX11_goOrders_103 ic_1 ?_
      refine v_iload (pc := 104) (j := 4) F dX11_goOrders_104 rfl ?_
      refine v_ishl (pc := 106) F dX11_goOrders_106 ?_
      refine v_ior (pc := 107) F dX11_goOrders_107 ?_
      obtain ⟨r12, e13, hf⟩ := bnd_some hf
      refine v_callVv (pc := 108) (As := [.int l1, .int (l2 + 1), .int (l3 ||| ((1 : Int32) <<< (s1.2 &&& 31)))]) F cl_X11_448 dX11_goOrders_108 (hR e13) km_0.1 km_0.2 rc_10 rfl rfl (Nat.le_of_ble_eq_true rfl) (by omega) (Nat.zero_le _) ?_
      exact tX11_goOrders_111 hR F hk hx0 hf
    · have hf := ite_f hf c9
      refine v_goto (pc := 86) (tgt := 111) F dX11_goOrders_86 (by decide) ?_
      exact tX11_goOrders_111 hR F hk hx0 hf
set_option maxRecDepth 100000 in
set_option maxHeartbeats 4000000 in
theorem tX11_goOrders_36 {p : Program} {l : Launch} {e : Env} {s : State} {m : MethodId} {args : Array Value} {below : List Frame} {meth : Method} {c : Code} {g : GE} {B : Nat} {dd : Nat} {R : ST → Int32 → Int32 → Int32 → Option (ST)} (hR : ∀ {h : ST} {a1 a2 a3 : Int32} {y : ST}, R h a1 a2 a3 = some y → CT l yX11_goOrders cX11_goOrders 6 none (7 + 1 * dd) KM 43 g B [.ref (gA g 0), .int a1, .int a2, .int a3] h none y)   {l2 : Int32} {Q : State → Prop} {x : ST} {nf : Nat} {s0 : (ST × Int32)} (F : Fx p s m args meth c cX11_goOrders 6 "DustParishModel" 43 g B) (hX0 : V p l e (7 + 1 * dd + 1) 0 s m args below meth c Q KM 43 g B 6 0 x 62 [] []) (hl : lp nf (fX11_goOrders_36 R l2) s0 = some x) : V p l e (7 + 1 * dd + 1) 0 s m args below meth c Q KM 43 g B 6 0 s0.1 36 [(0, .ref (gA g 0)), (2, .int l2), (5, .int s0.2)] [] := by
  refine lp_ind (P := fun s0 => V p l e (7 + 1 * dd + 1) 0 s m args below meth c Q KM 43 g B 6 0 s0.1 36 [(0, .ref (gA g 0)), (2, .int l2), (5, .int s0.2)] []) ?_ nf s0 hl
  intro s1 y hf hk hx
  have hx0 : ∀ v : ST, y = Sum.inr v → V p l e (7 + 1 * dd + 1) 0 s m args below meth c Q KM 43 g B 6 0 v 62 [] [] := fun v e9 => by rw [hx v e9]; exact hX0
  unfold fX11_goOrders_36 at hf
  refine v_iload (pc := 36) (j := 2) F dX11_goOrders_36 rfl ?_
  refine v_iload_n (pc := 38) (j := 1) F dX11_goOrders_38 rfl rfl ?_
  refine v_icmp_ge (pc := 39) (tgt := 62) F dX11_goOrders_39 (by decide) (fun c21 => ?_) (fun c21 => ?_)
  · have hf := ite_t hf c21
    refine V.sub (lv' := []) [] rfl ?_
    exact hx0 s1.1 (Option.some.inj hf).symm
  · have hf := ite_f hf c21
    refine v_aload_n (pc := 42) (j := 0) F dX11_goOrders_42 rfl rfl ?_
    refine v_ifl (pc := 43) F fl_X11_115 dX11_goOrders_43 km_0.1 km_0.2 fv_10_44 ?_
    refine v_iload (pc := 46) (j := 2) F dX11_goOrders_46 rfl ?_
    refine v_aload_n (pc := 48) (j := 0) F dX11_goOrders_48 rfl rfl ?_
    refine v_ifl (pc := 49) F fl_X11_112 dX11_goOrders_49 km_0.1 km_0.2 fv_10_43 ?_
    refine v_iload (pc := 52) (j := 2) F dX11_goOrders_52 rfl ?_
    obtain ⟨v22, e23, hf⟩ := bnd_some hf
    refine v_iald (pc := 54) F dX11_goOrders_54 km_28.1 km_28.2 e23 ?_
    obtain ⟨h24, e25, hf⟩ := bnd_some hf
    refine v_iast (pc := 55) F dX11_goOrders_55 km_29.1 km_29.2 e25 ?_
    refine v_iinc (pc := 56) (j := 2) (v := s1.2 + 1) (lv' := [(0, .ref (gA g 0)), (2, .int l2), (5, .int (s1.2 + 1))]) F dX11_goOrders_56 rfl (congrArg (fun z => s1.2 + z) ic_1) (by decide) rfl ?_
    refine v_goto (pc := 59) (tgt := 36) F dX11_goOrders_59 (by decide) ?_
    exact hk (h24, s1.2 + 1) (Option.some.inj hf).symm
set_option maxRecDepth 100000 in
set_option maxHeartbeats 4000000 in
theorem kX11_goOrders_b {l : Launch} {g : GE} {B : Nat} {dd : Nat} {R : ST → Int32 → Int32 → Int32 → Option (ST)} (hR : ∀ {h : ST} {a1 a2 a3 : Int32} {y : ST}, R h a1 a2 a3 = some y → CT l yX11_goOrders cX11_goOrders 6 none (7 + 1 * dd) KM 43 g B [.ref (gA g 0), .int a1, .int a2, .int a3] h none y) {h : ST} {a1 : Int32} {a2 : Int32} {a3 : Int32} {y : ST} (hf : fX11_goOrders_b R h a1 a2 a3 = some y) : CT l yX11_goOrders cX11_goOrders 6 none (7 + 1 * dd + 1) KM 43 g B [.ref (gA g 0), .int a1, .int a2, .int a3] h none y := by
  refine CT.of pn_X11 (Nat.le_of_ble_eq_true rfl) ?_
  intro p e s m below meth c hr F
  have F : Fx p s m _ meth c cX11_goOrders 6 "DustParishModel" 43 g B := F
  refine V_lv (lv' := [(0, .ref (gA g 0)), (1, .int a1), (2, .int a2), (3, .int a3)]) rfl ?_
  unfold fX11_goOrders_b at hf
  refine v_iload_n (pc := 0) (j := 2) F dX11_goOrders_0 rfl rfl ?_
  refine v_aload_n (pc := 1) (j := 0) F dX11_goOrders_1 rfl rfl ?_
  refine v_ifl (pc := 2) F fl_X11_36 dX11_goOrders_2 km_0.1 km_0.2 fv_10_3 ?_
  refine v_iconst (pc := 5) (v := 2) F dX11_goOrders_5 ic_2 ?_
  obtain ⟨v1, e2, hf⟩ := bnd_some hf
  refine v_iald (pc := 6) F dX11_goOrders_6 km_3.1 km_3.2 e2 ?_
  refine v_icmp_ne (pc := 7) (tgt := 63) F dX11_goOrders_7 (by decide) (fun c3 => ?_) (fun c3 => ?_)
  · have hf := ite_f hf c3
    refine v_iconst (pc := 63) (v := 0) F dX11_goOrders_63 ic_0 ?_
    refine v_istore (pc := 64) (lv' := [(0, .ref (gA g 0)), (1, .int a1), (2, .int a2), (3, .int a3), (4, .int 0)]) F dX11_goOrders_64 (by decide) rfl ?_
    obtain ⟨x14, e15, hf⟩ := bnd_some hf
    refine tX11_goOrders_66 (s0 := (h, 0)) hR F ?_ e15
    exact v_vret (pc := 117) F hr dX11_goOrders_117 (Option.some.inj hf) (Nat.zero_le _)
  · have hf := ite_t hf c3
    refine v_aload_n (pc := 10) (j := 0) F dX11_goOrders_10 rfl rfl ?_
    refine v_iload_n (pc := 11) (j := 1) F dX11_goOrders_11 rfl rfl ?_
    obtain ⟨r16, e17, hf⟩ := bnd_some hf
    refine v_callVi (pc := 12) (As := [.int a1]) F cl_X11_439 dX11_goOrders_12 (kX11_byOrder e17) km_0.1 km_0.2 rc_10 rfl rfl (Nat.le_of_ble_eq_true rfl) (by omega) (Nat.zero_le _) ?_
    refine v_istore (pc := 15) (lv' := [(0, .ref (gA g 0)), (1, .int a1), (2, .int a2), (3, .int a3), (4, .int r16.1)]) F dX11_goOrders_15 (by decide) rfl ?_
    refine v_iload (pc := 17) (j := 4) F dX11_goOrders_17 rfl ?_
    refine v_aload_n (pc := 19) (j := 0) F dX11_goOrders_19 rfl rfl ?_
    refine v_ifl (pc := 20) F fl_X11_442 dX11_goOrders_20 km_0.1 km_0.2 fv_10_45 ?_
    refine v_icmp_gt (pc := 23) (tgt := 27) F dX11_goOrders_23 (by decide) (fun c18 => ?_) (fun c18 => ?_)
    · have hf := ite_t hf c18
      refine v_aload_n (pc := 27) (j := 0) F dX11_goOrders_27 rfl rfl ?_
      refine v_iload (pc := 28) (j := 4) F dX11_goOrders_28 rfl ?_
      obtain ⟨h19, e20, hf⟩ := bnd_some hf
      refine v_pfl (pc := 30) F fl_X11_442 pl_10_45 dX11_goOrders_30 km_0.1 km_0.2 fv_10_45 rfl rfl e20 ?_
      refine v_iconst (pc := 33) (v := 0) F dX11_goOrders_33 ic_0 ?_
      refine v_istore (pc := 34) (lv' := [(0, .ref (gA g 0)), (1, .int a1), (2, .int a2), (3, .int a3), (4, .int r16.1), (5, .int 0)]) F dX11_goOrders_34 (by decide) rfl ?_
      obtain ⟨x26, e27, hf⟩ := bnd_some hf
      refine V.sub (lv' := [(0, .ref (gA g 0)), (2, .int a2), (5, .int 0)]) [0, 2, 5] rfl ?_
      refine tX11_goOrders_36 (s0 := (h19, 0)) hR F ?_ e27
      exact v_vret (pc := 62) F hr dX11_goOrders_62 (Option.some.inj hf) (Nat.zero_le _)
    · have hf := ite_f hf c18
      exact v_vret (pc := 26) F hr dX11_goOrders_26 (Option.some.inj hf) (Nat.zero_le _)
def fX11_goOrders : Nat → ST → Int32 → Int32 → Int32 → Option (ST)
  | 0, _, _, _, _ => none
  | dd + 1, h, a1, a2, a3 => fX11_goOrders_b (fX11_goOrders dd) h a1 a2 a3
theorem kX11_goOrders {l : Launch} {g : GE} {B : Nat} : ∀ {dd : Nat} {h : ST} {a1 a2 a3 : Int32} {y : ST}, fX11_goOrders dd h a1 a2 a3 = some y → CT l yX11_goOrders cX11_goOrders 6 none (7 + 1 * dd) KM 43 g B [.ref (gA g 0), .int a1, .int a2, .int a3] h none y
  | 0, _, _, _, _, _, hf => by cases hf
  | dd + 1, _, _, _, _, _, hf => by
    have e : 7 + 1 * (dd + 1) = 7 + 1 * dd + 1 := by omega
    rw [e]
    exact kX11_goOrders_b (fun hf => kX11_goOrders hf) hf
def fX11_isAsSeen_13 (h : ST) (s1 : (Int32 × Int32)) : Option ((Int32 × Int32) ⊕ Int32) :=
  if (h 0 37) ≤ s1.2 then
  some (.inr s1.1)
  else
  bnd (rd 8 (h 34) s1.2) fun v4 =>
    some (.inl ((if s1.1 < v4 then v4 else s1.1), s1.2 + 1))
def fX11_isAsSeen_105 (h : ST) (l1 : Int32) (l3 : Int32) (l4 : Int32) (q0 : Int32) : Option ((Int32 × Int32) ⊕ Int32) :=
  some (.inl (q0, l4 + 1))
def fX11_isAsSeen_104 (h : ST) (l1 : Int32) (l3 : Int32) (l4 : Int32) : Option ((Int32 × Int32) ⊕ Int32) :=
  fX11_isAsSeen_105 h l1 l3 l4 0
def fX11_isAsSeen_100 (h : ST) (l1 : Int32) (l3 : Int32) (l4 : Int32) : Option ((Int32 × Int32) ⊕ Int32) :=
  fX11_isAsSeen_105 h l1 l3 l4 1
def fX11_isAsSeen_54 (h : ST) (l1 : Int32) (l3 : Int32) (s1 : (Int32 × Int32)) : Option ((Int32 × Int32) ⊕ Int32) :=
  if (h 0 37) ≤ s1.2 then
  some (.inr s1.1)
  else
  if s1.1 = 0 then
    fX11_isAsSeen_104 h l1 l3 s1.2
    else
    bnd (rd 8 (h 34) s1.2) fun v12 =>
      if v12 = l3 then
      bnd (rd 8 (h 33) s1.2) fun v15 =>
        bnd (rd 9 (h 19) v15) fun v17 =>
        bnd (rd 8 (h 35) s1.2) fun v19 =>
        if v17 = v19 then
        fX11_isAsSeen_100 h l1 l3 s1.2
        else
        fX11_isAsSeen_104 h l1 l3 s1.2
      else
      fX11_isAsSeen_100 h l1 l3 s1.2
def fX11_isAsSeen_42 (l1 : Int32) (s1 : (ST × Int32 × Int32)) : Option ((ST × Int32 × Int32) ⊕ (ST × Int32)) :=
  if l1 < s1.2.2 then
  some (.inr (s1.1, s1.2.1))
  else
  if s1.2.1 = 0 then
    some (.inr (s1.1, s1.2.1))
    else
    bnd (lp FU (fX11_isAsSeen_54 s1.1 l1 s1.2.2) (s1.2.1, 0)) fun x22 =>
      bnd (fX11_aDay s1.1) fun r24 =>
      some (.inl (r24, x22, s1.2.2 + 1))
def fX11_isAsSeen_122 (h : ST) (l2 : Int32) : Option (Int32 × ST) :=
  bnd (fX11_unpack h 36 31 0) fun r28 =>
  bnd (zb l2) fun z30 =>
  some (z30, r28)
def fX11_isAsSeen (h : ST) : Option (Int32 × ST) :=
  bnd (fX11_pack h 36 31 0) fun r1 =>
  bnd (lp FU (fX11_isAsSeen_13 r1) (0, 0)) fun x6 =>
  bnd (lp FU (fX11_isAsSeen_42 x6) (r1, 1, 0)) fun x26 =>
  fX11_isAsSeen_122 x26.1 x26.2
set_option maxRecDepth 100000 in
set_option maxHeartbeats 4000000 in
theorem tX11_isAsSeen_13 {p : Program} {l : Launch} {e : Env} {s : State} {m : MethodId} {args : Array Value} {below : List Frame} {meth : Method} {c : Code} {g : GE} {B : Nat}  {h : ST}  {Q : State → Prop} {x : Int32} {nf : Nat} {s0 : (Int32 × Int32)} (F : Fx p s m args meth c cX11_isAsSeen 5 "DustParishModel" 43 g B) (hX0 : V p l e 7 0 s m args below meth c Q KM 43 g B 5 0 h 38 [(0, .ref (gA g 0)), (1, .int x)] []) (hl : lp nf (fX11_isAsSeen_13 h) s0 = some x) : V p l e 7 0 s m args below meth c Q KM 43 g B 5 0 h 13 [(0, .ref (gA g 0)), (1, .int s0.1), (2, .int s0.2)] [] := by
  refine lp_ind (P := fun s0 => V p l e 7 0 s m args below meth c Q KM 43 g B 5 0 h 13 [(0, .ref (gA g 0)), (1, .int s0.1), (2, .int s0.2)] []) ?_ nf s0 hl
  intro s1 y hf hk hx
  have hx0 : ∀ v : Int32, y = Sum.inr v → V p l e 7 0 s m args below meth c Q KM 43 g B 5 0 h 38 [(0, .ref (gA g 0)), (1, .int v)] [] := fun v e9 => by rw [hx v e9]; exact hX0
  unfold fX11_isAsSeen_13 at hf
  refine v_iload_n (pc := 13) (j := 2) F dX11_isAsSeen_13 rfl rfl ?_
  refine v_aload_n (pc := 14) (j := 0) F dX11_isAsSeen_14 rfl rfl ?_
  refine v_ifl (pc := 15) F fl_X11_344 dX11_isAsSeen_15 km_0.1 km_0.2 fv_10_37 ?_
  refine v_icmp_ge (pc := 18) (tgt := 38) F dX11_isAsSeen_18 (by decide) (fun c3 => ?_) (fun c3 => ?_)
  · have hf := ite_t hf c3
    refine V.sub (lv' := [(0, .ref (gA g 0)), (1, .int s1.1)]) [0, 1] rfl ?_
    exact hx0 s1.1 (Option.some.inj hf).symm
  · have hf := ite_f hf c3
    refine v_iload_n (pc := 21) (j := 1) F dX11_isAsSeen_21 rfl rfl ?_
    refine v_aload_n (pc := 22) (j := 0) F dX11_isAsSeen_22 rfl rfl ?_
    refine v_ifl (pc := 23) F fl_X11_130 dX11_isAsSeen_23 km_0.1 km_0.2 fv_10_50 ?_
    refine v_iload_n (pc := 26) (j := 2) F dX11_isAsSeen_26 rfl rfl ?_
    obtain ⟨v4, e5, hf⟩ := bnd_some hf
    refine v_iald (pc := 27) F dX11_isAsSeen_27 km_34.1 km_34.2 e5 ?_
    refine v_mmax (pc := 28) F tw_1602 mmaxW dX11_isAsSeen_28 (by decide) (Nat.le_of_ble_eq_true rfl) (Nat.zero_le _) ?_
    refine v_istore_n (pc := 31) (lv' := [(0, .ref (gA g 0)), (1, .int (if s1.1 < v4 then v4 else s1.1)), (2, .int s1.2)]) F dX11_isAsSeen_31 rfl (by decide) rfl ?_
    refine v_iinc (pc := 32) (j := 2) (v := s1.2 + 1) (lv' := [(0, .ref (gA g 0)), (1, .int (if s1.1 < v4 then v4 else s1.1)), (2, .int (s1.2 + 1))]) F dX11_isAsSeen_32 rfl (congrArg (fun z => s1.2 + z) ic_1) (by decide) rfl ?_
    refine v_goto (pc := 35) (tgt := 13) F dX11_isAsSeen_35 (by decide) ?_
    exact hk ((if s1.1 < v4 then v4 else s1.1), s1.2 + 1) (Option.some.inj hf).symm
set_option maxRecDepth 100000 in
set_option maxHeartbeats 4000000 in
theorem tX11_isAsSeen_105 {p : Program} {l : Launch} {e : Env} {s : State} {m : MethodId} {args : Array Value} {below : List Frame} {meth : Method} {c : Code} {g : GE} {B : Nat} {h : ST}  {l1 : Int32} {l3 : Int32} {l4 : Int32} {q0 : Int32} (F : Fx p s m args meth c cX11_isAsSeen 5 "DustParishModel" 43 g B)
    {Q : State → Prop} {y : (Int32 × Int32) ⊕ Int32} (hk : ∀ v : (Int32 × Int32), y = Sum.inl v → V p l e 7 0 s m args below meth c Q KM 43 g B 5 0 h 54 [(0, .ref (gA g 0)), (1, .int l1), (2, .int v.1), (3, .int l3), (4, .int v.2)] []) (hx0 : ∀ v : Int32, y = Sum.inr v → V p l e 7 0 s m args below meth c Q KM 43 g B 5 0 h 112 [(0, .ref (gA g 0)), (1, .int l1), (2, .int v), (3, .int l3)] []) (hf : fX11_isAsSeen_105 h l1 l3 l4 q0 = some y) : V p l e 7 0 s m args below meth c Q KM 43 g B 5 0 h 105 [(0, .ref (gA g 0)), (1, .int l1), (3, .int l3), (4, .int l4)] [.int q0] := by
  unfold fX11_isAsSeen_105 at hf
  refine v_istore_n (pc := 105) (lv' := [(0, .ref (gA g 0)), (1, .int l1), (2, .int q0), (3, .int l3), (4, .int l4)]) F dX11_isAsSeen_105 rfl (by decide) rfl ?_
  refine v_iinc (pc := 106) (j := 4) (v := l4 + 1) (lv' := [(0, .ref (gA g 0)), (1, .int l1), (2, .int q0), (3, .int l3), (4, .int (l4 + 1))]) F dX11_isAsSeen_106 rfl (congrArg (fun z => l4 + z) ic_1) (by decide) rfl ?_
  refine v_goto (pc := 109) (tgt := 54) F dX11_isAsSeen_109 (by decide) ?_
  exact hk (q0, l4 + 1) (Option.some.inj hf).symm
set_option maxRecDepth 100000 in
set_option maxHeartbeats 4000000 in
theorem tX11_isAsSeen_104 {p : Program} {l : Launch} {e : Env} {s : State} {m : MethodId} {args : Array Value} {below : List Frame} {meth : Method} {c : Code} {g : GE} {B : Nat} {h : ST}  {l1 : Int32} {l3 : Int32} {l4 : Int32} (F : Fx p s m args meth c cX11_isAsSeen 5 "DustParishModel" 43 g B)
    {Q : State → Prop} {y : (Int32 × Int32) ⊕ Int32} (hk : ∀ v : (Int32 × Int32), y = Sum.inl v → V p l e 7 0 s m args below meth c Q KM 43 g B 5 0 h 54 [(0, .ref (gA g 0)), (1, .int l1), (2, .int v.1), (3, .int l3), (4, .int v.2)] []) (hx0 : ∀ v : Int32, y = Sum.inr v → V p l e 7 0 s m args below meth c Q KM 43 g B 5 0 h 112 [(0, .ref (gA g 0)), (1, .int l1), (2, .int v), (3, .int l3)] []) (hf : fX11_isAsSeen_104 h l1 l3 l4 = some y) : V p l e 7 0 s m args below meth c Q KM 43 g B 5 0 h 104 [(0, .ref (gA g 0)), (1, .int l1), (3, .int l3), (4, .int l4)] [] := by
  unfold fX11_isAsSeen_104 at hf
  refine v_iconst (pc := 104) (v := 0) F dX11_isAsSeen_104 ic_0 ?_
  exact tX11_isAsSeen_105 F hk hx0 hf
set_option maxRecDepth 100000 in
set_option maxHeartbeats 4000000 in
theorem tX11_isAsSeen_100 {p : Program} {l : Launch} {e : Env} {s : State} {m : MethodId} {args : Array Value} {below : List Frame} {meth : Method} {c : Code} {g : GE} {B : Nat} {h : ST}  {l1 : Int32} {l3 : Int32} {l4 : Int32} (F : Fx p s m args meth c cX11_isAsSeen 5 "DustParishModel" 43 g B)
    {Q : State → Prop} {y : (Int32 × Int32) ⊕ Int32} (hk : ∀ v : (Int32 × Int32), y = Sum.inl v → V p l e 7 0 s m args below meth c Q KM 43 g B 5 0 h 54 [(0, .ref (gA g 0)), (1, .int l1), (2, .int v.1), (3, .int l3), (4, .int v.2)] []) (hx0 : ∀ v : Int32, y = Sum.inr v → V p l e 7 0 s m args below meth c Q KM 43 g B 5 0 h 112 [(0, .ref (gA g 0)), (1, .int l1), (2, .int v), (3, .int l3)] []) (hf : fX11_isAsSeen_100 h l1 l3 l4 = some y) : V p l e 7 0 s m args below meth c Q KM 43 g B 5 0 h 100 [(0, .ref (gA g 0)), (1, .int l1), (3, .int l3), (4, .int l4)] [] := by
  unfold fX11_isAsSeen_100 at hf
  refine v_iconst (pc := 100) (v := 1) F dX11_isAsSeen_100 ic_1 ?_
  refine v_goto (pc := 101) (tgt := 105) F dX11_isAsSeen_101 (by decide) ?_
  exact tX11_isAsSeen_105 F hk hx0 hf
set_option maxRecDepth 100000 in
set_option maxHeartbeats 4000000 in
theorem tX11_isAsSeen_54 {p : Program} {l : Launch} {e : Env} {s : State} {m : MethodId} {args : Array Value} {below : List Frame} {meth : Method} {c : Code} {g : GE} {B : Nat}  {h : ST}  {l1 : Int32} {l3 : Int32} {Q : State → Prop} {x : Int32} {nf : Nat} {s0 : (Int32 × Int32)} (F : Fx p s m args meth c cX11_isAsSeen 5 "DustParishModel" 43 g B) (hX0 : V p l e 7 0 s m args below meth c Q KM 43 g B 5 0 h 112 [(0, .ref (gA g 0)), (1, .int l1), (2, .int x), (3, .int l3)] []) (hl : lp nf (fX11_isAsSeen_54 h l1 l3) s0 = some x) : V p l e 7 0 s m args below meth c Q KM 43 g B 5 0 h 54 [(0, .ref (gA g 0)), (1, .int l1), (2, .int s0.1), (3, .int l3), (4, .int s0.2)] [] := by
  refine lp_ind (P := fun s0 => V p l e 7 0 s m args below meth c Q KM 43 g B 5 0 h 54 [(0, .ref (gA g 0)), (1, .int l1), (2, .int s0.1), (3, .int l3), (4, .int s0.2)] []) ?_ nf s0 hl
  intro s1 y hf hk hx
  have hx0 : ∀ v : Int32, y = Sum.inr v → V p l e 7 0 s m args below meth c Q KM 43 g B 5 0 h 112 [(0, .ref (gA g 0)), (1, .int l1), (2, .int v), (3, .int l3)] [] := fun v e9 => by rw [hx v e9]; exact hX0
  unfold fX11_isAsSeen_54 at hf
  refine v_iload (pc := 54) (j := 4) F dX11_isAsSeen_54 rfl ?_
  refine v_aload_n (pc := 56) (j := 0) F dX11_isAsSeen_56 rfl rfl ?_
  refine v_ifl (pc := 57) F fl_X11_344 dX11_isAsSeen_57 km_0.1 km_0.2 fv_10_37 ?_
  refine v_icmp_ge (pc := 60) (tgt := 112) F dX11_isAsSeen_60 (by decide) (fun c10 => ?_) (fun c10 => ?_)
  · have hf := ite_t hf c10
    refine V.sub (lv' := [(0, .ref (gA g 0)), (1, .int l1), (2, .int s1.1), (3, .int l3)]) [0, 1, 2, 3] rfl ?_
    exact hx0 s1.1 (Option.some.inj hf).symm
  · have hf := ite_f hf c10
    refine v_iload_n (pc := 63) (j := 2) F dX11_isAsSeen_63 rfl rfl ?_
    refine v_if_eq (pc := 64) (tgt := 104) F dX11_isAsSeen_64 (by decide) (fun c11 => ?_) (fun c11 => ?_)
    · have hf := ite_t hf c11
      refine V.sub (lv' := [(0, .ref (gA g 0)), (1, .int l1), (3, .int l3), (4, .int s1.2)]) [0, 1, 3, 4] rfl ?_
      exact tX11_isAsSeen_104 F hk hx0 hf
    · have hf := ite_f hf c11
      refine v_aload_n (pc := 67) (j := 0) F dX11_isAsSeen_67 rfl rfl ?_
      refine v_ifl (pc := 68) F fl_X11_130 dX11_isAsSeen_68 km_0.1 km_0.2 fv_10_50 ?_
      refine v_iload (pc := 71) (j := 4) F dX11_isAsSeen_71 rfl ?_
      obtain ⟨v12, e13, hf⟩ := bnd_some hf
      refine v_iald (pc := 73) F dX11_isAsSeen_73 km_34.1 km_34.2 e13 ?_
      refine v_iload_n (pc := 74) (j := 3) F dX11_isAsSeen_74 rfl rfl ?_
      refine v_icmp_ne (pc := 75) (tgt := 100) F dX11_isAsSeen_75 (by decide) (fun c14 => ?_) (fun c14 => ?_)
      · have hf := ite_f hf c14
        refine V.sub (lv' := [(0, .ref (gA g 0)), (1, .int l1), (3, .int l3), (4, .int s1.2)]) [0, 1, 3, 4] rfl ?_
        exact tX11_isAsSeen_100 F hk hx0 hf
      · have hf := ite_t hf c14
        refine v_aload_n (pc := 78) (j := 0) F dX11_isAsSeen_78 rfl rfl ?_
        refine v_ifl (pc := 79) F fl_X11_87 dX11_isAsSeen_79 km_0.1 km_0.2 fv_10_29 ?_
        refine v_aload_n (pc := 82) (j := 0) F dX11_isAsSeen_82 rfl rfl ?_
        refine v_ifl (pc := 83) F fl_X11_127 dX11_isAsSeen_83 km_0.1 km_0.2 fv_10_49 ?_
        refine v_iload (pc := 86) (j := 4) F dX11_isAsSeen_86 rfl ?_
        obtain ⟨v15, e16, hf⟩ := bnd_some hf
        refine v_iald (pc := 88) F dX11_isAsSeen_88 km_33.1 km_33.2 e16 ?_
        obtain ⟨v17, e18, hf⟩ := bnd_some hf
        refine v_iald (pc := 89) F dX11_isAsSeen_89 km_19.1 km_19.2 e18 ?_
        refine v_aload_n (pc := 90) (j := 0) F dX11_isAsSeen_90 rfl rfl ?_
        refine v_ifl (pc := 91) F fl_X11_133 dX11_isAsSeen_91 km_0.1 km_0.2 fv_10_51 ?_
        refine v_iload (pc := 94) (j := 4) F dX11_isAsSeen_94 rfl ?_
        obtain ⟨v19, e20, hf⟩ := bnd_some hf
        refine v_iald (pc := 96) F dX11_isAsSeen_96 km_35.1 km_35.2 e20 ?_
        refine v_icmp_ne (pc := 97) (tgt := 104) F dX11_isAsSeen_97 (by decide) (fun c21 => ?_) (fun c21 => ?_)
        · have hf := ite_f hf c21
          refine V.sub (lv' := [(0, .ref (gA g 0)), (1, .int l1), (3, .int l3), (4, .int s1.2)]) [0, 1, 3, 4] rfl ?_
          exact tX11_isAsSeen_104 F hk hx0 hf
        · have hf := ite_t hf c21
          refine V.sub (lv' := [(0, .ref (gA g 0)), (1, .int l1), (3, .int l3), (4, .int s1.2)]) [0, 1, 3, 4] rfl ?_
          exact tX11_isAsSeen_100 F hk hx0 hf
set_option maxRecDepth 100000 in
set_option maxHeartbeats 4000000 in
theorem tX11_isAsSeen_42 {p : Program} {l : Launch} {e : Env} {s : State} {m : MethodId} {args : Array Value} {below : List Frame} {meth : Method} {c : Code} {g : GE} {B : Nat}   {l1 : Int32} {Q : State → Prop} {x : (ST × Int32)} {nf : Nat} {s0 : (ST × Int32 × Int32)} (F : Fx p s m args meth c cX11_isAsSeen 5 "DustParishModel" 43 g B) (hX0 : V p l e 7 0 s m args below meth c Q KM 43 g B 5 0 x.1 122 [(0, .ref (gA g 0)), (2, .int x.2)] []) (hl : lp nf (fX11_isAsSeen_42 l1) s0 = some x) : V p l e 7 0 s m args below meth c Q KM 43 g B 5 0 s0.1 42 [(0, .ref (gA g 0)), (1, .int l1), (2, .int s0.2.1), (3, .int s0.2.2)] [] := by
  refine lp_ind (P := fun s0 => V p l e 7 0 s m args below meth c Q KM 43 g B 5 0 s0.1 42 [(0, .ref (gA g 0)), (1, .int l1), (2, .int s0.2.1), (3, .int s0.2.2)] []) ?_ nf s0 hl
  intro s1 y hf hk hx
  have hx0 : ∀ v : (ST × Int32), y = Sum.inr v → V p l e 7 0 s m args below meth c Q KM 43 g B 5 0 v.1 122 [(0, .ref (gA g 0)), (2, .int v.2)] [] := fun v e9 => by rw [hx v e9]; exact hX0
  unfold fX11_isAsSeen_42 at hf
  refine v_iload_n (pc := 42) (j := 3) F dX11_isAsSeen_42 rfl rfl ?_
  refine v_iload_n (pc := 43) (j := 1) F dX11_isAsSeen_43 rfl rfl ?_
  refine v_icmp_gt (pc := 44) (tgt := 122) F dX11_isAsSeen_44 (by decide) (fun c8 => ?_) (fun c8 => ?_)
  · have hf := ite_t hf c8
    refine V.sub (lv' := [(0, .ref (gA g 0)), (2, .int s1.2.1)]) [0, 2] rfl ?_
    exact hx0 (s1.1, s1.2.1) (Option.some.inj hf).symm
  · have hf := ite_f hf c8
    refine v_iload_n (pc := 47) (j := 2) F dX11_isAsSeen_47 rfl rfl ?_
    refine v_if_eq (pc := 48) (tgt := 122) F dX11_isAsSeen_48 (by decide) (fun c9 => ?_) (fun c9 => ?_)
    · have hf := ite_t hf c9
      refine V.sub (lv' := [(0, .ref (gA g 0)), (2, .int s1.2.1)]) [0, 2] rfl ?_
      exact hx0 (s1.1, s1.2.1) (Option.some.inj hf).symm
    · have hf := ite_f hf c9
      refine v_iconst (pc := 51) (v := 0) F dX11_isAsSeen_51 ic_0 ?_
      refine v_istore (pc := 52) (lv' := [(0, .ref (gA g 0)), (1, .int l1), (2, .int s1.2.1), (3, .int s1.2.2), (4, .int 0)]) F dX11_isAsSeen_52 (by decide) rfl ?_
      obtain ⟨x22, e23, hf⟩ := bnd_some hf
      refine tX11_isAsSeen_54 (s0 := (s1.2.1, 0)) F ?_ e23
      refine v_aload_n (pc := 112) (j := 0) F dX11_isAsSeen_112 rfl rfl ?_
      obtain ⟨r24, e25, hf⟩ := bnd_some hf
      refine v_callVv (pc := 113) (As := []) F cl_X11_378 dX11_isAsSeen_113 (kX11_aDay e25) km_0.1 km_0.2 rc_10 rfl rfl (Nat.le_of_ble_eq_true rfl) (by decide) (Nat.zero_le _) ?_
      refine v_iinc (pc := 116) (j := 3) (v := s1.2.2 + 1) (lv' := [(0, .ref (gA g 0)), (1, .int l1), (2, .int x22), (3, .int (s1.2.2 + 1))]) F dX11_isAsSeen_116 rfl (congrArg (fun z => s1.2.2 + z) ic_1) (by decide) rfl ?_
      refine v_goto (pc := 119) (tgt := 42) F dX11_isAsSeen_119 (by decide) ?_
      exact hk (r24, x22, s1.2.2 + 1) (Option.some.inj hf).symm
set_option maxRecDepth 100000 in
set_option maxHeartbeats 4000000 in
theorem tX11_isAsSeen_122 {p : Program} {l : Launch} {e : Env} {s : State} {m : MethodId} {args : Array Value} {below : List Frame} {meth : Method} {c : Code} {g : GE} {B : Nat} {h : ST}  {l2 : Int32} (F : Fx p s m args meth c cX11_isAsSeen 5 "DustParishModel" 43 g B)
    {y : Int32 × ST} (hr : meth.sig.returnType = (some .boolean)) (hf : fX11_isAsSeen_122 h l2 = some y) : V p l e 7 0 s m args below meth c (MQ below (QO KM 43 g (some (.int y.1)) y.2) args s 0 (6 * 0) (WA 43 g)) KM 43 g B 5 0 h 122 [(0, .ref (gA g 0)), (2, .int l2)] [] := by
  unfold fX11_isAsSeen_122 at hf
  refine v_aload_n (pc := 122) (j := 0) F dX11_isAsSeen_122 rfl rfl ?_
  refine v_aload_n (pc := 123) (j := 0) F dX11_isAsSeen_123 rfl rfl ?_
  refine v_ifl (pc := 124) F fl_X11_136 dX11_isAsSeen_124 km_0.1 km_0.2 fv_10_52 ?_
  refine v_iconst (pc := 127) (v := 0) F dX11_isAsSeen_127 ic_0 ?_
  obtain ⟨r28, e29, hf⟩ := bnd_some hf
  refine v_callVv (pc := 128) (As := [.ref (gA g 36), .int 0]) F cl_X11_430 dX11_isAsSeen_128 (kX11_unpack km_36.1 km_36.2 e29) km_0.1 km_0.2 rc_10 rfl rfl (Nat.le_of_ble_eq_true rfl) (by decide) (Nat.zero_le _) ?_
  refine v_iload_n (pc := 131) (j := 1) F dX11_isAsSeen_131 rfl rfl ?_
  obtain ⟨z30, e31, hf⟩ := bnd_some hf
  exact v_zret (pc := 132) F hr dX11_isAsSeen_132 (zb_in e31).2 ((zb_in e31).1.symm.trans (some_fst hf)) (some_snd hf) (Nat.zero_le _)
set_option maxRecDepth 100000 in
set_option maxHeartbeats 4000000 in
theorem kX11_isAsSeen {l : Launch} {g : GE} {B : Nat} {h : ST} {y : Int32 × ST} (hf : fX11_isAsSeen h = some y) : CT l yX11_isAsSeen cX11_isAsSeen 5 (some .boolean) 7 KM 43 g B [.ref (gA g 0)] h (some (.int y.1)) y.2 := by
  refine CT.of pn_X11 (Nat.le_of_ble_eq_true rfl) ?_
  intro p e s m below meth c hr F
  have F : Fx p s m _ meth c cX11_isAsSeen 5 "DustParishModel" 43 g B := F
  refine V_lv (lv' := [(0, .ref (gA g 0))]) rfl ?_
  unfold fX11_isAsSeen at hf
  refine v_aload_n (pc := 0) (j := 0) F dX11_isAsSeen_0 rfl rfl ?_
  refine v_aload_n (pc := 1) (j := 0) F dX11_isAsSeen_1 rfl rfl ?_
  refine v_ifl (pc := 2) F fl_X11_136 dX11_isAsSeen_2 km_0.1 km_0.2 fv_10_52 ?_
  refine v_iconst (pc := 5) (v := 0) F dX11_isAsSeen_5 ic_0 ?_
  obtain ⟨r1, e2, hf⟩ := bnd_some hf
  refine v_callVv (pc := 6) (As := [.ref (gA g 36), .int 0]) F cl_X11_403 dX11_isAsSeen_6 (kX11_pack km_36.1 km_36.2 e2) km_0.1 km_0.2 rc_10 rfl rfl (Nat.le_of_ble_eq_true rfl) (by decide) (Nat.zero_le _) ?_
  refine v_iconst (pc := 9) (v := 0) F dX11_isAsSeen_9 ic_0 ?_
  refine v_istore_n (pc := 10) (lv' := [(0, .ref (gA g 0)), (1, .int 0)]) F dX11_isAsSeen_10 rfl (by decide) rfl ?_
  refine v_iconst (pc := 11) (v := 0) F dX11_isAsSeen_11 ic_0 ?_
  refine v_istore_n (pc := 12) (lv' := [(0, .ref (gA g 0)), (1, .int 0), (2, .int 0)]) F dX11_isAsSeen_12 rfl (by decide) rfl ?_
  obtain ⟨x6, e7, hf⟩ := bnd_some hf
  refine tX11_isAsSeen_13 (s0 := (0, 0)) F ?_ e7
  refine v_iconst (pc := 38) (v := 1) F dX11_isAsSeen_38 ic_1 ?_
  refine v_istore_n (pc := 39) (lv' := [(0, .ref (gA g 0)), (1, .int x6), (2, .int 1)]) F dX11_isAsSeen_39 rfl (by decide) rfl ?_
  refine v_iconst (pc := 40) (v := 0) F dX11_isAsSeen_40 ic_0 ?_
  refine v_istore_n (pc := 41) (lv' := [(0, .ref (gA g 0)), (1, .int x6), (2, .int 1), (3, .int 0)]) F dX11_isAsSeen_41 rfl (by decide) rfl ?_
  obtain ⟨x26, e27, hf⟩ := bnd_some hf
  refine tX11_isAsSeen_42 (s0 := (r1, 1, 0)) F ?_ e27
  exact tX11_isAsSeen_122 F hr hf
def fX11_hand_140 (h : ST) (l1 : Int32) (l2 : Int32) (l3 : Int32) (l4 : Int32) (l5 : Int32) : Option ((ST × Int32 × Int32 × Int32) ⊕ (ST × Int32 × Int32)) :=
  some (.inl (h, l2, l3, l5 + 1))
def fX11_hand_139 (h : ST) (l1 : Int32) (l2 : Int32) (l4 : Int32) (l5 : Int32) (q0 : Int32) : Option ((ST × Int32 × Int32 × Int32) ⊕ (ST × Int32 × Int32)) :=
  fX11_hand_140 h l1 l2 q0 l4 l5
def fX11_hand_62 (l1 : Int32) (l4 : Int32) (s1 : (ST × Int32 × Int32 × Int32)) : Option ((ST × Int32 × Int32 × Int32) ⊕ (ST × Int32 × Int32)) :=
  if 99 < s1.2.2.2 then
  some (.inr (s1.1, s1.2.1, s1.2.2.1))
  else
  bnd (rd 9 (s1.1 19) l4) fun v11 =>
    if v11 < s1.2.2.2 then
    some (.inr (s1.1, s1.2.1, s1.2.2.1))
    else
    bnd (rd 9 (s1.1 19) l4) fun v14 =>
      bnd (wr 9 s1.1 19 l4 (v14 - s1.2.2.2)) fun h16 =>
      bnd (fX11_isAsSeen h16) fun r18 =>
      bnd (rd 9 (r18.2 19) l4) fun v20 =>
      bnd (wr 9 r18.2 19 l4 (v20 + s1.2.2.2)) fun h22 =>
      if r18.1 = 0 then
      fX11_hand_140 h22 l1 s1.2.1 s1.2.2.1 l4 s1.2.2.2
      else
      if s1.2.2.1 = (-1) then
        fX11_hand_139 h22 l1 (s1.2.1 + 1) l4 s1.2.2.2 ((100 * l4) + s1.2.2.2)
        else
        fX11_hand_139 h22 l1 (s1.2.1 + 1) l4 s1.2.2.2 s1.2.2.1
def fX11_hand_146 (h : ST) (l1 : Int32) (l2 : Int32) (l3 : Int32) (l4 : Int32) : Option ((ST × Int32 × Int32 × Int32) ⊕ (ST × Int32 × Int32)) :=
  some (.inl (h, l2, l3, l4 + 1))
def fX11_hand_48 (l1 : Int32) (s1 : (ST × Int32 × Int32 × Int32)) : Option ((ST × Int32 × Int32 × Int32) ⊕ (ST × Int32 × Int32)) :=
  bnd (rd 14 (s1.1 3) 0) fun v7 =>
  if v7 ≤ s1.2.2.2 then
  some (.inr (s1.1, s1.2.1, s1.2.2.1))
  else
  bnd (lp FU (fX11_hand_62 l1 s1.2.2.2) (s1.1, s1.2.1, s1.2.2.1, 1)) fun x26 =>
    fX11_hand_146 x26.1 l1 x26.2.1 x26.2.2 s1.2.2.2
def fX11_hand_161 (h : ST) (q0 : Int32) : Option (Int32 × ST) :=
  some (q0, h)
def fX11_hand_40 (h : ST) (q0 : Int32) : Option (Int32 × ST) :=
  some (q0, h)
def fX11_hand (h : ST) (a1 : Int32) : Option (Int32 × ST) :=
  bnd (pw h 0 2 0) fun h1 =>
  bnd (fX11_isIn h1 a1.toInt64 (0 : Int64) (2 : Int64)) fun r3 =>
  if r3 = 0 then
  bnd (fX11_fail h1 1) fun r34 =>
    some (r34.1, r34.2)
  else
  if a1 = 2 then
    bnd (fX11_isAsSeen h1) fun r31 =>
      if r31.1 = 0 then
      fX11_hand_40 r31.2 0
      else
      fX11_hand_40 r31.2 1
    else
    bnd (lp FU (fX11_hand_48 a1) (h1, 0, (-1), 0)) fun x28 =>
      if a1 = 0 then
      fX11_hand_161 x28.1 x28.2.1
      else
      fX11_hand_161 x28.1 x28.2.2
set_option maxRecDepth 100000 in
set_option maxHeartbeats 4000000 in
theorem tX11_hand_140 {p : Program} {l : Launch} {e : Env} {s : State} {m : MethodId} {args : Array Value} {below : List Frame} {meth : Method} {c : Code} {g : GE} {B : Nat} {h : ST}  {l1 : Int32} {l2 : Int32} {l3 : Int32} {l4 : Int32} {l5 : Int32} (F : Fx p s m args meth c cX11_hand 7 "DustParishModel" 43 g B)
    {Q : State → Prop} {y : (ST × Int32 × Int32 × Int32) ⊕ (ST × Int32 × Int32)} (hk : ∀ v : (ST × Int32 × Int32 × Int32), y = Sum.inl v → V p l e 8 0 s m args below meth c Q KM 43 g B 7 0 v.1 62 [(0, .ref (gA g 0)), (1, .int l1), (2, .int v.2.1), (3, .int v.2.2.1), (4, .int l4), (5, .int v.2.2.2)] []) (hx0 : ∀ v : (ST × Int32 × Int32), y = Sum.inr v → V p l e 8 0 s m args below meth c Q KM 43 g B 7 0 v.1 146 [(0, .ref (gA g 0)), (1, .int l1), (2, .int v.2.1), (3, .int v.2.2), (4, .int l4)] []) (hf : fX11_hand_140 h l1 l2 l3 l4 l5 = some y) : V p l e 8 0 s m args below meth c Q KM 43 g B 7 0 h 140 [(0, .ref (gA g 0)), (1, .int l1), (2, .int l2), (3, .int l3), (4, .int l4), (5, .int l5)] [] := by
  unfold fX11_hand_140 at hf
  refine v_iinc (pc := 140) (j := 5) (v := l5 + 1) (lv' := [(0, .ref (gA g 0)), (1, .int l1), (2, .int l2), (3, .int l3), (4, .int l4), (5, .int (l5 + 1))]) F dX11_hand_140 rfl (congrArg (fun z => l5 + z) ic_1) (by decide) rfl ?_
  refine v_goto (pc := 143) (tgt := 62) F dX11_hand_143 (by decide) ?_
  exact hk (h, l2, l3, l5 + 1) (Option.some.inj hf).symm
set_option maxRecDepth 100000 in
set_option maxHeartbeats 4000000 in
theorem tX11_hand_139 {p : Program} {l : Launch} {e : Env} {s : State} {m : MethodId} {args : Array Value} {below : List Frame} {meth : Method} {c : Code} {g : GE} {B : Nat} {h : ST}  {l1 : Int32} {l2 : Int32} {l4 : Int32} {l5 : Int32} {q0 : Int32} (F : Fx p s m args meth c cX11_hand 7 "DustParishModel" 43 g B)
    {Q : State → Prop} {y : (ST × Int32 × Int32 × Int32) ⊕ (ST × Int32 × Int32)} (hk : ∀ v : (ST × Int32 × Int32 × Int32), y = Sum.inl v → V p l e 8 0 s m args below meth c Q KM 43 g B 7 0 v.1 62 [(0, .ref (gA g 0)), (1, .int l1), (2, .int v.2.1), (3, .int v.2.2.1), (4, .int l4), (5, .int v.2.2.2)] []) (hx0 : ∀ v : (ST × Int32 × Int32), y = Sum.inr v → V p l e 8 0 s m args below meth c Q KM 43 g B 7 0 v.1 146 [(0, .ref (gA g 0)), (1, .int l1), (2, .int v.2.1), (3, .int v.2.2), (4, .int l4)] []) (hf : fX11_hand_139 h l1 l2 l4 l5 q0 = some y) : V p l e 8 0 s m args below meth c Q KM 43 g B 7 0 h 139 [(0, .ref (gA g 0)), (1, .int l1), (2, .int l2), (4, .int l4), (5, .int l5)] [.int q0] := by
  unfold fX11_hand_139 at hf
  refine v_istore_n (pc := 139) (lv' := [(0, .ref (gA g 0)), (1, .int l1), (2, .int l2), (3, .int q0), (4, .int l4), (5, .int l5)]) F dX11_hand_139 rfl (by decide) rfl ?_
  exact tX11_hand_140 F hk hx0 hf
set_option maxRecDepth 100000 in
set_option maxHeartbeats 4000000 in
theorem tX11_hand_62 {p : Program} {l : Launch} {e : Env} {s : State} {m : MethodId} {args : Array Value} {below : List Frame} {meth : Method} {c : Code} {g : GE} {B : Nat}   {l1 : Int32} {l4 : Int32} {Q : State → Prop} {x : (ST × Int32 × Int32)} {nf : Nat} {s0 : (ST × Int32 × Int32 × Int32)} (F : Fx p s m args meth c cX11_hand 7 "DustParishModel" 43 g B) (hX0 : V p l e 8 0 s m args below meth c Q KM 43 g B 7 0 x.1 146 [(0, .ref (gA g 0)), (1, .int l1), (2, .int x.2.1), (3, .int x.2.2), (4, .int l4)] []) (hl : lp nf (fX11_hand_62 l1 l4) s0 = some x) : V p l e 8 0 s m args below meth c Q KM 43 g B 7 0 s0.1 62 [(0, .ref (gA g 0)), (1, .int l1), (2, .int s0.2.1), (3, .int s0.2.2.1), (4, .int l4), (5, .int s0.2.2.2)] [] := by
  refine lp_ind (P := fun s0 => V p l e 8 0 s m args below meth c Q KM 43 g B 7 0 s0.1 62 [(0, .ref (gA g 0)), (1, .int l1), (2, .int s0.2.1), (3, .int s0.2.2.1), (4, .int l4), (5, .int s0.2.2.2)] []) ?_ nf s0 hl
  intro s1 y hf hk hx
  have hx0 : ∀ v : (ST × Int32 × Int32), y = Sum.inr v → V p l e 8 0 s m args below meth c Q KM 43 g B 7 0 v.1 146 [(0, .ref (gA g 0)), (1, .int l1), (2, .int v.2.1), (3, .int v.2.2), (4, .int l4)] [] := fun v e9 => by rw [hx v e9]; exact hX0
  unfold fX11_hand_62 at hf
  refine v_iload (pc := 62) (j := 5) F dX11_hand_62 rfl ?_
  refine v_bipush (pc := 64) (v := 99) F dX11_hand_64 bp_99 ?_
  refine v_icmp_gt (pc := 66) (tgt := 146) F dX11_hand_66 (by decide) (fun c10 => ?_) (fun c10 => ?_)
  · have hf := ite_t hf c10
    refine V.sub (lv' := [(0, .ref (gA g 0)), (1, .int l1), (2, .int s1.2.1), (3, .int s1.2.2.1), (4, .int l4)]) [0, 1, 2, 3, 4] rfl ?_
    exact hx0 (s1.1, s1.2.1, s1.2.2.1) (Option.some.inj hf).symm
  · have hf := ite_f hf c10
    refine v_iload (pc := 69) (j := 5) F dX11_hand_69 rfl ?_
    refine v_aload_n (pc := 71) (j := 0) F dX11_hand_71 rfl rfl ?_
    refine v_ifl (pc := 72) F fl_X11_87 dX11_hand_72 km_0.1 km_0.2 fv_10_29 ?_
    refine v_iload (pc := 75) (j := 4) F dX11_hand_75 rfl ?_
    obtain ⟨v11, e12, hf⟩ := bnd_some hf
    refine v_iald (pc := 77) F dX11_hand_77 km_19.1 km_19.2 e12 ?_
    refine v_icmp_gt (pc := 78) (tgt := 146) F dX11_hand_78 (by decide) (fun c13 => ?_) (fun c13 => ?_)
    · have hf := ite_t hf c13
      refine V.sub (lv' := [(0, .ref (gA g 0)), (1, .int l1), (2, .int s1.2.1), (3, .int s1.2.2.1), (4, .int l4)]) [0, 1, 2, 3, 4] rfl ?_
      exact hx0 (s1.1, s1.2.1, s1.2.2.1) (Option.some.inj hf).symm
    · have hf := ite_f hf c13
      refine v_aload_n (pc := 81) (j := 0) F dX11_hand_81 rfl rfl ?_
      refine v_ifl (pc := 82) F fl_X11_87 dX11_hand_82 km_0.1 km_0.2 fv_10_29 ?_
      refine v_iload (pc := 85) (j := 4) F dX11_hand_85 rfl ?_
      refine v_dup2_11 (pc := 87) F dX11_hand_87 rfl rfl ?_
      obtain ⟨v14, e15, hf⟩ := bnd_some hf
      refine v_iald (pc := 88) F dX11_hand_88 km_19.1 km_19.2 e15 ?_
      refine v_iload (pc := 89) (j := 5) F dX11_hand_89 rfl ?_
      refine v_isub (pc := 91) F dX11_hand_91 ?_
      obtain ⟨h16, e17, hf⟩ := bnd_some hf
      refine v_iast (pc := 92) F dX11_hand_92 km_19.1 km_19.2 e17 ?_
      refine v_aload_n (pc := 93) (j := 0) F dX11_hand_93 rfl rfl ?_
      obtain ⟨r18, e19, hf⟩ := bnd_some hf
      refine v_callVi (pc := 94) (As := []) F cl_X11_463 dX11_hand_94 (kX11_isAsSeen e19) km_0.1 km_0.2 rc_10 rfl rfl (Nat.le_of_ble_eq_true rfl) (by decide) (Nat.zero_le _) ?_
      refine v_istore (pc := 97) (lv' := [(0, .ref (gA g 0)), (1, .int l1), (2, .int s1.2.1), (3, .int s1.2.2.1), (4, .int l4), (5, .int s1.2.2.2), (6, .int r18.1)]) F dX11_hand_97 (by decide) rfl ?_
      refine v_aload_n (pc := 99) (j := 0) F dX11_hand_99 rfl rfl ?_
      refine v_ifl (pc := 100) F fl_X11_87 dX11_hand_100 km_0.1 km_0.2 fv_10_29 ?_
      refine v_iload (pc := 103) (j := 4) F dX11_hand_103 rfl ?_
      refine v_dup2_11 (pc := 105) F dX11_hand_105 rfl rfl ?_
      obtain ⟨v20, e21, hf⟩ := bnd_some hf
      refine v_iald (pc := 106) F dX11_hand_106 km_19.1 km_19.2 e21 ?_
      refine v_iload (pc := 107) (j := 5) F dX11_hand_107 rfl ?_
      refine v_iadd (pc := 109) F dX11_hand_109 ?_
      obtain ⟨h22, e23, hf⟩ := bnd_some hf
      refine v_iast (pc := 110) F dX11_hand_110 km_19.1 km_19.2 e23 ?_
      refine v_iload (pc := 111) (j := 6) F dX11_hand_111 rfl ?_
      refine v_if_ne (pc := 113) (tgt := 119) F dX11_hand_113 (by decide) (fun c24 => ?_) (fun c24 => ?_)
      · have hf := ite_f hf c24
        refine v_iinc (pc := 119) (j := 2) (v := s1.2.1 + 1) (lv' := [(0, .ref (gA g 0)), (1, .int l1), (2, .int (s1.2.1 + 1)), (3, .int s1.2.2.1), (4, .int l4), (5, .int s1.2.2.2), (6, .int r18.1)]) F dX11_hand_119 rfl (congrArg (fun z => s1.2.1 + z) ic_1) (by decide) rfl ?_
        refine v_iload_n (pc := 122) (j := 3) F dX11_hand_122 rfl rfl ?_
        refine v_iconst (pc := 123) (v := (-1)) F dX11_hand_123 ic_m1 ?_
        refine v_icmp_ne (pc := 124) (tgt := 138) F dX11_hand_124 (by decide) (fun c25 => ?_) (fun c25 => ?_)
        · have hf := ite_f hf c25
          refine v_iload_n (pc := 138) (j := 3) F dX11_hand_138 rfl rfl ?_
          refine V.sub (lv' := [(0, .ref (gA g 0)), (1, .int l1), (2, .int (s1.2.1 + 1)), (4, .int l4), (5, .int s1.2.2.2)]) [0, 1, 2, 4, 5] rfl ?_
          exact tX11_hand_139 F hk hx0 hf
        · have hf := ite_t hf c25
          refine v_bipush (pc := 127) (v := 100) F dX11_hand_127 bp_100 ?_
          refine v_iload (pc := 129) (j := 4) F dX11_hand_129 rfl ?_
          refine v_imul (pc := 131) F dX11_hand_131 ?_
          refine v_iload (pc := 132) (j := 5) F dX11_hand_132 rfl ?_
          refine v_iadd (pc := 134) F dX11_hand_134 ?_
          refine v_goto (pc := 135) (tgt := 139) F dX11_hand_135 (by decide) ?_
          refine V.sub (lv' := [(0, .ref (gA g 0)), (1, .int l1), (2, .int (s1.2.1 + 1)), (4, .int l4), (5, .int s1.2.2.2)]) [0, 1, 2, 4, 5] rfl ?_
          exact tX11_hand_139 F hk hx0 hf
      · have hf := ite_t hf c24
        refine v_goto (pc := 116) (tgt := 140) F dX11_hand_116 (by decide) ?_
        refine V.sub (lv' := [(0, .ref (gA g 0)), (1, .int l1), (2, .int s1.2.1), (3, .int s1.2.2.1), (4, .int l4), (5, .int s1.2.2.2)]) [0, 1, 2, 3, 4, 5] rfl ?_
        exact tX11_hand_140 F hk hx0 hf
set_option maxRecDepth 100000 in
set_option maxHeartbeats 4000000 in
theorem tX11_hand_146 {p : Program} {l : Launch} {e : Env} {s : State} {m : MethodId} {args : Array Value} {below : List Frame} {meth : Method} {c : Code} {g : GE} {B : Nat} {h : ST}  {l1 : Int32} {l2 : Int32} {l3 : Int32} {l4 : Int32} (F : Fx p s m args meth c cX11_hand 7 "DustParishModel" 43 g B)
    {Q : State → Prop} {y : (ST × Int32 × Int32 × Int32) ⊕ (ST × Int32 × Int32)} (hk : ∀ v : (ST × Int32 × Int32 × Int32), y = Sum.inl v → V p l e 8 0 s m args below meth c Q KM 43 g B 7 0 v.1 48 [(0, .ref (gA g 0)), (1, .int l1), (2, .int v.2.1), (3, .int v.2.2.1), (4, .int v.2.2.2)] []) (hx0 : ∀ v : (ST × Int32 × Int32), y = Sum.inr v → V p l e 8 0 s m args below meth c Q KM 43 g B 7 0 v.1 152 [(1, .int l1), (2, .int v.2.1), (3, .int v.2.2)] []) (hf : fX11_hand_146 h l1 l2 l3 l4 = some y) : V p l e 8 0 s m args below meth c Q KM 43 g B 7 0 h 146 [(0, .ref (gA g 0)), (1, .int l1), (2, .int l2), (3, .int l3), (4, .int l4)] [] := by
  unfold fX11_hand_146 at hf
  refine v_iinc (pc := 146) (j := 4) (v := l4 + 1) (lv' := [(0, .ref (gA g 0)), (1, .int l1), (2, .int l2), (3, .int l3), (4, .int (l4 + 1))]) F dX11_hand_146 rfl (congrArg (fun z => l4 + z) ic_1) (by decide) rfl ?_
  refine v_goto (pc := 149) (tgt := 48) F dX11_hand_149 (by decide) ?_
  exact hk (h, l2, l3, l4 + 1) (Option.some.inj hf).symm
set_option maxRecDepth 100000 in
set_option maxHeartbeats 4000000 in
theorem tX11_hand_48 {p : Program} {l : Launch} {e : Env} {s : State} {m : MethodId} {args : Array Value} {below : List Frame} {meth : Method} {c : Code} {g : GE} {B : Nat}   {l1 : Int32} {Q : State → Prop} {x : (ST × Int32 × Int32)} {nf : Nat} {s0 : (ST × Int32 × Int32 × Int32)} (F : Fx p s m args meth c cX11_hand 7 "DustParishModel" 43 g B) (hX0 : V p l e 8 0 s m args below meth c Q KM 43 g B 7 0 x.1 152 [(1, .int l1), (2, .int x.2.1), (3, .int x.2.2)] []) (hl : lp nf (fX11_hand_48 l1) s0 = some x) : V p l e 8 0 s m args below meth c Q KM 43 g B 7 0 s0.1 48 [(0, .ref (gA g 0)), (1, .int l1), (2, .int s0.2.1), (3, .int s0.2.2.1), (4, .int s0.2.2.2)] [] := by
  refine lp_ind (P := fun s0 => V p l e 8 0 s m args below meth c Q KM 43 g B 7 0 s0.1 48 [(0, .ref (gA g 0)), (1, .int l1), (2, .int s0.2.1), (3, .int s0.2.2.1), (4, .int s0.2.2.2)] []) ?_ nf s0 hl
  intro s1 y hf hk hx
  have hx0 : ∀ v : (ST × Int32 × Int32), y = Sum.inr v → V p l e 8 0 s m args below meth c Q KM 43 g B 7 0 v.1 152 [(1, .int l1), (2, .int v.2.1), (3, .int v.2.2)] [] := fun v e9 => by rw [hx v e9]; exact hX0
  unfold fX11_hand_48 at hf
  refine v_iload (pc := 48) (j := 4) F dX11_hand_48 rfl ?_
  refine v_aload_n (pc := 50) (j := 0) F dX11_hand_50 rfl rfl ?_
  refine v_ifl (pc := 51) F fl_X11_36 dX11_hand_51 km_0.1 km_0.2 fv_10_3 ?_
  refine v_iconst (pc := 54) (v := 0) F dX11_hand_54 ic_0 ?_
  obtain ⟨v7, e8, hf⟩ := bnd_some hf
  refine v_iald (pc := 55) F dX11_hand_55 km_3.1 km_3.2 e8 ?_
  refine v_icmp_ge (pc := 56) (tgt := 152) F dX11_hand_56 (by decide) (fun c9 => ?_) (fun c9 => ?_)
  · have hf := ite_t hf c9
    refine V.sub (lv' := [(1, .int l1), (2, .int s1.2.1), (3, .int s1.2.2.1)]) [1, 2, 3] rfl ?_
    exact hx0 (s1.1, s1.2.1, s1.2.2.1) (Option.some.inj hf).symm
  · have hf := ite_f hf c9
    refine v_iconst (pc := 59) (v := 1) F dX11_hand_59 ic_1 ?_
    refine v_istore (pc := 60) (lv' := [(0, .ref (gA g 0)), (1, .int l1), (2, .int s1.2.1), (3, .int s1.2.2.1), (4, .int s1.2.2.2), (5, .int 1)]) F dX11_hand_60 (by decide) rfl ?_
    obtain ⟨x26, e27, hf⟩ := bnd_some hf
    refine tX11_hand_62 (s0 := (s1.1, s1.2.1, s1.2.2.1, 1)) F ?_ e27
    exact tX11_hand_146 F hk hx0 hf
set_option maxRecDepth 100000 in
set_option maxHeartbeats 4000000 in
theorem tX11_hand_161 {p : Program} {l : Launch} {e : Env} {s : State} {m : MethodId} {args : Array Value} {below : List Frame} {meth : Method} {c : Code} {g : GE} {B : Nat} {h : ST}  {q0 : Int32} (F : Fx p s m args meth c cX11_hand 7 "DustParishModel" 43 g B)
    {y : Int32 × ST} (hr : meth.sig.returnType = (some .int)) (hf : fX11_hand_161 h q0 = some y) : V p l e 8 0 s m args below meth c (MQ below (QO KM 43 g (some (.int y.1)) y.2) args s 0 (6 * 0) (WA 43 g)) KM 43 g B 7 0 h 161 [] [.int q0] := by
  unfold fX11_hand_161 at hf
  exact v_iret (pc := 161) F hr dX11_hand_161 (some_fst hf) (some_snd hf) (Nat.zero_le _)
set_option maxRecDepth 100000 in
set_option maxHeartbeats 4000000 in
theorem tX11_hand_40 {p : Program} {l : Launch} {e : Env} {s : State} {m : MethodId} {args : Array Value} {below : List Frame} {meth : Method} {c : Code} {g : GE} {B : Nat} {h : ST}  {q0 : Int32} (F : Fx p s m args meth c cX11_hand 7 "DustParishModel" 43 g B)
    {y : Int32 × ST} (hr : meth.sig.returnType = (some .int)) (hf : fX11_hand_40 h q0 = some y) : V p l e 8 0 s m args below meth c (MQ below (QO KM 43 g (some (.int y.1)) y.2) args s 0 (6 * 0) (WA 43 g)) KM 43 g B 7 0 h 40 [] [.int q0] := by
  unfold fX11_hand_40 at hf
  exact v_iret (pc := 40) F hr dX11_hand_40 (some_fst hf) (some_snd hf) (Nat.zero_le _)
set_option maxRecDepth 100000 in
set_option maxHeartbeats 4000000 in
theorem kX11_hand {l : Launch} {g : GE} {B : Nat} {h : ST} {a1 : Int32} {y : Int32 × ST} (hf : fX11_hand h a1 = some y) : CT l yX11_hand cX11_hand 7 (some .int) 8 KM 43 g B [.ref (gA g 0), .int a1] h (some (.int y.1)) y.2 := by
  refine CT.of pn_X11 (Nat.le_of_ble_eq_true rfl) ?_
  intro p e s m below meth c hr F
  have F : Fx p s m _ meth c cX11_hand 7 "DustParishModel" 43 g B := F
  refine V_lv (lv' := [(0, .ref (gA g 0)), (1, .int a1)]) rfl ?_
  unfold fX11_hand at hf
  refine v_aload_n (pc := 0) (j := 0) F dX11_hand_0 rfl rfl ?_
  refine v_iconst (pc := 1) (v := 0) F dX11_hand_1 ic_0 ?_
  obtain ⟨h1, e2, hf⟩ := bnd_some hf
  refine v_pfl (pc := 2) F fl_X11_157 pl_10_2 dX11_hand_2 km_0.1 km_0.2 fv_10_2 rfl rfl e2 ?_
  refine v_iload_n (pc := 5) (j := 1) F dX11_hand_5 rfl rfl ?_
  refine v_i2l (pc := 6) F dX11_hand_6 rfl ?_
  refine v_lconst (pc := 7) (v := 0) F dX11_hand_7 rfl ?_
  refine v_ldc2 (pc := 8) F tw_1668 dX11_hand_8 ?_
  obtain ⟨r3, e4, hf⟩ := bnd_some hf
  refine v_callSi (pc := 11) (As := [.long a1.toInt64, .long (0 : Int64), .long (2 : Int64)]) F cl_X11_160 dX11_hand_11 (kX11_isIn e4) rfl rfl (Nat.le_of_ble_eq_true rfl) (by decide) (Nat.zero_le _) ?_
  refine v_if_ne (pc := 14) (tgt := 23) F dX11_hand_14 (by decide) (fun c5 => ?_) (fun c5 => ?_)
  · have hf := ite_f hf c5
    refine v_iload_n (pc := 23) (j := 1) F dX11_hand_23 rfl rfl ?_
    refine v_iconst (pc := 24) (v := 2) F dX11_hand_24 ic_2 ?_
    refine v_icmp_ne (pc := 25) (tgt := 41) F dX11_hand_25 (by decide) (fun c6 => ?_) (fun c6 => ?_)
    · have hf := ite_f hf c6
      refine v_iconst (pc := 41) (v := 0) F dX11_hand_41 ic_0 ?_
      refine v_istore_n (pc := 42) (lv' := [(0, .ref (gA g 0)), (1, .int a1), (2, .int 0)]) F dX11_hand_42 rfl (by decide) rfl ?_
      refine v_iconst (pc := 43) (v := (-1)) F dX11_hand_43 ic_m1 ?_
      refine v_istore_n (pc := 44) (lv' := [(0, .ref (gA g 0)), (1, .int a1), (2, .int 0), (3, .int (-1))]) F dX11_hand_44 rfl (by decide) rfl ?_
      refine v_iconst (pc := 45) (v := 0) F dX11_hand_45 ic_0 ?_
      refine v_istore (pc := 46) (lv' := [(0, .ref (gA g 0)), (1, .int a1), (2, .int 0), (3, .int (-1)), (4, .int 0)]) F dX11_hand_46 (by decide) rfl ?_
      obtain ⟨x28, e29, hf⟩ := bnd_some hf
      refine tX11_hand_48 (s0 := (h1, 0, (-1), 0)) F ?_ e29
      refine v_iload_n (pc := 152) (j := 0) F dX11_hand_152 rfl rfl ?_
      refine v_if_ne (pc := 153) (tgt := 160) F dX11_hand_153 (by decide) (fun c30 => ?_) (fun c30 => ?_)
      · have hf := ite_f hf c30
        refine v_iload_n (pc := 160) (j := 2) F dX11_hand_160 rfl rfl ?_
        refine V.sub (lv' := []) [] rfl ?_
        exact tX11_hand_161 F hr hf
      · have hf := ite_t hf c30
        refine v_iload_n (pc := 156) (j := 1) F dX11_hand_156 rfl rfl ?_
        refine v_goto (pc := 157) (tgt := 161) F dX11_hand_157 (by decide) ?_
        refine V.sub (lv' := []) [] rfl ?_
        exact tX11_hand_161 F hr hf
    · have hf := ite_t hf c6
      refine v_aload_n (pc := 28) (j := 0) F dX11_hand_28 rfl rfl ?_
      obtain ⟨r31, e32, hf⟩ := bnd_some hf
      refine v_callVi (pc := 29) (As := []) F cl_X11_463 dX11_hand_29 (kX11_isAsSeen e32) km_0.1 km_0.2 rc_10 rfl rfl (Nat.le_of_ble_eq_true rfl) (by decide) (Nat.zero_le _) ?_
      refine v_if_eq (pc := 32) (tgt := 39) F dX11_hand_32 (by decide) (fun c33 => ?_) (fun c33 => ?_)
      · have hf := ite_t hf c33
        refine v_iconst (pc := 39) (v := 0) F dX11_hand_39 ic_0 ?_
        refine V.sub (lv' := []) [] rfl ?_
        exact tX11_hand_40 F hr hf
      · have hf := ite_f hf c33
        refine v_iconst (pc := 35) (v := 1) F dX11_hand_35 ic_1 ?_
        refine v_goto (pc := 36) (tgt := 40) F dX11_hand_36 (by decide) ?_
        refine V.sub (lv' := []) [] rfl ?_
        exact tX11_hand_40 F hr hf
  · have hf := ite_t hf c5
    refine v_aload_n (pc := 17) (j := 0) F dX11_hand_17 rfl rfl ?_
    refine v_iconst (pc := 18) (v := 1) F dX11_hand_18 ic_1 ?_
    obtain ⟨r34, e35, hf⟩ := bnd_some hf
    refine v_callVi (pc := 19) (As := [.int 1]) F cl_X11_320 dX11_hand_19 (kX11_fail e35) km_0.1 km_0.2 rc_10 rfl rfl (Nat.le_of_ble_eq_true rfl) (by decide) (Nat.zero_le _) ?_
    exact v_iret (pc := 22) F hr dX11_hand_22 (some_fst hf) (some_snd hf) (Nat.zero_le _)
def fX11_hasDoor_54 (h : ST) (l1 : Int32) (l2 : Int32) (l3 : Int32) : Option (Int32 ⊕ (Unit ⊕ Unit)) :=
  some (.inl (l3 + 1))
def fX11_hasDoor_32 (h : ST) (l1 : Int32) (l2 : Int32) (l3 : Int32) : Option (Int32 ⊕ (Unit ⊕ Unit)) :=
  bnd (rd 28 (h 8) l3) fun v7 =>
  if v7 = l2 then
  bnd (rd 28 (h 9) l3) fun v10 =>
    if v10 = l1 then
    some (.inr (.inl ()))
    else
    fX11_hasDoor_54 h l1 l2 l3
  else
  fX11_hasDoor_54 h l1 l2 l3
def fX11_hasDoor_2 (h : ST) (l1 : Int32) (l2 : Int32) (s1 : Int32) : Option (Int32 ⊕ (Unit ⊕ Unit)) :=
  bnd (rd 14 (h 3) 1) fun v1 =>
  if v1 ≤ s1 then
  some (.inr (.inr ()))
  else
  bnd (rd 28 (h 8) s1) fun v4 =>
    if v4 = l1 then
    bnd (rd 28 (h 9) s1) fun v13 =>
      if v13 = l2 then
      some (.inr (.inl ()))
      else
      fX11_hasDoor_32 h l1 l2 s1
    else
    fX11_hasDoor_32 h l1 l2 s1
def fX11_hasDoor_52 (h : ST)  : Option (Int32) :=
  some 1
def fX11_hasDoor (h : ST) (a1 : Int32) (a2 : Int32) : Option (Int32) :=
  bnd (lp FU (fX11_hasDoor_2 h a1 a2) 0) fun x16 =>
  sm x16 (fun v => fX11_hasDoor_52 h ) (fun v => some 0)
set_option maxRecDepth 100000 in
set_option maxHeartbeats 4000000 in
theorem tX11_hasDoor_54 {p : Program} {l : Launch} {e : Env} {s : State} {m : MethodId} {args : Array Value} {below : List Frame} {meth : Method} {c : Code} {g : GE} {B : Nat} {h : ST}  {l1 : Int32} {l2 : Int32} {l3 : Int32} (F : Fx p s m args meth c cX11_hasDoor 4 "DustParishModel" 43 g B)
    {Q : State → Prop} {y : Int32 ⊕ (Unit ⊕ Unit)} (hk : ∀ v : Int32, y = Sum.inl v → V p l e 1 0 s m args below meth c Q KM 43 g B 4 0 h 2 [(0, .ref (gA g 0)), (1, .int l1), (2, .int l2), (3, .int v)] []) (hx0 : ∀ v : Unit, y = Sum.inr (.inl v) → V p l e 1 0 s m args below meth c Q KM 43 g B 4 0 h 52 [] []) (hx1 : ∀ v : Unit, y = Sum.inr (.inr v) → V p l e 1 0 s m args below meth c Q KM 43 g B 4 0 h 60 [] []) (hf : fX11_hasDoor_54 h l1 l2 l3 = some y) : V p l e 1 0 s m args below meth c Q KM 43 g B 4 0 h 54 [(0, .ref (gA g 0)), (1, .int l1), (2, .int l2), (3, .int l3)] [] := by
  unfold fX11_hasDoor_54 at hf
  refine v_iinc (pc := 54) (j := 3) (v := l3 + 1) (lv' := [(0, .ref (gA g 0)), (1, .int l1), (2, .int l2), (3, .int (l3 + 1))]) F dX11_hasDoor_54 rfl (congrArg (fun z => l3 + z) ic_1) (by decide) rfl ?_
  refine v_goto (pc := 57) (tgt := 2) F dX11_hasDoor_57 (by decide) ?_
  exact hk (l3 + 1) (Option.some.inj hf).symm
set_option maxRecDepth 100000 in
set_option maxHeartbeats 4000000 in
theorem tX11_hasDoor_32 {p : Program} {l : Launch} {e : Env} {s : State} {m : MethodId} {args : Array Value} {below : List Frame} {meth : Method} {c : Code} {g : GE} {B : Nat} {h : ST}  {l1 : Int32} {l2 : Int32} {l3 : Int32} (F : Fx p s m args meth c cX11_hasDoor 4 "DustParishModel" 43 g B)
    {Q : State → Prop} {y : Int32 ⊕ (Unit ⊕ Unit)} (hk : ∀ v : Int32, y = Sum.inl v → V p l e 1 0 s m args below meth c Q KM 43 g B 4 0 h 2 [(0, .ref (gA g 0)), (1, .int l1), (2, .int l2), (3, .int v)] []) (hx0 : ∀ v : Unit, y = Sum.inr (.inl v) → V p l e 1 0 s m args below meth c Q KM 43 g B 4 0 h 52 [] []) (hx1 : ∀ v : Unit, y = Sum.inr (.inr v) → V p l e 1 0 s m args below meth c Q KM 43 g B 4 0 h 60 [] []) (hf : fX11_hasDoor_32 h l1 l2 l3 = some y) : V p l e 1 0 s m args below meth c Q KM 43 g B 4 0 h 32 [(0, .ref (gA g 0)), (1, .int l1), (2, .int l2), (3, .int l3)] [] := by
  unfold fX11_hasDoor_32 at hf
  refine v_aload_n (pc := 32) (j := 0) F dX11_hasDoor_32 rfl rfl ?_
  refine v_ifl (pc := 33) F fl_X11_50 dX11_hasDoor_33 km_0.1 km_0.2 fv_10_8 ?_
  refine v_iload_n (pc := 36) (j := 3) F dX11_hasDoor_36 rfl rfl ?_
  obtain ⟨v7, e8, hf⟩ := bnd_some hf
  refine v_iald (pc := 37) F dX11_hasDoor_37 km_8.1 km_8.2 e8 ?_
  refine v_iload_n (pc := 38) (j := 2) F dX11_hasDoor_38 rfl rfl ?_
  refine v_icmp_ne (pc := 39) (tgt := 54) F dX11_hasDoor_39 (by decide) (fun c9 => ?_) (fun c9 => ?_)
  · have hf := ite_f hf c9
    exact tX11_hasDoor_54 F hk hx0 hx1 hf
  · have hf := ite_t hf c9
    refine v_aload_n (pc := 42) (j := 0) F dX11_hasDoor_42 rfl rfl ?_
    refine v_ifl (pc := 43) F fl_X11_53 dX11_hasDoor_43 km_0.1 km_0.2 fv_10_9 ?_
    refine v_iload_n (pc := 46) (j := 3) F dX11_hasDoor_46 rfl rfl ?_
    obtain ⟨v10, e11, hf⟩ := bnd_some hf
    refine v_iald (pc := 47) F dX11_hasDoor_47 km_9.1 km_9.2 e11 ?_
    refine v_iload_n (pc := 48) (j := 1) F dX11_hasDoor_48 rfl rfl ?_
    refine v_icmp_ne (pc := 49) (tgt := 54) F dX11_hasDoor_49 (by decide) (fun c12 => ?_) (fun c12 => ?_)
    · have hf := ite_f hf c12
      exact tX11_hasDoor_54 F hk hx0 hx1 hf
    · have hf := ite_t hf c12
      refine V.sub (lv' := []) [] rfl ?_
      exact hx0 () (Option.some.inj hf).symm
set_option maxRecDepth 100000 in
set_option maxHeartbeats 4000000 in
theorem tX11_hasDoor_2 {p : Program} {l : Launch} {e : Env} {s : State} {m : MethodId} {args : Array Value} {below : List Frame} {meth : Method} {c : Code} {g : GE} {B : Nat}  {h : ST}  {l1 : Int32} {l2 : Int32} {Q : State → Prop} {x : (Unit ⊕ Unit)} {nf : Nat} {s0 : Int32} (F : Fx p s m args meth c cX11_hasDoor 4 "DustParishModel" 43 g B) (hX0 : ∀ v : Unit, x = (.inl v) → V p l e 1 0 s m args below meth c Q KM 43 g B 4 0 h 52 [] []) (hX1 : ∀ v : Unit, x = (.inr v) → V p l e 1 0 s m args below meth c Q KM 43 g B 4 0 h 60 [] []) (hl : lp nf (fX11_hasDoor_2 h l1 l2) s0 = some x) : V p l e 1 0 s m args below meth c Q KM 43 g B 4 0 h 2 [(0, .ref (gA g 0)), (1, .int l1), (2, .int l2), (3, .int s0)] [] := by
  refine lp_ind (P := fun s0 => V p l e 1 0 s m args below meth c Q KM 43 g B 4 0 h 2 [(0, .ref (gA g 0)), (1, .int l1), (2, .int l2), (3, .int s0)] []) ?_ nf s0 hl
  intro s1 y hf hk hx
  have hx0 : ∀ v : Unit, y = Sum.inr (.inl v) → V p l e 1 0 s m args below meth c Q KM 43 g B 4 0 h 52 [] [] := fun v e9 => hX0 v (hx _ e9).symm
  have hx1 : ∀ v : Unit, y = Sum.inr (.inr v) → V p l e 1 0 s m args below meth c Q KM 43 g B 4 0 h 60 [] [] := fun v e9 => hX1 v (hx _ e9).symm
  unfold fX11_hasDoor_2 at hf
  refine v_iload_n (pc := 2) (j := 3) F dX11_hasDoor_2 rfl rfl ?_
  refine v_aload_n (pc := 3) (j := 0) F dX11_hasDoor_3 rfl rfl ?_
  refine v_ifl (pc := 4) F fl_X11_36 dX11_hasDoor_4 km_0.1 km_0.2 fv_10_3 ?_
  refine v_iconst (pc := 7) (v := 1) F dX11_hasDoor_7 ic_1 ?_
  obtain ⟨v1, e2, hf⟩ := bnd_some hf
  refine v_iald (pc := 8) F dX11_hasDoor_8 km_3.1 km_3.2 e2 ?_
  refine v_icmp_ge (pc := 9) (tgt := 60) F dX11_hasDoor_9 (by decide) (fun c3 => ?_) (fun c3 => ?_)
  · have hf := ite_t hf c3
    refine V.sub (lv' := []) [] rfl ?_
    exact hx1 () (Option.some.inj hf).symm
  · have hf := ite_f hf c3
    refine v_aload_n (pc := 12) (j := 0) F dX11_hasDoor_12 rfl rfl ?_
    refine v_ifl (pc := 13) F fl_X11_50 dX11_hasDoor_13 km_0.1 km_0.2 fv_10_8 ?_
    refine v_iload_n (pc := 16) (j := 3) F dX11_hasDoor_16 rfl rfl ?_
    obtain ⟨v4, e5, hf⟩ := bnd_some hf
    refine v_iald (pc := 17) F dX11_hasDoor_17 km_8.1 km_8.2 e5 ?_
    refine v_iload_n (pc := 18) (j := 1) F dX11_hasDoor_18 rfl rfl ?_
    refine v_icmp_ne (pc := 19) (tgt := 32) F dX11_hasDoor_19 (by decide) (fun c6 => ?_) (fun c6 => ?_)
    · have hf := ite_f hf c6
      exact tX11_hasDoor_32 F hk hx0 hx1 hf
    · have hf := ite_t hf c6
      refine v_aload_n (pc := 22) (j := 0) F dX11_hasDoor_22 rfl rfl ?_
      refine v_ifl (pc := 23) F fl_X11_53 dX11_hasDoor_23 km_0.1 km_0.2 fv_10_9 ?_
      refine v_iload_n (pc := 26) (j := 3) F dX11_hasDoor_26 rfl rfl ?_
      obtain ⟨v13, e14, hf⟩ := bnd_some hf
      refine v_iald (pc := 27) F dX11_hasDoor_27 km_9.1 km_9.2 e14 ?_
      refine v_iload_n (pc := 28) (j := 2) F dX11_hasDoor_28 rfl rfl ?_
      refine v_icmp_eq (pc := 29) (tgt := 52) F dX11_hasDoor_29 (by decide) (fun c15 => ?_) (fun c15 => ?_)
      · have hf := ite_t hf c15
        refine V.sub (lv' := []) [] rfl ?_
        exact hx0 () (Option.some.inj hf).symm
      · have hf := ite_f hf c15
        exact tX11_hasDoor_32 F hk hx0 hx1 hf
set_option maxRecDepth 100000 in
set_option maxHeartbeats 4000000 in
theorem tX11_hasDoor_52 {p : Program} {l : Launch} {e : Env} {s : State} {m : MethodId} {args : Array Value} {below : List Frame} {meth : Method} {c : Code} {g : GE} {B : Nat} {h : ST}  (F : Fx p s m args meth c cX11_hasDoor 4 "DustParishModel" 43 g B)
    {y : Int32} (hr : meth.sig.returnType = (some .boolean)) (hf : fX11_hasDoor_52 h  = some y) : V p l e 1 0 s m args below meth c (MQ below (QO KM 43 g (some (.int y)) h) args s 0 (6 * 0) (WA 43 g)) KM 43 g B 4 0 h 52 [] [] := by
  unfold fX11_hasDoor_52 at hf
  refine v_iconst (pc := 52) (v := 1) F dX11_hasDoor_52 ic_1 ?_
  exact v_zret (pc := 53) F hr dX11_hasDoor_53 rfl (Option.some.inj hf) rfl (Nat.zero_le _)
set_option maxRecDepth 100000 in
set_option maxHeartbeats 4000000 in
theorem kX11_hasDoor {l : Launch} {g : GE} {B : Nat} {h : ST} {a1 : Int32} {a2 : Int32} {y : Int32} (hf : fX11_hasDoor h a1 a2 = some y) : CT l yX11_hasDoor cX11_hasDoor 4 (some .boolean) 1 KM 43 g B [.ref (gA g 0), .int a1, .int a2] h (some (.int y)) h := by
  refine CT.of pn_X11 (Nat.le_of_ble_eq_true rfl) ?_
  intro p e s m below meth c hr F
  have F : Fx p s m _ meth c cX11_hasDoor 4 "DustParishModel" 43 g B := F
  refine V_lv (lv' := [(0, .ref (gA g 0)), (1, .int a1), (2, .int a2)]) rfl ?_
  unfold fX11_hasDoor at hf
  refine v_iconst (pc := 0) (v := 0) F dX11_hasDoor_0 ic_0 ?_
  refine v_istore_n (pc := 1) (lv' := [(0, .ref (gA g 0)), (1, .int a1), (2, .int a2), (3, .int 0)]) F dX11_hasDoor_1 rfl (by decide) rfl ?_
  obtain ⟨x16, e17, hf⟩ := bnd_some hf
  refine tX11_hasDoor_2 (s0 := 0) F (fun v e9 => ?_) (fun v e9 => ?_) e17
  · subst e9
    have hf := sm_l hf
    exact tX11_hasDoor_52 F hr hf
  · subst e9
    have hf := sm_r hf
    refine v_iconst (pc := 60) (v := 0) F dX11_hasDoor_60 ic_0 ?_
    exact v_zret (pc := 61) F hr dX11_hasDoor_61 rfl (Option.some.inj hf) rfl (Nat.zero_le _)
def fX11_heresy_38 (h : ST) (l1 : Int32) (l2 : Int32) : Option ((ST × Int32 × Int32) ⊕ (ST × Int32)) :=
  bnd (fX11_aDay h) fun r10 =>
  some (.inl (r10, l1, l2 + 1))
def fX11_heresy_18 (s1 : (ST × Int32 × Int32)) : Option ((ST × Int32 × Int32) ⊕ (ST × Int32)) :=
  if 99 < s1.2.2 then
  some (.inr (s1.1, s1.2.1))
  else
  if s1.2.1 = (-1) then
    bnd (fX11_heretics s1.1) fun r7 =>
      if r7 = 0 then
      fX11_heresy_38 s1.1 s1.2.1 s1.2.2
      else
      fX11_heresy_38 s1.1 s1.2.2 s1.2.2
    else
    some (.inr (s1.1, s1.2.1))
def fX11_heresy_48 (h : ST) (l1 : Int32) : Option (Int32 × ST) :=
  bnd (fX11_unpack h 27 31 0) fun r14 =>
  some (l1, r14)
def fX11_heresy (h : ST) : Option (Int32 × ST) :=
  bnd (pw h 0 2 0) fun h1 =>
  bnd (fX11_pack h1 27 31 0) fun r3 =>
  bnd (lp FU (fX11_heresy_18) (r3, (-1), 0)) fun x12 =>
  fX11_heresy_48 x12.1 x12.2
set_option maxRecDepth 100000 in
set_option maxHeartbeats 4000000 in
theorem tX11_heresy_38 {p : Program} {l : Launch} {e : Env} {s : State} {m : MethodId} {args : Array Value} {below : List Frame} {meth : Method} {c : Code} {g : GE} {B : Nat} {h : ST}  {l1 : Int32} {l2 : Int32} (F : Fx p s m args meth c cX11_heresy 3 "DustParishModel" 43 g B)
    {Q : State → Prop} {y : (ST × Int32 × Int32) ⊕ (ST × Int32)} (hk : ∀ v : (ST × Int32 × Int32), y = Sum.inl v → V p l e 7 0 s m args below meth c Q KM 43 g B 3 0 v.1 18 [(0, .ref (gA g 0)), (1, .int v.2.1), (2, .int v.2.2)] []) (hx0 : ∀ v : (ST × Int32), y = Sum.inr v → V p l e 7 0 s m args below meth c Q KM 43 g B 3 0 v.1 48 [(0, .ref (gA g 0)), (1, .int v.2)] []) (hf : fX11_heresy_38 h l1 l2 = some y) : V p l e 7 0 s m args below meth c Q KM 43 g B 3 0 h 38 [(0, .ref (gA g 0)), (1, .int l1), (2, .int l2)] [] := by
  unfold fX11_heresy_38 at hf
  refine v_aload_n (pc := 38) (j := 0) F dX11_heresy_38 rfl rfl ?_
  obtain ⟨r10, e11, hf⟩ := bnd_some hf
  refine v_callVv (pc := 39) (As := []) F cl_X11_378 dX11_heresy_39 (kX11_aDay e11) km_0.1 km_0.2 rc_10 rfl rfl (Nat.le_of_ble_eq_true rfl) (by decide) (Nat.zero_le _) ?_
  refine v_iinc (pc := 42) (j := 2) (v := l2 + 1) (lv' := [(0, .ref (gA g 0)), (1, .int l1), (2, .int (l2 + 1))]) F dX11_heresy_42 rfl (congrArg (fun z => l2 + z) ic_1) (by decide) rfl ?_
  refine v_goto (pc := 45) (tgt := 18) F dX11_heresy_45 (by decide) ?_
  exact hk (r10, l1, l2 + 1) (Option.some.inj hf).symm
set_option maxRecDepth 100000 in
set_option maxHeartbeats 4000000 in
theorem tX11_heresy_18 {p : Program} {l : Launch} {e : Env} {s : State} {m : MethodId} {args : Array Value} {below : List Frame} {meth : Method} {c : Code} {g : GE} {B : Nat}   {Q : State → Prop} {x : (ST × Int32)} {nf : Nat} {s0 : (ST × Int32 × Int32)} (F : Fx p s m args meth c cX11_heresy 3 "DustParishModel" 43 g B) (hX0 : V p l e 7 0 s m args below meth c Q KM 43 g B 3 0 x.1 48 [(0, .ref (gA g 0)), (1, .int x.2)] []) (hl : lp nf (fX11_heresy_18) s0 = some x) : V p l e 7 0 s m args below meth c Q KM 43 g B 3 0 s0.1 18 [(0, .ref (gA g 0)), (1, .int s0.2.1), (2, .int s0.2.2)] [] := by
  refine lp_ind (P := fun s0 => V p l e 7 0 s m args below meth c Q KM 43 g B 3 0 s0.1 18 [(0, .ref (gA g 0)), (1, .int s0.2.1), (2, .int s0.2.2)] []) ?_ nf s0 hl
  intro s1 y hf hk hx
  have hx0 : ∀ v : (ST × Int32), y = Sum.inr v → V p l e 7 0 s m args below meth c Q KM 43 g B 3 0 v.1 48 [(0, .ref (gA g 0)), (1, .int v.2)] [] := fun v e9 => by rw [hx v e9]; exact hX0
  unfold fX11_heresy_18 at hf
  refine v_iload_n (pc := 18) (j := 2) F dX11_heresy_18 rfl rfl ?_
  refine v_bipush (pc := 19) (v := 99) F dX11_heresy_19 bp_99 ?_
  refine v_icmp_gt (pc := 21) (tgt := 48) F dX11_heresy_21 (by decide) (fun c5 => ?_) (fun c5 => ?_)
  · have hf := ite_t hf c5
    refine V.sub (lv' := [(0, .ref (gA g 0)), (1, .int s1.2.1)]) [0, 1] rfl ?_
    exact hx0 (s1.1, s1.2.1) (Option.some.inj hf).symm
  · have hf := ite_f hf c5
    refine v_iload_n (pc := 24) (j := 1) F dX11_heresy_24 rfl rfl ?_
    refine v_iconst (pc := 25) (v := (-1)) F dX11_heresy_25 ic_m1 ?_
    refine v_icmp_ne (pc := 26) (tgt := 48) F dX11_heresy_26 (by decide) (fun c6 => ?_) (fun c6 => ?_)
    · have hf := ite_f hf c6
      refine V.sub (lv' := [(0, .ref (gA g 0)), (1, .int s1.2.1)]) [0, 1] rfl ?_
      exact hx0 (s1.1, s1.2.1) (Option.some.inj hf).symm
    · have hf := ite_t hf c6
      refine v_aload_n (pc := 29) (j := 0) F dX11_heresy_29 rfl rfl ?_
      obtain ⟨r7, e8, hf⟩ := bnd_some hf
      refine v_callVi (pc := 30) (As := []) F cl_X11_384 dX11_heresy_30 (kX11_heretics e8) km_0.1 km_0.2 rc_10 rfl rfl (Nat.le_of_ble_eq_true rfl) (by decide) (Nat.zero_le _) ?_
      refine v_if_eq (pc := 33) (tgt := 38) F dX11_heresy_33 (by decide) (fun c9 => ?_) (fun c9 => ?_)
      · have hf := ite_t hf c9
        exact tX11_heresy_38 F hk hx0 hf
      · have hf := ite_f hf c9
        refine v_iload_n (pc := 36) (j := 2) F dX11_heresy_36 rfl rfl ?_
        refine v_istore_n (pc := 37) (lv' := [(0, .ref (gA g 0)), (1, .int s1.2.2), (2, .int s1.2.2)]) F dX11_heresy_37 rfl (by decide) rfl ?_
        exact tX11_heresy_38 F hk hx0 hf
set_option maxRecDepth 100000 in
set_option maxHeartbeats 4000000 in
theorem tX11_heresy_48 {p : Program} {l : Launch} {e : Env} {s : State} {m : MethodId} {args : Array Value} {below : List Frame} {meth : Method} {c : Code} {g : GE} {B : Nat} {h : ST}  {l1 : Int32} (F : Fx p s m args meth c cX11_heresy 3 "DustParishModel" 43 g B)
    {y : Int32 × ST} (hr : meth.sig.returnType = (some .int)) (hf : fX11_heresy_48 h l1 = some y) : V p l e 7 0 s m args below meth c (MQ below (QO KM 43 g (some (.int y.1)) y.2) args s 0 (6 * 0) (WA 43 g)) KM 43 g B 3 0 h 48 [(0, .ref (gA g 0)), (1, .int l1)] [] := by
  unfold fX11_heresy_48 at hf
  refine v_aload_n (pc := 48) (j := 0) F dX11_heresy_48 rfl rfl ?_
  refine v_aload_n (pc := 49) (j := 0) F dX11_heresy_49 rfl rfl ?_
  refine v_ifl (pc := 50) F fl_X11_109 dX11_heresy_50 km_0.1 km_0.2 fv_10_42 ?_
  refine v_iconst (pc := 53) (v := 0) F dX11_heresy_53 ic_0 ?_
  obtain ⟨r14, e15, hf⟩ := bnd_some hf
  refine v_callVv (pc := 54) (As := [.ref (gA g 27), .int 0]) F cl_X11_430 dX11_heresy_54 (kX11_unpack km_27.1 km_27.2 e15) km_0.1 km_0.2 rc_10 rfl rfl (Nat.le_of_ble_eq_true rfl) (by decide) (Nat.zero_le _) ?_
  refine v_iload_n (pc := 57) (j := 1) F dX11_heresy_57 rfl rfl ?_
  exact v_iret (pc := 58) F hr dX11_heresy_58 (some_fst hf) (some_snd hf) (Nat.zero_le _)
set_option maxRecDepth 100000 in
set_option maxHeartbeats 4000000 in
theorem kX11_heresy {l : Launch} {g : GE} {B : Nat} {h : ST} {y : Int32 × ST} (hf : fX11_heresy h = some y) : CT l yX11_heresy cX11_heresy 3 (some .int) 7 KM 43 g B [.ref (gA g 0)] h (some (.int y.1)) y.2 := by
  refine CT.of pn_X11 (Nat.le_of_ble_eq_true rfl) ?_
  intro p e s m below meth c hr F
  have F : Fx p s m _ meth c cX11_heresy 3 "DustParishModel" 43 g B := F
  refine V_lv (lv' := [(0, .ref (gA g 0))]) rfl ?_
  unfold fX11_heresy at hf
  refine v_aload_n (pc := 0) (j := 0) F dX11_heresy_0 rfl rfl ?_
  refine v_iconst (pc := 1) (v := 0) F dX11_heresy_1 ic_0 ?_
  obtain ⟨h1, e2, hf⟩ := bnd_some hf
  refine v_pfl (pc := 2) F fl_X11_157 pl_10_2 dX11_heresy_2 km_0.1 km_0.2 fv_10_2 rfl rfl e2 ?_
  refine v_aload_n (pc := 5) (j := 0) F dX11_heresy_5 rfl rfl ?_
  refine v_aload_n (pc := 6) (j := 0) F dX11_heresy_6 rfl rfl ?_
  refine v_ifl (pc := 7) F fl_X11_109 dX11_heresy_7 km_0.1 km_0.2 fv_10_42 ?_
  refine v_iconst (pc := 10) (v := 0) F dX11_heresy_10 ic_0 ?_
  obtain ⟨r3, e4, hf⟩ := bnd_some hf
  refine v_callVv (pc := 11) (As := [.ref (gA g 27), .int 0]) F cl_X11_403 dX11_heresy_11 (kX11_pack km_27.1 km_27.2 e4) km_0.1 km_0.2 rc_10 rfl rfl (Nat.le_of_ble_eq_true rfl) (by decide) (Nat.zero_le _) ?_
  refine v_iconst (pc := 14) (v := (-1)) F dX11_heresy_14 ic_m1 ?_
  refine v_istore_n (pc := 15) (lv' := [(0, .ref (gA g 0)), (1, .int (-1))]) F dX11_heresy_15 rfl (by decide) rfl ?_
  refine v_iconst (pc := 16) (v := 0) F dX11_heresy_16 ic_0 ?_
  refine v_istore_n (pc := 17) (lv' := [(0, .ref (gA g 0)), (1, .int (-1)), (2, .int 0)]) F dX11_heresy_17 rfl (by decide) rfl ?_
  obtain ⟨x12, e13, hf⟩ := bnd_some hf
  refine tX11_heresy_18 (s0 := (r3, (-1), 0)) F ?_ e13
  exact tX11_heresy_48 F hr hf
