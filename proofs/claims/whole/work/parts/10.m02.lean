def fX11_isAhead (h : ST) (a1 : Int32) : Option (Int32) :=
  bnd (fX11_isIn h a1.toInt64 (0 : Int64) (99 : Int64)) fun r1 =>
  bnd (zb r1) fun z3 =>
  some z3
set_option maxRecDepth 100000 in
set_option maxHeartbeats 4000000 in
theorem kX11_isAhead {l : Launch} {g : GE} {B : Nat} {h : ST} {a1 : Int32} {y : Int32} (hf : fX11_isAhead h a1 = some y) : CT l yX11_isAhead cX11_isAhead 1 (some .boolean) 2 KM 43 g B [.int a1] h (some (.int y)) h := by
  refine CT.of pn_X11 (Nat.le_of_ble_eq_true rfl) ?_
  intro p e s m below meth c hr F
  have F : Fx p s m _ meth c cX11_isAhead 1 "DustParishModel" 43 g B := F
  refine V_lv (lv' := [(0, .int a1)]) rfl ?_
  unfold fX11_isAhead at hf
  refine v_iload_n (pc := 0) (j := 0) F dX11_isAhead_0 rfl rfl ?_
  refine v_i2l (pc := 1) F dX11_isAhead_1 rfl ?_
  refine v_lconst (pc := 2) (v := 0) F dX11_isAhead_2 rfl ?_
  refine v_ldc2 (pc := 3) F tw_1745 dX11_isAhead_3 ?_
  obtain ⟨r1, e2, hf⟩ := bnd_some hf
  refine v_callSi (pc := 6) (As := [.long a1.toInt64, .long (0 : Int64), .long (99 : Int64)]) F cl_X11_160 dX11_isAhead_6 (kX11_isIn e2) rfl rfl (Nat.le_of_ble_eq_true rfl) (by decide) (Nat.zero_le _) ?_
  obtain ⟨z3, e4, hf⟩ := bnd_some hf
  exact v_zret (pc := 9) F hr dX11_isAhead_9 (zb_in e4).2 ((zb_in e4).1.symm.trans (Option.some.inj hf)) rfl (Nat.zero_le _)
def fX11_takenIn_17 (l1 : Int32) (l2 : Int32) (l3 : Int32) (s1 : (ST × Int32)) : Option ((ST × Int32) ⊕ ST) :=
  if l1 ≤ s1.2 then
  some (.inr s1.1)
  else
  bnd (fX11_windOf s1.1 (s1.1 0 33)) fun r4 =>
    bnd (fX11_passes s1.1 r4 l2) fun r6 =>
    some (.inl (r6, s1.2 + 1))
def fX11_takenIn (h : ST) (a1 : Int32) (a2 : Int32) : Option (Int32 × ST) :=
  bnd (fX11_pack h 27 31 0) fun r1 =>
  bnd (lp FU (fX11_takenIn_17 a1 a2 (r1 0 34)) (r1, 0)) fun x8 =>
  bnd (fX11_unpack x8 27 31 0) fun r10 =>
  some ((x8 0 34) - (r1 0 34), r10)
set_option maxRecDepth 100000 in
set_option maxHeartbeats 4000000 in
theorem tX11_takenIn_17 {p : Program} {l : Launch} {e : Env} {s : State} {m : MethodId} {args : Array Value} {below : List Frame} {meth : Method} {c : Code} {g : GE} {B : Nat}  {l1 : Int32} {l2 : Int32} {l3 : Int32} {Q : State → Prop} {x : ST} {nf : Nat} {s0 : (ST × Int32)} (F : Fx p s m args meth c cX11_takenIn 5 "DustParishModel" 43 g B) (hX0 : V p l e 6 0 s m args below meth c Q KM 43 g B 5 0 x 42 [(0, .ref (gA g 0)), (3, .int l3)] []) (hl : lp nf (fX11_takenIn_17 l1 l2 l3) s0 = some x) : V p l e 6 0 s m args below meth c Q KM 43 g B 5 0 s0.1 17 [(0, .ref (gA g 0)), (1, .int l1), (2, .int l2), (3, .int l3), (4, .int s0.2)] [] := by
  refine lp_ind (P := fun s0 => V p l e 6 0 s m args below meth c Q KM 43 g B 5 0 s0.1 17 [(0, .ref (gA g 0)), (1, .int l1), (2, .int l2), (3, .int l3), (4, .int s0.2)] []) ?_ nf s0 hl
  intro s1 y hf hk hx
  have hx0 : ∀ v : ST, y = Sum.inr v → V p l e 6 0 s m args below meth c Q KM 43 g B 5 0 v 42 [(0, .ref (gA g 0)), (3, .int l3)] [] := fun v e9 => by rw [hx v e9]; exact hX0
  unfold fX11_takenIn_17 at hf
  refine v_iload (pc := 17) (j := 4) F dX11_takenIn_17 rfl ?_
  refine v_iload_n (pc := 19) (j := 1) F dX11_takenIn_19 rfl rfl ?_
  refine v_icmp_ge (pc := 20) (tgt := 42) F dX11_takenIn_20 (by decide) (fun c3 => ?_) (fun c3 => ?_)
  · have hf := ite_t hf c3
    refine V.sub (lv' := [(0, .ref (gA g 0)), (3, .int l3)]) [0, 3] rfl ?_
    exact hx0 s1.1 (Option.some.inj hf).symm
  · have hf := ite_f hf c3
    refine v_aload_n (pc := 23) (j := 0) F dX11_takenIn_23 rfl rfl ?_
    refine v_aload_n (pc := 24) (j := 0) F dX11_takenIn_24 rfl rfl ?_
    refine v_aload_n (pc := 25) (j := 0) F dX11_takenIn_25 rfl rfl ?_
    refine v_ifl (pc := 26) F fl_X11_333 dX11_takenIn_26 km_0.1 km_0.2 fv_10_33 ?_
    obtain ⟨r4, e5, hf⟩ := bnd_some hf
    refine v_callVi (pc := 29) (As := [.int (s1.1 0 33)]) F cl_X11_372 dX11_takenIn_29 (kX11_windOf e5) km_0.1 km_0.2 rc_10 rfl rfl (Nat.le_of_ble_eq_true rfl) (by decide) (Nat.zero_le _) ?_
    refine v_iload_n (pc := 32) (j := 2) F dX11_takenIn_32 rfl rfl ?_
    obtain ⟨r6, e7, hf⟩ := bnd_some hf
    refine v_callVv (pc := 33) (As := [.int r4, .int l2]) F cl_X11_375 dX11_takenIn_33 (kX11_passes e7) km_0.1 km_0.2 rc_10 rfl rfl (Nat.le_of_ble_eq_true rfl) (by decide) (Nat.zero_le _) ?_
    refine v_iinc (pc := 36) (j := 4) (v := s1.2 + 1) (lv' := [(0, .ref (gA g 0)), (1, .int l1), (2, .int l2), (3, .int l3), (4, .int (s1.2 + 1))]) F dX11_takenIn_36 rfl (congrArg (fun z => s1.2 + z) ic_1) (by decide) rfl ?_
    refine v_goto (pc := 39) (tgt := 17) F dX11_takenIn_39 (by decide) ?_
    exact hk (r6, s1.2 + 1) (Option.some.inj hf).symm
set_option maxRecDepth 100000 in
set_option maxHeartbeats 4000000 in
theorem kX11_takenIn {l : Launch} {g : GE} {B : Nat} {h : ST} {a1 : Int32} {a2 : Int32} {y : Int32 × ST} (hf : fX11_takenIn h a1 a2 = some y) : CT l yX11_takenIn cX11_takenIn 5 (some .int) 6 KM 43 g B [.ref (gA g 0), .int a1, .int a2] h (some (.int y.1)) y.2 := by
  refine CT.of pn_X11 (Nat.le_of_ble_eq_true rfl) ?_
  intro p e s m below meth c hr F
  have F : Fx p s m _ meth c cX11_takenIn 5 "DustParishModel" 43 g B := F
  refine V_lv (lv' := [(0, .ref (gA g 0)), (1, .int a1), (2, .int a2)]) rfl ?_
  unfold fX11_takenIn at hf
  refine v_aload_n (pc := 0) (j := 0) F dX11_takenIn_0 rfl rfl ?_
  refine v_aload_n (pc := 1) (j := 0) F dX11_takenIn_1 rfl rfl ?_
  refine v_ifl (pc := 2) F fl_X11_109 dX11_takenIn_2 km_0.1 km_0.2 fv_10_42 ?_
  refine v_iconst (pc := 5) (v := 0) F dX11_takenIn_5 ic_0 ?_
  obtain ⟨r1, e2, hf⟩ := bnd_some hf
  refine v_callVv (pc := 6) (As := [.ref (gA g 27), .int 0]) F cl_X11_403 dX11_takenIn_6 (kX11_pack km_27.1 km_27.2 e2) km_0.1 km_0.2 rc_10 rfl rfl (Nat.le_of_ble_eq_true rfl) (by decide) (Nat.zero_le _) ?_
  refine v_aload_n (pc := 9) (j := 0) F dX11_takenIn_9 rfl rfl ?_
  refine v_ifl (pc := 10) F fl_X11_335 dX11_takenIn_10 km_0.1 km_0.2 fv_10_34 ?_
  refine v_istore_n (pc := 13) (lv' := [(0, .ref (gA g 0)), (1, .int a1), (2, .int a2), (3, .int (r1 0 34))]) F dX11_takenIn_13 rfl (by decide) rfl ?_
  refine v_iconst (pc := 14) (v := 0) F dX11_takenIn_14 ic_0 ?_
  refine v_istore (pc := 15) (lv' := [(0, .ref (gA g 0)), (1, .int a1), (2, .int a2), (3, .int (r1 0 34)), (4, .int 0)]) F dX11_takenIn_15 (by decide) rfl ?_
  obtain ⟨x8, e9, hf⟩ := bnd_some hf
  refine tX11_takenIn_17 (s0 := (r1, 0)) F ?_ e9
  refine v_aload_n (pc := 42) (j := 0) F dX11_takenIn_42 rfl rfl ?_
  refine v_ifl (pc := 43) F fl_X11_335 dX11_takenIn_43 km_0.1 km_0.2 fv_10_34 ?_
  refine v_iload_n (pc := 46) (j := 1) F dX11_takenIn_46 rfl rfl ?_
  refine v_isub (pc := 47) F dX11_takenIn_47 ?_
  refine v_istore (pc := 48) (lv' := [(0, .ref (gA g 0)), (3, .int (r1 0 34)), (4, .int ((x8 0 34) - (r1 0 34)))]) F dX11_takenIn_48 (by decide) rfl ?_
  refine v_aload_n (pc := 50) (j := 0) F dX11_takenIn_50 rfl rfl ?_
  refine v_aload_n (pc := 51) (j := 0) F dX11_takenIn_51 rfl rfl ?_
  refine v_ifl (pc := 52) F fl_X11_109 dX11_takenIn_52 km_0.1 km_0.2 fv_10_42 ?_
  refine v_iconst (pc := 55) (v := 0) F dX11_takenIn_55 ic_0 ?_
  obtain ⟨r10, e11, hf⟩ := bnd_some hf
  refine v_callVv (pc := 56) (As := [.ref (gA g 27), .int 0]) F cl_X11_430 dX11_takenIn_56 (kX11_unpack km_27.1 km_27.2 e11) km_0.1 km_0.2 rc_10 rfl rfl (Nat.le_of_ble_eq_true rfl) (by decide) (Nat.zero_le _) ?_
  refine v_iload (pc := 59) (j := 2) F dX11_takenIn_59 rfl ?_
  exact v_iret (pc := 61) F hr dX11_takenIn_61 (some_fst hf) (some_snd hf) (Nat.zero_le _)
def fX11_exchange (h : ST) (a1 : Int32) (a2 : Int32) : Option (ST) :=
  bnd (rd 10 (h 21) a1) fun v1 =>
  bnd (rd 10 (h 21) a2) fun v3 =>
  bnd (wr 10 h 21 a1 v3) fun h5 =>
  bnd (wr 10 h5 21 a2 v1) fun h7 =>
  some h7
set_option maxRecDepth 100000 in
set_option maxHeartbeats 4000000 in
theorem kX11_exchange {l : Launch} {g : GE} {B : Nat} {h : ST} {a1 : Int32} {a2 : Int32} {y : ST} (hf : fX11_exchange h a1 a2 = some y) : CT l yX11_exchange cX11_exchange 4 none 1 KM 43 g B [.ref (gA g 0), .int a1, .int a2] h none y := by
  refine CT.of pn_X11 (Nat.le_of_ble_eq_true rfl) ?_
  intro p e s m below meth c hr F
  have F : Fx p s m _ meth c cX11_exchange 4 "DustParishModel" 43 g B := F
  refine V_lv (lv' := [(0, .ref (gA g 0)), (1, .int a1), (2, .int a2)]) rfl ?_
  unfold fX11_exchange at hf
  refine v_aload_n (pc := 0) (j := 0) F dX11_exchange_0 rfl rfl ?_
  refine v_ifl (pc := 1) F fl_X11_91 dX11_exchange_1 km_0.1 km_0.2 fv_10_31 ?_
  refine v_iload_n (pc := 4) (j := 1) F dX11_exchange_4 rfl rfl ?_
  obtain ⟨v1, e2, hf⟩ := bnd_some hf
  refine v_iald (pc := 5) F dX11_exchange_5 km_21.1 km_21.2 e2 ?_
  refine v_istore_n (pc := 6) (lv' := [(0, .ref (gA g 0)), (1, .int a1), (2, .int a2), (3, .int v1)]) F dX11_exchange_6 rfl (by decide) rfl ?_
  refine v_aload_n (pc := 7) (j := 0) F dX11_exchange_7 rfl rfl ?_
  refine v_ifl (pc := 8) F fl_X11_91 dX11_exchange_8 km_0.1 km_0.2 fv_10_31 ?_
  refine v_iload_n (pc := 11) (j := 1) F dX11_exchange_11 rfl rfl ?_
  refine v_aload_n (pc := 12) (j := 0) F dX11_exchange_12 rfl rfl ?_
  refine v_ifl (pc := 13) F fl_X11_91 dX11_exchange_13 km_0.1 km_0.2 fv_10_31 ?_
  refine v_iload_n (pc := 16) (j := 2) F dX11_exchange_16 rfl rfl ?_
  obtain ⟨v3, e4, hf⟩ := bnd_some hf
  refine v_iald (pc := 17) F dX11_exchange_17 km_21.1 km_21.2 e4 ?_
  obtain ⟨h5, e6, hf⟩ := bnd_some hf
  refine v_iast (pc := 18) F dX11_exchange_18 km_21.1 km_21.2 e6 ?_
  refine v_aload_n (pc := 19) (j := 0) F dX11_exchange_19 rfl rfl ?_
  refine v_ifl (pc := 20) F fl_X11_91 dX11_exchange_20 km_0.1 km_0.2 fv_10_31 ?_
  refine v_iload_n (pc := 23) (j := 2) F dX11_exchange_23 rfl rfl ?_
  refine v_iload_n (pc := 24) (j := 3) F dX11_exchange_24 rfl rfl ?_
  obtain ⟨h7, e8, hf⟩ := bnd_some hf
  refine v_iast (pc := 25) F dX11_exchange_25 km_21.1 km_21.2 e8 ?_
  exact v_vret (pc := 26) F hr dX11_exchange_26 (Option.some.inj hf) (Nat.zero_le _)
def fX11_change_113 (h : ST) (l1 : Int32) (l2 : Int32) (l3 : Int32) (l4 : Int32) (l5 : Int32) : Option ((ST × Int32 × Int32 × Int32) ⊕ (ST × Int32 × Int32)) :=
  some (.inl (h, l2, l3, l5 + 1))
def fX11_change_52 (l1 : Int32) (l4 : Int32) (s1 : (ST × Int32 × Int32 × Int32)) : Option ((ST × Int32 × Int32 × Int32) ⊕ (ST × Int32 × Int32)) :=
  bnd (rd 14 (s1.1 3) 3) fun v13 =>
  if v13 ≤ s1.2.2.2 then
  some (.inr (s1.1, s1.2.1, s1.2.2.1))
  else
  bnd (fX11_exchange s1.1 l4 s1.2.2.2) fun r16 =>
    bnd (rd 14 (r16 3) 4) fun v18 =>
    bnd (fX11_takenIn r16 l1 v18) fun r20 =>
    bnd (fX11_exchange r20.2 l4 s1.2.2.2) fun r22 =>
    if s1.2.1 < r20.1 then
    fX11_change_113 r22 l1 r20.1 ((10 * l4) + s1.2.2.2) l4 s1.2.2.2
    else
    fX11_change_113 r22 l1 s1.2.1 s1.2.2.1 l4 s1.2.2.2
def fX11_change_35 (l1 : Int32) (s1 : (ST × Int32 × Int32 × Int32)) : Option ((ST × Int32 × Int32 × Int32) ⊕ (ST × Int32)) :=
  bnd (rd 14 (s1.1 3) 3) fun v10 =>
  if v10 ≤ s1.2.2.2 then
  some (.inr (s1.1, s1.2.2.1))
  else
  bnd (lp FU (fX11_change_52 l1 s1.2.2.2) (s1.1, s1.2.1, s1.2.2.1, s1.2.2.2 + 1)) fun x25 =>
    some (.inl (x25.1, x25.2.1, x25.2.2, s1.2.2.2 + 1))
def fX11_change (h : ST) (a1 : Int32) : Option (Int32 × ST) :=
  bnd (pw h 0 2 0) fun h1 =>
  bnd (fX11_isAhead h1 a1) fun r3 =>
  if r3 = 0 then
  bnd (fX11_fail h1 1) fun r29 =>
    some (r29.1, r29.2)
  else
  bnd (rd 14 (h1 3) 4) fun v6 =>
    bnd (fX11_takenIn h1 a1 v6) fun r8 =>
    bnd (lp FU (fX11_change_35 a1) (r8.2, r8.1, (-1), 0)) fun x27 =>
    some (x27.2, x27.1)
set_option maxRecDepth 100000 in
set_option maxHeartbeats 4000000 in
theorem tX11_change_113 {p : Program} {l : Launch} {e : Env} {s : State} {m : MethodId} {args : Array Value} {below : List Frame} {meth : Method} {c : Code} {g : GE} {B : Nat} {h : ST}  {l1 : Int32} {l2 : Int32} {l3 : Int32} {l4 : Int32} {l5 : Int32} (F : Fx p s m args meth c cX11_change 7 "DustParishModel" 43 g B)
    {Q : State → Prop} {y : (ST × Int32 × Int32 × Int32) ⊕ (ST × Int32 × Int32)} (hk : ∀ v : (ST × Int32 × Int32 × Int32), y = Sum.inl v → V p l e 7 0 s m args below meth c Q KM 43 g B 7 0 v.1 52 [(0, .ref (gA g 0)), (1, .int l1), (2, .int v.2.1), (3, .int v.2.2.1), (4, .int l4), (5, .int v.2.2.2)] []) (hx0 : ∀ v : (ST × Int32 × Int32), y = Sum.inr v → V p l e 7 0 s m args below meth c Q KM 43 g B 7 0 v.1 119 [(0, .ref (gA g 0)), (1, .int l1), (2, .int v.2.1), (3, .int v.2.2), (4, .int l4)] []) (hf : fX11_change_113 h l1 l2 l3 l4 l5 = some y) : V p l e 7 0 s m args below meth c Q KM 43 g B 7 0 h 113 [(0, .ref (gA g 0)), (1, .int l1), (2, .int l2), (3, .int l3), (4, .int l4), (5, .int l5)] [] := by
  unfold fX11_change_113 at hf
  refine v_iinc (pc := 113) (j := 5) (v := l5 + 1) (lv' := [(0, .ref (gA g 0)), (1, .int l1), (2, .int l2), (3, .int l3), (4, .int l4), (5, .int (l5 + 1))]) F dX11_change_113 rfl (congrArg (fun z => l5 + z) ic_1) (by decide) rfl ?_
  refine v_goto (pc := 116) (tgt := 52) F dX11_change_116 (by decide) ?_
  exact hk (h, l2, l3, l5 + 1) (Option.some.inj hf).symm
set_option maxRecDepth 100000 in
set_option maxHeartbeats 4000000 in
theorem tX11_change_52 {p : Program} {l : Launch} {e : Env} {s : State} {m : MethodId} {args : Array Value} {below : List Frame} {meth : Method} {c : Code} {g : GE} {B : Nat}  {l1 : Int32} {l4 : Int32} {Q : State → Prop} {x : (ST × Int32 × Int32)} {nf : Nat} {s0 : (ST × Int32 × Int32 × Int32)} (F : Fx p s m args meth c cX11_change 7 "DustParishModel" 43 g B) (hX0 : V p l e 7 0 s m args below meth c Q KM 43 g B 7 0 x.1 119 [(0, .ref (gA g 0)), (1, .int l1), (2, .int x.2.1), (3, .int x.2.2), (4, .int l4)] []) (hl : lp nf (fX11_change_52 l1 l4) s0 = some x) : V p l e 7 0 s m args below meth c Q KM 43 g B 7 0 s0.1 52 [(0, .ref (gA g 0)), (1, .int l1), (2, .int s0.2.1), (3, .int s0.2.2.1), (4, .int l4), (5, .int s0.2.2.2)] [] := by
  refine lp_ind (P := fun s0 => V p l e 7 0 s m args below meth c Q KM 43 g B 7 0 s0.1 52 [(0, .ref (gA g 0)), (1, .int l1), (2, .int s0.2.1), (3, .int s0.2.2.1), (4, .int l4), (5, .int s0.2.2.2)] []) ?_ nf s0 hl
  intro s1 y hf hk hx
  have hx0 : ∀ v : (ST × Int32 × Int32), y = Sum.inr v → V p l e 7 0 s m args below meth c Q KM 43 g B 7 0 v.1 119 [(0, .ref (gA g 0)), (1, .int l1), (2, .int v.2.1), (3, .int v.2.2), (4, .int l4)] [] := fun v e9 => by rw [hx v e9]; exact hX0
  unfold fX11_change_52 at hf
  refine v_iload (pc := 52) (j := 5) F dX11_change_52 rfl ?_
  refine v_aload_n (pc := 54) (j := 0) F dX11_change_54 rfl rfl ?_
  refine v_ifl (pc := 55) F fl_X11_36 dX11_change_55 km_0.1 km_0.2 fv_10_3 ?_
  refine v_iconst (pc := 58) (v := 3) F dX11_change_58 ic_3 ?_
  obtain ⟨v13, e14, hf⟩ := bnd_some hf
  refine v_iald (pc := 59) F dX11_change_59 km_3.1 km_3.2 e14 ?_
  refine v_icmp_ge (pc := 60) (tgt := 119) F dX11_change_60 (by decide) (fun c15 => ?_) (fun c15 => ?_)
  · have hf := ite_t hf c15
    refine V.sub (lv' := [(0, .ref (gA g 0)), (1, .int l1), (2, .int s1.2.1), (3, .int s1.2.2.1), (4, .int l4)]) [0, 1, 2, 3, 4] rfl ?_
    exact hx0 (s1.1, s1.2.1, s1.2.2.1) (Option.some.inj hf).symm
  · have hf := ite_f hf c15
    refine v_aload_n (pc := 63) (j := 0) F dX11_change_63 rfl rfl ?_
    refine v_iload (pc := 64) (j := 4) F dX11_change_64 rfl ?_
    refine v_iload (pc := 66) (j := 5) F dX11_change_66 rfl ?_
    obtain ⟨r16, e17, hf⟩ := bnd_some hf
    refine v_callVv (pc := 68) (As := [.int l4, .int s1.2.2.2]) F cl_X11_458 dX11_change_68 (kX11_exchange e17) km_0.1 km_0.2 rc_10 rfl rfl (Nat.le_of_ble_eq_true rfl) (by decide) (Nat.zero_le _) ?_
    refine v_aload_n (pc := 71) (j := 0) F dX11_change_71 rfl rfl ?_
    refine v_iload_n (pc := 72) (j := 1) F dX11_change_72 rfl rfl ?_
    refine v_aload_n (pc := 73) (j := 0) F dX11_change_73 rfl rfl ?_
    refine v_ifl (pc := 74) F fl_X11_36 dX11_change_74 km_0.1 km_0.2 fv_10_3 ?_
    refine v_iconst (pc := 77) (v := 4) F dX11_change_77 ic_4 ?_
    obtain ⟨v18, e19, hf⟩ := bnd_some hf
    refine v_iald (pc := 78) F dX11_change_78 km_3.1 km_3.2 e19 ?_
    obtain ⟨r20, e21, hf⟩ := bnd_some hf
    refine v_callVi (pc := 79) (As := [.int l1, .int v18]) F cl_X11_436 dX11_change_79 (kX11_takenIn e21) km_0.1 km_0.2 rc_10 rfl rfl (Nat.le_of_ble_eq_true rfl) (by decide) (Nat.zero_le _) ?_
    refine v_istore (pc := 82) (lv' := [(0, .ref (gA g 0)), (1, .int l1), (2, .int s1.2.1), (3, .int s1.2.2.1), (4, .int l4), (5, .int s1.2.2.2), (6, .int r20.1)]) F dX11_change_82 (by decide) rfl ?_
    refine v_aload_n (pc := 84) (j := 0) F dX11_change_84 rfl rfl ?_
    refine v_iload (pc := 85) (j := 4) F dX11_change_85 rfl ?_
    refine v_iload (pc := 87) (j := 5) F dX11_change_87 rfl ?_
    obtain ⟨r22, e23, hf⟩ := bnd_some hf
    refine v_callVv (pc := 89) (As := [.int l4, .int s1.2.2.2]) F cl_X11_458 dX11_change_89 (kX11_exchange e23) km_0.1 km_0.2 rc_10 rfl rfl (Nat.le_of_ble_eq_true rfl) (by decide) (Nat.zero_le _) ?_
    refine v_iload (pc := 92) (j := 6) F dX11_change_92 rfl ?_
    refine v_iload_n (pc := 94) (j := 2) F dX11_change_94 rfl rfl ?_
    refine v_icmp_gt (pc := 95) (tgt := 101) F dX11_change_95 (by decide) (fun c24 => ?_) (fun c24 => ?_)
    · have hf := ite_t hf c24
      refine v_bipush (pc := 101) (v := 10) F dX11_change_101 bp_10 ?_
      refine v_iload (pc := 103) (j := 4) F dX11_change_103 rfl ?_
      refine v_imul (pc := 105) F dX11_change_105 ?_
      refine v_iload (pc := 106) (j := 5) F dX11_change_106 rfl ?_
      refine v_iadd (pc := 108) F dX11_change_108 ?_
      refine v_istore_n (pc := 109) (lv' := [(0, .ref (gA g 0)), (1, .int l1), (2, .int s1.2.1), (3, .int ((10 * l4) + s1.2.2.2)), (4, .int l4), (5, .int s1.2.2.2), (6, .int r20.1)]) F dX11_change_109 rfl (by decide) rfl ?_
      refine v_iload (pc := 110) (j := 6) F dX11_change_110 rfl ?_
      refine v_istore_n (pc := 112) (lv' := [(0, .ref (gA g 0)), (1, .int l1), (2, .int r20.1), (3, .int ((10 * l4) + s1.2.2.2)), (4, .int l4), (5, .int s1.2.2.2), (6, .int r20.1)]) F dX11_change_112 rfl (by decide) rfl ?_
      refine V.sub (lv' := [(0, .ref (gA g 0)), (1, .int l1), (2, .int r20.1), (3, .int ((10 * l4) + s1.2.2.2)), (4, .int l4), (5, .int s1.2.2.2)]) [0, 1, 2, 3, 4, 5] rfl ?_
      exact tX11_change_113 F hk hx0 hf
    · have hf := ite_f hf c24
      refine v_goto (pc := 98) (tgt := 113) F dX11_change_98 (by decide) ?_
      refine V.sub (lv' := [(0, .ref (gA g 0)), (1, .int l1), (2, .int s1.2.1), (3, .int s1.2.2.1), (4, .int l4), (5, .int s1.2.2.2)]) [0, 1, 2, 3, 4, 5] rfl ?_
      exact tX11_change_113 F hk hx0 hf
set_option maxRecDepth 100000 in
set_option maxHeartbeats 4000000 in
theorem tX11_change_35 {p : Program} {l : Launch} {e : Env} {s : State} {m : MethodId} {args : Array Value} {below : List Frame} {meth : Method} {c : Code} {g : GE} {B : Nat}  {l1 : Int32} {Q : State → Prop} {x : (ST × Int32)} {nf : Nat} {s0 : (ST × Int32 × Int32 × Int32)} (F : Fx p s m args meth c cX11_change 7 "DustParishModel" 43 g B) (hX0 : V p l e 7 0 s m args below meth c Q KM 43 g B 7 0 x.1 125 [(3, .int x.2)] []) (hl : lp nf (fX11_change_35 l1) s0 = some x) : V p l e 7 0 s m args below meth c Q KM 43 g B 7 0 s0.1 35 [(0, .ref (gA g 0)), (1, .int l1), (2, .int s0.2.1), (3, .int s0.2.2.1), (4, .int s0.2.2.2)] [] := by
  refine lp_ind (P := fun s0 => V p l e 7 0 s m args below meth c Q KM 43 g B 7 0 s0.1 35 [(0, .ref (gA g 0)), (1, .int l1), (2, .int s0.2.1), (3, .int s0.2.2.1), (4, .int s0.2.2.2)] []) ?_ nf s0 hl
  intro s1 y hf hk hx
  have hx0 : ∀ v : (ST × Int32), y = Sum.inr v → V p l e 7 0 s m args below meth c Q KM 43 g B 7 0 v.1 125 [(3, .int v.2)] [] := fun v e9 => by rw [hx v e9]; exact hX0
  unfold fX11_change_35 at hf
  refine v_iload (pc := 35) (j := 4) F dX11_change_35 rfl ?_
  refine v_aload_n (pc := 37) (j := 0) F dX11_change_37 rfl rfl ?_
  refine v_ifl (pc := 38) F fl_X11_36 dX11_change_38 km_0.1 km_0.2 fv_10_3 ?_
  refine v_iconst (pc := 41) (v := 3) F dX11_change_41 ic_3 ?_
  obtain ⟨v10, e11, hf⟩ := bnd_some hf
  refine v_iald (pc := 42) F dX11_change_42 km_3.1 km_3.2 e11 ?_
  refine v_icmp_ge (pc := 43) (tgt := 125) F dX11_change_43 (by decide) (fun c12 => ?_) (fun c12 => ?_)
  · have hf := ite_t hf c12
    refine V.sub (lv' := [(3, .int s1.2.2.1)]) [3] rfl ?_
    exact hx0 (s1.1, s1.2.2.1) (Option.some.inj hf).symm
  · have hf := ite_f hf c12
    refine v_iload (pc := 46) (j := 4) F dX11_change_46 rfl ?_
    refine v_iconst (pc := 48) (v := 1) F dX11_change_48 ic_1 ?_
    refine v_iadd (pc := 49) F dX11_change_49 ?_
    refine v_istore (pc := 50) (lv' := [(0, .ref (gA g 0)), (1, .int l1), (2, .int s1.2.1), (3, .int s1.2.2.1), (4, .int s1.2.2.2), (5, .int (s1.2.2.2 + 1))]) F dX11_change_50 (by decide) rfl ?_
    obtain ⟨x25, e26, hf⟩ := bnd_some hf
    refine tX11_change_52 (s0 := (s1.1, s1.2.1, s1.2.2.1, s1.2.2.2 + 1)) F ?_ e26
    refine v_iinc (pc := 119) (j := 4) (v := s1.2.2.2 + 1) (lv' := [(0, .ref (gA g 0)), (1, .int l1), (2, .int x25.2.1), (3, .int x25.2.2), (4, .int (s1.2.2.2 + 1))]) F dX11_change_119 rfl (congrArg (fun z => s1.2.2.2 + z) ic_1) (by decide) rfl ?_
    refine v_goto (pc := 122) (tgt := 35) F dX11_change_122 (by decide) ?_
    exact hk (x25.1, x25.2.1, x25.2.2, s1.2.2.2 + 1) (Option.some.inj hf).symm
set_option maxRecDepth 100000 in
set_option maxHeartbeats 4000000 in
theorem kX11_change {l : Launch} {g : GE} {B : Nat} {h : ST} {a1 : Int32} {y : Int32 × ST} (hf : fX11_change h a1 = some y) : CT l yX11_change cX11_change 7 (some .int) 7 KM 43 g B [.ref (gA g 0), .int a1] h (some (.int y.1)) y.2 := by
  refine CT.of pn_X11 (Nat.le_of_ble_eq_true rfl) ?_
  intro p e s m below meth c hr F
  have F : Fx p s m _ meth c cX11_change 7 "DustParishModel" 43 g B := F
  refine V_lv (lv' := [(0, .ref (gA g 0)), (1, .int a1)]) rfl ?_
  unfold fX11_change at hf
  refine v_aload_n (pc := 0) (j := 0) F dX11_change_0 rfl rfl ?_
  refine v_iconst (pc := 1) (v := 0) F dX11_change_1 ic_0 ?_
  obtain ⟨h1, e2, hf⟩ := bnd_some hf
  refine v_pfl (pc := 2) F fl_X11_157 pl_10_2 dX11_change_2 km_0.1 km_0.2 fv_10_2 rfl rfl e2 ?_
  refine v_iload_n (pc := 5) (j := 1) F dX11_change_5 rfl rfl ?_
  obtain ⟨r3, e4, hf⟩ := bnd_some hf
  refine v_callSi (pc := 6) (As := [.int a1]) F cl_X11_433 dX11_change_6 (kX11_isAhead e4) rfl rfl (Nat.le_of_ble_eq_true rfl) (by decide) (Nat.zero_le _) ?_
  refine v_if_ne (pc := 9) (tgt := 18) F dX11_change_9 (by decide) (fun c5 => ?_) (fun c5 => ?_)
  · have hf := ite_f hf c5
    refine v_aload_n (pc := 18) (j := 0) F dX11_change_18 rfl rfl ?_
    refine v_iload_n (pc := 19) (j := 1) F dX11_change_19 rfl rfl ?_
    refine v_aload_n (pc := 20) (j := 0) F dX11_change_20 rfl rfl ?_
    refine v_ifl (pc := 21) F fl_X11_36 dX11_change_21 km_0.1 km_0.2 fv_10_3 ?_
    refine v_iconst (pc := 24) (v := 4) F dX11_change_24 ic_4 ?_
    obtain ⟨v6, e7, hf⟩ := bnd_some hf
    refine v_iald (pc := 25) F dX11_change_25 km_3.1 km_3.2 e7 ?_
    obtain ⟨r8, e9, hf⟩ := bnd_some hf
    refine v_callVi (pc := 26) (As := [.int a1, .int v6]) F cl_X11_436 dX11_change_26 (kX11_takenIn e9) km_0.1 km_0.2 rc_10 rfl rfl (Nat.le_of_ble_eq_true rfl) (by decide) (Nat.zero_le _) ?_
    refine v_istore_n (pc := 29) (lv' := [(0, .ref (gA g 0)), (1, .int a1), (2, .int r8.1)]) F dX11_change_29 rfl (by decide) rfl ?_
    refine v_iconst (pc := 30) (v := (-1)) F dX11_change_30 ic_m1 ?_
    refine v_istore_n (pc := 31) (lv' := [(0, .ref (gA g 0)), (1, .int a1), (2, .int r8.1), (3, .int (-1))]) F dX11_change_31 rfl (by decide) rfl ?_
    refine v_iconst (pc := 32) (v := 0) F dX11_change_32 ic_0 ?_
    refine v_istore (pc := 33) (lv' := [(0, .ref (gA g 0)), (1, .int a1), (2, .int r8.1), (3, .int (-1)), (4, .int 0)]) F dX11_change_33 (by decide) rfl ?_
    obtain ⟨x27, e28, hf⟩ := bnd_some hf
    refine tX11_change_35 (s0 := (r8.2, r8.1, (-1), 0)) F ?_ e28
    refine v_iload_n (pc := 125) (j := 0) F dX11_change_125 rfl rfl ?_
    exact v_iret (pc := 126) F hr dX11_change_126 (some_fst hf) (some_snd hf) (Nat.zero_le _)
  · have hf := ite_t hf c5
    refine v_aload_n (pc := 12) (j := 0) F dX11_change_12 rfl rfl ?_
    refine v_iconst (pc := 13) (v := 1) F dX11_change_13 ic_1 ?_
    obtain ⟨r29, e30, hf⟩ := bnd_some hf
    refine v_callVi (pc := 14) (As := [.int 1]) F cl_X11_320 dX11_change_14 (kX11_fail e30) km_0.1 km_0.2 rc_10 rfl rfl (Nat.le_of_ble_eq_true rfl) (by decide) (Nat.zero_le _) ?_
    exact v_iret (pc := 17) F hr dX11_change_17 (some_fst hf) (some_snd hf) (Nat.zero_le _)
def fX11_heretics_52 (h : ST) (l2 : Int32) (q0 : Int32) (q1 : Int32) : Option ((Int32 × Int32) ⊕ Int32) :=
  some (.inl (q0 ||| q1, l2 + 1))
def fX11_heretics_51 (h : ST) (l2 : Int32) (q0 : Int32) : Option ((Int32 × Int32) ⊕ Int32) :=
  fX11_heretics_52 h l2 q0 0
def fX11_heretics_4 (h : ST) (s1 : (Int32 × Int32)) : Option ((Int32 × Int32) ⊕ Int32) :=
  bnd (rd 14 (h 3) 0) fun v1 =>
  if v1 ≤ s1.2 then
  some (.inr s1.1)
  else
  bnd (rd 18 (h 4) s1.2) fun v4 =>
    if v4 = 2 then
    fX11_heretics_51 h s1.2 s1.1
    else
    bnd (rd 9 (h 19) s1.2) fun v7 =>
      bnd (rd 14 (h 3) 5) fun v9 =>
      if v9 ≤ v7 then
      fX11_heretics_51 h s1.2 s1.1
      else
      bnd (rd 18 (h 5) s1.2) fun v12 =>
        fX11_heretics_52 h s1.2 s1.1 ((1 : Int32) <<< (v12 &&& 31))
def fX11_heretics (h : ST) : Option (Int32) :=
  bnd (lp FU (fX11_heretics_4 h) (0, 0)) fun x14 =>
  some x14
set_option maxRecDepth 100000 in
set_option maxHeartbeats 4000000 in
theorem tX11_heretics_52 {p : Program} {l : Launch} {e : Env} {s : State} {m : MethodId} {args : Array Value} {below : List Frame} {meth : Method} {c : Code} {g : GE} {B : Nat} {h : ST}  {l2 : Int32} {q0 : Int32} {q1 : Int32} (F : Fx p s m args meth c cX11_heretics 3 "DustParishModel" 43 g B)
    {Q : State → Prop} {y : (Int32 × Int32) ⊕ Int32} (hk : ∀ v : (Int32 × Int32), y = Sum.inl v → V p l e 1 0 s m args below meth c Q KM 43 g B 3 0 h 4 [(0, .ref (gA g 0)), (1, .int v.1), (2, .int v.2)] []) (hx0 : ∀ v : Int32, y = Sum.inr v → V p l e 1 0 s m args below meth c Q KM 43 g B 3 0 h 60 [(1, .int v)] []) (hf : fX11_heretics_52 h l2 q0 q1 = some y) : V p l e 1 0 s m args below meth c Q KM 43 g B 3 0 h 52 [(0, .ref (gA g 0)), (2, .int l2)] [.int q1, .int q0] := by
  unfold fX11_heretics_52 at hf
  refine v_ior (pc := 52) F dX11_heretics_52 ?_
  refine v_istore_n (pc := 53) (lv' := [(0, .ref (gA g 0)), (1, .int (q0 ||| q1)), (2, .int l2)]) F dX11_heretics_53 rfl (by decide) rfl ?_
  refine v_iinc (pc := 54) (j := 2) (v := l2 + 1) (lv' := [(0, .ref (gA g 0)), (1, .int (q0 ||| q1)), (2, .int (l2 + 1))]) F dX11_heretics_54 rfl (congrArg (fun z => l2 + z) ic_1) (by decide) rfl ?_
  refine v_goto (pc := 57) (tgt := 4) F dX11_heretics_57 (by decide) ?_
  exact hk (q0 ||| q1, l2 + 1) (Option.some.inj hf).symm
set_option maxRecDepth 100000 in
set_option maxHeartbeats 4000000 in
theorem tX11_heretics_51 {p : Program} {l : Launch} {e : Env} {s : State} {m : MethodId} {args : Array Value} {below : List Frame} {meth : Method} {c : Code} {g : GE} {B : Nat} {h : ST}  {l2 : Int32} {q0 : Int32} (F : Fx p s m args meth c cX11_heretics 3 "DustParishModel" 43 g B)
    {Q : State → Prop} {y : (Int32 × Int32) ⊕ Int32} (hk : ∀ v : (Int32 × Int32), y = Sum.inl v → V p l e 1 0 s m args below meth c Q KM 43 g B 3 0 h 4 [(0, .ref (gA g 0)), (1, .int v.1), (2, .int v.2)] []) (hx0 : ∀ v : Int32, y = Sum.inr v → V p l e 1 0 s m args below meth c Q KM 43 g B 3 0 h 60 [(1, .int v)] []) (hf : fX11_heretics_51 h l2 q0 = some y) : V p l e 1 0 s m args below meth c Q KM 43 g B 3 0 h 51 [(0, .ref (gA g 0)), (2, .int l2)] [.int q0] := by
  unfold fX11_heretics_51 at hf
  refine v_iconst (pc := 51) (v := 0) F dX11_heretics_51 ic_0 ?_
  exact tX11_heretics_52 F hk hx0 hf
set_option maxRecDepth 100000 in
set_option maxHeartbeats 4000000 in
theorem tX11_heretics_4 {p : Program} {l : Launch} {e : Env} {s : State} {m : MethodId} {args : Array Value} {below : List Frame} {meth : Method} {c : Code} {g : GE} {B : Nat} {h : ST}  {Q : State → Prop} {x : Int32} {nf : Nat} {s0 : (Int32 × Int32)} (F : Fx p s m args meth c cX11_heretics 3 "DustParishModel" 43 g B) (hX0 : V p l e 1 0 s m args below meth c Q KM 43 g B 3 0 h 60 [(1, .int x)] []) (hl : lp nf (fX11_heretics_4 h) s0 = some x) : V p l e 1 0 s m args below meth c Q KM 43 g B 3 0 h 4 [(0, .ref (gA g 0)), (1, .int s0.1), (2, .int s0.2)] [] := by
  refine lp_ind (P := fun s0 => V p l e 1 0 s m args below meth c Q KM 43 g B 3 0 h 4 [(0, .ref (gA g 0)), (1, .int s0.1), (2, .int s0.2)] []) ?_ nf s0 hl
  intro s1 y hf hk hx
  have hx0 : ∀ v : Int32, y = Sum.inr v → V p l e 1 0 s m args below meth c Q KM 43 g B 3 0 h 60 [(1, .int v)] [] := fun v e9 => by rw [hx v e9]; exact hX0
  unfold fX11_heretics_4 at hf
  refine v_iload_n (pc := 4) (j := 2) F dX11_heretics_4 rfl rfl ?_
  refine v_aload_n (pc := 5) (j := 0) F dX11_heretics_5 rfl rfl ?_
  refine v_ifl (pc := 6) F fl_X11_36 dX11_heretics_6 km_0.1 km_0.2 fv_10_3 ?_
  refine v_iconst (pc := 9) (v := 0) F dX11_heretics_9 ic_0 ?_
  obtain ⟨v1, e2, hf⟩ := bnd_some hf
  refine v_iald (pc := 10) F dX11_heretics_10 km_3.1 km_3.2 e2 ?_
  refine v_icmp_ge (pc := 11) (tgt := 60) F dX11_heretics_11 (by decide) (fun c3 => ?_) (fun c3 => ?_)
  · have hf := ite_t hf c3
    refine V.sub (lv' := [(1, .int s1.1)]) [1] rfl ?_
    exact hx0 s1.1 (Option.some.inj hf).symm
  · have hf := ite_f hf c3
    refine v_iload_n (pc := 14) (j := 1) F dX11_heretics_14 rfl rfl ?_
    refine v_aload_n (pc := 15) (j := 0) F dX11_heretics_15 rfl rfl ?_
    refine v_ifl (pc := 16) F fl_X11_40 dX11_heretics_16 km_0.1 km_0.2 fv_10_4 ?_
    refine v_iload_n (pc := 19) (j := 2) F dX11_heretics_19 rfl rfl ?_
    obtain ⟨v4, e5, hf⟩ := bnd_some hf
    refine v_iald (pc := 20) F dX11_heretics_20 km_4.1 km_4.2 e5 ?_
    refine v_iconst (pc := 21) (v := 2) F dX11_heretics_21 ic_2 ?_
    refine v_icmp_eq (pc := 22) (tgt := 51) F dX11_heretics_22 (by decide) (fun c6 => ?_) (fun c6 => ?_)
    · have hf := ite_t hf c6
      refine V.sub (lv' := [(0, .ref (gA g 0)), (2, .int s1.2)]) [0, 2] rfl ?_
      exact tX11_heretics_51 F hk hx0 hf
    · have hf := ite_f hf c6
      refine v_aload_n (pc := 25) (j := 0) F dX11_heretics_25 rfl rfl ?_
      refine v_ifl (pc := 26) F fl_X11_87 dX11_heretics_26 km_0.1 km_0.2 fv_10_29 ?_
      refine v_iload_n (pc := 29) (j := 2) F dX11_heretics_29 rfl rfl ?_
      obtain ⟨v7, e8, hf⟩ := bnd_some hf
      refine v_iald (pc := 30) F dX11_heretics_30 km_19.1 km_19.2 e8 ?_
      refine v_aload_n (pc := 31) (j := 0) F dX11_heretics_31 rfl rfl ?_
      refine v_ifl (pc := 32) F fl_X11_36 dX11_heretics_32 km_0.1 km_0.2 fv_10_3 ?_
      refine v_iconst (pc := 35) (v := 5) F dX11_heretics_35 ic_5 ?_
      obtain ⟨v9, e10, hf⟩ := bnd_some hf
      refine v_iald (pc := 36) F dX11_heretics_36 km_3.1 km_3.2 e10 ?_
      refine v_icmp_ge (pc := 37) (tgt := 51) F dX11_heretics_37 (by decide) (fun c11 => ?_) (fun c11 => ?_)
      · have hf := ite_t hf c11
        refine V.sub (lv' := [(0, .ref (gA g 0)), (2, .int s1.2)]) [0, 2] rfl ?_
        exact tX11_heretics_51 F hk hx0 hf
      · have hf := ite_f hf c11
        refine v_iconst (pc := 40) (v := 1) F dX11_heretics_40 ic_1 ?_
        refine v_aload_n (pc := 41) (j := 0) F dX11_heretics_41 rfl rfl ?_
        refine v_ifl (pc := 42) F fl_X11_42 dX11_heretics_42 km_0.1 km_0.2 fv_10_5 ?_
        refine v_iload_n (pc := 45) (j := 2) F dX11_heretics_45 rfl rfl ?_
        obtain ⟨v12, e13, hf⟩ := bnd_some hf
        refine v_iald (pc := 46) F dX11_heretics_46 km_5.1 km_5.2 e13 ?_
        refine v_ishl (pc := 47) F dX11_heretics_47 ?_
        refine v_goto (pc := 48) (tgt := 52) F dX11_heretics_48 (by decide) ?_
        refine V.sub (lv' := [(0, .ref (gA g 0)), (2, .int s1.2)]) [0, 2] rfl ?_
        exact tX11_heretics_52 F hk hx0 hf
set_option maxRecDepth 100000 in
set_option maxHeartbeats 4000000 in
theorem kX11_heretics {l : Launch} {g : GE} {B : Nat} {h : ST} {y : Int32} (hf : fX11_heretics h = some y) : CT l yX11_heretics cX11_heretics 3 (some .int) 1 KM 43 g B [.ref (gA g 0)] h (some (.int y)) h := by
  refine CT.of pn_X11 (Nat.le_of_ble_eq_true rfl) ?_
  intro p e s m below meth c hr F
  have F : Fx p s m _ meth c cX11_heretics 3 "DustParishModel" 43 g B := F
  refine V_lv (lv' := [(0, .ref (gA g 0))]) rfl ?_
  unfold fX11_heretics at hf
  refine v_iconst (pc := 0) (v := 0) F dX11_heretics_0 ic_0 ?_
  refine v_istore_n (pc := 1) (lv' := [(0, .ref (gA g 0)), (1, .int 0)]) F dX11_heretics_1 rfl (by decide) rfl ?_
  refine v_iconst (pc := 2) (v := 0) F dX11_heretics_2 ic_0 ?_
  refine v_istore_n (pc := 3) (lv' := [(0, .ref (gA g 0)), (1, .int 0), (2, .int 0)]) F dX11_heretics_3 rfl (by decide) rfl ?_
  obtain ⟨x14, e15, hf⟩ := bnd_some hf
  refine tX11_heretics_4 (s0 := (0, 0)) F ?_ e15
  refine v_iload_n (pc := 60) (j := 0) F dX11_heretics_60 rfl rfl ?_
  exact v_iret (pc := 61) F hr dX11_heretics_61 (Option.some.inj hf) rfl (Nat.zero_le _)
def fX11_count (h : ST) (a1 : Int32) : Option (Int32 × ST) :=
  bnd (pw h 0 2 0) fun h1 =>
  if a1 = 0 then
  bnd (rd 14 (h1 3) a1) fun v4 =>
    some (v4, h1)
  else
  if a1 = 1 then
  bnd (rd 14 (h1 3) a1) fun v7 =>
    some (v7, h1)
  else
  if a1 = 2 then
  bnd (rd 14 (h1 3) a1) fun v10 =>
    some (v10, h1)
  else
  if a1 = 3 then
  bnd (rd 14 (h1 3) a1) fun v13 =>
    some (v13, h1)
  else
  if a1 = 4 then
  bnd (rd 14 (h1 3) a1) fun v16 =>
    some (v16, h1)
  else
  if a1 = 5 then
  bnd (rd 14 (h1 3) a1) fun v19 =>
    some (v19, h1)
  else
  if a1 = 6 then
  some (h1 0 33, h1)
  else
  if a1 = 7 then
  bnd (fX11_allDust h1) fun r23 =>
    some (r23, h1)
  else
  if a1 = 8 then
  some (h1 0 34, h1)
  else
  if a1 = 9 then
  some (h1 0 35, h1)
  else
  if a1 = 10 then
  bnd (fX11_heretics h1) fun r28 =>
    some (r28, h1)
  else
  if a1 = 11 then
  some (h1 0 36, h1)
  else
  if a1 = 12 then
  some (h1 0 37, h1)
  else
  if a1 = 13 then
  some (h1 0 19, h1)
  else
  if a1 = 14 then
  bnd (rd 3 (h1 17) (a1 - 14)) fun v34 =>
    some (v34, h1)
  else
  if a1 = 15 then
  bnd (rd 3 (h1 17) (a1 - 14)) fun v37 =>
    some (v37, h1)
  else
  if a1 = 16 then
  bnd (rd 3 (h1 17) (a1 - 14)) fun v40 =>
    some (v40, h1)
  else
  bnd (fX11_fail h1 1) fun r42 =>
  some (r42.1, r42.2)
set_option maxRecDepth 100000 in
set_option maxHeartbeats 4000000 in
theorem kX11_count {l : Launch} {g : GE} {B : Nat} {h : ST} {a1 : Int32} {y : Int32 × ST} (hf : fX11_count h a1 = some y) : CT l yX11_count cX11_count 2 (some .int) 2 KM 43 g B [.ref (gA g 0), .int a1] h (some (.int y.1)) y.2 := by
  refine CT.of pn_X11 (Nat.le_of_ble_eq_true rfl) ?_
  intro p e s m below meth c hr F
  have F : Fx p s m _ meth c cX11_count 2 "DustParishModel" 43 g B := F
  refine V_lv (lv' := [(0, .ref (gA g 0)), (1, .int a1)]) rfl ?_
  unfold fX11_count at hf
  refine v_aload_n (pc := 0) (j := 0) F dX11_count_0 rfl rfl ?_
  refine v_iconst (pc := 1) (v := 0) F dX11_count_1 ic_0 ?_
  obtain ⟨h1, e2, hf⟩ := bnd_some hf
  refine v_pfl (pc := 2) F fl_X11_157 pl_10_2 dX11_count_2 km_0.1 km_0.2 fv_10_2 rfl rfl e2 ?_
  refine v_iload_n (pc := 5) (j := 1) F dX11_count_5 rfl rfl ?_
  by_cases c3 : a1 = 0
  · have hf := ite_t hf c3
    refine v_tabIn (pc := 6) (off := 82) (tgt := 88) F dX11_count_6 (by rw [c3]; decide) (by rw [c3]; decide) (by rw [c3]; rfl) (by decide) ?_
    refine v_aload_n (pc := 88) (j := 0) F dX11_count_88 rfl rfl ?_
    refine v_ifl (pc := 89) F fl_X11_36 dX11_count_89 km_0.1 km_0.2 fv_10_3 ?_
    refine v_iload_n (pc := 92) (j := 1) F dX11_count_92 rfl rfl ?_
    obtain ⟨v4, e5, hf⟩ := bnd_some hf
    refine v_iald (pc := 93) F dX11_count_93 km_3.1 km_3.2 e5 ?_
    exact v_iret (pc := 94) F hr dX11_count_94 (some_fst hf) (some_snd hf) (Nat.zero_le _)
  have hf := ite_f hf c3
  by_cases c6 : a1 = 1
  · have hf := ite_t hf c6
    refine v_tabIn (pc := 6) (off := 82) (tgt := 88) F dX11_count_6 (by rw [c6]; decide) (by rw [c6]; decide) (by rw [c6]; rfl) (by decide) ?_
    refine v_aload_n (pc := 88) (j := 0) F dX11_count_88 rfl rfl ?_
    refine v_ifl (pc := 89) F fl_X11_36 dX11_count_89 km_0.1 km_0.2 fv_10_3 ?_
    refine v_iload_n (pc := 92) (j := 1) F dX11_count_92 rfl rfl ?_
    obtain ⟨v7, e8, hf⟩ := bnd_some hf
    refine v_iald (pc := 93) F dX11_count_93 km_3.1 km_3.2 e8 ?_
    exact v_iret (pc := 94) F hr dX11_count_94 (some_fst hf) (some_snd hf) (Nat.zero_le _)
  have hf := ite_f hf c6
  by_cases c9 : a1 = 2
  · have hf := ite_t hf c9
    refine v_tabIn (pc := 6) (off := 82) (tgt := 88) F dX11_count_6 (by rw [c9]; decide) (by rw [c9]; decide) (by rw [c9]; rfl) (by decide) ?_
    refine v_aload_n (pc := 88) (j := 0) F dX11_count_88 rfl rfl ?_
    refine v_ifl (pc := 89) F fl_X11_36 dX11_count_89 km_0.1 km_0.2 fv_10_3 ?_
    refine v_iload_n (pc := 92) (j := 1) F dX11_count_92 rfl rfl ?_
    obtain ⟨v10, e11, hf⟩ := bnd_some hf
    refine v_iald (pc := 93) F dX11_count_93 km_3.1 km_3.2 e11 ?_
    exact v_iret (pc := 94) F hr dX11_count_94 (some_fst hf) (some_snd hf) (Nat.zero_le _)
  have hf := ite_f hf c9
  by_cases c12 : a1 = 3
  · have hf := ite_t hf c12
    refine v_tabIn (pc := 6) (off := 82) (tgt := 88) F dX11_count_6 (by rw [c12]; decide) (by rw [c12]; decide) (by rw [c12]; rfl) (by decide) ?_
    refine v_aload_n (pc := 88) (j := 0) F dX11_count_88 rfl rfl ?_
    refine v_ifl (pc := 89) F fl_X11_36 dX11_count_89 km_0.1 km_0.2 fv_10_3 ?_
    refine v_iload_n (pc := 92) (j := 1) F dX11_count_92 rfl rfl ?_
    obtain ⟨v13, e14, hf⟩ := bnd_some hf
    refine v_iald (pc := 93) F dX11_count_93 km_3.1 km_3.2 e14 ?_
    exact v_iret (pc := 94) F hr dX11_count_94 (some_fst hf) (some_snd hf) (Nat.zero_le _)
  have hf := ite_f hf c12
  by_cases c15 : a1 = 4
  · have hf := ite_t hf c15
    refine v_tabIn (pc := 6) (off := 82) (tgt := 88) F dX11_count_6 (by rw [c15]; decide) (by rw [c15]; decide) (by rw [c15]; rfl) (by decide) ?_
    refine v_aload_n (pc := 88) (j := 0) F dX11_count_88 rfl rfl ?_
    refine v_ifl (pc := 89) F fl_X11_36 dX11_count_89 km_0.1 km_0.2 fv_10_3 ?_
    refine v_iload_n (pc := 92) (j := 1) F dX11_count_92 rfl rfl ?_
    obtain ⟨v16, e17, hf⟩ := bnd_some hf
    refine v_iald (pc := 93) F dX11_count_93 km_3.1 km_3.2 e17 ?_
    exact v_iret (pc := 94) F hr dX11_count_94 (some_fst hf) (some_snd hf) (Nat.zero_le _)
  have hf := ite_f hf c15
  by_cases c18 : a1 = 5
  · have hf := ite_t hf c18
    refine v_tabIn (pc := 6) (off := 82) (tgt := 88) F dX11_count_6 (by rw [c18]; decide) (by rw [c18]; decide) (by rw [c18]; rfl) (by decide) ?_
    refine v_aload_n (pc := 88) (j := 0) F dX11_count_88 rfl rfl ?_
    refine v_ifl (pc := 89) F fl_X11_36 dX11_count_89 km_0.1 km_0.2 fv_10_3 ?_
    refine v_iload_n (pc := 92) (j := 1) F dX11_count_92 rfl rfl ?_
    obtain ⟨v19, e20, hf⟩ := bnd_some hf
    refine v_iald (pc := 93) F dX11_count_93 km_3.1 km_3.2 e20 ?_
    exact v_iret (pc := 94) F hr dX11_count_94 (some_fst hf) (some_snd hf) (Nat.zero_le _)
  have hf := ite_f hf c18
  by_cases c21 : a1 = 6
  · have hf := ite_t hf c21
    refine v_tabIn (pc := 6) (off := 89) (tgt := 95) F dX11_count_6 (by rw [c21]; decide) (by rw [c21]; decide) (by rw [c21]; rfl) (by decide) ?_
    refine v_aload_n (pc := 95) (j := 0) F dX11_count_95 rfl rfl ?_
    refine v_ifl (pc := 96) F fl_X11_333 dX11_count_96 km_0.1 km_0.2 fv_10_33 ?_
    exact v_iret (pc := 99) F hr dX11_count_99 (some_fst hf) (some_snd hf) (Nat.zero_le _)
  have hf := ite_f hf c21
  by_cases c22 : a1 = 7
  · have hf := ite_t hf c22
    refine v_tabIn (pc := 6) (off := 94) (tgt := 100) F dX11_count_6 (by rw [c22]; decide) (by rw [c22]; decide) (by rw [c22]; rfl) (by decide) ?_
    refine v_aload_n (pc := 100) (j := 0) F dX11_count_100 rfl rfl ?_
    obtain ⟨r23, e24, hf⟩ := bnd_some hf
    refine v_callVi (pc := 101) (As := []) F cl_X11_381 dX11_count_101 (kX11_allDust e24) km_0.1 km_0.2 rc_10 rfl rfl (Nat.le_of_ble_eq_true rfl) (by decide) (Nat.zero_le _) ?_
    exact v_iret (pc := 104) F hr dX11_count_104 (some_fst hf) (some_snd hf) (Nat.zero_le _)
  have hf := ite_f hf c22
  by_cases c25 : a1 = 8
  · have hf := ite_t hf c25
    refine v_tabIn (pc := 6) (off := 99) (tgt := 105) F dX11_count_6 (by rw [c25]; decide) (by rw [c25]; decide) (by rw [c25]; rfl) (by decide) ?_
    refine v_aload_n (pc := 105) (j := 0) F dX11_count_105 rfl rfl ?_
    refine v_ifl (pc := 106) F fl_X11_335 dX11_count_106 km_0.1 km_0.2 fv_10_34 ?_
    exact v_iret (pc := 109) F hr dX11_count_109 (some_fst hf) (some_snd hf) (Nat.zero_le _)
  have hf := ite_f hf c25
  by_cases c26 : a1 = 9
  · have hf := ite_t hf c26
    refine v_tabIn (pc := 6) (off := 104) (tgt := 110) F dX11_count_6 (by rw [c26]; decide) (by rw [c26]; decide) (by rw [c26]; rfl) (by decide) ?_
    refine v_aload_n (pc := 110) (j := 0) F dX11_count_110 rfl rfl ?_
    refine v_ifl (pc := 111) F fl_X11_338 dX11_count_111 km_0.1 km_0.2 fv_10_35 ?_
    exact v_iret (pc := 114) F hr dX11_count_114 (some_fst hf) (some_snd hf) (Nat.zero_le _)
  have hf := ite_f hf c26
  by_cases c27 : a1 = 10
  · have hf := ite_t hf c27
    refine v_tabIn (pc := 6) (off := 109) (tgt := 115) F dX11_count_6 (by rw [c27]; decide) (by rw [c27]; decide) (by rw [c27]; rfl) (by decide) ?_
    refine v_aload_n (pc := 115) (j := 0) F dX11_count_115 rfl rfl ?_
    obtain ⟨r28, e29, hf⟩ := bnd_some hf
    refine v_callVi (pc := 116) (As := []) F cl_X11_384 dX11_count_116 (kX11_heretics e29) km_0.1 km_0.2 rc_10 rfl rfl (Nat.le_of_ble_eq_true rfl) (by decide) (Nat.zero_le _) ?_
    exact v_iret (pc := 119) F hr dX11_count_119 (some_fst hf) (some_snd hf) (Nat.zero_le _)
  have hf := ite_f hf c27
  by_cases c30 : a1 = 11
  · have hf := ite_t hf c30
    refine v_tabIn (pc := 6) (off := 114) (tgt := 120) F dX11_count_6 (by rw [c30]; decide) (by rw [c30]; decide) (by rw [c30]; rfl) (by decide) ?_
    refine v_aload_n (pc := 120) (j := 0) F dX11_count_120 rfl rfl ?_
    refine v_ifl (pc := 121) F fl_X11_341 dX11_count_121 km_0.1 km_0.2 fv_10_36 ?_
    exact v_iret (pc := 124) F hr dX11_count_124 (some_fst hf) (some_snd hf) (Nat.zero_le _)
  have hf := ite_f hf c30
  by_cases c31 : a1 = 12
  · have hf := ite_t hf c31
    refine v_tabIn (pc := 6) (off := 119) (tgt := 125) F dX11_count_6 (by rw [c31]; decide) (by rw [c31]; decide) (by rw [c31]; rfl) (by decide) ?_
    refine v_aload_n (pc := 125) (j := 0) F dX11_count_125 rfl rfl ?_
    refine v_ifl (pc := 126) F fl_X11_344 dX11_count_126 km_0.1 km_0.2 fv_10_37 ?_
    exact v_iret (pc := 129) F hr dX11_count_129 (some_fst hf) (some_snd hf) (Nat.zero_le _)
  have hf := ite_f hf c31
  by_cases c32 : a1 = 13
  · have hf := ite_t hf c32
    refine v_tabIn (pc := 6) (off := 124) (tgt := 130) F dX11_count_6 (by rw [c32]; decide) (by rw [c32]; decide) (by rw [c32]; rfl) (by decide) ?_
    refine v_aload_n (pc := 130) (j := 0) F dX11_count_130 rfl rfl ?_
    refine v_ifl (pc := 131) F fl_X11_166 dX11_count_131 km_0.1 km_0.2 fv_10_19 ?_
    exact v_iret (pc := 134) F hr dX11_count_134 (some_fst hf) (some_snd hf) (Nat.zero_le _)
  have hf := ite_f hf c32
  by_cases c33 : a1 = 14
  · have hf := ite_t hf c33
    refine v_tabIn (pc := 6) (off := 129) (tgt := 135) F dX11_count_6 (by rw [c33]; decide) (by rw [c33]; decide) (by rw [c33]; rfl) (by decide) ?_
    refine v_aload_n (pc := 135) (j := 0) F dX11_count_135 rfl rfl ?_
    refine v_ifl (pc := 136) F fl_X11_77 dX11_count_136 km_0.1 km_0.2 fv_10_17 ?_
    refine v_iload_n (pc := 139) (j := 1) F dX11_count_139 rfl rfl ?_
    refine v_bipush (pc := 140) (v := 14) F dX11_count_140 bp_14 ?_
    refine v_isub (pc := 142) F dX11_count_142 ?_
    obtain ⟨v34, e35, hf⟩ := bnd_some hf
    refine v_iald (pc := 143) F dX11_count_143 km_17.1 km_17.2 e35 ?_
    exact v_iret (pc := 144) F hr dX11_count_144 (some_fst hf) (some_snd hf) (Nat.zero_le _)
  have hf := ite_f hf c33
  by_cases c36 : a1 = 15
  · have hf := ite_t hf c36
    refine v_tabIn (pc := 6) (off := 129) (tgt := 135) F dX11_count_6 (by rw [c36]; decide) (by rw [c36]; decide) (by rw [c36]; rfl) (by decide) ?_
    refine v_aload_n (pc := 135) (j := 0) F dX11_count_135 rfl rfl ?_
    refine v_ifl (pc := 136) F fl_X11_77 dX11_count_136 km_0.1 km_0.2 fv_10_17 ?_
    refine v_iload_n (pc := 139) (j := 1) F dX11_count_139 rfl rfl ?_
    refine v_bipush (pc := 140) (v := 14) F dX11_count_140 bp_14 ?_
    refine v_isub (pc := 142) F dX11_count_142 ?_
    obtain ⟨v37, e38, hf⟩ := bnd_some hf
    refine v_iald (pc := 143) F dX11_count_143 km_17.1 km_17.2 e38 ?_
    exact v_iret (pc := 144) F hr dX11_count_144 (some_fst hf) (some_snd hf) (Nat.zero_le _)
  have hf := ite_f hf c36
  by_cases c39 : a1 = 16
  · have hf := ite_t hf c39
    refine v_tabIn (pc := 6) (off := 129) (tgt := 135) F dX11_count_6 (by rw [c39]; decide) (by rw [c39]; decide) (by rw [c39]; rfl) (by decide) ?_
    refine v_aload_n (pc := 135) (j := 0) F dX11_count_135 rfl rfl ?_
    refine v_ifl (pc := 136) F fl_X11_77 dX11_count_136 km_0.1 km_0.2 fv_10_17 ?_
    refine v_iload_n (pc := 139) (j := 1) F dX11_count_139 rfl rfl ?_
    refine v_bipush (pc := 140) (v := 14) F dX11_count_140 bp_14 ?_
    refine v_isub (pc := 142) F dX11_count_142 ?_
    obtain ⟨v40, e41, hf⟩ := bnd_some hf
    refine v_iald (pc := 143) F dX11_count_143 km_17.1 km_17.2 e41 ?_
    exact v_iret (pc := 144) F hr dX11_count_144 (some_fst hf) (some_snd hf) (Nat.zero_le _)
  have hf := ite_f hf c39
  have n_c3 : ¬ (a1).toInt = 0 := lv_neT c3 rfl
  have n_c6 : ¬ (a1).toInt = 1 := lv_neT c6 rfl
  have n_c9 : ¬ (a1).toInt = 2 := lv_neT c9 rfl
  have n_c12 : ¬ (a1).toInt = 3 := lv_neT c12 rfl
  have n_c15 : ¬ (a1).toInt = 4 := lv_neT c15 rfl
  have n_c18 : ¬ (a1).toInt = 5 := lv_neT c18 rfl
  have n_c21 : ¬ (a1).toInt = 6 := lv_neT c21 rfl
  have n_c22 : ¬ (a1).toInt = 7 := lv_neT c22 rfl
  have n_c25 : ¬ (a1).toInt = 8 := lv_neT c25 rfl
  have n_c26 : ¬ (a1).toInt = 9 := lv_neT c26 rfl
  have n_c27 : ¬ (a1).toInt = 10 := lv_neT c27 rfl
  have n_c30 : ¬ (a1).toInt = 11 := lv_neT c30 rfl
  have n_c31 : ¬ (a1).toInt = 12 := lv_neT c31 rfl
  have n_c32 : ¬ (a1).toInt = 13 := lv_neT c32 rfl
  have n_c33 : ¬ (a1).toInt = 14 := lv_neT c33 rfl
  have n_c36 : ¬ (a1).toInt = 15 := lv_neT c36 rfl
  have n_c39 : ¬ (a1).toInt = 16 := lv_neT c39 rfl
  refine v_tabOut (pc := 6) (tgt := 145) F dX11_count_6 (by omega) (by decide) ?_
  refine v_aload_n (pc := 145) (j := 0) F dX11_count_145 rfl rfl ?_
  refine v_iconst (pc := 146) (v := 1) F dX11_count_146 ic_1 ?_
  obtain ⟨r42, e43, hf⟩ := bnd_some hf
  refine v_callVi (pc := 147) (As := [.int 1]) F cl_X11_320 dX11_count_147 (kX11_fail e43) km_0.1 km_0.2 rc_10 rfl rfl (Nat.le_of_ble_eq_true rfl) (by decide) (Nat.zero_le _) ?_
  exact v_iret (pc := 150) F hr dX11_count_150 (some_fst hf) (some_snd hf) (Nat.zero_le _)
def fX11_refuse (h : ST) (a1 : Int32) : Option (Int32 × ST) :=
  bnd (rd 3 (h 17) a1) fun v1 =>
  bnd (wr 3 h 17 a1 (v1 + 1)) fun h3 =>
  some ((-1), h3)
set_option maxRecDepth 100000 in
set_option maxHeartbeats 4000000 in
theorem kX11_refuse {l : Launch} {g : GE} {B : Nat} {h : ST} {a1 : Int32} {y : Int32 × ST} (hf : fX11_refuse h a1 = some y) : CT l yX11_refuse cX11_refuse 2 (some .int) 1 KM 43 g B [.ref (gA g 0), .int a1] h (some (.int y.1)) y.2 := by
  refine CT.of pn_X11 (Nat.le_of_ble_eq_true rfl) ?_
  intro p e s m below meth c hr F
  have F : Fx p s m _ meth c cX11_refuse 2 "DustParishModel" 43 g B := F
  refine V_lv (lv' := [(0, .ref (gA g 0)), (1, .int a1)]) rfl ?_
  unfold fX11_refuse at hf
  refine v_aload_n (pc := 0) (j := 0) F dX11_refuse_0 rfl rfl ?_
  refine v_ifl (pc := 1) F fl_X11_77 dX11_refuse_1 km_0.1 km_0.2 fv_10_17 ?_
  refine v_iload_n (pc := 4) (j := 1) F dX11_refuse_4 rfl rfl ?_
  refine v_dup2_11 (pc := 5) F dX11_refuse_5 rfl rfl ?_
  obtain ⟨v1, e2, hf⟩ := bnd_some hf
  refine v_iald (pc := 6) F dX11_refuse_6 km_17.1 km_17.2 e2 ?_
  refine v_iconst (pc := 7) (v := 1) F dX11_refuse_7 ic_1 ?_
  refine v_iadd (pc := 8) F dX11_refuse_8 ?_
  obtain ⟨h3, e4, hf⟩ := bnd_some hf
  refine v_iast (pc := 9) F dX11_refuse_9 km_17.1 km_17.2 e4 ?_
  refine v_iconst (pc := 10) (v := (-1)) F dX11_refuse_10 ic_m1 ?_
  exact v_iret (pc := 11) F hr dX11_refuse_11 (some_fst hf) (some_snd hf) (Nat.zero_le _)
def fX11_keep_52 (h : ST)  : Option (ST) :=
  bnd (fX11_pack h 22 1240 (31 * (h 0 36))) fun r2 =>
  bnd (pw r2 0 36 ((r2 0 36) + 1)) fun h4 =>
  some h4
def fX11_keep_12 (s1 : (ST × Int32)) : Option ((ST × Int32) ⊕ ST) :=
  if (Int32.ofNat 1240) ≤ s1.2 then
  some (.inr s1.1)
  else
  bnd (rd 1240 (s1.1 22) s1.2) fun v7 =>
    bnd (wr 1240 s1.1 22 (s1.2 - 31) v7) fun h9 =>
    some (.inl (h9, s1.2 + 1))
def fX11_keep (h : ST) : Option (ST) :=
  if (h 0 36) = 40 then
  bnd (lp FU (fX11_keep_12) (h, 31)) fun x11 =>
    bnd (pw x11 0 36 ((x11 0 36) - 1)) fun h13 =>
    fX11_keep_52 h13 
  else
  fX11_keep_52 h 
set_option maxRecDepth 100000 in
set_option maxHeartbeats 4000000 in
theorem tX11_keep_52 {p : Program} {l : Launch} {e : Env} {s : State} {m : MethodId} {args : Array Value} {below : List Frame} {meth : Method} {c : Code} {g : GE} {B : Nat} {h : ST}  (F : Fx p s m args meth c cX11_keep 2 "DustParishModel" 43 g B)
    {y : ST} (hr : meth.sig.returnType = none) (hf : fX11_keep_52 h  = some y) : V p l e 2 0 s m args below meth c (MQ below (QO KM 43 g none y) args s 0 (6 * 0) (fun q => B ≤ q)) KM 43 g B 2 0 h 52 [(0, .ref (gA g 0))] [] := by
  unfold fX11_keep_52 at hf
  refine v_aload_n (pc := 52) (j := 0) F dX11_keep_52 rfl rfl ?_
  refine v_aload_n (pc := 53) (j := 0) F dX11_keep_53 rfl rfl ?_
  refine v_ifl (pc := 54) F fl_X11_94 dX11_keep_54 km_0.1 km_0.2 fv_10_32 ?_
  refine v_bipush (pc := 57) (v := 31) F dX11_keep_57 bp_31 ?_
  refine v_aload_n (pc := 59) (j := 0) F dX11_keep_59 rfl rfl ?_
  refine v_ifl (pc := 60) F fl_X11_341 dX11_keep_60 km_0.1 km_0.2 fv_10_36 ?_
  refine v_imul (pc := 63) F dX11_keep_63 ?_
  obtain ⟨r2, e3, hf⟩ := bnd_some hf
  refine v_callVv (pc := 64) (As := [.ref (gA g 22), .int (31 * (h 0 36))]) F cl_X11_403 dX11_keep_64 (kX11_pack km_22.1 km_22.2 e3) km_0.1 km_0.2 rc_10 rfl rfl (Nat.le_of_ble_eq_true rfl) (by decide) (Nat.zero_le _) ?_
  refine v_aload_n (pc := 67) (j := 0) F dX11_keep_67 rfl rfl ?_
  refine v_dup (pc := 68) F dX11_keep_68 rfl ?_
  refine v_ifl (pc := 69) F fl_X11_341 dX11_keep_69 km_0.1 km_0.2 fv_10_36 ?_
  refine v_iconst (pc := 72) (v := 1) F dX11_keep_72 ic_1 ?_
  refine v_iadd (pc := 73) F dX11_keep_73 ?_
  obtain ⟨h4, e5, hf⟩ := bnd_some hf
  refine v_pfl (pc := 74) F fl_X11_341 pl_10_36 dX11_keep_74 km_0.1 km_0.2 fv_10_36 rfl rfl e5 ?_
  exact v_vret (pc := 77) F hr dX11_keep_77 (Option.some.inj hf) (Nat.zero_le _)
set_option maxRecDepth 100000 in
set_option maxHeartbeats 4000000 in
theorem tX11_keep_12 {p : Program} {l : Launch} {e : Env} {s : State} {m : MethodId} {args : Array Value} {below : List Frame} {meth : Method} {c : Code} {g : GE} {B : Nat}  {Q : State → Prop} {x : ST} {nf : Nat} {s0 : (ST × Int32)} (F : Fx p s m args meth c cX11_keep 2 "DustParishModel" 43 g B) (hX0 : V p l e 2 0 s m args below meth c Q KM 43 g B 2 0 x 42 [(0, .ref (gA g 0))] []) (hl : lp nf (fX11_keep_12) s0 = some x) : V p l e 2 0 s m args below meth c Q KM 43 g B 2 0 s0.1 12 [(0, .ref (gA g 0)), (1, .int s0.2)] [] := by
  refine lp_ind (P := fun s0 => V p l e 2 0 s m args below meth c Q KM 43 g B 2 0 s0.1 12 [(0, .ref (gA g 0)), (1, .int s0.2)] []) ?_ nf s0 hl
  intro s1 y hf hk hx
  have hx0 : ∀ v : ST, y = Sum.inr v → V p l e 2 0 s m args below meth c Q KM 43 g B 2 0 v 42 [(0, .ref (gA g 0))] [] := fun v e9 => by rw [hx v e9]; exact hX0
  unfold fX11_keep_12 at hf
  refine v_iload_n (pc := 12) (j := 1) F dX11_keep_12 rfl rfl ?_
  refine v_aload_n (pc := 13) (j := 0) F dX11_keep_13 rfl rfl ?_
  refine v_ifl (pc := 14) F fl_X11_94 dX11_keep_14 km_0.1 km_0.2 fv_10_32 ?_
  refine v_alen (pc := 17) (v := Int32.ofNat 1240) F dX11_keep_17 km_22.1 km_22.2 (by decide) (by decide) rfl ?_
  refine v_icmp_ge (pc := 18) (tgt := 42) F dX11_keep_18 (by decide) (fun c6 => ?_) (fun c6 => ?_)
  · have hf := ite_t hf c6
    refine V.sub (lv' := [(0, .ref (gA g 0))]) [0] rfl ?_
    exact hx0 s1.1 (Option.some.inj hf).symm
  · have hf := ite_f hf c6
    refine v_aload_n (pc := 21) (j := 0) F dX11_keep_21 rfl rfl ?_
    refine v_ifl (pc := 22) F fl_X11_94 dX11_keep_22 km_0.1 km_0.2 fv_10_32 ?_
    refine v_iload_n (pc := 25) (j := 1) F dX11_keep_25 rfl rfl ?_
    refine v_bipush (pc := 26) (v := 31) F dX11_keep_26 bp_31 ?_
    refine v_isub (pc := 28) F dX11_keep_28 ?_
    refine v_aload_n (pc := 29) (j := 0) F dX11_keep_29 rfl rfl ?_
    refine v_ifl (pc := 30) F fl_X11_94 dX11_keep_30 km_0.1 km_0.2 fv_10_32 ?_
    refine v_iload_n (pc := 33) (j := 1) F dX11_keep_33 rfl rfl ?_
    obtain ⟨v7, e8, hf⟩ := bnd_some hf
    refine v_iald (pc := 34) F dX11_keep_34 km_22.1 km_22.2 e8 ?_
    obtain ⟨h9, e10, hf⟩ := bnd_some hf
    refine v_iast (pc := 35) F dX11_keep_35 km_22.1 km_22.2 e10 ?_
    refine v_iinc (pc := 36) (j := 1) (v := s1.2 + 1) (lv' := [(0, .ref (gA g 0)), (1, .int (s1.2 + 1))]) F dX11_keep_36 rfl (congrArg (fun z => s1.2 + z) ic_1) (by decide) rfl ?_
    refine v_goto (pc := 39) (tgt := 12) F dX11_keep_39 (by decide) ?_
    exact hk (h9, s1.2 + 1) (Option.some.inj hf).symm
set_option maxRecDepth 100000 in
set_option maxHeartbeats 4000000 in
theorem kX11_keep {l : Launch} {g : GE} {B : Nat} {h : ST} {y : ST} (hf : fX11_keep h = some y) : CT l yX11_keep cX11_keep 2 none 2 KM 43 g B [.ref (gA g 0)] h none y := by
  refine CT.of pn_X11 (Nat.le_of_ble_eq_true rfl) ?_
  intro p e s m below meth c hr F
  have F : Fx p s m _ meth c cX11_keep 2 "DustParishModel" 43 g B := F
  refine V_lv (lv' := [(0, .ref (gA g 0))]) rfl ?_
  unfold fX11_keep at hf
  refine v_aload_n (pc := 0) (j := 0) F dX11_keep_0 rfl rfl ?_
  refine v_ifl (pc := 1) F fl_X11_341 dX11_keep_1 km_0.1 km_0.2 fv_10_36 ?_
  refine v_bipush (pc := 4) (v := 40) F dX11_keep_4 bp_40 ?_
  refine v_icmp_ne (pc := 6) (tgt := 52) F dX11_keep_6 (by decide) (fun c1 => ?_) (fun c1 => ?_)
  · have hf := ite_f hf c1
    exact tX11_keep_52 F hr hf
  · have hf := ite_t hf c1
    refine v_bipush (pc := 9) (v := 31) F dX11_keep_9 bp_31 ?_
    refine v_istore_n (pc := 11) (lv' := [(0, .ref (gA g 0)), (1, .int 31)]) F dX11_keep_11 rfl (by decide) rfl ?_
    obtain ⟨x11, e12, hf⟩ := bnd_some hf
    refine tX11_keep_12 (s0 := (h, 31)) F ?_ e12
    refine v_aload_n (pc := 42) (j := 0) F dX11_keep_42 rfl rfl ?_
    refine v_dup (pc := 43) F dX11_keep_43 rfl ?_
    refine v_ifl (pc := 44) F fl_X11_341 dX11_keep_44 km_0.1 km_0.2 fv_10_36 ?_
    refine v_iconst (pc := 47) (v := 1) F dX11_keep_47 ic_1 ?_
    refine v_isub (pc := 48) F dX11_keep_48 ?_
    obtain ⟨h13, e14, hf⟩ := bnd_some hf
    refine v_pfl (pc := 49) F fl_X11_341 pl_10_36 dX11_keep_49 km_0.1 km_0.2 fv_10_36 rfl rfl e14 ?_
    exact tX11_keep_52 F hr hf
def fX11_goOn_2 (l1 : Int32) (s1 : (ST × Int32)) : Option ((ST × Int32) ⊕ ST) :=
  if l1 ≤ s1.2 then
  some (.inr s1.1)
  else
  bnd (fX11_aDay s1.1) fun r2 =>
    some (.inl (r2, s1.2 + 1))
def fX11_goOn (h : ST) (a1 : Int32) : Option (ST) :=
  bnd (lp FU (fX11_goOn_2 a1) (h, 0)) fun x4 =>
  some x4
set_option maxRecDepth 100000 in
set_option maxHeartbeats 4000000 in
theorem tX11_goOn_2 {p : Program} {l : Launch} {e : Env} {s : State} {m : MethodId} {args : Array Value} {below : List Frame} {meth : Method} {c : Code} {g : GE} {B : Nat}  {l1 : Int32} {Q : State → Prop} {x : ST} {nf : Nat} {s0 : (ST × Int32)} (F : Fx p s m args meth c cX11_goOn 3 "DustParishModel" 43 g B) (hX0 : V p l e 7 0 s m args below meth c Q KM 43 g B 3 0 x 17 [] []) (hl : lp nf (fX11_goOn_2 l1) s0 = some x) : V p l e 7 0 s m args below meth c Q KM 43 g B 3 0 s0.1 2 [(0, .ref (gA g 0)), (1, .int l1), (2, .int s0.2)] [] := by
  refine lp_ind (P := fun s0 => V p l e 7 0 s m args below meth c Q KM 43 g B 3 0 s0.1 2 [(0, .ref (gA g 0)), (1, .int l1), (2, .int s0.2)] []) ?_ nf s0 hl
  intro s1 y hf hk hx
  have hx0 : ∀ v : ST, y = Sum.inr v → V p l e 7 0 s m args below meth c Q KM 43 g B 3 0 v 17 [] [] := fun v e9 => by rw [hx v e9]; exact hX0
  unfold fX11_goOn_2 at hf
  refine v_iload_n (pc := 2) (j := 2) F dX11_goOn_2 rfl rfl ?_
  refine v_iload_n (pc := 3) (j := 1) F dX11_goOn_3 rfl rfl ?_
  refine v_icmp_ge (pc := 4) (tgt := 17) F dX11_goOn_4 (by decide) (fun c1 => ?_) (fun c1 => ?_)
  · have hf := ite_t hf c1
    refine V.sub (lv' := []) [] rfl ?_
    exact hx0 s1.1 (Option.some.inj hf).symm
  · have hf := ite_f hf c1
    refine v_aload_n (pc := 7) (j := 0) F dX11_goOn_7 rfl rfl ?_
    obtain ⟨r2, e3, hf⟩ := bnd_some hf
    refine v_callVv (pc := 8) (As := []) F cl_X11_378 dX11_goOn_8 (kX11_aDay e3) km_0.1 km_0.2 rc_10 rfl rfl (Nat.le_of_ble_eq_true rfl) (by decide) (Nat.zero_le _) ?_
    refine v_iinc (pc := 11) (j := 2) (v := s1.2 + 1) (lv' := [(0, .ref (gA g 0)), (1, .int l1), (2, .int (s1.2 + 1))]) F dX11_goOn_11 rfl (congrArg (fun z => s1.2 + z) ic_1) (by decide) rfl ?_
    refine v_goto (pc := 14) (tgt := 2) F dX11_goOn_14 (by decide) ?_
    exact hk (r2, s1.2 + 1) (Option.some.inj hf).symm
set_option maxRecDepth 100000 in
set_option maxHeartbeats 4000000 in
theorem kX11_goOn {l : Launch} {g : GE} {B : Nat} {h : ST} {a1 : Int32} {y : ST} (hf : fX11_goOn h a1 = some y) : CT l yX11_goOn cX11_goOn 3 none 7 KM 43 g B [.ref (gA g 0), .int a1] h none y := by
  refine CT.of pn_X11 (Nat.le_of_ble_eq_true rfl) ?_
  intro p e s m below meth c hr F
  have F : Fx p s m _ meth c cX11_goOn 3 "DustParishModel" 43 g B := F
  refine V_lv (lv' := [(0, .ref (gA g 0)), (1, .int a1)]) rfl ?_
  unfold fX11_goOn at hf
  refine v_iconst (pc := 0) (v := 0) F dX11_goOn_0 ic_0 ?_
  refine v_istore_n (pc := 1) (lv' := [(0, .ref (gA g 0)), (1, .int a1), (2, .int 0)]) F dX11_goOn_1 rfl (by decide) rfl ?_
  obtain ⟨x4, e5, hf⟩ := bnd_some hf
  refine tX11_goOn_2 (s0 := (h, 0)) F ?_ e5
  exact v_vret (pc := 17) F hr dX11_goOn_17 (Option.some.inj hf) (Nat.zero_le _)
def fX11_days_29 (h : ST)  : Option (Int32 × ST) :=
  bnd (fX11_refuse h 1) fun r6 =>
  some (r6.1, r6.2)
def fX11_days (h : ST) (a1 : Int32) : Option (Int32 × ST) :=
  bnd (pw h 0 2 0) fun h1 =>
  bnd (fX11_isIn h1 a1.toInt64 (1 : Int64) (30 : Int64)) fun r3 =>
  if r3 = 0 then
  fX11_days_29 h1 
  else
  if ((h1 0 33) + a1) ≤ 999 then
    bnd (fX11_keep h1) fun r9 =>
      bnd (fX11_goOn r9 a1) fun r11 =>
      some (r11 0 33, r11)
    else
    fX11_days_29 h1 
set_option maxRecDepth 100000 in
set_option maxHeartbeats 4000000 in
theorem tX11_days_29 {p : Program} {l : Launch} {e : Env} {s : State} {m : MethodId} {args : Array Value} {below : List Frame} {meth : Method} {c : Code} {g : GE} {B : Nat} {h : ST}  (F : Fx p s m args meth c cX11_days 2 "DustParishModel" 43 g B)
    {y : Int32 × ST} (hr : meth.sig.returnType = (some .int)) (hf : fX11_days_29 h  = some y) : V p l e 8 0 s m args below meth c (MQ below (QO KM 43 g (some (.int y.1)) y.2) args s 0 (6 * 0) (fun q => B ≤ q)) KM 43 g B 2 0 h 29 [(0, .ref (gA g 0))] [] := by
  unfold fX11_days_29 at hf
  refine v_aload_n (pc := 29) (j := 0) F dX11_days_29 rfl rfl ?_
  refine v_iconst (pc := 30) (v := 1) F dX11_days_30 ic_1 ?_
  obtain ⟨r6, e7, hf⟩ := bnd_some hf
  refine v_callVi (pc := 31) (As := [.int 1]) F cl_X11_409 dX11_days_31 (kX11_refuse e7) km_0.1 km_0.2 rc_10 rfl rfl (Nat.le_of_ble_eq_true rfl) (by decide) (Nat.zero_le _) ?_
  exact v_iret (pc := 34) F hr dX11_days_34 (some_fst hf) (some_snd hf) (Nat.zero_le _)
set_option maxRecDepth 100000 in
set_option maxHeartbeats 4000000 in
theorem kX11_days {l : Launch} {g : GE} {B : Nat} {h : ST} {a1 : Int32} {y : Int32 × ST} (hf : fX11_days h a1 = some y) : CT l yX11_days cX11_days 2 (some .int) 8 KM 43 g B [.ref (gA g 0), .int a1] h (some (.int y.1)) y.2 := by
  refine CT.of pn_X11 (Nat.le_of_ble_eq_true rfl) ?_
  intro p e s m below meth c hr F
  have F : Fx p s m _ meth c cX11_days 2 "DustParishModel" 43 g B := F
  refine V_lv (lv' := [(0, .ref (gA g 0)), (1, .int a1)]) rfl ?_
  unfold fX11_days at hf
  refine v_aload_n (pc := 0) (j := 0) F dX11_days_0 rfl rfl ?_
  refine v_iconst (pc := 1) (v := 0) F dX11_days_1 ic_0 ?_
  obtain ⟨h1, e2, hf⟩ := bnd_some hf
  refine v_pfl (pc := 2) F fl_X11_157 pl_10_2 dX11_days_2 km_0.1 km_0.2 fv_10_2 rfl rfl e2 ?_
  refine v_iload_n (pc := 5) (j := 1) F dX11_days_5 rfl rfl ?_
  refine v_i2l (pc := 6) F dX11_days_6 rfl ?_
  refine v_lconst (pc := 7) (v := 1) F dX11_days_7 rfl ?_
  refine v_ldc2 (pc := 8) F tw_1683 dX11_days_8 ?_
  obtain ⟨r3, e4, hf⟩ := bnd_some hf
  refine v_callSi (pc := 11) (As := [.long a1.toInt64, .long (1 : Int64), .long (30 : Int64)]) F cl_X11_160 dX11_days_11 (kX11_isIn e4) rfl rfl (Nat.le_of_ble_eq_true rfl) (by decide) (Nat.zero_le _) ?_
  refine v_if_eq (pc := 14) (tgt := 29) F dX11_days_14 (by decide) (fun c5 => ?_) (fun c5 => ?_)
  · have hf := ite_t hf c5
    refine V.sub (lv' := [(0, .ref (gA g 0))]) [0] rfl ?_
    exact tX11_days_29 F hr hf
  · have hf := ite_f hf c5
    refine v_aload_n (pc := 17) (j := 0) F dX11_days_17 rfl rfl ?_
    refine v_ifl (pc := 18) F fl_X11_333 dX11_days_18 km_0.1 km_0.2 fv_10_33 ?_
    refine v_iload_n (pc := 21) (j := 1) F dX11_days_21 rfl rfl ?_
    refine v_iadd (pc := 22) F dX11_days_22 ?_
    refine v_sipush (pc := 23) (v := 999) F dX11_days_23 sp_999 ?_
    refine v_icmp_le (pc := 26) (tgt := 35) F dX11_days_26 (by decide) (fun c8 => ?_) (fun c8 => ?_)
    · have hf := ite_t hf c8
      refine v_aload_n (pc := 35) (j := 0) F dX11_days_35 rfl rfl ?_
      obtain ⟨r9, e10, hf⟩ := bnd_some hf
      refine v_callVv (pc := 36) (As := []) F cl_X11_412 dX11_days_36 (kX11_keep e10) km_0.1 km_0.2 rc_10 rfl rfl (Nat.le_of_ble_eq_true rfl) (by decide) (Nat.zero_le _) ?_
      refine v_aload_n (pc := 39) (j := 0) F dX11_days_39 rfl rfl ?_
      refine v_iload_n (pc := 40) (j := 1) F dX11_days_40 rfl rfl ?_
      obtain ⟨r11, e12, hf⟩ := bnd_some hf
      refine v_callVv (pc := 41) (As := [.int a1]) F cl_X11_415 dX11_days_41 (kX11_goOn e12) km_0.1 km_0.2 rc_10 rfl rfl (Nat.le_of_ble_eq_true rfl) (by decide) (Nat.zero_le _) ?_
      refine v_aload_n (pc := 44) (j := 0) F dX11_days_44 rfl rfl ?_
      refine v_ifl (pc := 45) F fl_X11_333 dX11_days_45 km_0.1 km_0.2 fv_10_33 ?_
      exact v_iret (pc := 48) F hr dX11_days_48 (some_fst hf) (some_snd hf) (Nat.zero_le _)
    · have hf := ite_f hf c8
      refine V.sub (lv' := [(0, .ref (gA g 0))]) [0] rfl ?_
      exact tX11_days_29 F hr hf
def fX11_drawOf (h : ST) (a1 : Int32) : Option (Int32 × ST) :=
  bnd (pw h 0 53 (((h 0 53) * 1103515245) + 12345)) fun h1 =>
  grd (¬ a1 = 0) (
  some ((((h1 0 53) >>> ((16 : Int32) &&& 31)) &&& 32767) - (((h1 0 53) >>> ((16 : Int32) &&& 31)) &&& 32767) / a1 * a1, h1))
set_option maxRecDepth 100000 in
set_option maxHeartbeats 4000000 in
theorem kX11_drawOf {l : Launch} {g : GE} {B : Nat} {h : ST} {a1 : Int32} {y : Int32 × ST} (hf : fX11_drawOf h a1 = some y) : CT l yX11_drawOf cX11_drawOf 2 (some .int) 1 KM 43 g B [.ref (gA g 0), .int a1] h (some (.int y.1)) y.2 := by
  refine CT.of pn_X11 (Nat.le_of_ble_eq_true rfl) ?_
  intro p e s m below meth c hr F
  have F : Fx p s m _ meth c cX11_drawOf 2 "DustParishModel" 43 g B := F
  refine V_lv (lv' := [(0, .ref (gA g 0)), (1, .int a1)]) rfl ?_
  unfold fX11_drawOf at hf
  refine v_aload_n (pc := 0) (j := 0) F dX11_drawOf_0 rfl rfl ?_
  refine v_aload_n (pc := 1) (j := 0) F dX11_drawOf_1 rfl rfl ?_
  refine v_ifl (pc := 2) F fl_X11_474 dX11_drawOf_2 km_0.1 km_0.2 fv_10_53 ?_
  refine v_ldcw (pc := 5) F tw_1896 dX11_drawOf_5 ?_
  refine v_imul (pc := 8) F dX11_drawOf_8 ?_
  refine v_sipush (pc := 9) (v := 12345) F dX11_drawOf_9 sp_12345 ?_
  refine v_iadd (pc := 12) F dX11_drawOf_12 ?_
  obtain ⟨h1, e2, hf⟩ := bnd_some hf
  refine v_pfl (pc := 13) F fl_X11_474 pl_10_53 dX11_drawOf_13 km_0.1 km_0.2 fv_10_53 rfl rfl e2 ?_
  refine v_aload_n (pc := 16) (j := 0) F dX11_drawOf_16 rfl rfl ?_
  refine v_ifl (pc := 17) F fl_X11_474 dX11_drawOf_17 km_0.1 km_0.2 fv_10_53 ?_
  refine v_bipush (pc := 20) (v := 16) F dX11_drawOf_20 bp_16 ?_
  refine v_ishr (pc := 22) F dX11_drawOf_22 ?_
  refine v_sipush (pc := 23) (v := 32767) F dX11_drawOf_23 sp_32767 ?_
  refine v_iand (pc := 26) F dX11_drawOf_26 ?_
  refine v_iload_n (pc := 27) (j := 1) F dX11_drawOf_27 rfl rfl ?_
  obtain ⟨g3, hf⟩ := grd_some hf
  refine v_irem (pc := 28) F dX11_drawOf_28 g3 ?_
  exact v_iret (pc := 29) F hr dX11_drawOf_29 (some_fst hf) (some_snd hf) (Nat.zero_le _)
def fX11_isRoom (h : ST) (a1 : Int32) : Option (Int32) :=
  bnd (rd 14 (h 3) 0) fun v1 =>
  bnd (fX11_isIn h a1.toInt64 (0 : Int64) ((v1 - 1).toInt64)) fun r3 =>
  bnd (zb r3) fun z5 =>
  some z5
set_option maxRecDepth 100000 in
set_option maxHeartbeats 4000000 in
theorem kX11_isRoom {l : Launch} {g : GE} {B : Nat} {h : ST} {a1 : Int32} {y : Int32} (hf : fX11_isRoom h a1 = some y) : CT l yX11_isRoom cX11_isRoom 2 (some .boolean) 2 KM 43 g B [.ref (gA g 0), .int a1] h (some (.int y)) h := by
  refine CT.of pn_X11 (Nat.le_of_ble_eq_true rfl) ?_
  intro p e s m below meth c hr F
  have F : Fx p s m _ meth c cX11_isRoom 2 "DustParishModel" 43 g B := F
  refine V_lv (lv' := [(0, .ref (gA g 0)), (1, .int a1)]) rfl ?_
  unfold fX11_isRoom at hf
  refine v_iload_n (pc := 0) (j := 1) F dX11_isRoom_0 rfl rfl ?_
  refine v_i2l (pc := 1) F dX11_isRoom_1 rfl ?_
  refine v_lconst (pc := 2) (v := 0) F dX11_isRoom_2 rfl ?_
  refine v_aload_n (pc := 3) (j := 0) F dX11_isRoom_3 rfl rfl ?_
  refine v_ifl (pc := 4) F fl_X11_36 dX11_isRoom_4 km_0.1 km_0.2 fv_10_3 ?_
  refine v_iconst (pc := 7) (v := 0) F dX11_isRoom_7 ic_0 ?_
  obtain ⟨v1, e2, hf⟩ := bnd_some hf
  refine v_iald (pc := 8) F dX11_isRoom_8 km_3.1 km_3.2 e2 ?_
  refine v_iconst (pc := 9) (v := 1) F dX11_isRoom_9 ic_1 ?_
  refine v_isub (pc := 10) F dX11_isRoom_10 ?_
  refine v_i2l (pc := 11) F dX11_isRoom_11 rfl ?_
  obtain ⟨r3, e4, hf⟩ := bnd_some hf
  refine v_callSi (pc := 12) (As := [.long a1.toInt64, .long (0 : Int64), .long ((v1 - 1).toInt64)]) F cl_X11_160 dX11_isRoom_12 (kX11_isIn e4) rfl rfl (Nat.le_of_ble_eq_true rfl) (by decide) (Nat.zero_le _) ?_
  obtain ⟨z5, e6, hf⟩ := bnd_some hf
  exact v_zret (pc := 15) F hr dX11_isRoom_15 (zb_in e6).2 ((zb_in e6).1.symm.trans (Option.some.inj hf)) rfl (Nat.zero_le _)
def fX11_tellWays_31 (h : ST) (l1 : Int32) (q1 : Int32) (q2 : Int32) : Option ((ST × Int32) ⊕ ST) :=
  bnd (wr 81 h 26 q1 q2) fun h3 =>
  some (.inl (h3, l1 + 1))
def fX11_tellWays_2 (s1 : (ST × Int32)) : Option ((ST × Int32) ⊕ ST) :=
  if 81 ≤ s1.2 then
  some (.inr s1.1)
  else
  if (s1.2 / 9) = (s1.2 - s1.2 / 9 * 9) then
    fX11_tellWays_31 s1.1 s1.2 s1.2 0
    else
    fX11_tellWays_31 s1.1 s1.2 s1.2 1000000
def fX11_tellWays_40 (s1 : (ST × Int32)) : Option ((ST × Int32) ⊕ ST) :=
  bnd (rd 14 (s1.1 3) 1) fun v7 =>
  if v7 ≤ s1.2 then
  some (.inr s1.1)
  else
  bnd (rd 28 (s1.1 8) s1.2) fun v10 =>
    bnd (rd 28 (s1.1 9) s1.2) fun v12 =>
    bnd (rd 28 (s1.1 10) s1.2) fun v14 =>
    bnd (wr 81 s1.1 26 ((9 * v10) + v12) v14) fun h16 =>
    bnd (rd 28 (h16 9) s1.2) fun v18 =>
    bnd (rd 28 (h16 8) s1.2) fun v20 =>
    bnd (rd 28 (h16 10) s1.2) fun v22 =>
    bnd (wr 81 h16 26 ((9 * v18) + v20) v22) fun h24 =>
    some (.inl (h24, s1.2 + 1))
def fX11_tellWays_120 (l1 : Int32) (s1 : (ST × Int32)) : Option ((ST × Int32) ⊕ ST) :=
  if 81 ≤ s1.2 then
  some (.inr s1.1)
  else
  bnd (rd 81 (s1.1 26) s1.2) fun v30 =>
    bnd (rd 81 (s1.1 26) ((s1.2 - (s1.2 - s1.2 / 9 * 9)) + l1)) fun v32 =>
    bnd (rd 81 (s1.1 26) ((9 * l1) + (s1.2 - s1.2 / 9 * 9))) fun v34 =>
    bnd (wr 81 s1.1 26 s1.2 (if (v32 + v34) < v30 then (v32 + v34) else v30)) fun h36 =>
    some (.inl (h36, s1.2 + 1))
def fX11_tellWays_112 (s1 : (ST × Int32)) : Option ((ST × Int32) ⊕ ST) :=
  if 9 ≤ s1.2 then
  some (.inr s1.1)
  else
  bnd (lp FU (fX11_tellWays_120 s1.2) (s1.1, 0)) fun x38 =>
    some (.inl (x38, s1.2 + 1))
def fX11_tellWays (h : ST) : Option (ST) :=
  bnd (lp FU (fX11_tellWays_2) (h, 0)) fun x5 =>
  bnd (lp FU (fX11_tellWays_40) (x5, 0)) fun x26 =>
  bnd (lp FU (fX11_tellWays_112) (x26, 0)) fun x40 =>
  some x40
set_option maxRecDepth 100000 in
set_option maxHeartbeats 4000000 in
theorem tX11_tellWays_31 {p : Program} {l : Launch} {e : Env} {s : State} {m : MethodId} {args : Array Value} {below : List Frame} {meth : Method} {c : Code} {g : GE} {B : Nat} {h : ST}  {l1 : Int32} {q1 : Int32} {q2 : Int32} (F : Fx p s m args meth c cX11_tellWays 3 "DustParishModel" 43 g B)
    {Q : State → Prop} {y : (ST × Int32) ⊕ ST} (hk : ∀ v : (ST × Int32), y = Sum.inl v → V p l e 1 0 s m args below meth c Q KM 43 g B 3 0 v.1 2 [(0, .ref (gA g 0)), (1, .int v.2)] []) (hx0 : ∀ v : ST, y = Sum.inr v → V p l e 1 0 s m args below meth c Q KM 43 g B 3 0 v 38 [(0, .ref (gA g 0))] []) (hf : fX11_tellWays_31 h l1 q1 q2 = some y) : V p l e 1 0 s m args below meth c Q KM 43 g B 3 0 h 31 [(0, .ref (gA g 0)), (1, .int l1)] [.int q2, .int q1, .ref (gA g 26)] := by
  unfold fX11_tellWays_31 at hf
  obtain ⟨h3, e4, hf⟩ := bnd_some hf
  refine v_iast (pc := 31) F dX11_tellWays_31 km_26.1 km_26.2 e4 ?_
  refine v_iinc (pc := 32) (j := 1) (v := l1 + 1) (lv' := [(0, .ref (gA g 0)), (1, .int (l1 + 1))]) F dX11_tellWays_32 rfl (congrArg (fun z => l1 + z) ic_1) (by decide) rfl ?_
  refine v_goto (pc := 35) (tgt := 2) F dX11_tellWays_35 (by decide) ?_
  exact hk (h3, l1 + 1) (Option.some.inj hf).symm
set_option maxRecDepth 100000 in
set_option maxHeartbeats 4000000 in
theorem tX11_tellWays_2 {p : Program} {l : Launch} {e : Env} {s : State} {m : MethodId} {args : Array Value} {below : List Frame} {meth : Method} {c : Code} {g : GE} {B : Nat}  {Q : State → Prop} {x : ST} {nf : Nat} {s0 : (ST × Int32)} (F : Fx p s m args meth c cX11_tellWays 3 "DustParishModel" 43 g B) (hX0 : V p l e 1 0 s m args below meth c Q KM 43 g B 3 0 x 38 [(0, .ref (gA g 0))] []) (hl : lp nf (fX11_tellWays_2) s0 = some x) : V p l e 1 0 s m args below meth c Q KM 43 g B 3 0 s0.1 2 [(0, .ref (gA g 0)), (1, .int s0.2)] [] := by
  refine lp_ind (P := fun s0 => V p l e 1 0 s m args below meth c Q KM 43 g B 3 0 s0.1 2 [(0, .ref (gA g 0)), (1, .int s0.2)] []) ?_ nf s0 hl
  intro s1 y hf hk hx
  have hx0 : ∀ v : ST, y = Sum.inr v → V p l e 1 0 s m args below meth c Q KM 43 g B 3 0 v 38 [(0, .ref (gA g 0))] [] := fun v e9 => by rw [hx v e9]; exact hX0
  unfold fX11_tellWays_2 at hf
  refine v_iload_n (pc := 2) (j := 1) F dX11_tellWays_2 rfl rfl ?_
  refine v_bipush (pc := 3) (v := 81) F dX11_tellWays_3 bp_81 ?_
  refine v_icmp_ge (pc := 5) (tgt := 38) F dX11_tellWays_5 (by decide) (fun c1 => ?_) (fun c1 => ?_)
  · have hf := ite_t hf c1
    refine V.sub (lv' := [(0, .ref (gA g 0))]) [0] rfl ?_
    exact hx0 s1.1 (Option.some.inj hf).symm
  · have hf := ite_f hf c1
    refine v_aload_n (pc := 8) (j := 0) F dX11_tellWays_8 rfl rfl ?_
    refine v_ifl (pc := 9) F fl_X11_106 dX11_tellWays_9 km_0.1 km_0.2 fv_10_41 ?_
    refine v_iload_n (pc := 12) (j := 1) F dX11_tellWays_12 rfl rfl ?_
    refine v_iload_n (pc := 13) (j := 1) F dX11_tellWays_13 rfl rfl ?_
    refine v_bipush (pc := 14) (v := 9) F dX11_tellWays_14 bp_9 ?_
    refine v_idiv (pc := 16) F dX11_tellWays_16 (by decide) ?_
    refine v_iload_n (pc := 17) (j := 1) F dX11_tellWays_17 rfl rfl ?_
    refine v_bipush (pc := 18) (v := 9) F dX11_tellWays_18 bp_9 ?_
    refine v_irem (pc := 20) F dX11_tellWays_20 (by decide) ?_
    refine v_icmp_ne (pc := 21) (tgt := 28) F dX11_tellWays_21 (by decide) (fun c2 => ?_) (fun c2 => ?_)
    · have hf := ite_f hf c2
      refine v_ldcw (pc := 28) F tw_1656 dX11_tellWays_28 ?_
      exact tX11_tellWays_31 F hk hx0 hf
    · have hf := ite_t hf c2
      refine v_iconst (pc := 24) (v := 0) F dX11_tellWays_24 ic_0 ?_
      refine v_goto (pc := 25) (tgt := 31) F dX11_tellWays_25 (by decide) ?_
      exact tX11_tellWays_31 F hk hx0 hf
set_option maxRecDepth 100000 in
set_option maxHeartbeats 4000000 in
theorem tX11_tellWays_40 {p : Program} {l : Launch} {e : Env} {s : State} {m : MethodId} {args : Array Value} {below : List Frame} {meth : Method} {c : Code} {g : GE} {B : Nat}  {Q : State → Prop} {x : ST} {nf : Nat} {s0 : (ST × Int32)} (F : Fx p s m args meth c cX11_tellWays 3 "DustParishModel" 43 g B) (hX0 : V p l e 1 0 s m args below meth c Q KM 43 g B 3 0 x 110 [(0, .ref (gA g 0))] []) (hl : lp nf (fX11_tellWays_40) s0 = some x) : V p l e 1 0 s m args below meth c Q KM 43 g B 3 0 s0.1 40 [(0, .ref (gA g 0)), (1, .int s0.2)] [] := by
  refine lp_ind (P := fun s0 => V p l e 1 0 s m args below meth c Q KM 43 g B 3 0 s0.1 40 [(0, .ref (gA g 0)), (1, .int s0.2)] []) ?_ nf s0 hl
  intro s1 y hf hk hx
  have hx0 : ∀ v : ST, y = Sum.inr v → V p l e 1 0 s m args below meth c Q KM 43 g B 3 0 v 110 [(0, .ref (gA g 0))] [] := fun v e9 => by rw [hx v e9]; exact hX0
  unfold fX11_tellWays_40 at hf
  refine v_iload_n (pc := 40) (j := 1) F dX11_tellWays_40 rfl rfl ?_
  refine v_aload_n (pc := 41) (j := 0) F dX11_tellWays_41 rfl rfl ?_
  refine v_ifl (pc := 42) F fl_X11_36 dX11_tellWays_42 km_0.1 km_0.2 fv_10_3 ?_
  refine v_iconst (pc := 45) (v := 1) F dX11_tellWays_45 ic_1 ?_
  obtain ⟨v7, e8, hf⟩ := bnd_some hf
  refine v_iald (pc := 46) F dX11_tellWays_46 km_3.1 km_3.2 e8 ?_
  refine v_icmp_ge (pc := 47) (tgt := 110) F dX11_tellWays_47 (by decide) (fun c9 => ?_) (fun c9 => ?_)
  · have hf := ite_t hf c9
    refine V.sub (lv' := [(0, .ref (gA g 0))]) [0] rfl ?_
    exact hx0 s1.1 (Option.some.inj hf).symm
  · have hf := ite_f hf c9
    refine v_aload_n (pc := 50) (j := 0) F dX11_tellWays_50 rfl rfl ?_
    refine v_ifl (pc := 51) F fl_X11_106 dX11_tellWays_51 km_0.1 km_0.2 fv_10_41 ?_
    refine v_bipush (pc := 54) (v := 9) F dX11_tellWays_54 bp_9 ?_
    refine v_aload_n (pc := 56) (j := 0) F dX11_tellWays_56 rfl rfl ?_
    refine v_ifl (pc := 57) F fl_X11_50 dX11_tellWays_57 km_0.1 km_0.2 fv_10_8 ?_
    refine v_iload_n (pc := 60) (j := 1) F dX11_tellWays_60 rfl rfl ?_
    obtain ⟨v10, e11, hf⟩ := bnd_some hf
    refine v_iald (pc := 61) F dX11_tellWays_61 km_8.1 km_8.2 e11 ?_
    refine v_imul (pc := 62) F dX11_tellWays_62 ?_
    refine v_aload_n (pc := 63) (j := 0) F dX11_tellWays_63 rfl rfl ?_
    refine v_ifl (pc := 64) F fl_X11_53 dX11_tellWays_64 km_0.1 km_0.2 fv_10_9 ?_
    refine v_iload_n (pc := 67) (j := 1) F dX11_tellWays_67 rfl rfl ?_
    obtain ⟨v12, e13, hf⟩ := bnd_some hf
    refine v_iald (pc := 68) F dX11_tellWays_68 km_9.1 km_9.2 e13 ?_
    refine v_iadd (pc := 69) F dX11_tellWays_69 ?_
    refine v_aload_n (pc := 70) (j := 0) F dX11_tellWays_70 rfl rfl ?_
    refine v_ifl (pc := 71) F fl_X11_56 dX11_tellWays_71 km_0.1 km_0.2 fv_10_10 ?_
    refine v_iload_n (pc := 74) (j := 1) F dX11_tellWays_74 rfl rfl ?_
    obtain ⟨v14, e15, hf⟩ := bnd_some hf
    refine v_iald (pc := 75) F dX11_tellWays_75 km_10.1 km_10.2 e15 ?_
    obtain ⟨h16, e17, hf⟩ := bnd_some hf
    refine v_iast (pc := 76) F dX11_tellWays_76 km_26.1 km_26.2 e17 ?_
    refine v_aload_n (pc := 77) (j := 0) F dX11_tellWays_77 rfl rfl ?_
    refine v_ifl (pc := 78) F fl_X11_106 dX11_tellWays_78 km_0.1 km_0.2 fv_10_41 ?_
    refine v_bipush (pc := 81) (v := 9) F dX11_tellWays_81 bp_9 ?_
    refine v_aload_n (pc := 83) (j := 0) F dX11_tellWays_83 rfl rfl ?_
    refine v_ifl (pc := 84) F fl_X11_53 dX11_tellWays_84 km_0.1 km_0.2 fv_10_9 ?_
    refine v_iload_n (pc := 87) (j := 1) F dX11_tellWays_87 rfl rfl ?_
    obtain ⟨v18, e19, hf⟩ := bnd_some hf
    refine v_iald (pc := 88) F dX11_tellWays_88 km_9.1 km_9.2 e19 ?_
    refine v_imul (pc := 89) F dX11_tellWays_89 ?_
    refine v_aload_n (pc := 90) (j := 0) F dX11_tellWays_90 rfl rfl ?_
    refine v_ifl (pc := 91) F fl_X11_50 dX11_tellWays_91 km_0.1 km_0.2 fv_10_8 ?_
    refine v_iload_n (pc := 94) (j := 1) F dX11_tellWays_94 rfl rfl ?_
    obtain ⟨v20, e21, hf⟩ := bnd_some hf
    refine v_iald (pc := 95) F dX11_tellWays_95 km_8.1 km_8.2 e21 ?_
    refine v_iadd (pc := 96) F dX11_tellWays_96 ?_
    refine v_aload_n (pc := 97) (j := 0) F dX11_tellWays_97 rfl rfl ?_
    refine v_ifl (pc := 98) F fl_X11_56 dX11_tellWays_98 km_0.1 km_0.2 fv_10_10 ?_
    refine v_iload_n (pc := 101) (j := 1) F dX11_tellWays_101 rfl rfl ?_
    obtain ⟨v22, e23, hf⟩ := bnd_some hf
    refine v_iald (pc := 102) F dX11_tellWays_102 km_10.1 km_10.2 e23 ?_
    obtain ⟨h24, e25, hf⟩ := bnd_some hf
    refine v_iast (pc := 103) F dX11_tellWays_103 km_26.1 km_26.2 e25 ?_
    refine v_iinc (pc := 104) (j := 1) (v := s1.2 + 1) (lv' := [(0, .ref (gA g 0)), (1, .int (s1.2 + 1))]) F dX11_tellWays_104 rfl (congrArg (fun z => s1.2 + z) ic_1) (by decide) rfl ?_
    refine v_goto (pc := 107) (tgt := 40) F dX11_tellWays_107 (by decide) ?_
    exact hk (h24, s1.2 + 1) (Option.some.inj hf).symm
set_option maxRecDepth 100000 in
set_option maxHeartbeats 4000000 in
theorem tX11_tellWays_120 {p : Program} {l : Launch} {e : Env} {s : State} {m : MethodId} {args : Array Value} {below : List Frame} {meth : Method} {c : Code} {g : GE} {B : Nat}  {l1 : Int32} {Q : State → Prop} {x : ST} {nf : Nat} {s0 : (ST × Int32)} (F : Fx p s m args meth c cX11_tellWays 3 "DustParishModel" 43 g B) (hX0 : V p l e 1 0 s m args below meth c Q KM 43 g B 3 0 x 175 [(0, .ref (gA g 0)), (1, .int l1)] []) (hl : lp nf (fX11_tellWays_120 l1) s0 = some x) : V p l e 1 0 s m args below meth c Q KM 43 g B 3 0 s0.1 120 [(0, .ref (gA g 0)), (1, .int l1), (2, .int s0.2)] [] := by
  refine lp_ind (P := fun s0 => V p l e 1 0 s m args below meth c Q KM 43 g B 3 0 s0.1 120 [(0, .ref (gA g 0)), (1, .int l1), (2, .int s0.2)] []) ?_ nf s0 hl
  intro s1 y hf hk hx
  have hx0 : ∀ v : ST, y = Sum.inr v → V p l e 1 0 s m args below meth c Q KM 43 g B 3 0 v 175 [(0, .ref (gA g 0)), (1, .int l1)] [] := fun v e9 => by rw [hx v e9]; exact hX0
  unfold fX11_tellWays_120 at hf
  refine v_iload_n (pc := 120) (j := 2) F dX11_tellWays_120 rfl rfl ?_
  refine v_bipush (pc := 121) (v := 81) F dX11_tellWays_121 bp_81 ?_
  refine v_icmp_ge (pc := 123) (tgt := 175) F dX11_tellWays_123 (by decide) (fun c29 => ?_) (fun c29 => ?_)
  · have hf := ite_t hf c29
    refine V.sub (lv' := [(0, .ref (gA g 0)), (1, .int l1)]) [0, 1] rfl ?_
    exact hx0 s1.1 (Option.some.inj hf).symm
  · have hf := ite_f hf c29
    refine v_aload_n (pc := 126) (j := 0) F dX11_tellWays_126 rfl rfl ?_
    refine v_ifl (pc := 127) F fl_X11_106 dX11_tellWays_127 km_0.1 km_0.2 fv_10_41 ?_
    refine v_iload_n (pc := 130) (j := 2) F dX11_tellWays_130 rfl rfl ?_
    refine v_aload_n (pc := 131) (j := 0) F dX11_tellWays_131 rfl rfl ?_
    refine v_ifl (pc := 132) F fl_X11_106 dX11_tellWays_132 km_0.1 km_0.2 fv_10_41 ?_
    refine v_iload_n (pc := 135) (j := 2) F dX11_tellWays_135 rfl rfl ?_
    obtain ⟨v30, e31, hf⟩ := bnd_some hf
    refine v_iald (pc := 136) F dX11_tellWays_136 km_26.1 km_26.2 e31 ?_
    refine v_aload_n (pc := 137) (j := 0) F dX11_tellWays_137 rfl rfl ?_
    refine v_ifl (pc := 138) F fl_X11_106 dX11_tellWays_138 km_0.1 km_0.2 fv_10_41 ?_
    refine v_iload_n (pc := 141) (j := 2) F dX11_tellWays_141 rfl rfl ?_
    refine v_iload_n (pc := 142) (j := 2) F dX11_tellWays_142 rfl rfl ?_
    refine v_bipush (pc := 143) (v := 9) F dX11_tellWays_143 bp_9 ?_
    refine v_irem (pc := 145) F dX11_tellWays_145 (by decide) ?_
    refine v_isub (pc := 146) F dX11_tellWays_146 ?_
    refine v_iload_n (pc := 147) (j := 1) F dX11_tellWays_147 rfl rfl ?_
    refine v_iadd (pc := 148) F dX11_tellWays_148 ?_
    obtain ⟨v32, e33, hf⟩ := bnd_some hf
    refine v_iald (pc := 149) F dX11_tellWays_149 km_26.1 km_26.2 e33 ?_
    refine v_aload_n (pc := 150) (j := 0) F dX11_tellWays_150 rfl rfl ?_
    refine v_ifl (pc := 151) F fl_X11_106 dX11_tellWays_151 km_0.1 km_0.2 fv_10_41 ?_
    refine v_bipush (pc := 154) (v := 9) F dX11_tellWays_154 bp_9 ?_
    refine v_iload_n (pc := 156) (j := 1) F dX11_tellWays_156 rfl rfl ?_
    refine v_imul (pc := 157) F dX11_tellWays_157 ?_
    refine v_iload_n (pc := 158) (j := 2) F dX11_tellWays_158 rfl rfl ?_
    refine v_bipush (pc := 159) (v := 9) F dX11_tellWays_159 bp_9 ?_
    refine v_irem (pc := 161) F dX11_tellWays_161 (by decide) ?_
    refine v_iadd (pc := 162) F dX11_tellWays_162 ?_
    obtain ⟨v34, e35, hf⟩ := bnd_some hf
    refine v_iald (pc := 163) F dX11_tellWays_163 km_26.1 km_26.2 e35 ?_
    refine v_iadd (pc := 164) F dX11_tellWays_164 ?_
    refine v_mmin (pc := 165) F tw_1490 mminW dX11_tellWays_165 (by decide) (Nat.le_of_ble_eq_true rfl) (Nat.zero_le _) ?_
    obtain ⟨h36, e37, hf⟩ := bnd_some hf
    refine v_iast (pc := 168) F dX11_tellWays_168 km_26.1 km_26.2 e37 ?_
    refine v_iinc (pc := 169) (j := 2) (v := s1.2 + 1) (lv' := [(0, .ref (gA g 0)), (1, .int l1), (2, .int (s1.2 + 1))]) F dX11_tellWays_169 rfl (congrArg (fun z => s1.2 + z) ic_1) (by decide) rfl ?_
    refine v_goto (pc := 172) (tgt := 120) F dX11_tellWays_172 (by decide) ?_
    exact hk (h36, s1.2 + 1) (Option.some.inj hf).symm
set_option maxRecDepth 100000 in
set_option maxHeartbeats 4000000 in
theorem tX11_tellWays_112 {p : Program} {l : Launch} {e : Env} {s : State} {m : MethodId} {args : Array Value} {below : List Frame} {meth : Method} {c : Code} {g : GE} {B : Nat}  {Q : State → Prop} {x : ST} {nf : Nat} {s0 : (ST × Int32)} (F : Fx p s m args meth c cX11_tellWays 3 "DustParishModel" 43 g B) (hX0 : V p l e 1 0 s m args below meth c Q KM 43 g B 3 0 x 181 [] []) (hl : lp nf (fX11_tellWays_112) s0 = some x) : V p l e 1 0 s m args below meth c Q KM 43 g B 3 0 s0.1 112 [(0, .ref (gA g 0)), (1, .int s0.2)] [] := by
  refine lp_ind (P := fun s0 => V p l e 1 0 s m args below meth c Q KM 43 g B 3 0 s0.1 112 [(0, .ref (gA g 0)), (1, .int s0.2)] []) ?_ nf s0 hl
  intro s1 y hf hk hx
  have hx0 : ∀ v : ST, y = Sum.inr v → V p l e 1 0 s m args below meth c Q KM 43 g B 3 0 v 181 [] [] := fun v e9 => by rw [hx v e9]; exact hX0
  unfold fX11_tellWays_112 at hf
  refine v_iload_n (pc := 112) (j := 1) F dX11_tellWays_112 rfl rfl ?_
  refine v_bipush (pc := 113) (v := 9) F dX11_tellWays_113 bp_9 ?_
  refine v_icmp_ge (pc := 115) (tgt := 181) F dX11_tellWays_115 (by decide) (fun c28 => ?_) (fun c28 => ?_)
  · have hf := ite_t hf c28
    refine V.sub (lv' := []) [] rfl ?_
    exact hx0 s1.1 (Option.some.inj hf).symm
  · have hf := ite_f hf c28
    refine v_iconst (pc := 118) (v := 0) F dX11_tellWays_118 ic_0 ?_
    refine v_istore_n (pc := 119) (lv' := [(0, .ref (gA g 0)), (1, .int s1.2), (2, .int 0)]) F dX11_tellWays_119 rfl (by decide) rfl ?_
    obtain ⟨x38, e39, hf⟩ := bnd_some hf
    refine tX11_tellWays_120 (s0 := (s1.1, 0)) F ?_ e39
    refine v_iinc (pc := 175) (j := 1) (v := s1.2 + 1) (lv' := [(0, .ref (gA g 0)), (1, .int (s1.2 + 1))]) F dX11_tellWays_175 rfl (congrArg (fun z => s1.2 + z) ic_1) (by decide) rfl ?_
    refine v_goto (pc := 178) (tgt := 112) F dX11_tellWays_178 (by decide) ?_
    exact hk (x38, s1.2 + 1) (Option.some.inj hf).symm
set_option maxRecDepth 100000 in
set_option maxHeartbeats 4000000 in
theorem kX11_tellWays {l : Launch} {g : GE} {B : Nat} {h : ST} {y : ST} (hf : fX11_tellWays h = some y) : CT l yX11_tellWays cX11_tellWays 3 none 1 KM 43 g B [.ref (gA g 0)] h none y := by
  refine CT.of pn_X11 (Nat.le_of_ble_eq_true rfl) ?_
  intro p e s m below meth c hr F
  have F : Fx p s m _ meth c cX11_tellWays 3 "DustParishModel" 43 g B := F
  refine V_lv (lv' := [(0, .ref (gA g 0))]) rfl ?_
  unfold fX11_tellWays at hf
  refine v_iconst (pc := 0) (v := 0) F dX11_tellWays_0 ic_0 ?_
  refine v_istore_n (pc := 1) (lv' := [(0, .ref (gA g 0)), (1, .int 0)]) F dX11_tellWays_1 rfl (by decide) rfl ?_
  obtain ⟨x5, e6, hf⟩ := bnd_some hf
  refine tX11_tellWays_2 (s0 := (h, 0)) F ?_ e6
  refine v_iconst (pc := 38) (v := 0) F dX11_tellWays_38 ic_0 ?_
  refine v_istore_n (pc := 39) (lv' := [(0, .ref (gA g 0)), (1, .int 0)]) F dX11_tellWays_39 rfl (by decide) rfl ?_
  obtain ⟨x26, e27, hf⟩ := bnd_some hf
  refine tX11_tellWays_40 (s0 := (x5, 0)) F ?_ e27
  refine v_iconst (pc := 110) (v := 0) F dX11_tellWays_110 ic_0 ?_
  refine v_istore_n (pc := 111) (lv' := [(0, .ref (gA g 0)), (1, .int 0)]) F dX11_tellWays_111 rfl (by decide) rfl ?_
  obtain ⟨x40, e41, hf⟩ := bnd_some hf
  refine tX11_tellWays_112 (s0 := (x26, 0)) F ?_ e41
  exact v_vret (pc := 181) F hr dX11_tellWays_181 (Option.some.inj hf) (Nat.zero_le _)
def fX11_orNone_12 (h : ST) (q0 : Int32) : Option (Int32) :=
  some q0
def fX11_orNone (h : ST) (a1 : Int32) : Option (Int32) :=
  if a1 < 1000000 then
  fX11_orNone_12 h a1
  else
  fX11_orNone_12 h (-1)
set_option maxRecDepth 100000 in
set_option maxHeartbeats 4000000 in
theorem tX11_orNone_12 {p : Program} {l : Launch} {e : Env} {s : State} {m : MethodId} {args : Array Value} {below : List Frame} {meth : Method} {c : Code} {g : GE} {B : Nat} {h : ST}  {q0 : Int32} (F : Fx p s m args meth c cX11_orNone 1 "DustParishModel" 43 g B)
    {y : Int32} (hr : meth.sig.returnType = (some .int)) (hf : fX11_orNone_12 h q0 = some y) : V p l e 1 0 s m args below meth c (MQ below (QO KM 43 g (some (.int y)) h) args s 0 (6 * 0) (fun q => B ≤ q)) KM 43 g B 1 0 h 12 [] [.int q0] := by
  unfold fX11_orNone_12 at hf
  exact v_iret (pc := 12) F hr dX11_orNone_12 (Option.some.inj hf) rfl (Nat.zero_le _)
set_option maxRecDepth 100000 in
set_option maxHeartbeats 4000000 in
theorem kX11_orNone {l : Launch} {g : GE} {B : Nat} {h : ST} {a1 : Int32} {y : Int32} (hf : fX11_orNone h a1 = some y) : CT l yX11_orNone cX11_orNone 1 (some .int) 1 KM 43 g B [.int a1] h (some (.int y)) h := by
  refine CT.of pn_X11 (Nat.le_of_ble_eq_true rfl) ?_
  intro p e s m below meth c hr F
  have F : Fx p s m _ meth c cX11_orNone 1 "DustParishModel" 43 g B := F
  refine V_lv (lv' := [(0, .int a1)]) rfl ?_
  unfold fX11_orNone at hf
  refine v_iload_n (pc := 0) (j := 0) F dX11_orNone_0 rfl rfl ?_
  refine v_ldcw (pc := 1) F tw_1656 dX11_orNone_1 ?_
  refine v_icmp_lt (pc := 4) (tgt := 11) F dX11_orNone_4 (by decide) (fun c1 => ?_) (fun c1 => ?_)
  · have hf := ite_t hf c1
    refine v_iload_n (pc := 11) (j := 0) F dX11_orNone_11 rfl rfl ?_
    refine V.sub (lv' := []) [] rfl ?_
    exact tX11_orNone_12 F hr hf
  · have hf := ite_f hf c1
    refine v_iconst (pc := 7) (v := (-1)) F dX11_orNone_7 ic_m1 ?_
    refine v_goto (pc := 8) (tgt := 12) F dX11_orNone_8 (by decide) ?_
    refine V.sub (lv' := []) [] rfl ?_
    exact tX11_orNone_12 F hr hf
