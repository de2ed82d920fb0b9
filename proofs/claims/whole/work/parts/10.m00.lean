def fX11_windOf_26 (h : ST) (q0 : Int32) : Option (Int32) :=
  some q0
def fX11_windOf (h : ST) (a1 : Int32) : Option (Int32) :=
  bnd (rd 14 (h 3) 3) fun v1 =>
  if v1 = 0 then
  fX11_windOf_26 h 5
  else
  bnd (rd 14 (h 3) 3) fun v4 =>
    grd (¬ v4 = 0) (
    bnd (rd 10 (h 21) (a1 - a1 / v4 * v4)) fun v7 =>
    fX11_windOf_26 h v7)
set_option maxRecDepth 100000 in
set_option maxHeartbeats 4000000 in
theorem tX11_windOf_26 {p : Program} {l : Launch} {e : Env} {s : State} {m : MethodId} {args : Array Value} {below : List Frame} {meth : Method} {c : Code} {g : GE} {B : Nat} {h : ST}  {q0 : Int32} (F : Fx p s m args meth c cX11_windOf 2 "DustParishModel" 43 g B)
    {y : Int32} (hr : meth.sig.returnType = (some .int)) (hf : fX11_windOf_26 h q0 = some y) : V p l e 1 0 s m args below meth c (MQ below (QO KM 43 g (some (.int y)) h) args s 0 (6 * 0) (WA 43 g)) KM 43 g B 2 0 h 26 [] [.int q0] := by
  unfold fX11_windOf_26 at hf
  exact v_iret (pc := 26) F hr dX11_windOf_26 (Option.some.inj hf) rfl (Nat.zero_le _)
set_option maxRecDepth 100000 in
set_option maxHeartbeats 4000000 in
theorem kX11_windOf {l : Launch} {g : GE} {B : Nat} {h : ST} {a1 : Int32} {y : Int32} (hf : fX11_windOf h a1 = some y) : CT l yX11_windOf cX11_windOf 2 (some .int) 1 KM 43 g B [.ref (gA g 0), .int a1] h (some (.int y)) h := by
  refine CT.of pn_X11 (Nat.le_of_ble_eq_true rfl) ?_
  intro p e s m below meth c hr F
  have F : Fx p s m _ meth c cX11_windOf 2 "DustParishModel" 43 g B := F
  refine V_lv (lv' := [(0, .ref (gA g 0)), (1, .int a1)]) rfl ?_
  unfold fX11_windOf at hf
  refine v_aload_n (pc := 0) (j := 0) F dX11_windOf_0 rfl rfl ?_
  refine v_ifl (pc := 1) F fl_X11_36 dX11_windOf_1 km_0.1 km_0.2 fv_10_3 ?_
  refine v_iconst (pc := 4) (v := 3) F dX11_windOf_4 ic_3 ?_
  obtain ⟨v1, e2, hf⟩ := bnd_some hf
  refine v_iald (pc := 5) F dX11_windOf_5 km_3.1 km_3.2 e2 ?_
  refine v_if_ne (pc := 6) (tgt := 13) F dX11_windOf_6 (by decide) (fun c3 => ?_) (fun c3 => ?_)
  · have hf := ite_f hf c3
    refine v_aload_n (pc := 13) (j := 0) F dX11_windOf_13 rfl rfl ?_
    refine v_ifl (pc := 14) F fl_X11_91 dX11_windOf_14 km_0.1 km_0.2 fv_10_31 ?_
    refine v_iload_n (pc := 17) (j := 1) F dX11_windOf_17 rfl rfl ?_
    refine v_aload_n (pc := 18) (j := 0) F dX11_windOf_18 rfl rfl ?_
    refine v_ifl (pc := 19) F fl_X11_36 dX11_windOf_19 km_0.1 km_0.2 fv_10_3 ?_
    refine v_iconst (pc := 22) (v := 3) F dX11_windOf_22 ic_3 ?_
    obtain ⟨v4, e5, hf⟩ := bnd_some hf
    refine v_iald (pc := 23) F dX11_windOf_23 km_3.1 km_3.2 e5 ?_
    obtain ⟨g6, hf⟩ := grd_some hf
    refine v_irem (pc := 24) F dX11_windOf_24 g6 ?_
    obtain ⟨v7, e8, hf⟩ := bnd_some hf
    refine v_iald (pc := 25) F dX11_windOf_25 km_21.1 km_21.2 e8 ?_
    refine V.sub (lv' := []) [] rfl ?_
    exact tX11_windOf_26 F hr hf
  · have hf := ite_t hf c3
    refine v_iconst (pc := 9) (v := 5) F dX11_windOf_9 ic_5 ?_
    refine v_goto (pc := 10) (tgt := 26) F dX11_windOf_10 (by decide) ?_
    refine V.sub (lv' := []) [] rfl ?_
    exact tX11_windOf_26 F hr hf
def fX11_lays (h : ST) (a1 : Int32) (a2 : Int32) : Option (ST) :=
  bnd (rd 9 (h 19) a1) fun v1 =>
  bnd (wr 9 h 19 a1 (if (v1 + a2) < 9999 then (v1 + a2) else 9999)) fun h3 =>
  some h3
set_option maxRecDepth 100000 in
set_option maxHeartbeats 4000000 in
theorem kX11_lays {l : Launch} {g : GE} {B : Nat} {h : ST} {a1 : Int32} {a2 : Int32} {y : ST} (hf : fX11_lays h a1 a2 = some y) : CT l yX11_lays cX11_lays 3 none 1 KM 43 g B [.ref (gA g 0), .int a1, .int a2] h none y := by
  refine CT.of pn_X11 (Nat.le_of_ble_eq_true rfl) ?_
  intro p e s m below meth c hr F
  have F : Fx p s m _ meth c cX11_lays 3 "DustParishModel" 43 g B := F
  refine V_lv (lv' := [(0, .ref (gA g 0)), (1, .int a1), (2, .int a2)]) rfl ?_
  unfold fX11_lays at hf
  refine v_aload_n (pc := 0) (j := 0) F dX11_lays_0 rfl rfl ?_
  refine v_ifl (pc := 1) F fl_X11_87 dX11_lays_1 km_0.1 km_0.2 fv_10_29 ?_
  refine v_iload_n (pc := 4) (j := 1) F dX11_lays_4 rfl rfl ?_
  refine v_sipush (pc := 5) (v := 9999) F dX11_lays_5 sp_9999 ?_
  refine v_aload_n (pc := 8) (j := 0) F dX11_lays_8 rfl rfl ?_
  refine v_ifl (pc := 9) F fl_X11_87 dX11_lays_9 km_0.1 km_0.2 fv_10_29 ?_
  refine v_iload_n (pc := 12) (j := 1) F dX11_lays_12 rfl rfl ?_
  obtain ⟨v1, e2, hf⟩ := bnd_some hf
  refine v_iald (pc := 13) F dX11_lays_13 km_19.1 km_19.2 e2 ?_
  refine v_iload_n (pc := 14) (j := 2) F dX11_lays_14 rfl rfl ?_
  refine v_iadd (pc := 15) F dX11_lays_15 ?_
  refine v_mmin (pc := 16) F tw_1490 mminW dX11_lays_16 (by decide) (Nat.le_of_ble_eq_true rfl) (Nat.zero_le _) ?_
  obtain ⟨h3, e4, hf⟩ := bnd_some hf
  refine v_iast (pc := 19) F dX11_lays_19 km_19.1 km_19.2 e4 ?_
  exact v_vret (pc := 20) F hr dX11_lays_20 (Option.some.inj hf) (Nat.zero_le _)
def fX11_settle_41 (h : ST) (l1 : Int32) (q1 : Int32) (q2 : Int32) : Option ((ST × Int32) ⊕ ST) :=
  bnd (fX11_lays h q1 q2) fun r9 =>
  some (.inl (r9, l1 + 1))
def fX11_settle_2 (s1 : (ST × Int32)) : Option ((ST × Int32) ⊕ ST) :=
  bnd (rd 14 (s1.1 3) 0) fun v1 =>
  if v1 ≤ s1.2 then
  some (.inr s1.1)
  else
  bnd (rd 18 (s1.1 4) s1.2) fun v4 =>
    if v4 = 2 then
    bnd (rd 18 (s1.1 7) s1.2) fun v11 =>
      fX11_settle_41 s1.1 s1.2 s1.2 (2 * v11)
    else
    bnd (rd 18 (s1.1 7) s1.2) fun v7 =>
      fX11_settle_41 s1.1 s1.2 s1.2 v7
def fX11_settle (h : ST) : Option (ST) :=
  bnd (lp FU (fX11_settle_2) (h, 0)) fun x13 =>
  some x13
set_option maxRecDepth 100000 in
set_option maxHeartbeats 4000000 in
theorem tX11_settle_41 {p : Program} {l : Launch} {e : Env} {s : State} {m : MethodId} {args : Array Value} {below : List Frame} {meth : Method} {c : Code} {g : GE} {B : Nat} {h : ST}  {l1 : Int32} {q1 : Int32} {q2 : Int32} (F : Fx p s m args meth c cX11_settle 2 "DustParishModel" 43 g B)
    {Q : State → Prop} {y : (ST × Int32) ⊕ ST} (hk : ∀ v : (ST × Int32), y = Sum.inl v → V p l e 2 0 s m args below meth c Q KM 43 g B 2 0 v.1 2 [(0, .ref (gA g 0)), (1, .int v.2)] []) (hx0 : ∀ v : ST, y = Sum.inr v → V p l e 2 0 s m args below meth c Q KM 43 g B 2 0 v 50 [] []) (hf : fX11_settle_41 h l1 q1 q2 = some y) : V p l e 2 0 s m args below meth c Q KM 43 g B 2 0 h 41 [(0, .ref (gA g 0)), (1, .int l1)] [.int q2, .int q1, .ref (gA g 0)] := by
  unfold fX11_settle_41 at hf
  obtain ⟨r9, e10, hf⟩ := bnd_some hf
  refine v_callVv (pc := 41) (As := [.int q1, .int q2]) F cl_X11_358 dX11_settle_41 (kX11_lays e10) km_0.1 km_0.2 rc_10 rfl rfl (Nat.le_of_ble_eq_true rfl) (by decide) (Nat.zero_le _) ?_
  refine v_iinc (pc := 44) (j := 1) (v := l1 + 1) (lv' := [(0, .ref (gA g 0)), (1, .int (l1 + 1))]) F dX11_settle_44 rfl (congrArg (fun z => l1 + z) ic_1) (by decide) rfl ?_
  refine v_goto (pc := 47) (tgt := 2) F dX11_settle_47 (by decide) ?_
  exact hk (r9, l1 + 1) (Option.some.inj hf).symm
set_option maxRecDepth 100000 in
set_option maxHeartbeats 4000000 in
theorem tX11_settle_2 {p : Program} {l : Launch} {e : Env} {s : State} {m : MethodId} {args : Array Value} {below : List Frame} {meth : Method} {c : Code} {g : GE} {B : Nat}   {Q : State → Prop} {x : ST} {nf : Nat} {s0 : (ST × Int32)} (F : Fx p s m args meth c cX11_settle 2 "DustParishModel" 43 g B) (hX0 : V p l e 2 0 s m args below meth c Q KM 43 g B 2 0 x 50 [] []) (hl : lp nf (fX11_settle_2) s0 = some x) : V p l e 2 0 s m args below meth c Q KM 43 g B 2 0 s0.1 2 [(0, .ref (gA g 0)), (1, .int s0.2)] [] := by
  refine lp_ind (P := fun s0 => V p l e 2 0 s m args below meth c Q KM 43 g B 2 0 s0.1 2 [(0, .ref (gA g 0)), (1, .int s0.2)] []) ?_ nf s0 hl
  intro s1 y hf hk hx
  have hx0 : ∀ v : ST, y = Sum.inr v → V p l e 2 0 s m args below meth c Q KM 43 g B 2 0 v 50 [] [] := fun v e9 => by rw [hx v e9]; exact hX0
  unfold fX11_settle_2 at hf
  refine v_iload_n (pc := 2) (j := 1) F dX11_settle_2 rfl rfl ?_
  refine v_aload_n (pc := 3) (j := 0) F dX11_settle_3 rfl rfl ?_
  refine v_ifl (pc := 4) F fl_X11_36 dX11_settle_4 km_0.1 km_0.2 fv_10_3 ?_
  refine v_iconst (pc := 7) (v := 0) F dX11_settle_7 ic_0 ?_
  obtain ⟨v1, e2, hf⟩ := bnd_some hf
  refine v_iald (pc := 8) F dX11_settle_8 km_3.1 km_3.2 e2 ?_
  refine v_icmp_ge (pc := 9) (tgt := 50) F dX11_settle_9 (by decide) (fun c3 => ?_) (fun c3 => ?_)
  · have hf := ite_t hf c3
    refine V.sub (lv' := []) [] rfl ?_
    exact hx0 s1.1 (Option.some.inj hf).symm
  · have hf := ite_f hf c3
    refine v_aload_n (pc := 12) (j := 0) F dX11_settle_12 rfl rfl ?_
    refine v_iload_n (pc := 13) (j := 1) F dX11_settle_13 rfl rfl ?_
    refine v_aload_n (pc := 14) (j := 0) F dX11_settle_14 rfl rfl ?_
    refine v_ifl (pc := 15) F fl_X11_40 dX11_settle_15 km_0.1 km_0.2 fv_10_4 ?_
    refine v_iload_n (pc := 18) (j := 1) F dX11_settle_18 rfl rfl ?_
    obtain ⟨v4, e5, hf⟩ := bnd_some hf
    refine v_iald (pc := 19) F dX11_settle_19 km_4.1 km_4.2 e5 ?_
    refine v_iconst (pc := 20) (v := 2) F dX11_settle_20 ic_2 ?_
    refine v_icmp_ne (pc := 21) (tgt := 35) F dX11_settle_21 (by decide) (fun c6 => ?_) (fun c6 => ?_)
    · have hf := ite_f hf c6
      refine v_aload_n (pc := 35) (j := 0) F dX11_settle_35 rfl rfl ?_
      refine v_ifl (pc := 36) F fl_X11_47 dX11_settle_36 km_0.1 km_0.2 fv_10_7 ?_
      refine v_iload_n (pc := 39) (j := 1) F dX11_settle_39 rfl rfl ?_
      obtain ⟨v7, e8, hf⟩ := bnd_some hf
      refine v_iald (pc := 40) F dX11_settle_40 km_7.1 km_7.2 e8 ?_
      exact tX11_settle_41 F hk hx0 hf
    · have hf := ite_t hf c6
      refine v_iconst (pc := 24) (v := 2) F dX11_settle_24 ic_2 ?_
      refine v_aload_n (pc := 25) (j := 0) F dX11_settle_25 rfl rfl ?_
      refine v_ifl (pc := 26) F fl_X11_47 dX11_settle_26 km_0.1 km_0.2 fv_10_7 ?_
      refine v_iload_n (pc := 29) (j := 1) F dX11_settle_29 rfl rfl ?_
      obtain ⟨v11, e12, hf⟩ := bnd_some hf
      refine v_iald (pc := 30) F dX11_settle_30 km_7.1 km_7.2 e12 ?_
      refine v_imul (pc := 31) F dX11_settle_31 ?_
      refine v_goto (pc := 32) (tgt := 41) F dX11_settle_32 (by decide) ?_
      exact tX11_settle_41 F hk hx0 hf
set_option maxRecDepth 100000 in
set_option maxHeartbeats 4000000 in
theorem kX11_settle {l : Launch} {g : GE} {B : Nat} {h : ST} {y : ST} (hf : fX11_settle h = some y) : CT l yX11_settle cX11_settle 2 none 2 KM 43 g B [.ref (gA g 0)] h none y := by
  refine CT.of pn_X11 (Nat.le_of_ble_eq_true rfl) ?_
  intro p e s m below meth c hr F
  have F : Fx p s m _ meth c cX11_settle 2 "DustParishModel" 43 g B := F
  refine V_lv (lv' := [(0, .ref (gA g 0))]) rfl ?_
  unfold fX11_settle at hf
  refine v_iconst (pc := 0) (v := 0) F dX11_settle_0 ic_0 ?_
  refine v_istore_n (pc := 1) (lv' := [(0, .ref (gA g 0)), (1, .int 0)]) F dX11_settle_1 rfl (by decide) rfl ?_
  obtain ⟨x13, e14, hf⟩ := bnd_some hf
  refine tX11_settle_2 (s0 := (h, 0)) F ?_ e14
  exact v_vret (pc := 50) F hr dX11_settle_50 (Option.some.inj hf) (Nat.zero_le _)
def fX11_blows_91 (h : ST) (l1 : Int32) (l2 : Int32) (q1 : Int32) (q2 : Int32) : Option ((ST × Int32) ⊕ ST) :=
  bnd (fX11_lays h q1 q2) fun r24 =>
  some (.inl (r24, l2 + 1))
def fX11_blows_5 (l1 : Int32) (s1 : (ST × Int32)) : Option ((ST × Int32) ⊕ ST) :=
  if l1 = 5 then
  some (.inr s1.1)
  else
  bnd (rd 10 (s1.1 11) l1) fun v2 =>
    if ((8 * l1) + v2) ≤ s1.2 then
    some (.inr s1.1)
    else
    bnd (rd 80 (s1.1 12) s1.2) fun v5 =>
      bnd (rd 9 (s1.1 19) v5) fun v7 =>
      bnd (rd 80 (s1.1 14) s1.2) fun v9 =>
      bnd (rd 80 (s1.1 12) s1.2) fun v11 =>
      bnd (rd 9 (s1.1 19) v11) fun v13 =>
      bnd (wr 9 s1.1 19 v11 (v13 - ((v7 * v9) / 10))) fun h15 =>
      bnd (rd 80 (h15 13) s1.2) fun v17 =>
      bnd (rd 80 (h15 13) s1.2) fun v19 =>
      bnd (rd 18 (h15 4) v19) fun v21 =>
      if v21 = 1 then
      fX11_blows_91 h15 l1 s1.2 v17 (((v7 * v9) / 10) / 2)
      else
      fX11_blows_91 h15 l1 s1.2 v17 ((v7 * v9) / 10)
def fX11_blows_100 (h : ST)  : Option (ST) :=
  some h
def fX11_blows (h : ST) (a1 : Int32) : Option (ST) :=
  bnd (lp FU (fX11_blows_5 a1) (h, 8 * a1)) fun x26 =>
  fX11_blows_100 x26 
set_option maxRecDepth 100000 in
set_option maxHeartbeats 4000000 in
theorem tX11_blows_91 {p : Program} {l : Launch} {e : Env} {s : State} {m : MethodId} {args : Array Value} {below : List Frame} {meth : Method} {c : Code} {g : GE} {B : Nat} {h : ST}  {l1 : Int32} {l2 : Int32} {q1 : Int32} {q2 : Int32} (F : Fx p s m args meth c cX11_blows 4 "DustParishModel" 43 g B)
    {Q : State → Prop} {y : (ST × Int32) ⊕ ST} (hk : ∀ v : (ST × Int32), y = Sum.inl v → V p l e 2 0 s m args below meth c Q KM 43 g B 4 0 v.1 5 [(0, .ref (gA g 0)), (1, .int l1), (2, .int v.2)] []) (hx0 : ∀ v : ST, y = Sum.inr v → V p l e 2 0 s m args below meth c Q KM 43 g B 4 0 v 100 [] []) (hf : fX11_blows_91 h l1 l2 q1 q2 = some y) : V p l e 2 0 s m args below meth c Q KM 43 g B 4 0 h 91 [(0, .ref (gA g 0)), (1, .int l1), (2, .int l2)] [.int q2, .int q1, .ref (gA g 0)] := by
  unfold fX11_blows_91 at hf
  obtain ⟨r24, e25, hf⟩ := bnd_some hf
  refine v_callVv (pc := 91) (As := [.int q1, .int q2]) F cl_X11_358 dX11_blows_91 (kX11_lays e25) km_0.1 km_0.2 rc_10 rfl rfl (Nat.le_of_ble_eq_true rfl) (by decide) (Nat.zero_le _) ?_
  refine v_iinc (pc := 94) (j := 2) (v := l2 + 1) (lv' := [(0, .ref (gA g 0)), (1, .int l1), (2, .int (l2 + 1))]) F dX11_blows_94 rfl (congrArg (fun z => l2 + z) ic_1) (by decide) rfl ?_
  refine v_goto (pc := 97) (tgt := 5) F dX11_blows_97 (by decide) ?_
  exact hk (r24, l2 + 1) (Option.some.inj hf).symm
set_option maxRecDepth 100000 in
set_option maxHeartbeats 4000000 in
theorem tX11_blows_5 {p : Program} {l : Launch} {e : Env} {s : State} {m : MethodId} {args : Array Value} {below : List Frame} {meth : Method} {c : Code} {g : GE} {B : Nat}   {l1 : Int32} {Q : State → Prop} {x : ST} {nf : Nat} {s0 : (ST × Int32)} (F : Fx p s m args meth c cX11_blows 4 "DustParishModel" 43 g B) (hX0 : V p l e 2 0 s m args below meth c Q KM 43 g B 4 0 x 100 [] []) (hl : lp nf (fX11_blows_5 l1) s0 = some x) : V p l e 2 0 s m args below meth c Q KM 43 g B 4 0 s0.1 5 [(0, .ref (gA g 0)), (1, .int l1), (2, .int s0.2)] [] := by
  refine lp_ind (P := fun s0 => V p l e 2 0 s m args below meth c Q KM 43 g B 4 0 s0.1 5 [(0, .ref (gA g 0)), (1, .int l1), (2, .int s0.2)] []) ?_ nf s0 hl
  intro s1 y hf hk hx
  have hx0 : ∀ v : ST, y = Sum.inr v → V p l e 2 0 s m args below meth c Q KM 43 g B 4 0 v 100 [] [] := fun v e9 => by rw [hx v e9]; exact hX0
  unfold fX11_blows_5 at hf
  refine v_iload_n (pc := 5) (j := 1) F dX11_blows_5 rfl rfl ?_
  refine v_iconst (pc := 6) (v := 5) F dX11_blows_6 ic_5 ?_
  refine v_icmp_eq (pc := 7) (tgt := 100) F dX11_blows_7 (by decide) (fun c1 => ?_) (fun c1 => ?_)
  · have hf := ite_t hf c1
    refine V.sub (lv' := []) [] rfl ?_
    exact hx0 s1.1 (Option.some.inj hf).symm
  · have hf := ite_f hf c1
    refine v_iload_n (pc := 10) (j := 2) F dX11_blows_10 rfl rfl ?_
    refine v_bipush (pc := 11) (v := 8) F dX11_blows_11 bp_8 ?_
    refine v_iload_n (pc := 13) (j := 1) F dX11_blows_13 rfl rfl ?_
    refine v_imul (pc := 14) F dX11_blows_14 ?_
    refine v_aload_n (pc := 15) (j := 0) F dX11_blows_15 rfl rfl ?_
    refine v_ifl (pc := 16) F fl_X11_59 dX11_blows_16 km_0.1 km_0.2 fv_10_11 ?_
    refine v_iload_n (pc := 19) (j := 1) F dX11_blows_19 rfl rfl ?_
    obtain ⟨v2, e3, hf⟩ := bnd_some hf
    refine v_iald (pc := 20) F dX11_blows_20 km_11.1 km_11.2 e3 ?_
    refine v_iadd (pc := 21) F dX11_blows_21 ?_
    refine v_icmp_ge (pc := 22) (tgt := 100) F dX11_blows_22 (by decide) (fun c4 => ?_) (fun c4 => ?_)
    · have hf := ite_t hf c4
      refine V.sub (lv' := []) [] rfl ?_
      exact hx0 s1.1 (Option.some.inj hf).symm
    · have hf := ite_f hf c4
      refine v_aload_n (pc := 25) (j := 0) F dX11_blows_25 rfl rfl ?_
      refine v_ifl (pc := 26) F fl_X11_87 dX11_blows_26 km_0.1 km_0.2 fv_10_29 ?_
      refine v_aload_n (pc := 29) (j := 0) F dX11_blows_29 rfl rfl ?_
      refine v_ifl (pc := 30) F fl_X11_62 dX11_blows_30 km_0.1 km_0.2 fv_10_12 ?_
      refine v_iload_n (pc := 33) (j := 2) F dX11_blows_33 rfl rfl ?_
      obtain ⟨v5, e6, hf⟩ := bnd_some hf
      refine v_iald (pc := 34) F dX11_blows_34 km_12.1 km_12.2 e6 ?_
      obtain ⟨v7, e8, hf⟩ := bnd_some hf
      refine v_iald (pc := 35) F dX11_blows_35 km_19.1 km_19.2 e8 ?_
      refine v_aload_n (pc := 36) (j := 0) F dX11_blows_36 rfl rfl ?_
      refine v_ifl (pc := 37) F fl_X11_68 dX11_blows_37 km_0.1 km_0.2 fv_10_14 ?_
      refine v_iload_n (pc := 40) (j := 2) F dX11_blows_40 rfl rfl ?_
      obtain ⟨v9, e10, hf⟩ := bnd_some hf
      refine v_iald (pc := 41) F dX11_blows_41 km_14.1 km_14.2 e10 ?_
      refine v_imul (pc := 42) F dX11_blows_42 ?_
      refine v_bipush (pc := 43) (v := 10) F dX11_blows_43 bp_10 ?_
      refine v_idiv (pc := 45) F dX11_blows_45 (by decide) ?_
      refine v_istore_n (pc := 46) (lv' := [(0, .ref (gA g 0)), (1, .int l1), (2, .int s1.2), (3, .int ((v7 * v9) / 10))]) F dX11_blows_46 rfl (by decide) rfl ?_
      refine v_aload_n (pc := 47) (j := 0) F dX11_blows_47 rfl rfl ?_
      refine v_ifl (pc := 48) F fl_X11_87 dX11_blows_48 km_0.1 km_0.2 fv_10_29 ?_
      refine v_aload_n (pc := 51) (j := 0) F dX11_blows_51 rfl rfl ?_
      refine v_ifl (pc := 52) F fl_X11_62 dX11_blows_52 km_0.1 km_0.2 fv_10_12 ?_
      refine v_iload_n (pc := 55) (j := 2) F dX11_blows_55 rfl rfl ?_
      obtain ⟨v11, e12, hf⟩ := bnd_some hf
      refine v_iald (pc := 56) F dX11_blows_56 km_12.1 km_12.2 e12 ?_
      refine v_dup2_11 (pc := 57) F dX11_blows_57 rfl rfl ?_
      obtain ⟨v13, e14, hf⟩ := bnd_some hf
      refine v_iald (pc := 58) F dX11_blows_58 km_19.1 km_19.2 e14 ?_
      refine v_iload_n (pc := 59) (j := 3) F dX11_blows_59 rfl rfl ?_
      refine v_isub (pc := 60) F dX11_blows_60 ?_
      obtain ⟨h15, e16, hf⟩ := bnd_some hf
      refine v_iast (pc := 61) F dX11_blows_61 km_19.1 km_19.2 e16 ?_
      refine v_aload_n (pc := 62) (j := 0) F dX11_blows_62 rfl rfl ?_
      refine v_aload_n (pc := 63) (j := 0) F dX11_blows_63 rfl rfl ?_
      refine v_ifl (pc := 64) F fl_X11_65 dX11_blows_64 km_0.1 km_0.2 fv_10_13 ?_
      refine v_iload_n (pc := 67) (j := 2) F dX11_blows_67 rfl rfl ?_
      obtain ⟨v17, e18, hf⟩ := bnd_some hf
      refine v_iald (pc := 68) F dX11_blows_68 km_13.1 km_13.2 e18 ?_
      refine v_aload_n (pc := 69) (j := 0) F dX11_blows_69 rfl rfl ?_
      refine v_ifl (pc := 70) F fl_X11_40 dX11_blows_70 km_0.1 km_0.2 fv_10_4 ?_
      refine v_aload_n (pc := 73) (j := 0) F dX11_blows_73 rfl rfl ?_
      refine v_ifl (pc := 74) F fl_X11_65 dX11_blows_74 km_0.1 km_0.2 fv_10_13 ?_
      refine v_iload_n (pc := 77) (j := 2) F dX11_blows_77 rfl rfl ?_
      obtain ⟨v19, e20, hf⟩ := bnd_some hf
      refine v_iald (pc := 78) F dX11_blows_78 km_13.1 km_13.2 e20 ?_
      obtain ⟨v21, e22, hf⟩ := bnd_some hf
      refine v_iald (pc := 79) F dX11_blows_79 km_4.1 km_4.2 e22 ?_
      refine v_iconst (pc := 80) (v := 1) F dX11_blows_80 ic_1 ?_
      refine v_icmp_ne (pc := 81) (tgt := 90) F dX11_blows_81 (by decide) (fun c23 => ?_) (fun c23 => ?_)
      · have hf := ite_f hf c23
        refine v_iload_n (pc := 90) (j := 3) F dX11_blows_90 rfl rfl ?_
        refine V.sub (lv' := [(0, .ref (gA g 0)), (1, .int l1), (2, .int s1.2)]) [0, 1, 2] rfl ?_
        exact tX11_blows_91 F hk hx0 hf
      · have hf := ite_t hf c23
        refine v_iload_n (pc := 84) (j := 3) F dX11_blows_84 rfl rfl ?_
        refine v_iconst (pc := 85) (v := 2) F dX11_blows_85 ic_2 ?_
        refine v_idiv (pc := 86) F dX11_blows_86 (by decide) ?_
        refine v_goto (pc := 87) (tgt := 91) F dX11_blows_87 (by decide) ?_
        refine V.sub (lv' := [(0, .ref (gA g 0)), (1, .int l1), (2, .int s1.2)]) [0, 1, 2] rfl ?_
        exact tX11_blows_91 F hk hx0 hf
set_option maxRecDepth 100000 in
set_option maxHeartbeats 4000000 in
theorem tX11_blows_100 {p : Program} {l : Launch} {e : Env} {s : State} {m : MethodId} {args : Array Value} {below : List Frame} {meth : Method} {c : Code} {g : GE} {B : Nat} {h : ST}  (F : Fx p s m args meth c cX11_blows 4 "DustParishModel" 43 g B)
    {y : ST} (hr : meth.sig.returnType = none) (hf : fX11_blows_100 h  = some y) : V p l e 2 0 s m args below meth c (MQ below (QO KM 43 g none y) args s 0 (6 * 0) (WA 43 g)) KM 43 g B 4 0 h 100 [] [] := by
  unfold fX11_blows_100 at hf
  exact v_vret (pc := 100) F hr dX11_blows_100 (Option.some.inj hf) (Nat.zero_le _)
set_option maxRecDepth 100000 in
set_option maxHeartbeats 4000000 in
theorem kX11_blows {l : Launch} {g : GE} {B : Nat} {h : ST} {a1 : Int32} {y : ST} (hf : fX11_blows h a1 = some y) : CT l yX11_blows cX11_blows 4 none 2 KM 43 g B [.ref (gA g 0), .int a1] h none y := by
  refine CT.of pn_X11 (Nat.le_of_ble_eq_true rfl) ?_
  intro p e s m below meth c hr F
  have F : Fx p s m _ meth c cX11_blows 4 "DustParishModel" 43 g B := F
  refine V_lv (lv' := [(0, .ref (gA g 0)), (1, .int a1)]) rfl ?_
  unfold fX11_blows at hf
  refine v_bipush (pc := 0) (v := 8) F dX11_blows_0 bp_8 ?_
  refine v_iload_n (pc := 2) (j := 1) F dX11_blows_2 rfl rfl ?_
  refine v_imul (pc := 3) F dX11_blows_3 ?_
  refine v_istore_n (pc := 4) (lv' := [(0, .ref (gA g 0)), (1, .int a1), (2, .int (8 * a1))]) F dX11_blows_4 rfl (by decide) rfl ?_
  obtain ⟨x26, e27, hf⟩ := bnd_some hf
  refine tX11_blows_5 (s0 := (h, 8 * a1)) F ?_ e27
  exact tX11_blows_100 F hr hf
def fX11_reckon_103 (h : ST) (q0 : Int32) : Option (Int32) :=
  some q0
def fX11_reckon_102 (h : ST)  : Option (Int32) :=
  fX11_reckon_103 h 0
def fX11_reckon_89 (h : ST) (q0 : Int32) : Option (Int32) :=
  some q0
def fX11_reckon_78 (h : ST) (q0 : Int32) : Option (Int32) :=
  some q0
def fX11_reckon_67 (h : ST) (q0 : Int32) : Option (Int32) :=
  some q0
def fX11_reckon_117 (h : ST) (q0 : Int32) : Option (Int32) :=
  some q0
def fX11_reckon_112 (h : ST)  : Option (Int32) :=
  fX11_reckon_117 h 1
def fX11_reckon (h : ST) (a1 : Int32) (a2 : Int32) (a3 : Int32) : Option (Int32) :=
  if a1 = (-26) then
  if a2 = 0 then
    fX11_reckon_102 h 
    else
    if a3 = 0 then
      fX11_reckon_102 h 
      else
      fX11_reckon_103 h 1
  else
  if a1 = (-25) then
  if a2 = a3 then
    fX11_reckon_89 h 1
    else
    fX11_reckon_89 h 0
  else
  if a1 = (-24) then
  if a3 ≤ a2 then
    fX11_reckon_78 h 0
    else
    fX11_reckon_78 h 1
  else
  if a1 = (-23) then
  if a3 = 0 then
    fX11_reckon_67 h 0
    else
    grd (¬ a3 = 0) (
      fX11_reckon_67 h (a2 / a3))
  else
  if a1 = (-22) then
  some (a2 * a3)
  else
  if a1 = (-21) then
  some (a2 - a3)
  else
  if a1 = (-20) then
  some (a2 + a3)
  else
  if a2 = 0 then
  if a3 = 0 then
    fX11_reckon_117 h 0
    else
    fX11_reckon_112 h 
  else
  fX11_reckon_112 h 
set_option maxRecDepth 100000 in
set_option maxHeartbeats 4000000 in
theorem tX11_reckon_103 {p : Program} {l : Launch} {e : Env} {s : State} {m : MethodId} {args : Array Value} {below : List Frame} {meth : Method} {c : Code} {g : GE} {B : Nat} {h : ST}  {q0 : Int32} (F : Fx p s m args meth c cX11_reckon 3 "DustParishModel" 43 g B)
    {y : Int32} (hr : meth.sig.returnType = (some .int)) (hf : fX11_reckon_103 h q0 = some y) : V p l e 1 0 s m args below meth c (MQ below (QO KM 43 g (some (.int y)) h) args s 0 (6 * 0) (WA 43 g)) KM 43 g B 3 0 h 103 [] [.int q0] := by
  unfold fX11_reckon_103 at hf
  exact v_iret (pc := 103) F hr dX11_reckon_103 (Option.some.inj hf) rfl (Nat.zero_le _)
set_option maxRecDepth 100000 in
set_option maxHeartbeats 4000000 in
theorem tX11_reckon_102 {p : Program} {l : Launch} {e : Env} {s : State} {m : MethodId} {args : Array Value} {below : List Frame} {meth : Method} {c : Code} {g : GE} {B : Nat} {h : ST}  (F : Fx p s m args meth c cX11_reckon 3 "DustParishModel" 43 g B)
    {y : Int32} (hr : meth.sig.returnType = (some .int)) (hf : fX11_reckon_102 h  = some y) : V p l e 1 0 s m args below meth c (MQ below (QO KM 43 g (some (.int y)) h) args s 0 (6 * 0) (WA 43 g)) KM 43 g B 3 0 h 102 [] [] := by
  unfold fX11_reckon_102 at hf
  refine v_iconst (pc := 102) (v := 0) F dX11_reckon_102 ic_0 ?_
  exact tX11_reckon_103 F hr hf
set_option maxRecDepth 100000 in
set_option maxHeartbeats 4000000 in
theorem tX11_reckon_89 {p : Program} {l : Launch} {e : Env} {s : State} {m : MethodId} {args : Array Value} {below : List Frame} {meth : Method} {c : Code} {g : GE} {B : Nat} {h : ST}  {q0 : Int32} (F : Fx p s m args meth c cX11_reckon 3 "DustParishModel" 43 g B)
    {y : Int32} (hr : meth.sig.returnType = (some .int)) (hf : fX11_reckon_89 h q0 = some y) : V p l e 1 0 s m args below meth c (MQ below (QO KM 43 g (some (.int y)) h) args s 0 (6 * 0) (WA 43 g)) KM 43 g B 3 0 h 89 [] [.int q0] := by
  unfold fX11_reckon_89 at hf
  exact v_iret (pc := 89) F hr dX11_reckon_89 (Option.some.inj hf) rfl (Nat.zero_le _)
set_option maxRecDepth 100000 in
set_option maxHeartbeats 4000000 in
theorem tX11_reckon_78 {p : Program} {l : Launch} {e : Env} {s : State} {m : MethodId} {args : Array Value} {below : List Frame} {meth : Method} {c : Code} {g : GE} {B : Nat} {h : ST}  {q0 : Int32} (F : Fx p s m args meth c cX11_reckon 3 "DustParishModel" 43 g B)
    {y : Int32} (hr : meth.sig.returnType = (some .int)) (hf : fX11_reckon_78 h q0 = some y) : V p l e 1 0 s m args below meth c (MQ below (QO KM 43 g (some (.int y)) h) args s 0 (6 * 0) (WA 43 g)) KM 43 g B 3 0 h 78 [] [.int q0] := by
  unfold fX11_reckon_78 at hf
  exact v_iret (pc := 78) F hr dX11_reckon_78 (Option.some.inj hf) rfl (Nat.zero_le _)
set_option maxRecDepth 100000 in
set_option maxHeartbeats 4000000 in
theorem tX11_reckon_67 {p : Program} {l : Launch} {e : Env} {s : State} {m : MethodId} {args : Array Value} {below : List Frame} {meth : Method} {c : Code} {g : GE} {B : Nat} {h : ST}  {q0 : Int32} (F : Fx p s m args meth c cX11_reckon 3 "DustParishModel" 43 g B)
    {y : Int32} (hr : meth.sig.returnType = (some .int)) (hf : fX11_reckon_67 h q0 = some y) : V p l e 1 0 s m args below meth c (MQ below (QO KM 43 g (some (.int y)) h) args s 0 (6 * 0) (WA 43 g)) KM 43 g B 3 0 h 67 [] [.int q0] := by
  unfold fX11_reckon_67 at hf
  exact v_iret (pc := 67) F hr dX11_reckon_67 (Option.some.inj hf) rfl (Nat.zero_le _)
set_option maxRecDepth 100000 in
set_option maxHeartbeats 4000000 in
theorem tX11_reckon_117 {p : Program} {l : Launch} {e : Env} {s : State} {m : MethodId} {args : Array Value} {below : List Frame} {meth : Method} {c : Code} {g : GE} {B : Nat} {h : ST}  {q0 : Int32} (F : Fx p s m args meth c cX11_reckon 3 "DustParishModel" 43 g B)
    {y : Int32} (hr : meth.sig.returnType = (some .int)) (hf : fX11_reckon_117 h q0 = some y) : V p l e 1 0 s m args below meth c (MQ below (QO KM 43 g (some (.int y)) h) args s 0 (6 * 0) (WA 43 g)) KM 43 g B 3 0 h 117 [] [.int q0] := by
  unfold fX11_reckon_117 at hf
  exact v_iret (pc := 117) F hr dX11_reckon_117 (Option.some.inj hf) rfl (Nat.zero_le _)
set_option maxRecDepth 100000 in
set_option maxHeartbeats 4000000 in
theorem tX11_reckon_112 {p : Program} {l : Launch} {e : Env} {s : State} {m : MethodId} {args : Array Value} {below : List Frame} {meth : Method} {c : Code} {g : GE} {B : Nat} {h : ST}  (F : Fx p s m args meth c cX11_reckon 3 "DustParishModel" 43 g B)
    {y : Int32} (hr : meth.sig.returnType = (some .int)) (hf : fX11_reckon_112 h  = some y) : V p l e 1 0 s m args below meth c (MQ below (QO KM 43 g (some (.int y)) h) args s 0 (6 * 0) (WA 43 g)) KM 43 g B 3 0 h 112 [] [] := by
  unfold fX11_reckon_112 at hf
  refine v_iconst (pc := 112) (v := 1) F dX11_reckon_112 ic_1 ?_
  refine v_goto (pc := 113) (tgt := 117) F dX11_reckon_113 (by decide) ?_
  exact tX11_reckon_117 F hr hf
set_option maxRecDepth 100000 in
set_option maxHeartbeats 4000000 in
theorem kX11_reckon {l : Launch} {g : GE} {B : Nat} {h : ST} {a1 : Int32} {a2 : Int32} {a3 : Int32} {y : Int32} (hf : fX11_reckon h a1 a2 a3 = some y) : CT l yX11_reckon cX11_reckon 3 (some .int) 1 KM 43 g B [.int a1, .int a2, .int a3] h (some (.int y)) h := by
  refine CT.of pn_X11 (Nat.le_of_ble_eq_true rfl) ?_
  intro p e s m below meth c hr F
  have F : Fx p s m _ meth c cX11_reckon 3 "DustParishModel" 43 g B := F
  refine V_lv (lv' := [(0, .int a1), (1, .int a2), (2, .int a3)]) rfl ?_
  unfold fX11_reckon at hf
  refine v_iload_n (pc := 0) (j := 0) F dX11_reckon_0 rfl rfl ?_
  by_cases c1 : a1 = (-26)
  · have hf := ite_t hf c1
    refine v_tabIn (pc := 1) (off := 89) (tgt := 90) F dX11_reckon_1 (by rw [c1]; decide) (by rw [c1]; decide) (by rw [c1]; rfl) (by decide) ?_
    refine v_iload_n (pc := 90) (j := 1) F dX11_reckon_90 rfl rfl ?_
    refine v_if_eq (pc := 91) (tgt := 102) F dX11_reckon_91 (by decide) (fun c2 => ?_) (fun c2 => ?_)
    · have hf := ite_t hf c2
      refine V.sub (lv' := []) [] rfl ?_
      exact tX11_reckon_102 F hr hf
    · have hf := ite_f hf c2
      refine v_iload_n (pc := 94) (j := 2) F dX11_reckon_94 rfl rfl ?_
      refine v_if_eq (pc := 95) (tgt := 102) F dX11_reckon_95 (by decide) (fun c3 => ?_) (fun c3 => ?_)
      · have hf := ite_t hf c3
        refine V.sub (lv' := []) [] rfl ?_
        exact tX11_reckon_102 F hr hf
      · have hf := ite_f hf c3
        refine v_iconst (pc := 98) (v := 1) F dX11_reckon_98 ic_1 ?_
        refine v_goto (pc := 99) (tgt := 103) F dX11_reckon_99 (by decide) ?_
        refine V.sub (lv' := []) [] rfl ?_
        exact tX11_reckon_103 F hr hf
  have hf := ite_f hf c1
  by_cases c4 : a1 = (-25)
  · have hf := ite_t hf c4
    refine v_tabIn (pc := 1) (off := 78) (tgt := 79) F dX11_reckon_1 (by rw [c4]; decide) (by rw [c4]; decide) (by rw [c4]; rfl) (by decide) ?_
    refine v_iload_n (pc := 79) (j := 1) F dX11_reckon_79 rfl rfl ?_
    refine v_iload_n (pc := 80) (j := 2) F dX11_reckon_80 rfl rfl ?_
    refine v_icmp_ne (pc := 81) (tgt := 88) F dX11_reckon_81 (by decide) (fun c5 => ?_) (fun c5 => ?_)
    · have hf := ite_f hf c5
      refine v_iconst (pc := 88) (v := 0) F dX11_reckon_88 ic_0 ?_
      refine V.sub (lv' := []) [] rfl ?_
      exact tX11_reckon_89 F hr hf
    · have hf := ite_t hf c5
      refine v_iconst (pc := 84) (v := 1) F dX11_reckon_84 ic_1 ?_
      refine v_goto (pc := 85) (tgt := 89) F dX11_reckon_85 (by decide) ?_
      refine V.sub (lv' := []) [] rfl ?_
      exact tX11_reckon_89 F hr hf
  have hf := ite_f hf c4
  by_cases c6 : a1 = (-24)
  · have hf := ite_t hf c6
    refine v_tabIn (pc := 1) (off := 67) (tgt := 68) F dX11_reckon_1 (by rw [c6]; decide) (by rw [c6]; decide) (by rw [c6]; rfl) (by decide) ?_
    refine v_iload_n (pc := 68) (j := 1) F dX11_reckon_68 rfl rfl ?_
    refine v_iload_n (pc := 69) (j := 2) F dX11_reckon_69 rfl rfl ?_
    refine v_icmp_ge (pc := 70) (tgt := 77) F dX11_reckon_70 (by decide) (fun c7 => ?_) (fun c7 => ?_)
    · have hf := ite_t hf c7
      refine v_iconst (pc := 77) (v := 0) F dX11_reckon_77 ic_0 ?_
      refine V.sub (lv' := []) [] rfl ?_
      exact tX11_reckon_78 F hr hf
    · have hf := ite_f hf c7
      refine v_iconst (pc := 73) (v := 1) F dX11_reckon_73 ic_1 ?_
      refine v_goto (pc := 74) (tgt := 78) F dX11_reckon_74 (by decide) ?_
      refine V.sub (lv' := []) [] rfl ?_
      exact tX11_reckon_78 F hr hf
  have hf := ite_f hf c6
  by_cases c8 : a1 = (-23)
  · have hf := ite_t hf c8
    refine v_tabIn (pc := 1) (off := 55) (tgt := 56) F dX11_reckon_1 (by rw [c8]; decide) (by rw [c8]; decide) (by rw [c8]; rfl) (by decide) ?_
    refine v_iload_n (pc := 56) (j := 2) F dX11_reckon_56 rfl rfl ?_
    refine v_if_ne (pc := 57) (tgt := 64) F dX11_reckon_57 (by decide) (fun c9 => ?_) (fun c9 => ?_)
    · have hf := ite_f hf c9
      refine v_iload_n (pc := 64) (j := 1) F dX11_reckon_64 rfl rfl ?_
      refine v_iload_n (pc := 65) (j := 2) F dX11_reckon_65 rfl rfl ?_
      obtain ⟨g10, hf⟩ := grd_some hf
      refine v_idiv (pc := 66) F dX11_reckon_66 g10 ?_
      refine V.sub (lv' := []) [] rfl ?_
      exact tX11_reckon_67 F hr hf
    · have hf := ite_t hf c9
      refine v_iconst (pc := 60) (v := 0) F dX11_reckon_60 ic_0 ?_
      refine v_goto (pc := 61) (tgt := 67) F dX11_reckon_61 (by decide) ?_
      refine V.sub (lv' := []) [] rfl ?_
      exact tX11_reckon_67 F hr hf
  have hf := ite_f hf c8
  by_cases c11 : a1 = (-22)
  · have hf := ite_t hf c11
    refine v_tabIn (pc := 1) (off := 51) (tgt := 52) F dX11_reckon_1 (by rw [c11]; decide) (by rw [c11]; decide) (by rw [c11]; rfl) (by decide) ?_
    refine v_iload_n (pc := 52) (j := 1) F dX11_reckon_52 rfl rfl ?_
    refine v_iload_n (pc := 53) (j := 2) F dX11_reckon_53 rfl rfl ?_
    refine v_imul (pc := 54) F dX11_reckon_54 ?_
    exact v_iret (pc := 55) F hr dX11_reckon_55 (Option.some.inj hf) rfl (Nat.zero_le _)
  have hf := ite_f hf c11
  by_cases c12 : a1 = (-21)
  · have hf := ite_t hf c12
    refine v_tabIn (pc := 1) (off := 47) (tgt := 48) F dX11_reckon_1 (by rw [c12]; decide) (by rw [c12]; decide) (by rw [c12]; rfl) (by decide) ?_
    refine v_iload_n (pc := 48) (j := 1) F dX11_reckon_48 rfl rfl ?_
    refine v_iload_n (pc := 49) (j := 2) F dX11_reckon_49 rfl rfl ?_
    refine v_isub (pc := 50) F dX11_reckon_50 ?_
    exact v_iret (pc := 51) F hr dX11_reckon_51 (Option.some.inj hf) rfl (Nat.zero_le _)
  have hf := ite_f hf c12
  by_cases c13 : a1 = (-20)
  · have hf := ite_t hf c13
    refine v_tabIn (pc := 1) (off := 43) (tgt := 44) F dX11_reckon_1 (by rw [c13]; decide) (by rw [c13]; decide) (by rw [c13]; rfl) (by decide) ?_
    refine v_iload_n (pc := 44) (j := 1) F dX11_reckon_44 rfl rfl ?_
    refine v_iload_n (pc := 45) (j := 2) F dX11_reckon_45 rfl rfl ?_
    refine v_iadd (pc := 46) F dX11_reckon_46 ?_
    exact v_iret (pc := 47) F hr dX11_reckon_47 (Option.some.inj hf) rfl (Nat.zero_le _)
  have hf := ite_f hf c13
  have n_c1 : ¬ (a1).toInt = -26 := lv_neT c1 rfl
  have n_c4 : ¬ (a1).toInt = -25 := lv_neT c4 rfl
  have n_c6 : ¬ (a1).toInt = -24 := lv_neT c6 rfl
  have n_c8 : ¬ (a1).toInt = -23 := lv_neT c8 rfl
  have n_c11 : ¬ (a1).toInt = -22 := lv_neT c11 rfl
  have n_c12 : ¬ (a1).toInt = -21 := lv_neT c12 rfl
  have n_c13 : ¬ (a1).toInt = -20 := lv_neT c13 rfl
  refine v_tabOut (pc := 1) (tgt := 104) F dX11_reckon_1 (by omega) (by decide) ?_
  refine v_iload_n (pc := 104) (j := 1) F dX11_reckon_104 rfl rfl ?_
  refine v_if_ne (pc := 105) (tgt := 112) F dX11_reckon_105 (by decide) (fun c14 => ?_) (fun c14 => ?_)
  · have hf := ite_f hf c14
    refine V.sub (lv' := []) [] rfl ?_
    exact tX11_reckon_112 F hr hf
  · have hf := ite_t hf c14
    refine v_iload_n (pc := 108) (j := 2) F dX11_reckon_108 rfl rfl ?_
    refine v_if_eq (pc := 109) (tgt := 116) F dX11_reckon_109 (by decide) (fun c15 => ?_) (fun c15 => ?_)
    · have hf := ite_t hf c15
      refine v_iconst (pc := 116) (v := 0) F dX11_reckon_116 ic_0 ?_
      refine V.sub (lv' := []) [] rfl ?_
      exact tX11_reckon_117 F hr hf
    · have hf := ite_f hf c15
      refine V.sub (lv' := []) [] rfl ?_
      exact tX11_reckon_112 F hr hf
def fX11_valueNow_118 (h : ST) (l1 : Int32) (l2 : Int32) : Option ((ST × Int32 × Int32) ⊕ ST) :=
  some (.inl (h, l1, l2 + 1))
def fX11_valueNow_85 (h : ST) (l1 : Int32) (l2 : Int32) (q1 : Int32) (q2 : Int32) : Option ((ST × Int32 × Int32) ⊕ ST) :=
  bnd (wr 64 h 24 q1 q2) fun h19 =>
  fX11_valueNow_118 h19 l1 l2
def fX11_valueNow_49 (h : ST) (l1 : Int32) (l2 : Int32) (q1 : Int32) (q2 : Int32) : Option ((ST × Int32 × Int32) ⊕ ST) :=
  bnd (wr 64 h 24 q1 q2) fun h24 =>
  fX11_valueNow_118 h24 (l1 + 1) l2
def fX11_valueNow_4 (s1 : (ST × Int32 × Int32)) : Option ((ST × Int32 × Int32) ⊕ ST) :=
  bnd (rd 14 (s1.1 3) 6) fun v1 =>
  if v1 ≤ s1.2.2 then
  some (.inr s1.1)
  else
  bnd (rd 1400 (s1.1 16) s1.2.2) fun v4 =>
    if v4 ≤ (-20) then
    if v4 = (-28) then
      bnd (rd 64 (s1.1 24) (s1.2.1 - 1)) fun v16 =>
        if v16 = 0 then
        fX11_valueNow_85 s1.1 s1.2.1 s1.2.2 (s1.2.1 - 1) 1
        else
        fX11_valueNow_85 s1.1 s1.2.1 s1.2.2 (s1.2.1 - 1) 0
      else
      bnd (rd 64 (s1.1 24) ((s1.2.1 + (-1)) - 1)) fun v8 =>
        bnd (rd 64 (s1.1 24) (s1.2.1 + (-1))) fun v10 =>
        bnd (fX11_reckon s1.1 v4 v8 v10) fun r12 =>
        bnd (wr 64 s1.1 24 ((s1.2.1 + (-1)) - 1) r12) fun h14 =>
        fX11_valueNow_118 h14 (s1.2.1 + (-1)) s1.2.2
    else
    if v4 < 0 then
      bnd (rd 6 (s1.1 23) ((-1) - v4)) fun v22 =>
        fX11_valueNow_49 s1.1 s1.2.1 s1.2.2 s1.2.1 v22
      else
      fX11_valueNow_49 s1.1 s1.2.1 s1.2.2 s1.2.1 v4
def fX11_valueNow (h : ST) : Option (Int32 × ST) :=
  bnd (lp FU (fX11_valueNow_4) (h, 0, 0)) fun x26 =>
  bnd (rd 64 (x26 24) 0) fun v28 =>
  some (v28, x26)
set_option maxRecDepth 100000 in
set_option maxHeartbeats 4000000 in
theorem tX11_valueNow_118 {p : Program} {l : Launch} {e : Env} {s : State} {m : MethodId} {args : Array Value} {below : List Frame} {meth : Method} {c : Code} {g : GE} {B : Nat} {h : ST}  {l1 : Int32} {l2 : Int32} (F : Fx p s m args meth c cX11_valueNow 4 "DustParishModel" 43 g B)
    {Q : State → Prop} {y : (ST × Int32 × Int32) ⊕ ST} (hk : ∀ v : (ST × Int32 × Int32), y = Sum.inl v → V p l e 2 0 s m args below meth c Q KM 43 g B 4 0 v.1 4 [(0, .ref (gA g 0)), (1, .int v.2.1), (2, .int v.2.2)] []) (hx0 : ∀ v : ST, y = Sum.inr v → V p l e 2 0 s m args below meth c Q KM 43 g B 4 0 v 124 [(0, .ref (gA g 0))] []) (hf : fX11_valueNow_118 h l1 l2 = some y) : V p l e 2 0 s m args below meth c Q KM 43 g B 4 0 h 118 [(0, .ref (gA g 0)), (1, .int l1), (2, .int l2)] [] := by
  unfold fX11_valueNow_118 at hf
  refine v_iinc (pc := 118) (j := 2) (v := l2 + 1) (lv' := [(0, .ref (gA g 0)), (1, .int l1), (2, .int (l2 + 1))]) F dX11_valueNow_118 rfl (congrArg (fun z => l2 + z) ic_1) (by decide) rfl ?_
  refine v_goto (pc := 121) (tgt := 4) F dX11_valueNow_121 (by decide) ?_
  exact hk (h, l1, l2 + 1) (Option.some.inj hf).symm
set_option maxRecDepth 100000 in
set_option maxHeartbeats 4000000 in
theorem tX11_valueNow_85 {p : Program} {l : Launch} {e : Env} {s : State} {m : MethodId} {args : Array Value} {below : List Frame} {meth : Method} {c : Code} {g : GE} {B : Nat} {h : ST}  {l1 : Int32} {l2 : Int32} {q1 : Int32} {q2 : Int32} (F : Fx p s m args meth c cX11_valueNow 4 "DustParishModel" 43 g B)
    {Q : State → Prop} {y : (ST × Int32 × Int32) ⊕ ST} (hk : ∀ v : (ST × Int32 × Int32), y = Sum.inl v → V p l e 2 0 s m args below meth c Q KM 43 g B 4 0 v.1 4 [(0, .ref (gA g 0)), (1, .int v.2.1), (2, .int v.2.2)] []) (hx0 : ∀ v : ST, y = Sum.inr v → V p l e 2 0 s m args below meth c Q KM 43 g B 4 0 v 124 [(0, .ref (gA g 0))] []) (hf : fX11_valueNow_85 h l1 l2 q1 q2 = some y) : V p l e 2 0 s m args below meth c Q KM 43 g B 4 0 h 85 [(0, .ref (gA g 0)), (1, .int l1), (2, .int l2)] [.int q2, .int q1, .ref (gA g 24)] := by
  unfold fX11_valueNow_85 at hf
  obtain ⟨h19, e20, hf⟩ := bnd_some hf
  refine v_iast (pc := 85) F dX11_valueNow_85 km_24.1 km_24.2 e20 ?_
  refine v_goto (pc := 86) (tgt := 118) F dX11_valueNow_86 (by decide) ?_
  exact tX11_valueNow_118 F hk hx0 hf
set_option maxRecDepth 100000 in
set_option maxHeartbeats 4000000 in
theorem tX11_valueNow_49 {p : Program} {l : Launch} {e : Env} {s : State} {m : MethodId} {args : Array Value} {below : List Frame} {meth : Method} {c : Code} {g : GE} {B : Nat} {h : ST}  {l1 : Int32} {l2 : Int32} {q1 : Int32} {q2 : Int32} (F : Fx p s m args meth c cX11_valueNow 4 "DustParishModel" 43 g B)
    {Q : State → Prop} {y : (ST × Int32 × Int32) ⊕ ST} (hk : ∀ v : (ST × Int32 × Int32), y = Sum.inl v → V p l e 2 0 s m args below meth c Q KM 43 g B 4 0 v.1 4 [(0, .ref (gA g 0)), (1, .int v.2.1), (2, .int v.2.2)] []) (hx0 : ∀ v : ST, y = Sum.inr v → V p l e 2 0 s m args below meth c Q KM 43 g B 4 0 v 124 [(0, .ref (gA g 0))] []) (hf : fX11_valueNow_49 h l1 l2 q1 q2 = some y) : V p l e 2 0 s m args below meth c Q KM 43 g B 4 0 h 49 [(0, .ref (gA g 0)), (1, .int l1), (2, .int l2)] [.int q2, .int q1, .ref (gA g 24)] := by
  unfold fX11_valueNow_49 at hf
  obtain ⟨h24, e25, hf⟩ := bnd_some hf
  refine v_iast (pc := 49) F dX11_valueNow_49 km_24.1 km_24.2 e25 ?_
  refine v_iinc (pc := 50) (j := 1) (v := l1 + 1) (lv' := [(0, .ref (gA g 0)), (1, .int (l1 + 1)), (2, .int l2)]) F dX11_valueNow_50 rfl (congrArg (fun z => l1 + z) ic_1) (by decide) rfl ?_
  refine v_goto (pc := 53) (tgt := 118) F dX11_valueNow_53 (by decide) ?_
  exact tX11_valueNow_118 F hk hx0 hf
set_option maxRecDepth 100000 in
set_option maxHeartbeats 4000000 in
theorem tX11_valueNow_4 {p : Program} {l : Launch} {e : Env} {s : State} {m : MethodId} {args : Array Value} {below : List Frame} {meth : Method} {c : Code} {g : GE} {B : Nat}   {Q : State → Prop} {x : ST} {nf : Nat} {s0 : (ST × Int32 × Int32)} (F : Fx p s m args meth c cX11_valueNow 4 "DustParishModel" 43 g B) (hX0 : V p l e 2 0 s m args below meth c Q KM 43 g B 4 0 x 124 [(0, .ref (gA g 0))] []) (hl : lp nf (fX11_valueNow_4) s0 = some x) : V p l e 2 0 s m args below meth c Q KM 43 g B 4 0 s0.1 4 [(0, .ref (gA g 0)), (1, .int s0.2.1), (2, .int s0.2.2)] [] := by
  refine lp_ind (P := fun s0 => V p l e 2 0 s m args below meth c Q KM 43 g B 4 0 s0.1 4 [(0, .ref (gA g 0)), (1, .int s0.2.1), (2, .int s0.2.2)] []) ?_ nf s0 hl
  intro s1 y hf hk hx
  have hx0 : ∀ v : ST, y = Sum.inr v → V p l e 2 0 s m args below meth c Q KM 43 g B 4 0 v 124 [(0, .ref (gA g 0))] [] := fun v e9 => by rw [hx v e9]; exact hX0
  unfold fX11_valueNow_4 at hf
  refine v_iload_n (pc := 4) (j := 2) F dX11_valueNow_4 rfl rfl ?_
  refine v_aload_n (pc := 5) (j := 0) F dX11_valueNow_5 rfl rfl ?_
  refine v_ifl (pc := 6) F fl_X11_36 dX11_valueNow_6 km_0.1 km_0.2 fv_10_3 ?_
  refine v_bipush (pc := 9) (v := 6) F dX11_valueNow_9 bp_6 ?_
  obtain ⟨v1, e2, hf⟩ := bnd_some hf
  refine v_iald (pc := 11) F dX11_valueNow_11 km_3.1 km_3.2 e2 ?_
  refine v_icmp_ge (pc := 12) (tgt := 124) F dX11_valueNow_12 (by decide) (fun c3 => ?_) (fun c3 => ?_)
  · have hf := ite_t hf c3
    refine V.sub (lv' := [(0, .ref (gA g 0))]) [0] rfl ?_
    exact hx0 s1.1 (Option.some.inj hf).symm
  · have hf := ite_f hf c3
    refine v_aload_n (pc := 15) (j := 0) F dX11_valueNow_15 rfl rfl ?_
    refine v_ifl (pc := 16) F fl_X11_74 dX11_valueNow_16 km_0.1 km_0.2 fv_10_16 ?_
    refine v_iload_n (pc := 19) (j := 2) F dX11_valueNow_19 rfl rfl ?_
    obtain ⟨v4, e5, hf⟩ := bnd_some hf
    refine v_iald (pc := 20) F dX11_valueNow_20 km_16.1 km_16.2 e5 ?_
    refine v_istore_n (pc := 21) (lv' := [(0, .ref (gA g 0)), (1, .int s1.2.1), (2, .int s1.2.2), (3, .int v4)]) F dX11_valueNow_21 rfl (by decide) rfl ?_
    refine v_iload_n (pc := 22) (j := 3) F dX11_valueNow_22 rfl rfl ?_
    refine v_bipush (pc := 23) (v := (-20)) F dX11_valueNow_23 bp_m20 ?_
    refine v_icmp_le (pc := 25) (tgt := 56) F dX11_valueNow_25 (by decide) (fun c6 => ?_) (fun c6 => ?_)
    · have hf := ite_t hf c6
      refine v_iload_n (pc := 56) (j := 3) F dX11_valueNow_56 rfl rfl ?_
      refine v_bipush (pc := 57) (v := (-28)) F dX11_valueNow_57 bp_m28 ?_
      refine v_icmp_ne (pc := 59) (tgt := 89) F dX11_valueNow_59 (by decide) (fun c7 => ?_) (fun c7 => ?_)
      · have hf := ite_f hf c7
        refine v_iinc (pc := 89) (j := 1) (v := s1.2.1 + (-1)) (lv' := [(0, .ref (gA g 0)), (1, .int (s1.2.1 + (-1))), (2, .int s1.2.2), (3, .int v4)]) F dX11_valueNow_89 rfl (congrArg (fun z => s1.2.1 + z) ic_m1) (by decide) rfl ?_
        refine v_aload_n (pc := 92) (j := 0) F dX11_valueNow_92 rfl rfl ?_
        refine v_ifl (pc := 93) F fl_X11_100 dX11_valueNow_93 km_0.1 km_0.2 fv_10_39 ?_
        refine v_iload_n (pc := 96) (j := 1) F dX11_valueNow_96 rfl rfl ?_
        refine v_iconst (pc := 97) (v := 1) F dX11_valueNow_97 ic_1 ?_
        refine v_isub (pc := 98) F dX11_valueNow_98 ?_
        refine v_iload_n (pc := 99) (j := 3) F dX11_valueNow_99 rfl rfl ?_
        refine v_aload_n (pc := 100) (j := 0) F dX11_valueNow_100 rfl rfl ?_
        refine v_ifl (pc := 101) F fl_X11_100 dX11_valueNow_101 km_0.1 km_0.2 fv_10_39 ?_
        refine v_iload_n (pc := 104) (j := 1) F dX11_valueNow_104 rfl rfl ?_
        refine v_iconst (pc := 105) (v := 1) F dX11_valueNow_105 ic_1 ?_
        refine v_isub (pc := 106) F dX11_valueNow_106 ?_
        obtain ⟨v8, e9, hf⟩ := bnd_some hf
        refine v_iald (pc := 107) F dX11_valueNow_107 km_24.1 km_24.2 e9 ?_
        refine v_aload_n (pc := 108) (j := 0) F dX11_valueNow_108 rfl rfl ?_
        refine v_ifl (pc := 109) F fl_X11_100 dX11_valueNow_109 km_0.1 km_0.2 fv_10_39 ?_
        refine v_iload_n (pc := 112) (j := 1) F dX11_valueNow_112 rfl rfl ?_
        obtain ⟨v10, e11, hf⟩ := bnd_some hf
        refine v_iald (pc := 113) F dX11_valueNow_113 km_24.1 km_24.2 e11 ?_
        obtain ⟨r12, e13, hf⟩ := bnd_some hf
        refine v_callSi (pc := 114) (As := [.int v4, .int v8, .int v10]) F cl_X11_351 dX11_valueNow_114 (kX11_reckon e13) rfl rfl (Nat.le_of_ble_eq_true rfl) (by decide) (Nat.zero_le _) ?_
        obtain ⟨h14, e15, hf⟩ := bnd_some hf
        refine v_iast (pc := 117) F dX11_valueNow_117 km_24.1 km_24.2 e15 ?_
        refine V.sub (lv' := [(0, .ref (gA g 0)), (1, .int (s1.2.1 + (-1))), (2, .int s1.2.2)]) [0, 1, 2] rfl ?_
        exact tX11_valueNow_118 F hk hx0 hf
      · have hf := ite_t hf c7
        refine v_aload_n (pc := 62) (j := 0) F dX11_valueNow_62 rfl rfl ?_
        refine v_ifl (pc := 63) F fl_X11_100 dX11_valueNow_63 km_0.1 km_0.2 fv_10_39 ?_
        refine v_iload_n (pc := 66) (j := 1) F dX11_valueNow_66 rfl rfl ?_
        refine v_iconst (pc := 67) (v := 1) F dX11_valueNow_67 ic_1 ?_
        refine v_isub (pc := 68) F dX11_valueNow_68 ?_
        refine v_aload_n (pc := 69) (j := 0) F dX11_valueNow_69 rfl rfl ?_
        refine v_ifl (pc := 70) F fl_X11_100 dX11_valueNow_70 km_0.1 km_0.2 fv_10_39 ?_
        refine v_iload_n (pc := 73) (j := 1) F dX11_valueNow_73 rfl rfl ?_
        refine v_iconst (pc := 74) (v := 1) F dX11_valueNow_74 ic_1 ?_
        refine v_isub (pc := 75) F dX11_valueNow_75 ?_
        obtain ⟨v16, e17, hf⟩ := bnd_some hf
        refine v_iald (pc := 76) F dX11_valueNow_76 km_24.1 km_24.2 e17 ?_
        refine v_if_eq (pc := 77) (tgt := 84) F dX11_valueNow_77 (by decide) (fun c18 => ?_) (fun c18 => ?_)
        · have hf := ite_t hf c18
          refine v_iconst (pc := 84) (v := 1) F dX11_valueNow_84 ic_1 ?_
          refine V.sub (lv' := [(0, .ref (gA g 0)), (1, .int s1.2.1), (2, .int s1.2.2)]) [0, 1, 2] rfl ?_
          exact tX11_valueNow_85 F hk hx0 hf
        · have hf := ite_f hf c18
          refine v_iconst (pc := 80) (v := 0) F dX11_valueNow_80 ic_0 ?_
          refine v_goto (pc := 81) (tgt := 85) F dX11_valueNow_81 (by decide) ?_
          refine V.sub (lv' := [(0, .ref (gA g 0)), (1, .int s1.2.1), (2, .int s1.2.2)]) [0, 1, 2] rfl ?_
          exact tX11_valueNow_85 F hk hx0 hf
    · have hf := ite_f hf c6
      refine v_aload_n (pc := 28) (j := 0) F dX11_valueNow_28 rfl rfl ?_
      refine v_ifl (pc := 29) F fl_X11_100 dX11_valueNow_29 km_0.1 km_0.2 fv_10_39 ?_
      refine v_iload_n (pc := 32) (j := 1) F dX11_valueNow_32 rfl rfl ?_
      refine v_iload_n (pc := 33) (j := 3) F dX11_valueNow_33 rfl rfl ?_
      refine v_if_lt (pc := 34) (tgt := 41) F dX11_valueNow_34 (by decide) (fun c21 => ?_) (fun c21 => ?_)
      · have hf := ite_t hf c21
        refine v_aload_n (pc := 41) (j := 0) F dX11_valueNow_41 rfl rfl ?_
        refine v_ifl (pc := 42) F fl_X11_97 dX11_valueNow_42 km_0.1 km_0.2 fv_10_38 ?_
        refine v_iconst (pc := 45) (v := (-1)) F dX11_valueNow_45 ic_m1 ?_
        refine v_iload_n (pc := 46) (j := 3) F dX11_valueNow_46 rfl rfl ?_
        refine v_isub (pc := 47) F dX11_valueNow_47 ?_
        obtain ⟨v22, e23, hf⟩ := bnd_some hf
        refine v_iald (pc := 48) F dX11_valueNow_48 km_23.1 km_23.2 e23 ?_
        refine V.sub (lv' := [(0, .ref (gA g 0)), (1, .int s1.2.1), (2, .int s1.2.2)]) [0, 1, 2] rfl ?_
        exact tX11_valueNow_49 F hk hx0 hf
      · have hf := ite_f hf c21
        refine v_iload_n (pc := 37) (j := 3) F dX11_valueNow_37 rfl rfl ?_
        refine v_goto (pc := 38) (tgt := 49) F dX11_valueNow_38 (by decide) ?_
        refine V.sub (lv' := [(0, .ref (gA g 0)), (1, .int s1.2.1), (2, .int s1.2.2)]) [0, 1, 2] rfl ?_
        exact tX11_valueNow_49 F hk hx0 hf
set_option maxRecDepth 100000 in
set_option maxHeartbeats 4000000 in
theorem kX11_valueNow {l : Launch} {g : GE} {B : Nat} {h : ST} {y : Int32 × ST} (hf : fX11_valueNow h = some y) : CT l yX11_valueNow cX11_valueNow 4 (some .int) 2 KM 43 g B [.ref (gA g 0)] h (some (.int y.1)) y.2 := by
  refine CT.of pn_X11 (Nat.le_of_ble_eq_true rfl) ?_
  intro p e s m below meth c hr F
  have F : Fx p s m _ meth c cX11_valueNow 4 "DustParishModel" 43 g B := F
  refine V_lv (lv' := [(0, .ref (gA g 0))]) rfl ?_
  unfold fX11_valueNow at hf
  refine v_iconst (pc := 0) (v := 0) F dX11_valueNow_0 ic_0 ?_
  refine v_istore_n (pc := 1) (lv' := [(0, .ref (gA g 0)), (1, .int 0)]) F dX11_valueNow_1 rfl (by decide) rfl ?_
  refine v_iconst (pc := 2) (v := 0) F dX11_valueNow_2 ic_0 ?_
  refine v_istore_n (pc := 3) (lv' := [(0, .ref (gA g 0)), (1, .int 0), (2, .int 0)]) F dX11_valueNow_3 rfl (by decide) rfl ?_
  obtain ⟨x26, e27, hf⟩ := bnd_some hf
  refine tX11_valueNow_4 (s0 := (h, 0, 0)) F ?_ e27
  refine v_aload_n (pc := 124) (j := 0) F dX11_valueNow_124 rfl rfl ?_
  refine v_ifl (pc := 125) F fl_X11_100 dX11_valueNow_125 km_0.1 km_0.2 fv_10_39 ?_
  refine v_iconst (pc := 128) (v := 0) F dX11_valueNow_128 ic_0 ?_
  obtain ⟨v28, e29, hf⟩ := bnd_some hf
  refine v_iald (pc := 129) F dX11_valueNow_129 km_24.1 km_24.2 e29 ?_
  exact v_iret (pc := 130) F hr dX11_valueNow_130 (some_fst hf) (some_snd hf) (Nat.zero_le _)
def fX11_tithe_55 (h : ST) (l1 : Int32) (l3 : Int32) (q0 : Int32) (q1 : Int32) : Option ((Int32 × Int32) ⊕ Int32) :=
  some (.inl (q0 + q1, l3 + 1))
def fX11_tithe_24 (h : ST) (l1 : Int32) (s1 : (Int32 × Int32)) : Option ((Int32 × Int32) ⊕ Int32) :=
  bnd (rd 14 (h 3) 0) fun v4 =>
  if v4 ≤ s1.2 then
  some (.inr s1.1)
  else
  bnd (rd 18 (h 5) s1.2) fun v7 =>
    bnd (rd 18 (h 5) l1) fun v9 =>
    if v7 = v9 then
    fX11_tithe_55 h l1 s1.2 s1.1 1
    else
    fX11_tithe_55 h l1 s1.2 s1.1 0
def fX11_tithe (h : ST) (a1 : Int32) : Option (Int32 × ST) :=
  bnd (rd 14 (h 3) 6) fun v1 =>
  if v1 = 0 then
  bnd (rd 9 (h 19) a1) fun v38 =>
    some (v38 / 10, h)
  else
  bnd (lp FU (fX11_tithe_24 h a1) (0, 0)) fun x12 =>
    bnd (rd 9 (h 19) a1) fun v14 =>
    bnd (wr 6 h 23 0 v14) fun h16 =>
    bnd (rd 18 (h16 4) a1) fun v18 =>
    bnd (wr 6 h16 23 1 v18) fun h20 =>
    bnd (rd 18 (h20 5) a1) fun v22 =>
    bnd (wr 6 h20 23 2 v22) fun h24 =>
    bnd (wr 6 h24 23 3 (h24 0 33)) fun h26 =>
    bnd (wr 6 h26 23 4 x12) fun h28 =>
    bnd (rd 9 (h28 20) a1) fun v30 =>
    bnd (wr 6 h28 23 5 v30) fun h32 =>
    bnd (rd 9 (h32 19) a1) fun v34 =>
    bnd (fX11_valueNow h32) fun r36 =>
    some ((if (0 : Int32) < (if r36.1 < v34 then r36.1 else v34) then (if r36.1 < v34 then r36.1 else v34) else 0), r36.2)
set_option maxRecDepth 100000 in
set_option maxHeartbeats 4000000 in
theorem tX11_tithe_55 {p : Program} {l : Launch} {e : Env} {s : State} {m : MethodId} {args : Array Value} {below : List Frame} {meth : Method} {c : Code} {g : GE} {B : Nat} {h : ST}  {l1 : Int32} {l3 : Int32} {q0 : Int32} {q1 : Int32} (F : Fx p s m args meth c cX11_tithe 4 "DustParishModel" 43 g B)
    {Q : State → Prop} {y : (Int32 × Int32) ⊕ Int32} (hk : ∀ v : (Int32 × Int32), y = Sum.inl v → V p l e 3 0 s m args below meth c Q KM 43 g B 4 0 h 24 [(0, .ref (gA g 0)), (1, .int l1), (2, .int v.1), (3, .int v.2)] []) (hx0 : ∀ v : Int32, y = Sum.inr v → V p l e 3 0 s m args below meth c Q KM 43 g B 4 0 h 63 [(0, .ref (gA g 0)), (1, .int l1), (2, .int v)] []) (hf : fX11_tithe_55 h l1 l3 q0 q1 = some y) : V p l e 3 0 s m args below meth c Q KM 43 g B 4 0 h 55 [(0, .ref (gA g 0)), (1, .int l1), (3, .int l3)] [.int q1, .int q0] := by
  unfold fX11_tithe_55 at hf
  refine v_iadd (pc := 55) F dX11_tithe_55 ?_
  refine v_istore_n (pc := 56) (lv' := [(0, .ref (gA g 0)), (1, .int l1), (2, .int (q0 + q1)), (3, .int l3)]) F dX11_tithe_56 rfl (by decide) rfl ?_
  refine v_iinc (pc := 57) (j := 3) (v := l3 + 1) (lv' := [(0, .ref (gA g 0)), (1, .int l1), (2, .int (q0 + q1)), (3, .int (l3 + 1))]) F dX11_tithe_57 rfl (congrArg (fun z => l3 + z) ic_1) (by decide) rfl ?_
  refine v_goto (pc := 60) (tgt := 24) F dX11_tithe_60 (by decide) ?_
  exact hk (q0 + q1, l3 + 1) (Option.some.inj hf).symm
set_option maxRecDepth 100000 in
set_option maxHeartbeats 4000000 in
theorem tX11_tithe_24 {p : Program} {l : Launch} {e : Env} {s : State} {m : MethodId} {args : Array Value} {below : List Frame} {meth : Method} {c : Code} {g : GE} {B : Nat}  {h : ST}  {l1 : Int32} {Q : State → Prop} {x : Int32} {nf : Nat} {s0 : (Int32 × Int32)} (F : Fx p s m args meth c cX11_tithe 4 "DustParishModel" 43 g B) (hX0 : V p l e 3 0 s m args below meth c Q KM 43 g B 4 0 h 63 [(0, .ref (gA g 0)), (1, .int l1), (2, .int x)] []) (hl : lp nf (fX11_tithe_24 h l1) s0 = some x) : V p l e 3 0 s m args below meth c Q KM 43 g B 4 0 h 24 [(0, .ref (gA g 0)), (1, .int l1), (2, .int s0.1), (3, .int s0.2)] [] := by
  refine lp_ind (P := fun s0 => V p l e 3 0 s m args below meth c Q KM 43 g B 4 0 h 24 [(0, .ref (gA g 0)), (1, .int l1), (2, .int s0.1), (3, .int s0.2)] []) ?_ nf s0 hl
  intro s1 y hf hk hx
  have hx0 : ∀ v : Int32, y = Sum.inr v → V p l e 3 0 s m args below meth c Q KM 43 g B 4 0 h 63 [(0, .ref (gA g 0)), (1, .int l1), (2, .int v)] [] := fun v e9 => by rw [hx v e9]; exact hX0
  unfold fX11_tithe_24 at hf
  refine v_iload_n (pc := 24) (j := 3) F dX11_tithe_24 rfl rfl ?_
  refine v_aload_n (pc := 25) (j := 0) F dX11_tithe_25 rfl rfl ?_
  refine v_ifl (pc := 26) F fl_X11_36 dX11_tithe_26 km_0.1 km_0.2 fv_10_3 ?_
  refine v_iconst (pc := 29) (v := 0) F dX11_tithe_29 ic_0 ?_
  obtain ⟨v4, e5, hf⟩ := bnd_some hf
  refine v_iald (pc := 30) F dX11_tithe_30 km_3.1 km_3.2 e5 ?_
  refine v_icmp_ge (pc := 31) (tgt := 63) F dX11_tithe_31 (by decide) (fun c6 => ?_) (fun c6 => ?_)
  · have hf := ite_t hf c6
    refine V.sub (lv' := [(0, .ref (gA g 0)), (1, .int l1), (2, .int s1.1)]) [0, 1, 2] rfl ?_
    exact hx0 s1.1 (Option.some.inj hf).symm
  · have hf := ite_f hf c6
    refine v_iload_n (pc := 34) (j := 2) F dX11_tithe_34 rfl rfl ?_
    refine v_aload_n (pc := 35) (j := 0) F dX11_tithe_35 rfl rfl ?_
    refine v_ifl (pc := 36) F fl_X11_42 dX11_tithe_36 km_0.1 km_0.2 fv_10_5 ?_
    refine v_iload_n (pc := 39) (j := 3) F dX11_tithe_39 rfl rfl ?_
    obtain ⟨v7, e8, hf⟩ := bnd_some hf
    refine v_iald (pc := 40) F dX11_tithe_40 km_5.1 km_5.2 e8 ?_
    refine v_aload_n (pc := 41) (j := 0) F dX11_tithe_41 rfl rfl ?_
    refine v_ifl (pc := 42) F fl_X11_42 dX11_tithe_42 km_0.1 km_0.2 fv_10_5 ?_
    refine v_iload_n (pc := 45) (j := 1) F dX11_tithe_45 rfl rfl ?_
    obtain ⟨v9, e10, hf⟩ := bnd_some hf
    refine v_iald (pc := 46) F dX11_tithe_46 km_5.1 km_5.2 e10 ?_
    refine v_icmp_ne (pc := 47) (tgt := 54) F dX11_tithe_47 (by decide) (fun c11 => ?_) (fun c11 => ?_)
    · have hf := ite_f hf c11
      refine v_iconst (pc := 54) (v := 0) F dX11_tithe_54 ic_0 ?_
      refine V.sub (lv' := [(0, .ref (gA g 0)), (1, .int l1), (3, .int s1.2)]) [0, 1, 3] rfl ?_
      exact tX11_tithe_55 F hk hx0 hf
    · have hf := ite_t hf c11
      refine v_iconst (pc := 50) (v := 1) F dX11_tithe_50 ic_1 ?_
      refine v_goto (pc := 51) (tgt := 55) F dX11_tithe_51 (by decide) ?_
      refine V.sub (lv' := [(0, .ref (gA g 0)), (1, .int l1), (3, .int s1.2)]) [0, 1, 3] rfl ?_
      exact tX11_tithe_55 F hk hx0 hf
set_option maxRecDepth 100000 in
set_option maxHeartbeats 4000000 in
theorem kX11_tithe {l : Launch} {g : GE} {B : Nat} {h : ST} {a1 : Int32} {y : Int32 × ST} (hf : fX11_tithe h a1 = some y) : CT l yX11_tithe cX11_tithe 4 (some .int) 3 KM 43 g B [.ref (gA g 0), .int a1] h (some (.int y.1)) y.2 := by
  refine CT.of pn_X11 (Nat.le_of_ble_eq_true rfl) ?_
  intro p e s m below meth c hr F
  have F : Fx p s m _ meth c cX11_tithe 4 "DustParishModel" 43 g B := F
  refine V_lv (lv' := [(0, .ref (gA g 0)), (1, .int a1)]) rfl ?_
  unfold fX11_tithe at hf
  refine v_aload_n (pc := 0) (j := 0) F dX11_tithe_0 rfl rfl ?_
  refine v_ifl (pc := 1) F fl_X11_36 dX11_tithe_1 km_0.1 km_0.2 fv_10_3 ?_
  refine v_bipush (pc := 4) (v := 6) F dX11_tithe_4 bp_6 ?_
  obtain ⟨v1, e2, hf⟩ := bnd_some hf
  refine v_iald (pc := 6) F dX11_tithe_6 km_3.1 km_3.2 e2 ?_
  refine v_if_ne (pc := 7) (tgt := 20) F dX11_tithe_7 (by decide) (fun c3 => ?_) (fun c3 => ?_)
  · have hf := ite_f hf c3
    refine v_iconst (pc := 20) (v := 0) F dX11_tithe_20 ic_0 ?_
    refine v_istore_n (pc := 21) (lv' := [(0, .ref (gA g 0)), (1, .int a1), (2, .int 0)]) F dX11_tithe_21 rfl (by decide) rfl ?_
    refine v_iconst (pc := 22) (v := 0) F dX11_tithe_22 ic_0 ?_
    refine v_istore_n (pc := 23) (lv' := [(0, .ref (gA g 0)), (1, .int a1), (2, .int 0), (3, .int 0)]) F dX11_tithe_23 rfl (by decide) rfl ?_
    obtain ⟨x12, e13, hf⟩ := bnd_some hf
    refine tX11_tithe_24 (s0 := (0, 0)) F ?_ e13
    refine v_aload_n (pc := 63) (j := 0) F dX11_tithe_63 rfl rfl ?_
    refine v_ifl (pc := 64) F fl_X11_97 dX11_tithe_64 km_0.1 km_0.2 fv_10_38 ?_
    refine v_iconst (pc := 67) (v := 0) F dX11_tithe_67 ic_0 ?_
    refine v_aload_n (pc := 68) (j := 0) F dX11_tithe_68 rfl rfl ?_
    refine v_ifl (pc := 69) F fl_X11_87 dX11_tithe_69 km_0.1 km_0.2 fv_10_29 ?_
    refine v_iload_n (pc := 72) (j := 1) F dX11_tithe_72 rfl rfl ?_
    obtain ⟨v14, e15, hf⟩ := bnd_some hf
    refine v_iald (pc := 73) F dX11_tithe_73 km_19.1 km_19.2 e15 ?_
    obtain ⟨h16, e17, hf⟩ := bnd_some hf
    refine v_iast (pc := 74) F dX11_tithe_74 km_23.1 km_23.2 e17 ?_
    refine v_aload_n (pc := 75) (j := 0) F dX11_tithe_75 rfl rfl ?_
    refine v_ifl (pc := 76) F fl_X11_97 dX11_tithe_76 km_0.1 km_0.2 fv_10_38 ?_
    refine v_iconst (pc := 79) (v := 1) F dX11_tithe_79 ic_1 ?_
    refine v_aload_n (pc := 80) (j := 0) F dX11_tithe_80 rfl rfl ?_
    refine v_ifl (pc := 81) F fl_X11_40 dX11_tithe_81 km_0.1 km_0.2 fv_10_4 ?_
    refine v_iload_n (pc := 84) (j := 1) F dX11_tithe_84 rfl rfl ?_
    obtain ⟨v18, e19, hf⟩ := bnd_some hf
    refine v_iald (pc := 85) F dX11_tithe_85 km_4.1 km_4.2 e19 ?_
    obtain ⟨h20, e21, hf⟩ := bnd_some hf
    refine v_iast (pc := 86) F dX11_tithe_86 km_23.1 km_23.2 e21 ?_
    refine v_aload_n (pc := 87) (j := 0) F dX11_tithe_87 rfl rfl ?_
    refine v_ifl (pc := 88) F fl_X11_97 dX11_tithe_88 km_0.1 km_0.2 fv_10_38 ?_
    refine v_iconst (pc := 91) (v := 2) F dX11_tithe_91 ic_2 ?_
    refine v_aload_n (pc := 92) (j := 0) F dX11_tithe_92 rfl rfl ?_
    refine v_ifl (pc := 93) F fl_X11_42 dX11_tithe_93 km_0.1 km_0.2 fv_10_5 ?_
    refine v_iload_n (pc := 96) (j := 1) F dX11_tithe_96 rfl rfl ?_
    obtain ⟨v22, e23, hf⟩ := bnd_some hf
    refine v_iald (pc := 97) F dX11_tithe_97 km_5.1 km_5.2 e23 ?_
    obtain ⟨h24, e25, hf⟩ := bnd_some hf
    refine v_iast (pc := 98) F dX11_tithe_98 km_23.1 km_23.2 e25 ?_
    refine v_aload_n (pc := 99) (j := 0) F dX11_tithe_99 rfl rfl ?_
    refine v_ifl (pc := 100) F fl_X11_97 dX11_tithe_100 km_0.1 km_0.2 fv_10_38 ?_
    refine v_iconst (pc := 103) (v := 3) F dX11_tithe_103 ic_3 ?_
    refine v_aload_n (pc := 104) (j := 0) F dX11_tithe_104 rfl rfl ?_
    refine v_ifl (pc := 105) F fl_X11_333 dX11_tithe_105 km_0.1 km_0.2 fv_10_33 ?_
    obtain ⟨h26, e27, hf⟩ := bnd_some hf
    refine v_iast (pc := 108) F dX11_tithe_108 km_23.1 km_23.2 e27 ?_
    refine v_aload_n (pc := 109) (j := 0) F dX11_tithe_109 rfl rfl ?_
    refine v_ifl (pc := 110) F fl_X11_97 dX11_tithe_110 km_0.1 km_0.2 fv_10_38 ?_
    refine v_iconst (pc := 113) (v := 4) F dX11_tithe_113 ic_4 ?_
    refine v_iload_n (pc := 114) (j := 2) F dX11_tithe_114 rfl rfl ?_
    obtain ⟨h28, e29, hf⟩ := bnd_some hf
    refine v_iast (pc := 115) F dX11_tithe_115 km_23.1 km_23.2 e29 ?_
    refine v_aload_n (pc := 116) (j := 0) F dX11_tithe_116 rfl rfl ?_
    refine v_ifl (pc := 117) F fl_X11_97 dX11_tithe_117 km_0.1 km_0.2 fv_10_38 ?_
    refine v_iconst (pc := 120) (v := 5) F dX11_tithe_120 ic_5 ?_
    refine v_aload_n (pc := 121) (j := 0) F dX11_tithe_121 rfl rfl ?_
    refine v_ifl (pc := 122) F fl_X11_89 dX11_tithe_122 km_0.1 km_0.2 fv_10_30 ?_
    refine v_iload_n (pc := 125) (j := 1) F dX11_tithe_125 rfl rfl ?_
    obtain ⟨v30, e31, hf⟩ := bnd_some hf
    refine v_iald (pc := 126) F dX11_tithe_126 km_20.1 km_20.2 e31 ?_
    obtain ⟨h32, e33, hf⟩ := bnd_some hf
    refine v_iast (pc := 127) F dX11_tithe_127 km_23.1 km_23.2 e33 ?_
    refine v_iconst (pc := 128) (v := 0) F dX11_tithe_128 ic_0 ?_
    refine v_aload_n (pc := 129) (j := 0) F dX11_tithe_129 rfl rfl ?_
    refine v_ifl (pc := 130) F fl_X11_87 dX11_tithe_130 km_0.1 km_0.2 fv_10_29 ?_
    refine v_iload_n (pc := 133) (j := 1) F dX11_tithe_133 rfl rfl ?_
    obtain ⟨v34, e35, hf⟩ := bnd_some hf
    refine v_iald (pc := 134) F dX11_tithe_134 km_19.1 km_19.2 e35 ?_
    refine v_aload_n (pc := 135) (j := 0) F dX11_tithe_135 rfl rfl ?_
    obtain ⟨r36, e37, hf⟩ := bnd_some hf
    refine v_callVi (pc := 136) (As := []) F cl_X11_355 dX11_tithe_136 (kX11_valueNow e37) km_0.1 km_0.2 rc_10 rfl rfl (Nat.le_of_ble_eq_true rfl) (by decide) (Nat.zero_le _) ?_
    refine v_mmin (pc := 139) F tw_1490 mminW dX11_tithe_139 (by decide) (Nat.le_of_ble_eq_true rfl) (Nat.zero_le _) ?_
    refine v_mmax (pc := 142) F tw_1602 mmaxW dX11_tithe_142 (by decide) (Nat.le_of_ble_eq_true rfl) (Nat.zero_le _) ?_
    exact v_iret (pc := 145) F hr dX11_tithe_145 (some_fst hf) (some_snd hf) (Nat.zero_le _)
  · have hf := ite_t hf c3
    refine v_aload_n (pc := 10) (j := 0) F dX11_tithe_10 rfl rfl ?_
    refine v_ifl (pc := 11) F fl_X11_87 dX11_tithe_11 km_0.1 km_0.2 fv_10_29 ?_
    refine v_iload_n (pc := 14) (j := 1) F dX11_tithe_14 rfl rfl ?_
    obtain ⟨v38, e39, hf⟩ := bnd_some hf
    refine v_iald (pc := 15) F dX11_tithe_15 km_19.1 km_19.2 e39 ?_
    refine v_bipush (pc := 16) (v := 10) F dX11_tithe_16 bp_10 ?_
    refine v_idiv (pc := 18) F dX11_tithe_18 (by decide) ?_
    exact v_iret (pc := 19) F hr dX11_tithe_19 (some_fst hf) (some_snd hf) (Nat.zero_le _)
def fX11_church_2 (s1 : (ST × Int32)) : Option ((ST × Int32) ⊕ ST) :=
  bnd (rd 14 (s1.1 3) 0) fun v1 =>
  if v1 ≤ s1.2 then
  some (.inr s1.1)
  else
  bnd (fX11_tithe s1.1 s1.2) fun r4 =>
    bnd (wr 9 r4.2 25 s1.2 r4.1) fun h6 =>
    some (.inl (h6, s1.2 + 1))
def fX11_church_31 (s1 : (ST × Int32)) : Option ((ST × Int32) ⊕ ST) :=
  bnd (rd 14 (s1.1 3) 0) fun v10 =>
  if v10 ≤ s1.2 then
  some (.inr s1.1)
  else
  bnd (rd 9 (s1.1 19) s1.2) fun v13 =>
    bnd (rd 9 (s1.1 25) s1.2) fun v15 =>
    bnd (wr 9 s1.1 19 s1.2 (v13 - v15)) fun h17 =>
    bnd (rd 9 (h17 25) s1.2) fun v19 =>
    bnd (pw h17 0 34 ((h17 0 34) + v19)) fun h21 =>
    bnd (wr 9 h21 20 s1.2 0) fun h23 =>
    some (.inl (h23, s1.2 + 1))
def fX11_church (h : ST) : Option (ST) :=
  bnd (lp FU (fX11_church_2) (h, 0)) fun x8 =>
  bnd (lp FU (fX11_church_31) (x8, 0)) fun x25 =>
  some x25
set_option maxRecDepth 100000 in
set_option maxHeartbeats 4000000 in
theorem tX11_church_2 {p : Program} {l : Launch} {e : Env} {s : State} {m : MethodId} {args : Array Value} {below : List Frame} {meth : Method} {c : Code} {g : GE} {B : Nat}   {Q : State → Prop} {x : ST} {nf : Nat} {s0 : (ST × Int32)} (F : Fx p s m args meth c cX11_church 2 "DustParishModel" 43 g B) (hX0 : V p l e 4 0 s m args below meth c Q KM 43 g B 2 0 x 29 [(0, .ref (gA g 0))] []) (hl : lp nf (fX11_church_2) s0 = some x) : V p l e 4 0 s m args below meth c Q KM 43 g B 2 0 s0.1 2 [(0, .ref (gA g 0)), (1, .int s0.2)] [] := by
  refine lp_ind (P := fun s0 => V p l e 4 0 s m args below meth c Q KM 43 g B 2 0 s0.1 2 [(0, .ref (gA g 0)), (1, .int s0.2)] []) ?_ nf s0 hl
  intro s1 y hf hk hx
  have hx0 : ∀ v : ST, y = Sum.inr v → V p l e 4 0 s m args below meth c Q KM 43 g B 2 0 v 29 [(0, .ref (gA g 0))] [] := fun v e9 => by rw [hx v e9]; exact hX0
  unfold fX11_church_2 at hf
  refine v_iload_n (pc := 2) (j := 1) F dX11_church_2 rfl rfl ?_
  refine v_aload_n (pc := 3) (j := 0) F dX11_church_3 rfl rfl ?_
  refine v_ifl (pc := 4) F fl_X11_36 dX11_church_4 km_0.1 km_0.2 fv_10_3 ?_
  refine v_iconst (pc := 7) (v := 0) F dX11_church_7 ic_0 ?_
  obtain ⟨v1, e2, hf⟩ := bnd_some hf
  refine v_iald (pc := 8) F dX11_church_8 km_3.1 km_3.2 e2 ?_
  refine v_icmp_ge (pc := 9) (tgt := 29) F dX11_church_9 (by decide) (fun c3 => ?_) (fun c3 => ?_)
  · have hf := ite_t hf c3
    refine V.sub (lv' := [(0, .ref (gA g 0))]) [0] rfl ?_
    exact hx0 s1.1 (Option.some.inj hf).symm
  · have hf := ite_f hf c3
    refine v_aload_n (pc := 12) (j := 0) F dX11_church_12 rfl rfl ?_
    refine v_ifl (pc := 13) F fl_X11_103 dX11_church_13 km_0.1 km_0.2 fv_10_40 ?_
    refine v_iload_n (pc := 16) (j := 1) F dX11_church_16 rfl rfl ?_
    refine v_aload_n (pc := 17) (j := 0) F dX11_church_17 rfl rfl ?_
    refine v_iload_n (pc := 18) (j := 1) F dX11_church_18 rfl rfl ?_
    obtain ⟨r4, e5, hf⟩ := bnd_some hf
    refine v_callVi (pc := 19) (As := [.int s1.2]) F cl_X11_362 dX11_church_19 (kX11_tithe e5) km_0.1 km_0.2 rc_10 rfl rfl (Nat.le_of_ble_eq_true rfl) (by decide) (Nat.zero_le _) ?_
    obtain ⟨h6, e7, hf⟩ := bnd_some hf
    refine v_iast (pc := 22) F dX11_church_22 km_25.1 km_25.2 e7 ?_
    refine v_iinc (pc := 23) (j := 1) (v := s1.2 + 1) (lv' := [(0, .ref (gA g 0)), (1, .int (s1.2 + 1))]) F dX11_church_23 rfl (congrArg (fun z => s1.2 + z) ic_1) (by decide) rfl ?_
    refine v_goto (pc := 26) (tgt := 2) F dX11_church_26 (by decide) ?_
    exact hk (h6, s1.2 + 1) (Option.some.inj hf).symm
set_option maxRecDepth 100000 in
set_option maxHeartbeats 4000000 in
theorem tX11_church_31 {p : Program} {l : Launch} {e : Env} {s : State} {m : MethodId} {args : Array Value} {below : List Frame} {meth : Method} {c : Code} {g : GE} {B : Nat}   {Q : State → Prop} {x : ST} {nf : Nat} {s0 : (ST × Int32)} (F : Fx p s m args meth c cX11_church 2 "DustParishModel" 43 g B) (hX0 : V p l e 4 0 s m args below meth c Q KM 43 g B 2 0 x 84 [] []) (hl : lp nf (fX11_church_31) s0 = some x) : V p l e 4 0 s m args below meth c Q KM 43 g B 2 0 s0.1 31 [(0, .ref (gA g 0)), (1, .int s0.2)] [] := by
  refine lp_ind (P := fun s0 => V p l e 4 0 s m args below meth c Q KM 43 g B 2 0 s0.1 31 [(0, .ref (gA g 0)), (1, .int s0.2)] []) ?_ nf s0 hl
  intro s1 y hf hk hx
  have hx0 : ∀ v : ST, y = Sum.inr v → V p l e 4 0 s m args below meth c Q KM 43 g B 2 0 v 84 [] [] := fun v e9 => by rw [hx v e9]; exact hX0
  unfold fX11_church_31 at hf
  refine v_iload_n (pc := 31) (j := 1) F dX11_church_31 rfl rfl ?_
  refine v_aload_n (pc := 32) (j := 0) F dX11_church_32 rfl rfl ?_
  refine v_ifl (pc := 33) F fl_X11_36 dX11_church_33 km_0.1 km_0.2 fv_10_3 ?_
  refine v_iconst (pc := 36) (v := 0) F dX11_church_36 ic_0 ?_
  obtain ⟨v10, e11, hf⟩ := bnd_some hf
  refine v_iald (pc := 37) F dX11_church_37 km_3.1 km_3.2 e11 ?_
  refine v_icmp_ge (pc := 38) (tgt := 84) F dX11_church_38 (by decide) (fun c12 => ?_) (fun c12 => ?_)
  · have hf := ite_t hf c12
    refine V.sub (lv' := []) [] rfl ?_
    exact hx0 s1.1 (Option.some.inj hf).symm
  · have hf := ite_f hf c12
    refine v_aload_n (pc := 41) (j := 0) F dX11_church_41 rfl rfl ?_
    refine v_ifl (pc := 42) F fl_X11_87 dX11_church_42 km_0.1 km_0.2 fv_10_29 ?_
    refine v_iload_n (pc := 45) (j := 1) F dX11_church_45 rfl rfl ?_
    refine v_dup2_11 (pc := 46) F dX11_church_46 rfl rfl ?_
    obtain ⟨v13, e14, hf⟩ := bnd_some hf
    refine v_iald (pc := 47) F dX11_church_47 km_19.1 km_19.2 e14 ?_
    refine v_aload_n (pc := 48) (j := 0) F dX11_church_48 rfl rfl ?_
    refine v_ifl (pc := 49) F fl_X11_103 dX11_church_49 km_0.1 km_0.2 fv_10_40 ?_
    refine v_iload_n (pc := 52) (j := 1) F dX11_church_52 rfl rfl ?_
    obtain ⟨v15, e16, hf⟩ := bnd_some hf
    refine v_iald (pc := 53) F dX11_church_53 km_25.1 km_25.2 e16 ?_
    refine v_isub (pc := 54) F dX11_church_54 ?_
    obtain ⟨h17, e18, hf⟩ := bnd_some hf
    refine v_iast (pc := 55) F dX11_church_55 km_19.1 km_19.2 e18 ?_
    refine v_aload_n (pc := 56) (j := 0) F dX11_church_56 rfl rfl ?_
    refine v_dup (pc := 57) F dX11_church_57 rfl ?_
    refine v_ifl (pc := 58) F fl_X11_335 dX11_church_58 km_0.1 km_0.2 fv_10_34 ?_
    refine v_aload_n (pc := 61) (j := 0) F dX11_church_61 rfl rfl ?_
    refine v_ifl (pc := 62) F fl_X11_103 dX11_church_62 km_0.1 km_0.2 fv_10_40 ?_
    refine v_iload_n (pc := 65) (j := 1) F dX11_church_65 rfl rfl ?_
    obtain ⟨v19, e20, hf⟩ := bnd_some hf
    refine v_iald (pc := 66) F dX11_church_66 km_25.1 km_25.2 e20 ?_
    refine v_iadd (pc := 67) F dX11_church_67 ?_
    obtain ⟨h21, e22, hf⟩ := bnd_some hf
    refine v_pfl (pc := 68) F fl_X11_335 pl_10_34 dX11_church_68 km_0.1 km_0.2 fv_10_34 rfl rfl e22 ?_
    refine v_aload_n (pc := 71) (j := 0) F dX11_church_71 rfl rfl ?_
    refine v_ifl (pc := 72) F fl_X11_89 dX11_church_72 km_0.1 km_0.2 fv_10_30 ?_
    refine v_iload_n (pc := 75) (j := 1) F dX11_church_75 rfl rfl ?_
    refine v_iconst (pc := 76) (v := 0) F dX11_church_76 ic_0 ?_
    obtain ⟨h23, e24, hf⟩ := bnd_some hf
    refine v_iast (pc := 77) F dX11_church_77 km_20.1 km_20.2 e24 ?_
    refine v_iinc (pc := 78) (j := 1) (v := s1.2 + 1) (lv' := [(0, .ref (gA g 0)), (1, .int (s1.2 + 1))]) F dX11_church_78 rfl (congrArg (fun z => s1.2 + z) ic_1) (by decide) rfl ?_
    refine v_goto (pc := 81) (tgt := 31) F dX11_church_81 (by decide) ?_
    exact hk (h23, s1.2 + 1) (Option.some.inj hf).symm
set_option maxRecDepth 100000 in
set_option maxHeartbeats 4000000 in
theorem kX11_church {l : Launch} {g : GE} {B : Nat} {h : ST} {y : ST} (hf : fX11_church h = some y) : CT l yX11_church cX11_church 2 none 4 KM 43 g B [.ref (gA g 0)] h none y := by
  refine CT.of pn_X11 (Nat.le_of_ble_eq_true rfl) ?_
  intro p e s m below meth c hr F
  have F : Fx p s m _ meth c cX11_church 2 "DustParishModel" 43 g B := F
  refine V_lv (lv' := [(0, .ref (gA g 0))]) rfl ?_
  unfold fX11_church at hf
  refine v_iconst (pc := 0) (v := 0) F dX11_church_0 ic_0 ?_
  refine v_istore_n (pc := 1) (lv' := [(0, .ref (gA g 0)), (1, .int 0)]) F dX11_church_1 rfl (by decide) rfl ?_
  obtain ⟨x8, e9, hf⟩ := bnd_some hf
  refine tX11_church_2 (s0 := (h, 0)) F ?_ e9
  refine v_iconst (pc := 29) (v := 0) F dX11_church_29 ic_0 ?_
  refine v_istore_n (pc := 30) (lv' := [(0, .ref (gA g 0)), (1, .int 0)]) F dX11_church_30 rfl (by decide) rfl ?_
  obtain ⟨x25, e26, hf⟩ := bnd_some hf
  refine tX11_church_31 (s0 := (x8, 0)) F ?_ e26
  exact v_vret (pc := 84) F hr dX11_church_84 (Option.some.inj hf) (Nat.zero_le _)
def fX11_passes_24 (h : ST)  : Option (ST) :=
  bnd (pw h 0 33 ((h 0 33) + 1)) fun h7 =>
  some h7
def fX11_passes (h : ST) (a1 : Int32) (a2 : Int32) : Option (ST) :=
  bnd (fX11_settle h) fun r1 =>
  bnd (fX11_blows r1 a1) fun r3 =>
  grd (¬ a2 = 0) (
  if (((r3 0 33) + 1) - ((r3 0 33) + 1) / a2 * a2) = 0 then
  bnd (fX11_church r3) fun r9 =>
    fX11_passes_24 r9 
  else
  fX11_passes_24 r3 )
set_option maxRecDepth 100000 in
set_option maxHeartbeats 4000000 in
theorem tX11_passes_24 {p : Program} {l : Launch} {e : Env} {s : State} {m : MethodId} {args : Array Value} {below : List Frame} {meth : Method} {c : Code} {g : GE} {B : Nat} {h : ST}  (F : Fx p s m args meth c cX11_passes 3 "DustParishModel" 43 g B)
    {y : ST} (hr : meth.sig.returnType = none) (hf : fX11_passes_24 h  = some y) : V p l e 5 0 s m args below meth c (MQ below (QO KM 43 g none y) args s 0 (6 * 0) (WA 43 g)) KM 43 g B 3 0 h 24 [(0, .ref (gA g 0))] [] := by
  unfold fX11_passes_24 at hf
  refine v_aload_n (pc := 24) (j := 0) F dX11_passes_24 rfl rfl ?_
  refine v_dup (pc := 25) F dX11_passes_25 rfl ?_
  refine v_ifl (pc := 26) F fl_X11_333 dX11_passes_26 km_0.1 km_0.2 fv_10_33 ?_
  refine v_iconst (pc := 29) (v := 1) F dX11_passes_29 ic_1 ?_
  refine v_iadd (pc := 30) F dX11_passes_30 ?_
  obtain ⟨h7, e8, hf⟩ := bnd_some hf
  refine v_pfl (pc := 31) F fl_X11_333 pl_10_33 dX11_passes_31 km_0.1 km_0.2 fv_10_33 rfl rfl e8 ?_
  exact v_vret (pc := 34) F hr dX11_passes_34 (Option.some.inj hf) (Nat.zero_le _)
set_option maxRecDepth 100000 in
set_option maxHeartbeats 4000000 in
theorem kX11_passes {l : Launch} {g : GE} {B : Nat} {h : ST} {a1 : Int32} {a2 : Int32} {y : ST} (hf : fX11_passes h a1 a2 = some y) : CT l yX11_passes cX11_passes 3 none 5 KM 43 g B [.ref (gA g 0), .int a1, .int a2] h none y := by
  refine CT.of pn_X11 (Nat.le_of_ble_eq_true rfl) ?_
  intro p e s m below meth c hr F
  have F : Fx p s m _ meth c cX11_passes 3 "DustParishModel" 43 g B := F
  refine V_lv (lv' := [(0, .ref (gA g 0)), (1, .int a1), (2, .int a2)]) rfl ?_
  unfold fX11_passes at hf
  refine v_aload_n (pc := 0) (j := 0) F dX11_passes_0 rfl rfl ?_
  obtain ⟨r1, e2, hf⟩ := bnd_some hf
  refine v_callVv (pc := 1) (As := []) F cl_X11_364 dX11_passes_1 (kX11_settle e2) km_0.1 km_0.2 rc_10 rfl rfl (Nat.le_of_ble_eq_true rfl) (by decide) (Nat.zero_le _) ?_
  refine v_aload_n (pc := 4) (j := 0) F dX11_passes_4 rfl rfl ?_
  refine v_iload_n (pc := 5) (j := 1) F dX11_passes_5 rfl rfl ?_
  obtain ⟨r3, e4, hf⟩ := bnd_some hf
  refine v_callVv (pc := 6) (As := [.int a1]) F cl_X11_367 dX11_passes_6 (kX11_blows e4) km_0.1 km_0.2 rc_10 rfl rfl (Nat.le_of_ble_eq_true rfl) (by decide) (Nat.zero_le _) ?_
  refine v_aload_n (pc := 9) (j := 0) F dX11_passes_9 rfl rfl ?_
  refine v_ifl (pc := 10) F fl_X11_333 dX11_passes_10 km_0.1 km_0.2 fv_10_33 ?_
  refine v_iconst (pc := 13) (v := 1) F dX11_passes_13 ic_1 ?_
  refine v_iadd (pc := 14) F dX11_passes_14 ?_
  refine v_iload_n (pc := 15) (j := 2) F dX11_passes_15 rfl rfl ?_
  obtain ⟨g5, hf⟩ := grd_some hf
  refine v_irem (pc := 16) F dX11_passes_16 g5 ?_
  refine v_if_ne (pc := 17) (tgt := 24) F dX11_passes_17 (by decide) (fun c6 => ?_) (fun c6 => ?_)
  · have hf := ite_f hf c6
    refine V.sub (lv' := [(0, .ref (gA g 0))]) [0] rfl ?_
    exact tX11_passes_24 F hr hf
  · have hf := ite_t hf c6
    refine v_aload_n (pc := 20) (j := 0) F dX11_passes_20 rfl rfl ?_
    obtain ⟨r9, e10, hf⟩ := bnd_some hf
    refine v_callVv (pc := 21) (As := []) F cl_X11_369 dX11_passes_21 (kX11_church e10) km_0.1 km_0.2 rc_10 rfl rfl (Nat.le_of_ble_eq_true rfl) (by decide) (Nat.zero_le _) ?_
    refine V.sub (lv' := [(0, .ref (gA g 0))]) [0] rfl ?_
    exact tX11_passes_24 F hr hf
def fX11_aDay (h : ST) : Option (ST) :=
  bnd (fX11_windOf h (h 0 33)) fun r1 =>
  bnd (rd 14 (h 3) 4) fun v3 =>
  bnd (fX11_passes h r1 v3) fun r5 =>
  some r5
set_option maxRecDepth 100000 in
set_option maxHeartbeats 4000000 in
theorem kX11_aDay {l : Launch} {g : GE} {B : Nat} {h : ST} {y : ST} (hf : fX11_aDay h = some y) : CT l yX11_aDay cX11_aDay 1 none 6 KM 43 g B [.ref (gA g 0)] h none y := by
  refine CT.of pn_X11 (Nat.le_of_ble_eq_true rfl) ?_
  intro p e s m below meth c hr F
  have F : Fx p s m _ meth c cX11_aDay 1 "DustParishModel" 43 g B := F
  refine V_lv (lv' := [(0, .ref (gA g 0))]) rfl ?_
  unfold fX11_aDay at hf
  refine v_aload_n (pc := 0) (j := 0) F dX11_aDay_0 rfl rfl ?_
  refine v_aload_n (pc := 1) (j := 0) F dX11_aDay_1 rfl rfl ?_
  refine v_aload_n (pc := 2) (j := 0) F dX11_aDay_2 rfl rfl ?_
  refine v_ifl (pc := 3) F fl_X11_333 dX11_aDay_3 km_0.1 km_0.2 fv_10_33 ?_
  obtain ⟨r1, e2, hf⟩ := bnd_some hf
  refine v_callVi (pc := 6) (As := [.int (h 0 33)]) F cl_X11_372 dX11_aDay_6 (kX11_windOf e2) km_0.1 km_0.2 rc_10 rfl rfl (Nat.le_of_ble_eq_true rfl) (by decide) (Nat.zero_le _) ?_
  refine v_aload_n (pc := 9) (j := 0) F dX11_aDay_9 rfl rfl ?_
  refine v_ifl (pc := 10) F fl_X11_36 dX11_aDay_10 km_0.1 km_0.2 fv_10_3 ?_
  refine v_iconst (pc := 13) (v := 4) F dX11_aDay_13 ic_4 ?_
  obtain ⟨v3, e4, hf⟩ := bnd_some hf
  refine v_iald (pc := 14) F dX11_aDay_14 km_3.1 km_3.2 e4 ?_
  obtain ⟨r5, e6, hf⟩ := bnd_some hf
  refine v_callVv (pc := 15) (As := [.int r1, .int v3]) F cl_X11_375 dX11_aDay_15 (kX11_passes e6) km_0.1 km_0.2 rc_10 rfl rfl (Nat.le_of_ble_eq_true rfl) (by decide) (Nat.zero_le _) ?_
  exact v_vret (pc := 18) F hr dX11_aDay_18 (Option.some.inj hf) (Nat.zero_le _)
def fX11_allDust_4 (h : ST) (s1 : (Int32 × Int32)) : Option ((Int32 × Int32) ⊕ Int32) :=
  bnd (rd 14 (h 3) 0) fun v1 =>
  if v1 ≤ s1.2 then
  some (.inr s1.1)
  else
  bnd (rd 9 (h 19) s1.2) fun v4 =>
    some (.inl (s1.1 + v4, s1.2 + 1))
def fX11_allDust (h : ST) : Option (Int32) :=
  bnd (lp FU (fX11_allDust_4 h) (0, 0)) fun x6 =>
  some x6
set_option maxRecDepth 100000 in
set_option maxHeartbeats 4000000 in
theorem tX11_allDust_4 {p : Program} {l : Launch} {e : Env} {s : State} {m : MethodId} {args : Array Value} {below : List Frame} {meth : Method} {c : Code} {g : GE} {B : Nat}  {h : ST}  {Q : State → Prop} {x : Int32} {nf : Nat} {s0 : (Int32 × Int32)} (F : Fx p s m args meth c cX11_allDust 3 "DustParishModel" 43 g B) (hX0 : V p l e 1 0 s m args below meth c Q KM 43 g B 3 0 h 29 [(1, .int x)] []) (hl : lp nf (fX11_allDust_4 h) s0 = some x) : V p l e 1 0 s m args below meth c Q KM 43 g B 3 0 h 4 [(0, .ref (gA g 0)), (1, .int s0.1), (2, .int s0.2)] [] := by
  refine lp_ind (P := fun s0 => V p l e 1 0 s m args below meth c Q KM 43 g B 3 0 h 4 [(0, .ref (gA g 0)), (1, .int s0.1), (2, .int s0.2)] []) ?_ nf s0 hl
  intro s1 y hf hk hx
  have hx0 : ∀ v : Int32, y = Sum.inr v → V p l e 1 0 s m args below meth c Q KM 43 g B 3 0 h 29 [(1, .int v)] [] := fun v e9 => by rw [hx v e9]; exact hX0
  unfold fX11_allDust_4 at hf
  refine v_iload_n (pc := 4) (j := 2) F dX11_allDust_4 rfl rfl ?_
  refine v_aload_n (pc := 5) (j := 0) F dX11_allDust_5 rfl rfl ?_
  refine v_ifl (pc := 6) F fl_X11_36 dX11_allDust_6 km_0.1 km_0.2 fv_10_3 ?_
  refine v_iconst (pc := 9) (v := 0) F dX11_allDust_9 ic_0 ?_
  obtain ⟨v1, e2, hf⟩ := bnd_some hf
  refine v_iald (pc := 10) F dX11_allDust_10 km_3.1 km_3.2 e2 ?_
  refine v_icmp_ge (pc := 11) (tgt := 29) F dX11_allDust_11 (by decide) (fun c3 => ?_) (fun c3 => ?_)
  · have hf := ite_t hf c3
    refine V.sub (lv' := [(1, .int s1.1)]) [1] rfl ?_
    exact hx0 s1.1 (Option.some.inj hf).symm
  · have hf := ite_f hf c3
    refine v_iload_n (pc := 14) (j := 1) F dX11_allDust_14 rfl rfl ?_
    refine v_aload_n (pc := 15) (j := 0) F dX11_allDust_15 rfl rfl ?_
    refine v_ifl (pc := 16) F fl_X11_87 dX11_allDust_16 km_0.1 km_0.2 fv_10_29 ?_
    refine v_iload_n (pc := 19) (j := 2) F dX11_allDust_19 rfl rfl ?_
    obtain ⟨v4, e5, hf⟩ := bnd_some hf
    refine v_iald (pc := 20) F dX11_allDust_20 km_19.1 km_19.2 e5 ?_
    refine v_iadd (pc := 21) F dX11_allDust_21 ?_
    refine v_istore_n (pc := 22) (lv' := [(0, .ref (gA g 0)), (1, .int (s1.1 + v4)), (2, .int s1.2)]) F dX11_allDust_22 rfl (by decide) rfl ?_
    refine v_iinc (pc := 23) (j := 2) (v := s1.2 + 1) (lv' := [(0, .ref (gA g 0)), (1, .int (s1.1 + v4)), (2, .int (s1.2 + 1))]) F dX11_allDust_23 rfl (congrArg (fun z => s1.2 + z) ic_1) (by decide) rfl ?_
    refine v_goto (pc := 26) (tgt := 4) F dX11_allDust_26 (by decide) ?_
    exact hk (s1.1 + v4, s1.2 + 1) (Option.some.inj hf).symm
set_option maxRecDepth 100000 in
set_option maxHeartbeats 4000000 in
theorem kX11_allDust {l : Launch} {g : GE} {B : Nat} {h : ST} {y : Int32} (hf : fX11_allDust h = some y) : CT l yX11_allDust cX11_allDust 3 (some .int) 1 KM 43 g B [.ref (gA g 0)] h (some (.int y)) h := by
  refine CT.of pn_X11 (Nat.le_of_ble_eq_true rfl) ?_
  intro p e s m below meth c hr F
  have F : Fx p s m _ meth c cX11_allDust 3 "DustParishModel" 43 g B := F
  refine V_lv (lv' := [(0, .ref (gA g 0))]) rfl ?_
  unfold fX11_allDust at hf
  refine v_iconst (pc := 0) (v := 0) F dX11_allDust_0 ic_0 ?_
  refine v_istore_n (pc := 1) (lv' := [(0, .ref (gA g 0)), (1, .int 0)]) F dX11_allDust_1 rfl (by decide) rfl ?_
  refine v_iconst (pc := 2) (v := 0) F dX11_allDust_2 ic_0 ?_
  refine v_istore_n (pc := 3) (lv' := [(0, .ref (gA g 0)), (1, .int 0), (2, .int 0)]) F dX11_allDust_3 rfl (by decide) rfl ?_
  obtain ⟨x6, e7, hf⟩ := bnd_some hf
  refine tX11_allDust_4 (s0 := (0, 0)) F ?_ e7
  refine v_iload_n (pc := 29) (j := 0) F dX11_allDust_29 rfl rfl ?_
  exact v_iret (pc := 30) F hr dX11_allDust_30 (Option.some.inj hf) rfl (Nat.zero_le _)
def fX11_alms_51 (h : ST) (l2 : Int32) (q0 : Int32) (q1 : Int32) : Option ((Int32 × Int32) ⊕ Int32) :=
  some (.inl (q0 + q1, l2 + 1))
def fX11_alms_9 (h : ST) (s1 : (Int32 × Int32)) : Option ((Int32 × Int32) ⊕ Int32) :=
  bnd (rd 14 (h 3) 0) fun v3 =>
  if v3 ≤ s1.2 then
  some (.inr s1.1)
  else
  bnd (rd 18 (h 4) s1.2) fun v6 =>
    if v6 = 2 then
    fX11_alms_51 h s1.2 s1.1 0
    else
    bnd (rd 14 (h 3) 5) fun v9 =>
      bnd (rd 9 (h 19) s1.2) fun v11 =>
      fX11_alms_51 h s1.2 s1.1 (if (0 : Int32) < (v9 - v11) then (v9 - v11) else 0)
def fX11_alms (h : ST) : Option (Int32 × ST) :=
  bnd (pw h 0 2 0) fun h1 =>
  bnd (lp FU (fX11_alms_9 h1) (0, 0)) fun x13 =>
  some (x13, h1)
set_option maxRecDepth 100000 in
set_option maxHeartbeats 4000000 in
theorem tX11_alms_51 {p : Program} {l : Launch} {e : Env} {s : State} {m : MethodId} {args : Array Value} {below : List Frame} {meth : Method} {c : Code} {g : GE} {B : Nat} {h : ST}  {l2 : Int32} {q0 : Int32} {q1 : Int32} (F : Fx p s m args meth c cX11_alms 3 "DustParishModel" 43 g B)
    {Q : State → Prop} {y : (Int32 × Int32) ⊕ Int32} (hk : ∀ v : (Int32 × Int32), y = Sum.inl v → V p l e 1 0 s m args below meth c Q KM 43 g B 3 0 h 9 [(0, .ref (gA g 0)), (1, .int v.1), (2, .int v.2)] []) (hx0 : ∀ v : Int32, y = Sum.inr v → V p l e 1 0 s m args below meth c Q KM 43 g B 3 0 h 59 [(1, .int v)] []) (hf : fX11_alms_51 h l2 q0 q1 = some y) : V p l e 1 0 s m args below meth c Q KM 43 g B 3 0 h 51 [(0, .ref (gA g 0)), (2, .int l2)] [.int q1, .int q0] := by
  unfold fX11_alms_51 at hf
  refine v_iadd (pc := 51) F dX11_alms_51 ?_
  refine v_istore_n (pc := 52) (lv' := [(0, .ref (gA g 0)), (1, .int (q0 + q1)), (2, .int l2)]) F dX11_alms_52 rfl (by decide) rfl ?_
  refine v_iinc (pc := 53) (j := 2) (v := l2 + 1) (lv' := [(0, .ref (gA g 0)), (1, .int (q0 + q1)), (2, .int (l2 + 1))]) F dX11_alms_53 rfl (congrArg (fun z => l2 + z) ic_1) (by decide) rfl ?_
  refine v_goto (pc := 56) (tgt := 9) F dX11_alms_56 (by decide) ?_
  exact hk (q0 + q1, l2 + 1) (Option.some.inj hf).symm
set_option maxRecDepth 100000 in
set_option maxHeartbeats 4000000 in
theorem tX11_alms_9 {p : Program} {l : Launch} {e : Env} {s : State} {m : MethodId} {args : Array Value} {below : List Frame} {meth : Method} {c : Code} {g : GE} {B : Nat}  {h : ST}  {Q : State → Prop} {x : Int32} {nf : Nat} {s0 : (Int32 × Int32)} (F : Fx p s m args meth c cX11_alms 3 "DustParishModel" 43 g B) (hX0 : V p l e 1 0 s m args below meth c Q KM 43 g B 3 0 h 59 [(1, .int x)] []) (hl : lp nf (fX11_alms_9 h) s0 = some x) : V p l e 1 0 s m args below meth c Q KM 43 g B 3 0 h 9 [(0, .ref (gA g 0)), (1, .int s0.1), (2, .int s0.2)] [] := by
  refine lp_ind (P := fun s0 => V p l e 1 0 s m args below meth c Q KM 43 g B 3 0 h 9 [(0, .ref (gA g 0)), (1, .int s0.1), (2, .int s0.2)] []) ?_ nf s0 hl
  intro s1 y hf hk hx
  have hx0 : ∀ v : Int32, y = Sum.inr v → V p l e 1 0 s m args below meth c Q KM 43 g B 3 0 h 59 [(1, .int v)] [] := fun v e9 => by rw [hx v e9]; exact hX0
  unfold fX11_alms_9 at hf
  refine v_iload_n (pc := 9) (j := 2) F dX11_alms_9 rfl rfl ?_
  refine v_aload_n (pc := 10) (j := 0) F dX11_alms_10 rfl rfl ?_
  refine v_ifl (pc := 11) F fl_X11_36 dX11_alms_11 km_0.1 km_0.2 fv_10_3 ?_
  refine v_iconst (pc := 14) (v := 0) F dX11_alms_14 ic_0 ?_
  obtain ⟨v3, e4, hf⟩ := bnd_some hf
  refine v_iald (pc := 15) F dX11_alms_15 km_3.1 km_3.2 e4 ?_
  refine v_icmp_ge (pc := 16) (tgt := 59) F dX11_alms_16 (by decide) (fun c5 => ?_) (fun c5 => ?_)
  · have hf := ite_t hf c5
    refine V.sub (lv' := [(1, .int s1.1)]) [1] rfl ?_
    exact hx0 s1.1 (Option.some.inj hf).symm
  · have hf := ite_f hf c5
    refine v_iload_n (pc := 19) (j := 1) F dX11_alms_19 rfl rfl ?_
    refine v_aload_n (pc := 20) (j := 0) F dX11_alms_20 rfl rfl ?_
    refine v_ifl (pc := 21) F fl_X11_40 dX11_alms_21 km_0.1 km_0.2 fv_10_4 ?_
    refine v_iload_n (pc := 24) (j := 2) F dX11_alms_24 rfl rfl ?_
    obtain ⟨v6, e7, hf⟩ := bnd_some hf
    refine v_iald (pc := 25) F dX11_alms_25 km_4.1 km_4.2 e7 ?_
    refine v_iconst (pc := 26) (v := 2) F dX11_alms_26 ic_2 ?_
    refine v_icmp_ne (pc := 27) (tgt := 34) F dX11_alms_27 (by decide) (fun c8 => ?_) (fun c8 => ?_)
    · have hf := ite_f hf c8
      refine v_iconst (pc := 34) (v := 0) F dX11_alms_34 ic_0 ?_
      refine v_aload_n (pc := 35) (j := 0) F dX11_alms_35 rfl rfl ?_
      refine v_ifl (pc := 36) F fl_X11_36 dX11_alms_36 km_0.1 km_0.2 fv_10_3 ?_
      refine v_iconst (pc := 39) (v := 5) F dX11_alms_39 ic_5 ?_
      obtain ⟨v9, e10, hf⟩ := bnd_some hf
      refine v_iald (pc := 40) F dX11_alms_40 km_3.1 km_3.2 e10 ?_
      refine v_aload_n (pc := 41) (j := 0) F dX11_alms_41 rfl rfl ?_
      refine v_ifl (pc := 42) F fl_X11_87 dX11_alms_42 km_0.1 km_0.2 fv_10_29 ?_
      refine v_iload_n (pc := 45) (j := 2) F dX11_alms_45 rfl rfl ?_
      obtain ⟨v11, e12, hf⟩ := bnd_some hf
      refine v_iald (pc := 46) F dX11_alms_46 km_19.1 km_19.2 e12 ?_
      refine v_isub (pc := 47) F dX11_alms_47 ?_
      refine v_mmax (pc := 48) F tw_1602 mmaxW dX11_alms_48 (by decide) (Nat.le_of_ble_eq_true rfl) (Nat.zero_le _) ?_
      refine V.sub (lv' := [(0, .ref (gA g 0)), (2, .int s1.2)]) [0, 2] rfl ?_
      exact tX11_alms_51 F hk hx0 hf
    · have hf := ite_t hf c8
      refine v_iconst (pc := 30) (v := 0) F dX11_alms_30 ic_0 ?_
      refine v_goto (pc := 31) (tgt := 51) F dX11_alms_31 (by decide) ?_
      refine V.sub (lv' := [(0, .ref (gA g 0)), (2, .int s1.2)]) [0, 2] rfl ?_
      exact tX11_alms_51 F hk hx0 hf
set_option maxRecDepth 100000 in
set_option maxHeartbeats 4000000 in
theorem kX11_alms {l : Launch} {g : GE} {B : Nat} {h : ST} {y : Int32 × ST} (hf : fX11_alms h = some y) : CT l yX11_alms cX11_alms 3 (some .int) 1 KM 43 g B [.ref (gA g 0)] h (some (.int y.1)) y.2 := by
  refine CT.of pn_X11 (Nat.le_of_ble_eq_true rfl) ?_
  intro p e s m below meth c hr F
  have F : Fx p s m _ meth c cX11_alms 3 "DustParishModel" 43 g B := F
  refine V_lv (lv' := [(0, .ref (gA g 0))]) rfl ?_
  unfold fX11_alms at hf
  refine v_aload_n (pc := 0) (j := 0) F dX11_alms_0 rfl rfl ?_
  refine v_iconst (pc := 1) (v := 0) F dX11_alms_1 ic_0 ?_
  obtain ⟨h1, e2, hf⟩ := bnd_some hf
  refine v_pfl (pc := 2) F fl_X11_157 pl_10_2 dX11_alms_2 km_0.1 km_0.2 fv_10_2 rfl rfl e2 ?_
  refine v_iconst (pc := 5) (v := 0) F dX11_alms_5 ic_0 ?_
  refine v_istore_n (pc := 6) (lv' := [(0, .ref (gA g 0)), (1, .int 0)]) F dX11_alms_6 rfl (by decide) rfl ?_
  refine v_iconst (pc := 7) (v := 0) F dX11_alms_7 ic_0 ?_
  refine v_istore_n (pc := 8) (lv' := [(0, .ref (gA g 0)), (1, .int 0), (2, .int 0)]) F dX11_alms_8 rfl (by decide) rfl ?_
  obtain ⟨x13, e14, hf⟩ := bnd_some hf
  refine tX11_alms_9 (s0 := (0, 0)) F ?_ e14
  refine v_iload_n (pc := 59) (j := 0) F dX11_alms_59 rfl rfl ?_
  exact v_iret (pc := 60) F hr dX11_alms_60 (some_fst hf) (some_snd hf) (Nat.zero_le _)
def fX11_wrong (h : ST) (a1 : Int32) : Option (ST) :=
  if (h 0 26) = 0 then
  bnd (pw h 0 26 a1) fun h2 =>
    bnd (pw h2 0 27 (h2 0 24)) fun h4 =>
    some h4
  else
  some h
set_option maxRecDepth 100000 in
set_option maxHeartbeats 4000000 in
theorem kX11_wrong {l : Launch} {g : GE} {B : Nat} {h : ST} {a1 : Int32} {y : ST} (hf : fX11_wrong h a1 = some y) : CT l yX11_wrong cX11_wrong 2 none 1 KM 43 g B [.ref (gA g 0), .int a1] h none y := by
  refine CT.of pn_X11 (Nat.le_of_ble_eq_true rfl) ?_
  intro p e s m below meth c hr F
  have F : Fx p s m _ meth c cX11_wrong 2 "DustParishModel" 43 g B := F
  refine V_lv (lv' := [(0, .ref (gA g 0)), (1, .int a1)]) rfl ?_
  unfold fX11_wrong at hf
  refine v_aload_n (pc := 0) (j := 0) F dX11_wrong_0 rfl rfl ?_
  refine v_ifl (pc := 1) F fl_X11_208 dX11_wrong_1 km_0.1 km_0.2 fv_10_26 ?_
  refine v_if_eq (pc := 4) (tgt := 8) F dX11_wrong_4 (by decide) (fun c1 => ?_) (fun c1 => ?_)
  · have hf := ite_t hf c1
    refine v_aload_n (pc := 8) (j := 0) F dX11_wrong_8 rfl rfl ?_
    refine v_iload_n (pc := 9) (j := 1) F dX11_wrong_9 rfl rfl ?_
    obtain ⟨h2, e3, hf⟩ := bnd_some hf
    refine v_pfl (pc := 10) F fl_X11_208 pl_10_26 dX11_wrong_10 km_0.1 km_0.2 fv_10_26 rfl rfl e3 ?_
    refine v_aload_n (pc := 13) (j := 0) F dX11_wrong_13 rfl rfl ?_
    refine v_aload_n (pc := 14) (j := 0) F dX11_wrong_14 rfl rfl ?_
    refine v_ifl (pc := 15) F fl_X11_179 dX11_wrong_15 km_0.1 km_0.2 fv_10_24 ?_
    obtain ⟨h4, e5, hf⟩ := bnd_some hf
    refine v_pfl (pc := 18) F fl_X11_211 pl_10_27 dX11_wrong_18 km_0.1 km_0.2 fv_10_27 rfl rfl e5 ?_
    exact v_vret (pc := 21) F hr dX11_wrong_21 (Option.some.inj hf) (Nat.zero_le _)
  · have hf := ite_f hf c1
    exact v_vret (pc := 7) F hr dX11_wrong_7 (Option.some.inj hf) (Nat.zero_le _)
def fX11_byteAt_18 (h : ST) (q0 : Int32) : Option (Int32) :=
  some q0
def fX11_byteAt (h : ST) (a1 : Int32) : Option (Int32) :=
  if (h 0 21) ≤ a1 then
  fX11_byteAt_18 h (-1)
  else
  bnd (rd 700 (h 18) a1) fun v2 =>
    fX11_byteAt_18 h v2
set_option maxRecDepth 100000 in
set_option maxHeartbeats 4000000 in
theorem tX11_byteAt_18 {p : Program} {l : Launch} {e : Env} {s : State} {m : MethodId} {args : Array Value} {below : List Frame} {meth : Method} {c : Code} {g : GE} {B : Nat} {h : ST}  {q0 : Int32} (F : Fx p s m args meth c cX11_byteAt 2 "DustParishModel" 43 g B)
    {y : Int32} (hr : meth.sig.returnType = (some .int)) (hf : fX11_byteAt_18 h q0 = some y) : V p l e 1 0 s m args below meth c (MQ below (QO KM 43 g (some (.int y)) h) args s 0 (6 * 0) (WA 43 g)) KM 43 g B 2 0 h 18 [] [.int q0] := by
  unfold fX11_byteAt_18 at hf
  exact v_iret (pc := 18) F hr dX11_byteAt_18 (Option.some.inj hf) rfl (Nat.zero_le _)
set_option maxRecDepth 100000 in
set_option maxHeartbeats 4000000 in
theorem kX11_byteAt {l : Launch} {g : GE} {B : Nat} {h : ST} {a1 : Int32} {y : Int32} (hf : fX11_byteAt h a1 = some y) : CT l yX11_byteAt cX11_byteAt 2 (some .int) 1 KM 43 g B [.ref (gA g 0), .int a1] h (some (.int y)) h := by
  refine CT.of pn_X11 (Nat.le_of_ble_eq_true rfl) ?_
  intro p e s m below meth c hr F
  have F : Fx p s m _ meth c cX11_byteAt 2 "DustParishModel" 43 g B := F
  refine V_lv (lv' := [(0, .ref (gA g 0)), (1, .int a1)]) rfl ?_
  unfold fX11_byteAt at hf
  refine v_iload_n (pc := 0) (j := 1) F dX11_byteAt_0 rfl rfl ?_
  refine v_aload_n (pc := 1) (j := 0) F dX11_byteAt_1 rfl rfl ?_
  refine v_ifl (pc := 2) F fl_X11_169 dX11_byteAt_2 km_0.1 km_0.2 fv_10_21 ?_
  refine v_icmp_ge (pc := 5) (tgt := 17) F dX11_byteAt_5 (by decide) (fun c1 => ?_) (fun c1 => ?_)
  · have hf := ite_t hf c1
    refine v_iconst (pc := 17) (v := (-1)) F dX11_byteAt_17 ic_m1 ?_
    refine V.sub (lv' := []) [] rfl ?_
    exact tX11_byteAt_18 F hr hf
  · have hf := ite_f hf c1
    refine v_aload_n (pc := 8) (j := 0) F dX11_byteAt_8 rfl rfl ?_
    refine v_ifl (pc := 9) F fl_X11_80 dX11_byteAt_9 km_0.1 km_0.2 fv_10_18 ?_
    refine v_iload_n (pc := 12) (j := 1) F dX11_byteAt_12 rfl rfl ?_
    obtain ⟨v2, e3, hf⟩ := bnd_some hf
    refine v_iald (pc := 13) F dX11_byteAt_13 km_18.1 km_18.2 e3 ?_
    refine v_goto (pc := 14) (tgt := 18) F dX11_byteAt_14 (by decide) ?_
    refine V.sub (lv' := []) [] rfl ?_
    exact tX11_byteAt_18 F hr hf
def fX11_isLetter_17 (h : ST) (q0 : Int32) : Option (Int32) :=
  bnd (zb q0) fun z2 =>
  some z2
def fX11_isLetter_16 (h : ST)  : Option (Int32) :=
  fX11_isLetter_17 h 0
def fX11_isLetter (h : ST) (a1 : Int32) : Option (Int32) :=
  if a1 < 97 then
  fX11_isLetter_16 h 
  else
  if 122 < a1 then
    fX11_isLetter_16 h 
    else
    fX11_isLetter_17 h 1
set_option maxRecDepth 100000 in
set_option maxHeartbeats 4000000 in
theorem tX11_isLetter_17 {p : Program} {l : Launch} {e : Env} {s : State} {m : MethodId} {args : Array Value} {below : List Frame} {meth : Method} {c : Code} {g : GE} {B : Nat} {h : ST}  {q0 : Int32} (F : Fx p s m args meth c cX11_isLetter 1 "DustParishModel" 43 g B)
    {y : Int32} (hr : meth.sig.returnType = (some .boolean)) (hf : fX11_isLetter_17 h q0 = some y) : V p l e 1 0 s m args below meth c (MQ below (QO KM 43 g (some (.int y)) h) args s 0 (6 * 0) (WA 43 g)) KM 43 g B 1 0 h 17 [] [.int q0] := by
  unfold fX11_isLetter_17 at hf
  obtain ⟨z2, e3, hf⟩ := bnd_some hf
  exact v_zret (pc := 17) F hr dX11_isLetter_17 (zb_in e3).2 ((zb_in e3).1.symm.trans (Option.some.inj hf)) rfl (Nat.zero_le _)
set_option maxRecDepth 100000 in
set_option maxHeartbeats 4000000 in
theorem tX11_isLetter_16 {p : Program} {l : Launch} {e : Env} {s : State} {m : MethodId} {args : Array Value} {below : List Frame} {meth : Method} {c : Code} {g : GE} {B : Nat} {h : ST}  (F : Fx p s m args meth c cX11_isLetter 1 "DustParishModel" 43 g B)
    {y : Int32} (hr : meth.sig.returnType = (some .boolean)) (hf : fX11_isLetter_16 h  = some y) : V p l e 1 0 s m args below meth c (MQ below (QO KM 43 g (some (.int y)) h) args s 0 (6 * 0) (WA 43 g)) KM 43 g B 1 0 h 16 [] [] := by
  unfold fX11_isLetter_16 at hf
  refine v_iconst (pc := 16) (v := 0) F dX11_isLetter_16 ic_0 ?_
  exact tX11_isLetter_17 F hr hf
set_option maxRecDepth 100000 in
set_option maxHeartbeats 4000000 in
theorem kX11_isLetter {l : Launch} {g : GE} {B : Nat} {h : ST} {a1 : Int32} {y : Int32} (hf : fX11_isLetter h a1 = some y) : CT l yX11_isLetter cX11_isLetter 1 (some .boolean) 1 KM 43 g B [.int a1] h (some (.int y)) h := by
  refine CT.of pn_X11 (Nat.le_of_ble_eq_true rfl) ?_
  intro p e s m below meth c hr F
  have F : Fx p s m _ meth c cX11_isLetter 1 "DustParishModel" 43 g B := F
  refine V_lv (lv' := [(0, .int a1)]) rfl ?_
  unfold fX11_isLetter at hf
  refine v_iload_n (pc := 0) (j := 0) F dX11_isLetter_0 rfl rfl ?_
  refine v_bipush (pc := 1) (v := 97) F dX11_isLetter_1 bp_97 ?_
  refine v_icmp_lt (pc := 3) (tgt := 16) F dX11_isLetter_3 (by decide) (fun c1 => ?_) (fun c1 => ?_)
  · have hf := ite_t hf c1
    refine V.sub (lv' := []) [] rfl ?_
    exact tX11_isLetter_16 F hr hf
  · have hf := ite_f hf c1
    refine v_iload_n (pc := 6) (j := 0) F dX11_isLetter_6 rfl rfl ?_
    refine v_bipush (pc := 7) (v := 122) F dX11_isLetter_7 bp_122 ?_
    refine v_icmp_gt (pc := 9) (tgt := 16) F dX11_isLetter_9 (by decide) (fun c4 => ?_) (fun c4 => ?_)
    · have hf := ite_t hf c4
      refine V.sub (lv' := []) [] rfl ?_
      exact tX11_isLetter_16 F hr hf
    · have hf := ite_f hf c4
      refine v_iconst (pc := 12) (v := 1) F dX11_isLetter_12 ic_1 ?_
      refine v_goto (pc := 13) (tgt := 17) F dX11_isLetter_13 (by decide) ?_
      refine V.sub (lv' := []) [] rfl ?_
      exact tX11_isLetter_17 F hr hf
def fX11_isDigit_17 (h : ST) (q0 : Int32) : Option (Int32) :=
  bnd (zb q0) fun z2 =>
  some z2
def fX11_isDigit_16 (h : ST)  : Option (Int32) :=
  fX11_isDigit_17 h 0
def fX11_isDigit (h : ST) (a1 : Int32) : Option (Int32) :=
  if a1 < 48 then
  fX11_isDigit_16 h 
  else
  if 57 < a1 then
    fX11_isDigit_16 h 
    else
    fX11_isDigit_17 h 1
set_option maxRecDepth 100000 in
set_option maxHeartbeats 4000000 in
theorem tX11_isDigit_17 {p : Program} {l : Launch} {e : Env} {s : State} {m : MethodId} {args : Array Value} {below : List Frame} {meth : Method} {c : Code} {g : GE} {B : Nat} {h : ST}  {q0 : Int32} (F : Fx p s m args meth c cX11_isDigit 1 "DustParishModel" 43 g B)
    {y : Int32} (hr : meth.sig.returnType = (some .boolean)) (hf : fX11_isDigit_17 h q0 = some y) : V p l e 1 0 s m args below meth c (MQ below (QO KM 43 g (some (.int y)) h) args s 0 (6 * 0) (WA 43 g)) KM 43 g B 1 0 h 17 [] [.int q0] := by
  unfold fX11_isDigit_17 at hf
  obtain ⟨z2, e3, hf⟩ := bnd_some hf
  exact v_zret (pc := 17) F hr dX11_isDigit_17 (zb_in e3).2 ((zb_in e3).1.symm.trans (Option.some.inj hf)) rfl (Nat.zero_le _)
set_option maxRecDepth 100000 in
set_option maxHeartbeats 4000000 in
theorem tX11_isDigit_16 {p : Program} {l : Launch} {e : Env} {s : State} {m : MethodId} {args : Array Value} {below : List Frame} {meth : Method} {c : Code} {g : GE} {B : Nat} {h : ST}  (F : Fx p s m args meth c cX11_isDigit 1 "DustParishModel" 43 g B)
    {y : Int32} (hr : meth.sig.returnType = (some .boolean)) (hf : fX11_isDigit_16 h  = some y) : V p l e 1 0 s m args below meth c (MQ below (QO KM 43 g (some (.int y)) h) args s 0 (6 * 0) (WA 43 g)) KM 43 g B 1 0 h 16 [] [] := by
  unfold fX11_isDigit_16 at hf
  refine v_iconst (pc := 16) (v := 0) F dX11_isDigit_16 ic_0 ?_
  exact tX11_isDigit_17 F hr hf
set_option maxRecDepth 100000 in
set_option maxHeartbeats 4000000 in
theorem kX11_isDigit {l : Launch} {g : GE} {B : Nat} {h : ST} {a1 : Int32} {y : Int32} (hf : fX11_isDigit h a1 = some y) : CT l yX11_isDigit cX11_isDigit 1 (some .boolean) 1 KM 43 g B [.int a1] h (some (.int y)) h := by
  refine CT.of pn_X11 (Nat.le_of_ble_eq_true rfl) ?_
  intro p e s m below meth c hr F
  have F : Fx p s m _ meth c cX11_isDigit 1 "DustParishModel" 43 g B := F
  refine V_lv (lv' := [(0, .int a1)]) rfl ?_
  unfold fX11_isDigit at hf
  refine v_iload_n (pc := 0) (j := 0) F dX11_isDigit_0 rfl rfl ?_
  refine v_bipush (pc := 1) (v := 48) F dX11_isDigit_1 bp_48 ?_
  refine v_icmp_lt (pc := 3) (tgt := 16) F dX11_isDigit_3 (by decide) (fun c1 => ?_) (fun c1 => ?_)
  · have hf := ite_t hf c1
    refine V.sub (lv' := []) [] rfl ?_
    exact tX11_isDigit_16 F hr hf
  · have hf := ite_f hf c1
    refine v_iload_n (pc := 6) (j := 0) F dX11_isDigit_6 rfl rfl ?_
    refine v_bipush (pc := 7) (v := 57) F dX11_isDigit_7 bp_57 ?_
    refine v_icmp_gt (pc := 9) (tgt := 16) F dX11_isDigit_9 (by decide) (fun c4 => ?_) (fun c4 => ?_)
    · have hf := ite_t hf c4
      refine V.sub (lv' := []) [] rfl ?_
      exact tX11_isDigit_16 F hr hf
    · have hf := ite_f hf c4
      refine v_iconst (pc := 12) (v := 1) F dX11_isDigit_12 ic_1 ?_
      refine v_goto (pc := 13) (tgt := 17) F dX11_isDigit_13 (by decide) ?_
      refine V.sub (lv' := []) [] rfl ?_
      exact tX11_isDigit_17 F hr hf
