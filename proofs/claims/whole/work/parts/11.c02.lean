def fX7_areSo_42 (h : ST) (o : Nat) (o2 : Nat) (l1 : Int32) (l3 : Int32) : Option (Int32 ⊕ (Unit ⊕ Unit)) :=
  some (.inl (l3 + 1))
def fX7_areSo_2 (h : ST) (o : Nat) (o2 : Nat) (l1 : Int32) (s1 : Int32) : Option (Int32 ⊕ (Unit ⊕ Unit)) :=
  if (h o 0) ≤ s1 then
  some (.inr (.inr ()))
  else
  bnd (rd 8 (h (o + 2)) s1) fun v2 =>
    if v2 = l1 then
    bnd (rd 8 (h (o + 1)) s1) fun v5 =>
      bnd (rd 9 (h (o2 + 1)) v5) fun v7 =>
      bnd (rd 8 (h (o + 3)) s1) fun v9 =>
      if v7 = v9 then
      fX7_areSo_42 h o o2 l1 s1
      else
      some (.inr (.inl ()))
    else
    fX7_areSo_42 h o o2 l1 s1
def fX7_areSo (h : ST) (o : Nat) (a1 : Int32) (o2 : Nat) : Option (Int32) :=
  bnd (lp FU (fX7_areSo_2 h o o2 a1) 0) fun x12 =>
  sm x12 (fun v => some 0) (fun v => some 1)
set_option maxRecDepth 100000 in
set_option maxHeartbeats 4000000 in
theorem tX7_areSo_42 {p : Program} {l : Launch} {e : Env} {s : State} {m : MethodId} {args : Array Value} {below : List Frame} {meth : Method} {c : Code} {g : GE} {B : Nat} {h : ST} {o : Nat} (ho_o : o < 395) (hk_o : KC o = (6, 0)) {o2 : Nat} (ho_o2 : o2 < 395) (hk_o2 : KC o2 = (7, 0)) {l1 : Int32} {l3 : Int32} (F : Fx p s m args meth c cX7_areSo 4 "DustParish$Sights" 395 g B)
    {Q : State → Prop} {y : Int32 ⊕ (Unit ⊕ Unit)} (hk : ∀ v : Int32, y = Sum.inl v → V p l e 1 0 s m args below meth c Q KC 395 g B 4 0 h 2 [(0, .ref (gA g o)), (1, .int l1), (2, .ref (gA g o2)), (3, .int v)] []) (hx0 : ∀ v : Unit, y = Sum.inr (.inl v) → V p l e 1 0 s m args below meth c Q KC 395 g B 4 0 h 40 [] []) (hx1 : ∀ v : Unit, y = Sum.inr (.inr v) → V p l e 1 0 s m args below meth c Q KC 395 g B 4 0 h 48 [] []) (hf : fX7_areSo_42 h o o2 l1 l3 = some y) : V p l e 1 0 s m args below meth c Q KC 395 g B 4 0 h 42 [(0, .ref (gA g o)), (1, .int l1), (2, .ref (gA g o2)), (3, .int l3)] [] := by
  unfold fX7_areSo_42 at hf
  refine v_iinc (pc := 42) (j := 3) (v := l3 + 1) (lv' := [(0, .ref (gA g o)), (1, .int l1), (2, .ref (gA g o2)), (3, .int (l3 + 1))]) F dX7_areSo_42 rfl (congrArg (fun z => l3 + z) ic_1) (by decide) rfl ?_
  refine v_goto (pc := 45) (tgt := 2) F dX7_areSo_45 (by decide) ?_
  exact hk (l3 + 1) (Option.some.inj hf).symm
set_option maxRecDepth 100000 in
set_option maxHeartbeats 4000000 in
theorem tX7_areSo_2 {p : Program} {l : Launch} {e : Env} {s : State} {m : MethodId} {args : Array Value} {below : List Frame} {meth : Method} {c : Code} {g : GE} {B : Nat} {h : ST} {o : Nat} (ho_o : o < 395) (hk_o : KC o = (6, 0)) {o2 : Nat} (ho_o2 : o2 < 395) (hk_o2 : KC o2 = (7, 0)) {l1 : Int32} {Q : State → Prop} {x : (Unit ⊕ Unit)} {nf : Nat} {s0 : Int32} (F : Fx p s m args meth c cX7_areSo 4 "DustParish$Sights" 395 g B) (hX0 : ∀ v : Unit, x = (.inl v) → V p l e 1 0 s m args below meth c Q KC 395 g B 4 0 h 40 [] []) (hX1 : ∀ v : Unit, x = (.inr v) → V p l e 1 0 s m args below meth c Q KC 395 g B 4 0 h 48 [] []) (hl : lp nf (fX7_areSo_2 h o o2 l1) s0 = some x) : V p l e 1 0 s m args below meth c Q KC 395 g B 4 0 h 2 [(0, .ref (gA g o)), (1, .int l1), (2, .ref (gA g o2)), (3, .int s0)] [] := by
  refine lp_ind (P := fun s0 => V p l e 1 0 s m args below meth c Q KC 395 g B 4 0 h 2 [(0, .ref (gA g o)), (1, .int l1), (2, .ref (gA g o2)), (3, .int s0)] []) ?_ nf s0 hl
  intro s1 y hf hk hx
  have hx0 : ∀ v : Unit, y = Sum.inr (.inl v) → V p l e 1 0 s m args below meth c Q KC 395 g B 4 0 h 40 [] [] := fun v e9 => hX0 v (hx _ e9).symm
  have hx1 : ∀ v : Unit, y = Sum.inr (.inr v) → V p l e 1 0 s m args below meth c Q KC 395 g B 4 0 h 48 [] [] := fun v e9 => hX1 v (hx _ e9).symm
  unfold fX7_areSo_2 at hf
  refine v_iload_n (pc := 2) (j := 3) F dX7_areSo_2 rfl rfl ?_
  refine v_aload_n (pc := 3) (j := 0) F dX7_areSo_3 rfl rfl ?_
  refine v_ifl (pc := 4) F fl_X7_9 dX7_areSo_4 ho_o hk_o fv_6_0 ?_
  refine v_icmp_ge (pc := 7) (tgt := 48) F dX7_areSo_7 (by decide) (fun c1 => ?_) (fun c1 => ?_)
  · have hf := ite_t hf c1
    refine V.sub (lv' := []) [] rfl ?_
    exact hx1 () (Option.some.inj hf).symm
  · have hf := ite_f hf c1
    refine v_aload_n (pc := 10) (j := 0) F dX7_areSo_10 rfl rfl ?_
    refine v_ifl (pc := 11) F fl_X7_19 dX7_areSo_11 ho_o hk_o fv_6_2 ?_
    refine v_iload_n (pc := 14) (j := 3) F dX7_areSo_14 rfl rfl ?_
    obtain ⟨v2, e3, hf⟩ := bnd_some hf
    refine v_iald (pc := 15) F dX7_areSo_15 (ly_6_2 ho_o hk_o).1 (ly_6_2 ho_o hk_o).2 e3 ?_
    refine v_iload_n (pc := 16) (j := 1) F dX7_areSo_16 rfl rfl ?_
    refine v_icmp_ne (pc := 17) (tgt := 42) F dX7_areSo_17 (by decide) (fun c4 => ?_) (fun c4 => ?_)
    · have hf := ite_f hf c4
      exact tX7_areSo_42 ho_o hk_o ho_o2 hk_o2 F hk hx0 hx1 hf
    · have hf := ite_t hf c4
      refine v_aload_n (pc := 20) (j := 2) F dX7_areSo_20 rfl rfl ?_
      refine v_ifl (pc := 21) F fl_X7_31 dX7_areSo_21 ho_o2 hk_o2 fv_7_3 ?_
      refine v_aload_n (pc := 24) (j := 0) F dX7_areSo_24 rfl rfl ?_
      refine v_ifl (pc := 25) F fl_X7_15 dX7_areSo_25 ho_o hk_o fv_6_1 ?_
      refine v_iload_n (pc := 28) (j := 3) F dX7_areSo_28 rfl rfl ?_
      obtain ⟨v5, e6, hf⟩ := bnd_some hf
      refine v_iald (pc := 29) F dX7_areSo_29 (ly_6_1 ho_o hk_o).1 (ly_6_1 ho_o hk_o).2 e6 ?_
      obtain ⟨v7, e8, hf⟩ := bnd_some hf
      refine v_iald (pc := 30) F dX7_areSo_30 (ly_7_3 ho_o2 hk_o2).1 (ly_7_3 ho_o2 hk_o2).2 e8 ?_
      refine v_aload_n (pc := 31) (j := 0) F dX7_areSo_31 rfl rfl ?_
      refine v_ifl (pc := 32) F fl_X7_22 dX7_areSo_32 ho_o hk_o fv_6_3 ?_
      refine v_iload_n (pc := 35) (j := 3) F dX7_areSo_35 rfl rfl ?_
      obtain ⟨v9, e10, hf⟩ := bnd_some hf
      refine v_iald (pc := 36) F dX7_areSo_36 (ly_6_3 ho_o hk_o).1 (ly_6_3 ho_o hk_o).2 e10 ?_
      refine v_icmp_eq (pc := 37) (tgt := 42) F dX7_areSo_37 (by decide) (fun c11 => ?_) (fun c11 => ?_)
      · have hf := ite_t hf c11
        exact tX7_areSo_42 ho_o hk_o ho_o2 hk_o2 F hk hx0 hx1 hf
      · have hf := ite_f hf c11
        refine V.sub (lv' := []) [] rfl ?_
        exact hx0 () (Option.some.inj hf).symm
set_option maxRecDepth 100000 in
set_option maxHeartbeats 4000000 in
theorem kX7_areSo {l : Launch} {g : GE} {B : Nat} {h : ST} {o : Nat} (ho_o : o < 395) (hk_o : KC o = (6, 0)) {a1 : Int32} {o2 : Nat} (ho_o2 : o2 < 395) (hk_o2 : KC o2 = (7, 0)) {y : Int32} (hf : fX7_areSo h o a1 o2 = some y) : CT l yX7_areSo cX7_areSo 4 (some .boolean) 1 KC 395 g B [.ref (gA g o), .int a1, .ref (gA g o2)] h (some (.int y)) h := by
  refine CT.of pn_X7 (Nat.le_of_ble_eq_true rfl) ?_
  intro p e s m below meth c hr F
  have F : Fx p s m _ meth c cX7_areSo 4 "DustParish$Sights" 395 g B := F
  refine V_lv (lv' := [(0, .ref (gA g o)), (1, .int a1), (2, .ref (gA g o2))]) rfl ?_
  unfold fX7_areSo at hf
  refine v_iconst (pc := 0) (v := 0) F dX7_areSo_0 ic_0 ?_
  refine v_istore_n (pc := 1) (lv' := [(0, .ref (gA g o)), (1, .int a1), (2, .ref (gA g o2)), (3, .int 0)]) F dX7_areSo_1 rfl (by decide) rfl ?_
  obtain ⟨x12, e13, hf⟩ := bnd_some hf
  refine tX7_areSo_2 (s0 := 0) ho_o hk_o ho_o2 hk_o2 F (fun v e9 => ?_) (fun v e9 => ?_) e13
  · subst e9
    have hf := sm_l hf
    refine v_iconst (pc := 40) (v := 0) F dX7_areSo_40 ic_0 ?_
    exact v_zret (pc := 41) F hr dX7_areSo_41 rfl (Option.some.inj hf) rfl (Nat.zero_le _)
  · subst e9
    have hf := sm_r hf
    refine v_iconst (pc := 48) (v := 1) F dX7_areSo_48 ic_1 ?_
    exact v_zret (pc := 49) F hr dX7_areSo_49 rfl (Option.some.inj hf) rfl (Nat.zero_le _)
def fX8_steal (h : ST) (o : Nat) (a1 : Int32) (a2 : Int32) : Option (Int32 × ST) :=
  bnd (rd 9 (h (o + 1)) a1) fun v1 =>
  bnd (rd 9 (h (o + 1)) a1) fun v3 =>
  bnd (wr 9 h (o + 1) a1 (v3 - (if v1 < a2 then v1 else a2))) fun h5 =>
  bnd (pw h5 o 2 ((h5 o 2) + (if v1 < a2 then v1 else a2))) fun h7 =>
  some ((if v1 < a2 then v1 else a2), h7)
set_option maxRecDepth 100000 in
set_option maxHeartbeats 4000000 in
theorem kX8_steal {l : Launch} {g : GE} {B : Nat} {h : ST} {o : Nat} (ho_o : o < 395) (hk_o : KC o = (7, 0)) {a1 : Int32} {a2 : Int32} {y : Int32 × ST} (hf : fX8_steal h o a1 a2 = some y) : CT l yX8_steal cX8_steal 4 (some .int) 1 KC 395 g B [.ref (gA g o), .int a1, .int a2] h (some (.int y.1)) y.2 := by
  refine CT.of pn_X8 (Nat.le_of_ble_eq_true rfl) ?_
  intro p e s m below meth c hr F
  have F : Fx p s m _ meth c cX8_steal 4 "DustParish$State" 395 g B := F
  refine V_lv (lv' := [(0, .ref (gA g o)), (1, .int a1), (2, .int a2)]) rfl ?_
  unfold fX8_steal at hf
  refine v_iload_n (pc := 0) (j := 2) F dX8_steal_0 rfl rfl ?_
  refine v_aload_n (pc := 1) (j := 0) F dX8_steal_1 rfl rfl ?_
  refine v_ifl (pc := 2) F fl_X8_9 dX8_steal_2 ho_o hk_o fv_7_3 ?_
  refine v_iload_n (pc := 5) (j := 1) F dX8_steal_5 rfl rfl ?_
  obtain ⟨v1, e2, hf⟩ := bnd_some hf
  refine v_iald (pc := 6) F dX8_steal_6 (ly_7_3 ho_o hk_o).1 (ly_7_3 ho_o hk_o).2 e2 ?_
  refine v_mmin (pc := 7) F tw_473 mminW dX8_steal_7 (by decide) (Nat.le_of_ble_eq_true rfl) (Nat.zero_le _) ?_
  refine v_istore_n (pc := 10) (lv' := [(0, .ref (gA g o)), (1, .int a1), (2, .int a2), (3, .int (if v1 < a2 then v1 else a2))]) F dX8_steal_10 rfl (by decide) rfl ?_
  refine v_aload_n (pc := 11) (j := 0) F dX8_steal_11 rfl rfl ?_
  refine v_ifl (pc := 12) F fl_X8_9 dX8_steal_12 ho_o hk_o fv_7_3 ?_
  refine v_iload_n (pc := 15) (j := 1) F dX8_steal_15 rfl rfl ?_
  refine v_dup2_11 (pc := 16) F dX8_steal_16 rfl rfl ?_
  obtain ⟨v3, e4, hf⟩ := bnd_some hf
  refine v_iald (pc := 17) F dX8_steal_17 (ly_7_3 ho_o hk_o).1 (ly_7_3 ho_o hk_o).2 e4 ?_
  refine v_iload_n (pc := 18) (j := 3) F dX8_steal_18 rfl rfl ?_
  refine v_isub (pc := 19) F dX8_steal_19 ?_
  obtain ⟨h5, e6, hf⟩ := bnd_some hf
  refine v_iast (pc := 20) F dX8_steal_20 (ly_7_3 ho_o hk_o).1 (ly_7_3 ho_o hk_o).2 e6 ?_
  refine v_aload_n (pc := 21) (j := 0) F dX8_steal_21 rfl rfl ?_
  refine v_dup (pc := 22) F dX8_steal_22 rfl ?_
  refine v_ifl (pc := 23) F fl_X8_28 dX8_steal_23 ho_o hk_o fv_7_2 ?_
  refine v_iload_n (pc := 26) (j := 3) F dX8_steal_26 rfl rfl ?_
  refine v_iadd (pc := 27) F dX8_steal_27 ?_
  obtain ⟨h7, e8, hf⟩ := bnd_some hf
  refine v_pfl (pc := 28) F fl_X8_28 pl_7_2 dX8_steal_28 ho_o hk_o fv_7_2 rfl rfl e8 ?_
  refine v_iload_n (pc := 31) (j := 3) F dX8_steal_31 rfl rfl ?_
  exact v_iret (pc := 32) F hr dX8_steal_32 (some_fst hf) (some_snd hf) (Nat.zero_le _)
def fX2_behind_37 (h : ST) (q0 : Int32) : Option (Int32) :=
  some q0
def fX2_behind (h : ST) (o : Nat) (a1 : Int32) (a2 : Int32) : Option (Int32) :=
  bnd (rd 14 (h (o + 5)) a1) fun v1 =>
  if v1 = a2 then
  bnd (rd 14 (h (o + 6)) a1) fun v9 =>
    some v9
  else
  bnd (rd 14 (h (o + 6)) a1) fun v4 =>
    if v4 = a2 then
    bnd (rd 14 (h (o + 5)) a1) fun v7 =>
      fX2_behind_37 h v7
    else
    fX2_behind_37 h (-1)
set_option maxRecDepth 100000 in
set_option maxHeartbeats 4000000 in
theorem tX2_behind_37 {p : Program} {l : Launch} {e : Env} {s : State} {m : MethodId} {args : Array Value} {below : List Frame} {meth : Method} {c : Code} {g : GE} {B : Nat} {h : ST}  {q0 : Int32} (F : Fx p s m args meth c cX2_behind 3 "DustParish$Facts" 395 g B)
    {y : Int32} (hr : meth.sig.returnType = (some .int)) (hf : fX2_behind_37 h q0 = some y) : V p l e 1 0 s m args below meth c (MQ below (QO KC 395 g (some (.int y)) h) args s 0 (6 * 0) (fun q => B ≤ q)) KC 395 g B 3 0 h 37 [] [.int q0] := by
  unfold fX2_behind_37 at hf
  exact v_iret (pc := 37) F hr dX2_behind_37 (Option.some.inj hf) rfl (Nat.zero_le _)
set_option maxRecDepth 100000 in
set_option maxHeartbeats 4000000 in
theorem kX2_behind {l : Launch} {g : GE} {B : Nat} {h : ST} {o : Nat} (ho_o : o < 395) (hk_o : KC o = (1, 0)) {a1 : Int32} {a2 : Int32} {y : Int32} (hf : fX2_behind h o a1 a2 = some y) : CT l yX2_behind cX2_behind 3 (some .int) 1 KC 395 g B [.ref (gA g o), .int a1, .int a2] h (some (.int y)) h := by
  refine CT.of pn_X2 (Nat.le_of_ble_eq_true rfl) ?_
  intro p e s m below meth c hr F
  have F : Fx p s m _ meth c cX2_behind 3 "DustParish$Facts" 395 g B := F
  refine V_lv (lv' := [(0, .ref (gA g o)), (1, .int a1), (2, .int a2)]) rfl ?_
  unfold fX2_behind at hf
  refine v_aload_n (pc := 0) (j := 0) F dX2_behind_0 rfl rfl ?_
  refine v_ifl (pc := 1) F fl_X2_24 dX2_behind_1 ho_o hk_o fv_1_6 ?_
  refine v_iload_n (pc := 4) (j := 1) F dX2_behind_4 rfl rfl ?_
  obtain ⟨v1, e2, hf⟩ := bnd_some hf
  refine v_iald (pc := 5) F dX2_behind_5 (ly_1_6 ho_o hk_o).1 (ly_1_6 ho_o hk_o).2 e2 ?_
  refine v_iload_n (pc := 6) (j := 2) F dX2_behind_6 rfl rfl ?_
  refine v_icmp_ne (pc := 7) (tgt := 17) F dX2_behind_7 (by decide) (fun c3 => ?_) (fun c3 => ?_)
  · have hf := ite_f hf c3
    refine v_aload_n (pc := 17) (j := 0) F dX2_behind_17 rfl rfl ?_
    refine v_ifl (pc := 18) F fl_X2_27 dX2_behind_18 ho_o hk_o fv_1_7 ?_
    refine v_iload_n (pc := 21) (j := 1) F dX2_behind_21 rfl rfl ?_
    obtain ⟨v4, e5, hf⟩ := bnd_some hf
    refine v_iald (pc := 22) F dX2_behind_22 (ly_1_7 ho_o hk_o).1 (ly_1_7 ho_o hk_o).2 e5 ?_
    refine v_iload_n (pc := 23) (j := 2) F dX2_behind_23 rfl rfl ?_
    refine v_icmp_ne (pc := 24) (tgt := 36) F dX2_behind_24 (by decide) (fun c6 => ?_) (fun c6 => ?_)
    · have hf := ite_f hf c6
      refine v_iconst (pc := 36) (v := (-1)) F dX2_behind_36 ic_m1 ?_
      refine V.sub (lv' := []) [] rfl ?_
      exact tX2_behind_37 F hr hf
    · have hf := ite_t hf c6
      refine v_aload_n (pc := 27) (j := 0) F dX2_behind_27 rfl rfl ?_
      refine v_ifl (pc := 28) F fl_X2_24 dX2_behind_28 ho_o hk_o fv_1_6 ?_
      refine v_iload_n (pc := 31) (j := 1) F dX2_behind_31 rfl rfl ?_
      obtain ⟨v7, e8, hf⟩ := bnd_some hf
      refine v_iald (pc := 32) F dX2_behind_32 (ly_1_6 ho_o hk_o).1 (ly_1_6 ho_o hk_o).2 e8 ?_
      refine v_goto (pc := 33) (tgt := 37) F dX2_behind_33 (by decide) ?_
      refine V.sub (lv' := []) [] rfl ?_
      exact tX2_behind_37 F hr hf
  · have hf := ite_t hf c3
    refine v_aload_n (pc := 10) (j := 0) F dX2_behind_10 rfl rfl ?_
    refine v_ifl (pc := 11) F fl_X2_27 dX2_behind_11 ho_o hk_o fv_1_7 ?_
    refine v_iload_n (pc := 14) (j := 1) F dX2_behind_14 rfl rfl ?_
    obtain ⟨v9, e10, hf⟩ := bnd_some hf
    refine v_iald (pc := 15) F dX2_behind_15 (ly_1_7 ho_o hk_o).1 (ly_1_7 ho_o hk_o).2 e10 ?_
    exact v_iret (pc := 16) F hr dX2_behind_16 (Option.some.inj hf) rfl (Nat.zero_le _)
def fX2_behindFirstDoor_2 (h : ST) (o : Nat) (l1 : Int32) (s1 : Int32) : Option (Int32 ⊕ (Int32 ⊕ Unit)) :=
  if (h o 5) ≤ s1 then
  some (.inr (.inr ()))
  else
  bnd (fX2_behind h o s1 l1) fun r2 =>
    if r2 = (-1) then
    some (.inl (s1 + 1))
    else
    some (.inr (.inl s1))
def fX2_behindFirstDoor (h : ST) (o : Nat) (a1 : Int32) : Option (Int32) :=
  bnd (lp FU (fX2_behindFirstDoor_2 h o a1) 0) fun x5 =>
  sm x5 (fun v => bnd (fX2_behind h o v a1) fun r7 =>
  some r7) (fun v => some (-1))
set_option maxRecDepth 100000 in
set_option maxHeartbeats 4000000 in
theorem tX2_behindFirstDoor_2 {p : Program} {l : Launch} {e : Env} {s : State} {m : MethodId} {args : Array Value} {below : List Frame} {meth : Method} {c : Code} {g : GE} {B : Nat} {h : ST} {o : Nat} (ho_o : o < 395) (hk_o : KC o = (1, 0)) {l1 : Int32} {Q : State → Prop} {x : (Int32 ⊕ Unit)} {nf : Nat} {s0 : Int32} (F : Fx p s m args meth c cX2_behindFirstDoor 3 "DustParish$Facts" 395 g B) (hX0 : ∀ v : Int32, x = (.inl v) → V p l e 2 0 s m args below meth c Q KC 395 g B 3 0 h 20 [(0, .ref (gA g o)), (1, .int l1), (2, .int v)] []) (hX1 : ∀ v : Unit, x = (.inr v) → V p l e 2 0 s m args below meth c Q KC 395 g B 3 0 h 33 [] []) (hl : lp nf (fX2_behindFirstDoor_2 h o l1) s0 = some x) : V p l e 2 0 s m args below meth c Q KC 395 g B 3 0 h 2 [(0, .ref (gA g o)), (1, .int l1), (2, .int s0)] [] := by
  refine lp_ind (P := fun s0 => V p l e 2 0 s m args below meth c Q KC 395 g B 3 0 h 2 [(0, .ref (gA g o)), (1, .int l1), (2, .int s0)] []) ?_ nf s0 hl
  intro s1 y hf hk hx
  have hx0 : ∀ v : Int32, y = Sum.inr (.inl v) → V p l e 2 0 s m args below meth c Q KC 395 g B 3 0 h 20 [(0, .ref (gA g o)), (1, .int l1), (2, .int v)] [] := fun v e9 => hX0 v (hx _ e9).symm
  have hx1 : ∀ v : Unit, y = Sum.inr (.inr v) → V p l e 2 0 s m args below meth c Q KC 395 g B 3 0 h 33 [] [] := fun v e9 => hX1 v (hx _ e9).symm
  unfold fX2_behindFirstDoor_2 at hf
  refine v_iload_n (pc := 2) (j := 2) F dX2_behindFirstDoor_2 rfl rfl ?_
  refine v_aload_n (pc := 3) (j := 0) F dX2_behindFirstDoor_3 rfl rfl ?_
  refine v_ifl (pc := 4) F fl_X2_62 dX2_behindFirstDoor_4 ho_o hk_o fv_1_5 ?_
  refine v_icmp_ge (pc := 7) (tgt := 33) F dX2_behindFirstDoor_7 (by decide) (fun c1 => ?_) (fun c1 => ?_)
  · have hf := ite_t hf c1
    refine V.sub (lv' := []) [] rfl ?_
    exact hx1 () (Option.some.inj hf).symm
  · have hf := ite_f hf c1
    refine v_aload_n (pc := 10) (j := 0) F dX2_behindFirstDoor_10 rfl rfl ?_
    refine v_iload_n (pc := 11) (j := 2) F dX2_behindFirstDoor_11 rfl rfl ?_
    refine v_iload_n (pc := 12) (j := 1) F dX2_behindFirstDoor_12 rfl rfl ?_
    obtain ⟨r2, e3, hf⟩ := bnd_some hf
    refine v_callVi (pc := 13) (As := [.int s1, .int l1]) F cl_X2_94 dX2_behindFirstDoor_13 (kX2_behind ho_o hk_o e3) ho_o hk_o rc_1 rfl rfl (Nat.le_of_ble_eq_true rfl) (by decide) (Nat.zero_le _) ?_
    refine v_iconst (pc := 16) (v := (-1)) F dX2_behindFirstDoor_16 ic_m1 ?_
    refine v_icmp_eq (pc := 17) (tgt := 27) F dX2_behindFirstDoor_17 (by decide) (fun c4 => ?_) (fun c4 => ?_)
    · have hf := ite_t hf c4
      refine v_iinc (pc := 27) (j := 2) (v := s1 + 1) (lv' := [(0, .ref (gA g o)), (1, .int l1), (2, .int (s1 + 1))]) F dX2_behindFirstDoor_27 rfl (congrArg (fun z => s1 + z) ic_1) (by decide) rfl ?_
      refine v_goto (pc := 30) (tgt := 2) F dX2_behindFirstDoor_30 (by decide) ?_
      exact hk (s1 + 1) (Option.some.inj hf).symm
    · have hf := ite_f hf c4
      exact hx0 s1 (Option.some.inj hf).symm
set_option maxRecDepth 100000 in
set_option maxHeartbeats 4000000 in
theorem kX2_behindFirstDoor {l : Launch} {g : GE} {B : Nat} {h : ST} {o : Nat} (ho_o : o < 395) (hk_o : KC o = (1, 0)) {a1 : Int32} {y : Int32} (hf : fX2_behindFirstDoor h o a1 = some y) : CT l yX2_behindFirstDoor cX2_behindFirstDoor 3 (some .int) 2 KC 395 g B [.ref (gA g o), .int a1] h (some (.int y)) h := by
  refine CT.of pn_X2 (Nat.le_of_ble_eq_true rfl) ?_
  intro p e s m below meth c hr F
  have F : Fx p s m _ meth c cX2_behindFirstDoor 3 "DustParish$Facts" 395 g B := F
  refine V_lv (lv' := [(0, .ref (gA g o)), (1, .int a1)]) rfl ?_
  unfold fX2_behindFirstDoor at hf
  refine v_iconst (pc := 0) (v := 0) F dX2_behindFirstDoor_0 ic_0 ?_
  refine v_istore_n (pc := 1) (lv' := [(0, .ref (gA g o)), (1, .int a1), (2, .int 0)]) F dX2_behindFirstDoor_1 rfl (by decide) rfl ?_
  obtain ⟨x5, e6, hf⟩ := bnd_some hf
  refine tX2_behindFirstDoor_2 (s0 := 0) ho_o hk_o F (fun v e9 => ?_) (fun v e9 => ?_) e6
  · subst e9
    have hf := sm_l hf
    refine v_aload_n (pc := 20) (j := 0) F dX2_behindFirstDoor_20 rfl rfl ?_
    refine v_iload_n (pc := 21) (j := 2) F dX2_behindFirstDoor_21 rfl rfl ?_
    refine v_iload_n (pc := 22) (j := 1) F dX2_behindFirstDoor_22 rfl rfl ?_
    obtain ⟨r7, e8, hf⟩ := bnd_some hf
    refine v_callVi (pc := 23) (As := [.int v, .int a1]) F cl_X2_94 dX2_behindFirstDoor_23 (kX2_behind ho_o hk_o e8) ho_o hk_o rc_1 rfl rfl (Nat.le_of_ble_eq_true rfl) (by decide) (Nat.zero_le _) ?_
    exact v_iret (pc := 26) F hr dX2_behindFirstDoor_26 (Option.some.inj hf) rfl (Nat.zero_le _)
  · subst e9
    have hf := sm_r hf
    refine v_iconst (pc := 33) (v := (-1)) F dX2_behindFirstDoor_33 ic_m1 ?_
    exact v_iret (pc := 34) F hr dX2_behindFirstDoor_34 (Option.some.inj hf) rfl (Nat.zero_le _)
def fX8_bring (h : ST) (o : Nat) (a1 : Int32) (a2 : Int32) (a3 : Int32) : Option (ST) :=
  bnd (rd 9 (h (o + 1)) a1) fun v1 =>
  bnd (wr 9 h (o + 1) a1 (v1 - a3)) fun h3 =>
  bnd (fX8_lay h3 o a2 a3) fun r5 =>
  bnd (rd 9 (r5 (o + 2)) a2) fun v7 =>
  bnd (wr 9 r5 (o + 2) a2 (v7 + a3)) fun h9 =>
  some h9
set_option maxRecDepth 100000 in
set_option maxHeartbeats 4000000 in
theorem kX8_bring {l : Launch} {g : GE} {B : Nat} {h : ST} {o : Nat} (ho_o : o < 395) (hk_o : KC o = (7, 0)) {a1 : Int32} {a2 : Int32} {a3 : Int32} {y : ST} (hf : fX8_bring h o a1 a2 a3 = some y) : CT l yX8_bring cX8_bring 4 none 2 KC 395 g B [.ref (gA g o), .int a1, .int a2, .int a3] h none y := by
  refine CT.of pn_X8 (Nat.le_of_ble_eq_true rfl) ?_
  intro p e s m below meth c hr F
  have F : Fx p s m _ meth c cX8_bring 4 "DustParish$State" 395 g B := F
  refine V_lv (lv' := [(0, .ref (gA g o)), (1, .int a1), (2, .int a2), (3, .int a3)]) rfl ?_
  unfold fX8_bring at hf
  refine v_aload_n (pc := 0) (j := 0) F dX8_bring_0 rfl rfl ?_
  refine v_ifl (pc := 1) F fl_X8_9 dX8_bring_1 ho_o hk_o fv_7_3 ?_
  refine v_iload_n (pc := 4) (j := 1) F dX8_bring_4 rfl rfl ?_
  refine v_dup2_11 (pc := 5) F dX8_bring_5 rfl rfl ?_
  obtain ⟨v1, e2, hf⟩ := bnd_some hf
  refine v_iald (pc := 6) F dX8_bring_6 (ly_7_3 ho_o hk_o).1 (ly_7_3 ho_o hk_o).2 e2 ?_
  refine v_iload_n (pc := 7) (j := 3) F dX8_bring_7 rfl rfl ?_
  refine v_isub (pc := 8) F dX8_bring_8 ?_
  obtain ⟨h3, e4, hf⟩ := bnd_some hf
  refine v_iast (pc := 9) F dX8_bring_9 (ly_7_3 ho_o hk_o).1 (ly_7_3 ho_o hk_o).2 e4 ?_
  refine v_aload_n (pc := 10) (j := 0) F dX8_bring_10 rfl rfl ?_
  refine v_iload_n (pc := 11) (j := 2) F dX8_bring_11 rfl rfl ?_
  refine v_iload_n (pc := 12) (j := 3) F dX8_bring_12 rfl rfl ?_
  obtain ⟨r5, e6, hf⟩ := bnd_some hf
  refine v_callVv (pc := 13) (As := [.int a2, .int a3]) F cl_X8_53 dX8_bring_13 (kX8_lay ho_o hk_o e6) ho_o hk_o rc_7 rfl rfl (Nat.le_of_ble_eq_true rfl) (by decide) (Nat.zero_le _) ?_
  refine v_aload_n (pc := 16) (j := 0) F dX8_bring_16 rfl rfl ?_
  refine v_ifl (pc := 17) F fl_X8_15 dX8_bring_17 ho_o hk_o fv_7_4 ?_
  refine v_iload_n (pc := 20) (j := 2) F dX8_bring_20 rfl rfl ?_
  refine v_dup2_11 (pc := 21) F dX8_bring_21 rfl rfl ?_
  obtain ⟨v7, e8, hf⟩ := bnd_some hf
  refine v_iald (pc := 22) F dX8_bring_22 (ly_7_4 ho_o hk_o).1 (ly_7_4 ho_o hk_o).2 e8 ?_
  refine v_iload_n (pc := 23) (j := 3) F dX8_bring_23 rfl rfl ?_
  refine v_iadd (pc := 24) F dX8_bring_24 ?_
  obtain ⟨h9, e10, hf⟩ := bnd_some hf
  refine v_iast (pc := 25) F dX8_bring_25 (ly_7_4 ho_o hk_o).1 (ly_7_4 ho_o hk_o).2 e10 ?_
  exact v_vret (pc := 26) F hr dX8_bring_26 (Option.some.inj hf) (Nat.zero_le _)
def fX10_happen_54 (h : ST)  : Option (ST) :=
  some h
def fX10_happen_15 (h : ST) (l1 : Int32) (l2 : Int32) : Option (ST) :=
  if l2 = 1 then
  bnd (rf KC 395 1 (h 0 3)) fun f3 =>
    bnd (fX2_behindFirstDoor h f3 l1) fun r5 =>
    if r5 = (-1) then
    fX10_happen_54 h 
    else
    bnd (rd 9 (h 387) l1) fun v8 =>
      bnd (fX8_bring h 386 l1 r5 (v8 / 2)) fun r10 =>
      fX10_happen_54 r10 
  else
  fX10_happen_54 h 
def fX10_happen (h : ST) (a1 : Int32) (a2 : Int32) : Option (ST) :=
  if a2 = 0 then
  bnd (fX8_steal h 386 a1 10) fun r12 =>
    fX10_happen_15 r12.2 a1 a2
  else
  fX10_happen_15 h a1 a2
set_option maxRecDepth 100000 in
set_option maxHeartbeats 4000000 in
theorem tX10_happen_54 {p : Program} {l : Launch} {e : Env} {s : State} {m : MethodId} {args : Array Value} {below : List Frame} {meth : Method} {c : Code} {g : GE} {B : Nat} {h : ST}  (F : Fx p s m args meth c cX10_happen 4 "DustParish" 395 g B)
    {y : ST} (hr : meth.sig.returnType = none) (hf : fX10_happen_54 h  = some y) : V p l e 3 0 s m args below meth c (MQ below (QO KC 395 g none y) args s 0 (6 * 0) (fun q => B ≤ q)) KC 395 g B 4 0 h 54 [] [] := by
  unfold fX10_happen_54 at hf
  exact v_vret (pc := 54) F hr dX10_happen_54 (Option.some.inj hf) (Nat.zero_le _)
set_option maxRecDepth 100000 in
set_option maxHeartbeats 4000000 in
theorem tX10_happen_15 {p : Program} {l : Launch} {e : Env} {s : State} {m : MethodId} {args : Array Value} {below : List Frame} {meth : Method} {c : Code} {g : GE} {B : Nat} {h : ST}  {l1 : Int32} {l2 : Int32} (F : Fx p s m args meth c cX10_happen 4 "DustParish" 395 g B)
    {y : ST} (hr : meth.sig.returnType = none) (hf : fX10_happen_15 h l1 l2 = some y) : V p l e 3 0 s m args below meth c (MQ below (QO KC 395 g none y) args s 0 (6 * 0) (fun q => B ≤ q)) KC 395 g B 4 0 h 15 [(0, .ref (gA g 0)), (1, .int l1), (2, .int l2)] [] := by
  unfold fX10_happen_15 at hf
  refine v_iload_n (pc := 15) (j := 2) F dX10_happen_15 rfl rfl ?_
  refine v_iconst (pc := 16) (v := 1) F dX10_happen_16 ic_1 ?_
  refine v_icmp_ne (pc := 17) (tgt := 54) F dX10_happen_17 (by decide) (fun c2 => ?_) (fun c2 => ?_)
  · have hf := ite_f hf c2
    refine V.sub (lv' := []) [] rfl ?_
    exact tX10_happen_54 F hr hf
  · have hf := ite_t hf c2
    refine v_aload_n (pc := 20) (j := 0) F dX10_happen_20 rfl rfl ?_
    obtain ⟨f3, e4, hf⟩ := bnd_some hf
    obtain ⟨ho_f3, hk_f3, e4⟩ := rf_in e4
    refine v_ifl (pc := 21) F fl_X10_23 dX10_happen_21 kc_0.1 kc_0.2 (fv_9_3 e4) ?_
    refine v_iload_n (pc := 24) (j := 1) F dX10_happen_24 rfl rfl ?_
    obtain ⟨r5, e6, hf⟩ := bnd_some hf
    refine v_callVi (pc := 25) (As := [.int l1]) F cl_X10_346 dX10_happen_25 (kX2_behindFirstDoor ho_f3 hk_f3 e6) ho_f3 hk_f3 rc_1 rfl rfl (Nat.le_of_ble_eq_true rfl) (by decide) (Nat.zero_le _) ?_
    refine v_istore_n (pc := 28) (lv' := [(0, .ref (gA g 0)), (1, .int l1), (2, .int l2), (3, .int r5)]) F dX10_happen_28 rfl (by decide) rfl ?_
    refine v_iload_n (pc := 29) (j := 3) F dX10_happen_29 rfl rfl ?_
    refine v_iconst (pc := 30) (v := (-1)) F dX10_happen_30 ic_m1 ?_
    refine v_icmp_eq (pc := 31) (tgt := 54) F dX10_happen_31 (by decide) (fun c7 => ?_) (fun c7 => ?_)
    · have hf := ite_t hf c7
      refine V.sub (lv' := []) [] rfl ?_
      exact tX10_happen_54 F hr hf
    · have hf := ite_f hf c7
      refine v_aload_n (pc := 34) (j := 0) F dX10_happen_34 rfl rfl ?_
      refine v_ifl (pc := 35) F fl_X10_56 dX10_happen_35 kc_0.1 kc_0.2 fv_9_9 ?_
      refine v_iload_n (pc := 38) (j := 1) F dX10_happen_38 rfl rfl ?_
      refine v_iload_n (pc := 39) (j := 3) F dX10_happen_39 rfl rfl ?_
      refine v_aload_n (pc := 40) (j := 0) F dX10_happen_40 rfl rfl ?_
      refine v_ifl (pc := 41) F fl_X10_56 dX10_happen_41 kc_0.1 kc_0.2 fv_9_9 ?_
      refine v_ifl (pc := 44) F fl_X10_171 dX10_happen_44 kc_386.1 kc_386.2 fv_7_3 ?_
      refine v_iload_n (pc := 47) (j := 1) F dX10_happen_47 rfl rfl ?_
      obtain ⟨v8, e9, hf⟩ := bnd_some hf
      refine v_iald (pc := 48) F dX10_happen_48 kc_387.1 kc_387.2 e9 ?_
      refine v_iconst (pc := 49) (v := 2) F dX10_happen_49 ic_2 ?_
      refine v_idiv (pc := 50) F dX10_happen_50 (by decide) ?_
      obtain ⟨r10, e11, hf⟩ := bnd_some hf
      refine v_callVv (pc := 51) (As := [.int l1, .int r5, .int (v8 / 2)]) F cl_X10_222 dX10_happen_51 (kX8_bring kc_386.1 kc_386.2 e11) kc_386.1 kc_386.2 rc_7 rfl rfl (Nat.le_of_ble_eq_true rfl) (by decide) (Nat.zero_le _) ?_
      refine V.sub (lv' := []) [] rfl ?_
      exact tX10_happen_54 F hr hf
set_option maxRecDepth 100000 in
set_option maxHeartbeats 4000000 in
theorem kX10_happen {l : Launch} {g : GE} {B : Nat} {h : ST} {a1 : Int32} {a2 : Int32} {y : ST} (hf : fX10_happen h a1 a2 = some y) : CT l yX10_happen cX10_happen 4 none 3 KC 395 g B [.ref (gA g 0), .int a1, .int a2] h none y := by
  refine CT.of pn_X10 (Nat.le_of_ble_eq_true rfl) ?_
  intro p e s m below meth c hr F
  have F : Fx p s m _ meth c cX10_happen 4 "DustParish" 395 g B := F
  refine V_lv (lv' := [(0, .ref (gA g 0)), (1, .int a1), (2, .int a2)]) rfl ?_
  unfold fX10_happen at hf
  refine v_iload_n (pc := 0) (j := 2) F dX10_happen_0 rfl rfl ?_
  refine v_if_ne (pc := 1) (tgt := 15) F dX10_happen_1 (by decide) (fun c1 => ?_) (fun c1 => ?_)
  · have hf := ite_f hf c1
    exact tX10_happen_15 F hr hf
  · have hf := ite_t hf c1
    refine v_aload_n (pc := 4) (j := 0) F dX10_happen_4 rfl rfl ?_
    refine v_ifl (pc := 5) F fl_X10_56 dX10_happen_5 kc_0.1 kc_0.2 fv_9_9 ?_
    refine v_iload_n (pc := 8) (j := 1) F dX10_happen_8 rfl rfl ?_
    refine v_bipush (pc := 9) (v := 10) F dX10_happen_9 bp_10 ?_
    obtain ⟨r12, e13, hf⟩ := bnd_some hf
    refine v_callVi (pc := 11) (As := [.int a1, .int 10]) F cl_X10_226 dX10_happen_11 (kX8_steal kc_386.1 kc_386.2 e13) kc_386.1 kc_386.2 rc_7 rfl rfl (Nat.le_of_ble_eq_true rfl) (by decide) (Nat.zero_le _) ?_
    refine v_pop (pc := 14) F dX10_happen_14 rfl ?_
    exact tX10_happen_15 F hr hf
def fX2_hasDoor_2 (h : ST) (o : Nat) (l1 : Int32) (l2 : Int32) (s1 : Int32) : Option (Int32 ⊕ (Unit ⊕ Unit)) :=
  if (h o 5) ≤ s1 then
  some (.inr (.inr ()))
  else
  bnd (fX2_behind h o s1 l1) fun r2 =>
    if r2 = l2 then
    some (.inr (.inl ()))
    else
    some (.inl (s1 + 1))
def fX2_hasDoor (h : ST) (o : Nat) (a1 : Int32) (a2 : Int32) : Option (Int32) :=
  bnd (lp FU (fX2_hasDoor_2 h o a1 a2) 0) fun x5 =>
  sm x5 (fun v => some 1) (fun v => some 0)
set_option maxRecDepth 100000 in
set_option maxHeartbeats 4000000 in
theorem tX2_hasDoor_2 {p : Program} {l : Launch} {e : Env} {s : State} {m : MethodId} {args : Array Value} {below : List Frame} {meth : Method} {c : Code} {g : GE} {B : Nat} {h : ST} {o : Nat} (ho_o : o < 395) (hk_o : KC o = (1, 0)) {l1 : Int32} {l2 : Int32} {Q : State → Prop} {x : (Unit ⊕ Unit)} {nf : Nat} {s0 : Int32} (F : Fx p s m args meth c cX2_hasDoor 4 "DustParish$Facts" 395 g B) (hX0 : ∀ v : Unit, x = (.inl v) → V p l e 2 0 s m args below meth c Q KC 395 g B 4 0 h 20 [] []) (hX1 : ∀ v : Unit, x = (.inr v) → V p l e 2 0 s m args below meth c Q KC 395 g B 4 0 h 28 [] []) (hl : lp nf (fX2_hasDoor_2 h o l1 l2) s0 = some x) : V p l e 2 0 s m args below meth c Q KC 395 g B 4 0 h 2 [(0, .ref (gA g o)), (1, .int l1), (2, .int l2), (3, .int s0)] [] := by
  refine lp_ind (P := fun s0 => V p l e 2 0 s m args below meth c Q KC 395 g B 4 0 h 2 [(0, .ref (gA g o)), (1, .int l1), (2, .int l2), (3, .int s0)] []) ?_ nf s0 hl
  intro s1 y hf hk hx
  have hx0 : ∀ v : Unit, y = Sum.inr (.inl v) → V p l e 2 0 s m args below meth c Q KC 395 g B 4 0 h 20 [] [] := fun v e9 => hX0 v (hx _ e9).symm
  have hx1 : ∀ v : Unit, y = Sum.inr (.inr v) → V p l e 2 0 s m args below meth c Q KC 395 g B 4 0 h 28 [] [] := fun v e9 => hX1 v (hx _ e9).symm
  unfold fX2_hasDoor_2 at hf
  refine v_iload_n (pc := 2) (j := 3) F dX2_hasDoor_2 rfl rfl ?_
  refine v_aload_n (pc := 3) (j := 0) F dX2_hasDoor_3 rfl rfl ?_
  refine v_ifl (pc := 4) F fl_X2_62 dX2_hasDoor_4 ho_o hk_o fv_1_5 ?_
  refine v_icmp_ge (pc := 7) (tgt := 28) F dX2_hasDoor_7 (by decide) (fun c1 => ?_) (fun c1 => ?_)
  · have hf := ite_t hf c1
    refine V.sub (lv' := []) [] rfl ?_
    exact hx1 () (Option.some.inj hf).symm
  · have hf := ite_f hf c1
    refine v_aload_n (pc := 10) (j := 0) F dX2_hasDoor_10 rfl rfl ?_
    refine v_iload_n (pc := 11) (j := 3) F dX2_hasDoor_11 rfl rfl ?_
    refine v_iload_n (pc := 12) (j := 1) F dX2_hasDoor_12 rfl rfl ?_
    obtain ⟨r2, e3, hf⟩ := bnd_some hf
    refine v_callVi (pc := 13) (As := [.int s1, .int l1]) F cl_X2_94 dX2_hasDoor_13 (kX2_behind ho_o hk_o e3) ho_o hk_o rc_1 rfl rfl (Nat.le_of_ble_eq_true rfl) (by decide) (Nat.zero_le _) ?_
    refine v_iload_n (pc := 16) (j := 2) F dX2_hasDoor_16 rfl rfl ?_
    refine v_icmp_ne (pc := 17) (tgt := 22) F dX2_hasDoor_17 (by decide) (fun c4 => ?_) (fun c4 => ?_)
    · have hf := ite_f hf c4
      refine v_iinc (pc := 22) (j := 3) (v := s1 + 1) (lv' := [(0, .ref (gA g o)), (1, .int l1), (2, .int l2), (3, .int (s1 + 1))]) F dX2_hasDoor_22 rfl (congrArg (fun z => s1 + z) ic_1) (by decide) rfl ?_
      refine v_goto (pc := 25) (tgt := 2) F dX2_hasDoor_25 (by decide) ?_
      exact hk (s1 + 1) (Option.some.inj hf).symm
    · have hf := ite_t hf c4
      refine V.sub (lv' := []) [] rfl ?_
      exact hx0 () (Option.some.inj hf).symm
set_option maxRecDepth 100000 in
set_option maxHeartbeats 4000000 in
theorem kX2_hasDoor {l : Launch} {g : GE} {B : Nat} {h : ST} {o : Nat} (ho_o : o < 395) (hk_o : KC o = (1, 0)) {a1 : Int32} {a2 : Int32} {y : Int32} (hf : fX2_hasDoor h o a1 a2 = some y) : CT l yX2_hasDoor cX2_hasDoor 4 (some .boolean) 2 KC 395 g B [.ref (gA g o), .int a1, .int a2] h (some (.int y)) h := by
  refine CT.of pn_X2 (Nat.le_of_ble_eq_true rfl) ?_
  intro p e s m below meth c hr F
  have F : Fx p s m _ meth c cX2_hasDoor 4 "DustParish$Facts" 395 g B := F
  refine V_lv (lv' := [(0, .ref (gA g o)), (1, .int a1), (2, .int a2)]) rfl ?_
  unfold fX2_hasDoor at hf
  refine v_iconst (pc := 0) (v := 0) F dX2_hasDoor_0 ic_0 ?_
  refine v_istore_n (pc := 1) (lv' := [(0, .ref (gA g o)), (1, .int a1), (2, .int a2), (3, .int 0)]) F dX2_hasDoor_1 rfl (by decide) rfl ?_
  obtain ⟨x5, e6, hf⟩ := bnd_some hf
  refine tX2_hasDoor_2 (s0 := 0) ho_o hk_o F (fun v e9 => ?_) (fun v e9 => ?_) e6
  · subst e9
    have hf := sm_l hf
    refine v_iconst (pc := 20) (v := 1) F dX2_hasDoor_20 ic_1 ?_
    exact v_zret (pc := 21) F hr dX2_hasDoor_21 rfl (Option.some.inj hf) rfl (Nat.zero_le _)
  · subst e9
    have hf := sm_r hf
    refine v_iconst (pc := 28) (v := 0) F dX2_hasDoor_28 ic_0 ?_
    exact v_zret (pc := 29) F hr dX2_hasDoor_29 rfl (Option.some.inj hf) rfl (Nat.zero_le _)
def fX10_nextSeed (h : ST) (a1 : Int32) : Option (Int32) :=
  some ((a1 * 1103515245) + 12345)
set_option maxRecDepth 100000 in
set_option maxHeartbeats 4000000 in
theorem kX10_nextSeed {l : Launch} {g : GE} {B : Nat} {h : ST} {a1 : Int32} {y : Int32} (hf : fX10_nextSeed h a1 = some y) : CT l yX10_nextSeed cX10_nextSeed 1 (some .int) 1 KC 395 g B [.int a1] h (some (.int y)) h := by
  refine CT.of pn_X10 (Nat.le_of_ble_eq_true rfl) ?_
  intro p e s m below meth c hr F
  have F : Fx p s m _ meth c cX10_nextSeed 1 "DustParish" 395 g B := F
  refine V_lv (lv' := [(0, .int a1)]) rfl ?_
  unfold fX10_nextSeed at hf
  refine v_iload_n (pc := 0) (j := 0) F dX10_nextSeed_0 rfl rfl ?_
  refine v_ldcw (pc := 1) F tw_1236 dX10_nextSeed_1 ?_
  refine v_imul (pc := 4) F dX10_nextSeed_4 ?_
  refine v_sipush (pc := 5) (v := 12345) F dX10_nextSeed_5 sp_12345 ?_
  refine v_iadd (pc := 8) F dX10_nextSeed_8 ?_
  exact v_iret (pc := 9) F hr dX10_nextSeed_9 (Option.some.inj hf) rfl (Nat.zero_le _)
def fX5_clear (h : ST) (o : Nat) : Option (ST) :=
  bnd (pw h o 1 0) fun h1 =>
  some h1
set_option maxRecDepth 100000 in
set_option maxHeartbeats 4000000 in
theorem kX5_clear {l : Launch} {g : GE} {B : Nat} {h : ST} {o : Nat} (ho_o : o < 395) (hk_o : KC o = (4, 0)) {y : ST} (hf : fX5_clear h o = some y) : CT l yX5_clear cX5_clear 1 none 1 KC 395 g B [.ref (gA g o)] h none y := by
  refine CT.of pn_X5 (Nat.le_of_ble_eq_true rfl) ?_
  intro p e s m below meth c hr F
  have F : Fx p s m _ meth c cX5_clear 1 "DustParish$Rule" 395 g B := F
  refine V_lv (lv' := [(0, .ref (gA g o))]) rfl ?_
  unfold fX5_clear at hf
  refine v_aload_n (pc := 0) (j := 0) F dX5_clear_0 rfl rfl ?_
  refine v_iconst (pc := 1) (v := 0) F dX5_clear_1 ic_0 ?_
  obtain ⟨h1, e2, hf⟩ := bnd_some hf
  refine v_pfl (pc := 2) F fl_X5_15 pl_4_1 dX5_clear_2 ho_o hk_o fv_4_1 rfl rfl e2 ?_
  exact v_vret (pc := 5) F hr dX5_clear_5 (Option.some.inj hf) (Nat.zero_le _)
def fX2_clear (h : ST) (o : Nat) : Option (ST) :=
  bnd (pw h o 0 0) fun h1 =>
  bnd (pw h1 o 5 0) fun h3 =>
  bnd (pw h3 o 8 0) fun h5 =>
  bnd (pw h5 o 13 0) fun h7 =>
  bnd (pw h7 o 15 7) fun h9 =>
  bnd (pw h9 o 16 10) fun h11 =>
  bnd (fX5_clear h11 (o + 12)) fun r13 =>
  bnd (fJ7_fill_53178 r13 (o + 16) 81 (-1)) fun r15 =>
  some r15
set_option maxRecDepth 100000 in
set_option maxHeartbeats 4000000 in
theorem kX2_clear {l : Launch} {g : GE} {B : Nat} {h : ST} {o : Nat} (ho_o : o < 395) (hk_o : KC o = (1, 0)) {y : ST} (hf : fX2_clear h o = some y) : CT l yX2_clear cX2_clear 1 none 2 KC 395 g B [.ref (gA g o)] h none y := by
  refine CT.of pn_X2 (Nat.le_of_ble_eq_true rfl) ?_
  intro p e s m below meth c hr F
  have F : Fx p s m _ meth c cX2_clear 1 "DustParish$Facts" 395 g B := F
  refine V_lv (lv' := [(0, .ref (gA g o))]) rfl ?_
  unfold fX2_clear at hf
  refine v_aload_n (pc := 0) (j := 0) F dX2_clear_0 rfl rfl ?_
  refine v_iconst (pc := 1) (v := 0) F dX2_clear_1 ic_0 ?_
  obtain ⟨h1, e2, hf⟩ := bnd_some hf
  refine v_pfl (pc := 2) F fl_X2_58 pl_1_0 dX2_clear_2 ho_o hk_o fv_1_0 rfl rfl e2 ?_
  refine v_aload_n (pc := 5) (j := 0) F dX2_clear_5 rfl rfl ?_
  refine v_iconst (pc := 6) (v := 0) F dX2_clear_6 ic_0 ?_
  obtain ⟨h3, e4, hf⟩ := bnd_some hf
  refine v_pfl (pc := 7) F fl_X2_62 pl_1_5 dX2_clear_7 ho_o hk_o fv_1_5 rfl rfl e4 ?_
  refine v_aload_n (pc := 10) (j := 0) F dX2_clear_10 rfl rfl ?_
  refine v_iconst (pc := 11) (v := 0) F dX2_clear_11 ic_0 ?_
  obtain ⟨h5, e6, hf⟩ := bnd_some hf
  refine v_pfl (pc := 12) F fl_X2_65 pl_1_8 dX2_clear_12 ho_o hk_o fv_1_8 rfl rfl e6 ?_
  refine v_aload_n (pc := 15) (j := 0) F dX2_clear_15 rfl rfl ?_
  refine v_iconst (pc := 16) (v := 0) F dX2_clear_16 ic_0 ?_
  obtain ⟨h7, e8, hf⟩ := bnd_some hf
  refine v_pfl (pc := 17) F fl_X2_68 pl_1_13 dX2_clear_17 ho_o hk_o fv_1_13 rfl rfl e8 ?_
  refine v_aload_n (pc := 20) (j := 0) F dX2_clear_20 rfl rfl ?_
  refine v_bipush (pc := 21) (v := 7) F dX2_clear_21 bp_7 ?_
  obtain ⟨h9, e10, hf⟩ := bnd_some hf
  refine v_pfl (pc := 23) F fl_X2_71 pl_1_15 dX2_clear_23 ho_o hk_o fv_1_15 rfl rfl e10 ?_
  refine v_aload_n (pc := 26) (j := 0) F dX2_clear_26 rfl rfl ?_
  refine v_bipush (pc := 27) (v := 10) F dX2_clear_27 bp_10 ?_
  obtain ⟨h11, e12, hf⟩ := bnd_some hf
  refine v_pfl (pc := 29) F fl_X2_74 pl_1_16 dX2_clear_29 ho_o hk_o fv_1_16 rfl rfl e12 ?_
  refine v_aload_n (pc := 32) (j := 0) F dX2_clear_32 rfl rfl ?_
  refine v_ifl (pc := 33) F fl_X2_48 dX2_clear_33 ho_o hk_o fv_1_17 ?_
  obtain ⟨r13, e14, hf⟩ := bnd_some hf
  refine v_callVv (pc := 36) (As := []) F cl_X2_77 dX2_clear_36 (kX5_clear (ly_1_17 ho_o hk_o).1 (ly_1_17 ho_o hk_o).2 e14) (ly_1_17 ho_o hk_o).1 (ly_1_17 ho_o hk_o).2 rc_4 rfl rfl (Nat.le_of_ble_eq_true rfl) (by decide) (Nat.zero_le _) ?_
  refine v_aload_n (pc := 39) (j := 0) F dX2_clear_39 rfl rfl ?_
  refine v_ifl (pc := 40) F fl_X2_52 dX2_clear_40 ho_o hk_o fv_1_18 ?_
  refine v_iconst (pc := 43) (v := (-1)) F dX2_clear_43 ic_m1 ?_
  obtain ⟨r15, e16, hf⟩ := bnd_some hf
  refine v_callSv (pc := 44) (As := [.ref (gA g (o + 16)), .int (-1)]) F cl_X2_80 dX2_clear_44 (kJ7_fill_53178 (ly_1_18 ho_o hk_o).1 (ly_1_18 ho_o hk_o).2 e16) rfl rfl (Nat.le_of_ble_eq_true rfl) (by decide) (Nat.zero_le _) ?_
  exact v_vret (pc := 47) F hr dX2_clear_47 (Option.some.inj hf) (Nat.zero_le _)
def fX9_isBlank_17 (h : ST) (q0 : Int32) : Option (Int32) :=
  bnd (zb q0) fun z2 =>
  some z2
def fX9_isBlank_12 (h : ST)  : Option (Int32) :=
  fX9_isBlank_17 h 1
def fX9_isBlank (h : ST) (a1 : Int32) : Option (Int32) :=
  if a1 = 32 then
  fX9_isBlank_12 h 
  else
  if a1 = 10 then
    fX9_isBlank_12 h 
    else
    fX9_isBlank_17 h 0
set_option maxRecDepth 100000 in
set_option maxHeartbeats 4000000 in
theorem tX9_isBlank_17 {p : Program} {l : Launch} {e : Env} {s : State} {m : MethodId} {args : Array Value} {below : List Frame} {meth : Method} {c : Code} {g : GE} {B : Nat} {h : ST}  {q0 : Int32} (F : Fx p s m args meth c cX9_isBlank 1 "DustParish$Tokens" 395 g B)
    {y : Int32} (hr : meth.sig.returnType = (some .boolean)) (hf : fX9_isBlank_17 h q0 = some y) : V p l e 1 0 s m args below meth c (MQ below (QO KC 395 g (some (.int y)) h) args s 0 (6 * 0) (fun q => B ≤ q)) KC 395 g B 1 0 h 17 [] [.int q0] := by
  unfold fX9_isBlank_17 at hf
  obtain ⟨z2, e3, hf⟩ := bnd_some hf
  exact v_zret (pc := 17) F hr dX9_isBlank_17 (zb_in e3).2 ((zb_in e3).1.symm.trans (Option.some.inj hf)) rfl (Nat.zero_le _)
set_option maxRecDepth 100000 in
set_option maxHeartbeats 4000000 in
theorem tX9_isBlank_12 {p : Program} {l : Launch} {e : Env} {s : State} {m : MethodId} {args : Array Value} {below : List Frame} {meth : Method} {c : Code} {g : GE} {B : Nat} {h : ST}  (F : Fx p s m args meth c cX9_isBlank 1 "DustParish$Tokens" 395 g B)
    {y : Int32} (hr : meth.sig.returnType = (some .boolean)) (hf : fX9_isBlank_12 h  = some y) : V p l e 1 0 s m args below meth c (MQ below (QO KC 395 g (some (.int y)) h) args s 0 (6 * 0) (fun q => B ≤ q)) KC 395 g B 1 0 h 12 [] [] := by
  unfold fX9_isBlank_12 at hf
  refine v_iconst (pc := 12) (v := 1) F dX9_isBlank_12 ic_1 ?_
  refine v_goto (pc := 13) (tgt := 17) F dX9_isBlank_13 (by decide) ?_
  exact tX9_isBlank_17 F hr hf
set_option maxRecDepth 100000 in
set_option maxHeartbeats 4000000 in
theorem kX9_isBlank {l : Launch} {g : GE} {B : Nat} {h : ST} {a1 : Int32} {y : Int32} (hf : fX9_isBlank h a1 = some y) : CT l yX9_isBlank cX9_isBlank 1 (some .boolean) 1 KC 395 g B [.int a1] h (some (.int y)) h := by
  refine CT.of pn_X9 (Nat.le_of_ble_eq_true rfl) ?_
  intro p e s m below meth c hr F
  have F : Fx p s m _ meth c cX9_isBlank 1 "DustParish$Tokens" 395 g B := F
  refine V_lv (lv' := [(0, .int a1)]) rfl ?_
  unfold fX9_isBlank at hf
  refine v_iload_n (pc := 0) (j := 0) F dX9_isBlank_0 rfl rfl ?_
  refine v_bipush (pc := 1) (v := 32) F dX9_isBlank_1 bp_32 ?_
  refine v_icmp_eq (pc := 3) (tgt := 12) F dX9_isBlank_3 (by decide) (fun c1 => ?_) (fun c1 => ?_)
  · have hf := ite_t hf c1
    refine V.sub (lv' := []) [] rfl ?_
    exact tX9_isBlank_12 F hr hf
  · have hf := ite_f hf c1
    refine v_iload_n (pc := 6) (j := 0) F dX9_isBlank_6 rfl rfl ?_
    refine v_bipush (pc := 7) (v := 10) F dX9_isBlank_7 bp_10 ?_
    refine v_icmp_ne (pc := 9) (tgt := 16) F dX9_isBlank_9 (by decide) (fun c4 => ?_) (fun c4 => ?_)
    · have hf := ite_f hf c4
      refine v_iconst (pc := 16) (v := 0) F dX9_isBlank_16 ic_0 ?_
      refine V.sub (lv' := []) [] rfl ?_
      exact tX9_isBlank_17 F hr hf
    · have hf := ite_t hf c4
      refine V.sub (lv' := []) [] rfl ?_
      exact tX9_isBlank_12 F hr hf
def fX9_isLetter_17 (h : ST) (q0 : Int32) : Option (Int32) :=
  bnd (zb q0) fun z2 =>
  some z2
def fX9_isLetter_16 (h : ST)  : Option (Int32) :=
  fX9_isLetter_17 h 0
def fX9_isLetter (h : ST) (a1 : Int32) : Option (Int32) :=
  if a1 < 97 then
  fX9_isLetter_16 h 
  else
  if 122 < a1 then
    fX9_isLetter_16 h 
    else
    fX9_isLetter_17 h 1
set_option maxRecDepth 100000 in
set_option maxHeartbeats 4000000 in
theorem tX9_isLetter_17 {p : Program} {l : Launch} {e : Env} {s : State} {m : MethodId} {args : Array Value} {below : List Frame} {meth : Method} {c : Code} {g : GE} {B : Nat} {h : ST}  {q0 : Int32} (F : Fx p s m args meth c cX9_isLetter 1 "DustParish$Tokens" 395 g B)
    {y : Int32} (hr : meth.sig.returnType = (some .boolean)) (hf : fX9_isLetter_17 h q0 = some y) : V p l e 1 0 s m args below meth c (MQ below (QO KC 395 g (some (.int y)) h) args s 0 (6 * 0) (fun q => B ≤ q)) KC 395 g B 1 0 h 17 [] [.int q0] := by
  unfold fX9_isLetter_17 at hf
  obtain ⟨z2, e3, hf⟩ := bnd_some hf
  exact v_zret (pc := 17) F hr dX9_isLetter_17 (zb_in e3).2 ((zb_in e3).1.symm.trans (Option.some.inj hf)) rfl (Nat.zero_le _)
set_option maxRecDepth 100000 in
set_option maxHeartbeats 4000000 in
theorem tX9_isLetter_16 {p : Program} {l : Launch} {e : Env} {s : State} {m : MethodId} {args : Array Value} {below : List Frame} {meth : Method} {c : Code} {g : GE} {B : Nat} {h : ST}  (F : Fx p s m args meth c cX9_isLetter 1 "DustParish$Tokens" 395 g B)
    {y : Int32} (hr : meth.sig.returnType = (some .boolean)) (hf : fX9_isLetter_16 h  = some y) : V p l e 1 0 s m args below meth c (MQ below (QO KC 395 g (some (.int y)) h) args s 0 (6 * 0) (fun q => B ≤ q)) KC 395 g B 1 0 h 16 [] [] := by
  unfold fX9_isLetter_16 at hf
  refine v_iconst (pc := 16) (v := 0) F dX9_isLetter_16 ic_0 ?_
  exact tX9_isLetter_17 F hr hf
set_option maxRecDepth 100000 in
set_option maxHeartbeats 4000000 in
theorem kX9_isLetter {l : Launch} {g : GE} {B : Nat} {h : ST} {a1 : Int32} {y : Int32} (hf : fX9_isLetter h a1 = some y) : CT l yX9_isLetter cX9_isLetter 1 (some .boolean) 1 KC 395 g B [.int a1] h (some (.int y)) h := by
  refine CT.of pn_X9 (Nat.le_of_ble_eq_true rfl) ?_
  intro p e s m below meth c hr F
  have F : Fx p s m _ meth c cX9_isLetter 1 "DustParish$Tokens" 395 g B := F
  refine V_lv (lv' := [(0, .int a1)]) rfl ?_
  unfold fX9_isLetter at hf
  refine v_iload_n (pc := 0) (j := 0) F dX9_isLetter_0 rfl rfl ?_
  refine v_bipush (pc := 1) (v := 97) F dX9_isLetter_1 bp_97 ?_
  refine v_icmp_lt (pc := 3) (tgt := 16) F dX9_isLetter_3 (by decide) (fun c1 => ?_) (fun c1 => ?_)
  · have hf := ite_t hf c1
    refine V.sub (lv' := []) [] rfl ?_
    exact tX9_isLetter_16 F hr hf
  · have hf := ite_f hf c1
    refine v_iload_n (pc := 6) (j := 0) F dX9_isLetter_6 rfl rfl ?_
    refine v_bipush (pc := 7) (v := 122) F dX9_isLetter_7 bp_122 ?_
    refine v_icmp_gt (pc := 9) (tgt := 16) F dX9_isLetter_9 (by decide) (fun c4 => ?_) (fun c4 => ?_)
    · have hf := ite_t hf c4
      refine V.sub (lv' := []) [] rfl ?_
      exact tX9_isLetter_16 F hr hf
    · have hf := ite_f hf c4
      refine v_iconst (pc := 12) (v := 1) F dX9_isLetter_12 ic_1 ?_
      refine v_goto (pc := 13) (tgt := 17) F dX9_isLetter_13 (by decide) ?_
      refine V.sub (lv' := []) [] rfl ?_
      exact tX9_isLetter_17 F hr hf
def fX9_isDigit_17 (h : ST) (q0 : Int32) : Option (Int32) :=
  bnd (zb q0) fun z2 =>
  some z2
def fX9_isDigit_16 (h : ST)  : Option (Int32) :=
  fX9_isDigit_17 h 0
def fX9_isDigit (h : ST) (a1 : Int32) : Option (Int32) :=
  if a1 < 48 then
  fX9_isDigit_16 h 
  else
  if 57 < a1 then
    fX9_isDigit_16 h 
    else
    fX9_isDigit_17 h 1
set_option maxRecDepth 100000 in
set_option maxHeartbeats 4000000 in
theorem tX9_isDigit_17 {p : Program} {l : Launch} {e : Env} {s : State} {m : MethodId} {args : Array Value} {below : List Frame} {meth : Method} {c : Code} {g : GE} {B : Nat} {h : ST}  {q0 : Int32} (F : Fx p s m args meth c cX9_isDigit 1 "DustParish$Tokens" 395 g B)
    {y : Int32} (hr : meth.sig.returnType = (some .boolean)) (hf : fX9_isDigit_17 h q0 = some y) : V p l e 1 0 s m args below meth c (MQ below (QO KC 395 g (some (.int y)) h) args s 0 (6 * 0) (fun q => B ≤ q)) KC 395 g B 1 0 h 17 [] [.int q0] := by
  unfold fX9_isDigit_17 at hf
  obtain ⟨z2, e3, hf⟩ := bnd_some hf
  exact v_zret (pc := 17) F hr dX9_isDigit_17 (zb_in e3).2 ((zb_in e3).1.symm.trans (Option.some.inj hf)) rfl (Nat.zero_le _)
set_option maxRecDepth 100000 in
set_option maxHeartbeats 4000000 in
theorem tX9_isDigit_16 {p : Program} {l : Launch} {e : Env} {s : State} {m : MethodId} {args : Array Value} {below : List Frame} {meth : Method} {c : Code} {g : GE} {B : Nat} {h : ST}  (F : Fx p s m args meth c cX9_isDigit 1 "DustParish$Tokens" 395 g B)
    {y : Int32} (hr : meth.sig.returnType = (some .boolean)) (hf : fX9_isDigit_16 h  = some y) : V p l e 1 0 s m args below meth c (MQ below (QO KC 395 g (some (.int y)) h) args s 0 (6 * 0) (fun q => B ≤ q)) KC 395 g B 1 0 h 16 [] [] := by
  unfold fX9_isDigit_16 at hf
  refine v_iconst (pc := 16) (v := 0) F dX9_isDigit_16 ic_0 ?_
  exact tX9_isDigit_17 F hr hf
set_option maxRecDepth 100000 in
set_option maxHeartbeats 4000000 in
theorem kX9_isDigit {l : Launch} {g : GE} {B : Nat} {h : ST} {a1 : Int32} {y : Int32} (hf : fX9_isDigit h a1 = some y) : CT l yX9_isDigit cX9_isDigit 1 (some .boolean) 1 KC 395 g B [.int a1] h (some (.int y)) h := by
  refine CT.of pn_X9 (Nat.le_of_ble_eq_true rfl) ?_
  intro p e s m below meth c hr F
  have F : Fx p s m _ meth c cX9_isDigit 1 "DustParish$Tokens" 395 g B := F
  refine V_lv (lv' := [(0, .int a1)]) rfl ?_
  unfold fX9_isDigit at hf
  refine v_iload_n (pc := 0) (j := 0) F dX9_isDigit_0 rfl rfl ?_
  refine v_bipush (pc := 1) (v := 48) F dX9_isDigit_1 bp_48 ?_
  refine v_icmp_lt (pc := 3) (tgt := 16) F dX9_isDigit_3 (by decide) (fun c1 => ?_) (fun c1 => ?_)
  · have hf := ite_t hf c1
    refine V.sub (lv' := []) [] rfl ?_
    exact tX9_isDigit_16 F hr hf
  · have hf := ite_f hf c1
    refine v_iload_n (pc := 6) (j := 0) F dX9_isDigit_6 rfl rfl ?_
    refine v_bipush (pc := 7) (v := 57) F dX9_isDigit_7 bp_57 ?_
    refine v_icmp_gt (pc := 9) (tgt := 16) F dX9_isDigit_9 (by decide) (fun c4 => ?_) (fun c4 => ?_)
    · have hf := ite_t hf c4
      refine V.sub (lv' := []) [] rfl ?_
      exact tX9_isDigit_16 F hr hf
    · have hf := ite_f hf c4
      refine v_iconst (pc := 12) (v := 1) F dX9_isDigit_12 ic_1 ?_
      refine v_goto (pc := 13) (tgt := 17) F dX9_isDigit_13 (by decide) ?_
      refine V.sub (lv' := []) [] rfl ?_
      exact tX9_isDigit_17 F hr hf
def fX9_takeNumber_72 (h : ST) (q1 : Int32) : Option (ST ⊕ ST) :=
  bnd (pw h 39 2 q1) fun h10 =>
  bnd (pw h10 39 4 ((h10 39 4) + 1)) fun h12 =>
  some (.inl h12)
def fX9_takeNumber_5 (s1 : ST) : Option (ST ⊕ ST) :=
  if (s1 39 5) ≤ (s1 39 4) then
  some (.inr s1)
  else
  bnd (rd 700 (s1 1) (s1 39 4)) fun v4 =>
    bnd (fX9_isDigit s1 v4) fun r6 =>
    if r6 = 0 then
    some (.inr s1)
    else
    if 4 ≤ ((s1 39 4) - (s1 39 1)) then
      fX9_takeNumber_72 s1 (s1 39 2)
      else
      bnd (rd 700 (s1 1) (s1 39 4)) fun v14 =>
        fX9_takeNumber_72 s1 ((((s1 39 2) * 10) + v14) - 48)
def fX9_takeNumber_107 (h : ST) (q1 : Int32) : Option (ST) :=
  bnd (zb q1) fun z19 =>
  bnd (pw h 39 3 q1) fun h21 =>
  some h21
def fX9_takeNumber_88 (h : ST)  : Option (ST) :=
  if ((h 39 4) - (h 39 1)) ≤ 4 then
  fX9_takeNumber_107 h 0
  else
  fX9_takeNumber_107 h 1
def fX9_takeNumber (h : ST) : Option (ST) :=
  bnd (pw h 39 2 0) fun h1 =>
  bnd (lp FU (fX9_takeNumber_5) h1) fun x16 =>
  fX9_takeNumber_88 x16 
set_option maxRecDepth 100000 in
set_option maxHeartbeats 4000000 in
theorem tX9_takeNumber_72 {p : Program} {l : Launch} {e : Env} {s : State} {m : MethodId} {args : Array Value} {below : List Frame} {meth : Method} {c : Code} {g : GE} {B : Nat} {h : ST}  {q1 : Int32} (F : Fx p s m args meth c cX9_takeNumber 1 "DustParish$Tokens" 395 g B)
    {Q : State → Prop} {y : ST ⊕ ST} (hk : ∀ v : ST, y = Sum.inl v → V p l e 2 0 s m args below meth c Q KC 395 g B 1 0 v 5 [(0, .ref (gA g 39))] []) (hx0 : ∀ v : ST, y = Sum.inr v → V p l e 2 0 s m args below meth c Q KC 395 g B 1 0 v 88 [(0, .ref (gA g 39))] []) (hf : fX9_takeNumber_72 h q1 = some y) : V p l e 2 0 s m args below meth c Q KC 395 g B 1 0 h 72 [(0, .ref (gA g 39))] [.int q1, .ref (gA g 39)] := by
  unfold fX9_takeNumber_72 at hf
  obtain ⟨h10, e11, hf⟩ := bnd_some hf
  refine v_pfl (pc := 72) F fl_X9_16 pl_8_2 dX9_takeNumber_72 kc_39.1 kc_39.2 fv_8_2 rfl rfl e11 ?_
  refine v_aload_n (pc := 75) (j := 0) F dX9_takeNumber_75 rfl rfl ?_
  refine v_dup (pc := 76) F dX9_takeNumber_76 rfl ?_
  refine v_ifl (pc := 77) F fl_X9_23 dX9_takeNumber_77 kc_39.1 kc_39.2 fv_8_4 ?_
  refine v_iconst (pc := 80) (v := 1) F dX9_takeNumber_80 ic_1 ?_
  refine v_iadd (pc := 81) F dX9_takeNumber_81 ?_
  obtain ⟨h12, e13, hf⟩ := bnd_some hf
  refine v_pfl (pc := 82) F fl_X9_23 pl_8_4 dX9_takeNumber_82 kc_39.1 kc_39.2 fv_8_4 rfl rfl e13 ?_
  refine v_goto (pc := 85) (tgt := 5) F dX9_takeNumber_85 (by decide) ?_
  exact hk h12 (Option.some.inj hf).symm
set_option maxRecDepth 100000 in
set_option maxHeartbeats 4000000 in
theorem tX9_takeNumber_5 {p : Program} {l : Launch} {e : Env} {s : State} {m : MethodId} {args : Array Value} {below : List Frame} {meth : Method} {c : Code} {g : GE} {B : Nat}  {Q : State → Prop} {x : ST} {nf : Nat} {s0 : ST} (F : Fx p s m args meth c cX9_takeNumber 1 "DustParish$Tokens" 395 g B) (hX0 : V p l e 2 0 s m args below meth c Q KC 395 g B 1 0 x 88 [(0, .ref (gA g 39))] []) (hl : lp nf (fX9_takeNumber_5) s0 = some x) : V p l e 2 0 s m args below meth c Q KC 395 g B 1 0 s0 5 [(0, .ref (gA g 39))] [] := by
  refine lp_ind (P := fun s0 => V p l e 2 0 s m args below meth c Q KC 395 g B 1 0 s0 5 [(0, .ref (gA g 39))] []) ?_ nf s0 hl
  intro s1 y hf hk hx
  have hx0 : ∀ v : ST, y = Sum.inr v → V p l e 2 0 s m args below meth c Q KC 395 g B 1 0 v 88 [(0, .ref (gA g 39))] [] := fun v e9 => by rw [hx v e9]; exact hX0
  unfold fX9_takeNumber_5 at hf
  refine v_aload_n (pc := 5) (j := 0) F dX9_takeNumber_5 rfl rfl ?_
  refine v_ifl (pc := 6) F fl_X9_23 dX9_takeNumber_6 kc_39.1 kc_39.2 fv_8_4 ?_
  refine v_aload_n (pc := 9) (j := 0) F dX9_takeNumber_9 rfl rfl ?_
  refine v_ifl (pc := 10) F fl_X9_26 dX9_takeNumber_10 kc_39.1 kc_39.2 fv_8_5 ?_
  refine v_icmp_ge (pc := 13) (tgt := 88) F dX9_takeNumber_13 (by decide) (fun c3 => ?_) (fun c3 => ?_)
  · have hf := ite_t hf c3
    exact hx0 s1 (Option.some.inj hf).symm
  · have hf := ite_f hf c3
    refine v_aload_n (pc := 16) (j := 0) F dX9_takeNumber_16 rfl rfl ?_
    refine v_ifl (pc := 17) F fl_X9_29 dX9_takeNumber_17 kc_39.1 kc_39.2 fv_8_6 ?_
    refine v_aload_n (pc := 20) (j := 0) F dX9_takeNumber_20 rfl rfl ?_
    refine v_ifl (pc := 21) F fl_X9_23 dX9_takeNumber_21 kc_39.1 kc_39.2 fv_8_4 ?_
    obtain ⟨v4, e5, hf⟩ := bnd_some hf
    refine v_bald (pc := 24) F dX9_takeNumber_24 kc_1.1 kc_1.2 e5 ?_
    obtain ⟨r6, e7, hf⟩ := bnd_some hf
    refine v_callSi (pc := 25) (As := [.int v4]) F cl_X9_49 dX9_takeNumber_25 (kX9_isDigit e7) rfl rfl (Nat.le_of_ble_eq_true rfl) (by decide) (Nat.zero_le _) ?_
    refine v_if_eq (pc := 28) (tgt := 88) F dX9_takeNumber_28 (by decide) (fun c8 => ?_) (fun c8 => ?_)
    · have hf := ite_t hf c8
      exact hx0 s1 (Option.some.inj hf).symm
    · have hf := ite_f hf c8
      refine v_aload_n (pc := 31) (j := 0) F dX9_takeNumber_31 rfl rfl ?_
      refine v_aload_n (pc := 32) (j := 0) F dX9_takeNumber_32 rfl rfl ?_
      refine v_ifl (pc := 33) F fl_X9_23 dX9_takeNumber_33 kc_39.1 kc_39.2 fv_8_4 ?_
      refine v_aload_n (pc := 36) (j := 0) F dX9_takeNumber_36 rfl rfl ?_
      refine v_ifl (pc := 37) F fl_X9_13 dX9_takeNumber_37 kc_39.1 kc_39.2 fv_8_1 ?_
      refine v_isub (pc := 40) F dX9_takeNumber_40 ?_
      refine v_iconst (pc := 41) (v := 4) F dX9_takeNumber_41 ic_4 ?_
      refine v_icmp_ge (pc := 42) (tgt := 68) F dX9_takeNumber_42 (by decide) (fun c9 => ?_) (fun c9 => ?_)
      · have hf := ite_t hf c9
        refine v_aload_n (pc := 68) (j := 0) F dX9_takeNumber_68 rfl rfl ?_
        refine v_ifl (pc := 69) F fl_X9_16 dX9_takeNumber_69 kc_39.1 kc_39.2 fv_8_2 ?_
        exact tX9_takeNumber_72 F hk hx0 hf
      · have hf := ite_f hf c9
        refine v_aload_n (pc := 45) (j := 0) F dX9_takeNumber_45 rfl rfl ?_
        refine v_ifl (pc := 46) F fl_X9_16 dX9_takeNumber_46 kc_39.1 kc_39.2 fv_8_2 ?_
        refine v_bipush (pc := 49) (v := 10) F dX9_takeNumber_49 bp_10 ?_
        refine v_imul (pc := 51) F dX9_takeNumber_51 ?_
        refine v_aload_n (pc := 52) (j := 0) F dX9_takeNumber_52 rfl rfl ?_
        refine v_ifl (pc := 53) F fl_X9_29 dX9_takeNumber_53 kc_39.1 kc_39.2 fv_8_6 ?_
        refine v_aload_n (pc := 56) (j := 0) F dX9_takeNumber_56 rfl rfl ?_
        refine v_ifl (pc := 57) F fl_X9_23 dX9_takeNumber_57 kc_39.1 kc_39.2 fv_8_4 ?_
        obtain ⟨v14, e15, hf⟩ := bnd_some hf
        refine v_bald (pc := 60) F dX9_takeNumber_60 kc_1.1 kc_1.2 e15 ?_
        refine v_iadd (pc := 61) F dX9_takeNumber_61 ?_
        refine v_bipush (pc := 62) (v := 48) F dX9_takeNumber_62 bp_48 ?_
        refine v_isub (pc := 64) F dX9_takeNumber_64 ?_
        refine v_goto (pc := 65) (tgt := 72) F dX9_takeNumber_65 (by decide) ?_
        exact tX9_takeNumber_72 F hk hx0 hf
set_option maxRecDepth 100000 in
set_option maxHeartbeats 4000000 in
theorem tX9_takeNumber_107 {p : Program} {l : Launch} {e : Env} {s : State} {m : MethodId} {args : Array Value} {below : List Frame} {meth : Method} {c : Code} {g : GE} {B : Nat} {h : ST}  {q1 : Int32} (F : Fx p s m args meth c cX9_takeNumber 1 "DustParish$Tokens" 395 g B)
    {y : ST} (hr : meth.sig.returnType = none) (hf : fX9_takeNumber_107 h q1 = some y) : V p l e 2 0 s m args below meth c (MQ below (QO KC 395 g none y) args s 0 (6 * 0) (fun q => B ≤ q)) KC 395 g B 1 0 h 107 [] [.int q1, .ref (gA g 39)] := by
  unfold fX9_takeNumber_107 at hf
  obtain ⟨z19, e20, hf⟩ := bnd_some hf
  obtain ⟨h21, e22, hf⟩ := bnd_some hf
  refine v_pfl (pc := 107) F fl_X9_19 pl_8_3 dX9_takeNumber_107 kc_39.1 kc_39.2 fv_8_3 (zb_in e20).2 (zb_fit e20) e22 ?_
  exact v_vret (pc := 110) F hr dX9_takeNumber_110 (Option.some.inj hf) (Nat.zero_le _)
set_option maxRecDepth 100000 in
set_option maxHeartbeats 4000000 in
theorem tX9_takeNumber_88 {p : Program} {l : Launch} {e : Env} {s : State} {m : MethodId} {args : Array Value} {below : List Frame} {meth : Method} {c : Code} {g : GE} {B : Nat} {h : ST}  (F : Fx p s m args meth c cX9_takeNumber 1 "DustParish$Tokens" 395 g B)
    {y : ST} (hr : meth.sig.returnType = none) (hf : fX9_takeNumber_88 h  = some y) : V p l e 2 0 s m args below meth c (MQ below (QO KC 395 g none y) args s 0 (6 * 0) (fun q => B ≤ q)) KC 395 g B 1 0 h 88 [(0, .ref (gA g 39))] [] := by
  unfold fX9_takeNumber_88 at hf
  refine v_aload_n (pc := 88) (j := 0) F dX9_takeNumber_88 rfl rfl ?_
  refine v_aload_n (pc := 89) (j := 0) F dX9_takeNumber_89 rfl rfl ?_
  refine v_ifl (pc := 90) F fl_X9_23 dX9_takeNumber_90 kc_39.1 kc_39.2 fv_8_4 ?_
  refine v_aload_n (pc := 93) (j := 0) F dX9_takeNumber_93 rfl rfl ?_
  refine v_ifl (pc := 94) F fl_X9_13 dX9_takeNumber_94 kc_39.1 kc_39.2 fv_8_1 ?_
  refine v_isub (pc := 97) F dX9_takeNumber_97 ?_
  refine v_iconst (pc := 98) (v := 4) F dX9_takeNumber_98 ic_4 ?_
  refine v_icmp_le (pc := 99) (tgt := 106) F dX9_takeNumber_99 (by decide) (fun c18 => ?_) (fun c18 => ?_)
  · have hf := ite_t hf c18
    refine v_iconst (pc := 106) (v := 0) F dX9_takeNumber_106 ic_0 ?_
    refine V.sub (lv' := []) [] rfl ?_
    exact tX9_takeNumber_107 F hr hf
  · have hf := ite_f hf c18
    refine v_iconst (pc := 102) (v := 1) F dX9_takeNumber_102 ic_1 ?_
    refine v_goto (pc := 103) (tgt := 107) F dX9_takeNumber_103 (by decide) ?_
    refine V.sub (lv' := []) [] rfl ?_
    exact tX9_takeNumber_107 F hr hf
set_option maxRecDepth 100000 in
set_option maxHeartbeats 4000000 in
theorem kX9_takeNumber {l : Launch} {g : GE} {B : Nat} {h : ST} {y : ST} (hf : fX9_takeNumber h = some y) : CT l yX9_takeNumber cX9_takeNumber 1 none 2 KC 395 g B [.ref (gA g 39)] h none y := by
  refine CT.of pn_X9 (Nat.le_of_ble_eq_true rfl) ?_
  intro p e s m below meth c hr F
  have F : Fx p s m _ meth c cX9_takeNumber 1 "DustParish$Tokens" 395 g B := F
  refine V_lv (lv' := [(0, .ref (gA g 39))]) rfl ?_
  unfold fX9_takeNumber at hf
  refine v_aload_n (pc := 0) (j := 0) F dX9_takeNumber_0 rfl rfl ?_
  refine v_iconst (pc := 1) (v := 0) F dX9_takeNumber_1 ic_0 ?_
  obtain ⟨h1, e2, hf⟩ := bnd_some hf
  refine v_pfl (pc := 2) F fl_X9_16 pl_8_2 dX9_takeNumber_2 kc_39.1 kc_39.2 fv_8_2 rfl rfl e2 ?_
  obtain ⟨x16, e17, hf⟩ := bnd_some hf
  refine tX9_takeNumber_5 (s0 := h1) F ?_ e17
  exact tX9_takeNumber_88 F hr hf
def fX4_lookAtNumber_28 (h : ST) (q0 : Int32) : Option (Int32) :=
  some q0
def fX4_lookAtNumber (h : ST) : Option (Int32) :=
  if (h 39 0) = 2 then
  if (h 39 3) = 0 then
    fX4_lookAtNumber_28 h 0
    else
    fX4_lookAtNumber_28 h 2
  else
  some 1
set_option maxRecDepth 100000 in
set_option maxHeartbeats 4000000 in
theorem tX4_lookAtNumber_28 {p : Program} {l : Launch} {e : Env} {s : State} {m : MethodId} {args : Array Value} {below : List Frame} {meth : Method} {c : Code} {g : GE} {B : Nat} {h : ST}  {q0 : Int32} (F : Fx p s m args meth c cX4_lookAtNumber 1 "DustParish$Reader" 395 g B)
    {y : Int32} (hr : meth.sig.returnType = (some .int)) (hf : fX4_lookAtNumber_28 h q0 = some y) : V p l e 1 0 s m args below meth c (MQ below (QO KC 395 g (some (.int y)) h) args s 0 (6 * 0) (fun q => B ≤ q)) KC 395 g B 1 0 h 28 [] [.int q0] := by
  unfold fX4_lookAtNumber_28 at hf
  exact v_iret (pc := 28) F hr dX4_lookAtNumber_28 (Option.some.inj hf) rfl (Nat.zero_le _)
set_option maxRecDepth 100000 in
set_option maxHeartbeats 4000000 in
theorem kX4_lookAtNumber {l : Launch} {g : GE} {B : Nat} {h : ST} {y : Int32} (hf : fX4_lookAtNumber h = some y) : CT l yX4_lookAtNumber cX4_lookAtNumber 1 (some .int) 1 KC 395 g B [.ref (gA g 38)] h (some (.int y)) h := by
  refine CT.of pn_X4 (Nat.le_of_ble_eq_true rfl) ?_
  intro p e s m below meth c hr F
  have F : Fx p s m _ meth c cX4_lookAtNumber 1 "DustParish$Reader" 395 g B := F
  refine V_lv (lv' := [(0, .ref (gA g 38))]) rfl ?_
  unfold fX4_lookAtNumber at hf
  refine v_aload_n (pc := 0) (j := 0) F dX4_lookAtNumber_0 rfl rfl ?_
  refine v_ifl (pc := 1) F fl_X4_33 dX4_lookAtNumber_1 kc_38.1 kc_38.2 fv_3_0 ?_
  refine v_ifl (pc := 4) F fl_X4_66 dX4_lookAtNumber_4 kc_39.1 kc_39.2 fv_8_0 ?_
  refine v_iconst (pc := 7) (v := 2) F dX4_lookAtNumber_7 ic_2 ?_
  refine v_icmp_eq (pc := 8) (tgt := 13) F dX4_lookAtNumber_8 (by decide) (fun c1 => ?_) (fun c1 => ?_)
  · have hf := ite_t hf c1
    refine v_aload_n (pc := 13) (j := 0) F dX4_lookAtNumber_13 rfl rfl ?_
    refine v_ifl (pc := 14) F fl_X4_33 dX4_lookAtNumber_14 kc_38.1 kc_38.2 fv_3_0 ?_
    refine v_ifl (pc := 17) F fl_X4_139 dX4_lookAtNumber_17 kc_39.1 kc_39.2 fv_8_3 ?_
    refine v_if_eq (pc := 20) (tgt := 27) F dX4_lookAtNumber_20 (by decide) (fun c2 => ?_) (fun c2 => ?_)
    · have hf := ite_t hf c2
      refine v_iconst (pc := 27) (v := 0) F dX4_lookAtNumber_27 ic_0 ?_
      refine V.sub (lv' := []) [] rfl ?_
      exact tX4_lookAtNumber_28 F hr hf
    · have hf := ite_f hf c2
      refine v_iconst (pc := 23) (v := 2) F dX4_lookAtNumber_23 ic_2 ?_
      refine v_goto (pc := 24) (tgt := 28) F dX4_lookAtNumber_24 (by decide) ?_
      refine V.sub (lv' := []) [] rfl ?_
      exact tX4_lookAtNumber_28 F hr hf
  · have hf := ite_f hf c1
    refine v_iconst (pc := 11) (v := 1) F dX4_lookAtNumber_11 ic_1 ?_
    exact v_iret (pc := 12) F hr dX4_lookAtNumber_12 (Option.some.inj hf) rfl (Nat.zero_le _)
def fX4_lookAtRoomNumber_31 (h : ST) (q0 : Int32) : Option (Int32) :=
  some q0
def fX4_lookAtRoomNumber_30 (h : ST) (l1 : Int32) : Option (Int32) :=
  fX4_lookAtRoomNumber_31 h l1
def fX4_lookAtRoomNumber (h : ST) : Option (Int32) :=
  bnd (fX4_lookAtNumber h) fun r1 =>
  if r1 = 0 then
  bnd (rf KC 395 1 (h 38 2)) fun f4 =>
    if (h 39 2) < (h f4 0) then
    fX4_lookAtRoomNumber_30 h r1
    else
    fX4_lookAtRoomNumber_31 h 3
  else
  fX4_lookAtRoomNumber_30 h r1
set_option maxRecDepth 100000 in
set_option maxHeartbeats 4000000 in
theorem tX4_lookAtRoomNumber_31 {p : Program} {l : Launch} {e : Env} {s : State} {m : MethodId} {args : Array Value} {below : List Frame} {meth : Method} {c : Code} {g : GE} {B : Nat} {h : ST}  {q0 : Int32} (F : Fx p s m args meth c cX4_lookAtRoomNumber 2 "DustParish$Reader" 395 g B)
    {y : Int32} (hr : meth.sig.returnType = (some .int)) (hf : fX4_lookAtRoomNumber_31 h q0 = some y) : V p l e 2 0 s m args below meth c (MQ below (QO KC 395 g (some (.int y)) h) args s 0 (6 * 0) (fun q => B ≤ q)) KC 395 g B 2 0 h 31 [] [.int q0] := by
  unfold fX4_lookAtRoomNumber_31 at hf
  exact v_iret (pc := 31) F hr dX4_lookAtRoomNumber_31 (Option.some.inj hf) rfl (Nat.zero_le _)
set_option maxRecDepth 100000 in
set_option maxHeartbeats 4000000 in
theorem tX4_lookAtRoomNumber_30 {p : Program} {l : Launch} {e : Env} {s : State} {m : MethodId} {args : Array Value} {below : List Frame} {meth : Method} {c : Code} {g : GE} {B : Nat} {h : ST}  {l1 : Int32} (F : Fx p s m args meth c cX4_lookAtRoomNumber 2 "DustParish$Reader" 395 g B)
    {y : Int32} (hr : meth.sig.returnType = (some .int)) (hf : fX4_lookAtRoomNumber_30 h l1 = some y) : V p l e 2 0 s m args below meth c (MQ below (QO KC 395 g (some (.int y)) h) args s 0 (6 * 0) (fun q => B ≤ q)) KC 395 g B 2 0 h 30 [(1, .int l1)] [] := by
  unfold fX4_lookAtRoomNumber_30 at hf
  refine v_iload_n (pc := 30) (j := 0) F dX4_lookAtRoomNumber_30 rfl rfl ?_
  refine V.sub (lv' := []) [] rfl ?_
  exact tX4_lookAtRoomNumber_31 F hr hf
set_option maxRecDepth 100000 in
set_option maxHeartbeats 4000000 in
theorem kX4_lookAtRoomNumber {l : Launch} {g : GE} {B : Nat} {h : ST} {y : Int32} (hf : fX4_lookAtRoomNumber h = some y) : CT l yX4_lookAtRoomNumber cX4_lookAtRoomNumber 2 (some .int) 2 KC 395 g B [.ref (gA g 38)] h (some (.int y)) h := by
  refine CT.of pn_X4 (Nat.le_of_ble_eq_true rfl) ?_
  intro p e s m below meth c hr F
  have F : Fx p s m _ meth c cX4_lookAtRoomNumber 2 "DustParish$Reader" 395 g B := F
  refine V_lv (lv' := [(0, .ref (gA g 38))]) rfl ?_
  unfold fX4_lookAtRoomNumber at hf
  refine v_aload_n (pc := 0) (j := 0) F dX4_lookAtRoomNumber_0 rfl rfl ?_
  obtain ⟨r1, e2, hf⟩ := bnd_some hf
  refine v_callVi (pc := 1) (As := []) F cl_X4_130 dX4_lookAtRoomNumber_1 (kX4_lookAtNumber e2) kc_38.1 kc_38.2 rc_3 rfl rfl (Nat.le_of_ble_eq_true rfl) (by decide) (Nat.zero_le _) ?_
  refine v_istore_n (pc := 4) (lv' := [(0, .ref (gA g 38)), (1, .int r1)]) F dX4_lookAtRoomNumber_4 rfl (by decide) rfl ?_
  refine v_iload_n (pc := 5) (j := 1) F dX4_lookAtRoomNumber_5 rfl rfl ?_
  refine v_if_ne (pc := 6) (tgt := 30) F dX4_lookAtRoomNumber_6 (by decide) (fun c3 => ?_) (fun c3 => ?_)
  · have hf := ite_f hf c3
    refine V.sub (lv' := [(1, .int r1)]) [1] rfl ?_
    exact tX4_lookAtRoomNumber_30 F hr hf
  · have hf := ite_t hf c3
    refine v_aload_n (pc := 9) (j := 0) F dX4_lookAtRoomNumber_9 rfl rfl ?_
    refine v_ifl (pc := 10) F fl_X4_33 dX4_lookAtRoomNumber_10 kc_38.1 kc_38.2 fv_3_0 ?_
    refine v_ifl (pc := 13) F fl_X4_133 dX4_lookAtRoomNumber_13 kc_39.1 kc_39.2 fv_8_2 ?_
    refine v_aload_n (pc := 16) (j := 0) F dX4_lookAtRoomNumber_16 rfl rfl ?_
    obtain ⟨f4, e5, hf⟩ := bnd_some hf
    obtain ⟨ho_f4, hk_f4, e5⟩ := rf_in e5
    refine v_ifl (pc := 17) F fl_X4_52 dX4_lookAtRoomNumber_17 kc_38.1 kc_38.2 (fv_3_2 e5) ?_
    refine v_ifl (pc := 20) F fl_X4_142 dX4_lookAtRoomNumber_20 ho_f4 hk_f4 fv_1_0 ?_
    refine v_icmp_lt (pc := 23) (tgt := 30) F dX4_lookAtRoomNumber_23 (by decide) (fun c6 => ?_) (fun c6 => ?_)
    · have hf := ite_t hf c6
      refine V.sub (lv' := [(1, .int r1)]) [1] rfl ?_
      exact tX4_lookAtRoomNumber_30 F hr hf
    · have hf := ite_f hf c6
      refine v_iconst (pc := 26) (v := 3) F dX4_lookAtRoomNumber_26 ic_3 ?_
      refine v_goto (pc := 27) (tgt := 31) F dX4_lookAtRoomNumber_27 (by decide) ?_
      refine V.sub (lv' := []) [] rfl ?_
      exact tX4_lookAtRoomNumber_31 F hr hf
def fX2_addDoor_63 (h : ST)  : Option (ST) :=
  some h
def fX2_addDoor (h : ST) (o : Nat) (a1 : Int32) (a2 : Int32) (a3 : Int32) : Option (ST) :=
  if 14 ≤ (h o 5) then
  fX2_addDoor_63 h 
  else
  bnd (wr 14 h (o + 5) (h o 5) a1) fun h2 =>
    bnd (wr 14 h2 (o + 6) (h2 o 5) a2) fun h4 =>
    bnd (wr 81 h4 (o + 16) ((a1 * 9) + a2) a3) fun h6 =>
    bnd (wr 81 h6 (o + 16) ((a2 * 9) + a1) a3) fun h8 =>
    bnd (pw h8 o 5 ((h8 o 5) + 1)) fun h10 =>
    fX2_addDoor_63 h10 
set_option maxRecDepth 100000 in
set_option maxHeartbeats 4000000 in
theorem tX2_addDoor_63 {p : Program} {l : Launch} {e : Env} {s : State} {m : MethodId} {args : Array Value} {below : List Frame} {meth : Method} {c : Code} {g : GE} {B : Nat} {h : ST}  (F : Fx p s m args meth c cX2_addDoor 4 "DustParish$Facts" 395 g B)
    {y : ST} (hr : meth.sig.returnType = none) (hf : fX2_addDoor_63 h  = some y) : V p l e 1 0 s m args below meth c (MQ below (QO KC 395 g none y) args s 0 (6 * 0) (fun q => B ≤ q)) KC 395 g B 4 0 h 63 [] [] := by
  unfold fX2_addDoor_63 at hf
  exact v_vret (pc := 63) F hr dX2_addDoor_63 (Option.some.inj hf) (Nat.zero_le _)
set_option maxRecDepth 100000 in
set_option maxHeartbeats 4000000 in
theorem kX2_addDoor {l : Launch} {g : GE} {B : Nat} {h : ST} {o : Nat} (ho_o : o < 395) (hk_o : KC o = (1, 0)) {a1 : Int32} {a2 : Int32} {a3 : Int32} {y : ST} (hf : fX2_addDoor h o a1 a2 a3 = some y) : CT l yX2_addDoor cX2_addDoor 4 none 1 KC 395 g B [.ref (gA g o), .int a1, .int a2, .int a3] h none y := by
  refine CT.of pn_X2 (Nat.le_of_ble_eq_true rfl) ?_
  intro p e s m below meth c hr F
  have F : Fx p s m _ meth c cX2_addDoor 4 "DustParish$Facts" 395 g B := F
  refine V_lv (lv' := [(0, .ref (gA g o)), (1, .int a1), (2, .int a2), (3, .int a3)]) rfl ?_
  unfold fX2_addDoor at hf
  refine v_aload_n (pc := 0) (j := 0) F dX2_addDoor_0 rfl rfl ?_
  refine v_ifl (pc := 1) F fl_X2_62 dX2_addDoor_1 ho_o hk_o fv_1_5 ?_
  refine v_bipush (pc := 4) (v := 14) F dX2_addDoor_4 bp_14 ?_
  refine v_icmp_ge (pc := 6) (tgt := 63) F dX2_addDoor_6 (by decide) (fun c1 => ?_) (fun c1 => ?_)
  · have hf := ite_t hf c1
    refine V.sub (lv' := []) [] rfl ?_
    exact tX2_addDoor_63 F hr hf
  · have hf := ite_f hf c1
    refine v_aload_n (pc := 9) (j := 0) F dX2_addDoor_9 rfl rfl ?_
    refine v_ifl (pc := 10) F fl_X2_24 dX2_addDoor_10 ho_o hk_o fv_1_6 ?_
    refine v_aload_n (pc := 13) (j := 0) F dX2_addDoor_13 rfl rfl ?_
    refine v_ifl (pc := 14) F fl_X2_62 dX2_addDoor_14 ho_o hk_o fv_1_5 ?_
    refine v_iload_n (pc := 17) (j := 1) F dX2_addDoor_17 rfl rfl ?_
    obtain ⟨h2, e3, hf⟩ := bnd_some hf
    refine v_iast (pc := 18) F dX2_addDoor_18 (ly_1_6 ho_o hk_o).1 (ly_1_6 ho_o hk_o).2 e3 ?_
    refine v_aload_n (pc := 19) (j := 0) F dX2_addDoor_19 rfl rfl ?_
    refine v_ifl (pc := 20) F fl_X2_27 dX2_addDoor_20 ho_o hk_o fv_1_7 ?_
    refine v_aload_n (pc := 23) (j := 0) F dX2_addDoor_23 rfl rfl ?_
    refine v_ifl (pc := 24) F fl_X2_62 dX2_addDoor_24 ho_o hk_o fv_1_5 ?_
    refine v_iload_n (pc := 27) (j := 2) F dX2_addDoor_27 rfl rfl ?_
    obtain ⟨h4, e5, hf⟩ := bnd_some hf
    refine v_iast (pc := 28) F dX2_addDoor_28 (ly_1_7 ho_o hk_o).1 (ly_1_7 ho_o hk_o).2 e5 ?_
    refine v_aload_n (pc := 29) (j := 0) F dX2_addDoor_29 rfl rfl ?_
    refine v_ifl (pc := 30) F fl_X2_52 dX2_addDoor_30 ho_o hk_o fv_1_18 ?_
    refine v_iload_n (pc := 33) (j := 1) F dX2_addDoor_33 rfl rfl ?_
    refine v_bipush (pc := 34) (v := 9) F dX2_addDoor_34 bp_9 ?_
    refine v_imul (pc := 36) F dX2_addDoor_36 ?_
    refine v_iload_n (pc := 37) (j := 2) F dX2_addDoor_37 rfl rfl ?_
    refine v_iadd (pc := 38) F dX2_addDoor_38 ?_
    refine v_iload_n (pc := 39) (j := 3) F dX2_addDoor_39 rfl rfl ?_
    obtain ⟨h6, e7, hf⟩ := bnd_some hf
    refine v_iast (pc := 40) F dX2_addDoor_40 (ly_1_18 ho_o hk_o).1 (ly_1_18 ho_o hk_o).2 e7 ?_
    refine v_aload_n (pc := 41) (j := 0) F dX2_addDoor_41 rfl rfl ?_
    refine v_ifl (pc := 42) F fl_X2_52 dX2_addDoor_42 ho_o hk_o fv_1_18 ?_
    refine v_iload_n (pc := 45) (j := 2) F dX2_addDoor_45 rfl rfl ?_
    refine v_bipush (pc := 46) (v := 9) F dX2_addDoor_46 bp_9 ?_
    refine v_imul (pc := 48) F dX2_addDoor_48 ?_
    refine v_iload_n (pc := 49) (j := 1) F dX2_addDoor_49 rfl rfl ?_
    refine v_iadd (pc := 50) F dX2_addDoor_50 ?_
    refine v_iload_n (pc := 51) (j := 3) F dX2_addDoor_51 rfl rfl ?_
    obtain ⟨h8, e9, hf⟩ := bnd_some hf
    refine v_iast (pc := 52) F dX2_addDoor_52 (ly_1_18 ho_o hk_o).1 (ly_1_18 ho_o hk_o).2 e9 ?_
    refine v_aload_n (pc := 53) (j := 0) F dX2_addDoor_53 rfl rfl ?_
    refine v_dup (pc := 54) F dX2_addDoor_54 rfl ?_
    refine v_ifl (pc := 55) F fl_X2_62 dX2_addDoor_55 ho_o hk_o fv_1_5 ?_
    refine v_iconst (pc := 58) (v := 1) F dX2_addDoor_58 ic_1 ?_
    refine v_iadd (pc := 59) F dX2_addDoor_59 ?_
    obtain ⟨h10, e11, hf⟩ := bnd_some hf
    refine v_pfl (pc := 60) F fl_X2_62 pl_1_5 dX2_addDoor_60 ho_o hk_o fv_1_5 rfl rfl e11 ?_
    refine V.sub (lv' := []) [] rfl ?_
    exact tX2_addDoor_63 F hr hf
def fX6_wantPart (h : ST) : Option (ST) :=
  bnd (pw h 40 4 1) fun h1 =>
  bnd (pw h1 40 5 0) fun h3 =>
  some h3
set_option maxRecDepth 100000 in
set_option maxHeartbeats 4000000 in
theorem kX6_wantPart {l : Launch} {g : GE} {B : Nat} {h : ST} {y : ST} (hf : fX6_wantPart h = some y) : CT l yX6_wantPart cX6_wantPart 1 none 1 KC 395 g B [.ref (gA g 40)] h none y := by
  refine CT.of pn_X6 (Nat.le_of_ble_eq_true rfl) ?_
  intro p e s m below meth c hr F
  have F : Fx p s m _ meth c cX6_wantPart 1 "DustParish$RuleReader" 395 g B := F
  refine V_lv (lv' := [(0, .ref (gA g 40))]) rfl ?_
  unfold fX6_wantPart at hf
  refine v_aload_n (pc := 0) (j := 0) F dX6_wantPart_0 rfl rfl ?_
  refine v_iconst (pc := 1) (v := 1) F dX6_wantPart_1 ic_1 ?_
  obtain ⟨h1, e2, hf⟩ := bnd_some hf
  refine v_pfl (pc := 2) F fl_X6_25 pl_5_4 dX6_wantPart_2 kc_40.1 kc_40.2 fv_5_4 rfl rfl e2 ?_
  refine v_aload_n (pc := 5) (j := 0) F dX6_wantPart_5 rfl rfl ?_
  refine v_iconst (pc := 6) (v := 0) F dX6_wantPart_6 ic_0 ?_
  obtain ⟨h3, e4, hf⟩ := bnd_some hf
  refine v_pfl (pc := 7) F fl_X6_29 pl_5_5 dX6_wantPart_7 kc_40.1 kc_40.2 fv_5_5 rfl rfl e4 ?_
  exact v_vret (pc := 10) F hr dX6_wantPart_10 (Option.some.inj hf) (Nat.zero_le _)
def fX6_wantNot (h : ST) : Option (ST) :=
  bnd (fX6_wantPart h) fun r1 =>
  bnd (pw r1 40 5 1) fun h3 =>
  bnd (pw h3 40 3 0) fun h5 =>
  some h5
set_option maxRecDepth 100000 in
set_option maxHeartbeats 4000000 in
theorem kX6_wantNot {l : Launch} {g : GE} {B : Nat} {h : ST} {y : ST} (hf : fX6_wantNot h = some y) : CT l yX6_wantNot cX6_wantNot 1 none 2 KC 395 g B [.ref (gA g 40)] h none y := by
  refine CT.of pn_X6 (Nat.le_of_ble_eq_true rfl) ?_
  intro p e s m below meth c hr F
  have F : Fx p s m _ meth c cX6_wantNot 1 "DustParish$RuleReader" 395 g B := F
  refine V_lv (lv' := [(0, .ref (gA g 40))]) rfl ?_
  unfold fX6_wantNot at hf
  refine v_aload_n (pc := 0) (j := 0) F dX6_wantNot_0 rfl rfl ?_
  obtain ⟨r1, e2, hf⟩ := bnd_some hf
  refine v_callVv (pc := 1) (As := []) F cl_X6_63 dX6_wantNot_1 (kX6_wantPart e2) kc_40.1 kc_40.2 rc_5 rfl rfl (Nat.le_of_ble_eq_true rfl) (by decide) (Nat.zero_le _) ?_
  refine v_aload_n (pc := 4) (j := 0) F dX6_wantNot_4 rfl rfl ?_
  refine v_iconst (pc := 5) (v := 1) F dX6_wantNot_5 ic_1 ?_
  obtain ⟨h3, e4, hf⟩ := bnd_some hf
  refine v_pfl (pc := 6) F fl_X6_29 pl_5_5 dX6_wantNot_6 kc_40.1 kc_40.2 fv_5_5 rfl rfl e4 ?_
  refine v_aload_n (pc := 9) (j := 0) F dX6_wantNot_9 rfl rfl ?_
  refine v_iconst (pc := 10) (v := 0) F dX6_wantNot_10 ic_0 ?_
  obtain ⟨h5, e6, hf⟩ := bnd_some hf
  refine v_pfl (pc := 11) F fl_X6_22 pl_5_3 dX6_wantNot_11 kc_40.1 kc_40.2 fv_5_3 rfl rfl e6 ?_
  exact v_vret (pc := 14) F hr dX6_wantNot_14 (Option.some.inj hf) (Nat.zero_le _)
def fX9_isSign_26 (h : ST) (q0 : Int32) : Option (Int32) :=
  bnd (zb q0) fun z2 =>
  some z2
def fX9_isSign_25 (h : ST)  : Option (Int32) :=
  fX9_isSign_26 h 0
def fX9_isSign (h : ST) (a1 : Int32) : Option (Int32) :=
  if (h 39 0) = 3 then
  bnd (rd 700 (h 1) (h 39 1)) fun v4 =>
    if v4 = a1 then
    fX9_isSign_26 h 1
    else
    fX9_isSign_25 h 
  else
  fX9_isSign_25 h 
set_option maxRecDepth 100000 in
set_option maxHeartbeats 4000000 in
theorem tX9_isSign_26 {p : Program} {l : Launch} {e : Env} {s : State} {m : MethodId} {args : Array Value} {below : List Frame} {meth : Method} {c : Code} {g : GE} {B : Nat} {h : ST}  {q0 : Int32} (F : Fx p s m args meth c cX9_isSign 2 "DustParish$Tokens" 395 g B)
    {y : Int32} (hr : meth.sig.returnType = (some .boolean)) (hf : fX9_isSign_26 h q0 = some y) : V p l e 1 0 s m args below meth c (MQ below (QO KC 395 g (some (.int y)) h) args s 0 (6 * 0) (fun q => B ≤ q)) KC 395 g B 2 0 h 26 [] [.int q0] := by
  unfold fX9_isSign_26 at hf
  obtain ⟨z2, e3, hf⟩ := bnd_some hf
  exact v_zret (pc := 26) F hr dX9_isSign_26 (zb_in e3).2 ((zb_in e3).1.symm.trans (Option.some.inj hf)) rfl (Nat.zero_le _)
set_option maxRecDepth 100000 in
set_option maxHeartbeats 4000000 in
theorem tX9_isSign_25 {p : Program} {l : Launch} {e : Env} {s : State} {m : MethodId} {args : Array Value} {below : List Frame} {meth : Method} {c : Code} {g : GE} {B : Nat} {h : ST}  (F : Fx p s m args meth c cX9_isSign 2 "DustParish$Tokens" 395 g B)
    {y : Int32} (hr : meth.sig.returnType = (some .boolean)) (hf : fX9_isSign_25 h  = some y) : V p l e 1 0 s m args below meth c (MQ below (QO KC 395 g (some (.int y)) h) args s 0 (6 * 0) (fun q => B ≤ q)) KC 395 g B 2 0 h 25 [] [] := by
  unfold fX9_isSign_25 at hf
  refine v_iconst (pc := 25) (v := 0) F dX9_isSign_25 ic_0 ?_
  exact tX9_isSign_26 F hr hf
set_option maxRecDepth 100000 in
set_option maxHeartbeats 4000000 in
theorem kX9_isSign {l : Launch} {g : GE} {B : Nat} {h : ST} {a1 : Int32} {y : Int32} (hf : fX9_isSign h a1 = some y) : CT l yX9_isSign cX9_isSign 2 (some .boolean) 1 KC 395 g B [.ref (gA g 39), .int a1] h (some (.int y)) h := by
  refine CT.of pn_X9 (Nat.le_of_ble_eq_true rfl) ?_
  intro p e s m below meth c hr F
  have F : Fx p s m _ meth c cX9_isSign 2 "DustParish$Tokens" 395 g B := F
  refine V_lv (lv' := [(0, .ref (gA g 39)), (1, .int a1)]) rfl ?_
  unfold fX9_isSign at hf
  refine v_aload_n (pc := 0) (j := 0) F dX9_isSign_0 rfl rfl ?_
  refine v_ifl (pc := 1) F fl_X9_9 dX9_isSign_1 kc_39.1 kc_39.2 fv_8_0 ?_
  refine v_iconst (pc := 4) (v := 3) F dX9_isSign_4 ic_3 ?_
  refine v_icmp_ne (pc := 5) (tgt := 25) F dX9_isSign_5 (by decide) (fun c1 => ?_) (fun c1 => ?_)
  · have hf := ite_f hf c1
    refine V.sub (lv' := []) [] rfl ?_
    exact tX9_isSign_25 F hr hf
  · have hf := ite_t hf c1
    refine v_aload_n (pc := 8) (j := 0) F dX9_isSign_8 rfl rfl ?_
    refine v_ifl (pc := 9) F fl_X9_29 dX9_isSign_9 kc_39.1 kc_39.2 fv_8_6 ?_
    refine v_aload_n (pc := 12) (j := 0) F dX9_isSign_12 rfl rfl ?_
    refine v_ifl (pc := 13) F fl_X9_13 dX9_isSign_13 kc_39.1 kc_39.2 fv_8_1 ?_
    obtain ⟨v4, e5, hf⟩ := bnd_some hf
    refine v_bald (pc := 16) F dX9_isSign_16 kc_1.1 kc_1.2 e5 ?_
    refine v_iload_n (pc := 17) (j := 1) F dX9_isSign_17 rfl rfl ?_
    refine v_icmp_ne (pc := 18) (tgt := 25) F dX9_isSign_18 (by decide) (fun c6 => ?_) (fun c6 => ?_)
    · have hf := ite_f hf c6
      refine V.sub (lv' := []) [] rfl ?_
      exact tX9_isSign_25 F hr hf
    · have hf := ite_t hf c6
      refine v_iconst (pc := 21) (v := 1) F dX9_isSign_21 ic_1 ?_
      refine v_goto (pc := 22) (tgt := 26) F dX9_isSign_22 (by decide) ?_
      refine V.sub (lv' := []) [] rfl ?_
      exact tX9_isSign_26 F hr hf
def fX6_strengthOf (h : ST) (a1 : Int32) : Option (Int32) :=
  if a1 = (-15) then
  some 1
  else
  if a1 = (-14) then
  some 2
  else
  if a1 = (-13) then
  some 3
  else
  if a1 = (-12) then
  some 4
  else
  if a1 = (-11) then
  some 4
  else
  if a1 = (-10) then
  some 6
  else
  if a1 = (-9) then
  some 6
  else
  if a1 = (-8) then
  some 5
  else
  if a1 = (-7) then
  some 5
  else
  some 0
set_option maxRecDepth 100000 in
set_option maxHeartbeats 4000000 in
theorem kX6_strengthOf {l : Launch} {g : GE} {B : Nat} {h : ST} {a1 : Int32} {y : Int32} (hf : fX6_strengthOf h a1 = some y) : CT l yX6_strengthOf cX6_strengthOf 1 (some .int) 1 KC 395 g B [.int a1] h (some (.int y)) h := by
  refine CT.of pn_X6 (Nat.le_of_ble_eq_true rfl) ?_
  intro p e s m below meth c hr F
  have F : Fx p s m _ meth c cX6_strengthOf 1 "DustParish$RuleReader" 395 g B := F
  refine V_lv (lv' := [(0, .int a1)]) rfl ?_
  unfold fX6_strengthOf at hf
  refine v_iload_n (pc := 0) (j := 0) F dX6_strengthOf_0 rfl rfl ?_
  by_cases c1 : a1 = (-15)
  · have hf := ite_t hf c1
    refine v_tabIn (pc := 1) (off := 51) (tgt := 52) F dX6_strengthOf_1 (by rw [c1]; decide) (by rw [c1]; decide) (by rw [c1]; rfl) (by decide) ?_
    refine v_iconst (pc := 52) (v := 1) F dX6_strengthOf_52 ic_1 ?_
    exact v_iret (pc := 53) F hr dX6_strengthOf_53 (Option.some.inj hf) rfl (Nat.zero_le _)
  have hf := ite_f hf c1
  by_cases c2 : a1 = (-14)
  · have hf := ite_t hf c2
    refine v_tabIn (pc := 1) (off := 53) (tgt := 54) F dX6_strengthOf_1 (by rw [c2]; decide) (by rw [c2]; decide) (by rw [c2]; rfl) (by decide) ?_
    refine v_iconst (pc := 54) (v := 2) F dX6_strengthOf_54 ic_2 ?_
    exact v_iret (pc := 55) F hr dX6_strengthOf_55 (Option.some.inj hf) rfl (Nat.zero_le _)
  have hf := ite_f hf c2
  by_cases c3 : a1 = (-13)
  · have hf := ite_t hf c3
    refine v_tabIn (pc := 1) (off := 55) (tgt := 56) F dX6_strengthOf_1 (by rw [c3]; decide) (by rw [c3]; decide) (by rw [c3]; rfl) (by decide) ?_
    refine v_iconst (pc := 56) (v := 3) F dX6_strengthOf_56 ic_3 ?_
    exact v_iret (pc := 57) F hr dX6_strengthOf_57 (Option.some.inj hf) rfl (Nat.zero_le _)
  have hf := ite_f hf c3
  by_cases c4 : a1 = (-12)
  · have hf := ite_t hf c4
    refine v_tabIn (pc := 1) (off := 57) (tgt := 58) F dX6_strengthOf_1 (by rw [c4]; decide) (by rw [c4]; decide) (by rw [c4]; rfl) (by decide) ?_
    refine v_iconst (pc := 58) (v := 4) F dX6_strengthOf_58 ic_4 ?_
    exact v_iret (pc := 59) F hr dX6_strengthOf_59 (Option.some.inj hf) rfl (Nat.zero_le _)
  have hf := ite_f hf c4
  by_cases c5 : a1 = (-11)
  · have hf := ite_t hf c5
    refine v_tabIn (pc := 1) (off := 57) (tgt := 58) F dX6_strengthOf_1 (by rw [c5]; decide) (by rw [c5]; decide) (by rw [c5]; rfl) (by decide) ?_
    refine v_iconst (pc := 58) (v := 4) F dX6_strengthOf_58 ic_4 ?_
    exact v_iret (pc := 59) F hr dX6_strengthOf_59 (Option.some.inj hf) rfl (Nat.zero_le _)
  have hf := ite_f hf c5
  by_cases c6 : a1 = (-10)
  · have hf := ite_t hf c6
    refine v_tabIn (pc := 1) (off := 61) (tgt := 62) F dX6_strengthOf_1 (by rw [c6]; decide) (by rw [c6]; decide) (by rw [c6]; rfl) (by decide) ?_
    refine v_bipush (pc := 62) (v := 6) F dX6_strengthOf_62 bp_6 ?_
    exact v_iret (pc := 64) F hr dX6_strengthOf_64 (Option.some.inj hf) rfl (Nat.zero_le _)
  have hf := ite_f hf c6
  by_cases c7 : a1 = (-9)
  · have hf := ite_t hf c7
    refine v_tabIn (pc := 1) (off := 61) (tgt := 62) F dX6_strengthOf_1 (by rw [c7]; decide) (by rw [c7]; decide) (by rw [c7]; rfl) (by decide) ?_
    refine v_bipush (pc := 62) (v := 6) F dX6_strengthOf_62 bp_6 ?_
    exact v_iret (pc := 64) F hr dX6_strengthOf_64 (Option.some.inj hf) rfl (Nat.zero_le _)
  have hf := ite_f hf c7
  by_cases c8 : a1 = (-8)
  · have hf := ite_t hf c8
    refine v_tabIn (pc := 1) (off := 59) (tgt := 60) F dX6_strengthOf_1 (by rw [c8]; decide) (by rw [c8]; decide) (by rw [c8]; rfl) (by decide) ?_
    refine v_iconst (pc := 60) (v := 5) F dX6_strengthOf_60 ic_5 ?_
    exact v_iret (pc := 61) F hr dX6_strengthOf_61 (Option.some.inj hf) rfl (Nat.zero_le _)
  have hf := ite_f hf c8
  by_cases c9 : a1 = (-7)
  · have hf := ite_t hf c9
    refine v_tabIn (pc := 1) (off := 59) (tgt := 60) F dX6_strengthOf_1 (by rw [c9]; decide) (by rw [c9]; decide) (by rw [c9]; rfl) (by decide) ?_
    refine v_iconst (pc := 60) (v := 5) F dX6_strengthOf_60 ic_5 ?_
    exact v_iret (pc := 61) F hr dX6_strengthOf_61 (Option.some.inj hf) rfl (Nat.zero_le _)
  have hf := ite_f hf c9
  have n_c1 : ¬ (a1).toInt = -15 := lv_neT c1 rfl
  have n_c2 : ¬ (a1).toInt = -14 := lv_neT c2 rfl
  have n_c3 : ¬ (a1).toInt = -13 := lv_neT c3 rfl
  have n_c4 : ¬ (a1).toInt = -12 := lv_neT c4 rfl
  have n_c5 : ¬ (a1).toInt = -11 := lv_neT c5 rfl
  have n_c6 : ¬ (a1).toInt = -10 := lv_neT c6 rfl
  have n_c7 : ¬ (a1).toInt = -9 := lv_neT c7 rfl
  have n_c8 : ¬ (a1).toInt = -8 := lv_neT c8 rfl
  have n_c9 : ¬ (a1).toInt = -7 := lv_neT c9 rfl
  refine v_tabOut (pc := 1) (tgt := 65) F dX6_strengthOf_1 (by omega) (by decide) ?_
  refine v_iconst (pc := 65) (v := 0) F dX6_strengthOf_65 ic_0 ?_
  exact v_iret (pc := 66) F hr dX6_strengthOf_66 (Option.some.inj hf) rfl (Nat.zero_le _)
def fX5_put_30 (h : ST)  : Option (ST) :=
  some h
def fX5_put (h : ST) (o : Nat) (a1 : Int32) : Option (ST) :=
  if 700 ≤ (h o 1) then
  fX5_put_30 h 
  else
  bnd (wr 700 h (o + 2) (h o 1) a1) fun h2 =>
    bnd (pw h2 o 1 ((h2 o 1) + 1)) fun h4 =>
    fX5_put_30 h4 
set_option maxRecDepth 100000 in
set_option maxHeartbeats 4000000 in
theorem tX5_put_30 {p : Program} {l : Launch} {e : Env} {s : State} {m : MethodId} {args : Array Value} {below : List Frame} {meth : Method} {c : Code} {g : GE} {B : Nat} {h : ST}  (F : Fx p s m args meth c cX5_put 2 "DustParish$Rule" 395 g B)
    {y : ST} (hr : meth.sig.returnType = none) (hf : fX5_put_30 h  = some y) : V p l e 1 0 s m args below meth c (MQ below (QO KC 395 g none y) args s 0 (6 * 0) (fun q => B ≤ q)) KC 395 g B 2 0 h 30 [] [] := by
  unfold fX5_put_30 at hf
  exact v_vret (pc := 30) F hr dX5_put_30 (Option.some.inj hf) (Nat.zero_le _)
set_option maxRecDepth 100000 in
set_option maxHeartbeats 4000000 in
theorem kX5_put {l : Launch} {g : GE} {B : Nat} {h : ST} {o : Nat} (ho_o : o < 395) (hk_o : KC o = (4, 0)) {a1 : Int32} {y : ST} (hf : fX5_put h o a1 = some y) : CT l yX5_put cX5_put 2 none 1 KC 395 g B [.ref (gA g o), .int a1] h none y := by
  refine CT.of pn_X5 (Nat.le_of_ble_eq_true rfl) ?_
  intro p e s m below meth c hr F
  have F : Fx p s m _ meth c cX5_put 2 "DustParish$Rule" 395 g B := F
  refine V_lv (lv' := [(0, .ref (gA g o)), (1, .int a1)]) rfl ?_
  unfold fX5_put at hf
  refine v_aload_n (pc := 0) (j := 0) F dX5_put_0 rfl rfl ?_
  refine v_ifl (pc := 1) F fl_X5_15 dX5_put_1 ho_o hk_o fv_4_1 ?_
  refine v_sipush (pc := 4) (v := 700) F dX5_put_4 sp_700 ?_
  refine v_icmp_ge (pc := 7) (tgt := 30) F dX5_put_7 (by decide) (fun c1 => ?_) (fun c1 => ?_)
  · have hf := ite_t hf c1
    refine V.sub (lv' := []) [] rfl ?_
    exact tX5_put_30 F hr hf
  · have hf := ite_f hf c1
    refine v_aload_n (pc := 10) (j := 0) F dX5_put_10 rfl rfl ?_
    refine v_ifl (pc := 11) F fl_X5_19 dX5_put_11 ho_o hk_o fv_4_2 ?_
    refine v_aload_n (pc := 14) (j := 0) F dX5_put_14 rfl rfl ?_
    refine v_ifl (pc := 15) F fl_X5_15 dX5_put_15 ho_o hk_o fv_4_1 ?_
    refine v_iload_n (pc := 18) (j := 1) F dX5_put_18 rfl rfl ?_
    obtain ⟨h2, e3, hf⟩ := bnd_some hf
    refine v_iast (pc := 19) F dX5_put_19 (ly_4_2 ho_o hk_o).1 (ly_4_2 ho_o hk_o).2 e3 ?_
    refine v_aload_n (pc := 20) (j := 0) F dX5_put_20 rfl rfl ?_
    refine v_dup (pc := 21) F dX5_put_21 rfl ?_
    refine v_ifl (pc := 22) F fl_X5_15 dX5_put_22 ho_o hk_o fv_4_1 ?_
    refine v_iconst (pc := 25) (v := 1) F dX5_put_25 ic_1 ?_
    refine v_iadd (pc := 26) F dX5_put_26 ?_
    obtain ⟨h4, e5, hf⟩ := bnd_some hf
    refine v_pfl (pc := 27) F fl_X5_15 pl_4_1 dX5_put_27 ho_o hk_o fv_4_1 rfl rfl e5 ?_
    refine V.sub (lv' := []) [] rfl ?_
    exact tX5_put_30 F hr hf
