def fX7_lastDay_4 (h : ST) (o : Nat) (s1 : (Int32 × Int32)) : Option ((Int32 × Int32) ⊕ Int32) :=
  if (h o 0) ≤ s1.2 then
  some (.inr s1.1)
  else
  bnd (rd 8 (h (o + 2)) s1.2) fun v2 =>
    some (.inl ((if s1.1 < v2 then v2 else s1.1), s1.2 + 1))
def fX7_lastDay (h : ST) (o : Nat) : Option (Int32) :=
  bnd (lp FU (fX7_lastDay_4 h o) ((-1), 0)) fun x4 =>
  some x4
set_option maxRecDepth 100000 in
set_option maxHeartbeats 4000000 in
theorem tX7_lastDay_4 {p : Program} {l : Launch} {e : Env} {s : State} {m : MethodId} {args : Array Value} {below : List Frame} {meth : Method} {c : Code} {g : GE} {B : Nat} {h : ST} {o : Nat} (ho_o : o < 395) (hk_o : KC o = (6, 0)) {Q : State → Prop} {x : Int32} {nf : Nat} {s0 : (Int32 × Int32)} (F : Fx p s m args meth c cX7_lastDay 3 "DustParish$Sights" 395 g B) (hX0 : V p l e 1 0 s m args below meth c Q KC 395 g B 3 0 h 29 [(1, .int x)] []) (hl : lp nf (fX7_lastDay_4 h o) s0 = some x) : V p l e 1 0 s m args below meth c Q KC 395 g B 3 0 h 4 [(0, .ref (gA g o)), (1, .int s0.1), (2, .int s0.2)] [] := by
  refine lp_ind (P := fun s0 => V p l e 1 0 s m args below meth c Q KC 395 g B 3 0 h 4 [(0, .ref (gA g o)), (1, .int s0.1), (2, .int s0.2)] []) ?_ nf s0 hl
  intro s1 y hf hk hx
  have hx0 : ∀ v : Int32, y = Sum.inr v → V p l e 1 0 s m args below meth c Q KC 395 g B 3 0 h 29 [(1, .int v)] [] := fun v e9 => by rw [hx v e9]; exact hX0
  unfold fX7_lastDay_4 at hf
  refine v_iload_n (pc := 4) (j := 2) F dX7_lastDay_4 rfl rfl ?_
  refine v_aload_n (pc := 5) (j := 0) F dX7_lastDay_5 rfl rfl ?_
  refine v_ifl (pc := 6) F fl_X7_9 dX7_lastDay_6 ho_o hk_o fv_6_0 ?_
  refine v_icmp_ge (pc := 9) (tgt := 29) F dX7_lastDay_9 (by decide) (fun c1 => ?_) (fun c1 => ?_)
  · have hf := ite_t hf c1
    refine V.sub (lv' := [(1, .int s1.1)]) [1] rfl ?_
    exact hx0 s1.1 (Option.some.inj hf).symm
  · have hf := ite_f hf c1
    refine v_iload_n (pc := 12) (j := 1) F dX7_lastDay_12 rfl rfl ?_
    refine v_aload_n (pc := 13) (j := 0) F dX7_lastDay_13 rfl rfl ?_
    refine v_ifl (pc := 14) F fl_X7_19 dX7_lastDay_14 ho_o hk_o fv_6_2 ?_
    refine v_iload_n (pc := 17) (j := 2) F dX7_lastDay_17 rfl rfl ?_
    obtain ⟨v2, e3, hf⟩ := bnd_some hf
    refine v_iald (pc := 18) F dX7_lastDay_18 (ly_6_2 ho_o hk_o).1 (ly_6_2 ho_o hk_o).2 e3 ?_
    refine v_mmax (pc := 19) F tw_1202 mmaxW dX7_lastDay_19 (by decide) (Nat.le_of_ble_eq_true rfl) (Nat.zero_le _) ?_
    refine v_istore_n (pc := 22) (lv' := [(0, .ref (gA g o)), (1, .int (if s1.1 < v2 then v2 else s1.1)), (2, .int s1.2)]) F dX7_lastDay_22 rfl (by decide) rfl ?_
    refine v_iinc (pc := 23) (j := 2) (v := s1.2 + 1) (lv' := [(0, .ref (gA g o)), (1, .int (if s1.1 < v2 then v2 else s1.1)), (2, .int (s1.2 + 1))]) F dX7_lastDay_23 rfl (congrArg (fun z => s1.2 + z) ic_1) (by decide) rfl ?_
    refine v_goto (pc := 26) (tgt := 4) F dX7_lastDay_26 (by decide) ?_
    exact hk ((if s1.1 < v2 then v2 else s1.1), s1.2 + 1) (Option.some.inj hf).symm
set_option maxRecDepth 100000 in
set_option maxHeartbeats 4000000 in
theorem kX7_lastDay {l : Launch} {g : GE} {B : Nat} {h : ST} {o : Nat} (ho_o : o < 395) (hk_o : KC o = (6, 0)) {y : Int32} (hf : fX7_lastDay h o = some y) : CT l yX7_lastDay cX7_lastDay 3 (some .int) 1 KC 395 g B [.ref (gA g o)] h (some (.int y)) h := by
  refine CT.of pn_X7 (Nat.le_of_ble_eq_true rfl) ?_
  intro p e s m below meth c hr F
  have F : Fx p s m _ meth c cX7_lastDay 3 "DustParish$Sights" 395 g B := F
  refine V_lv (lv' := [(0, .ref (gA g o))]) rfl ?_
  unfold fX7_lastDay at hf
  refine v_iconst (pc := 0) (v := (-1)) F dX7_lastDay_0 ic_m1 ?_
  refine v_istore_n (pc := 1) (lv' := [(0, .ref (gA g o)), (1, .int (-1))]) F dX7_lastDay_1 rfl (by decide) rfl ?_
  refine v_iconst (pc := 2) (v := 0) F dX7_lastDay_2 ic_0 ?_
  refine v_istore_n (pc := 3) (lv' := [(0, .ref (gA g o)), (1, .int (-1)), (2, .int 0)]) F dX7_lastDay_3 rfl (by decide) rfl ?_
  obtain ⟨x4, e5, hf⟩ := bnd_some hf
  refine tX7_lastDay_4 (s0 := ((-1), 0)) ho_o hk_o F ?_ e5
  refine v_iload_n (pc := 29) (j := 0) F dX7_lastDay_29 rfl rfl ?_
  exact v_iret (pc := 30) F hr dX7_lastDay_30 (Option.some.inj hf) rfl (Nat.zero_le _)
def fX7_areSo_42 (h : ST) (o : Nat) (o2 : Nat) (l1 : Int32) (l3 : Int32) : Option (Int32 ⊕ (Unit ⊕ Unit)) :=
  some (.inl (l3 + 1))
def fX7_areSo_2 (h : ST) (o : Nat) (o2 : Nat) (l1 : Int32) (s1 : Int32) : Option (Int32 ⊕ (Unit ⊕ Unit)) :=
  if (h o 0) ≤ s1 then
  some (.inr (.inr ()))
  else
  bnd (rd 8 (h (o + 2)) s1) fun v2 =>
    if v2 = l1 then
    bnd (rd 8 (h (o + 1)) s1) fun v5 =>
      bnd (rd 9 (h (o2 + 1)) v5) fun v7 =>
      bnd (rd 8 (h (o + 3)) s1) fun v9 =>
      if v7 = v9 then
      fX7_areSo_42 h o o2 l1 s1
      else
      some (.inr (.inl ()))
    else
    fX7_areSo_42 h o o2 l1 s1
def fX7_areSo (h : ST) (o : Nat) (a1 : Int32) (o2 : Nat) : Option (Int32) :=
  bnd (lp FU (fX7_areSo_2 h o o2 a1) 0) fun x12 =>
  sm x12 (fun v => some 0) (fun v => some 1)
set_option maxRecDepth 100000 in
set_option maxHeartbeats 4000000 in
theorem tX7_areSo_42 {p : Program} {l : Launch} {e : Env} {s : State} {m : MethodId} {args : Array Value} {below : List Frame} {meth : Method} {c : Code} {g : GE} {B : Nat} {h : ST} {o : Nat} (ho_o : o < 395) (hk_o : KC o = (6, 0)) {o2 : Nat} (ho_o2 : o2 < 395) (hk_o2 : KC o2 = (7, 0)) {l1 : Int32} {l3 : Int32} (F : Fx p s m args meth c cX7_areSo 4 "DustParish$Sights" 395 g B)
    {Q : State → Prop} {y : Int32 ⊕ (Unit ⊕ Unit)} (hk : ∀ v : Int32, y = Sum.inl v → V p l e 1 0 s m args below meth c Q KC 395 g B 4 0 h 2 [(0, .ref (gA g o)), (1, .int l1), (2, .ref (gA g o2)), (3, .int v)] []) (hx0 : ∀ v : Unit, y = Sum.inr (.inl v) → V p l e 1 0 s m args below meth c Q KC 395 g B 4 0 h 40 [] []) (hx1 : ∀ v : Unit, y = Sum.inr (.inr v) → V p l e 1 0 s m args below meth c Q KC 395 g B 4 0 h 48 [] []) (hf : fX7_areSo_42 h o o2 l1 l3 = some y) : V p l e 1 0 s m args below meth c Q KC 395 g B 4 0 h 42 [(0, .ref (gA g o)), (1, .int l1), (2, .ref (gA g o2)), (3, .int l3)] [] := by
  unfold fX7_areSo_42 at hf
  refine v_iinc (pc := 42) (j := 3) (v := l3 + 1) (lv' := [(0, .ref (gA g o)), (1, .int l1), (2, .ref (gA g o2)), (3, .int (l3 + 1))]) F dX7_areSo_42 rfl (congrArg (fun z => l3 + z) ic_1) (by decide) rfl ?_
  refine v_goto (pc := 45) (tgt := 2) F dX7_areSo_45 (by decide) ?_
  exact hk (l3 + 1) (Option.some.inj hf).symm
set_option maxRecDepth 100000 in
set_option maxHeartbeats 4000000 in
theorem tX7_areSo_2 {p : Program} {l : Launch} {e : Env} {s : State} {m : MethodId} {args : Array Value} {below : List Frame} {meth : Method} {c : Code} {g : GE} {B : Nat} {h : ST} {o : Nat} (ho_o : o < 395) (hk_o : KC o = (6, 0)) {o2 : Nat} (ho_o2 : o2 < 395) (hk_o2 : KC o2 = (7, 0)) {l1 : Int32} {Q : State → Prop} {x : (Unit ⊕ Unit)} {nf : Nat} {s0 : Int32} (F : Fx p s m args meth c cX7_areSo 4 "DustParish$Sights" 395 g B) (hX0 : ∀ v : Unit, x = (.inl v) → V p l e 1 0 s m args below meth c Q KC 395 g B 4 0 h 40 [] []) (hX1 : ∀ v : Unit, x = (.inr v) → V p l e 1 0 s m args below meth c Q KC 395 g B 4 0 h 48 [] []) (hl : lp nf (fX7_areSo_2 h o o2 l1) s0 = some x) : V p l e 1 0 s m args below meth c Q KC 395 g B 4 0 h 2 [(0, .ref (gA g o)), (1, .int l1), (2, .ref (gA g o2)), (3, .int s0)] [] := by
  refine lp_ind (P := fun s0 => V p l e 1 0 s m args below meth c Q KC 395 g B 4 0 h 2 [(0, .ref (gA g o)), (1, .int l1), (2, .ref (gA g o2)), (3, .int s0)] []) ?_ nf s0 hl
  intro s1 y hf hk hx
  have hx0 : ∀ v : Unit, y = Sum.inr (.inl v) → V p l e 1 0 s m args below meth c Q KC 395 g B 4 0 h 40 [] [] := fun v e9 => hX0 v (hx _ e9).symm
  have hx1 : ∀ v : Unit, y = Sum.inr (.inr v) → V p l e 1 0 s m args below meth c Q KC 395 g B 4 0 h 48 [] [] := fun v e9 => hX1 v (hx _ e9).symm
  unfold fX7_areSo_2 at hf
  refine v_iload_n (pc := 2) (j := 3) F dX7_areSo_2 rfl rfl ?_
  refine v_aload_n (pc := 3) (j := 0) F dX7_areSo_3 rfl rfl ?_
  refine v_ifl (pc := 4) F fl_X7_9 dX7_areSo_4 ho_o hk_o fv_6_0 ?_
  refine v_icmp_ge (pc := 7) (tgt := 48) F dX7_areSo_7 (by decide) (fun c1 => ?_) (fun c1 => ?_)
  · have hf := ite_t hf c1
    refine V.sub (lv' := []) [] rfl ?_
    exact hx1 () (Option.some.inj hf).symm
  · have hf := ite_f hf c1
    refine v_aload_n (pc := 10) (j := 0) F dX7_areSo_10 rfl rfl ?_
    refine v_ifl (pc := 11) F fl_X7_19 dX7_areSo_11 ho_o hk_o fv_6_2 ?_
    refine v_iload_n (pc := 14) (j := 3) F dX7_areSo_14 rfl rfl ?_
    obtain ⟨v2, e3, hf⟩ := bnd_some hf
    refine v_iald (pc := 15) F dX7_areSo_15 (ly_6_2 ho_o hk_o).1 (ly_6_2 ho_o hk_o).2 e3 ?_
    refine v_iload_n (pc := 16) (j := 1) F dX7_areSo_16 rfl rfl ?_
    refine v_icmp_ne (pc := 17) (tgt := 42) F dX7_areSo_17 (by decide) (fun c4 => ?_) (fun c4 => ?_)
    · have hf := ite_f hf c4
      exact tX7_areSo_42 ho_o hk_o ho_o2 hk_o2 F hk hx0 hx1 hf
    · have hf := ite_t hf c4
      refine v_aload_n (pc := 20) (j := 2) F dX7_areSo_20 rfl rfl ?_
      refine v_ifl (pc := 21) F fl_X7_31 dX7_areSo_21 ho_o2 hk_o2 fv_7_3 ?_
      refine v_aload_n (pc := 24) (j := 0) F dX7_areSo_24 rfl rfl ?_
      refine v_ifl (pc := 25) F fl_X7_15 dX7_areSo_25 ho_o hk_o fv_6_1 ?_
      refine v_iload_n (pc := 28) (j := 3) F dX7_areSo_28 rfl rfl ?_
      obtain ⟨v5, e6, hf⟩ := bnd_some hf
      refine v_iald (pc := 29) F dX7_areSo_29 (ly_6_1 ho_o hk_o).1 (ly_6_1 ho_o hk_o).2 e6 ?_
      obtain ⟨v7, e8, hf⟩ := bnd_some hf
      refine v_iald (pc := 30) F dX7_areSo_30 (ly_7_3 ho_o2 hk_o2).1 (ly_7_3 ho_o2 hk_o2).2 e8 ?_
      refine v_aload_n (pc := 31) (j := 0) F dX7_areSo_31 rfl rfl ?_
      refine v_ifl (pc := 32) F fl_X7_22 dX7_areSo_32 ho_o hk_o fv_6_3 ?_
      refine v_iload_n (pc := 35) (j := 3) F dX7_areSo_35 rfl rfl ?_
      obtain ⟨v9, e10, hf⟩ := bnd_some hf
      refine v_iald (pc := 36) F dX7_areSo_36 (ly_6_3 ho_o hk_o).1 (ly_6_3 ho_o hk_o).2 e10 ?_
      refine v_icmp_eq (pc := 37) (tgt := 42) F dX7_areSo_37 (by decide) (fun c11 => ?_) (fun c11 => ?_)
      · have hf := ite_t hf c11
        exact tX7_areSo_42 ho_o hk_o ho_o2 hk_o2 F hk hx0 hx1 hf
      · have hf := ite_f hf c11
        refine V.sub (lv' := []) [] rfl ?_
        exact hx0 () (Option.some.inj hf).symm
set_option maxRecDepth 100000 in
set_option maxHeartbeats 4000000 in
theorem kX7_areSo {l : Launch} {g : GE} {B : Nat} {h : ST} {o : Nat} (ho_o : o < 395) (hk_o : KC o = (6, 0)) {a1 : Int32} {o2 : Nat} (ho_o2 : o2 < 395) (hk_o2 : KC o2 = (7, 0)) {y : Int32} (hf : fX7_areSo h o a1 o2 = some y) : CT l yX7_areSo cX7_areSo 4 (some .boolean) 1 KC 395 g B [.ref (gA g o), .int a1, .ref (gA g o2)] h (some (.int y)) h := by
  refine CT.of pn_X7 (Nat.le_of_ble_eq_true rfl) ?_
  intro p e s m below meth c hr F
  have F : Fx p s m _ meth c cX7_areSo 4 "DustParish$Sights" 395 g B := F
  refine V_lv (lv' := [(0, .ref (gA g o)), (1, .int a1), (2, .ref (gA g o2))]) rfl ?_
  unfold fX7_areSo at hf
  refine v_iconst (pc := 0) (v := 0) F dX7_areSo_0 ic_0 ?_
  refine v_istore_n (pc := 1) (lv' := [(0, .ref (gA g o)), (1, .int a1), (2, .ref (gA g o2)), (3, .int 0)]) F dX7_areSo_1 rfl (by decide) rfl ?_
  obtain ⟨x12, e13, hf⟩ := bnd_some hf
  refine tX7_areSo_2 (s0 := 0) ho_o hk_o ho_o2 hk_o2 F (fun v e9 => ?_) (fun v e9 => ?_) e13
  · subst e9
    have hf := sm_l hf
    refine v_iconst (pc := 40) (v := 0) F dX7_areSo_40 ic_0 ?_
    exact v_zret (pc := 41) F hr dX7_areSo_41 rfl (Option.some.inj hf) rfl (Nat.zero_le _)
  · subst e9
    have hf := sm_r hf
    refine v_iconst (pc := 48) (v := 1) F dX7_areSo_48 ic_1 ?_
    exact v_zret (pc := 49) F hr dX7_areSo_49 rfl (Option.some.inj hf) rfl (Nat.zero_le _)
def fX10_wouldBeSo_86 (h : ST) (l3 : Int32) (l4 : Int32) : Option ((ST × Int32) ⊕ (ST ⊕ ST)) :=
  some (.inl (h, l4 + 1))
def fX10_wouldBeSo_41 (l3 : Int32) (s1 : (ST × Int32)) : Option ((ST × Int32) ⊕ (ST ⊕ ST)) :=
  if l3 < s1.2 then
  some (.inr (.inr s1.1))
  else
  bnd (fX7_areSo s1.1 209 s1.2 386) fun r10 =>
    if r10 = 0 then
    some (.inr (.inl s1.1))
    else
    if l3 ≤ s1.2 then
      fX10_wouldBeSo_86 s1.1 l3 s1.2
      else
      bnd (rf KC 395 1 (s1.1 0 3)) fun f14 =>
        bnd (fX1_passMany s1.1 f14 386 1) fun r16 =>
        fX10_wouldBeSo_86 r16 l3 s1.2
def fX10_wouldBeSo (h : ST) (a1 : Int32) (a2 : Int32) : Option (Int32 × ST) :=
  bnd (fX8_copy h 386 43) fun r1 =>
  bnd (rd 9 (r1 387) a1) fun v3 =>
  bnd (wr 9 r1 387 a1 (v3 - a2)) fun h5 =>
  bnd (fX7_lastDay h5 209) fun r7 =>
  bnd (lp FU (fX10_wouldBeSo_41 r7) (h5, 0)) fun x18 =>
  sm x18 (fun v => some (0, v)) (fun v => some (1, v))
set_option maxRecDepth 100000 in
set_option maxHeartbeats 4000000 in
theorem tX10_wouldBeSo_86 {p : Program} {l : Launch} {e : Env} {s : State} {m : MethodId} {args : Array Value} {below : List Frame} {meth : Method} {c : Code} {g : GE} {B : Nat} {h : ST}  {l3 : Int32} {l4 : Int32} (F : Fx p s m args meth c cX10_wouldBeSo 5 "DustParish" 395 g B)
    {Q : State → Prop} {y : (ST × Int32) ⊕ (ST ⊕ ST)} (hk : ∀ v : (ST × Int32), y = Sum.inl v → V p l e 7 0 s m args below meth c Q KC 395 g B 5 0 v.1 41 [(0, .ref (gA g 0)), (3, .int l3), (4, .int v.2)] []) (hx0 : ∀ v : ST, y = Sum.inr (.inl v) → V p l e 7 0 s m args below meth c Q KC 395 g B 5 0 v 66 [] []) (hx1 : ∀ v : ST, y = Sum.inr (.inr v) → V p l e 7 0 s m args below meth c Q KC 395 g B 5 0 v 92 [] []) (hf : fX10_wouldBeSo_86 h l3 l4 = some y) : V p l e 7 0 s m args below meth c Q KC 395 g B 5 0 h 86 [(0, .ref (gA g 0)), (3, .int l3), (4, .int l4)] [] := by
  unfold fX10_wouldBeSo_86 at hf
  refine v_iinc (pc := 86) (j := 2) (v := l4 + 1) (lv' := [(0, .ref (gA g 0)), (3, .int l3), (4, .int (l4 + 1))]) F dX10_wouldBeSo_86 rfl (congrArg (fun z => l4 + z) ic_1) (by decide) rfl ?_
  refine v_goto (pc := 89) (tgt := 41) F dX10_wouldBeSo_89 (by decide) ?_
  exact hk (h, l4 + 1) (Option.some.inj hf).symm
set_option maxRecDepth 100000 in
set_option maxHeartbeats 4000000 in
theorem tX10_wouldBeSo_41 {p : Program} {l : Launch} {e : Env} {s : State} {m : MethodId} {args : Array Value} {below : List Frame} {meth : Method} {c : Code} {g : GE} {B : Nat}  {l3 : Int32} {Q : State → Prop} {x : (ST ⊕ ST)} {nf : Nat} {s0 : (ST × Int32)} (F : Fx p s m args meth c cX10_wouldBeSo 5 "DustParish" 395 g B) (hX0 : ∀ v : ST, x = (.inl v) → V p l e 7 0 s m args below meth c Q KC 395 g B 5 0 v 66 [] []) (hX1 : ∀ v : ST, x = (.inr v) → V p l e 7 0 s m args below meth c Q KC 395 g B 5 0 v 92 [] []) (hl : lp nf (fX10_wouldBeSo_41 l3) s0 = some x) : V p l e 7 0 s m args below meth c Q KC 395 g B 5 0 s0.1 41 [(0, .ref (gA g 0)), (3, .int l3), (4, .int s0.2)] [] := by
  refine lp_ind (P := fun s0 => V p l e 7 0 s m args below meth c Q KC 395 g B 5 0 s0.1 41 [(0, .ref (gA g 0)), (3, .int l3), (4, .int s0.2)] []) ?_ nf s0 hl
  intro s1 y hf hk hx
  have hx0 : ∀ v : ST, y = Sum.inr (.inl v) → V p l e 7 0 s m args below meth c Q KC 395 g B 5 0 v 66 [] [] := fun v e9 => hX0 v (hx _ e9).symm
  have hx1 : ∀ v : ST, y = Sum.inr (.inr v) → V p l e 7 0 s m args below meth c Q KC 395 g B 5 0 v 92 [] [] := fun v e9 => hX1 v (hx _ e9).symm
  unfold fX10_wouldBeSo_41 at hf
  refine v_iload (pc := 41) (j := 2) F dX10_wouldBeSo_41 rfl ?_
  refine v_iload_n (pc := 43) (j := 1) F dX10_wouldBeSo_43 rfl rfl ?_
  refine v_icmp_gt (pc := 44) (tgt := 92) F dX10_wouldBeSo_44 (by decide) (fun c9 => ?_) (fun c9 => ?_)
  · have hf := ite_t hf c9
    refine V.sub (lv' := []) [] rfl ?_
    exact hx1 s1.1 (Option.some.inj hf).symm
  · have hf := ite_f hf c9
    refine v_aload_n (pc := 47) (j := 0) F dX10_wouldBeSo_47 rfl rfl ?_
    refine v_ifl (pc := 48) F fl_X10_42 dX10_wouldBeSo_48 kc_0.1 kc_0.2 fv_9_6 ?_
    refine v_ifl (pc := 51) F fl_X10_152 dX10_wouldBeSo_51 kc_42.1 kc_42.2 fv_2_2 ?_
    refine v_iload (pc := 54) (j := 2) F dX10_wouldBeSo_54 rfl ?_
    refine v_aload_n (pc := 56) (j := 0) F dX10_wouldBeSo_56 rfl rfl ?_
    refine v_ifl (pc := 57) F fl_X10_56 dX10_wouldBeSo_57 kc_0.1 kc_0.2 fv_9_9 ?_
    obtain ⟨r10, e11, hf⟩ := bnd_some hf
    refine v_callVi (pc := 60) (As := [.int s1.2, .ref (gA g 386)]) F cl_X10_318 dX10_wouldBeSo_60 (kX7_areSo kc_209.1 kc_209.2 kc_386.1 kc_386.2 e11) kc_209.1 kc_209.2 rc_6 rfl rfl (Nat.le_of_ble_eq_true rfl) (by decide) (Nat.zero_le _) ?_
    refine v_if_ne (pc := 63) (tgt := 68) F dX10_wouldBeSo_63 (by decide) (fun c12 => ?_) (fun c12 => ?_)
    · have hf := ite_f hf c12
      refine v_iload (pc := 68) (j := 2) F dX10_wouldBeSo_68 rfl ?_
      refine v_iload_n (pc := 70) (j := 1) F dX10_wouldBeSo_70 rfl rfl ?_
      refine v_icmp_ge (pc := 71) (tgt := 86) F dX10_wouldBeSo_71 (by decide) (fun c13 => ?_) (fun c13 => ?_)
      · have hf := ite_t hf c13
        exact tX10_wouldBeSo_86 F hk hx0 hx1 hf
      · have hf := ite_f hf c13
        refine v_aload_n (pc := 74) (j := 0) F dX10_wouldBeSo_74 rfl rfl ?_
        obtain ⟨f14, e15, hf⟩ := bnd_some hf
        obtain ⟨ho_f14, hk_f14, e15⟩ := rf_in e15
        refine v_ifl (pc := 75) F fl_X10_23 dX10_wouldBeSo_75 kc_0.1 kc_0.2 (fv_9_3 e15) ?_
        refine v_aload_n (pc := 78) (j := 0) F dX10_wouldBeSo_78 rfl rfl ?_
        refine v_ifl (pc := 79) F fl_X10_56 dX10_wouldBeSo_79 kc_0.1 kc_0.2 fv_9_9 ?_
        refine v_iconst (pc := 82) (v := 1) F dX10_wouldBeSo_82 ic_1 ?_
        obtain ⟨r16, e17, hf⟩ := bnd_some hf
        refine v_callSv (pc := 83) (As := [.ref (gA g f14), .ref (gA g 386), .int 1]) F cl_X10_214 dX10_wouldBeSo_83 (kX1_passMany ho_f14 hk_f14 kc_386.1 kc_386.2 e17) rfl rfl (Nat.le_of_ble_eq_true rfl) (by decide) (Nat.zero_le _) ?_
        exact tX10_wouldBeSo_86 F hk hx0 hx1 hf
    · have hf := ite_t hf c12
      refine V.sub (lv' := []) [] rfl ?_
      exact hx0 s1.1 (Option.some.inj hf).symm
set_option maxRecDepth 100000 in
set_option maxHeartbeats 4000000 in
theorem kX10_wouldBeSo {l : Launch} {g : GE} {B : Nat} {h : ST} {a1 : Int32} {a2 : Int32} {y : Int32 × ST} (hf : fX10_wouldBeSo h a1 a2 = some y) : CT l yX10_wouldBeSo cX10_wouldBeSo 5 (some .boolean) 7 KC 395 g B [.ref (gA g 0), .int a1, .int a2] h (some (.int y.1)) y.2 := by
  refine CT.of pn_X10 (Nat.le_of_ble_eq_true rfl) ?_
  intro p e s m below meth c hr F
  have F : Fx p s m _ meth c cX10_wouldBeSo 5 "DustParish" 395 g B := F
  refine V_lv (lv' := [(0, .ref (gA g 0)), (1, .int a1), (2, .int a2)]) rfl ?_
  unfold fX10_wouldBeSo at hf
  refine v_aload_n (pc := 0) (j := 0) F dX10_wouldBeSo_0 rfl rfl ?_
  refine v_ifl (pc := 1) F fl_X10_56 dX10_wouldBeSo_1 kc_0.1 kc_0.2 fv_9_9 ?_
  refine v_aload_n (pc := 4) (j := 0) F dX10_wouldBeSo_4 rfl rfl ?_
  refine v_ifl (pc := 5) F fl_X10_42 dX10_wouldBeSo_5 kc_0.1 kc_0.2 fv_9_6 ?_
  refine v_ifl (pc := 8) F fl_X10_122 dX10_wouldBeSo_8 kc_42.1 kc_42.2 fv_2_0 ?_
  obtain ⟨r1, e2, hf⟩ := bnd_some hf
  refine v_callVv (pc := 11) (As := [.ref (gA g 43)]) F cl_X10_241 dX10_wouldBeSo_11 (kX8_copy kc_386.1 kc_386.2 kc_43.1 kc_43.2 e2) kc_386.1 kc_386.2 rc_7 rfl rfl (Nat.le_of_ble_eq_true rfl) (by decide) (Nat.zero_le _) ?_
  refine v_aload_n (pc := 14) (j := 0) F dX10_wouldBeSo_14 rfl rfl ?_
  refine v_ifl (pc := 15) F fl_X10_56 dX10_wouldBeSo_15 kc_0.1 kc_0.2 fv_9_9 ?_
  refine v_ifl (pc := 18) F fl_X10_171 dX10_wouldBeSo_18 kc_386.1 kc_386.2 fv_7_3 ?_
  refine v_iload_n (pc := 21) (j := 1) F dX10_wouldBeSo_21 rfl rfl ?_
  refine v_dup2_11 (pc := 22) F dX10_wouldBeSo_22 rfl rfl ?_
  obtain ⟨v3, e4, hf⟩ := bnd_some hf
  refine v_iald (pc := 23) F dX10_wouldBeSo_23 kc_387.1 kc_387.2 e4 ?_
  refine v_iload_n (pc := 24) (j := 2) F dX10_wouldBeSo_24 rfl rfl ?_
  refine v_isub (pc := 25) F dX10_wouldBeSo_25 ?_
  obtain ⟨h5, e6, hf⟩ := bnd_some hf
  refine v_iast (pc := 26) F dX10_wouldBeSo_26 kc_387.1 kc_387.2 e6 ?_
  refine v_aload_n (pc := 27) (j := 0) F dX10_wouldBeSo_27 rfl rfl ?_
  refine v_ifl (pc := 28) F fl_X10_42 dX10_wouldBeSo_28 kc_0.1 kc_0.2 fv_9_6 ?_
  refine v_ifl (pc := 31) F fl_X10_152 dX10_wouldBeSo_31 kc_42.1 kc_42.2 fv_2_2 ?_
  obtain ⟨r7, e8, hf⟩ := bnd_some hf
  refine v_callVi (pc := 34) (As := []) F cl_X10_315 dX10_wouldBeSo_34 (kX7_lastDay kc_209.1 kc_209.2 e8) kc_209.1 kc_209.2 rc_6 rfl rfl (Nat.le_of_ble_eq_true rfl) (by decide) (Nat.zero_le _) ?_
  refine v_istore_n (pc := 37) (lv' := [(0, .ref (gA g 0)), (1, .int a1), (2, .int a2), (3, .int r7)]) F dX10_wouldBeSo_37 rfl (by decide) rfl ?_
  refine v_iconst (pc := 38) (v := 0) F dX10_wouldBeSo_38 ic_0 ?_
  refine v_istore (pc := 39) (lv' := [(0, .ref (gA g 0)), (1, .int a1), (2, .int a2), (3, .int r7), (4, .int 0)]) F dX10_wouldBeSo_39 (by decide) rfl ?_
  obtain ⟨x18, e19, hf⟩ := bnd_some hf
  refine V.sub (lv' := [(0, .ref (gA g 0)), (3, .int r7), (4, .int 0)]) [0, 3, 4] rfl ?_
  refine tX10_wouldBeSo_41 (s0 := (h5, 0)) F (fun v e9 => ?_) (fun v e9 => ?_) e19
  · subst e9
    have hf := sm_l hf
    refine v_iconst (pc := 66) (v := 0) F dX10_wouldBeSo_66 ic_0 ?_
    exact v_zret (pc := 67) F hr dX10_wouldBeSo_67 rfl (some_fst hf) (some_snd hf) (Nat.zero_le _)
  · subst e9
    have hf := sm_r hf
    refine v_iconst (pc := 92) (v := 1) F dX10_wouldBeSo_92 ic_1 ?_
    exact v_zret (pc := 93) F hr dX10_wouldBeSo_93 rfl (some_fst hf) (some_snd hf) (Nat.zero_le _)
def fX8_steal (h : ST) (o : Nat) (a1 : Int32) (a2 : Int32) : Option (Int32 × ST) :=
  bnd (rd 9 (h (o + 1)) a1) fun v1 =>
  bnd (rd 9 (h (o + 1)) a1) fun v3 =>
  bnd (wr 9 h (o + 1) a1 (v3 - (if v1 < a2 then v1 else a2))) fun h5 =>
  bnd (pw h5 o 2 ((h5 o 2) + (if v1 < a2 then v1 else a2))) fun h7 =>
  some ((if v1 < a2 then v1 else a2), h7)
set_option maxRecDepth 100000 in
set_option maxHeartbeats 4000000 in
theorem kX8_steal {l : Launch} {g : GE} {B : Nat} {h : ST} {o : Nat} (ho_o : o < 395) (hk_o : KC o = (7, 0)) {a1 : Int32} {a2 : Int32} {y : Int32 × ST} (hf : fX8_steal h o a1 a2 = some y) : CT l yX8_steal cX8_steal 4 (some .int) 1 KC 395 g B [.ref (gA g o), .int a1, .int a2] h (some (.int y.1)) y.2 := by
  refine CT.of pn_X8 (Nat.le_of_ble_eq_true rfl) ?_
  intro p e s m below meth c hr F
  have F : Fx p s m _ meth c cX8_steal 4 "DustParish$State" 395 g B := F
  refine V_lv (lv' := [(0, .ref (gA g o)), (1, .int a1), (2, .int a2)]) rfl ?_
  unfold fX8_steal at hf
  refine v_iload_n (pc := 0) (j := 2) F dX8_steal_0 rfl rfl ?_
  refine v_aload_n (pc := 1) (j := 0) F dX8_steal_1 rfl rfl ?_
  refine v_ifl (pc := 2) F fl_X8_9 dX8_steal_2 ho_o hk_o fv_7_3 ?_
  refine v_iload_n (pc := 5) (j := 1) F dX8_steal_5 rfl rfl ?_
  obtain ⟨v1, e2, hf⟩ := bnd_some hf
  refine v_iald (pc := 6) F dX8_steal_6 (ly_7_3 ho_o hk_o).1 (ly_7_3 ho_o hk_o).2 e2 ?_
  refine v_mmin (pc := 7) F tw_473 mminW dX8_steal_7 (by decide) (Nat.le_of_ble_eq_true rfl) (Nat.zero_le _) ?_
  refine v_istore_n (pc := 10) (lv' := [(0, .ref (gA g o)), (1, .int a1), (2, .int a2), (3, .int (if v1 < a2 then v1 else a2))]) F dX8_steal_10 rfl (by decide) rfl ?_
  refine v_aload_n (pc := 11) (j := 0) F dX8_steal_11 rfl rfl ?_
  refine v_ifl (pc := 12) F fl_X8_9 dX8_steal_12 ho_o hk_o fv_7_3 ?_
  refine v_iload_n (pc := 15) (j := 1) F dX8_steal_15 rfl rfl ?_
  refine v_dup2_11 (pc := 16) F dX8_steal_16 rfl rfl ?_
  obtain ⟨v3, e4, hf⟩ := bnd_some hf
  refine v_iald (pc := 17) F dX8_steal_17 (ly_7_3 ho_o hk_o).1 (ly_7_3 ho_o hk_o).2 e4 ?_
  refine v_iload_n (pc := 18) (j := 3) F dX8_steal_18 rfl rfl ?_
  refine v_isub (pc := 19) F dX8_steal_19 ?_
  obtain ⟨h5, e6, hf⟩ := bnd_some hf
  refine v_iast (pc := 20) F dX8_steal_20 (ly_7_3 ho_o hk_o).1 (ly_7_3 ho_o hk_o).2 e6 ?_
  refine v_aload_n (pc := 21) (j := 0) F dX8_steal_21 rfl rfl ?_
  refine v_dup (pc := 22) F dX8_steal_22 rfl ?_
  refine v_ifl (pc := 23) F fl_X8_28 dX8_steal_23 ho_o hk_o fv_7_2 ?_
  refine v_iload_n (pc := 26) (j := 3) F dX8_steal_26 rfl rfl ?_
  refine v_iadd (pc := 27) F dX8_steal_27 ?_
  obtain ⟨h7, e8, hf⟩ := bnd_some hf
  refine v_pfl (pc := 28) F fl_X8_28 pl_7_2 dX8_steal_28 ho_o hk_o fv_7_2 rfl rfl e8 ?_
  refine v_iload_n (pc := 31) (j := 3) F dX8_steal_31 rfl rfl ?_
  exact v_iret (pc := 32) F hr dX8_steal_32 (some_fst hf) (some_snd hf) (Nat.zero_le _)
def fX2_behind_37 (h : ST) (q0 : Int32) : Option (Int32) :=
  some q0
def fX2_behind (h : ST) (o : Nat) (a1 : Int32) (a2 : Int32) : Option (Int32) :=
  bnd (rd 14 (h (o + 5)) a1) fun v1 =>
  if v1 = a2 then
  bnd (rd 14 (h (o + 6)) a1) fun v9 =>
    some v9
  else
  bnd (rd 14 (h (o + 6)) a1) fun v4 =>
    if v4 = a2 then
    bnd (rd 14 (h (o + 5)) a1) fun v7 =>
      fX2_behind_37 h v7
    else
    fX2_behind_37 h (-1)
set_option maxRecDepth 100000 in
set_option maxHeartbeats 4000000 in
theorem tX2_behind_37 {p : Program} {l : Launch} {e : Env} {s : State} {m : MethodId} {args : Array Value} {below : List Frame} {meth : Method} {c : Code} {g : GE} {B : Nat} {h : ST}  {q0 : Int32} (F : Fx p s m args meth c cX2_behind 3 "DustParish$Facts" 395 g B)
    {y : Int32} (hr : meth.sig.returnType = (some .int)) (hf : fX2_behind_37 h q0 = some y) : V p l e 1 0 s m args below meth c (MQ below (QO KC 395 g (some (.int y)) h) args s 0 (6 * 0) (fun q => B ≤ q)) KC 395 g B 3 0 h 37 [] [.int q0] := by
  unfold fX2_behind_37 at hf
  exact v_iret (pc := 37) F hr dX2_behind_37 (Option.some.inj hf) rfl (Nat.zero_le _)
set_option maxRecDepth 100000 in
set_option maxHeartbeats 4000000 in
theorem kX2_behind {l : Launch} {g : GE} {B : Nat} {h : ST} {o : Nat} (ho_o : o < 395) (hk_o : KC o = (1, 0)) {a1 : Int32} {a2 : Int32} {y : Int32} (hf : fX2_behind h o a1 a2 = some y) : CT l yX2_behind cX2_behind 3 (some .int) 1 KC 395 g B [.ref (gA g o), .int a1, .int a2] h (some (.int y)) h := by
  refine CT.of pn_X2 (Nat.le_of_ble_eq_true rfl) ?_
  intro p e s m below meth c hr F
  have F : Fx p s m _ meth c cX2_behind 3 "DustParish$Facts" 395 g B := F
  refine V_lv (lv' := [(0, .ref (gA g o)), (1, .int a1), (2, .int a2)]) rfl ?_
  unfold fX2_behind at hf
  refine v_aload_n (pc := 0) (j := 0) F dX2_behind_0 rfl rfl ?_
  refine v_ifl (pc := 1) F fl_X2_24 dX2_behind_1 ho_o hk_o fv_1_6 ?_
  refine v_iload_n (pc := 4) (j := 1) F dX2_behind_4 rfl rfl ?_
  obtain ⟨v1, e2, hf⟩ := bnd_some hf
  refine v_iald (pc := 5) F dX2_behind_5 (ly_1_6 ho_o hk_o).1 (ly_1_6 ho_o hk_o).2 e2 ?_
  refine v_iload_n (pc := 6) (j := 2) F dX2_behind_6 rfl rfl ?_
  refine v_icmp_ne (pc := 7) (tgt := 17) F dX2_behind_7 (by decide) (fun c3 => ?_) (fun c3 => ?_)
  · have hf := ite_f hf c3
    refine v_aload_n (pc := 17) (j := 0) F dX2_behind_17 rfl rfl ?_
    refine v_ifl (pc := 18) F fl_X2_27 dX2_behind_18 ho_o hk_o fv_1_7 ?_
    refine v_iload_n (pc := 21) (j := 1) F dX2_behind_21 rfl rfl ?_
    obtain ⟨v4, e5, hf⟩ := bnd_some hf
    refine v_iald (pc := 22) F dX2_behind_22 (ly_1_7 ho_o hk_o).1 (ly_1_7 ho_o hk_o).2 e5 ?_
    refine v_iload_n (pc := 23) (j := 2) F dX2_behind_23 rfl rfl ?_
    refine v_icmp_ne (pc := 24) (tgt := 36) F dX2_behind_24 (by decide) (fun c6 => ?_) (fun c6 => ?_)
    · have hf := ite_f hf c6
      refine v_iconst (pc := 36) (v := (-1)) F dX2_behind_36 ic_m1 ?_
      refine V.sub (lv' := []) [] rfl ?_
      exact tX2_behind_37 F hr hf
    · have hf := ite_t hf c6
      refine v_aload_n (pc := 27) (j := 0) F dX2_behind_27 rfl rfl ?_
      refine v_ifl (pc := 28) F fl_X2_24 dX2_behind_28 ho_o hk_o fv_1_6 ?_
      refine v_iload_n (pc := 31) (j := 1) F dX2_behind_31 rfl rfl ?_
      obtain ⟨v7, e8, hf⟩ := bnd_some hf
      refine v_iald (pc := 32) F dX2_behind_32 (ly_1_6 ho_o hk_o).1 (ly_1_6 ho_o hk_o).2 e8 ?_
      refine v_goto (pc := 33) (tgt := 37) F dX2_behind_33 (by decide) ?_
      refine V.sub (lv' := []) [] rfl ?_
      exact tX2_behind_37 F hr hf
  · have hf := ite_t hf c3
    refine v_aload_n (pc := 10) (j := 0) F dX2_behind_10 rfl rfl ?_
    refine v_ifl (pc := 11) F fl_X2_27 dX2_behind_11 ho_o hk_o fv_1_7 ?_
    refine v_iload_n (pc := 14) (j := 1) F dX2_behind_14 rfl rfl ?_
    obtain ⟨v9, e10, hf⟩ := bnd_some hf
    refine v_iald (pc := 15) F dX2_behind_15 (ly_1_7 ho_o hk_o).1 (ly_1_7 ho_o hk_o).2 e10 ?_
    exact v_iret (pc := 16) F hr dX2_behind_16 (Option.some.inj hf) rfl (Nat.zero_le _)
def fX2_behindFirstDoor_2 (h : ST) (o : Nat) (l1 : Int32) (s1 : Int32) : Option (Int32 ⊕ (Int32 ⊕ Unit)) :=
  if (h o 5) ≤ s1 then
  some (.inr (.inr ()))
  else
  bnd (fX2_behind h o s1 l1) fun r2 =>
    if r2 = (-1) then
    some (.inl (s1 + 1))
    else
    some (.inr (.inl s1))
def fX2_behindFirstDoor (h : ST) (o : Nat) (a1 : Int32) : Option (Int32) :=
  bnd (lp FU (fX2_behindFirstDoor_2 h o a1) 0) fun x5 =>
  sm x5 (fun v => bnd (fX2_behind h o v a1) fun r7 =>
  some r7) (fun v => some (-1))
set_option maxRecDepth 100000 in
set_option maxHeartbeats 4000000 in
theorem tX2_behindFirstDoor_2 {p : Program} {l : Launch} {e : Env} {s : State} {m : MethodId} {args : Array Value} {below : List Frame} {meth : Method} {c : Code} {g : GE} {B : Nat} {h : ST} {o : Nat} (ho_o : o < 395) (hk_o : KC o = (1, 0)) {l1 : Int32} {Q : State → Prop} {x : (Int32 ⊕ Unit)} {nf : Nat} {s0 : Int32} (F : Fx p s m args meth c cX2_behindFirstDoor 3 "DustParish$Facts" 395 g B) (hX0 : ∀ v : Int32, x = (.inl v) → V p l e 2 0 s m args below meth c Q KC 395 g B 3 0 h 20 [(0, .ref (gA g o)), (1, .int l1), (2, .int v)] []) (hX1 : ∀ v : Unit, x = (.inr v) → V p l e 2 0 s m args below meth c Q KC 395 g B 3 0 h 33 [] []) (hl : lp nf (fX2_behindFirstDoor_2 h o l1) s0 = some x) : V p l e 2 0 s m args below meth c Q KC 395 g B 3 0 h 2 [(0, .ref (gA g o)), (1, .int l1), (2, .int s0)] [] := by
  refine lp_ind (P := fun s0 => V p l e 2 0 s m args below meth c Q KC 395 g B 3 0 h 2 [(0, .ref (gA g o)), (1, .int l1), (2, .int s0)] []) ?_ nf s0 hl
  intro s1 y hf hk hx
  have hx0 : ∀ v : Int32, y = Sum.inr (.inl v) → V p l e 2 0 s m args below meth c Q KC 395 g B 3 0 h 20 [(0, .ref (gA g o)), (1, .int l1), (2, .int v)] [] := fun v e9 => hX0 v (hx _ e9).symm
  have hx1 : ∀ v : Unit, y = Sum.inr (.inr v) → V p l e 2 0 s m args below meth c Q KC 395 g B 3 0 h 33 [] [] := fun v e9 => hX1 v (hx _ e9).symm
  unfold fX2_behindFirstDoor_2 at hf
  refine v_iload_n (pc := 2) (j := 2) F dX2_behindFirstDoor_2 rfl rfl ?_
  refine v_aload_n (pc := 3) (j := 0) F dX2_behindFirstDoor_3 rfl rfl ?_
  refine v_ifl (pc := 4) F fl_X2_62 dX2_behindFirstDoor_4 ho_o hk_o fv_1_5 ?_
  refine v_icmp_ge (pc := 7) (tgt := 33) F dX2_behindFirstDoor_7 (by decide) (fun c1 => ?_) (fun c1 => ?_)
  · have hf := ite_t hf c1
    refine V.sub (lv' := []) [] rfl ?_
    exact hx1 () (Option.some.inj hf).symm
  · have hf := ite_f hf c1
    refine v_aload_n (pc := 10) (j := 0) F dX2_behindFirstDoor_10 rfl rfl ?_
    refine v_iload_n (pc := 11) (j := 2) F dX2_behindFirstDoor_11 rfl rfl ?_
    refine v_iload_n (pc := 12) (j := 1) F dX2_behindFirstDoor_12 rfl rfl ?_
    obtain ⟨r2, e3, hf⟩ := bnd_some hf
    refine v_callVi (pc := 13) (As := [.int s1, .int l1]) F cl_X2_94 dX2_behindFirstDoor_13 (kX2_behind ho_o hk_o e3) ho_o hk_o rc_1 rfl rfl (Nat.le_of_ble_eq_true rfl) (by decide) (Nat.zero_le _) ?_
    refine v_iconst (pc := 16) (v := (-1)) F dX2_behindFirstDoor_16 ic_m1 ?_
    refine v_icmp_eq (pc := 17) (tgt := 27) F dX2_behindFirstDoor_17 (by decide) (fun c4 => ?_) (fun c4 => ?_)
    · have hf := ite_t hf c4
      refine v_iinc (pc := 27) (j := 2) (v := s1 + 1) (lv' := [(0, .ref (gA g o)), (1, .int l1), (2, .int (s1 + 1))]) F dX2_behindFirstDoor_27 rfl (congrArg (fun z => s1 + z) ic_1) (by decide) rfl ?_
      refine v_goto (pc := 30) (tgt := 2) F dX2_behindFirstDoor_30 (by decide) ?_
      exact hk (s1 + 1) (Option.some.inj hf).symm
    · have hf := ite_f hf c4
      exact hx0 s1 (Option.some.inj hf).symm
set_option maxRecDepth 100000 in
set_option maxHeartbeats 4000000 in
theorem kX2_behindFirstDoor {l : Launch} {g : GE} {B : Nat} {h : ST} {o : Nat} (ho_o : o < 395) (hk_o : KC o = (1, 0)) {a1 : Int32} {y : Int32} (hf : fX2_behindFirstDoor h o a1 = some y) : CT l yX2_behindFirstDoor cX2_behindFirstDoor 3 (some .int) 2 KC 395 g B [.ref (gA g o), .int a1] h (some (.int y)) h := by
  refine CT.of pn_X2 (Nat.le_of_ble_eq_true rfl) ?_
  intro p e s m below meth c hr F
  have F : Fx p s m _ meth c cX2_behindFirstDoor 3 "DustParish$Facts" 395 g B := F
  refine V_lv (lv' := [(0, .ref (gA g o)), (1, .int a1)]) rfl ?_
  unfold fX2_behindFirstDoor at hf
  refine v_iconst (pc := 0) (v := 0) F dX2_behindFirstDoor_0 ic_0 ?_
  refine v_istore_n (pc := 1) (lv' := [(0, .ref (gA g o)), (1, .int a1), (2, .int 0)]) F dX2_behindFirstDoor_1 rfl (by decide) rfl ?_
  obtain ⟨x5, e6, hf⟩ := bnd_some hf
  refine tX2_behindFirstDoor_2 (s0 := 0) ho_o hk_o F (fun v e9 => ?_) (fun v e9 => ?_) e6
  · subst e9
    have hf := sm_l hf
    refine v_aload_n (pc := 20) (j := 0) F dX2_behindFirstDoor_20 rfl rfl ?_
    refine v_iload_n (pc := 21) (j := 2) F dX2_behindFirstDoor_21 rfl rfl ?_
    refine v_iload_n (pc := 22) (j := 1) F dX2_behindFirstDoor_22 rfl rfl ?_
    obtain ⟨r7, e8, hf⟩ := bnd_some hf
    refine v_callVi (pc := 23) (As := [.int v, .int a1]) F cl_X2_94 dX2_behindFirstDoor_23 (kX2_behind ho_o hk_o e8) ho_o hk_o rc_1 rfl rfl (Nat.le_of_ble_eq_true rfl) (by decide) (Nat.zero_le _) ?_
    exact v_iret (pc := 26) F hr dX2_behindFirstDoor_26 (Option.some.inj hf) rfl (Nat.zero_le _)
  · subst e9
    have hf := sm_r hf
    refine v_iconst (pc := 33) (v := (-1)) F dX2_behindFirstDoor_33 ic_m1 ?_
    exact v_iret (pc := 34) F hr dX2_behindFirstDoor_34 (Option.some.inj hf) rfl (Nat.zero_le _)
def fX8_bring (h : ST) (o : Nat) (a1 : Int32) (a2 : Int32) (a3 : Int32) : Option (ST) :=
  bnd (rd 9 (h (o + 1)) a1) fun v1 =>
  bnd (wr 9 h (o + 1) a1 (v1 - a3)) fun h3 =>
  bnd (fX8_lay h3 o a2 a3) fun r5 =>
  bnd (rd 9 (r5 (o + 2)) a2) fun v7 =>
  bnd (wr 9 r5 (o + 2) a2 (v7 + a3)) fun h9 =>
  some h9
set_option maxRecDepth 100000 in
set_option maxHeartbeats 4000000 in
theorem kX8_bring {l : Launch} {g : GE} {B : Nat} {h : ST} {o : Nat} (ho_o : o < 395) (hk_o : KC o = (7, 0)) {a1 : Int32} {a2 : Int32} {a3 : Int32} {y : ST} (hf : fX8_bring h o a1 a2 a3 = some y) : CT l yX8_bring cX8_bring 4 none 2 KC 395 g B [.ref (gA g o), .int a1, .int a2, .int a3] h none y := by
  refine CT.of pn_X8 (Nat.le_of_ble_eq_true rfl) ?_
  intro p e s m below meth c hr F
  have F : Fx p s m _ meth c cX8_bring 4 "DustParish$State" 395 g B := F
  refine V_lv (lv' := [(0, .ref (gA g o)), (1, .int a1), (2, .int a2), (3, .int a3)]) rfl ?_
  unfold fX8_bring at hf
  refine v_aload_n (pc := 0) (j := 0) F dX8_bring_0 rfl rfl ?_
  refine v_ifl (pc := 1) F fl_X8_9 dX8_bring_1 ho_o hk_o fv_7_3 ?_
  refine v_iload_n (pc := 4) (j := 1) F dX8_bring_4 rfl rfl ?_
  refine v_dup2_11 (pc := 5) F dX8_bring_5 rfl rfl ?_
  obtain ⟨v1, e2, hf⟩ := bnd_some hf
  refine v_iald (pc := 6) F dX8_bring_6 (ly_7_3 ho_o hk_o).1 (ly_7_3 ho_o hk_o).2 e2 ?_
  refine v_iload_n (pc := 7) (j := 3) F dX8_bring_7 rfl rfl ?_
  refine v_isub (pc := 8) F dX8_bring_8 ?_
  obtain ⟨h3, e4, hf⟩ := bnd_some hf
  refine v_iast (pc := 9) F dX8_bring_9 (ly_7_3 ho_o hk_o).1 (ly_7_3 ho_o hk_o).2 e4 ?_
  refine v_aload_n (pc := 10) (j := 0) F dX8_bring_10 rfl rfl ?_
  refine v_iload_n (pc := 11) (j := 2) F dX8_bring_11 rfl rfl ?_
  refine v_iload_n (pc := 12) (j := 3) F dX8_bring_12 rfl rfl ?_
  obtain ⟨r5, e6, hf⟩ := bnd_some hf
  refine v_callVv (pc := 13) (As := [.int a2, .int a3]) F cl_X8_53 dX8_bring_13 (kX8_lay ho_o hk_o e6) ho_o hk_o rc_7 rfl rfl (Nat.le_of_ble_eq_true rfl) (by decide) (Nat.zero_le _) ?_
  refine v_aload_n (pc := 16) (j := 0) F dX8_bring_16 rfl rfl ?_
  refine v_ifl (pc := 17) F fl_X8_15 dX8_bring_17 ho_o hk_o fv_7_4 ?_
  refine v_iload_n (pc := 20) (j := 2) F dX8_bring_20 rfl rfl ?_
  refine v_dup2_11 (pc := 21) F dX8_bring_21 rfl rfl ?_
  obtain ⟨v7, e8, hf⟩ := bnd_some hf
  refine v_iald (pc := 22) F dX8_bring_22 (ly_7_4 ho_o hk_o).1 (ly_7_4 ho_o hk_o).2 e8 ?_
  refine v_iload_n (pc := 23) (j := 3) F dX8_bring_23 rfl rfl ?_
  refine v_iadd (pc := 24) F dX8_bring_24 ?_
  obtain ⟨h9, e10, hf⟩ := bnd_some hf
  refine v_iast (pc := 25) F dX8_bring_25 (ly_7_4 ho_o hk_o).1 (ly_7_4 ho_o hk_o).2 e10 ?_
  exact v_vret (pc := 26) F hr dX8_bring_26 (Option.some.inj hf) (Nat.zero_le _)
def fX10_happen_54 (h : ST)  : Option (ST) :=
  some h
def fX10_happen_15 (h : ST) (l1 : Int32) (l2 : Int32) : Option (ST) :=
  if l2 = 1 then
  bnd (rf KC 395 1 (h 0 3)) fun f3 =>
    bnd (fX2_behindFirstDoor h f3 l1) fun r5 =>
    if r5 = (-1) then
    fX10_happen_54 h 
    else
    bnd (rd 9 (h 387) l1) fun v8 =>
      bnd (fX8_bring h 386 l1 r5 (v8 / 2)) fun r10 =>
      fX10_happen_54 r10 
  else
  fX10_happen_54 h 
def fX10_happen (h : ST) (a1 : Int32) (a2 : Int32) : Option (ST) :=
  if a2 = 0 then
  bnd (fX8_steal h 386 a1 10) fun r12 =>
    fX10_happen_15 r12.2 a1 a2
  else
  fX10_happen_15 h a1 a2
set_option maxRecDepth 100000 in
set_option maxHeartbeats 4000000 in
theorem tX10_happen_54 {p : Program} {l : Launch} {e : Env} {s : State} {m : MethodId} {args : Array Value} {below : List Frame} {meth : Method} {c : Code} {g : GE} {B : Nat} {h : ST}  (F : Fx p s m args meth c cX10_happen 4 "DustParish" 395 g B)
    {y : ST} (hr : meth.sig.returnType = none) (hf : fX10_happen_54 h  = some y) : V p l e 3 0 s m args below meth c (MQ below (QO KC 395 g none y) args s 0 (6 * 0) (fun q => B ≤ q)) KC 395 g B 4 0 h 54 [] [] := by
  unfold fX10_happen_54 at hf
  exact v_vret (pc := 54) F hr dX10_happen_54 (Option.some.inj hf) (Nat.zero_le _)
set_option maxRecDepth 100000 in
set_option maxHeartbeats 4000000 in
theorem tX10_happen_15 {p : Program} {l : Launch} {e : Env} {s : State} {m : MethodId} {args : Array Value} {below : List Frame} {meth : Method} {c : Code} {g : GE} {B : Nat} {h : ST}  {l1 : Int32} {l2 : Int32} (F : Fx p s m args meth c cX10_happen 4 "DustParish" 395 g B)
    {y : ST} (hr : meth.sig.returnType = none) (hf : fX10_happen_15 h l1 l2 = some y) : V p l e 3 0 s m args below meth c (MQ below (QO KC 395 g none y) args s 0 (6 * 0) (fun q => B ≤ q)) KC 395 g B 4 0 h 15 [(0, .ref (gA g 0)), (1, .int l1), (2, .int l2)] [] := by
  unfold fX10_happen_15 at hf
  refine v_iload_n (pc := 15) (j := 2) F dX10_happen_15 rfl rfl ?_
  refine v_iconst (pc := 16) (v := 1) F dX10_happen_16 ic_1 ?_
  refine v_icmp_ne (pc := 17) (tgt := 54) F dX10_happen_17 (by decide) (fun c2 => ?_) (fun c2 => ?_)
  · have hf := ite_f hf c2
    refine V.sub (lv' := []) [] rfl ?_
    exact tX10_happen_54 F hr hf
  · have hf := ite_t hf c2
    refine v_aload_n (pc := 20) (j := 0) F dX10_happen_20 rfl rfl ?_
    obtain ⟨f3, e4, hf⟩ := bnd_some hf
    obtain ⟨ho_f3, hk_f3, e4⟩ := rf_in e4
    refine v_ifl (pc := 21) F fl_X10_23 dX10_happen_21 kc_0.1 kc_0.2 (fv_9_3 e4) ?_
    refine v_iload_n (pc := 24) (j := 1) F dX10_happen_24 rfl rfl ?_
    obtain ⟨r5, e6, hf⟩ := bnd_some hf
    refine v_callVi (pc := 25) (As := [.int l1]) F cl_X10_346 dX10_happen_25 (kX2_behindFirstDoor ho_f3 hk_f3 e6) ho_f3 hk_f3 rc_1 rfl rfl (Nat.le_of_ble_eq_true rfl) (by decide) (Nat.zero_le _) ?_
    refine v_istore_n (pc := 28) (lv' := [(0, .ref (gA g 0)), (1, .int l1), (2, .int l2), (3, .int r5)]) F dX10_happen_28 rfl (by decide) rfl ?_
    refine v_iload_n (pc := 29) (j := 3) F dX10_happen_29 rfl rfl ?_
    refine v_iconst (pc := 30) (v := (-1)) F dX10_happen_30 ic_m1 ?_
    refine v_icmp_eq (pc := 31) (tgt := 54) F dX10_happen_31 (by decide) (fun c7 => ?_) (fun c7 => ?_)
    · have hf := ite_t hf c7
      refine V.sub (lv' := []) [] rfl ?_
      exact tX10_happen_54 F hr hf
    · have hf := ite_f hf c7
      refine v_aload_n (pc := 34) (j := 0) F dX10_happen_34 rfl rfl ?_
      refine v_ifl (pc := 35) F fl_X10_56 dX10_happen_35 kc_0.1 kc_0.2 fv_9_9 ?_
      refine v_iload_n (pc := 38) (j := 1) F dX10_happen_38 rfl rfl ?_
      refine v_iload_n (pc := 39) (j := 3) F dX10_happen_39 rfl rfl ?_
      refine v_aload_n (pc := 40) (j := 0) F dX10_happen_40 rfl rfl ?_
      refine v_ifl (pc := 41) F fl_X10_56 dX10_happen_41 kc_0.1 kc_0.2 fv_9_9 ?_
      refine v_ifl (pc := 44) F fl_X10_171 dX10_happen_44 kc_386.1 kc_386.2 fv_7_3 ?_
      refine v_iload_n (pc := 47) (j := 1) F dX10_happen_47 rfl rfl ?_
      obtain ⟨v8, e9, hf⟩ := bnd_some hf
      refine v_iald (pc := 48) F dX10_happen_48 kc_387.1 kc_387.2 e9 ?_
      refine v_iconst (pc := 49) (v := 2) F dX10_happen_49 ic_2 ?_
      refine v_idiv (pc := 50) F dX10_happen_50 (by decide) ?_
      obtain ⟨r10, e11, hf⟩ := bnd_some hf
      refine v_callVv (pc := 51) (As := [.int l1, .int r5, .int (v8 / 2)]) F cl_X10_222 dX10_happen_51 (kX8_bring kc_386.1 kc_386.2 e11) kc_386.1 kc_386.2 rc_7 rfl rfl (Nat.le_of_ble_eq_true rfl) (by decide) (Nat.zero_le _) ?_
      refine V.sub (lv' := []) [] rfl ?_
      exact tX10_happen_54 F hr hf
set_option maxRecDepth 100000 in
set_option maxHeartbeats 4000000 in
theorem kX10_happen {l : Launch} {g : GE} {B : Nat} {h : ST} {a1 : Int32} {a2 : Int32} {y : ST} (hf : fX10_happen h a1 a2 = some y) : CT l yX10_happen cX10_happen 4 none 3 KC 395 g B [.ref (gA g 0), .int a1, .int a2] h none y := by
  refine CT.of pn_X10 (Nat.le_of_ble_eq_true rfl) ?_
  intro p e s m below meth c hr F
  have F : Fx p s m _ meth c cX10_happen 4 "DustParish" 395 g B := F
  refine V_lv (lv' := [(0, .ref (gA g 0)), (1, .int a1), (2, .int a2)]) rfl ?_
  unfold fX10_happen at hf
  refine v_iload_n (pc := 0) (j := 2) F dX10_happen_0 rfl rfl ?_
  refine v_if_ne (pc := 1) (tgt := 15) F dX10_happen_1 (by decide) (fun c1 => ?_) (fun c1 => ?_)
  · have hf := ite_f hf c1
    exact tX10_happen_15 F hr hf
  · have hf := ite_t hf c1
    refine v_aload_n (pc := 4) (j := 0) F dX10_happen_4 rfl rfl ?_
    refine v_ifl (pc := 5) F fl_X10_56 dX10_happen_5 kc_0.1 kc_0.2 fv_9_9 ?_
    refine v_iload_n (pc := 8) (j := 1) F dX10_happen_8 rfl rfl ?_
    refine v_bipush (pc := 9) (v := 10) F dX10_happen_9 bp_10 ?_
    obtain ⟨r12, e13, hf⟩ := bnd_some hf
    refine v_callVi (pc := 11) (As := [.int a1, .int 10]) F cl_X10_226 dX10_happen_11 (kX8_steal kc_386.1 kc_386.2 e13) kc_386.1 kc_386.2 rc_7 rfl rfl (Nat.le_of_ble_eq_true rfl) (by decide) (Nat.zero_le _) ?_
    refine v_pop (pc := 14) F dX10_happen_14 rfl ?_
    exact tX10_happen_15 F hr hf
def fX10_heresy_16 (s1 : (ST × Int32)) : Option ((ST × Int32) ⊕ ((ST × Int32) ⊕ ST)) :=
  if 99 < s1.2 then
  some (.inr (.inr s1.1))
  else
  bnd (rf KC 395 1 (s1.1 0 3)) fun f4 =>
    bnd (fX1_heretics s1.1 f4 386) fun r6 =>
    if r6 = 0 then
    bnd (rf KC 395 1 (s1.1 0 3)) fun f9 =>
      bnd (fX1_passMany s1.1 f9 386 1) fun r11 =>
      some (.inl (r11, s1.2 + 1))
    else
    some (.inr (.inl (s1.1, s1.2)))
def fX10_heresy (h : ST) : Option (Int32 × ST) :=
  bnd (fX8_copy h 386 43) fun r1 =>
  bnd (lp FU (fX10_heresy_16) (r1, 0)) fun x13 =>
  sm x13 (fun v => some (v.2, v.1)) (fun v => some ((-1), v))
set_option maxRecDepth 100000 in
set_option maxHeartbeats 4000000 in
theorem tX10_heresy_16 {p : Program} {l : Launch} {e : Env} {s : State} {m : MethodId} {args : Array Value} {below : List Frame} {meth : Method} {c : Code} {g : GE} {B : Nat}  {Q : State → Prop} {x : ((ST × Int32) ⊕ ST)} {nf : Nat} {s0 : (ST × Int32)} (F : Fx p s m args meth c cX10_heresy 2 "DustParish" 395 g B) (hX0 : ∀ v : (ST × Int32), x = (.inl v) → V p l e 7 0 s m args below meth c Q KC 395 g B 2 0 v.1 36 [(1, .int v.2)] []) (hX1 : ∀ v : ST, x = (.inr v) → V p l e 7 0 s m args below meth c Q KC 395 g B 2 0 v 56 [] []) (hl : lp nf (fX10_heresy_16) s0 = some x) : V p l e 7 0 s m args below meth c Q KC 395 g B 2 0 s0.1 16 [(0, .ref (gA g 0)), (1, .int s0.2)] [] := by
  refine lp_ind (P := fun s0 => V p l e 7 0 s m args below meth c Q KC 395 g B 2 0 s0.1 16 [(0, .ref (gA g 0)), (1, .int s0.2)] []) ?_ nf s0 hl
  intro s1 y hf hk hx
  have hx0 : ∀ v : (ST × Int32), y = Sum.inr (.inl v) → V p l e 7 0 s m args below meth c Q KC 395 g B 2 0 v.1 36 [(1, .int v.2)] [] := fun v e9 => hX0 v (hx _ e9).symm
  have hx1 : ∀ v : ST, y = Sum.inr (.inr v) → V p l e 7 0 s m args below meth c Q KC 395 g B 2 0 v 56 [] [] := fun v e9 => hX1 v (hx _ e9).symm
  unfold fX10_heresy_16 at hf
  refine v_iload_n (pc := 16) (j := 1) F dX10_heresy_16 rfl rfl ?_
  refine v_bipush (pc := 17) (v := 99) F dX10_heresy_17 bp_99 ?_
  refine v_icmp_gt (pc := 19) (tgt := 56) F dX10_heresy_19 (by decide) (fun c3 => ?_) (fun c3 => ?_)
  · have hf := ite_t hf c3
    refine V.sub (lv' := []) [] rfl ?_
    exact hx1 s1.1 (Option.some.inj hf).symm
  · have hf := ite_f hf c3
    refine v_aload_n (pc := 22) (j := 0) F dX10_heresy_22 rfl rfl ?_
    obtain ⟨f4, e5, hf⟩ := bnd_some hf
    obtain ⟨ho_f4, hk_f4, e5⟩ := rf_in e5
    refine v_ifl (pc := 23) F fl_X10_23 dX10_heresy_23 kc_0.1 kc_0.2 (fv_9_3 e5) ?_
    refine v_aload_n (pc := 26) (j := 0) F dX10_heresy_26 rfl rfl ?_
    refine v_ifl (pc := 27) F fl_X10_56 dX10_heresy_27 kc_0.1 kc_0.2 fv_9_9 ?_
    obtain ⟨r6, e7, hf⟩ := bnd_some hf
    refine v_callSi (pc := 30) (As := [.ref (gA g f4), .ref (gA g 386)]) F cl_X10_140 dX10_heresy_30 (kX1_heretics ho_f4 hk_f4 kc_386.1 kc_386.2 e7) rfl rfl (Nat.le_of_ble_eq_true rfl) (by decide) (Nat.zero_le _) ?_
    refine v_if_eq (pc := 33) (tgt := 38) F dX10_heresy_33 (by decide) (fun c8 => ?_) (fun c8 => ?_)
    · have hf := ite_t hf c8
      refine v_aload_n (pc := 38) (j := 0) F dX10_heresy_38 rfl rfl ?_
      obtain ⟨f9, e10, hf⟩ := bnd_some hf
      obtain ⟨ho_f9, hk_f9, e10⟩ := rf_in e10
      refine v_ifl (pc := 39) F fl_X10_23 dX10_heresy_39 kc_0.1 kc_0.2 (fv_9_3 e10) ?_
      refine v_aload_n (pc := 42) (j := 0) F dX10_heresy_42 rfl rfl ?_
      refine v_ifl (pc := 43) F fl_X10_56 dX10_heresy_43 kc_0.1 kc_0.2 fv_9_9 ?_
      refine v_iconst (pc := 46) (v := 1) F dX10_heresy_46 ic_1 ?_
      obtain ⟨r11, e12, hf⟩ := bnd_some hf
      refine v_callSv (pc := 47) (As := [.ref (gA g f9), .ref (gA g 386), .int 1]) F cl_X10_214 dX10_heresy_47 (kX1_passMany ho_f9 hk_f9 kc_386.1 kc_386.2 e12) rfl rfl (Nat.le_of_ble_eq_true rfl) (by decide) (Nat.zero_le _) ?_
      refine v_iinc (pc := 50) (j := 1) (v := s1.2 + 1) (lv' := [(0, .ref (gA g 0)), (1, .int (s1.2 + 1))]) F dX10_heresy_50 rfl (congrArg (fun z => s1.2 + z) ic_1) (by decide) rfl ?_
      refine v_goto (pc := 53) (tgt := 16) F dX10_heresy_53 (by decide) ?_
      exact hk (r11, s1.2 + 1) (Option.some.inj hf).symm
    · have hf := ite_f hf c8
      refine V.sub (lv' := [(1, .int s1.2)]) [1] rfl ?_
      exact hx0 (s1.1, s1.2) (Option.some.inj hf).symm
set_option maxRecDepth 100000 in
set_option maxHeartbeats 4000000 in
theorem kX10_heresy {l : Launch} {g : GE} {B : Nat} {h : ST} {y : Int32 × ST} (hf : fX10_heresy h = some y) : CT l yX10_heresy cX10_heresy 2 (some .int) 7 KC 395 g B [.ref (gA g 0)] h (some (.int y.1)) y.2 := by
  refine CT.of pn_X10 (Nat.le_of_ble_eq_true rfl) ?_
  intro p e s m below meth c hr F
  have F : Fx p s m _ meth c cX10_heresy 2 "DustParish" 395 g B := F
  refine V_lv (lv' := [(0, .ref (gA g 0))]) rfl ?_
  unfold fX10_heresy at hf
  refine v_aload_n (pc := 0) (j := 0) F dX10_heresy_0 rfl rfl ?_
  refine v_ifl (pc := 1) F fl_X10_56 dX10_heresy_1 kc_0.1 kc_0.2 fv_9_9 ?_
  refine v_aload_n (pc := 4) (j := 0) F dX10_heresy_4 rfl rfl ?_
  refine v_ifl (pc := 5) F fl_X10_42 dX10_heresy_5 kc_0.1 kc_0.2 fv_9_6 ?_
  refine v_ifl (pc := 8) F fl_X10_122 dX10_heresy_8 kc_42.1 kc_42.2 fv_2_0 ?_
  obtain ⟨r1, e2, hf⟩ := bnd_some hf
  refine v_callVv (pc := 11) (As := [.ref (gA g 43)]) F cl_X10_241 dX10_heresy_11 (kX8_copy kc_386.1 kc_386.2 kc_43.1 kc_43.2 e2) kc_386.1 kc_386.2 rc_7 rfl rfl (Nat.le_of_ble_eq_true rfl) (by decide) (Nat.zero_le _) ?_
  refine v_iconst (pc := 14) (v := 0) F dX10_heresy_14 ic_0 ?_
  refine v_istore_n (pc := 15) (lv' := [(0, .ref (gA g 0)), (1, .int 0)]) F dX10_heresy_15 rfl (by decide) rfl ?_
  obtain ⟨x13, e14, hf⟩ := bnd_some hf
  refine tX10_heresy_16 (s0 := (r1, 0)) F (fun v e9 => ?_) (fun v e9 => ?_) e14
  · subst e9
    have hf := sm_l hf
    refine v_iload_n (pc := 36) (j := 0) F dX10_heresy_36 rfl rfl ?_
    exact v_iret (pc := 37) F hr dX10_heresy_37 (some_fst hf) (some_snd hf) (Nat.zero_le _)
  · subst e9
    have hf := sm_r hf
    refine v_iconst (pc := 56) (v := (-1)) F dX10_heresy_56 ic_m1 ?_
    exact v_iret (pc := 57) F hr dX10_heresy_57 (some_fst hf) (some_snd hf) (Nat.zero_le _)
def fX0_copy_18 (o : Nat) (o1 : Nat) (s1 : (ST × Int32)) : Option ((ST × Int32) ⊕ ST) :=
  if 40 ≤ s1.2 then
  some (.inr s1.1)
  else
  bnd (bst (o + 1) s1.2) fun f6 =>
    bnd (bst (o1 + 1) s1.2) fun f8 =>
    bnd (fX8_copy s1.1 f6 f8) fun r10 =>
    some (.inl (r10, s1.2 + 1))
def fX0_copy (h : ST) (o : Nat) (o1 : Nat) : Option (ST) :=
  bnd (pw h o 0 (h o1 0)) fun h1 =>
  bnd (pw h1 o 1 (h1 o1 1)) fun h3 =>
  bnd (lp FU (fX0_copy_18 o o1) (h3, 0)) fun x12 =>
  some x12
set_option maxRecDepth 100000 in
set_option maxHeartbeats 4000000 in
theorem tX0_copy_18 {p : Program} {l : Launch} {e : Env} {s : State} {m : MethodId} {args : Array Value} {below : List Frame} {meth : Method} {c : Code} {g : GE} {B : Nat} {o : Nat} (ho_o : o < 395) (hk_o : KC o = (0, 0)) {o1 : Nat} (ho_o1 : o1 < 395) (hk_o1 : KC o1 = (0, 0)) {Q : State → Prop} {x : ST} {nf : Nat} {s0 : (ST × Int32)} (F : Fx p s m args meth c cX0_copy 3 "DustParish$Acts" 395 g B) (hX0 : V p l e 2 0 s m args below meth c Q KC 395 g B 3 0 x 45 [] []) (hl : lp nf (fX0_copy_18 o o1) s0 = some x) : V p l e 2 0 s m args below meth c Q KC 395 g B 3 0 s0.1 18 [(0, .ref (gA g o)), (1, .ref (gA g o1)), (2, .int s0.2)] [] := by
  refine lp_ind (P := fun s0 => V p l e 2 0 s m args below meth c Q KC 395 g B 3 0 s0.1 18 [(0, .ref (gA g o)), (1, .ref (gA g o1)), (2, .int s0.2)] []) ?_ nf s0 hl
  intro s1 y hf hk hx
  have hx0 : ∀ v : ST, y = Sum.inr v → V p l e 2 0 s m args below meth c Q KC 395 g B 3 0 v 45 [] [] := fun v e9 => by rw [hx v e9]; exact hX0
  unfold fX0_copy_18 at hf
  refine v_iload_n (pc := 18) (j := 2) F dX0_copy_18 rfl rfl ?_
  refine v_bipush (pc := 19) (v := 40) F dX0_copy_19 bp_40 ?_
  refine v_icmp_ge (pc := 21) (tgt := 45) F dX0_copy_21 (by decide) (fun c5 => ?_) (fun c5 => ?_)
  · have hf := ite_t hf c5
    refine V.sub (lv' := []) [] rfl ?_
    exact hx0 s1.1 (Option.some.inj hf).symm
  · have hf := ite_f hf c5
    refine v_aload_n (pc := 24) (j := 0) F dX0_copy_24 rfl rfl ?_
    refine v_ifl (pc := 25) F fl_X0_20 dX0_copy_25 ho_o hk_o fv_0_2 ?_
    refine v_iload_n (pc := 28) (j := 2) F dX0_copy_28 rfl rfl ?_
    obtain ⟨f6, e7, hf⟩ := bnd_some hf
    obtain ⟨ho_f6, hk_f6, hv_f6, e7⟩ := bst_in (ly_0_2 ho_o hk_o).1 (ly_0_2 ho_o hk_o).2 e7
    refine v_aald (pc := 29) (v := .ref (gA g f6)) F dX0_copy_29 (ly_0_2 ho_o hk_o).1 (ly_0_2 ho_o hk_o).2 (by decide) (by decide) hv_f6 (av23 e7) ?_
    refine v_aload_n (pc := 30) (j := 1) F dX0_copy_30 rfl rfl ?_
    refine v_ifl (pc := 31) F fl_X0_20 dX0_copy_31 ho_o1 hk_o1 fv_0_2 ?_
    refine v_iload_n (pc := 34) (j := 2) F dX0_copy_34 rfl rfl ?_
    obtain ⟨f8, e9, hf⟩ := bnd_some hf
    obtain ⟨ho_f8, hk_f8, hv_f8, e9⟩ := bst_in (ly_0_2 ho_o1 hk_o1).1 (ly_0_2 ho_o1 hk_o1).2 e9
    refine v_aald (pc := 35) (v := .ref (gA g f8)) F dX0_copy_35 (ly_0_2 ho_o1 hk_o1).1 (ly_0_2 ho_o1 hk_o1).2 (by decide) (by decide) hv_f8 (av23 e9) ?_
    obtain ⟨r10, e11, hf⟩ := bnd_some hf
    refine v_callVv (pc := 36) (As := [.ref (gA g f8)]) F cl_X0_25 dX0_copy_36 (kX8_copy ho_f6 hk_f6 ho_f8 hk_f8 e11) ho_f6 hk_f6 rc_7 rfl rfl (Nat.le_of_ble_eq_true rfl) (by decide) (Nat.zero_le _) ?_
    refine v_iinc (pc := 39) (j := 2) (v := s1.2 + 1) (lv' := [(0, .ref (gA g o)), (1, .ref (gA g o1)), (2, .int (s1.2 + 1))]) F dX0_copy_39 rfl (congrArg (fun z => s1.2 + z) ic_1) (by decide) rfl ?_
    refine v_goto (pc := 42) (tgt := 18) F dX0_copy_42 (by decide) ?_
    exact hk (r10, s1.2 + 1) (Option.some.inj hf).symm
set_option maxRecDepth 100000 in
set_option maxHeartbeats 4000000 in
theorem kX0_copy {l : Launch} {g : GE} {B : Nat} {h : ST} {o : Nat} (ho_o : o < 395) (hk_o : KC o = (0, 0)) {o1 : Nat} (ho_o1 : o1 < 395) (hk_o1 : KC o1 = (0, 0)) {y : ST} (hf : fX0_copy h o o1 = some y) : CT l yX0_copy cX0_copy 3 none 2 KC 395 g B [.ref (gA g o), .ref (gA g o1)] h none y := by
  refine CT.of pn_X0 (Nat.le_of_ble_eq_true rfl) ?_
  intro p e s m below meth c hr F
  have F : Fx p s m _ meth c cX0_copy 3 "DustParish$Acts" 395 g B := F
  refine V_lv (lv' := [(0, .ref (gA g o)), (1, .ref (gA g o1))]) rfl ?_
  unfold fX0_copy at hf
  refine v_aload_n (pc := 0) (j := 0) F dX0_copy_0 rfl rfl ?_
  refine v_aload_n (pc := 1) (j := 1) F dX0_copy_1 rfl rfl ?_
  refine v_ifl (pc := 2) F fl_X0_9 dX0_copy_2 ho_o1 hk_o1 fv_0_0 ?_
  obtain ⟨h1, e2, hf⟩ := bnd_some hf
  refine v_pfl (pc := 5) F fl_X0_9 pl_0_0 dX0_copy_5 ho_o hk_o fv_0_0 rfl rfl e2 ?_
  refine v_aload_n (pc := 8) (j := 0) F dX0_copy_8 rfl rfl ?_
  refine v_aload_n (pc := 9) (j := 1) F dX0_copy_9 rfl rfl ?_
  refine v_ifl (pc := 10) F fl_X0_15 dX0_copy_10 ho_o1 hk_o1 fv_0_1 ?_
  obtain ⟨h3, e4, hf⟩ := bnd_some hf
  refine v_pfl (pc := 13) F fl_X0_15 pl_0_1 dX0_copy_13 ho_o hk_o fv_0_1 rfl rfl e4 ?_
  refine v_iconst (pc := 16) (v := 0) F dX0_copy_16 ic_0 ?_
  refine v_istore_n (pc := 17) (lv' := [(0, .ref (gA g o)), (1, .ref (gA g o1)), (2, .int 0)]) F dX0_copy_17 rfl (by decide) rfl ?_
  obtain ⟨x12, e13, hf⟩ := bnd_some hf
  refine tX0_copy_18 (s0 := (h3, 0)) ho_o hk_o ho_o1 hk_o1 F ?_ e13
  exact v_vret (pc := 45) F hr dX0_copy_45 (Option.some.inj hf) (Nat.zero_le _)
def fX7_copy (h : ST) (o : Nat) (o1 : Nat) : Option (ST) :=
  bnd (pw h o 0 (h o1 0)) fun h1 =>
  bnd (acp 8 8 h1 (o1 + 1) (o + 1) 0 0 8) fun h3 =>
  bnd (acp 8 8 h3 (o1 + 2) (o + 2) 0 0 8) fun h5 =>
  bnd (acp 8 8 h5 (o1 + 3) (o + 3) 0 0 8) fun h7 =>
  some h7
set_option maxRecDepth 100000 in
set_option maxHeartbeats 4000000 in
theorem kX7_copy {l : Launch} {g : GE} {B : Nat} {h : ST} {o : Nat} (ho_o : o < 395) (hk_o : KC o = (6, 0)) {o1 : Nat} (ho_o1 : o1 < 395) (hk_o1 : KC o1 = (6, 0)) {y : ST} (hf : fX7_copy h o o1 = some y) : CT l yX7_copy cX7_copy 2 none 1 KC 395 g B [.ref (gA g o), .ref (gA g o1)] h none y := by
  refine CT.of pn_X7 (Nat.le_of_ble_eq_true rfl) ?_
  intro p e s m below meth c hr F
  have F : Fx p s m _ meth c cX7_copy 2 "DustParish$Sights" 395 g B := F
  refine V_lv (lv' := [(0, .ref (gA g o)), (1, .ref (gA g o1))]) rfl ?_
  unfold fX7_copy at hf
  refine v_aload_n (pc := 0) (j := 0) F dX7_copy_0 rfl rfl ?_
  refine v_aload_n (pc := 1) (j := 1) F dX7_copy_1 rfl rfl ?_
  refine v_ifl (pc := 2) F fl_X7_9 dX7_copy_2 ho_o1 hk_o1 fv_6_0 ?_
  obtain ⟨h1, e2, hf⟩ := bnd_some hf
  refine v_pfl (pc := 5) F fl_X7_9 pl_6_0 dX7_copy_5 ho_o hk_o fv_6_0 rfl rfl e2 ?_
  refine v_aload_n (pc := 8) (j := 1) F dX7_copy_8 rfl rfl ?_
  refine v_ifl (pc := 9) F fl_X7_15 dX7_copy_9 ho_o1 hk_o1 fv_6_1 ?_
  refine v_iconst (pc := 12) (v := 0) F dX7_copy_12 ic_0 ?_
  refine v_aload_n (pc := 13) (j := 0) F dX7_copy_13 rfl rfl ?_
  refine v_ifl (pc := 14) F fl_X7_15 dX7_copy_14 ho_o hk_o fv_6_1 ?_
  refine v_iconst (pc := 17) (v := 0) F dX7_copy_17 ic_0 ?_
  refine v_bipush (pc := 18) (v := 8) F dX7_copy_18 bp_8 ?_
  obtain ⟨h3, e4, hf⟩ := bnd_some hf
  refine v_copy (pc := 20) F tw_553 acpW dX7_copy_20 (ly_6_1 ho_o1 hk_o1).1 (ly_6_1 ho_o1 hk_o1).2 (ly_6_1 ho_o hk_o).1 (ly_6_1 ho_o hk_o).2 e4 (by decide) (Nat.le_of_ble_eq_true rfl) ?_
  refine v_aload_n (pc := 23) (j := 1) F dX7_copy_23 rfl rfl ?_
  refine v_ifl (pc := 24) F fl_X7_19 dX7_copy_24 ho_o1 hk_o1 fv_6_2 ?_
  refine v_iconst (pc := 27) (v := 0) F dX7_copy_27 ic_0 ?_
  refine v_aload_n (pc := 28) (j := 0) F dX7_copy_28 rfl rfl ?_
  refine v_ifl (pc := 29) F fl_X7_19 dX7_copy_29 ho_o hk_o fv_6_2 ?_
  refine v_iconst (pc := 32) (v := 0) F dX7_copy_32 ic_0 ?_
  refine v_bipush (pc := 33) (v := 8) F dX7_copy_33 bp_8 ?_
  obtain ⟨h5, e6, hf⟩ := bnd_some hf
  refine v_copy (pc := 35) F tw_553 acpW dX7_copy_35 (ly_6_2 ho_o1 hk_o1).1 (ly_6_2 ho_o1 hk_o1).2 (ly_6_2 ho_o hk_o).1 (ly_6_2 ho_o hk_o).2 e6 (by decide) (Nat.le_of_ble_eq_true rfl) ?_
  refine v_aload_n (pc := 38) (j := 1) F dX7_copy_38 rfl rfl ?_
  refine v_ifl (pc := 39) F fl_X7_22 dX7_copy_39 ho_o1 hk_o1 fv_6_3 ?_
  refine v_iconst (pc := 42) (v := 0) F dX7_copy_42 ic_0 ?_
  refine v_aload_n (pc := 43) (j := 0) F dX7_copy_43 rfl rfl ?_
  refine v_ifl (pc := 44) F fl_X7_22 dX7_copy_44 ho_o hk_o fv_6_3 ?_
  refine v_iconst (pc := 47) (v := 0) F dX7_copy_47 ic_0 ?_
  refine v_bipush (pc := 48) (v := 8) F dX7_copy_48 bp_8 ?_
  obtain ⟨h7, e8, hf⟩ := bnd_some hf
  refine v_copy (pc := 50) F tw_553 acpW dX7_copy_50 (ly_6_3 ho_o1 hk_o1).1 (ly_6_3 ho_o1 hk_o1).2 (ly_6_3 ho_o hk_o).1 (ly_6_3 ho_o hk_o).2 e8 (by decide) (Nat.le_of_ble_eq_true rfl) ?_
  exact v_vret (pc := 53) F hr dX7_copy_53 (Option.some.inj hf) (Nat.zero_le _)
def fX3_copy (h : ST) (o : Nat) (o1 : Nat) : Option (ST) :=
  bnd (fX8_copy h (o + 1) (o1 + 1)) fun r1 =>
  bnd (fX0_copy r1 (o + 5) (o1 + 5)) fun r3 =>
  bnd (fX7_copy r3 (o + 167) (o1 + 167)) fun r5 =>
  bnd (acp 3 3 r5 (o1 + 171) (o + 171) 0 0 (Int32.ofNat 3)) fun h7 =>
  some h7
set_option maxRecDepth 100000 in
set_option maxHeartbeats 4000000 in
theorem kX3_copy {l : Launch} {g : GE} {B : Nat} {h : ST} {o : Nat} (ho_o : o < 395) (hk_o : KC o = (2, 0)) {o1 : Nat} (ho_o1 : o1 < 395) (hk_o1 : KC o1 = (2, 0)) {y : ST} (hf : fX3_copy h o o1 = some y) : CT l yX3_copy cX3_copy 2 none 3 KC 395 g B [.ref (gA g o), .ref (gA g o1)] h none y := by
  refine CT.of pn_X3 (Nat.le_of_ble_eq_true rfl) ?_
  intro p e s m below meth c hr F
  have F : Fx p s m _ meth c cX3_copy 2 "DustParish$Present" 395 g B := F
  refine V_lv (lv' := [(0, .ref (gA g o)), (1, .ref (gA g o1))]) rfl ?_
  unfold fX3_copy at hf
  refine v_aload_n (pc := 0) (j := 0) F dX3_copy_0 rfl rfl ?_
  refine v_ifl (pc := 1) F fl_X3_10 dX3_copy_1 ho_o hk_o fv_2_0 ?_
  refine v_aload_n (pc := 4) (j := 1) F dX3_copy_4 rfl rfl ?_
  refine v_ifl (pc := 5) F fl_X3_10 dX3_copy_5 ho_o1 hk_o1 fv_2_0 ?_
  obtain ⟨r1, e2, hf⟩ := bnd_some hf
  refine v_callVv (pc := 8) (As := [.ref (gA g (o1 + 1))]) F cl_X3_43 dX3_copy_8 (kX8_copy (ly_2_0 ho_o hk_o).1 (ly_2_0 ho_o hk_o).2 (ly_2_0 ho_o1 hk_o1).1 (ly_2_0 ho_o1 hk_o1).2 e2) (ly_2_0 ho_o hk_o).1 (ly_2_0 ho_o hk_o).2 rc_7 rfl rfl (Nat.le_of_ble_eq_true rfl) (by decide) (Nat.zero_le _) ?_
  refine v_aload_n (pc := 11) (j := 0) F dX3_copy_11 rfl rfl ?_
  refine v_ifl (pc := 12) F fl_X3_19 dX3_copy_12 ho_o hk_o fv_2_1 ?_
  refine v_aload_n (pc := 15) (j := 1) F dX3_copy_15 rfl rfl ?_
  refine v_ifl (pc := 16) F fl_X3_19 dX3_copy_16 ho_o1 hk_o1 fv_2_1 ?_
  obtain ⟨r3, e4, hf⟩ := bnd_some hf
  refine v_callVv (pc := 19) (As := [.ref (gA g (o1 + 5))]) F cl_X3_47 dX3_copy_19 (kX0_copy (ly_2_1 ho_o hk_o).1 (ly_2_1 ho_o hk_o).2 (ly_2_1 ho_o1 hk_o1).1 (ly_2_1 ho_o1 hk_o1).2 e4) (ly_2_1 ho_o hk_o).1 (ly_2_1 ho_o hk_o).2 rc_0 rfl rfl (Nat.le_of_ble_eq_true rfl) (by decide) (Nat.zero_le _) ?_
  refine v_aload_n (pc := 22) (j := 0) F dX3_copy_22 rfl rfl ?_
  refine v_ifl (pc := 23) F fl_X3_26 dX3_copy_23 ho_o hk_o fv_2_2 ?_
  refine v_aload_n (pc := 26) (j := 1) F dX3_copy_26 rfl rfl ?_
  refine v_ifl (pc := 27) F fl_X3_26 dX3_copy_27 ho_o1 hk_o1 fv_2_2 ?_
  obtain ⟨r5, e6, hf⟩ := bnd_some hf
  refine v_callVv (pc := 30) (As := [.ref (gA g (o1 + 167))]) F cl_X3_50 dX3_copy_30 (kX7_copy (ly_2_2 ho_o hk_o).1 (ly_2_2 ho_o hk_o).2 (ly_2_2 ho_o1 hk_o1).1 (ly_2_2 ho_o1 hk_o1).2 e6) (ly_2_2 ho_o hk_o).1 (ly_2_2 ho_o hk_o).2 rc_6 rfl rfl (Nat.le_of_ble_eq_true rfl) (by decide) (Nat.zero_le _) ?_
  refine v_aload_n (pc := 33) (j := 1) F dX3_copy_33 rfl rfl ?_
  refine v_ifl (pc := 34) F fl_X3_30 dX3_copy_34 ho_o1 hk_o1 fv_2_3 ?_
  refine v_iconst (pc := 37) (v := 0) F dX3_copy_37 ic_0 ?_
  refine v_aload_n (pc := 38) (j := 0) F dX3_copy_38 rfl rfl ?_
  refine v_ifl (pc := 39) F fl_X3_30 dX3_copy_39 ho_o hk_o fv_2_3 ?_
  refine v_iconst (pc := 42) (v := 0) F dX3_copy_42 ic_0 ?_
  refine v_aload_n (pc := 43) (j := 0) F dX3_copy_43 rfl rfl ?_
  refine v_ifl (pc := 44) F fl_X3_30 dX3_copy_44 ho_o hk_o fv_2_3 ?_
  refine v_alen (pc := 47) (v := Int32.ofNat 3) F dX3_copy_47 (ly_2_3 ho_o hk_o).1 (ly_2_3 ho_o hk_o).2 (by decide) (by decide) rfl ?_
  obtain ⟨h7, e8, hf⟩ := bnd_some hf
  refine v_copy (pc := 48) F tw_554 acpW dX3_copy_48 (ly_2_3 ho_o1 hk_o1).1 (ly_2_3 ho_o1 hk_o1).2 (ly_2_3 ho_o hk_o).1 (ly_2_3 ho_o hk_o).2 e8 (by decide) (Nat.le_of_ble_eq_true rfl) ?_
  exact v_vret (pc := 51) F hr dX3_copy_51 (Option.some.inj hf) (Nat.zero_le _)
def fX10_image (h : ST) : Option (ST) :=
  bnd (fX3_copy h 214 42) fun r1 =>
  bnd (pw r1 0 8 1) fun h3 =>
  some h3
set_option maxRecDepth 100000 in
set_option maxHeartbeats 4000000 in
theorem kX10_image {l : Launch} {g : GE} {B : Nat} {h : ST} {y : ST} (hf : fX10_image h = some y) : CT l yX10_image cX10_image 1 none 4 KC 395 g B [.ref (gA g 0)] h none y := by
  refine CT.of pn_X10 (Nat.le_of_ble_eq_true rfl) ?_
  intro p e s m below meth c hr F
  have F : Fx p s m _ meth c cX10_image 1 "DustParish" 395 g B := F
  refine V_lv (lv' := [(0, .ref (gA g 0))]) rfl ?_
  unfold fX10_image at hf
  refine v_aload_n (pc := 0) (j := 0) F dX10_image_0 rfl rfl ?_
  refine v_ifl (pc := 1) F fl_X10_46 dX10_image_1 kc_0.1 kc_0.2 fv_9_7 ?_
  refine v_aload_n (pc := 4) (j := 0) F dX10_image_4 rfl rfl ?_
  refine v_ifl (pc := 5) F fl_X10_42 dX10_image_5 kc_0.1 kc_0.2 fv_9_6 ?_
  obtain ⟨r1, e2, hf⟩ := bnd_some hf
  refine v_callVv (pc := 8) (As := [.ref (gA g 42)]) F cl_X10_349 dX10_image_8 (kX3_copy kc_214.1 kc_214.2 kc_42.1 kc_42.2 e2) kc_214.1 kc_214.2 rc_2 rfl rfl (Nat.le_of_ble_eq_true rfl) (by decide) (Nat.zero_le _) ?_
  refine v_aload_n (pc := 11) (j := 0) F dX10_image_11 rfl rfl ?_
  refine v_iconst (pc := 12) (v := 1) F dX10_image_12 ic_1 ?_
  obtain ⟨h3, e4, hf⟩ := bnd_some hf
  refine v_pfl (pc := 13) F fl_X10_49 pl_9_8 dX10_image_13 kc_0.1 kc_0.2 fv_9_8 rfl rfl e4 ?_
  exact v_vret (pc := 16) F hr dX10_image_16 (Option.some.inj hf) (Nat.zero_le _)
def fX2_hasDoor_2 (h : ST) (o : Nat) (l1 : Int32) (l2 : Int32) (s1 : Int32) : Option (Int32 ⊕ (Unit ⊕ Unit)) :=
  if (h o 5) ≤ s1 then
  some (.inr (.inr ()))
  else
  bnd (fX2_behind h o s1 l1) fun r2 =>
    if r2 = l2 then
    some (.inr (.inl ()))
    else
    some (.inl (s1 + 1))
def fX2_hasDoor (h : ST) (o : Nat) (a1 : Int32) (a2 : Int32) : Option (Int32) :=
  bnd (lp FU (fX2_hasDoor_2 h o a1 a2) 0) fun x5 =>
  sm x5 (fun v => some 1) (fun v => some 0)
set_option maxRecDepth 100000 in
set_option maxHeartbeats 4000000 in
theorem tX2_hasDoor_2 {p : Program} {l : Launch} {e : Env} {s : State} {m : MethodId} {args : Array Value} {below : List Frame} {meth : Method} {c : Code} {g : GE} {B : Nat} {h : ST} {o : Nat} (ho_o : o < 395) (hk_o : KC o = (1, 0)) {l1 : Int32} {l2 : Int32} {Q : State → Prop} {x : (Unit ⊕ Unit)} {nf : Nat} {s0 : Int32} (F : Fx p s m args meth c cX2_hasDoor 4 "DustParish$Facts" 395 g B) (hX0 : ∀ v : Unit, x = (.inl v) → V p l e 2 0 s m args below meth c Q KC 395 g B 4 0 h 20 [] []) (hX1 : ∀ v : Unit, x = (.inr v) → V p l e 2 0 s m args below meth c Q KC 395 g B 4 0 h 28 [] []) (hl : lp nf (fX2_hasDoor_2 h o l1 l2) s0 = some x) : V p l e 2 0 s m args below meth c Q KC 395 g B 4 0 h 2 [(0, .ref (gA g o)), (1, .int l1), (2, .int l2), (3, .int s0)] [] := by
  refine lp_ind (P := fun s0 => V p l e 2 0 s m args below meth c Q KC 395 g B 4 0 h 2 [(0, .ref (gA g o)), (1, .int l1), (2, .int l2), (3, .int s0)] []) ?_ nf s0 hl
  intro s1 y hf hk hx
  have hx0 : ∀ v : Unit, y = Sum.inr (.inl v) → V p l e 2 0 s m args below meth c Q KC 395 g B 4 0 h 20 [] [] := fun v e9 => hX0 v (hx _ e9).symm
  have hx1 : ∀ v : Unit, y = Sum.inr (.inr v) → V p l e 2 0 s m args below meth c Q KC 395 g B 4 0 h 28 [] [] := fun v e9 => hX1 v (hx _ e9).symm
  unfold fX2_hasDoor_2 at hf
  refine v_iload_n (pc := 2) (j := 3) F dX2_hasDoor_2 rfl rfl ?_
  refine v_aload_n (pc := 3) (j := 0) F dX2_hasDoor_3 rfl rfl ?_
  refine v_ifl (pc := 4) F fl_X2_62 dX2_hasDoor_4 ho_o hk_o fv_1_5 ?_
  refine v_icmp_ge (pc := 7) (tgt := 28) F dX2_hasDoor_7 (by decide) (fun c1 => ?_) (fun c1 => ?_)
  · have hf := ite_t hf c1
    refine V.sub (lv' := []) [] rfl ?_
    exact hx1 () (Option.some.inj hf).symm
  · have hf := ite_f hf c1
    refine v_aload_n (pc := 10) (j := 0) F dX2_hasDoor_10 rfl rfl ?_
    refine v_iload_n (pc := 11) (j := 3) F dX2_hasDoor_11 rfl rfl ?_
    refine v_iload_n (pc := 12) (j := 1) F dX2_hasDoor_12 rfl rfl ?_
    obtain ⟨r2, e3, hf⟩ := bnd_some hf
    refine v_callVi (pc := 13) (As := [.int s1, .int l1]) F cl_X2_94 dX2_hasDoor_13 (kX2_behind ho_o hk_o e3) ho_o hk_o rc_1 rfl rfl (Nat.le_of_ble_eq_true rfl) (by decide) (Nat.zero_le _) ?_
    refine v_iload_n (pc := 16) (j := 2) F dX2_hasDoor_16 rfl rfl ?_
    refine v_icmp_ne (pc := 17) (tgt := 22) F dX2_hasDoor_17 (by decide) (fun c4 => ?_) (fun c4 => ?_)
    · have hf := ite_f hf c4
      refine v_iinc (pc := 22) (j := 3) (v := s1 + 1) (lv' := [(0, .ref (gA g o)), (1, .int l1), (2, .int l2), (3, .int (s1 + 1))]) F dX2_hasDoor_22 rfl (congrArg (fun z => s1 + z) ic_1) (by decide) rfl ?_
      refine v_goto (pc := 25) (tgt := 2) F dX2_hasDoor_25 (by decide) ?_
      exact hk (s1 + 1) (Option.some.inj hf).symm
    · have hf := ite_t hf c4
      refine V.sub (lv' := []) [] rfl ?_
      exact hx0 () (Option.some.inj hf).symm
set_option maxRecDepth 100000 in
set_option maxHeartbeats 4000000 in
theorem kX2_hasDoor {l : Launch} {g : GE} {B : Nat} {h : ST} {o : Nat} (ho_o : o < 395) (hk_o : KC o = (1, 0)) {a1 : Int32} {a2 : Int32} {y : Int32} (hf : fX2_hasDoor h o a1 a2 = some y) : CT l yX2_hasDoor cX2_hasDoor 4 (some .boolean) 2 KC 395 g B [.ref (gA g o), .int a1, .int a2] h (some (.int y)) h := by
  refine CT.of pn_X2 (Nat.le_of_ble_eq_true rfl) ?_
  intro p e s m below meth c hr F
  have F : Fx p s m _ meth c cX2_hasDoor 4 "DustParish$Facts" 395 g B := F
  refine V_lv (lv' := [(0, .ref (gA g o)), (1, .int a1), (2, .int a2)]) rfl ?_
  unfold fX2_hasDoor at hf
  refine v_iconst (pc := 0) (v := 0) F dX2_hasDoor_0 ic_0 ?_
  refine v_istore_n (pc := 1) (lv' := [(0, .ref (gA g o)), (1, .int a1), (2, .int a2), (3, .int 0)]) F dX2_hasDoor_1 rfl (by decide) rfl ?_
  obtain ⟨x5, e6, hf⟩ := bnd_some hf
  refine tX2_hasDoor_2 (s0 := 0) ho_o hk_o F (fun v e9 => ?_) (fun v e9 => ?_) e6
  · subst e9
    have hf := sm_l hf
    refine v_iconst (pc := 20) (v := 1) F dX2_hasDoor_20 ic_1 ?_
    exact v_zret (pc := 21) F hr dX2_hasDoor_21 rfl (Option.some.inj hf) rfl (Nat.zero_le _)
  · subst e9
    have hf := sm_r hf
    refine v_iconst (pc := 28) (v := 0) F dX2_hasDoor_28 ic_0 ?_
    exact v_zret (pc := 29) F hr dX2_hasDoor_29 rfl (Option.some.inj hf) rfl (Nat.zero_le _)
def fX10_nextSeed (h : ST) (a1 : Int32) : Option (Int32) :=
  some ((a1 * 1103515245) + 12345)
set_option maxRecDepth 100000 in
set_option maxHeartbeats 4000000 in
theorem kX10_nextSeed {l : Launch} {g : GE} {B : Nat} {h : ST} {a1 : Int32} {y : Int32} (hf : fX10_nextSeed h a1 = some y) : CT l yX10_nextSeed cX10_nextSeed 1 (some .int) 1 KC 395 g B [.int a1] h (some (.int y)) h := by
  refine CT.of pn_X10 (Nat.le_of_ble_eq_true rfl) ?_
  intro p e s m below meth c hr F
  have F : Fx p s m _ meth c cX10_nextSeed 1 "DustParish" 395 g B := F
  refine V_lv (lv' := [(0, .int a1)]) rfl ?_
  unfold fX10_nextSeed at hf
  refine v_iload_n (pc := 0) (j := 0) F dX10_nextSeed_0 rfl rfl ?_
  refine v_ldcw (pc := 1) F tw_1236 dX10_nextSeed_1 ?_
  refine v_imul (pc := 4) F dX10_nextSeed_4 ?_
  refine v_sipush (pc := 5) (v := 12345) F dX10_nextSeed_5 sp_12345 ?_
  refine v_iadd (pc := 8) F dX10_nextSeed_8 ?_
  exact v_iret (pc := 9) F hr dX10_nextSeed_9 (Option.some.inj hf) rfl (Nat.zero_le _)
def fX5_clear (h : ST) (o : Nat) : Option (ST) :=
  bnd (pw h o 1 0) fun h1 =>
  some h1
set_option maxRecDepth 100000 in
set_option maxHeartbeats 4000000 in
theorem kX5_clear {l : Launch} {g : GE} {B : Nat} {h : ST} {o : Nat} (ho_o : o < 395) (hk_o : KC o = (4, 0)) {y : ST} (hf : fX5_clear h o = some y) : CT l yX5_clear cX5_clear 1 none 1 KC 395 g B [.ref (gA g o)] h none y := by
  refine CT.of pn_X5 (Nat.le_of_ble_eq_true rfl) ?_
  intro p e s m below meth c hr F
  have F : Fx p s m _ meth c cX5_clear 1 "DustParish$Rule" 395 g B := F
  refine V_lv (lv' := [(0, .ref (gA g o))]) rfl ?_
  unfold fX5_clear at hf
  refine v_aload_n (pc := 0) (j := 0) F dX5_clear_0 rfl rfl ?_
  refine v_iconst (pc := 1) (v := 0) F dX5_clear_1 ic_0 ?_
  obtain ⟨h1, e2, hf⟩ := bnd_some hf
  refine v_pfl (pc := 2) F fl_X5_15 pl_4_1 dX5_clear_2 ho_o hk_o fv_4_1 rfl rfl e2 ?_
  exact v_vret (pc := 5) F hr dX5_clear_5 (Option.some.inj hf) (Nat.zero_le _)
def fX2_clear (h : ST) (o : Nat) : Option (ST) :=
  bnd (pw h o 0 0) fun h1 =>
  bnd (pw h1 o 5 0) fun h3 =>
  bnd (pw h3 o 8 0) fun h5 =>
  bnd (pw h5 o 13 0) fun h7 =>
  bnd (pw h7 o 15 7) fun h9 =>
  bnd (pw h9 o 16 10) fun h11 =>
  bnd (fX5_clear h11 (o + 12)) fun r13 =>
  bnd (fJ7_fill_53178 r13 (o + 16) 81 (-1)) fun r15 =>
  some r15
set_option maxRecDepth 100000 in
set_option maxHeartbeats 4000000 in
theorem kX2_clear {l : Launch} {g : GE} {B : Nat} {h : ST} {o : Nat} (ho_o : o < 395) (hk_o : KC o = (1, 0)) {y : ST} (hf : fX2_clear h o = some y) : CT l yX2_clear cX2_clear 1 none 2 KC 395 g B [.ref (gA g o)] h none y := by
  refine CT.of pn_X2 (Nat.le_of_ble_eq_true rfl) ?_
  intro p e s m below meth c hr F
  have F : Fx p s m _ meth c cX2_clear 1 "DustParish$Facts" 395 g B := F
  refine V_lv (lv' := [(0, .ref (gA g o))]) rfl ?_
  unfold fX2_clear at hf
  refine v_aload_n (pc := 0) (j := 0) F dX2_clear_0 rfl rfl ?_
  refine v_iconst (pc := 1) (v := 0) F dX2_clear_1 ic_0 ?_
  obtain ⟨h1, e2, hf⟩ := bnd_some hf
  refine v_pfl (pc := 2) F fl_X2_58 pl_1_0 dX2_clear_2 ho_o hk_o fv_1_0 rfl rfl e2 ?_
  refine v_aload_n (pc := 5) (j := 0) F dX2_clear_5 rfl rfl ?_
  refine v_iconst (pc := 6) (v := 0) F dX2_clear_6 ic_0 ?_
  obtain ⟨h3, e4, hf⟩ := bnd_some hf
  refine v_pfl (pc := 7) F fl_X2_62 pl_1_5 dX2_clear_7 ho_o hk_o fv_1_5 rfl rfl e4 ?_
  refine v_aload_n (pc := 10) (j := 0) F dX2_clear_10 rfl rfl ?_
  refine v_iconst (pc := 11) (v := 0) F dX2_clear_11 ic_0 ?_
  obtain ⟨h5, e6, hf⟩ := bnd_some hf
  refine v_pfl (pc := 12) F fl_X2_65 pl_1_8 dX2_clear_12 ho_o hk_o fv_1_8 rfl rfl e6 ?_
  refine v_aload_n (pc := 15) (j := 0) F dX2_clear_15 rfl rfl ?_
  refine v_iconst (pc := 16) (v := 0) F dX2_clear_16 ic_0 ?_
  obtain ⟨h7, e8, hf⟩ := bnd_some hf
  refine v_pfl (pc := 17) F fl_X2_68 pl_1_13 dX2_clear_17 ho_o hk_o fv_1_13 rfl rfl e8 ?_
  refine v_aload_n (pc := 20) (j := 0) F dX2_clear_20 rfl rfl ?_
  refine v_bipush (pc := 21) (v := 7) F dX2_clear_21 bp_7 ?_
  obtain ⟨h9, e10, hf⟩ := bnd_some hf
  refine v_pfl (pc := 23) F fl_X2_71 pl_1_15 dX2_clear_23 ho_o hk_o fv_1_15 rfl rfl e10 ?_
  refine v_aload_n (pc := 26) (j := 0) F dX2_clear_26 rfl rfl ?_
  refine v_bipush (pc := 27) (v := 10) F dX2_clear_27 bp_10 ?_
  obtain ⟨h11, e12, hf⟩ := bnd_some hf
  refine v_pfl (pc := 29) F fl_X2_74 pl_1_16 dX2_clear_29 ho_o hk_o fv_1_16 rfl rfl e12 ?_
  refine v_aload_n (pc := 32) (j := 0) F dX2_clear_32 rfl rfl ?_
  refine v_ifl (pc := 33) F fl_X2_48 dX2_clear_33 ho_o hk_o fv_1_17 ?_
  obtain ⟨r13, e14, hf⟩ := bnd_some hf
  refine v_callVv (pc := 36) (As := []) F cl_X2_77 dX2_clear_36 (kX5_clear (ly_1_17 ho_o hk_o).1 (ly_1_17 ho_o hk_o).2 e14) (ly_1_17 ho_o hk_o).1 (ly_1_17 ho_o hk_o).2 rc_4 rfl rfl (Nat.le_of_ble_eq_true rfl) (by decide) (Nat.zero_le _) ?_
  refine v_aload_n (pc := 39) (j := 0) F dX2_clear_39 rfl rfl ?_
  refine v_ifl (pc := 40) F fl_X2_52 dX2_clear_40 ho_o hk_o fv_1_18 ?_
  refine v_iconst (pc := 43) (v := (-1)) F dX2_clear_43 ic_m1 ?_
  obtain ⟨r15, e16, hf⟩ := bnd_some hf
  refine v_callSv (pc := 44) (As := [.ref (gA g (o + 16)), .int (-1)]) F cl_X2_80 dX2_clear_44 (kJ7_fill_53178 (ly_1_18 ho_o hk_o).1 (ly_1_18 ho_o hk_o).2 e16) rfl rfl (Nat.le_of_ble_eq_true rfl) (by decide) (Nat.zero_le _) ?_
  exact v_vret (pc := 47) F hr dX2_clear_47 (Option.some.inj hf) (Nat.zero_le _)
def fX9_isBlank_17 (h : ST) (q0 : Int32) : Option (Int32) :=
  bnd (zb q0) fun z2 =>
  some z2
def fX9_isBlank_12 (h : ST)  : Option (Int32) :=
  fX9_isBlank_17 h 1
def fX9_isBlank (h : ST) (a1 : Int32) : Option (Int32) :=
  if a1 = 32 then
  fX9_isBlank_12 h 
  else
  if a1 = 10 then
    fX9_isBlank_12 h 
    else
    fX9_isBlank_17 h 0
set_option maxRecDepth 100000 in
set_option maxHeartbeats 4000000 in
theorem tX9_isBlank_17 {p : Program} {l : Launch} {e : Env} {s : State} {m : MethodId} {args : Array Value} {below : List Frame} {meth : Method} {c : Code} {g : GE} {B : Nat} {h : ST}  {q0 : Int32} (F : Fx p s m args meth c cX9_isBlank 1 "DustParish$Tokens" 395 g B)
    {y : Int32} (hr : meth.sig.returnType = (some .boolean)) (hf : fX9_isBlank_17 h q0 = some y) : V p l e 1 0 s m args below meth c (MQ below (QO KC 395 g (some (.int y)) h) args s 0 (6 * 0) (fun q => B ≤ q)) KC 395 g B 1 0 h 17 [] [.int q0] := by
  unfold fX9_isBlank_17 at hf
  obtain ⟨z2, e3, hf⟩ := bnd_some hf
  exact v_zret (pc := 17) F hr dX9_isBlank_17 (zb_in e3).2 ((zb_in e3).1.symm.trans (Option.some.inj hf)) rfl (Nat.zero_le _)
set_option maxRecDepth 100000 in
set_option maxHeartbeats 4000000 in
theorem tX9_isBlank_12 {p : Program} {l : Launch} {e : Env} {s : State} {m : MethodId} {args : Array Value} {below : List Frame} {meth : Method} {c : Code} {g : GE} {B : Nat} {h : ST}  (F : Fx p s m args meth c cX9_isBlank 1 "DustParish$Tokens" 395 g B)
    {y : Int32} (hr : meth.sig.returnType = (some .boolean)) (hf : fX9_isBlank_12 h  = some y) : V p l e 1 0 s m args below meth c (MQ below (QO KC 395 g (some (.int y)) h) args s 0 (6 * 0) (fun q => B ≤ q)) KC 395 g B 1 0 h 12 [] [] := by
  unfold fX9_isBlank_12 at hf
  refine v_iconst (pc := 12) (v := 1) F dX9_isBlank_12 ic_1 ?_
  refine v_goto (pc := 13) (tgt := 17) F dX9_isBlank_13 (by decide) ?_
  exact tX9_isBlank_17 F hr hf
set_option maxRecDepth 100000 in
set_option maxHeartbeats 4000000 in
theorem kX9_isBlank {l : Launch} {g : GE} {B : Nat} {h : ST} {a1 : Int32} {y : Int32} (hf : fX9_isBlank h a1 = some y) : CT l yX9_isBlank cX9_isBlank 1 (some .boolean) 1 KC 395 g B [.int a1] h (some (.int y)) h := by
  refine CT.of pn_X9 (Nat.le_of_ble_eq_true rfl) ?_
  intro p e s m below meth c hr F
  have F : Fx p s m _ meth c cX9_isBlank 1 "DustParish$Tokens" 395 g B := F
  refine V_lv (lv' := [(0, .int a1)]) rfl ?_
  unfold fX9_isBlank at hf
  refine v_iload_n (pc := 0) (j := 0) F dX9_isBlank_0 rfl rfl ?_
  refine v_bipush (pc := 1) (v := 32) F dX9_isBlank_1 bp_32 ?_
  refine v_icmp_eq (pc := 3) (tgt := 12) F dX9_isBlank_3 (by decide) (fun c1 => ?_) (fun c1 => ?_)
  · have hf := ite_t hf c1
    refine V.sub (lv' := []) [] rfl ?_
    exact tX9_isBlank_12 F hr hf
  · have hf := ite_f hf c1
    refine v_iload_n (pc := 6) (j := 0) F dX9_isBlank_6 rfl rfl ?_
    refine v_bipush (pc := 7) (v := 10) F dX9_isBlank_7 bp_10 ?_
    refine v_icmp_ne (pc := 9) (tgt := 16) F dX9_isBlank_9 (by decide) (fun c4 => ?_) (fun c4 => ?_)
    · have hf := ite_f hf c4
      refine v_iconst (pc := 16) (v := 0) F dX9_isBlank_16 ic_0 ?_
      refine V.sub (lv' := []) [] rfl ?_
      exact tX9_isBlank_17 F hr hf
    · have hf := ite_t hf c4
      refine V.sub (lv' := []) [] rfl ?_
      exact tX9_isBlank_12 F hr hf
def fX9_isLetter_17 (h : ST) (q0 : Int32) : Option (Int32) :=
  bnd (zb q0) fun z2 =>
  some z2
def fX9_isLetter_16 (h : ST)  : Option (Int32) :=
  fX9_isLetter_17 h 0
def fX9_isLetter (h : ST) (a1 : Int32) : Option (Int32) :=
  if a1 < 97 then
  fX9_isLetter_16 h 
  else
  if 122 < a1 then
    fX9_isLetter_16 h 
    else
    fX9_isLetter_17 h 1
set_option maxRecDepth 100000 in
set_option maxHeartbeats 4000000 in
theorem tX9_isLetter_17 {p : Program} {l : Launch} {e : Env} {s : State} {m : MethodId} {args : Array Value} {below : List Frame} {meth : Method} {c : Code} {g : GE} {B : Nat} {h : ST}  {q0 : Int32} (F : Fx p s m args meth c cX9_isLetter 1 "DustParish$Tokens" 395 g B)
    {y : Int32} (hr : meth.sig.returnType = (some .boolean)) (hf : fX9_isLetter_17 h q0 = some y) : V p l e 1 0 s m args below meth c (MQ below (QO KC 395 g (some (.int y)) h) args s 0 (6 * 0) (fun q => B ≤ q)) KC 395 g B 1 0 h 17 [] [.int q0] := by
  unfold fX9_isLetter_17 at hf
  obtain ⟨z2, e3, hf⟩ := bnd_some hf
  exact v_zret (pc := 17) F hr dX9_isLetter_17 (zb_in e3).2 ((zb_in e3).1.symm.trans (Option.some.inj hf)) rfl (Nat.zero_le _)
set_option maxRecDepth 100000 in
set_option maxHeartbeats 4000000 in
theorem tX9_isLetter_16 {p : Program} {l : Launch} {e : Env} {s : State} {m : MethodId} {args : Array Value} {below : List Frame} {meth : Method} {c : Code} {g : GE} {B : Nat} {h : ST}  (F : Fx p s m args meth c cX9_isLetter 1 "DustParish$Tokens" 395 g B)
    {y : Int32} (hr : meth.sig.returnType = (some .boolean)) (hf : fX9_isLetter_16 h  = some y) : V p l e 1 0 s m args below meth c (MQ below (QO KC 395 g (some (.int y)) h) args s 0 (6 * 0) (fun q => B ≤ q)) KC 395 g B 1 0 h 16 [] [] := by
  unfold fX9_isLetter_16 at hf
  refine v_iconst (pc := 16) (v := 0) F dX9_isLetter_16 ic_0 ?_
  exact tX9_isLetter_17 F hr hf
set_option maxRecDepth 100000 in
set_option maxHeartbeats 4000000 in
theorem kX9_isLetter {l : Launch} {g : GE} {B : Nat} {h : ST} {a1 : Int32} {y : Int32} (hf : fX9_isLetter h a1 = some y) : CT l yX9_isLetter cX9_isLetter 1 (some .boolean) 1 KC 395 g B [.int a1] h (some (.int y)) h := by
  refine CT.of pn_X9 (Nat.le_of_ble_eq_true rfl) ?_
  intro p e s m below meth c hr F
  have F : Fx p s m _ meth c cX9_isLetter 1 "DustParish$Tokens" 395 g B := F
  refine V_lv (lv' := [(0, .int a1)]) rfl ?_
  unfold fX9_isLetter at hf
  refine v_iload_n (pc := 0) (j := 0) F dX9_isLetter_0 rfl rfl ?_
  refine v_bipush (pc := 1) (v := 97) F dX9_isLetter_1 bp_97 ?_
  refine v_icmp_lt (pc := 3) (tgt := 16) F dX9_isLetter_3 (by decide) (fun c1 => ?_) (fun c1 => ?_)
  · have hf := ite_t hf c1
    refine V.sub (lv' := []) [] rfl ?_
    exact tX9_isLetter_16 F hr hf
  · have hf := ite_f hf c1
    refine v_iload_n (pc := 6) (j := 0) F dX9_isLetter_6 rfl rfl ?_
    refine v_bipush (pc := 7) (v := 122) F dX9_isLetter_7 bp_122 ?_
    refine v_icmp_gt (pc := 9) (tgt := 16) F dX9_isLetter_9 (by decide) (fun c4 => ?_) (fun c4 => ?_)
    · have hf := ite_t hf c4
      refine V.sub (lv' := []) [] rfl ?_
      exact tX9_isLetter_16 F hr hf
    · have hf := ite_f hf c4
      refine v_iconst (pc := 12) (v := 1) F dX9_isLetter_12 ic_1 ?_
      refine v_goto (pc := 13) (tgt := 17) F dX9_isLetter_13 (by decide) ?_
      refine V.sub (lv' := []) [] rfl ?_
      exact tX9_isLetter_17 F hr hf
def fX9_isDigit_17 (h : ST) (q0 : Int32) : Option (Int32) :=
  bnd (zb q0) fun z2 =>
  some z2
def fX9_isDigit_16 (h : ST)  : Option (Int32) :=
  fX9_isDigit_17 h 0
def fX9_isDigit (h : ST) (a1 : Int32) : Option (Int32) :=
  if a1 < 48 then
  fX9_isDigit_16 h 
  else
  if 57 < a1 then
    fX9_isDigit_16 h 
    else
    fX9_isDigit_17 h 1
set_option maxRecDepth 100000 in
set_option maxHeartbeats 4000000 in
theorem tX9_isDigit_17 {p : Program} {l : Launch} {e : Env} {s : State} {m : MethodId} {args : Array Value} {below : List Frame} {meth : Method} {c : Code} {g : GE} {B : Nat} {h : ST}  {q0 : Int32} (F : Fx p s m args meth c cX9_isDigit 1 "DustParish$Tokens" 395 g B)
    {y : Int32} (hr : meth.sig.returnType = (some .boolean)) (hf : fX9_isDigit_17 h q0 = some y) : V p l e 1 0 s m args below meth c (MQ below (QO KC 395 g (some (.int y)) h) args s 0 (6 * 0) (fun q => B ≤ q)) KC 395 g B 1 0 h 17 [] [.int q0] := by
  unfold fX9_isDigit_17 at hf
  obtain ⟨z2, e3, hf⟩ := bnd_some hf
  exact v_zret (pc := 17) F hr dX9_isDigit_17 (zb_in e3).2 ((zb_in e3).1.symm.trans (Option.some.inj hf)) rfl (Nat.zero_le _)
set_option maxRecDepth 100000 in
set_option maxHeartbeats 4000000 in
theorem tX9_isDigit_16 {p : Program} {l : Launch} {e : Env} {s : State} {m : MethodId} {args : Array Value} {below : List Frame} {meth : Method} {c : Code} {g : GE} {B : Nat} {h : ST}  (F : Fx p s m args meth c cX9_isDigit 1 "DustParish$Tokens" 395 g B)
    {y : Int32} (hr : meth.sig.returnType = (some .boolean)) (hf : fX9_isDigit_16 h  = some y) : V p l e 1 0 s m args below meth c (MQ below (QO KC 395 g (some (.int y)) h) args s 0 (6 * 0) (fun q => B ≤ q)) KC 395 g B 1 0 h 16 [] [] := by
  unfold fX9_isDigit_16 at hf
  refine v_iconst (pc := 16) (v := 0) F dX9_isDigit_16 ic_0 ?_
  exact tX9_isDigit_17 F hr hf
set_option maxRecDepth 100000 in
set_option maxHeartbeats 4000000 in
theorem kX9_isDigit {l : Launch} {g : GE} {B : Nat} {h : ST} {a1 : Int32} {y : Int32} (hf : fX9_isDigit h a1 = some y) : CT l yX9_isDigit cX9_isDigit 1 (some .boolean) 1 KC 395 g B [.int a1] h (some (.int y)) h := by
  refine CT.of pn_X9 (Nat.le_of_ble_eq_true rfl) ?_
  intro p e s m below meth c hr F
  have F : Fx p s m _ meth c cX9_isDigit 1 "DustParish$Tokens" 395 g B := F
  refine V_lv (lv' := [(0, .int a1)]) rfl ?_
  unfold fX9_isDigit at hf
  refine v_iload_n (pc := 0) (j := 0) F dX9_isDigit_0 rfl rfl ?_
  refine v_bipush (pc := 1) (v := 48) F dX9_isDigit_1 bp_48 ?_
  refine v_icmp_lt (pc := 3) (tgt := 16) F dX9_isDigit_3 (by decide) (fun c1 => ?_) (fun c1 => ?_)
  · have hf := ite_t hf c1
    refine V.sub (lv' := []) [] rfl ?_
    exact tX9_isDigit_16 F hr hf
  · have hf := ite_f hf c1
    refine v_iload_n (pc := 6) (j := 0) F dX9_isDigit_6 rfl rfl ?_
    refine v_bipush (pc := 7) (v := 57) F dX9_isDigit_7 bp_57 ?_
    refine v_icmp_gt (pc := 9) (tgt := 16) F dX9_isDigit_9 (by decide) (fun c4 => ?_) (fun c4 => ?_)
    · have hf := ite_t hf c4
      refine V.sub (lv' := []) [] rfl ?_
      exact tX9_isDigit_16 F hr hf
    · have hf := ite_f hf c4
      refine v_iconst (pc := 12) (v := 1) F dX9_isDigit_12 ic_1 ?_
      refine v_goto (pc := 13) (tgt := 17) F dX9_isDigit_13 (by decide) ?_
      refine V.sub (lv' := []) [] rfl ?_
      exact tX9_isDigit_17 F hr hf
def fX9_takeNumber_72 (h : ST) (q1 : Int32) : Option (ST ⊕ ST) :=
  bnd (pw h 39 2 q1) fun h10 =>
  bnd (pw h10 39 4 ((h10 39 4) + 1)) fun h12 =>
  some (.inl h12)
def fX9_takeNumber_5 (s1 : ST) : Option (ST ⊕ ST) :=
  if (s1 39 5) ≤ (s1 39 4) then
  some (.inr s1)
  else
  bnd (rd 700 (s1 1) (s1 39 4)) fun v4 =>
    bnd (fX9_isDigit s1 v4) fun r6 =>
    if r6 = 0 then
    some (.inr s1)
    else
    if 4 ≤ ((s1 39 4) - (s1 39 1)) then
      fX9_takeNumber_72 s1 (s1 39 2)
      else
      bnd (rd 700 (s1 1) (s1 39 4)) fun v14 =>
        fX9_takeNumber_72 s1 ((((s1 39 2) * 10) + v14) - 48)
def fX9_takeNumber_107 (h : ST) (q1 : Int32) : Option (ST) :=
  bnd (zb q1) fun z19 =>
  bnd (pw h 39 3 q1) fun h21 =>
  some h21
def fX9_takeNumber_88 (h : ST)  : Option (ST) :=
  if ((h 39 4) - (h 39 1)) ≤ 4 then
  fX9_takeNumber_107 h 0
  else
  fX9_takeNumber_107 h 1
def fX9_takeNumber (h : ST) : Option (ST) :=
  bnd (pw h 39 2 0) fun h1 =>
  bnd (lp FU (fX9_takeNumber_5) h1) fun x16 =>
  fX9_takeNumber_88 x16 
set_option maxRecDepth 100000 in
set_option maxHeartbeats 4000000 in
theorem tX9_takeNumber_72 {p : Program} {l : Launch} {e : Env} {s : State} {m : MethodId} {args : Array Value} {below : List Frame} {meth : Method} {c : Code} {g : GE} {B : Nat} {h : ST}  {q1 : Int32} (F : Fx p s m args meth c cX9_takeNumber 1 "DustParish$Tokens" 395 g B)
    {Q : State → Prop} {y : ST ⊕ ST} (hk : ∀ v : ST, y = Sum.inl v → V p l e 2 0 s m args below meth c Q KC 395 g B 1 0 v 5 [(0, .ref (gA g 39))] []) (hx0 : ∀ v : ST, y = Sum.inr v → V p l e 2 0 s m args below meth c Q KC 395 g B 1 0 v 88 [(0, .ref (gA g 39))] []) (hf : fX9_takeNumber_72 h q1 = some y) : V p l e 2 0 s m args below meth c Q KC 395 g B 1 0 h 72 [(0, .ref (gA g 39))] [.int q1, .ref (gA g 39)] := by
  unfold fX9_takeNumber_72 at hf
  obtain ⟨h10, e11, hf⟩ := bnd_some hf
  refine v_pfl (pc := 72) F fl_X9_16 pl_8_2 dX9_takeNumber_72 kc_39.1 kc_39.2 fv_8_2 rfl rfl e11 ?_
  refine v_aload_n (pc := 75) (j := 0) F dX9_takeNumber_75 rfl rfl ?_
  refine v_dup (pc := 76) F dX9_takeNumber_76 rfl ?_
  refine v_ifl (pc := 77) F fl_X9_23 dX9_takeNumber_77 kc_39.1 kc_39.2 fv_8_4 ?_
  refine v_iconst (pc := 80) (v := 1) F dX9_takeNumber_80 ic_1 ?_
  refine v_iadd (pc := 81) F dX9_takeNumber_81 ?_
  obtain ⟨h12, e13, hf⟩ := bnd_some hf
  refine v_pfl (pc := 82) F fl_X9_23 pl_8_4 dX9_takeNumber_82 kc_39.1 kc_39.2 fv_8_4 rfl rfl e13 ?_
  refine v_goto (pc := 85) (tgt := 5) F dX9_takeNumber_85 (by decide) ?_
  exact hk h12 (Option.some.inj hf).symm
set_option maxRecDepth 100000 in
set_option maxHeartbeats 4000000 in
theorem tX9_takeNumber_5 {p : Program} {l : Launch} {e : Env} {s : State} {m : MethodId} {args : Array Value} {below : List Frame} {meth : Method} {c : Code} {g : GE} {B : Nat}  {Q : State → Prop} {x : ST} {nf : Nat} {s0 : ST} (F : Fx p s m args meth c cX9_takeNumber 1 "DustParish$Tokens" 395 g B) (hX0 : V p l e 2 0 s m args below meth c Q KC 395 g B 1 0 x 88 [(0, .ref (gA g 39))] []) (hl : lp nf (fX9_takeNumber_5) s0 = some x) : V p l e 2 0 s m args below meth c Q KC 395 g B 1 0 s0 5 [(0, .ref (gA g 39))] [] := by
  refine lp_ind (P := fun s0 => V p l e 2 0 s m args below meth c Q KC 395 g B 1 0 s0 5 [(0, .ref (gA g 39))] []) ?_ nf s0 hl
  intro s1 y hf hk hx
  have hx0 : ∀ v : ST, y = Sum.inr v → V p l e 2 0 s m args below meth c Q KC 395 g B 1 0 v 88 [(0, .ref (gA g 39))] [] := fun v e9 => by rw [hx v e9]; exact hX0
  unfold fX9_takeNumber_5 at hf
  refine v_aload_n (pc := 5) (j := 0) F dX9_takeNumber_5 rfl rfl ?_
  refine v_ifl (pc := 6) F fl_X9_23 dX9_takeNumber_6 kc_39.1 kc_39.2 fv_8_4 ?_
  refine v_aload_n (pc := 9) (j := 0) F dX9_takeNumber_9 rfl rfl ?_
  refine v_ifl (pc := 10) F fl_X9_26 dX9_takeNumber_10 kc_39.1 kc_39.2 fv_8_5 ?_
  refine v_icmp_ge (pc := 13) (tgt := 88) F dX9_takeNumber_13 (by decide) (fun c3 => ?_) (fun c3 => ?_)
  · have hf := ite_t hf c3
    exact hx0 s1 (Option.some.inj hf).symm
  · have hf := ite_f hf c3
    refine v_aload_n (pc := 16) (j := 0) F dX9_takeNumber_16 rfl rfl ?_
    refine v_ifl (pc := 17) F fl_X9_29 dX9_takeNumber_17 kc_39.1 kc_39.2 fv_8_6 ?_
    refine v_aload_n (pc := 20) (j := 0) F dX9_takeNumber_20 rfl rfl ?_
    refine v_ifl (pc := 21) F fl_X9_23 dX9_takeNumber_21 kc_39.1 kc_39.2 fv_8_4 ?_
    obtain ⟨v4, e5, hf⟩ := bnd_some hf
    refine v_bald (pc := 24) F dX9_takeNumber_24 kc_1.1 kc_1.2 e5 ?_
    obtain ⟨r6, e7, hf⟩ := bnd_some hf
    refine v_callSi (pc := 25) (As := [.int v4]) F cl_X9_49 dX9_takeNumber_25 (kX9_isDigit e7) rfl rfl (Nat.le_of_ble_eq_true rfl) (by decide) (Nat.zero_le _) ?_
    refine v_if_eq (pc := 28) (tgt := 88) F dX9_takeNumber_28 (by decide) (fun c8 => ?_) (fun c8 => ?_)
    · have hf := ite_t hf c8
      exact hx0 s1 (Option.some.inj hf).symm
    · have hf := ite_f hf c8
      refine v_aload_n (pc := 31) (j := 0) F dX9_takeNumber_31 rfl rfl ?_
      refine v_aload_n (pc := 32) (j := 0) F dX9_takeNumber_32 rfl rfl ?_
      refine v_ifl (pc := 33) F fl_X9_23 dX9_takeNumber_33 kc_39.1 kc_39.2 fv_8_4 ?_
      refine v_aload_n (pc := 36) (j := 0) F dX9_takeNumber_36 rfl rfl ?_
      refine v_ifl (pc := 37) F fl_X9_13 dX9_takeNumber_37 kc_39.1 kc_39.2 fv_8_1 ?_
      refine v_isub (pc := 40) F dX9_takeNumber_40 ?_
      refine v_iconst (pc := 41) (v := 4) F dX9_takeNumber_41 ic_4 ?_
      refine v_icmp_ge (pc := 42) (tgt := 68) F dX9_takeNumber_42 (by decide) (fun c9 => ?_) (fun c9 => ?_)
      · have hf := ite_t hf c9
        refine v_aload_n (pc := 68) (j := 0) F dX9_takeNumber_68 rfl rfl ?_
        refine v_ifl (pc := 69) F fl_X9_16 dX9_takeNumber_69 kc_39.1 kc_39.2 fv_8_2 ?_
        exact tX9_takeNumber_72 F hk hx0 hf
      · have hf := ite_f hf c9
        refine v_aload_n (pc := 45) (j := 0) F dX9_takeNumber_45 rfl rfl ?_
        refine v_ifl (pc := 46) F fl_X9_16 dX9_takeNumber_46 kc_39.1 kc_39.2 fv_8_2 ?_
        refine v_bipush (pc := 49) (v := 10) F dX9_takeNumber_49 bp_10 ?_
        refine v_imul (pc := 51) F dX9_takeNumber_51 ?_
        refine v_aload_n (pc := 52) (j := 0) F dX9_takeNumber_52 rfl rfl ?_
        refine v_ifl (pc := 53) F fl_X9_29 dX9_takeNumber_53 kc_39.1 kc_39.2 fv_8_6 ?_
        refine v_aload_n (pc := 56) (j := 0) F dX9_takeNumber_56 rfl rfl ?_
        refine v_ifl (pc := 57) F fl_X9_23 dX9_takeNumber_57 kc_39.1 kc_39.2 fv_8_4 ?_
        obtain ⟨v14, e15, hf⟩ := bnd_some hf
        refine v_bald (pc := 60) F dX9_takeNumber_60 kc_1.1 kc_1.2 e15 ?_
        refine v_iadd (pc := 61) F dX9_takeNumber_61 ?_
        refine v_bipush (pc := 62) (v := 48) F dX9_takeNumber_62 bp_48 ?_
        refine v_isub (pc := 64) F dX9_takeNumber_64 ?_
        refine v_goto (pc := 65) (tgt := 72) F dX9_takeNumber_65 (by decide) ?_
        exact tX9_takeNumber_72 F hk hx0 hf
set_option maxRecDepth 100000 in
set_option maxHeartbeats 4000000 in
theorem tX9_takeNumber_107 {p : Program} {l : Launch} {e : Env} {s : State} {m : MethodId} {args : Array Value} {below : List Frame} {meth : Method} {c : Code} {g : GE} {B : Nat} {h : ST}  {q1 : Int32} (F : Fx p s m args meth c cX9_takeNumber 1 "DustParish$Tokens" 395 g B)
    {y : ST} (hr : meth.sig.returnType = none) (hf : fX9_takeNumber_107 h q1 = some y) : V p l e 2 0 s m args below meth c (MQ below (QO KC 395 g none y) args s 0 (6 * 0) (fun q => B ≤ q)) KC 395 g B 1 0 h 107 [] [.int q1, .ref (gA g 39)] := by
  unfold fX9_takeNumber_107 at hf
  obtain ⟨z19, e20, hf⟩ := bnd_some hf
  obtain ⟨h21, e22, hf⟩ := bnd_some hf
  refine v_pfl (pc := 107) F fl_X9_19 pl_8_3 dX9_takeNumber_107 kc_39.1 kc_39.2 fv_8_3 (zb_in e20).2 (zb_fit e20) e22 ?_
  exact v_vret (pc := 110) F hr dX9_takeNumber_110 (Option.some.inj hf) (Nat.zero_le _)
set_option maxRecDepth 100000 in
set_option maxHeartbeats 4000000 in
theorem tX9_takeNumber_88 {p : Program} {l : Launch} {e : Env} {s : State} {m : MethodId} {args : Array Value} {below : List Frame} {meth : Method} {c : Code} {g : GE} {B : Nat} {h : ST}  (F : Fx p s m args meth c cX9_takeNumber 1 "DustParish$Tokens" 395 g B)
    {y : ST} (hr : meth.sig.returnType = none) (hf : fX9_takeNumber_88 h  = some y) : V p l e 2 0 s m args below meth c (MQ below (QO KC 395 g none y) args s 0 (6 * 0) (fun q => B ≤ q)) KC 395 g B 1 0 h 88 [(0, .ref (gA g 39))] [] := by
  unfold fX9_takeNumber_88 at hf
  refine v_aload_n (pc := 88) (j := 0) F dX9_takeNumber_88 rfl rfl ?_
  refine v_aload_n (pc := 89) (j := 0) F dX9_takeNumber_89 rfl rfl ?_
  refine v_ifl (pc := 90) F fl_X9_23 dX9_takeNumber_90 kc_39.1 kc_39.2 fv_8_4 ?_
  refine v_aload_n (pc := 93) (j := 0) F dX9_takeNumber_93 rfl rfl ?_
  refine v_ifl (pc := 94) F fl_X9_13 dX9_takeNumber_94 kc_39.1 kc_39.2 fv_8_1 ?_
  refine v_isub (pc := 97) F dX9_takeNumber_97 ?_
  refine v_iconst (pc := 98) (v := 4) F dX9_takeNumber_98 ic_4 ?_
  refine v_icmp_le (pc := 99) (tgt := 106) F dX9_takeNumber_99 (by decide) (fun c18 => ?_) (fun c18 => ?_)
  · have hf := ite_t hf c18
    refine v_iconst (pc := 106) (v := 0) F dX9_takeNumber_106 ic_0 ?_
    refine V.sub (lv' := []) [] rfl ?_
    exact tX9_takeNumber_107 F hr hf
  · have hf := ite_f hf c18
    refine v_iconst (pc := 102) (v := 1) F dX9_takeNumber_102 ic_1 ?_
    refine v_goto (pc := 103) (tgt := 107) F dX9_takeNumber_103 (by decide) ?_
    refine V.sub (lv' := []) [] rfl ?_
    exact tX9_takeNumber_107 F hr hf
set_option maxRecDepth 100000 in
set_option maxHeartbeats 4000000 in
theorem kX9_takeNumber {l : Launch} {g : GE} {B : Nat} {h : ST} {y : ST} (hf : fX9_takeNumber h = some y) : CT l yX9_takeNumber cX9_takeNumber 1 none 2 KC 395 g B [.ref (gA g 39)] h none y := by
  refine CT.of pn_X9 (Nat.le_of_ble_eq_true rfl) ?_
  intro p e s m below meth c hr F
  have F : Fx p s m _ meth c cX9_takeNumber 1 "DustParish$Tokens" 395 g B := F
  refine V_lv (lv' := [(0, .ref (gA g 39))]) rfl ?_
  unfold fX9_takeNumber at hf
  refine v_aload_n (pc := 0) (j := 0) F dX9_takeNumber_0 rfl rfl ?_
  refine v_iconst (pc := 1) (v := 0) F dX9_takeNumber_1 ic_0 ?_
  obtain ⟨h1, e2, hf⟩ := bnd_some hf
  refine v_pfl (pc := 2) F fl_X9_16 pl_8_2 dX9_takeNumber_2 kc_39.1 kc_39.2 fv_8_2 rfl rfl e2 ?_
  obtain ⟨x16, e17, hf⟩ := bnd_some hf
  refine tX9_takeNumber_5 (s0 := h1) F ?_ e17
  exact tX9_takeNumber_88 F hr hf
