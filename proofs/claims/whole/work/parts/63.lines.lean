/-! ===== parish: rooms, winds, every, clean ===== -/
theorem PR.kept {g : Nat} {B : Nat → Nat} {L : Nat} {h t h' t' : ST} {kd st en : Nat} (p : PR g B L h t kd st en) (e1 : h' 1 = h 1) (e39 : h' 39 = h 39) (e38 : h' 38 2 = h 38 2) (m0 : t' 0 = t 0) (m18 : t' 18 = t 18) : PR g B L h' t' kd st en := by
  refine ⟨p.1.kept e1 m18, ?_, by rw [m0]; exact p.2.2.1, by rw [e38]; exact p.2.2.2.1, p.2.2.2.2⟩
  unfold TR NB
  rw [e39, m0]
  exact p.2.1
theorem BD.kept {h t h' t' : ST} {c : Int32} (b : BD h t c) (e : h' 39 = h 39) (m : t' 0 = t 0) : BD h' t' c := by
  unfold BD
  rw [e, m]
  exact b
theorem no3 {P : Nat → Prop} : ∀ k, k ∈ [3] → k ≠ 3 → P k := fun k hk n => absurd (List.mem_singleton.mp hk) n
/-- what became of a line, the sign behind it not yet read -/
def LR (g : Nat) (B : Nat → Nat) (L : Nat) (h0 t0 : ST) (st0 : Nat) (T : List Nat) (X : Option (Int32 × ST)) (Y : Option ST) : Prop :=
  (∃ h' t' kd st en nr nd nw nc nz, X = some (0, h') ∧ Y = some t' ∧ PR g B L h' t' kd st en ∧ HF g h' t' nr nd nw nc nz ∧ KG g h0 h' ∧ MG t0 t' ∧ st0 < st ∧ Fs 38 T h0 h' ∧ (7 ∈ T ∨ t' 3 13 = t0 3 13) ∧ (4 ∈ T ∨ t' 3 10 = t0 3 10) ∧ ∀ k, k ∈ T → k ≠ 3 → h' 38 k = 1) ∨
  ∃ c h' t', X = some (c, h') ∧ Y = some t' ∧ BD h' t' c ∧ KG g h0 h' ∧ MG t0 t'
theorem KG.up {g : Nat} {a b : ST} (x : KG g a b) {o k : Nat} {v : Int32} (h : (g ≤ o ∧ o < g + 18) ∨ (38 ≤ o ∧ o ≤ 41)) : KG g a (up2 b o k v) := x.tr (fun i p q => up2_n (by omega))
theorem TKs_in : ∀ k, k ∈ TKs → 20 ≤ k ∧ k ≤ 27 := by decide
theorem W_in : ∀ k, k ∈ [26, 27] → 20 ≤ k ∧ k ≤ 27 := by decide
theorem another_n {g : Nat} {B : Nat → Nat} {L : Nat} {h t : ST} {kd st en : Nat} (p : PR g B L h t kd st en) {i n m : Nat} (hi : i < 7) (e : t 3 (7 + i) = nI n) (hn : n = m) : ∃ t', fX11_another t (nI i) (nI m) = some (0, t') ∧ BD h t' 2 ∧ Fr [0] t t' ∧ Fs 0 [26, 27] t t' := by
  obtain ⟨t', t1, t2, t3, t4⟩ := wrongM p (c := 2) (by decide)
  refine ⟨t', ?_, t2, t3, t4⟩
  unfold fX11_another fX11_another_18
  rw [show (7 : Int32) + nI i = nI (7 + i) from nI_add 7 i, rd_k (n := 14) (show 7 + i < 14 by omega), bnd_s, e, hn, if_pos rfl, t1, bnd_s, if_neg (by rw [t2.2.1]; decide)]
theorem another_y {t t1 : ST} {i n m : Nat} (hi : i < 7) (e : t 3 (7 + i) = nI n) (hn : n ≠ m) (n9 : n < 2 ^ 31) (m9 : m < 2 ^ 31) (h26 : t 0 26 = 0) (s : fX11_stepOn t = some t1) : fX11_another t (nI i) (nI m) = some (1, t1) := by
  unfold fX11_another fX11_another_18
  rw [show (7 : Int32) + nI i = nI (7 + i) from nI_add 7 i, rd_k (n := 14) (show 7 + i < 14 by omega), bnd_s, e, if_neg (fun z => hn ((nI_eq n9 m9).mp z)), if_pos h26, s, bnd_s]
theorem roomLine {g : Nat} {B : Nat → Nat} {L : Nat} {h t : ST} {kd st en nr nd nw nc nz : Nat} (p : PR g B L h t kd st en) (hf : HF g h t nr nd nw nc nz) (k0 : kd ≠ 0) {k : Nat} (hk : k ≤ 2) : LR g B L h t st [3] (fX4_readRoom h (nI k)) (fX11_sayRoom t (nI k)) := by
  obtain ⟨⟨⟨n1, n2, n3, n4, n5⟩, ⟨a1, a2⟩, ⟨a3, a4⟩, ⟨a5, a6⟩, ⟨a7, a8⟩, a9, a10, ⟨a11, a12⟩⟩, hr, hd, hw, hc, hz⟩ := id hf
  have g2 := p.2.2.2.2
  have stl := p.2.1.2.2.2.2.2.2.1 k0
  have rff : rf KC 395 1 (h 38 2) = some g := rf_f g2 p.2.2.2.1
  have z0 : (0 : Int32) = nI 0 := rfl
  by_cases c : nr < 9
  rotate_left
  · obtain ⟨t', t1, t2, t3, t4⟩ := another_n p (i := 0) (n := nr) (m := 9) (by decide) a1 (by omega)
    have t1' : fX11_another t 0 9 = some (0, t') := t1
    refine Or.inr ⟨2, h, t', ?_, ?_, t2, KG.rf, MG.of t3 t4 W_in⟩
    · unfold fX4_readRoom
      rw [rff, bnd_s, if_neg (show ¬ h g 0 < 9 by rw [a2]; exact nI_nlt (b := 9) (by omega) (by omega))]
    · unfold fX11_sayRoom
      rw [t1', bnd_s, if_pos rfl]
  obtain ⟨h1, t1, kd1, st1, en1, s1, s2, s3, s4, s5, s6, s7⟩ := p.step
  have an : fX11_another t 0 9 = some (1, t1) := another_y (i := 0) (n := nr) (m := 9) (by decide) a1 (by omega) (by omega) (by decide) p.2.2.1 s2
  have t137 : t1 3 7 = nI nr := by rw [s6 3 (by decide)]; exact a1
  have ix : (9 : Int32) + nI nr = nI (9 + nr) := nI_add 9 nr
  have hg : ∀ i, g ≤ i → i < g + 18 → h1 i = h i := fun i x y => s5 i (by simp only [List.mem_cons, List.not_mem_nil, or_false]; omega)
  have r1 : rf KC 395 1 (h1 38 2) = some g := rf_f g2 s3.2.2.2.1
  obtain ⟨h2, e2⟩ : ∃ h2, h2 = up2 h1 (g + 1) nr (nI k) := ⟨_, rfl⟩
  obtain ⟨t2, m2⟩ : ∃ t2, t2 = up2 t1 4 (9 + nr) (nI k) := ⟨_, rfl⟩
  have h2k : ∀ i, i ≠ g + 1 → h2 i = h1 i := fun i hi => by rw [e2, up2_n hi]
  have t2k : ∀ i, i ≠ 4 → t2 i = t1 i := fun i hi => by rw [m2, up2_n hi]
  have p2 : PR g B L h2 t2 kd1 st1 en1 := s3.kept (h2k 1 (by omega)) (h2k 39 (by omega)) (by rw [h2k 38 (by omega)]) (t2k 0 (by decide)) (t2k 18 (by decide))
  have KG2 : KG g h h2 := by rw [e2]; exact (KG.of s5 (fun i hi => by simp only [List.mem_cons, List.not_mem_nil, or_false] at hi; omega)).up (by omega)
  have MG1 : MG t t1 := MG.of s6 s7 TKs_in
  have MG2 : MG t t2 := by rw [m2]; exact MG1.up (by decide) (by decide) (by unfold hfz; simp)
  have clsH : ∀ Z, (bnd (fX4_readNumber h2 0 5) fun r10 => if r10.1 = 0 then bnd (rf KC 395 1 (r10.2 38 2)) fun f13 => bnd (wr 9 r10.2 (f13 + 2) (nI nr) (r10.2 38 3)) fun h15 => bnd (fX4_readNumber h15 0 999) fun r17 => if r17.1 = 0 then bnd (rf KC 395 1 (r17.2 38 2)) fun f20 => bnd (wr 9 r17.2 (f20 + 3) (nI nr) (r17.2 38 3)) fun h22 => bnd (fX4_readNumber h22 0 99) fun r24 => if r24.1 = 0 then bnd (rf KC 395 1 (r24.2 38 2)) fun f27 => bnd (wr 9 r24.2 (f27 + 4) (nI nr) (r24.2 38 3)) fun h29 => bnd (rf KC 395 1 (h29 38 2)) fun f31 => bnd (pw h29 f31 0 ((h29 f31 0) + 1)) fun h33 => some (0, h33) else some (r24.1, r24.2) else some (r17.1, r17.2) else some (r10.1, r10.2)) = Z → fX4_readRoom h (nI k) = Z := fun Z e => by
    unfold fX4_readRoom
    rw [rff, bnd_s, if_pos (show h g 0 < 9 by rw [a2]; exact nI_lt (b := 9) c (by decide)), s1, bnd_s, r1, bnd_s, a2, wr_k (n := 9) c, bnd_s, ← e2]
    exact e
  have mdlH : ∀ Z, (bnd (fX11_readNumber t2 0 5) fun r8 => bnd (wr 18 r8.2 5 (9 + nI nr) r8.1) fun h10 => bnd (fX11_readNumber h10 0 999) fun r12 => bnd (wr 18 r12.2 6 (9 + nI nr) r12.1) fun h14 => bnd (fX11_readNumber h14 0 99) fun r16 => bnd (wr 18 r16.2 7 (9 + nI nr) r16.1) fun h18 => bnd (rd 14 (h18 3) 7) fun v20 => bnd (wr 14 h18 3 7 (v20 + 1)) fun h22 => some h22) = Z → fX11_sayRoom t (nI k) = Z := fun Z e => by
    unfold fX11_sayRoom
    rw [an, bnd_s]
    dsimp only
    rw [if_neg (show ¬ (1 : Int32) = 0 by decide), rd_7 (by decide) (by decide), bnd_s, t137, ix, wr_k (n := 18) (show 9 + nr < 18 by omega), bnd_s, ← m2, ← ix]
    exact e
  rw [ix] at mdlH
  have w7 : ∀ (x : ST) v, wr 14 x 3 7 v = some (up2 x 3 7 v) := fun x v => wr_7 (by decide) (by decide)
  have r7 : ∀ (x : ST), rd 14 (x 3) 7 = some (x 3 7) := fun x => rd_7 (by decide) (by decide)
  rcases numR p2 (lo := 0) (hi := 5) (by decide) (by decide) with ⟨o, h3, t3, kd3, st3, en3, -, o5, c3, d3, v3, p3, l3, f3, g3, q3, u3⟩ | ⟨cc, t3, c3, d3, bd, q3, u3⟩
  rotate_left
  · have c3' : fX4_readNumber h2 0 5 = some (cc, h2) := c3
    have d3' : fX11_readNumber t2 0 5 = some (0, t3) := d3
    obtain ⟨x5, ex5⟩ : ∃ x5, x5 = up2 t3 5 (9 + nr) 0 := ⟨_, rfl⟩
    have n26 : ¬ t3 0 26 = 0 := by rw [bd.2.1]; exact bd.1
    have y5 : fX11_readNumber x5 0 999 = some (0, x5) := (numW (by rw [ex5, up2_n (by decide)]; exact n26) _ _).2
    obtain ⟨x6, ex6⟩ : ∃ x6, x6 = up2 x5 6 (9 + nr) 0 := ⟨_, rfl⟩
    have y6 : fX11_readNumber x6 0 99 = some (0, x6) := (numW (by rw [ex6, up2_n (by decide), ex5, up2_n (by decide)]; exact n26) _ _).2
    refine Or.inr ⟨cc, h2, up2 (up2 x6 7 (9 + nr) 0) 3 7 (up2 x6 7 (9 + nr) 0 3 7 + 1), clsH _ ?_, mdlH _ ?_, bd.kept rfl ?_, KG2, ?_⟩
    · rw [c3', bnd_s]
      dsimp only
      rw [if_neg bd.1]
    · rw [d3', bnd_s, wr_k (n := 18) (show 9 + nr < 18 by omega), bnd_s, ← ex5, y5, bnd_s, wr_k (n := 18) (show 9 + nr < 18 by omega), bnd_s, ← ex6, y6, bnd_s, wr_k (n := 18) (show 9 + nr < 18 by omega), bnd_s, r7, bnd_s, w7, bnd_s]
    · rw [up2_n (by decide), up2_n (by decide), ex6, up2_n (by decide), ex5, up2_n (by decide)]
    · have a : MG t x5 := by rw [ex5]; exact (MG2.tr (MG.of q3 u3 W_in)).up (by decide) (by decide) (by unfold hfz; simp)
      have b : MG t x6 := by rw [ex6]; exact a.up (by decide) (by decide) (by unfold hfz; simp)
      exact (b.up (by decide) (by decide) (by unfold hfz; simp)).up (by decide) (by decide) (by decide)
  have c3' : fX4_readNumber h2 0 5 = some (0, h3) := c3
  have d3' : fX11_readNumber t2 0 5 = some (nI o, t3) := d3
  obtain ⟨h4, e4⟩ : ∃ h4, h4 = up2 h3 (g + 2) nr (nI o) := ⟨_, rfl⟩
  obtain ⟨t4, m4⟩ : ∃ t4, t4 = up2 t3 5 (9 + nr) (nI o) := ⟨_, rfl⟩
  have r3 : rf KC 395 1 (h3 38 2) = some g := rf_f g2 p3.2.2.2.1
  have h4k : ∀ i, i ≠ g + 2 → h4 i = h3 i := fun i hi => by rw [e4, up2_n hi]
  have t4k : ∀ i, i ≠ 5 → t4 i = t3 i := fun i hi => by rw [m4, up2_n hi]
  have p4 : PR g B L h4 t4 kd3 st3 en3 := p3.kept (h4k 1 (by omega)) (h4k 39 (by omega)) (by rw [h4k 38 (by omega)]) (t4k 0 (by decide)) (t4k 18 (by decide))
  have KG4 : KG g h h4 := by rw [e4]; exact (KG2.tr (KG.of f3 (fun i hi => by simp only [List.mem_cons, List.not_mem_nil, or_false] at hi; omega))).up (by omega)
  have MG4 : MG t t4 := by rw [m4]; exact (MG2.tr (MG.of q3 u3 TKs_in)).up (by decide) (by decide) (by unfold hfz; simp)
  rcases numR p4 (lo := 0) (hi := 999) (by decide) (by decide) with ⟨dd, h5, t5, kd5, st5, en5, -, d9, c5, d5, v5, p5, l5, f5, g5, q5, u5⟩ | ⟨cc, t5, c5, d5, bd, q5, u5⟩
  rotate_left
  · have c5' : fX4_readNumber h4 0 999 = some (cc, h4) := c5
    have d5' : fX11_readNumber t4 0 999 = some (0, t5) := d5
    obtain ⟨x6, ex6⟩ : ∃ x6, x6 = up2 t5 6 (9 + nr) 0 := ⟨_, rfl⟩
    have n26 : ¬ t5 0 26 = 0 := by rw [bd.2.1]; exact bd.1
    have y6 : fX11_readNumber x6 0 99 = some (0, x6) := (numW (by rw [ex6, up2_n (by decide)]; exact n26) _ _).2
    refine Or.inr ⟨cc, h4, up2 (up2 x6 7 (9 + nr) 0) 3 7 (up2 x6 7 (9 + nr) 0 3 7 + 1), clsH _ ?_, mdlH _ ?_, bd.kept rfl ?_, KG4, ?_⟩
    · rw [c3', bnd_s]
      dsimp only
      rw [if_pos rfl, r3, bnd_s, v3, wr_k (n := 9) c, bnd_s, ← e4, c5', bnd_s]
      dsimp only
      rw [if_neg bd.1]
    · rw [d3', bnd_s, wr_k (n := 18) (show 9 + nr < 18 by omega), bnd_s, ← m4, d5', bnd_s, wr_k (n := 18) (show 9 + nr < 18 by omega), bnd_s, ← ex6, y6, bnd_s, wr_k (n := 18) (show 9 + nr < 18 by omega), bnd_s, r7, bnd_s, w7, bnd_s]
    · rw [up2_n (by decide), up2_n (by decide), ex6, up2_n (by decide)]
    · have b : MG t x6 := by rw [ex6]; exact (MG4.tr (MG.of q5 u5 W_in)).up (by decide) (by decide) (by unfold hfz; simp)
      exact (b.up (by decide) (by decide) (by unfold hfz; simp)).up (by decide) (by decide) (by decide)
  have c5' : fX4_readNumber h4 0 999 = some (0, h5) := c5
  have d5' : fX11_readNumber t4 0 999 = some (nI dd, t5) := d5
  obtain ⟨h6, e6⟩ : ∃ h6, h6 = up2 h5 (g + 3) nr (nI dd) := ⟨_, rfl⟩
  obtain ⟨t6, m6⟩ : ∃ t6, t6 = up2 t5 6 (9 + nr) (nI dd) := ⟨_, rfl⟩
  have r5 : rf KC 395 1 (h5 38 2) = some g := rf_f g2 p5.2.2.2.1
  have h6k : ∀ i, i ≠ g + 3 → h6 i = h5 i := fun i hi => by rw [e6, up2_n hi]
  have t6k : ∀ i, i ≠ 6 → t6 i = t5 i := fun i hi => by rw [m6, up2_n hi]
  have p6 : PR g B L h6 t6 kd5 st5 en5 := p5.kept (h6k 1 (by omega)) (h6k 39 (by omega)) (by rw [h6k 38 (by omega)]) (t6k 0 (by decide)) (t6k 18 (by decide))
  have KG6 : KG g h h6 := by rw [e6]; exact (KG4.tr (KG.of f5 (fun i hi => by simp only [List.mem_cons, List.not_mem_nil, or_false] at hi; omega))).up (by omega)
  have MG6 : MG t t6 := by rw [m6]; exact (MG4.tr (MG.of q5 u5 TKs_in)).up (by decide) (by decide) (by unfold hfz; simp)
  rcases numR p6 (lo := 0) (hi := 99) (by decide) (by decide) with ⟨vv, h7, t7, kd7, st7, en7, -, v9, c7, d7, v7, p7, l7, f7, g7, q7, u7⟩ | ⟨cc, t7, c7, d7, bd, q7, u7⟩
  rotate_left
  · have c7' : fX4_readNumber h6 0 99 = some (cc, h6) := c7
    have d7' : fX11_readNumber t6 0 99 = some (0, t7) := d7
    refine Or.inr ⟨cc, h6, up2 (up2 t7 7 (9 + nr) 0) 3 7 (up2 t7 7 (9 + nr) 0 3 7 + 1), clsH _ ?_, mdlH _ ?_, bd.kept rfl ?_, KG6, ?_⟩
    · rw [c3', bnd_s]
      dsimp only
      rw [if_pos rfl, r3, bnd_s, v3, wr_k (n := 9) c, bnd_s, ← e4, c5', bnd_s]
      dsimp only
      rw [if_pos rfl, r5, bnd_s, v5, wr_k (n := 9) c, bnd_s, ← e6, c7', bnd_s]
      dsimp only
      rw [if_neg bd.1]
    · rw [d3', bnd_s, wr_k (n := 18) (show 9 + nr < 18 by omega), bnd_s, ← m4, d5', bnd_s, wr_k (n := 18) (show 9 + nr < 18 by omega), bnd_s, ← m6, d7', bnd_s, wr_k (n := 18) (show 9 + nr < 18 by omega), bnd_s, r7, bnd_s, w7, bnd_s]
    · rw [up2_n (by decide), up2_n (by decide)]
    · exact ((MG6.tr (MG.of q7 u7 W_in)).up (by decide) (by decide) (by unfold hfz; simp)).up (by decide) (by decide) (by decide)
  have c7' : fX4_readNumber h6 0 99 = some (0, h7) := c7
  have d7' : fX11_readNumber t6 0 99 = some (nI vv, t7) := d7
  have r7' : rf KC 395 1 (h7 38 2) = some g := rf_f g2 p7.2.2.2.1
  obtain ⟨h8, e8⟩ : ∃ h8, h8 = up2 h7 (g + 4) nr (nI vv) := ⟨_, rfl⟩
  obtain ⟨t8, m8⟩ : ∃ t8, t8 = up2 t7 7 (9 + nr) (nI vv) := ⟨_, rfl⟩
  have h8k : ∀ i, i ≠ g + 4 → h8 i = h7 i := fun i hi => by rw [e8, up2_n hi]
  have t8k : ∀ i, i ≠ 7 → t8 i = t7 i := fun i hi => by rw [m8, up2_n hi]
  -- the cells at the end
  have f3k : ∀ i, g ≤ i → i < g + 18 → h3 i = h2 i := fun i x y => f3 i (by simp only [List.mem_cons, List.not_mem_nil, or_false]; omega)
  have f5k : ∀ i, g ≤ i → i < g + 18 → h5 i = h4 i := fun i x y => f5 i (by simp only [List.mem_cons, List.not_mem_nil, or_false]; omega)
  have f7k : ∀ i, g ≤ i → i < g + 18 → h7 i = h6 i := fun i x y => f7 i (by simp only [List.mem_cons, List.not_mem_nil, or_false]; omega)
  have ck : ∀ i, g ≤ i → i < g + 18 → i ≠ g + 1 → i ≠ g + 2 → i ≠ g + 3 → i ≠ g + 4 → h8 i = h i := fun i x y a b c d => by
    rw [h8k i d, f7k i x y, h6k i c, f5k i x y, h4k i b, f3k i x y, h2k i a, hg i x y]
  have c1 : h8 (g + 1) = upd (h (g + 1)) nr (nI k) := by
    rw [h8k _ (by omega), f7k _ (by omega) (by omega), h6k _ (by omega), f5k _ (by omega) (by omega), h4k _ (by omega), f3k _ (by omega) (by omega), e2, up2_s, hg _ (by omega) (by omega)]
  have c2 : h8 (g + 2) = upd (h (g + 2)) nr (nI o) := by
    rw [h8k _ (by omega), f7k _ (by omega) (by omega), h6k _ (by omega), f5k _ (by omega) (by omega), e4, up2_s, f3k _ (by omega) (by omega), h2k _ (by omega), hg _ (by omega) (by omega)]
  have c3'' : h8 (g + 3) = upd (h (g + 3)) nr (nI dd) := by
    rw [h8k _ (by omega), f7k _ (by omega) (by omega), e6, up2_s, f5k _ (by omega) (by omega), h4k _ (by omega), f3k _ (by omega) (by omega), h2k _ (by omega), hg _ (by omega) (by omega)]
  have c4 : h8 (g + 4) = upd (h (g + 4)) nr (nI vv) := by
    rw [e8, up2_s, f7k _ (by omega) (by omega), h6k _ (by omega), f5k _ (by omega) (by omega), h4k _ (by omega), f3k _ (by omega) (by omega), h2k _ (by omega), hg _ (by omega) (by omega)]
  have mk : ∀ i, i ≠ 0 → i ≠ 4 → i ≠ 5 → i ≠ 6 → i ≠ 7 → t8 i = t i := fun i a b c d e => by
    rw [t8k i e, q7 i (by simp only [List.mem_cons, List.not_mem_nil, or_false]; omega), t6k i d, q5 i (by simp only [List.mem_cons, List.not_mem_nil, or_false]; omega), t4k i c, q3 i (by simp only [List.mem_cons, List.not_mem_nil, or_false]; omega), t2k i b, s6 i (by simp only [List.mem_cons, List.not_mem_nil, or_false]; omega)]
  have d4 : t8 4 = upd (t 4) (9 + nr) (nI k) := by
    rw [t8k 4 (by decide), q7 4 (by decide), t6k 4 (by decide), q5 4 (by decide), t4k 4 (by decide), q3 4 (by decide), m2, up2_s, s6 4 (by decide)]
  have d5'' : t8 5 = upd (t 5) (9 + nr) (nI o) := by
    rw [t8k 5 (by decide), q7 5 (by decide), t6k 5 (by decide), q5 5 (by decide), m4, up2_s, q3 5 (by decide), t2k 5 (by decide), s6 5 (by decide)]
  have d6 : t8 6 = upd (t 6) (9 + nr) (nI dd) := by
    rw [t8k 6 (by decide), q7 6 (by decide), m6, up2_s, q5 6 (by decide), t4k 6 (by decide), q3 6 (by decide), t2k 6 (by decide), s6 6 (by decide)]
  have d7'' : t8 7 = upd (t 7) (9 + nr) (nI vv) := by
    rw [m8, up2_s, q7 7 (by decide), t6k 7 (by decide), q5 7 (by decide), t4k 7 (by decide), q3 7 (by decide), t2k 7 (by decide), s6 7 (by decide)]
  have h8g : h8 g 0 = nI nr := by rw [ck g (by omega) (by omega) (by omega) (by omega) (by omega) (by omega)]; exact a2
  have t83 : t8 3 7 = nI nr := by rw [mk 3 (by decide) (by decide) (by decide) (by decide) (by decide)]; exact a1
  obtain ⟨h9, e9⟩ : ∃ h9, h9 = up2 h8 g 0 (nI (nr + 1)) := ⟨_, rfl⟩
  obtain ⟨t9, m9⟩ : ∃ t9, t9 = up2 t8 3 7 (nI (nr + 1)) := ⟨_, rfl⟩
  have h9k : ∀ i, i ≠ g → h9 i = h8 i := fun i hi => by rw [e9, up2_n hi]
  have t9k : ∀ i, i ≠ 3 → t9 i = t8 i := fun i hi => by rw [m9, up2_n hi]
  have r8' : rf KC 395 1 (h8 38 2) = some g := by rw [h8k 38 (by omega)]; exact r7'
  have s38 : Fs 38 [3] h h9 := fun j hj => by
    rw [h9k 38 (by omega), h8k 38 (by omega), g7 j hj, h6k 38 (by omega), g5 j hj, h4k 38 (by omega), g3 j hj, h2k 38 (by omega), s5 38 (by decide)]
  have le1 := s3.2.1.2.2.2.2.1.1
  have le3 := p3.2.1.2.2.2.2.1.1
  have le5 := p5.2.1.2.2.2.2.1.1
  refine Or.inl ⟨h9, t9, kd7, st7, en7, nr + 1, nd, nw, nc, nz, clsH _ ?_, mdlH _ ?_, ?_, ⟨⟨⟨by omega, n2, n3, n4, n5⟩, ⟨?_, ?_⟩, ⟨?_, ?_⟩, ⟨?_, ?_⟩, ⟨?_, ?_⟩, ?_, ?_, ⟨?_, ?_⟩⟩, ?_, ?_, ?_, ?_, ?_⟩, ?_, ?_, by omega, s38, Or.inr ?_, Or.inr ?_, no3⟩
  · rw [c3', bnd_s]
    dsimp only
    rw [if_pos rfl, r3, bnd_s, v3, wr_k (n := 9) c, bnd_s, ← e4, c5', bnd_s]
    dsimp only
    rw [if_pos rfl, r5, bnd_s, v5, wr_k (n := 9) c, bnd_s, ← e6, c7', bnd_s]
    dsimp only
    rw [if_pos rfl, r7', bnd_s, v7, wr_k (n := 9) c, bnd_s, ← e8, r8', bnd_s, h8g, pw_s, bnd_s, nI_1, ← e9]
  · rw [d3', bnd_s, wr_k (n := 18) (show 9 + nr < 18 by omega), bnd_s, ← m4, d5', bnd_s, wr_k (n := 18) (show 9 + nr < 18 by omega), bnd_s, ← m6, d7', bnd_s, wr_k (n := 18) (show 9 + nr < 18 by omega), bnd_s, ← m8, r7, bnd_s, t83, w7, bnd_s, nI_1, ← m9]
  · exact p7.kept (by rw [h9k 1 (by omega), h8k 1 (by omega)]) (by rw [h9k 39 (by omega), h8k 39 (by omega)]) (by rw [h9k 38 (by omega), h8k 38 (by omega)]) (by rw [t9k 0 (by decide), t8k 0 (by decide)]) (by rw [t9k 18 (by decide), t8k 18 (by decide)])
  · rw [m9, up2_ss]
  · rw [e9, up2_ss]
  · rw [m9, up2_sn (by decide), mk 3 (by decide) (by decide) (by decide) (by decide) (by decide)]; exact a3
  · rw [e9, up2_sn (by decide), ck g (by omega) (by omega) (by omega) (by omega) (by omega) (by omega)]; exact a4
  · rw [m9, up2_sn (by decide), mk 3 (by decide) (by decide) (by decide) (by decide) (by decide)]; exact a5
  · rw [e9, up2_sn (by decide), ck g (by omega) (by omega) (by omega) (by omega) (by omega) (by omega)]; exact a6
  · rw [m9, up2_sn (by decide), mk 3 (by decide) (by decide) (by decide) (by decide) (by decide)]; exact a7
  · rw [e9, up2_sn (by decide), ck g (by omega) (by omega) (by omega) (by omega) (by omega) (by omega)]; exact a8
  · rw [m9, up2_sn (by decide), mk 3 (by decide) (by decide) (by decide) (by decide) (by decide), e9, up2_sn (by decide), ck g (by omega) (by omega) (by omega) (by omega) (by omega) (by omega)]; exact a9
  · rw [m9, up2_sn (by decide), mk 3 (by decide) (by decide) (by decide) (by decide) (by decide), e9, up2_sn (by decide), ck g (by omega) (by omega) (by omega) (by omega) (by omega) (by omega)]; exact a10
  · rw [m9, up2_sn (by decide), mk 3 (by decide) (by decide) (by decide) (by decide) (by decide)]; exact a11
  · rw [h9k _ (by omega), ck (g + 12) (by omega) (by omega) (by omega) (by omega) (by omega) (by omega)]; exact a12
  · intro r hr'
    rw [t9k 4 (by decide), t9k 5 (by decide), t9k 6 (by decide), t9k 7 (by decide), d4, d5'', d6, d7'', h9k _ (by omega), h9k _ (by omega), h9k _ (by omega), h9k _ (by omega), c1, c2, c3'', c4]
    by_cases u : r = nr
    · rw [u, upd_s, upd_s, upd_s, upd_s, upd_s, upd_s, upd_s, upd_s]
      exact ⟨k, o, dd, vv, ⟨hk, o5, d9, v9⟩, ⟨rfl, rfl⟩, ⟨rfl, rfl⟩, ⟨rfl, rfl⟩, ⟨rfl, rfl⟩⟩
    · rw [upd_n (show 9 + r ≠ 9 + nr by omega), upd_n u, upd_n (show 9 + r ≠ 9 + nr by omega), upd_n u, upd_n (show 9 + r ≠ 9 + nr by omega), upd_n u, upd_n (show 9 + r ≠ 9 + nr by omega), upd_n u]
      exact hr r (by omega)
  · have e8' : t9 8 = t 8 := by rw [t9k 8 (by decide), mk 8 (by decide) (by decide) (by decide) (by decide) (by decide)]
    have e9' : t9 9 = t 9 := by rw [t9k 9 (by decide), mk 9 (by decide) (by decide) (by decide) (by decide) (by decide)]
    have e10' : t9 10 = t 10 := by rw [t9k 10 (by decide), mk 10 (by decide) (by decide) (by decide) (by decide) (by decide)]
    unfold HFd
    rw [wdC_cong e8' e9' e10', e8', e9', e10', h9k _ (by omega), h9k _ (by omega), h9k _ (by omega), ck (g + 5) (by omega) (by omega) (by omega) (by omega) (by omega) (by omega), ck (g + 6) (by omega) (by omega) (by omega) (by omega) (by omega) (by omega), ck (g + 16) (by omega) (by omega) (by omega) (by omega) (by omega) (by omega)]
    refine ⟨fun i hi => ?_, hd.2⟩
    obtain ⟨a, b, s, ⟨x1, x2, x3⟩, y⟩ := hd.1 i hi
    exact ⟨a, b, s, ⟨by omega, by omega, x3⟩, y⟩
  · unfold HFw
    rw [t9k 11 (by decide), mk 11 (by decide) (by decide) (by decide) (by decide) (by decide), t9k 12 (by decide), mk 12 (by decide) (by decide) (by decide) (by decide) (by decide), t9k 13 (by decide), mk 13 (by decide) (by decide) (by decide) (by decide) (by decide), t9k 14 (by decide), mk 14 (by decide) (by decide) (by decide) (by decide) (by decide), h9k _ (by omega), h9k _ (by omega), h9k _ (by omega), h9k _ (by omega), ck (g + 7) (by omega) (by omega) (by omega) (by omega) (by omega) (by omega), ck (g + 8) (by omega) (by omega) (by omega) (by omega) (by omega) (by omega), ck (g + 9) (by omega) (by omega) (by omega) (by omega) (by omega) (by omega), ck (g + 10) (by omega) (by omega) (by omega) (by omega) (by omega) (by omega)]
    intro w hw'
    obtain ⟨kk, y1, y2, y3⟩ := hw w hw'
    refine ⟨kk, y1, y2, fun j hj => ?_⟩
    obtain ⟨a, b, s, ⟨x1, x2, x3⟩, y⟩ := y3 j hj
    exact ⟨a, b, s, ⟨by omega, by omega, x3⟩, y⟩
  · unfold HFc
    rw [t9k 15 (by decide), mk 15 (by decide) (by decide) (by decide) (by decide) (by decide), h9k _ (by omega), ck (g + 11) (by omega) (by omega) (by omega) (by omega) (by omega) (by omega)]
    exact hc
  · unfold HFz
    rw [t9k 16 (by decide), mk 16 (by decide) (by decide) (by decide) (by decide) (by decide), h9k _ (by omega), ck (g + 14) (by omega) (by omega) (by omega) (by omega) (by omega) (by omega)]
    exact hz
  · rw [e9]
    have : KG g h h8 := by rw [e8]; exact (KG6.tr (KG.of f7 (fun i hi => by simp only [List.mem_cons, List.not_mem_nil, or_false] at hi; omega))).up (by omega)
    exact this.up (by omega)
  · rw [m9]
    have : MG t t8 := by rw [m8]; exact (MG6.tr (MG.of q7 u7 TKs_in)).up (by decide) (by decide) (by unfold hfz; simp)
    exact this.up (by decide) (by decide) (by decide)
  · rw [m9, up2_sn (by decide), mk 3 (by decide) (by decide) (by decide) (by decide) (by decide)]
  · rw [m9, up2_sn (by decide), mk 3 (by decide) (by decide) (by decide) (by decide) (by decide)]
