/-! ===== order, the call ===== -/
theorem okRows_n {n : Nat} (h : n ≤ 5) : okRows n = true := by
  have := rows_ok
  have c : n = 0 ∨ n = 1 ∨ n = 2 ∨ n = 3 ∨ n = 4 ∨ n = 5 := by omega
  rcases c with rfl | rfl | rfl | rfl | rfl | rfl
  · exact this.1
  · exact this.2.1
  · exact this.2.2.1
  · exact this.2.2.2.1
  · exact this.2.2.2.2.1
  · exact this.2.2.2.2.2
theorem okRows_d {n : Nat} (h : n ≤ 5) : ∃ L, L = rowsF n n [] ∧ okChain n L = true ∧ 1 ≤ L.length ∧ L.length ≤ 120 ∧ (∀ r, r ∈ L → ∀ j, j < n → r.getD j 0 < n) ∧ ∀ j, j < n → (L.headD []).getD j 0 = j := by
  have := okRows_n h
  unfold okRows at this
  simp only [Bool.and_eq_true, decide_eq_true_eq, List.all_eq_true, List.mem_range, beq_iff_eq] at this
  obtain ⟨⟨⟨⟨h1, h2⟩, h3⟩, h4⟩, h5⟩ := this
  exact ⟨_, rfl, h1, h2, h3, h4, h5⟩
theorem upB_some {val : List Nat → Int32} : ∀ (L : List (List Nat)) (s : Int32 × Option (List Nat)), (∃ r, s.2 = some r) → ∃ r, (L.foldl (upB val) s).2 = some r
  | [], s, h => h
  | r :: t, s, h => by
    rw [List.foldl_cons]
    refine upB_some t _ ?_
    unfold upB
    by_cases c : s.1 < val r
    · rw [if_pos c]; exact ⟨r, rfl⟩
    · rw [if_neg c]; exact h
theorem AB.ord {M : ST} (hB : FB M) {K : Nat} {A : AS} (h : AB M K A) {r : List Nat} (hr : ∀ j, j < nW M → r.getD j 0 < nW M) : ∀ j, j ≤ nW M → AB M (K + j) (aOrd M A r j)
  | 0, _ => h
  | j + 1, hj => (AB.ord hB h hr j (by omega)).pass hB (Or.inr ⟨_, hr j (by omega), rfl⟩)
theorem ordC {f : Nat} (hf : f = 2 ∨ f = 20) {M : ST} (hB : FB M) {A : AS} {hc : ST} (hCF : CF f M hc) (h0 : hc 0 3 = nI f) {z : ST} (hz : KcE f hc z) (hR : RC 386 M A z) {r : List Nat} (hr : ∀ j, j < nW M → z 390 j = nI (r.getD j 0) ∧ r.getD j 0 < nW M) (p q u : Int32) :
    ∃ y, lp FU (fX10_findOrder_57 p (nI (nW M)) q u) (z, 0) = some y ∧ RC 386 M (aOrd M A r (nW M)) y ∧ KcE f hc y ∧ y 390 = z 390 ∧ y 391 = z 391 := by
  have hW5 := hB.1.2.2.2.2.2.1
  refine lp_cnt (b := fX10_findOrder_57 p (nI (nW M)) q u) (fun i s => s.2 = nI i ∧ RC 386 M (aOrd M A r i) s.1 ∧ KcE f hc s.1 ∧ s.1 390 = z 390 ∧ s.1 391 = z 391) (nW M) (by omega) ?_ ?_ ⟨rfl, hR, hz, rfl, rfl⟩
  · rintro i ⟨s, t⟩ hi ⟨rfl, s1, s2, s3, s4⟩
    dsimp only at s1 s2 s3 s4
    have g : s 390 i = nI (r.getD i 0) := by rw [s3]; exact (hr i hi).1
    have sC := s2.cf hf hCF
    have f15 : s f 15 = M 3 4 := sC.1.2.2.2.2.1
    obtain ⟨y, y1, y2, y3⟩ := passC hf (Or.inr rfl) hB sC s1 (w := nI (r.getD i 0)) (e := M 3 4) (Or.inr ⟨_, (hr i hi).2, rfl⟩) (okE4 hB)
    have rff := rf_f hf (s2.c0 hf h0)
    refine Or.inl ⟨(y, nI (i + 1)), ?_, rfl, y2, s2.tr (KcE.of y3 (fun j hj => ?_)), (y3 390 (by simp only [List.mem_cons, List.not_mem_nil, or_false]; omega)).trans s3, (y3 391 (by simp only [List.mem_cons, List.not_mem_nil, or_false]; omega)).trans s4⟩
    · simp only [fX10_findOrder_57, if_neg (nI_ge hi (show nW M < 2 ^ 31 by omega)), rff, bnd_s, rd_k (n := 5) (show i < 5 by omega), g, f15, y1, nI_1]
    · simp only [List.mem_cons, List.not_mem_nil, or_false] at hj; omega
  · rintro ⟨s, t⟩ ⟨rfl, s1⟩
    exact ⟨s, by simp only [fX10_findOrder_57, Int32.le_refl, if_true], s1⟩
theorem findC {f : Nat} (hf : f = 2 ∨ f = 20) {M : ST} (hB : FB M) {A : AS} {hc : ST} (hCF : CF f M hc) (h0 : hc 0 3 = nI f) (hR : RC 43 M A hc) {a : Nat} (ha : a < nR M) :
    ∃ y, fX10_findOrder hc (nI a) = some (((rowsF (nW M) (nW M) []).foldl (upB fun r => aD (aOrd M A r (nW M)) a) (-1, none)).1, y) ∧ KcE f hc y ∧ ∀ r, ((rowsF (nW M) (nW M) []).foldl (upB fun r => aD (aOrd M A r (nW M)) a) (-1, none)).2 = some r → ∀ j, j < nW M → y 391 j = nI (r.getD j 0) := by
  have hW5 := hB.1.2.2.2.2.2.1
  have h9 := hB.1.2.1
  have h10 := hB.1.2.2.2.2.2.2.2
  obtain ⟨L, eL, L1, L2, L3, L4, L5⟩ := okRows_d hW5
  rw [← eL]
  obtain ⟨val, ev⟩ : ∃ val, val = fun r : List Nat => aD (aOrd M A r (nW M)) a := ⟨_, rfl⟩
  rw [← ev]
  have f8 : hc f 8 = nI (nW M) := hCF.1.2.2.1.trans hB.1.2.2.2.2.1
  obtain ⟨x, x1, x2, x3⟩ : ∃ x, lp FU (fX10_findOrder_10 (nI a) (nI (nW M))) (hc, 0) = some x ∧ (∀ j, j < nW M → x 390 j = nI j) ∧ Fr [390] hc x := by
    refine lp_cnt (b := fX10_findOrder_10 (nI a) (nI (nW M))) (fun i s => s.2 = nI i ∧ (∀ j, j < i → s.1 390 j = nI j) ∧ Fr [390] hc s.1) (nW M) (by omega) ?_ ?_ ⟨rfl, fun j hj => absurd hj (Nat.not_lt_zero j), Fr.rf⟩
    · rintro i ⟨s, t⟩ hi ⟨rfl, s1, s2⟩
      dsimp only at s1 s2
      refine Or.inl ⟨(up2 s 390 i (nI i), nI (i + 1)), ?_, rfl, fun j hj => ?_, s2.up (by decide)⟩
      · simp only [fX10_findOrder_10, if_neg (nI_ge hi (show nW M < 2 ^ 31 by omega)), wr_k (n := 5) (show i < 5 by omega), bnd_s, nI_1]
      · dsimp only
        rw [up2_s]
        by_cases c : j = i
        · rw [c, upd_s]
        · rw [upd_n c]; exact s1 j (by omega)
    · rintro ⟨s, t⟩ ⟨rfl, s1⟩
      exact ⟨s, by simp only [fX10_findOrder_10, Int32.le_refl, if_true], s1⟩
  have xK : KcE f hc x := KcE.of x3 (fun i hi => by simp only [List.mem_cons, List.not_mem_nil, or_false] at hi; omega)
  -- one row
  have one : ∀ s b t r, KcE f hc s → (∀ j, j < nW M → s 390 j = nI (r.getD j 0) ∧ r.getD j 0 < nW M) → t < 120 → ∃ y, KcE f hc y ∧ (∀ j, j < 5 → y 390 j = s 390 j) ∧ ((val r ≤ b ∧ y 391 = s 391 ∧ fX10_findOrder_33 (nI a) (nI (nW M)) (s, b, nI t) = fX10_findOrder_131 y (nI a) (nI (nW M)) b (nI t)) ∨ (¬ val r ≤ b ∧ (∀ j, j < 5 → y 391 j = s 390 j) ∧ fX10_findOrder_33 (nI a) (nI (nW M)) (s, b, nI t) = fX10_findOrder_131 y (nI a) (nI (nW M)) (val r) (nI t))) := by
    intro s b t r s1 s2 ht
    obtain ⟨z, z1, z2, z3, z4, z5⟩ := copyT2 hf h9 h10 (s1.cf hf hCF) (s1.c0 hf h0) (s1.rc hf hR)
    obtain ⟨z', w1, w2, w3⟩ := copyR (o := 386) (o1 := 43) (by omega) h9 h10 (s1.rc hf hR)
    have : z = z' := Option.some.inj (z1.symm.trans w1)
    subst this
    have z390 : z 390 = s 390 := w3 390 (by decide)
    have z391 : z 391 = s 391 := w3 391 (by decide)
    obtain ⟨y, y1, y2, y3, y4, y5⟩ := ordC hf hB hCF h0 (s1.tr z3) z2 (r := r) (fun j hj => by rw [z390]; exact s2 j hj) (nI a) b (nI t)
    have q := nI_ge ht (b := 120) (by decide)
    have D1 : y 387 a = val r := by rw [ev]; exact (y2.2.1 a ha).1
    by_cases c : val r ≤ b
    · refine ⟨y, y3, fun j _ => by rw [y4, z390], Or.inl ⟨c, y5.trans z391, ?_⟩⟩
      have q' : ¬ 120 ≤ nI t := q
      simp only [fX10_findOrder_33, if_neg q', z1, bnd_s, y1, rd_k (n := 9) (show a < 9 by omega), D1, if_pos c]
    · have q' : ¬ 120 ≤ nI t := q
      refine ⟨upR y 391 (cpy 5 (y 390) (y 391)), y3.tr (fun i hi _ _ => upR_n (by omega)), fun j _ => by rw [upR_n (by decide), y4, z390], Or.inr ⟨c, fun j hj => by rw [upR_s, cpy_in hj, y4, z390], ?_⟩⟩
      simp only [fX10_findOrder_33, if_neg q', z1, bnd_s, y1, rd_k (n := 9) (show a < 9 by omega), D1, if_neg c, acp_5 (h := y) (show 390 ≠ 391 by decide)]
  have main : ∃ r, lp FU (fX10_findOrder_33 (nI a) (nI (nW M))) (x, -1, 0) = some r ∧ ∃ y, r = .inl (y, (L.foldl (upB val) (-1, none)).1) ∧ KcE f hc y ∧ ∀ r, (L.foldl (upB val) (-1, none)).2 = some r → ∀ j, j < nW M → y 391 j = nI (r.getD j 0) := by
    refine lp_cnt (b := fX10_findOrder_33 (nI a) (nI (nW M))) (fun t s => s.2.2 = nI t ∧ KcE f hc s.1 ∧ (∃ r T, L.drop t = r :: T ∧ okChain (nW M) (r :: T) = true ∧ ∀ j, j < nW M → s.1 390 j = nI (r.getD j 0)) ∧ s.2.1 = ((L.take t).foldl (upB val) (-1, none)).1 ∧ ∀ r, ((L.take t).foldl (upB val) (-1, none)).2 = some r → ∀ j, j < nW M → s.1 391 j = nI (r.getD j 0)) (L.length - 1) (by omega) ?_ ?_ ⟨rfl, xK, ?_, ?_⟩
    · rintro t ⟨s, b, k⟩ ht ⟨rfl, s1, ⟨r, T, e1, e2, e3⟩, rfl, s4⟩
      dsimp only at s1 e3 s4
      have hlen : (L.drop t).length = L.length - t := List.length_drop
      cases T with
      | nil => rw [e1] at hlen; simp only [List.length_cons, List.length_nil] at hlen; omega
      | cons r' T =>
        have mem : ∀ q, q ∈ L.drop t → q ∈ L := fun q hq => List.mem_of_mem_drop hq
        have rm : r ∈ L := mem r (by rw [e1]; exact List.mem_cons_self)
        obtain ⟨y, y1, y2, y3⟩ := one s ((L.take t).foldl (upB val) (-1, none)).1 t r s1 (fun j hj => ⟨e3 j hj, L4 r rm j hj⟩) (by omega)
        have tk : L.take (t + 1) = L.take t ++ [r] := by
          have hh : t < L.length := by omega
          rw [List.take_add_one, List.getElem?_eq_getElem hh]
          have : L[t] = r := by
            have := List.getElem_cons_drop hh
            rw [e1] at this
            injection this
          rw [this]; rfl
        have dr : L.drop (t + 1) = r' :: T := by
          rw [← List.drop_drop, e1]; rfl
        unfold okChain at e2
        rw [Bool.and_eq_true] at e2
        have nc := nextC (h := y) hW5 (g := fun j => r.getD j 0) (fun q hq => ⟨by rw [y2 q (by omega)]; exact e3 q hq, by have := L4 r rm q hq; omega⟩)
        rcases nc with ⟨n1, -⟩ | ⟨g', z, n1, n2, n3, n4⟩
        · rw [n1] at e2; exact absurd e2.1 Bool.false_ne_true
        · rw [n1] at e2
          have e21 := e2.1
          simp only [List.all_eq_true, List.mem_range, beq_iff_eq] at e21
          have zK : KcE f hc z := y1.tr (KcE.of n4 (fun i hi => by simp only [List.mem_cons, List.not_mem_nil, or_false] at hi; omega))
          have z391 : z 391 = y 391 := n4 391 (by decide)
          have fold : (L.take (t + 1)).foldl (upB val) (-1, none) = upB val ((L.take t).foldl (upB val) (-1, none)) r := by rw [tk, List.foldl_append]; rfl
          have n1' : ¬ (1 : Int32) = 0 := by decide
          rcases y3 with ⟨c, y4, y5⟩ | ⟨c, y4, y5⟩
          · have ub : upB val ((L.take t).foldl (upB val) (-1, none)) r = (L.take t).foldl (upB val) (-1, none) := if_neg (Int32.not_lt.mpr c)
            refine Or.inl ⟨(z, ((L.take t).foldl (upB val) (-1, none)).1, nI (t + 1)), ?_, rfl, zK, ⟨r', T, dr, e2.2, fun j hj => by dsimp only; rw [n3 j hj, e21 j hj]⟩, by rw [fold, ub], ?_⟩
            · rw [y5]
              simp only [fX10_findOrder_131, n2, bnd_s, if_neg n1', nI_1]
            · rw [fold, ub]
              intro q hq j hj
              dsimp only
              rw [z391, y4]
              exact s4 q hq j hj
          · have ub : upB val ((L.take t).foldl (upB val) (-1, none)) r = (val r, some r) := if_pos (Int32.not_le.mp c)
            refine Or.inl ⟨(z, val r, nI (t + 1)), ?_, rfl, zK, ⟨r', T, dr, e2.2, fun j hj => by dsimp only; rw [n3 j hj, e21 j hj]⟩, by rw [fold, ub], ?_⟩
            · rw [y5]
              simp only [fX10_findOrder_131, n2, bnd_s, if_neg n1', nI_1]
            · rw [fold, ub]
              intro q hq j hj
              cases hq
              dsimp only
              rw [z391, y4 j (by omega)]
              exact e3 j hj
    · rintro ⟨s, b, k⟩ ⟨rfl, s1, ⟨r, T, e1, e2, e3⟩, rfl, s4⟩
      dsimp only at s1 e3 s4
      have hlen : (L.drop (L.length - 1)).length = L.length - (L.length - 1) := List.length_drop
      cases T with
      | cons r' T => rw [e1] at hlen; simp only [List.length_cons] at hlen; omega
      | nil =>
        have rm : r ∈ L := List.mem_of_mem_drop (by rw [e1]; exact List.mem_cons_self)
        obtain ⟨y, y1, y2, y3⟩ := one s ((L.take (L.length - 1)).foldl (upB val) (-1, none)).1 (L.length - 1) r s1 (fun j hj => ⟨e3 j hj, L4 r rm j hj⟩) (by omega)
        have tk : L = L.take (L.length - 1) ++ [r] := by
          have := List.take_append_drop (L.length - 1) L
          rw [e1] at this
          exact this.symm
        have fold : L.foldl (upB val) (-1, none) = upB val ((L.take (L.length - 1)).foldl (upB val) (-1, none)) r := by
          have : L.foldl (upB val) (-1, none) = (L.take (L.length - 1) ++ [r]).foldl (upB val) (-1, none) := congrArg (fun l => l.foldl (upB val) (-1, none)) tk
          rw [this, List.foldl_append]; rfl
        have nc := nextC (h := y) hW5 (g := fun j => r.getD j 0) (fun q hq => ⟨by rw [y2 q (by omega)]; exact e3 q hq, by have := L4 r rm q hq; omega⟩)
        unfold okChain at e2
        rcases nc with ⟨n1, n2⟩ | ⟨g', z, n1, -⟩
        rotate_left
        · rw [n1] at e2; exact absurd e2 Bool.false_ne_true
        rcases y3 with ⟨c, y4, y5⟩ | ⟨c, y4, y5⟩
        · have ub : upB val ((L.take (L.length - 1)).foldl (upB val) (-1, none)) r = (L.take (L.length - 1)).foldl (upB val) (-1, none) := if_neg (Int32.not_lt.mpr c)
          refine ⟨.inl (y, (L.foldl (upB val) (-1, none)).1), ?_, y, rfl, y1, ?_⟩
          · rw [y5, fold, ub]
            simp only [fX10_findOrder_131, n2, bnd_s, if_true]
          · rw [fold, ub]
            intro q hq j hj
            rw [y4]
            exact s4 q hq j hj
        · have ub : upB val ((L.take (L.length - 1)).foldl (upB val) (-1, none)) r = (val r, some r) := if_pos (Int32.not_le.mp c)
          refine ⟨.inl (y, (L.foldl (upB val) (-1, none)).1), ?_, y, rfl, y1, ?_⟩
          · rw [y5, fold, ub]
            simp only [fX10_findOrder_131, n2, bnd_s, if_true]
          · rw [fold, ub]
            intro q hq j hj
            cases hq
            rw [y4 j (by omega)]
            exact e3 j hj
    · cases hL : L with
      | nil => rw [hL] at L2; exact absurd L2 (by decide)
      | cons r T =>
        refine ⟨r, T, rfl, by rw [← hL]; exact L1, fun j hj => ?_⟩
        have := L5 j hj
        rw [hL] at this
        have e : r.getD j 0 = j := this
        dsimp only
        rw [e]; exact x2 j hj
    · exact ⟨rfl, fun r hr => by cases hr⟩
  obtain ⟨-, r1, y, rfl, y1, y2⟩ := main
  refine ⟨y, ?_, y1, y2⟩
  unfold fX10_findOrder fX10_findOrder_151
  rw [rf_f hf h0, bnd_s, f8, x1, bnd_s, r1, bnd_s]
  rfl
theorem t_order {hc hm : ST} (hI : Inv hc hm) (a1 a2 : Int32) : ∃ y, s_order hc hm a1 a2 = some y ∧ Inv y.1 y.2 := by
  obtain ⟨f, M, A, h, h2⟩ := hI
  obtain ⟨hf, h0, hB, hF, hCF, hR, hR1, hA⟩ := id h
  have m1 := codeM (M := M) hR1
  have h9 := hB.1.2.1
  have hW5 := hB.1.2.2.2.2.2.1
  have b2 := hB.1.2.2.2.2.1
  have hF1 := fm_up hF 2 0
  have g3 : up2 hm 0 2 0 3 = M 3 := hF1 3 (by decide)
  have n1 : ¬ (1 : Int32) = 0 := by decide
  unfold s_order fL_order
  apply s_ok
  rcases room_c h a1 with ⟨a, ha, rfl, e1, e2⟩ | ⟨e1, e2⟩
  rotate_left
  · obtain ⟨q1, q2⟩ := failM hR1 1
    refine Or.inr ⟨1, 1, 0, hc, _, ?_, rfl, by decide, ?_, q2.2.2.2, Inv.ro h h2 (fun _ _ _ _ => rfl) q2⟩
    · simp only [fX10_order, bnd_s, pw_s, rd_0, rd_1, rd_2, rd_3, rd_4, rd_5, rd_6, wr_0, wr_1, wr_2, wr_3, wr_4, wr_5, zb_0, zb_1, Nat.reduceLT, Nat.reducePow, e1, sm]
    · simp only [fX11_order, fX11_order_33, bnd_s, pw_s, rd_0, rd_1, rd_2, rd_3, rd_4, rd_5, rd_6, wr_0, wr_1, wr_2, wr_3, wr_4, wr_5, zb_0, zb_1, Nat.reduceLT, Nat.reducePow, e2 _ hF1, q1, if_true]
  have E2 := e2 _ hF1
  obtain ⟨y, y1, y2, y3⟩ := findC hf hB hCF h0 hR ha
  obtain ⟨x, ex⟩ : ∃ x, x = up2 (up2 hm 0 2 0) 0 45 (-1) := ⟨_, rfl⟩
  have xH : HO M A hm x (-1, none) := by
    rw [ex]
    exact ⟨rm_up m1.2.2.1 (by decide) _, fm_up hF1 _ _, m1.1.up (by decide), m1.2.1.up (by decide), by rw [up2_sn (by decide)]; exact m1.2.2.2, up2_ss _ _ _ _, fun r hr => by cases hr⟩
  obtain ⟨z, z1, z2, -⟩ := goM hB ha (nW M) 8 [] 0 x (-1, none) (by simp) (by omega) (fun w hw => by cases hw) (by decide) (fun w hw => by simp) (fun j hj => absurd hj (Nat.not_lt_zero j)) xH
  have z1' : fX11_goOrders 8 x (nI a) 0 0 = some z := z1
  obtain ⟨F, eF⟩ : ∃ F, F = (rowsF (nW M) (nW M) []).foldl (upB fun r => aD (aOrd M A r (nW M)) a) (-1, none) := ⟨_, rfl⟩
  rw [← eF] at y1 y3 z2
  obtain ⟨k1, k2, k3, k4, k5, k6, k7⟩ := z2
  have zM : MR M A 0 hm z := ⟨k3, k4, k1, k5⟩
  by_cases cm : a2 = -1
  · have ii : fX11_isIn (up2 hm 0 2 0) a2.toInt64 ((-1) : Int64) ((nI (nW M) - 1).toInt64) = some 1 := by
      refine isIn_m1y (by rw [cm]; decide) ((sub_m1 (by omega)).mpr ?_)
      rw [cm, Int32.lt_iff_toInt_lt, nI_toInt (by omega)]
      show (-1 : Int) < _
      omega
    refine Or.inl ⟨F.1, y, z, ?_, ?_, k5, Inv.ro h h2 y2 zM⟩
    · unfold fX10_order fX10_order_33 fX10_order_54
      rw [e1, bnd_s]
      show (if a2 = -1 then _ else _) = _
      rw [if_pos cm, y1, bnd_s, if_pos cm]
    · unfold fX11_order fX11_order_69
      rw [pw_s, bnd_s, E2, bnd_s, if_neg n1, g3, rd_2 (by decide) (by decide), bnd_s, b2, ii, bnd_s, if_neg n1, pw_s, bnd_s, ← ex, z1', bnd_s, if_pos cm, k6]
  by_cases c0 : a2 < 0
  · have ii : fX11_isIn (up2 hm 0 2 0) a2.toInt64 ((-1) : Int64) ((nI (nW M) - 1).toInt64) = some 0 := by
      refine isIn_m1n (fun q => cm ?_)
      have h1 := q.1
      rw [Int32.le_iff_toInt_le] at h1
      rw [Int32.lt_iff_toInt_lt] at c0
      apply Int32.toInt_inj.mp
      have e1 : (-1 : Int32).toInt = -1 := by decide
      have e2 : (0 : Int32).toInt = 0 := by decide
      omega
    obtain ⟨q1, q2⟩ := failM hR1 1
    refine Or.inr ⟨1, 1, 0, hc, _, ?_, rfl, by decide, ?_, q2.2.2.2, Inv.ro h h2 (fun _ _ _ _ => rfl) q2⟩
    · unfold fX10_order fX10_order_25
      rw [e1, bnd_s]
      show (if a2 = -1 then _ else _) = _
      rw [if_neg cm, if_pos c0]
    · unfold fX11_order fX11_order_33
      rw [pw_s, bnd_s, E2, bnd_s, if_neg n1, g3, rd_2 (by decide) (by decide), bnd_s, b2, ii, bnd_s, if_pos rfl, q1, bnd_s]
  have f8 : hc f 8 = nI (nW M) := hCF.1.2.2.1.trans b2
  rcases lt_c (n := nW M) (by omega) a2 with ⟨w, hw, rfl, -⟩ | ⟨e, -⟩
  · have ii : fX11_isIn (up2 hm 0 2 0) (nI w).toInt64 ((-1) : Int64) ((nI (nW M) - 1).toInt64) = some 1 := by
      refine isIn_m1y ?_ ((sub_m1 (by omega)).mpr (nI_lt hw (by omega)))
      rw [Int32.le_iff_toInt_le, nI_toInt (by omega)]
      show (-1 : Int) ≤ _
      omega
    have hs : ∃ r, F.2 = some r := by
      obtain ⟨L, eL, L1, L2, L3, L4, L5⟩ := okRows_d hW5
      rw [eF, ← eL]
      cases hL : L with
      | nil => rw [hL] at L2; exact absurd L2 (by decide)
      | cons r T =>
        rw [List.foldl_cons]
        refine upB_some T _ ?_
        obtain ⟨v, hv, ev⟩ := (hA.ord hB (r := r) (fun j hj => L4 r (by rw [hL]; exact List.mem_cons_self) j hj) (nW M) (Nat.le_refl _)).1 a ha
        have lt : (-1 : Int32) < aD (aOrd M A r (nW M)) a := by
          rw [ev, Int32.lt_iff_toInt_lt, nI_toInt (by omega)]
          show (-1 : Int) < _
          omega
        have ub : upB (fun r => aD (aOrd M A r (nW M)) a) (-1, none) r = (aD (aOrd M A r (nW M)) a, some r) := if_pos lt
        rw [ub]
        exact ⟨r, rfl⟩
    obtain ⟨r, hr⟩ := hs
    refine Or.inl ⟨nI (r.getD w 0), y, z, ?_, ?_, k5, Inv.ro h h2 y2 zM⟩
    · unfold fX10_order fX10_order_33 fX10_order_54
      rw [e1, bnd_s]
      show (if nI w = -1 then _ else _) = _
      rw [if_neg cm, if_neg c0, rf_f hf h0, bnd_s, f8, if_pos (nI_lt hw (by omega)), y1, bnd_s, if_neg cm, rd_k (n := 5) (show w < 5 by omega), bnd_s]
      dsimp only
      rw [y3 r hr w hw]
    · unfold fX11_order fX11_order_69
      rw [pw_s, bnd_s, E2, bnd_s, if_neg n1, g3, rd_2 (by decide) (by decide), bnd_s, b2, ii, bnd_s, if_neg n1, pw_s, bnd_s, ← ex, z1', bnd_s, if_neg cm, rd_k (n := 5) (show w < 5 by omega), bnd_s, k7 r hr w hw]
  · have e := e.resolve_left c0
    have ii : fX11_isIn (up2 hm 0 2 0) a2.toInt64 ((-1) : Int64) ((nI (nW M) - 1).toInt64) = some 0 := isIn_m1n (fun q => absurd ((sub_m1 (by omega)).mp q.2) (Int32.not_lt.mpr e))
    obtain ⟨q1, q2⟩ := failM hR1 1
    refine Or.inr ⟨1, 1, 0, hc, _, ?_, rfl, by decide, ?_, q2.2.2.2, Inv.ro h h2 (fun _ _ _ _ => rfl) q2⟩
    · unfold fX10_order fX10_order_25
      rw [e1, bnd_s]
      show (if a2 = -1 then _ else _) = _
      rw [if_neg cm, if_neg c0, rf_f hf h0, bnd_s, f8, if_neg (Int32.not_lt.mpr e)]
    · unfold fX11_order fX11_order_33
      rw [pw_s, bnd_s, E2, bnd_s, if_neg n1, g3, rd_2 (by decide) (by decide), bnd_s, b2, ii, bnd_s, if_pos rfl, q1, bnd_s]
