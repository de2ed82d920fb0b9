/-! ===== parish: measure ===== -/
def wdM (M : ST) : Nat → Nat → Int32
  | 0 => fun _ => -1
  | d + 1 => upd (upd (wdM M d) (9 * (M 8 d).toNatClampNeg + (M 9 d).toNatClampNeg) (M 10 d)) (9 * (M 9 d).toNatClampNeg + (M 8 d).toNatClampNeg) (M 10 d)
def VD (M : ST) : Nat → Nat → Nat → Nat
  | 0 => fun a b => if a = b then 0 else 1000000
  | d + 1 => fun a b => if (a = (M 9 d).toNatClampNeg ∧ b = (M 8 d).toNatClampNeg) ∨ (a = (M 8 d).toNatClampNeg ∧ b = (M 9 d).toNatClampNeg) then (M 10 d).toNatClampNeg else VD M d a b
theorem VD_ok {M : ST} (hB : FB M) : ∀ d, d ≤ nDo M → (∀ k, k < 81 → wDoors M d k = nI (VD M d (k / 9) (k % 9))) ∧ (∀ a b, a < 9 → b < 9 → a ≠ b → wdM M d (9 * a + b) = clsV (VD M d a b)) ∧ RV (nR M) 9 (VD M d)
  | 0, _ => by
    refine ⟨fun k hk => ?_, fun a b ha hb ne => ?_, fun a ha => ?_, fun a b ha hb c ne => ?_, fun a b ha hb => ?_⟩
    · show wInit k = nI (if k / 9 = k % 9 then 0 else 1000000)
      unfold wInit
      by_cases c : k / 9 = k % 9
      · rw [if_pos c, if_pos c]; rfl
      · rw [if_neg c, if_neg c]; rfl
    · show (-1 : Int32) = clsV (if a = b then 0 else 1000000)
      rw [if_neg ne]; rfl
    · show (if a = a then 0 else 1000000) = 0
      rw [if_pos rfl]
    · show (if a = b then 0 else 1000000) = 1000000
      rw [if_neg ne]
    · show (if a = b then 0 else 1000000) = 1000000 ∨ (if a = b then 0 else 1000000) ≤ 9
      by_cases c : a = b
      · rw [if_pos c]; omega
      · rw [if_neg c]; omega
  | d + 1, hd => by
    have h9 := hB.1.2.1
    obtain ⟨h1, h2, h3, h4, h5⟩ := VD_ok hB d (by omega)
    obtain ⟨A, C, s, hA, hC, ne, s1, s9, e8, e9, e10⟩ := hB.2.2.2.1 d (by omega)
    have vA : (M 8 d).toNatClampNeg = A := by rw [e8, nI_clamp (by omega)]
    have vC : (M 9 d).toNatClampNeg = C := by rw [e9, nI_clamp (by omega)]
    have vs : (M 10 d).toNatClampNeg = s := by rw [e10, nI_clamp (by omega)]
    have un : ∀ a b, VD M (d + 1) a b = if (a = C ∧ b = A) ∨ (a = A ∧ b = C) then s else VD M d a b := fun a b => by
      show (if (a = (M 9 d).toNatClampNeg ∧ b = (M 8 d).toNatClampNeg) ∨ (a = (M 8 d).toNatClampNeg ∧ b = (M 9 d).toNatClampNeg) then (M 10 d).toNatClampNeg else VD M d a b) = _
      rw [vA, vC, vs]
    refine ⟨fun k hk => ?_, fun a b ha hb nab => ?_, fun a ha => ?_, fun a b ha hb c nab => ?_, fun a b ha hb => ?_⟩
    · show upd (upd (wDoors M d) (9 * (M 8 d).toNatClampNeg + (M 9 d).toNatClampNeg) (M 10 d)) (9 * (M 9 d).toNatClampNeg + (M 8 d).toNatClampNeg) (M 10 d) k = _
      rw [vA, vC, e10, un]
      by_cases c1 : k = 9 * C + A
      · rw [c1, upd_s, if_pos (Or.inl ⟨by omega, by omega⟩)]
      · rw [upd_n c1]
        by_cases c2 : k = 9 * A + C
        · rw [c2, upd_s, if_pos (Or.inr ⟨by omega, by omega⟩)]
        · rw [upd_n c2, if_neg (by omega)]; exact h1 k hk
    · show upd (upd (wdM M d) (9 * (M 8 d).toNatClampNeg + (M 9 d).toNatClampNeg) (M 10 d)) (9 * (M 9 d).toNatClampNeg + (M 8 d).toNatClampNeg) (M 10 d) (9 * a + b) = _
      rw [vA, vC, e10, un]
      by_cases c1 : 9 * a + b = 9 * C + A
      · rw [c1, upd_s, if_pos (Or.inl ⟨by omega, by omega⟩), clsV_n (by omega)]
      · rw [upd_n c1]
        by_cases c2 : 9 * a + b = 9 * A + C
        · rw [c2, upd_s, if_pos (Or.inr ⟨by omega, by omega⟩), clsV_n (by omega)]
        · rw [upd_n c2, if_neg (by omega)]; exact h2 a b ha hb nab
    · rw [un, if_neg (by omega)]; exact h3 a ha
    · rw [un, if_neg (by omega)]; exact h4 a b ha hb c nab
    · rw [un]
      by_cases c : (a = C ∧ b = A) ∨ (a = A ∧ b = C)
      · rw [if_pos c]; omega
      · rw [if_neg c]; exact h5 a b ha hb
theorem measureX {g : Nat} {h M : ST} (hB : FB M) (h0 : h g 0 = M 3 0) (h2 : ∀ r, r < nR M → h (g + 2) r = M 5 r) (hd : E81 (h (g + 16)) (wdM M (nDo M))) :
    ∃ y, fX2_measure h g = some y ∧ (∀ o, o < 6 → y (g + 17) o = nI (cntO M (nI o) (nR M))) ∧ WayR g M y ∧ Fr [g + 16, g + 17] h y := by
  have h9 := hB.1.2.1
  have b0 : h g 0 = nI (nR M) := h0.trans hB.1.1
  obtain ⟨x, x1, x2, x3⟩ := fillJ (h := h) (o := g + 17) (n := 6) (by decide) 0
  have x30 : Fr [g + 16, g + 17] h x := x3.sub (fun i hi => by simp only [List.mem_cons, List.not_mem_nil, or_false] at hi ⊢; omega)
  -- who has how many rooms
  obtain ⟨y, y1, y2, y3⟩ : ∃ y, lp FU (fX2_measure_10 g) (x, 0) = some y ∧ (∀ o, o < 6 → y (g + 17) o = nI (cntO M (nI o) (nR M))) ∧ Fr [g + 17] h y := by
    refine lp_cnt (b := fX2_measure_10 g) (fun i s => s.2 = nI i ∧ (∀ o, o < 6 → s.1 (g + 17) o = nI (cntO M (nI o) i)) ∧ Fr [g + 17] h s.1) (nR M) (by omega) ?_ ?_ ⟨rfl, x2, x3⟩
    · rintro i ⟨s, u⟩ hi ⟨rfl, s1, s2⟩
      dsimp only at s1 s2
      have g0 : s g 0 = nI (nR M) := by rw [s2 g (by simp only [List.mem_cons, List.not_mem_nil, or_false]; omega)]; exact b0
      obtain ⟨-, ⟨o, o6, e5⟩, -⟩ := hB.2.2.1 i hi
      have g2 : s (g + 2) i = nI o := by rw [s2 (g + 2) (by simp only [List.mem_cons, List.not_mem_nil, or_false]; omega), h2 i hi]; exact e5
      refine Or.inl ⟨(up2 s (g + 17) o (nI (cntO M (nI o) i + 1)), nI (i + 1)), ?_, rfl, fun p hp => ?_, s2.up (by simp only [List.mem_cons, List.not_mem_nil, or_false, true_or, or_true])⟩
      · unfold fX2_measure_10
        dsimp only
        rw [if_neg (show ¬ s g 0 ≤ nI i by rw [g0]; exact nI_ge hi (by omega)), rd_k (n := 9) (show i < 9 by omega), bnd_s, g2, rd_k (n := 6) o6, bnd_s, s1 o o6, nI_1, wr_k (n := 6) o6, bnd_s, nI_1]
      · dsimp only
        show _ = nI (cntO M (nI p) i + if M 5 i = nI p then 1 else 0)
        rw [e5]
        by_cases c : p = o
        · rw [c, up2_ss, if_pos rfl]
        · rw [up2_sn c, if_neg (fun z => c ((nI_eq (a := o) (b := p) (by omega) (by omega)).mp z).symm)]; exact s1 p hp
    · rintro ⟨s, u⟩ ⟨rfl, s1, s2⟩
      dsimp only at s1 s2
      have g0 : s g 0 = nI (nR M) := by rw [s2 g (by simp only [List.mem_cons, List.not_mem_nil, or_false]; omega)]; exact b0
      refine ⟨s, ?_, s1, s2⟩
      unfold fX2_measure_10
      dsimp only
      rw [if_pos (show s g 0 ≤ nI (nR M) by rw [g0]; exact Int32.le_refl _)]
  have v := VD_ok hB (nDo M) (Nat.le_refl _)
  obtain ⟨v1, v2, v3⟩ := v
  -- no way to where one is
  obtain ⟨z, z1, z2, z3⟩ : ∃ z, lp FU (fX2_measure_41 g) (y, 0) = some z ∧ (∀ a b, a < nR M → b < nR M → z (g + 16) (9 * a + b) = clsV (VD M (nDo M) a b)) ∧ Fr [g + 16] y z := by
    obtain ⟨z, z1, z2, z3⟩ : ∃ z, lp FU (fX2_measure_41 g) (y, 0) = some z ∧ (∀ a b, a < 9 → b < 9 → z (g + 16) (9 * a + b) = if a = b ∧ a < nR M then 0 else y (g + 16) (9 * a + b)) ∧ Fr [g + 16] y z := by
      refine lp_cnt (b := fX2_measure_41 g) (fun i s => s.2 = nI i ∧ (∀ a b, a < 9 → b < 9 → s.1 (g + 16) (9 * a + b) = if a = b ∧ a < i then 0 else y (g + 16) (9 * a + b)) ∧ Fr [g + 16] y s.1) (nR M) (by omega) ?_ ?_ ⟨rfl, fun a b _ _ => by rw [if_neg (by omega)], Fr.rf⟩
      · rintro i ⟨s, u⟩ hi ⟨rfl, s1, s2⟩
        dsimp only at s1 s2
        have g0 : s g 0 = nI (nR M) := by rw [s2 g (by simp only [List.mem_cons, List.not_mem_nil, or_false]; omega), y3 g (by simp only [List.mem_cons, List.not_mem_nil, or_false]; omega)]; exact b0
        have i1 : nI i * 9 + nI i = nI (9 * i + i) := by rw [show nI i * 9 = nI (i * 9) from nI_mul i 9, nI_add, Nat.mul_comm]
        refine Or.inl ⟨(up2 s (g + 16) (9 * i + i) 0, nI (i + 1)), ?_, rfl, fun a b ha hb => ?_, s2.up (by simp only [List.mem_cons, List.not_mem_nil, or_false, true_or, or_true])⟩
        · unfold fX2_measure_41
          dsimp only
          rw [if_neg (show ¬ s g 0 ≤ nI i by rw [g0]; exact nI_ge hi (by omega)), i1, wr_k (n := 81) (show 9 * i + i < 81 by omega), bnd_s, nI_1]
        · dsimp only
          by_cases c : 9 * a + b = 9 * i + i
          · rw [c, up2_ss, if_pos (by omega)]
          · rw [up2_sn c, s1 a b ha hb]
            by_cases d : a = b ∧ a < i
            · rw [if_pos d, if_pos (by omega)]
            · rw [if_neg d, if_neg (by omega)]
      · rintro ⟨s, u⟩ ⟨rfl, s1, s2⟩
        dsimp only at s1 s2
        have g0 : s g 0 = nI (nR M) := by rw [s2 g (by simp only [List.mem_cons, List.not_mem_nil, or_false]; omega), y3 g (by simp only [List.mem_cons, List.not_mem_nil, or_false]; omega)]; exact b0
        refine ⟨s, ?_, s1, s2⟩
        unfold fX2_measure_41
        dsimp only
        rw [if_pos (show s g 0 ≤ nI (nR M) by rw [g0]; exact Int32.le_refl _)]
    refine ⟨z, z1, fun a b ha hb => ?_, z3⟩
    rw [z2 a b (by omega) (by omega)]
    by_cases c : a = b
    · rw [if_pos ⟨c, ha⟩, c, v3.1 b (by omega)]; rfl
    · rw [if_neg (fun q => c q.1), y3 (g + 16) (by simp only [List.mem_cons, List.not_mem_nil, or_false]; omega), hd (9 * a + b) (by omega)]; exact v2 a b (by omega) (by omega) c
  have zg0 : z g 0 = nI (nR M) := by rw [z3 g (by simp only [List.mem_cons, List.not_mem_nil, or_false]; omega), y3 g (by simp only [List.mem_cons, List.not_mem_nil, or_false]; omega)]; exact b0
  obtain ⟨w, w1, w2, w3⟩ : ∃ w, lp FU (fX2_measure_69 g) (z, 0) = some w ∧ (∀ a b, a < nR M → b < nR M → w (g + 16) (9 * a + b) = clsV (VA (VD M (nDo M)) (nR M) a b)) ∧ Fr [g + 16] z w := by
    refine lp_cnt (b := fX2_measure_69 g) (fun i s => s.2 = nI i ∧ (∀ a b, a < nR M → b < nR M → s.1 (g + 16) (9 * a + b) = clsV (VA (VD M (nDo M)) i a b)) ∧ Fr [g + 16] z s.1) (nR M) (by omega) ?_ ?_ ⟨rfl, z2, Fr.rf⟩
    · rintro i ⟨s, u⟩ hi ⟨rfl, s1, s2⟩
      dsimp only at s1 s2
      have g0 : s g 0 = nI (nR M) := by rw [s2 g (by simp only [List.mem_cons, List.not_mem_nil, or_false]; omega)]; exact zg0
      have r := VA_R h9 v3 i (by omega)
      have p8 : ∀ i, i < 9 → 9 * 2 ^ i ≤ 2500 := by decide
      have p := p8 i (by omega)
      obtain ⟨q, q1, q2, q3⟩ := shortW hi h9 g0 s1 (fun a b ha hb => (r.2.2 a b ha hb).imp id (fun e => by omega)) (r.1 i (by omega))
      refine Or.inl ⟨(q, nI (i + 1)), ?_, rfl, q2, s2.tr q3⟩
      unfold fX2_measure_69
      dsimp only
      rw [if_neg (show ¬ s g 0 ≤ nI i by rw [g0]; exact nI_ge hi (by omega)), q1, bnd_s, nI_1]
    · rintro ⟨s, u⟩ ⟨rfl, s1, s2⟩
      dsimp only at s1 s2
      have g0 : s g 0 = nI (nR M) := by rw [s2 g (by simp only [List.mem_cons, List.not_mem_nil, or_false]; omega)]; exact zg0
      refine ⟨s, ?_, s1, s2⟩
      unfold fX2_measure_69
      dsimp only
      rw [if_pos (show s g 0 ≤ nI (nR M) by rw [g0]; exact Int32.le_refl _)]
  refine ⟨w, by unfold fX2_measure; rw [x1, bnd_s, y1, bnd_s, z1, bnd_s, w1, bnd_s], fun o ho => ?_, fun a b ha hb => ?_, fun i hi => ?_⟩
  · rw [w3 (g + 17) (by simp only [List.mem_cons, List.not_mem_nil, or_false]; omega), z3 (g + 17) (by simp only [List.mem_cons, List.not_mem_nil, or_false]; omega)]; exact y2 o ho
  · have e : ways M (9 * a + b) = nI (VA (VD M (nDo M)) (nR M) a b) := by
      unfold ways
      rw [wAll_k h9 v3 v1 9 (Nat.le_refl _) (9 * a + b) (by omega), show (9 * a + b) / 9 = a by omega, show (9 * a + b) % 9 = b by omega]
      have := VA_out h9 v3 ha hb (9 - nR M) (by omega)
      rw [show nR M + (9 - nR M) = 9 by omega] at this
      rw [this]
    rw [w2 a b ha hb, e]
    have r := VA_R h9 v3 (nR M) h9
    have p := p18 (nR M) h9
    rcases r.2.2 a b ha hb with c | c
    · rw [c]; exact Or.inl ⟨rfl, rfl⟩
    · rw [clsV_n (by omega)]; exact Or.inr ⟨_, by omega, rfl, rfl⟩
  · have hi' : i ≠ g + 16 ∧ i ≠ g + 17 := by simp only [List.mem_cons, List.not_mem_nil, or_false, not_or] at hi; exact hi
    rw [w3 i (by simp only [List.mem_cons, List.not_mem_nil, or_false]; exact hi'.1), z3 i (by simp only [List.mem_cons, List.not_mem_nil, or_false]; exact hi'.1), y3 i (by simp only [List.mem_cons, List.not_mem_nil, or_false]; exact hi'.2)]
