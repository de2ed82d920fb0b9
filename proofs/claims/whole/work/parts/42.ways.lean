/-! ===== the ways: far, near ===== -/
def E81 (r : Nat → Int32) (w : Nat → Int32) : Prop := ∀ k, k < 81 → r k = w k
theorem E81.up {r w : Nat → Int32} (h : E81 r w) (k : Nat) (v : Int32) : E81 (upd r k v) (upd w k v) := fun j hj => by
  by_cases c : j = k
  · rw [c, upd_s, upd_s]
  · rw [upd_n c, upd_n c]; exact h j hj
theorem mn2_r (a b : Int32) : (if b < a then b else a) = mn2 a b := by
  unfold mn2
  by_cases c1 : a < b
  · rw [if_pos c1, if_neg (Int32.not_lt.mpr (Int32.le_of_lt c1))]
  · rw [if_neg c1]
    by_cases c2 : b < a
    · rw [if_pos c2]
    · rw [if_neg c2]
      apply Int32.toInt_inj.mp
      rw [Int32.lt_iff_toInt_lt] at c1 c2
      omega
theorem waysM {M h : ST} (hB : FB M) (hF : FM M h) : ∃ y, fX11_tellWays h = some y ∧ E81 (y 26) (ways M) ∧ Fr [26] h y := by
  have h9 := hB.1.2.1
  have b1 := hB.1.2.2.1
  have h14 := hB.1.2.2.2.1
  obtain ⟨x, x1, x2, x3⟩ : ∃ x, lp FU fX11_tellWays_2 (h, 0) = some x ∧ E81 (x 26) wInit ∧ Fr [26] h x := by
    refine lp_cnt (b := fX11_tellWays_2) (fun i s => s.2 = nI i ∧ (∀ k, k < i → s.1 26 k = wInit k) ∧ Fr [26] h s.1) 81 (by decide) ?_ ?_ ⟨rfl, fun j hj => absurd hj (Nat.not_lt_zero j), Fr.rf⟩
    · rintro i ⟨s, u⟩ hi ⟨rfl, s1, s2⟩
      dsimp only at s1 s2
      have q : ¬ 81 ≤ nI i := nI_ge (b := 81) hi (by decide)
      have e1 : nI i / 9 = nI (i / 9) := pk_div (d := 9) (by omega) (by decide) (by decide)
      have e2 : nI i - nI (i / 9) * 9 = nI (i % 9) := by rw [← e1]; exact rem_k (d := 9) (by omega) (by decide) (by decide)
      have e3 : nI (i / 9) = nI (i % 9) ↔ i / 9 = i % 9 := nI_eq (by omega) (by omega)
      refine Or.inl ⟨(up2 s 26 i (wInit i), nI (i + 1)), ?_, rfl, fun j hj => ?_, s2.up (by decide)⟩
      · by_cases c : i / 9 = i % 9
        · simp only [fX11_tellWays_2, fX11_tellWays_31, if_neg q, e1, e2, if_pos (e3.mpr c), wr_k (n := 81) hi, bnd_s, nI_1, wInit, if_pos c]
        · simp only [fX11_tellWays_2, fX11_tellWays_31, if_neg q, e1, e2, if_neg (fun t => c (e3.mp t)), wr_k (n := 81) hi, bnd_s, nI_1, wInit, if_neg c]
      · dsimp only
        rw [up2_s]
        by_cases c : j = i
        · rw [c, upd_s]
        · rw [upd_n c]; exact s1 j (by omega)
    · rintro ⟨s, u⟩ ⟨rfl, s1⟩
      exact ⟨s, by simp only [fX11_tellWays_2]; rw [if_pos (show (81 : Int32) ≤ nI 81 by decide)], s1⟩
  have xF : ∀ i, i ≠ 26 → x i = h i := fun i hi => x3 i (by simp only [List.mem_cons, List.not_mem_nil, or_false]; omega)
  obtain ⟨y, y1, y2, y3⟩ : ∃ y, lp FU fX11_tellWays_40 (x, 0) = some y ∧ E81 (y 26) (wDoors M (nDo M)) ∧ Fr [26] h y := by
    refine lp_cnt (b := fX11_tellWays_40) (fun i s => s.2 = nI i ∧ E81 (s.1 26) (wDoors M i) ∧ Fr [26] h s.1) (nDo M) (by omega) ?_ ?_ ⟨rfl, x2, x3⟩
    · rintro i ⟨s, u⟩ hi ⟨rfl, s1, s2⟩
      dsimp only at s1 s2
      have q : ¬ nI (nDo M) ≤ nI i := nI_ge hi (by omega)
      have g3 : s 3 = M 3 := (s2 3 (by decide)).trans (hF 3 (by decide))
      have g8 : s 8 = M 8 := (s2 8 (by decide)).trans (hF 8 (by decide))
      have g9 : s 9 = M 9 := (s2 9 (by decide)).trans (hF 9 (by decide))
      have g10 : s 10 = M 10 := (s2 10 (by decide)).trans (hF 10 (by decide))
      obtain ⟨a, b, t, ha, hb, -, -, -, ea, eb, et⟩ := hB.2.2.2.1 i hi
      have i1 : (9 : Int32) * nI a + nI b = nI (9 * a + b) := by rw [show (9 : Int32) * nI a = nI (9 * a) from nI_mul 9 a, nI_add]
      have i2 : (9 : Int32) * nI b + nI a = nI (9 * b + a) := by rw [show (9 : Int32) * nI b = nI (9 * b) from nI_mul 9 b, nI_add]
      have v8 : ∀ w, up2 s 26 (9 * a + b) w 8 = M 8 := fun w => by rw [up2_n (by decide)]; exact g8
      have v9 : ∀ w, up2 s 26 (9 * a + b) w 9 = M 9 := fun w => by rw [up2_n (by decide)]; exact g9
      have v10 : ∀ w, up2 s 26 (9 * a + b) w 10 = M 10 := fun w => by rw [up2_n (by decide)]; exact g10
      refine Or.inl ⟨(up2 (up2 s 26 (9 * a + b) (nI t)) 26 (9 * b + a) (nI t), nI (i + 1)), ?_, rfl, ?_, (s2.up (by decide)).up (by decide)⟩
      · simp only [fX11_tellWays_40, bnd_s, pw_s, rd_0, rd_1, rd_2, rd_3, rd_4, rd_5, rd_6, wr_0, wr_1, wr_2, wr_3, wr_4, wr_5, zb_0, zb_1, Nat.reduceLT, Nat.reducePow, g3, b1, if_neg q, rd_k (n := 28) (show i < 28 by omega), g8, g9, g10, ea, eb, et, i1, wr_k (n := 81) (show 9 * a + b < 81 by omega), v8, v9, v10, i2, wr_k (n := 81) (show 9 * b + a < 81 by omega), nI_1]
      · dsimp only
        rw [up2_s, up2_s]
        show E81 _ (upd (upd (wDoors M i) (9 * (M 8 i).toNatClampNeg + (M 9 i).toNatClampNeg) (M 10 i)) (9 * (M 9 i).toNatClampNeg + (M 8 i).toNatClampNeg) (M 10 i))
        rw [ea, eb, et, nI_clamp (by omega), nI_clamp (by omega)]
        exact (s1.up _ _).up _ _
    · rintro ⟨s, u⟩ ⟨rfl, s1, s2⟩
      have g3 : s 3 = M 3 := (s2 3 (by decide)).trans (hF 3 (by decide))
      exact ⟨s, by simp only [fX11_tellWays_40, bnd_s, pw_s, rd_0, rd_1, rd_2, rd_3, rd_4, rd_5, rd_6, wr_0, wr_1, wr_2, wr_3, wr_4, wr_5, zb_0, zb_1, Nat.reduceLT, Nat.reducePow, g3, b1, Int32.le_refl, if_true], s1, s2⟩
  obtain ⟨z, z1, z2, z3⟩ : ∃ z, lp FU fX11_tellWays_112 (y, 0) = some z ∧ E81 (z 26) (wAll 9 (wDoors M (nDo M))) ∧ Fr [26] h z := by
    refine lp_cnt (b := fX11_tellWays_112) (fun i s => s.2 = nI i ∧ E81 (s.1 26) (wAll i (wDoors M (nDo M))) ∧ Fr [26] h s.1) 9 (by decide) ?_ ?_ ⟨rfl, y2, y3⟩
    · rintro i ⟨s, u⟩ hi ⟨rfl, s1, s2⟩
      dsimp only at s1 s2
      have q : ¬ 9 ≤ nI i := nI_ge (b := 9) hi (by decide)
      obtain ⟨v, v1, v2, v3⟩ : ∃ v, lp FU (fX11_tellWays_120 (nI i)) (s, 0) = some v ∧ E81 (v 26) (wRow i 81 (wAll i (wDoors M (nDo M)))) ∧ Fr [26] h v := by
        refine lp_cnt (b := fX11_tellWays_120 (nI i)) (fun k s => s.2 = nI k ∧ E81 (s.1 26) (wRow i k (wAll i (wDoors M (nDo M)))) ∧ Fr [26] h s.1) 81 (by decide) ?_ ?_ ⟨rfl, s1, s2⟩
        · rintro k ⟨p, u⟩ hk ⟨rfl, p1, p2⟩
          dsimp only at p1 p2
          have q : ¬ 81 ≤ nI k := nI_ge (b := 81) hk (by decide)
          have e2 : nI k - nI k / 9 * 9 = nI (k % 9) := rem_k (d := 9) (by omega) (by decide) (by decide)
          have e3 : nI k - nI (k % 9) = nI (k - k % 9) := nI_sub (by omega)
          have e4 : (9 : Int32) * nI i = nI (9 * i) := nI_mul 9 i
          refine Or.inl ⟨(up2 p 26 k (mn2 (p 26 k) (p 26 (k - k % 9 + i) + p 26 (9 * i + k % 9))), nI (k + 1)), ?_, rfl, ?_, p2.up (by decide)⟩
          · simp only [fX11_tellWays_120, if_neg q, bnd_s, pw_s, rd_0, rd_1, rd_2, rd_3, rd_4, rd_5, rd_6, wr_0, wr_1, wr_2, wr_3, wr_4, wr_5, zb_0, zb_1, Nat.reduceLT, Nat.reducePow, rd_k (n := 81) hk, e2, e3, e4, nI_add, rd_k (n := 81) (show k - k % 9 + i < 81 by omega), rd_k (n := 81) (show 9 * i + k % 9 < 81 by omega), wr_k (n := 81) hk, mn2_r, nI_1]
          · dsimp only
            rw [up2_s, p1 k hk, p1 (k - k % 9 + i) (by omega), p1 (9 * i + k % 9) (by omega)]
            exact p1.up _ _
        · rintro ⟨p, u⟩ ⟨rfl, p1⟩
          exact ⟨p, by simp only [fX11_tellWays_120]; rw [if_pos (show (81 : Int32) ≤ nI 81 by decide)], p1⟩
      refine Or.inl ⟨(v, nI (i + 1)), ?_, rfl, v2, v3⟩
      simp only [fX11_tellWays_112, if_neg q, v1, bnd_s, nI_1]
    · rintro ⟨s, u⟩ ⟨rfl, s1⟩
      exact ⟨s, by simp only [fX11_tellWays_112]; rw [if_pos (show (9 : Int32) ≤ nI 9 by decide)], s1⟩
  exact ⟨z, by simp only [fX11_tellWays, x1, y1, z1, bnd_s], z2, z3⟩
theorem waysB {M : ST} {A : AS} {hm : ST} (hB : FB M) (hF : FM M hm) (hR1 : RM1 M A hm) : ∃ y, fX11_tellWays (up2 hm 0 2 0) = some y ∧ E81 (y 26) (ways M) ∧ FM M y ∧ MR M A 0 hm y := by
  have m1 := codeM (M := M) hR1
  have hF1 := fm_up hF 2 0
  obtain ⟨y, y1, y2, y3⟩ := waysM hB hF1
  have e : ∀ i, i ≠ 26 → y i = up2 hm 0 2 0 i := fun i hi => y3 i (by simp only [List.mem_cons, List.not_mem_nil, or_false]; omega)
  refine ⟨y, y1, y2, fun i hi => ?_, m1.1.tr (y3.sub (by decide)), m1.2.1.tr (Fs.of y3 (by decide)), ?_, ?_⟩
  · rw [e i (by simp only [FMl, List.mem_cons, List.not_mem_nil, or_false] at hi; omega)]; exact hF1 i hi
  · unfold RM1
    rw [e 0 (by decide), e 19 (by decide), e 20 (by decide), e 21 (by decide)]
    exact m1.2.2.1
  · rw [e 0 (by decide)]; exact m1.2.2.2
theorem wrel_n {x y : Int32} (h : wrel x y) : (x = -1 ∧ ¬ y < 1000000 ∧ 1000000 ≤ y) ∨ (¬ x = -1 ∧ y < 1000000 ∧ ¬ 1000000 ≤ y ∧ x = y) := by
  rcases h with ⟨rfl, rfl⟩ | ⟨v, hv, rfl, rfl⟩
  · exact Or.inl ⟨rfl, by decide, by decide⟩
  · have l : nI v < 1000000 := nI_lt (b := 1000000) (by omega) (by decide)
    exact Or.inr ⟨nI_m1ne (by omega), l, nI_ge (b := 1000000) (by omega) (by decide), rfl⟩
theorem t_far {hc hm : ST} (hI : Inv hc hm) (a1 a2 : Int32) : ∃ y, s_far hc hm a1 a2 = some y ∧ Inv y.1 y.2 := by
  obtain ⟨f, M, A, h, h2⟩ := hI
  obtain ⟨hf, h0, hB, hF, hCF, hR, hR1, hA⟩ := id h
  have m1 := codeM (M := M) hR1
  have h9 := hB.1.2.1
  have hF1 := fm_up hF 2 0
  have n1 : ¬ (1 : Int32) = 0 := by decide
  unfold s_far fL_far
  apply s_okr
  rcases room_c h a1 with ⟨a, ha, rfl, e1, e2⟩ | ⟨e1, e2⟩
  rotate_left
  · obtain ⟨q1, q2⟩ := failM hR1 1
    refine Or.inr ⟨1, 1, 0, _, ?_, rfl, by decide, ?_, q2.2.2.2, Inv.ro h h2 (fun _ _ _ _ => rfl) q2⟩
    · simp only [fX10_far, bnd_s, pw_s, rd_0, rd_1, rd_2, rd_3, rd_4, rd_5, rd_6, wr_0, wr_1, wr_2, wr_3, wr_4, wr_5, zb_0, zb_1, Nat.reduceLT, Nat.reducePow, e1, sm]
    · simp only [fX11_far, fX11_far_21, bnd_s, pw_s, rd_0, rd_1, rd_2, rd_3, rd_4, rd_5, rd_6, wr_0, wr_1, wr_2, wr_3, wr_4, wr_5, zb_0, zb_1, Nat.reduceLT, Nat.reducePow, e2 _ hF1, q1, if_true]
  have E2 := e2 _ hF1
  rcases room_c h a2 with ⟨b, hb, rfl, e3, e4⟩ | ⟨e3, e4⟩
  rotate_left
  · obtain ⟨q1, q2⟩ := failM hR1 1
    refine Or.inr ⟨1, 1, 0, _, ?_, rfl, by decide, ?_, q2.2.2.2, Inv.ro h h2 (fun _ _ _ _ => rfl) q2⟩
    · simp only [fX10_far, bnd_s, pw_s, rd_0, rd_1, rd_2, rd_3, rd_4, rd_5, rd_6, wr_0, wr_1, wr_2, wr_3, wr_4, wr_5, zb_0, zb_1, Nat.reduceLT, Nat.reducePow, e1, e3, sm]
    · simp only [fX11_far, fX11_far_21, bnd_s, pw_s, rd_0, rd_1, rd_2, rd_3, rd_4, rd_5, rd_6, wr_0, wr_1, wr_2, wr_3, wr_4, wr_5, zb_0, zb_1, Nat.reduceLT, Nat.reducePow, E2, if_neg n1, e4 _ hF1, q1, if_true]
  have E4 := e4 _ hF1
  obtain ⟨y, y1, y2, y3, y4⟩ := waysB hB hF hR1
  have i1 : (9 : Int32) * nI a + nI b = nI (9 * a + b) := by rw [show (9 : Int32) * nI a = nI (9 * a) from nI_mul 9 a, nI_add]
  have i2 : nI a * 9 + nI b = nI (9 * a + b) := by rw [show nI a * 9 = nI (a * 9) from nI_mul a 9, nI_add, Nat.mul_comm]
  refine Or.inl ⟨hc (f + 16) (9 * a + b), y, ?_, ?_, y4.2.2.2, Inv.ro h h2 (fun _ _ _ _ => rfl) y4⟩
  · simp only [fX10_far, bnd_s, pw_s, rd_0, rd_1, rd_2, rd_3, rd_4, rd_5, rd_6, wr_0, wr_1, wr_2, wr_3, wr_4, wr_5, zb_0, zb_1, Nat.reduceLT, Nat.reducePow, e1, e3, sm, rf_f hf h0, fX2_wayFrom, i2, rd_k (n := 81) (show 9 * a + b < 81 by omega)]
  · have w := wrel_n (h2.2.2.2.1 a b ha hb)
    simp only [fX11_far, bnd_s, pw_s, rd_0, rd_1, rd_2, rd_3, rd_4, rd_5, rd_6, wr_0, wr_1, wr_2, wr_3, wr_4, wr_5, zb_0, zb_1, Nat.reduceLT, Nat.reducePow, E2, E4, if_neg n1, y1, i1, rd_k (n := 81) (show 9 * a + b < 81 by omega), y2 _ (show 9 * a + b < 81 by omega)]
    rcases w with ⟨w1, w2, w3⟩ | ⟨w1, w2, w3, w4⟩
    · simp only [fX11_orNone, fX11_orNone_12, if_neg w2, bnd_s, w1]
    · simp only [fX11_orNone, fX11_orNone_12, if_pos w2, bnd_s, w4]
theorem t_near {hc hm : ST} (hI : Inv hc hm) (a1 a2 : Int32) : ∃ y, s_near hc hm a1 a2 = some y ∧ Inv y.1 y.2 := by
  obtain ⟨f, M, A, h, h2⟩ := hI
  obtain ⟨hf, h0, hB, hF, hCF, hR, hR1, hA⟩ := id h
  have m1 := codeM (M := M) hR1
  have b0 := hB.1.1
  have h9 := hB.1.2.1
  have hF1 := fm_up hF 2 0
  have f0 : hc f 0 = nI (nR M) := hCF.1.1.trans b0
  have n1 : ¬ (1 : Int32) = 0 := by decide
  unfold s_near fL_near
  apply s_okr
  rcases room_c h a1 with ⟨a, ha, rfl, e1, e2⟩ | ⟨e1, e2⟩
  rotate_left
  · obtain ⟨q1, q2⟩ := failM hR1 1
    refine Or.inr ⟨1, 1, 0, _, ?_, rfl, by decide, ?_, q2.2.2.2, Inv.ro h h2 (fun _ _ _ _ => rfl) q2⟩
    · simp only [fX10_near, bnd_s, pw_s, rd_0, rd_1, rd_2, rd_3, rd_4, rd_5, rd_6, wr_0, wr_1, wr_2, wr_3, wr_4, wr_5, zb_0, zb_1, Nat.reduceLT, Nat.reducePow, e1, sm]
    · simp only [fX11_near, bnd_s, pw_s, rd_0, rd_1, rd_2, rd_3, rd_4, rd_5, rd_6, wr_0, wr_1, wr_2, wr_3, wr_4, wr_5, zb_0, zb_1, Nat.reduceLT, Nat.reducePow, e2 _ hF1, q1, if_true]
  have E2 := e2 _ hF1
  obtain ⟨y, y1, y2, y3, y4⟩ := waysB hB hF hR1
  have y3' : y 3 = M 3 := y3 3 (by decide)
  have rff := rf_f hf h0
  obtain ⟨u, v, u1, v1, uv⟩ := lp2_cnt (b1 := fX10_near_10 hc (nI a) a2) (b2 := fX11_near_28 y (nI a) a2) (s := ((0 : Int32), (0 : Int32))) (t := ((0 : Int32), (0 : Int32))) (Q := fun u v => u = v) (fun i s t => s = t ∧ s.2 = nI i) (nR M) (by omega) (by
    rintro i ⟨s, u⟩ t hi ⟨rfl, rfl⟩
    have q := nI_ge hi (show nR M < 2 ^ 31 by omega)
    have i1 : (9 : Int32) * nI a + nI i = nI (9 * a + i) := by rw [show (9 : Int32) * nI a = nI (9 * a) from nI_mul 9 a, nI_add]
    have i2 : nI a * 9 + nI i = nI (9 * a + i) := by rw [show nI a * 9 = nI (a * 9) from nI_mul a 9, nI_add, Nat.mul_comm]
    have w := wrel_n (h2.2.2.2.1 a i ha hi)
    have rc := rd_k (n := 81) (f := hc (f + 16)) (show 9 * a + i < 81 by omega)
    have rm := rd_k (n := 81) (f := y 26) (show 9 * a + i < 81 by omega)
    rw [y2 _ (show 9 * a + i < 81 by omega)] at rm
    left
    rcases w with ⟨w1, w2, w3⟩ | ⟨w1, w2, w3, w4⟩
    · refine ⟨(s, nI (i + 1)), (s, nI (i + 1)), ?_, ?_, rfl, rfl⟩
      · simp only [fX10_near_10, fX10_near_53, bnd_s, pw_s, rd_0, rd_1, rd_2, rd_3, rd_4, rd_5, rd_6, wr_0, wr_1, wr_2, wr_3, wr_4, wr_5, zb_0, zb_1, Nat.reduceLT, Nat.reducePow, rff, f0, if_neg q, fX2_wayFrom, i2, rc, if_pos w1, nI_1]
      · simp only [fX11_near_28, fX11_near_81, fX11_near_82, bnd_s, pw_s, rd_0, rd_1, rd_2, rd_3, rd_4, rd_5, rd_6, wr_0, wr_1, wr_2, wr_3, wr_4, wr_5, zb_0, zb_1, Nat.reduceLT, Nat.reducePow, y3', b0, if_neg q, i1, rm, if_pos w3, nI_1, Int32.or_zero]
    · by_cases c : a2 < hc (f + 16) (9 * a + i)
      · refine ⟨(s, nI (i + 1)), (s, nI (i + 1)), ?_, ?_, rfl, rfl⟩
        · simp only [fX10_near_10, fX10_near_53, bnd_s, pw_s, rd_0, rd_1, rd_2, rd_3, rd_4, rd_5, rd_6, wr_0, wr_1, wr_2, wr_3, wr_4, wr_5, zb_0, zb_1, Nat.reduceLT, Nat.reducePow, rff, f0, if_neg q, fX2_wayFrom, i2, rc, if_neg w1, if_pos c, nI_1]
        · simp only [fX11_near_28, fX11_near_81, fX11_near_82, bnd_s, pw_s, rd_0, rd_1, rd_2, rd_3, rd_4, rd_5, rd_6, wr_0, wr_1, wr_2, wr_3, wr_4, wr_5, zb_0, zb_1, Nat.reduceLT, Nat.reducePow, y3', b0, if_neg q, i1, rm, if_neg w3, if_pos (w4 ▸ c), nI_1, Int32.or_zero]
      · refine ⟨(s ||| ((1 : Int32) <<< (nI i &&& 31)), nI (i + 1)), (s ||| ((1 : Int32) <<< (nI i &&& 31)), nI (i + 1)), ?_, ?_, rfl, rfl⟩
        · simp only [fX10_near_10, fX10_near_53, bnd_s, pw_s, rd_0, rd_1, rd_2, rd_3, rd_4, rd_5, rd_6, wr_0, wr_1, wr_2, wr_3, wr_4, wr_5, zb_0, zb_1, Nat.reduceLT, Nat.reducePow, rff, f0, if_neg q, fX2_wayFrom, i2, rc, if_neg w1, if_neg c, nI_1]
        · simp only [fX11_near_28, fX11_near_81, fX11_near_82, bnd_s, pw_s, rd_0, rd_1, rd_2, rd_3, rd_4, rd_5, rd_6, wr_0, wr_1, wr_2, wr_3, wr_4, wr_5, zb_0, zb_1, Nat.reduceLT, Nat.reducePow, y3', b0, if_neg q, i1, rm, if_neg w3, if_neg (w4 ▸ c), nI_1]) (by
    rintro ⟨s, u⟩ t ⟨rfl, rfl⟩
    exact ⟨s, s, by simp only [fX10_near_10, bnd_s, pw_s, rd_0, rd_1, rd_2, rd_3, rd_4, rd_5, rd_6, wr_0, wr_1, wr_2, wr_3, wr_4, wr_5, zb_0, zb_1, Nat.reduceLT, Nat.reducePow, rff, f0, Int32.le_refl, if_true], by simp only [fX11_near_28, bnd_s, pw_s, rd_0, rd_1, rd_2, rd_3, rd_4, rd_5, rd_6, wr_0, wr_1, wr_2, wr_3, wr_4, wr_5, zb_0, zb_1, Nat.reduceLT, Nat.reducePow, y3', b0, Int32.le_refl, if_true], rfl⟩) ⟨rfl, rfl⟩
  subst uv
  refine Or.inl ⟨u, y, ?_, ?_, y4.2.2.2, Inv.ro h h2 (fun _ _ _ _ => rfl) y4⟩
  · simp only [fX10_near, bnd_s, pw_s, rd_0, rd_1, rd_2, rd_3, rd_4, rd_5, rd_6, wr_0, wr_1, wr_2, wr_3, wr_4, wr_5, zb_0, zb_1, Nat.reduceLT, Nat.reducePow, e1, sm, u1]
  · simp only [fX11_near, bnd_s, pw_s, rd_0, rd_1, rd_2, rd_3, rd_4, rd_5, rd_6, wr_0, wr_1, wr_2, wr_3, wr_4, wr_5, zb_0, zb_1, Nat.reduceLT, Nat.reducePow, E2, if_neg n1, y1, v1]
