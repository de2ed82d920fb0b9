/-! ===== image, restore ===== -/
theorem imgM {M : ST} {A : AS} {hm : ST} (h9 : nR M ≤ 9) (h10 : nC M ≤ 10) (hR1 : RM1 M A hm) : ∃ z, fX11_image hm = some z ∧ (∀ i, i ∉ [0, 37, 38, 39, 40, 41, 42] → z i = hm i) ∧ (∀ j, j ∉ [2, 54, 55, 56] → z 0 j = hm 0 j) ∧ z 0 54 = 1 ∧ z 0 55 = hm 0 36 ∧ z 0 56 = hm 0 37 ∧ PA (z 37) 0 M A ∧ (∀ j, j < 1240 → z 38 j = hm 22 j) ∧ (∀ j, j < 8 → z 39 j = hm 33 j) ∧ (∀ j, j < 8 → z 40 j = hm 34 j) ∧ (∀ j, j < 8 → z 41 j = hm 35 j) ∧ ∀ j, j < 3 → z 42 j = hm 17 j := by
  obtain ⟨a, ea⟩ : ∃ a, a = up2 (up2 (up2 (up2 hm 0 2 0) 0 54 1) 0 55 (hm 0 36)) 0 56 (hm 0 37) := ⟨_, rfl⟩
  have a0 : ∀ j, j ≠ 2 → j ≠ 54 → j ≠ 55 → j ≠ 56 → a 0 j = hm 0 j := fun j p q r s => by rw [ea, up2_sn s, up2_sn r, up2_sn q, up2_sn p]
  have a54 : a 0 54 = 1 := by rw [ea, up2_sn (by decide), up2_sn (by decide), up2_ss]
  have a55 : a 0 55 = hm 0 36 := by rw [ea, up2_sn (by decide), up2_ss]
  have a56 : a 0 56 = hm 0 37 := by rw [ea, up2_ss]
  have ak : ∀ i, i ≠ 0 → a i = hm i := fun i hi => by rw [ea, up2_n hi, up2_n hi, up2_n hi, up2_n hi]
  have aR : RM1 M A a := by
    unfold RM1
    rw [a0 33 (by decide) (by decide) (by decide) (by decide), a0 34 (by decide) (by decide) (by decide) (by decide), a0 35 (by decide) (by decide) (by decide) (by decide), ak 19 (by decide), ak 20 (by decide), ak 21 (by decide)]
    exact hR1
  obtain ⟨b, b1, b2, -, b4⟩ := packM h9 h10 aR (o := 37) (n := 31) (b := 0) (by decide) (by decide) (by decide)
  obtain ⟨c, c1, c2, c3⟩ := beM (h := b) (o1 := 38) (o2 := 22) (n := 1240) (by decide) (by decide)
  obtain ⟨d, d1, d2, d3⟩ := beM (h := c) (o1 := 39) (o2 := 33) (n := 8) (by decide) (by decide)
  obtain ⟨e, e1, e2, e3⟩ := beM (h := d) (o1 := 40) (o2 := 34) (n := 8) (by decide) (by decide)
  obtain ⟨g, g1, g2, g3⟩ := beM (h := e) (o1 := 41) (o2 := 35) (n := 8) (by decide) (by decide)
  obtain ⟨z, z1, z2, z3⟩ := beM (h := g) (o1 := 42) (o2 := 17) (n := 3) (by decide) (by decide)
  have zk : ∀ i, i ∉ [37, 38, 39, 40, 41, 42] → z i = a i := fun i hi => by
    simp only [List.mem_cons, List.not_mem_nil, or_false] at hi
    rw [z3 i (by simp only [List.mem_cons, List.not_mem_nil, or_false]; omega), g3 i (by simp only [List.mem_cons, List.not_mem_nil, or_false]; omega), e3 i (by simp only [List.mem_cons, List.not_mem_nil, or_false]; omega), d3 i (by simp only [List.mem_cons, List.not_mem_nil, or_false]; omega), c3 i (by simp only [List.mem_cons, List.not_mem_nil, or_false]; omega), b4 i (by simp only [List.mem_cons, List.not_mem_nil, or_false]; omega)]
  have z0 : z 0 = a 0 := zk 0 (by decide)
  have t1 : up2 (up2 hm 0 2 0) 0 54 1 0 36 = hm 0 36 := by rw [up2_sn (by decide), up2_sn (by decide)]
  have t2 : up2 (up2 (up2 hm 0 2 0) 0 54 1) 0 55 (hm 0 36) 0 37 = hm 0 37 := by rw [up2_sn (by decide), up2_sn (by decide), up2_sn (by decide)]
  refine ⟨z, ?_, fun i hi => ?_, fun j hj => ?_, by rw [z0]; exact a54, by rw [z0]; exact a55, by rw [z0]; exact a56, ?_, fun j hj => ?_, fun j hj => ?_, fun j hj => ?_, fun j hj => ?_, fun j hj => ?_⟩
  · unfold fX11_image
    rw [pw_s, bnd_s, pw_s, bnd_s, t1, pw_s, bnd_s, t2, pw_s, bnd_s, ← ea]
    rw [show fX11_pack a 37 31 0 = some b from b1, bnd_s, c1, bnd_s, d1, bnd_s, e1, bnd_s, g1, bnd_s, z1, bnd_s]
  · simp only [List.mem_cons, List.not_mem_nil, or_false] at hi
    rw [zk i (by simp only [List.mem_cons, List.not_mem_nil, or_false]; omega), ak i (by omega)]
  · simp only [List.mem_cons, List.not_mem_nil, or_false] at hj
    rw [z0, a0 j (by omega) (by omega) (by omega) (by omega)]
  · rw [z3 37 (by decide), g3 37 (by decide), e3 37 (by decide), d3 37 (by decide), c3 37 (by decide)]; exact b2
  · rw [z3 38 (by decide), g3 38 (by decide), e3 38 (by decide), d3 38 (by decide), c2 j hj, b4 22 (by decide), ak 22 (by decide)]
  · rw [z3 39 (by decide), g3 39 (by decide), e3 39 (by decide), d2 j hj, c3 33 (by decide), b4 33 (by decide), ak 33 (by decide)]
  · rw [z3 40 (by decide), g3 40 (by decide), e2 j hj, d3 34 (by decide), c3 34 (by decide), b4 34 (by decide), ak 34 (by decide)]
  · rw [z3 41 (by decide), g2 j hj, e3 35 (by decide), d3 35 (by decide), c3 35 (by decide), b4 35 (by decide), ak 35 (by decide)]
  · rw [z2 j hj, g3 17 (by decide), e3 17 (by decide), d3 17 (by decide), c3 17 (by decide), b4 17 (by decide), ak 17 (by decide)]
theorem t_image {hc hm : ST} (hI : Inv hc hm) : ∃ y, s_image hc hm = some y ∧ Inv y.1 y.2 := by
  obtain ⟨f, M, A, h, h2⟩ := hI
  obtain ⟨hf, h0, hB, hF, hCF, hR, hR1, hA⟩ := id h
  have h9 := hB.1.2.1
  have h10 := hB.1.2.2.2.2.2.2.2
  obtain ⟨k1, k2, k3, k4, k5, k6, k7, k8, k9⟩ := id h2
  unfold s_image
  apply n_ok0
  obtain ⟨y, y1, y2, y3, y4, y5, y6⟩ := copyP (o := 214) (o1 := 42) (by omega) hc
  obtain ⟨z, z1, zm, zs, z54, z55, z56, zp, za, zb1, zb2, zb3, zr⟩ := imgM h9 h10 hR1
  have w : ∀ i, i < 215 → i ≠ 0 → up2 y 0 8 1 i = hc i := fun i h1 h3 => (up2_n h3).trans (y6 i (by omega))
  have w3 : ∀ i, i ≠ 0 → up2 y 0 8 1 i = y i := fun i h3 => up2_n h3
  have y0 : y 0 = hc 0 := y6 0 (by omega)
  have c8 : ∀ j, j ≠ 8 → up2 y 0 8 1 0 j = hc 0 j := fun j hj => by rw [up2_sn hj, y0]
  refine ⟨up2 y 0 8 1, z, ?_, z1, f, M, A, ⟨hf, (c8 3 (by decide)).trans h0, hB, fun i hi => ?_, hCF.kept (fun i hi => w i ?_ ?_), hR.kept (w _ (by decide) (by decide)) (w _ (by decide) (by decide)) (w _ (by decide) (by decide)) (w _ (by decide) (by decide)), ?_, hA⟩, ?_⟩
  · unfold fX10_image
    rw [y1, bnd_s, pw_s, bnd_s]
  · rw [zm i (by simp only [FMl, List.mem_cons, List.not_mem_nil, or_false] at hi ⊢; omega)]; exact hF i hi
  · simp only [CFcells, List.mem_cons, List.not_mem_nil, or_false] at hi; omega
  · simp only [CFcells, List.mem_cons, List.not_mem_nil, or_false] at hi; omega
  · unfold RM1
    rw [zs 33 (by decide), zs 34 (by decide), zs 35 (by decide), zm 19 (by decide), zm 20 (by decide), zm 21 (by decide)]
    exact hR1
  · refine ⟨(c8 4 (by decide)).trans k1, ?_, ?_, fun p q hp hq => ?_, fun k hk => ?_, ?_, ?_, (up2_ss _ _ _ _).trans z54.symm, Or.inr ⟨z54, A, hA, ?_, zp, ?_, ?_, fun k hk => ?_⟩⟩
    · obtain ⟨t, t1, t2, t3, t4⟩ := k2
      exact ⟨t, t1, (c8 1 (by decide)).trans t2, (zs 19 (by decide)).trans t3, fun i hi => by rw [w 1 (by decide) (by decide), zm 18 (by decide)]; exact t4 i hi⟩
    · exact (c8 2 (by decide)).trans (k3.trans (zs 28 (by decide)).symm)
    · rw [w _ (by omega) (by omega)]; exact k4 p q hp hq
    · rw [w 213 (by decide) (by decide), zm 17 (by decide)]; exact k5 k hk
    · rw [zs 37 (by decide), zm 33 (by decide), zm 34 (by decide), zm 35 (by decide)]
      exact k6.kept2 (fun i _ _ => w i (by omega) (by omega))
    · rw [zs 36 (by decide), zm 22 (by decide)]
      exact k7.kept2 (fun i _ _ => w i (by omega) (by omega))
    · exact (y2 M A h9 h10 hR).kept (w3 _ (by decide)) (w3 _ (by decide)) (w3 _ (by decide)) (w3 _ (by decide))
    · rw [z55]
      exact ((y3 M _ _ h9 h10 k7).kept2 (fun i _ _ => w3 i (by omega))).past h9 h10 za
    · rw [z56]
      exact ((y4 M _ _ _ _ k6).kept2 (fun i _ _ => w3 i (by omega))).rows zb1 zb2 zb3
    · rw [w3 385 (by decide)]
      exact (y5 k hk).trans ((k5 k hk).trans (zr k hk).symm)
