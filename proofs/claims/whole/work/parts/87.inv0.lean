/-! ===== how both begin ===== -/
theorem v0_c : (hc0 0 1 = 0 ∧ hc0 0 2 = -1 ∧ hc0 0 3 = 2 ∧ hc0 0 4 = 20 ∧ hc0 0 8 = 0) ∧ (hc0 2 0 = 0 ∧ hc0 2 5 = 0 ∧ hc0 2 8 = 0 ∧ hc0 2 13 = 0 ∧ hc0 2 15 = 7 ∧ hc0 2 16 = 10 ∧ hc0 14 1 = 0) ∧ (hc0 43 0 = 0 ∧ hc0 43 1 = 0 ∧ hc0 43 2 = 0 ∧ hc0 47 0 = 0 ∧ hc0 47 1 = 0 ∧ hc0 209 0 = 0) := by decide +kernel
theorem v0_d : (∀ o, o < 6 → hc0 19 o = 0) ∧ ∀ k, k < 3 → hc0 213 k = 0 := by decide +kernel
theorem v0_m : (hm0 0 19 = 0 ∧ hm0 0 28 = -1 ∧ hm0 0 33 = 0 ∧ hm0 0 34 = 0 ∧ hm0 0 35 = 0 ∧ hm0 0 36 = 0 ∧ hm0 0 37 = 0 ∧ hm0 0 54 = 0) ∧ (hm0 3 0 = 0 ∧ hm0 3 1 = 0 ∧ hm0 3 2 = 0 ∧ hm0 3 3 = 0 ∧ hm0 3 4 = 7 ∧ hm0 3 5 = 10 ∧ hm0 3 6 = 0) := by decide +kernel
theorem v0_n : (∀ i, i < 3 → hm0 1 i = nI (1 + i)) ∧ (∀ i, i < 6 → hm0 2 i = nI (12 + i)) ∧ ∀ k, k < 3 → hm0 17 k = 0 := by decide +kernel
theorem inv0 : Inv hc0 hm0 := by
  obtain ⟨⟨c1, c2, c3, c4, c8⟩, ⟨d0, d5, d8, d13, d15, d16, d14⟩, ⟨e0, e1, e2, e3, e4, e5⟩⟩ := v0_c
  obtain ⟨o6, s3⟩ := v0_d
  obtain ⟨⟨m19, m28, m33, m34, m35, m36, m37, m54⟩, ⟨t0, t1, t2, t3, t4, t5, t6⟩⟩ := v0_m
  obtain ⟨w1, w2, s17⟩ := v0_n
  have eR : nR hm0 = 0 := by unfold nR; rw [t0]; rfl
  have eD : nDo hm0 = 0 := by unfold nDo; rw [t1]; rfl
  have eW : nW hm0 = 0 := by unfold nW; rw [t2]; rfl
  have eC : nC hm0 = 0 := by unfold nC; rw [t3]; rfl
  have eZ : nZ hm0 = 0 := by unfold nZ; rw [t6]; rfl
  have no : ∀ {P : Nat → Prop} (i : Nat), i < 0 → P i := fun i hi => absurd hi (Nat.not_lt_zero i)
  refine ⟨2, hm0, (fun _ => 0, fun _ => 0, fun _ => 0, 0, 0, 0), ⟨Or.inl rfl, c3, ?_, fun _ _ => rfl, ?_, ?_, ?_, ?_⟩, ⟨c4, ⟨0, by decide, c1, m19, fun i hi => absurd hi (Nat.not_lt_zero i)⟩, c2.trans m28.symm, ?_, fun k hk => (s3 k hk).trans (s17 k hk).symm, ⟨0, m37, by decide, e5, fun i hi => absurd hi (Nat.not_lt_zero i)⟩, ⟨0, 0, m36, by decide, e3, e4, by decide, fun j hj => absurd hj (Nat.not_lt_zero j)⟩, c8.trans m54.symm, Or.inl m54⟩⟩
  · unfold FB
    rw [eR, eD, eW, eC, eZ]
    exact ⟨⟨t0, by decide, t1, by decide, t2, by decide, t3, by decide⟩, ⟨⟨7, by decide, by decide, t4⟩, ⟨10, by decide, t5⟩, t6, by decide⟩, fun r hr => absurd hr (Nat.not_lt_zero r), fun r hr => absurd hr (Nat.not_lt_zero r), fun r hr => absurd hr (Nat.not_lt_zero r), Or.inl rfl, w1, w2⟩
  · unfold CF
    rw [eR, eD, eW, eZ]
    exact ⟨⟨d0.trans t0.symm, d5.trans t1.symm, d8.trans t2.symm, d13.trans t3.symm, d15.trans t4.symm, d16.trans t5.symm, d14.trans t6.symm⟩, fun r hr => absurd hr (Nat.not_lt_zero r), fun r hr => absurd hr (Nat.not_lt_zero r), fun r hr => absurd hr (Nat.not_lt_zero r), fun r hr => absurd hr (Nat.not_lt_zero r), fun o ho => o6 o ho⟩
  · unfold RC
    rw [eR, eC]
    exact ⟨⟨e0, e1, e2⟩, fun r hr => absurd hr (Nat.not_lt_zero r), fun r hr => absurd hr (Nat.not_lt_zero r)⟩
  · unfold RM1
    rw [eR, eC]
    exact ⟨⟨m33, m34, m35⟩, fun r hr => absurd hr (Nat.not_lt_zero r), fun r hr => absurd hr (Nat.not_lt_zero r)⟩
  · unfold AB
    rw [eR, eC]
    exact ⟨fun r hr => absurd hr (Nat.not_lt_zero r), fun r hr => absurd hr (Nat.not_lt_zero r), 0, 0, by decide, by decide, rfl, rfl⟩
  · unfold WayR
    rw [eR]
    exact fun a b ha => absurd ha (Nat.not_lt_zero a)
