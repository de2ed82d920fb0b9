/-! ===== parish: a reading that failed leaves all as it was ===== -/
def Lq (M M' : ST) : Prop := (M' 1 = M 1 ∧ M' 2 = M 2) ∧ ∀ i k, i ∈ FMl → 3 ≤ i → k < hfz i → M' i k = M i k
section LEs
variable {M M' : ST}
theorem Lq.eR (e : Lq M M') : nR M' = nR M := by unfold nR; rw [e.2 3 0 (by decide) (by decide) (by decide)]
theorem Lq.eD (e : Lq M M') : nDo M' = nDo M := by unfold nDo; rw [e.2 3 1 (by decide) (by decide) (by decide)]
theorem Lq.eW (e : Lq M M') : nW M' = nW M := by unfold nW; rw [e.2 3 2 (by decide) (by decide) (by decide)]
theorem Lq.eC (e : Lq M M') : nC M' = nC M := by unfold nC; rw [e.2 3 3 (by decide) (by decide) (by decide)]
theorem Lq.eZ (e : Lq M M') : nZ M' = nZ M := by unfold nZ; rw [e.2 3 6 (by decide) (by decide) (by decide)]
theorem Lq.eN (e : Lq M M') (vals : Nat → Int32) : ∀ i, i ≤ 700 → rn M' vals i = rn M vals i
  | 0, _ => rfl
  | i + 1, hi => by
    unfold rn
    rw [Lq.eN e vals i (by omega), e.2 16 i (by decide) (by decide) (by show i < 700; omega)]
theorem Lq.eO (e : Lq M M') (o : Int32) : ∀ n, n ≤ 9 → cntO M' o n = cntO M o n
  | 0, _ => rfl
  | n + 1, hn => by
    unfold cntO
    rw [Lq.eO e o n (by omega), e.2 5 n (by decide) (by decide) (by show n < 9; omega)]
theorem Lq.eQ (e : Lq M M') : ∀ d, d ≤ 14 → wDoors M' d = wDoors M d
  | 0, _ => rfl
  | d + 1, hd => by
    unfold wDoors
    rw [Lq.eQ e d (by omega), e.2 8 d (by decide) (by decide) (by show d < 14; omega), e.2 9 d (by decide) (by decide) (by show d < 14; omega), e.2 10 d (by decide) (by decide) (by show d < 14; omega)]
theorem Lq.eV (e : Lq M M') (h : nDo M ≤ 14) : ways M' = ways M := by unfold ways; rw [e.eD, e.eQ _ h]
theorem Lq.fb (e : Lq M M') (h : FB M) : FB M' := by
  obtain ⟨⟨a0, a1, a2, a3, a4, a5, a6, a7⟩, ⟨c1, c2, c3, c4⟩, hr, hd, hw, hz, cs⟩ := h
  have t : ∀ k, k < 7 → M' 3 k = M 3 k := fun k hk => e.2 3 k (by decide) (by decide) hk
  unfold FB
  rw [e.eR, e.eD, e.eW, e.eC, e.eZ, t 0 (by decide), t 1 (by decide), t 2 (by decide), t 3 (by decide), t 4 (by decide), t 5 (by decide), t 6 (by decide)]
  refine ⟨⟨a0, a1, a2, a3, a4, a5, a6, a7⟩, ⟨c1, c2, c3, c4⟩, fun r hr' => ?_, fun i hi => ?_, fun w hw' => ?_, ?_, ?_⟩
  · rw [e.2 4 r (by decide) (by decide) (by show r < 9; omega), e.2 5 r (by decide) (by decide) (by show r < 9; omega), e.2 7 r (by decide) (by decide) (by show r < 9; omega)]; exact hr r hr'
  · rw [e.2 8 i (by decide) (by decide) (by show i < 14; omega), e.2 9 i (by decide) (by decide) (by show i < 14; omega), e.2 10 i (by decide) (by decide) (by show i < 14; omega)]; exact hd i hi
  · obtain ⟨k, k8, k1, k2⟩ := hw w hw'
    refine ⟨k, k8, by rw [e.2 11 w (by decide) (by decide) (by show w < 5; omega)]; exact k1, fun j hj => ?_⟩
    rw [e.2 12 (8 * w + j) (by decide) (by decide) (by show 8 * w + j < 40; omega), e.2 13 (8 * w + j) (by decide) (by decide) (by show 8 * w + j < 40; omega), e.2 14 (8 * w + j) (by decide) (by decide) (by show 8 * w + j < 40; omega)]; exact k2 j hj
  · rcases hz with z | z
    · exact Or.inl z
    · refine Or.inr (fun vals => ?_)
      rw [e.eN vals _ c4]; exact z vals
  · unfold CS
    rw [e.1.1, e.1.2]; exact cs
theorem Lq.cf (e : Lq M M') (h : FB M) {f : Nat} {hc : ST} (x : CF f M hc) : CF f M' hc := by
  obtain ⟨⟨a0, a1, a2, a3, a4, a5, a6, a7⟩, ⟨c1, c2, c3, c4⟩, hr, hd, hw, hz, cs⟩ := h
  have t : ∀ k, k < 7 → M' 3 k = M 3 k := fun k hk => e.2 3 k (by decide) (by decide) hk
  obtain ⟨x1, x2, x3, x4, x5, x6⟩ := x
  unfold CF
  rw [e.eR, e.eD, e.eW, e.eZ, t 0 (by decide), t 1 (by decide), t 2 (by decide), t 3 (by decide), t 4 (by decide), t 5 (by decide), t 6 (by decide)]
  refine ⟨x1, fun r hr' => ?_, fun i hi => ?_, fun w hw' => ?_, fun i hi => ?_, fun o ho => ?_⟩
  · rw [e.2 4 r (by decide) (by decide) (by show r < 9; omega), e.2 5 r (by decide) (by decide) (by show r < 9; omega), e.2 7 r (by decide) (by decide) (by show r < 9; omega)]; exact x2 r hr'
  · rw [e.2 8 i (by decide) (by decide) (by show i < 14; omega), e.2 9 i (by decide) (by decide) (by show i < 14; omega)]; exact x3 i hi
  · obtain ⟨k, k8, k1, k2⟩ := hw w hw'
    rw [e.2 11 w (by decide) (by decide) (by show w < 5; omega)]
    refine ⟨(x4 w hw').1, fun j hj => ?_⟩
    have hj8 : j < 8 := by
      rw [k1, nI_clamp (by omega)] at hj; omega
    rw [e.2 12 (8 * w + j) (by decide) (by decide) (by show 8 * w + j < 40; omega), e.2 13 (8 * w + j) (by decide) (by decide) (by show 8 * w + j < 40; omega), e.2 14 (8 * w + j) (by decide) (by decide) (by show 8 * w + j < 40; omega)]; exact (x4 w hw').2 j hj
  · rw [e.2 16 i (by decide) (by decide) (by show i < 700; omega)]; exact x5 i hi
  · rw [e.eO _ _ a1]; exact x6 o ho
theorem Lq.rc (e : Lq M M') {s : Nat} {A : AS} {hc : ST} (x : RC s M A hc) : RC s M' A hc := by unfold RC; rw [e.eR, e.eC]; exact x
theorem Lq.rm (e : Lq M M') {A : AS} {hm : ST} (x : RM1 M A hm) : RM1 M' A hm := by unfold RM1; rw [e.eR, e.eC]; exact x
theorem Lq.ab (e : Lq M M') {K : Nat} {A : AS} (x : AB M K A) : AB M' K A := by unfold AB okW; rw [e.eR, e.eC, e.eW]; exact x
theorem Lq.pa (e : Lq M M') {row : Nat → Int32} {b : Nat} {A : AS} (x : PA row b M A) : PA row b M' A := by unfold PA; rw [e.eR, e.eC]; exact x
theorem Lq.acts (e : Lq M M') {P : Nat} {hc : ST} {many : Int32} {past : Nat → Int32} (x : ActsR P M hc many past) : ActsR P M' hc many past := by
  obtain ⟨k, first, h1, h2, h3, h4, h5, h6⟩ := x
  refine ⟨k, first, h1, h2, h3, h4, h5, fun j hj => ?_⟩
  obtain ⟨B, b1, b2, b3⟩ := h6 j hj
  exact ⟨B, e.ab b1, e.rc b2, e.pa b3⟩
theorem Lq.sight (e : Lq M M') {P : Nat} {hc : ST} {many : Int32} {rm dy mu : Nat → Int32} (x : SightR P M hc many rm dy mu) : SightR P M' hc many rm dy mu := by unfold SightR; rw [e.eR]; exact x
end LEs
theorem failX {f : Nat} {M : ST} {A : AS} {hc hm hc' hm' : ST} (h : J f M A hc hm) (h2 : J2 f M hc hm) (hC : ∀ i, i ≠ 0 → i ≠ 213 → ¬ (22 - f ≤ i ∧ i < 22 - f + 18) → ¬ (38 ≤ i ∧ i ≤ 41) → hc' i = hc i) (hC0 : Fs 0 [1, 2] hc hc') (c1 : hc' 0 1 = 0) (m19 : hm' 0 19 = 0) (c2 : hc' 0 2 = hm' 0 28) (hs : ∀ k, k < 3 → hc' 213 k = hm' 17 k) (hM : ∀ i, i ≠ 0 → i ≠ 17 → i < 3 ∨ 16 < i → hm' i = hm i) (hM0 : ∀ k, 28 < k → hm' 0 k = hm 0 k) (hL : ∀ i k, 3 ≤ i → i ≤ 16 → k < hfz i → hm' i k = hm i k) : Inv hc' hm' := by
  obtain ⟨hf, h0, hB, hF, hCF, hR, hR1, hA⟩ := id h
  obtain ⟨k1, k2, k3, k4, k5, k6, k7, k8, k9⟩ := id h2
  have e : Lq M hm' := by
    refine ⟨⟨?_, ?_⟩, fun i k x y z => ?_⟩
    · rw [hM 1 (by decide) (by decide) (by decide)]; exact hF 1 (by decide)
    · rw [hM 2 (by decide) (by decide) (by decide)]; exact hF 2 (by decide)
    · have : i ≤ 16 := by simp only [FMl, List.mem_cons, List.not_mem_nil, or_false] at x; omega
      rw [hL i k y this z, hF i x]
  have hi : ∀ i, 42 ≤ i → i ≠ 213 → hc' i = hc i := fun i a b => hC i (by omega) b (by omega) (by omega)
  have lo : ∀ i, f ≤ i → i < f + 18 → hc' i = hc i := fun i a b => hC i (by omega) (by omega) (by omega) (by omega)
  have m : ∀ i, 17 < i → hm' i = hm i := fun i a => hM i (by omega) (by omega) (by omega)
  have ks : ∀ P, (P = 42 ∨ P = 214) → ∀ i, P ≤ i → i < P + 171 → hc' i = hc i := fun P hP i a b => hi i (by omega) (by omega)
  refine ⟨f, hm', A, ⟨hf, by rw [hC0 3 (by decide)]; exact h0, e.fb hB, fun i _ => rfl, (e.cf hB hCF).kept (fun i hx => lo i ?_ ?_), (e.rc hR).kept (hi _ (by omega) (by omega)) (hi _ (by omega) (by omega)) (hi _ (by omega) (by omega)) (hi _ (by omega) (by omega)), ?_, e.ab hA⟩, ?_⟩
  · simp only [CFcells, List.mem_cons, List.not_mem_nil, or_false] at hx; omega
  · simp only [CFcells, List.mem_cons, List.not_mem_nil, or_false] at hx; omega
  · have := e.rm hR1
    unfold RM1 at this ⊢
    rw [hM0 33 (by decide), hM0 34 (by decide), hM0 35 (by decide), m 19 (by decide), m 20 (by decide), m 21 (by decide)]
    exact this
  · refine ⟨by rw [hC0 4 (by decide)]; exact k1, ⟨0, by decide, c1, m19, fun i hi => absurd hi (Nat.not_lt_zero i)⟩, c2, fun a b ha hb => ?_, hs, ?_, ?_, ?_, ?_⟩
    · rw [e.eR] at ha hb
      rw [lo (f + 16) (by omega) (by omega), e.eV hB.1.2.2.2.1]; exact k4 a b ha hb
    · rw [hM0 37 (by decide), m 33 (by decide), m 34 (by decide), m 35 (by decide)]
      exact (e.sight k6).kept2 (fun i a b => hi i (by omega) (by omega))
    · rw [hM0 36 (by decide), m 22 (by decide)]
      exact (e.acts k7).kept2 (fun i a b => hi i (by omega) (by omega))
    · rw [hC0 8 (by decide), hM0 54 (by decide)]; exact k8
    · rw [hM0 54 (by decide), hM0 55 (by decide), hM0 56 (by decide), m 37 (by decide), m 38 (by decide), m 39 (by decide), m 40 (by decide), m 41 (by decide), m 42 (by decide), hi 385 (by decide) (by decide)]
      rcases k9 with h9 | ⟨h9, B, b1, b2, b3, b4, b5, b6⟩
      · exact Or.inl h9
      · exact Or.inr ⟨h9, B, e.ab b1, (e.rc b2).kept (hi _ (by omega) (by omega)) (hi _ (by omega) (by omega)) (hi _ (by omega) (by omega)) (hi _ (by omega) (by omega)), e.pa b3, (e.acts b4).kept2 (fun i a b => hi i (by omega) (by omega)), (e.sight b5).kept2 (fun i a b => hi i (by omega) (by omega)), b6⟩
