/-! ===== parish: the class's waiting signs ===== -/
theorem lp_0s {σ ρ : Type} {b : σ → Option (σ ⊕ ρ)} {r : ρ} : ∀ (m j : Nat) (S : Nat → σ), (∀ i, i < m → b (S i) = some (.inl (S (i + 1)))) → b (S m) = some (.inr r) → lp (m + 1 + j) b (S 0) = some r
  | 0, j, S, _, e => by
    rw [show 0 + 1 + j = j + 1 by omega]
    exact lp_r e
  | m + 1, j, S, h, e => by
    rw [show m + 1 + 1 + j = (m + 1 + j) + 1 by omega, lp_s (h 0 (by omega))]
    exact lp_0s m j (fun i => S (i + 1)) (fun i hi => h (i + 1) (by omega)) e
/-- some steps of a loop -/
def stp {σ ρ : Type} (b : σ → Option (σ ⊕ ρ)) : Nat → σ → σ → Prop
  | 0, s, s' => s = s'
  | m + 1, s, s' => ∃ u, b s = some (.inl u) ∧ stp b m u s'
theorem stp_tr {σ ρ : Type} {b : σ → Option (σ ⊕ ρ)} : ∀ {m n : Nat} {s u v : σ}, stp b m s u → stp b n u v → stp b (m + n) s v
  | 0, n, s, u, v, h, k => by
    rw [Nat.zero_add]
    have h' : s = u := h
    rw [h']; exact k
  | m + 1, n, s, u, v, h, k => by
    obtain ⟨w, h1, h2⟩ := h
    rw [show m + 1 + n = (m + n) + 1 by omega]
    exact ⟨w, h1, stp_tr h2 k⟩
theorem stp_1 {σ ρ : Type} {b : σ → Option (σ ⊕ ρ)} {s u : σ} (h : b s = some (.inl u)) : stp b 1 s u := ⟨u, h, rfl⟩
theorem stp_lp {σ ρ : Type} {b : σ → Option (σ ⊕ ρ)} {r : ρ} : ∀ {m : Nat} {j : Nat} {s s' : σ}, stp b m s s' → b s' = some (.inr r) → lp (m + 1 + j) b s = some r
  | 0, j, s, s', h, e => by
    have h' : s = s' := h
    rw [h', show 0 + 1 + j = j + 1 by omega]
    exact lp_r e
  | m + 1, j, s, s', h, e => by
    obtain ⟨w, h1, h2⟩ := h
    rw [show m + 1 + 1 + j = (m + 1 + j) + 1 by omega, lp_s h1]
    exact stp_lp h2 e
theorem stp_FU {σ ρ : Type} {b : σ → Option (σ ⊕ ρ)} {r : ρ} {m : Nat} {s s' : σ} (hm : m < 10000) (h : stp b m s s') (e : b s' = some (.inr r)) : lp FU b s = some r := by
  have : FU = m + 1 + (FU - (m + 1)) := by
    have : 10000 ≤ FU := by decide
    omega
  rw [this]
  exact stp_lp h e
def sg (x : Int32) : Nat := if x = -15 then 1 else if x = -14 then 2 else if x = -13 then 3 else if x = -12 then 4 else if x = -11 then 4 else if x = -10 then 6 else if x = -9 then 6 else if x = -8 then 5 else if x = -7 then 5 else 0
theorem sgC (h : ST) (x : Int32) : fX6_strengthOf h x = some (nI (sg x)) := by
  unfold fX6_strengthOf sg
  by_cases c1 : x = -15
  · rw [if_pos c1, if_pos c1]; rfl
  rw [if_neg c1, if_neg c1]
  by_cases c2 : x = -14
  · rw [if_pos c2, if_pos c2]; rfl
  rw [if_neg c2, if_neg c2]
  by_cases c3 : x = -13
  · rw [if_pos c3, if_pos c3]; rfl
  rw [if_neg c3, if_neg c3]
  by_cases c4 : x = -12
  · rw [if_pos c4, if_pos c4]; rfl
  rw [if_neg c4, if_neg c4]
  by_cases c5 : x = -11
  · rw [if_pos c5, if_pos c5]; rfl
  rw [if_neg c5, if_neg c5]
  by_cases c6 : x = -10
  · rw [if_pos c6, if_pos c6]; rfl
  rw [if_neg c6, if_neg c6]
  by_cases c7 : x = -9
  · rw [if_pos c7, if_pos c7]; rfl
  rw [if_neg c7, if_neg c7]
  by_cases c8 : x = -8
  · rw [if_pos c8, if_pos c8]; rfl
  rw [if_neg c8, if_neg c8]
  by_cases c9 : x = -7
  · rw [if_pos c9, if_pos c9]; rfl
  rw [if_neg c9, if_neg c9]; rfl
theorem sg_7 (x : Int32) : sg x ≤ 6 := by
  unfold sg
  repeat' (first | omega | split)
theorem rf4 {g : Nat} (hg : g = 2 ∨ g = 20) {v : Int32} (e : v = nI (g + 12)) : rf KC 395 4 v = some (g + 12) := by
  subst e
  unfold rf
  rcases hg with rfl | rfl <;> decide
/-- the signs that wait, the last one first -/
def WTs (g : Nat) (h : ST) (S : List Int32) : Prop := h 40 7 = nI (g + 12) ∧ h 40 1 = nI S.length ∧ SKr (h 41) S
theorem putC {g : Nat} {h : ST} {nc : Nat} (e : h (g + 12) 1 = nI nc) (hn : nc < 700) (v : Int32) : fX5_put h (g + 12) v = some (up2 (up2 h (g + 14) nc v) (g + 12) 1 (nI (nc + 1))) := by
  have k : up2 h (g + 14) nc v (g + 12) 1 = nI nc := by rw [up2_n (by omega)]; exact e
  unfold fX5_put fX5_put_30
  rw [e, if_neg (show ¬ 700 ≤ nI nc from nI_ge (b := 700) hn (by decide)), wr_k (n := 700) hn, bnd_s]
  show bnd (pw (up2 h (g + 14) nc v) (g + 12) 1 (up2 h (g + 14) nc v (g + 12) 1 + 1)) _ = _
  rw [k, pw_s, bnd_s, nI_1]
theorem relC {g : Nat} (hg : g = 2 ∨ g = 20) {h : ST} {T R : List Int32} {s nc : Nat} (hs : 1 ≤ s) (hs7 : s ≤ 7) (w : WTs g h (T ++ R)) (hT : ∀ x, x ∈ T → s ≤ sg x) (hR : ∀ x t, R = x :: t → sg x < s) (h79 : (T ++ R).length ≤ 80) (e : h (g + 12) 1 = nI nc) (hn : nc + T.length ≤ 700) :
    ∃ h', fX6_release h (nI s) = some h' ∧ WTs g h' R ∧ h' (g + 12) 1 = nI (nc + T.length) ∧ (∀ i, i < nc → h' (g + 14) i = h (g + 14) i) ∧ (∀ j, j < T.length → h' (g + 14) (nc + j) = T.getD j 0) ∧ Fr [40, g + 12, g + 14] h h' ∧ Fs 40 [1] h h' ∧ Fs (g + 12) [1] h h' := by
  obtain ⟨x, x1, x2⟩ : ∃ x, lp FU (fX6_release_0 (nI s)) h = some x ∧ WTs g x R ∧ x (g + 12) 1 = nI (nc + T.length) ∧ (∀ i, i < nc → x (g + 14) i = h (g + 14) i) ∧ (∀ j, j < T.length → x (g + 14) (nc + j) = T.getD j 0) ∧ Fr [40, g + 12, g + 14] h x ∧ Fs 40 [1] h x ∧ Fs (g + 12) [1] h x := by
    refine lp_cnt (b := fX6_release_0 (nI s)) (fun i x => WTs g x (T.drop i ++ R) ∧ x (g + 12) 1 = nI (nc + i) ∧ (∀ j, j < nc → x (g + 14) j = h (g + 14) j) ∧ (∀ j, j < i → x (g + 14) (nc + j) = T.getD j 0) ∧ Fr [40, g + 12, g + 14] h x ∧ Fs 40 [1] h x ∧ Fs (g + 12) [1] h x) T.length (by omega) ?_ ?_ ⟨by simpa using w, e, fun _ _ => rfl, fun j hj => absurd hj (Nat.not_lt_zero j), Fr.rf, Fs.rf, Fs.rf⟩
    · rintro i x hi ⟨⟨w1, w2, w3⟩, e1, e2, e3, f1, f2, f3⟩
      have dr : T.drop i = T[i] :: T.drop (i + 1) := (List.getElem_cons_drop hi).symm
      rw [dr, List.cons_append] at w2 w3
      have ln : (T[i] :: (T.drop (i + 1) ++ R)).length = (T.drop (i + 1) ++ R).length + 1 := rfl
      rw [ln] at w2
      have l80 : (T.drop (i + 1) ++ R).length < 80 := by
        simp only [List.length_append, List.length_drop] at h79 ⊢
        omega
      have top : x 41 (T.drop (i + 1) ++ R).length = T[i] := w3.1
      have sgt : s ≤ sg T[i] := hT _ (List.getElem_mem hi)
      have s6 := sg_7 T[i]
      obtain ⟨y, ey⟩ : ∃ y, y = up2 x 40 1 (nI (T.drop (i + 1) ++ R).length) := ⟨_, rfl⟩
      have y41 : y 41 = x 41 := by rw [ey, up2_n (by decide)]
      have y7 : y 40 7 = nI (g + 12) := by rw [ey, up2_sn (by decide)]; exact w1
      have yc : y (g + 12) 1 = nI (nc + i) := by rw [ey, up2_n (by omega)]; exact e1
      have y1 : y 40 1 = nI (T.drop (i + 1) ++ R).length := by rw [ey, up2_ss]
      refine Or.inl ⟨up2 (up2 y (g + 14) (nc + i) T[i]) (g + 12) 1 (nI (nc + (i + 1))), ?_, ⟨?_, ?_, ?_⟩, up2_ss _ _ _ _, fun j hj => ?_, fun j hj => ?_, ?_, ?_, ?_⟩
      · unfold fX6_release_0
        rw [w2, if_neg (nI_nle (by omega) (by omega)), nI_pred, rd_k (n := 80) l80, bnd_s, top, sgC, bnd_s, if_neg (nI_nlt sgt (by omega)), pw_s, bnd_s, ← ey, y7, rf4 hg rfl, bnd_s, y1, y41, rd_k (n := 80) l80, bnd_s, top, putC yc (by omega), bnd_s, Nat.add_assoc]
      · rw [up2_n (by omega), up2_n (by omega)]; exact y7
      · rw [up2_n (by omega), up2_n (by omega)]; exact y1
      · rw [up2_n (by omega), up2_n (by omega), y41]; exact w3.2
      · rw [up2_n (by omega), up2_sn (by omega), ey, up2_n (by omega)]; exact e2 j hj
      · rw [up2_n (by omega), up2_s]
        by_cases c : j = i
        · rw [c, upd_s, List.getD_eq_getElem?_getD, List.getElem?_eq_getElem hi]; rfl
        · rw [upd_n (by omega), ey, up2_n (by omega)]; exact e3 j (by omega)
      · rw [ey]; exact ((f1.up (by simp only [List.mem_cons, List.not_mem_nil, or_false, true_or, or_true])).up (by simp only [List.mem_cons, List.not_mem_nil, or_false, true_or, or_true])).up (by simp only [List.mem_cons, List.not_mem_nil, or_false, true_or, or_true])
      · rw [ey]; exact (((f2.up (by decide)).un (by omega)).un (by omega))
      · rw [ey]; exact (((f3.un (by omega)).un (by omega)).up (by decide))
    · rintro x ⟨⟨w1, w2, w3⟩, e1, e2, e3, f1, f2, f3⟩
      rw [List.drop_length, List.nil_append] at w2 w3
      refine ⟨x, ?_, ⟨w1, w2, w3⟩, e1, e2, e3, f1, f2, f3⟩
      unfold fX6_release_0
      cases hRR : R with
      | nil => rw [w2, hRR, if_pos (show nI ([] : List Int32).length ≤ 0 by decide)]
      | cons a u =>
        rw [hRR] at w2 w3 h79
        have l80 : u.length < 80 := by
          simp only [List.length_append, List.length_cons] at h79
          omega
        have w2' : x 40 1 = nI (u.length + 1) := w2
        have sl := hR a u hRR
        rw [w2', if_neg (nI_nle (by omega) (by omega)), nI_pred, rd_k (n := 80) l80, bnd_s, w3.1, sgC, bnd_s, if_pos (nI_lt sl (by omega))]
  exact ⟨x, by unfold fX6_release fX6_release_54; rw [x1, bnd_s], x2⟩
theorem holdC {g : Nat} {h : ST} {S : List Int32} (w : WTs g h S) (hl : S.length < 80) (v : Int32) : ∃ h', fX6_hold h v = some (0, h') ∧ WTs g h' (v :: S) ∧ Fr [40, 41] h h' ∧ Fs 40 [1] h h' := by
  obtain ⟨w1, w2, w3⟩ := w
  have k : up2 h 41 S.length v 40 1 = nI S.length := by rw [up2_n (by decide)]; exact w2
  refine ⟨up2 (up2 h 41 S.length v) 40 1 (nI (S.length + 1)), ?_, ⟨?_, up2_ss _ _ _ _, ?_⟩, (Fr.rf.up (by decide)).up (by decide), (Fs.rf.un (by decide)).up (by decide)⟩
  · unfold fX6_hold
    rw [w2, if_pos (show nI S.length < 80 from nI_lt (b := 80) hl (by decide)), wr_k (n := 80) hl, bnd_s, k, pw_s, bnd_s, nI_1]
  · rw [up2_sn (by decide), up2_n (by decide)]; exact w1
  · rw [up2_n (by decide), up2_s]
    exact ⟨upd_s _ _ _, w3.up (Nat.le_refl _)⟩
