/-! ===== two loops side by side ===== -/
theorem lp2_0 {σ ρ τ κ : Type} {b1 : σ → Option (σ ⊕ ρ)} {b2 : τ → Option (τ ⊕ κ)} {Q : ρ → κ → Prop} (I : Nat → σ → τ → Prop) (N : Nat) (step : ∀ i s t, i < N → I i s t → (∃ s' t', b1 s = some (.inl s') ∧ b2 t = some (.inl t') ∧ I (i + 1) s' t') ∨ ∃ x y, b1 s = some (.inr x) ∧ b2 t = some (.inr y) ∧ Q x y) (fin : ∀ s t, I N s t → ∃ x y, b1 s = some (.inr x) ∧ b2 t = some (.inr y) ∧ Q x y) :
    ∀ d F i s t, i + d = N → d < F → I i s t → ∃ x y, lp F b1 s = some x ∧ lp F b2 t = some y ∧ Q x y := by
  intro d
  induction d with
  | zero =>
    intro F i s t hi hF h
    obtain ⟨F, rfl⟩ : ∃ q, F = q + 1 := ⟨F - 1, by omega⟩
    have hi : i = N := by omega
    subst hi
    obtain ⟨x, y, h1, h2, h3⟩ := fin s t h
    exact ⟨x, y, lp_r h1, lp_r h2, h3⟩
  | succ d ih =>
    intro F i s t hi hF h
    obtain ⟨F, rfl⟩ : ∃ q, F = q + 1 := ⟨F - 1, by omega⟩
    rcases step i s t (by omega) h with ⟨s', t', h1, h2, h3⟩ | ⟨x, y, h1, h2, h3⟩
    · obtain ⟨x, y, h4, h5, h6⟩ := ih F (i + 1) s' t' (by omega) (by omega) h3
      exact ⟨x, y, by rw [lp_s h1]; exact h4, by rw [lp_s h2]; exact h5, h6⟩
    · exact ⟨x, y, lp_r h1, lp_r h2, h3⟩
theorem lp2_cnt {σ ρ τ κ : Type} {b1 : σ → Option (σ ⊕ ρ)} {b2 : τ → Option (τ ⊕ κ)} {Q : ρ → κ → Prop} {s : σ} {t : τ} (I : Nat → σ → τ → Prop) (N : Nat) (hN : N < 1000000) (step : ∀ i s t, i < N → I i s t → (∃ s' t', b1 s = some (.inl s') ∧ b2 t = some (.inl t') ∧ I (i + 1) s' t') ∨ ∃ x y, b1 s = some (.inr x) ∧ b2 t = some (.inr y) ∧ Q x y) (fin : ∀ s t, I N s t → ∃ x y, b1 s = some (.inr x) ∧ b2 t = some (.inr y) ∧ Q x y) (h0 : I 0 s t) : ∃ x y, lp FU b1 s = some x ∧ lp FU b2 t = some y ∧ Q x y :=
  lp2_0 I N step fin N FU 0 s t (by omega) (Nat.lt_trans hN (by decide)) h0
theorem MR.tr {M : ST} {A B : AS} {c d : Int32} {h h1 h2 : ST} (a : MR M A c h h1) (b : MR M B d h1 h2) : MR M B d h h2 := ⟨a.1.tr b.1, a.2.1.tr b.2.1, b.2.2.1, b.2.2.2⟩
theorem MR.fm {M : ST} {A : AS} {c : Int32} {h h1 : ST} (a : MR M A c h h1) (hF : FM M h) : FM M h1 := fun i hi => (a.1 i (by simp only [FMl, Km, List.mem_cons, List.not_mem_nil, or_false] at hi ⊢; omega)).trans (hF i hi)
theorem begin2 {M : ST} {A : AS} {r : ST} (h9 : nR M ≤ 9) (h10 : nC M ≤ 10) (hF : FM M r) (hR : RM1 M A r) (h0 : r 0 2 = 0) : ∃ y, fX11_pack r 27 31 0 = some y ∧ TM M A A r y := by
  obtain ⟨y, y1, y2, y3, y4⟩ := packM h9 h10 hR (o := 27) (n := 31) (b := 0) (by decide) (by decide) (by decide)
  refine ⟨y, y1, y2, ?_, fun i hi => (y4 i (by simp only [FMl, List.mem_cons, List.not_mem_nil, or_false] at hi ⊢; omega)).trans (hF i hi), y4.sub (by decide), Fs.of y4 (by decide), by rw [y4 0 (by decide)]; exact h0⟩
  unfold RM1 at hR ⊢
  rw [y4 0 (by decide), y4 19 (by decide), y4 20 (by decide), y4 21 (by decide)]
  exact hR
theorem takenInM {M : ST} (hB : FB M) {A : AS} {r : ST} (hF : FM M r) (hR : RM1 M A r) (h0 : r 0 2 = 0) {K : Nat} (hA : AB M K A) {n : Nat} (hK : K + n < 2000000) (hn : n < 100000) {e : Int32} (he : okE e) : ∃ r', fX11_takenIn r (nI n) e = some (aT (aDaysE M e n A) - aT A, r') ∧ MR M A 0 r r' := by
  obtain ⟨y, y1, y2⟩ := begin2 hB.1.2.1 hB.1.2.2.2.2.2.2.2 hF hR h0
  obtain ⟨z, z1, z2⟩ := y2.takenIn0 hB hA hK hn he (y 0 34)
  obtain ⟨u, u1, u2⟩ := z2.back hB.1.2.1 hB.1.2.2.2.2.2.2.2
  refine ⟨u, ?_, u2⟩
  unfold fX11_takenIn
  rw [y1, bnd_s, z1, bnd_s, u1, bnd_s, z2.2.1.1.2.1, y2.2.1.1.2.1]
theorem t_taken {hc hm : ST} (hI : Inv hc hm) (a1 : Int32) : ∃ y, s_taken hc hm a1 = some y ∧ Inv y.1 y.2 := by
  obtain ⟨f, M, A, h, h2⟩ := hI
  obtain ⟨hf, h0, hB, hF, hCF, hR, hR1, hA⟩ := id h
  unfold s_taken fL_taken
  apply s_ok
  rcases ahead_c hc a1 with ⟨n, hn, rfl, e3, e4⟩ | ⟨e3, e4⟩
  · obtain ⟨z, z1, z2, z3, z4, z5⟩ := tryC h hn
    have hF1 := fm_up hF 2 0
    have m1 := codeM (M := M) hR1
    obtain ⟨r, r1, r2⟩ := takenInM hB hF1 m1.2.2.1 m1.2.2.2 hA (n := n) (by omega) (by omega) (okE4 hB)
    rw [aDaysE_4] at r1
    have z43 : z 43 1 = aT A := by rw [z3 43 (by omega) (by omega) (by omega)]; exact hR.1.2.1
    have f3 : up2 hm 0 2 0 3 = M 3 := hF1 3 (by decide)
    refine Or.inl ⟨aT (aDays M n A) - aT A, z, r, ?_, ?_, r2.2.2.2, Inv.ro h h2 z3 (m1.tr r2)⟩
    · simp only [fX10_taken, bnd_s, pw_s, rd_0, rd_1, rd_2, rd_3, rd_4, rd_5, rd_6, wr_0, wr_1, wr_2, wr_3, wr_4, wr_5, zb_0, zb_1, Nat.reduceLT, Nat.reducePow, e3, sm, z1, z2.1.2.1, z43]
    · simp only [fX11_taken, fX11_taken_31, bnd_s, pw_s, rd_0, rd_1, rd_2, rd_3, rd_4, rd_5, rd_6, wr_0, wr_1, wr_2, wr_3, wr_4, wr_5, zb_0, zb_1, Nat.reduceLT, Nat.reducePow, e4, f3, r1, if_neg (show ¬ (1 : Int32) = 0 by decide)]
  · obtain ⟨q1, q2⟩ := failM hR1 1
    refine Or.inr ⟨2, 1, 0, hc, _, ?_, rfl, by decide, ?_, q2.2.2.2, Inv.ro h h2 (fun _ _ _ _ => rfl) q2⟩
    · simp only [fX10_taken, bnd_s, pw_s, rd_0, rd_1, rd_2, rd_3, rd_4, rd_5, rd_6, wr_0, wr_1, wr_2, wr_3, wr_4, wr_5, zb_0, zb_1, Nat.reduceLT, Nat.reducePow, e3, sm]
    · simp only [fX11_taken, fX11_taken_31, bnd_s, pw_s, rd_0, rd_1, rd_2, rd_3, rd_4, rd_5, rd_6, wr_0, wr_1, wr_2, wr_3, wr_4, wr_5, zb_0, zb_1, Nat.reduceLT, Nat.reducePow, e4, q1, if_true]
/-! sums of dust, heretics -/
def sumD (D : Nat → Int32) : Nat → Int32
  | 0 => 0
  | n + 1 => sumD D n + D n
theorem sumD_k {n : Nat} {D : Nat → Int32} (h : DB n D) : ∀ i, i ≤ n → ∃ v, v ≤ 9999 * i ∧ sumD D i = nI v
  | 0, _ => ⟨0, by omega, rfl⟩
  | i + 1, hi => by
    obtain ⟨v, hv, e⟩ := sumD_k h i (by omega)
    obtain ⟨x, hx, e2⟩ := h i (by omega)
    exact ⟨v + x, by omega, by show sumD D i + D i = _; rw [e, e2, nI_add]⟩
theorem dustC {f s : Nat} {M h : ST} {B : AS} (hB : FB M) (hC : CF f M h) (hR : RC s M B h) : fX1_dustInAll h f s = some (sumD (aD B) (nR M)) := by
  have b0 := hB.1.1
  have h9 := hB.1.2.1
  have f0 : h f 0 = nI (nR M) := hC.1.1.trans b0
  have e : lp FU (fX1_dustInAll_4 h f s) (0, 0) = some (sumD (aD B) (nR M)) := by
    refine lp_det (b := fX1_dustInAll_4 h f s) (fun i => (sumD (aD B) i, nI i)) (nR M) (by omega) (fun i hi => ?_) ?_
    · simp only [fX1_dustInAll_4, bnd_s, pw_s, rd_0, rd_1, rd_2, rd_3, rd_4, rd_5, rd_6, wr_0, wr_1, wr_2, wr_3, wr_4, wr_5, zb_0, zb_1, Nat.reduceLT, Nat.reducePow, f0, if_neg (nI_ge hi (show nR M < 2 ^ 31 by omega)), rd_k (n := 9) (show i < 9 by omega), (hR.2.1 i hi).1, nI_1, sumD]
    · simp only [fX1_dustInAll_4, f0, Int32.le_refl, if_true]
  unfold fX1_dustInAll; rw [e, bnd_s]
theorem dustM {M h : ST} {B : AS} (hB : FB M) (hF : FM M h) (hR : RM1 M B h) : fX11_allDust h = some (sumD (aD B) (nR M)) := by
  have b0 := hB.1.1
  have h9 := hB.1.2.1
  have f3 : h 3 = M 3 := hF 3 (by decide)
  have e : lp FU (fX11_allDust_4 h) (0, 0) = some (sumD (aD B) (nR M)) := by
    refine lp_det (b := fX11_allDust_4 h) (fun i => (sumD (aD B) i, nI i)) (nR M) (by omega) (fun i hi => ?_) ?_
    · simp only [fX11_allDust_4, bnd_s, pw_s, rd_0, rd_1, rd_2, rd_3, rd_4, rd_5, rd_6, wr_0, wr_1, wr_2, wr_3, wr_4, wr_5, zb_0, zb_1, Nat.reduceLT, Nat.reducePow, f3, b0, if_neg (nI_ge hi (show nR M < 2 ^ 31 by omega)), rd_k (n := 9) (show i < 9 by omega), (hR.2.1 i hi).1, nI_1, sumD]
    · simp only [fX11_allDust_4, bnd_s, pw_s, rd_0, rd_1, rd_2, rd_3, rd_4, rd_5, rd_6, wr_0, wr_1, wr_2, wr_3, wr_4, wr_5, zb_0, zb_1, Nat.reduceLT, Nat.reducePow, f3, b0, Int32.le_refl, if_true]
  unfold fX11_allDust; rw [e, bnd_s]
def herN (M : ST) (D : Nat → Int32) : Nat → Int32
  | 0 => 0
  | i + 1 => if M 4 i = 2 then herN M D i else if M 3 5 ≤ D i then herN M D i else herN M D i ||| ((1 : Int32) <<< (M 5 i &&& 31))
theorem uncleanC {f s : Nat} {M h : ST} {B : AS} (hB : FB M) (hC : CF f M h) (hR : RC s M B h) {i : Nat} (hi : i < nR M) : fX1_isUnclean h f s (nI i) = some (if M 4 i = 2 then 0 else if M 3 5 ≤ aD B i then 0 else 1) := by
  have h9 := hB.1.2.1
  have e1 := (hC.2.1 i hi).1
  have e2 : h f 16 = M 3 5 := hC.1.2.2.2.2.2.1
  by_cases c : M 4 i = 2
  · simp only [fX1_isUnclean, fX1_isUnclean_27, fX1_isUnclean_28, bnd_s, pw_s, rd_0, rd_1, rd_2, rd_3, rd_4, rd_5, rd_6, wr_0, wr_1, wr_2, wr_3, wr_4, wr_5, zb_0, zb_1, Nat.reduceLT, Nat.reducePow, rd_k (n := 9) (show i < 9 by omega), e1, if_pos c]
  · by_cases c2 : M 3 5 ≤ aD B i
    · simp only [fX1_isUnclean, fX1_isUnclean_27, fX1_isUnclean_28, bnd_s, pw_s, rd_0, rd_1, rd_2, rd_3, rd_4, rd_5, rd_6, wr_0, wr_1, wr_2, wr_3, wr_4, wr_5, zb_0, zb_1, Nat.reduceLT, Nat.reducePow, rd_k (n := 9) (show i < 9 by omega), e1, e2, if_neg c, (hR.2.1 i hi).1, if_pos c2]
    · simp only [fX1_isUnclean, fX1_isUnclean_27, fX1_isUnclean_28, bnd_s, pw_s, rd_0, rd_1, rd_2, rd_3, rd_4, rd_5, rd_6, wr_0, wr_1, wr_2, wr_3, wr_4, wr_5, zb_0, zb_1, Nat.reduceLT, Nat.reducePow, rd_k (n := 9) (show i < 9 by omega), e1, e2, if_neg c, (hR.2.1 i hi).1, if_neg c2]
theorem herC {f s : Nat} {M h : ST} {B : AS} (hB : FB M) (hC : CF f M h) (hR : RC s M B h) : fX1_heretics h f s = some (herN M (aD B) (nR M)) := by
  have b0 := hB.1.1
  have h9 := hB.1.2.1
  have f0 : h f 0 = nI (nR M) := hC.1.1.trans b0
  have e : lp FU (fX1_heretics_4 h f s) (0, 0) = some (herN M (aD B) (nR M)) := by
    refine lp_det (b := fX1_heretics_4 h f s) (fun i => (herN M (aD B) i, nI i)) (nR M) (by omega) (fun i hi => ?_) ?_
    · have u := uncleanC hB hC hR hi
      have e5 := (hC.2.1 i hi).2.1
      have q1 := nI_ge hi (show nR M < 2 ^ 31 by omega)
      by_cases c : M 4 i = 2
      · simp only [fX1_heretics_4, fX1_heretics_32, bnd_s, pw_s, rd_0, rd_1, rd_2, rd_3, rd_4, rd_5, rd_6, wr_0, wr_1, wr_2, wr_3, wr_4, wr_5, zb_0, zb_1, Nat.reduceLT, Nat.reducePow, f0, if_neg q1, u, if_pos c, nI_1, herN, if_true]
      · by_cases c2 : M 3 5 ≤ aD B i
        · simp only [fX1_heretics_4, fX1_heretics_32, bnd_s, pw_s, rd_0, rd_1, rd_2, rd_3, rd_4, rd_5, rd_6, wr_0, wr_1, wr_2, wr_3, wr_4, wr_5, zb_0, zb_1, Nat.reduceLT, Nat.reducePow, f0, if_neg q1, u, if_neg c, if_pos c2, nI_1, herN, if_true]
        · simp only [fX1_heretics_4, fX1_heretics_32, bnd_s, pw_s, rd_0, rd_1, rd_2, rd_3, rd_4, rd_5, rd_6, wr_0, wr_1, wr_2, wr_3, wr_4, wr_5, zb_0, zb_1, Nat.reduceLT, Nat.reducePow, f0, if_neg q1, u, if_neg c, if_neg c2, nI_1, herN, if_neg (show ¬ (1 : Int32) = 0 by decide), rd_k (n := 9) (show i < 9 by omega), e5]
    · simp only [fX1_heretics_4, f0, Int32.le_refl, if_true]
  unfold fX1_heretics; rw [e, bnd_s]
theorem herM {M h : ST} {B : AS} (hB : FB M) (hF : FM M h) (hR : RM1 M B h) : fX11_heretics h = some (herN M (aD B) (nR M)) := by
  have b0 := hB.1.1
  have h9 := hB.1.2.1
  have f3 : h 3 = M 3 := hF 3 (by decide)
  have f4 : h 4 = M 4 := hF 4 (by decide)
  have f5 : h 5 = M 5 := hF 5 (by decide)
  have e : lp FU (fX11_heretics_4 h) (0, 0) = some (herN M (aD B) (nR M)) := by
    refine lp_det (b := fX11_heretics_4 h) (fun i => (herN M (aD B) i, nI i)) (nR M) (by omega) (fun i hi => ?_) ?_
    · have q1 := nI_ge hi (show nR M < 2 ^ 31 by omega)
      by_cases c : M 4 i = 2
      · simp only [fX11_heretics_4, fX11_heretics_51, fX11_heretics_52, bnd_s, pw_s, rd_0, rd_1, rd_2, rd_3, rd_4, rd_5, rd_6, wr_0, wr_1, wr_2, wr_3, wr_4, wr_5, zb_0, zb_1, Nat.reduceLT, Nat.reducePow, f3, f4, b0, if_neg q1, rd_k (n := 18) (show i < 18 by omega), if_pos c, nI_1, herN, Int32.or_zero]
      · by_cases c2 : M 3 5 ≤ aD B i
        · simp only [fX11_heretics_4, fX11_heretics_51, fX11_heretics_52, bnd_s, pw_s, rd_0, rd_1, rd_2, rd_3, rd_4, rd_5, rd_6, wr_0, wr_1, wr_2, wr_3, wr_4, wr_5, zb_0, zb_1, Nat.reduceLT, Nat.reducePow, f3, f4, b0, if_neg q1, rd_k (n := 18) (show i < 18 by omega), rd_k (n := 9) (show i < 9 by omega), (hR.2.1 i hi).1, if_neg c, if_pos c2, nI_1, herN, Int32.or_zero]
        · simp only [fX11_heretics_4, fX11_heretics_51, fX11_heretics_52, bnd_s, pw_s, rd_0, rd_1, rd_2, rd_3, rd_4, rd_5, rd_6, wr_0, wr_1, wr_2, wr_3, wr_4, wr_5, zb_0, zb_1, Nat.reduceLT, Nat.reducePow, f3, f4, f5, b0, if_neg q1, rd_k (n := 18) (show i < 18 by omega), rd_k (n := 9) (show i < 9 by omega), (hR.2.1 i hi).1, if_neg c, if_neg c2, nI_1, herN]
    · simp only [fX11_heretics_4, bnd_s, pw_s, rd_0, rd_1, rd_2, rd_3, rd_4, rd_5, rd_6, wr_0, wr_1, wr_2, wr_3, wr_4, wr_5, zb_0, zb_1, Nat.reduceLT, Nat.reducePow, f3, b0, Int32.le_refl, if_true]
  unfold fX11_heretics; rw [e, bnd_s]
/-! the first day on which something holds -/
def FirstV (p : Nat → Prop) (N : Nat) (v : Int32) : Prop := (∃ k, k < N ∧ v = nI k ∧ p k ∧ ∀ j, j < k → ¬ p j) ∨ (v = -1 ∧ ∀ j, j < N → ¬ p j)
theorem FirstV.uniq {p : Nat → Prop} {N : Nat} {v w : Int32} (h1 : FirstV p N v) (h2 : FirstV p N w) : v = w := by
  rcases h1 with ⟨k, hk, rfl, pk, nk⟩ | ⟨rfl, n1⟩ <;> rcases h2 with ⟨l, hl, rfl, pl, nl⟩ | ⟨rfl, n2⟩
  · have : k = l := by
      rcases Nat.lt_trichotomy k l with c | c | c
      · exact absurd pk (nl k c)
      · exact c
      · exact absurd pl (nk l c)
    rw [this]
  · exact absurd pk (n2 k hk)
  · exact absurd pl (n1 l hl)
  · rfl
theorem nI_m1ne {n : Nat} (h : n < 2 ^ 31) : ¬ nI n = -1 := fun q => by
  have h1 := nI_toInt h
  rw [q] at h1
  have : ((-1 : Int32)).toInt = -1 := rfl
  omega
theorem t_thick {hc hm : ST} (hI : Inv hc hm) (a1 a2 : Int32) : ∃ y, s_thick hc hm a1 a2 = some y ∧ Inv y.1 y.2 := by
  obtain ⟨f, M, A, h, h2⟩ := hI
  obtain ⟨hf, h0, hB, hF, hCF, hR, hR1, hA⟩ := id h
  have h9 := hB.1.2.1
  unfold s_thick fL_thick
  apply s_ok
  rcases room_c h a1 with ⟨k, hk, rfl, e1, e2⟩ | ⟨e1, e2⟩
  rotate_left
  · obtain ⟨q1, q2⟩ := failM hR1 1
    refine Or.inr ⟨1, 1, 0, hc, _, ?_, rfl, by decide, ?_, q2.2.2.2, Inv.ro h h2 (fun _ _ _ _ => rfl) q2⟩
    · simp only [fX10_thick, bnd_s, pw_s, rd_0, rd_1, rd_2, rd_3, rd_4, rd_5, rd_6, wr_0, wr_1, wr_2, wr_3, wr_4, wr_5, zb_0, zb_1, Nat.reduceLT, Nat.reducePow, e1, sm]
    · simp only [fX11_thick, bnd_s, pw_s, rd_0, rd_1, rd_2, rd_3, rd_4, rd_5, rd_6, wr_0, wr_1, wr_2, wr_3, wr_4, wr_5, zb_0, zb_1, Nat.reduceLT, Nat.reducePow, e2 _ (fm_up hF 2 0), q1, if_true]
  by_cases c : 0 ≤ a2 ∧ a2 ≤ 9999
  rotate_left
  · obtain ⟨q1, q2⟩ := failM hR1 2
    refine Or.inr ⟨2, 2, 0, hc, _, ?_, rfl, by decide, ?_, q2.2.2.2, Inv.ro h h2 (fun _ _ _ _ => rfl) q2⟩
    · by_cases c1 : a2 < 0
      · simp only [fX10_thick, fX10_thick_16, bnd_s, pw_s, rd_0, rd_1, rd_2, rd_3, rd_4, rd_5, rd_6, wr_0, wr_1, wr_2, wr_3, wr_4, wr_5, zb_0, zb_1, Nat.reduceLT, Nat.reducePow, e1, sm, if_pos c1]
      · simp only [fX10_thick, fX10_thick_16, bnd_s, pw_s, rd_0, rd_1, rd_2, rd_3, rd_4, rd_5, rd_6, wr_0, wr_1, wr_2, wr_3, wr_4, wr_5, zb_0, zb_1, Nat.reduceLT, Nat.reducePow, e1, sm, if_neg c1, if_neg (fun q => c ⟨Int32.not_lt.mp c1, q⟩)]
    · simp only [fX11_thick, bnd_s, pw_s, rd_0, rd_1, rd_2, rd_3, rd_4, rd_5, rd_6, wr_0, wr_1, wr_2, wr_3, wr_4, wr_5, zb_0, zb_1, Nat.reduceLT, Nat.reducePow, e2 _ (fm_up hF 2 0), q1, if_true, show (0 : Int64) = (0 : Int32).toInt64 from rfl, show (9999 : Int64) = (9999 : Int32).toInt64 from rfl, isIn_n c, if_neg (show ¬ (1 : Int32) = 0 by decide)]
  obtain ⟨z, z1, z2, z3, z4, z5⟩ := copyT h
  obtain ⟨r, r1, r2⟩ := beginM h
  obtain ⟨x, x1, x2⟩ := lp_cnt (b := fX10_thick_40 (nI k) a2) (s := (z, 0)) (Q := fun x => ∃ v y, (x = .inl (y, v) ∨ (x = .inr y ∧ v = -1)) ∧ FirstV (fun n => ¬ aD (aDays M n A) k < a2) 100 v ∧ KcE f hc y) (fun i q => q.2 = nI i ∧ RC 386 M (aDays M i A) q.1 ∧ KcE f hc q.1 ∧ CF f M q.1 ∧ q.1 0 3 = nI f ∧ ∀ j, j < i → ¬ ¬ aD (aDays M j A) k < a2) 100 (by decide) (by
    rintro i ⟨y, n⟩ hi ⟨g1, g2, g3, g4, g5, g6⟩
    obtain rfl : n = nI i := g1
    dsimp only at g2 g3 g4 g5 g6
    have q1 : ¬ (99 : Int32) < nI i := nI_nlt (a := 99) (by omega) (by decide)
    by_cases c2 : aD (aDays M i A) k < a2
    · obtain ⟨u, u1, u2, u3, u4, u5⟩ := oneC hf hB g4 g5 (K := 999 + i) (by omega) (hA.days hB i (by omega)) g2
      refine Or.inl ⟨(u, nI i + 1), ?_, nI_1 i, u2, g3.tr u3, u4, u5, fun j hj => ?_⟩
      · simp only [fX10_thick_40, bnd_s, pw_s, rd_0, rd_1, rd_2, rd_3, rd_4, rd_5, rd_6, wr_0, wr_1, wr_2, wr_3, wr_4, wr_5, zb_0, zb_1, Nat.reduceLT, Nat.reducePow, if_neg q1, rd_k (n := 9) (show k < 9 by omega), (g2.2.1 k hk).1, if_pos c2, rf_f hf g5, u1]
      · by_cases c3 : j = i
        · subst c3; exact fun q => q c2
        · exact g6 j (by omega)
    · refine Or.inr ⟨.inl (y, nI i), ?_, nI i, y, Or.inl rfl, Or.inl ⟨i, hi, rfl, c2, g6⟩, g3⟩
      simp only [fX10_thick_40, bnd_s, pw_s, rd_0, rd_1, rd_2, rd_3, rd_4, rd_5, rd_6, wr_0, wr_1, wr_2, wr_3, wr_4, wr_5, zb_0, zb_1, Nat.reduceLT, Nat.reducePow, if_neg q1, rd_k (n := 9) (show k < 9 by omega), (g2.2.1 k hk).1, if_neg c2]) (by
    rintro ⟨y, n⟩ ⟨g1, g2, g3, g4, g5, g6⟩
    obtain rfl : n = nI 100 := g1
    refine ⟨.inr y, ?_, -1, y, Or.inr ⟨rfl, rfl⟩, Or.inr ⟨rfl, g6⟩, g3⟩
    simp only [fX10_thick_40]
    rw [if_pos (by decide)]) ⟨rfl, z2, z3, z4, z5, fun j hj => absurd hj (Nat.not_lt_zero j)⟩
  obtain ⟨v, y, hx, hv, hy⟩ := x2
  obtain ⟨w, w1, w2⟩ := lp_cnt (b := fX11_thick_51 (nI k) a2) (s := (r, -1, 0)) (Q := fun w => FirstV (fun n => ¬ aD (aDays M n A) k < a2) 100 w.2 ∧ ∃ B, TM M A B hm w.1) (fun i q => q.2.2 = nI i ∧ TM M A (aDays M i A) hm q.1 ∧ ((q.2.1 = -1 ∧ ∀ j, j < i → ¬ ¬ aD (aDays M j A) k < a2) ∨ (¬ q.2.1 = -1 ∧ FirstV (fun n => ¬ aD (aDays M n A) k < a2) 100 q.2.1))) 100 (by decide) (by
    rintro i ⟨y, b, n⟩ hi ⟨g1, g2, g3⟩
    obtain rfl : n = nI i := g1
    dsimp only at g2 g3
    have q1 : ¬ (99 : Int32) < nI i := nI_nlt (a := 99) (by omega) (by decide)
    rcases g3 with ⟨rfl, g3⟩ | ⟨g3, g4⟩
    · obtain ⟨u, u1, u2⟩ := g2.day hB (K := 999 + i) (hA.days hB i (by omega)) (by omega)
      by_cases c2 : aD (aDays M i A) k < a2
      · refine Or.inl ⟨(u, -1, nI i + 1), ?_, nI_1 i, u2, Or.inl ⟨rfl, fun j hj => ?_⟩⟩
        · simp only [fX11_thick_51, fX11_thick_76, bnd_s, pw_s, rd_0, rd_1, rd_2, rd_3, rd_4, rd_5, rd_6, wr_0, wr_1, wr_2, wr_3, wr_4, wr_5, zb_0, zb_1, Nat.reduceLT, Nat.reducePow, if_neg q1, if_true, rd_k (n := 9) (show k < 9 by omega), (g2.2.1.2.1 k hk).1, if_pos c2, u1]
        · by_cases c3 : j = i
          · subst c3; exact fun q => q c2
          · exact g3 j (by omega)
      · refine Or.inl ⟨(u, nI i, nI i + 1), ?_, nI_1 i, u2, Or.inr ⟨nI_m1ne (by omega), Or.inl ⟨i, hi, rfl, c2, g3⟩⟩⟩
        simp only [fX11_thick_51, fX11_thick_76, bnd_s, pw_s, rd_0, rd_1, rd_2, rd_3, rd_4, rd_5, rd_6, wr_0, wr_1, wr_2, wr_3, wr_4, wr_5, zb_0, zb_1, Nat.reduceLT, Nat.reducePow, if_neg q1, if_true, rd_k (n := 9) (show k < 9 by omega), (g2.2.1.2.1 k hk).1, if_neg c2, u1]
    · refine Or.inr ⟨(y, b), ?_, g4, _, g2⟩
      simp only [fX11_thick_51, if_neg q1, if_neg g3]) (by
    rintro ⟨y, b, n⟩ ⟨g1, g2, g3⟩
    obtain rfl : n = nI 100 := g1
    dsimp only at g2 g3
    refine ⟨(y, b), ?_, ?_, _, g2⟩
    · simp only [fX11_thick_51]
      rw [if_pos (by decide)]
    · rcases g3 with ⟨rfl, g3⟩ | ⟨g3, g4⟩
      · exact Or.inr ⟨rfl, g3⟩
      · exact g4) ⟨rfl, r2, Or.inl ⟨rfl, fun j hj => absurd hj (Nat.not_lt_zero j)⟩⟩
  obtain ⟨w2, B, w3⟩ := w2
  obtain ⟨u, u1, u2⟩ := w3.back hB.1.2.1 hB.1.2.2.2.2.2.2.2
  have ev : w.2 = v := w2.uniq hv
  refine Or.inl ⟨v, y, u, ?_, ?_, u2.2.2.2, Inv.ro h h2 hy u2⟩
  · have c1 : ¬ a2 < 0 := Int32.not_lt.mpr c.1
    rcases hx with rfl | ⟨rfl, rfl⟩ <;> simp only [fX10_thick, bnd_s, pw_s, rd_0, rd_1, rd_2, rd_3, rd_4, rd_5, rd_6, wr_0, wr_1, wr_2, wr_3, wr_4, wr_5, zb_0, zb_1, Nat.reduceLT, Nat.reducePow, e1, sm, if_neg c1, if_pos c.2, z1, x1]
  · simp only [fX11_thick, fX11_thick_86, bnd_s, pw_s, rd_0, rd_1, rd_2, rd_3, rd_4, rd_5, rd_6, wr_0, wr_1, wr_2, wr_3, wr_4, wr_5, zb_0, zb_1, Nat.reduceLT, Nat.reducePow, e2 _ (fm_up hF 2 0), show (0 : Int64) = (0 : Int32).toInt64 from rfl, show (9999 : Int64) = (9999 : Int32).toInt64 from rfl, isIn_y c.1 c.2, if_neg (show ¬ (1 : Int32) = 0 by decide), r1, w1, u1, ev]
theorem t_heresy {hc hm : ST} (hI : Inv hc hm) : ∃ y, s_heresy hc hm = some y ∧ Inv y.1 y.2 := by
  obtain ⟨f, M, A, h, h2⟩ := hI
  obtain ⟨hf, h0, hB, hF, hCF, hR, hR1, hA⟩ := id h
  have h9 := hB.1.2.1
  obtain ⟨z, z1, z2, z3, z4, z5⟩ := copyT h
  obtain ⟨r, r1, r2⟩ := beginM h
  obtain ⟨x, x1, x2⟩ := lp_cnt (b := fX10_heresy_16) (s := (z, 0)) (Q := fun x => ∃ v y, (x = .inl (y, v) ∨ (x = .inr y ∧ v = -1)) ∧ FirstV (fun n => ¬ herN M (aD (aDays M n A)) (nR M) = 0) 100 v ∧ KcE f hc y) (fun i q => q.2 = nI i ∧ RC 386 M (aDays M i A) q.1 ∧ KcE f hc q.1 ∧ CF f M q.1 ∧ q.1 0 3 = nI f ∧ ∀ j, j < i → ¬ ¬ herN M (aD (aDays M j A)) (nR M) = 0) 100 (by decide) (by
    rintro i ⟨y, n⟩ hi ⟨g1, g2, g3, g4, g5, g6⟩
    obtain rfl : n = nI i := g1
    dsimp only at g2 g3 g4 g5 g6
    have q1 : ¬ (99 : Int32) < nI i := nI_nlt (a := 99) (by omega) (by decide)
    by_cases c2 : herN M (aD (aDays M i A)) (nR M) = 0
    · obtain ⟨u, u1, u2, u3, u4, u5⟩ := oneC hf hB g4 g5 (K := 999 + i) (by omega) (hA.days hB i (by omega)) g2
      refine Or.inl ⟨(u, nI i + 1), ?_, nI_1 i, u2, g3.tr u3, u4, u5, fun j hj => ?_⟩
      · simp only [fX10_heresy_16, bnd_s, pw_s, rd_0, rd_1, rd_2, rd_3, rd_4, rd_5, rd_6, wr_0, wr_1, wr_2, wr_3, wr_4, wr_5, zb_0, zb_1, Nat.reduceLT, Nat.reducePow, if_neg q1, rf_f hf g5, herC hB g4 g2, if_pos c2, u1]
      · by_cases c3 : j = i
        · subst c3; exact fun q => q c2
        · exact g6 j (by omega)
    · refine Or.inr ⟨.inl (y, nI i), ?_, nI i, y, Or.inl rfl, Or.inl ⟨i, hi, rfl, c2, g6⟩, g3⟩
      simp only [fX10_heresy_16, bnd_s, pw_s, rd_0, rd_1, rd_2, rd_3, rd_4, rd_5, rd_6, wr_0, wr_1, wr_2, wr_3, wr_4, wr_5, zb_0, zb_1, Nat.reduceLT, Nat.reducePow, if_neg q1, rf_f hf g5, herC hB g4 g2, if_neg c2]) (by
    rintro ⟨y, n⟩ ⟨g1, g2, g3, g4, g5, g6⟩
    obtain rfl : n = nI 100 := g1
    refine ⟨.inr y, ?_, -1, y, Or.inr ⟨rfl, rfl⟩, Or.inr ⟨rfl, g6⟩, g3⟩
    simp only [fX10_heresy_16]
    rw [if_pos (by decide)]) ⟨rfl, z2, z3, z4, z5, fun j hj => absurd hj (Nat.not_lt_zero j)⟩
  obtain ⟨v, y, hx, hv, hy⟩ := x2
  obtain ⟨w, w1, w2⟩ := lp_cnt (b := fX11_heresy_18) (s := (r, -1, 0)) (Q := fun w => FirstV (fun n => ¬ herN M (aD (aDays M n A)) (nR M) = 0) 100 w.2 ∧ ∃ B, TM M A B hm w.1) (fun i q => q.2.2 = nI i ∧ TM M A (aDays M i A) hm q.1 ∧ ((q.2.1 = -1 ∧ ∀ j, j < i → ¬ ¬ herN M (aD (aDays M j A)) (nR M) = 0) ∨ (¬ q.2.1 = -1 ∧ FirstV (fun n => ¬ herN M (aD (aDays M n A)) (nR M) = 0) 100 q.2.1))) 100 (by decide) (by
    rintro i ⟨y, b, n⟩ hi ⟨g1, g2, g3⟩
    obtain rfl : n = nI i := g1
    dsimp only at g2 g3
    have q1 : ¬ (99 : Int32) < nI i := nI_nlt (a := 99) (by omega) (by decide)
    rcases g3 with ⟨rfl, g3⟩ | ⟨g3, g4⟩
    · obtain ⟨u, u1, u2⟩ := g2.day hB (K := 999 + i) (hA.days hB i (by omega)) (by omega)
      by_cases c2 : herN M (aD (aDays M i A)) (nR M) = 0
      · refine Or.inl ⟨(u, -1, nI i + 1), ?_, nI_1 i, u2, Or.inl ⟨rfl, fun j hj => ?_⟩⟩
        · simp only [fX11_heresy_18, fX11_heresy_38, bnd_s, pw_s, rd_0, rd_1, rd_2, rd_3, rd_4, rd_5, rd_6, wr_0, wr_1, wr_2, wr_3, wr_4, wr_5, zb_0, zb_1, Nat.reduceLT, Nat.reducePow, if_neg q1, if_true, herM hB g2.2.2.1 g2.2.1, if_pos c2, u1]
        · by_cases c3 : j = i
          · subst c3; exact fun q => q c2
          · exact g3 j (by omega)
      · refine Or.inl ⟨(u, nI i, nI i + 1), ?_, nI_1 i, u2, Or.inr ⟨nI_m1ne (by omega), Or.inl ⟨i, hi, rfl, c2, g3⟩⟩⟩
        simp only [fX11_heresy_18, fX11_heresy_38, bnd_s, pw_s, rd_0, rd_1, rd_2, rd_3, rd_4, rd_5, rd_6, wr_0, wr_1, wr_2, wr_3, wr_4, wr_5, zb_0, zb_1, Nat.reduceLT, Nat.reducePow, if_neg q1, if_true, herM hB g2.2.2.1 g2.2.1, if_neg c2, u1]
    · refine Or.inr ⟨(y, b), ?_, g4, _, g2⟩
      simp only [fX11_heresy_18, if_neg q1, if_neg g3]) (by
    rintro ⟨y, b, n⟩ ⟨g1, g2, g3⟩
    obtain rfl : n = nI 100 := g1
    dsimp only at g2 g3
    refine ⟨(y, b), ?_, ?_, _, g2⟩
    · simp only [fX11_heresy_18]
      rw [if_pos (by decide)]
    · rcases g3 with ⟨rfl, g3⟩ | ⟨g3, g4⟩
      · exact Or.inr ⟨rfl, g3⟩
      · exact g4) ⟨rfl, r2, Or.inl ⟨rfl, fun j hj => absurd hj (Nat.not_lt_zero j)⟩⟩
  obtain ⟨w2, B, w3⟩ := w2
  obtain ⟨u, u1, u2⟩ := w3.back hB.1.2.1 hB.1.2.2.2.2.2.2.2
  have ev : w.2 = v := w2.uniq hv
  have hi := (Inv.ro h h2 hy u2).hi (hc' := mg hc y) (fun i hi => by unfold mg; rw [if_pos (by omega)])
  refine ⟨(mg hc y, u), ?_, hi⟩
  unfold s_heresy
  rcases hx with rfl | ⟨rfl, rfl⟩ <;> simp only [fX10_heresy, fX11_heresy, fX11_heresy_48, bnd_s, pw_s, rd_0, rd_1, rd_2, rd_3, rd_4, rd_5, rd_6, wr_0, wr_1, wr_2, wr_3, wr_4, wr_5, zb_0, zb_1, Nat.reduceLT, Nat.reducePow, z1, x1, sm, r1, w1, u1, ev, if_true]
