/-! ===== parish: where a rule must end; its parts ===== -/
theorem signK {g : Nat} {B : Nat → Nat} {L : Nat} {h t : ST} {kd st en : Nat} (p : PR g B L h t kd st en) (c43 : sq B kd st 43 = false) (c45 : sq B kd st 45 = false) (c42 : sq B kd st 42 = false) (c47 : sq B kd st 47 = false) :
    fX6_signAtHand h = some (if sq B kd st 60 = true then -11 else if sq B kd st 61 = true then -12 else if (decide (kd = 1) && wq B 18 st en) = true then -14 else if (decide (kd = 1) && wq B 19 st en) = true then -15 else 0) := by
  have s43 : fX9_isSign h 43 = some 0 := (signC p.1 p.2.1 (v := 43) (by decide)).trans (by rw [c43]; rfl)
  have s45 : fX9_isSign h 45 = some 0 := (signC p.1 p.2.1 (v := 45) (by decide)).trans (by rw [c45]; rfl)
  have s42 : fX9_isSign h 42 = some 0 := (signC p.1 p.2.1 (v := 42) (by decide)).trans (by rw [c42]; rfl)
  have s47 : fX9_isSign h 47 = some 0 := (signC p.1 p.2.1 (v := 47) (by decide)).trans (by rw [c47]; rfl)
  have s60 : fX9_isSign h 60 = some (bz (sq B kd st 60)) := signC p.1 p.2.1 (v := 60) (by decide)
  have s61 : fX9_isSign h 61 = some (bz (sq B kd st 61)) := signC p.1 p.2.1 (v := 61) (by decide)
  have w18 := wordC p.1 p.2.1 (k := 18) (by decide)
  have w19 := wordC p.1 p.2.1 (k := 19) (by decide)
  have n1 : ¬ (1 : Int32) = 0 := by decide
  unfold fX6_signAtHand fX6_signAtHand_123
  rw [s43, bnd_s, if_pos rfl, s45, bnd_s, if_pos rfl, s42, bnd_s, if_pos rfl, s47, bnd_s, if_pos rfl, s60, bnd_s, s61, bnd_s, w18, bnd_s, w19, bnd_s]
  generalize sq B kd st 60 = b1
  generalize sq B kd st 61 = b2
  generalize (decide (kd = 1) && wq B 18 st en) = b3
  generalize (decide (kd = 1) && wq B 19 st en) = b4
  cases b1 <;> cases b2 <;> cases b3 <;> cases b4 <;> rfl
theorem noSign {B : Nat → Nat} {kd st a b : Nat} (h : sq B kd st a = true) (ne : a ≠ b) : sq B kd st b = false := by
  unfold sq at h ⊢
  rw [Bool.and_eq_true, decide_eq_true_eq, decide_eq_true_eq] at h
  rw [h.2]
  simp [ne]
theorem endSign {g : Nat} {B : Nat → Nat} {L : Nat} {h t : ST} {kd st en d nc l : Nat} {T S : List Int32} (p : PR g B L h t kd st en) (w : WTs g h (T ++ S)) (w80 : (T ++ S).length ≤ 80) (hc : h (g + 12) 1 = nI nc) (hn : nc + T.length ≤ 700) (h4 : h 40 4 = 0) (hd : h 40 2 = nI d) (d9 : d < 100) (hl : l ≤ 700) (nx : nxO B kd st en T) (c41 : sq B kd st 41 = false) (c59 : d = 0 → sq B kd st 59 = false) :
    ∃ h', fX6_read_21 (h, nI l) = some (.inr (.inr (.inl (h', 1)))) ∧ h' 39 = h 39 ∧ KG g h h' := by
  have g2 := p.2.2.2.2
  obtain ⟨⟨⟨⟨⟨c42, c47⟩, c43, c45⟩, t4⟩, c18⟩, c19⟩ := nx
  have s41 : fX9_isSign h 41 = some 0 := (signC p.1 p.2.1 (v := 41) (by decide)).trans (by rw [c41]; rfl)
  have n1 : ¬ (1 : Int32) = 0 := by decide
  have head : ∀ h', fX6_readSign h = some (1, h') → fX6_read_21 (h, nI l) = some (.inr (.inr (.inl (h', 1)))) := fun h' e => by
    have e61 : fX6_read_61 h (nI l) = some (.inr (.inr (.inl (h', 1)))) := by
      unfold fX6_read_61 fX6_read_79
      rw [if_pos h4, e, bnd_s]
      dsimp only
      rw [if_neg n1]
    unfold fX6_read_21
    dsimp only
    rw [if_neg (show ¬ 700 < nI l from nI_nlt (a := 700) hl (by decide)), if_pos h4]
    by_cases c : d = 0
    · have s59 : fX9_isSign h 59 = some 0 := (signC p.1 p.2.1 (v := 59) (by decide)).trans (by rw [c59 c]; rfl)
      rw [if_pos (show h 40 2 = 0 by rw [hd, c]; rfl), s59, bnd_s, if_pos rfl]; exact e61
    · rw [if_neg (show ¬ h 40 2 = 0 by rw [hd]; exact nI_ne0 (by omega) (by omega))]; exact e61
  have sk := signK p c43 c45 c42 c47
  rw [c18, c19, if_neg (show ¬ false = true by decide), if_neg (show ¬ false = true by decide)] at sk
  by_cases cc : sq B kd st 60 = true ∨ sq B kd st 61 = true
  · obtain ⟨P, x, Q, eT, hP, sx⟩ := t4 cc
    have w' : WTs g h (P ++ (x :: Q ++ S)) := by
      rw [eT, List.append_assoc] at w; exact w
    have len : (P ++ (x :: Q ++ S)).length = (T ++ S).length := by rw [eT, List.append_assoc]
    have pl : P.length ≤ T.length := by rw [eT, List.length_append]; omega
    obtain ⟨y, y1, y2, y3, y4, y5, y6, y7, y8⟩ := relC g2 (s := 5) (by decide) (by decide) w' hP (fun z u e => by
      rw [List.cons_append] at e
      injection e with e1 e2
      rw [← e1, sx]; decide) (by rw [len]; exact w80) hc (by omega)
    obtain ⟨z1, z2, z3⟩ := y2
    have l80 : (Q ++ S).length < 80 := by
      have : (P ++ (x :: Q ++ S)).length ≤ 80 := by rw [len]; exact w80
      simp only [List.length_append, List.length_cons] at this ⊢
      omega
    have sw : fX6_strengthWaiting y = some 4 := by
      have z2' : y 40 1 = nI ((Q ++ S).length + 1) := z2
      have z3' : y 41 (Q ++ S).length = x := z3.1
      unfold fX6_strengthWaiting fX6_strengthWaiting_25
      rw [z2', if_neg (nI_nle (by omega) (by omega)), nI_pred, rd_k (n := 80) l80, bnd_s, z3', sgC, bnd_s, sx]; rfl
    have y1' : fX6_release h 5 = some y := y1
    refine ⟨y, head y ?_, y6 39 (by simp only [List.mem_cons, List.not_mem_nil, or_false]; omega), KG.of y6 (fun i hi => by simp only [List.mem_cons, List.not_mem_nil, or_false] at hi; omega)⟩
    have st4 : ∀ v : Int32, v = -11 ∨ v = -12 → fX6_strengthOf h v = some 4 := fun v hv => by
      rw [sgC]
      rcases hv with rfl | rfl <;> rfl
    unfold fX6_readSign fX6_readSign_44
    rw [s41, bnd_s, if_pos rfl, sk, bnd_s]
    by_cases c60 : sq B kd st 60 = true
    · rw [if_pos c60, if_neg (show ¬ (-11 : Int32) = 0 by decide), st4 _ (Or.inl rfl), bnd_s, if_pos rfl, y1', bnd_s, if_pos rfl, sw, bnd_s, if_pos rfl]
    · rw [if_neg c60, if_pos (cc.resolve_left c60), if_neg (show ¬ (-12 : Int32) = 0 by decide), st4 _ (Or.inr rfl), bnd_s, if_pos rfl, y1', bnd_s, if_pos rfl, sw, bnd_s, if_pos rfl]
  · refine ⟨h, head h ?_, rfl, KG.rf⟩
    have n60 : ¬ sq B kd st 60 = true := fun z => cc (Or.inl z)
    have n61 : ¬ sq B kd st 61 = true := fun z => cc (Or.inr z)
    rw [if_neg n60, if_neg n61] at sk
    unfold fX6_readSign
    rw [s41, bnd_s, if_pos rfl, sk, bnd_s, if_pos rfl]
/-! words for values -/
theorem whichM {g : Nat} {B : Nat → Nat} {L : Nat} {h t : ST} {kd st en : Nat} (p : PR g B L h t kd st en) {o n c : Nat} (row : ∀ i, i < n → t o i = nI (c + i)) (hc : c + n ≤ 20) :
    (∃ i, i < n ∧ (decide (kd = 1) && wq B (c + i) st en) = true ∧ fX11_which t o n = some (nI i)) ∨ ((∀ i, i < n → (decide (kd = 1) && wq B (c + i) st en) = false) ∧ fX11_which t o n = some (-1)) := by
  obtain ⟨x, x1, x2⟩ : ∃ x, lp FU (fX11_which_2 t o n) 0 = some x ∧ ((∃ i, i < n ∧ x = .inl (nI i) ∧ (decide (kd = 1) && wq B (c + i) st en) = true) ∨ (x = .inr () ∧ ∀ i, i < n → (decide (kd = 1) && wq B (c + i) st en) = false)) := by
    refine lp_cnt (b := fX11_which_2 t o n) (fun i s => s = nI i ∧ ∀ j, j < i → (decide (kd = 1) && wq B (c + j) st en) = false) n (by omega) ?_ ?_ ⟨rfl, fun j hj => absurd hj (Nat.not_lt_zero j)⟩
    · rintro i s hi ⟨rfl, w⟩
      have q : ¬ Int32.ofNat n ≤ nI i := nI_ge hi (by omega)
      have sk' : sk (nI (c + i)) = some (c + i) := by
        unfold sk
        rw [nI_clamp (by omega), if_pos (show c + i < SN by unfold SN; omega)]
      have wm := wordM p.1 p.2.1 p.2.2.1 (k := c + i) (by omega)
      have hd : fX11_which_2 t o n (nI i) = if bz (decide (kd = 1) && wq B (c + i) st en) = 0 then some (.inl (nI i + 1)) else some (.inr (.inl (nI i))) := by
        unfold fX11_which_2
        rw [if_neg q, grd_p (nI_in hi (by omega)), nI_clamp (by omega), row i hi, sk', bnd_s, wm, bnd_s]
      cases b : (decide (kd = 1) && wq B (c + i) st en)
      · refine Or.inl ⟨nI (i + 1), ?_, rfl, fun j hj => ?_⟩
        · rw [hd, b, if_pos (show bz false = 0 from rfl), nI_1]
        · by_cases e : j = i
          · rw [e]; exact b
          · exact w j (by omega)
      · refine Or.inr ⟨.inl (nI i), ?_, Or.inl ⟨i, hi, rfl, b⟩⟩
        rw [hd, b, if_neg (show ¬ bz true = 0 by decide)]
    · rintro s ⟨rfl, w⟩
      refine ⟨.inr (), ?_, Or.inr ⟨rfl, w⟩⟩
      unfold fX11_which_2
      rw [if_pos (show Int32.ofNat n ≤ nI n from Int32.le_refl _)]
  rcases x2 with ⟨i, hi, rfl, b⟩ | ⟨rfl, b⟩
  · exact Or.inl ⟨i, hi, b, by unfold fX11_which; rw [x1, bnd_s]; rfl⟩
  · exact Or.inr ⟨b, by unfold fX11_which; rw [x1, bnd_s]; rfl⟩
theorem valC {g : Nat} {B : Nat → Nat} {L : Nat} {h t : ST} {kd st en : Nat} (p : PR g B L h t kd st en) :
    (∀ i, i < 6 → (decide (kd = 1) && wq B (12 + i) st en) = true → fX6_valueAtHand h = some ((-1) - nI i)) ∧ ((∀ i, i < 6 → (decide (kd = 1) && wq B (12 + i) st en) = false) → fX6_valueAtHand h = some 0) := by
  have wk : ∀ i, i < 6 → fX9_isWord h (12 + i) = some (bz (decide (kd = 1) && wq B (12 + i) st en)) := fun i hi => wordC p.1 p.2.1 (by omega)
  have w0 : fX9_isWord h 12 = _ := wk 0 (by decide)
  have w1 : fX9_isWord h 13 = _ := wk 1 (by decide)
  have w2 : fX9_isWord h 14 = _ := wk 2 (by decide)
  have w3 : fX9_isWord h 15 = _ := wk 3 (by decide)
  have w4 : fX9_isWord h 16 = _ := wk 4 (by decide)
  have w5 : fX9_isWord h 17 = _ := wk 5 (by decide)
  have n1 : ¬ (1 : Int32) = 0 := by decide
  have ex : ∀ i j, i < 6 → j < 6 → i ≠ j → (decide (kd = 1) && wq B (12 + i) st en) = true → (decide (kd = 1) && wq B (12 + j) st en) = false := fun i j hi hj ne hb => by
    rw [Bool.and_eq_true] at hb
    cases z : (decide (kd = 1) && wq B (12 + j) st en)
    · rfl
    · rw [Bool.and_eq_true] at z
      have := wq_one (show 12 + i < 20 by omega) (show 12 + j < 20 by omega) hb.2 z.2
      omega
  constructor
  · intro i hi hb
    have : i = 0 ∨ i = 1 ∨ i = 2 ∨ i = 3 ∨ i = 4 ∨ i = 5 := by omega
    unfold fX6_valueAtHand fX6_valueAtHand_92
    rcases this with rfl | rfl | rfl | rfl | rfl | rfl
    · rw [w0, hb, bnd_s, bz_t, if_neg n1]; rfl
    · rw [w0, ex 1 0 (by decide) (by decide) (by decide) hb, bnd_s, bz_f, if_pos rfl, w1, hb, bnd_s, bz_t, if_neg n1]; rfl
    · rw [w0, ex 2 0 (by decide) (by decide) (by decide) hb, bnd_s, bz_f, if_pos rfl, w1, ex 2 1 (by decide) (by decide) (by decide) hb, bnd_s, bz_f, if_pos rfl, w2, hb, bnd_s, bz_t, if_neg n1]; rfl
    · rw [w0, ex 3 0 (by decide) (by decide) (by decide) hb, bnd_s, bz_f, if_pos rfl, w1, ex 3 1 (by decide) (by decide) (by decide) hb, bnd_s, bz_f, if_pos rfl, w2, ex 3 2 (by decide) (by decide) (by decide) hb, bnd_s, bz_f, if_pos rfl, w3, hb, bnd_s, bz_t, if_neg n1]; rfl
    · rw [w0, ex 4 0 (by decide) (by decide) (by decide) hb, bnd_s, bz_f, if_pos rfl, w1, ex 4 1 (by decide) (by decide) (by decide) hb, bnd_s, bz_f, if_pos rfl, w2, ex 4 2 (by decide) (by decide) (by decide) hb, bnd_s, bz_f, if_pos rfl, w3, ex 4 3 (by decide) (by decide) (by decide) hb, bnd_s, bz_f, if_pos rfl, w4, hb, bnd_s, bz_t, if_neg n1]; rfl
    · rw [w0, ex 5 0 (by decide) (by decide) (by decide) hb, bnd_s, bz_f, if_pos rfl, w1, ex 5 1 (by decide) (by decide) (by decide) hb, bnd_s, bz_f, if_pos rfl, w2, ex 5 2 (by decide) (by decide) (by decide) hb, bnd_s, bz_f, if_pos rfl, w3, ex 5 3 (by decide) (by decide) (by decide) hb, bnd_s, bz_f, if_pos rfl, w4, ex 5 4 (by decide) (by decide) (by decide) hb, bnd_s, bz_f, if_pos rfl, w5, hb, bnd_s, bz_t, if_neg n1]; rfl
  · intro hb
    have h0 := hb 0 (by decide); have h1 := hb 1 (by decide); have h2 := hb 2 (by decide); have h3 := hb 3 (by decide); have h4 := hb 4 (by decide); have h5 := hb 5 (by decide)
    unfold fX6_valueAtHand fX6_valueAtHand_92
    rw [w0, h0, bnd_s, bz_f, if_pos rfl, w1, h1, bnd_s, bz_f, if_pos rfl, w2, h2, bnd_s, bz_f, if_pos rfl, w3, h3, bnd_s, bz_f, if_pos rfl, w4, h4, bnd_s, bz_f, if_pos rfl, w5, h5, bnd_s, bz_f, if_pos rfl]
