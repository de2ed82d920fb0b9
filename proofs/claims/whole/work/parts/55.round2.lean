/-! ===== round: the reference pushes ===== -/
def Em (n s m : Nat) (w : Nat → Nat → Nat) (X0 : Nat) (ρ : Nat → Nat) (X q : Nat) : Nat := if X = m &&& 2 ^ s ∧ q = s then 0 else if lv s m X q then (if nb X (2 ^ q) < X0 then F n s m w X q else if nb X (2 ^ q) = X0 then pmn (fun p => F n s m w X0 p) (fun p => w p q) (ρ q) else 1000000) else 1000000
theorem Em_self {n s m : Nat} {w : Nat → Nat → Nat} {X0 : Nat} {ρ : Nat → Nat} {q : Nat} (h : X0 < 512) : Em n s m w X0 ρ X0 q = F n s m w X0 q := by
  rw [F_eq h]
  unfold Em
  by_cases c : X0 = m &&& 2 ^ s ∧ q = s
  · rw [if_pos c, if_pos c]
  · rw [if_neg c, if_neg c]
    by_cases d : lv s m X0 q
    · rw [if_pos d, if_pos d, if_pos (nb_lt h d.2.2.1), F_eq h, if_neg c, if_pos d]
    · rw [if_neg d, if_neg d]
theorem Em_ρ {n s m : Nat} {w : Nat → Nat → Nat} {X0 : Nat} {ρ ρ' : Nat → Nat} {X q : Nat} (h : lv s m X q → nb X (2 ^ q) = X0 → ρ q = ρ' q) : Em n s m w X0 ρ X q = Em n s m w X0 ρ' X q := by
  unfold Em
  by_cases c : X = m &&& 2 ^ s ∧ q = s
  · rw [if_pos c, if_pos c]
  · rw [if_neg c, if_neg c]
    by_cases d : lv s m X q
    · rw [if_pos d, if_pos d]
      by_cases e : nb X (2 ^ q) < X0
      · rw [if_pos e, if_pos e]
      · rw [if_neg e, if_neg e]
        by_cases g : nb X (2 ^ q) = X0
        · rw [if_pos g, if_pos g, h d g]
        · rw [if_neg g, if_neg g]
    · rw [if_neg d, if_neg d]
theorem Em_next {n s m : Nat} {w : Nat → Nat → Nat} {X0 X q : Nat} (h : X < 512) : Em n s m w X0 (fun _ => n) X q = Em n s m w (X0 + 1) (fun _ => 0) X q := by
  unfold Em
  by_cases c : X = m &&& 2 ^ s ∧ q = s
  · rw [if_pos c, if_pos c]
  · rw [if_neg c, if_neg c]
    by_cases d : lv s m X q
    · rw [if_pos d, if_pos d]
      rcases Nat.lt_trichotomy (nb X (2 ^ q)) X0 with e | e | e
      · rw [if_pos e, if_pos (by omega)]
      · rw [if_neg (by omega), if_pos e, if_pos (by omega), F_eq h, if_neg c, if_pos d, e]
      · rw [if_neg (by omega), if_neg (by omega), if_neg (by omega)]
        by_cases g : nb X (2 ^ q) = X0 + 1
        · rw [if_pos g]; rfl
        · rw [if_neg g]
    · rw [if_neg d, if_neg d]
theorem lv_add {s m X0 j : Nat} (hs : s < 9) (hm : m < 512) (hX : X0 < 512) (hj : j < 9) (h1 : nb X0 m = 0) (h2 : X0 &&& (m &&& 2 ^ s) = m &&& 2 ^ s) (h3 : (nb m X0).testBit j = true) : lv s m (X0 ||| 2 ^ j) j ∧ nb (X0 ||| 2 ^ j) (2 ^ j) = X0 := by
  rw [nb_t hm, Bool.and_eq_true] at h3
  obtain ⟨a1, a2⟩ := h3
  have a3 : X0.testBit j = false := by cases c : X0.testBit j; rfl; rw [c] at a2; exact absurd a2 (by decide)
  have hO : X0 ||| 2 ^ j < 512 := or_l hX (pw_l j hj)
  have js : ¬ s = j := fun e => by
    subst e
    have := congrArg (fun x => x.testBit s) h2
    rw [Nat.testBit_and, Nat.testBit_and, a1, pw_t, a3] at this
    simp at this
  refine ⟨⟨(nb0 hO).mpr (fun i hi => ?_), ?_, ?_, ?_⟩, ?_⟩
  · rw [Nat.testBit_or, Bool.or_eq_true, pw_t] at hi
    rcases hi with q | q
    · exact (nb0 hX).mp h1 i q
    · rw [decide_eq_true_eq] at q; rw [← q]; exact a1
  · apply Nat.eq_of_testBit_eq
    intro i
    have := congrArg (fun x => x.testBit i) h2
    rw [Nat.testBit_and] at this
    rw [Nat.testBit_and, Nat.testBit_or]
    cases c : (m &&& 2 ^ s).testBit i
    · rw [Bool.and_false]
    · rw [c, Bool.and_true] at this
      rw [this]; rfl
  · rw [Nat.testBit_or, pw_t]; simp
  · rw [nb_t hm, a1, pw_t]; simp [js]
  · apply Nat.eq_of_testBit_eq
    intro i
    rw [nb_t hO, Nat.testBit_or, pw_t]
    by_cases c : j = i
    · subst c; rw [a3]; simp
    · simp [c]
def DT (n s m : Nat) (w : Nat → Nat → Nat) (X0 : Nat) (ρ : Nat → Nat) (t : ST) : Prop := ∀ X q, X < 512 → q < 9 → t 30 (9 * X + q) = nI (Em n s m w X0 ρ X q)
theorem DT.cong {n s m : Nat} {w : Nat → Nat → Nat} {X0 : Nat} {ρ ρ' : Nat → Nat} {t : ST} (h : DT n s m w X0 ρ t) (e : ∀ X q, X < 512 → q < 9 → lv s m X q → nb X (2 ^ q) = X0 → ρ q = ρ' q) : DT n s m w X0 ρ' t := fun X q hX hq => by rw [h X q hX hq, Em_ρ (e X q hX hq)]
/-- one source, all targets -/
theorem innM {n s m : Nat} (hn : n ≤ 9) (hs : s < 9) (hm : m < 512) {w : Nat → Nat → Nat} (hw : ∀ p q, w p q = 1000000 ∨ w p q < 10000) {h : ST} (h3 : h 3 0 = nI n) (hW : ∀ p q, p < n → q < n → h 26 (9 * p + q) = nI (w p q)) {X0 r : Nat} (hX : X0 < 512) (hr : r < n) (s1 : nb X0 m = 0) (s2 : X0 &&& (m &&& 2 ^ s) = m &&& 2 ^ s) (hv : F n s m w X0 r ≤ 90000) (p : Int32) {t : ST} (ht : Fr [30] h t) (hD : DT n s m w X0 (fun _ => r) t) :
    ∃ t', lp FU (fX11_round_167 (nI m) p (nI X0) (nI r) (nI (F n s m w X0 r))) (t, 0) = some t' ∧ Fr [30] h t' ∧ DT n s m w X0 (fun q => if q < n then r + 1 else r) t' := by
  refine lp_cnt (b := fX11_round_167 (nI m) p (nI X0) (nI r) (nI (F n s m w X0 r))) (fun j x => x.2 = nI j ∧ Fr [30] h x.1 ∧ DT n s m w X0 (fun q => if q < j then r + 1 else r) x.1) n (by omega) ?_ ?_ ⟨rfl, ht, hD.cong (fun X q _ _ _ _ => (if_neg (Nat.not_lt_zero q)).symm)⟩
  · rintro j ⟨x, y⟩ hj ⟨rfl, x1, x2⟩
    dsimp only at x1 x2
    have g3 : x 3 = h 3 := x1 3 (by decide)
    have g26 : x 26 (9 * r + j) = nI (w r j) := by rw [x1 26 (by decide)]; exact hW r j hr hj
    have qn := nI_ge hj (show n < 2 ^ 31 by omega)
    have e1 : nI m &&& (nI X0 ^^^ (-1)) = nI (nb m X0) := nb_k hm
    have hnb : nb m X0 < 512 := Nat.lt_of_le_of_lt (nb_le _ _) hm
    have io := isOf9 (h := x) hnb (show j < 9 by omega)
    have n1 : ¬ (1 : Int32) = 0 := by decide
    cases c : (nb m X0).testBit j
    · rw [c, if_neg (by decide)] at io
      refine Or.inl ⟨(x, nI (j + 1)), ?_, rfl, x1, x2.cong (fun X q hX' hq hl he => ?_)⟩
      · simp only [fX11_round_167, fX11_round_243, bnd_s, pw_s, rd_0, rd_1, rd_2, rd_3, rd_4, rd_5, rd_6, wr_0, wr_1, wr_2, wr_3, wr_4, wr_5, zb_0, zb_1, Nat.reduceLT, Nat.reducePow, g3, h3, if_neg qn, e1, io, if_true, nI_1]
      · by_cases d : q = j
        · subst d
          exfalso
          have b1 : m.testBit q = true := (nb0 hX').mp hl.1 q hl.2.2.1
          have b2 : X0.testBit q = false := by rw [← he, nb_t hX', pw_t]; simp
          rw [nb_t hm, b1, b2] at c
          exact absurd c (by decide)
        · by_cases e : q < j
          · rw [if_pos e, if_pos (by omega)]
          · rw [if_neg e, if_neg (by omega)]
    · obtain ⟨l1, l2⟩ := lv_add hs hm hX (show j < 9 by omega) s1 s2 c
      rw [c, if_pos rfl] at io
      have hO : X0 ||| 2 ^ j < 512 := or_l hX (pw_l j (by omega))
      have nc : ¬ (X0 ||| 2 ^ j = m &&& 2 ^ s ∧ j = s) := fun e => by
        have := l1.2.2.2
        rw [e.2, nb_t hm, pw_t] at this
        simp at this
      have ev : ∀ ρ, Em n s m w X0 ρ (X0 ||| 2 ^ j) j = pmn (fun p => F n s m w X0 p) (fun p => w p j) (ρ j) := fun ρ => by
        unfold Em
        rw [if_neg nc, if_pos l1, l2, if_neg (Nat.lt_irrefl _), if_pos rfl]
      have v35 := x2 (X0 ||| 2 ^ j) j hO (by omega)
      rw [ev, if_neg (Nat.lt_irrefl _)] at v35
      have ix : (9 : Int32) * (nI X0 ||| ((1 : Int32) <<< (nI j &&& 31))) + nI j = nI (9 * (X0 ||| 2 ^ j) + j) := by rw [shl_k j (by omega), or_k, show (9 : Int32) * nI (X0 ||| 2 ^ j) = nI (9 * (X0 ||| 2 ^ j)) from nI_mul 9 _, nI_add]
      have iw : (9 : Int32) * nI r + nI j = nI (9 * r + j) := by rw [show (9 : Int32) * nI r = nI (9 * r) from nI_mul 9 r, nI_add]
      have pl := pmn_le (D := fun p => F n s m w X0 p) (W := fun p => w p j) r
      have wb := hw r j
      have mn : (if nI (F n s m w X0 r) + nI (w r j) < nI (pmn (fun p => F n s m w X0 p) (fun p => w p j) r) then nI (F n s m w X0 r) + nI (w r j) else nI (pmn (fun p => F n s m w X0 p) (fun p => w p j) r)) = nI (pmn (fun p => F n s m w X0 p) (fun p => w p j) (r + 1)) := by
        rw [nI_add, nI_min (by omega) (by omega), Nat.min_comm]; rfl
      refine Or.inl ⟨(up2 x 30 (9 * (X0 ||| 2 ^ j) + j) (nI (pmn (fun p => F n s m w X0 p) (fun p => w p j) (r + 1))), nI (j + 1)), ?_, rfl, x1.up (by decide), fun X q hX' hq => ?_⟩
      · simp only [fX11_round_167, fX11_round_243, bnd_s, pw_s, rd_0, rd_1, rd_2, rd_3, rd_4, rd_5, rd_6, wr_0, wr_1, wr_2, wr_3, wr_4, wr_5, zb_0, zb_1, Nat.reduceLT, Nat.reducePow, g3, h3, if_neg qn, e1, io, if_neg n1, ix, rd_k (n := 4608) (show 9 * (X0 ||| 2 ^ j) + j < 4608 by omega), v35, iw, rd_k (n := 81) (show 9 * r + j < 81 by omega), g26, mn, wr_k (n := 4608) (show 9 * (X0 ||| 2 ^ j) + j < 4608 by omega), nI_1]
      · dsimp only
        rw [up2_s]
        by_cases d : X = X0 ||| 2 ^ j ∧ q = j
        · obtain ⟨rfl, rfl⟩ := d
          rw [upd_s, ev, if_pos (by omega)]
        · rw [upd_n (by omega), x2 X q hX' hq]
          congr 1
          refine Em_ρ (fun hl he => ?_)
          by_cases e : q = j
          · exfalso
            refine d ⟨?_, e⟩
            subst e
            apply Nat.eq_of_testBit_eq
            intro i
            rw [Nat.testBit_or, ← he, nb_t hX', pw_t]
            by_cases u : q = i
            · subst u; rw [hl.2.2.1]; simp
            · simp [u]
          · by_cases u : q < j
            · rw [if_pos u, if_pos (by omega)]
            · rw [if_neg u, if_neg (by omega)]
  · rintro ⟨x, y⟩ ⟨rfl, x1, x2⟩
    dsimp only at x1
    have g3 : x 3 = h 3 := x1 3 (by decide)
    exact ⟨x, by simp only [fX11_round_167, bnd_s, pw_s, rd_0, rd_1, rd_2, rd_3, rd_4, rd_5, rd_6, wr_0, wr_1, wr_2, wr_3, wr_4, wr_5, zb_0, zb_1, Nat.reduceLT, Nat.reducePow, g3, h3, Int32.le_refl, if_true], x1, x2⟩
theorem lp_1 {σ ρ : Type} {b : σ → Option (σ ⊕ ρ)} {s : σ} {r : ρ} (h : b s = some (.inr r)) : lp FU b s = some r := by
  obtain ⟨x, h1, h2⟩ := lp_cnt (b := b) (s := s) (Q := fun x => x = r) (fun _ t => t = s) 0 (by decide) (fun i _ hi => absurd hi (Nat.not_lt_zero i)) (fun t ht => ⟨r, by rw [ht]; exact h, rfl⟩) rfl
  rw [h1, h2]
/-- one set, all sources -/
theorem setM {n s m : Nat} (hn : n ≤ 9) (n1 : 1 ≤ n) (hs : s < 9) (hm : m < 512) (hmn : ∀ q, m.testBit q = true → q < n) {w : Nat → Nat → Nat} (hw : ∀ p q, w p q = 1000000 ∨ w p q < 10000) {h : ST} (h3 : h 3 0 = nI n) (hW : ∀ p q, p < n → q < n → h 26 (9 * p + q) = nI (w p q)) {X0 : Nat} (hX : X0 < 512) {t : ST} (ht : Fr [30] h t) (hD : DT n s m w X0 (fun _ => 0) t) :
    ∃ t', lp FU (fX11_round_105 (nI m) (nI X0)) (t, nI 1000000, 0) = some (t', nI (if X0 = m then pmn (fun p => F n s m w m p) (fun _ => 0) n else 1000000)) ∧ Fr [30] h t' ∧ DT n s m w (X0 + 1) (fun _ => 0) t' := by
  have esub : (nI X0 &&& (nI m ^^^ (-1)) = 0) ↔ nb X0 m = 0 := by
    rw [nb_k hX]
    exact nI_eq (b := 0) (by have := nb_le X0 m; omega) (by decide)
  by_cases sub : nb X0 m = 0
  rotate_left
  · refine ⟨t, ?_, ht, fun X q hX' hq => ?_⟩
    · have g3 : t 3 = h 3 := ht 3 (by decide)
      have qn : ¬ nI n ≤ 0 := nI_ge (a := 0) (by omega) (by omega)
      have ne : ¬ X0 = m := fun e => sub (by rw [e]; exact (nb0 hm).mpr (fun _ x => x))
      rw [if_neg ne]
      refine lp_1 (b := fX11_round_105 (nI m) (nI X0)) ?_
      simp only [fX11_round_105, bnd_s, pw_s, rd_0, rd_1, rd_2, rd_3, rd_4, rd_5, rd_6, wr_0, wr_1, wr_2, wr_3, wr_4, wr_5, zb_0, zb_1, Nat.reduceLT, Nat.reducePow, g3, h3, if_neg qn, if_neg (fun x => sub (esub.mp x))]
    · rw [hD X q hX' hq, ← Em_next hX']
      congr 1
      refine Em_ρ (fun hl he => ?_)
      exfalso
      apply sub
      rw [← he]
      refine (nb0 (Nat.lt_of_le_of_lt (nb_le _ _) hX')).mpr (fun i hi => (nb0 hX').mp hl.1 i ?_)
      rw [nb_t hX', Bool.and_eq_true] at hi
      exact hi.1
  obtain ⟨G, eG⟩ : ∃ G : Nat → Nat, G = fun r => if X0 = m then pmn (fun p => F n s m w m p) (fun _ => 0) r else 1000000 := ⟨_, rfl⟩
  have main : ∃ z, lp FU (fX11_round_105 (nI m) (nI X0)) (t, nI 1000000, 0) = some z ∧ z.2 = nI (G n) ∧ Fr [30] h z.1 ∧ DT n s m w X0 (fun _ => n) z.1 := by
    refine lp_cnt (b := fX11_round_105 (nI m) (nI X0)) (fun r x => x.2.2 = nI r ∧ x.2.1 = nI (G r) ∧ Fr [30] h x.1 ∧ DT n s m w X0 (fun _ => r) x.1) n (by omega) ?_ ?_ ⟨rfl, ?_, ht, hD⟩
    · rintro r ⟨x, b, y⟩ hr ⟨rfl, rfl, x1, x2⟩
      dsimp only at x1 x2
      have g3 : x 3 = h 3 := x1 3 (by decide)
      have qn := nI_ge hr (show n < 2 ^ 31 by omega)
      have ix : (9 : Int32) * nI X0 + nI r = nI (9 * X0 + r) := by rw [show (9 : Int32) * nI X0 = nI (9 * X0) from nI_mul 9 X0, nI_add]
      have v25 := x2 X0 r hX (by omega)
      rw [Em_self hX] at v25
      have fb := F_b (n := n) hs hm hw r hX
      have Gm : G r ≤ 1000000 := by
        rw [eG]
        dsimp only
        by_cases e : X0 = m
        · rw [if_pos e]; exact pmn_le r
        · rw [if_neg e]; omega
      by_cases c : F n s m w X0 r = 1000000
      · have lt : ¬ nI (F n s m w X0 r) < 1000000 := by rw [c]; decide
        refine Or.inl ⟨(x, nI (G (r + 1)), nI (r + 1)), ?_, rfl, rfl, x1, fun X q hX' hq => ?_⟩
        · have eg : G (r + 1) = G r := by
            rw [eG]
            dsimp only
            by_cases e : X0 = m
            · rw [if_pos e, if_pos e]
              show min _ (F n s m w m r + 0) = _
              have c' : F n s m w m r = 1000000 := by rw [e] at c; exact c
              rw [c']
              have := pmn_le (D := fun p => F n s m w m p) (W := fun _ => 0) r
              omega
            · rw [if_neg e, if_neg e]
          rw [eg]
          simp only [fX11_round_105, fX11_round_249, bnd_s, pw_s, rd_0, rd_1, rd_2, rd_3, rd_4, rd_5, rd_6, wr_0, wr_1, wr_2, wr_3, wr_4, wr_5, zb_0, zb_1, Nat.reduceLT, Nat.reducePow, g3, h3, if_neg qn, if_pos (esub.mpr sub), ix, rd_k (n := 4608) (show 9 * X0 + r < 4608 by omega), v25, if_neg lt, nI_1]
        · dsimp only
          rw [x2 X q hX' hq]
          congr 1
          unfold Em
          by_cases u : X = m &&& 2 ^ s ∧ q = s
          · rw [if_pos u, if_pos u]
          · rw [if_neg u, if_neg u]
            by_cases d : lv s m X q
            · rw [if_pos d, if_pos d]
              by_cases e : nb X (2 ^ q) < X0
              · rw [if_pos e, if_pos e]
              · rw [if_neg e, if_neg e]
                by_cases g : nb X (2 ^ q) = X0
                · rw [if_pos g, if_pos g]
                  show pmn (fun p => F n s m w X0 p) (fun p => w p q) r = min (pmn (fun p => F n s m w X0 p) (fun p => w p q) r) (F n s m w X0 r + w r q)
                  have := pmn_le (D := fun p => F n s m w X0 p) (W := fun p => w p q) r
                  omega
                · rw [if_neg g, if_neg g]
            · rw [if_neg d, if_neg d]
      · have fl : F n s m w X0 r ≤ 90000 := fb.resolve_left c
        have lt : nI (F n s m w X0 r) < 1000000 := nI_lt (b := 1000000) (by omega) (by decide)
        have s2 : X0 &&& (m &&& 2 ^ s) = m &&& 2 ^ s := by
          rw [F_eq hX] at c
          by_cases u : X0 = m &&& 2 ^ s ∧ r = s
          · rw [u.1, Nat.and_self]
          · rw [if_neg u] at c
            by_cases d : lv s m X0 r
            · exact d.2.1
            · rw [if_neg d] at c; exact absurd rfl c
        by_cases e : X0 = m
        · obtain ⟨y, y1, y2, y3⟩ := innM hn hs hm hw h3 hW hX hr sub s2 fl (nI (G (r + 1))) x1 x2
          refine Or.inl ⟨(y, nI (G (r + 1)), nI (r + 1)), ?_, rfl, rfl, y2, y3.cong (fun X q hX' hq hl he => ?_)⟩
          · have eg : (if nI (F n s m w X0 r) < nI (G r) then nI (F n s m w X0 r) else nI (G r)) = nI (G (r + 1)) := by
              rw [nI_min (by omega) (by omega), eG]
              dsimp only
              rw [if_pos e, if_pos e, Nat.min_comm, e]
              rfl
            have em : nI X0 = nI m := by rw [e]
            simp only [fX11_round_105, fX11_round_164, fX11_round_249, bnd_s, pw_s, rd_0, rd_1, rd_2, rd_3, rd_4, rd_5, rd_6, wr_0, wr_1, wr_2, wr_3, wr_4, wr_5, zb_0, zb_1, Nat.reduceLT, Nat.reducePow, g3, h3, if_neg qn, if_pos (esub.mpr sub), ix, rd_k (n := 4608) (show 9 * X0 + r < 4608 by omega), v25, if_pos lt, if_pos em, eg, y1, nI_1]
          · rw [if_pos (hmn q ((nb0 hX').mp hl.1 q hl.2.2.1))]
        · obtain ⟨y, y1, y2, y3⟩ := innM hn hs hm hw h3 hW hX hr sub s2 fl (nI (G r)) x1 x2
          refine Or.inl ⟨(y, nI (G (r + 1)), nI (r + 1)), ?_, rfl, rfl, y2, y3.cong (fun X q hX' hq hl he => ?_)⟩
          · have eg : G (r + 1) = G r := by
              rw [eG]
              dsimp only
              rw [if_neg e, if_neg e]
            have em : ¬ nI X0 = nI m := fun u => e ((nI_eq (by omega) (by omega)).mp u)
            rw [eg]
            simp only [fX11_round_105, fX11_round_164, fX11_round_249, bnd_s, pw_s, rd_0, rd_1, rd_2, rd_3, rd_4, rd_5, rd_6, wr_0, wr_1, wr_2, wr_3, wr_4, wr_5, zb_0, zb_1, Nat.reduceLT, Nat.reducePow, g3, h3, if_neg qn, if_pos (esub.mpr sub), ix, rd_k (n := 4608) (show 9 * X0 + r < 4608 by omega), v25, if_pos lt, if_neg em, y1, nI_1]
          · rw [if_pos (hmn q ((nb0 hX').mp hl.1 q hl.2.2.1))]
    · rintro ⟨x, b, y⟩ ⟨rfl, rfl, x1, x2⟩
      dsimp only at x1
      have g3 : x 3 = h 3 := x1 3 (by decide)
      exact ⟨(x, nI (G n)), by simp only [fX11_round_105, bnd_s, pw_s, rd_0, rd_1, rd_2, rd_3, rd_4, rd_5, rd_6, wr_0, wr_1, wr_2, wr_3, wr_4, wr_5, zb_0, zb_1, Nat.reduceLT, Nat.reducePow, g3, h3, Int32.le_refl, if_true], rfl, x1, x2⟩
    · show nI 1000000 = nI (G 0)
      rw [eG]
      by_cases e : X0 = m
      · dsimp only; rw [if_pos e]; rfl
      · dsimp only; rw [if_neg e]
  obtain ⟨⟨z, b⟩, z1, rfl, z2, z3⟩ := main
  dsimp only at z2 z3
  rw [eG] at z1
  exact ⟨z, z1, z2, fun X q hX' hq => by rw [z3 X q hX' hq, Em_next hX']⟩
