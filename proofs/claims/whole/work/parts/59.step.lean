/-! ===== parish: the next token ===== -/
def BY (B : Nat → Nat) (L : Nat) (h t : ST) : Prop := L ≤ 700 ∧ ∀ i, i < L → B i < 256 ∧ h 1 i = sbt (B i) ∧ t 18 i = nI (B i)
theorem BY.kept {B : Nat → Nat} {L : Nat} {h t h' t' : ST} (b : BY B L h t) (e1 : h' 1 = h 1) (e2 : t' 18 = t 18) : BY B L h' t' := by
  unfold BY
  rw [e1, e2]
  exact b
def NB (h t : ST) (st en : Nat) : Prop := (en - st ≤ 4 ∧ h 39 3 = 0 ∧ ∃ v, v ≤ 9999 ∧ h 39 2 = nI v ∧ t 0 23 = nI v) ∨ (4 < en - st ∧ h 39 3 = 1)
def TR (L : Nat) (h t : ST) (kd st en : Nat) : Prop := (h 39 5 = nI L ∧ t 0 21 = nI L) ∧ (h 39 4 = nI en ∧ t 0 20 = nI en ∧ t 0 25 = nI en) ∧ (h 39 1 = nI st ∧ t 0 24 = nI st) ∧ (h 39 0 = nI kd ∧ t 0 22 = nI kd) ∧ (st ≤ en ∧ en ≤ L ∧ kd ≤ 4) ∧ (kd = 0 → st = L) ∧ (kd ≠ 0 → st < en) ∧ (kd = 2 → NB h t st en)
def TKs : List Nat := [20, 22, 23, 24, 25]
theorem byteM_y {B : Nat → Nat} {L q : Nat} {h t : ST} (b : BY B L h t) (h21 : t 0 21 = nI L) (hq : q < L) : fX11_byteAt t (nI q) = some (nI (B q)) := by
  have := b.1
  unfold fX11_byteAt fX11_byteAt_18
  rw [h21, if_neg (nI_ge hq (by omega)), rd_k (n := 700) (show q < 700 by omega), bnd_s, (b.2 q hq).2.2]
theorem byteM_n {L : Nat} {t : ST} (h21 : t 0 21 = nI L) : fX11_byteAt t (nI L) = some (-1) := by
  unfold fX11_byteAt fX11_byteAt_18
  rw [h21, if_pos (Int32.le_refl _)]
/-- blanks -/
theorem skipR {B : Nat → Nat} {L p : Nat} {h t : ST} (b : BY B L h t) (c5 : h 39 5 = nI L) (m5 : t 0 21 = nI L) (c4 : h 39 4 = nI p) (m4 : t 0 20 = nI p) (hp : p ≤ L) :
    ∃ x y q, lp FU fX9_step_0 h = some x ∧ lp FU fX11_stepOn_0 t = some y ∧ p ≤ q ∧ q ≤ L ∧ x 39 4 = nI q ∧ y 0 20 = nI q ∧ Fr [39] h x ∧ Fs 39 [4] h x ∧ Fr [0] t y ∧ Fs 0 [20] t y := by
  have L7 := b.1
  obtain ⟨x, y, x1, y1, q, r⟩ := lp2_cnt (b1 := fX9_step_0) (b2 := fX11_stepOn_0) (s := h) (t := t) (Q := fun x y => ∃ q, p ≤ q ∧ q ≤ L ∧ x 39 4 = nI q ∧ y 0 20 = nI q ∧ Fr [39] h x ∧ Fs 39 [4] h x ∧ Fr [0] t y ∧ Fs 0 [20] t y) (fun i x y => x 39 4 = nI (p + i) ∧ y 0 20 = nI (p + i) ∧ Fr [39] h x ∧ Fs 39 [4] h x ∧ Fr [0] t y ∧ Fs 0 [20] t y) (L - p) (by omega) (by
    rintro i x y hi ⟨e1, e2, f1, f2, f3, f4⟩
    have b' : BY B L x y := b.kept (f1 1 (by decide)) (f3 18 (by decide))
    have x5 : x 39 5 = nI L := (f2 5 (by decide)).trans c5
    have y5 : y 0 21 = nI L := (f4 21 (by decide)).trans m5
    have qn := nI_ge (show p + i < L by omega) (show L < 2 ^ 31 by omega)
    obtain ⟨b1, b2, b3⟩ := b'.2 (p + i) (by omega)
    have bm := byteM_y b' y5 (show p + i < L by omega)
    have bb := (by_bl (B (p + i)) b1).2
    have bc := blC (h := x) b1
    cases c : isBl (B (p + i))
    · rw [c] at bb bc
      refine Or.inr ⟨x, y, ?_, ?_, p + i, by omega, by omega, e1, e2, f1, f2, f3, f4⟩
      · unfold fX9_step_0
        rw [x5, e1, if_neg qn, rd_k (n := 700) (show p + i < 700 by omega), bnd_s, b2, bc, bnd_s, if_neg (show ¬ false = true by decide), if_pos rfl]
      · unfold fX11_stepOn_0
        rw [e2, bm, bnd_s, if_neg (fun z => absurd (bb.mp (Or.inl z)) (by decide)), bnd_s, if_neg (fun z => absurd (bb.mp (Or.inr z)) (by decide))]
    · rw [c] at bb bc
      refine Or.inl ⟨up2 x 39 4 (nI (p + (i + 1))), up2 y 0 20 (nI (p + (i + 1))), ?_, ?_, up2_ss _ _ _ _, up2_ss _ _ _ _, f1.up (by decide), f2.up (by decide), f3.up (by decide), f4.up (by decide)⟩
      · unfold fX9_step_0
        rw [x5, e1, if_neg qn, rd_k (n := 700) (show p + i < 700 by omega), bnd_s, b2, bc, bnd_s, if_pos rfl, if_neg (show ¬ (1 : Int32) = 0 by decide), pw_s, bnd_s, nI_1, Nat.add_assoc]
      · have st : fX11_stepOn_26 y = some (.inl (up2 y 0 20 (nI (p + (i + 1))))) := by
          unfold fX11_stepOn_26
          rw [e2, pw_s, bnd_s, nI_1, Nat.add_assoc]
        unfold fX11_stepOn_0
        rw [e2, bm, bnd_s]
        by_cases d : nI (B (p + i)) = 32
        · rw [if_pos d]; exact st
        · rw [if_neg d, bnd_s, if_pos ((bb.mpr rfl).resolve_left d)]; exact st) (by
    rintro x y ⟨e1, e2, f1, f2, f3, f4⟩
    have x5 : x 39 5 = nI L := (f2 5 (by decide)).trans c5
    have y5 : y 0 21 = nI L := (f4 21 (by decide)).trans m5
    rw [show p + (L - p) = L by omega] at e1 e2
    refine ⟨x, y, ?_, ?_, L, hp, Nat.le_refl _, e1, e2, f1, f2, f3, f4⟩
    · unfold fX9_step_0
      rw [x5, e1, if_pos (Int32.le_refl _)]
    · unfold fX11_stepOn_0
      rw [e2, byteM_n y5, bnd_s, if_neg (by decide), bnd_s, if_neg (by decide)]) ⟨c4, m4, Fr.rf, Fs.rf, Fr.rf, Fs.rf⟩
  exact ⟨x, y, q, x1, y1, r⟩
/-- a word's letters -/
theorem wordR {B : Nat → Nat} {L p : Nat} {h t : ST} (b : BY B L h t) (c5 : h 39 5 = nI L) (m5 : t 0 21 = nI L) (c4 : h 39 4 = nI p) (m4 : t 0 20 = nI p) (hp : p < L) (hl : isLt (B p) = true) :
    ∃ x y q, lp FU fX9_step_86 h = some x ∧ lp FU fX11_stepOn_76 t = some y ∧ p < q ∧ q ≤ L ∧ x 39 4 = nI q ∧ y 0 20 = nI q ∧ Fr [39] h x ∧ Fs 39 [4] h x ∧ Fr [0] t y ∧ Fs 0 [20] t y := by
  have L7 := b.1
  obtain ⟨x, y, x1, y1, q, r⟩ := lp2_cnt (b1 := fX9_step_86) (b2 := fX11_stepOn_76) (s := h) (t := t) (Q := fun x y => ∃ q, p < q ∧ q ≤ L ∧ x 39 4 = nI q ∧ y 0 20 = nI q ∧ Fr [39] h x ∧ Fs 39 [4] h x ∧ Fr [0] t y ∧ Fs 0 [20] t y) (fun i x y => x 39 4 = nI (p + i) ∧ y 0 20 = nI (p + i) ∧ Fr [39] h x ∧ Fs 39 [4] h x ∧ Fr [0] t y ∧ Fs 0 [20] t y) (L - p) (by omega) (by
    rintro i x y hi ⟨e1, e2, f1, f2, f3, f4⟩
    have b' : BY B L x y := b.kept (f1 1 (by decide)) (f3 18 (by decide))
    have x5 : x 39 5 = nI L := (f2 5 (by decide)).trans c5
    have y5 : y 0 21 = nI L := (f4 21 (by decide)).trans m5
    have qn := nI_ge (show p + i < L by omega) (show L < 2 ^ 31 by omega)
    obtain ⟨b1, b2, b3⟩ := b'.2 (p + i) (by omega)
    have bm := byteM_y b' y5 (show p + i < L by omega)
    have lc := letC (h := x) b1
    have lm := letM (h := y) b1
    cases c : isLt (B (p + i))
    · rw [c, if_neg (by decide)] at lc lm
      have i0 : 0 < i := by
        refine Nat.pos_of_ne_zero (fun z => ?_)
        rw [z, Nat.add_zero, hl] at c
        exact absurd c (by decide)
      refine Or.inr ⟨x, y, ?_, ?_, p + i, by omega, by omega, e1, e2, f1, f2, f3, f4⟩
      · unfold fX9_step_86
        rw [x5, e1, if_neg qn, rd_k (n := 700) (show p + i < 700 by omega), bnd_s, b2, lc, bnd_s, if_pos rfl]
      · unfold fX11_stepOn_76
        rw [e2, bm, bnd_s, lm, bnd_s, if_pos rfl]
    · rw [c, if_pos rfl] at lc lm
      refine Or.inl ⟨up2 x 39 4 (nI (p + (i + 1))), up2 y 0 20 (nI (p + (i + 1))), ?_, ?_, up2_ss _ _ _ _, up2_ss _ _ _ _, f1.up (by decide), f2.up (by decide), f3.up (by decide), f4.up (by decide)⟩
      · unfold fX9_step_86
        rw [x5, e1, if_neg qn, rd_k (n := 700) (show p + i < 700 by omega), bnd_s, b2, lc, bnd_s, if_neg (show ¬ (1 : Int32) = 0 by decide), pw_s, bnd_s, nI_1, Nat.add_assoc]
      · unfold fX11_stepOn_76
        rw [e2, bm, bnd_s, lm, bnd_s, if_neg (show ¬ (1 : Int32) = 0 by decide), pw_s, bnd_s, nI_1, Nat.add_assoc]) (by
    rintro x y ⟨e1, e2, f1, f2, f3, f4⟩
    have x5 : x 39 5 = nI L := (f2 5 (by decide)).trans c5
    have y5 : y 0 21 = nI L := (f4 21 (by decide)).trans m5
    rw [show p + (L - p) = L by omega] at e1 e2
    refine ⟨x, y, ?_, ?_, L, hp, Nat.le_refl _, e1, e2, f1, f2, f3, f4⟩
    · unfold fX9_step_86
      rw [x5, e1, if_pos (Int32.le_refl _)]
    · unfold fX11_stepOn_76
      rw [e2, byteM_n y5, bnd_s, (digM1 y).2, bnd_s, if_pos rfl]) ⟨c4, m4, Fr.rf, Fs.rf, Fr.rf, Fs.rf⟩
  exact ⟨x, y, q, x1, y1, r⟩
theorem p10 : ∀ i, i < 5 → 10 ^ i ≤ 10000 := by decide
/-- a number's digits -/
theorem numbR {B : Nat → Nat} {L p : Nat} {h t : ST} (b : BY B L h t) (c5 : h 39 5 = nI L) (m5 : t 0 21 = nI L) (c4 : h 39 4 = nI p) (m4 : t 0 20 = nI p) (c1 : h 39 1 = nI p) (c2 : h 39 2 = 0) (m2 : t 0 23 = 0) (hp : p < L) (hl : isDg (B p) = true) :
    ∃ x y q, lp FU fX9_takeNumber_5 h = some x ∧ lp FU fX11_stepOn_123 t = some y ∧ p < q ∧ q ≤ L ∧ x 39 4 = nI q ∧ y 0 20 = nI q ∧ Fr [39] h x ∧ Fs 39 [2, 4] h x ∧ Fr [0] t y ∧ Fs 0 [20, 23] t y ∧ ((q - p ≤ 4 ∧ ∃ v, v ≤ 9999 ∧ x 39 2 = nI v ∧ y 0 23 = nI v) ∨ 4 < q - p) := by
  have L7 := b.1
  obtain ⟨x, y, x1, y1, q, r⟩ := lp2_cnt (b1 := fX9_takeNumber_5) (b2 := fX11_stepOn_123) (s := h) (t := t) (Q := fun x y => ∃ q, p < q ∧ q ≤ L ∧ x 39 4 = nI q ∧ y 0 20 = nI q ∧ Fr [39] h x ∧ Fs 39 [2, 4] h x ∧ Fr [0] t y ∧ Fs 0 [20, 23] t y ∧ ((q - p ≤ 4 ∧ ∃ v, v ≤ 9999 ∧ x 39 2 = nI v ∧ y 0 23 = nI v) ∨ 4 < q - p)) (fun i x y => x 39 4 = nI (p + i) ∧ y 0 20 = nI (p + i) ∧ Fr [39] h x ∧ Fs 39 [2, 4] h x ∧ Fr [0] t y ∧ Fs 0 [20, 23] t y ∧ ((i ≤ 4 ∧ ∃ v, v < 10 ^ i ∧ x 39 2 = nI v ∧ y 0 23 = nI v) ∨ 4 < i)) (L - p) (by omega) (by
    rintro i x y hi ⟨e1, e2, f1, f2, f3, f4, nv⟩
    have b' : BY B L x y := b.kept (f1 1 (by decide)) (f3 18 (by decide))
    have x5 : x 39 5 = nI L := (f2 5 (by decide)).trans c5
    have xs : x 39 1 = nI p := (f2 1 (by decide)).trans c1
    have y5 : y 0 21 = nI L := (f4 21 (by decide)).trans m5
    have qn := nI_ge (show p + i < L by omega) (show L < 2 ^ 31 by omega)
    obtain ⟨b1, b2, b3⟩ := b'.2 (p + i) (by omega)
    have bm := byteM_y b' y5 (show p + i < L by omega)
    have lc := digC (h := x) b1
    have lm := digM (h := y) b1
    have sb : nI (p + i) - nI p = nI i := by rw [nI_sub (by omega)]; congr 1; omega
    cases c : isDg (B (p + i))
    · rw [c, if_neg (by decide)] at lc lm
      have i0 : 0 < i := by
        refine Nat.pos_of_ne_zero (fun z => ?_)
        rw [z, Nat.add_zero, hl] at c
        exact absurd c (by decide)
      refine Or.inr ⟨x, y, ?_, ?_, p + i, by omega, by omega, e1, e2, f1, f2, f3, f4, ?_⟩
      · unfold fX9_takeNumber_5
        rw [x5, e1, if_neg qn, rd_k (n := 700) (show p + i < 700 by omega), bnd_s, b2, lc, bnd_s, if_pos rfl]
      · unfold fX11_stepOn_123
        rw [e2, bm, bnd_s, lm, bnd_s, if_pos rfl]
      · rw [show p + i - p = i by omega]
        rcases nv with ⟨n1, v, n2, n3⟩ | n1
        · have := p10 i (by omega)
          exact Or.inl ⟨n1, v, by omega, n3⟩
        · exact Or.inr n1
    · rw [c, if_pos rfl] at lc lm
      obtain ⟨w, ew⟩ : ∃ w, w = (if 10 * y 0 23 + nI (B (p + i)) - 48 < 100000 then 10 * y 0 23 + nI (B (p + i)) - 48 else 100000) := ⟨_, rfl⟩
      have mstep : fX11_stepOn_123 y = some (.inl (up2 (up2 y 0 23 w) 0 20 (nI (p + (i + 1))))) := by
        have g : up2 y 0 23 w 0 20 = nI (p + i) := by rw [up2_sn (by decide)]; exact e2
        unfold fX11_stepOn_123
        rw [e2, bm, bnd_s, lm, bnd_s, if_neg (show ¬ (1 : Int32) = 0 by decide), bnd_s, ← ew, pw_s, bnd_s, g, pw_s, bnd_s, nI_1, Nat.add_assoc]
      have cstep : ∀ z, fX9_takeNumber_72 x z = some (.inl (up2 (up2 x 39 2 z) 39 4 (nI (p + (i + 1))))) := fun z => by
        have g : up2 x 39 2 z 39 4 = nI (p + i) := by rw [up2_sn (by decide)]; exact e1
        unfold fX9_takeNumber_72
        rw [pw_s, bnd_s, g, pw_s, bnd_s, nI_1, Nat.add_assoc]
      have fin : ∀ z, ((i + 1 ≤ 4 ∧ ∃ v, v < 10 ^ (i + 1) ∧ z = nI v ∧ w = nI v) ∨ 4 < i + 1) → fX9_takeNumber_5 x = fX9_takeNumber_72 x z → (∃ s' t', fX9_takeNumber_5 x = some (.inl s') ∧ fX11_stepOn_123 y = some (.inl t') ∧ s' 39 4 = nI (p + (i + 1)) ∧ t' 0 20 = nI (p + (i + 1)) ∧ Fr [39] h s' ∧ Fs 39 [2, 4] h s' ∧ Fr [0] t t' ∧ Fs 0 [20, 23] t t' ∧ ((i + 1 ≤ 4 ∧ ∃ v, v < 10 ^ (i + 1) ∧ s' 39 2 = nI v ∧ t' 0 23 = nI v) ∨ 4 < i + 1)) := fun z hz e => by
        refine ⟨_, _, e.trans (cstep z), mstep, up2_ss _ _ _ _, up2_ss _ _ _ _, (f1.up (by decide)).up (by decide), (f2.up (by decide)).up (by decide), (f3.up (by decide)).up (by decide), (f4.up (by decide)).up (by decide), ?_⟩
        rw [up2_sn (by decide), up2_ss, up2_sn (by decide), up2_ss]
        exact hz
      have head : fX9_takeNumber_5 x = if 4 ≤ nI i then fX9_takeNumber_72 x (x 39 2) else fX9_takeNumber_72 x (x 39 2 * 10 + sbt (B (p + i)) - 48) := by
        unfold fX9_takeNumber_5
        rw [x5, e1, if_neg qn, rd_k (n := 700) (show p + i < 700 by omega), bnd_s, b2, lc, bnd_s, if_neg (show ¬ (1 : Int32) = 0 by decide), xs, sb, bnd_s]
      left
      by_cases c4 : 4 ≤ i
      · refine fin (x 39 2) (Or.inr (by omega)) ?_
        rw [head, if_pos (show 4 ≤ nI i from nI_le (a := 4) c4 (by omega))]
      · rcases nv with ⟨n1, v, n2, n3, n4⟩ | n1
        · have p4 := p10 (i + 1) (by omega)
          have ps : 10 ^ (i + 1) = 10 * 10 ^ i := by rw [Nat.pow_succ, Nat.mul_comm]
          have dg : 48 ≤ B (p + i) ∧ B (p + i) ≤ 57 := by
            unfold isDg at c
            rw [Bool.and_eq_true, decide_eq_true_eq, decide_eq_true_eq] at c
            exact c
          have w1 : (10 : Int32) * nI v + nI (B (p + i)) - 48 = nI (10 * v + B (p + i) - 48) := by
            rw [show (10 : Int32) * nI v = nI (10 * v) from nI_mul 10 v, nI_add]
            exact nI_sub (b := 48) (by omega)
          have z1 : nI v * 10 + sbt (B (p + i)) - 48 = nI (10 * v + B (p + i) - 48) := by
            rw [by_num _ b1 c, show nI v * 10 = nI (v * 10) from nI_mul v 10, nI_add, Nat.mul_comm v 10]
            exact nI_sub (b := 48) (by omega)
          refine fin (nI (10 * v + B (p + i) - 48)) (Or.inl ⟨by omega, _, ?_, rfl, ?_⟩) ?_
          · rw [ps]; omega
          · rw [ew, n4, w1, if_pos (show nI (10 * v + B (p + i) - 48) < 100000 from nI_lt (b := 100000) (by omega) (by decide))]
          · rw [head, if_neg (show ¬ 4 ≤ nI i from nI_ge (b := 4) (by omega) (by decide)), n3, z1]
        · omega) (by
    rintro x y ⟨e1, e2, f1, f2, f3, f4, nv⟩
    have x5 : x 39 5 = nI L := (f2 5 (by decide)).trans c5
    have y5 : y 0 21 = nI L := (f4 21 (by decide)).trans m5
    rw [show p + (L - p) = L by omega] at e1 e2
    refine ⟨x, y, ?_, ?_, L, hp, Nat.le_refl _, e1, e2, f1, f2, f3, f4, ?_⟩
    · unfold fX9_takeNumber_5
      rw [x5, e1, if_pos (Int32.le_refl _)]
    · unfold fX11_stepOn_123
      rw [e2, byteM_n y5, bnd_s, (digM1 y).1, bnd_s, if_pos rfl]
    · rcases nv with ⟨n1, v, n2, n3⟩ | n1
      · have := p10 (L - p) (by omega)
        exact Or.inl ⟨n1, v, by omega, n3⟩
      · exact Or.inr n1) ⟨c4, m4, Fr.rf, Fs.rf, Fr.rf, Fs.rf, Or.inl ⟨by decide, 0, by decide, c2, m2⟩⟩
  exact ⟨x, y, q, x1, y1, r⟩
