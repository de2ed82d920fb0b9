/-! ===== round: the class pulls ===== -/
theorem roundM {n s m : Nat} (hn : n ≤ 9) (n1 : 1 ≤ n) (hs : s < 9) (hm : m < 512) (hmn : ∀ q, m.testBit q = true → q < n) {w : Nat → Nat → Nat} (hw : ∀ p q, w p q = 1000000 ∨ w p q < 10000) {h : ST} (h3 : h 3 0 = nI n) (hW : ∀ p q, p < n → q < n → h 26 (9 * p + q) = nI (w p q)) {t : ST} (ht : Fr [30] h t) (hD : DT n s m w 0 (fun _ => 0) t) :
    ∃ t', lp FU (fX11_round_96 (nI m)) (t, 1000000, 0) = some (t', nI (pmn (fun p => F n s m w m p) (fun _ => 0) n)) ∧ Fr [30] h t' := by
  have main : ∃ z, lp FU (fX11_round_96 (nI m)) (t, nI 1000000, 0) = some z ∧ z.2 = nI (pmn (fun p => F n s m w m p) (fun _ => 0) n) ∧ Fr [30] h z.1 := by
    refine lp_cnt (b := fX11_round_96 (nI m)) (fun X x => x.2.2 = nI X ∧ x.2.1 = nI (if X = m + 1 then pmn (fun p => F n s m w m p) (fun _ => 0) n else 1000000) ∧ Fr [30] h x.1 ∧ DT n s m w X (fun _ => 0) x.1) (m + 1) (by omega) ?_ ?_ ⟨rfl, by rw [if_neg (by omega)], ht, hD⟩
    · rintro X ⟨x, b, y⟩ hX ⟨rfl, rfl, x1, x2⟩
      dsimp only at x1 x2
      obtain ⟨z, z1, z2, z3⟩ := setM hn n1 hs hm hmn hw h3 hW (show X < 512 by omega) x1 x2
      rw [if_neg (by omega)]
      refine Or.inl ⟨(z, nI (if X = m then pmn (fun p => F n s m w m p) (fun _ => 0) n else 1000000), nI (X + 1)), ?_, rfl, ?_, z2, z3⟩
      · simp only [fX11_round_96, fX11_round_255, if_neg (nI_nlt (show X ≤ m by omega) (show m < 2 ^ 31 by omega)), z1, bnd_s, nI_1]
      · dsimp only
        by_cases c : X = m
        · rw [if_pos c, if_pos (by omega)]
        · rw [if_neg c, if_neg (by omega)]
    · rintro ⟨x, b, y⟩ ⟨rfl, rfl, x1, x2⟩
      rw [if_pos rfl]
      exact ⟨(x, nI (pmn (fun p => F n s m w m p) (fun _ => 0) n)), by simp only [fX11_round_96]; rw [if_pos (nI_lt (show m < m + 1 by omega) (show m + 1 < 2 ^ 31 by omega))], rfl, x1⟩
  obtain ⟨⟨z, b⟩, z1, rfl, z2⟩ := main
  exact ⟨z, z1, z2⟩
def mr (x : Int32) (y : Nat) : Prop := (x = -1 ∧ y = 1000000) ∨ (y < 1000000 ∧ x = nI y)
theorem shortC {h : ST} {x x' : Int32} {y y' : Nat} (h1 : mr x y) (h2 : mr x' y') : ∃ z, fX10_shorter h x x' = some z ∧ mr z (min y y') := by
  rcases h1 with ⟨rfl, rfl⟩ | ⟨a, rfl⟩
  · refine ⟨x', ?_, ?_⟩
    · unfold fX10_shorter fX10_shorter_10 fX10_shorter_20
      rw [if_pos rfl, if_pos rfl]
    · rcases h2 with ⟨rfl, rfl⟩ | ⟨b, rfl⟩
      · exact Or.inl ⟨rfl, rfl⟩
      · rw [Nat.min_eq_right (by omega)]; exact Or.inr ⟨b, rfl⟩
  · have ne : ¬ nI y = -1 := nI_m1ne (by omega)
    rcases h2 with ⟨rfl, rfl⟩ | ⟨b, rfl⟩
    · refine ⟨nI y, ?_, ?_⟩
      · unfold fX10_shorter fX10_shorter_10 fX10_shorter_20
        rw [if_neg ne, if_pos rfl, if_neg ne]
      · rw [Nat.min_eq_left (by omega)]; exact Or.inr ⟨a, rfl⟩
    · have ne2 : ¬ nI y' = -1 := nI_m1ne (by omega)
      refine ⟨nI (min y y'), ?_, Or.inr ⟨by omega, rfl⟩⟩
      unfold fX10_shorter
      rw [if_neg ne, if_neg ne2, nI_min (by omega) (by omega), Nat.min_comm]
theorem pmn_c {D W : Nat → Nat} {s : Nat} (h0 : D s = 0) (h1 : ∀ p, p ≠ s → D p = 1000000) (hW : W s ≤ 1000000) : ∀ n, pmn D W n = if s < n then W s else 1000000
  | 0 => rfl
  | n + 1 => by
    unfold pmn
    rw [pmn_c h0 h1 hW n]
    by_cases c : s = n
    · subst c
      rw [if_neg (Nat.lt_irrefl _), if_pos (by omega), h0]
      omega
    · rw [h1 n (fun e => c e.symm)]
      by_cases d : s < n
      · rw [if_pos d, if_pos (by omega)]; omega
      · rw [if_neg d, if_neg (by omega)]; omega
/-- the sets of both: S of the class is S and the start, where it is asked for, of the reference -/
theorem c_l {s m : Nat} (hm : m < 512) : m &&& 2 ^ s < 512 := Nat.lt_of_le_of_lt Nat.and_le_left hm
theorem sub_g {s m S : Nat} (hm : m < 512) (hS : S < 512) (h : nb S (nb m (2 ^ s)) = 0) : ∀ i, S.testBit i = true → m.testBit i = true ∧ i ≠ s := fun i hi => by
  have := (nb0 hS).mp h i hi
  rw [nb_t hm, pw_t, Bool.and_eq_true] at this
  refine ⟨this.1, fun e => ?_⟩
  have := this.2
  rw [e] at this
  simp at this
theorem F_in {n s m : Nat} {w : Nat → Nat → Nat} (hs : s < 9) (hm : m < 512) {S q : Nat} (hS : S < 512) (h : nb S (nb m (2 ^ s)) = 0) (hq : S.testBit q = true) : F n s m w (S ||| (m &&& 2 ^ s)) q = pmn (fun p => F n s m w (nb S (2 ^ q) ||| (m &&& 2 ^ s)) p) (fun p => w p q) n := by
  have hO : S ||| (m &&& 2 ^ s) < 512 := or_l hS (c_l hm)
  obtain ⟨q1, q2⟩ := sub_g hm hS h q hq
  rw [F_eq hO, if_neg (fun e => q2 e.2), if_pos]
  · congr 1
    funext p
    congr 1
    apply Nat.eq_of_testBit_eq
    intro i
    rw [nb_t hO, Nat.testBit_or, Nat.testBit_or, nb_t hS, Nat.testBit_and, pw_t, pw_t]
    by_cases c : q = i
    · subst c
      simp
      intro _
      exact fun e => q2 e.symm
    · simp [c]
  · refine ⟨(nb0 hO).mpr (fun i hi => ?_), ?_, ?_, ?_⟩
    · rw [Nat.testBit_or, Bool.or_eq_true, Nat.testBit_and, Bool.and_eq_true] at hi
      rcases hi with u | u
      · exact (sub_g hm hS h i u).1
      · exact u.1
    · apply Nat.eq_of_testBit_eq
      intro i
      rw [Nat.testBit_and, Nat.testBit_or]
      cases (m &&& 2 ^ s).testBit i <;> simp
    · rw [Nat.testBit_or, hq]; rfl
    · rw [nb_t hm, q1, pw_t]; simp; exact fun e => q2 e.symm
theorem F_out {n s m : Nat} {w : Nat → Nat → Nat} (hm : m < 512) {S q : Nat} (hS : S < 512) (h : nb S (nb m (2 ^ s)) = 0) (h0 : S ≠ 0) (hq : S.testBit q = false) : F n s m w (S ||| (m &&& 2 ^ s)) q = 1000000 := by
  have hO : S ||| (m &&& 2 ^ s) < 512 := or_l hS (c_l hm)
  rw [F_eq hO, if_neg, if_neg]
  · rintro ⟨-, -, a, b⟩
    rw [Nat.testBit_or, hq, Bool.false_or, Nat.testBit_and, pw_t, Bool.and_eq_true] at a
    rw [nb_t hm, pw_t, Bool.and_eq_true] at b
    have := a.2
    have := b.2
    simp_all
  · rintro ⟨a, b⟩
    apply h0
    apply Nat.eq_of_testBit_eq
    intro i
    rw [Nat.zero_testBit]
    cases c : S.testBit i
    · rfl
    · have e := congrArg (fun x => x.testBit i) a
      have := (sub_g hm hS h i c).2
      have e' : (S ||| (m &&& 2 ^ s)).testBit i = (m &&& 2 ^ s).testBit i := e
      rw [Nat.testBit_or, c, Nat.testBit_and, pw_t] at e'
      simp at e'
      exact absurd e'.2.symm this
theorem F_c {n s m : Nat} {w : Nat → Nat → Nat} (hm : m < 512) : F n s m w (m &&& 2 ^ s) s = 0 ∧ ∀ p, p ≠ s → F n s m w (m &&& 2 ^ s) p = 1000000 := by
  refine ⟨?_, fun p hp => ?_⟩
  · rw [F_eq (c_l hm), if_pos ⟨rfl, rfl⟩]
  · rw [F_eq (c_l hm), if_neg (fun e => hp e.2), if_neg]
    rintro ⟨-, -, a, -⟩
    rw [Nat.testBit_and, pw_t, Bool.and_eq_true] at a
    have := a.2
    rw [decide_eq_true_eq] at this
    exact hp this.symm
/-- the class's way to one room of a set -/
theorem walkC {f : Nat} (hf : f = 2 ∨ f = 20) {n s m : Nat} (hn : n ≤ 9) (hs : s < n) (hm : m < 512) {w : Nat → Nat → Nat} (hw : ∀ p q, w p q = 1000000 ∨ w p q < 10000) {x : ST} (h0 : x 0 3 = nI f) (f0 : x f 0 = nI n) (hW : ∀ p q, p < n → q < n → mr (x (f + 16) (9 * p + q)) (w p q)) {R r : Nat} (hR : R < 512) (hr : r < n) (hC : R ≠ 0 → ∀ p, p < n → mr (x 394 (9 * R + p)) (F n s m w (R ||| (m &&& 2 ^ s)) p)) :
    ∃ z, fX10_walkTo x (nI s) (nI R) (nI r) = some z ∧ mr z (pmn (fun p => F n s m w (R ||| (m &&& 2 ^ s)) p) (fun p => w p r) n) := by
  have rff := rf_f hf h0
  have wy : ∀ p q, p < n → q < n → fX2_wayFrom x f (nI p) (nI q) = some (x (f + 16) (9 * p + q)) := fun p q hp hq => by
    have i2 : nI p * 9 + nI q = nI (9 * p + q) := by rw [show nI p * 9 = nI (p * 9) from nI_mul p 9, nI_add, Nat.mul_comm]
    simp only [fX2_wayFrom, i2, rd_k (n := 81) (show 9 * p + q < 81 by omega), bnd_s]
  by_cases c : R = 0
  · subst c
    refine ⟨x (f + 16) (9 * s + r), ?_, ?_⟩
    · unfold fX10_walkTo
      rw [if_pos (show nI 0 = 0 from rfl), rff, bnd_s, wy s r hs hr, bnd_s]
    · have e := pmn_c (D := fun p => F n s m w (0 ||| (m &&& 2 ^ s)) p) (W := fun p => w p r) (s := s) (by rw [Nat.zero_or]; exact (F_c hm).1) (fun p hp => by rw [Nat.zero_or]; exact (F_c hm).2 p hp) (by have := hw s r; omega) n
      rw [e, if_pos hs]
      exact hW s r hs hr
  · have hC := hC c
    have hO : R ||| (m &&& 2 ^ s) < 512 := or_l hR (c_l hm)
    obtain ⟨D, eD⟩ : ∃ D : Nat → Nat, D = fun p => F n s m w (R ||| (m &&& 2 ^ s)) p := ⟨_, rfl⟩
    have Db : ∀ p, D p = 1000000 ∨ D p ≤ 90000 := fun p => by rw [eD]; exact F_b (by omega) hm hw p hO
    rw [← eD]
    have hC : ∀ p, p < n → mr (x 394 (9 * R + p)) (D p) := fun p hp => by rw [eD]; exact hC p hp
    have main : ∃ z, lp FU (fX10_walkTo_20 x (nI R) (nI r)) (-1, 0) = some z ∧ mr z (pmn D (fun p => w p r) n) := by
      refine lp_cnt (b := fX10_walkTo_20 x (nI R) (nI r)) (fun p y => y.2 = nI p ∧ mr y.1 (pmn D (fun p => w p r) p)) n (by omega) ?_ ?_ ⟨rfl, Or.inl ⟨rfl, rfl⟩⟩
      · rintro p ⟨b, y⟩ hp ⟨rfl, b1⟩
        dsimp only at b1
        have qn := nI_ge hp (show n < 2 ^ 31 by omega)
        have ix : nI R * 9 + nI p = nI (9 * R + p) := by rw [show nI R * 9 = nI (R * 9) from nI_mul R 9, nI_add, Nat.mul_comm]
        have pl := pmn_le (D := D) (W := fun p => w p r) p
        have c1 := hC p hp
        have c2 := hW p r hp hr
        have d1 := Db p
        have d2 := hw p r
        have nx : pmn D (fun p => w p r) (p + 1) = min (pmn D (fun p => w p r) p) (D p + w p r) := rfl
        have hd : ∀ z, (if x 394 (9 * R + p) = -1 then fX10_walkTo_82 x (nI R) (nI r) b (nI p) else if x (f + 16) (9 * p + r) = -1 then fX10_walkTo_82 x (nI R) (nI r) b (nI p) else bnd (fX10_shorter x b (x 394 (9 * R + p) + x (f + 16) (9 * p + r))) fun r13 => fX10_walkTo_82 x (nI R) (nI r) r13 (nI p)) = z → fX10_walkTo_20 x (nI R) (nI r) (b, nI p) = z := fun z e => by
          rw [← e]
          unfold fX10_walkTo_20
          dsimp only
          rw [rff, bnd_s, if_neg (show ¬ x f 0 ≤ nI p by rw [f0]; exact qn), ix, rd_k (n := 4608) (show 9 * R + p < 4608 by omega), bnd_s, bnd_s, wy p r hp hr, bnd_s]
        rcases c1 with ⟨e1, e2⟩ | ⟨e1, e2⟩
        · refine Or.inl ⟨(b, nI (p + 1)), hd _ ?_, rfl, ?_⟩
          · unfold fX10_walkTo_82
            rw [if_pos e1, nI_1]
          · dsimp only
            rw [nx, e2, Nat.min_eq_left (by omega)]; exact b1
        · have ne1 : ¬ x 394 (9 * R + p) = -1 := by rw [e2]; exact nI_m1ne (by omega)
          rcases c2 with ⟨g1, g2⟩ | ⟨g1, g2⟩
          · refine Or.inl ⟨(b, nI (p + 1)), hd _ ?_, rfl, ?_⟩
            · unfold fX10_walkTo_82
              rw [if_neg ne1, if_pos g1, nI_1]
            · dsimp only
              rw [nx, g2, Nat.min_eq_left (by omega)]; exact b1
          · have ne2 : ¬ x (f + 16) (9 * p + r) = -1 := by rw [g2]; exact nI_m1ne (by omega)
            obtain ⟨z, z1, z2⟩ := shortC (h := x) b1 (x' := nI (D p + w p r)) (y' := D p + w p r) (Or.inr ⟨by omega, rfl⟩)
            refine Or.inl ⟨(z, nI (p + 1)), hd _ ?_, rfl, z2⟩
            unfold fX10_walkTo_82
            rw [if_neg ne1, if_neg ne2, e2, g2, nI_add, z1, bnd_s, nI_1]
      · rintro ⟨b, y⟩ ⟨rfl, b1⟩
        refine ⟨b, ?_, b1⟩
        unfold fX10_walkTo_20
        dsimp only
        rw [rff, bnd_s, f0, if_pos (Int32.le_refl _)]
    obtain ⟨z, z1, z2⟩ := main
    refine ⟨z, ?_, z2⟩
    unfold fX10_walkTo
    rw [if_neg (nI_ne0 (show 0 < R by omega) (show R < 2 ^ 31 by omega)), z1, bnd_s]
