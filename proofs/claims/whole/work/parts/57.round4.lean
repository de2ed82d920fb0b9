/-! ===== round, the call ===== -/
def CWI (n s m : Nat) (w : Nat → Nat → Nat) (X0 : Nat) (x : ST) : Prop := (∀ S, 1 ≤ S → S < X0 → nb S (nb m (2 ^ s)) = 0 → ∀ q, q < n → mr (x 394 (9 * S + q)) (F n s m w (S ||| (m &&& 2 ^ s)) q)) ∧ ∀ S, X0 ≤ S → S < 512 → ∀ q, q < 9 → x 394 (9 * S + q) = -1
theorem oneSet {f : Nat} (hf : f = 2 ∨ f = 20) {n s m : Nat} (hn : n ≤ 9) (hs : s < n) (hm : m < 512) (hmn : ∀ q, m.testBit q = true → q < n) {w : Nat → Nat → Nat} (hw : ∀ p q, w p q = 1000000 ∨ w p q < 10000) {hc : ST} (h0 : hc 0 3 = nI f) (f0 : hc f 0 = nI n) (hW : ∀ p q, p < n → q < n → mr (hc (f + 16) (9 * p + q)) (w p q)) {S : Nat} (h1 : 1 ≤ S) (hS : S < 512) (hg : nb S (nb m (2 ^ s)) = 0) {x : ST} (hx : Fr [394] hc x) (hC : CWI n s m w S x) (l2 : Int32) :
    ∃ y, lp FU (fX10_walkAll_29 (nI s) l2 (nI S)) (x, 0) = some y ∧ Fr [394] hc y ∧ CWI n s m w (S + 1) y := by
  obtain ⟨y, y1, y2, y3, y4, y5⟩ : ∃ y, lp FU (fX10_walkAll_29 (nI s) l2 (nI S)) (x, 0) = some y ∧ Fr [394] hc y ∧ (∀ T q, q < 9 → T ≠ S → y 394 (9 * T + q) = x 394 (9 * T + q)) ∧ (∀ q, q < n → S.testBit q = true → mr (y 394 (9 * S + q)) (F n s m w (S ||| (m &&& 2 ^ s)) q)) ∧ ∀ q, q < 9 → (S.testBit q = false ∨ n ≤ q) → y 394 (9 * S + q) = -1 := by
    refine lp_cnt (b := fX10_walkAll_29 (nI s) l2 (nI S)) (fun r y => y.2 = nI r ∧ Fr [394] hc y.1 ∧ (∀ T q, q < 9 → T ≠ S → y.1 394 (9 * T + q) = x 394 (9 * T + q)) ∧ (∀ q, q < r → S.testBit q = true → mr (y.1 394 (9 * S + q)) (F n s m w (S ||| (m &&& 2 ^ s)) q)) ∧ ∀ q, q < 9 → (S.testBit q = false ∨ r ≤ q) → y.1 394 (9 * S + q) = -1) n (by omega) ?_ ?_ ⟨rfl, hx, fun _ _ _ _ => rfl, fun q hq => absurd hq (Nat.not_lt_zero q), fun q hq _ => hC.2 S (Nat.le_refl _) hS q hq⟩
    · rintro r ⟨y, z⟩ hr ⟨rfl, y1, y2, y3, y4⟩
      dsimp only at y1 y2 y3 y4
      have ye : ∀ j, j ≠ 394 → y j = hc j := fun j hj => y1 j (by simp only [List.mem_cons, List.not_mem_nil, or_false]; omega)
      have yf0 : y f 0 = nI n := by rw [ye f (by omega)]; exact f0
      have yh0 : y 0 3 = nI f := by rw [ye 0 (by omega)]; exact h0
      have qn := nI_ge hr (show n < 2 ^ 31 by omega)
      have eb : (nI S &&& ((1 : Int32) <<< (nI r &&& 31)) = 0) ↔ S.testBit r = false := by
        rw [shl_k r (by omega), and_k]
        have lt : S &&& 2 ^ r < 512 := Nat.lt_of_le_of_lt Nat.and_le_left hS
        have : nI (S &&& 2 ^ r) = 0 ↔ S &&& 2 ^ r = 0 := nI_eq (b := 0) (by omega) (by decide)
        rw [this]
        constructor
        · intro e
          have := congrArg (fun t => t.testBit r) e
          rw [Nat.testBit_and, pw_t, Nat.zero_testBit] at this
          simp at this
          exact this
        · intro e
          apply Nat.eq_of_testBit_eq
          intro i
          rw [Nat.testBit_and, pw_t, Nat.zero_testBit]
          by_cases c : r = i
          · subst c; rw [e]; rfl
          · simp [c]
      cases c : S.testBit r
      · refine Or.inl ⟨(y, nI (r + 1)), ?_, rfl, y1, y2, fun q hq hb => ?_, fun q hq hb => y4 q hq ?_⟩
        · unfold fX10_walkAll_29 fX10_walkAll_77
          dsimp only
          rw [rf_f hf yh0, bnd_s, if_neg (show ¬ y f 0 ≤ nI r by rw [yf0]; exact qn), if_pos (eb.mpr c), nI_1]
        · by_cases d : q = r
          · rw [d, c] at hb; exact absurd hb (by decide)
          · exact y3 q (by omega) hb
        · rcases hb with u | u
          · exact Or.inl u
          · exact Or.inr (by omega)
      · have er : nI S &&& (((1 : Int32) <<< (nI r &&& 31)) ^^^ (-1)) = nI (nb S (2 ^ r)) := by rw [shl_k r (by omega)]; exact nb_k hS
        have lt := nb_lt hS c
        have sg : nb (nb S (2 ^ r)) (nb m (2 ^ s)) = 0 := (nb0 (by omega)).mpr (fun i hi => (nb0 hS).mp hg i (by
          rw [nb_t hS, Bool.and_eq_true] at hi
          exact hi.1))
        obtain ⟨v, v1, v2⟩ := walkC hf hn hs hm hw yh0 yf0 (fun p q hp hq => by rw [ye (f + 16) (by omega)]; exact hW p q hp hq) (R := nb S (2 ^ r)) (r := r) (by omega) hr (fun hne p hp => by
          rw [y2 _ p (by omega) (by omega)]
          exact hC.1 _ (by omega) lt sg p hp)
        rw [← F_in (by omega) hm hS hg c] at v2
        have ix : nI S * 9 + nI r = nI (9 * S + r) := by rw [show nI S * 9 = nI (S * 9) from nI_mul S 9, nI_add, Nat.mul_comm]
        refine Or.inl ⟨(up2 y 394 (9 * S + r) v, nI (r + 1)), ?_, rfl, y1.up (by decide), fun T q hq hT => ?_, fun q hq hb => ?_, fun q hq hb => ?_⟩
        · unfold fX10_walkAll_29 fX10_walkAll_77
          dsimp only
          rw [rf_f hf yh0, bnd_s, if_neg (show ¬ y f 0 ≤ nI r by rw [yf0]; exact qn), if_neg (fun e => by rw [eb.mp e] at c; exact absurd c (by decide)), er, v1, bnd_s, ix, wr_k (n := 4608) (show 9 * S + r < 4608 by omega), bnd_s, nI_1]
        · dsimp only
          rw [up2_sn (by omega)]; exact y2 T q hq hT
        · dsimp only
          rw [up2_s]
          by_cases d : q = r
          · rw [d, upd_s]; exact v2
          · rw [upd_n (by omega)]; exact y3 q (by omega) hb
        · dsimp only
          by_cases d : q = r
          · rcases hb with u | u
            · rw [d, c] at u; exact absurd u (by decide)
            · omega
          · rw [up2_sn (by omega)]
            refine y4 q hq ?_
            rcases hb with u | u
            · exact Or.inl u
            · exact Or.inr (by omega)
    · rintro ⟨y, z⟩ ⟨rfl, y1, y2⟩
      dsimp only at y1 y2
      have ye : ∀ j, j ≠ 394 → y j = hc j := fun j hj => y1 j (by simp only [List.mem_cons, List.not_mem_nil, or_false]; omega)
      refine ⟨y, ?_, y1, y2⟩
      unfold fX10_walkAll_29
      dsimp only
      rw [rf_f hf (by rw [ye 0 (by omega)]; exact h0), bnd_s, if_pos (show y f 0 ≤ nI n by rw [ye f (by omega), f0]; exact Int32.le_refl _)]
  refine ⟨y, y1, y2, fun T hT1 hT2 hTg q hq => ?_, fun T hT1 hT2 q hq => ?_⟩
  · by_cases c : T = S
    · subst c
      cases b : T.testBit q
      · rw [F_out hm hS hg (by omega) b]
        exact Or.inl ⟨y5 q (by omega) (Or.inl b), rfl⟩
      · exact y4 q hq b
    · rw [y3 T q (by omega) c]; exact hC.1 T hT1 (by omega) hTg q hq
  · rw [y3 T q hq (by omega)]; exact hC.2 T (by omega) hT2 q hq
theorem allSets {f : Nat} (hf : f = 2 ∨ f = 20) {n s m : Nat} (hn : n ≤ 9) (hs : s < n) (hm : m < 512) (hmn : ∀ q, m.testBit q = true → q < n) {w : Nat → Nat → Nat} (hw : ∀ p q, w p q = 1000000 ∨ w p q < 10000) {hc : ST} (h0 : hc 0 3 = nI f) (f0 : hc f 0 = nI n) (hW : ∀ p q, p < n → q < n → mr (hc (f + 16) (9 * p + q)) (w p q)) :
    ∃ y, fX10_walkAll hc (nI s) (nI (nb m (2 ^ s))) = some y ∧ Fr [394] hc y ∧ CWI n s m w (nb m (2 ^ s) + 1) y := by
  have gl : nb m (2 ^ s) < 512 := Nat.lt_of_le_of_lt (nb_le _ _) hm
  obtain ⟨x, x1, x2, x3⟩ := fillJ (h := hc) (o := 394) (n := 4608) (by decide) (-1)
  obtain ⟨y, y1, y2, y3⟩ : ∃ y, lp FU (fX10_walkAll_10 (nI s) (nI (nb m (2 ^ s)))) (x, 1) = some y ∧ Fr [394] hc y ∧ CWI n s m w (nb m (2 ^ s) + 1) y := by
    refine lp_cnt (b := fX10_walkAll_10 (nI s) (nI (nb m (2 ^ s)))) (fun i y => y.2 = nI (i + 1) ∧ Fr [394] hc y.1 ∧ CWI n s m w (i + 1) y.1) (nb m (2 ^ s)) (by omega) ?_ ?_ ⟨rfl, x3, fun S h1 h2 => absurd h2 (by omega), fun S _ hS q hq => x2 _ (by omega)⟩
    · rintro i ⟨y, z⟩ hi ⟨rfl, y1, y2⟩
      dsimp only at y1 y2
      have qn : ¬ nI (nb m (2 ^ s)) < nI (i + 1) := nI_nlt (by omega) (by omega)
      have esub : (nI (i + 1) &&& (nI (nb m (2 ^ s)) ^^^ (-1)) = 0) ↔ nb (i + 1) (nb m (2 ^ s)) = 0 := by
        rw [nb_k (by omega)]
        exact nI_eq (b := 0) (by have := nb_le (i + 1) (nb m (2 ^ s)); omega) (by decide)
      by_cases c : nb (i + 1) (nb m (2 ^ s)) = 0
      · obtain ⟨v, v1, v2, v3⟩ := oneSet hf hn hs hm hmn hw h0 f0 hW (S := i + 1) (by omega) (by omega) c y1 y2 (nI (nb m (2 ^ s)))
        refine Or.inl ⟨(v, nI (i + 1 + 1)), ?_, rfl, v2, v3⟩
        unfold fX10_walkAll_10 fX10_walkAll_83
        dsimp only
        rw [if_neg qn, if_pos (esub.mpr c), v1, bnd_s, nI_1]
      · refine Or.inl ⟨(y, nI (i + 1 + 1)), ?_, rfl, y1, fun S h1 h2 hg q hq => ?_, fun S h1 h2 q hq => y2.2 S (by omega) h2 q hq⟩
        · unfold fX10_walkAll_10 fX10_walkAll_83
          dsimp only
          rw [if_neg qn, if_neg (fun e => c (esub.mp e)), nI_1]
        · by_cases e : S = i + 1
          · rw [e] at hg; exact absurd hg c
          · exact y2.1 S h1 (by omega) hg q hq
    · rintro ⟨y, z⟩ ⟨rfl, y1, y2⟩
      refine ⟨y, ?_, y1, y2⟩
      unfold fX10_walkAll_10
      dsimp only
      rw [if_pos (nI_lt (by omega) (by omega))]
  refine ⟨y, ?_, y2, y3⟩
  unfold fX10_walkAll
  rw [x1, bnd_s, y1, bnd_s]
theorem sh_n : ∀ n, n < 10 → ((nI n).toUInt32 &&& Int32.toUInt32 31).toBitVec.toNat % 32 = n ∧ (((nI n).toUInt32 &&& Int32.toUInt32 31).toBitVec % 32).toNat = n ∧ ((1 : Int32) <<< (nI n &&& 31)) - 1 = nI (2 ^ n - 1) ∧ 2 ^ n - 1 < 512 ∧ 1 ≤ 2 ^ n := by decide
theorem mask_c {n : Nat} (hn : n < 10) (a : Int32) : (∃ m, m < 2 ^ n ∧ a = nI m ∧ ((a.toUInt32 >>> ((nI n).toUInt32 &&& Int32.toUInt32 31)).toInt32 = 0) ∧ ∀ h, fX11_isIn h a.toInt64 (0 : Int64) ((((1 : Int32) <<< (nI n &&& 31)) - 1).toInt64) = some 1) ∨ (¬ (a.toUInt32 >>> ((nI n).toUInt32 &&& Int32.toUInt32 31)).toInt32 = 0 ∧ ∀ h, fX11_isIn h a.toInt64 (0 : Int64) ((((1 : Int32) <<< (nI n &&& 31)) - 1).toInt64) = some 0) := by
  obtain ⟨-, k1, k2, k3, k4⟩ := sh_n n hn
  obtain ⟨u, hu, eu⟩ : ∃ u, u < 2 ^ 32 ∧ a = nI u := ⟨a.toBitVec.toNat, a.toBitVec.isLt, by
    apply Int32.toBitVec_inj.mp
    show a.toBitVec = BitVec.ofNat 32 a.toBitVec.toNat
    rw [BitVec.ofNat_toNat, BitVec.setWidth_eq]⟩
  have sh : (a.toUInt32 >>> ((nI n).toUInt32 &&& Int32.toUInt32 31)).toInt32 = nI (u / 2 ^ n) := by rw [eu]; exact pk_ushrN hu (nI n) n k1
  have z : nI (u / 2 ^ n) = 0 ↔ u < 2 ^ n := by
    constructor
    · intro e
      have lt : u / 2 ^ n < 2 ^ 32 := Nat.lt_of_le_of_lt (Nat.div_le_self _ _) hu
      have t := pk_tn lt
      rw [e] at t
      have : u / 2 ^ n = 0 := t.symm
      rcases (Nat.div_eq_zero_iff).mp this with w | w
      · omega
      · exact w
    · intro e
      rw [Nat.div_eq_of_lt e]; rfl
  rw [k2, sh]
  by_cases c : u < 2 ^ n
  · refine Or.inl ⟨u, c, eu, z.mpr c, fun h => ?_⟩
    rw [eu]
    exact isIn_y (l := 0) (nI_pos' (by omega)) (nI_le (by omega) (by omega))
  · refine Or.inr ⟨fun e => c (z.mp e), fun h => isIn_n (l := 0) (fun q => c ?_)⟩
    have q0 : ¬ a < 0 := Int32.not_lt.mpr q.1
    obtain ⟨j, hj, ej⟩ := nI_of q0
    have := q.2
    rw [ej, nI_leI hj (by omega)] at this
    have : u = j := by
      have e1 := pk_tn hu
      have e2 := pk_tn (n := j) (by omega)
      rw [← eu] at e1
      rw [← ej] at e2
      omega
    omega
theorem t_round {hc hm : ST} (hI : Inv hc hm) (a1 a2 : Int32) : ∃ y, s_round hc hm a1 a2 = some y ∧ Inv y.1 y.2 := by
  obtain ⟨f, M, A, h, h2⟩ := hI
  obtain ⟨hf, h0, hB, hF, hCF, hR, hR1, hA⟩ := id h
  have m1 := codeM (M := M) hR1
  have b0 := hB.1.1
  have h9 := hB.1.2.1
  have hF1 := fm_up hF 2 0
  have f0 : hc f 0 = nI (nR M) := hCF.1.1.trans b0
  have g3 : up2 hm 0 2 0 3 = M 3 := hF1 3 (by decide)
  have n1 : ¬ (1 : Int32) = 0 := by decide
  unfold s_round fL_round
  apply s_ok
  rcases room_c h a1 with ⟨s, hs, rfl, e1, e2⟩ | ⟨e1, e2⟩
  rotate_left
  · obtain ⟨q1, q2⟩ := failM hR1 1
    refine Or.inr ⟨1, 1, 0, hc, _, ?_, rfl, by decide, ?_, q2.2.2.2, Inv.ro h h2 (fun _ _ _ _ => rfl) q2⟩
    · simp only [fX10_round, bnd_s, pw_s, rd_0, rd_1, rd_2, rd_3, rd_4, rd_5, rd_6, wr_0, wr_1, wr_2, wr_3, wr_4, wr_5, zb_0, zb_1, Nat.reduceLT, Nat.reducePow, e1, sm]
    · simp only [fX11_round, bnd_s, pw_s, rd_0, rd_1, rd_2, rd_3, rd_4, rd_5, rd_6, wr_0, wr_1, wr_2, wr_3, wr_4, wr_5, zb_0, zb_1, Nat.reduceLT, Nat.reducePow, e2 _ hF1, q1, if_true]
  have E2 := e2 _ hF1
  rcases mask_c (n := nR M) (by omega) a2 with ⟨m, hm', rfl, c1, c2⟩ | ⟨c1, c2⟩
  rotate_left
  · obtain ⟨q1, q2⟩ := failM hR1 2
    refine Or.inr ⟨2, 2, 0, hc, _, ?_, rfl, by decide, ?_, q2.2.2.2, Inv.ro h h2 (fun _ _ _ _ => rfl) q2⟩
    · unfold fX10_round
      rw [e1, bnd_s]
      show bnd (rf KC 395 1 (hc 0 3)) _ = _
      rw [rf_f hf h0, bnd_s, f0, if_neg c1]
    · unfold fX11_round
      rw [pw_s, bnd_s, E2, bnd_s, if_neg n1, g3, rd_0 (by decide) (by decide), bnd_s, b0, c2, bnd_s, if_pos rfl, q1, bnd_s]
  have p9 : 2 ^ nR M ≤ 512 := Nat.pow_le_pow_right (n := 2) (by decide) h9
  have ml : m < 512 := by omega
  have hmn : ∀ q, m.testBit q = true → q < nR M := fun q hq => by
    refine Nat.lt_of_not_le (fun c => ?_)
    have := Nat.testBit_lt_two_pow (Nat.lt_of_lt_of_le hm' (Nat.pow_le_pow_right (show 0 < 2 by decide) c))
    rw [this] at hq
    exact absurd hq (by decide)
  -- the ways in numbers
  obtain ⟨w, ew⟩ : ∃ w : Nat → Nat → Nat, w = fun p q => if p < nR M ∧ q < nR M then (ways M (9 * p + q)).toNatClampNeg else 1000000 := ⟨_, rfl⟩
  have wk : ∀ p q, p < nR M → q < nR M → ways M (9 * p + q) = nI (w p q) ∧ mr (hc (f + 16) (9 * p + q)) (w p q) ∧ (w p q = 1000000 ∨ w p q < 10000) := fun p q hp hq => by
    have e : w p q = (ways M (9 * p + q)).toNatClampNeg := by rw [ew]; exact if_pos ⟨hp, hq⟩
    rcases h2.2.2.2.1 p q hp hq with ⟨u1, u2⟩ | ⟨v, hv, u1, u2⟩
    · rw [e, u1, u2]
      exact ⟨by decide, Or.inl ⟨rfl, by decide⟩, Or.inl (by decide)⟩
    · rw [e, u1, u2, nI_clamp (by omega)]
      exact ⟨rfl, Or.inr ⟨by omega, rfl⟩, Or.inr hv⟩
  have hw : ∀ p q, w p q = 1000000 ∨ w p q < 10000 := fun p q => by
    by_cases c : p < nR M ∧ q < nR M
    · exact (wk p q c.1 c.2).2.2
    · rw [ew]; exact Or.inl (if_neg c)
  -- the reference
  obtain ⟨y, y1, y2, y3, y4⟩ := waysB hB hF hR1
  obtain ⟨z, z1, z2, z3⟩ : ∃ z, lp FU (fX11_round_51 (nI s) (nI m)) (y, 0) = some z ∧ (∀ j, j < 4608 → z 30 j = 1000000) ∧ Fr [30] y z := by
    refine lp_cnt (b := fX11_round_51 (nI s) (nI m)) (fun i x => x.2 = nI i ∧ (∀ j, j < i → x.1 30 j = 1000000) ∧ Fr [30] y x.1) 4608 (by decide) ?_ ?_ ⟨rfl, fun j hj => absurd hj (Nat.not_lt_zero j), Fr.rf⟩
    · rintro i ⟨x, t⟩ hi ⟨rfl, x1, x2⟩
      dsimp only at x1 x2
      have q1 : ¬ 4608 ≤ nI i := nI_ge (b := 4608) hi (by decide)
      refine Or.inl ⟨(up2 x 30 i 1000000, nI (i + 1)), ?_, rfl, fun j hj => ?_, x2.up (by decide)⟩
      · simp only [fX11_round_51, if_neg q1, wr_k (n := 4608) hi, bnd_s, nI_1]
      · dsimp only
        rw [up2_s]
        by_cases c : j = i
        · rw [c, upd_s]
        · rw [upd_n c]; exact x1 j (by omega)
    · rintro ⟨x, t⟩ ⟨rfl, x1⟩
      exact ⟨x, by simp only [fX11_round_51]; rw [if_pos (show (4608 : Int32) ≤ nI 4608 by decide)], x1⟩
  obtain ⟨u, eu⟩ : ∃ u, u = up2 z 30 (9 * (m &&& 2 ^ s) + s) 0 := ⟨_, rfl⟩
  have uF : Fr [30] y u := by rw [eu]; exact z3.up (by decide)
  have cl : m &&& 2 ^ s < 512 := c_l ml
  have uD : DT (nR M) s m w 0 (fun _ => 0) u := fun X q hX hq => by
    rw [eu, up2_s]
    by_cases c : X = m &&& 2 ^ s ∧ q = s
    · obtain ⟨rfl, rfl⟩ := c
      rw [upd_s]
      unfold Em
      rw [if_pos ⟨rfl, rfl⟩]; rfl
    · rw [upd_n (by omega), z2 _ (by omega)]
      unfold Em
      rw [if_neg c]
      by_cases d : lv s m X q
      · rw [if_pos d, if_neg (Nat.not_lt_zero _)]
        by_cases e : nb X (2 ^ q) = 0
        · rw [if_pos e]; rfl
        · rw [if_neg e]; rfl
      · rw [if_neg d]; rfl
  obtain ⟨t, t1, t2⟩ := roundM h9 (by omega) (by omega) ml hmn hw (h := y) (by rw [y3 3 (by decide)]; exact b0) (fun p q hp hq => by rw [y2 _ (by omega)]; exact (wk p q hp hq).1) uF uD
  obtain ⟨B, eB⟩ : ∃ B, B = pmn (fun p => F (nR M) s m w m p) (fun _ => 0) (nR M) := ⟨_, rfl⟩
  rw [← eB] at t1
  have Bl : B ≤ 1000000 := by rw [eB]; exact pmn_le _
  have te : ∀ i, i ≠ 30 → t i = y i := fun i hi => t2 i (by simp only [List.mem_cons, List.not_mem_nil, or_false]; omega)
  have tc : t 0 2 = 0 := by rw [te 0 (by decide)]; exact y4.2.2.2
  have tM : MR M A 0 hm t := by
    refine ⟨y4.1.tr (t2.sub (by decide)), y4.2.1.tr (Fs.of t2 (by decide)), ?_, tc⟩
    unfold RM1
    rw [te 0 (by decide), te 19 (by decide), te 20 (by decide), te 21 (by decide)]
    exact y4.2.2.1
  have mdl : ∀ x, mr x B → fX11_round hm (nI s) (nI m) = some (x, t) := fun x hx => by
    have ix : (9 : Int32) * (nI m &&& ((1 : Int32) <<< (nI s &&& 31))) + nI s = nI (9 * (m &&& 2 ^ s) + s) := by rw [shl_k s (by omega), and_k, show (9 : Int32) * nI (m &&& 2 ^ s) = nI (9 * (m &&& 2 ^ s)) from nI_mul 9 _, nI_add]
    unfold fX11_round
    rw [pw_s, bnd_s, E2, bnd_s, if_neg n1, g3, rd_0 (by decide) (by decide), bnd_s, b0, c2, bnd_s, if_neg n1, y1, bnd_s, z1, bnd_s, ix, wr_k (n := 4608) (show 9 * (m &&& 2 ^ s) + s < 4608 by omega), bnd_s, ← eu, t1, bnd_s]
    unfold fX11_orNone fX11_orNone_12
    dsimp only
    rcases hx with ⟨rfl, e⟩ | ⟨e, rfl⟩
    · rw [if_neg (show ¬ nI B < 1000000 by rw [e]; decide), bnd_s]
    · rw [if_pos (show nI B < 1000000 from nI_lt (b := 1000000) e (by decide)), bnd_s]
  have er : nI m &&& (((1 : Int32) <<< (nI s &&& 31)) ^^^ (-1)) = nI (nb m (2 ^ s)) := by rw [shl_k s (by omega)]; exact nb_k ml
  have gl : nb m (2 ^ s) ≤ m := nb_le _ _
  by_cases cg : nb m (2 ^ s) = 0
  · -- nothing to see but the start
    have em : m = m &&& 2 ^ s := by
      apply Nat.eq_of_testBit_eq
      intro i
      have := (nb0 ml).mp cg i
      rw [Nat.testBit_and]
      cases c : m.testBit i
      · rfl
      · rw [this c]; rfl
    have F0 : F (nR M) s m w m s = 0 := by
      have := (F_c (n := nR M) (w := w) (s := s) ml).1
      rw [← em] at this
      exact this
    have B0 : B = 0 := by
      have mono : ∀ k, s < k → pmn (fun p => F (nR M) s m w m p) (fun _ => 0) k = 0 := by
        intro k
        induction k with
        | zero => intro x; omega
        | succ k ih =>
          intro x
          show min _ (F (nR M) s m w m k + 0) = 0
          by_cases c : s = k
          · rw [← c, F0]; omega
          · rw [ih (by omega)]; omega
      rw [eB]; exact mono _ hs
    refine Or.inl ⟨0, hc, t, ?_, mdl 0 (Or.inr ⟨by omega, by rw [B0]; rfl⟩), tc, Inv.ro h h2 (fun _ _ _ _ => rfl) tM⟩
    unfold fX10_round
    rw [e1, bnd_s]
    show bnd (rf KC 395 1 (hc 0 3)) _ = _
    rw [rf_f hf h0, bnd_s, f0, if_pos c1, er, if_pos (show nI (nb m (2 ^ s)) = 0 by rw [cg]; rfl)]
  obtain ⟨x, x1, x2, x3⟩ := allSets hf h9 hs ml hmn hw h0 f0 (fun p q hp hq => (wk p q hp hq).2.1)
  have xe : ∀ i, i ≠ 394 → x i = hc i := fun i hi => x2 i (by simp only [List.mem_cons, List.not_mem_nil, or_false]; omega)
  have mm : nb m (2 ^ s) ||| (m &&& 2 ^ s) = m := by
    apply Nat.eq_of_testBit_eq
    intro i
    rw [Nat.testBit_or, nb_t ml, Nat.testBit_and]
    cases m.testBit i <;> cases (2 ^ s).testBit i <;> rfl
  have row := x3.1 (nb m (2 ^ s)) (by omega) (by omega) ((nb0 (by omega)).mpr (fun _ q => q))
  rw [mm] at row
  have main : ∃ v, lp FU (fX10_round_51 x (nI (nb m (2 ^ s)))) (-1, 0) = some v ∧ mr v B := by
    rw [eB]
    refine lp_cnt (b := fX10_round_51 x (nI (nb m (2 ^ s)))) (fun p y => y.2 = nI p ∧ mr y.1 (pmn (fun p => F (nR M) s m w m p) (fun _ => 0) p)) (nR M) (by omega) ?_ ?_ ⟨rfl, Or.inl ⟨rfl, rfl⟩⟩
    · rintro p ⟨b, y⟩ hp ⟨rfl, b1⟩
      dsimp only at b1
      have qn := nI_ge hp (show nR M < 2 ^ 31 by omega)
      have ix : nI (nb m (2 ^ s)) * 9 + nI p = nI (9 * nb m (2 ^ s) + p) := by rw [show nI (nb m (2 ^ s)) * 9 = nI (nb m (2 ^ s) * 9) from nI_mul _ 9, nI_add, Nat.mul_comm]
      obtain ⟨v, v1, v2⟩ := shortC (h := x) b1 (row p hp)
      refine Or.inl ⟨(v, nI (p + 1)), ?_, rfl, v2⟩
      unfold fX10_round_51
      dsimp only
      rw [rf_f hf (by rw [xe 0 (by decide)]; exact h0), bnd_s, xe f (by omega), f0, if_neg qn, ix, rd_k (n := 4608) (show 9 * nb m (2 ^ s) + p < 4608 by omega), bnd_s, v1, bnd_s, nI_1]
    · rintro ⟨b, y⟩ ⟨rfl, b1⟩
      refine ⟨b, ?_, b1⟩
      unfold fX10_round_51
      dsimp only
      rw [rf_f hf (by rw [xe 0 (by decide)]; exact h0), bnd_s, xe f (by omega), f0, if_pos (Int32.le_refl _)]
  obtain ⟨v, v1, v2⟩ := main
  refine Or.inl ⟨v, x, t, ?_, mdl v v2, tc, Inv.ro h h2 (KcE.of x2 (fun i hi => by simp only [List.mem_cons, List.not_mem_nil, or_false] at hi; omega)) tM⟩
  unfold fX10_round
  rw [e1, bnd_s]
  show bnd (rf KC 395 1 (hc 0 3)) _ = _
  rw [rf_f hf h0, bnd_s, f0, if_pos c1, er, if_neg (nI_ne0 (show 0 < nb m (2 ^ s) by omega) (show nb m (2 ^ s) < 2 ^ 31 by omega)), x1, bnd_s, v1, bnd_s]
