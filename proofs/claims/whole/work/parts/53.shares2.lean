/-! ===== shares, the class, the call ===== -/
theorem evenC {n : Nat} (h1 : 1 ≤ n) (hn : n ≤ 4) {N : Nat} (hN : N ≤ 9) {f : Nat} (hf : f = 2 ∨ f = 20) {dv : Nat → Nat} (hdv : ∀ i, i < N → dv i ≤ 9999) : ∀ k dd i l h b, i + k = N → k < dd → h 0 3 = nI f → h f 0 = nI N → (∀ j, j < N → h 44 j = nI (dv j)) → (∀ d, d < n → h 393 d = nI (l d) ∧ l d ≤ 9999 * i) → (∀ d e, d ≤ e → e < n → l d = 0 → l e = 0) → b ≤ 1000000 →
    ∃ y, fX10_evenest dd h (nI i) (nI n) (nI b) = some (nI (min b (Ts n dv k i l)), y) ∧ (∀ d, d < n → y 393 d = nI (l d)) ∧ Fr [393] h y := by
  intro k
  induction k with
  | zero =>
    intro dd i l h b hi hd h0 hf0 hD hl hz hb
    obtain ⟨dd, rfl⟩ : ∃ k, dd = k + 1 := ⟨dd - 1, by omega⟩
    have m := mxC hn (h := h) (l := l) (fun d hd => ⟨(hl d hd).1, by have := (hl d hd).2; omega⟩) (fX10_evenest dd) (nI b)
    have mb' : mxl l n ≤ 89991 := mxl_lub (fun d hd => by have := (hl d hd).2; omega)
    rw [ev_s]
    refine ⟨h, ?_, fun d hd => (hl d hd).1, Fr.rf⟩
    show _ = some (nI (min b (mxl l n)), h)
    unfold fX10_evenest_b
    rw [rf_f hf h0, bnd_s, hf0, if_neg (nI_nlt (show N ≤ i by omega) (by omega)), m, bnd_s, nI_min (by omega) (by omega), Nat.min_comm]
  | succ k ih =>
    intro dd i l h b hi hd h0 hf0 hD hl hz hb
    obtain ⟨dd, rfl⟩ : ∃ k, dd = k + 1 := ⟨dd - 1, by omega⟩
    rw [ev_s]
    obtain ⟨G, eG⟩ : ∃ G, G = fun d => Ts n dv k (i + 1) (uN l d (l d + dv i)) := ⟨_, rfl⟩
    have dvi := hdv i (by omega)
    have main : ∃ r, lp FU (fX10_evenest_70 (fX10_evenest dd) (nI i) (nI n) (nI (dv i))) (h, nI b, 0) = some r ∧ ∃ y, (r = .inl (y, nI (mb G b n)) ∨ r = .inr (y, nI (mb G b n))) ∧ (∀ d, d < n → y 393 d = nI (l d)) ∧ Fr [393] h y := by
      refine lp_cnt (b := fX10_evenest_70 (fX10_evenest dd) (nI i) (nI n) (nI (dv i))) (fun t s => s.2.2 = nI t ∧ s.2.1 = nI (mb G b t) ∧ (∀ d, d < n → s.1 393 d = nI (l d)) ∧ Fr [393] h s.1 ∧ ∀ d, d < t → ¬ l d = 0) n (by omega) ?_ ?_ ⟨rfl, rfl, fun d hd => (hl d hd).1, Fr.rf, fun d hd => absurd hd (Nat.not_lt_zero d)⟩
      · rintro t ⟨s, p, q⟩ ht ⟨rfl, rfl, s1, s2, s3⟩
        dsimp only at s1 s2 s3
        have lt := (hl t ht).2
        have b2 := mb_le0 (F := G) (b := b) t
        -- the end of a step
        have fin : ∀ x, (∀ d, d < n → x 393 d = nI (l d)) → Fr [393] h x → (∃ s', fX10_evenest_127 (fX10_evenest dd) x (nI i) (nI n) (nI (dv i)) (nI (mb G b (t + 1))) (nI t) = some (.inl s') ∧ s'.2.2 = nI (t + 1) ∧ s'.2.1 = nI (mb G b (t + 1)) ∧ (∀ d, d < n → s'.1 393 d = nI (l d)) ∧ Fr [393] h s'.1 ∧ ∀ d, d < t + 1 → ¬ l d = 0) ∨ ∃ r, fX10_evenest_127 (fX10_evenest dd) x (nI i) (nI n) (nI (dv i)) (nI (mb G b (t + 1))) (nI t) = some (.inr r) ∧ ∃ y, (r = .inl (y, nI (mb G b n)) ∨ r = .inr (y, nI (mb G b n))) ∧ (∀ d, d < n → y 393 d = nI (l d)) ∧ Fr [393] h y := by
          intro x x1 x2
          by_cases c : l t = 0
          · have same : mb G b n = mb G b (t + 1) := by
              have eqv : ∀ e, t ≤ e → e < n → G e = G t := fun e h3 h4 => by
                rw [eG]
                exact (Ts_eq ht h4 (show l t = l e by rw [c, hz t e h3 h4 c]) k (i + 1) (dv i)).symm
              have st : ∀ m, t + 1 + m ≤ n → mb G b (t + 1 + m) = mb G b (t + 1) := by
                intro m
                induction m with
                | zero => intro _; rfl
                | succ m ihm =>
                  intro hm
                  have e1 : mb G b (t + 1 + m + 1) = min (mb G b (t + 1 + m)) (G (t + 1 + m)) := rfl
                  have e2 := ihm (by omega)
                  have e3 := eqv (t + 1 + m) (by omega) (by omega)
                  have e4 := mb_le (F := G) (b := b) (show t < t + 1 by omega)
                  show mb G b (t + 1 + m + 1) = _
                  rw [e1, e2, e3]
                  omega
              have := st (n - (t + 1)) (by omega)
              rw [show t + 1 + (n - (t + 1)) = n by omega] at this
              exact this
            refine Or.inr ⟨.inl (x, nI (mb G b n)), ?_, x, Or.inl rfl, x1, x2⟩
            rw [same]
            have x0 : x 393 t = 0 := by rw [x1 t ht, c]; rfl
            simp only [fX10_evenest_127, rd_k (n := 4) (show t < 4 by omega), bnd_s, x0, if_true]
          · refine Or.inl ⟨(x, nI (mb G b (t + 1)), nI (t + 1)), ?_, rfl, rfl, x1, x2, fun d hd => ?_⟩
            · simp only [fX10_evenest_127, rd_k (n := 4) (show t < 4 by omega), bnd_s, x1 t ht, if_neg (nI_ne0 (show 0 < l t by omega) (show l t < 2 ^ 31 by omega)), nI_1]
            · by_cases u : d = t
              · rw [u]; exact c
              · exact s3 d (by omega)
        by_cases c : mb G b t ≤ l t + dv i
        · have e : mb G b (t + 1) = mb G b t := by
            show min (mb G b t) (G t) = _
            have g := Ts_ge h1 (dv := dv) k (i + 1) (uN l t (l t + dv i))
            have g2 := mxl_le (l := uN l t (l t + dv i)) ht
            rw [uN_s] at g2
            have : l t + dv i ≤ G t := by rw [eG]; exact Nat.le_trans g2 g
            omega
          have hd' : fX10_evenest_70 (fX10_evenest dd) (nI i) (nI n) (nI (dv i)) (s, nI (mb G b t), nI t) = fX10_evenest_127 (fX10_evenest dd) s (nI i) (nI n) (nI (dv i)) (nI (mb G b (t + 1))) (nI t) := by
            rw [e]
            simp only [fX10_evenest_70, if_neg (nI_ge ht (show n < 2 ^ 31 by omega)), rd_k (n := 4) (show t < 4 by omega), bnd_s, s1 t ht, nI_add, if_pos (nI_le c (show l t + dv i < 2 ^ 31 by omega))]
          rw [hd']
          exact fin s s1 s2
        · obtain ⟨x, ex⟩ : ∃ x, x = up2 s 393 t (nI (l t + dv i)) := ⟨_, rfl⟩
          have xk : ∀ j, j ≠ 393 → x j = s j := fun j hj => by rw [ex, up2_n hj]
          have hs : ∀ j, j ≠ 393 → s j = h j := fun j hj => s2 j (by simp only [List.mem_cons, List.not_mem_nil, or_false]; omega)
          obtain ⟨y, y1, y2, y3⟩ := ih dd (i + 1) (uN l t (l t + dv i)) x (mb G b t) (by omega) (by omega) (by rw [xk 0 (by decide), hs 0 (by decide)]; exact h0) (by rw [xk f (by omega), hs f (by omega)]; exact hf0) (fun j hj => by rw [xk 44 (by decide), hs 44 (by decide)]; exact hD j hj) (fun d hd => by
            rw [ex, up2_s]
            have e1 := (hl d hd).2
            by_cases u : d = t
            · rw [u] at e1
              rw [u, upd_s, uN_s]
              exact ⟨rfl, by omega⟩
            · rw [upd_n u, uN_n u]
              exact ⟨s1 d hd, by omega⟩) (fun d e hde he q => by
            by_cases u : d = t
            · rw [u, uN_s] at q
              by_cases v : e = t
              · rw [v, uN_s]; exact q
              · rw [uN_n v]; exact hz t e (by omega) he (by omega)
            · rw [uN_n u] at q
              by_cases v : e = t
              · exact absurd q (s3 d (by omega))
              · rw [uN_n v]; exact hz d e hde he q) (by omega)
          have yt : y 393 t = nI (l t + dv i) := by rw [y2 t ht, uN_s]
          have back : nI (l t + dv i) - nI (dv i) = nI (l t) := by rw [nI_sub (by omega), Nat.add_sub_cancel]
          have nx : min (mb G b t) (Ts n dv k (i + 1) (uN l t (l t + dv i))) = mb G b (t + 1) := by
            show _ = min (mb G b t) (G t)
            rw [eG]
          rw [nx] at y1
          have hd' : fX10_evenest_70 (fX10_evenest dd) (nI i) (nI n) (nI (dv i)) (s, nI (mb G b t), nI t) = fX10_evenest_127 (fX10_evenest dd) (up2 y 393 t (nI (l t))) (nI i) (nI n) (nI (dv i)) (nI (mb G b (t + 1))) (nI t) := by
            simp only [fX10_evenest_70, if_neg (nI_ge ht (show n < 2 ^ 31 by omega)), rd_k (n := 4) (show t < 4 by omega), bnd_s, s1 t ht, nI_add, if_neg (nI_ge (show l t + dv i < mb G b t by omega) (show mb G b t < 2 ^ 31 by omega)), wr_k (n := 4) (show t < 4 by omega), ← ex, nI_1, y1, yt, back]
          rw [hd']
          refine fin _ (fun d hd => ?_) ?_
          · rw [up2_s]
            by_cases u : d = t
            · rw [u, upd_s]
            · rw [upd_n u, y2 d hd, uN_n u]
          · have f1 : Fr [393] h x := by rw [ex]; exact s2.up (by decide)
            exact (f1.tr y3).up (by decide)
      · rintro ⟨s, p, q⟩ ⟨rfl, rfl, s1, s2, s3⟩
        exact ⟨.inr (s, nI (mb G b n)), by simp only [fX10_evenest_70, Int32.le_refl, if_true], s, Or.inr rfl, s1, s2⟩
    obtain ⟨r, r1, y, r2, r3, r4⟩ := main
    refine ⟨y, ?_, r3, r4⟩
    have e : mb G b n = min b (Ts n dv (k + 1) i l) := by rw [eG]; exact Ts_mb h1
    unfold fX10_evenest_b fX10_evenest_146
    rw [rf_f hf h0, bnd_s, hf0, if_pos (nI_lt (show i < N by omega) (by omega)), rd_k (n := 9) (show i < 9 by omega), bnd_s, hD i (by omega), r1, bnd_s, ← e]
    rcases r2 with rfl | rfl <;> rfl
theorem sS_eq {dv : Nat → Nat} {D : Nat → Int32} : ∀ k i N, i + k = N → (∀ j, j < N → D j = nI (dv j)) → sumD D i + nI (sS dv k i) = sumD D N
  | 0, i, N, h, _ => by
    rw [show i = N by omega]
    show sumD D N + nI 0 = _
    exact Int32.add_zero _
  | k + 1, i, N, h, w => by
    have ih := sS_eq k (i + 1) N (by omega) w
    have e : sumD D (i + 1) = sumD D i + D i := rfl
    rw [← ih, e, w i (by omega), Int32.add_assoc, nI_add]
    rfl
theorem t_shares {hc hm : ST} (hI : Inv hc hm) (a1 : Int32) : ∃ y, s_shares hc hm a1 = some y ∧ Inv y.1 y.2 := by
  obtain ⟨f, M, A, h, h2⟩ := hI
  obtain ⟨hf, h0, hB, hF, hCF, hR, hR1, hA⟩ := id h
  have m1 := codeM (M := M) hR1
  have b0 := hB.1.1
  have h9 := hB.1.2.1
  have hF1 := fm_up hF 2 0
  have n1 : ¬ (1 : Int32) = 0 := by decide
  unfold s_shares fL_shares
  apply s_ok
  rcases in_c 1 4 (by decide) (by decide) a1 with ⟨n, hn1, hn, rfl, e⟩ | ⟨c, e⟩
  rotate_left
  · have e : fX11_isIn (up2 hm 0 2 0) a1.toInt64 (1 : Int64) (4 : Int64) = some 0 := e _
    obtain ⟨q1, q2⟩ := failM hR1 1
    refine Or.inr ⟨2, 1, 0, hc, _, ?_, rfl, by decide, ?_, q2.2.2.2, Inv.ro h h2 (fun _ _ _ _ => rfl) q2⟩
    · by_cases c1 : a1 < 1
      · simp only [fX10_shares, fX10_shares_10, if_pos c1]
      · simp only [fX10_shares, fX10_shares_10, if_neg c1, if_neg (show ¬ a1 ≤ 4 from fun q => c ⟨Int32.not_lt.mp c1, q⟩)]
    · simp only [fX11_shares, bnd_s, pw_s, rd_0, rd_1, rd_2, rd_3, rd_4, rd_5, rd_6, wr_0, wr_1, wr_2, wr_3, wr_4, wr_5, zb_0, zb_1, Nat.reduceLT, Nat.reducePow, e, q1, if_true]
  have e : fX11_isIn (up2 hm 0 2 0) (nI n).toInt64 (1 : Int64) (4 : Int64) = some 1 := e _
  obtain ⟨dv, edv⟩ : ∃ dv : Nat → Nat, dv = fun i => (aD A i).toNatClampNeg := ⟨_, rfl⟩
  have hdv : ∀ i, i < nR M → dv i ≤ 9999 ∧ aD A i = nI (dv i) := fun i hi => by
    obtain ⟨x, hx, ex⟩ := hA.1 i hi
    rw [edv]
    show (aD A i).toNatClampNeg ≤ 9999 ∧ aD A i = nI ((aD A i).toNatClampNeg)
    rw [ex, nI_clamp (by omega)]
    exact ⟨hx, rfl⟩
  obtain ⟨S, eS, hS⟩ : ∃ S, sumD (aD A) (nR M) = nI S ∧ S = sS dv (nR M) 0 := by
    refine ⟨_, ?_, rfl⟩
    have := sS_eq (dv := dv) (D := aD A) (nR M) 0 (nR M) (by omega) (fun j hj => (hdv j hj).2)
    rw [← this]
    show _ = nI (sS dv (nR M) 0)
    have z : sumD (aD A) 0 = 0 := rfl
    rw [z, Int32.zero_add]
  have S2 : S ≤ 89991 := by
    obtain ⟨v, hv, ev⟩ := sumD_k hA.1 (nR M) (Nat.le_refl _)
    have sb : ∀ k i, i + k = nR M → sS dv k i ≤ 9999 * k := by
      intro k
      induction k with
      | zero => intro i _; exact Nat.le_refl _
      | succ k ih =>
        intro i hi
        have := ih (i + 1) (by omega)
        have := (hdv i (by omega)).1
        show dv i + sS dv k (i + 1) ≤ _
        omega
    have := sb (nR M) 0 (by omega)
    omega
  -- the class
  obtain ⟨x, x1, x2, x3⟩ := fillJ (h := hc) (o := 393) (n := 4) (by decide) 0
  have xk : ∀ j, j ≠ 393 → x j = hc j := fun j hj => x3 j (by simp only [List.mem_cons, List.not_mem_nil, or_false]; omega)
  have xK : KcE f hc x := KcE.of x3 (fun i hi => by simp only [List.mem_cons, List.not_mem_nil, or_false] at hi; omega)
  have du := dustC hB (xK.cf hf hCF) (xK.rc hf hR)
  obtain ⟨y, y1, y2, y3⟩ := evenC hn1 hn h9 hf (fun i hi => (hdv i hi).1) (nR M) 12 0 (fun _ => 0) x (S + 1) (by omega) (by omega) (xK.c0 hf h0) (by rw [xk f (by omega)]; exact hCF.1.1.trans b0) (fun j hj => by rw [xk 44 (by decide)]; exact (hR.2.1 j hj).1.trans (hdv j hj).2) (fun d hd => ⟨x2 d (by omega), by omega⟩) (fun _ _ _ _ _ => rfl) (by omega)
  -- the reference
  obtain ⟨z, z1, z2, z3⟩ : ∃ z, lp FU (fX11_shares_25 (nI n)) (up2 hm 0 2 0, 0) = some z ∧ (∀ j, j < 4 → z 31 j = 0) ∧ Fr [31] (up2 hm 0 2 0) z := by
    refine lp_cnt (b := fX11_shares_25 (nI n)) (fun i s => s.2 = nI i ∧ (∀ j, j < i → s.1 31 j = 0) ∧ Fr [31] (up2 hm 0 2 0) s.1) 4 (by decide) ?_ ?_ ⟨rfl, fun j hj => absurd hj (Nat.not_lt_zero j), Fr.rf⟩
    · rintro i ⟨s, t⟩ hi ⟨rfl, s1, s2⟩
      dsimp only at s1 s2
      have q1 : ¬ 4 ≤ nI i := nI_ge (b := 4) hi (by decide)
      refine Or.inl ⟨(up2 s 31 i 0, nI (i + 1)), ?_, rfl, fun j hj => ?_, s2.up (by decide)⟩
      · simp only [fX11_shares_25, if_neg q1, wr_k (n := 4) hi, bnd_s, nI_1]
      · dsimp only
        rw [up2_s]
        by_cases c : j = i
        · rw [c, upd_s]
        · rw [upd_n c]; exact s1 j (by omega)
    · rintro ⟨s, t⟩ ⟨rfl, s1⟩
      exact ⟨s, by simp only [fX11_shares_25]; rw [if_pos (show (4 : Int32) ≤ nI 4 by decide)], s1⟩
  have zk : ∀ j, j ≠ 31 → z j = up2 hm 0 2 0 j := fun j hj => z3 j (by simp only [List.mem_cons, List.not_mem_nil, or_false]; omega)
  obtain ⟨w, w1, w2, w3⟩ := sharesM hn1 hn h9 (fun i hi => (hdv i hi).1) (nR M) 12 0 (fun _ => 0) z 1000000 (by omega) (by omega) (by rw [zk 3 (by decide), hF1 3 (by decide)]; exact b0) (fun j hj => by rw [zk 19 (by decide)]; exact (m1.2.2.1.2.1 j hj).1.trans (hdv j hj).2) (fun d hd => ⟨z2 d (by omega), by omega⟩) (by omega)
  have ub := Ts_ub hn1 (dv := dv) (nR M) 0 (fun _ => 0)
  have m0 : mxl (fun _ => 0) n ≤ 0 := mxl_lub (fun _ _ => Nat.le_refl _)
  have T1 : Ts n dv (nR M) 0 (fun _ => 0) ≤ S := by rw [hS]; omega
  rw [Nat.min_eq_right (by omega)] at y1 w1
  have wf : Fr [31] (up2 hm 0 2 0) w := z3.tr w3
  have wc : w 0 2 = 0 := by rw [wf 0 (by decide)]; exact m1.2.2.2
  have yK : KcE f hc y := xK.tr (KcE.of y3 (fun i hi => by simp only [List.mem_cons, List.not_mem_nil, or_false] at hi; omega))
  refine Or.inl ⟨nI (Ts n dv (nR M) 0 (fun _ => 0)), y, w, ?_, ?_, wc, Inv.ro h h2 yK ⟨m1.1.tr (wf.sub (by decide)), m1.2.1.tr (Fs.of wf (by decide)), ?_, wc⟩⟩
  · have q1 : ¬ nI n < 1 := nI_nlt (b := 1) hn1 (by omega)
    have q2 : nI n ≤ 4 := nI_le (b := 4) hn (by decide)
    have y1' : fX10_evenest 12 x 0 (nI n) (nI (S + 1)) = some (nI (Ts n dv (nR M) 0 (fun _ => 0)), y) := y1
    unfold fX10_shares
    rw [if_neg q1, if_pos q2, x1, bnd_s, rf_f hf (xK.c0 hf h0), bnd_s, du, bnd_s, eS, nI_1, y1', bnd_s]
  · have w1' : fX11_sharesFrom 12 z 0 (nI n) 1000000 = some (nI (Ts n dv (nR M) 0 (fun _ => 0)), w) := w1
    unfold fX11_shares
    rw [pw_s, bnd_s, e, bnd_s, if_neg n1, z1, bnd_s, w1', bnd_s]
  · unfold RM1
    rw [wf 0 (by decide), wf 19 (by decide), wf 20 (by decide), wf 21 (by decide)]
    exact m1.2.2.1
