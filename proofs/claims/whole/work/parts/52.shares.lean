/-! ===== shares ===== -/
def uN (l : Nat → Nat) (d v : Nat) (e : Nat) : Nat := if e = d then v else l e
theorem uN_s (l : Nat → Nat) (d v : Nat) : uN l d v d = v := if_pos rfl
theorem uN_n {l : Nat → Nat} {d v e : Nat} (h : e ≠ d) : uN l d v e = l e := if_neg h
def mxl (l : Nat → Nat) : Nat → Nat
  | 0 => 0
  | d + 1 => max (mxl l d) (l d)
theorem mxl_le {l : Nat → Nat} : ∀ {n d : Nat}, d < n → l d ≤ mxl l n
  | n + 1, d, h => by
    unfold mxl
    by_cases c : d = n
    · rw [c]; omega
    · have := mxl_le (l := l) (n := n) (d := d) (by omega); omega
theorem mxl_lub {l : Nat → Nat} {v : Nat} : ∀ {n : Nat}, (∀ d, d < n → l d ≤ v) → mxl l n ≤ v
  | 0, _ => Nat.zero_le _
  | n + 1, h => by
    unfold mxl
    have := mxl_lub (l := l) (v := v) (n := n) (fun d hd => h d (by omega))
    have := h n (by omega)
    omega
/-- the least over d < n (or b) -/
def mb (F : Nat → Nat) (b : Nat) : Nat → Nat
  | 0 => b
  | d + 1 => min (mb F b d) (F d)
theorem mb_le0 {F : Nat → Nat} {b : Nat} : ∀ n, mb F b n ≤ b
  | 0 => Nat.le_refl _
  | n + 1 => by unfold mb; have := mb_le0 (F := F) (b := b) n; omega
theorem mb_le {F : Nat → Nat} {b : Nat} : ∀ {n d : Nat}, d < n → mb F b n ≤ F d
  | n + 1, d, h => by
    unfold mb
    by_cases c : d = n
    · rw [c]; omega
    · have := mb_le (F := F) (b := b) (n := n) (d := d) (by omega); omega
theorem mb_glb {F : Nat → Nat} {b v : Nat} : ∀ {n : Nat}, v ≤ b → (∀ d, d < n → v ≤ F d) → v ≤ mb F b n
  | 0, h, _ => h
  | n + 1, h, w => by
    unfold mb
    have := mb_glb (F := F) (b := b) (n := n) h (fun d hd => w d (by omega))
    have := w n (by omega)
    omega
def Ts (n : Nat) (dv : Nat → Nat) : Nat → Nat → (Nat → Nat) → Nat
  | 0, _, l => mxl l n
  | k + 1, i, l => mb (fun d => Ts n dv k (i + 1) (uN l d (l d + dv i))) (Ts n dv k (i + 1) (uN l 0 (l 0 + dv i))) n
theorem Ts_ge {n : Nat} (hn : 1 ≤ n) {dv : Nat → Nat} : ∀ k i l, mxl l n ≤ Ts n dv k i l
  | 0, _, _ => Nat.le_refl _
  | k + 1, i, l => by
    have up : ∀ d, d < n → mxl l n ≤ Ts n dv k (i + 1) (uN l d (l d + dv i)) := fun d hd => by
      refine Nat.le_trans ?_ (Ts_ge hn k (i + 1) _)
      refine mxl_lub (fun e he => ?_)
      have := mxl_le (l := uN l d (l d + dv i)) he
      by_cases c : e = d
      · rw [c, uN_s] at this; rw [c]; omega
      · rw [uN_n c] at this; exact this
    exact mb_glb (up 0 (by omega)) up
theorem mxl_cong {l l' : Nat → Nat} : ∀ {n : Nat}, (∀ d, d < n → l d = l' d) → mxl l n = mxl l' n
  | 0, _ => rfl
  | n + 1, h => by unfold mxl; rw [mxl_cong (n := n) (fun d hd => h d (by omega)), h n (by omega)]
def swp (a b : Nat) (d : Nat) : Nat := if d = a then b else if d = b then a else d
theorem swp_i {a b : Nat} (d : Nat) : swp a b (swp a b d) = d := by
  unfold swp
  by_cases c : d = a
  · rw [if_pos c]
    by_cases e : b = a
    · rw [if_pos e]; omega
    · rw [if_neg e, if_pos rfl]; exact c.symm
  · rw [if_neg c]
    by_cases e : d = b
    · rw [if_pos e, if_pos rfl]; exact e.symm
    · rw [if_neg e, if_neg c, if_neg e]
theorem swp_l {a b n d : Nat} (ha : a < n) (hb : b < n) (h : d < n) : swp a b d < n := by
  unfold swp
  by_cases c : d = a
  · rw [if_pos c]; exact hb
  · rw [if_neg c]
    by_cases e : d = b
    · rw [if_pos e]; exact ha
    · rw [if_neg e]; exact h
theorem Ts_sw {n : Nat} {dv : Nat → Nat} {a b : Nat} (ha : a < n) (hb : b < n) : ∀ k i l, Ts n dv k i (fun d => l (swp a b d)) = Ts n dv k i l
  | 0, _, l => by
    show mxl (fun d => l (swp a b d)) n = mxl l n
    apply Nat.le_antisymm
    · exact mxl_lub (fun d hd => mxl_le (l := l) (swp_l ha hb hd))
    · refine mxl_lub (fun d hd => ?_)
      have := mxl_le (l := fun d => l (swp a b d)) (swp_l ha hb hd)
      rw [swp_i] at this
      exact this
  | k + 1, i, l => by
    have key : ∀ d, Ts n dv k (i + 1) (uN (fun d => l (swp a b d)) d (l (swp a b d) + dv i)) = Ts n dv k (i + 1) (uN l (swp a b d) (l (swp a b d) + dv i)) := fun d => by
      rw [← Ts_sw ha hb k (i + 1) (uN l (swp a b d) (l (swp a b d) + dv i))]
      congr 1
      funext e
      unfold uN
      by_cases c : e = d
      · rw [if_pos c, if_pos (by rw [c])]
      · rw [if_neg c, if_neg (fun q => c (by have := congrArg (swp a b) q; rw [swp_i, swp_i] at this; exact this))]
    have F1 : ∀ d, d < n → mb (fun d => Ts n dv k (i + 1) (uN l d (l d + dv i))) (Ts n dv k (i + 1) (uN l 0 (l 0 + dv i))) n ≤ Ts n dv k (i + 1) (uN l d (l d + dv i)) := fun d hd => mb_le (F := fun d => Ts n dv k (i + 1) (uN l d (l d + dv i))) hd
    have F2 : ∀ d, d < n → mb (fun d => Ts n dv k (i + 1) (uN (fun d => l (swp a b d)) d (l (swp a b d) + dv i))) (Ts n dv k (i + 1) (uN (fun d => l (swp a b d)) 0 (l (swp a b 0) + dv i))) n ≤ Ts n dv k (i + 1) (uN (fun d => l (swp a b d)) d (l (swp a b d) + dv i)) := fun d hd => mb_le (F := fun d => Ts n dv k (i + 1) (uN (fun d => l (swp a b d)) d (l (swp a b d) + dv i))) hd
    show mb (fun d => Ts n dv k (i + 1) (uN (fun d => l (swp a b d)) d (l (swp a b d) + dv i))) (Ts n dv k (i + 1) (uN (fun d => l (swp a b d)) 0 (l (swp a b 0) + dv i))) n = mb (fun d => Ts n dv k (i + 1) (uN l d (l d + dv i))) (Ts n dv k (i + 1) (uN l 0 (l 0 + dv i))) n
    apply Nat.le_antisymm
    · refine mb_glb ?_ (fun d hd => ?_)
      · have t := F2 (swp a b 0) (swp_l ha hb (by omega))
        have e := key (swp a b 0)
        rw [swp_i] at t e
        exact Nat.le_trans t (Nat.le_of_eq e)
      · have t := F2 (swp a b d) (swp_l ha hb hd)
        have e := key (swp a b d)
        rw [swp_i] at t e
        exact Nat.le_trans t (Nat.le_of_eq e)
    · refine mb_glb ?_ (fun d hd => ?_)
      · rw [key]; exact F1 _ (swp_l ha hb (by omega))
      · rw [key]; exact F1 _ (swp_l ha hb hd)
theorem Ts_eq {n : Nat} {dv : Nat → Nat} {a b : Nat} (ha : a < n) (hb : b < n) {l : Nat → Nat} (h : l a = l b) (k i x : Nat) : Ts n dv k i (uN l a (l a + x)) = Ts n dv k i (uN l b (l b + x)) := by
  rw [← Ts_sw ha hb k i (uN l b (l b + x))]
  congr 1
  funext e
  unfold uN swp
  by_cases c : e = a
  · rw [if_pos c, if_pos c, if_pos rfl, h]
  · rw [if_neg c, if_neg c]
    by_cases d : e = b
    · rw [if_pos d, if_neg (fun q => c (by omega)), d, h]
    · rw [if_neg d, if_neg d]
def sS (dv : Nat → Nat) : Nat → Nat → Nat
  | 0, _ => 0
  | k + 1, i => dv i + sS dv k (i + 1)
theorem Ts_ub {n : Nat} (hn : 1 ≤ n) {dv : Nat → Nat} : ∀ k i l, Ts n dv k i l ≤ max (mxl l n) (l 0 + sS dv k i)
  | 0, _, l => by
    show mxl l n ≤ _
    omega
  | k + 1, i, l => by
    have h1 : Ts n dv (k + 1) i l ≤ Ts n dv k (i + 1) (uN l 0 (l 0 + dv i)) := mb_le (F := fun d => Ts n dv k (i + 1) (uN l d (l d + dv i))) (show 0 < n by omega)
    have h2 := Ts_ub hn (dv := dv) k (i + 1) (uN l 0 (l 0 + dv i))
    rw [uN_s] at h2
    have h3 : mxl (uN l 0 (l 0 + dv i)) n ≤ max (mxl l n) (l 0 + dv i) := mxl_lub (fun d hd => by
      by_cases c : d = 0
      · rw [c, uN_s]; omega
      · rw [uN_n c]; have := mxl_le (l := l) hd; omega)
    show Ts n dv (k + 1) i l ≤ max (mxl l n) (l 0 + (dv i + sS dv k (i + 1)))
    omega
theorem Ts_mb {n : Nat} (hn : 1 ≤ n) {dv : Nat → Nat} {k i : Nat} {l : Nat → Nat} {b : Nat} : mb (fun d => Ts n dv k (i + 1) (uN l d (l d + dv i))) b n = min b (Ts n dv (k + 1) i l) := by
  have e : Ts n dv (k + 1) i l = mb (fun d => Ts n dv k (i + 1) (uN l d (l d + dv i))) (Ts n dv k (i + 1) (uN l 0 (l 0 + dv i))) n := rfl
  have F1 : ∀ c d, d < n → mb (fun d => Ts n dv k (i + 1) (uN l d (l d + dv i))) c n ≤ Ts n dv k (i + 1) (uN l d (l d + dv i)) := fun c d hd => mb_le (F := fun d => Ts n dv k (i + 1) (uN l d (l d + dv i))) hd
  apply Nat.le_antisymm
  · have := mb_le0 (F := fun d => Ts n dv k (i + 1) (uN l d (l d + dv i))) (b := b) n
    have h2 : mb (fun d => Ts n dv k (i + 1) (uN l d (l d + dv i))) b n ≤ Ts n dv (k + 1) i l := by
      rw [e]
      exact mb_glb (F1 b 0 (by omega)) (F1 b)
    omega
  · refine mb_glb (by omega) (fun d hd => ?_)
    have := F1 (Ts n dv k (i + 1) (uN l 0 (l 0 + dv i))) d hd
    rw [← e] at this
    omega
/-! both machines -/
theorem mxM {h : ST} {n : Nat} (hn : n ≤ 4) {l : Nat → Nat} (hl : ∀ d, d < n → h 31 d = nI (l d) ∧ l d < 1000000) (R : ST → Int32 → Int32 → Int32 → Option (Int32 × ST)) (p q : Int32) : lp FU (fX11_sharesFrom_6 R h p (nI n) q) (0, 0) = some (nI (mxl l n)) := by
  have bd : ∀ i, i ≤ n → mxl l i < 1000000 := fun i hi => Nat.lt_of_le_of_lt (mxl_lub (v := 999999) (fun d hd => by have := (hl d (by omega)).2; omega)) (by omega)
  refine lp_det (b := fX11_sharesFrom_6 R h p (nI n) q) (fun i => (nI (mxl l i), nI i)) n (by omega) (fun i hi => ?_) ?_
  · have e : (if nI (mxl l i) < nI (l i) then nI (l i) else nI (mxl l i)) = nI (mxl l (i + 1)) := by
      have b1 := bd i (by omega)
      have b2 := (hl i hi).2
      show _ = nI (max (mxl l i) (l i))
      by_cases c : mxl l i < l i
      · rw [if_pos (nI_lt c (by omega)), Nat.max_eq_right (by omega)]
      · rw [if_neg (nI_nlt (by omega) (by omega)), Nat.max_eq_left (by omega)]
    simp only [fX11_sharesFrom_6, if_neg (nI_ge hi (show n < 2 ^ 31 by omega)), rd_k (n := 4) (show i < 4 by omega), bnd_s, (hl i hi).1, e, nI_1]
  · simp only [fX11_sharesFrom_6, Int32.le_refl, if_true]
theorem mxC {h : ST} {n : Nat} (hn : n ≤ 4) {l : Nat → Nat} (hl : ∀ d, d < n → h 393 d = nI (l d) ∧ l d < 1000000) (R : ST → Int32 → Int32 → Int32 → Option (Int32 × ST)) (q : Int32) : lp FU (fX10_evenest_17 R h (nI n) q) (0, 0) = some (nI (mxl l n)) := by
  have bd : ∀ i, i ≤ n → mxl l i < 1000000 := fun i hi => Nat.lt_of_le_of_lt (mxl_lub (v := 999999) (fun d hd => by have := (hl d (by omega)).2; omega)) (by omega)
  refine lp_det (b := fX10_evenest_17 R h (nI n) q) (fun i => (nI (mxl l i), nI i)) n (by omega) (fun i hi => ?_) ?_
  · have e : (if nI (mxl l i) < nI (l i) then nI (l i) else nI (mxl l i)) = nI (mxl l (i + 1)) := by
      have b1 := bd i (by omega)
      have b2 := (hl i hi).2
      show _ = nI (max (mxl l i) (l i))
      by_cases c : mxl l i < l i
      · rw [if_pos (nI_lt c (by omega)), Nat.max_eq_right (by omega)]
      · rw [if_neg (nI_nlt (by omega) (by omega)), Nat.max_eq_left (by omega)]
    simp only [fX10_evenest_17, if_neg (nI_ge hi (show n < 2 ^ 31 by omega)), rd_k (n := 4) (show i < 4 by omega), bnd_s, (hl i hi).1, e, nI_1]
  · simp only [fX10_evenest_17, Int32.le_refl, if_true]
theorem sh_s (k : Nat) (h : ST) (a b c : Int32) : fX11_sharesFrom (k + 1) h a b c = fX11_sharesFrom_b (fX11_sharesFrom k) h a b c := by rw [fX11_sharesFrom]
theorem ev_s (k : Nat) (h : ST) (a b c : Int32) : fX10_evenest (k + 1) h a b c = fX10_evenest_b (fX10_evenest k) h a b c := by rw [fX10_evenest]
theorem nI_min {a b : Nat} (ha : a < 2 ^ 31) (hb : b < 2 ^ 31) : (if nI a < nI b then nI a else nI b) = nI (min a b) := by
  by_cases c : a < b
  · rw [if_pos (nI_lt c hb), Nat.min_eq_left (by omega)]
  · rw [if_neg (nI_nlt (by omega) ha), Nat.min_eq_right (by omega)]
theorem sharesM {n : Nat} (h1 : 1 ≤ n) (hn : n ≤ 4) {N : Nat} (hN : N ≤ 9) {dv : Nat → Nat} (hdv : ∀ i, i < N → dv i ≤ 9999) : ∀ k dd i l h b, i + k = N → k < dd → h 3 0 = nI N → (∀ j, j < N → h 19 j = nI (dv j)) → (∀ d, d < n → h 31 d = nI (l d) ∧ l d ≤ 9999 * i) → b ≤ 1000000 →
    ∃ y, fX11_sharesFrom dd h (nI i) (nI n) (nI b) = some (nI (min b (Ts n dv k i l)), y) ∧ (∀ d, d < n → y 31 d = nI (l d)) ∧ Fr [31] h y := by
  intro k
  induction k with
  | zero =>
    intro dd i l h b hi hd h3 hD hl hb
    obtain ⟨dd, rfl⟩ : ∃ k, dd = k + 1 := ⟨dd - 1, by omega⟩
    have m := mxM hn (h := h) (l := l) (fun d hd => ⟨(hl d hd).1, by have := (hl d hd).2; omega⟩) (fX11_sharesFrom dd) (nI i) (nI b)
    have mb' : mxl l n ≤ 89991 := mxl_lub (fun d hd => by have := (hl d hd).2; omega)
    rw [sh_s]
    refine ⟨h, ?_, fun d hd => (hl d hd).1, Fr.rf⟩
    show _ = some (nI (min b (mxl l n)), h)
    unfold fX11_sharesFrom_b
    rw [m, bnd_s]
    by_cases c : mxl l n < b
    · rw [if_pos (nI_lt c (by omega)), rd_0 (by decide) (by decide), bnd_s, h3, if_pos (by rw [show i = N by omega]), Nat.min_eq_right (by omega)]
    · rw [if_neg (nI_nlt (by omega) (by omega)), Nat.min_eq_left (by omega)]
  | succ k ih =>
    intro dd i l h b hi hd h3 hD hl hb
    obtain ⟨dd, rfl⟩ : ∃ k, dd = k + 1 := ⟨dd - 1, by omega⟩
    have m := mxM hn (h := h) (l := l) (fun d hd => ⟨(hl d hd).1, by have := (hl d hd).2; omega⟩) (fX11_sharesFrom dd) (nI i) (nI b)
    have mb' : mxl l n ≤ 89991 := mxl_lub (fun d hd => by have := (hl d hd).2; omega)
    rw [sh_s]
    by_cases c : mxl l n < b
    · have main : ∃ r, lp FU (fX11_sharesFrom_59 (fX11_sharesFrom dd) (nI i) (nI n)) (h, nI b, 0) = some r ∧ r.2 = nI (mb (fun d => Ts n dv k (i + 1) (uN l d (l d + dv i))) b n) ∧ (∀ d, d < n → r.1 31 d = nI (l d)) ∧ Fr [31] h r.1 := by
        refine lp_cnt (b := fX11_sharesFrom_59 (fX11_sharesFrom dd) (nI i) (nI n)) (fun t s => s.2.2 = nI t ∧ s.2.1 = nI (mb (fun d => Ts n dv k (i + 1) (uN l d (l d + dv i))) b t) ∧ (∀ d, d < n → s.1 31 d = nI (l d)) ∧ Fr [31] h s.1) n (by omega) ?_ ?_ ⟨rfl, rfl, fun d hd => (hl d hd).1, Fr.rf⟩
        · rintro t ⟨s, p, q⟩ ht ⟨rfl, rfl, s1, s2⟩
          dsimp only at s1 s2
          have D1 : s 19 i = nI (dv i) := by rw [s2 19 (by decide)]; exact hD i (by omega)
          have dvi := hdv i (by omega)
          obtain ⟨x, ex⟩ : ∃ x, x = up2 s 31 t (nI (l t + dv i)) := ⟨_, rfl⟩
          have xk : ∀ j, j ≠ 31 → x j = s j := fun j hj => by rw [ex, up2_n hj]
          have b2 := mb_le0 (F := fun d => Ts n dv k (i + 1) (uN l d (l d + dv i))) (b := b) t
          obtain ⟨y, y1, y2, y3⟩ := ih dd (i + 1) (uN l t (l t + dv i)) x (mb (fun d => Ts n dv k (i + 1) (uN l d (l d + dv i))) b t) (by omega) (by omega) (by rw [xk 3 (by decide), s2 3 (by decide)]; exact h3) (fun j hj => by rw [xk 19 (by decide), s2 19 (by decide)]; exact hD j hj) (fun d hd => by
            rw [ex, up2_s]
            have e1 := (hl d hd).2
            by_cases u : d = t
            · rw [u] at e1
              rw [u, upd_s, uN_s]
              exact ⟨rfl, by omega⟩
            · rw [upd_n u, uN_n u]
              exact ⟨s1 d hd, by omega⟩) (by omega)
          have yt : y 31 t = nI (l t + dv i) := by rw [y2 t ht, uN_s]
          have y19 : y 19 i = nI (dv i) := by rw [y3 19 (by decide), xk 19 (by decide)]; exact D1
          have back : nI (l t + dv i) - nI (dv i) = nI (l t) := by rw [nI_sub (by omega), Nat.add_sub_cancel]
          refine Or.inl ⟨(up2 y 31 t (nI (l t)), nI (mb (fun d => Ts n dv k (i + 1) (uN l d (l d + dv i))) b (t + 1)), nI (t + 1)), ?_, rfl, rfl, fun d hd => ?_, ?_⟩
          · simp only [fX11_sharesFrom_59, if_neg (nI_ge ht (show n < 2 ^ 31 by omega)), rd_k (n := 4) (show t < 4 by omega), bnd_s, s1 t ht, rd_k (n := 9) (show i < 9 by omega), D1, nI_add, wr_k (n := 4) (show t < 4 by omega), ← ex, nI_1, y1, yt, y19, back]
            rfl
          · dsimp only
            rw [up2_s]
            by_cases u : d = t
            · rw [u, upd_s]
            · rw [upd_n u, y2 d hd, uN_n u]
          · have f1 : Fr [31] h x := by rw [ex]; exact s2.up (by decide)
            exact (f1.tr y3).up (by decide)
        · rintro ⟨s, p, q⟩ ⟨rfl, rfl, s1, s2⟩
          exact ⟨(s, nI (mb (fun d => Ts n dv k (i + 1) (uN l d (l d + dv i))) b n)), by simp only [fX11_sharesFrom_59, Int32.le_refl, if_true], rfl, s1, s2⟩
      obtain ⟨⟨y, p⟩, r1, rfl, r2, r3⟩ := main
      refine ⟨y, ?_, r2, r3⟩
      unfold fX11_sharesFrom_b
      have ne : ¬ nI i = nI N := fun q => by
        have := (nI_eq (by omega) (by omega)).mp q
        omega
      rw [m, bnd_s, if_pos (nI_lt c (by omega)), rd_0 (by decide) (by decide), bnd_s, h3, if_neg ne, r1, bnd_s, Ts_mb h1]
    · refine ⟨h, ?_, fun d hd => (hl d hd).1, Fr.rf⟩
      unfold fX11_sharesFrom_b
      have g := Ts_ge h1 (dv := dv) (k + 1) i l
      rw [m, bnd_s, if_neg (nI_nlt (by omega) (by omega)), Nat.min_eq_left (by omega)]
