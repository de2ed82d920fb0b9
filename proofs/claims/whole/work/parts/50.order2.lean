/-! ===== order: the class's next row ===== -/
def fi (g : Nat → Nat) : Nat → Option Nat
  | 0 => none
  | k + 1 => if g k ≤ g (k + 1) then some k else fi g k
def fj (g : Nat → Nat) (i : Nat) : Nat → Nat
  | 0 => 0
  | k + 1 => if k + 1 ≤ i then k + 1 else if g i ≤ g (k + 1) then k + 1 else fj g i k
def sw (g : Nat → Nat) (i j : Nat) (q : Nat) : Nat := if q = j then g i else if q = i then g j else g q
def nxt (g : Nat → Nat) (n : Nat) : Option (Nat → Nat) := match fi g (n - 1) with
  | none => none
  | some i => some fun q => if i < q ∧ q < n then sw g i (fj g i (n - 1)) (n + i - q) else sw g i (fj g i (n - 1)) q
theorem fi_lt {g : Nat → Nat} : ∀ {k i : Nat}, fi g k = some i → i < k
  | 0, i, h => by cases h
  | k + 1, i, h => by
    unfold fi at h
    by_cases c : g k ≤ g (k + 1)
    · rw [if_pos c] at h; cases h; omega
    · rw [if_neg c] at h; have := fi_lt h; omega
theorem fj_le {g : Nat → Nat} {i : Nat} : ∀ k, fj g i k ≤ k
  | 0 => Nat.le_refl 0
  | k + 1 => by
    unfold fj
    by_cases c : k + 1 ≤ i
    · rw [if_pos c]; omega
    · rw [if_neg c]
      by_cases d : g i ≤ g (k + 1)
      · rw [if_pos d]; omega
      · rw [if_neg d]; have := fj_le (g := g) (i := i) k; omega
theorem next4 {h : ST} {n : Nat} (hn : n ≤ 5) {g : Nat → Nat} (hg : ∀ q, q < n → h 390 q = nI (g q) ∧ g q < 5) (p : Int32) (h1 : 1 ≤ n) : ∃ x, lp FU (fX10_nextRow_4 h 390 5 p) (nI (n - 1) - 1) = some x ∧ ((fi g (n - 1) = none ∧ x = -1) ∨ ∃ i, fi g (n - 1) = some i ∧ x = nI i) := by
  refine lp_cnt (b := fX10_nextRow_4 h 390 5 p) (fun i s => s = nI (n - 1 - i) - 1 ∧ fi g (n - 1) = fi g (n - 1 - i)) (n - 1) (by omega) ?_ ?_ ⟨rfl, rfl⟩
  · rintro i s hi ⟨rfl, e⟩
    obtain ⟨k, ek⟩ : ∃ k, n - 1 - i = k + 1 := ⟨n - 1 - i - 1, by omega⟩
    rw [ek] at e ⊢
    rw [nI_pred]
    have g1 := hg k (by omega)
    have g2 := hg (k + 1) (by omega)
    have nx : n - 1 - (i + 1) = k := by omega
    by_cases c : g k ≤ g (k + 1)
    · have e2 : fi g (k + 1) = some k := by unfold fi; rw [if_pos c]
      refine Or.inr ⟨nI k, ?_, Or.inr ⟨k, e.trans e2, rfl⟩⟩
      simp only [fX10_nextRow_4, if_neg (nI_pos (show k < 2 ^ 31 by omega)), rd_k (n := 5) (show k < 5 by omega), nI_1, rd_k (n := 5) (show k + 1 < 5 by omega), bnd_s, g1.1, g2.1, if_pos (nI_le c (show g (k + 1) < 2 ^ 31 by omega))]
    · have e2 : fi g (k + 1) = fi g k := by rw [fi, if_neg c]
      refine Or.inl ⟨nI k - 1, ?_, by rw [nx], by rw [nx]; exact e.trans e2⟩
      have m1 : nI k + (-1) = nI k - 1 := by rw [Int32.sub_eq_add_neg]
      simp only [fX10_nextRow_4, if_neg (nI_pos (show k < 2 ^ 31 by omega)), rd_k (n := 5) (show k < 5 by omega), nI_1, rd_k (n := 5) (show k + 1 < 5 by omega), bnd_s, g1.1, g2.1, if_neg (nI_ge (show g (k + 1) < g k by omega) (show g k < 2 ^ 31 by omega)), m1]
  · rintro s ⟨rfl, e⟩
    rw [Nat.sub_self] at e ⊢
    refine ⟨-1, ?_, Or.inl ⟨e, rfl⟩⟩
    unfold fX10_nextRow_4
    rw [if_pos (show nI 0 - 1 < 0 by decide)]
    rfl
theorem next35 {h : ST} {n : Nat} (hn : n ≤ 5) {g : Nat → Nat} (hg : ∀ q, q < n → h 390 q = nI (g q) ∧ g q < 5) (p : Int32) {i : Nat} (hi : i + 1 < n) : lp FU (fX10_nextRow_35 h 390 5 p (nI i)) (nI (n - 1)) = some (nI (fj g i (n - 1))) := by
  have main : ∃ x, lp FU (fX10_nextRow_35 h 390 5 p (nI i)) (nI (n - 1)) = some x ∧ x = nI (fj g i (n - 1)) := by
    refine lp_cnt (b := fX10_nextRow_35 h 390 5 p (nI i)) (fun t s => s = nI (n - 1 - t) ∧ fj g i (n - 1) = fj g i (n - 1 - t)) (n - 1) (by omega) ?_ ?_ ⟨rfl, rfl⟩
    · rintro t s ht ⟨rfl, e⟩
      obtain ⟨k, ek⟩ : ∃ k, n - 1 - t = k + 1 := ⟨n - 1 - t - 1, by omega⟩
      rw [ek] at e ⊢
      have nx : n - 1 - (t + 1) = k := by omega
      by_cases c : k + 1 ≤ i
      · have e2 : fj g i (k + 1) = k + 1 := by rw [fj, if_pos c]
        refine Or.inr ⟨nI (k + 1), ?_, by rw [e, e2]⟩
        simp only [fX10_nextRow_35, if_pos (nI_le c (show i < 2 ^ 31 by omega))]
      · have g1 := hg (k + 1) (by omega)
        have g2 := hg i (by omega)
        by_cases d : g i ≤ g (k + 1)
        · have e2 : fj g i (k + 1) = k + 1 := by rw [fj, if_neg c, if_pos d]
          refine Or.inr ⟨nI (k + 1), ?_, by rw [e, e2]⟩
          simp only [fX10_nextRow_35, if_neg (nI_ge (show i < k + 1 by omega) (show k + 1 < 2 ^ 31 by omega)), rd_k (n := 5) (show k + 1 < 5 by omega), rd_k (n := 5) (show i < 5 by omega), bnd_s, g1.1, g2.1, if_pos (nI_le d (show g (k + 1) < 2 ^ 31 by omega))]
        · have e2 : fj g i (k + 1) = fj g i k := by rw [fj, if_neg c, if_neg d]
          refine Or.inl ⟨nI k, ?_, by rw [nx], by rw [nx]; exact e.trans e2⟩
          simp only [fX10_nextRow_35, if_neg (nI_ge (show i < k + 1 by omega) (show k + 1 < 2 ^ 31 by omega)), rd_k (n := 5) (show k + 1 < 5 by omega), rd_k (n := 5) (show i < 5 by omega), bnd_s, g1.1, g2.1, if_neg (nI_ge (show g (k + 1) < g i by omega) (show g i < 2 ^ 31 by omega)), nI_m1]
    · rintro s ⟨rfl, e⟩
      rw [Nat.sub_self] at e ⊢
      refine ⟨nI 0, ?_, by rw [e]; rfl⟩
      simp only [fX10_nextRow_35, if_pos (nI_le (show 0 ≤ i by omega) (show i < 2 ^ 31 by omega))]
  obtain ⟨x, x1, rfl⟩ := main
  exact x1
theorem swapC {h : ST} {n : Nat} (hn : n ≤ 5) {g : Nat → Nat} (hg : ∀ q, q < n → h 390 q = nI (g q)) {i j : Nat} (hi : i < n) (hj : j < n) : ∃ y, fX10_swap h 390 5 (nI i) (nI j) = some y ∧ (∀ q, q < n → y 390 q = nI (sw g i j q)) ∧ Fr [390] h y := by
  refine ⟨up2 (up2 h 390 i (nI (g j))) 390 j (nI (g i)), ?_, fun q hq => ?_, (Fr.rf.up (by decide)).up (by decide)⟩
  · simp only [fX10_swap, rd_k (n := 5) (show i < 5 by omega), rd_k (n := 5) (show j < 5 by omega), bnd_s, hg i hi, hg j hj, wr_k (n := 5) (show i < 5 by omega), wr_k (n := 5) (show j < 5 by omega)]
  · rw [up2_s, up2_s]
    unfold sw
    by_cases c : q = j
    · rw [c, upd_s, if_pos rfl]
    · rw [upd_n c, if_neg c]
      by_cases d : q = i
      · rw [d, upd_s, if_pos rfl]
      · rw [upd_n d, if_neg d]; exact hg q hq
theorem revC {h : ST} {n : Nat} (hn : n ≤ 5) {g : Nat → Nat} (hg : ∀ q, q < n → h 390 q = nI (g q)) {i : Nat} (hi : i + 1 < n) : ∃ y, lp FU (fX10_nextRow_71 390 5) (h, nI (i + 1), nI (n - 1)) = some y ∧ (∀ q, q < n → y 390 q = nI (if i < q ∧ q < n then g (n + i - q) else g q)) ∧ Fr [390] h y := by
  refine lp_cnt (b := fX10_nextRow_71 390 5) (fun t s => s.2.1 = nI (i + 1 + t) ∧ s.2.2 = nI (n - 1 - t) ∧ (∀ q, q < n → s.1 390 q = nI (if (i < q ∧ q < i + 1 + t) ∨ (n - 1 - t < q ∧ q < n) then g (n + i - q) else g q)) ∧ Fr [390] h s.1) ((n - 1 - i) / 2) (by omega) ?_ ?_ ⟨rfl, rfl, fun q hq => ?_, Fr.rf⟩
  · rintro t ⟨s, l, r⟩ ht ⟨rfl, rfl, s1, s2⟩
    dsimp only at s1 s2
    have q1 : ¬ nI (n - 1 - t) ≤ nI (i + 1 + t) := nI_ge (by omega) (by omega)
    obtain ⟨y, y1, y2, y3⟩ := swapC hn (h := s) (g := fun q => if (i < q ∧ q < i + 1 + t) ∨ (n - 1 - t < q ∧ q < n) then g (n + i - q) else g q) s1 (i := i + 1 + t) (j := n - 1 - t) (by omega) (by omega)
    obtain ⟨k, ek⟩ : ∃ k, n - 1 - t = k + 1 := ⟨n - 1 - t - 1, by omega⟩
    refine Or.inl ⟨(y, nI (i + 1 + (t + 1)), nI (n - 1 - (t + 1))), ?_, rfl, rfl, fun q hq => ?_, s2.tr y3⟩
    · rw [ek] at q1 y1 ⊢
      rw [show n - 1 - (t + 1) = k by omega, show i + 1 + (t + 1) = i + 1 + t + 1 by omega]
      simp only [fX10_nextRow_71, if_neg q1, y1, bnd_s, nI_1, nI_m1]
    · dsimp only
      rw [y2 q hq]
      congr 1
      unfold sw
      dsimp only
      by_cases c : q = n - 1 - t
      · rw [if_pos c, if_neg (by omega), if_pos (by omega)]
        congr 1
        omega
      · rw [if_neg c]
        by_cases d : q = i + 1 + t
        · rw [if_pos d, if_neg (by omega), if_pos (by omega)]
          congr 1
          omega
        · rw [if_neg d]
          by_cases e : (i < q ∧ q < i + 1 + t) ∨ (n - 1 - t < q ∧ q < n)
          · rw [if_pos e, if_pos (by omega)]
          · rw [if_neg e, if_neg (by omega)]
  · rintro ⟨s, l, r⟩ ⟨rfl, rfl, s1, s2⟩
    dsimp only at s1 s2
    refine ⟨s, by simp only [fX10_nextRow_71, if_pos (nI_le (show n - 1 - (n - 1 - i) / 2 ≤ i + 1 + (n - 1 - i) / 2 by omega) (by omega))], fun q hq => ?_, s2⟩
    rw [s1 q hq]
    congr 1
    by_cases c : i < q ∧ q < n
    · rw [if_pos c]
      by_cases d : (i < q ∧ q < i + 1 + (n - 1 - i) / 2) ∨ (n - 1 - (n - 1 - i) / 2 < q ∧ q < n)
      · rw [if_pos d]
      · rw [if_neg d]
        congr 1
        omega
    · rw [if_neg c, if_neg (by omega)]
  · rw [if_neg (by omega)]
    exact hg q hq
theorem nextC {h : ST} {n : Nat} (hn : n ≤ 5) {g : Nat → Nat} (hg : ∀ q, q < n → h 390 q = nI (g q) ∧ g q < 5) : (nxt g n = none ∧ fX10_nextRow h 390 5 (nI n) = some (0, h)) ∨ ∃ g' y, nxt g n = some g' ∧ fX10_nextRow h 390 5 (nI n) = some (1, y) ∧ (∀ q, q < n → y 390 q = nI (g' q)) ∧ Fr [390] h y := by
  rcases Nat.eq_zero_or_pos n with rfl | np
  · refine Or.inl ⟨rfl, ?_⟩
    have e0 : fX10_nextRow_4 h 390 5 (nI 0) (nI 0 - 2) = some (.inr (nI 0 - 2)) := by
      unfold fX10_nextRow_4
      rw [if_pos (show nI 0 - 2 < 0 by decide)]
    have l0 : lp FU (fX10_nextRow_4 h 390 5 (nI 0)) (nI 0 - 2) = some (nI 0 - 2) := lp_r (n := 999999) (b := fX10_nextRow_4 h 390 5 (nI 0)) (s := nI 0 - 2) e0
    unfold fX10_nextRow fX10_nextRow_25
    rw [l0, bnd_s, if_neg (show ¬ 0 ≤ nI 0 - 2 by decide)]
  · have s0 : nI n - 2 = nI (n - 1) - 1 := by
      obtain ⟨k, rfl⟩ : ∃ k, n = k + 1 := ⟨n - 1, by omega⟩
      have : k = 0 ∨ k = 1 ∨ k = 2 ∨ k = 3 ∨ k = 4 := by omega
      rcases this with rfl | rfl | rfl | rfl | rfl <;> decide
    obtain ⟨x, x1, x2⟩ := next4 hn hg (nI n) np
    rcases x2 with ⟨e, rfl⟩ | ⟨i, e, rfl⟩
    · refine Or.inl ⟨by unfold nxt; rw [e], ?_⟩
      unfold fX10_nextRow fX10_nextRow_25
      rw [s0, x1, bnd_s, if_neg (show ¬ (0 : Int32) ≤ -1 by decide)]
    · have hi := fi_lt e
      have l2 := next35 hn hg (nI n) (i := i) (by omega)
      have fl := fj_le (g := g) (i := i) (n - 1)
      obtain ⟨y, y1, y2, y3⟩ := swapC hn (h := h) (fun q hq => (hg q hq).1) (i := i) (j := fj g i (n - 1)) (by omega) (by omega)
      obtain ⟨z, z1, z2, z3⟩ := revC hn (h := y) y2 (i := i) (by omega)
      refine Or.inr ⟨_, z, by unfold nxt; rw [e], ?_, z2, y3.tr z3⟩
      have p1 : nI n - 1 = nI (n - 1) := nI_sub (b := 1) np
      unfold fX10_nextRow fX10_nextRow_25 fX10_nextRow_55
      rw [s0, x1, bnd_s, if_pos (nI_pos' (show i < 2 ^ 31 by omega)), p1, l2, bnd_s, y1, bnd_s, nI_1, z1, bnd_s]
/-! all rows, in order -/
def okChain (n : Nat) : List (List Nat) → Bool
  | [] => true
  | [r] => (nxt (fun j => r.getD j 0) n).isNone
  | r :: r' :: t => (match nxt (fun j => r.getD j 0) n with
    | none => false
    | some g => (List.range n).all fun q => g q == r'.getD q 0) && okChain n (r' :: t)
def okRows (n : Nat) : Bool := okChain n (rowsF n n []) && decide (1 ≤ (rowsF n n []).length) && decide ((rowsF n n []).length ≤ 120) && (rowsF n n []).all (fun r => (List.range n).all fun j => decide (r.getD j 0 < n)) && (List.range n).all (fun j => ((rowsF n n []).headD []).getD j 0 == j)
theorem rows_ok : okRows 0 = true ∧ okRows 1 = true ∧ okRows 2 = true ∧ okRows 3 = true ∧ okRows 4 = true ∧ okRows 5 = true := by decide +kernel
