/-! ===== parish: the ways of a told parish ===== -/
def stV (q : Nat) (V : Nat → Nat → Nat) : Nat → Nat → Nat := fun a b => min (V a b) (V a q + V q b)
def clsV (v : Nat) : Int32 := if v = 1000000 then -1 else nI v
def RV (nr K : Nat) (V : Nat → Nat → Nat) : Prop := (∀ a, a < 9 → V a a = 0) ∧ (∀ a b, a < 9 → b < 9 → ¬ (a < nr ∧ b < nr) → a ≠ b → V a b = 1000000) ∧ ∀ a b, a < nr → b < nr → V a b = 1000000 ∨ V a b ≤ K
theorem RV.le {nr K : Nat} {V : Nat → Nat → Nat} (h : RV nr K V) (hK : K ≤ 1000000) {a b : Nat} (ha : a < 9) (hb : b < 9) : V a b ≤ 1000000 := by
  by_cases c : a < nr ∧ b < nr
  · rcases h.2.2 a b c.1 c.2 with e | e <;> omega
  · by_cases d : a = b
    · rw [d, h.1 b hb]; omega
    · rw [h.2.1 a b ha hb c d]; omega
theorem RV.step {nr K : Nat} {V : Nat → Nat → Nat} (h9 : nr ≤ 9) (h : RV nr K V) (hK : K ≤ 400000) {q : Nat} (hq : q < 9) : RV nr (2 * K) (stV q V) := by
  refine ⟨fun a ha => ?_, fun a b ha hb c d => ?_, fun a b ha hb => ?_⟩
  · unfold stV
    rw [h.1 a ha]; omega
  · unfold stV
    rw [h.2.1 a b ha hb c d]
    by_cases a1 : a < nr
    · have b1 : ¬ b < nr := fun z => c ⟨a1, z⟩
      by_cases e : q = b
      · rw [e, h.2.1 a b ha hb c d]; omega
      · rw [h.2.1 q b hq hb (fun z => b1 z.2) e]; omega
    · by_cases e : a = q
      · rw [← e, h.2.1 a b ha hb c d]; omega
      · rw [h.2.1 a q ha hq (fun z => a1 z.1) e]; omega
  · have e1 := h.2.2 a b ha hb
    have e2 : V a q = 1000000 ∨ V a q ≤ K := by
      by_cases c : q < nr
      · exact h.2.2 a q ha c
      · exact Or.inl (h.2.1 a q (by omega) hq (fun z => c z.2) (by omega))
    have e3 : V q b = 1000000 ∨ V q b ≤ K := by
      by_cases c : q < nr
      · exact h.2.2 q b c hb
      · exact Or.inl (h.2.1 q b hq (by omega) (fun z => c z.1) (by omega))
    unfold stV
    omega
theorem stV_out {nr K : Nat} {V : Nat → Nat → Nat} (h9 : nr ≤ 9) (h : RV nr K V) (hK : K ≤ 1000000) {q : Nat} (hq : q < 9) (hn : nr ≤ q) {a b : Nat} (ha : a < nr) (hb : b < nr) : stV q V a b = V a b := by
  have e := h.2.1 a q (by omega) hq (fun z => by omega) (by omega)
  have l := h.le hK (show a < 9 by omega) (show b < 9 by omega)
  unfold stV
  rw [e]; omega
theorem mn2_k {a b : Nat} (ha : a < 2 ^ 31) (hb : b < 2 ^ 31) : mn2 (nI a) (nI b) = nI (min a b) := nI_min ha hb
theorem wRow_k {q : Nat} (hq : q < 9) {w : Nat → Int32} {V : Nat → Nat → Nat} (hw : ∀ k, k < 81 → w k = nI (V (k / 9) (k % 9))) (hd : V q q = 0) (hm : ∀ a b, a < 9 → b < 9 → V a b ≤ 1000000) :
    ∀ n, n ≤ 81 → ∀ k, k < 81 → wRow q n w k = nI (if k < n then stV q V (k / 9) (k % 9) else V (k / 9) (k % 9))
  | 0, _, k, hk => by rw [if_neg (Nat.not_lt_zero k)]; exact hw k hk
  | n + 1, hn, k, hk => by
    have ih := wRow_k hq hw hd hm n (by omega)
    show upd (wRow q n w) n (mn2 (wRow q n w n) (wRow q n w (n - n % 9 + q) + wRow q n w (9 * q + n % 9))) k = _
    by_cases c : k = n
    · subst c
      have i1 : (k - k % 9 + q) / 9 = k / 9 := by omega
      have i2 : (k - k % 9 + q) % 9 = q := by omega
      have i3 : (9 * q + k % 9) / 9 = q := by omega
      have i4 : (9 * q + k % 9) % 9 = k % 9 := by omega
      have s1 : ∀ a, stV q V a q = V a q := fun a => by unfold stV; rw [hd]; omega
      have s2 : ∀ b, stV q V q b = V q b := fun b => by unfold stV; rw [hd]; omega
      have e1 : wRow q k w (k - k % 9 + q) = nI (V (k / 9) q) := by
        rw [ih _ (by omega), i1, i2, s1, ite_self]
      have e2 : wRow q k w (9 * q + k % 9) = nI (V q (k % 9)) := by
        rw [ih _ (by omega), i3, i4, s2, ite_self]
      have e3 : wRow q k w k = nI (V (k / 9) (k % 9)) := by rw [ih _ hk, if_neg (Nat.lt_irrefl k)]
      have l1 := hm (k / 9) (k % 9) (by omega) (by omega)
      have l2 := hm (k / 9) q (by omega) hq
      have l3 := hm q (k % 9) hq (by omega)
      rw [upd_s, e1, e2, e3, nI_add, mn2_k (by omega) (by omega), if_pos (Nat.lt_succ_self k)]; rfl
    · rw [upd_n c, ih k hk]
      by_cases d : k < n
      · rw [if_pos d, if_pos (by omega)]
      · rw [if_neg d, if_neg (by omega)]
def VA (V : Nat → Nat → Nat) : Nat → Nat → Nat → Nat
  | 0 => V
  | i + 1 => stV i (VA V i)
theorem p18 : ∀ i, i ≤ 9 → 9 * 2 ^ i ≤ 4608 := by decide
theorem VA_R {nr : Nat} {V : Nat → Nat → Nat} (h9 : nr ≤ 9) (h : RV nr 9 V) : ∀ i, i ≤ 9 → RV nr (9 * 2 ^ i) (VA V i)
  | 0, _ => h
  | i + 1, hi => by
    have := (VA_R h9 h i (by omega)).step h9 (by have := p18 i (by omega); omega) (q := i) (by omega)
    rw [show 2 * (9 * 2 ^ i) = 9 * 2 ^ (i + 1) by rw [Nat.pow_succ]; omega] at this
    exact this
theorem wAll_k {nr : Nat} {w : Nat → Int32} {V : Nat → Nat → Nat} (h9 : nr ≤ 9) (h : RV nr 9 V) (hw : ∀ k, k < 81 → w k = nI (V (k / 9) (k % 9))) : ∀ i, i ≤ 9 → ∀ k, k < 81 → wAll i w k = nI (VA V i (k / 9) (k % 9))
  | 0, _, k, hk => hw k hk
  | i + 1, hi, k, hk => by
    have r := VA_R h9 h i (by omega)
    have p := p18 i (by omega)
    have := wRow_k (q := i) (by omega) (wAll_k h9 h hw i (by omega)) (r.1 i (by omega)) (fun a b ha hb => r.le (by omega) ha hb) 81 (Nat.le_refl _) k hk
    rw [if_pos hk] at this
    exact this
/-- rooms that nobody told go no way on -/
theorem VA_out {nr : Nat} {V : Nat → Nat → Nat} (h9 : nr ≤ 9) (h : RV nr 9 V) {a b : Nat} (ha : a < nr) (hb : b < nr) : ∀ i, nr + i ≤ 9 → VA V (nr + i) a b = VA V nr a b
  | 0, _ => rfl
  | i + 1, hi => by
    have p := p18 (nr + i) (by omega)
    have := stV_out h9 (VA_R h9 h (nr + i) (by omega)) (by omega) (q := nr + i) (by omega) (by omega) ha hb
    show stV (nr + i) (VA V (nr + i)) a b = _
    rw [this]; exact VA_out h9 h ha hb i (by omega)
theorem clsV_n {v : Nat} (h : v ≤ 5000) : clsV v = nI v := if_neg (by omega)
theorem clsV_m {v : Nat} (h : v = 1000000 ∨ v ≤ 5000) : clsV v = -1 ↔ v = 1000000 := by
  rcases h with h | h
  · rw [h]; exact ⟨fun _ => rfl, fun _ => rfl⟩
  · rw [clsV_n h]
    exact ⟨fun e => absurd e (nI_m1ne (by omega)), fun e => by omega⟩
theorem shortW {o nr q : Nat} {h : ST} {V : Nat → Nat → Nat} (hq : q < nr) (h9 : nr ≤ 9) (h0 : h o 0 = nI nr) (hX : ∀ a b, a < nr → b < nr → h (o + 16) (9 * a + b) = clsV (V a b)) (hK : ∀ a b, a < nr → b < nr → V a b = 1000000 ∨ V a b ≤ 2500) (hd : V q q = 0) :
    ∃ y, fX2_shortenBy h o (nI q) = some y ∧ (∀ a b, a < nr → b < nr → y (o + 16) (9 * a + b) = clsV (stV q V a b)) ∧ Fr [o + 16] h y := by
  have s1 : ∀ a, stV q V a q = V a q := fun a => by unfold stV; rw [hd]; omega
  have s2 : ∀ b, stV q V q b = V q b := fun b => by unfold stV; rw [hd]; omega
  obtain ⟨y, y1, y2, y3⟩ : ∃ y, lp FU (fX2_shortenBy_2 o (nI q)) (h, 0) = some y ∧ (∀ a b, a < nr → b < nr → y (o + 16) (9 * a + b) = clsV (if 9 * a + b < 9 * nr then stV q V a b else V a b)) ∧ Fr [o + 16] h y := by
    refine lp_cnt (b := fX2_shortenBy_2 o (nI q)) (fun i s => s.2 = nI i ∧ (∀ a b, a < nr → b < nr → s.1 (o + 16) (9 * a + b) = clsV (if 9 * a + b < 9 * i then stV q V a b else V a b)) ∧ Fr [o + 16] h s.1) nr (by omega) ?_ ?_ ⟨rfl, fun a b ha hb => by rw [if_neg (by omega)]; exact hX a b ha hb, Fr.rf⟩
    · rintro i ⟨s, u⟩ hi ⟨rfl, t1, t2⟩
      dsimp only at t1 t2
      have g0 : s o 0 = nI nr := by rw [t2 o (by simp only [List.mem_cons, List.not_mem_nil, or_false]; omega)]; exact h0
      obtain ⟨v, v1, v2, v3⟩ : ∃ v, lp FU (fX2_shortenBy_12 o (nI q) (nI i)) (s, 0) = some v ∧ (∀ a b, a < nr → b < nr → v (o + 16) (9 * a + b) = clsV (if 9 * a + b < 9 * i + nr then stV q V a b else V a b)) ∧ Fr [o + 16] h v := by
        refine lp_cnt (b := fX2_shortenBy_12 o (nI q) (nI i)) (fun j s => s.2 = nI j ∧ (∀ a b, a < nr → b < nr → s.1 (o + 16) (9 * a + b) = clsV (if 9 * a + b < 9 * i + j then stV q V a b else V a b)) ∧ Fr [o + 16] h s.1) nr (by omega) ?_ ?_ ⟨rfl, t1, t2⟩
        · rintro j ⟨r, u⟩ hj ⟨rfl, r1, r2⟩
          dsimp only at r1 r2
          have g0 : r o 0 = nI nr := by rw [r2 o (by simp only [List.mem_cons, List.not_mem_nil, or_false]; omega)]; exact h0
          have qn : ¬ nI nr ≤ nI j := nI_ge hj (by omega)
          have i1 : nI i * 9 + nI q = nI (9 * i + q) := by rw [show nI i * 9 = nI (i * 9) from nI_mul i 9, nI_add, Nat.mul_comm]
          have i2 : nI q * 9 + nI j = nI (9 * q + j) := by rw [show nI q * 9 = nI (q * 9) from nI_mul q 9, nI_add, Nat.mul_comm]
          have i3 : nI i * 9 + nI j = nI (9 * i + j) := by rw [show nI i * 9 = nI (i * 9) from nI_mul i 9, nI_add, Nat.mul_comm]
          have x1 : r (o + 16) (9 * i + q) = clsV (V i q) := by rw [r1 i q hi hq, s1, ite_self]
          have x2 : r (o + 16) (9 * q + j) = clsV (V q j) := by rw [r1 q j hq hj, s2, ite_self]
          have x3 : r (o + 16) (9 * i + j) = clsV (V i j) := by rw [r1 i j hi hj, if_neg (Nat.lt_irrefl _)]
          have k1 := hK i q hi hq
          have k2 := hK q j hq hj
          have k3 := hK i j hi hj
          have m1 := clsV_m (v := V i q) (by omega)
          have m2 := clsV_m (v := V q j) (by omega)
          have m3 := clsV_m (v := V i j) (by omega)
          have skip : stV q V i j = V i j → ∀ a b, a < nr → b < nr → r (o + 16) (9 * a + b) = clsV (if 9 * a + b < 9 * i + (j + 1) then stV q V a b else V a b) := fun e a b ha hb => by
            rw [r1 a b ha hb]
            by_cases c : 9 * a + b = 9 * i + j
            · have ea : a = i := by omega
              have eb : b = j := by omega
              subst ea eb
              rw [e, ite_self, ite_self]
            · by_cases d : 9 * a + b < 9 * i + j
              · rw [if_pos d, if_pos (by omega)]
              · rw [if_neg d, if_neg (by omega)]
          have hd2 : fX2_shortenBy_12 o (nI q) (nI i) (r, nI j) = if clsV (V i q) = -1 then fX2_shortenBy_88 r o (nI q) (nI i) (nI j) else if clsV (V q j) = -1 then fX2_shortenBy_88 r o (nI q) (nI i) (nI j) else bnd (fX10_shorter r (clsV (V i j)) (clsV (V i q) + clsV (V q j))) fun r11 => fX2_shortenBy_88 (up2 r (o + 16) (9 * i + j) r11) o (nI q) (nI i) (nI j) := by
            unfold fX2_shortenBy_12
            dsimp only
            rw [if_neg (show ¬ r o 0 ≤ nI j by rw [g0]; exact qn), i1, i2, i3, rd_k (n := 81) (show 9 * i + q < 81 by omega), bnd_s, rd_k (n := 81) (show 9 * q + j < 81 by omega), bnd_s, rd_k (n := 81) (show 9 * i + j < 81 by omega), bnd_s, x1, x2, x3]
            simp only [wr_k (n := 81) (show 9 * i + j < 81 by omega), bnd_s]
          left
          by_cases c1 : V i q = 1000000
          · refine ⟨(r, nI (j + 1)), ?_, rfl, skip (by unfold stV; omega), r2⟩
            rw [hd2, if_pos (m1.mpr c1)]; unfold fX2_shortenBy_88; rw [nI_1]
          by_cases c2 : V q j = 1000000
          · refine ⟨(r, nI (j + 1)), ?_, rfl, skip (by unfold stV; omega), r2⟩
            rw [hd2, if_neg (fun z => c1 (m1.mp z)), if_pos (m2.mpr c2)]; unfold fX2_shortenBy_88; rw [nI_1]
          have sh : fX10_shorter r (clsV (V i j)) (clsV (V i q) + clsV (V q j)) = some (clsV (stV q V i j)) := by
            have l1 : V i q ≤ 2500 := k1.resolve_left c1
            have l2 : V q j ≤ 2500 := k2.resolve_left c2
            rw [clsV_n (v := V i q) (by omega), clsV_n (v := V q j) (by omega), nI_add]
            unfold fX10_shorter fX10_shorter_10 fX10_shorter_20
            by_cases c3 : V i j = 1000000
            · rw [if_pos (m3.mpr c3), if_pos (m3.mpr c3)]
              have e : stV q V i j = V i q + V q j := by unfold stV; omega
              rw [e, clsV_n (by omega)]
            · have l3 : V i j ≤ 2500 := k3.resolve_left c3
              rw [if_neg (fun z => c3 (m3.mp z)), if_neg (nI_m1ne (by omega)), clsV_n (v := V i j) (by omega), nI_min (by omega) (by omega)]
              have e : stV q V i j = min (V i q + V q j) (V i j) := by unfold stV; omega
              rw [e, clsV_n (by omega)]
          refine ⟨(up2 r (o + 16) (9 * i + j) (clsV (stV q V i j)), nI (j + 1)), ?_, rfl, fun a b ha hb => ?_, r2.up (by simp only [List.mem_cons, List.not_mem_nil, or_false, true_or, or_true])⟩
          · rw [hd2, if_neg (fun z => c1 (m1.mp z)), if_neg (fun z => c2 (m2.mp z)), sh, bnd_s]; unfold fX2_shortenBy_88; rw [nI_1]
          · dsimp only
            by_cases c : 9 * a + b = 9 * i + j
            · have ea : a = i := by omega
              have eb : b = j := by omega
              subst ea eb
              rw [up2_ss, if_pos (by omega)]
            · rw [up2_sn c, r1 a b ha hb]
              by_cases d : 9 * a + b < 9 * i + j
              · rw [if_pos d, if_pos (by omega)]
              · rw [if_neg d, if_neg (by omega)]
        · rintro ⟨r, u⟩ ⟨rfl, r1, r2⟩
          dsimp only at r1 r2
          have g0 : r o 0 = nI nr := by rw [r2 o (by simp only [List.mem_cons, List.not_mem_nil, or_false]; omega)]; exact h0
          refine ⟨r, ?_, r1, r2⟩
          unfold fX2_shortenBy_12
          dsimp only
          rw [if_pos (show r o 0 ≤ nI nr by rw [g0]; exact Int32.le_refl _)]
      left
      refine ⟨(v, nI (i + 1)), ?_, rfl, fun a b ha hb => ?_, v3⟩
      · unfold fX2_shortenBy_2
        dsimp only
        rw [if_neg (show ¬ s o 0 ≤ nI i by rw [g0]; exact nI_ge hi (by omega)), v1, bnd_s, nI_1]
      · dsimp only
        rw [v2 a b ha hb]
        by_cases d : 9 * a + b < 9 * i + nr
        · rw [if_pos d, if_pos (by omega)]
        · rw [if_neg d, if_neg (by omega)]
    · rintro ⟨s, u⟩ ⟨rfl, t1, t2⟩
      dsimp only at t1 t2
      have g0 : s o 0 = nI nr := by rw [t2 o (by simp only [List.mem_cons, List.not_mem_nil, or_false]; omega)]; exact h0
      refine ⟨s, ?_, t1, t2⟩
      unfold fX2_shortenBy_2
      dsimp only
      rw [if_pos (show s o 0 ≤ nI nr by rw [g0]; exact Int32.le_refl _)]
  refine ⟨y, by unfold fX2_shortenBy; rw [y1, bnd_s], fun a b ha hb => ?_, y3⟩
  rw [y2 a b ha hb, if_pos (by omega)]
