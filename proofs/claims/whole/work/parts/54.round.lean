/-! ===== round: sets of rooms as numbers, the shortest walks ===== -/
def nb (a b : Nat) : Nat := a &&& (511 ^^^ b)
theorem bit_hi {a i : Nat} (h : a < 512) (hi : 9 ≤ i) : a.testBit i = false := Nat.testBit_lt_two_pow (Nat.lt_of_lt_of_le (show a < 2 ^ 9 from h) (Nat.pow_le_pow_right (by decide) hi))
theorem t511 : ∀ i, i < 9 → (511 : Nat).testBit i = true := by decide
theorem nb_t {a b : Nat} (ha : a < 512) (i : Nat) : (nb a b).testBit i = (a.testBit i && !(b.testBit i)) := by
  unfold nb
  rw [Nat.testBit_and, Nat.testBit_xor]
  by_cases c : i < 9
  · rw [t511 i c, Bool.true_xor]
  · rw [bit_hi ha (by omega), Bool.false_and, Bool.false_and]
theorem nb_le (a b : Nat) : nb a b ≤ a := Nat.and_le_left
theorem pw_t {q i : Nat} : (2 ^ q).testBit i = decide (q = i) := Nat.testBit_two_pow
theorem pw_l : ∀ q, q < 9 → 2 ^ q < 512 := by decide
theorem nb_lt {a q : Nat} (ha : a < 512) (h : a.testBit q = true) : nb a (2 ^ q) < a := by
  refine Nat.lt_of_le_of_ne (nb_le _ _) (fun e => ?_)
  have := nb_t (b := 2 ^ q) ha q
  rw [e, h, pw_t] at this
  simp at this
theorem and_k (a b : Nat) : nI a &&& nI b = nI (a &&& b) := by
  apply Int32.toBitVec_inj.mp
  show BitVec.ofNat 32 a &&& BitVec.ofNat 32 b = BitVec.ofNat 32 (a &&& b)
  rw [BitVec.ofNat_and]
theorem or_k (a b : Nat) : nI a ||| nI b = nI (a ||| b) := by
  apply Int32.toBitVec_inj.mp
  show BitVec.ofNat 32 a ||| BitVec.ofNat 32 b = BitVec.ofNat 32 (a ||| b)
  rw [BitVec.ofNat_or]
theorem xor_k (a b : Nat) : nI a ^^^ nI b = nI (a ^^^ b) := by
  apply Int32.toBitVec_inj.mp
  show BitVec.ofNat 32 a ^^^ BitVec.ofNat 32 b = BitVec.ofNat 32 (a ^^^ b)
  rw [BitVec.ofNat_xor]
theorem m1_k : (-1 : Int32) = nI 4294967295 := by decide
theorem nb_k {a b : Nat} (ha : a < 512) : nI a &&& (nI b ^^^ (-1)) = nI (nb a b) := by
  rw [m1_k, xor_k, and_k]
  congr 1
  apply Nat.eq_of_testBit_eq
  intro i
  rw [nb_t ha, Nat.testBit_and, Nat.testBit_xor]
  by_cases c : i < 9
  · have : ∀ i, i < 9 → (4294967295 : Nat).testBit i = true := by decide
    rw [this i c, Bool.xor_true]
  · rw [bit_hi ha (by omega), Bool.false_and, Bool.false_and]
theorem shl_k : ∀ q, q < 9 → (1 : Int32) <<< (nI q &&& 31) = nI (2 ^ q) := by decide
theorem shr_k : ∀ a, a < 512 → ∀ q, q < 9 → ((((nI a >>> (nI q &&& 31)) &&& 1) = 1) ↔ a.testBit q = true) := by decide +kernel
theorem isOf9 {h : ST} {a q : Nat} (ha : a < 512) (hq : q < 9) : fX11_isOf h (nI a) (nI q) = some (if a.testBit q = true then 1 else 0) := by
  have e := shr_k a ha q hq
  unfold fX11_isOf fX11_isOf_14
  by_cases c : a.testBit q = true
  · rw [if_pos (e.mpr c), if_pos c, zb_1, bnd_s]
  · rw [if_neg (fun t => c (e.mp t)), if_neg c, zb_0, bnd_s]
theorem nb0 {a b : Nat} (ha : a < 512) : nb a b = 0 ↔ ∀ i, a.testBit i = true → b.testBit i = true := by
  constructor
  · intro h i hi
    have := nb_t (b := b) ha i
    rw [h, Nat.zero_testBit, hi, Bool.true_and] at this
    cases hb : b.testBit i
    · rw [hb] at this; exact absurd this (by decide)
    · rfl
  · intro h
    apply Nat.eq_of_testBit_eq
    intro i
    rw [nb_t ha, Nat.zero_testBit]
    cases c : a.testBit i
    · rfl
    · rw [h i c]; rfl
theorem or_l {a b : Nat} (ha : a < 512) (hb : b < 512) : a ||| b < 512 := Nat.or_lt_two_pow (n := 9) ha hb
def sz (a : Nat) : Nat := (a.testBit 0).toNat + (a.testBit 1).toNat + (a.testBit 2).toNat + (a.testBit 3).toNat + (a.testBit 4).toNat + (a.testBit 5).toNat + (a.testBit 6).toNat + (a.testBit 7).toNat + (a.testBit 8).toNat
theorem sz_9 (a : Nat) : sz a ≤ 9 := by
  have t : ∀ b : Bool, b.toNat ≤ 1 := by decide
  unfold sz
  have h0 := t (a.testBit 0); have h1 := t (a.testBit 1); have h2 := t (a.testBit 2); have h3 := t (a.testBit 3); have h4 := t (a.testBit 4); have h5 := t (a.testBit 5); have h6 := t (a.testBit 6); have h7 := t (a.testBit 7); have h8 := t (a.testBit 8)
  omega
theorem sz_nb : ∀ a, a < 512 → ∀ q, q < 9 → a.testBit q = true → sz (nb a (2 ^ q)) + 1 = sz a := by decide +kernel
def pmn (D W : Nat → Nat) : Nat → Nat
  | 0 => 1000000
  | r + 1 => min (pmn D W r) (D r + W r)
theorem pmn_le {D W : Nat → Nat} : ∀ n, pmn D W n ≤ 1000000
  | 0 => Nat.le_refl _
  | n + 1 => by unfold pmn; have := pmn_le (D := D) (W := W) n; omega
theorem pmn_cong {D D' W : Nat → Nat} : ∀ {n : Nat}, (∀ p, p < n → D p = D' p) → pmn D W n = pmn D' W n
  | 0, _ => rfl
  | n + 1, h => by unfold pmn; rw [pmn_cong (n := n) (fun p hp => h p (by omega)), h n (by omega)]
theorem pmn_fin {D W : Nat → Nat} {K : Nat} (hD : ∀ p, D p = 1000000 ∨ D p ≤ K) (hW : ∀ p, W p = 1000000 ∨ W p < 10000) : ∀ n, pmn D W n = 1000000 ∨ pmn D W n ≤ K + 10000
  | 0 => Or.inl rfl
  | n + 1 => by
    unfold pmn
    have := pmn_fin hD hW n
    have := pmn_le (D := D) (W := W) n
    have := hD n
    have := hW n
    omega
/-- m: the rooms to see; s: where the walk begins -/
abbrev lv (s m X q : Nat) : Prop := nb X m = 0 ∧ X &&& (m &&& 2 ^ s) = m &&& 2 ^ s ∧ X.testBit q = true ∧ (nb m (2 ^ s)).testBit q = true
def Fk (n s m : Nat) (w : Nat → Nat → Nat) : Nat → Nat → Nat → Nat
  | 0, _, _ => 1000000
  | k + 1, X, q => if X = m &&& 2 ^ s ∧ q = s then 0 else if lv s m X q then pmn (fun p => Fk n s m w k (nb X (2 ^ q)) p) (fun p => w p q) n else 1000000
theorem Fk_st {n s m : Nat} {w : Nat → Nat → Nat} : ∀ k j X q, X < 512 → X < k → X < j → Fk n s m w k X q = Fk n s m w j X q
  | k + 1, j + 1, X, q, h, h1, h2 => by
    unfold Fk
    by_cases c : X = m &&& 2 ^ s ∧ q = s
    · rw [if_pos c, if_pos c]
    · rw [if_neg c, if_neg c]
      by_cases d : lv s m X q
      · rw [if_pos d, if_pos d]
        have := nb_lt h d.2.2.1
        exact pmn_cong (fun p _ => Fk_st k j _ p (by omega) (by omega) (by omega))
      · rw [if_neg d, if_neg d]
def F (n s m : Nat) (w : Nat → Nat → Nat) (X q : Nat) : Nat := Fk n s m w 513 X q
theorem F_eq {n s m : Nat} {w : Nat → Nat → Nat} {X q : Nat} (h : X < 512) : F n s m w X q = if X = m &&& 2 ^ s ∧ q = s then 0 else if lv s m X q then pmn (fun p => F n s m w (nb X (2 ^ q)) p) (fun p => w p q) n else 1000000 := by
  have e : F n s m w X q = if X = m &&& 2 ^ s ∧ q = s then 0 else if lv s m X q then pmn (fun p => Fk n s m w 512 (nb X (2 ^ q)) p) (fun p => w p q) n else 1000000 := by
    unfold F
    rw [Fk]
  rw [e]
  by_cases c : X = m &&& 2 ^ s ∧ q = s
  · rw [if_pos c, if_pos c]
  · rw [if_neg c, if_neg c]
    by_cases d : lv s m X q
    · rw [if_pos d, if_pos d]
      have := nb_lt h d.2.2.1
      exact pmn_cong (fun p _ => Fk_st 512 513 _ p (by omega) (by omega) (by omega))
    · rw [if_neg d, if_neg d]
theorem Fk_b {n s m : Nat} (hs : s < 9) (hm : m < 512) {w : Nat → Nat → Nat} (hw : ∀ p q, w p q = 1000000 ∨ w p q < 10000) : ∀ k X q, X < 512 → Fk n s m w k X q = 1000000 ∨ Fk n s m w k X q ≤ 10000 * sz X
  | 0, _, _, _ => Or.inl rfl
  | k + 1, X, q, h => by
    unfold Fk
    by_cases c : X = m &&& 2 ^ s ∧ q = s
    · rw [if_pos c]; exact Or.inr (Nat.zero_le _)
    · rw [if_neg c]
      by_cases d : lv s m X q
      · rw [if_pos d]
        have q9 : q < 9 := by
          refine Nat.lt_of_not_le (fun hq => ?_)
          have := bit_hi h hq
          rw [d.2.2.1] at this
          exact absurd this (by decide)
        have lt := nb_lt h d.2.2.1
        have e := sz_nb X h q q9 d.2.2.1
        have := pmn_fin (D := fun p => Fk n s m w k (nb X (2 ^ q)) p) (W := fun p => w p q) (K := 10000 * sz (nb X (2 ^ q))) (fun p => Fk_b hs hm hw k _ p (by omega)) (fun p => hw p q) n
        rw [← e]
        omega
      · rw [if_neg d]; exact Or.inl rfl
theorem F_b {n s m : Nat} (hs : s < 9) (hm : m < 512) {w : Nat → Nat → Nat} (hw : ∀ p q, w p q = 1000000 ∨ w p q < 10000) {X : Nat} (q : Nat) (h : X < 512) : F n s m w X q = 1000000 ∨ F n s m w X q ≤ 90000 := by
  have := Fk_b (n := n) hs hm hw 513 X q h
  have := sz_9 X
  unfold F
  omega
theorem F_m {n s m : Nat} (hs : s < 9) (hm : m < 512) {w : Nat → Nat → Nat} (hw : ∀ p q, w p q = 1000000 ∨ w p q < 10000) {X : Nat} (q : Nat) (h : X < 512) : F n s m w X q ≤ 1000000 := by
  have := F_b (n := n) hs hm hw q h
  omega
