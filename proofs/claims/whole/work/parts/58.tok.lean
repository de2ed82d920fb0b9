/-! ===== parish: bytes and tokens, read by both ===== -/
def sbt (b : Nat) : Int32 := (nI b).toInt8.toInt32
def isLt (b : Nat) : Bool := decide (97 ≤ b) && decide (b ≤ 122)
def isDg (b : Nat) : Bool := decide (48 ≤ b) && decide (b ≤ 57)
def isBl (b : Nat) : Bool := decide (b = 32) || decide (b = 10)
def isMk (b : Nat) : Bool := decide (b = 59) || decide (b = 40) || decide (b = 41) || decide (b = 43) || decide (b = 45) || decide (b = 42) || decide (b = 47) || decide (b = 60) || decide (b = 61)
theorem by_lt : ∀ b, b < 256 → ((sbt b < 97 ∨ 122 < sbt b) ↔ isLt b = false) ∧ ((nI b < 97 ∨ 122 < nI b) ↔ isLt b = false) := by decide +kernel
theorem by_dg : ∀ b, b < 256 → ((sbt b < 48 ∨ 57 < sbt b) ↔ isDg b = false) ∧ ((nI b < 48 ∨ 57 < nI b) ↔ isDg b = false) := by decide +kernel
theorem by_bl : ∀ b, b < 256 → ((sbt b = 32 ∨ sbt b = 10) ↔ isBl b = true) ∧ ((nI b = 32 ∨ nI b = 10) ↔ isBl b = true) := by decide +kernel
theorem by_and : ∀ b, b < 256 → ((sbt b &&& 255).toUInt32 % 65536).toInt32 = nI b := by decide +kernel
theorem by_num : ∀ b, b < 256 → isDg b = true → sbt b = nI b := by decide +kernel
theorem by_pos : ∀ b, b < 256 → ¬ nI b = -1 := by decide +kernel
theorem by_inj : ∀ a, a < 256 → ∀ b, b < 128 → ((sbt a = nI b) ↔ a = b) := by decide +kernel
theorem letC {h : ST} {b : Nat} (hb : b < 256) : fX9_isLetter h (sbt b) = some (if isLt b = true then 1 else 0) := by
  have e := (by_lt b hb).1
  unfold fX9_isLetter fX9_isLetter_16 fX9_isLetter_17
  cases c : isLt b
  · rw [c] at e
    rcases e.mpr rfl with q | q
    · rw [if_pos q]; rfl
    · by_cases d : sbt b < 97
      · rw [if_pos d]; rfl
      · rw [if_neg d, if_pos q]; rfl
  · rw [c] at e
    rw [if_neg (fun q => absurd (e.mp (Or.inl q)) (by decide)), if_neg (fun q => absurd (e.mp (Or.inr q)) (by decide))]; rfl
theorem letM {h : ST} {b : Nat} (hb : b < 256) : fX11_isLetter h (nI b) = some (if isLt b = true then 1 else 0) := by
  have e := (by_lt b hb).2
  unfold fX11_isLetter fX11_isLetter_16 fX11_isLetter_17
  cases c : isLt b
  · rw [c] at e
    rcases e.mpr rfl with q | q
    · rw [if_pos q]; rfl
    · by_cases d : nI b < 97
      · rw [if_pos d]; rfl
      · rw [if_neg d, if_pos q]; rfl
  · rw [c] at e
    rw [if_neg (fun q => absurd (e.mp (Or.inl q)) (by decide)), if_neg (fun q => absurd (e.mp (Or.inr q)) (by decide))]; rfl
theorem digC {h : ST} {b : Nat} (hb : b < 256) : fX9_isDigit h (sbt b) = some (if isDg b = true then 1 else 0) := by
  have e := (by_dg b hb).1
  unfold fX9_isDigit fX9_isDigit_16 fX9_isDigit_17
  cases c : isDg b
  · rw [c] at e
    rcases e.mpr rfl with q | q
    · rw [if_pos q]; rfl
    · by_cases d : sbt b < 48
      · rw [if_pos d]; rfl
      · rw [if_neg d, if_pos q]; rfl
  · rw [c] at e
    rw [if_neg (fun q => absurd (e.mp (Or.inl q)) (by decide)), if_neg (fun q => absurd (e.mp (Or.inr q)) (by decide))]; rfl
theorem digM {h : ST} {b : Nat} (hb : b < 256) : fX11_isDigit h (nI b) = some (if isDg b = true then 1 else 0) := by
  have e := (by_dg b hb).2
  unfold fX11_isDigit fX11_isDigit_16 fX11_isDigit_17
  cases c : isDg b
  · rw [c] at e
    rcases e.mpr rfl with q | q
    · rw [if_pos q]; rfl
    · by_cases d : nI b < 48
      · rw [if_pos d]; rfl
      · rw [if_neg d, if_pos q]; rfl
  · rw [c] at e
    rw [if_neg (fun q => absurd (e.mp (Or.inl q)) (by decide)), if_neg (fun q => absurd (e.mp (Or.inr q)) (by decide))]; rfl
theorem digM1 (h : ST) : fX11_isDigit h (-1) = some 0 ∧ fX11_isLetter h (-1) = some 0 := by
  constructor
  · unfold fX11_isDigit fX11_isDigit_16 fX11_isDigit_17
    rw [if_pos (show (-1 : Int32) < 48 by decide)]; rfl
  · unfold fX11_isLetter fX11_isLetter_16 fX11_isLetter_17
    rw [if_pos (show (-1 : Int32) < 97 by decide)]; rfl
theorem blC {h : ST} {b : Nat} (hb : b < 256) : fX9_isBlank h (sbt b) = some (if isBl b = true then 1 else 0) := by
  have e := (by_bl b hb).1
  unfold fX9_isBlank fX9_isBlank_12 fX9_isBlank_17
  cases c : isBl b
  · rw [c] at e
    rw [if_neg (fun q => absurd (e.mp (Or.inl q)) (by decide)), if_neg (fun q => absurd (e.mp (Or.inr q)) (by decide))]; rfl
  · rw [c] at e
    rcases e.mpr rfl with q | q
    · rw [if_pos q]; rfl
    · by_cases d : sbt b = 32
      · rw [if_pos d]; rfl
      · rw [if_neg d, if_pos q]; rfl
/-! the signs -/
theorem mkM {h : ST} {b : Nat} (hb : b < 256) : fX11_isMark h (nI b) = some (if isMk b = true then 1 else 0) := by
  have key : ∀ k : Nat, k < 128 → (nI b = nI k ↔ b = k) := fun k hk => nI_eq (by omega) (by omega)
  have k1 : nI b = 59 ↔ b = 59 := key 59 (by decide)
  have k2 : nI b = 40 ↔ b = 40 := key 40 (by decide)
  have k3 : nI b = 41 ↔ b = 41 := key 41 (by decide)
  have k4 : nI b = 43 ↔ b = 43 := key 43 (by decide)
  have k5 : nI b = 45 ↔ b = 45 := key 45 (by decide)
  have k6 : nI b = 42 ↔ b = 42 := key 42 (by decide)
  have k7 : nI b = 47 ↔ b = 47 := key 47 (by decide)
  have k8 : nI b = 60 ↔ b = 60 := key 60 (by decide)
  have k9 : nI b = 61 ↔ b = 61 := key 61 (by decide)
  unfold fX11_isMark fX11_isMark_54 fX11_isMark_59
  simp only [k1, k2, k3, k4, k5, k6, k7, k8, k9, zb_0, zb_1, bnd_s, isMk]
  by_cases c1 : b = 59
  · simp [c1]
  by_cases c2 : b = 40
  · simp [c2]
  by_cases c3 : b = 41
  · simp [c3]
  by_cases c4 : b = 43
  · simp [c4]
  by_cases c5 : b = 45
  · simp [c5]
  by_cases c6 : b = 42
  · simp [c6]
  by_cases c7 : b = 47
  · simp [c7]
  by_cases c8 : b = 60
  · simp [c8]
  by_cases c9 : b = 61
  · simp [c9]
  simp [c1, c2, c3, c4, c5, c6, c7, c8, c9]
theorem str_len (h : ST) (k : Nat) : fJ0_length_8abf5 h k = some (Int32.ofNat (SL.getD k 0) >>> ((0 : Int32) &&& 31)) := by
  unfold fJ0_length_8abf5 fJ0_coder_7d493 fJ0_coder_7d493_14
  rw [if_neg (show ¬ (1 : Int32) = 0 by decide), show zy 0 = some 0 by decide]
  rfl
theorem str_lk : ∀ k, k < 20 → Int32.ofNat (SL.getD k 0) >>> ((0 : Int32) &&& 31) = nI (SL.getD k 0) ∧ SL.getD k 0 < 10 ∧ SL.getD k 0 = (SB.getD k []).length ∧ 0 < SL.getD k 0 := by decide
theorem mk_tab : ∀ b, b < 256 → (isMk b = false ↔ ∀ i, i < 9 → ¬ (SB.getD 0 []).getD i 0 = (nI b).toInt8.toInt32) := by decide +kernel
theorem mkC {h : ST} {b : Nat} (hb : b < 256) : ∃ v, fJ0_indexOf_0f7a4 h 0 (nI b) = some v ∧ (v < 0 ↔ isMk b = false) := by
  have lat : fJ0_isLatin1_aae02 h 0 = some 1 := by
    unfold fJ0_isLatin1_aae02 fJ0_isLatin1_aae02_18
    rw [if_neg (show ¬ (1 : Int32) = 0 by decide), if_pos rfl]
    rfl
  have len : fJ0_length_8abf5 h 0 = some 9 := (str_len h 0).trans (by rw [(str_lk 0 (by decide)).1]; rfl)
  have enc : fJ1_canEncode_9a6ad h (nI b) = some 1 := by
    unfold fJ1_canEncode_9a6ad fJ1_canEncode_9a6ad_16
    rw [if_neg (nI_pos (by omega)), if_neg (show ¬ 255 < nI b from nI_nlt (a := 255) (by omega) (by decide))]
    rfl
  have rbk : ∀ i, i < 9 → rb 0 (nI i) = some ((SB.getD 0 []).getD i 0) := fun i hi => by
    unfold rb
    rw [if_pos (nI_in (N := SL.getD 0 0) (show i < SL.getD 0 0 from hi) (by decide)), nI_clamp (by omega)]
  have loop : ∃ x, lp FU (fJ1_indexOfChar_4cfef_7 h 0 9 (nI b).toInt8.toInt32) 0 = some x ∧ ((∃ k, k < 9 ∧ x = .inl (nI k) ∧ isMk b = true) ∨ (x = .inr () ∧ isMk b = false)) := by
    refine lp_cnt (b := fJ1_indexOfChar_4cfef_7 h 0 9 (nI b).toInt8.toInt32) (fun i s => s = nI i ∧ ∀ j, j < i → ¬ (SB.getD 0 []).getD j 0 = (nI b).toInt8.toInt32) 9 (by decide) ?_ ?_ ⟨rfl, fun j hj => absurd hj (Nat.not_lt_zero j)⟩
    · rintro i s hi ⟨rfl, w⟩
      have q : ¬ 9 ≤ nI i := nI_ge (b := 9) hi (by decide)
      by_cases c : (SB.getD 0 []).getD i 0 = (nI b).toInt8.toInt32
      · refine Or.inr ⟨.inl (nI i), ?_, Or.inl ⟨i, hi, rfl, ?_⟩⟩
        · unfold fJ1_indexOfChar_4cfef_7
          rw [if_neg q, rbk i hi, bnd_s, if_pos c]
        · cases d : isMk b
          · exact absurd c ((mk_tab b hb).mp d i hi)
          · rfl
      · refine Or.inl ⟨nI (i + 1), ?_, rfl, fun j hj => ?_⟩
        · unfold fJ1_indexOfChar_4cfef_7
          rw [if_neg q, rbk i hi, bnd_s, if_neg c, nI_1]
        · by_cases d : j = i
          · rw [d]; exact c
          · exact w j (by omega)
    · rintro s ⟨rfl, w⟩
      refine ⟨.inr (), ?_, Or.inr ⟨rfl, (mk_tab b hb).mpr w⟩⟩
      unfold fJ1_indexOfChar_4cfef_7
      rw [if_pos (show (9 : Int32) ≤ nI 9 by decide)]
  obtain ⟨x, x1, x2⟩ := loop
  have i9 : (if Int32.ofNat (SL.getD 0 0) < (9 : Int32) then Int32.ofNat (SL.getD 0 0) else 9) = 9 := by decide
  have i0 : (if (0 : Int32) < 0 then (0 : Int32) else 0) = 0 := by decide
  rcases x2 with ⟨k, hk, rfl, e⟩ | ⟨rfl, e⟩
  · refine ⟨nI k, ?_, ?_⟩
    · unfold fJ0_indexOf_0f7a4 fJ0_indexOf_7cf53 fJ0_indexOf_7cf53_36 fJ1_indexOf_4cfef fJ1_indexOfChar_4cfef
      rw [lat, bnd_s, if_neg (show ¬ (1 : Int32) = 0 by decide), len, bnd_s, enc, bnd_s, if_neg (show ¬ (1 : Int32) = 0 by decide), i9, i0, if_pos (show (0 : Int32) < 9 by decide), x1]
      rfl
    · rw [e]
      exact ⟨fun q => absurd q (nI_pos (by omega)), fun q => absurd q (by decide)⟩
  · refine ⟨-1, ?_, ?_⟩
    · unfold fJ0_indexOf_0f7a4 fJ0_indexOf_7cf53 fJ0_indexOf_7cf53_36 fJ1_indexOf_4cfef fJ1_indexOfChar_4cfef
      rw [lat, bnd_s, if_neg (show ¬ (1 : Int32) = 0 by decide), len, bnd_s, enc, bnd_s, if_neg (show ¬ (1 : Int32) = 0 by decide), i9, i0, if_pos (show (0 : Int32) < 9 by decide), x1]
      rfl
    · rw [e]
      exact ⟨fun _ => rfl, fun _ => by decide⟩
