/-! ===== parish: words and signs ===== -/
def wq (B : Nat → Nat) (k st en : Nat) : Bool := decide (en - st = SL.getD k 0) && (List.range (SL.getD k 0)).all fun i => decide (nI (B (st + i)) = (SB.getD k []).getD i 0)
theorem ch_tab : ∀ k, k < 20 → ∀ i, i < 10 → (i < SL.getD k 0 → zc ((((SB.getD k []).getD i 0 &&& 255).toUInt32 % 65536).toInt32) = some ((SB.getD k []).getD i 0)) := by
  intro k hk i hi
  have : ∀ k, k < 20 → ∀ i, i < 10 → (SL.getD k 0 ≤ i ∨ zc ((((SB.getD k []).getD i 0 &&& 255).toUInt32 % 65536).toInt32) = some ((SB.getD k []).getD i 0)) := by decide +kernel
  intro h
  rcases this k hk i hi with q | q
  · omega
  · exact q
theorem ch_rng : ∀ k, k < 20 → ∀ i, i < 10 → ∃ c, c < 128 ∧ (SB.getD k []).getD i 0 = nI c := by
  intro k hk i hi
  have : ∀ k, k < 20 → ∀ i, i < 10 → ((SB.getD k []).getD i 0).toNatClampNeg < 128 ∧ (SB.getD k []).getD i 0 = nI ((SB.getD k []).getD i 0).toNatClampNeg := by decide +kernel
  exact ⟨_, this k hk i hi⟩
theorem charK {h : ST} {k i : Nat} (hk : k < 20) (hi : i < SL.getD k 0) : fJ0_charAt_5068e h k (nI i) = some ((SB.getD k []).getD i 0) := by
  obtain ⟨-, l10, -, -⟩ := str_lk k hk
  have lat : fJ0_isLatin1_aae02 h k = some 1 := by
    unfold fJ0_isLatin1_aae02 fJ0_isLatin1_aae02_18
    rw [if_neg (show ¬ (1 : Int32) = 0 by decide), if_pos rfl]
    rfl
  have ck : fJ0_checkIndex_df160 h (nI i) (Int32.ofNat (SL.getD k 0)) = some () := by
    unfold fJ0_checkIndex_df160 fJ3_checkIndex_8e157
    rw [if_neg (nI_pos (show i < 2 ^ 31 by omega)), if_pos (show nI i < Int32.ofNat (SL.getD k 0) from nI_lt hi (show SL.getD k 0 < 2 ^ 31 by omega)), bnd_s]
  have rbk : rb k (nI i) = some ((SB.getD k []).getD i 0) := by
    unfold rb
    rw [if_pos (nI_in (N := SL.getD k 0) hi (by omega)), nI_clamp (by omega)]
  have z := ch_tab k hk i (by omega) hi
  have z2 : zc ((SB.getD k []).getD i 0) = some ((SB.getD k []).getD i 0) := by
    unfold zc at z
    by_cases c : ((((((SB.getD k []).getD i 0 &&& 255).toUInt32 % 65536).toInt32).toUInt32 % 65536).toInt32) = ((((SB.getD k []).getD i 0 &&& 255).toUInt32 % 65536).toInt32)
    · rw [if_pos c] at z
      have e := Option.some.inj z
      rw [e] at c
      unfold zc
      rw [if_pos c]
    · rw [if_neg c] at z; cases z
  unfold fJ0_charAt_5068e fJ1_charAt_3b067
  rw [lat, bnd_s, if_neg (show ¬ (1 : Int32) = 0 by decide), ck, bnd_s, rbk, bnd_s, z, bnd_s, bnd_s, z2, bnd_s]
theorem wq_t {B : Nat → Nat} {k st en : Nat} (h1 : en - st = SL.getD k 0) (h2 : ∀ i, i < SL.getD k 0 → nI (B (st + i)) = (SB.getD k []).getD i 0) : wq B k st en = true := by
  unfold wq
  rw [Bool.and_eq_true, decide_eq_true_eq, List.all_eq_true]
  exact ⟨h1, fun i hi => decide_eq_true (h2 i (List.mem_range.mp hi))⟩
theorem wq_d {B : Nat → Nat} {k st en : Nat} (h : wq B k st en = true) : en - st = SL.getD k 0 ∧ ∀ i, i < SL.getD k 0 → nI (B (st + i)) = (SB.getD k []).getD i 0 := by
  unfold wq at h
  rw [Bool.and_eq_true, decide_eq_true_eq, List.all_eq_true] at h
  exact ⟨h.1, fun i hi => of_decide_eq_true (h.2 i (List.mem_range.mpr hi))⟩
theorem wordC {B : Nat → Nat} {L : Nat} {h t : ST} {kd st en k : Nat} (b : BY B L h t) (r : TR L h t kd st en) (hk : k < 20) : fX9_isWord h k = some (bz (decide (kd = 1) && wq B k st en)) := by
  obtain ⟨⟨r1, -⟩, ⟨r2, -, -⟩, ⟨r3, -⟩, ⟨r4, -⟩, ⟨r5, r6, r7⟩, -⟩ := r
  have L7 := b.1
  obtain ⟨s1, s2, s3, s4⟩ := str_lk k hk
  have len : fJ0_length_8abf5 h k = some (nI (SL.getD k 0)) := (str_len h k).trans (by rw [s1])
  unfold fX9_isWord fX9_isWord_24
  rw [r4, r2, r3, len]
  have k1 : nI kd = 1 ↔ kd = 1 := nI_eq (b := 1) (by omega) (by decide)
  by_cases c : kd = 1
  · rw [if_pos (k1.mpr c), bnd_s, nI_sub r5]
    have l1 : nI (en - st) = nI (SL.getD k 0) ↔ en - st = SL.getD k 0 := nI_eq (by omega) (by omega)
    by_cases d : en - st = SL.getD k 0
    · rw [if_pos (l1.mpr d)]
      have loop : ∃ x, lp FU (fX9_isWord_28 h k) 0 = some x ∧ ((x = .inl () ∧ wq B k st en = false) ∨ (x = .inr () ∧ wq B k st en = true)) := by
        refine lp_cnt (b := fX9_isWord_28 h k) (fun i s => s = nI i ∧ ∀ j, j < i → nI (B (st + j)) = (SB.getD k []).getD j 0) (SL.getD k 0) (by omega) ?_ ?_ ⟨rfl, fun j hj => absurd hj (Nat.not_lt_zero j)⟩
        · rintro i s hi ⟨rfl, w⟩
          have q := nI_ge hi (show SL.getD k 0 < 2 ^ 31 by omega)
          obtain ⟨b1, b2, b3⟩ := b.2 (st + i) (by omega)
          obtain ⟨ch, hch, ech⟩ := ch_rng k hk i (by omega)
          have eqv : sbt (B (st + i)) = (SB.getD k []).getD i 0 ↔ nI (B (st + i)) = (SB.getD k []).getD i 0 := by
            rw [ech, by_inj _ b1 ch hch, nI_eq (by omega) (by omega)]
          by_cases e : nI (B (st + i)) = (SB.getD k []).getD i 0
          · refine Or.inl ⟨nI (i + 1), ?_, rfl, fun j hj => ?_⟩
            · unfold fX9_isWord_28
              rw [len, bnd_s, if_neg q, r3, nI_add, rd_k (n := 700) (show st + i < 700 by omega), bnd_s, charK hk hi, bnd_s, b2, if_pos (eqv.mpr e), nI_1]
            · by_cases u : j = i
              · rw [u]; exact e
              · exact w j (by omega)
          · refine Or.inr ⟨.inl (), ?_, Or.inl ⟨rfl, ?_⟩⟩
            · unfold fX9_isWord_28
              rw [len, bnd_s, if_neg q, r3, nI_add, rd_k (n := 700) (show st + i < 700 by omega), bnd_s, charK hk hi, bnd_s, b2, if_neg (fun z => e (eqv.mp z))]
            · cases z : wq B k st en
              · rfl
              · exact absurd ((wq_d z).2 i hi) e
        · rintro s ⟨rfl, w⟩
          refine ⟨.inr (), ?_, Or.inr ⟨rfl, wq_t d w⟩⟩
          unfold fX9_isWord_28
          rw [len, bnd_s, if_pos (Int32.le_refl _)]
      obtain ⟨x, x1, ⟨rfl, x2⟩ | ⟨rfl, x2⟩⟩ := loop
      · rw [x1, x2]; simp [c, bz, sm]; rfl
      · rw [x1, x2]; simp [c, bz, sm]; rfl
    · rw [if_neg (fun z => d (l1.mp z))]
      have : wq B k st en = false := by
        cases z : wq B k st en
        · rfl
        · exact absurd (wq_d z).1 d
      rw [this]; simp [bz]
  · rw [if_neg (fun z => c (k1.mp z))]
    simp [c, bz]
theorem wordM {B : Nat → Nat} {L : Nat} {h t : ST} {kd st en k : Nat} (b : BY B L h t) (r : TR L h t kd st en) (h26 : t 0 26 = 0) (hk : k < 20) : fX11_is t k = some (bz (decide (kd = 1) && wq B k st en)) := by
  obtain ⟨-, ⟨-, -, r2⟩, ⟨-, r3⟩, ⟨-, r4⟩, ⟨r5, r6, r7⟩, -⟩ := r
  have L7 := b.1
  obtain ⟨s1, s2, s3, s4⟩ := str_lk k hk
  have len : fJ0_length_8abf5 t k = some (nI (SL.getD k 0)) := (str_len t k).trans (by rw [s1])
  have k1 : nI kd = 1 ↔ kd = 1 := nI_eq (b := 1) (by omega) (by decide)
  have z0 : fX11_is_35 t k = some 0 := by
    unfold fX11_is_35 fX11_is_36 fX11_is_82
    have : lp FU (fX11_is_39 t k) (0, 0) = some 0 := lp_1 (b := fX11_is_39 t k) (by unfold fX11_is_39; rw [if_pos rfl])
    rw [this, bnd_s, zb_0, bnd_s]
  unfold fX11_is
  rw [if_pos h26, r4, r2, r3, len]
  by_cases c : kd = 1
  · rw [if_pos (k1.mpr c), bnd_s, nI_sub r5]
    have l1 : nI (SL.getD k 0) = nI (en - st) ↔ SL.getD k 0 = en - st := nI_eq (by omega) (by omega)
    by_cases d : SL.getD k 0 = en - st
    · rw [if_pos (l1.mpr d)]
      have loop : ∃ x, lp FU (fX11_is_39 t k) (1, 0) = some x ∧ x = bz (wq B k st en) := by
        refine lp_cnt (b := fX11_is_39 t k) (fun i s => s.2 = nI i ∧ ((s.1 = 1 ∧ ∀ j, j < i → nI (B (st + j)) = (SB.getD k []).getD j 0) ∨ (s.1 = 0 ∧ wq B k st en = false))) (SL.getD k 0) (by omega) ?_ ?_ ⟨rfl, Or.inl ⟨rfl, fun j hj => absurd hj (Nat.not_lt_zero j)⟩⟩
        · rintro i ⟨s, u⟩ hi ⟨rfl, w⟩
          have q := nI_ge hi (show SL.getD k 0 < 2 ^ 31 by omega)
          obtain ⟨b1, b2, b3⟩ := b.2 (st + i) (by omega)
          rcases w with ⟨rfl, w⟩ | ⟨rfl, w⟩
          · by_cases e : nI (B (st + i)) = (SB.getD k []).getD i 0
            · refine Or.inl ⟨(1, nI (i + 1)), ?_, rfl, Or.inl ⟨rfl, fun j hj => ?_⟩⟩
              · unfold fX11_is_39 fX11_is_75
                rw [if_neg (show ¬ (1 : Int32) = 0 by decide), len, bnd_s, if_neg q, charK hk hi, bnd_s, r3, nI_add, rd_k (n := 700) (show st + i < 700 by omega), bnd_s, b3, if_pos e.symm, nI_1]
              · by_cases z : j = i
                · rw [z]; exact e
                · exact w j (by omega)
            · refine Or.inl ⟨(0, nI (i + 1)), ?_, rfl, Or.inr ⟨rfl, ?_⟩⟩
              · unfold fX11_is_39 fX11_is_75
                rw [if_neg (show ¬ (1 : Int32) = 0 by decide), len, bnd_s, if_neg q, charK hk hi, bnd_s, r3, nI_add, rd_k (n := 700) (show st + i < 700 by omega), bnd_s, b3, if_neg (fun z => e z.symm), nI_1]
              · cases z : wq B k st en
                · rfl
                · exact absurd ((wq_d z).2 i hi) e
          · refine Or.inr ⟨0, ?_, by rw [w]; rfl⟩
            unfold fX11_is_39
            rw [if_pos rfl]
        · rintro ⟨s, u⟩ ⟨rfl, w⟩
          rcases w with ⟨rfl, w⟩ | ⟨rfl, w⟩
          · refine ⟨1, ?_, by rw [wq_t d.symm w]; rfl⟩
            unfold fX11_is_39
            rw [if_neg (show ¬ (1 : Int32) = 0 by decide), len, bnd_s, if_pos (Int32.le_refl _)]
          · refine ⟨0, ?_, by rw [w]; rfl⟩
            unfold fX11_is_39
            rw [if_pos rfl]
      obtain ⟨x, x1, rfl⟩ := loop
      unfold fX11_is_36 fX11_is_82
      rw [x1, bnd_s]
      cases wq B k st en <;> simp [c, bz, zb_0, zb_1] <;> rfl
    · rw [if_neg (fun z => d (l1.mp z)), z0]
      have : wq B k st en = false := by
        cases z : wq B k st en
        · rfl
        · exact absurd (wq_d z).1.symm d
      rw [this]; simp [bz]
  · rw [if_neg (fun z => c (k1.mp z)), z0]
    simp [c, bz]
theorem wordW {t : ST} (h26 : ¬ t 0 26 = 0) (k : Nat) : fX11_is t k = some 0 := by
  unfold fX11_is fX11_is_35 fX11_is_36 fX11_is_82
  have : lp FU (fX11_is_39 t k) (0, 0) = some 0 := lp_1 (b := fX11_is_39 t k) (by unfold fX11_is_39; rw [if_pos rfl])
  rw [if_neg h26, this, bnd_s, zb_0, bnd_s]
/-- two words are not one -/
theorem wq_one {B : Nat → Nat} {j k st en : Nat} (hj : j < 20) (hk : k < 20) (h1 : wq B j st en = true) (h2 : wq B k st en = true) : j = k := by
  obtain ⟨a1, a2⟩ := wq_d h1
  obtain ⟨b1, b2⟩ := wq_d h2
  have tab : ∀ j, j < 20 → ∀ k, k < 20 → (j = k ∨ SL.getD j 0 ≠ SL.getD k 0 ∨ ∃ i, i < 10 ∧ (i < SL.getD j 0 ∧ (SB.getD j []).getD i 0 ≠ (SB.getD k []).getD i 0)) := by decide +kernel
  rcases tab j hj k hk with e | e | ⟨i, hi, e1, e2⟩
  · exact e
  · exact absurd (a1.symm.trans b1) e
  · exact absurd ((a2 i e1).symm.trans (b2 i (by omega))) e2
/-! signs -/
def sq (B : Nat → Nat) (kd st b : Nat) : Bool := decide (kd = 3) && decide (B st = b)
theorem signC {B : Nat → Nat} {L : Nat} {h t : ST} {kd st en : Nat} (b : BY B L h t) (r : TR L h t kd st en) {v : Nat} (hv : v < 128) : fX9_isSign h (nI v) = some (bz (sq B kd st v)) := by
  obtain ⟨-, -, ⟨r3, -⟩, ⟨r4, -⟩, ⟨r5, r6, r7⟩, -, r8, -⟩ := r
  have L7 := b.1
  have k1 : nI kd = 3 ↔ kd = 3 := nI_eq (b := 3) (by omega) (by decide)
  unfold fX9_isSign fX9_isSign_25 fX9_isSign_26 sq
  rw [r4, r3]
  by_cases c : kd = 3
  · have := r8 (by omega)
    obtain ⟨b1, b2, b3⟩ := b.2 st (by omega)
    rw [if_pos (k1.mpr c), rd_k (n := 700) (show st < 700 by omega), bnd_s, b2]
    by_cases d : B st = v
    · rw [if_pos ((by_inj _ b1 v hv).mpr d), zb_1, bnd_s]; simp [c, d, bz]
    · rw [if_neg (fun z => d ((by_inj _ b1 v hv).mp z)), zb_0, bnd_s]; simp [c, d, bz]
  · rw [if_neg (fun z => c (k1.mp z)), zb_0, bnd_s]; simp [c, bz]
theorem signM {B : Nat → Nat} {L : Nat} {h t : ST} {kd st en : Nat} (b : BY B L h t) (r : TR L h t kd st en) (h26 : t 0 26 = 0) {v : Nat} (hv : v < 128) : fX11_isMarked t (nI v) = some (bz (sq B kd st v)) := by
  obtain ⟨-, -, ⟨-, r3⟩, ⟨-, r4⟩, ⟨r5, r6, r7⟩, -, r8, -⟩ := r
  have L7 := b.1
  have k1 : nI kd = 3 ↔ kd = 3 := nI_eq (b := 3) (by omega) (by decide)
  unfold fX11_isMarked fX11_isMarked_32 fX11_isMarked_33 sq
  rw [if_pos h26, r4, r3]
  by_cases c : kd = 3
  · have := r8 (by omega)
    obtain ⟨b1, b2, b3⟩ := b.2 st (by omega)
    rw [if_pos (k1.mpr c), rd_k (n := 700) (show st < 700 by omega), bnd_s, b3]
    have e : nI (B st) = nI v ↔ B st = v := nI_eq (by omega) (by omega)
    by_cases d : B st = v
    · rw [if_pos (e.mpr d), zb_1, bnd_s]; simp [c, d, bz]
    · rw [if_neg (fun z => d (e.mp z)), zb_0, bnd_s]; simp [c, d, bz]
  · rw [if_neg (fun z => c (k1.mp z)), zb_0, bnd_s]; simp [c, bz]
theorem signW {t : ST} (h26 : ¬ t 0 26 = 0) (v : Int32) : fX11_isMarked t v = some 0 := by
  unfold fX11_isMarked fX11_isMarked_32 fX11_isMarked_33
  rw [if_neg h26, zb_0, bnd_s]
