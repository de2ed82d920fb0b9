/-! ===== what holds between calls ===== -/
def J (f : Nat) (M : ST) (A : AS) (hc hm : ST) : Prop := (f = 2 ∨ f = 20) ∧ hc 0 3 = nI f ∧ FB M ∧ FM M hm ∧ CF f M hc ∧ RC 43 M A hc ∧ RM1 M A hm ∧ AB M 999 A
def ActsR (P : Nat) (M hc : ST) (many : Int32) (past : Nat → Int32) : Prop := ∃ k first, many = nI k ∧ k ≤ 40 ∧ hc (P + 5) 0 = nI k ∧ hc (P + 5) 1 = nI first ∧ first < 40 ∧ ∀ j, j < k → ∃ B, AB M 999 B ∧ RC (P + 7 + 4 * ((first + j) % 40)) M B hc ∧ PA past (31 * j) M B
def SightR (P : Nat) (M hc : ST) (many : Int32) (rm dy mu : Nat → Int32) : Prop := ∃ k, many = nI k ∧ k ≤ 8 ∧ hc (P + 167) 0 = nI k ∧ ∀ i, i < k → hc (P + 168) i = rm i ∧ hc (P + 169) i = dy i ∧ hc (P + 170) i = mu i ∧ (∃ r, r < nR M ∧ rm i = nI r) ∧ ∃ d, d ≤ 30 ∧ dy i = nI d
def wrel (x y : Int32) : Prop := (x = -1 ∧ y = 1000000) ∨ ∃ v, v < 10000 ∧ x = nI v ∧ y = nI v
/-- the ways as the reference reckons them: from doors and their steps -/
def wInit (k : Nat) : Int32 := if k / 9 = k % 9 then 0 else 1000000
def wDoors (M : ST) : Nat → Nat → Int32
  | 0 => wInit
  | d + 1 => upd (upd (wDoors M d) (9 * (M 8 d).toNatClampNeg + (M 9 d).toNatClampNeg) (M 10 d)) (9 * (M 9 d).toNatClampNeg + (M 8 d).toNatClampNeg) (M 10 d)
def mn2 (a b : Int32) : Int32 := if a < b then a else b
def wStep (by_ k : Nat) (w : Nat → Int32) : Nat → Int32 := upd w k (mn2 (w k) (w (k - k % 9 + by_) + w (9 * by_ + k % 9)))
def wRow (by_ : Nat) : Nat → (Nat → Int32) → Nat → Int32
  | 0, w => w
  | k + 1, w => wStep by_ k (wRow by_ k w)
def wAll : Nat → (Nat → Int32) → Nat → Int32
  | 0, w => w
  | b + 1, w => wRow b 81 (wAll b w)
def ways (M : ST) : Nat → Int32 := wAll 9 (wDoors M (nDo M))
def WayR (f : Nat) (M hc : ST) : Prop := ∀ a b, a < nR M → b < nR M → wrel (hc (f + 16) (9 * a + b)) (ways M (9 * a + b))
def byR (x y : Int32) : Prop := ∃ v, v < 256 ∧ y = nI v ∧ x = (nI v).toInt8.toInt32
def J2 (f : Nat) (M hc hm : ST) : Prop :=
  hc 0 4 = nI (22 - f) ∧ (∃ t, t ≤ 700 ∧ hc 0 1 = nI t ∧ hm 0 19 = nI t ∧ ∀ i, i < t → byR (hc 1 i) (hm 18 i)) ∧ hc 0 2 = hm 0 28 ∧ WayR f M hc ∧ (∀ k, k < 3 → hc 213 k = hm 17 k) ∧
  SightR 42 M hc (hm 0 37) (hm 33) (hm 34) (hm 35) ∧ ActsR 42 M hc (hm 0 36) (hm 22) ∧
  hc 0 8 = hm 0 54 ∧ (hm 0 54 = 0 ∨ (hm 0 54 = 1 ∧ ∃ B, AB M 999 B ∧ RC 215 M B hc ∧ PA (hm 37) 0 M B ∧ ActsR 214 M hc (hm 0 55) (hm 38) ∧ SightR 214 M hc (hm 0 56) (hm 39) (hm 40) (hm 41) ∧ ∀ k, k < 3 → hc 385 k = hm 42 k))
def Inv (hc hm : ST) : Prop := ∃ f M A, J f M A hc hm ∧ J2 f M hc hm
def KcE (f : Nat) (hc hc' : ST) : Prop := ∀ i, i < 386 → i ≠ f + 13 → i ≠ f + 15 → hc' i = hc i
def Km : List Nat := [0, 19, 20, 21, 23, 24, 25, 26, 27, 28, 29, 30, 31, 32, 36]
def KmS : List Nat := [2, 33, 34, 35, 45, 53]
def MR (M : ST) (A : AS) (c : Int32) (hm hm1 : ST) : Prop := Fr Km hm hm1 ∧ Fs 0 KmS hm hm1 ∧ RM1 M A hm1 ∧ hm1 0 2 = c
theorem ActsR.kept {P : Nat} {M hc hc' : ST} {many : Int32} {past : Nat → Int32} (h : ActsR P M hc many past) (e : ∀ i, P ≤ i → i < P + 172 → hc' i = hc i) : ActsR P M hc' many past := by
  obtain ⟨k, first, h1, h2, h3, h4, h5, h6⟩ := h
  refine ⟨k, first, h1, h2, by rw [e _ (by omega) (by omega)]; exact h3, by rw [e _ (by omega) (by omega)]; exact h4, h5, fun j hj => ?_⟩
  obtain ⟨B, b1, b2, b3⟩ := h6 j hj
  have hl := Nat.mod_lt (first + j) (show 0 < 40 by decide)
  exact ⟨B, b1, b2.kept (e _ (by omega) (by omega)) (e _ (by omega) (by omega)) (e _ (by omega) (by omega)) (e _ (by omega) (by omega)), b3⟩
theorem SightR.kept {P : Nat} {M hc hc' : ST} {many : Int32} {rm dy mu : Nat → Int32} (h : SightR P M hc many rm dy mu) (e : ∀ i, P ≤ i → i < P + 172 → hc' i = hc i) : SightR P M hc' many rm dy mu := by
  obtain ⟨k, h1, h2, h3, h4⟩ := h
  refine ⟨k, h1, h2, by rw [e _ (by omega) (by omega)]; exact h3, fun i hi => ?_⟩
  rw [e _ (by omega) (by omega), e _ (by omega) (by omega), e _ (by omega) (by omega)]
  exact h4 i hi
theorem J.ro {f : Nat} {M : ST} {A : AS} {hc hm hc' hm' : ST} {c : Int32} (h : J f M A hc hm) (hC : KcE f hc hc') (hM : MR M A c hm hm') : J f M A hc' hm' := by
  obtain ⟨hf, h0, hB, hF, hCF, hR, hR1, hA⟩ := h
  obtain ⟨m1, m2, m3, m4⟩ := hM
  refine ⟨hf, by rw [hC 0 (by omega) (by omega) (by omega)]; exact h0, hB, fun i hi => (m1 i ?_).trans (hF i hi), hCF.kept (fun i hi => hC i ?_ ?_ ?_), hR.kept (hC _ (by omega) (by omega) (by omega)) (hC _ (by omega) (by omega) (by omega)) (hC _ (by omega) (by omega) (by omega)) (hC _ (by omega) (by omega) (by omega)), m3, hA⟩
  · simp only [FMl, Km, List.mem_cons, List.not_mem_nil, or_false] at hi ⊢; omega
  · simp only [CFcells, List.mem_cons, List.not_mem_nil, or_false] at hi; omega
  · simp only [CFcells, List.mem_cons, List.not_mem_nil, or_false] at hi; omega
  · simp only [CFcells, List.mem_cons, List.not_mem_nil, or_false] at hi; omega
theorem J2.ro {f : Nat} (hf : f = 2 ∨ f = 20) {M : ST} {A : AS} {hc hm hc' hm' : ST} {c : Int32} (h : J2 f M hc hm) (hC : KcE f hc hc') (hM : MR M A c hm hm') : J2 f M hc' hm' := by
  obtain ⟨h1, h2, h3, h4, h5, h6, h7, h8, h9⟩ := h
  obtain ⟨m1, m2, m3, m4⟩ := hM
  have c0 : hc' 0 = hc 0 := hC 0 (by omega) (by omega) (by omega)
  have c1 : hc' 1 = hc 1 := hC 1 (by omega) (by omega) (by omega)
  have c213 : hc' 213 = hc 213 := hC 213 (by omega) (by omega) (by omega)
  have c385 : hc' 385 = hc 385 := hC 385 (by omega) (by omega) (by omega)
  have c16 : hc' (f + 16) = hc (f + 16) := hC _ (by omega) (by omega) (by omega)
  have s : ∀ k, k ∉ KmS → hm' 0 k = hm 0 k := m2
  unfold J2
  rw [c0, c213, c385, s 19 (by decide), s 28 (by decide), s 36 (by decide), s 37 (by decide), s 54 (by decide), s 55 (by decide), s 56 (by decide), m1 17 (by decide), m1 18 (by decide), m1 22 (by decide), m1 33 (by decide), m1 34 (by decide), m1 35 (by decide), m1 37 (by decide), m1 38 (by decide), m1 39 (by decide), m1 40 (by decide), m1 41 (by decide), m1 42 (by decide), c1]
  refine ⟨h1, h2, h3, fun a b ha hb => by rw [c16]; exact h4 a b ha hb, h5, h6.kept (fun i a b => hC i (by omega) (by omega) (by omega)), h7.kept (fun i a b => hC i (by omega) (by omega) (by omega)), h8, ?_⟩
  rcases h9 with h9 | ⟨h9, B, b1, b2, b3, b4, b5, b6⟩
  · exact Or.inl h9
  · exact Or.inr ⟨h9, B, b1, b2.kept (hC _ (by omega) (by omega) (by omega)) (hC _ (by omega) (by omega) (by omega)) (hC _ (by omega) (by omega) (by omega)) (hC _ (by omega) (by omega) (by omega)), b3, b4.kept (fun i a b => hC i (by omega) (by omega) (by omega)), b5.kept (fun i a b => hC i (by omega) (by omega) (by omega)), b6⟩
theorem Inv.ro {f : Nat} {M : ST} {A : AS} {hc hm hc' hm' : ST} {c : Int32} (h : J f M A hc hm) (h2 : J2 f M hc hm) (hC : KcE f hc hc') (hM : MR M A c hm hm') : Inv hc' hm' := ⟨f, M, A, h.ro hC hM, h2.ro h.1 hC hM⟩
theorem MR.rf {M : ST} {A : AS} {hm : ST} (h : RM1 M A hm) : MR M A (hm 0 2) hm hm := ⟨Fr.rf, Fs.rf, h, rfl⟩
theorem Inv.hi {hc hc' hm : ST} (h : Inv hc hm) (e : ∀ i, i < 386 → hc' i = hc i) : Inv hc' hm := by
  obtain ⟨f, M, A, h1, h2⟩ := h
  exact Inv.ro h1 h2 (fun i hi _ _ => e i hi) (MR.rf h1.2.2.2.2.2.2.1)
theorem KcE.of {f : Nat} {S : List Nat} {hc hc' : ST} (h : Fr S hc hc') (hs : ∀ i, i ∈ S → 386 ≤ i ∨ i = f + 13 ∨ i = f + 15) : KcE f hc hc' := fun i h1 h2 h3 => h i (fun q => by have := hs i q; omega)
theorem KcE.tr {f : Nat} {h h1 h2 : ST} (a : KcE f h h1) (b : KcE f h1 h2) : KcE f h h2 := fun i x y z => (b i x y z).trans (a i x y z)
/-! the law's comparisons -/
theorem f_thrown (hm : ST) : fX11_thrown hm = some (hm 0 2) := rfl
theorem s_ok {X : Option ((Int32 ⊕ Nat) × ST)} {Y : Option (Int32 × ST)} {cd : Nat → Option Int32} {hc : ST}
    (h : (∃ v h1 hm1, X = some (.inl v, h1) ∧ Y = some (v, hm1) ∧ hm1 0 2 = 0 ∧ Inv h1 hm1) ∨ ∃ k c u h1 hm1, X = some (.inr k, h1) ∧ cd k = some c ∧ ¬ c = 0 ∧ Y = some (u, hm1) ∧ hm1 0 2 = c ∧ Inv h1 hm1) :
    ∃ y : ST × ST, (bnd (bnd X fun r => wrp cd hc r.1 r.2) fun r => bnd Y fun q => bnd (fX11_thrown q.2) fun t => if t = r.1 then (if r.1 = 0 then (if r.2 395 0 = q.1 then some (r.2, q.2) else none) else some (r.2, q.2)) else none) = some y ∧ Inv y.1 y.2 := by
  rcases h with ⟨v, h1, hm1, rfl, rfl, e, hI⟩ | ⟨k, c, u, h1, hm1, rfl, e0, hc0, rfl, e, hI⟩
  · refine ⟨(up2 (mg hc h1) 395 0 v, hm1), ?_, hI.hi (fun i hi => ?_)⟩
    · simp only [bnd_s, wrp, sm, f_thrown, e, if_true, up2_ss]
    · dsimp only
      rw [up2_n (by omega)]
      unfold mg
      rw [if_pos (by omega)]
  · refine ⟨(mg hc h1, hm1), ?_, hI.hi (fun i hi => ?_)⟩
    · simp only [bnd_s, wrp, sm, f_thrown, e, e0, if_true, if_neg hc0]
    · dsimp only [mg]
      rw [if_pos (by omega)]
theorem s_okr {X : Option (Int32 ⊕ Nat)} {Y : Option (Int32 × ST)} {cd : Nat → Option Int32} {hc : ST}
    (h : (∃ v hm1, X = some (.inl v) ∧ Y = some (v, hm1) ∧ hm1 0 2 = 0 ∧ Inv hc hm1) ∨ ∃ k c u hm1, X = some (.inr k) ∧ cd k = some c ∧ ¬ c = 0 ∧ Y = some (u, hm1) ∧ hm1 0 2 = c ∧ Inv hc hm1) :
    ∃ y : ST × ST, (bnd (bnd X fun r => wrp cd hc r hc) fun r => bnd Y fun q => bnd (fX11_thrown q.2) fun t => if t = r.1 then (if r.1 = 0 then (if r.2 395 0 = q.1 then some (r.2, q.2) else none) else some (r.2, q.2)) else none) = some y ∧ Inv y.1 y.2 := by
  rcases h with ⟨v, hm1, rfl, rfl, e, hI⟩ | ⟨k, c, u, hm1, rfl, e0, hc0, rfl, e, hI⟩
  · refine ⟨(up2 (mg hc hc) 395 0 v, hm1), ?_, hI.hi (fun i hi => ?_)⟩
    · simp only [bnd_s, wrp, sm, f_thrown, e, if_true, up2_ss]
    · dsimp only
      rw [up2_n (by omega)]
      unfold mg
      rw [if_pos (by omega)]
  · refine ⟨(mg hc hc, hm1), ?_, hI.hi (fun i hi => ?_)⟩
    · simp only [bnd_s, wrp, sm, f_thrown, e, e0, if_true, if_neg hc0]
    · dsimp only [mg]
      rw [if_pos (by omega)]
/-! rooms, numbers of days -/
theorem lg_lt (a b : Int32) : lg_cmp a.toInt64 b.toInt64 < 0 ↔ a < b := by
  unfold lg_cmp
  have e1 : (a.toInt64 > b.toInt64) ↔ b < a := by
    show b.toInt64 < a.toInt64 ↔ _
    rw [Int64.lt_iff_toInt_lt, Int32.lt_iff_toInt_lt, Int32.toInt_toInt64, Int32.toInt_toInt64]
  have e2 : (a.toInt64 = b.toInt64) ↔ a = b := by rw [← Int64.toInt_inj, ← Int32.toInt_inj, Int32.toInt_toInt64, Int32.toInt_toInt64]
  by_cases c1 : b < a
  · rw [if_pos (e1.mpr c1)]; exact ⟨fun h => absurd h (by decide), fun h => absurd (Int32.lt_trans c1 h) Int32.lt_irrefl⟩
  · rw [if_neg (fun h => c1 (e1.mp h))]
    by_cases c2 : a = b
    · rw [if_pos (e2.mpr c2)]; exact ⟨fun h => absurd h (by decide), fun h => absurd (c2 ▸ h) Int32.lt_irrefl⟩
    · rw [if_neg (fun h => c2 (e2.mp h))]
      refine ⟨fun _ => ?_, fun _ => by decide⟩
      rw [Int32.lt_iff_toInt_lt] at c1 ⊢
      have : a.toInt ≠ b.toInt := fun h => c2 (Int32.toInt_inj.mp h)
      omega
theorem lg_gt (a b : Int32) : 0 < lg_cmp a.toInt64 b.toInt64 ↔ b < a := by
  unfold lg_cmp
  have e1 : (a.toInt64 > b.toInt64) ↔ b < a := by
    show b.toInt64 < a.toInt64 ↔ _
    rw [Int64.lt_iff_toInt_lt, Int32.lt_iff_toInt_lt, Int32.toInt_toInt64, Int32.toInt_toInt64]
  by_cases c1 : b < a
  · rw [if_pos (e1.mpr c1)]; exact ⟨fun _ => c1, fun _ => by decide⟩
  · rw [if_neg (fun h => c1 (e1.mp h))]
    refine ⟨fun h => ?_, fun h => absurd h c1⟩
    by_cases c2 : a.toInt64 = b.toInt64
    · rw [if_pos c2] at h; exact absurd h (by decide)
    · rw [if_neg c2] at h; exact absurd h (by decide)
theorem isIn_y {h : ST} {a l u : Int32} (h1 : l ≤ a) (h2 : a ≤ u) : fX11_isIn h a.toInt64 l.toInt64 u.toInt64 = some 1 := by
  unfold fX11_isIn fX11_isIn_18
  rw [if_neg (fun q => absurd ((lg_lt a l).mp q) (Int32.not_lt.mpr h1)), if_neg (fun q => absurd ((lg_gt a u).mp q) (Int32.not_lt.mpr h2))]; rfl
theorem isIn_n {h : ST} {a l u : Int32} (h1 : ¬ (l ≤ a ∧ a ≤ u)) : fX11_isIn h a.toInt64 l.toInt64 u.toInt64 = some 0 := by
  unfold fX11_isIn fX11_isIn_17 fX11_isIn_18
  by_cases c : a < l
  · rw [if_pos ((lg_lt a l).mpr c)]; rfl
  · rw [if_neg (fun q => c ((lg_lt a l).mp q)), if_pos ((lg_gt a u).mpr (Int32.not_le.mp (fun q => h1 ⟨Int32.not_lt.mp c, q⟩)))]; rfl
theorem rf_f {f : Nat} (hf : f = 2 ∨ f = 20) {v : Int32} (e : v = nI f) : rf KC 395 1 v = some f := by
  subst e
  unfold rf
  rcases hf with rfl | rfl <;> decide
theorem fm_up {M hm : ST} (h : FM M hm) (k : Nat) (v : Int32) : FM M (up2 hm 0 k v) := fun i hi => (up2_n (fun q => by subst q; exact absurd hi (by decide))).trans (h i hi)
theorem rm_up {M hm : ST} {A : AS} (h : RM1 M A hm) {k : Nat} (hk : k ≠ 33 ∧ k ≠ 34 ∧ k ≠ 35) (v : Int32) : RM1 M A (up2 hm 0 k v) := by
  unfold RM1
  rw [up2_sn (Ne.symm hk.1), up2_sn (Ne.symm hk.2.1), up2_sn (Ne.symm hk.2.2), up2_n (by decide), up2_n (by decide), up2_n (by decide)]
  exact h
theorem room_c {f : Nat} {M : ST} {A : AS} {hc hm : ST} (h : J f M A hc hm) (a : Int32) :
    (∃ k, k < nR M ∧ a = nI k ∧ fX10_needRoom hc a = some (.inl ()) ∧ ∀ hm', FM M hm' → fX11_isRoom hm' a = some 1) ∨ (fX10_needRoom hc a = some (.inr 1) ∧ ∀ hm', FM M hm' → fX11_isRoom hm' a = some 0) := by
  obtain ⟨hf, h0, hB, hF, hCF, hR, hR1, hA⟩ := h
  have b0 := hB.1.1
  have h9 := hB.1.2.1
  have f0 : hc f 0 = nI (nR M) := hCF.1.1.trans b0
  by_cases c : a < 0
  · refine Or.inr ⟨?_, fun hm' hF' => ?_⟩
    · unfold fX10_needRoom fX10_needRoom_15; rw [if_pos c]
    · have f3 : hm' 3 = M 3 := hF' 3 (by decide)
      simp only [fX11_isRoom, bnd_s, pw_s, rd_0, rd_1, rd_2, rd_3, rd_4, rd_5, rd_6, wr_0, wr_1, wr_2, wr_3, wr_4, wr_5, zb_0, zb_1, Nat.reduceLT, Nat.reducePow, f3, isIn_n (h := hm') (l := 0) (u := M 3 0 - 1) (fun q => absurd c (Int32.not_lt.mpr q.1)), show (0 : Int64) = (0 : Int32).toInt64 from rfl]
  · obtain ⟨k, hk, rfl⟩ := nI_of c
    by_cases c2 : k < nR M
    · refine Or.inl ⟨k, c2, rfl, ?_, fun hm' hF' => ?_⟩
      · simp only [fX10_needRoom, bnd_s, pw_s, rd_0, rd_1, rd_2, rd_3, rd_4, rd_5, rd_6, wr_0, wr_1, wr_2, wr_3, wr_4, wr_5, zb_0, zb_1, Nat.reduceLT, Nat.reducePow, if_neg c, rf_f hf h0, f0, if_pos (nI_lt c2 (show nR M < 2 ^ 31 by omega))]
      · have f3 : hm' 3 = M 3 := hF' 3 (by decide)
        have e1 : nI (nR M) - 1 = nI (nR M - 1) := nI_sub (b := 1) (by omega)
        simp only [fX11_isRoom, bnd_s, pw_s, rd_0, rd_1, rd_2, rd_3, rd_4, rd_5, rd_6, wr_0, wr_1, wr_2, wr_3, wr_4, wr_5, zb_0, zb_1, Nat.reduceLT, Nat.reducePow, f3, b0, e1, isIn_y (h := hm') (l := 0) (u := nI (nR M - 1)) (nI_pos' hk) (nI_le (show k ≤ nR M - 1 by omega) (by omega)), show (0 : Int64) = (0 : Int32).toInt64 from rfl]
    · refine Or.inr ⟨?_, fun hm' hF' => ?_⟩
      · simp only [fX10_needRoom, fX10_needRoom_15, bnd_s, pw_s, rd_0, rd_1, rd_2, rd_3, rd_4, rd_5, rd_6, wr_0, wr_1, wr_2, wr_3, wr_4, wr_5, zb_0, zb_1, Nat.reduceLT, Nat.reducePow, if_neg c, rf_f hf h0, f0, if_neg (nI_nlt (show nR M ≤ k by omega) hk)]
      · have f3 : hm' 3 = M 3 := hF' 3 (by decide)
        have e2 : ¬ (0 ≤ nI k ∧ nI k ≤ nI (nR M) - 1) := by
          rintro ⟨q1, q2⟩
          rw [Int32.le_iff_toInt_le, nI_toInt hk] at q2
          have : (nI (nR M) - 1).toInt = (nR M : Int) - 1 := by
            rw [Int32.toInt_sub, nI_toInt (by omega)]
            show Int.bmod ((nR M : Int) - 1) (2 ^ 32) = _
            exact Int.bmod_eq_of_le (by omega) (by omega)
          rw [this] at q2
          omega
        simp only [fX11_isRoom, bnd_s, pw_s, rd_0, rd_1, rd_2, rd_3, rd_4, rd_5, rd_6, wr_0, wr_1, wr_2, wr_3, wr_4, wr_5, zb_0, zb_1, Nat.reduceLT, Nat.reducePow, f3, b0, isIn_n (h := hm') (l := 0) (u := nI (nR M) - 1) e2, show (0 : Int64) = (0 : Int32).toInt64 from rfl]
theorem ahead_c (hc : ST) (a : Int32) : (∃ n, n ≤ 99 ∧ a = nI n ∧ fX10_needAhead hc a = some (.inl ()) ∧ ∀ hm', fX11_isAhead hm' a = some 1) ∨ (fX10_needAhead hc a = some (.inr 2) ∧ ∀ hm', fX11_isAhead hm' a = some 0) := by
  by_cases c : a < 0
  · refine Or.inr ⟨?_, fun hm' => ?_⟩
    · unfold fX10_needAhead fX10_needAhead_10; rw [if_pos c]
    · simp only [fX11_isAhead, bnd_s, pw_s, rd_0, rd_1, rd_2, rd_3, rd_4, rd_5, rd_6, wr_0, wr_1, wr_2, wr_3, wr_4, wr_5, zb_0, zb_1, Nat.reduceLT, Nat.reducePow, isIn_n (h := hm') (l := 0) (u := 99) (fun q => absurd c (Int32.not_lt.mpr q.1)), show (0 : Int64) = (0 : Int32).toInt64 from rfl, show (99 : Int64) = (99 : Int32).toInt64 from rfl]
  · by_cases c2 : a ≤ 99
    · obtain ⟨n, hn, rfl⟩ := nI_of2 (n := 99) rfl c c2
      refine Or.inl ⟨n, hn, rfl, ?_, fun hm' => ?_⟩
      · unfold fX10_needAhead; rw [if_neg c, if_pos c2]
      · simp only [fX11_isAhead, bnd_s, pw_s, rd_0, rd_1, rd_2, rd_3, rd_4, rd_5, rd_6, wr_0, wr_1, wr_2, wr_3, wr_4, wr_5, zb_0, zb_1, Nat.reduceLT, Nat.reducePow, isIn_y (h := hm') (l := 0) (u := 99) (Int32.not_lt.mp c) c2, show (0 : Int64) = (0 : Int32).toInt64 from rfl, show (99 : Int64) = (99 : Int32).toInt64 from rfl]
    · refine Or.inr ⟨?_, fun hm' => ?_⟩
      · unfold fX10_needAhead fX10_needAhead_10; rw [if_neg c, if_neg c2]
      · simp only [fX11_isAhead, bnd_s, pw_s, rd_0, rd_1, rd_2, rd_3, rd_4, rd_5, rd_6, wr_0, wr_1, wr_2, wr_3, wr_4, wr_5, zb_0, zb_1, Nat.reduceLT, Nat.reducePow, isIn_n (h := hm') (l := 0) (u := 99) (fun q => c2 q.2), show (0 : Int64) = (0 : Int32).toInt64 from rfl, show (99 : Int64) = (99 : Int32).toInt64 from rfl]
