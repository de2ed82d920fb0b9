/-! ===== parish: what both have read so far; numbers ===== -/
def hfz (i : Nat) : Nat := if i = 3 then 7 else if i ≤ 7 then 9 else if i ≤ 10 then 14 else if i = 11 then 5 else if i ≤ 14 then 40 else if i = 15 then 10 else 700
def MG (t t' : ST) : Prop := (∀ i, i ≠ 0 → i < 3 ∨ 16 < i → t' i = t i) ∧ (∀ k, k < 20 ∨ 27 < k → t' 0 k = t 0 k) ∧ ∀ i k, 3 ≤ i → i ≤ 16 → k < hfz i → t' i k = t i k
theorem MG.rf {t : ST} : MG t t := ⟨fun _ _ _ => rfl, fun _ _ => rfl, fun _ _ _ _ _ => rfl⟩
theorem MG.tr {a b c : ST} (h : MG a b) (k : MG b c) : MG a c := ⟨fun i x y => (k.1 i x y).trans (h.1 i x y), fun i x => (k.2.1 i x).trans (h.2.1 i x), fun i j x y z => (k.2.2 i j x y z).trans (h.2.2 i j x y z)⟩
theorem MG.up {a b : ST} (h : MG a b) {i k : Nat} {v : Int32} (h1 : 3 ≤ i) (h2 : i ≤ 16) (h3 : hfz i ≤ k) : MG a (up2 b i k v) := by
  refine h.tr ⟨fun j x y => up2_n (by omega), fun j x => by rw [up2_n (by omega)], fun j l x y z => ?_⟩
  by_cases c : j = i
  · subst c; rw [up2_sn (by omega)]
  · rw [up2_n c]
theorem MG.u0 {a b : ST} (h : MG a b) {k : Nat} {v : Int32} (h1 : 20 ≤ k) (h2 : k ≤ 27) : MG a (up2 b 0 k v) :=
  h.tr ⟨fun j x y => up2_n x, fun j x => up2_sn (by omega), fun j l x y z => by rw [up2_n (by omega)]⟩
theorem MG.of {a b : ST} (h1 : Fr [0] a b) {T : List Nat} (h2 : Fs 0 T a b) (h3 : ∀ k, k ∈ T → 20 ≤ k ∧ k ≤ 27) : MG a b :=
  ⟨fun i x _ => h1 i (by simp only [List.mem_cons, List.not_mem_nil, or_false]; omega), fun k x => h2 k (fun q => by have := h3 k q; omega), fun i k x _ _ => by rw [h1 i (by simp only [List.mem_cons, List.not_mem_nil, or_false]; omega)]⟩
def KG (g : Nat) (h h' : ST) : Prop := ∀ i, ¬ (g ≤ i ∧ i < g + 18) → ¬ (38 ≤ i ∧ i ≤ 41) → h' i = h i
theorem KG.rf {g : Nat} {h : ST} : KG g h h := fun _ _ _ => rfl
theorem KG.tr {g : Nat} {a b c : ST} (x : KG g a b) (y : KG g b c) : KG g a c := fun i p q => (y i p q).trans (x i p q)
theorem KG.of {g : Nat} {S : List Nat} {a b : ST} (x : Fr S a b) (h : ∀ i, i ∈ S → (g ≤ i ∧ i < g + 18) ∨ (38 ≤ i ∧ i ≤ 41)) : KG g a b := fun i p q => x i (fun m => by have := h i m; omega)
/-- the doors' steps, as the class's table holds them -/
def wdC (t : ST) : Nat → Nat → Int32
  | 0 => fun _ => -1
  | d + 1 => upd (upd (wdC t d) (9 * (t 8 (14 + d)).toNatClampNeg + (t 9 (14 + d)).toNatClampNeg) (t 10 (14 + d))) (9 * (t 9 (14 + d)).toNatClampNeg + (t 8 (14 + d)).toNatClampNeg) (t 10 (14 + d))
/-- a rule laid from 700 on -/
def rnS (row : Nat → Int32) (vals : Nat → Int32) : Nat → Option (List Int32)
  | 0 => some []
  | i + 1 => match rnS row vals i with
    | none => none
    | some st => stepR vals (row (700 + i)) st
def HF1 (g : Nat) (h t : ST) (nr nd nw nc nz : Nat) : Prop :=
  (nr ≤ 9 ∧ nd ≤ 14 ∧ nw ≤ 5 ∧ nc ≤ 10 ∧ nz ≤ 700) ∧
  (t 3 7 = nI nr ∧ h g 0 = nI nr) ∧ (t 3 8 = nI nd ∧ h g 5 = nI nd) ∧ (t 3 9 = nI nw ∧ h g 8 = nI nw) ∧ (t 3 10 = nI nc ∧ h g 13 = nI nc) ∧
  (∃ e, 1 ≤ e ∧ e ≤ 30 ∧ t 3 11 = nI e ∧ h g 15 = nI e) ∧ (∃ q, q ≤ 999 ∧ t 3 12 = nI q ∧ h g 16 = nI q) ∧ (t 3 13 = nI nz ∧ h (g + 12) 1 = nI nz)
def HFr (g : Nat) (h t : ST) (nr : Nat) : Prop := ∀ r, r < nr → ∃ k o d v, (k ≤ 2 ∧ o ≤ 5 ∧ d ≤ 999 ∧ v ≤ 99) ∧ (t 4 (9 + r) = nI k ∧ h (g + 1) r = nI k) ∧ (t 5 (9 + r) = nI o ∧ h (g + 2) r = nI o) ∧ (t 6 (9 + r) = nI d ∧ h (g + 3) r = nI d) ∧ (t 7 (9 + r) = nI v ∧ h (g + 4) r = nI v)
def HFd (g : Nat) (h t : ST) (nr nd : Nat) : Prop := (∀ i, i < nd → ∃ a b s, (a < nr ∧ b < nr ∧ a ≠ b ∧ 1 ≤ s ∧ s ≤ 9) ∧ (t 8 (14 + i) = nI a ∧ h (g + 5) i = nI a) ∧ (t 9 (14 + i) = nI b ∧ h (g + 6) i = nI b) ∧ t 10 (14 + i) = nI s) ∧ E81 (h (g + 16)) (wdC t nd)
def HFw (g : Nat) (h t : ST) (nr nw : Nat) : Prop := ∀ w, w < nw → ∃ k, k ≤ 8 ∧ (t 11 (5 + w) = nI k ∧ h (g + 7) w = nI k) ∧ ∀ j, j < k → ∃ a b s, (a < nr ∧ b < nr ∧ 1 ≤ s ∧ s ≤ 9) ∧ (t 12 (40 + (8 * w + j)) = nI a ∧ h (g + 8) (8 * w + j) = nI a) ∧ (t 13 (40 + (8 * w + j)) = nI b ∧ h (g + 9) (8 * w + j) = nI b) ∧ (t 14 (40 + (8 * w + j)) = nI s ∧ h (g + 10) (8 * w + j) = nI s)
def HFc (g : Nat) (h t : ST) (nw nc : Nat) : Prop := ∀ i, i < nc → ∃ v, (v = 5 ∨ v < nw) ∧ t 15 (10 + i) = nI v ∧ h (g + 11) i = nI v
def HFz (g : Nat) (h t : ST) (nz : Nat) : Prop := (∀ i, i < nz → h (g + 14) i = cmap (t 16 (700 + i))) ∧ (nz = 0 ∨ ∀ vals, ∃ v, rnS (t 16) vals nz = some [v])
def HF (g : Nat) (h t : ST) (nr nd nw nc nz : Nat) : Prop := HF1 g h t nr nd nw nc nz ∧ HFr g h t nr ∧ HFd g h t nr nd ∧ HFw g h t nr nw ∧ HFc g h t nw nc ∧ HFz g h t nz
theorem wdC_cong {t t' : ST} (e8 : t' 8 = t 8) (e9 : t' 9 = t 9) (e10 : t' 10 = t 10) : ∀ d, wdC t' d = wdC t d
  | 0 => rfl
  | d + 1 => by unfold wdC; rw [wdC_cong e8 e9 e10 d, e8, e9, e10]
theorem HF.kept {g : Nat} {h t h' t' : ST} {nr nd nw nc nz : Nat} (x : HF g h t nr nd nw nc nz) (e : ∀ i, g ≤ i → i < g + 18 → h' i = h i) (m : ∀ i, 3 ≤ i → i ≤ 16 → t' i = t i) : HF g h' t' nr nd nw nc nz := by
  unfold HF HF1 HFr HFd HFw HFc HFz
  rw [wdC_cong (m 8 (by decide) (by decide)) (m 9 (by decide) (by decide)) (m 10 (by decide) (by decide))]
  rw [m 3 (by decide) (by decide), m 4 (by decide) (by decide), m 5 (by decide) (by decide), m 6 (by decide) (by decide), m 7 (by decide) (by decide), m 8 (by decide) (by decide), m 9 (by decide) (by decide), m 10 (by decide) (by decide), m 11 (by decide) (by decide), m 12 (by decide) (by decide), m 13 (by decide) (by decide), m 14 (by decide) (by decide), m 15 (by decide) (by decide), m 16 (by decide) (by decide)]
  rw [e g (by omega) (by omega), e (g + 1) (by omega) (by omega), e (g + 2) (by omega) (by omega), e (g + 3) (by omega) (by omega), e (g + 4) (by omega) (by omega), e (g + 5) (by omega) (by omega), e (g + 6) (by omega) (by omega), e (g + 7) (by omega) (by omega), e (g + 8) (by omega) (by omega), e (g + 9) (by omega) (by omega), e (g + 10) (by omega) (by omega), e (g + 11) (by omega) (by omega), e (g + 12) (by omega) (by omega), e (g + 14) (by omega) (by omega), e (g + 16) (by omega) (by omega)]
  exact x
def PR (g : Nat) (B : Nat → Nat) (L : Nat) (h t : ST) (kd st en : Nat) : Prop := BY B L h t ∧ TR L h t kd st en ∧ t 0 26 = 0 ∧ h 38 2 = nI g ∧ (g = 2 ∨ g = 20)
theorem PR.step {g : Nat} {B : Nat → Nat} {L : Nat} {h t : ST} {kd st en : Nat} (p : PR g B L h t kd st en) : ∃ h' t' kd' st' en', fX9_step h = some h' ∧ fX11_stepOn t = some t' ∧ PR g B L h' t' kd' st' en' ∧ en ≤ st' ∧ Fr [39] h h' ∧ Fr [0] t t' ∧ Fs 0 TKs t t' := by
  obtain ⟨b, r, p1, p2, p3⟩ := p
  obtain ⟨h', t', kd', st', en', s1, s2, s3, s4, s5, s6, s7⟩ := stepR2 b r.1.1 r.1.2 r.2.1.1 r.2.1.2.1 r.2.2.2.2.1.2.1
  exact ⟨h', t', kd', st', en', s1, s2, ⟨b.kept (s5 1 (by decide)) (s6 18 (by decide)), s3, (s7 26 (by decide)).trans p1, by rw [s5 38 (by decide)]; exact p2, p3⟩, s4, s5, s6, s7⟩
/-- a fault of both -/
def BD (h t' : ST) (c : Int32) : Prop := ¬ c = 0 ∧ t' 0 26 = c ∧ t' 0 27 = h 39 1
theorem wrongM {g : Nat} {B : Nat → Nat} {L : Nat} {h t : ST} {kd st en : Nat} (p : PR g B L h t kd st en) {c : Int32} (hc : ¬ c = 0) : ∃ t', fX11_wrong t c = some t' ∧ BD h t' c ∧ Fr [0] t t' ∧ Fs 0 [26, 27] t t' := by
  refine ⟨up2 (up2 t 0 26 c) 0 27 (t 0 24), ?_, ⟨hc, ?_, ?_⟩, (Fr.rf.up (by decide)).up (by decide), (Fs.rf.up (by decide)).up (by decide)⟩
  · have g : up2 t 0 26 c 0 24 = t 0 24 := up2_sn (by decide)
    unfold fX11_wrong
    rw [if_pos p.2.2.1, pw_s, bnd_s, g, pw_s, bnd_s]
  · rw [up2_sn (by decide), up2_ss]
  · rw [up2_ss]; exact p.2.1.2.2.1.2.trans p.2.1.2.2.1.1.symm
theorem wrongW {t : ST} (h : ¬ t 0 26 = 0) (c : Int32) : fX11_wrong t c = some t := by
  unfold fX11_wrong
  rw [if_neg h]
theorem numW {t : ST} (h : ¬ t 0 26 = 0) (a b : Int32) : fX11_numberNow t a b = some (0, t) ∧ fX11_readNumber t a b = some (0, t) := by
  have e : fX11_numberNow t a b = some (0, t) := by
    unfold fX11_numberNow
    rw [if_neg h]
  refine ⟨e, ?_⟩
  unfold fX11_readNumber fX11_readNumber_18
  rw [e, bnd_s, if_neg h]
/-- a number at hand -/
theorem nowR {g : Nat} {B : Nat → Nat} {L : Nat} {h t : ST} {kd st en : Nat} (p : PR g B L h t kd st en) {lo hi : Nat} (hlh : hi ≤ 9999) (hlo : lo ≤ 9999) :
    (∃ v, kd = 2 ∧ lo ≤ v ∧ v ≤ hi ∧ fX4_lookAtNumber h = some 0 ∧ h 39 2 = nI v ∧ fX11_numberNow t (nI lo) (nI hi) = some (nI v, t)) ∨
    (∃ v t', kd = 2 ∧ v ≤ 9999 ∧ fX4_lookAtNumber h = some 0 ∧ h 39 2 = nI v ∧ (v < lo ∨ hi < v) ∧ fX11_numberNow t (nI lo) (nI hi) = some (0, t') ∧ BD h t' 2 ∧ Fr [0] t t' ∧ Fs 0 [26, 27] t t') ∨
    ∃ c t', fX4_lookAtNumber h = some c ∧ BD h t' c ∧ fX11_numberNow t (nI lo) (nI hi) = some (0, t') ∧ Fr [0] t t' ∧ Fs 0 [26, 27] t t' ∧ (kd = 2 ∧ c = 2 ∨ ¬ kd = 2 ∧ c = 1) := by
  obtain ⟨b, r, p1, p2, p3⟩ := id p
  have L7 := b.1
  obtain ⟨-, ⟨-, -, r2⟩, ⟨-, r3⟩, ⟨r4, r4'⟩, ⟨r5, r6, r7⟩, -, -, r8⟩ := id r
  have k2 : nI kd = 2 ↔ kd = 2 := nI_eq (b := 2) (by omega) (by decide)
  have bad : ∀ c : Int32, ¬ c = 0 → ∃ t', bnd (fX11_wrong t c) (fun r9 => fX11_numberNow_59 r9) = some (0, t') ∧ BD h t' c ∧ Fr [0] t t' ∧ Fs 0 [26, 27] t t' := fun c hc => by
    obtain ⟨t', t1, t2, t3, t4⟩ := wrongM p hc
    refine ⟨t', ?_, t2, t3, t4⟩
    unfold fX11_numberNow_59 fX11_numberNow_74
    rw [t1, bnd_s, if_neg (by rw [t2.2.1]; exact hc)]
  have sb : nI en - nI st = nI (en - st) := nI_sub r5
  by_cases c : kd = 2
  · rcases r8 c with ⟨n1, n2, v, n3, n4, n5⟩ | ⟨n1, n2⟩
    · have lk : fX4_lookAtNumber h = some 0 := by
        unfold fX4_lookAtNumber fX4_lookAtNumber_28
        rw [r4, if_pos (k2.mpr c), n2, if_pos rfl]
      have hd : fX11_numberNow t (nI lo) (nI hi) = if nI v < nI lo then fX11_numberNow_54 t else if nI v ≤ nI hi then fX11_numberNow_59 t else fX11_numberNow_54 t := by
        unfold fX11_numberNow
        rw [if_pos p1, r4', if_pos (k2.mpr c), r2, r3, sb, if_neg (show ¬ 4 < nI (en - st) from nI_nlt (a := 4) n1 (by decide)), n5]
      obtain ⟨t', t1, t2, t3, t4⟩ := bad 2 (by decide)
      by_cases d1 : v < lo
      · right; left
        refine ⟨v, t', c, n3, lk, n4, Or.inl d1, ?_, t2, t3, t4⟩
        rw [hd, if_pos (nI_lt d1 (by omega))]; exact t1
      · by_cases d2 : v ≤ hi
        · left
          refine ⟨v, c, by omega, d2, lk, n4, ?_⟩
          rw [hd, if_neg (nI_nlt (by omega) (by omega)), if_pos (nI_le d2 (by omega))]
          unfold fX11_numberNow_59 fX11_numberNow_74
          rw [if_pos p1, n5]
        · right; left
          refine ⟨v, t', c, n3, lk, n4, Or.inr (by omega), ?_, t2, t3, t4⟩
          rw [hd, if_neg (nI_nlt (by omega) (by omega)), if_neg (nI_ge (by omega) (by omega))]; exact t1
    · right; right
      obtain ⟨t', t1, t2, t3, t4⟩ := bad 2 (by decide)
      refine ⟨2, t', ?_, t2, ?_, t3, t4, Or.inl ⟨c, rfl⟩⟩
      · unfold fX4_lookAtNumber fX4_lookAtNumber_28
        rw [r4, if_pos (k2.mpr c), n2, if_neg (show ¬ (1 : Int32) = 0 by decide)]
      · unfold fX11_numberNow
        rw [if_pos p1, r4', if_pos (k2.mpr c), r2, r3, sb, if_pos (show 4 < nI (en - st) from nI_lt (a := 4) n1 (by omega))]; exact t1
  · right; right
    obtain ⟨t', t1, t2, t3, t4⟩ := bad 1 (by decide)
    refine ⟨1, t', ?_, t2, ?_, t3, t4, Or.inr ⟨c, rfl⟩⟩
    · unfold fX4_lookAtNumber
      rw [r4, if_neg (fun z => c (k2.mp z))]
    · unfold fX11_numberNow
      rw [if_pos p1, r4', if_neg (fun z => c (k2.mp z))]; exact t1
/-- a number read -/
theorem numR {g : Nat} {B : Nat → Nat} {L : Nat} {h t : ST} {kd st en : Nat} (p : PR g B L h t kd st en) {lo hi : Nat} (hlh : hi ≤ 9999) (hlo : lo ≤ 9999) :
    (∃ v h' t' kd' st' en', lo ≤ v ∧ v ≤ hi ∧ fX4_readNumber h (nI lo) (nI hi) = some (0, h') ∧ fX11_readNumber t (nI lo) (nI hi) = some (nI v, t') ∧ h' 38 3 = nI v ∧ PR g B L h' t' kd' st' en' ∧ en ≤ st' ∧ Fr [38, 39] h h' ∧ Fs 38 [3] h h' ∧ Fr [0] t t' ∧ Fs 0 TKs t t') ∨
    ∃ c t', fX4_readNumber h (nI lo) (nI hi) = some (c, h) ∧ fX11_readNumber t (nI lo) (nI hi) = some (0, t') ∧ BD h t' c ∧ Fr [0] t t' ∧ Fs 0 [26, 27] t t' := by
  have fin : ∀ (c : Int32) t', ¬ c = 0 → fX11_numberNow t (nI lo) (nI hi) = some (0, t') → BD h t' c → fX11_readNumber t (nI lo) (nI hi) = some (0, t') := fun c t' hc e bd => by
    unfold fX11_readNumber fX11_readNumber_18
    rw [e, bnd_s]
    dsimp only
    rw [if_neg (by rw [bd.2.1]; exact hc)]
  have cbad : ∀ c : Int32, ¬ c = 0 → fX4_readNumber_33 h c = some (c, h) := fun c hc => by
    unfold fX4_readNumber_33 fX4_readNumber_55
    rw [if_neg hc]
  rcases nowR p (lo := lo) hlh hlo with ⟨v, -, v1, v2, v3, v4, v5⟩ | ⟨v, t', -, v0, v1, v2, v3, v4, v5, v6, v7⟩ | ⟨c, t', v1, v2, v3, v4, v5, -⟩
  · left
    have p' : PR g B L (up2 h 38 3 (nI v)) t kd st en := by
      refine ⟨p.1.kept (up2_n (by decide)) rfl, ?_, p.2.2.1, by rw [up2_sn (by decide)]; exact p.2.2.2.1, p.2.2.2.2⟩
      unfold TR NB
      rw [up2_n (by decide)]
      exact p.2.1
    obtain ⟨h', t', kd', st', en', s1, s2, s3, s4, s5, s6, s7⟩ := p'.step
    refine ⟨v, h', t', kd', st', en', v1, v2, ?_, ?_, ?_, s3, s4, (Fr.rf.up (by decide)).tr (s5.sub (by decide)), (Fs.rf.up (by decide)).tr (Fs.of s5 (by decide)), s6, s7⟩
    · unfold fX4_readNumber fX4_readNumber_33 fX4_readNumber_55
      rw [v3, bnd_s, if_pos rfl, v4, if_neg (nI_nlt v1 (by omega)), if_pos (nI_le v2 (by omega)), if_pos rfl, pw_s, bnd_s, s1, bnd_s]
    · unfold fX11_readNumber fX11_readNumber_18
      rw [v5, bnd_s]
      dsimp only
      rw [if_pos p.2.2.1, s2, bnd_s]
    · rw [s5 38 (by decide), up2_ss]
  · right
    refine ⟨2, t', ?_, fin 2 t' (by decide) v4 v5, v5, v6, v7⟩
    unfold fX4_readNumber fX4_readNumber_31
    rw [v1, bnd_s, if_pos rfl, v2]
    by_cases d : v < lo
    · rw [if_pos (nI_lt d (by omega))]; exact cbad 2 (by decide)
    · rw [if_neg (nI_nlt (by omega) (by omega)), if_neg (nI_ge (show hi < v by omega) (by omega))]; exact cbad 2 (by decide)
  · right
    refine ⟨c, t', ?_, fin c t' v2.1 v3 v2, v2, v4, v5⟩
    unfold fX4_readNumber
    rw [v1, bnd_s, if_neg v2.1]; exact cbad c v2.1
/-- a room at hand -/
theorem roomNowR {g : Nat} {B : Nat → Nat} {L : Nat} {h t : ST} {kd st en nr : Nat} (p : PR g B L h t kd st en) (hr : nr ≤ 9) (c0 : h g 0 = nI nr) (m0 : t 3 7 = nI nr) :
    (∃ v, v < nr ∧ fX4_lookAtRoomNumber h = some 0 ∧ h 39 2 = nI v ∧ fX11_roomNow t = some (nI v, t)) ∨
    ∃ c t', fX4_lookAtRoomNumber h = some c ∧ fX11_roomNow t = some (0, t') ∧ BD h t' c ∧ Fr [0] t t' ∧ Fs 0 [26, 27] t t' := by
  have rff : rf KC 395 1 (h 38 2) = some g := rf_f p.2.2.2.2 p.2.2.2.1
  rcases nowR p (lo := 0) (hi := 9999) (by decide) (by decide) with ⟨v, -, v1, v2, v3, v4, v5⟩ | ⟨v, t', -, v0, v1, v2, v3, -⟩ | ⟨c, t', v1, v2, v3, v4, v5, -⟩
  · have v5' : fX11_numberNow t 0 9999 = some (nI v, t) := v5
    by_cases d : v < nr
    · left
      refine ⟨v, d, ?_, v4, ?_⟩
      · unfold fX4_lookAtRoomNumber fX4_lookAtRoomNumber_30 fX4_lookAtRoomNumber_31
        rw [v3, bnd_s, if_pos rfl, rff, bnd_s, v4, c0, if_pos (nI_lt d (by omega))]
      · unfold fX11_roomNow fX11_roomNow_32 fX11_roomNow_44
        rw [v5', bnd_s]
        dsimp only
        rw [if_pos p.2.2.1, rd_7 (by decide) (by decide), bnd_s, m0, if_pos (nI_lt d (by omega)), if_pos p.2.2.1]
    · right
      obtain ⟨t', t1, t2, t3, t4⟩ := wrongM p (c := 3) (by decide)
      refine ⟨3, t', ?_, ?_, t2, t3, t4⟩
      · unfold fX4_lookAtRoomNumber fX4_lookAtRoomNumber_31
        rw [v3, bnd_s, if_pos rfl, rff, bnd_s, v4, c0, if_neg (nI_nlt (by omega) (by omega))]
      · unfold fX11_roomNow fX11_roomNow_32 fX11_roomNow_44
        rw [v5', bnd_s]
        dsimp only
        rw [if_pos p.2.2.1, rd_7 (by decide) (by decide), bnd_s, m0, if_neg (nI_nlt (by omega) (by omega)), t1, bnd_s, if_neg (by rw [t2.2.1]; decide)]
  · omega
  · right
    have v3' : fX11_numberNow t 0 9999 = some (0, t') := v3
    refine ⟨c, t', ?_, ?_, v2, v4, v5⟩
    · unfold fX4_lookAtRoomNumber fX4_lookAtRoomNumber_30 fX4_lookAtRoomNumber_31
      rw [v1, bnd_s, if_neg v2.1]
    · have nz : ¬ t' 0 26 = 0 := by rw [v2.2.1]; exact v2.1
      unfold fX11_roomNow fX11_roomNow_32 fX11_roomNow_44
      rw [v3', bnd_s]
      dsimp only
      rw [if_neg nz, if_neg nz]
theorem roomW {t : ST} (h : ¬ t 0 26 = 0) : fX11_roomNow t = some (0, t) ∧ fX11_readRoom t = some (0, t) := by
  have e : fX11_roomNow t = some (0, t) := by
    unfold fX11_roomNow fX11_roomNow_32 fX11_roomNow_44
    rw [show fX11_numberNow t 0 9999 = some (0, t) from (numW h _ _).1, bnd_s, if_neg h, if_neg h]
  refine ⟨e, ?_⟩
  unfold fX11_readRoom fX11_readRoom_16
  rw [e, bnd_s, if_neg h]
