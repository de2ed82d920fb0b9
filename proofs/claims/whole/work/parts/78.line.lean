/-! ===== parish: a line, by its word ===== -/
theorem bnd_as {α β γ : Type} (a : Option α) (f : α → Option β) (q : β → Option γ) : bnd (bnd a f) q = bnd a fun x => bnd (f x) q := by cases a <;> rfl
theorem bnd_eta {α β : Type} (a : Option (α × β)) : (bnd a fun r => some (r.1, r.2)) = a := by cases a <;> rfl
theorem LG.cast {g : Nat} {B : Nat → Nat} {L : Nat} {h t : ST} {st : Nat} {T : List Nat} {k : Nat} {v : Int32} {X X' : Option ((ST × Int32) ⊕ ((ST × Int32) ⊕ ST))} {Y Y' : Option (Int32 × ST)} (x : LG g B L h t st T k v X Y) (eX : X' = X) (eY : Y' = Y) : LG g B L h t st T k v X' Y' := by rw [eX, eY]; exact x
def wd (B : Nat → Nat) (kd st en k : Nat) : Bool := decide (kd = 1) && wq B k st en
theorem wd_one {B : Nat → Nat} {kd st en j k : Nat} (hk : wd B kd st en k = true) (j20 : j < 20) (k20 : k < 20) (ne : j ≠ k) : wd B kd st en j = false := by
  unfold wd at hk ⊢
  rw [Bool.and_eq_true] at hk
  cases z : (decide (kd = 1) && wq B j st en)
  · rfl
  · rw [Bool.and_eq_true] at z
    exact absurd (wq_one j20 k20 z.2 hk.2) ne
/-- which line -/
theorem lineK (B : Nat → Nat) (kd st en : Nat) : (∃ k, 1 ≤ k ∧ k ≤ 10 ∧ wd B kd st en k = true) ∨ ∀ k, 1 ≤ k → k ≤ 10 → wd B kd st en k = false := by
  by_cases c : ∃ k, 1 ≤ k ∧ k ≤ 10 ∧ wd B kd st en k = true
  · exact Or.inl c
  · refine Or.inr (fun k a b => ?_)
    cases z : wd B kd st en k
    · rfl
    · exact absurd ⟨k, a, b, z⟩ c

theorem lineC {g : Nat} {B : Nat → Nat} {L : Nat} {h t : ST} {kd st en : Nat} (p : PR g B L h t kd st en) :
    (wd B kd st en 1 = true → fX4_readLine h = fX4_readRoom h 0) ∧ (wd B kd st en 2 = true → fX4_readLine h = fX4_readRoom h 1) ∧ (wd B kd st en 3 = true → fX4_readLine h = fX4_readRoom h 2) ∧ (wd B kd st en 4 = true → fX4_readLine h = fX4_readDoor h) ∧ (wd B kd st en 5 = true → fX4_readLine h = fX4_readWind h) ∧ (wd B kd st en 6 = true → fX4_readLine h = fX4_readBlow h) ∧ (wd B kd st en 7 = true → fX4_readLine h = fX4_readCalendar h) ∧ (wd B kd st en 8 = true → fX4_readLine h = fX4_readEvery h) ∧ (wd B kd st en 9 = true → fX4_readLine h = fX4_readClean h) ∧ (wd B kd st en 10 = true → fX4_readLine h = if (h 38 7) = 0 then (bnd (pw h 38 7 1) fun h32 => bnd (fX9_step h32) fun r34 => bnd (rf KC 395 1 (r34 38 2)) fun f36 => bnd (fX6_read r34 (f36 + 12)) fun r38 => some (r38.1, r38.2)) else some (5, h)) ∧ ((∀ k, 1 ≤ k → k ≤ 10 → wd B kd st en k = false) → fX4_readLine h = some (1, h)) := by
  have w : ∀ k, k < 20 → fX9_isWord h k = some (bz (wd B kd st en k)) := fun k hk => wordC p.1 p.2.1 hk
  have n1 : ¬ bz true = 0 := by decide
  have z1 : bz false = 0 := rfl
  unfold fX4_readLine
  refine ⟨fun e => ?_, fun e => ?_, fun e => ?_, fun e => ?_, fun e => ?_, fun e => ?_, fun e => ?_, fun e => ?_, fun e => ?_, fun e => ?_, fun e => ?_⟩
  · rw [w 1 (by decide), e, bnd_s, if_neg n1]; exact bnd_eta _
  · rw [w 1 (by decide), wd_one e (show 1 < 20 by decide) (by decide) (by decide), bnd_s, if_pos z1, w 2 (by decide), e, bnd_s, if_neg n1]; exact bnd_eta _
  · rw [w 1 (by decide), wd_one e (show 1 < 20 by decide) (by decide) (by decide), bnd_s, if_pos z1, w 2 (by decide), wd_one e (show 2 < 20 by decide) (by decide) (by decide), bnd_s, if_pos z1, w 3 (by decide), e, bnd_s, if_neg n1]; exact bnd_eta _
  · rw [w 1 (by decide), wd_one e (show 1 < 20 by decide) (by decide) (by decide), bnd_s, if_pos z1, w 2 (by decide), wd_one e (show 2 < 20 by decide) (by decide) (by decide), bnd_s, if_pos z1, w 3 (by decide), wd_one e (show 3 < 20 by decide) (by decide) (by decide), bnd_s, if_pos z1, w 4 (by decide), e, bnd_s, if_neg n1]; exact bnd_eta _
  · rw [w 1 (by decide), wd_one e (show 1 < 20 by decide) (by decide) (by decide), bnd_s, if_pos z1, w 2 (by decide), wd_one e (show 2 < 20 by decide) (by decide) (by decide), bnd_s, if_pos z1, w 3 (by decide), wd_one e (show 3 < 20 by decide) (by decide) (by decide), bnd_s, if_pos z1, w 4 (by decide), wd_one e (show 4 < 20 by decide) (by decide) (by decide), bnd_s, if_pos z1, w 5 (by decide), e, bnd_s, if_neg n1]; exact bnd_eta _
  · rw [w 1 (by decide), wd_one e (show 1 < 20 by decide) (by decide) (by decide), bnd_s, if_pos z1, w 2 (by decide), wd_one e (show 2 < 20 by decide) (by decide) (by decide), bnd_s, if_pos z1, w 3 (by decide), wd_one e (show 3 < 20 by decide) (by decide) (by decide), bnd_s, if_pos z1, w 4 (by decide), wd_one e (show 4 < 20 by decide) (by decide) (by decide), bnd_s, if_pos z1, w 5 (by decide), wd_one e (show 5 < 20 by decide) (by decide) (by decide), bnd_s, if_pos z1, w 6 (by decide), e, bnd_s, if_neg n1]; exact bnd_eta _
  · rw [w 1 (by decide), wd_one e (show 1 < 20 by decide) (by decide) (by decide), bnd_s, if_pos z1, w 2 (by decide), wd_one e (show 2 < 20 by decide) (by decide) (by decide), bnd_s, if_pos z1, w 3 (by decide), wd_one e (show 3 < 20 by decide) (by decide) (by decide), bnd_s, if_pos z1, w 4 (by decide), wd_one e (show 4 < 20 by decide) (by decide) (by decide), bnd_s, if_pos z1, w 5 (by decide), wd_one e (show 5 < 20 by decide) (by decide) (by decide), bnd_s, if_pos z1, w 6 (by decide), wd_one e (show 6 < 20 by decide) (by decide) (by decide), bnd_s, if_pos z1, w 7 (by decide), e, bnd_s, if_neg n1]; exact bnd_eta _
  · rw [w 1 (by decide), wd_one e (show 1 < 20 by decide) (by decide) (by decide), bnd_s, if_pos z1, w 2 (by decide), wd_one e (show 2 < 20 by decide) (by decide) (by decide), bnd_s, if_pos z1, w 3 (by decide), wd_one e (show 3 < 20 by decide) (by decide) (by decide), bnd_s, if_pos z1, w 4 (by decide), wd_one e (show 4 < 20 by decide) (by decide) (by decide), bnd_s, if_pos z1, w 5 (by decide), wd_one e (show 5 < 20 by decide) (by decide) (by decide), bnd_s, if_pos z1, w 6 (by decide), wd_one e (show 6 < 20 by decide) (by decide) (by decide), bnd_s, if_pos z1, w 7 (by decide), wd_one e (show 7 < 20 by decide) (by decide) (by decide), bnd_s, if_pos z1, w 8 (by decide), e, bnd_s, if_neg n1]; exact bnd_eta _
  · rw [w 1 (by decide), wd_one e (show 1 < 20 by decide) (by decide) (by decide), bnd_s, if_pos z1, w 2 (by decide), wd_one e (show 2 < 20 by decide) (by decide) (by decide), bnd_s, if_pos z1, w 3 (by decide), wd_one e (show 3 < 20 by decide) (by decide) (by decide), bnd_s, if_pos z1, w 4 (by decide), wd_one e (show 4 < 20 by decide) (by decide) (by decide), bnd_s, if_pos z1, w 5 (by decide), wd_one e (show 5 < 20 by decide) (by decide) (by decide), bnd_s, if_pos z1, w 6 (by decide), wd_one e (show 6 < 20 by decide) (by decide) (by decide), bnd_s, if_pos z1, w 7 (by decide), wd_one e (show 7 < 20 by decide) (by decide) (by decide), bnd_s, if_pos z1, w 8 (by decide), wd_one e (show 8 < 20 by decide) (by decide) (by decide), bnd_s, if_pos z1, w 9 (by decide), e, bnd_s, if_neg n1]; exact bnd_eta _
  · rw [w 1 (by decide), wd_one e (show 1 < 20 by decide) (by decide) (by decide), bnd_s, if_pos z1, w 2 (by decide), wd_one e (show 2 < 20 by decide) (by decide) (by decide), bnd_s, if_pos z1, w 3 (by decide), wd_one e (show 3 < 20 by decide) (by decide) (by decide), bnd_s, if_pos z1, w 4 (by decide), wd_one e (show 4 < 20 by decide) (by decide) (by decide), bnd_s, if_pos z1, w 5 (by decide), wd_one e (show 5 < 20 by decide) (by decide) (by decide), bnd_s, if_pos z1, w 6 (by decide), wd_one e (show 6 < 20 by decide) (by decide) (by decide), bnd_s, if_pos z1, w 7 (by decide), wd_one e (show 7 < 20 by decide) (by decide) (by decide), bnd_s, if_pos z1, w 8 (by decide), wd_one e (show 8 < 20 by decide) (by decide) (by decide), bnd_s, if_pos z1, w 9 (by decide), wd_one e (show 9 < 20 by decide) (by decide) (by decide), bnd_s, if_pos z1, w 10 (by decide), e, bnd_s, if_neg n1]
  · rw [w 1 (by decide), e 1 (by decide) (by decide), bnd_s, if_pos z1, w 2 (by decide), e 2 (by decide) (by decide), bnd_s, if_pos z1, w 3 (by decide), e 3 (by decide) (by decide), bnd_s, if_pos z1, w 4 (by decide), e 4 (by decide) (by decide), bnd_s, if_pos z1, w 5 (by decide), e 5 (by decide) (by decide), bnd_s, if_pos z1, w 6 (by decide), e 6 (by decide) (by decide), bnd_s, if_pos z1, w 7 (by decide), e 7 (by decide) (by decide), bnd_s, if_pos z1, w 8 (by decide), e 8 (by decide) (by decide), bnd_s, if_pos z1, w 9 (by decide), e 9 (by decide) (by decide), bnd_s, if_pos z1, w 10 (by decide), e 10 (by decide) (by decide), bnd_s, if_pos z1]
theorem lineW3 {g : Nat} {B : Nat → Nat} {L : Nat} {h t : ST} {kd st en : Nat} (p : PR g B L h t kd st en) (cs : CS t) :
    (∀ i, i < 3 → wd B kd st en (1 + i) = true → fX11_which t 1 3 = some (nI i)) ∧ ((∀ i, i < 3 → wd B kd st en (1 + i) = false) → fX11_which t 1 3 = some (-1)) := by
  rcases whichM p (o := 1) (n := 3) (c := 1) cs.1 (by decide) with ⟨i, hi, b, e⟩ | ⟨b, e⟩
  · refine ⟨fun j hj z => ?_, fun z => ?_⟩
    · by_cases c : i = j
      · rw [← c]; exact e
      · have := wd_one (B := B) (kd := kd) (st := st) (en := en) (j := 1 + i) (k := 1 + j) z (by omega) (by omega) (by omega)
        unfold wd at this
        rw [this] at b
        exact absurd b (by decide)
    · have := z i hi
      unfold wd at this
      rw [this] at b
      exact absurd b (by decide)
  · refine ⟨fun j hj z => ?_, fun _ => e⟩
    have := b j hj
    unfold wd at z
    rw [z] at this
    exact absurd this (by decide)

theorem lineM {g : Nat} {B : Nat → Nat} {L : Nat} {h t : ST} {kd st en : Nat} (p : PR g B L h t kd st en) (a : Int32) :
    (wd B kd st en 7 = true → fX11_readLine t a = fX11_readLine_58 t a 1) ∧ (wd B kd st en 8 = true → fX11_readLine t a = fX11_readLine_58 t a 2) ∧ (wd B kd st en 9 = true → fX11_readLine t a = fX11_readLine_58 t a 4) ∧ (wd B kd st en 10 = true → fX11_readLine t a = fX11_readLine_58 t a 8) ∧ ((∀ k, 7 ≤ k → k ≤ 10 → wd B kd st en k = false) → fX11_readLine t a = fX11_readLine_58 t a 0) := by
  have w : ∀ k, k < 20 → fX11_is t k = some (bz (wd B kd st en k)) := fun k hk => wordM p.1 p.2.1 p.2.2.1 hk
  have n1 : ¬ bz true = 0 := by decide
  have z1 : bz false = 0 := rfl
  unfold fX11_readLine
  refine ⟨fun e => ?_, fun e => ?_, fun e => ?_, fun e => ?_, fun e => ?_⟩
  · rw [w 7 (by decide), e, bnd_s, if_neg n1]
  · rw [w 7 (by decide), wd_one e (show 7 < 20 by decide) (by decide) (by decide), bnd_s, if_pos z1, w 8 (by decide), e, bnd_s, if_neg n1]
  · rw [w 7 (by decide), wd_one e (show 7 < 20 by decide) (by decide) (by decide), bnd_s, if_pos z1, w 8 (by decide), wd_one e (show 8 < 20 by decide) (by decide) (by decide), bnd_s, if_pos z1, w 9 (by decide), e, bnd_s, if_neg n1]
  · rw [w 7 (by decide), wd_one e (show 7 < 20 by decide) (by decide) (by decide), bnd_s, if_pos z1, w 8 (by decide), wd_one e (show 8 < 20 by decide) (by decide) (by decide), bnd_s, if_pos z1, w 9 (by decide), wd_one e (show 9 < 20 by decide) (by decide) (by decide), bnd_s, if_pos z1, w 10 (by decide), e, bnd_s, if_neg n1]
  · rw [w 7 (by decide), e 7 (by decide) (by decide), bnd_s, if_pos z1, w 8 (by decide), e 8 (by decide) (by decide), bnd_s, if_pos z1, w 9 (by decide), e 9 (by decide) (by decide), bnd_s, if_pos z1, w 10 (by decide), e 10 (by decide) (by decide), bnd_s, if_pos z1]
/-- the model's plain lines -/
theorem lineM0 {g : Nat} {B : Nat → Nat} {L : Nat} {h t : ST} {kd st en : Nat} (p : PR g B L h t kd st en) (cs : CS t) (a : Int32) (h7 : ∀ k, 7 ≤ k → k ≤ 10 → wd B kd st en k = false) :
    (∀ i, i < 3 → wd B kd st en (1 + i) = true → fX11_readLine t a = bnd (fX11_sayRoom t (nI i)) fun r => bnd (fX11_mark r 59) fun r29 => some (a ||| 0, r29)) ∧
    (wd B kd st en 4 = true → fX11_readLine t a = bnd (fX11_sayDoor t) fun r => bnd (fX11_mark r 59) fun r29 => some (a ||| 0, r29)) ∧
    (wd B kd st en 5 = true → fX11_readLine t a = bnd (fX11_sayWind t) fun r => bnd (fX11_mark r 59) fun r29 => some (a ||| 0, r29)) ∧
    (wd B kd st en 6 = true → fX11_readLine t a = bnd (fX11_sayBlow t) fun r => bnd (fX11_mark r 59) fun r29 => some (a ||| 0, r29)) ∧
    ((∀ k, 1 ≤ k → k ≤ 6 → wd B kd st en k = false) → fX11_readLine t a = bnd (fX11_wrong t 1) fun r => bnd (fX11_mark r 59) fun r29 => some (a ||| 0, r29)) := by
  have e0 := (lineM p a).2.2.2.2 h7
  have w : ∀ k, k < 20 → fX11_is t k = some (bz (wd B kd st en k)) := fun k hk => wordM p.1 p.2.1 p.2.2.1 hk
  have n1 : ¬ bz true = 0 := by decide
  have z1 : bz false = 0 := rfl
  have za : (0 : Int32) &&& a = 0 := Int32.zero_and
  have head : ∀ r, fX11_which t 1 3 = some r → fX11_readLine t a = fX11_readLine_79 t a 0 r := fun r e => by
    rw [e0]
    unfold fX11_readLine_58
    rw [e, bnd_s, if_pos za]
  have head2 : (∀ i, i < 3 → wd B kd st en (1 + i) = false) → ∀ Z, (bnd (fX11_is t 4) fun r18 => if r18 = 0 then bnd (fX11_is t 5) fun r21 => if r21 = 0 then bnd (fX11_is t 6) fun r24 => if r24 = 0 then bnd (fX11_wrong t 1) fun r27 => fX11_readLine_228 r27 a 0 else bnd (fX11_sayBlow t) fun r31 => fX11_readLine_228 r31 a 0 else bnd (fX11_sayWind t) fun r33 => fX11_readLine_228 r33 a 0 else bnd (fX11_sayDoor t) fun r35 => fX11_readLine_228 r35 a 0) = Z → fX11_readLine t a = Z := fun z Z e => by
    rw [head _ ((lineW3 p cs).2 z)]
    unfold fX11_readLine_79
    rw [if_pos (show (0 : Int32) ≤ 0 by decide), if_pos rfl]; exact e
  refine ⟨fun i hi e => ?_, fun e => ?_, fun e => ?_, fun e => ?_, fun e => ?_⟩
  · rw [head _ ((lineW3 p cs).1 i hi e)]
    unfold fX11_readLine_79
    rw [if_pos (show (0 : Int32) ≤ 0 by decide), if_neg (show ¬ nI i = -1 from fun z => by
      have : i = 0 ∨ i = 1 ∨ i = 2 := by omega
      rcases this with rfl | rfl | rfl <;> exact absurd z (by decide))]
    rfl
  · refine head2 (fun i hi => wd_one e (by omega) (by decide) (by omega)) _ ?_
    rw [w 4 (by decide), e, bnd_s, if_neg n1]; rfl
  · refine head2 (fun i hi => wd_one e (by omega) (by decide) (by omega)) _ ?_
    rw [w 4 (by decide), wd_one e (show 4 < 20 by decide) (by decide) (by decide), bnd_s, if_pos z1, w 5 (by decide), e, bnd_s, if_neg n1]; rfl
  · refine head2 (fun i hi => wd_one e (by omega) (by decide) (by omega)) _ ?_
    rw [w 4 (by decide), wd_one e (show 4 < 20 by decide) (by decide) (by decide), bnd_s, if_pos z1, w 5 (by decide), wd_one e (show 5 < 20 by decide) (by decide) (by decide), bnd_s, if_pos z1, w 6 (by decide), e, bnd_s, if_neg n1]; rfl
  · refine head2 (fun i hi => e _ (by omega) (by omega)) _ ?_
    rw [w 4 (by decide), e 4 (by decide) (by decide), bnd_s, if_pos z1, w 5 (by decide), e 5 (by decide) (by decide), bnd_s, if_pos z1, w 6 (by decide), e 6 (by decide) (by decide), bnd_s, if_pos z1]; rfl
/-- a line that is told a second time -/
theorem lineW {t : ST} (hb : ¬ t 0 26 = 0) (a q : Int32) : ∃ t', fX11_readLine_94 t a q = some (a ||| q, t') ∧ t' 0 = t 0 ∧ MG t t' := by
  have r228 : ∀ t' : ST, t' 0 = t 0 → fX11_readLine_228 t' a q = some (a ||| q, t') := fun t' e => by
    unfold fX11_readLine_228
    rw [show fX11_mark t' 59 = some t' from markW (by rw [e]; exact hb) _, bnd_s]
  unfold fX11_readLine_94
  by_cases c1 : q = 1
  · refine ⟨t, ?_, rfl, MG.rf⟩
    have sc : fX11_sayCalendar t = some t := by
      have b2 : fX11_sayCalendar_2 (t, 1) = some (.inr (.inr t)) := by
        unfold fX11_sayCalendar_2
        dsimp only
        rw [if_neg hb]
      unfold fX11_sayCalendar fX11_sayCalendar_127
      rw [lp_1 b2, bnd_s]; rfl
    rw [if_pos c1, sc, bnd_s]; exact r228 t rfl
  rw [if_neg c1]
  by_cases c2 : q = 2
  · refine ⟨up2 t 3 11 0, ?_, up2_n (by decide), MG.rf.up (by decide) (by decide) (by decide)⟩
    rw [if_pos c2, (numW hb _ _).2, bnd_s]
    dsimp only
    rw [show wr 14 t 3 11 0 = some (up2 t 3 11 0) from wr_k (n := 14) (k := 11) (by decide), bnd_s]; exact r228 _ (up2_n (by decide))
  rw [if_neg c2]
  by_cases c4 : q = 4
  · refine ⟨up2 t 3 12 0, ?_, up2_n (by decide), MG.rf.up (by decide) (by decide) (by decide)⟩
    rw [if_pos c4, (numW hb _ _).2, bnd_s]
    dsimp only
    rw [show wr 14 t 3 12 0 = some (up2 t 3 12 0) from wr_k (n := 14) (k := 12) (by decide), bnd_s]; exact r228 _ (up2_n (by decide))
  · refine ⟨t, ?_, rfl, MG.rf⟩
    rw [if_neg c4, exprW hb 9, bnd_s]; exact r228 t rfl

