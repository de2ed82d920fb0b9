/-! ===== parish: a line with its sign; the rule's line ===== -/
/-- what the class does behind a line -/
def Lsg (X : Option (Int32 × ST)) (k : Int32) : Option ((ST × Int32) ⊕ ((ST × Int32) ⊕ ST)) :=
  bnd X fun r19 => if r19.1 = 0 then bnd (fX9_isSign r19.2 59) fun r25 => if r25 = 0 then fX4_read_85 r19.2 k 1 else fX4_read_85 r19.2 k r19.1 else fX4_read_85 r19.2 k r19.1
def LG (g : Nat) (B : Nat → Nat) (L : Nat) (h0 t0 : ST) (st0 : Nat) (T : List Nat) (k : Nat) (v : Int32) (X : Option ((ST × Int32) ⊕ ((ST × Int32) ⊕ ST))) (Y : Option (Int32 × ST)) : Prop :=
  (∃ h' t' kd st en nr nd nw nc nz, X = some (.inl (h', nI (k + 1))) ∧ Y = some (v, t') ∧ PR g B L h' t' kd st en ∧ HF g h' t' nr nd nw nc nz ∧ KG g h0 h' ∧ MG t0 t' ∧ st0 < st ∧ Fs 38 T h0 h' ∧ (7 ∈ T ∨ t' 3 13 = t0 3 13) ∧ (4 ∈ T ∨ t' 3 10 = t0 3 10) ∧ ∀ k, k ∈ T → k ≠ 3 → h' 38 k = 1) ∨
  ∃ c h' t', X = some (.inr (.inl (h', c))) ∧ Y = some (v, t') ∧ BD h' t' c ∧ KG g h0 h' ∧ MG t0 t'
theorem r85n {h : ST} {k c : Int32} (hc : ¬ c = 0) : fX4_read_85 h k c = some (.inr (.inl (h, c))) := by
  unfold fX4_read_85
  rw [if_neg hc]
theorem r85y {h h' : ST} {k : Nat} (e : fX9_step h = some h') : fX4_read_85 h (nI k) 0 = some (.inl (h', nI (k + 1))) := by
  unfold fX4_read_85
  rw [if_pos rfl, e, bnd_s, nI_1]
theorem Lsg_n {h : ST} {c k : Int32} (hc : ¬ c = 0) : Lsg (some (c, h)) k = some (.inr (.inl (h, c))) := by
  unfold Lsg
  rw [bnd_s]
  dsimp only
  rw [if_neg hc]; exact r85n hc
theorem LR.sign {g : Nat} {B : Nat → Nat} {L : Nat} {h t : ST} {st : Nat} {T : List Nat} {X : Option (Int32 × ST)} {Y : Option ST} (x : LR g B L h t st T X Y) (k : Nat) (v : Int32) : LG g B L h t st T k v (Lsg X (nI k)) (bnd Y fun r => bnd (fX11_mark r 59) fun r29 => some (v, r29)) := by
  rcases x with ⟨h', t', kd, st', en, nr, nd, nw, nc, nz, rfl, rfl, P, H, K, M, l, S, z, z2, z3⟩ | ⟨c, h', t', rfl, rfl, bd, K, M⟩
  · have s59 : fX9_isSign h' 59 = some (bz (sq B kd st' 59)) := signC P.1 P.2.1 (v := 59) (by decide)
    cases c : sq B kd st' 59
    · right
      obtain ⟨t2, w1, w2, w3, w4⟩ := markN P (v := 59) (by decide) c
      have w1' : fX11_mark t' 59 = some t2 := w1
      refine ⟨1, h', t2, ?_, ?_, w2, K, M.tr (MG.of w3 w4 W_in)⟩
      · unfold Lsg
        rw [bnd_s]
        dsimp only
        rw [if_pos rfl, s59, c, bnd_s, if_pos (show bz false = 0 from rfl)]; exact r85n (by decide)
      · rw [bnd_s, w1', bnd_s]
    · left
      obtain ⟨h2, t2, kd2, st2, en2, s1, s2, s3, s4, s5, s6, s7⟩ := P.step
      have w1' : fX11_mark t' 59 = some t2 := markY P (v := 59) (by decide) c s2
      have le := P.2.1.2.2.2.2.1.1
      have g2 := P.2.2.2.2
      refine ⟨h2, t2, kd2, st2, en2, nr, nd, nw, nc, nz, ?_, ?_, s3, H.kept (fun i a b => s5 i (by simp only [List.mem_cons, List.not_mem_nil, or_false]; omega)) (fun i a b => s6 i (by simp only [List.mem_cons, List.not_mem_nil, or_false]; omega)), K.tr (KG.st s5), M.tr (MG.of s6 s7 TKs_in), by omega, S.tr (Fs.of s5 (by decide)), ?_, ?_, fun j hj n3 => ?_⟩
      · unfold Lsg
        rw [bnd_s]
        dsimp only
        rw [if_pos rfl, s59, c, bnd_s, if_neg (show ¬ bz true = 0 by decide)]; exact r85y s1
      · rw [bnd_s, w1', bnd_s]
      · rw [s6 3 (by decide)]; exact z
      · rw [s6 3 (by decide)]; exact z2
      · rw [s5 38 (by decide)]; exact z3 j hj n3
  · right
    have n26 : ¬ t' 0 26 = 0 := by rw [bd.2.1]; exact bd.1
    refine ⟨c, h', t', Lsg_n bd.1, ?_, bd, K, M⟩
    rw [bnd_s, show fX11_mark t' 59 = some t' from markW n26 _, bnd_s]
theorem rs_S {row : Nat → Int32} {vals : Nat → Int32} : ∀ k, rs row vals k 0 [] = rnS row vals k
  | 0 => rfl
  | k + 1 => by
    rw [rs_add, Nat.zero_add, rs_S k]
    show bnd (rnS row vals k) (fun st' => bnd (stepR vals (row (700 + k)) st') fun st => some st) = (match rnS row vals k with | none => none | some st => stepR vals (row (700 + k)) st)
    cases rnS row vals k with
    | none => rfl
    | some u =>
      show bnd (stepR vals (row (700 + k)) u) (fun st => some st) = stepR vals (row (700 + k)) u
      cases stepR vals (row (700 + k)) u <;> rfl
theorem titheLine {g : Nat} {B : Nat → Nat} {L : Nat} {h t : ST} {kd st en nr nd nw nc : Nat} (p : PR g B L h t kd st en) (hf : HF g h t nr nd nw nc 0) (k0 : kd ≠ 0) (cs : CS t) (k : Nat) (v : Int32) :
    LG g B L h t st [3, 7] k v (Lsg (bnd (pw h 38 7 1) fun h32 => bnd (fX9_step h32) fun r34 => bnd (rf KC 395 1 (r34 38 2)) fun f36 => bnd (fX6_read r34 (f36 + 12)) fun r38 => some (r38.1, r38.2)) (nI k)) (bnd (bnd (fX11_stepOn t) fun r55 => fX11_readExpression 10 r55 0) fun r => bnd (fX11_mark r 59) fun r29 => some (v, r29)) := by
  obtain ⟨⟨⟨n1, n2, n3, n4, n5⟩, ⟨a1, a2⟩, ⟨a3, a4⟩, ⟨a5, a6⟩, ⟨a7, a8⟩, a9, a10, ⟨a11, a12⟩⟩, hr, hd, hw, hc, hz⟩ := id hf
  have g2 := p.2.2.2.2
  have stl := p.2.1.2.2.2.2.2.2.1 k0
  have p' : PR g B L (up2 h 38 7 1) t kd st en := p.kept (up2_n (by decide)) (up2_n (by decide)) (up2_sn (by decide)) rfl rfl
  obtain ⟨h1, t1, kd1, st1, en1, s1, s2, s3, s4, s5, s6, s7⟩ := p'.step
  have r1 : rf KC 395 1 (h1 38 2) = some g := rf_f g2 s3.2.2.2.1
  obtain ⟨h2, e2⟩ : ∃ h2, h2 = up2 (up2 (up2 (up2 (up2 (up2 (up2 h1 40 7 (Int32.ofNat (g + 12))) 40 1 0) 40 2 0) 40 4 1) 40 5 0) 40 5 1) 40 3 0 := ⟨_, rfl⟩
  have h2k : ∀ i, i ≠ 40 → h2 i = h1 i := fun i hi => by rw [e2, up2_n hi, up2_n hi, up2_n hi, up2_n hi, up2_n hi, up2_n hi, up2_n hi]
  have h2h : ∀ i, i ≠ 38 → i ≠ 39 → i ≠ 40 → h2 i = h i := fun i a b c => by rw [h2k i c, s5 i (by simp only [List.mem_cons, List.not_mem_nil, or_false]; omega), up2_n a]
  have KG2 : KG g h h2 := fun i a b => h2h i (by omega) (by omega) (by omega)
  have MG1 : MG t t1 := MG.of s6 s7 TKs_in
  have P2 : PR g B L h2 t1 kd1 st1 en1 := s3.kept (h2k 1 (by decide)) (h2k 39 (by decide)) (by rw [h2k 38 (by decide)]) rfl rfl
  have XI2 : XI g B L h2 t1 kd1 st1 en1 [] 0 0 0 := by
    refine ⟨P2, ⟨?_, ?_, trivial⟩, ⟨?_, ?_, fun i hi => absurd hi (Nat.not_lt_zero i), fun j hj => absurd hj (Nat.not_lt_zero j)⟩, ?_, ?_, Nat.zero_le _, Nat.zero_le _, ?_⟩
    · rw [e2, up2_sn (by decide), up2_sn (by decide), up2_sn (by decide), up2_sn (by decide), up2_sn (by decide), up2_sn (by decide), up2_ss]; rfl
    · rw [e2, up2_sn (by decide), up2_sn (by decide), up2_sn (by decide), up2_sn (by decide), up2_sn (by decide), up2_ss]; rfl
    · rw [h2h _ (by omega) (by omega) (by omega)]; exact a12
    · rw [s6 3 (by decide)]; exact a11
    · rw [e2, up2_sn (by decide), up2_sn (by decide), up2_sn (by decide), up2_sn (by decide), up2_ss]; rfl
    · rw [e2, up2_sn (by decide), up2_sn (by decide), up2_sn (by decide), up2_ss]
    · unfold CS
      rw [s6 1 (by decide), s6 2 (by decide)]; exact cs
  have h25 : h2 40 5 = 1 := by rw [e2, up2_sn (by decide), up2_ss]
  have h23 : h2 40 3 = 0 := by rw [e2, up2_ss]
  have h238 : h2 38 = up2 h 38 7 1 38 := by rw [h2k 38 (by decide), s5 38 (by decide)]
  have cls : ∀ Z, (bnd (lp FU fX6_read_21 (h2, 0)) fun x23 => sm x23 (fun v => bnd (fX6_release v 1) fun r25 => some (0, r25)) (fun w1 => sm w1 (fun v => some (v.2, v.1)) (fun v => some (1, v)))) = Z → (bnd (pw h 38 7 1) fun h32 => bnd (fX9_step h32) fun r34 => bnd (rf KC 395 1 (r34 38 2)) fun f36 => bnd (fX6_read r34 (f36 + 12)) fun r38 => some (r38.1, r38.2)) = bnd Z fun r38 => some (r38.1, r38.2) := fun Z e => by
    rw [pw_s, bnd_s, s1, bnd_s, r1, bnd_s]
    unfold fX6_read fX6_wantNot fX6_wantPart
    rw [pw_s, bnd_s, pw_s, bnd_s, pw_s, bnd_s, pw_s, bnd_s, pw_s, bnd_s, bnd_s, pw_s, bnd_s, pw_s, bnd_s, bnd_s, ← e2, e]
  have bad : ∀ (h' : ST) (c : Int32) t' m, ¬ c = 0 → stp fX6_read_21 m (h2, nI 0) (h', nI (0 + m)) → m < 10000 → ∀ h3, fX6_read_21 (h', nI (0 + m)) = some (.inr (.inr (.inl (h3, c)))) → fX11_readExpression 10 t1 0 = some t' → ∀ t3, fX11_mark t' 59 = some t3 → BD h3 t3 c → KG g h h3 → MG t t3 → LG g B L h t st [3, 7] k v (Lsg (bnd (pw h 38 7 1) fun h32 => bnd (fX9_step h32) fun r34 => bnd (rf KC 395 1 (r34 38 2)) fun f36 => bnd (fX6_read r34 (f36 + 12)) fun r38 => some (r38.1, r38.2)) (nI k)) (bnd (bnd (fX11_stepOn t) fun r55 => fX11_readExpression 10 r55 0) fun r => bnd (fX11_mark r 59) fun r29 => some (v, r29)) := fun h' c t' m hc sp hm h3 er ex t3 em bd K M => by
    right
    have lpe : lp FU fX6_read_21 (h2, 0) = some (.inr (.inl (h3, c))) := stp_FU hm sp er
    refine ⟨c, h3, t3, ?_, ?_, bd, K, M⟩
    · rw [cls (some (c, h3)) (by rw [lpe, bnd_s]; rfl), bnd_s]
      exact Lsg_n hc
    · rw [s2, bnd_s, ex, bnd_s, em, bnd_s]
  rcases exprX 10 0 (by decide) (by decide) h2 t1 kd1 st1 en1 [] 0 0 XI2 h25 h23 (Nat.le_refl _) (fun y u e => by cases e) with ok | bd
  rotate_left
  · obtain ⟨b2, m, c, b3, t', z1, z2, z3, z4, z5, z6, z7⟩ := bd
    have n26 : ¬ t' 0 26 = 0 := by rw [z5.2.1]; exact z5.1
    exact bad b2 c t' m z5.1 z2 (by omega) b3 z4 z1 t' (markW n26 _) z5 (KG2.tr z6) (MG1.tr z7)
  obtain ⟨h5, t5, kd5, st5, en5, T, nc5, m, o1, o2, o3, o4, o5, ⟨o6, o7⟩, ⟨o8, o9, o10, o11, o12⟩, o13, o14, o15, o16, -⟩ := ok
  have L7 := o3.1.1
  have st5L : st5 ≤ L := Nat.le_trans o3.2.1.2.2.2.2.1.1 o3.2.1.2.2.2.2.1.2.1
  have le5 := o3.2.1.2.2.2.2.1.1
  have o1' : fX11_readExpression 10 t1 0 = some t5 := o1
  have o60 : h5 40 2 = 0 := o6
  have s59 : fX9_isSign h5 59 = some (bz (sq B kd5 st5 59)) := signC o3.1 o3.2.1 (v := 59) (by decide)
  have KG5 : KG g h h5 := KG2.tr o15.kg
  have MG5 : MG t t5 := MG1.tr o15.1
  have l700 : ¬ 700 < nI (0 + m) := nI_nlt (a := 700) (by omega) (by decide)
  cases c59 : sq B kd5 st5 59
  · obtain ⟨t6, w1, w2, w3, w4⟩ := markN o3 (v := 59) (by decide) c59
    cases c41 : sq B kd5 st5 41
    · obtain ⟨h', u1, u2, u3⟩ := endSign (l := 0 + m) o3 o4 (by simp only [List.length_append, List.length_nil]; omega) o5.1 (by omega) o7 o6 (by omega) (by omega) o16 c41 (fun _ => c59)
      exact bad h5 1 t5 m (by decide) o2 (by omega) h' u1 o1' t6 w1 (w2.kept u2 rfl) (KG5.tr u3) (MG5.tr (MG.of w3 w4 W_in))
    · have s41 : fX9_isSign h5 41 = some 1 := (signC o3.1 o3.2.1 (v := 41) (by decide)).trans (by rw [c41]; rfl)
      refine bad h5 1 t5 m (by decide) o2 (by omega) h5 ?_ o1' t6 w1 w2 KG5 (MG5.tr (MG.of w3 w4 W_in))
      unfold fX6_read_21 fX6_read_61 fX6_readSign fX6_close
      dsimp only
      rw [if_neg l700, if_pos o7, if_pos o60, s59, c59, bnd_s, if_pos (show bz false = 0 from rfl), if_pos o7, s41, bnd_s, if_neg (show ¬ (1 : Int32) = 0 by decide), if_pos o60, bnd_s, bnd_s]
      exact read79n (show ¬ (1 : Int32) = 0 by decide)
  left
  obtain ⟨y, r1', r2, r3, r4, r5, r6, r7, r8⟩ := relC g2 (s := 1) (R := []) (by decide) (by decide) o4 o13 (fun z u e => by cases e) (by simp only [List.length_append, List.length_nil]; omega) o5.1 (by omega)
  have yk : ∀ i, i ≠ 40 → i ≠ g + 12 → i ≠ g + 14 → y i = h5 i := fun i a b c => r6 i (by simp only [List.mem_cons, List.not_mem_nil, or_false]; omega)
  have Py : PR g B L y t5 kd5 st5 en5 := o3.kept (yk 1 (by omega) (by omega) (by omega)) (yk 39 (by omega) (by omega) (by omega)) (by rw [yk 38 (by omega) (by omega) (by omega)]) rfl rfl
  obtain ⟨h7, t7, kd7, st7, en7, q1, q2, q3, q4, q5, q6, q7⟩ := Py.step
  have lpe : lp FU fX6_read_21 (h2, 0) = some (.inl h5) := by
    refine stp_FU (m := m) (by omega) o2 ?_
    unfold fX6_read_21
    dsimp only
    rw [if_neg l700, if_pos o7, if_pos o60, s59, c59, bnd_s, if_neg (show ¬ bz true = 0 by decide)]
  have y59 : fX9_isSign y 59 = some 1 := (signC Py.1 Py.2.1 (v := 59) (by decide)).trans (by rw [c59]; rfl)
  have r1'' : fX6_release h5 1 = some y := r1'
  have mk : fX11_mark t5 59 = some t7 := markY o3 (v := 59) (by decide) c59 q2
  have ck : ∀ i, g ≤ i → i < g + 18 → i ≠ g + 12 → i ≠ g + 14 → h7 i = h i := fun i a b c d => by
    rw [q5 i (by simp only [List.mem_cons, List.not_mem_nil, or_false]; omega), yk i (by omega) c d, o15.2.2.1 i (by omega) (by omega) (by omega) c d, h2h i (by omega) (by omega) (by omega)]
  have tk : ∀ i, i ≠ 0 → i ≠ 3 → i ≠ 16 → t7 i = t i := fun i a b c => by
    rw [q6 i (by simp only [List.mem_cons, List.not_mem_nil, or_false]; omega), o15.2.2.2.2.1 i a b c, s6 i (by simp only [List.mem_cons, List.not_mem_nil, or_false]; omega)]
  have t3 : ∀ j, j ≠ 13 → t7 3 j = t 3 j := fun j hj => by
    rw [q6 3 (by decide), o15.2.2.2.2.2 j (by simp only [List.mem_cons, List.not_mem_nil, or_false]; exact hj), s6 3 (by decide)]
  have h738 : h7 38 = up2 h 38 7 1 38 := by
    rw [q5 38 (by decide), yk 38 (by omega) (by omega) (by omega), o15.2.2.1 38 (by omega) (by omega) (by omega) (by omega) (by omega), h238]
  have le1 := s3.2.1.2.2.2.2.1.1
  refine ⟨h7, t7, kd7, st7, en7, nr, nd, nw, nc, nc5 + T.length, ?_, ?_, q3, ⟨⟨⟨n1, n2, n3, n4, by omega⟩, ⟨(t3 7 (by decide)).trans a1, ?_⟩, ⟨(t3 8 (by decide)).trans a3, ?_⟩, ⟨(t3 9 (by decide)).trans a5, ?_⟩, ⟨(t3 10 (by decide)).trans a7, ?_⟩, ?_, ?_, ⟨?_, ?_⟩⟩, ?_, ?_, ?_, ?_, ?_⟩, ?_, ?_, by omega, ?_, Or.inl (by simp), Or.inr (t3 10 (by decide)), ?_⟩
  · rw [cls (some (0, y)) (by rw [lpe, bnd_s]; show bnd (fX6_release h5 1) _ = _; rw [r1'', bnd_s]), bnd_s]
    unfold Lsg
    rw [bnd_s]
    dsimp only
    rw [if_pos rfl, y59, bnd_s, if_neg (show ¬ (1 : Int32) = 0 by decide)]; exact r85y q1
  · rw [s2, bnd_s, o1', bnd_s, mk, bnd_s]
  · rw [ck g (by omega) (by omega) (by omega) (by omega)]; exact a2
  · rw [ck g (by omega) (by omega) (by omega) (by omega)]; exact a4
  · rw [ck g (by omega) (by omega) (by omega) (by omega)]; exact a6
  · rw [ck g (by omega) (by omega) (by omega) (by omega)]; exact a8
  · rw [ck g (by omega) (by omega) (by omega) (by omega), t3 11 (by decide)]; exact a9
  · rw [ck g (by omega) (by omega) (by omega) (by omega), t3 12 (by decide)]; exact a10
  · rw [q6 3 (by decide)]; exact o5.2.1
  · rw [q5 (g + 12) (by simp only [List.mem_cons, List.not_mem_nil, or_false]; omega)]; exact r3
  · exact hr.k (ck _ (by omega) (by omega) (by omega) (by omega)) (ck _ (by omega) (by omega) (by omega) (by omega)) (ck _ (by omega) (by omega) (by omega) (by omega)) (ck _ (by omega) (by omega) (by omega) (by omega)) (tk 4 (by decide) (by decide) (by decide)) (tk 5 (by decide) (by decide) (by decide)) (tk 6 (by decide) (by decide) (by decide)) (tk 7 (by decide) (by decide) (by decide))
  · exact hd.k (ck _ (by omega) (by omega) (by omega) (by omega)) (ck _ (by omega) (by omega) (by omega) (by omega)) (ck _ (by omega) (by omega) (by omega) (by omega)) (tk 8 (by decide) (by decide) (by decide)) (tk 9 (by decide) (by decide) (by decide)) (tk 10 (by decide) (by decide) (by decide))
  · exact hw.k (ck _ (by omega) (by omega) (by omega) (by omega)) (ck _ (by omega) (by omega) (by omega) (by omega)) (ck _ (by omega) (by omega) (by omega) (by omega)) (ck _ (by omega) (by omega) (by omega) (by omega)) (tk 11 (by decide) (by decide) (by decide)) (tk 12 (by decide) (by decide) (by decide)) (tk 13 (by decide) (by decide) (by decide)) (tk 14 (by decide) (by decide) (by decide))
  · exact hc.k (ck _ (by omega) (by omega) (by omega) (by omega)) (tk 15 (by decide) (by decide) (by decide))
  · refine ⟨fun i hi => ?_, Or.inr (fun vals => ?_)⟩
    · rw [q5 (g + 14) (by simp only [List.mem_cons, List.not_mem_nil, or_false]; omega), q6 16 (by decide)]
      by_cases z : i < nc5
      · rw [r4 i z]; exact o5.2.2.1 i z
      · have := r5 (i - nc5) (by omega)
        rw [show nc5 + (i - nc5) = i by omega] at this
        rw [this, o5.2.2.2 (i - nc5) (by omega), show nc5 + (i - nc5) = i by omega]
    · obtain ⟨u, eu⟩ := o14 vals [] (by simp only [List.length_nil]; omega)
      refine ⟨u, ?_⟩
      rw [q6 16 (by decide), ← rs_S]; exact eu
  · exact (KG5.tr (KG.of r6 (fun i hi => by simp only [List.mem_cons, List.not_mem_nil, or_false] at hi; omega))).tr (KG.st q5)
  · exact MG5.tr (MG.of q6 q7 TKs_in)
  · intro j hj
    simp only [List.mem_cons, List.not_mem_nil, or_false, not_or] at hj
    rw [h738, up2_sn hj.2]
  · intro j hj n3
    simp only [List.mem_cons, List.not_mem_nil, or_false] at hj
    rw [h738, hj.resolve_left n3, up2_ss]
