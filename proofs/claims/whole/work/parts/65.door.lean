/-! ===== parish: doors ===== -/
theorem isDoorM {h : ST} {nd : Nat} (h5 : h 3 8 = nI nd) (h14 : nd ≤ 14) (x y : Int32) :
    (fX11_isDoor h x y = some 1 ∧ PD nd (fun i => h 8 (14 + i)) (fun i => h 9 (14 + i)) x y) ∨ (fX11_isDoor h x y = some 0 ∧ ¬ PD nd (fun i => h 8 (14 + i)) (fun i => h 9 (14 + i)) x y) := by
  have r8 : ∀ (x : ST), rd 14 (x 3) 8 = some (x 3 8) := fun x => rd_k (n := 14) (k := 8) (by decide)
  have e14 : (14 : Int32) + nI nd = nI (14 + nd) := nI_add 14 nd
  obtain ⟨dA, eA⟩ : ∃ dA : Nat → Int32, dA = fun i => h 8 (14 + i) := ⟨_, rfl⟩
  obtain ⟨dB, eB⟩ : ∃ dB : Nat → Int32, dB = fun i => h 9 (14 + i) := ⟨_, rfl⟩
  rw [← eA, ← eB]
  obtain ⟨z, x1, x2⟩ := lp_cnt (b := fX11_isDoor_3 h x y) (s := (14 : Int32)) (Q := fun z => (z = .inl () ∧ PD nd dA dB x y) ∨ (z = .inr () ∧ ¬ PD nd dA dB x y)) (fun i q => q = nI (14 + i) ∧ ∀ j, j < i → ¬ ((dA j = x ∧ dB j = y) ∨ (dA j = y ∧ dB j = x))) nd (by omega) (by
    rintro i k hi ⟨rfl, g2⟩
    have E1 : h 8 (14 + i) = dA i := by rw [eA]
    have E2 : h 9 (14 + i) = dB i := by rw [eB]
    have q1 := nI_ge (show 14 + i < 14 + nd by omega) (show 14 + nd < 2 ^ 31 by omega)
    have nx : ¬ ((dA i = x ∧ dB i = y) ∨ (dA i = y ∧ dB i = x)) → ∀ j, j < i + 1 → ¬ ((dA j = x ∧ dB j = y) ∨ (dA j = y ∧ dB j = x)) := fun q j hj => by
      by_cases c : j = i
      · subst c; exact q
      · exact g2 j (by omega)
    have i1 : nI (14 + i) + 1 = nI (14 + (i + 1)) := by rw [nI_1, Nat.add_assoc]
    have tail : ((fX11_isDoor_37 h x y (nI (14 + i)) = some (.inr (.inl ())) ∧ (dA i = y ∧ dB i = x)) ∨ (fX11_isDoor_37 h x y (nI (14 + i)) = some (.inl (nI (14 + i) + 1)) ∧ ¬ (dA i = y ∧ dB i = x))) := by
      by_cases c1 : dA i = y
      · by_cases c2 : dB i = x
        · exact Or.inl ⟨by simp only [fX11_isDoor_37, fX11_isDoor_59, bnd_s, rd_k (n := 28) (show 14 + i < 28 by omega), E1, E2, if_pos c1, if_pos c2], c1, c2⟩
        · exact Or.inr ⟨by simp only [fX11_isDoor_37, fX11_isDoor_59, bnd_s, rd_k (n := 28) (show 14 + i < 28 by omega), E1, E2, if_pos c1, if_neg c2], fun q => c2 q.2⟩
      · exact Or.inr ⟨by simp only [fX11_isDoor_37, fX11_isDoor_59, bnd_s, rd_k (n := 28) (show 14 + i < 28 by omega), E1, if_neg c1], fun q => c1 q.1⟩
    by_cases c1 : dA i = x
    · by_cases c2 : dB i = y
      · refine Or.inr ⟨.inl (), ?_, Or.inl ⟨rfl, i, hi, Or.inl ⟨c1, c2⟩⟩⟩
        simp only [fX11_isDoor_3, r8, h5, e14, bnd_s, if_neg q1, rd_k (n := 28) (show 14 + i < 28 by omega), E1, E2, if_pos c1, if_pos c2]
      · rcases tail with ⟨t1, t2⟩ | ⟨t1, t2⟩
        · refine Or.inr ⟨.inl (), ?_, Or.inl ⟨rfl, i, hi, Or.inr t2⟩⟩
          simp only [fX11_isDoor_3, r8, h5, e14, bnd_s, if_neg q1, rd_k (n := 28) (show 14 + i < 28 by omega), E1, E2, if_pos c1, if_neg c2, t1]
        · refine Or.inl ⟨nI (14 + i) + 1, ?_, i1, nx (fun w => by rcases w with w | w; exact c2 w.2; exact t2 w)⟩
          simp only [fX11_isDoor_3, r8, h5, e14, bnd_s, if_neg q1, rd_k (n := 28) (show 14 + i < 28 by omega), E1, E2, if_pos c1, if_neg c2, t1]
    · rcases tail with ⟨t1, t2⟩ | ⟨t1, t2⟩
      · refine Or.inr ⟨.inl (), ?_, Or.inl ⟨rfl, i, hi, Or.inr t2⟩⟩
        simp only [fX11_isDoor_3, r8, h5, e14, bnd_s, if_neg q1, rd_k (n := 28) (show 14 + i < 28 by omega), E1, if_neg c1, t1]
      · refine Or.inl ⟨nI (14 + i) + 1, ?_, i1, nx (fun w => by rcases w with w | w; exact c1 w.1; exact t2 w)⟩
        simp only [fX11_isDoor_3, r8, h5, e14, bnd_s, if_neg q1, rd_k (n := 28) (show 14 + i < 28 by omega), E1, if_neg c1, t1]) (by
    rintro k ⟨rfl, g2⟩
    refine ⟨.inr (), ?_, Or.inr ⟨rfl, fun ⟨j, hj, w⟩ => g2 j hj w⟩⟩
    simp only [fX11_isDoor_3, r8, h5, e14, bnd_s, Int32.le_refl, if_true]) ⟨rfl, fun j hj => absurd hj (Nat.not_lt_zero j)⟩
  rcases x2 with ⟨rfl, w⟩ | ⟨rfl, w⟩
  · exact Or.inl ⟨by simp only [fX11_isDoor, fX11_isDoor_57, x1, bnd_s, sm], w⟩
  · exact Or.inr ⟨by simp only [fX11_isDoor, fX11_isDoor_57, x1, bnd_s, sm], w⟩
/-- both say the same of a door read so far -/
theorem doorNow {g : Nat} {h t : ST} {nr nd : Nat} (hd : HFd g h t nr nd) (n1 : nr ≤ 9) (n2 : nd ≤ 14) (a3 : t 3 8 = nI nd) (a4 : h g 5 = nI nd) {a b : Nat} (ha : a < 9) (hb : b < 9) : ∃ v, (v = 0 ∨ v = 1) ∧ fX2_hasDoor h g (nI a) (nI b) = some v ∧ fX11_isDoor t (nI a) (nI b) = some v := by
  have dr : DR nd (fun i => t 8 (14 + i)) (fun i => t 9 (14 + i)) := fun i hi => by
    obtain ⟨x, y, s, ⟨x1, x2, x3, -⟩, ⟨y1, -⟩, ⟨y2, -⟩, -⟩ := hd.1 i hi
    exact ⟨x, y, by omega, by omega, x3, y1, y2⟩
  have e1 : ∀ i, i < nd → h (g + 5) i = t 8 (14 + i) ∧ h (g + 6) i = t 9 (14 + i) := fun i hi => by
    obtain ⟨x, y, s, -, ⟨y1, z1⟩, ⟨y2, z2⟩, -⟩ := hd.1 i hi
    exact ⟨z1.trans y1.symm, z2.trans y2.symm⟩
  rcases hasDoorC a4 n2 dr e1 (show a < 2 ^ 31 by omega) (show b < 2 ^ 31 by omega) with ⟨p1, p2⟩ | ⟨p1, p2⟩ <;> rcases isDoorM a3 n2 (nI a) (nI b) with ⟨q1, q2⟩ | ⟨q1, q2⟩
  · exact ⟨1, Or.inr rfl, p1, q1⟩
  · exact absurd p2 q2
  · exact absurd q2 p2
  · exact ⟨0, Or.inl rfl, p1, q1⟩
theorem roomR {g : Nat} {B : Nat → Nat} {L : Nat} {h t : ST} {kd st en nr : Nat} (p : PR g B L h t kd st en) (hr : nr ≤ 9) (c0 : h g 0 = nI nr) (m0 : t 3 7 = nI nr) :
    (∃ v h' t' kd' st' en', v < nr ∧ fX4_readRoomNumber h = some (0, h') ∧ fX11_readRoom t = some (nI v, t') ∧ h' 38 3 = nI v ∧ PR g B L h' t' kd' st' en' ∧ en ≤ st' ∧ Fr [38, 39] h h' ∧ Fs 38 [3] h h' ∧ Fr [0] t t' ∧ Fs 0 TKs t t') ∨
    ∃ c t', fX4_readRoomNumber h = some (c, h) ∧ fX11_readRoom t = some (0, t') ∧ BD h t' c ∧ Fr [0] t t' ∧ Fs 0 [26, 27] t t' := by
  rcases roomNowR p hr c0 m0 with ⟨v, v1, v2, v3, v4⟩ | ⟨c, t', v1, v2, v3, v4, v5⟩
  · left
    have p' : PR g B L (up2 h 38 3 (nI v)) t kd st en := p.kept (up2_n (by decide)) (up2_n (by decide)) (up2_sn (by decide)) rfl rfl
    obtain ⟨h', t', kd', st', en', s1, s2, s3, s4, s5, s6, s7⟩ := p'.step
    refine ⟨v, h', t', kd', st', en', v1, ?_, ?_, ?_, s3, s4, (Fr.rf.up (by decide)).tr (s5.sub (by decide)), (Fs.rf.up (by decide)).tr (Fs.of s5 (by decide)), s6, s7⟩
    · unfold fX4_readRoomNumber fX4_readRoomNumber_27
      rw [v2, bnd_s, if_pos rfl, v3, pw_s, bnd_s, s1, bnd_s]
    · unfold fX11_readRoom fX11_readRoom_16
      rw [v4, bnd_s]
      dsimp only
      rw [if_pos p.2.2.1, s2, bnd_s]
    · rw [s5 38 (by decide), up2_ss]
  · right
    refine ⟨c, t', ?_, ?_, v3, v4, v5⟩
    · unfold fX4_readRoomNumber fX4_readRoomNumber_27
      rw [v1, bnd_s, if_neg v3.1]
    · unfold fX11_readRoom fX11_readRoom_16
      rw [v2, bnd_s]
      dsimp only
      rw [if_neg (by rw [v3.2.1]; exact v3.1)]
theorem doorTail {t : ST} {nd : Nat} (n2 : nd < 14) (a3 : t 3 8 = nI nd) (h26 : ¬ t 0 26 = 0) (x y : Int32) : ∃ t', fX11_sayDoor_58 t x y = some t' ∧ t' 0 = t 0 ∧ MG t t' := by
  have r8 : ∀ (x : ST), rd 14 (x 3) 8 = some (x 3 8) := fun x => rd_k (n := 14) (k := 8) (by decide)
  have w8 : ∀ (x : ST) v, wr 14 x 3 8 v = some (up2 x 3 8 v) := fun x v => wr_k (n := 14) (k := 8) (by decide)
  have e14 : (14 : Int32) + nI nd = nI (14 + nd) := nI_add 14 nd
  have nw : fX11_readNumber (up2 (up2 t 8 (14 + nd) x) 9 (14 + nd) y) 1 9 = some (0, up2 (up2 t 8 (14 + nd) x) 9 (14 + nd) y) := (numW (by rw [up2_n (by decide), up2_n (by decide)]; exact h26) _ _).2
  refine ⟨up2 (up2 (up2 (up2 t 8 (14 + nd) x) 9 (14 + nd) y) 10 (14 + nd) 0) 3 8 (up2 (up2 (up2 t 8 (14 + nd) x) 9 (14 + nd) y) 10 (14 + nd) 0 3 8 + 1), ?_, ?_, ?_⟩
  · unfold fX11_sayDoor_58
    rw [r8, bnd_s, a3, e14, wr_k (n := 28) (show 14 + nd < 28 by omega), bnd_s, wr_k (n := 28) (show 14 + nd < 28 by omega), bnd_s, nw, bnd_s]
    dsimp only
    rw [wr_k (n := 28) (show 14 + nd < 28 by omega), bnd_s, r8, bnd_s, w8, bnd_s]
  · rw [up2_n (by decide), up2_n (by decide), up2_n (by decide), up2_n (by decide)]
  · exact (((MG.rf.up (by decide) (by decide) (by unfold hfz; simp)).up (by decide) (by decide) (by unfold hfz; simp)).up (by decide) (by decide) (by unfold hfz; simp)).up (by decide) (by decide) (by decide)
theorem wdC_cong2 {t t' : ST} : ∀ d, (∀ i, i < d → t' 8 (14 + i) = t 8 (14 + i) ∧ t' 9 (14 + i) = t 9 (14 + i) ∧ t' 10 (14 + i) = t 10 (14 + i)) → wdC t' d = wdC t d
  | 0, _ => rfl
  | d + 1, h => by
    obtain ⟨a, b, c⟩ := h d (by omega)
    unfold wdC
    rw [wdC_cong2 d (fun i hi => h i (by omega)), a, b, c]
theorem doorLine {g : Nat} {B : Nat → Nat} {L : Nat} {h t : ST} {kd st en nr nd nw nc nz : Nat} (p : PR g B L h t kd st en) (hf : HF g h t nr nd nw nc nz) (k0 : kd ≠ 0) : LR g B L h t st [3] (fX4_readDoor h) (fX11_sayDoor t) := by
  obtain ⟨⟨⟨n1, n2, n3, n4, n5⟩, ⟨a1, a2⟩, ⟨a3, a4⟩, ⟨a5, a6⟩, ⟨a7, a8⟩, a9, a10, ⟨a11, a12⟩⟩, hr, hd, hw, hc, hz⟩ := id hf
  have g2 := p.2.2.2.2
  have stl := p.2.1.2.2.2.2.2.2.1 k0
  have rff : rf KC 395 1 (h 38 2) = some g := rf_f g2 p.2.2.2.1
  have n01 : ¬ (1 : Int32) = 0 := by decide
  by_cases c : nd < 14
  rotate_left
  · obtain ⟨t', t1, t2, t3, t4⟩ := another_n p (i := 1) (n := nd) (m := 14) (by decide) a3 (by omega)
    have t1' : fX11_another t 1 14 = some (0, t') := t1
    refine Or.inr ⟨2, h, t', ?_, ?_, t2, KG.rf, MG.of t3 t4 W_in⟩
    · unfold fX4_readDoor
      rw [rff, bnd_s, if_neg (show ¬ h g 5 < 14 by rw [a4]; exact nI_nlt (b := 14) (by omega) (by omega))]
    · unfold fX11_sayDoor
      rw [t1', bnd_s, if_pos rfl]
  obtain ⟨h1, t1, kd1, st1, en1, s1, s2, s3, s4, s5, s6, s7⟩ := p.step
  have an : fX11_another t 1 14 = some (1, t1) := another_y (i := 1) (n := nd) (m := 14) (by decide) a3 (by omega) (by omega) (by decide) p.2.2.1 s2
  have le1 := s3.2.1.2.2.2.2.1.1
  have clsH : ∀ Z, (bnd (fX4_readRoomNumber h1) fun r6 => if r6.1 = 0 then bnd (fX4_lookAtRoomNumber r6.2) fun r9 => if r9 = 0 then if (r6.2 39 2) = (r6.2 38 3) then fX4_readDoor_75 r6.2 (r6.2 38 3) else bnd (rf KC 395 1 (r6.2 38 2)) fun f23 => bnd (fX2_hasDoor r6.2 f23 (r6.2 38 3) (r6.2 39 2)) fun r25 => if r25 = 0 then fX4_readDoor_77 r6.2 r9 (r6.2 38 3) else fX4_readDoor_75 r6.2 (r6.2 38 3) else fX4_readDoor_77 r6.2 r9 (r6.2 38 3) else some (r6.1, r6.2)) = Z → fX4_readDoor h = Z := fun Z e => by
    unfold fX4_readDoor
    rw [rff, bnd_s, if_pos (show h g 5 < 14 by rw [a4]; exact nI_lt (b := 14) c (by decide)), s1, bnd_s]
    exact e
  have mdlH : ∀ Z, (bnd (fX11_readRoom t1) fun r4 => bnd (fX11_roomNow r4.2) fun r6 => if (r6.2 0 26) = 0 then if r4.1 = r6.1 then fX11_sayDoor_42 r6.2 r4.1 r6.1 else bnd (fX11_isDoor r6.2 r4.1 r6.1) fun r29 => if r29 = 0 then fX11_sayDoor_47 r6.2 r4.1 r6.1 else fX11_sayDoor_42 r6.2 r4.1 r6.1 else fX11_sayDoor_47 r6.2 r4.1 r6.1) = Z → fX11_sayDoor t = Z := fun Z e => by
    unfold fX11_sayDoor
    rw [an, bnd_s]
    dsimp only
    rw [if_neg n01]
    exact e
  have MG1 : MG t t1 := MG.of s6 s7 TKs_in
  have KG1 : KG g h h1 := KG.st s5
  rcases roomR s3 n1 (by rw [s5 g (by simp only [List.mem_cons, List.not_mem_nil, or_false]; omega)]; exact a2) (by rw [s6 3 (by decide)]; exact a1) with ⟨a, h2, t2, kd2, st2, en2, ha, c2, d2, v2, p2, l2, f2, g2', q2, u2⟩ | ⟨cc, t2, c2, d2, bd, q2, u2⟩
  rotate_left
  · have n26 : ¬ t2 0 26 = 0 := by rw [bd.2.1]; exact bd.1
    obtain ⟨y, y1, y2, y3⟩ := doorTail c (by rw [q2 3 (by decide), s6 3 (by decide)]; exact a3) n26 0 0
    refine Or.inr ⟨cc, h1, y, clsH _ ?_, mdlH _ ?_, bd.kept rfl y2, KG1, (MG1.tr (MG.of q2 u2 W_in)).tr y3⟩
    · rw [c2, bnd_s]
      dsimp only
      rw [if_neg bd.1]
    · rw [d2, bnd_s]
      dsimp only
      rw [(roomW n26).1, bnd_s]
      dsimp only
      rw [if_neg n26]
      unfold fX11_sayDoor_47
      rw [if_neg n26]; exact y1
  have hk2 : ∀ i, i ≠ 38 → i ≠ 39 → h2 i = h i := fun i x y => by rw [f2 i (by simp only [List.mem_cons, List.not_mem_nil, or_false]; omega), s5 i (by simp only [List.mem_cons, List.not_mem_nil, or_false]; omega)]
  have tk2 : ∀ i, i ≠ 0 → t2 i = t i := fun i x => by rw [q2 i (by simp only [List.mem_cons, List.not_mem_nil, or_false]; omega), s6 i (by simp only [List.mem_cons, List.not_mem_nil, or_false]; omega)]
  have KG2 : KG g h h2 := KG1.tr (KG.nu f2)
  have MG2 : MG t t2 := MG1.tr (MG.of q2 u2 TKs_in)
  have hd2 : HFd g h2 t2 nr nd := hd.k (hk2 _ (by omega) (by omega)) (hk2 _ (by omega) (by omega)) (hk2 _ (by omega) (by omega)) (tk2 8 (by decide)) (tk2 9 (by decide)) (tk2 10 (by decide))
  have clsH2 : ∀ Z, (bnd (fX4_lookAtRoomNumber h2) fun r9 => if r9 = 0 then if (h2 39 2) = nI a then fX4_readDoor_75 h2 (nI a) else bnd (fX2_hasDoor h2 g (nI a) (h2 39 2)) fun r25 => if r25 = 0 then fX4_readDoor_77 h2 r9 (nI a) else fX4_readDoor_75 h2 (nI a) else fX4_readDoor_77 h2 r9 (nI a)) = Z → fX4_readDoor h = Z := fun Z e => by
    refine clsH Z ?_
    rw [c2, bnd_s]
    dsimp only
    rw [if_pos rfl]
    simp only [v2, rf_f g2 p2.2.2.2.1, bnd_s]
    exact e
  have mdlH2 : ∀ Z, (bnd (fX11_roomNow t2) fun r6 => if (r6.2 0 26) = 0 then if nI a = r6.1 then fX11_sayDoor_42 r6.2 (nI a) r6.1 else bnd (fX11_isDoor r6.2 (nI a) r6.1) fun r29 => if r29 = 0 then fX11_sayDoor_47 r6.2 (nI a) r6.1 else fX11_sayDoor_42 r6.2 (nI a) r6.1 else fX11_sayDoor_47 r6.2 (nI a) r6.1) = Z → fX11_sayDoor t = Z := fun Z e => by
    refine mdlH Z ?_
    rw [d2, bnd_s]
    exact e
  rcases roomNowR p2 n1 (by rw [hk2 g (by omega) (by omega)]; exact a2) (by rw [tk2 3 (by decide)]; exact a1) with ⟨b, hb, b1, b2, b3⟩ | ⟨cc, t3, b1, b2, bd, b4, b5⟩
  rotate_left
  · have n26 : ¬ t3 0 26 = 0 := by rw [bd.2.1]; exact bd.1
    obtain ⟨y, y1, y2, y3⟩ := doorTail c (by rw [b4 3 (by decide), tk2 3 (by decide)]; exact a3) n26 (nI a) 0
    refine Or.inr ⟨cc, h2, y, clsH2 _ ?_, mdlH2 _ ?_, bd.kept rfl y2, KG2, (MG2.tr (MG.of b4 b5 W_in)).tr y3⟩
    · unfold fX4_readDoor_77
      rw [b1, bnd_s, if_neg bd.1, if_neg bd.1]
    · rw [b2, bnd_s]
      dsimp only
      rw [if_neg n26]
      unfold fX11_sayDoor_47
      rw [if_neg n26]; exact y1
  -- a door that may not be
  have four : ∀ X Y, X = fX4_readDoor_75 h2 (nI a) → Y = fX11_sayDoor_42 t2 (nI a) (nI b) → fX4_readDoor h = X → fX11_sayDoor t = Y → LR g B L h t st [3] (fX4_readDoor h) (fX11_sayDoor t) := fun X Y e1 e2 e3 e4 => by
    obtain ⟨t3, w1, w2, w3, w4⟩ := wrongM p2 (c := 4) (by decide)
    have n26 : ¬ t3 0 26 = 0 := by rw [w2.2.1]; exact w2.1
    obtain ⟨y, y1, y2, y3⟩ := doorTail c (by rw [w3 3 (by decide), tk2 3 (by decide)]; exact a3) n26 (nI a) (nI b)
    refine Or.inr ⟨4, h2, y, ?_, ?_, w2.kept rfl y2, KG2, (MG2.tr (MG.of w3 w4 W_in)).tr y3⟩
    · rw [e3, e1]
      unfold fX4_readDoor_75 fX4_readDoor_77
      rw [if_neg (show ¬ (4 : Int32) = 0 by decide)]
    · rw [e4, e2]
      unfold fX11_sayDoor_42 fX11_sayDoor_47
      rw [w1, bnd_s, if_neg n26]; exact y1
  have eab : nI b = nI a ↔ b = a := nI_eq (by omega) (by omega)
  by_cases cab : b = a
  · refine four _ _ rfl rfl (clsH2 _ ?_) (mdlH2 _ ?_)
    · rw [b1, bnd_s, if_pos rfl, b2, if_pos (eab.mpr cab)]
    · rw [b3, bnd_s]
      dsimp only
      rw [if_pos p2.2.2.1, if_pos (eab.mpr cab).symm]
  obtain ⟨dv, hdv, dv1, dv2⟩ := doorNow hd2 n1 n2 (by rw [tk2 3 (by decide)]; exact a3) (by rw [hk2 g (by omega) (by omega)]; exact a4) (show a < 9 by omega) (show b < 9 by omega)
  rcases hdv with rfl | rfl
  rotate_left
  · refine four _ _ rfl rfl (clsH2 _ ?_) (mdlH2 _ ?_)
    · rw [b1, bnd_s, if_pos rfl, b2, if_neg (fun z => cab (eab.mp z)), dv1, bnd_s, if_neg n01]
    · rw [b3, bnd_s]
      dsimp only
      rw [if_pos p2.2.2.1, if_neg (fun z => cab (eab.mp z.symm)), dv2, bnd_s, if_neg n01]
  obtain ⟨h3, t3, kd3, st3, en3, r1, r2, r3, r4, r5, r6, r7⟩ := p2.step
  have tk3 : ∀ i, i ≠ 0 → t3 i = t i := fun i x => by rw [r6 i (by simp only [List.mem_cons, List.not_mem_nil, or_false]; omega), tk2 i x]
  have hk3 : ∀ i, i ≠ 38 → i ≠ 39 → h3 i = h i := fun i x y => by rw [r5 i (by simp only [List.mem_cons, List.not_mem_nil, or_false]; omega), hk2 i x y]
  have t38 : t3 3 8 = nI nd := by rw [tk3 3 (by decide)]; exact a3
  have le2 := p2.2.1.2.2.2.2.1.1
  have le3 := r3.2.1.2.2.2.2.1.1
  have e14 : (14 : Int32) + nI nd = nI (14 + nd) := nI_add 14 nd
  have r8 : ∀ (x : ST), rd 14 (x 3) 8 = some (x 3 8) := fun x => rd_k (n := 14) (k := 8) (by decide)
  have w8 : ∀ (x : ST) v, wr 14 x 3 8 v = some (up2 x 3 8 v) := fun x v => wr_k (n := 14) (k := 8) (by decide)
  obtain ⟨t4, m4⟩ : ∃ t4, t4 = up2 (up2 t3 8 (14 + nd) (nI a)) 9 (14 + nd) (nI b) := ⟨_, rfl⟩
  have t4k : ∀ i, i ≠ 8 → i ≠ 9 → t4 i = t3 i := fun i x y => by rw [m4, up2_n y, up2_n x]
  have p4 : PR g B L h3 t4 kd3 st3 en3 := r3.kept rfl rfl rfl (t4k 0 (by decide) (by decide)) (t4k 18 (by decide) (by decide))
  have MG4 : MG t t4 := by rw [m4]; exact ((MG2.tr (MG.of r6 r7 TKs_in)).up (by decide) (by decide) (by unfold hfz; simp)).up (by decide) (by decide) (by unfold hfz; simp)
  have KG3 : KG g h h3 := KG2.tr (KG.st r5)
  have clsH3 : ∀ Z, (bnd (fX4_readNumber h3 1 9) fun r15 => if r15.1 = 0 then bnd (rf KC 395 1 (r15.2 38 2)) fun f18 => bnd (fX2_addDoor r15.2 f18 (nI a) (nI b) (r15.2 38 3)) fun r20 => some (r15.1, r20) else some (r15.1, r15.2)) = Z → fX4_readDoor h = Z := fun Z e => by
    refine clsH2 Z ?_
    unfold fX4_readDoor_77 fX4_readDoor_123
    rw [b1, bnd_s, if_pos rfl, b2, if_neg (fun z => cab (eab.mp z)), dv1, bnd_s, if_pos rfl, if_pos rfl, r1, bnd_s]
    exact e
  have mdlH3 : ∀ Z, (bnd (fX11_readNumber t4 1 9) fun r16 => bnd (wr 28 r16.2 10 (nI (14 + nd)) r16.1) fun h18 => bnd (rd 14 (h18 3) 8) fun v20 => bnd (wr 14 h18 3 8 (v20 + 1)) fun h22 => some h22) = Z → fX11_sayDoor t = Z := fun Z e => by
    refine mdlH2 Z ?_
    rw [b3, bnd_s]
    dsimp only
    rw [if_pos p2.2.2.1, if_neg (fun z => cab (eab.mp z.symm)), dv2, bnd_s, if_pos rfl]
    unfold fX11_sayDoor_47 fX11_sayDoor_58
    rw [if_pos p2.2.2.1, r2, bnd_s, r8, bnd_s, t38, e14, wr_k (n := 28) (show 14 + nd < 28 by omega), bnd_s, wr_k (n := 28) (show 14 + nd < 28 by omega), bnd_s, ← m4]
    exact e
  rcases numR p4 (lo := 1) (hi := 9) (by decide) (by decide) with ⟨s, h5, t5, kd5, st5, en5, sl, sh, c5, d5, v5, p5, l5, f5, g5, q5, u5⟩ | ⟨cc, t5, c5, d5, bd, q5, u5⟩
  rotate_left
  · have c5' : fX4_readNumber h3 1 9 = some (cc, h3) := c5
    have d5' : fX11_readNumber t4 1 9 = some (0, t5) := d5
    refine Or.inr ⟨cc, h3, up2 (up2 t5 10 (14 + nd) 0) 3 8 (up2 t5 10 (14 + nd) 0 3 8 + 1), clsH3 _ ?_, mdlH3 _ ?_, bd.kept rfl ?_, KG3, ?_⟩
    · rw [c5', bnd_s]
      dsimp only
      rw [if_neg bd.1]
    · rw [d5', bnd_s]
      dsimp only
      rw [wr_k (n := 28) (show 14 + nd < 28 by omega), bnd_s, r8, bnd_s, w8, bnd_s]
    · rw [up2_n (by decide), up2_n (by decide)]
    · exact ((MG4.tr (MG.of q5 u5 W_in)).up (by decide) (by decide) (by unfold hfz; simp)).up (by decide) (by decide) (by decide)
  have c5' : fX4_readNumber h3 1 9 = some (0, h5) := c5
  have d5' : fX11_readNumber t4 1 9 = some (nI s, t5) := d5
  have hk5 : ∀ i, i ≠ 38 → i ≠ 39 → h5 i = h i := fun i x y => by rw [f5 i (by simp only [List.mem_cons, List.not_mem_nil, or_false]; omega), hk3 i x y]
  have h5g : h5 g 5 = nI nd := by rw [hk5 g (by omega) (by omega)]; exact a4
  obtain ⟨h6, e6⟩ : ∃ h6, h6 = up2 (up2 (up2 (up2 h5 (g + 5) nd (nI a)) (g + 6) nd (nI b)) (g + 16) (9 * a + b) (nI s)) (g + 16) (9 * b + a) (nI s) := ⟨_, rfl⟩
  obtain ⟨h7, e7⟩ : ∃ h7, h7 = up2 h6 g 5 (nI (nd + 1)) := ⟨_, rfl⟩
  obtain ⟨t6, m6⟩ : ∃ t6, t6 = up2 t5 10 (14 + nd) (nI s) := ⟨_, rfl⟩
  obtain ⟨t7, m7⟩ : ∃ t7, t7 = up2 t6 3 8 (nI (nd + 1)) := ⟨_, rfl⟩
  have i1 : nI a * 9 + nI b = nI (9 * a + b) := by rw [show nI a * 9 = nI (a * 9) from nI_mul a 9, nI_add, Nat.mul_comm]
  have i2 : nI b * 9 + nI a = nI (9 * b + a) := by rw [show nI b * 9 = nI (b * 9) from nI_mul b 9, nI_add, Nat.mul_comm]
  have add : fX2_addDoor h5 g (nI a) (nI b) (nI s) = some h7 := by
    have k1 : up2 h5 (g + 5) nd (nI a) g 5 = nI nd := by rw [up2_n (by omega)]; exact h5g
    have k2 : h6 g 5 = nI nd := by rw [e6, up2_n (by omega), up2_n (by omega), up2_n (by omega)]; exact k1
    unfold fX2_addDoor fX2_addDoor_63
    rw [h5g, if_neg (show ¬ 14 ≤ nI nd from nI_ge (b := 14) c (by decide)), wr_k (n := 14) c, bnd_s, k1, wr_k (n := 14) c, bnd_s, i1, wr_k (n := 81) (show 9 * a + b < 81 by omega), bnd_s, i2, wr_k (n := 81) (show 9 * b + a < 81 by omega), bnd_s, ← e6, k2, pw_s, bnd_s, nI_1, ← e7]
  have ck : ∀ i, i ≠ g → i ≠ g + 5 → i ≠ g + 6 → i ≠ g + 16 → i ≠ 38 → i ≠ 39 → h7 i = h i := fun i x1 x2 x3 x4 x5 x6 => by rw [e7, up2_n x1, e6, up2_n x4, up2_n x4, up2_n x3, up2_n x2, hk5 i x5 x6]
  have h7k : ∀ i, i ≠ g → i ≠ g + 5 → i ≠ g + 6 → i ≠ g + 16 → h7 i = h5 i := fun i x1 x2 x3 x4 => by rw [e7, up2_n x1, e6, up2_n x4, up2_n x4, up2_n x3, up2_n x2]
  have cg : ∀ j, j ≠ 5 → h7 g j = h g j := fun j hj => by rw [e7, up2_sn hj, e6, up2_n (by omega), up2_n (by omega), up2_n (by omega), up2_n (by omega), hk5 g (by omega) (by omega)]
  have mk : ∀ i, i ≠ 0 → i ≠ 3 → i ≠ 8 → i ≠ 9 → i ≠ 10 → t7 i = t i := fun i x1 x2 x3 x4 x5 => by rw [m7, up2_n x2, m6, up2_n x5, q5 i (by simp only [List.mem_cons, List.not_mem_nil, or_false]; omega), t4k i x3 x4, tk3 i x1]
  have m3j : ∀ j, j ≠ 8 → t7 3 j = t 3 j := fun j hj => by rw [m7, up2_sn hj, m6, up2_n (by decide), q5 3 (by decide), t4k 3 (by decide) (by decide), tk3 3 (by decide)]
  have t63 : t6 3 8 = nI nd := by rw [m6, up2_n (by decide), q5 3 (by decide), t4k 3 (by decide) (by decide)]; exact t38
  have d8 : t7 8 = upd (t 8) (14 + nd) (nI a) := by rw [m7, up2_n (by decide), m6, up2_n (by decide), q5 8 (by decide), m4, up2_n (by decide), up2_s, tk3 8 (by decide)]
  have d9 : t7 9 = upd (t 9) (14 + nd) (nI b) := by rw [m7, up2_n (by decide), m6, up2_n (by decide), q5 9 (by decide), m4, up2_s, up2_n (by decide), tk3 9 (by decide)]
  have d10 : t7 10 = upd (t 10) (14 + nd) (nI s) := by rw [m7, up2_n (by decide), m6, up2_s, q5 10 (by decide), t4k 10 (by decide) (by decide), tk3 10 (by decide)]
  have c5'' : h7 (g + 5) = upd (h (g + 5)) nd (nI a) := by rw [e7, up2_n (by omega), e6, up2_n (by omega), up2_n (by omega), up2_n (by omega), up2_s, hk5 _ (by omega) (by omega)]
  have c6 : h7 (g + 6) = upd (h (g + 6)) nd (nI b) := by rw [e7, up2_n (by omega), e6, up2_n (by omega), up2_n (by omega), up2_s, up2_n (by omega), hk5 _ (by omega) (by omega)]
  have c16 : h7 (g + 16) = upd (upd (h (g + 16)) (9 * a + b) (nI s)) (9 * b + a) (nI s) := by rw [e7, up2_n (by omega), e6, up2_s, up2_s, up2_n (by omega), up2_n (by omega), hk5 _ (by omega) (by omega)]
  refine Or.inl ⟨h7, t7, kd5, st5, en5, nr, nd + 1, nw, nc, nz, clsH3 _ ?_, mdlH3 _ ?_, ?_, ⟨⟨⟨n1, by omega, n3, n4, n5⟩, ⟨(m3j 7 (by decide)).trans a1, (cg 0 (by decide)).trans a2⟩, ⟨by rw [m7, up2_ss], by rw [e7, up2_ss]⟩, ⟨(m3j 9 (by decide)).trans a5, (cg 8 (by decide)).trans a6⟩, ⟨(m3j 10 (by decide)).trans a7, (cg 13 (by decide)).trans a8⟩, by rw [m3j 11 (by decide), cg 15 (by decide)]; exact a9, by rw [m3j 12 (by decide), cg 16 (by decide)]; exact a10, ⟨(m3j 13 (by decide)).trans a11, by rw [ck _ (by omega) (by omega) (by omega) (by omega) (by omega) (by omega)]; exact a12⟩⟩, ?_, ?_, ?_, ?_, ?_⟩, ?_, ?_, by omega, ?_, Or.inr (m3j 13 (by decide)), Or.inr (m3j 10 (by decide)), no3⟩
  · rw [c5', bnd_s]
    dsimp only
    rw [if_pos rfl, rf_f g2 p5.2.2.2.1, bnd_s, v5, add, bnd_s]
  · rw [d5', bnd_s]
    dsimp only
    rw [wr_k (n := 28) (show 14 + nd < 28 by omega), bnd_s, ← m6, r8, bnd_s, t63, w8, bnd_s, nI_1, ← m7]
  · exact p5.kept (h7k 1 (by omega) (by omega) (by omega) (by omega)) (h7k 39 (by omega) (by omega) (by omega) (by omega)) (by rw [h7k 38 (by omega) (by omega) (by omega) (by omega)]) (by rw [m7, up2_n (by decide), m6, up2_n (by decide)]) (by rw [m7, up2_n (by decide), m6, up2_n (by decide)])
  · exact hr.k (ck _ (by omega) (by omega) (by omega) (by omega) (by omega) (by omega)) (ck _ (by omega) (by omega) (by omega) (by omega) (by omega) (by omega)) (ck _ (by omega) (by omega) (by omega) (by omega) (by omega) (by omega)) (ck _ (by omega) (by omega) (by omega) (by omega) (by omega) (by omega)) (mk 4 (by decide) (by decide) (by decide) (by decide) (by decide)) (mk 5 (by decide) (by decide) (by decide) (by decide) (by decide)) (mk 6 (by decide) (by decide) (by decide) (by decide) (by decide)) (mk 7 (by decide) (by decide) (by decide) (by decide) (by decide))
  · refine ⟨fun i hi => ?_, ?_⟩
    · rw [d8, d9, d10, c5'', c6]
      by_cases u : i = nd
      · rw [u, upd_s, upd_s, upd_s, upd_s, upd_s]
        exact ⟨a, b, s, ⟨ha, hb, fun z => cab z.symm, sl, sh⟩, ⟨rfl, rfl⟩, ⟨rfl, rfl⟩, rfl⟩
      · rw [upd_n (show 14 + i ≠ 14 + nd by omega), upd_n u, upd_n (show 14 + i ≠ 14 + nd by omega), upd_n u, upd_n (show 14 + i ≠ 14 + nd by omega)]
        exact hd.1 i (by omega)
    · rw [c16]
      have e : wdC t7 (nd + 1) = upd (upd (wdC t nd) (9 * a + b) (nI s)) (9 * b + a) (nI s) := by
        show upd (upd (wdC t7 nd) (9 * (t7 8 (14 + nd)).toNatClampNeg + (t7 9 (14 + nd)).toNatClampNeg) (t7 10 (14 + nd))) (9 * (t7 9 (14 + nd)).toNatClampNeg + (t7 8 (14 + nd)).toNatClampNeg) (t7 10 (14 + nd)) = _
        rw [wdC_cong2 (t := t) nd (fun i hi => by rw [d8, d9, d10, upd_n (show 14 + i ≠ 14 + nd by omega), upd_n (show 14 + i ≠ 14 + nd by omega), upd_n (show 14 + i ≠ 14 + nd by omega)]; exact ⟨rfl, rfl, rfl⟩), d8, d9, d10, upd_s, upd_s, upd_s, nI_clamp (by omega), nI_clamp (by omega)]
      rw [e]
      exact (hd.2.up _ _).up _ _
  · exact hw.k (ck _ (by omega) (by omega) (by omega) (by omega) (by omega) (by omega)) (ck _ (by omega) (by omega) (by omega) (by omega) (by omega) (by omega)) (ck _ (by omega) (by omega) (by omega) (by omega) (by omega) (by omega)) (ck _ (by omega) (by omega) (by omega) (by omega) (by omega) (by omega)) (mk 11 (by decide) (by decide) (by decide) (by decide) (by decide)) (mk 12 (by decide) (by decide) (by decide) (by decide) (by decide)) (mk 13 (by decide) (by decide) (by decide) (by decide) (by decide)) (mk 14 (by decide) (by decide) (by decide) (by decide) (by decide))
  · exact hc.k (ck _ (by omega) (by omega) (by omega) (by omega) (by omega) (by omega)) (mk 15 (by decide) (by decide) (by decide) (by decide) (by decide))
  · exact hz.k (ck _ (by omega) (by omega) (by omega) (by omega) (by omega) (by omega)) (mk 16 (by decide) (by decide) (by decide) (by decide) (by decide))
  · rw [e7, e6]
    exact (((((KG3.tr (KG.nu f5)).up (by omega)).up (by omega)).up (by omega)).up (by omega)).up (by omega)
  · rw [m7, m6]
    exact ((MG4.tr (MG.of q5 u5 TKs_in)).up (by decide) (by decide) (by unfold hfz; simp)).up (by decide) (by decide) (by decide)
  · intro j hj
    rw [h7k 38 (by omega) (by omega) (by omega) (by omega), g5 j hj, r5 38 (by decide), g2' j hj, s5 38 (by decide)]
