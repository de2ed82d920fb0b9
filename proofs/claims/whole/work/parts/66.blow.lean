/-! ===== parish: blows ===== -/
theorem blowTail {t : ST} {w k : Nat} (hw : w < 5) (hk : k < 8) (a : t 11 (5 + w) = nI k) (h26 : ¬ t 0 26 = 0) (x y : Int32) : ∃ t', fX11_sayBlow_109 t (nI (5 + w)) x y = some t' ∧ t' 0 = t 0 ∧ MG t t' := by
  have ix : (8 : Int32) * nI (5 + w) + nI k = nI (40 + (8 * w + k)) := by rw [show (8 : Int32) * nI (5 + w) = nI (8 * (5 + w)) from nI_mul 8 _, nI_add]; congr 1; omega
  have nw : fX11_readNumber (up2 (up2 t 12 (40 + (8 * w + k)) x) 13 (40 + (8 * w + k)) y) 1 9 = some (0, up2 (up2 t 12 (40 + (8 * w + k)) x) 13 (40 + (8 * w + k)) y) := (numW (by rw [up2_n (by decide), up2_n (by decide)]; exact h26) _ _).2
  have k11 : up2 (up2 (up2 t 12 (40 + (8 * w + k)) x) 13 (40 + (8 * w + k)) y) 14 (40 + (8 * w + k)) 0 11 = t 11 := by rw [up2_n (by decide), up2_n (by decide), up2_n (by decide)]
  refine ⟨up2 (up2 (up2 (up2 t 12 (40 + (8 * w + k)) x) 13 (40 + (8 * w + k)) y) 14 (40 + (8 * w + k)) 0) 11 (5 + w) (nI k + 1), ?_, ?_, ?_⟩
  · unfold fX11_sayBlow_109
    rw [rd_k (n := 10) (show 5 + w < 10 by omega), bnd_s, a, ix, wr_k (n := 80) (show 40 + (8 * w + k) < 80 by omega), bnd_s, wr_k (n := 80) (show 40 + (8 * w + k) < 80 by omega), bnd_s, nw, bnd_s]
    dsimp only
    rw [wr_k (n := 80) (show 40 + (8 * w + k) < 80 by omega), bnd_s, k11, rd_k (n := 10) (show 5 + w < 10 by omega), bnd_s, a, wr_k (n := 10) (show 5 + w < 10 by omega), bnd_s]
  · rw [up2_n (by decide), up2_n (by decide), up2_n (by decide), up2_n (by decide)]
  · exact (((MG.rf.up (by decide) (by decide) (by unfold hfz; simp)).up (by decide) (by decide) (by unfold hfz; simp)).up (by decide) (by decide) (by unfold hfz; simp)).up (by decide) (by decide) (by unfold hfz; simp)
theorem blowLine {g : Nat} {B : Nat → Nat} {L : Nat} {h t : ST} {kd st en nr nd nw nc nz : Nat} (p : PR g B L h t kd st en) (hf : HF g h t nr nd nw nc nz) (k0 : kd ≠ 0) : LR g B L h t st [3] (fX4_readBlow h) (fX11_sayBlow t) := by
  obtain ⟨⟨⟨n1, n2, n3, n4, n5⟩, ⟨a1, a2⟩, ⟨a3, a4⟩, ⟨a5, a6⟩, ⟨a7, a8⟩, a9, a10, ⟨a11, a12⟩⟩, hr, hd, hw, hc, hz⟩ := id hf
  have g2 := p.2.2.2.2
  have stl := p.2.1.2.2.2.2.2.2.1 k0
  have rff : rf KC 395 1 (h 38 2) = some g := rf_f g2 p.2.2.2.1
  have n01 : ¬ (1 : Int32) = 0 := by decide
  have r9 : ∀ (x : ST), rd 14 (x 3) 9 = some (x 3 9) := fun x => rd_k (n := 14) (k := 9) (by decide)
  rcases Nat.eq_zero_or_pos nw with z | z
  · obtain ⟨t', t1, t2, t3, t4⟩ := wrongM p (c := 1) (by decide)
    have n26 : ¬ t' 0 26 = 0 := by rw [t2.2.1]; exact t2.1
    refine Or.inr ⟨1, h, t', ?_, ?_, t2, KG.rf, MG.of t3 t4 W_in⟩
    · unfold fX4_readBlow
      rw [rff, bnd_s, if_neg (show ¬ 0 ≤ h g 8 - 1 by rw [a6, z]; decide)]
    · unfold fX11_sayBlow fX11_sayBlow_15 fX11_sayBlow_54
      rw [r9, bnd_s, if_pos (show t 3 9 = 0 by rw [a5, z]; rfl), t1, bnd_s, r9, bnd_s, if_neg n26, if_neg n26]
  obtain ⟨w, rfl⟩ : ∃ w, nw = w + 1 := ⟨nw - 1, by omega⟩
  obtain ⟨k, k8, ⟨b1, b2⟩, b3⟩ := hw w (by omega)
  have hw1 : h g 8 - 1 = nI w := by rw [a6]; exact nI_pred w
  have nz0 : ¬ t 3 9 = 0 := by rw [a5]; exact nI_ne0 (by omega) (by omega)
  have mx1 : (5 + (if (1 : Int32) < t 3 9 then t 3 9 else 1)) - 1 = nI (5 + w) := by
    rw [a5]
    have : w = 0 ∨ w = 1 ∨ w = 2 ∨ w = 3 ∨ w = 4 := by omega
    rcases this with rfl | rfl | rfl | rfl | rfl <;> decide
  have mdl0 : ∀ Z, (if nI k = 8 then bnd (fX11_wrong t 2) fun r40 => fX11_sayBlow_54 r40 (nI (5 + w)) else fX11_sayBlow_54 t (nI (5 + w))) = Z → fX11_sayBlow t = Z := fun Z e => by
    unfold fX11_sayBlow fX11_sayBlow_15
    rw [r9, bnd_s, if_neg nz0, bnd_s, if_pos p.2.2.1, mx1, rd_k (n := 10) (show 5 + w < 10 by omega), bnd_s, b1]
    exact e
  by_cases c8 : k = 8
  · obtain ⟨t', t1, t2, t3, t4⟩ := wrongM p (c := 2) (by decide)
    have n26 : ¬ t' 0 26 = 0 := by rw [t2.2.1]; exact t2.1
    refine Or.inr ⟨2, h, t', ?_, mdl0 _ ?_, t2, KG.rf, MG.of t3 t4 W_in⟩
    · unfold fX4_readBlow
      rw [rff, bnd_s, hw1, if_pos (nI_pos' (show w < 2 ^ 31 by omega)), bnd_s, rd_k (n := 5) (show w < 5 by omega), bnd_s, b2, c8, if_neg (show ¬ nI 8 < 8 by decide)]
    · rw [c8, if_pos (show nI 8 = 8 from rfl), t1, bnd_s]
      unfold fX11_sayBlow_54
      rw [if_neg n26]
  have kl : k < 8 := by omega
  obtain ⟨h1, t1, kd1, st1, en1, s1, s2, s3, s4, s5, s6, s7⟩ := p.step
  have le1 := s3.2.1.2.2.2.2.1.1
  have MG1 : MG t t1 := MG.of s6 s7 TKs_in
  have KG1 : KG g h h1 := KG.st s5
  have ic : nI w * 8 + nI k = nI (8 * w + k) := by rw [show nI w * 8 = nI (w * 8) from nI_mul w 8, nI_add, Nat.mul_comm]
  have im : (8 : Int32) * nI (5 + w) + nI k = nI (40 + (8 * w + k)) := by rw [show (8 : Int32) * nI (5 + w) = nI (8 * (5 + w)) from nI_mul 8 _, nI_add]; congr 1; omega
  have clsH : ∀ Z, (bnd (fX4_readRoomNumber h1) fun r15 => if r15.1 = 0 then bnd (rf KC 395 1 (r15.2 38 2)) fun f18 => bnd (wr 40 r15.2 (f18 + 8) (nI (8 * w + k)) (r15.2 38 3)) fun h20 => bnd (fX4_lookAtRoomNumber h20) fun r22 => if r22 = 0 then bnd (rf KC 395 1 (h20 38 2)) fun f45 => bnd (fX2_hasDoor h20 f45 (h20 38 3) (h20 39 2)) fun r47 => if r47 = 0 then fX4_readBlow_111 h20 (nI w) (nI (8 * w + k)) 6 else fX4_readBlow_111 h20 (nI w) (nI (8 * w + k)) r22 else fX4_readBlow_111 h20 (nI w) (nI (8 * w + k)) r22 else some (r15.1, r15.2)) = Z → fX4_readBlow h = Z := fun Z e => by
    unfold fX4_readBlow
    rw [rff, bnd_s, hw1, if_pos (nI_pos' (show w < 2 ^ 31 by omega)), bnd_s, rd_k (n := 5) (show w < 5 by omega), bnd_s, b2, if_pos (show nI k < 8 from nI_lt (b := 8) kl (by decide)), bnd_s, rd_k (n := 5) (show w < 5 by omega), bnd_s, b2, s1, bnd_s, ic]
    exact e
  have mdlH : ∀ Z, (bnd (fX11_readRoom t1) fun r10 => bnd (fX11_roomNow r10.2) fun r12 => if (r12.2 0 26) = 0 then bnd (fX11_isDoor r12.2 r10.1 r12.1) fun r32 => if r32 = 0 then bnd (fX11_wrong r12.2 6) fun r35 => fX11_sayBlow_98 r35 (nI (5 + w)) r10.1 r12.1 else fX11_sayBlow_98 r12.2 (nI (5 + w)) r10.1 r12.1 else fX11_sayBlow_98 r12.2 (nI (5 + w)) r10.1 r12.1) = Z → fX11_sayBlow t = Z := fun Z e => by
    refine mdl0 Z ?_
    rw [if_neg (show ¬ nI k = 8 from fun q => c8 ((nI_eq (a := k) (b := 8) (by omega) (by decide)).mp q))]
    unfold fX11_sayBlow_54
    rw [if_pos p.2.2.1, s2, bnd_s]
    exact e
  rcases roomR s3 n1 (by rw [s5 g (by simp only [List.mem_cons, List.not_mem_nil, or_false]; omega)]; exact a2) (by rw [s6 3 (by decide)]; exact a1) with ⟨a, h2, t2, kd2, st2, en2, ha, c2, d2, v2, p2, l2, f2, g2', q2, u2⟩ | ⟨cc, t2, c2, d2, bd, q2, u2⟩
  rotate_left
  · have n26 : ¬ t2 0 26 = 0 := by rw [bd.2.1]; exact bd.1
    obtain ⟨y, y1, y2, y3⟩ := blowTail (w := w) (by omega) kl (by rw [q2 11 (by decide), s6 11 (by decide)]; exact b1) n26 0 0
    refine Or.inr ⟨cc, h1, y, clsH _ ?_, mdlH _ ?_, bd.kept rfl y2, KG1, (MG1.tr (MG.of q2 u2 W_in)).tr y3⟩
    · rw [c2, bnd_s]
      dsimp only
      rw [if_neg bd.1]
    · rw [d2, bnd_s]
      dsimp only
      rw [(roomW n26).1, bnd_s]
      dsimp only
      rw [if_neg n26]
      unfold fX11_sayBlow_98
      rw [if_neg n26]; exact y1
  have hk2 : ∀ i, i ≠ 38 → i ≠ 39 → h2 i = h i := fun i x y => by rw [f2 i (by simp only [List.mem_cons, List.not_mem_nil, or_false]; omega), s5 i (by simp only [List.mem_cons, List.not_mem_nil, or_false]; omega)]
  have tk2 : ∀ i, i ≠ 0 → t2 i = t i := fun i x => by rw [q2 i (by simp only [List.mem_cons, List.not_mem_nil, or_false]; omega), s6 i (by simp only [List.mem_cons, List.not_mem_nil, or_false]; omega)]
  have MG2 : MG t t2 := MG1.tr (MG.of q2 u2 TKs_in)
  obtain ⟨h3, e3⟩ : ∃ h3, h3 = up2 h2 (g + 8) (8 * w + k) (nI a) := ⟨_, rfl⟩
  have h3k : ∀ i, i ≠ g + 8 → h3 i = h2 i := fun i hi => by rw [e3, up2_n hi]
  have p3 : PR g B L h3 t2 kd2 st2 en2 := p2.kept (h3k 1 (by omega)) (h3k 39 (by omega)) (by rw [h3k 38 (by omega)]) rfl rfl
  have KG3 : KG g h h3 := by rw [e3]; exact (KG1.tr (KG.nu f2)).up (by omega)
  have v3 : h3 38 3 = nI a := by rw [h3k 38 (by omega)]; exact v2
  have hd3 : HFd g h3 t2 nr nd := hd.k (by rw [h3k _ (by omega), hk2 _ (by omega) (by omega)]) (by rw [h3k _ (by omega), hk2 _ (by omega) (by omega)]) (by rw [h3k _ (by omega), hk2 _ (by omega) (by omega)]) (tk2 8 (by decide)) (tk2 9 (by decide)) (tk2 10 (by decide))
  have clsH2 : ∀ Z, (bnd (fX4_lookAtRoomNumber h3) fun r22 => if r22 = 0 then bnd (fX2_hasDoor h3 g (nI a) (h3 39 2)) fun r47 => if r47 = 0 then fX4_readBlow_111 h3 (nI w) (nI (8 * w + k)) 6 else fX4_readBlow_111 h3 (nI w) (nI (8 * w + k)) r22 else fX4_readBlow_111 h3 (nI w) (nI (8 * w + k)) r22) = Z → fX4_readBlow h = Z := fun Z e => by
    refine clsH Z ?_
    rw [c2, bnd_s]
    dsimp only
    rw [if_pos rfl, rf_f g2 p2.2.2.2.1, bnd_s, v2, wr_k (n := 40) (show 8 * w + k < 40 by omega), bnd_s, ← e3]
    simp only [rf_f g2 p3.2.2.2.1, bnd_s, v3]
    exact e
  have mdlH2 : ∀ Z, (bnd (fX11_roomNow t2) fun r12 => if (r12.2 0 26) = 0 then bnd (fX11_isDoor r12.2 (nI a) r12.1) fun r32 => if r32 = 0 then bnd (fX11_wrong r12.2 6) fun r35 => fX11_sayBlow_98 r35 (nI (5 + w)) (nI a) r12.1 else fX11_sayBlow_98 r12.2 (nI (5 + w)) (nI a) r12.1 else fX11_sayBlow_98 r12.2 (nI (5 + w)) (nI a) r12.1) = Z → fX11_sayBlow t = Z := fun Z e => by
    refine mdlH Z ?_
    rw [d2, bnd_s]
    exact e
  rcases roomNowR p3 n1 (by rw [h3k g (by omega), hk2 g (by omega) (by omega)]; exact a2) (by rw [tk2 3 (by decide)]; exact a1) with ⟨b, hb, y1, y2, y3⟩ | ⟨cc, t3, y1, y2, bd, y4, y5⟩
  rotate_left
  · have n26 : ¬ t3 0 26 = 0 := by rw [bd.2.1]; exact bd.1
    obtain ⟨y, x1, x2, x3⟩ := blowTail (w := w) (by omega) kl (by rw [y4 11 (by decide), tk2 11 (by decide)]; exact b1) n26 (nI a) 0
    refine Or.inr ⟨cc, h3, y, clsH2 _ ?_, mdlH2 _ ?_, bd.kept rfl x2, KG3, (MG2.tr (MG.of y4 y5 W_in)).tr x3⟩
    · unfold fX4_readBlow_111
      rw [y1, bnd_s, if_neg bd.1, if_neg bd.1]
    · rw [y2, bnd_s]
      dsimp only
      rw [if_neg n26]
      unfold fX11_sayBlow_98
      rw [if_neg n26]; exact x1
  obtain ⟨dv, hdv, dv1, dv2⟩ := doorNow hd3 n1 n2 (by rw [tk2 3 (by decide)]; exact a3) (by rw [h3k g (by omega), hk2 g (by omega) (by omega)]; exact a4) (show a < 9 by omega) (show b < 9 by omega)
  rcases hdv with rfl | rfl
  · obtain ⟨t3, w1, w2, w3, w4⟩ := wrongM p3 (c := 6) (by decide)
    have n26 : ¬ t3 0 26 = 0 := by rw [w2.2.1]; exact w2.1
    obtain ⟨y, x1, x2, x3⟩ := blowTail (w := w) (by omega) kl (by rw [w3 11 (by decide), tk2 11 (by decide)]; exact b1) n26 (nI a) (nI b)
    refine Or.inr ⟨6, h3, y, clsH2 _ ?_, mdlH2 _ ?_, w2.kept rfl x2, KG3, (MG2.tr (MG.of w3 w4 W_in)).tr x3⟩
    · unfold fX4_readBlow_111
      rw [y1, bnd_s, if_pos rfl, y2, dv1, bnd_s, if_pos rfl, if_neg (show ¬ (6 : Int32) = 0 by decide)]
    · rw [y3, bnd_s]
      dsimp only
      rw [if_pos p2.2.2.1, dv2, bnd_s, if_pos rfl, w1, bnd_s]
      unfold fX11_sayBlow_98
      rw [if_neg n26]; exact x1
  obtain ⟨h4, e4⟩ : ∃ h4, h4 = up2 h3 (g + 9) (8 * w + k) (nI b) := ⟨_, rfl⟩
  have h4k : ∀ i, i ≠ g + 9 → h4 i = h3 i := fun i hi => by rw [e4, up2_n hi]
  have p4 : PR g B L h4 t2 kd2 st2 en2 := p3.kept (h4k 1 (by omega)) (h4k 39 (by omega)) (by rw [h4k 38 (by omega)]) rfl rfl
  obtain ⟨h5, t5, kd5, st5, en5, r1, r2, r3, r4, r5, r6, r7⟩ := p4.step
  have le2 := p2.2.1.2.2.2.2.1.1
  have le5 := r3.2.1.2.2.2.2.1.1
  have tk5 : ∀ i, i ≠ 0 → t5 i = t i := fun i x => by rw [r6 i (by simp only [List.mem_cons, List.not_mem_nil, or_false]; omega), tk2 i x]
  obtain ⟨t6, m6⟩ : ∃ t6, t6 = up2 (up2 t5 12 (40 + (8 * w + k)) (nI a)) 13 (40 + (8 * w + k)) (nI b) := ⟨_, rfl⟩
  have t6k : ∀ i, i ≠ 12 → i ≠ 13 → t6 i = t5 i := fun i x y => by rw [m6, up2_n y, up2_n x]
  have p6 : PR g B L h5 t6 kd5 st5 en5 := r3.kept rfl rfl rfl (t6k 0 (by decide) (by decide)) (t6k 18 (by decide) (by decide))
  have MG6 : MG t t6 := by rw [m6]; exact ((MG2.tr (MG.of r6 r7 TKs_in)).up (by decide) (by decide) (by unfold hfz; simp)).up (by decide) (by decide) (by unfold hfz; simp)
  have KG5 : KG g h h5 := by
    have : KG g h h4 := by rw [e4]; exact KG3.up (by omega)
    exact this.tr (KG.st r5)
  have clsH3 : ∀ Z, (bnd (fX4_readNumber h5 1 9) fun r32 => if r32.1 = 0 then bnd (rf KC 395 1 (r32.2 38 2)) fun f35 => bnd (wr 40 r32.2 (f35 + 10) (nI (8 * w + k)) (r32.2 38 3)) fun h37 => bnd (rf KC 395 1 (h37 38 2)) fun f39 => bnd (rd 5 (h37 (f39 + 7)) (nI w)) fun v41 => bnd (wr 5 h37 (f39 + 7) (nI w) (v41 + 1)) fun h43 => some (0, h43) else some (r32.1, r32.2)) = Z → fX4_readBlow h = Z := fun Z e => by
    refine clsH2 Z ?_
    unfold fX4_readBlow_111
    rw [y1, bnd_s, if_pos rfl, y2, dv1, bnd_s, if_neg n01, if_pos rfl, rf_f g2 p3.2.2.2.1, bnd_s, wr_k (n := 40) (show 8 * w + k < 40 by omega), bnd_s, ← e4, r1, bnd_s]
    exact e
  have mdlH3 : ∀ Z, (bnd (fX11_readNumber t6 1 9) fun r22 => bnd (wr 80 r22.2 14 (nI (40 + (8 * w + k))) r22.1) fun h24 => bnd (rd 10 (h24 11) (nI (5 + w))) fun v26 => bnd (wr 10 h24 11 (nI (5 + w)) (v26 + 1)) fun h28 => some h28) = Z → fX11_sayBlow t = Z := fun Z e => by
    refine mdlH2 Z ?_
    rw [y3, bnd_s]
    dsimp only
    rw [if_pos p2.2.2.1, dv2, bnd_s, if_neg n01]
    unfold fX11_sayBlow_98 fX11_sayBlow_109
    rw [if_pos p2.2.2.1, r2, bnd_s, rd_k (n := 10) (show 5 + w < 10 by omega), bnd_s, show t5 11 (5 + w) = nI k by rw [tk5 11 (by decide)]; exact b1]
    rw [im, wr_k (n := 80) (show 40 + (8 * w + k) < 80 by omega), bnd_s, wr_k (n := 80) (show 40 + (8 * w + k) < 80 by omega), bnd_s, ← m6]
    exact e
  rcases numR p6 (lo := 1) (hi := 9) (by decide) (by decide) with ⟨s, h7, t7, kd7, st7, en7, sl, sh, c7, d7, v7, p7, l7, f7, g7, q7, u7⟩ | ⟨cc, t7, c7, d7, bd, q7, u7⟩
  rotate_left
  · have c7' : fX4_readNumber h5 1 9 = some (cc, h5) := c7
    have d7' : fX11_readNumber t6 1 9 = some (0, t7) := d7
    refine Or.inr ⟨cc, h5, up2 (up2 t7 14 (40 + (8 * w + k)) 0) 11 (5 + w) (up2 t7 14 (40 + (8 * w + k)) 0 11 (5 + w) + 1), clsH3 _ ?_, mdlH3 _ ?_, bd.kept rfl ?_, KG5, ?_⟩
    · rw [c7', bnd_s]
      dsimp only
      rw [if_neg bd.1]
    · rw [d7', bnd_s]
      dsimp only
      rw [wr_k (n := 80) (show 40 + (8 * w + k) < 80 by omega), bnd_s, rd_k (n := 10) (show 5 + w < 10 by omega), bnd_s, wr_k (n := 10) (show 5 + w < 10 by omega), bnd_s]
    · rw [up2_n (by decide), up2_n (by decide)]
    · exact ((MG6.tr (MG.of q7 u7 W_in)).up (by decide) (by decide) (by unfold hfz; simp)).up (by decide) (by decide) (by unfold hfz; simp)
  have c7' : fX4_readNumber h5 1 9 = some (0, h7) := c7
  have d7' : fX11_readNumber t6 1 9 = some (nI s, t7) := d7
  obtain ⟨h8, e8⟩ : ∃ h8, h8 = up2 h7 (g + 10) (8 * w + k) (nI s) := ⟨_, rfl⟩
  obtain ⟨h9, e9⟩ : ∃ h9, h9 = up2 h8 (g + 7) w (nI (k + 1)) := ⟨_, rfl⟩
  obtain ⟨t8, m8⟩ : ∃ t8, t8 = up2 t7 14 (40 + (8 * w + k)) (nI s) := ⟨_, rfl⟩
  obtain ⟨t9, m9⟩ : ∃ t9, t9 = up2 t8 11 (5 + w) (nI (k + 1)) := ⟨_, rfl⟩
  have hk5 : ∀ i, i ≠ g + 8 → i ≠ g + 9 → i ≠ 38 → i ≠ 39 → h7 i = h i := fun i x1 x2 x3 x4 => by rw [f7 i (by simp only [List.mem_cons, List.not_mem_nil, or_false]; omega), r5 i (by simp only [List.mem_cons, List.not_mem_nil, or_false]; omega), h4k i x2, h3k i x1, hk2 i x3 x4]
  have ck : ∀ i, i ≠ g + 7 → i ≠ g + 8 → i ≠ g + 9 → i ≠ g + 10 → i ≠ 38 → i ≠ 39 → h9 i = h i := fun i x0 x1 x2 x3 x4 x5 => by rw [e9, up2_n x0, e8, up2_n x3, hk5 i x1 x2 x4 x5]
  have h97 : ∀ i, i ≠ g + 7 → i ≠ g + 10 → h9 i = h7 i := fun i x y => by rw [e9, up2_n x, e8, up2_n y]
  have mk : ∀ i, i ≠ 0 → i ≠ 11 → i ≠ 12 → i ≠ 13 → i ≠ 14 → t9 i = t i := fun i x1 x2 x3 x4 x5 => by rw [m9, up2_n x2, m8, up2_n x5, q7 i (by simp only [List.mem_cons, List.not_mem_nil, or_false]; omega), t6k i x3 x4, tk5 i x1]
  have h87 : h8 (g + 7) w = nI k := by rw [e8, up2_n (by omega), hk5 _ (by omega) (by omega) (by omega) (by omega)]; exact b2
  have t811 : t8 11 (5 + w) = nI k := by rw [m8, up2_n (by decide), q7 11 (by decide), t6k 11 (by decide) (by decide), tk5 11 (by decide)]; exact b1
  have C7 : h9 (g + 7) = upd (h (g + 7)) w (nI (k + 1)) := by rw [e9, up2_s, e8, up2_n (by omega), hk5 _ (by omega) (by omega) (by omega) (by omega)]
  have C8 : h9 (g + 8) = upd (h (g + 8)) (8 * w + k) (nI a) := by rw [h97 _ (by omega) (by omega), f7 (g + 8) (by simp only [List.mem_cons, List.not_mem_nil, or_false]; omega), r5 (g + 8) (by simp only [List.mem_cons, List.not_mem_nil, or_false]; omega), h4k _ (by omega), e3, up2_s, hk2 _ (by omega) (by omega)]
  have C9 : h9 (g + 9) = upd (h (g + 9)) (8 * w + k) (nI b) := by rw [h97 _ (by omega) (by omega), f7 (g + 9) (by simp only [List.mem_cons, List.not_mem_nil, or_false]; omega), r5 (g + 9) (by simp only [List.mem_cons, List.not_mem_nil, or_false]; omega), e4, up2_s, h3k _ (by omega), hk2 _ (by omega) (by omega)]
  have C10 : h9 (g + 10) = upd (h (g + 10)) (8 * w + k) (nI s) := by rw [e9, up2_n (by omega), e8, up2_s, hk5 _ (by omega) (by omega) (by omega) (by omega)]
  have D11 : t9 11 = upd (t 11) (5 + w) (nI (k + 1)) := by rw [m9, up2_s, m8, up2_n (by decide), q7 11 (by decide), t6k 11 (by decide) (by decide), tk5 11 (by decide)]
  have D12 : t9 12 = upd (t 12) (40 + (8 * w + k)) (nI a) := by rw [m9, up2_n (by decide), m8, up2_n (by decide), q7 12 (by decide), m6, up2_n (by decide), up2_s, tk5 12 (by decide)]
  have D13 : t9 13 = upd (t 13) (40 + (8 * w + k)) (nI b) := by rw [m9, up2_n (by decide), m8, up2_n (by decide), q7 13 (by decide), m6, up2_s, up2_n (by decide), tk5 13 (by decide)]
  have D14 : t9 14 = upd (t 14) (40 + (8 * w + k)) (nI s) := by rw [m9, up2_n (by decide), m8, up2_s, q7 14 (by decide), t6k 14 (by decide) (by decide), tk5 14 (by decide)]
  have K : ∀ i, g ≤ i → i ≠ g + 7 → i ≠ g + 8 → i ≠ g + 9 → i ≠ g + 10 → i < g + 18 → h9 i = h i := fun i x0 x1 x2 x3 x4 x5 => ck i x1 x2 x3 x4 (by omega) (by omega)
  have t3e : t9 3 = t 3 := mk 3 (by decide) (by decide) (by decide) (by decide) (by decide)
  have ge : h9 g = h g := K g (by omega) (by omega) (by omega) (by omega) (by omega) (by omega)
  refine Or.inl ⟨h9, t9, kd7, st7, en7, nr, nd, w + 1, nc, nz, clsH3 _ ?_, mdlH3 _ ?_, ?_, ⟨?_, ?_, ?_, ?_, ?_, ?_⟩, ?_, ?_, by omega, ?_, Or.inr (by rw [t3e]), Or.inr (by rw [t3e]), no3⟩
  · rw [c7', bnd_s]
    dsimp only
    rw [if_pos rfl, rf_f g2 p7.2.2.2.1, bnd_s, v7, wr_k (n := 40) (show 8 * w + k < 40 by omega), bnd_s, ← e8, show h8 38 2 = h7 38 2 by rw [e8, up2_n (by omega)], rf_f g2 p7.2.2.2.1, bnd_s, rd_k (n := 5) (show w < 5 by omega), bnd_s, h87, wr_k (n := 5) (show w < 5 by omega), bnd_s, nI_1, ← e9]
  · rw [d7', bnd_s]
    dsimp only
    rw [wr_k (n := 80) (show 40 + (8 * w + k) < 80 by omega), bnd_s, ← m8, rd_k (n := 10) (show 5 + w < 10 by omega), bnd_s, t811, wr_k (n := 10) (show 5 + w < 10 by omega), bnd_s, nI_1, ← m9]
  · exact p7.kept (h97 1 (by omega) (by omega)) (h97 39 (by omega) (by omega)) (by rw [h97 38 (by omega) (by omega)]) (by rw [m9, up2_n (by decide), m8, up2_n (by decide)]) (by rw [m9, up2_n (by decide), m8, up2_n (by decide)])
  · unfold HF1
    rw [t3e, ge, K (g + 12) (by omega) (by omega) (by omega) (by omega) (by omega) (by omega)]
    exact ⟨⟨n1, n2, n3, n4, n5⟩, ⟨a1, a2⟩, ⟨a3, a4⟩, ⟨a5, a6⟩, ⟨a7, a8⟩, a9, a10, ⟨a11, a12⟩⟩
  · exact hr.k (K _ (by omega) (by omega) (by omega) (by omega) (by omega) (by omega)) (K _ (by omega) (by omega) (by omega) (by omega) (by omega) (by omega)) (K _ (by omega) (by omega) (by omega) (by omega) (by omega) (by omega)) (K _ (by omega) (by omega) (by omega) (by omega) (by omega) (by omega)) (mk 4 (by decide) (by decide) (by decide) (by decide) (by decide)) (mk 5 (by decide) (by decide) (by decide) (by decide) (by decide)) (mk 6 (by decide) (by decide) (by decide) (by decide) (by decide)) (mk 7 (by decide) (by decide) (by decide) (by decide) (by decide))
  · exact hd.k (K _ (by omega) (by omega) (by omega) (by omega) (by omega) (by omega)) (K _ (by omega) (by omega) (by omega) (by omega) (by omega) (by omega)) (K _ (by omega) (by omega) (by omega) (by omega) (by omega) (by omega)) (mk 8 (by decide) (by decide) (by decide) (by decide) (by decide)) (mk 9 (by decide) (by decide) (by decide) (by decide) (by decide)) (mk 10 (by decide) (by decide) (by decide) (by decide) (by decide))
  · intro w' hw'
    rw [C7, C8, C9, C10, D11, D12, D13, D14]
    by_cases u : w' = w
    · subst u
      rw [upd_s, upd_s]
      refine ⟨k + 1, kl, ⟨rfl, rfl⟩, fun j hj => ?_⟩
      by_cases e : j = k
      · subst e
        rw [upd_s, upd_s, upd_s, upd_s, upd_s, upd_s]
        exact ⟨a, b, s, ⟨ha, hb, sl, sh⟩, ⟨rfl, rfl⟩, ⟨rfl, rfl⟩, ⟨rfl, rfl⟩⟩
      · rw [upd_n (show 40 + (8 * w' + j) ≠ 40 + (8 * w' + k) by omega), upd_n (show 8 * w' + j ≠ 8 * w' + k by omega), upd_n (show 40 + (8 * w' + j) ≠ 40 + (8 * w' + k) by omega), upd_n (show 8 * w' + j ≠ 8 * w' + k by omega), upd_n (show 40 + (8 * w' + j) ≠ 40 + (8 * w' + k) by omega), upd_n (show 8 * w' + j ≠ 8 * w' + k by omega)]
        exact b3 j (by omega)
    · rw [upd_n (show 5 + w' ≠ 5 + w by omega), upd_n u]
      obtain ⟨k', y1', y2', y3'⟩ := hw w' hw'
      refine ⟨k', y1', y2', fun j hj => ?_⟩
      rw [upd_n (show 40 + (8 * w' + j) ≠ 40 + (8 * w + k) by omega), upd_n (show 8 * w' + j ≠ 8 * w + k by omega), upd_n (show 40 + (8 * w' + j) ≠ 40 + (8 * w + k) by omega), upd_n (show 8 * w' + j ≠ 8 * w + k by omega), upd_n (show 40 + (8 * w' + j) ≠ 40 + (8 * w + k) by omega), upd_n (show 8 * w' + j ≠ 8 * w + k by omega)]
      exact y3' j hj
  · exact hc.k (K _ (by omega) (by omega) (by omega) (by omega) (by omega) (by omega)) (mk 15 (by decide) (by decide) (by decide) (by decide) (by decide))
  · exact hz.k (K _ (by omega) (by omega) (by omega) (by omega) (by omega) (by omega)) (mk 16 (by decide) (by decide) (by decide) (by decide) (by decide))
  · rw [e9, e8]; exact ((KG5.tr (KG.nu f7)).up (by omega)).up (by omega)
  · rw [m9, m8]; exact ((MG6.tr (MG.of q7 u7 TKs_in)).up (by decide) (by decide) (by unfold hfz; simp)).up (by decide) (by decide) (by unfold hfz; simp)
  · intro j hj
    rw [h97 38 (by omega) (by omega), g7 j hj, r5 38 (by decide), h4k 38 (by omega), h3k 38 (by omega), g2' j hj, s5 38 (by decide)]
