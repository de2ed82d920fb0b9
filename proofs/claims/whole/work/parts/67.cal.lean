/-! ===== parish: the calendar ===== -/
theorem calLine {g : Nat} {B : Nat → Nat} {L : Nat} {h t : ST} {kd st en nr nd nw nz : Nat} (p : PR g B L h t kd st en) (hf : HF g h t nr nd nw 0 nz) (k0 : kd ≠ 0) : LR g B L h t st [3, 4] (bnd (pw h 38 4 1) fun h2 => bnd (fX9_step h2) fun r4 => bnd (lp FU (fX4_readCalendar_23) (r4, 0)) fun x29 => sm x29 (fun v => some (0, v)) (fun w1 => sm w1 (fun v => some (v.2, v.1)) (fun v => some (0, v)))) (bnd (fX11_stepOn t) fun r55 => fX11_sayCalendar r55) := by
  have g2 := p.2.2.2.2
  have stl := p.2.1.2.2.2.2.2.2.1 k0
  have p' : PR g B L (up2 h 38 4 1) t kd st en := p.kept (up2_n (by decide)) (up2_n (by decide)) (up2_sn (by decide)) rfl rfl
  obtain ⟨h1, t1, kd1, st1, en1, s1, s2, s3, s4, s5, s6, s7⟩ := p'.step
  have KG1 : KG g h h1 := (KG.rf.up (by omega)).tr (KG.st s5)
  have MG1 : MG t t1 := MG.of s6 s7 TKs_in
  have S1 : Fs 38 [3, 4] h h1 := (Fs.rf.up (by simp)).tr (Fs.of s5 (by decide))
  have hf1 : HF g h1 t1 nr nd nw 0 nz := hf.kept (fun i x y => by rw [s5 i (by simp only [List.mem_cons, List.not_mem_nil, or_false]; omega), up2_n (by omega)]) (fun i x y => s6 i (by simp only [List.mem_cons, List.not_mem_nil, or_false]; omega))
  have t13 : t1 3 13 = t 3 13 := by rw [s6 3 (by decide)]
  have r10 : ∀ (x : ST), rd 14 (x 3) 10 = some (x 3 10) := fun x => rd_k (n := 14) (k := 10) (by decide)
  have w10 : ∀ (x : ST) v, wr 14 x 3 10 v = some (up2 x 3 10 v) := fun x v => wr_k (n := 14) (k := 10) (by decide)
  have r9 : ∀ (x : ST), rd 14 (x 3) 9 = some (x 3 9) := fun x => rd_k (n := 14) (k := 9) (by decide)
  obtain ⟨x, y, x1, y1, Q⟩ := lp2_cnt (b1 := fX4_readCalendar_23) (b2 := fX11_sayCalendar_2) (s := (h1, (0 : Int32))) (t := (t1, (1 : Int32)))
    (Q := fun x y => (∃ h' t' kd' st' en' nc, x = .inl h' ∧ y = .inr t' ∧ PR g B L h' t' kd' st' en' ∧ HF g h' t' nr nd nw nc nz ∧ KG g h h' ∧ MG t t' ∧ st1 ≤ st' ∧ Fs 38 [] h1 h' ∧ t' 3 13 = t 3 13) ∨ ∃ c h' t', x = .inr (.inl (h', c)) ∧ y = .inl t' ∧ BD h' t' c ∧ KG g h h' ∧ MG t t')
    (fun i s u => s.2 = nI i ∧ (u.2 = if i = 0 then 1 else 0) ∧ ∃ kd' st' en', PR g B L s.1 u.1 kd' st' en' ∧ HF g s.1 u.1 nr nd nw i nz ∧ KG g h s.1 ∧ MG t u.1 ∧ st1 ≤ st' ∧ Fs 38 [] h1 s.1 ∧ u.1 3 13 = t 3 13) 10 (by decide) (by
    rintro i ⟨s, j⟩ ⟨u, fl⟩ hi ⟨rfl, rfl, kd', st', en', P, H, K, Mg, sl, S, z13⟩
    dsimp only at P H K Mg S z13
    obtain ⟨⟨⟨n1, n2, n3, n4, n5⟩, ⟨a1, a2⟩, ⟨a3, a4⟩, ⟨a5, a6⟩, ⟨a7, a8⟩, a9, a10, ⟨a11, a12⟩⟩, hr, hd, hw, hc, hz⟩ := id H
    have rff : rf KC 395 1 (s 38 2) = some g := rf_f g2 P.2.2.2.1
    have q10 : ¬ 10 < nI i := nI_nlt (a := 10) (by omega) (by decide)
    have ne10 : ¬ nI i = 10 := fun z => by have := (nI_eq (a := i) (b := 10) (by omega) (by decide)).mp z; omega
    have kc : s 39 0 = nI kd' := P.2.1.2.2.2.1.1
    have km : u 0 22 = nI kd' := P.2.1.2.2.2.1.2
    have k7 := P.2.1.2.2.2.2.1.2.2
    have k2 : nI kd' = 2 ↔ kd' = 2 := nI_eq (b := 2) (by omega) (by decide)
    have kcT : kd' = 2 → s 39 0 = 2 := fun z => kc.trans (k2.mpr z)
    have kcF : ¬ kd' = 2 → ¬ s 39 0 = 2 := fun z w => z (k2.mp (kc.symm.trans w))
    have kmT : kd' = 2 → u 0 22 = 2 := fun z => km.trans (k2.mpr z)
    have kmF : ¬ kd' = 2 → ¬ u 0 22 = 2 := fun z w => z (k2.mp (km.symm.trans w))
    by_cases stop : i ≠ 0 ∧ kd' ≠ 2
    · refine Or.inr ⟨.inl s, .inr u, ?_, ?_, Or.inl ⟨s, u, kd', st', en', i, rfl, rfl, P, H, K, Mg, sl, S, z13⟩⟩
      · unfold fX4_readCalendar_23
        dsimp only
        rw [if_neg q10, if_neg (nI_nle (by omega) (by omega)), if_neg (kcF stop.2)]
      · unfold fX11_sayCalendar_2
        dsimp only
        rw [if_pos P.2.2.1, if_neg stop.1, if_pos rfl, if_neg (kmF stop.2)]
    have cls : ∀ Z, fX4_readCalendar_46 s (nI i) = Z → fX4_readCalendar_23 (s, nI i) = Z := fun Z e => by
      unfold fX4_readCalendar_23
      dsimp only
      rw [if_neg q10]
      by_cases c : i = 0
      · rw [if_pos (show nI i ≤ 0 by rw [c]; decide)]; exact e
      · have c2 : kd' = 2 := by
          refine Decidable.byContradiction (fun z => stop ⟨c, z⟩)
        rw [if_neg (nI_nle (by omega) (by omega)), if_pos (kcT c2)]; exact e
    have mdl : ∀ Z, fX11_sayCalendar_48 u 0 = Z → fX11_sayCalendar_2 (u, if i = 0 then 1 else 0) = Z := fun Z e => by
      have e21 : fX11_sayCalendar_21 u = Z := by
        unfold fX11_sayCalendar_21
        by_cases c2 : kd' = 2
        · rw [if_pos (kmT c2), r10, bnd_s, a7, if_neg ne10]; exact e
        · rw [if_neg (kmF c2)]; exact e
      unfold fX11_sayCalendar_2
      dsimp only
      rw [if_pos P.2.2.1]
      by_cases c : i = 0
      · rw [if_pos c, if_neg (show ¬ (1 : Int32) = 0 by decide)]; exact e21
      · have c2 : kd' = 2 := by
          refine Decidable.byContradiction (fun z => stop ⟨c, z⟩)
        rw [if_neg c, if_pos rfl, if_pos (kmT c2)]; exact e21
    rcases nowR P (lo := 0) (hi := 9999) (by decide) (by decide) with ⟨v, v0, v1, v2, v3, v4, v5⟩ | ⟨v, t', v00, v0, v1, v2, v3, -⟩ | ⟨c, t', v1, v2, v3, v4, v5, -⟩
    rotate_left
    · omega
    · have v3' : fX11_numberNow u 0 9999 = some (0, t') := v3
      have n26 : ¬ t' 0 26 = 0 := by rw [v2.2.1]; exact v2.1
      refine Or.inr ⟨.inr (.inl (s, c)), .inl t', cls _ ?_, mdl _ ?_, Or.inr ⟨c, s, t', rfl, rfl, v2, K, Mg.tr (MG.of v4 v5 W_in)⟩⟩
      · unfold fX4_readCalendar_46 fX4_readCalendar_63 fX4_readCalendar_97
        rw [v1, bnd_s, if_neg v2.1, if_neg v2.1, if_neg v2.1]
      · unfold fX11_sayCalendar_48 fX11_sayCalendar_85
        rw [v3', bnd_s]
        dsimp only
        rw [if_neg n26, if_neg n26]
    have v5' : fX11_numberNow u 0 9999 = some (nI v, u) := v5
    have k5 : nI v = 5 ↔ v = 5 := nI_eq (b := 5) (by omega) (by decide)
    by_cases good : v = 5 ∨ v < nw
    rotate_left
    · obtain ⟨t', w1, w2, w3, w4⟩ := wrongM P (c := 3) (by decide)
      have n26 : ¬ t' 0 26 = 0 := by rw [w2.2.1]; exact w2.1
      have g5 : ¬ v = 5 := fun z => good (Or.inl z)
      have gw : ¬ v < nw := fun z => good (Or.inr z)
      refine Or.inr ⟨.inr (.inl (s, 3)), .inl t', cls _ ?_, mdl _ ?_, Or.inr ⟨3, s, t', rfl, rfl, w2, K, Mg.tr (MG.of w3 w4 W_in)⟩⟩
      · unfold fX4_readCalendar_46 fX4_readCalendar_63 fX4_readCalendar_97
        rw [v3, bnd_s, if_pos rfl, if_neg ne10, if_pos rfl, v4, if_neg (fun z => g5 (k5.mp z)), rff, bnd_s, a6, if_neg (nI_nlt (by omega) (by omega)), if_neg (show ¬ (3 : Int32) = 0 by decide)]
      · unfold fX11_sayCalendar_48 fX11_sayCalendar_85
        rw [v5', bnd_s]
        dsimp only
        rw [if_pos P.2.2.1, if_neg (fun z => g5 (k5.mp z)), r9, bnd_s, a5, if_neg (nI_nlt (by omega) (by omega)), w1, bnd_s, if_neg n26]
    -- a good number
    obtain ⟨s2, e2⟩ : ∃ s2, s2 = up2 (up2 s (g + 11) i (nI v)) g 13 (nI (i + 1)) := ⟨_, rfl⟩
    have s2k : ∀ j, j ≠ g → j ≠ g + 11 → s2 j = s j := fun j a b => by rw [e2, up2_n a, up2_n b]
    have P2 : PR g B L s2 u kd' st' en' := P.kept (s2k 1 (by omega) (by omega)) (s2k 39 (by omega) (by omega)) (by rw [s2k 38 (by omega) (by omega)]) rfl rfl
    obtain ⟨h3, t3, kd3, st3, en3, r1, r2, r3, r4, r5, r6, r7⟩ := P2.step
    obtain ⟨t4, m4⟩ : ∃ t4, t4 = up2 (up2 t3 15 (10 + i) (nI v)) 3 10 (nI (i + 1)) := ⟨_, rfl⟩
    have t4k : ∀ j, j ≠ 3 → j ≠ 15 → t4 j = t3 j := fun j a b => by rw [m4, up2_n a, up2_n b]
    have t310 : t3 3 10 = nI i := by rw [r6 3 (by decide)]; exact a7
    have c97 : fX4_readCalendar_97 s (nI i) 0 = some (.inl (h3, nI (i + 1))) := by
      have k1 : up2 s (g + 11) i (nI v) 38 2 = s 38 2 := by rw [up2_n (by omega)]
      unfold fX4_readCalendar_97
      rw [if_pos rfl, rff, bnd_s, v4, wr_k (n := 10) (show i < 10 by omega), bnd_s, k1, rff, bnd_s, nI_1, pw_s, bnd_s, ← e2, r1, bnd_s]
    have m85 : fX11_sayCalendar_85 u 0 (nI v) = some (.inl (t4, 0)) := by
      have k1 : up2 t3 15 (10 + i) (nI v) 3 10 = nI i := by rw [up2_n (by decide)]; exact t310
      unfold fX11_sayCalendar_85
      rw [if_pos P.2.2.1, r2, bnd_s, r10, bnd_s, t310, show (10 : Int32) + nI i = nI (10 + i) from nI_add 10 i, wr_k (n := 20) (show 10 + i < 20 by omega), bnd_s, r10, bnd_s, k1, w10, bnd_s, nI_1, ← m4]
    have ck : ∀ j, j ≠ g → j ≠ g + 11 → j ≠ 39 → h3 j = s j := fun j a b c => by rw [r5 j (by simp only [List.mem_cons, List.not_mem_nil, or_false]; omega), s2k j a b]
    have cg : ∀ j, j ≠ 13 → h3 g j = s g j := fun j hj => by rw [r5 g (by simp only [List.mem_cons, List.not_mem_nil, or_false]; omega), e2, up2_sn hj, up2_n (by omega)]
    have mk : ∀ j, j ≠ 0 → j ≠ 3 → j ≠ 15 → t4 j = u j := fun j a b c => by rw [t4k j b c, r6 j (by simp only [List.mem_cons, List.not_mem_nil, or_false]; omega)]
    have m3j : ∀ j, j ≠ 10 → t4 3 j = u 3 j := fun j hj => by rw [m4, up2_sn hj, up2_n (by decide), r6 3 (by decide)]
    have H4 : HF g h3 t4 nr nd nw (i + 1) nz := by
      refine ⟨⟨⟨n1, n2, n3, by omega, n5⟩, ⟨(m3j 7 (by decide)).trans a1, (cg 0 (by decide)).trans a2⟩, ⟨(m3j 8 (by decide)).trans a3, (cg 5 (by decide)).trans a4⟩, ⟨(m3j 9 (by decide)).trans a5, (cg 8 (by decide)).trans a6⟩, ⟨by rw [m4, up2_ss], by rw [r5 g (by simp only [List.mem_cons, List.not_mem_nil, or_false]; omega), e2, up2_ss]⟩, by rw [m3j 11 (by decide), cg 15 (by decide)]; exact a9, by rw [m3j 12 (by decide), cg 16 (by decide)]; exact a10, ⟨(m3j 13 (by decide)).trans a11, by rw [ck _ (by omega) (by omega) (by omega)]; exact a12⟩⟩, ?_, ?_, ?_, ?_, ?_⟩
      · exact hr.k (ck _ (by omega) (by omega) (by omega)) (ck _ (by omega) (by omega) (by omega)) (ck _ (by omega) (by omega) (by omega)) (ck _ (by omega) (by omega) (by omega)) (mk 4 (by decide) (by decide) (by decide)) (mk 5 (by decide) (by decide) (by decide)) (mk 6 (by decide) (by decide) (by decide)) (mk 7 (by decide) (by decide) (by decide))
      · exact hd.k (ck _ (by omega) (by omega) (by omega)) (ck _ (by omega) (by omega) (by omega)) (ck _ (by omega) (by omega) (by omega)) (mk 8 (by decide) (by decide) (by decide)) (mk 9 (by decide) (by decide) (by decide)) (mk 10 (by decide) (by decide) (by decide))
      · exact hw.k (ck _ (by omega) (by omega) (by omega)) (ck _ (by omega) (by omega) (by omega)) (ck _ (by omega) (by omega) (by omega)) (ck _ (by omega) (by omega) (by omega)) (mk 11 (by decide) (by decide) (by decide)) (mk 12 (by decide) (by decide) (by decide)) (mk 13 (by decide) (by decide) (by decide)) (mk 14 (by decide) (by decide) (by decide))
      · intro j hj
        have c11 : h3 (g + 11) = upd (s (g + 11)) i (nI v) := by rw [r5 (g + 11) (by simp only [List.mem_cons, List.not_mem_nil, or_false]; omega), e2, up2_n (by omega), up2_s]
        have d15 : t4 15 = upd (u 15) (10 + i) (nI v) := by rw [m4, up2_n (by decide), up2_s, r6 15 (by decide)]
        rw [c11, d15]
        by_cases e : j = i
        · rw [e, upd_s, upd_s]; exact ⟨v, good, rfl, rfl⟩
        · rw [upd_n (show 10 + j ≠ 10 + i by omega), upd_n e]; exact hc j (by omega)
      · exact hz.k (ck _ (by omega) (by omega) (by omega)) (mk 16 (by decide) (by decide) (by decide))
    refine Or.inl ⟨(h3, nI (i + 1)), (t4, 0), cls _ ?_, mdl _ ?_, rfl, ?_, kd3, st3, en3, ?_, H4, ?_, ?_, ?_, ?_, ?_⟩
    · unfold fX4_readCalendar_46 fX4_readCalendar_63
      rw [v3, bnd_s, if_pos rfl, if_neg ne10, if_pos rfl, v4]
      rcases good with z | z
      · rw [if_pos (k5.mpr z)]; exact c97
      · by_cases z5 : v = 5
        · rw [if_pos (k5.mpr z5)]; exact c97
        · rw [if_neg (fun q => z5 (k5.mp q)), rff, bnd_s, a6, if_pos (nI_lt z (by omega))]; exact c97
    · unfold fX11_sayCalendar_48
      rw [v5', bnd_s]
      dsimp only
      rw [if_pos P.2.2.1]
      by_cases z5 : v = 5
      · rw [if_pos (k5.mpr z5)]; exact m85
      · have z := good.resolve_left z5
        rw [if_neg (fun q => z5 (k5.mp q)), r9, bnd_s, a5, if_pos (nI_lt z (by omega))]; exact m85
    · rw [if_neg (show ¬ i + 1 = 0 by omega)]
    · exact r3.kept rfl rfl rfl (t4k 0 (by decide) (by decide)) (t4k 18 (by decide) (by decide))
    · have : KG g h s2 := by rw [e2]; exact (K.up (by omega)).up (by omega)
      exact this.tr (KG.st r5)
    · rw [m4]; exact ((Mg.tr (MG.of r6 r7 TKs_in)).up (by decide) (by decide) (by unfold hfz; simp)).up (by decide) (by decide) (by decide)
    · have := P.2.1.2.2.2.2.1.1; omega
    · intro j hj
      dsimp only
      rw [ck 38 (by omega) (by omega) (by omega)]; exact S j hj
    · dsimp only
      rw [m3j 13 (by decide)]; exact z13) (by
    rintro ⟨s, j⟩ ⟨u, fl⟩ ⟨rfl, rfl, kd', st', en', P, H, K, Mg, sl, S, z13⟩
    dsimp only at P H K Mg S z13
    obtain ⟨⟨⟨n1, n2, n3, n4, n5⟩, ⟨a1, a2⟩, ⟨a3, a4⟩, ⟨a5, a6⟩, ⟨a7, a8⟩, a9, a10, ⟨a11, a12⟩⟩, hr, hd, hw, hc, hz⟩ := id H
    have kc : s 39 0 = nI kd' := P.2.1.2.2.2.1.1
    have km : u 0 22 = nI kd' := P.2.1.2.2.2.1.2
    have k7 := P.2.1.2.2.2.2.1.2.2
    have k2 : nI kd' = 2 ↔ kd' = 2 := nI_eq (b := 2) (by omega) (by decide)
    have kcT : kd' = 2 → s 39 0 = 2 := fun z => kc.trans (k2.mpr z)
    have kcF : ¬ kd' = 2 → ¬ s 39 0 = 2 := fun z w => z (k2.mp (kc.symm.trans w))
    have kmT : kd' = 2 → u 0 22 = 2 := fun z => km.trans (k2.mpr z)
    have kmF : ¬ kd' = 2 → ¬ u 0 22 = 2 := fun z w => z (k2.mp (km.symm.trans w))
    by_cases c2 : kd' = 2
    · obtain ⟨t', w1, w2, w3, w4⟩ := wrongM P (c := 2) (by decide)
      have n26 : ¬ t' 0 26 = 0 := by rw [w2.2.1]; exact w2.1
      refine ⟨.inr (.inl (s, 2)), .inl t', ?_, ?_, Or.inr ⟨2, s, t', rfl, rfl, w2, K, Mg.tr (MG.of w3 w4 W_in)⟩⟩
      · unfold fX4_readCalendar_23
        dsimp only
        rw [if_neg (show ¬ 10 < nI 10 by decide), if_neg (show ¬ nI 10 ≤ 0 by decide), if_pos (kcT c2)]
        unfold fX4_readCalendar_46 fX4_readCalendar_63 fX4_readCalendar_97
        rcases nowR P (lo := 0) (hi := 9999) (by decide) (by decide) with ⟨v, v0, v1, v2, v3, v4, v5⟩ | ⟨v, t', v00, v0, v1, v2, v3, -⟩ | ⟨c, t', v1, v2, v3, v4, v5, v6⟩
        · rw [v3, bnd_s, if_pos rfl, if_pos (show nI 10 = 10 from rfl), if_neg (show ¬ (2 : Int32) = 0 by decide), if_neg (show ¬ (2 : Int32) = 0 by decide)]
        · omega
        · have e : c = 2 := by
            rcases v6 with ⟨-, z⟩ | ⟨z, -⟩
            · exact z
            · exact absurd c2 z
          rw [v1, e, bnd_s, if_neg (show ¬ (2 : Int32) = 0 by decide), if_neg (show ¬ (2 : Int32) = 0 by decide), if_neg (show ¬ (2 : Int32) = 0 by decide)]
      · unfold fX11_sayCalendar_2 fX11_sayCalendar_21
        dsimp only
        rw [if_pos P.2.2.1, if_neg (show ¬ (10 : Nat) = 0 by decide), if_pos rfl, if_pos (kmT c2), if_pos (kmT c2), r10, bnd_s, a7, if_pos (show nI 10 = 10 from rfl), w1, bnd_s]
        unfold fX11_sayCalendar_48 fX11_sayCalendar_85
        rw [show fX11_numberNow t' 0 9999 = some (0, t') from (numW n26 _ _).1, bnd_s]
        dsimp only
        rw [if_neg n26, if_neg n26]
    · refine ⟨.inl s, .inr u, ?_, ?_, Or.inl ⟨s, u, kd', st', en', 10, rfl, rfl, P, H, K, Mg, sl, S, z13⟩⟩
      · unfold fX4_readCalendar_23
        dsimp only
        rw [if_neg (show ¬ 10 < nI 10 by decide), if_neg (show ¬ nI 10 ≤ 0 by decide), if_neg (kcF c2)]
      · unfold fX11_sayCalendar_2
        dsimp only
        rw [if_pos P.2.2.1, if_neg (show ¬ (10 : Nat) = 0 by decide), if_pos rfl, if_neg (kmF c2)]) ⟨rfl, rfl, kd1, st1, en1, s3, hf1, KG1, MG1, Nat.le_refl _, Fs.rf, t13⟩
  have sc : fX11_sayCalendar t1 = sm y (fun v => some v) (fun v => some v) := by
    unfold fX11_sayCalendar fX11_sayCalendar_127
    rw [y1, bnd_s]
  rcases Q with ⟨h', t', kd', st', en', nc, rfl, rfl, P, H, K, Mg, sl, S, z13⟩ | ⟨c, h', t', rfl, rfl, bd, K, Mg⟩
  · refine Or.inl ⟨h', t', kd', st', en', nr, nd, nw, nc, nz, ?_, ?_, P, H, K, Mg, by omega, S1.tr (S.sub (fun i hi => absurd hi (List.not_mem_nil))), Or.inr z13, Or.inl (by simp), fun k hk n3 => ?_⟩
    · rw [pw_s, bnd_s, s1, bnd_s, x1, bnd_s]; rfl
    · rw [s2, bnd_s, sc]; rfl
    · have e : k = 4 := by simp only [List.mem_cons, List.not_mem_nil, or_false] at hk; exact hk.resolve_left n3
      rw [e, S 4 List.not_mem_nil, s5 38 (by decide), up2_ss]
  · refine Or.inr ⟨c, h', t', ?_, ?_, bd, K, Mg⟩
    · rw [pw_s, bnd_s, s1, bnd_s, x1, bnd_s]; rfl
    · rw [s2, bnd_s, sc]; rfl
