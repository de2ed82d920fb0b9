/-! ===== parish: nots and tests ===== -/
theorem notsW {R : ST → Int32 → Option ST} {t : ST} (h : ¬ t 0 26 = 0) {n : Nat} (hn : n ≤ 100) : fX11_readNot_94 R t (nI n) = some t := by
  have e : lp FU (fX11_readNot_96 R (nI n)) (t, 0) = some t := by
    refine lp_det (b := fX11_readNot_96 R (nI n)) (fun i => (t, nI i)) n (by omega) (fun i hi => ?_) ?_
    · unfold fX11_readNot_96
      dsimp only
      rw [if_neg (nI_ge hi (show n < 2 ^ 31 by omega)), layW h, bnd_s, nI_1]
    · unfold fX11_readNot_96
      dsimp only
      rw [if_pos (Int32.le_refl _)]
  unfold fX11_readNot_94
  rw [e, bnd_s]
theorem notsLay {R : ST → Int32 → Option ST} {g : Nat} {B : Nat → Nat} {L : Nat} {h t : ST} {kd st en nc nc0 D i : Nat} {T : List Int32} (p : PR g B L h t kd st en) (cr : CodeR g h t T nc) (hi6 : i ≤ 6) (hn : nc + T.length + i ≤ 700) (h0 : nc0 ≤ nc + T.length) (sg0 : Seg (t 16) nc0 (nc + T.length) D) :
    ∃ r, fX11_readNot_94 R t (nI i) = some r ∧ PR g B L h r kd st en ∧ CodeR g h r (T ++ List.replicate i (-13)) nc ∧ Seg (r 16) nc0 (nc + (T ++ List.replicate i (-13)).length) D ∧ EFr g h t h r (nc + T.length) := by
  have ln : ∀ j, (T ++ List.replicate j (-13 : Int32)).length = T.length + j := fun j => by rw [List.length_append, List.length_replicate]
  obtain ⟨r, r1, r2⟩ : ∃ r, lp FU (fX11_readNot_96 R (nI i)) (t, 0) = some r ∧ PR g B L h r kd st en ∧ CodeR g h r (T ++ List.replicate i (-13)) nc ∧ Seg (r 16) nc0 (nc + (T ++ List.replicate i (-13)).length) D ∧ EFr g h t h r (nc + T.length) := by
    refine lp_cnt (b := fX11_readNot_96 R (nI i)) (fun j s => s.2 = nI j ∧ PR g B L h s.1 kd st en ∧ CodeR g h s.1 (T ++ List.replicate j (-13)) nc ∧ Seg (s.1 16) nc0 (nc + (T ++ List.replicate j (-13)).length) D ∧ EFr g h t h s.1 (nc + T.length)) i (by omega) ?_ ?_ ⟨rfl, p, by simpa using cr, by simpa using sg0, EFr.rf⟩
    · rintro j ⟨s, q⟩ hj ⟨rfl, P, C, Sg, E⟩
      dsimp only at P C Sg E
      rw [ln] at Sg
      have c2 : s 3 13 = nI (nc + (T.length + j)) := by have := C.2.1; rw [ln] at this; exact this
      have lay := layM (t := s) P.2.2.1 c2 (by omega) (-28)
      obtain ⟨s2, m2⟩ : ∃ s2, s2 = up2 (up2 s 16 (700 + (nc + (T.length + j))) (-28)) 3 13 (nI (nc + (T.length + j) + 1)) := ⟨_, rfl⟩
      rw [← m2] at lay
      have k16 : s2 16 = upd (s 16) (700 + (nc + (T.length + j))) (-28) := by rw [m2, up2_n (by decide), up2_s]
      refine Or.inl ⟨(s2, nI (j + 1)), ?_, rfl, P.kept rfl rfl rfl (by dsimp only; rw [m2, up2_n (by decide), up2_n (by decide)]) (by dsimp only; rw [m2, up2_n (by decide), up2_n (by decide)]), ⟨C.1, ?_, fun a ha => ?_, fun a ha => ?_⟩, ?_, ?_⟩
      · unfold fX11_readNot_96
        dsimp only
        rw [if_neg (nI_ge hj (show i < 2 ^ 31 by omega)), lay, bnd_s, nI_1]
      · dsimp only
        rw [ln, m2, up2_ss]; rfl
      · dsimp only
        rw [k16, upd_n (by omega)]; exact C.2.2.1 a ha
      · rw [ln] at ha
        dsimp only
        rw [k16, List.replicate_succ', ← List.append_assoc]
        by_cases e : a = T.length + j
        · rw [e, upd_s, List.getD_eq_getElem?_getD, List.getElem?_append_right (by rw [ln]; exact Nat.le_refl _), ln, Nat.sub_self]; decide
        · rw [upd_n (by omega), List.getD_eq_getElem?_getD, List.getElem?_append_left (by rw [ln]; omega), ← List.getD_eq_getElem?_getD]
          exact C.2.2.2 a (by rw [ln]; omega)
      · dsimp only
        rw [ln]
        have a1 : Seg (s2 16) nc0 (nc + (T.length + j)) D := Sg.cong (fun b _ hb => by rw [k16, upd_n (by omega)])
        exact a1.one (by omega) (by rw [k16, upd_s])
      · dsimp only
        refine E.tr (m := nc + T.length) ?_ (Nat.le_refl _)
        refine ⟨?_, fun b hb => by rw [k16, upd_n (by omega)], fun b _ _ _ _ _ => rfl, Fs.rf, fun b x y z => by rw [m2, up2_n y, up2_n z], ?_⟩
        · rw [m2]; exact (MG.rf.up (by decide) (by decide) (by unfold hfz; simp)).up (by decide) (by decide) (by unfold hfz; simp)
        · rw [m2]; exact (Fs.rf.un (by decide)).up (by decide)
    · rintro ⟨s, q⟩ ⟨rfl, P⟩
      refine ⟨s, ?_, P⟩
      unfold fX11_readNot_96
      dsimp only
      rw [if_pos (Int32.le_refl _)]
  exact ⟨r, by unfold fX11_readNot_94; rw [r1, bnd_s], r2⟩
theorem notsR {R : ST → Int32 → Option ST} {g : Nat} {B : Nat → Nat} {L d : Nat} (d5 : d ≤ 5) {h t : ST} {kd st en nc l : Nat} {S : List Int32} (x : XI g B L h t kd st en S d nc l) (hS : S.length ≤ 12 * d + 2) (h5 : h 40 5 = 1) (h3 : h 40 3 = 0) (a : Int32) :
    ∃ r, lp FU (fX11_readNot_2 R a) (t, 0) = some r ∧ ((∃ i h1 kd1 st1 en1, i ≤ 6 ∧ r.2 = nI i ∧ XI g B L h1 r.1 kd1 st1 en1 (List.replicate i (-13) ++ S) d nc (l + i) ∧ h1 40 5 = 1 ∧ (decide (kd1 = 1) && wq B 11 st1 en1) = false ∧ stp fX6_read_21 i (h, nI l) (h1, nI (l + i)) ∧ st + i ≤ st1 ∧ EFr g h t h1 r.1 nc) ∨ (BDX g h t l (some r.1) ∧ r.2 = nI 7)) := by
  refine lp_cnt (b := fX11_readNot_2 R a) (fun i s => (i ≤ 6 ∧ s.2 = nI i ∧ ∃ h1 kd1 st1 en1, XI g B L h1 s.1 kd1 st1 en1 (List.replicate i (-13) ++ S) d nc (l + i) ∧ h1 40 5 = 1 ∧ h1 40 3 = nI i ∧ stp fX6_read_21 i (h, nI l) (h1, nI (l + i)) ∧ st + i ≤ st1 ∧ EFr g h t h1 s.1 nc) ∨ (BDX g h t l (some s.1) ∧ s.2 = nI 7)) 7 (by decide) ?_ ?_ (Or.inl ⟨by decide, rfl, h, kd, st, en, x, h5, h3, rfl, Nat.le_refl _, EFr.rf⟩)
  · rintro i ⟨s, q⟩ hi (⟨i6, rfl, h1, kd1, st1, en1, X, e5, e3, sp, sl, E⟩ | ⟨bd, e7⟩)
    rotate_left
    · right
      obtain ⟨h2, m, c, h', t', e1, e2, e3, e4, e5, e6⟩ := id bd
      have es : s = t' := Option.some.inj e1
      refine ⟨(s, q), ?_, Or.inr ⟨bd, e7⟩⟩
      unfold fX11_readNot_2
      dsimp only
      rw [wordW (by rw [es, e5.2.1]; exact e5.1), bnd_s, if_pos rfl]
    dsimp only at X E
    obtain ⟨p, w, cr, hd, h4, n1, n2, cs⟩ := id X
    have L7 := p.1.1
    have stL : st1 ≤ L := Nat.le_trans p.2.1.2.2.2.2.1.1 p.2.1.2.2.2.2.1.2.1
    have wm := wordM p.1 p.2.1 p.2.2.1 (k := 11) (by decide)
    cases b : (decide (kd1 = 1) && wq B 11 st1 en1)
    · right
      refine ⟨(s, nI i), ?_, Or.inl ⟨i, h1, kd1, st1, en1, i6, rfl, X, e5, b, sp, sl, E⟩⟩
      unfold fX11_readNot_2
      dsimp only
      rw [wm, b, bnd_s, if_pos (show bz false = 0 from rfl)]
    have kd1' : kd1 = 1 := by rw [Bool.and_eq_true, decide_eq_true_eq] at b; exact b.1
    have sten := p.2.1.2.2.2.2.2.2.1 (by omega)
    have kc : h1 39 0 = nI kd1 := p.2.1.2.2.2.1.1
    have c40 : sq B kd1 st1 40 = false := by unfold sq; rw [kd1']; rfl
    have s40 : fX9_isSign h1 40 = some 0 := (signC p.1 p.2.1 (v := 40) (by decide)).trans (by rw [c40]; rfl)
    obtain ⟨y, ey⟩ : ∃ y, y = up2 h1 40 3 (nI (i + 1)) := ⟨_, rfl⟩
    have y3 : y 40 3 = nI (i + 1) := by rw [ey, up2_ss]
    have yk : ∀ j, j ≠ 40 → y j = h1 j := fun j hj => by rw [ey, up2_n hj]
    have yj : ∀ j, j ≠ 3 → y 40 j = h1 40 j := fun j hj => by rw [ey, up2_sn hj]
    have rp : fX6_readPart h1 = (if y 40 3 ≤ 6 then bnd (fX6_hold y (-13)) fun r28 => fX6_readPart_121 r28.2 r28.1 else fX6_readPart_121 y 2) := by
      unfold fX6_readPart fX6_readPart_38
      rw [s40, bnd_s, if_pos rfl, kc, kd1', if_pos (show nI 1 = 1 from rfl), if_pos (show h1 40 2 < 6 by rw [hd]; exact nI_lt (b := 6) (by omega) (by decide)), if_pos rfl, if_neg (show ¬ h1 40 5 = 0 by rw [e5]; decide), wordC p.1 p.2.1 (k := 11) (by decide), b, bnd_s, if_neg (show ¬ bz true = 0 by decide), e3, nI_1, pw_s, bnd_s, ← ey]
    by_cases c6 : i = 6
    · left
      obtain ⟨t', w1, w2, w3, w4⟩ := wrongM p (c := 2) (by decide)
      have n26 : ¬ t' 0 26 = 0 := by rw [w2.2.1]; exact w2.1
      refine ⟨(t', nI 7), ?_, Or.inr ⟨⟨h1, i, 2, y, t', rfl, sp, by omega, ?_, w2.kept (yk 39 (by decide)) rfl, ?_, E.1.tr (MG.of w3 w4 W_in)⟩, rfl⟩⟩
      · unfold fX11_readNot_2 fX11_readNot_23
        dsimp only
        rw [wm, b, bnd_s, if_neg (show ¬ bz true = 0 by decide), c6, if_pos (show nI 6 = 6 from rfl), w1, bnd_s, if_neg n26, nI_1]
      · have : fX6_readPart h1 = some (2, y) := by
          rw [rp, y3, c6, if_neg (show ¬ nI (6 + 1) ≤ 6 by decide)]; rfl
        rw [readHead h4 (by omega) this]
        exact read79n (by decide)
      · rw [ey]; exact E.kg.up (by omega)
    · left
      have wy : WTs g y (List.replicate i (-13) ++ S) := ⟨by rw [yj 7 (by decide)]; exact w.1, by rw [yj 1 (by decide)]; exact w.2.1, by rw [yk 41 (by decide)]; exact w.2.2⟩
      have l80 : (List.replicate i (-13 : Int32) ++ S).length < 80 := by rw [List.length_append, List.length_replicate]; omega
      obtain ⟨v, v1, v2, v3, v4⟩ := holdC wy l80 (-13)
      have rp' : fX6_readPart h1 = some (0, v) := by
        rw [rp, y3, if_pos (show nI (i + 1) ≤ 6 from nI_le (b := 6) (by omega) (by decide)), v1, bnd_s]; rfl
      have vk : ∀ j, j ≠ 40 → j ≠ 41 → v j = h1 j := fun j a b => by rw [v3 j (by simp only [List.mem_cons, List.not_mem_nil, or_false]; omega), yk j a]
      have vj : ∀ j, j ≠ 1 → v 40 j = y 40 j := fun j hj => v4 j (by simp only [List.mem_cons, List.not_mem_nil, or_false]; exact hj)
      have pv : PR g B L v s kd1 st1 en1 := p.kept (vk 1 (by decide) (by decide)) (vk 39 (by decide) (by decide)) (by rw [vk 38 (by decide) (by decide)]) rfl rfl
      obtain ⟨h6, t6, kd6, st6, en6, b1, b2, b3, b4, b5, b6, b7⟩ := pv.step
      have hg : g = 2 ∨ g = 20 := p.2.2.2.2
      refine ⟨(t6, nI (i + 1)), ?_, Or.inl ⟨by omega, rfl, h6, kd6, st6, en6, ⟨b3, ⟨?_, ?_, ?_⟩, ⟨?_, ?_, fun a ha => ?_, fun j hj => absurd hj (Nat.not_lt_zero j)⟩, ?_, ?_, by omega, by omega, ?_⟩, ?_, ?_, stp_tr sp (stp_1 ?_), by omega, ?_⟩⟩
      · unfold fX11_readNot_2 fX11_readNot_23
        dsimp only
        rw [wm, b, bnd_s, if_neg (show ¬ bz true = 0 by decide), if_neg (show ¬ nI i = 6 from fun z => c6 ((nI_eq (a := i) (b := 6) (by omega) (by decide)).mp z)), if_pos p.2.2.1, b2, bnd_s, nI_1]
      · rw [b5 40 (by decide)]; exact v2.1
      · rw [b5 40 (by decide)]; exact v2.2.1
      · rw [b5 41 (by decide)]; exact v2.2.2
      · rw [b5 (g + 12) (by simp only [List.mem_cons, List.not_mem_nil, or_false]; omega), vk _ (by omega) (by omega)]; exact cr.1
      · dsimp only; rw [b6 3 (by decide)]; exact cr.2.1
      · dsimp only; rw [b5 (g + 14) (by simp only [List.mem_cons, List.not_mem_nil, or_false]; omega), vk _ (by omega) (by omega), b6 16 (by decide)]; exact cr.2.2.1 a ha
      · rw [b5 40 (by decide), vj 2 (by decide), yj 2 (by decide)]; exact hd
      · rw [b5 40 (by decide), vj 4 (by decide), yj 4 (by decide)]; exact h4
      · unfold CS
        dsimp only
        rw [b6 1 (by decide), b6 2 (by decide)]; exact cs
      · rw [b5 40 (by decide), vj 5 (by decide), yj 5 (by decide)]; exact e5
      · rw [b5 40 (by decide), vj 3 (by decide)]; exact y3
      · rw [readHead h4 (by omega) rp']
        exact read79 b1
      · refine E.tr (m := nc) ?_ (Nat.le_refl _)
        exact ⟨MG.of b6 b7 TKs_in, fun j _ => by dsimp only; rw [b6 16 (by decide)], fun j q1 q2 q3 _ _ => by rw [b5 j (by simp only [List.mem_cons, List.not_mem_nil, or_false]; omega), vk j q2 q3], fun j _ => by rw [b5 (g + 12) (by simp only [List.mem_cons, List.not_mem_nil, or_false]; omega), vk _ (by omega) (by omega)], fun j q1 _ _ => by dsimp only; rw [b6 j (by simp only [List.mem_cons, List.not_mem_nil, or_false]; omega)], fun j _ => by dsimp only; rw [b6 3 (by decide)]⟩
  · rintro ⟨s, q⟩ (⟨i6, -⟩ | ⟨bd, e7⟩)
    · omega
    · obtain ⟨h2, m, c, h', t', e1, e2, e3, e4, e5, e6⟩ := id bd
      have es : s = t' := Option.some.inj e1
      refine ⟨(s, q), ?_, Or.inr ⟨bd, e7⟩⟩
      unfold fX11_readNot_2
      dsimp only
      rw [wordW (by rw [es, e5.2.1]; exact e5.1), bnd_s, if_pos rfl]
