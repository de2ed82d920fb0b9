/-! ===== parish: a part of a rule ===== -/
theorem readHead {h : ST} {l : Nat} (h4 : h 40 4 = 1) (hl : l ≤ 700) {c : Int32} {h' : ST} (e : fX6_readPart h = some (c, h')) : fX6_read_21 (h, nI l) = fX6_read_79 h' (nI l) c := by
  have n1 : ¬ h 40 4 = 0 := by rw [h4]; decide
  unfold fX6_read_21 fX6_read_61
  dsimp only
  rw [if_neg (show ¬ 700 < nI l from nI_nlt (a := 700) hl (by decide)), if_neg n1, if_neg n1, e, bnd_s]
theorem read79 {h h' : ST} {l : Nat} (e : fX9_step h = some h') : fX6_read_79 h (nI l) 0 = some (.inl (h', nI (l + 1))) := by
  unfold fX6_read_79
  rw [if_pos rfl, e, bnd_s, nI_1]
theorem read79n {h : ST} {l : Nat} {c : Int32} (hc : ¬ c = 0) : fX6_read_79 h (nI l) c = some (.inr (.inr (.inl (h, c)))) := by
  unfold fX6_read_79
  rw [if_neg hc]
theorem cmap_i {x : Int32} (h : ¬ x ≤ -20) : cmap x = x := cmap_pos h
theorem leafX {g : Nat} {B : Nat → Nat} {L : Nat} {h t h3 t4 : ST} {kd st en d nc l kd' st' en' D : Nat} {S : List Int32} (x : XI g B L h t kd st en S d nc l) (k0 : st < en) (hD : 1 ≤ D) {v : Int32} (hv1 : ¬ v ≤ -20) (hv2 : ¬ v < 0 ∨ -6 ≤ v)
    (hP : fX6_readPart h = some (0, up2 (up2 (up2 h 40 4 0) (g + 14) nc v) (g + 12) 1 (nI (nc + 1)))) (hst : fX9_step (up2 (up2 (up2 h 40 4 0) (g + 14) nc v) (g + 12) 1 (nI (nc + 1))) = some h3) (f : Fr [39] (up2 (up2 (up2 h 40 4 0) (g + 14) nc v) (g + 12) 1 (nI (nc + 1))) h3)
    (P : PR g B L h3 t4 kd' st' en') (le : en ≤ st') (m16 : t4 16 = upd (t 16) (700 + nc) v) (m3 : t4 3 = upd (t 3) 13 (nI (nc + 1))) (mo : ∀ i, i ≠ 0 → i ≠ 3 → i ≠ 16 → t4 i = t i) (ms : Fs 0 TKs t t4) :
    OKX g B L h t st S d nc l 7 D 0 (fun _ _ _ _ => True) (some t4) := by
  obtain ⟨p, ⟨w1, w2, w3⟩, ⟨cr1, cr2, cr3, -⟩, hd, h4, n1, n2, cs⟩ := x
  have g2 := p.2.2.2.2
  have L7 := p.1.1
  have eL := p.2.1.2.2.2.2.1.2.1
  have ck : ∀ i, i ≠ 39 → i ≠ 40 → i ≠ g + 12 → i ≠ g + 14 → h3 i = h i := fun i a b c d => by rw [f i (by simp only [List.mem_cons, List.not_mem_nil, or_false]; omega), up2_n c, up2_n d, up2_n b]
  have c40 : ∀ j, j ≠ 4 → h3 40 j = h 40 j := fun j hj => by rw [f 40 (by decide), up2_n (by omega), up2_n (by omega), up2_sn hj]
  refine ⟨h3, t4, kd', st', en', [], nc + 1, 1, rfl, stp_1 ?_, P, ⟨?_, ?_, ?_⟩, ⟨?_, ?_, fun i hi => ?_, fun j hj => absurd hj (Nat.not_lt_zero j)⟩, ⟨?_, ?_⟩, ⟨by omega, ?_, ?_, by omega, Nat.le_refl _⟩, fun y hy => (by cases hy), ?_, ⟨⟨fun i a b => ?_, fun k hk => ?_, fun i k a b c => ?_⟩, fun i hi => ?_, fun i a b c d e => ck i a b d e, fun j hj => ?_, mo, fun j hj => ?_⟩, trivial⟩
  · rw [readHead h4 (by omega) hP]
    exact read79 hst
  · rw [c40 7 (by decide)]; exact w1
  · rw [List.nil_append, c40 1 (by decide)]; exact w2
  · rw [List.nil_append, f 41 (by decide), up2_n (by omega), up2_n (by omega), up2_n (by decide)]; exact w3
  · rw [f (g + 12) (by simp only [List.mem_cons, List.not_mem_nil, or_false]; omega), up2_ss]
  · rw [m3, upd_s]; rfl
  · rw [f (g + 14) (by simp only [List.mem_cons, List.not_mem_nil, or_false]; omega), up2_n (by omega), up2_s, m16]
    by_cases e : i = nc
    · rw [e, upd_s, upd_s, cmap_i hv1]
    · rw [upd_n e, upd_n (by omega), up2_n (by omega)]; exact cr3 i (by omega)
  · rw [c40 2 (by decide)]; exact hd
  · rw [f 40 (by decide), up2_n (by omega), up2_n (by omega), up2_ss]
  · show nc + 1 + 0 + st ≤ nc + st'; omega
  · show nc < nc + 1 + 0; omega
  · exact (Seg.leaf (row := t4 16) (a := nc) (x := v) (by rw [m16, upd_s]) hv1 hv2).mono hD
  · exact mo i a (by omega) (by omega)
  · exact ms k (fun z => by have := TKs_in k z; omega)
  · by_cases e : i = 3
    · subst e
      have : k < 7 := c
      rw [m3, upd_n (by omega)]
    · by_cases e2 : i = 16
      · subst e2
        have : k < 700 := c
        rw [m16, upd_n (by omega)]
      · rw [mo i (by omega) e e2]
  · rw [m16, upd_n (by omega)]
  · have : j ≠ 1 := fun z => hj (by rw [z]; simp)
    rw [f (g + 12) (by simp only [List.mem_cons, List.not_mem_nil, or_false]; omega), up2_sn this, up2_n (by omega), up2_n (by omega)]
  · have : j ≠ 13 := fun z => hj (by rw [z]; simp)
    rw [m3, upd_n this]
theorem partX {R : ST → Int32 → Option ST} {g : Nat} {B : Nat → Nat} {L d : Nat} (hR : ExprC R g B L (d + 1)) (hW : ∀ t a, ¬ t 0 26 = 0 → R t a = some t) (d5 : d ≤ 5) {h t : ST} {kd st en nc l : Nat} {S : List Int32} (x : XI g B L h t kd st en S d nc l) (hS : S.length ≤ 12 * d + 11) (hn : h 40 5 = 0 ∨ (h 40 5 = 1 ∧ (decide (kd = 1) && wq B 11 st en) = false)) :
    OKX g B L h t st S d nc l 7 (26 - 5 * d) 0 (fun _ _ _ _ => True) (fX11_readPart R t (nI d)) ∨ BDX g h t l (fX11_readPart R t (nI d)) := by
  obtain ⟨p, w, cr, hd, h4, n1, n2, cs⟩ := id x
  obtain ⟨cr1, cr2, cr3, -⟩ := id cr
  have cr2 : t 3 13 = nI nc := cr2
  have g2 := p.2.2.2.2
  have L7 := p.1.1
  have stL : st ≤ L := Nat.le_trans p.2.1.2.2.2.2.1.1 p.2.1.2.2.2.2.1.2.1
  have k7 := p.2.1.2.2.2.2.1.2.2
  have enL : en ≤ L := p.2.1.2.2.2.2.1.2.1
  have kc : h 39 0 = nI kd := p.2.1.2.2.2.1.1
  have km : t 0 22 = nI kd := p.2.1.2.2.2.1.2
  have e1 : nI kd = 1 ↔ kd = 1 := nI_eq (b := 1) (by omega) (by decide)
  have e2 : nI kd = 2 ↔ kd = 2 := nI_eq (b := 2) (by omega) (by decide)
  have n01 : ¬ (1 : Int32) = 0 := by decide
  have s40 : fX9_isSign h 40 = some (bz (sq B kd st 40)) := signC p.1 p.2.1 (v := 40) (by decide)
  have dep : h 40 2 < 6 := by rw [hd]; exact nI_lt (b := 6) (by omega) (by decide)
  have e38 : kd = 1 ∨ kd = 2 → fX6_readPart h = fX6_readPart_122 h := fun k => by
    have c40 : sq B kd st 40 = false := by
      unfold sq
      rcases k with rfl | rfl <;> rfl
    have z38 : fX6_readPart_38 h 0 = fX6_readPart_122 h := by
      unfold fX6_readPart_38
      rw [if_pos dep, if_pos rfl]
      rcases hn with z | ⟨z, z2⟩
      · rw [if_pos z]
      · rw [if_neg (by rw [z]; decide), wordC p.1 p.2.1 (k := 11) (by decide), z2, bnd_s, if_pos (show bz false = 0 from rfl)]
    unfold fX6_readPart
    rw [s40, c40, bnd_s, if_pos (show bz false = 0 from rfl), kc]
    rcases k with k | k
    · rw [if_pos (e1.mpr k)]; exact z38
    · rw [if_neg (fun z => by have := e1.mp z; omega), if_pos (e2.mpr k)]; exact z38
  have q40 : up2 h 40 4 0 39 = h 39 := up2_n (by decide)
  have q7 : up2 h 40 4 0 40 7 = nI (g + 12) := by rw [up2_sn (by decide)]; exact w.1
  have qc : up2 h 40 4 0 (g + 12) 1 = nI nc := by rw [up2_n (by omega)]; exact cr1
  have p2 : ∀ v, PR g B L (up2 (up2 (up2 h 40 4 0) (g + 14) nc v) (g + 12) 1 (nI (nc + 1))) t kd st en := fun v => p.kept (by rw [up2_n (by omega), up2_n (by omega), up2_n (by decide)]) (by rw [up2_n (by omega), up2_n (by omega), up2_n (by decide)]) (by rw [up2_n (by omega), up2_n (by omega), up2_n (by decide)]) rfl rfl
  have KGp : ∀ v, KG g h (up2 (up2 (up2 h 40 4 0) (g + 14) nc v) (g + 12) 1 (nI (nc + 1))) := fun v => ((KG.rf.up (by omega)).up (by omega)).up (by omega)
  have e39 : ∀ v, up2 (up2 (up2 h 40 4 0) (g + 14) nc v) (g + 12) 1 (nI (nc + 1)) 39 = h 39 := fun v => by rw [up2_n (by omega), up2_n (by omega), up2_n (by decide)]
  have z0 : ∀ _ : ST, stp fX6_read_21 0 (h, nI l) (h, nI (l + 0)) := fun _ => rfl
  by_cases k2 : kd = 2
  · -- a number
    have sten := p.2.1.2.2.2.2.2.2.1 (by omega)
    rcases nowR p (lo := 0) (hi := 9999) (by decide) (by decide) with ⟨v, v0, v1, v2, v3, v4, v5⟩ | ⟨v, t', v00, v0, v1, v2, v3, -⟩ | ⟨c, t', v1, v2, v3, v4, v5, v6⟩
    · left
      have v5' : fX11_numberNow t 0 9999 = some (nI v, t) := v5
      have l3 : h 39 3 = 0 := by
        have := v3
        unfold fX4_lookAtNumber fX4_lookAtNumber_28 at this
        rw [kc, if_pos (e2.mpr k2)] at this
        by_cases z : h 39 3 = 0
        · exact z
        · rw [if_neg z] at this; cases this
      obtain ⟨h3, t3, kd', st', en', s1, s2, s3, s4, s5, s6, s7⟩ := (p2 (nI v)).step
      have t33 : t3 3 13 = nI nc := by rw [s6 3 (by decide)]; exact cr2
      have lay := layM (t := t3) s3.2.2.1 t33 (show nc < 700 by omega) (nI v)
      obtain ⟨t4, m4⟩ : ∃ t4, t4 = up2 (up2 t3 16 (700 + nc) (nI v)) 3 13 (nI (nc + 1)) := ⟨_, rfl⟩
      rw [← m4] at lay
      have Y : fX11_readPart R t (nI d) = some t4 := by
        unfold fX11_readPart
        rw [if_pos p.2.2.1, km, if_pos (e2.mpr k2)]
        unfold fX11_readNumber fX11_readNumber_18
        rw [v5', bnd_s]
        dsimp only
        rw [if_pos p.2.2.1, s2, bnd_s, bnd_s]
        dsimp only
        rw [lay, bnd_s]
      rw [Y]
      refine leafX (v := nI v) x sten (by omega) (fun z => ?_) (Or.inl (nI_pos (by omega))) ?_ s1 s5 (s3.kept rfl rfl rfl (by rw [m4, up2_n (by decide), up2_n (by decide)]) (by rw [m4, up2_n (by decide), up2_n (by decide)])) s4 ?_ ?_ (fun i a b c => ?_) ?_
      · rw [Int32.le_iff_toInt_le, nI_toInt (by omega)] at z
        have : (-20 : Int32).toInt = -20 := by decide
        omega
      · rw [e38 (Or.inr k2)]
        have r3 : ∀ y, up2 (up2 (up2 h 40 4 0) (g + 14) nc y) (g + 12) 1 (nI (nc + 1)) 39 3 = 0 := fun y => by rw [e39]; exact l3
        unfold fX6_readPart_122 fX6_readPart_167
        rw [pw_s, bnd_s, q40, kc, if_pos (e2.mpr k2), rf4 g2 q7, bnd_s, v4, putC qc (by omega), bnd_s, r3, if_pos rfl]
      · rw [m4, up2_n (by decide), up2_s, s6 16 (by decide)]
      · rw [m4, up2_s, up2_n (by decide), s6 3 (by decide)]
      · rw [m4, up2_n b, up2_n c, s6 i (by simp only [List.mem_cons, List.not_mem_nil, or_false]; omega)]
      · rw [m4]; exact (s7.un (by decide)).un (by decide)
    · omega
    · right
      have v3' : fX11_numberNow t 0 9999 = some (0, t') := v3
      have c2 : c = 2 := by
        rcases v6 with ⟨-, z⟩ | ⟨z, -⟩
        · exact z
        · exact absurd k2 z
      subst c2
      have n26 : ¬ t' 0 26 = 0 := by rw [v2.2.1]; exact v2.1
      have l3 : ¬ h 39 3 = 0 := by
        intro z
        have := v1
        unfold fX4_lookAtNumber fX4_lookAtNumber_28 at this
        rw [kc, if_pos (e2.mpr k2), if_pos z] at this
        exact absurd (Option.some.inj this) (by decide)
      refine ⟨h, 0, 2, up2 (up2 (up2 h 40 4 0) (g + 14) nc (h 39 2)) (g + 12) 1 (nI (nc + 1)), t', ?_, z0 h, by omega, ?_, v2.kept (e39 _) rfl, KGp _, MG.of v4 v5 W_in⟩
      · unfold fX11_readPart
        rw [if_pos p.2.2.1, km, if_pos (e2.mpr k2)]
        unfold fX11_readNumber fX11_readNumber_18
        rw [v3', bnd_s]
        dsimp only
        rw [if_neg n26, bnd_s]
        dsimp only
        rw [layW n26, bnd_s]
      · have r3 : ∀ y, ¬ up2 (up2 (up2 h 40 4 0) (g + 14) nc y) (g + 12) 1 (nI (nc + 1)) 39 3 = 0 := fun y => by rw [e39]; exact l3
        have rp : fX6_readPart h = some (2, up2 (up2 (up2 h 40 4 0) (g + 14) nc (h 39 2)) (g + 12) 1 (nI (nc + 1))) := by
          rw [e38 (Or.inr k2)]
          unfold fX6_readPart_122 fX6_readPart_167
          rw [pw_s, bnd_s, q40, kc, if_pos (e2.mpr k2), rf4 g2 q7, bnd_s, putC qc (by omega), bnd_s, if_neg (r3 _)]
        rw [Nat.add_zero, readHead h4 (by omega) rp]
        exact read79n (by decide)
  by_cases k1 : kd = 1
  · -- a word
    have sten := p.2.1.2.2.2.2.2.2.1 (by omega)
    have pq : PR g B L (up2 h 40 4 0) t kd st en := p.kept (up2_n (by decide)) (up2_n (by decide)) (by rw [up2_n (by decide)]) rfl rfl
    obtain ⟨vt, vf⟩ := valC pq
    have mdl : ∀ Z, (bnd (fX11_which t 2 6) fun r10 => if r10 = (-1) then bnd (fX11_wrong t 3) fun r18 => fX11_readPart_56 R r18 r10 else fX11_readPart_56 R t r10) = Z → fX11_readPart R t (nI d) = Z := fun Z e => by
      unfold fX11_readPart
      rw [if_pos p.2.2.1, km, if_neg (fun z => k2 (e2.mp z)), if_pos (e1.mpr k1)]
      exact e
    have cls : ∀ v, fX6_valueAtHand (up2 h 40 4 0) = some v → fX6_readPart h = some (if v = 0 then 3 else 0, up2 (up2 (up2 h 40 4 0) (g + 14) nc v) (g + 12) 1 (nI (nc + 1))) := fun v e => by
      rw [e38 (Or.inl k1)]
      unfold fX6_readPart_122 fX6_readPart_190
      rw [pw_s, bnd_s, q40, kc, if_neg (fun z => k2 (e2.mp z)), e, bnd_s, rf4 g2 q7, bnd_s, putC qc (by omega), bnd_s]
      by_cases z : v = 0
      · rw [if_pos z, if_pos z]
      · rw [if_neg z, if_neg z]
    rcases whichM p (o := 2) (n := 6) (c := 12) cs.2 (by decide) with ⟨i, hi, b, wh⟩ | ⟨b, wh⟩
    · left
      have v := vt i hi b
      have i6 : i = 0 ∨ i = 1 ∨ i = 2 ∨ i = 3 ∨ i = 4 ∨ i = 5 := by omega
      have vi : ¬ (-1) - nI i = 0 ∧ ¬ (-1) - nI i ≤ -20 ∧ -6 ≤ (-1) - nI i ∧ ¬ nI i = -1 := by
        rcases i6 with rfl | rfl | rfl | rfl | rfl | rfl <;> decide
      have lay := layM (t := t) p.2.2.1 cr2 (show nc < 700 by omega) ((-1) - nI i)
      obtain ⟨t2, m2⟩ : ∃ t2, t2 = up2 (up2 t 16 (700 + nc) ((-1) - nI i)) 3 13 (nI (nc + 1)) := ⟨_, rfl⟩
      rw [← m2] at lay
      have pp : PR g B L (up2 (up2 (up2 h 40 4 0) (g + 14) nc ((-1) - nI i)) (g + 12) 1 (nI (nc + 1))) t2 kd st en := (p2 _).kept rfl rfl rfl (by rw [m2, up2_n (by decide), up2_n (by decide)]) (by rw [m2, up2_n (by decide), up2_n (by decide)])
      obtain ⟨h3, t4, kd', st', en', s1, s2, s3, s4, s5, s6, s7⟩ := pp.step
      have Y : fX11_readPart R t (nI d) = some t4 := by
        refine mdl _ ?_
        unfold fX11_readPart_56 fX11_readPart_74
        rw [wh, bnd_s, if_neg vi.2.2.2, lay, bnd_s, if_pos pp.2.2.1, s2, bnd_s]
      rw [Y]
      have cl := cls _ v
      rw [if_neg vi.1] at cl
      refine leafX (v := (-1) - nI i) x sten (by omega) vi.2.1 (Or.inr vi.2.2.1) cl s1 s5 s3 s4 ?_ ?_ (fun j a b c => ?_) ?_
      · rw [s6 16 (by decide), m2, up2_n (by decide), up2_s]
      · rw [s6 3 (by decide), m2, up2_s, up2_n (by decide)]
      · rw [s6 j (by simp only [List.mem_cons, List.not_mem_nil, or_false]; omega), m2, up2_n b, up2_n c]
      · have : Fs 0 TKs t t2 := by rw [m2]; exact (Fs.rf.un (by decide)).un (by decide)
        exact this.tr s7
    · right
      obtain ⟨t', y1, y2, y3, y4⟩ := wrongM p (c := 3) (by decide)
      have n26 : ¬ t' 0 26 = 0 := by rw [y2.2.1]; exact y2.1
      have cl := cls 0 (vf b)
      rw [if_pos rfl] at cl
      refine ⟨h, 0, 3, _, t', mdl _ ?_, z0 h, by omega, ?_, y2.kept (e39 0) rfl, KGp 0, MG.of y3 y4 W_in⟩
      · unfold fX11_readPart_56 fX11_readPart_74
        rw [wh, bnd_s, if_pos rfl, y1, bnd_s, layW n26, bnd_s, if_neg n26]
      · rw [Nat.add_zero, readHead h4 (by omega) cl]
        exact read79n (by decide)
  have mdl : ∀ Z, (bnd (fX11_mark t 40) fun r4 => bnd (R r4 (nI (d + 1))) fun r6 => bnd (fX11_mark r6 41) fun r8 => some r8) = Z → fX11_readPart R t (nI d) = Z := fun Z e => by
    unfold fX11_readPart
    rw [if_pos p.2.2.1, km, if_neg (fun z => k2 (e2.mp z)), if_neg (fun z => k1 (e1.mp z)), nI_1]
    exact e
  cases c40 : sq B kd st 40
  · -- nothing that can stand there
    right
    obtain ⟨t', y1, y2, y3, y4⟩ := markN p (v := 40) (by decide) c40
    have y1' : fX11_mark t 40 = some t' := y1
    have n26 : ¬ t' 0 26 = 0 := by rw [y2.2.1]; exact y2.1
    refine ⟨h, 0, 1, h, t', mdl _ ?_, z0 h, by omega, ?_, y2, KG.rf, MG.of y3 y4 W_in⟩
    · rw [y1', bnd_s, hW t' _ n26, bnd_s, show fX11_mark t' 41 = some t' from markW n26 _, bnd_s]
    · have rp : fX6_readPart h = some (1, h) := by
        unfold fX6_readPart
        rw [s40, c40, bnd_s, if_pos (show bz false = 0 from rfl), kc, if_neg (fun z => k1 (e1.mp z)), if_neg (fun z => k2 (e2.mp z))]
      rw [Nat.add_zero, readHead h4 (by omega) rp]
      exact read79n (by decide)
  -- a parenthesis
  have kd3 : kd = 3 := by
    unfold sq at c40
    rw [Bool.and_eq_true, decide_eq_true_eq] at c40
    exact c40.1
  have sten := p.2.1.2.2.2.2.2.2.1 (by omega)
  obtain ⟨h1, eh1⟩ : ∃ h1, h1 = up2 (up2 (up2 (up2 (up2 h 40 2 (nI (d + 1))) 40 4 1) 40 5 0) 40 5 1) 40 3 0 := ⟨_, rfl⟩
  have h1k : ∀ i, i ≠ 40 → h1 i = h i := fun i hi => by rw [eh1, up2_n hi, up2_n hi, up2_n hi, up2_n hi, up2_n hi]
  have h1j : ∀ j, j ≠ 2 → j ≠ 3 → j ≠ 4 → j ≠ 5 → h1 40 j = h 40 j := fun j a b c e => by rw [eh1, up2_sn b, up2_sn e, up2_sn e, up2_sn c, up2_sn a]
  have w1 : WTs g h1 S := ⟨by rw [h1j 7 (by decide) (by decide) (by decide) (by decide)]; exact w.1, by rw [h1j 1 (by decide) (by decide) (by decide) (by decide)]; exact w.2.1, by rw [h1k 41 (by decide)]; exact w.2.2⟩
  obtain ⟨h2, y1, y2, y3, y4⟩ := holdC w1 (by omega) 0
  have rp : fX6_readPart h = some (0, h2) := by
    unfold fX6_readPart fX6_readPart_38
    rw [s40, c40, bnd_s, if_neg (show ¬ bz true = 0 by decide), if_pos dep, if_neg (show ¬ bz true = 0 by decide), hd, nI_1, pw_s, bnd_s]
    unfold fX6_wantNot fX6_wantPart
    rw [pw_s, bnd_s, pw_s, bnd_s, bnd_s, pw_s, bnd_s, pw_s, bnd_s, bnd_s, ← eh1, y1, bnd_s]
  have h2k : ∀ i, i ≠ 40 → i ≠ 41 → h2 i = h i := fun i a b => by rw [y3 i (by simp only [List.mem_cons, List.not_mem_nil, or_false]; omega), h1k i a]
  have pp : PR g B L h2 t kd st en := p.kept (h2k 1 (by decide) (by decide)) (h2k 39 (by decide) (by decide)) (by rw [h2k 38 (by decide) (by decide)]) rfl rfl
  obtain ⟨h3, t3, kd', st', en', s1, s2, s3, s4, s5, s6, s7⟩ := pp.step
  have h3j : ∀ j, j ≠ 1 → h3 40 j = h1 40 j := fun j hj => by rw [s5 40 (by decide), y4 j (by simp only [List.mem_cons, List.not_mem_nil, or_false]; exact hj)]
  have h3k : ∀ i, i ≠ 39 → i ≠ 40 → i ≠ 41 → h3 i = h i := fun i a b c => by rw [s5 i (by simp only [List.mem_cons, List.not_mem_nil, or_false]; omega), h2k i b c]
  have st1 : stp fX6_read_21 1 (h, nI l) (h3, nI (l + 1)) := stp_1 (by rw [readHead h4 (by omega) rp]; exact read79 s1)
  have XI3 : XI g B L h3 t3 kd' st' en' (0 :: S) (d + 1) nc (l + 1) := by
    refine ⟨s3, ⟨?_, ?_, ?_⟩, ⟨?_, ?_, fun i hi => ?_, fun j hj => absurd hj (Nat.not_lt_zero j)⟩, ?_, ?_, by omega, by omega, ?_⟩
    · rw [s5 40 (by decide)]; exact y2.1
    · rw [s5 40 (by decide)]; exact y2.2.1
    · rw [s5 41 (by decide)]; exact y2.2.2
    · rw [h3k _ (by omega) (by omega) (by omega)]; exact cr1
    · rw [s6 3 (by decide)]; exact cr2
    · rw [h3k _ (by omega) (by omega) (by omega), s6 16 (by decide)]; exact cr3 i hi
    · rw [h3j 2 (by decide), eh1, up2_sn (by decide), up2_sn (by decide), up2_sn (by decide), up2_sn (by decide), up2_ss]
    · rw [h3j 4 (by decide), eh1, up2_sn (by decide), up2_sn (by decide), up2_sn (by decide), up2_ss]
    · unfold CS
      rw [s6 1 (by decide), s6 2 (by decide)]; exact cs
  have E3 : EFr g h t h3 t3 nc := ⟨MG.of s6 s7 TKs_in, fun i _ => by rw [s6 16 (by decide)], fun i a b c _ _ => h3k i a b c, fun j _ => by rw [h3k (g + 12) (by omega) (by omega) (by omega)], fun i a _ _ => s6 i (by simp only [List.mem_cons, List.not_mem_nil, or_false]; omega), fun j _ => by rw [s6 3 (by decide)]⟩
  have m40 : fX11_mark t 40 = some t3 := markY p (v := 40) (by decide) c40 s2
  rcases hR h3 t3 kd' st' en' (0 :: S) nc (l + 1) XI3 (by rw [h3j 5 (by decide), eh1, up2_sn (by decide), up2_ss]) (by rw [h3j 3 (by decide), eh1, up2_ss]) (by simp only [List.length_cons]; omega) (fun y u e => by injection e with e1 _; rw [← e1]; decide) with ok | bd
  rotate_left
  · right
    obtain ⟨a2, a3, a4, a5, a6, z1, z2, z3, z4, z5, z6, z7⟩ := bd.pre (t := t) st1 E3.kg E3.1
    have n26 : ¬ a6 0 26 = 0 := by rw [z5.2.1]; exact z5.1
    refine ⟨a2, a3, a4, a5, a6, mdl _ ?_, z2, z3, z4, z5, z6, z7⟩
    rw [m40, bnd_s, z1, bnd_s, show fX11_mark a6 41 = some a6 from markW n26 _, bnd_s]
  obtain ⟨h5, t5, kd5, st5, en5, T, nc5, m, o1, o2, o3, o4, o5, ⟨o6, o7⟩, ⟨o8, o9, o10, o11, o12⟩, o13, o14, o15, o16, o17⟩ := ok
  have st2 : stp fX6_read_21 (1 + m) (h, nI l) (h5, nI (l + (1 + m))) := by rw [← Nat.add_assoc]; exact stp_tr st1 o2
  have stL5 : st5 ≤ L := Nat.le_trans o3.2.1.2.2.2.2.1.1 o3.2.1.2.2.2.2.1.2.1
  have E5 : EFr g h t h5 t5 nc := E3.tr o15 (Nat.le_refl _)
  have len80 : (T ++ 0 :: S).length ≤ 80 := by simp only [List.length_append, List.length_cons]; omega
  cases c41 : sq B kd5 st5 41
  · right
    obtain ⟨t', q1, q2, q3, q4⟩ := markN o3 (v := 41) (by decide) c41
    have q1' : fX11_mark t5 41 = some t' := q1
    obtain ⟨h', u1, u2, u3⟩ := endSign (l := l + (1 + m)) o3 o4 len80 o5.1 (by omega) o7 o6 (by omega) (by omega) o16 c41 (fun z => absurd z (by omega))
    refine ⟨h5, 1 + m, 1, h', t', mdl _ ?_, st2, by omega, u1, q2.kept u2 rfl, E5.kg.tr u3, E5.1.tr (MG.of q3 q4 W_in)⟩
    rw [m40, bnd_s, o1, bnd_s, q1', bnd_s]
  · left
    obtain ⟨y, r1, r2, r3, r4, r5, r6, r7, r8⟩ := relC g2 (s := 1) (by decide) (by decide) o4 o13 (fun z u e => by injection e with e1 _; rw [← e1]; decide) len80 o5.1 (by omega)
    obtain ⟨r21, r22, r23⟩ := r2
    have r22' : y 40 1 = nI (S.length + 1) := r22
    obtain ⟨y2', ey2⟩ : ∃ y2', y2' = up2 (up2 y 40 1 (nI S.length)) 40 2 (nI d) := ⟨_, rfl⟩
    have cl : fX6_close h5 = some (0, y2') := by
      have k2' : up2 y 40 1 (nI S.length) 40 2 = nI (d + 1) := by rw [up2_sn (by decide), r7 2 (by decide)]; exact o6
      have mxz : (if (0 : Int32) < nI (S.length + 1) - 1 then nI (S.length + 1) - 1 else 0) = nI S.length := by
        rw [nI_pred]
        by_cases z : S.length = 0
        · rw [z]; decide
        · rw [if_pos (show (0 : Int32) < nI S.length from nI_lt (a := 0) (by omega) (by omega))]
      unfold fX6_close
      rw [o6, if_neg (nI_ne0 (by omega) (by omega)), show fX6_release h5 1 = some y from r1, bnd_s, r22', mxz, pw_s, bnd_s, k2', nI_pred, pw_s, bnd_s, ← ey2]
    have yk : ∀ i, i ≠ 40 → y2' i = y i := fun i hi => by rw [ey2, up2_n hi, up2_n hi]
    have yr : ∀ i, i ≠ 40 → i ≠ g + 12 → i ≠ g + 14 → y2' i = h5 i := fun i a b c => by rw [yk i a, r6 i (by simp only [List.mem_cons, List.not_mem_nil, or_false]; omega)]
    have py : PR g B L y2' t5 kd5 st5 en5 := o3.kept (yr 1 (by omega) (by omega) (by omega)) (yr 39 (by omega) (by omega) (by omega)) (by rw [yr 38 (by omega) (by omega) (by omega)]) rfl rfl
    obtain ⟨h6, t6, kd6, st6, en6, b1, b2, b3, b4, b5, b6, b7⟩ := py.step
    have sten5 := o3.2.1.2.2.2.2.2.2.1 (fun z => by
      unfold sq at c41
      rw [z] at c41
      simp at c41)
    have s41 : fX9_isSign h5 41 = some 1 := (signC o3.1 o3.2.1 (v := 41) (by decide)).trans (by rw [c41]; rfl)
    have fin : fX6_read_21 (h5, nI (l + (1 + m))) = some (.inl (h6, nI (l + (1 + m) + 1))) := by
      have rsn : fX6_readSign h5 = some (0, y2') := by
        unfold fX6_readSign
        rw [s41, bnd_s, if_neg n01, cl, bnd_s]
      unfold fX6_read_21 fX6_read_61
      dsimp only
      rw [if_neg (show ¬ 700 < nI (l + (1 + m)) from nI_nlt (a := 700) (by omega) (by decide)), if_pos o7, if_neg (show ¬ h5 40 2 = 0 by rw [o6]; exact nI_ne0 (by omega) (by omega)), if_pos o7, rsn, bnd_s]
      exact read79 b1
    have c6 : ∀ i, i ≠ 39 → h6 i = y2' i := fun i hi => b5 i (by simp only [List.mem_cons, List.not_mem_nil, or_false]; omega)
    refine ⟨h6, t6, kd6, st6, en6, [], nc5 + T.length, (1 + m) + 1, mdl _ ?_, stp_tr st2 (stp_1 fin), b3, ⟨?_, ?_, ?_⟩, ⟨?_, ?_, fun i hi => ?_, fun j hj => absurd hj (Nat.not_lt_zero j)⟩, ⟨?_, ?_⟩, ⟨by omega, ?_, ?_, by omega, Nat.le_refl _⟩, fun z hz => (by cases hz), ?_, ?_, trivial⟩
    · rw [m40, bnd_s, o1, bnd_s, show fX11_mark t5 41 = some t6 from markY o3 (v := 41) (by decide) c41 b2, bnd_s]
    · rw [c6 40 (by decide), ey2, up2_sn (by decide), up2_sn (by decide)]; exact r21
    · rw [List.nil_append, c6 40 (by decide), ey2, up2_sn (by decide), up2_ss]
    · rw [List.nil_append, c6 41 (by decide), yk 41 (by decide)]; exact r23.2
    · rw [c6 _ (by omega), yk _ (by omega)]; exact r3
    · rw [b6 3 (by decide)]; exact o5.2.1
    · rw [c6 _ (by omega), yk _ (by omega), b6 16 (by decide)]
      by_cases z : i < nc5
      · rw [r4 i z]; exact o5.2.2.1 i z
      · have := r5 (i - nc5) (by omega)
        rw [show nc5 + (i - nc5) = i by omega] at this
        rw [this, o5.2.2.2 (i - nc5) (by omega), show nc5 + (i - nc5) = i by omega]
    · rw [c6 40 (by decide), ey2, up2_ss]
    · rw [c6 40 (by decide), ey2, up2_sn (by decide), up2_sn (by decide), r7 4 (by decide)]; exact o7
    · show nc5 + T.length + 0 + st ≤ nc + st6; omega
    · show nc < nc5 + T.length + 0; omega
    · refine (o14.cong (fun j _ _ => by rw [b6 16 (by decide)])).mono (by omega)
    · refine E5.tr (m := nc) ?_ (Nat.le_refl _)
      refine ⟨MG.of b6 b7 TKs_in, fun i _ => by rw [b6 16 (by decide)], fun i a b c e f => by rw [c6 i a, yr i b e f], fun j hj => ?_, fun i a _ _ => b6 i (by simp only [List.mem_cons, List.not_mem_nil, or_false]; omega), fun j _ => by rw [b6 3 (by decide)]⟩
      rw [c6 _ (by omega), yk _ (by omega), r8 j hj]
