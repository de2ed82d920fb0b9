/-! ===== years, the call ===== -/
def nx (a : Int32) : Int32 := a * 1103515245 + 12345
theorem next_s (h : ST) (a : Int32) : fX10_nextSeed h a = some (nx a) := rfl
theorem drawN {t : ST} {d : Nat} (h0 : 0 < d) (hd : d < 2 ^ 31) {m : Nat} (hm : ((nx (t 0 53) >>> ((16 : Int32) &&& 31)) &&& 32767) - ((nx (t 0 53) >>> ((16 : Int32) &&& 31)) &&& 32767) / nI d * nI d = nI m) : fX11_drawOf t (nI d) = some (nI m, up2 t 0 53 (nx (t 0 53))) := drawM h0 hd hm
theorem chM0 {M t : ST} (b00 : M 3 0 = 0) (g3 : t 3 = M 3) : fX11_something t = some t := by
  unfold fX11_something
  rw [g3, rd_0 (by decide) (by decide), bnd_s, if_pos b00]
theorem chC0 {f : Nat} {s : ST} (rff : rf KC 395 1 (s 0 3) = some f) (f00 : s f 0 = 0) (p q sd u v : Int32) : fX10_years_58 p q (s, sd, u, v) = (if p ≤ v then some (.inr (s, u)) else fX10_years_114 s p q sd u v) := by
  have : s f 0 ≤ 0 := by rw [f00]; exact Int32.le_refl 0
  unfold fX10_years_58
  dsimp only
  rw [rff, bnd_s, if_pos this]
theorem chM {M t x y t' : ST} {n m m2 : Nat} (g3 : t 3 = M 3) (b0 : M 3 0 = nI n) (ne : ¬ nI n = 0) (d1 : fX11_drawOf t (nI n) = some (nI m, x)) (d2 : fX11_drawOf x 4 = some (nI m2, y)) (so : someM y (nI m) (nI m2) = some t') : fX11_something t = some t' := by
  unfold fX11_something
  rw [g3, rd_0 (by decide) (by decide), bnd_s, b0, if_neg ne, bnd_s, d1, bnd_s, d2, bnd_s]
  exact so
theorem chC {f : Nat} {s s' : ST} {n m m2 : Nat} (rff : rf KC 395 1 (s 0 3) = some f) (f0 : s f 0 = nI n) (nle : ¬ nI n ≤ 0) {sd : Int32} (d1 : ∀ h, fX10_draw h (nx sd) (nI n) = some (nI m)) (d2 : ∀ h, fX10_draw h (nx (nx sd)) 4 = some (nI m2)) (k1 : fX10_happen s (nI m) (nI m2) = some s') (p q u v : Int32) : fX10_years_58 p q (s, sd, u, v) = (if p ≤ v then some (.inr (s, u)) else fX10_years_114 s' p q (nx (nx sd)) u v) := by
  unfold fX10_years_58
  dsimp only
  rw [rff, bnd_s, if_neg (show ¬ s f 0 ≤ 0 by rw [f0]; exact nle), next_s, bnd_s, bnd_s, f0, d1, bnd_s, next_s, bnd_s, d2, bnd_s, k1, bnd_s]
/-- one year's day on both sides, before the pass: the seeds, the happening -/
theorem chanceB {f : Nat} (hf : f = 2 ∨ f = 20) {M : ST} (hB : FB M) {A B : AS} {hc hm s t : ST} (hCF : CF f M hc) (h0 : hc 0 3 = nI f) (hs : KcE f hc s) (hR : RC 386 M B s) (ht : TM M A B hm t) {K : Nat} (hA : AB M K B) {sd : Int32} (hsd : sd = t 0 53) (p q r u v : Int32) :
    ∃ s' t' B' sd', fX10_years_58 p q (s, sd, u, v) = (if p ≤ v then some (.inr (s, u)) else fX10_years_114 s' p q sd' u v) ∧ fX11_something t = some t' ∧ KcE f hc s' ∧ RC 386 M B' s' ∧ TM M A B' hm t' ∧ AB M K B' ∧ sd' = t' 0 53 := by
  have b0 := hB.1.1
  have h9 := hB.1.2.1
  obtain ⟨t1, t2, t3, t4, t5, t6⟩ := id ht
  have f0 : s f 0 = nI (nR M) := by rw [hs f (by omega) (by omega) (by omega)]; exact hCF.1.1.trans b0
  have g3 : t 3 = M 3 := t3 3 (by decide)
  have rff : rf KC 395 1 (s 0 3) = some f := rf_f hf (hs.c0 hf h0)
  rcases Nat.eq_zero_or_pos (nR M) with z | z
  · have f00 : s f 0 = 0 := by rw [f0, z]; rfl
    have b00 : M 3 0 = 0 := by rw [b0, z]; rfl
    refine ⟨s, t, B, sd, ?_, ?_, hs, hR, ht, hA, hsd⟩
    · exact chC0 rff f00 p q sd u v
    · exact chM0 b00 g3
  · obtain ⟨m, hm1, dm, em⟩ := draw_k (nx sd) z (show nR M < 2 ^ 31 by omega)
    obtain ⟨m2, hm2, dm2, em2⟩ := draw_k (nx (nx sd)) (d := 4) (by decide) (by decide)
    subst hsd
    have d1 := drawN z (show nR M < 2 ^ 31 by omega) em
    obtain ⟨x, ex⟩ : ∃ x, x = up2 t 0 53 (nx (t 0 53)) := ⟨_, rfl⟩
    rw [← ex] at d1
    have x53 : x 0 53 = nx (t 0 53) := by rw [ex, up2_ss]
    rw [← x53] at em2
    have d2 := drawN (t := x) (d := 4) (by decide) (by decide) em2
    obtain ⟨y, ey⟩ : ∃ y, y = up2 x 0 53 (nx (x 0 53)) := ⟨_, rfl⟩
    rw [← ey] at d2
    have y53 : y 0 53 = nx (nx (t 0 53)) := by rw [ey, up2_ss, x53]
    have yR : RM1 M B y := by
      rw [ey]; refine rm_up ?_ (by decide) _
      rw [ex]; exact rm_up t2 (by decide) _
    have yF : FM M y := by rw [ey, ex]; exact fm_up (fm_up t3 _ _) _ _
    obtain ⟨s', t', B', k1, k2, k3, k4, k5, k6, k7, k8⟩ := happenB hf hB (hs.cf hf hCF) (hs.c0 hf h0) yF hA hR yR hm1 (nI m2)
    have yT : TM M A B hm y := ht.step yR (by rw [ey, ex]; exact (Fr.rf.up (by decide)).up (by decide)) (by rw [ey, ex]; exact (Fs.rf.up (by decide)).up (by decide))
    refine ⟨s', t', B', nx (nx (t 0 53)), ?_, ?_, hs.tr (KcE.of k6 (fun i hi => ?_)), k3, yT.step k4 (k7.sub (by decide)) (k8.sub (by decide)), k5, ?_⟩
    · have dm2' : ∀ h, fX10_draw h (nx (nx (t 0 53))) 4 = some (nI m2) := dm2
      have nle : ¬ nI (nR M) ≤ 0 := nI_nle z (by omega)
      exact chC rff f0 nle dm dm2' k1 p q u v
    · have d2' : fX11_drawOf x 4 = some (nI m2, y) := d2
      have ne : ¬ nI (nR M) = 0 := nI_ne0 z (by omega)
      exact chM g3 b0 ne d1 d2' k2
    · simp only [List.mem_cons, List.not_mem_nil, or_false] at hi; omega
    · rw [k8 53 (by decide), y53]
theorem fullC {f : Nat} (hf : f = 2 ∨ f = 20) {M : ST} (hB : FB M) {B : AS} {s : ST} (hCF : CF f M s) (h0 : s 0 3 = nI f) (hR : RC 386 M B s) : fX10_fullestTrialRoom s = some (mx (aD B) 0 (nR M)) := by
  have b0 := hB.1.1
  have h9 := hB.1.2.1
  have f0 : s f 0 = nI (nR M) := hCF.1.1.trans b0
  have e : lp FU (fX10_fullestTrialRoom_4 s) (0, 0) = some (mx (aD B) 0 (nR M)) := by
    refine lp_det (b := fX10_fullestTrialRoom_4 s) (fun i => (mx (aD B) 0 i, nI i)) (nR M) (by omega) (fun i hi => ?_) ?_
    · have q := nI_ge hi (show nR M < 2 ^ 31 by omega)
      have D1 : s 387 i = aD B i := (hR.2.1 i hi).1
      simp only [fX10_fullestTrialRoom_4, rf_f hf h0, bnd_s, f0, if_neg q, rd_k (n := 9) (show i < 9 by omega), D1, nI_1, mx]
    · simp only [fX10_fullestTrialRoom_4, rf_f hf h0, bnd_s, f0, Int32.le_refl, if_true]
  simp only [fX10_fullestTrialRoom, e, bnd_s]
theorem fullM {M : ST} (hB : FB M) {B : AS} {s : ST} (hF : FM M s) (hR : RM1 M B s) (p q r : Int32) : lp FU (fX11_years_110 s p q r) (0, 0) = some (mx (aD B) 0 (nR M)) := by
  have b0 := hB.1.1
  have h9 := hB.1.2.1
  have g3 : s 3 = M 3 := hF 3 (by decide)
  refine lp_det (b := fX11_years_110 s p q r) (fun i => (mx (aD B) 0 i, nI i)) (nR M) (by omega) (fun i hi => ?_) ?_
  · have q := nI_ge hi (show nR M < 2 ^ 31 by omega)
    have D1 : s 19 i = aD B i := (hR.2.1 i hi).1
    simp only [fX11_years_110, bnd_s, pw_s, rd_0, rd_1, rd_2, rd_3, rd_4, rd_5, rd_6, wr_0, wr_1, wr_2, wr_3, wr_4, wr_5, zb_0, zb_1, Nat.reduceLT, Nat.reducePow, g3, b0, if_neg q, rd_k (n := 9) (show i < 9 by omega), D1, nI_1, mx]
  · simp only [fX11_years_110, bnd_s, pw_s, rd_0, rd_1, rd_2, rd_3, rd_4, rd_5, rd_6, wr_0, wr_1, wr_2, wr_3, wr_4, wr_5, zb_0, zb_1, Nat.reduceLT, Nat.reducePow, g3, b0, Int32.le_refl, if_true]
theorem t_years {hc hm : ST} (hI : Inv hc hm) (a1 a2 a3 : Int32) : ∃ y, s_years hc hm a1 a2 a3 = some y ∧ Inv y.1 y.2 := by
  obtain ⟨f, M, A, h, h2⟩ := hI
  obtain ⟨hf, h0, hB, hF, hCF, hR, hR1, hA⟩ := id h
  have m1 := codeM (M := M) hR1
  have h9 := hB.1.2.1
  have h10 := hB.1.2.2.2.2.2.2.2
  have n1 : ¬ (1 : Int32) = 0 := by decide
  unfold s_years fL_years
  apply s_ok
  rcases in_c 0 2 (by decide) (by decide) a3 with ⟨w, -, hw, rfl, e⟩ | ⟨c, e⟩
  rotate_left
  · have e : fX11_isIn (up2 hm 0 2 0) a3.toInt64 (0 : Int64) (2 : Int64) = some 0 := e _
    obtain ⟨q1, q2⟩ := failM hR1 1
    refine Or.inr ⟨1, 1, 0, hc, _, ?_, rfl, by decide, ?_, q2.2.2.2, Inv.ro h h2 (fun _ _ _ _ => rfl) q2⟩
    · by_cases c1 : a3 < 0
      · simp only [fX10_years, fX10_years_9, if_pos c1]
      · simp only [fX10_years, fX10_years_9, if_neg c1, if_neg (show ¬ a3 ≤ 2 from fun q => c ⟨Int32.not_lt.mp c1, q⟩)]
    · simp only [fX11_years, bnd_s, pw_s, rd_0, rd_1, rd_2, rd_3, rd_4, rd_5, rd_6, wr_0, wr_1, wr_2, wr_3, wr_4, wr_5, zb_0, zb_1, Nat.reduceLT, Nat.reducePow, e, q1, if_true]
  have e : fX11_isIn (up2 hm 0 2 0) (nI w).toInt64 (0 : Int64) (2 : Int64) = some 1 := e _
  have p0 : ¬ nI w < 0 := nI_pos (by omega)
  have p2 : nI w ≤ 2 := nI_le (b := 2) hw (by decide)
  rcases in_c 0 60 (by decide) (by decide) a2 with ⟨n, -, hn, rfl, e'⟩ | ⟨c, e'⟩
  rotate_left
  · have e' : fX11_isIn (up2 hm 0 2 0) a2.toInt64 (0 : Int64) (60 : Int64) = some 0 := e' _
    obtain ⟨q1, q2⟩ := failM hR1 2
    refine Or.inr ⟨2, 2, 0, hc, _, ?_, rfl, by decide, ?_, q2.2.2.2, Inv.ro h h2 (fun _ _ _ _ => rfl) q2⟩
    · by_cases c1 : a2 < 0
      · simp only [fX10_years, fX10_years_27, if_neg p0, if_pos p2, if_pos c1]
      · simp only [fX10_years, fX10_years_27, if_neg p0, if_pos p2, if_neg c1, if_neg (show ¬ a2 ≤ 60 from fun q => c ⟨Int32.not_lt.mp c1, q⟩)]
    · simp only [fX11_years, bnd_s, pw_s, rd_0, rd_1, rd_2, rd_3, rd_4, rd_5, rd_6, wr_0, wr_1, wr_2, wr_3, wr_4, wr_5, zb_0, zb_1, Nat.reduceLT, Nat.reducePow, e, e', if_neg n1, q1, if_true]
  have e' : fX11_isIn (up2 hm 0 2 0) (nI n).toInt64 (0 : Int64) (60 : Int64) = some 1 := e' _
  have p3 : ¬ nI n < 0 := nI_pos (by omega)
  have p4 : nI n ≤ 60 := nI_le (b := 60) hn (by decide)
  obtain ⟨z, z1, z2, z3, z4, z5⟩ := copyT h
  obtain ⟨b, b1, b2⟩ := beginM h
  obtain ⟨x, ex⟩ : ∃ x, x = up2 b 0 53 a1 := ⟨_, rfl⟩
  have xT : TM M A A hm x := b2.step (by rw [ex]; exact rm_up b2.2.1 (by decide) _) (by rw [ex]; exact Fr.rf.up (by decide)) (by rw [ex]; exact Fs.rf.up (by decide))
  have x53 : a1 = x 0 53 := by rw [ex, up2_ss]
  have x34 : x 0 34 = aT A := xT.2.1.1.2.1
  obtain ⟨u, v, u1, v1, B, B1, B2, B3, B4, uv⟩ := lp2_cnt (b1 := fX10_years_58 (nI n) (nI w)) (b2 := fX11_years_67 (nI n) (nI w) (aT A)) (s := (z, a1, (0 : Int32), (0 : Int32))) (t := (x, (0 : Int32), (0 : Int32))) (Q := fun u v => ∃ B, KcE f hc u.1 ∧ RC 386 M B u.1 ∧ TM M A B hm v.1 ∧ True ∧ u.2 = v.2) (fun i s t => ∃ B, s.2.2.2 = nI i ∧ t.2.2 = nI i ∧ KcE f hc s.1 ∧ RC 386 M B s.1 ∧ TM M A B hm t.1 ∧ AB M (999 + i) B ∧ s.2.1 = t.1 0 53 ∧ s.2.2.1 = t.2.1) n (by omega) (by
    rintro i ⟨s, sd, c, j⟩ ⟨t, c', j'⟩ hi ⟨B, rfl, rfl, s1, s2, s3, s4, s5, rfl⟩
    dsimp only at s1 s2 s3 s4 s5
    obtain ⟨s', t', B', sd', k1, k2, k3, k4, k5, k6, k7⟩ := chanceB hf hB hCF h0 s1 s2 s3 s4 s5 (nI n) (nI w) (aT A) c (nI i)
    rw [if_neg (nI_ge hi (show n < 2 ^ 31 by omega))] at k1
    obtain ⟨g, g1, g2, g3, g4, g5⟩ := oneC hf hB (k3.cf hf hCF) (k3.c0 hf h0) (K := 999 + i) (by omega) k6 k4
    obtain ⟨r, r1, r2⟩ := k5.day hB k6 (by omega)
    have hr := herC hB g4 g2
    have hr2 := herM hB r2.2.2.1 r2.2.1
    have r53 : r 0 53 = t' 0 53 := by
      obtain ⟨r', w1, w2, w3, w4⟩ := dayM hB k5.2.2.1 (K := 999 + i) (by omega) k6 k5.2.1
      have : r = r' := Option.some.inj (r1.symm.trans w1)
      rw [this]; exact w4 53 (by decide)
    have ab : AB M (999 + (i + 1)) (aDay M B') := k6.day hB (by omega)
    obtain ⟨hz, ehz⟩ : ∃ hz, hz = herN M (aD (aDay M B')) (nR M) := ⟨_, rfl⟩
    rw [← ehz] at hr hr2
    have q := nI_ge hi (show n < 2 ^ 31 by omega)
    by_cases cz : hz = 0
    · refine Or.inl ⟨(g, sd', c + 0, nI (i + 1)), (r, c + 0, nI (i + 1)), ?_, ?_, aDay M B', rfl, rfl, k3.tr g3, g2, r2, ab, k7.trans r53.symm, rfl⟩
      · rw [k1]
        simp only [fX10_years_114, fX10_years_147, rf_f hf (k3.c0 hf h0), bnd_s, g1, rf_f hf g5, hr, if_pos cz, nI_1]
      · simp only [fX11_years_67, fX11_years_95, if_neg q, k2, bnd_s, r1, hr2, if_pos cz, nI_1]
    · refine Or.inl ⟨(g, sd', c + 1, nI (i + 1)), (r, c + 1, nI (i + 1)), ?_, ?_, aDay M B', rfl, rfl, k3.tr g3, g2, r2, ab, k7.trans r53.symm, rfl⟩
      · rw [k1]
        simp only [fX10_years_114, fX10_years_147, rf_f hf (k3.c0 hf h0), bnd_s, g1, rf_f hf g5, hr, if_neg cz, nI_1]
      · simp only [fX11_years_67, fX11_years_95, if_neg q, k2, bnd_s, r1, hr2, if_neg cz, nI_1]) (by
    rintro ⟨s, sd, c, j⟩ ⟨t, c', j'⟩ ⟨B, rfl, rfl, s1, s2, s3, s4, s5, rfl⟩
    exact ⟨(s, c), (t, c), by simp only [fX10_years_58, Int32.le_refl, if_true], by simp only [fX11_years_67, Int32.le_refl, if_true], B, s1, s2, s3, trivial, rfl⟩) ⟨A, rfl, rfl, z3, z2, xT, hA, x53, rfl⟩
  obtain ⟨s, c⟩ := u
  obtain ⟨t, c'⟩ := v
  dsimp only at B1 B2 B3 uv
  subst uv
  obtain ⟨y, y1, y2⟩ := B3.back h9 h10
  have fm := fullM hB B3.2.2.1 B3.2.1 (nI w) (aT A) c
  have fc := fullC hf hB (B1.cf hf hCF) (B1.c0 hf h0) B2
  have t34 : t 0 34 = aT B := B3.2.1.1.2.1
  have s386 : s 386 1 = aT B := B2.1.2.1
  have s43 : s 43 1 = aT A := (B1.rc hf hR).1.2.1
  have z1' : fX8_copy hc 386 43 = some z := z1
  have cls : fX10_years hc a1 (nI n) (nI w) = (if nI w = 1 then some (.inl c, s) else if nI w = 0 then some (.inl (aT B - aT A), s) else some (.inl (mx (aD B) 0 (nR M)), s)) := by
    unfold fX10_years fX10_years_193
    rw [if_neg p0, if_pos p2, if_neg p3, if_pos p4, z1', bnd_s, u1, bnd_s, fc, bnd_s]
    dsimp only
    rw [s386, s43]
  have mdl : fX11_years hm a1 (nI n) (nI w) = (if nI w = 0 then some (aT B - aT A, y) else if nI w = 1 then some (c, y) else some (mx (aD B) 0 (nR M), y)) := by
    unfold fX11_years fX11_years_167
    rw [pw_s, bnd_s, e, bnd_s, if_neg n1, e', bnd_s, if_neg n1, b1, bnd_s, pw_s, bnd_s, ← ex, x34, v1, bnd_s, fm, bnd_s]
    dsimp only
    rw [t34, y1, bnd_s, bnd_s, bnd_s]
  have : w = 0 ∨ w = 1 ∨ w = 2 := by omega
  rcases this with rfl | rfl | rfl
  · refine Or.inl ⟨aT B - aT A, s, y, cls, mdl, y2.2.2.2, Inv.ro h h2 B1 y2⟩
  · refine Or.inl ⟨c, s, y, cls, mdl, y2.2.2.2, Inv.ro h h2 B1 y2⟩
  · refine Or.inl ⟨mx (aD B) 0 (nR M), s, y, cls, mdl, y2.2.2.2, Inv.ro h h2 B1 y2⟩
