/-! ===== parish: a step of both ===== -/
theorem stepR2 {B : Nat → Nat} {L p : Nat} {h t : ST} (b : BY B L h t) (c5 : h 39 5 = nI L) (m5 : t 0 21 = nI L) (c4 : h 39 4 = nI p) (m4 : t 0 20 = nI p) (hp : p ≤ L) :
    ∃ h' t' kd st en, fX9_step h = some h' ∧ fX11_stepOn t = some t' ∧ TR L h' t' kd st en ∧ p ≤ st ∧ Fr [39] h h' ∧ Fr [0] t t' ∧ Fs 0 TKs t t' := by
  have L7 := b.1
  obtain ⟨x, y, q, x1, y1, q1, q2, x4, y4, f1, f2, f3, f4⟩ := skipR b c5 m5 c4 m4 hp
  have b' : BY B L x y := b.kept (f1 1 (by decide)) (f3 18 (by decide))
  have x5 : x 39 5 = nI L := (f2 5 (by decide)).trans c5
  have y5 : y 0 21 = nI L := (f4 21 (by decide)).trans m5
  obtain ⟨u, eu⟩ : ∃ u, u = up2 x 39 1 (nI q) := ⟨_, rfl⟩
  obtain ⟨v, ev⟩ : ∃ v, v = up2 y 0 24 (nI q) := ⟨_, rfl⟩
  have u4 : u 39 4 = nI q := by rw [eu, up2_sn (by decide)]; exact x4
  have u5 : u 39 5 = nI L := by rw [eu, up2_sn (by decide)]; exact x5
  have u1 : u 39 1 = nI q := by rw [eu, up2_ss]
  have v20 : v 0 20 = nI q := by rw [ev, up2_sn (by decide)]; exact y4
  have v21 : v 0 21 = nI L := by rw [ev, up2_sn (by decide)]; exact y5
  have v24 : v 0 24 = nI q := by rw [ev, up2_ss]
  have fu : Fr [39] h u := by rw [eu]; exact f1.up (by decide)
  have fv : Fr [0] t v := by rw [ev]; exact f3.up (by decide)
  have fs : Fs 0 TKs t v := by rw [ev]; exact (f4.sub (by decide)).up (by decide)
  have bu : BY B L u v := b.kept (fu 1 (by decide)) (fv 18 (by decide))
  have hC : ∀ z, fX9_step_39 x = z → fX9_step h = z := fun z e => by
    unfold fX9_step
    rw [x1, bnd_s]; exact e
  have hM : ∀ z, (bnd (fX11_byteAt v (nI q)) fun r13 => if r13 = (-1) then bnd (pw v 0 22 0) fun h59 => fX11_stepOn_212 h59 else bnd (fX11_isLetter v r13) fun r16 => if r16 = 0 then bnd (fX11_isDigit v r13) fun r19 => if r19 = 0 then bnd (pw v 0 20 (nI q + 1)) fun h22 => bnd (fX11_isMark h22 r13) fun r24 => if r24 = 0 then fX11_stepOn_209 h22 4 else fX11_stepOn_209 h22 3 else bnd (pw v 0 23 0) fun h31 => bnd (lp FU (fX11_stepOn_123) h31) fun x44 => bnd (pw x44 0 22 2) fun h46 => fX11_stepOn_212 h46 else bnd (lp FU (fX11_stepOn_76) v) fun x55 => bnd (pw x55 0 22 1) fun h57 => fX11_stepOn_212 h57) = z → fX11_stepOn t = z := fun z e => by
    unfold fX11_stepOn
    rw [y1, bnd_s, y4, pw_s, bnd_s, ← ev, v20]; exact e
  have cM : ∀ (r : ST) (en : Nat), r 0 20 = nI en → fX11_stepOn_212 r = some (up2 r 0 25 (nI en)) := fun r en e => by
    unfold fX11_stepOn_212
    rw [e, pw_s, bnd_s]
  have n1 : ¬ (1 : Int32) = 0 := by decide
  by_cases cL : q = L
  · -- the end
    refine ⟨up2 u 39 0 0, up2 (up2 v 0 22 0) 0 25 (nI q), 0, q, q, hC _ ?_, hM _ ?_, ⟨⟨?_, ?_⟩, ⟨?_, ?_, ?_⟩, ⟨?_, ?_⟩, ⟨?_, ?_⟩, ⟨Nat.le_refl _, q2, by decide⟩, fun _ => cL, fun z => absurd rfl z, fun z => absurd z (by decide)⟩, q1, fu.up (by decide), (fv.up (by decide)).up (by decide), (fs.up (by decide)).up (by decide)⟩
    · unfold fX9_step_39 fX9_step_193
      rw [x4, pw_s, bnd_s, ← eu, u4, u5, if_neg (nI_nlt (show L ≤ q by omega) (by omega)), pw_s, bnd_s]
    · rw [cL, byteM_n v21, bnd_s, if_pos rfl, pw_s, bnd_s, cM _ L (by rw [up2_sn (by decide)]; rw [v20, cL])]
    · rw [up2_sn (by decide)]; exact u5
    · rw [up2_sn (by decide), up2_sn (by decide)]; exact v21
    · rw [up2_sn (by decide)]; exact u4
    · rw [up2_sn (by decide), up2_sn (by decide)]; exact v20
    · exact up2_ss _ _ _ _
    · rw [up2_sn (by decide)]; exact u1
    · rw [up2_sn (by decide), up2_sn (by decide)]; exact v24
    · exact up2_ss _ _ _ _
    · rw [up2_sn (by decide), up2_ss]; rfl
  have ql : q < L := by omega
  obtain ⟨b1, b2, b3⟩ := bu.2 q ql
  have bm := byteM_y bu v21 ql
  have hC2 : ∀ z, (bnd (fX9_isLetter u (sbt (B q))) fun r16 => if r16 = 0 then bnd (some (sbt (B q))) fun v19 => bnd (fX9_isDigit u v19) fun r21 => if r21 = 0 then bnd (some (sbt (B q))) fun v24 => bnd (fJ0_indexOf_0f7a4 u 0 (((v24 &&& 255).toUInt32 % 65536).toInt32)) fun r26 => if r26 < 0 then fX9_step_180 u 4 else fX9_step_180 u 3 else bnd (pw u 39 0 2) fun h33 => bnd (fX9_takeNumber h33) fun r35 => fX9_step_193 r35 else bnd (pw u 39 0 1) fun h37 => bnd (lp FU (fX9_step_86) h37) fun x47 => fX9_step_193 x47) = z → fX9_step h = z := fun z e => by
    refine hC z ?_
    unfold fX9_step_39
    rw [x4, pw_s, bnd_s, ← eu, u4, u5, if_pos (nI_lt ql (by omega)), rd_k (n := 700) (show q < 700 by omega), bnd_s, b2]
    exact e
  have lc := letC (h := u) b1
  have lm := letM (h := v) b1
  have ne : ¬ nI (B q) = -1 := by_pos _ b1
  cases cl : isLt (B q)
  rotate_left
  · -- a word
    rw [cl, if_pos rfl] at lc lm
    obtain ⟨w, eW⟩ : ∃ w, w = up2 u 39 0 1 := ⟨_, rfl⟩
    have bw : BY B L w v := bu.kept (by rw [eW, up2_n (by decide)]) rfl
    obtain ⟨c, d, en, c1, d1, e1, e2, c4', d4, g1, g2, g3, g4⟩ := wordR (p := q) bw (by rw [eW, up2_sn (by decide)]; exact u5) v21 (by rw [eW, up2_sn (by decide)]; exact u4) v20 ql cl
    have fw : Fr [39] h w := by rw [eW]; exact fu.up (by decide)
    refine ⟨c, up2 (up2 d 0 22 1) 0 25 (nI en), 1, q, en, hC2 _ ?_, hM _ ?_, ⟨⟨?_, ?_⟩, ⟨c4', ?_, ?_⟩, ⟨?_, ?_⟩, ⟨?_, ?_⟩, ⟨by omega, e2, by decide⟩, fun z => absurd z (by decide), fun _ => e1, fun z => absurd z (by decide)⟩, q1, fw.tr g1, ((fv.tr g3).up (by decide)).up (by decide), ((fs.tr (g4.sub (by decide))).up (by decide)).up (by decide)⟩
    · rw [lc, bnd_s, if_neg n1, pw_s, bnd_s, ← eW, c1, bnd_s]; rfl
    · rw [bm, bnd_s, if_neg ne, lm, bnd_s, if_neg n1, d1, bnd_s, pw_s, bnd_s, cM _ en (by rw [up2_sn (by decide)]; exact d4)]
    · rw [g2 5 (by decide), eW, up2_sn (by decide)]; exact u5
    · rw [up2_sn (by decide), up2_sn (by decide), g4 21 (by decide)]; exact v21
    · rw [up2_sn (by decide), up2_sn (by decide)]; exact d4
    · exact up2_ss _ _ _ _
    · rw [g2 1 (by decide), eW, up2_sn (by decide)]; exact u1
    · rw [up2_sn (by decide), up2_sn (by decide), g4 24 (by decide)]; exact v24
    · rw [g2 0 (by decide), eW, up2_ss]; rfl
    · rw [up2_sn (by decide), up2_ss]; rfl
  rw [cl, if_neg (by decide)] at lc lm
  have dc := digC (h := u) b1
  have dm := digM (h := v) b1
  cases cd : isDg (B q)
  rotate_left
  · -- a number
    rw [cd, if_pos rfl] at dc dm
    obtain ⟨w, eW⟩ : ∃ w, w = up2 (up2 u 39 0 2) 39 2 0 := ⟨_, rfl⟩
    obtain ⟨z, eZ⟩ : ∃ z, z = up2 v 0 23 0 := ⟨_, rfl⟩
    have bw : BY B L w z := bu.kept (by rw [eW, up2_n (by decide), up2_n (by decide)]) (by rw [eZ, up2_n (by decide)])
    obtain ⟨c, d, en, c1, d1, e1, e2, c4', d4, g1, g2, g3, g4, nv⟩ := numbR (p := q) bw (by rw [eW, up2_sn (by decide), up2_sn (by decide)]; exact u5) (by rw [eZ, up2_sn (by decide)]; exact v21) (by rw [eW, up2_sn (by decide), up2_sn (by decide)]; exact u4) (by rw [eZ, up2_sn (by decide)]; exact v20) (by rw [eW, up2_sn (by decide), up2_sn (by decide)]; exact u1) (by rw [eW, up2_ss]) (by rw [eZ, up2_ss]) ql cd
    have fw : Fr [39] h w := by rw [eW]; exact (fu.up (by decide)).up (by decide)
    have fz : Fr [0] t z := by rw [eZ]; exact fv.up (by decide)
    have sz : Fs 0 TKs t z := by rw [eZ]; exact fs.up (by decide)
    have c1' : c 39 1 = nI q := by rw [g2 1 (by decide), eW, up2_sn (by decide), up2_sn (by decide)]; exact u1
    have sb : nI en - nI q = nI (en - q) := nI_sub (by omega)
    obtain ⟨lg, elg⟩ : ∃ lg : Int32, lg = if en - q ≤ 4 then 0 else 1 := ⟨_, rfl⟩
    have tn : fX9_takeNumber (up2 u 39 0 2) = some (up2 c 39 3 lg) := by
      unfold fX9_takeNumber fX9_takeNumber_88 fX9_takeNumber_107
      rw [pw_s, bnd_s, ← eW, c1, bnd_s, c4', c1', sb]
      by_cases k : en - q ≤ 4
      · rw [if_pos (show nI (en - q) ≤ 4 from nI_le (b := 4) k (by decide)), elg, if_pos k, zb_0, bnd_s, pw_s, bnd_s]
      · rw [if_neg (show ¬ nI (en - q) ≤ 4 from nI_ge (a := 4) (by omega) (by omega)), elg, if_neg k, zb_1, bnd_s, pw_s, bnd_s]
    refine ⟨up2 c 39 3 lg, up2 (up2 d 0 22 2) 0 25 (nI en), 2, q, en, hC2 _ ?_, hM _ ?_, ⟨⟨?_, ?_⟩, ⟨?_, ?_, ?_⟩, ⟨?_, ?_⟩, ⟨?_, ?_⟩, ⟨by omega, e2, by decide⟩, fun k => absurd k (by decide), fun _ => e1, fun _ => ?_⟩, q1, (fw.tr g1).up (by decide), ((fz.tr g3).up (by decide)).up (by decide), ((sz.tr (g4.sub (by decide))).up (by decide)).up (by decide)⟩
    · rw [lc, bnd_s, if_pos rfl, bnd_s, dc, bnd_s, if_neg n1, pw_s, bnd_s, tn, bnd_s]; rfl
    · rw [bm, bnd_s, if_neg ne, lm, bnd_s, if_pos rfl, dm, bnd_s, if_neg n1, pw_s, bnd_s, ← eZ, d1, bnd_s, pw_s, bnd_s, cM _ en (by rw [up2_sn (by decide)]; exact d4)]
    · rw [up2_sn (by decide), g2 5 (by decide), eW, up2_sn (by decide), up2_sn (by decide)]; exact u5
    · rw [up2_sn (by decide), up2_sn (by decide), g4 21 (by decide), eZ, up2_sn (by decide)]; exact v21
    · rw [up2_sn (by decide)]; exact c4'
    · rw [up2_sn (by decide), up2_sn (by decide)]; exact d4
    · exact up2_ss _ _ _ _
    · rw [up2_sn (by decide)]; exact c1'
    · rw [up2_sn (by decide), up2_sn (by decide), g4 24 (by decide), eZ, up2_sn (by decide)]; exact v24
    · rw [up2_sn (by decide), g2 0 (by decide), eW, up2_sn (by decide), up2_ss]; rfl
    · rw [up2_sn (by decide), up2_ss]; rfl
    · unfold NB
      rw [up2_ss, up2_sn (by decide), up2_sn (by decide), up2_sn (by decide), elg]
      rcases nv with ⟨k1, k2⟩ | k1
      · exact Or.inl ⟨k1, if_pos k1, k2⟩
      · exact Or.inr ⟨k1, if_neg (by omega)⟩
  rw [cd, if_neg (by decide)] at dc dm
  obtain ⟨mv, mc1, mc2⟩ := mkC (h := u) b1
  obtain ⟨w, eW⟩ : ∃ w, w = up2 v 0 20 (nI (q + 1)) := ⟨_, rfl⟩
  have mm := mkM (h := w) b1
  -- a sign, or nothing
  have kind : ∀ kd : Nat, (kd = 3 ∨ kd = 4) → (isMk (B q) = true ↔ kd = 3) → ∃ h' t', fX9_step h = some h' ∧ fX11_stepOn t = some t' ∧ TR L h' t' kd q (q + 1) ∧ p ≤ q ∧ Fr [39] h h' ∧ Fr [0] t t' ∧ Fs 0 TKs t t' := fun kd hk he => by
    refine ⟨up2 (up2 u 39 0 (nI kd)) 39 4 (nI (q + 1)), up2 (up2 w 0 22 (nI kd)) 0 25 (nI (q + 1)), hC2 _ ?_, hM _ ?_, ⟨⟨?_, ?_⟩, ⟨?_, ?_, ?_⟩, ⟨?_, ?_⟩, ⟨?_, ?_⟩, ⟨by omega, by omega, by omega⟩, fun z => by omega, fun _ => by omega, fun z => by omega⟩, q1, (fu.up (by decide)).up (by decide), ?_, ?_⟩
    · have st : fX9_step_180 u (nI kd) = some (up2 (up2 u 39 0 (nI kd)) 39 4 (nI (q + 1))) := by
        have g : up2 u 39 0 (nI kd) 39 4 = nI q := by rw [up2_sn (by decide)]; exact u4
        unfold fX9_step_180 fX9_step_193
        rw [pw_s, bnd_s, g, pw_s, bnd_s, nI_1]
      rw [lc, bnd_s, if_pos rfl, bnd_s, dc, bnd_s, if_pos rfl, bnd_s, by_and _ b1, mc1, bnd_s]
      rcases hk with k | k
      · subst k
        have m1 := he.mpr rfl
        rw [if_neg (fun z => by rw [mc2.mp z] at m1; exact absurd m1 (by decide))]; exact st
      · subst k
        have m1 : isMk (B q) = false := by cases z : isMk (B q); rfl; exact absurd (he.mp z) (by decide)
        rw [if_pos (mc2.mpr m1)]; exact st
    · have st : fX11_stepOn_209 w (nI kd) = some (up2 (up2 w 0 22 (nI kd)) 0 25 (nI (q + 1))) := by
        unfold fX11_stepOn_209
        rw [pw_s, bnd_s, cM _ (q + 1) (by rw [up2_sn (by decide), eW, up2_ss])]
      rw [bm, bnd_s, if_neg ne, lm, bnd_s, if_pos rfl, dm, bnd_s, if_pos rfl, nI_1, pw_s, bnd_s, ← eW, mm, bnd_s]
      rcases hk with k | k
      · subst k
        rw [he.mpr rfl, if_pos rfl, if_neg n1]; exact st
      · subst k
        have m1 : isMk (B q) = false := by cases z : isMk (B q); rfl; exact absurd (he.mp z) (by decide)
        rw [m1, if_neg (show ¬ false = true by decide), if_pos rfl]; exact st
    · rw [up2_sn (by decide), up2_sn (by decide)]; exact u5
    · rw [up2_sn (by decide), up2_sn (by decide), eW, up2_sn (by decide)]; exact v21
    · exact up2_ss _ _ _ _
    · rw [up2_sn (by decide), up2_sn (by decide), eW, up2_ss]
    · exact up2_ss _ _ _ _
    · rw [up2_sn (by decide), up2_sn (by decide)]; exact u1
    · rw [up2_sn (by decide), up2_sn (by decide), eW, up2_sn (by decide)]; exact v24
    · rw [up2_sn (by decide), up2_ss]
    · rw [up2_sn (by decide), up2_ss]
    · have : Fr [0] t w := by rw [eW]; exact fv.up (by decide)
      exact (this.up (by decide)).up (by decide)
    · have : Fs 0 TKs t w := by rw [eW]; exact fs.up (by decide)
      exact (this.up (by decide)).up (by decide)
  cases cm : isMk (B q)
  · obtain ⟨h', t', k⟩ := kind 4 (Or.inr rfl) ⟨fun z => by rw [cm] at z; exact absurd z (by decide), fun z => absurd z (by decide)⟩
    exact ⟨h', t', 4, q, q + 1, k⟩
  · obtain ⟨h', t', k⟩ := kind 3 (Or.inl rfl) ⟨fun _ => rfl, fun _ => cm⟩
    exact ⟨h', t', 3, q, q + 1, k⟩
