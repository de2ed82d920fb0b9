/-! ===== feed ===== -/
theorem i8_and (z : Int32) : z.toInt8.toInt32 &&& 255 = z &&& 255 := by
  apply Int32.toBitVec_inj.mp
  show BitVec.signExtend 32 (BitVec.signExtend 8 z.toBitVec) &&& 255#32 = z.toBitVec &&& 255#32
  have e : (255#32 : BitVec 32) = BitVec.ofNat 32 (2 ^ 8 - 1) := by decide
  ext i hi
  simp only [BitVec.getElem_and, BitVec.getElem_signExtend]
  by_cases c : i < 8
  · have d : i < 32 := hi
    simp only [c, d, dif_pos, BitVec.getElem_signExtend]
  · have : (255#32 : BitVec 32)[i] = false := by
      rw [BitVec.getElem_eq_testBit_toNat]
      show Nat.testBit 255 i = false
      exact Nat.testBit_lt_two_pow (Nat.lt_of_lt_of_le (show 255 < 2 ^ 8 by decide) (Nat.pow_le_pow_right (by decide) (by omega)))
    rw [this, Bool.and_false, Bool.and_false]
theorem i8_ix (z : Int32) : z.toInt8.toInt32.toInt8.toInt32 = z.toInt8.toInt32 := by rw [Int8.toInt8_toInt32]
theorem byR_z (z : Int32) : byR (z.toInt8.toInt32.toInt8.toInt32) (z &&& 255) := by
  obtain ⟨v, hv, e⟩ := pk_andE z (m := 255) 8 (by decide)
  refine ⟨v, hv, e, ?_⟩
  rw [i8_ix]
  exact (sc_eq (i8_ix z) hv).mpr ((i8_and z).trans e)
def byteM (a : Int32) (q : Nat) : Int32 := (a >>> (nI (24 - 8 * q) &&& 31)) &&& 255
theorem appC {h : ST} {t : Nat} (ht : h 0 1 = nI t) (h7 : t + 4 ≤ 700) (a : Int32) {X : Nat → Int32} (hX : ∀ i, i < t → byR (h 1 i) (X i)) (hq : ∀ q, q < 4 → X (t + q) = byteM a q) :
    ∃ y, fX10_append h a = some y ∧ y 0 1 = nI (t + 4) ∧ (∀ i, i < t + 4 → byR (y 1 i) (X i)) ∧ Fr [0, 1] h y ∧ Fs 0 [1] h y := by
  obtain ⟨y, y1, y2⟩ : ∃ y, lp FU (fX10_append_3 a) (h, 24) = some y ∧ y 0 1 = nI (t + 4) ∧ (∀ i, i < t + 4 → byR (y 1 i) (X i)) ∧ Fr [0, 1] h y ∧ Fs 0 [1] h y := by
    refine lp_cnt (b := fX10_append_3 a) (fun i s => s.2 = nI 24 - nI (8 * i) ∧ s.1 0 1 = nI (t + i) ∧ (∀ j, j < t + i → byR (s.1 1 j) (X j)) ∧ Fr [0, 1] h s.1 ∧ Fs 0 [1] h s.1) 4 (by decide) ?_ ?_ ⟨show (24 : Int32) = nI 24 - nI (8 * 0) by decide, ht, hX, Fr.rf, Fs.rf⟩
    · rintro i ⟨s, u⟩ hi ⟨rfl, s1, s2, s3, s4⟩
      dsimp only at s1 s2 s3 s4
      have e8 : nI 24 - nI (8 * i) = nI (24 - 8 * i) := nI_sub (by omega)
      have q1 : ¬ nI (24 - 8 * i) < 0 := nI_pos (by omega)
      have q2 : ¬ 700 ≤ nI (t + i) := nI_ge (b := 700) (by omega) (by decide)
      have e9 : nI (24 - 8 * i) + (-8) = nI 24 - nI (8 * (i + 1)) := by
        have : i = 0 ∨ i = 1 ∨ i = 2 ∨ i = 3 := by omega
        rcases this with rfl | rfl | rfl | rfl <;> decide
      obtain ⟨w, ew⟩ : ∃ w, w = ((a >>> (nI (24 - 8 * i) &&& 31)).toInt8.toInt32).toInt8.toInt32 := ⟨_, rfl⟩
      have g : up2 s 1 (t + i) w 0 = s 0 := up2_n (by decide)
      refine Or.inl ⟨(up2 (up2 s 1 (t + i) w) 0 1 (nI (t + (i + 1))), nI 24 - nI (8 * (i + 1))), ?_, rfl, (by dsimp only; exact up2_ss _ _ _ _), fun j hj => ?_, (s3.up (by decide)).up (by decide), (s4.un (by decide)).up (by decide)⟩
      · simp only [fX10_append_3, e8, if_neg q1, s1, if_neg q2, wr_k (n := 700) (show t + i < 700 by omega), bnd_s, pw_s, rd_0, rd_1, rd_2, rd_3, rd_4, rd_5, rd_6, wr_0, wr_1, wr_2, wr_3, wr_4, wr_5, zb_0, zb_1, Nat.reduceLT, Nat.reducePow, ← ew, g, nI_1, e9, Nat.add_assoc]
      · dsimp only
        rw [up2_n (by decide), up2_s]
        by_cases c : j = t + i
        · rw [c, upd_s, hq i hi, ew]
          exact byR_z _
        · rw [upd_n c]; exact s2 j (by omega)
    · rintro ⟨s, u⟩ ⟨rfl, s1⟩
      exact ⟨s, by simp only [fX10_append_3]; rw [if_pos (show nI 24 - nI (8 * 4) < 0 by decide)], s1⟩
  exact ⟨y, by simp only [fX10_append, fX10_append_46, y1, bnd_s], y2⟩
def arg5 (a1 a2 a3 a4 a5 : Int32) (m : Nat) : Int32 := if 4 ≤ m then (if 8 ≤ m then (if 12 ≤ m then (if 16 ≤ m then a5 else a4) else a3) else a2) else a1
theorem fedM {h : ST} {t : Nat} (ht : h 0 19 = nI t) (h7 : t + 20 ≤ 700) (a1 a2 a3 a4 a5 : Int32) :
    ∃ y, lp FU (fX11_feed_23 a1 a2 a3 a4 a5) (h, 0) = some y ∧ y 0 19 = nI (t + 20) ∧ (∀ j, j < t → y 18 j = h 18 j) ∧ (∀ j, j < 20 → y 18 (t + j) = byteM (arg5 a1 a2 a3 a4 a5 j) (j % 4)) ∧ Fr [0, 18] h y ∧ Fs 0 [19] h y := by
  refine lp_cnt (b := fX11_feed_23 a1 a2 a3 a4 a5) (fun i s => s.2 = nI i ∧ s.1 0 19 = nI (t + i) ∧ (∀ j, j < t → s.1 18 j = h 18 j) ∧ (∀ j, j < i → s.1 18 (t + j) = byteM (arg5 a1 a2 a3 a4 a5 j) (j % 4)) ∧ Fr [0, 18] h s.1 ∧ Fs 0 [19] h s.1) 20 (by decide) ?_ ?_ ⟨rfl, ht, fun _ _ => rfl, fun j hj => absurd hj (Nat.not_lt_zero j), Fr.rf, Fs.rf⟩
  · rintro i ⟨s, u⟩ hi ⟨rfl, s1, s2, s3, s4, s5⟩
    dsimp only at s1 s2 s3 s4 s5
    have e4 : nI i - nI i / 4 * 4 = nI (i % 4) := rem_k (d := 4) (by omega) (by decide) (by decide)
    have e8 : (24 : Int32) - 8 * nI (i % 4) = nI (24 - 8 * (i % 4)) := by
      rw [show (8 : Int32) * nI (i % 4) = nI (8 * (i % 4)) from nI_mul 8 (i % 4)]
      exact nI_sub (a := 24) (by omega)
    have core : ∀ a, fX11_feed_76 s a1 a2 a3 a4 a5 (nI i) a = some (.inl (up2 (up2 s 18 (t + i) (byteM a (i % 4))) 0 19 (nI (t + (i + 1))), nI (i + 1))) := fun a => by
      have g : ∀ w, up2 s 18 (t + i) w 0 = s 0 := fun w => up2_n (by decide)
      simp only [fX11_feed_76, s1, e4, e8, wr_k (n := 700) (show t + i < 700 by omega), bnd_s, pw_s, rd_0, rd_1, rd_2, rd_3, rd_4, rd_5, rd_6, wr_0, wr_1, wr_2, wr_3, wr_4, wr_5, zb_0, zb_1, Nat.reduceLT, Nat.reducePow, g, nI_1, byteM, Nat.add_assoc]
    have all : fX11_feed_23 a1 a2 a3 a4 a5 (s, nI i) = fX11_feed_76 s a1 a2 a3 a4 a5 (nI i) (arg5 a1 a2 a3 a4 a5 i) := by
      have q : ¬ 20 ≤ nI i := nI_ge (b := 20) hi (by decide)
      have k4 : (4 : Int32) ≤ nI i ↔ 4 ≤ i := nI_leI (a := 4) (by decide) (by omega)
      have k8 : (8 : Int32) ≤ nI i ↔ 8 ≤ i := nI_leI (a := 8) (by decide) (by omega)
      have k12 : (12 : Int32) ≤ nI i ↔ 12 ≤ i := nI_leI (a := 12) (by decide) (by omega)
      have k16 : (16 : Int32) ≤ nI i ↔ 16 ≤ i := nI_leI (a := 16) (by decide) (by omega)
      simp only [fX11_feed_23, if_neg q, k4, k8, k12, k16, arg5]
      by_cases c4 : 4 ≤ i
      · simp only [if_pos c4]
        by_cases c8 : 8 ≤ i
        · simp only [if_pos c8]
          by_cases c12 : 12 ≤ i
          · simp only [if_pos c12]
            by_cases c16 : 16 ≤ i
            · simp only [if_pos c16]
            · simp only [if_neg c16]
          · simp only [if_neg c12]
        · simp only [if_neg c8]
      · simp only [if_neg c4]
    refine Or.inl ⟨_, all.trans (core _), rfl, (by dsimp only; exact up2_ss _ _ _ _), fun j hj => ?_, fun j hj => ?_, (s4.up (by decide)).up (by decide), (s5.un (by decide)).up (by decide)⟩
    · dsimp only
      rw [up2_n (by decide), up2_sn (by omega)]; exact s2 j hj
    · dsimp only
      rw [up2_n (by decide), up2_s]
      by_cases c : j = i
      · rw [c, upd_s]
      · rw [upd_n (by omega)]; exact s3 j (by omega)
  · rintro ⟨s, u⟩ ⟨rfl, s1⟩
    exact ⟨s, by simp only [fX11_feed_23]; rw [if_pos (show (20 : Int32) ≤ nI 20 by decide)], s1⟩
theorem Inv.tape {f : Nat} {M : ST} {A : AS} {hc hm hc' hm' : ST} (h : J f M A hc hm) (h2 : J2 f M hc hm) (hC : Fr [0, 1] hc hc') (hC0 : Fs 0 [1] hc hc') (hM : Fr [0, 18] hm hm') (hM0 : Fs 0 [2, 19] hm hm')
    (ht : ∃ t, t ≤ 700 ∧ hc' 0 1 = nI t ∧ hm' 0 19 = nI t ∧ ∀ i, i < t → byR (hc' 1 i) (hm' 18 i)) : Inv hc' hm' := by
  obtain ⟨hf, h0, hB, hF, hCF, hR, hR1, hA⟩ := id h
  obtain ⟨k1, k2, k3, k4, k5, k6, k7, k8, k9⟩ := id h2
  have e : ∀ i, 2 ≤ i → hc' i = hc i := fun i hi => hC i (by simp only [List.mem_cons, List.not_mem_nil, or_false]; omega)
  refine ⟨f, M, A, ⟨hf, by rw [hC0 3 (by decide)]; exact h0, hB, fun i hi => (hM i ?_).trans (hF i hi), hCF.kept (fun i hi => e i ?_), hR.kept (e _ (by omega)) (e _ (by omega)) (e _ (by omega)) (e _ (by omega)), ?_, hA⟩, ?_⟩
  · simp only [FMl, List.mem_cons, List.not_mem_nil, or_false] at hi ⊢; omega
  · simp only [CFcells, List.mem_cons, List.not_mem_nil, or_false] at hi; omega
  · unfold RM1
    rw [hM0 33 (by decide), hM0 34 (by decide), hM0 35 (by decide), hM 19 (by decide), hM 20 (by decide), hM 21 (by decide)]
    exact hR1
  · unfold J2
    rw [hC0 4 (by decide), hC0 2 (by decide), hC0 8 (by decide), hM0 28 (by decide), hM0 36 (by decide), hM0 37 (by decide), hM0 54 (by decide), hM0 55 (by decide), hM0 56 (by decide), e 213 (by omega), e 385 (by omega), hM 17 (by decide), hM 22 (by decide), hM 33 (by decide), hM 34 (by decide), hM 35 (by decide), hM 37 (by decide), hM 38 (by decide), hM 39 (by decide), hM 40 (by decide), hM 41 (by decide), hM 42 (by decide)]
    refine ⟨k1, ht, k3, fun a b ha hb => by rw [e _ (by omega)]; exact k4 a b ha hb, k5, k6.kept2 (fun i _ _ => e i (by omega)), k7.kept2 (fun i _ _ => e i (by omega)), k8, ?_⟩
    rcases k9 with h9 | ⟨h9, B, b1, b2, b3, b4, b5, b6⟩
    · exact Or.inl h9
    · exact Or.inr ⟨h9, B, b1, b2.kept (e _ (by omega)) (e _ (by omega)) (e _ (by omega)) (e _ (by omega)), b3, b4.kept2 (fun i _ _ => e i (by omega)), b5.kept2 (fun i _ _ => e i (by omega)), b6⟩
theorem t_feed {hc hm : ST} (hI : Inv hc hm) (a1 a2 a3 a4 a5 : Int32) : ∃ y, s_feed hc hm a1 a2 a3 a4 a5 = some y ∧ Inv y.1 y.2 := by
  obtain ⟨f, M, A, h, h2⟩ := hI
  obtain ⟨hf, h0, hB, hF, hCF, hR, hR1, hA⟩ := id h
  have m1 := codeM (M := M) hR1
  unfold s_feed
  apply n_ok
  obtain ⟨k1, ⟨t, t7, t1, t2, t3⟩, -⟩ := id h2
  have g19 : up2 hm 0 2 0 0 19 = nI t := by rw [up2_sn (by decide)]; exact t2
  have e20 : nI t + 20 = nI (t + 20) := nI_add t 20
  by_cases c : t + 20 ≤ 700
  · have le : nI (t + 20) ≤ 700 := nI_le (b := 700) c (by decide)
    obtain ⟨z, z1, z2, z3, z4, z5, z6⟩ := fedM g19 c a1 a2 a3 a4 a5
    have e18 : up2 hm 0 2 0 18 = hm 18 := up2_n (by decide)
    have X0 : ∀ i, i < t → byR (hc 1 i) (z 18 i) := fun i hi => by rw [z3 i hi, e18]; exact t3 i hi
    have bb : ∀ m, m < 5 → ∀ q, q < 4 → z 18 (t + 4 * m + q) = byteM (arg5 a1 a2 a3 a4 a5 (4 * m)) q := fun m hm' q hq => by
      have := z4 (4 * m + q) (by omega)
      rw [← Nat.add_assoc, show (4 * m + q) % 4 = q by omega] at this
      rw [this]
      congr 1
      have : m = 0 ∨ m = 1 ∨ m = 2 ∨ m = 3 ∨ m = 4 := by omega
      unfold arg5
      rcases this with rfl | rfl | rfl | rfl | rfl
      · rw [if_neg (by omega), if_neg (by omega)]
      · rw [if_pos (by omega), if_neg (by omega), if_pos (by omega), if_neg (by omega)]
      · rw [if_pos (by omega), if_pos (by omega), if_neg (by omega), if_pos (by omega), if_pos (by omega), if_neg (by omega)]
      · rw [if_pos (by omega), if_pos (by omega), if_pos (by omega), if_neg (by omega), if_pos (by omega), if_pos (by omega), if_pos (by omega), if_neg (by omega)]
      · rw [if_pos (by omega), if_pos (by omega), if_pos (by omega), if_pos (by omega), if_pos (by omega), if_pos (by omega), if_pos (by omega), if_pos (by omega)]
    obtain ⟨p, p1, p2, p3, p4, p5⟩ := appC t1 (by omega) a1 X0 (fun q hq => bb 0 (by omega) q hq)
    obtain ⟨r, r1, r2, r3, r4, r5⟩ := appC p2 (by omega) a2 p3 (fun q hq => bb 1 (by omega) q hq)
    obtain ⟨s, s1, s2, s3, s4, s5⟩ := appC r2 (by omega) a3 r3 (fun q hq => bb 2 (by omega) q hq)
    obtain ⟨u, u1, u2, u3, u4, u5⟩ := appC s2 (by omega) a4 s3 (fun q hq => bb 3 (by omega) q hq)
    obtain ⟨v, v1, v2, v3, v4, v5⟩ := appC u2 (by omega) a5 u3 (fun q hq => bb 4 (by omega) q hq)
    refine ⟨nI (t + 20), v, z, ?_, ?_, ?_⟩
    · simp only [fX10_feed, t1, e20, if_pos le, p1, r1, s1, u1, v1, bnd_s, v2]
    · simp only [fX11_feed, bnd_s, pw_s, rd_0, rd_1, rd_2, rd_3, rd_4, rd_5, rd_6, wr_0, wr_1, wr_2, wr_3, wr_4, wr_5, zb_0, zb_1, Nat.reduceLT, Nat.reducePow, g19, e20, if_pos le, z1, z2]
    · exact Inv.tape h h2 (p4.tr (r4.tr (s4.tr (u4.tr v4)))) (p5.tr (r5.tr (s5.tr (u5.tr v5)))) ((Fr.rf.up (by decide)).tr z5) ((Fs.rf.up (by decide)).tr (z6.sub (by decide))) ⟨t + 20, c, v2, z2, v3⟩
  · have le : ¬ nI (t + 20) ≤ 700 := nI_ge (a := 700) (b := t + 20) (by omega) (by omega)
    refine ⟨-1, hc, _, ?_, ?_, Inv.ro h h2 (fun _ _ _ _ => rfl) m1⟩
    · simp only [fX10_feed, t1, e20, if_neg le]
    · simp only [fX11_feed, bnd_s, pw_s, rd_0, rd_1, rd_2, rd_3, rd_4, rd_5, rd_6, wr_0, wr_1, wr_2, wr_3, wr_4, wr_5, zb_0, zb_1, Nat.reduceLT, Nat.reducePow, g19, e20, if_neg le]
