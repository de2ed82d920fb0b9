/-! ===== room, blow, wind, alms, lend, riches, game ===== -/
def dcnt (M : ST) (x : Int32) : Nat → Int32
  | 0 => 0
  | i + 1 => dcnt M x i + (if M 8 i = x then 1 else if M 9 i = x then 1 else 0)
theorem doorsC {f : Nat} {M hc : ST} (hB : FB M) (hCF : CF f M hc) (x : Int32) : fX2_doorsOf hc f x = some (dcnt M x (nDo M)) := by
  have h5 : hc f 5 = nI (nDo M) := hCF.1.2.1.trans hB.1.2.2.1
  have h14 := hB.1.2.2.2.1
  have e : lp FU (fX2_doorsOf_4 hc f x) (0, 0) = some (dcnt M x (nDo M)) := by
    refine lp_det (b := fX2_doorsOf_4 hc f x) (fun i => (dcnt M x i, nI i)) (nDo M) (by omega) (fun i hi => ?_) ?_
    · obtain ⟨a, b, ha, hb, hab, e1, e2⟩ := hB.dr i hi
      obtain ⟨E1, E2⟩ := hCF.2.2.1 i hi
      have q1 := nI_ge hi (show nDo M < 2 ^ 31 by omega)
      by_cases c1 : M 8 i = x
      · have n1 : ¬ M 9 i = -1 := by rw [e2]; exact nI_m1ne (by omega)
        simp only [fX2_doorsOf_4, fX2_doorsOf_28, bnd_s, pw_s, rd_0, rd_1, rd_2, rd_3, rd_4, rd_5, rd_6, wr_0, wr_1, wr_2, wr_3, wr_4, wr_5, zb_0, zb_1, Nat.reduceLT, Nat.reducePow, h5, if_neg q1, behindC (show i < 14 by omega), E1, E2, if_pos c1, if_neg n1, nI_1, dcnt]
      · by_cases c2 : M 9 i = x
        · have n1 : ¬ M 8 i = -1 := by rw [e1]; exact nI_m1ne (by omega)
          simp only [fX2_doorsOf_4, fX2_doorsOf_28, bnd_s, pw_s, rd_0, rd_1, rd_2, rd_3, rd_4, rd_5, rd_6, wr_0, wr_1, wr_2, wr_3, wr_4, wr_5, zb_0, zb_1, Nat.reduceLT, Nat.reducePow, h5, if_neg q1, behindC (show i < 14 by omega), E1, E2, if_neg c1, if_pos c2, if_neg n1, nI_1, dcnt]
        · simp only [fX2_doorsOf_4, fX2_doorsOf_28, bnd_s, pw_s, rd_0, rd_1, rd_2, rd_3, rd_4, rd_5, rd_6, wr_0, wr_1, wr_2, wr_3, wr_4, wr_5, zb_0, zb_1, Nat.reduceLT, Nat.reducePow, h5, if_neg q1, behindC (show i < 14 by omega), E1, E2, if_neg c1, if_neg c2, if_true, nI_1, dcnt]
    · simp only [fX2_doorsOf_4, h5, Int32.le_refl, if_true]
  unfold fX2_doorsOf; rw [e, bnd_s]
theorem doorsM {M hm : ST} (hB : FB M) (hF : FM M hm) (x : Int32) : lp FU (fX11_room_110 hm x) (0, 0) = some (dcnt M x (nDo M)) := by
  have f3 : hm 3 = M 3 := hF 3 (by decide)
  have f8 : hm 8 = M 8 := hF 8 (by decide)
  have f9 : hm 9 = M 9 := hF 9 (by decide)
  have b1 := hB.1.2.2.1
  have h14 := hB.1.2.2.2.1
  refine lp_det (b := fX11_room_110 hm x) (fun i => (dcnt M x i, nI i)) (nDo M) (by omega) (fun i hi => ?_) ?_
  · have q1 := nI_ge hi (show nDo M < 2 ^ 31 by omega)
    by_cases c1 : M 8 i = x
    · simp only [fX11_room_110, fX11_room_144, fX11_room_149, bnd_s, pw_s, rd_0, rd_1, rd_2, rd_3, rd_4, rd_5, rd_6, wr_0, wr_1, wr_2, wr_3, wr_4, wr_5, zb_0, zb_1, Nat.reduceLT, Nat.reducePow, f3, f8, b1, if_neg q1, rd_k (n := 28) (show i < 28 by omega), if_pos c1, nI_1, dcnt]
    · by_cases c2 : M 9 i = x
      · simp only [fX11_room_110, fX11_room_144, fX11_room_149, bnd_s, pw_s, rd_0, rd_1, rd_2, rd_3, rd_4, rd_5, rd_6, wr_0, wr_1, wr_2, wr_3, wr_4, wr_5, zb_0, zb_1, Nat.reduceLT, Nat.reducePow, f3, f8, f9, b1, if_neg q1, rd_k (n := 28) (show i < 28 by omega), if_neg c1, if_pos c2, nI_1, dcnt]
      · simp only [fX11_room_110, fX11_room_144, fX11_room_149, bnd_s, pw_s, rd_0, rd_1, rd_2, rd_3, rd_4, rd_5, rd_6, wr_0, wr_1, wr_2, wr_3, wr_4, wr_5, zb_0, zb_1, Nat.reduceLT, Nat.reducePow, f3, f8, f9, b1, if_neg q1, rd_k (n := 28) (show i < 28 by omega), if_neg c1, if_neg c2, nI_1, dcnt]
  · simp only [fX11_room_110, bnd_s, pw_s, rd_0, rd_1, rd_2, rd_3, rd_4, rd_5, rd_6, wr_0, wr_1, wr_2, wr_3, wr_4, wr_5, zb_0, zb_1, Nat.reduceLT, Nat.reducePow, f3, b1, Int32.le_refl, if_true]
theorem t_room {hc hm : ST} (hI : Inv hc hm) (a1 a2 : Int32) : ∃ y, s_room hc hm a1 a2 = some y ∧ Inv y.1 y.2 := by
  obtain ⟨f, M, A, h, h2⟩ := hI
  obtain ⟨hf, h0, hB, hF, hCF, hR, hR1, hA⟩ := id h
  have h9 := hB.1.2.1
  have m1 := codeM (M := M) hR1
  have hF1 := fm_up hF 2 0
  have rff := rf_f hf h0
  unfold s_room fL_room
  apply s_ok
  rcases room_c h a1 with ⟨k, hk, rfl, e1, e2⟩ | ⟨e1, e2⟩
  rotate_left
  · obtain ⟨q1, q2⟩ := failM hR1 1
    refine Or.inr ⟨1, 1, 0, hc, _, ?_, rfl, by decide, ?_, q2.2.2.2, Inv.ro h h2 (fun _ _ _ _ => rfl) q2⟩
    · simp only [fX10_room, bnd_s, pw_s, rd_0, rd_1, rd_2, rd_3, rd_4, rd_5, rd_6, wr_0, wr_1, wr_2, wr_3, wr_4, wr_5, zb_0, zb_1, Nat.reduceLT, Nat.reducePow, e1, sm]
    · simp only [fX11_room, bnd_s, pw_s, rd_0, rd_1, rd_2, rd_3, rd_4, rd_5, rd_6, wr_0, wr_1, wr_2, wr_3, wr_4, wr_5, zb_0, zb_1, Nat.reduceLT, Nat.reducePow, e2 _ hF1, q1, if_true]
  have n1 : ¬ (1 : Int32) = 0 := by decide
  have E2 := e2 _ hF1
  have good : ∀ v, fX10_room hc (nI k) a2 = some (.inl v, hc) → fX11_room hm (nI k) a2 = some (v, up2 hm 0 2 0) → (∃ v h1 hm1, fX10_room hc (nI k) a2 = some (.inl v, h1) ∧ fX11_room hm (nI k) a2 = some (v, hm1) ∧ hm1 0 2 = 0 ∧ Inv h1 hm1) ∨ ∃ j c u h1 hm1, fX10_room hc (nI k) a2 = some (.inr j, h1) ∧ cdN j = some c ∧ ¬ c = 0 ∧ fX11_room hm (nI k) a2 = some (u, hm1) ∧ hm1 0 2 = c ∧ Inv h1 hm1 := fun v q1 q2 => Or.inl ⟨v, _, _, q1, q2, m1.2.2.2, Inv.ro h h2 (fun _ _ _ _ => rfl) m1⟩
  obtain ⟨p1, p2, p3⟩ := hCF.2.1 k hk
  have g4 : up2 hm 0 2 0 4 = M 4 := hF1 4 (by decide)
  have g5 : up2 hm 0 2 0 5 = M 5 := hF1 5 (by decide)
  have g7 : up2 hm 0 2 0 7 = M 7 := hF1 7 (by decide)
  have R1 := m1.2.2.1
  have R2 := (R1.2.1 k hk).1
  have R3 := (R1.2.1 k hk).2
  have H1 : hc 44 k = aD A k := (hR.2.1 k hk).1
  have H2 : hc 45 k = aB A k := (hR.2.1 k hk).2
  by_cases c0 : a2 = 0
  · subst c0; exact good (M 4 k) (by simp only [fX10_room, bnd_s, pw_s, rd_0, rd_1, rd_2, rd_3, rd_4, rd_5, rd_6, wr_0, wr_1, wr_2, wr_3, wr_4, wr_5, zb_0, zb_1, Nat.reduceLT, Nat.reducePow, e1, sm, if_true, rff, rd_k (n := 9) (show k < 9 by omega), p1]) (by simp only [fX11_room, bnd_s, pw_s, rd_0, rd_1, rd_2, rd_3, rd_4, rd_5, rd_6, wr_0, wr_1, wr_2, wr_3, wr_4, wr_5, zb_0, zb_1, Nat.reduceLT, Nat.reducePow, E2, if_neg n1, if_true, rd_k (n := 18) (show k < 18 by omega), g4])
  by_cases c1 : a2 = 1
  · subst c1; exact good (M 5 k) (by simp only [fX10_room, bnd_s, pw_s, rd_0, rd_1, rd_2, rd_3, rd_4, rd_5, rd_6, wr_0, wr_1, wr_2, wr_3, wr_4, wr_5, zb_0, zb_1, Nat.reduceLT, Nat.reducePow, e1, sm, if_neg c0, if_true, rff, rd_k (n := 9) (show k < 9 by omega), p2]) (by simp only [fX11_room, bnd_s, pw_s, rd_0, rd_1, rd_2, rd_3, rd_4, rd_5, rd_6, wr_0, wr_1, wr_2, wr_3, wr_4, wr_5, zb_0, zb_1, Nat.reduceLT, Nat.reducePow, E2, if_neg n1, if_true, rd_k (n := 18) (show k < 18 by omega), g5])
  by_cases c2 : a2 = 2
  · subst c2; exact good (aD A k) (by simp only [fX10_room, bnd_s, pw_s, rd_0, rd_1, rd_2, rd_3, rd_4, rd_5, rd_6, wr_0, wr_1, wr_2, wr_3, wr_4, wr_5, zb_0, zb_1, Nat.reduceLT, Nat.reducePow, e1, sm, if_neg c0, if_neg c1, if_true, rd_k (n := 9) (show k < 9 by omega), H1]) (by simp only [fX11_room, bnd_s, pw_s, rd_0, rd_1, rd_2, rd_3, rd_4, rd_5, rd_6, wr_0, wr_1, wr_2, wr_3, wr_4, wr_5, zb_0, zb_1, Nat.reduceLT, Nat.reducePow, E2, if_neg n1, if_neg c0, if_neg c1, if_true, rd_k (n := 9) (show k < 9 by omega), R2])
  by_cases c3 : a2 = 3
  · subst c3; exact good (M 7 k) (by simp only [fX10_room, bnd_s, pw_s, rd_0, rd_1, rd_2, rd_3, rd_4, rd_5, rd_6, wr_0, wr_1, wr_2, wr_3, wr_4, wr_5, zb_0, zb_1, Nat.reduceLT, Nat.reducePow, e1, sm, if_neg c0, if_neg c1, if_neg c2, if_true, rff, rd_k (n := 9) (show k < 9 by omega), p3]) (by simp only [fX11_room, bnd_s, pw_s, rd_0, rd_1, rd_2, rd_3, rd_4, rd_5, rd_6, wr_0, wr_1, wr_2, wr_3, wr_4, wr_5, zb_0, zb_1, Nat.reduceLT, Nat.reducePow, E2, if_neg n1, if_neg c0, if_neg c1, if_neg c2, if_true, rd_k (n := 18) (show k < 18 by omega), g7])
  by_cases c4 : a2 = 4
  · subst c4; exact good (aB A k) (by simp only [fX10_room, bnd_s, pw_s, rd_0, rd_1, rd_2, rd_3, rd_4, rd_5, rd_6, wr_0, wr_1, wr_2, wr_3, wr_4, wr_5, zb_0, zb_1, Nat.reduceLT, Nat.reducePow, e1, sm, if_neg c0, if_neg c1, if_neg c2, if_neg c3, if_true, rd_k (n := 9) (show k < 9 by omega), H2]) (by simp only [fX11_room, bnd_s, pw_s, rd_0, rd_1, rd_2, rd_3, rd_4, rd_5, rd_6, wr_0, wr_1, wr_2, wr_3, wr_4, wr_5, zb_0, zb_1, Nat.reduceLT, Nat.reducePow, E2, if_neg n1, if_neg c0, if_neg c1, if_neg c2, if_neg c3, if_true, rd_k (n := 9) (show k < 9 by omega), R3])
  by_cases c5 : a2 = 5
  · subst c5
    obtain ⟨z, z1, z2⟩ := titheC hf (Or.inl rfl) hB hCF (A := A) hk hR.1.1 H1 H2
    obtain ⟨r, r1, r2⟩ := titheM hB hF1 (A := A) hk R1.1.1 R2 R3
    have m2 : MR M A 0 hm r := by
      refine ⟨m1.1.tr (r2.sub (by decide)), m1.2.1.tr (Fs.of r2 (by decide)), ?_, by rw [r2 0 (by decide)]; exact m1.2.2.2⟩
      unfold RM1
      rw [r2 0 (by decide), r2 19 (by decide), r2 20 (by decide), r2 21 (by decide)]
      exact R1
    refine Or.inl ⟨tv M A k, z, r, ?_, ?_, m2.2.2.2, Inv.ro h h2 (KcE.of z2 (fun i hi => by simp only [List.mem_cons, List.not_mem_nil, or_false] at hi; omega)) m2⟩
    · simp only [fX10_room, bnd_s, pw_s, rd_0, rd_1, rd_2, rd_3, rd_4, rd_5, rd_6, wr_0, wr_1, wr_2, wr_3, wr_4, wr_5, zb_0, zb_1, Nat.reduceLT, Nat.reducePow, e1, sm, if_neg c0, if_neg c1, if_neg c2, if_neg c3, if_neg c4, if_true, rff, z1]
    · simp only [fX11_room, bnd_s, pw_s, rd_0, rd_1, rd_2, rd_3, rd_4, rd_5, rd_6, wr_0, wr_1, wr_2, wr_3, wr_4, wr_5, zb_0, zb_1, Nat.reduceLT, Nat.reducePow, E2, if_neg n1, if_neg c0, if_neg c1, if_neg c2, if_neg c3, if_neg c4, if_true, r1]
  by_cases c6 : a2 = 6
  · subst c6; exact good (dcnt M (nI k) (nDo M)) (by simp only [fX10_room, bnd_s, pw_s, rd_0, rd_1, rd_2, rd_3, rd_4, rd_5, rd_6, wr_0, wr_1, wr_2, wr_3, wr_4, wr_5, zb_0, zb_1, Nat.reduceLT, Nat.reducePow, e1, sm, if_neg c0, if_neg c1, if_neg c2, if_neg c3, if_neg c4, if_neg c5, if_true, rff, doorsC hB hCF]) (by simp only [fX11_room, bnd_s, pw_s, rd_0, rd_1, rd_2, rd_3, rd_4, rd_5, rd_6, wr_0, wr_1, wr_2, wr_3, wr_4, wr_5, zb_0, zb_1, Nat.reduceLT, Nat.reducePow, E2, if_neg n1, if_neg c0, if_neg c1, if_neg c2, if_neg c3, if_neg c4, if_neg c5, if_true, doorsM hB hF1])
  obtain ⟨q1, q2⟩ := failM hR1 1
  refine Or.inr ⟨1, 1, 0, hc, _, ?_, rfl, by decide, ?_, q2.2.2.2, Inv.ro h h2 (fun _ _ _ _ => rfl) q2⟩
  · simp only [fX10_room, bnd_s, pw_s, rd_0, rd_1, rd_2, rd_3, rd_4, rd_5, rd_6, wr_0, wr_1, wr_2, wr_3, wr_4, wr_5, zb_0, zb_1, Nat.reduceLT, Nat.reducePow, e1, sm, if_neg c0, if_neg c1, if_neg c2, if_neg c3, if_neg c4, if_neg c5, if_neg c6]
  · simp only [fX11_room, bnd_s, pw_s, rd_0, rd_1, rd_2, rd_3, rd_4, rd_5, rd_6, wr_0, wr_1, wr_2, wr_3, wr_4, wr_5, zb_0, zb_1, Nat.reduceLT, Nat.reducePow, E2, if_neg n1, if_neg c0, if_neg c1, if_neg c2, if_neg c3, if_neg c4, if_neg c5, if_neg c6, q1]
/-- a number within bounds, as both ask -/
theorem in_c (lo hi : Nat) (hlo : lo ≤ hi) (hhi : hi < 2 ^ 31) (a : Int32) : (∃ n, lo ≤ n ∧ n ≤ hi ∧ a = nI n ∧ ∀ h, fX11_isIn h a.toInt64 (nI lo).toInt64 (nI hi).toInt64 = some 1) ∨ (¬ (nI lo ≤ a ∧ a ≤ nI hi) ∧ ∀ h, fX11_isIn h a.toInt64 (nI lo).toInt64 (nI hi).toInt64 = some 0) := by
  by_cases c : nI lo ≤ a ∧ a ≤ nI hi
  · have c0 : ¬ a < 0 := fun q => nI_pos (n := lo) (by omega) (Int32.lt_of_le_of_lt c.1 q)
    obtain ⟨n, hn, rfl⟩ := nI_of c0
    exact Or.inl ⟨n, (nI_leI (by omega) hn).mp c.1, (nI_leI hn hhi).mp c.2, rfl, fun h => isIn_y c.1 c.2⟩
  · exact Or.inr ⟨c, fun h => isIn_n c⟩
theorem t_wind {hc hm : ST} (hI : Inv hc hm) (a1 : Int32) : ∃ y, s_wind hc hm a1 = some y ∧ Inv y.1 y.2 := by
  obtain ⟨f, M, A, h, h2⟩ := hI
  obtain ⟨hf, h0, hB, hF, hCF, hR, hR1, hA⟩ := id h
  have m1 := codeM (M := M) hR1
  unfold s_wind fL_wind
  apply s_okr
  rcases in_c 0 9999 (by decide) (by decide) a1 with ⟨n, -, hn, rfl, e⟩ | ⟨c, e⟩
  · have e : fX11_isIn (up2 hm 0 2 0) (nI n).toInt64 (0 : Int64) (9999 : Int64) = some 1 := e _
    refine Or.inl ⟨aWindOf M A (nI n), _, ?_, ?_, m1.2.2.2, Inv.ro h h2 (fun _ _ _ _ => rfl) m1⟩
    · simp only [fX10_wind, bnd_s, pw_s, rd_0, rd_1, rd_2, rd_3, rd_4, rd_5, rd_6, wr_0, wr_1, wr_2, wr_3, wr_4, wr_5, zb_0, zb_1, Nat.reduceLT, Nat.reducePow, if_neg (nI_pos (show n < 2 ^ 31 by omega)), if_pos (show nI n ≤ 9999 from nI_le (b := 9999) hn (by decide)), rf_f hf h0, f_windC hB hCF hR (show n < 2 ^ 31 by omega)]
    · simp only [fX11_wind, fX11_wind_30, bnd_s, pw_s, rd_0, rd_1, rd_2, rd_3, rd_4, rd_5, rd_6, wr_0, wr_1, wr_2, wr_3, wr_4, wr_5, zb_0, zb_1, Nat.reduceLT, Nat.reducePow, e, if_neg (show ¬ (1 : Int32) = 0 by decide), f_windM hB (fm_up hF 2 0) m1.2.2.1 (show n < 2 ^ 31 by omega)]
  · have e : fX11_isIn (up2 hm 0 2 0) a1.toInt64 (0 : Int64) (9999 : Int64) = some 0 := e _
    obtain ⟨q1, q2⟩ := failM hR1 1
    refine Or.inr ⟨2, 1, 0, _, ?_, rfl, by decide, ?_, q2.2.2.2, Inv.ro h h2 (fun _ _ _ _ => rfl) q2⟩
    · by_cases c1 : a1 < 0
      · simp only [fX10_wind, fX10_wind_11, if_pos c1]
      · simp only [fX10_wind, fX10_wind_11, if_neg c1, if_neg (show ¬ a1 ≤ 9999 from fun q => c ⟨Int32.not_lt.mp c1, q⟩)]
    · simp only [fX11_wind, fX11_wind_30, bnd_s, pw_s, rd_0, rd_1, rd_2, rd_3, rd_4, rd_5, rd_6, wr_0, wr_1, wr_2, wr_3, wr_4, wr_5, zb_0, zb_1, Nat.reduceLT, Nat.reducePow, e, q1, if_true]
theorem sub_m1 {n : Nat} (h : n < 2 ^ 31) {a : Int32} : a ≤ nI n - 1 ↔ a < nI n := by
  have e : (nI n - 1).toInt = (n : Int) - 1 := by
    rw [Int32.toInt_sub, nI_toInt h]
    show Int.bmod ((n : Int) - 1) (2 ^ 32) = _
    exact Int.bmod_eq_of_le (by omega) (by omega)
  rw [Int32.le_iff_toInt_le, Int32.lt_iff_toInt_lt, e, nI_toInt h]
  omega
theorem zm64 : ((-1) : Int64) = (-1 : Int32).toInt64 := by
  apply Int64.toInt_inj.mp
  rw [Int32.toInt_toInt64]
  rfl
theorem isIn_m1y {h : ST} {a u : Int32} (h1 : -1 ≤ a) (h2 : a ≤ u) : fX11_isIn h a.toInt64 ((-1) : Int64) u.toInt64 = some 1 := by
  have h9 := isIn_y (h := h) h1 h2
  rw [← zm64] at h9
  exact h9
theorem isIn_m1n {h : ST} {a u : Int32} (h1 : ¬ (-1 ≤ a ∧ a ≤ u)) : fX11_isIn h a.toInt64 ((-1) : Int64) u.toInt64 = some 0 := by
  have h9 := isIn_n (h := h) h1
  rw [← zm64] at h9
  exact h9
theorem t_blow {hc hm : ST} (hI : Inv hc hm) (a1 a2 a3 : Int32) : ∃ y, s_blow hc hm a1 a2 a3 = some y ∧ Inv y.1 y.2 := by
  obtain ⟨f, M, A, h, h2⟩ := hI
  obtain ⟨hf, h0, hB, hF, hCF, hR, hR1, hA⟩ := id h
  have m1 := codeM (M := M) hR1
  have hF1 := fm_up hF 2 0
  have rff := rf_f hf h0
  have bW := hB.1.2.2.2.2.1
  have hW := hB.1.2.2.2.2.2.1
  have g3 : up2 hm 0 2 0 3 = M 3 := hF1 3 (by decide)
  have g11 : up2 hm 0 2 0 11 = M 11 := hF1 11 (by decide)
  have g12 : up2 hm 0 2 0 12 = M 12 := hF1 12 (by decide)
  have g13 : up2 hm 0 2 0 13 = M 13 := hF1 13 (by decide)
  have g14 : up2 hm 0 2 0 14 = M 14 := hF1 14 (by decide)
  have f8 : hc f 8 = nI (nW M) := hCF.1.2.2.1.trans bW
  have n1 : ¬ (1 : Int32) = 0 := by decide
  obtain ⟨q1, q2⟩ := failM hR1 1
  unfold s_blow fL_blow
  apply s_okr
  have bad : fX10_blow hc a1 a2 a3 = some (.inr 1) → fX11_blow hm a1 a2 a3 = some (0, up2 (up2 hm 0 2 0) 0 2 1) → (∃ v hm1, fX10_blow hc a1 a2 a3 = some (.inl v) ∧ fX11_blow hm a1 a2 a3 = some (v, hm1) ∧ hm1 0 2 = 0 ∧ Inv hc hm1) ∨ ∃ k c u hm1, fX10_blow hc a1 a2 a3 = some (.inr k) ∧ cdN k = some c ∧ ¬ c = 0 ∧ fX11_blow hm a1 a2 a3 = some (u, hm1) ∧ hm1 0 2 = c ∧ Inv hc hm1 := fun x y => Or.inr ⟨1, 1, 0, _, x, rfl, by decide, y, q2.2.2.2, Inv.ro h h2 (fun _ _ _ _ => rfl) q2⟩
  have good : ∀ v, fX10_blow hc a1 a2 a3 = some (.inl v) → fX11_blow hm a1 a2 a3 = some (v, up2 hm 0 2 0) → (∃ v hm1, fX10_blow hc a1 a2 a3 = some (.inl v) ∧ fX11_blow hm a1 a2 a3 = some (v, hm1) ∧ hm1 0 2 = 0 ∧ Inv hc hm1) ∨ ∃ k c u hm1, fX10_blow hc a1 a2 a3 = some (.inr k) ∧ cdN k = some c ∧ ¬ c = 0 ∧ fX11_blow hm a1 a2 a3 = some (u, hm1) ∧ hm1 0 2 = c ∧ Inv hc hm1 := fun v x y => Or.inl ⟨v, _, x, y, m1.2.2.2, Inv.ro h h2 (fun _ _ _ _ => rfl) m1⟩
  have z0 : (0 : Int64) = (0 : Int32).toInt64 := rfl
  by_cases c1 : 0 ≤ a1 ∧ a1 < nI (nW M)
  rotate_left
  · refine bad ?_ ?_
    · by_cases c : a1 < 0
      · simp only [fX10_blow, fX10_blow_24, if_pos c]
      · simp only [fX10_blow, fX10_blow_24, bnd_s, pw_s, rd_0, rd_1, rd_2, rd_3, rd_4, rd_5, rd_6, wr_0, wr_1, wr_2, wr_3, wr_4, wr_5, zb_0, zb_1, Nat.reduceLT, Nat.reducePow, if_neg c, rff, f8, if_pos (Int32.not_lt.mp (fun q => c1 ⟨Int32.not_lt.mp c, q⟩))]
    · simp only [fX11_blow, fX11_blow_55, bnd_s, pw_s, rd_0, rd_1, rd_2, rd_3, rd_4, rd_5, rd_6, wr_0, wr_1, wr_2, wr_3, wr_4, wr_5, zb_0, zb_1, Nat.reduceLT, Nat.reducePow, g3, bW, z0, isIn_n (show ¬ (0 ≤ a1 ∧ a1 ≤ nI (nW M) - 1) from fun q => c1 ⟨q.1, (sub_m1 (by omega)).mp q.2⟩), if_true, q1]
  obtain ⟨w, hw31, rfl⟩ := nI_of (Int32.not_lt.mpr c1.1)
  have hw : w < nW M := (nI_ltI hw31 (by omega)).mp c1.2
  have i1 : ∀ hh, fX11_isIn hh (nI w).toInt64 (0 : Int32).toInt64 (nI (nW M) - 1).toInt64 = some 1 := fun hh => isIn_y c1.1 ((sub_m1 (by omega)).mpr c1.2)
  have p1 : ¬ nI w < 0 := Int32.not_lt.mpr c1.1
  have p2 : ¬ nI (nW M) ≤ nI w := Int32.not_le.mpr c1.2
  by_cases c3 : 0 ≤ a3 ∧ a3 ≤ 2
  rotate_left
  · refine bad ?_ ?_
    · by_cases c : a3 < 0
      · simp only [fX10_blow, fX10_blow_24, bnd_s, pw_s, rd_0, rd_1, rd_2, rd_3, rd_4, rd_5, rd_6, wr_0, wr_1, wr_2, wr_3, wr_4, wr_5, zb_0, zb_1, Nat.reduceLT, Nat.reducePow, if_neg p1, rff, f8, if_neg p2, if_pos c]
      · simp only [fX10_blow, fX10_blow_24, bnd_s, pw_s, rd_0, rd_1, rd_2, rd_3, rd_4, rd_5, rd_6, wr_0, wr_1, wr_2, wr_3, wr_4, wr_5, zb_0, zb_1, Nat.reduceLT, Nat.reducePow, if_neg p1, rff, f8, if_neg p2, if_neg c, if_neg (fun q => c3 ⟨Int32.not_lt.mp c, q⟩)]
    · simp only [fX11_blow, fX11_blow_55, bnd_s, pw_s, rd_0, rd_1, rd_2, rd_3, rd_4, rd_5, rd_6, wr_0, wr_1, wr_2, wr_3, wr_4, wr_5, zb_0, zb_1, Nat.reduceLT, Nat.reducePow, g3, bW, z0, i1, if_neg n1, show (2 : Int64) = (2 : Int32).toInt64 from rfl, isIn_n c3, if_true, q1]
  have i3 : ∀ hh, fX11_isIn hh a3.toInt64 (0 : Int32).toInt64 (2 : Int32).toInt64 = some 1 := fun hh => isIn_y c3.1 c3.2
  have p3 : ¬ a3 < 0 := Int32.not_lt.mpr c3.1
  obtain ⟨kk, hk8, hk, hblow⟩ := hB.2.2.2.2.1 w hw
  obtain ⟨G7, G8⟩ := hCF.2.2.2.1 w hw
  by_cases c2 : a2 = -1
  · subst c2
    refine good (M 11 w) ?_ ?_
    · unfold fX10_blow
      rw [if_neg p1, rff, bnd_s, f8, if_neg p2, if_neg p3, if_pos c3.2, if_pos rfl, bnd_s, rd_k (n := 5) (show w < 5 by omega), bnd_s, G7]
    · have i2 : ∀ hh, fX11_isIn hh (-1 : Int32).toInt64 ((-1) : Int64) (nI kk - 1).toInt64 = some 1 := fun hh => isIn_m1y (Int32.le_refl _) ((sub_m1 (by omega)).mpr (Int32.lt_of_lt_of_le (by decide : (-1 : Int32) < 0) (nI_pos' (by omega))))
      simp only [fX11_blow, fX11_blow_119, bnd_s, pw_s, rd_0, rd_1, rd_2, rd_3, rd_4, rd_5, rd_6, wr_0, wr_1, wr_2, wr_3, wr_4, wr_5, zb_0, zb_1, Nat.reduceLT, Nat.reducePow, g3, bW, z0, i1, if_neg n1, show (2 : Int64) = (2 : Int32).toInt64 from rfl, i3, rd_k (n := 10) (show w < 10 by omega), g11, hk, i2, if_true]
  by_cases c4 : 0 ≤ a2 ∧ a2 < nI kk
  rotate_left
  · have nn : ¬ ((-1 : Int32) ≤ a2 ∧ a2 ≤ nI kk - 1) := by
      rintro ⟨u1, u2⟩
      have u2 := (sub_m1 (by omega)).mp u2
      refine c4 ⟨?_, u2⟩
      rw [Int32.le_iff_toInt_le] at u1 ⊢
      have : a2.toInt ≠ -1 := fun q => c2 (Int32.toInt_inj.mp q)
      have u1 : -1 ≤ a2.toInt := u1
      show 0 ≤ a2.toInt
      omega
    refine bad ?_ ?_
    · by_cases c : a2 < 0
      · simp only [fX10_blow, fX10_blow_64, bnd_s, pw_s, rd_0, rd_1, rd_2, rd_3, rd_4, rd_5, rd_6, wr_0, wr_1, wr_2, wr_3, wr_4, wr_5, zb_0, zb_1, Nat.reduceLT, Nat.reducePow, if_neg p1, rff, f8, if_neg p2, if_neg p3, if_pos c3.2, if_neg c2, if_pos c]
      · simp only [fX10_blow, fX10_blow_64, bnd_s, pw_s, rd_0, rd_1, rd_2, rd_3, rd_4, rd_5, rd_6, wr_0, wr_1, wr_2, wr_3, wr_4, wr_5, zb_0, zb_1, Nat.reduceLT, Nat.reducePow, if_neg p1, rff, f8, if_neg p2, if_neg p3, if_pos c3.2, if_neg c2, if_neg c, rd_k (n := 5) (show w < 5 by omega), G7, hk, if_neg (fun q => c4 ⟨Int32.not_lt.mp c, q⟩)]
    · simp only [fX11_blow, fX11_blow_55, bnd_s, pw_s, rd_0, rd_1, rd_2, rd_3, rd_4, rd_5, rd_6, wr_0, wr_1, wr_2, wr_3, wr_4, wr_5, zb_0, zb_1, Nat.reduceLT, Nat.reducePow, g3, bW, z0, i1, if_neg n1, show (2 : Int64) = (2 : Int32).toInt64 from rfl, i3, rd_k (n := 10) (show w < 10 by omega), g11, hk, isIn_m1n nn, if_true, q1]
  obtain ⟨j, hj31, rfl⟩ := nI_of (Int32.not_lt.mpr c4.1)
  have hj : j < kk := (nI_ltI hj31 (by omega)).mp c4.2
  have i2 : ∀ hh, fX11_isIn hh (nI j).toInt64 ((-1) : Int64) (nI kk - 1).toInt64 = some 1 := fun hh => isIn_m1y (Int32.le_trans (by decide : (-1 : Int32) ≤ 0) c4.1) ((sub_m1 (by omega)).mpr c4.2)
  obtain ⟨H8, H9, H10⟩ := G8 j (by rw [hk, nI_clamp (by omega)]; exact hj)
  have e8 : nI w * 8 + nI j = nI (8 * w + j) := by rw [show (8 : Int32) = nI 8 from rfl, nI_mul, nI_add, Nat.mul_comm]
  have e9 : 8 * nI w + nI j = nI (8 * w + j) := by rw [show (8 : Int32) = nI 8 from rfl, nI_mul, nI_add]
  have p4 : ¬ nI j < 0 := Int32.not_lt.mpr c4.1
  by_cases d0 : a3 = 0
  · refine good (M 12 (8 * w + j)) ?_ ?_
    · simp only [fX10_blow, fX10_blow_125, bnd_s, pw_s, rd_0, rd_1, rd_2, rd_3, rd_4, rd_5, rd_6, wr_0, wr_1, wr_2, wr_3, wr_4, wr_5, zb_0, zb_1, Nat.reduceLT, Nat.reducePow, if_neg p1, rff, f8, if_neg p2, if_neg p3, if_pos c3.2, if_neg c2, if_neg p4, rd_k (n := 5) (show w < 5 by omega), G7, hk, if_pos c4.2, if_pos d0, e8, rd_k (n := 40) (show 8 * w + j < 40 by omega), H8]
    · simp only [fX11_blow, fX11_blow_119, bnd_s, pw_s, rd_0, rd_1, rd_2, rd_3, rd_4, rd_5, rd_6, wr_0, wr_1, wr_2, wr_3, wr_4, wr_5, zb_0, zb_1, Nat.reduceLT, Nat.reducePow, g3, bW, z0, i1, if_neg n1, show (2 : Int64) = (2 : Int32).toInt64 from rfl, i3, rd_k (n := 10) (show w < 10 by omega), g11, hk, i2, if_neg c2, if_pos d0, e9, rd_k (n := 80) (show 8 * w + j < 80 by omega), g12]
  by_cases d1 : a3 = 1
  · refine good (M 13 (8 * w + j)) ?_ ?_
    · simp only [fX10_blow, fX10_blow_125, bnd_s, pw_s, rd_0, rd_1, rd_2, rd_3, rd_4, rd_5, rd_6, wr_0, wr_1, wr_2, wr_3, wr_4, wr_5, zb_0, zb_1, Nat.reduceLT, Nat.reducePow, if_neg p1, rff, f8, if_neg p2, if_neg p3, if_pos c3.2, if_neg c2, if_neg p4, rd_k (n := 5) (show w < 5 by omega), G7, hk, if_pos c4.2, if_neg d0, if_pos d1, e8, rd_k (n := 40) (show 8 * w + j < 40 by omega), H9]
    · simp only [fX11_blow, fX11_blow_119, bnd_s, pw_s, rd_0, rd_1, rd_2, rd_3, rd_4, rd_5, rd_6, wr_0, wr_1, wr_2, wr_3, wr_4, wr_5, zb_0, zb_1, Nat.reduceLT, Nat.reducePow, g3, bW, z0, i1, if_neg n1, show (2 : Int64) = (2 : Int32).toInt64 from rfl, i3, rd_k (n := 10) (show w < 10 by omega), g11, hk, i2, if_neg c2, if_neg d0, if_pos d1, e9, rd_k (n := 80) (show 8 * w + j < 80 by omega), g13]
  refine good (M 14 (8 * w + j)) ?_ ?_
  · simp only [fX10_blow, fX10_blow_125, bnd_s, pw_s, rd_0, rd_1, rd_2, rd_3, rd_4, rd_5, rd_6, wr_0, wr_1, wr_2, wr_3, wr_4, wr_5, zb_0, zb_1, Nat.reduceLT, Nat.reducePow, if_neg p1, rff, f8, if_neg p2, if_neg p3, if_pos c3.2, if_neg c2, if_neg p4, rd_k (n := 5) (show w < 5 by omega), G7, hk, if_pos c4.2, if_neg d0, if_neg d1, e8, rd_k (n := 40) (show 8 * w + j < 40 by omega), H10]
  · simp only [fX11_blow, fX11_blow_119, bnd_s, pw_s, rd_0, rd_1, rd_2, rd_3, rd_4, rd_5, rd_6, wr_0, wr_1, wr_2, wr_3, wr_4, wr_5, zb_0, zb_1, Nat.reduceLT, Nat.reducePow, g3, bW, z0, i1, if_neg n1, show (2 : Int64) = (2 : Int32).toInt64 from rfl, i3, rd_k (n := 10) (show w < 10 by omega), g11, hk, i2, if_neg c2, if_neg d0, if_neg d1, e9, rd_k (n := 80) (show 8 * w + j < 80 by omega), g14]
