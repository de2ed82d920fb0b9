/-! ===== parish: how a reading begins ===== -/
def vk50 (i : Nat) : Int32 := if i = 4 then 7 else if i = 5 then 10 else 0
def tS (t : ST) : Nat → ST
  | 0 => t
  | i + 1 => up2 (tS t i) 3 (7 + i) (vk50 i)
theorem tS_n {t : ST} : ∀ i {j : Nat}, j ≠ 3 → tS t i j = t j
  | 0, _, _ => rfl
  | i + 1, j, h => by
    show up2 (tS t i) 3 (7 + i) (vk50 i) j = t j
    rw [up2_n h]; exact tS_n i h
theorem tS_v {t : ST} : ∀ i k, k < i → tS t i 3 (7 + k) = vk50 k
  | 0, _, h => absurd h (Nat.not_lt_zero _)
  | i + 1, k, h => by
    show up2 (tS t i) 3 (7 + i) (vk50 i) 3 (7 + k) = vk50 k
    by_cases c : k = i
    · rw [c, up2_ss]
    · rw [up2_sn (by omega)]; exact tS_v i k (by omega)
theorem tS_m {t : ST} : ∀ i, MG t (tS t i)
  | 0 => MG.rf
  | i + 1 => (tS_m i).up (by decide) (by decide) (by unfold hfz; simp)
theorem loop50 (t : ST) : lp FU fX11_parish_50 (t, 0) = some (tS t 7) := by
  refine lp_det (b := fX11_parish_50) (fun i => (tS t i, nI i)) 7 (by decide) (fun i hi => ?_) ?_
  · have ix : (7 : Int32) + nI i = nI (7 + i) := nI_add 7 i
    have wr' : ∀ v, wr 14 (tS t i) 3 (7 + nI i) v = some (up2 (tS t i) 3 (7 + i) v) := fun v => by rw [ix]; exact wr_k (n := 14) (show 7 + i < 14 by omega)
    unfold fX11_parish_50 fX11_parish_85
    dsimp only
    rw [if_neg (show ¬ 7 ≤ nI i from nI_ge (b := 7) hi (by decide)), wr', wr', wr', bnd_s, bnd_s, bnd_s, nI_1]
    show _ = some (Sum.inl (up2 (tS t i) 3 (7 + i) (vk50 i), nI (i + 1)))
    unfold vk50
    have e4 : nI i = 4 ↔ i = 4 := nI_eq (b := 4) (by omega) (by decide)
    have e5 : nI i = 5 ↔ i = 5 := nI_eq (b := 5) (by omega) (by decide)
    by_cases c4 : i = 4
    · rw [if_pos (e4.mpr c4), if_pos c4]
    · rw [if_neg (fun z => c4 (e4.mp z)), if_neg c4]
      by_cases c5 : i = 5
      · rw [if_pos (e5.mpr c5), if_pos c5]
      · rw [if_neg (fun z => c5 (e5.mp z)), if_neg c5]
  · unfold fX11_parish_50
    dsimp only
    rw [if_pos (show (7 : Int32) ≤ nI 7 by decide)]
theorem readX {g : Nat} (hg : g = 2 ∨ g = 20) {h t : ST} {B : Nat → Nat} {L : Nat} (b : BY B L h t) (cs : CS t) :
    ∃ c h' t', fX4_read h (nI L) g = some (c, h') ∧ (bnd (pw t 0 21 (nI L)) fun h9 => bnd (pw h9 0 20 0) fun h11 => bnd (pw h11 0 26 0) fun h13 => bnd (pw h13 0 28 (-1)) fun h15 => bnd (lp FU fX11_parish_50 (h15, 0)) fun x22 => bnd (fX11_stepOn x22) fun r24 => lp FU fX11_parish_98 (r24, 0)) = some t' ∧ KG g h h' ∧ MG (up2 t 0 28 (-1)) t' ∧
      ((c = 0 ∧ t' 0 26 = 0 ∧ ∃ nr nd nw nc nz, HF g h' t' nr nd nw nc nz) ∨ BD h' t' c) := by
  have L7 := b.1
  obtain ⟨hA, eA⟩ : ∃ hA, hA = up2 h 38 2 (Int32.ofNat g) := ⟨_, rfl⟩
  obtain ⟨hB, eB⟩ : ∃ hB, hB = up2 (up2 (up2 (up2 (up2 (up2 (up2 hA g 0 0) g 5 0) g 8 0) g 13 0) g 15 7) g 16 10) (g + 12) 1 0 := ⟨_, rfl⟩
  obtain ⟨z, z1, z2, z3⟩ := fillJ (h := hB) (o := g + 16) (n := 81) (by decide) (-1)
  obtain ⟨hC, eC⟩ : ∃ hC, hC = up2 (up2 (up2 (up2 z 38 4 0) 38 5 0) 38 6 0) 38 7 0 := ⟨_, rfl⟩
  obtain ⟨hD, eD⟩ : ∃ hD, hD = up2 (up2 hC 39 5 (nI L)) 39 4 0 := ⟨_, rfl⟩
  obtain ⟨tA, mA⟩ : ∃ tA, tA = up2 (up2 (up2 (up2 t 0 21 (nI L)) 0 20 0) 0 26 0) 0 28 (-1) := ⟨_, rfl⟩
  obtain ⟨tB, mB⟩ : ∃ tB, tB = tS tA 7 := ⟨_, rfl⟩
  have Dk : ∀ i, i ≠ g → i ≠ g + 12 → i ≠ g + 16 → i ≠ 38 → i ≠ 39 → hD i = h i := fun i a b c d e => by
    rw [eD, up2_n e, up2_n e, eC, up2_n d, up2_n d, up2_n d, up2_n d, z3 i (by simp only [List.mem_cons, List.not_mem_nil, or_false]; omega), eB, up2_n b, up2_n a, up2_n a, up2_n a, up2_n a, up2_n a, up2_n a, eA, up2_n d]
  have Dg : hD g = hB g := by rw [eD, up2_n (by omega), up2_n (by omega), eC, up2_n (by omega), up2_n (by omega), up2_n (by omega), up2_n (by omega), z3 g (by simp only [List.mem_cons, List.not_mem_nil, or_false]; omega)]
  have Dg12 : hD (g + 12) 1 = 0 := by rw [eD, up2_n (by omega), up2_n (by omega), eC, up2_n (by omega), up2_n (by omega), up2_n (by omega), up2_n (by omega), z3 (g + 12) (by simp only [List.mem_cons, List.not_mem_nil, or_false]; omega), eB, up2_ss]
  have Dg16 : hD (g + 16) = z (g + 16) := by rw [eD, up2_n (by omega), up2_n (by omega), eC, up2_n (by omega), up2_n (by omega), up2_n (by omega), up2_n (by omega)]
  have D38 : hD 38 = hC 38 := by rw [eD, up2_n (by decide), up2_n (by decide)]
  have z38 : z 38 = up2 h 38 2 (Int32.ofNat g) 38 := by rw [z3 38 (by simp only [List.mem_cons, List.not_mem_nil, or_false]; omega), eB, up2_n (by omega), up2_n (by omega), up2_n (by omega), up2_n (by omega), up2_n (by omega), up2_n (by omega), up2_n (by omega), eA]
  have C2 : hC 38 2 = nI g := by rw [eC, up2_sn (by decide), up2_sn (by decide), up2_sn (by decide), up2_sn (by decide), z38, up2_ss]; rfl
  have Bk : ∀ i, i ≠ 0 → i ≠ 3 → tB i = t i := fun i a c => by rw [mB, tS_n 7 c, mA, up2_n a, up2_n a, up2_n a, up2_n a]
  have B0 : tB 0 = tA 0 := by rw [mB, tS_n 7 (by decide)]
  have B3 : ∀ k, k < 7 → tB 3 (7 + k) = vk50 k := fun k hk => by rw [mB]; exact tS_v 7 k hk
  have bD : BY B L hD tB := b.kept (Dk 1 (by omega) (by omega) (by omega) (by omega) (by omega)) (Bk 18 (by decide) (by decide))
  obtain ⟨h1, t1, kd, st, en, s1, s2, s3, s4, s5, s6, s7⟩ := stepR2 (p := 0) bD (by rw [eD, up2_sn (by decide), up2_ss]) (by rw [B0, mA, up2_sn (by decide), up2_sn (by decide), up2_sn (by decide), up2_ss]) (by rw [eD, up2_ss]; rfl) (by rw [B0, mA, up2_sn (by decide), up2_sn (by decide), up2_ss]; rfl) (Nat.zero_le _)
  have P : PR g B L h1 t1 kd st en := ⟨bD.kept (s5 1 (by decide)) (s6 18 (by decide)), s3, by rw [s7 26 (by decide), B0, mA, up2_sn (by decide), up2_ss], by rw [s5 38 (by decide), D38]; exact C2, hg⟩
  have g1 : ∀ i, i ≠ 39 → h1 i = hD i := fun i a => s5 i (by simp only [List.mem_cons, List.not_mem_nil, or_false]; omega)
  have m1 : ∀ i, i ≠ 0 → t1 i = tB i := fun i a => s6 i (by simp only [List.mem_cons, List.not_mem_nil, or_false]; omega)
  have H : HF g h1 t1 0 0 0 0 0 := by
    refine ⟨⟨⟨by decide, by decide, by decide, by decide, by decide⟩, ⟨?_, ?_⟩, ⟨?_, ?_⟩, ⟨?_, ?_⟩, ⟨?_, ?_⟩, ⟨7, by decide, by decide, ?_, ?_⟩, ⟨10, by decide, ?_, ?_⟩, ⟨?_, ?_⟩⟩, fun r hr => absurd hr (Nat.not_lt_zero r), ⟨fun r hr => absurd hr (Nat.not_lt_zero r), fun k hk => ?_⟩, fun r hr => absurd hr (Nat.not_lt_zero r), fun r hr => absurd hr (Nat.not_lt_zero r), ⟨fun r hr => absurd hr (Nat.not_lt_zero r), Or.inl rfl⟩⟩
    · rw [m1 3 (by decide)]; exact B3 0 (by decide)
    · rw [g1 g (by omega), Dg, eB, up2_n (by omega), up2_sn (by decide), up2_sn (by decide), up2_sn (by decide), up2_sn (by decide), up2_sn (by decide), up2_ss]; rfl
    · rw [m1 3 (by decide)]; exact B3 1 (by decide)
    · rw [g1 g (by omega), Dg, eB, up2_n (by omega), up2_sn (by decide), up2_sn (by decide), up2_sn (by decide), up2_sn (by decide), up2_ss]; rfl
    · rw [m1 3 (by decide)]; exact B3 2 (by decide)
    · rw [g1 g (by omega), Dg, eB, up2_n (by omega), up2_sn (by decide), up2_sn (by decide), up2_sn (by decide), up2_ss]; rfl
    · rw [m1 3 (by decide)]; exact B3 3 (by decide)
    · rw [g1 g (by omega), Dg, eB, up2_n (by omega), up2_sn (by decide), up2_sn (by decide), up2_ss]; rfl
    · rw [m1 3 (by decide)]; exact B3 4 (by decide)
    · rw [g1 g (by omega), Dg, eB, up2_n (by omega), up2_sn (by decide), up2_ss]; rfl
    · rw [m1 3 (by decide)]; exact B3 5 (by decide)
    · rw [g1 g (by omega), Dg, eB, up2_n (by omega), up2_ss]; rfl
    · rw [m1 3 (by decide)]; exact B3 6 (by decide)
    · rw [g1 _ (by omega), Dg12]; rfl
    · rw [g1 _ (by omega), Dg16]; exact z2 k hk
  have C4 : hC 38 4 = 0 := by rw [eC, up2_sn (by decide), up2_sn (by decide), up2_sn (by decide), up2_ss]
  have C5 : hC 38 5 = 0 := by rw [eC, up2_sn (by decide), up2_sn (by decide), up2_ss]
  have C6 : hC 38 6 = 0 := by rw [eC, up2_sn (by decide), up2_ss]
  have C7 : hC 38 7 = 0 := by rw [eC, up2_ss]
  have LI0 : LI g B L h1 t1 kd st en 0 := by
    refine ⟨P, ⟨0, 0, 0, 0, 0, H⟩, ?_, ⟨by decide, fun j j8 j4 => ?_⟩, fun _ => ?_, fun _ => ?_⟩
    · unfold CS
      rw [m1 1 (by decide), m1 2 (by decide), Bk 1 (by decide) (by decide), Bk 2 (by decide) (by decide)]; exact cs
    · rw [g1 38 (by decide), D38, Nat.zero_div, Nat.zero_mod]
      have : j = 4 ∨ j = 5 ∨ j = 6 ∨ j = 7 := by omega
      rcases this with rfl | rfl | rfl | rfl
      · exact C4
      · exact C5
      · exact C6
      · exact C7
    · exact H.1.2.2.2.2.1.1
    · exact H.1.2.2.2.2.2.2.2.1
  have K1 : KG g h h1 := fun i a c => by rw [g1 i (by omega), Dk i (by omega) (by omega) (by omega) (by omega) (by omega)]
  have M1 : MG (up2 t 0 28 (-1)) t1 := by
    have a : MG (up2 t 0 28 (-1)) tA := by
      refine ⟨fun i x _ => ?_, fun k hk => ?_, fun i k x _ _ => ?_⟩
      · rw [mA, up2_n x, up2_n x, up2_n x, up2_n x, up2_n x]
      · rw [mA]
        by_cases c : k = 28
        · rw [c, up2_ss, up2_ss]
        · rw [up2_sn c, up2_sn c, up2_sn (by omega), up2_sn (by omega), up2_sn (by omega)]
      · rw [mA, up2_n (by omega), up2_n (by omega), up2_n (by omega), up2_n (by omega), up2_n (by omega)]
    have c : MG tA tB := by rw [mB]; exact tS_m 7
    exact (a.tr c).tr (MG.of s6 s7 TKs_in)
  obtain ⟨x, t', x1, x2, x3⟩ := linesX (h0 := h) (t0 := up2 t 0 28 (-1)) 701 FU FU 0 h1 t1 kd st en 0 rfl (by decide) (by decide) (Nat.zero_le _) LI0 K1 M1
  have x1' : lp FU fX4_read_42 (h1, 0) = some x := x1
  have x2' : lp FU fX11_parish_98 (t1, 0) = some t' := x2
  have cls : fX4_read h (nI L) g = sm x (fun v => some (v.2, v.1)) (fun v => some (0, v)) := by
    have A2 : hA 38 2 = nI g := by rw [eA, up2_ss]; rfl
    have c7 : (if (Int32.ofNat 700) < nI L then (Int32.ofNat 700) else nI L) = nI L := if_neg (nI_nlt (a := 700) L7 (by decide))
    unfold fX4_read fX2_clear fX5_clear fX9_begin fX4_read_106
    rw [pw_s, bnd_s, ← eA, rf_f hg A2, bnd_s, pw_s, bnd_s, pw_s, bnd_s, pw_s, bnd_s, pw_s, bnd_s, pw_s, bnd_s, pw_s, bnd_s, pw_s, bnd_s, bnd_s, ← eB, z1, bnd_s, bnd_s, pw_s, bnd_s, pw_s, bnd_s, pw_s, bnd_s, pw_s, bnd_s, ← eC, c7, pw_s, bnd_s, pw_s, bnd_s, ← eD, s1, bnd_s, bnd_s, x1', bnd_s]
  have mdl : (bnd (pw t 0 21 (nI L)) fun h9 => bnd (pw h9 0 20 0) fun h11 => bnd (pw h11 0 26 0) fun h13 => bnd (pw h13 0 28 (-1)) fun h15 => bnd (lp FU fX11_parish_50 (h15, 0)) fun x22 => bnd (fX11_stepOn x22) fun r24 => lp FU fX11_parish_98 (r24, 0)) = some t' := by
    rw [pw_s, bnd_s, pw_s, bnd_s, pw_s, bnd_s, pw_s, bnd_s, ← mA, loop50, bnd_s, ← mB, s2, bnd_s]; exact x2'
  rcases x3 with ⟨h', kd', st', en', D', rfl, y, K', M'⟩ | ⟨c, h', rfl, bd, K', M'⟩
  · exact ⟨0, h', t', cls, mdl, K', M', Or.inl ⟨rfl, y.1.2.2.1, y.2.1⟩⟩
  · exact ⟨c, h', t', cls, mdl, K', M', Or.inr bd⟩
