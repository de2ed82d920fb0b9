def nwz (h : ST) (n : Nat) : Option ST := some (upR h n (fun _ => 0))
theorem nwz_eq {h h1 : ST} {n : Nat} (e : nwz h n = some h1) : upR h n (fun _ => 0) = h1 := Option.some.inj e
theorem gap_ok {ci cn f : Nat} (e : (List.range f).all (fun j => decide (j < cn) || decide (FT ci j = 0)) = true) : ∀ j, cn ≤ j → j < f → FT ci j = 0 := by
  intro j h1 h2
  have h3 := List.all_eq_true.mp e j (List.mem_range.mpr h2)
  simp only [Bool.or_eq_true, decide_eq_true_eq] at h3
  omega
/-- at a constructor's end: all its references are laid -/
theorem end_ok {KD : Nat → Nat × Nat} {zr : Nat → Nat → Bool} {o cn n ci : Nat} (hk : KD o = (ci, 0)) (hc : (List.range (nF ci)).all (fun k => decide (FT ci k = 0) || decide (k < cn)) = true) : ∀ i k, i < n → ((KD i).1 < 20 → k < nF (KD i).1 → FT (KD i).1 k ≠ 0 → zw zr o cn i k = zf zr o i k) ∧ (23 ≤ (KD i).1 → k < (KD i).2 → zw zr o cn i k = zf zr o i k) := by
  intro i k _
  unfold zw zf
  by_cases h1 : i < o
  · simp only [if_pos h1]; exact ⟨fun _ _ _ => trivial, fun _ _ => trivial⟩
  · simp only [if_neg h1]
    by_cases h2 : i = o
    · subst h2
      simp only [if_pos]
      refine ⟨fun _ h4 h5 => ?_, fun h3 => ?_⟩
      · rw [hk] at h4 h5
        have h3 := List.all_eq_true.mp hc k (List.mem_range.mpr h4)
        simp only [Bool.or_eq_true, decide_eq_true_eq] at h3
        rcases h3 with h3 | h3
        · exact absurd h3 h5
        · simp [h3]
      · intro h4; rw [hk] at h4; exact absurd h4 (Nat.not_lt_zero _)
    · simp only [if_neg h2]; exact ⟨fun _ _ _ => trivial, fun _ _ => trivial⟩
theorem plf_0_2 : PLF "DustParish$Acts" 0 2 (tyX0 2) := ⟨(RX0, TX0, 3), tyX0, rfl, rfl, rfl, tyX0_ok, nmX0, rfl⟩
theorem plf_1_1 : PLF "DustParish$Facts" 1 1 (tyX2 1) := ⟨(RX2, TX2, 20), tyX2, rfl, rfl, rfl, tyX2_ok, nmX2, rfl⟩
theorem plf_1_2 : PLF "DustParish$Facts" 1 2 (tyX2 2) := ⟨(RX2, TX2, 20), tyX2, rfl, rfl, rfl, tyX2_ok, nmX2, rfl⟩
theorem plf_1_3 : PLF "DustParish$Facts" 1 3 (tyX2 3) := ⟨(RX2, TX2, 20), tyX2, rfl, rfl, rfl, tyX2_ok, nmX2, rfl⟩
theorem plf_1_4 : PLF "DustParish$Facts" 1 4 (tyX2 4) := ⟨(RX2, TX2, 20), tyX2, rfl, rfl, rfl, tyX2_ok, nmX2, rfl⟩
theorem plf_1_6 : PLF "DustParish$Facts" 1 6 (tyX2 6) := ⟨(RX2, TX2, 20), tyX2, rfl, rfl, rfl, tyX2_ok, nmX2, rfl⟩
theorem plf_1_7 : PLF "DustParish$Facts" 1 7 (tyX2 7) := ⟨(RX2, TX2, 20), tyX2, rfl, rfl, rfl, tyX2_ok, nmX2, rfl⟩
theorem plf_1_9 : PLF "DustParish$Facts" 1 9 (tyX2 9) := ⟨(RX2, TX2, 20), tyX2, rfl, rfl, rfl, tyX2_ok, nmX2, rfl⟩
theorem plf_1_10 : PLF "DustParish$Facts" 1 10 (tyX2 10) := ⟨(RX2, TX2, 20), tyX2, rfl, rfl, rfl, tyX2_ok, nmX2, rfl⟩
theorem plf_1_11 : PLF "DustParish$Facts" 1 11 (tyX2 11) := ⟨(RX2, TX2, 20), tyX2, rfl, rfl, rfl, tyX2_ok, nmX2, rfl⟩
theorem plf_1_12 : PLF "DustParish$Facts" 1 12 (tyX2 12) := ⟨(RX2, TX2, 20), tyX2, rfl, rfl, rfl, tyX2_ok, nmX2, rfl⟩
theorem plf_1_14 : PLF "DustParish$Facts" 1 14 (tyX2 14) := ⟨(RX2, TX2, 20), tyX2, rfl, rfl, rfl, tyX2_ok, nmX2, rfl⟩
theorem plf_1_17 : PLF "DustParish$Facts" 1 17 (tyX2 17) := ⟨(RX2, TX2, 20), tyX2, rfl, rfl, rfl, tyX2_ok, nmX2, rfl⟩
theorem plf_1_18 : PLF "DustParish$Facts" 1 18 (tyX2 18) := ⟨(RX2, TX2, 20), tyX2, rfl, rfl, rfl, tyX2_ok, nmX2, rfl⟩
theorem plf_1_19 : PLF "DustParish$Facts" 1 19 (tyX2 19) := ⟨(RX2, TX2, 20), tyX2, rfl, rfl, rfl, tyX2_ok, nmX2, rfl⟩
theorem plf_2_0 : PLF "DustParish$Present" 2 0 (tyX3 0) := ⟨(RX3, TX3, 4), tyX3, rfl, rfl, rfl, tyX3_ok, nmX3, rfl⟩
theorem plf_2_1 : PLF "DustParish$Present" 2 1 (tyX3 1) := ⟨(RX3, TX3, 4), tyX3, rfl, rfl, rfl, tyX3_ok, nmX3, rfl⟩
theorem plf_2_2 : PLF "DustParish$Present" 2 2 (tyX3 2) := ⟨(RX3, TX3, 4), tyX3, rfl, rfl, rfl, tyX3_ok, nmX3, rfl⟩
theorem plf_2_3 : PLF "DustParish$Present" 2 3 (tyX3 3) := ⟨(RX3, TX3, 4), tyX3, rfl, rfl, rfl, tyX3_ok, nmX3, rfl⟩
theorem plf_3_0 : PLF "DustParish$Reader" 3 0 (tyX4 0) := ⟨(RX4, TX4, 8), tyX4, rfl, rfl, rfl, tyX4_ok, nmX4, rfl⟩
theorem plf_3_1 : PLF "DustParish$Reader" 3 1 (tyX4 1) := ⟨(RX4, TX4, 8), tyX4, rfl, rfl, rfl, tyX4_ok, nmX4, rfl⟩
theorem plf_4_0 : PLF "DustParish$Rule" 4 0 (tyX5 0) := ⟨(RX5, TX5, 4), tyX5, rfl, rfl, rfl, tyX5_ok, nmX5, rfl⟩
theorem plf_4_2 : PLF "DustParish$Rule" 4 2 (tyX5 2) := ⟨(RX5, TX5, 4), tyX5, rfl, rfl, rfl, tyX5_ok, nmX5, rfl⟩
theorem plf_4_3 : PLF "DustParish$Rule" 4 3 (tyX5 3) := ⟨(RX5, TX5, 4), tyX5, rfl, rfl, rfl, tyX5_ok, nmX5, rfl⟩
theorem plf_5_0 : PLF "DustParish$RuleReader" 5 0 (tyX6 0) := ⟨(RX6, TX6, 8), tyX6, rfl, rfl, rfl, tyX6_ok, nmX6, rfl⟩
theorem plf_5_6 : PLF "DustParish$RuleReader" 5 6 (tyX6 6) := ⟨(RX6, TX6, 8), tyX6, rfl, rfl, rfl, tyX6_ok, nmX6, rfl⟩
theorem plf_6_1 : PLF "DustParish$Sights" 6 1 (tyX7 1) := ⟨(RX7, TX7, 4), tyX7, rfl, rfl, rfl, tyX7_ok, nmX7, rfl⟩
theorem plf_6_2 : PLF "DustParish$Sights" 6 2 (tyX7 2) := ⟨(RX7, TX7, 4), tyX7, rfl, rfl, rfl, tyX7_ok, nmX7, rfl⟩
theorem plf_6_3 : PLF "DustParish$Sights" 6 3 (tyX7 3) := ⟨(RX7, TX7, 4), tyX7, rfl, rfl, rfl, tyX7_ok, nmX7, rfl⟩
theorem plf_7_3 : PLF "DustParish$State" 7 3 (tyX8 3) := ⟨(RX8, TX8, 6), tyX8, rfl, rfl, rfl, tyX8_ok, nmX8, rfl⟩
theorem plf_7_4 : PLF "DustParish$State" 7 4 (tyX8 4) := ⟨(RX8, TX8, 6), tyX8, rfl, rfl, rfl, tyX8_ok, nmX8, rfl⟩
theorem plf_7_5 : PLF "DustParish$State" 7 5 (tyX8 5) := ⟨(RX8, TX8, 6), tyX8, rfl, rfl, rfl, tyX8_ok, nmX8, rfl⟩
theorem plf_8_6 : PLF "DustParish$Tokens" 8 6 (tyX9 6) := ⟨(RX9, TX9, 7), tyX9, rfl, rfl, rfl, tyX9_ok, nmX9, rfl⟩
theorem plf_9_0 : PLF "DustParish" 9 0 (tyX10 0) := ⟨(RX10, TX10, 15), tyX10, rfl, rfl, rfl, tyX10_ok, nmX10, rfl⟩
theorem plf_9_5 : PLF "DustParish" 9 5 (tyX10 5) := ⟨(RX10, TX10, 15), tyX10, rfl, rfl, rfl, tyX10_ok, nmX10, rfl⟩
theorem plf_9_6 : PLF "DustParish" 9 6 (tyX10 6) := ⟨(RX10, TX10, 15), tyX10, rfl, rfl, rfl, tyX10_ok, nmX10, rfl⟩
theorem plf_9_7 : PLF "DustParish" 9 7 (tyX10 7) := ⟨(RX10, TX10, 15), tyX10, rfl, rfl, rfl, tyX10_ok, nmX10, rfl⟩
theorem plf_9_9 : PLF "DustParish" 9 9 (tyX10 9) := ⟨(RX10, TX10, 15), tyX10, rfl, rfl, rfl, tyX10_ok, nmX10, rfl⟩
theorem plf_9_10 : PLF "DustParish" 9 10 (tyX10 10) := ⟨(RX10, TX10, 15), tyX10, rfl, rfl, rfl, tyX10_ok, nmX10, rfl⟩
theorem plf_9_11 : PLF "DustParish" 9 11 (tyX10 11) := ⟨(RX10, TX10, 15), tyX10, rfl, rfl, rfl, tyX10_ok, nmX10, rfl⟩
theorem plf_9_12 : PLF "DustParish" 9 12 (tyX10 12) := ⟨(RX10, TX10, 15), tyX10, rfl, rfl, rfl, tyX10_ok, nmX10, rfl⟩
theorem plf_9_13 : PLF "DustParish" 9 13 (tyX10 13) := ⟨(RX10, TX10, 15), tyX10, rfl, rfl, rfl, tyX10_ok, nmX10, rfl⟩
theorem plf_9_14 : PLF "DustParish" 9 14 (tyX10 14) := ⟨(RX10, TX10, 15), tyX10, rfl, rfl, rfl, tyX10_ok, nmX10, rfl⟩
theorem plf_10_0 : PLF "DustParishModel" 10 0 (tyX11 0) := ⟨(RX11, TX11, 63), tyX11, rfl, rfl, rfl, tyX11_ok, nmX11, rfl⟩
theorem plf_10_1 : PLF "DustParishModel" 10 1 (tyX11 1) := ⟨(RX11, TX11, 63), tyX11, rfl, rfl, rfl, tyX11_ok, nmX11, rfl⟩
theorem plf_10_3 : PLF "DustParishModel" 10 3 (tyX11 3) := ⟨(RX11, TX11, 63), tyX11, rfl, rfl, rfl, tyX11_ok, nmX11, rfl⟩
theorem plf_10_4 : PLF "DustParishModel" 10 4 (tyX11 4) := ⟨(RX11, TX11, 63), tyX11, rfl, rfl, rfl, tyX11_ok, nmX11, rfl⟩
theorem plf_10_5 : PLF "DustParishModel" 10 5 (tyX11 5) := ⟨(RX11, TX11, 63), tyX11, rfl, rfl, rfl, tyX11_ok, nmX11, rfl⟩
theorem plf_10_6 : PLF "DustParishModel" 10 6 (tyX11 6) := ⟨(RX11, TX11, 63), tyX11, rfl, rfl, rfl, tyX11_ok, nmX11, rfl⟩
theorem plf_10_7 : PLF "DustParishModel" 10 7 (tyX11 7) := ⟨(RX11, TX11, 63), tyX11, rfl, rfl, rfl, tyX11_ok, nmX11, rfl⟩
theorem plf_10_8 : PLF "DustParishModel" 10 8 (tyX11 8) := ⟨(RX11, TX11, 63), tyX11, rfl, rfl, rfl, tyX11_ok, nmX11, rfl⟩
theorem plf_10_9 : PLF "DustParishModel" 10 9 (tyX11 9) := ⟨(RX11, TX11, 63), tyX11, rfl, rfl, rfl, tyX11_ok, nmX11, rfl⟩
theorem plf_10_10 : PLF "DustParishModel" 10 10 (tyX11 10) := ⟨(RX11, TX11, 63), tyX11, rfl, rfl, rfl, tyX11_ok, nmX11, rfl⟩
theorem plf_10_11 : PLF "DustParishModel" 10 11 (tyX11 11) := ⟨(RX11, TX11, 63), tyX11, rfl, rfl, rfl, tyX11_ok, nmX11, rfl⟩
theorem plf_10_12 : PLF "DustParishModel" 10 12 (tyX11 12) := ⟨(RX11, TX11, 63), tyX11, rfl, rfl, rfl, tyX11_ok, nmX11, rfl⟩
theorem plf_10_13 : PLF "DustParishModel" 10 13 (tyX11 13) := ⟨(RX11, TX11, 63), tyX11, rfl, rfl, rfl, tyX11_ok, nmX11, rfl⟩
theorem plf_10_14 : PLF "DustParishModel" 10 14 (tyX11 14) := ⟨(RX11, TX11, 63), tyX11, rfl, rfl, rfl, tyX11_ok, nmX11, rfl⟩
theorem plf_10_15 : PLF "DustParishModel" 10 15 (tyX11 15) := ⟨(RX11, TX11, 63), tyX11, rfl, rfl, rfl, tyX11_ok, nmX11, rfl⟩
theorem plf_10_16 : PLF "DustParishModel" 10 16 (tyX11 16) := ⟨(RX11, TX11, 63), tyX11, rfl, rfl, rfl, tyX11_ok, nmX11, rfl⟩
theorem plf_10_17 : PLF "DustParishModel" 10 17 (tyX11 17) := ⟨(RX11, TX11, 63), tyX11, rfl, rfl, rfl, tyX11_ok, nmX11, rfl⟩
theorem plf_10_18 : PLF "DustParishModel" 10 18 (tyX11 18) := ⟨(RX11, TX11, 63), tyX11, rfl, rfl, rfl, tyX11_ok, nmX11, rfl⟩
theorem plf_10_29 : PLF "DustParishModel" 10 29 (tyX11 29) := ⟨(RX11, TX11, 63), tyX11, rfl, rfl, rfl, tyX11_ok, nmX11, rfl⟩
theorem plf_10_30 : PLF "DustParishModel" 10 30 (tyX11 30) := ⟨(RX11, TX11, 63), tyX11, rfl, rfl, rfl, tyX11_ok, nmX11, rfl⟩
theorem plf_10_31 : PLF "DustParishModel" 10 31 (tyX11 31) := ⟨(RX11, TX11, 63), tyX11, rfl, rfl, rfl, tyX11_ok, nmX11, rfl⟩
theorem plf_10_32 : PLF "DustParishModel" 10 32 (tyX11 32) := ⟨(RX11, TX11, 63), tyX11, rfl, rfl, rfl, tyX11_ok, nmX11, rfl⟩
theorem plf_10_38 : PLF "DustParishModel" 10 38 (tyX11 38) := ⟨(RX11, TX11, 63), tyX11, rfl, rfl, rfl, tyX11_ok, nmX11, rfl⟩
theorem plf_10_39 : PLF "DustParishModel" 10 39 (tyX11 39) := ⟨(RX11, TX11, 63), tyX11, rfl, rfl, rfl, tyX11_ok, nmX11, rfl⟩
theorem plf_10_40 : PLF "DustParishModel" 10 40 (tyX11 40) := ⟨(RX11, TX11, 63), tyX11, rfl, rfl, rfl, tyX11_ok, nmX11, rfl⟩
theorem plf_10_41 : PLF "DustParishModel" 10 41 (tyX11 41) := ⟨(RX11, TX11, 63), tyX11, rfl, rfl, rfl, tyX11_ok, nmX11, rfl⟩
theorem plf_10_42 : PLF "DustParishModel" 10 42 (tyX11 42) := ⟨(RX11, TX11, 63), tyX11, rfl, rfl, rfl, tyX11_ok, nmX11, rfl⟩
theorem plf_10_43 : PLF "DustParishModel" 10 43 (tyX11 43) := ⟨(RX11, TX11, 63), tyX11, rfl, rfl, rfl, tyX11_ok, nmX11, rfl⟩
theorem plf_10_44 : PLF "DustParishModel" 10 44 (tyX11 44) := ⟨(RX11, TX11, 63), tyX11, rfl, rfl, rfl, tyX11_ok, nmX11, rfl⟩
theorem plf_10_46 : PLF "DustParishModel" 10 46 (tyX11 46) := ⟨(RX11, TX11, 63), tyX11, rfl, rfl, rfl, tyX11_ok, nmX11, rfl⟩
theorem plf_10_47 : PLF "DustParishModel" 10 47 (tyX11 47) := ⟨(RX11, TX11, 63), tyX11, rfl, rfl, rfl, tyX11_ok, nmX11, rfl⟩
theorem plf_10_48 : PLF "DustParishModel" 10 48 (tyX11 48) := ⟨(RX11, TX11, 63), tyX11, rfl, rfl, rfl, tyX11_ok, nmX11, rfl⟩
theorem plf_10_49 : PLF "DustParishModel" 10 49 (tyX11 49) := ⟨(RX11, TX11, 63), tyX11, rfl, rfl, rfl, tyX11_ok, nmX11, rfl⟩
theorem plf_10_50 : PLF "DustParishModel" 10 50 (tyX11 50) := ⟨(RX11, TX11, 63), tyX11, rfl, rfl, rfl, tyX11_ok, nmX11, rfl⟩
theorem plf_10_51 : PLF "DustParishModel" 10 51 (tyX11 51) := ⟨(RX11, TX11, 63), tyX11, rfl, rfl, rfl, tyX11_ok, nmX11, rfl⟩
theorem plf_10_52 : PLF "DustParishModel" 10 52 (tyX11 52) := ⟨(RX11, TX11, 63), tyX11, rfl, rfl, rfl, tyX11_ok, nmX11, rfl⟩
theorem plf_10_57 : PLF "DustParishModel" 10 57 (tyX11 57) := ⟨(RX11, TX11, 63), tyX11, rfl, rfl, rfl, tyX11_ok, nmX11, rfl⟩
theorem plf_10_58 : PLF "DustParishModel" 10 58 (tyX11 58) := ⟨(RX11, TX11, 63), tyX11, rfl, rfl, rfl, tyX11_ok, nmX11, rfl⟩
theorem plf_10_59 : PLF "DustParishModel" 10 59 (tyX11 59) := ⟨(RX11, TX11, 63), tyX11, rfl, rfl, rfl, tyX11_ok, nmX11, rfl⟩
theorem plf_10_60 : PLF "DustParishModel" 10 60 (tyX11 60) := ⟨(RX11, TX11, 63), tyX11, rfl, rfl, rfl, tyX11_ok, nmX11, rfl⟩
theorem plf_10_61 : PLF "DustParishModel" 10 61 (tyX11 61) := ⟨(RX11, TX11, 63), tyX11, rfl, rfl, rfl, tyX11_ok, nmX11, rfl⟩
theorem plf_10_62 : PLF "DustParishModel" 10 62 (tyX11 62) := ⟨(RX11, TX11, 63), tyX11, rfl, rfl, rfl, tyX11_ok, nmX11, rfl⟩
theorem zget2 {z : Nat → Nat → Bool} {N c i k : Nat} (h1 : i < N) (h : z i k = true) : zw z N c i k = true := by unfold zw; rw [if_pos h1]; exact h
theorem zgt {zr : Nat → Nat → Bool} {o c i k : Nat} (h : o < i) : zw zr o c i k = true := by unfold zw; rw [if_neg (by omega), if_neg (by omega)]
theorem zget {zr : Nat → Nat → Bool} {o c k : Nat} (h : k < c) : zw zr o c o k = true := by unfold zw; rw [if_neg (by omega), if_pos rfl]; simp [h]
def fX8_init (h : ST) (o : Nat) : Option ST :=
  bnd (nwz h (o + 1)) fun h1 =>
  bnd (pw h1 o 3 0) fun h3 =>
  bnd (nwz h3 (o + 2)) fun h5 =>
  bnd (pw h5 o 4 0) fun h7 =>
  bnd (nwz h7 (o + 3)) fun h9 =>
  bnd (pw h9 o 5 0) fun h11 =>
  some h11
set_option maxRecDepth 100000 in
set_option maxHeartbeats 4000000 in
theorem kX8_init {l : Launch} {g : GE} {b0 : Nat} {zr : Nat → Nat → Bool} {h : ST} {o : Nat} (ho : o < 395) (hk : KC o = (7, 0)) {y : ST} (hf : fX8_init h o = some y) : NT l yX8_init cX8_init 1 1 3 28 KC g b0 o [.ref (gA g o)] (o + 1) (zw zr o 0) h (o + 4) (zf zr o) y := by
  refine NT.of pn_X8 (Nat.le_of_ble_eq_true rfl) rfl ?_
  intro p e s m below meth c hr F
  have F : FN p s m _ meth c cX8_init 1 "DustParish$State" g b0 := F
  refine VN_lv (lv' := [(0, .ref (gA g o))]) rfl ?_
  unfold fX8_init at hf
  refine n_aload_n (pc := 0) (j := 0) F dX8_init_0 rfl rfl ?_
  refine n_obj (pc := 1) F tw_275 dX8_init_1 (by decide) (Nat.le_of_ble_eq_true rfl) ?_
  refine n_aload_n (pc := 4) (j := 0) F dX8_init_4 rfl rfl ?_
  refine n_bipush (pc := 5) (v := 9) F dX8_init_5 bp_9 ?_
  obtain ⟨h1, e2, hf⟩ := bnd_some hf
  refine n_newa (pc := 7) F tw_61 dX8_init_7 (ly_7_3 ho hk).2 (by omega) (by decide) (Nat.le_of_ble_eq_true rfl) (Nat.le_of_ble_eq_true rfl) ?_
  rw [nwz_eq e2]
  obtain ⟨h3, e4, hf⟩ := bnd_some hf
  refine n_putF (pc := 9) F fl_X8_9 plf_7_3 dX8_init_9 (by omega) hk fv_7_3 rfl rfl (Or.inr ⟨rfl, by decide, gap_ok (by decide)⟩) e4 ?_
  refine n_aload_n (pc := 12) (j := 0) F dX8_init_12 rfl rfl ?_
  refine n_bipush (pc := 13) (v := 9) F dX8_init_13 bp_9 ?_
  obtain ⟨h5, e6, hf⟩ := bnd_some hf
  refine n_newa (pc := 15) F tw_61 dX8_init_15 (ly_7_4 ho hk).2 (by omega) (by decide) (Nat.le_of_ble_eq_true rfl) (Nat.le_of_ble_eq_true rfl) ?_
  rw [nwz_eq e6]
  obtain ⟨h7, e8, hf⟩ := bnd_some hf
  refine n_putF (pc := 17) F fl_X8_15 plf_7_4 dX8_init_17 (by omega) hk fv_7_4 rfl rfl (Or.inr ⟨rfl, by decide, gap_ok (by decide)⟩) e8 ?_
  refine n_aload_n (pc := 20) (j := 0) F dX8_init_20 rfl rfl ?_
  refine n_bipush (pc := 21) (v := 10) F dX8_init_21 bp_10 ?_
  obtain ⟨h9, e10, hf⟩ := bnd_some hf
  refine n_newa (pc := 23) F tw_61 dX8_init_23 (ly_7_5 ho hk).2 (by omega) (by decide) (Nat.le_of_ble_eq_true rfl) (Nat.le_of_ble_eq_true rfl) ?_
  rw [nwz_eq e10]
  obtain ⟨h11, e12, hf⟩ := bnd_some hf
  refine n_putF (pc := 25) F fl_X8_18 plf_7_5 dX8_init_25 (by omega) hk fv_7_5 rfl rfl (Or.inr ⟨rfl, by decide, gap_ok (by decide)⟩) e12 ?_
  exact n_vret (pc := 28) F hr dX8_init_28 (by omega) (Option.some.inj hf) (Nat.le_refl _) (Nat.le_refl _) (end_ok hk (by decide))
def fX5_init (h : ST) (o : Nat) : Option ST :=
  bnd (nwz h (o + 1)) fun h1 =>
  bnd (pw h1 o 0 0) fun h3 =>
  bnd (pw h3 o 1 0) fun h5 =>
  bnd (nwz h5 (o + 2)) fun h7 =>
  bnd (pw h7 o 2 0) fun h9 =>
  bnd (nwz h9 (o + 3)) fun h11 =>
  bnd (pw h11 o 3 0) fun h13 =>
  some h13
set_option maxRecDepth 100000 in
set_option maxHeartbeats 4000000 in
theorem kX5_init {l : Launch} {g : GE} {b0 : Nat} {zr : Nat → Nat → Bool} {h : ST} {o : Nat} (ho : o < 395) (hk : KC o = (4, 0)) {y : ST} (hf : fX5_init h o = some y) : NT l yX5_init cX5_init 1 1 3 746 KC g b0 o [.ref (gA g o)] (o + 1) (zw zr o 0) h (o + 4) (zf zr o) y := by
  refine NT.of pn_X5 (Nat.le_of_ble_eq_true rfl) rfl ?_
  intro p e s m below meth c hr F
  have F : FN p s m _ meth c cX5_init 1 "DustParish$Rule" g b0 := F
  refine VN_lv (lv' := [(0, .ref (gA g o))]) rfl ?_
  unfold fX5_init at hf
  refine n_aload_n (pc := 0) (j := 0) F dX5_init_0 rfl rfl ?_
  refine n_obj (pc := 1) F tw_45 dX5_init_1 (by decide) (Nat.le_of_ble_eq_true rfl) ?_
  refine n_aload_n (pc := 4) (j := 0) F dX5_init_4 rfl rfl ?_
  refine n_bipush (pc := 5) (v := 6) F dX5_init_5 bp_6 ?_
  obtain ⟨h1, e2, hf⟩ := bnd_some hf
  refine n_newa (pc := 7) F tw_61 dX5_init_7 (ly_4_0 ho hk).2 (by omega) (by decide) (Nat.le_of_ble_eq_true rfl) (Nat.le_of_ble_eq_true rfl) ?_
  rw [nwz_eq e2]
  obtain ⟨h3, e4, hf⟩ := bnd_some hf
  refine n_putF (pc := 9) F fl_X5_11 plf_4_0 dX5_init_9 (by omega) hk fv_4_0 rfl rfl (Or.inr ⟨rfl, by decide, gap_ok (by decide)⟩) e4 ?_
  refine n_aload_n (pc := 12) (j := 0) F dX5_init_12 rfl rfl ?_
  refine n_iconst (pc := 13) (v := 0) F dX5_init_13 ic_0 ?_
  obtain ⟨h5, e6, hf⟩ := bnd_some hf
  refine n_putM (pc := 14) F fl_X5_15 pl_4_1 dX5_init_14 (by omega) hk fv_4_1 rfl rfl (Or.inl ⟨rfl, rfl⟩) e6 ?_
  refine n_aload_n (pc := 17) (j := 0) F dX5_init_17 rfl rfl ?_
  refine n_sipush (pc := 18) (v := 700) F dX5_init_18 sp_700 ?_
  obtain ⟨h7, e8, hf⟩ := bnd_some hf
  refine n_newa (pc := 21) F tw_61 dX5_init_21 (ly_4_2 ho hk).2 (by omega) (by decide) (Nat.le_of_ble_eq_true rfl) (Nat.le_of_ble_eq_true rfl) ?_
  rw [nwz_eq e8]
  obtain ⟨h9, e10, hf⟩ := bnd_some hf
  refine n_putF (pc := 23) F fl_X5_19 plf_4_2 dX5_init_23 (by omega) hk fv_4_2 rfl rfl (Or.inr ⟨rfl, by decide, gap_ok (by decide)⟩) e10 ?_
  refine n_aload_n (pc := 26) (j := 0) F dX5_init_26 rfl rfl ?_
  refine n_bipush (pc := 27) (v := 40) F dX5_init_27 bp_40 ?_
  obtain ⟨h11, e12, hf⟩ := bnd_some hf
  refine n_newa (pc := 29) F tw_61 dX5_init_29 (ly_4_3 ho hk).2 (by omega) (by decide) (Nat.le_of_ble_eq_true rfl) (Nat.le_of_ble_eq_true rfl) ?_
  rw [nwz_eq e12]
  obtain ⟨h13, e14, hf⟩ := bnd_some hf
  refine n_putF (pc := 31) F fl_X5_22 plf_4_3 dX5_init_31 (by omega) hk fv_4_3 rfl rfl (Or.inr ⟨rfl, by decide, gap_ok (by decide)⟩) e14 ?_
  exact n_vret (pc := 34) F hr dX5_init_34 (by omega) (Option.some.inj hf) (Nat.le_refl _) (Nat.le_refl _) (end_ok hk (by decide))
def fX7_init (h : ST) (o : Nat) : Option ST :=
  bnd (pw h o 0 0) fun h1 =>
  bnd (nwz h1 (o + 1)) fun h3 =>
  bnd (pw h3 o 1 0) fun h5 =>
  bnd (nwz h5 (o + 2)) fun h7 =>
  bnd (pw h7 o 2 0) fun h9 =>
  bnd (nwz h9 (o + 3)) fun h11 =>
  bnd (pw h11 o 3 0) fun h13 =>
  some h13
set_option maxRecDepth 100000 in
set_option maxHeartbeats 4000000 in
theorem kX7_init {l : Launch} {g : GE} {b0 : Nat} {zr : Nat → Nat → Bool} {h : ST} {o : Nat} (ho : o < 395) (hk : KC o = (6, 0)) {y : ST} (hf : fX7_init h o = some y) : NT l yX7_init cX7_init 1 1 3 24 KC g b0 o [.ref (gA g o)] (o + 1) (zw zr o 0) h (o + 4) (zf zr o) y := by
  refine NT.of pn_X7 (Nat.le_of_ble_eq_true rfl) rfl ?_
  intro p e s m below meth c hr F
  have F : FN p s m _ meth c cX7_init 1 "DustParish$Sights" g b0 := F
  refine VN_lv (lv' := [(0, .ref (gA g o))]) rfl ?_
  unfold fX7_init at hf
  refine n_aload_n (pc := 0) (j := 0) F dX7_init_0 rfl rfl ?_
  refine n_obj (pc := 1) F tw_333 dX7_init_1 (by decide) (Nat.le_of_ble_eq_true rfl) ?_
  refine n_aload_n (pc := 4) (j := 0) F dX7_init_4 rfl rfl ?_
  refine n_iconst (pc := 5) (v := 0) F dX7_init_5 ic_0 ?_
  obtain ⟨h1, e2, hf⟩ := bnd_some hf
  refine n_putM (pc := 6) F fl_X7_9 pl_6_0 dX7_init_6 (by omega) hk fv_6_0 rfl rfl (Or.inl ⟨rfl, rfl⟩) e2 ?_
  refine n_aload_n (pc := 9) (j := 0) F dX7_init_9 rfl rfl ?_
  refine n_bipush (pc := 10) (v := 8) F dX7_init_10 bp_8 ?_
  obtain ⟨h3, e4, hf⟩ := bnd_some hf
  refine n_newa (pc := 12) F tw_61 dX7_init_12 (ly_6_1 ho hk).2 (by omega) (by decide) (Nat.le_of_ble_eq_true rfl) (Nat.le_of_ble_eq_true rfl) ?_
  rw [nwz_eq e4]
  obtain ⟨h5, e6, hf⟩ := bnd_some hf
  refine n_putF (pc := 14) F fl_X7_15 plf_6_1 dX7_init_14 (by omega) hk fv_6_1 rfl rfl (Or.inr ⟨rfl, by decide, gap_ok (by decide)⟩) e6 ?_
  refine n_aload_n (pc := 17) (j := 0) F dX7_init_17 rfl rfl ?_
  refine n_bipush (pc := 18) (v := 8) F dX7_init_18 bp_8 ?_
  obtain ⟨h7, e8, hf⟩ := bnd_some hf
  refine n_newa (pc := 20) F tw_61 dX7_init_20 (ly_6_2 ho hk).2 (by omega) (by decide) (Nat.le_of_ble_eq_true rfl) (Nat.le_of_ble_eq_true rfl) ?_
  rw [nwz_eq e8]
  obtain ⟨h9, e10, hf⟩ := bnd_some hf
  refine n_putF (pc := 22) F fl_X7_19 plf_6_2 dX7_init_22 (by omega) hk fv_6_2 rfl rfl (Or.inr ⟨rfl, by decide, gap_ok (by decide)⟩) e10 ?_
  refine n_aload_n (pc := 25) (j := 0) F dX7_init_25 rfl rfl ?_
  refine n_bipush (pc := 26) (v := 8) F dX7_init_26 bp_8 ?_
  obtain ⟨h11, e12, hf⟩ := bnd_some hf
  refine n_newa (pc := 28) F tw_61 dX7_init_28 (ly_6_3 ho hk).2 (by omega) (by decide) (Nat.le_of_ble_eq_true rfl) (Nat.le_of_ble_eq_true rfl) ?_
  rw [nwz_eq e12]
  obtain ⟨h13, e14, hf⟩ := bnd_some hf
  refine n_putF (pc := 30) F fl_X7_22 plf_6_3 dX7_init_30 (by omega) hk fv_6_3 rfl rfl (Or.inr ⟨rfl, by decide, gap_ok (by decide)⟩) e14 ?_
  exact n_vret (pc := 33) F hr dX7_init_33 (by omega) (Option.some.inj hf) (Nat.le_refl _) (Nat.le_refl _) (end_ok hk (by decide))
theorem dv_4 : ∀ k, k < 4 → ∀ (g : GE) (i : Nat), defaultValue (tyX5 k) = fval g false (FT 4 k) i 0 := by
  intro k hk g i
  match k, hk with
  | 0, _ => rfl
  | 1, _ => rfl
  | 2, _ => rfl
  | 3, _ => rfl
  | k + 4, hk => exact absurd hk (by omega)
theorem nwk_X2_45 : NWK "DustParish$Facts" 45 4 "DustParish$Rule" 4 := ⟨TX5, tyX5, rfl, tw_40, tw_41, tw_3, lyw_4, tyX5_ok, by decide, rfl, dv_4⟩
def fX2_init (h : ST) (o : Nat) : Option ST :=
  bnd (nwz h (o + 1)) fun h1 =>
  bnd (pw h1 o 1 0) fun h3 =>
  bnd (nwz h3 (o + 2)) fun h5 =>
  bnd (pw h5 o 2 0) fun h7 =>
  bnd (nwz h7 (o + 3)) fun h9 =>
  bnd (pw h9 o 3 0) fun h11 =>
  bnd (nwz h11 (o + 4)) fun h13 =>
  bnd (pw h13 o 4 0) fun h15 =>
  bnd (nwz h15 (o + 5)) fun h17 =>
  bnd (pw h17 o 6 0) fun h19 =>
  bnd (nwz h19 (o + 6)) fun h21 =>
  bnd (pw h21 o 7 0) fun h23 =>
  bnd (nwz h23 (o + 7)) fun h25 =>
  bnd (pw h25 o 9 0) fun h27 =>
  bnd (nwz h27 (o + 8)) fun h29 =>
  bnd (pw h29 o 10 0) fun h31 =>
  bnd (nwz h31 (o + 9)) fun h33 =>
  bnd (pw h33 o 11 0) fun h35 =>
  bnd (nwz h35 (o + 10)) fun h37 =>
  bnd (pw h37 o 12 0) fun h39 =>
  bnd (nwz h39 (o + 11)) fun h41 =>
  bnd (pw h41 o 14 0) fun h43 =>
  bnd (nwz h43 (o + 12)) fun h45 =>
  bnd (fX5_init h45 (o + 12)) fun h47 =>
  bnd (pw h47 o 17 0) fun h49 =>
  bnd (nwz h49 (o + 16)) fun h51 =>
  bnd (pw h51 o 18 0) fun h53 =>
  bnd (nwz h53 (o + 17)) fun h55 =>
  bnd (pw h55 o 19 0) fun h57 =>
  some h57
theorem cz_yX5_init : yX5_init.cls ≠ "java/lang/invoke/MethodHandle" ∧ yX5_init.cls ≠ "java/lang/invoke/VarHandle" ∧ (parseMethodDescriptor yX5_init.desc).map (fun d => d.parameters.length) = some 0 := by decide +kernel
set_option maxRecDepth 100000 in
set_option maxHeartbeats 4000000 in
theorem kX2_init {l : Launch} {g : GE} {b0 : Nat} {zr : Nat → Nat → Bool} {h : ST} {o : Nat} (ho : o < 395) (hk : KC o = (1, 0)) {y : ST} (hf : fX2_init h o = some y) : NT l yX2_init cX2_init 1 2 17 1036 KC g b0 o [.ref (gA g o)] (o + 1) (zw zr o 0) h (o + 18) (zf zr o) y := by
  refine NT.of pn_X2 (Nat.le_of_ble_eq_true rfl) rfl ?_
  intro p e s m below meth c hr F
  have F : FN p s m _ meth c cX2_init 1 "DustParish$Facts" g b0 := F
  refine VN_lv (lv' := [(0, .ref (gA g o))]) rfl ?_
  unfold fX2_init at hf
  refine n_aload_n (pc := 0) (j := 0) F dX2_init_0 rfl rfl ?_
  refine n_obj (pc := 1) F tw_39 dX2_init_1 (by decide) (Nat.le_of_ble_eq_true rfl) ?_
  refine n_aload_n (pc := 4) (j := 0) F dX2_init_4 rfl rfl ?_
  refine n_bipush (pc := 5) (v := 9) F dX2_init_5 bp_9 ?_
  obtain ⟨h1, e2, hf⟩ := bnd_some hf
  refine n_newa (pc := 7) F tw_61 dX2_init_7 (ly_1_1 ho hk).2 (by omega) (by decide) (Nat.le_of_ble_eq_true rfl) (Nat.le_of_ble_eq_true rfl) ?_
  rw [nwz_eq e2]
  obtain ⟨h3, e4, hf⟩ := bnd_some hf
  refine n_putF (pc := 9) F fl_X2_9 plf_1_1 dX2_init_9 (by omega) hk fv_1_1 rfl rfl (Or.inr ⟨rfl, by decide, gap_ok (by decide)⟩) e4 ?_
  refine n_aload_n (pc := 12) (j := 0) F dX2_init_12 rfl rfl ?_
  refine n_bipush (pc := 13) (v := 9) F dX2_init_13 bp_9 ?_
  obtain ⟨h5, e6, hf⟩ := bnd_some hf
  refine n_newa (pc := 15) F tw_61 dX2_init_15 (ly_1_2 ho hk).2 (by omega) (by decide) (Nat.le_of_ble_eq_true rfl) (Nat.le_of_ble_eq_true rfl) ?_
  rw [nwz_eq e6]
  obtain ⟨h7, e8, hf⟩ := bnd_some hf
  refine n_putF (pc := 17) F fl_X2_15 plf_1_2 dX2_init_17 (by omega) hk fv_1_2 rfl rfl (Or.inr ⟨rfl, by decide, gap_ok (by decide)⟩) e8 ?_
  refine n_aload_n (pc := 20) (j := 0) F dX2_init_20 rfl rfl ?_
  refine n_bipush (pc := 21) (v := 9) F dX2_init_21 bp_9 ?_
  obtain ⟨h9, e10, hf⟩ := bnd_some hf
  refine n_newa (pc := 23) F tw_61 dX2_init_23 (ly_1_3 ho hk).2 (by omega) (by decide) (Nat.le_of_ble_eq_true rfl) (Nat.le_of_ble_eq_true rfl) ?_
  rw [nwz_eq e10]
  obtain ⟨h11, e12, hf⟩ := bnd_some hf
  refine n_putF (pc := 25) F fl_X2_18 plf_1_3 dX2_init_25 (by omega) hk fv_1_3 rfl rfl (Or.inr ⟨rfl, by decide, gap_ok (by decide)⟩) e12 ?_
  refine n_aload_n (pc := 28) (j := 0) F dX2_init_28 rfl rfl ?_
  refine n_bipush (pc := 29) (v := 9) F dX2_init_29 bp_9 ?_
  obtain ⟨h13, e14, hf⟩ := bnd_some hf
  refine n_newa (pc := 31) F tw_61 dX2_init_31 (ly_1_4 ho hk).2 (by omega) (by decide) (Nat.le_of_ble_eq_true rfl) (Nat.le_of_ble_eq_true rfl) ?_
  rw [nwz_eq e14]
  obtain ⟨h15, e16, hf⟩ := bnd_some hf
  refine n_putF (pc := 33) F fl_X2_21 plf_1_4 dX2_init_33 (by omega) hk fv_1_4 rfl rfl (Or.inr ⟨rfl, by decide, gap_ok (by decide)⟩) e16 ?_
  refine n_aload_n (pc := 36) (j := 0) F dX2_init_36 rfl rfl ?_
  refine n_bipush (pc := 37) (v := 14) F dX2_init_37 bp_14 ?_
  obtain ⟨h17, e18, hf⟩ := bnd_some hf
  refine n_newa (pc := 39) F tw_61 dX2_init_39 (ly_1_6 ho hk).2 (by omega) (by decide) (Nat.le_of_ble_eq_true rfl) (Nat.le_of_ble_eq_true rfl) ?_
  rw [nwz_eq e18]
  obtain ⟨h19, e20, hf⟩ := bnd_some hf
  refine n_putF (pc := 41) F fl_X2_24 plf_1_6 dX2_init_41 (by omega) hk fv_1_6 rfl rfl (Or.inr ⟨rfl, by decide, gap_ok (by decide)⟩) e20 ?_
  refine n_aload_n (pc := 44) (j := 0) F dX2_init_44 rfl rfl ?_
  refine n_bipush (pc := 45) (v := 14) F dX2_init_45 bp_14 ?_
  obtain ⟨h21, e22, hf⟩ := bnd_some hf
  refine n_newa (pc := 47) F tw_61 dX2_init_47 (ly_1_7 ho hk).2 (by omega) (by decide) (Nat.le_of_ble_eq_true rfl) (Nat.le_of_ble_eq_true rfl) ?_
  rw [nwz_eq e22]
  obtain ⟨h23, e24, hf⟩ := bnd_some hf
  refine n_putF (pc := 49) F fl_X2_27 plf_1_7 dX2_init_49 (by omega) hk fv_1_7 rfl rfl (Or.inr ⟨rfl, by decide, gap_ok (by decide)⟩) e24 ?_
  refine n_aload_n (pc := 52) (j := 0) F dX2_init_52 rfl rfl ?_
  refine n_iconst (pc := 53) (v := 5) F dX2_init_53 ic_5 ?_
  obtain ⟨h25, e26, hf⟩ := bnd_some hf
  refine n_newa (pc := 54) F tw_61 dX2_init_54 (ly_1_9 ho hk).2 (by omega) (by decide) (Nat.le_of_ble_eq_true rfl) (Nat.le_of_ble_eq_true rfl) ?_
  rw [nwz_eq e26]
  obtain ⟨h27, e28, hf⟩ := bnd_some hf
  refine n_putF (pc := 56) F fl_X2_30 plf_1_9 dX2_init_56 (by omega) hk fv_1_9 rfl rfl (Or.inr ⟨rfl, by decide, gap_ok (by decide)⟩) e28 ?_
  refine n_aload_n (pc := 59) (j := 0) F dX2_init_59 rfl rfl ?_
  refine n_bipush (pc := 60) (v := 40) F dX2_init_60 bp_40 ?_
  obtain ⟨h29, e30, hf⟩ := bnd_some hf
  refine n_newa (pc := 62) F tw_61 dX2_init_62 (ly_1_10 ho hk).2 (by omega) (by decide) (Nat.le_of_ble_eq_true rfl) (Nat.le_of_ble_eq_true rfl) ?_
  rw [nwz_eq e30]
  obtain ⟨h31, e32, hf⟩ := bnd_some hf
  refine n_putF (pc := 64) F fl_X2_33 plf_1_10 dX2_init_64 (by omega) hk fv_1_10 rfl rfl (Or.inr ⟨rfl, by decide, gap_ok (by decide)⟩) e32 ?_
  refine n_aload_n (pc := 67) (j := 0) F dX2_init_67 rfl rfl ?_
  refine n_bipush (pc := 68) (v := 40) F dX2_init_68 bp_40 ?_
  obtain ⟨h33, e34, hf⟩ := bnd_some hf
  refine n_newa (pc := 70) F tw_61 dX2_init_70 (ly_1_11 ho hk).2 (by omega) (by decide) (Nat.le_of_ble_eq_true rfl) (Nat.le_of_ble_eq_true rfl) ?_
  rw [nwz_eq e34]
  obtain ⟨h35, e36, hf⟩ := bnd_some hf
  refine n_putF (pc := 72) F fl_X2_36 plf_1_11 dX2_init_72 (by omega) hk fv_1_11 rfl rfl (Or.inr ⟨rfl, by decide, gap_ok (by decide)⟩) e36 ?_
  refine n_aload_n (pc := 75) (j := 0) F dX2_init_75 rfl rfl ?_
  refine n_bipush (pc := 76) (v := 40) F dX2_init_76 bp_40 ?_
  obtain ⟨h37, e38, hf⟩ := bnd_some hf
  refine n_newa (pc := 78) F tw_61 dX2_init_78 (ly_1_12 ho hk).2 (by omega) (by decide) (Nat.le_of_ble_eq_true rfl) (Nat.le_of_ble_eq_true rfl) ?_
  rw [nwz_eq e38]
  obtain ⟨h39, e40, hf⟩ := bnd_some hf
  refine n_putF (pc := 80) F fl_X2_39 plf_1_12 dX2_init_80 (by omega) hk fv_1_12 rfl rfl (Or.inr ⟨rfl, by decide, gap_ok (by decide)⟩) e40 ?_
  refine n_aload_n (pc := 83) (j := 0) F dX2_init_83 rfl rfl ?_
  refine n_bipush (pc := 84) (v := 10) F dX2_init_84 bp_10 ?_
  obtain ⟨h41, e42, hf⟩ := bnd_some hf
  refine n_newa (pc := 86) F tw_61 dX2_init_86 (ly_1_14 ho hk).2 (by omega) (by decide) (Nat.le_of_ble_eq_true rfl) (Nat.le_of_ble_eq_true rfl) ?_
  rw [nwz_eq e42]
  obtain ⟨h43, e44, hf⟩ := bnd_some hf
  refine n_putF (pc := 88) F fl_X2_42 plf_1_14 dX2_init_88 (by omega) hk fv_1_14 rfl rfl (Or.inr ⟨rfl, by decide, gap_ok (by decide)⟩) e44 ?_
  refine n_aload_n (pc := 91) (j := 0) F dX2_init_91 rfl rfl ?_
  obtain ⟨h45, e46, hf⟩ := bnd_some hf
  refine n_new (pc := 92) F nwk_X2_45 dX2_init_92 (ly_1_17 ho hk).2 (by omega) (Nat.le_of_ble_eq_true rfl) (Nat.le_of_ble_eq_true rfl) ?_
  rw [nwz_eq e46]
  refine n_dup (pc := 95) F dX2_init_95 rfl ?_
  obtain ⟨h47, e48, hf⟩ := bnd_some hf
  refine n_callIN (pc := 96) (As := []) (host := "DustParish") F rfl (by decide +kernel) ⟨tw_3, tw_44, by decide, tw_43⟩ cz_yX5_init rfl dX2_init_96 (kX5_init (ly_1_17 ho hk).1 (ly_1_17 ho hk).2 e48) (by omega) (by omega) rfl rfl (Nat.le_of_ble_eq_true rfl) (by decide) (Nat.le_of_ble_eq_true rfl) (Nat.le_of_ble_eq_true rfl) ?_
  refine VN_z (zf_zw (by omega)) ?_
  obtain ⟨h49, e50, hf⟩ := bnd_some hf
  refine n_putF (pc := 99) F fl_X2_48 plf_1_17 dX2_init_99 (by omega) hk fv_1_17 rfl rfl (Or.inr ⟨rfl, by decide, gap_ok (by decide)⟩) e50 ?_
  refine n_aload_n (pc := 102) (j := 0) F dX2_init_102 rfl rfl ?_
  refine n_bipush (pc := 103) (v := 81) F dX2_init_103 bp_81 ?_
  obtain ⟨h51, e52, hf⟩ := bnd_some hf
  refine n_newa (pc := 105) F tw_61 dX2_init_105 (ly_1_18 ho hk).2 (by omega) (by decide) (Nat.le_of_ble_eq_true rfl) (Nat.le_of_ble_eq_true rfl) ?_
  rw [nwz_eq e52]
  obtain ⟨h53, e54, hf⟩ := bnd_some hf
  refine n_putF (pc := 107) F fl_X2_52 plf_1_18 dX2_init_107 (by omega) hk fv_1_18 rfl rfl (Or.inr ⟨rfl, by decide, gap_ok (by decide)⟩) e54 ?_
  refine n_aload_n (pc := 110) (j := 0) F dX2_init_110 rfl rfl ?_
  refine n_bipush (pc := 111) (v := 6) F dX2_init_111 bp_6 ?_
  obtain ⟨h55, e56, hf⟩ := bnd_some hf
  refine n_newa (pc := 113) F tw_61 dX2_init_113 (ly_1_19 ho hk).2 (by omega) (by decide) (Nat.le_of_ble_eq_true rfl) (Nat.le_of_ble_eq_true rfl) ?_
  rw [nwz_eq e56]
  obtain ⟨h57, e58, hf⟩ := bnd_some hf
  refine n_putF (pc := 115) F fl_X2_55 plf_1_19 dX2_init_115 (by omega) hk fv_1_19 rfl rfl (Or.inr ⟨rfl, by decide, gap_ok (by decide)⟩) e58 ?_
  exact n_vret (pc := 118) F hr dX2_init_118 (by omega) (Option.some.inj hf) (Nat.le_refl _) (Nat.le_refl _) (end_ok hk (by decide))
def fX9_init (h : ST) : Option ST :=
  bnd (pw h 39 0 0) fun h1 =>
  bnd (pw h1 39 1 0) fun h3 =>
  bnd (pw h3 39 2 0) fun h5 =>
  bnd (pw h5 39 3 0) fun h7 =>
  bnd (pw h7 39 4 0) fun h9 =>
  bnd (pw h9 39 5 0) fun h11 =>
  bnd (pw h11 39 6 0) fun h13 =>
  some h13
set_option maxRecDepth 100000 in
set_option maxHeartbeats 4000000 in
theorem kX9_init {l : Launch} {g : GE} {b0 : Nat} {zr : Nat → Nat → Bool} {h : ST} {y : ST} (hf : fX9_init h = some y) : NT l yX9_init cX9_init 2 1 0 0 KC g b0 39 [.ref (gA g 39), .ref (gA g 1)] 40 (zw zr 39 0) h 40 (zf zr 39) y := by
  refine NT.of pn_X9 (Nat.le_of_ble_eq_true rfl) rfl ?_
  intro p e s m below meth c hr F
  have F : FN p s m _ meth c cX9_init 2 "DustParish$Tokens" g b0 := F
  refine VN_lv (lv' := [(0, .ref (gA g 39)), (1, .ref (gA g 1))]) rfl ?_
  unfold fX9_init at hf
  refine n_aload_n (pc := 0) (j := 0) F dX9_init_0 rfl rfl ?_
  refine n_obj (pc := 1) F tw_178 dX9_init_1 (by decide) (Nat.le_of_ble_eq_true rfl) ?_
  refine n_aload_n (pc := 4) (j := 0) F dX9_init_4 rfl rfl ?_
  refine n_iconst (pc := 5) (v := 0) F dX9_init_5 ic_0 ?_
  obtain ⟨h1, e2, hf⟩ := bnd_some hf
  refine n_putM (pc := 6) F fl_X9_9 pl_8_0 dX9_init_6 (by omega) kc_39.2 fv_8_0 rfl rfl (Or.inl ⟨rfl, rfl⟩) e2 ?_
  refine n_aload_n (pc := 9) (j := 0) F dX9_init_9 rfl rfl ?_
  refine n_iconst (pc := 10) (v := 0) F dX9_init_10 ic_0 ?_
  obtain ⟨h3, e4, hf⟩ := bnd_some hf
  refine n_putM (pc := 11) F fl_X9_13 pl_8_1 dX9_init_11 (by omega) kc_39.2 fv_8_1 rfl rfl (Or.inl ⟨rfl, rfl⟩) e4 ?_
  refine n_aload_n (pc := 14) (j := 0) F dX9_init_14 rfl rfl ?_
  refine n_iconst (pc := 15) (v := 0) F dX9_init_15 ic_0 ?_
  obtain ⟨h5, e6, hf⟩ := bnd_some hf
  refine n_putM (pc := 16) F fl_X9_16 pl_8_2 dX9_init_16 (by omega) kc_39.2 fv_8_2 rfl rfl (Or.inl ⟨rfl, rfl⟩) e6 ?_
  refine n_aload_n (pc := 19) (j := 0) F dX9_init_19 rfl rfl ?_
  refine n_iconst (pc := 20) (v := 0) F dX9_init_20 ic_0 ?_
  obtain ⟨h7, e8, hf⟩ := bnd_some hf
  refine n_putM (pc := 21) F fl_X9_19 pl_8_3 dX9_init_21 (by omega) kc_39.2 fv_8_3 rfl rfl (Or.inl ⟨rfl, rfl⟩) e8 ?_
  refine n_aload_n (pc := 24) (j := 0) F dX9_init_24 rfl rfl ?_
  refine n_iconst (pc := 25) (v := 0) F dX9_init_25 ic_0 ?_
  obtain ⟨h9, e10, hf⟩ := bnd_some hf
  refine n_putM (pc := 26) F fl_X9_23 pl_8_4 dX9_init_26 (by omega) kc_39.2 fv_8_4 rfl rfl (Or.inl ⟨rfl, rfl⟩) e10 ?_
  refine n_aload_n (pc := 29) (j := 0) F dX9_init_29 rfl rfl ?_
  refine n_iconst (pc := 30) (v := 0) F dX9_init_30 ic_0 ?_
  obtain ⟨h11, e12, hf⟩ := bnd_some hf
  refine n_putM (pc := 31) F fl_X9_26 pl_8_5 dX9_init_31 (by omega) kc_39.2 fv_8_5 rfl rfl (Or.inl ⟨rfl, rfl⟩) e12 ?_
  refine n_aload_n (pc := 34) (j := 0) F dX9_init_34 rfl rfl ?_
  refine n_aload_n (pc := 35) (j := 1) F dX9_init_35 rfl rfl ?_
  obtain ⟨h13, e14, hf⟩ := bnd_some hf
  refine n_putF (pc := 36) F fl_X9_29 plf_8_6 dX9_init_36 (by omega) kc_39.2 fv_8_6 rfl rfl (Or.inr ⟨rfl, by decide, gap_ok (by decide)⟩) e14 ?_
  exact n_vret (pc := 39) F hr dX9_init_39 (by omega) (Option.some.inj hf) (Nat.le_refl _) (Nat.le_refl _) (end_ok kc_39.2 (by decide))
def fX6_init (h : ST) : Option ST :=
  bnd (nwz h 41) fun h1 =>
  bnd (pw h1 40 0 0) fun h3 =>
  bnd (pw h3 40 1 0) fun h5 =>
  bnd (pw h5 40 2 0) fun h7 =>
  bnd (pw h7 40 3 0) fun h9 =>
  bnd (pw h9 40 4 1) fun h11 =>
  bnd (pw h11 40 5 1) fun h13 =>
  bnd (pw h13 40 6 0) fun h15 =>
  bnd (pw h15 40 7 (Int32.ofNat 32)) fun h17 =>
  some h17
set_option maxRecDepth 100000 in
set_option maxHeartbeats 4000000 in
theorem kX6_init {l : Launch} {g : GE} {b0 : Nat} {zr : Nat → Nat → Bool} {h : ST} {y : ST} (hf : fX6_init h = some y) : NT l yX6_init cX6_init 3 1 1 80 KC g b0 40 [.ref (gA g 40), .ref (gA g 39), .ref (gA g 32)] 41 (zw zr 40 0) h 42 (zf zr 40) y := by
  refine NT.of pn_X6 (Nat.le_of_ble_eq_true rfl) rfl ?_
  intro p e s m below meth c hr F
  have F : FN p s m _ meth c cX6_init 3 "DustParish$RuleReader" g b0 := F
  refine VN_lv (lv' := [(0, .ref (gA g 40)), (1, .ref (gA g 39)), (2, .ref (gA g 32))]) rfl ?_
  unfold fX6_init at hf
  refine n_aload_n (pc := 0) (j := 0) F dX6_init_0 rfl rfl ?_
  refine n_obj (pc := 1) F tw_213 dX6_init_1 (by decide) (Nat.le_of_ble_eq_true rfl) ?_
  refine n_aload_n (pc := 4) (j := 0) F dX6_init_4 rfl rfl ?_
  refine n_bipush (pc := 5) (v := 80) F dX6_init_5 bp_80 ?_
  obtain ⟨h1, e2, hf⟩ := bnd_some hf
  refine n_newa (pc := 7) F tw_61 dX6_init_7 kc_41.2 (by omega) (by decide) (Nat.le_of_ble_eq_true rfl) (Nat.le_of_ble_eq_true rfl) ?_
  rw [nwz_eq e2]
  obtain ⟨h3, e4, hf⟩ := bnd_some hf
  refine n_putF (pc := 9) F fl_X6_11 plf_5_0 dX6_init_9 (by omega) kc_40.2 fv_5_0 rfl rfl (Or.inr ⟨rfl, by decide, gap_ok (by decide)⟩) e4 ?_
  refine n_aload_n (pc := 12) (j := 0) F dX6_init_12 rfl rfl ?_
  refine n_iconst (pc := 13) (v := 0) F dX6_init_13 ic_0 ?_
  obtain ⟨h5, e6, hf⟩ := bnd_some hf
  refine n_putM (pc := 14) F fl_X6_15 pl_5_1 dX6_init_14 (by omega) kc_40.2 fv_5_1 rfl rfl (Or.inl ⟨rfl, rfl⟩) e6 ?_
  refine n_aload_n (pc := 17) (j := 0) F dX6_init_17 rfl rfl ?_
  refine n_iconst (pc := 18) (v := 0) F dX6_init_18 ic_0 ?_
  obtain ⟨h7, e8, hf⟩ := bnd_some hf
  refine n_putM (pc := 19) F fl_X6_19 pl_5_2 dX6_init_19 (by omega) kc_40.2 fv_5_2 rfl rfl (Or.inl ⟨rfl, rfl⟩) e8 ?_
  refine n_aload_n (pc := 22) (j := 0) F dX6_init_22 rfl rfl ?_
  refine n_iconst (pc := 23) (v := 0) F dX6_init_23 ic_0 ?_
  obtain ⟨h9, e10, hf⟩ := bnd_some hf
  refine n_putM (pc := 24) F fl_X6_22 pl_5_3 dX6_init_24 (by omega) kc_40.2 fv_5_3 rfl rfl (Or.inl ⟨rfl, rfl⟩) e10 ?_
  refine n_aload_n (pc := 27) (j := 0) F dX6_init_27 rfl rfl ?_
  refine n_iconst (pc := 28) (v := 1) F dX6_init_28 ic_1 ?_
  obtain ⟨h11, e12, hf⟩ := bnd_some hf
  refine n_putM (pc := 29) F fl_X6_25 pl_5_4 dX6_init_29 (by omega) kc_40.2 fv_5_4 rfl rfl (Or.inl ⟨rfl, rfl⟩) e12 ?_
  refine n_aload_n (pc := 32) (j := 0) F dX6_init_32 rfl rfl ?_
  refine n_iconst (pc := 33) (v := 1) F dX6_init_33 ic_1 ?_
  obtain ⟨h13, e14, hf⟩ := bnd_some hf
  refine n_putM (pc := 34) F fl_X6_29 pl_5_5 dX6_init_34 (by omega) kc_40.2 fv_5_5 rfl rfl (Or.inl ⟨rfl, rfl⟩) e14 ?_
  refine n_aload_n (pc := 37) (j := 0) F dX6_init_37 rfl rfl ?_
  refine n_aload_n (pc := 38) (j := 1) F dX6_init_38 rfl rfl ?_
  obtain ⟨h15, e16, hf⟩ := bnd_some hf
  refine n_putF (pc := 39) F fl_X6_32 plf_5_6 dX6_init_39 (by omega) kc_40.2 fv_5_6 rfl rfl (Or.inr ⟨rfl, by decide, gap_ok (by decide)⟩) e16 ?_
  refine n_aload_n (pc := 42) (j := 0) F dX6_init_42 rfl rfl ?_
  refine n_aload_n (pc := 43) (j := 2) F dX6_init_43 rfl rfl ?_
  obtain ⟨h17, e18, hf⟩ := bnd_some hf
  refine n_putM (pc := 44) F fl_X6_36 pl_5_7 dX6_init_44 (by omega) kc_40.2 (fv_5_7 (ofNat_back (by decide))) rfl rfl (Or.inr ⟨rfl, by decide, gap_ok (by decide)⟩) e18 ?_
  exact n_vret (pc := 47) F hr dX6_init_47 (by omega) (Option.some.inj hf) (Nat.le_refl _) (Nat.le_refl _) (end_ok kc_40.2 (by decide))
theorem dv_8 : ∀ k, k < 7 → ∀ (g : GE) (i : Nat), defaultValue (tyX9 k) = fval g false (FT 8 k) i 0 := by
  intro k hk g i
  match k, hk with
  | 0, _ => rfl
  | 1, _ => rfl
  | 2, _ => rfl
  | 3, _ => rfl
  | 4, _ => rfl
  | 5, _ => rfl
  | 6, _ => rfl
  | k + 7, hk => exact absurd hk (by omega)
theorem nwk_X4_28 : NWK "DustParish$Reader" 28 8 "DustParish$Tokens" 7 := ⟨TX9, tyX9, rfl, tw_173, tw_174, tw_5, lyw_8, tyX9_ok, by decide, rfl, dv_8⟩
theorem dv_5 : ∀ k, k < 8 → ∀ (g : GE) (i : Nat), defaultValue (tyX6 k) = fval g false (FT 5 k) i 0 := by
  intro k hk g i
  match k, hk with
  | 0, _ => rfl
  | 1, _ => rfl
  | 2, _ => rfl
  | 3, _ => rfl
  | 4, _ => rfl
  | 5, _ => rfl
  | 6, _ => rfl
  | 7, _ => rfl
  | k + 8, hk => exact absurd hk (by omega)
theorem nwk_X4_37 : NWK "DustParish$Reader" 37 5 "DustParish$RuleReader" 8 := ⟨TX6, tyX6, rfl, tw_208, tw_209, tw_6, lyw_5, tyX6_ok, by decide, rfl, dv_5⟩
def fX4_init (h : ST) : Option ST :=
  bnd (pw h 38 3 0) fun h1 =>
  bnd (pw h1 38 4 0) fun h3 =>
  bnd (pw h3 38 5 0) fun h5 =>
  bnd (pw h5 38 6 0) fun h7 =>
  bnd (pw h7 38 7 0) fun h9 =>
  bnd (nwz h9 39) fun h11 =>
  bnd (fX9_init h11) fun h13 =>
  bnd (pw h13 38 0 0) fun h15 =>
  bnd (nwz h15 40) fun h17 =>
  bnd (fX6_init h17) fun h19 =>
  bnd (pw h19 38 1 0) fun h21 =>
  bnd (pw h21 38 2 (Int32.ofNat 20)) fun h23 =>
  some h23
theorem cz_yX9_init : yX9_init.cls ≠ "java/lang/invoke/MethodHandle" ∧ yX9_init.cls ≠ "java/lang/invoke/VarHandle" ∧ (parseMethodDescriptor yX9_init.desc).map (fun d => d.parameters.length) = some 1 := by decide +kernel
theorem cz_yX6_init : yX6_init.cls ≠ "java/lang/invoke/MethodHandle" ∧ yX6_init.cls ≠ "java/lang/invoke/VarHandle" ∧ (parseMethodDescriptor yX6_init.desc).map (fun d => d.parameters.length) = some 2 := by decide +kernel
set_option maxRecDepth 100000 in
set_option maxHeartbeats 4000000 in
theorem kX4_init {l : Launch} {g : GE} {b0 : Nat} {zr : Nat → Nat → Bool} {h : ST} (hz : zr 20 17 = true) {y : ST} (hf : fX4_init h = some y) : NT l yX4_init cX4_init 3 2 3 95 KC g b0 38 [.ref (gA g 38), .ref (gA g 1), .ref (gA g 20)] 39 (zw zr 38 0) h 42 (zf zr 38) y := by
  refine NT.of pn_X4 (Nat.le_of_ble_eq_true rfl) rfl ?_
  intro p e s m below meth c hr F
  have F : FN p s m _ meth c cX4_init 3 "DustParish$Reader" g b0 := F
  refine VN_lv (lv' := [(0, .ref (gA g 38)), (1, .ref (gA g 1)), (2, .ref (gA g 20))]) rfl ?_
  unfold fX4_init at hf
  refine n_aload_n (pc := 0) (j := 0) F dX4_init_0 rfl rfl ?_
  refine n_obj (pc := 1) F tw_172 dX4_init_1 (by decide) (Nat.le_of_ble_eq_true rfl) ?_
  refine n_aload_n (pc := 4) (j := 0) F dX4_init_4 rfl rfl ?_
  refine n_iconst (pc := 5) (v := 0) F dX4_init_5 ic_0 ?_
  obtain ⟨h1, e2, hf⟩ := bnd_some hf
  refine n_putM (pc := 6) F fl_X4_9 pl_3_3 dX4_init_6 (by omega) kc_38.2 fv_3_3 rfl rfl (Or.inl ⟨rfl, rfl⟩) e2 ?_
  refine n_aload_n (pc := 9) (j := 0) F dX4_init_9 rfl rfl ?_
  refine n_iconst (pc := 10) (v := 0) F dX4_init_10 ic_0 ?_
  obtain ⟨h3, e4, hf⟩ := bnd_some hf
  refine n_putM (pc := 11) F fl_X4_15 pl_3_4 dX4_init_11 (by omega) kc_38.2 fv_3_4 rfl rfl (Or.inl ⟨rfl, rfl⟩) e4 ?_
  refine n_aload_n (pc := 14) (j := 0) F dX4_init_14 rfl rfl ?_
  refine n_iconst (pc := 15) (v := 0) F dX4_init_15 ic_0 ?_
  obtain ⟨h5, e6, hf⟩ := bnd_some hf
  refine n_putM (pc := 16) F fl_X4_19 pl_3_5 dX4_init_16 (by omega) kc_38.2 fv_3_5 rfl rfl (Or.inl ⟨rfl, rfl⟩) e6 ?_
  refine n_aload_n (pc := 19) (j := 0) F dX4_init_19 rfl rfl ?_
  refine n_iconst (pc := 20) (v := 0) F dX4_init_20 ic_0 ?_
  obtain ⟨h7, e8, hf⟩ := bnd_some hf
  refine n_putM (pc := 21) F fl_X4_22 pl_3_6 dX4_init_21 (by omega) kc_38.2 fv_3_6 rfl rfl (Or.inl ⟨rfl, rfl⟩) e8 ?_
  refine n_aload_n (pc := 24) (j := 0) F dX4_init_24 rfl rfl ?_
  refine n_iconst (pc := 25) (v := 0) F dX4_init_25 ic_0 ?_
  obtain ⟨h9, e10, hf⟩ := bnd_some hf
  refine n_putM (pc := 26) F fl_X4_25 pl_3_7 dX4_init_26 (by omega) kc_38.2 fv_3_7 rfl rfl (Or.inl ⟨rfl, rfl⟩) e10 ?_
  refine n_aload_n (pc := 29) (j := 0) F dX4_init_29 rfl rfl ?_
  obtain ⟨h11, e12, hf⟩ := bnd_some hf
  refine n_new (pc := 30) F nwk_X4_28 dX4_init_30 kc_39.2 (by omega) (Nat.le_of_ble_eq_true rfl) (Nat.le_of_ble_eq_true rfl) ?_
  rw [nwz_eq e12]
  refine n_dup (pc := 33) F dX4_init_33 rfl ?_
  refine n_aload_n (pc := 34) (j := 1) F dX4_init_34 rfl rfl ?_
  obtain ⟨h13, e14, hf⟩ := bnd_some hf
  refine n_callI (pc := 35) (As := [.ref (gA g 1)]) F rfl ⟨⟨tw_175, tw_5, tw_177, by decide, cy_yX9_init.1, cy_yX9_init.2.1, cy_yX9_init.2.2⟩, tw_176⟩ rfl dX4_init_35 (kX9_init e14) (by omega) (by omega) rfl rfl (Nat.le_of_ble_eq_true rfl) (by decide) (Nat.le_of_ble_eq_true rfl) (Nat.le_of_ble_eq_true rfl) ?_
  refine VN_z (zf_zw (by omega)) ?_
  obtain ⟨h15, e16, hf⟩ := bnd_some hf
  refine n_putF (pc := 38) F fl_X4_33 plf_3_0 dX4_init_38 (by omega) kc_38.2 fv_3_0 rfl rfl (Or.inr ⟨rfl, by decide, gap_ok (by decide)⟩) e16 ?_
  refine n_aload_n (pc := 41) (j := 0) F dX4_init_41 rfl rfl ?_
  obtain ⟨h17, e18, hf⟩ := bnd_some hf
  refine n_new (pc := 42) F nwk_X4_37 dX4_init_42 kc_40.2 (by omega) (Nat.le_of_ble_eq_true rfl) (Nat.le_of_ble_eq_true rfl) ?_
  rw [nwz_eq e18]
  refine n_dup (pc := 45) F dX4_init_45 rfl ?_
  refine n_aload_n (pc := 46) (j := 0) F dX4_init_46 rfl rfl ?_
  refine n_get (pc := 47) F fl_X4_33 dX4_init_47 (by omega) kc_38.2 (zget2 (by decide) (zget (by decide))) fv_3_0 ?_
  refine n_aload_n (pc := 50) (j := 2) F dX4_init_50 rfl rfl ?_
  refine n_get (pc := 51) F fl_X4_39 dX4_init_51 (by omega) kc_20.2 (zget2 (by decide) hz) fv_1_17 ?_
  obtain ⟨h19, e20, hf⟩ := bnd_some hf
  refine n_callI (pc := 54) (As := [.ref (gA g 39), .ref (gA g 32)]) F rfl ⟨⟨tw_210, tw_6, tw_212, by decide, cy_yX6_init.1, cy_yX6_init.2.1, cy_yX6_init.2.2⟩, tw_211⟩ rfl dX4_init_54 (kX6_init e20) (by omega) (by omega) rfl rfl (Nat.le_of_ble_eq_true rfl) (by decide) (Nat.le_of_ble_eq_true rfl) (Nat.le_of_ble_eq_true rfl) ?_
  refine VN_z (zf_zw (by omega)) ?_
  obtain ⟨h21, e22, hf⟩ := bnd_some hf
  refine n_putF (pc := 57) F fl_X4_48 plf_3_1 dX4_init_57 (by omega) kc_38.2 fv_3_1 rfl rfl (Or.inr ⟨rfl, by decide, gap_ok (by decide)⟩) e22 ?_
  refine n_aload_n (pc := 60) (j := 0) F dX4_init_60 rfl rfl ?_
  refine n_aload_n (pc := 61) (j := 2) F dX4_init_61 rfl rfl ?_
  obtain ⟨h23, e24, hf⟩ := bnd_some hf
  refine n_putM (pc := 62) F fl_X4_52 pl_3_2 dX4_init_62 (by omega) kc_38.2 (fv_3_2 (ofNat_back (by decide))) rfl rfl (Or.inr ⟨rfl, by decide, gap_ok (by decide)⟩) e24 ?_
  exact n_vret (pc := 65) F hr dX4_init_65 (by omega) (Option.some.inj hf) (Nat.le_refl _) (Nat.le_refl _) (end_ok kc_38.2 (by decide))
