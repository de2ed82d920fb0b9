def nwz (h : ST) (n : Nat) : Option ST := some (upR h n (fun _ => 0))
theorem nwz_eq {h h1 : ST} {n : Nat} (e : nwz h n = some h1) : upR h n (fun _ => 0) = h1 := Option.some.inj e
theorem gap_ok {ci cn f : Nat} (e : (List.range f).all (fun j => decide (j < cn) || decide (FT ci j = 0)) = true) : ∀ j, cn ≤ j → j < f → FT ci j = 0 := by
  intro j h1 h2
  have h3 := List.all_eq_true.mp e j (List.mem_range.mpr h2)
  simp only [Bool.or_eq_true, decide_eq_true_eq] at h3
  omega
/-- at a constructor's end: all its references are laid -/
theorem end_ok {KD : Nat → Nat × Nat} {zr : Nat → Nat → Bool} {o cn n ci : Nat} (hk : KD o = (ci, 0)) (hc : (List.range (nF ci)).all (fun k => decide (FT ci k = 0) || decide (k < cn)) = true) : ∀ i k, i < n → ((KD i).1 < 20 → k < nF (KD i).1 → FT (KD i).1 k ≠ 0 → zw zr o cn i k = zf zr o i k) ∧ (23 ≤ (KD i).1 → k < (KD i).2 → zw zr o cn i k = zf zr o i k) := by
  intro i k _
  unfold zw zf
  by_cases h1 : i < o
  · simp only [if_pos h1]; exact ⟨fun _ _ _ => trivial, fun _ _ => trivial⟩
  · simp only [if_neg h1]
    by_cases h2 : i = o
    · subst h2
      simp only [if_pos]
      refine ⟨fun _ h4 h5 => ?_, fun h3 => ?_⟩
      · rw [hk] at h4 h5
        have h3 := List.all_eq_true.mp hc k (List.mem_range.mpr h4)
        simp only [Bool.or_eq_true, decide_eq_true_eq] at h3
        rcases h3 with h3 | h3
        · exact absurd h3 h5
        · simp [h3]
      · intro h4; rw [hk] at h4; exact absurd h4 (Nat.not_lt_zero _)
    · simp only [if_neg h2]; exact ⟨fun _ _ _ => trivial, fun _ _ => trivial⟩
theorem plf_0_2 : PLF "DustParish$Acts" 0 2 (tyX0 2) := ⟨(RX0, TX0, 3), tyX0, rfl, rfl, rfl, tyX0_ok, nmX0, rfl⟩
theorem plf_1_1 : PLF "DustParish$Facts" 1 1 (tyX2 1) := ⟨(RX2, TX2, 20), tyX2, rfl, rfl, rfl, tyX2_ok, nmX2, rfl⟩
theorem plf_1_2 : PLF "DustParish$Facts" 1 2 (tyX2 2) := ⟨(RX2, TX2, 20), tyX2, rfl, rfl, rfl, tyX2_ok, nmX2, rfl⟩
theorem plf_1_3 : PLF "DustParish$Facts" 1 3 (tyX2 3) := ⟨(RX2, TX2, 20), tyX2, rfl, rfl, rfl, tyX2_ok, nmX2, rfl⟩
theorem plf_1_4 : PLF "DustParish$Facts" 1 4 (tyX2 4) := ⟨(RX2, TX2, 20), tyX2, rfl, rfl, rfl, tyX2_ok, nmX2, rfl⟩
theorem plf_1_6 : PLF "DustParish$Facts" 1 6 (tyX2 6) := ⟨(RX2, TX2, 20), tyX2, rfl, rfl, rfl, tyX2_ok, nmX2, rfl⟩
theorem plf_1_7 : PLF "DustParish$Facts" 1 7 (tyX2 7) := ⟨(RX2, TX2, 20), tyX2, rfl, rfl, rfl, tyX2_ok, nmX2, rfl⟩
theorem plf_1_9 : PLF "DustParish$Facts" 1 9 (tyX2 9) := ⟨(RX2, TX2, 20), tyX2, rfl, rfl, rfl, tyX2_ok, nmX2, rfl⟩
theorem plf_1_10 : PLF "DustParish$Facts" 1 10 (tyX2 10) := ⟨(RX2, TX2, 20), tyX2, rfl, rfl, rfl, tyX2_ok, nmX2, rfl⟩
theorem plf_1_11 : PLF "DustParish$Facts" 1 11 (tyX2 11) := ⟨(RX2, TX2, 20), tyX2, rfl, rfl, rfl, tyX2_ok, nmX2, rfl⟩
theorem plf_1_12 : PLF "DustParish$Facts" 1 12 (tyX2 12) := ⟨(RX2, TX2, 20), tyX2, rfl, rfl, rfl, tyX2_ok, nmX2, rfl⟩
theorem plf_1_14 : PLF "DustParish$Facts" 1 14 (tyX2 14) := ⟨(RX2, TX2, 20), tyX2, rfl, rfl, rfl, tyX2_ok, nmX2, rfl⟩
theorem plf_1_17 : PLF "DustParish$Facts" 1 17 (tyX2 17) := ⟨(RX2, TX2, 20), tyX2, rfl, rfl, rfl, tyX2_ok, nmX2, rfl⟩
theorem plf_1_18 : PLF "DustParish$Facts" 1 18 (tyX2 18) := ⟨(RX2, TX2, 20), tyX2, rfl, rfl, rfl, tyX2_ok, nmX2, rfl⟩
theorem plf_1_19 : PLF "DustParish$Facts" 1 19 (tyX2 19) := ⟨(RX2, TX2, 20), tyX2, rfl, rfl, rfl, tyX2_ok, nmX2, rfl⟩
theorem plf_2_0 : PLF "DustParish$Present" 2 0 (tyX3 0) := ⟨(RX3, TX3, 4), tyX3, rfl, rfl, rfl, tyX3_ok, nmX3, rfl⟩
theorem plf_2_1 : PLF "DustParish$Present" 2 1 (tyX3 1) := ⟨(RX3, TX3, 4), tyX3, rfl, rfl, rfl, tyX3_ok, nmX3, rfl⟩
theorem plf_2_2 : PLF "DustParish$Present" 2 2 (tyX3 2) := ⟨(RX3, TX3, 4), tyX3, rfl, rfl, rfl, tyX3_ok, nmX3, rfl⟩
theorem plf_2_3 : PLF "DustParish$Present" 2 3 (tyX3 3) := ⟨(RX3, TX3, 4), tyX3, rfl, rfl, rfl, tyX3_ok, nmX3, rfl⟩
theorem plf_3_0 : PLF "DustParish$Reader" 3 0 (tyX4 0) := ⟨(RX4, TX4, 8), tyX4, rfl, rfl, rfl, tyX4_ok, nmX4, rfl⟩
theorem plf_3_1 : PLF "DustParish$Reader" 3 1 (tyX4 1) := ⟨(RX4, TX4, 8), tyX4, rfl, rfl, rfl, tyX4_ok, nmX4, rfl⟩
theorem plf_4_0 : PLF "DustParish$Rule" 4 0 (tyX5 0) := ⟨(RX5, TX5, 4), tyX5, rfl, rfl, rfl, tyX5_ok, nmX5, rfl⟩
theorem plf_4_2 : PLF "DustParish$Rule" 4 2 (tyX5 2) := ⟨(RX5, TX5, 4), tyX5, rfl, rfl, rfl, tyX5_ok, nmX5, rfl⟩
theorem plf_4_3 : PLF "DustParish$Rule" 4 3 (tyX5 3) := ⟨(RX5, TX5, 4), tyX5, rfl, rfl, rfl, tyX5_ok, nmX5, rfl⟩
theorem plf_5_0 : PLF "DustParish$RuleReader" 5 0 (tyX6 0) := ⟨(RX6, TX6, 8), tyX6, rfl, rfl, rfl, tyX6_ok, nmX6, rfl⟩
theorem plf_5_6 : PLF "DustParish$RuleReader" 5 6 (tyX6 6) := ⟨(RX6, TX6, 8), tyX6, rfl, rfl, rfl, tyX6_ok, nmX6, rfl⟩
theorem plf_6_1 : PLF "DustParish$Sights" 6 1 (tyX7 1) := ⟨(RX7, TX7, 4), tyX7, rfl, rfl, rfl, tyX7_ok, nmX7, rfl⟩
theorem plf_6_2 : PLF "DustParish$Sights" 6 2 (tyX7 2) := ⟨(RX7, TX7, 4), tyX7, rfl, rfl, rfl, tyX7_ok, nmX7, rfl⟩
theorem plf_6_3 : PLF "DustParish$Sights" 6 3 (tyX7 3) := ⟨(RX7, TX7, 4), tyX7, rfl, rfl, rfl, tyX7_ok, nmX7, rfl⟩
theorem plf_7_3 : PLF "DustParish$State" 7 3 (tyX8 3) := ⟨(RX8, TX8, 6), tyX8, rfl, rfl, rfl, tyX8_ok, nmX8, rfl⟩
theorem plf_7_4 : PLF "DustParish$State" 7 4 (tyX8 4) := ⟨(RX8, TX8, 6), tyX8, rfl, rfl, rfl, tyX8_ok, nmX8, rfl⟩
theorem plf_7_5 : PLF "DustParish$State" 7 5 (tyX8 5) := ⟨(RX8, TX8, 6), tyX8, rfl, rfl, rfl, tyX8_ok, nmX8, rfl⟩
theorem plf_8_6 : PLF "DustParish$Tokens" 8 6 (tyX9 6) := ⟨(RX9, TX9, 7), tyX9, rfl, rfl, rfl, tyX9_ok, nmX9, rfl⟩
theorem plf_9_0 : PLF "DustParish" 9 0 (tyX10 0) := ⟨(RX10, TX10, 15), tyX10, rfl, rfl, rfl, tyX10_ok, nmX10, rfl⟩
theorem plf_9_5 : PLF "DustParish" 9 5 (tyX10 5) := ⟨(RX10, TX10, 15), tyX10, rfl, rfl, rfl, tyX10_ok, nmX10, rfl⟩
theorem plf_9_6 : PLF "DustParish" 9 6 (tyX10 6) := ⟨(RX10, TX10, 15), tyX10, rfl, rfl, rfl, tyX10_ok, nmX10, rfl⟩
theorem plf_9_7 : PLF "DustParish" 9 7 (tyX10 7) := ⟨(RX10, TX10, 15), tyX10, rfl, rfl, rfl, tyX10_ok, nmX10, rfl⟩
theorem plf_9_9 : PLF "DustParish" 9 9 (tyX10 9) := ⟨(RX10, TX10, 15), tyX10, rfl, rfl, rfl, tyX10_ok, nmX10, rfl⟩
theorem plf_9_10 : PLF "DustParish" 9 10 (tyX10 10) := ⟨(RX10, TX10, 15), tyX10, rfl, rfl, rfl, tyX10_ok, nmX10, rfl⟩
theorem plf_9_11 : PLF "DustParish" 9 11 (tyX10 11) := ⟨(RX10, TX10, 15), tyX10, rfl, rfl, rfl, tyX10_ok, nmX10, rfl⟩
theorem plf_9_12 : PLF "DustParish" 9 12 (tyX10 12) := ⟨(RX10, TX10, 15), tyX10, rfl, rfl, rfl, tyX10_ok, nmX10, rfl⟩
theorem plf_9_13 : PLF "DustParish" 9 13 (tyX10 13) := ⟨(RX10, TX10, 15), tyX10, rfl, rfl, rfl, tyX10_ok, nmX10, rfl⟩
theorem plf_9_14 : PLF "DustParish" 9 14 (tyX10 14) := ⟨(RX10, TX10, 15), tyX10, rfl, rfl, rfl, tyX10_ok, nmX10, rfl⟩
theorem plf_10_0 : PLF "DustParishModel" 10 0 (tyX11 0) := ⟨(RX11, TX11, 63), tyX11, rfl, rfl, rfl, tyX11_ok, nmX11, rfl⟩
theorem plf_10_1 : PLF "DustParishModel" 10 1 (tyX11 1) := ⟨(RX11, TX11, 63), tyX11, rfl, rfl, rfl, tyX11_ok, nmX11, rfl⟩
theorem plf_10_3 : PLF "DustParishModel" 10 3 (tyX11 3) := ⟨(RX11, TX11, 63), tyX11, rfl, rfl, rfl, tyX11_ok, nmX11, rfl⟩
theorem plf_10_4 : PLF "DustParishModel" 10 4 (tyX11 4) := ⟨(RX11, TX11, 63), tyX11, rfl, rfl, rfl, tyX11_ok, nmX11, rfl⟩
theorem plf_10_5 : PLF "DustParishModel" 10 5 (tyX11 5) := ⟨(RX11, TX11, 63), tyX11, rfl, rfl, rfl, tyX11_ok, nmX11, rfl⟩
theorem plf_10_6 : PLF "DustParishModel" 10 6 (tyX11 6) := ⟨(RX11, TX11, 63), tyX11, rfl, rfl, rfl, tyX11_ok, nmX11, rfl⟩
theorem plf_10_7 : PLF "DustParishModel" 10 7 (tyX11 7) := ⟨(RX11, TX11, 63), tyX11, rfl, rfl, rfl, tyX11_ok, nmX11, rfl⟩
theorem plf_10_8 : PLF "DustParishModel" 10 8 (tyX11 8) := ⟨(RX11, TX11, 63), tyX11, rfl, rfl, rfl, tyX11_ok, nmX11, rfl⟩
theorem plf_10_9 : PLF "DustParishModel" 10 9 (tyX11 9) := ⟨(RX11, TX11, 63), tyX11, rfl, rfl, rfl, tyX11_ok, nmX11, rfl⟩
theorem plf_10_10 : PLF "DustParishModel" 10 10 (tyX11 10) := ⟨(RX11, TX11, 63), tyX11, rfl, rfl, rfl, tyX11_ok, nmX11, rfl⟩
theorem plf_10_11 : PLF "DustParishModel" 10 11 (tyX11 11) := ⟨(RX11, TX11, 63), tyX11, rfl, rfl, rfl, tyX11_ok, nmX11, rfl⟩
theorem plf_10_12 : PLF "DustParishModel" 10 12 (tyX11 12) := ⟨(RX11, TX11, 63), tyX11, rfl, rfl, rfl, tyX11_ok, nmX11, rfl⟩
theorem plf_10_13 : PLF "DustParishModel" 10 13 (tyX11 13) := ⟨(RX11, TX11, 63), tyX11, rfl, rfl, rfl, tyX11_ok, nmX11, rfl⟩
theorem plf_10_14 : PLF "DustParishModel" 10 14 (tyX11 14) := ⟨(RX11, TX11, 63), tyX11, rfl, rfl, rfl, tyX11_ok, nmX11, rfl⟩
theorem plf_10_15 : PLF "DustParishModel" 10 15 (tyX11 15) := ⟨(RX11, TX11, 63), tyX11, rfl, rfl, rfl, tyX11_ok, nmX11, rfl⟩
theorem plf_10_16 : PLF "DustParishModel" 10 16 (tyX11 16) := ⟨(RX11, TX11, 63), tyX11, rfl, rfl, rfl, tyX11_ok, nmX11, rfl⟩
theorem plf_10_17 : PLF "DustParishModel" 10 17 (tyX11 17) := ⟨(RX11, TX11, 63), tyX11, rfl, rfl, rfl, tyX11_ok, nmX11, rfl⟩
theorem plf_10_18 : PLF "DustParishModel" 10 18 (tyX11 18) := ⟨(RX11, TX11, 63), tyX11, rfl, rfl, rfl, tyX11_ok, nmX11, rfl⟩
theorem plf_10_29 : PLF "DustParishModel" 10 29 (tyX11 29) := ⟨(RX11, TX11, 63), tyX11, rfl, rfl, rfl, tyX11_ok, nmX11, rfl⟩
theorem plf_10_30 : PLF "DustParishModel" 10 30 (tyX11 30) := ⟨(RX11, TX11, 63), tyX11, rfl, rfl, rfl, tyX11_ok, nmX11, rfl⟩
theorem plf_10_31 : PLF "DustParishModel" 10 31 (tyX11 31) := ⟨(RX11, TX11, 63), tyX11, rfl, rfl, rfl, tyX11_ok, nmX11, rfl⟩
theorem plf_10_32 : PLF "DustParishModel" 10 32 (tyX11 32) := ⟨(RX11, TX11, 63), tyX11, rfl, rfl, rfl, tyX11_ok, nmX11, rfl⟩
theorem plf_10_38 : PLF "DustParishModel" 10 38 (tyX11 38) := ⟨(RX11, TX11, 63), tyX11, rfl, rfl, rfl, tyX11_ok, nmX11, rfl⟩
theorem plf_10_39 : PLF "DustParishModel" 10 39 (tyX11 39) := ⟨(RX11, TX11, 63), tyX11, rfl, rfl, rfl, tyX11_ok, nmX11, rfl⟩
theorem plf_10_40 : PLF "DustParishModel" 10 40 (tyX11 40) := ⟨(RX11, TX11, 63), tyX11, rfl, rfl, rfl, tyX11_ok, nmX11, rfl⟩
theorem plf_10_41 : PLF "DustParishModel" 10 41 (tyX11 41) := ⟨(RX11, TX11, 63), tyX11, rfl, rfl, rfl, tyX11_ok, nmX11, rfl⟩
theorem plf_10_42 : PLF "DustParishModel" 10 42 (tyX11 42) := ⟨(RX11, TX11, 63), tyX11, rfl, rfl, rfl, tyX11_ok, nmX11, rfl⟩
theorem plf_10_43 : PLF "DustParishModel" 10 43 (tyX11 43) := ⟨(RX11, TX11, 63), tyX11, rfl, rfl, rfl, tyX11_ok, nmX11, rfl⟩
theorem plf_10_44 : PLF "DustParishModel" 10 44 (tyX11 44) := ⟨(RX11, TX11, 63), tyX11, rfl, rfl, rfl, tyX11_ok, nmX11, rfl⟩
theorem plf_10_46 : PLF "DustParishModel" 10 46 (tyX11 46) := ⟨(RX11, TX11, 63), tyX11, rfl, rfl, rfl, tyX11_ok, nmX11, rfl⟩
theorem plf_10_47 : PLF "DustParishModel" 10 47 (tyX11 47) := ⟨(RX11, TX11, 63), tyX11, rfl, rfl, rfl, tyX11_ok, nmX11, rfl⟩
theorem plf_10_48 : PLF "DustParishModel" 10 48 (tyX11 48) := ⟨(RX11, TX11, 63), tyX11, rfl, rfl, rfl, tyX11_ok, nmX11, rfl⟩
theorem plf_10_49 : PLF "DustParishModel" 10 49 (tyX11 49) := ⟨(RX11, TX11, 63), tyX11, rfl, rfl, rfl, tyX11_ok, nmX11, rfl⟩
theorem plf_10_50 : PLF "DustParishModel" 10 50 (tyX11 50) := ⟨(RX11, TX11, 63), tyX11, rfl, rfl, rfl, tyX11_ok, nmX11, rfl⟩
theorem plf_10_51 : PLF "DustParishModel" 10 51 (tyX11 51) := ⟨(RX11, TX11, 63), tyX11, rfl, rfl, rfl, tyX11_ok, nmX11, rfl⟩
theorem plf_10_52 : PLF "DustParishModel" 10 52 (tyX11 52) := ⟨(RX11, TX11, 63), tyX11, rfl, rfl, rfl, tyX11_ok, nmX11, rfl⟩
theorem plf_10_57 : PLF "DustParishModel" 10 57 (tyX11 57) := ⟨(RX11, TX11, 63), tyX11, rfl, rfl, rfl, tyX11_ok, nmX11, rfl⟩
theorem plf_10_58 : PLF "DustParishModel" 10 58 (tyX11 58) := ⟨(RX11, TX11, 63), tyX11, rfl, rfl, rfl, tyX11_ok, nmX11, rfl⟩
theorem plf_10_59 : PLF "DustParishModel" 10 59 (tyX11 59) := ⟨(RX11, TX11, 63), tyX11, rfl, rfl, rfl, tyX11_ok, nmX11, rfl⟩
theorem plf_10_60 : PLF "DustParishModel" 10 60 (tyX11 60) := ⟨(RX11, TX11, 63), tyX11, rfl, rfl, rfl, tyX11_ok, nmX11, rfl⟩
theorem plf_10_61 : PLF "DustParishModel" 10 61 (tyX11 61) := ⟨(RX11, TX11, 63), tyX11, rfl, rfl, rfl, tyX11_ok, nmX11, rfl⟩
theorem plf_10_62 : PLF "DustParishModel" 10 62 (tyX11 62) := ⟨(RX11, TX11, 63), tyX11, rfl, rfl, rfl, tyX11_ok, nmX11, rfl⟩
theorem zget2 {z : Nat → Nat → Bool} {N c i k : Nat} (h1 : i < N) (h : z i k = true) : zw z N c i k = true := by unfold zw; rw [if_pos h1]; exact h
theorem zgt {zr : Nat → Nat → Bool} {o c i k : Nat} (h : o < i) : zw zr o c i k = true := by unfold zw; rw [if_neg (by omega), if_neg (by omega)]
theorem zget {zr : Nat → Nat → Bool} {o c k : Nat} (h : k < c) : zw zr o c o k = true := by unfold zw; rw [if_neg (by omega), if_pos rfl]; simp [h]
def fX8_init (h : ST) (o : Nat) : Option ST :=
  bnd (nwz h (o + 1)) fun h1 =>
  bnd (pw h1 o 3 0) fun h3 =>
  bnd (nwz h3 (o + 2)) fun h5 =>
  bnd (pw h5 o 4 0) fun h7 =>
  bnd (nwz h7 (o + 3)) fun h9 =>
  bnd (pw h9 o 5 0) fun h11 =>
  some h11
set_option maxRecDepth 100000 in
set_option maxHeartbeats 4000000 in
theorem kX8_init {l : Launch} {g : GE} {b0 : Nat} {zr : Nat → Nat → Bool} {h : ST} {o : Nat} (ho : o < 395) (hk : KC o = (7, 0)) {y : ST} (hf : fX8_init h o = some y) : NT l yX8_init cX8_init 1 1 3 28 KC g b0 o [.ref (gA g o)] (o + 1) (zw zr o 0) h (o + 4) (zf zr o) y := by
  refine NT.of pn_X8 (Nat.le_of_ble_eq_true rfl) rfl ?_
  intro p e s m below meth c hr F
  have F : FN p s m _ meth c cX8_init 1 "DustParish$State" g b0 := F
  refine VN_lv (lv' := [(0, .ref (gA g o))]) rfl ?_
  unfold fX8_init at hf
  refine n_aload_n (pc := 0) (j := 0) F dX8_init_0 rfl rfl ?_
  refine n_obj (pc := 1) F tw_275 dX8_init_1 (by decide) (Nat.le_of_ble_eq_true rfl) ?_
  refine n_aload_n (pc := 4) (j := 0) F dX8_init_4 rfl rfl ?_
  refine n_bipush (pc := 5) (v := 9) F dX8_init_5 bp_9 ?_
  obtain ⟨h1, e2, hf⟩ := bnd_some hf
  refine n_newa (pc := 7) F tw_61 dX8_init_7 (ly_7_3 ho hk).2 (by omega) (by decide) (Nat.le_of_ble_eq_true rfl) (Nat.le_of_ble_eq_true rfl) ?_
  rw [nwz_eq e2]
  obtain ⟨h3, e4, hf⟩ := bnd_some hf
  refine n_putF (pc := 9) F fl_X8_9 plf_7_3 dX8_init_9 (by omega) hk fv_7_3 rfl rfl (Or.inr ⟨rfl, by decide, gap_ok (by decide)⟩) e4 ?_
  refine n_aload_n (pc := 12) (j := 0) F dX8_init_12 rfl rfl ?_
  refine n_bipush (pc := 13) (v := 9) F dX8_init_13 bp_9 ?_
  obtain ⟨h5, e6, hf⟩ := bnd_some hf
  refine n_newa (pc := 15) F tw_61 dX8_init_15 (ly_7_4 ho hk).2 (by omega) (by decide) (Nat.le_of_ble_eq_true rfl) (Nat.le_of_ble_eq_true rfl) ?_
  rw [nwz_eq e6]
  obtain ⟨h7, e8, hf⟩ := bnd_some hf
  refine n_putF (pc := 17) F fl_X8_15 plf_7_4 dX8_init_17 (by omega) hk fv_7_4 rfl rfl (Or.inr ⟨rfl, by decide, gap_ok (by decide)⟩) e8 ?_
  refine n_aload_n (pc := 20) (j := 0) F dX8_init_20 rfl rfl ?_
  refine n_bipush (pc := 21) (v := 10) F dX8_init_21 bp_10 ?_
  obtain ⟨h9, e10, hf⟩ := bnd_some hf
  refine n_newa (pc := 23) F tw_61 dX8_init_23 (ly_7_5 ho hk).2 (by omega) (by decide) (Nat.le_of_ble_eq_true rfl) (Nat.le_of_ble_eq_true rfl) ?_
  rw [nwz_eq e10]
  obtain ⟨h11, e12, hf⟩ := bnd_some hf
  refine n_putF (pc := 25) F fl_X8_18 plf_7_5 dX8_init_25 (by omega) hk fv_7_5 rfl rfl (Or.inr ⟨rfl, by decide, gap_ok (by decide)⟩) e12 ?_
  exact n_vret (pc := 28) F hr dX8_init_28 (by omega) (Option.some.inj hf) (Nat.le_refl _) (Nat.le_refl _) (end_ok hk (by decide))
def fX5_init (h : ST) (o : Nat) : Option ST :=
  bnd (nwz h (o + 1)) fun h1 =>
  bnd (pw h1 o 0 0) fun h3 =>
  bnd (pw h3 o 1 0) fun h5 =>
  bnd (nwz h5 (o + 2)) fun h7 =>
  bnd (pw h7 o 2 0) fun h9 =>
  bnd (nwz h9 (o + 3)) fun h11 =>
  bnd (pw h11 o 3 0) fun h13 =>
  some h13
set_option maxRecDepth 100000 in
set_option maxHeartbeats 4000000 in
theorem kX5_init {l : Launch} {g : GE} {b0 : Nat} {zr : Nat → Nat → Bool} {h : ST} {o : Nat} (ho : o < 395) (hk : KC o = (4, 0)) {y : ST} (hf : fX5_init h o = some y) : NT l yX5_init cX5_init 1 1 3 746 KC g b0 o [.ref (gA g o)] (o + 1) (zw zr o 0) h (o + 4) (zf zr o) y := by
  refine NT.of pn_X5 (Nat.le_of_ble_eq_true rfl) rfl ?_
  intro p e s m below meth c hr F
  have F : FN p s m _ meth c cX5_init 1 "DustParish$Rule" g b0 := F
  refine VN_lv (lv' := [(0, .ref (gA g o))]) rfl ?_
  unfold fX5_init at hf
  refine n_aload_n (pc := 0) (j := 0) F dX5_init_0 rfl rfl ?_
  refine n_obj (pc := 1) F tw_45 dX5_init_1 (by decide) (Nat.le_of_ble_eq_true rfl) ?_
  refine n_aload_n (pc := 4) (j := 0) F dX5_init_4 rfl rfl ?_
  refine n_bipush (pc := 5) (v := 6) F dX5_init_5 bp_6 ?_
  obtain ⟨h1, e2, hf⟩ := bnd_some hf
  refine n_newa (pc := 7) F tw_61 dX5_init_7 (ly_4_0 ho hk).2 (by omega) (by decide) (Nat.le_of_ble_eq_true rfl) (Nat.le_of_ble_eq_true rfl) ?_
  rw [nwz_eq e2]
  obtain ⟨h3, e4, hf⟩ := bnd_some hf
  refine n_putF (pc := 9) F fl_X5_11 plf_4_0 dX5_init_9 (by omega) hk fv_4_0 rfl rfl (Or.inr ⟨rfl, by decide, gap_ok (by decide)⟩) e4 ?_
  refine n_aload_n (pc := 12) (j := 0) F dX5_init_12 rfl rfl ?_
  refine n_iconst (pc := 13) (v := 0) F dX5_init_13 ic_0 ?_
  obtain ⟨h5, e6, hf⟩ := bnd_some hf
  refine n_putM (pc := 14) F fl_X5_15 pl_4_1 dX5_init_14 (by omega) hk fv_4_1 rfl rfl (Or.inl ⟨rfl, rfl⟩) e6 ?_
  refine n_aload_n (pc := 17) (j := 0) F dX5_init_17 rfl rfl ?_
  refine n_sipush (pc := 18) (v := 700) F dX5_init_18 sp_700 ?_
  obtain ⟨h7, e8, hf⟩ := bnd_some hf
  refine n_newa (pc := 21) F tw_61 dX5_init_21 (ly_4_2 ho hk).2 (by omega) (by decide) (Nat.le_of_ble_eq_true rfl) (Nat.le_of_ble_eq_true rfl) ?_
  rw [nwz_eq e8]
  obtain ⟨h9, e10, hf⟩ := bnd_some hf
  refine n_putF (pc := 23) F fl_X5_19 plf_4_2 dX5_init_23 (by omega) hk fv_4_2 rfl rfl (Or.inr ⟨rfl, by decide, gap_ok (by decide)⟩) e10 ?_
  refine n_aload_n (pc := 26) (j := 0) F dX5_init_26 rfl rfl ?_
  refine n_bipush (pc := 27) (v := 40) F dX5_init_27 bp_40 ?_
  obtain ⟨h11, e12, hf⟩ := bnd_some hf
  refine n_newa (pc := 29) F tw_61 dX5_init_29 (ly_4_3 ho hk).2 (by omega) (by decide) (Nat.le_of_ble_eq_true rfl) (Nat.le_of_ble_eq_true rfl) ?_
  rw [nwz_eq e12]
  obtain ⟨h13, e14, hf⟩ := bnd_some hf
  refine n_putF (pc := 31) F fl_X5_22 plf_4_3 dX5_init_31 (by omega) hk fv_4_3 rfl rfl (Or.inr ⟨rfl, by decide, gap_ok (by decide)⟩) e14 ?_
  exact n_vret (pc := 34) F hr dX5_init_34 (by omega) (Option.some.inj hf) (Nat.le_refl _) (Nat.le_refl _) (end_ok hk (by decide))
def fX7_init (h : ST) (o : Nat) : Option ST :=
  bnd (pw h o 0 0) fun h1 =>
  bnd (nwz h1 (o + 1)) fun h3 =>
  bnd (pw h3 o 1 0) fun h5 =>
  bnd (nwz h5 (o + 2)) fun h7 =>
  bnd (pw h7 o 2 0) fun h9 =>
  bnd (nwz h9 (o + 3)) fun h11 =>
  bnd (pw h11 o 3 0) fun h13 =>
  some h13
set_option maxRecDepth 100000 in
set_option maxHeartbeats 4000000 in
theorem kX7_init {l : Launch} {g : GE} {b0 : Nat} {zr : Nat → Nat → Bool} {h : ST} {o : Nat} (ho : o < 395) (hk : KC o = (6, 0)) {y : ST} (hf : fX7_init h o = some y) : NT l yX7_init cX7_init 1 1 3 24 KC g b0 o [.ref (gA g o)] (o + 1) (zw zr o 0) h (o + 4) (zf zr o) y := by
  refine NT.of pn_X7 (Nat.le_of_ble_eq_true rfl) rfl ?_
  intro p e s m below meth c hr F
  have F : FN p s m _ meth c cX7_init 1 "DustParish$Sights" g b0 := F
  refine VN_lv (lv' := [(0, .ref (gA g o))]) rfl ?_
  unfold fX7_init at hf
  refine n_aload_n (pc := 0) (j := 0) F dX7_init_0 rfl rfl ?_
  refine n_obj (pc := 1) F tw_333 dX7_init_1 (by decide) (Nat.le_of_ble_eq_true rfl) ?_
  refine n_aload_n (pc := 4) (j := 0) F dX7_init_4 rfl rfl ?_
  refine n_iconst (pc := 5) (v := 0) F dX7_init_5 ic_0 ?_
  obtain ⟨h1, e2, hf⟩ := bnd_some hf
  refine n_putM (pc := 6) F fl_X7_9 pl_6_0 dX7_init_6 (by omega) hk fv_6_0 rfl rfl (Or.inl ⟨rfl, rfl⟩) e2 ?_
  refine n_aload_n (pc := 9) (j := 0) F dX7_init_9 rfl rfl ?_
  refine n_bipush (pc := 10) (v := 8) F dX7_init_10 bp_8 ?_
  obtain ⟨h3, e4, hf⟩ := bnd_some hf
  refine n_newa (pc := 12) F tw_61 dX7_init_12 (ly_6_1 ho hk).2 (by omega) (by decide) (Nat.le_of_ble_eq_true rfl) (Nat.le_of_ble_eq_true rfl) ?_
  rw [nwz_eq e4]
  obtain ⟨h5, e6, hf⟩ := bnd_some hf
  refine n_putF (pc := 14) F fl_X7_15 plf_6_1 dX7_init_14 (by omega) hk fv_6_1 rfl rfl (Or.inr ⟨rfl, by decide, gap_ok (by decide)⟩) e6 ?_
  refine n_aload_n (pc := 17) (j := 0) F dX7_init_17 rfl rfl ?_
  refine n_bipush (pc := 18) (v := 8) F dX7_init_18 bp_8 ?_
  obtain ⟨h7, e8, hf⟩ := bnd_some hf
  refine n_newa (pc := 20) F tw_61 dX7_init_20 (ly_6_2 ho hk).2 (by omega) (by decide) (Nat.le_of_ble_eq_true rfl) (Nat.le_of_ble_eq_true rfl) ?_
  rw [nwz_eq e8]
  obtain ⟨h9, e10, hf⟩ := bnd_some hf
  refine n_putF (pc := 22) F fl_X7_19 plf_6_2 dX7_init_22 (by omega) hk fv_6_2 rfl rfl (Or.inr ⟨rfl, by decide, gap_ok (by decide)⟩) e10 ?_
  refine n_aload_n (pc := 25) (j := 0) F dX7_init_25 rfl rfl ?_
  refine n_bipush (pc := 26) (v := 8) F dX7_init_26 bp_8 ?_
  obtain ⟨h11, e12, hf⟩ := bnd_some hf
  refine n_newa (pc := 28) F tw_61 dX7_init_28 (ly_6_3 ho hk).2 (by omega) (by decide) (Nat.le_of_ble_eq_true rfl) (Nat.le_of_ble_eq_true rfl) ?_
  rw [nwz_eq e12]
  obtain ⟨h13, e14, hf⟩ := bnd_some hf
  refine n_putF (pc := 30) F fl_X7_22 plf_6_3 dX7_init_30 (by omega) hk fv_6_3 rfl rfl (Or.inr ⟨rfl, by decide, gap_ok (by decide)⟩) e14 ?_
  exact n_vret (pc := 33) F hr dX7_init_33 (by omega) (Option.some.inj hf) (Nat.le_refl _) (Nat.le_refl _) (end_ok hk (by decide))
theorem dv_4 : ∀ k, k < 4 → ∀ (g : GE) (i : Nat), defaultValue (tyX5 k) = fval g false (FT 4 k) i 0 := by
  intro k hk g i
  match k, hk with
  | 0, _ => rfl
  | 1, _ => rfl
  | 2, _ => rfl
  | 3, _ => rfl
  | k + 4, hk => exact absurd hk (by omega)
theorem nwk_X2_45 : NWK "DustParish$Facts" 45 4 "DustParish$Rule" 4 := ⟨TX5, tyX5, rfl, tw_40, tw_41, tw_3, lyw_4, tyX5_ok, by decide, rfl, dv_4⟩
def fX2_init (h : ST) (o : Nat) : Option ST :=
  bnd (nwz h (o + 1)) fun h1 =>
  bnd (pw h1 o 1 0) fun h3 =>
  bnd (nwz h3 (o + 2)) fun h5 =>
  bnd (pw h5 o 2 0) fun h7 =>
  bnd (nwz h7 (o + 3)) fun h9 =>
  bnd (pw h9 o 3 0) fun h11 =>
  bnd (nwz h11 (o + 4)) fun h13 =>
  bnd (pw h13 o 4 0) fun h15 =>
  bnd (nwz h15 (o + 5)) fun h17 =>
  bnd (pw h17 o 6 0) fun h19 =>
  bnd (nwz h19 (o + 6)) fun h21 =>
  bnd (pw h21 o 7 0) fun h23 =>
  bnd (nwz h23 (o + 7)) fun h25 =>
  bnd (pw h25 o 9 0) fun h27 =>
  bnd (nwz h27 (o + 8)) fun h29 =>
  bnd (pw h29 o 10 0) fun h31 =>
  bnd (nwz h31 (o + 9)) fun h33 =>
  bnd (pw h33 o 11 0) fun h35 =>
  bnd (nwz h35 (o + 10)) fun h37 =>
  bnd (pw h37 o 12 0) fun h39 =>
  bnd (nwz h39 (o + 11)) fun h41 =>
  bnd (pw h41 o 14 0) fun h43 =>
  bnd (nwz h43 (o + 12)) fun h45 =>
  bnd (fX5_init h45 (o + 12)) fun h47 =>
  bnd (pw h47 o 17 0) fun h49 =>
  bnd (nwz h49 (o + 16)) fun h51 =>
  bnd (pw h51 o 18 0) fun h53 =>
  bnd (nwz h53 (o + 17)) fun h55 =>
  bnd (pw h55 o 19 0) fun h57 =>
  some h57
theorem cz_yX5_init : yX5_init.cls ≠ "java/lang/invoke/MethodHandle" ∧ yX5_init.cls ≠ "java/lang/invoke/VarHandle" ∧ (parseMethodDescriptor yX5_init.desc).map (fun d => d.parameters.length) = some 0 := by decide +kernel
set_option maxRecDepth 100000 in
set_option maxHeartbeats 4000000 in
theorem kX2_init {l : Launch} {g : GE} {b0 : Nat} {zr : Nat → Nat → Bool} {h : ST} {o : Nat} (ho : o < 395) (hk : KC o = (1, 0)) {y : ST} (hf : fX2_init h o = some y) : NT l yX2_init cX2_init 1 2 17 1036 KC g b0 o [.ref (gA g o)] (o + 1) (zw zr o 0) h (o + 18) (zf zr o) y := by
  refine NT.of pn_X2 (Nat.le_of_ble_eq_true rfl) rfl ?_
  intro p e s m below meth c hr F
  have F : FN p s m _ meth c cX2_init 1 "DustParish$Facts" g b0 := F
  refine VN_lv (lv' := [(0, .ref (gA g o))]) rfl ?_
  unfold fX2_init at hf
  refine n_aload_n (pc := 0) (j := 0) F dX2_init_0 rfl rfl ?_
  refine n_obj (pc := 1) F tw_39 dX2_init_1 (by decide) (Nat.le_of_ble_eq_true rfl) ?_
  refine n_aload_n (pc := 4) (j := 0) F dX2_init_4 rfl rfl ?_
  refine n_bipush (pc := 5) (v := 9) F dX2_init_5 bp_9 ?_
  obtain ⟨h1, e2, hf⟩ := bnd_some hf
  refine n_newa (pc := 7) F tw_61 dX2_init_7 (ly_1_1 ho hk).2 (by omega) (by decide) (Nat.le_of_ble_eq_true rfl) (Nat.le_of_ble_eq_true rfl) ?_
  rw [nwz_eq e2]
  obtain ⟨h3, e4, hf⟩ := bnd_some hf
  refine n_putF (pc := 9) F fl_X2_9 plf_1_1 dX2_init_9 (by omega) hk fv_1_1 rfl rfl (Or.inr ⟨rfl, by decide, gap_ok (by decide)⟩) e4 ?_
  refine n_aload_n (pc := 12) (j := 0) F dX2_init_12 rfl rfl ?_
  refine n_bipush (pc := 13) (v := 9) F dX2_init_13 bp_9 ?_
  obtain ⟨h5, e6, hf⟩ := bnd_some hf
  refine n_newa (pc := 15) F tw_61 dX2_init_15 (ly_1_2 ho hk).2 (by omega) (by decide) (Nat.le_of_ble_eq_true rfl) (Nat.le_of_ble_eq_true rfl) ?_
  rw [nwz_eq e6]
  obtain ⟨h7, e8, hf⟩ := bnd_some hf
  refine n_putF (pc := 17) F fl_X2_15 plf_1_2 dX2_init_17 (by omega) hk fv_1_2 rfl rfl (Or.inr ⟨rfl, by decide, gap_ok (by decide)⟩) e8 ?_
  refine n_aload_n (pc := 20) (j := 0) F dX2_init_20 rfl rfl ?_
  refine n_bipush (pc := 21) (v := 9) F dX2_init_21 bp_9 ?_
  obtain ⟨h9, e10, hf⟩ := bnd_some hf
  refine n_newa (pc := 23) F tw_61 dX2_init_23 (ly_1_3 ho hk).2 (by omega) (by decide) (Nat.le_of_ble_eq_true rfl) (Nat.le_of_ble_eq_true rfl) ?_
  rw [nwz_eq e10]
  obtain ⟨h11, e12, hf⟩ := bnd_some hf
  refine n_putF (pc := 25) F fl_X2_18 plf_1_3 dX2_init_25 (by omega) hk fv_1_3 rfl rfl (Or.inr ⟨rfl, by decide, gap_ok (by decide)⟩) e12 ?_
  refine n_aload_n (pc := 28) (j := 0) F dX2_init_28 rfl rfl ?_
  refine n_bipush (pc := 29) (v := 9) F dX2_init_29 bp_9 ?_
  obtain ⟨h13, e14, hf⟩ := bnd_some hf
  refine n_newa (pc := 31) F tw_61 dX2_init_31 (ly_1_4 ho hk).2 (by omega) (by decide) (Nat.le_of_ble_eq_true rfl) (Nat.le_of_ble_eq_true rfl) ?_
  rw [nwz_eq e14]
  obtain ⟨h15, e16, hf⟩ := bnd_some hf
  refine n_putF (pc := 33) F fl_X2_21 plf_1_4 dX2_init_33 (by omega) hk fv_1_4 rfl rfl (Or.inr ⟨rfl, by decide, gap_ok (by decide)⟩) e16 ?_
  refine n_aload_n (pc := 36) (j := 0) F dX2_init_36 rfl rfl ?_
  refine n_bipush (pc := 37) (v := 14) F dX2_init_37 bp_14 ?_
  obtain ⟨h17, e18, hf⟩ := bnd_some hf
  refine n_newa (pc := 39) F tw_61 dX2_init_39 (ly_1_6 ho hk).2 (by omega) (by decide) (Nat.le_of_ble_eq_true rfl) (Nat.le_of_ble_eq_true rfl) ?_
  rw [nwz_eq e18]
  obtain ⟨h19, e20, hf⟩ := bnd_some hf
  refine n_putF (pc := 41) F fl_X2_24 plf_1_6 dX2_init_41 (by omega) hk fv_1_6 rfl rfl (Or.inr ⟨rfl, by decide, gap_ok (by decide)⟩) e20 ?_
  refine n_aload_n (pc := 44) (j := 0) F dX2_init_44 rfl rfl ?_
  refine n_bipush (pc := 45) (v := 14) F dX2_init_45 bp_14 ?_
  obtain ⟨h21, e22, hf⟩ := bnd_some hf
  refine n_newa (pc := 47) F tw_61 dX2_init_47 (ly_1_7 ho hk).2 (by omega) (by decide) (Nat.le_of_ble_eq_true rfl) (Nat.le_of_ble_eq_true rfl) ?_
  rw [nwz_eq e22]
  obtain ⟨h23, e24, hf⟩ := bnd_some hf
  refine n_putF (pc := 49) F fl_X2_27 plf_1_7 dX2_init_49 (by omega) hk fv_1_7 rfl rfl (Or.inr ⟨rfl, by decide, gap_ok (by decide)⟩) e24 ?_
  refine n_aload_n (pc := 52) (j := 0) F dX2_init_52 rfl rfl ?_
  refine n_iconst (pc := 53) (v := 5) F dX2_init_53 ic_5 ?_
  obtain ⟨h25, e26, hf⟩ := bnd_some hf
  refine n_newa (pc := 54) F tw_61 dX2_init_54 (ly_1_9 ho hk).2 (by omega) (by decide) (Nat.le_of_ble_eq_true rfl) (Nat.le_of_ble_eq_true rfl) ?_
  rw [nwz_eq e26]
  obtain ⟨h27, e28, hf⟩ := bnd_some hf
  refine n_putF (pc := 56) F fl_X2_30 plf_1_9 dX2_init_56 (by omega) hk fv_1_9 rfl rfl (Or.inr ⟨rfl, by decide, gap_ok (by decide)⟩) e28 ?_
  refine n_aload_n (pc := 59) (j := 0) F dX2_init_59 rfl rfl ?_
  refine n_bipush (pc := 60) (v := 40) F dX2_init_60 bp_40 ?_
  obtain ⟨h29, e30, hf⟩ := bnd_some hf
  refine n_newa (pc := 62) F tw_61 dX2_init_62 (ly_1_10 ho hk).2 (by omega) (by decide) (Nat.le_of_ble_eq_true rfl) (Nat.le_of_ble_eq_true rfl) ?_
  rw [nwz_eq e30]
  obtain ⟨h31, e32, hf⟩ := bnd_some hf
  refine n_putF (pc := 64) F fl_X2_33 plf_1_10 dX2_init_64 (by omega) hk fv_1_10 rfl rfl (Or.inr ⟨rfl, by decide, gap_ok (by decide)⟩) e32 ?_
  refine n_aload_n (pc := 67) (j := 0) F dX2_init_67 rfl rfl ?_
  refine n_bipush (pc := 68) (v := 40) F dX2_init_68 bp_40 ?_
  obtain ⟨h33, e34, hf⟩ := bnd_some hf
  refine n_newa (pc := 70) F tw_61 dX2_init_70 (ly_1_11 ho hk).2 (by omega) (by decide) (Nat.le_of_ble_eq_true rfl) (Nat.le_of_ble_eq_true rfl) ?_
  rw [nwz_eq e34]
  obtain ⟨h35, e36, hf⟩ := bnd_some hf
  refine n_putF (pc := 72) F fl_X2_36 plf_1_11 dX2_init_72 (by omega) hk fv_1_11 rfl rfl (Or.inr ⟨rfl, by decide, gap_ok (by decide)⟩) e36 ?_
  refine n_aload_n (pc := 75) (j := 0) F dX2_init_75 rfl rfl ?_
  refine n_bipush (pc := 76) (v := 40) F dX2_init_76 bp_40 ?_
  obtain ⟨h37, e38, hf⟩ := bnd_some hf
  refine n_newa (pc := 78) F tw_61 dX2_init_78 (ly_1_12 ho hk).2 (by omega) (by decide) (Nat.le_of_ble_eq_true rfl) (Nat.le_of_ble_eq_true rfl) ?_
  rw [nwz_eq e38]
  obtain ⟨h39, e40, hf⟩ := bnd_some hf
  refine n_putF (pc := 80) F fl_X2_39 plf_1_12 dX2_init_80 (by omega) hk fv_1_12 rfl rfl (Or.inr ⟨rfl, by decide, gap_ok (by decide)⟩) e40 ?_
  refine n_aload_n (pc := 83) (j := 0) F dX2_init_83 rfl rfl ?_
  refine n_bipush (pc := 84) (v := 10) F dX2_init_84 bp_10 ?_
  obtain ⟨h41, e42, hf⟩ := bnd_some hf
  refine n_newa (pc := 86) F tw_61 dX2_init_86 (ly_1_14 ho hk).2 (by omega) (by decide) (Nat.le_of_ble_eq_true rfl) (Nat.le_of_ble_eq_true rfl) ?_
  rw [nwz_eq e42]
  obtain ⟨h43, e44, hf⟩ := bnd_some hf
  refine n_putF (pc := 88) F fl_X2_42 plf_1_14 dX2_init_88 (by omega) hk fv_1_14 rfl rfl (Or.inr ⟨rfl, by decide, gap_ok (by decide)⟩) e44 ?_
  refine n_aload_n (pc := 91) (j := 0) F dX2_init_91 rfl rfl ?_
  obtain ⟨h45, e46, hf⟩ := bnd_some hf
  refine n_new (pc := 92) F nwk_X2_45 dX2_init_92 (ly_1_17 ho hk).2 (by omega) (Nat.le_of_ble_eq_true rfl) (Nat.le_of_ble_eq_true rfl) ?_
  rw [nwz_eq e46]
  refine n_dup (pc := 95) F dX2_init_95 rfl ?_
  obtain ⟨h47, e48, hf⟩ := bnd_some hf
  refine n_callIN (pc := 96) (As := []) (host := "DustParish") F rfl (by decide +kernel) ⟨tw_3, tw_44, by decide, tw_43⟩ cz_yX5_init rfl dX2_init_96 (kX5_init (ly_1_17 ho hk).1 (ly_1_17 ho hk).2 e48) (by omega) (by omega) rfl rfl (Nat.le_of_ble_eq_true rfl) (by decide) (Nat.le_of_ble_eq_true rfl) (Nat.le_of_ble_eq_true rfl) ?_
  refine VN_z (zf_zw (by omega)) ?_
  obtain ⟨h49, e50, hf⟩ := bnd_some hf
  refine n_putF (pc := 99) F fl_X2_48 plf_1_17 dX2_init_99 (by omega) hk fv_1_17 rfl rfl (Or.inr ⟨rfl, by decide, gap_ok (by decide)⟩) e50 ?_
  refine n_aload_n (pc := 102) (j := 0) F dX2_init_102 rfl rfl ?_
  refine n_bipush (pc := 103) (v := 81) F dX2_init_103 bp_81 ?_
  obtain ⟨h51, e52, hf⟩ := bnd_some hf
  refine n_newa (pc := 105) F tw_61 dX2_init_105 (ly_1_18 ho hk).2 (by omega) (by decide) (Nat.le_of_ble_eq_true rfl) (Nat.le_of_ble_eq_true rfl) ?_
  rw [nwz_eq e52]
  obtain ⟨h53, e54, hf⟩ := bnd_some hf
  refine n_putF (pc := 107) F fl_X2_52 plf_1_18 dX2_init_107 (by omega) hk fv_1_18 rfl rfl (Or.inr ⟨rfl, by decide, gap_ok (by decide)⟩) e54 ?_
  refine n_aload_n (pc := 110) (j := 0) F dX2_init_110 rfl rfl ?_
  refine n_bipush (pc := 111) (v := 6) F dX2_init_111 bp_6 ?_
  obtain ⟨h55, e56, hf⟩ := bnd_some hf
  refine n_newa (pc := 113) F tw_61 dX2_init_113 (ly_1_19 ho hk).2 (by omega) (by decide) (Nat.le_of_ble_eq_true rfl) (Nat.le_of_ble_eq_true rfl) ?_
  rw [nwz_eq e56]
  obtain ⟨h57, e58, hf⟩ := bnd_some hf
  refine n_putF (pc := 115) F fl_X2_55 plf_1_19 dX2_init_115 (by omega) hk fv_1_19 rfl rfl (Or.inr ⟨rfl, by decide, gap_ok (by decide)⟩) e58 ?_
  exact n_vret (pc := 118) F hr dX2_init_118 (by omega) (Option.some.inj hf) (Nat.le_refl _) (Nat.le_refl _) (end_ok hk (by decide))
def fX9_init (h : ST) : Option ST :=
  bnd (pw h 39 0 0) fun h1 =>
  bnd (pw h1 39 1 0) fun h3 =>
  bnd (pw h3 39 2 0) fun h5 =>
  bnd (pw h5 39 3 0) fun h7 =>
  bnd (pw h7 39 4 0) fun h9 =>
  bnd (pw h9 39 5 0) fun h11 =>
  bnd (pw h11 39 6 0) fun h13 =>
  some h13
set_option maxRecDepth 100000 in
set_option maxHeartbeats 4000000 in
theorem kX9_init {l : Launch} {g : GE} {b0 : Nat} {zr : Nat → Nat → Bool} {h : ST} {y : ST} (hf : fX9_init h = some y) : NT l yX9_init cX9_init 2 1 0 0 KC g b0 39 [.ref (gA g 39), .ref (gA g 1)] 40 (zw zr 39 0) h 40 (zf zr 39) y := by
  refine NT.of pn_X9 (Nat.le_of_ble_eq_true rfl) rfl ?_
  intro p e s m below meth c hr F
  have F : FN p s m _ meth c cX9_init 2 "DustParish$Tokens" g b0 := F
  refine VN_lv (lv' := [(0, .ref (gA g 39)), (1, .ref (gA g 1))]) rfl ?_
  unfold fX9_init at hf
  refine n_aload_n (pc := 0) (j := 0) F dX9_init_0 rfl rfl ?_
  refine n_obj (pc := 1) F tw_178 dX9_init_1 (by decide) (Nat.le_of_ble_eq_true rfl) ?_
  refine n_aload_n (pc := 4) (j := 0) F dX9_init_4 rfl rfl ?_
  refine n_iconst (pc := 5) (v := 0) F dX9_init_5 ic_0 ?_
  obtain ⟨h1, e2, hf⟩ := bnd_some hf
  refine n_putM (pc := 6) F fl_X9_9 pl_8_0 dX9_init_6 (by omega) kc_39.2 fv_8_0 rfl rfl (Or.inl ⟨rfl, rfl⟩) e2 ?_
  refine n_aload_n (pc := 9) (j := 0) F dX9_init_9 rfl rfl ?_
  refine n_iconst (pc := 10) (v := 0) F dX9_init_10 ic_0 ?_
  obtain ⟨h3, e4, hf⟩ := bnd_some hf
  refine n_putM (pc := 11) F fl_X9_13 pl_8_1 dX9_init_11 (by omega) kc_39.2 fv_8_1 rfl rfl (Or.inl ⟨rfl, rfl⟩) e4 ?_
  refine n_aload_n (pc := 14) (j := 0) F dX9_init_14 rfl rfl ?_
  refine n_iconst (pc := 15) (v := 0) F dX9_init_15 ic_0 ?_
  obtain ⟨h5, e6, hf⟩ := bnd_some hf
  refine n_putM (pc := 16) F fl_X9_16 pl_8_2 dX9_init_16 (by omega) kc_39.2 fv_8_2 rfl rfl (Or.inl ⟨rfl, rfl⟩) e6 ?_
  refine n_aload_n (pc := 19) (j := 0) F dX9_init_19 rfl rfl ?_
  refine n_iconst (pc := 20) (v := 0) F dX9_init_20 ic_0 ?_
  obtain ⟨h7, e8, hf⟩ := bnd_some hf
  refine n_putM (pc := 21) F fl_X9_19 pl_8_3 dX9_init_21 (by omega) kc_39.2 fv_8_3 rfl rfl (Or.inl ⟨rfl, rfl⟩) e8 ?_
  refine n_aload_n (pc := 24) (j := 0) F dX9_init_24 rfl rfl ?_
  refine n_iconst (pc := 25) (v := 0) F dX9_init_25 ic_0 ?_
  obtain ⟨h9, e10, hf⟩ := bnd_some hf
  refine n_putM (pc := 26) F fl_X9_23 pl_8_4 dX9_init_26 (by omega) kc_39.2 fv_8_4 rfl rfl (Or.inl ⟨rfl, rfl⟩) e10 ?_
  refine n_aload_n (pc := 29) (j := 0) F dX9_init_29 rfl rfl ?_
  refine n_iconst (pc := 30) (v := 0) F dX9_init_30 ic_0 ?_
  obtain ⟨h11, e12, hf⟩ := bnd_some hf
  refine n_putM (pc := 31) F fl_X9_26 pl_8_5 dX9_init_31 (by omega) kc_39.2 fv_8_5 rfl rfl (Or.inl ⟨rfl, rfl⟩) e12 ?_
  refine n_aload_n (pc := 34) (j := 0) F dX9_init_34 rfl rfl ?_
  refine n_aload_n (pc := 35) (j := 1) F dX9_init_35 rfl rfl ?_
  obtain ⟨h13, e14, hf⟩ := bnd_some hf
  refine n_putF (pc := 36) F fl_X9_29 plf_8_6 dX9_init_36 (by omega) kc_39.2 fv_8_6 rfl rfl (Or.inr ⟨rfl, by decide, gap_ok (by decide)⟩) e14 ?_
  exact n_vret (pc := 39) F hr dX9_init_39 (by omega) (Option.some.inj hf) (Nat.le_refl _) (Nat.le_refl _) (end_ok kc_39.2 (by decide))
def fX6_init (h : ST) : Option ST :=
  bnd (nwz h 41) fun h1 =>
  bnd (pw h1 40 0 0) fun h3 =>
  bnd (pw h3 40 1 0) fun h5 =>
  bnd (pw h5 40 2 0) fun h7 =>
  bnd (pw h7 40 3 0) fun h9 =>
  bnd (pw h9 40 4 1) fun h11 =>
  bnd (pw h11 40 5 1) fun h13 =>
  bnd (pw h13 40 6 0) fun h15 =>
  bnd (pw h15 40 7 (Int32.ofNat 32)) fun h17 =>
  some h17
set_option maxRecDepth 100000 in
set_option maxHeartbeats 4000000 in
theorem kX6_init {l : Launch} {g : GE} {b0 : Nat} {zr : Nat → Nat → Bool} {h : ST} {y : ST} (hf : fX6_init h = some y) : NT l yX6_init cX6_init 3 1 1 80 KC g b0 40 [.ref (gA g 40), .ref (gA g 39), .ref (gA g 32)] 41 (zw zr 40 0) h 42 (zf zr 40) y := by
  refine NT.of pn_X6 (Nat.le_of_ble_eq_true rfl) rfl ?_
  intro p e s m below meth c hr F
  have F : FN p s m _ meth c cX6_init 3 "DustParish$RuleReader" g b0 := F
  refine VN_lv (lv' := [(0, .ref (gA g 40)), (1, .ref (gA g 39)), (2, .ref (gA g 32))]) rfl ?_
  unfold fX6_init at hf
  refine n_aload_n (pc := 0) (j := 0) F dX6_init_0 rfl rfl ?_
  refine n_obj (pc := 1) F tw_213 dX6_init_1 (by decide) (Nat.le_of_ble_eq_true rfl) ?_
  refine n_aload_n (pc := 4) (j := 0) F dX6_init_4 rfl rfl ?_
  refine n_bipush (pc := 5) (v := 80) F dX6_init_5 bp_80 ?_
  obtain ⟨h1, e2, hf⟩ := bnd_some hf
  refine n_newa (pc := 7) F tw_61 dX6_init_7 kc_41.2 (by omega) (by decide) (Nat.le_of_ble_eq_true rfl) (Nat.le_of_ble_eq_true rfl) ?_
  rw [nwz_eq e2]
  obtain ⟨h3, e4, hf⟩ := bnd_some hf
  refine n_putF (pc := 9) F fl_X6_11 plf_5_0 dX6_init_9 (by omega) kc_40.2 fv_5_0 rfl rfl (Or.inr ⟨rfl, by decide, gap_ok (by decide)⟩) e4 ?_
  refine n_aload_n (pc := 12) (j := 0) F dX6_init_12 rfl rfl ?_
  refine n_iconst (pc := 13) (v := 0) F dX6_init_13 ic_0 ?_
  obtain ⟨h5, e6, hf⟩ := bnd_some hf
  refine n_putM (pc := 14) F fl_X6_15 pl_5_1 dX6_init_14 (by omega) kc_40.2 fv_5_1 rfl rfl (Or.inl ⟨rfl, rfl⟩) e6 ?_
  refine n_aload_n (pc := 17) (j := 0) F dX6_init_17 rfl rfl ?_
  refine n_iconst (pc := 18) (v := 0) F dX6_init_18 ic_0 ?_
  obtain ⟨h7, e8, hf⟩ := bnd_some hf
  refine n_putM (pc := 19) F fl_X6_19 pl_5_2 dX6_init_19 (by omega) kc_40.2 fv_5_2 rfl rfl (Or.inl ⟨rfl, rfl⟩) e8 ?_
  refine n_aload_n (pc := 22) (j := 0) F dX6_init_22 rfl rfl ?_
  refine n_iconst (pc := 23) (v := 0) F dX6_init_23 ic_0 ?_
  obtain ⟨h9, e10, hf⟩ := bnd_some hf
  refine n_putM (pc := 24) F fl_X6_22 pl_5_3 dX6_init_24 (by omega) kc_40.2 fv_5_3 rfl rfl (Or.inl ⟨rfl, rfl⟩) e10 ?_
  refine n_aload_n (pc := 27) (j := 0) F dX6_init_27 rfl rfl ?_
  refine n_iconst (pc := 28) (v := 1) F dX6_init_28 ic_1 ?_
  obtain ⟨h11, e12, hf⟩ := bnd_some hf
  refine n_putM (pc := 29) F fl_X6_25 pl_5_4 dX6_init_29 (by omega) kc_40.2 fv_5_4 rfl rfl (Or.inl ⟨rfl, rfl⟩) e12 ?_
  refine n_aload_n (pc := 32) (j := 0) F dX6_init_32 rfl rfl ?_
  refine n_iconst (pc := 33) (v := 1) F dX6_init_33 ic_1 ?_
  obtain ⟨h13, e14, hf⟩ := bnd_some hf
  refine n_putM (pc := 34) F fl_X6_29 pl_5_5 dX6_init_34 (by omega) kc_40.2 fv_5_5 rfl rfl (Or.inl ⟨rfl, rfl⟩) e14 ?_
  refine n_aload_n (pc := 37) (j := 0) F dX6_init_37 rfl rfl ?_
  refine n_aload_n (pc := 38) (j := 1) F dX6_init_38 rfl rfl ?_
  obtain ⟨h15, e16, hf⟩ := bnd_some hf
  refine n_putF (pc := 39) F fl_X6_32 plf_5_6 dX6_init_39 (by omega) kc_40.2 fv_5_6 rfl rfl (Or.inr ⟨rfl, by decide, gap_ok (by decide)⟩) e16 ?_
  refine n_aload_n (pc := 42) (j := 0) F dX6_init_42 rfl rfl ?_
  refine n_aload_n (pc := 43) (j := 2) F dX6_init_43 rfl rfl ?_
  obtain ⟨h17, e18, hf⟩ := bnd_some hf
  refine n_putM (pc := 44) F fl_X6_36 pl_5_7 dX6_init_44 (by omega) kc_40.2 (fv_5_7 (ofNat_back (by decide))) rfl rfl (Or.inr ⟨rfl, by decide, gap_ok (by decide)⟩) e18 ?_
  exact n_vret (pc := 47) F hr dX6_init_47 (by omega) (Option.some.inj hf) (Nat.le_refl _) (Nat.le_refl _) (end_ok kc_40.2 (by decide))
theorem dv_8 : ∀ k, k < 7 → ∀ (g : GE) (i : Nat), defaultValue (tyX9 k) = fval g false (FT 8 k) i 0 := by
  intro k hk g i
  match k, hk with
  | 0, _ => rfl
  | 1, _ => rfl
  | 2, _ => rfl
  | 3, _ => rfl
  | 4, _ => rfl
  | 5, _ => rfl
  | 6, _ => rfl
  | k + 7, hk => exact absurd hk (by omega)
theorem nwk_X4_28 : NWK "DustParish$Reader" 28 8 "DustParish$Tokens" 7 := ⟨TX9, tyX9, rfl, tw_173, tw_174, tw_5, lyw_8, tyX9_ok, by decide, rfl, dv_8⟩
theorem dv_5 : ∀ k, k < 8 → ∀ (g : GE) (i : Nat), defaultValue (tyX6 k) = fval g false (FT 5 k) i 0 := by
  intro k hk g i
  match k, hk with
  | 0, _ => rfl
  | 1, _ => rfl
  | 2, _ => rfl
  | 3, _ => rfl
  | 4, _ => rfl
  | 5, _ => rfl
  | 6, _ => rfl
  | 7, _ => rfl
  | k + 8, hk => exact absurd hk (by omega)
theorem nwk_X4_37 : NWK "DustParish$Reader" 37 5 "DustParish$RuleReader" 8 := ⟨TX6, tyX6, rfl, tw_208, tw_209, tw_6, lyw_5, tyX6_ok, by decide, rfl, dv_5⟩
def fX4_init (h : ST) : Option ST :=
  bnd (pw h 38 3 0) fun h1 =>
  bnd (pw h1 38 4 0) fun h3 =>
  bnd (pw h3 38 5 0) fun h5 =>
  bnd (pw h5 38 6 0) fun h7 =>
  bnd (pw h7 38 7 0) fun h9 =>
  bnd (nwz h9 39) fun h11 =>
  bnd (fX9_init h11) fun h13 =>
  bnd (pw h13 38 0 0) fun h15 =>
  bnd (nwz h15 40) fun h17 =>
  bnd (fX6_init h17) fun h19 =>
  bnd (pw h19 38 1 0) fun h21 =>
  bnd (pw h21 38 2 (Int32.ofNat 20)) fun h23 =>
  some h23
theorem cz_yX9_init : yX9_init.cls ≠ "java/lang/invoke/MethodHandle" ∧ yX9_init.cls ≠ "java/lang/invoke/VarHandle" ∧ (parseMethodDescriptor yX9_init.desc).map (fun d => d.parameters.length) = some 1 := by decide +kernel
theorem cz_yX6_init : yX6_init.cls ≠ "java/lang/invoke/MethodHandle" ∧ yX6_init.cls ≠ "java/lang/invoke/VarHandle" ∧ (parseMethodDescriptor yX6_init.desc).map (fun d => d.parameters.length) = some 2 := by decide +kernel
set_option maxRecDepth 100000 in
set_option maxHeartbeats 4000000 in
theorem kX4_init {l : Launch} {g : GE} {b0 : Nat} {zr : Nat → Nat → Bool} {h : ST} (hz : zr 20 17 = true) {y : ST} (hf : fX4_init h = some y) : NT l yX4_init cX4_init 3 2 3 95 KC g b0 38 [.ref (gA g 38), .ref (gA g 1), .ref (gA g 20)] 39 (zw zr 38 0) h 42 (zf zr 38) y := by
  refine NT.of pn_X4 (Nat.le_of_ble_eq_true rfl) rfl ?_
  intro p e s m below meth c hr F
  have F : FN p s m _ meth c cX4_init 3 "DustParish$Reader" g b0 := F
  refine VN_lv (lv' := [(0, .ref (gA g 38)), (1, .ref (gA g 1)), (2, .ref (gA g 20))]) rfl ?_
  unfold fX4_init at hf
  refine n_aload_n (pc := 0) (j := 0) F dX4_init_0 rfl rfl ?_
  refine n_obj (pc := 1) F tw_172 dX4_init_1 (by decide) (Nat.le_of_ble_eq_true rfl) ?_
  refine n_aload_n (pc := 4) (j := 0) F dX4_init_4 rfl rfl ?_
  refine n_iconst (pc := 5) (v := 0) F dX4_init_5 ic_0 ?_
  obtain ⟨h1, e2, hf⟩ := bnd_some hf
  refine n_putM (pc := 6) F fl_X4_9 pl_3_3 dX4_init_6 (by omega) kc_38.2 fv_3_3 rfl rfl (Or.inl ⟨rfl, rfl⟩) e2 ?_
  refine n_aload_n (pc := 9) (j := 0) F dX4_init_9 rfl rfl ?_
  refine n_iconst (pc := 10) (v := 0) F dX4_init_10 ic_0 ?_
  obtain ⟨h3, e4, hf⟩ := bnd_some hf
  refine n_putM (pc := 11) F fl_X4_15 pl_3_4 dX4_init_11 (by omega) kc_38.2 fv_3_4 rfl rfl (Or.inl ⟨rfl, rfl⟩) e4 ?_
  refine n_aload_n (pc := 14) (j := 0) F dX4_init_14 rfl rfl ?_
  refine n_iconst (pc := 15) (v := 0) F dX4_init_15 ic_0 ?_
  obtain ⟨h5, e6, hf⟩ := bnd_some hf
  refine n_putM (pc := 16) F fl_X4_19 pl_3_5 dX4_init_16 (by omega) kc_38.2 fv_3_5 rfl rfl (Or.inl ⟨rfl, rfl⟩) e6 ?_
  refine n_aload_n (pc := 19) (j := 0) F dX4_init_19 rfl rfl ?_
  refine n_iconst (pc := 20) (v := 0) F dX4_init_20 ic_0 ?_
  obtain ⟨h7, e8, hf⟩ := bnd_some hf
  refine n_putM (pc := 21) F fl_X4_22 pl_3_6 dX4_init_21 (by omega) kc_38.2 fv_3_6 rfl rfl (Or.inl ⟨rfl, rfl⟩) e8 ?_
  refine n_aload_n (pc := 24) (j := 0) F dX4_init_24 rfl rfl ?_
  refine n_iconst (pc := 25) (v := 0) F dX4_init_25 ic_0 ?_
  obtain ⟨h9, e10, hf⟩ := bnd_some hf
  refine n_putM (pc := 26) F fl_X4_25 pl_3_7 dX4_init_26 (by omega) kc_38.2 fv_3_7 rfl rfl (Or.inl ⟨rfl, rfl⟩) e10 ?_
  refine n_aload_n (pc := 29) (j := 0) F dX4_init_29 rfl rfl ?_
  obtain ⟨h11, e12, hf⟩ := bnd_some hf
  refine n_new (pc := 30) F nwk_X4_28 dX4_init_30 kc_39.2 (by omega) (Nat.le_of_ble_eq_true rfl) (Nat.le_of_ble_eq_true rfl) ?_
  rw [nwz_eq e12]
  refine n_dup (pc := 33) F dX4_init_33 rfl ?_
  refine n_aload_n (pc := 34) (j := 1) F dX4_init_34 rfl rfl ?_
  obtain ⟨h13, e14, hf⟩ := bnd_some hf
  refine n_callI (pc := 35) (As := [.ref (gA g 1)]) F rfl ⟨⟨tw_175, tw_5, tw_177, by decide, cy_yX9_init.1, cy_yX9_init.2.1, cy_yX9_init.2.2⟩, tw_176⟩ rfl dX4_init_35 (kX9_init e14) (by omega) (by omega) rfl rfl (Nat.le_of_ble_eq_true rfl) (by decide) (Nat.le_of_ble_eq_true rfl) (Nat.le_of_ble_eq_true rfl) ?_
  refine VN_z (zf_zw (by omega)) ?_
  obtain ⟨h15, e16, hf⟩ := bnd_some hf
  refine n_putF (pc := 38) F fl_X4_33 plf_3_0 dX4_init_38 (by omega) kc_38.2 fv_3_0 rfl rfl (Or.inr ⟨rfl, by decide, gap_ok (by decide)⟩) e16 ?_
  refine n_aload_n (pc := 41) (j := 0) F dX4_init_41 rfl rfl ?_
  obtain ⟨h17, e18, hf⟩ := bnd_some hf
  refine n_new (pc := 42) F nwk_X4_37 dX4_init_42 kc_40.2 (by omega) (Nat.le_of_ble_eq_true rfl) (Nat.le_of_ble_eq_true rfl) ?_
  rw [nwz_eq e18]
  refine n_dup (pc := 45) F dX4_init_45 rfl ?_
  refine n_aload_n (pc := 46) (j := 0) F dX4_init_46 rfl rfl ?_
  refine n_get (pc := 47) F fl_X4_33 dX4_init_47 (by omega) kc_38.2 (zget2 (by decide) (zget (by decide))) fv_3_0 ?_
  refine n_aload_n (pc := 50) (j := 2) F dX4_init_50 rfl rfl ?_
  refine n_get (pc := 51) F fl_X4_39 dX4_init_51 (by omega) kc_20.2 (zget2 (by decide) hz) fv_1_17 ?_
  obtain ⟨h19, e20, hf⟩ := bnd_some hf
  refine n_callI (pc := 54) (As := [.ref (gA g 39), .ref (gA g 32)]) F rfl ⟨⟨tw_210, tw_6, tw_212, by decide, cy_yX6_init.1, cy_yX6_init.2.1, cy_yX6_init.2.2⟩, tw_211⟩ rfl dX4_init_54 (kX6_init e20) (by omega) (by omega) rfl rfl (Nat.le_of_ble_eq_true rfl) (by decide) (Nat.le_of_ble_eq_true rfl) (Nat.le_of_ble_eq_true rfl) ?_
  refine VN_z (zf_zw (by omega)) ?_
  obtain ⟨h21, e22, hf⟩ := bnd_some hf
  refine n_putF (pc := 57) F fl_X4_48 plf_3_1 dX4_init_57 (by omega) kc_38.2 fv_3_1 rfl rfl (Or.inr ⟨rfl, by decide, gap_ok (by decide)⟩) e22 ?_
  refine n_aload_n (pc := 60) (j := 0) F dX4_init_60 rfl rfl ?_
  refine n_aload_n (pc := 61) (j := 2) F dX4_init_61 rfl rfl ?_
  obtain ⟨h23, e24, hf⟩ := bnd_some hf
  refine n_putM (pc := 62) F fl_X4_52 pl_3_2 dX4_init_62 (by omega) kc_38.2 (fv_3_2 (ofNat_back (by decide))) rfl rfl (Or.inr ⟨rfl, by decide, gap_ok (by decide)⟩) e24 ?_
  exact n_vret (pc := 65) F hr dX4_init_65 (by omega) (Option.some.inj hf) (Nat.le_refl _) (Nat.le_refl _) (end_ok kc_38.2 (by decide))
theorem dv_7 : ∀ k, k < 6 → ∀ (g : GE) (i : Nat), defaultValue (tyX8 k) = fval g false (FT 7 k) i 0 := by
  intro k hk g i
  match k, hk with
  | 0, _ => rfl
  | 1, _ => rfl
  | 2, _ => rfl
  | 3, _ => rfl
  | 4, _ => rfl
  | 5, _ => rfl
  | k + 6, hk => exact absurd hk (by omega)
theorem nwk_X0_18 : NWK "DustParish$Acts" 18 7 "DustParish$State" 6 := ⟨TX8, tyX8, rfl, tw_313, tw_271, tw_8, lyw_7, tyX8_ok, by decide, rfl, dv_7⟩
theorem cz_yX8_init : yX8_init.cls ≠ "java/lang/invoke/MethodHandle" ∧ yX8_init.cls ≠ "java/lang/invoke/VarHandle" ∧ (parseMethodDescriptor yX8_init.desc).map (fun d => d.parameters.length) = some 0 := by decide +kernel
def zs (zr : Nat → Nat → Bool) (o c b : Nat) : Nat → Nat → Bool := fun i k => if i = o + 1 then decide (k < b) else zw zr o c i k
theorem zs_0 {zr : Nat → Nat → Bool} {o c : Nat} : zw (zw zr o c) (o + 1) 0 = zs zr o c 0 := by
  funext i k
  unfold zs
  by_cases h1 : i = o + 1
  · rw [if_pos h1]; unfold zw; rw [if_neg (by omega), if_pos h1]
  · rw [if_neg h1]
    by_cases h2 : i < o + 1
    · show (if i < o + 1 then zw zr o c i k else _) = _
      rw [if_pos h2]
    · show (if i < o + 1 then zw zr o c i k else _) = _
      rw [if_neg h2, if_neg h1]; unfold zw; rw [if_neg (by omega), if_neg (by omega)]
theorem zs_o {zr : Nat → Nat → Bool} {o c b : Nat} (j : Nat) : zs zr o c b o j = decide (j < c) := by
  unfold zs zw; rw [if_neg (by omega), if_neg (Nat.lt_irrefl o), if_pos rfl]
theorem zs_n {zr : Nat → Nat → Bool} {o c c' b : Nat} (i : Nat) (h : i ≠ o) (k : Nat) : zs zr o c' b i k = zs zr o c b i k := by
  unfold zs zw; rw [if_neg h, if_neg h]
theorem zs_f {zr : Nat → Nat → Bool} {o c b N : Nat} (h : o + 1 < N) : zf (zs zr o c b) N = zs zr o c b := by
  funext i k
  unfold zf
  by_cases h1 : i < N
  · rw [if_pos h1]
  · rw [if_neg h1]; unfold zs zw; rw [if_neg (by omega), if_neg (by omega), if_neg (by omega)]
theorem zs_1 {zr : Nat → Nat → Bool} {o c j : Nat} : zs zr o c (j + 1) (o + 1) j = true := by unfold zs; rw [if_pos rfl]; simp
theorem zs_2 {zr : Nat → Nat → Bool} {o c j : Nat} (a b : Nat) (h : ¬ (a = o + 1 ∧ b = j)) : zs zr o c (j + 1) a b = zs zr o c j a b := by
  unfold zs
  by_cases h1 : a = o + 1
  · rw [if_pos h1, if_pos h1]
    have h2 : b ≠ j := fun q => h ⟨h1, q⟩
    by_cases h3 : b < j
    · rw [decide_eq_true h3, decide_eq_true (by omega)]
    · rw [decide_eq_false h3, decide_eq_false (by omega)]
  · rw [if_neg h1, if_neg h1]
theorem st_cell {p : Program} {s : State} {m : MethodId} {args : Array Value} {meth : Method} {c : Code} {cc : ByteArray} {nL : Nat} {own : String} {g : GE} {b0 n N : Nat} {z : Nat → Nat → Bool} {h : ST} {H : Heap} (F : FN p s m args meth c cc nL own g b0) (hw : WO KC n g z h H) (hN : N < n) (hk : KC N = (7, 0)) : ∃ cell : Cell, H[gA g N]? = some cell ∧ cell.vm.isStatics = false ∧ s.vm.findClass "DustParish$State" = some cell.cls := by
  obtain ⟨cell, h1, h2, h3, -⟩ := (hw.1 N hN).1 (by rw [hk]; show 7 < 20; decide)
  refine ⟨cell, h1, by rw [h3]; rfl, ?_⟩
  rw [h2, hk]
  exact (F.2.2.2.2.2.1.1 7 _ rfl).2.1
def actsH (h : ST) (o : Nat) : Nat → Option ST
  | 0 => some h
  | j + 1 => bnd (actsH h o j) fun h1 => bnd (nwz h1 (o + 2 + 4 * j)) fun h2 => bnd (fX8_init h2 (o + 2 + 4 * j)) fun h3 => pw h3 (o + 1) j 0
theorem actsH_le {h : ST} {o : Nat} : ∀ (k j : Nat) (y : ST), actsH h o (j + k) = some y → ∃ hj, actsH h o j = some hj
  | 0, j, y, e => ⟨y, e⟩
  | k + 1, j, y, e => by
    obtain ⟨h1, e1, -⟩ := bnd_some (show bnd (actsH h o (j + k)) _ = some y from e)
    exact actsH_le k j h1 e1
def fX0_init (h : ST) (o : Nat) : Option ST :=
  bnd (pw h o 0 0) fun h1 =>
  bnd (pw h1 o 1 0) fun h3 =>
  bnd (nwz h3 (o + 1)) fun h5 =>
  bnd (pw h5 o 2 0) fun h7 =>
  actsH h7 o 40
set_option maxRecDepth 100000 in
set_option maxHeartbeats 4000000 in
theorem acts_loop {p : Program} {l : Launch} {e : Env} {s : State} {m : MethodId} {args : Array Value} {below : List Frame} {meth : Method} {c : Code} {g : GE} {b0 o : Nat} {zr : Nat → Nat → Bool} (ho : o < 395) (hk : KC o = (0, 0)) {h7 y : ST} (F : FN p s m args meth c cX0_init 2 "DustParish$Acts" g b0) (hr : meth.sig.returnType = none) (hf : actsH h7 o 40 = some y) :
    ∀ k j, j + k = 40 → ∀ hj, actsH h7 o j = some hj → VN p l e (RN 2 161 1400) s m args below meth c (MQ below (QN KC g b0 o (o + 162) (zf zr o) y) args s 161 1400 (fun q => b0 + o ≤ q)) KC g b0 o 2 (1 + 4 * j) (40 + 34 * j) (o + 2 + 4 * j) (zs zr o 3 j) hj 25 [(0, .ref (gA g o)), (1, .int (nI j))] [] := by
  intro k
  induction k with
  | zero =>
    intro j hjk hj ej
    have hj40 : j = 40 := by omega
    subst hj40
    have e9 : hj = y := Option.some.inj (ej.symm.trans hf)
    refine n_iload_n (pc := 25) (j := 1) F dX0_init_25 rfl rfl ?_
    refine n_bipush (pc := 26) (v := 40) F dX0_init_26 bp_40 ?_
    refine n_icmp_ge (pc := 28) (tgt := 50) F dX0_init_28 (by decide) (fun c1 => ?_) (fun c1 => absurd (by decide) c1)
    refine n_vret (pc := 50) F hr dX0_init_50 (by omega) e9 (by omega) (by omega) ?_
    intro i k hi
    have hb := (ly_0_2 ho hk).2
    by_cases h1 : i = o + 1
    · subst h1
      refine ⟨fun h3 => absurd h3 (by rw [hb]; show ¬ 23 < 20; decide), fun _ h4 => ?_⟩
      rw [hb] at h4
      have h4 : k < 40 := h4
      unfold zs zf; rw [if_pos rfl, if_neg (by omega)]; simp [h4]
    · have e8 : zs zr o 3 40 i k = zw zr o 3 i k := by unfold zs; rw [if_neg h1]
      rw [e8]
      exact end_ok (n := o + 2 + 4 * 40) hk (by decide) i k hi
  | succ k ih =>
    intro j hjk hj ej
    have hlt : j < 40 := by omega
    obtain ⟨h4, e4⟩ := actsH_le k (j + 1) y (by rw [show j + 1 + k = 40 by omega]; exact hf)
    obtain ⟨h1, e1, hf1⟩ := bnd_some (show bnd (actsH h7 o j) _ = some h4 from e4)
    cases Option.some.inj (ej.symm.trans e1)
    obtain ⟨h2, e2, hf1⟩ := bnd_some hf1
    obtain ⟨h3, e3, hf1⟩ := bnd_some hf1
    have hb := ly_0_2 ho hk
    have hN := ly_23 hb.1 hb.2 hlt
    have eN : o + 1 + 1 + 4 * j = o + 2 + 4 * j := by omega
    rw [eN] at hN
    refine n_iload_n (pc := 25) (j := 1) F dX0_init_25 rfl rfl ?_
    refine n_bipush (pc := 26) (v := 40) F dX0_init_26 bp_40 ?_
    refine n_icmp_ge (pc := 28) (tgt := 50) F dX0_init_28 (by decide) (fun c1 => absurd c1 ?_) (fun c1 => ?_)
    · exact nI_ge hlt (by decide)
    refine n_aload_n (pc := 31) (j := 0) F dX0_init_31 rfl rfl ?_
    refine n_get (pc := 32) F fl_X0_20 dX0_init_32 (by omega) hk (by rw [zs_o]; rfl) fv_0_2 ?_
    refine n_iload_n (pc := 35) (j := 1) F dX0_init_35 rfl rfl ?_
    refine n_new (pc := 36) F nwk_X0_18 dX0_init_36 hN.2 (by omega) (by show 1 + 4 * j + 1 ≤ 161; omega) (by show 40 + 34 * j + 6 ≤ 1400; omega) ?_
    rw [nwz_eq e2]
    refine n_dup (pc := 39) F dX0_init_39 rfl ?_
    refine n_callIN (pc := 40) (As := []) (host := "DustParish") F rfl (by decide +kernel) ⟨tw_8, tw_274, by decide, tw_273⟩ cz_yX8_init rfl dX0_init_40 (kX8_init hN.1 hN.2 e3) (by omega) (by omega) rfl rfl (Nat.le_of_ble_eq_true rfl) (by decide) (by omega) (by omega) ?_
    refine VN_z (zs_f (by omega)) ?_
    refine n_aast (pc := 43) (j := j) (x := 0) (z' := zs zr o 3 (j + 1)) (C := "DustParish$State") F dX0_init_43 (by omega) (by omega) (by decide) rfl hb.2 ⟨nI_pos (by omega), nI_clamp (by omega), hlt⟩ (fun H locs hw9 _ => st_cell F hw9 (by omega) hN.2) hf1 ?_ zs_1 zs_2 ?_
    · show (Value.ref (gA g (o + 1 + 1 + 4 * j))) = _
      rw [eN]
    refine n_iinc (pc := 44) (j := 1) (v := nI (j + 1)) (lv' := [(0, .ref (gA g o)), (1, .int (nI (j + 1)))]) F dX0_init_44 rfl (by rw [ic_1]; exact nI_1 j) (by decide) rfl ?_
    refine n_goto (pc := 47) (tgt := 25) F dX0_init_47 (by decide) ?_
    have h9 := ih (j + 1) (by omega) h4 e4
    rw [show 1 + 4 * (j + 1) = 1 + 4 * j + 1 + 3 by omega, show 40 + 34 * (j + 1) = 40 + 34 * j + 6 + 28 by omega, show o + 2 + 4 * (j + 1) = o + 2 + 4 * j + 4 by omega] at h9
    exact h9
set_option maxRecDepth 100000 in
set_option maxHeartbeats 4000000 in
theorem kX0_init {l : Launch} {g : GE} {b0 : Nat} {zr : Nat → Nat → Bool} {h : ST} {o : Nat} (ho : o < 395) (hk : KC o = (0, 0)) {y : ST} (hf : fX0_init h o = some y) : NT l yX0_init cX0_init 2 2 161 1400 KC g b0 o [.ref (gA g o)] (o + 1) (zw zr o 0) h (o + 162) (zf zr o) y := by
  refine NT.of pn_X0 (Nat.le_of_ble_eq_true rfl) rfl ?_
  intro p e s m below meth c hr F
  have F : FN p s m _ meth c cX0_init 2 "DustParish$Acts" g b0 := F
  refine VN_lv (lv' := [(0, .ref (gA g o))]) rfl ?_
  unfold fX0_init at hf
  refine n_aload_n (pc := 0) (j := 0) F dX0_init_0 rfl rfl ?_
  refine n_obj (pc := 1) F tw_312 dX0_init_1 (by decide) (Nat.le_of_ble_eq_true rfl) ?_
  refine n_aload_n (pc := 4) (j := 0) F dX0_init_4 rfl rfl ?_
  refine n_iconst (pc := 5) (v := 0) F dX0_init_5 ic_0 ?_
  obtain ⟨h1, e2, hf⟩ := bnd_some hf
  refine n_putM (pc := 6) F fl_X0_9 pl_0_0 dX0_init_6 (by omega) hk fv_0_0 rfl rfl (Or.inl ⟨rfl, rfl⟩) e2 ?_
  refine n_aload_n (pc := 9) (j := 0) F dX0_init_9 rfl rfl ?_
  refine n_iconst (pc := 10) (v := 0) F dX0_init_10 ic_0 ?_
  obtain ⟨h3, e4, hf⟩ := bnd_some hf
  refine n_putM (pc := 11) F fl_X0_15 pl_0_1 dX0_init_11 (by omega) hk fv_0_1 rfl rfl (Or.inl ⟨rfl, rfl⟩) e4 ?_
  refine n_aload_n (pc := 14) (j := 0) F dX0_init_14 rfl rfl ?_
  refine n_bipush (pc := 15) (v := 40) F dX0_init_15 bp_40 ?_
  obtain ⟨h5, e6, hf⟩ := bnd_some hf
  refine n_anew (pc := 17) F tw_313 F.2.2.2.2.2.2.2.2.2.2.1 rfl (by decide) dX0_init_17 (ly_0_2 ho hk).2 (by omega) (by decide) (Nat.le_of_ble_eq_true rfl) (Nat.le_of_ble_eq_true rfl) ?_
  rw [nwz_eq e6]
  refine VN_z zs_0 ?_
  obtain ⟨h7, e8, hf⟩ := bnd_some hf
  refine n_putzF (pc := 20) (z' := zs zr o 3 0) (cn := 0) (cn' := 3) F zs_o zs_o (fun i hi k => zs_n i hi k) fl_X0_20 plf_0_2 dX0_init_20 (by omega) hk fv_0_2 rfl rfl (Or.inr ⟨rfl, by decide, gap_ok (by decide)⟩) e8 ?_
  refine n_iconst (pc := 23) (v := 0) F dX0_init_23 ic_0 ?_
  refine n_istore_n (pc := 24) (lv' := [(0, .ref (gA g o)), (1, .int 0)]) F dX0_init_24 rfl (by decide) rfl ?_
  exact acts_loop ho hk F hr hf 40 0 rfl h7 rfl
theorem nwk_X3_7 : NWK "DustParish$Present" 7 7 "DustParish$State" 6 := ⟨TX8, tyX8, rfl, tw_270, tw_271, tw_8, lyw_7, tyX8_ok, by decide, rfl, dv_7⟩
theorem dv_0 : ∀ k, k < 3 → ∀ (g : GE) (i : Nat), defaultValue (tyX0 k) = fval g false (FT 0 k) i 0 := by
  intro k hk g i
  match k, hk with
  | 0, _ => rfl
  | 1, _ => rfl
  | 2, _ => rfl
  | k + 3, hk => exact absurd hk (by omega)
theorem nwk_X3_16 : NWK "DustParish$Present" 16 0 "DustParish$Acts" 3 := ⟨TX0, tyX0, rfl, tw_307, tw_308, tw_9, lyw_0, tyX0_ok, by decide, rfl, dv_0⟩
theorem dv_6 : ∀ k, k < 4 → ∀ (g : GE) (i : Nat), defaultValue (tyX7 k) = fval g false (FT 6 k) i 0 := by
  intro k hk g i
  match k, hk with
  | 0, _ => rfl
  | 1, _ => rfl
  | 2, _ => rfl
  | 3, _ => rfl
  | k + 4, hk => exact absurd hk (by omega)
theorem nwk_X3_23 : NWK "DustParish$Present" 23 6 "DustParish$Sights" 4 := ⟨TX7, tyX7, rfl, tw_328, tw_329, tw_10, lyw_6, tyX7_ok, by decide, rfl, dv_6⟩
def fX3_init (h : ST) (o : Nat) : Option ST :=
  bnd (nwz h (o + 1)) fun h1 =>
  bnd (fX8_init h1 (o + 1)) fun h3 =>
  bnd (pw h3 o 0 0) fun h5 =>
  bnd (nwz h5 (o + 5)) fun h7 =>
  bnd (fX0_init h7 (o + 5)) fun h9 =>
  bnd (pw h9 o 1 0) fun h11 =>
  bnd (nwz h11 (o + 167)) fun h13 =>
  bnd (fX7_init h13 (o + 167)) fun h15 =>
  bnd (pw h15 o 2 0) fun h17 =>
  bnd (nwz h17 (o + 171)) fun h19 =>
  bnd (pw h19 o 3 0) fun h21 =>
  some h21
theorem cz_yX0_init : yX0_init.cls ≠ "java/lang/invoke/MethodHandle" ∧ yX0_init.cls ≠ "java/lang/invoke/VarHandle" ∧ (parseMethodDescriptor yX0_init.desc).map (fun d => d.parameters.length) = some 0 := by decide +kernel
theorem cz_yX7_init : yX7_init.cls ≠ "java/lang/invoke/MethodHandle" ∧ yX7_init.cls ≠ "java/lang/invoke/VarHandle" ∧ (parseMethodDescriptor yX7_init.desc).map (fun d => d.parameters.length) = some 0 := by decide +kernel
set_option maxRecDepth 100000 in
set_option maxHeartbeats 4000000 in
theorem kX3_init {l : Launch} {g : GE} {b0 : Nat} {zr : Nat → Nat → Bool} {h : ST} {o : Nat} (ho : o < 395) (hk : KC o = (2, 0)) {y : ST} (hf : fX3_init h o = some y) : NT l yX3_init cX3_init 1 3 171 1468 KC g b0 o [.ref (gA g o)] (o + 1) (zw zr o 0) h (o + 172) (zf zr o) y := by
  refine NT.of pn_X3 (Nat.le_of_ble_eq_true rfl) rfl ?_
  intro p e s m below meth c hr F
  have F : FN p s m _ meth c cX3_init 1 "DustParish$Present" g b0 := F
  refine VN_lv (lv' := [(0, .ref (gA g o))]) rfl ?_
  unfold fX3_init at hf
  refine n_aload_n (pc := 0) (j := 0) F dX3_init_0 rfl rfl ?_
  refine n_obj (pc := 1) F tw_269 dX3_init_1 (by decide) (Nat.le_of_ble_eq_true rfl) ?_
  refine n_aload_n (pc := 4) (j := 0) F dX3_init_4 rfl rfl ?_
  obtain ⟨h1, e2, hf⟩ := bnd_some hf
  refine n_new (pc := 5) F nwk_X3_7 dX3_init_5 (ly_2_0 ho hk).2 (by omega) (Nat.le_of_ble_eq_true rfl) (Nat.le_of_ble_eq_true rfl) ?_
  rw [nwz_eq e2]
  refine n_dup (pc := 8) F dX3_init_8 rfl ?_
  obtain ⟨h3, e4, hf⟩ := bnd_some hf
  refine n_callIN (pc := 9) (As := []) (host := "DustParish") F rfl (by decide +kernel) ⟨tw_8, tw_274, by decide, tw_273⟩ cz_yX8_init rfl dX3_init_9 (kX8_init (ly_2_0 ho hk).1 (ly_2_0 ho hk).2 e4) (by omega) (by omega) rfl rfl (Nat.le_of_ble_eq_true rfl) (by decide) (Nat.le_of_ble_eq_true rfl) (Nat.le_of_ble_eq_true rfl) ?_
  refine VN_z (zf_zw (by omega)) ?_
  obtain ⟨h5, e6, hf⟩ := bnd_some hf
  refine n_putF (pc := 12) F fl_X3_10 plf_2_0 dX3_init_12 (by omega) hk fv_2_0 rfl rfl (Or.inr ⟨rfl, by decide, gap_ok (by decide)⟩) e6 ?_
  refine n_aload_n (pc := 15) (j := 0) F dX3_init_15 rfl rfl ?_
  obtain ⟨h7, e8, hf⟩ := bnd_some hf
  refine n_new (pc := 16) F nwk_X3_16 dX3_init_16 (ly_2_1 ho hk).2 (by omega) (Nat.le_of_ble_eq_true rfl) (Nat.le_of_ble_eq_true rfl) ?_
  rw [nwz_eq e8]
  refine n_dup (pc := 19) F dX3_init_19 rfl ?_
  obtain ⟨h9, e10, hf⟩ := bnd_some hf
  refine n_callI (pc := 20) (As := []) F rfl ⟨⟨tw_309, tw_9, tw_311, by decide, cy_yX0_init.1, cy_yX0_init.2.1, cy_yX0_init.2.2⟩, tw_310⟩ rfl dX3_init_20 (kX0_init (ly_2_1 ho hk).1 (ly_2_1 ho hk).2 e10) (by omega) (by omega) rfl rfl (Nat.le_of_ble_eq_true rfl) (by decide) (Nat.le_of_ble_eq_true rfl) (Nat.le_of_ble_eq_true rfl) ?_
  refine VN_z (zf_zw (by omega)) ?_
  obtain ⟨h11, e12, hf⟩ := bnd_some hf
  refine n_putF (pc := 23) F fl_X3_19 plf_2_1 dX3_init_23 (by omega) hk fv_2_1 rfl rfl (Or.inr ⟨rfl, by decide, gap_ok (by decide)⟩) e12 ?_
  refine n_aload_n (pc := 26) (j := 0) F dX3_init_26 rfl rfl ?_
  obtain ⟨h13, e14, hf⟩ := bnd_some hf
  refine n_new (pc := 27) F nwk_X3_23 dX3_init_27 (ly_2_2 ho hk).2 (by omega) (Nat.le_of_ble_eq_true rfl) (Nat.le_of_ble_eq_true rfl) ?_
  rw [nwz_eq e14]
  refine n_dup (pc := 30) F dX3_init_30 rfl ?_
  obtain ⟨h15, e16, hf⟩ := bnd_some hf
  refine n_callIN (pc := 31) (As := []) (host := "DustParish") F rfl (by decide +kernel) ⟨tw_10, tw_332, by decide, tw_331⟩ cz_yX7_init rfl dX3_init_31 (kX7_init (ly_2_2 ho hk).1 (ly_2_2 ho hk).2 e16) (by omega) (by omega) rfl rfl (Nat.le_of_ble_eq_true rfl) (by decide) (Nat.le_of_ble_eq_true rfl) (Nat.le_of_ble_eq_true rfl) ?_
  refine VN_z (zf_zw (by omega)) ?_
  obtain ⟨h17, e18, hf⟩ := bnd_some hf
  refine n_putF (pc := 34) F fl_X3_26 plf_2_2 dX3_init_34 (by omega) hk fv_2_2 rfl rfl (Or.inr ⟨rfl, by decide, gap_ok (by decide)⟩) e18 ?_
  refine n_aload_n (pc := 37) (j := 0) F dX3_init_37 rfl rfl ?_
  refine n_iconst (pc := 38) (v := 3) F dX3_init_38 ic_3 ?_
  obtain ⟨h19, e20, hf⟩ := bnd_some hf
  refine n_newa (pc := 39) F tw_61 dX3_init_39 (ly_2_3 ho hk).2 (by omega) (by decide) (Nat.le_of_ble_eq_true rfl) (Nat.le_of_ble_eq_true rfl) ?_
  rw [nwz_eq e20]
  obtain ⟨h21, e22, hf⟩ := bnd_some hf
  refine n_putF (pc := 41) F fl_X3_30 plf_2_3 dX3_init_41 (by omega) hk fv_2_3 rfl rfl (Or.inr ⟨rfl, by decide, gap_ok (by decide)⟩) e22 ?_
  exact n_vret (pc := 44) F hr dX3_init_44 (by omega) (Option.some.inj hf) (Nat.le_refl _) (Nat.le_refl _) (end_ok hk (by decide))
theorem dv_1 : ∀ k, k < 20 → ∀ (g : GE) (i : Nat), defaultValue (tyX2 k) = fval g false (FT 1 k) i 0 := by
  intro k hk g i
  match k, hk with
  | 0, _ => rfl
  | 1, _ => rfl
  | 2, _ => rfl
  | 3, _ => rfl
  | 4, _ => rfl
  | 5, _ => rfl
  | 6, _ => rfl
  | 7, _ => rfl
  | 8, _ => rfl
  | 9, _ => rfl
  | 10, _ => rfl
  | 11, _ => rfl
  | 12, _ => rfl
  | 13, _ => rfl
  | 14, _ => rfl
  | 15, _ => rfl
  | 16, _ => rfl
  | 17, _ => rfl
  | 18, _ => rfl
  | 19, _ => rfl
  | k + 20, hk => exact absurd hk (by omega)
theorem nwk_X10_20 : NWK "DustParish" 20 1 "DustParish$Facts" 20 := ⟨TX2, tyX2, rfl, tw_34, tw_35, tw_2, lyw_1, tyX2_ok, by decide, rfl, dv_1⟩
theorem dv_3 : ∀ k, k < 8 → ∀ (g : GE) (i : Nat), defaultValue (tyX4 k) = fval g false (FT 3 k) i 0 := by
  intro k hk g i
  match k, hk with
  | 0, _ => rfl
  | 1, _ => rfl
  | 2, _ => rfl
  | 3, _ => rfl
  | 4, _ => rfl
  | 5, _ => rfl
  | 6, _ => rfl
  | 7, _ => rfl
  | k + 8, hk => exact absurd hk (by omega)
theorem nwk_X10_30 : NWK "DustParish" 30 3 "DustParish$Reader" 8 := ⟨TX4, tyX4, rfl, tw_167, tw_168, tw_4, lyw_3, tyX4_ok, by decide, rfl, dv_3⟩
theorem dv_2 : ∀ k, k < 4 → ∀ (g : GE) (i : Nat), defaultValue (tyX3 k) = fval g false (FT 2 k) i 0 := by
  intro k hk g i
  match k, hk with
  | 0, _ => rfl
  | 1, _ => rfl
  | 2, _ => rfl
  | 3, _ => rfl
  | k + 4, hk => exact absurd hk (by omega)
theorem nwk_X10_39 : NWK "DustParish" 39 2 "DustParish$Present" 4 := ⟨TX3, tyX3, rfl, tw_264, tw_265, tw_7, lyw_2, tyX3_ok, by decide, rfl, dv_2⟩
theorem nwk_X10_53 : NWK "DustParish" 53 7 "DustParish$State" 6 := ⟨TX8, tyX8, rfl, tw_366, tw_271, tw_8, lyw_7, tyX8_ok, by decide, rfl, dv_7⟩
theorem cz_yX2_init : yX2_init.cls ≠ "java/lang/invoke/MethodHandle" ∧ yX2_init.cls ≠ "java/lang/invoke/VarHandle" ∧ (parseMethodDescriptor yX2_init.desc).map (fun d => d.parameters.length) = some 0 := by decide +kernel
theorem cz_yX4_init : yX4_init.cls ≠ "java/lang/invoke/MethodHandle" ∧ yX4_init.cls ≠ "java/lang/invoke/VarHandle" ∧ (parseMethodDescriptor yX4_init.desc).map (fun d => d.parameters.length) = some 2 := by decide +kernel
theorem cz_yX3_init : yX3_init.cls ≠ "java/lang/invoke/MethodHandle" ∧ yX3_init.cls ≠ "java/lang/invoke/VarHandle" ∧ (parseMethodDescriptor yX3_init.desc).map (fun d => d.parameters.length) = some 0 := by decide +kernel
def fX10_init (h : ST) : Option ST :=
  bnd (nwz h 1) fun h1 =>
  bnd (pw h1 0 0 0) fun h3 =>
  bnd (pw h3 0 1 0) fun h5 =>
  bnd (pw h5 0 2 (-1)) fun h7 =>
  bnd (nwz h7 2) fun h9 =>
  bnd (fX2_init h9 2) fun h11 =>
  bnd (pw h11 0 3 (Int32.ofNat 2)) fun h13 =>
  bnd (nwz h13 20) fun h15 =>
  bnd (fX2_init h15 20) fun h17 =>
  bnd (pw h17 0 4 (Int32.ofNat 20)) fun h19 =>
  bnd (nwz h19 38) fun h21 =>
  grd ((h21 0 4).toNatClampNeg = 20) (
  bnd (fX4_init h21) fun h24 =>
  bnd (pw h24 0 5 0) fun h26 =>
  bnd (nwz h26 42) fun h28 =>
  bnd (fX3_init h28 42) fun h30 =>
  bnd (pw h30 0 6 0) fun h32 =>
  bnd (nwz h32 214) fun h34 =>
  bnd (fX3_init h34 214) fun h36 =>
  bnd (pw h36 0 7 0) fun h38 =>
  bnd (pw h38 0 8 0) fun h40 =>
  bnd (nwz h40 386) fun h42 =>
  bnd (fX8_init h42 386) fun h44 =>
  bnd (pw h44 0 9 0) fun h46 =>
  bnd (nwz h46 390) fun h48 =>
  bnd (pw h48 0 10 0) fun h50 =>
  bnd (nwz h50 391) fun h52 =>
  bnd (pw h52 0 11 0) fun h54 =>
  bnd (nwz h54 392) fun h56 =>
  bnd (pw h56 0 12 0) fun h58 =>
  bnd (nwz h58 393) fun h60 =>
  bnd (pw h60 0 13 0) fun h62 =>
  bnd (nwz h62 394) fun h64 =>
  bnd (pw h64 0 14 0) fun h66 =>
  grd ((h66 0 3).toNatClampNeg = 2) (
  bnd (fX2_clear h66 2) fun y =>
  some y))
theorem all_ok {zr : Nat → Nat → Bool} : ∀ i k, i < 395 → ((KC i).1 < 20 → k < nF (KC i).1 → FT (KC i).1 k ≠ 0 → zw zr 0 15 i k = zT i k) ∧ (23 ≤ (KC i).1 → k < (KC i).2 → zw zr 0 15 i k = zT i k) := by
  intro i k _
  unfold zw
  rw [if_neg (Nat.not_lt_zero i)]
  by_cases h2 : i = 0
  · subst h2
    rw [if_pos rfl]
    refine ⟨fun _ h4 _ => ?_, fun h3 => absurd h3 (by decide)⟩
    have h4 : k < 15 := h4
    simp [h4]
  · rw [if_neg h2]; exact ⟨fun _ _ _ => rfl, fun _ _ => rfl⟩
set_option maxRecDepth 100000 in
set_option maxHeartbeats 4000000 in
theorem kX10_init {l : Launch} {g : GE} {b0 : Nat} {zr : Nat → Nat → Bool} {h : ST} {y : ST} (hf : fX10_init h = some y) : Met l yX10_init (Cond.code yX10_init cX10_init 1 none :: TBG) (RN 4 394 10524) (PN KC g b0 [.ref (gA g 0)] 1 (zw zr 0 0) h) (QD KC 395 g b0 y) 394 10524 (fun q => b0 ≤ q) := by
  refine NT.of2 pn_X10 (Nat.le_of_ble_eq_true rfl) rfl ?_
  intro p e s m below meth c hr F
  have F : FN p s m _ meth c cX10_init 1 "DustParish" g b0 := F
  refine VN_lv (lv' := [(0, .ref (gA g 0))]) rfl ?_
  unfold fX10_init at hf
  refine n_aload_n (pc := 0) (j := 0) F dX10_init_0 rfl rfl ?_
  refine n_obj (pc := 1) F tw_31 dX10_init_1 (by decide) (Nat.le_of_ble_eq_true rfl) ?_
  refine n_aload_n (pc := 4) (j := 0) F dX10_init_4 rfl rfl ?_
  refine n_sipush (pc := 5) (v := 700) F dX10_init_5 sp_700 ?_
  obtain ⟨h1, e2, hf⟩ := bnd_some hf
  refine n_newb (pc := 8) F tw_60 dX10_init_8 kc_1.2 (by omega) (by decide) (Nat.le_of_ble_eq_true rfl) (Nat.le_of_ble_eq_true rfl) ?_
  rw [nwz_eq e2]
  obtain ⟨h3, e4, hf⟩ := bnd_some hf
  refine n_putF (pc := 10) F fl_X10_9 plf_9_0 dX10_init_10 (by omega) kc_0.2 fv_9_0 rfl rfl (Or.inr ⟨rfl, by decide, gap_ok (by decide)⟩) e4 ?_
  refine n_aload_n (pc := 13) (j := 0) F dX10_init_13 rfl rfl ?_
  refine n_iconst (pc := 14) (v := 0) F dX10_init_14 ic_0 ?_
  obtain ⟨h5, e6, hf⟩ := bnd_some hf
  refine n_putM (pc := 15) F fl_X10_13 pl_9_1 dX10_init_15 (by omega) kc_0.2 fv_9_1 rfl rfl (Or.inl ⟨rfl, rfl⟩) e6 ?_
  refine n_aload_n (pc := 18) (j := 0) F dX10_init_18 rfl rfl ?_
  refine n_iconst (pc := 19) (v := (-1)) F dX10_init_19 ic_m1 ?_
  obtain ⟨h7, e8, hf⟩ := bnd_some hf
  refine n_putM (pc := 20) F fl_X10_17 pl_9_2 dX10_init_20 (by omega) kc_0.2 fv_9_2 rfl rfl (Or.inl ⟨rfl, rfl⟩) e8 ?_
  refine n_aload_n (pc := 23) (j := 0) F dX10_init_23 rfl rfl ?_
  obtain ⟨h9, e10, hf⟩ := bnd_some hf
  refine n_new (pc := 24) F nwk_X10_20 dX10_init_24 kc_2.2 (by omega) (Nat.le_of_ble_eq_true rfl) (Nat.le_of_ble_eq_true rfl) ?_
  rw [nwz_eq e10]
  refine n_dup (pc := 27) F dX10_init_27 rfl ?_
  obtain ⟨h11, e12, hf⟩ := bnd_some hf
  refine n_callIN (pc := 28) (As := []) (host := "DustParish") F rfl (by decide +kernel) ⟨tw_2, tw_38, by decide, tw_37⟩ cz_yX2_init rfl dX10_init_28 (kX2_init kc_2.1 kc_2.2 e12) (by omega) (by omega) rfl rfl (Nat.le_of_ble_eq_true rfl) (by decide) (Nat.le_of_ble_eq_true rfl) (Nat.le_of_ble_eq_true rfl) ?_
  refine VN_z (zf_zw (by omega)) ?_
  obtain ⟨h13, e14, hf⟩ := bnd_some hf
  refine n_putM (pc := 31) F fl_X10_23 pl_9_3 dX10_init_31 (by omega) kc_0.2 (fv_9_3 (ofNat_back (by decide))) rfl rfl (Or.inr ⟨rfl, by decide, gap_ok (by decide)⟩) e14 ?_
  refine n_aload_n (pc := 34) (j := 0) F dX10_init_34 rfl rfl ?_
  obtain ⟨h15, e16, hf⟩ := bnd_some hf
  refine n_new (pc := 35) F nwk_X10_20 dX10_init_35 kc_20.2 (by omega) (Nat.le_of_ble_eq_true rfl) (Nat.le_of_ble_eq_true rfl) ?_
  rw [nwz_eq e16]
  refine n_dup (pc := 38) F dX10_init_38 rfl ?_
  obtain ⟨h17, e18, hf⟩ := bnd_some hf
  refine n_callIN (pc := 39) (As := []) (host := "DustParish") F rfl (by decide +kernel) ⟨tw_2, tw_38, by decide, tw_37⟩ cz_yX2_init rfl dX10_init_39 (kX2_init kc_20.1 kc_20.2 e18) (by omega) (by omega) rfl rfl (Nat.le_of_ble_eq_true rfl) (by decide) (Nat.le_of_ble_eq_true rfl) (Nat.le_of_ble_eq_true rfl) ?_
  refine VN_z (zf_zw (by omega)) ?_
  obtain ⟨h19, e20, hf⟩ := bnd_some hf
  refine n_putM (pc := 42) F fl_X10_27 pl_9_4 dX10_init_42 (by omega) kc_0.2 (fv_9_4 (ofNat_back (by decide))) rfl rfl (Or.inr ⟨rfl, by decide, gap_ok (by decide)⟩) e20 ?_
  refine n_aload_n (pc := 45) (j := 0) F dX10_init_45 rfl rfl ?_
  obtain ⟨h21, e22, hf⟩ := bnd_some hf
  refine n_new (pc := 46) F nwk_X10_30 dX10_init_46 kc_38.2 (by omega) (Nat.le_of_ble_eq_true rfl) (Nat.le_of_ble_eq_true rfl) ?_
  rw [nwz_eq e22]
  refine n_dup (pc := 49) F dX10_init_49 rfl ?_
  refine n_aload_n (pc := 50) (j := 0) F dX10_init_50 rfl rfl ?_
  refine n_get (pc := 51) F fl_X10_9 dX10_init_51 (by omega) kc_0.2 (zget2 (by decide) (zget (by decide))) fv_9_0 ?_
  refine n_aload_n (pc := 54) (j := 0) F dX10_init_54 rfl rfl ?_
  obtain ⟨g23, hf⟩ := grd_some hf
  refine n_get (pc := 55) F fl_X10_27 dX10_init_55 (by omega) kc_0.2 (zget2 (by decide) (zget (by decide))) (fv_9_4 g23) ?_
  obtain ⟨h24, e25, hf⟩ := bnd_some hf
  refine n_callI (pc := 58) (As := [.ref (gA g 1), .ref (gA g 20)]) F rfl ⟨⟨tw_169, tw_4, tw_171, by decide, cy_yX4_init.1, cy_yX4_init.2.1, cy_yX4_init.2.2⟩, tw_170⟩ rfl dX10_init_58 (kX4_init (zgt (by decide)) e25) (by omega) (by omega) rfl rfl (Nat.le_of_ble_eq_true rfl) (by decide) (Nat.le_of_ble_eq_true rfl) (Nat.le_of_ble_eq_true rfl) ?_
  refine VN_z (zf_zw (by omega)) ?_
  obtain ⟨h26, e27, hf⟩ := bnd_some hf
  refine n_putF (pc := 61) F fl_X10_35 plf_9_5 dX10_init_61 (by omega) kc_0.2 fv_9_5 rfl rfl (Or.inr ⟨rfl, by decide, gap_ok (by decide)⟩) e27 ?_
  refine n_aload_n (pc := 64) (j := 0) F dX10_init_64 rfl rfl ?_
  obtain ⟨h28, e29, hf⟩ := bnd_some hf
  refine n_new (pc := 65) F nwk_X10_39 dX10_init_65 kc_42.2 (by omega) (Nat.le_of_ble_eq_true rfl) (Nat.le_of_ble_eq_true rfl) ?_
  rw [nwz_eq e29]
  refine n_dup (pc := 68) F dX10_init_68 rfl ?_
  obtain ⟨h30, e31, hf⟩ := bnd_some hf
  refine n_callIN (pc := 69) (As := []) (host := "DustParish") F rfl (by decide +kernel) ⟨tw_7, tw_268, by decide, tw_267⟩ cz_yX3_init rfl dX10_init_69 (kX3_init kc_42.1 kc_42.2 e31) (by omega) (by omega) rfl rfl (Nat.le_of_ble_eq_true rfl) (by decide) (Nat.le_of_ble_eq_true rfl) (Nat.le_of_ble_eq_true rfl) ?_
  refine VN_z (zf_zw (by omega)) ?_
  obtain ⟨h32, e33, hf⟩ := bnd_some hf
  refine n_putF (pc := 72) F fl_X10_42 plf_9_6 dX10_init_72 (by omega) kc_0.2 fv_9_6 rfl rfl (Or.inr ⟨rfl, by decide, gap_ok (by decide)⟩) e33 ?_
  refine n_aload_n (pc := 75) (j := 0) F dX10_init_75 rfl rfl ?_
  obtain ⟨h34, e35, hf⟩ := bnd_some hf
  refine n_new (pc := 76) F nwk_X10_39 dX10_init_76 kc_214.2 (by omega) (Nat.le_of_ble_eq_true rfl) (Nat.le_of_ble_eq_true rfl) ?_
  rw [nwz_eq e35]
  refine n_dup (pc := 79) F dX10_init_79 rfl ?_
  obtain ⟨h36, e37, hf⟩ := bnd_some hf
  refine n_callIN (pc := 80) (As := []) (host := "DustParish") F rfl (by decide +kernel) ⟨tw_7, tw_268, by decide, tw_267⟩ cz_yX3_init rfl dX10_init_80 (kX3_init kc_214.1 kc_214.2 e37) (by omega) (by omega) rfl rfl (Nat.le_of_ble_eq_true rfl) (by decide) (Nat.le_of_ble_eq_true rfl) (Nat.le_of_ble_eq_true rfl) ?_
  refine VN_z (zf_zw (by omega)) ?_
  obtain ⟨h38, e39, hf⟩ := bnd_some hf
  refine n_putF (pc := 83) F fl_X10_46 plf_9_7 dX10_init_83 (by omega) kc_0.2 fv_9_7 rfl rfl (Or.inr ⟨rfl, by decide, gap_ok (by decide)⟩) e39 ?_
  refine n_aload_n (pc := 86) (j := 0) F dX10_init_86 rfl rfl ?_
  refine n_iconst (pc := 87) (v := 0) F dX10_init_87 ic_0 ?_
  obtain ⟨h40, e41, hf⟩ := bnd_some hf
  refine n_putM (pc := 88) F fl_X10_49 pl_9_8 dX10_init_88 (by omega) kc_0.2 fv_9_8 rfl rfl (Or.inl ⟨rfl, rfl⟩) e41 ?_
  refine n_aload_n (pc := 91) (j := 0) F dX10_init_91 rfl rfl ?_
  obtain ⟨h42, e43, hf⟩ := bnd_some hf
  refine n_new (pc := 92) F nwk_X10_53 dX10_init_92 kc_386.2 (by omega) (Nat.le_of_ble_eq_true rfl) (Nat.le_of_ble_eq_true rfl) ?_
  rw [nwz_eq e43]
  refine n_dup (pc := 95) F dX10_init_95 rfl ?_
  obtain ⟨h44, e45, hf⟩ := bnd_some hf
  refine n_callIN (pc := 96) (As := []) (host := "DustParish") F rfl (by decide +kernel) ⟨tw_8, tw_274, by decide, tw_273⟩ cz_yX8_init rfl dX10_init_96 (kX8_init kc_386.1 kc_386.2 e45) (by omega) (by omega) rfl rfl (Nat.le_of_ble_eq_true rfl) (by decide) (Nat.le_of_ble_eq_true rfl) (Nat.le_of_ble_eq_true rfl) ?_
  refine VN_z (zf_zw (by omega)) ?_
  obtain ⟨h46, e47, hf⟩ := bnd_some hf
  refine n_putF (pc := 99) F fl_X10_56 plf_9_9 dX10_init_99 (by omega) kc_0.2 fv_9_9 rfl rfl (Or.inr ⟨rfl, by decide, gap_ok (by decide)⟩) e47 ?_
  refine n_aload_n (pc := 102) (j := 0) F dX10_init_102 rfl rfl ?_
  refine n_iconst (pc := 103) (v := 5) F dX10_init_103 ic_5 ?_
  obtain ⟨h48, e49, hf⟩ := bnd_some hf
  refine n_newa (pc := 104) F tw_61 dX10_init_104 kc_390.2 (by omega) (by decide) (Nat.le_of_ble_eq_true rfl) (Nat.le_of_ble_eq_true rfl) ?_
  rw [nwz_eq e49]
  obtain ⟨h50, e51, hf⟩ := bnd_some hf
  refine n_putF (pc := 106) F fl_X10_60 plf_9_10 dX10_init_106 (by omega) kc_0.2 fv_9_10 rfl rfl (Or.inr ⟨rfl, by decide, gap_ok (by decide)⟩) e51 ?_
  refine n_aload_n (pc := 109) (j := 0) F dX10_init_109 rfl rfl ?_
  refine n_iconst (pc := 110) (v := 5) F dX10_init_110 ic_5 ?_
  obtain ⟨h52, e53, hf⟩ := bnd_some hf
  refine n_newa (pc := 111) F tw_61 dX10_init_111 kc_391.2 (by omega) (by decide) (Nat.le_of_ble_eq_true rfl) (Nat.le_of_ble_eq_true rfl) ?_
  rw [nwz_eq e53]
  obtain ⟨h54, e55, hf⟩ := bnd_some hf
  refine n_putF (pc := 113) F fl_X10_64 plf_9_11 dX10_init_113 (by omega) kc_0.2 fv_9_11 rfl rfl (Or.inr ⟨rfl, by decide, gap_ok (by decide)⟩) e55 ?_
  refine n_aload_n (pc := 116) (j := 0) F dX10_init_116 rfl rfl ?_
  refine n_bipush (pc := 117) (v := 9) F dX10_init_117 bp_9 ?_
  obtain ⟨h56, e57, hf⟩ := bnd_some hf
  refine n_newa (pc := 119) F tw_61 dX10_init_119 kc_392.2 (by omega) (by decide) (Nat.le_of_ble_eq_true rfl) (Nat.le_of_ble_eq_true rfl) ?_
  rw [nwz_eq e57]
  obtain ⟨h58, e59, hf⟩ := bnd_some hf
  refine n_putF (pc := 121) F fl_X10_67 plf_9_12 dX10_init_121 (by omega) kc_0.2 fv_9_12 rfl rfl (Or.inr ⟨rfl, by decide, gap_ok (by decide)⟩) e59 ?_
  refine n_aload_n (pc := 124) (j := 0) F dX10_init_124 rfl rfl ?_
  refine n_iconst (pc := 125) (v := 4) F dX10_init_125 ic_4 ?_
  obtain ⟨h60, e61, hf⟩ := bnd_some hf
  refine n_newa (pc := 126) F tw_61 dX10_init_126 kc_393.2 (by omega) (by decide) (Nat.le_of_ble_eq_true rfl) (Nat.le_of_ble_eq_true rfl) ?_
  rw [nwz_eq e61]
  obtain ⟨h62, e63, hf⟩ := bnd_some hf
  refine n_putF (pc := 128) F fl_X10_70 plf_9_13 dX10_init_128 (by omega) kc_0.2 fv_9_13 rfl rfl (Or.inr ⟨rfl, by decide, gap_ok (by decide)⟩) e63 ?_
  refine n_aload_n (pc := 131) (j := 0) F dX10_init_131 rfl rfl ?_
  refine n_sipush (pc := 132) (v := 4608) F dX10_init_132 sp_4608 ?_
  obtain ⟨h64, e65, hf⟩ := bnd_some hf
  refine n_newa (pc := 135) F tw_61 dX10_init_135 kc_394.2 (by omega) (by decide) (Nat.le_of_ble_eq_true rfl) (Nat.le_of_ble_eq_true rfl) ?_
  rw [nwz_eq e65]
  obtain ⟨h66, e67, hf⟩ := bnd_some hf
  refine n_putF (pc := 137) F fl_X10_73 plf_9_14 dX10_init_137 (by omega) kc_0.2 fv_9_14 rfl rfl (Or.inr ⟨rfl, by decide, gap_ok (by decide)⟩) e67 ?_
  obtain ⟨g9, hf⟩ := grd_some hf
  obtain ⟨y9, e9, hf⟩ := bnd_some hf
  cases hf
  refine n_aload_n (pc := 140) (j := 0) F dX10_init_140 rfl rfl ?_
  refine n_get (pc := 141) F fl_X10_23 dX10_init_141 (by omega) kc_0.2 (zget (by decide)) (fv_9_3 g9) ?_
  exact n_last (pc := 144) (As := []) F rfl rfl hr cl_X10_76 dX10_init_144 dX10_init_147 (kX2_clear kc_2.1 kc_2.2 e9) kc_2.1 kc_2.2 rc_1 rfl rfl (by decide) (Nat.le_refl _) (Nat.le_refl _) all_ok
def fX11_init (h : ST) : Option ST :=
  bnd (nwz h 1) fun h1 =>
  bnd (pw h1 1 0 1) fun h3 =>
  bnd (pw h3 1 1 2) fun h5 =>
  bnd (pw h5 1 2 3) fun h7 =>
  bnd (pw h7 0 0 0) fun h9 =>
  bnd (nwz h9 2) fun h11 =>
  bnd (pw h11 2 0 12) fun h13 =>
  bnd (pw h13 2 1 13) fun h15 =>
  bnd (pw h15 2 2 14) fun h17 =>
  bnd (pw h17 2 3 15) fun h19 =>
  bnd (pw h19 2 4 16) fun h21 =>
  bnd (pw h21 2 5 17) fun h23 =>
  bnd (pw h23 0 1 0) fun h25 =>
  bnd (nwz h25 3) fun h27 =>
  bnd (wr 14 h27 3 0 0) fun h29 =>
  bnd (wr 14 h29 3 1 0) fun h31 =>
  bnd (wr 14 h31 3 2 0) fun h33 =>
  bnd (wr 14 h33 3 3 0) fun h35 =>
  bnd (wr 14 h35 3 4 7) fun h37 =>
  bnd (wr 14 h37 3 5 10) fun h39 =>
  bnd (wr 14 h39 3 6 0) fun h41 =>
  bnd (wr 14 h41 3 7 0) fun h43 =>
  bnd (wr 14 h43 3 8 0) fun h45 =>
  bnd (wr 14 h45 3 9 0) fun h47 =>
  bnd (wr 14 h47 3 10 0) fun h49 =>
  bnd (wr 14 h49 3 11 7) fun h51 =>
  bnd (wr 14 h51 3 12 10) fun h53 =>
  bnd (wr 14 h53 3 13 0) fun h55 =>
  bnd (pw h55 0 3 0) fun h57 =>
  bnd (nwz h57 4) fun h59 =>
  bnd (pw h59 0 4 0) fun h61 =>
  bnd (nwz h61 5) fun h63 =>
  bnd (pw h63 0 5 0) fun h65 =>
  bnd (nwz h65 6) fun h67 =>
  bnd (pw h67 0 6 0) fun h69 =>
  bnd (nwz h69 7) fun h71 =>
  bnd (pw h71 0 7 0) fun h73 =>
  bnd (nwz h73 8) fun h75 =>
  bnd (pw h75 0 8 0) fun h77 =>
  bnd (nwz h77 9) fun h79 =>
  bnd (pw h79 0 9 0) fun h81 =>
  bnd (nwz h81 10) fun h83 =>
  bnd (pw h83 0 10 0) fun h85 =>
  bnd (nwz h85 11) fun h87 =>
  bnd (pw h87 0 11 0) fun h89 =>
  bnd (nwz h89 12) fun h91 =>
  bnd (pw h91 0 12 0) fun h93 =>
  bnd (nwz h93 13) fun h95 =>
  bnd (pw h95 0 13 0) fun h97 =>
  bnd (nwz h97 14) fun h99 =>
  bnd (pw h99 0 14 0) fun h101 =>
  bnd (nwz h101 15) fun h103 =>
  bnd (pw h103 0 15 0) fun h105 =>
  bnd (nwz h105 16) fun h107 =>
  bnd (pw h107 0 16 0) fun h109 =>
  bnd (nwz h109 17) fun h111 =>
  bnd (pw h111 0 17 0) fun h113 =>
  bnd (nwz h113 18) fun h115 =>
  bnd (pw h115 0 18 0) fun h117 =>
  bnd (pw h117 0 28 (-1)) fun h119 =>
  bnd (nwz h119 19) fun h121 =>
  bnd (pw h121 0 29 0) fun h123 =>
  bnd (nwz h123 20) fun h125 =>
  bnd (pw h125 0 30 0) fun h127 =>
  bnd (nwz h127 21) fun h129 =>
  bnd (pw h129 0 31 0) fun h131 =>
  bnd (nwz h131 22) fun h133 =>
  bnd (pw h133 0 32 0) fun h135 =>
  bnd (nwz h135 23) fun h137 =>
  bnd (pw h137 0 38 0) fun h139 =>
  bnd (nwz h139 24) fun h141 =>
  bnd (pw h141 0 39 0) fun h143 =>
  bnd (nwz h143 25) fun h145 =>
  bnd (pw h145 0 40 0) fun h147 =>
  bnd (nwz h147 26) fun h149 =>
  bnd (pw h149 0 41 0) fun h151 =>
  bnd (nwz h151 27) fun h153 =>
  bnd (pw h153 0 42 0) fun h155 =>
  bnd (nwz h155 28) fun h157 =>
  bnd (pw h157 0 43 0) fun h159 =>
  bnd (nwz h159 29) fun h161 =>
  bnd (pw h161 0 44 0) fun h163 =>
  bnd (nwz h163 30) fun h165 =>
  bnd (pw h165 0 46 0) fun h167 =>
  bnd (nwz h167 31) fun h169 =>
  bnd (pw h169 0 47 0) fun h171 =>
  bnd (nwz h171 32) fun h173 =>
  bnd (pw h173 0 48 0) fun h175 =>
  bnd (nwz h175 33) fun h177 =>
  bnd (pw h177 0 49 0) fun h179 =>
  bnd (nwz h179 34) fun h181 =>
  bnd (pw h181 0 50 0) fun h183 =>
  bnd (nwz h183 35) fun h185 =>
  bnd (pw h185 0 51 0) fun h187 =>
  bnd (nwz h187 36) fun h189 =>
  bnd (pw h189 0 52 0) fun h191 =>
  bnd (nwz h191 37) fun h193 =>
  bnd (pw h193 0 57 0) fun h195 =>
  bnd (nwz h195 38) fun h197 =>
  bnd (pw h197 0 58 0) fun h199 =>
  bnd (nwz h199 39) fun h201 =>
  bnd (pw h201 0 59 0) fun h203 =>
  bnd (nwz h203 40) fun h205 =>
  bnd (pw h205 0 60 0) fun h207 =>
  bnd (nwz h207 41) fun h209 =>
  bnd (pw h209 0 61 0) fun h211 =>
  bnd (nwz h211 42) fun h213 =>
  bnd (pw h213 0 62 0) fun h215 =>
  some h215
set_option maxRecDepth 100000 in
set_option maxHeartbeats 4000000 in
theorem kX11_init {l : Launch} {g : GE} {b0 : Nat} {zr : Nat → Nat → Bool} {h : ST} {y : ST} (hf : fX11_init h = some y) : NT l yX11_init cX11_init 1 1 42 9995 KM g b0 0 [.ref (gA g 0)] 1 (zw zr 0 0) h 43 (zf zr 0) y := by
  refine NT.of pn_X11 (Nat.le_of_ble_eq_true rfl) rfl ?_
  intro p e s m below meth c hr F
  have F : FN p s m _ meth c cX11_init 1 "DustParishModel" g b0 := F
  refine VN_lv (lv' := [(0, .ref (gA g 0))]) rfl ?_
  unfold fX11_init at hf
  refine n_aload_n (pc := 0) (j := 0) F dX11_init_0 rfl rfl ?_
  refine n_obj (pc := 1) F tw_1257 dX11_init_1 (by decide) (Nat.le_of_ble_eq_true rfl) ?_
  refine n_aload_n (pc := 4) (j := 0) F dX11_init_4 rfl rfl ?_
  refine n_iconst (pc := 5) (v := 3) F dX11_init_5 ic_3 ?_
  obtain ⟨h1, e2, hf⟩ := bnd_some hf
  refine n_anew (pc := 6) F tw_1258 F.2.2.2.2.2.2.2.2.2.2.2 rfl (by decide) dX11_init_6 km_1.2 (by omega) (by decide) (Nat.le_of_ble_eq_true rfl) (Nat.le_of_ble_eq_true rfl) ?_
  rw [nwz_eq e2]
  refine n_dup (pc := 9) F dX11_init_9 rfl ?_
  refine n_iconst (pc := 10) (v := 0) F dX11_init_10 ic_0 ?_
  refine n_ldcS (pc := 11) (j := 1) (tx := "pew") F (by decide) dX11_init_11 ?_
  obtain ⟨h3, e4, hf⟩ := bnd_some hf
  refine n_aast (pc := 13) (z' := zw (zw zr 0 0) 1 1) (C := "java/lang/String") F dX11_init_13 (by omega) (by omega) (by decide) rfl km_1.2 (by decide) (fun H locs _ hs9 => str_cell F hs9 (by decide)) e4 rfl zz_1 zz_2 ?_
  refine n_dup (pc := 14) F dX11_init_14 rfl ?_
  refine n_iconst (pc := 15) (v := 1) F dX11_init_15 ic_1 ?_
  refine n_ldcS (pc := 16) (j := 2) (tx := "chapel") F (by decide) dX11_init_16 ?_
  obtain ⟨h5, e6, hf⟩ := bnd_some hf
  refine n_aast (pc := 18) (z' := zw (zw zr 0 0) 1 2) (C := "java/lang/String") F dX11_init_18 (by omega) (by omega) (by decide) rfl km_1.2 (by decide) (fun H locs _ hs9 => str_cell F hs9 (by decide)) e6 rfl zz_1 zz_2 ?_
  refine n_dup (pc := 19) F dX11_init_19 rfl ?_
  refine n_iconst (pc := 20) (v := 2) F dX11_init_20 ic_2 ?_
  refine n_ldcS (pc := 21) (j := 3) (tx := "attic") F (by decide) dX11_init_21 ?_
  obtain ⟨h7, e8, hf⟩ := bnd_some hf
  refine n_aast (pc := 23) (z' := zw (zw zr 0 0) 1 3) (C := "java/lang/String") F dX11_init_23 (by omega) (by omega) (by decide) rfl km_1.2 (by decide) (fun H locs _ hs9 => str_cell F hs9 (by decide)) e8 rfl zz_1 zz_2 ?_
  obtain ⟨h9, e10, hf⟩ := bnd_some hf
  refine VN_zc (zz_full (by omega) km_1.2 (by decide)) ?_
  refine n_putF (pc := 24) F fl_X11_17 plf_10_0 dX11_init_24 (by omega) km_0.2 fv_10_0 rfl rfl (Or.inr ⟨rfl, by decide, gap_ok (by decide)⟩) e10 ?_
  refine n_aload_n (pc := 27) (j := 0) F dX11_init_27 rfl rfl ?_
  refine n_bipush (pc := 28) (v := 6) F dX11_init_28 bp_6 ?_
  obtain ⟨h11, e12, hf⟩ := bnd_some hf
  refine n_anew (pc := 30) F tw_1258 F.2.2.2.2.2.2.2.2.2.2.2 rfl (by decide) dX11_init_30 km_2.2 (by omega) (by decide) (Nat.le_of_ble_eq_true rfl) (Nat.le_of_ble_eq_true rfl) ?_
  rw [nwz_eq e12]
  refine n_dup (pc := 33) F dX11_init_33 rfl ?_
  refine n_iconst (pc := 34) (v := 0) F dX11_init_34 ic_0 ?_
  refine n_ldcS (pc := 35) (j := 12) (tx := "dust") F (by decide) dX11_init_35 ?_
  obtain ⟨h13, e14, hf⟩ := bnd_some hf
  refine n_aast (pc := 37) (z' := zw (zw zr 0 1) 2 1) (C := "java/lang/String") F dX11_init_37 (by omega) (by omega) (by decide) rfl km_2.2 (by decide) (fun H locs _ hs9 => str_cell F hs9 (by decide)) e14 rfl zz_1 zz_2 ?_
  refine n_dup (pc := 38) F dX11_init_38 rfl ?_
  refine n_iconst (pc := 39) (v := 1) F dX11_init_39 ic_1 ?_
  refine n_ldcS (pc := 40) (j := 13) (tx := "kind") F (by decide) dX11_init_40 ?_
  obtain ⟨h15, e16, hf⟩ := bnd_some hf
  refine n_aast (pc := 42) (z' := zw (zw zr 0 1) 2 2) (C := "java/lang/String") F dX11_init_42 (by omega) (by omega) (by decide) rfl km_2.2 (by decide) (fun H locs _ hs9 => str_cell F hs9 (by decide)) e16 rfl zz_1 zz_2 ?_
  refine n_dup (pc := 43) F dX11_init_43 rfl ?_
  refine n_iconst (pc := 44) (v := 2) F dX11_init_44 ic_2 ?_
  refine n_ldcS (pc := 45) (j := 14) (tx := "owner") F (by decide) dX11_init_45 ?_
  obtain ⟨h17, e18, hf⟩ := bnd_some hf
  refine n_aast (pc := 47) (z' := zw (zw zr 0 1) 2 3) (C := "java/lang/String") F dX11_init_47 (by omega) (by omega) (by decide) rfl km_2.2 (by decide) (fun H locs _ hs9 => str_cell F hs9 (by decide)) e18 rfl zz_1 zz_2 ?_
  refine n_dup (pc := 48) F dX11_init_48 rfl ?_
  refine n_iconst (pc := 49) (v := 3) F dX11_init_49 ic_3 ?_
  refine n_ldcS (pc := 50) (j := 15) (tx := "day") F (by decide) dX11_init_50 ?_
  obtain ⟨h19, e20, hf⟩ := bnd_some hf
  refine n_aast (pc := 52) (z' := zw (zw zr 0 1) 2 4) (C := "java/lang/String") F dX11_init_52 (by omega) (by omega) (by decide) rfl km_2.2 (by decide) (fun H locs _ hs9 => str_cell F hs9 (by decide)) e20 rfl zz_1 zz_2 ?_
  refine n_dup (pc := 53) F dX11_init_53 rfl ?_
  refine n_iconst (pc := 54) (v := 4) F dX11_init_54 ic_4 ?_
  refine n_ldcS (pc := 55) (j := 16) (tx := "rich") F (by decide) dX11_init_55 ?_
  obtain ⟨h21, e22, hf⟩ := bnd_some hf
  refine n_aast (pc := 57) (z' := zw (zw zr 0 1) 2 5) (C := "java/lang/String") F dX11_init_57 (by omega) (by omega) (by decide) rfl km_2.2 (by decide) (fun H locs _ hs9 => str_cell F hs9 (by decide)) e22 rfl zz_1 zz_2 ?_
  refine n_dup (pc := 58) F dX11_init_58 rfl ?_
  refine n_iconst (pc := 59) (v := 5) F dX11_init_59 ic_5 ?_
  refine n_ldcS (pc := 60) (j := 17) (tx := "brought") F (by decide) dX11_init_60 ?_
  obtain ⟨h23, e24, hf⟩ := bnd_some hf
  refine n_aast (pc := 62) (z' := zw (zw zr 0 1) 2 6) (C := "java/lang/String") F dX11_init_62 (by omega) (by omega) (by decide) rfl km_2.2 (by decide) (fun H locs _ hs9 => str_cell F hs9 (by decide)) e24 rfl zz_1 zz_2 ?_
  obtain ⟨h25, e26, hf⟩ := bnd_some hf
  refine VN_zc (zz_full (by omega) km_2.2 (by decide)) ?_
  refine n_putF (pc := 63) F fl_X11_33 plf_10_1 dX11_init_63 (by omega) km_0.2 fv_10_1 rfl rfl (Or.inr ⟨rfl, by decide, gap_ok (by decide)⟩) e26 ?_
  refine n_aload_n (pc := 66) (j := 0) F dX11_init_66 rfl rfl ?_
  refine n_bipush (pc := 67) (v := 14) F dX11_init_67 bp_14 ?_
  obtain ⟨h27, e28, hf⟩ := bnd_some hf
  refine n_newa (pc := 69) F tw_61 dX11_init_69 km_3.2 (by omega) (by decide) (Nat.le_of_ble_eq_true rfl) (Nat.le_of_ble_eq_true rfl) ?_
  rw [nwz_eq e28]
  refine n_dup (pc := 71) F dX11_init_71 rfl ?_
  refine n_iconst (pc := 72) (v := 0) F dX11_init_72 ic_0 ?_
  refine n_iconst (pc := 73) (v := 0) F dX11_init_73 ic_0 ?_
  obtain ⟨h29, e30, hf⟩ := bnd_some hf
  refine n_iast (pc := 74) F dX11_init_74 (by omega) (by omega) km_3.2 e30 ?_
  refine n_dup (pc := 75) F dX11_init_75 rfl ?_
  refine n_iconst (pc := 76) (v := 1) F dX11_init_76 ic_1 ?_
  refine n_iconst (pc := 77) (v := 0) F dX11_init_77 ic_0 ?_
  obtain ⟨h31, e32, hf⟩ := bnd_some hf
  refine n_iast (pc := 78) F dX11_init_78 (by omega) (by omega) km_3.2 e32 ?_
  refine n_dup (pc := 79) F dX11_init_79 rfl ?_
  refine n_iconst (pc := 80) (v := 2) F dX11_init_80 ic_2 ?_
  refine n_iconst (pc := 81) (v := 0) F dX11_init_81 ic_0 ?_
  obtain ⟨h33, e34, hf⟩ := bnd_some hf
  refine n_iast (pc := 82) F dX11_init_82 (by omega) (by omega) km_3.2 e34 ?_
  refine n_dup (pc := 83) F dX11_init_83 rfl ?_
  refine n_iconst (pc := 84) (v := 3) F dX11_init_84 ic_3 ?_
  refine n_iconst (pc := 85) (v := 0) F dX11_init_85 ic_0 ?_
  obtain ⟨h35, e36, hf⟩ := bnd_some hf
  refine n_iast (pc := 86) F dX11_init_86 (by omega) (by omega) km_3.2 e36 ?_
  refine n_dup (pc := 87) F dX11_init_87 rfl ?_
  refine n_iconst (pc := 88) (v := 4) F dX11_init_88 ic_4 ?_
  refine n_bipush (pc := 89) (v := 7) F dX11_init_89 bp_7 ?_
  obtain ⟨h37, e38, hf⟩ := bnd_some hf
  refine n_iast (pc := 91) F dX11_init_91 (by omega) (by omega) km_3.2 e38 ?_
  refine n_dup (pc := 92) F dX11_init_92 rfl ?_
  refine n_iconst (pc := 93) (v := 5) F dX11_init_93 ic_5 ?_
  refine n_bipush (pc := 94) (v := 10) F dX11_init_94 bp_10 ?_
  obtain ⟨h39, e40, hf⟩ := bnd_some hf
  refine n_iast (pc := 96) F dX11_init_96 (by omega) (by omega) km_3.2 e40 ?_
  refine n_dup (pc := 97) F dX11_init_97 rfl ?_
  refine n_bipush (pc := 98) (v := 6) F dX11_init_98 bp_6 ?_
  refine n_iconst (pc := 100) (v := 0) F dX11_init_100 ic_0 ?_
  obtain ⟨h41, e42, hf⟩ := bnd_some hf
  refine n_iast (pc := 101) F dX11_init_101 (by omega) (by omega) km_3.2 e42 ?_
  refine n_dup (pc := 102) F dX11_init_102 rfl ?_
  refine n_bipush (pc := 103) (v := 7) F dX11_init_103 bp_7 ?_
  refine n_iconst (pc := 105) (v := 0) F dX11_init_105 ic_0 ?_
  obtain ⟨h43, e44, hf⟩ := bnd_some hf
  refine n_iast (pc := 106) F dX11_init_106 (by omega) (by omega) km_3.2 e44 ?_
  refine n_dup (pc := 107) F dX11_init_107 rfl ?_
  refine n_bipush (pc := 108) (v := 8) F dX11_init_108 bp_8 ?_
  refine n_iconst (pc := 110) (v := 0) F dX11_init_110 ic_0 ?_
  obtain ⟨h45, e46, hf⟩ := bnd_some hf
  refine n_iast (pc := 111) F dX11_init_111 (by omega) (by omega) km_3.2 e46 ?_
  refine n_dup (pc := 112) F dX11_init_112 rfl ?_
  refine n_bipush (pc := 113) (v := 9) F dX11_init_113 bp_9 ?_
  refine n_iconst (pc := 115) (v := 0) F dX11_init_115 ic_0 ?_
  obtain ⟨h47, e48, hf⟩ := bnd_some hf
  refine n_iast (pc := 116) F dX11_init_116 (by omega) (by omega) km_3.2 e48 ?_
  refine n_dup (pc := 117) F dX11_init_117 rfl ?_
  refine n_bipush (pc := 118) (v := 10) F dX11_init_118 bp_10 ?_
  refine n_iconst (pc := 120) (v := 0) F dX11_init_120 ic_0 ?_
  obtain ⟨h49, e50, hf⟩ := bnd_some hf
  refine n_iast (pc := 121) F dX11_init_121 (by omega) (by omega) km_3.2 e50 ?_
  refine n_dup (pc := 122) F dX11_init_122 rfl ?_
  refine n_bipush (pc := 123) (v := 11) F dX11_init_123 bp_11 ?_
  refine n_bipush (pc := 125) (v := 7) F dX11_init_125 bp_7 ?_
  obtain ⟨h51, e52, hf⟩ := bnd_some hf
  refine n_iast (pc := 127) F dX11_init_127 (by omega) (by omega) km_3.2 e52 ?_
  refine n_dup (pc := 128) F dX11_init_128 rfl ?_
  refine n_bipush (pc := 129) (v := 12) F dX11_init_129 bp_12 ?_
  refine n_bipush (pc := 131) (v := 10) F dX11_init_131 bp_10 ?_
  obtain ⟨h53, e54, hf⟩ := bnd_some hf
  refine n_iast (pc := 133) F dX11_init_133 (by omega) (by omega) km_3.2 e54 ?_
  refine n_dup (pc := 134) F dX11_init_134 rfl ?_
  refine n_bipush (pc := 135) (v := 13) F dX11_init_135 bp_13 ?_
  refine n_iconst (pc := 137) (v := 0) F dX11_init_137 ic_0 ?_
  obtain ⟨h55, e56, hf⟩ := bnd_some hf
  refine n_iast (pc := 138) F dX11_init_138 (by omega) (by omega) km_3.2 e56 ?_
  obtain ⟨h57, e58, hf⟩ := bnd_some hf
  refine n_putF (pc := 139) F fl_X11_36 plf_10_3 dX11_init_139 (by omega) km_0.2 fv_10_3 rfl rfl (Or.inr ⟨rfl, by decide, gap_ok (by decide)⟩) e58 ?_
  refine n_aload_n (pc := 142) (j := 0) F dX11_init_142 rfl rfl ?_
  refine n_bipush (pc := 143) (v := 18) F dX11_init_143 bp_18 ?_
  obtain ⟨h59, e60, hf⟩ := bnd_some hf
  refine n_newa (pc := 145) F tw_61 dX11_init_145 km_4.2 (by omega) (by decide) (Nat.le_of_ble_eq_true rfl) (Nat.le_of_ble_eq_true rfl) ?_
  rw [nwz_eq e60]
  obtain ⟨h61, e62, hf⟩ := bnd_some hf
  refine n_putF (pc := 147) F fl_X11_40 plf_10_4 dX11_init_147 (by omega) km_0.2 fv_10_4 rfl rfl (Or.inr ⟨rfl, by decide, gap_ok (by decide)⟩) e62 ?_
  refine n_aload_n (pc := 150) (j := 0) F dX11_init_150 rfl rfl ?_
  refine n_bipush (pc := 151) (v := 18) F dX11_init_151 bp_18 ?_
  obtain ⟨h63, e64, hf⟩ := bnd_some hf
  refine n_newa (pc := 153) F tw_61 dX11_init_153 km_5.2 (by omega) (by decide) (Nat.le_of_ble_eq_true rfl) (Nat.le_of_ble_eq_true rfl) ?_
  rw [nwz_eq e64]
  obtain ⟨h65, e66, hf⟩ := bnd_some hf
  refine n_putF (pc := 155) F fl_X11_42 plf_10_5 dX11_init_155 (by omega) km_0.2 fv_10_5 rfl rfl (Or.inr ⟨rfl, by decide, gap_ok (by decide)⟩) e66 ?_
  refine n_aload_n (pc := 158) (j := 0) F dX11_init_158 rfl rfl ?_
  refine n_bipush (pc := 159) (v := 18) F dX11_init_159 bp_18 ?_
  obtain ⟨h67, e68, hf⟩ := bnd_some hf
  refine n_newa (pc := 161) F tw_61 dX11_init_161 km_6.2 (by omega) (by decide) (Nat.le_of_ble_eq_true rfl) (Nat.le_of_ble_eq_true rfl) ?_
  rw [nwz_eq e68]
  obtain ⟨h69, e70, hf⟩ := bnd_some hf
  refine n_putF (pc := 163) F fl_X11_44 plf_10_6 dX11_init_163 (by omega) km_0.2 fv_10_6 rfl rfl (Or.inr ⟨rfl, by decide, gap_ok (by decide)⟩) e70 ?_
  refine n_aload_n (pc := 166) (j := 0) F dX11_init_166 rfl rfl ?_
  refine n_bipush (pc := 167) (v := 18) F dX11_init_167 bp_18 ?_
  obtain ⟨h71, e72, hf⟩ := bnd_some hf
  refine n_newa (pc := 169) F tw_61 dX11_init_169 km_7.2 (by omega) (by decide) (Nat.le_of_ble_eq_true rfl) (Nat.le_of_ble_eq_true rfl) ?_
  rw [nwz_eq e72]
  obtain ⟨h73, e74, hf⟩ := bnd_some hf
  refine n_putF (pc := 171) F fl_X11_47 plf_10_7 dX11_init_171 (by omega) km_0.2 fv_10_7 rfl rfl (Or.inr ⟨rfl, by decide, gap_ok (by decide)⟩) e74 ?_
  refine n_aload_n (pc := 174) (j := 0) F dX11_init_174 rfl rfl ?_
  refine n_bipush (pc := 175) (v := 28) F dX11_init_175 bp_28 ?_
  obtain ⟨h75, e76, hf⟩ := bnd_some hf
  refine n_newa (pc := 177) F tw_61 dX11_init_177 km_8.2 (by omega) (by decide) (Nat.le_of_ble_eq_true rfl) (Nat.le_of_ble_eq_true rfl) ?_
  rw [nwz_eq e76]
  obtain ⟨h77, e78, hf⟩ := bnd_some hf
  refine n_putF (pc := 179) F fl_X11_50 plf_10_8 dX11_init_179 (by omega) km_0.2 fv_10_8 rfl rfl (Or.inr ⟨rfl, by decide, gap_ok (by decide)⟩) e78 ?_
  refine n_aload_n (pc := 182) (j := 0) F dX11_init_182 rfl rfl ?_
  refine n_bipush (pc := 183) (v := 28) F dX11_init_183 bp_28 ?_
  obtain ⟨h79, e80, hf⟩ := bnd_some hf
  refine n_newa (pc := 185) F tw_61 dX11_init_185 km_9.2 (by omega) (by decide) (Nat.le_of_ble_eq_true rfl) (Nat.le_of_ble_eq_true rfl) ?_
  rw [nwz_eq e80]
  obtain ⟨h81, e82, hf⟩ := bnd_some hf
  refine n_putF (pc := 187) F fl_X11_53 plf_10_9 dX11_init_187 (by omega) km_0.2 fv_10_9 rfl rfl (Or.inr ⟨rfl, by decide, gap_ok (by decide)⟩) e82 ?_
  refine n_aload_n (pc := 190) (j := 0) F dX11_init_190 rfl rfl ?_
  refine n_bipush (pc := 191) (v := 28) F dX11_init_191 bp_28 ?_
  obtain ⟨h83, e84, hf⟩ := bnd_some hf
  refine n_newa (pc := 193) F tw_61 dX11_init_193 km_10.2 (by omega) (by decide) (Nat.le_of_ble_eq_true rfl) (Nat.le_of_ble_eq_true rfl) ?_
  rw [nwz_eq e84]
  obtain ⟨h85, e86, hf⟩ := bnd_some hf
  refine n_putF (pc := 195) F fl_X11_56 plf_10_10 dX11_init_195 (by omega) km_0.2 fv_10_10 rfl rfl (Or.inr ⟨rfl, by decide, gap_ok (by decide)⟩) e86 ?_
  refine n_aload_n (pc := 198) (j := 0) F dX11_init_198 rfl rfl ?_
  refine n_bipush (pc := 199) (v := 10) F dX11_init_199 bp_10 ?_
  obtain ⟨h87, e88, hf⟩ := bnd_some hf
  refine n_newa (pc := 201) F tw_61 dX11_init_201 km_11.2 (by omega) (by decide) (Nat.le_of_ble_eq_true rfl) (Nat.le_of_ble_eq_true rfl) ?_
  rw [nwz_eq e88]
  obtain ⟨h89, e90, hf⟩ := bnd_some hf
  refine n_putF (pc := 203) F fl_X11_59 plf_10_11 dX11_init_203 (by omega) km_0.2 fv_10_11 rfl rfl (Or.inr ⟨rfl, by decide, gap_ok (by decide)⟩) e90 ?_
  refine n_aload_n (pc := 206) (j := 0) F dX11_init_206 rfl rfl ?_
  refine n_bipush (pc := 207) (v := 80) F dX11_init_207 bp_80 ?_
  obtain ⟨h91, e92, hf⟩ := bnd_some hf
  refine n_newa (pc := 209) F tw_61 dX11_init_209 km_12.2 (by omega) (by decide) (Nat.le_of_ble_eq_true rfl) (Nat.le_of_ble_eq_true rfl) ?_
  rw [nwz_eq e92]
  obtain ⟨h93, e94, hf⟩ := bnd_some hf
  refine n_putF (pc := 211) F fl_X11_62 plf_10_12 dX11_init_211 (by omega) km_0.2 fv_10_12 rfl rfl (Or.inr ⟨rfl, by decide, gap_ok (by decide)⟩) e94 ?_
  refine n_aload_n (pc := 214) (j := 0) F dX11_init_214 rfl rfl ?_
  refine n_bipush (pc := 215) (v := 80) F dX11_init_215 bp_80 ?_
  obtain ⟨h95, e96, hf⟩ := bnd_some hf
  refine n_newa (pc := 217) F tw_61 dX11_init_217 km_13.2 (by omega) (by decide) (Nat.le_of_ble_eq_true rfl) (Nat.le_of_ble_eq_true rfl) ?_
  rw [nwz_eq e96]
  obtain ⟨h97, e98, hf⟩ := bnd_some hf
  refine n_putF (pc := 219) F fl_X11_65 plf_10_13 dX11_init_219 (by omega) km_0.2 fv_10_13 rfl rfl (Or.inr ⟨rfl, by decide, gap_ok (by decide)⟩) e98 ?_
  refine n_aload_n (pc := 222) (j := 0) F dX11_init_222 rfl rfl ?_
  refine n_bipush (pc := 223) (v := 80) F dX11_init_223 bp_80 ?_
  obtain ⟨h99, e100, hf⟩ := bnd_some hf
  refine n_newa (pc := 225) F tw_61 dX11_init_225 km_14.2 (by omega) (by decide) (Nat.le_of_ble_eq_true rfl) (Nat.le_of_ble_eq_true rfl) ?_
  rw [nwz_eq e100]
  obtain ⟨h101, e102, hf⟩ := bnd_some hf
  refine n_putF (pc := 227) F fl_X11_68 plf_10_14 dX11_init_227 (by omega) km_0.2 fv_10_14 rfl rfl (Or.inr ⟨rfl, by decide, gap_ok (by decide)⟩) e102 ?_
  refine n_aload_n (pc := 230) (j := 0) F dX11_init_230 rfl rfl ?_
  refine n_bipush (pc := 231) (v := 20) F dX11_init_231 bp_20 ?_
  obtain ⟨h103, e104, hf⟩ := bnd_some hf
  refine n_newa (pc := 233) F tw_61 dX11_init_233 km_15.2 (by omega) (by decide) (Nat.le_of_ble_eq_true rfl) (Nat.le_of_ble_eq_true rfl) ?_
  rw [nwz_eq e104]
  obtain ⟨h105, e106, hf⟩ := bnd_some hf
  refine n_putF (pc := 235) F fl_X11_71 plf_10_15 dX11_init_235 (by omega) km_0.2 fv_10_15 rfl rfl (Or.inr ⟨rfl, by decide, gap_ok (by decide)⟩) e106 ?_
  refine n_aload_n (pc := 238) (j := 0) F dX11_init_238 rfl rfl ?_
  refine n_sipush (pc := 239) (v := 1400) F dX11_init_239 sp_1400 ?_
  obtain ⟨h107, e108, hf⟩ := bnd_some hf
  refine n_newa (pc := 242) F tw_61 dX11_init_242 km_16.2 (by omega) (by decide) (Nat.le_of_ble_eq_true rfl) (Nat.le_of_ble_eq_true rfl) ?_
  rw [nwz_eq e108]
  obtain ⟨h109, e110, hf⟩ := bnd_some hf
  refine n_putF (pc := 244) F fl_X11_74 plf_10_16 dX11_init_244 (by omega) km_0.2 fv_10_16 rfl rfl (Or.inr ⟨rfl, by decide, gap_ok (by decide)⟩) e110 ?_
  refine n_aload_n (pc := 247) (j := 0) F dX11_init_247 rfl rfl ?_
  refine n_iconst (pc := 248) (v := 3) F dX11_init_248 ic_3 ?_
  obtain ⟨h111, e112, hf⟩ := bnd_some hf
  refine n_newa (pc := 249) F tw_61 dX11_init_249 km_17.2 (by omega) (by decide) (Nat.le_of_ble_eq_true rfl) (Nat.le_of_ble_eq_true rfl) ?_
  rw [nwz_eq e112]
  obtain ⟨h113, e114, hf⟩ := bnd_some hf
  refine n_putF (pc := 251) F fl_X11_77 plf_10_17 dX11_init_251 (by omega) km_0.2 fv_10_17 rfl rfl (Or.inr ⟨rfl, by decide, gap_ok (by decide)⟩) e114 ?_
  refine n_aload_n (pc := 254) (j := 0) F dX11_init_254 rfl rfl ?_
  refine n_sipush (pc := 255) (v := 700) F dX11_init_255 sp_700 ?_
  obtain ⟨h115, e116, hf⟩ := bnd_some hf
  refine n_newa (pc := 258) F tw_61 dX11_init_258 km_18.2 (by omega) (by decide) (Nat.le_of_ble_eq_true rfl) (Nat.le_of_ble_eq_true rfl) ?_
  rw [nwz_eq e116]
  obtain ⟨h117, e118, hf⟩ := bnd_some hf
  refine n_putF (pc := 260) F fl_X11_80 plf_10_18 dX11_init_260 (by omega) km_0.2 fv_10_18 rfl rfl (Or.inr ⟨rfl, by decide, gap_ok (by decide)⟩) e118 ?_
  refine n_aload_n (pc := 263) (j := 0) F dX11_init_263 rfl rfl ?_
  refine n_iconst (pc := 264) (v := (-1)) F dX11_init_264 ic_m1 ?_
  obtain ⟨h119, e120, hf⟩ := bnd_some hf
  refine n_putM (pc := 265) F fl_X11_83 pl_10_28 dX11_init_265 (by omega) km_0.2 fv_10_28 rfl rfl (Or.inl ⟨rfl, rfl⟩) e120 ?_
  refine n_aload_n (pc := 268) (j := 0) F dX11_init_268 rfl rfl ?_
  refine n_bipush (pc := 269) (v := 9) F dX11_init_269 bp_9 ?_
  obtain ⟨h121, e122, hf⟩ := bnd_some hf
  refine n_newa (pc := 271) F tw_61 dX11_init_271 km_19.2 (by omega) (by decide) (Nat.le_of_ble_eq_true rfl) (Nat.le_of_ble_eq_true rfl) ?_
  rw [nwz_eq e122]
  obtain ⟨h123, e124, hf⟩ := bnd_some hf
  refine n_putF (pc := 273) F fl_X11_87 plf_10_29 dX11_init_273 (by omega) km_0.2 fv_10_29 rfl rfl (Or.inr ⟨rfl, by decide, gap_ok (by decide)⟩) e124 ?_
  refine n_aload_n (pc := 276) (j := 0) F dX11_init_276 rfl rfl ?_
  refine n_bipush (pc := 277) (v := 9) F dX11_init_277 bp_9 ?_
  obtain ⟨h125, e126, hf⟩ := bnd_some hf
  refine n_newa (pc := 279) F tw_61 dX11_init_279 km_20.2 (by omega) (by decide) (Nat.le_of_ble_eq_true rfl) (Nat.le_of_ble_eq_true rfl) ?_
  rw [nwz_eq e126]
  obtain ⟨h127, e128, hf⟩ := bnd_some hf
  refine n_putF (pc := 281) F fl_X11_89 plf_10_30 dX11_init_281 (by omega) km_0.2 fv_10_30 rfl rfl (Or.inr ⟨rfl, by decide, gap_ok (by decide)⟩) e128 ?_
  refine n_aload_n (pc := 284) (j := 0) F dX11_init_284 rfl rfl ?_
  refine n_bipush (pc := 285) (v := 10) F dX11_init_285 bp_10 ?_
  obtain ⟨h129, e130, hf⟩ := bnd_some hf
  refine n_newa (pc := 287) F tw_61 dX11_init_287 km_21.2 (by omega) (by decide) (Nat.le_of_ble_eq_true rfl) (Nat.le_of_ble_eq_true rfl) ?_
  rw [nwz_eq e130]
  obtain ⟨h131, e132, hf⟩ := bnd_some hf
  refine n_putF (pc := 289) F fl_X11_91 plf_10_31 dX11_init_289 (by omega) km_0.2 fv_10_31 rfl rfl (Or.inr ⟨rfl, by decide, gap_ok (by decide)⟩) e132 ?_
  refine n_aload_n (pc := 292) (j := 0) F dX11_init_292 rfl rfl ?_
  refine n_sipush (pc := 293) (v := 1240) F dX11_init_293 sp_1240 ?_
  obtain ⟨h133, e134, hf⟩ := bnd_some hf
  refine n_newa (pc := 296) F tw_61 dX11_init_296 km_22.2 (by omega) (by decide) (Nat.le_of_ble_eq_true rfl) (Nat.le_of_ble_eq_true rfl) ?_
  rw [nwz_eq e134]
  obtain ⟨h135, e136, hf⟩ := bnd_some hf
  refine n_putF (pc := 298) F fl_X11_94 plf_10_32 dX11_init_298 (by omega) km_0.2 fv_10_32 rfl rfl (Or.inr ⟨rfl, by decide, gap_ok (by decide)⟩) e136 ?_
  refine n_aload_n (pc := 301) (j := 0) F dX11_init_301 rfl rfl ?_
  refine n_bipush (pc := 302) (v := 6) F dX11_init_302 bp_6 ?_
  obtain ⟨h137, e138, hf⟩ := bnd_some hf
  refine n_newa (pc := 304) F tw_61 dX11_init_304 km_23.2 (by omega) (by decide) (Nat.le_of_ble_eq_true rfl) (Nat.le_of_ble_eq_true rfl) ?_
  rw [nwz_eq e138]
  obtain ⟨h139, e140, hf⟩ := bnd_some hf
  refine n_putF (pc := 306) F fl_X11_97 plf_10_38 dX11_init_306 (by omega) km_0.2 fv_10_38 rfl rfl (Or.inr ⟨rfl, by decide, gap_ok (by decide)⟩) e140 ?_
  refine n_aload_n (pc := 309) (j := 0) F dX11_init_309 rfl rfl ?_
  refine n_bipush (pc := 310) (v := 64) F dX11_init_310 bp_64 ?_
  obtain ⟨h141, e142, hf⟩ := bnd_some hf
  refine n_newa (pc := 312) F tw_61 dX11_init_312 km_24.2 (by omega) (by decide) (Nat.le_of_ble_eq_true rfl) (Nat.le_of_ble_eq_true rfl) ?_
  rw [nwz_eq e142]
  obtain ⟨h143, e144, hf⟩ := bnd_some hf
  refine n_putF (pc := 314) F fl_X11_100 plf_10_39 dX11_init_314 (by omega) km_0.2 fv_10_39 rfl rfl (Or.inr ⟨rfl, by decide, gap_ok (by decide)⟩) e144 ?_
  refine n_aload_n (pc := 317) (j := 0) F dX11_init_317 rfl rfl ?_
  refine n_bipush (pc := 318) (v := 9) F dX11_init_318 bp_9 ?_
  obtain ⟨h145, e146, hf⟩ := bnd_some hf
  refine n_newa (pc := 320) F tw_61 dX11_init_320 km_25.2 (by omega) (by decide) (Nat.le_of_ble_eq_true rfl) (Nat.le_of_ble_eq_true rfl) ?_
  rw [nwz_eq e146]
  obtain ⟨h147, e148, hf⟩ := bnd_some hf
  refine n_putF (pc := 322) F fl_X11_103 plf_10_40 dX11_init_322 (by omega) km_0.2 fv_10_40 rfl rfl (Or.inr ⟨rfl, by decide, gap_ok (by decide)⟩) e148 ?_
  refine n_aload_n (pc := 325) (j := 0) F dX11_init_325 rfl rfl ?_
  refine n_bipush (pc := 326) (v := 81) F dX11_init_326 bp_81 ?_
  obtain ⟨h149, e150, hf⟩ := bnd_some hf
  refine n_newa (pc := 328) F tw_61 dX11_init_328 km_26.2 (by omega) (by decide) (Nat.le_of_ble_eq_true rfl) (Nat.le_of_ble_eq_true rfl) ?_
  rw [nwz_eq e150]
  obtain ⟨h151, e152, hf⟩ := bnd_some hf
  refine n_putF (pc := 330) F fl_X11_106 plf_10_41 dX11_init_330 (by omega) km_0.2 fv_10_41 rfl rfl (Or.inr ⟨rfl, by decide, gap_ok (by decide)⟩) e152 ?_
  refine n_aload_n (pc := 333) (j := 0) F dX11_init_333 rfl rfl ?_
  refine n_bipush (pc := 334) (v := 31) F dX11_init_334 bp_31 ?_
  obtain ⟨h153, e154, hf⟩ := bnd_some hf
  refine n_newa (pc := 336) F tw_61 dX11_init_336 km_27.2 (by omega) (by decide) (Nat.le_of_ble_eq_true rfl) (Nat.le_of_ble_eq_true rfl) ?_
  rw [nwz_eq e154]
  obtain ⟨h155, e156, hf⟩ := bnd_some hf
  refine n_putF (pc := 338) F fl_X11_109 plf_10_42 dX11_init_338 (by omega) km_0.2 fv_10_42 rfl rfl (Or.inr ⟨rfl, by decide, gap_ok (by decide)⟩) e156 ?_
  refine n_aload_n (pc := 341) (j := 0) F dX11_init_341 rfl rfl ?_
  refine n_iconst (pc := 342) (v := 5) F dX11_init_342 ic_5 ?_
  obtain ⟨h157, e158, hf⟩ := bnd_some hf
  refine n_newa (pc := 343) F tw_61 dX11_init_343 km_28.2 (by omega) (by decide) (Nat.le_of_ble_eq_true rfl) (Nat.le_of_ble_eq_true rfl) ?_
  rw [nwz_eq e158]
  obtain ⟨h159, e160, hf⟩ := bnd_some hf
  refine n_putF (pc := 345) F fl_X11_112 plf_10_43 dX11_init_345 (by omega) km_0.2 fv_10_43 rfl rfl (Or.inr ⟨rfl, by decide, gap_ok (by decide)⟩) e160 ?_
  refine n_aload_n (pc := 348) (j := 0) F dX11_init_348 rfl rfl ?_
  refine n_iconst (pc := 349) (v := 5) F dX11_init_349 ic_5 ?_
  obtain ⟨h161, e162, hf⟩ := bnd_some hf
  refine n_newa (pc := 350) F tw_61 dX11_init_350 km_29.2 (by omega) (by decide) (Nat.le_of_ble_eq_true rfl) (Nat.le_of_ble_eq_true rfl) ?_
  rw [nwz_eq e162]
  obtain ⟨h163, e164, hf⟩ := bnd_some hf
  refine n_putF (pc := 352) F fl_X11_115 plf_10_44 dX11_init_352 (by omega) km_0.2 fv_10_44 rfl rfl (Or.inr ⟨rfl, by decide, gap_ok (by decide)⟩) e164 ?_
  refine n_aload_n (pc := 355) (j := 0) F dX11_init_355 rfl rfl ?_
  refine n_sipush (pc := 356) (v := 4608) F dX11_init_356 sp_4608 ?_
  obtain ⟨h165, e166, hf⟩ := bnd_some hf
  refine n_newa (pc := 359) F tw_61 dX11_init_359 km_30.2 (by omega) (by decide) (Nat.le_of_ble_eq_true rfl) (Nat.le_of_ble_eq_true rfl) ?_
  rw [nwz_eq e166]
  obtain ⟨h167, e168, hf⟩ := bnd_some hf
  refine n_putF (pc := 361) F fl_X11_118 plf_10_46 dX11_init_361 (by omega) km_0.2 fv_10_46 rfl rfl (Or.inr ⟨rfl, by decide, gap_ok (by decide)⟩) e168 ?_
  refine n_aload_n (pc := 364) (j := 0) F dX11_init_364 rfl rfl ?_
  refine n_iconst (pc := 365) (v := 4) F dX11_init_365 ic_4 ?_
  obtain ⟨h169, e170, hf⟩ := bnd_some hf
  refine n_newa (pc := 366) F tw_61 dX11_init_366 km_31.2 (by omega) (by decide) (Nat.le_of_ble_eq_true rfl) (Nat.le_of_ble_eq_true rfl) ?_
  rw [nwz_eq e170]
  obtain ⟨h171, e172, hf⟩ := bnd_some hf
  refine n_putF (pc := 368) F fl_X11_121 plf_10_47 dX11_init_368 (by omega) km_0.2 fv_10_47 rfl rfl (Or.inr ⟨rfl, by decide, gap_ok (by decide)⟩) e172 ?_
  refine n_aload_n (pc := 371) (j := 0) F dX11_init_371 rfl rfl ?_
  refine n_bipush (pc := 372) (v := 9) F dX11_init_372 bp_9 ?_
  obtain ⟨h173, e174, hf⟩ := bnd_some hf
  refine n_newa (pc := 374) F tw_61 dX11_init_374 km_32.2 (by omega) (by decide) (Nat.le_of_ble_eq_true rfl) (Nat.le_of_ble_eq_true rfl) ?_
  rw [nwz_eq e174]
  obtain ⟨h175, e176, hf⟩ := bnd_some hf
  refine n_putF (pc := 376) F fl_X11_124 plf_10_48 dX11_init_376 (by omega) km_0.2 fv_10_48 rfl rfl (Or.inr ⟨rfl, by decide, gap_ok (by decide)⟩) e176 ?_
  refine n_aload_n (pc := 379) (j := 0) F dX11_init_379 rfl rfl ?_
  refine n_bipush (pc := 380) (v := 8) F dX11_init_380 bp_8 ?_
  obtain ⟨h177, e178, hf⟩ := bnd_some hf
  refine n_newa (pc := 382) F tw_61 dX11_init_382 km_33.2 (by omega) (by decide) (Nat.le_of_ble_eq_true rfl) (Nat.le_of_ble_eq_true rfl) ?_
  rw [nwz_eq e178]
  obtain ⟨h179, e180, hf⟩ := bnd_some hf
  refine n_putF (pc := 384) F fl_X11_127 plf_10_49 dX11_init_384 (by omega) km_0.2 fv_10_49 rfl rfl (Or.inr ⟨rfl, by decide, gap_ok (by decide)⟩) e180 ?_
  refine n_aload_n (pc := 387) (j := 0) F dX11_init_387 rfl rfl ?_
  refine n_bipush (pc := 388) (v := 8) F dX11_init_388 bp_8 ?_
  obtain ⟨h181, e182, hf⟩ := bnd_some hf
  refine n_newa (pc := 390) F tw_61 dX11_init_390 km_34.2 (by omega) (by decide) (Nat.le_of_ble_eq_true rfl) (Nat.le_of_ble_eq_true rfl) ?_
  rw [nwz_eq e182]
  obtain ⟨h183, e184, hf⟩ := bnd_some hf
  refine n_putF (pc := 392) F fl_X11_130 plf_10_50 dX11_init_392 (by omega) km_0.2 fv_10_50 rfl rfl (Or.inr ⟨rfl, by decide, gap_ok (by decide)⟩) e184 ?_
  refine n_aload_n (pc := 395) (j := 0) F dX11_init_395 rfl rfl ?_
  refine n_bipush (pc := 396) (v := 8) F dX11_init_396 bp_8 ?_
  obtain ⟨h185, e186, hf⟩ := bnd_some hf
  refine n_newa (pc := 398) F tw_61 dX11_init_398 km_35.2 (by omega) (by decide) (Nat.le_of_ble_eq_true rfl) (Nat.le_of_ble_eq_true rfl) ?_
  rw [nwz_eq e186]
  obtain ⟨h187, e188, hf⟩ := bnd_some hf
  refine n_putF (pc := 400) F fl_X11_133 plf_10_51 dX11_init_400 (by omega) km_0.2 fv_10_51 rfl rfl (Or.inr ⟨rfl, by decide, gap_ok (by decide)⟩) e188 ?_
  refine n_aload_n (pc := 403) (j := 0) F dX11_init_403 rfl rfl ?_
  refine n_bipush (pc := 404) (v := 31) F dX11_init_404 bp_31 ?_
  obtain ⟨h189, e190, hf⟩ := bnd_some hf
  refine n_newa (pc := 406) F tw_61 dX11_init_406 km_36.2 (by omega) (by decide) (Nat.le_of_ble_eq_true rfl) (Nat.le_of_ble_eq_true rfl) ?_
  rw [nwz_eq e190]
  obtain ⟨h191, e192, hf⟩ := bnd_some hf
  refine n_putF (pc := 408) F fl_X11_136 plf_10_52 dX11_init_408 (by omega) km_0.2 fv_10_52 rfl rfl (Or.inr ⟨rfl, by decide, gap_ok (by decide)⟩) e192 ?_
  refine n_aload_n (pc := 411) (j := 0) F dX11_init_411 rfl rfl ?_
  refine n_bipush (pc := 412) (v := 31) F dX11_init_412 bp_31 ?_
  obtain ⟨h193, e194, hf⟩ := bnd_some hf
  refine n_newa (pc := 414) F tw_61 dX11_init_414 km_37.2 (by omega) (by decide) (Nat.le_of_ble_eq_true rfl) (Nat.le_of_ble_eq_true rfl) ?_
  rw [nwz_eq e194]
  obtain ⟨h195, e196, hf⟩ := bnd_some hf
  refine n_putF (pc := 416) F fl_X11_139 plf_10_57 dX11_init_416 (by omega) km_0.2 fv_10_57 rfl rfl (Or.inr ⟨rfl, by decide, gap_ok (by decide)⟩) e196 ?_
  refine n_aload_n (pc := 419) (j := 0) F dX11_init_419 rfl rfl ?_
  refine n_sipush (pc := 420) (v := 1240) F dX11_init_420 sp_1240 ?_
  obtain ⟨h197, e198, hf⟩ := bnd_some hf
  refine n_newa (pc := 423) F tw_61 dX11_init_423 km_38.2 (by omega) (by decide) (Nat.le_of_ble_eq_true rfl) (Nat.le_of_ble_eq_true rfl) ?_
  rw [nwz_eq e198]
  obtain ⟨h199, e200, hf⟩ := bnd_some hf
  refine n_putF (pc := 425) F fl_X11_142 plf_10_58 dX11_init_425 (by omega) km_0.2 fv_10_58 rfl rfl (Or.inr ⟨rfl, by decide, gap_ok (by decide)⟩) e200 ?_
  refine n_aload_n (pc := 428) (j := 0) F dX11_init_428 rfl rfl ?_
  refine n_bipush (pc := 429) (v := 8) F dX11_init_429 bp_8 ?_
  obtain ⟨h201, e202, hf⟩ := bnd_some hf
  refine n_newa (pc := 431) F tw_61 dX11_init_431 km_39.2 (by omega) (by decide) (Nat.le_of_ble_eq_true rfl) (Nat.le_of_ble_eq_true rfl) ?_
  rw [nwz_eq e202]
  obtain ⟨h203, e204, hf⟩ := bnd_some hf
  refine n_putF (pc := 433) F fl_X11_145 plf_10_59 dX11_init_433 (by omega) km_0.2 fv_10_59 rfl rfl (Or.inr ⟨rfl, by decide, gap_ok (by decide)⟩) e204 ?_
  refine n_aload_n (pc := 436) (j := 0) F dX11_init_436 rfl rfl ?_
  refine n_bipush (pc := 437) (v := 8) F dX11_init_437 bp_8 ?_
  obtain ⟨h205, e206, hf⟩ := bnd_some hf
  refine n_newa (pc := 439) F tw_61 dX11_init_439 km_40.2 (by omega) (by decide) (Nat.le_of_ble_eq_true rfl) (Nat.le_of_ble_eq_true rfl) ?_
  rw [nwz_eq e206]
  obtain ⟨h207, e208, hf⟩ := bnd_some hf
  refine n_putF (pc := 441) F fl_X11_148 plf_10_60 dX11_init_441 (by omega) km_0.2 fv_10_60 rfl rfl (Or.inr ⟨rfl, by decide, gap_ok (by decide)⟩) e208 ?_
  refine n_aload_n (pc := 444) (j := 0) F dX11_init_444 rfl rfl ?_
  refine n_bipush (pc := 445) (v := 8) F dX11_init_445 bp_8 ?_
  obtain ⟨h209, e210, hf⟩ := bnd_some hf
  refine n_newa (pc := 447) F tw_61 dX11_init_447 km_41.2 (by omega) (by decide) (Nat.le_of_ble_eq_true rfl) (Nat.le_of_ble_eq_true rfl) ?_
  rw [nwz_eq e210]
  obtain ⟨h211, e212, hf⟩ := bnd_some hf
  refine n_putF (pc := 449) F fl_X11_151 plf_10_61 dX11_init_449 (by omega) km_0.2 fv_10_61 rfl rfl (Or.inr ⟨rfl, by decide, gap_ok (by decide)⟩) e212 ?_
  refine n_aload_n (pc := 452) (j := 0) F dX11_init_452 rfl rfl ?_
  refine n_iconst (pc := 453) (v := 3) F dX11_init_453 ic_3 ?_
  obtain ⟨h213, e214, hf⟩ := bnd_some hf
  refine n_newa (pc := 454) F tw_61 dX11_init_454 km_42.2 (by omega) (by decide) (Nat.le_of_ble_eq_true rfl) (Nat.le_of_ble_eq_true rfl) ?_
  rw [nwz_eq e214]
  obtain ⟨h215, e216, hf⟩ := bnd_some hf
  refine n_putF (pc := 456) F fl_X11_154 plf_10_62 dX11_init_456 (by omega) km_0.2 fv_10_62 rfl rfl (Or.inr ⟨rfl, by decide, gap_ok (by decide)⟩) e216 ?_
  exact n_vret (pc := 459) F hr dX11_init_459 (by omega) (Option.some.inj hf) (Nat.le_refl _) (Nat.le_refl _) (end_ok km_0.2 (by decide))
