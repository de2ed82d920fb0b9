/-! ===== parish: a parish that was read stands ===== -/
def RW (y t : ST) : Prop := ∀ i k, 3 ≤ i → i ≤ 16 → k < hfz i → y i k = t i (hfz i + k)
section RWs
variable {y t : ST}
theorem RW.w3 (e : RW y t) {k : Nat} (h : k < 7) : y 3 k = t 3 (7 + k) := e 3 k (by decide) (by decide) h
theorem RW.w4 (e : RW y t) {k : Nat} (h : k < 9) : y 4 k = t 4 (9 + k) := e 4 k (by decide) (by decide) h
theorem RW.w5 (e : RW y t) {k : Nat} (h : k < 9) : y 5 k = t 5 (9 + k) := e 5 k (by decide) (by decide) h
theorem RW.w6 (e : RW y t) {k : Nat} (h : k < 9) : y 6 k = t 6 (9 + k) := e 6 k (by decide) (by decide) h
theorem RW.w7 (e : RW y t) {k : Nat} (h : k < 9) : y 7 k = t 7 (9 + k) := e 7 k (by decide) (by decide) h
theorem RW.w8 (e : RW y t) {k : Nat} (h : k < 14) : y 8 k = t 8 (14 + k) := e 8 k (by decide) (by decide) h
theorem RW.w9 (e : RW y t) {k : Nat} (h : k < 14) : y 9 k = t 9 (14 + k) := e 9 k (by decide) (by decide) h
theorem RW.w10 (e : RW y t) {k : Nat} (h : k < 14) : y 10 k = t 10 (14 + k) := e 10 k (by decide) (by decide) h
theorem RW.w11 (e : RW y t) {k : Nat} (h : k < 5) : y 11 k = t 11 (5 + k) := e 11 k (by decide) (by decide) h
theorem RW.w12 (e : RW y t) {k : Nat} (h : k < 40) : y 12 k = t 12 (40 + k) := e 12 k (by decide) (by decide) h
theorem RW.w13 (e : RW y t) {k : Nat} (h : k < 40) : y 13 k = t 13 (40 + k) := e 13 k (by decide) (by decide) h
theorem RW.w14 (e : RW y t) {k : Nat} (h : k < 40) : y 14 k = t 14 (40 + k) := e 14 k (by decide) (by decide) h
theorem RW.w15 (e : RW y t) {k : Nat} (h : k < 10) : y 15 k = t 15 (10 + k) := e 15 k (by decide) (by decide) h
theorem RW.w16 (e : RW y t) {k : Nat} (h : k < 700) : y 16 k = t 16 (700 + k) := e 16 k (by decide) (by decide) h
theorem RW.door (e : RW y t) : ∀ d, d ≤ 14 → wdM y d = wdC t d
  | 0, _ => rfl
  | d + 1, hd => by
    unfold wdM wdC
    rw [RW.door e d (by omega), e.w8 (by omega), e.w9 (by omega), e.w10 (by omega)]
theorem RW.rule (e : RW y t) (vals : Nat → Int32) : ∀ i, i ≤ 700 → rn y vals i = rnS (t 16) vals i
  | 0, _ => rfl
  | i + 1, hi => by
    unfold rn rnS
    rw [RW.rule e vals i (by omega), e.w16 (by omega)]
    cases rnS (t 16) vals i <;> rfl
theorem RW.fb (e : RW y t) (cs : CS y) {g : Nat} {h : ST} {nr nd nw nc nz : Nat} (H : HF g h t nr nd nw nc nz) : (nR y = nr ∧ nDo y = nd ∧ nW y = nw ∧ nC y = nc ∧ nZ y = nz) ∧ FB y := by
  obtain ⟨⟨⟨n1, n2, n3, n4, n5⟩, ⟨a1, a2⟩, ⟨a3, a4⟩, ⟨a5, a6⟩, ⟨a7, a8⟩, ⟨ev, v1, v2, a9, -⟩, ⟨cl, l1, a10, -⟩, ⟨a11, a12⟩⟩, hr, hd, hw, hc, hz⟩ := H
  have t0 : y 3 0 = nI nr := (e.w3 (by decide)).trans a1
  have t1 : y 3 1 = nI nd := (e.w3 (by decide)).trans a3
  have t2 : y 3 2 = nI nw := (e.w3 (by decide)).trans a5
  have t3 : y 3 3 = nI nc := (e.w3 (by decide)).trans a7
  have t4 : y 3 4 = nI ev := (e.w3 (by decide)).trans a9
  have t5 : y 3 5 = nI cl := (e.w3 (by decide)).trans a10
  have t6 : y 3 6 = nI nz := (e.w3 (by decide)).trans a11
  have eR : nR y = nr := by unfold nR; rw [t0, nI_clamp (by omega)]
  have eD : nDo y = nd := by unfold nDo; rw [t1, nI_clamp (by omega)]
  have eW : nW y = nw := by unfold nW; rw [t2, nI_clamp (by omega)]
  have eC : nC y = nc := by unfold nC; rw [t3, nI_clamp (by omega)]
  have eZ : nZ y = nz := by unfold nZ; rw [t6, nI_clamp (by omega)]
  refine ⟨⟨eR, eD, eW, eC, eZ⟩, ?_⟩
  unfold FB
  rw [eR, eD, eW, eC, eZ]
  refine ⟨⟨t0, n1, t1, n2, t2, n3, t3, n4⟩, ⟨⟨ev, v1, v2, t4⟩, ⟨cl, l1, t5⟩, t6, n5⟩, fun r hr' => ?_, fun i hi => ?_, fun w hw' => ?_, ?_, cs⟩
  · obtain ⟨k, o, d, v, ⟨k2, o5, d9, v9⟩, ⟨x1, -⟩, ⟨x2, -⟩, -, ⟨x4, -⟩⟩ := hr r hr'
    rw [e.w4 (by omega), e.w5 (by omega), e.w7 (by omega), x1, x2, x4]
    refine ⟨?_, ⟨o, by omega, rfl⟩, ⟨v, v9, rfl⟩⟩
    have : k = 0 ∨ k = 1 ∨ k = 2 := by omega
    rcases this with rfl | rfl | rfl
    · exact Or.inl rfl
    · exact Or.inr (Or.inl rfl)
    · exact Or.inr (Or.inr rfl)
  · obtain ⟨a, b, s, ⟨x1, x2, x3, x4, x5⟩, ⟨y1, -⟩, ⟨y2, -⟩, y3⟩ := hd.1 i hi
    rw [e.w8 (by omega), e.w9 (by omega), e.w10 (by omega), y1, y2, y3]
    exact ⟨a, b, s, x1, x2, x3, x4, x5, rfl, rfl, rfl⟩
  · obtain ⟨k, k8, ⟨x1, -⟩, x2⟩ := hw w hw'
    refine ⟨k, k8, by rw [e.w11 (by omega)]; exact x1, fun j hj => ?_⟩
    obtain ⟨a, b, s, ⟨y1, y2, y3, y4⟩, ⟨z1, -⟩, ⟨z2, -⟩, ⟨z3, -⟩⟩ := x2 j hj
    rw [e.w12 (by omega), e.w13 (by omega), e.w14 (by omega), z1, z2, z3]
    exact ⟨a, b, s, y1, y2, y3, y4, rfl, rfl, rfl⟩
  · rcases hz.2 with z | z
    · exact Or.inl z
    · refine Or.inr (fun vals => ?_)
      rw [e.rule vals nz n5]; exact z vals
end RWs
theorem beginC {h : ST} {g : Nat} (hg : g = 2 ∨ g = 20) : ∃ z, fX3_begin h 42 g = some z ∧ (z 43 0 = 0 ∧ z 43 1 = 0 ∧ z 43 2 = 0) ∧ (∀ r, r < 9 → z 44 r = h (g + 3) r ∧ z 45 r = 0) ∧ (∀ i, i < 10 → z 46 i = h (g + 11) i) ∧ z 47 0 = 0 ∧ z 47 1 = h 47 1 ∧ z 209 0 = 0 ∧ Fr [43, 44, 45, 46, 47, 209] h z := by
  obtain ⟨a, ea⟩ : ∃ a, a = up2 (up2 (up2 h 43 0 0) 43 1 0) 43 2 0 := ⟨_, rfl⟩
  obtain ⟨b, eb⟩ : ∃ b, b = upR a 44 (cpy 9 (a (g + 3)) (a 44)) := ⟨_, rfl⟩
  obtain ⟨c, c1, c2, c3⟩ := fillJ (h := b) (o := 45) (n := 9) (by decide) 0
  obtain ⟨d, ed⟩ : ∃ d, d = upR c 46 (cpy 10 (c (g + 11)) (c 46)) := ⟨_, rfl⟩
  have ak : ∀ i, i ≠ 43 → a i = h i := fun i hi => by rw [ea, up2_n hi, up2_n hi, up2_n hi]
  have bk : ∀ i, i ≠ 43 → i ≠ 44 → b i = h i := fun i x y => by rw [eb, upR_n y, ak i x]
  have ck : ∀ i, i ≠ 43 → i ≠ 44 → i ≠ 45 → c i = h i := fun i x y z => by rw [c3 i (by simp only [List.mem_cons, List.not_mem_nil, or_false]; omega), bk i x y]
  have dk : ∀ i, i ≠ 43 → i ≠ 44 → i ≠ 45 → i ≠ 46 → d i = h i := fun i x y z w => by rw [ed, upR_n w, ck i x y z]
  have d43 : d 43 = a 43 := by rw [ed, upR_n (by decide), c3 43 (by decide), eb, upR_n (by decide)]
  refine ⟨up2 (up2 d 47 0 0) 209 0 0, ?_, ⟨?_, ?_, ?_⟩, fun r hr => ⟨?_, ?_⟩, fun i hi => ?_, ?_, ?_, up2_ss _ _ _ _, fun i hi => ?_⟩
  · unfold fX3_begin fX8_begin
    rw [pw_s, bnd_s, pw_s, bnd_s, pw_s, bnd_s]
    show bnd (bnd (acp 9 9 (up2 (up2 (up2 h 43 0 0) 43 1 0) 43 2 0) (g + 3) 44 0 0 9) _) _ = _
    rw [← ea, acp_9 (by omega), ← eb, bnd_s]
    show bnd (bnd (fJ7_fill_53178 b 45 9 0) _) _ = _
    rw [c1, bnd_s]
    show bnd (bnd (acp 10 10 c (g + 11) 46 0 0 10) _) _ = _
    rw [acp_10 (by omega), ← ed, bnd_s, bnd_s]
    rfl
  · rw [up2_n (by decide), up2_n (by decide), d43, ea, up2_sn (by decide), up2_sn (by decide), up2_ss]
  · rw [up2_n (by decide), up2_n (by decide), d43, ea, up2_sn (by decide), up2_ss]
  · rw [up2_n (by decide), up2_n (by decide), d43, ea, up2_ss]
  · rw [up2_n (by decide), up2_n (by decide), ed, upR_n (by decide), c3 44 (by decide), eb, upR_s, cpy_in hr, ak _ (by omega)]
  · rw [up2_n (by decide), up2_n (by decide), ed, upR_n (by decide)]; exact c2 r hr
  · rw [up2_n (by decide), up2_n (by decide), ed, upR_s, cpy_in hi, ck _ (by omega) (by omega) (by omega)]
  · rw [up2_n (by decide), up2_ss]
  · rw [up2_n (by decide), up2_sn (by decide), dk 47 (by decide) (by decide) (by decide) (by decide)]
  · simp only [List.mem_cons, List.not_mem_nil, or_false, not_or] at hi
    rw [up2_n hi.2.2.2.2.2, up2_n hi.2.2.2.2.1, dk i hi.1 hi.2.1 hi.2.2.1 hi.2.2.2.1]
theorem toldX {f : Nat} {M : ST} {A : AS} {hc hm h t : ST} (hJ : J f M A hc hm) (hJ2 : J2 f M hc hm) (K : KG (22 - f) (up2 hc 0 1 0) h) {nr nd nw nc nz : Nat} (H : HF (22 - f) h t nr nd nw nc nz) (cs : CS t) (t17 : t 17 = hm 17) (t2 : t 0 2 = 0) (t19 : t 0 19 = 0) (t28 : t 0 28 = -1) :
    ∃ hc' hm', (bnd (pw h 0 2 (-1)) fun h10 => bnd (rf KC 395 1 (h10 0 3)) fun f12 => bnd (rf KC 395 1 (h10 0 4)) fun f14 => bnd (pw h10 0 3 (Int32.ofNat f14)) fun h16 => bnd (pw h16 0 4 (Int32.ofNat f12)) fun h18 => bnd (rf KC 395 1 (h18 0 3)) fun f20 => bnd (fX2_measure h18 f20) fun r22 => bnd (rf KC 395 1 (r22 0 3)) fun f24 => bnd (fX3_begin r22 42 f24) fun r26 => bnd (pw r26 0 8 0) fun h28 => some ((Sum.inl 0 : Int32 ⊕ Nat), h28)) = some (.inl 0, hc') ∧ fX11_takeOver t = some hm' ∧ hm' 0 2 = 0 ∧ Inv hc' hm' := by
  obtain ⟨hf, h0, hB, hF, hCF, hR, hR1, hA⟩ := id hJ
  obtain ⟨k1, k2, k3, k4, k5, k6, k7, k8, k9⟩ := id hJ2
  obtain ⟨g, eg⟩ : ∃ g, g = 22 - f := ⟨_, rfl⟩
  rw [← eg] at K H
  have hg : g = 2 ∨ g = 20 := by omega
  have gf : 22 - g = f := by omega
  obtain ⟨⟨⟨n1, n2, n3, n4, n5⟩, ⟨a1, a2⟩, ⟨a3, a4⟩, ⟨a5, a6⟩, ⟨a7, a8⟩, a9, a10, ⟨a11, a12⟩⟩, hr, hd, hw, hcc, hz⟩ := id H
  obtain ⟨y, y1, y2, y3, y4, ⟨y33, y34, y35, y36, y37, y54⟩, y5, y6⟩ := takeOverX n1 a1
  have rw' : RW y t := y2
  have csy : CS y := by unfold CS; rw [y6 1 (by decide), y6 2 (by decide)]; exact cs
  obtain ⟨⟨eR, eD, eW, eC, eZ⟩, FBy⟩ := rw'.fb csy H
  have h00 : h 0 = up2 hc 0 1 0 0 := K 0 (by omega) (by omega)
  have h03 : h 0 3 = nI f := by rw [h00, up2_sn (by decide)]; exact h0
  have h04 : h 0 4 = nI g := by rw [h00, up2_sn (by decide), k1, ← eg]
  obtain ⟨b, eb⟩ : ∃ b, b = up2 (up2 (up2 h 0 2 (-1)) 0 3 (Int32.ofNat g)) 0 4 (Int32.ofNat f) := ⟨_, rfl⟩
  have bk : ∀ i, i ≠ 0 → b i = h i := fun i hi => by rw [eb, up2_n hi, up2_n hi, up2_n hi]
  have b3 : b 0 3 = nI g := by rw [eb, up2_sn (by decide), up2_ss]; rfl
  obtain ⟨m, m1, m2, m3, m4⟩ := measureX (g := g) (h := b) FBy (by rw [bk g (by omega), a2, FBy.1.1, eR]) (fun r hr' => by
    rw [eR] at hr'
    obtain ⟨k, o, d, v, -, -, ⟨x2, x3⟩, -⟩ := hr r hr'
    rw [bk _ (by omega), rw'.w5 (by omega), x2, x3]) (by rw [bk _ (by omega), eD, rw'.door nd (by omega)]; exact hd.2)
  have mk : ∀ i, i ≠ g + 16 → i ≠ g + 17 → m i = b i := fun i x z => m4 i (by simp only [List.mem_cons, List.not_mem_nil, or_false]; omega)
  have m03 : m 0 3 = nI g := by rw [mk 0 (by omega) (by omega)]; exact b3
  obtain ⟨z, z1, ⟨z2, z3, z4⟩, z5, z6, z7, z8, z9, z10⟩ := beginC (h := m) hg
  have zk : ∀ i, i < 43 ∨ 210 ≤ i → z i = m i := fun i hi => z10 i (by simp only [List.mem_cons, List.not_mem_nil, or_false]; omega)
  have zh : ∀ i, i ≠ 0 → i ≠ g + 16 → i ≠ g + 17 → i < 43 ∨ 210 ≤ i → z i = h i := fun i x1 x2 x3 x4 => by rw [zk i x4, mk i x2 x3, bk i x1]
  obtain ⟨w, ew⟩ : ∃ w, w = up2 z 0 8 0 := ⟨_, rfl⟩
  have wk : ∀ i, i ≠ 0 → w i = z i := fun i hi => by rw [ew, up2_n hi]
  have wh : ∀ i, i ≠ 0 → i ≠ g + 16 → i ≠ g + 17 → i < 43 ∨ 210 ≤ i → w i = h i := fun i x1 x2 x3 x4 => by rw [wk i x1, zh i x1 x2 x3 x4]
  have w0 : ∀ k, k ≠ 8 → w 0 k = b 0 k := fun k hk => by rw [ew, up2_sn hk, zk 0 (by omega), mk 0 (by omega) (by omega)]
  have whi : ∀ i, 210 ≤ i → w i = hc i := fun i hi => by rw [wh i (by omega) (by omega) (by omega) (by omega), K i (by omega) (by omega), up2_n (by omega)]
  have rff : rf KC 395 1 (nI f) = some f := rf_f hf rfl
  have rfg : rf KC 395 1 (nI g) = some g := rf_f hg rfl
  have u3 : up2 h 0 2 (-1) 0 3 = nI f := by rw [up2_sn (by decide)]; exact h03
  have u4 : up2 h 0 2 (-1) 0 4 = nI g := by rw [up2_sn (by decide)]; exact h04
  refine ⟨w, y, ?_, y1, by rw [y5 2 (by decide)]; exact t2, ?_⟩
  · rw [pw_s, bnd_s, u3, rff, bnd_s, u4, rfg, bnd_s, pw_s, bnd_s, pw_s, bnd_s, ← eb, b3, rfg, bnd_s, m1, bnd_s, m03, rfg, bnd_s, z1, bnd_s, pw_s, bnd_s, ← ew]
  refine ⟨g, y, (fun r => y 6 r, fun _ => 0, fun i => y 15 i, 0, 0, 0), ⟨hg, ?_, FBy, fun _ _ => rfl, ?_, ?_, ?_, ?_⟩, ?_⟩
  · rw [w0 3 (by decide)]; exact b3
  · have wg : ∀ i, g ≤ i → i < g + 18 → i ≠ g + 16 → i ≠ g + 17 → w i = h i := fun i x1 x2 x3 x4 => wh i (by omega) x3 x4 (by omega)
    unfold CF
    rw [eR, eD, eW, eZ, wg g (by omega) (by omega) (by omega) (by omega), wg (g + 1) (by omega) (by omega) (by omega) (by omega), wg (g + 2) (by omega) (by omega) (by omega) (by omega), wg (g + 4) (by omega) (by omega) (by omega) (by omega), wg (g + 5) (by omega) (by omega) (by omega) (by omega), wg (g + 6) (by omega) (by omega) (by omega) (by omega), wg (g + 7) (by omega) (by omega) (by omega) (by omega), wg (g + 8) (by omega) (by omega) (by omega) (by omega), wg (g + 9) (by omega) (by omega) (by omega) (by omega), wg (g + 10) (by omega) (by omega) (by omega) (by omega), wg (g + 12) (by omega) (by omega) (by omega) (by omega), wg (g + 14) (by omega) (by omega) (by omega) (by omega)]
    refine ⟨⟨?_, ?_, ?_, ?_, ?_, ?_, ?_⟩, fun r hr' => ?_, fun i hi => ?_, fun q hq => ?_, fun i hi => ?_, fun o ho => ?_⟩
    · rw [a2, rw'.w3 (by decide)]; exact a1.symm
    · rw [a4, rw'.w3 (by decide)]; exact a3.symm
    · rw [a6, rw'.w3 (by decide)]; exact a5.symm
    · rw [a8, rw'.w3 (by decide)]; exact a7.symm
    · obtain ⟨ev, -, -, v1, v2⟩ := a9
      rw [v2, rw'.w3 (by decide)]; exact v1.symm
    · obtain ⟨cl, -, v1, v2⟩ := a10
      rw [v2, rw'.w3 (by decide)]; exact v1.symm
    · rw [a12, rw'.w3 (by decide)]; exact a11.symm
    · obtain ⟨k, o, d, v, -, ⟨x1, x2⟩, ⟨x3, x4⟩, -, ⟨x5, x6⟩⟩ := hr r hr'
      rw [rw'.w4 (by omega), rw'.w5 (by omega), rw'.w7 (by omega), x1, x2, x3, x4, x5, x6]; exact ⟨rfl, rfl, rfl⟩
    · obtain ⟨a, b, s, -, ⟨x1, x2⟩, ⟨x3, x4⟩, -⟩ := hd.1 i hi
      rw [rw'.w8 (by omega), rw'.w9 (by omega), x1, x2, x3, x4]; exact ⟨rfl, rfl⟩
    · obtain ⟨k, k8, ⟨x1, x2⟩, x3⟩ := hw q hq
      rw [rw'.w11 (by omega), x1, x2, nI_clamp (by omega)]
      refine ⟨rfl, fun j hj => ?_⟩
      obtain ⟨a, b, s, -, ⟨v1, v2⟩, ⟨v3, v4⟩, ⟨v5, v6⟩⟩ := x3 j hj
      rw [rw'.w12 (by omega), rw'.w13 (by omega), rw'.w14 (by omega), v1, v2, v3, v4, v5, v6]; exact ⟨rfl, rfl, rfl⟩
    · rw [rw'.w16 (by omega)]; exact hz.1 i hi
    · rw [wk _ (by omega), zk _ (by omega), m2 o ho, eR]
  · unfold RC
    rw [eR, eC, wk 43 (by decide), wk (43 + 1) (by decide), wk (43 + 2) (by decide), wk (43 + 3) (by decide)]
    refine ⟨⟨z2, z3, z4⟩, fun r hr' => ?_, fun i hi => ?_⟩
    · obtain ⟨k, o, d, v, -, -, -, ⟨x1, x2⟩, -⟩ := hr r hr'
      refine ⟨?_, (z5 r (by omega)).2⟩
      show z 44 r = y 6 r
      rw [(z5 r (by omega)).1, mk _ (by omega) (by omega), bk _ (by omega), x2, rw'.w6 (by omega), x1]
    · obtain ⟨v, -, x1, x2⟩ := hcc i hi
      show z 46 i = y 15 i
      rw [z6 i (by omega), mk _ (by omega) (by omega), bk _ (by omega), x2, rw'.w15 (by omega), x1]
  · unfold RM1
    rw [eR, eC]
    exact ⟨⟨y33, y34, y35⟩, fun r hr' => y3 r hr', fun i hi => y4 i (by omega)⟩
  · unfold AB
    rw [eR, eC]
    refine ⟨fun r hr' => ?_, fun i hi => ?_, 0, 0, by decide, by decide, rfl, rfl⟩
    · obtain ⟨k, o, d, v, ⟨-, -, d9, -⟩, -, -, ⟨x1, -⟩, -⟩ := hr r hr'
      refine ⟨d, by omega, ?_⟩
      show y 6 r = nI d
      rw [rw'.w6 (by omega)]; exact x1
    · obtain ⟨v, v1, x1, -⟩ := hcc i hi
      show okW y (y 15 i)
      rw [rw'.w15 (by omega), x1]
      unfold okW
      rw [eW]
      rcases v1 with rfl | v1
      · exact Or.inl rfl
      · exact Or.inr ⟨v, v1, rfl⟩
  · refine ⟨?_, ⟨0, by decide, ?_, ?_, fun i hi => absurd hi (Nat.not_lt_zero i)⟩, ?_, ?_, fun k hk => ?_, ⟨0, y37, by decide, ?_, fun i hi => absurd hi (Nat.not_lt_zero i)⟩, ?_, ?_, Or.inl y54⟩
    · rw [w0 4 (by decide), eb, up2_ss, gf]; rfl
    · rw [w0 1 (by decide), eb, up2_sn (by decide), up2_sn (by decide), up2_sn (by decide), h00, up2_ss]; rfl
    · rw [y5 19 (by decide)]; exact t19
    · rw [w0 2 (by decide), eb, up2_sn (by decide), up2_sn (by decide), up2_ss, y5 28 (by decide)]; exact t28.symm
    · intro a c ha hc'
      have : w (g + 16) = m (g + 16) := by rw [wk _ (by omega), zk _ (by omega)]
      rw [this]; exact m3 a c ha hc'
    · rw [whi 213 (by decide), y6 17 (by decide), t17]; exact k5 k hk
    · show w 209 0 = 0
      rw [wk 209 (by decide)]; exact z9
    · obtain ⟨k, first, q1, q2, q3, q4, q5, -⟩ := k7
      refine ⟨0, first, y36, by decide, ?_, ?_, q5, fun j hj => absurd hj (Nat.not_lt_zero j)⟩
      · show w 47 0 = 0
        rw [wk 47 (by decide)]; exact z7
      · show w 47 1 = nI first
        rw [wk 47 (by decide), z8, mk 47 (by omega) (by omega), bk 47 (by decide), K 47 (by omega) (by omega), up2_n (by decide)]; exact q4
    · rw [ew, up2_ss]; exact y54.symm
