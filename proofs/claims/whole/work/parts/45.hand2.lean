/-! ===== hand, the search ===== -/
def cI (P : Nat → Nat → Bool) (i : Nat) : Nat → Int32 × Int32 → Int32 × Int32
  | 0, s => s
  | n + 1, s => if P i (n + 1) = true then ((cI P i n s).1 + 1, if (cI P i n s).2 = -1 then nI (100 * i + (n + 1)) else (cI P i n s).2) else cI P i n s
def cA (P : Nat → Nat → Bool) (N : Nat → Nat) : Nat → Int32 × Int32
  | 0 => (0, -1)
  | i + 1 => cI P i (N i) (cA P N i)
theorem cI_keep {P : Nat → Nat → Bool} {i n : Nat} {s : Int32 × Int32} (h : ¬ (cI P i n s).2 = -1) : ∀ m, (cI P i (n + m) s).2 = (cI P i n s).2
  | 0 => rfl
  | m + 1 => by
    have ih := cI_keep h m
    show (if P i (n + m + 1) = true then ((cI P i (n + m) s).1 + 1, if (cI P i (n + m) s).2 = -1 then nI (100 * i + (n + m + 1)) else (cI P i (n + m) s).2) else cI P i (n + m) s).2 = _
    by_cases c : P i (n + m + 1) = true
    · rw [if_pos c]
      show (if (cI P i (n + m) s).2 = -1 then nI (100 * i + (n + m + 1)) else (cI P i (n + m) s).2) = _
      rw [ih, if_neg h]
    · rw [if_neg c, ih]
theorem cA_keep {P : Nat → Nat → Bool} {N : Nat → Nat} {i : Nat} (h : ¬ (cA P N i).2 = -1) : ∀ m, (cA P N (i + m)).2 = (cA P N i).2
  | 0 => rfl
  | m + 1 => by
    have ih := cA_keep h m
    show (cI P (i + m) (N (i + m)) (cA P N (i + m))).2 = _
    have := cI_keep (P := P) (i := i + m) (n := 0) (s := cA P N (i + m)) (by show ¬ (cA P N (i + m)).2 = -1; rw [ih]; exact h) (N (i + m))
    rw [Nat.zero_add] at this
    rw [this]; exact ih
/-- the store of the reference in the midst of the search -/
def HM (M : ST) (A : AS) (k : Nat) (rm dy mu : Nat → Int32) (hm s : ST) : Prop := RM1 M A s ∧ FM M s ∧ SM k rm dy mu s ∧ Fr Km hm s ∧ Fs 0 KmS hm s ∧ s 0 2 = 0
theorem aTake_AB {M : ST} {K : Nat} {A : AS} (h : AB M K A) {a v : Nat} (hv : nI v ≤ aD A a) (ha : a < nR M) (hv2 : v < 2 ^ 31) : AB M K (aTake A a (nI v)) := by
  obtain ⟨x, hx, ex⟩ := h.1 a ha
  rw [ex, nI_leI (by omega) (by omega)] at hv
  refine ⟨?_, h.2⟩
  show DB (nR M) (upd (aD A) a (aD A a - nI v))
  rw [ex, nI_sub hv]
  exact h.1.up1 (r := a) (v := x - v) (by omega)
theorem handM {M : ST} (hB : FB M) {k : Nat} {rm dy mu : Nat → Int32} (hS : SG M k rm dy mu) {A : AS} {hm : ST} (hA : AB M 999 A) {i x : Nat} (hi : i < nR M) (hx : aD A i = nI x) (hx2 : x ≤ 9999) (a1 : Int32) {s : ST} (hs : HM M A k rm dy mu hm s) (st : Int32 × Int32) :
    ∃ s', lp FU (fX11_hand_62 a1 (nI i)) (s, st.1, st.2, 1) = some (s', (cI (fun a v => soA M (aTake A a (nI v)) rm dy mu k) i (min x 99) st).1, (cI (fun a v => soA M (aTake A a (nI v)) rm dy mu k) i (min x 99) st).2) ∧ HM M A k rm dy mu hm s' := by
  have h9 := hB.1.2.1
  obtain ⟨P, eP⟩ : ∃ P : Nat → Nat → Bool, P = fun a v => soA M (aTake A a (nI v)) rm dy mu k := ⟨_, rfl⟩
  rw [← eP]
  have main : ∃ r, lp FU (fX11_hand_62 a1 (nI i)) (s, st.1, st.2, 1) = some r ∧ r.2.1 = (cI P i (min x 99) st).1 ∧ r.2.2 = (cI P i (min x 99) st).2 ∧ HM M A k rm dy mu hm r.1 := by
    refine lp_cnt (b := fX11_hand_62 a1 (nI i)) (fun n s => s.2.2.2 = nI (n + 1) ∧ s.2.1 = (cI P i n st).1 ∧ s.2.2.1 = (cI P i n st).2 ∧ HM M A k rm dy mu hm s.1) (min x 99) (by omega) ?_ ?_ ⟨rfl, rfl, rfl, hs⟩
    · rintro n ⟨s, p, q, v⟩ hn ⟨rfl, rfl, rfl, s1, s2, s3, s4, s5, s6⟩
      dsimp only at s1 s2 s3 s4 s5 s6
      have q1 : ¬ 99 < nI (n + 1) := nI_nlt (a := 99) (by omega) (by decide)
      have q2 : ¬ nI x < nI (n + 1) := nI_nlt (by omega) (by omega)
      have D1 : s 19 i = nI x := (s1.2.1 i hi).1.trans hx
      obtain ⟨y, ey⟩ : ∃ y, y = up2 s 19 i (nI x - nI (n + 1)) := ⟨_, rfl⟩
      have yk : ∀ j, j ≠ 19 → y j = s j := fun j hj => by rw [ey, up2_n hj]
      have yF : FM M y := fun j hj => (yk j (by simp only [FMl, List.mem_cons, List.not_mem_nil, or_false] at hj; omega)).trans (s2 j hj)
      have yR : RM1 M (aTake A i (nI (n + 1))) y := by
        refine ⟨?_, fun r hr => ⟨?_, ?_⟩, ?_⟩
        · rw [yk 0 (by decide)]; exact s1.1
        · show y 19 r = upd (aD A) i (aD A i - nI (n + 1)) r
          rw [ey, up2_s, hx]
          by_cases c : r = i
          · rw [c, upd_s, upd_s]
          · rw [upd_n c, upd_n c]; exact (s1.2.1 r hr).1
        · rw [yk 20 (by decide)]; exact (s1.2.1 r hr).2
        · rw [yk 21 (by decide)]; exact s1.2.2
      have yS : SM k rm dy mu y := by
        unfold SM
        rw [yk 0 (by decide), yk 33 (by decide), yk 34 (by decide), yk 35 (by decide)]
        exact s3
      have hT : AB M 999 (aTake A i (nI (n + 1))) := aTake_AB hA (by rw [hx]; exact nI_le (by omega) (by omega)) hi (by omega)
      obtain ⟨z, z1, z2, z3, z4⟩ := seenM hB hS yF yR yS (by omega) hT
      have eb : soA M (aTake A i (nI (n + 1))) rm dy mu k = P i (n + 1) := by rw [eP]
      rw [eb] at z1
      have z19 : z 19 i = nI x - nI (n + 1) := by
        have := (z2.2.1 i hi).1
        rw [this]
        show upd (aD A) i (aD A i - nI (n + 1)) i = _
        rw [upd_s, hx]
      have back : nI x - nI (n + 1) + nI (n + 1) = nI x := by rw [nI_sub (by omega), nI_add]; congr 1; omega
      obtain ⟨w, ew⟩ : ∃ w, w = up2 z 19 i (nI x) := ⟨_, rfl⟩
      have wk : ∀ j, j ≠ 19 → w j = z j := fun j hj => by rw [ew, up2_n hj]
      have wH : HM M A k rm dy mu hm w := by
        refine ⟨⟨?_, fun r hr => ⟨?_, ?_⟩, ?_⟩, fun j hj => ?_, ?_, ?_, ?_, ?_⟩
        · rw [wk 0 (by decide)]; exact z2.1
        · rw [ew, up2_s]
          by_cases c : r = i
          · rw [c, upd_s, hx]
          · rw [upd_n c, (z2.2.1 r hr).1]
            show upd (aD A) i (aD A i - nI (n + 1)) r = _
            rw [upd_n c]
        · rw [wk 20 (by decide)]; exact (z2.2.1 r hr).2
        · rw [wk 21 (by decide)]; exact z2.2.2
        · rw [wk j (by simp only [FMl, List.mem_cons, List.not_mem_nil, or_false] at hj; omega), z3 j (by simp only [FMl, List.mem_cons, List.not_mem_nil, or_false] at hj ⊢; omega)]
          exact yF j hj
        · unfold SM
          rw [wk 0 (by decide), wk 33 (by decide), wk 34 (by decide), wk 35 (by decide), z4 37 (by decide), z3 33 (by decide), z3 34 (by decide), z3 35 (by decide)]
          exact yS
        · have f1 : Fr Km hm y := by rw [ey]; exact s4.up (by decide)
          have f2 : Fr Km hm z := f1.tr (z3.sub (by decide))
          rw [ew]; exact f2.up (by decide)
        · have f1 : Fs 0 KmS hm y := by rw [ey]; exact s5.un (by decide)
          have f2 : Fs 0 KmS hm z := f1.tr (z4.sub (by decide))
          rw [ew]; exact f2.un (by decide)
        · rw [wk 0 (by decide), z4 2 (by decide), yk 0 (by decide)]; exact s6
      have n1 : ¬ (1 : Int32) = 0 := by decide
      have i100 : (100 : Int32) * nI i + nI (n + 1) = nI (100 * i + (n + 1)) := by rw [show (100 : Int32) * nI i = nI (100 * i) from nI_mul 100 i, nI_add]
      have head : ∀ b, P i (n + 1) = b → fX11_hand_62 a1 (nI i) (s, (cI P i n st).1, (cI P i n st).2, nI (n + 1)) = (if bz b = 0 then fX11_hand_140 w a1 (cI P i n st).1 (cI P i n st).2 (nI i) (nI (n + 1)) else if (cI P i n st).2 = -1 then fX11_hand_139 w a1 ((cI P i n st).1 + 1) (nI i) (nI (n + 1)) (nI (100 * i + (n + 1))) else fX11_hand_139 w a1 ((cI P i n st).1 + 1) (nI i) (nI (n + 1)) (cI P i n st).2) := fun b hb => by
        rw [hb] at z1
        simp only [fX11_hand_62, if_neg q1, bnd_s, pw_s, rd_0, rd_1, rd_2, rd_3, rd_4, rd_5, rd_6, wr_0, wr_1, wr_2, wr_3, wr_4, wr_5, zb_0, zb_1, Nat.reduceLT, Nat.reducePow, rd_k (n := 9) (show i < 9 by omega), D1, if_neg q2, wr_k (n := 9) (show i < 9 by omega), ← ey, z1, z19, back, ← ew, i100]
      cases hb : P i (n + 1)
      · refine Or.inl ⟨(w, (cI P i n st).1, (cI P i n st).2, nI (n + 1 + 1)), ?_, rfl, ?_, ?_, wH⟩
        · rw [head false hb, bz_f, if_pos rfl]
          unfold fX11_hand_140
          rw [nI_1]
        · show _ = (if P i (n + 1) = true then _ else cI P i n st).1
          rw [hb, if_neg (by decide)]
        · show _ = (if P i (n + 1) = true then _ else cI P i n st).2
          rw [hb, if_neg (by decide)]
      · by_cases c : (cI P i n st).2 = -1
        · refine Or.inl ⟨(w, (cI P i n st).1 + 1, nI (100 * i + (n + 1)), nI (n + 1 + 1)), ?_, rfl, ?_, ?_, wH⟩
          · rw [head true hb, bz_t, if_neg n1, if_pos c]
            unfold fX11_hand_139 fX11_hand_140
            rw [nI_1]
          · show _ = (if P i (n + 1) = true then ((cI P i n st).1 + 1, if (cI P i n st).2 = -1 then nI (100 * i + (n + 1)) else (cI P i n st).2) else cI P i n st).1
            rw [if_pos hb]
          · show _ = (if P i (n + 1) = true then ((cI P i n st).1 + 1, if (cI P i n st).2 = -1 then nI (100 * i + (n + 1)) else (cI P i n st).2) else cI P i n st).2
            rw [if_pos hb, if_pos c]
        · refine Or.inl ⟨(w, (cI P i n st).1 + 1, (cI P i n st).2, nI (n + 1 + 1)), ?_, rfl, ?_, ?_, wH⟩
          · rw [head true hb, bz_t, if_neg n1, if_neg c]
            unfold fX11_hand_139 fX11_hand_140
            rw [nI_1]
          · show _ = (if P i (n + 1) = true then ((cI P i n st).1 + 1, if (cI P i n st).2 = -1 then nI (100 * i + (n + 1)) else (cI P i n st).2) else cI P i n st).1
            rw [if_pos hb]
          · show _ = (if P i (n + 1) = true then ((cI P i n st).1 + 1, if (cI P i n st).2 = -1 then nI (100 * i + (n + 1)) else (cI P i n st).2) else cI P i n st).2
            rw [if_pos hb, if_neg c]
    · rintro ⟨s, p, q, v⟩ ⟨rfl, rfl, rfl, s1, s2⟩
      dsimp only at s1 s2
      have D1 : s 19 i = nI x := (s1.2.1 i hi).1.trans hx
      refine ⟨(s, (cI P i (min x 99) st).1, (cI P i (min x 99) st).2), ?_, rfl, rfl, s1, s2⟩
      by_cases c : 99 ≤ x
      · have q1 : 99 < nI (min x 99 + 1) := nI_lt (a := 99) (by omega) (by omega)
        simp only [fX11_hand_62, if_pos q1]
      · have q1 : ¬ 99 < nI (min x 99 + 1) := nI_nlt (a := 99) (by omega) (by decide)
        have q2 : nI x < nI (min x 99 + 1) := nI_lt (by omega) (by omega)
        simp only [fX11_hand_62, if_neg q1, bnd_s, pw_s, rd_0, rd_1, rd_2, rd_3, rd_4, rd_5, rd_6, wr_0, wr_1, wr_2, wr_3, wr_4, wr_5, zb_0, zb_1, Nat.reduceLT, Nat.reducePow, rd_k (n := 9) (show i < 9 by omega), D1, if_pos q2]
  obtain ⟨⟨r, p, q⟩, r1, rfl, rfl, r2⟩ := main
  exact ⟨r, r1, r2⟩
/-- the class's store in the midst of the search -/
theorem handC0 {f : Nat} (hf : f = 2 ∨ f = 20) {M : ST} (hB : FB M) {k : Nat} {rm dy mu : Nat → Int32} (hS : SG M k rm dy mu) {A : AS} {hc : ST} (hCF : CF f M hc) (h0 : hc 0 3 = nI f) (hR : RC 43 M A hc) (hsc : SC k rm dy mu hc) (hA : AB M 999 A) {i x : Nat} (hi : i < nR M) (hx : aD A i = nI x) (hx2 : x ≤ 9999) {s : ST} (hs : KcE f hc s) (st : Int32 × Int32) :
    ∃ s', lp FU (fX10_hand_74 0 (nI i) (nI (min x 99))) (s, st.1, 1) = some (.inr (s', (cI (fun a v => soA M (aTake A a (nI v)) rm dy mu k) i (min x 99) st).1)) ∧ KcE f hc s' := by
  have h9 := hB.1.2.1
  obtain ⟨P, eP⟩ : ∃ P : Nat → Nat → Bool, P = fun a v => soA M (aTake A a (nI v)) rm dy mu k := ⟨_, rfl⟩
  rw [← eP]
  have main : ∃ r, lp FU (fX10_hand_74 0 (nI i) (nI (min x 99))) (s, st.1, 1) = some r ∧ ∃ s', r = .inr (s', (cI P i (min x 99) st).1) ∧ KcE f hc s' := by
    refine lp_cnt (b := fX10_hand_74 0 (nI i) (nI (min x 99))) (fun n s => s.2.2 = nI (n + 1) ∧ s.2.1 = (cI P i n st).1 ∧ KcE f hc s.1) (min x 99) (by omega) ?_ ?_ ⟨rfl, rfl, hs⟩
    · rintro n ⟨s, p, v⟩ hn ⟨rfl, rfl, s1⟩
      dsimp only at s1
      have q1 : ¬ nI (min x 99) < nI (n + 1) := nI_nlt (by omega) (by omega)
      have hT : AB M 999 (aTake A i (nI (n + 1))) := aTake_AB hA (by rw [hx]; exact nI_le (by omega) (by omega)) hi (by omega)
      have sS : SC k rm dy mu s := by
        unfold SC
        rw [s1 209 (by omega) (by omega) (by omega), s1 210 (by omega) (by omega) (by omega), s1 211 (by omega) (by omega) (by omega), s1 212 (by omega) (by omega) (by omega)]
        exact hsc
      obtain ⟨y, y1, y2⟩ := wouldC hf hB hS (s1.cf hf hCF) (s1.c0 hf h0) (s1.rc hf hR) sS (show i < 9 by omega) (K := 999) (by decide) hT
      have eb : soA M (aTake A i (nI (n + 1))) rm dy mu k = P i (n + 1) := by rw [eP]
      rw [eb] at y1
      have n1 : ¬ (1 : Int32) = 0 := by decide
      have n2 : ¬ (0 : Int32) = 1 := by decide
      cases hb : P i (n + 1)
      · rw [hb] at y1
        refine Or.inl ⟨(y, (cI P i n st).1, nI (n + 1 + 1)), ?_, rfl, ?_, s1.tr y2⟩
        · simp only [fX10_hand_74, fX10_hand_110, if_neg q1, y1, bnd_s, bz_f, if_true, nI_1]
        · show _ = (if P i (n + 1) = true then _ else cI P i n st).1
          rw [hb, if_neg (by decide)]
      · rw [hb] at y1
        refine Or.inl ⟨(y, (cI P i n st).1 + 1, nI (n + 1 + 1)), ?_, rfl, ?_, s1.tr y2⟩
        · simp only [fX10_hand_74, fX10_hand_110, if_neg q1, y1, bnd_s, bz_t, if_neg n1, if_neg n2, nI_1]
        · show _ = (if P i (n + 1) = true then ((cI P i n st).1 + 1, if (cI P i n st).2 = -1 then nI (100 * i + (n + 1)) else (cI P i n st).2) else cI P i n st).1
          rw [if_pos hb]
    · rintro ⟨s, p, v⟩ ⟨rfl, rfl, s1⟩
      refine ⟨_, ?_, s, rfl, s1⟩
      simp only [fX10_hand_74]
      rw [if_pos (nI_lt (by omega) (by omega))]
  obtain ⟨r, r1, s', rfl, r2⟩ := main
  exact ⟨s', r1, r2⟩
theorem handC1 {f : Nat} (hf : f = 2 ∨ f = 20) {M : ST} (hB : FB M) {k : Nat} {rm dy mu : Nat → Int32} (hS : SG M k rm dy mu) {A : AS} {hc : ST} (hCF : CF f M hc) (h0 : hc 0 3 = nI f) (hR : RC 43 M A hc) (hsc : SC k rm dy mu hc) (hA : AB M 999 A) {i x : Nat} (hi : i < nR M) (hx : aD A i = nI x) (hx2 : x ≤ 9999) {s : ST} (hs : KcE f hc s) (st : Int32 × Int32) (hst : st.2 = -1) (p : Int32) :
    ∃ r, lp FU (fX10_hand_74 1 (nI i) (nI (min x 99))) (s, p, 1) = some r ∧ ((∃ s' q, r = .inr (s', q) ∧ KcE f hc s' ∧ (cI (fun a v => soA M (aTake A a (nI v)) rm dy mu k) i (min x 99) st).2 = -1) ∨ ∃ s' v, r = .inl (s', nI v) ∧ KcE f hc s' ∧ v ≤ 100 ∧ (cI (fun a v => soA M (aTake A a (nI v)) rm dy mu k) i (min x 99) st).2 = nI (100 * i + v)) := by
  have h9 := hB.1.2.1
  obtain ⟨P, eP⟩ : ∃ P : Nat → Nat → Bool, P = fun a v => soA M (aTake A a (nI v)) rm dy mu k := ⟨_, rfl⟩
  rw [← eP]
  refine lp_cnt (b := fX10_hand_74 1 (nI i) (nI (min x 99))) (fun n s => s.2.2 = nI (n + 1) ∧ (cI P i n st).2 = -1 ∧ KcE f hc s.1) (min x 99) (by omega) ?_ ?_ ⟨rfl, hst, hs⟩
  · rintro n ⟨s, p, v⟩ hn ⟨rfl, c1, s1⟩
    dsimp only at s1
    have q1 : ¬ nI (min x 99) < nI (n + 1) := nI_nlt (by omega) (by omega)
    have hT : AB M 999 (aTake A i (nI (n + 1))) := aTake_AB hA (by rw [hx]; exact nI_le (by omega) (by omega)) hi (by omega)
    have sS : SC k rm dy mu s := by
      unfold SC
      rw [s1 209 (by omega) (by omega) (by omega), s1 210 (by omega) (by omega) (by omega), s1 211 (by omega) (by omega) (by omega), s1 212 (by omega) (by omega) (by omega)]
      exact hsc
    obtain ⟨y, y1, y2⟩ := wouldC hf hB hS (s1.cf hf hCF) (s1.c0 hf h0) (s1.rc hf hR) sS (show i < 9 by omega) (K := 999) (by decide) hT
    have eb : soA M (aTake A i (nI (n + 1))) rm dy mu k = P i (n + 1) := by rw [eP]
    rw [eb] at y1
    have n1 : ¬ (1 : Int32) = 0 := by decide
    cases hb : P i (n + 1)
    · rw [hb] at y1
      refine Or.inl ⟨(y, p, nI (n + 1 + 1)), ?_, rfl, ?_, s1.tr y2⟩
      · simp only [fX10_hand_74, fX10_hand_110, if_neg q1, y1, bnd_s, bz_f, if_true, nI_1]
      · show (if P i (n + 1) = true then _ else cI P i n st).2 = -1
        rw [hb, if_neg (by decide)]
        exact c1
    · rw [hb] at y1
      have nx : (cI P i (n + 1) st).2 = nI (100 * i + (n + 1)) := by
        show (if P i (n + 1) = true then ((cI P i n st).1 + 1, if (cI P i n st).2 = -1 then nI (100 * i + (n + 1)) else (cI P i n st).2) else cI P i n st).2 = _
        rw [if_pos hb, if_pos c1]
      have kp := cI_keep (P := P) (i := i) (n := n + 1) (s := st) (by rw [nx]; exact nI_m1ne (by omega)) (min x 99 - (n + 1))
      rw [show n + 1 + (min x 99 - (n + 1)) = min x 99 by omega] at kp
      refine Or.inr ⟨.inl (y, nI (n + 1)), ?_, Or.inr ⟨y, n + 1, rfl, s1.tr y2, by omega, kp.trans nx⟩⟩
      simp only [fX10_hand_74, if_neg q1, y1, bnd_s, bz_t, if_neg n1, if_true]
  · rintro ⟨s, p, v⟩ ⟨rfl, c1, s1⟩
    refine ⟨.inr (s, p), ?_, Or.inl ⟨s, p, rfl, s1, c1⟩⟩
    simp only [fX10_hand_74]
    rw [if_pos (nI_lt (by omega) (by omega))]
