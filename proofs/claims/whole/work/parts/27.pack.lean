/-! ===== copies of states ===== -/
def cpy (n : Nat) (f g : Nat → Int32) (j : Nat) : Int32 := if j < n then f j else g j
theorem cpy_in {n : Nat} {f g : Nat → Int32} {j : Nat} (h : j < n) : cpy n f g j = f j := if_pos h
theorem vcpy (f g : Nat → Int32) (n : Nat) : va_cpy f g 0 0 n = cpy n f g := by
  funext j
  unfold cpy
  by_cases h : j < n
  · rw [if_pos h, pk_cpy_in (by omega) (by omega)]; congr 1; omega
  · rw [if_neg h, pk_cpy_out (by omega)]
theorem acp_k {n k : Nat} {h : ST} {o0 o1 : Nat} {nn : Int32} (ne : o0 ≠ o1) (e : nn = nI k) (hk : k ≤ n) (hn : n < 2 ^ 31) : acp n n h o0 o1 0 0 nn = some (upR h o1 (cpy k (h o0) (h o1))) := by
  subst e
  unfold acp
  have e1 : (nI k).toNatClampNeg = k := nI_clamp (by omega)
  have e0 : (0 : Int32).toNatClampNeg = 0 := rfl
  rw [if_pos ⟨ne, by decide, by decide, nI_pos (by omega), by rw [e0, e1]; omega, by rw [e0, e1]; omega⟩, e0, e1, vcpy]
theorem acp_9 {h : ST} {o0 o1 : Nat} (ne : o0 ≠ o1) : acp 9 9 h o0 o1 0 0 9 = some (upR h o1 (cpy 9 (h o0) (h o1))) := acp_k (k := 9) ne rfl (by decide) (by decide)
theorem acp_10 {h : ST} {o0 o1 : Nat} (ne : o0 ≠ o1) : acp 10 10 h o0 o1 0 0 10 = some (upR h o1 (cpy 10 (h o0) (h o1))) := acp_k (k := 10) ne rfl (by decide) (by decide)
theorem acp_8 {h : ST} {o0 o1 : Nat} (ne : o0 ≠ o1) : acp 8 8 h o0 o1 0 0 8 = some (upR h o1 (cpy 8 (h o0) (h o1))) := acp_k (k := 8) ne rfl (by decide) (by decide)
theorem acp_5 {h : ST} {o0 o1 : Nat} (ne : o0 ≠ o1) : acp 5 5 h o0 o1 0 0 5 = some (upR h o1 (cpy 5 (h o0) (h o1))) := acp_k (k := 5) ne rfl (by decide) (by decide)
theorem acp_3 {h : ST} {o0 o1 : Nat} (ne : o0 ≠ o1) : acp 3 3 h o0 o1 0 0 3 = some (upR h o1 (cpy 3 (h o0) (h o1))) := acp_k (k := 3) ne rfl (by decide) (by decide)
theorem Fr.upR {S : List Nat} {h h1 : ST} (a : Fr S h h1) {o : Nat} {f : Nat → Int32} (ho : o ∈ S) : Fr S h (upR h1 o f) := fun i hi => (upR_n (fun e : i = o => hi (by rw [e]; exact ho))).trans (a i hi)
theorem copyC {o o1 : Nat} (hd : o + 3 < o1 ∨ o1 + 3 < o) (hc : ST) :
    ∃ hc', fX8_copy hc o o1 = some hc' ∧ (hc' o 0 = hc o1 0 ∧ hc' o 1 = hc o1 1 ∧ hc' o 2 = hc o1 2) ∧ (∀ j, j < 9 → hc' (o + 1) j = hc (o1 + 1) j) ∧ (∀ j, j < 9 → hc' (o + 2) j = hc (o1 + 2) j) ∧ (∀ j, j < 10 → hc' (o + 3) j = hc (o1 + 3) j) ∧ Fr [o, o + 1, o + 2, o + 3] hc hc' := by
  have u : ∀ (h : ST) k v i, i ≠ o → up2 h o k v i = h i := fun _ _ _ _ hi => up2_n hi
  have u1 : ∀ (h : ST) f i, i ≠ o + 1 → upR h (o + 1) f i = h i := fun _ _ _ hi => upR_n hi
  have u2 : ∀ (h : ST) f i, i ≠ o + 2 → upR h (o + 2) f i = h i := fun _ _ _ hi => upR_n hi
  have u3 : ∀ (h : ST) f i, i ≠ o + 3 → upR h (o + 3) f i = h i := fun _ _ _ hi => upR_n hi
  unfold fX8_copy
  simp only [pw_s, bnd_s]
  rw [acp_9 (by omega), bnd_s, acp_9 (by omega), bnd_s, acp_10 (by omega), bnd_s]
  refine ⟨_, rfl, ⟨?_, ?_, ?_⟩, fun j hj => ?_, fun j hj => ?_, fun j hj => ?_, ((((((Fr.rf.up (by simp only [List.mem_cons, List.not_mem_nil, or_false, true_or, or_true])).up (by simp only [List.mem_cons, List.not_mem_nil, or_false, true_or, or_true])).up (by simp only [List.mem_cons, List.not_mem_nil, or_false, true_or, or_true])).upR (by simp only [List.mem_cons, List.not_mem_nil, or_false, true_or, or_true])).upR (by simp only [List.mem_cons, List.not_mem_nil, or_false, true_or, or_true])).upR (by simp only [List.mem_cons, List.not_mem_nil, or_false, true_or, or_true]))⟩
  · rw [u3 _ _ _ (by omega), u2 _ _ _ (by omega), u1 _ _ _ (by omega), up2_sn (by decide), up2_sn (by decide), up2_ss]
  · rw [u3 _ _ _ (by omega), u2 _ _ _ (by omega), u1 _ _ _ (by omega), up2_sn (by decide), up2_ss, u _ _ _ _ (by omega)]
  · rw [u3 _ _ _ (by omega), u2 _ _ _ (by omega), u1 _ _ _ (by omega), up2_ss, u _ _ _ _ (by omega), u _ _ _ _ (by omega)]
  · rw [u3 _ _ _ (by omega), u2 _ _ _ (by omega), upR_s, cpy_in hj, u _ _ _ _ (by omega), u _ _ _ _ (by omega), u _ _ _ _ (by omega)]
  · rw [u3 _ _ _ (by omega), upR_s, cpy_in hj, u1 _ _ _ (by omega), u _ _ _ _ (by omega), u _ _ _ _ (by omega), u _ _ _ _ (by omega)]
  · rw [upR_s, cpy_in hj, u2 _ _ _ (by omega), u1 _ _ _ (by omega), u _ _ _ _ (by omega), u _ _ _ _ (by omega), u _ _ _ _ (by omega)]
theorem copyR {o o1 : Nat} (hd : o + 3 < o1 ∨ o1 + 3 < o) {M hc : ST} (h9 : nR M ≤ 9) (h10 : nC M ≤ 10) {A : AS} (hR : RC o1 M A hc) : ∃ hc', fX8_copy hc o o1 = some hc' ∧ RC o M A hc' ∧ Fr [o, o + 1, o + 2, o + 3] hc hc' := by
  obtain ⟨y, h1, ⟨a1, a2, a3⟩, a4, a5, a6, a7⟩ := copyC hd hc
  exact ⟨y, h1, ⟨⟨a1.trans hR.1.1, a2.trans hR.1.2.1, a3.trans hR.1.2.2⟩, fun r hr => ⟨(a4 r (by omega)).trans (hR.2.1 r hr).1, (a5 r (by omega)).trans (hR.2.1 r hr).2⟩, fun i hi => (a6 i (by omega)).trans (hR.2.2 i hi)⟩, a7⟩
/-- a packed state from b on -/
def PA (row : Nat → Int32) (b : Nat) (M : ST) (A : AS) : Prop := (row b = aY A ∧ row (b + 1) = aT A ∧ row (b + 2) = aS A) ∧ (∀ r, r < nR M → row (b + 3 + r) = aD A r ∧ row (b + 12 + r) = aB A r) ∧ ∀ i, i < nC M → row (b + 21 + i) = aC A i
theorem packM {M hm : ST} (h9 : nR M ≤ 9) (h10 : nC M ≤ 10) {A : AS} (hR : RM1 M A hm) {o n b : Nat} (ho : o ≠ 0 ∧ o ≠ 19 ∧ o ≠ 20 ∧ o ≠ 21) (hb : b + 31 ≤ n) (hn : n < 100000) :
    ∃ hm', fX11_pack hm o n (nI b) = some hm' ∧ PA (hm' o) b M A ∧ (∀ j, (j < b ∨ b + 31 ≤ j) → hm' o j = hm o j) ∧ Fr [o] hm hm' := by
  have n1 : nI b + 1 = nI (b + 1) := nI_1 b
  have n2 : nI b + 2 = nI (b + 2) := nI_add b 2
  have n3 : nI b + 3 = nI (b + 3) := nI_add b 3
  obtain ⟨h5, e5⟩ : ∃ h5, h5 = up2 (up2 (up2 hm o b (hm 0 33)) o (b + 1) (hm 0 34)) o (b + 2) (hm 0 35) := ⟨_, rfl⟩
  have u0 : ∀ (h : ST) k v, up2 h o k v 0 = h 0 := fun _ _ _ => up2_n (fun q => ho.1 q.symm)
  have fr5 : Fr [o] hm h5 := by rw [e5]; exact ((Fr.rf.up (by simp only [List.mem_cons, List.not_mem_nil, or_false, true_or, or_true])).up (by simp only [List.mem_cons, List.not_mem_nil, or_false, true_or, or_true])).up (by simp only [List.mem_cons, List.not_mem_nil, or_false, true_or, or_true])
  obtain ⟨x, x1, x2, x3, x4, x5⟩ := lp_cnt (b := fX11_pack_27 o n (nI b)) (s := (h5, 0)) (Q := fun x => (∀ r, r < 9 → x o (b + 3 + r) = hm 19 r) ∧ (∀ r, r < 9 → x o (b + 12 + r) = hm 20 r) ∧ (∀ j, (j < b + 3 ∨ b + 21 ≤ j) → x o j = h5 o j) ∧ Fr [o] hm x) (fun i q => q.2 = nI i ∧ (∀ r, r < i → q.1 o (b + 3 + r) = hm 19 r) ∧ (∀ r, r < i → q.1 o (b + 12 + r) = hm 20 r) ∧ (∀ j, (j < b + 3 ∨ b + 21 ≤ j) → q.1 o j = h5 o j) ∧ Fr [o] hm q.1) 9 (by omega) (by
    rintro i ⟨h, k⟩ hi ⟨e1, e2, e3, e4, e6⟩
    obtain rfl : k = nI i := e1
    dsimp only at e2 e3 e4 e6
    have k19 : h 19 = hm 19 := e6 19 (by simp only [List.mem_cons, List.not_mem_nil, or_false]; exact fun q => ho.2.1 q.symm)
    have k20 : ∀ k v, up2 h o k v 20 = hm 20 := fun k v => (up2_n (fun q => ho.2.2.1 q.symm)).trans (e6 20 (by simp only [List.mem_cons, List.not_mem_nil, or_false]; exact fun q => ho.2.2.1 q.symm))
    have i1 : nI (b + 3) + nI i = nI (b + 3 + i) := nI_add _ _
    have i2 : nI (b + 3) + 9 + nI i = nI (b + 12 + i) := by rw [show (9 : Int32) = nI 9 from rfl, nI_add, nI_add]
    refine Or.inl ⟨(up2 (up2 h o (b + 3 + i) (hm 19 i)) o (b + 12 + i) (hm 20 i), nI i + 1), ?_, nI_1 i, fun r hr => ?_, fun r hr => ?_, fun j hj => ?_, (e6.up (by simp only [List.mem_cons, List.not_mem_nil, or_false, true_or, or_true])).up (by simp only [List.mem_cons, List.not_mem_nil, or_false, true_or, or_true])⟩
    · simp only [fX11_pack_27, bnd_s, pw_s, rd_0, rd_1, rd_2, rd_3, rd_4, rd_5, rd_6, wr_0, wr_1, wr_2, wr_3, wr_4, wr_5, zb_0, zb_1, Nat.reduceLT, Nat.reducePow, n3, i1, i2, if_neg (show ¬ (9 : Int32) ≤ nI i from nI_ge (b := 9) hi (by decide)), rd_k (n := 9) hi, k19, k20, wr_k (n := n) (show b + 3 + i < n by omega) (show n < 2 ^ 31 by omega), wr_k (n := n) (show b + 12 + i < n by omega) (show n < 2 ^ 31 by omega)]
    · show up2 _ o _ _ o (b + 3 + r) = _
      rw [up2_sn (by omega), up2_s]
      by_cases c : r = i
      · subst c; rw [upd_s]
      · rw [upd_n (by omega)]; exact e2 r (by omega)
    · show up2 _ o _ _ o (b + 12 + r) = _
      rw [up2_s]
      by_cases c : r = i
      · subst c; rw [upd_s]
      · rw [upd_n (by omega), up2_sn (by omega)]; exact e3 r (by omega)
    · show up2 _ o _ _ o j = _
      rw [up2_sn (by omega), up2_sn (by omega)]; exact e4 j hj) (by
    rintro ⟨h, k⟩ ⟨e1, e2, e3, e4, e6⟩
    obtain rfl : k = nI 9 := e1
    exact ⟨h, by simp only [fX11_pack_27]; rw [if_pos (by decide)], e2, e3, e4, e6⟩) ⟨rfl, fun r hr => absurd hr (Nat.not_lt_zero r), fun r hr => absurd hr (Nat.not_lt_zero r), fun j _ => rfl, fr5⟩
  obtain ⟨y, y1, y2, y3, y4⟩ := lp_cnt (b := fX11_pack_70 o n (nI b)) (s := (x, 0)) (Q := fun y => (∀ r, r < 10 → y o (b + 21 + r) = hm 21 r) ∧ (∀ j, (j < b + 21 ∨ b + 31 ≤ j) → y o j = x o j) ∧ Fr [o] hm y) (fun i q => q.2 = nI i ∧ (∀ r, r < i → q.1 o (b + 21 + r) = hm 21 r) ∧ (∀ j, (j < b + 21 ∨ b + 31 ≤ j) → q.1 o j = x o j) ∧ Fr [o] hm q.1) 10 (by omega) (by
    rintro i ⟨h, k⟩ hi ⟨e1, e2, e4, e6⟩
    obtain rfl : k = nI i := e1
    dsimp only at e2 e4 e6
    have k21 : h 21 = hm 21 := e6 21 (by simp only [List.mem_cons, List.not_mem_nil, or_false]; exact fun q => ho.2.2.2 q.symm)
    have i1 : nI (b + 3) + 18 + nI i = nI (b + 21 + i) := by rw [show (18 : Int32) = nI 18 from rfl, nI_add, nI_add]
    refine Or.inl ⟨(up2 h o (b + 21 + i) (hm 21 i), nI i + 1), ?_, nI_1 i, fun r hr => ?_, fun j hj => ?_, e6.up (by simp only [List.mem_cons, List.not_mem_nil, or_false, true_or, or_true])⟩
    · simp only [fX11_pack_70, bnd_s, pw_s, rd_0, rd_1, rd_2, rd_3, rd_4, rd_5, rd_6, wr_0, wr_1, wr_2, wr_3, wr_4, wr_5, zb_0, zb_1, Nat.reduceLT, Nat.reducePow, n3, i1, if_neg (show ¬ (10 : Int32) ≤ nI i from nI_ge (b := 10) hi (by decide)), rd_k (n := 10) hi, k21, wr_k (n := n) (show b + 21 + i < n by omega) (show n < 2 ^ 31 by omega)]
    · show up2 _ o _ _ o (b + 21 + r) = _
      rw [up2_s]
      by_cases c : r = i
      · subst c; rw [upd_s]
      · rw [upd_n (by omega)]; exact e2 r (by omega)
    · show up2 _ o _ _ o j = _
      rw [up2_sn (by omega)]; exact e4 j hj) (by
    rintro ⟨h, k⟩ ⟨e1, e2, e4, e6⟩
    obtain rfl : k = nI 10 := e1
    exact ⟨h, by simp only [fX11_pack_70]; rw [if_pos (by decide)], e2, e4, e6⟩) ⟨rfl, fun r hr => absurd hr (Nat.not_lt_zero r), fun j _ => rfl, x5⟩
  have hh5 : ∀ j, j < b + 3 ∨ b + 31 ≤ j → y o j = h5 o j := fun j hj => (y3 j (by omega)).trans (x4 j (by omega))
  refine ⟨y, ?_, ⟨⟨?_, ?_, ?_⟩, fun r hr => ⟨?_, ?_⟩, fun i hi => ?_⟩, fun j hj => ?_, y4⟩
  · unfold fX11_pack
    rw [wr_k (by omega) (by omega), bnd_s, n1, wr_k (by omega) (by omega), bnd_s, n2, wr_k (by omega) (by omega), bnd_s, u0, u0, u0, ← e5, x1, bnd_s, y1, bnd_s]
  · rw [hh5 b (by omega), e5, up2_sn (by omega), up2_sn (by omega), up2_ss]; exact hR.1.1
  · rw [hh5 (b + 1) (by omega), e5, up2_sn (by omega), up2_ss]; exact hR.1.2.1
  · rw [hh5 (b + 2) (by omega), e5, up2_ss]; exact hR.1.2.2
  · rw [y3 _ (by omega), x2 r (by omega)]; exact (hR.2.1 r hr).1
  · rw [y3 _ (by omega), x3 r (by omega)]; exact (hR.2.1 r hr).2
  · rw [y2 i (by omega)]; exact hR.2.2 i hi
  · rw [hh5 j (by omega), e5, up2_sn (by omega), up2_sn (by omega), up2_sn (by omega)]
theorem unpackM {M hm : ST} (h9 : nR M ≤ 9) (h10 : nC M ≤ 10) {A : AS} {o n b : Nat} (hP : PA (hm o) b M A) (ho : o ≠ 0 ∧ o ≠ 19 ∧ o ≠ 20 ∧ o ≠ 21) (hb : b + 31 ≤ n) (hn : n < 100000) :
    ∃ hm', fX11_unpack hm o n (nI b) = some hm' ∧ RM1 M A hm' ∧ Fr [0, 19, 20, 21] hm hm' ∧ Fs 0 [33, 34, 35] hm hm' := by
  have n1 : nI b + 1 = nI (b + 1) := nI_1 b
  have n2 : nI b + 2 = nI (b + 2) := nI_add b 2
  have n3 : nI b + 3 = nI (b + 3) := nI_add b 3
  have uo : ∀ (h : ST) k v, up2 h 0 k v o = h o := fun _ _ _ => up2_n ho.1
  have uo19 : ∀ (h : ST) k v, up2 h 19 k v o = h o := fun _ _ _ => up2_n ho.2.1
  obtain ⟨h5, e5⟩ : ∃ h5, h5 = up2 (up2 (up2 hm 0 33 (hm o b)) 0 34 (hm o (b + 1))) 0 35 (hm o (b + 2)) := ⟨_, rfl⟩
  have fr5 : Fr [0, 19, 20, 21] hm h5 := by rw [e5]; exact ((Fr.rf.up (by decide)).up (by decide)).up (by decide)
  have fs5 : Fs 0 [33, 34, 35] hm h5 := by rw [e5]; exact ((Fs.rf.up (by decide)).up (by decide)).up (by decide)
  have ro : ∀ h : ST, Fr [0, 19, 20, 21] hm h → h o = hm o := fun h q => q o (by simp only [List.mem_cons, List.not_mem_nil, or_false]; omega)
  obtain ⟨x, x1, x2, x3, x4⟩ := lp_cnt (b := fX11_unpack_27 o n (nI b)) (s := (h5, 0)) (Q := fun x => (∀ r, r < 9 → x 19 r = hm o (b + 3 + r)) ∧ (∀ r, r < 9 → x 20 r = hm o (b + 12 + r)) ∧ Fr [19, 20] h5 x) (fun i q => q.2 = nI i ∧ (∀ r, r < i → q.1 19 r = hm o (b + 3 + r)) ∧ (∀ r, r < i → q.1 20 r = hm o (b + 12 + r)) ∧ Fr [19, 20] h5 q.1) 9 (by omega) (by
    rintro i ⟨h, k⟩ hi ⟨e1, e2, e3, e6⟩
    obtain rfl : k = nI i := e1
    dsimp only at e2 e3 e6
    have ko : h o = hm o := ro h (fr5.tr (e6.sub (by decide)))
    have i1 : nI (b + 3) + nI i = nI (b + 3 + i) := nI_add _ _
    have i2 : nI (b + 3) + 9 + nI i = nI (b + 12 + i) := by rw [show (9 : Int32) = nI 9 from rfl, nI_add, nI_add]
    refine Or.inl ⟨(up2 (up2 h 19 i (hm o (b + 3 + i))) 20 i (hm o (b + 12 + i)), nI i + 1), ?_, nI_1 i, fun r hr => ?_, fun r hr => ?_, (e6.up (by decide)).up (by decide)⟩
    · simp only [fX11_unpack_27, bnd_s, pw_s, rd_0, rd_1, rd_2, rd_3, rd_4, rd_5, rd_6, wr_0, wr_1, wr_2, wr_3, wr_4, wr_5, zb_0, zb_1, Nat.reduceLT, Nat.reducePow, n3, i1, i2, if_neg (show ¬ (9 : Int32) ≤ nI i from nI_ge (b := 9) hi (by decide)), wr_k (n := 9) hi, uo19, ko, rd_k (n := n) (show b + 3 + i < n by omega) (show n < 2 ^ 31 by omega), rd_k (n := n) (show b + 12 + i < n by omega) (show n < 2 ^ 31 by omega)]
    · dsimp only
      rw [up2_n (by decide), up2_s]
      by_cases c : r = i
      · subst c; rw [upd_s]
      · rw [upd_n (by omega)]; exact e2 r (by omega)
    · dsimp only
      rw [up2_s]
      by_cases c : r = i
      · subst c; rw [upd_s]
      · rw [upd_n (by omega), up2_n (by decide)]; exact e3 r (by omega)) (by
    rintro ⟨h, k⟩ ⟨e1, e2, e3, e6⟩
    obtain rfl : k = nI 9 := e1
    exact ⟨h, by simp only [fX11_unpack_27]; rw [if_pos (by decide)], e2, e3, e6⟩) ⟨rfl, fun r hr => absurd hr (Nat.not_lt_zero r), fun r hr => absurd hr (Nat.not_lt_zero r), Fr.rf⟩
  obtain ⟨y, y1, y2, y3⟩ := lp_cnt (b := fX11_unpack_70 o n (nI b)) (s := (x, 0)) (Q := fun y => (∀ r, r < 10 → y 21 r = hm o (b + 21 + r)) ∧ Fr [21] x y) (fun i q => q.2 = nI i ∧ (∀ r, r < i → q.1 21 r = hm o (b + 21 + r)) ∧ Fr [21] x q.1) 10 (by omega) (by
    rintro i ⟨h, k⟩ hi ⟨e1, e2, e6⟩
    obtain rfl : k = nI i := e1
    dsimp only at e2 e6
    have ko : h o = hm o := ro h ((fr5.tr (x4.sub (by decide))).tr (e6.sub (by decide)))
    have i1 : nI (b + 3) + 18 + nI i = nI (b + 21 + i) := by rw [show (18 : Int32) = nI 18 from rfl, nI_add, nI_add]
    refine Or.inl ⟨(up2 h 21 i (hm o (b + 21 + i)), nI i + 1), ?_, nI_1 i, fun r hr => ?_, e6.up (by decide)⟩
    · simp only [fX11_unpack_70, bnd_s, pw_s, rd_0, rd_1, rd_2, rd_3, rd_4, rd_5, rd_6, wr_0, wr_1, wr_2, wr_3, wr_4, wr_5, zb_0, zb_1, Nat.reduceLT, Nat.reducePow, n3, i1, if_neg (show ¬ (10 : Int32) ≤ nI i from nI_ge (b := 10) hi (by decide)), wr_k (n := 10) hi, ko, rd_k (n := n) (show b + 21 + i < n by omega) (show n < 2 ^ 31 by omega)]
    · dsimp only
      rw [up2_s]
      by_cases c : r = i
      · subst c; rw [upd_s]
      · rw [upd_n (by omega)]; exact e2 r (by omega)) (by
    rintro ⟨h, k⟩ ⟨e1, e2, e6⟩
    obtain rfl : k = nI 10 := e1
    exact ⟨h, by simp only [fX11_unpack_70]; rw [if_pos (by decide)], e2, e6⟩) ⟨rfl, fun r hr => absurd hr (Nat.not_lt_zero r), Fr.rf⟩
  have y0 : y 0 = h5 0 := (y3 0 (by decide)).trans (x4 0 (by decide))
  refine ⟨y, ?_, ⟨⟨?_, ?_, ?_⟩, fun r hr => ⟨?_, ?_⟩, fun i hi => ?_⟩, (fr5.tr (x4.sub (by decide))).tr (y3.sub (by decide)), fun k hk => by rw [y0]; exact fs5 k hk⟩
  · unfold fX11_unpack
    rw [rd_k (by omega) (by omega), bnd_s, pw_s, bnd_s, n1, rd_k (by omega) (by omega), bnd_s, pw_s, bnd_s, n2, rd_k (by omega) (by omega), bnd_s, pw_s, bnd_s, uo, uo, uo, ← e5, x1, bnd_s, y1, bnd_s]
  · rw [y0, e5, up2_sn (by decide), up2_sn (by decide), up2_ss]; exact hP.1.1
  · rw [y0, e5, up2_sn (by decide), up2_ss]; exact hP.1.2.1
  · rw [y0, e5, up2_ss]; exact hP.1.2.2
  · rw [y3 19 (by decide), x2 r (by omega)]; exact (hP.2.1 r hr).1
  · rw [y3 20 (by decide), x3 r (by omega)]; exact (hP.2.1 r hr).2
  · rw [y2 i (by omega)]; exact hP.2.2 i hi
