/-! ===== order: the reference's search ===== -/
def aOrd (M : ST) (A : AS) (r : List Nat) : Nat → AS
  | 0 => A
  | j + 1 => aPass M (aOrd M A r j) (nI (r.getD j 0)) (M 3 4)
def upB (val : List Nat → Int32) (s : Int32 × Option (List Nat)) (r : List Nat) : Int32 × Option (List Nat) := if s.1 < val r then (val r, some r) else s
def rowsF (n : Nat) : Nat → List Nat → List (List Nat)
  | 0, pre => [pre]
  | d + 1, pre => (List.range n).flatMap fun w => if w ∈ pre then [] else rowsF n d (pre ++ [w])
theorem mask_k : ∀ m, m < 32 → ∀ w, w < 5 → (nI m ||| ((1 : Int32) <<< (nI w &&& 31))) = nI (m ||| 2 ^ w) ∧ (((nI m >>> (nI w &&& 31)) &&& 1 = 1) ↔ m.testBit w = true) := by decide
theorem mask_l : ∀ m, m < 32 → ∀ w, w < 5 → m ||| 2 ^ w < 32 := by decide
theorem mask_t : ∀ w, w < 5 → ∀ v, v < 5 → ((2 ^ w).testBit v = true ↔ v = w) := by decide
theorem isOf_k {h : ST} {m w : Nat} (hm : m < 32) (hw : w < 5) : fX11_isOf h (nI m) (nI w) = some (if m.testBit w = true then 1 else 0) := by
  have e := (mask_k m hm w hw).2
  unfold fX11_isOf fX11_isOf_14
  by_cases c : m.testBit w = true
  · rw [if_pos (e.mpr c), if_pos c, zb_1, bnd_s]
  · rw [if_neg (fun q => c (e.mp q)), if_neg c, zb_0, bnd_s]
theorem byOrdM {M : ST} (hB : FB M) {A : AS} {h : ST} (hF : FM M h) (hR : RM1 M A h) {r : List Nat} (hr : ∀ j, j < nW M → h 28 j = nI (r.getD j 0) ∧ r.getD j 0 < nW M) {a : Nat} (ha : a < nR M) :
    ∃ y, fX11_byOrder h (nI a) = some (aD (aOrd M A r (nW M)) a, y) ∧ RM1 M A y ∧ Fr [0, 19, 20, 21, 23, 24, 25, 27] h y ∧ Fs 0 [33, 34, 35] h y := by
  have h9 := hB.1.2.1
  have h10 := hB.1.2.2.2.2.2.2.2
  have hW5 := hB.1.2.2.2.2.2.1
  have b2 := hB.1.2.2.2.2.1
  obtain ⟨p, p1, p2, -, p4⟩ := packM h9 h10 hR (o := 27) (n := 31) (b := 0) (by decide) (by decide) (by decide)
  have pe : ∀ i, i ≠ 27 → p i = h i := fun i hi => p4 i (by simp only [List.mem_cons, List.not_mem_nil, or_false]; omega)
  have pR : RM1 M A p := by
    unfold RM1
    rw [pe 0 (by decide), pe 19 (by decide), pe 20 (by decide), pe 21 (by decide)]
    exact hR
  obtain ⟨z, z1, z2, z3, z4⟩ : ∃ z, lp FU (fX11_byOrder_11 (nI a)) (p, 0) = some z ∧ RM1 M (aOrd M A r (nW M)) z ∧ Fr [0, 19, 20, 23, 24, 25] p z ∧ Fs 0 [33, 34] p z := by
    refine lp_cnt (b := fX11_byOrder_11 (nI a)) (fun i s => s.2 = nI i ∧ RM1 M (aOrd M A r i) s.1 ∧ Fr [0, 19, 20, 23, 24, 25] p s.1 ∧ Fs 0 [33, 34] p s.1) (nW M) (by omega) ?_ ?_ ⟨rfl, pR, Fr.rf, Fs.rf⟩
    · rintro i ⟨s, t⟩ hi ⟨rfl, s1, s2, s3⟩
      dsimp only at s1 s2 s3
      have sF : FM M s := fun j hj => (s2 j (by simp only [FMl, List.mem_cons, List.not_mem_nil, or_false] at hj ⊢; omega)).trans ((pe j (by simp only [FMl, List.mem_cons, List.not_mem_nil, or_false] at hj; omega)).trans (hF j hj))
      have g3 : s 3 = M 3 := sF 3 (by decide)
      have g28 : s 28 i = nI (r.getD i 0) := by rw [s2 28 (by decide), pe 28 (by decide)]; exact (hr i hi).1
      obtain ⟨u, u1, u2, u3, u4⟩ := passM hB sF s1 (w := nI (r.getD i 0)) (e := M 3 4) (Or.inr ⟨_, (hr i hi).2, rfl⟩) (okE4 hB)
      have q := nI_ge hi (show nW M < 2 ^ 31 by omega)
      refine Or.inl ⟨(u, nI (i + 1)), ?_, rfl, u2, s2.tr u3, s3.tr u4⟩
      simp only [fX11_byOrder_11, bnd_s, pw_s, rd_0, rd_1, rd_2, rd_3, rd_4, rd_5, rd_6, wr_0, wr_1, wr_2, wr_3, wr_4, wr_5, zb_0, zb_1, Nat.reduceLT, Nat.reducePow, g3, b2, if_neg q, rd_k (n := 5) (show i < 5 by omega), g28, u1, nI_1]
    · rintro ⟨s, t⟩ ⟨rfl, s1, s2, s3⟩
      dsimp only at s1 s2 s3
      have g3 : s 3 = M 3 := (s2 3 (by decide)).trans ((pe 3 (by decide)).trans (hF 3 (by decide)))
      exact ⟨s, by simp only [fX11_byOrder_11, bnd_s, pw_s, rd_0, rd_1, rd_2, rd_3, rd_4, rd_5, rd_6, wr_0, wr_1, wr_2, wr_3, wr_4, wr_5, zb_0, zb_1, Nat.reduceLT, Nat.reducePow, g3, b2, Int32.le_refl, if_true], s1, s2, s3⟩
  obtain ⟨y, y1, y2, y3, y4⟩ := unpackM h9 h10 (hm := z) (o := 27) (n := 31) (b := 0) (A := A) (by rw [z3 27 (by decide)]; exact p2) (by decide) (by decide) (by decide)
  refine ⟨y, ?_, y2, ((p4.sub (by decide)).tr (z3.sub (by decide))).tr (y3.sub (by decide)), ((Fs.of p4 (by decide)).tr (z4.sub (by decide))).tr y4⟩
  unfold fX11_byOrder
  rw [show fX11_pack h 27 31 0 = some p from p1, bnd_s, z1, bnd_s, rd_k (n := 9) (show a < 9 by omega), bnd_s, show fX11_unpack z 27 31 0 = some y from y1, bnd_s, (z2.2.1 a ha).1]
def HO (M : ST) (A : AS) (hm h : ST) (s : Int32 × Option (List Nat)) : Prop := RM1 M A h ∧ FM M h ∧ Fr Km hm h ∧ Fs 0 KmS hm h ∧ h 0 2 = 0 ∧ h 0 45 = s.1 ∧ ∀ r, s.2 = some r → ∀ j, j < nW M → h 29 j = nI (r.getD j 0)
theorem getD_app {r : List Nat} {w j : Nat} (h : j < r.length) : (r ++ [w]).getD j 0 = r.getD j 0 := by
  rw [List.getD_eq_getElem?_getD, List.getD_eq_getElem?_getD, List.getElem?_append_left h]
theorem getD_app2 {r : List Nat} {w : Nat} : (r ++ [w]).getD r.length 0 = w := by
  rw [List.getD_eq_getElem?_getD, List.getElem?_append_right (Nat.le_refl _), Nat.sub_self]; rfl
theorem getD_mem {r : List Nat} {j : Nat} (h : j < r.length) : r.getD j 0 ∈ r := by
  rw [List.getD_eq_getElem?_getD, List.getElem?_eq_getElem h]
  exact List.getElem_mem h
theorem go_s (k : Nat) (h : ST) (a b c : Int32) : fX11_goOrders (k + 1) h a b c = fX11_goOrders_b (fX11_goOrders k) h a b c := by rw [fX11_goOrders]
theorem goM {M : ST} (hB : FB M) {A : AS} {hm : ST} {a : Nat} (ha : a < nR M) : ∀ d dd pre m h s, pre.length + d = nW M → d < dd → (∀ w, w ∈ pre → w < nW M) → m < 32 → (∀ w, w < nW M → (m.testBit w = true ↔ w ∈ pre)) → (∀ j, j < pre.length → h 28 j = nI (pre.getD j 0)) → HO M A hm h s →
    ∃ h', fX11_goOrders dd h (nI a) (nI pre.length) (nI m) = some h' ∧ HO M A hm h' ((rowsF (nW M) d pre).foldl (upB fun r => aD (aOrd M A r (nW M)) a) s) ∧ ∀ j, j < pre.length → h' 28 j = nI (pre.getD j 0) := by
  have hW5 := hB.1.2.2.2.2.2.1
  have b2 := hB.1.2.2.2.2.1
  intro d
  induction d with
  | zero =>
    intro dd pre m h s hl hd hp hm32 hmask h28 hH
    obtain ⟨dd, rfl⟩ : ∃ k, dd = k + 1 := ⟨dd - 1, by omega⟩
    obtain ⟨k1, k2, k3, k4, k5, k6, k7⟩ := hH
    have lw : pre.length = nW M := by omega
    have g3 : h 3 = M 3 := k2 3 (by decide)
    obtain ⟨y, y1, y2, y3, y4⟩ := byOrdM hB k2 k1 (r := pre) (fun j hj => ⟨h28 j (by omega), hp _ (getD_mem (by omega))⟩) ha
    have y45 : y 0 45 = s.1 := (y4 45 (by decide)).trans k6
    have yF : FM M y := fun j hj => (y3 j (by simp only [FMl, List.mem_cons, List.not_mem_nil, or_false] at hj ⊢; omega)).trans (k2 j hj)
    have yH : HO M A hm y s := ⟨y2, yF, k3.tr (y3.sub (by decide)), k4.tr (y4.sub (by decide)), (y4 2 (by decide)).trans k5, y45, fun r hr j hj => by rw [y3 29 (by decide)]; exact k7 r hr j hj⟩
    have e : rowsF (nW M) 0 pre = [pre] := by rw [rowsF]
    rw [e, List.foldl_cons, List.foldl_nil, go_s]
    have hd : fX11_goOrders_b (fX11_goOrders dd) h (nI a) (nI pre.length) (nI m) = (if s.1 < aD (aOrd M A pre (nW M)) a then bnd (pw y 0 45 (aD (aOrd M A pre (nW M)) a)) fun h19 => bnd (lp FU (fX11_goOrders_36 (fX11_goOrders dd) (nI pre.length)) (h19, 0)) fun x26 => some x26 else some y) := by
      simp only [fX11_goOrders_b, bnd_s, pw_s, rd_0, rd_1, rd_2, rd_3, rd_4, rd_5, rd_6, wr_0, wr_1, wr_2, wr_3, wr_4, wr_5, zb_0, zb_1, Nat.reduceLT, Nat.reducePow, g3, b2, lw, if_true, y1, y45]
    rw [hd]
    by_cases c : s.1 < aD (aOrd M A pre (nW M)) a
    · obtain ⟨x, ex⟩ : ∃ x, x = up2 y 0 45 (aD (aOrd M A pre (nW M)) a) := ⟨_, rfl⟩
      have xk : ∀ i, i ≠ 0 → x i = y i := fun i hi => by rw [ex, up2_n hi]
      obtain ⟨z, z1, z2, z3⟩ : ∃ z, lp FU (fX11_goOrders_36 (fX11_goOrders dd) (nI pre.length)) (x, 0) = some z ∧ (∀ j, j < pre.length → z 29 j = nI (pre.getD j 0)) ∧ Fr [29] x z := by
        refine lp_cnt (b := fX11_goOrders_36 (fX11_goOrders dd) (nI pre.length)) (fun i s => s.2 = nI i ∧ (∀ j, j < i → s.1 29 j = nI (pre.getD j 0)) ∧ Fr [29] x s.1) pre.length (by omega) ?_ ?_ ⟨rfl, fun j hj => absurd hj (Nat.not_lt_zero j), Fr.rf⟩
        · rintro i ⟨s, t⟩ hi ⟨rfl, s1, s2⟩
          dsimp only at s1 s2
          have g28 : s 28 i = nI (pre.getD i 0) := by rw [s2 28 (by decide), xk 28 (by decide), y3 28 (by decide)]; exact h28 i hi
          refine Or.inl ⟨(up2 s 29 i (nI (pre.getD i 0)), nI (i + 1)), ?_, rfl, fun j hj => ?_, s2.up (by decide)⟩
          · simp only [fX11_goOrders_36, if_neg (nI_ge hi (show pre.length < 2 ^ 31 by omega)), rd_k (n := 5) (show i < 5 by omega), bnd_s, pw_s, rd_0, rd_1, rd_2, rd_3, rd_4, rd_5, rd_6, wr_0, wr_1, wr_2, wr_3, wr_4, wr_5, zb_0, zb_1, Nat.reduceLT, Nat.reducePow, g28, wr_k (n := 5) (show i < 5 by omega), nI_1]
          · dsimp only
            rw [up2_s]
            by_cases q : j = i
            · rw [q, upd_s]
            · rw [upd_n q]; exact s1 j (by omega)
        · rintro ⟨s, t⟩ ⟨rfl, s1, s2⟩
          exact ⟨s, by simp only [fX11_goOrders_36, Int32.le_refl, if_true], s1, s2⟩
      have ze : ∀ i, i ≠ 0 → i ≠ 29 → z i = y i := fun i h1 h2 => (z3 i (by simp only [List.mem_cons, List.not_mem_nil, or_false]; omega)).trans (xk i h1)
      have z0 : z 0 = x 0 := z3 0 (by decide)
      refine ⟨z, ?_, ⟨?_, fun j hj => ?_, ?_, ?_, ?_, ?_, ?_⟩, fun j hj => ?_⟩
      · rw [if_pos c, pw_s, bnd_s, ← ex, z1, bnd_s]
      · unfold RM1
        rw [z0, ex, up2_sn (by decide), up2_sn (by decide), up2_sn (by decide), ze 19 (by decide) (by decide), ze 20 (by decide) (by decide), ze 21 (by decide) (by decide)]
        exact y2
      · rw [ze j (by simp only [FMl, List.mem_cons, List.not_mem_nil, or_false] at hj; omega) (by simp only [FMl, List.mem_cons, List.not_mem_nil, or_false] at hj; omega)]
        exact yF j hj
      · have f1 : Fr Km hm x := by rw [ex]; exact yH.2.2.1.up (by decide)
        exact f1.tr (z3.sub (by decide))
      · have f1 : Fs 0 KmS hm x := by rw [ex]; exact yH.2.2.2.1.up (by decide)
        exact f1.tr (Fs.of z3 (by decide))
      · rw [z0, ex, up2_sn (by decide)]; exact yH.2.2.2.2.1
      · rw [z0, ex, up2_ss]
        unfold upB
        rw [if_pos c]
      · unfold upB
        rw [if_pos c]
        intro r hr j hj
        cases hr
        exact z2 j (by omega)
      · rw [ze 28 (by decide) (by decide), y3 28 (by decide)]; exact h28 j hj
    · rw [if_neg c]
      refine ⟨y, rfl, ?_, fun j hj => by rw [y3 28 (by decide)]; exact h28 j hj⟩
      unfold upB
      rw [if_neg c]
      exact yH
  | succ d ih =>
    intro dd pre m h s hl hd hp hm32 hmask h28 hH
    obtain ⟨dd, rfl⟩ : ∃ k, dd = k + 1 := ⟨dd - 1, by omega⟩
    have ne : ¬ nI pre.length = nI (nW M) := fun q => by
      have := (nI_eq (by omega) (by omega)).mp q
      omega
    have g3 : ∀ x : ST, FM M x → x 3 = M 3 := fun x hx => hx 3 (by decide)
    have main : ∃ z, lp FU (fX11_goOrders_66 (fX11_goOrders dd) (nI a) (nI pre.length) (nI m)) (h, 0) = some z ∧ HO M A hm z (((List.range (nW M)).flatMap fun w => if w ∈ pre then [] else rowsF (nW M) d (pre ++ [w])).foldl (upB fun r => aD (aOrd M A r (nW M)) a) s) ∧ ∀ j, j < pre.length → z 28 j = nI (pre.getD j 0) := by
      refine lp_cnt (b := fX11_goOrders_66 (fX11_goOrders dd) (nI a) (nI pre.length) (nI m)) (fun i x => x.2 = nI i ∧ HO M A hm x.1 (((List.range i).flatMap fun w => if w ∈ pre then [] else rowsF (nW M) d (pre ++ [w])).foldl (upB fun r => aD (aOrd M A r (nW M)) a) s) ∧ ∀ j, j < pre.length → x.1 28 j = nI (pre.getD j 0)) (nW M) (by omega) ?_ ?_ ⟨rfl, hH, h28⟩
      · rintro i ⟨x, t⟩ hi ⟨rfl, x1, x2⟩
        dsimp only at x1 x2
        have q := nI_ge hi (show nW M < 2 ^ 31 by omega)
        have io := isOf_k (h := x) hm32 (show i < 5 by omega)
        have fold : ((List.range (i + 1)).flatMap fun w => if w ∈ pre then [] else rowsF (nW M) d (pre ++ [w])) = ((List.range i).flatMap fun w => if w ∈ pre then [] else rowsF (nW M) d (pre ++ [w])) ++ (if i ∈ pre then [] else rowsF (nW M) d (pre ++ [i])) := by
          rw [List.range_succ, List.flatMap_append]
          simp only [List.flatMap_cons, List.flatMap_nil, List.append_nil]
        have n1 : ¬ (1 : Int32) = 0 := by decide
        by_cases c : i ∈ pre
        · rw [if_pos ((hmask i hi).mpr c)] at io
          refine Or.inl ⟨(x, nI (i + 1)), ?_, rfl, ?_, x2⟩
          · simp only [fX11_goOrders_66, fX11_goOrders_111, bnd_s, pw_s, rd_0, rd_1, rd_2, rd_3, rd_4, rd_5, rd_6, wr_0, wr_1, wr_2, wr_3, wr_4, wr_5, zb_0, zb_1, Nat.reduceLT, Nat.reducePow, g3 x x1.2.1, b2, if_neg q, io, if_neg n1, nI_1]
          · rw [fold, if_pos c, List.append_nil]; exact x1
        · rw [if_neg (fun w => c ((hmask i hi).mp w))] at io
          obtain ⟨y, ey⟩ : ∃ y, y = up2 x 28 pre.length (nI i) := ⟨_, rfl⟩
          have yk : ∀ j, j ≠ 28 → y j = x j := fun j hj => by rw [ey, up2_n hj]
          obtain ⟨k1, k2, k3, k4, k5, k6, k7⟩ := id x1
          have yH : HO M A hm y (((List.range i).flatMap fun w => if w ∈ pre then [] else rowsF (nW M) d (pre ++ [w])).foldl (upB fun r => aD (aOrd M A r (nW M)) a) s) := by
            refine ⟨?_, fun j hj => ?_, by rw [ey]; exact k3.up (by decide), by rw [ey]; exact k4.un (by decide), by rw [yk 0 (by decide)]; exact k5, by rw [yk 0 (by decide)]; exact k6, fun r hr j hj => by rw [yk 29 (by decide)]; exact k7 r hr j hj⟩
            · unfold RM1
              rw [yk 0 (by decide), yk 19 (by decide), yk 20 (by decide), yk 21 (by decide)]
              exact k1
            · rw [yk j (by simp only [FMl, List.mem_cons, List.not_mem_nil, or_false] at hj; omega)]
              exact k2 j hj
          have ll : (pre ++ [i]).length = pre.length + 1 := by simp
          obtain ⟨z, z1, z2, z3⟩ := ih dd (pre ++ [i]) (m ||| 2 ^ i) y _ (by rw [ll]; omega) (by omega) (fun w hw => by
            rcases List.mem_append.mp hw with u | u
            · exact hp w u
            · rw [List.mem_singleton.mp u]; exact hi) (mask_l m hm32 i (by omega)) (fun w hw => by
            rw [Nat.testBit_or, Bool.or_eq_true, hmask w hw, mask_t i (by omega) w (by omega), List.mem_append, List.mem_singleton]) (fun j hj => by
            rw [ll] at hj
            rw [ey, up2_s]
            by_cases u : j = pre.length
            · rw [u, upd_s, getD_app2]
            · rw [upd_n u, getD_app (by omega)]; exact x2 j (by omega)) yH
          rw [ll] at z1 z3
          refine Or.inl ⟨(z, nI (i + 1)), ?_, rfl, ?_, fun j hj => ?_⟩
          · simp only [fX11_goOrders_66, fX11_goOrders_111, bnd_s, pw_s, rd_0, rd_1, rd_2, rd_3, rd_4, rd_5, rd_6, wr_0, wr_1, wr_2, wr_3, wr_4, wr_5, zb_0, zb_1, Nat.reduceLT, Nat.reducePow, g3 x x1.2.1, b2, if_neg q, io, if_true, wr_k (n := 5) (show pre.length < 5 by omega), ← ey, nI_1, (mask_k m hm32 i (by omega)).1, z1]
          · rw [fold, if_neg c, List.foldl_append]; exact z2
          · have := z3 j (by omega)
            dsimp only
            rw [this, getD_app hj]
      · rintro ⟨x, t⟩ ⟨rfl, x1, x2⟩
        dsimp only at x1 x2
        exact ⟨x, by simp only [fX11_goOrders_66, bnd_s, pw_s, rd_0, rd_1, rd_2, rd_3, rd_4, rd_5, rd_6, wr_0, wr_1, wr_2, wr_3, wr_4, wr_5, zb_0, zb_1, Nat.reduceLT, Nat.reducePow, g3 x x1.2.1, b2, Int32.le_refl, if_true], x1, x2⟩
    obtain ⟨z, z1, z2, z3⟩ := main
    have er : rowsF (nW M) (d + 1) pre = (List.range (nW M)).flatMap fun w => if w ∈ pre then [] else rowsF (nW M) d (pre ++ [w]) := by rw [rowsF]
    rw [er]
    refine ⟨z, ?_, z2, z3⟩
    rw [go_s]
    simp only [fX11_goOrders_b, bnd_s, pw_s, rd_0, rd_1, rd_2, rd_3, rd_4, rd_5, rd_6, wr_0, wr_1, wr_2, wr_3, wr_4, wr_5, zb_0, zb_1, Nat.reduceLT, Nat.reducePow, g3 h hH.2.1, b2, if_neg ne, z1]
