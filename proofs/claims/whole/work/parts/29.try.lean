/-! ===== trials ===== -/
theorem tryC {f : Nat} {M : ST} {A : AS} {hc hm : ST} (h : J f M A hc hm) {n : Nat} (hn : n ≤ 99) : ∃ h1, fX10_tryDays hc (nI n) = some h1 ∧ RC 386 M (aDays M n A) h1 ∧ KcE f hc h1 ∧ CF f M h1 ∧ h1 0 3 = nI f := by
  obtain ⟨hf, h0, hB, hF, hCF, hR, hR1, hA⟩ := h
  obtain ⟨y, y1, y2, y3⟩ := copyR (o := 386) (o1 := 43) (by omega) hB.1.2.1 hB.1.2.2.2.2.2.2.2 hR
  have k0 : y 0 = hc 0 := y3 0 (by decide)
  have hC1 : CF f M y := hCF.kept (fun j hj => y3 j (by simp only [CFcells, List.mem_cons, List.not_mem_nil, or_false] at hj ⊢; omega))
  obtain ⟨z, z1, z2, z3⟩ := manyC hf (Or.inr rfl) hB hC1 hA y2 (n := n) (by omega) (by omega)
  have z0 : z 0 = y 0 := z3 0 (by simp only [List.mem_cons, List.not_mem_nil, or_false]; omega)
  refine ⟨z, ?_, z2, (KcE.of y3 (fun i hi => ?_)).tr (KcE.of z3 (fun i hi => ?_)), hC1.kept (fun j hj => z3 j ?_), by rw [z0, k0]; exact h0⟩
  · unfold fX10_tryDays
    rw [y1, bnd_s, k0, rf_f hf h0, bnd_s, z1, bnd_s]
  · simp only [List.mem_cons, List.not_mem_nil, or_false] at hi; omega
  · simp only [List.mem_cons, List.not_mem_nil, or_false] at hi; omega
  · simp only [CFcells, List.mem_cons, List.not_mem_nil, or_false] at hj ⊢; omega
theorem copyT {f : Nat} {M : ST} {A : AS} {hc hm : ST} (h : J f M A hc hm) : ∃ h1, fX8_copy hc 386 43 = some h1 ∧ RC 386 M A h1 ∧ KcE f hc h1 ∧ CF f M h1 ∧ h1 0 3 = nI f := by
  obtain ⟨hf, h0, hB, hF, hCF, hR, hR1, hA⟩ := h
  obtain ⟨y, y1, y2, y3⟩ := copyR (o := 386) (o1 := 43) (by omega) hB.1.2.1 hB.1.2.2.2.2.2.2.2 hR
  have k0 : y 0 = hc 0 := y3 0 (by decide)
  refine ⟨y, y1, y2, KcE.of y3 (fun i hi => ?_), hCF.kept (fun j hj => y3 j ?_), by rw [k0]; exact h0⟩
  · simp only [List.mem_cons, List.not_mem_nil, or_false] at hi; omega
  · simp only [CFcells, List.mem_cons, List.not_mem_nil, or_false] at hj ⊢; omega
/-- one more day of the class's trial -/
theorem oneC {f : Nat} (hf : f = 2 ∨ f = 20) {M h : ST} {B : AS} (hB : FB M) (hC : CF f M h) (h0 : h 0 3 = nI f) {K : Nat} (hK : K < 1000000) (hA : AB M K B) (hR : RC 386 M B h) : ∃ h1, fX1_passMany h f 386 1 = some h1 ∧ RC 386 M (aDay M B) h1 ∧ KcE f h h1 ∧ CF f M h1 ∧ h1 0 3 = nI f := by
  obtain ⟨z, z1, z2, z3⟩ := manyC hf (Or.inr rfl) hB hC hA hR (n := 1) (by omega) (by omega)
  have z0 : z 0 = h 0 := z3 0 (by simp only [List.mem_cons, List.not_mem_nil, or_false]; omega)
  refine ⟨z, z1, z2, KcE.of z3 (fun i hi => ?_), hC.kept (fun j hj => z3 j ?_), by rw [z0]; exact h0⟩
  · simp only [List.mem_cons, List.not_mem_nil, or_false] at hi; omega
  · simp only [CFcells, List.mem_cons, List.not_mem_nil, or_false] at hj ⊢; omega
theorem failM {M : ST} {A : AS} {hm : ST} (h : RM1 M A hm) (k : Int32) : fX11_fail (up2 hm 0 2 0) k = some (0, up2 (up2 hm 0 2 0) 0 2 k) ∧ MR M A k hm (up2 (up2 hm 0 2 0) 0 2 k) :=
  ⟨rfl, (Fr.rf.up (by decide)).up (by decide), (Fs.rf.up (by decide)).up (by decide), rm_up (rm_up h (by decide) _) (by decide) _, up2_ss _ _ _ _⟩
theorem codeM {M : ST} {A : AS} {hm : ST} (h : RM1 M A hm) : MR M A 0 hm (up2 hm 0 2 0) := ⟨Fr.rf.up (by decide), Fs.rf.up (by decide), rm_up h (by decide) _, up2_ss _ _ _ _⟩
/-- what a trial of the reference keeps: the packed row, and what may have changed -/
def TM (M : ST) (A B : AS) (hm r : ST) : Prop := PA (r 27) 0 M A ∧ RM1 M B r ∧ FM M r ∧ Fr Km hm r ∧ Fs 0 KmS hm r ∧ r 0 2 = 0
theorem beginM {f : Nat} {M : ST} {A : AS} {hc hm : ST} (h : J f M A hc hm) : ∃ r, fX11_pack (up2 hm 0 2 0) 27 31 0 = some r ∧ TM M A A hm r := by
  obtain ⟨hf, h0, hB, hF, hCF, hR, hR1, hA⟩ := h
  obtain ⟨y, y1, y2, y3, y4⟩ := packM hB.1.2.1 hB.1.2.2.2.2.2.2.2 (rm_up hR1 (k := 2) (by decide) 0) (o := 27) (n := 31) (b := 0) (by decide) (by decide) (by decide)
  have hF1 := fm_up hF 2 0
  refine ⟨y, y1, y2, ?_, fun i hi => (y4 i (by simp only [FMl, List.mem_cons, List.not_mem_nil, or_false] at hi ⊢; omega)).trans (hF1 i hi), (Fr.rf.up (by decide)).tr (y4.sub (by decide)), (Fs.rf.up (by decide)).tr (Fs.of y4 (by decide)), by rw [y4 0 (by decide), up2_ss]⟩
  have := rm_up hR1 (k := 2) (by decide) 0
  unfold RM1 at this ⊢
  rw [y4 0 (by decide), y4 19 (by decide), y4 20 (by decide), y4 21 (by decide)]
  exact this
theorem TM.step {M : ST} {A B C : AS} {hm r r' : ST} (h : TM M A B hm r) (h1 : RM1 M C r') (h2 : Fr [0, 19, 20, 21, 23, 24, 25, 26, 28, 29, 30, 31, 32, 36] r r') (h3 : Fs 0 [33, 34, 35, 45, 53] r r') : TM M A C hm r' := by
  obtain ⟨a1, a2, a3, a4, a5, a6⟩ := h
  refine ⟨by rw [h2 27 (by decide)]; exact a1, h1, fun i hi => (h2 i (by simp only [FMl, List.mem_cons, List.not_mem_nil, or_false] at hi ⊢; omega)).trans (a3 i hi), a4.tr (h2.sub (by decide)), a5.tr (h3.sub (by decide)), by rw [h3 2 (by decide)]; exact a6⟩
theorem TM.back {M : ST} (h9 : nR M ≤ 9) (h10 : nC M ≤ 10) {A B : AS} {hm r : ST} (h : TM M A B hm r) : ∃ r', fX11_unpack r 27 31 0 = some r' ∧ MR M A 0 hm r' := by
  obtain ⟨a1, a2, a3, a4, a5, a6⟩ := h
  obtain ⟨y, y1, y2, y3, y4⟩ := unpackM h9 h10 (o := 27) (n := 31) (b := 0) a1 (by decide) (by decide) (by decide)
  exact ⟨y, y1, a4.tr (y3.sub (by decide)), a5.tr (y4.sub (by decide)), y2, by rw [y4 2 (by decide)]; exact a6⟩
theorem TM.days {M : ST} (hB : FB M) {A B : AS} {hm r : ST} (h : TM M A B hm r) {K : Nat} (hA : AB M K B) {n : Nat} (hK : K + n < 2000000) (hn : n < 100000) : ∃ r', fX11_goOn r (nI n) = some r' ∧ TM M A (aDays M n B) hm r' := by
  obtain ⟨y, y1, y2, y3, y4⟩ := goOnM hB h.2.2.1 hA h.2.1 hK hn
  exact ⟨y, y1, h.step y2 (y3.sub (by decide)) (y4.sub (by decide))⟩
theorem TM.day {M : ST} (hB : FB M) {A B : AS} {hm r : ST} (h : TM M A B hm r) {K : Nat} (hA : AB M K B) (hK : K < 2000000) : ∃ r', fX11_aDay r = some r' ∧ TM M A (aDay M B) hm r' := by
  obtain ⟨y, y1, y2, y3, y4⟩ := dayM hB h.2.2.1 hK hA h.2.1
  exact ⟨y, y1, h.step y2 (y3.sub (by decide)) (y4.sub (by decide))⟩
/-! then, taken -/
theorem t_then {hc hm : ST} (hI : Inv hc hm) (a1 a2 : Int32) : ∃ y, s_then hc hm a1 a2 = some y ∧ Inv y.1 y.2 := by
  obtain ⟨f, M, A, h, h2⟩ := hI
  obtain ⟨hf, h0, hB, hF, hCF, hR, hR1, hA⟩ := id h
  unfold s_then fL_then
  apply s_ok
  rcases room_c h a1 with ⟨k, hk, rfl, e1, e2⟩ | ⟨e1, e2⟩
  · rcases ahead_c hc a2 with ⟨n, hn, rfl, e3, e4⟩ | ⟨e3, e4⟩
    · obtain ⟨z, z1, z2, z3, z4, z5⟩ := tryC h hn
      obtain ⟨r, r1, r2⟩ := beginM h
      obtain ⟨r', r3, r4⟩ := r2.days hB hA (n := n) (by omega) (by omega)
      obtain ⟨r'', r5, r6⟩ := r4.back hB.1.2.1 hB.1.2.2.2.2.2.2.2
      have h9 := hB.1.2.1
      refine Or.inl ⟨aD (aDays M n A) k, z, r'', ?_, ?_, r6.2.2.2, Inv.ro h h2 z3 r6⟩
      · simp only [fX10_then, bnd_s, pw_s, rd_0, rd_1, rd_2, rd_3, rd_4, rd_5, rd_6, wr_0, wr_1, wr_2, wr_3, wr_4, wr_5, zb_0, zb_1, Nat.reduceLT, Nat.reducePow, e1, e3, sm, z1, rd_k (n := 9) (show k < 9 by omega), (z2.2.1 k hk).1]
      · simp only [fX11_then, bnd_s, pw_s, rd_0, rd_1, rd_2, rd_3, rd_4, rd_5, rd_6, wr_0, wr_1, wr_2, wr_3, wr_4, wr_5, zb_0, zb_1, Nat.reduceLT, Nat.reducePow, e2 _ (fm_up hF 2 0), e4, r1, r3, r5, rd_k (n := 9) (show k < 9 by omega), (r4.2.1.2.1 k hk).1, if_neg (show ¬ (1 : Int32) = 0 by decide)]
    · obtain ⟨q1, q2⟩ := failM hR1 2
      refine Or.inr ⟨2, 2, 0, hc, _, ?_, rfl, by decide, ?_, q2.2.2.2, Inv.ro h h2 (fun _ _ _ _ => rfl) q2⟩
      · simp only [fX10_then, bnd_s, pw_s, rd_0, rd_1, rd_2, rd_3, rd_4, rd_5, rd_6, wr_0, wr_1, wr_2, wr_3, wr_4, wr_5, zb_0, zb_1, Nat.reduceLT, Nat.reducePow, e1, e3, sm]
      · simp only [fX11_then, bnd_s, pw_s, rd_0, rd_1, rd_2, rd_3, rd_4, rd_5, rd_6, wr_0, wr_1, wr_2, wr_3, wr_4, wr_5, zb_0, zb_1, Nat.reduceLT, Nat.reducePow, e2 _ (fm_up hF 2 0), e4, q1, if_neg (show ¬ (1 : Int32) = 0 by decide), if_true]
  · obtain ⟨q1, q2⟩ := failM hR1 1
    refine Or.inr ⟨1, 1, 0, hc, _, ?_, rfl, by decide, ?_, q2.2.2.2, Inv.ro h h2 (fun _ _ _ _ => rfl) q2⟩
    · simp only [fX10_then, bnd_s, pw_s, rd_0, rd_1, rd_2, rd_3, rd_4, rd_5, rd_6, wr_0, wr_1, wr_2, wr_3, wr_4, wr_5, zb_0, zb_1, Nat.reduceLT, Nat.reducePow, e1, sm]
    · simp only [fX11_then, bnd_s, pw_s, rd_0, rd_1, rd_2, rd_3, rd_4, rd_5, rd_6, wr_0, wr_1, wr_2, wr_3, wr_4, wr_5, zb_0, zb_1, Nat.reduceLT, Nat.reducePow, e2 _ (fm_up hF 2 0), q1, if_true]
/-- the reference's tithe in n days, tithed every e -/
def aDaysE (M : ST) (e : Int32) : Nat → AS → AS
  | 0, A => A
  | n + 1, A => aPass M (aDaysE M e n A) (aWindOf M (aDaysE M e n A) (aY (aDaysE M e n A))) e
theorem aDaysE_4 (M : ST) (A : AS) : ∀ n, aDaysE M (M 3 4) n A = aDays M n A
  | 0 => rfl
  | n + 1 => by show aPass M _ _ _ = aDay M _; rw [aDaysE_4 M A n]; rfl
theorem AB.daysE {M : ST} (hB : FB M) {e : Int32} {K : Nat} {A : AS} (h : AB M K A) : ∀ n, K + n < 2000000 → AB M (K + n) (aDaysE M e n A)
  | 0, _ => h
  | n + 1, hn => by
    have h1 := h.daysE (e := e) hB n (by omega)
    obtain ⟨q1, q2, y, t, hy, ht, ey, et⟩ := id h1
    show AB M (K + n + 1) (aPass M _ _ _)
    rw [ey]
    exact h1.pass hB (h1.okD hB (by omega))
theorem TM.takenIn0 {M : ST} (hB : FB M) {A B : AS} {hm r : ST} (h : TM M A B hm r) {K : Nat} (hA : AB M K B) {n : Nat} (hK : K + n < 2000000) (hn : n < 100000) {e : Int32} (he : okE e) (w : Int32) : ∃ r', lp FU (fX11_takenIn_17 (nI n) e w) (r, 0) = some r' ∧ TM M A (aDaysE M e n B) hm r' := by
  obtain ⟨y, h1, h2⟩ := lp_cnt (b := fX11_takenIn_17 (nI n) e w) (s := (r, 0)) (Q := fun y => TM M A (aDaysE M e n B) hm y) (fun i q => q.2 = nI i ∧ TM M A (aDaysE M e i B) hm q.1) n (by omega) (by
    rintro i ⟨r', k⟩ hi ⟨e1, e2⟩
    obtain rfl : k = nI i := e1
    dsimp only at e2
    have hAi := hA.daysE (e := e) hB i (by omega)
    obtain ⟨q1, q2, y, t, hy, ht, ey, et⟩ := id hAi
    have ey' : r' 0 33 = nI y := e2.2.1.1.1.trans ey
    have hw := hAi.okD hB (show y < 2 ^ 31 by omega)
    obtain ⟨z, z1, z2, z3, z4⟩ := passM hB e2.2.2.1 e2.2.1 hw he
    refine Or.inl ⟨(z, nI i + 1), ?_, nI_1 i, e2.step ?_ (z3.sub (by decide)) (z4.sub (by decide))⟩
    · simp only [fX11_takenIn_17, bnd_s, pw_s, rd_0, rd_1, rd_2, rd_3, rd_4, rd_5, rd_6, wr_0, wr_1, wr_2, wr_3, wr_4, wr_5, zb_0, zb_1, Nat.reduceLT, Nat.reducePow, if_neg (nI_ge hi (show n < 2 ^ 31 by omega)), ey', f_windM hB e2.2.2.1 e2.2.1 (show y < 2 ^ 31 by omega), z1]
    · show RM1 M (aPass M _ _ _) z
      rw [ey]; exact z2) (by
    rintro ⟨r', k⟩ ⟨e1, e2⟩
    obtain rfl : k = nI n := e1
    exact ⟨r', by simp only [fX11_takenIn_17, Int32.le_refl, if_true], e2⟩) ⟨rfl, h⟩
  exact ⟨y, h1, h2⟩
