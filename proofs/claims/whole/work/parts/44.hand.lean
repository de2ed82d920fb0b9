/-! ===== hand ===== -/
def soI (D : Nat → Int32) (rm dy mu : Nat → Int32) (d : Nat) : Nat → Bool
  | 0 => true
  | i + 1 => soI D rm dy mu d i && (decide (¬ dy i = nI d) || decide (D (rm i).toNatClampNeg = mu i))
def soD (M : ST) (B : AS) (rm dy mu : Nat → Int32) (k : Nat) : Nat → Bool
  | 0 => true
  | d + 1 => soD M B rm dy mu k d && soI (aD (aDays M d B)) rm dy mu d k
def bz (b : Bool) : Int32 := if b = true then 1 else 0
theorem bz_t : bz true = 1 := rfl
theorem bz_f : bz false = 0 := rfl
def mx (dy : Nat → Int32) (v : Int32) : Nat → Int32
  | 0 => v
  | i + 1 => if mx dy v i < dy i then dy i else mx dy v i
theorem mx_k {dy : Nat → Int32} {k : Nat} (h : ∀ i, i < k → ∃ d, d ≤ 30 ∧ dy i = nI d) : ∀ i, i ≤ k → (∃ n, n ≤ 30 ∧ mx dy 0 i = nI n) ∧ ((i = 0 ∧ mx dy (-1) i = -1 ∧ mx dy 0 i = 0) ∨ mx dy (-1) i = mx dy 0 i)
  | 0, _ => ⟨⟨0, by decide, rfl⟩, Or.inl ⟨rfl, rfl, rfl⟩⟩
  | i + 1, hi => by
    obtain ⟨⟨n, hn, e⟩, c⟩ := mx_k h i (by omega)
    obtain ⟨d, hd, ed⟩ := h i (by omega)
    refine ⟨?_, Or.inr ?_⟩
    · show ∃ n, n ≤ 30 ∧ (if mx dy 0 i < dy i then dy i else mx dy 0 i) = nI n
      by_cases q : mx dy 0 i < dy i
      · rw [if_pos q]; exact ⟨d, hd, ed⟩
      · rw [if_neg q]; exact ⟨n, hn, e⟩
    · show (if mx dy (-1) i < dy i then dy i else mx dy (-1) i) = (if mx dy 0 i < dy i then dy i else mx dy 0 i)
      rcases c with ⟨-, c1, c2⟩ | c
      · rw [c1, c2, ed]
        have q : (-1 : Int32) < nI d := by
          rw [Int32.lt_iff_toInt_lt, nI_toInt (by omega)]
          show (-1 : Int) < _
          omega
        rw [if_pos q]
        by_cases q2 : 0 < nI d
        · rw [if_pos q2]
        · rw [if_neg q2]
          have : d = 0 := by
            refine Nat.eq_zero_of_not_pos (fun p => q2 (nI_lt (a := 0) p (by omega)))
          rw [this]; rfl
      · rw [c]
/-- the sights, as both see them -/
def SG (M : ST) (k : Nat) (rm dy mu : Nat → Int32) : Prop := k ≤ 8 ∧ ∀ i, i < k → (∃ r, r < nR M ∧ rm i = nI r) ∧ ∃ d, d ≤ 30 ∧ dy i = nI d
def SC (k : Nat) (rm dy mu : Nat → Int32) (h : ST) : Prop := h 209 0 = nI k ∧ ∀ i, i < k → h 210 i = rm i ∧ h 211 i = dy i ∧ h 212 i = mu i
def SM (k : Nat) (rm dy mu : Nat → Int32) (h : ST) : Prop := h 0 37 = nI k ∧ ∀ i, i < k → h 33 i = rm i ∧ h 34 i = dy i ∧ h 35 i = mu i
theorem soC {M : ST} (h9 : nR M ≤ 9) {k : Nat} {rm dy mu : Nat → Int32} (hS : SG M k rm dy mu) {h : ST} (hc : SC k rm dy mu h) {B : AS} (hR : RC 386 M B h) (d : Nat) (v : Int32) (ev : v = nI d) : fX7_areSo h 209 v 386 = some (bz (soI (aD B) rm dy mu d k)) := by
  subst ev
  obtain ⟨c0, c1⟩ := hc
  obtain ⟨k8, s1⟩ := hS
  have main : ∃ x, lp FU (fX7_areSo_2 h 209 386 (nI d)) 0 = some x ∧ ((x = .inl () ∧ soI (aD B) rm dy mu d k = false) ∨ (x = .inr () ∧ soI (aD B) rm dy mu d k = true)) := by
    refine lp_cnt (b := fX7_areSo_2 h 209 386 (nI d)) (fun i s => s = nI i ∧ soI (aD B) rm dy mu d i = true) k (by omega) ?_ ?_ ⟨rfl, rfl⟩
    · rintro i s hi ⟨rfl, s2⟩
      obtain ⟨r1, r2, r3⟩ := c1 i hi
      obtain ⟨⟨r, hr, er⟩, -⟩ := s1 i hi
      have q := nI_ge hi (show k < 2 ^ 31 by omega)
      have D1 : h 387 r = aD B r := (hR.2.1 r hr).1
      have nx : soI (aD B) rm dy mu d (i + 1) = (decide (¬ dy i = nI d) || decide (aD B r = mu i)) := by
        show (soI (aD B) rm dy mu d i && _) = _
        rw [s2, er, nI_clamp (by omega), Bool.true_and]
      by_cases c : dy i = nI d
      · by_cases e : aD B r = mu i
        · refine Or.inl ⟨nI (i + 1), ?_, rfl, ?_⟩
          · simp only [fX7_areSo_2, fX7_areSo_42, c0, if_neg q, bnd_s, pw_s, rd_0, rd_1, rd_2, rd_3, rd_4, rd_5, rd_6, wr_0, wr_1, wr_2, wr_3, wr_4, wr_5, zb_0, zb_1, Nat.reduceLT, Nat.reducePow, Nat.reduceAdd, rd_k (n := 8) (show i < 8 by omega), r2, if_pos c, r1, er, rd_k (n := 9) (show r < 9 by omega), D1, r3, if_pos e, nI_1]
          · rw [nx]; simp [e]
        · refine Or.inr ⟨.inl (), ?_, Or.inl ⟨rfl, ?_⟩⟩
          · simp only [fX7_areSo_2, fX7_areSo_42, c0, if_neg q, bnd_s, pw_s, rd_0, rd_1, rd_2, rd_3, rd_4, rd_5, rd_6, wr_0, wr_1, wr_2, wr_3, wr_4, wr_5, zb_0, zb_1, Nat.reduceLT, Nat.reducePow, Nat.reduceAdd, rd_k (n := 8) (show i < 8 by omega), r2, if_pos c, r1, er, rd_k (n := 9) (show r < 9 by omega), D1, r3, if_neg e]
          · have f1 : soI (aD B) rm dy mu d (i + 1) = false := by rw [nx]; simp [c, e]
            have mono : ∀ m, soI (aD B) rm dy mu d (i + 1 + m) = false := by
              intro m
              induction m with
              | zero => exact f1
              | succ m ih =>
                show (soI (aD B) rm dy mu d (i + 1 + m) && _) = false
                rw [ih, Bool.false_and]
            have := mono (k - (i + 1))
            rw [show i + 1 + (k - (i + 1)) = k by omega] at this
            exact this
      · refine Or.inl ⟨nI (i + 1), ?_, rfl, ?_⟩
        · simp only [fX7_areSo_2, fX7_areSo_42, c0, if_neg q, bnd_s, pw_s, rd_0, rd_1, rd_2, rd_3, rd_4, rd_5, rd_6, wr_0, wr_1, wr_2, wr_3, wr_4, wr_5, zb_0, zb_1, Nat.reduceLT, Nat.reducePow, Nat.reduceAdd, rd_k (n := 8) (show i < 8 by omega), r2, if_neg c, nI_1]
        · rw [nx]; simp [c]
    · rintro s ⟨rfl, s2⟩
      exact ⟨.inr (), by simp only [fX7_areSo_2, c0, Int32.le_refl, if_true], Or.inr ⟨rfl, s2⟩⟩
  obtain ⟨x, x1, x2⟩ := main
  rcases x2 with ⟨rfl, e⟩ | ⟨rfl, e⟩
  · simp only [fX7_areSo, x1, bnd_s, sm, e, bz_f]
  · simp only [fX7_areSo, x1, bnd_s, sm, e, bz_t]
theorem lastC {k : Nat} (hk : k ≤ 8) {rm dy mu : Nat → Int32} {h : ST} (hc : SC k rm dy mu h) : fX7_lastDay h 209 = some (mx dy (-1) k) := by
  have e : lp FU (fX7_lastDay_4 h 209) (-1, 0) = some (mx dy (-1) k) := by
    refine lp_det (b := fX7_lastDay_4 h 209) (fun i => (mx dy (-1) i, nI i)) k (by omega) (fun i hi => ?_) ?_
    · have q := nI_ge hi (show k < 2 ^ 31 by omega)
      simp only [fX7_lastDay_4, hc.1, if_neg q, bnd_s, pw_s, rd_0, rd_1, rd_2, rd_3, rd_4, rd_5, rd_6, wr_0, wr_1, wr_2, wr_3, wr_4, wr_5, zb_0, zb_1, Nat.reduceLT, Nat.reducePow, Nat.reduceAdd, rd_k (n := 8) (show i < 8 by omega), (hc.2 i hi).2.1, nI_1, mx]
    · simp only [fX7_lastDay_4, hc.1, Int32.le_refl, if_true]
  simp only [fX7_lastDay, e, bnd_s]
theorem lastM {k : Nat} (hk : k ≤ 8) {rm dy mu : Nat → Int32} {h : ST} (hc : SM k rm dy mu h) : lp FU (fX11_isAsSeen_13 h) (0, 0) = some (mx dy 0 k) := by
  refine lp_det (b := fX11_isAsSeen_13 h) (fun i => (mx dy 0 i, nI i)) k (by omega) (fun i hi => ?_) ?_
  · have q := nI_ge hi (show k < 2 ^ 31 by omega)
    simp only [fX11_isAsSeen_13, hc.1, if_neg q, bnd_s, pw_s, rd_0, rd_1, rd_2, rd_3, rd_4, rd_5, rd_6, wr_0, wr_1, wr_2, wr_3, wr_4, wr_5, zb_0, zb_1, Nat.reduceLT, Nat.reducePow, rd_k (n := 8) (show i < 8 by omega), (hc.2 i hi).2.1, nI_1, mx]
  · simp only [fX11_isAsSeen_13, hc.1, Int32.le_refl, if_true]
theorem soM {M : ST} (h9 : nR M ≤ 9) {k : Nat} {rm dy mu : Nat → Int32} (hS : SG M k rm dy mu) {h : ST} (hc : SM k rm dy mu h) {B : AS} (hR : RM1 M B h) (l : Int32) (d : Nat) : lp FU (fX11_isAsSeen_54 h l (nI d)) (1, 0) = some (bz (soI (aD B) rm dy mu d k)) := by
  obtain ⟨c0, c1⟩ := hc
  obtain ⟨k8, s1⟩ := hS
  refine lp_det (b := fX11_isAsSeen_54 h l (nI d)) (fun i => (bz (soI (aD B) rm dy mu d i), nI i)) k (by omega) (fun i hi => ?_) ?_
  · obtain ⟨r1, r2, r3⟩ := c1 i hi
    obtain ⟨⟨r, hr, er⟩, -⟩ := s1 i hi
    have q := nI_ge hi (show k < 2 ^ 31 by omega)
    have D1 : h 19 r = aD B r := (hR.2.1 r hr).1
    have nx : soI (aD B) rm dy mu d (i + 1) = (soI (aD B) rm dy mu d i && (decide (¬ dy i = nI d) || decide (aD B r = mu i))) := by
      show (soI (aD B) rm dy mu d i && _) = _
      rw [er, nI_clamp (by omega)]
    have n1 : ¬ (1 : Int32) = 0 := by decide
    rw [nx]
    cases hb : soI (aD B) rm dy mu d i
    · simp only [fX11_isAsSeen_54, fX11_isAsSeen_104, fX11_isAsSeen_105, c0, if_neg q, bz_f, if_true, nI_1, Bool.false_and]
    · by_cases c : dy i = nI d
      · by_cases e : aD B r = mu i
        · simp only [fX11_isAsSeen_54, fX11_isAsSeen_100, fX11_isAsSeen_105, c0, if_neg q, bz_t, if_neg n1, bnd_s, pw_s, rd_0, rd_1, rd_2, rd_3, rd_4, rd_5, rd_6, wr_0, wr_1, wr_2, wr_3, wr_4, wr_5, zb_0, zb_1, Nat.reduceLT, Nat.reducePow, rd_k (n := 8) (show i < 8 by omega), r2, if_pos c, r1, er, rd_k (n := 9) (show r < 9 by omega), D1, r3, if_pos e, nI_1]
          simp [c, e, bz]
        · simp only [fX11_isAsSeen_54, fX11_isAsSeen_104, fX11_isAsSeen_105, c0, if_neg q, bz_t, if_neg n1, bnd_s, pw_s, rd_0, rd_1, rd_2, rd_3, rd_4, rd_5, rd_6, wr_0, wr_1, wr_2, wr_3, wr_4, wr_5, zb_0, zb_1, Nat.reduceLT, Nat.reducePow, rd_k (n := 8) (show i < 8 by omega), r2, if_pos c, r1, er, rd_k (n := 9) (show r < 9 by omega), D1, r3, if_neg e, nI_1]
          simp [c, e, bz]
      · simp only [fX11_isAsSeen_54, fX11_isAsSeen_100, fX11_isAsSeen_105, c0, if_neg q, bz_t, if_neg n1, bnd_s, pw_s, rd_0, rd_1, rd_2, rd_3, rd_4, rd_5, rd_6, wr_0, wr_1, wr_2, wr_3, wr_4, wr_5, zb_0, zb_1, Nat.reduceLT, Nat.reducePow, rd_k (n := 8) (show i < 8 by omega), r2, if_neg c, nI_1]
        simp [c, bz]
  · simp only [fX11_isAsSeen_54, c0, Int32.le_refl, if_true]
theorem soD_f {M : ST} {B : AS} {rm dy mu : Nat → Int32} {k d : Nat} (h : soD M B rm dy mu k d = false) : ∀ m, soD M B rm dy mu k (d + m) = false
  | 0 => h
  | m + 1 => by
    show (soD M B rm dy mu k (d + m) && _) = false
    rw [soD_f h m, Bool.false_and]
/-- the whole answer, for a state B -/
def soA (M : ST) (B : AS) (rm dy mu : Nat → Int32) (k : Nat) : Bool := soD M B rm dy mu k ((mx dy 0 k).toNatClampNeg + 1)
theorem soA_0 (M : ST) (B : AS) (rm dy mu : Nat → Int32) : soA M B rm dy mu 0 = true := rfl
def aTake (A : AS) (a : Nat) (v : Int32) : AS := (upd (aD A) a (aD A a - v), aB A, aC A, aY A, aT A, aS A)
theorem wouldC {f : Nat} (hf : f = 2 ∨ f = 20) {M : ST} (hB : FB M) {k : Nat} {rm dy mu : Nat → Int32} (hS : SG M k rm dy mu) {A : AS} {h : ST} (hCF : CF f M h) (h0 : h 0 3 = nI f) (hR : RC 43 M A h) (hc : SC k rm dy mu h) {a : Nat} (ha : a < 9) {v : Int32} {K : Nat} (hK : K ≤ 5000) (hA : AB M K (aTake A a v)) :
    ∃ y, fX10_wouldBeSo h (nI a) v = some (bz (soA M (aTake A a v) rm dy mu k), y) ∧ KcE f h y := by
  have h9 := hB.1.2.1
  have h10 := hB.1.2.2.2.2.2.2.2
  obtain ⟨z, z1, z2, z3, z4, z5⟩ := copyT2 hf h9 h10 hCF h0 hR
  obtain ⟨x, ex⟩ : ∃ x, x = up2 z 387 a (z 387 a - v) := ⟨_, rfl⟩
  have xk : ∀ i, i ≠ 387 → x i = z i := fun i hi => by rw [ex, up2_n hi]
  have xK : KcE f h x := fun i a b c => (xk i (by omega)).trans (z3 i a b c)
  have xR : RC 386 M (aTake A a v) x := by
    refine ⟨?_, fun r hr => ⟨?_, ?_⟩, ?_⟩
    · rw [xk _ (by decide)]; exact z2.1
    · show x 387 r = upd (aD A) a (aD A a - v) r
      rw [ex, up2_s]
      by_cases c : r = a
      · rw [c, upd_s, upd_s]
        have : z 387 a = aD A a := (z2.2.1 a (c ▸ hr)).1
        rw [this]
      · rw [upd_n c, upd_n c]; exact (z2.2.1 r hr).1
    · rw [xk _ (by decide)]; exact (z2.2.1 r hr).2
    · rw [xk _ (by decide)]; exact z2.2.2
  have xS : ∀ y, KcE f h y → SC k rm dy mu y := fun y e => by
    unfold SC
    rw [e 209 (by omega) (by omega) (by omega), e 210 (by omega) (by omega) (by omega), e 211 (by omega) (by omega) (by omega), e 212 (by omega) (by omega) (by omega)]
    exact hc
  have last := lastC hS.1 (xS x xK)
  obtain ⟨⟨L, hL, eL⟩, cs⟩ := mx_k (fun i hi => (hS.2 i hi).2) k (Nat.le_refl k)
  have hd : fX10_wouldBeSo h (nI a) v = bnd (lp FU (fX10_wouldBeSo_41 (mx dy (-1) k)) (x, 0)) fun x18 => sm x18 (fun v => some (0, v)) (fun v => some (1, v)) := by
    simp only [fX10_wouldBeSo, z1, bnd_s, pw_s, rd_0, rd_1, rd_2, rd_3, rd_4, rd_5, rd_6, wr_0, wr_1, wr_2, wr_3, wr_4, wr_5, zb_0, zb_1, Nat.reduceLT, Nat.reducePow, rd_k (n := 9) ha, wr_k (n := 9) ha, ← ex, last]
  rw [hd]
  rcases cs with ⟨rfl, c1, c2⟩ | cs
  · rw [c1]
    refine ⟨x, ?_, xK⟩
    have e0 : fX10_wouldBeSo_41 (-1) (x, 0) = some (.inr (.inr x)) := by
      unfold fX10_wouldBeSo_41
      rw [if_pos (show (-1 : Int32) < 0 by decide)]
    have : lp FU (fX10_wouldBeSo_41 (-1)) (x, 0) = some (.inr x) := lp_r (n := 999999) (b := fX10_wouldBeSo_41 (-1)) (s := (x, 0)) e0
    rw [this, soA_0]; rfl
  rw [cs, eL]
  have main : ∃ r, lp FU (fX10_wouldBeSo_41 (nI L)) (x, 0) = some r ∧ ((∃ y, r = .inl y ∧ KcE f h y ∧ soD M (aTake A a v) rm dy mu k (L + 1) = false) ∨ ∃ y, r = .inr y ∧ KcE f h y ∧ soD M (aTake A a v) rm dy mu k (L + 1) = true) := by
    refine lp_cnt (b := fX10_wouldBeSo_41 (nI L)) (fun i s => s.2 = nI i ∧ KcE f h s.1 ∧ (i ≤ L → RC 386 M (aDays M i (aTake A a v)) s.1) ∧ soD M (aTake A a v) rm dy mu k i = true) (L + 1) (by omega) ?_ ?_ ⟨rfl, xK, fun _ => xR, rfl⟩
    · rintro i ⟨s, t⟩ hi ⟨rfl, s1, s2, s3⟩
      dsimp only at s1 s2 s3
      have q : ¬ nI L < nI i := nI_nlt (by omega) (by omega)
      have so := soC h9 hS (xS s s1) (s2 (by omega)) i (nI i) rfl
      have nx : soD M (aTake A a v) rm dy mu k (i + 1) = soI (aD (aDays M i (aTake A a v))) rm dy mu i k := by
        show (soD M (aTake A a v) rm dy mu k i && _) = _
        rw [s3, Bool.true_and]
      cases hb : soI (aD (aDays M i (aTake A a v))) rm dy mu i k
      · rw [hb] at so nx
        refine Or.inr ⟨.inl s, ?_, Or.inl ⟨s, rfl, s1, ?_⟩⟩
        · simp only [fX10_wouldBeSo_41, if_neg q, so, bz_f, bnd_s, if_true]
        · have := soD_f nx (L - i)
          rw [show i + 1 + (L - i) = L + 1 by omega] at this
          exact this
      · rw [hb] at so nx
        have n1 : ¬ (1 : Int32) = 0 := by decide
        by_cases c : i = L
        · subst c
          refine Or.inl ⟨(s, nI (i + 1)), ?_, rfl, s1, fun w => absurd w (by omega), nx⟩
          simp only [fX10_wouldBeSo_41, fX10_wouldBeSo_86, if_neg q, so, bz_t, bnd_s, if_neg n1, Int32.le_refl, if_true, nI_1]
        · have q2 : ¬ nI L ≤ nI i := nI_ge (by omega) (by omega)
          obtain ⟨p, p1, p2, p3, p4, p5⟩ := oneC hf hB (s1.cf hf hCF) (s1.c0 hf h0) (K := K + i) (by omega) (hA.days hB i (by omega)) (s2 (by omega))
          refine Or.inl ⟨(p, nI (i + 1)), ?_, rfl, s1.tr p3, fun _ => p2, nx⟩
          simp only [fX10_wouldBeSo_41, fX10_wouldBeSo_86, if_neg q, so, bz_t, bnd_s, if_neg n1, if_neg q2, rf_f hf (s1.c0 hf h0), p1, nI_1]
    · rintro ⟨s, t⟩ ⟨rfl, s1, s2, s3⟩
      refine ⟨.inr s, ?_, Or.inr ⟨s, rfl, s1, s3⟩⟩
      simp only [fX10_wouldBeSo_41]
      rw [if_pos (nI_lt (by omega) (by omega))]
  have eA : soA M (aTake A a v) rm dy mu k = soD M (aTake A a v) rm dy mu k (L + 1) := by
    unfold soA
    rw [eL, nI_clamp (by omega)]
  rw [eA]
  obtain ⟨r, r1, ⟨y, rfl, y1, y2⟩ | ⟨y, rfl, y1, y2⟩⟩ := main
  · exact ⟨y, by rw [r1, y2]; rfl, y1⟩
  · exact ⟨y, by rw [r1, y2]; rfl, y1⟩
theorem seenM {M : ST} (hB : FB M) {k : Nat} {rm dy mu : Nat → Int32} (hS : SG M k rm dy mu) {B : AS} {h : ST} (hF : FM M h) (hR : RM1 M B h) (hc : SM k rm dy mu h) {K : Nat} (hK : K ≤ 5000) (hA : AB M K B) :
    ∃ y, fX11_isAsSeen h = some (bz (soA M B rm dy mu k), y) ∧ RM1 M B y ∧ Fr [0, 19, 20, 21, 23, 24, 25, 36] h y ∧ Fs 0 [33, 34, 35] h y := by
  have h9 := hB.1.2.1
  have h10 := hB.1.2.2.2.2.2.2.2
  obtain ⟨p, p1, p2, -, p4⟩ := packM h9 h10 hR (o := 36) (n := 31) (b := 0) (by decide) (by decide) (by decide)
  have pe : ∀ i, i ≠ 36 → p i = h i := fun i hi => p4 i (by simp only [List.mem_cons, List.not_mem_nil, or_false]; omega)
  have pS : SM k rm dy mu p := by
    unfold SM
    rw [pe 0 (by decide), pe 33 (by decide), pe 34 (by decide), pe 35 (by decide)]
    exact hc
  have pF : FM M p := fun i hi => (pe i (by simp only [FMl, List.mem_cons, List.not_mem_nil, or_false] at hi; omega)).trans (hF i hi)
  have pR : RM1 M B p := by
    unfold RM1
    rw [pe 0 (by decide), pe 19 (by decide), pe 20 (by decide), pe 21 (by decide)]
    exact hR
  have last := lastM hS.1 pS
  obtain ⟨⟨L, hL, eL⟩, -⟩ := mx_k (fun i hi => (hS.2 i hi).2) k (Nat.le_refl k)
  have main : ∃ r, lp FU (fX11_isAsSeen_42 (nI L)) (p, 1, 0) = some r ∧ r.2 = bz (soD M B rm dy mu k (L + 1)) ∧ Fr [0, 19, 20, 23, 24, 25] p r.1 ∧ Fs 0 [33, 34] p r.1 := by
    refine lp_cnt (b := fX11_isAsSeen_42 (nI L)) (fun i s => s.2.2 = nI i ∧ s.2.1 = bz (soD M B rm dy mu k i) ∧ RM1 M (aDays M i B) s.1 ∧ Fr [0, 19, 20, 23, 24, 25] p s.1 ∧ Fs 0 [33, 34] p s.1) (L + 1) (by omega) ?_ ?_ ⟨rfl, rfl, pR, Fr.rf, Fs.rf⟩
    · rintro i ⟨s, t, u⟩ hi ⟨rfl, rfl, s1, s2, s3⟩
      dsimp only at s1 s2 s3
      have q : ¬ nI L < nI i := nI_nlt (by omega) (by omega)
      have n1 : ¬ (1 : Int32) = 0 := by decide
      cases hb : soD M B rm dy mu k i
      · refine Or.inr ⟨(s, 0), ?_, ?_, s2, s3⟩
        · simp only [fX11_isAsSeen_42, if_neg q, bz_f, if_true]
        · have := soD_f hb (L + 1 - i)
          rw [show i + (L + 1 - i) = L + 1 by omega] at this
          rw [this]; rfl
      · have sF : FM M s := fun j hj => (s2 j (by simp only [FMl, List.mem_cons, List.not_mem_nil, or_false] at hj ⊢; omega)).trans (pF j hj)
        have sS : SM k rm dy mu s := by
          unfold SM
          rw [s3 37 (by decide), s2 33 (by decide), s2 34 (by decide), s2 35 (by decide)]
          exact pS
        have so := soM h9 hS sS s1 (nI L) i
        obtain ⟨r, r1, r2, r3, r4⟩ := dayM hB sF (K := K + i) (by omega) (hA.days hB i (by omega)) s1
        refine Or.inl ⟨(r, bz (soI (aD (aDays M i B)) rm dy mu i k), nI (i + 1)), ?_, rfl, ?_, r2, s2.tr r3, s3.tr r4⟩
        · simp only [fX11_isAsSeen_42, if_neg q, bz_t, if_neg n1, so, bnd_s, r1, nI_1]
        · show _ = bz (soD M B rm dy mu k i && _)
          rw [hb, Bool.true_and]
    · rintro ⟨s, t, u⟩ ⟨rfl, rfl, s1, s2, s3⟩
      refine ⟨(s, bz (soD M B rm dy mu k (L + 1))), ?_, rfl, s2, s3⟩
      simp only [fX11_isAsSeen_42]
      rw [if_pos (nI_lt (by omega) (by omega))]
  obtain ⟨⟨r, w⟩, r1, rfl, r2, r3⟩ := main
  dsimp only at r2 r3
  obtain ⟨y, y1, y2, y3, y4⟩ := unpackM h9 h10 (hm := r) (o := 36) (n := 31) (b := 0) (A := B) (by rw [r2 36 (by decide)]; exact p2) (by decide) (by decide) (by decide)
  have eA : soA M B rm dy mu k = soD M B rm dy mu k (L + 1) := by
    unfold soA
    rw [eL, nI_clamp (by omega)]
  refine ⟨y, ?_, y2, ?_, ?_⟩
  · have p1' : fX11_pack h 36 31 0 = some p := p1
    have y1' : fX11_unpack r 36 31 0 = some y := y1
    have zz : ∀ b, zb (bz b) = some (bz b) := fun b => by cases b <;> rfl
    rw [← eA] at r1
    simp only [fX11_isAsSeen, fX11_isAsSeen_122, p1', bnd_s, last, eL, r1, y1', zz]
  · exact ((p4.sub (by decide)).tr (r2.sub (by decide))).tr (y3.sub (by decide))
  · exact ((Fs.of p4 (by decide)).tr (r3.sub (by decide))).tr y4
