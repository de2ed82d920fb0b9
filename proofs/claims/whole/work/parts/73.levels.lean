/-! ===== parish: products, sums ===== -/
theorem XY.val {g : Nat} {B : Nat → Nat} {L : Nat} {h t : ST} {st : Nat} {S : List Int32} {d nc l k D tb : Nat} {NX : Nat → Nat → Nat → List Int32 → Prop} {Y : Option ST} (o : OKX g B L h t st S d nc l k D tb NX Y ∨ BDX g h t l Y) : ∃ t1, Y = some t1 ∧ (OKX g B L h t st S d nc l k D tb NX (some t1) ∨ BDX g h t l (some t1)) := by
  rcases o with o | o
  · obtain ⟨h', t', kd', st', en', T, nc', m, o1, o2⟩ := id o
    refine ⟨t', o1, Or.inl ?_⟩
    rw [o1] at o; exact o
  · obtain ⟨h2, m, c, h', t', e1, e2⟩ := id o
    refine ⟨t', e1, Or.inr ?_⟩
    rw [e1] at o; exact o
theorem partW {R : ST → Int32 → Option ST} {t : ST} (h : ¬ t 0 26 = 0) (a : Int32) : fX11_readPart R t a = some t := by
  unfold fX11_readPart
  rw [if_neg h]
theorem prodLW {R : ST → Int32 → Option ST} {t : ST} (h : ¬ t 0 26 = 0) (a : Int32) : fX11_readProduct_5 R a t = some (.inr t) := by
  unfold fX11_readProduct_5
  rw [signW h, bnd_s, if_pos rfl, signW h, bnd_s, if_pos rfl]
theorem prodW {R : ST → Int32 → Option ST} {t : ST} (h : ¬ t 0 26 = 0) (a : Int32) : fX11_readProduct R t a = some t := by
  unfold fX11_readProduct
  rw [partW h, bnd_s, lp_1 (b := fX11_readProduct_5 R a) (prodLW h a), bnd_s]
theorem sumLW {R : ST → Int32 → Option ST} {t : ST} (h : ¬ t 0 26 = 0) (a : Int32) : fX11_readSum_5 R a t = some (.inr t) := by
  unfold fX11_readSum_5
  rw [signW h, bnd_s, if_pos rfl, signW h, bnd_s, if_pos rfl]
theorem sumW {R : ST → Int32 → Option ST} {t : ST} (h : ¬ t 0 26 = 0) (a : Int32) : fX11_readSum R t a = some t := by
  unfold fX11_readSum
  rw [prodW h, bnd_s, lp_1 (b := fX11_readSum_5 R a) (sumLW h a), bnd_s]
theorem sq_k {B : Nat → Nat} {kd st b : Nat} (h : sq B kd st b = true) : kd = 3 := by
  unfold sq at h
  rw [Bool.and_eq_true, decide_eq_true_eq] at h
  exact h.1
theorem signS {g : Nat} {B : Nat → Nat} {L : Nat} {h t : ST} {kd st en : Nat} (p : PR g B L h t kd st en) :
    (sq B kd st 43 = true → fX6_signAtHand h = some (-7)) ∧ (sq B kd st 45 = true → fX6_signAtHand h = some (-8)) ∧ (sq B kd st 42 = true → fX6_signAtHand h = some (-9)) ∧ (sq B kd st 47 = true → fX6_signAtHand h = some (-10)) := by
  have s43 : fX9_isSign h 43 = some (bz (sq B kd st 43)) := signC p.1 p.2.1 (v := 43) (by decide)
  have s45 : fX9_isSign h 45 = some (bz (sq B kd st 45)) := signC p.1 p.2.1 (v := 45) (by decide)
  have s42 : fX9_isSign h 42 = some (bz (sq B kd st 42)) := signC p.1 p.2.1 (v := 42) (by decide)
  have s47 : fX9_isSign h 47 = some (bz (sq B kd st 47)) := signC p.1 p.2.1 (v := 47) (by decide)
  have n1 : ¬ bz true = 0 := by decide
  have z1 : bz false = 0 := rfl
  unfold fX6_signAtHand
  refine ⟨fun e => ?_, fun e => ?_, fun e => ?_, fun e => ?_⟩
  · rw [s43, e, bnd_s, if_neg n1]
  · rw [s43, noSign e (by decide), bnd_s, if_pos z1, s45, e, bnd_s, if_neg n1]
  · rw [s43, noSign e (by decide), bnd_s, if_pos z1, s45, noSign e (by decide), bnd_s, if_pos z1, s42, e, bnd_s, if_neg n1]
  · rw [s43, noSign e (by decide), bnd_s, if_pos z1, s45, noSign e (by decide), bnd_s, if_pos z1, s42, noSign e (by decide), bnd_s, if_pos z1, s47, e, bnd_s, if_neg n1]
theorem productX {R : ST → Int32 → Option ST} {g : Nat} {B : Nat → Nat} {L d : Nat} (hR : ExprC R g B L (d + 1)) (hW : ∀ t a, ¬ t 0 26 = 0 → R t a = some t) (d5 : d ≤ 5) {h t : ST} {kd st en nc l : Nat} {S : List Int32} (x : XI g B L h t kd st en S d nc l) (hS : S.length ≤ 12 * d + 10) (hn : h 40 5 = 0 ∨ (h 40 5 = 1 ∧ (decide (kd = 1) && wq B 11 st en) = false)) (top : ∀ y u, S = y :: u → sg y < 6) :
    OKX g B L h t st S d nc l 6 (27 - 5 * d) 1 (fun kd' st' _ _ => nxP B kd' st') (fX11_readProduct R t (nI d)) ∨ BDX g h t l (fX11_readProduct R t (nI d)) := by
  obtain ⟨t1, e1, s1⟩ := XY.val (partX hR hW d5 x (by omega) hn)
  have n1 : ¬ bz true = 0 := by decide
  have z1 : bz false = 0 := rfl
  obtain ⟨r, r1, r2⟩ := loopX (b := fX11_readProduct_5 R (nI d)) (sub := fun r => fX11_readPart R r (nI d)) (s := 6) (k' := 7) (D := 27 - 5 * d) (D' := 26 - 5 * d) (tb' := 0) (NXi := fun _ _ _ _ => True) (NXo := fun kd' st' _ _ => nxP B kd' st') (fun t h => prodLW h _)
    (by
      intro h t kd st en T p _
      have s42 : fX11_isMarked t 42 = some (bz (sq B kd st 42)) := signM p.1 p.2.1 p.2.2.1 (v := 42) (by decide)
      have s47 : fX11_isMarked t 47 = some (bz (sq B kd st 47)) := signM p.1 p.2.1 p.2.2.1 (v := 47) (by decide)
      obtain ⟨-, -, k42, k47⟩ := signS p
      cases c42 : sq B kd st 42
      · cases c47 : sq B kd st 47
        · right
          refine ⟨?_, c42, c47⟩
          unfold fX11_readProduct_5
          rw [s42, c42, bnd_s, if_pos z1, s47, c47, bnd_s, if_pos z1]
        · left
          refine ⟨-10, -23, ?_, by have := sq_k c47; omega, noSign c47 (by decide), noSign c47 (by decide), k47 c47, by decide, by decide, by decide, by decide, by decide⟩
          unfold fX11_readProduct_5 fX11_readProduct_23 fX11_readProduct_39
          rw [s42, c42, bnd_s, if_pos z1, s47, c47, bnd_s, if_neg n1, bnd_s, if_pos z1]
      · left
        refine ⟨-9, -22, ?_, by have := sq_k c42; omega, noSign c42 (by decide), noSign c42 (by decide), k42 c42, by decide, by decide, by decide, by decide, by decide⟩
        unfold fX11_readProduct_5 fX11_readProduct_23 fX11_readProduct_39
        rw [s42, c42, bnd_s, if_neg n1, bnd_s, if_neg n1])
    (by
      intro h t kd st en nc l y sy xi w
      rw [if_pos (by decide)] at w
      exact partX hR hW d5 xi (by simp only [List.length_cons]; omega) (Or.inl w))
    (fun _ _ _ _ _ _ _ => trivial) (by decide) (by decide) (by decide) top (by omega) (by omega) (by omega) x.2.2.2.2.2.2.2 x.2.2.2.2.2.1 (s1.imp (fun o => o.mono (by decide) (by omega) (by decide) (fun _ _ _ _ _ => trivial)) id)
  have Y : fX11_readProduct R t (nI d) = some r := by
    unfold fX11_readProduct
    rw [e1, bnd_s, r1, bnd_s]
  rw [Y]; exact r2
theorem sumX {R : ST → Int32 → Option ST} {g : Nat} {B : Nat → Nat} {L d : Nat} (hR : ExprC R g B L (d + 1)) (hW : ∀ t a, ¬ t 0 26 = 0 → R t a = some t) (d5 : d ≤ 5) {h t : ST} {kd st en nc l : Nat} {S : List Int32} (x : XI g B L h t kd st en S d nc l) (hS : S.length ≤ 12 * d + 9) (hn : h 40 5 = 0 ∨ (h 40 5 = 1 ∧ (decide (kd = 1) && wq B 11 st en) = false)) (top : ∀ y u, S = y :: u → sg y < 5) :
    OKX g B L h t st S d nc l 5 (28 - 5 * d) 2 (fun kd' st' _ _ => nxS B kd' st') (fX11_readSum R t (nI d)) ∨ BDX g h t l (fX11_readSum R t (nI d)) := by
  obtain ⟨t1, e1, s1⟩ := XY.val (productX hR hW d5 x (by omega) hn (fun y u e => Nat.lt_of_lt_of_le (top y u e) (by decide)))
  have n1 : ¬ bz true = 0 := by decide
  have z1 : bz false = 0 := rfl
  obtain ⟨r, r1, r2⟩ := loopX (b := fX11_readSum_5 R (nI d)) (sub := fun r => fX11_readProduct R r (nI d)) (s := 5) (k' := 6) (D := 28 - 5 * d) (D' := 27 - 5 * d) (tb' := 1) (NXi := fun kd' st' _ _ => nxP B kd' st') (NXo := fun kd' st' _ _ => nxS B kd' st') (fun t h => sumLW h _)
    (by
      intro h t kd st en T p nx
      have s43 : fX11_isMarked t 43 = some (bz (sq B kd st 43)) := signM p.1 p.2.1 p.2.2.1 (v := 43) (by decide)
      have s45 : fX11_isMarked t 45 = some (bz (sq B kd st 45)) := signM p.1 p.2.1 p.2.2.1 (v := 45) (by decide)
      obtain ⟨k43, k45, -, -⟩ := signS p
      cases c43 : sq B kd st 43
      · cases c45 : sq B kd st 45
        · right
          refine ⟨?_, nx, c43, c45⟩
          unfold fX11_readSum_5
          rw [s43, c43, bnd_s, if_pos z1, s45, c45, bnd_s, if_pos z1]
        · left
          refine ⟨-8, -21, ?_, by have := sq_k c45; omega, noSign c45 (by decide), noSign c45 (by decide), k45 c45, by decide, by decide, by decide, by decide, by decide⟩
          unfold fX11_readSum_5 fX11_readSum_23 fX11_readSum_39
          rw [s43, c43, bnd_s, if_pos z1, s45, c45, bnd_s, if_neg n1, bnd_s, if_pos z1]
      · left
        refine ⟨-7, -20, ?_, by have := sq_k c43; omega, noSign c43 (by decide), noSign c43 (by decide), k43 c43, by decide, by decide, by decide, by decide, by decide⟩
        unfold fX11_readSum_5 fX11_readSum_23 fX11_readSum_39
        rw [s43, c43, bnd_s, if_neg n1, bnd_s, if_neg n1])
    (by
      intro h t kd st en nc l y sy xi w
      rw [if_pos (by decide)] at w
      exact productX hR hW d5 xi (by simp only [List.length_cons]; omega) (Or.inl w) (fun z u e => by injection e with e1 _; rw [← e1, sy]; decide))
    (fun _ _ _ _ _ nx _ => nx) (by decide) (by decide) (by decide) top (by omega) (by omega) (by omega) x.2.2.2.2.2.2.2 x.2.2.2.2.2.1 (s1.imp (fun o => o.mono (by decide) (by omega) (by decide) (fun _ _ _ _ q => q)) id)
  have Y : fX11_readSum R t (nI d) = some r := by
    unfold fX11_readSum
    rw [e1, bnd_s, r1, bnd_s]
  rw [Y]; exact r2
