/-! ===== years ===== -/
theorem bringT {M : ST} {A : AS} {y : ST} (h9 : nR M ≤ 9) (hR : RC 386 M A y) {a b : Nat} (ha : a < nR M) (hb : b < nR M) (v : Int32) : ∃ z, fX8_bring y 386 (nI a) (nI b) v = some z ∧ RC 386 M (aBring A a b v) z ∧ Fr [387, 388] y z := by
  have H1 : y 387 a = aD A a := (hR.2.1 a ha).1
  have e1 : up2 y 387 a (aD A a - v) 387 = upd (y 387) a (aD A a - v) := up2_s _ _ _ _
  refine ⟨up2 (up2 (up2 y 387 a (aD A a - v)) 387 b (cap (up2 y 387 a (aD A a - v) 387 b + v))) 388 b (y 388 b + v), ?_, ?_, ?_⟩
  · have g : up2 (up2 y 387 a (aD A a - v)) 387 b (cap (up2 y 387 a (aD A a - v) 387 b + v)) 388 = y 388 := by rw [up2_n (by decide), up2_n (by decide)]
    simp only [fX8_bring, bnd_s, pw_s, rd_0, rd_1, rd_2, rd_3, rd_4, rd_5, rd_6, wr_0, wr_1, wr_2, wr_3, wr_4, wr_5, zb_0, zb_1, Nat.reduceLT, Nat.reducePow, rd_k (n := 9) (show a < 9 by omega), H1, wr_k (n := 9) (show a < 9 by omega), f_lay (show b < 9 by omega), rd_k (n := 9) (show b < 9 by omega), Nat.reduceAdd, g, wr_k (n := 9) (show b < 9 by omega)]
  · refine ⟨?_, fun r hr => ?_, ?_⟩
    · rw [up2_n (by decide), up2_n (by decide), up2_n (by decide)]; exact hR.1
    · have g1 : y 387 r = aD A r := (hR.2.1 r hr).1
      have g2 : y 388 r = aB A r := (hR.2.1 r hr).2
      have g3 : y 388 b = aB A b := (hR.2.1 b hb).2
      constructor
      · show up2 (up2 (up2 y 387 a (aD A a - v)) 387 b (cap (up2 y 387 a (aD A a - v) 387 b + v))) 388 b (y 388 b + v) 387 r = upd (upd (aD A) a (aD A a - v)) b (cap (upd (aD A) a (aD A a - v) b + v)) r
        have k : ∀ q, q < nR M → upd (y 387) a (aD A a - v) q = upd (aD A) a (aD A a - v) q := fun q hq => by
          by_cases c : q = a
          · rw [c, upd_s, upd_s]
          · rw [upd_n c, upd_n c]; exact (hR.2.1 q hq).1
        rw [up2_n (by decide), up2_s, e1, k b hb]
        by_cases c : r = b
        · rw [c, upd_s, upd_s]
        · rw [upd_n c, upd_n c]; exact k r hr
      · show up2 (up2 (up2 y 387 a (aD A a - v)) 387 b (cap (up2 y 387 a (aD A a - v) 387 b + v))) 388 b (y 388 b + v) 388 r = upd (aB A) b (aB A b + v) r
        rw [up2_s, up2_n (by decide), up2_n (by decide), g3]
        by_cases c : r = b
        · rw [c, upd_s, upd_s]
        · rw [upd_n c, upd_n c]; exact g2
    · rw [up2_n (by decide), up2_n (by decide), up2_n (by decide)]; exact hR.2.2
  · exact ((Fr.rf.up (by decide)).up (by decide)).up (by decide)
theorem stealT {M : ST} {A : AS} {y : ST} (h9 : nR M ≤ 9) (hR : RC 386 M A y) {a : Nat} (ha : a < nR M) (v : Int32) : ∃ z, fX8_steal y 386 (nI a) v = some ((if aD A a < v then aD A a else v), z) ∧ RC 386 M (aSteal A a (if aD A a < v then aD A a else v)) z ∧ Fr [386, 387] y z := by
  have H1 : y 387 a = aD A a := (hR.2.1 a ha).1
  obtain ⟨w, ew⟩ : ∃ w, w = (if aD A a < v then aD A a else v) := ⟨_, rfl⟩
  rw [← ew]
  have g : up2 y 387 a (aD A a - w) 386 = y 386 := up2_n (by decide)
  refine ⟨up2 (up2 y 387 a (aD A a - w)) 386 2 (aS A + w), ?_, ?_, (Fr.rf.up (by decide)).up (by decide)⟩
  · simp only [fX8_steal, bnd_s, pw_s, rd_0, rd_1, rd_2, rd_3, rd_4, rd_5, rd_6, wr_0, wr_1, wr_2, wr_3, wr_4, wr_5, zb_0, zb_1, Nat.reduceLT, Nat.reducePow, rd_k (n := 9) (show a < 9 by omega), Nat.reduceAdd, H1, wr_k (n := 9) (show a < 9 by omega), ← ew, g, hR.1.2.2]
  · refine ⟨⟨?_, ?_, ?_⟩, fun r hr => ⟨?_, ?_⟩, fun i hi => ?_⟩
    · rw [up2_sn (by decide), g]; exact hR.1.1
    · rw [up2_sn (by decide), g]; exact hR.1.2.1
    · rw [up2_ss]; rfl
    · show up2 (up2 y 387 a (aD A a - w)) 386 2 (aS A + w) 387 r = upd (aD A) a (aD A a - w) r
      rw [up2_n (by decide), up2_s]
      by_cases c : r = a
      · rw [c, upd_s, upd_s]
      · rw [upd_n c, upd_n c]; exact (hR.2.1 r hr).1
    · show up2 (up2 y 387 a (aD A a - w)) 386 2 (aS A + w) 388 r = aB A r
      rw [up2_n (by decide), up2_n (by decide)]; exact (hR.2.1 r hr).2
    · show up2 (up2 y 387 a (aD A a - w)) 386 2 (aS A + w) 389 i = aC A i
      rw [up2_n (by decide), up2_n (by decide)]; exact hR.2.2 i hi
theorem draw_eq (a : Int32) : ((a.toUInt32 >>> ((16 : Int32).toUInt32 &&& Int32.toUInt32 31)).toInt32) &&& 32767 = (a >>> ((16 : Int32) &&& 31)) &&& 32767 := by
  have e1 : ((16 : Int32) &&& 31) = 16 := by decide
  rw [e1]
  apply Int32.toBitVec_inj.mp
  show (a.toBitVec >>> (((16 : Int32).toUInt32 &&& Int32.toUInt32 31).toBitVec % 32)) &&& 32767#32 = (BitVec.sshiftRight' a.toBitVec ((16 : Int32).toBitVec.smod 32)) &&& 32767#32
  have e2 : (((16 : Int32).toUInt32 &&& Int32.toUInt32 31).toBitVec % 32) = 16#32 := by decide
  have e3 : ((16 : Int32).toBitVec.smod 32) = 16#32 := by decide
  rw [e2, e3]
  show a.toBitVec >>> (16#32).toNat &&& 32767#32 = a.toBitVec.sshiftRight (16#32).toNat &&& 32767#32
  have e4 : (16#32 : BitVec 32).toNat = 16 := by decide
  rw [e4]
  ext i hi
  simp only [BitVec.getElem_and]
  by_cases c : i < 15
  · rw [BitVec.getElem_ushiftRight, BitVec.getElem_sshiftRight, dif_pos (show 16 + i < 32 by omega)]
    rw [BitVec.getLsbD_eq_getElem (show 16 + i < 32 by omega)]
  · have : (32767#32 : BitVec 32)[i] = false := by
      rw [BitVec.getElem_eq_testBit_toNat]
      show Nat.testBit 32767 i = false
      exact Nat.testBit_lt_two_pow (Nat.lt_of_lt_of_le (show 32767 < 2 ^ 15 by decide) (Nat.pow_le_pow_right (by decide) (by omega)))
    rw [this, Bool.and_false, Bool.and_false]
theorem draw_k (a : Int32) {d : Nat} (h0 : 0 < d) (hd : d < 2 ^ 31) : ∃ m, m < d ∧ (∀ h, fX10_draw h a (nI d) = some (nI m)) ∧ ((a >>> ((16 : Int32) &&& 31)) &&& 32767) - ((a >>> ((16 : Int32) &&& 31)) &&& 32767) / nI d * nI d = nI m := by
  obtain ⟨v, hv, e⟩ := pk_andE (a >>> ((16 : Int32) &&& 31)) (m := 32767) 15 (by decide)
  refine ⟨v % d, Nat.mod_lt _ h0, fun h => ?_, ?_⟩
  · have r := rem_k (a := v) (d := d) (by omega) h0 hd
    simp only [fX10_draw, fX10_draw_18, if_neg (nI_nle h0 hd), draw_eq, e, grd_p (nI_ne0 h0 hd), r]
  · rw [e]; exact rem_k (by omega) h0 hd
theorem drawM {t : ST} {d : Nat} (h0 : 0 < d) (hd : d < 2 ^ 31) {m : Nat} (hm : (((t 0 53 * 1103515245 + 12345) >>> ((16 : Int32) &&& 31)) &&& 32767) - (((t 0 53 * 1103515245 + 12345) >>> ((16 : Int32) &&& 31)) &&& 32767) / nI d * nI d = nI m) : fX11_drawOf t (nI d) = some (nI m, up2 t 0 53 (t 0 53 * 1103515245 + 12345)) := by
  have g : up2 t 0 53 (t 0 53 * 1103515245 + 12345) 0 53 = t 0 53 * 1103515245 + 12345 := up2_ss _ _ _ _
  simp only [fX11_drawOf, bnd_s, pw_s, rd_0, rd_1, rd_2, rd_3, rd_4, rd_5, rd_6, wr_0, wr_1, wr_2, wr_3, wr_4, wr_5, zb_0, zb_1, Nat.reduceLT, Nat.reducePow, g, grd_p (nI_ne0 h0 hd), hm]
/-- the first door of a room, as both find it -/
theorem firstDoor {f : Nat} {M s t : ST} (hB : FB M) (hCF : CF f M s) (hF : FM M t) {a : Nat} (ha : a < 9) :
    (fX2_behindFirstDoor s f (nI a) = some (-1) ∧ fX11_shakeFirst t (nI a) = some t) ∨ ∃ b, b < nR M ∧ fX2_behindFirstDoor s f (nI a) = some (nI b) ∧ ∀ v, t 19 a = v → fX11_shakeFirst t (nI a) = bnd (fX11_bring t (nI a) (nI b) (v / 2)) fun r => some r := by
  have h9 := hB.1.2.1
  have h14 := hB.1.2.2.2.1
  have f5 : s f 5 = nI (nDo M) := hCF.1.2.1.trans hB.1.2.2.1
  have t3 : t 3 1 = nI (nDo M) := by rw [hF 3 (by decide)]; exact hB.1.2.2.1
  have t8 : t 8 = M 8 := hF 8 (by decide)
  have t9 : t 9 = M 9 := hF 9 (by decide)
  have lc : ∃ x, lp FU (fX2_behindFirstDoor_2 s f (nI a)) 0 = some x ∧ ((x = .inr () ∧ ∀ j, j < nDo M → ¬ (M 8 j = nI a ∨ M 9 j = nI a)) ∨ ∃ k, k < nDo M ∧ x = .inl (nI k) ∧ (M 8 k = nI a ∨ M 9 k = nI a) ∧ ∀ j, j < k → ¬ (M 8 j = nI a ∨ M 9 j = nI a)) := by
    refine lp_cnt (b := fX2_behindFirstDoor_2 s f (nI a)) (fun i u => u = nI i ∧ ∀ j, j < i → ¬ (M 8 j = nI a ∨ M 9 j = nI a)) (nDo M) (by omega) ?_ ?_ ⟨rfl, fun j hj => absurd hj (Nat.not_lt_zero j)⟩
    · rintro i u hi ⟨rfl, w⟩
      have q := nI_ge hi (show nDo M < 2 ^ 31 by omega)
      obtain ⟨p, r, t, hp, hr, -, -, -, ep, er, -⟩ := hB.2.2.2.1 i hi
      have e5 : s (f + 5) i = nI p := (hCF.2.2.1 i hi).1.trans ep
      have e6 : s (f + 6) i = nI r := (hCF.2.2.1 i hi).2.trans er
      have bh := behindC (h := s) (f := f) (show i < 14 by omega) (nI a)
      rw [e5, e6] at bh
      by_cases c1 : nI p = nI a
      · rw [if_pos c1] at bh
        refine Or.inr ⟨.inl (nI i), ?_, Or.inr ⟨i, hi, rfl, Or.inl (ep.trans c1), w⟩⟩
        simp only [fX2_behindFirstDoor_2, f5, if_neg q, bh, bnd_s, if_neg (nI_m1ne (show r < 2 ^ 31 by omega))]
      · rw [if_neg c1] at bh
        by_cases c2 : nI r = nI a
        · rw [if_pos c2] at bh
          refine Or.inr ⟨.inl (nI i), ?_, Or.inr ⟨i, hi, rfl, Or.inr (er.trans c2), w⟩⟩
          simp only [fX2_behindFirstDoor_2, f5, if_neg q, bh, bnd_s, if_neg (nI_m1ne (show p < 2 ^ 31 by omega))]
        · rw [if_neg c2] at bh
          refine Or.inl ⟨nI (i + 1), ?_, rfl, fun j hj => ?_⟩
          · simp only [fX2_behindFirstDoor_2, f5, if_neg q, bh, bnd_s, if_true, nI_1]
          · by_cases d : j = i
            · subst d
              rw [ep, er]
              exact fun x => x.elim c1 c2
            · exact w j (by omega)
    · rintro u ⟨rfl, w⟩
      exact ⟨.inr (), by simp only [fX2_behindFirstDoor_2, f5, Int32.le_refl, if_true], Or.inl ⟨rfl, w⟩⟩
  have lm : ∃ x, lp FU (fX11_shakeFirst_2 t (nI a)) 0 = some x ∧ ((x = .inr () ∧ ∀ j, j < nDo M → ¬ (M 8 j = nI a ∨ M 9 j = nI a)) ∨ ∃ k, k < nDo M ∧ x = .inl (nI k) ∧ (M 8 k = nI a ∨ M 9 k = nI a) ∧ ∀ j, j < k → ¬ (M 8 j = nI a ∨ M 9 j = nI a)) := by
    refine lp_cnt (b := fX11_shakeFirst_2 t (nI a)) (fun i u => u = nI i ∧ ∀ j, j < i → ¬ (M 8 j = nI a ∨ M 9 j = nI a)) (nDo M) (by omega) ?_ ?_ ⟨rfl, fun j hj => absurd hj (Nat.not_lt_zero j)⟩
    · rintro i u hi ⟨rfl, w⟩
      have q := nI_ge hi (show nDo M < 2 ^ 31 by omega)
      by_cases c1 : M 8 i = nI a
      · refine Or.inr ⟨.inl (nI i), ?_, Or.inr ⟨i, hi, rfl, Or.inl c1, w⟩⟩
        simp only [fX11_shakeFirst_2, bnd_s, pw_s, rd_0, rd_1, rd_2, rd_3, rd_4, rd_5, rd_6, wr_0, wr_1, wr_2, wr_3, wr_4, wr_5, zb_0, zb_1, Nat.reduceLT, Nat.reducePow, t3, if_neg q, rd_k (n := 28) (show i < 28 by omega), t8, if_pos c1]
      · by_cases c2 : M 9 i = nI a
        · refine Or.inr ⟨.inl (nI i), ?_, Or.inr ⟨i, hi, rfl, Or.inr c2, w⟩⟩
          simp only [fX11_shakeFirst_2, bnd_s, pw_s, rd_0, rd_1, rd_2, rd_3, rd_4, rd_5, rd_6, wr_0, wr_1, wr_2, wr_3, wr_4, wr_5, zb_0, zb_1, Nat.reduceLT, Nat.reducePow, t3, if_neg q, rd_k (n := 28) (show i < 28 by omega), t8, t9, if_neg c1, if_pos c2]
        · refine Or.inl ⟨nI (i + 1), ?_, rfl, fun j hj => ?_⟩
          · simp only [fX11_shakeFirst_2, bnd_s, pw_s, rd_0, rd_1, rd_2, rd_3, rd_4, rd_5, rd_6, wr_0, wr_1, wr_2, wr_3, wr_4, wr_5, zb_0, zb_1, Nat.reduceLT, Nat.reducePow, t3, if_neg q, rd_k (n := 28) (show i < 28 by omega), t8, t9, if_neg c1, if_neg c2, nI_1]
          · by_cases d : j = i
            · subst d
              exact fun x => x.elim c1 c2
            · exact w j (by omega)
    · rintro u ⟨rfl, w⟩
      exact ⟨.inr (), by simp only [fX11_shakeFirst_2, bnd_s, pw_s, rd_0, rd_1, rd_2, rd_3, rd_4, rd_5, rd_6, wr_0, wr_1, wr_2, wr_3, wr_4, wr_5, zb_0, zb_1, Nat.reduceLT, Nat.reducePow, t3, Int32.le_refl, if_true], Or.inl ⟨rfl, w⟩⟩
  obtain ⟨x, x1, x2⟩ := lc
  obtain ⟨y, y1, y2⟩ := lm
  rcases x2 with ⟨rfl, w⟩ | ⟨k, hk, rfl, pk, mk⟩
  · rcases y2 with ⟨rfl, -⟩ | ⟨k, hk, rfl, pk, mk⟩
    · refine Or.inl ⟨?_, ?_⟩
      · simp only [fX2_behindFirstDoor, x1, bnd_s, sm]
      · simp only [fX11_shakeFirst, y1, bnd_s, sm]
    · exact absurd pk (w k hk)
  · rcases y2 with ⟨rfl, w⟩ | ⟨l, hl, rfl, pl, ml⟩
    · exact absurd pk (w k hk)
    · obtain rfl : k = l := by
        rcases Nat.lt_trichotomy k l with q | q | q
        · exact absurd pk (ml k q)
        · exact q
        · exact absurd pl (mk l q)
      right
      obtain ⟨p, r, u, hp, hr, hne, -, -, ep, er, -⟩ := hB.2.2.2.1 k hk
      have e5 : s (f + 5) k = nI p := (hCF.2.2.1 k hk).1.trans ep
      have e6 : s (f + 6) k = nI r := (hCF.2.2.1 k hk).2.trans er
      have bh := behindC (h := s) (f := f) (show k < 14 by omega) (nI a)
      rw [e5, e6] at bh
      by_cases c1 : nI p = nI a
      · rw [if_pos c1] at bh
        refine ⟨r, hr, ?_, fun v hv => ?_⟩
        · simp only [fX2_behindFirstDoor, x1, bnd_s, sm, bh]
        · simp only [fX11_shakeFirst, fX11_shakeFirst_35, fX11_shakeFirst_62, y1, bnd_s, sm, rd_k (n := 28) (show k < 28 by omega), t8, t9, ep, er, if_pos c1, rd_k (n := 9) ha, hv]
      · rw [if_neg c1] at bh
        have c2 : nI r = nI a := er.symm.trans (pk.resolve_left (fun x => c1 (ep.symm.trans x)))
        rw [if_pos c2] at bh
        refine ⟨p, hp, ?_, fun v hv => ?_⟩
        · simp only [fX2_behindFirstDoor, x1, bnd_s, sm, bh]
        · simp only [fX11_shakeFirst, fX11_shakeFirst_35, fX11_shakeFirst_62, y1, bnd_s, sm, rd_k (n := 28) (show k < 28 by omega), t8, t9, ep, er, if_neg c1, rd_k (n := 9) ha, hv]
def someM (t : ST) (a w : Int32) : Option ST := if w = 0 then bnd (fX11_steal t a 10) fun r14 => fX11_something_39 r14.2 a w else fX11_something_39 t a w
theorem happenB {f : Nat} (hf : f = 2 ∨ f = 20) {M s t : ST} (hB : FB M) (hCF : CF f M s) (h0 : s 0 3 = nI f) (hF : FM M t) {B : AS} {K : Nat} (hA : AB M K B) (hR : RC 386 M B s) (hR1 : RM1 M B t) {a : Nat} (ha : a < nR M) (w : Int32) :
    ∃ s' t' B', fX10_happen s (nI a) w = some s' ∧ someM t (nI a) w = some t' ∧ RC 386 M B' s' ∧ RM1 M B' t' ∧ AB M K B' ∧ Fr [386, 387, 388] s s' ∧ Fr [0, 19, 20] t t' ∧ Fs 0 [35] t t' := by
  have h9 := hB.1.2.1
  by_cases c0 : w = 0
  · subst c0
    obtain ⟨u, u1, u2, u3⟩ := stealT h9 hR ha 10
    obtain ⟨v, v1, v2, v3, v4⟩ := stealM h9 hR1 ha 10
    have n1 : ¬ (0 : Int32) = 1 := by decide
    refine ⟨u, v, _, ?_, ?_, u2, v2, ?_, u3.sub (by decide), v3.sub (by decide), v4⟩
    · simp only [fX10_happen, fX10_happen_15, fX10_happen_54, if_true, u1, bnd_s, if_neg n1]
    · simp only [someM, fX11_something_39, fX11_something_49, if_true, v1, bnd_s, if_neg n1]
    · exact hA.steal (n := 10) ha (by decide)
  by_cases c1 : w = 1
  · subst c1
    have D1 : s 387 a = aD B a := (hR.2.1 a ha).1
    have D2 : t 19 a = aD B a := (hR1.2.1 a ha).1
    rcases firstDoor hB hCF hF (show a < 9 by omega) with ⟨p1, p2⟩ | ⟨b, hb, p1, p2⟩
    · refine ⟨s, t, B, ?_, ?_, hR, hR1, hA, Fr.rf, Fr.rf, Fs.rf⟩
      · unfold fX10_happen fX10_happen_15 fX10_happen_54
        rw [if_neg c0, if_pos rfl, rf_f hf h0, bnd_s, p1, bnd_s, if_pos rfl]
      · unfold someM fX11_something_39 fX11_something_49
        rw [if_neg c0, if_pos rfl, p2, bnd_s]
    · obtain ⟨x, hx, ex⟩ := hA.1 a ha
      have hv : aD B a / 2 = nI (x / 2) := by rw [ex]; exact pk_div (d := 2) (by omega) (by decide) (by decide)
      obtain ⟨u, u1, u2, u3⟩ := bringT h9 hR ha hb (nI (x / 2))
      obtain ⟨v, v1, v2, v3⟩ := bringM h9 hR1 ha hb (nI (x / 2))
      refine ⟨u, v, _, ?_, ?_, u2, v2, hA.bring ha hb ?_ (by omega), u3.sub (by decide), v3.sub (by decide), Fs.of v3 (by decide)⟩
      · unfold fX10_happen fX10_happen_15 fX10_happen_54
        rw [if_neg c0, if_pos rfl, rf_f hf h0, bnd_s, p1, bnd_s, if_neg (nI_m1ne (show b < 2 ^ 31 by omega)), rd_k (n := 9) (show a < 9 by omega), bnd_s, D1, hv, u1, bnd_s]
      · unfold someM fX11_something_39 fX11_something_49
        rw [if_neg c0, if_pos rfl, p2 _ D2, hv, v1]
        rfl
      · rw [ex]; exact nI_le (by omega) (by omega)
  · refine ⟨s, t, B, ?_, ?_, hR, hR1, hA, Fr.rf, Fr.rf, Fs.rf⟩
    · unfold fX10_happen fX10_happen_15 fX10_happen_54
      rw [if_neg c0, if_neg c1]
    · unfold someM fX11_something_39 fX11_something_49
      rw [if_neg c0, if_neg c1]
