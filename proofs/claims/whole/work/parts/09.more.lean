theorem bp_m28 : (Int8.ofInt (-28)).toInt32 = (-28 : Int32) := by decide
theorem bp_m27 : (Int8.ofInt (-27)).toInt32 = (-27 : Int32) := by decide
theorem bp_m26 : (Int8.ofInt (-26)).toInt32 = (-26 : Int32) := by decide
theorem bp_m25 : (Int8.ofInt (-25)).toInt32 = (-25 : Int32) := by decide
theorem bp_m24 : (Int8.ofInt (-24)).toInt32 = (-24 : Int32) := by decide
theorem bp_m23 : (Int8.ofInt (-23)).toInt32 = (-23 : Int32) := by decide
theorem bp_m22 : (Int8.ofInt (-22)).toInt32 = (-22 : Int32) := by decide
theorem bp_m21 : (Int8.ofInt (-21)).toInt32 = (-21 : Int32) := by decide
theorem bp_m20 : (Int8.ofInt (-20)).toInt32 = (-20 : Int32) := by decide
theorem bp_m15 : (Int8.ofInt (-15)).toInt32 = (-15 : Int32) := by decide
theorem bp_m14 : (Int8.ofInt (-14)).toInt32 = (-14 : Int32) := by decide
theorem bp_m13 : (Int8.ofInt (-13)).toInt32 = (-13 : Int32) := by decide
theorem bp_m12 : (Int8.ofInt (-12)).toInt32 = (-12 : Int32) := by decide
theorem bp_m11 : (Int8.ofInt (-11)).toInt32 = (-11 : Int32) := by decide
theorem bp_m10 : (Int8.ofInt (-10)).toInt32 = (-10 : Int32) := by decide
theorem bp_m9 : (Int8.ofInt (-9)).toInt32 = (-9 : Int32) := by decide
theorem bp_m8 : (Int8.ofInt (-8)).toInt32 = (-8 : Int32) := by decide
theorem bp_m7 : (Int8.ofInt (-7)).toInt32 = (-7 : Int32) := by decide
theorem bp_m6 : (Int8.ofInt (-6)).toInt32 = (-6 : Int32) := by decide
theorem bp_m5 : (Int8.ofInt (-5)).toInt32 = (-5 : Int32) := by decide
theorem bp_m4 : (Int8.ofInt (-4)).toInt32 = (-4 : Int32) := by decide
theorem bp_m3 : (Int8.ofInt (-3)).toInt32 = (-3 : Int32) := by decide
theorem bp_m2 : (Int8.ofInt (-2)).toInt32 = (-2 : Int32) := by decide
theorem bp_6 : (Int8.ofInt (6)).toInt32 = (6 : Int32) := by decide
theorem bp_7 : (Int8.ofInt (7)).toInt32 = (7 : Int32) := by decide
theorem bp_8 : (Int8.ofInt (8)).toInt32 = (8 : Int32) := by decide
theorem bp_9 : (Int8.ofInt (9)).toInt32 = (9 : Int32) := by decide
theorem bp_10 : (Int8.ofInt (10)).toInt32 = (10 : Int32) := by decide
theorem bp_11 : (Int8.ofInt (11)).toInt32 = (11 : Int32) := by decide
theorem bp_12 : (Int8.ofInt (12)).toInt32 = (12 : Int32) := by decide
theorem bp_13 : (Int8.ofInt (13)).toInt32 = (13 : Int32) := by decide
theorem bp_14 : (Int8.ofInt (14)).toInt32 = (14 : Int32) := by decide
theorem bp_16 : (Int8.ofInt (16)).toInt32 = (16 : Int32) := by decide
theorem bp_17 : (Int8.ofInt (17)).toInt32 = (17 : Int32) := by decide
theorem bp_18 : (Int8.ofInt (18)).toInt32 = (18 : Int32) := by decide
theorem bp_20 : (Int8.ofInt (20)).toInt32 = (20 : Int32) := by decide
theorem bp_24 : (Int8.ofInt (24)).toInt32 = (24 : Int32) := by decide
theorem bp_28 : (Int8.ofInt (28)).toInt32 = (28 : Int32) := by decide
theorem bp_30 : (Int8.ofInt (30)).toInt32 = (30 : Int32) := by decide
theorem bp_31 : (Int8.ofInt (31)).toInt32 = (31 : Int32) := by decide
theorem bp_32 : (Int8.ofInt (32)).toInt32 = (32 : Int32) := by decide
theorem bp_40 : (Int8.ofInt (40)).toInt32 = (40 : Int32) := by decide
theorem bp_41 : (Int8.ofInt (41)).toInt32 = (41 : Int32) := by decide
theorem bp_42 : (Int8.ofInt (42)).toInt32 = (42 : Int32) := by decide
theorem bp_43 : (Int8.ofInt (43)).toInt32 = (43 : Int32) := by decide
theorem bp_45 : (Int8.ofInt (45)).toInt32 = (45 : Int32) := by decide
theorem bp_47 : (Int8.ofInt (47)).toInt32 = (47 : Int32) := by decide
theorem bp_48 : (Int8.ofInt (48)).toInt32 = (48 : Int32) := by decide
theorem bp_57 : (Int8.ofInt (57)).toInt32 = (57 : Int32) := by decide
theorem bp_59 : (Int8.ofInt (59)).toInt32 = (59 : Int32) := by decide
theorem bp_60 : (Int8.ofInt (60)).toInt32 = (60 : Int32) := by decide
theorem bp_61 : (Int8.ofInt (61)).toInt32 = (61 : Int32) := by decide
theorem bp_63 : (Int8.ofInt (63)).toInt32 = (63 : Int32) := by decide
theorem bp_64 : (Int8.ofInt (64)).toInt32 = (64 : Int32) := by decide
theorem bp_80 : (Int8.ofInt (80)).toInt32 = (80 : Int32) := by decide
theorem bp_81 : (Int8.ofInt (81)).toInt32 = (81 : Int32) := by decide
theorem bp_97 : (Int8.ofInt (97)).toInt32 = (97 : Int32) := by decide
theorem bp_99 : (Int8.ofInt (99)).toInt32 = (99 : Int32) := by decide
theorem bp_100 : (Int8.ofInt (100)).toInt32 = (100 : Int32) := by decide
theorem bp_120 : (Int8.ofInt (120)).toInt32 = (120 : Int32) := by decide
theorem bp_122 : (Int8.ofInt (122)).toInt32 = (122 : Int32) := by decide
theorem ic_m8 : Int32.ofInt (-8) = (-8 : Int32) := by decide
theorem ic_m1 : Int32.ofInt (-1) = (-1 : Int32) := by decide
theorem ic_0 : Int32.ofInt (0) = (0 : Int32) := by decide
theorem ic_1 : Int32.ofInt (1) = (1 : Int32) := by decide
theorem ic_2 : Int32.ofInt (2) = (2 : Int32) := by decide
theorem ic_3 : Int32.ofInt (3) = (3 : Int32) := by decide
theorem ic_4 : Int32.ofInt (4) = (4 : Int32) := by decide
theorem ic_5 : Int32.ofInt (5) = (5 : Int32) := by decide
theorem ic_6 : Int32.ofInt (6) = (6 : Int32) := by decide
theorem sp_255 : (Int16.ofInt (255)).toInt32 = (255 : Int32) := by decide
theorem sp_700 : (Int16.ofInt (700)).toInt32 = (700 : Int32) := by decide
theorem sp_999 : (Int16.ofInt (999)).toInt32 = (999 : Int32) := by decide
theorem sp_1023 : (Int16.ofInt (1023)).toInt32 = (1023 : Int32) := by decide
theorem sp_1240 : (Int16.ofInt (1240)).toInt32 = (1240 : Int32) := by decide
theorem sp_1400 : (Int16.ofInt (1400)).toInt32 = (1400 : Int32) := by decide
theorem sp_4608 : (Int16.ofInt (4608)).toInt32 = (4608 : Int32) := by decide
theorem sp_9999 : (Int16.ofInt (9999)).toInt32 = (9999 : Int32) := by decide
theorem sp_10000 : (Int16.ofInt (10000)).toInt32 = (10000 : Int32) := by decide
theorem sp_12345 : (Int16.ofInt (12345)).toInt32 = (12345 : Int32) := by decide
theorem sp_32767 : (Int16.ofInt (32767)).toInt32 = (32767 : Int32) := by decide
theorem some_fst {α β : Type} {x : α} {h : β} {y : α × β} (e : some (x, h) = some y) : x = y.1 := congrArg Prod.fst (Option.some.inj e)
theorem some_snd {α β : Type} {x : α} {h : β} {y : α × β} (e : some (x, h) = some y) : h = y.2 := congrArg Prod.snd (Option.some.inj e)
def sm {α β γ : Type} (x : α ⊕ β) (f : α → γ) (g : β → γ) : γ := match x with
  | .inl a => f a
  | .inr b => g b
theorem sm_l {α β γ : Type} {a : α} {f : α → γ} {g : β → γ} {y : γ} (h : sm (Sum.inl a) f g = y) : f a = y := h
theorem sm_r {α β γ : Type} {b : β} {f : α → γ} {g : β → γ} {y : γ} (h : sm (Sum.inr b) f g = y) : g b = y := h
/-- a String constant's number -/
def sk (v : Int32) : Option Nat := if v.toNatClampNeg < SN then some v.toNatClampNeg else none
theorem sk_in {v : Int32} {k : Nat} (h : sk v = some k) : k < SN ∧ v.toNatClampNeg = k := by
  unfold sk at h
  by_cases hc : v.toNatClampNeg < SN
  · rw [if_pos hc] at h; cases h; exact ⟨hc, rfl⟩
  · rw [if_neg hc] at h; cases h
theorem av24 {g : GE} {o j k : Nat} {v : Int32} (e : v.toNatClampNeg = k) : aval g true 24 o j v = .ref (gK g k) := by subst e; rfl
theorem ofNat_back {f : Nat} (h : f < 2147483648) : (Int32.ofNat f).toNatClampNeg = f := nI_clamp h
theorem zb_fit {v x : Int32} (h : zb v = some x) : fits .boolean (.int v) = true := by
  unfold zb at h
  by_cases hc : v = 0 ∨ v = 1
  · rcases hc with rfl | rfl <;> rfl
  · rw [if_neg hc] at h; cases h
