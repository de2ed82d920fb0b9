/-! ===== the pure part: rows, loops, frames ===== -/
theorem bnd_s {α β : Type} (a : α) (f : α → Option β) : bnd (some a) f = f a := rfl
theorem grd_p {α : Type} {c : Prop} [Decidable c] {x : Option α} (h : c) : grd c x = x := if_pos h
theorem rd_k {n k : Nat} {f : Nat → Int32} (h : k < n) (hn : n < 2 ^ 31 := by decide) : rd n f (nI k) = some (f k) := by
  unfold rd
  rw [if_pos (nI_in h hn), nI_clamp (Nat.lt_trans h hn)]
theorem wr_k {n k : Nat} {h : ST} {o : Nat} {x : Int32} (hk : k < n) (hn : n < 2 ^ 31 := by decide) : wr n h o (nI k) x = some (up2 h o k x) := by
  unfold wr
  rw [if_pos (nI_in hk hn), nI_clamp (Nat.lt_trans hk hn)]
theorem rd_l {n k : Nat} {f : Nat → Int32} (h : k < n) (hn : n < 2 ^ 31 := by decide) : rd n f (OfNat.ofNat k) = some (f k) := rd_k h hn
theorem wr_l {n k : Nat} {h : ST} {o : Nat} {x : Int32} (hk : k < n) (hn : n < 2 ^ 31 := by decide) : wr n h o (OfNat.ofNat k) x = some (up2 h o k x) := wr_k hk hn
theorem pw_s (h : ST) (o k : Nat) (x : Int32) : pw h o k x = some (up2 h o k x) := rfl
theorem rd_e {n k : Nat} {f : Nat → Int32} {i : Int32} (e : i = nI k) (h : k < n) (hn : n < 2 ^ 31 := by decide) : rd n f i = some (f k) := by rw [e]; exact rd_k h hn
theorem wr_e {n k : Nat} {h : ST} {o : Nat} {i x : Int32} (e : i = nI k) (hk : k < n) (hn : n < 2 ^ 31 := by decide) : wr n h o i x = some (up2 h o k x) := by rw [e]; exact wr_k hk hn
theorem upd_s (f : Nat → Int32) (k : Nat) (v : Int32) : upd f k v k = v := by simp [upd]
theorem upd_n {f : Nat → Int32} {k j : Nat} {v : Int32} (h : j ≠ k) : upd f k v j = f j := by simp [upd, h]
theorem up2_ss (h : ST) (o k : Nat) (v : Int32) : up2 h o k v o k = v := by rw [up2_s, upd_s]
theorem up2_sn {h : ST} {o k j : Nat} {v : Int32} (n : j ≠ k) : up2 h o k v o j = h o j := by rw [up2_s, upd_n n]
theorem zb_0 : zb 0 = some 0 := rfl
theorem zb_1 : zb 1 = some 1 := rfl
/-- loops that count -/
theorem lp_s {σ ρ : Type} {n : Nat} {b : σ → Option (σ ⊕ ρ)} {s s' : σ} (h : b s = some (.inl s')) : lp (n + 1) b s = lp n b s' := by
  show (match b s with | none => none | some (.inl s') => lp n b s' | some (.inr r) => some r) = _
  rw [h]
theorem lp_r {σ ρ : Type} {n : Nat} {b : σ → Option (σ ⊕ ρ)} {s : σ} {r : ρ} (h : b s = some (.inr r)) : lp (n + 1) b s = some r := by
  show (match b s with | none => none | some (.inl s') => lp n b s' | some (.inr r) => some r) = _
  rw [h]
theorem lp_cnt0 {σ ρ : Type} {b : σ → Option (σ ⊕ ρ)} {Q : ρ → Prop} (I : Nat → σ → Prop) (N : Nat) (step : ∀ i s, i < N → I i s → (∃ s', b s = some (.inl s') ∧ I (i + 1) s') ∨ ∃ r, b s = some (.inr r) ∧ Q r) (fin : ∀ s, I N s → ∃ r, b s = some (.inr r) ∧ Q r) :
    ∀ d F i s, i + d = N → d < F → I i s → ∃ r, lp F b s = some r ∧ Q r := by
  intro d
  induction d with
  | zero =>
    intro F i s hi hF h
    obtain ⟨F, rfl⟩ : ∃ q, F = q + 1 := ⟨F - 1, by omega⟩
    have hi : i = N := by omega
    subst hi
    obtain ⟨r, h1, h2⟩ := fin s h
    exact ⟨r, lp_r h1, h2⟩
  | succ d ih =>
    intro F i s hi hF h
    obtain ⟨F, rfl⟩ : ∃ q, F = q + 1 := ⟨F - 1, by omega⟩
    rcases step i s (by omega) h with ⟨s', h1, h2⟩ | ⟨r, h1, h2⟩
    · obtain ⟨r, h3, h4⟩ := ih F (i + 1) s' (by omega) (by omega) h2
      exact ⟨r, by rw [lp_s h1]; exact h3, h4⟩
    · exact ⟨r, lp_r h1, h2⟩
theorem lp_cnt {σ ρ : Type} {b : σ → Option (σ ⊕ ρ)} {Q : ρ → Prop} {s : σ} (I : Nat → σ → Prop) (N : Nat) (hN : N < 1000000) (step : ∀ i s, i < N → I i s → (∃ s', b s = some (.inl s') ∧ I (i + 1) s') ∨ ∃ r, b s = some (.inr r) ∧ Q r) (fin : ∀ s, I N s → ∃ r, b s = some (.inr r) ∧ Q r) (h0 : I 0 s) : ∃ r, lp FU b s = some r ∧ Q r :=
  lp_cnt0 I N step fin N FU 0 s (by omega) (Nat.lt_trans hN (by decide)) h0
/-- .. that always go to their end, the state being known -/
theorem lp_det {σ ρ : Type} {b : σ → Option (σ ⊕ ρ)} {r : ρ} (S : Nat → σ) (N : Nat) (hN : N < 1000000) (step : ∀ i, i < N → b (S i) = some (.inl (S (i + 1)))) (fin : b (S N) = some (.inr r)) : lp FU b (S 0) = some r := by
  obtain ⟨q, h1, h2⟩ := lp_cnt (b := b) (Q := fun q => q = r) (s := S 0) (fun i s => s = S i) N hN (fun i s hi e => Or.inl ⟨S (i + 1), by rw [e]; exact step i hi, rfl⟩) (fun s e => ⟨r, by rw [e]; exact fin, rfl⟩) rfl
  rw [h1, h2]
/-- .. whose rest grows less -/
theorem lp_mea {σ ρ : Type} {b : σ → Option (σ ⊕ ρ)} {Q : ρ → Prop} (I : σ → Prop) (μ : σ → Nat) (step : ∀ s, I s → (∃ s', b s = some (.inl s') ∧ I s' ∧ μ s' < μ s) ∨ ∃ r, b s = some (.inr r) ∧ Q r) :
    ∀ d F s, μ s ≤ d → d < F → I s → ∃ r, lp F b s = some r ∧ Q r := by
  intro d
  induction d with
  | zero =>
    intro F s hd hF h
    obtain ⟨F, rfl⟩ : ∃ q, F = q + 1 := ⟨F - 1, by omega⟩
    rcases step s h with ⟨s', h1, h2, h3⟩ | ⟨r, h1, h2⟩
    · omega
    · exact ⟨r, lp_r h1, h2⟩
  | succ d ih =>
    intro F s hd hF h
    obtain ⟨F, rfl⟩ : ∃ q, F = q + 1 := ⟨F - 1, by omega⟩
    rcases step s h with ⟨s', h1, h2, h3⟩ | ⟨r, h1, h2⟩
    · obtain ⟨r, h4, h5⟩ := ih F s' (by omega) (by omega) h2
      exact ⟨r, by rw [lp_s h1]; exact h4, h5⟩
    · exact ⟨r, lp_r h1, h2⟩
theorem lp_meas {σ ρ : Type} {b : σ → Option (σ ⊕ ρ)} {Q : ρ → Prop} {s : σ} (I : σ → Prop) (μ : σ → Nat) (hm : μ s < 1000000) (step : ∀ s, I s → (∃ s', b s = some (.inl s') ∧ I s' ∧ μ s' < μ s) ∨ ∃ r, b s = some (.inr r) ∧ Q r) (h0 : I s) : ∃ r, lp FU b s = some r ∧ Q r :=
  lp_mea I μ step (μ s) FU s (Nat.le_refl _) (Nat.lt_trans hm (by decide)) h0
/-- what may have changed -/
def Fr (S : List Nat) (h h' : ST) : Prop := ∀ i, i ∉ S → h' i = h i
def Fs (o : Nat) (T : List Nat) (h h' : ST) : Prop := ∀ k, k ∉ T → h' o k = h o k
theorem Fr.rf {S : List Nat} {h : ST} : Fr S h h := fun _ _ => rfl
theorem Fs.rf {o : Nat} {T : List Nat} {h : ST} : Fs o T h h := fun _ _ => rfl
theorem Fr.tr {S : List Nat} {h h1 h2 : ST} (a : Fr S h h1) (b : Fr S h1 h2) : Fr S h h2 := fun i hi => (b i hi).trans (a i hi)
theorem Fs.tr {o : Nat} {T : List Nat} {h h1 h2 : ST} (a : Fs o T h h1) (b : Fs o T h1 h2) : Fs o T h h2 := fun i hi => (b i hi).trans (a i hi)
theorem Fr.sub {S S' : List Nat} {h h1 : ST} (a : Fr S h h1) (hs : ∀ i, i ∈ S → i ∈ S') : Fr S' h h1 := fun i hi => a i (fun q => hi (hs i q))
theorem Fs.sub {o : Nat} {T T' : List Nat} {h h1 : ST} (a : Fs o T h h1) (hs : ∀ i, i ∈ T → i ∈ T') : Fs o T' h h1 := fun i hi => a i (fun q => hi (hs i q))
theorem Fr.up {S : List Nat} {h h1 : ST} (a : Fr S h h1) {o k : Nat} {v : Int32} (ho : o ∈ S) : Fr S h (up2 h1 o k v) := fun i hi => (up2_n (fun e : i = o => hi (by rw [e]; exact ho))).trans (a i hi)
theorem Fs.up {o : Nat} {T : List Nat} {h h1 : ST} (a : Fs o T h h1) {k : Nat} {v : Int32} (hk : k ∈ T) : Fs o T h (up2 h1 o k v) := fun i hi => (up2_sn (fun e : i = k => hi (by rw [e]; exact hk))).trans (a i hi)
theorem Fs.un {o : Nat} {T : List Nat} {h h1 : ST} (a : Fs o T h h1) {q k : Nat} {v : Int32} (ho : o ≠ q) : Fs o T h (up2 h1 q k v) := fun i hi => (congrFun (up2_n ho) i).trans (a i hi)
theorem Fs.of {o : Nat} {T S : List Nat} {h h1 : ST} (a : Fr S h h1) (ho : o ∉ S) : Fs o T h h1 := fun i _ => congrFun (a o ho) i
theorem rd_0 {n : Nat} {f : Nat → Int32} (h : 0 < n) (hn : n < 2 ^ 31) : rd n f 0 = some (f 0) := rd_k h hn
theorem wr_0 {n : Nat} {h : ST} {o : Nat} {x : Int32} (hk : 0 < n) (hn : n < 2 ^ 31) : wr n h o 0 x = some (up2 h o 0 x) := wr_k hk hn
theorem rd_1 {n : Nat} {f : Nat → Int32} (h : 1 < n) (hn : n < 2 ^ 31) : rd n f 1 = some (f 1) := rd_k h hn
theorem wr_1 {n : Nat} {h : ST} {o : Nat} {x : Int32} (hk : 1 < n) (hn : n < 2 ^ 31) : wr n h o 1 x = some (up2 h o 1 x) := wr_k hk hn
theorem rd_2 {n : Nat} {f : Nat → Int32} (h : 2 < n) (hn : n < 2 ^ 31) : rd n f 2 = some (f 2) := rd_k h hn
theorem wr_2 {n : Nat} {h : ST} {o : Nat} {x : Int32} (hk : 2 < n) (hn : n < 2 ^ 31) : wr n h o 2 x = some (up2 h o 2 x) := wr_k hk hn
theorem rd_3 {n : Nat} {f : Nat → Int32} (h : 3 < n) (hn : n < 2 ^ 31) : rd n f 3 = some (f 3) := rd_k h hn
theorem wr_3 {n : Nat} {h : ST} {o : Nat} {x : Int32} (hk : 3 < n) (hn : n < 2 ^ 31) : wr n h o 3 x = some (up2 h o 3 x) := wr_k hk hn
theorem rd_4 {n : Nat} {f : Nat → Int32} (h : 4 < n) (hn : n < 2 ^ 31) : rd n f 4 = some (f 4) := rd_k h hn
theorem wr_4 {n : Nat} {h : ST} {o : Nat} {x : Int32} (hk : 4 < n) (hn : n < 2 ^ 31) : wr n h o 4 x = some (up2 h o 4 x) := wr_k hk hn
theorem rd_5 {n : Nat} {f : Nat → Int32} (h : 5 < n) (hn : n < 2 ^ 31) : rd n f 5 = some (f 5) := rd_k h hn
theorem wr_5 {n : Nat} {h : ST} {o : Nat} {x : Int32} (hk : 5 < n) (hn : n < 2 ^ 31) : wr n h o 5 x = some (up2 h o 5 x) := wr_k hk hn
theorem rd_6 {n : Nat} {f : Nat → Int32} (h : 6 < n) (hn : n < 2 ^ 31) : rd n f 6 = some (f 6) := rd_k h hn
theorem wr_6 {n : Nat} {h : ST} {o : Nat} {x : Int32} (hk : 6 < n) (hn : n < 2 ^ 31) : wr n h o 6 x = some (up2 h o 6 x) := wr_k hk hn
theorem rd_7 {n : Nat} {f : Nat → Int32} (h : 7 < n) (hn : n < 2 ^ 31) : rd n f 7 = some (f 7) := rd_k h hn
theorem wr_7 {n : Nat} {h : ST} {o : Nat} {x : Int32} (hk : 7 < n) (hn : n < 2 ^ 31) : wr n h o 7 x = some (up2 h o 7 x) := wr_k hk hn
