/-! Plain facts: a choice by any proposition, ranges of ints, what the class reckons (zones). -/
noncomputable def nwIf {α : Type} (p : Prop) (a b : α) : α := @ite α p (Classical.propDecidable p) a b
theorem nwIf_t {α : Type} {p : Prop} (h : p) (a b : α) : nwIf p a b = a := by unfold nwIf; exact if_pos h
theorem nwIf_f {α : Type} {p : Prop} (h : ¬ p) (a b : α) : nwIf p a b = b := by unfold nwIf; exact if_neg h
theorem nwIf_T {α : Type} (a b : α) : nwIf True a b = a := nwIf_t trivial a b
theorem nwIf_F {α : Type} (a b : α) : nwIf False a b = b := nwIf_f id a b

theorem nw_dec {k : Nat} (h : 0 < k) : nI k + Int32.ofInt (-1) = nI (k - 1) := by
  obtain ⟨j, rfl⟩ : ∃ j, k = j + 1 := ⟨k - 1, by omega⟩
  exact pk_m1 j
def out (v lo hi : Int32) : Prop := v < lo ∨ hi < v
theorem nw_le {x M : Int32} {n : Nat} (hM : M = nI n) (hn : n < 2 ^ 31) (h : ¬ out x 0 M) : ∃ j : Nat, j ≤ n ∧ x = nI j := by
  subst hM
  unfold out at h
  obtain ⟨j, hj, rfl⟩ := nI_of (x := x) (fun q => h (Or.inl q))
  refine ⟨j, ?_, rfl⟩
  rcases Nat.lt_or_ge n j with q | q
  · exact absurd (Or.inr (nI_lt q hj)) h
  · exact q
theorem nw_lt {x : Int32} {n : Nat} (hn : n < 2 ^ 31) (h : ¬ out x 0 (nI n - 1)) : ∃ j : Nat, j < n ∧ x = nI j := by
  cases n with
  | zero =>
    exfalso
    unfold out at h
    obtain ⟨j, hj, rfl⟩ := nI_of (x := x) (fun q => h (Or.inl q))
    apply h
    right
    rw [Int32.lt_iff_toInt_lt, nI_toInt hj]
    have : (nI 0 - 1 : Int32).toInt = -1 := by decide
    omega
  | succ n =>
    rw [nI_pred] at h
    obtain ⟨j, h1, h2⟩ := nw_le rfl (by omega) h
    exact ⟨j, by omega, h2⟩
theorem nw_clamp {x : Int32} {j : Nat} (h : x = nI j) (hj : j < 2 ^ 31) : x.toNatClampNeg = j := by rw [h]; exact nI_clamp hj
/-! zones -/
def lstF (er v : Int32) : Int32 := v * (1000 - er) / 1000
def grtF (er v : Int32) : Int32 := (v * (1000 + er) + 999) / 1000
noncomputable def zoneF (n : Nat) (c b : Int32) : Int32 := nwIf (out c 0 5000 ∨ out b 0 5000) (-2) (nwIf (8 ≤ n) (-4) (nI n))
def zoneOk (n : Nat) (c b : Int32) : Prop := ¬ out c 0 5000 ∧ ¬ out b 0 5000 ∧ n < 8
def rulesOk (e u : Int32) : Prop := ¬ out e 0 200 ∧ ¬ out u 0 20
def readOk (n : Nat) (z h v : Int32) : Prop := ¬ out z 0 (nI n - 1) ∧ ¬ out h 0 23 ∧ ¬ out v (-1) 20000
noncomputable def readRow (z b : Int32) : Nat := nwIf (b = 0) (8 + z.toNatClampNeg) z.toNatClampNeg
/-- the low of hours 1 .. k: the hour (-1: none), its greatest, its least -/
noncomputable def lowF (er : Int32) (f g : Nat → Int32) : Nat → Int32 × Int32 × Int32
  | 0 => (-1, 0, 0)
  | k + 1 => nwIf ((¬ f (k + 1) = -1) ∧ (¬ g (k + 1) = -1) ∧ ((lowF er f g k).1 = -1 ∨ grtF er (f (k + 1)) - lstF er (g (k + 1)) < (lowF er f g k).2.1)) (nI (k + 1), grtF er (f (k + 1)) - lstF er (g (k + 1)), lstF er (f (k + 1)) - grtF er (g (k + 1))) (lowF er f g k)
theorem lowF_s {er : Int32} {f g : Nat → Int32} (k : Nat) : lowF er f g (k + 1) = nwIf ((¬ f (k + 1) = -1) ∧ (¬ g (k + 1) = -1) ∧ ((lowF er f g k).1 = -1 ∨ grtF er (f (k + 1)) - lstF er (g (k + 1)) < (lowF er f g k).2.1)) (nI (k + 1), grtF er (f (k + 1)) - lstF er (g (k + 1)), lstF er (f (k + 1)) - grtF er (g (k + 1))) (lowF er f g k) := rfl
theorem lowF_h {er : Int32} {f g : Nat → Int32} (k : Nat) : (lowF er f g k).1 = -1 ∨ ∃ h : Nat, 1 ≤ h ∧ h ≤ k ∧ lowF er f g k = (nI h, grtF er (f h) - lstF er (g h), lstF er (f h) - grtF er (g h)) := by
  induction k with
  | zero => left; rfl
  | succ k ih =>
    rw [lowF_s]
    by_cases c : ((¬ f (k + 1) = -1) ∧ (¬ g (k + 1) = -1) ∧ ((lowF er f g k).1 = -1 ∨ grtF er (f (k + 1)) - lstF er (g (k + 1)) < (lowF er f g k).2.1))
    · rw [nwIf_t c]
      right
      exact ⟨k + 1, by omega, by omega, rfl⟩
    · rw [nwIf_f c]
      rcases ih with h | ⟨h, h1, h2, h3⟩
      · exact Or.inl h
      · exact Or.inr ⟨h, h1, by omega, h3⟩
theorem nI_nm1 {h : Nat} (hh : h < 2 ^ 31) : ¬ nI h = -1 := by
  intro e
  have := congrArg Int32.toInt e
  rw [nI_toInt hh] at this
  have h2 : (-1 : Int32).toInt = -1 := by decide
  omega
noncomputable def leakF (er us c b : Int32) (f g : Nat → Int32) (what : Int32) : Int32 := nwIf ((lowF er f g 4).1 = -1) (-2000000000) (nwIf (what = 0) ((lowF er f g 4).2.2 - b - c * us) ((lowF er f g 4).2.1 - b))
noncomputable def lowPF (n : Nat) (M : Nat → Nat → Int32) (er z what : Int32) : Int32 := nwIf (out z 0 (nI n - 1) ∨ out what 0 2) (-2000000000) (nwIf ((lowF er (M z.toNatClampNeg) (M (8 + z.toNatClampNeg)) 4).1 = -1) (-2000000000) (nwIf (what = 2) (lowF er (M z.toNatClampNeg) (M (8 + z.toNatClampNeg)) 4).1 (nwIf (what = 0) (lowF er (M z.toNatClampNeg) (M (8 + z.toNatClampNeg)) 4).2.2 (lowF er (M z.toNatClampNeg) (M (8 + z.toNatClampNeg)) 4).2.1)))
noncomputable def leaksF (n : Nat) (cu bg : Nat → Int32) (M : Nat → Nat → Int32) (er us z what : Int32) : Int32 := nwIf (out z 0 (nI n - 1) ∨ out what 0 1) (-2000000000) (leakF er us (cu z.toNatClampNeg) (bg z.toNatClampNeg) (M z.toNatClampNeg) (M (8 + z.toNatClampNeg)) what)
