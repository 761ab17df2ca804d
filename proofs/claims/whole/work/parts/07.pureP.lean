/-! Plain facts on pressure: the root by counting up. -/
def rtG (q : Nat) : Nat → Nat
  | 0 => 0
  | f + 1 => if (rtG q f + 1) * (rtG q f + 1) ≤ q then rtG q f + 1 else rtG q f
def rtF (q : Nat) : Nat := rtG q 1001
theorem rtG_min {q r : Nat} (h1 : r * r ≤ q) (h2 : q < (r + 1) * (r + 1)) : ∀ f, rtG q f = min f r := by
  intro f
  induction f with
  | zero => exact (Nat.zero_min r).symm
  | succ f ih =>
    show (if (rtG q f + 1) * (rtG q f + 1) ≤ q then rtG q f + 1 else rtG q f) = min (f + 1) r
    rw [ih]
    rcases Nat.lt_or_ge f r with h | h
    · rw [Nat.min_eq_left (by omega), Nat.min_eq_left (by omega), if_pos]
      exact Nat.le_trans (Nat.mul_le_mul h h) h1
    · rw [Nat.min_eq_right h, Nat.min_eq_right (by omega), if_neg (by omega)]
theorem rtF_is {q r : Nat} (h1 : r * r ≤ q) (h2 : q < (r + 1) * (r + 1)) (h : r ≤ 1001) : rtF q = r := by
  unfold rtF
  rw [rtG_min h1 h2]
  exact Nat.min_eq_right h
theorem rtG_le {q : Nat} : ∀ f, rtG q f ≤ f := by
  intro f
  induction f with
  | zero => exact Nat.le_refl 0
  | succ f ih =>
    show (if (rtG q f + 1) * (rtG q f + 1) ≤ q then rtG q f + 1 else rtG q f) ≤ f + 1
    by_cases h : (rtG q f + 1) * (rtG q f + 1) ≤ q
    · rw [if_pos h]; omega
    · rw [if_neg h]; omega
theorem rtG_pos {q : Nat} (hq : 1 ≤ q) : ∀ f, 1 ≤ rtG q (f + 1) := by
  intro f
  induction f with
  | zero =>
    show 1 ≤ (if (rtG q 0 + 1) * (rtG q 0 + 1) ≤ q then rtG q 0 + 1 else rtG q 0)
    rw [if_pos (show (rtG q 0 + 1) * (rtG q 0 + 1) ≤ q from hq)]
    exact Nat.le_add_left 1 _
  | succ f ih =>
    show 1 ≤ (if (rtG q (f + 1) + 1) * (rtG q (f + 1) + 1) ≤ q then rtG q (f + 1) + 1 else rtG q (f + 1))
    by_cases h : (rtG q (f + 1) + 1) * (rtG q (f + 1) + 1) ≤ q
    · rw [if_pos h]; omega
    · rw [if_neg h]; exact ih
def pullF (x : Nat) : Int64 := (nI x).toInt64 * (nI (rtF (10000 * x))).toInt64
theorem pullF_pos {x : Nat} (h1 : 1 ≤ x) (h2 : x ≤ 100) : 0 < pullF x := by
  unfold pullF
  have hr : rtF (10000 * x) ≤ 1001 := rtG_le 1001
  have hp : 1 ≤ rtF (10000 * x) := rtG_pos (by omega) 1000
  rw [nI_l (by omega), nI_l (by omega), lN_mul, show (0 : Int64) = lN 0 from rfl]
  have hm : x * rtF (10000 * x) ≤ 100 * 1001 := Nat.mul_le_mul h2 hr
  have hm2 : 1 * 1 ≤ x * rtF (10000 * x) := Nat.mul_le_mul h1 hp
  rw [lN_lt (by omega) (by omega)]
  omega
theorem nw_rng1 {x M : Int32} {n : Nat} (hM : M = nI n) (hn : n < 2 ^ 31) (h : ¬ out x 1 M) : ∃ j : Nat, 1 ≤ j ∧ j ≤ n ∧ x = nI j := by
  have h0 : ¬ out x 0 M := by
    unfold out at h ⊢
    rintro (q | q)
    · exact h (Or.inl (Int32.lt_trans q (by decide)))
    · exact h (Or.inr q)
  obtain ⟨j, h1, rfl⟩ := nw_le hM hn h0
  refine ⟨j, ?_, h1, rfl⟩
  rcases Nat.eq_zero_or_pos j with e | e
  · subst e; exact absurd (Or.inl (by decide)) h
  · exact e
noncomputable def pulledF (v x y : Int32) : Int32 := nwIf (out v 0 100000 ∨ out x 1 100 ∨ out y 1 100) (-2) ((v.toInt64 * pullF y.toNatClampNeg / pullF x.toNatClampNeg).toInt32)
