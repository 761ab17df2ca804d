/-! Plain facts on the reference's rows: hours and samples one behind another. -/
def coF (M : Nat → Nat → Int32) : Nat → Int32 := fun j => if j < 192 then M (j / 24) (j % 24) else 0
def goF (M : Nat → Nat → Int32) : Nat → Int32 := fun j => if j < 192 then M (8 + j / 24) (j % 24) else 0
def hdF2 (M : Nat → Nat → Int32) : Nat → Int32 := fun j => if j < 128 then M (j / 64) (j % 64) else 0
theorem coF_at {M : Nat → Nat → Int32} {z h : Nat} (hz : z < 8) (hh : h < 24) : coF M (24 * z + h) = M z h := by
  unfold coF
  rw [if_pos (by omega), show (24 * z + h) / 24 = z by omega, show (24 * z + h) % 24 = h by omega]
theorem goF_at {M : Nat → Nat → Int32} {z h : Nat} (hz : z < 8) (hh : h < 24) : goF M (24 * z + h) = M (8 + z) h := by
  unfold goF
  rw [if_pos (by omega), show (24 * z + h) / 24 = z by omega, show (24 * z + h) % 24 = h by omega]
theorem hdF_at {M : Nat → Nat → Int32} {l i : Nat} (hl : l < 2) (hi : i < 64) : hdF2 M (64 * l + i) = M l i := by
  unfold hdF2
  rw [if_pos (by omega), show (64 * l + i) / 64 = l by omega, show (64 * l + i) % 64 = i by omega]
theorem coF_up {M : Nat → Nat → Int32} {z h : Nat} {v : Int32} (hz : z < 8) (hh : h < 24) : va_up (coF M) (24 * z + h) v = coF (nwU2 M z h v) ∧ goF (nwU2 M z h v) = goF M := by
  constructor
  · funext j
    by_cases e : j = 24 * z + h
    · subst e; rw [va_up_self, coF_at hz hh, nwU2_s]
    · rw [va_up_ne _ _ e]
      unfold coF
      by_cases q : j < 192
      · rw [if_pos q, if_pos q, nwU2_n (by omega)]
      · rw [if_neg q, if_neg q]
  · funext j
    unfold goF
    by_cases q : j < 192
    · rw [if_pos q, if_pos q, nwU2_n (by omega)]
    · rw [if_neg q, if_neg q]
theorem goF_up {M : Nat → Nat → Int32} {z h : Nat} {v : Int32} (hz : z < 8) (hh : h < 24) : va_up (goF M) (24 * z + h) v = goF (nwU2 M (8 + z) h v) ∧ coF (nwU2 M (8 + z) h v) = coF M := by
  constructor
  · funext j
    by_cases e : j = 24 * z + h
    · subst e; rw [va_up_self, goF_at hz hh, nwU2_s]
    · rw [va_up_ne _ _ e]
      unfold goF
      by_cases q : j < 192
      · rw [if_pos q, if_pos q, nwU2_n (by omega)]
      · rw [if_neg q, if_neg q]
  · funext j
    unfold coF
    by_cases q : j < 192
    · rw [if_pos q, if_pos q, nwU2_n (by omega)]
    · rw [if_neg q, if_neg q]
theorem hdF_up {M : Nat → Nat → Int32} {l i : Nat} {v : Int32} (hl : l < 2) (hi : i < 64) : va_up (hdF2 M) (64 * l + i) v = hdF2 (nwU2 M l i v) := by
  funext j
  by_cases e : j = 64 * l + i
  · subst e; rw [va_up_self, hdF_at hl hi, nwU2_s]
  · rw [va_up_ne _ _ e]
    unfold hdF2
    by_cases q : j < 128
    · rw [if_pos q, if_pos q, nwU2_n (by omega)]
    · rw [if_neg q, if_neg q]
theorem fl_take {er : Int32} {f g : Nat → Int32} {k : Nat} (h : (¬ f (k + 1) = -1) ∧ (¬ g (k + 1) = -1) ∧ ((lowF er f g k).1 = -1 ∨ grtF er (f (k + 1)) - lstF er (g (k + 1)) < (lowF er f g k).2.1)) : lowF er f g (k + 1) = (nI (k + 1), grtF er (f (k + 1)) - lstF er (g (k + 1)), lstF er (f (k + 1)) - grtF er (g (k + 1))) := by rw [lowF_s, nwIf_t h]
theorem fl_keep {er : Int32} {f g : Nat → Int32} {k : Nat} (h : ¬ ((¬ f (k + 1) = -1) ∧ (¬ g (k + 1) = -1) ∧ ((lowF er f g k).1 = -1 ∨ grtF er (f (k + 1)) - lstF er (g (k + 1)) < (lowF er f g k).2.1))) : lowF er f g (k + 1) = lowF er f g k := by rw [lowF_s, nwIf_f h]
theorem nw_two {x : Int32} (h : ¬ out x 0 2) (h0 : ¬ x = 0) (h1 : ¬ x = 1) : x = 2 := by
  obtain ⟨j, hj, rfl⟩ := nw_le (n := 2) rfl (by decide) h
  have a0 : ¬ j = 0 := fun e => h0 (by rw [e]; rfl)
  have a1 : ¬ j = 1 := fun e => h1 (by rw [e]; rfl)
  obtain rfl : j = 2 := by omega
  rfl
