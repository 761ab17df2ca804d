/-! Plain facts on zones: lost readings, the digest's part. -/
/-- of the first k readings (24 a zone), in and out: how many are lost -/
noncomputable def rlF (M : Nat → Nat → Int32) : Nat → Int32
  | 0 => 0
  | k + 1 => rlF M k + nwIf (M (k / 24) (k % 24) = -1) 1 0 + nwIf (M (8 + k / 24) (k % 24) = -1) 1 0
theorem rlF_s {M : Nat → Nat → Int32} (k : Nat) : rlF M (k + 1) = rlF M k + nwIf (M (k / 24) (k % 24) = -1) 1 0 + nwIf (M (8 + k / 24) (k % 24) = -1) 1 0 := rfl
theorem rlF_at {M : Nat → Nat → Int32} {z j : Nat} (hj : j < 24) : rlF M (24 * z + (j + 1)) = rlF M (24 * z + j) + nwIf (M z j = -1) 1 0 + nwIf (M (8 + z) j = -1) 1 0 := by
  have h := rlF_s (M := M) (24 * z + j)
  rw [show (24 * z + j) / 24 = z by omega, show (24 * z + j) % 24 = j by omega] at h
  exact h
theorem rlF_n {M : Nat → Nat → Int32} {z : Nat} : rlF M (24 * (z + 1)) = rlF M (24 * z + 24) := by rw [show 24 * (z + 1) = 24 * z + 24 by omega]
/-- a zone's hours mixed into the digest -/
def hdF (f g : Nat → Int32) (h : Int64) : Nat → Int64
  | 0 => h
  | j + 1 => 31 * (31 * hdF f g h j + (f j).toInt64) + (g j).toInt64
theorem hdF_s {f g : Nat → Int32} {h : Int64} (j : Nat) : hdF f g h (j + 1) = 31 * (31 * hdF f g h j + (f j).toInt64) + (g j).toInt64 := rfl
noncomputable def zdF (cu bg : Nat → Int32) (M : Nat → Nat → Int32) (er us : Int32) (h : Int64) : Nat → Int64
  | 0 => h
  | z + 1 => hdF (M z) (M (8 + z)) (31 * (31 * zdF cu bg M er us h z + (leakF er us (cu z) (bg z) (M z) (M (8 + z)) 0).toInt64) + (leakF er us (cu z) (bg z) (M z) (M (8 + z)) 1).toInt64) 24
theorem zdF_s {cu bg : Nat → Int32} {M : Nat → Nat → Int32} {er us : Int32} {h : Int64} (z : Nat) : zdF cu bg M er us h (z + 1) = hdF (M z) (M (8 + z)) (31 * (31 * zdF cu bg M er us h z + (leakF er us (cu z) (bg z) (M z) (M (8 + z)) 0).toInt64) + (leakF er us (cu z) (bg z) (M z) (M (8 + z)) 1).toInt64) 24 := rfl
theorem nw_in_ok {n z : Nat} (hz : z < n) (hn : n < 2 ^ 31) : ¬ out (nI z) 0 (nI n - 1) := by
  obtain ⟨m, rfl⟩ : ∃ m, n = m + 1 := ⟨n - 1, by omega⟩
  rw [nI_pred]
  unfold out
  rintro (h | h)
  · exact nI_pos (by omega) h
  · exact nI_nlt (show z ≤ m by omega) (by omega) h
theorem leaksF_at {n : Nat} {cu bg : Nat → Int32} {M : Nat → Nat → Int32} {er us what : Int32} {z : Nat} (hz : z < n) (hn : n ≤ 8) (hw : ¬ out what 0 1) : leaksF n cu bg M er us (nI z) what = leakF er us (cu z) (bg z) (M z) (M (8 + z)) what := by
  unfold leaksF
  rw [nwIf_f (fun h => h.elim (nw_in_ok hz (by omega)) hw), nI_clamp (by omega)]
