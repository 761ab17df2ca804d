/-! Plain facts on the reference's listeners: its order of delays, and that it finds the same. -/
theorem hdF_0 {M : Nat → Nat → Int32} {i : Nat} (hi : i < 64) : hdF2 M i = M 0 i := by
  have h := hdF_at (M := M) (l := 0) (i := i) (by omega) hi
  rwa [Nat.mul_zero, Nat.zero_add] at h
theorem hdF_1 {M : Nat → Nat → Int32} {i : Nat} (hi : i < 64) : hdF2 M (64 + i) = M 1 i := by
  have h := hdF_at (M := M) (l := 1) (i := i) (by omega) hi
  rwa [Nat.mul_one] at h
theorem sh64 {i j : Nat} {d : Int32} (h : nI i + d = nI j) : nI (64 + i) + d = nI (64 + j) := by
  rw [← nI_add, Int32.add_assoc, h, nI_add]
def nearG (c d : Int32) : Prop := ¬ out (d - c) (-1) 1
def sdv (t : Nat) : Int32 := if t = 0 then -1 else if t = 1 then 1 else 3
def dM (s t : Nat) : Int32 := nI s * sdv t
theorem sdv_s {t : Nat} (h : t < 2) : sdv t + 2 = sdv (t + 1) := by
  rcases Nat.lt_or_ge t 1 with q | q
  · obtain rfl : t = 0 := by omega
    decide
  · obtain rfl : t = 1 := by omega
    decide
theorem sdv_2 {t : Nat} {x : Int32} (h : t ≤ 2) (e : x = sdv t) (hx : 2 ≤ x) : t = 2 := by
  rcases Nat.lt_or_ge t 1 with q | q
  · obtain rfl : t = 0 := by omega
    rw [e] at hx; exact absurd hx (by decide)
  · rcases Nat.lt_or_ge t 2 with q2 | q2
    · obtain rfl : t = 1 := by omega
      rw [e] at hx; exact absurd hx (by decide)
    · omega
theorem sdv_l {t : Nat} {x : Int32} (h : t ≤ 2) (e : x = sdv t) (hx : ¬ 2 ≤ x) : t < 2 := by
  rcases Nat.lt_or_ge t 2 with q | q
  · exact q
  · obtain rfl : t = 2 := by omega
    rw [e] at hx; exact absurd (by decide) hx
noncomputable def mseq (f g : Nat → Int32) (near : Int32 → Prop) : Nat → Int32 × Int64 × Int64
  | 0 => (-101, 0, 1)
  | s + 1 => dst f g near (dst f g near (mseq f g near s) (dM s 0)) (dM s 1)
noncomputable def mid (f g : Nat → Int32) (near : Int32 → Prop) (s : Nat) : Nat → Int32 × Int64 × Int64
  | 0 => mseq f g near s
  | t + 1 => dst f g near (mid f g near s t) (dM s t)
theorem mid_s {f g : Nat → Int32} {near : Int32 → Prop} {s t : Nat} : mid f g near s (t + 1) = dst f g near (mid f g near s t) (dM s t) := rfl
theorem mseq_s {f g : Nat → Int32} {near : Int32 → Prop} {s : Nat} : mseq f g near (s + 1) = mid f g near s 2 := rfl
theorem dM_eq {s t : Nat} {x : Int32} (h : t < 2) (e : x = sdv t) : dM s t = nI s * x := by rw [e]; rfl
noncomputable def bestG (f g : Nat → Int32) (c : Int32) : Int32 := (mseq f g (nearG c) 17).1
theorem bestG_eq {f g : Nat → Int32} {c : Int32} {x : Int32 × Int64 × Int64} (h : mseq f g (nearG c) 17 = x) : x.1 = bestG f g c := by rw [← h]; rfl
noncomputable def delayG (M : Nat → Nat → Int32) (b : Int32) : Int32 := nwIf (b = 0) (bestG (M 0) (M 1) 1000) (nwIf (bestG (M 0) (M 1) 1000 = -101) (bestG (M 0) (M 1) 1000) (bestG (M 0) (M 1) (bestG (M 0) (M 1) 1000)))
noncomputable def plcM (len x y what : Int32) : Int32 := nwIf (nwIf ((what = 0 ∧ x < y) ∨ ((¬ what = 0) ∧ ¬ x < y)) x y < 0) 0 (nwIf (2 * len < nwIf ((what = 0 ∧ x < y) ∨ ((¬ what = 0) ∧ ¬ x < y)) x y) (2 * len) (nwIf ((what = 0 ∧ x < y) ∨ ((¬ what = 0) ∧ ¬ x < y)) x y))
noncomputable def placeG (M : Nat → Nat → Int32) (len s t what : Int32) : Int32 := nwIf (out len 1 100000 ∨ out s 1 2000 ∨ out t s 2000 ∨ out what 0 1) (-2) (nwIf (bestG (M 0) (M 1) 1000 = -101) (-3) (plcM len (len - bestG (M 0) (M 1) 1000 * s) (len - bestG (M 0) (M 1) 1000 * t) what))
