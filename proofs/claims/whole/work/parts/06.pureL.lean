/-! Plain facts on listeners: sums, counts, the delay. -/
def sampOk (l i v : Int32) : Prop := ¬ out l 0 1 ∧ ¬ out i 0 63 ∧ (v = -2000000000 ∨ ¬ out v (-1000) 1000)
def echoBad (l i j n : Int32) : Prop := out l 0 1 ∨ out n 1 64 ∨ out i 0 (64 - n) ∨ out j 0 (64 - n)
/-- rows behind m copied samples -/
noncomputable def cpF (M : Nat → Nat → Int32) (l i j : Nat) : Nat → Nat → Nat → Int32
  | 0 => M
  | m + 1 => nwU2 (cpF M l i j m) l (i + m) (cpF M l i j m (1 - l) (j + m))
theorem cpF_s {M : Nat → Nat → Int32} {l i j : Nat} (m : Nat) : cpF M l i j (m + 1) = nwU2 (cpF M l i j m) l (i + m) (cpF M l i j m (1 - l) (j + m)) := rfl
def pairF (f g : Nat → Int32) (i : Nat) (d : Int32) : Prop := ¬ out (nI i + d) 0 63 ∧ ¬ f i = -2000000000 ∧ ¬ g (nI i + d).toNatClampNeg = -2000000000
noncomputable def sumF (f g : Nat → Int32) (d : Int32) : Nat → Int32
  | 0 => 0
  | i + 1 => nwIf (pairF f g i d) (sumF f g d i + f i * g (nI i + d).toNatClampNeg) (sumF f g d i)
noncomputable def cntF (f g : Nat → Int32) (d : Int32) : Nat → Nat
  | 0 => 0
  | i + 1 => nwIf (pairF f g i d) (cntF f g d i + 1) (cntF f g d i)
theorem sumF_s {f g : Nat → Int32} {d : Int32} (i : Nat) : sumF f g d (i + 1) = nwIf (pairF f g i d) (sumF f g d i + f i * g (nI i + d).toNatClampNeg) (sumF f g d i) := rfl
theorem cntF_s {f g : Nat → Int32} {d : Int32} (i : Nat) : cntF f g d (i + 1) = nwIf (pairF f g i d) (cntF f g d i + 1) (cntF f g d i) := rfl
theorem cntF_le {f g : Nat → Int32} {d : Int32} : ∀ i, cntF f g d i ≤ i := by
  intro i
  induction i with
  | zero => exact Nat.le_refl 0
  | succ i ih =>
    rw [cntF_s]
    by_cases c : pairF f g i d
    · rw [nwIf_t c]; omega
    · rw [nwIf_f c]; omega
noncomputable def sumPF (M : Nat → Nat → Int32) (d what : Int32) : Int32 := nwIf (out d (-16) 16 ∨ out what 0 1) (-2000000000) (nwIf (what = 0) (sumF (M 0) (M 1) d 64) (nI (cntF (M 0) (M 1) d 64)))
/-- one delay held against the best so far: the best (-101: none), its sum, its count -/
noncomputable def dst (f g : Nat → Int32) (near : Int32 → Prop) (st : Int32 × Int64 × Int64) (d : Int32) : Int32 × Int64 × Int64 :=
  nwIf (¬ near d ∧ 0 < cntF f g d 64 ∧ (st.1 = -101 ∨ st.2.1 * (nI (cntF f g d 64)).toInt64 < (sumF f g d 64).toInt64 * st.2.2)) (d, (sumF f g d 64).toInt64, (nI (cntF f g d 64)).toInt64) st
noncomputable def dT (t : Nat) : Int32 := nwIf (t % 2 = 0) (nI (t / 2)) (-(nI (t / 2)) - 1)
noncomputable def dseq (f g : Nat → Int32) (near : Int32 → Prop) : Nat → Int32 × Int64 × Int64
  | 0 => (-101, 0, 0)
  | t + 1 => dst f g near (dseq f g near t) (dT t)
theorem dseq_s {f g : Nat → Int32} {near : Int32 → Prop} (t : Nat) : dseq f g near (t + 1) = dst f g near (dseq f g near t) (dT t) := rfl
def nearF (c d : Int32) : Prop := ¬ 1 < (if 0 ≤ d - c then d - c else 0 - (d - c))
noncomputable def bestF (f g : Nat → Int32) (c : Int32) : Int32 := (dseq f g (nearF c) 33).1
noncomputable def delayF (M : Nat → Nat → Int32) (b : Int32) : Int32 := nwIf (b = 0) (bestF (M 0) (M 1) (-101)) (bestF (M 0) (M 1) (bestF (M 0) (M 1) (-101)))
noncomputable def pipeF (x len : Int32) : Int32 := if 0 < (if x < 2 * len then x else 2 * len) then (if x < 2 * len then x else 2 * len) else 0
noncomputable def placeF (M : Nat → Nat → Int32) (len s t what : Int32) : Int32 := nwIf (out len 1 100000 ∨ out s 1 2000 ∨ out t s 2000 ∨ out what 0 1) (-2) (nwIf (delayF M 0 = -101) (-3) (nwIf (what = 0) (if pipeF (len - delayF M 0 * t) len < pipeF (len - delayF M 0 * s) len then pipeF (len - delayF M 0 * t) len else pipeF (len - delayF M 0 * s) len) (if pipeF (len - delayF M 0 * s) len < pipeF (len - delayF M 0 * t) len then pipeF (len - delayF M 0 * t) len else pipeF (len - delayF M 0 * s) len)))
/-- how many of the first k samples of a row are lost -/
noncomputable def lostF (f g : Nat → Int32) : Nat → Int32
  | 0 => 0
  | k + 1 => lostF f g k + nwIf (f k = -2000000000) 1 0 + nwIf (g k = -2000000000) 1 0
theorem lostF_s {f g : Nat → Int32} (k : Nat) : lostF f g (k + 1) = lostF f g k + nwIf (f k = -2000000000) 1 0 + nwIf (g k = -2000000000) 1 0 := rfl
/-- a row mixed into the digest -/
def mixR (f : Nat → Int32) (h : Int64) : Nat → Int64
  | 0 => h
  | k + 1 => 31 * mixR f h k + (f k).toInt64
theorem mixR_s {f : Nat → Int32} {h : Int64} (k : Nat) : mixR f h (k + 1) = 31 * mixR f h k + (f k).toInt64 := rfl
theorem nw_l0 {c : Nat} (hc : c < 2 ^ 31) : (nI c).toInt64 ≤ 0 ↔ c = 0 := by
  rw [nI_l hc, show (0 : Int64) = lN 0 from rfl, lN_le hc (by omega)]
  omega
def l1F (f : Nat → Int32) : Nat → Nat
  | 0 => 0
  | k + 1 => l1F f k + (if f k = -2000000000 then 1 else 0)
theorem bestF_eq {f g : Nat → Int32} {c : Int32} {x : Int32 × Int64 × Int64} (h : dseq f g (nearF c) 33 = x) : x.1 = bestF f g c := by rw [← h]; rfl
noncomputable def mix2 (M : Nat → Nat → Int32) (h : Int64) : Nat → Int64
  | 0 => h
  | q + 1 => mixR (M q) (mix2 M h q) 64
theorem mix2_s {M : Nat → Nat → Int32} {h : Int64} (q : Nat) : mix2 M h (q + 1) = mixR (M q) (mix2 M h q) 64 := rfl
theorem nw_in63 {i : Nat} (h : i < 64) : ¬ out (nI i) 0 63 := by
  unfold out
  rintro (q | q)
  · exact nI_pos (by omega) q
  · exact nI_nlt (show i ≤ 63 by omega) (by omega) q
theorem nw_rng {x : Int32} (h : ¬ out x 1 64) : ∃ j : Nat, 1 ≤ j ∧ j ≤ 64 ∧ x = nI j := by
  have h0 : ¬ out x 0 64 := by
    unfold out at h ⊢
    rintro (q | q)
    · exact h (Or.inl (Int32.lt_trans q (by decide)))
    · exact h (Or.inr q)
  obtain ⟨j, h1, rfl⟩ := nw_le (n := 64) rfl (by decide) h0
  refine ⟨j, ?_, h1, rfl⟩
  rcases Nat.eq_zero_or_pos j with e | e
  · subst e; exact absurd (Or.inl (by decide)) h
  · exact e
theorem nw_64 {x : Int32} {m : Nat} (h : x = nI m) (hm : m ≤ 64) : 64 - x = nI (64 - m) := by
  subst h
  exact pk_sub (a := 64) hm
