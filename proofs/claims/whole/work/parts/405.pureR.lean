/-! Plain facts: the two orders of delays find the same delay; the two ways to hold a place on the pipe are one. -/
def dU (t : Nat) : Int32 := if t % 2 = 0 then nI (t / 2) else -(nI (t / 2)) - 1
theorem dT_U {t : Nat} : dT t = dU t := by
  unfold dT dU
  by_cases h : t % 2 = 0
  · rw [nwIf_t h, if_pos h]
  · rw [nwIf_f h, if_neg h]
def dE (a b : Int32 × Int64 × Int64) : Prop := a = b ∨ (a.1 = -101 ∧ b.1 = -101)
theorem dst_E {f g : Nat → Int32} {N : Int32 → Prop} {a b : Int32 × Int64 × Int64} {d : Int32} (h : dE a b) : dE (dst f g N a d) (dst f g N b d) := by
  rcases h with h | ⟨h1, h2⟩
  · rw [h]; exact Or.inl rfl
  · unfold dst
    by_cases c : ¬ N d ∧ 0 < cntF f g d 64
    · rw [nwIf_t ⟨c.1, c.2, Or.inl h1⟩, nwIf_t ⟨c.1, c.2, Or.inl h2⟩]; exact Or.inl rfl
    · rw [nwIf_f (fun q => c ⟨q.1, q.2.1⟩), nwIf_f (fun q => c ⟨q.1, q.2.1⟩)]; exact Or.inr ⟨h1, h2⟩
theorem dst_0 {f g : Nat → Int32} {N : Int32 → Prop} {q : Int64} : dE (dst f g N (-101, 0, 0) 0) (dst f g N (dst f g N (-101, 0, q) 0) 0) := by
  by_cases c : ¬ N 0 ∧ 0 < cntF f g 0 64
  · have e : ∀ q : Int64, dst f g N (-101, 0, q) 0 = (0, (sumF f g 0 64).toInt64, (nI (cntF f g 0 64)).toInt64) := fun q => nwIf_t ⟨c.1, c.2, Or.inl rfl⟩ _ _
    rw [e, e]
    left
    unfold dst
    rw [nwIf_f]
    rintro ⟨-, -, h | h⟩
    · exact absurd (show (0 : Int32) = -101 from h) (by decide)
    · exact absurd h (by rw [Int64.lt_iff_toInt_lt]; exact Int.lt_irrefl _)
  · have e : ∀ st : Int32 × Int64 × Int64, dst f g N st 0 = st := fun st => nwIf_f (fun q => c ⟨q.1, q.2.1⟩) _ _
    rw [e, e, e]
    exact Or.inr ⟨rfl, rfl⟩
theorem dU_o {s : Nat} : dU (2 * s + 1) = -(nI s) - 1 := by
  unfold dU
  rw [if_neg (by omega), show (2 * s + 1) / 2 = s by omega]
theorem dU_e {s : Nat} : dU (2 * s + 2) = nI (s + 1) := by
  unfold dU
  rw [if_pos (by omega), show (2 * s + 2) / 2 = s + 1 by omega]
theorem dM_all : ∀ s, s < 17 → dM (s + 1) 0 = -(nI s) - 1 ∧ dM (s + 1) 1 = nI (s + 1) := by decide +kernel
theorem dq_E {f g : Nat → Int32} {N : Int32 → Prop} : ∀ s : Nat, s ≤ 16 → dE (dseq f g N (2 * s + 1)) (mseq f g N (s + 1))
  | 0, _ => by
    show dE (dst f g N (-101, 0, 0) (dT 0)) (dst f g N (dst f g N (-101, 0, 1) (dM 0 0)) (dM 0 1))
    rw [dT_U, show dU 0 = 0 by decide, show dM 0 0 = 0 by decide, show dM 0 1 = 0 by decide]
    exact dst_0
  | s + 1, h => by
    have e := dM_all s (by omega)
    show dE (dst f g N (dst f g N (dseq f g N (2 * s + 1)) (dT (2 * s + 1))) (dT (2 * s + 2))) (dst f g N (dst f g N (mseq f g N (s + 1)) (dM (s + 1) 0)) (dM (s + 1) 1))
    rw [dT_U, dT_U, dU_o, dU_e, e.1, e.2]
    exact dst_E (dst_E (dq_E s (by omega)))
theorem dq_1 {f g : Nat → Int32} {N : Int32 → Prop} : (dseq f g N 33).1 = (mseq f g N 17).1 := by
  rcases dq_E (f := f) (g := g) (N := N) 16 (by omega) with h | ⟨h1, h2⟩
  · exact congrArg (fun q => q.1) h
  · exact h1.trans h2.symm
theorem dq_near {f g : Nat → Int32} {N N' : Int32 → Prop} : ∀ t : Nat, (∀ i, i < t → (N (dT i) ↔ N' (dT i))) → dseq f g N t = dseq f g N' t
  | 0, _ => rfl
  | t + 1, h => by
    rw [dseq_s, dseq_s, dq_near t (fun i hi => h i (by omega))]
    have e := h t (by omega)
    unfold dst
    rw [show N (dT t) = N' (dT t) from propext e]
theorem dq_rng {f g : Nat → Int32} {N : Int32 → Prop} : ∀ t : Nat, (dseq f g N t).1 = -101 ∨ ∃ i, i < t ∧ (dseq f g N t).1 = dT i
  | 0 => Or.inl rfl
  | t + 1 => by
    rw [dseq_s]
    by_cases c : ¬ N (dT t) ∧ 0 < cntF f g (dT t) 64 ∧ ((dseq f g N t).1 = -101 ∨ (dseq f g N t).2.1 * (nI (cntF f g (dT t) 64)).toInt64 < (sumF f g (dT t) 64).toInt64 * (dseq f g N t).2.2)
    · unfold dst
      rw [nwIf_t c]
      exact Or.inr ⟨t, by omega, rfl⟩
    · unfold dst
      rw [nwIf_f c]
      rcases dq_rng t with h | ⟨i, h1, h2⟩
      · exact Or.inl h
      · exact Or.inr ⟨i, by omega, h2⟩
theorem near_far : ∀ t, t < 33 → ¬ ¬ 1 < (if 0 ≤ dU t - (-101) then dU t - (-101) else 0 - (dU t - (-101))) ∧ ¬ ¬ (dU t - 1000 < -1 ∨ 1 < dU t - 1000) := by decide +kernel
theorem near_in : ∀ i, i < 33 → ∀ t, t < 33 → ((¬ 1 < (if 0 ≤ dU t - dU i then dU t - dU i else 0 - (dU t - dU i))) ↔ ¬ (dU t - dU i < -1 ∨ 1 < dU t - dU i)) := by decide +kernel
theorem best_0 {f g : Nat → Int32} : bestG f g 1000 = bestF f g (-101) := by
  unfold bestG bestF
  rw [← dq_1]
  refine congrArg (fun q => q.1) (dq_near 33 (fun i hi => ?_))
  have h := near_far i hi
  rw [dT_U]
  exact ⟨fun q => absurd q h.2, fun q => absurd q h.1⟩
theorem best_c {f g : Nat → Int32} {i : Nat} (hi : i < 33) : bestG f g (dT i) = bestF f g (dT i) := by
  unfold bestG bestF
  rw [← dq_1]
  refine congrArg (fun q => q.1) (dq_near 33 (fun t ht => ?_))
  have h := near_in i hi t ht
  rw [dT_U, dT_U]
  exact h.symm
theorem delayG_eq {M : Nat → Nat → Int32} {b : Int32} : delayG M b = delayF M b := by
  unfold delayG delayF
  rw [best_0]
  by_cases c : b = 0
  · rw [nwIf_t c, nwIf_t c]
  · rw [nwIf_f c, nwIf_f c]
    by_cases e : bestF (M 0) (M 1) (-101) = -101
    · rw [nwIf_t e, e, e]
    · rw [nwIf_f e]
      rcases dq_rng (f := M 0) (g := M 1) (N := nearF (-101)) 33 with h | ⟨i, h1, h2⟩
      · exact absurd h e
      · have h3 : bestF (M 0) (M 1) (-101) = dT i := h2
        rw [h3]
        exact best_c h1
theorem plc_lo {L X Y : Int32} (hL : 0 ≤ L) : (if (if 0 < (if Y < L then Y else L) then (if Y < L then Y else L) else 0) < (if 0 < (if X < L then X else L) then (if X < L then X else L) else 0) then (if 0 < (if Y < L then Y else L) then (if Y < L then Y else L) else 0) else (if 0 < (if X < L then X else L) then (if X < L then X else L) else 0)) = (if (if X < Y then X else Y) < 0 then 0 else if L < (if X < Y then X else Y) then L else (if X < Y then X else Y)) := by
  rw [Int32.le_iff_toInt_le] at hL
  have e0 : (0 : Int32).toInt = 0 := by decide
  apply Int32.toInt_inj.mp
  simp only [Int32.lt_iff_toInt_lt, apply_ite Int32.toInt, e0] at hL ⊢
  omega
theorem plc_hi {L X Y : Int32} (hL : 0 ≤ L) : (if (if 0 < (if X < L then X else L) then (if X < L then X else L) else 0) < (if 0 < (if Y < L then Y else L) then (if Y < L then Y else L) else 0) then (if 0 < (if Y < L then Y else L) then (if Y < L then Y else L) else 0) else (if 0 < (if X < L then X else L) then (if X < L then X else L) else 0)) = (if (if X < Y then Y else X) < 0 then 0 else if L < (if X < Y then Y else X) then L else (if X < Y then Y else X)) := by
  rw [Int32.le_iff_toInt_le] at hL
  have e0 : (0 : Int32).toInt = 0 := by decide
  apply Int32.toInt_inj.mp
  simp only [Int32.lt_iff_toInt_lt, apply_ite Int32.toInt, e0] at hL ⊢
  omega
theorem nwIf_if {α : Type} {p : Prop} [Decidable p] (a b : α) : nwIf p a b = if p then a else b := by
  by_cases h : p
  · rw [nwIf_t h, if_pos h]
  · rw [nwIf_f h, if_neg h]
theorem len_2 {len : Int32} (h : ¬ out len 1 100000) : 0 ≤ 2 * len := by
  unfold out at h
  rw [Int32.lt_iff_toInt_lt, Int32.lt_iff_toInt_lt] at h
  have e1 : (1 : Int32).toInt = 1 := by decide
  have e2 : (100000 : Int32).toInt = 100000 := by decide
  have e3 : (2 : Int32).toInt = 2 := by decide
  rw [Int32.le_iff_toInt_le, Int32.toInt_mul, e3, show (0 : Int32).toInt = 0 by decide]
  have : Int.bmod (2 * len.toInt) (2 ^ 32) = 2 * len.toInt := by apply Int.bmod_eq_of_le <;> omega
  rw [this]
  omega
theorem placeG_eq {M : Nat → Nat → Int32} {len s t what : Int32} : placeG M len s t what = placeF M len s t what := by
  have eD : delayF M 0 = bestF (M 0) (M 1) (-101) := nwIf_t rfl _ _
  unfold placeG placeF
  rw [best_0, eD]
  by_cases c : out len 1 100000 ∨ out s 1 2000 ∨ out t s 2000 ∨ out what 0 1
  · rw [nwIf_t c, nwIf_t c]
  · rw [nwIf_f c, nwIf_f c]
    by_cases d : bestF (M 0) (M 1) (-101) = -101
    · rw [nwIf_t d, nwIf_t d]
    · rw [nwIf_f d, nwIf_f d]
      have hL := len_2 (fun q => c (Or.inl q))
      unfold plcM pipeF
      by_cases e : what = 0
      · rw [nwIf_t e, plc_lo hL]
        simp only [nwIf_if, e, true_and, not_true_eq_false, false_and, or_false]
      · rw [nwIf_f e, plc_hi hL]
        have key : ∀ (x y : Int32), nwIf ((what = 0 ∧ x < y) ∨ ((¬ what = 0) ∧ ¬ x < y)) x y = if x < y then y else x := by
          intro x y
          by_cases q : x < y
          · rw [nwIf_f (by rintro (h | h); exact e h.1; exact h.2 q), if_pos q]
          · rw [nwIf_t (Or.inr ⟨e, q⟩), if_neg q]
        simp only [key, nwIf_if]
