/-! Plain facts on the reference's plans: by width, flat. -/
theorem zerW_cut12 {w : Nat → Nat} {m g ns : Nat} (h0 : ∀ k, ns ≤ k → w k = 0) (hn : ns ≤ 12) (hg : 12 ≤ g) (hg2 : g ≤ 12) : zerW w m g = cutW w m := by
  funext k
  unfold zerW cutW
  by_cases q : k < m
  · rw [if_neg (by omega), if_pos q]
  · rw [if_neg q]
    by_cases q2 : m ≤ k ∧ k < g
    · rw [if_pos q2]
    · rw [if_neg q2]; exact h0 k (by omega)
def wsN (w : Nat → Nat) (a : Nat) : Nat → Nat
  | 0 => 0
  | j + 1 => wsN w a j + w (a + j)
theorem wsN_s {w : Nat → Nat} {a : Nat} : ∀ d, wsN w a (d + 1) = wsum w a d := by
  intro d
  induction d with
  | zero => show 0 + w (a + 0) = w a; rw [Nat.zero_add, Nat.add_zero]
  | succ d ih => show wsN w a (d + 1) + w (a + (d + 1)) = wsum w a d + w (a + (d + 1)); rw [ih]
def plE (w : Nat → Nat) (cs cl : Nat → Int32) (a b : Nat) : Prop := cs (12 * a + b) = nI (cF w (b - a) a) ∧ cl (12 * a + b) = stF w a b
def plM (w : Nat → Nat) (ns : Nat) (cs cl : Nat → Int32) : Prop := ∀ a b, a ≤ b → b < ns → cs (12 * a + b) = nI (cF w (b - a) a) ∧ cl (12 * a + b) = stF w a b
def plR (w : Nat → Nat) (ns d x : Nat) (cs cl : Nat → Int32) : Prop := ns ≤ 12 → ∀ a b, a ≤ b → b < ns → (b - a < d ∨ (b - a = d ∧ a < x)) → plE w cs cl a b
theorem plR_0 {w : Nat → Nat} {ns : Nat} {cs cl : Nat → Int32} : plR w ns 0 0 cs cl := fun _ a b _ _ h => absurd h (by omega)
theorem plR_next {w : Nat → Nat} {ns d x : Nat} {cs cl : Nat → Int32} (h : plR w ns d x cs cl) (hx : ns ≤ x + d) : plR w ns (d + 1) 0 cs cl := fun hn a b h1 h2 h3 => h hn a b h1 h2 (by omega)
theorem plR_end {w : Nat → Nat} {ns d : Nat} {cs cl : Nat → Int32} (h : plR w ns d 0 cs cl) (hd : ns ≤ d) (hn : ns ≤ 12 := by omega) : plM w ns cs cl := fun a b h1 h2 => h hn a b h1 h2 (by omega)
def plK (w : Nat → Nat) (d x q : Nat) (csw clw : Nat → Int32) (j : Nat) (cs cl : Nat → Int32) : Prop := (∀ p, ¬ p = q → cs p = csw p ∧ cl p = clw p) ∧ ((j = 0 ∧ cs q = 0 ∧ cl q = -1) ∨ (0 < j ∧ cl q = nI (x + argm (cF w) d x (j - 1)) ∧ cs q = nI (wsum w x d + part (cF w) d x (argm (cF w) d x (j - 1)))))
section PLK
variable {w : Nat → Nat} {ns d x q j : Nat} {csw clw cs cl : Nat → Int32}
theorem plK_0 : plK w d x q csw clw 0 (va_up csw q 0) (va_up clw q (-1)) := ⟨fun p h => ⟨va_up_ne _ _ h, va_up_ne _ _ h⟩, Or.inl ⟨rfl, va_up_self _ _ _, va_up_self _ _ _⟩⟩
theorem plK_is0 (h : plK w d x q csw clw j cs cl) (e : cl q = -1) (hx : x + d < 2 ^ 20) (hj : j ≤ d := by omega) : j = 0 := by
  rcases h.2 with ⟨h, _⟩ | ⟨h1, h2, _⟩
  · exact h
  · have hr := argm_rng (c := cF w) (d := d) (a := x) (j - 1)
    exact absurd (h2.symm.trans e) (nI_nm1 (by omega))
theorem plK_pos (h : plK w d x q csw clw j cs cl) (e : ¬ cl q = -1) : 0 < j := by
  rcases h.2 with ⟨_, _, h⟩ | ⟨h, _⟩
  · exact absurd h e
  · exact h
theorem plK_has (h : plK w d x q csw clw j cs cl) (hj : 0 < j) : cl q = nI (x + argm (cF w) d x (j - 1)) ∧ cs q = nI (wsum w x d + part (cF w) d x (argm (cF w) d x (j - 1))) := by
  rcases h.2 with ⟨h, _⟩ | ⟨_, h⟩
  · omega
  · exact h
theorem plK_set0 (h : plK w d x q csw clw j cs cl) (hj : j = 0) : plK w d x q csw clw (j + 1) (va_up cs q (nI (wsum w x d + part (cF w) d x (1 + j)))) (va_up cl q (nI (x + 1 + j))) := by
  subst hj
  refine ⟨fun p hp => by rw [va_up_ne _ _ hp, va_up_ne _ _ hp]; exact h.1 p hp, Or.inr ⟨by omega, ?_, ?_⟩⟩
  · rw [va_up_self]; rfl
  · rw [va_up_self]; rfl
theorem plK_set (h : plK w d x q csw clw j cs cl) (hj : 0 < j) (hv : part (cF w) d x (1 + j) < part (cF w) d x (argm (cF w) d x (j - 1))) : plK w d x q csw clw (j + 1) (va_up cs q (nI (wsum w x d + part (cF w) d x (1 + j)))) (va_up cl q (nI (x + 1 + j))) := by
  obtain ⟨i, rfl⟩ : ∃ i, j = i + 1 := ⟨j - 1, by omega⟩
  rw [Nat.add_sub_cancel, show 1 + (i + 1) = i + 2 by omega] at hv
  have e : argm (cF w) d x (i + 1) = i + 2 := by rw [argm_s, if_pos hv]
  refine ⟨fun p hp => by rw [va_up_ne _ _ hp, va_up_ne _ _ hp]; exact h.1 p hp, Or.inr ⟨by omega, ?_, ?_⟩⟩
  · rw [va_up_self, Nat.add_sub_cancel, e, show x + 1 + (i + 1) = x + (i + 2) by omega]
  · rw [va_up_self, Nat.add_sub_cancel, e, show 1 + (i + 1) = i + 2 by omega]
theorem plK_keep (h : plK w d x q csw clw j cs cl) (hj : 0 < j) (hv : ¬ part (cF w) d x (1 + j) < part (cF w) d x (argm (cF w) d x (j - 1))) : plK w d x q csw clw (j + 1) cs cl := by
  have h2 := plK_has h hj
  obtain ⟨i, rfl⟩ : ∃ i, j = i + 1 := ⟨j - 1, by omega⟩
  rw [Nat.add_sub_cancel] at h2
  rw [Nat.add_sub_cancel, show 1 + (i + 1) = i + 2 by omega] at hv
  have e : argm (cF w) d x (i + 1) = argm (cF w) d x i := by rw [argm_s, if_neg hv]
  refine ⟨h.1, Or.inr ⟨by omega, ?_, ?_⟩⟩
  · rw [Nat.add_sub_cancel, e]; exact h2.1
  · rw [Nat.add_sub_cancel, e]; exact h2.2
theorem plK_a (h : plK w d x (12 * x + (x + d)) csw clw j cs cl) (hR : plR w ns d x csw clw) (hx : x + d < ns) (hn : ns ≤ 12 := by omega) (hj : j < d := by omega) : cs (12 * x + (x + 1 + j) - 1) = nI (cF w j x) := by
  rw [show 12 * x + (x + 1 + j) - 1 = 12 * x + (x + j) by omega, (h.1 _ (by omega)).1, (hR hn x (x + j) (by omega) (by omega) (by omega)).1, show x + j - x = j by omega]
theorem plK_b (h : plK w d x (12 * x + (x + d)) csw clw j cs cl) (hR : plR w ns d x csw clw) (hx : x + d < ns) (hj : j < d) (hn : ns ≤ 12 := by omega) : cs (12 * (x + 1 + j) + (x + d)) = nI (cF w (d - (1 + j)) (x + (1 + j))) := by
  rw [(h.1 _ (by omega)).1, (hR hn (x + 1 + j) (x + d) (by omega) (by omega) (by omega)).1, show x + d - (x + 1 + j) = d - (1 + j) by omega, show x + 1 + j = x + (1 + j) by omega]
theorem plK_v {s : Nat} : nI (s + cF w j x + cF w (d - (1 + j)) (x + (1 + j))) = nI (s + part (cF w) d x (1 + j)) := by
  unfold part
  rw [show 1 + j - 1 = j by omega, Nat.add_assoc]
theorem plK_end (h : plK w d x (12 * x + (x + d)) csw clw j cs cl) (hR : plR w ns d x csw clw) (hx : x + d < ns) (hj : j = d) : plR w ns d (x + 1) cs cl := by
  intro hn a b h1 h2 h3
  by_cases e : a = x ∧ b = x + d
  · obtain ⟨rfl, rfl⟩ := e
    unfold plE
    rw [show a + d - a = d by omega]
    rcases h.2 with ⟨h4, h5, h6⟩ | ⟨h4, h5, h6⟩
    · obtain rfl : d = 0 := by omega
      rw [h5, h6]
      refine ⟨rfl, ?_⟩
      unfold stF
      rw [if_pos (by omega)]
    · rw [h5, h6]
      obtain ⟨i, rfl⟩ : ∃ i, d = i + 1 := ⟨d - 1, by omega⟩
      subst hj
      rw [Nat.add_sub_cancel, cF_s]
      refine ⟨rfl, ?_⟩
      unfold stF sF
      rw [if_neg (by omega), show a + (i + 1) - a = i + 1 by omega, Nat.add_sub_cancel]
  · have h4 := hR hn a b h1 h2 (by omega)
    unfold plE at h4 ⊢
    rw [(h.1 _ (by omega)).1, (h.1 _ (by omega)).2]
    exact h4
end PLK
theorem span_good {ns : Nat} {x y : Int32} (h1 : 0 ≤ x) (h2 : x ≤ y) (h3 : y < nI ns) (hn : ns ≤ 12 := by assumption) : ¬ spanBad ns x y := by
  unfold spanBad out
  rw [Int32.le_iff_toInt_le] at h1 h2
  rw [Int32.lt_iff_toInt_lt, nI_toInt (by omega)] at h3
  have z0 : (0 : Int32).toInt = 0 := rfl
  obtain ⟨m, rfl⟩ : ∃ m, ns = m + 1 := ⟨ns - 1, by omega⟩
  rw [nI_pred]
  simp only [Int32.lt_iff_toInt_lt]
  rw [nI_toInt (by omega)]
  omega
theorem span_bad1 {ns : Nat} {x y : Int32} (h : x < 0) : spanBad ns x y := Or.inr (Or.inl h)
theorem span_bad2 {ns : Nat} {x y : Int32} (h : y < x) : spanBad ns x y := Or.inr (Or.inr h)
theorem span_bad3 {ns : Nat} {x y : Int32} (h1 : 1 ≤ ns) (hn : ns ≤ 12) (h : nI ns ≤ y) : spanBad ns x y := by
  left
  right
  rw [Int32.le_iff_toInt_le, nI_toInt (by omega)] at h
  obtain ⟨m, rfl⟩ : ∃ m, ns = m + 1 := ⟨ns - 1, by omega⟩
  rw [nI_pred, Int32.lt_iff_toInt_lt, nI_toInt (by omega)]
  omega
theorem sq_le {r : Nat} (h : r * r ≤ 1000000) : r ≤ 1000 := by
  rcases Nat.lt_or_ge 1000 r with q | q
  · have : 1001 * 1001 ≤ r * r := Nat.mul_le_mul q q
    omega
  · exact q
