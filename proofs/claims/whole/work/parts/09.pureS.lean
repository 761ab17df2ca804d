/-! Plain facts on steps: the plan's cost by width, and where it closes. -/
def wsum (w : Nat → Nat) (a : Nat) : Nat → Nat
  | 0 => w a
  | d + 1 => wsum w a d + w (a + (d + 1))
theorem wsum_s {w : Nat → Nat} {a d : Nat} : wsum w a (d + 1) = wsum w a d + w (a + (d + 1)) := rfl
def part (c : Nat → Nat → Nat) (d a k : Nat) : Nat := c (k - 1) a + c (d - k) (a + k)
def argm (c : Nat → Nat → Nat) (d a : Nat) : Nat → Nat
  | 0 => 1
  | j + 1 => if part c d a (j + 2) < part c d a (argm c d a j) then j + 2 else argm c d a j
theorem argm_s {c : Nat → Nat → Nat} {d a j : Nat} : argm c d a (j + 1) = if part c d a (j + 2) < part c d a (argm c d a j) then j + 2 else argm c d a j := rfl
theorem argm_rng {c : Nat → Nat → Nat} {d a : Nat} : ∀ j, 1 ≤ argm c d a j ∧ argm c d a j ≤ j + 1 := by
  intro j
  induction j with
  | zero => exact ⟨Nat.le_refl 1, Nat.le_refl 1⟩
  | succ j ih =>
    rw [argm_s]
    by_cases h : part c d a (j + 2) < part c d a (argm c d a j)
    · rw [if_pos h]; omega
    · rw [if_neg h]; omega
theorem argm_congr {c1 c2 : Nat → Nat → Nat} {d a : Nat} : ∀ j, (∀ k, 1 ≤ k → k ≤ j + 1 → part c1 d a k = part c2 d a k) → argm c1 d a j = argm c2 d a j := by
  intro j
  induction j with
  | zero => intro _; rfl
  | succ j ih =>
    intro h
    have e := ih (fun k h1 h2 => h k h1 (by omega))
    have hr := argm_rng (c := c2) (d := d) (a := a) j
    rw [argm_s, argm_s, e, h (j + 2) (by omega) (by omega), h (argm c2 d a j) hr.1 (by omega)]
def ctab (w : Nat → Nat) : Nat → Nat → Nat → Nat
  | 0 => fun _ _ => 0
  | n + 1 => fun d a => if d = n + 1 then wsum w a d + part (ctab w n) d a (argm (ctab w n) d a (d - 1)) else ctab w n d a
def cF (w : Nat → Nat) (d a : Nat) : Nat := ctab w d d a
theorem ctab_eq {w : Nat → Nat} {d a : Nat} : ∀ n, d ≤ n → ctab w n d a = cF w d a := by
  intro n
  induction n with
  | zero => intro h; obtain rfl : d = 0 := by omega
            rfl
  | succ n ih =>
    intro h
    by_cases e : d = n + 1
    · subst e; rfl
    · show (if d = n + 1 then _ else ctab w n d a) = _
      rw [if_neg e]
      exact ih (by omega)
theorem cF_0 {w : Nat → Nat} {a : Nat} : cF w 0 a = 0 := rfl
theorem cF_s {w : Nat → Nat} {d a : Nat} : cF w (d + 1) a = wsum w a (d + 1) + part (cF w) (d + 1) a (argm (cF w) (d + 1) a d) := by
  have hp : ∀ k, 1 ≤ k → k ≤ d + 1 → part (ctab w d) (d + 1) a k = part (cF w) (d + 1) a k := by
    intro k h1 h2
    unfold part
    rw [ctab_eq d (by omega), ctab_eq d (by omega)]
  have ha := argm_congr (c1 := ctab w d) (c2 := cF w) (d := d + 1) (a := a) d hp
  have hr := argm_rng (c := cF w) (d := d + 1) (a := a) d
  show (if d + 1 = d + 1 then wsum w a (d + 1) + part (ctab w d) (d + 1) a (argm (ctab w d) (d + 1) a (d + 1 - 1)) else ctab w d (d + 1) a) = _
  rw [if_pos rfl, Nat.add_sub_cancel, ha, hp _ hr.1 hr.2]
def sF (w : Nat → Nat) (d a : Nat) : Nat := a + argm (cF w) d a (d - 1)
theorem sF_rng {w : Nat → Nat} {d a : Nat} (h : 0 < d) : a < sF w d a ∧ sF w d a ≤ a + d := by
  have := argm_rng (c := cF w) (d := d) (a := a) (d - 1)
  unfold sF
  omega
theorem wsum_le {w : Nat → Nat} {a : Nat} (hw : ∀ k, w k ≤ 1000) : ∀ d, wsum w a d ≤ 1000 * (d + 1) := by
  intro d
  induction d with
  | zero => exact hw a
  | succ d ih => rw [wsum_s]; have := hw (a + (d + 1)); omega
theorem cF_le {w : Nat → Nat} (hw : ∀ k, w k ≤ 1000) : ∀ n d a, d ≤ n → d ≤ 11 → cF w d a ≤ 12000 * d := by
  intro n
  induction n with
  | zero => intro d a h _; obtain rfl : d = 0 := by omega
            exact Nat.le_refl 0
  | succ n ih =>
    intro d a h h11
    cases d with
    | zero => exact Nat.le_refl 0
    | succ d =>
      rw [cF_s]
      have h1 := wsum_le (a := a) hw (d + 1)
      have hr := argm_rng (c := cF w) (d := d + 1) (a := a) d
      unfold part
      have h2 := ih (argm (cF w) (d + 1) a d - 1) a (by omega) (by omega)
      have h3 := ih (d + 1 - argm (cF w) (d + 1) a d) (a + argm (cF w) (d + 1) a d) (by omega) (by omega)
      omega
theorem part_le {w : Nat → Nat} (hw : ∀ k, w k ≤ 1000) {d a k : Nat} (h1 : 1 ≤ k) (h2 : k ≤ d) (hd : d ≤ 11) : part (cF w) d a k ≤ 132000 := by
  unfold part
  have h3 := cF_le hw 11 (k - 1) a (by omega) (by omega)
  have h4 := cF_le hw 11 (d - k) (a + k) (by omega) (by omega)
  omega
def stF (w : Nat → Nat) (a b : Nat) : Int32 := if a = b then -1 else nI (sF w (b - a) a)
/-- the tables are right -/
def plOk (w : Nat → Nat) (ns : Nat) (M : Nat → Nat → Int32) : Prop := ∀ a b, a ≤ b → b < ns → M a b = nI (cF w (b - a) a) ∧ M (12 + a) b = stF w a b
/-- what the stretches of a .. b shorter than it have -/
def plIn (w : Nat → Nat) (M : Nat → Nat → Int32) (a b : Nat) : Prop := ∀ k, a < k → k ≤ b → M a (k - 1) = nI (cF w (k - 1 - a) a) ∧ M k b = nI (cF w (b - k) k)
theorem plIn_part {w : Nat → Nat} {M : Nat → Nat → Int32} {a b k : Nat} (h : plIn w M a b) (h1 : a < k) (h2 : k ≤ b) : M a (k - 1) + M k b = nI (part (cF w) (b - a) a (k - a)) := by
  rw [(h k h1 h2).1, (h k h1 h2).2, nI_add]
  unfold part
  rw [show k - 1 - a = k - a - 1 by omega, show b - a - (k - a) = b - k by omega, show a + (k - a) = k by omega]
def spanBad (ns : Nat) (a b : Int32) : Prop := out b 0 (nI ns - 1) ∨ out a 0 b
noncomputable def costF (ns : Nat) (w : Nat → Nat) (a b : Int32) : Int32 := nwIf (spanBad ns a b) (-2) (nI (cF w (b.toNatClampNeg - a.toNatClampNeg) a.toNatClampNeg))
noncomputable def closesF (ns : Nat) (w : Nat → Nat) (a b : Int32) : Int32 := nwIf (spanBad ns a b) (-2) (stF w a.toNatClampNeg b.toNatClampNeg)
def clW (w : Nat → Nat) (i : Nat) : Nat → Nat → Nat → Nat
  | 0, _, _ => 0
  | f + 1, a, b => if a < b then 1 + (if i < sF w (b - a) a then clW w i f a (sF w (b - a) a - 1) else clW w i f (sF w (b - a) a) b) else 0
theorem clW_l {w : Nat → Nat} {i f a b : Nat} (hf : 0 < f) (h : a < b) (hi : i < sF w (b - a) a) : clW w i f a b = 1 + clW w i (f - 1) a (sF w (b - a) a - 1) := by
  obtain ⟨g, rfl⟩ : ∃ g, f = g + 1 := ⟨f - 1, by omega⟩
  show (if a < b then 1 + (if i < sF w (b - a) a then clW w i g a (sF w (b - a) a - 1) else clW w i g (sF w (b - a) a) b) else 0) = _
  rw [if_pos h, if_pos hi, Nat.add_sub_cancel]
theorem clW_r {w : Nat → Nat} {i f a b : Nat} (hf : 0 < f) (h : a < b) (hi : ¬ i < sF w (b - a) a) : clW w i f a b = 1 + clW w i (f - 1) (sF w (b - a) a) b := by
  obtain ⟨g, rfl⟩ : ∃ g, f = g + 1 := ⟨f - 1, by omega⟩
  show (if a < b then 1 + (if i < sF w (b - a) a then clW w i g a (sF w (b - a) a - 1) else clW w i g (sF w (b - a) a) b) else 0) = _
  rw [if_pos h, if_neg hi, Nat.add_sub_cancel]
theorem clW_e {w : Nat → Nat} {i f a b : Nat} (h : ¬ a < b) : clW w i f a b = 0 := by
  cases f with
  | zero => rfl
  | succ f => exact if_neg h
noncomputable def closingsF (ns : Nat) (w : Nat → Nat) (i : Int32) : Int32 := nwIf (out i 0 (nI ns - 1)) (-2) (nI (clW w i.toNatClampNeg 12 0 (ns - 1)))
def secOk (n i v : Int32) : Prop := ¬ out n 1 12 ∧ ¬ out i 0 (n - 1) ∧ ¬ out v 0 1000
def cutW (w : Nat → Nat) (m : Nat) : Nat → Nat := fun k => if k < m then w k else 0
/-- weights set to 0 from m on, up to g -/
def zerW (w : Nat → Nat) (m g : Nat) : Nat → Nat := fun k => if m ≤ k ∧ k < g then 0 else w k
theorem zerW_0 {w : Nat → Nat} {m : Nat} : zerW w m m = w := by funext k; unfold zerW; rw [if_neg (by omega)]
theorem zerW_s {w : Nat → Nat} {m g : Nat} (h : m ≤ g) : va_up (zerW w m g) g 0 = zerW w m (g + 1) := by
  funext k
  by_cases e : k = g
  · subst e; rw [va_up_self]; unfold zerW; rw [if_pos (by omega)]
  · rw [va_up_ne _ _ e]
    unfold zerW
    by_cases q : m ≤ k ∧ k < g
    · rw [if_pos q, if_pos (by omega)]
    · rw [if_neg q, if_neg (by omega)]
theorem zerW_cut {w : Nat → Nat} {m g ns : Nat} (h0 : ∀ k, ns ≤ k → w k = 0) (h : ns ≤ g ∨ m = g) (hg : m = g → ns ≤ m) (hns : g ≤ ns ∨ m = g) : zerW w m g = cutW w m := by
  funext k
  unfold zerW cutW
  by_cases q : k < m
  · rw [if_neg (by omega), if_pos q]
  · rw [if_neg q]
    by_cases q2 : m ≤ k ∧ k < g
    · rw [if_pos q2]
    · rw [if_neg q2]; exact h0 k (by omega)
def wdF (w : Nat → Nat) (h : Int64) : Nat → Int64
  | 0 => h
  | i + 1 => 31 * wdF w h i + (nI (w i)).toInt64
theorem wdF_s {w : Nat → Nat} {h : Int64} (i : Nat) : wdF w h (i + 1) = 31 * wdF w h i + (nI (w i)).toInt64 := rfl
theorem span_ok {ns : Nat} {x y : Int32} (hn : ns ≤ 12) (h : ¬ spanBad ns x y) : ∃ a b : Nat, a ≤ b ∧ b < ns ∧ x = nI a ∧ y = nI b := by
  unfold spanBad at h
  obtain ⟨b, hb, rfl⟩ := nw_lt (n := ns) (by omega) (fun q => h (Or.inl q))
  obtain ⟨a, ha, rfl⟩ := nw_le (n := b) rfl (by omega) (fun q => h (Or.inr q))
  exact ⟨a, b, ha, hb, rfl, rfl⟩
/-- a start that is laid leaves the costs -/
theorem st_part {w : Nat → Nat} {M : Nat → Nat → Int32} {x y k : Nat} {v : Int32} (h : plIn w M x y) (h1 : x < k) (h2 : k ≤ y) (hy : y < 12 := by omega) : nwU2 M (12 + x) y v x (k - 1) + nwU2 M (12 + x) y v k y = nI (part (cF w) (y - x) x (k - x)) := by
  rw [nwU2_n (by omega), nwU2_n (by omega)]
  exact plIn_part h h1 h2
theorem st_end {G : nwG} {a : Nat → Nat} {ns : Nat} {w : Nat → Nat} {M : Nat → Nat → Int32} {x y be wt j : Nat} (hxy : x < y) (eb : be = x + argm (cF w) (y - x) x j) (hj : j = y - x - 1) (hwt : wt = wsum w x (y - x)) : wS G a ns w (nwU2 (nwU2 M (12 + x) y (nI be)) x y (nI (wt + part (cF w) (y - x) x (be - x)))) = wS G a ns w (nwU2 (nwU2 M (12 + x) y (nI (sF w (y - x) x))) x y (nI (cF w (y - x) x))) := by
  have e1 : sF w (y - x) x = be := by unfold sF; rw [← hj, eb]
  have e2 : cF w (y - x) x = wt + part (cF w) (y - x) x (be - x) := by
    obtain ⟨d, hd⟩ : ∃ d, y - x = d + 1 := ⟨y - x - 1, by omega⟩
    rw [hwt, eb, hj, hd, cF_s, Nat.add_sub_cancel, Nat.add_sub_cancel_left]
  rw [e1, e2]
/-! the table row by row, from the last -/
def plTo (w : Nat → Nat) (ns : Nat) (M : Nat → Nat → Int32) (k : Nat) : Prop := ∀ a b, k ≤ a → a ≤ b → b < ns → M a b = nI (cF w (b - a) a) ∧ M (12 + a) b = stF w a b
def plRow (w : Nat → Nat) (ns : Nat) (M : Nat → Nat → Int32) (a0 b0 : Nat) : Prop := plTo w ns M (a0 + 1) ∧ ∀ b, a0 ≤ b → b < b0 → M a0 b = nI (cF w (b - a0) a0) ∧ M (12 + a0) b = stF w a0 b
theorem plTo_n {w : Nat → Nat} {ns : Nat} {M : Nat → Nat → Int32} : plTo w ns M ns := fun a b h1 h2 h3 => absurd h3 (by omega)
theorem plTo_0 {w : Nat → Nat} {ns : Nat} {M : Nat → Nat → Int32} (h : plTo w ns M 0) : plOk w ns M := fun a b h2 h3 => h a b (Nat.zero_le a) h2 h3
theorem plTo_s {w : Nat → Nat} {ns k b0 : Nat} {M : Nat → Nat → Int32} (hk : 0 < k) (hb : b0 = ns) (h : plRow w ns M (k - 1) b0) : plTo w ns M (k - 1) := by
  intro a b h1 h2 h3
  by_cases e : a = k - 1
  · subst e; exact h.2 b h2 (by omega)
  · exact h.1 a b (by omega) h2 h3
theorem plRow_0 {w : Nat → Nat} {ns k : Nat} {M : Nat → Nat → Int32} (hk : 0 < k) (hkn : k ≤ ns) (hn : ns ≤ 12) (h : plTo w ns M k) : plRow w ns (nwU2 (nwU2 M (k - 1) (k - 1) 0) (12 + (k - 1)) (k - 1) (-1)) (k - 1) (k - 1 + 1 + 0) := by
  refine ⟨fun a b h1 h2 h3 => ?_, fun b h1 h2 => ?_⟩
  · rw [nwU2_n (by omega), nwU2_n (by omega), nwU2_n (by omega), nwU2_n (by omega)]
    exact h a b (by omega) h2 h3
  · obtain rfl : b = k - 1 := by omega
    rw [nwU2_n (by omega), nwU2_s, nwU2_s, Nat.sub_self]
    refine ⟨rfl, ?_⟩
    unfold stF
    rw [if_pos rfl]
theorem plRow_s {w : Nat → Nat} {ns a0 b0 : Nat} {M : Nat → Nat → Int32} (hn : b0 < 12) (hb : a0 < b0) (h : plRow w ns M a0 b0) : plRow w ns (nwU2 (nwU2 M (12 + a0) b0 (nI (sF w (b0 - a0) a0))) a0 b0 (nI (cF w (b0 - a0) a0))) a0 (b0 + 1) := by
  refine ⟨fun a b h1 h2 h3 => ?_, fun b h1 h2 => ?_⟩
  · rw [nwU2_n (by omega), nwU2_n (by omega), nwU2_n (by omega), nwU2_n (by omega)]
    exact h.1 a b h1 h2 h3
  · by_cases e : b = b0
    · subst e
      rw [nwU2_s, nwU2_n (by omega), nwU2_s]
      refine ⟨rfl, ?_⟩
      unfold stF
      rw [if_neg (by omega)]
    · rw [nwU2_n (by omega), nwU2_n (by omega), nwU2_n (by omega), nwU2_n (by omega)]
      exact h.2 b h1 (by omega)
theorem plRow_in {w : Nat → Nat} {ns a0 b0 : Nat} {M : Nat → Nat → Int32} (hb : b0 < ns) (hab : a0 < b0) (h : plRow w ns M a0 b0) : plIn w M a0 b0 := fun k h1 h2 => ⟨(h.2 (k - 1) (by omega) (by omega)).1, (h.1 k b0 (by omega) h2 hb).1⟩
theorem neg_1 {k : Nat} (h : 0 < k) : nI k + (-1) = nI (k - 1) := nw_dec h
theorem neg_k {k : Nat} {x : Int32} (e : x = nI k + (-1)) (h : x < 0) (hk : k < 2 ^ 31 := by omega) : k = 0 := by
  rcases Nat.eq_zero_or_pos k with q | q
  · exact q
  · rw [e, neg_1 q] at h
    exact absurd h (nI_pos (by omega))
theorem pos_k {k : Nat} {x : Int32} (e : x = nI k + (-1)) (h : ¬ x < 0) : 0 < k := by
  rcases Nat.eq_zero_or_pos k with q | q
  · subst q; subst e; exact absurd (by decide) h
  · exact q
theorem cut_le {w : Nat → Nat} {m i v : Nat} (h : ∀ k, w k ≤ 1000) (hv : v ≤ 1000) : ∀ k, va_up (cutW w m) i v k ≤ 1000 := by
  intro k
  by_cases e : k = i
  · subst e; rw [va_up_self]; exact hv
  · rw [va_up_ne _ _ e]
    unfold cutW
    by_cases q : k < m
    · rw [if_pos q]; exact h k
    · rw [if_neg q]; omega
theorem cl_step {w : Nat → Nat} {i c a b : Nat} (hi : i < sF w (b - a) a) (h : a < b) (hc : c < 12) : c + 1 + clW w i (12 - (c + 1)) a (sF w (b - a) a - 1) = c + clW w i (12 - c) a b := by
  rw [clW_l (by omega) h hi, show 12 - (c + 1) = 12 - c - 1 by omega]
  omega
theorem cl_step2 {w : Nat → Nat} {i c a b : Nat} (hi : ¬ i < sF w (b - a) a) (h : a < b) (hc : c < 12) : c + 1 + clW w i (12 - (c + 1)) (sF w (b - a) a) b = c + clW w i (12 - c) a b := by
  rw [clW_r (by omega) h hi, show 12 - (c + 1) = 12 - c - 1 by omega]
  omega
