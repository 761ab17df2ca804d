/-! Plain facts on groups: what valves put together, what a set explains, the fewest. -/
def valveOk (n nv : Nat) (x y : Int32) : Prop := ¬ out x 0 (nI n - 1) ∧ ¬ out y 0 (nI n - 1) ∧ ¬ x = y ∧ nv < 12
noncomputable def valveF (n nv : Nat) (x y : Int32) : Int32 := nwIf (out x 0 (nI n - 1) ∨ out y 0 (nI n - 1) ∨ x = y) (-2) (nwIf (12 ≤ nv) (-4) (nI nv))
/-- what an open valve between the groups x and y makes of the leaders gl -/
noncomputable def gst (n : Nat) (gl : Nat → Nat) (x y : Nat) : Nat → Nat := fun z => nwIf (z < n ∧ (gl z = x ∨ gl z = y)) (min x y) (gl z)
/-- the leaders behind the first v valves -/
noncomputable def grF (n : Nat) (fr tt : Nat → Nat) (k : Nat) (g0 : Nat → Nat) : Nat → Nat → Nat
  | 0 => fun z => nwIf (z < n) z (g0 z)
  | v + 1 => nwIf (k.testBit v = true) (gst n (grF n fr tt k g0 v) (grF n fr tt k g0 v (fr v)) (grF n fr tt k g0 v (tt v))) (grF n fr tt k g0 v)
theorem grF_s {n : Nat} {fr tt : Nat → Nat} {k : Nat} {g0 : Nat → Nat} (v : Nat) : grF n fr tt k g0 (v + 1) = nwIf (k.testBit v = true) (gst n (grF n fr tt k g0 v) (grF n fr tt k g0 v (fr v)) (grF n fr tt k g0 v (tt v))) (grF n fr tt k g0 v) := rfl
theorem gst_in {n : Nat} {gl : Nat → Nat} {x y z : Nat} (h : z < n ∧ (gl z = x ∨ gl z = y)) : gst n gl x y z = min x y := nwIf_t h _ _
theorem gst_out {n : Nat} {gl : Nat → Nat} {x y z : Nat} (h : ¬ (z < n ∧ (gl z = x ∨ gl z = y))) : gst n gl x y z = gl z := nwIf_f h _ _
/-- leaders are zones no greater than those they lead, and lead themselves -/
def ldOk (n : Nat) (gl : Nat → Nat) : Prop := ∀ z, z < n → gl z ≤ z ∧ gl (gl z) = gl z
theorem gst_ok {n : Nat} {gl : Nat → Nat} {x y : Nat} (h : ldOk n gl) (hx : ∃ i, i < n ∧ x = gl i) (hy : ∃ i, i < n ∧ y = gl i) : ldOk n (gst n gl x y) := by
  obtain ⟨i, hi, rfl⟩ := hx
  obtain ⟨j, hj, rfl⟩ := hy
  have hi2 := h i hi
  have hj2 := h j hj
  intro z hz
  have hz2 := h z hz
  by_cases c : gl z = gl i ∨ gl z = gl j
  · rw [gst_in ⟨hz, c⟩]
    refine ⟨by omega, ?_⟩
    rcases Nat.le_total (gl i) (gl j) with q | q
    · rw [Nat.min_eq_left q, gst_in ⟨by omega, Or.inl hi2.2⟩, Nat.min_eq_left q]
    · rw [Nat.min_eq_right q, gst_in ⟨by omega, Or.inr hj2.2⟩, Nat.min_eq_right q]
  · rw [gst_out (fun q => c q.2)]
    refine ⟨hz2.1, ?_⟩
    rw [gst_out (fun q => c (by rw [hz2.2] at q; exact q.2))]
    exact hz2.2
theorem grF_ok {n nv : Nat} {fr tt : Nat → Nat} {k : Nat} {g0 : Nat → Nat} (hf : ∀ v, v < nv → fr v < n ∧ tt v < n) : ∀ v, v ≤ nv → ldOk n (grF n fr tt k g0 v) := by
  intro v
  induction v with
  | zero =>
    intro _ z hz
    show nwIf (z < n) z (g0 z) ≤ z ∧ nwIf (nwIf (z < n) z (g0 z) < n) (nwIf (z < n) z (g0 z)) (g0 (nwIf (z < n) z (g0 z))) = nwIf (z < n) z (g0 z)
    rw [nwIf_t hz, nwIf_t hz]
    exact ⟨Nat.le_refl z, rfl⟩
  | succ v ih =>
    intro hv
    have h := ih (by omega)
    rw [grF_s]
    by_cases c : k.testBit v = true
    · rw [nwIf_t c]
      exact gst_ok h ⟨fr v, (hf v hv).1, rfl⟩ ⟨tt v, (hf v hv).2, rfl⟩
    · rw [nwIf_f c]
      exact h
theorem grF_lt {n nv : Nat} {fr tt : Nat → Nat} {k : Nat} {g0 : Nat → Nat} (hf : ∀ v, v < nv → fr v < n ∧ tt v < n) {v z : Nat} (hv : v ≤ nv) (hz : z < n) : grF n fr tt k g0 v z < n := Nat.lt_of_le_of_lt (grF_ok hf v hv z hz).1 hz
theorem grF_junk {n nv : Nat} {fr tt : Nat → Nat} {k : Nat} {g0 g1 : Nat → Nat} (hf : ∀ v, v < nv → fr v < n ∧ tt v < n) : ∀ v, v ≤ nv → ∀ z, z < n → grF n fr tt k g0 v z = grF n fr tt k g1 v z := by
  intro v
  induction v with
  | zero =>
    intro _ z hz
    show nwIf (z < n) z (g0 z) = nwIf (z < n) z (g1 z)
    rw [nwIf_t hz, nwIf_t hz]
  | succ v ih =>
    intro hv z hz
    have h := ih (by omega)
    rw [grF_s, grF_s]
    by_cases c : k.testBit v = true
    · rw [nwIf_t c, nwIf_t c]
      unfold gst
      rw [h z hz, h _ (hf v hv).1, h _ (hf v hv).2]
    · rw [nwIf_f c, nwIf_f c]
      exact h z hz
/-- what lies behind n stays -/
theorem grF_hi {n : Nat} {fr tt : Nat → Nat} {k : Nat} {g0 : Nat → Nat} : ∀ v z, n ≤ z → grF n fr tt k g0 v z = g0 z := by
  intro v
  induction v with
  | zero => intro z hz; exact nwIf_f (by omega) _ _
  | succ v ih =>
    intro z hz
    rw [grF_s]
    by_cases c : k.testBit v = true
    · rw [nwIf_t c, gst_out (by omega)]; exact ih z hz
    · rw [nwIf_f c]; exact ih z hz
def setBad (nv : Nat) (x : Int32) : Prop := out x 0 (nI (2 ^ nv) - 1)
noncomputable def groupF (n nv : Nat) (fr tt : Nat → Nat) (z x : Int32) : Int32 := nwIf (out z 0 (nI n - 1) ∨ setBad nv x) (-2) (nI (grF n fr tt x.toNatClampNeg (fun _ => 0) nv z.toNatClampNeg))
/-- the sum of the leaks of the told zones below m that g leads, and whether one of them isn't told -/
noncomputable def gsum (gl : Nat → Nat) (lk : Nat → Int32) (g : Nat) : Nat → Int32
  | 0 => 0
  | m + 1 => nwIf (gl m = g ∧ ¬ lk m = -2000000000) (gsum gl lk g m + lk m) (gsum gl lk g m)
def gunt (gl : Nat → Nat) (lk : Nat → Int32) (g m : Nat) : Prop := ∃ z, z < m ∧ gl z = g ∧ lk z = -2000000000
def expl (n : Nat) (gl : Nat → Nat) (lk : Nat → Int32) : Prop := ∀ g, g < n → gunt gl lk g n ∨ ¬ gsum gl lk g n < 0
theorem gsum_s {gl : Nat → Nat} {lk : Nat → Int32} {g : Nat} (m : Nat) : gsum gl lk g (m + 1) = nwIf (gl m = g ∧ ¬ lk m = -2000000000) (gsum gl lk g m + lk m) (gsum gl lk g m) := rfl
theorem gunt_s {gl : Nat → Nat} {lk : Nat → Int32} {g m : Nat} : gunt gl lk g (m + 1) ↔ gunt gl lk g m ∨ (gl m = g ∧ lk m = -2000000000) := by
  constructor
  · rintro ⟨z, h1, h2, h3⟩
    by_cases e : z = m
    · subst e; exact Or.inr ⟨h2, h3⟩
    · exact Or.inl ⟨z, by omega, h2, h3⟩
  · rintro (⟨z, h1, h2, h3⟩ | ⟨h2, h3⟩)
    · exact ⟨z, by omega, h2, h3⟩
    · exact ⟨m, by omega, h2, h3⟩
theorem gunt_0 {gl : Nat → Nat} {lk : Nat → Int32} {g : Nat} : ¬ gunt gl lk g 0 := fun ⟨z, h, _⟩ => absurd h (Nat.not_lt_zero z)
/-- who leads nobody has no sum -/
theorem gsum_none {gl : Nat → Nat} {lk : Nat → Int32} {g : Nat} : ∀ m, (∀ z, z < m → ¬ gl z = g) → gsum gl lk g m = 0 := by
  intro m
  induction m with
  | zero => intro _; rfl
  | succ m ih =>
    intro h
    rw [gsum_s, nwIf_f (fun q => h m (by omega) q.1)]
    exact ih (fun z hz => h z (by omega))
theorem gsum_congr {g1 g2 : Nat → Nat} {l1 l2 : Nat → Int32} {g : Nat} : ∀ m, (∀ z, z < m → g1 z = g2 z) → (∀ z, z < m → l1 z = l2 z) → gsum g1 l1 g m = gsum g2 l2 g m := by
  intro m
  induction m with
  | zero => intro _ _; rfl
  | succ m ih =>
    intro h1 h2
    rw [gsum_s, gsum_s, h1 m (by omega), h2 m (by omega), ih (fun z hz => h1 z (by omega)) (fun z hz => h2 z (by omega))]
theorem expl_congr {n : Nat} {g1 g2 : Nat → Nat} {l1 l2 : Nat → Int32} (h1 : ∀ z, z < n → g1 z = g2 z) (h2 : ∀ z, z < n → l1 z = l2 z) : expl n g1 l1 → expl n g2 l2 := by
  intro h g hg
  rcases h g hg with ⟨z, a, b, c⟩ | q
  · exact Or.inl ⟨z, a, (h1 z a).symm.trans b, (h2 z a).symm.trans c⟩
  · rw [gsum_congr n h1 h2] at q
    exact Or.inr q
/-- the greatest leak of a zone, as the class has it -/
noncomputable def lk1 (cu bg : Nat → Int32) (M : Nat → Nat → Int32) (er us : Int32) : Nat → Int32 := fun z => leakF er us (cu z) (bg z) (M z) (M (8 + z)) 1
noncomputable def explF (n nv : Nat) (fr tt : Nat → Nat) (lk : Nat → Int32) (x : Int32) : Int32 := nwIf (setBad nv x) (-2) (nwIf (expl n (grF n fr tt x.toNatClampNeg (fun _ => 0) nv) lk) 1 0)
/-! steps of the class's loops over leaders -/
theorem nw_min_nI {x y : Nat} (hx : x < 2 ^ 31) (hy : y < 2 ^ 31) : (if nI y < nI x then nI y else nI x) = nI (min x y) := by
  by_cases h : y < x
  · rw [if_pos ((nI_ltI hy hx).mpr h), Nat.min_eq_right (by omega)]
  · rw [if_neg (fun q => h ((nI_ltI hy hx).mp q)), Nat.min_eq_left (by omega)]
theorem nw_max_nI {x y : Nat} (hx : x < 2 ^ 31) (hy : y < 2 ^ 31) : (if nI x < nI y then nI y else nI x) = nI (max x y) := by
  by_cases h : x < y
  · rw [if_pos ((nI_ltI hx hy).mpr h), Nat.max_eq_right (by omega)]
  · rw [if_neg (fun q => h ((nI_ltI hx hy).mp q)), Nat.max_eq_left (by omega)]
theorem nw_shl1 : ∀ n, n < 31 → (1 : Int32) <<< (nI n &&& 31) = nI (2 ^ n) := by decide +kernel
theorem nw_pow_lt {n : Nat} (h : n ≤ 12) : 2 ^ n ≤ 4096 := by
  have : 2 ^ n ≤ 2 ^ 12 := Nat.pow_le_pow_right (by omega) h
  omega
theorem nw_smod : ∀ v, v < 31 → ((nI v &&& 31).toBitVec.smod 32).toNat = v := by decide +kernel
theorem nw_bit {k v : Nat} (hk : k < 2 ^ 31) (hv : v < 31) : ((nI k >>> (nI v &&& 31)) &&& 1) = nI (k / 2 ^ v % 2) := by
  rw [pk_shrN hk _ v (nw_smod v hv)]
  have h : k / 2 ^ v < 2 ^ 32 := Nat.lt_of_le_of_lt (Nat.div_le_self _ _) (by omega)
  exact pk_andN h 1 rfl
theorem nw_bit1 {k v : Nat} (hk : k < 2 ^ 31) (hv : v < 31) : ((nI k >>> (nI v &&& 31)) &&& 1) = 1 ↔ k.testBit v = true := by
  rw [nw_bit hk hv]
  have h2 : k / 2 ^ v % 2 < 2 := Nat.mod_lt _ (by omega)
  rw [show (1 : Int32) = nI 1 from rfl, nI_eq (by omega) (by omega)]
  rw [Nat.testBit_eq_decide_div_mod_eq]
  exact (decide_eq_true_iff).symm
/-- leaders are set to the zones themselves, one by one -/
def id0 (ld : Nat → Nat) (z : Nat) : Nat → Nat := fun j => if j < z then j else ld j
theorem id0_0 {ld : Nat → Nat} : id0 ld 0 = ld := by funext j; simp [id0]
theorem id0_s {ld : Nat → Nat} {z : Nat} : va_up (id0 ld z) z z = id0 ld (z + 1) := by
  funext j
  by_cases h : j = z
  · subst h; rw [va_up_self]; simp [id0]
  · rw [va_up_ne _ _ h]
    unfold id0
    by_cases q : j < z
    · rw [if_pos q, if_pos (by omega)]
    · rw [if_neg q, if_neg (by omega)]
theorem id0_grF {n : Nat} {fr tt : Nat → Nat} {k : Nat} {ld : Nat → Nat} : id0 ld n = grF n fr tt k ld 0 := by
  funext j
  show (if j < n then j else ld j) = nwIf (j < n) j (ld j)
  by_cases q : j < n
  · rw [if_pos q, nwIf_t q]
  · rw [if_neg q, nwIf_f q]
/-- one by one the leaders of a join -/
noncomputable def gst0 (gl : Nat → Nat) (x y m : Nat) : Nat → Nat := gst m gl x y
theorem gst_0 {gl : Nat → Nat} {x y : Nat} : gst 0 gl x y = gl := by funext z; exact gst_out (by omega)
theorem gst_hit {gl : Nat → Nat} {x y m : Nat} (h : gl m = x ∨ gl m = y) : va_up (gst m gl x y) m (min x y) = gst (m + 1) gl x y := by
  funext j
  by_cases e : j = m
  · subst e; rw [va_up_self, gst_in ⟨by omega, h⟩]
  · rw [va_up_ne _ _ e]
    by_cases q : j < m ∧ (gl j = x ∨ gl j = y)
    · rw [gst_in q, gst_in ⟨by omega, q.2⟩]
    · rw [gst_out q, gst_out (fun w => q ⟨by omega, w.2⟩)]
theorem gst_same {gl : Nat → Nat} {x y m : Nat} (h : gl m = min x y ∨ ¬ (gl m = x ∨ gl m = y)) : gst m gl x y = gst (m + 1) gl x y := by
  funext j
  by_cases e : j = m
  · subst e
    rw [gst_out (by omega)]
    by_cases q : gl j = x ∨ gl j = y
    · rw [gst_in ⟨by omega, q⟩]
      rcases h with h | h
      · exact h
      · exact absurd q h
    · rw [gst_out (fun w => q w.2)]
  · by_cases q : j < m ∧ (gl j = x ∨ gl j = y)
    · rw [gst_in q, gst_in ⟨by omega, q.2⟩]
    · rw [gst_out q, gst_out (fun w => q ⟨by omega, w.2⟩)]
theorem gst_lt {gl : Nat → Nat} {x y m b : Nat} (h : ∀ j, gl j < b) (hx : x < b) (hy : y < b) : ∀ j, gst m gl x y j < b := by
  intro j
  by_cases q : j < m ∧ (gl j = x ∨ gl j = y)
  · rw [gst_in q]; omega
  · rw [gst_out q]; exact h j
theorem grF_b {n : Nat} {fr tt : Nat → Nat} {k b : Nat} {g0 : Nat → Nat} (hn : n ≤ b) (h : ∀ j, g0 j < b) : ∀ v j, grF n fr tt k g0 v j < b := by
  intro v
  induction v with
  | zero =>
    intro j
    show nwIf (j < n) j (g0 j) < b
    by_cases q : j < n
    · rw [nwIf_t q]; omega
    · rw [nwIf_f q]; exact h j
  | succ v ih =>
    intro j
    rw [grF_s]
    by_cases c : k.testBit v = true
    · rw [nwIf_t c]; exact gst_lt ih (ih _) (ih _) j
    · rw [nwIf_f c]; exact ih j
/-! steps of the reckoning of groups' leaks -/
theorem gs_lost {n z : Nat} {gl : Nat → Nat} {zl gk ut : Nat → Int32} (h : ∀ g, g < n → gk g = gsum gl zl g z ∧ ut g = nwIf (gunt gl zl g z) 1 0) (hl : zl z = -2000000000) : ∀ g, g < n → gk g = gsum gl zl g (z + 1) ∧ va_up ut (gl z) 1 g = nwIf (gunt gl zl g (z + 1)) 1 0 := by
  intro g hg
  obtain ⟨h1, h2⟩ := h g hg
  refine ⟨by rw [gsum_s, nwIf_f (fun q => q.2 hl)]; exact h1, ?_⟩
  by_cases e : g = gl z
  · subst e
    rw [va_up_self, nwIf_t (gunt_s.mpr (Or.inr ⟨rfl, hl⟩))]
  · rw [va_up_ne _ _ e, h2]
    by_cases q : gunt gl zl g z
    · rw [nwIf_t q, nwIf_t (gunt_s.mpr (Or.inl q))]
    · rw [nwIf_f q, nwIf_f (fun w => (gunt_s.mp w).elim q (fun r => e r.1.symm))]
theorem gs_told {n z : Nat} {gl : Nat → Nat} {zl gk ut : Nat → Int32} (h : ∀ g, g < n → gk g = gsum gl zl g z ∧ ut g = nwIf (gunt gl zl g z) 1 0) (hl : ¬ zl z = -2000000000) : ∀ g, g < n → va_up gk (gl z) (gk (gl z) + zl z) g = gsum gl zl g (z + 1) ∧ ut g = nwIf (gunt gl zl g (z + 1)) 1 0 := by
  intro g hg
  obtain ⟨h1, h2⟩ := h g hg
  constructor
  · by_cases e : g = gl z
    · subst e
      rw [va_up_self, gsum_s, nwIf_t ⟨rfl, hl⟩, h1]
    · rw [va_up_ne _ _ e, gsum_s, nwIf_f (fun q => e q.1.symm)]
      exact h1
  · rw [h2]
    by_cases q : gunt gl zl g z
    · rw [nwIf_t q, nwIf_t (gunt_s.mpr (Or.inl q))]
    · rw [nwIf_f q, nwIf_f (fun w => (gunt_s.mp w).elim q (fun r => hl r.2))]
theorem nw_t10 {p : Prop} (h : ¬ nwIf p (1 : Int32) 0 = 0) : p := by
  by_cases q : p
  · exact q
  · rw [nwIf_f q] at h; exact absurd rfl h
theorem nw_f10 {p : Prop} (h : nwIf p (1 : Int32) 0 = 0) : ¬ p := fun q => by
  rw [nwIf_t q] at h
  exact absurd h (by decide)
/-- valves in the digest -/
def vdF (fr tt : Nat → Nat) (h : Int64) : Nat → Int64
  | 0 => h
  | i + 1 => 31 * (31 * vdF fr tt h i + (nI (fr i)).toInt64) + (nI (tt i)).toInt64
theorem vdF_s {fr tt : Nat → Nat} {h : Int64} (i : Nat) : vdF fr tt h (i + 1) = 31 * (31 * vdF fr tt h i + (nI (fr i)).toInt64) + (nI (tt i)).toInt64 := rfl
theorem nw_fill {f g : Nat → Int32} {z : Nat} {x : Int32} (h : ∀ j, j < z → f j = g j) (hx : x = g z) : ∀ j, j < z + 1 → va_up f z x j = g j := by
  intro j hj
  by_cases e : j = z
  · subst e; rw [va_up_self]; exact hx
  · rw [va_up_ne _ _ e]; exact h j (by omega)
theorem nw_fill2 {f g : Nat → Int32} {z : Nat} (h : ∀ j, j < z → f j = 0 ∧ g j = 0) : ∀ j, j < z + 1 → va_up f z 0 j = 0 ∧ va_up g z 0 j = 0 := by
  intro j hj
  by_cases e : j = z
  · subst e; rw [va_up_self, va_up_self]; exact ⟨rfl, rfl⟩
  · rw [va_up_ne _ _ e, va_up_ne _ _ e]; exact h j (by omega)
theorem nw_ext {p : Nat → Prop} {z : Nat} (h : ∀ g, g < z → p g) (hz : p z) : ∀ g, g < z + 1 → p g := by
  intro g hg
  by_cases e : g = z
  · subst e; exact hz
  · exact h g (by omega)
