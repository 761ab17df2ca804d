/-! Plain facts on the fewest valves: bits counted, sums over groups, more valves explain no less. -/
def pw : Nat → Nat → Nat
  | 0, _ => 0
  | f + 1, k => k % 2 + pw f (k / 2)
def popN (k : Nat) : Nat := pw 13 k
theorem pw_le : ∀ v f k, v ≤ f → k < 2 ^ v → pw f k ≤ v := by
  intro v
  induction v with
  | zero =>
    intro f k _ hk
    obtain rfl : k = 0 := by simpa using hk
    have : ∀ f, pw f 0 = 0 := by
      intro f
      induction f with
      | zero => rfl
      | succ f ih => show 0 % 2 + pw f (0 / 2) = 0; rw [Nat.zero_div, ih]
    rw [this]
    exact Nat.le_refl 0
  | succ v ih =>
    intro f k hf hk
    obtain ⟨g, rfl⟩ : ∃ g, f = g + 1 := ⟨f - 1, by omega⟩
    have h := ih g (k / 2) (by omega) (by rw [Nat.pow_succ] at hk; omega)
    show k % 2 + pw g (k / 2) ≤ v + 1
    omega
theorem pw_lt : ∀ v f k, v ≤ f → k + 1 < 2 ^ v → pw f k < v := by
  intro v
  induction v with
  | zero => intro f k _ hk; simp at hk
  | succ v ih =>
    intro f k hf hk
    obtain ⟨g, rfl⟩ : ∃ g, f = g + 1 := ⟨f - 1, by omega⟩
    rw [Nat.pow_succ] at hk
    show k % 2 + pw g (k / 2) < v + 1
    by_cases e : k / 2 + 1 < 2 ^ v
    · have h := ih g (k / 2) (by omega) e
      omega
    · have h := pw_le v g (k / 2) (by omega) (by omega)
      have : k % 2 = 0 := by omega
      omega
theorem pw_all : ∀ v f, v ≤ f → pw f (2 ^ v - 1) = v := by
  intro v
  induction v with
  | zero =>
    intro f _
    have : ∀ f, pw f 0 = 0 := by
      intro f
      induction f with
      | zero => rfl
      | succ f ih => show 0 % 2 + pw f (0 / 2) = 0; rw [Nat.zero_div, ih]
    exact this f
  | succ v ih =>
    intro f hf
    obtain ⟨g, rfl⟩ : ∃ g, f = g + 1 := ⟨f - 1, by omega⟩
    have h := ih g (by omega)
    have hp : 0 < 2 ^ v := Nat.pow_pos (by omega)
    show (2 ^ (v + 1) - 1) % 2 + pw g ((2 ^ (v + 1) - 1) / 2) = v + 1
    rw [Nat.pow_succ, show (2 ^ v * 2 - 1) / 2 = 2 ^ v - 1 by omega, h]
    omega
/-- the bits as the library's method counts them -/
def bc1 (x : Int32) : Int32 := x - ((x.toUInt32 >>> ((1 : Int32).toUInt32 &&& Int32.toUInt32 31)).toInt32 &&& 1431655765)
def bc2 (x : Int32) : Int32 := (x &&& 858993459) + ((x.toUInt32 >>> ((2 : Int32).toUInt32 &&& Int32.toUInt32 31)).toInt32 &&& 858993459)
def bc3 (x : Int32) : Int32 := (x + (x.toUInt32 >>> ((4 : Int32).toUInt32 &&& Int32.toUInt32 31)).toInt32) &&& 252645135
def bc4 (x : Int32) : Int32 := x + (x.toUInt32 >>> ((8 : Int32).toUInt32 &&& Int32.toUInt32 31)).toInt32
def bc5 (x : Int32) : Int32 := x + (x.toUInt32 >>> ((16 : Int32).toUInt32 &&& Int32.toUInt32 31)).toInt32
theorem bc_64 : ∀ a, a < 64 → ∀ b, b < 64 → (bc5 (bc4 (bc3 (bc2 (bc1 (nI (64 * a + b)))))) &&& 63) = nI (popN (64 * a + b)) := by decide +kernel
theorem bc_all {k : Nat} (h : k < 4096) : (bc5 (bc4 (bc3 (bc2 (bc1 (nI k))))) &&& 63) = nI (popN k) := by
  have := bc_64 (k / 64) (by omega) (k % 64) (by omega)
  rwa [show 64 * (k / 64) + k % 64 = k by omega] at this
/-! sums -/
def SS (F : Nat → Int) : Nat → Int
  | 0 => 0
  | m + 1 => SS F m + F m
theorem SS_s {F : Nat → Int} {m : Nat} : SS F (m + 1) = SS F m + F m := rfl
theorem SS_congr {F K : Nat → Int} : ∀ m, (∀ z, z < m → F z = K z) → SS F m = SS K m := by
  intro m
  induction m with
  | zero => intro _; rfl
  | succ m ih => intro h; rw [SS_s, SS_s, ih (fun z hz => h z (by omega)), h m (by omega)]
theorem SS_add {F K : Nat → Int} : ∀ m, SS (fun z => F z + K z) m = SS F m + SS K m := by
  intro m
  induction m with
  | zero => rfl
  | succ m ih => rw [SS_s, SS_s, SS_s, ih]; omega
theorem SS_0 : ∀ m, SS (fun _ => 0) m = 0 := by
  intro m
  induction m with
  | zero => rfl
  | succ m ih => rw [SS_s, ih]; rfl
theorem SS_swap {F : Nat → Nat → Int} : ∀ m n, SS (fun z => SS (fun h => F z h) n) m = SS (fun h => SS (fun z => F z h) m) n := by
  intro m n
  induction m with
  | zero => exact (SS_0 n).symm
  | succ m ih => rw [SS_s, ih, ← SS_add]; rfl
theorem SS_nn {F : Nat → Int} : ∀ m, (∀ z, z < m → 0 ≤ F z) → 0 ≤ SS F m := by
  intro m
  induction m with
  | zero => intro _; exact Int.le_refl 0
  | succ m ih => intro h; rw [SS_s]; have := ih (fun z hz => h z (by omega)); have := h m (by omega); omega
theorem SS_one {a : Nat} {c : Int} : ∀ n, SS (fun h => if a = h then c else 0) n = if a < n then c else 0 := by
  intro n
  induction n with
  | zero => rfl
  | succ n ih =>
    rw [SS_s, ih]
    by_cases e : a = n
    · subst e; rw [if_neg (by omega), if_pos rfl, if_pos (by omega)]; omega
    · by_cases q : a < n
      · rw [if_pos q, if_neg e, if_pos (by omega)]; omega
      · rw [if_neg q, if_neg e, if_neg (by omega)]; rfl
/-- told leaks are small -/
def bnd (n : Nat) (lk : Nat → Int32) : Prop := ∀ z, z < n → lk z = -2000000000 ∨ (-1000000 ≤ (lk z).toInt ∧ (lk z).toInt ≤ 1000000)
def fZ (lk : Nat → Int32) (z : Nat) : Int := if lk z = -2000000000 then 0 else (lk z).toInt
theorem gsum_int {n : Nat} {gl : Nat → Nat} {lk : Nat → Int32} {g : Nat} (hb : bnd n lk) : ∀ m, m ≤ n → m ≤ 8 → (gsum gl lk g m).toInt = SS (fun z => if gl z = g then fZ lk z else 0) m ∧ -1000000 * (m : Int) ≤ (gsum gl lk g m).toInt ∧ (gsum gl lk g m).toInt ≤ 1000000 * (m : Int) := by
  intro m
  induction m with
  | zero => intro _ _; exact ⟨rfl, Int.le_refl _, Int.le_refl _⟩
  | succ m ih =>
    intro h1 h2
    obtain ⟨e, l, u⟩ := ih (by omega) (by omega)
    rw [gsum_s, SS_s]
    by_cases c : gl m = g ∧ ¬ lk m = -2000000000
    · rw [nwIf_t c, if_pos c.1]
      have hz : fZ lk m = (lk m).toInt := if_neg c.2
      rcases hb m (by omega) with q | ⟨q1, q2⟩
      · exact absurd q c.2
      · have ha : (gsum gl lk g m + lk m).toInt = (gsum gl lk g m).toInt + (lk m).toInt := by
          rw [Int32.toInt_add]
          apply Int.bmod_eq_of_le <;> omega
        rw [ha, hz, ← e]
        refine ⟨rfl, ?_, ?_⟩ <;> omega
    · rw [nwIf_f c]
      have hz : (if gl m = g then fZ lk m else 0) = 0 := by
        by_cases c1 : gl m = g
        · rw [if_pos c1]
          have c2 : lk m = -2000000000 := Classical.not_not.mp (fun q => c ⟨c1, q⟩)
          exact if_pos c2
        · exact if_neg c1
      rw [hz, ← e]
      refine ⟨by omega, ?_, ?_⟩ <;> omega
/-- g2 is coarser than g1 -/
def crs (n : Nat) (g1 g2 : Nat → Nat) : Prop := ∀ i j, i < n → j < n → g1 i = g1 j → g2 i = g2 j
theorem gst_fun {n : Nat} {g : Nat → Nat} {x y i j : Nat} (hi : i < n) (hj : j < n) (h : g i = g j) : gst n g x y i = gst n g x y j := by
  unfold gst
  by_cases c : g i = x ∨ g i = y
  · rw [nwIf_t ⟨hi, c⟩, nwIf_t ⟨hj, by rw [← h]; exact c⟩]
  · rw [nwIf_f (fun q => c q.2), nwIf_f (fun q => c (by rw [h]; exact q.2)), h]
theorem crs_grF {n nv k : Nat} {fr tt g0 h0 : Nat → Nat} (hf : ∀ v, v < nv → fr v < n ∧ tt v < n) : ∀ v, v ≤ nv → crs n (grF n fr tt k g0 v) (grF n fr tt (2 ^ nv - 1) h0 v) := by
  intro v
  induction v with
  | zero =>
    intro _ i j hi hj h
    have e : ∀ (g0 : Nat → Nat) z, z < n → (fun z => nwIf (z < n) z (g0 z)) z = z := fun g0 z hz => nwIf_t hz _ _
    have h' : i = j := by
      have h1 := e g0 i hi
      have h2 := e g0 j hj
      exact h1.symm.trans (h.trans h2)
    rw [h']
  | succ v ih =>
    intro hv i j hi hj h
    have c0 := ih (by omega)
    have hb : (2 ^ nv - 1).testBit v = true := by rw [Nat.testBit_two_pow_sub_one]; exact decide_eq_true (by omega)
    rw [grF_s (k := 2 ^ nv - 1), nwIf_t hb]
    rw [grF_s (k := k)] at h
    obtain ⟨hfv, htv⟩ := hf v hv
    by_cases c : k.testBit v = true
    · rw [nwIf_t c] at h
      by_cases ci : grF n fr tt k g0 v i = grF n fr tt k g0 v (fr v) ∨ grF n fr tt k g0 v i = grF n fr tt k g0 v (tt v)
      · by_cases cj : grF n fr tt k g0 v j = grF n fr tt k g0 v (fr v) ∨ grF n fr tt k g0 v j = grF n fr tt k g0 v (tt v)
        · have i2 : grF n fr tt (2 ^ nv - 1) h0 v i = grF n fr tt (2 ^ nv - 1) h0 v (fr v) ∨ grF n fr tt (2 ^ nv - 1) h0 v i = grF n fr tt (2 ^ nv - 1) h0 v (tt v) := ci.elim (fun q => Or.inl (c0 i _ hi hfv q)) (fun q => Or.inr (c0 i _ hi htv q))
          have j2 : grF n fr tt (2 ^ nv - 1) h0 v j = grF n fr tt (2 ^ nv - 1) h0 v (fr v) ∨ grF n fr tt (2 ^ nv - 1) h0 v j = grF n fr tt (2 ^ nv - 1) h0 v (tt v) := cj.elim (fun q => Or.inl (c0 j _ hj hfv q)) (fun q => Or.inr (c0 j _ hj htv q))
          rw [gst_in ⟨hi, i2⟩, gst_in ⟨hj, j2⟩]
        · rw [gst_in ⟨hi, ci⟩, gst_out (fun q => cj q.2)] at h
          exact absurd (by omega) cj
      · by_cases cj : grF n fr tt k g0 v j = grF n fr tt k g0 v (fr v) ∨ grF n fr tt k g0 v j = grF n fr tt k g0 v (tt v)
        · rw [gst_in ⟨hj, cj⟩, gst_out (fun q => ci q.2)] at h
          exact absurd (by omega) ci
        · rw [gst_out (fun q => ci q.2), gst_out (fun q => cj q.2)] at h
          exact gst_fun hi hj (c0 i j hi hj h)
    · rw [nwIf_f c] at h
      exact gst_fun hi hj (c0 i j hi hj h)
/-- what a set explains, a coarser one explains -/
theorem expl_crs {n : Nat} {g1 g2 : Nat → Nat} {lk : Nat → Int32} (hn : n ≤ 8) (hb : bnd n lk) (ho : ldOk n g1) (hc : crs n g1 g2) (h : expl n g1 lk) : expl n g2 lk := by
  intro g hg
  by_cases u : gunt g2 lk g n
  · exact Or.inl u
  right
  rw [Int32.lt_iff_toInt_lt, (gsum_int hb n (Nat.le_refl n) hn).1]
  have key : SS (fun z => if g2 z = g then fZ lk z else 0) n = SS (fun a => if g2 a = g then SS (fun z => if g1 z = a then fZ lk z else 0) n else 0) n := by
    have e1 : SS (fun z => if g2 z = g then fZ lk z else 0) n = SS (fun z => SS (fun a => if g1 z = a then (if g2 a = g then fZ lk z else 0) else 0) n) n := by
      apply SS_congr
      intro z hz
      have hz1 := ho z hz
      have e2 : SS (fun a => if g1 z = a then (if g2 a = g then fZ lk z else 0) else 0) n = SS (fun a => if g1 z = a then (if g2 z = g then fZ lk z else 0) else 0) n := by
        apply SS_congr
        intro a ha
        by_cases q : g1 z = a
        · rw [if_pos q, if_pos q]
          have : g2 z = g2 a := hc z a hz ha (by rw [← q]; exact hz1.2.symm)
          rw [this]
        · rw [if_neg q, if_neg q]
      show (if g2 z = g then fZ lk z else 0) = SS (fun a => if g1 z = a then (if g2 a = g then fZ lk z else 0) else 0) n
      rw [e2, SS_one, if_pos (show g1 z < n by omega)]
    rw [e1, SS_swap]
    apply SS_congr
    intro a ha
    show SS (fun z => if g1 z = a then (if g2 a = g then fZ lk z else 0) else 0) n = if g2 a = g then SS (fun z => if g1 z = a then fZ lk z else 0) n else 0
    by_cases q : g2 a = g
    · rw [if_pos q]
      apply SS_congr
      intro z _
      rw [if_pos q]
    · rw [if_neg q]
      rw [SS_congr (K := fun _ => 0) n (fun z _ => by rw [if_neg q]; exact ite_self 0)]
      exact SS_0 n
  rw [key]
  have nn : 0 ≤ SS (fun a => if g2 a = g then SS (fun z => if g1 z = a then fZ lk z else 0) n else 0) n := by
    apply SS_nn
    intro a ha
    show 0 ≤ (if g2 a = g then SS (fun z => if g1 z = a then fZ lk z else 0) n else 0)
    by_cases q : g2 a = g
    · rw [if_pos q, ← (gsum_int hb n (Nat.le_refl n) hn).1]
      rcases h a ha with ⟨z, hz, q1, q2⟩ | w
      · by_cases qa : g1 a = a
        · exact absurd ⟨z, hz, (hc z a hz ha (by rw [q1, qa])).trans q, q2⟩ u
        · exact absurd (by rw [← q1]; exact (ho z hz).2) qa
      · rw [Int32.lt_iff_toInt_lt] at w
        exact Int.not_lt.mp w
    · rw [if_neg q]; exact Int.le_refl 0
  have z0 : (0 : Int32).toInt = 0 := rfl
  omega
/-! the fewest -/
def better (o : Option Nat) (k : Nat) : Prop := ∀ b, o = some b → popN k < popN b
noncomputable def fwS (ex : Nat → Prop) : Nat → Option Nat
  | 0 => none
  | k + 1 => nwIf (better (fwS ex k) k ∧ ex k) (some k) (fwS ex k)
theorem fwS_s {ex : Nat → Prop} {k : Nat} : fwS ex (k + 1) = nwIf (better (fwS ex k) k ∧ ex k) (some k) (fwS ex k) := rfl
def fewR (o : Option Nat) : Int32 := match o with
  | none => -1
  | some b => nI b
theorem fwS_none {ex : Nat → Prop} : ∀ k, (∀ j, j < k → ¬ ex j) → fwS ex k = none := by
  intro k
  induction k with
  | zero => intro _; rfl
  | succ k ih =>
    intro h
    rw [fwS_s, nwIf_f (fun q => h k (by omega) q.2)]
    exact ih (fun j hj => h j (by omega))
theorem fwS_lt {ex : Nat → Prop} : ∀ k b, fwS ex k = some b → b < k := by
  intro k
  induction k with
  | zero => intro b h; cases h
  | succ k ih =>
    intro b h
    rw [fwS_s] at h
    by_cases c : better (fwS ex k) k ∧ ex k
    · rw [nwIf_t c] at h; cases h; omega
    · rw [nwIf_f c] at h; have := ih b h; omega
def fwI (ex : Nat → Prop) (nv k b : Nat) : Prop := (fwS ex k = none ∧ b = 2 ^ nv - 1) ∨ fwS ex k = some b
theorem fwI_lt {ex : Nat → Prop} {nv k b : Nat} (h : fwI ex nv k b) (hk : k ≤ 2 ^ nv) : b < 2 ^ nv := by
  have : 0 < 2 ^ nv := Nat.pow_pos (by omega)
  rcases h with ⟨_, rfl⟩ | h
  · omega
  · have := fwS_lt k b h; omega
theorem fwI_take {ex : Nat → Prop} {nv k b : Nat} (h : fwI ex nv k b) (hp : popN k < popN b) (he : ex k) : fwI ex nv (k + 1) k := by
  have hbt : better (fwS ex k) k := by
    intro c hc
    rcases h with ⟨h, _⟩ | h
    · rw [h] at hc; cases hc
    · rw [h] at hc; cases hc; exact hp
  right
  rw [fwS_s, nwIf_t ⟨hbt, he⟩]
theorem fwI_leave {ex : Nat → Prop} {nv k b : Nat} (hv : nv ≤ 12) (h : fwI ex nv k b) (hk : k + 1 < 2 ^ nv) (hn : ¬ popN k < popN b ∨ ¬ ex k) : fwI ex nv (k + 1) b := by
  have hs : ¬ (better (fwS ex k) k ∧ ex k) := by
    rintro ⟨q1, q2⟩
    rcases hn with hn | hn
    · rcases h with ⟨h, rfl⟩ | h
      · have e1 : popN (2 ^ nv - 1) = nv := pw_all nv 13 (by omega)
        have e2 : popN k < nv := pw_lt nv 13 k (by omega) hk
        omega
      · exact hn (q1 b h)
    · exact hn q2
  unfold fwI
  rw [fwS_s, nwIf_f hs]
  exact h
theorem fwI_end {ex : Nat → Prop} {nv b : Nat} (hv : nv ≤ 12) (h : fwI ex nv (2 ^ nv - 1) b) (he : ex (2 ^ nv - 1)) : nI b = fewR (fwS ex (2 ^ nv)) := by
  have hp : 0 < 2 ^ nv := Nat.pow_pos (by omega)
  have e : fwS ex (2 ^ nv) = some b := by
    obtain ⟨m, hm⟩ : ∃ m, 2 ^ nv = m + 1 := ⟨2 ^ nv - 1, by omega⟩
    unfold fwI at h
    rw [hm, Nat.add_sub_cancel] at h he
    rw [hm, fwS_s]
    rcases h with ⟨h, rfl⟩ | h
    · rw [nwIf_t ⟨fun c hc => (by rw [h] at hc; cases hc), he⟩]
    · rw [nwIf_f, h]
      rintro ⟨q1, -⟩
      have := q1 b h
      have hb := fwS_lt m b h
      have e1 : popN m = nv := by have := pw_all nv 13 (by omega); rwa [hm, Nat.add_sub_cancel] at this
      have e2 : popN b ≤ nv := pw_le nv 13 b (by omega) (by omega)
      omega
  rw [e]
  rfl
noncomputable def exF (n nv : Nat) (fr tt : Nat → Nat) (lk : Nat → Int32) (k : Nat) : Prop := expl n (grF n fr tt k (fun _ => 0) nv) lk
noncomputable def fewF (n nv : Nat) (fr tt : Nat → Nat) (lk : Nat → Int32) : Int32 := fewR (fwS (exF n nv fr tt lk) (2 ^ nv))
theorem exF_all {n nv k : Nat} {fr tt : Nat → Nat} {lk : Nat → Int32} (hn : n ≤ 8) (hf : ∀ v, v < nv → fr v < n ∧ tt v < n) (hb : bnd n lk) (h : exF n nv fr tt lk k) : exF n nv fr tt lk (2 ^ nv - 1) := expl_crs hn hb (grF_ok hf nv (Nat.le_refl nv)) (crs_grF hf nv (Nat.le_refl nv)) h
theorem fewF_none {n nv : Nat} {fr tt : Nat → Nat} {lk : Nat → Int32} (hn : n ≤ 8) (hf : ∀ v, v < nv → fr v < n ∧ tt v < n) (hb : bnd n lk) (h : ¬ exF n nv fr tt lk (2 ^ nv - 1)) : fewF n nv fr tt lk = -1 := by
  unfold fewF
  rw [fwS_none _ (fun j _ q => h (exF_all hn hf hb q))]
  rfl
theorem exF_of {n nv k : Nat} {fr tt ld : Nat → Nat} {lk zl : Nat → Int32} (hf : ∀ v, v < nv → fr v < n ∧ tt v < n) (hz : ∀ j, j < n → zl j = lk j) (h : expl n (grF n fr tt k ld nv) zl) : exF n nv fr tt lk k := expl_congr (fun z hz9 => grF_junk hf nv (Nat.le_refl nv) z hz9) hz h
theorem exF_to {n nv k : Nat} {fr tt ld : Nat → Nat} {lk zl : Nat → Int32} (hf : ∀ v, v < nv → fr v < n ∧ tt v < n) (hz : ∀ j, j < n → zl j = lk j) (h : exF n nv fr tt lk k) : expl n (grF n fr tt k ld nv) zl := expl_congr (fun z hz9 => grF_junk hf nv (Nat.le_refl nv) z hz9) (fun z hz9 => (hz z hz9).symm) h
