/-! Plain facts on digs: put into order one by one. -/
def dahead (lo ho : Nat → Int32) (i j : Nat) : Prop := lo j * ho i < lo i * ho j
noncomputable def insF (lo ho : Nat → Int32) (d : Nat) : Nat → (Nat → Nat) → Nat → Nat
  | 0, s => va_up s 0 d
  | k + 1, s => nwIf (dahead lo ho d (s k)) (insF lo ho d k (va_up s (k + 1) (s k))) (va_up s (k + 1) d)
theorem insF_go {lo ho : Nat → Int32} {d q : Nat} {s : Nat → Nat} (hq : 0 < q) (h : dahead lo ho d (s (q - 1))) : insF lo ho d q s = insF lo ho d (q - 1) (va_up s q (s (q - 1))) := by
  obtain ⟨k, rfl⟩ : ∃ k, q = k + 1 := ⟨q - 1, by omega⟩
  exact nwIf_t h _ _
theorem insF_no {lo ho : Nat → Int32} {d q : Nat} {s : Nat → Nat} (hq : 0 < q) (h : ¬ dahead lo ho d (s (q - 1))) : insF lo ho d q s = va_up s q d := by
  obtain ⟨k, rfl⟩ : ∃ k, q = k + 1 := ⟨q - 1, by omega⟩
  exact nwIf_f h _ _
theorem insF_0 {lo ho : Nat → Int32} {d q : Nat} {s : Nat → Nat} (hq : q ≤ 0) : insF lo ho d q s = va_up s q d := by
  obtain rfl : q = 0 := by omega
  rfl
theorem va_up_lt {s : Nat → Nat} {k v b : Nat} (h : ∀ j, s j < b) (hv : v < b) : ∀ j, va_up s k v j < b := by
  intro j
  by_cases e : j = k
  · subst e; rw [va_up_self]; exact hv
  · rw [va_up_ne _ _ e]; exact h j
theorem insF_lt {lo ho : Nat → Int32} {d b : Nat} (hd : d < b) : ∀ q s, (∀ j, s j < b) → ∀ j, insF lo ho d q s j < b := by
  intro q
  induction q with
  | zero => intro s h; exact va_up_lt h hd
  | succ k ih =>
    intro s h
    by_cases c : dahead lo ho d (s k)
    · intro j
      show nwIf (dahead lo ho d (s k)) (insF lo ho d k (va_up s (k + 1) (s k))) (va_up s (k + 1) d) j < b
      rw [nwIf_t c]; exact ih _ (va_up_lt h (h k)) j
    · intro j
      show nwIf (dahead lo ho d (s k)) (insF lo ho d k (va_up s (k + 1) (s k))) (va_up s (k + 1) d) j < b
      rw [nwIf_f c]; exact va_up_lt h hd j
def digOk (nd : Nat) (x y : Int32) : Prop := ¬ out x 0 1000 ∧ ¬ out y 1 100 ∧ nd < 8
noncomputable def digF (nd : Nat) (x y : Int32) : Int32 := nwIf (out x 0 1000 ∨ out y 1 100) (-2) (nwIf (8 ≤ nd) (-4) (nI nd))
/-- time and loss behind the first i digs of an order -/
def lostD (lo ho : Nat → Int32) (s : Nat → Nat) : Nat → Int32 × Int32
  | 0 => (0, 0)
  | i + 1 => ((lostD lo ho s i).1 + ho (s i), (lostD lo ho s i).2 + lo (s i) * ((lostD lo ho s i).1 + ho (s i)))
theorem lostD_s {lo ho : Nat → Int32} {s : Nat → Nat} (i : Nat) : lostD lo ho s (i + 1) = ((lostD lo ho s i).1 + ho (s i), (lostD lo ho s i).2 + lo (s i) * ((lostD lo ho s i).1 + ho (s i))) := rfl
noncomputable def orderF (nd : Nat) (s : Nat → Nat) (i : Int32) : Int32 := nwIf (out i 0 (nI nd - 1)) (-1) (nI (s i.toNatClampNeg))
def ddF (lo ho : Nat → Int32) (h : Int64) : Nat → Int64
  | 0 => h
  | i + 1 => 31 * (31 * ddF lo ho h i + (lo i).toInt64) + (ho i).toInt64
theorem ddF_s {lo ho : Nat → Int32} {h : Int64} (i : Nat) : ddF lo ho h (i + 1) = 31 * (31 * ddF lo ho h i + (lo i).toInt64) + (ho i).toInt64 := rfl
/-! the order itself -/
noncomputable def srtF (lo ho : Nat → Int32) (s0 : Nat → Nat) : Nat → Nat → Nat
  | 0 => s0
  | i + 1 => insF lo ho i i (srtF lo ho s0 i)
theorem srtF_s {lo ho : Nat → Int32} {s0 : Nat → Nat} (i : Nat) : srtF lo ho s0 (i + 1) = insF lo ho i i (srtF lo ho s0 i) := rfl
theorem srtF_lt {lo ho : Nat → Int32} {s0 : Nat → Nat} {b : Nat} (h : ∀ j, s0 j < b) : ∀ i, i ≤ b → ∀ j, srtF lo ho s0 i j < b := by
  intro i
  induction i with
  | zero => intro _; exact h
  | succ i ih => intro hi; exact insF_lt (by omega) i _ (ih (by omega))
/-- an order told by its first places alone -/
theorem insF_congr {l1 h1 l2 h2 : Nat → Int32} {d : Nat} (hd : l1 d = l2 d ∧ h1 d = h2 d) : ∀ (q : Nat) (s t : Nat → Nat), (∀ j, j < q → s j = t j) → (∀ j, j < q → l1 (s j) = l2 (s j) ∧ h1 (s j) = h2 (s j)) → ∀ j, j ≤ q → insF l1 h1 d q s j = insF l2 h2 d q t j := by
  intro q
  induction q with
  | zero =>
    intro s t _ _ j hj
    obtain rfl : j = 0 := by omega
    show va_up s 0 d 0 = va_up t 0 d 0
    rw [va_up_self, va_up_self]
  | succ k ih =>
    intro s t hs hl j hj
    have hk := hs k (by omega)
    have hlk := hl k (by omega)
    have hc : dahead l1 h1 d (s k) ↔ dahead l2 h2 d (t k) := by
      unfold dahead
      rw [hd.1, hd.2, hlk.1, hlk.2, hk]
    show nwIf (dahead l1 h1 d (s k)) (insF l1 h1 d k (va_up s (k + 1) (s k))) (va_up s (k + 1) d) j = nwIf (dahead l2 h2 d (t k)) (insF l2 h2 d k (va_up t (k + 1) (t k))) (va_up t (k + 1) d) j
    by_cases c : dahead l1 h1 d (s k)
    · rw [nwIf_t c, nwIf_t (hc.mp c)]
      by_cases e : j = k + 1
      · subst e
        have key : ∀ (l h : Nat → Int32) (m : Nat) (s : Nat → Nat) (j : Nat), m < j → insF l h d m s j = s j := by
          intro l h m
          induction m with
          | zero => intro s j hj; exact va_up_ne _ _ (by omega)
          | succ m ih2 =>
            intro s j hj
            show nwIf (dahead l h d (s m)) (insF l h d m (va_up s (m + 1) (s m))) (va_up s (m + 1) d) j = s j
            by_cases c2 : dahead l h d (s m)
            · rw [nwIf_t c2, ih2 _ j (by omega), va_up_ne _ _ (by omega)]
            · rw [nwIf_f c2, va_up_ne _ _ (by omega)]
        rw [key _ _ k _ (k + 1) (by omega), key _ _ k _ (k + 1) (by omega), va_up_self, va_up_self, hk]
      · refine ih _ _ (fun i hi => ?_) (fun i hi => ?_) j (by omega)
        · rw [va_up_ne _ _ (by omega), va_up_ne _ _ (by omega)]; exact hs i (by omega)
        · rw [va_up_ne _ _ (by omega)]; exact hl i (by omega)
    · rw [nwIf_f c, nwIf_f (fun q => c (hc.mpr q))]
      by_cases e : j = k + 1
      · subst e; rw [va_up_self, va_up_self]
      · rw [va_up_ne _ _ e, va_up_ne _ _ e]; exact hs j (by omega)
theorem insF_in {lo ho : Nat → Int32} {d : Nat} : ∀ (q : Nat) (s : Nat → Nat), q ≤ d → (∀ j, j < q → s j < d) → ∀ j, j ≤ q → insF lo ho d q s j ≤ d := by
  intro q
  induction q with
  | zero =>
    intro s _ _ j hj
    obtain rfl : j = 0 := by omega
    show va_up s 0 d 0 ≤ d
    rw [va_up_self]; exact Nat.le_refl d
  | succ k ih =>
    intro s hq hs j hj
    show nwIf (dahead lo ho d (s k)) (insF lo ho d k (va_up s (k + 1) (s k))) (va_up s (k + 1) d) j ≤ d
    have key : ∀ (m : Nat) (s : Nat → Nat) (j : Nat), m < j → insF lo ho d m s j = s j := by
      intro m
      induction m with
      | zero => intro s j hj; exact va_up_ne _ _ (by omega)
      | succ m ih2 =>
        intro s j hj
        show nwIf (dahead lo ho d (s m)) (insF lo ho d m (va_up s (m + 1) (s m))) (va_up s (m + 1) d) j = s j
        by_cases c2 : dahead lo ho d (s m)
        · rw [nwIf_t c2, ih2 _ j (by omega), va_up_ne _ _ (by omega)]
        · rw [nwIf_f c2, va_up_ne _ _ (by omega)]
    by_cases c : dahead lo ho d (s k)
    · rw [nwIf_t c]
      by_cases e : j = k + 1
      · subst e
        rw [key k _ (k + 1) (by omega), va_up_self]
        exact Nat.le_of_lt (hs k (by omega))
      · exact ih _ (by omega) (fun i hi => by rw [va_up_ne _ _ (by omega)]; exact hs i (by omega)) j (by omega)
    · rw [nwIf_f c]
      by_cases e : j = k + 1
      · subst e; rw [va_up_self]; exact Nat.le_refl d
      · rw [va_up_ne _ _ e]; exact Nat.le_of_lt (hs j (by omega))
/-- the first n places hold digs below n -/
theorem srtF_in {lo ho : Nat → Int32} {s0 : Nat → Nat} : ∀ n j, j < n → srtF lo ho s0 n j < n := by
  intro n
  induction n with
  | zero => intro j h; exact absurd h (Nat.not_lt_zero j)
  | succ n ih =>
    intro j hj
    rw [srtF_s]
    exact Nat.lt_succ_of_le (insF_in n _ (Nat.le_refl n) ih j (by omega))
theorem srtF_congr {l1 h1 l2 h2 : Nat → Int32} {s0 t0 : Nat → Nat} : ∀ n, (∀ j, j < n → l1 j = l2 j ∧ h1 j = h2 j) → ∀ j, j < n → srtF l1 h1 s0 n j = srtF l2 h2 t0 n j := by
  intro n
  induction n with
  | zero => intro _ j h; exact absurd h (Nat.not_lt_zero j)
  | succ n ih =>
    intro h j hj
    rw [srtF_s, srtF_s]
    exact insF_congr (h n (by omega)) n _ _ (fun i hi => ih (fun k hk => h k (by omega)) i hi) (fun i hi => h _ (by have := srtF_in (lo := l1) (ho := h1) (s0 := s0) n i hi; omega)) j (by omega)
theorem lostD_congr {l1 h1 l2 h2 : Nat → Int32} {s t : Nat → Nat} : ∀ n, (∀ j, j < n → s j = t j) → (∀ j, j < n → l1 (s j) = l2 (s j) ∧ h1 (s j) = h2 (s j)) → lostD l1 h1 s n = lostD l2 h2 t n := by
  intro n
  induction n with
  | zero => intro _ _; rfl
  | succ n ih =>
    intro h1' h2'
    have e := ih (fun j hj => h1' j (by omega)) (fun j hj => h2' j (by omega))
    have e1 := h1' n (by omega)
    have e2 := h2' n (by omega)
    rw [lostD_s, lostD_s, e, e2.1, e2.2, e1]
