/-! The law's invariant, kept by every call; the two answers where they are told differently. -/
section LWP
variable {nv : Nat} {fr tt ld : Nat → Nat} {n : Nat} {cu bg : Nat → Int32} {M : Nat → Nat → Int32} {er us : Int32} {ns : Nat} {w : Nat → Nat} {MS : Nat → Nat → Int32} {nd : Nat} {lo ho : Nat → Int32} {rk gr so : Nat → Nat}
theorem lwI_same (h : lwI nv fr tt ld n cu bg M er us ns w MS nd lo ho rk gr so) {ld' gr' so' : Nat → Nat} (h1 : ∀ j, ld' j < 8) (h2 : ∀ j, gr' j < 8) (h3 : ∀ j, so' j < 8) : lwI nv fr tt ld' n cu bg M er us ns w MS nd lo ho rk gr' so' := by
  obtain ⟨a1, a2, a3, a4, a5, a6, a7, a8, a9, b1, b2, b3, b4, b5, b6⟩ := h
  exact ⟨a1, a2, a3, h1, h2, a6, a7, a8, a9, b1, b2, b3, b4, h3, b6⟩
theorem lwI_zone (h : lwI nv fr tt ld n cu bg M er us ns w MS nd lo ho rk gr so) {x y : Int32} : lwI nv fr tt ld (nwIf (zoneOk n x y) (n + 1) n) (nwIf (zoneOk n x y) (va_up cu n x) cu) (nwIf (zoneOk n x y) (va_up bg n y) bg) M er us ns w MS nd lo ho rk gr so := by
  by_cases c : zoneOk n x y
  · rw [nwIf_t c, nwIf_t c, nwIf_t c]
    obtain ⟨a1, a2, a3, a4, a5, a6, a7, a8, a9, b1, b2, b3, b4, b5, b6⟩ := h
    refine ⟨by have := c.2.2; omega, a2, fun i hi => ⟨Nat.lt_succ_of_lt (a3 i hi).1, Nat.lt_succ_of_lt (a3 i hi).2⟩, a4, a5, ⟨a6.1, a6.2.1, fun z hz => ?_⟩, a7, a8, a9, b1, b2, b3, b4, b5, b6⟩
    by_cases e : z = n
    · subst e; rw [va_up_self]; exact c.2.1
    · rw [va_up_ne _ _ e]; exact a6.2.2 z (by omega)
  · rw [nwIf_f c, nwIf_f c, nwIf_f c]; exact h
theorem lwI_rules (h : lwI nv fr tt ld n cu bg M er us ns w MS nd lo ho rk gr so) {x y : Int32} : lwI nv fr tt ld n cu bg M (nwIf (rulesOk x y) x er) (nwIf (rulesOk x y) y us) ns w MS nd lo ho rk gr so := by
  by_cases c : rulesOk x y
  · rw [nwIf_t c, nwIf_t c]
    obtain ⟨a1, a2, a3, a4, a5, a6, a7, a8, a9, b1, b2, b3, b4, b5, b6⟩ := h
    exact ⟨a1, a2, a3, a4, a5, ⟨a6.1, c.1, a6.2.2⟩, a7, a8, a9, b1, b2, b3, b4, b5, b6⟩
  · rw [nwIf_f c, nwIf_f c]; exact h
theorem lw_m1 {v : Int32} (h : ¬ out v (-1) 20000) : v = -1 ∨ ¬ out v 0 20000 := by
  by_cases e : v = -1
  · exact Or.inl e
  · refine Or.inr (fun q => ?_)
    rcases q with q | q
    · apply e
      apply Int32.toInt_inj.mp
      have h1 : ¬ v < -1 := fun p => h (Or.inl p)
      rw [Int32.lt_iff_toInt_lt] at h1 q
      have e1 : (-1 : Int32).toInt = -1 := by decide
      have e0 : (0 : Int32).toInt = 0 := by decide
      omega
    · exact h (Or.inr q)
theorem lwI_read (h : lwI nv fr tt ld n cu bg M er us ns w MS nd lo ho rk gr so) {x y c4 v : Int32} : lwI nv fr tt ld n cu bg (nwIf (readOk n x y v) (nwU2 M (readRow x c4) y.toNatClampNeg v) M) er us ns w MS nd lo ho rk gr so := by
  by_cases c : readOk n x y v
  · rw [nwIf_t c]
    obtain ⟨a1, a2, a3, a4, a5, a6, a7, a8, a9, b1, b2, b3, b4, b5, b6⟩ := h
    refine ⟨a1, a2, a3, a4, a5, ⟨fun z j => ?_, a6.2.1, a6.2.2⟩, a7, a8, a9, b1, b2, b3, b4, b5, b6⟩
    by_cases e : z = readRow x c4 ∧ j = y.toNatClampNeg
    · rw [e.1, e.2, nwU2_s]; exact lw_m1 c.2.2
    · rw [nwU2_n e]; exact a6.1 z j
  · rw [nwIf_f c]; exact h
theorem lwI_valve (h : lwI nv fr tt ld n cu bg M er us ns w MS nd lo ho rk gr so) {x y : Int32} : lwI (nwIf (valveOk n nv x y) (nv + 1) nv) (nwIf (valveOk n nv x y) (va_up fr nv x.toNatClampNeg) fr) (nwIf (valveOk n nv x y) (va_up tt nv y.toNatClampNeg) tt) ld n cu bg M er us ns w MS nd lo ho rk gr so := by
  by_cases c : valveOk n nv x y
  · rw [nwIf_t c, nwIf_t c, nwIf_t c]
    obtain ⟨a1, a2, a3, a4, a5, a6, a7, a8, a9, b1, b2, b3, b4, b5, b6⟩ := h
    obtain ⟨i, hi, ei⟩ := nw_lt (by omega) c.1
    obtain ⟨j, hj, ej⟩ := nw_lt (by omega) c.2.1
    have ci : x.toNatClampNeg = i := nw_clamp ei (by omega)
    have cj : y.toNatClampNeg = j := nw_clamp ej (by omega)
    refine ⟨a1, by have := c.2.2.2; omega, fun q hq => ?_, a4, a5, a6, a7, a8, a9, b1, b2, b3, b4, b5, b6⟩
    by_cases e : q = nv
    · subst e; rw [va_up_self, va_up_self, ci, cj]; exact ⟨hi, hj⟩
    · rw [va_up_ne _ _ e, va_up_ne _ _ e]; exact a3 q (by omega)
  · rw [nwIf_f c, nwIf_f c, nwIf_f c]; exact h
theorem lwI_section (h : lwI nv fr tt ld n cu bg M er us ns w MS nd lo ho rk gr so) {x y v : Int32} {Mv : Nat → Nat → Int32} (hM : plOk (nwIf (secOk x y v) (va_up (cutW w x.toNatClampNeg) y.toNatClampNeg v.toNatClampNeg) w) (nwIf (secOk x y v) x.toNatClampNeg ns) Mv) : lwI nv fr tt ld n cu bg M er us (nwIf (secOk x y v) x.toNatClampNeg ns) (nwIf (secOk x y v) (va_up (cutW w x.toNatClampNeg) y.toNatClampNeg v.toNatClampNeg) w) Mv nd lo ho rk gr so := by
  obtain ⟨a1, a2, a3, a4, a5, a6, a7, a8, a9, b1, b2, b3, b4, b5, b6⟩ := h
  by_cases c : secOk x y v
  · rw [nwIf_t c, nwIf_t c] at hM ⊢
    obtain ⟨m, h1, h12, em⟩ := nw_rng1 (n := 12) rfl (by decide) c.1
    have cm : x.toNatClampNeg = m := nw_clamp em (by omega)
    obtain ⟨i, hi, ei⟩ := nw_lt (x := y) (n := m) (by omega) (by rw [← em]; exact c.2.1)
    have ci : y.toNatClampNeg = i := nw_clamp ei (by omega)
    obtain ⟨q, hq, eq⟩ := nw_le (n := 1000) rfl (by decide) c.2.2
    have cq : v.toNatClampNeg = q := nw_clamp eq (by omega)
    rw [cm, ci, cq] at hM ⊢
    refine ⟨a1, a2, a3, a4, a5, a6, h1, h12, cut_le a9 (by omega), fun k hk => ?_, hM, b3, b4, b5, b6⟩
    rw [va_up_ne _ _ (by omega)]
    unfold cutW
    rw [if_neg (by omega)]
  · rw [nwIf_f c, nwIf_f c] at hM ⊢
    exact ⟨a1, a2, a3, a4, a5, a6, a7, a8, a9, b1, hM, b3, b4, b5, b6⟩
theorem lwI_dig (h : lwI nv fr tt ld n cu bg M er us ns w MS nd lo ho rk gr so) {x y : Int32} : lwI nv fr tt ld n cu bg M er us ns w MS (nwIf (digOk nd x y) (nd + 1) nd) (nwIf (digOk nd x y) (va_up lo nd x) lo) (nwIf (digOk nd x y) (va_up ho nd y) ho) (nwIf (digOk nd x y) (insF (va_up lo nd x) (va_up ho nd y) nd nd rk) rk) gr so := by
  by_cases c : digOk nd x y
  · rw [nwIf_t c, nwIf_t c, nwIf_t c, nwIf_t c]
    obtain ⟨a1, a2, a3, a4, a5, a6, a7, a8, a9, b1, b2, b3, b4, b5, b6⟩ := h
    have h8 := c.2.2
    refine ⟨a1, a2, a3, a4, a5, a6, a7, a8, a9, b1, b2, by omega, insF_lt h8 nd rk b4, b5, fun j hj => ?_⟩
    rw [srtF_s]
    have hs : ∀ j, j < nd → srtF lo ho (fun _ => 0) nd j = srtF (va_up lo nd x) (va_up ho nd y) (fun _ => 0) nd j := srtF_congr nd (fun j hj => ⟨(va_up_ne _ _ (by omega)).symm, (va_up_ne _ _ (by omega)).symm⟩)
    exact insF_congr ⟨rfl, rfl⟩ nd _ _ (fun i hi => (b6 i hi).trans (hs i hi)) (fun _ _ => ⟨rfl, rfl⟩) j (by omega)
  · rw [nwIf_f c, nwIf_f c, nwIf_f c, nwIf_f c]; exact h
theorem lwI_clear (h : lwI nv fr tt ld n cu bg M er us ns w MS nd lo ho rk gr so) : lwI nv fr tt ld n cu bg M er us ns w MS 0 lo ho rk gr so := by
  obtain ⟨a1, a2, a3, a4, a5, a6, a7, a8, a9, b1, b2, b3, b4, b5, b6⟩ := h
  exact ⟨a1, a2, a3, a4, a5, a6, a7, a8, a9, b1, b2, by omega, b4, b5, fun j hj => absurd hj (Nat.not_lt_zero j)⟩
theorem rk_so (h : lwI nv fr tt ld n cu bg M er us ns w MS nd lo ho rk gr so) : ∀ j, j < nd → rk j = srtF lo ho so nd j := by
  obtain ⟨a1, a2, a3, a4, a5, a6, a7, a8, a9, b1, b2, b3, b4, b5, b6⟩ := h
  exact fun j hj => (b6 j hj).trans (srtF_congr nd (fun _ _ => ⟨rfl, rfl⟩) j hj)
theorem lostG_eq (h : lwI nv fr tt ld n cu bg M er us ns w MS nd lo ho rk gr so) : (lostD lo ho rk nd).2 = (lostD lo ho (srtF lo ho so nd) nd).2 := by
  rw [lostD_congr nd (rk_so h) (fun _ _ => ⟨rfl, rfl⟩)]
theorem orderG_eq (h : lwI nv fr tt ld n cu bg M er us ns w MS nd lo ho rk gr so) {i : Int32} : orderF nd rk i = orderF nd (srtF lo ho so nd) i := by
  have h8 : nd ≤ 8 := h.2.2.2.2.2.2.2.2.2.2.2.1
  unfold orderF
  by_cases c : out i 0 (nI nd - 1)
  · rw [nwIf_t c, nwIf_t c]
  · rw [nwIf_f c, nwIf_f c]
    obtain ⟨j, hj, ej⟩ := nw_lt (by omega) c
    rw [nw_clamp ej (by omega), rk_so h j hj]
end LWP
theorem i_add {a b : Int32} (h1 : -2147483648 ≤ a.toInt + b.toInt) (h2 : a.toInt + b.toInt < 2147483648) : (a + b).toInt = a.toInt + b.toInt := by
  rw [Int32.toInt_add]
  apply Int.bmod_eq_of_le <;> omega
theorem i_sub {a b : Int32} (h1 : -2147483648 ≤ a.toInt - b.toInt) (h2 : a.toInt - b.toInt < 2147483648) : (a - b).toInt = a.toInt - b.toInt := by
  rw [Int32.toInt_sub]
  apply Int.bmod_eq_of_le <;> omega
theorem i_mul {a b : Int32} (h1 : -2147483648 ≤ a.toInt * b.toInt) (h2 : a.toInt * b.toInt < 2147483648) : (a * b).toInt = a.toInt * b.toInt := by
  rw [Int32.toInt_mul]
  apply Int.bmod_eq_of_le <;> omega
theorem i_div1000 {a : Int32} : (a / 1000).toInt = a.toInt.tdiv 1000 := by
  first
  | exact (Int32.toInt_div_of_ne_right a 1000 (by decide)).trans rfl
  | exact (Int32.toInt_div_of_ne_right (a := a) (b := 1000) (by decide)).trans rfl
  | exact (Int32.toInt_div_of_ne_left a 1000 (by decide)).trans rfl
theorem td_b {x : Int} (h1 : -2000 ≤ x) (h2 : x ≤ 25000000) : -10 ≤ x.tdiv 1000 ∧ x.tdiv 1000 ≤ 30000 := by
  by_cases h : 0 ≤ x
  · rw [Int.tdiv_eq_ediv_of_nonneg h]
    omega
  · have e : x.tdiv 1000 = -((-x).tdiv 1000) := by rw [Int.neg_tdiv, Int.neg_neg]
    rw [e, Int.tdiv_eq_ediv_of_nonneg (by omega)]
    omega
theorem lw_rd {v : Int32} (h : v = -1 ∨ ¬ out v 0 20000) : -1 ≤ v.toInt ∧ v.toInt ≤ 20000 := by
  rcases h with h | h
  · subst h; decide
  · unfold out at h
    rw [Int32.lt_iff_toInt_lt, Int32.lt_iff_toInt_lt] at h
    have e0 : (0 : Int32).toInt = 0 := by decide
    have e1 : (20000 : Int32).toInt = 20000 := by decide
    omega
theorem lw_er {v : Int32} (h : ¬ out v 0 200) : 0 ≤ v.toInt ∧ v.toInt ≤ 200 := by
  unfold out at h
  rw [Int32.lt_iff_toInt_lt, Int32.lt_iff_toInt_lt] at h
  have e0 : (0 : Int32).toInt = 0 := by decide
  have e1 : (200 : Int32).toInt = 200 := by decide
  omega
theorem lw_bg {v : Int32} (h : ¬ out v 0 5000) : 0 ≤ v.toInt ∧ v.toInt ≤ 5000 := by
  unfold out at h
  rw [Int32.lt_iff_toInt_lt, Int32.lt_iff_toInt_lt] at h
  have e0 : (0 : Int32).toInt = 0 := by decide
  have e1 : (5000 : Int32).toInt = 5000 := by decide
  omega
theorem lw_mulb {x y : Int} (h1 : -1 ≤ x) (h2 : x ≤ 20000) (h3 : 0 ≤ y) (h4 : y ≤ 1200) : -1200 ≤ x * y ∧ x * y ≤ 24000000 := by
  have a := Int.mul_le_mul_of_nonneg_right h2 h3
  have b := Int.mul_le_mul_of_nonneg_right h1 h3
  omega
theorem grt_b {er v : Int32} (he : ¬ out er 0 200) (hv : v = -1 ∨ ¬ out v 0 20000) : -10 ≤ (grtF er v).toInt ∧ (grtF er v).toInt ≤ 30000 := by
  have h1 := lw_er he
  have h2 := lw_rd hv
  have e1 : (1000 + er).toInt = 1000 + er.toInt := i_add (by rw [show (1000 : Int32).toInt = 1000 by decide]; omega) (by rw [show (1000 : Int32).toInt = 1000 by decide]; omega)
  have hb := lw_mulb h2.1 h2.2 (show 0 ≤ 1000 + er.toInt by omega) (by omega)
  have e2 : (v * (1000 + er)).toInt = v.toInt * (1000 + er.toInt) := by rw [i_mul (by rw [e1]; omega) (by rw [e1]; omega), e1]
  have e9 : (999 : Int32).toInt = 999 := by decide
  have e3 : (v * (1000 + er) + 999).toInt = v.toInt * (1000 + er.toInt) + 999 := by rw [i_add (by rw [e2, e9]; omega) (by rw [e2, e9]; omega), e2, e9]
  unfold grtF
  rw [i_div1000, e3]
  exact td_b (by omega) (by omega)
theorem lst_b {er v : Int32} (he : ¬ out er 0 200) (hv : v = -1 ∨ ¬ out v 0 20000) : -10 ≤ (lstF er v).toInt ∧ (lstF er v).toInt ≤ 30000 := by
  have h1 := lw_er he
  have h2 := lw_rd hv
  have e1 : (1000 - er).toInt = 1000 - er.toInt := i_sub (by rw [show (1000 : Int32).toInt = 1000 by decide]; omega) (by rw [show (1000 : Int32).toInt = 1000 by decide]; omega)
  have hb := lw_mulb h2.1 h2.2 (show 0 ≤ 1000 - er.toInt by omega) (by omega)
  have e2 : (v * (1000 - er)).toInt = v.toInt * (1000 - er.toInt) := by rw [i_mul (by rw [e1]; omega) (by rw [e1]; omega), e1]
  unfold lstF
  rw [i_div1000, e2]
  exact td_b (by omega) (by omega)
theorem lwB_bnd {n : Nat} {cu bg : Nat → Int32} {M : Nat → Nat → Int32} {er us : Int32} (h : lwB n cu bg M er us) : bnd n (lk1 cu bg M er us) := by
  intro z hz
  unfold lk1 leakF
  by_cases c : (lowF er (M z) (M (8 + z)) 4).1 = -1
  · rw [nwIf_t c]; exact Or.inl rfl
  · rw [nwIf_f c, nwIf_f (by decide)]
    right
    obtain ⟨j, -, -, ej⟩ := (lowF_h (er := er) (f := M z) (g := M (8 + z)) 4).resolve_left c
    rw [ej]
    have h1 := grt_b h.2.1 (h.1 z j)
    have h2 := lst_b h.2.1 (h.1 (8 + z) j)
    have h3 := lw_bg (h.2.2 z hz)
    have e1 : (grtF er (M z j) - lstF er (M (8 + z) j)).toInt = (grtF er (M z j)).toInt - (lstF er (M (8 + z) j)).toInt := i_sub (by omega) (by omega)
    show -1000000 ≤ (grtF er (M z j) - lstF er (M (8 + z) j) - bg z).toInt ∧ (grtF er (M z j) - lstF er (M (8 + z) j) - bg z).toInt ≤ 1000000
    rw [i_sub (by rw [e1]; omega) (by rw [e1]; omega), e1]
    omega
