/-! The law: its loop, its beginning. -/
theorem law_k {L k : Nat} (hL : L ≤ 2560) (hk : k ≤ L) (h : ¬ Int32.ofNat L - 5 < nI k) : k + 5 ≤ L := by
  rw [Int32.lt_iff_toInt_lt, nI_toInt (by omega)] at h
  have e5 : (5 : Int32).toInt = 5 := by decide
  have eL : (Int32.ofNat L).toInt = L := nI_toInt (by omega)
  rw [i_sub (by rw [eL, e5]; omega) (by rw [eL, e5]; omega), eL, e5] at h
  omega
set_option maxHeartbeats 4000000 in
set_option maxRecDepth 100000 in
theorem law_loop {G : nwG} {b sb : Nat} {z v li st d a : Nat → Nat} {L : Nat} {xs : Nat → Int32} {vp : Program} {lc : Launch} {ve : Env} {vs : State} {vm : MethodId} {args : Array Value} {vb : List Frame} {vt : Method} {vc : Code} {vA : Nat → Prop} {Q : State → Prop} {nm : String} (X : nwAt vp vm vc cL_law 4 vs args wsL_law RL vt (some .boolean) nm G) (hA : ∀ q, vs.heap.size ≤ q → vA q) (hsX : va_X sb L xs vs vs.heap) (hsb : sb < vs.heap.size) (hsA : ¬ vA sb) (hL : L ≤ 2560) (hEnd : ∀ (H : Heap) (locs : List Loc) (ls : Array Slot), va_S vA vs.heap H locs → W vp lc ve room_1 vs vm args vb vt vc H locs 80 1886 Q (F0 vm 972 ls [])) :
    ∀ (fuel k : Nat), L + 1 - k < fuel → k ≤ L → ∀ (nv : Nat) (fr tt : Nat → Nat) (zl : Nat → Int32) (ld : Nat → Nat) (gk ut : Nat → Int32) (n : Nat) (cu bg : Nat → Int32) (M : Nat → Nat → Int32) (er us : Int32) (ML : Nat → Nat → Int32) (ns : Nat) (w : Nat → Nat) (MS : Nat → Nat → Int32) (nd : Nat) (lo ho : Nat → Int32) (rk : Nat → Nat) (ll lm lh : Int32) (gr : Nat → Nat) (cs cl : Nat → Int32) (so : Nat → Nat) (H : Heap) (locs : List Loc) (ls : Array Slot), lwI nv fr tt ld n cu bg M er us ns w MS nd lo ho rk gr so → lv_has ls 4 [(3, .int (nI k)), (2, .ref (a 0)), (1, .ref b), (0, .ref sb)] → va_P G.1 vwCl (lwW G b z v li st d a nv fr tt zl ld gk ut n cu bg M er us ML ns w MS nd lo ho rk ll lm lh gr cs cl so) H → va_D vA (lwW G b z v li st d a nv fr tt zl ld gk ut n cu bg M er us ML ns w MS nd lo ho rk ll lm lh gr cs cl so) → va_S vA vs.heap H locs → W vp lc ve room_1 vs vm args vb vt vc H locs 80 1886 Q (F0 vm 18 ls []) := by
  have hx := X.1.1
  have hb := X.1.2.1
  intro fuel
  induction fuel with
  | zero => intro k h; exact absurd h (Nat.not_lt_zero _)
  | succ fuel ih =>
    intro k hmu hkL nv fr tt zl ld gk ut n cu bg M er us ML ns w MS nd lo ho rk ll lm lh gr cs cl so H locs ls hI hl hP hD hS
    have hK9 : k + 5 ≤ L → lwK G b sb z v li st d a k vp lc ve vs vm args vb vt vc vA Q := by
      intro h5
      intro nv fr tt zl ld gk ut n cu bg M er us ML ns w MS nd lo ho rk ll lm lh gr cs cl so H locs ls hI hl hP hD hS
      refine lv_iinc (v := nI (k + 5)) (lv' := [(3, .int (nI (k + 5))), (2, .ref (a 0)), (1, .ref b), (0, .ref sb)]) hx hb dL_law_966 hl (k := 0) rfl (by exact nI_add k 5) (by decide) rfl (fun ls hl => ?_)
      refine lv_goto (tgt := 18) hx hb dL_law_969 (by decide) ?_
      exact ih (k + 5) (by omega) (by omega) nv fr tt zl ld gk ut n cu bg M er us ML ns w MS nd lo ho rk ll lm lh gr cs cl so _ _ _ hI hl hP hD hS
    refine lv_iload_n hx hb dL_law_18 rfl (lv_at hl 0 rfl) ?_
    refine lv_aload_n hx hb dL_law_19 rfl (lv_at hl 3 rfl) ?_
    refine va_slen hx hb hsX hsb hsA hS dL_law_20 ?_
    refine lv_iconst (v := (5)) hx hb dL_law_21 (by decide) ?_
    refine lv_isub hx hb dL_law_22 ?_
    refine lv_icmp_gt (tgt := 972) hx hb dL_law_23 (by decide) (fun c9 => hEnd _ _ _ hS) (fun c9 => ?_)
    have h5 := law_k hL hkL c9
    refine lv_aload_n hx hb dL_law_26 rfl (lv_at hl 3 rfl) ?_
    refine lv_iload_n hx hb dL_law_27 rfl (lv_at hl 0 rfl) ?_
    refine nw_sld hx hb hsX hsb hsA hS (k := k) (by omega) (by omega) (xs k) rfl dL_law_28 ?_
    refine lv_bipush (v := (31)) hx hb dL_law_29 (by decide) ?_
    refine lv_iand hx hb dL_law_31 ?_
    obtain ⟨y9, ey⟩ : ∃ y : Int32, y = xs k &&& 31 := ⟨_, rfl⟩
    refine nw_top (y := y9) ey.symm ?_
    by_cases hw0 : y9 = 0
    · refine nw_st (st' := [.int 0]) (by rw [hw0]) ?_
      refine lv_tableIn (off := 116) (tgt := 148) hx hb dL_law_32 (by decide) (by decide) (by rfl) (by decide) ?_
      exact law_0 X hA hsX hsb hsA h5 hL rfl rfl rfl rfl (hK9 h5) nv fr tt zl ld gk ut n cu bg M er us ML ns w MS nd lo ho rk ll lm lh gr cs cl so hI H locs ls hl hP hD hS
    by_cases hw1 : y9 = 1
    · refine nw_st (st' := [.int 1]) (by rw [hw1]) ?_
      refine lv_tableIn (off := 149) (tgt := 181) hx hb dL_law_32 (by decide) (by decide) (by rfl) (by decide) ?_
      exact law_1 X hA hsX hsb hsA h5 hL rfl rfl rfl rfl (hK9 h5) nv fr tt zl ld gk ut n cu bg M er us ML ns w MS nd lo ho rk ll lm lh gr cs cl so hI H locs ls hl hP hD hS
    by_cases hw2 : y9 = 2
    · refine nw_st (st' := [.int 2]) (by rw [hw2]) ?_
      refine lv_tableIn (off := 182) (tgt := 214) hx hb dL_law_32 (by decide) (by decide) (by rfl) (by decide) ?_
      exact law_2 X hA hsX hsb hsA h5 hL rfl rfl rfl rfl (hK9 h5) nv fr tt zl ld gk ut n cu bg M er us ML ns w MS nd lo ho rk ll lm lh gr cs cl so hI H locs ls hl hP hD hS
    by_cases hw3 : y9 = 3
    · refine nw_st (st' := [.int 3]) (by rw [hw3]) ?_
      refine lv_tableIn (off := 251) (tgt := 283) hx hb dL_law_32 (by decide) (by decide) (by rfl) (by decide) ?_
      exact law_3 X hA hsX hsb hsA h5 hL rfl rfl rfl rfl (hK9 h5) nv fr tt zl ld gk ut n cu bg M er us ML ns w MS nd lo ho rk ll lm lh gr cs cl so hI H locs ls hl hP hD hS
    by_cases hw4 : y9 = 4
    · refine nw_st (st' := [.int 4]) (by rw [hw4]) ?_
      refine lv_tableIn (off := 284) (tgt := 316) hx hb dL_law_32 (by decide) (by decide) (by rfl) (by decide) ?_
      exact law_4 X hA hsX hsb hsA h5 hL rfl rfl rfl rfl (hK9 h5) nv fr tt zl ld gk ut n cu bg M er us ML ns w MS nd lo ho rk ll lm lh gr cs cl so hI H locs ls hl hP hD hS
    by_cases hw5 : y9 = 5
    · refine nw_st (st' := [.int 5]) (by rw [hw5]) ?_
      refine lv_tableIn (off := 317) (tgt := 349) hx hb dL_law_32 (by decide) (by decide) (by rfl) (by decide) ?_
      exact law_5 X hA hsX hsb hsA h5 hL rfl rfl rfl rfl (hK9 h5) nv fr tt zl ld gk ut n cu bg M er us ML ns w MS nd lo ho rk ll lm lh gr cs cl so hI H locs ls hl hP hD hS
    by_cases hw6 : y9 = 6
    · refine nw_st (st' := [.int 6]) (by rw [hw6]) ?_
      refine lv_tableIn (off := 350) (tgt := 382) hx hb dL_law_32 (by decide) (by decide) (by rfl) (by decide) ?_
      exact law_6 X hA hsX hsb hsA h5 hL rfl rfl rfl rfl (hK9 h5) nv fr tt zl ld gk ut n cu bg M er us ML ns w MS nd lo ho rk ll lm lh gr cs cl so hI H locs ls hl hP hD hS
    by_cases hw7 : y9 = 7
    · refine nw_st (st' := [.int 7]) (by rw [hw7]) ?_
      refine lv_tableIn (off := 383) (tgt := 415) hx hb dL_law_32 (by decide) (by decide) (by rfl) (by decide) ?_
      exact law_7 X hA hsX hsb hsA h5 hL rfl rfl rfl rfl (hK9 h5) nv fr tt zl ld gk ut n cu bg M er us ML ns w MS nd lo ho rk ll lm lh gr cs cl so hI H locs ls hl hP hD hS
    by_cases hw8 : y9 = 8
    · refine nw_st (st' := [.int 8]) (by rw [hw8]) ?_
      refine lv_tableIn (off := 406) (tgt := 438) hx hb dL_law_32 (by decide) (by decide) (by rfl) (by decide) ?_
      exact law_8 X hA hsX hsb hsA h5 hL rfl rfl rfl rfl (hK9 h5) nv fr tt zl ld gk ut n cu bg M er us ML ns w MS nd lo ho rk ll lm lh gr cs cl so hI H locs ls hl hP hD hS
    by_cases hw9 : y9 = 9
    · refine nw_st (st' := [.int 9]) (by rw [hw9]) ?_
      refine lv_tableIn (off := 419) (tgt := 451) hx hb dL_law_32 (by decide) (by decide) (by rfl) (by decide) ?_
      exact law_9 X hA hsX hsb hsA h5 hL rfl rfl rfl rfl (hK9 h5) nv fr tt zl ld gk ut n cu bg M er us ML ns w MS nd lo ho rk ll lm lh gr cs cl so hI H locs ls hl hP hD hS
    by_cases hw10 : y9 = 10
    · refine nw_st (st' := [.int 10]) (by rw [hw10]) ?_
      refine lv_tableIn (off := 462) (tgt := 494) hx hb dL_law_32 (by decide) (by decide) (by rfl) (by decide) ?_
      exact law_10 X hA hsX hsb hsA h5 hL rfl rfl rfl rfl (hK9 h5) nv fr tt zl ld gk ut n cu bg M er us ML ns w MS nd lo ho rk ll lm lh gr cs cl so hI H locs ls hl hP hD hS
    by_cases hw11 : y9 = 11
    · refine nw_st (st' := [.int 11]) (by rw [hw11]) ?_
      refine lv_tableIn (off := 515) (tgt := 547) hx hb dL_law_32 (by decide) (by decide) (by rfl) (by decide) ?_
      exact law_11 X hA hsX hsb hsA h5 hL rfl rfl rfl rfl (hK9 h5) nv fr tt zl ld gk ut n cu bg M er us ML ns w MS nd lo ho rk ll lm lh gr cs cl so hI H locs ls hl hP hD hS
    by_cases hw12 : y9 = 12
    · refine nw_st (st' := [.int 12]) (by rw [hw12]) ?_
      refine lv_tableIn (off := 548) (tgt := 580) hx hb dL_law_32 (by decide) (by decide) (by rfl) (by decide) ?_
      exact law_12 X hA hsX hsb hsA h5 hL rfl rfl rfl rfl (hK9 h5) nv fr tt zl ld gk ut n cu bg M er us ML ns w MS nd lo ho rk ll lm lh gr cs cl so hI H locs ls hl hP hD hS
    by_cases hw13 : y9 = 13
    · refine nw_st (st' := [.int 13]) (by rw [hw13]) ?_
      refine lv_tableIn (off := 587) (tgt := 619) hx hb dL_law_32 (by decide) (by decide) (by rfl) (by decide) ?_
      exact law_13 X hA hsX hsb hsA h5 hL rfl rfl rfl rfl (hK9 h5) nv fr tt zl ld gk ut n cu bg M er us ML ns w MS nd lo ho rk ll lm lh gr cs cl so hI H locs ls hl hP hD hS
    by_cases hw14 : y9 = 14
    · refine nw_st (st' := [.int 14]) (by rw [hw14]) ?_
      refine lv_tableIn (off := 640) (tgt := 672) hx hb dL_law_32 (by decide) (by decide) (by rfl) (by decide) ?_
      exact law_14 X hA hsX hsb hsA h5 hL rfl rfl rfl rfl (hK9 h5) nv fr tt zl ld gk ut n cu bg M er us ML ns w MS nd lo ho rk ll lm lh gr cs cl so hI H locs ls hl hP hD hS
    by_cases hw15 : y9 = 15
    · refine nw_st (st' := [.int 15]) (by rw [hw15]) ?_
      refine lv_tableIn (off := 683) (tgt := 715) hx hb dL_law_32 (by decide) (by decide) (by rfl) (by decide) ?_
      exact law_15 X hA hsX hsb hsA h5 hL rfl rfl rfl rfl (hK9 h5) nv fr tt zl ld gk ut n cu bg M er us ML ns w MS nd lo ho rk ll lm lh gr cs cl so hI H locs ls hl hP hD hS
    by_cases hw16 : y9 = 16
    · refine nw_st (st' := [.int 16]) (by rw [hw16]) ?_
      refine lv_tableIn (off := 716) (tgt := 748) hx hb dL_law_32 (by decide) (by decide) (by rfl) (by decide) ?_
      exact law_16 X hA hsX hsb hsA h5 hL rfl rfl rfl rfl (hK9 h5) nv fr tt zl ld gk ut n cu bg M er us ML ns w MS nd lo ho rk ll lm lh gr cs cl so hI H locs ls hl hP hD hS
    by_cases hw17 : y9 = 17
    · refine nw_st (st' := [.int 17]) (by rw [hw17]) ?_
      refine lv_tableIn (off := 749) (tgt := 781) hx hb dL_law_32 (by decide) (by decide) (by rfl) (by decide) ?_
      exact law_17 X hA hsX hsb hsA h5 hL rfl rfl rfl rfl (hK9 h5) nv fr tt zl ld gk ut n cu bg M er us ML ns w MS nd lo ho rk ll lm lh gr cs cl so hI H locs ls hl hP hD hS
    by_cases hw18 : y9 = 18
    · refine nw_st (st' := [.int 18]) (by rw [hw18]) ?_
      refine lv_tableIn (off := 772) (tgt := 804) hx hb dL_law_32 (by decide) (by decide) (by rfl) (by decide) ?_
      exact law_18 X hA hsX hsb hsA h5 hL rfl rfl rfl rfl (hK9 h5) nv fr tt zl ld gk ut n cu bg M er us ML ns w MS nd lo ho rk ll lm lh gr cs cl so hI H locs ls hl hP hD hS
    by_cases hw19 : y9 = 19
    · refine nw_st (st' := [.int 19]) (by rw [hw19]) ?_
      refine lv_tableIn (off := 805) (tgt := 837) hx hb dL_law_32 (by decide) (by decide) (by rfl) (by decide) ?_
      exact law_19 X hA hsX hsb hsA h5 hL rfl rfl rfl rfl (hK9 h5) nv fr tt zl ld gk ut n cu bg M er us ML ns w MS nd lo ho rk ll lm lh gr cs cl so hI H locs ls hl hP hD hS
    by_cases hw20 : y9 = 20
    · refine nw_st (st' := [.int 20]) (by rw [hw20]) ?_
      refine lv_tableIn (off := 818) (tgt := 850) hx hb dL_law_32 (by decide) (by decide) (by rfl) (by decide) ?_
      exact law_20 X hA hsX hsb hsA h5 hL rfl rfl rfl rfl (hK9 h5) nv fr tt zl ld gk ut n cu bg M er us ML ns w MS nd lo ho rk ll lm lh gr cs cl so hI H locs ls hl hP hD hS
    by_cases hw21 : y9 = 21
    · refine nw_st (st' := [.int 21]) (by rw [hw21]) ?_
      refine lv_tableIn (off := 831) (tgt := 863) hx hb dL_law_32 (by decide) (by decide) (by rfl) (by decide) ?_
      exact law_21 X hA hsX hsb hsA h5 hL rfl rfl rfl rfl (hK9 h5) nv fr tt zl ld gk ut n cu bg M er us ML ns w MS nd lo ho rk ll lm lh gr cs cl so hI H locs ls hl hP hD hS
    by_cases hw22 : y9 = 22
    · refine nw_st (st' := [.int 22]) (by rw [hw22]) ?_
      refine lv_tableIn (off := 854) (tgt := 886) hx hb dL_law_32 (by decide) (by decide) (by rfl) (by decide) ?_
      exact law_22 X hA hsX hsb hsA h5 hL rfl rfl rfl rfl (hK9 h5) nv fr tt zl ld gk ut n cu bg M er us ML ns w MS nd lo ho rk ll lm lh gr cs cl so hI H locs ls hl hP hD hS
    by_cases hw23 : y9 = 23
    · refine nw_st (st' := [.int 23]) (by rw [hw23]) ?_
      refine lv_tableIn (off := 897) (tgt := 929) hx hb dL_law_32 (by decide) (by decide) (by rfl) (by decide) ?_
      exact law_23 X hA hsX hsb hsA h5 hL rfl rfl rfl rfl (hK9 h5) nv fr tt zl ld gk ut n cu bg M er us ML ns w MS nd lo ho rk ll lm lh gr cs cl so hI H locs ls hl hP hD hS
    by_cases hw24 : y9 = 24
    · refine nw_st (st' := [.int 24]) (by rw [hw24]) ?_
      refine lv_tableIn (off := 920) (tgt := 952) hx hb dL_law_32 (by decide) (by decide) (by rfl) (by decide) ?_
      exact law_24 X hA hsX hsb hsA h5 hL rfl rfl rfl rfl (hK9 h5) nv fr tt zl ld gk ut n cu bg M er us ML ns w MS nd lo ho rk ll lm lh gr cs cl so hI H locs ls hl hP hD hS
    have hi0 : ¬ y9.toInt = 0 := lv_neT hw0 (by decide)
    have hi1 : ¬ y9.toInt = 1 := lv_neT hw1 (by decide)
    have hi2 : ¬ y9.toInt = 2 := lv_neT hw2 (by decide)
    have hi3 : ¬ y9.toInt = 3 := lv_neT hw3 (by decide)
    have hi4 : ¬ y9.toInt = 4 := lv_neT hw4 (by decide)
    have hi5 : ¬ y9.toInt = 5 := lv_neT hw5 (by decide)
    have hi6 : ¬ y9.toInt = 6 := lv_neT hw6 (by decide)
    have hi7 : ¬ y9.toInt = 7 := lv_neT hw7 (by decide)
    have hi8 : ¬ y9.toInt = 8 := lv_neT hw8 (by decide)
    have hi9 : ¬ y9.toInt = 9 := lv_neT hw9 (by decide)
    have hi10 : ¬ y9.toInt = 10 := lv_neT hw10 (by decide)
    have hi11 : ¬ y9.toInt = 11 := lv_neT hw11 (by decide)
    have hi12 : ¬ y9.toInt = 12 := lv_neT hw12 (by decide)
    have hi13 : ¬ y9.toInt = 13 := lv_neT hw13 (by decide)
    have hi14 : ¬ y9.toInt = 14 := lv_neT hw14 (by decide)
    have hi15 : ¬ y9.toInt = 15 := lv_neT hw15 (by decide)
    have hi16 : ¬ y9.toInt = 16 := lv_neT hw16 (by decide)
    have hi17 : ¬ y9.toInt = 17 := lv_neT hw17 (by decide)
    have hi18 : ¬ y9.toInt = 18 := lv_neT hw18 (by decide)
    have hi19 : ¬ y9.toInt = 19 := lv_neT hw19 (by decide)
    have hi20 : ¬ y9.toInt = 20 := lv_neT hw20 (by decide)
    have hi21 : ¬ y9.toInt = 21 := lv_neT hw21 (by decide)
    have hi22 : ¬ y9.toInt = 22 := lv_neT hw22 (by decide)
    have hi23 : ¬ y9.toInt = 23 := lv_neT hw23 (by decide)
    have hi24 : ¬ y9.toInt = 24 := lv_neT hw24 (by decide)
    refine lv_tableOut (tgt := 966) hx hb dL_law_32 (by omega) (by decide) ?_
    exact hK9 h5 nv fr tt zl ld gk ut n cu bg M er us ML ns w MS nd lo ho rk ll lm lh gr cs cl so H locs ls hI hl hP hD hS
