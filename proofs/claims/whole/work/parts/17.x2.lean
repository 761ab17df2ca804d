/-! printed by wip/gen/x2.py: contracts, walked row by row -/
set_option maxHeartbeats 4000000 in
set_option maxRecDepth 100000 in
theorem c_X2_rootOf (lc : Launch) (G : nwG) (q : Nat) (hq : q ≤ 1000000) : nwCi lc G yX2_rootOf wsX2_rootOf ({ frames := 0, cells := 0, slots := 0, locals := 0 } : Room) [.int (nI (q))] ([]) (fun r w => r = nI (rtF q) ∧ w = []) := by
  refine nw_of (cc := cX2_rootOf) (maxL := 2) (ret := (some .int)) (by decide) rfl (Nat.le_of_ble_eq_true rfl) ?_
  intro vp ve vs vm vb vt vc vA ls X hP hD hA hS hl
  have X : nwAt vp vm vc cX2_rootOf 2 vs _ wsX2_rootOf RX2 vt (some .int) "rootOf" G := X
  have hx := X.1.1
  have hb := X.1.2.1
  have hown := X.1.2.2.2.1
  have hts := X.1.2.2.2.2
  have hK := X.2.2.2.2
  have hl : lv_has ls 2 [(0, .int (nI (q)))] := hl
  refine lv_iconst (v := (0)) hx hb dX2_rootOf_0 (by decide) ?_
  refine lv_istore_n (lv' := [(1, .int (0)), (0, .int (nI (q)))]) hx hb dX2_rootOf_1 rfl hl (by decide) rfl (fun ls hl => ?_)
  have K2 : ∀ (fuel : Nat) (x1 : Nat) (H : Heap) (locs : List Loc) (ls : Array Slot), (1001 - x1) < fuel → (x1 ≤ 1000) → (x1 * x1 ≤ q) → lv_has ls 2 [(1, .int (nI (x1))), (0, .int (nI (q)))] → va_P G.1 vwCl ([]) H → va_D vA ([]) → va_S vA vs.heap H locs → W vp lc ve ({ frames := 0, cells := 0, slots := 0, locals := 0 } : Room) vs vm ([.int (nI (q))] : List Value).toArray vb vt vc H locs 0 0 (MQ vb (nwQi G (fun r w => r = nI (rtF q) ∧ w = []) vA) ([.int (nI (q))] : List Value).toArray vs ({ frames := 0, cells := 0, slots := 0, locals := 0 } : Room).cells ({ frames := 0, cells := 0, slots := 0, locals := 0 } : Room).slots vA) (F0 vm 2 ls []) := by
    intro fuel
    induction fuel with
    | zero => intro x1 H locs ls hmu; exact absurd hmu (Nat.not_lt_zero _)
    | succ fuel ih2 =>
      intro x1 H locs ls hmu h1 h2 hl hP hD hS
      have h3 : (x1 + 1) * (x1 + 1) ≤ 1001 * 1001 := Nat.mul_le_mul (by omega) (by omega)
      refine lv_iload_n hx hb dX2_rootOf_2 rfl (lv_at hl 0 rfl) ?_
      refine lv_sipush (v := (1000)) hx hb dX2_rootOf_3 (by decide) ?_
      refine lv_icmp_ge (tgt := 26) hx hb dX2_rootOf_6 (by decide) (fun b6_1 => ?_) (fun b6_1 => ?_)
      · skip
        have b6_1 : (1000) ≤ (x1) := (nI_leI (a := 1000) (b := x1) (by omega) (by omega)).mp b6_1
        have b6_1n : ¬ ((x1) < (1000)) := by omega
        have h5 : 1001 * 1001 ≤ (x1 + 1) * (x1 + 1) := Nat.mul_le_mul (by omega) (by omega)
        refine lv_iload_n hx hb dX2_rootOf_26 rfl (lv_at hl 0 rfl) ?_
        exact nw_iret (rm := ({ frames := 0, cells := 0, slots := 0, locals := 0 } : Room)) X hP hD hS (⟨by rw [rtF_is h2 (by omega) (by omega)], rfl⟩) dX2_rootOf_27
      · skip
        have b6_1 : ¬ ((1000) ≤ (x1)) := fun h => b6_1 ((nI_leI (a := 1000) (b := x1) (by omega) (by omega)).mpr h)
        have b6_1n : (x1) < (1000) := by omega
        refine lv_iload_n hx hb dX2_rootOf_9 rfl (lv_at hl 0 rfl) ?_
        refine lv_iconst (v := (1)) hx hb dX2_rootOf_10 (by decide) ?_
        refine lv_iadd hx hb dX2_rootOf_11 ?_
        refine nw_top (y := nI (x1 + 1)) (nI_add (x1) (1)) ?_
        refine lv_iload_n hx hb dX2_rootOf_12 rfl (lv_at hl 0 rfl) ?_
        refine lv_iconst (v := (1)) hx hb dX2_rootOf_13 (by decide) ?_
        refine lv_iadd hx hb dX2_rootOf_14 ?_
        refine nw_top (y := nI (x1 + 1)) (nI_add (x1) (1)) ?_
        refine lv_imul hx hb dX2_rootOf_15 ?_
        refine nw_top (y := nI ((x1 + 1) * (x1 + 1))) (pk_mul (x1 + 1) (x1 + 1)) ?_
        refine lv_iload_n hx hb dX2_rootOf_16 rfl (lv_at hl 1 rfl) ?_
        refine lv_icmp_gt (tgt := 26) hx hb dX2_rootOf_17 (by decide) (fun b17_2 => ?_) (fun b17_2 => ?_)
        · skip
          have b17_2 : (q) < ((x1 + 1) * (x1 + 1)) := (nI_ltI (a := q) (b := (x1 + 1) * (x1 + 1)) (by omega) (by omega)).mp b17_2
          have b17_2n : ¬ (((x1 + 1) * (x1 + 1)) ≤ (q)) := by omega
          refine lv_iload_n hx hb dX2_rootOf_26 rfl (lv_at hl 0 rfl) ?_
          exact nw_iret (rm := ({ frames := 0, cells := 0, slots := 0, locals := 0 } : Room)) X hP hD hS (⟨by rw [rtF_is h2 (by omega) (by omega)], rfl⟩) dX2_rootOf_27
        · skip
          have b17_2 : ¬ ((q) < ((x1 + 1) * (x1 + 1))) := fun h => b17_2 ((nI_ltI (a := q) (b := (x1 + 1) * (x1 + 1)) (by omega) (by omega)).mpr h)
          have b17_2n : ((x1 + 1) * (x1 + 1)) ≤ (q) := by omega
          refine lv_iinc (v := (nI (x1 + 1))) (lv' := [(1, .int (nI (x1 + 1))), (0, .int (nI (q)))]) hx hb dX2_rootOf_20 hl (k := 0) rfl (by exact nI_add (x1) 1) (by decide) rfl (fun ls hl => ?_)
          refine lv_goto (tgt := 2) hx hb dX2_rootOf_23 (by decide) ?_
          exact ih2 (x1 + 1) _ _ _ (by omega) (by omega) (by assumption) (lv_sub hl [0, 1] rfl) hP hD hS
  exact K2 ((1001 - (0)) + 1) (0) _ _ _ (Nat.lt_succ_self _) (by omega) (by omega) (lv_sub hl [0, 1] rfl) hP hD hS
set_option maxHeartbeats 4000000 in
set_option maxRecDepth 100000 in
theorem c_X2_pull (lc : Launch) (G : nwG) (x : Nat) (h100 : x ≤ 100) : nwCl lc G yX2_pull wsX2_pull ({ frames := 1, cells := 0, slots := 0, locals := 21 } : Room) [.int (nI (x))] ([]) (fun r w => r = pullF x ∧ w = []) := by
  refine nw_of (cc := cX2_pull) (maxL := 1) (ret := (some .long)) (by decide) rfl (Nat.le_of_ble_eq_true rfl) ?_
  intro vp ve vs vm vb vt vc vA ls X hP hD hA hS hl
  have X : nwAt vp vm vc cX2_pull 1 vs _ wsX2_pull RX2 vt (some .long) "pull" G := X
  have hx := X.1.1
  have hb := X.1.2.1
  have hown := X.1.2.2.2.1
  have hts := X.1.2.2.2.2
  have hK := X.2.2.2.2
  have hl : lv_has ls 1 [(0, .int (nI (x)))] := hl
  refine lv_iload_n hx hb dX2_pull_0 rfl (lv_at hl 0 rfl) ?_
  refine lv_i2l (v := (nI (x)).toInt64) hx hb dX2_pull_1 rfl ?_
  refine lv_sipush (v := (10000)) hx hb dX2_pull_2 (by decide) ?_
  refine lv_iload_n hx hb dX2_pull_5 rfl (lv_at hl 0 rfl) ?_
  refine lv_imul hx hb dX2_pull_6 ?_
  refine nw_top (y := nI (10000 * x)) (pk_mul (10000) (x)) ?_
  refine nw_st (st' := [.int (nI (10000 * x)), .long ((nI (x)).toInt64)]) (by rfl) ?_
  refine nw_Si (As := [.int (nI (10000 * x))]) (rest := [.long ((nI (x)).toInt64)]) X (c_X2_rootOf lc G (10000 * x) (by first | assumption | omega)) (va_cwS 1 hts gX2_pull_X2_rootOf rfl rfl rfl (by decide +kernel) ⟨Nat.le_of_ble_eq_true rfl, Nat.le_of_ble_eq_true rfl⟩) (fun _ _ h => h.2) hP hD hS hA rfl hl.1 rfl (Nat.le_of_ble_eq_true rfl) dX2_pull_7 ⟨Nat.le_of_ble_eq_true rfl, Nat.le_of_ble_eq_true rfl⟩ (fun r H locs hp_1 hP hD hS => ?_)
  obtain ⟨rfl, -⟩ := hp_1
  refine lv_i2l (v := (nI (rtF (10000 * x))).toInt64) hx hb dX2_pull_10 rfl ?_
  refine lv_lmul hx hb dX2_pull_11 ?_
  exact nw_lret (rm := ({ frames := 1, cells := 0, slots := 0, locals := 21 } : Room)) X hP hD hS (⟨rfl, rfl⟩) dX2_pull_12
set_option maxHeartbeats 4000000 in
set_option maxRecDepth 100000 in
theorem c_X2_leakAt (lc : Launch) (G : nwG) (v x y : Int32)  : nwCi lc G yX2_leakAt wsX2_leakAt ({ frames := 2, cells := 0, slots := 0, locals := 41 } : Room) [.int (v), .int (x), .int (y)] ([]) (fun r w => r = pulledF v x y ∧ w = []) := by
  refine nw_of (cc := cX2_leakAt) (maxL := 5) (ret := (some .int)) (by decide) rfl (Nat.le_of_ble_eq_true rfl) ?_
  intro vp ve vs vm vb vt vc vA ls X hP hD hA hS hl
  have X : nwAt vp vm vc cX2_leakAt 5 vs _ wsX2_leakAt RX2 vt (some .int) "leakAt" G := X
  have hx := X.1.1
  have hb := X.1.2.1
  have hown := X.1.2.2.2.1
  have hts := X.1.2.2.2.2
  have hK := X.2.2.2.2
  have hl : lv_has ls 5 [(0, .int (v)), (1, .int (x)), (2, .int (y))] := hl
  refine lv_iload_n hx hb dX2_leakAt_0 rfl (lv_at hl 0 rfl) ?_
  refine lv_iconst (v := (0)) hx hb dX2_leakAt_1 (by decide) ?_
  refine lv_ldc (own := RX2) (v := (100000)) hx hb hown (hts (.constant RX2 9 (100000)) (List.mem_of_getElem? (i := 1) rfl)) dX2_leakAt_2 ?_
  refine nw_Ni (As := [.int (v), .int (0), .int (100000)]) (rest := []) X (c_X6_outside lc G ((v)) ((0 : Int32)) ((100000 : Int32)) ) (va_cnB 3 hts ggX2_leakAt_X6_outside rfl rfl rfl (hK.nest 8 rfl) (hts (.initialized RX6) (List.mem_of_getElem? (i := 3) rfl)) (by decide +kernel) ⟨Nat.le_of_ble_eq_true rfl, Nat.le_of_ble_eq_true rfl⟩) (hts (.static yX6_outside) (List.mem_of_getElem? (i := 2) rfl)) (fun _ _ h => h.2) hP hD hS hA rfl hl.1 rfl (Nat.le_of_ble_eq_true rfl) dX2_leakAt_4 ⟨Nat.le_of_ble_eq_true rfl, Nat.le_of_ble_eq_true rfl⟩ (fun r H locs hp_1 hP hD hS => ?_)
  obtain ⟨⟨rfl, q_2⟩ | ⟨rfl, q_2⟩, -⟩ := hp_1
  · skip
    have q_2 : out ((v)) ((0 : Int32)) ((100000 : Int32)) := q_2
    refine lv_if_ne (tgt := 30) hx hb dX2_leakAt_7 (by decide) (fun _ => ?_) (fun c9 => absurd c9 (by decide))
    refine lv_bipush (v := (-2)) hx hb dX2_leakAt_30 (by decide) ?_
    exact nw_iret (rm := ({ frames := 2, cells := 0, slots := 0, locals := 41 } : Room)) X hP hD hS (⟨by simp only [pulledF, nwIf_T, nwIf_F, or_true, true_or, or_false, false_or, and_true, true_and, and_false, false_and, not_true_eq_false, not_false_eq_true, Nat.add_sub_cancel, q_2], rfl⟩) dX2_leakAt_32
  · skip
    have q_2 : ¬ out ((v)) ((0 : Int32)) ((100000 : Int32)) := q_2
    refine lv_if_ne (tgt := 30) hx hb dX2_leakAt_7 (by decide) (fun c9 => absurd c9 (by decide)) (fun _ => ?_)
    refine lv_iload_n hx hb dX2_leakAt_10 rfl (lv_at hl 1 rfl) ?_
    refine lv_iconst (v := (1)) hx hb dX2_leakAt_11 (by decide) ?_
    refine lv_bipush (v := (100)) hx hb dX2_leakAt_12 (by decide) ?_
    refine nw_Ni (As := [.int (x), .int (1), .int (100)]) (rest := []) X (c_X6_outside lc G ((x)) ((1 : Int32)) ((100 : Int32)) ) (va_cnB 3 hts ggX2_leakAt_X6_outside rfl rfl rfl (hK.nest 8 rfl) (hts (.initialized RX6) (List.mem_of_getElem? (i := 3) rfl)) (by decide +kernel) ⟨Nat.le_of_ble_eq_true rfl, Nat.le_of_ble_eq_true rfl⟩) (hts (.static yX6_outside) (List.mem_of_getElem? (i := 2) rfl)) (fun _ _ h => h.2) hP hD hS hA rfl hl.1 rfl (Nat.le_of_ble_eq_true rfl) dX2_leakAt_14 ⟨Nat.le_of_ble_eq_true rfl, Nat.le_of_ble_eq_true rfl⟩ (fun r H locs hp_5 hP hD hS => ?_)
    obtain ⟨⟨rfl, q_6⟩ | ⟨rfl, q_6⟩, -⟩ := hp_5
    · skip
      have q_6 : out ((x)) ((1 : Int32)) ((100 : Int32)) := q_6
      refine lv_if_ne (tgt := 30) hx hb dX2_leakAt_17 (by decide) (fun _ => ?_) (fun c9 => absurd c9 (by decide))
      refine lv_bipush (v := (-2)) hx hb dX2_leakAt_30 (by decide) ?_
      exact nw_iret (rm := ({ frames := 2, cells := 0, slots := 0, locals := 41 } : Room)) X hP hD hS (⟨by simp only [pulledF, nwIf_T, nwIf_F, or_true, true_or, or_false, false_or, and_true, true_and, and_false, false_and, not_true_eq_false, not_false_eq_true, Nat.add_sub_cancel, q_2, q_6], rfl⟩) dX2_leakAt_32
    · skip
      have q_6 : ¬ out ((x)) ((1 : Int32)) ((100 : Int32)) := q_6
      obtain ⟨z_8, hm_9, hz_10, he_11⟩ := nw_rng1 (n := 100) rfl (by decide) q_6
      have ec_12 := nw_clamp he_11 (by omega)
      refine lv_if_ne (tgt := 30) hx hb dX2_leakAt_17 (by decide) (fun c9 => absurd c9 (by decide)) (fun _ => ?_)
      refine lv_iload_n hx hb dX2_leakAt_20 rfl (lv_at hl 2 rfl) ?_
      refine lv_iconst (v := (1)) hx hb dX2_leakAt_21 (by decide) ?_
      refine lv_bipush (v := (100)) hx hb dX2_leakAt_22 (by decide) ?_
      refine nw_Ni (As := [.int (y), .int (1), .int (100)]) (rest := []) X (c_X6_outside lc G ((y)) ((1 : Int32)) ((100 : Int32)) ) (va_cnB 3 hts ggX2_leakAt_X6_outside rfl rfl rfl (hK.nest 8 rfl) (hts (.initialized RX6) (List.mem_of_getElem? (i := 3) rfl)) (by decide +kernel) ⟨Nat.le_of_ble_eq_true rfl, Nat.le_of_ble_eq_true rfl⟩) (hts (.static yX6_outside) (List.mem_of_getElem? (i := 2) rfl)) (fun _ _ h => h.2) hP hD hS hA rfl hl.1 rfl (Nat.le_of_ble_eq_true rfl) dX2_leakAt_24 ⟨Nat.le_of_ble_eq_true rfl, Nat.le_of_ble_eq_true rfl⟩ (fun r H locs hp_14 hP hD hS => ?_)
      obtain ⟨⟨rfl, q_15⟩ | ⟨rfl, q_15⟩, -⟩ := hp_14
      · skip
        have q_15 : out ((y)) ((1 : Int32)) ((100 : Int32)) := q_15
        refine lv_if_eq (tgt := 33) hx hb dX2_leakAt_27 (by decide) (fun c9 => absurd c9 (by decide)) (fun _ => ?_)
        refine lv_bipush (v := (-2)) hx hb dX2_leakAt_30 (by decide) ?_
        exact nw_iret (rm := ({ frames := 2, cells := 0, slots := 0, locals := 41 } : Room)) X hP hD hS (⟨by simp only [pulledF, nwIf_T, nwIf_F, or_true, true_or, or_false, false_or, and_true, true_and, and_false, false_and, not_true_eq_false, not_false_eq_true, Nat.add_sub_cancel, q_2, q_6, ec_12, q_15], rfl⟩) dX2_leakAt_32
      · skip
        have q_15 : ¬ out ((y)) ((1 : Int32)) ((100 : Int32)) := q_15
        obtain ⟨z_17, hm_18, hz_19, he_20⟩ := nw_rng1 (n := 100) rfl (by decide) q_15
        have ec_21 := nw_clamp he_20 (by omega)
        refine lv_if_eq (tgt := 33) hx hb dX2_leakAt_27 (by decide) (fun _ => ?_) (fun c9 => absurd (by decide) c9)
        refine lv_iload_n hx hb dX2_leakAt_33 rfl (lv_at hl 1 rfl) ?_
        refine nw_st (st' := [.int (nI (z_8))]) (by rw [he_11]) ?_
        refine nw_Sl (As := [.int (nI (z_8))]) (rest := []) X (c_X2_pull lc G (z_8) (by first | assumption | omega)) (va_cwS 1 hts gX2_leakAt_X2_pull rfl rfl rfl (by decide +kernel) ⟨Nat.le_of_ble_eq_true rfl, Nat.le_of_ble_eq_true rfl⟩) (fun _ _ h => h.2) hP hD hS hA rfl hl.1 rfl (Nat.le_of_ble_eq_true rfl) dX2_leakAt_34 ⟨Nat.le_of_ble_eq_true rfl, Nat.le_of_ble_eq_true rfl⟩ (fun r H locs hp_23 hP hD hS => ?_)
        obtain ⟨rfl, -⟩ := hp_23
        refine lv_lstore_n (lv' := [(3, .long (pullF (z_8))), (0, .int (v)), (1, .int (x)), (2, .int (y))]) hx hb dX2_leakAt_37 rfl hl (by decide) rfl (fun ls hl => ?_)
        refine lv_lload_n hx hb dX2_leakAt_38 rfl (lv_at hl 0 rfl) ?_
        refine lv_lconst (v := 0) hx hb dX2_leakAt_39 (by decide) ?_
        refine W.lcmp hx hb dX2_leakAt_40 ?_
        refine lv_if_gt (tgt := 47) hx hb dX2_leakAt_41 (by decide) (fun b41_24 => ?_) (fun b41_24 => ?_)
        · skip
          have b41_24 : (0) < (pullF (z_8)) := (lg_cmp_gt _ _).mp b41_24
          refine lv_iload_n hx hb dX2_leakAt_47 rfl (lv_at hl 1 rfl) ?_
          refine lv_i2l (v := (v).toInt64) hx hb dX2_leakAt_48 rfl ?_
          refine lv_iload_n hx hb dX2_leakAt_49 rfl (lv_at hl 3 rfl) ?_
          refine nw_st (st' := [.int (nI (z_17)), .long ((v).toInt64)]) (by rw [he_20]) ?_
          refine nw_Sl (As := [.int (nI (z_17))]) (rest := [.long ((v).toInt64)]) X (c_X2_pull lc G (z_17) (by first | assumption | omega)) (va_cwS 1 hts gX2_leakAt_X2_pull rfl rfl rfl (by decide +kernel) ⟨Nat.le_of_ble_eq_true rfl, Nat.le_of_ble_eq_true rfl⟩) (fun _ _ h => h.2) hP hD hS hA rfl hl.1 rfl (Nat.le_of_ble_eq_true rfl) dX2_leakAt_50 ⟨Nat.le_of_ble_eq_true rfl, Nat.le_of_ble_eq_true rfl⟩ (fun r H locs hp_25 hP hD hS => ?_)
          obtain ⟨rfl, -⟩ := hp_25
          refine lv_lmul hx hb dX2_leakAt_53 ?_
          refine lv_lload_n hx hb dX2_leakAt_54 rfl (lv_at hl 0 rfl) ?_
          refine lv_ldiv hx hb dX2_leakAt_55 (by exact fun h9 => absurd (h9 ▸ pullF_pos (x := z_8) (by omega) (by omega) : (0 : Int64) < 0) (by decide)) ?_
          refine lv_l2i (v := ((((v).toInt64) * (pullF (z_17))) / (pullF (z_8))).toInt32) hx hb dX2_leakAt_56 rfl ?_
          exact nw_iret (rm := ({ frames := 2, cells := 0, slots := 0, locals := 41 } : Room)) X hP hD hS (⟨by simp only [pulledF, nwIf_T, nwIf_F, or_true, true_or, or_false, false_or, and_true, true_and, and_false, false_and, not_true_eq_false, not_false_eq_true, Nat.add_sub_cancel, q_2, q_6, ec_12, q_15, ec_21, b41_24, b41_24], rfl⟩) dX2_leakAt_57
        · skip
          have b41_24 : ¬ ((0) < (pullF (z_8))) := fun h => b41_24 ((lg_cmp_gt _ _).mpr h)
          exact absurd (pullF_pos (x := z_8) (by omega) (by omega)) b41_24
