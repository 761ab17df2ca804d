/-! printed by wip/gen/x1.py: contracts, walked row by row -/
theorem in_X1_copySamples_X1 : ∀ w ∈ wsX10, w ∈ wsX1_copySamples := by decide +kernel
theorem in_X1_isPair_X1 : ∀ w ∈ wsX10, w ∈ wsX1_isPair := by decide +kernel
theorem in_X1_mixInto_X1 : ∀ w ∈ wsX10, w ∈ wsX1_mixInto := by decide +kernel
theorem in_X1_samplesLost_X1 : ∀ w ∈ wsX10, w ∈ wsX1_samplesLost := by decide +kernel
theorem in_X1_setSample_X1 : ∀ w ∈ wsX10, w ∈ wsX1_setSample := by decide +kernel
theorem in_X1_sumAt_X1 : ∀ w ∈ wsX10, w ∈ wsX1_sumAt := by decide +kernel
set_option maxHeartbeats 4000000 in
set_option maxRecDepth 100000 in
theorem c_X1_setSample (lc : Launch) (G : nwG) (a : Nat → Nat) (M : Nat → Nat → Int32) (li i v : Int32)  : nwCi lc G yX1_setSample wsX1_setSample ({ frames := 1, cells := 0, slots := 0, locals := 22 } : Room) [.ref (a 0), .int (li), .int (i), .int (v)] ((wL G (a) (M))) (fun r w => r = nwIf (sampOk li i v) 1 (-2) ∧ w = wL G a (nwIf (sampOk li i v) (nwU2 M li.toNatClampNeg i.toNatClampNeg v) M)) := by
  refine nw_of (cc := cX1_setSample) (maxL := 4) (ret := (some .int)) (by decide) rfl (Nat.le_of_ble_eq_true rfl) ?_
  intro vp ve vs vm vb vt vc vA ls X hP hD hA hS hl
  have X : nwAt vp vm vc cX1_setSample 4 vs _ wsX1_setSample RX1 vt (some .int) "setSample" G := X
  have hx := X.1.1
  have hb := X.1.2.1
  have hown := X.1.2.2.2.1
  have hts := X.1.2.2.2.2
  have hK := X.2.2.2.2
  have hl : lv_has ls 4 [(0, .ref (a 0)), (1, .int (li)), (2, .int (i)), (3, .int (v))] := hl
  refine lv_iload_n hx hb dX1_setSample_0 rfl (lv_at hl 1 rfl) ?_
  refine lv_iconst (v := (0)) hx hb dX1_setSample_1 (by decide) ?_
  refine lv_iconst (v := (1)) hx hb dX1_setSample_2 (by decide) ?_
  refine nw_Ni (As := [.int (li), .int (0), .int (1)]) (rest := []) X (c_X6_outside lc G ((li)) ((0 : Int32)) ((1 : Int32)) ) (va_cnB 3 hts ggX1_setSample_X6_outside rfl rfl rfl (hK.nest 5 rfl) (hts (.initialized RX6) (List.mem_of_getElem? (i := 4) rfl)) (by decide +kernel) ⟨Nat.le_of_ble_eq_true rfl, Nat.le_of_ble_eq_true rfl⟩) (hts (.static yX6_outside) (List.mem_of_getElem? (i := 3) rfl)) (fun _ _ h => h.2) hP hD hS hA rfl hl.1 rfl (Nat.le_of_ble_eq_true rfl) dX1_setSample_3 ⟨Nat.le_of_ble_eq_true rfl, Nat.le_of_ble_eq_true rfl⟩ (fun r H locs hp_1 hP hD hS => ?_)
  obtain ⟨⟨rfl, q_2⟩ | ⟨rfl, q_2⟩, -⟩ := hp_1
  · skip
    have q_2 : out ((li)) ((0 : Int32)) ((1 : Int32)) := q_2
    refine lv_if_ne (tgt := 19) hx hb dX1_setSample_6 (by decide) (fun _ => ?_) (fun c9 => absurd c9 (by decide))
    refine lv_bipush (v := (-2)) hx hb dX1_setSample_19 (by decide) ?_
    exact nw_iret (rm := ({ frames := 1, cells := 0, slots := 0, locals := 22 } : Room)) X hP hD hS (by simp only [sampOk, nwIf_T, nwIf_F, or_true, true_or, or_false, false_or, and_true, true_and, and_false, false_and, not_true_eq_false, not_false_eq_true, Nat.add_sub_cancel, q_2]) dX1_setSample_21
  · skip
    have q_2 : ¬ out ((li)) ((0 : Int32)) ((1 : Int32)) := q_2
    obtain ⟨z_4, hz_5, he_6⟩ := nw_le (n := 1) rfl (by decide) q_2
    have ec_7 := nw_clamp he_6 (by omega)
    refine lv_if_ne (tgt := 19) hx hb dX1_setSample_6 (by decide) (fun c9 => absurd c9 (by decide)) (fun _ => ?_)
    refine lv_iload_n hx hb dX1_setSample_9 rfl (lv_at hl 2 rfl) ?_
    refine lv_iconst (v := (0)) hx hb dX1_setSample_10 (by decide) ?_
    refine lv_bipush (v := (63)) hx hb dX1_setSample_11 (by decide) ?_
    refine nw_Ni (As := [.int (i), .int (0), .int (63)]) (rest := []) X (c_X6_outside lc G ((i)) ((0 : Int32)) ((63 : Int32)) ) (va_cnB 3 hts ggX1_setSample_X6_outside rfl rfl rfl (hK.nest 5 rfl) (hts (.initialized RX6) (List.mem_of_getElem? (i := 4) rfl)) (by decide +kernel) ⟨Nat.le_of_ble_eq_true rfl, Nat.le_of_ble_eq_true rfl⟩) (hts (.static yX6_outside) (List.mem_of_getElem? (i := 3) rfl)) (fun _ _ h => h.2) hP hD hS hA rfl hl.1 rfl (Nat.le_of_ble_eq_true rfl) dX1_setSample_13 ⟨Nat.le_of_ble_eq_true rfl, Nat.le_of_ble_eq_true rfl⟩ (fun r H locs hp_9 hP hD hS => ?_)
    obtain ⟨⟨rfl, q_10⟩ | ⟨rfl, q_10⟩, -⟩ := hp_9
    · skip
      have q_10 : out ((i)) ((0 : Int32)) ((63 : Int32)) := q_10
      refine lv_if_eq (tgt := 22) hx hb dX1_setSample_16 (by decide) (fun c9 => absurd c9 (by decide)) (fun _ => ?_)
      refine lv_bipush (v := (-2)) hx hb dX1_setSample_19 (by decide) ?_
      exact nw_iret (rm := ({ frames := 1, cells := 0, slots := 0, locals := 22 } : Room)) X hP hD hS (by simp only [sampOk, nwIf_T, nwIf_F, or_true, true_or, or_false, false_or, and_true, true_and, and_false, false_and, not_true_eq_false, not_false_eq_true, Nat.add_sub_cancel, q_2, ec_7, q_10]) dX1_setSample_21
    · skip
      have q_10 : ¬ out ((i)) ((0 : Int32)) ((63 : Int32)) := q_10
      obtain ⟨z_12, hz_13, he_14⟩ := nw_le (n := 63) rfl (by decide) q_10
      have ec_15 := nw_clamp he_14 (by omega)
      refine lv_if_eq (tgt := 22) hx hb dX1_setSample_16 (by decide) (fun _ => ?_) (fun c9 => absurd (by decide) c9)
      refine lv_iload_n hx hb dX1_setSample_22 rfl (lv_at hl 3 rfl) ?_
      refine lv_ldc (own := RX1) (v := (-2000000000)) hx hb hown (hts (.constant RX1 20 (-2000000000)) (List.mem_of_getElem? (i := 1) rfl)) dX1_setSample_23 ?_
      refine lv_icmp_eq (tgt := 44) hx hb dX1_setSample_25 (by decide) (fun b25_17 => ?_) (fun b25_17 => ?_)
      · skip
        have b25_17 : (v) = (-2000000000 : Int32) := b25_17
        refine lv_aload_n hx hb dX1_setSample_44 rfl (lv_at hl 0 rfl) ?_
        refine va_get (D := G.1) (ci := 1) (v := .ref (a 1)) (C := RX1) (T := TX1) (N := 1) hx hb hts in_X1_setSample_X1 hown hK.1 hP 0 rfl rfl 0 (by decide) (hts (.fieldLink RX1 13 "NightWater$Listeners" "rows" "[[I") (List.mem_of_getElem? (i := 2) rfl)) (fun _ h9 => h9) rfl dX1_setSample_45 ?_
        refine lv_iload_n hx hb dX1_setSample_48 rfl (lv_at hl 1 rfl) ?_
        refine nw_aald X hP 1 rfl (z_4) he_6 (by omega) (by decide) dX1_setSample_49 ?_
        show W _ _ _ _ _ _ _ _ _ _ _ _ _ _ _ (F0 vm _ ls (.ref (a (2 + z_4)) :: _))
        refine lv_iload_n hx hb dX1_setSample_50 rfl (lv_at hl 2 rfl) ?_
        refine lv_iload_n hx hb dX1_setSample_51 rfl (lv_at hl 3 rfl) ?_
        refine nw_rast (X0 := _) (r := fun i => a (2 + i)) (N := 2) (n := 64) (M := M) X hP hD hS (z_4) (by omega) (z_12) he_14 (by omega) (by decide) dX1_setSample_52 (fun H locs hP hD hS => ?_)
        have hP : va_P G.1 vwCl ((wL G (a) (nwU2 (M) (z_4) (z_12) (v)))) H := hP
        have hD : va_D vA ((wL G (a) (nwU2 (M) (z_4) (z_12) (v)))) := hD
        refine lv_iconst (v := (1)) hx hb dX1_setSample_53 (by decide) ?_
        exact nw_iret (rm := ({ frames := 1, cells := 0, slots := 0, locals := 22 } : Room)) X hP hD hS (by simp only [sampOk, nwIf_T, nwIf_F, or_true, true_or, or_false, false_or, and_true, true_and, and_false, false_and, not_true_eq_false, not_false_eq_true, Nat.add_sub_cancel, q_2, ec_7, q_10, ec_15, eq_true b25_17]) dX1_setSample_54
      · skip
        have b25_17 : ¬ ((v) = (-2000000000 : Int32)) := b25_17
        refine lv_iload_n hx hb dX1_setSample_28 rfl (lv_at hl 3 rfl) ?_
        refine lv_sipush (v := (-1000)) hx hb dX1_setSample_29 (by decide) ?_
        refine lv_sipush (v := (1000)) hx hb dX1_setSample_32 (by decide) ?_
        refine nw_Ni (As := [.int (v), .int (-1000), .int (1000)]) (rest := []) X (c_X6_outside lc G ((v)) ((-1000 : Int32)) ((1000 : Int32)) ) (va_cnB 3 hts ggX1_setSample_X6_outside rfl rfl rfl (hK.nest 5 rfl) (hts (.initialized RX6) (List.mem_of_getElem? (i := 4) rfl)) (by decide +kernel) ⟨Nat.le_of_ble_eq_true rfl, Nat.le_of_ble_eq_true rfl⟩) (hts (.static yX6_outside) (List.mem_of_getElem? (i := 3) rfl)) (fun _ _ h => h.2) hP hD hS hA rfl hl.1 rfl (Nat.le_of_ble_eq_true rfl) dX1_setSample_35 ⟨Nat.le_of_ble_eq_true rfl, Nat.le_of_ble_eq_true rfl⟩ (fun r H locs hp_18 hP hD hS => ?_)
        obtain ⟨⟨rfl, q_19⟩ | ⟨rfl, q_19⟩, -⟩ := hp_18
        · skip
          have q_19 : out ((v)) ((-1000 : Int32)) ((1000 : Int32)) := q_19
          refine lv_if_eq (tgt := 44) hx hb dX1_setSample_38 (by decide) (fun c9 => absurd c9 (by decide)) (fun _ => ?_)
          refine lv_bipush (v := (-2)) hx hb dX1_setSample_41 (by decide) ?_
          exact nw_iret (rm := ({ frames := 1, cells := 0, slots := 0, locals := 22 } : Room)) X hP hD hS (by simp only [sampOk, nwIf_T, nwIf_F, or_true, true_or, or_false, false_or, and_true, true_and, and_false, false_and, not_true_eq_false, not_false_eq_true, Nat.add_sub_cancel, q_2, ec_7, q_10, ec_15, b25_17, q_19]) dX1_setSample_43
        · skip
          have q_19 : ¬ out ((v)) ((-1000 : Int32)) ((1000 : Int32)) := q_19
          refine lv_if_eq (tgt := 44) hx hb dX1_setSample_38 (by decide) (fun _ => ?_) (fun c9 => absurd (by decide) c9)
          refine lv_aload_n hx hb dX1_setSample_44 rfl (lv_at hl 0 rfl) ?_
          refine va_get (D := G.1) (ci := 1) (v := .ref (a 1)) (C := RX1) (T := TX1) (N := 1) hx hb hts in_X1_setSample_X1 hown hK.1 hP 0 rfl rfl 0 (by decide) (hts (.fieldLink RX1 13 "NightWater$Listeners" "rows" "[[I") (List.mem_of_getElem? (i := 2) rfl)) (fun _ h9 => h9) rfl dX1_setSample_45 ?_
          refine lv_iload_n hx hb dX1_setSample_48 rfl (lv_at hl 1 rfl) ?_
          refine nw_aald X hP 1 rfl (z_4) he_6 (by omega) (by decide) dX1_setSample_49 ?_
          show W _ _ _ _ _ _ _ _ _ _ _ _ _ _ _ (F0 vm _ ls (.ref (a (2 + z_4)) :: _))
          refine lv_iload_n hx hb dX1_setSample_50 rfl (lv_at hl 2 rfl) ?_
          refine lv_iload_n hx hb dX1_setSample_51 rfl (lv_at hl 3 rfl) ?_
          refine nw_rast (X0 := _) (r := fun i => a (2 + i)) (N := 2) (n := 64) (M := M) X hP hD hS (z_4) (by omega) (z_12) he_14 (by omega) (by decide) dX1_setSample_52 (fun H locs hP hD hS => ?_)
          have hP : va_P G.1 vwCl ((wL G (a) (nwU2 (M) (z_4) (z_12) (v)))) H := hP
          have hD : va_D vA ((wL G (a) (nwU2 (M) (z_4) (z_12) (v)))) := hD
          refine lv_iconst (v := (1)) hx hb dX1_setSample_53 (by decide) ?_
          exact nw_iret (rm := ({ frames := 1, cells := 0, slots := 0, locals := 22 } : Room)) X hP hD hS (by simp only [sampOk, nwIf_T, nwIf_F, or_true, true_or, or_false, false_or, and_true, true_and, and_false, false_and, not_true_eq_false, not_false_eq_true, Nat.add_sub_cancel, q_2, ec_7, q_10, ec_15, b25_17, q_19]) dX1_setSample_54
set_option maxHeartbeats 4000000 in
set_option maxRecDepth 100000 in
theorem c_X1_isPair (lc : Launch) (G : nwG) (a : Nat → Nat) (M : Nat → Nat → Int32) (i : Nat) (j : Int32) (hi : i < 64) : nwCi lc G yX1_isPair wsX1_isPair ({ frames := 1, cells := 0, slots := 0, locals := 22 } : Room) [.ref (a 0), .int (nI (i)), .int (j)] ((wL G (a) (M))) (fun r w => ((r = 1 ∧ (¬ out j 0 63 ∧ ¬ M 0 i = -2000000000 ∧ ¬ M 1 j.toNatClampNeg = -2000000000)) ∨ (r = 0 ∧ ¬ (¬ out j 0 63 ∧ ¬ M 0 i = -2000000000 ∧ ¬ M 1 j.toNatClampNeg = -2000000000))) ∧ w = wL G a M) := by
  refine nw_of (cc := cX1_isPair) (maxL := 3) (ret := (some .boolean)) (by decide) rfl (Nat.le_of_ble_eq_true rfl) ?_
  intro vp ve vs vm vb vt vc vA ls X hP hD hA hS hl
  have X : nwAt vp vm vc cX1_isPair 3 vs _ wsX1_isPair RX1 vt (some .boolean) "isPair" G := X
  have hx := X.1.1
  have hb := X.1.2.1
  have hown := X.1.2.2.2.1
  have hts := X.1.2.2.2.2
  have hK := X.2.2.2.2
  have hl : lv_has ls 3 [(0, .ref (a 0)), (1, .int (nI (i))), (2, .int (j))] := hl
  refine lv_iload_n hx hb dX1_isPair_0 rfl (lv_at hl 1 rfl) ?_
  refine lv_iconst (v := (0)) hx hb dX1_isPair_1 (by decide) ?_
  refine lv_bipush (v := (63)) hx hb dX1_isPair_2 (by decide) ?_
  refine nw_Ni (As := [.int (nI (i)), .int (0), .int (63)]) (rest := []) X (c_X6_outside lc G ((nI (i))) ((0 : Int32)) ((63 : Int32)) ) (va_cnB 3 hts ggX1_isPair_X6_outside rfl rfl rfl (hK.nest 5 rfl) (hts (.initialized RX6) (List.mem_of_getElem? (i := 4) rfl)) (by decide +kernel) ⟨Nat.le_of_ble_eq_true rfl, Nat.le_of_ble_eq_true rfl⟩) (hts (.static yX6_outside) (List.mem_of_getElem? (i := 3) rfl)) (fun _ _ h => h.2) hP hD hS hA rfl hl.1 rfl (Nat.le_of_ble_eq_true rfl) dX1_isPair_4 ⟨Nat.le_of_ble_eq_true rfl, Nat.le_of_ble_eq_true rfl⟩ (fun r H locs hp_1 hP hD hS => ?_)
  obtain ⟨⟨rfl, q_2⟩ | ⟨rfl, q_2⟩, -⟩ := hp_1
  · skip
    have q_2 : out ((nI (i))) ((0 : Int32)) ((63 : Int32)) := q_2
    exact absurd q_2 (nw_in63 hi)
  · skip
    have q_2 : ¬ out ((nI (i))) ((0 : Int32)) ((63 : Int32)) := q_2
    refine lv_if_ne (tgt := 50) hx hb dX1_isPair_7 (by decide) (fun c9 => absurd c9 (by decide)) (fun _ => ?_)
    refine lv_iload_n hx hb dX1_isPair_10 rfl (lv_at hl 2 rfl) ?_
    refine lv_iconst (v := (0)) hx hb dX1_isPair_11 (by decide) ?_
    refine lv_bipush (v := (63)) hx hb dX1_isPair_12 (by decide) ?_
    refine nw_Ni (As := [.int (j), .int (0), .int (63)]) (rest := []) X (c_X6_outside lc G ((j)) ((0 : Int32)) ((63 : Int32)) ) (va_cnB 3 hts ggX1_isPair_X6_outside rfl rfl rfl (hK.nest 5 rfl) (hts (.initialized RX6) (List.mem_of_getElem? (i := 4) rfl)) (by decide +kernel) ⟨Nat.le_of_ble_eq_true rfl, Nat.le_of_ble_eq_true rfl⟩) (hts (.static yX6_outside) (List.mem_of_getElem? (i := 3) rfl)) (fun _ _ h => h.2) hP hD hS hA rfl hl.1 rfl (Nat.le_of_ble_eq_true rfl) dX1_isPair_14 ⟨Nat.le_of_ble_eq_true rfl, Nat.le_of_ble_eq_true rfl⟩ (fun r H locs hp_4 hP hD hS => ?_)
    obtain ⟨⟨rfl, q_5⟩ | ⟨rfl, q_5⟩, -⟩ := hp_4
    · skip
      have q_5 : out ((j)) ((0 : Int32)) ((63 : Int32)) := q_5
      refine lv_if_ne (tgt := 50) hx hb dX1_isPair_17 (by decide) (fun _ => ?_) (fun c9 => absurd c9 (by decide))
      refine lv_iconst (v := (0)) hx hb dX1_isPair_50 (by decide) ?_
      exact nw_zret (rm := ({ frames := 1, cells := 0, slots := 0, locals := 22 } : Room)) X (by decide) hP hD hS (⟨Or.inr ⟨rfl, by simp only [nwIf_T, nwIf_F, or_true, true_or, or_false, false_or, and_true, true_and, and_false, false_and, not_true_eq_false, not_false_eq_true, Nat.add_sub_cancel, q_2, q_5]⟩, rfl⟩) dX1_isPair_51
    · skip
      have q_5 : ¬ out ((j)) ((0 : Int32)) ((63 : Int32)) := q_5
      obtain ⟨z_7, hz_8, he_9⟩ := nw_le (n := 63) rfl (by decide) q_5
      have ec_10 := nw_clamp he_9 (by omega)
      refine lv_if_ne (tgt := 50) hx hb dX1_isPair_17 (by decide) (fun c9 => absurd c9 (by decide)) (fun _ => ?_)
      refine lv_aload_n hx hb dX1_isPair_20 rfl (lv_at hl 0 rfl) ?_
      refine va_get (D := G.1) (ci := 1) (v := .ref (a 1)) (C := RX1) (T := TX1) (N := 1) hx hb hts in_X1_isPair_X1 hown hK.1 hP 0 rfl rfl 0 (by decide) (hts (.fieldLink RX1 13 "NightWater$Listeners" "rows" "[[I") (List.mem_of_getElem? (i := 1) rfl)) (fun _ h9 => h9) rfl dX1_isPair_21 ?_
      refine lv_iconst (v := (0)) hx hb dX1_isPair_24 (by decide) ?_
      refine nw_aald X hP 1 rfl (0) rfl (by omega) (by decide) dX1_isPair_25 ?_
      show W _ _ _ _ _ _ _ _ _ _ _ _ _ _ _ (F0 vm _ ls (.ref (a (2 + 0)) :: _))
      refine lv_iload_n hx hb dX1_isPair_26 rfl (lv_at hl 1 rfl) ?_
      refine nw_rald (X0 := _) (r := fun i => a (2 + i)) (N := 2) (n := 64) (M := M) X hP (0) (by omega) (i) rfl (by omega) (by decide) dX1_isPair_27 ?_
      refine lv_ldc (own := RX1) (v := (-2000000000)) hx hb hown (hts (.constant RX1 20 (-2000000000)) (List.mem_of_getElem? (i := 2) rfl)) dX1_isPair_28 ?_
      refine lv_icmp_eq (tgt := 50) hx hb dX1_isPair_30 (by decide) (fun b30_12 => ?_) (fun b30_12 => ?_)
      · skip
        have b30_12 : (M (0) (i)) = (-2000000000 : Int32) := b30_12
        refine lv_iconst (v := (0)) hx hb dX1_isPair_50 (by decide) ?_
        exact nw_zret (rm := ({ frames := 1, cells := 0, slots := 0, locals := 22 } : Room)) X (by decide) hP hD hS (⟨Or.inr ⟨rfl, by simp only [nwIf_T, nwIf_F, or_true, true_or, or_false, false_or, and_true, true_and, and_false, false_and, not_true_eq_false, not_false_eq_true, Nat.add_sub_cancel, q_2, q_5, ec_10, eq_true b30_12]⟩, rfl⟩) dX1_isPair_51
      · skip
        have b30_12 : ¬ ((M (0) (i)) = (-2000000000 : Int32)) := b30_12
        refine lv_aload_n hx hb dX1_isPair_33 rfl (lv_at hl 0 rfl) ?_
        refine va_get (D := G.1) (ci := 1) (v := .ref (a 1)) (C := RX1) (T := TX1) (N := 1) hx hb hts in_X1_isPair_X1 hown hK.1 hP 0 rfl rfl 0 (by decide) (hts (.fieldLink RX1 13 "NightWater$Listeners" "rows" "[[I") (List.mem_of_getElem? (i := 1) rfl)) (fun _ h9 => h9) rfl dX1_isPair_34 ?_
        refine lv_iconst (v := (1)) hx hb dX1_isPair_37 (by decide) ?_
        refine nw_aald X hP 1 rfl (1) rfl (by omega) (by decide) dX1_isPair_38 ?_
        show W _ _ _ _ _ _ _ _ _ _ _ _ _ _ _ (F0 vm _ ls (.ref (a (2 + 1)) :: _))
        refine lv_iload_n hx hb dX1_isPair_39 rfl (lv_at hl 2 rfl) ?_
        refine nw_rald (X0 := _) (r := fun i => a (2 + i)) (N := 2) (n := 64) (M := M) X hP (1) (by omega) (z_7) he_9 (by omega) (by decide) dX1_isPair_40 ?_
        refine lv_ldc (own := RX1) (v := (-2000000000)) hx hb hown (hts (.constant RX1 20 (-2000000000)) (List.mem_of_getElem? (i := 2) rfl)) dX1_isPair_41 ?_
        refine lv_icmp_eq (tgt := 50) hx hb dX1_isPair_43 (by decide) (fun b43_13 => ?_) (fun b43_13 => ?_)
        · skip
          have b43_13 : (M (1) (z_7)) = (-2000000000 : Int32) := b43_13
          refine lv_iconst (v := (0)) hx hb dX1_isPair_50 (by decide) ?_
          exact nw_zret (rm := ({ frames := 1, cells := 0, slots := 0, locals := 22 } : Room)) X (by decide) hP hD hS (⟨Or.inr ⟨rfl, by simp only [nwIf_T, nwIf_F, or_true, true_or, or_false, false_or, and_true, true_and, and_false, false_and, not_true_eq_false, not_false_eq_true, Nat.add_sub_cancel, q_2, q_5, ec_10, b30_12, eq_true b43_13]⟩, rfl⟩) dX1_isPair_51
        · skip
          have b43_13 : ¬ ((M (1) (z_7)) = (-2000000000 : Int32)) := b43_13
          refine lv_iconst (v := (1)) hx hb dX1_isPair_46 (by decide) ?_
          refine lv_goto (tgt := 51) hx hb dX1_isPair_47 (by decide) ?_
          exact nw_zret (rm := ({ frames := 1, cells := 0, slots := 0, locals := 22 } : Room)) X (by decide) hP hD hS (⟨Or.inl ⟨rfl, by simp only [nwIf_T, nwIf_F, or_true, true_or, or_false, false_or, and_true, true_and, and_false, false_and, not_true_eq_false, not_false_eq_true, Nat.add_sub_cancel, q_2, q_5, ec_10, b30_12, b43_13]⟩, rfl⟩) dX1_isPair_51
set_option maxHeartbeats 4000000 in
set_option maxRecDepth 100000 in
theorem c_X1_sumAt (lc : Launch) (G : nwG) (a : Nat → Nat) (M : Nat → Nat → Int32) (d : Int32)  : nwCi lc G yX1_sumAt wsX1_sumAt ({ frames := 2, cells := 0, slots := 0, locals := 44 } : Room) [.ref (a 0), .int (d)] ((wL G (a) (M))) (fun r w => r = sumF (M 0) (M 1) d 64 ∧ w = wL G a M) := by
  refine nw_of (cc := cX1_sumAt) (maxL := 4) (ret := (some .int)) (by decide) rfl (Nat.le_of_ble_eq_true rfl) ?_
  intro vp ve vs vm vb vt vc vA ls X hP hD hA hS hl
  have X : nwAt vp vm vc cX1_sumAt 4 vs _ wsX1_sumAt RX1 vt (some .int) "sumAt" G := X
  have hx := X.1.1
  have hb := X.1.2.1
  have hown := X.1.2.2.2.1
  have hts := X.1.2.2.2.2
  have hK := X.2.2.2.2
  have hl : lv_has ls 4 [(0, .ref (a 0)), (1, .int (d))] := hl
  refine lv_iconst (v := (0)) hx hb dX1_sumAt_0 (by decide) ?_
  refine lv_istore_n (lv' := [(2, .int (0)), (0, .ref (a 0)), (1, .int (d))]) hx hb dX1_sumAt_1 rfl hl (by decide) rfl (fun ls hl => ?_)
  refine lv_iconst (v := (0)) hx hb dX1_sumAt_2 (by decide) ?_
  refine lv_istore_n (lv' := [(3, .int (0)), (2, .int (0)), (0, .ref (a 0)), (1, .int (d))]) hx hb dX1_sumAt_3 rfl hl (by decide) rfl (fun ls hl => ?_)
  have K4 : ∀ (fuel : Nat) (i : Nat) (x2 : Int32) (H : Heap) (locs : List Loc) (ls : Array Slot), (65 - i) < fuel → (i ≤ 64) → (x2 = sumF (M 0) (M 1) d i) → lv_has ls 4 [(3, .int (nI (i))), (2, .int (x2)), (0, .ref (a 0)), (1, .int (d))] → va_P G.1 vwCl ((wL G (a) (M))) H → va_D vA ((wL G (a) (M))) → va_S vA vs.heap H locs → W vp lc ve ({ frames := 2, cells := 0, slots := 0, locals := 44 } : Room) vs vm ([.ref (a 0), .int (d)] : List Value).toArray vb vt vc H locs 0 0 (MQ vb (nwQi G (fun r w => r = sumF (M 0) (M 1) d 64 ∧ w = wL G a M) vA) ([.ref (a 0), .int (d)] : List Value).toArray vs ({ frames := 2, cells := 0, slots := 0, locals := 44 } : Room).cells ({ frames := 2, cells := 0, slots := 0, locals := 44 } : Room).slots vA) (F0 vm 4 ls []) := by
    intro fuel
    induction fuel with
    | zero => intro i x2 H locs ls hmu; exact absurd hmu (Nat.not_lt_zero _)
    | succ fuel ih4 =>
      intro i x2 H locs ls hmu hi e2 hl hP hD hS
      refine lv_iload_n hx hb dX1_sumAt_4 rfl (lv_at hl 0 rfl) ?_
      refine lv_bipush (v := (64)) hx hb dX1_sumAt_5 (by decide) ?_
      refine lv_icmp_ge (tgt := 49) hx hb dX1_sumAt_7 (by decide) (fun b7_1 => ?_) (fun b7_1 => ?_)
      · skip
        have b7_1 : (64) ≤ (i) := (nI_leI (a := 64) (b := i) (by omega) (by omega)).mp b7_1
        have b7_1n : ¬ ((i) < (64)) := by omega
        refine lv_iload_n hx hb dX1_sumAt_49 rfl (lv_at hl 1 rfl) ?_
        exact nw_iret (rm := ({ frames := 2, cells := 0, slots := 0, locals := 44 } : Room)) X hP hD hS (⟨e2.trans (by rw [show i = 64 by omega]), rfl⟩) dX1_sumAt_50
      · skip
        have b7_1 : ¬ ((64) ≤ (i)) := fun h => b7_1 ((nI_leI (a := 64) (b := i) (by omega) (by omega)).mpr h)
        have b7_1n : (i) < (64) := by omega
        refine lv_aload_n hx hb dX1_sumAt_10 rfl (lv_at hl 2 rfl) ?_
        refine lv_iload_n hx hb dX1_sumAt_11 rfl (lv_at hl 0 rfl) ?_
        refine lv_iload_n hx hb dX1_sumAt_12 rfl (lv_at hl 0 rfl) ?_
        refine lv_iload_n hx hb dX1_sumAt_13 rfl (lv_at hl 3 rfl) ?_
        refine lv_iadd hx hb dX1_sumAt_14 ?_
        refine nw_st (st' := [.int ((nI (i)) + (d)), .int (nI (i)), .ref (a 0)]) (by rfl) ?_
        refine nw_Vi (As := [.int (nI (i)), .int ((nI (i)) + (d))]) (rest := []) (q0 := 0) X (c_X1_isPair lc G (a) (M) (i) (((nI (i)) + (d))) (by first | assumption | omega)) (cwV 2 hts gX1_sumAt_X1_isPair rfl rfl rfl (by decide +kernel) ⟨Nat.le_of_ble_eq_true rfl, Nat.le_of_ble_eq_true rfl⟩) rfl (show vwCl[1]? = some (RX1, TX1, 1) from rfl) (nwSp.all ((wL G (a) (M)))) hP hD hS hA rfl hl.1 rfl (Nat.le_of_ble_eq_true rfl) dX1_sumAt_15 ⟨Nat.le_of_ble_eq_true rfl, Nat.le_of_ble_eq_true rfl⟩ (fun r w H locs hp_2 hP hD hS => ?_)
        obtain ⟨⟨rfl, q_3⟩ | ⟨rfl, q_3⟩, rfl⟩ := hp_2
        · skip
          have hP : va_P G.1 vwCl ((wL G (a) (M))) H := hP
          have hD : va_D vA ((wL G (a) (M))) := hD
          have q_3 : ¬ out (((nI (i)) + (d))) 0 63 ∧ ¬ (M) 0 (i) = -2000000000 ∧ ¬ (M) 1 ((((nI (i)) + (d)))).toNatClampNeg = -2000000000 := q_3
          have q_3 : pairF (M 0) (M 1) i d := q_3
          obtain ⟨j_4, hj_5, he_6⟩ := nw_le (n := 63) rfl (by decide) q_3.1
          have ec_7 := nw_clamp he_6 (by omega)
          refine lv_if_eq (tgt := 43) hx hb dX1_sumAt_18 (by decide) (fun c9 => absurd c9 (by decide)) (fun _ => ?_)
          refine lv_iload_n hx hb dX1_sumAt_21 rfl (lv_at hl 1 rfl) ?_
          refine lv_aload_n hx hb dX1_sumAt_22 rfl (lv_at hl 2 rfl) ?_
          refine va_get (D := G.1) (ci := 1) (v := .ref (a 1)) (C := RX1) (T := TX1) (N := 1) hx hb hts in_X1_sumAt_X1 hown hK.1 hP 0 rfl rfl 0 (by decide) (hts (.fieldLink RX1 13 "NightWater$Listeners" "rows" "[[I") (List.mem_of_getElem? (i := 1) rfl)) (fun _ h9 => h9) rfl dX1_sumAt_23 ?_
          refine lv_iconst (v := (0)) hx hb dX1_sumAt_26 (by decide) ?_
          refine nw_aald X hP 1 rfl (0) rfl (by omega) (by decide) dX1_sumAt_27 ?_
          show W _ _ _ _ _ _ _ _ _ _ _ _ _ _ _ (F0 vm _ ls (.ref (a (2 + 0)) :: _))
          refine lv_iload_n hx hb dX1_sumAt_28 rfl (lv_at hl 0 rfl) ?_
          refine nw_rald (X0 := _) (r := fun i => a (2 + i)) (N := 2) (n := 64) (M := M) X hP (0) (by omega) (i) rfl (by omega) (by decide) dX1_sumAt_29 ?_
          refine lv_aload_n hx hb dX1_sumAt_30 rfl (lv_at hl 2 rfl) ?_
          refine va_get (D := G.1) (ci := 1) (v := .ref (a 1)) (C := RX1) (T := TX1) (N := 1) hx hb hts in_X1_sumAt_X1 hown hK.1 hP 0 rfl rfl 0 (by decide) (hts (.fieldLink RX1 13 "NightWater$Listeners" "rows" "[[I") (List.mem_of_getElem? (i := 1) rfl)) (fun _ h9 => h9) rfl dX1_sumAt_31 ?_
          refine lv_iconst (v := (1)) hx hb dX1_sumAt_34 (by decide) ?_
          refine nw_aald X hP 1 rfl (1) rfl (by omega) (by decide) dX1_sumAt_35 ?_
          show W _ _ _ _ _ _ _ _ _ _ _ _ _ _ _ (F0 vm _ ls (.ref (a (2 + 1)) :: _))
          refine lv_iload_n hx hb dX1_sumAt_36 rfl (lv_at hl 0 rfl) ?_
          refine lv_iload_n hx hb dX1_sumAt_37 rfl (lv_at hl 3 rfl) ?_
          refine lv_iadd hx hb dX1_sumAt_38 ?_
          refine nw_rald (X0 := _) (r := fun i => a (2 + i)) (N := 2) (n := 64) (M := M) X hP (1) (by omega) (j_4) he_6 (by omega) (by decide) dX1_sumAt_39 ?_
          refine lv_imul hx hb dX1_sumAt_40 ?_
          refine lv_iadd hx hb dX1_sumAt_41 ?_
          refine lv_istore_n (lv' := [(2, .int ((x2) + ((M (0) (i)) * (M (1) (j_4))))), (3, .int (nI (i))), (0, .ref (a 0)), (1, .int (d))]) hx hb dX1_sumAt_42 rfl hl (by decide) rfl (fun ls hl => ?_)
          refine lv_iinc (v := (nI (i + 1))) (lv' := [(3, .int (nI (i + 1))), (2, .int ((x2) + ((M (0) (i)) * (M (1) (j_4))))), (0, .ref (a 0)), (1, .int (d))]) hx hb dX1_sumAt_43 hl (k := 1) rfl (by exact nI_add (i) 1) (by decide) rfl (fun ls hl => ?_)
          refine lv_goto (tgt := 4) hx hb dX1_sumAt_46 (by decide) ?_
          exact ih4 (i + 1) (((x2) + ((M (0) (i)) * (M (1) (j_4))))) _ _ _ (by omega) (by omega) (by rw [sumF_s, ← e2]; simp only [nwIf_T, nwIf_F, or_true, true_or, or_false, false_or, and_true, true_and, and_false, false_and, not_true_eq_false, not_false_eq_true, Nat.add_sub_cancel, b7_1n, b7_1, q_3, ec_7]) (lv_sub hl [0, 1, 2, 3] rfl) hP hD hS
        · skip
          have hP : va_P G.1 vwCl ((wL G (a) (M))) H := hP
          have hD : va_D vA ((wL G (a) (M))) := hD
          have q_3 : ¬ (¬ out (((nI (i)) + (d))) 0 63 ∧ ¬ (M) 0 (i) = -2000000000 ∧ ¬ (M) 1 ((((nI (i)) + (d)))).toNatClampNeg = -2000000000) := q_3
          have q_3 : ¬ pairF (M 0) (M 1) i d := q_3
          refine lv_if_eq (tgt := 43) hx hb dX1_sumAt_18 (by decide) (fun _ => ?_) (fun c9 => absurd (by decide) c9)
          refine lv_iinc (v := (nI (i + 1))) (lv' := [(3, .int (nI (i + 1))), (2, .int (x2)), (0, .ref (a 0)), (1, .int (d))]) hx hb dX1_sumAt_43 hl (k := 0) rfl (by exact nI_add (i) 1) (by decide) rfl (fun ls hl => ?_)
          refine lv_goto (tgt := 4) hx hb dX1_sumAt_46 (by decide) ?_
          exact ih4 (i + 1) ((x2)) _ _ _ (by omega) (by omega) (by rw [sumF_s, ← e2]; simp only [nwIf_T, nwIf_F, or_true, true_or, or_false, false_or, and_true, true_and, and_false, false_and, not_true_eq_false, not_false_eq_true, Nat.add_sub_cancel, b7_1n, b7_1, q_3]) (lv_sub hl [0, 1, 2, 3] rfl) hP hD hS
  exact K4 ((65 - (0)) + 1) (0) ((0 : Int32)) _ _ _ (Nat.lt_succ_self _) (by omega) (by rfl) (lv_sub hl [0, 1, 2, 3] rfl) hP hD hS
set_option maxHeartbeats 4000000 in
set_option maxRecDepth 100000 in
theorem c_X1_pairsAt (lc : Launch) (G : nwG) (a : Nat → Nat) (M : Nat → Nat → Int32) (d : Int32)  : nwCi lc G yX1_pairsAt wsX1_pairsAt ({ frames := 2, cells := 0, slots := 0, locals := 44 } : Room) [.ref (a 0), .int (d)] ((wL G (a) (M))) (fun r w => r = nI (cntF (M 0) (M 1) d 64) ∧ w = wL G a M) := by
  refine nw_of (cc := cX1_pairsAt) (maxL := 4) (ret := (some .int)) (by decide) rfl (Nat.le_of_ble_eq_true rfl) ?_
  intro vp ve vs vm vb vt vc vA ls X hP hD hA hS hl
  have X : nwAt vp vm vc cX1_pairsAt 4 vs _ wsX1_pairsAt RX1 vt (some .int) "pairsAt" G := X
  have hx := X.1.1
  have hb := X.1.2.1
  have hown := X.1.2.2.2.1
  have hts := X.1.2.2.2.2
  have hK := X.2.2.2.2
  have hl : lv_has ls 4 [(0, .ref (a 0)), (1, .int (d))] := hl
  refine lv_iconst (v := (0)) hx hb dX1_pairsAt_0 (by decide) ?_
  refine lv_istore_n (lv' := [(2, .int (0)), (0, .ref (a 0)), (1, .int (d))]) hx hb dX1_pairsAt_1 rfl hl (by decide) rfl (fun ls hl => ?_)
  refine lv_iconst (v := (0)) hx hb dX1_pairsAt_2 (by decide) ?_
  refine lv_istore_n (lv' := [(3, .int (0)), (2, .int (0)), (0, .ref (a 0)), (1, .int (d))]) hx hb dX1_pairsAt_3 rfl hl (by decide) rfl (fun ls hl => ?_)
  have K4 : ∀ (fuel : Nat) (i : Nat) (x2 : Nat) (H : Heap) (locs : List Loc) (ls : Array Slot), (65 - i) < fuel → (i ≤ 64) → (x2 = cntF (M 0) (M 1) d i) → lv_has ls 4 [(3, .int (nI (i))), (2, .int (nI (x2))), (0, .ref (a 0)), (1, .int (d))] → va_P G.1 vwCl ((wL G (a) (M))) H → va_D vA ((wL G (a) (M))) → va_S vA vs.heap H locs → W vp lc ve ({ frames := 2, cells := 0, slots := 0, locals := 44 } : Room) vs vm ([.ref (a 0), .int (d)] : List Value).toArray vb vt vc H locs 0 0 (MQ vb (nwQi G (fun r w => r = nI (cntF (M 0) (M 1) d 64) ∧ w = wL G a M) vA) ([.ref (a 0), .int (d)] : List Value).toArray vs ({ frames := 2, cells := 0, slots := 0, locals := 44 } : Room).cells ({ frames := 2, cells := 0, slots := 0, locals := 44 } : Room).slots vA) (F0 vm 4 ls []) := by
    intro fuel
    induction fuel with
    | zero => intro i x2 H locs ls hmu; exact absurd hmu (Nat.not_lt_zero _)
    | succ fuel ih4 =>
      intro i x2 H locs ls hmu hi e2 hl hP hD hS
      refine lv_iload_n hx hb dX1_pairsAt_4 rfl (lv_at hl 0 rfl) ?_
      refine lv_bipush (v := (64)) hx hb dX1_pairsAt_5 (by decide) ?_
      refine lv_icmp_ge (tgt := 30) hx hb dX1_pairsAt_7 (by decide) (fun b7_1 => ?_) (fun b7_1 => ?_)
      · skip
        have b7_1 : (64) ≤ (i) := (nI_leI (a := 64) (b := i) (by omega) (by omega)).mp b7_1
        have b7_1n : ¬ ((i) < (64)) := by omega
        refine lv_iload_n hx hb dX1_pairsAt_30 rfl (lv_at hl 1 rfl) ?_
        exact nw_iret (rm := ({ frames := 2, cells := 0, slots := 0, locals := 44 } : Room)) X hP hD hS (⟨by rw [e2, show i = 64 by omega], rfl⟩) dX1_pairsAt_31
      · skip
        have b7_1 : ¬ ((64) ≤ (i)) := fun h => b7_1 ((nI_leI (a := 64) (b := i) (by omega) (by omega)).mpr h)
        have b7_1n : (i) < (64) := by omega
        refine lv_aload_n hx hb dX1_pairsAt_10 rfl (lv_at hl 2 rfl) ?_
        refine lv_iload_n hx hb dX1_pairsAt_11 rfl (lv_at hl 0 rfl) ?_
        refine lv_iload_n hx hb dX1_pairsAt_12 rfl (lv_at hl 0 rfl) ?_
        refine lv_iload_n hx hb dX1_pairsAt_13 rfl (lv_at hl 3 rfl) ?_
        refine lv_iadd hx hb dX1_pairsAt_14 ?_
        refine nw_st (st' := [.int ((nI (i)) + (d)), .int (nI (i)), .ref (a 0)]) (by rfl) ?_
        refine nw_Vi (As := [.int (nI (i)), .int ((nI (i)) + (d))]) (rest := []) (q0 := 0) X (c_X1_isPair lc G (a) (M) (i) (((nI (i)) + (d))) (by first | assumption | omega)) (cwV 2 hts gX1_pairsAt_X1_isPair rfl rfl rfl (by decide +kernel) ⟨Nat.le_of_ble_eq_true rfl, Nat.le_of_ble_eq_true rfl⟩) rfl (show vwCl[1]? = some (RX1, TX1, 1) from rfl) (nwSp.all ((wL G (a) (M)))) hP hD hS hA rfl hl.1 rfl (Nat.le_of_ble_eq_true rfl) dX1_pairsAt_15 ⟨Nat.le_of_ble_eq_true rfl, Nat.le_of_ble_eq_true rfl⟩ (fun r w H locs hp_2 hP hD hS => ?_)
        obtain ⟨⟨rfl, q_3⟩ | ⟨rfl, q_3⟩, rfl⟩ := hp_2
        · skip
          have hP : va_P G.1 vwCl ((wL G (a) (M))) H := hP
          have hD : va_D vA ((wL G (a) (M))) := hD
          have q_3 : ¬ out (((nI (i)) + (d))) 0 63 ∧ ¬ (M) 0 (i) = -2000000000 ∧ ¬ (M) 1 ((((nI (i)) + (d)))).toNatClampNeg = -2000000000 := q_3
          have q_3 : pairF (M 0) (M 1) i d := q_3
          obtain ⟨j_4, hj_5, he_6⟩ := nw_le (n := 63) rfl (by decide) q_3.1
          have ec_7 := nw_clamp he_6 (by omega)
          refine lv_if_eq (tgt := 24) hx hb dX1_pairsAt_18 (by decide) (fun c9 => absurd c9 (by decide)) (fun _ => ?_)
          refine lv_iinc (v := (nI (x2 + 1))) (lv' := [(2, .int (nI (x2 + 1))), (3, .int (nI (i))), (0, .ref (a 0)), (1, .int (d))]) hx hb dX1_pairsAt_21 hl (k := 1) rfl (by exact nI_add (x2) 1) (by decide) rfl (fun ls hl => ?_)
          refine lv_iinc (v := (nI (i + 1))) (lv' := [(3, .int (nI (i + 1))), (2, .int (nI (x2 + 1))), (0, .ref (a 0)), (1, .int (d))]) hx hb dX1_pairsAt_24 hl (k := 1) rfl (by exact nI_add (i) 1) (by decide) rfl (fun ls hl => ?_)
          refine lv_goto (tgt := 4) hx hb dX1_pairsAt_27 (by decide) ?_
          exact ih4 (i + 1) (x2 + 1) _ _ _ (by omega) (by omega) (by rw [cntF_s, ← e2]; simp only [nwIf_T, nwIf_F, or_true, true_or, or_false, false_or, and_true, true_and, and_false, false_and, not_true_eq_false, not_false_eq_true, Nat.add_sub_cancel, b7_1n, b7_1, q_3, ec_7]) (lv_sub hl [0, 1, 2, 3] rfl) hP hD hS
        · skip
          have hP : va_P G.1 vwCl ((wL G (a) (M))) H := hP
          have hD : va_D vA ((wL G (a) (M))) := hD
          have q_3 : ¬ (¬ out (((nI (i)) + (d))) 0 63 ∧ ¬ (M) 0 (i) = -2000000000 ∧ ¬ (M) 1 ((((nI (i)) + (d)))).toNatClampNeg = -2000000000) := q_3
          have q_3 : ¬ pairF (M 0) (M 1) i d := q_3
          refine lv_if_eq (tgt := 24) hx hb dX1_pairsAt_18 (by decide) (fun _ => ?_) (fun c9 => absurd (by decide) c9)
          refine lv_iinc (v := (nI (i + 1))) (lv' := [(3, .int (nI (i + 1))), (2, .int (nI (x2))), (0, .ref (a 0)), (1, .int (d))]) hx hb dX1_pairsAt_24 hl (k := 0) rfl (by exact nI_add (i) 1) (by decide) rfl (fun ls hl => ?_)
          refine lv_goto (tgt := 4) hx hb dX1_pairsAt_27 (by decide) ?_
          exact ih4 (i + 1) (x2) _ _ _ (by omega) (by omega) (by rw [cntF_s, ← e2]; simp only [nwIf_T, nwIf_F, or_true, true_or, or_false, false_or, and_true, true_and, and_false, false_and, not_true_eq_false, not_false_eq_true, Nat.add_sub_cancel, b7_1n, b7_1, q_3]) (lv_sub hl [0, 1, 2, 3] rfl) hP hD hS
  exact K4 ((65 - (0)) + 1) (0) (0) _ _ _ (Nat.lt_succ_self _) (by omega) (by rfl) (lv_sub hl [0, 1, 2, 3] rfl) hP hD hS
set_option maxHeartbeats 4000000 in
set_option maxRecDepth 100000 in
theorem c_X1_sumPart (lc : Launch) (G : nwG) (a : Nat → Nat) (M : Nat → Nat → Int32) (d what : Int32)  : nwCi lc G yX1_sumPart wsX1_sumPart ({ frames := 3, cells := 0, slots := 0, locals := 67 } : Room) [.ref (a 0), .int (d), .int (what)] ((wL G (a) (M))) (fun r w => r = sumPF M d what ∧ w = wL G a M) := by
  refine nw_of (cc := cX1_sumPart) (maxL := 3) (ret := (some .int)) (by decide) rfl (Nat.le_of_ble_eq_true rfl) ?_
  intro vp ve vs vm vb vt vc vA ls X hP hD hA hS hl
  have X : nwAt vp vm vc cX1_sumPart 3 vs _ wsX1_sumPart RX1 vt (some .int) "sumPart" G := X
  have hx := X.1.1
  have hb := X.1.2.1
  have hown := X.1.2.2.2.1
  have hts := X.1.2.2.2.2
  have hK := X.2.2.2.2
  have hl : lv_has ls 3 [(0, .ref (a 0)), (1, .int (d)), (2, .int (what))] := hl
  refine lv_iload_n hx hb dX1_sumPart_0 rfl (lv_at hl 1 rfl) ?_
  refine lv_bipush (v := (-16)) hx hb dX1_sumPart_1 (by decide) ?_
  refine lv_bipush (v := (16)) hx hb dX1_sumPart_3 (by decide) ?_
  refine nw_Ni (As := [.int (d), .int (-16), .int (16)]) (rest := []) X (c_X6_outside lc G ((d)) ((-16 : Int32)) ((16 : Int32)) ) (va_cnB 3 hts ggX1_sumPart_X6_outside rfl rfl rfl (hK.nest 5 rfl) (hts (.initialized RX6) (List.mem_of_getElem? (i := 3) rfl)) (by decide +kernel) ⟨Nat.le_of_ble_eq_true rfl, Nat.le_of_ble_eq_true rfl⟩) (hts (.static yX6_outside) (List.mem_of_getElem? (i := 2) rfl)) (fun _ _ h => h.2) hP hD hS hA rfl hl.1 rfl (Nat.le_of_ble_eq_true rfl) dX1_sumPart_5 ⟨Nat.le_of_ble_eq_true rfl, Nat.le_of_ble_eq_true rfl⟩ (fun r H locs hp_1 hP hD hS => ?_)
  obtain ⟨⟨rfl, q_2⟩ | ⟨rfl, q_2⟩, -⟩ := hp_1
  · skip
    have q_2 : out ((d)) ((-16 : Int32)) ((16 : Int32)) := q_2
    refine lv_if_ne (tgt := 20) hx hb dX1_sumPart_8 (by decide) (fun _ => ?_) (fun c9 => absurd c9 (by decide))
    refine lv_ldc (own := RX1) (v := (-2000000000)) hx hb hown (hts (.constant RX1 20 (-2000000000)) (List.mem_of_getElem? (i := 1) rfl)) dX1_sumPart_20 ?_
    exact nw_iret (rm := ({ frames := 3, cells := 0, slots := 0, locals := 67 } : Room)) X hP hD hS (by simp only [sumPF, nwIf_T, nwIf_F, or_true, true_or, or_false, false_or, and_true, true_and, and_false, false_and, not_true_eq_false, not_false_eq_true, Nat.add_sub_cancel, q_2]) dX1_sumPart_22
  · skip
    have q_2 : ¬ out ((d)) ((-16 : Int32)) ((16 : Int32)) := q_2
    refine lv_if_ne (tgt := 20) hx hb dX1_sumPart_8 (by decide) (fun c9 => absurd c9 (by decide)) (fun _ => ?_)
    refine lv_iload_n hx hb dX1_sumPart_11 rfl (lv_at hl 2 rfl) ?_
    refine lv_iconst (v := (0)) hx hb dX1_sumPart_12 (by decide) ?_
    refine lv_iconst (v := (1)) hx hb dX1_sumPart_13 (by decide) ?_
    refine nw_Ni (As := [.int (what), .int (0), .int (1)]) (rest := []) X (c_X6_outside lc G ((what)) ((0 : Int32)) ((1 : Int32)) ) (va_cnB 3 hts ggX1_sumPart_X6_outside rfl rfl rfl (hK.nest 5 rfl) (hts (.initialized RX6) (List.mem_of_getElem? (i := 3) rfl)) (by decide +kernel) ⟨Nat.le_of_ble_eq_true rfl, Nat.le_of_ble_eq_true rfl⟩) (hts (.static yX6_outside) (List.mem_of_getElem? (i := 2) rfl)) (fun _ _ h => h.2) hP hD hS hA rfl hl.1 rfl (Nat.le_of_ble_eq_true rfl) dX1_sumPart_14 ⟨Nat.le_of_ble_eq_true rfl, Nat.le_of_ble_eq_true rfl⟩ (fun r H locs hp_5 hP hD hS => ?_)
    obtain ⟨⟨rfl, q_6⟩ | ⟨rfl, q_6⟩, -⟩ := hp_5
    · skip
      have q_6 : out ((what)) ((0 : Int32)) ((1 : Int32)) := q_6
      refine lv_if_eq (tgt := 23) hx hb dX1_sumPart_17 (by decide) (fun c9 => absurd c9 (by decide)) (fun _ => ?_)
      refine lv_ldc (own := RX1) (v := (-2000000000)) hx hb hown (hts (.constant RX1 20 (-2000000000)) (List.mem_of_getElem? (i := 1) rfl)) dX1_sumPart_20 ?_
      exact nw_iret (rm := ({ frames := 3, cells := 0, slots := 0, locals := 67 } : Room)) X hP hD hS (by simp only [sumPF, nwIf_T, nwIf_F, or_true, true_or, or_false, false_or, and_true, true_and, and_false, false_and, not_true_eq_false, not_false_eq_true, Nat.add_sub_cancel, q_2, q_6]) dX1_sumPart_22
    · skip
      have q_6 : ¬ out ((what)) ((0 : Int32)) ((1 : Int32)) := q_6
      refine lv_if_eq (tgt := 23) hx hb dX1_sumPart_17 (by decide) (fun _ => ?_) (fun c9 => absurd (by decide) c9)
      refine lv_iload_n hx hb dX1_sumPart_23 rfl (lv_at hl 2 rfl) ?_
      refine lv_if_ne (tgt := 35) hx hb dX1_sumPart_24 (by decide) (fun b24_9 => ?_) (fun b24_9 => ?_)
      · skip
        have b24_9 : ¬ ((what) = (0 : Int32)) := b24_9
        refine lv_aload_n hx hb dX1_sumPart_35 rfl (lv_at hl 0 rfl) ?_
        refine lv_iload_n hx hb dX1_sumPart_36 rfl (lv_at hl 1 rfl) ?_
        refine nw_Vi (As := [.int (d)]) (rest := []) (q0 := 0) X (c_X1_pairsAt lc G (a) (M) ((d)) ) (cwV 1 hts gX1_sumPart_X1_pairsAt rfl rfl rfl (by decide +kernel) ⟨Nat.le_of_ble_eq_true rfl, Nat.le_of_ble_eq_true rfl⟩) rfl (show vwCl[1]? = some (RX1, TX1, 1) from rfl) (nwSp.all ((wL G (a) (M)))) hP hD hS hA rfl hl.1 rfl (Nat.le_of_ble_eq_true rfl) dX1_sumPart_37 ⟨Nat.le_of_ble_eq_true rfl, Nat.le_of_ble_eq_true rfl⟩ (fun r w H locs hp_10 hP hD hS => ?_)
        obtain ⟨rfl, rfl⟩ := hp_10
        have hP : va_P G.1 vwCl ((wL G (a) (M))) H := hP
        have hD : va_D vA ((wL G (a) (M))) := hD
        exact nw_iret (rm := ({ frames := 3, cells := 0, slots := 0, locals := 67 } : Room)) X hP hD hS (by simp only [sumPF, nwIf_T, nwIf_F, or_true, true_or, or_false, false_or, and_true, true_and, and_false, false_and, not_true_eq_false, not_false_eq_true, Nat.add_sub_cancel, q_2, q_6, b24_9]) dX1_sumPart_40
      · skip
        have b24_9 : (what) = (0 : Int32) := b24_9
        refine lv_aload_n hx hb dX1_sumPart_27 rfl (lv_at hl 0 rfl) ?_
        refine lv_iload_n hx hb dX1_sumPart_28 rfl (lv_at hl 1 rfl) ?_
        refine nw_Vi (As := [.int (d)]) (rest := []) (q0 := 0) X (c_X1_sumAt lc G (a) (M) ((d)) ) (cwV 1 hts gX1_sumPart_X1_sumAt rfl rfl rfl (by decide +kernel) ⟨Nat.le_of_ble_eq_true rfl, Nat.le_of_ble_eq_true rfl⟩) rfl (show vwCl[1]? = some (RX1, TX1, 1) from rfl) (nwSp.all ((wL G (a) (M)))) hP hD hS hA rfl hl.1 rfl (Nat.le_of_ble_eq_true rfl) dX1_sumPart_29 ⟨Nat.le_of_ble_eq_true rfl, Nat.le_of_ble_eq_true rfl⟩ (fun r w H locs hp_11 hP hD hS => ?_)
        obtain ⟨rfl, rfl⟩ := hp_11
        have hP : va_P G.1 vwCl ((wL G (a) (M))) H := hP
        have hD : va_D vA ((wL G (a) (M))) := hD
        refine lv_goto (tgt := 40) hx hb dX1_sumPart_32 (by decide) ?_
        exact nw_iret (rm := ({ frames := 3, cells := 0, slots := 0, locals := 67 } : Room)) X hP hD hS (by simp only [sumPF, nwIf_T, nwIf_F, or_true, true_or, or_false, false_or, and_true, true_and, and_false, false_and, not_true_eq_false, not_false_eq_true, Nat.add_sub_cancel, q_2, q_6, eq_true b24_9]) dX1_sumPart_40
set_option maxHeartbeats 4000000 in
set_option maxRecDepth 100000 in
theorem c_X1_bestDelayAwayFrom (lc : Launch) (G : nwG) (a : Nat → Nat) (M : Nat → Nat → Int32) (c : Int32)  : nwCi lc G yX1_bestDelayAwayFrom wsX1_bestDelayAwayFrom ({ frames := 3, cells := 0, slots := 0, locals := 67 } : Room) [.ref (a 0), .int (c)] ((wL G (a) (M))) (fun r w => r = bestF (M 0) (M 1) c ∧ w = wL G a M) := by
  refine nw_of (cc := cX1_bestDelayAwayFrom) (maxL := 13) (ret := (some .int)) (by decide) rfl (Nat.le_of_ble_eq_true rfl) ?_
  intro vp ve vs vm vb vt vc vA ls X hP hD hA hS hl
  have X : nwAt vp vm vc cX1_bestDelayAwayFrom 13 vs _ wsX1_bestDelayAwayFrom RX1 vt (some .int) "bestDelayAwayFrom" G := X
  have hx := X.1.1
  have hb := X.1.2.1
  have hown := X.1.2.2.2.1
  have hts := X.1.2.2.2.2
  have hK := X.2.2.2.2
  have hl : lv_has ls 13 [(0, .ref (a 0)), (1, .int (c))] := hl
  refine lv_bipush (v := (-101)) hx hb dX1_bestDelayAwayFrom_0 (by decide) ?_
  refine lv_istore_n (lv' := [(2, .int (-101)), (0, .ref (a 0)), (1, .int (c))]) hx hb dX1_bestDelayAwayFrom_2 rfl hl (by decide) rfl (fun ls hl => ?_)
  refine lv_lconst (v := 0) hx hb dX1_bestDelayAwayFrom_3 (by decide) ?_
  refine lv_lstore_n (lv' := [(3, .long (0)), (2, .int (-101)), (0, .ref (a 0)), (1, .int (c))]) hx hb dX1_bestDelayAwayFrom_4 rfl hl (by decide) rfl (fun ls hl => ?_)
  refine lv_lconst (v := 0) hx hb dX1_bestDelayAwayFrom_5 (by decide) ?_
  refine lv_lstore (lv' := [(5, .long (0)), (3, .long (0)), (2, .int (-101)), (0, .ref (a 0)), (1, .int (c))]) hx hb dX1_bestDelayAwayFrom_6 hl (by decide) rfl (fun ls hl => ?_)
  refine lv_iconst (v := (0)) hx hb dX1_bestDelayAwayFrom_8 (by decide) ?_
  refine lv_istore (lv' := [(7, .int (0)), (5, .long (0)), (3, .long (0)), (2, .int (-101)), (0, .ref (a 0)), (1, .int (c))]) hx hb dX1_bestDelayAwayFrom_9 hl (by decide) rfl (fun ls hl => ?_)
  have K11 : ∀ (fuel : Nat) (t : Nat) (x2 : Int32) (x3 : Int64) (x5 : Int64) (H : Heap) (locs : List Loc) (ls : Array Slot), (34 - t) < fuel → (t ≤ 33) → (dseq (M 0) (M 1) (nearF c) t = (x2, x3, x5)) → lv_has ls 13 [(7, .int (nI (t))), (5, .long (x5)), (3, .long (x3)), (2, .int (x2)), (0, .ref (a 0)), (1, .int (c))] → va_P G.1 vwCl ((wL G (a) (M))) H → va_D vA ((wL G (a) (M))) → va_S vA vs.heap H locs → W vp lc ve ({ frames := 3, cells := 0, slots := 0, locals := 67 } : Room) vs vm ([.ref (a 0), .int (c)] : List Value).toArray vb vt vc H locs 0 0 (MQ vb (nwQi G (fun r w => r = bestF (M 0) (M 1) c ∧ w = wL G a M) vA) ([.ref (a 0), .int (c)] : List Value).toArray vs ({ frames := 3, cells := 0, slots := 0, locals := 67 } : Room).cells ({ frames := 3, cells := 0, slots := 0, locals := 67 } : Room).slots vA) (F0 vm 11 ls []) := by
    intro fuel
    induction fuel with
    | zero => intro t x2 x3 x5 H locs ls hmu; exact absurd hmu (Nat.not_lt_zero _)
    | succ fuel ih11 =>
      intro t x2 x3 x5 H locs ls hmu ht es hl hP hD hS
      refine lv_iload hx hb dX1_bestDelayAwayFrom_11 (lv_at hl 0 rfl) ?_
      refine lv_bipush (v := (32)) hx hb dX1_bestDelayAwayFrom_13 (by decide) ?_
      refine lv_icmp_gt (tgt := 112) hx hb dX1_bestDelayAwayFrom_15 (by decide) (fun b15_1 => ?_) (fun b15_1 => ?_)
      · skip
        have b15_1 : (32) < (t) := (nI_ltI (a := 32) (b := t) (by omega) (by omega)).mp b15_1
        have b15_1n : ¬ ((t) ≤ (32)) := by omega
        refine lv_iload_n hx hb dX1_bestDelayAwayFrom_112 rfl (lv_at hl 3 rfl) ?_
        exact nw_iret (rm := ({ frames := 3, cells := 0, slots := 0, locals := 67 } : Room)) X hP hD hS (⟨(by have h9 := bestF_eq (x := (x2, x3, x5)) (by rw [← es, show t = 33 by omega]); exact h9), rfl⟩) dX1_bestDelayAwayFrom_113
      · skip
        have b15_1 : ¬ ((32) < (t)) := fun h => b15_1 ((nI_ltI (a := 32) (b := t) (by omega) (by omega)).mpr h)
        have b15_1n : (t) ≤ (32) := by omega
        have K41 : ∀ (d : Int32) (H : Heap) (locs : List Loc) (ls : Array Slot), (d = dT t) → lv_has ls 13 [(8, .int (d)), (7, .int (nI (t))), (5, .long (x5)), (3, .long (x3)), (2, .int (x2)), (0, .ref (a 0)), (1, .int (c))] → va_P G.1 vwCl ((wL G (a) (M))) H → va_D vA ((wL G (a) (M))) → va_S vA vs.heap H locs → W vp lc ve ({ frames := 3, cells := 0, slots := 0, locals := 67 } : Room) vs vm ([.ref (a 0), .int (c)] : List Value).toArray vb vt vc H locs 0 0 (MQ vb (nwQi G (fun r w => r = bestF (M 0) (M 1) c ∧ w = wL G a M) vA) ([.ref (a 0), .int (c)] : List Value).toArray vs ({ frames := 3, cells := 0, slots := 0, locals := 67 } : Room).cells ({ frames := 3, cells := 0, slots := 0, locals := 67 } : Room).slots vA) (F0 vm 41 ls []) := by
          intro d H locs ls hd hl hP hD hS
          refine lv_iload hx hb dX1_bestDelayAwayFrom_41 (lv_at hl 0 rfl) ?_
          refine lv_iload_n hx hb dX1_bestDelayAwayFrom_43 rfl (lv_at hl 6 rfl) ?_
          refine lv_isub hx hb dX1_bestDelayAwayFrom_44 ?_
          refine nw_abs X hl.1 (hts (.methodLink RX1 52 Lib.Math.abs.name) (List.mem_of_getElem? (i := 1) rfl)) (hts (.static Lib.Math.abs.name) (List.mem_of_getElem? (i := 2) rfl)) (hts (.initialized "java/lang/Math") (List.mem_of_getElem? (i := 3) rfl)) (hts (.code Lib.Math.abs.name Lib.Math.abs.code 1 (some .int)) (List.mem_of_getElem? (i := 4) rfl)) (Nat.le_of_ble_eq_true rfl) (Nat.le_of_ble_eq_true rfl) (Nat.zero_le _) (Nat.zero_le _) dX1_bestDelayAwayFrom_45 ?_
          refine lv_iconst (v := (1)) hx hb dX1_bestDelayAwayFrom_48 (by decide) ?_
          refine lv_icmp_le (tgt := 106) hx hb dX1_bestDelayAwayFrom_49 (by decide) (fun b49_2 => ?_) (fun b49_2 => ?_)
          · skip
            have b49_2 : (if 0 ≤ ((d) - (c)) then ((d) - (c)) else 0 - ((d) - (c))) ≤ (1 : Int32) := b49_2
            have b49_2n : ¬ ((1 : Int32) < (if 0 ≤ ((d) - (c)) then ((d) - (c)) else 0 - ((d) - (c)))) := Int32.not_lt.mpr b49_2
            have hnear : nearF c d := b49_2n
            refine lv_iinc (v := (nI (t + 1))) (lv' := [(7, .int (nI (t + 1))), (8, .int (d)), (5, .long (x5)), (3, .long (x3)), (2, .int (x2)), (0, .ref (a 0)), (1, .int (c))]) hx hb dX1_bestDelayAwayFrom_106 hl (k := 1) rfl (by exact nI_add (t) 1) (by decide) rfl (fun ls hl => ?_)
            refine lv_goto (tgt := 11) hx hb dX1_bestDelayAwayFrom_109 (by decide) ?_
            exact ih11 (t + 1) ((x2)) ((x3)) ((x5)) _ _ _ (by omega) (by omega) (by rw [dseq_s, es, ← hd]; simp only [dst, nwIf_T, nwIf_F, or_true, true_or, or_false, false_or, and_true, true_and, and_false, false_and, not_true_eq_false, not_false_eq_true, Nat.add_sub_cancel, b15_1n, b15_1, b49_2n, b49_2, hnear]) (lv_sub hl [0, 2, 3, 4, 5, 6] rfl) hP hD hS
          · skip
            have b49_2 : ¬ ((if 0 ≤ ((d) - (c)) then ((d) - (c)) else 0 - ((d) - (c))) ≤ (1 : Int32)) := b49_2
            have b49_2n : (1 : Int32) < (if 0 ≤ ((d) - (c)) then ((d) - (c)) else 0 - ((d) - (c))) := Int32.not_le.mp b49_2
            have hnear : ¬ nearF c d := fun h => h b49_2n
            refine lv_aload_n hx hb dX1_bestDelayAwayFrom_52 rfl (lv_at hl 5 rfl) ?_
            refine lv_iload hx hb dX1_bestDelayAwayFrom_53 (lv_at hl 0 rfl) ?_
            refine nw_Vi (As := [.int (d)]) (rest := []) (q0 := 0) X (c_X1_sumAt lc G (a) (M) ((d)) ) (cwV 1 hts gX1_bestDelayAwayFrom_X1_sumAt rfl rfl rfl (by decide +kernel) ⟨Nat.le_of_ble_eq_true rfl, Nat.le_of_ble_eq_true rfl⟩) rfl (show vwCl[1]? = some (RX1, TX1, 1) from rfl) (nwSp.all ((wL G (a) (M)))) hP hD hS hA rfl hl.1 rfl (Nat.le_of_ble_eq_true rfl) dX1_bestDelayAwayFrom_55 ⟨Nat.le_of_ble_eq_true rfl, Nat.le_of_ble_eq_true rfl⟩ (fun r w H locs hp_3 hP hD hS => ?_)
            obtain ⟨rfl, rfl⟩ := hp_3
            have hP : va_P G.1 vwCl ((wL G (a) (M))) H := hP
            have hD : va_D vA ((wL G (a) (M))) := hD
            refine lv_i2l (v := (sumF ((M) 0) ((M) 1) ((d)) 64).toInt64) hx hb dX1_bestDelayAwayFrom_58 rfl ?_
            refine lv_lstore (lv' := [(9, .long ((sumF ((M) 0) ((M) 1) ((d)) 64).toInt64)), (8, .int (d)), (7, .int (nI (t))), (5, .long (x5)), (3, .long (x3)), (2, .int (x2)), (0, .ref (a 0)), (1, .int (c))]) hx hb dX1_bestDelayAwayFrom_59 hl (by decide) rfl (fun ls hl => ?_)
            refine lv_aload_n hx hb dX1_bestDelayAwayFrom_61 rfl (lv_at hl 6 rfl) ?_
            refine lv_iload hx hb dX1_bestDelayAwayFrom_62 (lv_at hl 1 rfl) ?_
            refine nw_Vi (As := [.int (d)]) (rest := []) (q0 := 0) X (c_X1_pairsAt lc G (a) (M) ((d)) ) (cwV 1 hts gX1_bestDelayAwayFrom_X1_pairsAt rfl rfl rfl (by decide +kernel) ⟨Nat.le_of_ble_eq_true rfl, Nat.le_of_ble_eq_true rfl⟩) rfl (show vwCl[1]? = some (RX1, TX1, 1) from rfl) (nwSp.all ((wL G (a) (M)))) hP hD hS hA rfl hl.1 rfl (Nat.le_of_ble_eq_true rfl) dX1_bestDelayAwayFrom_64 ⟨Nat.le_of_ble_eq_true rfl, Nat.le_of_ble_eq_true rfl⟩ (fun r w H locs hp_4 hP hD hS => ?_)
            obtain ⟨rfl, rfl⟩ := hp_4
            have hP : va_P G.1 vwCl ((wL G (a) (M))) H := hP
            have hD : va_D vA ((wL G (a) (M))) := hD
            refine lv_i2l (v := (nI (cntF ((M) 0) ((M) 1) ((d)) 64)).toInt64) hx hb dX1_bestDelayAwayFrom_67 rfl ?_
            refine lv_lstore (lv' := [(11, .long ((nI (cntF ((M) 0) ((M) 1) ((d)) 64)).toInt64)), (9, .long ((sumF ((M) 0) ((M) 1) ((d)) 64).toInt64)), (8, .int (d)), (7, .int (nI (t))), (5, .long (x5)), (3, .long (x3)), (2, .int (x2)), (0, .ref (a 0)), (1, .int (c))]) hx hb dX1_bestDelayAwayFrom_68 hl (by decide) rfl (fun ls hl => ?_)
            refine lv_lload hx hb dX1_bestDelayAwayFrom_70 (lv_at hl 0 rfl) ?_
            refine lv_lconst (v := 0) hx hb dX1_bestDelayAwayFrom_72 (by decide) ?_
            refine W.lcmp hx hb dX1_bestDelayAwayFrom_73 ?_
            refine lv_if_le (tgt := 106) hx hb dX1_bestDelayAwayFrom_74 (by decide) (fun b74_5 => ?_) (fun b74_5 => ?_)
            · skip
              have b74_5 : ((nI (cntF ((M) 0) ((M) 1) ((d)) 64)).toInt64) ≤ (0) := (lg_cmp_le _ _).mp b74_5
              have hc0 := cntF_le (f := M 0) (g := M 1) (d := d) 64
              have hcn : ¬ 0 < cntF (M 0) (M 1) d 64 := by have := (nw_l0 (by omega)).mp b74_5; omega
              refine lv_iinc (v := (nI (t + 1))) (lv' := [(7, .int (nI (t + 1))), (11, .long ((nI (cntF ((M) 0) ((M) 1) ((d)) 64)).toInt64)), (9, .long ((sumF ((M) 0) ((M) 1) ((d)) 64).toInt64)), (8, .int (d)), (5, .long (x5)), (3, .long (x3)), (2, .int (x2)), (0, .ref (a 0)), (1, .int (c))]) hx hb dX1_bestDelayAwayFrom_106 hl (k := 3) rfl (by exact nI_add (t) 1) (by decide) rfl (fun ls hl => ?_)
              refine lv_goto (tgt := 11) hx hb dX1_bestDelayAwayFrom_109 (by decide) ?_
              exact ih11 (t + 1) ((x2)) ((x3)) ((x5)) _ _ _ (by omega) (by omega) (by rw [dseq_s, es, ← hd]; simp only [dst, nwIf_T, nwIf_F, or_true, true_or, or_false, false_or, and_true, true_and, and_false, false_and, not_true_eq_false, not_false_eq_true, Nat.add_sub_cancel, b15_1n, b15_1, b49_2n, b49_2, hnear, b74_5, b74_5, hcn]) (lv_sub hl [0, 4, 5, 6, 7, 8] rfl) hP hD hS
            · skip
              have b74_5 : ¬ (((nI (cntF ((M) 0) ((M) 1) ((d)) 64)).toInt64) ≤ (0)) := fun h => b74_5 ((lg_cmp_le _ _).mpr h)
              have hc0 := cntF_le (f := M 0) (g := M 1) (d := d) 64
              have hcz : ¬ cntF (M 0) (M 1) d 64 = 0 := fun h => b74_5 ((nw_l0 (by omega)).mpr h)
              have hcn : 0 < cntF (M 0) (M 1) d 64 := by omega
              refine lv_iload_n hx hb dX1_bestDelayAwayFrom_77 rfl (lv_at hl 6 rfl) ?_
              refine lv_bipush (v := (-101)) hx hb dX1_bestDelayAwayFrom_78 (by decide) ?_
              refine lv_icmp_eq (tgt := 96) hx hb dX1_bestDelayAwayFrom_80 (by decide) (fun b80_6 => ?_) (fun b80_6 => ?_)
              · skip
                have b80_6 : (x2) = (-101 : Int32) := b80_6
                refine lv_iload hx hb dX1_bestDelayAwayFrom_96 (lv_at hl 2 rfl) ?_
                refine lv_istore_n (lv' := [(2, .int (d)), (11, .long ((nI (cntF ((M) 0) ((M) 1) ((d)) 64)).toInt64)), (9, .long ((sumF ((M) 0) ((M) 1) ((d)) 64).toInt64)), (8, .int (d)), (7, .int (nI (t))), (5, .long (x5)), (3, .long (x3)), (0, .ref (a 0)), (1, .int (c))]) hx hb dX1_bestDelayAwayFrom_98 rfl hl (by decide) rfl (fun ls hl => ?_)
                refine lv_lload hx hb dX1_bestDelayAwayFrom_99 (lv_at hl 2 rfl) ?_
                refine lv_lstore_n (lv' := [(3, .long ((sumF ((M) 0) ((M) 1) ((d)) 64).toInt64)), (2, .int (d)), (11, .long ((nI (cntF ((M) 0) ((M) 1) ((d)) 64)).toInt64)), (9, .long ((sumF ((M) 0) ((M) 1) ((d)) 64).toInt64)), (8, .int (d)), (7, .int (nI (t))), (5, .long (x5)), (0, .ref (a 0)), (1, .int (c))]) hx hb dX1_bestDelayAwayFrom_101 rfl hl (by decide) rfl (fun ls hl => ?_)
                refine lv_lload hx hb dX1_bestDelayAwayFrom_102 (lv_at hl 2 rfl) ?_
                refine lv_lstore (lv' := [(5, .long ((nI (cntF ((M) 0) ((M) 1) ((d)) 64)).toInt64)), (3, .long ((sumF ((M) 0) ((M) 1) ((d)) 64).toInt64)), (2, .int (d)), (11, .long ((nI (cntF ((M) 0) ((M) 1) ((d)) 64)).toInt64)), (9, .long ((sumF ((M) 0) ((M) 1) ((d)) 64).toInt64)), (8, .int (d)), (7, .int (nI (t))), (0, .ref (a 0)), (1, .int (c))]) hx hb dX1_bestDelayAwayFrom_104 hl (by decide) rfl (fun ls hl => ?_)
                refine lv_iinc (v := (nI (t + 1))) (lv' := [(7, .int (nI (t + 1))), (5, .long ((nI (cntF ((M) 0) ((M) 1) ((d)) 64)).toInt64)), (3, .long ((sumF ((M) 0) ((M) 1) ((d)) 64).toInt64)), (2, .int (d)), (11, .long ((nI (cntF ((M) 0) ((M) 1) ((d)) 64)).toInt64)), (9, .long ((sumF ((M) 0) ((M) 1) ((d)) 64).toInt64)), (8, .int (d)), (0, .ref (a 0)), (1, .int (c))]) hx hb dX1_bestDelayAwayFrom_106 hl (k := 6) rfl (by exact nI_add (t) 1) (by decide) rfl (fun ls hl => ?_)
                refine lv_goto (tgt := 11) hx hb dX1_bestDelayAwayFrom_109 (by decide) ?_
                exact ih11 (t + 1) ((d)) (((sumF ((M) 0) ((M) 1) ((d)) 64).toInt64)) (((nI (cntF ((M) 0) ((M) 1) ((d)) 64)).toInt64)) _ _ _ (by omega) (by omega) (by rw [dseq_s, es, ← hd]; simp only [dst, nwIf_T, nwIf_F, or_true, true_or, or_false, false_or, and_true, true_and, and_false, false_and, not_true_eq_false, not_false_eq_true, Nat.add_sub_cancel, b15_1n, b15_1, b49_2n, b49_2, hnear, b74_5, b74_5, hcn, eq_true b80_6]) (lv_sub hl [0, 1, 2, 3, 7, 8] rfl) hP hD hS
              · skip
                have b80_6 : ¬ ((x2) = (-101 : Int32)) := b80_6
                refine lv_lload hx hb dX1_bestDelayAwayFrom_83 (lv_at hl 1 rfl) ?_
                refine lv_lload hx hb dX1_bestDelayAwayFrom_85 (lv_at hl 4 rfl) ?_
                refine lv_lmul hx hb dX1_bestDelayAwayFrom_87 ?_
                refine lv_lload_n hx hb dX1_bestDelayAwayFrom_88 rfl (lv_at hl 5 rfl) ?_
                refine lv_lload hx hb dX1_bestDelayAwayFrom_89 (lv_at hl 0 rfl) ?_
                refine lv_lmul hx hb dX1_bestDelayAwayFrom_91 ?_
                refine W.lcmp hx hb dX1_bestDelayAwayFrom_92 ?_
                refine lv_if_le (tgt := 106) hx hb dX1_bestDelayAwayFrom_93 (by decide) (fun b93_7 => ?_) (fun b93_7 => ?_)
                · skip
                  have b93_7 : (((sumF ((M) 0) ((M) 1) ((d)) 64).toInt64) * (x5)) ≤ ((x3) * ((nI (cntF ((M) 0) ((M) 1) ((d)) 64)).toInt64)) := (lg_cmp_le _ _).mp b93_7
                  have hlt : ¬ x3 * (nI (cntF (M 0) (M 1) d 64)).toInt64 < (sumF (M 0) (M 1) d 64).toInt64 * x5 := Int64.not_lt.mpr b93_7
                  refine lv_iinc (v := (nI (t + 1))) (lv' := [(7, .int (nI (t + 1))), (11, .long ((nI (cntF ((M) 0) ((M) 1) ((d)) 64)).toInt64)), (9, .long ((sumF ((M) 0) ((M) 1) ((d)) 64).toInt64)), (8, .int (d)), (5, .long (x5)), (3, .long (x3)), (2, .int (x2)), (0, .ref (a 0)), (1, .int (c))]) hx hb dX1_bestDelayAwayFrom_106 hl (k := 3) rfl (by exact nI_add (t) 1) (by decide) rfl (fun ls hl => ?_)
                  refine lv_goto (tgt := 11) hx hb dX1_bestDelayAwayFrom_109 (by decide) ?_
                  exact ih11 (t + 1) ((x2)) ((x3)) ((x5)) _ _ _ (by omega) (by omega) (by rw [dseq_s, es, ← hd]; simp only [dst, nwIf_T, nwIf_F, or_true, true_or, or_false, false_or, and_true, true_and, and_false, false_and, not_true_eq_false, not_false_eq_true, Nat.add_sub_cancel, b15_1n, b15_1, b49_2n, b49_2, hnear, b74_5, b74_5, hcn, b80_6, b93_7, b93_7, hlt]) (lv_sub hl [0, 4, 5, 6, 7, 8] rfl) hP hD hS
                · skip
                  have b93_7 : ¬ ((((sumF ((M) 0) ((M) 1) ((d)) 64).toInt64) * (x5)) ≤ ((x3) * ((nI (cntF ((M) 0) ((M) 1) ((d)) 64)).toInt64))) := fun h => b93_7 ((lg_cmp_le _ _).mpr h)
                  have hlt : x3 * (nI (cntF (M 0) (M 1) d 64)).toInt64 < (sumF (M 0) (M 1) d 64).toInt64 * x5 := Int64.not_le.mp b93_7
                  refine lv_iload hx hb dX1_bestDelayAwayFrom_96 (lv_at hl 2 rfl) ?_
                  refine lv_istore_n (lv' := [(2, .int (d)), (11, .long ((nI (cntF ((M) 0) ((M) 1) ((d)) 64)).toInt64)), (9, .long ((sumF ((M) 0) ((M) 1) ((d)) 64).toInt64)), (8, .int (d)), (7, .int (nI (t))), (5, .long (x5)), (3, .long (x3)), (0, .ref (a 0)), (1, .int (c))]) hx hb dX1_bestDelayAwayFrom_98 rfl hl (by decide) rfl (fun ls hl => ?_)
                  refine lv_lload hx hb dX1_bestDelayAwayFrom_99 (lv_at hl 2 rfl) ?_
                  refine lv_lstore_n (lv' := [(3, .long ((sumF ((M) 0) ((M) 1) ((d)) 64).toInt64)), (2, .int (d)), (11, .long ((nI (cntF ((M) 0) ((M) 1) ((d)) 64)).toInt64)), (9, .long ((sumF ((M) 0) ((M) 1) ((d)) 64).toInt64)), (8, .int (d)), (7, .int (nI (t))), (5, .long (x5)), (0, .ref (a 0)), (1, .int (c))]) hx hb dX1_bestDelayAwayFrom_101 rfl hl (by decide) rfl (fun ls hl => ?_)
                  refine lv_lload hx hb dX1_bestDelayAwayFrom_102 (lv_at hl 2 rfl) ?_
                  refine lv_lstore (lv' := [(5, .long ((nI (cntF ((M) 0) ((M) 1) ((d)) 64)).toInt64)), (3, .long ((sumF ((M) 0) ((M) 1) ((d)) 64).toInt64)), (2, .int (d)), (11, .long ((nI (cntF ((M) 0) ((M) 1) ((d)) 64)).toInt64)), (9, .long ((sumF ((M) 0) ((M) 1) ((d)) 64).toInt64)), (8, .int (d)), (7, .int (nI (t))), (0, .ref (a 0)), (1, .int (c))]) hx hb dX1_bestDelayAwayFrom_104 hl (by decide) rfl (fun ls hl => ?_)
                  refine lv_iinc (v := (nI (t + 1))) (lv' := [(7, .int (nI (t + 1))), (5, .long ((nI (cntF ((M) 0) ((M) 1) ((d)) 64)).toInt64)), (3, .long ((sumF ((M) 0) ((M) 1) ((d)) 64).toInt64)), (2, .int (d)), (11, .long ((nI (cntF ((M) 0) ((M) 1) ((d)) 64)).toInt64)), (9, .long ((sumF ((M) 0) ((M) 1) ((d)) 64).toInt64)), (8, .int (d)), (0, .ref (a 0)), (1, .int (c))]) hx hb dX1_bestDelayAwayFrom_106 hl (k := 6) rfl (by exact nI_add (t) 1) (by decide) rfl (fun ls hl => ?_)
                  refine lv_goto (tgt := 11) hx hb dX1_bestDelayAwayFrom_109 (by decide) ?_
                  exact ih11 (t + 1) ((d)) (((sumF ((M) 0) ((M) 1) ((d)) 64).toInt64)) (((nI (cntF ((M) 0) ((M) 1) ((d)) 64)).toInt64)) _ _ _ (by omega) (by omega) (by rw [dseq_s, es, ← hd]; simp only [dst, nwIf_T, nwIf_F, or_true, true_or, or_false, false_or, and_true, true_and, and_false, false_and, not_true_eq_false, not_false_eq_true, Nat.add_sub_cancel, b15_1n, b15_1, b49_2n, b49_2, hnear, b74_5, b74_5, hcn, b80_6, b93_7, b93_7, hlt]) (lv_sub hl [0, 1, 2, 3, 7, 8] rfl) hP hD hS
        refine lv_iload hx hb dX1_bestDelayAwayFrom_18 (lv_at hl 0 rfl) ?_
        refine lv_iconst (v := (2)) hx hb dX1_bestDelayAwayFrom_20 (by decide) ?_
        refine lv_irem hx hb dX1_bestDelayAwayFrom_21 (by decide) ?_
        refine nw_top (y := nI (t % 2)) (pk_rem (a := t) (d := 2) (by omega) (by omega) (by omega)) ?_
        refine lv_if_ne (tgt := 32) hx hb dX1_bestDelayAwayFrom_22 (by decide) (fun b22_8 => ?_) (fun b22_8 => ?_)
        · skip
          have b22_8 : ¬ ((t % 2) = (0)) := fun h => b22_8 ((nI_eq (a := t % 2) (b := 0) (by omega) (by omega)).mpr h)
          refine lv_iload hx hb dX1_bestDelayAwayFrom_32 (lv_at hl 0 rfl) ?_
          refine lv_iconst (v := (2)) hx hb dX1_bestDelayAwayFrom_34 (by decide) ?_
          refine lv_idiv hx hb dX1_bestDelayAwayFrom_35 (by decide) ?_
          refine nw_top (y := nI (t / 2)) (pk_div (a := t) (d := 2) (by omega) (by omega) (by omega)) ?_
          refine lv_ineg hx hb dX1_bestDelayAwayFrom_36 ?_
          refine lv_iconst (v := (1)) hx hb dX1_bestDelayAwayFrom_37 (by decide) ?_
          refine lv_isub hx hb dX1_bestDelayAwayFrom_38 ?_
          refine lv_istore (lv' := [(8, .int ((-(nI (t / 2))) - (1 : Int32))), (7, .int (nI (t))), (5, .long (x5)), (3, .long (x3)), (2, .int (x2)), (0, .ref (a 0)), (1, .int (c))]) hx hb dX1_bestDelayAwayFrom_39 hl (by decide) rfl (fun ls hl => ?_)
          exact K41 (((-(nI (t / 2))) - (1 : Int32))) _ _ _ (by unfold dT; first | rw [nwIf_t (by omega)] | rw [nwIf_f (by omega)]) (lv_sub hl [0, 1, 2, 3, 4, 5, 6] rfl) hP hD hS
        · skip
          have b22_8 : (t % 2) = (0) := (nI_eq (a := t % 2) (b := 0) (by omega) (by omega)).mp b22_8
          refine lv_iload hx hb dX1_bestDelayAwayFrom_25 (lv_at hl 0 rfl) ?_
          refine lv_iconst (v := (2)) hx hb dX1_bestDelayAwayFrom_27 (by decide) ?_
          refine lv_idiv hx hb dX1_bestDelayAwayFrom_28 (by decide) ?_
          refine nw_top (y := nI (t / 2)) (pk_div (a := t) (d := 2) (by omega) (by omega) (by omega)) ?_
          refine lv_goto (tgt := 39) hx hb dX1_bestDelayAwayFrom_29 (by decide) ?_
          refine lv_istore (lv' := [(8, .int (nI (t / 2))), (7, .int (nI (t))), (5, .long (x5)), (3, .long (x3)), (2, .int (x2)), (0, .ref (a 0)), (1, .int (c))]) hx hb dX1_bestDelayAwayFrom_39 hl (by decide) rfl (fun ls hl => ?_)
          exact K41 ((nI (t / 2))) _ _ _ (by unfold dT; first | rw [nwIf_t (by omega)] | rw [nwIf_f (by omega)]) (lv_sub hl [0, 1, 2, 3, 4, 5, 6] rfl) hP hD hS
  exact K11 ((34 - (0)) + 1) (0) ((-101 : Int32)) ((0)) ((0)) _ _ _ (Nat.lt_succ_self _) (by omega) (by rfl) (lv_sub hl [0, 1, 2, 3, 4, 5] rfl) hP hD hS
set_option maxHeartbeats 4000000 in
set_option maxRecDepth 100000 in
theorem c_X1_findDelay (lc : Launch) (G : nwG) (a : Nat → Nat) (M : Nat → Nat → Int32) (b : Int32)  : nwCi lc G yX1_findDelay wsX1_findDelay ({ frames := 4, cells := 0, slots := 0, locals := 99 } : Room) [.ref (a 0), .int (b)] ((wL G (a) (M))) (fun r w => r = delayF M b ∧ w = wL G a M) := by
  refine nw_of (cc := cX1_findDelay) (maxL := 3) (ret := (some .int)) (by decide) rfl (Nat.le_of_ble_eq_true rfl) ?_
  intro vp ve vs vm vb vt vc vA ls X hP hD hA hS hl
  have X : nwAt vp vm vc cX1_findDelay 3 vs _ wsX1_findDelay RX1 vt (some .int) "findDelay" G := X
  have hx := X.1.1
  have hb := X.1.2.1
  have hown := X.1.2.2.2.1
  have hts := X.1.2.2.2.2
  have hK := X.2.2.2.2
  have hl : lv_has ls 3 [(0, .ref (a 0)), (1, .int (b))] := hl
  refine lv_aload_n hx hb dX1_findDelay_0 rfl (lv_at hl 0 rfl) ?_
  refine lv_bipush (v := (-101)) hx hb dX1_findDelay_1 (by decide) ?_
  refine nw_Vi (As := [.int (-101)]) (rest := []) (q0 := 0) X (c_X1_bestDelayAwayFrom lc G (a) (M) ((-101 : Int32)) ) (cwV 1 hts gX1_findDelay_X1_bestDelayAwayFrom rfl rfl rfl (by decide +kernel) ⟨Nat.le_of_ble_eq_true rfl, Nat.le_of_ble_eq_true rfl⟩) rfl (show vwCl[1]? = some (RX1, TX1, 1) from rfl) (nwSp.all ((wL G (a) (M)))) hP hD hS hA rfl hl.1 rfl (Nat.le_of_ble_eq_true rfl) dX1_findDelay_3 ⟨Nat.le_of_ble_eq_true rfl, Nat.le_of_ble_eq_true rfl⟩ (fun r w H locs hp_1 hP hD hS => ?_)
  obtain ⟨rfl, rfl⟩ := hp_1
  have hP : va_P G.1 vwCl ((wL G (a) (M))) H := hP
  have hD : va_D vA ((wL G (a) (M))) := hD
  refine lv_istore_n (lv' := [(2, .int (bestF ((M) 0) ((M) 1) ((-101 : Int32)))), (0, .ref (a 0)), (1, .int (b))]) hx hb dX1_findDelay_6 rfl hl (by decide) rfl (fun ls hl => ?_)
  refine lv_iload_n hx hb dX1_findDelay_7 rfl (lv_at hl 2 rfl) ?_
  refine lv_if_eq (tgt := 19) hx hb dX1_findDelay_8 (by decide) (fun b8_2 => ?_) (fun b8_2 => ?_)
  · skip
    have b8_2 : (b) = (0 : Int32) := b8_2
    refine lv_iload_n hx hb dX1_findDelay_19 rfl (lv_at hl 0 rfl) ?_
    exact nw_iret (rm := ({ frames := 4, cells := 0, slots := 0, locals := 99 } : Room)) X hP hD hS (by simp only [delayF, nwIf_T, nwIf_F, or_true, true_or, or_false, false_or, and_true, true_and, and_false, false_and, not_true_eq_false, not_false_eq_true, Nat.add_sub_cancel, eq_true b8_2]) dX1_findDelay_20
  · skip
    have b8_2 : ¬ ((b) = (0 : Int32)) := b8_2
    refine lv_aload_n hx hb dX1_findDelay_11 rfl (lv_at hl 1 rfl) ?_
    refine lv_iload_n hx hb dX1_findDelay_12 rfl (lv_at hl 0 rfl) ?_
    refine nw_Vi (As := [.int (bestF ((M) 0) ((M) 1) ((-101 : Int32)))]) (rest := []) (q0 := 0) X (c_X1_bestDelayAwayFrom lc G (a) (M) ((bestF ((M) 0) ((M) 1) ((-101 : Int32)))) ) (cwV 1 hts gX1_findDelay_X1_bestDelayAwayFrom rfl rfl rfl (by decide +kernel) ⟨Nat.le_of_ble_eq_true rfl, Nat.le_of_ble_eq_true rfl⟩) rfl (show vwCl[1]? = some (RX1, TX1, 1) from rfl) (nwSp.all ((wL G (a) (M)))) hP hD hS hA rfl hl.1 rfl (Nat.le_of_ble_eq_true rfl) dX1_findDelay_13 ⟨Nat.le_of_ble_eq_true rfl, Nat.le_of_ble_eq_true rfl⟩ (fun r w H locs hp_3 hP hD hS => ?_)
    obtain ⟨rfl, rfl⟩ := hp_3
    have hP : va_P G.1 vwCl ((wL G (a) (M))) H := hP
    have hD : va_D vA ((wL G (a) (M))) := hD
    refine lv_goto (tgt := 20) hx hb dX1_findDelay_16 (by decide) ?_
    exact nw_iret (rm := ({ frames := 4, cells := 0, slots := 0, locals := 99 } : Room)) X hP hD hS (by simp only [delayF, nwIf_T, nwIf_F, or_true, true_or, or_false, false_or, and_true, true_and, and_false, false_and, not_true_eq_false, not_false_eq_true, Nat.add_sub_cancel, b8_2]) dX1_findDelay_20
set_option maxHeartbeats 4000000 in
set_option maxRecDepth 100000 in
theorem c_X1_onPipe (lc : Launch) (G : nwG) (x len : Int32)  : nwCi lc G yX1_onPipe wsX1_onPipe ({ frames := 1, cells := 0, slots := 0, locals := 24 } : Room) [.int (x), .int (len)] ([]) (fun r w => r = pipeF x len ∧ w = []) := by
  refine nw_of (cc := cX1_onPipe) (maxL := 2) (ret := (some .int)) (by decide) rfl (Nat.le_of_ble_eq_true rfl) ?_
  intro vp ve vs vm vb vt vc vA ls X hP hD hA hS hl
  have X : nwAt vp vm vc cX1_onPipe 2 vs _ wsX1_onPipe RX1 vt (some .int) "onPipe" G := X
  have hx := X.1.1
  have hb := X.1.2.1
  have hown := X.1.2.2.2.1
  have hts := X.1.2.2.2.2
  have hK := X.2.2.2.2
  have hl : lv_has ls 2 [(0, .int (x)), (1, .int (len))] := hl
  refine lv_iconst (v := (0)) hx hb dX1_onPipe_0 (by decide) ?_
  refine lv_iconst (v := (2)) hx hb dX1_onPipe_1 (by decide) ?_
  refine lv_iload_n hx hb dX1_onPipe_2 rfl (lv_at hl 1 rfl) ?_
  refine lv_imul hx hb dX1_onPipe_3 ?_
  refine lv_iload_n hx hb dX1_onPipe_4 rfl (lv_at hl 0 rfl) ?_
  refine nw_min X hl.1 (hts (.methodLink RX1 40 Lib.Math.min.name) (List.mem_of_getElem? (i := 1) rfl)) (hts (.static Lib.Math.min.name) (List.mem_of_getElem? (i := 2) rfl)) (hts (.initialized "java/lang/Math") (List.mem_of_getElem? (i := 3) rfl)) (hts (.code Lib.Math.min.name Lib.Math.min.code 2 (some .int)) (List.mem_of_getElem? (i := 4) rfl)) (Nat.le_of_ble_eq_true rfl) (Nat.le_of_ble_eq_true rfl) (Nat.zero_le _) (Nat.zero_le _) dX1_onPipe_5 ?_
  refine nw_max X hl.1 (hts (.methodLink RX1 45 Lib.Math.max.name) (List.mem_of_getElem? (i := 5) rfl)) (hts (.static Lib.Math.max.name) (List.mem_of_getElem? (i := 6) rfl)) (hts (.initialized "java/lang/Math") (List.mem_of_getElem? (i := 3) rfl)) (hts (.code Lib.Math.max.name Lib.Math.max.code 2 (some .int)) (List.mem_of_getElem? (i := 7) rfl)) (Nat.le_of_ble_eq_true rfl) (Nat.le_of_ble_eq_true rfl) (Nat.zero_le _) (Nat.zero_le _) dX1_onPipe_8 ?_
  exact nw_iret (rm := ({ frames := 1, cells := 0, slots := 0, locals := 24 } : Room)) X hP hD hS (⟨by unfold pipeF; rfl, rfl⟩) dX1_onPipe_11
set_option maxHeartbeats 4000000 in
set_option maxRecDepth 100000 in
theorem c_X1_twicePlace (lc : Launch) (G : nwG) (a : Nat → Nat) (M : Nat → Nat → Int32) (len sa tb what : Int32)  : nwCi lc G yX1_twicePlace wsX1_twicePlace ({ frames := 5, cells := 0, slots := 0, locals := 121 } : Room) [.ref (a 0), .int (len), .int (sa), .int (tb), .int (what)] ((wL G (a) (M))) (fun r w => r = placeF M len sa tb what ∧ w = wL G a M) := by
  refine nw_of (cc := cX1_twicePlace) (maxL := 8) (ret := (some .int)) (by decide) rfl (Nat.le_of_ble_eq_true rfl) ?_
  intro vp ve vs vm vb vt vc vA ls X hP hD hA hS hl
  have X : nwAt vp vm vc cX1_twicePlace 8 vs _ wsX1_twicePlace RX1 vt (some .int) "twicePlace" G := X
  have hx := X.1.1
  have hb := X.1.2.1
  have hown := X.1.2.2.2.1
  have hts := X.1.2.2.2.2
  have hK := X.2.2.2.2
  have hl : lv_has ls 8 [(0, .ref (a 0)), (1, .int (len)), (2, .int (sa)), (3, .int (tb)), (4, .int (what))] := hl
  refine lv_iload_n hx hb dX1_twicePlace_0 rfl (lv_at hl 1 rfl) ?_
  refine lv_iconst (v := (1)) hx hb dX1_twicePlace_1 (by decide) ?_
  refine lv_ldc (own := RX1) (v := (100000)) hx hb hown (hts (Cond.constant RX1 31 (100000)) (List.mem_of_getElem? (i := 1) rfl)) dX1_twicePlace_2 ?_
  refine nw_Ni (As := [.int (len), .int (1), .int (100000)]) (rest := []) X (c_X6_outside lc G ((len)) ((1 : Int32)) ((100000 : Int32)) ) (va_cnB 3 hts ggX1_twicePlace_X6_outside rfl rfl rfl (hK.nest 5 rfl) (hts (.initialized RX6) (List.mem_of_getElem? (i := 10) rfl)) (by decide +kernel) ⟨Nat.le_of_ble_eq_true rfl, Nat.le_of_ble_eq_true rfl⟩) (hts (.static yX6_outside) (List.mem_of_getElem? (i := 9) rfl)) (fun _ _ h => h.2) hP hD hS hA rfl hl.1 rfl (Nat.le_of_ble_eq_true rfl) dX1_twicePlace_4 ⟨Nat.le_of_ble_eq_true rfl, Nat.le_of_ble_eq_true rfl⟩ (fun r H locs hp_1 hP hD hS => ?_)
  obtain ⟨⟨rfl, q_2⟩ | ⟨rfl, q_2⟩, -⟩ := hp_1
  · skip
    have q_2 : out ((len)) ((1 : Int32)) ((100000 : Int32)) := q_2
    refine lv_if_ne (tgt := 42) hx hb dX1_twicePlace_7 (by decide) (fun _ => ?_) (fun c9 => absurd c9 (by decide))
    refine lv_bipush (v := (-2)) hx hb dX1_twicePlace_42 (by decide) ?_
    exact nw_iret (rm := ({ frames := 5, cells := 0, slots := 0, locals := 121 } : Room)) X hP hD hS (by simp only [placeF, nwIf_T, nwIf_F, or_true, true_or, or_false, false_or, and_true, true_and, and_false, false_and, not_true_eq_false, not_false_eq_true, Nat.add_sub_cancel, q_2]) dX1_twicePlace_44
  · skip
    have q_2 : ¬ out ((len)) ((1 : Int32)) ((100000 : Int32)) := q_2
    refine lv_if_ne (tgt := 42) hx hb dX1_twicePlace_7 (by decide) (fun c9 => absurd c9 (by decide)) (fun _ => ?_)
    refine lv_iload_n hx hb dX1_twicePlace_10 rfl (lv_at hl 2 rfl) ?_
    refine lv_iconst (v := (1)) hx hb dX1_twicePlace_11 (by decide) ?_
    refine lv_sipush (v := (2000)) hx hb dX1_twicePlace_12 (by decide) ?_
    refine nw_Ni (As := [.int (sa), .int (1), .int (2000)]) (rest := []) X (c_X6_outside lc G ((sa)) ((1 : Int32)) ((2000 : Int32)) ) (va_cnB 3 hts ggX1_twicePlace_X6_outside rfl rfl rfl (hK.nest 5 rfl) (hts (.initialized RX6) (List.mem_of_getElem? (i := 10) rfl)) (by decide +kernel) ⟨Nat.le_of_ble_eq_true rfl, Nat.le_of_ble_eq_true rfl⟩) (hts (.static yX6_outside) (List.mem_of_getElem? (i := 9) rfl)) (fun _ _ h => h.2) hP hD hS hA rfl hl.1 rfl (Nat.le_of_ble_eq_true rfl) dX1_twicePlace_15 ⟨Nat.le_of_ble_eq_true rfl, Nat.le_of_ble_eq_true rfl⟩ (fun r H locs hp_5 hP hD hS => ?_)
    obtain ⟨⟨rfl, q_6⟩ | ⟨rfl, q_6⟩, -⟩ := hp_5
    · skip
      have q_6 : out ((sa)) ((1 : Int32)) ((2000 : Int32)) := q_6
      refine lv_if_ne (tgt := 42) hx hb dX1_twicePlace_18 (by decide) (fun _ => ?_) (fun c9 => absurd c9 (by decide))
      refine lv_bipush (v := (-2)) hx hb dX1_twicePlace_42 (by decide) ?_
      exact nw_iret (rm := ({ frames := 5, cells := 0, slots := 0, locals := 121 } : Room)) X hP hD hS (by simp only [placeF, nwIf_T, nwIf_F, or_true, true_or, or_false, false_or, and_true, true_and, and_false, false_and, not_true_eq_false, not_false_eq_true, Nat.add_sub_cancel, q_2, q_6]) dX1_twicePlace_44
    · skip
      have q_6 : ¬ out ((sa)) ((1 : Int32)) ((2000 : Int32)) := q_6
      refine lv_if_ne (tgt := 42) hx hb dX1_twicePlace_18 (by decide) (fun c9 => absurd c9 (by decide)) (fun _ => ?_)
      refine lv_iload_n hx hb dX1_twicePlace_21 rfl (lv_at hl 3 rfl) ?_
      refine lv_iload_n hx hb dX1_twicePlace_22 rfl (lv_at hl 2 rfl) ?_
      refine lv_sipush (v := (2000)) hx hb dX1_twicePlace_23 (by decide) ?_
      refine nw_Ni (As := [.int (tb), .int (sa), .int (2000)]) (rest := []) X (c_X6_outside lc G ((tb)) ((sa)) ((2000 : Int32)) ) (va_cnB 3 hts ggX1_twicePlace_X6_outside rfl rfl rfl (hK.nest 5 rfl) (hts (.initialized RX6) (List.mem_of_getElem? (i := 10) rfl)) (by decide +kernel) ⟨Nat.le_of_ble_eq_true rfl, Nat.le_of_ble_eq_true rfl⟩) (hts (.static yX6_outside) (List.mem_of_getElem? (i := 9) rfl)) (fun _ _ h => h.2) hP hD hS hA rfl hl.1 rfl (Nat.le_of_ble_eq_true rfl) dX1_twicePlace_26 ⟨Nat.le_of_ble_eq_true rfl, Nat.le_of_ble_eq_true rfl⟩ (fun r H locs hp_9 hP hD hS => ?_)
      obtain ⟨⟨rfl, q_10⟩ | ⟨rfl, q_10⟩, -⟩ := hp_9
      · skip
        have q_10 : out ((tb)) ((sa)) ((2000 : Int32)) := q_10
        refine lv_if_ne (tgt := 42) hx hb dX1_twicePlace_29 (by decide) (fun _ => ?_) (fun c9 => absurd c9 (by decide))
        refine lv_bipush (v := (-2)) hx hb dX1_twicePlace_42 (by decide) ?_
        exact nw_iret (rm := ({ frames := 5, cells := 0, slots := 0, locals := 121 } : Room)) X hP hD hS (by simp only [placeF, nwIf_T, nwIf_F, or_true, true_or, or_false, false_or, and_true, true_and, and_false, false_and, not_true_eq_false, not_false_eq_true, Nat.add_sub_cancel, q_2, q_6, q_10]) dX1_twicePlace_44
      · skip
        have q_10 : ¬ out ((tb)) ((sa)) ((2000 : Int32)) := q_10
        refine lv_if_ne (tgt := 42) hx hb dX1_twicePlace_29 (by decide) (fun c9 => absurd c9 (by decide)) (fun _ => ?_)
        refine lv_iload hx hb dX1_twicePlace_32 (lv_at hl 4 rfl) ?_
        refine lv_iconst (v := (0)) hx hb dX1_twicePlace_34 (by decide) ?_
        refine lv_iconst (v := (1)) hx hb dX1_twicePlace_35 (by decide) ?_
        refine nw_Ni (As := [.int (what), .int (0), .int (1)]) (rest := []) X (c_X6_outside lc G ((what)) ((0 : Int32)) ((1 : Int32)) ) (va_cnB 3 hts ggX1_twicePlace_X6_outside rfl rfl rfl (hK.nest 5 rfl) (hts (.initialized RX6) (List.mem_of_getElem? (i := 10) rfl)) (by decide +kernel) ⟨Nat.le_of_ble_eq_true rfl, Nat.le_of_ble_eq_true rfl⟩) (hts (.static yX6_outside) (List.mem_of_getElem? (i := 9) rfl)) (fun _ _ h => h.2) hP hD hS hA rfl hl.1 rfl (Nat.le_of_ble_eq_true rfl) dX1_twicePlace_36 ⟨Nat.le_of_ble_eq_true rfl, Nat.le_of_ble_eq_true rfl⟩ (fun r H locs hp_13 hP hD hS => ?_)
        obtain ⟨⟨rfl, q_14⟩ | ⟨rfl, q_14⟩, -⟩ := hp_13
        · skip
          have q_14 : out ((what)) ((0 : Int32)) ((1 : Int32)) := q_14
          refine lv_if_eq (tgt := 45) hx hb dX1_twicePlace_39 (by decide) (fun c9 => absurd c9 (by decide)) (fun _ => ?_)
          refine lv_bipush (v := (-2)) hx hb dX1_twicePlace_42 (by decide) ?_
          exact nw_iret (rm := ({ frames := 5, cells := 0, slots := 0, locals := 121 } : Room)) X hP hD hS (by simp only [placeF, nwIf_T, nwIf_F, or_true, true_or, or_false, false_or, and_true, true_and, and_false, false_and, not_true_eq_false, not_false_eq_true, Nat.add_sub_cancel, q_2, q_6, q_10, q_14]) dX1_twicePlace_44
        · skip
          have q_14 : ¬ out ((what)) ((0 : Int32)) ((1 : Int32)) := q_14
          refine lv_if_eq (tgt := 45) hx hb dX1_twicePlace_39 (by decide) (fun _ => ?_) (fun c9 => absurd (by decide) c9)
          refine lv_aload_n hx hb dX1_twicePlace_45 rfl (lv_at hl 0 rfl) ?_
          refine lv_iconst (v := (0)) hx hb dX1_twicePlace_46 (by decide) ?_
          refine nw_Vi (As := [.int (0)]) (rest := []) (q0 := 0) X (c_X1_findDelay lc G (a) (M) ((0 : Int32)) ) (cwV 1 hts gX1_twicePlace_X1_findDelay rfl rfl rfl (by decide +kernel) ⟨Nat.le_of_ble_eq_true rfl, Nat.le_of_ble_eq_true rfl⟩) rfl (show vwCl[1]? = some (RX1, TX1, 1) from rfl) (nwSp.all ((wL G (a) (M)))) hP hD hS hA rfl hl.1 rfl (Nat.le_of_ble_eq_true rfl) dX1_twicePlace_47 ⟨Nat.le_of_ble_eq_true rfl, Nat.le_of_ble_eq_true rfl⟩ (fun r w H locs hp_17 hP hD hS => ?_)
          obtain ⟨rfl, rfl⟩ := hp_17
          have hP : va_P G.1 vwCl ((wL G (a) (M))) H := hP
          have hD : va_D vA ((wL G (a) (M))) := hD
          refine lv_istore (lv' := [(5, .int (delayF (M) ((0 : Int32)))), (0, .ref (a 0)), (1, .int (len)), (2, .int (sa)), (3, .int (tb)), (4, .int (what))]) hx hb dX1_twicePlace_50 hl (by decide) rfl (fun ls hl => ?_)
          refine lv_iload hx hb dX1_twicePlace_52 (lv_at hl 0 rfl) ?_
          refine lv_bipush (v := (-101)) hx hb dX1_twicePlace_54 (by decide) ?_
          refine lv_icmp_ne (tgt := 62) hx hb dX1_twicePlace_56 (by decide) (fun b56_18 => ?_) (fun b56_18 => ?_)
          · skip
            have b56_18 : ¬ ((delayF (M) ((0 : Int32))) = (-101 : Int32)) := b56_18
            refine lv_iload_n hx hb dX1_twicePlace_62 rfl (lv_at hl 2 rfl) ?_
            refine lv_iload hx hb dX1_twicePlace_63 (lv_at hl 0 rfl) ?_
            refine lv_iload_n hx hb dX1_twicePlace_65 rfl (lv_at hl 3 rfl) ?_
            refine lv_imul hx hb dX1_twicePlace_66 ?_
            refine lv_isub hx hb dX1_twicePlace_67 ?_
            refine lv_iload_n hx hb dX1_twicePlace_68 rfl (lv_at hl 2 rfl) ?_
            refine nw_Si (As := [.int ((len) - ((delayF (M) ((0 : Int32))) * (sa))), .int (len)]) (rest := []) X (c_X1_onPipe lc G (((len) - ((delayF (M) ((0 : Int32))) * (sa)))) ((len)) ) (va_cwS 2 hts gX1_twicePlace_X1_onPipe rfl rfl rfl (by decide +kernel) ⟨Nat.le_of_ble_eq_true rfl, Nat.le_of_ble_eq_true rfl⟩) (fun _ _ h => h.2) hP hD hS hA rfl hl.1 rfl (Nat.le_of_ble_eq_true rfl) dX1_twicePlace_69 ⟨Nat.le_of_ble_eq_true rfl, Nat.le_of_ble_eq_true rfl⟩ (fun r H locs hp_19 hP hD hS => ?_)
            obtain ⟨rfl, -⟩ := hp_19
            refine lv_istore (lv' := [(6, .int (pipeF (((len) - ((delayF (M) ((0 : Int32))) * (sa)))) ((len)))), (5, .int (delayF (M) ((0 : Int32)))), (0, .ref (a 0)), (1, .int (len)), (2, .int (sa)), (3, .int (tb)), (4, .int (what))]) hx hb dX1_twicePlace_72 hl (by decide) rfl (fun ls hl => ?_)
            refine lv_iload_n hx hb dX1_twicePlace_74 rfl (lv_at hl 3 rfl) ?_
            refine lv_iload hx hb dX1_twicePlace_75 (lv_at hl 1 rfl) ?_
            refine lv_iload_n hx hb dX1_twicePlace_77 rfl (lv_at hl 5 rfl) ?_
            refine lv_imul hx hb dX1_twicePlace_78 ?_
            refine lv_isub hx hb dX1_twicePlace_79 ?_
            refine lv_iload_n hx hb dX1_twicePlace_80 rfl (lv_at hl 3 rfl) ?_
            refine nw_Si (As := [.int ((len) - ((delayF (M) ((0 : Int32))) * (tb))), .int (len)]) (rest := []) X (c_X1_onPipe lc G (((len) - ((delayF (M) ((0 : Int32))) * (tb)))) ((len)) ) (va_cwS 2 hts gX1_twicePlace_X1_onPipe rfl rfl rfl (by decide +kernel) ⟨Nat.le_of_ble_eq_true rfl, Nat.le_of_ble_eq_true rfl⟩) (fun _ _ h => h.2) hP hD hS hA rfl hl.1 rfl (Nat.le_of_ble_eq_true rfl) dX1_twicePlace_81 ⟨Nat.le_of_ble_eq_true rfl, Nat.le_of_ble_eq_true rfl⟩ (fun r H locs hp_20 hP hD hS => ?_)
            obtain ⟨rfl, -⟩ := hp_20
            refine lv_istore (lv' := [(7, .int (pipeF (((len) - ((delayF (M) ((0 : Int32))) * (tb)))) ((len)))), (6, .int (pipeF (((len) - ((delayF (M) ((0 : Int32))) * (sa)))) ((len)))), (5, .int (delayF (M) ((0 : Int32)))), (0, .ref (a 0)), (1, .int (len)), (2, .int (sa)), (3, .int (tb)), (4, .int (what))]) hx hb dX1_twicePlace_84 hl (by decide) rfl (fun ls hl => ?_)
            refine lv_iload hx hb dX1_twicePlace_86 (lv_at hl 7 rfl) ?_
            refine lv_if_ne (tgt := 101) hx hb dX1_twicePlace_88 (by decide) (fun b88_21 => ?_) (fun b88_21 => ?_)
            · skip
              have b88_21 : ¬ ((what) = (0 : Int32)) := b88_21
              refine lv_iload hx hb dX1_twicePlace_101 (lv_at hl 1 rfl) ?_
              refine lv_iload hx hb dX1_twicePlace_103 (lv_at hl 0 rfl) ?_
              refine nw_max X hl.1 (hts (.methodLink RX1 45 Lib.Math.max.name) (List.mem_of_getElem? (i := 6) rfl)) (hts (.static Lib.Math.max.name) (List.mem_of_getElem? (i := 7) rfl)) (hts (.initialized "java/lang/Math") (List.mem_of_getElem? (i := 4) rfl)) (hts (.code Lib.Math.max.name Lib.Math.max.code 2 (some .int)) (List.mem_of_getElem? (i := 8) rfl)) (Nat.le_of_ble_eq_true rfl) (Nat.le_of_ble_eq_true rfl) (Nat.zero_le _) (Nat.zero_le _) dX1_twicePlace_105 ?_
              exact nw_iret (rm := ({ frames := 5, cells := 0, slots := 0, locals := 121 } : Room)) X hP hD hS (by simp only [placeF, nwIf_T, nwIf_F, or_true, true_or, or_false, false_or, and_true, true_and, and_false, false_and, not_true_eq_false, not_false_eq_true, Nat.add_sub_cancel, q_2, q_6, q_10, q_14, b56_18, b88_21]) dX1_twicePlace_108
            · skip
              have b88_21 : (what) = (0 : Int32) := b88_21
              refine lv_iload hx hb dX1_twicePlace_91 (lv_at hl 1 rfl) ?_
              refine lv_iload hx hb dX1_twicePlace_93 (lv_at hl 0 rfl) ?_
              refine nw_min X hl.1 (hts (.methodLink RX1 40 Lib.Math.min.name) (List.mem_of_getElem? (i := 2) rfl)) (hts (.static Lib.Math.min.name) (List.mem_of_getElem? (i := 3) rfl)) (hts (.initialized "java/lang/Math") (List.mem_of_getElem? (i := 4) rfl)) (hts (.code Lib.Math.min.name Lib.Math.min.code 2 (some .int)) (List.mem_of_getElem? (i := 5) rfl)) (Nat.le_of_ble_eq_true rfl) (Nat.le_of_ble_eq_true rfl) (Nat.zero_le _) (Nat.zero_le _) dX1_twicePlace_95 ?_
              refine lv_goto (tgt := 108) hx hb dX1_twicePlace_98 (by decide) ?_
              exact nw_iret (rm := ({ frames := 5, cells := 0, slots := 0, locals := 121 } : Room)) X hP hD hS (by simp only [placeF, nwIf_T, nwIf_F, or_true, true_or, or_false, false_or, and_true, true_and, and_false, false_and, not_true_eq_false, not_false_eq_true, Nat.add_sub_cancel, q_2, q_6, q_10, q_14, b56_18, eq_true b88_21]) dX1_twicePlace_108
          · skip
            have b56_18 : (delayF (M) ((0 : Int32))) = (-101 : Int32) := b56_18
            refine lv_bipush (v := (-3)) hx hb dX1_twicePlace_59 (by decide) ?_
            exact nw_iret (rm := ({ frames := 5, cells := 0, slots := 0, locals := 121 } : Room)) X hP hD hS (by simp only [placeF, nwIf_T, nwIf_F, or_true, true_or, or_false, false_or, and_true, true_and, and_false, false_and, not_true_eq_false, not_false_eq_true, Nat.add_sub_cancel, q_2, q_6, q_10, q_14, eq_true b56_18]) dX1_twicePlace_61
set_option maxHeartbeats 4000000 in
set_option maxRecDepth 100000 in
theorem c_X1_samplesLost (lc : Launch) (G : nwG) (a : Nat → Nat) (M : Nat → Nat → Int32)   : nwCi lc G yX1_samplesLost wsX1_samplesLost ({ frames := 0, cells := 0, slots := 0, locals := 0 } : Room) [.ref (a 0)] ((wL G (a) (M))) (fun r w => r = lostF (M 0) (M 1) 64 ∧ w = wL G a M) := by
  refine nw_of (cc := cX1_samplesLost) (maxL := 3) (ret := (some .int)) (by decide) rfl (Nat.le_of_ble_eq_true rfl) ?_
  intro vp ve vs vm vb vt vc vA ls X hP hD hA hS hl
  have X : nwAt vp vm vc cX1_samplesLost 3 vs _ wsX1_samplesLost RX1 vt (some .int) "samplesLost" G := X
  have hx := X.1.1
  have hb := X.1.2.1
  have hown := X.1.2.2.2.1
  have hts := X.1.2.2.2.2
  have hK := X.2.2.2.2
  have hl : lv_has ls 3 [(0, .ref (a 0))] := hl
  refine lv_iconst (v := (0)) hx hb dX1_samplesLost_0 (by decide) ?_
  refine lv_istore_n (lv' := [(1, .int (0)), (0, .ref (a 0))]) hx hb dX1_samplesLost_1 rfl hl (by decide) rfl (fun ls hl => ?_)
  refine lv_iconst (v := (0)) hx hb dX1_samplesLost_2 (by decide) ?_
  refine lv_istore_n (lv' := [(2, .int (0)), (1, .int (0)), (0, .ref (a 0))]) hx hb dX1_samplesLost_3 rfl hl (by decide) rfl (fun ls hl => ?_)
  have K4 : ∀ (fuel : Nat) (i : Nat) (x1 : Int32) (H : Heap) (locs : List Loc) (ls : Array Slot), (65 - i) < fuel → (i ≤ 64) → (x1 = lostF (M 0) (M 1) i) → lv_has ls 3 [(2, .int (nI (i))), (1, .int (x1)), (0, .ref (a 0))] → va_P G.1 vwCl ((wL G (a) (M))) H → va_D vA ((wL G (a) (M))) → va_S vA vs.heap H locs → W vp lc ve ({ frames := 0, cells := 0, slots := 0, locals := 0 } : Room) vs vm ([.ref (a 0)] : List Value).toArray vb vt vc H locs 0 0 (MQ vb (nwQi G (fun r w => r = lostF (M 0) (M 1) 64 ∧ w = wL G a M) vA) ([.ref (a 0)] : List Value).toArray vs ({ frames := 0, cells := 0, slots := 0, locals := 0 } : Room).cells ({ frames := 0, cells := 0, slots := 0, locals := 0 } : Room).slots vA) (F0 vm 4 ls []) := by
    intro fuel
    induction fuel with
    | zero => intro i x1 H locs ls hmu; exact absurd hmu (Nat.not_lt_zero _)
    | succ fuel ih4 =>
      intro i x1 H locs ls hmu hi e1 hl hP hD hS
      refine lv_iload_n hx hb dX1_samplesLost_4 rfl (lv_at hl 0 rfl) ?_
      refine lv_bipush (v := (64)) hx hb dX1_samplesLost_5 (by decide) ?_
      refine lv_icmp_ge (tgt := 58) hx hb dX1_samplesLost_7 (by decide) (fun b7_1 => ?_) (fun b7_1 => ?_)
      · skip
        have b7_1 : (64) ≤ (i) := (nI_leI (a := 64) (b := i) (by omega) (by omega)).mp b7_1
        have b7_1n : ¬ ((i) < (64)) := by omega
        refine lv_iload_n hx hb dX1_samplesLost_58 rfl (lv_at hl 1 rfl) ?_
        exact nw_iret (rm := ({ frames := 0, cells := 0, slots := 0, locals := 0 } : Room)) X hP hD hS (⟨e1.trans (by rw [show i = 64 by omega]), rfl⟩) dX1_samplesLost_59
      · skip
        have b7_1 : ¬ ((64) ≤ (i)) := fun h => b7_1 ((nI_leI (a := 64) (b := i) (by omega) (by omega)).mpr h)
        have b7_1n : (i) < (64) := by omega
        refine lv_iload_n hx hb dX1_samplesLost_10 rfl (lv_at hl 1 rfl) ?_
        refine lv_aload_n hx hb dX1_samplesLost_11 rfl (lv_at hl 2 rfl) ?_
        refine va_get (D := G.1) (ci := 1) (v := .ref (a 1)) (C := RX1) (T := TX1) (N := 1) hx hb hts in_X1_samplesLost_X1 hown hK.1 hP 0 rfl rfl 0 (by decide) (hts (.fieldLink RX1 13 "NightWater$Listeners" "rows" "[[I") (List.mem_of_getElem? (i := 1) rfl)) (fun _ h9 => h9) rfl dX1_samplesLost_12 ?_
        refine lv_iconst (v := (0)) hx hb dX1_samplesLost_15 (by decide) ?_
        refine nw_aald X hP 1 rfl (0) rfl (by omega) (by decide) dX1_samplesLost_16 ?_
        show W _ _ _ _ _ _ _ _ _ _ _ _ _ _ _ (F0 vm _ ls (.ref (a (2 + 0)) :: _))
        refine lv_iload_n hx hb dX1_samplesLost_17 rfl (lv_at hl 0 rfl) ?_
        refine nw_rald (X0 := _) (r := fun i => a (2 + i)) (N := 2) (n := 64) (M := M) X hP (0) (by omega) (i) rfl (by omega) (by decide) dX1_samplesLost_18 ?_
        refine lv_ldc (own := RX1) (v := (-2000000000)) hx hb hown (hts (.constant RX1 20 (-2000000000)) (List.mem_of_getElem? (i := 2) rfl)) dX1_samplesLost_19 ?_
        refine lv_icmp_ne (tgt := 28) hx hb dX1_samplesLost_21 (by decide) (fun b21_2 => ?_) (fun b21_2 => ?_)
        · skip
          have b21_2 : ¬ ((M (0) (i)) = (-2000000000 : Int32)) := b21_2
          refine lv_iconst (v := (0)) hx hb dX1_samplesLost_28 (by decide) ?_
          refine lv_iadd hx hb dX1_samplesLost_29 ?_
          refine lv_istore_n (lv' := [(1, .int ((x1) + (0 : Int32))), (2, .int (nI (i))), (0, .ref (a 0))]) hx hb dX1_samplesLost_30 rfl hl (by decide) rfl (fun ls hl => ?_)
          refine lv_iload_n hx hb dX1_samplesLost_31 rfl (lv_at hl 0 rfl) ?_
          refine lv_aload_n hx hb dX1_samplesLost_32 rfl (lv_at hl 2 rfl) ?_
          refine va_get (D := G.1) (ci := 1) (v := .ref (a 1)) (C := RX1) (T := TX1) (N := 1) hx hb hts in_X1_samplesLost_X1 hown hK.1 hP 0 rfl rfl 0 (by decide) (hts (.fieldLink RX1 13 "NightWater$Listeners" "rows" "[[I") (List.mem_of_getElem? (i := 1) rfl)) (fun _ h9 => h9) rfl dX1_samplesLost_33 ?_
          refine lv_iconst (v := (1)) hx hb dX1_samplesLost_36 (by decide) ?_
          refine nw_aald X hP 1 rfl (1) rfl (by omega) (by decide) dX1_samplesLost_37 ?_
          show W _ _ _ _ _ _ _ _ _ _ _ _ _ _ _ (F0 vm _ ls (.ref (a (2 + 1)) :: _))
          refine lv_iload_n hx hb dX1_samplesLost_38 rfl (lv_at hl 1 rfl) ?_
          refine nw_rald (X0 := _) (r := fun i => a (2 + i)) (N := 2) (n := 64) (M := M) X hP (1) (by omega) (i) rfl (by omega) (by decide) dX1_samplesLost_39 ?_
          refine lv_ldc (own := RX1) (v := (-2000000000)) hx hb hown (hts (.constant RX1 20 (-2000000000)) (List.mem_of_getElem? (i := 2) rfl)) dX1_samplesLost_40 ?_
          refine lv_icmp_ne (tgt := 49) hx hb dX1_samplesLost_42 (by decide) (fun b42_3 => ?_) (fun b42_3 => ?_)
          · skip
            have b42_3 : ¬ ((M (1) (i)) = (-2000000000 : Int32)) := b42_3
            refine lv_iconst (v := (0)) hx hb dX1_samplesLost_49 (by decide) ?_
            refine lv_iadd hx hb dX1_samplesLost_50 ?_
            refine lv_istore_n (lv' := [(1, .int (((x1) + (0 : Int32)) + (0 : Int32))), (2, .int (nI (i))), (0, .ref (a 0))]) hx hb dX1_samplesLost_51 rfl hl (by decide) rfl (fun ls hl => ?_)
            refine lv_iinc (v := (nI (i + 1))) (lv' := [(2, .int (nI (i + 1))), (1, .int (((x1) + (0 : Int32)) + (0 : Int32))), (0, .ref (a 0))]) hx hb dX1_samplesLost_52 hl (k := 1) rfl (by exact nI_add (i) 1) (by decide) rfl (fun ls hl => ?_)
            refine lv_goto (tgt := 4) hx hb dX1_samplesLost_55 (by decide) ?_
            exact ih4 (i + 1) ((((x1) + (0 : Int32)) + (0 : Int32))) _ _ _ (by omega) (by omega) (by rw [lostF_s, ← e1]; simp only [nwIf_T, nwIf_F, or_true, true_or, or_false, false_or, and_true, true_and, and_false, false_and, not_true_eq_false, not_false_eq_true, Nat.add_sub_cancel, b7_1n, b7_1, b21_2, b42_3]) (lv_sub hl [0, 1, 2] rfl) hP hD hS
          · skip
            have b42_3 : (M (1) (i)) = (-2000000000 : Int32) := b42_3
            refine lv_iconst (v := (1)) hx hb dX1_samplesLost_45 (by decide) ?_
            refine lv_goto (tgt := 50) hx hb dX1_samplesLost_46 (by decide) ?_
            refine lv_iadd hx hb dX1_samplesLost_50 ?_
            refine lv_istore_n (lv' := [(1, .int (((x1) + (0 : Int32)) + (1 : Int32))), (2, .int (nI (i))), (0, .ref (a 0))]) hx hb dX1_samplesLost_51 rfl hl (by decide) rfl (fun ls hl => ?_)
            refine lv_iinc (v := (nI (i + 1))) (lv' := [(2, .int (nI (i + 1))), (1, .int (((x1) + (0 : Int32)) + (1 : Int32))), (0, .ref (a 0))]) hx hb dX1_samplesLost_52 hl (k := 1) rfl (by exact nI_add (i) 1) (by decide) rfl (fun ls hl => ?_)
            refine lv_goto (tgt := 4) hx hb dX1_samplesLost_55 (by decide) ?_
            exact ih4 (i + 1) ((((x1) + (0 : Int32)) + (1 : Int32))) _ _ _ (by omega) (by omega) (by rw [lostF_s, ← e1]; simp only [nwIf_T, nwIf_F, or_true, true_or, or_false, false_or, and_true, true_and, and_false, false_and, not_true_eq_false, not_false_eq_true, Nat.add_sub_cancel, b7_1n, b7_1, b21_2, eq_true b42_3]) (lv_sub hl [0, 1, 2] rfl) hP hD hS
        · skip
          have b21_2 : (M (0) (i)) = (-2000000000 : Int32) := b21_2
          refine lv_iconst (v := (1)) hx hb dX1_samplesLost_24 (by decide) ?_
          refine lv_goto (tgt := 29) hx hb dX1_samplesLost_25 (by decide) ?_
          refine lv_iadd hx hb dX1_samplesLost_29 ?_
          refine lv_istore_n (lv' := [(1, .int ((x1) + (1 : Int32))), (2, .int (nI (i))), (0, .ref (a 0))]) hx hb dX1_samplesLost_30 rfl hl (by decide) rfl (fun ls hl => ?_)
          refine lv_iload_n hx hb dX1_samplesLost_31 rfl (lv_at hl 0 rfl) ?_
          refine lv_aload_n hx hb dX1_samplesLost_32 rfl (lv_at hl 2 rfl) ?_
          refine va_get (D := G.1) (ci := 1) (v := .ref (a 1)) (C := RX1) (T := TX1) (N := 1) hx hb hts in_X1_samplesLost_X1 hown hK.1 hP 0 rfl rfl 0 (by decide) (hts (.fieldLink RX1 13 "NightWater$Listeners" "rows" "[[I") (List.mem_of_getElem? (i := 1) rfl)) (fun _ h9 => h9) rfl dX1_samplesLost_33 ?_
          refine lv_iconst (v := (1)) hx hb dX1_samplesLost_36 (by decide) ?_
          refine nw_aald X hP 1 rfl (1) rfl (by omega) (by decide) dX1_samplesLost_37 ?_
          show W _ _ _ _ _ _ _ _ _ _ _ _ _ _ _ (F0 vm _ ls (.ref (a (2 + 1)) :: _))
          refine lv_iload_n hx hb dX1_samplesLost_38 rfl (lv_at hl 1 rfl) ?_
          refine nw_rald (X0 := _) (r := fun i => a (2 + i)) (N := 2) (n := 64) (M := M) X hP (1) (by omega) (i) rfl (by omega) (by decide) dX1_samplesLost_39 ?_
          refine lv_ldc (own := RX1) (v := (-2000000000)) hx hb hown (hts (.constant RX1 20 (-2000000000)) (List.mem_of_getElem? (i := 2) rfl)) dX1_samplesLost_40 ?_
          refine lv_icmp_ne (tgt := 49) hx hb dX1_samplesLost_42 (by decide) (fun b42_4 => ?_) (fun b42_4 => ?_)
          · skip
            have b42_4 : ¬ ((M (1) (i)) = (-2000000000 : Int32)) := b42_4
            refine lv_iconst (v := (0)) hx hb dX1_samplesLost_49 (by decide) ?_
            refine lv_iadd hx hb dX1_samplesLost_50 ?_
            refine lv_istore_n (lv' := [(1, .int (((x1) + (1 : Int32)) + (0 : Int32))), (2, .int (nI (i))), (0, .ref (a 0))]) hx hb dX1_samplesLost_51 rfl hl (by decide) rfl (fun ls hl => ?_)
            refine lv_iinc (v := (nI (i + 1))) (lv' := [(2, .int (nI (i + 1))), (1, .int (((x1) + (1 : Int32)) + (0 : Int32))), (0, .ref (a 0))]) hx hb dX1_samplesLost_52 hl (k := 1) rfl (by exact nI_add (i) 1) (by decide) rfl (fun ls hl => ?_)
            refine lv_goto (tgt := 4) hx hb dX1_samplesLost_55 (by decide) ?_
            exact ih4 (i + 1) ((((x1) + (1 : Int32)) + (0 : Int32))) _ _ _ (by omega) (by omega) (by rw [lostF_s, ← e1]; simp only [nwIf_T, nwIf_F, or_true, true_or, or_false, false_or, and_true, true_and, and_false, false_and, not_true_eq_false, not_false_eq_true, Nat.add_sub_cancel, b7_1n, b7_1, eq_true b21_2, b42_4]) (lv_sub hl [0, 1, 2] rfl) hP hD hS
          · skip
            have b42_4 : (M (1) (i)) = (-2000000000 : Int32) := b42_4
            refine lv_iconst (v := (1)) hx hb dX1_samplesLost_45 (by decide) ?_
            refine lv_goto (tgt := 50) hx hb dX1_samplesLost_46 (by decide) ?_
            refine lv_iadd hx hb dX1_samplesLost_50 ?_
            refine lv_istore_n (lv' := [(1, .int (((x1) + (1 : Int32)) + (1 : Int32))), (2, .int (nI (i))), (0, .ref (a 0))]) hx hb dX1_samplesLost_51 rfl hl (by decide) rfl (fun ls hl => ?_)
            refine lv_iinc (v := (nI (i + 1))) (lv' := [(2, .int (nI (i + 1))), (1, .int (((x1) + (1 : Int32)) + (1 : Int32))), (0, .ref (a 0))]) hx hb dX1_samplesLost_52 hl (k := 1) rfl (by exact nI_add (i) 1) (by decide) rfl (fun ls hl => ?_)
            refine lv_goto (tgt := 4) hx hb dX1_samplesLost_55 (by decide) ?_
            exact ih4 (i + 1) ((((x1) + (1 : Int32)) + (1 : Int32))) _ _ _ (by omega) (by omega) (by rw [lostF_s, ← e1]; simp only [nwIf_T, nwIf_F, or_true, true_or, or_false, false_or, and_true, true_and, and_false, false_and, not_true_eq_false, not_false_eq_true, Nat.add_sub_cancel, b7_1n, b7_1, eq_true b21_2, eq_true b42_4]) (lv_sub hl [0, 1, 2] rfl) hP hD hS
  exact K4 ((65 - (0)) + 1) (0) ((0 : Int32)) _ _ _ (Nat.lt_succ_self _) (by omega) (by rfl) (lv_sub hl [0, 1, 2] rfl) hP hD hS
set_option maxHeartbeats 4000000 in
set_option maxRecDepth 100000 in
theorem c_X1_mixInto (lc : Launch) (G : nwG) (a : Nat → Nat) (M : Nat → Nat → Int32) (h0 : Int64)  : nwCl lc G yX1_mixInto wsX1_mixInto ({ frames := 1, cells := 0, slots := 0, locals := 22 } : Room) [.ref (a 0), .long (h0)] ((wL G (a) (M))) (fun r w => r = mixR (M 1) (mixR (M 0) h0 64) 64 ∧ w = wL G a M) := by
  refine nw_of (cc := cX1_mixInto) (maxL := 7) (ret := (some .long)) (by decide) rfl (Nat.le_of_ble_eq_true rfl) ?_
  intro vp ve vs vm vb vt vc vA ls X hP hD hA hS hl
  have X : nwAt vp vm vc cX1_mixInto 7 vs _ wsX1_mixInto RX1 vt (some .long) "mixInto" G := X
  have hx := X.1.1
  have hb := X.1.2.1
  have hown := X.1.2.2.2.1
  have hts := X.1.2.2.2.2
  have hK := X.2.2.2.2
  have hl : lv_has ls 7 [(0, .ref (a 0)), (1, .long (h0))] := hl
  refine lv_lload_n hx hb dX1_mixInto_0 rfl (lv_at hl 1 rfl) ?_
  refine lv_lstore_n (lv' := [(3, .long (h0)), (0, .ref (a 0)), (1, .long (h0))]) hx hb dX1_mixInto_1 rfl hl (by decide) rfl (fun ls hl => ?_)
  refine lv_iconst (v := (0)) hx hb dX1_mixInto_2 (by decide) ?_
  refine lv_istore (lv' := [(5, .int (0)), (3, .long (h0)), (0, .ref (a 0)), (1, .long (h0))]) hx hb dX1_mixInto_3 hl (by decide) rfl (fun ls hl => ?_)
  have K5 : ∀ (fuel : Nat) (q : Nat) (x3 : Int64) (H : Heap) (locs : List Loc) (ls : Array Slot), (3 - q) < fuel → (q ≤ 2) → (x3 = mix2 M h0 q) → lv_has ls 7 [(5, .int (nI (q))), (3, .long (x3)), (0, .ref (a 0)), (1, .long (h0))] → va_P G.1 vwCl ((wL G (a) (M))) H → va_D vA ((wL G (a) (M))) → va_S vA vs.heap H locs → W vp lc ve ({ frames := 1, cells := 0, slots := 0, locals := 22 } : Room) vs vm ([.ref (a 0), .long (h0)] : List Value).toArray vb vt vc H locs 0 0 (MQ vb (nwQl G (fun r w => r = mixR (M 1) (mixR (M 0) h0 64) 64 ∧ w = wL G a M) vA) ([.ref (a 0), .long (h0)] : List Value).toArray vs ({ frames := 1, cells := 0, slots := 0, locals := 22 } : Room).cells ({ frames := 1, cells := 0, slots := 0, locals := 22 } : Room).slots vA) (F0 vm 5 ls []) := by
    intro fuel
    induction fuel with
    | zero => intro q x3 H locs ls hmu; exact absurd hmu (Nat.not_lt_zero _)
    | succ fuel ih5 =>
      intro q x3 H locs ls hmu hq e3 hl hP hD hS
      refine lv_iload hx hb dX1_mixInto_5 (lv_at hl 0 rfl) ?_
      refine lv_iconst (v := (1)) hx hb dX1_mixInto_7 (by decide) ?_
      refine lv_icmp_gt (tgt := 48) hx hb dX1_mixInto_8 (by decide) (fun b8_1 => ?_) (fun b8_1 => ?_)
      · skip
        have b8_1 : (1) < (q) := (nI_ltI (a := 1) (b := q) (by omega) (by omega)).mp b8_1
        have b8_1n : ¬ ((q) ≤ (1)) := by omega
        refine lv_lload_n hx hb dX1_mixInto_48 rfl (lv_at hl 1 rfl) ?_
        exact nw_lret (rm := ({ frames := 1, cells := 0, slots := 0, locals := 22 } : Room)) X hP hD hS (⟨e3.trans (by rw [show q = 2 by omega]; rfl), rfl⟩) dX1_mixInto_49
      · skip
        have b8_1 : ¬ ((1) < (q)) := fun h => b8_1 ((nI_ltI (a := 1) (b := q) (by omega) (by omega)).mpr h)
        have b8_1n : (q) ≤ (1) := by omega
        refine lv_iconst (v := (0)) hx hb dX1_mixInto_11 (by decide) ?_
        refine lv_istore (lv' := [(6, .int (0)), (5, .int (nI (q))), (3, .long (x3)), (0, .ref (a 0)), (1, .long (h0))]) hx hb dX1_mixInto_12 hl (by decide) rfl (fun ls hl => ?_)
        have K14 : ∀ (fuel : Nat) (i : Nat) (y3 : Int64) (H : Heap) (locs : List Loc) (ls : Array Slot), (65 - i) < fuel → (i ≤ 64) → (y3 = mixR (M q) (mix2 M h0 q) i) → lv_has ls 7 [(6, .int (nI (i))), (5, .int (nI (q))), (3, .long (y3)), (0, .ref (a 0)), (1, .long (h0))] → va_P G.1 vwCl ((wL G (a) (M))) H → va_D vA ((wL G (a) (M))) → va_S vA vs.heap H locs → W vp lc ve ({ frames := 1, cells := 0, slots := 0, locals := 22 } : Room) vs vm ([.ref (a 0), .long (h0)] : List Value).toArray vb vt vc H locs 0 0 (MQ vb (nwQl G (fun r w => r = mixR (M 1) (mixR (M 0) h0 64) 64 ∧ w = wL G a M) vA) ([.ref (a 0), .long (h0)] : List Value).toArray vs ({ frames := 1, cells := 0, slots := 0, locals := 22 } : Room).cells ({ frames := 1, cells := 0, slots := 0, locals := 22 } : Room).slots vA) (F0 vm 14 ls []) := by
          intro fuel
          induction fuel with
          | zero => intro i y3 H locs ls hmu; exact absurd hmu (Nat.not_lt_zero _)
          | succ fuel ih14 =>
            intro i y3 H locs ls hmu hi f3 hl hP hD hS
            refine lv_iload hx hb dX1_mixInto_14 (lv_at hl 0 rfl) ?_
            refine lv_bipush (v := (64)) hx hb dX1_mixInto_16 (by decide) ?_
            refine lv_icmp_ge (tgt := 42) hx hb dX1_mixInto_18 (by decide) (fun b18_2 => ?_) (fun b18_2 => ?_)
            · skip
              have b18_2 : (64) ≤ (i) := (nI_leI (a := 64) (b := i) (by omega) (by omega)).mp b18_2
              have b18_2n : ¬ ((i) < (64)) := by omega
              refine lv_iinc (v := (nI (q + 1))) (lv' := [(5, .int (nI (q + 1))), (6, .int (nI (i))), (3, .long (y3)), (0, .ref (a 0)), (1, .long (h0))]) hx hb dX1_mixInto_42 hl (k := 1) rfl (by exact nI_add (q) 1) (by decide) rfl (fun ls hl => ?_)
              refine lv_goto (tgt := 5) hx hb dX1_mixInto_45 (by decide) ?_
              exact ih5 (q + 1) ((y3)) _ _ _ (by omega) (by omega) (by rw [mix2_s, f3, show i = 64 by omega]) (lv_sub hl [0, 2, 3, 4] rfl) hP hD hS
            · skip
              have b18_2 : ¬ ((64) ≤ (i)) := fun h => b18_2 ((nI_leI (a := 64) (b := i) (by omega) (by omega)).mpr h)
              have b18_2n : (i) < (64) := by omega
              refine lv_lload_n hx hb dX1_mixInto_21 rfl (lv_at hl 2 rfl) ?_
              refine lv_aload_n hx hb dX1_mixInto_22 rfl (lv_at hl 3 rfl) ?_
              refine va_get (D := G.1) (ci := 1) (v := .ref (a 1)) (C := RX1) (T := TX1) (N := 1) hx hb hts in_X1_mixInto_X1 hown hK.1 hP 0 rfl rfl 0 (by decide) (hts (.fieldLink RX1 13 "NightWater$Listeners" "rows" "[[I") (List.mem_of_getElem? (i := 1) rfl)) (fun _ h9 => h9) rfl dX1_mixInto_23 ?_
              refine lv_iload hx hb dX1_mixInto_26 (lv_at hl 1 rfl) ?_
              refine nw_aald X hP 1 rfl (q) rfl (by omega) (by decide) dX1_mixInto_28 ?_
              show W _ _ _ _ _ _ _ _ _ _ _ _ _ _ _ (F0 vm _ ls (.ref (a (2 + q)) :: _))
              refine lv_iload hx hb dX1_mixInto_29 (lv_at hl 0 rfl) ?_
              refine nw_rald (X0 := _) (r := fun i => a (2 + i)) (N := 2) (n := 64) (M := M) X hP (q) (by omega) (i) rfl (by omega) (by decide) dX1_mixInto_31 ?_
              refine nw_Nl (As := [.long (y3), .int (M (q) (i))]) (rest := []) X (c_X6_mix lc G ((y3)) ((M (q) (i))) ) (va_cnB 2 hts ggX1_mixInto_X6_mix rfl rfl rfl (hK.nest 11 rfl) (hts (.initialized RX6) (List.mem_of_getElem? (i := 3) rfl)) (by decide +kernel) ⟨Nat.le_of_ble_eq_true rfl, Nat.le_of_ble_eq_true rfl⟩) (hts (.static yX6_mix) (List.mem_of_getElem? (i := 2) rfl)) (fun _ _ h => h.2) hP hD hS hA rfl hl.1 rfl (Nat.le_of_ble_eq_true rfl) dX1_mixInto_32 ⟨Nat.le_of_ble_eq_true rfl, Nat.le_of_ble_eq_true rfl⟩ (fun r H locs hp_3 hP hD hS => ?_)
              obtain ⟨rfl, -⟩ := hp_3
              refine lv_lstore_n (lv' := [(3, .long (31 * ((y3)) + (((M (q) (i)))).toInt64)), (6, .int (nI (i))), (5, .int (nI (q))), (0, .ref (a 0)), (1, .long (h0))]) hx hb dX1_mixInto_35 rfl hl (by decide) rfl (fun ls hl => ?_)
              refine lv_iinc (v := (nI (i + 1))) (lv' := [(6, .int (nI (i + 1))), (3, .long (31 * ((y3)) + (((M (q) (i)))).toInt64)), (5, .int (nI (q))), (0, .ref (a 0)), (1, .long (h0))]) hx hb dX1_mixInto_36 hl (k := 1) rfl (by exact nI_add (i) 1) (by decide) rfl (fun ls hl => ?_)
              refine lv_goto (tgt := 14) hx hb dX1_mixInto_39 (by decide) ?_
              exact ih14 (i + 1) ((31 * ((y3)) + (((M (q) (i)))).toInt64)) _ _ _ (by omega) (by omega) (by rw [mixR_s, f3]) (lv_sub hl [0, 2, 1, 3, 4] rfl) hP hD hS
        exact K14 ((65 - (0)) + 1) (0) ((x3)) _ _ _ (Nat.lt_succ_self _) (by omega) (by rw [e3]; rfl) (lv_sub hl [0, 1, 2, 3, 4] rfl) hP hD hS
  exact K5 ((3 - (0)) + 1) (0) ((h0)) _ _ _ (Nat.lt_succ_self _) (by omega) (by rfl) (lv_sub hl [0, 1, 2, 3] rfl) hP hD hS
set_option maxHeartbeats 4000000 in
set_option maxRecDepth 100000 in
theorem c_X1_copySamples (lc : Launch) (G : nwG) (a : Nat → Nat) (M : Nat → Nat → Int32) (li i j n : Int32)  : nwCi lc G yX1_copySamples wsX1_copySamples ({ frames := 1, cells := 0, slots := 0, locals := 22 } : Room) [.ref (a 0), .int (li), .int (i), .int (j), .int (n)] ((wL G (a) (M))) (fun r w => r = nwIf (echoBad li i j n) (-2) 1 ∧ w = wL G a (nwIf (echoBad li i j n) M (cpF M li.toNatClampNeg i.toNatClampNeg j.toNatClampNeg n.toNatClampNeg))) := by
  refine nw_of (cc := cX1_copySamples) (maxL := 6) (ret := (some .int)) (by decide) rfl (Nat.le_of_ble_eq_true rfl) ?_
  intro vp ve vs vm vb vt vc vA ls X hP hD hA hS hl
  have X : nwAt vp vm vc cX1_copySamples 6 vs _ wsX1_copySamples RX1 vt (some .int) "copySamples" G := X
  have hx := X.1.1
  have hb := X.1.2.1
  have hown := X.1.2.2.2.1
  have hts := X.1.2.2.2.2
  have hK := X.2.2.2.2
  have hl : lv_has ls 6 [(0, .ref (a 0)), (1, .int (li)), (2, .int (i)), (3, .int (j)), (4, .int (n))] := hl
  refine lv_iload_n hx hb dX1_copySamples_0 rfl (lv_at hl 1 rfl) ?_
  refine lv_iconst (v := (0)) hx hb dX1_copySamples_1 (by decide) ?_
  refine lv_iconst (v := (1)) hx hb dX1_copySamples_2 (by decide) ?_
  refine nw_Ni (As := [.int (li), .int (0), .int (1)]) (rest := []) X (c_X6_outside lc G ((li)) ((0 : Int32)) ((1 : Int32)) ) (va_cnB 3 hts ggX1_copySamples_X6_outside rfl rfl rfl (hK.nest 5 rfl) (hts (.initialized RX6) (List.mem_of_getElem? (i := 3) rfl)) (by decide +kernel) ⟨Nat.le_of_ble_eq_true rfl, Nat.le_of_ble_eq_true rfl⟩) (hts (.static yX6_outside) (List.mem_of_getElem? (i := 2) rfl)) (fun _ _ h => h.2) hP hD hS hA rfl hl.1 rfl (Nat.le_of_ble_eq_true rfl) dX1_copySamples_3 ⟨Nat.le_of_ble_eq_true rfl, Nat.le_of_ble_eq_true rfl⟩ (fun r H locs hp_1 hP hD hS => ?_)
  obtain ⟨⟨rfl, q_2⟩ | ⟨rfl, q_2⟩, -⟩ := hp_1
  · skip
    have q_2 : out ((li)) ((0 : Int32)) ((1 : Int32)) := q_2
    refine lv_if_ne (tgt := 46) hx hb dX1_copySamples_6 (by decide) (fun _ => ?_) (fun c9 => absurd c9 (by decide))
    refine lv_bipush (v := (-2)) hx hb dX1_copySamples_46 (by decide) ?_
    exact nw_iret (rm := ({ frames := 1, cells := 0, slots := 0, locals := 22 } : Room)) X hP hD hS (by simp only [echoBad, nwIf_T, nwIf_F, or_true, true_or, or_false, false_or, and_true, true_and, and_false, false_and, not_true_eq_false, not_false_eq_true, Nat.add_sub_cancel, q_2]) dX1_copySamples_48
  · skip
    have q_2 : ¬ out ((li)) ((0 : Int32)) ((1 : Int32)) := q_2
    obtain ⟨z_4, hz_5, he_6⟩ := nw_le (n := 1) rfl (by decide) q_2
    have ec_7 := nw_clamp he_6 (by omega)
    refine lv_if_ne (tgt := 46) hx hb dX1_copySamples_6 (by decide) (fun c9 => absurd c9 (by decide)) (fun _ => ?_)
    refine lv_iload hx hb dX1_copySamples_9 (lv_at hl 4 rfl) ?_
    refine lv_iconst (v := (1)) hx hb dX1_copySamples_11 (by decide) ?_
    refine lv_bipush (v := (64)) hx hb dX1_copySamples_12 (by decide) ?_
    refine nw_Ni (As := [.int (n), .int (1), .int (64)]) (rest := []) X (c_X6_outside lc G ((n)) ((1 : Int32)) ((64 : Int32)) ) (va_cnB 3 hts ggX1_copySamples_X6_outside rfl rfl rfl (hK.nest 5 rfl) (hts (.initialized RX6) (List.mem_of_getElem? (i := 3) rfl)) (by decide +kernel) ⟨Nat.le_of_ble_eq_true rfl, Nat.le_of_ble_eq_true rfl⟩) (hts (.static yX6_outside) (List.mem_of_getElem? (i := 2) rfl)) (fun _ _ h => h.2) hP hD hS hA rfl hl.1 rfl (Nat.le_of_ble_eq_true rfl) dX1_copySamples_14 ⟨Nat.le_of_ble_eq_true rfl, Nat.le_of_ble_eq_true rfl⟩ (fun r H locs hp_9 hP hD hS => ?_)
    obtain ⟨⟨rfl, q_10⟩ | ⟨rfl, q_10⟩, -⟩ := hp_9
    · skip
      have q_10 : out ((n)) ((1 : Int32)) ((64 : Int32)) := q_10
      refine lv_if_ne (tgt := 46) hx hb dX1_copySamples_17 (by decide) (fun _ => ?_) (fun c9 => absurd c9 (by decide))
      refine lv_bipush (v := (-2)) hx hb dX1_copySamples_46 (by decide) ?_
      exact nw_iret (rm := ({ frames := 1, cells := 0, slots := 0, locals := 22 } : Room)) X hP hD hS (by simp only [echoBad, nwIf_T, nwIf_F, or_true, true_or, or_false, false_or, and_true, true_and, and_false, false_and, not_true_eq_false, not_false_eq_true, Nat.add_sub_cancel, q_2, ec_7, q_10]) dX1_copySamples_48
    · skip
      have q_10 : ¬ out ((n)) ((1 : Int32)) ((64 : Int32)) := q_10
      obtain ⟨m_12, hm_13, hm_14, he_15⟩ := nw_rng q_10
      have ec_16 := nw_clamp he_15 (by omega)
      refine lv_if_ne (tgt := 46) hx hb dX1_copySamples_17 (by decide) (fun c9 => absurd c9 (by decide)) (fun _ => ?_)
      refine lv_iload_n hx hb dX1_copySamples_20 rfl (lv_at hl 2 rfl) ?_
      refine lv_iconst (v := (0)) hx hb dX1_copySamples_21 (by decide) ?_
      refine lv_bipush (v := (64)) hx hb dX1_copySamples_22 (by decide) ?_
      refine lv_iload hx hb dX1_copySamples_24 (lv_at hl 4 rfl) ?_
      refine lv_isub hx hb dX1_copySamples_26 ?_
      refine nw_Ni (As := [.int (i), .int (0), .int ((64 : Int32) - (n))]) (rest := []) X (c_X6_outside lc G ((i)) ((0 : Int32)) (((64 : Int32) - (n))) ) (va_cnB 3 hts ggX1_copySamples_X6_outside rfl rfl rfl (hK.nest 5 rfl) (hts (.initialized RX6) (List.mem_of_getElem? (i := 3) rfl)) (by decide +kernel) ⟨Nat.le_of_ble_eq_true rfl, Nat.le_of_ble_eq_true rfl⟩) (hts (.static yX6_outside) (List.mem_of_getElem? (i := 2) rfl)) (fun _ _ h => h.2) hP hD hS hA rfl hl.1 rfl (Nat.le_of_ble_eq_true rfl) dX1_copySamples_27 ⟨Nat.le_of_ble_eq_true rfl, Nat.le_of_ble_eq_true rfl⟩ (fun r H locs hp_18 hP hD hS => ?_)
      obtain ⟨⟨rfl, q_19⟩ | ⟨rfl, q_19⟩, -⟩ := hp_18
      · skip
        have q_19 : out ((i)) ((0 : Int32)) (((64 : Int32) - (n))) := q_19
        refine lv_if_ne (tgt := 46) hx hb dX1_copySamples_30 (by decide) (fun _ => ?_) (fun c9 => absurd c9 (by decide))
        refine lv_bipush (v := (-2)) hx hb dX1_copySamples_46 (by decide) ?_
        exact nw_iret (rm := ({ frames := 1, cells := 0, slots := 0, locals := 22 } : Room)) X hP hD hS (by simp only [echoBad, nwIf_T, nwIf_F, or_true, true_or, or_false, false_or, and_true, true_and, and_false, false_and, not_true_eq_false, not_false_eq_true, Nat.add_sub_cancel, q_2, ec_7, q_10, ec_16, q_19]) dX1_copySamples_48
      · skip
        have q_19 : ¬ out ((i)) ((0 : Int32)) (((64 : Int32) - (n))) := q_19
        obtain ⟨z_21, hz_22, he_23⟩ := nw_le (n := 64 - m_12) (nw_64 he_15 (by omega)) (by omega) q_19
        have ec_24 := nw_clamp he_23 (by omega)
        refine lv_if_ne (tgt := 46) hx hb dX1_copySamples_30 (by decide) (fun c9 => absurd c9 (by decide)) (fun _ => ?_)
        refine lv_iload_n hx hb dX1_copySamples_33 rfl (lv_at hl 3 rfl) ?_
        refine lv_iconst (v := (0)) hx hb dX1_copySamples_34 (by decide) ?_
        refine lv_bipush (v := (64)) hx hb dX1_copySamples_35 (by decide) ?_
        refine lv_iload hx hb dX1_copySamples_37 (lv_at hl 4 rfl) ?_
        refine lv_isub hx hb dX1_copySamples_39 ?_
        refine nw_Ni (As := [.int (j), .int (0), .int ((64 : Int32) - (n))]) (rest := []) X (c_X6_outside lc G ((j)) ((0 : Int32)) (((64 : Int32) - (n))) ) (va_cnB 3 hts ggX1_copySamples_X6_outside rfl rfl rfl (hK.nest 5 rfl) (hts (.initialized RX6) (List.mem_of_getElem? (i := 3) rfl)) (by decide +kernel) ⟨Nat.le_of_ble_eq_true rfl, Nat.le_of_ble_eq_true rfl⟩) (hts (.static yX6_outside) (List.mem_of_getElem? (i := 2) rfl)) (fun _ _ h => h.2) hP hD hS hA rfl hl.1 rfl (Nat.le_of_ble_eq_true rfl) dX1_copySamples_40 ⟨Nat.le_of_ble_eq_true rfl, Nat.le_of_ble_eq_true rfl⟩ (fun r H locs hp_26 hP hD hS => ?_)
        obtain ⟨⟨rfl, q_27⟩ | ⟨rfl, q_27⟩, -⟩ := hp_26
        · skip
          have q_27 : out ((j)) ((0 : Int32)) (((64 : Int32) - (n))) := q_27
          refine lv_if_eq (tgt := 49) hx hb dX1_copySamples_43 (by decide) (fun c9 => absurd c9 (by decide)) (fun _ => ?_)
          refine lv_bipush (v := (-2)) hx hb dX1_copySamples_46 (by decide) ?_
          exact nw_iret (rm := ({ frames := 1, cells := 0, slots := 0, locals := 22 } : Room)) X hP hD hS (by simp only [echoBad, nwIf_T, nwIf_F, or_true, true_or, or_false, false_or, and_true, true_and, and_false, false_and, not_true_eq_false, not_false_eq_true, Nat.add_sub_cancel, q_2, ec_7, q_10, ec_16, q_19, ec_24, q_27]) dX1_copySamples_48
        · skip
          have q_27 : ¬ out ((j)) ((0 : Int32)) (((64 : Int32) - (n))) := q_27
          obtain ⟨z_29, hz_30, he_31⟩ := nw_le (n := 64 - m_12) (nw_64 he_15 (by omega)) (by omega) q_27
          have ec_32 := nw_clamp he_31 (by omega)
          refine lv_if_eq (tgt := 49) hx hb dX1_copySamples_43 (by decide) (fun _ => ?_) (fun c9 => absurd (by decide) c9)
          rw [he_6] at hl
          rw [he_23] at hl
          rw [he_31] at hl
          rw [he_15] at hl
          have hl : lv_has ls 6 [(0, .ref (a 0)), (1, .int (nI (z_4))), (2, .int (nI (z_21))), (3, .int (nI (z_29))), (4, .int (nI (m_12)))] := hl
          refine lv_iconst (v := (0)) hx hb dX1_copySamples_49 (by decide) ?_
          refine lv_istore (lv' := [(5, .int (0)), (0, .ref (a 0)), (1, .int (nI (z_4))), (2, .int (nI (z_21))), (3, .int (nI (z_29))), (4, .int (nI (m_12)))]) hx hb dX1_copySamples_50 hl (by decide) rfl (fun ls hl => ?_)
          have K52 : ∀ (fuel : Nat) (q : Nat) (Mv : Nat → Nat → Int32) (H : Heap) (locs : List Loc) (ls : Array Slot), (65 - q) < fuel → (q ≤ m_12) → (Mv = cpF M z_4 z_21 z_29 q) → lv_has ls 6 [(5, .int (nI (q))), (0, .ref (a 0)), (1, .int (nI (z_4))), (2, .int (nI (z_21))), (3, .int (nI (z_29))), (4, .int (nI (m_12)))] → va_P G.1 vwCl ((wL G (a) (Mv))) H → va_D vA ((wL G (a) (Mv))) → va_S vA vs.heap H locs → W vp lc ve ({ frames := 1, cells := 0, slots := 0, locals := 22 } : Room) vs vm ([.ref (a 0), .int (li), .int (i), .int (j), .int (n)] : List Value).toArray vb vt vc H locs 0 0 (MQ vb (nwQi G (fun r w => r = nwIf (echoBad li i j n) (-2) 1 ∧ w = wL G a (nwIf (echoBad li i j n) M (cpF M li.toNatClampNeg i.toNatClampNeg j.toNatClampNeg n.toNatClampNeg))) vA) ([.ref (a 0), .int (li), .int (i), .int (j), .int (n)] : List Value).toArray vs ({ frames := 1, cells := 0, slots := 0, locals := 22 } : Room).cells ({ frames := 1, cells := 0, slots := 0, locals := 22 } : Room).slots vA) (F0 vm 52 ls []) := by
            intro fuel
            induction fuel with
            | zero => intro q Mv H locs ls hmu; exact absurd hmu (Nat.not_lt_zero _)
            | succ fuel ih52 =>
              intro q Mv H locs ls hmu hq eM hl hP hD hS
              refine lv_iload hx hb dX1_copySamples_52 (lv_at hl 0 rfl) ?_
              refine lv_iload hx hb dX1_copySamples_54 (lv_at hl 5 rfl) ?_
              refine lv_icmp_ge (tgt := 89) hx hb dX1_copySamples_56 (by decide) (fun b56_34 => ?_) (fun b56_34 => ?_)
              · skip
                have b56_34 : (m_12) ≤ (q) := (nI_leI (a := m_12) (b := q) (by omega) (by omega)).mp b56_34
                have b56_34n : ¬ ((q) < (m_12)) := by omega
                refine lv_iconst (v := (1)) hx hb dX1_copySamples_89 (by decide) ?_
                exact nw_iret (rm := ({ frames := 1, cells := 0, slots := 0, locals := 22 } : Room)) X hP hD hS (by simp only [echoBad, nwIf_T, nwIf_F, or_true, true_or, or_false, false_or, and_true, true_and, and_false, false_and, not_true_eq_false, not_false_eq_true, Nat.add_sub_cancel, q_2, ec_7, q_10, ec_16, q_19, ec_24, q_27, ec_32, b56_34n, b56_34]; rw [eM, show q = m_12 by omega]) dX1_copySamples_90
              · skip
                have b56_34 : ¬ ((m_12) ≤ (q)) := fun h => b56_34 ((nI_leI (a := m_12) (b := q) (by omega) (by omega)).mpr h)
                have b56_34n : (q) < (m_12) := by omega
                refine lv_aload_n hx hb dX1_copySamples_59 rfl (lv_at hl 1 rfl) ?_
                refine va_get (D := G.1) (ci := 1) (v := .ref (a 1)) (C := RX1) (T := TX1) (N := 1) hx hb hts in_X1_copySamples_X1 hown hK.1 hP 0 rfl rfl 0 (by decide) (hts (.fieldLink RX1 13 "NightWater$Listeners" "rows" "[[I") (List.mem_of_getElem? (i := 1) rfl)) (fun _ h9 => h9) rfl dX1_copySamples_60 ?_
                refine lv_iload_n hx hb dX1_copySamples_63 rfl (lv_at hl 2 rfl) ?_
                refine nw_aald X hP 1 rfl (z_4) rfl (by omega) (by decide) dX1_copySamples_64 ?_
                show W _ _ _ _ _ _ _ _ _ _ _ _ _ _ _ (F0 vm _ ls (.ref (a (2 + z_4)) :: _))
                refine lv_iload_n hx hb dX1_copySamples_65 rfl (lv_at hl 3 rfl) ?_
                refine lv_iload hx hb dX1_copySamples_66 (lv_at hl 0 rfl) ?_
                refine lv_iadd hx hb dX1_copySamples_68 ?_
                refine nw_top (y := nI (z_21 + q)) (nI_add (z_21) (q)) ?_
                refine lv_aload_n hx hb dX1_copySamples_69 rfl (lv_at hl 1 rfl) ?_
                refine va_get (D := G.1) (ci := 1) (v := .ref (a 1)) (C := RX1) (T := TX1) (N := 1) hx hb hts in_X1_copySamples_X1 hown hK.1 hP 0 rfl rfl 0 (by decide) (hts (.fieldLink RX1 13 "NightWater$Listeners" "rows" "[[I") (List.mem_of_getElem? (i := 1) rfl)) (fun _ h9 => h9) rfl dX1_copySamples_70 ?_
                refine lv_iconst (v := (1)) hx hb dX1_copySamples_73 (by decide) ?_
                refine lv_iload_n hx hb dX1_copySamples_74 rfl (lv_at hl 2 rfl) ?_
                refine lv_isub hx hb dX1_copySamples_75 ?_
                refine nw_top (y := nI (1 - z_4)) (pk_sub (a := 1) (b := z_4) (by omega)) ?_
                refine nw_aald X hP 1 rfl (1 - z_4) rfl (by omega) (by decide) dX1_copySamples_76 ?_
                show W _ _ _ _ _ _ _ _ _ _ _ _ _ _ _ (F0 vm _ ls (.ref (a (2 + ((1 - z_4)))) :: _))
                refine lv_iload_n hx hb dX1_copySamples_77 rfl (lv_at hl 4 rfl) ?_
                refine lv_iload hx hb dX1_copySamples_78 (lv_at hl 0 rfl) ?_
                refine lv_iadd hx hb dX1_copySamples_80 ?_
                refine nw_top (y := nI (z_29 + q)) (nI_add (z_29) (q)) ?_
                refine nw_rald (X0 := _) (r := fun i => a (2 + i)) (N := 2) (n := 64) (M := Mv) X hP ((1 - z_4)) (by omega) (z_29 + q) rfl (by omega) (by decide) dX1_copySamples_81 ?_
                refine nw_rast (X0 := _) (r := fun i => a (2 + i)) (N := 2) (n := 64) (M := Mv) X hP hD hS (z_4) (by omega) (z_21 + q) rfl (by omega) (by decide) dX1_copySamples_82 (fun H locs hP hD hS => ?_)
                have hP : va_P G.1 vwCl ((wL G (a) (nwU2 (Mv) (z_4) (z_21 + q) (Mv ((1 - z_4)) (z_29 + q))))) H := hP
                have hD : va_D vA ((wL G (a) (nwU2 (Mv) (z_4) (z_21 + q) (Mv ((1 - z_4)) (z_29 + q))))) := hD
                refine lv_iinc (v := (nI (q + 1))) (lv' := [(5, .int (nI (q + 1))), (0, .ref (a 0)), (1, .int (nI (z_4))), (2, .int (nI (z_21))), (3, .int (nI (z_29))), (4, .int (nI (m_12)))]) hx hb dX1_copySamples_83 hl (k := 0) rfl (by exact nI_add (q) 1) (by decide) rfl (fun ls hl => ?_)
                refine lv_goto (tgt := 52) hx hb dX1_copySamples_86 (by decide) ?_
                exact ih52 (q + 1) (nwU2 (Mv) (z_4) (z_21 + q) (Mv ((1 - z_4)) (z_29 + q))) _ _ _ (by omega) (by omega) (by rw [cpF_s, ← eM]) (lv_sub hl [0, 1, 2, 3, 4, 5] rfl) hP hD hS
          exact K52 ((65 - (0)) + 1) (0) (M) _ _ _ (Nat.lt_succ_self _) (by omega) (by rfl) (lv_sub hl [0, 1, 2, 3, 4, 5] rfl) hP hD hS
