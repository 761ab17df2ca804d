/-! printed by wip/gen/x5.py: contracts, walked row by row -/
theorem in_X5_add_X5 : ∀ w ∈ wsX50, w ∈ wsX5_add := by decide +kernel
theorem in_X5_greatestNet_X5 : ∀ w ∈ wsX50, w ∈ wsX5_greatestNet := by decide +kernel
theorem in_X5_greatestOf_X5 : ∀ w ∈ wsX50, w ∈ wsX5_greatestOf := by decide +kernel
theorem in_X5_isNone_X5 : ∀ w ∈ wsX50, w ∈ wsX5_isNone := by decide +kernel
theorem in_X5_leak_X5 : ∀ w ∈ wsX50, w ∈ wsX5_leak := by decide +kernel
theorem in_X5_leastNet_X5 : ∀ w ∈ wsX50, w ∈ wsX5_leastNet := by decide +kernel
theorem in_X5_leastOf_X5 : ∀ w ∈ wsX50, w ∈ wsX5_leastOf := by decide +kernel
theorem in_X5_lowHour_X5 : ∀ w ∈ wsX50, w ∈ wsX5_lowHour := by decide +kernel
theorem in_X5_number_X5 : ∀ w ∈ wsX50, w ∈ wsX5_number := by decide +kernel
theorem in_X5_setReading_X5 : ∀ w ∈ wsX50, w ∈ wsX5_setReading := by decide +kernel
theorem in_X5_setRules_X5 : ∀ w ∈ wsX50, w ∈ wsX5_setRules := by decide +kernel
set_option maxHeartbeats 4000000 in
set_option maxRecDepth 100000 in
theorem c_X6_outside (lc : Launch) (G : nwG) (v le gr : Int32)  : nwCi lc G yX6_outside wsX6_outside ({ frames := 0, cells := 0, slots := 0, locals := 0 } : Room) [.int (v), .int (le), .int (gr)] ([]) (fun r w => ((r = 1 ∧ out v le gr) ∨ (r = 0 ∧ ¬ out v le gr)) ∧ w = []) := by
  refine nw_of (cc := cX6_outside) (maxL := 3) (ret := (some .boolean)) (by decide) rfl (Nat.le_of_ble_eq_true rfl) ?_
  intro vp ve vs vm vb vt vc vA ls X hP hD hA hS hl
  have X : nwAt vp vm vc cX6_outside 3 vs _ wsX6_outside RX6 vt (some .boolean) "outside" G := X
  have hx := X.1.1
  have hb := X.1.2.1
  have hown := X.1.2.2.2.1
  have hts := X.1.2.2.2.2
  have hK := X.2.2.2.2
  have hl : lv_has ls 3 [(0, .int (v)), (1, .int (le)), (2, .int (gr))] := hl
  refine lv_iload_n hx hb dX6_outside_0 rfl (lv_at hl 0 rfl) ?_
  refine lv_iload_n hx hb dX6_outside_1 rfl (lv_at hl 1 rfl) ?_
  refine lv_icmp_lt (tgt := 10) hx hb dX6_outside_2 (by decide) (fun b2_1 => ?_) (fun b2_1 => ?_)
  · skip
    have b2_1 : (v) < (le) := b2_1
    have b2_1n : ¬ ((le) ≤ (v)) := Int32.not_le.mpr b2_1
    refine lv_iconst (v := (1)) hx hb dX6_outside_10 (by decide) ?_
    refine lv_goto (tgt := 15) hx hb dX6_outside_11 (by decide) ?_
    exact nw_zret (rm := ({ frames := 0, cells := 0, slots := 0, locals := 0 } : Room)) X (by decide) hP hD hS (⟨Or.inl ⟨rfl, by simp only [out, nwIf_T, nwIf_F, or_true, true_or, or_false, false_or, and_true, true_and, and_false, false_and, not_true_eq_false, not_false_eq_true, Nat.add_sub_cancel, b2_1n, b2_1]⟩, rfl⟩) dX6_outside_15
  · skip
    have b2_1 : ¬ ((v) < (le)) := b2_1
    have b2_1n : (le) ≤ (v) := Int32.not_lt.mp b2_1
    refine lv_iload_n hx hb dX6_outside_5 rfl (lv_at hl 0 rfl) ?_
    refine lv_iload_n hx hb dX6_outside_6 rfl (lv_at hl 2 rfl) ?_
    refine lv_icmp_le (tgt := 14) hx hb dX6_outside_7 (by decide) (fun b7_2 => ?_) (fun b7_2 => ?_)
    · skip
      have b7_2 : (v) ≤ (gr) := b7_2
      have b7_2n : ¬ ((gr) < (v)) := Int32.not_lt.mpr b7_2
      refine lv_iconst (v := (0)) hx hb dX6_outside_14 (by decide) ?_
      exact nw_zret (rm := ({ frames := 0, cells := 0, slots := 0, locals := 0 } : Room)) X (by decide) hP hD hS (⟨Or.inr ⟨rfl, by simp only [out, nwIf_T, nwIf_F, or_true, true_or, or_false, false_or, and_true, true_and, and_false, false_and, not_true_eq_false, not_false_eq_true, Nat.add_sub_cancel, b2_1n, b2_1, b7_2n, b7_2]⟩, rfl⟩) dX6_outside_15
    · skip
      have b7_2 : ¬ ((v) ≤ (gr)) := b7_2
      have b7_2n : (gr) < (v) := Int32.not_le.mp b7_2
      refine lv_iconst (v := (1)) hx hb dX6_outside_10 (by decide) ?_
      refine lv_goto (tgt := 15) hx hb dX6_outside_11 (by decide) ?_
      exact nw_zret (rm := ({ frames := 0, cells := 0, slots := 0, locals := 0 } : Room)) X (by decide) hP hD hS (⟨Or.inl ⟨rfl, by simp only [out, nwIf_T, nwIf_F, or_true, true_or, or_false, false_or, and_true, true_and, and_false, false_and, not_true_eq_false, not_false_eq_true, Nat.add_sub_cancel, b2_1n, b2_1, b7_2n, b7_2]⟩, rfl⟩) dX6_outside_15
set_option maxHeartbeats 4000000 in
set_option maxRecDepth 100000 in
theorem c_X5_number (lc : Launch) (G : nwG) (a : Nat → Nat) (n : Nat) (cu bg : Nat → Int32) (M : Nat → Nat → Int32) (er us : Int32)   : nwCi lc G yX5_number wsX5_number ({ frames := 0, cells := 0, slots := 0, locals := 0 } : Room) [.ref (a 0)] ((wZ G (a) (n) (cu) (bg) (M) (er) (us))) (fun r w => r = nI n ∧ w = wZ G a n cu bg M er us) := by
  refine nw_of (cc := cX5_number) (maxL := 1) (ret := (some .int)) (by decide) rfl (Nat.le_of_ble_eq_true rfl) ?_
  intro vp ve vs vm vb vt vc vA ls X hP hD hA hS hl
  have X : nwAt vp vm vc cX5_number 1 vs _ wsX5_number RX5 vt (some .int) "number" G := X
  have hx := X.1.1
  have hb := X.1.2.1
  have hown := X.1.2.2.2.1
  have hts := X.1.2.2.2.2
  have hK := X.2.2.2.2
  have hl : lv_has ls 1 [(0, .ref (a 0))] := hl
  refine lv_aload_n hx hb dX5_number_0 rfl (lv_at hl 0 rfl) ?_
  refine va_get (D := G.1) (ci := 4) (v := .int (nI (n))) (C := RX5) (T := TX5) (N := 7) hx hb hts in_X5_number_X5 hown hK.1 hP 0 rfl rfl 4 (by decide) (hts (.fieldLink RX5 26 "NightWater$Zones" "size" "I") (List.mem_of_getElem? (i := 1) rfl)) (fun _ h9 => h9) rfl dX5_number_1 ?_
  exact nw_iret (rm := ({ frames := 0, cells := 0, slots := 0, locals := 0 } : Room)) X hP hD hS (⟨rfl, rfl⟩) dX5_number_4
set_option maxHeartbeats 4000000 in
set_option maxRecDepth 100000 in
theorem c_X5_isNone (lc : Launch) (G : nwG) (a : Nat → Nat) (n : Nat) (cu bg : Nat → Int32) (M : Nat → Nat → Int32) (er us : Int32) (zone : Int32)  : nwCi lc G yX5_isNone wsX5_isNone ({ frames := 1, cells := 0, slots := 0, locals := 22 } : Room) [.ref (a 0), .int (zone)] ((wZ G (a) (n) (cu) (bg) (M) (er) (us))) (fun r w => ((r = 1 ∧ out zone 0 (nI n - 1)) ∨ (r = 0 ∧ ¬ out zone 0 (nI n - 1))) ∧ w = wZ G a n cu bg M er us) := by
  refine nw_of (cc := cX5_isNone) (maxL := 2) (ret := (some .boolean)) (by decide) rfl (Nat.le_of_ble_eq_true rfl) ?_
  intro vp ve vs vm vb vt vc vA ls X hP hD hA hS hl
  have X : nwAt vp vm vc cX5_isNone 2 vs _ wsX5_isNone RX5 vt (some .boolean) "isNone" G := X
  have hx := X.1.1
  have hb := X.1.2.1
  have hown := X.1.2.2.2.1
  have hts := X.1.2.2.2.2
  have hK := X.2.2.2.2
  have hl : lv_has ls 2 [(0, .ref (a 0)), (1, .int (zone))] := hl
  refine lv_iload_n hx hb dX5_isNone_0 rfl (lv_at hl 1 rfl) ?_
  refine lv_iconst (v := (0)) hx hb dX5_isNone_1 (by decide) ?_
  refine lv_aload_n hx hb dX5_isNone_2 rfl (lv_at hl 0 rfl) ?_
  refine va_get (D := G.1) (ci := 4) (v := .int (nI (n))) (C := RX5) (T := TX5) (N := 7) hx hb hts in_X5_isNone_X5 hown hK.1 hP 0 rfl rfl 4 (by decide) (hts (.fieldLink RX5 26 "NightWater$Zones" "size" "I") (List.mem_of_getElem? (i := 1) rfl)) (fun _ h9 => h9) rfl dX5_isNone_3 ?_
  refine lv_iconst (v := (1)) hx hb dX5_isNone_6 (by decide) ?_
  refine lv_isub hx hb dX5_isNone_7 ?_
  refine nw_Ni (As := [.int (zone), .int (0), .int ((nI (n)) - (1 : Int32))]) (rest := []) X (c_X6_outside lc G ((zone)) ((0 : Int32)) (((nI (n)) - (1 : Int32))) ) (va_cnB 3 hts ggX5_isNone_X6_outside rfl rfl rfl (hK.nest 3 rfl) (hts (.initialized RX6) (List.mem_of_getElem? (i := 3) rfl)) (by decide +kernel) ⟨Nat.le_of_ble_eq_true rfl, Nat.le_of_ble_eq_true rfl⟩) (hts (.static yX6_outside) (List.mem_of_getElem? (i := 2) rfl)) (fun _ _ h => h.2) hP hD hS hA rfl hl.1 rfl (Nat.le_of_ble_eq_true rfl) dX5_isNone_8 ⟨Nat.le_of_ble_eq_true rfl, Nat.le_of_ble_eq_true rfl⟩ (fun r H locs hp_1 hP hD hS => ?_)
  obtain ⟨⟨rfl, q_2⟩ | ⟨rfl, q_2⟩, -⟩ := hp_1
  · skip
    have q_2 : out ((zone)) ((0 : Int32)) (((nI (n)) - (1 : Int32))) := q_2
    exact nw_zret (rm := ({ frames := 1, cells := 0, slots := 0, locals := 22 } : Room)) X (by decide) hP hD hS (⟨Or.inl ⟨rfl, q_2⟩, rfl⟩) dX5_isNone_11
  · skip
    have q_2 : ¬ out ((zone)) ((0 : Int32)) (((nI (n)) - (1 : Int32))) := q_2
    exact nw_zret (rm := ({ frames := 1, cells := 0, slots := 0, locals := 22 } : Room)) X (by decide) hP hD hS (⟨Or.inr ⟨rfl, q_2⟩, rfl⟩) dX5_isNone_11
set_option maxHeartbeats 4000000 in
set_option maxRecDepth 100000 in
theorem c_X5_add (lc : Launch) (G : nwG) (a : Nat → Nat) (n : Nat) (cu bg : Nat → Int32) (M : Nat → Nat → Int32) (er us : Int32) (c b : Int32) (hn : n ≤ 8) : nwCi lc G yX5_add wsX5_add ({ frames := 1, cells := 0, slots := 0, locals := 22 } : Room) [.ref (a 0), .int (c), .int (b)] ((wZ G (a) (n) (cu) (bg) (M) (er) (us))) (fun r w => r = zoneF n c b ∧ w = wZ G a (nwIf (zoneOk n c b) (n + 1) n) (nwIf (zoneOk n c b) (va_up cu n c) cu) (nwIf (zoneOk n c b) (va_up bg n b) bg) M er us) := by
  refine nw_of (cc := cX5_add) (maxL := 3) (ret := (some .int)) (by decide) rfl (Nat.le_of_ble_eq_true rfl) ?_
  intro vp ve vs vm vb vt vc vA ls X hP hD hA hS hl
  have X : nwAt vp vm vc cX5_add 3 vs _ wsX5_add RX5 vt (some .int) "add" G := X
  have hx := X.1.1
  have hb := X.1.2.1
  have hown := X.1.2.2.2.1
  have hts := X.1.2.2.2.2
  have hK := X.2.2.2.2
  have hl : lv_has ls 3 [(0, .ref (a 0)), (1, .int (c)), (2, .int (b))] := hl
  refine lv_iload_n hx hb dX5_add_0 rfl (lv_at hl 1 rfl) ?_
  refine lv_iconst (v := (0)) hx hb dX5_add_1 (by decide) ?_
  refine lv_sipush (v := (5000)) hx hb dX5_add_2 (by decide) ?_
  refine nw_Ni (As := [.int (c), .int (0), .int (5000)]) (rest := []) X (c_X6_outside lc G ((c)) ((0 : Int32)) ((5000 : Int32)) ) (va_cnB 3 hts ggX5_add_X6_outside rfl rfl rfl (hK.nest 3 rfl) (hts (.initialized RX6) (List.mem_of_getElem? (i := 5) rfl)) (by decide +kernel) ⟨Nat.le_of_ble_eq_true rfl, Nat.le_of_ble_eq_true rfl⟩) (hts (.static yX6_outside) (List.mem_of_getElem? (i := 4) rfl)) (fun _ _ h => h.2) hP hD hS hA rfl hl.1 rfl (Nat.le_of_ble_eq_true rfl) dX5_add_5 ⟨Nat.le_of_ble_eq_true rfl, Nat.le_of_ble_eq_true rfl⟩ (fun r H locs hp_1 hP hD hS => ?_)
  obtain ⟨⟨rfl, q_2⟩ | ⟨rfl, q_2⟩, -⟩ := hp_1
  · skip
    have q_2 : out ((c)) ((0 : Int32)) ((5000 : Int32)) := q_2
    refine lv_if_ne (tgt := 22) hx hb dX5_add_8 (by decide) (fun _ => ?_) (fun c9 => absurd c9 (by decide))
    refine lv_bipush (v := (-2)) hx hb dX5_add_22 (by decide) ?_
    exact nw_iret (rm := ({ frames := 1, cells := 0, slots := 0, locals := 22 } : Room)) X hP hD hS (by simp only [zoneF, zoneOk, nwIf_T, nwIf_F, or_true, true_or, or_false, false_or, and_true, true_and, and_false, false_and, not_true_eq_false, not_false_eq_true, Nat.add_sub_cancel, q_2]) dX5_add_24
  · skip
    have q_2 : ¬ out ((c)) ((0 : Int32)) ((5000 : Int32)) := q_2
    refine lv_if_ne (tgt := 22) hx hb dX5_add_8 (by decide) (fun c9 => absurd c9 (by decide)) (fun _ => ?_)
    refine lv_iload_n hx hb dX5_add_11 rfl (lv_at hl 2 rfl) ?_
    refine lv_iconst (v := (0)) hx hb dX5_add_12 (by decide) ?_
    refine lv_sipush (v := (5000)) hx hb dX5_add_13 (by decide) ?_
    refine nw_Ni (As := [.int (b), .int (0), .int (5000)]) (rest := []) X (c_X6_outside lc G ((b)) ((0 : Int32)) ((5000 : Int32)) ) (va_cnB 3 hts ggX5_add_X6_outside rfl rfl rfl (hK.nest 3 rfl) (hts (.initialized RX6) (List.mem_of_getElem? (i := 5) rfl)) (by decide +kernel) ⟨Nat.le_of_ble_eq_true rfl, Nat.le_of_ble_eq_true rfl⟩) (hts (.static yX6_outside) (List.mem_of_getElem? (i := 4) rfl)) (fun _ _ h => h.2) hP hD hS hA rfl hl.1 rfl (Nat.le_of_ble_eq_true rfl) dX5_add_16 ⟨Nat.le_of_ble_eq_true rfl, Nat.le_of_ble_eq_true rfl⟩ (fun r H locs hp_5 hP hD hS => ?_)
    obtain ⟨⟨rfl, q_6⟩ | ⟨rfl, q_6⟩, -⟩ := hp_5
    · skip
      have q_6 : out ((b)) ((0 : Int32)) ((5000 : Int32)) := q_6
      refine lv_if_eq (tgt := 25) hx hb dX5_add_19 (by decide) (fun c9 => absurd c9 (by decide)) (fun _ => ?_)
      refine lv_bipush (v := (-2)) hx hb dX5_add_22 (by decide) ?_
      exact nw_iret (rm := ({ frames := 1, cells := 0, slots := 0, locals := 22 } : Room)) X hP hD hS (by simp only [zoneF, zoneOk, nwIf_T, nwIf_F, or_true, true_or, or_false, false_or, and_true, true_and, and_false, false_and, not_true_eq_false, not_false_eq_true, Nat.add_sub_cancel, q_2, q_6]) dX5_add_24
    · skip
      have q_6 : ¬ out ((b)) ((0 : Int32)) ((5000 : Int32)) := q_6
      refine lv_if_eq (tgt := 25) hx hb dX5_add_19 (by decide) (fun _ => ?_) (fun c9 => absurd (by decide) c9)
      refine lv_aload_n hx hb dX5_add_25 rfl (lv_at hl 0 rfl) ?_
      refine va_get (D := G.1) (ci := 4) (v := .int (nI (n))) (C := RX5) (T := TX5) (N := 7) hx hb hts in_X5_add_X5 hown hK.1 hP 0 rfl rfl 4 (by decide) (hts (.fieldLink RX5 26 "NightWater$Zones" "size" "I") (List.mem_of_getElem? (i := 1) rfl)) (fun _ h9 => h9) rfl dX5_add_26 ?_
      refine lv_bipush (v := (8)) hx hb dX5_add_29 (by decide) ?_
      refine lv_icmp_lt (tgt := 37) hx hb dX5_add_31 (by decide) (fun b31_9 => ?_) (fun b31_9 => ?_)
      · skip
        have b31_9 : (n) < (8) := (nI_ltI (a := n) (b := 8) (by omega) (by omega)).mp b31_9
        have b31_9n : ¬ ((8) ≤ (n)) := by omega
        refine lv_aload_n hx hb dX5_add_37 rfl (lv_at hl 0 rfl) ?_
        refine va_get (D := G.1) (ci := 4) (v := .ref (a 1)) (C := RX5) (T := TX5) (N := 7) hx hb hts in_X5_add_X5 hown hK.1 hP 0 rfl rfl 0 (by decide) (hts (.fieldLink RX5 11 "NightWater$Zones" "customers" "[I") (List.mem_of_getElem? (i := 2) rfl)) (fun _ h9 => h9) rfl dX5_add_38 ?_
        refine lv_aload_n hx hb dX5_add_41 rfl (lv_at hl 0 rfl) ?_
        refine va_get (D := G.1) (ci := 4) (v := .int (nI (n))) (C := RX5) (T := TX5) (N := 7) hx hb hts in_X5_add_X5 hown hK.1 hP 0 rfl rfl 4 (by decide) (hts (.fieldLink RX5 26 "NightWater$Zones" "size" "I") (List.mem_of_getElem? (i := 1) rfl)) (fun _ h9 => h9) rfl dX5_add_42 ?_
        refine lv_iload_n hx hb dX5_add_45 rfl (lv_at hl 1 rfl) ?_
        refine nw_iast X hP hD hS 1 (n := 8) (f := cu) rfl (n) rfl (by omega) (by decide) dX5_add_46 (fun H locs hP hD hS => ?_)
        have hP : va_P G.1 vwCl ((wZ G (a) (n) (va_up (cu) (n) (c)) (bg) (M) (er) (us))) H := hP
        have hD : va_D vA ((wZ G (a) (n) (va_up (cu) (n) (c)) (bg) (M) (er) (us))) := hD
        refine lv_aload_n hx hb dX5_add_47 rfl (lv_at hl 0 rfl) ?_
        refine va_get (D := G.1) (ci := 4) (v := .ref (a 2)) (C := RX5) (T := TX5) (N := 7) hx hb hts in_X5_add_X5 hown hK.1 hP 0 rfl rfl 1 (by decide) (hts (.fieldLink RX5 15 "NightWater$Zones" "bigs" "[I") (List.mem_of_getElem? (i := 3) rfl)) (fun _ h9 => h9) rfl dX5_add_48 ?_
        refine lv_aload_n hx hb dX5_add_51 rfl (lv_at hl 0 rfl) ?_
        refine va_get (D := G.1) (ci := 4) (v := .int (nI (n))) (C := RX5) (T := TX5) (N := 7) hx hb hts in_X5_add_X5 hown hK.1 hP 0 rfl rfl 4 (by decide) (hts (.fieldLink RX5 26 "NightWater$Zones" "size" "I") (List.mem_of_getElem? (i := 1) rfl)) (fun _ h9 => h9) rfl dX5_add_52 ?_
        refine lv_iload_n hx hb dX5_add_55 rfl (lv_at hl 2 rfl) ?_
        refine nw_iast X hP hD hS 2 (n := 8) (f := bg) rfl (n) rfl (by omega) (by decide) dX5_add_56 (fun H locs hP hD hS => ?_)
        have hP : va_P G.1 vwCl ((wZ G (a) (n) (va_up (cu) (n) (c)) (va_up (bg) (n) (b)) (M) (er) (us))) H := hP
        have hD : va_D vA ((wZ G (a) (n) (va_up (cu) (n) (c)) (va_up (bg) (n) (b)) (M) (er) (us))) := hD
        refine lv_aload_n hx hb dX5_add_57 rfl (lv_at hl 0 rfl) ?_
        refine lv_dup hx hb dX5_add_58 rfl ?_
        refine va_get (D := G.1) (ci := 4) (v := .int (nI (n))) (C := RX5) (T := TX5) (N := 7) hx hb hts in_X5_add_X5 hown hK.1 hP 0 rfl rfl 4 (by decide) (hts (.fieldLink RX5 26 "NightWater$Zones" "size" "I") (List.mem_of_getElem? (i := 1) rfl)) (fun _ h9 => h9) rfl dX5_add_59 ?_
        refine lv_iconst (v := (1)) hx hb dX5_add_62 (by decide) ?_
        refine lv_iadd hx hb dX5_add_63 ?_
        refine nw_top (y := nI (n + 1)) (nI_add (n) (1)) ?_
        refine va_put (D := G.1) (ci := 4) (v := .int (nI (n + 1))) (ty := .int) (C := RX5) (T := TX5) (N := 7) hx hb hts in_X5_add_X5 tyX5 tyX5_ok nmX5 hown hK.1 hP hD hS 0 rfl rfl 4 (by decide) (hts (.fieldLink RX5 26 "NightWater$Zones" "size" "I") (List.mem_of_getElem? (i := 1) rfl)) (fun _ h9 => h9) rfl (by decide +kernel) rfl rfl (Nat.le_of_ble_eq_true rfl) dX5_add_64 (fun H locs hP hD hS => ?_)
        have hP : va_P G.1 vwCl ((wZ G (a) (n + 1) (va_up (cu) (n) (c)) (va_up (bg) (n) (b)) (M) (er) (us))) H := hP
        have hD : va_D vA ((wZ G (a) (n + 1) (va_up (cu) (n) (c)) (va_up (bg) (n) (b)) (M) (er) (us))) := hD
        refine lv_aload_n hx hb dX5_add_67 rfl (lv_at hl 0 rfl) ?_
        refine va_get (D := G.1) (ci := 4) (v := .int (nI (n + 1))) (C := RX5) (T := TX5) (N := 7) hx hb hts in_X5_add_X5 hown hK.1 hP 0 rfl rfl 4 (by decide) (hts (.fieldLink RX5 26 "NightWater$Zones" "size" "I") (List.mem_of_getElem? (i := 1) rfl)) (fun _ h9 => h9) rfl dX5_add_68 ?_
        refine lv_iconst (v := (1)) hx hb dX5_add_71 (by decide) ?_
        refine lv_isub hx hb dX5_add_72 ?_
        refine nw_top (y := nI (n + 1 - 1)) (pk_sub (a := n + 1) (b := 1) (by omega)) ?_
        exact nw_iret (rm := ({ frames := 1, cells := 0, slots := 0, locals := 22 } : Room)) X hP hD hS (by simp only [zoneF, zoneOk, nwIf_T, nwIf_F, or_true, true_or, or_false, false_or, and_true, true_and, and_false, false_and, not_true_eq_false, not_false_eq_true, Nat.add_sub_cancel, q_2, q_6, b31_9n, b31_9]) dX5_add_73
      · skip
        have b31_9 : ¬ ((n) < (8)) := fun h => b31_9 ((nI_ltI (a := n) (b := 8) (by omega) (by omega)).mpr h)
        have b31_9n : (8) ≤ (n) := by omega
        refine lv_bipush (v := (-4)) hx hb dX5_add_34 (by decide) ?_
        exact nw_iret (rm := ({ frames := 1, cells := 0, slots := 0, locals := 22 } : Room)) X hP hD hS (by simp only [zoneF, zoneOk, nwIf_T, nwIf_F, or_true, true_or, or_false, false_or, and_true, true_and, and_false, false_and, not_true_eq_false, not_false_eq_true, Nat.add_sub_cancel, q_2, q_6, b31_9n, b31_9]) dX5_add_36
set_option maxHeartbeats 4000000 in
set_option maxRecDepth 100000 in
theorem c_X5_setRules (lc : Launch) (G : nwG) (a : Nat → Nat) (n : Nat) (cu bg : Nat → Int32) (M : Nat → Nat → Int32) (er us : Int32) (e u : Int32)  : nwCi lc G yX5_setRules wsX5_setRules ({ frames := 1, cells := 0, slots := 0, locals := 22 } : Room) [.ref (a 0), .int (e), .int (u)] ((wZ G (a) (n) (cu) (bg) (M) (er) (us))) (fun r w => r = nwIf (rulesOk e u) 1 (-2) ∧ w = wZ G a n cu bg M (nwIf (rulesOk e u) e er) (nwIf (rulesOk e u) u us)) := by
  refine nw_of (cc := cX5_setRules) (maxL := 3) (ret := (some .int)) (by decide) rfl (Nat.le_of_ble_eq_true rfl) ?_
  intro vp ve vs vm vb vt vc vA ls X hP hD hA hS hl
  have X : nwAt vp vm vc cX5_setRules 3 vs _ wsX5_setRules RX5 vt (some .int) "setRules" G := X
  have hx := X.1.1
  have hb := X.1.2.1
  have hown := X.1.2.2.2.1
  have hts := X.1.2.2.2.2
  have hK := X.2.2.2.2
  have hl : lv_has ls 3 [(0, .ref (a 0)), (1, .int (e)), (2, .int (u))] := hl
  refine lv_iload_n hx hb dX5_setRules_0 rfl (lv_at hl 1 rfl) ?_
  refine lv_iconst (v := (0)) hx hb dX5_setRules_1 (by decide) ?_
  refine lv_sipush (v := (200)) hx hb dX5_setRules_2 (by decide) ?_
  refine nw_Ni (As := [.int (e), .int (0), .int (200)]) (rest := []) X (c_X6_outside lc G ((e)) ((0 : Int32)) ((200 : Int32)) ) (va_cnB 3 hts ggX5_setRules_X6_outside rfl rfl rfl (hK.nest 3 rfl) (hts (.initialized RX6) (List.mem_of_getElem? (i := 4) rfl)) (by decide +kernel) ⟨Nat.le_of_ble_eq_true rfl, Nat.le_of_ble_eq_true rfl⟩) (hts (.static yX6_outside) (List.mem_of_getElem? (i := 3) rfl)) (fun _ _ h => h.2) hP hD hS hA rfl hl.1 rfl (Nat.le_of_ble_eq_true rfl) dX5_setRules_5 ⟨Nat.le_of_ble_eq_true rfl, Nat.le_of_ble_eq_true rfl⟩ (fun r H locs hp_1 hP hD hS => ?_)
  obtain ⟨⟨rfl, q_2⟩ | ⟨rfl, q_2⟩, -⟩ := hp_1
  · skip
    have q_2 : out ((e)) ((0 : Int32)) ((200 : Int32)) := q_2
    refine lv_if_ne (tgt := 21) hx hb dX5_setRules_8 (by decide) (fun _ => ?_) (fun c9 => absurd c9 (by decide))
    refine lv_bipush (v := (-2)) hx hb dX5_setRules_21 (by decide) ?_
    exact nw_iret (rm := ({ frames := 1, cells := 0, slots := 0, locals := 22 } : Room)) X hP hD hS (by simp only [rulesOk, nwIf_T, nwIf_F, or_true, true_or, or_false, false_or, and_true, true_and, and_false, false_and, not_true_eq_false, not_false_eq_true, Nat.add_sub_cancel, q_2]) dX5_setRules_23
  · skip
    have q_2 : ¬ out ((e)) ((0 : Int32)) ((200 : Int32)) := q_2
    refine lv_if_ne (tgt := 21) hx hb dX5_setRules_8 (by decide) (fun c9 => absurd c9 (by decide)) (fun _ => ?_)
    refine lv_iload_n hx hb dX5_setRules_11 rfl (lv_at hl 2 rfl) ?_
    refine lv_iconst (v := (0)) hx hb dX5_setRules_12 (by decide) ?_
    refine lv_bipush (v := (20)) hx hb dX5_setRules_13 (by decide) ?_
    refine nw_Ni (As := [.int (u), .int (0), .int (20)]) (rest := []) X (c_X6_outside lc G ((u)) ((0 : Int32)) ((20 : Int32)) ) (va_cnB 3 hts ggX5_setRules_X6_outside rfl rfl rfl (hK.nest 3 rfl) (hts (.initialized RX6) (List.mem_of_getElem? (i := 4) rfl)) (by decide +kernel) ⟨Nat.le_of_ble_eq_true rfl, Nat.le_of_ble_eq_true rfl⟩) (hts (.static yX6_outside) (List.mem_of_getElem? (i := 3) rfl)) (fun _ _ h => h.2) hP hD hS hA rfl hl.1 rfl (Nat.le_of_ble_eq_true rfl) dX5_setRules_15 ⟨Nat.le_of_ble_eq_true rfl, Nat.le_of_ble_eq_true rfl⟩ (fun r H locs hp_5 hP hD hS => ?_)
    obtain ⟨⟨rfl, q_6⟩ | ⟨rfl, q_6⟩, -⟩ := hp_5
    · skip
      have q_6 : out ((u)) ((0 : Int32)) ((20 : Int32)) := q_6
      refine lv_if_eq (tgt := 24) hx hb dX5_setRules_18 (by decide) (fun c9 => absurd c9 (by decide)) (fun _ => ?_)
      refine lv_bipush (v := (-2)) hx hb dX5_setRules_21 (by decide) ?_
      exact nw_iret (rm := ({ frames := 1, cells := 0, slots := 0, locals := 22 } : Room)) X hP hD hS (by simp only [rulesOk, nwIf_T, nwIf_F, or_true, true_or, or_false, false_or, and_true, true_and, and_false, false_and, not_true_eq_false, not_false_eq_true, Nat.add_sub_cancel, q_2, q_6]) dX5_setRules_23
    · skip
      have q_6 : ¬ out ((u)) ((0 : Int32)) ((20 : Int32)) := q_6
      refine lv_if_eq (tgt := 24) hx hb dX5_setRules_18 (by decide) (fun _ => ?_) (fun c9 => absurd (by decide) c9)
      refine lv_aload_n hx hb dX5_setRules_24 rfl (lv_at hl 0 rfl) ?_
      refine lv_iload_n hx hb dX5_setRules_25 rfl (lv_at hl 1 rfl) ?_
      refine va_put (D := G.1) (ci := 4) (v := .int (e)) (ty := .int) (C := RX5) (T := TX5) (N := 7) hx hb hts in_X5_setRules_X5 tyX5 tyX5_ok nmX5 hown hK.1 hP hD hS 0 rfl rfl 5 (by decide) (hts (.fieldLink RX5 30 "NightWater$Zones" "error" "I") (List.mem_of_getElem? (i := 1) rfl)) (fun _ h9 => h9) rfl (by decide +kernel) rfl rfl (Nat.le_of_ble_eq_true rfl) dX5_setRules_26 (fun H locs hP hD hS => ?_)
      have hP : va_P G.1 vwCl ((wZ G (a) (n) (cu) (bg) (M) ((e)) (us))) H := hP
      have hD : va_D vA ((wZ G (a) (n) (cu) (bg) (M) ((e)) (us))) := hD
      refine lv_aload_n hx hb dX5_setRules_29 rfl (lv_at hl 0 rfl) ?_
      refine lv_iload_n hx hb dX5_setRules_30 rfl (lv_at hl 2 rfl) ?_
      refine va_put (D := G.1) (ci := 4) (v := .int (u)) (ty := .int) (C := RX5) (T := TX5) (N := 7) hx hb hts in_X5_setRules_X5 tyX5 tyX5_ok nmX5 hown hK.1 hP hD hS 0 rfl rfl 6 (by decide) (hts (.fieldLink RX5 33 "NightWater$Zones" "use" "I") (List.mem_of_getElem? (i := 2) rfl)) (fun _ h9 => h9) rfl (by decide +kernel) rfl rfl (Nat.le_of_ble_eq_true rfl) dX5_setRules_31 (fun H locs hP hD hS => ?_)
      have hP : va_P G.1 vwCl ((wZ G (a) (n) (cu) (bg) (M) ((e)) ((u)))) H := hP
      have hD : va_D vA ((wZ G (a) (n) (cu) (bg) (M) ((e)) ((u)))) := hD
      refine lv_iconst (v := (1)) hx hb dX5_setRules_34 (by decide) ?_
      exact nw_iret (rm := ({ frames := 1, cells := 0, slots := 0, locals := 22 } : Room)) X hP hD hS (by simp only [rulesOk, nwIf_T, nwIf_F, or_true, true_or, or_false, false_or, and_true, true_and, and_false, false_and, not_true_eq_false, not_false_eq_true, Nat.add_sub_cancel, q_2, q_6]) dX5_setRules_35
set_option maxHeartbeats 4000000 in
set_option maxRecDepth 100000 in
theorem c_X5_leastOf (lc : Launch) (G : nwG) (a : Nat → Nat) (n : Nat) (cu bg : Nat → Int32) (M : Nat → Nat → Int32) (er us : Int32) (told : Int32)  : nwCi lc G yX5_leastOf wsX5_leastOf ({ frames := 0, cells := 0, slots := 0, locals := 0 } : Room) [.ref (a 0), .int (told)] ((wZ G (a) (n) (cu) (bg) (M) (er) (us))) (fun r w => r = lstF er told ∧ w = wZ G a n cu bg M er us) := by
  refine nw_of (cc := cX5_leastOf) (maxL := 2) (ret := (some .int)) (by decide) rfl (Nat.le_of_ble_eq_true rfl) ?_
  intro vp ve vs vm vb vt vc vA ls X hP hD hA hS hl
  have X : nwAt vp vm vc cX5_leastOf 2 vs _ wsX5_leastOf RX5 vt (some .int) "leastOf" G := X
  have hx := X.1.1
  have hb := X.1.2.1
  have hown := X.1.2.2.2.1
  have hts := X.1.2.2.2.2
  have hK := X.2.2.2.2
  have hl : lv_has ls 2 [(0, .ref (a 0)), (1, .int (told))] := hl
  refine lv_iload_n hx hb dX5_leastOf_0 rfl (lv_at hl 1 rfl) ?_
  refine lv_sipush (v := (1000)) hx hb dX5_leastOf_1 (by decide) ?_
  refine lv_aload_n hx hb dX5_leastOf_4 rfl (lv_at hl 0 rfl) ?_
  refine va_get (D := G.1) (ci := 4) (v := .int (er)) (C := RX5) (T := TX5) (N := 7) hx hb hts in_X5_leastOf_X5 hown hK.1 hP 0 rfl rfl 5 (by decide) (hts (.fieldLink RX5 30 "NightWater$Zones" "error" "I") (List.mem_of_getElem? (i := 1) rfl)) (fun _ h9 => h9) rfl dX5_leastOf_5 ?_
  refine lv_isub hx hb dX5_leastOf_8 ?_
  refine lv_imul hx hb dX5_leastOf_9 ?_
  refine lv_sipush (v := (1000)) hx hb dX5_leastOf_10 (by decide) ?_
  refine lv_idiv hx hb dX5_leastOf_13 (by decide) ?_
  exact nw_iret (rm := ({ frames := 0, cells := 0, slots := 0, locals := 0 } : Room)) X hP hD hS (⟨rfl, rfl⟩) dX5_leastOf_14
set_option maxHeartbeats 4000000 in
set_option maxRecDepth 100000 in
theorem c_X5_greatestOf (lc : Launch) (G : nwG) (a : Nat → Nat) (n : Nat) (cu bg : Nat → Int32) (M : Nat → Nat → Int32) (er us : Int32) (told : Int32)  : nwCi lc G yX5_greatestOf wsX5_greatestOf ({ frames := 0, cells := 0, slots := 0, locals := 0 } : Room) [.ref (a 0), .int (told)] ((wZ G (a) (n) (cu) (bg) (M) (er) (us))) (fun r w => r = grtF er told ∧ w = wZ G a n cu bg M er us) := by
  refine nw_of (cc := cX5_greatestOf) (maxL := 2) (ret := (some .int)) (by decide) rfl (Nat.le_of_ble_eq_true rfl) ?_
  intro vp ve vs vm vb vt vc vA ls X hP hD hA hS hl
  have X : nwAt vp vm vc cX5_greatestOf 2 vs _ wsX5_greatestOf RX5 vt (some .int) "greatestOf" G := X
  have hx := X.1.1
  have hb := X.1.2.1
  have hown := X.1.2.2.2.1
  have hts := X.1.2.2.2.2
  have hK := X.2.2.2.2
  have hl : lv_has ls 2 [(0, .ref (a 0)), (1, .int (told))] := hl
  refine lv_iload_n hx hb dX5_greatestOf_0 rfl (lv_at hl 1 rfl) ?_
  refine lv_sipush (v := (1000)) hx hb dX5_greatestOf_1 (by decide) ?_
  refine lv_aload_n hx hb dX5_greatestOf_4 rfl (lv_at hl 0 rfl) ?_
  refine va_get (D := G.1) (ci := 4) (v := .int (er)) (C := RX5) (T := TX5) (N := 7) hx hb hts in_X5_greatestOf_X5 hown hK.1 hP 0 rfl rfl 5 (by decide) (hts (.fieldLink RX5 30 "NightWater$Zones" "error" "I") (List.mem_of_getElem? (i := 1) rfl)) (fun _ h9 => h9) rfl dX5_greatestOf_5 ?_
  refine lv_iadd hx hb dX5_greatestOf_8 ?_
  refine lv_imul hx hb dX5_greatestOf_9 ?_
  refine lv_sipush (v := (999)) hx hb dX5_greatestOf_10 (by decide) ?_
  refine lv_iadd hx hb dX5_greatestOf_13 ?_
  refine lv_sipush (v := (1000)) hx hb dX5_greatestOf_14 (by decide) ?_
  refine lv_idiv hx hb dX5_greatestOf_17 (by decide) ?_
  exact nw_iret (rm := ({ frames := 0, cells := 0, slots := 0, locals := 0 } : Room)) X hP hD hS (⟨rfl, rfl⟩) dX5_greatestOf_18
set_option maxHeartbeats 4000000 in
set_option maxRecDepth 100000 in
theorem c_X5_leastNet (lc : Launch) (G : nwG) (a : Nat → Nat) (n : Nat) (cu bg : Nat → Int32) (M : Nat → Nat → Int32) (er us : Int32) (z h : Nat) (hz : z < 8) (hh : h < 24) : nwCi lc G yX5_leastNet wsX5_leastNet ({ frames := 1, cells := 0, slots := 0, locals := 21 } : Room) [.ref (a 0), .int (nI (z)), .int (nI (h))] ((wZ G (a) (n) (cu) (bg) (M) (er) (us))) (fun r w => r = lstF er (M z h) - grtF er (M (8 + z) h) ∧ w = wZ G a n cu bg M er us) := by
  refine nw_of (cc := cX5_leastNet) (maxL := 3) (ret := (some .int)) (by decide) rfl (Nat.le_of_ble_eq_true rfl) ?_
  intro vp ve vs vm vb vt vc vA ls X hP hD hA hS hl
  have X : nwAt vp vm vc cX5_leastNet 3 vs _ wsX5_leastNet RX5 vt (some .int) "leastNet" G := X
  have hx := X.1.1
  have hb := X.1.2.1
  have hown := X.1.2.2.2.1
  have hts := X.1.2.2.2.2
  have hK := X.2.2.2.2
  have hl : lv_has ls 3 [(0, .ref (a 0)), (1, .int (nI (z))), (2, .int (nI (h)))] := hl
  refine lv_aload_n hx hb dX5_leastNet_0 rfl (lv_at hl 0 rfl) ?_
  refine lv_aload_n hx hb dX5_leastNet_1 rfl (lv_at hl 0 rfl) ?_
  refine va_get (D := G.1) (ci := 4) (v := .ref (a 3)) (C := RX5) (T := TX5) (N := 7) hx hb hts in_X5_leastNet_X5 hown hK.1 hP 0 rfl rfl 2 (by decide) (hts (.fieldLink RX5 20 "NightWater$Zones" "ins" "[[I") (List.mem_of_getElem? (i := 1) rfl)) (fun _ h9 => h9) rfl dX5_leastNet_2 ?_
  refine lv_iload_n hx hb dX5_leastNet_5 rfl (lv_at hl 1 rfl) ?_
  refine nw_aald X hP 3 rfl (z) rfl (by omega) (by decide) dX5_leastNet_6 ?_
  show W _ _ _ _ _ _ _ _ _ _ _ _ _ _ _ (F0 vm _ ls (.ref (a (5 + z)) :: _))
  refine lv_iload_n hx hb dX5_leastNet_7 rfl (lv_at hl 2 rfl) ?_
  refine nw_rald (X0 := _) (r := fun i => a (5 + i)) (N := 16) (n := 24) (M := M) X hP (z) (by omega) (h) rfl (by omega) (by decide) dX5_leastNet_8 ?_
  refine nw_Vi (As := [.int (M (z) (h))]) (rest := []) (q0 := 0) X (c_X5_leastOf lc G (a) (n) (cu) (bg) (M) (er) (us) ((M (z) (h))) ) (cwV 1 hts gX5_leastNet_X5_leastOf rfl rfl rfl (by decide +kernel) ⟨Nat.le_of_ble_eq_true rfl, Nat.le_of_ble_eq_true rfl⟩) rfl (show vwCl[4]? = some (RX5, TX5, 7) from rfl) (nwSp.all ((wZ G (a) (n) (cu) (bg) (M) (er) (us)))) hP hD hS hA rfl hl.1 rfl (Nat.le_of_ble_eq_true rfl) dX5_leastNet_9 ⟨Nat.le_of_ble_eq_true rfl, Nat.le_of_ble_eq_true rfl⟩ (fun r w H locs hp_1 hP hD hS => ?_)
  obtain ⟨rfl, rfl⟩ := hp_1
  have hP : va_P G.1 vwCl ((wZ G (a) (n) (cu) (bg) (M) (er) (us))) H := hP
  have hD : va_D vA ((wZ G (a) (n) (cu) (bg) (M) (er) (us))) := hD
  refine lv_aload_n hx hb dX5_leastNet_12 rfl (lv_at hl 0 rfl) ?_
  refine lv_aload_n hx hb dX5_leastNet_13 rfl (lv_at hl 0 rfl) ?_
  refine va_get (D := G.1) (ci := 4) (v := .ref (a 4)) (C := RX5) (T := TX5) (N := 7) hx hb hts in_X5_leastNet_X5 hown hK.1 hP 0 rfl rfl 3 (by decide) (hts (.fieldLink RX5 23 "NightWater$Zones" "outs" "[[I") (List.mem_of_getElem? (i := 2) rfl)) (fun _ h9 => h9) rfl dX5_leastNet_14 ?_
  refine lv_iload_n hx hb dX5_leastNet_17 rfl (lv_at hl 1 rfl) ?_
  refine nw_aald X hP 4 rfl (z) rfl (by omega) (by decide) dX5_leastNet_18 ?_
  show W _ _ _ _ _ _ _ _ _ _ _ _ _ _ _ (F0 vm _ ls (.ref (a (5 + (8 + z))) :: _))
  refine lv_iload_n hx hb dX5_leastNet_19 rfl (lv_at hl 2 rfl) ?_
  refine nw_rald (X0 := _) (r := fun i => a (5 + i)) (N := 16) (n := 24) (M := M) X hP (8 + z) (by omega) (h) rfl (by omega) (by decide) dX5_leastNet_20 ?_
  refine nw_Vi (As := [.int (M (8 + z) (h))]) (rest := [.int (lstF (er) ((M (z) (h))))]) (q0 := 0) X (c_X5_greatestOf lc G (a) (n) (cu) (bg) (M) (er) (us) ((M (8 + z) (h))) ) (cwV 1 hts gX5_leastNet_X5_greatestOf rfl rfl rfl (by decide +kernel) ⟨Nat.le_of_ble_eq_true rfl, Nat.le_of_ble_eq_true rfl⟩) rfl (show vwCl[4]? = some (RX5, TX5, 7) from rfl) (nwSp.all ((wZ G (a) (n) (cu) (bg) (M) (er) (us)))) hP hD hS hA rfl hl.1 rfl (Nat.le_of_ble_eq_true rfl) dX5_leastNet_21 ⟨Nat.le_of_ble_eq_true rfl, Nat.le_of_ble_eq_true rfl⟩ (fun r w H locs hp_2 hP hD hS => ?_)
  obtain ⟨rfl, rfl⟩ := hp_2
  have hP : va_P G.1 vwCl ((wZ G (a) (n) (cu) (bg) (M) (er) (us))) H := hP
  have hD : va_D vA ((wZ G (a) (n) (cu) (bg) (M) (er) (us))) := hD
  refine lv_isub hx hb dX5_leastNet_24 ?_
  exact nw_iret (rm := ({ frames := 1, cells := 0, slots := 0, locals := 21 } : Room)) X hP hD hS (⟨rfl, rfl⟩) dX5_leastNet_25
set_option maxHeartbeats 4000000 in
set_option maxRecDepth 100000 in
theorem c_X5_greatestNet (lc : Launch) (G : nwG) (a : Nat → Nat) (n : Nat) (cu bg : Nat → Int32) (M : Nat → Nat → Int32) (er us : Int32) (z h : Nat) (hz : z < 8) (hh : h < 24) : nwCi lc G yX5_greatestNet wsX5_greatestNet ({ frames := 1, cells := 0, slots := 0, locals := 21 } : Room) [.ref (a 0), .int (nI (z)), .int (nI (h))] ((wZ G (a) (n) (cu) (bg) (M) (er) (us))) (fun r w => r = grtF er (M z h) - lstF er (M (8 + z) h) ∧ w = wZ G a n cu bg M er us) := by
  refine nw_of (cc := cX5_greatestNet) (maxL := 3) (ret := (some .int)) (by decide) rfl (Nat.le_of_ble_eq_true rfl) ?_
  intro vp ve vs vm vb vt vc vA ls X hP hD hA hS hl
  have X : nwAt vp vm vc cX5_greatestNet 3 vs _ wsX5_greatestNet RX5 vt (some .int) "greatestNet" G := X
  have hx := X.1.1
  have hb := X.1.2.1
  have hown := X.1.2.2.2.1
  have hts := X.1.2.2.2.2
  have hK := X.2.2.2.2
  have hl : lv_has ls 3 [(0, .ref (a 0)), (1, .int (nI (z))), (2, .int (nI (h)))] := hl
  refine lv_aload_n hx hb dX5_greatestNet_0 rfl (lv_at hl 0 rfl) ?_
  refine lv_aload_n hx hb dX5_greatestNet_1 rfl (lv_at hl 0 rfl) ?_
  refine va_get (D := G.1) (ci := 4) (v := .ref (a 3)) (C := RX5) (T := TX5) (N := 7) hx hb hts in_X5_greatestNet_X5 hown hK.1 hP 0 rfl rfl 2 (by decide) (hts (.fieldLink RX5 20 "NightWater$Zones" "ins" "[[I") (List.mem_of_getElem? (i := 1) rfl)) (fun _ h9 => h9) rfl dX5_greatestNet_2 ?_
  refine lv_iload_n hx hb dX5_greatestNet_5 rfl (lv_at hl 1 rfl) ?_
  refine nw_aald X hP 3 rfl (z) rfl (by omega) (by decide) dX5_greatestNet_6 ?_
  show W _ _ _ _ _ _ _ _ _ _ _ _ _ _ _ (F0 vm _ ls (.ref (a (5 + z)) :: _))
  refine lv_iload_n hx hb dX5_greatestNet_7 rfl (lv_at hl 2 rfl) ?_
  refine nw_rald (X0 := _) (r := fun i => a (5 + i)) (N := 16) (n := 24) (M := M) X hP (z) (by omega) (h) rfl (by omega) (by decide) dX5_greatestNet_8 ?_
  refine nw_Vi (As := [.int (M (z) (h))]) (rest := []) (q0 := 0) X (c_X5_greatestOf lc G (a) (n) (cu) (bg) (M) (er) (us) ((M (z) (h))) ) (cwV 1 hts gX5_greatestNet_X5_greatestOf rfl rfl rfl (by decide +kernel) ⟨Nat.le_of_ble_eq_true rfl, Nat.le_of_ble_eq_true rfl⟩) rfl (show vwCl[4]? = some (RX5, TX5, 7) from rfl) (nwSp.all ((wZ G (a) (n) (cu) (bg) (M) (er) (us)))) hP hD hS hA rfl hl.1 rfl (Nat.le_of_ble_eq_true rfl) dX5_greatestNet_9 ⟨Nat.le_of_ble_eq_true rfl, Nat.le_of_ble_eq_true rfl⟩ (fun r w H locs hp_1 hP hD hS => ?_)
  obtain ⟨rfl, rfl⟩ := hp_1
  have hP : va_P G.1 vwCl ((wZ G (a) (n) (cu) (bg) (M) (er) (us))) H := hP
  have hD : va_D vA ((wZ G (a) (n) (cu) (bg) (M) (er) (us))) := hD
  refine lv_aload_n hx hb dX5_greatestNet_12 rfl (lv_at hl 0 rfl) ?_
  refine lv_aload_n hx hb dX5_greatestNet_13 rfl (lv_at hl 0 rfl) ?_
  refine va_get (D := G.1) (ci := 4) (v := .ref (a 4)) (C := RX5) (T := TX5) (N := 7) hx hb hts in_X5_greatestNet_X5 hown hK.1 hP 0 rfl rfl 3 (by decide) (hts (.fieldLink RX5 23 "NightWater$Zones" "outs" "[[I") (List.mem_of_getElem? (i := 2) rfl)) (fun _ h9 => h9) rfl dX5_greatestNet_14 ?_
  refine lv_iload_n hx hb dX5_greatestNet_17 rfl (lv_at hl 1 rfl) ?_
  refine nw_aald X hP 4 rfl (z) rfl (by omega) (by decide) dX5_greatestNet_18 ?_
  show W _ _ _ _ _ _ _ _ _ _ _ _ _ _ _ (F0 vm _ ls (.ref (a (5 + (8 + z))) :: _))
  refine lv_iload_n hx hb dX5_greatestNet_19 rfl (lv_at hl 2 rfl) ?_
  refine nw_rald (X0 := _) (r := fun i => a (5 + i)) (N := 16) (n := 24) (M := M) X hP (8 + z) (by omega) (h) rfl (by omega) (by decide) dX5_greatestNet_20 ?_
  refine nw_Vi (As := [.int (M (8 + z) (h))]) (rest := [.int (grtF (er) ((M (z) (h))))]) (q0 := 0) X (c_X5_leastOf lc G (a) (n) (cu) (bg) (M) (er) (us) ((M (8 + z) (h))) ) (cwV 1 hts gX5_greatestNet_X5_leastOf rfl rfl rfl (by decide +kernel) ⟨Nat.le_of_ble_eq_true rfl, Nat.le_of_ble_eq_true rfl⟩) rfl (show vwCl[4]? = some (RX5, TX5, 7) from rfl) (nwSp.all ((wZ G (a) (n) (cu) (bg) (M) (er) (us)))) hP hD hS hA rfl hl.1 rfl (Nat.le_of_ble_eq_true rfl) dX5_greatestNet_21 ⟨Nat.le_of_ble_eq_true rfl, Nat.le_of_ble_eq_true rfl⟩ (fun r w H locs hp_2 hP hD hS => ?_)
  obtain ⟨rfl, rfl⟩ := hp_2
  have hP : va_P G.1 vwCl ((wZ G (a) (n) (cu) (bg) (M) (er) (us))) H := hP
  have hD : va_D vA ((wZ G (a) (n) (cu) (bg) (M) (er) (us))) := hD
  refine lv_isub hx hb dX5_greatestNet_24 ?_
  exact nw_iret (rm := ({ frames := 1, cells := 0, slots := 0, locals := 21 } : Room)) X hP hD hS (⟨rfl, rfl⟩) dX5_greatestNet_25
set_option maxHeartbeats 4000000 in
set_option maxRecDepth 100000 in
theorem c_X5_setReading (lc : Launch) (G : nwG) (a : Nat → Nat) (n : Nat) (cu bg : Nat → Int32) (M : Nat → Nat → Int32) (er us : Int32) (zone hour inn v : Int32) (hn : n ≤ 8) : nwCi lc G yX5_setReading wsX5_setReading ({ frames := 2, cells := 0, slots := 0, locals := 43 } : Room) [.ref (a 0), .int (zone), .int (hour), .int (inn), .int (v)] ((wZ G (a) (n) (cu) (bg) (M) (er) (us))) (fun r w => r = nwIf (readOk n zone hour v) (M (readRow zone inn) hour.toNatClampNeg) (-2) ∧ w = wZ G a n cu bg (nwIf (readOk n zone hour v) (nwU2 M (readRow zone inn) hour.toNatClampNeg v) M) er us) := by
  refine nw_of (cc := cX5_setReading) (maxL := 7) (ret := (some .int)) (by decide) rfl (Nat.le_of_ble_eq_true rfl) ?_
  intro vp ve vs vm vb vt vc vA ls X hP hD hA hS hl
  have X : nwAt vp vm vc cX5_setReading 7 vs _ wsX5_setReading RX5 vt (some .int) "setReading" G := X
  have hx := X.1.1
  have hb := X.1.2.1
  have hown := X.1.2.2.2.1
  have hts := X.1.2.2.2.2
  have hK := X.2.2.2.2
  have hl : lv_has ls 7 [(0, .ref (a 0)), (1, .int (zone)), (2, .int (hour)), (3, .int (inn)), (4, .int (v))] := hl
  refine lv_aload_n hx hb dX5_setReading_0 rfl (lv_at hl 0 rfl) ?_
  refine lv_iload_n hx hb dX5_setReading_1 rfl (lv_at hl 1 rfl) ?_
  refine nw_Vi (As := [.int (zone)]) (rest := []) (q0 := 0) X (c_X5_isNone lc G (a) (n) (cu) (bg) (M) (er) (us) ((zone)) ) (cwV 1 hts gX5_setReading_X5_isNone rfl rfl rfl (by decide +kernel) ⟨Nat.le_of_ble_eq_true rfl, Nat.le_of_ble_eq_true rfl⟩) rfl (show vwCl[4]? = some (RX5, TX5, 7) from rfl) (nwSp.all ((wZ G (a) (n) (cu) (bg) (M) (er) (us)))) hP hD hS hA rfl hl.1 rfl (Nat.le_of_ble_eq_true rfl) dX5_setReading_2 ⟨Nat.le_of_ble_eq_true rfl, Nat.le_of_ble_eq_true rfl⟩ (fun r w H locs hp_1 hP hD hS => ?_)
  obtain ⟨⟨rfl, q_2⟩ | ⟨rfl, q_2⟩, rfl⟩ := hp_1
  · skip
    have hP : va_P G.1 vwCl ((wZ G (a) (n) (cu) (bg) (M) (er) (us))) H := hP
    have hD : va_D vA ((wZ G (a) (n) (cu) (bg) (M) (er) (us))) := hD
    have q_2 : out ((zone)) 0 (nI (n) - 1) := q_2
    refine lv_if_ne (tgt := 30) hx hb dX5_setReading_5 (by decide) (fun _ => ?_) (fun c9 => absurd c9 (by decide))
    refine lv_bipush (v := (-2)) hx hb dX5_setReading_30 (by decide) ?_
    exact nw_iret (rm := ({ frames := 2, cells := 0, slots := 0, locals := 43 } : Room)) X hP hD hS (by simp only [readOk, readRow, nwIf_T, nwIf_F, or_true, true_or, or_false, false_or, and_true, true_and, and_false, false_and, not_true_eq_false, not_false_eq_true, Nat.add_sub_cancel, q_2]) dX5_setReading_32
  · skip
    have hP : va_P G.1 vwCl ((wZ G (a) (n) (cu) (bg) (M) (er) (us))) H := hP
    have hD : va_D vA ((wZ G (a) (n) (cu) (bg) (M) (er) (us))) := hD
    have q_2 : ¬ out ((zone)) 0 (nI (n) - 1) := q_2
    obtain ⟨z_4, hz_5, he_6⟩ := nw_lt (n := n) (by omega) q_2
    have ec_7 := nw_clamp he_6 (by omega)
    refine lv_if_ne (tgt := 30) hx hb dX5_setReading_5 (by decide) (fun c9 => absurd c9 (by decide)) (fun _ => ?_)
    refine lv_iload_n hx hb dX5_setReading_8 rfl (lv_at hl 2 rfl) ?_
    refine lv_iconst (v := (0)) hx hb dX5_setReading_9 (by decide) ?_
    refine lv_bipush (v := (23)) hx hb dX5_setReading_10 (by decide) ?_
    refine nw_Ni (As := [.int (hour), .int (0), .int (23)]) (rest := []) X (c_X6_outside lc G ((hour)) ((0 : Int32)) ((23 : Int32)) ) (va_cnB 3 hts ggX5_setReading_X6_outside rfl rfl rfl (hK.nest 3 rfl) (hts (.initialized RX6) (List.mem_of_getElem? (i := 10) rfl)) (by decide +kernel) ⟨Nat.le_of_ble_eq_true rfl, Nat.le_of_ble_eq_true rfl⟩) (hts (.static yX6_outside) (List.mem_of_getElem? (i := 9) rfl)) (fun _ _ h => h.2) hP hD hS hA rfl hl.1 rfl (Nat.le_of_ble_eq_true rfl) dX5_setReading_12 ⟨Nat.le_of_ble_eq_true rfl, Nat.le_of_ble_eq_true rfl⟩ (fun r H locs hp_9 hP hD hS => ?_)
    obtain ⟨⟨rfl, q_10⟩ | ⟨rfl, q_10⟩, -⟩ := hp_9
    · skip
      have q_10 : out ((hour)) ((0 : Int32)) ((23 : Int32)) := q_10
      refine lv_if_ne (tgt := 30) hx hb dX5_setReading_15 (by decide) (fun _ => ?_) (fun c9 => absurd c9 (by decide))
      refine lv_bipush (v := (-2)) hx hb dX5_setReading_30 (by decide) ?_
      exact nw_iret (rm := ({ frames := 2, cells := 0, slots := 0, locals := 43 } : Room)) X hP hD hS (by simp only [readOk, readRow, nwIf_T, nwIf_F, or_true, true_or, or_false, false_or, and_true, true_and, and_false, false_and, not_true_eq_false, not_false_eq_true, Nat.add_sub_cancel, q_2, ec_7, q_10]) dX5_setReading_32
    · skip
      have q_10 : ¬ out ((hour)) ((0 : Int32)) ((23 : Int32)) := q_10
      obtain ⟨z_12, hz_13, he_14⟩ := nw_le (n := 23) rfl (by decide) q_10
      have ec_15 := nw_clamp he_14 (by omega)
      refine lv_if_ne (tgt := 30) hx hb dX5_setReading_15 (by decide) (fun c9 => absurd c9 (by decide)) (fun _ => ?_)
      refine lv_iload hx hb dX5_setReading_18 (lv_at hl 4 rfl) ?_
      refine lv_iconst (v := (-1)) hx hb dX5_setReading_20 (by decide) ?_
      refine lv_sipush (v := (20000)) hx hb dX5_setReading_21 (by decide) ?_
      refine nw_Ni (As := [.int (v), .int (-1), .int (20000)]) (rest := []) X (c_X6_outside lc G ((v)) ((-1 : Int32)) ((20000 : Int32)) ) (va_cnB 3 hts ggX5_setReading_X6_outside rfl rfl rfl (hK.nest 3 rfl) (hts (.initialized RX6) (List.mem_of_getElem? (i := 10) rfl)) (by decide +kernel) ⟨Nat.le_of_ble_eq_true rfl, Nat.le_of_ble_eq_true rfl⟩) (hts (.static yX6_outside) (List.mem_of_getElem? (i := 9) rfl)) (fun _ _ h => h.2) hP hD hS hA rfl hl.1 rfl (Nat.le_of_ble_eq_true rfl) dX5_setReading_24 ⟨Nat.le_of_ble_eq_true rfl, Nat.le_of_ble_eq_true rfl⟩ (fun r H locs hp_17 hP hD hS => ?_)
      obtain ⟨⟨rfl, q_18⟩ | ⟨rfl, q_18⟩, -⟩ := hp_17
      · skip
        have q_18 : out ((v)) ((-1 : Int32)) ((20000 : Int32)) := q_18
        refine lv_if_eq (tgt := 33) hx hb dX5_setReading_27 (by decide) (fun c9 => absurd c9 (by decide)) (fun _ => ?_)
        refine lv_bipush (v := (-2)) hx hb dX5_setReading_30 (by decide) ?_
        exact nw_iret (rm := ({ frames := 2, cells := 0, slots := 0, locals := 43 } : Room)) X hP hD hS (by simp only [readOk, readRow, nwIf_T, nwIf_F, or_true, true_or, or_false, false_or, and_true, true_and, and_false, false_and, not_true_eq_false, not_false_eq_true, Nat.add_sub_cancel, q_2, ec_7, q_10, ec_15, q_18]) dX5_setReading_32
      · skip
        have q_18 : ¬ out ((v)) ((-1 : Int32)) ((20000 : Int32)) := q_18
        refine lv_if_eq (tgt := 33) hx hb dX5_setReading_27 (by decide) (fun _ => ?_) (fun c9 => absurd (by decide) c9)
        refine lv_iload_n hx hb dX5_setReading_33 rfl (lv_at hl 3 rfl) ?_
        refine lv_if_eq (tgt := 46) hx hb dX5_setReading_34 (by decide) (fun b34_21 => ?_) (fun b34_21 => ?_)
        · skip
          have b34_21 : (inn) = (0 : Int32) := b34_21
          refine lv_aload_n hx hb dX5_setReading_46 rfl (lv_at hl 0 rfl) ?_
          refine va_get (D := G.1) (ci := 4) (v := .ref (a 4)) (C := RX5) (T := TX5) (N := 7) hx hb hts in_X5_setReading_X5 hown hK.1 hP 0 rfl rfl 3 (by decide) (hts (.fieldLink RX5 23 "NightWater$Zones" "outs" "[[I") (List.mem_of_getElem? (i := 2) rfl)) (fun _ h9 => h9) rfl dX5_setReading_47 ?_
          refine lv_iload_n hx hb dX5_setReading_50 rfl (lv_at hl 1 rfl) ?_
          refine nw_aald X hP 4 rfl (z_4) he_6 (by omega) (by decide) dX5_setReading_51 ?_
          show W _ _ _ _ _ _ _ _ _ _ _ _ _ _ _ (F0 vm _ ls (.ref (a (5 + (8 + z_4))) :: _))
          refine lv_astore (lv' := [(5, .ref (a (5 + (8 + z_4)))), (0, .ref (a 0)), (1, .int (zone)), (2, .int (hour)), (3, .int (inn)), (4, .int (v))]) hx hb dX5_setReading_52 hl (by decide) rfl (fun ls hl => ?_)
          refine lv_aload hx hb dX5_setReading_54 (lv_at hl 0 rfl) ?_
          refine lv_iload_n hx hb dX5_setReading_56 rfl (lv_at hl 3 rfl) ?_
          refine nw_rald (X0 := _) (r := fun i => a (5 + i)) (N := 16) (n := 24) (M := M) X hP (8 + z_4) (by omega) (z_12) he_14 (by omega) (by decide) dX5_setReading_57 ?_
          refine lv_istore (lv' := [(6, .int (M (8 + z_4) (z_12))), (5, .ref (a (5 + (8 + z_4)))), (0, .ref (a 0)), (1, .int (zone)), (2, .int (hour)), (3, .int (inn)), (4, .int (v))]) hx hb dX5_setReading_58 hl (by decide) rfl (fun ls hl => ?_)
          refine lv_aload hx hb dX5_setReading_60 (lv_at hl 1 rfl) ?_
          refine lv_iload_n hx hb dX5_setReading_62 rfl (lv_at hl 4 rfl) ?_
          refine lv_iload hx hb dX5_setReading_63 (lv_at hl 6 rfl) ?_
          refine nw_rast (X0 := _) (r := fun i => a (5 + i)) (N := 16) (n := 24) (M := M) X hP hD hS (8 + z_4) (by omega) (z_12) he_14 (by omega) (by decide) dX5_setReading_65 (fun H locs hP hD hS => ?_)
          have hP : va_P G.1 vwCl ((wZ G (a) (n) (cu) (bg) (nwU2 (M) (8 + z_4) (z_12) (v)) (er) (us))) H := hP
          have hD : va_D vA ((wZ G (a) (n) (cu) (bg) (nwU2 (M) (8 + z_4) (z_12) (v)) (er) (us))) := hD
          refine lv_iload hx hb dX5_setReading_66 (lv_at hl 0 rfl) ?_
          exact nw_iret (rm := ({ frames := 2, cells := 0, slots := 0, locals := 43 } : Room)) X hP hD hS (by simp only [readOk, readRow, nwIf_T, nwIf_F, or_true, true_or, or_false, false_or, and_true, true_and, and_false, false_and, not_true_eq_false, not_false_eq_true, Nat.add_sub_cancel, q_2, ec_7, q_10, ec_15, q_18, eq_true b34_21]) dX5_setReading_68
        · skip
          have b34_21 : ¬ ((inn) = (0 : Int32)) := b34_21
          refine lv_aload_n hx hb dX5_setReading_37 rfl (lv_at hl 0 rfl) ?_
          refine va_get (D := G.1) (ci := 4) (v := .ref (a 3)) (C := RX5) (T := TX5) (N := 7) hx hb hts in_X5_setReading_X5 hown hK.1 hP 0 rfl rfl 2 (by decide) (hts (.fieldLink RX5 20 "NightWater$Zones" "ins" "[[I") (List.mem_of_getElem? (i := 1) rfl)) (fun _ h9 => h9) rfl dX5_setReading_38 ?_
          refine lv_iload_n hx hb dX5_setReading_41 rfl (lv_at hl 1 rfl) ?_
          refine nw_aald X hP 3 rfl (z_4) he_6 (by omega) (by decide) dX5_setReading_42 ?_
          show W _ _ _ _ _ _ _ _ _ _ _ _ _ _ _ (F0 vm _ ls (.ref (a (5 + z_4)) :: _))
          refine lv_goto (tgt := 52) hx hb dX5_setReading_43 (by decide) ?_
          refine lv_astore (lv' := [(5, .ref (a (5 + z_4))), (0, .ref (a 0)), (1, .int (zone)), (2, .int (hour)), (3, .int (inn)), (4, .int (v))]) hx hb dX5_setReading_52 hl (by decide) rfl (fun ls hl => ?_)
          refine lv_aload hx hb dX5_setReading_54 (lv_at hl 0 rfl) ?_
          refine lv_iload_n hx hb dX5_setReading_56 rfl (lv_at hl 3 rfl) ?_
          refine nw_rald (X0 := _) (r := fun i => a (5 + i)) (N := 16) (n := 24) (M := M) X hP (z_4) (by omega) (z_12) he_14 (by omega) (by decide) dX5_setReading_57 ?_
          refine lv_istore (lv' := [(6, .int (M (z_4) (z_12))), (5, .ref (a (5 + z_4))), (0, .ref (a 0)), (1, .int (zone)), (2, .int (hour)), (3, .int (inn)), (4, .int (v))]) hx hb dX5_setReading_58 hl (by decide) rfl (fun ls hl => ?_)
          refine lv_aload hx hb dX5_setReading_60 (lv_at hl 1 rfl) ?_
          refine lv_iload_n hx hb dX5_setReading_62 rfl (lv_at hl 4 rfl) ?_
          refine lv_iload hx hb dX5_setReading_63 (lv_at hl 6 rfl) ?_
          refine nw_rast (X0 := _) (r := fun i => a (5 + i)) (N := 16) (n := 24) (M := M) X hP hD hS (z_4) (by omega) (z_12) he_14 (by omega) (by decide) dX5_setReading_65 (fun H locs hP hD hS => ?_)
          have hP : va_P G.1 vwCl ((wZ G (a) (n) (cu) (bg) (nwU2 (M) (z_4) (z_12) (v)) (er) (us))) H := hP
          have hD : va_D vA ((wZ G (a) (n) (cu) (bg) (nwU2 (M) (z_4) (z_12) (v)) (er) (us))) := hD
          refine lv_iload hx hb dX5_setReading_66 (lv_at hl 0 rfl) ?_
          exact nw_iret (rm := ({ frames := 2, cells := 0, slots := 0, locals := 43 } : Room)) X hP hD hS (by simp only [readOk, readRow, nwIf_T, nwIf_F, or_true, true_or, or_false, false_or, and_true, true_and, and_false, false_and, not_true_eq_false, not_false_eq_true, Nat.add_sub_cancel, q_2, ec_7, q_10, ec_15, q_18, b34_21]) dX5_setReading_68
set_option maxHeartbeats 4000000 in
set_option maxRecDepth 100000 in
theorem c_X5_lowHour (lc : Launch) (G : nwG) (a : Nat → Nat) (n : Nat) (cu bg : Nat → Int32) (M : Nat → Nat → Int32) (er us : Int32) (z : Nat) (hz : z < 8) : nwCi lc G yX5_lowHour wsX5_lowHour ({ frames := 2, cells := 0, slots := 0, locals := 43 } : Room) [.ref (a 0), .int (nI (z))] ((wZ G (a) (n) (cu) (bg) (M) (er) (us))) (fun r w => r = (lowF er (M z) (M (8 + z)) 4).1 ∧ w = wZ G a n cu bg M er us) := by
  refine nw_of (cc := cX5_lowHour) (maxL := 6) (ret := (some .int)) (by decide) rfl (Nat.le_of_ble_eq_true rfl) ?_
  intro vp ve vs vm vb vt vc vA ls X hP hD hA hS hl
  have X : nwAt vp vm vc cX5_lowHour 6 vs _ wsX5_lowHour RX5 vt (some .int) "lowHour" G := X
  have hx := X.1.1
  have hb := X.1.2.1
  have hown := X.1.2.2.2.1
  have hts := X.1.2.2.2.2
  have hK := X.2.2.2.2
  have hl : lv_has ls 6 [(0, .ref (a 0)), (1, .int (nI (z)))] := hl
  refine lv_iconst (v := (-1)) hx hb dX5_lowHour_0 (by decide) ?_
  refine lv_istore_n (lv' := [(2, .int (-1)), (0, .ref (a 0)), (1, .int (nI (z)))]) hx hb dX5_lowHour_1 rfl hl (by decide) rfl (fun ls hl => ?_)
  refine lv_iconst (v := (0)) hx hb dX5_lowHour_2 (by decide) ?_
  refine lv_istore_n (lv' := [(3, .int (0)), (2, .int (-1)), (0, .ref (a 0)), (1, .int (nI (z)))]) hx hb dX5_lowHour_3 rfl hl (by decide) rfl (fun ls hl => ?_)
  refine lv_iconst (v := (1)) hx hb dX5_lowHour_4 (by decide) ?_
  refine lv_istore (lv' := [(4, .int (1)), (3, .int (0)), (2, .int (-1)), (0, .ref (a 0)), (1, .int (nI (z)))]) hx hb dX5_lowHour_5 hl (by decide) rfl (fun ls hl => ?_)
  have K7 : ∀ (fuel : Nat) (k : Nat) (x2 : Int32) (x3 : Int32) (H : Heap) (locs : List Loc) (ls : Array Slot), (5 - k) < fuel → (k ≤ 4) → (x2 = (lowF er (M z) (M (8 + z)) k).1) → (x3 = (lowF er (M z) (M (8 + z)) k).2.1) → lv_has ls 6 [(4, .int (nI (k + 1))), (3, .int (x3)), (2, .int (x2)), (0, .ref (a 0)), (1, .int (nI (z)))] → va_P G.1 vwCl ((wZ G (a) (n) (cu) (bg) (M) (er) (us))) H → va_D vA ((wZ G (a) (n) (cu) (bg) (M) (er) (us))) → va_S vA vs.heap H locs → W vp lc ve ({ frames := 2, cells := 0, slots := 0, locals := 43 } : Room) vs vm ([.ref (a 0), .int (nI (z))] : List Value).toArray vb vt vc H locs 0 0 (MQ vb (nwQi G (fun r w => r = (lowF er (M z) (M (8 + z)) 4).1 ∧ w = wZ G a n cu bg M er us) vA) ([.ref (a 0), .int (nI (z))] : List Value).toArray vs ({ frames := 2, cells := 0, slots := 0, locals := 43 } : Room).cells ({ frames := 2, cells := 0, slots := 0, locals := 43 } : Room).slots vA) (F0 vm 7 ls []) := by
    intro fuel
    induction fuel with
    | zero => intro k x2 x3 H locs ls hmu; exact absurd hmu (Nat.not_lt_zero _)
    | succ fuel ih7 =>
      intro k x2 x3 H locs ls hmu hk e2 e3 hl hP hD hS
      refine lv_iload hx hb dX5_lowHour_7 (lv_at hl 0 rfl) ?_
      refine lv_iconst (v := (4)) hx hb dX5_lowHour_9 (by decide) ?_
      refine lv_icmp_gt (tgt := 71) hx hb dX5_lowHour_10 (by decide) (fun b10_1 => ?_) (fun b10_1 => ?_)
      · skip
        have b10_1 : (4) < (k + 1) := (nI_ltI (a := 4) (b := k + 1) (by omega) (by omega)).mp b10_1
        have b10_1n : ¬ ((k + 1) ≤ (4)) := by omega
        refine lv_iload_n hx hb dX5_lowHour_71 rfl (lv_at hl 2 rfl) ?_
        exact nw_iret (rm := ({ frames := 2, cells := 0, slots := 0, locals := 43 } : Room)) X hP hD hS (⟨e2.trans (by rw [show k = 4 by omega]), rfl⟩) dX5_lowHour_72
      · skip
        have b10_1 : ¬ ((4) < (k + 1)) := fun h => b10_1 ((nI_ltI (a := 4) (b := k + 1) (by omega) (by omega)).mpr h)
        have b10_1n : (k + 1) ≤ (4) := by omega
        refine lv_aload_n hx hb dX5_lowHour_13 rfl (lv_at hl 3 rfl) ?_
        refine va_get (D := G.1) (ci := 4) (v := .ref (a 3)) (C := RX5) (T := TX5) (N := 7) hx hb hts in_X5_lowHour_X5 hown hK.1 hP 0 rfl rfl 2 (by decide) (hts (.fieldLink RX5 20 "NightWater$Zones" "ins" "[[I") (List.mem_of_getElem? (i := 1) rfl)) (fun _ h9 => h9) rfl dX5_lowHour_14 ?_
        refine lv_iload_n hx hb dX5_lowHour_17 rfl (lv_at hl 4 rfl) ?_
        refine nw_aald X hP 3 rfl (z) rfl (by omega) (by decide) dX5_lowHour_18 ?_
        show W _ _ _ _ _ _ _ _ _ _ _ _ _ _ _ (F0 vm _ ls (.ref (a (5 + z)) :: _))
        refine lv_iload hx hb dX5_lowHour_19 (lv_at hl 0 rfl) ?_
        refine nw_rald (X0 := _) (r := fun i => a (5 + i)) (N := 16) (n := 24) (M := M) X hP (z) (by omega) (k + 1) rfl (by omega) (by decide) dX5_lowHour_21 ?_
        refine lv_iconst (v := (-1)) hx hb dX5_lowHour_22 (by decide) ?_
        refine lv_icmp_eq (tgt := 65) hx hb dX5_lowHour_23 (by decide) (fun b23_2 => ?_) (fun b23_2 => ?_)
        · skip
          have b23_2 : (M (z) (k + 1)) = (-1 : Int32) := b23_2
          refine lv_iinc (v := (nI (k + 1 + 1))) (lv' := [(4, .int (nI (k + 1 + 1))), (3, .int (x3)), (2, .int (x2)), (0, .ref (a 0)), (1, .int (nI (z)))]) hx hb dX5_lowHour_65 hl (k := 0) rfl (by exact nI_add (k + 1) 1) (by decide) rfl (fun ls hl => ?_)
          refine lv_goto (tgt := 7) hx hb dX5_lowHour_68 (by decide) ?_
          exact ih7 (k + 1) ((x2)) ((x3)) _ _ _ (by omega) (by omega) (by rw [lowF_s, ← e2, ← e3]; simp only [nwIf_T, nwIf_F, or_true, true_or, or_false, false_or, and_true, true_and, and_false, false_and, not_true_eq_false, not_false_eq_true, Nat.add_sub_cancel, b10_1n, b10_1, eq_true b23_2]; try exact e2) (by rw [lowF_s, ← e2, ← e3]; simp only [nwIf_T, nwIf_F, or_true, true_or, or_false, false_or, and_true, true_and, and_false, false_and, not_true_eq_false, not_false_eq_true, Nat.add_sub_cancel, b10_1n, b10_1, eq_true b23_2]; try exact e3) (lv_sub hl [0, 1, 2, 3, 4] rfl) hP hD hS
        · skip
          have b23_2 : ¬ ((M (z) (k + 1)) = (-1 : Int32)) := b23_2
          refine lv_aload_n hx hb dX5_lowHour_26 rfl (lv_at hl 3 rfl) ?_
          refine va_get (D := G.1) (ci := 4) (v := .ref (a 4)) (C := RX5) (T := TX5) (N := 7) hx hb hts in_X5_lowHour_X5 hown hK.1 hP 0 rfl rfl 3 (by decide) (hts (.fieldLink RX5 23 "NightWater$Zones" "outs" "[[I") (List.mem_of_getElem? (i := 2) rfl)) (fun _ h9 => h9) rfl dX5_lowHour_27 ?_
          refine lv_iload_n hx hb dX5_lowHour_30 rfl (lv_at hl 4 rfl) ?_
          refine nw_aald X hP 4 rfl (z) rfl (by omega) (by decide) dX5_lowHour_31 ?_
          show W _ _ _ _ _ _ _ _ _ _ _ _ _ _ _ (F0 vm _ ls (.ref (a (5 + (8 + z))) :: _))
          refine lv_iload hx hb dX5_lowHour_32 (lv_at hl 0 rfl) ?_
          refine nw_rald (X0 := _) (r := fun i => a (5 + i)) (N := 16) (n := 24) (M := M) X hP (8 + z) (by omega) (k + 1) rfl (by omega) (by decide) dX5_lowHour_34 ?_
          refine lv_iconst (v := (-1)) hx hb dX5_lowHour_35 (by decide) ?_
          refine lv_icmp_eq (tgt := 65) hx hb dX5_lowHour_36 (by decide) (fun b36_3 => ?_) (fun b36_3 => ?_)
          · skip
            have b36_3 : (M (8 + z) (k + 1)) = (-1 : Int32) := b36_3
            refine lv_iinc (v := (nI (k + 1 + 1))) (lv' := [(4, .int (nI (k + 1 + 1))), (3, .int (x3)), (2, .int (x2)), (0, .ref (a 0)), (1, .int (nI (z)))]) hx hb dX5_lowHour_65 hl (k := 0) rfl (by exact nI_add (k + 1) 1) (by decide) rfl (fun ls hl => ?_)
            refine lv_goto (tgt := 7) hx hb dX5_lowHour_68 (by decide) ?_
            exact ih7 (k + 1) ((x2)) ((x3)) _ _ _ (by omega) (by omega) (by rw [lowF_s, ← e2, ← e3]; simp only [nwIf_T, nwIf_F, or_true, true_or, or_false, false_or, and_true, true_and, and_false, false_and, not_true_eq_false, not_false_eq_true, Nat.add_sub_cancel, b10_1n, b10_1, b23_2, eq_true b36_3]; try exact e2) (by rw [lowF_s, ← e2, ← e3]; simp only [nwIf_T, nwIf_F, or_true, true_or, or_false, false_or, and_true, true_and, and_false, false_and, not_true_eq_false, not_false_eq_true, Nat.add_sub_cancel, b10_1n, b10_1, b23_2, eq_true b36_3]; try exact e3) (lv_sub hl [0, 1, 2, 3, 4] rfl) hP hD hS
          · skip
            have b36_3 : ¬ ((M (8 + z) (k + 1)) = (-1 : Int32)) := b36_3
            refine lv_aload_n hx hb dX5_lowHour_39 rfl (lv_at hl 3 rfl) ?_
            refine lv_iload_n hx hb dX5_lowHour_40 rfl (lv_at hl 4 rfl) ?_
            refine lv_iload hx hb dX5_lowHour_41 (lv_at hl 0 rfl) ?_
            refine nw_st (st' := [.int (nI (k + 1)), .int (nI (z)), .ref (a 0)]) (by rfl) ?_
            refine nw_Vi (As := [.int (nI (z)), .int (nI (k + 1))]) (rest := []) (q0 := 0) X (c_X5_greatestNet lc G (a) (n) (cu) (bg) (M) (er) (us) (z) (k + 1) (by first | assumption | omega) (by first | assumption | omega)) (cwV 2 hts gX5_lowHour_X5_greatestNet rfl rfl rfl (by decide +kernel) ⟨Nat.le_of_ble_eq_true rfl, Nat.le_of_ble_eq_true rfl⟩) rfl (show vwCl[4]? = some (RX5, TX5, 7) from rfl) (nwSp.all ((wZ G (a) (n) (cu) (bg) (M) (er) (us)))) hP hD hS hA rfl hl.1 rfl (Nat.le_of_ble_eq_true rfl) dX5_lowHour_43 ⟨Nat.le_of_ble_eq_true rfl, Nat.le_of_ble_eq_true rfl⟩ (fun r w H locs hp_4 hP hD hS => ?_)
            obtain ⟨rfl, rfl⟩ := hp_4
            have hP : va_P G.1 vwCl ((wZ G (a) (n) (cu) (bg) (M) (er) (us))) H := hP
            have hD : va_D vA ((wZ G (a) (n) (cu) (bg) (M) (er) (us))) := hD
            refine lv_istore (lv' := [(5, .int (grtF (er) ((M) (z) (k + 1)) - lstF (er) ((M) (8 + (z)) (k + 1)))), (4, .int (nI (k + 1))), (3, .int (x3)), (2, .int (x2)), (0, .ref (a 0)), (1, .int (nI (z)))]) hx hb dX5_lowHour_46 hl (by decide) rfl (fun ls hl => ?_)
            refine lv_iload_n hx hb dX5_lowHour_48 rfl (lv_at hl 3 rfl) ?_
            refine lv_iconst (v := (-1)) hx hb dX5_lowHour_49 (by decide) ?_
            refine lv_icmp_eq (tgt := 59) hx hb dX5_lowHour_50 (by decide) (fun b50_5 => ?_) (fun b50_5 => ?_)
            · skip
              have b50_5 : (x2) = (-1 : Int32) := b50_5
              refine lv_iload hx hb dX5_lowHour_59 (lv_at hl 1 rfl) ?_
              refine lv_istore_n (lv' := [(2, .int (nI (k + 1))), (5, .int (grtF (er) ((M) (z) (k + 1)) - lstF (er) ((M) (8 + (z)) (k + 1)))), (4, .int (nI (k + 1))), (3, .int (x3)), (0, .ref (a 0)), (1, .int (nI (z)))]) hx hb dX5_lowHour_61 rfl hl (by decide) rfl (fun ls hl => ?_)
              refine lv_iload hx hb dX5_lowHour_62 (lv_at hl 1 rfl) ?_
              refine lv_istore_n (lv' := [(3, .int (grtF (er) ((M) (z) (k + 1)) - lstF (er) ((M) (8 + (z)) (k + 1)))), (2, .int (nI (k + 1))), (5, .int (grtF (er) ((M) (z) (k + 1)) - lstF (er) ((M) (8 + (z)) (k + 1)))), (4, .int (nI (k + 1))), (0, .ref (a 0)), (1, .int (nI (z)))]) hx hb dX5_lowHour_64 rfl hl (by decide) rfl (fun ls hl => ?_)
              refine lv_iinc (v := (nI (k + 1 + 1))) (lv' := [(4, .int (nI (k + 1 + 1))), (3, .int (grtF (er) ((M) (z) (k + 1)) - lstF (er) ((M) (8 + (z)) (k + 1)))), (2, .int (nI (k + 1))), (5, .int (grtF (er) ((M) (z) (k + 1)) - lstF (er) ((M) (8 + (z)) (k + 1)))), (0, .ref (a 0)), (1, .int (nI (z)))]) hx hb dX5_lowHour_65 hl (k := 3) rfl (by exact nI_add (k + 1) 1) (by decide) rfl (fun ls hl => ?_)
              refine lv_goto (tgt := 7) hx hb dX5_lowHour_68 (by decide) ?_
              exact ih7 (k + 1) ((nI (k + 1))) ((grtF (er) ((M) (z) (k + 1)) - lstF (er) ((M) (8 + (z)) (k + 1)))) _ _ _ (by omega) (by omega) (by rw [lowF_s, ← e2, ← e3]; simp only [nwIf_T, nwIf_F, or_true, true_or, or_false, false_or, and_true, true_and, and_false, false_and, not_true_eq_false, not_false_eq_true, Nat.add_sub_cancel, b10_1n, b10_1, b23_2, b36_3, eq_true b50_5]; try exact e2) (by rw [lowF_s, ← e2, ← e3]; simp only [nwIf_T, nwIf_F, or_true, true_or, or_false, false_or, and_true, true_and, and_false, false_and, not_true_eq_false, not_false_eq_true, Nat.add_sub_cancel, b10_1n, b10_1, b23_2, b36_3, eq_true b50_5]; try exact e3) (lv_sub hl [0, 1, 2, 4, 5] rfl) hP hD hS
            · skip
              have b50_5 : ¬ ((x2) = (-1 : Int32)) := b50_5
              refine lv_iload hx hb dX5_lowHour_53 (lv_at hl 0 rfl) ?_
              refine lv_iload_n hx hb dX5_lowHour_55 rfl (lv_at hl 2 rfl) ?_
              refine lv_icmp_ge (tgt := 65) hx hb dX5_lowHour_56 (by decide) (fun b56_6 => ?_) (fun b56_6 => ?_)
              · skip
                have b56_6 : (x3) ≤ (grtF (er) ((M) (z) (k + 1)) - lstF (er) ((M) (8 + (z)) (k + 1))) := b56_6
                have b56_6n : ¬ ((grtF (er) ((M) (z) (k + 1)) - lstF (er) ((M) (8 + (z)) (k + 1))) < (x3)) := Int32.not_lt.mpr b56_6
                refine lv_iinc (v := (nI (k + 1 + 1))) (lv' := [(4, .int (nI (k + 1 + 1))), (5, .int (grtF (er) ((M) (z) (k + 1)) - lstF (er) ((M) (8 + (z)) (k + 1)))), (3, .int (x3)), (2, .int (x2)), (0, .ref (a 0)), (1, .int (nI (z)))]) hx hb dX5_lowHour_65 hl (k := 1) rfl (by exact nI_add (k + 1) 1) (by decide) rfl (fun ls hl => ?_)
                refine lv_goto (tgt := 7) hx hb dX5_lowHour_68 (by decide) ?_
                exact ih7 (k + 1) ((x2)) ((x3)) _ _ _ (by omega) (by omega) (by rw [lowF_s, ← e2, ← e3]; simp only [nwIf_T, nwIf_F, or_true, true_or, or_false, false_or, and_true, true_and, and_false, false_and, not_true_eq_false, not_false_eq_true, Nat.add_sub_cancel, b10_1n, b10_1, b23_2, b36_3, b50_5, b56_6n, b56_6]; try exact e2) (by rw [lowF_s, ← e2, ← e3]; simp only [nwIf_T, nwIf_F, or_true, true_or, or_false, false_or, and_true, true_and, and_false, false_and, not_true_eq_false, not_false_eq_true, Nat.add_sub_cancel, b10_1n, b10_1, b23_2, b36_3, b50_5, b56_6n, b56_6]; try exact e3) (lv_sub hl [0, 2, 3, 4, 5] rfl) hP hD hS
              · skip
                have b56_6 : ¬ ((x3) ≤ (grtF (er) ((M) (z) (k + 1)) - lstF (er) ((M) (8 + (z)) (k + 1)))) := b56_6
                have b56_6n : (grtF (er) ((M) (z) (k + 1)) - lstF (er) ((M) (8 + (z)) (k + 1))) < (x3) := Int32.not_le.mp b56_6
                refine lv_iload hx hb dX5_lowHour_59 (lv_at hl 1 rfl) ?_
                refine lv_istore_n (lv' := [(2, .int (nI (k + 1))), (5, .int (grtF (er) ((M) (z) (k + 1)) - lstF (er) ((M) (8 + (z)) (k + 1)))), (4, .int (nI (k + 1))), (3, .int (x3)), (0, .ref (a 0)), (1, .int (nI (z)))]) hx hb dX5_lowHour_61 rfl hl (by decide) rfl (fun ls hl => ?_)
                refine lv_iload hx hb dX5_lowHour_62 (lv_at hl 1 rfl) ?_
                refine lv_istore_n (lv' := [(3, .int (grtF (er) ((M) (z) (k + 1)) - lstF (er) ((M) (8 + (z)) (k + 1)))), (2, .int (nI (k + 1))), (5, .int (grtF (er) ((M) (z) (k + 1)) - lstF (er) ((M) (8 + (z)) (k + 1)))), (4, .int (nI (k + 1))), (0, .ref (a 0)), (1, .int (nI (z)))]) hx hb dX5_lowHour_64 rfl hl (by decide) rfl (fun ls hl => ?_)
                refine lv_iinc (v := (nI (k + 1 + 1))) (lv' := [(4, .int (nI (k + 1 + 1))), (3, .int (grtF (er) ((M) (z) (k + 1)) - lstF (er) ((M) (8 + (z)) (k + 1)))), (2, .int (nI (k + 1))), (5, .int (grtF (er) ((M) (z) (k + 1)) - lstF (er) ((M) (8 + (z)) (k + 1)))), (0, .ref (a 0)), (1, .int (nI (z)))]) hx hb dX5_lowHour_65 hl (k := 3) rfl (by exact nI_add (k + 1) 1) (by decide) rfl (fun ls hl => ?_)
                refine lv_goto (tgt := 7) hx hb dX5_lowHour_68 (by decide) ?_
                exact ih7 (k + 1) ((nI (k + 1))) ((grtF (er) ((M) (z) (k + 1)) - lstF (er) ((M) (8 + (z)) (k + 1)))) _ _ _ (by omega) (by omega) (by rw [lowF_s, ← e2, ← e3]; simp only [nwIf_T, nwIf_F, or_true, true_or, or_false, false_or, and_true, true_and, and_false, false_and, not_true_eq_false, not_false_eq_true, Nat.add_sub_cancel, b10_1n, b10_1, b23_2, b36_3, b50_5, b56_6n, b56_6]; try exact e2) (by rw [lowF_s, ← e2, ← e3]; simp only [nwIf_T, nwIf_F, or_true, true_or, or_false, false_or, and_true, true_and, and_false, false_and, not_true_eq_false, not_false_eq_true, Nat.add_sub_cancel, b10_1n, b10_1, b23_2, b36_3, b50_5, b56_6n, b56_6]; try exact e3) (lv_sub hl [0, 1, 2, 4, 5] rfl) hP hD hS
  exact K7 ((5 - (0)) + 1) (0) ((-1 : Int32)) ((0 : Int32)) _ _ _ (Nat.lt_succ_self _) (by omega) (by rfl) (by rfl) (lv_sub hl [0, 1, 2, 3, 4] rfl) hP hD hS
set_option maxHeartbeats 4000000 in
set_option maxRecDepth 100000 in
theorem c_X5_lowPart (lc : Launch) (G : nwG) (a : Nat → Nat) (n : Nat) (cu bg : Nat → Int32) (M : Nat → Nat → Int32) (er us : Int32) (zone what : Int32) (hn : n ≤ 8) : nwCi lc G yX5_lowPart wsX5_lowPart ({ frames := 3, cells := 0, slots := 0, locals := 68 } : Room) [.ref (a 0), .int (zone), .int (what)] ((wZ G (a) (n) (cu) (bg) (M) (er) (us))) (fun r w => r = lowPF n M er zone what ∧ w = wZ G a n cu bg M er us) := by
  refine nw_of (cc := cX5_lowPart) (maxL := 4) (ret := (some .int)) (by decide) rfl (Nat.le_of_ble_eq_true rfl) ?_
  intro vp ve vs vm vb vt vc vA ls X hP hD hA hS hl
  have X : nwAt vp vm vc cX5_lowPart 4 vs _ wsX5_lowPart RX5 vt (some .int) "lowPart" G := X
  have hx := X.1.1
  have hb := X.1.2.1
  have hown := X.1.2.2.2.1
  have hts := X.1.2.2.2.2
  have hK := X.2.2.2.2
  have hl : lv_has ls 4 [(0, .ref (a 0)), (1, .int (zone)), (2, .int (what))] := hl
  refine lv_aload_n hx hb dX5_lowPart_0 rfl (lv_at hl 0 rfl) ?_
  refine lv_iload_n hx hb dX5_lowPart_1 rfl (lv_at hl 1 rfl) ?_
  refine nw_Vi (As := [.int (zone)]) (rest := []) (q0 := 0) X (c_X5_isNone lc G (a) (n) (cu) (bg) (M) (er) (us) ((zone)) ) (cwV 1 hts gX5_lowPart_X5_isNone rfl rfl rfl (by decide +kernel) ⟨Nat.le_of_ble_eq_true rfl, Nat.le_of_ble_eq_true rfl⟩) rfl (show vwCl[4]? = some (RX5, TX5, 7) from rfl) (nwSp.all ((wZ G (a) (n) (cu) (bg) (M) (er) (us)))) hP hD hS hA rfl hl.1 rfl (Nat.le_of_ble_eq_true rfl) dX5_lowPart_2 ⟨Nat.le_of_ble_eq_true rfl, Nat.le_of_ble_eq_true rfl⟩ (fun r w H locs hp_1 hP hD hS => ?_)
  obtain ⟨⟨rfl, q_2⟩ | ⟨rfl, q_2⟩, rfl⟩ := hp_1
  · skip
    have hP : va_P G.1 vwCl ((wZ G (a) (n) (cu) (bg) (M) (er) (us))) H := hP
    have hD : va_D vA ((wZ G (a) (n) (cu) (bg) (M) (er) (us))) := hD
    have q_2 : out ((zone)) 0 (nI (n) - 1) := q_2
    refine lv_if_ne (tgt := 17) hx hb dX5_lowPart_5 (by decide) (fun _ => ?_) (fun c9 => absurd c9 (by decide))
    refine lv_ldc (own := RX5) (v := (-2000000000)) hx hb hown (hts (Cond.constant RX5 44 (-2000000000)) (List.mem_of_getElem? (i := 1) rfl)) dX5_lowPart_17 ?_
    exact nw_iret (rm := ({ frames := 3, cells := 0, slots := 0, locals := 68 } : Room)) X hP hD hS (by simp only [lowPF, nwIf_T, nwIf_F, or_true, true_or, or_false, false_or, and_true, true_and, and_false, false_and, not_true_eq_false, not_false_eq_true, Nat.add_sub_cancel, q_2]) dX5_lowPart_19
  · skip
    have hP : va_P G.1 vwCl ((wZ G (a) (n) (cu) (bg) (M) (er) (us))) H := hP
    have hD : va_D vA ((wZ G (a) (n) (cu) (bg) (M) (er) (us))) := hD
    have q_2 : ¬ out ((zone)) 0 (nI (n) - 1) := q_2
    obtain ⟨z_4, hz_5, he_6⟩ := nw_lt (n := n) (by omega) q_2
    have ec_7 := nw_clamp he_6 (by omega)
    refine lv_if_ne (tgt := 17) hx hb dX5_lowPart_5 (by decide) (fun c9 => absurd c9 (by decide)) (fun _ => ?_)
    refine lv_iload_n hx hb dX5_lowPart_8 rfl (lv_at hl 2 rfl) ?_
    refine lv_iconst (v := (0)) hx hb dX5_lowPart_9 (by decide) ?_
    refine lv_iconst (v := (2)) hx hb dX5_lowPart_10 (by decide) ?_
    refine nw_Ni (As := [.int (what), .int (0), .int (2)]) (rest := []) X (c_X6_outside lc G ((what)) ((0 : Int32)) ((2 : Int32)) ) (va_cnB 3 hts ggX5_lowPart_X6_outside rfl rfl rfl (hK.nest 3 rfl) (hts (.initialized RX6) (List.mem_of_getElem? (i := 9) rfl)) (by decide +kernel) ⟨Nat.le_of_ble_eq_true rfl, Nat.le_of_ble_eq_true rfl⟩) (hts (.static yX6_outside) (List.mem_of_getElem? (i := 8) rfl)) (fun _ _ h => h.2) hP hD hS hA rfl hl.1 rfl (Nat.le_of_ble_eq_true rfl) dX5_lowPart_11 ⟨Nat.le_of_ble_eq_true rfl, Nat.le_of_ble_eq_true rfl⟩ (fun r H locs hp_9 hP hD hS => ?_)
    obtain ⟨⟨rfl, q_10⟩ | ⟨rfl, q_10⟩, -⟩ := hp_9
    · skip
      have q_10 : out ((what)) ((0 : Int32)) ((2 : Int32)) := q_10
      refine lv_if_eq (tgt := 20) hx hb dX5_lowPart_14 (by decide) (fun c9 => absurd c9 (by decide)) (fun _ => ?_)
      refine lv_ldc (own := RX5) (v := (-2000000000)) hx hb hown (hts (Cond.constant RX5 44 (-2000000000)) (List.mem_of_getElem? (i := 1) rfl)) dX5_lowPart_17 ?_
      exact nw_iret (rm := ({ frames := 3, cells := 0, slots := 0, locals := 68 } : Room)) X hP hD hS (by simp only [lowPF, nwIf_T, nwIf_F, or_true, true_or, or_false, false_or, and_true, true_and, and_false, false_and, not_true_eq_false, not_false_eq_true, Nat.add_sub_cancel, q_2, ec_7, q_10]) dX5_lowPart_19
    · skip
      have q_10 : ¬ out ((what)) ((0 : Int32)) ((2 : Int32)) := q_10
      refine lv_if_eq (tgt := 20) hx hb dX5_lowPart_14 (by decide) (fun _ => ?_) (fun c9 => absurd (by decide) c9)
      refine lv_aload_n hx hb dX5_lowPart_20 rfl (lv_at hl 0 rfl) ?_
      refine lv_iload_n hx hb dX5_lowPart_21 rfl (lv_at hl 1 rfl) ?_
      refine nw_st (st' := [.int (nI (z_4)), .ref (a 0)]) (by rw [he_6]) ?_
      refine nw_Vi (As := [.int (nI (z_4))]) (rest := []) (q0 := 0) X (c_X5_lowHour lc G (a) (n) (cu) (bg) (M) (er) (us) (z_4) (by first | assumption | omega)) (cwV 1 hts gX5_lowPart_X5_lowHour rfl rfl rfl (by decide +kernel) ⟨Nat.le_of_ble_eq_true rfl, Nat.le_of_ble_eq_true rfl⟩) rfl (show vwCl[4]? = some (RX5, TX5, 7) from rfl) (nwSp.all ((wZ G (a) (n) (cu) (bg) (M) (er) (us)))) hP hD hS hA rfl hl.1 rfl (Nat.le_of_ble_eq_true rfl) dX5_lowPart_22 ⟨Nat.le_of_ble_eq_true rfl, Nat.le_of_ble_eq_true rfl⟩ (fun r w H locs hp_13 hP hD hS => ?_)
      obtain ⟨rfl, rfl⟩ := hp_13
      have hP : va_P G.1 vwCl ((wZ G (a) (n) (cu) (bg) (M) (er) (us))) H := hP
      have hD : va_D vA ((wZ G (a) (n) (cu) (bg) (M) (er) (us))) := hD
      refine lv_istore_n (lv' := [(3, .int ((lowF (er) ((M) (z_4)) ((M) (8 + (z_4))) 4).1)), (0, .ref (a 0)), (1, .int (zone)), (2, .int (what))]) hx hb dX5_lowPart_25 rfl hl (by decide) rfl (fun ls hl => ?_)
      refine lv_iload_n hx hb dX5_lowPart_26 rfl (lv_at hl 0 rfl) ?_
      refine lv_iconst (v := (-1)) hx hb dX5_lowPart_27 (by decide) ?_
      refine lv_icmp_ne (tgt := 34) hx hb dX5_lowPart_28 (by decide) (fun b28_14 => ?_) (fun b28_14 => ?_)
      · skip
        have b28_14 : ¬ (((lowF (er) ((M) (z_4)) ((M) (8 + (z_4))) 4).1) = (-1 : Int32)) := b28_14
        rcases lowF_h (er := er) (f := M z_4) (g := M (8 + z_4)) 4 with q_19 | ⟨h_15, h1_16, h2_17, h3_18⟩
        · exact absurd q_19 b28_14
        have e1_20 : (lowF er (M z_4) (M (8 + z_4)) 4).1 = nI h_15 := by rw [h3_18]
        have e2_21 : (lowF er (M z_4) (M (8 + z_4)) 4).2.1 = grtF er (M z_4 h_15) - lstF er (M (8 + z_4) h_15) := by rw [h3_18]
        have e3_22 : (lowF er (M z_4) (M (8 + z_4)) 4).2.2 = lstF er (M z_4 h_15) - grtF er (M (8 + z_4) h_15) := by rw [h3_18]
        refine lv_iload_n hx hb dX5_lowPart_34 rfl (lv_at hl 3 rfl) ?_
        refine lv_iconst (v := (2)) hx hb dX5_lowPart_35 (by decide) ?_
        refine lv_icmp_ne (tgt := 41) hx hb dX5_lowPart_36 (by decide) (fun b36_23 => ?_) (fun b36_23 => ?_)
        · skip
          have b36_23 : ¬ ((what) = (2 : Int32)) := b36_23
          refine lv_iload_n hx hb dX5_lowPart_41 rfl (lv_at hl 3 rfl) ?_
          refine lv_if_ne (tgt := 54) hx hb dX5_lowPart_42 (by decide) (fun b42_24 => ?_) (fun b42_24 => ?_)
          · skip
            have b42_24 : ¬ ((what) = (0 : Int32)) := b42_24
            refine lv_aload_n hx hb dX5_lowPart_54 rfl (lv_at hl 1 rfl) ?_
            refine lv_iload_n hx hb dX5_lowPart_55 rfl (lv_at hl 2 rfl) ?_
            refine lv_iload_n hx hb dX5_lowPart_56 rfl (lv_at hl 0 rfl) ?_
            refine nw_st (st' := [.int (nI (h_15)), .int (nI (z_4)), .ref (a 0)]) (by rw [he_6, e1_20]) ?_
            refine nw_Vi (As := [.int (nI (z_4)), .int (nI (h_15))]) (rest := []) (q0 := 0) X (c_X5_greatestNet lc G (a) (n) (cu) (bg) (M) (er) (us) (z_4) (h_15) (by first | assumption | omega) (by first | assumption | omega)) (cwV 2 hts gX5_lowPart_X5_greatestNet rfl rfl rfl (by decide +kernel) ⟨Nat.le_of_ble_eq_true rfl, Nat.le_of_ble_eq_true rfl⟩) rfl (show vwCl[4]? = some (RX5, TX5, 7) from rfl) (nwSp.all ((wZ G (a) (n) (cu) (bg) (M) (er) (us)))) hP hD hS hA rfl hl.1 rfl (Nat.le_of_ble_eq_true rfl) dX5_lowPart_57 ⟨Nat.le_of_ble_eq_true rfl, Nat.le_of_ble_eq_true rfl⟩ (fun r w H locs hp_25 hP hD hS => ?_)
            obtain ⟨rfl, rfl⟩ := hp_25
            have hP : va_P G.1 vwCl ((wZ G (a) (n) (cu) (bg) (M) (er) (us))) H := hP
            have hD : va_D vA ((wZ G (a) (n) (cu) (bg) (M) (er) (us))) := hD
            exact nw_iret (rm := ({ frames := 3, cells := 0, slots := 0, locals := 68 } : Room)) X hP hD hS (by simp only [lowPF, nwIf_T, nwIf_F, or_true, true_or, or_false, false_or, and_true, true_and, and_false, false_and, not_true_eq_false, not_false_eq_true, Nat.add_sub_cancel, q_2, ec_7, q_10, b28_14, e2_21, e3_22, b36_23, b42_24]) dX5_lowPart_60
          · skip
            have b42_24 : (what) = (0 : Int32) := b42_24
            refine lv_aload_n hx hb dX5_lowPart_45 rfl (lv_at hl 1 rfl) ?_
            refine lv_iload_n hx hb dX5_lowPart_46 rfl (lv_at hl 2 rfl) ?_
            refine lv_iload_n hx hb dX5_lowPart_47 rfl (lv_at hl 0 rfl) ?_
            refine nw_st (st' := [.int (nI (h_15)), .int (nI (z_4)), .ref (a 0)]) (by rw [he_6, e1_20]) ?_
            refine nw_Vi (As := [.int (nI (z_4)), .int (nI (h_15))]) (rest := []) (q0 := 0) X (c_X5_leastNet lc G (a) (n) (cu) (bg) (M) (er) (us) (z_4) (h_15) (by first | assumption | omega) (by first | assumption | omega)) (cwV 2 hts gX5_lowPart_X5_leastNet rfl rfl rfl (by decide +kernel) ⟨Nat.le_of_ble_eq_true rfl, Nat.le_of_ble_eq_true rfl⟩) rfl (show vwCl[4]? = some (RX5, TX5, 7) from rfl) (nwSp.all ((wZ G (a) (n) (cu) (bg) (M) (er) (us)))) hP hD hS hA rfl hl.1 rfl (Nat.le_of_ble_eq_true rfl) dX5_lowPart_48 ⟨Nat.le_of_ble_eq_true rfl, Nat.le_of_ble_eq_true rfl⟩ (fun r w H locs hp_26 hP hD hS => ?_)
            obtain ⟨rfl, rfl⟩ := hp_26
            have hP : va_P G.1 vwCl ((wZ G (a) (n) (cu) (bg) (M) (er) (us))) H := hP
            have hD : va_D vA ((wZ G (a) (n) (cu) (bg) (M) (er) (us))) := hD
            refine lv_goto (tgt := 60) hx hb dX5_lowPart_51 (by decide) ?_
            exact nw_iret (rm := ({ frames := 3, cells := 0, slots := 0, locals := 68 } : Room)) X hP hD hS (by simp only [lowPF, nwIf_T, nwIf_F, or_true, true_or, or_false, false_or, and_true, true_and, and_false, false_and, not_true_eq_false, not_false_eq_true, Nat.add_sub_cancel, q_2, ec_7, q_10, b28_14, e2_21, e3_22, b36_23, eq_true b42_24]) dX5_lowPart_60
        · skip
          have b36_23 : (what) = (2 : Int32) := b36_23
          refine lv_iload_n hx hb dX5_lowPart_39 rfl (lv_at hl 0 rfl) ?_
          exact nw_iret (rm := ({ frames := 3, cells := 0, slots := 0, locals := 68 } : Room)) X hP hD hS (by simp only [lowPF, nwIf_T, nwIf_F, or_true, true_or, or_false, false_or, and_true, true_and, and_false, false_and, not_true_eq_false, not_false_eq_true, Nat.add_sub_cancel, q_2, ec_7, q_10, b28_14, e2_21, e3_22, eq_true b36_23]) dX5_lowPart_40
      · skip
        have b28_14 : ((lowF (er) ((M) (z_4)) ((M) (8 + (z_4))) 4).1) = (-1 : Int32) := b28_14
        refine lv_ldc (own := RX5) (v := (-2000000000)) hx hb hown (hts (Cond.constant RX5 44 (-2000000000)) (List.mem_of_getElem? (i := 1) rfl)) dX5_lowPart_31 ?_
        exact nw_iret (rm := ({ frames := 3, cells := 0, slots := 0, locals := 68 } : Room)) X hP hD hS (by simp only [lowPF, nwIf_T, nwIf_F, or_true, true_or, or_false, false_or, and_true, true_and, and_false, false_and, not_true_eq_false, not_false_eq_true, Nat.add_sub_cancel, q_2, ec_7, q_10, eq_true b28_14]) dX5_lowPart_33
set_option maxHeartbeats 4000000 in
set_option maxRecDepth 100000 in
theorem c_X5_leak (lc : Launch) (G : nwG) (a : Nat → Nat) (n : Nat) (cu bg : Nat → Int32) (M : Nat → Nat → Int32) (er us : Int32) (zone what : Int32) (hn : n ≤ 8) : nwCi lc G yX5_leak wsX5_leak ({ frames := 3, cells := 0, slots := 0, locals := 68 } : Room) [.ref (a 0), .int (zone), .int (what)] ((wZ G (a) (n) (cu) (bg) (M) (er) (us))) (fun r w => r = leaksF n cu bg M er us zone what ∧ w = wZ G a n cu bg M er us) := by
  refine nw_of (cc := cX5_leak) (maxL := 4) (ret := (some .int)) (by decide) rfl (Nat.le_of_ble_eq_true rfl) ?_
  intro vp ve vs vm vb vt vc vA ls X hP hD hA hS hl
  have X : nwAt vp vm vc cX5_leak 4 vs _ wsX5_leak RX5 vt (some .int) "leak" G := X
  have hx := X.1.1
  have hb := X.1.2.1
  have hown := X.1.2.2.2.1
  have hts := X.1.2.2.2.2
  have hK := X.2.2.2.2
  have hl : lv_has ls 4 [(0, .ref (a 0)), (1, .int (zone)), (2, .int (what))] := hl
  refine lv_aload_n hx hb dX5_leak_0 rfl (lv_at hl 0 rfl) ?_
  refine lv_iload_n hx hb dX5_leak_1 rfl (lv_at hl 1 rfl) ?_
  refine nw_Vi (As := [.int (zone)]) (rest := []) (q0 := 0) X (c_X5_isNone lc G (a) (n) (cu) (bg) (M) (er) (us) ((zone)) ) (cwV 1 hts gX5_leak_X5_isNone rfl rfl rfl (by decide +kernel) ⟨Nat.le_of_ble_eq_true rfl, Nat.le_of_ble_eq_true rfl⟩) rfl (show vwCl[4]? = some (RX5, TX5, 7) from rfl) (nwSp.all ((wZ G (a) (n) (cu) (bg) (M) (er) (us)))) hP hD hS hA rfl hl.1 rfl (Nat.le_of_ble_eq_true rfl) dX5_leak_2 ⟨Nat.le_of_ble_eq_true rfl, Nat.le_of_ble_eq_true rfl⟩ (fun r w H locs hp_1 hP hD hS => ?_)
  obtain ⟨⟨rfl, q_2⟩ | ⟨rfl, q_2⟩, rfl⟩ := hp_1
  · skip
    have hP : va_P G.1 vwCl ((wZ G (a) (n) (cu) (bg) (M) (er) (us))) H := hP
    have hD : va_D vA ((wZ G (a) (n) (cu) (bg) (M) (er) (us))) := hD
    have q_2 : out ((zone)) 0 (nI (n) - 1) := q_2
    refine lv_if_ne (tgt := 17) hx hb dX5_leak_5 (by decide) (fun _ => ?_) (fun c9 => absurd c9 (by decide))
    refine lv_ldc (own := RX5) (v := (-2000000000)) hx hb hown (hts (Cond.constant RX5 44 (-2000000000)) (List.mem_of_getElem? (i := 1) rfl)) dX5_leak_17 ?_
    exact nw_iret (rm := ({ frames := 3, cells := 0, slots := 0, locals := 68 } : Room)) X hP hD hS (by simp only [leaksF, leakF, nwIf_T, nwIf_F, or_true, true_or, or_false, false_or, and_true, true_and, and_false, false_and, not_true_eq_false, not_false_eq_true, Nat.add_sub_cancel, q_2]) dX5_leak_19
  · skip
    have hP : va_P G.1 vwCl ((wZ G (a) (n) (cu) (bg) (M) (er) (us))) H := hP
    have hD : va_D vA ((wZ G (a) (n) (cu) (bg) (M) (er) (us))) := hD
    have q_2 : ¬ out ((zone)) 0 (nI (n) - 1) := q_2
    obtain ⟨z_4, hz_5, he_6⟩ := nw_lt (n := n) (by omega) q_2
    have ec_7 := nw_clamp he_6 (by omega)
    refine lv_if_ne (tgt := 17) hx hb dX5_leak_5 (by decide) (fun c9 => absurd c9 (by decide)) (fun _ => ?_)
    refine lv_iload_n hx hb dX5_leak_8 rfl (lv_at hl 2 rfl) ?_
    refine lv_iconst (v := (0)) hx hb dX5_leak_9 (by decide) ?_
    refine lv_iconst (v := (1)) hx hb dX5_leak_10 (by decide) ?_
    refine nw_Ni (As := [.int (what), .int (0), .int (1)]) (rest := []) X (c_X6_outside lc G ((what)) ((0 : Int32)) ((1 : Int32)) ) (va_cnB 3 hts ggX5_leak_X6_outside rfl rfl rfl (hK.nest 3 rfl) (hts (.initialized RX6) (List.mem_of_getElem? (i := 12) rfl)) (by decide +kernel) ⟨Nat.le_of_ble_eq_true rfl, Nat.le_of_ble_eq_true rfl⟩) (hts (.static yX6_outside) (List.mem_of_getElem? (i := 11) rfl)) (fun _ _ h => h.2) hP hD hS hA rfl hl.1 rfl (Nat.le_of_ble_eq_true rfl) dX5_leak_11 ⟨Nat.le_of_ble_eq_true rfl, Nat.le_of_ble_eq_true rfl⟩ (fun r H locs hp_9 hP hD hS => ?_)
    obtain ⟨⟨rfl, q_10⟩ | ⟨rfl, q_10⟩, -⟩ := hp_9
    · skip
      have q_10 : out ((what)) ((0 : Int32)) ((1 : Int32)) := q_10
      refine lv_if_eq (tgt := 20) hx hb dX5_leak_14 (by decide) (fun c9 => absurd c9 (by decide)) (fun _ => ?_)
      refine lv_ldc (own := RX5) (v := (-2000000000)) hx hb hown (hts (Cond.constant RX5 44 (-2000000000)) (List.mem_of_getElem? (i := 1) rfl)) dX5_leak_17 ?_
      exact nw_iret (rm := ({ frames := 3, cells := 0, slots := 0, locals := 68 } : Room)) X hP hD hS (by simp only [leaksF, leakF, nwIf_T, nwIf_F, or_true, true_or, or_false, false_or, and_true, true_and, and_false, false_and, not_true_eq_false, not_false_eq_true, Nat.add_sub_cancel, q_2, ec_7, q_10]) dX5_leak_19
    · skip
      have q_10 : ¬ out ((what)) ((0 : Int32)) ((1 : Int32)) := q_10
      refine lv_if_eq (tgt := 20) hx hb dX5_leak_14 (by decide) (fun _ => ?_) (fun c9 => absurd (by decide) c9)
      refine lv_aload_n hx hb dX5_leak_20 rfl (lv_at hl 0 rfl) ?_
      refine lv_iload_n hx hb dX5_leak_21 rfl (lv_at hl 1 rfl) ?_
      refine nw_st (st' := [.int (nI (z_4)), .ref (a 0)]) (by rw [he_6]) ?_
      refine nw_Vi (As := [.int (nI (z_4))]) (rest := []) (q0 := 0) X (c_X5_lowHour lc G (a) (n) (cu) (bg) (M) (er) (us) (z_4) (by first | assumption | omega)) (cwV 1 hts gX5_leak_X5_lowHour rfl rfl rfl (by decide +kernel) ⟨Nat.le_of_ble_eq_true rfl, Nat.le_of_ble_eq_true rfl⟩) rfl (show vwCl[4]? = some (RX5, TX5, 7) from rfl) (nwSp.all ((wZ G (a) (n) (cu) (bg) (M) (er) (us)))) hP hD hS hA rfl hl.1 rfl (Nat.le_of_ble_eq_true rfl) dX5_leak_22 ⟨Nat.le_of_ble_eq_true rfl, Nat.le_of_ble_eq_true rfl⟩ (fun r w H locs hp_13 hP hD hS => ?_)
      obtain ⟨rfl, rfl⟩ := hp_13
      have hP : va_P G.1 vwCl ((wZ G (a) (n) (cu) (bg) (M) (er) (us))) H := hP
      have hD : va_D vA ((wZ G (a) (n) (cu) (bg) (M) (er) (us))) := hD
      refine lv_istore_n (lv' := [(3, .int ((lowF (er) ((M) (z_4)) ((M) (8 + (z_4))) 4).1)), (0, .ref (a 0)), (1, .int (zone)), (2, .int (what))]) hx hb dX5_leak_25 rfl hl (by decide) rfl (fun ls hl => ?_)
      refine lv_iload_n hx hb dX5_leak_26 rfl (lv_at hl 0 rfl) ?_
      refine lv_iconst (v := (-1)) hx hb dX5_leak_27 (by decide) ?_
      refine lv_icmp_ne (tgt := 34) hx hb dX5_leak_28 (by decide) (fun b28_14 => ?_) (fun b28_14 => ?_)
      · skip
        have b28_14 : ¬ (((lowF (er) ((M) (z_4)) ((M) (8 + (z_4))) 4).1) = (-1 : Int32)) := b28_14
        rcases lowF_h (er := er) (f := M z_4) (g := M (8 + z_4)) 4 with q_19 | ⟨h_15, h1_16, h2_17, h3_18⟩
        · exact absurd q_19 b28_14
        have e1_20 : (lowF er (M z_4) (M (8 + z_4)) 4).1 = nI h_15 := by rw [h3_18]
        have e2_21 : (lowF er (M z_4) (M (8 + z_4)) 4).2.1 = grtF er (M z_4 h_15) - lstF er (M (8 + z_4) h_15) := by rw [h3_18]
        have e3_22 : (lowF er (M z_4) (M (8 + z_4)) 4).2.2 = lstF er (M z_4 h_15) - grtF er (M (8 + z_4) h_15) := by rw [h3_18]
        refine lv_iload_n hx hb dX5_leak_34 rfl (lv_at hl 3 rfl) ?_
        refine lv_if_ne (tgt := 64) hx hb dX5_leak_35 (by decide) (fun b35_23 => ?_) (fun b35_23 => ?_)
        · skip
          have b35_23 : ¬ ((what) = (0 : Int32)) := b35_23
          refine lv_aload_n hx hb dX5_leak_64 rfl (lv_at hl 1 rfl) ?_
          refine lv_iload_n hx hb dX5_leak_65 rfl (lv_at hl 2 rfl) ?_
          refine lv_iload_n hx hb dX5_leak_66 rfl (lv_at hl 0 rfl) ?_
          refine nw_st (st' := [.int (nI (h_15)), .int (nI (z_4)), .ref (a 0)]) (by rw [he_6, e1_20]) ?_
          refine nw_Vi (As := [.int (nI (z_4)), .int (nI (h_15))]) (rest := []) (q0 := 0) X (c_X5_greatestNet lc G (a) (n) (cu) (bg) (M) (er) (us) (z_4) (h_15) (by first | assumption | omega) (by first | assumption | omega)) (cwV 2 hts gX5_leak_X5_greatestNet rfl rfl rfl (by decide +kernel) ⟨Nat.le_of_ble_eq_true rfl, Nat.le_of_ble_eq_true rfl⟩) rfl (show vwCl[4]? = some (RX5, TX5, 7) from rfl) (nwSp.all ((wZ G (a) (n) (cu) (bg) (M) (er) (us)))) hP hD hS hA rfl hl.1 rfl (Nat.le_of_ble_eq_true rfl) dX5_leak_67 ⟨Nat.le_of_ble_eq_true rfl, Nat.le_of_ble_eq_true rfl⟩ (fun r w H locs hp_24 hP hD hS => ?_)
          obtain ⟨rfl, rfl⟩ := hp_24
          have hP : va_P G.1 vwCl ((wZ G (a) (n) (cu) (bg) (M) (er) (us))) H := hP
          have hD : va_D vA ((wZ G (a) (n) (cu) (bg) (M) (er) (us))) := hD
          refine lv_aload_n hx hb dX5_leak_70 rfl (lv_at hl 1 rfl) ?_
          refine va_get (D := G.1) (ci := 4) (v := .ref (a 2)) (C := RX5) (T := TX5) (N := 7) hx hb hts in_X5_leak_X5 hown hK.1 hP 0 rfl rfl 1 (by decide) (hts (Cond.fieldLink RX5 15 "NightWater$Zones" "bigs" "[I") (List.mem_of_getElem? (i := 2) rfl)) (fun _ h9 => h9) rfl dX5_leak_71 ?_
          refine lv_iload_n hx hb dX5_leak_74 rfl (lv_at hl 2 rfl) ?_
          refine nw_iald X hP 2 (n := 8) (f := (bg)) rfl (z_4) he_6 (by omega) (by decide) dX5_leak_75 ?_
          refine lv_isub hx hb dX5_leak_76 ?_
          exact nw_iret (rm := ({ frames := 3, cells := 0, slots := 0, locals := 68 } : Room)) X hP hD hS (by simp only [leaksF, leakF, nwIf_T, nwIf_F, or_true, true_or, or_false, false_or, and_true, true_and, and_false, false_and, not_true_eq_false, not_false_eq_true, Nat.add_sub_cancel, q_2, ec_7, q_10, b28_14, e2_21, e3_22, b35_23]) dX5_leak_77
        · skip
          have b35_23 : (what) = (0 : Int32) := b35_23
          refine lv_aload_n hx hb dX5_leak_38 rfl (lv_at hl 1 rfl) ?_
          refine lv_iload_n hx hb dX5_leak_39 rfl (lv_at hl 2 rfl) ?_
          refine lv_iload_n hx hb dX5_leak_40 rfl (lv_at hl 0 rfl) ?_
          refine nw_st (st' := [.int (nI (h_15)), .int (nI (z_4)), .ref (a 0)]) (by rw [he_6, e1_20]) ?_
          refine nw_Vi (As := [.int (nI (z_4)), .int (nI (h_15))]) (rest := []) (q0 := 0) X (c_X5_leastNet lc G (a) (n) (cu) (bg) (M) (er) (us) (z_4) (h_15) (by first | assumption | omega) (by first | assumption | omega)) (cwV 2 hts gX5_leak_X5_leastNet rfl rfl rfl (by decide +kernel) ⟨Nat.le_of_ble_eq_true rfl, Nat.le_of_ble_eq_true rfl⟩) rfl (show vwCl[4]? = some (RX5, TX5, 7) from rfl) (nwSp.all ((wZ G (a) (n) (cu) (bg) (M) (er) (us)))) hP hD hS hA rfl hl.1 rfl (Nat.le_of_ble_eq_true rfl) dX5_leak_41 ⟨Nat.le_of_ble_eq_true rfl, Nat.le_of_ble_eq_true rfl⟩ (fun r w H locs hp_25 hP hD hS => ?_)
          obtain ⟨rfl, rfl⟩ := hp_25
          have hP : va_P G.1 vwCl ((wZ G (a) (n) (cu) (bg) (M) (er) (us))) H := hP
          have hD : va_D vA ((wZ G (a) (n) (cu) (bg) (M) (er) (us))) := hD
          refine lv_aload_n hx hb dX5_leak_44 rfl (lv_at hl 1 rfl) ?_
          refine va_get (D := G.1) (ci := 4) (v := .ref (a 2)) (C := RX5) (T := TX5) (N := 7) hx hb hts in_X5_leak_X5 hown hK.1 hP 0 rfl rfl 1 (by decide) (hts (Cond.fieldLink RX5 15 "NightWater$Zones" "bigs" "[I") (List.mem_of_getElem? (i := 2) rfl)) (fun _ h9 => h9) rfl dX5_leak_45 ?_
          refine lv_iload_n hx hb dX5_leak_48 rfl (lv_at hl 2 rfl) ?_
          refine nw_iald X hP 2 (n := 8) (f := (bg)) rfl (z_4) he_6 (by omega) (by decide) dX5_leak_49 ?_
          refine lv_isub hx hb dX5_leak_50 ?_
          refine lv_aload_n hx hb dX5_leak_51 rfl (lv_at hl 1 rfl) ?_
          refine va_get (D := G.1) (ci := 4) (v := .ref (a 1)) (C := RX5) (T := TX5) (N := 7) hx hb hts in_X5_leak_X5 hown hK.1 hP 0 rfl rfl 0 (by decide) (hts (Cond.fieldLink RX5 11 "NightWater$Zones" "customers" "[I") (List.mem_of_getElem? (i := 3) rfl)) (fun _ h9 => h9) rfl dX5_leak_52 ?_
          refine lv_iload_n hx hb dX5_leak_55 rfl (lv_at hl 2 rfl) ?_
          refine nw_iald X hP 1 (n := 8) (f := (cu)) rfl (z_4) he_6 (by omega) (by decide) dX5_leak_56 ?_
          refine lv_aload_n hx hb dX5_leak_57 rfl (lv_at hl 1 rfl) ?_
          refine va_get (D := G.1) (ci := 4) (v := .int (us)) (C := RX5) (T := TX5) (N := 7) hx hb hts in_X5_leak_X5 hown hK.1 hP 0 rfl rfl 6 (by decide) (hts (Cond.fieldLink RX5 33 "NightWater$Zones" "use" "I") (List.mem_of_getElem? (i := 4) rfl)) (fun _ h9 => h9) rfl dX5_leak_58 ?_
          refine lv_imul hx hb dX5_leak_61 ?_
          refine lv_isub hx hb dX5_leak_62 ?_
          exact nw_iret (rm := ({ frames := 3, cells := 0, slots := 0, locals := 68 } : Room)) X hP hD hS (by simp only [leaksF, leakF, nwIf_T, nwIf_F, or_true, true_or, or_false, false_or, and_true, true_and, and_false, false_and, not_true_eq_false, not_false_eq_true, Nat.add_sub_cancel, q_2, ec_7, q_10, b28_14, e2_21, e3_22, eq_true b35_23]) dX5_leak_63
      · skip
        have b28_14 : ((lowF (er) ((M) (z_4)) ((M) (8 + (z_4))) 4).1) = (-1 : Int32) := b28_14
        refine lv_ldc (own := RX5) (v := (-2000000000)) hx hb hown (hts (Cond.constant RX5 44 (-2000000000)) (List.mem_of_getElem? (i := 1) rfl)) dX5_leak_31 ?_
        exact nw_iret (rm := ({ frames := 3, cells := 0, slots := 0, locals := 68 } : Room)) X hP hD hS (by simp only [leaksF, leakF, nwIf_T, nwIf_F, or_true, true_or, or_false, false_or, and_true, true_and, and_false, false_and, not_true_eq_false, not_false_eq_true, Nat.add_sub_cancel, q_2, ec_7, q_10, eq_true b28_14]) dX5_leak_33
