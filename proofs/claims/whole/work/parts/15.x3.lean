/-! printed by wip/gen/x3.py: contracts, walked row by row -/
theorem in_X3_closingsFor_X3 : ∀ w ∈ wsX30, w ∈ wsX3_closingsFor := by decide +kernel
theorem in_X3_costOfParts_X3 : ∀ w ∈ wsX30, w ∈ wsX3_costOfParts := by decide +kernel
theorem in_X3_isNoStretch_X3 : ∀ w ∈ wsX30, w ∈ wsX3_isNoStretch := by decide +kernel
theorem in_X3_mixInto_X3 : ∀ w ∈ wsX30, w ∈ wsX3_mixInto := by decide +kernel
theorem in_X3_number_X3 : ∀ w ∈ wsX30, w ∈ wsX3_number := by decide +kernel
theorem in_X3_planAll_X3 : ∀ w ∈ wsX30, w ∈ wsX3_planAll := by decide +kernel
theorem in_X3_planCost_X3 : ∀ w ∈ wsX30, w ∈ wsX3_planCost := by decide +kernel
theorem in_X3_planStart_X3 : ∀ w ∈ wsX30, w ∈ wsX3_planStart := by decide +kernel
theorem in_X3_planStretch_X3 : ∀ w ∈ wsX30, w ∈ wsX3_planStretch := by decide +kernel
theorem in_X3_setWeight_X3 : ∀ w ∈ wsX30, w ∈ wsX3_setWeight := by decide +kernel
set_option maxHeartbeats 4000000 in
set_option maxRecDepth 100000 in
theorem c_X3_number (lc : Launch) (G : nwG) (a : Nat → Nat) (ns : Nat) (w : Nat → Nat) (M : Nat → Nat → Int32)   : nwCi lc G yX3_number wsX3_number ({ frames := 0, cells := 0, slots := 0, locals := 0 } : Room) [.ref (a 0)] ((wS G (a) (ns) (w) (M))) (fun r ww => r = nI ns ∧ ww = wS G a ns w M) := by
  refine nw_of (cc := cX3_number) (maxL := 1) (ret := (some .int)) (by decide) rfl (Nat.le_of_ble_eq_true rfl) ?_
  intro vp ve vs vm vb vt vc vA ls X hP hD hA hS hl
  have X : nwAt vp vm vc cX3_number 1 vs _ wsX3_number RX3 vt (some .int) "number" G := X
  have hx := X.1.1
  have hb := X.1.2.1
  have hown := X.1.2.2.2.1
  have hts := X.1.2.2.2.2
  have hK := X.2.2.2.2
  have hl : lv_has ls 1 [(0, .ref (a 0))] := hl
  refine lv_aload_n hx hb dX3_number_0 rfl (lv_at hl 0 rfl) ?_
  refine va_get (D := G.1) (ci := 2) (v := .int (nI (ns))) (C := RX3) (T := TX3) (N := 4) hx hb hts in_X3_number_X3 hown hK.1 hP 0 rfl rfl 1 (by decide) (hts (.fieldLink RX3 15 "NightWater$Steps" "size" "I") (List.mem_of_getElem? (i := 1) rfl)) (fun _ h9 => h9) rfl dX3_number_1 ?_
  exact nw_iret (rm := ({ frames := 0, cells := 0, slots := 0, locals := 0 } : Room)) X hP hD hS (⟨rfl, rfl⟩) dX3_number_4
set_option maxHeartbeats 4000000 in
set_option maxRecDepth 100000 in
theorem c_X3_isNoStretch (lc : Launch) (G : nwG) (a : Nat → Nat) (ns : Nat) (w : Nat → Nat) (M : Nat → Nat → Int32) (x y : Int32)  : nwCi lc G yX3_isNoStretch wsX3_isNoStretch ({ frames := 1, cells := 0, slots := 0, locals := 22 } : Room) [.ref (a 0), .int (x), .int (y)] ((wS G (a) (ns) (w) (M))) (fun r ww => ((r = 1 ∧ spanBad ns x y) ∨ (r = 0 ∧ ¬ spanBad ns x y)) ∧ ww = wS G a ns w M) := by
  refine nw_of (cc := cX3_isNoStretch) (maxL := 3) (ret := (some .boolean)) (by decide) rfl (Nat.le_of_ble_eq_true rfl) ?_
  intro vp ve vs vm vb vt vc vA ls X hP hD hA hS hl
  have X : nwAt vp vm vc cX3_isNoStretch 3 vs _ wsX3_isNoStretch RX3 vt (some .boolean) "isNoStretch" G := X
  have hx := X.1.1
  have hb := X.1.2.1
  have hown := X.1.2.2.2.1
  have hts := X.1.2.2.2.2
  have hK := X.2.2.2.2
  have hl : lv_has ls 3 [(0, .ref (a 0)), (1, .int (x)), (2, .int (y))] := hl
  refine lv_iload_n hx hb dX3_isNoStretch_0 rfl (lv_at hl 2 rfl) ?_
  refine lv_iconst (v := (0)) hx hb dX3_isNoStretch_1 (by decide) ?_
  refine lv_aload_n hx hb dX3_isNoStretch_2 rfl (lv_at hl 0 rfl) ?_
  refine va_get (D := G.1) (ci := 2) (v := .int (nI (ns))) (C := RX3) (T := TX3) (N := 4) hx hb hts in_X3_isNoStretch_X3 hown hK.1 hP 0 rfl rfl 1 (by decide) (hts (.fieldLink RX3 15 "NightWater$Steps" "size" "I") (List.mem_of_getElem? (i := 1) rfl)) (fun _ h9 => h9) rfl dX3_isNoStretch_3 ?_
  refine lv_iconst (v := (1)) hx hb dX3_isNoStretch_6 (by decide) ?_
  refine lv_isub hx hb dX3_isNoStretch_7 ?_
  refine nw_Ni (As := [.int (y), .int (0), .int ((nI (ns)) - (1 : Int32))]) (rest := []) X (c_X6_outside lc G ((y)) ((0 : Int32)) (((nI (ns)) - (1 : Int32))) ) (va_cnB 3 hts ggX3_isNoStretch_X6_outside rfl rfl rfl (hK.nest 6 rfl) (hts (.initialized RX6) (List.mem_of_getElem? (i := 3) rfl)) (by decide +kernel) ⟨Nat.le_of_ble_eq_true rfl, Nat.le_of_ble_eq_true rfl⟩) (hts (.static yX6_outside) (List.mem_of_getElem? (i := 2) rfl)) (fun _ _ h => h.2) hP hD hS hA rfl hl.1 rfl (Nat.le_of_ble_eq_true rfl) dX3_isNoStretch_8 ⟨Nat.le_of_ble_eq_true rfl, Nat.le_of_ble_eq_true rfl⟩ (fun r H locs hp_1 hP hD hS => ?_)
  obtain ⟨⟨rfl, q_2⟩ | ⟨rfl, q_2⟩, -⟩ := hp_1
  · skip
    have q_2 : out ((y)) ((0 : Int32)) (((nI (ns)) - (1 : Int32))) := q_2
    refine lv_if_ne (tgt := 23) hx hb dX3_isNoStretch_11 (by decide) (fun _ => ?_) (fun c9 => absurd c9 (by decide))
    refine lv_iconst (v := (1)) hx hb dX3_isNoStretch_23 (by decide) ?_
    refine lv_goto (tgt := 28) hx hb dX3_isNoStretch_24 (by decide) ?_
    exact nw_zret (rm := ({ frames := 1, cells := 0, slots := 0, locals := 22 } : Room)) X (by decide) hP hD hS (⟨Or.inl ⟨rfl, by simp only [spanBad, nwIf_T, nwIf_F, or_true, true_or, or_false, false_or, and_true, true_and, and_false, false_and, not_true_eq_false, not_false_eq_true, Nat.add_sub_cancel, q_2]⟩, rfl⟩) dX3_isNoStretch_28
  · skip
    have q_2 : ¬ out ((y)) ((0 : Int32)) (((nI (ns)) - (1 : Int32))) := q_2
    refine lv_if_ne (tgt := 23) hx hb dX3_isNoStretch_11 (by decide) (fun c9 => absurd c9 (by decide)) (fun _ => ?_)
    refine lv_iload_n hx hb dX3_isNoStretch_14 rfl (lv_at hl 1 rfl) ?_
    refine lv_iconst (v := (0)) hx hb dX3_isNoStretch_15 (by decide) ?_
    refine lv_iload_n hx hb dX3_isNoStretch_16 rfl (lv_at hl 2 rfl) ?_
    refine nw_Ni (As := [.int (x), .int (0), .int (y)]) (rest := []) X (c_X6_outside lc G ((x)) ((0 : Int32)) ((y)) ) (va_cnB 3 hts ggX3_isNoStretch_X6_outside rfl rfl rfl (hK.nest 6 rfl) (hts (.initialized RX6) (List.mem_of_getElem? (i := 3) rfl)) (by decide +kernel) ⟨Nat.le_of_ble_eq_true rfl, Nat.le_of_ble_eq_true rfl⟩) (hts (.static yX6_outside) (List.mem_of_getElem? (i := 2) rfl)) (fun _ _ h => h.2) hP hD hS hA rfl hl.1 rfl (Nat.le_of_ble_eq_true rfl) dX3_isNoStretch_17 ⟨Nat.le_of_ble_eq_true rfl, Nat.le_of_ble_eq_true rfl⟩ (fun r H locs hp_5 hP hD hS => ?_)
    obtain ⟨⟨rfl, q_6⟩ | ⟨rfl, q_6⟩, -⟩ := hp_5
    · skip
      have q_6 : out ((x)) ((0 : Int32)) ((y)) := q_6
      refine lv_if_eq (tgt := 27) hx hb dX3_isNoStretch_20 (by decide) (fun c9 => absurd c9 (by decide)) (fun _ => ?_)
      refine lv_iconst (v := (1)) hx hb dX3_isNoStretch_23 (by decide) ?_
      refine lv_goto (tgt := 28) hx hb dX3_isNoStretch_24 (by decide) ?_
      exact nw_zret (rm := ({ frames := 1, cells := 0, slots := 0, locals := 22 } : Room)) X (by decide) hP hD hS (⟨Or.inl ⟨rfl, by simp only [spanBad, nwIf_T, nwIf_F, or_true, true_or, or_false, false_or, and_true, true_and, and_false, false_and, not_true_eq_false, not_false_eq_true, Nat.add_sub_cancel, q_2, q_6]⟩, rfl⟩) dX3_isNoStretch_28
    · skip
      have q_6 : ¬ out ((x)) ((0 : Int32)) ((y)) := q_6
      refine lv_if_eq (tgt := 27) hx hb dX3_isNoStretch_20 (by decide) (fun _ => ?_) (fun c9 => absurd (by decide) c9)
      refine lv_iconst (v := (0)) hx hb dX3_isNoStretch_27 (by decide) ?_
      exact nw_zret (rm := ({ frames := 1, cells := 0, slots := 0, locals := 22 } : Room)) X (by decide) hP hD hS (⟨Or.inr ⟨rfl, by simp only [spanBad, nwIf_T, nwIf_F, or_true, true_or, or_false, false_or, and_true, true_and, and_false, false_and, not_true_eq_false, not_false_eq_true, Nat.add_sub_cancel, q_2, q_6]⟩, rfl⟩) dX3_isNoStretch_28
set_option maxHeartbeats 4000000 in
set_option maxRecDepth 100000 in
theorem c_X3_costOfParts (lc : Launch) (G : nwG) (a : Nat → Nat) (ns : Nat) (w : Nat → Nat) (M : Nat → Nat → Int32) (x k y : Nat) (hx12 : x < 12) (hk1 : 1 ≤ k) (hk12 : k < 12) (hy12 : y < 12) : nwCi lc G yX3_costOfParts wsX3_costOfParts ({ frames := 0, cells := 0, slots := 0, locals := 0 } : Room) [.ref (a 0), .int (nI (x)), .int (nI (k)), .int (nI (y))] ((wS G (a) (ns) (w) (M))) (fun r ww => r = M x (k - 1) + M k y ∧ ww = wS G a ns w M) := by
  refine nw_of (cc := cX3_costOfParts) (maxL := 4) (ret := (some .int)) (by decide) rfl (Nat.le_of_ble_eq_true rfl) ?_
  intro vp ve vs vm vb vt vc vA ls X hP hD hA hS hl
  have X : nwAt vp vm vc cX3_costOfParts 4 vs _ wsX3_costOfParts RX3 vt (some .int) "costOfParts" G := X
  have hx := X.1.1
  have hb := X.1.2.1
  have hown := X.1.2.2.2.1
  have hts := X.1.2.2.2.2
  have hK := X.2.2.2.2
  have hl : lv_has ls 4 [(0, .ref (a 0)), (1, .int (nI (x))), (2, .int (nI (k))), (3, .int (nI (y)))] := hl
  refine lv_aload_n hx hb dX3_costOfParts_0 rfl (lv_at hl 0 rfl) ?_
  refine va_get (D := G.1) (ci := 2) (v := .ref (a 2)) (C := RX3) (T := TX3) (N := 4) hx hb hts in_X3_costOfParts_X3 hown hK.1 hP 0 rfl rfl 2 (by decide) (hts (.fieldLink RX3 21 "NightWater$Steps" "costs" "[[I") (List.mem_of_getElem? (i := 1) rfl)) (fun _ h9 => h9) rfl dX3_costOfParts_1 ?_
  refine lv_iload_n hx hb dX3_costOfParts_4 rfl (lv_at hl 1 rfl) ?_
  refine nw_aald X hP 2 rfl (x) rfl (by omega) (by decide) dX3_costOfParts_5 ?_
  show W _ _ _ _ _ _ _ _ _ _ _ _ _ _ _ (F0 vm _ ls (.ref (a (4 + x)) :: _))
  refine lv_iload_n hx hb dX3_costOfParts_6 rfl (lv_at hl 2 rfl) ?_
  refine lv_iconst (v := (1)) hx hb dX3_costOfParts_7 (by decide) ?_
  refine lv_isub hx hb dX3_costOfParts_8 ?_
  refine nw_top (y := nI (k - 1)) (pk_sub (a := k) (b := 1) (by omega)) ?_
  refine nw_rald (X0 := _) (r := fun i => a (4 + i)) (N := 24) (n := 12) (M := M) X hP (x) (by omega) (k - 1) rfl (by omega) (by decide) dX3_costOfParts_9 ?_
  refine lv_aload_n hx hb dX3_costOfParts_10 rfl (lv_at hl 0 rfl) ?_
  refine va_get (D := G.1) (ci := 2) (v := .ref (a 2)) (C := RX3) (T := TX3) (N := 4) hx hb hts in_X3_costOfParts_X3 hown hK.1 hP 0 rfl rfl 2 (by decide) (hts (.fieldLink RX3 21 "NightWater$Steps" "costs" "[[I") (List.mem_of_getElem? (i := 1) rfl)) (fun _ h9 => h9) rfl dX3_costOfParts_11 ?_
  refine lv_iload_n hx hb dX3_costOfParts_14 rfl (lv_at hl 2 rfl) ?_
  refine nw_aald X hP 2 rfl (k) rfl (by omega) (by decide) dX3_costOfParts_15 ?_
  show W _ _ _ _ _ _ _ _ _ _ _ _ _ _ _ (F0 vm _ ls (.ref (a (4 + k)) :: _))
  refine lv_iload_n hx hb dX3_costOfParts_16 rfl (lv_at hl 3 rfl) ?_
  refine nw_rald (X0 := _) (r := fun i => a (4 + i)) (N := 24) (n := 12) (M := M) X hP (k) (by omega) (y) rfl (by omega) (by decide) dX3_costOfParts_17 ?_
  refine lv_iadd hx hb dX3_costOfParts_18 ?_
  exact nw_iret (rm := ({ frames := 0, cells := 0, slots := 0, locals := 0 } : Room)) X hP hD hS (⟨rfl, rfl⟩) dX3_costOfParts_19
set_option maxHeartbeats 4000000 in
set_option maxRecDepth 100000 in
theorem c_X3_planCost (lc : Launch) (G : nwG) (a : Nat → Nat) (ns : Nat) (w : Nat → Nat) (M : Nat → Nat → Int32) (x y : Int32) (hn1 : 1 ≤ ns) (hn12 : ns ≤ 12) (hpl : plOk w ns M) : nwCi lc G yX3_planCost wsX3_planCost ({ frames := 2, cells := 0, slots := 0, locals := 44 } : Room) [.ref (a 0), .int (x), .int (y)] ((wS G (a) (ns) (w) (M))) (fun r ww => r = costF ns w x y ∧ ww = wS G a ns w M) := by
  refine nw_of (cc := cX3_planCost) (maxL := 3) (ret := (some .int)) (by decide) rfl (Nat.le_of_ble_eq_true rfl) ?_
  intro vp ve vs vm vb vt vc vA ls X hP hD hA hS hl
  have X : nwAt vp vm vc cX3_planCost 3 vs _ wsX3_planCost RX3 vt (some .int) "planCost" G := X
  have hx := X.1.1
  have hb := X.1.2.1
  have hown := X.1.2.2.2.1
  have hts := X.1.2.2.2.2
  have hK := X.2.2.2.2
  have hl : lv_has ls 3 [(0, .ref (a 0)), (1, .int (x)), (2, .int (y))] := hl
  refine lv_aload_n hx hb dX3_planCost_0 rfl (lv_at hl 0 rfl) ?_
  refine lv_iload_n hx hb dX3_planCost_1 rfl (lv_at hl 1 rfl) ?_
  refine lv_iload_n hx hb dX3_planCost_2 rfl (lv_at hl 2 rfl) ?_
  refine nw_Vi (As := [.int (x), .int (y)]) (rest := []) (q0 := 0) X (c_X3_isNoStretch lc G (a) (ns) (w) (M) ((x)) ((y)) ) (cwV 2 hts gX3_planCost_X3_isNoStretch rfl rfl rfl (by decide +kernel) ⟨Nat.le_of_ble_eq_true rfl, Nat.le_of_ble_eq_true rfl⟩) rfl (show vwCl[2]? = some (RX3, TX3, 4) from rfl) (nwSp.all ((wS G (a) (ns) (w) (M)))) hP hD hS hA rfl hl.1 rfl (Nat.le_of_ble_eq_true rfl) dX3_planCost_3 ⟨Nat.le_of_ble_eq_true rfl, Nat.le_of_ble_eq_true rfl⟩ (fun r w H locs hp_1 hP hD hS => ?_)
  obtain ⟨⟨rfl, q_2⟩ | ⟨rfl, q_2⟩, rfl⟩ := hp_1
  · skip
    have hP : va_P G.1 vwCl ((wS G (a) (ns) (w) (M))) H := hP
    have hD : va_D vA ((wS G (a) (ns) (w) (M))) := hD
    have q_2 : spanBad (ns) ((x)) ((y)) := q_2
    refine lv_if_eq (tgt := 14) hx hb dX3_planCost_6 (by decide) (fun c9 => absurd c9 (by decide)) (fun _ => ?_)
    refine lv_bipush (v := (-2)) hx hb dX3_planCost_9 (by decide) ?_
    refine lv_goto (tgt := 22) hx hb dX3_planCost_11 (by decide) ?_
    exact nw_iret (rm := ({ frames := 2, cells := 0, slots := 0, locals := 44 } : Room)) X hP hD hS (⟨by simp only [costF, nwIf_T, nwIf_F, or_true, true_or, or_false, false_or, and_true, true_and, and_false, false_and, not_true_eq_false, not_false_eq_true, Nat.add_sub_cancel, q_2], rfl⟩) dX3_planCost_22
  · skip
    have hP : va_P G.1 vwCl ((wS G (a) (ns) (w) (M))) H := hP
    have hD : va_D vA ((wS G (a) (ns) (w) (M))) := hD
    have q_2 : ¬ spanBad (ns) ((x)) ((y)) := q_2
    obtain ⟨za_4, zb_5, h1_6, h2_7, ea_8, eb_9⟩ := span_ok hn12 q_2
    have ec_10 := nw_clamp ea_8 (by omega)
    have ec_11 := nw_clamp eb_9 (by omega)
    refine lv_if_eq (tgt := 14) hx hb dX3_planCost_6 (by decide) (fun _ => ?_) (fun c9 => absurd (by decide) c9)
    refine lv_aload_n hx hb dX3_planCost_14 rfl (lv_at hl 0 rfl) ?_
    refine va_get (D := G.1) (ci := 2) (v := .ref (a 2)) (C := RX3) (T := TX3) (N := 4) hx hb hts in_X3_planCost_X3 hown hK.1 hP 0 rfl rfl 2 (by decide) (hts (.fieldLink RX3 21 "NightWater$Steps" "costs" "[[I") (List.mem_of_getElem? (i := 1) rfl)) (fun _ h9 => h9) rfl dX3_planCost_15 ?_
    refine lv_iload_n hx hb dX3_planCost_18 rfl (lv_at hl 1 rfl) ?_
    refine nw_aald X hP 2 rfl (za_4) ea_8 (by omega) (by decide) dX3_planCost_19 ?_
    show W _ _ _ _ _ _ _ _ _ _ _ _ _ _ _ (F0 vm _ ls (.ref (a (4 + za_4)) :: _))
    refine lv_iload_n hx hb dX3_planCost_20 rfl (lv_at hl 2 rfl) ?_
    refine nw_rald (X0 := _) (r := fun i => a (4 + i)) (N := 24) (n := 12) (M := M) X hP (za_4) (by omega) (zb_5) eb_9 (by omega) (by decide) dX3_planCost_21 ?_
    exact nw_iret (rm := ({ frames := 2, cells := 0, slots := 0, locals := 44 } : Room)) X hP hD hS (⟨by simp only [costF, nwIf_T, nwIf_F, or_true, true_or, or_false, false_or, and_true, true_and, and_false, false_and, not_true_eq_false, not_false_eq_true, Nat.add_sub_cancel, q_2, ec_10, ec_11]; exact (hpl za_4 zb_5 h1_6 h2_7).1, rfl⟩) dX3_planCost_22
set_option maxHeartbeats 4000000 in
set_option maxRecDepth 100000 in
theorem c_X3_planStart (lc : Launch) (G : nwG) (a : Nat → Nat) (ns : Nat) (w : Nat → Nat) (M : Nat → Nat → Int32) (x y : Int32) (hn1 : 1 ≤ ns) (hn12 : ns ≤ 12) (hpl : plOk w ns M) : nwCi lc G yX3_planStart wsX3_planStart ({ frames := 2, cells := 0, slots := 0, locals := 44 } : Room) [.ref (a 0), .int (x), .int (y)] ((wS G (a) (ns) (w) (M))) (fun r ww => r = closesF ns w x y ∧ ww = wS G a ns w M) := by
  refine nw_of (cc := cX3_planStart) (maxL := 3) (ret := (some .int)) (by decide) rfl (Nat.le_of_ble_eq_true rfl) ?_
  intro vp ve vs vm vb vt vc vA ls X hP hD hA hS hl
  have X : nwAt vp vm vc cX3_planStart 3 vs _ wsX3_planStart RX3 vt (some .int) "planStart" G := X
  have hx := X.1.1
  have hb := X.1.2.1
  have hown := X.1.2.2.2.1
  have hts := X.1.2.2.2.2
  have hK := X.2.2.2.2
  have hl : lv_has ls 3 [(0, .ref (a 0)), (1, .int (x)), (2, .int (y))] := hl
  refine lv_aload_n hx hb dX3_planStart_0 rfl (lv_at hl 0 rfl) ?_
  refine lv_iload_n hx hb dX3_planStart_1 rfl (lv_at hl 1 rfl) ?_
  refine lv_iload_n hx hb dX3_planStart_2 rfl (lv_at hl 2 rfl) ?_
  refine nw_Vi (As := [.int (x), .int (y)]) (rest := []) (q0 := 0) X (c_X3_isNoStretch lc G (a) (ns) (w) (M) ((x)) ((y)) ) (cwV 2 hts gX3_planStart_X3_isNoStretch rfl rfl rfl (by decide +kernel) ⟨Nat.le_of_ble_eq_true rfl, Nat.le_of_ble_eq_true rfl⟩) rfl (show vwCl[2]? = some (RX3, TX3, 4) from rfl) (nwSp.all ((wS G (a) (ns) (w) (M)))) hP hD hS hA rfl hl.1 rfl (Nat.le_of_ble_eq_true rfl) dX3_planStart_3 ⟨Nat.le_of_ble_eq_true rfl, Nat.le_of_ble_eq_true rfl⟩ (fun r w H locs hp_1 hP hD hS => ?_)
  obtain ⟨⟨rfl, q_2⟩ | ⟨rfl, q_2⟩, rfl⟩ := hp_1
  · skip
    have hP : va_P G.1 vwCl ((wS G (a) (ns) (w) (M))) H := hP
    have hD : va_D vA ((wS G (a) (ns) (w) (M))) := hD
    have q_2 : spanBad (ns) ((x)) ((y)) := q_2
    refine lv_if_eq (tgt := 14) hx hb dX3_planStart_6 (by decide) (fun c9 => absurd c9 (by decide)) (fun _ => ?_)
    refine lv_bipush (v := (-2)) hx hb dX3_planStart_9 (by decide) ?_
    refine lv_goto (tgt := 22) hx hb dX3_planStart_11 (by decide) ?_
    exact nw_iret (rm := ({ frames := 2, cells := 0, slots := 0, locals := 44 } : Room)) X hP hD hS (⟨by simp only [closesF, nwIf_T, nwIf_F, or_true, true_or, or_false, false_or, and_true, true_and, and_false, false_and, not_true_eq_false, not_false_eq_true, Nat.add_sub_cancel, q_2], rfl⟩) dX3_planStart_22
  · skip
    have hP : va_P G.1 vwCl ((wS G (a) (ns) (w) (M))) H := hP
    have hD : va_D vA ((wS G (a) (ns) (w) (M))) := hD
    have q_2 : ¬ spanBad (ns) ((x)) ((y)) := q_2
    obtain ⟨za_4, zb_5, h1_6, h2_7, ea_8, eb_9⟩ := span_ok hn12 q_2
    have ec_10 := nw_clamp ea_8 (by omega)
    have ec_11 := nw_clamp eb_9 (by omega)
    refine lv_if_eq (tgt := 14) hx hb dX3_planStart_6 (by decide) (fun _ => ?_) (fun c9 => absurd (by decide) c9)
    refine lv_aload_n hx hb dX3_planStart_14 rfl (lv_at hl 0 rfl) ?_
    refine va_get (D := G.1) (ci := 2) (v := .ref (a 3)) (C := RX3) (T := TX3) (N := 4) hx hb hts in_X3_planStart_X3 hown hK.1 hP 0 rfl rfl 3 (by decide) (hts (.fieldLink RX3 24 "NightWater$Steps" "starts" "[[I") (List.mem_of_getElem? (i := 1) rfl)) (fun _ h9 => h9) rfl dX3_planStart_15 ?_
    refine lv_iload_n hx hb dX3_planStart_18 rfl (lv_at hl 1 rfl) ?_
    refine nw_aald X hP 3 rfl (za_4) ea_8 (by omega) (by decide) dX3_planStart_19 ?_
    show W _ _ _ _ _ _ _ _ _ _ _ _ _ _ _ (F0 vm _ ls (.ref (a (4 + (12 + za_4))) :: _))
    refine lv_iload_n hx hb dX3_planStart_20 rfl (lv_at hl 2 rfl) ?_
    refine nw_rald (X0 := _) (r := fun i => a (4 + i)) (N := 24) (n := 12) (M := M) X hP (12 + za_4) (by omega) (zb_5) eb_9 (by omega) (by decide) dX3_planStart_21 ?_
    exact nw_iret (rm := ({ frames := 2, cells := 0, slots := 0, locals := 44 } : Room)) X hP hD hS (⟨by simp only [closesF, nwIf_T, nwIf_F, or_true, true_or, or_false, false_or, and_true, true_and, and_false, false_and, not_true_eq_false, not_false_eq_true, Nat.add_sub_cancel, q_2, ec_10, ec_11]; exact (hpl za_4 zb_5 h1_6 h2_7).2, rfl⟩) dX3_planStart_22
set_option maxHeartbeats 4000000 in
set_option maxRecDepth 100000 in
theorem c_X3_mixInto (lc : Launch) (G : nwG) (a : Nat → Nat) (ns : Nat) (w : Nat → Nat) (M : Nat → Nat → Int32) (h0 : Int64) (hn12 : ns ≤ 12) : nwCl lc G yX3_mixInto wsX3_mixInto ({ frames := 1, cells := 0, slots := 0, locals := 22 } : Room) [.ref (a 0), .long (h0)] ((wS G (a) (ns) (w) (M))) (fun r ww => r = wdF w h0 ns ∧ ww = wS G a ns w M) := by
  refine nw_of (cc := cX3_mixInto) (maxL := 6) (ret := (some .long)) (by decide) rfl (Nat.le_of_ble_eq_true rfl) ?_
  intro vp ve vs vm vb vt vc vA ls X hP hD hA hS hl
  have X : nwAt vp vm vc cX3_mixInto 6 vs _ wsX3_mixInto RX3 vt (some .long) "mixInto" G := X
  have hx := X.1.1
  have hb := X.1.2.1
  have hown := X.1.2.2.2.1
  have hts := X.1.2.2.2.2
  have hK := X.2.2.2.2
  have hl : lv_has ls 6 [(0, .ref (a 0)), (1, .long (h0))] := hl
  refine lv_lload_n hx hb dX3_mixInto_0 rfl (lv_at hl 1 rfl) ?_
  refine lv_lstore_n (lv' := [(3, .long (h0)), (0, .ref (a 0)), (1, .long (h0))]) hx hb dX3_mixInto_1 rfl hl (by decide) rfl (fun ls hl => ?_)
  refine lv_iconst (v := (0)) hx hb dX3_mixInto_2 (by decide) ?_
  refine lv_istore (lv' := [(5, .int (0)), (3, .long (h0)), (0, .ref (a 0)), (1, .long (h0))]) hx hb dX3_mixInto_3 hl (by decide) rfl (fun ls hl => ?_)
  have K5 : ∀ (fuel : Nat) (i : Nat) (x3 : Int64) (H : Heap) (locs : List Loc) (ls : Array Slot), (13 - i) < fuel → (i ≤ ns) → (x3 = wdF w h0 i) → lv_has ls 6 [(5, .int (nI (i))), (3, .long (x3)), (0, .ref (a 0)), (1, .long (h0))] → va_P G.1 vwCl ((wS G (a) (ns) (w) (M))) H → va_D vA ((wS G (a) (ns) (w) (M))) → va_S vA vs.heap H locs → W vp lc ve ({ frames := 1, cells := 0, slots := 0, locals := 22 } : Room) vs vm ([.ref (a 0), .long (h0)] : List Value).toArray vb vt vc H locs 0 0 (MQ vb (nwQl G (fun r ww => r = wdF w h0 ns ∧ ww = wS G a ns w M) vA) ([.ref (a 0), .long (h0)] : List Value).toArray vs ({ frames := 1, cells := 0, slots := 0, locals := 22 } : Room).cells ({ frames := 1, cells := 0, slots := 0, locals := 22 } : Room).slots vA) (F0 vm 5 ls []) := by
    intro fuel
    induction fuel with
    | zero => intro i x3 H locs ls hmu; exact absurd hmu (Nat.not_lt_zero _)
    | succ fuel ih5 =>
      intro i x3 H locs ls hmu hi e3 hl hP hD hS
      refine lv_iload hx hb dX3_mixInto_5 (lv_at hl 0 rfl) ?_
      refine lv_aload_n hx hb dX3_mixInto_7 rfl (lv_at hl 2 rfl) ?_
      refine va_get (D := G.1) (ci := 2) (v := .int (nI (ns))) (C := RX3) (T := TX3) (N := 4) hx hb hts in_X3_mixInto_X3 hown hK.1 hP 0 rfl rfl 1 (by decide) (hts (.fieldLink RX3 15 "NightWater$Steps" "size" "I") (List.mem_of_getElem? (i := 1) rfl)) (fun _ h9 => h9) rfl dX3_mixInto_8 ?_
      refine lv_icmp_ge (tgt := 32) hx hb dX3_mixInto_11 (by decide) (fun b11_1 => ?_) (fun b11_1 => ?_)
      · skip
        have b11_1 : (ns) ≤ (i) := (nI_leI (a := ns) (b := i) (by omega) (by omega)).mp b11_1
        have b11_1n : ¬ ((i) < (ns)) := by omega
        refine lv_lload_n hx hb dX3_mixInto_32 rfl (lv_at hl 1 rfl) ?_
        exact nw_lret (rm := ({ frames := 1, cells := 0, slots := 0, locals := 22 } : Room)) X hP hD hS (⟨e3.trans (by rw [show i = ns by omega]), rfl⟩) dX3_mixInto_33
      · skip
        have b11_1 : ¬ ((ns) ≤ (i)) := fun h => b11_1 ((nI_leI (a := ns) (b := i) (by omega) (by omega)).mpr h)
        have b11_1n : (i) < (ns) := by omega
        refine lv_lload_n hx hb dX3_mixInto_14 rfl (lv_at hl 1 rfl) ?_
        refine lv_aload_n hx hb dX3_mixInto_15 rfl (lv_at hl 2 rfl) ?_
        refine va_get (D := G.1) (ci := 2) (v := .ref (a 1)) (C := RX3) (T := TX3) (N := 4) hx hb hts in_X3_mixInto_X3 hown hK.1 hP 0 rfl rfl 0 (by decide) (hts (.fieldLink RX3 11 "NightWater$Steps" "weights" "[I") (List.mem_of_getElem? (i := 2) rfl)) (fun _ h9 => h9) rfl dX3_mixInto_16 ?_
        refine lv_iload hx hb dX3_mixInto_19 (lv_at hl 0 rfl) ?_
        refine nw_iald X hP 1 (n := 12) (f := (fun j => nI (w j))) rfl (i) rfl (by omega) (by decide) dX3_mixInto_21 ?_
        refine nw_Nl (As := [.long (x3), .int (nI (w (i)))]) (rest := []) X (c_X6_mix lc G ((x3)) ((nI (w (i)))) ) (va_cnB 2 hts ggX3_mixInto_X6_mix rfl rfl rfl (hK.nest 12 rfl) (hts (.initialized RX6) (List.mem_of_getElem? (i := 4) rfl)) (by decide +kernel) ⟨Nat.le_of_ble_eq_true rfl, Nat.le_of_ble_eq_true rfl⟩) (hts (.static yX6_mix) (List.mem_of_getElem? (i := 3) rfl)) (fun _ _ h => h.2) hP hD hS hA rfl hl.1 rfl (Nat.le_of_ble_eq_true rfl) dX3_mixInto_22 ⟨Nat.le_of_ble_eq_true rfl, Nat.le_of_ble_eq_true rfl⟩ (fun r H locs hp_2 hP hD hS => ?_)
        obtain ⟨rfl, -⟩ := hp_2
        refine lv_lstore_n (lv' := [(3, .long (31 * ((x3)) + (((nI (w (i))))).toInt64)), (5, .int (nI (i))), (0, .ref (a 0)), (1, .long (h0))]) hx hb dX3_mixInto_25 rfl hl (by decide) rfl (fun ls hl => ?_)
        refine lv_iinc (v := (nI (i + 1))) (lv' := [(5, .int (nI (i + 1))), (3, .long (31 * ((x3)) + (((nI (w (i))))).toInt64)), (0, .ref (a 0)), (1, .long (h0))]) hx hb dX3_mixInto_26 hl (k := 1) rfl (by exact nI_add (i) 1) (by decide) rfl (fun ls hl => ?_)
        refine lv_goto (tgt := 5) hx hb dX3_mixInto_29 (by decide) ?_
        exact ih5 (i + 1) ((31 * ((x3)) + (((nI (w (i))))).toInt64)) _ _ _ (by omega) (by omega) (by rw [wdF_s, e3]) (lv_sub hl [0, 1, 2, 3] rfl) hP hD hS
  exact K5 ((13 - (0)) + 1) (0) ((h0)) _ _ _ (Nat.lt_succ_self _) (by omega) (by rfl) (lv_sub hl [0, 1, 2, 3] rfl) hP hD hS
set_option maxHeartbeats 4000000 in
set_option maxRecDepth 100000 in
theorem c_X3_planStretch (lc : Launch) (G : nwG) (a : Nat → Nat) (ns : Nat) (w : Nat → Nat) (M : Nat → Nat → Int32) (x y wt : Nat) (hxy : x < y) (hy12 : y < 12) (hwt : wt = wsum w x (y - x)) (hw : ∀ k, w k ≤ 1000) (hpl : plIn w M x y) : nwCv lc G yX3_planStretch wsX3_planStretch ({ frames := 1, cells := 0, slots := 0, locals := 23 } : Room) [.ref (a 0), .int (nI (x)), .int (nI (y)), .int (nI (wt))] ((wS G (a) (ns) (w) (M))) (fun ww => ww = wS G a ns w (nwU2 (nwU2 M (12 + x) y (nI (sF w (y - x) x))) x y (nI (cF w (y - x) x)))) := by
  refine nw_of (cc := cX3_planStretch) (maxL := 6) (ret := none) (by decide) rfl (Nat.le_of_ble_eq_true rfl) ?_
  intro vp ve vs vm vb vt vc vA ls X hP hD hA hS hl
  have X : nwAt vp vm vc cX3_planStretch 6 vs _ wsX3_planStretch RX3 vt none "planStretch" G := X
  have hx := X.1.1
  have hb := X.1.2.1
  have hown := X.1.2.2.2.1
  have hts := X.1.2.2.2.2
  have hK := X.2.2.2.2
  have hl : lv_has ls 6 [(0, .ref (a 0)), (1, .int (nI (x))), (2, .int (nI (y))), (3, .int (nI (wt)))] := hl
  refine lv_iload_n hx hb dX3_planStretch_0 rfl (lv_at hl 1 rfl) ?_
  refine lv_iconst (v := (1)) hx hb dX3_planStretch_1 (by decide) ?_
  refine lv_iadd hx hb dX3_planStretch_2 ?_
  refine nw_top (y := nI (x + 1)) (nI_add (x) (1)) ?_
  refine lv_istore (lv' := [(4, .int (nI (x + 1))), (0, .ref (a 0)), (1, .int (nI (x))), (2, .int (nI (y))), (3, .int (nI (wt)))]) hx hb dX3_planStretch_3 hl (by decide) rfl (fun ls hl => ?_)
  refine lv_iload_n hx hb dX3_planStretch_5 rfl (lv_at hl 2 rfl) ?_
  refine lv_iconst (v := (2)) hx hb dX3_planStretch_6 (by decide) ?_
  refine lv_iadd hx hb dX3_planStretch_7 ?_
  refine nw_top (y := nI (x + 2)) (nI_add (x) (2)) ?_
  refine lv_istore (lv' := [(5, .int (nI (x + 2))), (4, .int (nI (x + 1))), (0, .ref (a 0)), (1, .int (nI (x))), (2, .int (nI (y))), (3, .int (nI (wt)))]) hx hb dX3_planStretch_8 hl (by decide) rfl (fun ls hl => ?_)
  have K10 : ∀ (fuel : Nat) (j : Nat) (be : Nat) (H : Heap) (locs : List Loc) (ls : Array Slot), (12 - j) < fuel → (x + 2 + j ≤ y + 1) → (be = x + argm (cF w) (y - x) x j) → lv_has ls 6 [(5, .int (nI (x + 2 + j))), (4, .int (nI (be))), (0, .ref (a 0)), (1, .int (nI (x))), (2, .int (nI (y))), (3, .int (nI (wt)))] → va_P G.1 vwCl ((wS G (a) (ns) (w) (M))) H → va_D vA ((wS G (a) (ns) (w) (M))) → va_S vA vs.heap H locs → W vp lc ve ({ frames := 1, cells := 0, slots := 0, locals := 23 } : Room) vs vm ([.ref (a 0), .int (nI (x)), .int (nI (y)), .int (nI (wt))] : List Value).toArray vb vt vc H locs 0 0 (MQ vb (nwQv G (fun ww => ww = wS G a ns w (nwU2 (nwU2 M (12 + x) y (nI (sF w (y - x) x))) x y (nI (cF w (y - x) x)))) vA) ([.ref (a 0), .int (nI (x)), .int (nI (y)), .int (nI (wt))] : List Value).toArray vs ({ frames := 1, cells := 0, slots := 0, locals := 23 } : Room).cells ({ frames := 1, cells := 0, slots := 0, locals := 23 } : Room).slots vA) (F0 vm 10 ls []) := by
    intro fuel
    induction fuel with
    | zero => intro j be H locs ls hmu; exact absurd hmu (Nat.not_lt_zero _)
    | succ fuel ih10 =>
      intro j be H locs ls hmu hj eb hl hP hD hS
      have hr := argm_rng (c := cF w) (d := y - x) (a := x) j
      have hk2 : x + 2 + j - x = j + 2 := by omega
      have hbe2 : be - x = argm (cF w) (y - x) x j := by omega
      refine lv_iload hx hb dX3_planStretch_10 (lv_at hl 0 rfl) ?_
      refine lv_iload_n hx hb dX3_planStretch_12 rfl (lv_at hl 4 rfl) ?_
      refine lv_icmp_gt (tgt := 45) hx hb dX3_planStretch_13 (by decide) (fun b13_1 => ?_) (fun b13_1 => ?_)
      · skip
        have b13_1 : (y) < (x + 2 + j) := (nI_ltI (a := y) (b := x + 2 + j) (by omega) (by omega)).mp b13_1
        have b13_1n : ¬ ((x + 2 + j) ≤ (y)) := by omega
        refine lv_aload_n hx hb dX3_planStretch_45 rfl (lv_at hl 2 rfl) ?_
        refine va_get (D := G.1) (ci := 2) (v := .ref (a 3)) (C := RX3) (T := TX3) (N := 4) hx hb hts in_X3_planStretch_X3 hown hK.1 hP 0 rfl rfl 3 (by decide) (hts (.fieldLink RX3 24 "NightWater$Steps" "starts" "[[I") (List.mem_of_getElem? (i := 1) rfl)) (fun _ h9 => h9) rfl dX3_planStretch_46 ?_
        refine lv_iload_n hx hb dX3_planStretch_49 rfl (lv_at hl 3 rfl) ?_
        refine nw_aald X hP 3 rfl (x) rfl (by omega) (by decide) dX3_planStretch_50 ?_
        show W _ _ _ _ _ _ _ _ _ _ _ _ _ _ _ (F0 vm _ ls (.ref (a (4 + (12 + x))) :: _))
        refine lv_iload_n hx hb dX3_planStretch_51 rfl (lv_at hl 4 rfl) ?_
        refine lv_iload hx hb dX3_planStretch_52 (lv_at hl 1 rfl) ?_
        refine nw_rast (X0 := _) (r := fun i => a (4 + i)) (N := 24) (n := 12) (M := M) X hP hD hS (12 + x) (by omega) (y) rfl (by omega) (by decide) dX3_planStretch_54 (fun H locs hP hD hS => ?_)
        have hP : va_P G.1 vwCl ((wS G (a) (ns) (w) (nwU2 (M) (12 + x) (y) (nI (be))))) H := hP
        have hD : va_D vA ((wS G (a) (ns) (w) (nwU2 (M) (12 + x) (y) (nI (be))))) := hD
        refine lv_aload_n hx hb dX3_planStretch_55 rfl (lv_at hl 2 rfl) ?_
        refine va_get (D := G.1) (ci := 2) (v := .ref (a 2)) (C := RX3) (T := TX3) (N := 4) hx hb hts in_X3_planStretch_X3 hown hK.1 hP 0 rfl rfl 2 (by decide) (hts (.fieldLink RX3 21 "NightWater$Steps" "costs" "[[I") (List.mem_of_getElem? (i := 2) rfl)) (fun _ h9 => h9) rfl dX3_planStretch_56 ?_
        refine lv_iload_n hx hb dX3_planStretch_59 rfl (lv_at hl 3 rfl) ?_
        refine nw_aald X hP 2 rfl (x) rfl (by omega) (by decide) dX3_planStretch_60 ?_
        show W _ _ _ _ _ _ _ _ _ _ _ _ _ _ _ (F0 vm _ ls (.ref (a (4 + x)) :: _))
        refine lv_iload_n hx hb dX3_planStretch_61 rfl (lv_at hl 4 rfl) ?_
        refine lv_iload_n hx hb dX3_planStretch_62 rfl (lv_at hl 5 rfl) ?_
        refine lv_aload_n hx hb dX3_planStretch_63 rfl (lv_at hl 2 rfl) ?_
        refine lv_iload_n hx hb dX3_planStretch_64 rfl (lv_at hl 3 rfl) ?_
        refine lv_iload hx hb dX3_planStretch_65 (lv_at hl 1 rfl) ?_
        refine lv_iload_n hx hb dX3_planStretch_67 rfl (lv_at hl 4 rfl) ?_
        refine nw_st (st' := [.int (nI (y)), .int (nI (be)), .int (nI (x)), .ref (a 0), .int (nI (wt)), .int (nI (y)), .ref (a (4 + x))]) (by rfl) ?_
        refine nw_Vi (As := [.int (nI (x)), .int (nI (be)), .int (nI (y))]) (rest := [.int (nI (wt)), .int (nI (y)), .ref (a (4 + x))]) (q0 := 0) X (c_X3_costOfParts lc G (a) (ns) (w) (nwU2 (M) (12 + x) (y) (nI (be))) (x) (be) (y) (by first | assumption | omega) (by first | assumption | omega) (by first | assumption | omega) (by first | assumption | omega)) (cwV 3 hts gX3_planStretch_X3_costOfParts rfl rfl rfl (by decide +kernel) ⟨Nat.le_of_ble_eq_true rfl, Nat.le_of_ble_eq_true rfl⟩) rfl (show vwCl[2]? = some (RX3, TX3, 4) from rfl) (nwSp.all ((wS G (a) (ns) (w) (nwU2 (M) (12 + x) (y) (nI (be)))))) hP hD hS hA rfl hl.1 rfl (Nat.le_of_ble_eq_true rfl) dX3_planStretch_68 ⟨Nat.le_of_ble_eq_true rfl, Nat.le_of_ble_eq_true rfl⟩ (fun r w H locs hp_2 hP hD hS => ?_)
        obtain ⟨rfl, rfl⟩ := hp_2
        have hP : va_P G.1 vwCl ((wS G (a) (ns) (w) (nwU2 (M) (12 + x) (y) (nI (be))))) H := hP
        have hD : va_D vA ((wS G (a) (ns) (w) (nwU2 (M) (12 + x) (y) (nI (be))))) := hD
        refine nw_top (y := nI (part (cF w) (y - x) x (be - x))) (st_part hpl (by omega) (by omega)) ?_
        refine lv_iadd hx hb dX3_planStretch_71 ?_
        refine nw_top (y := nI (wt + (part (cF w) (y - x) x (be - x)))) (nI_add (wt) (part (cF w) (y - x) x (be - x))) ?_
        refine nw_rast (X0 := _) (r := fun i => a (4 + i)) (N := 24) (n := 12) (M := nwU2 (M) (12 + x) (y) (nI (be))) X hP hD hS (x) (by omega) (y) rfl (by omega) (by decide) dX3_planStretch_72 (fun H locs hP hD hS => ?_)
        have hP : va_P G.1 vwCl ((wS G (a) (ns) (w) (nwU2 (nwU2 (M) (12 + x) (y) (nI (be))) (x) (y) (nI (wt + (part (cF w) (y - x) x (be - x))))))) H := hP
        have hD : va_D vA ((wS G (a) (ns) (w) (nwU2 (nwU2 (M) (12 + x) (y) (nI (be))) (x) (y) (nI (wt + (part (cF w) (y - x) x (be - x))))))) := hD
        exact nw_vret (rm := ({ frames := 1, cells := 0, slots := 0, locals := 23 } : Room)) X hP hD hS (by rw [st_end hxy eb (show j = y - x - 1 by omega) hwt]) dX3_planStretch_73
      · skip
        have b13_1 : ¬ ((y) < (x + 2 + j)) := fun h => b13_1 ((nI_ltI (a := y) (b := x + 2 + j) (by omega) (by omega)).mpr h)
        have b13_1n : (x + 2 + j) ≤ (y) := by omega
        refine lv_aload_n hx hb dX3_planStretch_16 rfl (lv_at hl 2 rfl) ?_
        refine lv_iload_n hx hb dX3_planStretch_17 rfl (lv_at hl 3 rfl) ?_
        refine lv_iload hx hb dX3_planStretch_18 (lv_at hl 0 rfl) ?_
        refine lv_iload_n hx hb dX3_planStretch_20 rfl (lv_at hl 4 rfl) ?_
        refine nw_st (st' := [.int (nI (y)), .int (nI (x + 2 + j)), .int (nI (x)), .ref (a 0)]) (by rfl) ?_
        refine nw_Vi (As := [.int (nI (x)), .int (nI (x + 2 + j)), .int (nI (y))]) (rest := []) (q0 := 0) X (c_X3_costOfParts lc G (a) (ns) (w) (M) (x) (x + 2 + j) (y) (by first | assumption | omega) (by first | assumption | omega) (by first | assumption | omega) (by first | assumption | omega)) (cwV 3 hts gX3_planStretch_X3_costOfParts rfl rfl rfl (by decide +kernel) ⟨Nat.le_of_ble_eq_true rfl, Nat.le_of_ble_eq_true rfl⟩) rfl (show vwCl[2]? = some (RX3, TX3, 4) from rfl) (nwSp.all ((wS G (a) (ns) (w) (M)))) hP hD hS hA rfl hl.1 rfl (Nat.le_of_ble_eq_true rfl) dX3_planStretch_21 ⟨Nat.le_of_ble_eq_true rfl, Nat.le_of_ble_eq_true rfl⟩ (fun r w H locs hp_3 hP hD hS => ?_)
        obtain ⟨rfl, rfl⟩ := hp_3
        have hP : va_P G.1 vwCl ((wS G (a) (ns) (w) (M))) H := hP
        have hD : va_D vA ((wS G (a) (ns) (w) (M))) := hD
        refine nw_top (y := nI (part (cF w) (y - x) x ((x + 2 + j) - x))) (plIn_part hpl (by omega) (by omega)) ?_
        refine lv_aload_n hx hb dX3_planStretch_24 rfl (lv_at hl 2 rfl) ?_
        refine lv_iload_n hx hb dX3_planStretch_25 rfl (lv_at hl 3 rfl) ?_
        refine lv_iload hx hb dX3_planStretch_26 (lv_at hl 1 rfl) ?_
        refine lv_iload_n hx hb dX3_planStretch_28 rfl (lv_at hl 4 rfl) ?_
        refine nw_st (st' := [.int (nI (y)), .int (nI (be)), .int (nI (x)), .ref (a 0), .int (nI (part (cF w) (y - x) x ((x + 2 + j) - x)))]) (by rfl) ?_
        refine nw_Vi (As := [.int (nI (x)), .int (nI (be)), .int (nI (y))]) (rest := [.int (nI (part (cF w) (y - x) x ((x + 2 + j) - x)))]) (q0 := 0) X (c_X3_costOfParts lc G (a) (ns) (w) (M) (x) (be) (y) (by first | assumption | omega) (by first | assumption | omega) (by first | assumption | omega) (by first | assumption | omega)) (cwV 3 hts gX3_planStretch_X3_costOfParts rfl rfl rfl (by decide +kernel) ⟨Nat.le_of_ble_eq_true rfl, Nat.le_of_ble_eq_true rfl⟩) rfl (show vwCl[2]? = some (RX3, TX3, 4) from rfl) (nwSp.all ((wS G (a) (ns) (w) (M)))) hP hD hS hA rfl hl.1 rfl (Nat.le_of_ble_eq_true rfl) dX3_planStretch_29 ⟨Nat.le_of_ble_eq_true rfl, Nat.le_of_ble_eq_true rfl⟩ (fun r w H locs hp_4 hP hD hS => ?_)
        obtain ⟨rfl, rfl⟩ := hp_4
        have hP : va_P G.1 vwCl ((wS G (a) (ns) (w) (M))) H := hP
        have hD : va_D vA ((wS G (a) (ns) (w) (M))) := hD
        refine nw_top (y := nI (part (cF w) (y - x) x (be - x))) (plIn_part hpl (by omega) (by omega)) ?_
        have hp1 := part_le (a := x) hw (k := x + 2 + j - x) (d := y - x) (by omega) (by omega) (by omega)
        have hp2 := part_le (a := x) hw (k := be - x) (d := y - x) (by omega) (by omega) (by omega)
        refine lv_icmp_ge (tgt := 39) hx hb dX3_planStretch_32 (by decide) (fun b32_5 => ?_) (fun b32_5 => ?_)
        · skip
          have b32_5 : (part (cF w) (y - x) x (be - x)) ≤ (part (cF w) (y - x) x ((x + 2 + j) - x)) := (nI_leI (a := part (cF w) (y - x) x (be - x)) (b := part (cF w) (y - x) x ((x + 2 + j) - x)) (by omega) (by omega)).mp b32_5
          have b32_5n : ¬ ((part (cF w) (y - x) x ((x + 2 + j) - x)) < (part (cF w) (y - x) x (be - x))) := by omega
          refine lv_iinc (v := (nI (x + 2 + j + 1))) (lv' := [(5, .int (nI (x + 2 + j + 1))), (4, .int (nI (be))), (0, .ref (a 0)), (1, .int (nI (x))), (2, .int (nI (y))), (3, .int (nI (wt)))]) hx hb dX3_planStretch_39 hl (k := 0) rfl (by exact nI_add (x + 2 + j) 1) (by decide) rfl (fun ls hl => ?_)
          refine lv_goto (tgt := 10) hx hb dX3_planStretch_42 (by decide) ?_
          exact ih10 (j + 1) (be) _ _ _ (by omega) (by omega) (by rw [argm_s, ← hk2, ← hbe2]; first | rw [if_pos (by omega)]; omega | rw [if_neg (by omega)]; omega) (lv_sub hl [0, 1, 2, 3, 4, 5] rfl) hP hD hS
        · skip
          have b32_5 : ¬ ((part (cF w) (y - x) x (be - x)) ≤ (part (cF w) (y - x) x ((x + 2 + j) - x))) := fun h => b32_5 ((nI_leI (a := part (cF w) (y - x) x (be - x)) (b := part (cF w) (y - x) x ((x + 2 + j) - x)) (by omega) (by omega)).mpr h)
          have b32_5n : (part (cF w) (y - x) x ((x + 2 + j) - x)) < (part (cF w) (y - x) x (be - x)) := by omega
          refine lv_iload hx hb dX3_planStretch_35 (lv_at hl 0 rfl) ?_
          refine lv_istore (lv' := [(4, .int (nI (x + 2 + j))), (5, .int (nI (x + 2 + j))), (0, .ref (a 0)), (1, .int (nI (x))), (2, .int (nI (y))), (3, .int (nI (wt)))]) hx hb dX3_planStretch_37 hl (by decide) rfl (fun ls hl => ?_)
          refine lv_iinc (v := (nI (x + 2 + j + 1))) (lv' := [(5, .int (nI (x + 2 + j + 1))), (4, .int (nI (x + 2 + j))), (0, .ref (a 0)), (1, .int (nI (x))), (2, .int (nI (y))), (3, .int (nI (wt)))]) hx hb dX3_planStretch_39 hl (k := 1) rfl (by exact nI_add (x + 2 + j) 1) (by decide) rfl (fun ls hl => ?_)
          refine lv_goto (tgt := 10) hx hb dX3_planStretch_42 (by decide) ?_
          exact ih10 (j + 1) (x + 2 + j) _ _ _ (by omega) (by omega) (by rw [argm_s, ← hk2, ← hbe2]; first | rw [if_pos (by omega)]; omega | rw [if_neg (by omega)]; omega) (lv_sub hl [0, 1, 2, 3, 4, 5] rfl) hP hD hS
  exact K10 ((12 - (0)) + 1) (0) (x + 1) _ _ _ (Nat.lt_succ_self _) (by omega) (by rfl) (lv_sub hl [0, 1, 2, 3, 4, 5] rfl) hP hD hS
set_option maxHeartbeats 4000000 in
set_option maxRecDepth 100000 in
theorem c_X3_planAll (lc : Launch) (G : nwG) (a : Nat → Nat) (ns : Nat) (w : Nat → Nat) (M : Nat → Nat → Int32)  (hn1 : 1 ≤ ns) (hn12 : ns ≤ 12) (hw : ∀ k, w k ≤ 1000) : nwCv lc G yX3_planAll wsX3_planAll ({ frames := 2, cells := 0, slots := 0, locals := 48 } : Room) [.ref (a 0)] ((wS G (a) (ns) (w) (M))) (fun ww => ∃ Mv : Nat → Nat → Int32, plOk w ns Mv ∧ ww = wS G a ns w Mv) := by
  refine nw_of (cc := cX3_planAll) (maxL := 4) (ret := none) (by decide) rfl (Nat.le_of_ble_eq_true rfl) ?_
  intro vp ve vs vm vb vt vc vA ls X hP hD hA hS hl
  have X : nwAt vp vm vc cX3_planAll 4 vs _ wsX3_planAll RX3 vt none "planAll" G := X
  have hx := X.1.1
  have hb := X.1.2.1
  have hown := X.1.2.2.2.1
  have hts := X.1.2.2.2.2
  have hK := X.2.2.2.2
  have hl : lv_has ls 4 [(0, .ref (a 0))] := hl
  refine lv_aload_n hx hb dX3_planAll_0 rfl (lv_at hl 0 rfl) ?_
  refine va_get (D := G.1) (ci := 2) (v := .int (nI (ns))) (C := RX3) (T := TX3) (N := 4) hx hb hts in_X3_planAll_X3 hown hK.1 hP 0 rfl rfl 1 (by decide) (hts (.fieldLink RX3 15 "NightWater$Steps" "size" "I") (List.mem_of_getElem? (i := 1) rfl)) (fun _ h9 => h9) rfl dX3_planAll_1 ?_
  refine lv_iconst (v := (1)) hx hb dX3_planAll_4 (by decide) ?_
  refine lv_isub hx hb dX3_planAll_5 ?_
  refine nw_top (y := nI (ns - 1)) (pk_sub (a := ns) (b := 1) (by omega)) ?_
  refine lv_istore_n (lv' := [(1, .int (nI (ns - 1))), (0, .ref (a 0))]) hx hb dX3_planAll_6 rfl hl (by decide) rfl (fun ls hl => ?_)
  have K7 : ∀ (fuel : Nat) (k : Nat) (Mv : Nat → Nat → Int32) (x1 : Int32) (H : Heap) (locs : List Loc) (ls : Array Slot), (k) < fuel → (k ≤ ns) → (x1 = nI k + (-1)) → (plTo w ns Mv k) → lv_has ls 4 [(1, .int (x1)), (0, .ref (a 0))] → va_P G.1 vwCl ((wS G (a) (ns) (w) (Mv))) H → va_D vA ((wS G (a) (ns) (w) (Mv))) → va_S vA vs.heap H locs → W vp lc ve ({ frames := 2, cells := 0, slots := 0, locals := 48 } : Room) vs vm ([.ref (a 0)] : List Value).toArray vb vt vc H locs 0 0 (MQ vb (nwQv G (fun ww => ∃ Mv : Nat → Nat → Int32, plOk w ns Mv ∧ ww = wS G a ns w Mv) vA) ([.ref (a 0)] : List Value).toArray vs ({ frames := 2, cells := 0, slots := 0, locals := 48 } : Room).cells ({ frames := 2, cells := 0, slots := 0, locals := 48 } : Room).slots vA) (F0 vm 7 ls []) := by
    intro fuel
    induction fuel with
    | zero => intro k Mv x1 H locs ls hmu; exact absurd hmu (Nat.not_lt_zero _)
    | succ fuel ih7 =>
      intro k Mv x1 H locs ls hmu hkn ex eM hl hP hD hS
      refine lv_iload_n hx hb dX3_planAll_7 rfl (lv_at hl 0 rfl) ?_
      refine lv_if_lt (tgt := 76) hx hb dX3_planAll_8 (by decide) (fun b8_1 => ?_) (fun b8_1 => ?_)
      · skip
        have b8_1 : (x1) < (0 : Int32) := b8_1
        have b8_1n : ¬ ((0 : Int32) ≤ (x1)) := Int32.not_le.mpr b8_1
        have hk0 : k = 0 := neg_k ex b8_1
        exact nw_vret (rm := ({ frames := 2, cells := 0, slots := 0, locals := 48 } : Room)) X hP hD hS (⟨_, by rw [hk0] at eM; exact plTo_0 eM, rfl⟩) dX3_planAll_76
      · skip
        have b8_1 : ¬ ((x1) < (0 : Int32)) := b8_1
        have b8_1n : (0 : Int32) ≤ (x1) := Int32.not_lt.mp b8_1
        have hk1 : 0 < k := pos_k ex b8_1
        have ek : x1 = nI (k - 1) := ex.trans (neg_1 hk1)
        rw [ek] at hl
        have hl : lv_has ls 4 [(1, .int (nI (k - 1))), (0, .ref (a 0))] := hl
        refine lv_aload_n hx hb dX3_planAll_11 rfl (lv_at hl 1 rfl) ?_
        refine va_get (D := G.1) (ci := 2) (v := .ref (a 2)) (C := RX3) (T := TX3) (N := 4) hx hb hts in_X3_planAll_X3 hown hK.1 hP 0 rfl rfl 2 (by decide) (hts (.fieldLink RX3 21 "NightWater$Steps" "costs" "[[I") (List.mem_of_getElem? (i := 2) rfl)) (fun _ h9 => h9) rfl dX3_planAll_12 ?_
        refine lv_iload_n hx hb dX3_planAll_15 rfl (lv_at hl 0 rfl) ?_
        refine nw_aald X hP 2 rfl (k - 1) rfl (by omega) (by decide) dX3_planAll_16 ?_
        show W _ _ _ _ _ _ _ _ _ _ _ _ _ _ _ (F0 vm _ ls (.ref (a (4 + ((k - 1)))) :: _))
        refine lv_iload_n hx hb dX3_planAll_17 rfl (lv_at hl 0 rfl) ?_
        refine lv_iconst (v := (0)) hx hb dX3_planAll_18 (by decide) ?_
        refine nw_rast (X0 := _) (r := fun i => a (4 + i)) (N := 24) (n := 12) (M := Mv) X hP hD hS ((k - 1)) (by omega) (k - 1) rfl (by omega) (by decide) dX3_planAll_19 (fun H locs hP hD hS => ?_)
        have hP : va_P G.1 vwCl ((wS G (a) (ns) (w) (nwU2 (Mv) ((k - 1)) (k - 1) (0 : Int32)))) H := hP
        have hD : va_D vA ((wS G (a) (ns) (w) (nwU2 (Mv) ((k - 1)) (k - 1) (0 : Int32)))) := hD
        refine lv_aload_n hx hb dX3_planAll_20 rfl (lv_at hl 1 rfl) ?_
        refine va_get (D := G.1) (ci := 2) (v := .ref (a 3)) (C := RX3) (T := TX3) (N := 4) hx hb hts in_X3_planAll_X3 hown hK.1 hP 0 rfl rfl 3 (by decide) (hts (.fieldLink RX3 24 "NightWater$Steps" "starts" "[[I") (List.mem_of_getElem? (i := 3) rfl)) (fun _ h9 => h9) rfl dX3_planAll_21 ?_
        refine lv_iload_n hx hb dX3_planAll_24 rfl (lv_at hl 0 rfl) ?_
        refine nw_aald X hP 3 rfl (k - 1) rfl (by omega) (by decide) dX3_planAll_25 ?_
        show W _ _ _ _ _ _ _ _ _ _ _ _ _ _ _ (F0 vm _ ls (.ref (a (4 + (12 + (k - 1)))) :: _))
        refine lv_iload_n hx hb dX3_planAll_26 rfl (lv_at hl 0 rfl) ?_
        refine lv_iconst (v := (-1)) hx hb dX3_planAll_27 (by decide) ?_
        refine nw_rast (X0 := _) (r := fun i => a (4 + i)) (N := 24) (n := 12) (M := nwU2 (Mv) ((k - 1)) (k - 1) (0 : Int32)) X hP hD hS (12 + (k - 1)) (by omega) (k - 1) rfl (by omega) (by decide) dX3_planAll_28 (fun H locs hP hD hS => ?_)
        have hP : va_P G.1 vwCl ((wS G (a) (ns) (w) (nwU2 (nwU2 (Mv) ((k - 1)) (k - 1) (0 : Int32)) (12 + (k - 1)) (k - 1) (-1 : Int32)))) H := hP
        have hD : va_D vA ((wS G (a) (ns) (w) (nwU2 (nwU2 (Mv) ((k - 1)) (k - 1) (0 : Int32)) (12 + (k - 1)) (k - 1) (-1 : Int32)))) := hD
        refine lv_aload_n hx hb dX3_planAll_29 rfl (lv_at hl 1 rfl) ?_
        refine va_get (D := G.1) (ci := 2) (v := .ref (a 1)) (C := RX3) (T := TX3) (N := 4) hx hb hts in_X3_planAll_X3 hown hK.1 hP 0 rfl rfl 0 (by decide) (hts (.fieldLink RX3 11 "NightWater$Steps" "weights" "[I") (List.mem_of_getElem? (i := 4) rfl)) (fun _ h9 => h9) rfl dX3_planAll_30 ?_
        refine lv_iload_n hx hb dX3_planAll_33 rfl (lv_at hl 0 rfl) ?_
        refine nw_iald X hP 1 (n := 12) (f := (fun j => nI (w j))) rfl (k - 1) rfl (by omega) (by decide) dX3_planAll_34 ?_
        refine lv_istore_n (lv' := [(2, .int (nI (w (k - 1)))), (1, .int (nI (k - 1))), (0, .ref (a 0))]) hx hb dX3_planAll_35 rfl hl (by decide) rfl (fun ls hl => ?_)
        refine lv_iload_n hx hb dX3_planAll_36 rfl (lv_at hl 1 rfl) ?_
        refine lv_iconst (v := (1)) hx hb dX3_planAll_37 (by decide) ?_
        refine lv_iadd hx hb dX3_planAll_38 ?_
        refine nw_top (y := nI (k - 1 + 1)) (nI_add (k - 1) (1)) ?_
        refine lv_istore_n (lv' := [(3, .int (nI (k - 1 + 1))), (2, .int (nI (w (k - 1)))), (1, .int (nI (k - 1))), (0, .ref (a 0))]) hx hb dX3_planAll_39 rfl hl (by decide) rfl (fun ls hl => ?_)
        have K40 : ∀ (fuel : Nat) (d : Nat) (Mw : Nat → Nat → Int32) (wt : Nat) (H : Heap) (locs : List Loc) (ls : Array Slot), (12 - d) < fuel → (k - 1 + 1 + d ≤ ns) → (wt = wsum w (k - 1) d) → (plRow w ns Mw (k - 1) (k - 1 + 1 + d)) → lv_has ls 4 [(3, .int (nI (k - 1 + 1 + d))), (2, .int (nI (wt))), (1, .int (nI (k - 1))), (0, .ref (a 0))] → va_P G.1 vwCl ((wS G (a) (ns) (w) (Mw))) H → va_D vA ((wS G (a) (ns) (w) (Mw))) → va_S vA vs.heap H locs → W vp lc ve ({ frames := 2, cells := 0, slots := 0, locals := 48 } : Room) vs vm ([.ref (a 0)] : List Value).toArray vb vt vc H locs 0 0 (MQ vb (nwQv G (fun ww => ∃ Mv : Nat → Nat → Int32, plOk w ns Mv ∧ ww = wS G a ns w Mv) vA) ([.ref (a 0)] : List Value).toArray vs ({ frames := 2, cells := 0, slots := 0, locals := 48 } : Room).cells ({ frames := 2, cells := 0, slots := 0, locals := 48 } : Room).slots vA) (F0 vm 40 ls []) := by
          intro fuel
          induction fuel with
          | zero => intro d Mw wt H locs ls hmu; exact absurd hmu (Nat.not_lt_zero _)
          | succ fuel ih40 =>
            intro d Mw wt H locs ls hmu hd ewt eW hl hP hD hS
            refine lv_iload_n hx hb dX3_planAll_40 rfl (lv_at hl 0 rfl) ?_
            refine lv_aload_n hx hb dX3_planAll_41 rfl (lv_at hl 3 rfl) ?_
            refine va_get (D := G.1) (ci := 2) (v := .int (nI (ns))) (C := RX3) (T := TX3) (N := 4) hx hb hts in_X3_planAll_X3 hown hK.1 hP 0 rfl rfl 1 (by decide) (hts (.fieldLink RX3 15 "NightWater$Steps" "size" "I") (List.mem_of_getElem? (i := 1) rfl)) (fun _ h9 => h9) rfl dX3_planAll_42 ?_
            refine lv_icmp_ge (tgt := 70) hx hb dX3_planAll_45 (by decide) (fun b45_2 => ?_) (fun b45_2 => ?_)
            · skip
              have b45_2 : (ns) ≤ (k - 1 + 1 + d) := (nI_leI (a := ns) (b := k - 1 + 1 + d) (by omega) (by omega)).mp b45_2
              have b45_2n : ¬ ((k - 1 + 1 + d) < (ns)) := by omega
              refine lv_iinc (v := ((nI (k - 1)) + (-1))) (lv' := [(1, .int ((nI (k - 1)) + (-1))), (3, .int (nI (k - 1 + 1 + d))), (2, .int (nI (wt))), (0, .ref (a 0))]) hx hb dX3_planAll_70 hl (k := 2) rfl rfl (by decide) rfl (fun ls hl => ?_)
              refine lv_goto (tgt := 7) hx hb dX3_planAll_73 (by decide) ?_
              exact ih7 (k - 1) (Mw) (((nI (k - 1)) + (-1))) _ _ _ (by omega) (by omega) (by rfl) (by exact plTo_s hk1 (show k - 1 + 1 + d = ns by omega) eW) (lv_sub hl [0, 3] rfl) hP hD hS
            · skip
              have b45_2 : ¬ ((ns) ≤ (k - 1 + 1 + d)) := fun h => b45_2 ((nI_leI (a := ns) (b := k - 1 + 1 + d) (by omega) (by omega)).mpr h)
              have b45_2n : (k - 1 + 1 + d) < (ns) := by omega
              refine lv_iload_n hx hb dX3_planAll_48 rfl (lv_at hl 1 rfl) ?_
              refine lv_aload_n hx hb dX3_planAll_49 rfl (lv_at hl 3 rfl) ?_
              refine va_get (D := G.1) (ci := 2) (v := .ref (a 1)) (C := RX3) (T := TX3) (N := 4) hx hb hts in_X3_planAll_X3 hown hK.1 hP 0 rfl rfl 0 (by decide) (hts (.fieldLink RX3 11 "NightWater$Steps" "weights" "[I") (List.mem_of_getElem? (i := 4) rfl)) (fun _ h9 => h9) rfl dX3_planAll_50 ?_
              refine lv_iload_n hx hb dX3_planAll_53 rfl (lv_at hl 0 rfl) ?_
              refine nw_iald X hP 1 (n := 12) (f := (fun j => nI (w j))) rfl (k - 1 + 1 + d) rfl (by omega) (by decide) dX3_planAll_54 ?_
              refine lv_iadd hx hb dX3_planAll_55 ?_
              refine nw_top (y := nI (wt + (w (k - 1 + 1 + d)))) (nI_add (wt) (w (k - 1 + 1 + d))) ?_
              refine lv_istore_n (lv' := [(2, .int (nI (wt + (w (k - 1 + 1 + d))))), (3, .int (nI (k - 1 + 1 + d))), (1, .int (nI (k - 1))), (0, .ref (a 0))]) hx hb dX3_planAll_56 rfl hl (by decide) rfl (fun ls hl => ?_)
              refine lv_aload_n hx hb dX3_planAll_57 rfl (lv_at hl 3 rfl) ?_
              refine lv_iload_n hx hb dX3_planAll_58 rfl (lv_at hl 2 rfl) ?_
              refine lv_iload_n hx hb dX3_planAll_59 rfl (lv_at hl 1 rfl) ?_
              refine lv_iload_n hx hb dX3_planAll_60 rfl (lv_at hl 0 rfl) ?_
              refine nw_st (st' := [.int (nI (wt + (w (k - 1 + 1 + d)))), .int (nI (k - 1 + 1 + d)), .int (nI (k - 1)), .ref (a 0)]) (by rfl) ?_
              refine nw_Vv (As := [.int (nI (k - 1)), .int (nI (k - 1 + 1 + d)), .int (nI (wt + (w (k - 1 + 1 + d))))]) (rest := []) (q0 := 0) X (c_X3_planStretch lc G (a) (ns) (w) (Mw) (k - 1) (k - 1 + 1 + d) (wt + (w (k - 1 + 1 + d))) (by omega) (by omega) (by rw [show k - 1 + 1 + d - (k - 1) = d + 1 by omega, wsum_s, ewt, show k - 1 + 1 + d = k - 1 + (d + 1) by omega]) (by exact hw) (by exact plRow_in (by omega) (by omega) eW)) (cwV 3 hts gX3_planAll_X3_planStretch rfl rfl rfl (by decide +kernel) ⟨Nat.le_of_ble_eq_true rfl, Nat.le_of_ble_eq_true rfl⟩) rfl (show vwCl[2]? = some (RX3, TX3, 4) from rfl) (nwSp.all ((wS G (a) (ns) (w) (Mw)))) hP hD hS hA rfl hl.1 rfl (Nat.le_of_ble_eq_true rfl) dX3_planAll_61 ⟨Nat.le_of_ble_eq_true rfl, Nat.le_of_ble_eq_true rfl⟩ (fun w H locs hp_3 hP hD hS => ?_)
              obtain rfl := hp_3
              have hP : va_P G.1 vwCl ((wS G (a) (ns) (w) (nwU2 (nwU2 Mw (12 + (k - 1)) (k - 1 + 1 + d) (nI (sF w ((k - 1 + 1 + d) - (k - 1)) (k - 1)))) (k - 1) (k - 1 + 1 + d) (nI (cF w ((k - 1 + 1 + d) - (k - 1)) (k - 1)))))) H := hP
              have hD : va_D vA ((wS G (a) (ns) (w) (nwU2 (nwU2 Mw (12 + (k - 1)) (k - 1 + 1 + d) (nI (sF w ((k - 1 + 1 + d) - (k - 1)) (k - 1)))) (k - 1) (k - 1 + 1 + d) (nI (cF w ((k - 1 + 1 + d) - (k - 1)) (k - 1)))))) := hD
              refine lv_iinc (v := (nI (k - 1 + 1 + d + 1))) (lv' := [(3, .int (nI (k - 1 + 1 + d + 1))), (2, .int (nI (wt + (w (k - 1 + 1 + d))))), (1, .int (nI (k - 1))), (0, .ref (a 0))]) hx hb dX3_planAll_64 hl (k := 1) rfl (by exact nI_add (k - 1 + 1 + d) 1) (by decide) rfl (fun ls hl => ?_)
              refine lv_goto (tgt := 40) hx hb dX3_planAll_67 (by decide) ?_
              exact ih40 (d + 1) (nwU2 (nwU2 Mw (12 + (k - 1)) (k - 1 + 1 + d) (nI (sF w ((k - 1 + 1 + d) - (k - 1)) (k - 1)))) (k - 1) (k - 1 + 1 + d) (nI (cF w ((k - 1 + 1 + d) - (k - 1)) (k - 1)))) (wt + (w (k - 1 + 1 + d))) _ _ _ (by omega) (by omega) (by rw [wsum_s, ewt, show k - 1 + 1 + d = k - 1 + (d + 1) by omega]) (by exact plRow_s (by omega) (by omega) eW) (lv_sub hl [0, 1, 2, 3] rfl) hP hD hS
        exact K40 ((12 - (0)) + 1) (0) (nwU2 (nwU2 (Mv) ((k - 1)) (k - 1) (0 : Int32)) (12 + (k - 1)) (k - 1) (-1 : Int32)) (w (k - 1)) _ _ _ (Nat.lt_succ_self _) (by omega) (by rfl) (by exact plRow_0 hk1 hkn hn12 eM) (lv_sub hl [0, 1, 2, 3] rfl) hP hD hS
  exact K7 (((ns)) + 1) (ns) (M) ((nI (ns - 1))) _ _ _ (Nat.lt_succ_self _) (by omega) (by exact (neg_1 hn1).symm) (by exact plTo_n) (lv_sub hl [0, 1] rfl) hP hD hS
set_option maxHeartbeats 4000000 in
set_option maxRecDepth 100000 in
theorem c_X3_setWeight (lc : Launch) (G : nwG) (a : Nat → Nat) (ns : Nat) (w : Nat → Nat) (M : Nat → Nat → Int32) (n i v : Int32) (hn1 : 1 ≤ ns) (hn12 : ns ≤ 12) (hw : ∀ k, w k ≤ 1000) (hw0 : ∀ k, ns ≤ k → w k = 0) (hpl : plOk w ns M) : nwCi lc G yX3_setWeight wsX3_setWeight ({ frames := 3, cells := 0, slots := 0, locals := 71 } : Room) [.ref (a 0), .int (n), .int (i), .int (v)] ((wS G (a) (ns) (w) (M))) (fun r ww => ∃ Mv : Nat → Nat → Int32, plOk (nwIf (secOk n i v) (va_up (cutW w n.toNatClampNeg) i.toNatClampNeg v.toNatClampNeg) w) (nwIf (secOk n i v) n.toNatClampNeg ns) Mv ∧ r = nwIf (secOk n i v) (nI (w i.toNatClampNeg)) (-2) ∧ ww = wS G a (nwIf (secOk n i v) n.toNatClampNeg ns) (nwIf (secOk n i v) (va_up (cutW w n.toNatClampNeg) i.toNatClampNeg v.toNatClampNeg) w) Mv) := by
  refine nw_of (cc := cX3_setWeight) (maxL := 5) (ret := (some .int)) (by decide) rfl (Nat.le_of_ble_eq_true rfl) ?_
  intro vp ve vs vm vb vt vc vA ls X hP hD hA hS hl
  have X : nwAt vp vm vc cX3_setWeight 5 vs _ wsX3_setWeight RX3 vt (some .int) "setWeight" G := X
  have hx := X.1.1
  have hb := X.1.2.1
  have hown := X.1.2.2.2.1
  have hts := X.1.2.2.2.2
  have hK := X.2.2.2.2
  have hl : lv_has ls 5 [(0, .ref (a 0)), (1, .int (n)), (2, .int (i)), (3, .int (v))] := hl
  refine lv_iload_n hx hb dX3_setWeight_0 rfl (lv_at hl 1 rfl) ?_
  refine lv_iconst (v := (1)) hx hb dX3_setWeight_1 (by decide) ?_
  refine lv_bipush (v := (12)) hx hb dX3_setWeight_2 (by decide) ?_
  refine nw_Ni (As := [.int (n), .int (1), .int (12)]) (rest := []) X (c_X6_outside lc G ((n)) ((1 : Int32)) ((12 : Int32)) ) (va_cnB 3 hts ggX3_setWeight_X6_outside rfl rfl rfl (hK.nest 6 rfl) (hts (.initialized RX6) (List.mem_of_getElem? (i := 4) rfl)) (by decide +kernel) ⟨Nat.le_of_ble_eq_true rfl, Nat.le_of_ble_eq_true rfl⟩) (hts (.static yX6_outside) (List.mem_of_getElem? (i := 3) rfl)) (fun _ _ h => h.2) hP hD hS hA rfl hl.1 rfl (Nat.le_of_ble_eq_true rfl) dX3_setWeight_4 ⟨Nat.le_of_ble_eq_true rfl, Nat.le_of_ble_eq_true rfl⟩ (fun r H locs hp_1 hP hD hS => ?_)
  obtain ⟨⟨rfl, q_2⟩ | ⟨rfl, q_2⟩, -⟩ := hp_1
  · skip
    have q_2 : out ((n)) ((1 : Int32)) ((12 : Int32)) := q_2
    refine lv_if_ne (tgt := 32) hx hb dX3_setWeight_7 (by decide) (fun _ => ?_) (fun c9 => absurd c9 (by decide))
    refine lv_bipush (v := (-2)) hx hb dX3_setWeight_32 (by decide) ?_
    exact nw_iret (rm := ({ frames := 3, cells := 0, slots := 0, locals := 71 } : Room)) X hP hD hS (⟨M, by simp only [secOk, nwIf_T, nwIf_F, or_true, true_or, or_false, false_or, and_true, true_and, and_false, false_and, not_true_eq_false, not_false_eq_true, Nat.add_sub_cancel, q_2]; exact hpl, by simp only [secOk, nwIf_T, nwIf_F, or_true, true_or, or_false, false_or, and_true, true_and, and_false, false_and, not_true_eq_false, not_false_eq_true, Nat.add_sub_cancel, q_2], by simp only [secOk, nwIf_T, nwIf_F, or_true, true_or, or_false, false_or, and_true, true_and, and_false, false_and, not_true_eq_false, not_false_eq_true, Nat.add_sub_cancel, q_2]⟩) dX3_setWeight_34
  · skip
    have q_2 : ¬ out ((n)) ((1 : Int32)) ((12 : Int32)) := q_2
    obtain ⟨m_4, hm_5, hm_6, he_7⟩ := nw_rng1 (n := 12) rfl (by decide) q_2
    have ec_8 := nw_clamp he_7 (by omega)
    refine lv_if_ne (tgt := 32) hx hb dX3_setWeight_7 (by decide) (fun c9 => absurd c9 (by decide)) (fun _ => ?_)
    refine lv_iload_n hx hb dX3_setWeight_10 rfl (lv_at hl 2 rfl) ?_
    refine lv_iconst (v := (0)) hx hb dX3_setWeight_11 (by decide) ?_
    refine lv_iload_n hx hb dX3_setWeight_12 rfl (lv_at hl 1 rfl) ?_
    refine lv_iconst (v := (1)) hx hb dX3_setWeight_13 (by decide) ?_
    refine lv_isub hx hb dX3_setWeight_14 ?_
    refine nw_Ni (As := [.int (i), .int (0), .int ((n) - (1 : Int32))]) (rest := []) X (c_X6_outside lc G ((i)) ((0 : Int32)) (((n) - (1 : Int32))) ) (va_cnB 3 hts ggX3_setWeight_X6_outside rfl rfl rfl (hK.nest 6 rfl) (hts (.initialized RX6) (List.mem_of_getElem? (i := 4) rfl)) (by decide +kernel) ⟨Nat.le_of_ble_eq_true rfl, Nat.le_of_ble_eq_true rfl⟩) (hts (.static yX6_outside) (List.mem_of_getElem? (i := 3) rfl)) (fun _ _ h => h.2) hP hD hS hA rfl hl.1 rfl (Nat.le_of_ble_eq_true rfl) dX3_setWeight_15 ⟨Nat.le_of_ble_eq_true rfl, Nat.le_of_ble_eq_true rfl⟩ (fun r H locs hp_10 hP hD hS => ?_)
    obtain ⟨⟨rfl, q_11⟩ | ⟨rfl, q_11⟩, -⟩ := hp_10
    · skip
      have q_11 : out ((i)) ((0 : Int32)) (((n) - (1 : Int32))) := q_11
      refine lv_if_ne (tgt := 32) hx hb dX3_setWeight_18 (by decide) (fun _ => ?_) (fun c9 => absurd c9 (by decide))
      refine lv_bipush (v := (-2)) hx hb dX3_setWeight_32 (by decide) ?_
      exact nw_iret (rm := ({ frames := 3, cells := 0, slots := 0, locals := 71 } : Room)) X hP hD hS (⟨M, by simp only [secOk, nwIf_T, nwIf_F, or_true, true_or, or_false, false_or, and_true, true_and, and_false, false_and, not_true_eq_false, not_false_eq_true, Nat.add_sub_cancel, q_2, ec_8, q_11]; exact hpl, by simp only [secOk, nwIf_T, nwIf_F, or_true, true_or, or_false, false_or, and_true, true_and, and_false, false_and, not_true_eq_false, not_false_eq_true, Nat.add_sub_cancel, q_2, ec_8, q_11], by simp only [secOk, nwIf_T, nwIf_F, or_true, true_or, or_false, false_or, and_true, true_and, and_false, false_and, not_true_eq_false, not_false_eq_true, Nat.add_sub_cancel, q_2, ec_8, q_11]⟩) dX3_setWeight_34
    · skip
      have q_11 : ¬ out ((i)) ((0 : Int32)) (((n) - (1 : Int32))) := q_11
      obtain ⟨z_13, hz_14, he_15⟩ := nw_le (n := m_4 - 1) (by rw [he_7]; exact pk_sub (by omega)) (by omega) q_11
      have ec_16 := nw_clamp he_15 (by omega)
      refine lv_if_ne (tgt := 32) hx hb dX3_setWeight_18 (by decide) (fun c9 => absurd c9 (by decide)) (fun _ => ?_)
      refine lv_iload_n hx hb dX3_setWeight_21 rfl (lv_at hl 3 rfl) ?_
      refine lv_iconst (v := (0)) hx hb dX3_setWeight_22 (by decide) ?_
      refine lv_sipush (v := (1000)) hx hb dX3_setWeight_23 (by decide) ?_
      refine nw_Ni (As := [.int (v), .int (0), .int (1000)]) (rest := []) X (c_X6_outside lc G ((v)) ((0 : Int32)) ((1000 : Int32)) ) (va_cnB 3 hts ggX3_setWeight_X6_outside rfl rfl rfl (hK.nest 6 rfl) (hts (.initialized RX6) (List.mem_of_getElem? (i := 4) rfl)) (by decide +kernel) ⟨Nat.le_of_ble_eq_true rfl, Nat.le_of_ble_eq_true rfl⟩) (hts (.static yX6_outside) (List.mem_of_getElem? (i := 3) rfl)) (fun _ _ h => h.2) hP hD hS hA rfl hl.1 rfl (Nat.le_of_ble_eq_true rfl) dX3_setWeight_26 ⟨Nat.le_of_ble_eq_true rfl, Nat.le_of_ble_eq_true rfl⟩ (fun r H locs hp_18 hP hD hS => ?_)
      obtain ⟨⟨rfl, q_19⟩ | ⟨rfl, q_19⟩, -⟩ := hp_18
      · skip
        have q_19 : out ((v)) ((0 : Int32)) ((1000 : Int32)) := q_19
        refine lv_if_eq (tgt := 35) hx hb dX3_setWeight_29 (by decide) (fun c9 => absurd c9 (by decide)) (fun _ => ?_)
        refine lv_bipush (v := (-2)) hx hb dX3_setWeight_32 (by decide) ?_
        exact nw_iret (rm := ({ frames := 3, cells := 0, slots := 0, locals := 71 } : Room)) X hP hD hS (⟨M, by simp only [secOk, nwIf_T, nwIf_F, or_true, true_or, or_false, false_or, and_true, true_and, and_false, false_and, not_true_eq_false, not_false_eq_true, Nat.add_sub_cancel, q_2, ec_8, q_11, ec_16, q_19]; exact hpl, by simp only [secOk, nwIf_T, nwIf_F, or_true, true_or, or_false, false_or, and_true, true_and, and_false, false_and, not_true_eq_false, not_false_eq_true, Nat.add_sub_cancel, q_2, ec_8, q_11, ec_16, q_19], by simp only [secOk, nwIf_T, nwIf_F, or_true, true_or, or_false, false_or, and_true, true_and, and_false, false_and, not_true_eq_false, not_false_eq_true, Nat.add_sub_cancel, q_2, ec_8, q_11, ec_16, q_19]⟩) dX3_setWeight_34
      · skip
        have q_19 : ¬ out ((v)) ((0 : Int32)) ((1000 : Int32)) := q_19
        obtain ⟨z_21, hz_22, he_23⟩ := nw_le (n := 1000) rfl (by decide) q_19
        have ec_24 := nw_clamp he_23 (by omega)
        refine lv_if_eq (tgt := 35) hx hb dX3_setWeight_29 (by decide) (fun _ => ?_) (fun c9 => absurd (by decide) c9)
        rw [he_7] at hl
        rw [he_15] at hl
        rw [he_23] at hl
        have hl : lv_has ls 5 [(0, .ref (a 0)), (1, .int (nI (m_4))), (2, .int (nI (z_13))), (3, .int (nI (z_21)))] := hl
        refine lv_iload_n hx hb dX3_setWeight_35 rfl (lv_at hl 1 rfl) ?_
        refine lv_istore (lv' := [(4, .int (nI (m_4))), (0, .ref (a 0)), (1, .int (nI (m_4))), (2, .int (nI (z_13))), (3, .int (nI (z_21)))]) hx hb dX3_setWeight_36 hl (by decide) rfl (fun ls hl => ?_)
        have K38 : ∀ (fuel : Nat) (g : Nat) (wv : Nat → Nat) (H : Heap) (locs : List Loc) (ls : Array Slot), (12 - g) < fuel → (m_4 ≤ g) → (g ≤ ns ∨ g = m_4) → (wv = zerW w m_4 g) → lv_has ls 5 [(4, .int (nI (g))), (0, .ref (a 0)), (1, .int (nI (m_4))), (2, .int (nI (z_13))), (3, .int (nI (z_21)))] → va_P G.1 vwCl ((wS G (a) (ns) (wv) (M))) H → va_D vA ((wS G (a) (ns) (wv) (M))) → va_S vA vs.heap H locs → W vp lc ve ({ frames := 3, cells := 0, slots := 0, locals := 71 } : Room) vs vm ([.ref (a 0), .int (n), .int (i), .int (v)] : List Value).toArray vb vt vc H locs 0 0 (MQ vb (nwQi G (fun r ww => ∃ Mv : Nat → Nat → Int32, plOk (nwIf (secOk n i v) (va_up (cutW w n.toNatClampNeg) i.toNatClampNeg v.toNatClampNeg) w) (nwIf (secOk n i v) n.toNatClampNeg ns) Mv ∧ r = nwIf (secOk n i v) (nI (w i.toNatClampNeg)) (-2) ∧ ww = wS G a (nwIf (secOk n i v) n.toNatClampNeg ns) (nwIf (secOk n i v) (va_up (cutW w n.toNatClampNeg) i.toNatClampNeg v.toNatClampNeg) w) Mv) vA) ([.ref (a 0), .int (n), .int (i), .int (v)] : List Value).toArray vs ({ frames := 3, cells := 0, slots := 0, locals := 71 } : Room).cells ({ frames := 3, cells := 0, slots := 0, locals := 71 } : Room).slots vA) (F0 vm 38 ls []) := by
          intro fuel
          induction fuel with
          | zero => intro g wv H locs ls hmu; exact absurd hmu (Nat.not_lt_zero _)
          | succ fuel ih38 =>
            intro g wv H locs ls hmu hg1 hg2 eg hl hP hD hS
            refine lv_iload hx hb dX3_setWeight_38 (lv_at hl 0 rfl) ?_
            refine lv_aload_n hx hb dX3_setWeight_40 rfl (lv_at hl 1 rfl) ?_
            refine va_get (D := G.1) (ci := 2) (v := .int (nI (ns))) (C := RX3) (T := TX3) (N := 4) hx hb hts in_X3_setWeight_X3 hown hK.1 hP 0 rfl rfl 1 (by decide) (hts (.fieldLink RX3 15 "NightWater$Steps" "size" "I") (List.mem_of_getElem? (i := 1) rfl)) (fun _ h9 => h9) rfl dX3_setWeight_41 ?_
            refine lv_icmp_ge (tgt := 61) hx hb dX3_setWeight_44 (by decide) (fun b44_26 => ?_) (fun b44_26 => ?_)
            · skip
              have b44_26 : (ns) ≤ (g) := (nI_leI (a := ns) (b := g) (by omega) (by omega)).mp b44_26
              have b44_26n : ¬ ((g) < (ns)) := by omega
              have ecw : wv = cutW w m_4 := by rw [eg]; exact zerW_cut hw0 (by omega) (by omega) (by omega)
              rw [ecw] at hP hD
              have hwi : cutW w m_4 z_13 = w z_13 := by unfold cutW; rw [if_pos (by omega)]
              refine lv_aload_n hx hb dX3_setWeight_61 rfl (lv_at hl 1 rfl) ?_
              refine lv_iload_n hx hb dX3_setWeight_62 rfl (lv_at hl 2 rfl) ?_
              refine va_put (D := G.1) (ci := 2) (v := .int (nI (m_4))) (ty := .int) (C := RX3) (T := TX3) (N := 4) hx hb hts in_X3_setWeight_X3 tyX3 tyX3_ok nmX3 hown hK.1 hP hD hS 0 rfl rfl 1 (by decide) (hts (.fieldLink RX3 15 "NightWater$Steps" "size" "I") (List.mem_of_getElem? (i := 1) rfl)) (fun _ h9 => h9) rfl (by decide +kernel) rfl rfl (Nat.le_of_ble_eq_true rfl) dX3_setWeight_63 (fun H locs hP hD hS => ?_)
              have hP : va_P G.1 vwCl ((wS G (a) (m_4) (cutW w m_4) (M))) H := hP
              have hD : va_D vA ((wS G (a) (m_4) (cutW w m_4) (M))) := hD
              refine lv_aload_n hx hb dX3_setWeight_66 rfl (lv_at hl 1 rfl) ?_
              refine va_get (D := G.1) (ci := 2) (v := .ref (a 1)) (C := RX3) (T := TX3) (N := 4) hx hb hts in_X3_setWeight_X3 hown hK.1 hP 0 rfl rfl 0 (by decide) (hts (.fieldLink RX3 11 "NightWater$Steps" "weights" "[I") (List.mem_of_getElem? (i := 2) rfl)) (fun _ h9 => h9) rfl dX3_setWeight_67 ?_
              refine lv_iload_n hx hb dX3_setWeight_70 rfl (lv_at hl 3 rfl) ?_
              refine nw_iald X hP 1 (n := 12) (f := (fun j => nI ((cutW w m_4) j))) rfl (z_13) rfl (by omega) (by decide) dX3_setWeight_71 ?_
              refine lv_istore (lv' := [(4, .int (nI ((cutW w m_4) (z_13)))), (0, .ref (a 0)), (1, .int (nI (m_4))), (2, .int (nI (z_13))), (3, .int (nI (z_21)))]) hx hb dX3_setWeight_72 hl (by decide) rfl (fun ls hl => ?_)
              refine lv_aload_n hx hb dX3_setWeight_74 rfl (lv_at hl 1 rfl) ?_
              refine va_get (D := G.1) (ci := 2) (v := .ref (a 1)) (C := RX3) (T := TX3) (N := 4) hx hb hts in_X3_setWeight_X3 hown hK.1 hP 0 rfl rfl 0 (by decide) (hts (.fieldLink RX3 11 "NightWater$Steps" "weights" "[I") (List.mem_of_getElem? (i := 2) rfl)) (fun _ h9 => h9) rfl dX3_setWeight_75 ?_
              refine lv_iload_n hx hb dX3_setWeight_78 rfl (lv_at hl 3 rfl) ?_
              refine lv_iload_n hx hb dX3_setWeight_79 rfl (lv_at hl 4 rfl) ?_
              refine nw_iastN X hP hD hS 1 (n := 12) (f := cutW w m_4) rfl (z_13) (z_21) rfl rfl (by omega) (by decide) dX3_setWeight_80 (fun H locs hP hD hS => ?_)
              have hP : va_P G.1 vwCl ((wS G (a) (m_4) (va_up (cutW w m_4) (z_13) (z_21)) (M))) H := hP
              have hD : va_D vA ((wS G (a) (m_4) (va_up (cutW w m_4) (z_13) (z_21)) (M))) := hD
              refine lv_aload_n hx hb dX3_setWeight_81 rfl (lv_at hl 1 rfl) ?_
              refine nw_Vv (As := []) (rest := []) (q0 := 0) X (c_X3_planAll lc G (a) (m_4) (va_up (cutW w m_4) (z_13) (z_21)) (M) (by omega) (by omega) (by exact cut_le hw (by omega))) (cwV 0 hts gX3_setWeight_X3_planAll rfl rfl rfl (by decide +kernel) ⟨Nat.le_of_ble_eq_true rfl, Nat.le_of_ble_eq_true rfl⟩) rfl (show vwCl[2]? = some (RX3, TX3, 4) from rfl) (nwSp.all ((wS G (a) (m_4) (va_up (cutW w m_4) (z_13) (z_21)) (M)))) hP hD hS hA rfl hl.1 rfl (Nat.le_of_ble_eq_true rfl) dX3_setWeight_82 ⟨Nat.le_of_ble_eq_true rfl, Nat.le_of_ble_eq_true rfl⟩ (fun w H locs hp_27 hP hD hS => ?_)
              obtain ⟨Mv_28, hMv_29, rfl⟩ := hp_27
              have hP : va_P G.1 vwCl ((wS G (a) (m_4) (va_up (cutW w m_4) (z_13) (z_21)) (Mv_28))) H := hP
              have hD : va_D vA ((wS G (a) (m_4) (va_up (cutW w m_4) (z_13) (z_21)) (Mv_28))) := hD
              refine lv_iload hx hb dX3_setWeight_85 (lv_at hl 0 rfl) ?_
              exact nw_iret (rm := ({ frames := 3, cells := 0, slots := 0, locals := 71 } : Room)) X hP hD hS (⟨_, by simp only [secOk, nwIf_T, nwIf_F, or_true, true_or, or_false, false_or, and_true, true_and, and_false, false_and, not_true_eq_false, not_false_eq_true, Nat.add_sub_cancel, q_2, ec_8, q_11, ec_16, q_19, ec_24, b44_26n, b44_26]; exact hMv_29, by simp only [secOk, nwIf_T, nwIf_F, or_true, true_or, or_false, false_or, and_true, true_and, and_false, false_and, not_true_eq_false, not_false_eq_true, Nat.add_sub_cancel, q_2, ec_8, q_11, ec_16, q_19, ec_24, b44_26n, b44_26, hwi], by simp only [secOk, nwIf_T, nwIf_F, or_true, true_or, or_false, false_or, and_true, true_and, and_false, false_and, not_true_eq_false, not_false_eq_true, Nat.add_sub_cancel, q_2, ec_8, q_11, ec_16, q_19, ec_24, b44_26n, b44_26]⟩) dX3_setWeight_87
            · skip
              have b44_26 : ¬ ((ns) ≤ (g)) := fun h => b44_26 ((nI_leI (a := ns) (b := g) (by omega) (by omega)).mpr h)
              have b44_26n : (g) < (ns) := by omega
              refine lv_aload_n hx hb dX3_setWeight_47 rfl (lv_at hl 1 rfl) ?_
              refine va_get (D := G.1) (ci := 2) (v := .ref (a 1)) (C := RX3) (T := TX3) (N := 4) hx hb hts in_X3_setWeight_X3 hown hK.1 hP 0 rfl rfl 0 (by decide) (hts (.fieldLink RX3 11 "NightWater$Steps" "weights" "[I") (List.mem_of_getElem? (i := 2) rfl)) (fun _ h9 => h9) rfl dX3_setWeight_48 ?_
              refine lv_iload hx hb dX3_setWeight_51 (lv_at hl 0 rfl) ?_
              refine lv_iconst (v := (0)) hx hb dX3_setWeight_53 (by decide) ?_
              refine nw_iastN X hP hD hS 1 (n := 12) (f := wv) rfl (g) (0) rfl rfl (by omega) (by decide) dX3_setWeight_54 (fun H locs hP hD hS => ?_)
              have hP : va_P G.1 vwCl ((wS G (a) (ns) (va_up (wv) (g) (0)) (M))) H := hP
              have hD : va_D vA ((wS G (a) (ns) (va_up (wv) (g) (0)) (M))) := hD
              refine lv_iinc (v := (nI (g + 1))) (lv' := [(4, .int (nI (g + 1))), (0, .ref (a 0)), (1, .int (nI (m_4))), (2, .int (nI (z_13))), (3, .int (nI (z_21)))]) hx hb dX3_setWeight_55 hl (k := 0) rfl (by exact nI_add (g) 1) (by decide) rfl (fun ls hl => ?_)
              refine lv_goto (tgt := 38) hx hb dX3_setWeight_58 (by decide) ?_
              exact ih38 (g + 1) (va_up (wv) (g) (0)) _ _ _ (by omega) (by omega) (by omega) (by rw [eg]; exact zerW_s hg1) (lv_sub hl [0, 1, 2, 3, 4] rfl) hP hD hS
        exact K38 ((12 - (m_4)) + 1) (m_4) (w) _ _ _ (Nat.lt_succ_self _) (by omega) (by omega) (by exact zerW_0.symm) (lv_sub hl [0, 1, 2, 3, 4] rfl) hP hD hS
set_option maxHeartbeats 4000000 in
set_option maxRecDepth 100000 in
theorem c_X3_closingsFor (lc : Launch) (G : nwG) (a : Nat → Nat) (ns : Nat) (w : Nat → Nat) (M : Nat → Nat → Int32) (i : Int32) (hn1 : 1 ≤ ns) (hn12 : ns ≤ 12) (hpl : plOk w ns M) : nwCi lc G yX3_closingsFor wsX3_closingsFor ({ frames := 1, cells := 0, slots := 0, locals := 22 } : Room) [.ref (a 0), .int (i)] ((wS G (a) (ns) (w) (M))) (fun r ww => r = closingsF ns w i ∧ ww = wS G a ns w M) := by
  refine nw_of (cc := cX3_closingsFor) (maxL := 6) (ret := (some .int)) (by decide) rfl (Nat.le_of_ble_eq_true rfl) ?_
  intro vp ve vs vm vb vt vc vA ls X hP hD hA hS hl
  have X : nwAt vp vm vc cX3_closingsFor 6 vs _ wsX3_closingsFor RX3 vt (some .int) "closingsFor" G := X
  have hx := X.1.1
  have hb := X.1.2.1
  have hown := X.1.2.2.2.1
  have hts := X.1.2.2.2.2
  have hK := X.2.2.2.2
  have hl : lv_has ls 6 [(0, .ref (a 0)), (1, .int (i))] := hl
  refine lv_iload_n hx hb dX3_closingsFor_0 rfl (lv_at hl 1 rfl) ?_
  refine lv_iconst (v := (0)) hx hb dX3_closingsFor_1 (by decide) ?_
  refine lv_aload_n hx hb dX3_closingsFor_2 rfl (lv_at hl 0 rfl) ?_
  refine va_get (D := G.1) (ci := 2) (v := .int (nI (ns))) (C := RX3) (T := TX3) (N := 4) hx hb hts in_X3_closingsFor_X3 hown hK.1 hP 0 rfl rfl 1 (by decide) (hts (.fieldLink RX3 15 "NightWater$Steps" "size" "I") (List.mem_of_getElem? (i := 1) rfl)) (fun _ h9 => h9) rfl dX3_closingsFor_3 ?_
  refine lv_iconst (v := (1)) hx hb dX3_closingsFor_6 (by decide) ?_
  refine lv_isub hx hb dX3_closingsFor_7 ?_
  refine nw_Ni (As := [.int (i), .int (0), .int ((nI (ns)) - (1 : Int32))]) (rest := []) X (c_X6_outside lc G ((i)) ((0 : Int32)) (((nI (ns)) - (1 : Int32))) ) (va_cnB 3 hts ggX3_closingsFor_X6_outside rfl rfl rfl (hK.nest 6 rfl) (hts (.initialized RX6) (List.mem_of_getElem? (i := 4) rfl)) (by decide +kernel) ⟨Nat.le_of_ble_eq_true rfl, Nat.le_of_ble_eq_true rfl⟩) (hts (.static yX6_outside) (List.mem_of_getElem? (i := 3) rfl)) (fun _ _ h => h.2) hP hD hS hA rfl hl.1 rfl (Nat.le_of_ble_eq_true rfl) dX3_closingsFor_8 ⟨Nat.le_of_ble_eq_true rfl, Nat.le_of_ble_eq_true rfl⟩ (fun r H locs hp_1 hP hD hS => ?_)
  obtain ⟨⟨rfl, q_2⟩ | ⟨rfl, q_2⟩, -⟩ := hp_1
  · skip
    have q_2 : out ((i)) ((0 : Int32)) (((nI (ns)) - (1 : Int32))) := q_2
    refine lv_if_eq (tgt := 17) hx hb dX3_closingsFor_11 (by decide) (fun c9 => absurd c9 (by decide)) (fun _ => ?_)
    refine lv_bipush (v := (-2)) hx hb dX3_closingsFor_14 (by decide) ?_
    exact nw_iret (rm := ({ frames := 1, cells := 0, slots := 0, locals := 22 } : Room)) X hP hD hS (⟨by simp only [closingsF, nwIf_T, nwIf_F, or_true, true_or, or_false, false_or, and_true, true_and, and_false, false_and, not_true_eq_false, not_false_eq_true, Nat.add_sub_cancel, q_2], rfl⟩) dX3_closingsFor_16
  · skip
    have q_2 : ¬ out ((i)) ((0 : Int32)) (((nI (ns)) - (1 : Int32))) := q_2
    obtain ⟨z_4, hz_5, he_6⟩ := nw_lt (n := ns) (by omega) q_2
    have ec_7 := nw_clamp he_6 (by omega)
    refine lv_if_eq (tgt := 17) hx hb dX3_closingsFor_11 (by decide) (fun _ => ?_) (fun c9 => absurd (by decide) c9)
    rw [he_6] at hl
    have hl : lv_has ls 6 [(0, .ref (a 0)), (1, .int (nI (z_4)))] := hl
    refine lv_iconst (v := (0)) hx hb dX3_closingsFor_17 (by decide) ?_
    refine lv_istore_n (lv' := [(2, .int (0)), (0, .ref (a 0)), (1, .int (nI (z_4)))]) hx hb dX3_closingsFor_18 rfl hl (by decide) rfl (fun ls hl => ?_)
    refine lv_aload_n hx hb dX3_closingsFor_19 rfl (lv_at hl 1 rfl) ?_
    refine va_get (D := G.1) (ci := 2) (v := .int (nI (ns))) (C := RX3) (T := TX3) (N := 4) hx hb hts in_X3_closingsFor_X3 hown hK.1 hP 0 rfl rfl 1 (by decide) (hts (.fieldLink RX3 15 "NightWater$Steps" "size" "I") (List.mem_of_getElem? (i := 1) rfl)) (fun _ h9 => h9) rfl dX3_closingsFor_20 ?_
    refine lv_iconst (v := (1)) hx hb dX3_closingsFor_23 (by decide) ?_
    refine lv_isub hx hb dX3_closingsFor_24 ?_
    refine nw_top (y := nI (ns - 1)) (pk_sub (a := ns) (b := 1) (by omega)) ?_
    refine lv_istore_n (lv' := [(3, .int (nI (ns - 1))), (2, .int (0)), (0, .ref (a 0)), (1, .int (nI (z_4)))]) hx hb dX3_closingsFor_25 rfl hl (by decide) rfl (fun ls hl => ?_)
    refine lv_iconst (v := (0)) hx hb dX3_closingsFor_26 (by decide) ?_
    refine lv_istore (lv' := [(4, .int (0)), (3, .int (nI (ns - 1))), (2, .int (0)), (0, .ref (a 0)), (1, .int (nI (z_4)))]) hx hb dX3_closingsFor_27 hl (by decide) rfl (fun ls hl => ?_)
    have K29 : ∀ (fuel : Nat) (x2 : Nat) (x3 : Nat) (x4 : Nat) (H : Heap) (locs : List Loc) (ls : Array Slot), (x3 - x2) < fuel → (x2 ≤ x3) → (x3 < ns) → (x4 + (x3 - x2) ≤ 11) → (x4 + clW w z_4 (12 - x4) x2 x3 = clW w z_4 12 0 (ns - 1)) → lv_has ls 6 [(4, .int (nI (x4))), (3, .int (nI (x3))), (2, .int (nI (x2))), (0, .ref (a 0)), (1, .int (nI (z_4)))] → va_P G.1 vwCl ((wS G (a) (ns) (w) (M))) H → va_D vA ((wS G (a) (ns) (w) (M))) → va_S vA vs.heap H locs → W vp lc ve ({ frames := 1, cells := 0, slots := 0, locals := 22 } : Room) vs vm ([.ref (a 0), .int (i)] : List Value).toArray vb vt vc H locs 0 0 (MQ vb (nwQi G (fun r ww => r = closingsF ns w i ∧ ww = wS G a ns w M) vA) ([.ref (a 0), .int (i)] : List Value).toArray vs ({ frames := 1, cells := 0, slots := 0, locals := 22 } : Room).cells ({ frames := 1, cells := 0, slots := 0, locals := 22 } : Room).slots vA) (F0 vm 29 ls []) := by
      intro fuel
      induction fuel with
      | zero => intro x2 x3 x4 H locs ls hmu; exact absurd hmu (Nat.not_lt_zero _)
      | succ fuel ih29 =>
        intro x2 x3 x4 H locs ls hmu h23 h3n h4 ecl hl hP hD hS
        refine lv_iload_n hx hb dX3_closingsFor_29 rfl (lv_at hl 2 rfl) ?_
        refine lv_iload_n hx hb dX3_closingsFor_30 rfl (lv_at hl 1 rfl) ?_
        refine lv_icmp_ge (tgt := 74) hx hb dX3_closingsFor_31 (by decide) (fun b31_9 => ?_) (fun b31_9 => ?_)
        · skip
          have b31_9 : (x3) ≤ (x2) := (nI_leI (a := x3) (b := x2) (by omega) (by omega)).mp b31_9
          have b31_9n : ¬ ((x2) < (x3)) := by omega
          refine lv_iload hx hb dX3_closingsFor_74 (lv_at hl 0 rfl) ?_
          exact nw_iret (rm := ({ frames := 1, cells := 0, slots := 0, locals := 22 } : Room)) X hP hD hS (⟨by simp only [closingsF, nwIf_T, nwIf_F, or_true, true_or, or_false, false_or, and_true, true_and, and_false, false_and, not_true_eq_false, not_false_eq_true, Nat.add_sub_cancel, q_2, ec_7, b31_9n, b31_9]; rw [← ecl, clW_e (by omega), Nat.add_zero], rfl⟩) dX3_closingsFor_76
        · skip
          have b31_9 : ¬ ((x3) ≤ (x2)) := fun h => b31_9 ((nI_leI (a := x3) (b := x2) (by omega) (by omega)).mpr h)
          have b31_9n : (x2) < (x3) := by omega
          refine lv_iload hx hb dX3_closingsFor_34 (lv_at hl 0 rfl) ?_
          refine lv_bipush (v := (12)) hx hb dX3_closingsFor_36 (by decide) ?_
          refine lv_icmp_ge (tgt := 74) hx hb dX3_closingsFor_38 (by decide) (fun b38_10 => ?_) (fun b38_10 => ?_)
          · skip
            have b38_10 : (12) ≤ (x4) := (nI_leI (a := 12) (b := x4) (by omega) (by omega)).mp b38_10
            have b38_10n : ¬ ((x4) < (12)) := by omega
            omega
          · skip
            have b38_10 : ¬ ((12) ≤ (x4)) := fun h => b38_10 ((nI_leI (a := 12) (b := x4) (by omega) (by omega)).mpr h)
            have b38_10n : (x4) < (12) := by omega
            have hab := hpl x2 x3 (by omega) (by omega)
            have hsr := sF_rng (w := w) (d := x3 - x2) (a := x2) (by omega)
            have hst : M (12 + x2) x3 = nI (sF w (x3 - x2) x2) := by rw [hab.2]; unfold stF; rw [if_neg (by omega)]
            refine lv_aload_n hx hb dX3_closingsFor_41 rfl (lv_at hl 3 rfl) ?_
            refine va_get (D := G.1) (ci := 2) (v := .ref (a 3)) (C := RX3) (T := TX3) (N := 4) hx hb hts in_X3_closingsFor_X3 hown hK.1 hP 0 rfl rfl 3 (by decide) (hts (.fieldLink RX3 24 "NightWater$Steps" "starts" "[[I") (List.mem_of_getElem? (i := 2) rfl)) (fun _ h9 => h9) rfl dX3_closingsFor_42 ?_
            refine lv_iload_n hx hb dX3_closingsFor_45 rfl (lv_at hl 2 rfl) ?_
            refine nw_aald X hP 3 rfl (x2) rfl (by omega) (by decide) dX3_closingsFor_46 ?_
            show W _ _ _ _ _ _ _ _ _ _ _ _ _ _ _ (F0 vm _ ls (.ref (a (4 + (12 + x2))) :: _))
            refine lv_iload_n hx hb dX3_closingsFor_47 rfl (lv_at hl 1 rfl) ?_
            refine nw_rald (X0 := _) (r := fun i => a (4 + i)) (N := 24) (n := 12) (M := M) X hP (12 + x2) (by omega) (x3) rfl (by omega) (by decide) dX3_closingsFor_48 ?_
            refine nw_top (y := nI (sF w (x3 - x2) x2)) hst ?_
            refine lv_istore (lv' := [(5, .int (nI (sF w (x3 - x2) x2))), (4, .int (nI (x4))), (3, .int (nI (x3))), (2, .int (nI (x2))), (0, .ref (a 0)), (1, .int (nI (z_4)))]) hx hb dX3_closingsFor_49 hl (by decide) rfl (fun ls hl => ?_)
            refine lv_iload_n hx hb dX3_closingsFor_51 rfl (lv_at hl 5 rfl) ?_
            refine lv_iload hx hb dX3_closingsFor_52 (lv_at hl 0 rfl) ?_
            refine lv_icmp_ge (tgt := 65) hx hb dX3_closingsFor_54 (by decide) (fun b54_11 => ?_) (fun b54_11 => ?_)
            · skip
              have b54_11 : (sF w (x3 - x2) x2) ≤ (z_4) := (nI_leI (a := sF w (x3 - x2) x2) (b := z_4) (by omega) (by omega)).mp b54_11
              have b54_11n : ¬ ((z_4) < (sF w (x3 - x2) x2)) := by omega
              have hil : ¬ z_4 < sF w (x3 - x2) x2 := by omega
              refine lv_iload hx hb dX3_closingsFor_65 (lv_at hl 0 rfl) ?_
              refine lv_istore_n (lv' := [(2, .int (nI (sF w (x3 - x2) x2))), (5, .int (nI (sF w (x3 - x2) x2))), (4, .int (nI (x4))), (3, .int (nI (x3))), (0, .ref (a 0)), (1, .int (nI (z_4)))]) hx hb dX3_closingsFor_67 rfl hl (by decide) rfl (fun ls hl => ?_)
              refine lv_iinc (v := (nI (x4 + 1))) (lv' := [(4, .int (nI (x4 + 1))), (2, .int (nI (sF w (x3 - x2) x2))), (5, .int (nI (sF w (x3 - x2) x2))), (3, .int (nI (x3))), (0, .ref (a 0)), (1, .int (nI (z_4)))]) hx hb dX3_closingsFor_68 hl (k := 2) rfl (by exact nI_add (x4) 1) (by decide) rfl (fun ls hl => ?_)
              refine lv_goto (tgt := 29) hx hb dX3_closingsFor_71 (by decide) ?_
              exact ih29 (sF w (x3 - x2) x2) (x3) (x4 + 1) _ _ _ (by omega) (by omega) (by omega) (by omega) (by rw [← ecl]; first | exact cl_step hil (by omega) (by omega) | exact cl_step2 hil (by omega) (by omega)) (lv_sub hl [0, 3, 1, 4, 5] rfl) hP hD hS
            · skip
              have b54_11 : ¬ ((sF w (x3 - x2) x2) ≤ (z_4)) := fun h => b54_11 ((nI_leI (a := sF w (x3 - x2) x2) (b := z_4) (by omega) (by omega)).mpr h)
              have b54_11n : (z_4) < (sF w (x3 - x2) x2) := by omega
              have hil : z_4 < sF w (x3 - x2) x2 := by omega
              refine lv_iload hx hb dX3_closingsFor_57 (lv_at hl 0 rfl) ?_
              refine lv_iconst (v := (1)) hx hb dX3_closingsFor_59 (by decide) ?_
              refine lv_isub hx hb dX3_closingsFor_60 ?_
              refine nw_top (y := nI (sF w (x3 - x2) x2 - 1)) (pk_sub (a := sF w (x3 - x2) x2) (b := 1) (by omega)) ?_
              refine lv_istore_n (lv' := [(3, .int (nI ((sF w (x3 - x2) x2) - 1))), (5, .int (nI (sF w (x3 - x2) x2))), (4, .int (nI (x4))), (2, .int (nI (x2))), (0, .ref (a 0)), (1, .int (nI (z_4)))]) hx hb dX3_closingsFor_61 rfl hl (by decide) rfl (fun ls hl => ?_)
              refine lv_goto (tgt := 68) hx hb dX3_closingsFor_62 (by decide) ?_
              refine lv_iinc (v := (nI (x4 + 1))) (lv' := [(4, .int (nI (x4 + 1))), (3, .int (nI ((sF w (x3 - x2) x2) - 1))), (5, .int (nI (sF w (x3 - x2) x2))), (2, .int (nI (x2))), (0, .ref (a 0)), (1, .int (nI (z_4)))]) hx hb dX3_closingsFor_68 hl (k := 2) rfl (by exact nI_add (x4) 1) (by decide) rfl (fun ls hl => ?_)
              refine lv_goto (tgt := 29) hx hb dX3_closingsFor_71 (by decide) ?_
              exact ih29 (x2) ((sF w (x3 - x2) x2) - 1) (x4 + 1) _ _ _ (by omega) (by omega) (by omega) (by omega) (by rw [← ecl]; first | exact cl_step hil (by omega) (by omega) | exact cl_step2 hil (by omega) (by omega)) (lv_sub hl [0, 1, 3, 4, 5] rfl) hP hD hS
    exact K29 (((ns - 1) - (0)) + 1) (0) (ns - 1) (0) _ _ _ (Nat.lt_succ_self _) (by omega) (by omega) (by omega) (by rw [Nat.zero_add]) (lv_sub hl [0, 1, 2, 3, 4] rfl) hP hD hS
