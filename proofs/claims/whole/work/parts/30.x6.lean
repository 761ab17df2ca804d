/-! printed by wip/gen/x6.py: contracts, walked row by row -/
theorem in_X6_clear_X6 : ∀ w ∈ wsX60, w ∈ wsX6_clear := by decide +kernel
theorem in_X6_closes_X6 : ∀ w ∈ wsX60, w ∈ wsX6_closes := by decide +kernel
theorem in_X6_closings_X6 : ∀ w ∈ wsX60, w ∈ wsX6_closings := by decide +kernel
theorem in_X6_cost_X6 : ∀ w ∈ wsX60, w ∈ wsX6_cost := by decide +kernel
theorem in_X6_count_X6 : ∀ w ∈ wsX60, w ∈ wsX6_count := by decide +kernel
theorem in_X6_delay_X6 : ∀ w ∈ wsX60, w ∈ wsX6_delay := by decide +kernel
theorem in_X6_dig_X6 : ∀ w ∈ wsX60, w ∈ wsX6_dig := by decide +kernel
theorem in_X6_digest_X6 : ∀ w ∈ wsX60, w ∈ wsX6_digest := by decide +kernel
theorem in_X6_echo_X6 : ∀ w ∈ wsX60, w ∈ wsX6_echo := by decide +kernel
theorem in_X6_explains_X6 : ∀ w ∈ wsX60, w ∈ wsX6_explains := by decide +kernel
theorem in_X6_fewest_X6 : ∀ w ∈ wsX60, w ∈ wsX6_fewest := by decide +kernel
theorem in_X6_group_X6 : ∀ w ∈ wsX60, w ∈ wsX6_group := by decide +kernel
theorem in_X6_leaks_X6 : ∀ w ∈ wsX60, w ∈ wsX6_leaks := by decide +kernel
theorem in_X6_lost_X6 : ∀ w ∈ wsX60, w ∈ wsX6_lost := by decide +kernel
theorem in_X6_low_X6 : ∀ w ∈ wsX60, w ∈ wsX6_low := by decide +kernel
theorem in_X6_order_X6 : ∀ w ∈ wsX60, w ∈ wsX6_order := by decide +kernel
theorem in_X6_place_X6 : ∀ w ∈ wsX60, w ∈ wsX6_place := by decide +kernel
theorem in_X6_read_X6 : ∀ w ∈ wsX60, w ∈ wsX6_read := by decide +kernel
theorem in_X6_rules_X6 : ∀ w ∈ wsX60, w ∈ wsX6_rules := by decide +kernel
theorem in_X6_sample_X6 : ∀ w ∈ wsX60, w ∈ wsX6_sample := by decide +kernel
theorem in_X6_section_X6 : ∀ w ∈ wsX60, w ∈ wsX6_section := by decide +kernel
theorem in_X6_sum_X6 : ∀ w ∈ wsX60, w ∈ wsX6_sum := by decide +kernel
theorem in_X6_valve_X6 : ∀ w ∈ wsX60, w ∈ wsX6_valve := by decide +kernel
theorem in_X6_zone_X6 : ∀ w ∈ wsX60, w ∈ wsX6_zone := by decide +kernel
set_option maxHeartbeats 4000000 in
set_option maxRecDepth 100000 in
theorem c_X6_zone (lc : Launch) (G : nwG) (b : Nat) (v z li st d : Nat → Nat) (nv : Nat) (fr tt : Nat → Nat) (zl : Nat → Int32) (ld : Nat → Nat) (gk ut : Nat → Int32) (n : Nat) (cu bg : Nat → Int32) (M : Nat → Nat → Int32) (er us : Int32) (ML : Nat → Nat → Int32) (ns : Nat) (w : Nat → Nat) (MS : Nat → Nat → Int32) (nd : Nat) (lo ho : Nat → Int32) (rk : Nat → Nat) (p1 : Int32) (p2 : Int32)  (hn : n ≤ 8) : nwCi lc G yX6_zone wsX6_zone ({ frames := 2, cells := 0, slots := 0, locals := 44 } : Room) [.ref (b), .int (p1), .int (p2)] ((wN (b) (z 0) (v 0) (li 0) (st 0) (d 0)) ++ ((wV G (v) (z 0) (nv) (fr) (tt) (zl) (ld) (gk) (ut)) ++ ((wZ G (z) (n) (cu) (bg) (M) (er) (us)) ++ ((wL G (li) (ML)) ++ ((wS G (st) (ns) (w) (MS)) ++ ((wD G (d) (nd) (lo) (ho) (rk)))))))) (fun r ww => r = zoneF n p1 p2 ∧ ww = (wN (b) (z 0) (v 0) (li 0) (st 0) (d 0)) ++ ((wV G (v) (z 0) (nv) (fr) (tt) (zl) (ld) (gk) (ut)) ++ ((wZ G (z) (nwIf (zoneOk n p1 p2) (n + 1) n) (nwIf (zoneOk n p1 p2) (va_up cu n p1) cu) (nwIf (zoneOk n p1 p2) (va_up bg n p2) bg) (M) (er) (us)) ++ ((wL G (li) (ML)) ++ ((wS G (st) (ns) (w) (MS)) ++ ((wD G (d) (nd) (lo) (ho) (rk)))))))) := by
  refine nw_of (cc := cX6_zone) (maxL := 3) (ret := (some .int)) (by decide) rfl (Nat.le_of_ble_eq_true rfl) ?_
  intro vp ve vs vm vb vt vc vA ls X hP hD hA hS hl
  have X : nwAt vp vm vc cX6_zone 3 vs _ wsX6_zone RX6 vt (some .int) "zone" G := X
  have hx := X.1.1
  have hb := X.1.2.1
  have hown := X.1.2.2.2.1
  have hts := X.1.2.2.2.2
  have hK := X.2.2.2.2
  have hl : lv_has ls 3 [(0, .ref (b)), (1, .int (p1)), (2, .int (p2))] := hl
  refine lv_aload_n hx hb dX6_zone_0 rfl (lv_at hl 0 rfl) ?_
  refine va_get (D := G.1) (ci := 5) (v := .ref (z 0)) (C := RX6) (T := TX6) (N := 5) hx hb hts in_X6_zone_X6 hown hK.1 hP 0 rfl rfl 0 (by decide) (hts (.fieldLink RX6 10 "NightWater" "zones" "LNightWater$Zones;") (List.mem_of_getElem? (i := 1) rfl)) (fun _ h9 => h9) rfl dX6_zone_1 ?_
  refine lv_iload_n hx hb dX6_zone_4 rfl (lv_at hl 1 rfl) ?_
  refine lv_iload_n hx hb dX6_zone_5 rfl (lv_at hl 2 rfl) ?_
  refine nw_Vi (As := [.int (p1), .int (p2)]) (rest := []) (q0 := 0) X (c_X5_add lc G (z) (n) (cu) (bg) (M) (er) (us) ((p1)) ((p2)) (by first | assumption | omega)) (cwV 2 hts gX6_zone_X5_add rfl rfl rfl (by decide +kernel) ⟨Nat.le_of_ble_eq_true rfl, Nat.le_of_ble_eq_true rfl⟩) rfl (show vwCl[4]? = some (RX5, TX5, 7) from rfl) (nwSp.gen ((wN (b) (z 0) (v 0) (li 0) (st 0) (d 0)) ++ ((wV G (v) (z 0) (nv) (fr) (tt) (zl) (ld) (gk) (ut)))) ((wZ G (z) (n) (cu) (bg) (M) (er) (us))) ((wL G (li) (ML)) ++ ((wS G (st) (ns) (w) (MS)) ++ ((wD G (d) (nd) (lo) (ho) (rk))))) (f := fun q9 => (wN (b) (z 0) (v 0) (li 0) (st 0) (d 0)) ++ ((wV G (v) (z 0) (nv) (fr) (tt) (zl) (ld) (gk) (ut)) ++ (q9 ++ ((wL G (li) (ML)) ++ ((wS G (st) (ns) (w) (MS)) ++ ((wD G (d) (nd) (lo) (ho) (rk)))))))) (by simp only [List.append_assoc, List.nil_append, List.append_nil]) (fun q9 => by simp only [List.append_assoc, List.nil_append, List.append_nil])) hP hD hS hA rfl hl.1 rfl (Nat.le_of_ble_eq_true rfl) dX6_zone_6 ⟨Nat.le_of_ble_eq_true rfl, Nat.le_of_ble_eq_true rfl⟩ (fun r w H locs hp_1 hP hD hS => ?_)
  obtain ⟨rfl, rfl⟩ := hp_1
  have hP : va_P G.1 vwCl ((wN (b) (z 0) (v 0) (li 0) (st 0) (d 0)) ++ ((wV G (v) (z 0) (nv) (fr) (tt) (zl) (ld) (gk) (ut)) ++ ((wZ G (z) (nwIf (zoneOk n ((p1)) ((p2))) (n + 1) n) (nwIf (zoneOk n ((p1)) ((p2))) (va_up cu n ((p1))) cu) (nwIf (zoneOk n ((p1)) ((p2))) (va_up bg n ((p2))) bg) (M) (er) (us)) ++ ((wL G (li) (ML)) ++ ((wS G (st) (ns) (w) (MS)) ++ ((wD G (d) (nd) (lo) (ho) (rk)))))))) H := hP
  have hD : va_D vA ((wN (b) (z 0) (v 0) (li 0) (st 0) (d 0)) ++ ((wV G (v) (z 0) (nv) (fr) (tt) (zl) (ld) (gk) (ut)) ++ ((wZ G (z) (nwIf (zoneOk n ((p1)) ((p2))) (n + 1) n) (nwIf (zoneOk n ((p1)) ((p2))) (va_up cu n ((p1))) cu) (nwIf (zoneOk n ((p1)) ((p2))) (va_up bg n ((p2))) bg) (M) (er) (us)) ++ ((wL G (li) (ML)) ++ ((wS G (st) (ns) (w) (MS)) ++ ((wD G (d) (nd) (lo) (ho) (rk)))))))) := hD
  exact nw_iret (rm := ({ frames := 2, cells := 0, slots := 0, locals := 44 } : Room)) X hP hD hS (⟨rfl, rfl⟩) dX6_zone_9
set_option maxHeartbeats 4000000 in
set_option maxRecDepth 100000 in
theorem c_X6_rules (lc : Launch) (G : nwG) (b : Nat) (v z li st d : Nat → Nat) (nv : Nat) (fr tt : Nat → Nat) (zl : Nat → Int32) (ld : Nat → Nat) (gk ut : Nat → Int32) (n : Nat) (cu bg : Nat → Int32) (M : Nat → Nat → Int32) (er us : Int32) (ML : Nat → Nat → Int32) (ns : Nat) (w : Nat → Nat) (MS : Nat → Nat → Int32) (nd : Nat) (lo ho : Nat → Int32) (rk : Nat → Nat) (p1 : Int32) (p2 : Int32)   : nwCi lc G yX6_rules wsX6_rules ({ frames := 2, cells := 0, slots := 0, locals := 44 } : Room) [.ref (b), .int (p1), .int (p2)] ((wN (b) (z 0) (v 0) (li 0) (st 0) (d 0)) ++ ((wV G (v) (z 0) (nv) (fr) (tt) (zl) (ld) (gk) (ut)) ++ ((wZ G (z) (n) (cu) (bg) (M) (er) (us)) ++ ((wL G (li) (ML)) ++ ((wS G (st) (ns) (w) (MS)) ++ ((wD G (d) (nd) (lo) (ho) (rk)))))))) (fun r ww => r = nwIf (rulesOk p1 p2) 1 (-2) ∧ ww = (wN (b) (z 0) (v 0) (li 0) (st 0) (d 0)) ++ ((wV G (v) (z 0) (nv) (fr) (tt) (zl) (ld) (gk) (ut)) ++ ((wZ G (z) (n) (cu) (bg) (M) (nwIf (rulesOk p1 p2) p1 er) (nwIf (rulesOk p1 p2) p2 us)) ++ ((wL G (li) (ML)) ++ ((wS G (st) (ns) (w) (MS)) ++ ((wD G (d) (nd) (lo) (ho) (rk)))))))) := by
  refine nw_of (cc := cX6_rules) (maxL := 3) (ret := (some .int)) (by decide) rfl (Nat.le_of_ble_eq_true rfl) ?_
  intro vp ve vs vm vb vt vc vA ls X hP hD hA hS hl
  have X : nwAt vp vm vc cX6_rules 3 vs _ wsX6_rules RX6 vt (some .int) "rules" G := X
  have hx := X.1.1
  have hb := X.1.2.1
  have hown := X.1.2.2.2.1
  have hts := X.1.2.2.2.2
  have hK := X.2.2.2.2
  have hl : lv_has ls 3 [(0, .ref (b)), (1, .int (p1)), (2, .int (p2))] := hl
  refine lv_aload_n hx hb dX6_rules_0 rfl (lv_at hl 0 rfl) ?_
  refine va_get (D := G.1) (ci := 5) (v := .ref (z 0)) (C := RX6) (T := TX6) (N := 5) hx hb hts in_X6_rules_X6 hown hK.1 hP 0 rfl rfl 0 (by decide) (hts (.fieldLink RX6 10 "NightWater" "zones" "LNightWater$Zones;") (List.mem_of_getElem? (i := 1) rfl)) (fun _ h9 => h9) rfl dX6_rules_1 ?_
  refine lv_iload_n hx hb dX6_rules_4 rfl (lv_at hl 1 rfl) ?_
  refine lv_iload_n hx hb dX6_rules_5 rfl (lv_at hl 2 rfl) ?_
  refine nw_Vi (As := [.int (p1), .int (p2)]) (rest := []) (q0 := 0) X (c_X5_setRules lc G (z) (n) (cu) (bg) (M) (er) (us) ((p1)) ((p2)) ) (cwV 2 hts gX6_rules_X5_setRules rfl rfl rfl (by decide +kernel) ⟨Nat.le_of_ble_eq_true rfl, Nat.le_of_ble_eq_true rfl⟩) rfl (show vwCl[4]? = some (RX5, TX5, 7) from rfl) (nwSp.gen ((wN (b) (z 0) (v 0) (li 0) (st 0) (d 0)) ++ ((wV G (v) (z 0) (nv) (fr) (tt) (zl) (ld) (gk) (ut)))) ((wZ G (z) (n) (cu) (bg) (M) (er) (us))) ((wL G (li) (ML)) ++ ((wS G (st) (ns) (w) (MS)) ++ ((wD G (d) (nd) (lo) (ho) (rk))))) (f := fun q9 => (wN (b) (z 0) (v 0) (li 0) (st 0) (d 0)) ++ ((wV G (v) (z 0) (nv) (fr) (tt) (zl) (ld) (gk) (ut)) ++ (q9 ++ ((wL G (li) (ML)) ++ ((wS G (st) (ns) (w) (MS)) ++ ((wD G (d) (nd) (lo) (ho) (rk)))))))) (by simp only [List.append_assoc, List.nil_append, List.append_nil]) (fun q9 => by simp only [List.append_assoc, List.nil_append, List.append_nil])) hP hD hS hA rfl hl.1 rfl (Nat.le_of_ble_eq_true rfl) dX6_rules_6 ⟨Nat.le_of_ble_eq_true rfl, Nat.le_of_ble_eq_true rfl⟩ (fun r w H locs hp_1 hP hD hS => ?_)
  obtain ⟨rfl, rfl⟩ := hp_1
  have hP : va_P G.1 vwCl ((wN (b) (z 0) (v 0) (li 0) (st 0) (d 0)) ++ ((wV G (v) (z 0) (nv) (fr) (tt) (zl) (ld) (gk) (ut)) ++ ((wZ G (z) (n) (cu) (bg) (M) (nwIf (rulesOk ((p1)) ((p2))) ((p1)) er) (nwIf (rulesOk ((p1)) ((p2))) ((p2)) us)) ++ ((wL G (li) (ML)) ++ ((wS G (st) (ns) (w) (MS)) ++ ((wD G (d) (nd) (lo) (ho) (rk)))))))) H := hP
  have hD : va_D vA ((wN (b) (z 0) (v 0) (li 0) (st 0) (d 0)) ++ ((wV G (v) (z 0) (nv) (fr) (tt) (zl) (ld) (gk) (ut)) ++ ((wZ G (z) (n) (cu) (bg) (M) (nwIf (rulesOk ((p1)) ((p2))) ((p1)) er) (nwIf (rulesOk ((p1)) ((p2))) ((p2)) us)) ++ ((wL G (li) (ML)) ++ ((wS G (st) (ns) (w) (MS)) ++ ((wD G (d) (nd) (lo) (ho) (rk)))))))) := hD
  exact nw_iret (rm := ({ frames := 2, cells := 0, slots := 0, locals := 44 } : Room)) X hP hD hS (⟨rfl, rfl⟩) dX6_rules_9
set_option maxHeartbeats 4000000 in
set_option maxRecDepth 100000 in
theorem c_X6_read (lc : Launch) (G : nwG) (b : Nat) (v z li st d : Nat → Nat) (nv : Nat) (fr tt : Nat → Nat) (zl : Nat → Int32) (ld : Nat → Nat) (gk ut : Nat → Int32) (n : Nat) (cu bg : Nat → Int32) (M : Nat → Nat → Int32) (er us : Int32) (ML : Nat → Nat → Int32) (ns : Nat) (w : Nat → Nat) (MS : Nat → Nat → Int32) (nd : Nat) (lo ho : Nat → Int32) (rk : Nat → Nat) (p1 : Int32) (p2 : Int32) (p3 : Int32) (p4 : Int32)  (hn : n ≤ 8) : nwCi lc G yX6_read wsX6_read ({ frames := 3, cells := 0, slots := 0, locals := 69 } : Room) [.ref (b), .int (p1), .int (p2), .int (p3), .int (p4)] ((wN (b) (z 0) (v 0) (li 0) (st 0) (d 0)) ++ ((wV G (v) (z 0) (nv) (fr) (tt) (zl) (ld) (gk) (ut)) ++ ((wZ G (z) (n) (cu) (bg) (M) (er) (us)) ++ ((wL G (li) (ML)) ++ ((wS G (st) (ns) (w) (MS)) ++ ((wD G (d) (nd) (lo) (ho) (rk)))))))) (fun r ww => r = nwIf (readOk n p1 p2 p4) (M (readRow p1 p3) (p2).toNatClampNeg) (-2) ∧ ww = (wN (b) (z 0) (v 0) (li 0) (st 0) (d 0)) ++ ((wV G (v) (z 0) (nv) (fr) (tt) (zl) (ld) (gk) (ut)) ++ ((wZ G (z) (n) (cu) (bg) (nwIf (readOk n p1 p2 p4) (nwU2 M (readRow p1 p3) (p2).toNatClampNeg p4) M) (er) (us)) ++ ((wL G (li) (ML)) ++ ((wS G (st) (ns) (w) (MS)) ++ ((wD G (d) (nd) (lo) (ho) (rk)))))))) := by
  refine nw_of (cc := cX6_read) (maxL := 5) (ret := (some .int)) (by decide) rfl (Nat.le_of_ble_eq_true rfl) ?_
  intro vp ve vs vm vb vt vc vA ls X hP hD hA hS hl
  have X : nwAt vp vm vc cX6_read 5 vs _ wsX6_read RX6 vt (some .int) "read" G := X
  have hx := X.1.1
  have hb := X.1.2.1
  have hown := X.1.2.2.2.1
  have hts := X.1.2.2.2.2
  have hK := X.2.2.2.2
  have hl : lv_has ls 5 [(0, .ref (b)), (1, .int (p1)), (2, .int (p2)), (3, .int (p3)), (4, .int (p4))] := hl
  refine lv_aload_n hx hb dX6_read_0 rfl (lv_at hl 0 rfl) ?_
  refine va_get (D := G.1) (ci := 5) (v := .ref (z 0)) (C := RX6) (T := TX6) (N := 5) hx hb hts in_X6_read_X6 hown hK.1 hP 0 rfl rfl 0 (by decide) (hts (.fieldLink RX6 10 "NightWater" "zones" "LNightWater$Zones;") (List.mem_of_getElem? (i := 1) rfl)) (fun _ h9 => h9) rfl dX6_read_1 ?_
  refine lv_iload_n hx hb dX6_read_4 rfl (lv_at hl 1 rfl) ?_
  refine lv_iload_n hx hb dX6_read_5 rfl (lv_at hl 2 rfl) ?_
  refine lv_iload_n hx hb dX6_read_6 rfl (lv_at hl 3 rfl) ?_
  refine lv_iload hx hb dX6_read_7 (lv_at hl 4 rfl) ?_
  refine nw_Vi (As := [.int (p1), .int (p2), .int (p3), .int (p4)]) (rest := []) (q0 := 0) X (c_X5_setReading lc G (z) (n) (cu) (bg) (M) (er) (us) ((p1)) ((p2)) ((p3)) ((p4)) (by first | assumption | omega)) (cwV 4 hts gX6_read_X5_setReading rfl rfl rfl (by decide +kernel) ⟨Nat.le_of_ble_eq_true rfl, Nat.le_of_ble_eq_true rfl⟩) rfl (show vwCl[4]? = some (RX5, TX5, 7) from rfl) (nwSp.gen ((wN (b) (z 0) (v 0) (li 0) (st 0) (d 0)) ++ ((wV G (v) (z 0) (nv) (fr) (tt) (zl) (ld) (gk) (ut)))) ((wZ G (z) (n) (cu) (bg) (M) (er) (us))) ((wL G (li) (ML)) ++ ((wS G (st) (ns) (w) (MS)) ++ ((wD G (d) (nd) (lo) (ho) (rk))))) (f := fun q9 => (wN (b) (z 0) (v 0) (li 0) (st 0) (d 0)) ++ ((wV G (v) (z 0) (nv) (fr) (tt) (zl) (ld) (gk) (ut)) ++ (q9 ++ ((wL G (li) (ML)) ++ ((wS G (st) (ns) (w) (MS)) ++ ((wD G (d) (nd) (lo) (ho) (rk)))))))) (by simp only [List.append_assoc, List.nil_append, List.append_nil]) (fun q9 => by simp only [List.append_assoc, List.nil_append, List.append_nil])) hP hD hS hA rfl hl.1 rfl (Nat.le_of_ble_eq_true rfl) dX6_read_9 ⟨Nat.le_of_ble_eq_true rfl, Nat.le_of_ble_eq_true rfl⟩ (fun r w H locs hp_1 hP hD hS => ?_)
  obtain ⟨rfl, rfl⟩ := hp_1
  have hP : va_P G.1 vwCl ((wN (b) (z 0) (v 0) (li 0) (st 0) (d 0)) ++ ((wV G (v) (z 0) (nv) (fr) (tt) (zl) (ld) (gk) (ut)) ++ ((wZ G (z) (n) (cu) (bg) (nwIf (readOk n ((p1)) ((p2)) ((p4))) (nwU2 M (readRow ((p1)) ((p3))) (((p2))).toNatClampNeg ((p4))) M) (er) (us)) ++ ((wL G (li) (ML)) ++ ((wS G (st) (ns) (w) (MS)) ++ ((wD G (d) (nd) (lo) (ho) (rk)))))))) H := hP
  have hD : va_D vA ((wN (b) (z 0) (v 0) (li 0) (st 0) (d 0)) ++ ((wV G (v) (z 0) (nv) (fr) (tt) (zl) (ld) (gk) (ut)) ++ ((wZ G (z) (n) (cu) (bg) (nwIf (readOk n ((p1)) ((p2)) ((p4))) (nwU2 M (readRow ((p1)) ((p3))) (((p2))).toNatClampNeg ((p4))) M) (er) (us)) ++ ((wL G (li) (ML)) ++ ((wS G (st) (ns) (w) (MS)) ++ ((wD G (d) (nd) (lo) (ho) (rk)))))))) := hD
  exact nw_iret (rm := ({ frames := 3, cells := 0, slots := 0, locals := 69 } : Room)) X hP hD hS (⟨rfl, rfl⟩) dX6_read_12
set_option maxHeartbeats 4000000 in
set_option maxRecDepth 100000 in
theorem c_X6_low (lc : Launch) (G : nwG) (b : Nat) (v z li st d : Nat → Nat) (nv : Nat) (fr tt : Nat → Nat) (zl : Nat → Int32) (ld : Nat → Nat) (gk ut : Nat → Int32) (n : Nat) (cu bg : Nat → Int32) (M : Nat → Nat → Int32) (er us : Int32) (ML : Nat → Nat → Int32) (ns : Nat) (w : Nat → Nat) (MS : Nat → Nat → Int32) (nd : Nat) (lo ho : Nat → Int32) (rk : Nat → Nat) (p1 : Int32) (p2 : Int32)  (hn : n ≤ 8) : nwCi lc G yX6_low wsX6_low ({ frames := 4, cells := 0, slots := 0, locals := 91 } : Room) [.ref (b), .int (p1), .int (p2)] ((wN (b) (z 0) (v 0) (li 0) (st 0) (d 0)) ++ ((wV G (v) (z 0) (nv) (fr) (tt) (zl) (ld) (gk) (ut)) ++ ((wZ G (z) (n) (cu) (bg) (M) (er) (us)) ++ ((wL G (li) (ML)) ++ ((wS G (st) (ns) (w) (MS)) ++ ((wD G (d) (nd) (lo) (ho) (rk)))))))) (fun r ww => r = lowPF n M er p1 p2 ∧ ww = (wN (b) (z 0) (v 0) (li 0) (st 0) (d 0)) ++ ((wV G (v) (z 0) (nv) (fr) (tt) (zl) (ld) (gk) (ut)) ++ ((wZ G (z) (n) (cu) (bg) (M) (er) (us)) ++ ((wL G (li) (ML)) ++ ((wS G (st) (ns) (w) (MS)) ++ ((wD G (d) (nd) (lo) (ho) (rk)))))))) := by
  refine nw_of (cc := cX6_low) (maxL := 3) (ret := (some .int)) (by decide) rfl (Nat.le_of_ble_eq_true rfl) ?_
  intro vp ve vs vm vb vt vc vA ls X hP hD hA hS hl
  have X : nwAt vp vm vc cX6_low 3 vs _ wsX6_low RX6 vt (some .int) "low" G := X
  have hx := X.1.1
  have hb := X.1.2.1
  have hown := X.1.2.2.2.1
  have hts := X.1.2.2.2.2
  have hK := X.2.2.2.2
  have hl : lv_has ls 3 [(0, .ref (b)), (1, .int (p1)), (2, .int (p2))] := hl
  refine lv_aload_n hx hb dX6_low_0 rfl (lv_at hl 0 rfl) ?_
  refine va_get (D := G.1) (ci := 5) (v := .ref (z 0)) (C := RX6) (T := TX6) (N := 5) hx hb hts in_X6_low_X6 hown hK.1 hP 0 rfl rfl 0 (by decide) (hts (Cond.fieldLink RX6 10 "NightWater" "zones" "LNightWater$Zones;") (List.mem_of_getElem? (i := 1) rfl)) (fun _ h9 => h9) rfl dX6_low_1 ?_
  refine lv_iload_n hx hb dX6_low_4 rfl (lv_at hl 1 rfl) ?_
  refine lv_iload_n hx hb dX6_low_5 rfl (lv_at hl 2 rfl) ?_
  refine nw_Vi (As := [.int (p1), .int (p2)]) (rest := []) (q0 := 0) X (c_X5_lowPart lc G (z) (n) (cu) (bg) (M) (er) (us) ((p1)) ((p2)) (by first | assumption | omega)) (cwV 2 hts gX6_low_X5_lowPart rfl rfl rfl (by decide +kernel) ⟨Nat.le_of_ble_eq_true rfl, Nat.le_of_ble_eq_true rfl⟩) rfl (show vwCl[4]? = some (RX5, TX5, 7) from rfl) (nwSp.gen ((wN (b) (z 0) (v 0) (li 0) (st 0) (d 0)) ++ ((wV G (v) (z 0) (nv) (fr) (tt) (zl) (ld) (gk) (ut)))) ((wZ G (z) (n) (cu) (bg) (M) (er) (us))) ((wL G (li) (ML)) ++ ((wS G (st) (ns) (w) (MS)) ++ ((wD G (d) (nd) (lo) (ho) (rk))))) (f := fun q9 => (wN (b) (z 0) (v 0) (li 0) (st 0) (d 0)) ++ ((wV G (v) (z 0) (nv) (fr) (tt) (zl) (ld) (gk) (ut)) ++ (q9 ++ ((wL G (li) (ML)) ++ ((wS G (st) (ns) (w) (MS)) ++ ((wD G (d) (nd) (lo) (ho) (rk)))))))) (by simp only [List.append_assoc, List.nil_append, List.append_nil]) (fun q9 => by simp only [List.append_assoc, List.nil_append, List.append_nil])) hP hD hS hA rfl hl.1 rfl (Nat.le_of_ble_eq_true rfl) dX6_low_6 ⟨Nat.le_of_ble_eq_true rfl, Nat.le_of_ble_eq_true rfl⟩ (fun r w H locs hp_1 hP hD hS => ?_)
  obtain ⟨rfl, rfl⟩ := hp_1
  have hP : va_P G.1 vwCl ((wN (b) (z 0) (v 0) (li 0) (st 0) (d 0)) ++ ((wV G (v) (z 0) (nv) (fr) (tt) (zl) (ld) (gk) (ut)) ++ ((wZ G (z) (n) (cu) (bg) (M) (er) (us)) ++ ((wL G (li) (ML)) ++ ((wS G (st) (ns) (w) (MS)) ++ ((wD G (d) (nd) (lo) (ho) (rk)))))))) H := hP
  have hD : va_D vA ((wN (b) (z 0) (v 0) (li 0) (st 0) (d 0)) ++ ((wV G (v) (z 0) (nv) (fr) (tt) (zl) (ld) (gk) (ut)) ++ ((wZ G (z) (n) (cu) (bg) (M) (er) (us)) ++ ((wL G (li) (ML)) ++ ((wS G (st) (ns) (w) (MS)) ++ ((wD G (d) (nd) (lo) (ho) (rk)))))))) := hD
  exact nw_iret (rm := ({ frames := 4, cells := 0, slots := 0, locals := 91 } : Room)) X hP hD hS (⟨rfl, rfl⟩) dX6_low_9
set_option maxHeartbeats 4000000 in
set_option maxRecDepth 100000 in
theorem c_X6_leaks (lc : Launch) (G : nwG) (b : Nat) (v z li st d : Nat → Nat) (nv : Nat) (fr tt : Nat → Nat) (zl : Nat → Int32) (ld : Nat → Nat) (gk ut : Nat → Int32) (n : Nat) (cu bg : Nat → Int32) (M : Nat → Nat → Int32) (er us : Int32) (ML : Nat → Nat → Int32) (ns : Nat) (w : Nat → Nat) (MS : Nat → Nat → Int32) (nd : Nat) (lo ho : Nat → Int32) (rk : Nat → Nat) (p1 : Int32) (p2 : Int32)  (hn : n ≤ 8) : nwCi lc G yX6_leaks wsX6_leaks ({ frames := 4, cells := 0, slots := 0, locals := 91 } : Room) [.ref (b), .int (p1), .int (p2)] ((wN (b) (z 0) (v 0) (li 0) (st 0) (d 0)) ++ ((wV G (v) (z 0) (nv) (fr) (tt) (zl) (ld) (gk) (ut)) ++ ((wZ G (z) (n) (cu) (bg) (M) (er) (us)) ++ ((wL G (li) (ML)) ++ ((wS G (st) (ns) (w) (MS)) ++ ((wD G (d) (nd) (lo) (ho) (rk)))))))) (fun r ww => r = leaksF n cu bg M er us p1 p2 ∧ ww = (wN (b) (z 0) (v 0) (li 0) (st 0) (d 0)) ++ ((wV G (v) (z 0) (nv) (fr) (tt) (zl) (ld) (gk) (ut)) ++ ((wZ G (z) (n) (cu) (bg) (M) (er) (us)) ++ ((wL G (li) (ML)) ++ ((wS G (st) (ns) (w) (MS)) ++ ((wD G (d) (nd) (lo) (ho) (rk)))))))) := by
  refine nw_of (cc := cX6_leaks) (maxL := 3) (ret := (some .int)) (by decide) rfl (Nat.le_of_ble_eq_true rfl) ?_
  intro vp ve vs vm vb vt vc vA ls X hP hD hA hS hl
  have X : nwAt vp vm vc cX6_leaks 3 vs _ wsX6_leaks RX6 vt (some .int) "leaks" G := X
  have hx := X.1.1
  have hb := X.1.2.1
  have hown := X.1.2.2.2.1
  have hts := X.1.2.2.2.2
  have hK := X.2.2.2.2
  have hl : lv_has ls 3 [(0, .ref (b)), (1, .int (p1)), (2, .int (p2))] := hl
  refine lv_aload_n hx hb dX6_leaks_0 rfl (lv_at hl 0 rfl) ?_
  refine va_get (D := G.1) (ci := 5) (v := .ref (z 0)) (C := RX6) (T := TX6) (N := 5) hx hb hts in_X6_leaks_X6 hown hK.1 hP 0 rfl rfl 0 (by decide) (hts (Cond.fieldLink RX6 10 "NightWater" "zones" "LNightWater$Zones;") (List.mem_of_getElem? (i := 1) rfl)) (fun _ h9 => h9) rfl dX6_leaks_1 ?_
  refine lv_iload_n hx hb dX6_leaks_4 rfl (lv_at hl 1 rfl) ?_
  refine lv_iload_n hx hb dX6_leaks_5 rfl (lv_at hl 2 rfl) ?_
  refine nw_Vi (As := [.int (p1), .int (p2)]) (rest := []) (q0 := 0) X (c_X5_leak lc G (z) (n) (cu) (bg) (M) (er) (us) ((p1)) ((p2)) (by first | assumption | omega)) (cwV 2 hts gX6_leaks_X5_leak rfl rfl rfl (by decide +kernel) ⟨Nat.le_of_ble_eq_true rfl, Nat.le_of_ble_eq_true rfl⟩) rfl (show vwCl[4]? = some (RX5, TX5, 7) from rfl) (nwSp.gen ((wN (b) (z 0) (v 0) (li 0) (st 0) (d 0)) ++ ((wV G (v) (z 0) (nv) (fr) (tt) (zl) (ld) (gk) (ut)))) ((wZ G (z) (n) (cu) (bg) (M) (er) (us))) ((wL G (li) (ML)) ++ ((wS G (st) (ns) (w) (MS)) ++ ((wD G (d) (nd) (lo) (ho) (rk))))) (f := fun q9 => (wN (b) (z 0) (v 0) (li 0) (st 0) (d 0)) ++ ((wV G (v) (z 0) (nv) (fr) (tt) (zl) (ld) (gk) (ut)) ++ (q9 ++ ((wL G (li) (ML)) ++ ((wS G (st) (ns) (w) (MS)) ++ ((wD G (d) (nd) (lo) (ho) (rk)))))))) (by simp only [List.append_assoc, List.nil_append, List.append_nil]) (fun q9 => by simp only [List.append_assoc, List.nil_append, List.append_nil])) hP hD hS hA rfl hl.1 rfl (Nat.le_of_ble_eq_true rfl) dX6_leaks_6 ⟨Nat.le_of_ble_eq_true rfl, Nat.le_of_ble_eq_true rfl⟩ (fun r w H locs hp_1 hP hD hS => ?_)
  obtain ⟨rfl, rfl⟩ := hp_1
  have hP : va_P G.1 vwCl ((wN (b) (z 0) (v 0) (li 0) (st 0) (d 0)) ++ ((wV G (v) (z 0) (nv) (fr) (tt) (zl) (ld) (gk) (ut)) ++ ((wZ G (z) (n) (cu) (bg) (M) (er) (us)) ++ ((wL G (li) (ML)) ++ ((wS G (st) (ns) (w) (MS)) ++ ((wD G (d) (nd) (lo) (ho) (rk)))))))) H := hP
  have hD : va_D vA ((wN (b) (z 0) (v 0) (li 0) (st 0) (d 0)) ++ ((wV G (v) (z 0) (nv) (fr) (tt) (zl) (ld) (gk) (ut)) ++ ((wZ G (z) (n) (cu) (bg) (M) (er) (us)) ++ ((wL G (li) (ML)) ++ ((wS G (st) (ns) (w) (MS)) ++ ((wD G (d) (nd) (lo) (ho) (rk)))))))) := hD
  exact nw_iret (rm := ({ frames := 4, cells := 0, slots := 0, locals := 91 } : Room)) X hP hD hS (⟨rfl, rfl⟩) dX6_leaks_9
set_option maxHeartbeats 4000000 in
set_option maxRecDepth 100000 in
theorem c_X6_valve (lc : Launch) (G : nwG) (b : Nat) (v z li st d : Nat → Nat) (nv : Nat) (fr tt : Nat → Nat) (zl : Nat → Int32) (ld : Nat → Nat) (gk ut : Nat → Int32) (n : Nat) (cu bg : Nat → Int32) (M : Nat → Nat → Int32) (er us : Int32) (ML : Nat → Nat → Int32) (ns : Nat) (w : Nat → Nat) (MS : Nat → Nat → Int32) (nd : Nat) (lo ho : Nat → Int32) (rk : Nat → Nat) (p1 : Int32) (p2 : Int32)  (hn : n ≤ 8) (hnv : nv ≤ 12) : nwCi lc G yX6_valve wsX6_valve ({ frames := 3, cells := 0, slots := 0, locals := 65 } : Room) [.ref (b), .int (p1), .int (p2)] ((wN (b) (z 0) (v 0) (li 0) (st 0) (d 0)) ++ ((wV G (v) (z 0) (nv) (fr) (tt) (zl) (ld) (gk) (ut)) ++ ((wZ G (z) (n) (cu) (bg) (M) (er) (us)) ++ ((wL G (li) (ML)) ++ ((wS G (st) (ns) (w) (MS)) ++ ((wD G (d) (nd) (lo) (ho) (rk)))))))) (fun r ww => r = valveF n nv p1 p2 ∧ ww = (wN (b) (z 0) (v 0) (li 0) (st 0) (d 0)) ++ ((wV G (v) (z 0) (nwIf (valveOk n nv p1 p2) (nv + 1) nv) (nwIf (valveOk n nv p1 p2) (va_up fr nv (p1).toNatClampNeg) fr) (nwIf (valveOk n nv p1 p2) (va_up tt nv (p2).toNatClampNeg) tt) (zl) (ld) (gk) (ut)) ++ ((wZ G (z) (n) (cu) (bg) (M) (er) (us)) ++ ((wL G (li) (ML)) ++ ((wS G (st) (ns) (w) (MS)) ++ ((wD G (d) (nd) (lo) (ho) (rk)))))))) := by
  refine nw_of (cc := cX6_valve) (maxL := 3) (ret := (some .int)) (by decide) rfl (Nat.le_of_ble_eq_true rfl) ?_
  intro vp ve vs vm vb vt vc vA ls X hP hD hA hS hl
  have X : nwAt vp vm vc cX6_valve 3 vs _ wsX6_valve RX6 vt (some .int) "valve" G := X
  have hx := X.1.1
  have hb := X.1.2.1
  have hown := X.1.2.2.2.1
  have hts := X.1.2.2.2.2
  have hK := X.2.2.2.2
  have hl : lv_has ls 3 [(0, .ref (b)), (1, .int (p1)), (2, .int (p2))] := hl
  refine lv_aload_n hx hb dX6_valve_0 rfl (lv_at hl 0 rfl) ?_
  refine va_get (D := G.1) (ci := 5) (v := .ref (v 0)) (C := RX6) (T := TX6) (N := 5) hx hb hts in_X6_valve_X6 hown hK.1 hP 0 rfl rfl 1 (by decide) (hts (.fieldLink RX6 21 "NightWater" "valves" "LNightWater$Valves;") (List.mem_of_getElem? (i := 1) rfl)) (fun _ h9 => h9) rfl dX6_valve_1 ?_
  refine lv_iload_n hx hb dX6_valve_4 rfl (lv_at hl 1 rfl) ?_
  refine lv_iload_n hx hb dX6_valve_5 rfl (lv_at hl 2 rfl) ?_
  refine nw_Vi (As := [.int (p1), .int (p2)]) (rest := []) (q0 := 0) X (c_X4_add lc G (v) (nv) (fr) (tt) (zl) (ld) (gk) (ut) (z) (n) (cu) (bg) (M) (er) (us) ((p1)) ((p2)) (by first | assumption | omega) (by first | assumption | omega)) (cwV 2 hts gX6_valve_X4_add rfl rfl rfl (by decide +kernel) ⟨Nat.le_of_ble_eq_true rfl, Nat.le_of_ble_eq_true rfl⟩) rfl (show vwCl[3]? = some (RX4, TX4, 8) from rfl) (nwSp.gen ((wN (b) (z 0) (v 0) (li 0) (st 0) (d 0))) ((wV G (v) (z 0) (nv) (fr) (tt) (zl) (ld) (gk) (ut)) ++ ((wZ G (z) (n) (cu) (bg) (M) (er) (us)))) ((wL G (li) (ML)) ++ ((wS G (st) (ns) (w) (MS)) ++ ((wD G (d) (nd) (lo) (ho) (rk))))) (f := fun q9 => (wN (b) (z 0) (v 0) (li 0) (st 0) (d 0)) ++ (q9 ++ ((wL G (li) (ML)) ++ ((wS G (st) (ns) (w) (MS)) ++ ((wD G (d) (nd) (lo) (ho) (rk))))))) (by simp only [List.append_assoc, List.nil_append, List.append_nil]) (fun q9 => by simp only [List.append_assoc, List.nil_append, List.append_nil])) hP hD hS hA rfl hl.1 rfl (Nat.le_of_ble_eq_true rfl) dX6_valve_6 ⟨Nat.le_of_ble_eq_true rfl, Nat.le_of_ble_eq_true rfl⟩ (fun r w H locs hp_1 hP hD hS => ?_)
  obtain ⟨rfl, rfl⟩ := hp_1
  simp only [List.append_assoc] at hP hD
  have hP : va_P G.1 vwCl ((wN (b) (z 0) (v 0) (li 0) (st 0) (d 0)) ++ ((wV G (v) (z 0) (nwIf (valveOk n nv ((p1)) ((p2))) (nv + 1) nv) (nwIf (valveOk n nv ((p1)) ((p2))) (va_up fr nv (((p1))).toNatClampNeg) fr) (nwIf (valveOk n nv ((p1)) ((p2))) (va_up tt nv (((p2))).toNatClampNeg) tt) (zl) (ld) (gk) (ut)) ++ ((wZ G (z) (n) (cu) (bg) (M) (er) (us)) ++ ((wL G (li) (ML)) ++ ((wS G (st) (ns) (w) (MS)) ++ ((wD G (d) (nd) (lo) (ho) (rk)))))))) H := hP
  have hD : va_D vA ((wN (b) (z 0) (v 0) (li 0) (st 0) (d 0)) ++ ((wV G (v) (z 0) (nwIf (valveOk n nv ((p1)) ((p2))) (nv + 1) nv) (nwIf (valveOk n nv ((p1)) ((p2))) (va_up fr nv (((p1))).toNatClampNeg) fr) (nwIf (valveOk n nv ((p1)) ((p2))) (va_up tt nv (((p2))).toNatClampNeg) tt) (zl) (ld) (gk) (ut)) ++ ((wZ G (z) (n) (cu) (bg) (M) (er) (us)) ++ ((wL G (li) (ML)) ++ ((wS G (st) (ns) (w) (MS)) ++ ((wD G (d) (nd) (lo) (ho) (rk)))))))) := hD
  exact nw_iret (rm := ({ frames := 3, cells := 0, slots := 0, locals := 65 } : Room)) X hP hD hS (⟨rfl, rfl⟩) dX6_valve_9
set_option maxHeartbeats 4000000 in
set_option maxRecDepth 100000 in
theorem c_X6_group (lc : Launch) (G : nwG) (b : Nat) (v z li st d : Nat → Nat) (nv : Nat) (fr tt : Nat → Nat) (zl : Nat → Int32) (ld : Nat → Nat) (gk ut : Nat → Int32) (n : Nat) (cu bg : Nat → Int32) (M : Nat → Nat → Int32) (er us : Int32) (ML : Nat → Nat → Int32) (ns : Nat) (w : Nat → Nat) (MS : Nat → Nat → Int32) (nd : Nat) (lo ho : Nat → Int32) (rk : Nat → Nat) (p1 : Int32) (p2 : Int32)  (hn : n ≤ 8) (hnv : nv ≤ 12) (hf : ∀ i, i < nv → fr i < n ∧ tt i < n) (hld : ∀ j, ld j < 8) : nwCi lc G yX6_group wsX6_group ({ frames := 4, cells := 0, slots := 0, locals := 93 } : Room) [.ref (b), .int (p1), .int (p2)] ((wN (b) (z 0) (v 0) (li 0) (st 0) (d 0)) ++ ((wV G (v) (z 0) (nv) (fr) (tt) (zl) (ld) (gk) (ut)) ++ ((wZ G (z) (n) (cu) (bg) (M) (er) (us)) ++ ((wL G (li) (ML)) ++ ((wS G (st) (ns) (w) (MS)) ++ ((wD G (d) (nd) (lo) (ho) (rk)))))))) (fun r ww => ∃ ldv : Nat → Nat, (∀ j, ldv j < 8) ∧ r = groupF n nv fr tt p1 p2 ∧ ww = (wN (b) (z 0) (v 0) (li 0) (st 0) (d 0)) ++ ((wV G (v) (z 0) (nv) (fr) (tt) (zl) (ldv) (gk) (ut)) ++ ((wZ G (z) (n) (cu) (bg) (M) (er) (us)) ++ ((wL G (li) (ML)) ++ ((wS G (st) (ns) (w) (MS)) ++ ((wD G (d) (nd) (lo) (ho) (rk)))))))) := by
  refine nw_of (cc := cX6_group) (maxL := 3) (ret := (some .int)) (by decide) rfl (Nat.le_of_ble_eq_true rfl) ?_
  intro vp ve vs vm vb vt vc vA ls X hP hD hA hS hl
  have X : nwAt vp vm vc cX6_group 3 vs _ wsX6_group RX6 vt (some .int) "group" G := X
  have hx := X.1.1
  have hb := X.1.2.1
  have hown := X.1.2.2.2.1
  have hts := X.1.2.2.2.2
  have hK := X.2.2.2.2
  have hl : lv_has ls 3 [(0, .ref (b)), (1, .int (p1)), (2, .int (p2))] := hl
  refine lv_aload_n hx hb dX6_group_0 rfl (lv_at hl 0 rfl) ?_
  refine va_get (D := G.1) (ci := 5) (v := .ref (v 0)) (C := RX6) (T := TX6) (N := 5) hx hb hts in_X6_group_X6 hown hK.1 hP 0 rfl rfl 1 (by decide) (hts (Cond.fieldLink RX6 21 "NightWater" "valves" "LNightWater$Valves;") (List.mem_of_getElem? (i := 1) rfl)) (fun _ h9 => h9) rfl dX6_group_1 ?_
  refine lv_iload_n hx hb dX6_group_4 rfl (lv_at hl 1 rfl) ?_
  refine lv_iload_n hx hb dX6_group_5 rfl (lv_at hl 2 rfl) ?_
  refine nw_Vi (As := [.int (p1), .int (p2)]) (rest := []) (q0 := 0) X (c_X4_leastOfGroup lc G (v) (nv) (fr) (tt) (zl) (ld) (gk) (ut) (z) (n) (cu) (bg) (M) (er) (us) ((p1)) ((p2)) (by first | assumption | omega) (by first | assumption | omega) (by first | assumption | omega) (by first | assumption | omega)) (cwV 2 hts gX6_group_X4_leastOfGroup rfl rfl rfl (by decide +kernel) ⟨Nat.le_of_ble_eq_true rfl, Nat.le_of_ble_eq_true rfl⟩) rfl (show vwCl[3]? = some (RX4, TX4, 8) from rfl) (nwSp.gen ((wN (b) (z 0) (v 0) (li 0) (st 0) (d 0))) ((wV G (v) (z 0) (nv) (fr) (tt) (zl) (ld) (gk) (ut)) ++ ((wZ G (z) (n) (cu) (bg) (M) (er) (us)))) ((wL G (li) (ML)) ++ ((wS G (st) (ns) (w) (MS)) ++ ((wD G (d) (nd) (lo) (ho) (rk))))) (f := fun q9 => (wN (b) (z 0) (v 0) (li 0) (st 0) (d 0)) ++ (q9 ++ ((wL G (li) (ML)) ++ ((wS G (st) (ns) (w) (MS)) ++ ((wD G (d) (nd) (lo) (ho) (rk))))))) (by simp only [List.append_assoc, List.nil_append, List.append_nil]) (fun q9 => by simp only [List.append_assoc, List.nil_append, List.append_nil])) hP hD hS hA rfl hl.1 rfl (Nat.le_of_ble_eq_true rfl) dX6_group_6 ⟨Nat.le_of_ble_eq_true rfl, Nat.le_of_ble_eq_true rfl⟩ (fun r w H locs hp_1 hP hD hS => ?_)
  obtain ⟨ldv_2, hldv_3, rfl, rfl⟩ := hp_1
  simp only [List.append_assoc] at hP hD
  have hP : va_P G.1 vwCl ((wN (b) (z 0) (v 0) (li 0) (st 0) (d 0)) ++ ((wV G (v) (z 0) (nv) (fr) (tt) (zl) (ldv_2) (gk) (ut)) ++ ((wZ G (z) (n) (cu) (bg) (M) (er) (us)) ++ ((wL G (li) (ML)) ++ ((wS G (st) (ns) (w) (MS)) ++ ((wD G (d) (nd) (lo) (ho) (rk)))))))) H := hP
  have hD : va_D vA ((wN (b) (z 0) (v 0) (li 0) (st 0) (d 0)) ++ ((wV G (v) (z 0) (nv) (fr) (tt) (zl) (ldv_2) (gk) (ut)) ++ ((wZ G (z) (n) (cu) (bg) (M) (er) (us)) ++ ((wL G (li) (ML)) ++ ((wS G (st) (ns) (w) (MS)) ++ ((wD G (d) (nd) (lo) (ho) (rk)))))))) := hD
  exact nw_iret (rm := ({ frames := 4, cells := 0, slots := 0, locals := 93 } : Room)) X hP hD hS (⟨ldv_2, hldv_3, rfl, rfl⟩) dX6_group_9
set_option maxHeartbeats 4000000 in
set_option maxRecDepth 100000 in
theorem c_X6_explains (lc : Launch) (G : nwG) (b : Nat) (v z li st d : Nat → Nat) (nv : Nat) (fr tt : Nat → Nat) (zl : Nat → Int32) (ld : Nat → Nat) (gk ut : Nat → Int32) (n : Nat) (cu bg : Nat → Int32) (M : Nat → Nat → Int32) (er us : Int32) (ML : Nat → Nat → Int32) (ns : Nat) (w : Nat → Nat) (MS : Nat → Nat → Int32) (nd : Nat) (lo ho : Nat → Int32) (rk : Nat → Nat) (p1 : Int32)  (hn : n ≤ 8) (hnv : nv ≤ 12) (hf : ∀ i, i < nv → fr i < n ∧ tt i < n) (hld : ∀ j, ld j < 8) : nwCi lc G yX6_explains wsX6_explains ({ frames := 6, cells := 0, slots := 0, locals := 133 } : Room) [.ref (b), .int (p1)] ((wN (b) (z 0) (v 0) (li 0) (st 0) (d 0)) ++ ((wV G (v) (z 0) (nv) (fr) (tt) (zl) (ld) (gk) (ut)) ++ ((wZ G (z) (n) (cu) (bg) (M) (er) (us)) ++ ((wL G (li) (ML)) ++ ((wS G (st) (ns) (w) (MS)) ++ ((wD G (d) (nd) (lo) (ho) (rk)))))))) (fun r ww => ∃ zlv : Nat → Int32, ∃ ldv : Nat → Nat, ∃ gkv : Nat → Int32, ∃ utv : Nat → Int32, (∀ j, ldv j < 8) ∧ r = explF n nv fr tt (lk1 cu bg M er us) p1 ∧ ww = (wN (b) (z 0) (v 0) (li 0) (st 0) (d 0)) ++ ((wV G (v) (z 0) (nv) (fr) (tt) (zlv) (ldv) (gkv) (utv)) ++ ((wZ G (z) (n) (cu) (bg) (M) (er) (us)) ++ ((wL G (li) (ML)) ++ ((wS G (st) (ns) (w) (MS)) ++ ((wD G (d) (nd) (lo) (ho) (rk)))))))) := by
  refine nw_of (cc := cX6_explains) (maxL := 2) (ret := (some .int)) (by decide) rfl (Nat.le_of_ble_eq_true rfl) ?_
  intro vp ve vs vm vb vt vc vA ls X hP hD hA hS hl
  have X : nwAt vp vm vc cX6_explains 2 vs _ wsX6_explains RX6 vt (some .int) "explains" G := X
  have hx := X.1.1
  have hb := X.1.2.1
  have hown := X.1.2.2.2.1
  have hts := X.1.2.2.2.2
  have hK := X.2.2.2.2
  have hl : lv_has ls 2 [(0, .ref (b)), (1, .int (p1))] := hl
  refine lv_aload_n hx hb dX6_explains_0 rfl (lv_at hl 0 rfl) ?_
  refine va_get (D := G.1) (ci := 5) (v := .ref (v 0)) (C := RX6) (T := TX6) (N := 5) hx hb hts in_X6_explains_X6 hown hK.1 hP 0 rfl rfl 1 (by decide) (hts (Cond.fieldLink RX6 21 "NightWater" "valves" "LNightWater$Valves;") (List.mem_of_getElem? (i := 1) rfl)) (fun _ h9 => h9) rfl dX6_explains_1 ?_
  refine lv_iload_n hx hb dX6_explains_4 rfl (lv_at hl 1 rfl) ?_
  refine nw_Vi (As := [.int (p1)]) (rest := []) (q0 := 0) X (c_X4_answerExplains lc G (v) (nv) (fr) (tt) (zl) (ld) (gk) (ut) (z) (n) (cu) (bg) (M) (er) (us) ((p1)) (by first | assumption | omega) (by first | assumption | omega) (by first | assumption | omega) (by first | assumption | omega)) (cwV 1 hts gX6_explains_X4_answerExplains rfl rfl rfl (by decide +kernel) ⟨Nat.le_of_ble_eq_true rfl, Nat.le_of_ble_eq_true rfl⟩) rfl (show vwCl[3]? = some (RX4, TX4, 8) from rfl) (nwSp.gen ((wN (b) (z 0) (v 0) (li 0) (st 0) (d 0))) ((wV G (v) (z 0) (nv) (fr) (tt) (zl) (ld) (gk) (ut)) ++ ((wZ G (z) (n) (cu) (bg) (M) (er) (us)))) ((wL G (li) (ML)) ++ ((wS G (st) (ns) (w) (MS)) ++ ((wD G (d) (nd) (lo) (ho) (rk))))) (f := fun q9 => (wN (b) (z 0) (v 0) (li 0) (st 0) (d 0)) ++ (q9 ++ ((wL G (li) (ML)) ++ ((wS G (st) (ns) (w) (MS)) ++ ((wD G (d) (nd) (lo) (ho) (rk))))))) (by simp only [List.append_assoc, List.nil_append, List.append_nil]) (fun q9 => by simp only [List.append_assoc, List.nil_append, List.append_nil])) hP hD hS hA rfl hl.1 rfl (Nat.le_of_ble_eq_true rfl) dX6_explains_5 ⟨Nat.le_of_ble_eq_true rfl, Nat.le_of_ble_eq_true rfl⟩ (fun r w H locs hp_1 hP hD hS => ?_)
  obtain ⟨zlv_2, ldv_3, gkv_4, utv_5, hldv_6, rfl, rfl⟩ := hp_1
  simp only [List.append_assoc] at hP hD
  have hP : va_P G.1 vwCl ((wN (b) (z 0) (v 0) (li 0) (st 0) (d 0)) ++ ((wV G (v) (z 0) (nv) (fr) (tt) (zlv_2) (ldv_3) (gkv_4) (utv_5)) ++ ((wZ G (z) (n) (cu) (bg) (M) (er) (us)) ++ ((wL G (li) (ML)) ++ ((wS G (st) (ns) (w) (MS)) ++ ((wD G (d) (nd) (lo) (ho) (rk)))))))) H := hP
  have hD : va_D vA ((wN (b) (z 0) (v 0) (li 0) (st 0) (d 0)) ++ ((wV G (v) (z 0) (nv) (fr) (tt) (zlv_2) (ldv_3) (gkv_4) (utv_5)) ++ ((wZ G (z) (n) (cu) (bg) (M) (er) (us)) ++ ((wL G (li) (ML)) ++ ((wS G (st) (ns) (w) (MS)) ++ ((wD G (d) (nd) (lo) (ho) (rk)))))))) := hD
  exact nw_iret (rm := ({ frames := 6, cells := 0, slots := 0, locals := 133 } : Room)) X hP hD hS (⟨zlv_2, ldv_3, gkv_4, utv_5, hldv_6, rfl, rfl⟩) dX6_explains_8
set_option maxHeartbeats 4000000 in
set_option maxRecDepth 100000 in
theorem c_X6_fewest (lc : Launch) (G : nwG) (b : Nat) (v z li st d : Nat → Nat) (nv : Nat) (fr tt : Nat → Nat) (zl : Nat → Int32) (ld : Nat → Nat) (gk ut : Nat → Int32) (n : Nat) (cu bg : Nat → Int32) (M : Nat → Nat → Int32) (er us : Int32) (ML : Nat → Nat → Int32) (ns : Nat) (w : Nat → Nat) (MS : Nat → Nat → Int32) (nd : Nat) (lo ho : Nat → Int32) (rk : Nat → Nat)  (hn : n ≤ 8) (hnv : nv ≤ 12) (hf : ∀ i, i < nv → fr i < n ∧ tt i < n) (hld : ∀ j, ld j < 8) (hbd : bnd n (lk1 cu bg M er us)) : nwCi lc G yX6_fewest wsX6_fewest ({ frames := 6, cells := 0, slots := 0, locals := 135 } : Room) [.ref (b)] ((wN (b) (z 0) (v 0) (li 0) (st 0) (d 0)) ++ ((wV G (v) (z 0) (nv) (fr) (tt) (zl) (ld) (gk) (ut)) ++ ((wZ G (z) (n) (cu) (bg) (M) (er) (us)) ++ ((wL G (li) (ML)) ++ ((wS G (st) (ns) (w) (MS)) ++ ((wD G (d) (nd) (lo) (ho) (rk)))))))) (fun r ww => ∃ zlv : Nat → Int32, ∃ ldv : Nat → Nat, ∃ gkv : Nat → Int32, ∃ utv : Nat → Int32, (∀ j, ldv j < 8) ∧ r = fewF n nv fr tt (lk1 cu bg M er us) ∧ ww = (wN (b) (z 0) (v 0) (li 0) (st 0) (d 0)) ++ ((wV G (v) (z 0) (nv) (fr) (tt) (zlv) (ldv) (gkv) (utv)) ++ ((wZ G (z) (n) (cu) (bg) (M) (er) (us)) ++ ((wL G (li) (ML)) ++ ((wS G (st) (ns) (w) (MS)) ++ ((wD G (d) (nd) (lo) (ho) (rk)))))))) := by
  refine nw_of (cc := cX6_fewest) (maxL := 1) (ret := (some .int)) (by decide) rfl (Nat.le_of_ble_eq_true rfl) ?_
  intro vp ve vs vm vb vt vc vA ls X hP hD hA hS hl
  have X : nwAt vp vm vc cX6_fewest 1 vs _ wsX6_fewest RX6 vt (some .int) "fewest" G := X
  have hx := X.1.1
  have hb := X.1.2.1
  have hown := X.1.2.2.2.1
  have hts := X.1.2.2.2.2
  have hK := X.2.2.2.2
  have hl : lv_has ls 1 [(0, .ref (b))] := hl
  refine lv_aload_n hx hb dX6_fewest_0 rfl (lv_at hl 0 rfl) ?_
  refine va_get (D := G.1) (ci := 5) (v := .ref (v 0)) (C := RX6) (T := TX6) (N := 5) hx hb hts in_X6_fewest_X6 hown hK.1 hP 0 rfl rfl 1 (by decide) (hts (Cond.fieldLink RX6 21 "NightWater" "valves" "LNightWater$Valves;") (List.mem_of_getElem? (i := 1) rfl)) (fun _ h9 => h9) rfl dX6_fewest_1 ?_
  refine nw_Vi (As := []) (rest := []) (q0 := 0) X (c_X4_fewestSet lc G (v) (nv) (fr) (tt) (zl) (ld) (gk) (ut) (z) (n) (cu) (bg) (M) (er) (us) (by first | assumption | omega) (by first | assumption | omega) (by first | assumption | omega) (by first | assumption | omega) (by first | assumption | omega)) (cwV 0 hts gX6_fewest_X4_fewestSet rfl rfl rfl (by decide +kernel) ⟨Nat.le_of_ble_eq_true rfl, Nat.le_of_ble_eq_true rfl⟩) rfl (show vwCl[3]? = some (RX4, TX4, 8) from rfl) (nwSp.gen ((wN (b) (z 0) (v 0) (li 0) (st 0) (d 0))) ((wV G (v) (z 0) (nv) (fr) (tt) (zl) (ld) (gk) (ut)) ++ ((wZ G (z) (n) (cu) (bg) (M) (er) (us)))) ((wL G (li) (ML)) ++ ((wS G (st) (ns) (w) (MS)) ++ ((wD G (d) (nd) (lo) (ho) (rk))))) (f := fun q9 => (wN (b) (z 0) (v 0) (li 0) (st 0) (d 0)) ++ (q9 ++ ((wL G (li) (ML)) ++ ((wS G (st) (ns) (w) (MS)) ++ ((wD G (d) (nd) (lo) (ho) (rk))))))) (by simp only [List.append_assoc, List.nil_append, List.append_nil]) (fun q9 => by simp only [List.append_assoc, List.nil_append, List.append_nil])) hP hD hS hA rfl hl.1 rfl (Nat.le_of_ble_eq_true rfl) dX6_fewest_4 ⟨Nat.le_of_ble_eq_true rfl, Nat.le_of_ble_eq_true rfl⟩ (fun r w H locs hp_1 hP hD hS => ?_)
  obtain ⟨zlv_2, ldv_3, gkv_4, utv_5, hldv_6, rfl, rfl⟩ := hp_1
  simp only [List.append_assoc] at hP hD
  have hP : va_P G.1 vwCl ((wN (b) (z 0) (v 0) (li 0) (st 0) (d 0)) ++ ((wV G (v) (z 0) (nv) (fr) (tt) (zlv_2) (ldv_3) (gkv_4) (utv_5)) ++ ((wZ G (z) (n) (cu) (bg) (M) (er) (us)) ++ ((wL G (li) (ML)) ++ ((wS G (st) (ns) (w) (MS)) ++ ((wD G (d) (nd) (lo) (ho) (rk)))))))) H := hP
  have hD : va_D vA ((wN (b) (z 0) (v 0) (li 0) (st 0) (d 0)) ++ ((wV G (v) (z 0) (nv) (fr) (tt) (zlv_2) (ldv_3) (gkv_4) (utv_5)) ++ ((wZ G (z) (n) (cu) (bg) (M) (er) (us)) ++ ((wL G (li) (ML)) ++ ((wS G (st) (ns) (w) (MS)) ++ ((wD G (d) (nd) (lo) (ho) (rk)))))))) := hD
  exact nw_iret (rm := ({ frames := 6, cells := 0, slots := 0, locals := 135 } : Room)) X hP hD hS (⟨zlv_2, ldv_3, gkv_4, utv_5, hldv_6, rfl, rfl⟩) dX6_fewest_7
set_option maxHeartbeats 4000000 in
set_option maxRecDepth 100000 in
theorem c_X6_sample (lc : Launch) (G : nwG) (b : Nat) (v z li st d : Nat → Nat) (nv : Nat) (fr tt : Nat → Nat) (zl : Nat → Int32) (ld : Nat → Nat) (gk ut : Nat → Int32) (n : Nat) (cu bg : Nat → Int32) (M : Nat → Nat → Int32) (er us : Int32) (ML : Nat → Nat → Int32) (ns : Nat) (w : Nat → Nat) (MS : Nat → Nat → Int32) (nd : Nat) (lo ho : Nat → Int32) (rk : Nat → Nat) (p1 : Int32) (p2 : Int32) (p3 : Int32)   : nwCi lc G yX6_sample wsX6_sample ({ frames := 2, cells := 0, slots := 0, locals := 45 } : Room) [.ref (b), .int (p1), .int (p2), .int (p3)] ((wN (b) (z 0) (v 0) (li 0) (st 0) (d 0)) ++ ((wV G (v) (z 0) (nv) (fr) (tt) (zl) (ld) (gk) (ut)) ++ ((wZ G (z) (n) (cu) (bg) (M) (er) (us)) ++ ((wL G (li) (ML)) ++ ((wS G (st) (ns) (w) (MS)) ++ ((wD G (d) (nd) (lo) (ho) (rk)))))))) (fun r ww => r = nwIf (sampOk p1 p2 p3) 1 (-2) ∧ ww = (wN (b) (z 0) (v 0) (li 0) (st 0) (d 0)) ++ ((wV G (v) (z 0) (nv) (fr) (tt) (zl) (ld) (gk) (ut)) ++ ((wZ G (z) (n) (cu) (bg) (M) (er) (us)) ++ ((wL G (li) (nwIf (sampOk p1 p2 p3) (nwU2 ML (p1).toNatClampNeg (p2).toNatClampNeg p3) ML)) ++ ((wS G (st) (ns) (w) (MS)) ++ ((wD G (d) (nd) (lo) (ho) (rk)))))))) := by
  refine nw_of (cc := cX6_sample) (maxL := 4) (ret := (some .int)) (by decide) rfl (Nat.le_of_ble_eq_true rfl) ?_
  intro vp ve vs vm vb vt vc vA ls X hP hD hA hS hl
  have X : nwAt vp vm vc cX6_sample 4 vs _ wsX6_sample RX6 vt (some .int) "sample" G := X
  have hx := X.1.1
  have hb := X.1.2.1
  have hown := X.1.2.2.2.1
  have hts := X.1.2.2.2.2
  have hK := X.2.2.2.2
  have hl : lv_has ls 4 [(0, .ref (b)), (1, .int (p1)), (2, .int (p2)), (3, .int (p3))] := hl
  refine lv_aload_n hx hb dX6_sample_0 rfl (lv_at hl 0 rfl) ?_
  refine va_get (D := G.1) (ci := 5) (v := .ref (li 0)) (C := RX6) (T := TX6) (N := 5) hx hb hts in_X6_sample_X6 hown hK.1 hP 0 rfl rfl 2 (by decide) (hts (.fieldLink RX6 28 "NightWater" "listeners" "LNightWater$Listeners;") (List.mem_of_getElem? (i := 1) rfl)) (fun _ h9 => h9) rfl dX6_sample_1 ?_
  refine lv_iload_n hx hb dX6_sample_4 rfl (lv_at hl 1 rfl) ?_
  refine lv_iload_n hx hb dX6_sample_5 rfl (lv_at hl 2 rfl) ?_
  refine lv_iload_n hx hb dX6_sample_6 rfl (lv_at hl 3 rfl) ?_
  refine nw_Vi (As := [.int (p1), .int (p2), .int (p3)]) (rest := []) (q0 := 0) X (c_X1_setSample lc G (li) (ML) ((p1)) ((p2)) ((p3)) ) (cwV 3 hts gX6_sample_X1_setSample rfl rfl rfl (by decide +kernel) ⟨Nat.le_of_ble_eq_true rfl, Nat.le_of_ble_eq_true rfl⟩) rfl (show vwCl[1]? = some (RX1, TX1, 1) from rfl) (nwSp.gen ((wN (b) (z 0) (v 0) (li 0) (st 0) (d 0)) ++ ((wV G (v) (z 0) (nv) (fr) (tt) (zl) (ld) (gk) (ut)) ++ ((wZ G (z) (n) (cu) (bg) (M) (er) (us))))) ((wL G (li) (ML))) ((wS G (st) (ns) (w) (MS)) ++ ((wD G (d) (nd) (lo) (ho) (rk)))) (f := fun q9 => (wN (b) (z 0) (v 0) (li 0) (st 0) (d 0)) ++ ((wV G (v) (z 0) (nv) (fr) (tt) (zl) (ld) (gk) (ut)) ++ ((wZ G (z) (n) (cu) (bg) (M) (er) (us)) ++ (q9 ++ ((wS G (st) (ns) (w) (MS)) ++ ((wD G (d) (nd) (lo) (ho) (rk)))))))) (by simp only [List.append_assoc, List.nil_append, List.append_nil]) (fun q9 => by simp only [List.append_assoc, List.nil_append, List.append_nil])) hP hD hS hA rfl hl.1 rfl (Nat.le_of_ble_eq_true rfl) dX6_sample_7 ⟨Nat.le_of_ble_eq_true rfl, Nat.le_of_ble_eq_true rfl⟩ (fun r w H locs hp_1 hP hD hS => ?_)
  obtain ⟨rfl, rfl⟩ := hp_1
  have hP : va_P G.1 vwCl ((wN (b) (z 0) (v 0) (li 0) (st 0) (d 0)) ++ ((wV G (v) (z 0) (nv) (fr) (tt) (zl) (ld) (gk) (ut)) ++ ((wZ G (z) (n) (cu) (bg) (M) (er) (us)) ++ ((wL G (li) (nwIf (sampOk ((p1)) ((p2)) ((p3))) (nwU2 ML (((p1))).toNatClampNeg (((p2))).toNatClampNeg ((p3))) ML)) ++ ((wS G (st) (ns) (w) (MS)) ++ ((wD G (d) (nd) (lo) (ho) (rk)))))))) H := hP
  have hD : va_D vA ((wN (b) (z 0) (v 0) (li 0) (st 0) (d 0)) ++ ((wV G (v) (z 0) (nv) (fr) (tt) (zl) (ld) (gk) (ut)) ++ ((wZ G (z) (n) (cu) (bg) (M) (er) (us)) ++ ((wL G (li) (nwIf (sampOk ((p1)) ((p2)) ((p3))) (nwU2 ML (((p1))).toNatClampNeg (((p2))).toNatClampNeg ((p3))) ML)) ++ ((wS G (st) (ns) (w) (MS)) ++ ((wD G (d) (nd) (lo) (ho) (rk)))))))) := hD
  exact nw_iret (rm := ({ frames := 2, cells := 0, slots := 0, locals := 45 } : Room)) X hP hD hS (⟨rfl, rfl⟩) dX6_sample_10
set_option maxHeartbeats 4000000 in
set_option maxRecDepth 100000 in
theorem c_X6_echo (lc : Launch) (G : nwG) (b : Nat) (v z li st d : Nat → Nat) (nv : Nat) (fr tt : Nat → Nat) (zl : Nat → Int32) (ld : Nat → Nat) (gk ut : Nat → Int32) (n : Nat) (cu bg : Nat → Int32) (M : Nat → Nat → Int32) (er us : Int32) (ML : Nat → Nat → Int32) (ns : Nat) (w : Nat → Nat) (MS : Nat → Nat → Int32) (nd : Nat) (lo ho : Nat → Int32) (rk : Nat → Nat) (p1 : Int32) (p2 : Int32) (p3 : Int32) (p4 : Int32)   : nwCi lc G yX6_echo wsX6_echo ({ frames := 2, cells := 0, slots := 0, locals := 47 } : Room) [.ref (b), .int (p1), .int (p2), .int (p3), .int (p4)] ((wN (b) (z 0) (v 0) (li 0) (st 0) (d 0)) ++ ((wV G (v) (z 0) (nv) (fr) (tt) (zl) (ld) (gk) (ut)) ++ ((wZ G (z) (n) (cu) (bg) (M) (er) (us)) ++ ((wL G (li) (ML)) ++ ((wS G (st) (ns) (w) (MS)) ++ ((wD G (d) (nd) (lo) (ho) (rk)))))))) (fun r ww => r = nwIf (echoBad p1 p2 p3 p4) (-2) 1 ∧ ww = (wN (b) (z 0) (v 0) (li 0) (st 0) (d 0)) ++ ((wV G (v) (z 0) (nv) (fr) (tt) (zl) (ld) (gk) (ut)) ++ ((wZ G (z) (n) (cu) (bg) (M) (er) (us)) ++ ((wL G (li) (nwIf (echoBad p1 p2 p3 p4) ML (cpF ML (p1).toNatClampNeg (p2).toNatClampNeg (p3).toNatClampNeg (p4).toNatClampNeg))) ++ ((wS G (st) (ns) (w) (MS)) ++ ((wD G (d) (nd) (lo) (ho) (rk)))))))) := by
  refine nw_of (cc := cX6_echo) (maxL := 5) (ret := (some .int)) (by decide) rfl (Nat.le_of_ble_eq_true rfl) ?_
  intro vp ve vs vm vb vt vc vA ls X hP hD hA hS hl
  have X : nwAt vp vm vc cX6_echo 5 vs _ wsX6_echo RX6 vt (some .int) "echo" G := X
  have hx := X.1.1
  have hb := X.1.2.1
  have hown := X.1.2.2.2.1
  have hts := X.1.2.2.2.2
  have hK := X.2.2.2.2
  have hl : lv_has ls 5 [(0, .ref (b)), (1, .int (p1)), (2, .int (p2)), (3, .int (p3)), (4, .int (p4))] := hl
  refine lv_aload_n hx hb dX6_echo_0 rfl (lv_at hl 0 rfl) ?_
  refine va_get (D := G.1) (ci := 5) (v := .ref (li 0)) (C := RX6) (T := TX6) (N := 5) hx hb hts in_X6_echo_X6 hown hK.1 hP 0 rfl rfl 2 (by decide) (hts (.fieldLink RX6 28 "NightWater" "listeners" "LNightWater$Listeners;") (List.mem_of_getElem? (i := 1) rfl)) (fun _ h9 => h9) rfl dX6_echo_1 ?_
  refine lv_iload_n hx hb dX6_echo_4 rfl (lv_at hl 1 rfl) ?_
  refine lv_iload_n hx hb dX6_echo_5 rfl (lv_at hl 2 rfl) ?_
  refine lv_iload_n hx hb dX6_echo_6 rfl (lv_at hl 3 rfl) ?_
  refine lv_iload hx hb dX6_echo_7 (lv_at hl 4 rfl) ?_
  refine nw_Vi (As := [.int (p1), .int (p2), .int (p3), .int (p4)]) (rest := []) (q0 := 0) X (c_X1_copySamples lc G (li) (ML) ((p1)) ((p2)) ((p3)) ((p4)) ) (cwV 4 hts gX6_echo_X1_copySamples rfl rfl rfl (by decide +kernel) ⟨Nat.le_of_ble_eq_true rfl, Nat.le_of_ble_eq_true rfl⟩) rfl (show vwCl[1]? = some (RX1, TX1, 1) from rfl) (nwSp.gen ((wN (b) (z 0) (v 0) (li 0) (st 0) (d 0)) ++ ((wV G (v) (z 0) (nv) (fr) (tt) (zl) (ld) (gk) (ut)) ++ ((wZ G (z) (n) (cu) (bg) (M) (er) (us))))) ((wL G (li) (ML))) ((wS G (st) (ns) (w) (MS)) ++ ((wD G (d) (nd) (lo) (ho) (rk)))) (f := fun q9 => (wN (b) (z 0) (v 0) (li 0) (st 0) (d 0)) ++ ((wV G (v) (z 0) (nv) (fr) (tt) (zl) (ld) (gk) (ut)) ++ ((wZ G (z) (n) (cu) (bg) (M) (er) (us)) ++ (q9 ++ ((wS G (st) (ns) (w) (MS)) ++ ((wD G (d) (nd) (lo) (ho) (rk)))))))) (by simp only [List.append_assoc, List.nil_append, List.append_nil]) (fun q9 => by simp only [List.append_assoc, List.nil_append, List.append_nil])) hP hD hS hA rfl hl.1 rfl (Nat.le_of_ble_eq_true rfl) dX6_echo_9 ⟨Nat.le_of_ble_eq_true rfl, Nat.le_of_ble_eq_true rfl⟩ (fun r w H locs hp_1 hP hD hS => ?_)
  obtain ⟨rfl, rfl⟩ := hp_1
  have hP : va_P G.1 vwCl ((wN (b) (z 0) (v 0) (li 0) (st 0) (d 0)) ++ ((wV G (v) (z 0) (nv) (fr) (tt) (zl) (ld) (gk) (ut)) ++ ((wZ G (z) (n) (cu) (bg) (M) (er) (us)) ++ ((wL G (li) (nwIf (echoBad ((p1)) ((p2)) ((p3)) ((p4))) ML (cpF ML (((p1))).toNatClampNeg (((p2))).toNatClampNeg (((p3))).toNatClampNeg (((p4))).toNatClampNeg))) ++ ((wS G (st) (ns) (w) (MS)) ++ ((wD G (d) (nd) (lo) (ho) (rk)))))))) H := hP
  have hD : va_D vA ((wN (b) (z 0) (v 0) (li 0) (st 0) (d 0)) ++ ((wV G (v) (z 0) (nv) (fr) (tt) (zl) (ld) (gk) (ut)) ++ ((wZ G (z) (n) (cu) (bg) (M) (er) (us)) ++ ((wL G (li) (nwIf (echoBad ((p1)) ((p2)) ((p3)) ((p4))) ML (cpF ML (((p1))).toNatClampNeg (((p2))).toNatClampNeg (((p3))).toNatClampNeg (((p4))).toNatClampNeg))) ++ ((wS G (st) (ns) (w) (MS)) ++ ((wD G (d) (nd) (lo) (ho) (rk)))))))) := hD
  exact nw_iret (rm := ({ frames := 2, cells := 0, slots := 0, locals := 47 } : Room)) X hP hD hS (⟨rfl, rfl⟩) dX6_echo_12
set_option maxHeartbeats 4000000 in
set_option maxRecDepth 100000 in
theorem c_X6_sum (lc : Launch) (G : nwG) (b : Nat) (v z li st d : Nat → Nat) (nv : Nat) (fr tt : Nat → Nat) (zl : Nat → Int32) (ld : Nat → Nat) (gk ut : Nat → Int32) (n : Nat) (cu bg : Nat → Int32) (M : Nat → Nat → Int32) (er us : Int32) (ML : Nat → Nat → Int32) (ns : Nat) (w : Nat → Nat) (MS : Nat → Nat → Int32) (nd : Nat) (lo ho : Nat → Int32) (rk : Nat → Nat) (p1 : Int32) (p2 : Int32)   : nwCi lc G yX6_sum wsX6_sum ({ frames := 4, cells := 0, slots := 0, locals := 89 } : Room) [.ref (b), .int (p1), .int (p2)] ((wN (b) (z 0) (v 0) (li 0) (st 0) (d 0)) ++ ((wV G (v) (z 0) (nv) (fr) (tt) (zl) (ld) (gk) (ut)) ++ ((wZ G (z) (n) (cu) (bg) (M) (er) (us)) ++ ((wL G (li) (ML)) ++ ((wS G (st) (ns) (w) (MS)) ++ ((wD G (d) (nd) (lo) (ho) (rk)))))))) (fun r ww => r = sumPF ML p1 p2 ∧ ww = (wN (b) (z 0) (v 0) (li 0) (st 0) (d 0)) ++ ((wV G (v) (z 0) (nv) (fr) (tt) (zl) (ld) (gk) (ut)) ++ ((wZ G (z) (n) (cu) (bg) (M) (er) (us)) ++ ((wL G (li) (ML)) ++ ((wS G (st) (ns) (w) (MS)) ++ ((wD G (d) (nd) (lo) (ho) (rk)))))))) := by
  refine nw_of (cc := cX6_sum) (maxL := 3) (ret := (some .int)) (by decide) rfl (Nat.le_of_ble_eq_true rfl) ?_
  intro vp ve vs vm vb vt vc vA ls X hP hD hA hS hl
  have X : nwAt vp vm vc cX6_sum 3 vs _ wsX6_sum RX6 vt (some .int) "sum" G := X
  have hx := X.1.1
  have hb := X.1.2.1
  have hown := X.1.2.2.2.1
  have hts := X.1.2.2.2.2
  have hK := X.2.2.2.2
  have hl : lv_has ls 3 [(0, .ref (b)), (1, .int (p1)), (2, .int (p2))] := hl
  refine lv_aload_n hx hb dX6_sum_0 rfl (lv_at hl 0 rfl) ?_
  refine va_get (D := G.1) (ci := 5) (v := .ref (li 0)) (C := RX6) (T := TX6) (N := 5) hx hb hts in_X6_sum_X6 hown hK.1 hP 0 rfl rfl 2 (by decide) (hts (.fieldLink RX6 28 "NightWater" "listeners" "LNightWater$Listeners;") (List.mem_of_getElem? (i := 1) rfl)) (fun _ h9 => h9) rfl dX6_sum_1 ?_
  refine lv_iload_n hx hb dX6_sum_4 rfl (lv_at hl 1 rfl) ?_
  refine lv_iload_n hx hb dX6_sum_5 rfl (lv_at hl 2 rfl) ?_
  refine nw_Vi (As := [.int (p1), .int (p2)]) (rest := []) (q0 := 0) X (c_X1_sumPart lc G (li) (ML) ((p1)) ((p2)) ) (cwV 2 hts gX6_sum_X1_sumPart rfl rfl rfl (by decide +kernel) ⟨Nat.le_of_ble_eq_true rfl, Nat.le_of_ble_eq_true rfl⟩) rfl (show vwCl[1]? = some (RX1, TX1, 1) from rfl) (nwSp.gen ((wN (b) (z 0) (v 0) (li 0) (st 0) (d 0)) ++ ((wV G (v) (z 0) (nv) (fr) (tt) (zl) (ld) (gk) (ut)) ++ ((wZ G (z) (n) (cu) (bg) (M) (er) (us))))) ((wL G (li) (ML))) ((wS G (st) (ns) (w) (MS)) ++ ((wD G (d) (nd) (lo) (ho) (rk)))) (f := fun q9 => (wN (b) (z 0) (v 0) (li 0) (st 0) (d 0)) ++ ((wV G (v) (z 0) (nv) (fr) (tt) (zl) (ld) (gk) (ut)) ++ ((wZ G (z) (n) (cu) (bg) (M) (er) (us)) ++ (q9 ++ ((wS G (st) (ns) (w) (MS)) ++ ((wD G (d) (nd) (lo) (ho) (rk)))))))) (by simp only [List.append_assoc, List.nil_append, List.append_nil]) (fun q9 => by simp only [List.append_assoc, List.nil_append, List.append_nil])) hP hD hS hA rfl hl.1 rfl (Nat.le_of_ble_eq_true rfl) dX6_sum_6 ⟨Nat.le_of_ble_eq_true rfl, Nat.le_of_ble_eq_true rfl⟩ (fun r w H locs hp_1 hP hD hS => ?_)
  obtain ⟨rfl, rfl⟩ := hp_1
  have hP : va_P G.1 vwCl ((wN (b) (z 0) (v 0) (li 0) (st 0) (d 0)) ++ ((wV G (v) (z 0) (nv) (fr) (tt) (zl) (ld) (gk) (ut)) ++ ((wZ G (z) (n) (cu) (bg) (M) (er) (us)) ++ ((wL G (li) (ML)) ++ ((wS G (st) (ns) (w) (MS)) ++ ((wD G (d) (nd) (lo) (ho) (rk)))))))) H := hP
  have hD : va_D vA ((wN (b) (z 0) (v 0) (li 0) (st 0) (d 0)) ++ ((wV G (v) (z 0) (nv) (fr) (tt) (zl) (ld) (gk) (ut)) ++ ((wZ G (z) (n) (cu) (bg) (M) (er) (us)) ++ ((wL G (li) (ML)) ++ ((wS G (st) (ns) (w) (MS)) ++ ((wD G (d) (nd) (lo) (ho) (rk)))))))) := hD
  exact nw_iret (rm := ({ frames := 4, cells := 0, slots := 0, locals := 89 } : Room)) X hP hD hS (⟨rfl, rfl⟩) dX6_sum_9
set_option maxHeartbeats 4000000 in
set_option maxRecDepth 100000 in
theorem c_X6_delay (lc : Launch) (G : nwG) (b : Nat) (v z li st d : Nat → Nat) (nv : Nat) (fr tt : Nat → Nat) (zl : Nat → Int32) (ld : Nat → Nat) (gk ut : Nat → Int32) (n : Nat) (cu bg : Nat → Int32) (M : Nat → Nat → Int32) (er us : Int32) (ML : Nat → Nat → Int32) (ns : Nat) (w : Nat → Nat) (MS : Nat → Nat → Int32) (nd : Nat) (lo ho : Nat → Int32) (rk : Nat → Nat) (p1 : Int32)   : nwCi lc G yX6_delay wsX6_delay ({ frames := 5, cells := 0, slots := 0, locals := 121 } : Room) [.ref (b), .int (p1)] ((wN (b) (z 0) (v 0) (li 0) (st 0) (d 0)) ++ ((wV G (v) (z 0) (nv) (fr) (tt) (zl) (ld) (gk) (ut)) ++ ((wZ G (z) (n) (cu) (bg) (M) (er) (us)) ++ ((wL G (li) (ML)) ++ ((wS G (st) (ns) (w) (MS)) ++ ((wD G (d) (nd) (lo) (ho) (rk)))))))) (fun r ww => r = delayF ML p1 ∧ ww = (wN (b) (z 0) (v 0) (li 0) (st 0) (d 0)) ++ ((wV G (v) (z 0) (nv) (fr) (tt) (zl) (ld) (gk) (ut)) ++ ((wZ G (z) (n) (cu) (bg) (M) (er) (us)) ++ ((wL G (li) (ML)) ++ ((wS G (st) (ns) (w) (MS)) ++ ((wD G (d) (nd) (lo) (ho) (rk)))))))) := by
  refine nw_of (cc := cX6_delay) (maxL := 2) (ret := (some .int)) (by decide) rfl (Nat.le_of_ble_eq_true rfl) ?_
  intro vp ve vs vm vb vt vc vA ls X hP hD hA hS hl
  have X : nwAt vp vm vc cX6_delay 2 vs _ wsX6_delay RX6 vt (some .int) "delay" G := X
  have hx := X.1.1
  have hb := X.1.2.1
  have hown := X.1.2.2.2.1
  have hts := X.1.2.2.2.2
  have hK := X.2.2.2.2
  have hl : lv_has ls 2 [(0, .ref (b)), (1, .int (p1))] := hl
  refine lv_aload_n hx hb dX6_delay_0 rfl (lv_at hl 0 rfl) ?_
  refine va_get (D := G.1) (ci := 5) (v := .ref (li 0)) (C := RX6) (T := TX6) (N := 5) hx hb hts in_X6_delay_X6 hown hK.1 hP 0 rfl rfl 2 (by decide) (hts (Cond.fieldLink RX6 28 "NightWater" "listeners" "LNightWater$Listeners;") (List.mem_of_getElem? (i := 1) rfl)) (fun _ h9 => h9) rfl dX6_delay_1 ?_
  refine lv_iload_n hx hb dX6_delay_4 rfl (lv_at hl 1 rfl) ?_
  refine nw_Vi (As := [.int (p1)]) (rest := []) (q0 := 0) X (c_X1_findDelay lc G (li) (ML) ((p1)) ) (cwV 1 hts gX6_delay_X1_findDelay rfl rfl rfl (by decide +kernel) ⟨Nat.le_of_ble_eq_true rfl, Nat.le_of_ble_eq_true rfl⟩) rfl (show vwCl[1]? = some (RX1, TX1, 1) from rfl) (nwSp.gen ((wN (b) (z 0) (v 0) (li 0) (st 0) (d 0)) ++ ((wV G (v) (z 0) (nv) (fr) (tt) (zl) (ld) (gk) (ut)) ++ ((wZ G (z) (n) (cu) (bg) (M) (er) (us))))) ((wL G (li) (ML))) ((wS G (st) (ns) (w) (MS)) ++ ((wD G (d) (nd) (lo) (ho) (rk)))) (f := fun q9 => (wN (b) (z 0) (v 0) (li 0) (st 0) (d 0)) ++ ((wV G (v) (z 0) (nv) (fr) (tt) (zl) (ld) (gk) (ut)) ++ ((wZ G (z) (n) (cu) (bg) (M) (er) (us)) ++ (q9 ++ ((wS G (st) (ns) (w) (MS)) ++ ((wD G (d) (nd) (lo) (ho) (rk)))))))) (by simp only [List.append_assoc, List.nil_append, List.append_nil]) (fun q9 => by simp only [List.append_assoc, List.nil_append, List.append_nil])) hP hD hS hA rfl hl.1 rfl (Nat.le_of_ble_eq_true rfl) dX6_delay_5 ⟨Nat.le_of_ble_eq_true rfl, Nat.le_of_ble_eq_true rfl⟩ (fun r w H locs hp_1 hP hD hS => ?_)
  obtain ⟨rfl, rfl⟩ := hp_1
  have hP : va_P G.1 vwCl ((wN (b) (z 0) (v 0) (li 0) (st 0) (d 0)) ++ ((wV G (v) (z 0) (nv) (fr) (tt) (zl) (ld) (gk) (ut)) ++ ((wZ G (z) (n) (cu) (bg) (M) (er) (us)) ++ ((wL G (li) (ML)) ++ ((wS G (st) (ns) (w) (MS)) ++ ((wD G (d) (nd) (lo) (ho) (rk)))))))) H := hP
  have hD : va_D vA ((wN (b) (z 0) (v 0) (li 0) (st 0) (d 0)) ++ ((wV G (v) (z 0) (nv) (fr) (tt) (zl) (ld) (gk) (ut)) ++ ((wZ G (z) (n) (cu) (bg) (M) (er) (us)) ++ ((wL G (li) (ML)) ++ ((wS G (st) (ns) (w) (MS)) ++ ((wD G (d) (nd) (lo) (ho) (rk)))))))) := hD
  exact nw_iret (rm := ({ frames := 5, cells := 0, slots := 0, locals := 121 } : Room)) X hP hD hS (⟨rfl, rfl⟩) dX6_delay_8
set_option maxHeartbeats 4000000 in
set_option maxRecDepth 100000 in
theorem c_X6_place (lc : Launch) (G : nwG) (b : Nat) (v z li st d : Nat → Nat) (nv : Nat) (fr tt : Nat → Nat) (zl : Nat → Int32) (ld : Nat → Nat) (gk ut : Nat → Int32) (n : Nat) (cu bg : Nat → Int32) (M : Nat → Nat → Int32) (er us : Int32) (ML : Nat → Nat → Int32) (ns : Nat) (w : Nat → Nat) (MS : Nat → Nat → Int32) (nd : Nat) (lo ho : Nat → Int32) (rk : Nat → Nat) (p1 : Int32) (p2 : Int32) (p3 : Int32) (p4 : Int32)   : nwCi lc G yX6_place wsX6_place ({ frames := 6, cells := 0, slots := 0, locals := 148 } : Room) [.ref (b), .int (p1), .int (p2), .int (p3), .int (p4)] ((wN (b) (z 0) (v 0) (li 0) (st 0) (d 0)) ++ ((wV G (v) (z 0) (nv) (fr) (tt) (zl) (ld) (gk) (ut)) ++ ((wZ G (z) (n) (cu) (bg) (M) (er) (us)) ++ ((wL G (li) (ML)) ++ ((wS G (st) (ns) (w) (MS)) ++ ((wD G (d) (nd) (lo) (ho) (rk)))))))) (fun r ww => r = placeF ML p1 p2 p3 p4 ∧ ww = (wN (b) (z 0) (v 0) (li 0) (st 0) (d 0)) ++ ((wV G (v) (z 0) (nv) (fr) (tt) (zl) (ld) (gk) (ut)) ++ ((wZ G (z) (n) (cu) (bg) (M) (er) (us)) ++ ((wL G (li) (ML)) ++ ((wS G (st) (ns) (w) (MS)) ++ ((wD G (d) (nd) (lo) (ho) (rk)))))))) := by
  refine nw_of (cc := cX6_place) (maxL := 5) (ret := (some .int)) (by decide) rfl (Nat.le_of_ble_eq_true rfl) ?_
  intro vp ve vs vm vb vt vc vA ls X hP hD hA hS hl
  have X : nwAt vp vm vc cX6_place 5 vs _ wsX6_place RX6 vt (some .int) "place" G := X
  have hx := X.1.1
  have hb := X.1.2.1
  have hown := X.1.2.2.2.1
  have hts := X.1.2.2.2.2
  have hK := X.2.2.2.2
  have hl : lv_has ls 5 [(0, .ref (b)), (1, .int (p1)), (2, .int (p2)), (3, .int (p3)), (4, .int (p4))] := hl
  refine lv_aload_n hx hb dX6_place_0 rfl (lv_at hl 0 rfl) ?_
  refine va_get (D := G.1) (ci := 5) (v := .ref (li 0)) (C := RX6) (T := TX6) (N := 5) hx hb hts in_X6_place_X6 hown hK.1 hP 0 rfl rfl 2 (by decide) (hts (Cond.fieldLink RX6 28 "NightWater" "listeners" "LNightWater$Listeners;") (List.mem_of_getElem? (i := 1) rfl)) (fun _ h9 => h9) rfl dX6_place_1 ?_
  refine lv_iload_n hx hb dX6_place_4 rfl (lv_at hl 1 rfl) ?_
  refine lv_iload_n hx hb dX6_place_5 rfl (lv_at hl 2 rfl) ?_
  refine lv_iload_n hx hb dX6_place_6 rfl (lv_at hl 3 rfl) ?_
  refine lv_iload hx hb dX6_place_7 (lv_at hl 4 rfl) ?_
  refine nw_Vi (As := [.int (p1), .int (p2), .int (p3), .int (p4)]) (rest := []) (q0 := 0) X (c_X1_twicePlace lc G (li) (ML) ((p1)) ((p2)) ((p3)) ((p4)) ) (cwV 4 hts gX6_place_X1_twicePlace rfl rfl rfl (by decide +kernel) ⟨Nat.le_of_ble_eq_true rfl, Nat.le_of_ble_eq_true rfl⟩) rfl (show vwCl[1]? = some (RX1, TX1, 1) from rfl) (nwSp.gen ((wN (b) (z 0) (v 0) (li 0) (st 0) (d 0)) ++ ((wV G (v) (z 0) (nv) (fr) (tt) (zl) (ld) (gk) (ut)) ++ ((wZ G (z) (n) (cu) (bg) (M) (er) (us))))) ((wL G (li) (ML))) ((wS G (st) (ns) (w) (MS)) ++ ((wD G (d) (nd) (lo) (ho) (rk)))) (f := fun q9 => (wN (b) (z 0) (v 0) (li 0) (st 0) (d 0)) ++ ((wV G (v) (z 0) (nv) (fr) (tt) (zl) (ld) (gk) (ut)) ++ ((wZ G (z) (n) (cu) (bg) (M) (er) (us)) ++ (q9 ++ ((wS G (st) (ns) (w) (MS)) ++ ((wD G (d) (nd) (lo) (ho) (rk)))))))) (by simp only [List.append_assoc, List.nil_append, List.append_nil]) (fun q9 => by simp only [List.append_assoc, List.nil_append, List.append_nil])) hP hD hS hA rfl hl.1 rfl (Nat.le_of_ble_eq_true rfl) dX6_place_9 ⟨Nat.le_of_ble_eq_true rfl, Nat.le_of_ble_eq_true rfl⟩ (fun r w H locs hp_1 hP hD hS => ?_)
  obtain ⟨rfl, rfl⟩ := hp_1
  have hP : va_P G.1 vwCl ((wN (b) (z 0) (v 0) (li 0) (st 0) (d 0)) ++ ((wV G (v) (z 0) (nv) (fr) (tt) (zl) (ld) (gk) (ut)) ++ ((wZ G (z) (n) (cu) (bg) (M) (er) (us)) ++ ((wL G (li) (ML)) ++ ((wS G (st) (ns) (w) (MS)) ++ ((wD G (d) (nd) (lo) (ho) (rk)))))))) H := hP
  have hD : va_D vA ((wN (b) (z 0) (v 0) (li 0) (st 0) (d 0)) ++ ((wV G (v) (z 0) (nv) (fr) (tt) (zl) (ld) (gk) (ut)) ++ ((wZ G (z) (n) (cu) (bg) (M) (er) (us)) ++ ((wL G (li) (ML)) ++ ((wS G (st) (ns) (w) (MS)) ++ ((wD G (d) (nd) (lo) (ho) (rk)))))))) := hD
  exact nw_iret (rm := ({ frames := 6, cells := 0, slots := 0, locals := 148 } : Room)) X hP hD hS (⟨rfl, rfl⟩) dX6_place_12
set_option maxHeartbeats 4000000 in
set_option maxRecDepth 100000 in
theorem c_X6_section (lc : Launch) (G : nwG) (b : Nat) (v z li st d : Nat → Nat) (nv : Nat) (fr tt : Nat → Nat) (zl : Nat → Int32) (ld : Nat → Nat) (gk ut : Nat → Int32) (n : Nat) (cu bg : Nat → Int32) (M : Nat → Nat → Int32) (er us : Int32) (ML : Nat → Nat → Int32) (ns : Nat) (w : Nat → Nat) (MS : Nat → Nat → Int32) (nd : Nat) (lo ho : Nat → Int32) (rk : Nat → Nat) (p1 : Int32) (p2 : Int32) (p3 : Int32)  (hn1 : 1 ≤ ns) (hn12 : ns ≤ 12) (hw : ∀ k, w k ≤ 1000) (hw0 : ∀ k, ns ≤ k → w k = 0) (hpl : plOk w ns MS) : nwCi lc G yX6_section wsX6_section ({ frames := 4, cells := 0, slots := 0, locals := 95 } : Room) [.ref (b), .int (p1), .int (p2), .int (p3)] ((wN (b) (z 0) (v 0) (li 0) (st 0) (d 0)) ++ ((wV G (v) (z 0) (nv) (fr) (tt) (zl) (ld) (gk) (ut)) ++ ((wZ G (z) (n) (cu) (bg) (M) (er) (us)) ++ ((wL G (li) (ML)) ++ ((wS G (st) (ns) (w) (MS)) ++ ((wD G (d) (nd) (lo) (ho) (rk)))))))) (fun r ww => ∃ Mv : Nat → Nat → Int32, (plOk (nwIf (secOk p1 p2 p3) (va_up (cutW w p1.toNatClampNeg) p2.toNatClampNeg p3.toNatClampNeg) w) (nwIf (secOk p1 p2 p3) p1.toNatClampNeg ns) Mv) ∧ r = nwIf (secOk p1 p2 p3) (nI (w (p2).toNatClampNeg)) (-2) ∧ ww = (wN (b) (z 0) (v 0) (li 0) (st 0) (d 0)) ++ ((wV G (v) (z 0) (nv) (fr) (tt) (zl) (ld) (gk) (ut)) ++ ((wZ G (z) (n) (cu) (bg) (M) (er) (us)) ++ ((wL G (li) (ML)) ++ ((wS G (st) (nwIf (secOk p1 p2 p3) (p1).toNatClampNeg ns) (nwIf (secOk p1 p2 p3) (va_up (cutW w (p1).toNatClampNeg) (p2).toNatClampNeg (p3).toNatClampNeg) w) (Mv)) ++ ((wD G (d) (nd) (lo) (ho) (rk)))))))) := by
  refine nw_of (cc := cX6_section) (maxL := 4) (ret := (some .int)) (by decide) rfl (Nat.le_of_ble_eq_true rfl) ?_
  intro vp ve vs vm vb vt vc vA ls X hP hD hA hS hl
  have X : nwAt vp vm vc cX6_section 4 vs _ wsX6_section RX6 vt (some .int) "section" G := X
  have hx := X.1.1
  have hb := X.1.2.1
  have hown := X.1.2.2.2.1
  have hts := X.1.2.2.2.2
  have hK := X.2.2.2.2
  have hl : lv_has ls 4 [(0, .ref (b)), (1, .int (p1)), (2, .int (p2)), (3, .int (p3))] := hl
  refine lv_aload_n hx hb dX6_section_0 rfl (lv_at hl 0 rfl) ?_
  refine va_get (D := G.1) (ci := 5) (v := .ref (st 0)) (C := RX6) (T := TX6) (N := 5) hx hb hts in_X6_section_X6 hown hK.1 hP 0 rfl rfl 3 (by decide) (hts (Cond.fieldLink RX6 35 "NightWater" "steps" "LNightWater$Steps;") (List.mem_of_getElem? (i := 1) rfl)) (fun _ h9 => h9) rfl dX6_section_1 ?_
  refine lv_iload_n hx hb dX6_section_4 rfl (lv_at hl 1 rfl) ?_
  refine lv_iload_n hx hb dX6_section_5 rfl (lv_at hl 2 rfl) ?_
  refine lv_iload_n hx hb dX6_section_6 rfl (lv_at hl 3 rfl) ?_
  refine nw_Vi (As := [.int (p1), .int (p2), .int (p3)]) (rest := []) (q0 := 0) X (c_X3_setWeight lc G (st) (ns) (w) (MS) ((p1)) ((p2)) ((p3)) (by first | assumption | omega) (by first | assumption | omega) (by first | assumption | omega) (by first | assumption | omega) (by first | assumption | omega)) (cwV 3 hts gX6_section_X3_setWeight rfl rfl rfl (by decide +kernel) ⟨Nat.le_of_ble_eq_true rfl, Nat.le_of_ble_eq_true rfl⟩) rfl (show vwCl[2]? = some (RX3, TX3, 4) from rfl) (nwSp.gen ((wN (b) (z 0) (v 0) (li 0) (st 0) (d 0)) ++ ((wV G (v) (z 0) (nv) (fr) (tt) (zl) (ld) (gk) (ut)) ++ ((wZ G (z) (n) (cu) (bg) (M) (er) (us)) ++ ((wL G (li) (ML)))))) ((wS G (st) (ns) (w) (MS))) ((wD G (d) (nd) (lo) (ho) (rk))) (f := fun q9 => (wN (b) (z 0) (v 0) (li 0) (st 0) (d 0)) ++ ((wV G (v) (z 0) (nv) (fr) (tt) (zl) (ld) (gk) (ut)) ++ ((wZ G (z) (n) (cu) (bg) (M) (er) (us)) ++ ((wL G (li) (ML)) ++ (q9 ++ ((wD G (d) (nd) (lo) (ho) (rk)))))))) (by simp only [List.append_assoc, List.nil_append, List.append_nil]) (fun q9 => by simp only [List.append_assoc, List.nil_append, List.append_nil])) hP hD hS hA rfl hl.1 rfl (Nat.le_of_ble_eq_true rfl) dX6_section_7 ⟨Nat.le_of_ble_eq_true rfl, Nat.le_of_ble_eq_true rfl⟩ (fun r w H locs hp_1 hP hD hS => ?_)
  obtain ⟨Mv_2, hMv_3, rfl, rfl⟩ := hp_1
  have hP : va_P G.1 vwCl ((wN (b) (z 0) (v 0) (li 0) (st 0) (d 0)) ++ ((wV G (v) (z 0) (nv) (fr) (tt) (zl) (ld) (gk) (ut)) ++ ((wZ G (z) (n) (cu) (bg) (M) (er) (us)) ++ ((wL G (li) (ML)) ++ ((wS G (st) (nwIf (secOk ((p1)) ((p2)) ((p3))) (((p1))).toNatClampNeg ns) (nwIf (secOk ((p1)) ((p2)) ((p3))) (va_up (cutW w (((p1))).toNatClampNeg) (((p2))).toNatClampNeg (((p3))).toNatClampNeg) w) (Mv_2)) ++ ((wD G (d) (nd) (lo) (ho) (rk)))))))) H := hP
  have hD : va_D vA ((wN (b) (z 0) (v 0) (li 0) (st 0) (d 0)) ++ ((wV G (v) (z 0) (nv) (fr) (tt) (zl) (ld) (gk) (ut)) ++ ((wZ G (z) (n) (cu) (bg) (M) (er) (us)) ++ ((wL G (li) (ML)) ++ ((wS G (st) (nwIf (secOk ((p1)) ((p2)) ((p3))) (((p1))).toNatClampNeg ns) (nwIf (secOk ((p1)) ((p2)) ((p3))) (va_up (cutW w (((p1))).toNatClampNeg) (((p2))).toNatClampNeg (((p3))).toNatClampNeg) w) (Mv_2)) ++ ((wD G (d) (nd) (lo) (ho) (rk)))))))) := hD
  exact nw_iret (rm := ({ frames := 4, cells := 0, slots := 0, locals := 95 } : Room)) X hP hD hS (⟨Mv_2, hMv_3, rfl, rfl⟩) dX6_section_10
set_option maxHeartbeats 4000000 in
set_option maxRecDepth 100000 in
theorem c_X6_cost (lc : Launch) (G : nwG) (b : Nat) (v z li st d : Nat → Nat) (nv : Nat) (fr tt : Nat → Nat) (zl : Nat → Int32) (ld : Nat → Nat) (gk ut : Nat → Int32) (n : Nat) (cu bg : Nat → Int32) (M : Nat → Nat → Int32) (er us : Int32) (ML : Nat → Nat → Int32) (ns : Nat) (w : Nat → Nat) (MS : Nat → Nat → Int32) (nd : Nat) (lo ho : Nat → Int32) (rk : Nat → Nat) (p1 : Int32) (p2 : Int32)  (hn1 : 1 ≤ ns) (hn12 : ns ≤ 12) (hpl : plOk w ns MS) : nwCi lc G yX6_cost wsX6_cost ({ frames := 3, cells := 0, slots := 0, locals := 66 } : Room) [.ref (b), .int (p1), .int (p2)] ((wN (b) (z 0) (v 0) (li 0) (st 0) (d 0)) ++ ((wV G (v) (z 0) (nv) (fr) (tt) (zl) (ld) (gk) (ut)) ++ ((wZ G (z) (n) (cu) (bg) (M) (er) (us)) ++ ((wL G (li) (ML)) ++ ((wS G (st) (ns) (w) (MS)) ++ ((wD G (d) (nd) (lo) (ho) (rk)))))))) (fun r ww => r = costF ns w p1 p2 ∧ ww = (wN (b) (z 0) (v 0) (li 0) (st 0) (d 0)) ++ ((wV G (v) (z 0) (nv) (fr) (tt) (zl) (ld) (gk) (ut)) ++ ((wZ G (z) (n) (cu) (bg) (M) (er) (us)) ++ ((wL G (li) (ML)) ++ ((wS G (st) (ns) (w) (MS)) ++ ((wD G (d) (nd) (lo) (ho) (rk)))))))) := by
  refine nw_of (cc := cX6_cost) (maxL := 3) (ret := (some .int)) (by decide) rfl (Nat.le_of_ble_eq_true rfl) ?_
  intro vp ve vs vm vb vt vc vA ls X hP hD hA hS hl
  have X : nwAt vp vm vc cX6_cost 3 vs _ wsX6_cost RX6 vt (some .int) "cost" G := X
  have hx := X.1.1
  have hb := X.1.2.1
  have hown := X.1.2.2.2.1
  have hts := X.1.2.2.2.2
  have hK := X.2.2.2.2
  have hl : lv_has ls 3 [(0, .ref (b)), (1, .int (p1)), (2, .int (p2))] := hl
  refine lv_aload_n hx hb dX6_cost_0 rfl (lv_at hl 0 rfl) ?_
  refine va_get (D := G.1) (ci := 5) (v := .ref (st 0)) (C := RX6) (T := TX6) (N := 5) hx hb hts in_X6_cost_X6 hown hK.1 hP 0 rfl rfl 3 (by decide) (hts (.fieldLink RX6 35 "NightWater" "steps" "LNightWater$Steps;") (List.mem_of_getElem? (i := 1) rfl)) (fun _ h9 => h9) rfl dX6_cost_1 ?_
  refine lv_iload_n hx hb dX6_cost_4 rfl (lv_at hl 1 rfl) ?_
  refine lv_iload_n hx hb dX6_cost_5 rfl (lv_at hl 2 rfl) ?_
  refine nw_Vi (As := [.int (p1), .int (p2)]) (rest := []) (q0 := 0) X (c_X3_planCost lc G (st) (ns) (w) (MS) ((p1)) ((p2)) (by first | assumption | omega) (by first | assumption | omega) (by first | assumption | omega)) (cwV 2 hts gX6_cost_X3_planCost rfl rfl rfl (by decide +kernel) ⟨Nat.le_of_ble_eq_true rfl, Nat.le_of_ble_eq_true rfl⟩) rfl (show vwCl[2]? = some (RX3, TX3, 4) from rfl) (nwSp.gen ((wN (b) (z 0) (v 0) (li 0) (st 0) (d 0)) ++ ((wV G (v) (z 0) (nv) (fr) (tt) (zl) (ld) (gk) (ut)) ++ ((wZ G (z) (n) (cu) (bg) (M) (er) (us)) ++ ((wL G (li) (ML)))))) ((wS G (st) (ns) (w) (MS))) ((wD G (d) (nd) (lo) (ho) (rk))) (f := fun q9 => (wN (b) (z 0) (v 0) (li 0) (st 0) (d 0)) ++ ((wV G (v) (z 0) (nv) (fr) (tt) (zl) (ld) (gk) (ut)) ++ ((wZ G (z) (n) (cu) (bg) (M) (er) (us)) ++ ((wL G (li) (ML)) ++ (q9 ++ ((wD G (d) (nd) (lo) (ho) (rk)))))))) (by simp only [List.append_assoc, List.nil_append, List.append_nil]) (fun q9 => by simp only [List.append_assoc, List.nil_append, List.append_nil])) hP hD hS hA rfl hl.1 rfl (Nat.le_of_ble_eq_true rfl) dX6_cost_6 ⟨Nat.le_of_ble_eq_true rfl, Nat.le_of_ble_eq_true rfl⟩ (fun r w H locs hp_1 hP hD hS => ?_)
  obtain ⟨rfl, rfl⟩ := hp_1
  have hP : va_P G.1 vwCl ((wN (b) (z 0) (v 0) (li 0) (st 0) (d 0)) ++ ((wV G (v) (z 0) (nv) (fr) (tt) (zl) (ld) (gk) (ut)) ++ ((wZ G (z) (n) (cu) (bg) (M) (er) (us)) ++ ((wL G (li) (ML)) ++ ((wS G (st) (ns) (w) (MS)) ++ ((wD G (d) (nd) (lo) (ho) (rk)))))))) H := hP
  have hD : va_D vA ((wN (b) (z 0) (v 0) (li 0) (st 0) (d 0)) ++ ((wV G (v) (z 0) (nv) (fr) (tt) (zl) (ld) (gk) (ut)) ++ ((wZ G (z) (n) (cu) (bg) (M) (er) (us)) ++ ((wL G (li) (ML)) ++ ((wS G (st) (ns) (w) (MS)) ++ ((wD G (d) (nd) (lo) (ho) (rk)))))))) := hD
  exact nw_iret (rm := ({ frames := 3, cells := 0, slots := 0, locals := 66 } : Room)) X hP hD hS (⟨rfl, rfl⟩) dX6_cost_9
set_option maxHeartbeats 4000000 in
set_option maxRecDepth 100000 in
theorem c_X6_closes (lc : Launch) (G : nwG) (b : Nat) (v z li st d : Nat → Nat) (nv : Nat) (fr tt : Nat → Nat) (zl : Nat → Int32) (ld : Nat → Nat) (gk ut : Nat → Int32) (n : Nat) (cu bg : Nat → Int32) (M : Nat → Nat → Int32) (er us : Int32) (ML : Nat → Nat → Int32) (ns : Nat) (w : Nat → Nat) (MS : Nat → Nat → Int32) (nd : Nat) (lo ho : Nat → Int32) (rk : Nat → Nat) (p1 : Int32) (p2 : Int32)  (hn1 : 1 ≤ ns) (hn12 : ns ≤ 12) (hpl : plOk w ns MS) : nwCi lc G yX6_closes wsX6_closes ({ frames := 3, cells := 0, slots := 0, locals := 66 } : Room) [.ref (b), .int (p1), .int (p2)] ((wN (b) (z 0) (v 0) (li 0) (st 0) (d 0)) ++ ((wV G (v) (z 0) (nv) (fr) (tt) (zl) (ld) (gk) (ut)) ++ ((wZ G (z) (n) (cu) (bg) (M) (er) (us)) ++ ((wL G (li) (ML)) ++ ((wS G (st) (ns) (w) (MS)) ++ ((wD G (d) (nd) (lo) (ho) (rk)))))))) (fun r ww => r = closesF ns w p1 p2 ∧ ww = (wN (b) (z 0) (v 0) (li 0) (st 0) (d 0)) ++ ((wV G (v) (z 0) (nv) (fr) (tt) (zl) (ld) (gk) (ut)) ++ ((wZ G (z) (n) (cu) (bg) (M) (er) (us)) ++ ((wL G (li) (ML)) ++ ((wS G (st) (ns) (w) (MS)) ++ ((wD G (d) (nd) (lo) (ho) (rk)))))))) := by
  refine nw_of (cc := cX6_closes) (maxL := 3) (ret := (some .int)) (by decide) rfl (Nat.le_of_ble_eq_true rfl) ?_
  intro vp ve vs vm vb vt vc vA ls X hP hD hA hS hl
  have X : nwAt vp vm vc cX6_closes 3 vs _ wsX6_closes RX6 vt (some .int) "closes" G := X
  have hx := X.1.1
  have hb := X.1.2.1
  have hown := X.1.2.2.2.1
  have hts := X.1.2.2.2.2
  have hK := X.2.2.2.2
  have hl : lv_has ls 3 [(0, .ref (b)), (1, .int (p1)), (2, .int (p2))] := hl
  refine lv_aload_n hx hb dX6_closes_0 rfl (lv_at hl 0 rfl) ?_
  refine va_get (D := G.1) (ci := 5) (v := .ref (st 0)) (C := RX6) (T := TX6) (N := 5) hx hb hts in_X6_closes_X6 hown hK.1 hP 0 rfl rfl 3 (by decide) (hts (.fieldLink RX6 35 "NightWater" "steps" "LNightWater$Steps;") (List.mem_of_getElem? (i := 1) rfl)) (fun _ h9 => h9) rfl dX6_closes_1 ?_
  refine lv_iload_n hx hb dX6_closes_4 rfl (lv_at hl 1 rfl) ?_
  refine lv_iload_n hx hb dX6_closes_5 rfl (lv_at hl 2 rfl) ?_
  refine nw_Vi (As := [.int (p1), .int (p2)]) (rest := []) (q0 := 0) X (c_X3_planStart lc G (st) (ns) (w) (MS) ((p1)) ((p2)) (by first | assumption | omega) (by first | assumption | omega) (by first | assumption | omega)) (cwV 2 hts gX6_closes_X3_planStart rfl rfl rfl (by decide +kernel) ⟨Nat.le_of_ble_eq_true rfl, Nat.le_of_ble_eq_true rfl⟩) rfl (show vwCl[2]? = some (RX3, TX3, 4) from rfl) (nwSp.gen ((wN (b) (z 0) (v 0) (li 0) (st 0) (d 0)) ++ ((wV G (v) (z 0) (nv) (fr) (tt) (zl) (ld) (gk) (ut)) ++ ((wZ G (z) (n) (cu) (bg) (M) (er) (us)) ++ ((wL G (li) (ML)))))) ((wS G (st) (ns) (w) (MS))) ((wD G (d) (nd) (lo) (ho) (rk))) (f := fun q9 => (wN (b) (z 0) (v 0) (li 0) (st 0) (d 0)) ++ ((wV G (v) (z 0) (nv) (fr) (tt) (zl) (ld) (gk) (ut)) ++ ((wZ G (z) (n) (cu) (bg) (M) (er) (us)) ++ ((wL G (li) (ML)) ++ (q9 ++ ((wD G (d) (nd) (lo) (ho) (rk)))))))) (by simp only [List.append_assoc, List.nil_append, List.append_nil]) (fun q9 => by simp only [List.append_assoc, List.nil_append, List.append_nil])) hP hD hS hA rfl hl.1 rfl (Nat.le_of_ble_eq_true rfl) dX6_closes_6 ⟨Nat.le_of_ble_eq_true rfl, Nat.le_of_ble_eq_true rfl⟩ (fun r w H locs hp_1 hP hD hS => ?_)
  obtain ⟨rfl, rfl⟩ := hp_1
  have hP : va_P G.1 vwCl ((wN (b) (z 0) (v 0) (li 0) (st 0) (d 0)) ++ ((wV G (v) (z 0) (nv) (fr) (tt) (zl) (ld) (gk) (ut)) ++ ((wZ G (z) (n) (cu) (bg) (M) (er) (us)) ++ ((wL G (li) (ML)) ++ ((wS G (st) (ns) (w) (MS)) ++ ((wD G (d) (nd) (lo) (ho) (rk)))))))) H := hP
  have hD : va_D vA ((wN (b) (z 0) (v 0) (li 0) (st 0) (d 0)) ++ ((wV G (v) (z 0) (nv) (fr) (tt) (zl) (ld) (gk) (ut)) ++ ((wZ G (z) (n) (cu) (bg) (M) (er) (us)) ++ ((wL G (li) (ML)) ++ ((wS G (st) (ns) (w) (MS)) ++ ((wD G (d) (nd) (lo) (ho) (rk)))))))) := hD
  exact nw_iret (rm := ({ frames := 3, cells := 0, slots := 0, locals := 66 } : Room)) X hP hD hS (⟨rfl, rfl⟩) dX6_closes_9
set_option maxHeartbeats 4000000 in
set_option maxRecDepth 100000 in
theorem c_X6_closings (lc : Launch) (G : nwG) (b : Nat) (v z li st d : Nat → Nat) (nv : Nat) (fr tt : Nat → Nat) (zl : Nat → Int32) (ld : Nat → Nat) (gk ut : Nat → Int32) (n : Nat) (cu bg : Nat → Int32) (M : Nat → Nat → Int32) (er us : Int32) (ML : Nat → Nat → Int32) (ns : Nat) (w : Nat → Nat) (MS : Nat → Nat → Int32) (nd : Nat) (lo ho : Nat → Int32) (rk : Nat → Nat) (p1 : Int32)  (hn1 : 1 ≤ ns) (hn12 : ns ≤ 12) (hpl : plOk w ns MS) : nwCi lc G yX6_closings wsX6_closings ({ frames := 2, cells := 0, slots := 0, locals := 47 } : Room) [.ref (b), .int (p1)] ((wN (b) (z 0) (v 0) (li 0) (st 0) (d 0)) ++ ((wV G (v) (z 0) (nv) (fr) (tt) (zl) (ld) (gk) (ut)) ++ ((wZ G (z) (n) (cu) (bg) (M) (er) (us)) ++ ((wL G (li) (ML)) ++ ((wS G (st) (ns) (w) (MS)) ++ ((wD G (d) (nd) (lo) (ho) (rk)))))))) (fun r ww => r = closingsF ns w p1 ∧ ww = (wN (b) (z 0) (v 0) (li 0) (st 0) (d 0)) ++ ((wV G (v) (z 0) (nv) (fr) (tt) (zl) (ld) (gk) (ut)) ++ ((wZ G (z) (n) (cu) (bg) (M) (er) (us)) ++ ((wL G (li) (ML)) ++ ((wS G (st) (ns) (w) (MS)) ++ ((wD G (d) (nd) (lo) (ho) (rk)))))))) := by
  refine nw_of (cc := cX6_closings) (maxL := 2) (ret := (some .int)) (by decide) rfl (Nat.le_of_ble_eq_true rfl) ?_
  intro vp ve vs vm vb vt vc vA ls X hP hD hA hS hl
  have X : nwAt vp vm vc cX6_closings 2 vs _ wsX6_closings RX6 vt (some .int) "closings" G := X
  have hx := X.1.1
  have hb := X.1.2.1
  have hown := X.1.2.2.2.1
  have hts := X.1.2.2.2.2
  have hK := X.2.2.2.2
  have hl : lv_has ls 2 [(0, .ref (b)), (1, .int (p1))] := hl
  refine lv_aload_n hx hb dX6_closings_0 rfl (lv_at hl 0 rfl) ?_
  refine va_get (D := G.1) (ci := 5) (v := .ref (st 0)) (C := RX6) (T := TX6) (N := 5) hx hb hts in_X6_closings_X6 hown hK.1 hP 0 rfl rfl 3 (by decide) (hts (.fieldLink RX6 35 "NightWater" "steps" "LNightWater$Steps;") (List.mem_of_getElem? (i := 1) rfl)) (fun _ h9 => h9) rfl dX6_closings_1 ?_
  refine lv_iload_n hx hb dX6_closings_4 rfl (lv_at hl 1 rfl) ?_
  refine nw_Vi (As := [.int (p1)]) (rest := []) (q0 := 0) X (c_X3_closingsFor lc G (st) (ns) (w) (MS) ((p1)) (by first | assumption | omega) (by first | assumption | omega) (by first | assumption | omega)) (cwV 1 hts gX6_closings_X3_closingsFor rfl rfl rfl (by decide +kernel) ⟨Nat.le_of_ble_eq_true rfl, Nat.le_of_ble_eq_true rfl⟩) rfl (show vwCl[2]? = some (RX3, TX3, 4) from rfl) (nwSp.gen ((wN (b) (z 0) (v 0) (li 0) (st 0) (d 0)) ++ ((wV G (v) (z 0) (nv) (fr) (tt) (zl) (ld) (gk) (ut)) ++ ((wZ G (z) (n) (cu) (bg) (M) (er) (us)) ++ ((wL G (li) (ML)))))) ((wS G (st) (ns) (w) (MS))) ((wD G (d) (nd) (lo) (ho) (rk))) (f := fun q9 => (wN (b) (z 0) (v 0) (li 0) (st 0) (d 0)) ++ ((wV G (v) (z 0) (nv) (fr) (tt) (zl) (ld) (gk) (ut)) ++ ((wZ G (z) (n) (cu) (bg) (M) (er) (us)) ++ ((wL G (li) (ML)) ++ (q9 ++ ((wD G (d) (nd) (lo) (ho) (rk)))))))) (by simp only [List.append_assoc, List.nil_append, List.append_nil]) (fun q9 => by simp only [List.append_assoc, List.nil_append, List.append_nil])) hP hD hS hA rfl hl.1 rfl (Nat.le_of_ble_eq_true rfl) dX6_closings_5 ⟨Nat.le_of_ble_eq_true rfl, Nat.le_of_ble_eq_true rfl⟩ (fun r w H locs hp_1 hP hD hS => ?_)
  obtain ⟨rfl, rfl⟩ := hp_1
  have hP : va_P G.1 vwCl ((wN (b) (z 0) (v 0) (li 0) (st 0) (d 0)) ++ ((wV G (v) (z 0) (nv) (fr) (tt) (zl) (ld) (gk) (ut)) ++ ((wZ G (z) (n) (cu) (bg) (M) (er) (us)) ++ ((wL G (li) (ML)) ++ ((wS G (st) (ns) (w) (MS)) ++ ((wD G (d) (nd) (lo) (ho) (rk)))))))) H := hP
  have hD : va_D vA ((wN (b) (z 0) (v 0) (li 0) (st 0) (d 0)) ++ ((wV G (v) (z 0) (nv) (fr) (tt) (zl) (ld) (gk) (ut)) ++ ((wZ G (z) (n) (cu) (bg) (M) (er) (us)) ++ ((wL G (li) (ML)) ++ ((wS G (st) (ns) (w) (MS)) ++ ((wD G (d) (nd) (lo) (ho) (rk)))))))) := hD
  exact nw_iret (rm := ({ frames := 2, cells := 0, slots := 0, locals := 47 } : Room)) X hP hD hS (⟨rfl, rfl⟩) dX6_closings_8
set_option maxHeartbeats 4000000 in
set_option maxRecDepth 100000 in
theorem c_X6_dig (lc : Launch) (G : nwG) (b : Nat) (v z li st d : Nat → Nat) (nv : Nat) (fr tt : Nat → Nat) (zl : Nat → Int32) (ld : Nat → Nat) (gk ut : Nat → Int32) (n : Nat) (cu bg : Nat → Int32) (M : Nat → Nat → Int32) (er us : Int32) (ML : Nat → Nat → Int32) (ns : Nat) (w : Nat → Nat) (MS : Nat → Nat → Int32) (nd : Nat) (lo ho : Nat → Int32) (rk : Nat → Nat) (p1 : Int32) (p2 : Int32)  (hnd : nd ≤ 8) (hrk : ∀ j, rk j < 8) : nwCi lc G yX6_dig wsX6_dig ({ frames := 3, cells := 0, slots := 0, locals := 66 } : Room) [.ref (b), .int (p1), .int (p2)] ((wN (b) (z 0) (v 0) (li 0) (st 0) (d 0)) ++ ((wV G (v) (z 0) (nv) (fr) (tt) (zl) (ld) (gk) (ut)) ++ ((wZ G (z) (n) (cu) (bg) (M) (er) (us)) ++ ((wL G (li) (ML)) ++ ((wS G (st) (ns) (w) (MS)) ++ ((wD G (d) (nd) (lo) (ho) (rk)))))))) (fun r ww => r = digF nd p1 p2 ∧ ww = (wN (b) (z 0) (v 0) (li 0) (st 0) (d 0)) ++ ((wV G (v) (z 0) (nv) (fr) (tt) (zl) (ld) (gk) (ut)) ++ ((wZ G (z) (n) (cu) (bg) (M) (er) (us)) ++ ((wL G (li) (ML)) ++ ((wS G (st) (ns) (w) (MS)) ++ ((wD G (d) (nwIf (digOk nd p1 p2) (nd + 1) nd) (nwIf (digOk nd p1 p2) (va_up lo nd p1) lo) (nwIf (digOk nd p1 p2) (va_up ho nd p2) ho) (nwIf (digOk nd p1 p2) (insF (va_up lo nd p1) (va_up ho nd p2) nd nd rk) rk)))))))) := by
  refine nw_of (cc := cX6_dig) (maxL := 3) (ret := (some .int)) (by decide) rfl (Nat.le_of_ble_eq_true rfl) ?_
  intro vp ve vs vm vb vt vc vA ls X hP hD hA hS hl
  have X : nwAt vp vm vc cX6_dig 3 vs _ wsX6_dig RX6 vt (some .int) "dig" G := X
  have hx := X.1.1
  have hb := X.1.2.1
  have hown := X.1.2.2.2.1
  have hts := X.1.2.2.2.2
  have hK := X.2.2.2.2
  have hl : lv_has ls 3 [(0, .ref (b)), (1, .int (p1)), (2, .int (p2))] := hl
  refine lv_aload_n hx hb dX6_dig_0 rfl (lv_at hl 0 rfl) ?_
  refine va_get (D := G.1) (ci := 5) (v := .ref (d 0)) (C := RX6) (T := TX6) (N := 5) hx hb hts in_X6_dig_X6 hown hK.1 hP 0 rfl rfl 4 (by decide) (hts (.fieldLink RX6 42 "NightWater" "digs" "LNightWater$Digs;") (List.mem_of_getElem? (i := 1) rfl)) (fun _ h9 => h9) rfl dX6_dig_1 ?_
  refine lv_iload_n hx hb dX6_dig_4 rfl (lv_at hl 1 rfl) ?_
  refine lv_iload_n hx hb dX6_dig_5 rfl (lv_at hl 2 rfl) ?_
  refine nw_Vi (As := [.int (p1), .int (p2)]) (rest := []) (q0 := 0) X (c_X0_add lc G (d) (nd) (lo) (ho) (rk) ((p1)) ((p2)) (by first | assumption | omega) (by first | assumption | omega)) (cwV 2 hts gX6_dig_X0_add rfl rfl rfl (by decide +kernel) ⟨Nat.le_of_ble_eq_true rfl, Nat.le_of_ble_eq_true rfl⟩) rfl (show vwCl[0]? = some (RX0, TX0, 4) from rfl) (nwSp.gen ((wN (b) (z 0) (v 0) (li 0) (st 0) (d 0)) ++ ((wV G (v) (z 0) (nv) (fr) (tt) (zl) (ld) (gk) (ut)) ++ ((wZ G (z) (n) (cu) (bg) (M) (er) (us)) ++ ((wL G (li) (ML)) ++ ((wS G (st) (ns) (w) (MS))))))) ((wD G (d) (nd) (lo) (ho) (rk))) ([]) (f := fun q9 => (wN (b) (z 0) (v 0) (li 0) (st 0) (d 0)) ++ ((wV G (v) (z 0) (nv) (fr) (tt) (zl) (ld) (gk) (ut)) ++ ((wZ G (z) (n) (cu) (bg) (M) (er) (us)) ++ ((wL G (li) (ML)) ++ ((wS G (st) (ns) (w) (MS)) ++ (q9)))))) (by simp only [List.append_assoc, List.nil_append, List.append_nil]) (fun q9 => by simp only [List.append_assoc, List.nil_append, List.append_nil])) hP hD hS hA rfl hl.1 rfl (Nat.le_of_ble_eq_true rfl) dX6_dig_6 ⟨Nat.le_of_ble_eq_true rfl, Nat.le_of_ble_eq_true rfl⟩ (fun r w H locs hp_1 hP hD hS => ?_)
  obtain ⟨rfl, rfl⟩ := hp_1
  have hP : va_P G.1 vwCl ((wN (b) (z 0) (v 0) (li 0) (st 0) (d 0)) ++ ((wV G (v) (z 0) (nv) (fr) (tt) (zl) (ld) (gk) (ut)) ++ ((wZ G (z) (n) (cu) (bg) (M) (er) (us)) ++ ((wL G (li) (ML)) ++ ((wS G (st) (ns) (w) (MS)) ++ ((wD G (d) (nwIf (digOk nd ((p1)) ((p2))) (nd + 1) nd) (nwIf (digOk nd ((p1)) ((p2))) (va_up lo nd ((p1))) lo) (nwIf (digOk nd ((p1)) ((p2))) (va_up ho nd ((p2))) ho) (nwIf (digOk nd ((p1)) ((p2))) (insF (va_up lo nd ((p1))) (va_up ho nd ((p2))) nd nd rk) rk)))))))) H := hP
  have hD : va_D vA ((wN (b) (z 0) (v 0) (li 0) (st 0) (d 0)) ++ ((wV G (v) (z 0) (nv) (fr) (tt) (zl) (ld) (gk) (ut)) ++ ((wZ G (z) (n) (cu) (bg) (M) (er) (us)) ++ ((wL G (li) (ML)) ++ ((wS G (st) (ns) (w) (MS)) ++ ((wD G (d) (nwIf (digOk nd ((p1)) ((p2))) (nd + 1) nd) (nwIf (digOk nd ((p1)) ((p2))) (va_up lo nd ((p1))) lo) (nwIf (digOk nd ((p1)) ((p2))) (va_up ho nd ((p2))) ho) (nwIf (digOk nd ((p1)) ((p2))) (insF (va_up lo nd ((p1))) (va_up ho nd ((p2))) nd nd rk) rk)))))))) := hD
  exact nw_iret (rm := ({ frames := 3, cells := 0, slots := 0, locals := 66 } : Room)) X hP hD hS (⟨rfl, rfl⟩) dX6_dig_9
set_option maxHeartbeats 4000000 in
set_option maxRecDepth 100000 in
theorem c_X6_clear (lc : Launch) (G : nwG) (b : Nat) (v z li st d : Nat → Nat) (nv : Nat) (fr tt : Nat → Nat) (zl : Nat → Int32) (ld : Nat → Nat) (gk ut : Nat → Int32) (n : Nat) (cu bg : Nat → Int32) (M : Nat → Nat → Int32) (er us : Int32) (ML : Nat → Nat → Int32) (ns : Nat) (w : Nat → Nat) (MS : Nat → Nat → Int32) (nd : Nat) (lo ho : Nat → Int32) (rk : Nat → Nat)   : nwCi lc G yX6_clear wsX6_clear ({ frames := 1, cells := 0, slots := 0, locals := 21 } : Room) [.ref (b)] ((wN (b) (z 0) (v 0) (li 0) (st 0) (d 0)) ++ ((wV G (v) (z 0) (nv) (fr) (tt) (zl) (ld) (gk) (ut)) ++ ((wZ G (z) (n) (cu) (bg) (M) (er) (us)) ++ ((wL G (li) (ML)) ++ ((wS G (st) (ns) (w) (MS)) ++ ((wD G (d) (nd) (lo) (ho) (rk)))))))) (fun r ww => r = nI (nd) ∧ ww = (wN (b) (z 0) (v 0) (li 0) (st 0) (d 0)) ++ ((wV G (v) (z 0) (nv) (fr) (tt) (zl) (ld) (gk) (ut)) ++ ((wZ G (z) (n) (cu) (bg) (M) (er) (us)) ++ ((wL G (li) (ML)) ++ ((wS G (st) (ns) (w) (MS)) ++ ((wD G (d) (0) (lo) (ho) (rk)))))))) := by
  refine nw_of (cc := cX6_clear) (maxL := 1) (ret := (some .int)) (by decide) rfl (Nat.le_of_ble_eq_true rfl) ?_
  intro vp ve vs vm vb vt vc vA ls X hP hD hA hS hl
  have X : nwAt vp vm vc cX6_clear 1 vs _ wsX6_clear RX6 vt (some .int) "clear" G := X
  have hx := X.1.1
  have hb := X.1.2.1
  have hown := X.1.2.2.2.1
  have hts := X.1.2.2.2.2
  have hK := X.2.2.2.2
  have hl : lv_has ls 1 [(0, .ref (b))] := hl
  refine lv_aload_n hx hb dX6_clear_0 rfl (lv_at hl 0 rfl) ?_
  refine va_get (D := G.1) (ci := 5) (v := .ref (d 0)) (C := RX6) (T := TX6) (N := 5) hx hb hts in_X6_clear_X6 hown hK.1 hP 0 rfl rfl 4 (by decide) (hts (.fieldLink RX6 42 "NightWater" "digs" "LNightWater$Digs;") (List.mem_of_getElem? (i := 1) rfl)) (fun _ h9 => h9) rfl dX6_clear_1 ?_
  refine nw_Vi (As := []) (rest := []) (q0 := 0) X (c_X0_removeAll lc G (d) (nd) (lo) (ho) (rk) ) (cwV 0 hts gX6_clear_X0_removeAll rfl rfl rfl (by decide +kernel) ⟨Nat.le_of_ble_eq_true rfl, Nat.le_of_ble_eq_true rfl⟩) rfl (show vwCl[0]? = some (RX0, TX0, 4) from rfl) (nwSp.gen ((wN (b) (z 0) (v 0) (li 0) (st 0) (d 0)) ++ ((wV G (v) (z 0) (nv) (fr) (tt) (zl) (ld) (gk) (ut)) ++ ((wZ G (z) (n) (cu) (bg) (M) (er) (us)) ++ ((wL G (li) (ML)) ++ ((wS G (st) (ns) (w) (MS))))))) ((wD G (d) (nd) (lo) (ho) (rk))) ([]) (f := fun q9 => (wN (b) (z 0) (v 0) (li 0) (st 0) (d 0)) ++ ((wV G (v) (z 0) (nv) (fr) (tt) (zl) (ld) (gk) (ut)) ++ ((wZ G (z) (n) (cu) (bg) (M) (er) (us)) ++ ((wL G (li) (ML)) ++ ((wS G (st) (ns) (w) (MS)) ++ (q9)))))) (by simp only [List.append_assoc, List.nil_append, List.append_nil]) (fun q9 => by simp only [List.append_assoc, List.nil_append, List.append_nil])) hP hD hS hA rfl hl.1 rfl (Nat.le_of_ble_eq_true rfl) dX6_clear_4 ⟨Nat.le_of_ble_eq_true rfl, Nat.le_of_ble_eq_true rfl⟩ (fun r w H locs hp_1 hP hD hS => ?_)
  obtain ⟨rfl, rfl⟩ := hp_1
  have hP : va_P G.1 vwCl ((wN (b) (z 0) (v 0) (li 0) (st 0) (d 0)) ++ ((wV G (v) (z 0) (nv) (fr) (tt) (zl) (ld) (gk) (ut)) ++ ((wZ G (z) (n) (cu) (bg) (M) (er) (us)) ++ ((wL G (li) (ML)) ++ ((wS G (st) (ns) (w) (MS)) ++ ((wD G (d) (0) (lo) (ho) (rk)))))))) H := hP
  have hD : va_D vA ((wN (b) (z 0) (v 0) (li 0) (st 0) (d 0)) ++ ((wV G (v) (z 0) (nv) (fr) (tt) (zl) (ld) (gk) (ut)) ++ ((wZ G (z) (n) (cu) (bg) (M) (er) (us)) ++ ((wL G (li) (ML)) ++ ((wS G (st) (ns) (w) (MS)) ++ ((wD G (d) (0) (lo) (ho) (rk)))))))) := hD
  exact nw_iret (rm := ({ frames := 1, cells := 0, slots := 0, locals := 21 } : Room)) X hP hD hS (⟨rfl, rfl⟩) dX6_clear_7
set_option maxHeartbeats 4000000 in
set_option maxRecDepth 100000 in
theorem c_X6_lost (lc : Launch) (G : nwG) (b : Nat) (v z li st d : Nat → Nat) (nv : Nat) (fr tt : Nat → Nat) (zl : Nat → Int32) (ld : Nat → Nat) (gk ut : Nat → Int32) (n : Nat) (cu bg : Nat → Int32) (M : Nat → Nat → Int32) (er us : Int32) (ML : Nat → Nat → Int32) (ns : Nat) (w : Nat → Nat) (MS : Nat → Nat → Int32) (nd : Nat) (lo ho : Nat → Int32) (rk : Nat → Nat)  (hnd : nd ≤ 8) (hrk : ∀ j, rk j < 8) : nwCi lc G yX6_lost wsX6_lost ({ frames := 1, cells := 0, slots := 0, locals := 24 } : Room) [.ref (b)] ((wN (b) (z 0) (v 0) (li 0) (st 0) (d 0)) ++ ((wV G (v) (z 0) (nv) (fr) (tt) (zl) (ld) (gk) (ut)) ++ ((wZ G (z) (n) (cu) (bg) (M) (er) (us)) ++ ((wL G (li) (ML)) ++ ((wS G (st) (ns) (w) (MS)) ++ ((wD G (d) (nd) (lo) (ho) (rk)))))))) (fun r ww => r = (lostD lo ho rk nd).2 ∧ ww = (wN (b) (z 0) (v 0) (li 0) (st 0) (d 0)) ++ ((wV G (v) (z 0) (nv) (fr) (tt) (zl) (ld) (gk) (ut)) ++ ((wZ G (z) (n) (cu) (bg) (M) (er) (us)) ++ ((wL G (li) (ML)) ++ ((wS G (st) (ns) (w) (MS)) ++ ((wD G (d) (nd) (lo) (ho) (rk)))))))) := by
  refine nw_of (cc := cX6_lost) (maxL := 1) (ret := (some .int)) (by decide) rfl (Nat.le_of_ble_eq_true rfl) ?_
  intro vp ve vs vm vb vt vc vA ls X hP hD hA hS hl
  have X : nwAt vp vm vc cX6_lost 1 vs _ wsX6_lost RX6 vt (some .int) "lost" G := X
  have hx := X.1.1
  have hb := X.1.2.1
  have hown := X.1.2.2.2.1
  have hts := X.1.2.2.2.2
  have hK := X.2.2.2.2
  have hl : lv_has ls 1 [(0, .ref (b))] := hl
  refine lv_aload_n hx hb dX6_lost_0 rfl (lv_at hl 0 rfl) ?_
  refine va_get (D := G.1) (ci := 5) (v := .ref (d 0)) (C := RX6) (T := TX6) (N := 5) hx hb hts in_X6_lost_X6 hown hK.1 hP 0 rfl rfl 4 (by decide) (hts (.fieldLink RX6 42 "NightWater" "digs" "LNightWater$Digs;") (List.mem_of_getElem? (i := 1) rfl)) (fun _ h9 => h9) rfl dX6_lost_1 ?_
  refine nw_Vi (As := []) (rest := []) (q0 := 0) X (c_X0_lostInOrder lc G (d) (nd) (lo) (ho) (rk) (by first | assumption | omega) (by first | assumption | omega)) (cwV 0 hts gX6_lost_X0_lostInOrder rfl rfl rfl (by decide +kernel) ⟨Nat.le_of_ble_eq_true rfl, Nat.le_of_ble_eq_true rfl⟩) rfl (show vwCl[0]? = some (RX0, TX0, 4) from rfl) (nwSp.gen ((wN (b) (z 0) (v 0) (li 0) (st 0) (d 0)) ++ ((wV G (v) (z 0) (nv) (fr) (tt) (zl) (ld) (gk) (ut)) ++ ((wZ G (z) (n) (cu) (bg) (M) (er) (us)) ++ ((wL G (li) (ML)) ++ ((wS G (st) (ns) (w) (MS))))))) ((wD G (d) (nd) (lo) (ho) (rk))) ([]) (f := fun q9 => (wN (b) (z 0) (v 0) (li 0) (st 0) (d 0)) ++ ((wV G (v) (z 0) (nv) (fr) (tt) (zl) (ld) (gk) (ut)) ++ ((wZ G (z) (n) (cu) (bg) (M) (er) (us)) ++ ((wL G (li) (ML)) ++ ((wS G (st) (ns) (w) (MS)) ++ (q9)))))) (by simp only [List.append_assoc, List.nil_append, List.append_nil]) (fun q9 => by simp only [List.append_assoc, List.nil_append, List.append_nil])) hP hD hS hA rfl hl.1 rfl (Nat.le_of_ble_eq_true rfl) dX6_lost_4 ⟨Nat.le_of_ble_eq_true rfl, Nat.le_of_ble_eq_true rfl⟩ (fun r w H locs hp_1 hP hD hS => ?_)
  obtain ⟨rfl, rfl⟩ := hp_1
  have hP : va_P G.1 vwCl ((wN (b) (z 0) (v 0) (li 0) (st 0) (d 0)) ++ ((wV G (v) (z 0) (nv) (fr) (tt) (zl) (ld) (gk) (ut)) ++ ((wZ G (z) (n) (cu) (bg) (M) (er) (us)) ++ ((wL G (li) (ML)) ++ ((wS G (st) (ns) (w) (MS)) ++ ((wD G (d) (nd) (lo) (ho) (rk)))))))) H := hP
  have hD : va_D vA ((wN (b) (z 0) (v 0) (li 0) (st 0) (d 0)) ++ ((wV G (v) (z 0) (nv) (fr) (tt) (zl) (ld) (gk) (ut)) ++ ((wZ G (z) (n) (cu) (bg) (M) (er) (us)) ++ ((wL G (li) (ML)) ++ ((wS G (st) (ns) (w) (MS)) ++ ((wD G (d) (nd) (lo) (ho) (rk)))))))) := hD
  exact nw_iret (rm := ({ frames := 1, cells := 0, slots := 0, locals := 24 } : Room)) X hP hD hS (⟨rfl, rfl⟩) dX6_lost_7
set_option maxHeartbeats 4000000 in
set_option maxRecDepth 100000 in
theorem c_X6_order (lc : Launch) (G : nwG) (b : Nat) (v z li st d : Nat → Nat) (nv : Nat) (fr tt : Nat → Nat) (zl : Nat → Int32) (ld : Nat → Nat) (gk ut : Nat → Int32) (n : Nat) (cu bg : Nat → Int32) (M : Nat → Nat → Int32) (er us : Int32) (ML : Nat → Nat → Int32) (ns : Nat) (w : Nat → Nat) (MS : Nat → Nat → Int32) (nd : Nat) (lo ho : Nat → Int32) (rk : Nat → Nat) (p1 : Int32)  (hnd : nd ≤ 8) : nwCi lc G yX6_order wsX6_order ({ frames := 2, cells := 0, slots := 0, locals := 43 } : Room) [.ref (b), .int (p1)] ((wN (b) (z 0) (v 0) (li 0) (st 0) (d 0)) ++ ((wV G (v) (z 0) (nv) (fr) (tt) (zl) (ld) (gk) (ut)) ++ ((wZ G (z) (n) (cu) (bg) (M) (er) (us)) ++ ((wL G (li) (ML)) ++ ((wS G (st) (ns) (w) (MS)) ++ ((wD G (d) (nd) (lo) (ho) (rk)))))))) (fun r ww => r = orderF nd rk p1 ∧ ww = (wN (b) (z 0) (v 0) (li 0) (st 0) (d 0)) ++ ((wV G (v) (z 0) (nv) (fr) (tt) (zl) (ld) (gk) (ut)) ++ ((wZ G (z) (n) (cu) (bg) (M) (er) (us)) ++ ((wL G (li) (ML)) ++ ((wS G (st) (ns) (w) (MS)) ++ ((wD G (d) (nd) (lo) (ho) (rk)))))))) := by
  refine nw_of (cc := cX6_order) (maxL := 2) (ret := (some .int)) (by decide) rfl (Nat.le_of_ble_eq_true rfl) ?_
  intro vp ve vs vm vb vt vc vA ls X hP hD hA hS hl
  have X : nwAt vp vm vc cX6_order 2 vs _ wsX6_order RX6 vt (some .int) "order" G := X
  have hx := X.1.1
  have hb := X.1.2.1
  have hown := X.1.2.2.2.1
  have hts := X.1.2.2.2.2
  have hK := X.2.2.2.2
  have hl : lv_has ls 2 [(0, .ref (b)), (1, .int (p1))] := hl
  refine lv_aload_n hx hb dX6_order_0 rfl (lv_at hl 0 rfl) ?_
  refine va_get (D := G.1) (ci := 5) (v := .ref (d 0)) (C := RX6) (T := TX6) (N := 5) hx hb hts in_X6_order_X6 hown hK.1 hP 0 rfl rfl 4 (by decide) (hts (.fieldLink RX6 42 "NightWater" "digs" "LNightWater$Digs;") (List.mem_of_getElem? (i := 1) rfl)) (fun _ h9 => h9) rfl dX6_order_1 ?_
  refine lv_iload_n hx hb dX6_order_4 rfl (lv_at hl 1 rfl) ?_
  refine nw_Vi (As := [.int (p1)]) (rest := []) (q0 := 0) X (c_X0_inOrder lc G (d) (nd) (lo) (ho) (rk) ((p1)) (by first | assumption | omega)) (cwV 1 hts gX6_order_X0_inOrder rfl rfl rfl (by decide +kernel) ⟨Nat.le_of_ble_eq_true rfl, Nat.le_of_ble_eq_true rfl⟩) rfl (show vwCl[0]? = some (RX0, TX0, 4) from rfl) (nwSp.gen ((wN (b) (z 0) (v 0) (li 0) (st 0) (d 0)) ++ ((wV G (v) (z 0) (nv) (fr) (tt) (zl) (ld) (gk) (ut)) ++ ((wZ G (z) (n) (cu) (bg) (M) (er) (us)) ++ ((wL G (li) (ML)) ++ ((wS G (st) (ns) (w) (MS))))))) ((wD G (d) (nd) (lo) (ho) (rk))) ([]) (f := fun q9 => (wN (b) (z 0) (v 0) (li 0) (st 0) (d 0)) ++ ((wV G (v) (z 0) (nv) (fr) (tt) (zl) (ld) (gk) (ut)) ++ ((wZ G (z) (n) (cu) (bg) (M) (er) (us)) ++ ((wL G (li) (ML)) ++ ((wS G (st) (ns) (w) (MS)) ++ (q9)))))) (by simp only [List.append_assoc, List.nil_append, List.append_nil]) (fun q9 => by simp only [List.append_assoc, List.nil_append, List.append_nil])) hP hD hS hA rfl hl.1 rfl (Nat.le_of_ble_eq_true rfl) dX6_order_5 ⟨Nat.le_of_ble_eq_true rfl, Nat.le_of_ble_eq_true rfl⟩ (fun r w H locs hp_1 hP hD hS => ?_)
  obtain ⟨rfl, rfl⟩ := hp_1
  have hP : va_P G.1 vwCl ((wN (b) (z 0) (v 0) (li 0) (st 0) (d 0)) ++ ((wV G (v) (z 0) (nv) (fr) (tt) (zl) (ld) (gk) (ut)) ++ ((wZ G (z) (n) (cu) (bg) (M) (er) (us)) ++ ((wL G (li) (ML)) ++ ((wS G (st) (ns) (w) (MS)) ++ ((wD G (d) (nd) (lo) (ho) (rk)))))))) H := hP
  have hD : va_D vA ((wN (b) (z 0) (v 0) (li 0) (st 0) (d 0)) ++ ((wV G (v) (z 0) (nv) (fr) (tt) (zl) (ld) (gk) (ut)) ++ ((wZ G (z) (n) (cu) (bg) (M) (er) (us)) ++ ((wL G (li) (ML)) ++ ((wS G (st) (ns) (w) (MS)) ++ ((wD G (d) (nd) (lo) (ho) (rk)))))))) := hD
  exact nw_iret (rm := ({ frames := 2, cells := 0, slots := 0, locals := 43 } : Room)) X hP hD hS (⟨rfl, rfl⟩) dX6_order_8
set_option maxHeartbeats 4000000 in
set_option maxRecDepth 100000 in
theorem c_X6_pulled (lc : Launch) (G : nwG) (b : Nat) (v z li st d : Nat → Nat) (nv : Nat) (fr tt : Nat → Nat) (zl : Nat → Int32) (ld : Nat → Nat) (gk ut : Nat → Int32) (n : Nat) (cu bg : Nat → Int32) (M : Nat → Nat → Int32) (er us : Int32) (ML : Nat → Nat → Int32) (ns : Nat) (w : Nat → Nat) (MS : Nat → Nat → Int32) (nd : Nat) (lo ho : Nat → Int32) (rk : Nat → Nat) (p1 p2 p3 : Int32)  : nwCi lc G yX6_pulled wsX6_pulled ({ frames := 3, cells := 0, slots := 0, locals := 65 } : Room) [.ref (b), .int (p1), .int (p2), .int (p3)] ((wN (b) (z 0) (v 0) (li 0) (st 0) (d 0)) ++ ((wV G (v) (z 0) (nv) (fr) (tt) (zl) (ld) (gk) (ut)) ++ ((wZ G (z) (n) (cu) (bg) (M) (er) (us)) ++ ((wL G (li) (ML)) ++ ((wS G (st) (ns) (w) (MS)) ++ ((wD G (d) (nd) (lo) (ho) (rk)))))))) (fun r ww => r = pulledF p1 p2 p3 ∧ ww = (wN (b) (z 0) (v 0) (li 0) (st 0) (d 0)) ++ ((wV G (v) (z 0) (nv) (fr) (tt) (zl) (ld) (gk) (ut)) ++ ((wZ G (z) (n) (cu) (bg) (M) (er) (us)) ++ ((wL G (li) (ML)) ++ ((wS G (st) (ns) (w) (MS)) ++ ((wD G (d) (nd) (lo) (ho) (rk)))))))) := by
  refine nw_of (cc := cX6_pulled) (maxL := 4) (ret := (some .int)) (by decide) rfl (Nat.le_of_ble_eq_true rfl) ?_
  intro vp ve vs vm vb vt vc vA ls X hP hD hA hS hl
  have X : nwAt vp vm vc cX6_pulled 4 vs _ wsX6_pulled RX6 vt (some .int) "pulled" G := X
  have hx := X.1.1
  have hb := X.1.2.1
  have hown := X.1.2.2.2.1
  have hts := X.1.2.2.2.2
  have hK := X.2.2.2.2
  have hl : lv_has ls 4 [(0, .ref (b)), (1, .int (p1)), (2, .int (p2)), (3, .int (p3))] := hl
  refine lv_iload_n hx hb dX6_pulled_0 rfl (lv_at hl 1 rfl) ?_
  refine lv_iload_n hx hb dX6_pulled_1 rfl (lv_at hl 2 rfl) ?_
  refine lv_iload_n hx hb dX6_pulled_2 rfl (lv_at hl 3 rfl) ?_
  refine nw_Si (As := [.int (p1), .int (p2), .int (p3)]) (rest := []) X (c_X2_leakAt lc G ((p1)) ((p2)) ((p3)) ) (va_cwS 3 hts gX6_pulled_X2_leakAt rfl rfl rfl (by decide +kernel) ⟨Nat.le_of_ble_eq_true rfl, Nat.le_of_ble_eq_true rfl⟩) (fun _ _ h => h.2) hP hD hS hA rfl hl.1 rfl (Nat.le_of_ble_eq_true rfl) dX6_pulled_3 ⟨Nat.le_of_ble_eq_true rfl, Nat.le_of_ble_eq_true rfl⟩ (fun r H locs hp_1 hP hD hS => ?_)
  obtain ⟨rfl, -⟩ := hp_1
  exact nw_iret (rm := ({ frames := 3, cells := 0, slots := 0, locals := 65 } : Room)) X hP hD hS (⟨rfl, rfl⟩) dX6_pulled_6
set_option maxHeartbeats 4000000 in
set_option maxRecDepth 100000 in
theorem c_X6_count (lc : Launch) (G : nwG) (b : Nat) (v z li st d : Nat → Nat) (nv : Nat) (fr tt : Nat → Nat) (zl : Nat → Int32) (ld : Nat → Nat) (gk ut : Nat → Int32) (n : Nat) (cu bg : Nat → Int32) (M : Nat → Nat → Int32) (er us : Int32) (ML : Nat → Nat → Int32) (ns : Nat) (w : Nat → Nat) (MS : Nat → Nat → Int32) (nd : Nat) (lo ho : Nat → Int32) (rk : Nat → Nat) (p1 : Int32) (hn : n ≤ 8) (hnv : nv ≤ 12) (hn12 : ns ≤ 12) (hnd : nd ≤ 8) : nwCi lc G yX6_count wsX6_count ({ frames := 1, cells := 0, slots := 0, locals := 23 } : Room) [.ref (b), .int (p1)] ((wN (b) (z 0) (v 0) (li 0) (st 0) (d 0)) ++ ((wV G (v) (z 0) (nv) (fr) (tt) (zl) (ld) (gk) (ut)) ++ ((wZ G (z) (n) (cu) (bg) (M) (er) (us)) ++ ((wL G (li) (ML)) ++ ((wS G (st) (ns) (w) (MS)) ++ ((wD G (d) (nd) (lo) (ho) (rk)))))))) (fun r ww => r = countF n nv ns nd M ML p1 ∧ ww = (wN (b) (z 0) (v 0) (li 0) (st 0) (d 0)) ++ ((wV G (v) (z 0) (nv) (fr) (tt) (zl) (ld) (gk) (ut)) ++ ((wZ G (z) (n) (cu) (bg) (M) (er) (us)) ++ ((wL G (li) (ML)) ++ ((wS G (st) (ns) (w) (MS)) ++ ((wD G (d) (nd) (lo) (ho) (rk)))))))) := by
  refine nw_of (cc := cX6_count) (maxL := 2) (ret := (some .int)) (by decide) rfl (Nat.le_of_ble_eq_true rfl) ?_
  intro vp ve vs vm vb vt vc vA ls X hP hD hA hS hl
  have X : nwAt vp vm vc cX6_count 2 vs _ wsX6_count RX6 vt (some .int) "count" G := X
  have hx := X.1.1
  have hb := X.1.2.1
  have hown := X.1.2.2.2.1
  have hts := X.1.2.2.2.2
  have hK := X.2.2.2.2
  have hl : lv_has ls 2 [(0, .ref (b)), (1, .int (p1))] := hl
  refine lv_iload_n hx hb dX6_count_0 rfl (lv_at hl 1 rfl) ?_
  by_cases hw0 : p1 = 0
  · skip
    refine nw_st (st' := [.int 0]) (by rw [hw0]) ?_
    refine lv_tableIn (off := 39) (tgt := 40) hx hb dX6_count_1 (by decide) (by decide) (by rfl) (by decide) ?_
    have hl := lv_sub (l' := [(0, .ref (b))]) hl [0] rfl
    refine lv_aload_n hx hb dX6_count_40 rfl (lv_at hl 0 rfl) ?_
    refine va_get (D := G.1) (ci := 5) (v := .ref (z 0)) (C := RX6) (T := TX6) (N := 5) hx hb hts in_X6_count_X6 hown hK.1 hP 0 rfl rfl 0 (by decide) (hts (Cond.fieldLink RX6 10 "NightWater" "zones" "LNightWater$Zones;") (List.mem_of_getElem? (i := 1) rfl)) (fun _ h9 => h9) rfl dX6_count_41 ?_
    refine nw_Vi (As := []) (rest := []) (q0 := 0) X (c_X5_number lc G (z) (n) (cu) (bg) (M) (er) (us) ) (cwV 0 hts gX6_count_X5_number rfl rfl rfl (by decide +kernel) ⟨Nat.le_of_ble_eq_true rfl, Nat.le_of_ble_eq_true rfl⟩) rfl (show vwCl[4]? = some (RX5, TX5, 7) from rfl) (nwSp.gen ((wN (b) (z 0) (v 0) (li 0) (st 0) (d 0)) ++ ((wV G (v) (z 0) (nv) (fr) (tt) (zl) (ld) (gk) (ut)))) ((wZ G (z) (n) (cu) (bg) (M) (er) (us))) ((wL G (li) (ML)) ++ ((wS G (st) (ns) (w) (MS)) ++ ((wD G (d) (nd) (lo) (ho) (rk))))) (f := fun q9 => (wN (b) (z 0) (v 0) (li 0) (st 0) (d 0)) ++ ((wV G (v) (z 0) (nv) (fr) (tt) (zl) (ld) (gk) (ut)) ++ (q9 ++ ((wL G (li) (ML)) ++ ((wS G (st) (ns) (w) (MS)) ++ ((wD G (d) (nd) (lo) (ho) (rk)))))))) (by simp only [List.append_assoc, List.nil_append, List.append_nil]) (fun q9 => by simp only [List.append_assoc, List.nil_append, List.append_nil])) hP hD hS hA rfl hl.1 rfl (Nat.le_of_ble_eq_true rfl) dX6_count_44 ⟨Nat.le_of_ble_eq_true rfl, Nat.le_of_ble_eq_true rfl⟩ (fun r w H locs hp_1 hP hD hS => ?_)
    obtain ⟨rfl, rfl⟩ := hp_1
    have hP : va_P G.1 vwCl ((wN (b) (z 0) (v 0) (li 0) (st 0) (d 0)) ++ ((wV G (v) (z 0) (nv) (fr) (tt) (zl) (ld) (gk) (ut)) ++ ((wZ G (z) (n) (cu) (bg) (M) (er) (us)) ++ ((wL G (li) (ML)) ++ ((wS G (st) (ns) (w) (MS)) ++ ((wD G (d) (nd) (lo) (ho) (rk)))))))) H := hP
    have hD : va_D vA ((wN (b) (z 0) (v 0) (li 0) (st 0) (d 0)) ++ ((wV G (v) (z 0) (nv) (fr) (tt) (zl) (ld) (gk) (ut)) ++ ((wZ G (z) (n) (cu) (bg) (M) (er) (us)) ++ ((wL G (li) (ML)) ++ ((wS G (st) (ns) (w) (MS)) ++ ((wD G (d) (nd) (lo) (ho) (rk)))))))) := hD
    exact nw_iret (rm := ({ frames := 1, cells := 0, slots := 0, locals := 23 } : Room)) X hP hD hS (⟨by simp only [countF, nwIf_T, nwIf_F, or_true, true_or, or_false, false_or, and_true, true_and, and_false, false_and, not_true_eq_false, not_false_eq_true, Nat.add_sub_cancel, eq_true hw0], rfl⟩) dX6_count_47
  by_cases hw1 : p1 = 1
  · skip
    refine nw_st (st' := [.int 1]) (by rw [hw1]) ?_
    refine lv_tableIn (off := 47) (tgt := 48) hx hb dX6_count_1 (by decide) (by decide) (by rfl) (by decide) ?_
    have hl := lv_sub (l' := [(0, .ref (b))]) hl [0] rfl
    refine lv_aload_n hx hb dX6_count_48 rfl (lv_at hl 0 rfl) ?_
    refine va_get (D := G.1) (ci := 5) (v := .ref (v 0)) (C := RX6) (T := TX6) (N := 5) hx hb hts in_X6_count_X6 hown hK.1 hP 0 rfl rfl 1 (by decide) (hts (Cond.fieldLink RX6 21 "NightWater" "valves" "LNightWater$Valves;") (List.mem_of_getElem? (i := 2) rfl)) (fun _ h9 => h9) rfl dX6_count_49 ?_
    refine nw_Vi (As := []) (rest := []) (q0 := 0) X (c_X4_number lc G (v) (nv) (fr) (tt) (zl) (ld) (gk) (ut) (z) (n) (cu) (bg) (M) (er) (us) ) (cwV 0 hts gX6_count_X4_number rfl rfl rfl (by decide +kernel) ⟨Nat.le_of_ble_eq_true rfl, Nat.le_of_ble_eq_true rfl⟩) rfl (show vwCl[3]? = some (RX4, TX4, 8) from rfl) (nwSp.gen ((wN (b) (z 0) (v 0) (li 0) (st 0) (d 0))) ((wV G (v) (z 0) (nv) (fr) (tt) (zl) (ld) (gk) (ut)) ++ ((wZ G (z) (n) (cu) (bg) (M) (er) (us)))) ((wL G (li) (ML)) ++ ((wS G (st) (ns) (w) (MS)) ++ ((wD G (d) (nd) (lo) (ho) (rk))))) (f := fun q9 => (wN (b) (z 0) (v 0) (li 0) (st 0) (d 0)) ++ (q9 ++ ((wL G (li) (ML)) ++ ((wS G (st) (ns) (w) (MS)) ++ ((wD G (d) (nd) (lo) (ho) (rk))))))) (by simp only [List.append_assoc, List.nil_append, List.append_nil]) (fun q9 => by simp only [List.append_assoc, List.nil_append, List.append_nil])) hP hD hS hA rfl hl.1 rfl (Nat.le_of_ble_eq_true rfl) dX6_count_52 ⟨Nat.le_of_ble_eq_true rfl, Nat.le_of_ble_eq_true rfl⟩ (fun r w H locs hp_2 hP hD hS => ?_)
    obtain ⟨rfl, rfl⟩ := hp_2
    simp only [List.append_assoc] at hP hD
    have hP : va_P G.1 vwCl ((wN (b) (z 0) (v 0) (li 0) (st 0) (d 0)) ++ ((wV G (v) (z 0) (nv) (fr) (tt) (zl) (ld) (gk) (ut)) ++ ((wZ G (z) (n) (cu) (bg) (M) (er) (us)) ++ ((wL G (li) (ML)) ++ ((wS G (st) (ns) (w) (MS)) ++ ((wD G (d) (nd) (lo) (ho) (rk)))))))) H := hP
    have hD : va_D vA ((wN (b) (z 0) (v 0) (li 0) (st 0) (d 0)) ++ ((wV G (v) (z 0) (nv) (fr) (tt) (zl) (ld) (gk) (ut)) ++ ((wZ G (z) (n) (cu) (bg) (M) (er) (us)) ++ ((wL G (li) (ML)) ++ ((wS G (st) (ns) (w) (MS)) ++ ((wD G (d) (nd) (lo) (ho) (rk)))))))) := hD
    exact nw_iret (rm := ({ frames := 1, cells := 0, slots := 0, locals := 23 } : Room)) X hP hD hS (⟨by simp only [countF, nwIf_T, nwIf_F, or_true, true_or, or_false, false_or, and_true, true_and, and_false, false_and, not_true_eq_false, not_false_eq_true, Nat.add_sub_cancel, hw0, eq_true hw1], rfl⟩) dX6_count_55
  by_cases hw2 : p1 = 2
  · skip
    refine nw_st (st' := [.int 2]) (by rw [hw2]) ?_
    refine lv_tableIn (off := 55) (tgt := 56) hx hb dX6_count_1 (by decide) (by decide) (by rfl) (by decide) ?_
    have hl := lv_sub (l' := [(0, .ref (b))]) hl [0] rfl
    refine lv_aload_n hx hb dX6_count_56 rfl (lv_at hl 0 rfl) ?_
    refine va_get (D := G.1) (ci := 5) (v := .ref (st 0)) (C := RX6) (T := TX6) (N := 5) hx hb hts in_X6_count_X6 hown hK.1 hP 0 rfl rfl 3 (by decide) (hts (Cond.fieldLink RX6 35 "NightWater" "steps" "LNightWater$Steps;") (List.mem_of_getElem? (i := 3) rfl)) (fun _ h9 => h9) rfl dX6_count_57 ?_
    refine nw_Vi (As := []) (rest := []) (q0 := 0) X (c_X3_number lc G (st) (ns) (w) (MS) ) (cwV 0 hts gX6_count_X3_number rfl rfl rfl (by decide +kernel) ⟨Nat.le_of_ble_eq_true rfl, Nat.le_of_ble_eq_true rfl⟩) rfl (show vwCl[2]? = some (RX3, TX3, 4) from rfl) (nwSp.gen ((wN (b) (z 0) (v 0) (li 0) (st 0) (d 0)) ++ ((wV G (v) (z 0) (nv) (fr) (tt) (zl) (ld) (gk) (ut)) ++ ((wZ G (z) (n) (cu) (bg) (M) (er) (us)) ++ ((wL G (li) (ML)))))) ((wS G (st) (ns) (w) (MS))) ((wD G (d) (nd) (lo) (ho) (rk))) (f := fun q9 => (wN (b) (z 0) (v 0) (li 0) (st 0) (d 0)) ++ ((wV G (v) (z 0) (nv) (fr) (tt) (zl) (ld) (gk) (ut)) ++ ((wZ G (z) (n) (cu) (bg) (M) (er) (us)) ++ ((wL G (li) (ML)) ++ (q9 ++ ((wD G (d) (nd) (lo) (ho) (rk)))))))) (by simp only [List.append_assoc, List.nil_append, List.append_nil]) (fun q9 => by simp only [List.append_assoc, List.nil_append, List.append_nil])) hP hD hS hA rfl hl.1 rfl (Nat.le_of_ble_eq_true rfl) dX6_count_60 ⟨Nat.le_of_ble_eq_true rfl, Nat.le_of_ble_eq_true rfl⟩ (fun r w H locs hp_3 hP hD hS => ?_)
    obtain ⟨rfl, rfl⟩ := hp_3
    have hP : va_P G.1 vwCl ((wN (b) (z 0) (v 0) (li 0) (st 0) (d 0)) ++ ((wV G (v) (z 0) (nv) (fr) (tt) (zl) (ld) (gk) (ut)) ++ ((wZ G (z) (n) (cu) (bg) (M) (er) (us)) ++ ((wL G (li) (ML)) ++ ((wS G (st) (ns) (w) (MS)) ++ ((wD G (d) (nd) (lo) (ho) (rk)))))))) H := hP
    have hD : va_D vA ((wN (b) (z 0) (v 0) (li 0) (st 0) (d 0)) ++ ((wV G (v) (z 0) (nv) (fr) (tt) (zl) (ld) (gk) (ut)) ++ ((wZ G (z) (n) (cu) (bg) (M) (er) (us)) ++ ((wL G (li) (ML)) ++ ((wS G (st) (ns) (w) (MS)) ++ ((wD G (d) (nd) (lo) (ho) (rk)))))))) := hD
    exact nw_iret (rm := ({ frames := 1, cells := 0, slots := 0, locals := 23 } : Room)) X hP hD hS (⟨by simp only [countF, nwIf_T, nwIf_F, or_true, true_or, or_false, false_or, and_true, true_and, and_false, false_and, not_true_eq_false, not_false_eq_true, Nat.add_sub_cancel, hw0, hw1, eq_true hw2], rfl⟩) dX6_count_63
  by_cases hw3 : p1 = 3
  · skip
    refine nw_st (st' := [.int 3]) (by rw [hw3]) ?_
    refine lv_tableIn (off := 63) (tgt := 64) hx hb dX6_count_1 (by decide) (by decide) (by rfl) (by decide) ?_
    have hl := lv_sub (l' := [(0, .ref (b))]) hl [0] rfl
    refine lv_aload_n hx hb dX6_count_64 rfl (lv_at hl 0 rfl) ?_
    refine va_get (D := G.1) (ci := 5) (v := .ref (d 0)) (C := RX6) (T := TX6) (N := 5) hx hb hts in_X6_count_X6 hown hK.1 hP 0 rfl rfl 4 (by decide) (hts (Cond.fieldLink RX6 42 "NightWater" "digs" "LNightWater$Digs;") (List.mem_of_getElem? (i := 4) rfl)) (fun _ h9 => h9) rfl dX6_count_65 ?_
    refine nw_Vi (As := []) (rest := []) (q0 := 0) X (c_X0_number lc G (d) (nd) (lo) (ho) (rk) ) (cwV 0 hts gX6_count_X0_number rfl rfl rfl (by decide +kernel) ⟨Nat.le_of_ble_eq_true rfl, Nat.le_of_ble_eq_true rfl⟩) rfl (show vwCl[0]? = some (RX0, TX0, 4) from rfl) (nwSp.gen ((wN (b) (z 0) (v 0) (li 0) (st 0) (d 0)) ++ ((wV G (v) (z 0) (nv) (fr) (tt) (zl) (ld) (gk) (ut)) ++ ((wZ G (z) (n) (cu) (bg) (M) (er) (us)) ++ ((wL G (li) (ML)) ++ ((wS G (st) (ns) (w) (MS))))))) ((wD G (d) (nd) (lo) (ho) (rk))) ([]) (f := fun q9 => (wN (b) (z 0) (v 0) (li 0) (st 0) (d 0)) ++ ((wV G (v) (z 0) (nv) (fr) (tt) (zl) (ld) (gk) (ut)) ++ ((wZ G (z) (n) (cu) (bg) (M) (er) (us)) ++ ((wL G (li) (ML)) ++ ((wS G (st) (ns) (w) (MS)) ++ (q9)))))) (by simp only [List.append_assoc, List.nil_append, List.append_nil]) (fun q9 => by simp only [List.append_assoc, List.nil_append, List.append_nil])) hP hD hS hA rfl hl.1 rfl (Nat.le_of_ble_eq_true rfl) dX6_count_68 ⟨Nat.le_of_ble_eq_true rfl, Nat.le_of_ble_eq_true rfl⟩ (fun r w H locs hp_4 hP hD hS => ?_)
    obtain ⟨rfl, rfl⟩ := hp_4
    have hP : va_P G.1 vwCl ((wN (b) (z 0) (v 0) (li 0) (st 0) (d 0)) ++ ((wV G (v) (z 0) (nv) (fr) (tt) (zl) (ld) (gk) (ut)) ++ ((wZ G (z) (n) (cu) (bg) (M) (er) (us)) ++ ((wL G (li) (ML)) ++ ((wS G (st) (ns) (w) (MS)) ++ ((wD G (d) (nd) (lo) (ho) (rk)))))))) H := hP
    have hD : va_D vA ((wN (b) (z 0) (v 0) (li 0) (st 0) (d 0)) ++ ((wV G (v) (z 0) (nv) (fr) (tt) (zl) (ld) (gk) (ut)) ++ ((wZ G (z) (n) (cu) (bg) (M) (er) (us)) ++ ((wL G (li) (ML)) ++ ((wS G (st) (ns) (w) (MS)) ++ ((wD G (d) (nd) (lo) (ho) (rk)))))))) := hD
    exact nw_iret (rm := ({ frames := 1, cells := 0, slots := 0, locals := 23 } : Room)) X hP hD hS (⟨by simp only [countF, nwIf_T, nwIf_F, or_true, true_or, or_false, false_or, and_true, true_and, and_false, false_and, not_true_eq_false, not_false_eq_true, Nat.add_sub_cancel, hw0, hw1, hw2, eq_true hw3], rfl⟩) dX6_count_71
  by_cases hw4 : p1 = 4
  · skip
    refine nw_st (st' := [.int 4]) (by rw [hw4]) ?_
    refine lv_tableIn (off := 71) (tgt := 72) hx hb dX6_count_1 (by decide) (by decide) (by rfl) (by decide) ?_
    have hl := lv_sub (l' := [(0, .ref (b))]) hl [0] rfl
    refine lv_aload_n hx hb dX6_count_72 rfl (lv_at hl 0 rfl) ?_
    refine va_get (D := G.1) (ci := 5) (v := .ref (z 0)) (C := RX6) (T := TX6) (N := 5) hx hb hts in_X6_count_X6 hown hK.1 hP 0 rfl rfl 0 (by decide) (hts (Cond.fieldLink RX6 10 "NightWater" "zones" "LNightWater$Zones;") (List.mem_of_getElem? (i := 1) rfl)) (fun _ h9 => h9) rfl dX6_count_73 ?_
    refine nw_Vi (As := []) (rest := []) (q0 := 0) X (c_X5_readingsLost lc G (z) (n) (cu) (bg) (M) (er) (us) (by first | assumption | omega)) (cwV 0 hts gX6_count_X5_readingsLost rfl rfl rfl (by decide +kernel) ⟨Nat.le_of_ble_eq_true rfl, Nat.le_of_ble_eq_true rfl⟩) rfl (show vwCl[4]? = some (RX5, TX5, 7) from rfl) (nwSp.gen ((wN (b) (z 0) (v 0) (li 0) (st 0) (d 0)) ++ ((wV G (v) (z 0) (nv) (fr) (tt) (zl) (ld) (gk) (ut)))) ((wZ G (z) (n) (cu) (bg) (M) (er) (us))) ((wL G (li) (ML)) ++ ((wS G (st) (ns) (w) (MS)) ++ ((wD G (d) (nd) (lo) (ho) (rk))))) (f := fun q9 => (wN (b) (z 0) (v 0) (li 0) (st 0) (d 0)) ++ ((wV G (v) (z 0) (nv) (fr) (tt) (zl) (ld) (gk) (ut)) ++ (q9 ++ ((wL G (li) (ML)) ++ ((wS G (st) (ns) (w) (MS)) ++ ((wD G (d) (nd) (lo) (ho) (rk)))))))) (by simp only [List.append_assoc, List.nil_append, List.append_nil]) (fun q9 => by simp only [List.append_assoc, List.nil_append, List.append_nil])) hP hD hS hA rfl hl.1 rfl (Nat.le_of_ble_eq_true rfl) dX6_count_76 ⟨Nat.le_of_ble_eq_true rfl, Nat.le_of_ble_eq_true rfl⟩ (fun r w H locs hp_5 hP hD hS => ?_)
    obtain ⟨rfl, rfl⟩ := hp_5
    have hP : va_P G.1 vwCl ((wN (b) (z 0) (v 0) (li 0) (st 0) (d 0)) ++ ((wV G (v) (z 0) (nv) (fr) (tt) (zl) (ld) (gk) (ut)) ++ ((wZ G (z) (n) (cu) (bg) (M) (er) (us)) ++ ((wL G (li) (ML)) ++ ((wS G (st) (ns) (w) (MS)) ++ ((wD G (d) (nd) (lo) (ho) (rk)))))))) H := hP
    have hD : va_D vA ((wN (b) (z 0) (v 0) (li 0) (st 0) (d 0)) ++ ((wV G (v) (z 0) (nv) (fr) (tt) (zl) (ld) (gk) (ut)) ++ ((wZ G (z) (n) (cu) (bg) (M) (er) (us)) ++ ((wL G (li) (ML)) ++ ((wS G (st) (ns) (w) (MS)) ++ ((wD G (d) (nd) (lo) (ho) (rk)))))))) := hD
    exact nw_iret (rm := ({ frames := 1, cells := 0, slots := 0, locals := 23 } : Room)) X hP hD hS (⟨by simp only [countF, nwIf_T, nwIf_F, or_true, true_or, or_false, false_or, and_true, true_and, and_false, false_and, not_true_eq_false, not_false_eq_true, Nat.add_sub_cancel, hw0, hw1, hw2, hw3, eq_true hw4], rfl⟩) dX6_count_79
  by_cases hw5 : p1 = 5
  · skip
    refine nw_st (st' := [.int 5]) (by rw [hw5]) ?_
    refine lv_tableIn (off := 79) (tgt := 80) hx hb dX6_count_1 (by decide) (by decide) (by rfl) (by decide) ?_
    have hl := lv_sub (l' := [(0, .ref (b))]) hl [0] rfl
    refine lv_aload_n hx hb dX6_count_80 rfl (lv_at hl 0 rfl) ?_
    refine va_get (D := G.1) (ci := 5) (v := .ref (li 0)) (C := RX6) (T := TX6) (N := 5) hx hb hts in_X6_count_X6 hown hK.1 hP 0 rfl rfl 2 (by decide) (hts (Cond.fieldLink RX6 28 "NightWater" "listeners" "LNightWater$Listeners;") (List.mem_of_getElem? (i := 5) rfl)) (fun _ h9 => h9) rfl dX6_count_81 ?_
    refine nw_Vi (As := []) (rest := []) (q0 := 0) X (c_X1_samplesLost lc G (li) (ML) ) (cwV 0 hts gX6_count_X1_samplesLost rfl rfl rfl (by decide +kernel) ⟨Nat.le_of_ble_eq_true rfl, Nat.le_of_ble_eq_true rfl⟩) rfl (show vwCl[1]? = some (RX1, TX1, 1) from rfl) (nwSp.gen ((wN (b) (z 0) (v 0) (li 0) (st 0) (d 0)) ++ ((wV G (v) (z 0) (nv) (fr) (tt) (zl) (ld) (gk) (ut)) ++ ((wZ G (z) (n) (cu) (bg) (M) (er) (us))))) ((wL G (li) (ML))) ((wS G (st) (ns) (w) (MS)) ++ ((wD G (d) (nd) (lo) (ho) (rk)))) (f := fun q9 => (wN (b) (z 0) (v 0) (li 0) (st 0) (d 0)) ++ ((wV G (v) (z 0) (nv) (fr) (tt) (zl) (ld) (gk) (ut)) ++ ((wZ G (z) (n) (cu) (bg) (M) (er) (us)) ++ (q9 ++ ((wS G (st) (ns) (w) (MS)) ++ ((wD G (d) (nd) (lo) (ho) (rk)))))))) (by simp only [List.append_assoc, List.nil_append, List.append_nil]) (fun q9 => by simp only [List.append_assoc, List.nil_append, List.append_nil])) hP hD hS hA rfl hl.1 rfl (Nat.le_of_ble_eq_true rfl) dX6_count_84 ⟨Nat.le_of_ble_eq_true rfl, Nat.le_of_ble_eq_true rfl⟩ (fun r w H locs hp_6 hP hD hS => ?_)
    obtain ⟨rfl, rfl⟩ := hp_6
    have hP : va_P G.1 vwCl ((wN (b) (z 0) (v 0) (li 0) (st 0) (d 0)) ++ ((wV G (v) (z 0) (nv) (fr) (tt) (zl) (ld) (gk) (ut)) ++ ((wZ G (z) (n) (cu) (bg) (M) (er) (us)) ++ ((wL G (li) (ML)) ++ ((wS G (st) (ns) (w) (MS)) ++ ((wD G (d) (nd) (lo) (ho) (rk)))))))) H := hP
    have hD : va_D vA ((wN (b) (z 0) (v 0) (li 0) (st 0) (d 0)) ++ ((wV G (v) (z 0) (nv) (fr) (tt) (zl) (ld) (gk) (ut)) ++ ((wZ G (z) (n) (cu) (bg) (M) (er) (us)) ++ ((wL G (li) (ML)) ++ ((wS G (st) (ns) (w) (MS)) ++ ((wD G (d) (nd) (lo) (ho) (rk)))))))) := hD
    exact nw_iret (rm := ({ frames := 1, cells := 0, slots := 0, locals := 23 } : Room)) X hP hD hS (⟨by simp only [countF, nwIf_T, nwIf_F, or_true, true_or, or_false, false_or, and_true, true_and, and_false, false_and, not_true_eq_false, not_false_eq_true, Nat.add_sub_cancel, hw0, hw1, hw2, hw3, hw4, eq_true hw5], rfl⟩) dX6_count_87
  have hi0 : ¬ p1.toInt = 0 := lv_neT hw0 (by decide)
  have hi1 : ¬ p1.toInt = 1 := lv_neT hw1 (by decide)
  have hi2 : ¬ p1.toInt = 2 := lv_neT hw2 (by decide)
  have hi3 : ¬ p1.toInt = 3 := lv_neT hw3 (by decide)
  have hi4 : ¬ p1.toInt = 4 := lv_neT hw4 (by decide)
  have hi5 : ¬ p1.toInt = 5 := lv_neT hw5 (by decide)
  refine lv_tableOut (tgt := 88) hx hb dX6_count_1 (by omega) (by decide) ?_
  refine lv_bipush (v := (-2)) hx hb dX6_count_88 (by decide) ?_
  exact nw_iret (rm := ({ frames := 1, cells := 0, slots := 0, locals := 23 } : Room)) X hP hD hS (⟨by simp only [countF, nwIf_T, nwIf_F, or_true, true_or, or_false, false_or, and_true, true_and, and_false, false_and, not_true_eq_false, not_false_eq_true, Nat.add_sub_cancel, hw0, hw1, hw2, hw3, hw4, hw5], rfl⟩) dX6_count_90
set_option maxHeartbeats 4000000 in
set_option maxRecDepth 100000 in
theorem c_X6_digest (lc : Launch) (G : nwG) (b : Nat) (v z li st d : Nat → Nat) (nv : Nat) (fr tt : Nat → Nat) (zl : Nat → Int32) (ld : Nat → Nat) (gk ut : Nat → Int32) (n : Nat) (cu bg : Nat → Int32) (M : Nat → Nat → Int32) (er us : Int32) (ML : Nat → Nat → Int32) (ns : Nat) (w : Nat → Nat) (MS : Nat → Nat → Int32) (nd : Nat) (lo ho : Nat → Int32) (rk : Nat → Nat)  (hn : n ≤ 8) (hnv : nv ≤ 12) (hn12 : ns ≤ 12) (hnd : nd ≤ 8) : nwCl lc G yX6_digest wsX6_digest ({ frames := 5, cells := 0, slots := 0, locals := 117 } : Room) [.ref (b)] ((wN (b) (z 0) (v 0) (li 0) (st 0) (d 0)) ++ ((wV G (v) (z 0) (nv) (fr) (tt) (zl) (ld) (gk) (ut)) ++ ((wZ G (z) (n) (cu) (bg) (M) (er) (us)) ++ ((wL G (li) (ML)) ++ ((wS G (st) (ns) (w) (MS)) ++ ((wD G (d) (nd) (lo) (ho) (rk)))))))) (fun r ww => r = ddF lo ho (wdF w (mixR (ML 1) (mixR (ML 0) (vdF fr tt (zdF cu bg M er us (mixC (countF n nv ns nd M ML) 6) n) nv) 64) 64) ns) nd ∧ ww = (wN (b) (z 0) (v 0) (li 0) (st 0) (d 0)) ++ ((wV G (v) (z 0) (nv) (fr) (tt) (zl) (ld) (gk) (ut)) ++ ((wZ G (z) (n) (cu) (bg) (M) (er) (us)) ++ ((wL G (li) (ML)) ++ ((wS G (st) (ns) (w) (MS)) ++ ((wD G (d) (nd) (lo) (ho) (rk)))))))) := by
  refine nw_of (cc := cX6_digest) (maxL := 4) (ret := (some .long)) (by decide) rfl (Nat.le_of_ble_eq_true rfl) ?_
  intro vp ve vs vm vb vt vc vA ls X hP hD hA hS hl
  have X : nwAt vp vm vc cX6_digest 4 vs _ wsX6_digest RX6 vt (some .long) "digest" G := X
  have hx := X.1.1
  have hb := X.1.2.1
  have hown := X.1.2.2.2.1
  have hts := X.1.2.2.2.2
  have hK := X.2.2.2.2
  have hl : lv_has ls 4 [(0, .ref (b))] := hl
  refine lv_ldc2 (own := RX6) (v := (197)) hx hb hown (hts (Cond.constantLong RX6 132 (197)) (List.mem_of_getElem? (i := 1) rfl)) dX6_digest_0 ?_
  refine lv_lstore_n (lv' := [(1, .long (197)), (0, .ref (b))]) hx hb dX6_digest_3 rfl hl (by decide) rfl (fun ls hl => ?_)
  refine lv_iconst (v := (0)) hx hb dX6_digest_4 (by decide) ?_
  refine lv_istore_n (lv' := [(3, .int (0)), (1, .long (197)), (0, .ref (b))]) hx hb dX6_digest_5 rfl hl (by decide) rfl (fun ls hl => ?_)
  have K6 : ∀ (fuel : Nat) (k : Nat) (x1 : Int64) (H : Heap) (locs : List Loc) (ls : Array Slot), (7 - k) < fuel → (k ≤ 6) → (x1 = mixC (countF n nv ns nd M ML) k) → lv_has ls 4 [(3, .int (nI (k))), (1, .long (x1)), (0, .ref (b))] → va_P G.1 vwCl ((wN (b) (z 0) (v 0) (li 0) (st 0) (d 0)) ++ ((wV G (v) (z 0) (nv) (fr) (tt) (zl) (ld) (gk) (ut)) ++ ((wZ G (z) (n) (cu) (bg) (M) (er) (us)) ++ ((wL G (li) (ML)) ++ ((wS G (st) (ns) (w) (MS)) ++ ((wD G (d) (nd) (lo) (ho) (rk)))))))) H → va_D vA ((wN (b) (z 0) (v 0) (li 0) (st 0) (d 0)) ++ ((wV G (v) (z 0) (nv) (fr) (tt) (zl) (ld) (gk) (ut)) ++ ((wZ G (z) (n) (cu) (bg) (M) (er) (us)) ++ ((wL G (li) (ML)) ++ ((wS G (st) (ns) (w) (MS)) ++ ((wD G (d) (nd) (lo) (ho) (rk)))))))) → va_S vA vs.heap H locs → W vp lc ve ({ frames := 5, cells := 0, slots := 0, locals := 117 } : Room) vs vm ([.ref (b)] : List Value).toArray vb vt vc H locs 0 0 (MQ vb (nwQl G (fun r ww => r = ddF lo ho (wdF w (mixR (ML 1) (mixR (ML 0) (vdF fr tt (zdF cu bg M er us (mixC (countF n nv ns nd M ML) 6) n) nv) 64) 64) ns) nd ∧ ww = (wN (b) (z 0) (v 0) (li 0) (st 0) (d 0)) ++ ((wV G (v) (z 0) (nv) (fr) (tt) (zl) (ld) (gk) (ut)) ++ ((wZ G (z) (n) (cu) (bg) (M) (er) (us)) ++ ((wL G (li) (ML)) ++ ((wS G (st) (ns) (w) (MS)) ++ ((wD G (d) (nd) (lo) (ho) (rk)))))))) vA) ([.ref (b)] : List Value).toArray vs ({ frames := 5, cells := 0, slots := 0, locals := 117 } : Room).cells ({ frames := 5, cells := 0, slots := 0, locals := 117 } : Room).slots vA) (F0 vm 6 ls []) := by
    intro fuel
    induction fuel with
    | zero => intro k x1 H locs ls hmu; exact absurd hmu (Nat.not_lt_zero _)
    | succ fuel ih6 =>
      intro k x1 H locs ls hmu hk e1 hl hP hD hS
      refine lv_iload_n hx hb dX6_digest_6 rfl (lv_at hl 0 rfl) ?_
      refine lv_iconst (v := (5)) hx hb dX6_digest_7 (by decide) ?_
      refine lv_icmp_gt (tgt := 27) hx hb dX6_digest_8 (by decide) (fun b8_1 => ?_) (fun b8_1 => ?_)
      · skip
        have b8_1 : (5) < (k) := (nI_ltI (a := 5) (b := k) (by omega) (by omega)).mp b8_1
        have b8_1n : ¬ ((k) ≤ (5)) := by omega
        have e6 : x1 = mixC (countF n nv ns nd M ML) 6 := e1.trans (by rw [show k = 6 by omega])
        refine lv_aload_n hx hb dX6_digest_27 rfl (lv_at hl 2 rfl) ?_
        refine va_get (D := G.1) (ci := 5) (v := .ref (z 0)) (C := RX6) (T := TX6) (N := 5) hx hb hts in_X6_digest_X6 hown hK.1 hP 0 rfl rfl 0 (by decide) (hts (Cond.fieldLink RX6 10 "NightWater" "zones" "LNightWater$Zones;") (List.mem_of_getElem? (i := 2) rfl)) (fun _ h9 => h9) rfl dX6_digest_28 ?_
        refine lv_lload_n hx hb dX6_digest_31 rfl (lv_at hl 1 rfl) ?_
        refine nw_Vl (As := [.long (x1)]) (rest := []) (q0 := 0) X (c_X5_mixInto lc G (z) (n) (cu) (bg) (M) (er) (us) ((x1)) (by first | assumption | omega)) (cwV 1 hts gX6_digest_X5_mixInto rfl rfl rfl (by decide +kernel) ⟨Nat.le_of_ble_eq_true rfl, Nat.le_of_ble_eq_true rfl⟩) rfl (show vwCl[4]? = some (RX5, TX5, 7) from rfl) (nwSp.gen ((wN (b) (z 0) (v 0) (li 0) (st 0) (d 0)) ++ ((wV G (v) (z 0) (nv) (fr) (tt) (zl) (ld) (gk) (ut)))) ((wZ G (z) (n) (cu) (bg) (M) (er) (us))) ((wL G (li) (ML)) ++ ((wS G (st) (ns) (w) (MS)) ++ ((wD G (d) (nd) (lo) (ho) (rk))))) (f := fun q9 => (wN (b) (z 0) (v 0) (li 0) (st 0) (d 0)) ++ ((wV G (v) (z 0) (nv) (fr) (tt) (zl) (ld) (gk) (ut)) ++ (q9 ++ ((wL G (li) (ML)) ++ ((wS G (st) (ns) (w) (MS)) ++ ((wD G (d) (nd) (lo) (ho) (rk)))))))) (by simp only [List.append_assoc, List.nil_append, List.append_nil]) (fun q9 => by simp only [List.append_assoc, List.nil_append, List.append_nil])) hP hD hS hA rfl hl.1 rfl (Nat.le_of_ble_eq_true rfl) dX6_digest_32 ⟨Nat.le_of_ble_eq_true rfl, Nat.le_of_ble_eq_true rfl⟩ (fun r w H locs hp_2 hP hD hS => ?_)
        obtain ⟨rfl, rfl⟩ := hp_2
        have hP : va_P G.1 vwCl ((wN (b) (z 0) (v 0) (li 0) (st 0) (d 0)) ++ ((wV G (v) (z 0) (nv) (fr) (tt) (zl) (ld) (gk) (ut)) ++ ((wZ G (z) (n) (cu) (bg) (M) (er) (us)) ++ ((wL G (li) (ML)) ++ ((wS G (st) (ns) (w) (MS)) ++ ((wD G (d) (nd) (lo) (ho) (rk)))))))) H := hP
        have hD : va_D vA ((wN (b) (z 0) (v 0) (li 0) (st 0) (d 0)) ++ ((wV G (v) (z 0) (nv) (fr) (tt) (zl) (ld) (gk) (ut)) ++ ((wZ G (z) (n) (cu) (bg) (M) (er) (us)) ++ ((wL G (li) (ML)) ++ ((wS G (st) (ns) (w) (MS)) ++ ((wD G (d) (nd) (lo) (ho) (rk)))))))) := hD
        refine lv_lstore_n (lv' := [(1, .long (zdF (cu) (bg) (M) (er) (us) ((x1)) (n))), (3, .int (nI (k))), (0, .ref (b))]) hx hb dX6_digest_35 rfl hl (by decide) rfl (fun ls hl => ?_)
        refine lv_aload_n hx hb dX6_digest_36 rfl (lv_at hl 2 rfl) ?_
        refine va_get (D := G.1) (ci := 5) (v := .ref (v 0)) (C := RX6) (T := TX6) (N := 5) hx hb hts in_X6_digest_X6 hown hK.1 hP 0 rfl rfl 1 (by decide) (hts (Cond.fieldLink RX6 21 "NightWater" "valves" "LNightWater$Valves;") (List.mem_of_getElem? (i := 3) rfl)) (fun _ h9 => h9) rfl dX6_digest_37 ?_
        refine lv_lload_n hx hb dX6_digest_40 rfl (lv_at hl 0 rfl) ?_
        refine nw_Vl (As := [.long (zdF (cu) (bg) (M) (er) (us) ((x1)) (n))]) (rest := []) (q0 := 0) X (c_X4_mixInto lc G (v) (nv) (fr) (tt) (zl) (ld) (gk) (ut) (z) (n) (cu) (bg) (M) (er) (us) ((zdF (cu) (bg) (M) (er) (us) ((x1)) (n))) (by first | assumption | omega)) (cwV 1 hts gX6_digest_X4_mixInto rfl rfl rfl (by decide +kernel) ⟨Nat.le_of_ble_eq_true rfl, Nat.le_of_ble_eq_true rfl⟩) rfl (show vwCl[3]? = some (RX4, TX4, 8) from rfl) (nwSp.gen ((wN (b) (z 0) (v 0) (li 0) (st 0) (d 0))) ((wV G (v) (z 0) (nv) (fr) (tt) (zl) (ld) (gk) (ut)) ++ ((wZ G (z) (n) (cu) (bg) (M) (er) (us)))) ((wL G (li) (ML)) ++ ((wS G (st) (ns) (w) (MS)) ++ ((wD G (d) (nd) (lo) (ho) (rk))))) (f := fun q9 => (wN (b) (z 0) (v 0) (li 0) (st 0) (d 0)) ++ (q9 ++ ((wL G (li) (ML)) ++ ((wS G (st) (ns) (w) (MS)) ++ ((wD G (d) (nd) (lo) (ho) (rk))))))) (by simp only [List.append_assoc, List.nil_append, List.append_nil]) (fun q9 => by simp only [List.append_assoc, List.nil_append, List.append_nil])) hP hD hS hA rfl hl.1 rfl (Nat.le_of_ble_eq_true rfl) dX6_digest_41 ⟨Nat.le_of_ble_eq_true rfl, Nat.le_of_ble_eq_true rfl⟩ (fun r w H locs hp_3 hP hD hS => ?_)
        obtain ⟨rfl, rfl⟩ := hp_3
        simp only [List.append_assoc] at hP hD
        have hP : va_P G.1 vwCl ((wN (b) (z 0) (v 0) (li 0) (st 0) (d 0)) ++ ((wV G (v) (z 0) (nv) (fr) (tt) (zl) (ld) (gk) (ut)) ++ ((wZ G (z) (n) (cu) (bg) (M) (er) (us)) ++ ((wL G (li) (ML)) ++ ((wS G (st) (ns) (w) (MS)) ++ ((wD G (d) (nd) (lo) (ho) (rk)))))))) H := hP
        have hD : va_D vA ((wN (b) (z 0) (v 0) (li 0) (st 0) (d 0)) ++ ((wV G (v) (z 0) (nv) (fr) (tt) (zl) (ld) (gk) (ut)) ++ ((wZ G (z) (n) (cu) (bg) (M) (er) (us)) ++ ((wL G (li) (ML)) ++ ((wS G (st) (ns) (w) (MS)) ++ ((wD G (d) (nd) (lo) (ho) (rk)))))))) := hD
        refine lv_lstore_n (lv' := [(1, .long (vdF (fr) (tt) ((zdF (cu) (bg) (M) (er) (us) ((x1)) (n))) (nv))), (3, .int (nI (k))), (0, .ref (b))]) hx hb dX6_digest_44 rfl hl (by decide) rfl (fun ls hl => ?_)
        refine lv_aload_n hx hb dX6_digest_45 rfl (lv_at hl 2 rfl) ?_
        refine va_get (D := G.1) (ci := 5) (v := .ref (li 0)) (C := RX6) (T := TX6) (N := 5) hx hb hts in_X6_digest_X6 hown hK.1 hP 0 rfl rfl 2 (by decide) (hts (Cond.fieldLink RX6 28 "NightWater" "listeners" "LNightWater$Listeners;") (List.mem_of_getElem? (i := 4) rfl)) (fun _ h9 => h9) rfl dX6_digest_46 ?_
        refine lv_lload_n hx hb dX6_digest_49 rfl (lv_at hl 0 rfl) ?_
        refine nw_Vl (As := [.long (vdF (fr) (tt) ((zdF (cu) (bg) (M) (er) (us) ((x1)) (n))) (nv))]) (rest := []) (q0 := 0) X (c_X1_mixInto lc G (li) (ML) ((vdF (fr) (tt) ((zdF (cu) (bg) (M) (er) (us) ((x1)) (n))) (nv))) ) (cwV 1 hts gX6_digest_X1_mixInto rfl rfl rfl (by decide +kernel) ⟨Nat.le_of_ble_eq_true rfl, Nat.le_of_ble_eq_true rfl⟩) rfl (show vwCl[1]? = some (RX1, TX1, 1) from rfl) (nwSp.gen ((wN (b) (z 0) (v 0) (li 0) (st 0) (d 0)) ++ ((wV G (v) (z 0) (nv) (fr) (tt) (zl) (ld) (gk) (ut)) ++ ((wZ G (z) (n) (cu) (bg) (M) (er) (us))))) ((wL G (li) (ML))) ((wS G (st) (ns) (w) (MS)) ++ ((wD G (d) (nd) (lo) (ho) (rk)))) (f := fun q9 => (wN (b) (z 0) (v 0) (li 0) (st 0) (d 0)) ++ ((wV G (v) (z 0) (nv) (fr) (tt) (zl) (ld) (gk) (ut)) ++ ((wZ G (z) (n) (cu) (bg) (M) (er) (us)) ++ (q9 ++ ((wS G (st) (ns) (w) (MS)) ++ ((wD G (d) (nd) (lo) (ho) (rk)))))))) (by simp only [List.append_assoc, List.nil_append, List.append_nil]) (fun q9 => by simp only [List.append_assoc, List.nil_append, List.append_nil])) hP hD hS hA rfl hl.1 rfl (Nat.le_of_ble_eq_true rfl) dX6_digest_50 ⟨Nat.le_of_ble_eq_true rfl, Nat.le_of_ble_eq_true rfl⟩ (fun r w H locs hp_4 hP hD hS => ?_)
        obtain ⟨rfl, rfl⟩ := hp_4
        have hP : va_P G.1 vwCl ((wN (b) (z 0) (v 0) (li 0) (st 0) (d 0)) ++ ((wV G (v) (z 0) (nv) (fr) (tt) (zl) (ld) (gk) (ut)) ++ ((wZ G (z) (n) (cu) (bg) (M) (er) (us)) ++ ((wL G (li) (ML)) ++ ((wS G (st) (ns) (w) (MS)) ++ ((wD G (d) (nd) (lo) (ho) (rk)))))))) H := hP
        have hD : va_D vA ((wN (b) (z 0) (v 0) (li 0) (st 0) (d 0)) ++ ((wV G (v) (z 0) (nv) (fr) (tt) (zl) (ld) (gk) (ut)) ++ ((wZ G (z) (n) (cu) (bg) (M) (er) (us)) ++ ((wL G (li) (ML)) ++ ((wS G (st) (ns) (w) (MS)) ++ ((wD G (d) (nd) (lo) (ho) (rk)))))))) := hD
        refine lv_lstore_n (lv' := [(1, .long (mixR ((ML) 1) (mixR ((ML) 0) ((vdF (fr) (tt) ((zdF (cu) (bg) (M) (er) (us) ((x1)) (n))) (nv))) 64) 64)), (3, .int (nI (k))), (0, .ref (b))]) hx hb dX6_digest_53 rfl hl (by decide) rfl (fun ls hl => ?_)
        refine lv_aload_n hx hb dX6_digest_54 rfl (lv_at hl 2 rfl) ?_
        refine va_get (D := G.1) (ci := 5) (v := .ref (st 0)) (C := RX6) (T := TX6) (N := 5) hx hb hts in_X6_digest_X6 hown hK.1 hP 0 rfl rfl 3 (by decide) (hts (Cond.fieldLink RX6 35 "NightWater" "steps" "LNightWater$Steps;") (List.mem_of_getElem? (i := 5) rfl)) (fun _ h9 => h9) rfl dX6_digest_55 ?_
        refine lv_lload_n hx hb dX6_digest_58 rfl (lv_at hl 0 rfl) ?_
        refine nw_Vl (As := [.long (mixR ((ML) 1) (mixR ((ML) 0) ((vdF (fr) (tt) ((zdF (cu) (bg) (M) (er) (us) ((x1)) (n))) (nv))) 64) 64)]) (rest := []) (q0 := 0) X (c_X3_mixInto lc G (st) (ns) (w) (MS) ((mixR ((ML) 1) (mixR ((ML) 0) ((vdF (fr) (tt) ((zdF (cu) (bg) (M) (er) (us) ((x1)) (n))) (nv))) 64) 64)) (by first | assumption | omega)) (cwV 1 hts gX6_digest_X3_mixInto rfl rfl rfl (by decide +kernel) ⟨Nat.le_of_ble_eq_true rfl, Nat.le_of_ble_eq_true rfl⟩) rfl (show vwCl[2]? = some (RX3, TX3, 4) from rfl) (nwSp.gen ((wN (b) (z 0) (v 0) (li 0) (st 0) (d 0)) ++ ((wV G (v) (z 0) (nv) (fr) (tt) (zl) (ld) (gk) (ut)) ++ ((wZ G (z) (n) (cu) (bg) (M) (er) (us)) ++ ((wL G (li) (ML)))))) ((wS G (st) (ns) (w) (MS))) ((wD G (d) (nd) (lo) (ho) (rk))) (f := fun q9 => (wN (b) (z 0) (v 0) (li 0) (st 0) (d 0)) ++ ((wV G (v) (z 0) (nv) (fr) (tt) (zl) (ld) (gk) (ut)) ++ ((wZ G (z) (n) (cu) (bg) (M) (er) (us)) ++ ((wL G (li) (ML)) ++ (q9 ++ ((wD G (d) (nd) (lo) (ho) (rk)))))))) (by simp only [List.append_assoc, List.nil_append, List.append_nil]) (fun q9 => by simp only [List.append_assoc, List.nil_append, List.append_nil])) hP hD hS hA rfl hl.1 rfl (Nat.le_of_ble_eq_true rfl) dX6_digest_59 ⟨Nat.le_of_ble_eq_true rfl, Nat.le_of_ble_eq_true rfl⟩ (fun r w H locs hp_5 hP hD hS => ?_)
        obtain ⟨rfl, rfl⟩ := hp_5
        have hP : va_P G.1 vwCl ((wN (b) (z 0) (v 0) (li 0) (st 0) (d 0)) ++ ((wV G (v) (z 0) (nv) (fr) (tt) (zl) (ld) (gk) (ut)) ++ ((wZ G (z) (n) (cu) (bg) (M) (er) (us)) ++ ((wL G (li) (ML)) ++ ((wS G (st) (ns) (w) (MS)) ++ ((wD G (d) (nd) (lo) (ho) (rk)))))))) H := hP
        have hD : va_D vA ((wN (b) (z 0) (v 0) (li 0) (st 0) (d 0)) ++ ((wV G (v) (z 0) (nv) (fr) (tt) (zl) (ld) (gk) (ut)) ++ ((wZ G (z) (n) (cu) (bg) (M) (er) (us)) ++ ((wL G (li) (ML)) ++ ((wS G (st) (ns) (w) (MS)) ++ ((wD G (d) (nd) (lo) (ho) (rk)))))))) := hD
        refine lv_lstore_n (lv' := [(1, .long (wdF (w) ((mixR ((ML) 1) (mixR ((ML) 0) ((vdF (fr) (tt) ((zdF (cu) (bg) (M) (er) (us) ((x1)) (n))) (nv))) 64) 64)) (ns))), (3, .int (nI (k))), (0, .ref (b))]) hx hb dX6_digest_62 rfl hl (by decide) rfl (fun ls hl => ?_)
        refine lv_aload_n hx hb dX6_digest_63 rfl (lv_at hl 2 rfl) ?_
        refine va_get (D := G.1) (ci := 5) (v := .ref (d 0)) (C := RX6) (T := TX6) (N := 5) hx hb hts in_X6_digest_X6 hown hK.1 hP 0 rfl rfl 4 (by decide) (hts (Cond.fieldLink RX6 42 "NightWater" "digs" "LNightWater$Digs;") (List.mem_of_getElem? (i := 6) rfl)) (fun _ h9 => h9) rfl dX6_digest_64 ?_
        refine lv_lload_n hx hb dX6_digest_67 rfl (lv_at hl 0 rfl) ?_
        refine nw_Vl (As := [.long (wdF (w) ((mixR ((ML) 1) (mixR ((ML) 0) ((vdF (fr) (tt) ((zdF (cu) (bg) (M) (er) (us) ((x1)) (n))) (nv))) 64) 64)) (ns))]) (rest := []) (q0 := 0) X (c_X0_mixInto lc G (d) (nd) (lo) (ho) (rk) ((wdF (w) ((mixR ((ML) 1) (mixR ((ML) 0) ((vdF (fr) (tt) ((zdF (cu) (bg) (M) (er) (us) ((x1)) (n))) (nv))) 64) 64)) (ns))) (by first | assumption | omega)) (cwV 1 hts gX6_digest_X0_mixInto rfl rfl rfl (by decide +kernel) ⟨Nat.le_of_ble_eq_true rfl, Nat.le_of_ble_eq_true rfl⟩) rfl (show vwCl[0]? = some (RX0, TX0, 4) from rfl) (nwSp.gen ((wN (b) (z 0) (v 0) (li 0) (st 0) (d 0)) ++ ((wV G (v) (z 0) (nv) (fr) (tt) (zl) (ld) (gk) (ut)) ++ ((wZ G (z) (n) (cu) (bg) (M) (er) (us)) ++ ((wL G (li) (ML)) ++ ((wS G (st) (ns) (w) (MS))))))) ((wD G (d) (nd) (lo) (ho) (rk))) ([]) (f := fun q9 => (wN (b) (z 0) (v 0) (li 0) (st 0) (d 0)) ++ ((wV G (v) (z 0) (nv) (fr) (tt) (zl) (ld) (gk) (ut)) ++ ((wZ G (z) (n) (cu) (bg) (M) (er) (us)) ++ ((wL G (li) (ML)) ++ ((wS G (st) (ns) (w) (MS)) ++ (q9)))))) (by simp only [List.append_assoc, List.nil_append, List.append_nil]) (fun q9 => by simp only [List.append_assoc, List.nil_append, List.append_nil])) hP hD hS hA rfl hl.1 rfl (Nat.le_of_ble_eq_true rfl) dX6_digest_68 ⟨Nat.le_of_ble_eq_true rfl, Nat.le_of_ble_eq_true rfl⟩ (fun r w H locs hp_6 hP hD hS => ?_)
        obtain ⟨rfl, rfl⟩ := hp_6
        have hP : va_P G.1 vwCl ((wN (b) (z 0) (v 0) (li 0) (st 0) (d 0)) ++ ((wV G (v) (z 0) (nv) (fr) (tt) (zl) (ld) (gk) (ut)) ++ ((wZ G (z) (n) (cu) (bg) (M) (er) (us)) ++ ((wL G (li) (ML)) ++ ((wS G (st) (ns) (w) (MS)) ++ ((wD G (d) (nd) (lo) (ho) (rk)))))))) H := hP
        have hD : va_D vA ((wN (b) (z 0) (v 0) (li 0) (st 0) (d 0)) ++ ((wV G (v) (z 0) (nv) (fr) (tt) (zl) (ld) (gk) (ut)) ++ ((wZ G (z) (n) (cu) (bg) (M) (er) (us)) ++ ((wL G (li) (ML)) ++ ((wS G (st) (ns) (w) (MS)) ++ ((wD G (d) (nd) (lo) (ho) (rk)))))))) := hD
        exact nw_lret (rm := ({ frames := 5, cells := 0, slots := 0, locals := 117 } : Room)) X hP hD hS (⟨by rw [e6], rfl⟩) dX6_digest_71
      · skip
        have b8_1 : ¬ ((5) < (k)) := fun h => b8_1 ((nI_ltI (a := 5) (b := k) (by omega) (by omega)).mpr h)
        have b8_1n : (k) ≤ (5) := by omega
        refine lv_lload_n hx hb dX6_digest_11 rfl (lv_at hl 1 rfl) ?_
        refine lv_aload_n hx hb dX6_digest_12 rfl (lv_at hl 2 rfl) ?_
        refine lv_iload_n hx hb dX6_digest_13 rfl (lv_at hl 0 rfl) ?_
        refine nw_Vi (As := [.int (nI (k))]) (rest := [.long (x1)]) (q0 := 0) X (c_X6_count lc G (b) (v) (z) (li) (st) (d) (nv) (fr) (tt) (zl) (ld) (gk) (ut) (n) (cu) (bg) (M) (er) (us) (ML) (ns) (w) (MS) (nd) (lo) (ho) (rk) ((nI (k))) (by first | assumption | omega) (by first | assumption | omega) (by first | assumption | omega) (by first | assumption | omega)) (cwV 1 hts gX6_digest_X6_count rfl rfl rfl (by decide +kernel) ⟨Nat.le_of_ble_eq_true rfl, Nat.le_of_ble_eq_true rfl⟩) rfl (show vwCl[5]? = some (RX6, TX6, 5) from rfl) (nwSp.all ((wN (b) (z 0) (v 0) (li 0) (st 0) (d 0)) ++ ((wV G (v) (z 0) (nv) (fr) (tt) (zl) (ld) (gk) (ut)) ++ ((wZ G (z) (n) (cu) (bg) (M) (er) (us)) ++ ((wL G (li) (ML)) ++ ((wS G (st) (ns) (w) (MS)) ++ ((wD G (d) (nd) (lo) (ho) (rk))))))))) hP hD hS hA rfl hl.1 rfl (Nat.le_of_ble_eq_true rfl) dX6_digest_14 ⟨Nat.le_of_ble_eq_true rfl, Nat.le_of_ble_eq_true rfl⟩ (fun r w H locs hp_7 hP hD hS => ?_)
        obtain ⟨rfl, rfl⟩ := hp_7
        have hP : va_P G.1 vwCl ((wN (b) (z 0) (v 0) (li 0) (st 0) (d 0)) ++ ((wV G (v) (z 0) (nv) (fr) (tt) (zl) (ld) (gk) (ut)) ++ ((wZ G (z) (n) (cu) (bg) (M) (er) (us)) ++ ((wL G (li) (ML)) ++ ((wS G (st) (ns) (w) (MS)) ++ ((wD G (d) (nd) (lo) (ho) (rk)))))))) H := hP
        have hD : va_D vA ((wN (b) (z 0) (v 0) (li 0) (st 0) (d 0)) ++ ((wV G (v) (z 0) (nv) (fr) (tt) (zl) (ld) (gk) (ut)) ++ ((wZ G (z) (n) (cu) (bg) (M) (er) (us)) ++ ((wL G (li) (ML)) ++ ((wS G (st) (ns) (w) (MS)) ++ ((wD G (d) (nd) (lo) (ho) (rk)))))))) := hD
        refine nw_Sl (As := [.long (x1), .int (countF (n) (nv) (ns) (nd) (M) (ML) ((nI (k))))]) (rest := []) X (c_X6_mix lc G ((x1)) ((countF (n) (nv) (ns) (nd) (M) (ML) ((nI (k))))) ) (va_cwS 2 hts gX6_digest_X6_mix rfl rfl rfl (by decide +kernel) ⟨Nat.le_of_ble_eq_true rfl, Nat.le_of_ble_eq_true rfl⟩) (fun _ _ h => h.2) hP hD hS hA rfl hl.1 rfl (Nat.le_of_ble_eq_true rfl) dX6_digest_17 ⟨Nat.le_of_ble_eq_true rfl, Nat.le_of_ble_eq_true rfl⟩ (fun r H locs hp_8 hP hD hS => ?_)
        obtain ⟨rfl, -⟩ := hp_8
        refine lv_lstore_n (lv' := [(1, .long (31 * ((x1)) + (((countF (n) (nv) (ns) (nd) (M) (ML) ((nI (k)))))).toInt64)), (3, .int (nI (k))), (0, .ref (b))]) hx hb dX6_digest_20 rfl hl (by decide) rfl (fun ls hl => ?_)
        refine lv_iinc (v := (nI (k + 1))) (lv' := [(3, .int (nI (k + 1))), (1, .long (31 * ((x1)) + (((countF (n) (nv) (ns) (nd) (M) (ML) ((nI (k)))))).toInt64)), (0, .ref (b))]) hx hb dX6_digest_21 hl (k := 1) rfl (by exact nI_add (k) 1) (by decide) rfl (fun ls hl => ?_)
        refine lv_goto (tgt := 6) hx hb dX6_digest_24 (by decide) ?_
        exact ih6 (k + 1) ((31 * ((x1)) + (((countF (n) (nv) (ns) (nd) (M) (ML) ((nI (k)))))).toInt64)) _ _ _ (by omega) (by omega) (by rw [mixC_s, e1]) (lv_sub hl [0, 1, 2] rfl) hP hD hS
  exact K6 ((7 - (0)) + 1) (0) ((197)) _ _ _ (Nat.lt_succ_self _) (by omega) (by rfl) (lv_sub hl [0, 1, 2] rfl) hP hD hS
