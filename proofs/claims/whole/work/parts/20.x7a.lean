/-! printed by wip/gen/x7a.py: contracts, walked row by row -/
theorem in_X7_findLow_X7 : ∀ w ∈ wsX70, w ∈ wsX7_findLow := by decide +kernel
theorem in_X7_greatest_X7 : ∀ w ∈ wsX70, w ∈ wsX7_greatest := by decide +kernel
theorem in_X7_isZone_X7 : ∀ w ∈ wsX70, w ∈ wsX7_isZone := by decide +kernel
theorem in_X7_leaksOf_X7 : ∀ w ∈ wsX70, w ∈ wsX7_leaksOf := by decide +kernel
theorem in_X7_least_X7 : ∀ w ∈ wsX70, w ∈ wsX7_least := by decide +kernel
theorem in_X7_low_X7 : ∀ w ∈ wsX70, w ∈ wsX7_low := by decide +kernel
theorem in_X7_read_X7 : ∀ w ∈ wsX70, w ∈ wsX7_read := by decide +kernel
theorem in_X7_rules_X7 : ∀ w ∈ wsX70, w ∈ wsX7_rules := by decide +kernel
theorem in_X7_zone_X7 : ∀ w ∈ wsX70, w ∈ wsX7_zone := by decide +kernel
set_option maxHeartbeats 4000000 in
set_option maxRecDepth 100000 in
theorem c_X7_in (lc : Launch) (G : nwG) (v lo hi : Int32)  : nwCi lc G yX7_in wsX7_in ({ frames := 0, cells := 0, slots := 0, locals := 0 } : Room) [.int (v), .int (lo), .int (hi)] ([]) (fun r ww => ((r = 1 ∧ ¬ out v lo hi) ∨ (r = 0 ∧ out v lo hi)) ∧ ww = []) := by
  refine nw_of (cc := cX7_in) (maxL := 3) (ret := (some .boolean)) (by decide) rfl (Nat.le_of_ble_eq_true rfl) ?_
  intro vp ve vs vm vb vt vc vA ls X hP hD hA hS hl
  have X : nwAt vp vm vc cX7_in 3 vs _ wsX7_in RX7 vt (some .boolean) "in" G := X
  have hx := X.1.1
  have hb := X.1.2.1
  have hown := X.1.2.2.2.1
  have hts := X.1.2.2.2.2
  have hK := X.2.2.2.2
  have hl : lv_has ls 3 [(0, .int (v)), (1, .int (lo)), (2, .int (hi))] := hl
  refine lv_iload_n hx hb dX7_in_0 rfl (lv_at hl 0 rfl) ?_
  refine lv_iload_n hx hb dX7_in_1 rfl (lv_at hl 1 rfl) ?_
  refine lv_icmp_lt (tgt := 14) hx hb dX7_in_2 (by decide) (fun b2_1 => ?_) (fun b2_1 => ?_)
  · skip
    have b2_1 : (v) < (lo) := b2_1
    have b2_1n : ¬ ((lo) ≤ (v)) := Int32.not_le.mpr b2_1
    refine lv_iconst (v := (0)) hx hb dX7_in_14 (by decide) ?_
    exact nw_zret (rm := ({ frames := 0, cells := 0, slots := 0, locals := 0 } : Room)) X (by decide) hP hD hS (⟨Or.inr ⟨rfl, by simp only [out, nwIf_T, nwIf_F, or_true, true_or, or_false, false_or, and_true, true_and, and_false, false_and, not_true_eq_false, not_false_eq_true, Nat.add_sub_cancel, b2_1n, b2_1]⟩, rfl⟩) dX7_in_15
  · skip
    have b2_1 : ¬ ((v) < (lo)) := b2_1
    have b2_1n : (lo) ≤ (v) := Int32.not_lt.mp b2_1
    refine lv_iload_n hx hb dX7_in_5 rfl (lv_at hl 0 rfl) ?_
    refine lv_iload_n hx hb dX7_in_6 rfl (lv_at hl 2 rfl) ?_
    refine lv_icmp_gt (tgt := 14) hx hb dX7_in_7 (by decide) (fun b7_2 => ?_) (fun b7_2 => ?_)
    · skip
      have b7_2 : (hi) < (v) := b7_2
      have b7_2n : ¬ ((v) ≤ (hi)) := Int32.not_le.mpr b7_2
      refine lv_iconst (v := (0)) hx hb dX7_in_14 (by decide) ?_
      exact nw_zret (rm := ({ frames := 0, cells := 0, slots := 0, locals := 0 } : Room)) X (by decide) hP hD hS (⟨Or.inr ⟨rfl, by simp only [out, nwIf_T, nwIf_F, or_true, true_or, or_false, false_or, and_true, true_and, and_false, false_and, not_true_eq_false, not_false_eq_true, Nat.add_sub_cancel, b2_1n, b2_1, b7_2n, b7_2]⟩, rfl⟩) dX7_in_15
    · skip
      have b7_2 : ¬ ((hi) < (v)) := b7_2
      have b7_2n : (v) ≤ (hi) := Int32.not_lt.mp b7_2
      refine lv_iconst (v := (1)) hx hb dX7_in_10 (by decide) ?_
      refine lv_goto (tgt := 15) hx hb dX7_in_11 (by decide) ?_
      exact nw_zret (rm := ({ frames := 0, cells := 0, slots := 0, locals := 0 } : Room)) X (by decide) hP hD hS (⟨Or.inl ⟨rfl, by simp only [out, nwIf_T, nwIf_F, or_true, true_or, or_false, false_or, and_true, true_and, and_false, false_and, not_true_eq_false, not_false_eq_true, Nat.add_sub_cancel, b2_1n, b2_1, b7_2n, b7_2]⟩, rfl⟩) dX7_in_15
set_option maxHeartbeats 4000000 in
set_option maxRecDepth 100000 in
theorem c_X7_isZone (lc : Launch) (G : nwG) (a : Nat → Nat) (n : Nat) (cu bg : Nat → Int32) (M : Nat → Nat → Int32) (er us ll lm lh : Int32) (nv : Nat) (fr tt gr : Nat → Nat) (ML : Nat → Nat → Int32) (ns : Nat) (w : Nat → Nat) (cs cl : Nat → Int32) (nd : Nat) (lo ho : Nat → Int32) (so : Nat → Nat) (z : Int32)  : nwCi lc G yX7_isZone wsX7_isZone ({ frames := 1, cells := 0, slots := 0, locals := 22 } : Room) [.ref (a 0), .int (z)] ((wM G (a) (n) (cu) (bg) ((coF M)) ((goF M)) (er) (us) (ll) (lm) (lh) (nv) (fr) (tt) (gr) ((hdF2 ML)) (ns) (w) (cs) (cl) (nd) (lo) (ho) (so))) (fun r ww => ((r = 1 ∧ ¬ out z 0 (nI n - 1)) ∨ (r = 0 ∧ out z 0 (nI n - 1))) ∧ ww = wM G (a) (n) (cu) (bg) ((coF M)) ((goF M)) (er) (us) (ll) (lm) (lh) (nv) (fr) (tt) (gr) ((hdF2 ML)) (ns) (w) (cs) (cl) (nd) (lo) (ho) (so)) := by
  refine nw_of (cc := cX7_isZone) (maxL := 2) (ret := (some .boolean)) (by decide) rfl (Nat.le_of_ble_eq_true rfl) ?_
  intro vp ve vs vm vb vt vc vA ls X hP hD hA hS hl
  have X : nwAt vp vm vc cX7_isZone 2 vs _ wsX7_isZone RX7 vt (some .boolean) "isZone" G := X
  have hx := X.1.1
  have hb := X.1.2.1
  have hown := X.1.2.2.2.1
  have hts := X.1.2.2.2.2
  have hK := X.2.2.2.2
  have hl : lv_has ls 2 [(0, .ref (a 0)), (1, .int (z))] := hl
  refine lv_iload_n hx hb dX7_isZone_0 rfl (lv_at hl 1 rfl) ?_
  refine lv_iconst (v := (0)) hx hb dX7_isZone_1 (by decide) ?_
  refine lv_aload_n hx hb dX7_isZone_2 rfl (lv_at hl 0 rfl) ?_
  refine va_get (D := G.1) (ci := 6) (v := .int (nI (n))) (C := RX7) (T := TX7) (N := 23) hx hb hts in_X7_isZone_X7 hown hK.1 hP 0 rfl rfl 0 (by decide) (hts (.fieldLink RX7 62 "NightWaterModel" "zones" "I") (List.mem_of_getElem? (i := 1) rfl)) (fun _ h9 => h9) rfl dX7_isZone_3 ?_
  refine lv_iconst (v := (1)) hx hb dX7_isZone_6 (by decide) ?_
  refine lv_isub hx hb dX7_isZone_7 ?_
  refine nw_Si (As := [.int (z), .int (0), .int ((nI (n)) - (1 : Int32))]) (rest := []) X (c_X7_in lc G ((z)) ((0 : Int32)) (((nI (n)) - (1 : Int32))) ) (va_cwS 3 hts gX7_isZone_X7_in rfl rfl rfl (by decide +kernel) ⟨Nat.le_of_ble_eq_true rfl, Nat.le_of_ble_eq_true rfl⟩) (fun _ _ h => h.2) hP hD hS hA rfl hl.1 rfl (Nat.le_of_ble_eq_true rfl) dX7_isZone_8 ⟨Nat.le_of_ble_eq_true rfl, Nat.le_of_ble_eq_true rfl⟩ (fun r H locs hp_1 hP hD hS => ?_)
  obtain ⟨⟨rfl, q_2⟩ | ⟨rfl, q_2⟩, -⟩ := hp_1
  · skip
    have q_2 : ¬ out ((z)) ((0 : Int32)) (((nI (n)) - (1 : Int32))) := q_2
    exact nw_zret (rm := ({ frames := 1, cells := 0, slots := 0, locals := 22 } : Room)) X (by decide) hP hD hS (⟨Or.inl ⟨rfl, q_2⟩, rfl⟩) dX7_isZone_11
  · skip
    have q_2 : out ((z)) ((0 : Int32)) (((nI (n)) - (1 : Int32))) := q_2
    exact nw_zret (rm := ({ frames := 1, cells := 0, slots := 0, locals := 22 } : Room)) X (by decide) hP hD hS (⟨Or.inr ⟨rfl, q_2⟩, rfl⟩) dX7_isZone_11
set_option maxHeartbeats 4000000 in
set_option maxRecDepth 100000 in
theorem c_X7_zone (lc : Launch) (G : nwG) (a : Nat → Nat) (n : Nat) (cu bg : Nat → Int32) (M : Nat → Nat → Int32) (er us ll lm lh : Int32) (nv : Nat) (fr tt gr : Nat → Nat) (ML : Nat → Nat → Int32) (ns : Nat) (w : Nat → Nat) (cs cl : Nat → Int32) (nd : Nat) (lo ho : Nat → Int32) (so : Nat → Nat) (p1 p2 : Int32) (hn : n ≤ 8) : nwCi lc G yX7_zone wsX7_zone ({ frames := 1, cells := 0, slots := 0, locals := 22 } : Room) [.ref (a 0), .int (p1), .int (p2)] ((wM G (a) (n) (cu) (bg) ((coF M)) ((goF M)) (er) (us) (ll) (lm) (lh) (nv) (fr) (tt) (gr) ((hdF2 ML)) (ns) (w) (cs) (cl) (nd) (lo) (ho) (so))) (fun r ww => r = zoneF n p1 p2 ∧ ww = wM G (a) (nwIf (zoneOk n p1 p2) (n + 1) n) (nwIf (zoneOk n p1 p2) (va_up cu n p1) cu) (nwIf (zoneOk n p1 p2) (va_up bg n p2) bg) ((coF M)) ((goF M)) (er) (us) (ll) (lm) (lh) (nv) (fr) (tt) (gr) ((hdF2 ML)) (ns) (w) (cs) (cl) (nd) (lo) (ho) (so)) := by
  refine nw_of (cc := cX7_zone) (maxL := 3) (ret := (some .int)) (by decide) rfl (Nat.le_of_ble_eq_true rfl) ?_
  intro vp ve vs vm vb vt vc vA ls X hP hD hA hS hl
  have X : nwAt vp vm vc cX7_zone 3 vs _ wsX7_zone RX7 vt (some .int) "zone" G := X
  have hx := X.1.1
  have hb := X.1.2.1
  have hown := X.1.2.2.2.1
  have hts := X.1.2.2.2.2
  have hK := X.2.2.2.2
  have hl : lv_has ls 3 [(0, .ref (a 0)), (1, .int (p1)), (2, .int (p2))] := hl
  refine lv_iload_n hx hb dX7_zone_0 rfl (lv_at hl 1 rfl) ?_
  refine lv_iconst (v := (0)) hx hb dX7_zone_1 (by decide) ?_
  refine lv_sipush (v := (5000)) hx hb dX7_zone_2 (by decide) ?_
  refine nw_Si (As := [.int (p1), .int (0), .int (5000)]) (rest := []) X (c_X7_in lc G ((p1)) ((0 : Int32)) ((5000 : Int32)) ) (va_cwS 3 hts gX7_zone_X7_in rfl rfl rfl (by decide +kernel) ⟨Nat.le_of_ble_eq_true rfl, Nat.le_of_ble_eq_true rfl⟩) (fun _ _ h => h.2) hP hD hS hA rfl hl.1 rfl (Nat.le_of_ble_eq_true rfl) dX7_zone_5 ⟨Nat.le_of_ble_eq_true rfl, Nat.le_of_ble_eq_true rfl⟩ (fun r H locs hp_1 hP hD hS => ?_)
  obtain ⟨⟨rfl, q_2⟩ | ⟨rfl, q_2⟩, -⟩ := hp_1
  · skip
    have q_2 : ¬ out ((p1)) ((0 : Int32)) ((5000 : Int32)) := q_2
    refine lv_if_eq (tgt := 22) hx hb dX7_zone_8 (by decide) (fun c9 => absurd c9 (by decide)) (fun _ => ?_)
    refine lv_iload_n hx hb dX7_zone_11 rfl (lv_at hl 2 rfl) ?_
    refine lv_iconst (v := (0)) hx hb dX7_zone_12 (by decide) ?_
    refine lv_sipush (v := (5000)) hx hb dX7_zone_13 (by decide) ?_
    refine nw_Si (As := [.int (p2), .int (0), .int (5000)]) (rest := []) X (c_X7_in lc G ((p2)) ((0 : Int32)) ((5000 : Int32)) ) (va_cwS 3 hts gX7_zone_X7_in rfl rfl rfl (by decide +kernel) ⟨Nat.le_of_ble_eq_true rfl, Nat.le_of_ble_eq_true rfl⟩) (fun _ _ h => h.2) hP hD hS hA rfl hl.1 rfl (Nat.le_of_ble_eq_true rfl) dX7_zone_16 ⟨Nat.le_of_ble_eq_true rfl, Nat.le_of_ble_eq_true rfl⟩ (fun r H locs hp_4 hP hD hS => ?_)
    obtain ⟨⟨rfl, q_5⟩ | ⟨rfl, q_5⟩, -⟩ := hp_4
    · skip
      have q_5 : ¬ out ((p2)) ((0 : Int32)) ((5000 : Int32)) := q_5
      refine lv_if_ne (tgt := 25) hx hb dX7_zone_19 (by decide) (fun _ => ?_) (fun c9 => absurd c9 (by decide))
      refine lv_aload_n hx hb dX7_zone_25 rfl (lv_at hl 0 rfl) ?_
      refine va_get (D := G.1) (ci := 6) (v := .int (nI (n))) (C := RX7) (T := TX7) (N := 23) hx hb hts in_X7_zone_X7 hown hK.1 hP 0 rfl rfl 0 (by decide) (hts (.fieldLink RX7 62 "NightWaterModel" "zones" "I") (List.mem_of_getElem? (i := 1) rfl)) (fun _ h9 => h9) rfl dX7_zone_26 ?_
      refine lv_bipush (v := (8)) hx hb dX7_zone_29 (by decide) ?_
      refine lv_icmp_ne (tgt := 37) hx hb dX7_zone_31 (by decide) (fun b31_7 => ?_) (fun b31_7 => ?_)
      · skip
        have b31_7 : ¬ ((n) = (8)) := fun h => b31_7 ((nI_eq (a := n) (b := 8) (by omega) (by omega)).mpr h)
        have hl1 : n < 8 := by omega
        have hl2 : ¬ 8 ≤ n := by omega
        refine lv_aload_n hx hb dX7_zone_37 rfl (lv_at hl 0 rfl) ?_
        refine va_get (D := G.1) (ci := 6) (v := .ref (a 1)) (C := RX7) (T := TX7) (N := 23) hx hb hts in_X7_zone_X7 hown hK.1 hP 0 rfl rfl 1 (by decide) (hts (.fieldLink RX7 7 "NightWaterModel" "customers" "[I") (List.mem_of_getElem? (i := 2) rfl)) (fun _ h9 => h9) rfl dX7_zone_38 ?_
        refine lv_aload_n hx hb dX7_zone_41 rfl (lv_at hl 0 rfl) ?_
        refine va_get (D := G.1) (ci := 6) (v := .int (nI (n))) (C := RX7) (T := TX7) (N := 23) hx hb hts in_X7_zone_X7 hown hK.1 hP 0 rfl rfl 0 (by decide) (hts (.fieldLink RX7 62 "NightWaterModel" "zones" "I") (List.mem_of_getElem? (i := 1) rfl)) (fun _ h9 => h9) rfl dX7_zone_42 ?_
        refine lv_iload_n hx hb dX7_zone_45 rfl (lv_at hl 1 rfl) ?_
        refine nw_iast X hP hD hS 1 (n := 8) (f := cu) rfl (n) rfl (by omega) (by decide) dX7_zone_46 (fun H locs hP hD hS => ?_)
        have hP : va_P G.1 vwCl ((wM G (a) (n) (va_up (cu) (n) (p1)) (bg) ((coF M)) ((goF M)) (er) (us) (ll) (lm) (lh) (nv) (fr) (tt) (gr) ((hdF2 ML)) (ns) (w) (cs) (cl) (nd) (lo) (ho) (so))) H := hP
        have hD : va_D vA ((wM G (a) (n) (va_up (cu) (n) (p1)) (bg) ((coF M)) ((goF M)) (er) (us) (ll) (lm) (lh) (nv) (fr) (tt) (gr) ((hdF2 ML)) (ns) (w) (cs) (cl) (nd) (lo) (ho) (so))) := hD
        refine lv_aload_n hx hb dX7_zone_47 rfl (lv_at hl 0 rfl) ?_
        refine va_get (D := G.1) (ci := 6) (v := .ref (a 2)) (C := RX7) (T := TX7) (N := 23) hx hb hts in_X7_zone_X7 hown hK.1 hP 0 rfl rfl 2 (by decide) (hts (.fieldLink RX7 13 "NightWaterModel" "big" "[I") (List.mem_of_getElem? (i := 3) rfl)) (fun _ h9 => h9) rfl dX7_zone_48 ?_
        refine lv_aload_n hx hb dX7_zone_51 rfl (lv_at hl 0 rfl) ?_
        refine va_get (D := G.1) (ci := 6) (v := .int (nI (n))) (C := RX7) (T := TX7) (N := 23) hx hb hts in_X7_zone_X7 hown hK.1 hP 0 rfl rfl 0 (by decide) (hts (.fieldLink RX7 62 "NightWaterModel" "zones" "I") (List.mem_of_getElem? (i := 1) rfl)) (fun _ h9 => h9) rfl dX7_zone_52 ?_
        refine lv_iload_n hx hb dX7_zone_55 rfl (lv_at hl 2 rfl) ?_
        refine nw_iast X hP hD hS 2 (n := 8) (f := bg) rfl (n) rfl (by omega) (by decide) dX7_zone_56 (fun H locs hP hD hS => ?_)
        have hP : va_P G.1 vwCl ((wM G (a) (n) (va_up (cu) (n) (p1)) (va_up (bg) (n) (p2)) ((coF M)) ((goF M)) (er) (us) (ll) (lm) (lh) (nv) (fr) (tt) (gr) ((hdF2 ML)) (ns) (w) (cs) (cl) (nd) (lo) (ho) (so))) H := hP
        have hD : va_D vA ((wM G (a) (n) (va_up (cu) (n) (p1)) (va_up (bg) (n) (p2)) ((coF M)) ((goF M)) (er) (us) (ll) (lm) (lh) (nv) (fr) (tt) (gr) ((hdF2 ML)) (ns) (w) (cs) (cl) (nd) (lo) (ho) (so))) := hD
        refine lv_aload_n hx hb dX7_zone_57 rfl (lv_at hl 0 rfl) ?_
        refine lv_dup hx hb dX7_zone_58 rfl ?_
        refine va_get (D := G.1) (ci := 6) (v := .int (nI (n))) (C := RX7) (T := TX7) (N := 23) hx hb hts in_X7_zone_X7 hown hK.1 hP 0 rfl rfl 0 (by decide) (hts (.fieldLink RX7 62 "NightWaterModel" "zones" "I") (List.mem_of_getElem? (i := 1) rfl)) (fun _ h9 => h9) rfl dX7_zone_59 ?_
        refine lv_iconst (v := (1)) hx hb dX7_zone_62 (by decide) ?_
        refine lv_iadd hx hb dX7_zone_63 ?_
        refine nw_top (y := nI (n + 1)) (nI_add (n) (1)) ?_
        refine va_put (D := G.1) (ci := 6) (v := .int (nI (n + 1))) (ty := .int) (C := RX7) (T := TX7) (N := 23) hx hb hts in_X7_zone_X7 tyX7 tyX7_ok nmX7 hown hK.1 hP hD hS 0 rfl rfl 0 (by decide) (hts (.fieldLink RX7 62 "NightWaterModel" "zones" "I") (List.mem_of_getElem? (i := 1) rfl)) (fun _ h9 => h9) rfl (by decide +kernel) rfl rfl (Nat.le_of_ble_eq_true rfl) dX7_zone_64 (fun H locs hP hD hS => ?_)
        have hP : va_P G.1 vwCl ((wM G (a) (n + 1) (va_up (cu) (n) (p1)) (va_up (bg) (n) (p2)) ((coF M)) ((goF M)) (er) (us) (ll) (lm) (lh) (nv) (fr) (tt) (gr) ((hdF2 ML)) (ns) (w) (cs) (cl) (nd) (lo) (ho) (so))) H := hP
        have hD : va_D vA ((wM G (a) (n + 1) (va_up (cu) (n) (p1)) (va_up (bg) (n) (p2)) ((coF M)) ((goF M)) (er) (us) (ll) (lm) (lh) (nv) (fr) (tt) (gr) ((hdF2 ML)) (ns) (w) (cs) (cl) (nd) (lo) (ho) (so))) := hD
        refine lv_aload_n hx hb dX7_zone_67 rfl (lv_at hl 0 rfl) ?_
        refine va_get (D := G.1) (ci := 6) (v := .int (nI (n + 1))) (C := RX7) (T := TX7) (N := 23) hx hb hts in_X7_zone_X7 hown hK.1 hP 0 rfl rfl 0 (by decide) (hts (.fieldLink RX7 62 "NightWaterModel" "zones" "I") (List.mem_of_getElem? (i := 1) rfl)) (fun _ h9 => h9) rfl dX7_zone_68 ?_
        refine lv_iconst (v := (1)) hx hb dX7_zone_71 (by decide) ?_
        refine lv_isub hx hb dX7_zone_72 ?_
        refine nw_top (y := nI (n + 1 - 1)) (pk_sub (a := n + 1) (b := 1) (by omega)) ?_
        exact nw_iret (rm := ({ frames := 1, cells := 0, slots := 0, locals := 22 } : Room)) X hP hD hS (by simp only [zoneF, zoneOk, nwIf_T, nwIf_F, or_true, true_or, or_false, false_or, and_true, true_and, and_false, false_and, not_true_eq_false, not_false_eq_true, Nat.add_sub_cancel, q_2, q_5, b31_7, hl1, hl2]) dX7_zone_73
      · skip
        have b31_7 : (n) = (8) := (nI_eq (a := n) (b := 8) (by omega) (by omega)).mp b31_7
        have hl1 : ¬ n < 8 := by omega
        have hl2 : 8 ≤ n := by omega
        refine lv_bipush (v := (-4)) hx hb dX7_zone_34 (by decide) ?_
        exact nw_iret (rm := ({ frames := 1, cells := 0, slots := 0, locals := 22 } : Room)) X hP hD hS (by simp only [zoneF, zoneOk, nwIf_T, nwIf_F, or_true, true_or, or_false, false_or, and_true, true_and, and_false, false_and, not_true_eq_false, not_false_eq_true, Nat.add_sub_cancel, q_2, q_5, eq_true b31_7, hl1, hl2]) dX7_zone_36
    · skip
      have q_5 : out ((p2)) ((0 : Int32)) ((5000 : Int32)) := q_5
      refine lv_if_ne (tgt := 25) hx hb dX7_zone_19 (by decide) (fun c9 => absurd c9 (by decide)) (fun _ => ?_)
      refine lv_bipush (v := (-2)) hx hb dX7_zone_22 (by decide) ?_
      exact nw_iret (rm := ({ frames := 1, cells := 0, slots := 0, locals := 22 } : Room)) X hP hD hS (by simp only [zoneF, zoneOk, nwIf_T, nwIf_F, or_true, true_or, or_false, false_or, and_true, true_and, and_false, false_and, not_true_eq_false, not_false_eq_true, Nat.add_sub_cancel, q_2, q_5]) dX7_zone_24
  · skip
    have q_2 : out ((p1)) ((0 : Int32)) ((5000 : Int32)) := q_2
    refine lv_if_eq (tgt := 22) hx hb dX7_zone_8 (by decide) (fun _ => ?_) (fun c9 => absurd (by decide) c9)
    refine lv_bipush (v := (-2)) hx hb dX7_zone_22 (by decide) ?_
    exact nw_iret (rm := ({ frames := 1, cells := 0, slots := 0, locals := 22 } : Room)) X hP hD hS (by simp only [zoneF, zoneOk, nwIf_T, nwIf_F, or_true, true_or, or_false, false_or, and_true, true_and, and_false, false_and, not_true_eq_false, not_false_eq_true, Nat.add_sub_cancel, q_2]) dX7_zone_24
set_option maxHeartbeats 4000000 in
set_option maxRecDepth 100000 in
theorem c_X7_rules (lc : Launch) (G : nwG) (a : Nat → Nat) (n : Nat) (cu bg : Nat → Int32) (M : Nat → Nat → Int32) (er us ll lm lh : Int32) (nv : Nat) (fr tt gr : Nat → Nat) (ML : Nat → Nat → Int32) (ns : Nat) (w : Nat → Nat) (cs cl : Nat → Int32) (nd : Nat) (lo ho : Nat → Int32) (so : Nat → Nat) (p1 p2 : Int32)  : nwCi lc G yX7_rules wsX7_rules ({ frames := 1, cells := 0, slots := 0, locals := 22 } : Room) [.ref (a 0), .int (p1), .int (p2)] ((wM G (a) (n) (cu) (bg) ((coF M)) ((goF M)) (er) (us) (ll) (lm) (lh) (nv) (fr) (tt) (gr) ((hdF2 ML)) (ns) (w) (cs) (cl) (nd) (lo) (ho) (so))) (fun r ww => r = nwIf (rulesOk p1 p2) 1 (-2) ∧ ww = wM G (a) (n) (cu) (bg) ((coF M)) ((goF M)) (nwIf (rulesOk p1 p2) p1 er) (nwIf (rulesOk p1 p2) p2 us) (ll) (lm) (lh) (nv) (fr) (tt) (gr) ((hdF2 ML)) (ns) (w) (cs) (cl) (nd) (lo) (ho) (so)) := by
  refine nw_of (cc := cX7_rules) (maxL := 3) (ret := (some .int)) (by decide) rfl (Nat.le_of_ble_eq_true rfl) ?_
  intro vp ve vs vm vb vt vc vA ls X hP hD hA hS hl
  have X : nwAt vp vm vc cX7_rules 3 vs _ wsX7_rules RX7 vt (some .int) "rules" G := X
  have hx := X.1.1
  have hb := X.1.2.1
  have hown := X.1.2.2.2.1
  have hts := X.1.2.2.2.2
  have hK := X.2.2.2.2
  have hl : lv_has ls 3 [(0, .ref (a 0)), (1, .int (p1)), (2, .int (p2))] := hl
  refine lv_iload_n hx hb dX7_rules_0 rfl (lv_at hl 1 rfl) ?_
  refine lv_iconst (v := (0)) hx hb dX7_rules_1 (by decide) ?_
  refine lv_sipush (v := (200)) hx hb dX7_rules_2 (by decide) ?_
  refine nw_Si (As := [.int (p1), .int (0), .int (200)]) (rest := []) X (c_X7_in lc G ((p1)) ((0 : Int32)) ((200 : Int32)) ) (va_cwS 3 hts gX7_rules_X7_in rfl rfl rfl (by decide +kernel) ⟨Nat.le_of_ble_eq_true rfl, Nat.le_of_ble_eq_true rfl⟩) (fun _ _ h => h.2) hP hD hS hA rfl hl.1 rfl (Nat.le_of_ble_eq_true rfl) dX7_rules_5 ⟨Nat.le_of_ble_eq_true rfl, Nat.le_of_ble_eq_true rfl⟩ (fun r H locs hp_1 hP hD hS => ?_)
  obtain ⟨⟨rfl, q_2⟩ | ⟨rfl, q_2⟩, -⟩ := hp_1
  · skip
    have q_2 : ¬ out ((p1)) ((0 : Int32)) ((200 : Int32)) := q_2
    refine lv_if_eq (tgt := 21) hx hb dX7_rules_8 (by decide) (fun c9 => absurd c9 (by decide)) (fun _ => ?_)
    refine lv_iload_n hx hb dX7_rules_11 rfl (lv_at hl 2 rfl) ?_
    refine lv_iconst (v := (0)) hx hb dX7_rules_12 (by decide) ?_
    refine lv_bipush (v := (20)) hx hb dX7_rules_13 (by decide) ?_
    refine nw_Si (As := [.int (p2), .int (0), .int (20)]) (rest := []) X (c_X7_in lc G ((p2)) ((0 : Int32)) ((20 : Int32)) ) (va_cwS 3 hts gX7_rules_X7_in rfl rfl rfl (by decide +kernel) ⟨Nat.le_of_ble_eq_true rfl, Nat.le_of_ble_eq_true rfl⟩) (fun _ _ h => h.2) hP hD hS hA rfl hl.1 rfl (Nat.le_of_ble_eq_true rfl) dX7_rules_15 ⟨Nat.le_of_ble_eq_true rfl, Nat.le_of_ble_eq_true rfl⟩ (fun r H locs hp_4 hP hD hS => ?_)
    obtain ⟨⟨rfl, q_5⟩ | ⟨rfl, q_5⟩, -⟩ := hp_4
    · skip
      have q_5 : ¬ out ((p2)) ((0 : Int32)) ((20 : Int32)) := q_5
      refine lv_if_ne (tgt := 24) hx hb dX7_rules_18 (by decide) (fun _ => ?_) (fun c9 => absurd c9 (by decide))
      refine lv_aload_n hx hb dX7_rules_24 rfl (lv_at hl 0 rfl) ?_
      refine lv_iload_n hx hb dX7_rules_25 rfl (lv_at hl 1 rfl) ?_
      refine va_put (D := G.1) (ci := 6) (v := .int (p1)) (ty := .int) (C := RX7) (T := TX7) (N := 23) hx hb hts in_X7_rules_X7 tyX7 tyX7_ok nmX7 hown hK.1 hP hD hS 0 rfl rfl 5 (by decide) (hts (.fieldLink RX7 22 "NightWaterModel" "error" "I") (List.mem_of_getElem? (i := 1) rfl)) (fun _ h9 => h9) rfl (by decide +kernel) rfl rfl (Nat.le_of_ble_eq_true rfl) dX7_rules_26 (fun H locs hP hD hS => ?_)
      have hP : va_P G.1 vwCl ((wM G (a) (n) (cu) (bg) ((coF M)) ((goF M)) ((p1)) (us) (ll) (lm) (lh) (nv) (fr) (tt) (gr) ((hdF2 ML)) (ns) (w) (cs) (cl) (nd) (lo) (ho) (so))) H := hP
      have hD : va_D vA ((wM G (a) (n) (cu) (bg) ((coF M)) ((goF M)) ((p1)) (us) (ll) (lm) (lh) (nv) (fr) (tt) (gr) ((hdF2 ML)) (ns) (w) (cs) (cl) (nd) (lo) (ho) (so))) := hD
      refine lv_aload_n hx hb dX7_rules_29 rfl (lv_at hl 0 rfl) ?_
      refine lv_iload_n hx hb dX7_rules_30 rfl (lv_at hl 2 rfl) ?_
      refine va_put (D := G.1) (ci := 6) (v := .int (p2)) (ty := .int) (C := RX7) (T := TX7) (N := 23) hx hb hts in_X7_rules_X7 tyX7 tyX7_ok nmX7 hown hK.1 hP hD hS 0 rfl rfl 6 (by decide) (hts (.fieldLink RX7 26 "NightWaterModel" "use" "I") (List.mem_of_getElem? (i := 2) rfl)) (fun _ h9 => h9) rfl (by decide +kernel) rfl rfl (Nat.le_of_ble_eq_true rfl) dX7_rules_31 (fun H locs hP hD hS => ?_)
      have hP : va_P G.1 vwCl ((wM G (a) (n) (cu) (bg) ((coF M)) ((goF M)) ((p1)) ((p2)) (ll) (lm) (lh) (nv) (fr) (tt) (gr) ((hdF2 ML)) (ns) (w) (cs) (cl) (nd) (lo) (ho) (so))) H := hP
      have hD : va_D vA ((wM G (a) (n) (cu) (bg) ((coF M)) ((goF M)) ((p1)) ((p2)) (ll) (lm) (lh) (nv) (fr) (tt) (gr) ((hdF2 ML)) (ns) (w) (cs) (cl) (nd) (lo) (ho) (so))) := hD
      refine lv_iconst (v := (1)) hx hb dX7_rules_34 (by decide) ?_
      exact nw_iret (rm := ({ frames := 1, cells := 0, slots := 0, locals := 22 } : Room)) X hP hD hS (by simp only [rulesOk, nwIf_T, nwIf_F, or_true, true_or, or_false, false_or, and_true, true_and, and_false, false_and, not_true_eq_false, not_false_eq_true, Nat.add_sub_cancel, q_2, q_5]) dX7_rules_35
    · skip
      have q_5 : out ((p2)) ((0 : Int32)) ((20 : Int32)) := q_5
      refine lv_if_ne (tgt := 24) hx hb dX7_rules_18 (by decide) (fun c9 => absurd c9 (by decide)) (fun _ => ?_)
      refine lv_bipush (v := (-2)) hx hb dX7_rules_21 (by decide) ?_
      exact nw_iret (rm := ({ frames := 1, cells := 0, slots := 0, locals := 22 } : Room)) X hP hD hS (by simp only [rulesOk, nwIf_T, nwIf_F, or_true, true_or, or_false, false_or, and_true, true_and, and_false, false_and, not_true_eq_false, not_false_eq_true, Nat.add_sub_cancel, q_2, q_5]) dX7_rules_23
  · skip
    have q_2 : out ((p1)) ((0 : Int32)) ((200 : Int32)) := q_2
    refine lv_if_eq (tgt := 21) hx hb dX7_rules_8 (by decide) (fun _ => ?_) (fun c9 => absurd (by decide) c9)
    refine lv_bipush (v := (-2)) hx hb dX7_rules_21 (by decide) ?_
    exact nw_iret (rm := ({ frames := 1, cells := 0, slots := 0, locals := 22 } : Room)) X hP hD hS (by simp only [rulesOk, nwIf_T, nwIf_F, or_true, true_or, or_false, false_or, and_true, true_and, and_false, false_and, not_true_eq_false, not_false_eq_true, Nat.add_sub_cancel, q_2]) dX7_rules_23
set_option maxHeartbeats 4000000 in
set_option maxRecDepth 100000 in
theorem c_X7_read (lc : Launch) (G : nwG) (a : Nat → Nat) (n : Nat) (cu bg : Nat → Int32) (M : Nat → Nat → Int32) (er us ll lm lh : Int32) (nv : Nat) (fr tt gr : Nat → Nat) (ML : Nat → Nat → Int32) (ns : Nat) (w : Nat → Nat) (cs cl : Nat → Int32) (nd : Nat) (lo ho : Nat → Int32) (so : Nat → Nat) (p1 p2 p3 p4 : Int32) (hn : n ≤ 8) : nwCi lc G yX7_read wsX7_read ({ frames := 2, cells := 0, slots := 0, locals := 43 } : Room) [.ref (a 0), .int (p1), .int (p2), .int (p3), .int (p4)] ((wM G (a) (n) (cu) (bg) ((coF M)) ((goF M)) (er) (us) (ll) (lm) (lh) (nv) (fr) (tt) (gr) ((hdF2 ML)) (ns) (w) (cs) (cl) (nd) (lo) (ho) (so))) (fun r ww => r = nwIf (readOk n p1 p2 p4) (M (readRow p1 p3) p2.toNatClampNeg) (-2) ∧ ww = wM G (a) (n) (cu) (bg) ((coF (nwIf (readOk n p1 p2 p4) (nwU2 M (readRow p1 p3) p2.toNatClampNeg p4) M))) ((goF (nwIf (readOk n p1 p2 p4) (nwU2 M (readRow p1 p3) p2.toNatClampNeg p4) M))) (er) (us) (ll) (lm) (lh) (nv) (fr) (tt) (gr) ((hdF2 ML)) (ns) (w) (cs) (cl) (nd) (lo) (ho) (so)) := by
  refine nw_of (cc := cX7_read) (maxL := 7) (ret := (some .int)) (by decide) rfl (Nat.le_of_ble_eq_true rfl) ?_
  intro vp ve vs vm vb vt vc vA ls X hP hD hA hS hl
  have X : nwAt vp vm vc cX7_read 7 vs _ wsX7_read RX7 vt (some .int) "read" G := X
  have hx := X.1.1
  have hb := X.1.2.1
  have hown := X.1.2.2.2.1
  have hts := X.1.2.2.2.2
  have hK := X.2.2.2.2
  have hl : lv_has ls 7 [(0, .ref (a 0)), (1, .int (p1)), (2, .int (p2)), (3, .int (p3)), (4, .int (p4))] := hl
  refine lv_aload_n hx hb dX7_read_0 rfl (lv_at hl 0 rfl) ?_
  refine lv_iload_n hx hb dX7_read_1 rfl (lv_at hl 1 rfl) ?_
  refine nw_Vi (As := [.int (p1)]) (rest := []) (q0 := 0) X (c_X7_isZone lc G (a) (n) (cu) (bg) (M) (er) (us) (ll) (lm) (lh) (nv) (fr) (tt) (gr) (ML) (ns) (w) (cs) (cl) (nd) (lo) (ho) (so) ((p1)) ) (cwV 1 hts gX7_read_X7_isZone rfl rfl rfl (by decide +kernel) ⟨Nat.le_of_ble_eq_true rfl, Nat.le_of_ble_eq_true rfl⟩) rfl (show vwCl[6]? = some (RX7, TX7, 23) from rfl) (nwSp.all ((wM G (a) (n) (cu) (bg) ((coF M)) ((goF M)) (er) (us) (ll) (lm) (lh) (nv) (fr) (tt) (gr) ((hdF2 ML)) (ns) (w) (cs) (cl) (nd) (lo) (ho) (so)))) hP hD hS hA rfl hl.1 rfl (Nat.le_of_ble_eq_true rfl) dX7_read_2 ⟨Nat.le_of_ble_eq_true rfl, Nat.le_of_ble_eq_true rfl⟩ (fun r w H locs hp_1 hP hD hS => ?_)
  obtain ⟨⟨rfl, q_2⟩ | ⟨rfl, q_2⟩, rfl⟩ := hp_1
  · skip
    have hP : va_P G.1 vwCl ((wM G (a) (n) (cu) (bg) ((coF M)) ((goF M)) (er) (us) (ll) (lm) (lh) (nv) (fr) (tt) (gr) ((hdF2 ML)) (ns) (w) (cs) (cl) (nd) (lo) (ho) (so))) H := hP
    have hD : va_D vA ((wM G (a) (n) (cu) (bg) ((coF M)) ((goF M)) (er) (us) (ll) (lm) (lh) (nv) (fr) (tt) (gr) ((hdF2 ML)) (ns) (w) (cs) (cl) (nd) (lo) (ho) (so))) := hD
    have q_2 : ¬ out ((p1)) 0 (nI (n) - 1) := q_2
    obtain ⟨z_3, hz_4, he_5⟩ := nw_lt (n := n) (by omega) q_2
    have ec_6 := nw_clamp he_5 (by omega)
    refine lv_if_eq (tgt := 30) hx hb dX7_read_5 (by decide) (fun c9 => absurd c9 (by decide)) (fun _ => ?_)
    refine lv_iload_n hx hb dX7_read_8 rfl (lv_at hl 2 rfl) ?_
    refine lv_iconst (v := (0)) hx hb dX7_read_9 (by decide) ?_
    refine lv_bipush (v := (23)) hx hb dX7_read_10 (by decide) ?_
    refine nw_Si (As := [.int (p2), .int (0), .int (23)]) (rest := []) X (c_X7_in lc G ((p2)) ((0 : Int32)) ((23 : Int32)) ) (va_cwS 3 hts gX7_read_X7_in rfl rfl rfl (by decide +kernel) ⟨Nat.le_of_ble_eq_true rfl, Nat.le_of_ble_eq_true rfl⟩) (fun _ _ h => h.2) hP hD hS hA rfl hl.1 rfl (Nat.le_of_ble_eq_true rfl) dX7_read_12 ⟨Nat.le_of_ble_eq_true rfl, Nat.le_of_ble_eq_true rfl⟩ (fun r H locs hp_8 hP hD hS => ?_)
    obtain ⟨⟨rfl, q_9⟩ | ⟨rfl, q_9⟩, -⟩ := hp_8
    · skip
      have q_9 : ¬ out ((p2)) ((0 : Int32)) ((23 : Int32)) := q_9
      obtain ⟨z_10, hz_11, he_12⟩ := nw_le (n := 23) rfl (by decide) q_9
      have ec_13 := nw_clamp he_12 (by omega)
      refine lv_if_eq (tgt := 30) hx hb dX7_read_15 (by decide) (fun c9 => absurd c9 (by decide)) (fun _ => ?_)
      refine lv_iload hx hb dX7_read_18 (lv_at hl 4 rfl) ?_
      refine lv_iconst (v := (-1)) hx hb dX7_read_20 (by decide) ?_
      refine lv_sipush (v := (20000)) hx hb dX7_read_21 (by decide) ?_
      refine nw_Si (As := [.int (p4), .int (-1), .int (20000)]) (rest := []) X (c_X7_in lc G ((p4)) ((-1 : Int32)) ((20000 : Int32)) ) (va_cwS 3 hts gX7_read_X7_in rfl rfl rfl (by decide +kernel) ⟨Nat.le_of_ble_eq_true rfl, Nat.le_of_ble_eq_true rfl⟩) (fun _ _ h => h.2) hP hD hS hA rfl hl.1 rfl (Nat.le_of_ble_eq_true rfl) dX7_read_24 ⟨Nat.le_of_ble_eq_true rfl, Nat.le_of_ble_eq_true rfl⟩ (fun r H locs hp_15 hP hD hS => ?_)
      obtain ⟨⟨rfl, q_16⟩ | ⟨rfl, q_16⟩, -⟩ := hp_15
      · skip
        have q_16 : ¬ out ((p4)) ((-1 : Int32)) ((20000 : Int32)) := q_16
        refine lv_if_ne (tgt := 33) hx hb dX7_read_27 (by decide) (fun _ => ?_) (fun c9 => absurd c9 (by decide))
        refine lv_bipush (v := (24)) hx hb dX7_read_33 (by decide) ?_
        refine lv_iload_n hx hb dX7_read_35 rfl (lv_at hl 1 rfl) ?_
        refine lv_imul hx hb dX7_read_36 ?_
        refine nw_top (y := nI (24 * z_3)) (by rw [he_5]; exact pk_mul (24) (z_3)) ?_
        refine lv_iload_n hx hb dX7_read_37 rfl (lv_at hl 2 rfl) ?_
        refine lv_iadd hx hb dX7_read_38 ?_
        refine nw_top (y := nI ((24 * z_3) + z_10)) (by rw [he_12]; exact nI_add (24 * z_3) (z_10)) ?_
        refine lv_istore (lv' := [(5, .int (nI ((24 * z_3) + z_10))), (0, .ref (a 0)), (1, .int (p1)), (2, .int (p2)), (3, .int (p3)), (4, .int (p4))]) hx hb dX7_read_39 hl (by decide) rfl (fun ls hl => ?_)
        refine lv_iload_n hx hb dX7_read_41 rfl (lv_at hl 4 rfl) ?_
        refine lv_if_eq (tgt := 55) hx hb dX7_read_42 (by decide) (fun b42_18 => ?_) (fun b42_18 => ?_)
        · skip
          have b42_18 : (p3) = (0 : Int32) := b42_18
          refine lv_aload_n hx hb dX7_read_55 rfl (lv_at hl 1 rfl) ?_
          refine va_get (D := G.1) (ci := 6) (v := .ref (a 4)) (C := RX7) (T := TX7) (N := 23) hx hb hts in_X7_read_X7 hown hK.1 hP 0 rfl rfl 4 (by decide) (hts (.fieldLink RX7 19 "NightWaterModel" "goes" "[I") (List.mem_of_getElem? (i := 2) rfl)) (fun _ h9 => h9) rfl dX7_read_56 ?_
          refine lv_iload hx hb dX7_read_59 (lv_at hl 0 rfl) ?_
          refine nw_iald X hP 4 (n := 192) (f := ((goF M))) rfl ((24 * z_3) + z_10) rfl (by omega) (by decide) dX7_read_61 ?_
          refine nw_top (y := M (8 + z_3) z_10) (goF_at (by omega) (by omega)) ?_
          refine lv_istore (lv' := [(6, .int (M (8 + z_3) z_10)), (5, .int (nI ((24 * z_3) + z_10))), (0, .ref (a 0)), (1, .int (p1)), (2, .int (p2)), (3, .int (p3)), (4, .int (p4))]) hx hb dX7_read_62 hl (by decide) rfl (fun ls hl => ?_)
          refine lv_iload_n hx hb dX7_read_64 rfl (lv_at hl 5 rfl) ?_
          refine lv_if_eq (tgt := 80) hx hb dX7_read_65 (by decide) (fun b65_19 => ?_) (fun b65_19 => ?_)
          · skip
            have b65_19 : (p3) = (0 : Int32) := b65_19
            refine lv_aload_n hx hb dX7_read_80 rfl (lv_at hl 2 rfl) ?_
            refine va_get (D := G.1) (ci := 6) (v := .ref (a 4)) (C := RX7) (T := TX7) (N := 23) hx hb hts in_X7_read_X7 hown hK.1 hP 0 rfl rfl 4 (by decide) (hts (.fieldLink RX7 19 "NightWaterModel" "goes" "[I") (List.mem_of_getElem? (i := 2) rfl)) (fun _ h9 => h9) rfl dX7_read_81 ?_
            refine lv_iload hx hb dX7_read_84 (lv_at hl 1 rfl) ?_
            refine lv_iload hx hb dX7_read_86 (lv_at hl 6 rfl) ?_
            refine nw_iast X hP hD hS 4 (n := 192) (f := (goF M)) rfl ((24 * z_3) + z_10) rfl (by omega) (by decide) dX7_read_88 (fun H locs hP hD hS => ?_)
            have hP : va_P G.1 vwCl ((wM G (a) (n) (cu) (bg) ((coF M)) (va_up ((goF M)) ((24 * z_3) + z_10) (p4)) (er) (us) (ll) (lm) (lh) (nv) (fr) (tt) (gr) ((hdF2 ML)) (ns) (w) (cs) (cl) (nd) (lo) (ho) (so))) H := hP
            have hD : va_D vA ((wM G (a) (n) (cu) (bg) ((coF M)) (va_up ((goF M)) ((24 * z_3) + z_10) (p4)) (er) (us) (ll) (lm) (lh) (nv) (fr) (tt) (gr) ((hdF2 ML)) (ns) (w) (cs) (cl) (nd) (lo) (ho) (so))) := hD
            refine lv_iload hx hb dX7_read_89 (lv_at hl 0 rfl) ?_
            exact nw_iret (rm := ({ frames := 2, cells := 0, slots := 0, locals := 43 } : Room)) X hP hD hS (⟨by simp only [readOk, readRow, nwIf_T, nwIf_F, or_true, true_or, or_false, false_or, and_true, true_and, and_false, false_and, not_true_eq_false, not_false_eq_true, Nat.add_sub_cancel, q_2, ec_6, q_9, ec_13, q_16, eq_true b42_18, eq_true b65_19], by simp only [readOk, readRow, nwIf_T, nwIf_F, or_true, true_or, or_false, false_or, and_true, true_and, and_false, false_and, not_true_eq_false, not_false_eq_true, Nat.add_sub_cancel, q_2, ec_6, q_9, ec_13, q_16, eq_true b42_18, eq_true b65_19]; rw [(goF_up (M := M) (v := p4) (z := z_3) (h := z_10) (by omega) (by omega)).1, (goF_up (M := M) (v := p4) (z := z_3) (h := z_10) (by omega) (by omega)).2]⟩) dX7_read_91
          · skip
            have b65_19 : ¬ ((p3) = (0 : Int32)) := b65_19
            exact absurd b42_18 b65_19
        · skip
          have b42_18 : ¬ ((p3) = (0 : Int32)) := b42_18
          refine lv_aload_n hx hb dX7_read_45 rfl (lv_at hl 1 rfl) ?_
          refine va_get (D := G.1) (ci := 6) (v := .ref (a 3)) (C := RX7) (T := TX7) (N := 23) hx hb hts in_X7_read_X7 hown hK.1 hP 0 rfl rfl 3 (by decide) (hts (.fieldLink RX7 16 "NightWaterModel" "comes" "[I") (List.mem_of_getElem? (i := 1) rfl)) (fun _ h9 => h9) rfl dX7_read_46 ?_
          refine lv_iload hx hb dX7_read_49 (lv_at hl 0 rfl) ?_
          refine nw_iald X hP 3 (n := 192) (f := ((coF M))) rfl ((24 * z_3) + z_10) rfl (by omega) (by decide) dX7_read_51 ?_
          refine nw_top (y := M z_3 z_10) (coF_at (by omega) (by omega)) ?_
          refine lv_goto (tgt := 62) hx hb dX7_read_52 (by decide) ?_
          refine lv_istore (lv' := [(6, .int (M z_3 z_10)), (5, .int (nI ((24 * z_3) + z_10))), (0, .ref (a 0)), (1, .int (p1)), (2, .int (p2)), (3, .int (p3)), (4, .int (p4))]) hx hb dX7_read_62 hl (by decide) rfl (fun ls hl => ?_)
          refine lv_iload_n hx hb dX7_read_64 rfl (lv_at hl 5 rfl) ?_
          refine lv_if_eq (tgt := 80) hx hb dX7_read_65 (by decide) (fun b65_20 => ?_) (fun b65_20 => ?_)
          · skip
            have b65_20 : (p3) = (0 : Int32) := b65_20
            exact absurd b65_20 b42_18
          · skip
            have b65_20 : ¬ ((p3) = (0 : Int32)) := b65_20
            refine lv_aload_n hx hb dX7_read_68 rfl (lv_at hl 2 rfl) ?_
            refine va_get (D := G.1) (ci := 6) (v := .ref (a 3)) (C := RX7) (T := TX7) (N := 23) hx hb hts in_X7_read_X7 hown hK.1 hP 0 rfl rfl 3 (by decide) (hts (.fieldLink RX7 16 "NightWaterModel" "comes" "[I") (List.mem_of_getElem? (i := 1) rfl)) (fun _ h9 => h9) rfl dX7_read_69 ?_
            refine lv_iload hx hb dX7_read_72 (lv_at hl 1 rfl) ?_
            refine lv_iload hx hb dX7_read_74 (lv_at hl 6 rfl) ?_
            refine nw_iast X hP hD hS 3 (n := 192) (f := (coF M)) rfl ((24 * z_3) + z_10) rfl (by omega) (by decide) dX7_read_76 (fun H locs hP hD hS => ?_)
            have hP : va_P G.1 vwCl ((wM G (a) (n) (cu) (bg) (va_up ((coF M)) ((24 * z_3) + z_10) (p4)) ((goF M)) (er) (us) (ll) (lm) (lh) (nv) (fr) (tt) (gr) ((hdF2 ML)) (ns) (w) (cs) (cl) (nd) (lo) (ho) (so))) H := hP
            have hD : va_D vA ((wM G (a) (n) (cu) (bg) (va_up ((coF M)) ((24 * z_3) + z_10) (p4)) ((goF M)) (er) (us) (ll) (lm) (lh) (nv) (fr) (tt) (gr) ((hdF2 ML)) (ns) (w) (cs) (cl) (nd) (lo) (ho) (so))) := hD
            refine lv_goto (tgt := 89) hx hb dX7_read_77 (by decide) ?_
            refine lv_iload hx hb dX7_read_89 (lv_at hl 0 rfl) ?_
            exact nw_iret (rm := ({ frames := 2, cells := 0, slots := 0, locals := 43 } : Room)) X hP hD hS (⟨by simp only [readOk, readRow, nwIf_T, nwIf_F, or_true, true_or, or_false, false_or, and_true, true_and, and_false, false_and, not_true_eq_false, not_false_eq_true, Nat.add_sub_cancel, q_2, ec_6, q_9, ec_13, q_16, b42_18, b65_20], by simp only [readOk, readRow, nwIf_T, nwIf_F, or_true, true_or, or_false, false_or, and_true, true_and, and_false, false_and, not_true_eq_false, not_false_eq_true, Nat.add_sub_cancel, q_2, ec_6, q_9, ec_13, q_16, b42_18, b65_20]; rw [(coF_up (M := M) (v := p4) (z := z_3) (h := z_10) (by omega) (by omega)).1, (coF_up (M := M) (v := p4) (z := z_3) (h := z_10) (by omega) (by omega)).2]⟩) dX7_read_91
      · skip
        have q_16 : out ((p4)) ((-1 : Int32)) ((20000 : Int32)) := q_16
        refine lv_if_ne (tgt := 33) hx hb dX7_read_27 (by decide) (fun c9 => absurd c9 (by decide)) (fun _ => ?_)
        refine lv_bipush (v := (-2)) hx hb dX7_read_30 (by decide) ?_
        exact nw_iret (rm := ({ frames := 2, cells := 0, slots := 0, locals := 43 } : Room)) X hP hD hS (⟨by simp only [readOk, readRow, nwIf_T, nwIf_F, or_true, true_or, or_false, false_or, and_true, true_and, and_false, false_and, not_true_eq_false, not_false_eq_true, Nat.add_sub_cancel, q_2, ec_6, q_9, ec_13, q_16], by simp only [readOk, readRow, nwIf_T, nwIf_F, or_true, true_or, or_false, false_or, and_true, true_and, and_false, false_and, not_true_eq_false, not_false_eq_true, Nat.add_sub_cancel, q_2, ec_6, q_9, ec_13, q_16]⟩) dX7_read_32
    · skip
      have q_9 : out ((p2)) ((0 : Int32)) ((23 : Int32)) := q_9
      refine lv_if_eq (tgt := 30) hx hb dX7_read_15 (by decide) (fun _ => ?_) (fun c9 => absurd (by decide) c9)
      refine lv_bipush (v := (-2)) hx hb dX7_read_30 (by decide) ?_
      exact nw_iret (rm := ({ frames := 2, cells := 0, slots := 0, locals := 43 } : Room)) X hP hD hS (⟨by simp only [readOk, readRow, nwIf_T, nwIf_F, or_true, true_or, or_false, false_or, and_true, true_and, and_false, false_and, not_true_eq_false, not_false_eq_true, Nat.add_sub_cancel, q_2, ec_6, q_9], by simp only [readOk, readRow, nwIf_T, nwIf_F, or_true, true_or, or_false, false_or, and_true, true_and, and_false, false_and, not_true_eq_false, not_false_eq_true, Nat.add_sub_cancel, q_2, ec_6, q_9]⟩) dX7_read_32
  · skip
    have hP : va_P G.1 vwCl ((wM G (a) (n) (cu) (bg) ((coF M)) ((goF M)) (er) (us) (ll) (lm) (lh) (nv) (fr) (tt) (gr) ((hdF2 ML)) (ns) (w) (cs) (cl) (nd) (lo) (ho) (so))) H := hP
    have hD : va_D vA ((wM G (a) (n) (cu) (bg) ((coF M)) ((goF M)) (er) (us) (ll) (lm) (lh) (nv) (fr) (tt) (gr) ((hdF2 ML)) (ns) (w) (cs) (cl) (nd) (lo) (ho) (so))) := hD
    have q_2 : out ((p1)) 0 (nI (n) - 1) := q_2
    refine lv_if_eq (tgt := 30) hx hb dX7_read_5 (by decide) (fun _ => ?_) (fun c9 => absurd (by decide) c9)
    refine lv_bipush (v := (-2)) hx hb dX7_read_30 (by decide) ?_
    exact nw_iret (rm := ({ frames := 2, cells := 0, slots := 0, locals := 43 } : Room)) X hP hD hS (⟨by simp only [readOk, readRow, nwIf_T, nwIf_F, or_true, true_or, or_false, false_or, and_true, true_and, and_false, false_and, not_true_eq_false, not_false_eq_true, Nat.add_sub_cancel, q_2], by simp only [readOk, readRow, nwIf_T, nwIf_F, or_true, true_or, or_false, false_or, and_true, true_and, and_false, false_and, not_true_eq_false, not_false_eq_true, Nat.add_sub_cancel, q_2]⟩) dX7_read_32
set_option maxHeartbeats 4000000 in
set_option maxRecDepth 100000 in
theorem c_X7_least (lc : Launch) (G : nwG) (a : Nat → Nat) (n : Nat) (cu bg : Nat → Int32) (M : Nat → Nat → Int32) (er us ll lm lh : Int32) (nv : Nat) (fr tt gr : Nat → Nat) (ML : Nat → Nat → Int32) (ns : Nat) (w : Nat → Nat) (cs cl : Nat → Int32) (nd : Nat) (lo ho : Nat → Int32) (so : Nat → Nat) (v : Int32)  : nwCi lc G yX7_least wsX7_least ({ frames := 0, cells := 0, slots := 0, locals := 0 } : Room) [.ref (a 0), .int (v)] ((wM G (a) (n) (cu) (bg) ((coF M)) ((goF M)) (er) (us) (ll) (lm) (lh) (nv) (fr) (tt) (gr) ((hdF2 ML)) (ns) (w) (cs) (cl) (nd) (lo) (ho) (so))) (fun r ww => r = lstF er v ∧ ww = wM G (a) (n) (cu) (bg) ((coF M)) ((goF M)) (er) (us) (ll) (lm) (lh) (nv) (fr) (tt) (gr) ((hdF2 ML)) (ns) (w) (cs) (cl) (nd) (lo) (ho) (so)) := by
  refine nw_of (cc := cX7_least) (maxL := 2) (ret := (some .int)) (by decide) rfl (Nat.le_of_ble_eq_true rfl) ?_
  intro vp ve vs vm vb vt vc vA ls X hP hD hA hS hl
  have X : nwAt vp vm vc cX7_least 2 vs _ wsX7_least RX7 vt (some .int) "least" G := X
  have hx := X.1.1
  have hb := X.1.2.1
  have hown := X.1.2.2.2.1
  have hts := X.1.2.2.2.2
  have hK := X.2.2.2.2
  have hl : lv_has ls 2 [(0, .ref (a 0)), (1, .int (v))] := hl
  refine lv_iload_n hx hb dX7_least_0 rfl (lv_at hl 1 rfl) ?_
  refine lv_sipush (v := (1000)) hx hb dX7_least_1 (by decide) ?_
  refine lv_aload_n hx hb dX7_least_4 rfl (lv_at hl 0 rfl) ?_
  refine va_get (D := G.1) (ci := 6) (v := .int (er)) (C := RX7) (T := TX7) (N := 23) hx hb hts in_X7_least_X7 hown hK.1 hP 0 rfl rfl 5 (by decide) (hts (.fieldLink RX7 22 "NightWaterModel" "error" "I") (List.mem_of_getElem? (i := 1) rfl)) (fun _ h9 => h9) rfl dX7_least_5 ?_
  refine lv_isub hx hb dX7_least_8 ?_
  refine lv_imul hx hb dX7_least_9 ?_
  refine lv_sipush (v := (1000)) hx hb dX7_least_10 (by decide) ?_
  refine lv_idiv hx hb dX7_least_13 (by decide) ?_
  exact nw_iret (rm := ({ frames := 0, cells := 0, slots := 0, locals := 0 } : Room)) X hP hD hS (⟨rfl, rfl⟩) dX7_least_14
set_option maxHeartbeats 4000000 in
set_option maxRecDepth 100000 in
theorem c_X7_greatest (lc : Launch) (G : nwG) (a : Nat → Nat) (n : Nat) (cu bg : Nat → Int32) (M : Nat → Nat → Int32) (er us ll lm lh : Int32) (nv : Nat) (fr tt gr : Nat → Nat) (ML : Nat → Nat → Int32) (ns : Nat) (w : Nat → Nat) (cs cl : Nat → Int32) (nd : Nat) (lo ho : Nat → Int32) (so : Nat → Nat) (v : Int32)  : nwCi lc G yX7_greatest wsX7_greatest ({ frames := 0, cells := 0, slots := 0, locals := 0 } : Room) [.ref (a 0), .int (v)] ((wM G (a) (n) (cu) (bg) ((coF M)) ((goF M)) (er) (us) (ll) (lm) (lh) (nv) (fr) (tt) (gr) ((hdF2 ML)) (ns) (w) (cs) (cl) (nd) (lo) (ho) (so))) (fun r ww => r = grtF er v ∧ ww = wM G (a) (n) (cu) (bg) ((coF M)) ((goF M)) (er) (us) (ll) (lm) (lh) (nv) (fr) (tt) (gr) ((hdF2 ML)) (ns) (w) (cs) (cl) (nd) (lo) (ho) (so)) := by
  refine nw_of (cc := cX7_greatest) (maxL := 2) (ret := (some .int)) (by decide) rfl (Nat.le_of_ble_eq_true rfl) ?_
  intro vp ve vs vm vb vt vc vA ls X hP hD hA hS hl
  have X : nwAt vp vm vc cX7_greatest 2 vs _ wsX7_greatest RX7 vt (some .int) "greatest" G := X
  have hx := X.1.1
  have hb := X.1.2.1
  have hown := X.1.2.2.2.1
  have hts := X.1.2.2.2.2
  have hK := X.2.2.2.2
  have hl : lv_has ls 2 [(0, .ref (a 0)), (1, .int (v))] := hl
  refine lv_iload_n hx hb dX7_greatest_0 rfl (lv_at hl 1 rfl) ?_
  refine lv_sipush (v := (1000)) hx hb dX7_greatest_1 (by decide) ?_
  refine lv_aload_n hx hb dX7_greatest_4 rfl (lv_at hl 0 rfl) ?_
  refine va_get (D := G.1) (ci := 6) (v := .int (er)) (C := RX7) (T := TX7) (N := 23) hx hb hts in_X7_greatest_X7 hown hK.1 hP 0 rfl rfl 5 (by decide) (hts (.fieldLink RX7 22 "NightWaterModel" "error" "I") (List.mem_of_getElem? (i := 1) rfl)) (fun _ h9 => h9) rfl dX7_greatest_5 ?_
  refine lv_iadd hx hb dX7_greatest_8 ?_
  refine lv_imul hx hb dX7_greatest_9 ?_
  refine lv_sipush (v := (999)) hx hb dX7_greatest_10 (by decide) ?_
  refine lv_iadd hx hb dX7_greatest_13 ?_
  refine lv_sipush (v := (1000)) hx hb dX7_greatest_14 (by decide) ?_
  refine lv_idiv hx hb dX7_greatest_17 (by decide) ?_
  exact nw_iret (rm := ({ frames := 0, cells := 0, slots := 0, locals := 0 } : Room)) X hP hD hS (⟨rfl, rfl⟩) dX7_greatest_18
set_option maxHeartbeats 4000000 in
set_option maxRecDepth 100000 in
theorem c_X7_findLow (lc : Launch) (G : nwG) (a : Nat → Nat) (n : Nat) (cu bg : Nat → Int32) (M : Nat → Nat → Int32) (er us ll lm lh : Int32) (nv : Nat) (fr tt gr : Nat → Nat) (ML : Nat → Nat → Int32) (ns : Nat) (w : Nat → Nat) (cs cl : Nat → Int32) (nd : Nat) (lo ho : Nat → Int32) (so : Nat → Nat) (z : Nat) (hz : z < 8) : nwCi lc G yX7_findLow wsX7_findLow ({ frames := 1, cells := 0, slots := 0, locals := 21 } : Room) [.ref (a 0), .int (nI (z))] ((wM G (a) (n) (cu) (bg) ((coF M)) ((goF M)) (er) (us) (ll) (lm) (lh) (nv) (fr) (tt) (gr) ((hdF2 ML)) (ns) (w) (cs) (cl) (nd) (lo) (ho) (so))) (fun r ww => ∃ llv lmv : Int32, ((r = 1 ∧ ¬ (lowF er (M z) (M (8 + z)) 4).1 = -1) ∨ (r = 0 ∧ (lowF er (M z) (M (8 + z)) 4).1 = -1)) ∧ (¬ (lowF er (M z) (M (8 + z)) 4).1 = -1 → lmv = (lowF er (M z) (M (8 + z)) 4).2.1 ∧ llv = (lowF er (M z) (M (8 + z)) 4).2.2) ∧ ww = wM G (a) (n) (cu) (bg) ((coF M)) ((goF M)) (er) (us) (llv) (lmv) ((lowF er (M z) (M (8 + z)) 4).1) (nv) (fr) (tt) (gr) ((hdF2 ML)) (ns) (w) (cs) (cl) (nd) (lo) (ho) (so)) := by
  refine nw_of (cc := cX7_findLow) (maxL := 6) (ret := (some .boolean)) (by decide) rfl (Nat.le_of_ble_eq_true rfl) ?_
  intro vp ve vs vm vb vt vc vA ls X hP hD hA hS hl
  have X : nwAt vp vm vc cX7_findLow 6 vs _ wsX7_findLow RX7 vt (some .boolean) "findLow" G := X
  have hx := X.1.1
  have hb := X.1.2.1
  have hown := X.1.2.2.2.1
  have hts := X.1.2.2.2.2
  have hK := X.2.2.2.2
  have hl : lv_has ls 6 [(0, .ref (a 0)), (1, .int (nI (z)))] := hl
  refine lv_aload_n hx hb dX7_findLow_0 rfl (lv_at hl 0 rfl) ?_
  refine lv_iconst (v := (-1)) hx hb dX7_findLow_1 (by decide) ?_
  refine va_put (D := G.1) (ci := 6) (v := .int (-1)) (ty := .int) (C := RX7) (T := TX7) (N := 23) hx hb hts in_X7_findLow_X7 tyX7 tyX7_ok nmX7 hown hK.1 hP hD hS 0 rfl rfl 9 (by decide) (hts (.fieldLink RX7 73 "NightWaterModel" "lowHour" "I") (List.mem_of_getElem? (i := 1) rfl)) (fun _ h9 => h9) rfl (by decide +kernel) rfl rfl (Nat.le_of_ble_eq_true rfl) dX7_findLow_2 (fun H locs hP hD hS => ?_)
  have hP : va_P G.1 vwCl ((wM G (a) (n) (cu) (bg) ((coF M)) ((goF M)) (er) (us) (ll) (lm) ((-1 : Int32)) (nv) (fr) (tt) (gr) ((hdF2 ML)) (ns) (w) (cs) (cl) (nd) (lo) (ho) (so))) H := hP
  have hD : va_D vA ((wM G (a) (n) (cu) (bg) ((coF M)) ((goF M)) (er) (us) (ll) (lm) ((-1 : Int32)) (nv) (fr) (tt) (gr) ((hdF2 ML)) (ns) (w) (cs) (cl) (nd) (lo) (ho) (so))) := hD
  refine lv_iconst (v := (1)) hx hb dX7_findLow_5 (by decide) ?_
  refine lv_istore_n (lv' := [(2, .int (1)), (0, .ref (a 0)), (1, .int (nI (z)))]) hx hb dX7_findLow_6 rfl hl (by decide) rfl (fun ls hl => ?_)
  have K7 : ∀ (fuel : Nat) (k : Nat) (x7 : Int32) (x8 : Int32) (x9 : Int32) (H : Heap) (locs : List Loc) (ls : Array Slot), (5 - k) < fuel → (k ≤ 4) → (x9 = (lowF er (M z) (M (8 + z)) k).1) → (¬ (lowF er (M z) (M (8 + z)) k).1 = -1 → x8 = (lowF er (M z) (M (8 + z)) k).2.1 ∧ x7 = (lowF er (M z) (M (8 + z)) k).2.2) → lv_has ls 6 [(2, .int (nI (k + 1))), (0, .ref (a 0)), (1, .int (nI (z)))] → va_P G.1 vwCl ((wM G (a) (n) (cu) (bg) ((coF M)) ((goF M)) (er) (us) (x7) (x8) (x9) (nv) (fr) (tt) (gr) ((hdF2 ML)) (ns) (w) (cs) (cl) (nd) (lo) (ho) (so))) H → va_D vA ((wM G (a) (n) (cu) (bg) ((coF M)) ((goF M)) (er) (us) (x7) (x8) (x9) (nv) (fr) (tt) (gr) ((hdF2 ML)) (ns) (w) (cs) (cl) (nd) (lo) (ho) (so))) → va_S vA vs.heap H locs → W vp lc ve ({ frames := 1, cells := 0, slots := 0, locals := 21 } : Room) vs vm ([.ref (a 0), .int (nI (z))] : List Value).toArray vb vt vc H locs 0 0 (MQ vb (nwQi G (fun r ww => ∃ llv lmv : Int32, ((r = 1 ∧ ¬ (lowF er (M z) (M (8 + z)) 4).1 = -1) ∨ (r = 0 ∧ (lowF er (M z) (M (8 + z)) 4).1 = -1)) ∧ (¬ (lowF er (M z) (M (8 + z)) 4).1 = -1 → lmv = (lowF er (M z) (M (8 + z)) 4).2.1 ∧ llv = (lowF er (M z) (M (8 + z)) 4).2.2) ∧ ww = wM G (a) (n) (cu) (bg) ((coF M)) ((goF M)) (er) (us) (llv) (lmv) ((lowF er (M z) (M (8 + z)) 4).1) (nv) (fr) (tt) (gr) ((hdF2 ML)) (ns) (w) (cs) (cl) (nd) (lo) (ho) (so)) vA) ([.ref (a 0), .int (nI (z))] : List Value).toArray vs ({ frames := 1, cells := 0, slots := 0, locals := 21 } : Room).cells ({ frames := 1, cells := 0, slots := 0, locals := 21 } : Room).slots vA) (F0 vm 7 ls []) := by
    intro fuel
    induction fuel with
    | zero => intro k x7 x8 x9 H locs ls hmu; exact absurd hmu (Nat.not_lt_zero _)
    | succ fuel ih7 =>
      intro k x7 x8 x9 H locs ls hmu hk e9 e8 hl hP hD hS
      refine lv_iload_n hx hb dX7_findLow_7 rfl (lv_at hl 0 rfl) ?_
      refine lv_iconst (v := (5)) hx hb dX7_findLow_8 (by decide) ?_
      refine lv_icmp_ge (tgt := 112) hx hb dX7_findLow_9 (by decide) (fun b9_1 => ?_) (fun b9_1 => ?_)
      · skip
        have b9_1 : (5) ≤ (k + 1) := (nI_leI (a := 5) (b := k + 1) (by omega) (by omega)).mp b9_1
        have b9_1n : ¬ ((k + 1) < (5)) := by omega
        have hk4 : k = 4 := by omega
        rw [hk4] at e9 e8
        refine lv_aload_n hx hb dX7_findLow_112 rfl (lv_at hl 1 rfl) ?_
        refine va_get (D := G.1) (ci := 6) (v := .int (x9)) (C := RX7) (T := TX7) (N := 23) hx hb hts in_X7_findLow_X7 hown hK.1 hP 0 rfl rfl 9 (by decide) (hts (.fieldLink RX7 73 "NightWaterModel" "lowHour" "I") (List.mem_of_getElem? (i := 1) rfl)) (fun _ h9 => h9) rfl dX7_findLow_113 ?_
        refine lv_iconst (v := (-1)) hx hb dX7_findLow_116 (by decide) ?_
        refine lv_icmp_eq (tgt := 124) hx hb dX7_findLow_117 (by decide) (fun b117_2 => ?_) (fun b117_2 => ?_)
        · skip
          have b117_2 : (x9) = (-1 : Int32) := b117_2
          refine lv_iconst (v := (0)) hx hb dX7_findLow_124 (by decide) ?_
          exact nw_zret (rm := ({ frames := 1, cells := 0, slots := 0, locals := 21 } : Room)) X (by decide) hP hD hS (⟨_, _, Or.inr ⟨rfl, by rw [← e9]; exact b117_2⟩, e8, by rw [e9]⟩) dX7_findLow_125
        · skip
          have b117_2 : ¬ ((x9) = (-1 : Int32)) := b117_2
          refine lv_iconst (v := (1)) hx hb dX7_findLow_120 (by decide) ?_
          refine lv_goto (tgt := 125) hx hb dX7_findLow_121 (by decide) ?_
          exact nw_zret (rm := ({ frames := 1, cells := 0, slots := 0, locals := 21 } : Room)) X (by decide) hP hD hS (⟨_, _, Or.inl ⟨rfl, by rw [← e9]; exact b117_2⟩, e8, by rw [e9]⟩) dX7_findLow_125
      · skip
        have b9_1 : ¬ ((5) ≤ (k + 1)) := fun h => b9_1 ((nI_leI (a := 5) (b := k + 1) (by omega) (by omega)).mpr h)
        have b9_1n : (k + 1) < (5) := by omega
        refine lv_aload_n hx hb dX7_findLow_12 rfl (lv_at hl 1 rfl) ?_
        refine va_get (D := G.1) (ci := 6) (v := .ref (a 3)) (C := RX7) (T := TX7) (N := 23) hx hb hts in_X7_findLow_X7 hown hK.1 hP 0 rfl rfl 3 (by decide) (hts (.fieldLink RX7 16 "NightWaterModel" "comes" "[I") (List.mem_of_getElem? (i := 2) rfl)) (fun _ h9 => h9) rfl dX7_findLow_13 ?_
        refine lv_bipush (v := (24)) hx hb dX7_findLow_16 (by decide) ?_
        refine lv_iload_n hx hb dX7_findLow_18 rfl (lv_at hl 2 rfl) ?_
        refine lv_imul hx hb dX7_findLow_19 ?_
        refine nw_top (y := nI (24 * z)) (pk_mul (24) (z)) ?_
        refine lv_iload_n hx hb dX7_findLow_20 rfl (lv_at hl 0 rfl) ?_
        refine lv_iadd hx hb dX7_findLow_21 ?_
        refine nw_top (y := nI (24 * z + (k + 1))) (nI_add (24 * z) (k + 1)) ?_
        refine nw_iald X hP 3 (n := 192) (f := ((coF M))) rfl (24 * z + (k + 1)) rfl (by omega) (by decide) dX7_findLow_22 ?_
        refine nw_top (y := M z (k + 1)) (coF_at (by omega) (by omega)) ?_
        refine lv_istore_n (lv' := [(3, .int (M z (k + 1))), (2, .int (nI (k + 1))), (0, .ref (a 0)), (1, .int (nI (z)))]) hx hb dX7_findLow_23 rfl hl (by decide) rfl (fun ls hl => ?_)
        refine lv_aload_n hx hb dX7_findLow_24 rfl (lv_at hl 2 rfl) ?_
        refine va_get (D := G.1) (ci := 6) (v := .ref (a 4)) (C := RX7) (T := TX7) (N := 23) hx hb hts in_X7_findLow_X7 hown hK.1 hP 0 rfl rfl 4 (by decide) (hts (.fieldLink RX7 19 "NightWaterModel" "goes" "[I") (List.mem_of_getElem? (i := 3) rfl)) (fun _ h9 => h9) rfl dX7_findLow_25 ?_
        refine lv_bipush (v := (24)) hx hb dX7_findLow_28 (by decide) ?_
        refine lv_iload_n hx hb dX7_findLow_30 rfl (lv_at hl 3 rfl) ?_
        refine lv_imul hx hb dX7_findLow_31 ?_
        refine nw_top (y := nI (24 * z)) (pk_mul (24) (z)) ?_
        refine lv_iload_n hx hb dX7_findLow_32 rfl (lv_at hl 1 rfl) ?_
        refine lv_iadd hx hb dX7_findLow_33 ?_
        refine nw_top (y := nI (24 * z + (k + 1))) (nI_add (24 * z) (k + 1)) ?_
        refine nw_iald X hP 4 (n := 192) (f := ((goF M))) rfl (24 * z + (k + 1)) rfl (by omega) (by decide) dX7_findLow_34 ?_
        refine nw_top (y := M (8 + z) (k + 1)) (goF_at (by omega) (by omega)) ?_
        refine lv_istore (lv' := [(4, .int (M (8 + z) (k + 1))), (3, .int (M z (k + 1))), (2, .int (nI (k + 1))), (0, .ref (a 0)), (1, .int (nI (z)))]) hx hb dX7_findLow_35 hl (by decide) rfl (fun ls hl => ?_)
        refine lv_iload_n hx hb dX7_findLow_37 rfl (lv_at hl 1 rfl) ?_
        refine lv_iconst (v := (-1)) hx hb dX7_findLow_38 (by decide) ?_
        refine lv_icmp_eq (tgt := 106) hx hb dX7_findLow_39 (by decide) (fun b39_3 => ?_) (fun b39_3 => ?_)
        · skip
          have b39_3 : (M z (k + 1)) = (-1 : Int32) := b39_3
          refine lv_iinc (v := (nI (k + 1 + 1))) (lv' := [(2, .int (nI (k + 1 + 1))), (4, .int (M (8 + z) (k + 1))), (3, .int (M z (k + 1))), (0, .ref (a 0)), (1, .int (nI (z)))]) hx hb dX7_findLow_106 hl (k := 2) rfl (by exact nI_add (k + 1) 1) (by decide) rfl (fun ls hl => ?_)
          refine lv_goto (tgt := 7) hx hb dX7_findLow_109 (by decide) ?_
          exact ih7 (k + 1) (x7) (x8) (x9) _ _ _ (by omega) (by omega) (by first | exact (congrArg (fun q => q.1) (fl_take (er := er) (f := M z) (g := M (8 + z)) (k := k) (by rw [← e9]; (try rw [← h8]); simp only [nwIf_T, nwIf_F, or_true, true_or, or_false, false_or, and_true, true_and, and_false, false_and, not_true_eq_false, not_false_eq_true, Nat.add_sub_cancel, b9_1n, b9_1, eq_true b39_3]))).symm | exact e9.trans (congrArg (fun q => q.1) (fl_keep (er := er) (f := M z) (g := M (8 + z)) (k := k) (by rw [← e9]; (try rw [← h8]); simp only [nwIf_T, nwIf_F, or_true, true_or, or_false, false_or, and_true, true_and, and_false, false_and, not_true_eq_false, not_false_eq_true, Nat.add_sub_cancel, b9_1n, b9_1, eq_true b39_3]))).symm) (by first | (rw [(fl_take (er := er) (f := M z) (g := M (8 + z)) (k := k) (by rw [← e9]; (try rw [← h8]); simp only [nwIf_T, nwIf_F, or_true, true_or, or_false, false_or, and_true, true_and, and_false, false_and, not_true_eq_false, not_false_eq_true, Nat.add_sub_cancel, b9_1n, b9_1, eq_true b39_3]))]; exact fun _ => ⟨rfl, rfl⟩) | (rw [(fl_keep (er := er) (f := M z) (g := M (8 + z)) (k := k) (by rw [← e9]; (try rw [← h8]); simp only [nwIf_T, nwIf_F, or_true, true_or, or_false, false_or, and_true, true_and, and_false, false_and, not_true_eq_false, not_false_eq_true, Nat.add_sub_cancel, b9_1n, b9_1, eq_true b39_3]))]; exact e8)) (lv_sub hl [0, 3, 4] rfl) hP hD hS
        · skip
          have b39_3 : ¬ ((M z (k + 1)) = (-1 : Int32)) := b39_3
          refine lv_iload hx hb dX7_findLow_42 (lv_at hl 0 rfl) ?_
          refine lv_iconst (v := (-1)) hx hb dX7_findLow_44 (by decide) ?_
          refine lv_icmp_eq (tgt := 106) hx hb dX7_findLow_45 (by decide) (fun b45_4 => ?_) (fun b45_4 => ?_)
          · skip
            have b45_4 : (M (8 + z) (k + 1)) = (-1 : Int32) := b45_4
            refine lv_iinc (v := (nI (k + 1 + 1))) (lv' := [(2, .int (nI (k + 1 + 1))), (4, .int (M (8 + z) (k + 1))), (3, .int (M z (k + 1))), (0, .ref (a 0)), (1, .int (nI (z)))]) hx hb dX7_findLow_106 hl (k := 2) rfl (by exact nI_add (k + 1) 1) (by decide) rfl (fun ls hl => ?_)
            refine lv_goto (tgt := 7) hx hb dX7_findLow_109 (by decide) ?_
            exact ih7 (k + 1) (x7) (x8) (x9) _ _ _ (by omega) (by omega) (by first | exact (congrArg (fun q => q.1) (fl_take (er := er) (f := M z) (g := M (8 + z)) (k := k) (by rw [← e9]; (try rw [← h8]); simp only [nwIf_T, nwIf_F, or_true, true_or, or_false, false_or, and_true, true_and, and_false, false_and, not_true_eq_false, not_false_eq_true, Nat.add_sub_cancel, b9_1n, b9_1, b39_3, eq_true b45_4]))).symm | exact e9.trans (congrArg (fun q => q.1) (fl_keep (er := er) (f := M z) (g := M (8 + z)) (k := k) (by rw [← e9]; (try rw [← h8]); simp only [nwIf_T, nwIf_F, or_true, true_or, or_false, false_or, and_true, true_and, and_false, false_and, not_true_eq_false, not_false_eq_true, Nat.add_sub_cancel, b9_1n, b9_1, b39_3, eq_true b45_4]))).symm) (by first | (rw [(fl_take (er := er) (f := M z) (g := M (8 + z)) (k := k) (by rw [← e9]; (try rw [← h8]); simp only [nwIf_T, nwIf_F, or_true, true_or, or_false, false_or, and_true, true_and, and_false, false_and, not_true_eq_false, not_false_eq_true, Nat.add_sub_cancel, b9_1n, b9_1, b39_3, eq_true b45_4]))]; exact fun _ => ⟨rfl, rfl⟩) | (rw [(fl_keep (er := er) (f := M z) (g := M (8 + z)) (k := k) (by rw [← e9]; (try rw [← h8]); simp only [nwIf_T, nwIf_F, or_true, true_or, or_false, false_or, and_true, true_and, and_false, false_and, not_true_eq_false, not_false_eq_true, Nat.add_sub_cancel, b9_1n, b9_1, b39_3, eq_true b45_4]))]; exact e8)) (lv_sub hl [0, 3, 4] rfl) hP hD hS
          · skip
            have b45_4 : ¬ ((M (8 + z) (k + 1)) = (-1 : Int32)) := b45_4
            refine lv_aload_n hx hb dX7_findLow_48 rfl (lv_at hl 3 rfl) ?_
            refine lv_iload_n hx hb dX7_findLow_49 rfl (lv_at hl 1 rfl) ?_
            refine nw_Vi (As := [.int (M z (k + 1))]) (rest := []) (q0 := 0) X (c_X7_greatest lc G (a) (n) (cu) (bg) (M) (er) (us) (x7) (x8) (x9) (nv) (fr) (tt) (gr) (ML) (ns) (w) (cs) (cl) (nd) (lo) (ho) (so) ((M z (k + 1))) ) (cwV 1 hts gX7_findLow_X7_greatest rfl rfl rfl (by decide +kernel) ⟨Nat.le_of_ble_eq_true rfl, Nat.le_of_ble_eq_true rfl⟩) rfl (show vwCl[6]? = some (RX7, TX7, 23) from rfl) (nwSp.all ((wM G (a) (n) (cu) (bg) ((coF M)) ((goF M)) (er) (us) (x7) (x8) (x9) (nv) (fr) (tt) (gr) ((hdF2 ML)) (ns) (w) (cs) (cl) (nd) (lo) (ho) (so)))) hP hD hS hA rfl hl.1 rfl (Nat.le_of_ble_eq_true rfl) dX7_findLow_50 ⟨Nat.le_of_ble_eq_true rfl, Nat.le_of_ble_eq_true rfl⟩ (fun r w H locs hp_5 hP hD hS => ?_)
            obtain ⟨rfl, rfl⟩ := hp_5
            have hP : va_P G.1 vwCl ((wM G (a) (n) (cu) (bg) ((coF M)) ((goF M)) (er) (us) (x7) (x8) (x9) (nv) (fr) (tt) (gr) ((hdF2 ML)) (ns) (w) (cs) (cl) (nd) (lo) (ho) (so))) H := hP
            have hD : va_D vA ((wM G (a) (n) (cu) (bg) ((coF M)) ((goF M)) (er) (us) (x7) (x8) (x9) (nv) (fr) (tt) (gr) ((hdF2 ML)) (ns) (w) (cs) (cl) (nd) (lo) (ho) (so))) := hD
            refine lv_aload_n hx hb dX7_findLow_53 rfl (lv_at hl 3 rfl) ?_
            refine lv_iload hx hb dX7_findLow_54 (lv_at hl 0 rfl) ?_
            refine nw_Vi (As := [.int (M (8 + z) (k + 1))]) (rest := [.int (grtF (er) ((M z (k + 1))))]) (q0 := 0) X (c_X7_least lc G (a) (n) (cu) (bg) (M) (er) (us) (x7) (x8) (x9) (nv) (fr) (tt) (gr) (ML) (ns) (w) (cs) (cl) (nd) (lo) (ho) (so) ((M (8 + z) (k + 1))) ) (cwV 1 hts gX7_findLow_X7_least rfl rfl rfl (by decide +kernel) ⟨Nat.le_of_ble_eq_true rfl, Nat.le_of_ble_eq_true rfl⟩) rfl (show vwCl[6]? = some (RX7, TX7, 23) from rfl) (nwSp.all ((wM G (a) (n) (cu) (bg) ((coF M)) ((goF M)) (er) (us) (x7) (x8) (x9) (nv) (fr) (tt) (gr) ((hdF2 ML)) (ns) (w) (cs) (cl) (nd) (lo) (ho) (so)))) hP hD hS hA rfl hl.1 rfl (Nat.le_of_ble_eq_true rfl) dX7_findLow_56 ⟨Nat.le_of_ble_eq_true rfl, Nat.le_of_ble_eq_true rfl⟩ (fun r w H locs hp_6 hP hD hS => ?_)
            obtain ⟨rfl, rfl⟩ := hp_6
            have hP : va_P G.1 vwCl ((wM G (a) (n) (cu) (bg) ((coF M)) ((goF M)) (er) (us) (x7) (x8) (x9) (nv) (fr) (tt) (gr) ((hdF2 ML)) (ns) (w) (cs) (cl) (nd) (lo) (ho) (so))) H := hP
            have hD : va_D vA ((wM G (a) (n) (cu) (bg) ((coF M)) ((goF M)) (er) (us) (x7) (x8) (x9) (nv) (fr) (tt) (gr) ((hdF2 ML)) (ns) (w) (cs) (cl) (nd) (lo) (ho) (so))) := hD
            refine lv_isub hx hb dX7_findLow_59 ?_
            refine lv_istore (lv' := [(5, .int ((grtF (er) ((M z (k + 1)))) - (lstF (er) ((M (8 + z) (k + 1)))))), (4, .int (M (8 + z) (k + 1))), (3, .int (M z (k + 1))), (2, .int (nI (k + 1))), (0, .ref (a 0)), (1, .int (nI (z)))]) hx hb dX7_findLow_60 hl (by decide) rfl (fun ls hl => ?_)
            refine lv_aload_n hx hb dX7_findLow_62 rfl (lv_at hl 4 rfl) ?_
            refine va_get (D := G.1) (ci := 6) (v := .int (x9)) (C := RX7) (T := TX7) (N := 23) hx hb hts in_X7_findLow_X7 hown hK.1 hP 0 rfl rfl 9 (by decide) (hts (.fieldLink RX7 73 "NightWaterModel" "lowHour" "I") (List.mem_of_getElem? (i := 1) rfl)) (fun _ h9 => h9) rfl dX7_findLow_63 ?_
            refine lv_iconst (v := (-1)) hx hb dX7_findLow_66 (by decide) ?_
            refine lv_icmp_eq (tgt := 79) hx hb dX7_findLow_67 (by decide) (fun b67_7 => ?_) (fun b67_7 => ?_)
            · skip
              have b67_7 : (x9) = (-1 : Int32) := b67_7
              refine lv_aload_n hx hb dX7_findLow_79 rfl (lv_at hl 4 rfl) ?_
              refine lv_iload_n hx hb dX7_findLow_80 rfl (lv_at hl 3 rfl) ?_
              refine va_put (D := G.1) (ci := 6) (v := .int (nI (k + 1))) (ty := .int) (C := RX7) (T := TX7) (N := 23) hx hb hts in_X7_findLow_X7 tyX7 tyX7_ok nmX7 hown hK.1 hP hD hS 0 rfl rfl 9 (by decide) (hts (.fieldLink RX7 73 "NightWaterModel" "lowHour" "I") (List.mem_of_getElem? (i := 1) rfl)) (fun _ h9 => h9) rfl (by decide +kernel) rfl rfl (Nat.le_of_ble_eq_true rfl) dX7_findLow_81 (fun H locs hP hD hS => ?_)
              have hP : va_P G.1 vwCl ((wM G (a) (n) (cu) (bg) ((coF M)) ((goF M)) (er) (us) (x7) (x8) ((nI (k + 1))) (nv) (fr) (tt) (gr) ((hdF2 ML)) (ns) (w) (cs) (cl) (nd) (lo) (ho) (so))) H := hP
              have hD : va_D vA ((wM G (a) (n) (cu) (bg) ((coF M)) ((goF M)) (er) (us) (x7) (x8) ((nI (k + 1))) (nv) (fr) (tt) (gr) ((hdF2 ML)) (ns) (w) (cs) (cl) (nd) (lo) (ho) (so))) := hD
              refine lv_aload_n hx hb dX7_findLow_84 rfl (lv_at hl 4 rfl) ?_
              refine lv_iload hx hb dX7_findLow_85 (lv_at hl 0 rfl) ?_
              refine va_put (D := G.1) (ci := 6) (v := .int ((grtF (er) ((M z (k + 1)))) - (lstF (er) ((M (8 + z) (k + 1)))))) (ty := .int) (C := RX7) (T := TX7) (N := 23) hx hb hts in_X7_findLow_X7 tyX7 tyX7_ok nmX7 hown hK.1 hP hD hS 0 rfl rfl 8 (by decide) (hts (.fieldLink RX7 83 "NightWaterModel" "lowMost" "I") (List.mem_of_getElem? (i := 4) rfl)) (fun _ h9 => h9) rfl (by decide +kernel) rfl rfl (Nat.le_of_ble_eq_true rfl) dX7_findLow_87 (fun H locs hP hD hS => ?_)
              have hP : va_P G.1 vwCl ((wM G (a) (n) (cu) (bg) ((coF M)) ((goF M)) (er) (us) (x7) (((grtF (er) ((M z (k + 1)))) - (lstF (er) ((M (8 + z) (k + 1)))))) ((nI (k + 1))) (nv) (fr) (tt) (gr) ((hdF2 ML)) (ns) (w) (cs) (cl) (nd) (lo) (ho) (so))) H := hP
              have hD : va_D vA ((wM G (a) (n) (cu) (bg) ((coF M)) ((goF M)) (er) (us) (x7) (((grtF (er) ((M z (k + 1)))) - (lstF (er) ((M (8 + z) (k + 1)))))) ((nI (k + 1))) (nv) (fr) (tt) (gr) ((hdF2 ML)) (ns) (w) (cs) (cl) (nd) (lo) (ho) (so))) := hD
              refine lv_aload_n hx hb dX7_findLow_90 rfl (lv_at hl 4 rfl) ?_
              refine lv_aload_n hx hb dX7_findLow_91 rfl (lv_at hl 4 rfl) ?_
              refine lv_iload_n hx hb dX7_findLow_92 rfl (lv_at hl 2 rfl) ?_
              refine nw_Vi (As := [.int (M z (k + 1))]) (rest := [.ref (a 0)]) (q0 := 0) X (c_X7_least lc G (a) (n) (cu) (bg) (M) (er) (us) (x7) (((grtF (er) ((M z (k + 1)))) - (lstF (er) ((M (8 + z) (k + 1)))))) ((nI (k + 1))) (nv) (fr) (tt) (gr) (ML) (ns) (w) (cs) (cl) (nd) (lo) (ho) (so) ((M z (k + 1))) ) (cwV 1 hts gX7_findLow_X7_least rfl rfl rfl (by decide +kernel) ⟨Nat.le_of_ble_eq_true rfl, Nat.le_of_ble_eq_true rfl⟩) rfl (show vwCl[6]? = some (RX7, TX7, 23) from rfl) (nwSp.all ((wM G (a) (n) (cu) (bg) ((coF M)) ((goF M)) (er) (us) (x7) (((grtF (er) ((M z (k + 1)))) - (lstF (er) ((M (8 + z) (k + 1)))))) ((nI (k + 1))) (nv) (fr) (tt) (gr) ((hdF2 ML)) (ns) (w) (cs) (cl) (nd) (lo) (ho) (so)))) hP hD hS hA rfl hl.1 rfl (Nat.le_of_ble_eq_true rfl) dX7_findLow_93 ⟨Nat.le_of_ble_eq_true rfl, Nat.le_of_ble_eq_true rfl⟩ (fun r w H locs hp_8 hP hD hS => ?_)
              obtain ⟨rfl, rfl⟩ := hp_8
              have hP : va_P G.1 vwCl ((wM G (a) (n) (cu) (bg) ((coF M)) ((goF M)) (er) (us) (x7) (((grtF (er) ((M z (k + 1)))) - (lstF (er) ((M (8 + z) (k + 1)))))) ((nI (k + 1))) (nv) (fr) (tt) (gr) ((hdF2 ML)) (ns) (w) (cs) (cl) (nd) (lo) (ho) (so))) H := hP
              have hD : va_D vA ((wM G (a) (n) (cu) (bg) ((coF M)) ((goF M)) (er) (us) (x7) (((grtF (er) ((M z (k + 1)))) - (lstF (er) ((M (8 + z) (k + 1)))))) ((nI (k + 1))) (nv) (fr) (tt) (gr) ((hdF2 ML)) (ns) (w) (cs) (cl) (nd) (lo) (ho) (so))) := hD
              refine lv_aload_n hx hb dX7_findLow_96 rfl (lv_at hl 4 rfl) ?_
              refine lv_iload hx hb dX7_findLow_97 (lv_at hl 1 rfl) ?_
              refine nw_Vi (As := [.int (M (8 + z) (k + 1))]) (rest := [.int (lstF (er) ((M z (k + 1)))), .ref (a 0)]) (q0 := 0) X (c_X7_greatest lc G (a) (n) (cu) (bg) (M) (er) (us) (x7) (((grtF (er) ((M z (k + 1)))) - (lstF (er) ((M (8 + z) (k + 1)))))) ((nI (k + 1))) (nv) (fr) (tt) (gr) (ML) (ns) (w) (cs) (cl) (nd) (lo) (ho) (so) ((M (8 + z) (k + 1))) ) (cwV 1 hts gX7_findLow_X7_greatest rfl rfl rfl (by decide +kernel) ⟨Nat.le_of_ble_eq_true rfl, Nat.le_of_ble_eq_true rfl⟩) rfl (show vwCl[6]? = some (RX7, TX7, 23) from rfl) (nwSp.all ((wM G (a) (n) (cu) (bg) ((coF M)) ((goF M)) (er) (us) (x7) (((grtF (er) ((M z (k + 1)))) - (lstF (er) ((M (8 + z) (k + 1)))))) ((nI (k + 1))) (nv) (fr) (tt) (gr) ((hdF2 ML)) (ns) (w) (cs) (cl) (nd) (lo) (ho) (so)))) hP hD hS hA rfl hl.1 rfl (Nat.le_of_ble_eq_true rfl) dX7_findLow_99 ⟨Nat.le_of_ble_eq_true rfl, Nat.le_of_ble_eq_true rfl⟩ (fun r w H locs hp_9 hP hD hS => ?_)
              obtain ⟨rfl, rfl⟩ := hp_9
              have hP : va_P G.1 vwCl ((wM G (a) (n) (cu) (bg) ((coF M)) ((goF M)) (er) (us) (x7) (((grtF (er) ((M z (k + 1)))) - (lstF (er) ((M (8 + z) (k + 1)))))) ((nI (k + 1))) (nv) (fr) (tt) (gr) ((hdF2 ML)) (ns) (w) (cs) (cl) (nd) (lo) (ho) (so))) H := hP
              have hD : va_D vA ((wM G (a) (n) (cu) (bg) ((coF M)) ((goF M)) (er) (us) (x7) (((grtF (er) ((M z (k + 1)))) - (lstF (er) ((M (8 + z) (k + 1)))))) ((nI (k + 1))) (nv) (fr) (tt) (gr) ((hdF2 ML)) (ns) (w) (cs) (cl) (nd) (lo) (ho) (so))) := hD
              refine lv_isub hx hb dX7_findLow_102 ?_
              refine va_put (D := G.1) (ci := 6) (v := .int ((lstF (er) ((M z (k + 1)))) - (grtF (er) ((M (8 + z) (k + 1)))))) (ty := .int) (C := RX7) (T := TX7) (N := 23) hx hb hts in_X7_findLow_X7 tyX7 tyX7_ok nmX7 hown hK.1 hP hD hS 0 rfl rfl 7 (by decide) (hts (.fieldLink RX7 86 "NightWaterModel" "lowLeast" "I") (List.mem_of_getElem? (i := 5) rfl)) (fun _ h9 => h9) rfl (by decide +kernel) rfl rfl (Nat.le_of_ble_eq_true rfl) dX7_findLow_103 (fun H locs hP hD hS => ?_)
              have hP : va_P G.1 vwCl ((wM G (a) (n) (cu) (bg) ((coF M)) ((goF M)) (er) (us) (((lstF (er) ((M z (k + 1)))) - (grtF (er) ((M (8 + z) (k + 1)))))) (((grtF (er) ((M z (k + 1)))) - (lstF (er) ((M (8 + z) (k + 1)))))) ((nI (k + 1))) (nv) (fr) (tt) (gr) ((hdF2 ML)) (ns) (w) (cs) (cl) (nd) (lo) (ho) (so))) H := hP
              have hD : va_D vA ((wM G (a) (n) (cu) (bg) ((coF M)) ((goF M)) (er) (us) (((lstF (er) ((M z (k + 1)))) - (grtF (er) ((M (8 + z) (k + 1)))))) (((grtF (er) ((M z (k + 1)))) - (lstF (er) ((M (8 + z) (k + 1)))))) ((nI (k + 1))) (nv) (fr) (tt) (gr) ((hdF2 ML)) (ns) (w) (cs) (cl) (nd) (lo) (ho) (so))) := hD
              refine lv_iinc (v := (nI (k + 1 + 1))) (lv' := [(2, .int (nI (k + 1 + 1))), (5, .int ((grtF (er) ((M z (k + 1)))) - (lstF (er) ((M (8 + z) (k + 1)))))), (4, .int (M (8 + z) (k + 1))), (3, .int (M z (k + 1))), (0, .ref (a 0)), (1, .int (nI (z)))]) hx hb dX7_findLow_106 hl (k := 3) rfl (by exact nI_add (k + 1) 1) (by decide) rfl (fun ls hl => ?_)
              refine lv_goto (tgt := 7) hx hb dX7_findLow_109 (by decide) ?_
              exact ih7 (k + 1) (((lstF (er) ((M z (k + 1)))) - (grtF (er) ((M (8 + z) (k + 1)))))) (((grtF (er) ((M z (k + 1)))) - (lstF (er) ((M (8 + z) (k + 1)))))) ((nI (k + 1))) _ _ _ (by omega) (by omega) (by first | exact (congrArg (fun q => q.1) (fl_take (er := er) (f := M z) (g := M (8 + z)) (k := k) (by rw [← e9]; (try rw [← h8]); simp only [nwIf_T, nwIf_F, or_true, true_or, or_false, false_or, and_true, true_and, and_false, false_and, not_true_eq_false, not_false_eq_true, Nat.add_sub_cancel, b9_1n, b9_1, b39_3, b45_4, eq_true b67_7]))).symm | exact e9.trans (congrArg (fun q => q.1) (fl_keep (er := er) (f := M z) (g := M (8 + z)) (k := k) (by rw [← e9]; (try rw [← h8]); simp only [nwIf_T, nwIf_F, or_true, true_or, or_false, false_or, and_true, true_and, and_false, false_and, not_true_eq_false, not_false_eq_true, Nat.add_sub_cancel, b9_1n, b9_1, b39_3, b45_4, eq_true b67_7]))).symm) (by first | (rw [(fl_take (er := er) (f := M z) (g := M (8 + z)) (k := k) (by rw [← e9]; (try rw [← h8]); simp only [nwIf_T, nwIf_F, or_true, true_or, or_false, false_or, and_true, true_and, and_false, false_and, not_true_eq_false, not_false_eq_true, Nat.add_sub_cancel, b9_1n, b9_1, b39_3, b45_4, eq_true b67_7]))]; exact fun _ => ⟨rfl, rfl⟩) | (rw [(fl_keep (er := er) (f := M z) (g := M (8 + z)) (k := k) (by rw [← e9]; (try rw [← h8]); simp only [nwIf_T, nwIf_F, or_true, true_or, or_false, false_or, and_true, true_and, and_false, false_and, not_true_eq_false, not_false_eq_true, Nat.add_sub_cancel, b9_1n, b9_1, b39_3, b45_4, eq_true b67_7]))]; exact e8)) (lv_sub hl [0, 4, 5] rfl) hP hD hS
            · skip
              have b67_7 : ¬ ((x9) = (-1 : Int32)) := b67_7
              have h8 : x8 = (lowF er (M z) (M (8 + z)) k).2.1 := (e8 (by rw [← e9]; exact b67_7)).1
              refine lv_iload hx hb dX7_findLow_70 (lv_at hl 0 rfl) ?_
              refine lv_aload_n hx hb dX7_findLow_72 rfl (lv_at hl 4 rfl) ?_
              refine va_get (D := G.1) (ci := 6) (v := .int (x8)) (C := RX7) (T := TX7) (N := 23) hx hb hts in_X7_findLow_X7 hown hK.1 hP 0 rfl rfl 8 (by decide) (hts (.fieldLink RX7 83 "NightWaterModel" "lowMost" "I") (List.mem_of_getElem? (i := 4) rfl)) (fun _ h9 => h9) rfl dX7_findLow_73 ?_
              refine lv_icmp_ge (tgt := 106) hx hb dX7_findLow_76 (by decide) (fun b76_10 => ?_) (fun b76_10 => ?_)
              · skip
                have b76_10 : (x8) ≤ ((grtF (er) ((M z (k + 1)))) - (lstF (er) ((M (8 + z) (k + 1))))) := b76_10
                have b76_10n : ¬ (((grtF (er) ((M z (k + 1)))) - (lstF (er) ((M (8 + z) (k + 1))))) < (x8)) := Int32.not_lt.mpr b76_10
                refine lv_iinc (v := (nI (k + 1 + 1))) (lv' := [(2, .int (nI (k + 1 + 1))), (5, .int ((grtF (er) ((M z (k + 1)))) - (lstF (er) ((M (8 + z) (k + 1)))))), (4, .int (M (8 + z) (k + 1))), (3, .int (M z (k + 1))), (0, .ref (a 0)), (1, .int (nI (z)))]) hx hb dX7_findLow_106 hl (k := 3) rfl (by exact nI_add (k + 1) 1) (by decide) rfl (fun ls hl => ?_)
                refine lv_goto (tgt := 7) hx hb dX7_findLow_109 (by decide) ?_
                exact ih7 (k + 1) (x7) (x8) (x9) _ _ _ (by omega) (by omega) (by first | exact (congrArg (fun q => q.1) (fl_take (er := er) (f := M z) (g := M (8 + z)) (k := k) (by rw [← e9]; (try rw [← h8]); simp only [nwIf_T, nwIf_F, or_true, true_or, or_false, false_or, and_true, true_and, and_false, false_and, not_true_eq_false, not_false_eq_true, Nat.add_sub_cancel, b9_1n, b9_1, b39_3, b45_4, b67_7, b76_10n, b76_10]))).symm | exact e9.trans (congrArg (fun q => q.1) (fl_keep (er := er) (f := M z) (g := M (8 + z)) (k := k) (by rw [← e9]; (try rw [← h8]); simp only [nwIf_T, nwIf_F, or_true, true_or, or_false, false_or, and_true, true_and, and_false, false_and, not_true_eq_false, not_false_eq_true, Nat.add_sub_cancel, b9_1n, b9_1, b39_3, b45_4, b67_7, b76_10n, b76_10]))).symm) (by first | (rw [(fl_take (er := er) (f := M z) (g := M (8 + z)) (k := k) (by rw [← e9]; (try rw [← h8]); simp only [nwIf_T, nwIf_F, or_true, true_or, or_false, false_or, and_true, true_and, and_false, false_and, not_true_eq_false, not_false_eq_true, Nat.add_sub_cancel, b9_1n, b9_1, b39_3, b45_4, b67_7, b76_10n, b76_10]))]; exact fun _ => ⟨rfl, rfl⟩) | (rw [(fl_keep (er := er) (f := M z) (g := M (8 + z)) (k := k) (by rw [← e9]; (try rw [← h8]); simp only [nwIf_T, nwIf_F, or_true, true_or, or_false, false_or, and_true, true_and, and_false, false_and, not_true_eq_false, not_false_eq_true, Nat.add_sub_cancel, b9_1n, b9_1, b39_3, b45_4, b67_7, b76_10n, b76_10]))]; exact e8)) (lv_sub hl [0, 4, 5] rfl) hP hD hS
              · skip
                have b76_10 : ¬ ((x8) ≤ ((grtF (er) ((M z (k + 1)))) - (lstF (er) ((M (8 + z) (k + 1)))))) := b76_10
                have b76_10n : ((grtF (er) ((M z (k + 1)))) - (lstF (er) ((M (8 + z) (k + 1))))) < (x8) := Int32.not_le.mp b76_10
                refine lv_aload_n hx hb dX7_findLow_79 rfl (lv_at hl 4 rfl) ?_
                refine lv_iload_n hx hb dX7_findLow_80 rfl (lv_at hl 3 rfl) ?_
                refine va_put (D := G.1) (ci := 6) (v := .int (nI (k + 1))) (ty := .int) (C := RX7) (T := TX7) (N := 23) hx hb hts in_X7_findLow_X7 tyX7 tyX7_ok nmX7 hown hK.1 hP hD hS 0 rfl rfl 9 (by decide) (hts (.fieldLink RX7 73 "NightWaterModel" "lowHour" "I") (List.mem_of_getElem? (i := 1) rfl)) (fun _ h9 => h9) rfl (by decide +kernel) rfl rfl (Nat.le_of_ble_eq_true rfl) dX7_findLow_81 (fun H locs hP hD hS => ?_)
                have hP : va_P G.1 vwCl ((wM G (a) (n) (cu) (bg) ((coF M)) ((goF M)) (er) (us) (x7) (x8) ((nI (k + 1))) (nv) (fr) (tt) (gr) ((hdF2 ML)) (ns) (w) (cs) (cl) (nd) (lo) (ho) (so))) H := hP
                have hD : va_D vA ((wM G (a) (n) (cu) (bg) ((coF M)) ((goF M)) (er) (us) (x7) (x8) ((nI (k + 1))) (nv) (fr) (tt) (gr) ((hdF2 ML)) (ns) (w) (cs) (cl) (nd) (lo) (ho) (so))) := hD
                refine lv_aload_n hx hb dX7_findLow_84 rfl (lv_at hl 4 rfl) ?_
                refine lv_iload hx hb dX7_findLow_85 (lv_at hl 0 rfl) ?_
                refine va_put (D := G.1) (ci := 6) (v := .int ((grtF (er) ((M z (k + 1)))) - (lstF (er) ((M (8 + z) (k + 1)))))) (ty := .int) (C := RX7) (T := TX7) (N := 23) hx hb hts in_X7_findLow_X7 tyX7 tyX7_ok nmX7 hown hK.1 hP hD hS 0 rfl rfl 8 (by decide) (hts (.fieldLink RX7 83 "NightWaterModel" "lowMost" "I") (List.mem_of_getElem? (i := 4) rfl)) (fun _ h9 => h9) rfl (by decide +kernel) rfl rfl (Nat.le_of_ble_eq_true rfl) dX7_findLow_87 (fun H locs hP hD hS => ?_)
                have hP : va_P G.1 vwCl ((wM G (a) (n) (cu) (bg) ((coF M)) ((goF M)) (er) (us) (x7) (((grtF (er) ((M z (k + 1)))) - (lstF (er) ((M (8 + z) (k + 1)))))) ((nI (k + 1))) (nv) (fr) (tt) (gr) ((hdF2 ML)) (ns) (w) (cs) (cl) (nd) (lo) (ho) (so))) H := hP
                have hD : va_D vA ((wM G (a) (n) (cu) (bg) ((coF M)) ((goF M)) (er) (us) (x7) (((grtF (er) ((M z (k + 1)))) - (lstF (er) ((M (8 + z) (k + 1)))))) ((nI (k + 1))) (nv) (fr) (tt) (gr) ((hdF2 ML)) (ns) (w) (cs) (cl) (nd) (lo) (ho) (so))) := hD
                refine lv_aload_n hx hb dX7_findLow_90 rfl (lv_at hl 4 rfl) ?_
                refine lv_aload_n hx hb dX7_findLow_91 rfl (lv_at hl 4 rfl) ?_
                refine lv_iload_n hx hb dX7_findLow_92 rfl (lv_at hl 2 rfl) ?_
                refine nw_Vi (As := [.int (M z (k + 1))]) (rest := [.ref (a 0)]) (q0 := 0) X (c_X7_least lc G (a) (n) (cu) (bg) (M) (er) (us) (x7) (((grtF (er) ((M z (k + 1)))) - (lstF (er) ((M (8 + z) (k + 1)))))) ((nI (k + 1))) (nv) (fr) (tt) (gr) (ML) (ns) (w) (cs) (cl) (nd) (lo) (ho) (so) ((M z (k + 1))) ) (cwV 1 hts gX7_findLow_X7_least rfl rfl rfl (by decide +kernel) ⟨Nat.le_of_ble_eq_true rfl, Nat.le_of_ble_eq_true rfl⟩) rfl (show vwCl[6]? = some (RX7, TX7, 23) from rfl) (nwSp.all ((wM G (a) (n) (cu) (bg) ((coF M)) ((goF M)) (er) (us) (x7) (((grtF (er) ((M z (k + 1)))) - (lstF (er) ((M (8 + z) (k + 1)))))) ((nI (k + 1))) (nv) (fr) (tt) (gr) ((hdF2 ML)) (ns) (w) (cs) (cl) (nd) (lo) (ho) (so)))) hP hD hS hA rfl hl.1 rfl (Nat.le_of_ble_eq_true rfl) dX7_findLow_93 ⟨Nat.le_of_ble_eq_true rfl, Nat.le_of_ble_eq_true rfl⟩ (fun r w H locs hp_11 hP hD hS => ?_)
                obtain ⟨rfl, rfl⟩ := hp_11
                have hP : va_P G.1 vwCl ((wM G (a) (n) (cu) (bg) ((coF M)) ((goF M)) (er) (us) (x7) (((grtF (er) ((M z (k + 1)))) - (lstF (er) ((M (8 + z) (k + 1)))))) ((nI (k + 1))) (nv) (fr) (tt) (gr) ((hdF2 ML)) (ns) (w) (cs) (cl) (nd) (lo) (ho) (so))) H := hP
                have hD : va_D vA ((wM G (a) (n) (cu) (bg) ((coF M)) ((goF M)) (er) (us) (x7) (((grtF (er) ((M z (k + 1)))) - (lstF (er) ((M (8 + z) (k + 1)))))) ((nI (k + 1))) (nv) (fr) (tt) (gr) ((hdF2 ML)) (ns) (w) (cs) (cl) (nd) (lo) (ho) (so))) := hD
                refine lv_aload_n hx hb dX7_findLow_96 rfl (lv_at hl 4 rfl) ?_
                refine lv_iload hx hb dX7_findLow_97 (lv_at hl 1 rfl) ?_
                refine nw_Vi (As := [.int (M (8 + z) (k + 1))]) (rest := [.int (lstF (er) ((M z (k + 1)))), .ref (a 0)]) (q0 := 0) X (c_X7_greatest lc G (a) (n) (cu) (bg) (M) (er) (us) (x7) (((grtF (er) ((M z (k + 1)))) - (lstF (er) ((M (8 + z) (k + 1)))))) ((nI (k + 1))) (nv) (fr) (tt) (gr) (ML) (ns) (w) (cs) (cl) (nd) (lo) (ho) (so) ((M (8 + z) (k + 1))) ) (cwV 1 hts gX7_findLow_X7_greatest rfl rfl rfl (by decide +kernel) ⟨Nat.le_of_ble_eq_true rfl, Nat.le_of_ble_eq_true rfl⟩) rfl (show vwCl[6]? = some (RX7, TX7, 23) from rfl) (nwSp.all ((wM G (a) (n) (cu) (bg) ((coF M)) ((goF M)) (er) (us) (x7) (((grtF (er) ((M z (k + 1)))) - (lstF (er) ((M (8 + z) (k + 1)))))) ((nI (k + 1))) (nv) (fr) (tt) (gr) ((hdF2 ML)) (ns) (w) (cs) (cl) (nd) (lo) (ho) (so)))) hP hD hS hA rfl hl.1 rfl (Nat.le_of_ble_eq_true rfl) dX7_findLow_99 ⟨Nat.le_of_ble_eq_true rfl, Nat.le_of_ble_eq_true rfl⟩ (fun r w H locs hp_12 hP hD hS => ?_)
                obtain ⟨rfl, rfl⟩ := hp_12
                have hP : va_P G.1 vwCl ((wM G (a) (n) (cu) (bg) ((coF M)) ((goF M)) (er) (us) (x7) (((grtF (er) ((M z (k + 1)))) - (lstF (er) ((M (8 + z) (k + 1)))))) ((nI (k + 1))) (nv) (fr) (tt) (gr) ((hdF2 ML)) (ns) (w) (cs) (cl) (nd) (lo) (ho) (so))) H := hP
                have hD : va_D vA ((wM G (a) (n) (cu) (bg) ((coF M)) ((goF M)) (er) (us) (x7) (((grtF (er) ((M z (k + 1)))) - (lstF (er) ((M (8 + z) (k + 1)))))) ((nI (k + 1))) (nv) (fr) (tt) (gr) ((hdF2 ML)) (ns) (w) (cs) (cl) (nd) (lo) (ho) (so))) := hD
                refine lv_isub hx hb dX7_findLow_102 ?_
                refine va_put (D := G.1) (ci := 6) (v := .int ((lstF (er) ((M z (k + 1)))) - (grtF (er) ((M (8 + z) (k + 1)))))) (ty := .int) (C := RX7) (T := TX7) (N := 23) hx hb hts in_X7_findLow_X7 tyX7 tyX7_ok nmX7 hown hK.1 hP hD hS 0 rfl rfl 7 (by decide) (hts (.fieldLink RX7 86 "NightWaterModel" "lowLeast" "I") (List.mem_of_getElem? (i := 5) rfl)) (fun _ h9 => h9) rfl (by decide +kernel) rfl rfl (Nat.le_of_ble_eq_true rfl) dX7_findLow_103 (fun H locs hP hD hS => ?_)
                have hP : va_P G.1 vwCl ((wM G (a) (n) (cu) (bg) ((coF M)) ((goF M)) (er) (us) (((lstF (er) ((M z (k + 1)))) - (grtF (er) ((M (8 + z) (k + 1)))))) (((grtF (er) ((M z (k + 1)))) - (lstF (er) ((M (8 + z) (k + 1)))))) ((nI (k + 1))) (nv) (fr) (tt) (gr) ((hdF2 ML)) (ns) (w) (cs) (cl) (nd) (lo) (ho) (so))) H := hP
                have hD : va_D vA ((wM G (a) (n) (cu) (bg) ((coF M)) ((goF M)) (er) (us) (((lstF (er) ((M z (k + 1)))) - (grtF (er) ((M (8 + z) (k + 1)))))) (((grtF (er) ((M z (k + 1)))) - (lstF (er) ((M (8 + z) (k + 1)))))) ((nI (k + 1))) (nv) (fr) (tt) (gr) ((hdF2 ML)) (ns) (w) (cs) (cl) (nd) (lo) (ho) (so))) := hD
                refine lv_iinc (v := (nI (k + 1 + 1))) (lv' := [(2, .int (nI (k + 1 + 1))), (5, .int ((grtF (er) ((M z (k + 1)))) - (lstF (er) ((M (8 + z) (k + 1)))))), (4, .int (M (8 + z) (k + 1))), (3, .int (M z (k + 1))), (0, .ref (a 0)), (1, .int (nI (z)))]) hx hb dX7_findLow_106 hl (k := 3) rfl (by exact nI_add (k + 1) 1) (by decide) rfl (fun ls hl => ?_)
                refine lv_goto (tgt := 7) hx hb dX7_findLow_109 (by decide) ?_
                exact ih7 (k + 1) (((lstF (er) ((M z (k + 1)))) - (grtF (er) ((M (8 + z) (k + 1)))))) (((grtF (er) ((M z (k + 1)))) - (lstF (er) ((M (8 + z) (k + 1)))))) ((nI (k + 1))) _ _ _ (by omega) (by omega) (by first | exact (congrArg (fun q => q.1) (fl_take (er := er) (f := M z) (g := M (8 + z)) (k := k) (by rw [← e9]; (try rw [← h8]); simp only [nwIf_T, nwIf_F, or_true, true_or, or_false, false_or, and_true, true_and, and_false, false_and, not_true_eq_false, not_false_eq_true, Nat.add_sub_cancel, b9_1n, b9_1, b39_3, b45_4, b67_7, b76_10n, b76_10]))).symm | exact e9.trans (congrArg (fun q => q.1) (fl_keep (er := er) (f := M z) (g := M (8 + z)) (k := k) (by rw [← e9]; (try rw [← h8]); simp only [nwIf_T, nwIf_F, or_true, true_or, or_false, false_or, and_true, true_and, and_false, false_and, not_true_eq_false, not_false_eq_true, Nat.add_sub_cancel, b9_1n, b9_1, b39_3, b45_4, b67_7, b76_10n, b76_10]))).symm) (by first | (rw [(fl_take (er := er) (f := M z) (g := M (8 + z)) (k := k) (by rw [← e9]; (try rw [← h8]); simp only [nwIf_T, nwIf_F, or_true, true_or, or_false, false_or, and_true, true_and, and_false, false_and, not_true_eq_false, not_false_eq_true, Nat.add_sub_cancel, b9_1n, b9_1, b39_3, b45_4, b67_7, b76_10n, b76_10]))]; exact fun _ => ⟨rfl, rfl⟩) | (rw [(fl_keep (er := er) (f := M z) (g := M (8 + z)) (k := k) (by rw [← e9]; (try rw [← h8]); simp only [nwIf_T, nwIf_F, or_true, true_or, or_false, false_or, and_true, true_and, and_false, false_and, not_true_eq_false, not_false_eq_true, Nat.add_sub_cancel, b9_1n, b9_1, b39_3, b45_4, b67_7, b76_10n, b76_10]))]; exact e8)) (lv_sub hl [0, 4, 5] rfl) hP hD hS
  exact K7 ((5 - (0)) + 1) (0) (ll) (lm) ((-1 : Int32)) _ _ _ (Nat.lt_succ_self _) (by omega) (by rfl) (by exact fun h => absurd rfl h) (lv_sub hl [0, 1, 2] rfl) hP hD hS
set_option maxHeartbeats 4000000 in
set_option maxRecDepth 100000 in
theorem c_X7_low (lc : Launch) (G : nwG) (a : Nat → Nat) (n : Nat) (cu bg : Nat → Int32) (M : Nat → Nat → Int32) (er us ll lm lh : Int32) (nv : Nat) (fr tt gr : Nat → Nat) (ML : Nat → Nat → Int32) (ns : Nat) (w : Nat → Nat) (cs cl : Nat → Int32) (nd : Nat) (lo ho : Nat → Int32) (so : Nat → Nat) (z what : Int32) (hn : n ≤ 8) : nwCi lc G yX7_low wsX7_low ({ frames := 2, cells := 0, slots := 0, locals := 46 } : Room) [.ref (a 0), .int (z), .int (what)] ((wM G (a) (n) (cu) (bg) ((coF M)) ((goF M)) (er) (us) (ll) (lm) (lh) (nv) (fr) (tt) (gr) ((hdF2 ML)) (ns) (w) (cs) (cl) (nd) (lo) (ho) (so))) (fun r ww => ∃ llv lmv lhv : Int32, r = lowPF n M er z what ∧ ww = wM G (a) (n) (cu) (bg) ((coF M)) ((goF M)) (er) (us) (llv) (lmv) (lhv) (nv) (fr) (tt) (gr) ((hdF2 ML)) (ns) (w) (cs) (cl) (nd) (lo) (ho) (so)) := by
  refine nw_of (cc := cX7_low) (maxL := 3) (ret := (some .int)) (by decide) rfl (Nat.le_of_ble_eq_true rfl) ?_
  intro vp ve vs vm vb vt vc vA ls X hP hD hA hS hl
  have X : nwAt vp vm vc cX7_low 3 vs _ wsX7_low RX7 vt (some .int) "low" G := X
  have hx := X.1.1
  have hb := X.1.2.1
  have hown := X.1.2.2.2.1
  have hts := X.1.2.2.2.2
  have hK := X.2.2.2.2
  have hl : lv_has ls 3 [(0, .ref (a 0)), (1, .int (z)), (2, .int (what))] := hl
  refine lv_aload_n hx hb dX7_low_0 rfl (lv_at hl 0 rfl) ?_
  refine lv_iload_n hx hb dX7_low_1 rfl (lv_at hl 1 rfl) ?_
  refine nw_Vi (As := [.int (z)]) (rest := []) (q0 := 0) X (c_X7_isZone lc G (a) (n) (cu) (bg) (M) (er) (us) (ll) (lm) (lh) (nv) (fr) (tt) (gr) (ML) (ns) (w) (cs) (cl) (nd) (lo) (ho) (so) ((z)) ) (cwV 1 hts gX7_low_X7_isZone rfl rfl rfl (by decide +kernel) ⟨Nat.le_of_ble_eq_true rfl, Nat.le_of_ble_eq_true rfl⟩) rfl (show vwCl[6]? = some (RX7, TX7, 23) from rfl) (nwSp.all ((wM G (a) (n) (cu) (bg) ((coF M)) ((goF M)) (er) (us) (ll) (lm) (lh) (nv) (fr) (tt) (gr) ((hdF2 ML)) (ns) (w) (cs) (cl) (nd) (lo) (ho) (so)))) hP hD hS hA rfl hl.1 rfl (Nat.le_of_ble_eq_true rfl) dX7_low_2 ⟨Nat.le_of_ble_eq_true rfl, Nat.le_of_ble_eq_true rfl⟩ (fun r w H locs hp_1 hP hD hS => ?_)
  obtain ⟨⟨rfl, q_2⟩ | ⟨rfl, q_2⟩, rfl⟩ := hp_1
  · skip
    have hP : va_P G.1 vwCl ((wM G (a) (n) (cu) (bg) ((coF M)) ((goF M)) (er) (us) (ll) (lm) (lh) (nv) (fr) (tt) (gr) ((hdF2 ML)) (ns) (w) (cs) (cl) (nd) (lo) (ho) (so))) H := hP
    have hD : va_D vA ((wM G (a) (n) (cu) (bg) ((coF M)) ((goF M)) (er) (us) (ll) (lm) (lh) (nv) (fr) (tt) (gr) ((hdF2 ML)) (ns) (w) (cs) (cl) (nd) (lo) (ho) (so))) := hD
    have q_2 : ¬ out ((z)) 0 (nI (n) - 1) := q_2
    obtain ⟨z_3, hz_4, he_5⟩ := nw_lt (n := n) (by omega) q_2
    have ec_6 := nw_clamp he_5 (by omega)
    refine lv_if_eq (tgt := 25) hx hb dX7_low_5 (by decide) (fun c9 => absurd c9 (by decide)) (fun _ => ?_)
    refine lv_iload_n hx hb dX7_low_8 rfl (lv_at hl 2 rfl) ?_
    refine lv_iconst (v := (0)) hx hb dX7_low_9 (by decide) ?_
    refine lv_iconst (v := (2)) hx hb dX7_low_10 (by decide) ?_
    refine nw_Si (As := [.int (what), .int (0), .int (2)]) (rest := []) X (c_X7_in lc G ((what)) ((0 : Int32)) ((2 : Int32)) ) (va_cwS 3 hts gX7_low_X7_in rfl rfl rfl (by decide +kernel) ⟨Nat.le_of_ble_eq_true rfl, Nat.le_of_ble_eq_true rfl⟩) (fun _ _ h => h.2) hP hD hS hA rfl hl.1 rfl (Nat.le_of_ble_eq_true rfl) dX7_low_11 ⟨Nat.le_of_ble_eq_true rfl, Nat.le_of_ble_eq_true rfl⟩ (fun r H locs hp_8 hP hD hS => ?_)
    obtain ⟨⟨rfl, q_9⟩ | ⟨rfl, q_9⟩, -⟩ := hp_8
    · skip
      have q_9 : ¬ out ((what)) ((0 : Int32)) ((2 : Int32)) := q_9
      refine lv_if_eq (tgt := 25) hx hb dX7_low_14 (by decide) (fun c9 => absurd c9 (by decide)) (fun _ => ?_)
      refine lv_aload_n hx hb dX7_low_17 rfl (lv_at hl 0 rfl) ?_
      refine lv_iload_n hx hb dX7_low_18 rfl (lv_at hl 1 rfl) ?_
      refine nw_st (st' := [.int (nI (z_3)), .ref (a 0)]) (by rw [he_5]) ?_
      refine nw_Vi (As := [.int (nI (z_3))]) (rest := []) (q0 := 0) X (c_X7_findLow lc G (a) (n) (cu) (bg) (M) (er) (us) (ll) (lm) (lh) (nv) (fr) (tt) (gr) (ML) (ns) (w) (cs) (cl) (nd) (lo) (ho) (so) (z_3) (by first | assumption | omega)) (cwV 1 hts gX7_low_X7_findLow rfl rfl rfl (by decide +kernel) ⟨Nat.le_of_ble_eq_true rfl, Nat.le_of_ble_eq_true rfl⟩) rfl (show vwCl[6]? = some (RX7, TX7, 23) from rfl) (nwSp.all ((wM G (a) (n) (cu) (bg) ((coF M)) ((goF M)) (er) (us) (ll) (lm) (lh) (nv) (fr) (tt) (gr) ((hdF2 ML)) (ns) (w) (cs) (cl) (nd) (lo) (ho) (so)))) hP hD hS hA rfl hl.1 rfl (Nat.le_of_ble_eq_true rfl) dX7_low_19 ⟨Nat.le_of_ble_eq_true rfl, Nat.le_of_ble_eq_true rfl⟩ (fun r w H locs hp_11 hP hD hS => ?_)
      obtain ⟨llv_12, lmv_13, ⟨rfl, q_14⟩ | ⟨rfl, q_14⟩, hfl_15, rfl⟩ := hp_11
      · skip
        have hP : va_P G.1 vwCl ((wM G (a) (n) (cu) (bg) ((coF M)) ((goF M)) (er) (us) (llv_12) (lmv_13) ((lowF er (M z_3) (M (8 + z_3)) 4).1) (nv) (fr) (tt) (gr) ((hdF2 ML)) (ns) (w) (cs) (cl) (nd) (lo) (ho) (so))) H := hP
        have hD : va_D vA ((wM G (a) (n) (cu) (bg) ((coF M)) ((goF M)) (er) (us) (llv_12) (lmv_13) ((lowF er (M z_3) (M (8 + z_3)) 4).1) (nv) (fr) (tt) (gr) ((hdF2 ML)) (ns) (w) (cs) (cl) (nd) (lo) (ho) (so))) := hD
        have q_14 : ¬ (lowF (er) ((M) (z_3)) ((M) (8 + (z_3))) 4).1 = -1 := q_14
        obtain ⟨hlm_16, hll_17⟩ := hfl_15 q_14
        refine lv_if_ne (tgt := 28) hx hb dX7_low_22 (by decide) (fun _ => ?_) (fun c9 => absurd c9 (by decide))
        refine lv_iload_n hx hb dX7_low_28 rfl (lv_at hl 2 rfl) ?_
        refine lv_if_ne (tgt := 39) hx hb dX7_low_29 (by decide) (fun b29_19 => ?_) (fun b29_19 => ?_)
        · skip
          have b29_19 : ¬ ((what) = (0 : Int32)) := b29_19
          refine lv_iload_n hx hb dX7_low_39 rfl (lv_at hl 2 rfl) ?_
          refine lv_iconst (v := (1)) hx hb dX7_low_40 (by decide) ?_
          refine lv_icmp_ne (tgt := 51) hx hb dX7_low_41 (by decide) (fun b41_20 => ?_) (fun b41_20 => ?_)
          · skip
            have b41_20 : ¬ ((what) = (1 : Int32)) := b41_20
            have hw2 : what = 2 := nw_two q_9 b29_19 b41_20
            refine lv_aload_n hx hb dX7_low_51 rfl (lv_at hl 0 rfl) ?_
            refine va_get (D := G.1) (ci := 6) (v := .int ((lowF er (M z_3) (M (8 + z_3)) 4).1)) (C := RX7) (T := TX7) (N := 23) hx hb hts in_X7_low_X7 hown hK.1 hP 0 rfl rfl 9 (by decide) (hts (Cond.fieldLink RX7 73 "NightWaterModel" "lowHour" "I") (List.mem_of_getElem? (i := 4) rfl)) (fun _ h9 => h9) rfl dX7_low_52 ?_
            exact nw_iret (rm := ({ frames := 2, cells := 0, slots := 0, locals := 46 } : Room)) X hP hD hS (⟨_, _, _, by simp only [lowPF, nwIf_T, nwIf_F, or_true, true_or, or_false, false_or, and_true, true_and, and_false, false_and, not_true_eq_false, not_false_eq_true, Nat.add_sub_cancel, q_2, ec_6, q_9, q_14, ← hlm_16, ← hll_17, b29_19, b41_20, eq_true hw2], rfl⟩) dX7_low_55
          · skip
            have b41_20 : (what) = (1 : Int32) := b41_20
            have hn2 : ¬ what = 2 := by rw [b41_20]; decide
            refine lv_aload_n hx hb dX7_low_44 rfl (lv_at hl 0 rfl) ?_
            refine va_get (D := G.1) (ci := 6) (v := .int (lmv_13)) (C := RX7) (T := TX7) (N := 23) hx hb hts in_X7_low_X7 hown hK.1 hP 0 rfl rfl 8 (by decide) (hts (Cond.fieldLink RX7 83 "NightWaterModel" "lowMost" "I") (List.mem_of_getElem? (i := 3) rfl)) (fun _ h9 => h9) rfl dX7_low_45 ?_
            refine lv_goto (tgt := 55) hx hb dX7_low_48 (by decide) ?_
            exact nw_iret (rm := ({ frames := 2, cells := 0, slots := 0, locals := 46 } : Room)) X hP hD hS (⟨_, _, _, by simp only [lowPF, nwIf_T, nwIf_F, or_true, true_or, or_false, false_or, and_true, true_and, and_false, false_and, not_true_eq_false, not_false_eq_true, Nat.add_sub_cancel, q_2, ec_6, q_9, q_14, ← hlm_16, ← hll_17, b29_19, eq_true b41_20, hn2], rfl⟩) dX7_low_55
        · skip
          have b29_19 : (what) = (0 : Int32) := b29_19
          have hn2 : ¬ what = 2 := by rw [b29_19]; decide
          refine lv_aload_n hx hb dX7_low_32 rfl (lv_at hl 0 rfl) ?_
          refine va_get (D := G.1) (ci := 6) (v := .int (llv_12)) (C := RX7) (T := TX7) (N := 23) hx hb hts in_X7_low_X7 hown hK.1 hP 0 rfl rfl 7 (by decide) (hts (Cond.fieldLink RX7 86 "NightWaterModel" "lowLeast" "I") (List.mem_of_getElem? (i := 2) rfl)) (fun _ h9 => h9) rfl dX7_low_33 ?_
          refine lv_goto (tgt := 55) hx hb dX7_low_36 (by decide) ?_
          exact nw_iret (rm := ({ frames := 2, cells := 0, slots := 0, locals := 46 } : Room)) X hP hD hS (⟨_, _, _, by simp only [lowPF, nwIf_T, nwIf_F, or_true, true_or, or_false, false_or, and_true, true_and, and_false, false_and, not_true_eq_false, not_false_eq_true, Nat.add_sub_cancel, q_2, ec_6, q_9, q_14, ← hlm_16, ← hll_17, eq_true b29_19, hn2], rfl⟩) dX7_low_55
      · skip
        have hP : va_P G.1 vwCl ((wM G (a) (n) (cu) (bg) ((coF M)) ((goF M)) (er) (us) (llv_12) (lmv_13) ((lowF er (M z_3) (M (8 + z_3)) 4).1) (nv) (fr) (tt) (gr) ((hdF2 ML)) (ns) (w) (cs) (cl) (nd) (lo) (ho) (so))) H := hP
        have hD : va_D vA ((wM G (a) (n) (cu) (bg) ((coF M)) ((goF M)) (er) (us) (llv_12) (lmv_13) ((lowF er (M z_3) (M (8 + z_3)) 4).1) (nv) (fr) (tt) (gr) ((hdF2 ML)) (ns) (w) (cs) (cl) (nd) (lo) (ho) (so))) := hD
        have q_14 : (lowF (er) ((M) (z_3)) ((M) (8 + (z_3))) 4).1 = -1 := q_14
        refine lv_if_ne (tgt := 28) hx hb dX7_low_22 (by decide) (fun c9 => absurd c9 (by decide)) (fun _ => ?_)
        refine lv_ldc (own := RX7) (v := (-2000000000)) hx hb hown (hts (Cond.constant RX7 92 (-2000000000)) (List.mem_of_getElem? (i := 1) rfl)) dX7_low_25 ?_
        exact nw_iret (rm := ({ frames := 2, cells := 0, slots := 0, locals := 46 } : Room)) X hP hD hS (⟨_, _, _, by simp only [lowPF, nwIf_T, nwIf_F, or_true, true_or, or_false, false_or, and_true, true_and, and_false, false_and, not_true_eq_false, not_false_eq_true, Nat.add_sub_cancel, q_2, ec_6, q_9, eq_true q_14], rfl⟩) dX7_low_27
    · skip
      have q_9 : out ((what)) ((0 : Int32)) ((2 : Int32)) := q_9
      refine lv_if_eq (tgt := 25) hx hb dX7_low_14 (by decide) (fun _ => ?_) (fun c9 => absurd (by decide) c9)
      refine lv_ldc (own := RX7) (v := (-2000000000)) hx hb hown (hts (Cond.constant RX7 92 (-2000000000)) (List.mem_of_getElem? (i := 1) rfl)) dX7_low_25 ?_
      exact nw_iret (rm := ({ frames := 2, cells := 0, slots := 0, locals := 46 } : Room)) X hP hD hS (⟨_, _, _, by simp only [lowPF, nwIf_T, nwIf_F, or_true, true_or, or_false, false_or, and_true, true_and, and_false, false_and, not_true_eq_false, not_false_eq_true, Nat.add_sub_cancel, q_2, ec_6, q_9], rfl⟩) dX7_low_27
  · skip
    have hP : va_P G.1 vwCl ((wM G (a) (n) (cu) (bg) ((coF M)) ((goF M)) (er) (us) (ll) (lm) (lh) (nv) (fr) (tt) (gr) ((hdF2 ML)) (ns) (w) (cs) (cl) (nd) (lo) (ho) (so))) H := hP
    have hD : va_D vA ((wM G (a) (n) (cu) (bg) ((coF M)) ((goF M)) (er) (us) (ll) (lm) (lh) (nv) (fr) (tt) (gr) ((hdF2 ML)) (ns) (w) (cs) (cl) (nd) (lo) (ho) (so))) := hD
    have q_2 : out ((z)) 0 (nI (n) - 1) := q_2
    refine lv_if_eq (tgt := 25) hx hb dX7_low_5 (by decide) (fun _ => ?_) (fun c9 => absurd (by decide) c9)
    refine lv_ldc (own := RX7) (v := (-2000000000)) hx hb hown (hts (Cond.constant RX7 92 (-2000000000)) (List.mem_of_getElem? (i := 1) rfl)) dX7_low_25 ?_
    exact nw_iret (rm := ({ frames := 2, cells := 0, slots := 0, locals := 46 } : Room)) X hP hD hS (⟨_, _, _, by simp only [lowPF, nwIf_T, nwIf_F, or_true, true_or, or_false, false_or, and_true, true_and, and_false, false_and, not_true_eq_false, not_false_eq_true, Nat.add_sub_cancel, q_2], rfl⟩) dX7_low_27
set_option maxHeartbeats 4000000 in
set_option maxRecDepth 100000 in
theorem c_X7_leaksOf (lc : Launch) (G : nwG) (a : Nat → Nat) (n : Nat) (cu bg : Nat → Int32) (M : Nat → Nat → Int32) (er us ll lm lh : Int32) (nv : Nat) (fr tt gr : Nat → Nat) (ML : Nat → Nat → Int32) (ns : Nat) (w : Nat → Nat) (cs cl : Nat → Int32) (nd : Nat) (lo ho : Nat → Int32) (so : Nat → Nat) (z : Nat) (what : Int32) (hz : z < 8) : nwCi lc G yX7_leaksOf wsX7_leaksOf ({ frames := 2, cells := 0, slots := 0, locals := 46 } : Room) [.ref (a 0), .int (nI (z)), .int (what)] ((wM G (a) (n) (cu) (bg) ((coF M)) ((goF M)) (er) (us) (ll) (lm) (lh) (nv) (fr) (tt) (gr) ((hdF2 ML)) (ns) (w) (cs) (cl) (nd) (lo) (ho) (so))) (fun r ww => ∃ llv lmv lhv : Int32, r = leakF er us (cu z) (bg z) (M z) (M (8 + z)) what ∧ ww = wM G (a) (n) (cu) (bg) ((coF M)) ((goF M)) (er) (us) (llv) (lmv) (lhv) (nv) (fr) (tt) (gr) ((hdF2 ML)) (ns) (w) (cs) (cl) (nd) (lo) (ho) (so)) := by
  refine nw_of (cc := cX7_leaksOf) (maxL := 3) (ret := (some .int)) (by decide) rfl (Nat.le_of_ble_eq_true rfl) ?_
  intro vp ve vs vm vb vt vc vA ls X hP hD hA hS hl
  have X : nwAt vp vm vc cX7_leaksOf 3 vs _ wsX7_leaksOf RX7 vt (some .int) "leaksOf" G := X
  have hx := X.1.1
  have hb := X.1.2.1
  have hown := X.1.2.2.2.1
  have hts := X.1.2.2.2.2
  have hK := X.2.2.2.2
  have hl : lv_has ls 3 [(0, .ref (a 0)), (1, .int (nI (z))), (2, .int (what))] := hl
  refine lv_aload_n hx hb dX7_leaksOf_0 rfl (lv_at hl 0 rfl) ?_
  refine lv_iload_n hx hb dX7_leaksOf_1 rfl (lv_at hl 1 rfl) ?_
  refine nw_st (st' := [.int (nI (z)), .ref (a 0)]) (by rfl) ?_
  refine nw_Vi (As := [.int (nI (z))]) (rest := []) (q0 := 0) X (c_X7_findLow lc G (a) (n) (cu) (bg) (M) (er) (us) (ll) (lm) (lh) (nv) (fr) (tt) (gr) (ML) (ns) (w) (cs) (cl) (nd) (lo) (ho) (so) (z) (by first | assumption | omega)) (cwV 1 hts gX7_leaksOf_X7_findLow rfl rfl rfl (by decide +kernel) ⟨Nat.le_of_ble_eq_true rfl, Nat.le_of_ble_eq_true rfl⟩) rfl (show vwCl[6]? = some (RX7, TX7, 23) from rfl) (nwSp.all ((wM G (a) (n) (cu) (bg) ((coF M)) ((goF M)) (er) (us) (ll) (lm) (lh) (nv) (fr) (tt) (gr) ((hdF2 ML)) (ns) (w) (cs) (cl) (nd) (lo) (ho) (so)))) hP hD hS hA rfl hl.1 rfl (Nat.le_of_ble_eq_true rfl) dX7_leaksOf_2 ⟨Nat.le_of_ble_eq_true rfl, Nat.le_of_ble_eq_true rfl⟩ (fun r w H locs hp_1 hP hD hS => ?_)
  obtain ⟨llv_2, lmv_3, ⟨rfl, q_4⟩ | ⟨rfl, q_4⟩, hfl_5, rfl⟩ := hp_1
  · skip
    have hP : va_P G.1 vwCl ((wM G (a) (n) (cu) (bg) ((coF M)) ((goF M)) (er) (us) (llv_2) (lmv_3) ((lowF er (M z) (M (8 + z)) 4).1) (nv) (fr) (tt) (gr) ((hdF2 ML)) (ns) (w) (cs) (cl) (nd) (lo) (ho) (so))) H := hP
    have hD : va_D vA ((wM G (a) (n) (cu) (bg) ((coF M)) ((goF M)) (er) (us) (llv_2) (lmv_3) ((lowF er (M z) (M (8 + z)) 4).1) (nv) (fr) (tt) (gr) ((hdF2 ML)) (ns) (w) (cs) (cl) (nd) (lo) (ho) (so))) := hD
    have q_4 : ¬ (lowF (er) ((M) (z)) ((M) (8 + (z))) 4).1 = -1 := q_4
    obtain ⟨hlm_6, hll_7⟩ := hfl_5 q_4
    refine lv_if_ne (tgt := 13) hx hb dX7_leaksOf_5 (by decide) (fun _ => ?_) (fun c9 => absurd c9 (by decide))
    refine lv_iload_n hx hb dX7_leaksOf_13 rfl (lv_at hl 2 rfl) ?_
    refine lv_if_ne (tgt := 43) hx hb dX7_leaksOf_14 (by decide) (fun b14_9 => ?_) (fun b14_9 => ?_)
    · skip
      have b14_9 : ¬ ((what) = (0 : Int32)) := b14_9
      refine lv_aload_n hx hb dX7_leaksOf_43 rfl (lv_at hl 0 rfl) ?_
      refine va_get (D := G.1) (ci := 6) (v := .int (lmv_3)) (C := RX7) (T := TX7) (N := 23) hx hb hts in_X7_leaksOf_X7 hown hK.1 hP 0 rfl rfl 8 (by decide) (hts (.fieldLink RX7 83 "NightWaterModel" "lowMost" "I") (List.mem_of_getElem? (i := 6) rfl)) (fun _ h9 => h9) rfl dX7_leaksOf_44 ?_
      refine lv_aload_n hx hb dX7_leaksOf_47 rfl (lv_at hl 0 rfl) ?_
      refine va_get (D := G.1) (ci := 6) (v := .ref (a 2)) (C := RX7) (T := TX7) (N := 23) hx hb hts in_X7_leaksOf_X7 hown hK.1 hP 0 rfl rfl 2 (by decide) (hts (.fieldLink RX7 13 "NightWaterModel" "big" "[I") (List.mem_of_getElem? (i := 3) rfl)) (fun _ h9 => h9) rfl dX7_leaksOf_48 ?_
      refine lv_iload_n hx hb dX7_leaksOf_51 rfl (lv_at hl 1 rfl) ?_
      refine nw_iald X hP 2 (n := 8) (f := (bg)) rfl (z) rfl (by omega) (by decide) dX7_leaksOf_52 ?_
      refine lv_isub hx hb dX7_leaksOf_53 ?_
      exact nw_iret (rm := ({ frames := 2, cells := 0, slots := 0, locals := 46 } : Room)) X hP hD hS (⟨_, _, _, by simp only [leakF, nwIf_T, nwIf_F, or_true, true_or, or_false, false_or, and_true, true_and, and_false, false_and, not_true_eq_false, not_false_eq_true, Nat.add_sub_cancel, q_4, ← hlm_6, ← hll_7, b14_9], rfl⟩) dX7_leaksOf_54
    · skip
      have b14_9 : (what) = (0 : Int32) := b14_9
      refine lv_aload_n hx hb dX7_leaksOf_17 rfl (lv_at hl 0 rfl) ?_
      refine va_get (D := G.1) (ci := 6) (v := .int (llv_2)) (C := RX7) (T := TX7) (N := 23) hx hb hts in_X7_leaksOf_X7 hown hK.1 hP 0 rfl rfl 7 (by decide) (hts (.fieldLink RX7 86 "NightWaterModel" "lowLeast" "I") (List.mem_of_getElem? (i := 2) rfl)) (fun _ h9 => h9) rfl dX7_leaksOf_18 ?_
      refine lv_aload_n hx hb dX7_leaksOf_21 rfl (lv_at hl 0 rfl) ?_
      refine va_get (D := G.1) (ci := 6) (v := .ref (a 2)) (C := RX7) (T := TX7) (N := 23) hx hb hts in_X7_leaksOf_X7 hown hK.1 hP 0 rfl rfl 2 (by decide) (hts (.fieldLink RX7 13 "NightWaterModel" "big" "[I") (List.mem_of_getElem? (i := 3) rfl)) (fun _ h9 => h9) rfl dX7_leaksOf_22 ?_
      refine lv_iload_n hx hb dX7_leaksOf_25 rfl (lv_at hl 1 rfl) ?_
      refine nw_iald X hP 2 (n := 8) (f := (bg)) rfl (z) rfl (by omega) (by decide) dX7_leaksOf_26 ?_
      refine lv_isub hx hb dX7_leaksOf_27 ?_
      refine lv_aload_n hx hb dX7_leaksOf_28 rfl (lv_at hl 0 rfl) ?_
      refine va_get (D := G.1) (ci := 6) (v := .ref (a 1)) (C := RX7) (T := TX7) (N := 23) hx hb hts in_X7_leaksOf_X7 hown hK.1 hP 0 rfl rfl 1 (by decide) (hts (.fieldLink RX7 7 "NightWaterModel" "customers" "[I") (List.mem_of_getElem? (i := 4) rfl)) (fun _ h9 => h9) rfl dX7_leaksOf_29 ?_
      refine lv_iload_n hx hb dX7_leaksOf_32 rfl (lv_at hl 1 rfl) ?_
      refine nw_iald X hP 1 (n := 8) (f := (cu)) rfl (z) rfl (by omega) (by decide) dX7_leaksOf_33 ?_
      refine lv_aload_n hx hb dX7_leaksOf_34 rfl (lv_at hl 0 rfl) ?_
      refine va_get (D := G.1) (ci := 6) (v := .int (us)) (C := RX7) (T := TX7) (N := 23) hx hb hts in_X7_leaksOf_X7 hown hK.1 hP 0 rfl rfl 6 (by decide) (hts (.fieldLink RX7 26 "NightWaterModel" "use" "I") (List.mem_of_getElem? (i := 5) rfl)) (fun _ h9 => h9) rfl dX7_leaksOf_35 ?_
      refine lv_imul hx hb dX7_leaksOf_38 ?_
      refine lv_isub hx hb dX7_leaksOf_39 ?_
      refine lv_goto (tgt := 54) hx hb dX7_leaksOf_40 (by decide) ?_
      exact nw_iret (rm := ({ frames := 2, cells := 0, slots := 0, locals := 46 } : Room)) X hP hD hS (⟨_, _, _, by simp only [leakF, nwIf_T, nwIf_F, or_true, true_or, or_false, false_or, and_true, true_and, and_false, false_and, not_true_eq_false, not_false_eq_true, Nat.add_sub_cancel, q_4, ← hlm_6, ← hll_7, eq_true b14_9], rfl⟩) dX7_leaksOf_54
  · skip
    have hP : va_P G.1 vwCl ((wM G (a) (n) (cu) (bg) ((coF M)) ((goF M)) (er) (us) (llv_2) (lmv_3) ((lowF er (M z) (M (8 + z)) 4).1) (nv) (fr) (tt) (gr) ((hdF2 ML)) (ns) (w) (cs) (cl) (nd) (lo) (ho) (so))) H := hP
    have hD : va_D vA ((wM G (a) (n) (cu) (bg) ((coF M)) ((goF M)) (er) (us) (llv_2) (lmv_3) ((lowF er (M z) (M (8 + z)) 4).1) (nv) (fr) (tt) (gr) ((hdF2 ML)) (ns) (w) (cs) (cl) (nd) (lo) (ho) (so))) := hD
    have q_4 : (lowF (er) ((M) (z)) ((M) (8 + (z))) 4).1 = -1 := q_4
    refine lv_if_ne (tgt := 13) hx hb dX7_leaksOf_5 (by decide) (fun c9 => absurd c9 (by decide)) (fun _ => ?_)
    refine lv_ldc (own := RX7) (v := (-2000000000)) hx hb hown (hts (.constant RX7 92 (-2000000000)) (List.mem_of_getElem? (i := 1) rfl)) dX7_leaksOf_8 ?_
    refine lv_goto (tgt := 54) hx hb dX7_leaksOf_10 (by decide) ?_
    exact nw_iret (rm := ({ frames := 2, cells := 0, slots := 0, locals := 46 } : Room)) X hP hD hS (⟨_, _, _, by simp only [leakF, nwIf_T, nwIf_F, or_true, true_or, or_false, false_or, and_true, true_and, and_false, false_and, not_true_eq_false, not_false_eq_true, Nat.add_sub_cancel, eq_true q_4], rfl⟩) dX7_leaksOf_54
set_option maxHeartbeats 4000000 in
set_option maxRecDepth 100000 in
theorem c_X7_leaks (lc : Launch) (G : nwG) (a : Nat → Nat) (n : Nat) (cu bg : Nat → Int32) (M : Nat → Nat → Int32) (er us ll lm lh : Int32) (nv : Nat) (fr tt gr : Nat → Nat) (ML : Nat → Nat → Int32) (ns : Nat) (w : Nat → Nat) (cs cl : Nat → Int32) (nd : Nat) (lo ho : Nat → Int32) (so : Nat → Nat) (z what : Int32) (hn : n ≤ 8) : nwCi lc G yX7_leaks wsX7_leaks ({ frames := 3, cells := 0, slots := 0, locals := 68 } : Room) [.ref (a 0), .int (z), .int (what)] ((wM G (a) (n) (cu) (bg) ((coF M)) ((goF M)) (er) (us) (ll) (lm) (lh) (nv) (fr) (tt) (gr) ((hdF2 ML)) (ns) (w) (cs) (cl) (nd) (lo) (ho) (so))) (fun r ww => ∃ llv lmv lhv : Int32, r = leaksF n cu bg M er us z what ∧ ww = wM G (a) (n) (cu) (bg) ((coF M)) ((goF M)) (er) (us) (llv) (lmv) (lhv) (nv) (fr) (tt) (gr) ((hdF2 ML)) (ns) (w) (cs) (cl) (nd) (lo) (ho) (so)) := by
  refine nw_of (cc := cX7_leaks) (maxL := 3) (ret := (some .int)) (by decide) rfl (Nat.le_of_ble_eq_true rfl) ?_
  intro vp ve vs vm vb vt vc vA ls X hP hD hA hS hl
  have X : nwAt vp vm vc cX7_leaks 3 vs _ wsX7_leaks RX7 vt (some .int) "leaks" G := X
  have hx := X.1.1
  have hb := X.1.2.1
  have hown := X.1.2.2.2.1
  have hts := X.1.2.2.2.2
  have hK := X.2.2.2.2
  have hl : lv_has ls 3 [(0, .ref (a 0)), (1, .int (z)), (2, .int (what))] := hl
  refine lv_aload_n hx hb dX7_leaks_0 rfl (lv_at hl 0 rfl) ?_
  refine lv_iload_n hx hb dX7_leaks_1 rfl (lv_at hl 1 rfl) ?_
  refine nw_Vi (As := [.int (z)]) (rest := []) (q0 := 0) X (c_X7_isZone lc G (a) (n) (cu) (bg) (M) (er) (us) (ll) (lm) (lh) (nv) (fr) (tt) (gr) (ML) (ns) (w) (cs) (cl) (nd) (lo) (ho) (so) ((z)) ) (cwV 1 hts gX7_leaks_X7_isZone rfl rfl rfl (by decide +kernel) ⟨Nat.le_of_ble_eq_true rfl, Nat.le_of_ble_eq_true rfl⟩) rfl (show vwCl[6]? = some (RX7, TX7, 23) from rfl) (nwSp.all ((wM G (a) (n) (cu) (bg) ((coF M)) ((goF M)) (er) (us) (ll) (lm) (lh) (nv) (fr) (tt) (gr) ((hdF2 ML)) (ns) (w) (cs) (cl) (nd) (lo) (ho) (so)))) hP hD hS hA rfl hl.1 rfl (Nat.le_of_ble_eq_true rfl) dX7_leaks_2 ⟨Nat.le_of_ble_eq_true rfl, Nat.le_of_ble_eq_true rfl⟩ (fun r w H locs hp_1 hP hD hS => ?_)
  obtain ⟨⟨rfl, q_2⟩ | ⟨rfl, q_2⟩, rfl⟩ := hp_1
  · skip
    have hP : va_P G.1 vwCl ((wM G (a) (n) (cu) (bg) ((coF M)) ((goF M)) (er) (us) (ll) (lm) (lh) (nv) (fr) (tt) (gr) ((hdF2 ML)) (ns) (w) (cs) (cl) (nd) (lo) (ho) (so))) H := hP
    have hD : va_D vA ((wM G (a) (n) (cu) (bg) ((coF M)) ((goF M)) (er) (us) (ll) (lm) (lh) (nv) (fr) (tt) (gr) ((hdF2 ML)) (ns) (w) (cs) (cl) (nd) (lo) (ho) (so))) := hD
    have q_2 : ¬ out ((z)) 0 (nI (n) - 1) := q_2
    obtain ⟨z_3, hz_4, he_5⟩ := nw_lt (n := n) (by omega) q_2
    have ec_6 := nw_clamp he_5 (by omega)
    refine lv_if_eq (tgt := 26) hx hb dX7_leaks_5 (by decide) (fun c9 => absurd c9 (by decide)) (fun _ => ?_)
    refine lv_iload_n hx hb dX7_leaks_8 rfl (lv_at hl 2 rfl) ?_
    refine lv_iconst (v := (0)) hx hb dX7_leaks_9 (by decide) ?_
    refine lv_iconst (v := (1)) hx hb dX7_leaks_10 (by decide) ?_
    refine nw_Si (As := [.int (what), .int (0), .int (1)]) (rest := []) X (c_X7_in lc G ((what)) ((0 : Int32)) ((1 : Int32)) ) (va_cwS 3 hts gX7_leaks_X7_in rfl rfl rfl (by decide +kernel) ⟨Nat.le_of_ble_eq_true rfl, Nat.le_of_ble_eq_true rfl⟩) (fun _ _ h => h.2) hP hD hS hA rfl hl.1 rfl (Nat.le_of_ble_eq_true rfl) dX7_leaks_11 ⟨Nat.le_of_ble_eq_true rfl, Nat.le_of_ble_eq_true rfl⟩ (fun r H locs hp_8 hP hD hS => ?_)
    obtain ⟨⟨rfl, q_9⟩ | ⟨rfl, q_9⟩, -⟩ := hp_8
    · skip
      have q_9 : ¬ out ((what)) ((0 : Int32)) ((1 : Int32)) := q_9
      refine lv_if_eq (tgt := 26) hx hb dX7_leaks_14 (by decide) (fun c9 => absurd c9 (by decide)) (fun _ => ?_)
      refine lv_aload_n hx hb dX7_leaks_17 rfl (lv_at hl 0 rfl) ?_
      refine lv_iload_n hx hb dX7_leaks_18 rfl (lv_at hl 1 rfl) ?_
      refine lv_iload_n hx hb dX7_leaks_19 rfl (lv_at hl 2 rfl) ?_
      refine nw_st (st' := [.int (what), .int (nI (z_3)), .ref (a 0)]) (by rw [he_5]) ?_
      refine nw_Vi (As := [.int (nI (z_3)), .int (what)]) (rest := []) (q0 := 0) X (c_X7_leaksOf lc G (a) (n) (cu) (bg) (M) (er) (us) (ll) (lm) (lh) (nv) (fr) (tt) (gr) (ML) (ns) (w) (cs) (cl) (nd) (lo) (ho) (so) (z_3) ((what)) (by first | assumption | omega)) (cwV 2 hts gX7_leaks_X7_leaksOf rfl rfl rfl (by decide +kernel) ⟨Nat.le_of_ble_eq_true rfl, Nat.le_of_ble_eq_true rfl⟩) rfl (show vwCl[6]? = some (RX7, TX7, 23) from rfl) (nwSp.all ((wM G (a) (n) (cu) (bg) ((coF M)) ((goF M)) (er) (us) (ll) (lm) (lh) (nv) (fr) (tt) (gr) ((hdF2 ML)) (ns) (w) (cs) (cl) (nd) (lo) (ho) (so)))) hP hD hS hA rfl hl.1 rfl (Nat.le_of_ble_eq_true rfl) dX7_leaks_20 ⟨Nat.le_of_ble_eq_true rfl, Nat.le_of_ble_eq_true rfl⟩ (fun r w H locs hp_11 hP hD hS => ?_)
      obtain ⟨llv_12, lmv_13, lhv_14, rfl, rfl⟩ := hp_11
      have hP : va_P G.1 vwCl ((wM G (a) (n) (cu) (bg) ((coF M)) ((goF M)) (er) (us) (llv_12) (lmv_13) (lhv_14) (nv) (fr) (tt) (gr) ((hdF2 ML)) (ns) (w) (cs) (cl) (nd) (lo) (ho) (so))) H := hP
      have hD : va_D vA ((wM G (a) (n) (cu) (bg) ((coF M)) ((goF M)) (er) (us) (llv_12) (lmv_13) (lhv_14) (nv) (fr) (tt) (gr) ((hdF2 ML)) (ns) (w) (cs) (cl) (nd) (lo) (ho) (so))) := hD
      refine lv_goto (tgt := 28) hx hb dX7_leaks_23 (by decide) ?_
      exact nw_iret (rm := ({ frames := 3, cells := 0, slots := 0, locals := 68 } : Room)) X hP hD hS (⟨_, _, _, by simp only [leaksF, nwIf_T, nwIf_F, or_true, true_or, or_false, false_or, and_true, true_and, and_false, false_and, not_true_eq_false, not_false_eq_true, Nat.add_sub_cancel, q_2, ec_6, q_9], rfl⟩) dX7_leaks_28
    · skip
      have q_9 : out ((what)) ((0 : Int32)) ((1 : Int32)) := q_9
      refine lv_if_eq (tgt := 26) hx hb dX7_leaks_14 (by decide) (fun _ => ?_) (fun c9 => absurd (by decide) c9)
      refine lv_ldc (own := RX7) (v := (-2000000000)) hx hb hown (hts (Cond.constant RX7 92 (-2000000000)) (List.mem_of_getElem? (i := 1) rfl)) dX7_leaks_26 ?_
      exact nw_iret (rm := ({ frames := 3, cells := 0, slots := 0, locals := 68 } : Room)) X hP hD hS (⟨_, _, _, by simp only [leaksF, nwIf_T, nwIf_F, or_true, true_or, or_false, false_or, and_true, true_and, and_false, false_and, not_true_eq_false, not_false_eq_true, Nat.add_sub_cancel, q_2, ec_6, q_9], rfl⟩) dX7_leaks_28
  · skip
    have hP : va_P G.1 vwCl ((wM G (a) (n) (cu) (bg) ((coF M)) ((goF M)) (er) (us) (ll) (lm) (lh) (nv) (fr) (tt) (gr) ((hdF2 ML)) (ns) (w) (cs) (cl) (nd) (lo) (ho) (so))) H := hP
    have hD : va_D vA ((wM G (a) (n) (cu) (bg) ((coF M)) ((goF M)) (er) (us) (ll) (lm) (lh) (nv) (fr) (tt) (gr) ((hdF2 ML)) (ns) (w) (cs) (cl) (nd) (lo) (ho) (so))) := hD
    have q_2 : out ((z)) 0 (nI (n) - 1) := q_2
    refine lv_if_eq (tgt := 26) hx hb dX7_leaks_5 (by decide) (fun _ => ?_) (fun c9 => absurd (by decide) c9)
    refine lv_ldc (own := RX7) (v := (-2000000000)) hx hb hown (hts (Cond.constant RX7 92 (-2000000000)) (List.mem_of_getElem? (i := 1) rfl)) dX7_leaks_26 ?_
    exact nw_iret (rm := ({ frames := 3, cells := 0, slots := 0, locals := 68 } : Room)) X hP hD hS (⟨_, _, _, by simp only [leaksF, nwIf_T, nwIf_F, or_true, true_or, or_false, false_or, and_true, true_and, and_false, false_and, not_true_eq_false, not_false_eq_true, Nat.add_sub_cancel, q_2], rfl⟩) dX7_leaks_28
