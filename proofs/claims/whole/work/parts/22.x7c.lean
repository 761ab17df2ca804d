/-! printed by wip/gen/x7c.py: contracts, walked row by row -/
theorem in_X7_echo_X7 : ∀ w ∈ wsX70, w ∈ wsX7_echo := by decide +kernel
theorem in_X7_isBoth_X7 : ∀ w ∈ wsX70, w ∈ wsX7_isBoth := by decide +kernel
theorem in_X7_sample_X7 : ∀ w ∈ wsX70, w ∈ wsX7_sample := by decide +kernel
theorem in_X7_sumOf_X7 : ∀ w ∈ wsX70, w ∈ wsX7_sumOf := by decide +kernel
set_option maxHeartbeats 4000000 in
set_option maxRecDepth 100000 in
theorem c_X7_sample (lc : Launch) (G : nwG) (a : Nat → Nat) (n : Nat) (cu bg : Nat → Int32) (M : Nat → Nat → Int32) (er us ll lm lh : Int32) (nv : Nat) (fr tt gr : Nat → Nat) (ML : Nat → Nat → Int32) (ns : Nat) (w : Nat → Nat) (cs cl : Nat → Int32) (nd : Nat) (lo ho : Nat → Int32) (so : Nat → Nat) (p1 p2 p3 : Int32)  : nwCi lc G yX7_sample wsX7_sample ({ frames := 1, cells := 0, slots := 0, locals := 22 } : Room) [.ref (a 0), .int (p1), .int (p2), .int (p3)] ((wM G (a) (n) (cu) (bg) ((coF M)) ((goF M)) (er) (us) (ll) (lm) (lh) (nv) (fr) (tt) (gr) ((hdF2 ML)) (ns) (w) (cs) (cl) (nd) (lo) (ho) (so))) (fun r ww => r = nwIf (sampOk p1 p2 p3) 1 (-2) ∧ ww = wM G (a) (n) (cu) (bg) ((coF M)) ((goF M)) (er) (us) (ll) (lm) (lh) (nv) (fr) (tt) (gr) ((hdF2 (nwIf (sampOk p1 p2 p3) (nwU2 ML p1.toNatClampNeg p2.toNatClampNeg p3) ML))) (ns) (w) (cs) (cl) (nd) (lo) (ho) (so)) := by
  refine nw_of (cc := cX7_sample) (maxL := 4) (ret := (some .int)) (by decide) rfl (Nat.le_of_ble_eq_true rfl) ?_
  intro vp ve vs vm vb vt vc vA ls X hP hD hA hS hl
  have X : nwAt vp vm vc cX7_sample 4 vs _ wsX7_sample RX7 vt (some .int) "sample" G := X
  have hx := X.1.1
  have hb := X.1.2.1
  have hown := X.1.2.2.2.1
  have hts := X.1.2.2.2.2
  have hK := X.2.2.2.2
  have hl : lv_has ls 4 [(0, .ref (a 0)), (1, .int (p1)), (2, .int (p2)), (3, .int (p3))] := hl
  refine lv_iload_n hx hb dX7_sample_0 rfl (lv_at hl 1 rfl) ?_
  refine lv_iconst (v := (0)) hx hb dX7_sample_1 (by decide) ?_
  refine lv_iconst (v := (1)) hx hb dX7_sample_2 (by decide) ?_
  refine nw_Si (As := [.int (p1), .int (0), .int (1)]) (rest := []) X (c_X7_in lc G ((p1)) ((0 : Int32)) ((1 : Int32)) ) (va_cwS 3 hts gX7_sample_X7_in rfl rfl rfl (by decide +kernel) ⟨Nat.le_of_ble_eq_true rfl, Nat.le_of_ble_eq_true rfl⟩) (fun _ _ h => h.2) hP hD hS hA rfl hl.1 rfl (Nat.le_of_ble_eq_true rfl) dX7_sample_3 ⟨Nat.le_of_ble_eq_true rfl, Nat.le_of_ble_eq_true rfl⟩ (fun r H locs hp_1 hP hD hS => ?_)
  obtain ⟨⟨rfl, q_2⟩ | ⟨rfl, q_2⟩, -⟩ := hp_1
  · skip
    have q_2 : ¬ out ((p1)) ((0 : Int32)) ((1 : Int32)) := q_2
    obtain ⟨z_3, hz_4, he_5⟩ := nw_le (n := 1) rfl (by decide) q_2
    have ec_6 := nw_clamp he_5 (by omega)
    refine lv_if_eq (tgt := 38) hx hb dX7_sample_6 (by decide) (fun c9 => absurd c9 (by decide)) (fun _ => ?_)
    refine lv_iload_n hx hb dX7_sample_9 rfl (lv_at hl 2 rfl) ?_
    refine lv_iconst (v := (0)) hx hb dX7_sample_10 (by decide) ?_
    refine lv_bipush (v := (63)) hx hb dX7_sample_11 (by decide) ?_
    refine nw_Si (As := [.int (p2), .int (0), .int (63)]) (rest := []) X (c_X7_in lc G ((p2)) ((0 : Int32)) ((63 : Int32)) ) (va_cwS 3 hts gX7_sample_X7_in rfl rfl rfl (by decide +kernel) ⟨Nat.le_of_ble_eq_true rfl, Nat.le_of_ble_eq_true rfl⟩) (fun _ _ h => h.2) hP hD hS hA rfl hl.1 rfl (Nat.le_of_ble_eq_true rfl) dX7_sample_13 ⟨Nat.le_of_ble_eq_true rfl, Nat.le_of_ble_eq_true rfl⟩ (fun r H locs hp_8 hP hD hS => ?_)
    obtain ⟨⟨rfl, q_9⟩ | ⟨rfl, q_9⟩, -⟩ := hp_8
    · skip
      have q_9 : ¬ out ((p2)) ((0 : Int32)) ((63 : Int32)) := q_9
      obtain ⟨z_10, hz_11, he_12⟩ := nw_le (n := 63) rfl (by decide) q_9
      have ec_13 := nw_clamp he_12 (by omega)
      refine lv_if_eq (tgt := 38) hx hb dX7_sample_16 (by decide) (fun c9 => absurd c9 (by decide)) (fun _ => ?_)
      refine lv_iload_n hx hb dX7_sample_19 rfl (lv_at hl 3 rfl) ?_
      refine lv_sipush (v := (-1000)) hx hb dX7_sample_20 (by decide) ?_
      refine lv_sipush (v := (1000)) hx hb dX7_sample_23 (by decide) ?_
      refine nw_Si (As := [.int (p3), .int (-1000), .int (1000)]) (rest := []) X (c_X7_in lc G ((p3)) ((-1000 : Int32)) ((1000 : Int32)) ) (va_cwS 3 hts gX7_sample_X7_in rfl rfl rfl (by decide +kernel) ⟨Nat.le_of_ble_eq_true rfl, Nat.le_of_ble_eq_true rfl⟩) (fun _ _ h => h.2) hP hD hS hA rfl hl.1 rfl (Nat.le_of_ble_eq_true rfl) dX7_sample_26 ⟨Nat.le_of_ble_eq_true rfl, Nat.le_of_ble_eq_true rfl⟩ (fun r H locs hp_15 hP hD hS => ?_)
      obtain ⟨⟨rfl, q_16⟩ | ⟨rfl, q_16⟩, -⟩ := hp_15
      · skip
        have q_16 : ¬ out ((p3)) ((-1000 : Int32)) ((1000 : Int32)) := q_16
        refine lv_if_ne (tgt := 41) hx hb dX7_sample_29 (by decide) (fun _ => ?_) (fun c9 => absurd c9 (by decide))
        refine lv_aload_n hx hb dX7_sample_41 rfl (lv_at hl 0 rfl) ?_
        refine va_get (D := G.1) (ci := 6) (v := .ref (a 8)) (C := RX7) (T := TX7) (N := 23) hx hb hts in_X7_sample_X7 hown hK.1 hP 0 rfl rfl 14 (by decide) (hts (.fieldLink RX7 38 "NightWaterModel" "heard" "[I") (List.mem_of_getElem? (i := 2) rfl)) (fun _ h9 => h9) rfl dX7_sample_42 ?_
        refine lv_bipush (v := (64)) hx hb dX7_sample_45 (by decide) ?_
        refine lv_iload_n hx hb dX7_sample_47 rfl (lv_at hl 1 rfl) ?_
        refine lv_imul hx hb dX7_sample_48 ?_
        refine nw_top (y := nI (64 * z_3)) (by rw [he_5]; exact pk_mul (64) (z_3)) ?_
        refine lv_iload_n hx hb dX7_sample_49 rfl (lv_at hl 2 rfl) ?_
        refine lv_iadd hx hb dX7_sample_50 ?_
        refine nw_top (y := nI ((64 * z_3) + z_10)) (by rw [he_12]; exact nI_add (64 * z_3) (z_10)) ?_
        refine lv_iload_n hx hb dX7_sample_51 rfl (lv_at hl 3 rfl) ?_
        refine nw_iast X hP hD hS 8 (n := 128) (f := (hdF2 ML)) rfl ((64 * z_3) + z_10) rfl (by omega) (by decide) dX7_sample_52 (fun H locs hP hD hS => ?_)
        have hP : va_P G.1 vwCl ((wM G (a) (n) (cu) (bg) ((coF M)) ((goF M)) (er) (us) (ll) (lm) (lh) (nv) (fr) (tt) (gr) (va_up ((hdF2 ML)) ((64 * z_3) + z_10) (p3)) (ns) (w) (cs) (cl) (nd) (lo) (ho) (so))) H := hP
        have hD : va_D vA ((wM G (a) (n) (cu) (bg) ((coF M)) ((goF M)) (er) (us) (ll) (lm) (lh) (nv) (fr) (tt) (gr) (va_up ((hdF2 ML)) ((64 * z_3) + z_10) (p3)) (ns) (w) (cs) (cl) (nd) (lo) (ho) (so))) := hD
        refine lv_iconst (v := (1)) hx hb dX7_sample_53 (by decide) ?_
        exact nw_iret (rm := ({ frames := 1, cells := 0, slots := 0, locals := 22 } : Room)) X hP hD hS (⟨by simp only [sampOk, nwIf_T, nwIf_F, or_true, true_or, or_false, false_or, and_true, true_and, and_false, false_and, not_true_eq_false, not_false_eq_true, Nat.add_sub_cancel, q_2, ec_6, q_9, ec_13, q_16], by simp only [sampOk, nwIf_T, nwIf_F, or_true, true_or, or_false, false_or, and_true, true_and, and_false, false_and, not_true_eq_false, not_false_eq_true, Nat.add_sub_cancel, q_2, ec_6, q_9, ec_13, q_16]; rw [hdF_up (by omega) (by omega)]⟩) dX7_sample_54
      · skip
        have q_16 : out ((p3)) ((-1000 : Int32)) ((1000 : Int32)) := q_16
        refine lv_if_ne (tgt := 41) hx hb dX7_sample_29 (by decide) (fun c9 => absurd c9 (by decide)) (fun _ => ?_)
        refine lv_iload_n hx hb dX7_sample_32 rfl (lv_at hl 3 rfl) ?_
        refine lv_ldc (own := RX7) (v := (-2000000000)) hx hb hown (hts (.constant RX7 92 (-2000000000)) (List.mem_of_getElem? (i := 1) rfl)) dX7_sample_33 ?_
        refine lv_icmp_eq (tgt := 41) hx hb dX7_sample_35 (by decide) (fun b35_19 => ?_) (fun b35_19 => ?_)
        · skip
          have b35_19 : (p3) = (-2000000000 : Int32) := b35_19
          refine lv_aload_n hx hb dX7_sample_41 rfl (lv_at hl 0 rfl) ?_
          refine va_get (D := G.1) (ci := 6) (v := .ref (a 8)) (C := RX7) (T := TX7) (N := 23) hx hb hts in_X7_sample_X7 hown hK.1 hP 0 rfl rfl 14 (by decide) (hts (.fieldLink RX7 38 "NightWaterModel" "heard" "[I") (List.mem_of_getElem? (i := 2) rfl)) (fun _ h9 => h9) rfl dX7_sample_42 ?_
          refine lv_bipush (v := (64)) hx hb dX7_sample_45 (by decide) ?_
          refine lv_iload_n hx hb dX7_sample_47 rfl (lv_at hl 1 rfl) ?_
          refine lv_imul hx hb dX7_sample_48 ?_
          refine nw_top (y := nI (64 * z_3)) (by rw [he_5]; exact pk_mul (64) (z_3)) ?_
          refine lv_iload_n hx hb dX7_sample_49 rfl (lv_at hl 2 rfl) ?_
          refine lv_iadd hx hb dX7_sample_50 ?_
          refine nw_top (y := nI ((64 * z_3) + z_10)) (by rw [he_12]; exact nI_add (64 * z_3) (z_10)) ?_
          refine lv_iload_n hx hb dX7_sample_51 rfl (lv_at hl 3 rfl) ?_
          refine nw_iast X hP hD hS 8 (n := 128) (f := (hdF2 ML)) rfl ((64 * z_3) + z_10) rfl (by omega) (by decide) dX7_sample_52 (fun H locs hP hD hS => ?_)
          have hP : va_P G.1 vwCl ((wM G (a) (n) (cu) (bg) ((coF M)) ((goF M)) (er) (us) (ll) (lm) (lh) (nv) (fr) (tt) (gr) (va_up ((hdF2 ML)) ((64 * z_3) + z_10) (p3)) (ns) (w) (cs) (cl) (nd) (lo) (ho) (so))) H := hP
          have hD : va_D vA ((wM G (a) (n) (cu) (bg) ((coF M)) ((goF M)) (er) (us) (ll) (lm) (lh) (nv) (fr) (tt) (gr) (va_up ((hdF2 ML)) ((64 * z_3) + z_10) (p3)) (ns) (w) (cs) (cl) (nd) (lo) (ho) (so))) := hD
          refine lv_iconst (v := (1)) hx hb dX7_sample_53 (by decide) ?_
          exact nw_iret (rm := ({ frames := 1, cells := 0, slots := 0, locals := 22 } : Room)) X hP hD hS (⟨by simp only [sampOk, nwIf_T, nwIf_F, or_true, true_or, or_false, false_or, and_true, true_and, and_false, false_and, not_true_eq_false, not_false_eq_true, Nat.add_sub_cancel, q_2, ec_6, q_9, ec_13, q_16, eq_true b35_19], by simp only [sampOk, nwIf_T, nwIf_F, or_true, true_or, or_false, false_or, and_true, true_and, and_false, false_and, not_true_eq_false, not_false_eq_true, Nat.add_sub_cancel, q_2, ec_6, q_9, ec_13, q_16, eq_true b35_19]; rw [hdF_up (by omega) (by omega)]⟩) dX7_sample_54
        · skip
          have b35_19 : ¬ ((p3) = (-2000000000 : Int32)) := b35_19
          refine lv_bipush (v := (-2)) hx hb dX7_sample_38 (by decide) ?_
          exact nw_iret (rm := ({ frames := 1, cells := 0, slots := 0, locals := 22 } : Room)) X hP hD hS (⟨by simp only [sampOk, nwIf_T, nwIf_F, or_true, true_or, or_false, false_or, and_true, true_and, and_false, false_and, not_true_eq_false, not_false_eq_true, Nat.add_sub_cancel, q_2, ec_6, q_9, ec_13, q_16, b35_19], by simp only [sampOk, nwIf_T, nwIf_F, or_true, true_or, or_false, false_or, and_true, true_and, and_false, false_and, not_true_eq_false, not_false_eq_true, Nat.add_sub_cancel, q_2, ec_6, q_9, ec_13, q_16, b35_19]⟩) dX7_sample_40
    · skip
      have q_9 : out ((p2)) ((0 : Int32)) ((63 : Int32)) := q_9
      refine lv_if_eq (tgt := 38) hx hb dX7_sample_16 (by decide) (fun _ => ?_) (fun c9 => absurd (by decide) c9)
      refine lv_bipush (v := (-2)) hx hb dX7_sample_38 (by decide) ?_
      exact nw_iret (rm := ({ frames := 1, cells := 0, slots := 0, locals := 22 } : Room)) X hP hD hS (⟨by simp only [sampOk, nwIf_T, nwIf_F, or_true, true_or, or_false, false_or, and_true, true_and, and_false, false_and, not_true_eq_false, not_false_eq_true, Nat.add_sub_cancel, q_2, ec_6, q_9], by simp only [sampOk, nwIf_T, nwIf_F, or_true, true_or, or_false, false_or, and_true, true_and, and_false, false_and, not_true_eq_false, not_false_eq_true, Nat.add_sub_cancel, q_2, ec_6, q_9]⟩) dX7_sample_40
  · skip
    have q_2 : out ((p1)) ((0 : Int32)) ((1 : Int32)) := q_2
    refine lv_if_eq (tgt := 38) hx hb dX7_sample_6 (by decide) (fun _ => ?_) (fun c9 => absurd (by decide) c9)
    refine lv_bipush (v := (-2)) hx hb dX7_sample_38 (by decide) ?_
    exact nw_iret (rm := ({ frames := 1, cells := 0, slots := 0, locals := 22 } : Room)) X hP hD hS (⟨by simp only [sampOk, nwIf_T, nwIf_F, or_true, true_or, or_false, false_or, and_true, true_and, and_false, false_and, not_true_eq_false, not_false_eq_true, Nat.add_sub_cancel, q_2], by simp only [sampOk, nwIf_T, nwIf_F, or_true, true_or, or_false, false_or, and_true, true_and, and_false, false_and, not_true_eq_false, not_false_eq_true, Nat.add_sub_cancel, q_2]⟩) dX7_sample_40
set_option maxHeartbeats 4000000 in
set_option maxRecDepth 100000 in
theorem c_X7_echo (lc : Launch) (G : nwG) (a : Nat → Nat) (n : Nat) (cu bg : Nat → Int32) (M : Nat → Nat → Int32) (er us ll lm lh : Int32) (nv : Nat) (fr tt gr : Nat → Nat) (ML : Nat → Nat → Int32) (ns : Nat) (w : Nat → Nat) (cs cl : Nat → Int32) (nd : Nat) (lo ho : Nat → Int32) (so : Nat → Nat) (p1 p2 p3 p4 : Int32)  : nwCi lc G yX7_echo wsX7_echo ({ frames := 1, cells := 0, slots := 0, locals := 22 } : Room) [.ref (a 0), .int (p1), .int (p2), .int (p3), .int (p4)] ((wM G (a) (n) (cu) (bg) ((coF M)) ((goF M)) (er) (us) (ll) (lm) (lh) (nv) (fr) (tt) (gr) ((hdF2 ML)) (ns) (w) (cs) (cl) (nd) (lo) (ho) (so))) (fun r ww => r = nwIf (echoBad p1 p2 p3 p4) (-2) 1 ∧ ww = wM G (a) (n) (cu) (bg) ((coF M)) ((goF M)) (er) (us) (ll) (lm) (lh) (nv) (fr) (tt) (gr) ((hdF2 (nwIf (echoBad p1 p2 p3 p4) ML (cpF ML p1.toNatClampNeg p2.toNatClampNeg p3.toNatClampNeg p4.toNatClampNeg)))) (ns) (w) (cs) (cl) (nd) (lo) (ho) (so)) := by
  refine nw_of (cc := cX7_echo) (maxL := 6) (ret := (some .int)) (by decide) rfl (Nat.le_of_ble_eq_true rfl) ?_
  intro vp ve vs vm vb vt vc vA ls X hP hD hA hS hl
  have X : nwAt vp vm vc cX7_echo 6 vs _ wsX7_echo RX7 vt (some .int) "echo" G := X
  have hx := X.1.1
  have hb := X.1.2.1
  have hown := X.1.2.2.2.1
  have hts := X.1.2.2.2.2
  have hK := X.2.2.2.2
  have hl : lv_has ls 6 [(0, .ref (a 0)), (1, .int (p1)), (2, .int (p2)), (3, .int (p3)), (4, .int (p4))] := hl
  refine lv_iload_n hx hb dX7_echo_0 rfl (lv_at hl 1 rfl) ?_
  refine lv_iconst (v := (0)) hx hb dX7_echo_1 (by decide) ?_
  refine lv_iconst (v := (1)) hx hb dX7_echo_2 (by decide) ?_
  refine nw_Si (As := [.int (p1), .int (0), .int (1)]) (rest := []) X (c_X7_in lc G ((p1)) ((0 : Int32)) ((1 : Int32)) ) (va_cwS 3 hts gX7_echo_X7_in rfl rfl rfl (by decide +kernel) ⟨Nat.le_of_ble_eq_true rfl, Nat.le_of_ble_eq_true rfl⟩) (fun _ _ h => h.2) hP hD hS hA rfl hl.1 rfl (Nat.le_of_ble_eq_true rfl) dX7_echo_3 ⟨Nat.le_of_ble_eq_true rfl, Nat.le_of_ble_eq_true rfl⟩ (fun r H locs hp_1 hP hD hS => ?_)
  obtain ⟨⟨rfl, q_2⟩ | ⟨rfl, q_2⟩, -⟩ := hp_1
  · skip
    have q_2 : ¬ out ((p1)) ((0 : Int32)) ((1 : Int32)) := q_2
    obtain ⟨z_3, hz_4, he_5⟩ := nw_le (n := 1) rfl (by decide) q_2
    have ec_6 := nw_clamp he_5 (by omega)
    refine lv_if_eq (tgt := 46) hx hb dX7_echo_6 (by decide) (fun c9 => absurd c9 (by decide)) (fun _ => ?_)
    refine lv_iload hx hb dX7_echo_9 (lv_at hl 4 rfl) ?_
    refine lv_iconst (v := (1)) hx hb dX7_echo_11 (by decide) ?_
    refine lv_bipush (v := (64)) hx hb dX7_echo_12 (by decide) ?_
    refine nw_Si (As := [.int (p4), .int (1), .int (64)]) (rest := []) X (c_X7_in lc G ((p4)) ((1 : Int32)) ((64 : Int32)) ) (va_cwS 3 hts gX7_echo_X7_in rfl rfl rfl (by decide +kernel) ⟨Nat.le_of_ble_eq_true rfl, Nat.le_of_ble_eq_true rfl⟩) (fun _ _ h => h.2) hP hD hS hA rfl hl.1 rfl (Nat.le_of_ble_eq_true rfl) dX7_echo_14 ⟨Nat.le_of_ble_eq_true rfl, Nat.le_of_ble_eq_true rfl⟩ (fun r H locs hp_8 hP hD hS => ?_)
    obtain ⟨⟨rfl, q_9⟩ | ⟨rfl, q_9⟩, -⟩ := hp_8
    · skip
      have q_9 : ¬ out ((p4)) ((1 : Int32)) ((64 : Int32)) := q_9
      obtain ⟨m_10, hm_11, hm_12, he_13⟩ := nw_rng q_9
      have ec_14 := nw_clamp he_13 (by omega)
      refine lv_if_eq (tgt := 46) hx hb dX7_echo_17 (by decide) (fun c9 => absurd c9 (by decide)) (fun _ => ?_)
      refine lv_iload_n hx hb dX7_echo_20 rfl (lv_at hl 2 rfl) ?_
      refine lv_iconst (v := (0)) hx hb dX7_echo_21 (by decide) ?_
      refine lv_bipush (v := (64)) hx hb dX7_echo_22 (by decide) ?_
      refine lv_iload hx hb dX7_echo_24 (lv_at hl 4 rfl) ?_
      refine lv_isub hx hb dX7_echo_26 ?_
      refine nw_Si (As := [.int (p2), .int (0), .int ((64 : Int32) - (p4))]) (rest := []) X (c_X7_in lc G ((p2)) ((0 : Int32)) (((64 : Int32) - (p4))) ) (va_cwS 3 hts gX7_echo_X7_in rfl rfl rfl (by decide +kernel) ⟨Nat.le_of_ble_eq_true rfl, Nat.le_of_ble_eq_true rfl⟩) (fun _ _ h => h.2) hP hD hS hA rfl hl.1 rfl (Nat.le_of_ble_eq_true rfl) dX7_echo_27 ⟨Nat.le_of_ble_eq_true rfl, Nat.le_of_ble_eq_true rfl⟩ (fun r H locs hp_16 hP hD hS => ?_)
      obtain ⟨⟨rfl, q_17⟩ | ⟨rfl, q_17⟩, -⟩ := hp_16
      · skip
        have q_17 : ¬ out ((p2)) ((0 : Int32)) (((64 : Int32) - (p4))) := q_17
        obtain ⟨z_18, hz_19, he_20⟩ := nw_le (n := 64 - m_10) (nw_64 he_13 (by omega)) (by omega) q_17
        have ec_21 := nw_clamp he_20 (by omega)
        refine lv_if_eq (tgt := 46) hx hb dX7_echo_30 (by decide) (fun c9 => absurd c9 (by decide)) (fun _ => ?_)
        refine lv_iload_n hx hb dX7_echo_33 rfl (lv_at hl 3 rfl) ?_
        refine lv_iconst (v := (0)) hx hb dX7_echo_34 (by decide) ?_
        refine lv_bipush (v := (64)) hx hb dX7_echo_35 (by decide) ?_
        refine lv_iload hx hb dX7_echo_37 (lv_at hl 4 rfl) ?_
        refine lv_isub hx hb dX7_echo_39 ?_
        refine nw_Si (As := [.int (p3), .int (0), .int ((64 : Int32) - (p4))]) (rest := []) X (c_X7_in lc G ((p3)) ((0 : Int32)) (((64 : Int32) - (p4))) ) (va_cwS 3 hts gX7_echo_X7_in rfl rfl rfl (by decide +kernel) ⟨Nat.le_of_ble_eq_true rfl, Nat.le_of_ble_eq_true rfl⟩) (fun _ _ h => h.2) hP hD hS hA rfl hl.1 rfl (Nat.le_of_ble_eq_true rfl) dX7_echo_40 ⟨Nat.le_of_ble_eq_true rfl, Nat.le_of_ble_eq_true rfl⟩ (fun r H locs hp_23 hP hD hS => ?_)
        obtain ⟨⟨rfl, q_24⟩ | ⟨rfl, q_24⟩, -⟩ := hp_23
        · skip
          have q_24 : ¬ out ((p3)) ((0 : Int32)) (((64 : Int32) - (p4))) := q_24
          obtain ⟨z_25, hz_26, he_27⟩ := nw_le (n := 64 - m_10) (nw_64 he_13 (by omega)) (by omega) q_24
          have ec_28 := nw_clamp he_27 (by omega)
          refine lv_if_ne (tgt := 49) hx hb dX7_echo_43 (by decide) (fun _ => ?_) (fun c9 => absurd c9 (by decide))
          rw [he_5] at hl
          rw [he_20] at hl
          rw [he_27] at hl
          rw [he_13] at hl
          have hl : lv_has ls 6 [(0, .ref (a 0)), (1, .int (nI (z_3))), (2, .int (nI (z_18))), (3, .int (nI (z_25))), (4, .int (nI (m_10)))] := hl
          refine lv_iconst (v := (0)) hx hb dX7_echo_49 (by decide) ?_
          refine lv_istore (lv' := [(5, .int (0)), (0, .ref (a 0)), (1, .int (nI (z_3))), (2, .int (nI (z_18))), (3, .int (nI (z_25))), (4, .int (nI (m_10)))]) hx hb dX7_echo_50 hl (by decide) rfl (fun ls hl => ?_)
          have K52 : ∀ (fuel : Nat) (q : Nat) (Mv : Nat → Nat → Int32) (H : Heap) (locs : List Loc) (ls : Array Slot), (65 - q) < fuel → (q ≤ m_10) → (Mv = cpF ML z_3 z_18 z_25 q) → lv_has ls 6 [(5, .int (nI (q))), (0, .ref (a 0)), (1, .int (nI (z_3))), (2, .int (nI (z_18))), (3, .int (nI (z_25))), (4, .int (nI (m_10)))] → va_P G.1 vwCl ((wM G (a) (n) (cu) (bg) ((coF M)) ((goF M)) (er) (us) (ll) (lm) (lh) (nv) (fr) (tt) (gr) ((hdF2 Mv)) (ns) (w) (cs) (cl) (nd) (lo) (ho) (so))) H → va_D vA ((wM G (a) (n) (cu) (bg) ((coF M)) ((goF M)) (er) (us) (ll) (lm) (lh) (nv) (fr) (tt) (gr) ((hdF2 Mv)) (ns) (w) (cs) (cl) (nd) (lo) (ho) (so))) → va_S vA vs.heap H locs → W vp lc ve ({ frames := 1, cells := 0, slots := 0, locals := 22 } : Room) vs vm ([.ref (a 0), .int (p1), .int (p2), .int (p3), .int (p4)] : List Value).toArray vb vt vc H locs 0 0 (MQ vb (nwQi G (fun r ww => r = nwIf (echoBad p1 p2 p3 p4) (-2) 1 ∧ ww = wM G (a) (n) (cu) (bg) ((coF M)) ((goF M)) (er) (us) (ll) (lm) (lh) (nv) (fr) (tt) (gr) ((hdF2 (nwIf (echoBad p1 p2 p3 p4) ML (cpF ML p1.toNatClampNeg p2.toNatClampNeg p3.toNatClampNeg p4.toNatClampNeg)))) (ns) (w) (cs) (cl) (nd) (lo) (ho) (so)) vA) ([.ref (a 0), .int (p1), .int (p2), .int (p3), .int (p4)] : List Value).toArray vs ({ frames := 1, cells := 0, slots := 0, locals := 22 } : Room).cells ({ frames := 1, cells := 0, slots := 0, locals := 22 } : Room).slots vA) (F0 vm 52 ls []) := by
            intro fuel
            induction fuel with
            | zero => intro q Mv H locs ls hmu; exact absurd hmu (Nat.not_lt_zero _)
            | succ fuel ih52 =>
              intro q Mv H locs ls hmu hq eM hl hP hD hS
              refine lv_iload hx hb dX7_echo_52 (lv_at hl 0 rfl) ?_
              refine lv_iload hx hb dX7_echo_54 (lv_at hl 5 rfl) ?_
              refine lv_icmp_ge (tgt := 95) hx hb dX7_echo_56 (by decide) (fun b56_30 => ?_) (fun b56_30 => ?_)
              · skip
                have b56_30 : (m_10) ≤ (q) := (nI_leI (a := m_10) (b := q) (by omega) (by omega)).mp b56_30
                have b56_30n : ¬ ((q) < (m_10)) := by omega
                refine lv_iconst (v := (1)) hx hb dX7_echo_95 (by decide) ?_
                exact nw_iret (rm := ({ frames := 1, cells := 0, slots := 0, locals := 22 } : Room)) X hP hD hS (⟨by simp only [echoBad, nwIf_T, nwIf_F, or_true, true_or, or_false, false_or, and_true, true_and, and_false, false_and, not_true_eq_false, not_false_eq_true, Nat.add_sub_cancel, q_2, ec_6, q_9, ec_14, q_17, ec_21, q_24, ec_28, b56_30n, b56_30], by simp only [echoBad, nwIf_T, nwIf_F, or_true, true_or, or_false, false_or, and_true, true_and, and_false, false_and, not_true_eq_false, not_false_eq_true, Nat.add_sub_cancel, q_2, ec_6, q_9, ec_14, q_17, ec_21, q_24, ec_28, b56_30n, b56_30]; rw [eM, show q = m_10 by omega]⟩) dX7_echo_96
              · skip
                have b56_30 : ¬ ((m_10) ≤ (q)) := fun h => b56_30 ((nI_leI (a := m_10) (b := q) (by omega) (by omega)).mpr h)
                have b56_30n : (q) < (m_10) := by omega
                refine lv_aload_n hx hb dX7_echo_59 rfl (lv_at hl 1 rfl) ?_
                refine va_get (D := G.1) (ci := 6) (v := .ref (a 8)) (C := RX7) (T := TX7) (N := 23) hx hb hts in_X7_echo_X7 hown hK.1 hP 0 rfl rfl 14 (by decide) (hts (.fieldLink RX7 38 "NightWaterModel" "heard" "[I") (List.mem_of_getElem? (i := 1) rfl)) (fun _ h9 => h9) rfl dX7_echo_60 ?_
                refine lv_bipush (v := (64)) hx hb dX7_echo_63 (by decide) ?_
                refine lv_iload_n hx hb dX7_echo_65 rfl (lv_at hl 2 rfl) ?_
                refine lv_imul hx hb dX7_echo_66 ?_
                refine nw_top (y := nI (64 * z_3)) (pk_mul (64) (z_3)) ?_
                refine lv_iload_n hx hb dX7_echo_67 rfl (lv_at hl 3 rfl) ?_
                refine lv_iadd hx hb dX7_echo_68 ?_
                refine nw_top (y := nI (64 * z_3 + z_18)) (nI_add (64 * z_3) (z_18)) ?_
                refine lv_iload hx hb dX7_echo_69 (lv_at hl 0 rfl) ?_
                refine lv_iadd hx hb dX7_echo_71 ?_
                refine nw_top (y := nI (64 * z_3 + z_18 + q)) (nI_add (64 * z_3 + z_18) (q)) ?_
                refine lv_aload_n hx hb dX7_echo_72 rfl (lv_at hl 1 rfl) ?_
                refine va_get (D := G.1) (ci := 6) (v := .ref (a 8)) (C := RX7) (T := TX7) (N := 23) hx hb hts in_X7_echo_X7 hown hK.1 hP 0 rfl rfl 14 (by decide) (hts (.fieldLink RX7 38 "NightWaterModel" "heard" "[I") (List.mem_of_getElem? (i := 1) rfl)) (fun _ h9 => h9) rfl dX7_echo_73 ?_
                refine lv_bipush (v := (64)) hx hb dX7_echo_76 (by decide) ?_
                refine lv_iconst (v := (1)) hx hb dX7_echo_78 (by decide) ?_
                refine lv_iload_n hx hb dX7_echo_79 rfl (lv_at hl 2 rfl) ?_
                refine lv_isub hx hb dX7_echo_80 ?_
                refine nw_top (y := nI (1 - z_3)) (pk_sub (a := 1) (b := z_3) (by omega)) ?_
                refine lv_imul hx hb dX7_echo_81 ?_
                refine nw_top (y := nI (64 * (1 - z_3))) (pk_mul (64) (1 - z_3)) ?_
                refine lv_iload_n hx hb dX7_echo_82 rfl (lv_at hl 4 rfl) ?_
                refine lv_iadd hx hb dX7_echo_83 ?_
                refine nw_top (y := nI (64 * (1 - z_3) + z_25)) (nI_add (64 * (1 - z_3)) (z_25)) ?_
                refine lv_iload hx hb dX7_echo_84 (lv_at hl 0 rfl) ?_
                refine lv_iadd hx hb dX7_echo_86 ?_
                refine nw_top (y := nI (64 * (1 - z_3) + z_25 + q)) (nI_add (64 * (1 - z_3) + z_25) (q)) ?_
                refine nw_iald X hP 8 (n := 128) (f := ((hdF2 Mv))) rfl (64 * (1 - z_3) + z_25 + q) rfl (by omega) (by decide) dX7_echo_87 ?_
                refine nw_top (y := Mv (1 - z_3) (z_25 + q)) (by rw [show 64 * (1 - z_3) + z_25 + q = 64 * (1 - z_3) + (z_25 + q) by omega]; exact hdF_at (by omega) (by omega)) ?_
                refine nw_iast X hP hD hS 8 (n := 128) (f := (hdF2 Mv)) rfl (64 * z_3 + z_18 + q) rfl (by omega) (by decide) dX7_echo_88 (fun H locs hP hD hS => ?_)
                have hP : va_P G.1 vwCl ((wM G (a) (n) (cu) (bg) ((coF M)) ((goF M)) (er) (us) (ll) (lm) (lh) (nv) (fr) (tt) (gr) (va_up ((hdF2 Mv)) (64 * z_3 + z_18 + q) (Mv (1 - z_3) (z_25 + q))) (ns) (w) (cs) (cl) (nd) (lo) (ho) (so))) H := hP
                have hD : va_D vA ((wM G (a) (n) (cu) (bg) ((coF M)) ((goF M)) (er) (us) (ll) (lm) (lh) (nv) (fr) (tt) (gr) (va_up ((hdF2 Mv)) (64 * z_3 + z_18 + q) (Mv (1 - z_3) (z_25 + q))) (ns) (w) (cs) (cl) (nd) (lo) (ho) (so))) := hD
                rw [show 64 * z_3 + z_18 + q = 64 * z_3 + (z_18 + q) by omega, hdF_up (by omega) (by omega)] at hP hD
                have hP : va_P G.1 vwCl ((wM G (a) (n) (cu) (bg) ((coF M)) ((goF M)) (er) (us) (ll) (lm) (lh) (nv) (fr) (tt) (gr) ((hdF2 (nwU2 Mv z_3 (z_18 + q) (Mv (1 - z_3) (z_25 + q))))) (ns) (w) (cs) (cl) (nd) (lo) (ho) (so))) H := hP
                have hD : va_D vA ((wM G (a) (n) (cu) (bg) ((coF M)) ((goF M)) (er) (us) (ll) (lm) (lh) (nv) (fr) (tt) (gr) ((hdF2 (nwU2 Mv z_3 (z_18 + q) (Mv (1 - z_3) (z_25 + q))))) (ns) (w) (cs) (cl) (nd) (lo) (ho) (so))) := hD
                refine lv_iinc (v := (nI (q + 1))) (lv' := [(5, .int (nI (q + 1))), (0, .ref (a 0)), (1, .int (nI (z_3))), (2, .int (nI (z_18))), (3, .int (nI (z_25))), (4, .int (nI (m_10)))]) hx hb dX7_echo_89 hl (k := 0) rfl (by exact nI_add (q) 1) (by decide) rfl (fun ls hl => ?_)
                refine lv_goto (tgt := 52) hx hb dX7_echo_92 (by decide) ?_
                exact ih52 (q + 1) ((nwU2 Mv z_3 (z_18 + q) (Mv (1 - z_3) (z_25 + q)))) _ _ _ (by omega) (by omega) (by rw [cpF_s, ← eM]) (lv_sub hl [0, 1, 2, 3, 4, 5] rfl) hP hD hS
          exact K52 ((65 - (0)) + 1) (0) (ML) _ _ _ (Nat.lt_succ_self _) (by omega) (by rfl) (lv_sub hl [0, 1, 2, 3, 4, 5] rfl) hP hD hS
        · skip
          have q_24 : out ((p3)) ((0 : Int32)) (((64 : Int32) - (p4))) := q_24
          refine lv_if_ne (tgt := 49) hx hb dX7_echo_43 (by decide) (fun c9 => absurd c9 (by decide)) (fun _ => ?_)
          refine lv_bipush (v := (-2)) hx hb dX7_echo_46 (by decide) ?_
          exact nw_iret (rm := ({ frames := 1, cells := 0, slots := 0, locals := 22 } : Room)) X hP hD hS (⟨by simp only [echoBad, nwIf_T, nwIf_F, or_true, true_or, or_false, false_or, and_true, true_and, and_false, false_and, not_true_eq_false, not_false_eq_true, Nat.add_sub_cancel, q_2, ec_6, q_9, ec_14, q_17, ec_21, q_24], by simp only [echoBad, nwIf_T, nwIf_F, or_true, true_or, or_false, false_or, and_true, true_and, and_false, false_and, not_true_eq_false, not_false_eq_true, Nat.add_sub_cancel, q_2, ec_6, q_9, ec_14, q_17, ec_21, q_24]⟩) dX7_echo_48
      · skip
        have q_17 : out ((p2)) ((0 : Int32)) (((64 : Int32) - (p4))) := q_17
        refine lv_if_eq (tgt := 46) hx hb dX7_echo_30 (by decide) (fun _ => ?_) (fun c9 => absurd (by decide) c9)
        refine lv_bipush (v := (-2)) hx hb dX7_echo_46 (by decide) ?_
        exact nw_iret (rm := ({ frames := 1, cells := 0, slots := 0, locals := 22 } : Room)) X hP hD hS (⟨by simp only [echoBad, nwIf_T, nwIf_F, or_true, true_or, or_false, false_or, and_true, true_and, and_false, false_and, not_true_eq_false, not_false_eq_true, Nat.add_sub_cancel, q_2, ec_6, q_9, ec_14, q_17], by simp only [echoBad, nwIf_T, nwIf_F, or_true, true_or, or_false, false_or, and_true, true_and, and_false, false_and, not_true_eq_false, not_false_eq_true, Nat.add_sub_cancel, q_2, ec_6, q_9, ec_14, q_17]⟩) dX7_echo_48
    · skip
      have q_9 : out ((p4)) ((1 : Int32)) ((64 : Int32)) := q_9
      refine lv_if_eq (tgt := 46) hx hb dX7_echo_17 (by decide) (fun _ => ?_) (fun c9 => absurd (by decide) c9)
      refine lv_bipush (v := (-2)) hx hb dX7_echo_46 (by decide) ?_
      exact nw_iret (rm := ({ frames := 1, cells := 0, slots := 0, locals := 22 } : Room)) X hP hD hS (⟨by simp only [echoBad, nwIf_T, nwIf_F, or_true, true_or, or_false, false_or, and_true, true_and, and_false, false_and, not_true_eq_false, not_false_eq_true, Nat.add_sub_cancel, q_2, ec_6, q_9], by simp only [echoBad, nwIf_T, nwIf_F, or_true, true_or, or_false, false_or, and_true, true_and, and_false, false_and, not_true_eq_false, not_false_eq_true, Nat.add_sub_cancel, q_2, ec_6, q_9]⟩) dX7_echo_48
  · skip
    have q_2 : out ((p1)) ((0 : Int32)) ((1 : Int32)) := q_2
    refine lv_if_eq (tgt := 46) hx hb dX7_echo_6 (by decide) (fun _ => ?_) (fun c9 => absurd (by decide) c9)
    refine lv_bipush (v := (-2)) hx hb dX7_echo_46 (by decide) ?_
    exact nw_iret (rm := ({ frames := 1, cells := 0, slots := 0, locals := 22 } : Room)) X hP hD hS (⟨by simp only [echoBad, nwIf_T, nwIf_F, or_true, true_or, or_false, false_or, and_true, true_and, and_false, false_and, not_true_eq_false, not_false_eq_true, Nat.add_sub_cancel, q_2], by simp only [echoBad, nwIf_T, nwIf_F, or_true, true_or, or_false, false_or, and_true, true_and, and_false, false_and, not_true_eq_false, not_false_eq_true, Nat.add_sub_cancel, q_2]⟩) dX7_echo_48
set_option maxHeartbeats 4000000 in
set_option maxRecDepth 100000 in
theorem c_X7_isBoth (lc : Launch) (G : nwG) (a : Nat → Nat) (n : Nat) (cu bg : Nat → Int32) (M : Nat → Nat → Int32) (er us ll lm lh : Int32) (nv : Nat) (fr tt gr : Nat → Nat) (ML : Nat → Nat → Int32) (ns : Nat) (w : Nat → Nat) (cs cl : Nat → Int32) (nd : Nat) (lo ho : Nat → Int32) (so : Nat → Nat) (i : Nat) (d : Int32) (hi : i < 64) : nwCi lc G yX7_isBoth wsX7_isBoth ({ frames := 1, cells := 0, slots := 0, locals := 22 } : Room) [.ref (a 0), .int (nI (i)), .int (d)] ((wM G (a) (n) (cu) (bg) ((coF M)) ((goF M)) (er) (us) (ll) (lm) (lh) (nv) (fr) (tt) (gr) ((hdF2 ML)) (ns) (w) (cs) (cl) (nd) (lo) (ho) (so))) (fun r ww => ((r = 1 ∧ pairF (ML 0) (ML 1) i d) ∨ (r = 0 ∧ ¬ pairF (ML 0) (ML 1) i d)) ∧ ww = wM G (a) (n) (cu) (bg) ((coF M)) ((goF M)) (er) (us) (ll) (lm) (lh) (nv) (fr) (tt) (gr) ((hdF2 ML)) (ns) (w) (cs) (cl) (nd) (lo) (ho) (so)) := by
  refine nw_of (cc := cX7_isBoth) (maxL := 3) (ret := (some .boolean)) (by decide) rfl (Nat.le_of_ble_eq_true rfl) ?_
  intro vp ve vs vm vb vt vc vA ls X hP hD hA hS hl
  have X : nwAt vp vm vc cX7_isBoth 3 vs _ wsX7_isBoth RX7 vt (some .boolean) "isBoth" G := X
  have hx := X.1.1
  have hb := X.1.2.1
  have hown := X.1.2.2.2.1
  have hts := X.1.2.2.2.2
  have hK := X.2.2.2.2
  have hl : lv_has ls 3 [(0, .ref (a 0)), (1, .int (nI (i))), (2, .int (d))] := hl
  refine lv_iload_n hx hb dX7_isBoth_0 rfl (lv_at hl 1 rfl) ?_
  refine lv_iload_n hx hb dX7_isBoth_1 rfl (lv_at hl 2 rfl) ?_
  refine lv_iadd hx hb dX7_isBoth_2 ?_
  refine lv_iconst (v := (0)) hx hb dX7_isBoth_3 (by decide) ?_
  refine lv_bipush (v := (63)) hx hb dX7_isBoth_4 (by decide) ?_
  refine nw_Si (As := [.int ((nI (i)) + (d)), .int (0), .int (63)]) (rest := []) X (c_X7_in lc G (((nI (i)) + (d))) ((0 : Int32)) ((63 : Int32)) ) (va_cwS 3 hts gX7_isBoth_X7_in rfl rfl rfl (by decide +kernel) ⟨Nat.le_of_ble_eq_true rfl, Nat.le_of_ble_eq_true rfl⟩) (fun _ _ h => h.2) hP hD hS hA rfl hl.1 rfl (Nat.le_of_ble_eq_true rfl) dX7_isBoth_6 ⟨Nat.le_of_ble_eq_true rfl, Nat.le_of_ble_eq_true rfl⟩ (fun r H locs hp_1 hP hD hS => ?_)
  obtain ⟨⟨rfl, q_2⟩ | ⟨rfl, q_2⟩, -⟩ := hp_1
  · skip
    have q_2 : ¬ out (((nI (i)) + (d))) ((0 : Int32)) ((63 : Int32)) := q_2
    obtain ⟨j_3, hj_4, he_5⟩ := nw_le (n := 63) rfl (by decide) q_2
    have ec_6 := nw_clamp he_5 (by omega)
    refine lv_if_eq (tgt := 43) hx hb dX7_isBoth_9 (by decide) (fun c9 => absurd c9 (by decide)) (fun _ => ?_)
    refine lv_aload_n hx hb dX7_isBoth_12 rfl (lv_at hl 0 rfl) ?_
    refine va_get (D := G.1) (ci := 6) (v := .ref (a 8)) (C := RX7) (T := TX7) (N := 23) hx hb hts in_X7_isBoth_X7 hown hK.1 hP 0 rfl rfl 14 (by decide) (hts (.fieldLink RX7 38 "NightWaterModel" "heard" "[I") (List.mem_of_getElem? (i := 1) rfl)) (fun _ h9 => h9) rfl dX7_isBoth_13 ?_
    refine lv_iload_n hx hb dX7_isBoth_16 rfl (lv_at hl 1 rfl) ?_
    refine nw_iald X hP 8 (n := 128) (f := ((hdF2 ML))) rfl (i) rfl (by omega) (by decide) dX7_isBoth_17 ?_
    refine nw_top (y := ML 0 i) (hdF_0 (by omega)) ?_
    refine lv_ldc (own := RX7) (v := (-2000000000)) hx hb hown (hts (.constant RX7 92 (-2000000000)) (List.mem_of_getElem? (i := 2) rfl)) dX7_isBoth_18 ?_
    refine lv_icmp_eq (tgt := 43) hx hb dX7_isBoth_20 (by decide) (fun b20_8 => ?_) (fun b20_8 => ?_)
    · skip
      have b20_8 : (ML 0 i) = (-2000000000 : Int32) := b20_8
      refine lv_iconst (v := (0)) hx hb dX7_isBoth_43 (by decide) ?_
      exact nw_zret (rm := ({ frames := 1, cells := 0, slots := 0, locals := 22 } : Room)) X (by decide) hP hD hS (⟨Or.inr ⟨rfl, by simp only [pairF, nwIf_T, nwIf_F, or_true, true_or, or_false, false_or, and_true, true_and, and_false, false_and, not_true_eq_false, not_false_eq_true, Nat.add_sub_cancel, q_2, ec_6, eq_true b20_8]⟩, rfl⟩) dX7_isBoth_44
    · skip
      have b20_8 : ¬ ((ML 0 i) = (-2000000000 : Int32)) := b20_8
      refine lv_aload_n hx hb dX7_isBoth_23 rfl (lv_at hl 0 rfl) ?_
      refine va_get (D := G.1) (ci := 6) (v := .ref (a 8)) (C := RX7) (T := TX7) (N := 23) hx hb hts in_X7_isBoth_X7 hown hK.1 hP 0 rfl rfl 14 (by decide) (hts (.fieldLink RX7 38 "NightWaterModel" "heard" "[I") (List.mem_of_getElem? (i := 1) rfl)) (fun _ h9 => h9) rfl dX7_isBoth_24 ?_
      refine lv_bipush (v := (64)) hx hb dX7_isBoth_27 (by decide) ?_
      refine lv_iload_n hx hb dX7_isBoth_29 rfl (lv_at hl 1 rfl) ?_
      refine lv_iadd hx hb dX7_isBoth_30 ?_
      refine nw_top (y := nI (64 + i)) (nI_add (64) (i)) ?_
      refine lv_iload_n hx hb dX7_isBoth_31 rfl (lv_at hl 2 rfl) ?_
      refine lv_iadd hx hb dX7_isBoth_32 ?_
      refine nw_top (y := nI (64 + j_3)) (sh64 he_5) ?_
      refine nw_iald X hP 8 (n := 128) (f := ((hdF2 ML))) rfl (64 + j_3) rfl (by omega) (by decide) dX7_isBoth_33 ?_
      refine nw_top (y := ML 1 j_3) (hdF_1 (by omega)) ?_
      refine lv_ldc (own := RX7) (v := (-2000000000)) hx hb hown (hts (.constant RX7 92 (-2000000000)) (List.mem_of_getElem? (i := 2) rfl)) dX7_isBoth_34 ?_
      refine lv_icmp_eq (tgt := 43) hx hb dX7_isBoth_36 (by decide) (fun b36_9 => ?_) (fun b36_9 => ?_)
      · skip
        have b36_9 : (ML 1 j_3) = (-2000000000 : Int32) := b36_9
        refine lv_iconst (v := (0)) hx hb dX7_isBoth_43 (by decide) ?_
        exact nw_zret (rm := ({ frames := 1, cells := 0, slots := 0, locals := 22 } : Room)) X (by decide) hP hD hS (⟨Or.inr ⟨rfl, by simp only [pairF, nwIf_T, nwIf_F, or_true, true_or, or_false, false_or, and_true, true_and, and_false, false_and, not_true_eq_false, not_false_eq_true, Nat.add_sub_cancel, q_2, ec_6, b20_8, eq_true b36_9]⟩, rfl⟩) dX7_isBoth_44
      · skip
        have b36_9 : ¬ ((ML 1 j_3) = (-2000000000 : Int32)) := b36_9
        refine lv_iconst (v := (1)) hx hb dX7_isBoth_39 (by decide) ?_
        refine lv_goto (tgt := 44) hx hb dX7_isBoth_40 (by decide) ?_
        exact nw_zret (rm := ({ frames := 1, cells := 0, slots := 0, locals := 22 } : Room)) X (by decide) hP hD hS (⟨Or.inl ⟨rfl, by simp only [pairF, nwIf_T, nwIf_F, or_true, true_or, or_false, false_or, and_true, true_and, and_false, false_and, not_true_eq_false, not_false_eq_true, Nat.add_sub_cancel, q_2, ec_6, b20_8, b36_9]⟩, rfl⟩) dX7_isBoth_44
  · skip
    have q_2 : out (((nI (i)) + (d))) ((0 : Int32)) ((63 : Int32)) := q_2
    refine lv_if_eq (tgt := 43) hx hb dX7_isBoth_9 (by decide) (fun _ => ?_) (fun c9 => absurd (by decide) c9)
    refine lv_iconst (v := (0)) hx hb dX7_isBoth_43 (by decide) ?_
    exact nw_zret (rm := ({ frames := 1, cells := 0, slots := 0, locals := 22 } : Room)) X (by decide) hP hD hS (⟨Or.inr ⟨rfl, by simp only [pairF, nwIf_T, nwIf_F, or_true, true_or, or_false, false_or, and_true, true_and, and_false, false_and, not_true_eq_false, not_false_eq_true, Nat.add_sub_cancel, q_2]⟩, rfl⟩) dX7_isBoth_44
set_option maxHeartbeats 4000000 in
set_option maxRecDepth 100000 in
theorem c_X7_sumOf (lc : Launch) (G : nwG) (a : Nat → Nat) (n : Nat) (cu bg : Nat → Int32) (M : Nat → Nat → Int32) (er us ll lm lh : Int32) (nv : Nat) (fr tt gr : Nat → Nat) (ML : Nat → Nat → Int32) (ns : Nat) (w : Nat → Nat) (cs cl : Nat → Int32) (nd : Nat) (lo ho : Nat → Int32) (so : Nat → Nat) (d : Int32)  : nwCi lc G yX7_sumOf wsX7_sumOf ({ frames := 2, cells := 0, slots := 0, locals := 44 } : Room) [.ref (a 0), .int (d)] ((wM G (a) (n) (cu) (bg) ((coF M)) ((goF M)) (er) (us) (ll) (lm) (lh) (nv) (fr) (tt) (gr) ((hdF2 ML)) (ns) (w) (cs) (cl) (nd) (lo) (ho) (so))) (fun r ww => r = sumF (ML 0) (ML 1) d 64 ∧ ww = wM G (a) (n) (cu) (bg) ((coF M)) ((goF M)) (er) (us) (ll) (lm) (lh) (nv) (fr) (tt) (gr) ((hdF2 ML)) (ns) (w) (cs) (cl) (nd) (lo) (ho) (so)) := by
  refine nw_of (cc := cX7_sumOf) (maxL := 4) (ret := (some .int)) (by decide) rfl (Nat.le_of_ble_eq_true rfl) ?_
  intro vp ve vs vm vb vt vc vA ls X hP hD hA hS hl
  have X : nwAt vp vm vc cX7_sumOf 4 vs _ wsX7_sumOf RX7 vt (some .int) "sumOf" G := X
  have hx := X.1.1
  have hb := X.1.2.1
  have hown := X.1.2.2.2.1
  have hts := X.1.2.2.2.2
  have hK := X.2.2.2.2
  have hl : lv_has ls 4 [(0, .ref (a 0)), (1, .int (d))] := hl
  refine lv_iconst (v := (0)) hx hb dX7_sumOf_0 (by decide) ?_
  refine lv_istore_n (lv' := [(2, .int (0)), (0, .ref (a 0)), (1, .int (d))]) hx hb dX7_sumOf_1 rfl hl (by decide) rfl (fun ls hl => ?_)
  refine lv_iconst (v := (0)) hx hb dX7_sumOf_2 (by decide) ?_
  refine lv_istore_n (lv' := [(3, .int (0)), (2, .int (0)), (0, .ref (a 0)), (1, .int (d))]) hx hb dX7_sumOf_3 rfl hl (by decide) rfl (fun ls hl => ?_)
  have K4 : ∀ (fuel : Nat) (i : Nat) (x2 : Int32) (H : Heap) (locs : List Loc) (ls : Array Slot), (65 - i) < fuel → (i ≤ 64) → (x2 = sumF (ML 0) (ML 1) d i) → lv_has ls 4 [(3, .int (nI (i))), (2, .int (x2)), (0, .ref (a 0)), (1, .int (d))] → va_P G.1 vwCl ((wM G (a) (n) (cu) (bg) ((coF M)) ((goF M)) (er) (us) (ll) (lm) (lh) (nv) (fr) (tt) (gr) ((hdF2 ML)) (ns) (w) (cs) (cl) (nd) (lo) (ho) (so))) H → va_D vA ((wM G (a) (n) (cu) (bg) ((coF M)) ((goF M)) (er) (us) (ll) (lm) (lh) (nv) (fr) (tt) (gr) ((hdF2 ML)) (ns) (w) (cs) (cl) (nd) (lo) (ho) (so))) → va_S vA vs.heap H locs → W vp lc ve ({ frames := 2, cells := 0, slots := 0, locals := 44 } : Room) vs vm ([.ref (a 0), .int (d)] : List Value).toArray vb vt vc H locs 0 0 (MQ vb (nwQi G (fun r ww => r = sumF (ML 0) (ML 1) d 64 ∧ ww = wM G (a) (n) (cu) (bg) ((coF M)) ((goF M)) (er) (us) (ll) (lm) (lh) (nv) (fr) (tt) (gr) ((hdF2 ML)) (ns) (w) (cs) (cl) (nd) (lo) (ho) (so)) vA) ([.ref (a 0), .int (d)] : List Value).toArray vs ({ frames := 2, cells := 0, slots := 0, locals := 44 } : Room).cells ({ frames := 2, cells := 0, slots := 0, locals := 44 } : Room).slots vA) (F0 vm 4 ls []) := by
    intro fuel
    induction fuel with
    | zero => intro i x2 H locs ls hmu; exact absurd hmu (Nat.not_lt_zero _)
    | succ fuel ih4 =>
      intro i x2 H locs ls hmu hi e2 hl hP hD hS
      refine lv_iload_n hx hb dX7_sumOf_4 rfl (lv_at hl 0 rfl) ?_
      refine lv_bipush (v := (64)) hx hb dX7_sumOf_5 (by decide) ?_
      refine lv_icmp_ge (tgt := 50) hx hb dX7_sumOf_7 (by decide) (fun b7_1 => ?_) (fun b7_1 => ?_)
      · skip
        have b7_1 : (64) ≤ (i) := (nI_leI (a := 64) (b := i) (by omega) (by omega)).mp b7_1
        have b7_1n : ¬ ((i) < (64)) := by omega
        refine lv_iload_n hx hb dX7_sumOf_50 rfl (lv_at hl 1 rfl) ?_
        exact nw_iret (rm := ({ frames := 2, cells := 0, slots := 0, locals := 44 } : Room)) X hP hD hS (⟨e2.trans (by rw [show i = 64 by omega]), rfl⟩) dX7_sumOf_51
      · skip
        have b7_1 : ¬ ((64) ≤ (i)) := fun h => b7_1 ((nI_leI (a := 64) (b := i) (by omega) (by omega)).mpr h)
        have b7_1n : (i) < (64) := by omega
        refine lv_iload_n hx hb dX7_sumOf_10 rfl (lv_at hl 1 rfl) ?_
        refine lv_aload_n hx hb dX7_sumOf_11 rfl (lv_at hl 2 rfl) ?_
        refine lv_iload_n hx hb dX7_sumOf_12 rfl (lv_at hl 0 rfl) ?_
        refine lv_iload_n hx hb dX7_sumOf_13 rfl (lv_at hl 3 rfl) ?_
        refine nw_st (st' := [.int (d), .int (nI (i)), .ref (a 0), .int (x2)]) (by rfl) ?_
        refine nw_Vi (As := [.int (nI (i)), .int (d)]) (rest := [.int (x2)]) (q0 := 0) X (c_X7_isBoth lc G (a) (n) (cu) (bg) (M) (er) (us) (ll) (lm) (lh) (nv) (fr) (tt) (gr) (ML) (ns) (w) (cs) (cl) (nd) (lo) (ho) (so) (i) ((d)) (by first | assumption | omega)) (cwV 2 hts gX7_sumOf_X7_isBoth rfl rfl rfl (by decide +kernel) ⟨Nat.le_of_ble_eq_true rfl, Nat.le_of_ble_eq_true rfl⟩) rfl (show vwCl[6]? = some (RX7, TX7, 23) from rfl) (nwSp.all ((wM G (a) (n) (cu) (bg) ((coF M)) ((goF M)) (er) (us) (ll) (lm) (lh) (nv) (fr) (tt) (gr) ((hdF2 ML)) (ns) (w) (cs) (cl) (nd) (lo) (ho) (so)))) hP hD hS hA rfl hl.1 rfl (Nat.le_of_ble_eq_true rfl) dX7_sumOf_14 ⟨Nat.le_of_ble_eq_true rfl, Nat.le_of_ble_eq_true rfl⟩ (fun r w H locs hp_2 hP hD hS => ?_)
        obtain ⟨⟨rfl, q_3⟩ | ⟨rfl, q_3⟩, rfl⟩ := hp_2
        · skip
          have hP : va_P G.1 vwCl ((wM G (a) (n) (cu) (bg) ((coF M)) ((goF M)) (er) (us) (ll) (lm) (lh) (nv) (fr) (tt) (gr) ((hdF2 ML)) (ns) (w) (cs) (cl) (nd) (lo) (ho) (so))) H := hP
          have hD : va_D vA ((wM G (a) (n) (cu) (bg) ((coF M)) ((goF M)) (er) (us) (ll) (lm) (lh) (nv) (fr) (tt) (gr) ((hdF2 ML)) (ns) (w) (cs) (cl) (nd) (lo) (ho) (so))) := hD
          have q_3 : pairF ((ML) 0) ((ML) 1) (i) ((d)) := q_3
          have q_3 : pairF (ML 0) (ML 1) i d := q_3
          obtain ⟨j_4, hj_5, he_6⟩ := nw_le (n := 63) rfl (by decide) q_3.1
          have ec_7 := nw_clamp he_6 (by omega)
          refine lv_if_eq (tgt := 41) hx hb dX7_sumOf_17 (by decide) (fun c9 => absurd c9 (by decide)) (fun _ => ?_)
          refine lv_aload_n hx hb dX7_sumOf_20 rfl (lv_at hl 2 rfl) ?_
          refine va_get (D := G.1) (ci := 6) (v := .ref (a 8)) (C := RX7) (T := TX7) (N := 23) hx hb hts in_X7_sumOf_X7 hown hK.1 hP 0 rfl rfl 14 (by decide) (hts (.fieldLink RX7 38 "NightWaterModel" "heard" "[I") (List.mem_of_getElem? (i := 1) rfl)) (fun _ h9 => h9) rfl dX7_sumOf_21 ?_
          refine lv_iload_n hx hb dX7_sumOf_24 rfl (lv_at hl 0 rfl) ?_
          refine nw_iald X hP 8 (n := 128) (f := ((hdF2 ML))) rfl (i) rfl (by omega) (by decide) dX7_sumOf_25 ?_
          refine nw_top (y := ML 0 i) (hdF_0 (by omega)) ?_
          refine lv_aload_n hx hb dX7_sumOf_26 rfl (lv_at hl 2 rfl) ?_
          refine va_get (D := G.1) (ci := 6) (v := .ref (a 8)) (C := RX7) (T := TX7) (N := 23) hx hb hts in_X7_sumOf_X7 hown hK.1 hP 0 rfl rfl 14 (by decide) (hts (.fieldLink RX7 38 "NightWaterModel" "heard" "[I") (List.mem_of_getElem? (i := 1) rfl)) (fun _ h9 => h9) rfl dX7_sumOf_27 ?_
          refine lv_bipush (v := (64)) hx hb dX7_sumOf_30 (by decide) ?_
          refine lv_iload_n hx hb dX7_sumOf_32 rfl (lv_at hl 0 rfl) ?_
          refine lv_iadd hx hb dX7_sumOf_33 ?_
          refine nw_top (y := nI (64 + i)) (nI_add (64) (i)) ?_
          refine lv_iload_n hx hb dX7_sumOf_34 rfl (lv_at hl 3 rfl) ?_
          refine lv_iadd hx hb dX7_sumOf_35 ?_
          refine nw_top (y := nI (64 + j_4)) (sh64 he_6) ?_
          refine nw_iald X hP 8 (n := 128) (f := ((hdF2 ML))) rfl (64 + j_4) rfl (by omega) (by decide) dX7_sumOf_36 ?_
          refine nw_top (y := ML 1 j_4) (hdF_1 (by omega)) ?_
          refine lv_imul hx hb dX7_sumOf_37 ?_
          refine lv_goto (tgt := 42) hx hb dX7_sumOf_38 (by decide) ?_
          refine lv_iadd hx hb dX7_sumOf_42 ?_
          refine lv_istore_n (lv' := [(2, .int ((x2) + ((ML 0 i) * (ML 1 j_4)))), (3, .int (nI (i))), (0, .ref (a 0)), (1, .int (d))]) hx hb dX7_sumOf_43 rfl hl (by decide) rfl (fun ls hl => ?_)
          refine lv_iinc (v := (nI (i + 1))) (lv' := [(3, .int (nI (i + 1))), (2, .int ((x2) + ((ML 0 i) * (ML 1 j_4)))), (0, .ref (a 0)), (1, .int (d))]) hx hb dX7_sumOf_44 hl (k := 1) rfl (by exact nI_add (i) 1) (by decide) rfl (fun ls hl => ?_)
          refine lv_goto (tgt := 4) hx hb dX7_sumOf_47 (by decide) ?_
          exact ih4 (i + 1) (((x2) + ((ML 0 i) * (ML 1 j_4)))) _ _ _ (by omega) (by omega) (by rw [sumF_s, ← e2]; simp only [nwIf_T, nwIf_F, or_true, true_or, or_false, false_or, and_true, true_and, and_false, false_and, not_true_eq_false, not_false_eq_true, Nat.add_sub_cancel, Int32.add_zero, b7_1n, b7_1, q_3, ec_7]) (lv_sub hl [0, 1, 2, 3] rfl) hP hD hS
        · skip
          have hP : va_P G.1 vwCl ((wM G (a) (n) (cu) (bg) ((coF M)) ((goF M)) (er) (us) (ll) (lm) (lh) (nv) (fr) (tt) (gr) ((hdF2 ML)) (ns) (w) (cs) (cl) (nd) (lo) (ho) (so))) H := hP
          have hD : va_D vA ((wM G (a) (n) (cu) (bg) ((coF M)) ((goF M)) (er) (us) (ll) (lm) (lh) (nv) (fr) (tt) (gr) ((hdF2 ML)) (ns) (w) (cs) (cl) (nd) (lo) (ho) (so))) := hD
          have q_3 : ¬ pairF ((ML) 0) ((ML) 1) (i) ((d)) := q_3
          have q_3 : ¬ pairF (ML 0) (ML 1) i d := q_3
          refine lv_if_eq (tgt := 41) hx hb dX7_sumOf_17 (by decide) (fun _ => ?_) (fun c9 => absurd (by decide) c9)
          refine lv_iconst (v := (0)) hx hb dX7_sumOf_41 (by decide) ?_
          refine lv_iadd hx hb dX7_sumOf_42 ?_
          refine lv_istore_n (lv' := [(2, .int ((x2) + (0 : Int32))), (3, .int (nI (i))), (0, .ref (a 0)), (1, .int (d))]) hx hb dX7_sumOf_43 rfl hl (by decide) rfl (fun ls hl => ?_)
          refine lv_iinc (v := (nI (i + 1))) (lv' := [(3, .int (nI (i + 1))), (2, .int ((x2) + (0 : Int32))), (0, .ref (a 0)), (1, .int (d))]) hx hb dX7_sumOf_44 hl (k := 1) rfl (by exact nI_add (i) 1) (by decide) rfl (fun ls hl => ?_)
          refine lv_goto (tgt := 4) hx hb dX7_sumOf_47 (by decide) ?_
          exact ih4 (i + 1) (((x2) + (0 : Int32))) _ _ _ (by omega) (by omega) (by rw [sumF_s, ← e2]; simp only [nwIf_T, nwIf_F, or_true, true_or, or_false, false_or, and_true, true_and, and_false, false_and, not_true_eq_false, not_false_eq_true, Nat.add_sub_cancel, Int32.add_zero, b7_1n, b7_1, q_3]) (lv_sub hl [0, 1, 2, 3] rfl) hP hD hS
  exact K4 ((65 - (0)) + 1) (0) ((0 : Int32)) _ _ _ (Nat.lt_succ_self _) (by omega) (by rfl) (lv_sub hl [0, 1, 2, 3] rfl) hP hD hS
set_option maxHeartbeats 4000000 in
set_option maxRecDepth 100000 in
theorem c_X7_countOf (lc : Launch) (G : nwG) (a : Nat → Nat) (n : Nat) (cu bg : Nat → Int32) (M : Nat → Nat → Int32) (er us ll lm lh : Int32) (nv : Nat) (fr tt gr : Nat → Nat) (ML : Nat → Nat → Int32) (ns : Nat) (w : Nat → Nat) (cs cl : Nat → Int32) (nd : Nat) (lo ho : Nat → Int32) (so : Nat → Nat) (d : Int32)  : nwCi lc G yX7_countOf wsX7_countOf ({ frames := 2, cells := 0, slots := 0, locals := 44 } : Room) [.ref (a 0), .int (d)] ((wM G (a) (n) (cu) (bg) ((coF M)) ((goF M)) (er) (us) (ll) (lm) (lh) (nv) (fr) (tt) (gr) ((hdF2 ML)) (ns) (w) (cs) (cl) (nd) (lo) (ho) (so))) (fun r ww => r = nI (cntF (ML 0) (ML 1) d 64) ∧ ww = wM G (a) (n) (cu) (bg) ((coF M)) ((goF M)) (er) (us) (ll) (lm) (lh) (nv) (fr) (tt) (gr) ((hdF2 ML)) (ns) (w) (cs) (cl) (nd) (lo) (ho) (so)) := by
  refine nw_of (cc := cX7_countOf) (maxL := 4) (ret := (some .int)) (by decide) rfl (Nat.le_of_ble_eq_true rfl) ?_
  intro vp ve vs vm vb vt vc vA ls X hP hD hA hS hl
  have X : nwAt vp vm vc cX7_countOf 4 vs _ wsX7_countOf RX7 vt (some .int) "countOf" G := X
  have hx := X.1.1
  have hb := X.1.2.1
  have hown := X.1.2.2.2.1
  have hts := X.1.2.2.2.2
  have hK := X.2.2.2.2
  have hl : lv_has ls 4 [(0, .ref (a 0)), (1, .int (d))] := hl
  refine lv_iconst (v := (0)) hx hb dX7_countOf_0 (by decide) ?_
  refine lv_istore_n (lv' := [(2, .int (0)), (0, .ref (a 0)), (1, .int (d))]) hx hb dX7_countOf_1 rfl hl (by decide) rfl (fun ls hl => ?_)
  refine lv_iconst (v := (0)) hx hb dX7_countOf_2 (by decide) ?_
  refine lv_istore_n (lv' := [(3, .int (0)), (2, .int (0)), (0, .ref (a 0)), (1, .int (d))]) hx hb dX7_countOf_3 rfl hl (by decide) rfl (fun ls hl => ?_)
  have K4 : ∀ (fuel : Nat) (i : Nat) (x2 : Nat) (H : Heap) (locs : List Loc) (ls : Array Slot), (65 - i) < fuel → (i ≤ 64) → (x2 = cntF (ML 0) (ML 1) d i) → lv_has ls 4 [(3, .int (nI (i))), (2, .int (nI (x2))), (0, .ref (a 0)), (1, .int (d))] → va_P G.1 vwCl ((wM G (a) (n) (cu) (bg) ((coF M)) ((goF M)) (er) (us) (ll) (lm) (lh) (nv) (fr) (tt) (gr) ((hdF2 ML)) (ns) (w) (cs) (cl) (nd) (lo) (ho) (so))) H → va_D vA ((wM G (a) (n) (cu) (bg) ((coF M)) ((goF M)) (er) (us) (ll) (lm) (lh) (nv) (fr) (tt) (gr) ((hdF2 ML)) (ns) (w) (cs) (cl) (nd) (lo) (ho) (so))) → va_S vA vs.heap H locs → W vp lc ve ({ frames := 2, cells := 0, slots := 0, locals := 44 } : Room) vs vm ([.ref (a 0), .int (d)] : List Value).toArray vb vt vc H locs 0 0 (MQ vb (nwQi G (fun r ww => r = nI (cntF (ML 0) (ML 1) d 64) ∧ ww = wM G (a) (n) (cu) (bg) ((coF M)) ((goF M)) (er) (us) (ll) (lm) (lh) (nv) (fr) (tt) (gr) ((hdF2 ML)) (ns) (w) (cs) (cl) (nd) (lo) (ho) (so)) vA) ([.ref (a 0), .int (d)] : List Value).toArray vs ({ frames := 2, cells := 0, slots := 0, locals := 44 } : Room).cells ({ frames := 2, cells := 0, slots := 0, locals := 44 } : Room).slots vA) (F0 vm 4 ls []) := by
    intro fuel
    induction fuel with
    | zero => intro i x2 H locs ls hmu; exact absurd hmu (Nat.not_lt_zero _)
    | succ fuel ih4 =>
      intro i x2 H locs ls hmu hi e2 hl hP hD hS
      refine lv_iload_n hx hb dX7_countOf_4 rfl (lv_at hl 0 rfl) ?_
      refine lv_bipush (v := (64)) hx hb dX7_countOf_5 (by decide) ?_
      refine lv_icmp_ge (tgt := 33) hx hb dX7_countOf_7 (by decide) (fun b7_1 => ?_) (fun b7_1 => ?_)
      · skip
        have b7_1 : (64) ≤ (i) := (nI_leI (a := 64) (b := i) (by omega) (by omega)).mp b7_1
        have b7_1n : ¬ ((i) < (64)) := by omega
        refine lv_iload_n hx hb dX7_countOf_33 rfl (lv_at hl 1 rfl) ?_
        exact nw_iret (rm := ({ frames := 2, cells := 0, slots := 0, locals := 44 } : Room)) X hP hD hS (⟨by rw [e2, show i = 64 by omega], rfl⟩) dX7_countOf_34
      · skip
        have b7_1 : ¬ ((64) ≤ (i)) := fun h => b7_1 ((nI_leI (a := 64) (b := i) (by omega) (by omega)).mpr h)
        have b7_1n : (i) < (64) := by omega
        refine lv_iload_n hx hb dX7_countOf_10 rfl (lv_at hl 1 rfl) ?_
        refine lv_aload_n hx hb dX7_countOf_11 rfl (lv_at hl 2 rfl) ?_
        refine lv_iload_n hx hb dX7_countOf_12 rfl (lv_at hl 0 rfl) ?_
        refine lv_iload_n hx hb dX7_countOf_13 rfl (lv_at hl 3 rfl) ?_
        refine nw_st (st' := [.int (d), .int (nI (i)), .ref (a 0), .int (nI (x2))]) (by rfl) ?_
        refine nw_Vi (As := [.int (nI (i)), .int (d)]) (rest := [.int (nI (x2))]) (q0 := 0) X (c_X7_isBoth lc G (a) (n) (cu) (bg) (M) (er) (us) (ll) (lm) (lh) (nv) (fr) (tt) (gr) (ML) (ns) (w) (cs) (cl) (nd) (lo) (ho) (so) (i) ((d)) (by first | assumption | omega)) (cwV 2 hts gX7_countOf_X7_isBoth rfl rfl rfl (by decide +kernel) ⟨Nat.le_of_ble_eq_true rfl, Nat.le_of_ble_eq_true rfl⟩) rfl (show vwCl[6]? = some (RX7, TX7, 23) from rfl) (nwSp.all ((wM G (a) (n) (cu) (bg) ((coF M)) ((goF M)) (er) (us) (ll) (lm) (lh) (nv) (fr) (tt) (gr) ((hdF2 ML)) (ns) (w) (cs) (cl) (nd) (lo) (ho) (so)))) hP hD hS hA rfl hl.1 rfl (Nat.le_of_ble_eq_true rfl) dX7_countOf_14 ⟨Nat.le_of_ble_eq_true rfl, Nat.le_of_ble_eq_true rfl⟩ (fun r w H locs hp_2 hP hD hS => ?_)
        obtain ⟨⟨rfl, q_3⟩ | ⟨rfl, q_3⟩, rfl⟩ := hp_2
        · skip
          have hP : va_P G.1 vwCl ((wM G (a) (n) (cu) (bg) ((coF M)) ((goF M)) (er) (us) (ll) (lm) (lh) (nv) (fr) (tt) (gr) ((hdF2 ML)) (ns) (w) (cs) (cl) (nd) (lo) (ho) (so))) H := hP
          have hD : va_D vA ((wM G (a) (n) (cu) (bg) ((coF M)) ((goF M)) (er) (us) (ll) (lm) (lh) (nv) (fr) (tt) (gr) ((hdF2 ML)) (ns) (w) (cs) (cl) (nd) (lo) (ho) (so))) := hD
          have q_3 : pairF ((ML) 0) ((ML) 1) (i) ((d)) := q_3
          have q_3 : pairF (ML 0) (ML 1) i d := q_3
          refine lv_if_eq (tgt := 24) hx hb dX7_countOf_17 (by decide) (fun c9 => absurd c9 (by decide)) (fun _ => ?_)
          refine lv_iconst (v := (1)) hx hb dX7_countOf_20 (by decide) ?_
          refine lv_goto (tgt := 25) hx hb dX7_countOf_21 (by decide) ?_
          refine lv_iadd hx hb dX7_countOf_25 ?_
          refine nw_top (y := nI (x2 + 1)) (nI_add (x2) (1)) ?_
          refine lv_istore_n (lv' := [(2, .int (nI (x2 + 1))), (3, .int (nI (i))), (0, .ref (a 0)), (1, .int (d))]) hx hb dX7_countOf_26 rfl hl (by decide) rfl (fun ls hl => ?_)
          refine lv_iinc (v := (nI (i + 1))) (lv' := [(3, .int (nI (i + 1))), (2, .int (nI (x2 + 1))), (0, .ref (a 0)), (1, .int (d))]) hx hb dX7_countOf_27 hl (k := 1) rfl (by exact nI_add (i) 1) (by decide) rfl (fun ls hl => ?_)
          refine lv_goto (tgt := 4) hx hb dX7_countOf_30 (by decide) ?_
          exact ih4 (i + 1) (x2 + 1) _ _ _ (by omega) (by omega) (by rw [cntF_s, ← e2]; simp only [nwIf_T, nwIf_F, or_true, true_or, or_false, false_or, and_true, true_and, and_false, false_and, not_true_eq_false, not_false_eq_true, Nat.add_sub_cancel, Nat.add_zero, b7_1n, b7_1, q_3]) (lv_sub hl [0, 1, 2, 3] rfl) hP hD hS
        · skip
          have hP : va_P G.1 vwCl ((wM G (a) (n) (cu) (bg) ((coF M)) ((goF M)) (er) (us) (ll) (lm) (lh) (nv) (fr) (tt) (gr) ((hdF2 ML)) (ns) (w) (cs) (cl) (nd) (lo) (ho) (so))) H := hP
          have hD : va_D vA ((wM G (a) (n) (cu) (bg) ((coF M)) ((goF M)) (er) (us) (ll) (lm) (lh) (nv) (fr) (tt) (gr) ((hdF2 ML)) (ns) (w) (cs) (cl) (nd) (lo) (ho) (so))) := hD
          have q_3 : ¬ pairF ((ML) 0) ((ML) 1) (i) ((d)) := q_3
          have q_3 : ¬ pairF (ML 0) (ML 1) i d := q_3
          refine lv_if_eq (tgt := 24) hx hb dX7_countOf_17 (by decide) (fun _ => ?_) (fun c9 => absurd (by decide) c9)
          refine lv_iconst (v := (0)) hx hb dX7_countOf_24 (by decide) ?_
          refine lv_iadd hx hb dX7_countOf_25 ?_
          refine nw_top (y := nI (x2 + 0)) (nI_add (x2) (0)) ?_
          refine lv_istore_n (lv' := [(2, .int (nI (x2 + 0))), (3, .int (nI (i))), (0, .ref (a 0)), (1, .int (d))]) hx hb dX7_countOf_26 rfl hl (by decide) rfl (fun ls hl => ?_)
          refine lv_iinc (v := (nI (i + 1))) (lv' := [(3, .int (nI (i + 1))), (2, .int (nI (x2 + 0))), (0, .ref (a 0)), (1, .int (d))]) hx hb dX7_countOf_27 hl (k := 1) rfl (by exact nI_add (i) 1) (by decide) rfl (fun ls hl => ?_)
          refine lv_goto (tgt := 4) hx hb dX7_countOf_30 (by decide) ?_
          exact ih4 (i + 1) (x2 + 0) _ _ _ (by omega) (by omega) (by rw [cntF_s, ← e2]; simp only [nwIf_T, nwIf_F, or_true, true_or, or_false, false_or, and_true, true_and, and_false, false_and, not_true_eq_false, not_false_eq_true, Nat.add_sub_cancel, Nat.add_zero, b7_1n, b7_1, q_3]) (lv_sub hl [0, 1, 2, 3] rfl) hP hD hS
  exact K4 ((65 - (0)) + 1) (0) (0) _ _ _ (Nat.lt_succ_self _) (by omega) (by rfl) (lv_sub hl [0, 1, 2, 3] rfl) hP hD hS
set_option maxHeartbeats 4000000 in
set_option maxRecDepth 100000 in
theorem c_X7_sum (lc : Launch) (G : nwG) (a : Nat → Nat) (n : Nat) (cu bg : Nat → Int32) (M : Nat → Nat → Int32) (er us ll lm lh : Int32) (nv : Nat) (fr tt gr : Nat → Nat) (ML : Nat → Nat → Int32) (ns : Nat) (w : Nat → Nat) (cs cl : Nat → Int32) (nd : Nat) (lo ho : Nat → Int32) (so : Nat → Nat) (d what : Int32)  : nwCi lc G yX7_sum wsX7_sum ({ frames := 3, cells := 0, slots := 0, locals := 67 } : Room) [.ref (a 0), .int (d), .int (what)] ((wM G (a) (n) (cu) (bg) ((coF M)) ((goF M)) (er) (us) (ll) (lm) (lh) (nv) (fr) (tt) (gr) ((hdF2 ML)) (ns) (w) (cs) (cl) (nd) (lo) (ho) (so))) (fun r ww => r = sumPF ML d what ∧ ww = wM G (a) (n) (cu) (bg) ((coF M)) ((goF M)) (er) (us) (ll) (lm) (lh) (nv) (fr) (tt) (gr) ((hdF2 ML)) (ns) (w) (cs) (cl) (nd) (lo) (ho) (so)) := by
  refine nw_of (cc := cX7_sum) (maxL := 3) (ret := (some .int)) (by decide) rfl (Nat.le_of_ble_eq_true rfl) ?_
  intro vp ve vs vm vb vt vc vA ls X hP hD hA hS hl
  have X : nwAt vp vm vc cX7_sum 3 vs _ wsX7_sum RX7 vt (some .int) "sum" G := X
  have hx := X.1.1
  have hb := X.1.2.1
  have hown := X.1.2.2.2.1
  have hts := X.1.2.2.2.2
  have hK := X.2.2.2.2
  have hl : lv_has ls 3 [(0, .ref (a 0)), (1, .int (d)), (2, .int (what))] := hl
  refine lv_iload_n hx hb dX7_sum_0 rfl (lv_at hl 1 rfl) ?_
  refine lv_bipush (v := (-16)) hx hb dX7_sum_1 (by decide) ?_
  refine lv_bipush (v := (16)) hx hb dX7_sum_3 (by decide) ?_
  refine nw_Si (As := [.int (d), .int (-16), .int (16)]) (rest := []) X (c_X7_in lc G ((d)) ((-16 : Int32)) ((16 : Int32)) ) (va_cwS 3 hts gX7_sum_X7_in rfl rfl rfl (by decide +kernel) ⟨Nat.le_of_ble_eq_true rfl, Nat.le_of_ble_eq_true rfl⟩) (fun _ _ h => h.2) hP hD hS hA rfl hl.1 rfl (Nat.le_of_ble_eq_true rfl) dX7_sum_5 ⟨Nat.le_of_ble_eq_true rfl, Nat.le_of_ble_eq_true rfl⟩ (fun r H locs hp_1 hP hD hS => ?_)
  obtain ⟨⟨rfl, q_2⟩ | ⟨rfl, q_2⟩, -⟩ := hp_1
  · skip
    have q_2 : ¬ out ((d)) ((-16 : Int32)) ((16 : Int32)) := q_2
    refine lv_if_eq (tgt := 20) hx hb dX7_sum_8 (by decide) (fun c9 => absurd c9 (by decide)) (fun _ => ?_)
    refine lv_iload_n hx hb dX7_sum_11 rfl (lv_at hl 2 rfl) ?_
    refine lv_iconst (v := (0)) hx hb dX7_sum_12 (by decide) ?_
    refine lv_iconst (v := (1)) hx hb dX7_sum_13 (by decide) ?_
    refine nw_Si (As := [.int (what), .int (0), .int (1)]) (rest := []) X (c_X7_in lc G ((what)) ((0 : Int32)) ((1 : Int32)) ) (va_cwS 3 hts gX7_sum_X7_in rfl rfl rfl (by decide +kernel) ⟨Nat.le_of_ble_eq_true rfl, Nat.le_of_ble_eq_true rfl⟩) (fun _ _ h => h.2) hP hD hS hA rfl hl.1 rfl (Nat.le_of_ble_eq_true rfl) dX7_sum_14 ⟨Nat.le_of_ble_eq_true rfl, Nat.le_of_ble_eq_true rfl⟩ (fun r H locs hp_4 hP hD hS => ?_)
    obtain ⟨⟨rfl, q_5⟩ | ⟨rfl, q_5⟩, -⟩ := hp_4
    · skip
      have q_5 : ¬ out ((what)) ((0 : Int32)) ((1 : Int32)) := q_5
      refine lv_if_ne (tgt := 25) hx hb dX7_sum_17 (by decide) (fun _ => ?_) (fun c9 => absurd c9 (by decide))
      refine lv_iload_n hx hb dX7_sum_25 rfl (lv_at hl 2 rfl) ?_
      refine lv_if_ne (tgt := 37) hx hb dX7_sum_26 (by decide) (fun b26_7 => ?_) (fun b26_7 => ?_)
      · skip
        have b26_7 : ¬ ((what) = (0 : Int32)) := b26_7
        refine lv_aload_n hx hb dX7_sum_37 rfl (lv_at hl 0 rfl) ?_
        refine lv_iload_n hx hb dX7_sum_38 rfl (lv_at hl 1 rfl) ?_
        refine nw_Vi (As := [.int (d)]) (rest := []) (q0 := 0) X (c_X7_countOf lc G (a) (n) (cu) (bg) (M) (er) (us) (ll) (lm) (lh) (nv) (fr) (tt) (gr) (ML) (ns) (w) (cs) (cl) (nd) (lo) (ho) (so) ((d)) ) (cwV 1 hts gX7_sum_X7_countOf rfl rfl rfl (by decide +kernel) ⟨Nat.le_of_ble_eq_true rfl, Nat.le_of_ble_eq_true rfl⟩) rfl (show vwCl[6]? = some (RX7, TX7, 23) from rfl) (nwSp.all ((wM G (a) (n) (cu) (bg) ((coF M)) ((goF M)) (er) (us) (ll) (lm) (lh) (nv) (fr) (tt) (gr) ((hdF2 ML)) (ns) (w) (cs) (cl) (nd) (lo) (ho) (so)))) hP hD hS hA rfl hl.1 rfl (Nat.le_of_ble_eq_true rfl) dX7_sum_39 ⟨Nat.le_of_ble_eq_true rfl, Nat.le_of_ble_eq_true rfl⟩ (fun r w H locs hp_8 hP hD hS => ?_)
        obtain ⟨rfl, rfl⟩ := hp_8
        have hP : va_P G.1 vwCl ((wM G (a) (n) (cu) (bg) ((coF M)) ((goF M)) (er) (us) (ll) (lm) (lh) (nv) (fr) (tt) (gr) ((hdF2 ML)) (ns) (w) (cs) (cl) (nd) (lo) (ho) (so))) H := hP
        have hD : va_D vA ((wM G (a) (n) (cu) (bg) ((coF M)) ((goF M)) (er) (us) (ll) (lm) (lh) (nv) (fr) (tt) (gr) ((hdF2 ML)) (ns) (w) (cs) (cl) (nd) (lo) (ho) (so))) := hD
        exact nw_iret (rm := ({ frames := 3, cells := 0, slots := 0, locals := 67 } : Room)) X hP hD hS (by simp only [sumPF, nwIf_T, nwIf_F, or_true, true_or, or_false, false_or, and_true, true_and, and_false, false_and, not_true_eq_false, not_false_eq_true, Nat.add_sub_cancel, q_2, q_5, b26_7]) dX7_sum_42
      · skip
        have b26_7 : (what) = (0 : Int32) := b26_7
        refine lv_aload_n hx hb dX7_sum_29 rfl (lv_at hl 0 rfl) ?_
        refine lv_iload_n hx hb dX7_sum_30 rfl (lv_at hl 1 rfl) ?_
        refine nw_Vi (As := [.int (d)]) (rest := []) (q0 := 0) X (c_X7_sumOf lc G (a) (n) (cu) (bg) (M) (er) (us) (ll) (lm) (lh) (nv) (fr) (tt) (gr) (ML) (ns) (w) (cs) (cl) (nd) (lo) (ho) (so) ((d)) ) (cwV 1 hts gX7_sum_X7_sumOf rfl rfl rfl (by decide +kernel) ⟨Nat.le_of_ble_eq_true rfl, Nat.le_of_ble_eq_true rfl⟩) rfl (show vwCl[6]? = some (RX7, TX7, 23) from rfl) (nwSp.all ((wM G (a) (n) (cu) (bg) ((coF M)) ((goF M)) (er) (us) (ll) (lm) (lh) (nv) (fr) (tt) (gr) ((hdF2 ML)) (ns) (w) (cs) (cl) (nd) (lo) (ho) (so)))) hP hD hS hA rfl hl.1 rfl (Nat.le_of_ble_eq_true rfl) dX7_sum_31 ⟨Nat.le_of_ble_eq_true rfl, Nat.le_of_ble_eq_true rfl⟩ (fun r w H locs hp_9 hP hD hS => ?_)
        obtain ⟨rfl, rfl⟩ := hp_9
        have hP : va_P G.1 vwCl ((wM G (a) (n) (cu) (bg) ((coF M)) ((goF M)) (er) (us) (ll) (lm) (lh) (nv) (fr) (tt) (gr) ((hdF2 ML)) (ns) (w) (cs) (cl) (nd) (lo) (ho) (so))) H := hP
        have hD : va_D vA ((wM G (a) (n) (cu) (bg) ((coF M)) ((goF M)) (er) (us) (ll) (lm) (lh) (nv) (fr) (tt) (gr) ((hdF2 ML)) (ns) (w) (cs) (cl) (nd) (lo) (ho) (so))) := hD
        refine lv_goto (tgt := 42) hx hb dX7_sum_34 (by decide) ?_
        exact nw_iret (rm := ({ frames := 3, cells := 0, slots := 0, locals := 67 } : Room)) X hP hD hS (by simp only [sumPF, nwIf_T, nwIf_F, or_true, true_or, or_false, false_or, and_true, true_and, and_false, false_and, not_true_eq_false, not_false_eq_true, Nat.add_sub_cancel, q_2, q_5, eq_true b26_7]) dX7_sum_42
    · skip
      have q_5 : out ((what)) ((0 : Int32)) ((1 : Int32)) := q_5
      refine lv_if_ne (tgt := 25) hx hb dX7_sum_17 (by decide) (fun c9 => absurd c9 (by decide)) (fun _ => ?_)
      refine lv_ldc (own := RX7) (v := (-2000000000)) hx hb hown (hts (.constant RX7 92 (-2000000000)) (List.mem_of_getElem? (i := 1) rfl)) dX7_sum_20 ?_
      refine lv_goto (tgt := 42) hx hb dX7_sum_22 (by decide) ?_
      exact nw_iret (rm := ({ frames := 3, cells := 0, slots := 0, locals := 67 } : Room)) X hP hD hS (by simp only [sumPF, nwIf_T, nwIf_F, or_true, true_or, or_false, false_or, and_true, true_and, and_false, false_and, not_true_eq_false, not_false_eq_true, Nat.add_sub_cancel, q_2, q_5]) dX7_sum_42
  · skip
    have q_2 : out ((d)) ((-16 : Int32)) ((16 : Int32)) := q_2
    refine lv_if_eq (tgt := 20) hx hb dX7_sum_8 (by decide) (fun _ => ?_) (fun c9 => absurd (by decide) c9)
    refine lv_ldc (own := RX7) (v := (-2000000000)) hx hb hown (hts (.constant RX7 92 (-2000000000)) (List.mem_of_getElem? (i := 1) rfl)) dX7_sum_20 ?_
    refine lv_goto (tgt := 42) hx hb dX7_sum_22 (by decide) ?_
    exact nw_iret (rm := ({ frames := 3, cells := 0, slots := 0, locals := 67 } : Room)) X hP hD hS (by simp only [sumPF, nwIf_T, nwIf_F, or_true, true_or, or_false, false_or, and_true, true_and, and_false, false_and, not_true_eq_false, not_false_eq_true, Nat.add_sub_cancel, q_2]) dX7_sum_42
set_option maxHeartbeats 4000000 in
set_option maxRecDepth 100000 in
theorem c_X7_delayBut (lc : Launch) (G : nwG) (a : Nat → Nat) (n : Nat) (cu bg : Nat → Int32) (M : Nat → Nat → Int32) (er us ll lm lh : Int32) (nv : Nat) (fr tt gr : Nat → Nat) (ML : Nat → Nat → Int32) (ns : Nat) (w : Nat → Nat) (cs cl : Nat → Int32) (nd : Nat) (lo ho : Nat → Int32) (so : Nat → Nat) (c : Int32)  : nwCi lc G yX7_delayBut wsX7_delayBut ({ frames := 3, cells := 0, slots := 0, locals := 67 } : Room) [.ref (a 0), .int (c)] ((wM G (a) (n) (cu) (bg) ((coF M)) ((goF M)) (er) (us) (ll) (lm) (lh) (nv) (fr) (tt) (gr) ((hdF2 ML)) (ns) (w) (cs) (cl) (nd) (lo) (ho) (so))) (fun r ww => r = bestG (ML 0) (ML 1) c ∧ ww = wM G (a) (n) (cu) (bg) ((coF M)) ((goF M)) (er) (us) (ll) (lm) (lh) (nv) (fr) (tt) (gr) ((hdF2 ML)) (ns) (w) (cs) (cl) (nd) (lo) (ho) (so)) := by
  refine nw_of (cc := cX7_delayBut) (maxL := 15) (ret := (some .int)) (by decide) rfl (Nat.le_of_ble_eq_true rfl) ?_
  intro vp ve vs vm vb vt vc vA ls X hP hD hA hS hl
  have X : nwAt vp vm vc cX7_delayBut 15 vs _ wsX7_delayBut RX7 vt (some .int) "delayBut" G := X
  have hx := X.1.1
  have hb := X.1.2.1
  have hown := X.1.2.2.2.1
  have hts := X.1.2.2.2.2
  have hK := X.2.2.2.2
  have hl : lv_has ls 15 [(0, .ref (a 0)), (1, .int (c))] := hl
  refine lv_bipush (v := (-101)) hx hb dX7_delayBut_0 (by decide) ?_
  refine lv_istore_n (lv' := [(2, .int (-101)), (0, .ref (a 0)), (1, .int (c))]) hx hb dX7_delayBut_2 rfl hl (by decide) rfl (fun ls hl => ?_)
  refine lv_lconst (v := 0) hx hb dX7_delayBut_3 (by decide) ?_
  refine lv_lstore_n (lv' := [(3, .long (0)), (2, .int (-101)), (0, .ref (a 0)), (1, .int (c))]) hx hb dX7_delayBut_4 rfl hl (by decide) rfl (fun ls hl => ?_)
  refine lv_lconst (v := 1) hx hb dX7_delayBut_5 (by decide) ?_
  refine lv_lstore (lv' := [(5, .long (1)), (3, .long (0)), (2, .int (-101)), (0, .ref (a 0)), (1, .int (c))]) hx hb dX7_delayBut_6 hl (by decide) rfl (fun ls hl => ?_)
  refine lv_iconst (v := (0)) hx hb dX7_delayBut_8 (by decide) ?_
  refine lv_istore (lv' := [(7, .int (0)), (5, .long (1)), (3, .long (0)), (2, .int (-101)), (0, .ref (a 0)), (1, .int (c))]) hx hb dX7_delayBut_9 hl (by decide) rfl (fun ls hl => ?_)
  have K11 : ∀ (fuel : Nat) (sz : Nat) (x2 : Int32) (x3 : Int64) (x5 : Int64) (H : Heap) (locs : List Loc) (ls : Array Slot), (18 - sz) < fuel → (sz ≤ 17) → (mseq (ML 0) (ML 1) (nearG c) sz = (x2, x3, x5)) → lv_has ls 15 [(7, .int (nI (sz))), (5, .long (x5)), (3, .long (x3)), (2, .int (x2)), (0, .ref (a 0)), (1, .int (c))] → va_P G.1 vwCl ((wM G (a) (n) (cu) (bg) ((coF M)) ((goF M)) (er) (us) (ll) (lm) (lh) (nv) (fr) (tt) (gr) ((hdF2 ML)) (ns) (w) (cs) (cl) (nd) (lo) (ho) (so))) H → va_D vA ((wM G (a) (n) (cu) (bg) ((coF M)) ((goF M)) (er) (us) (ll) (lm) (lh) (nv) (fr) (tt) (gr) ((hdF2 ML)) (ns) (w) (cs) (cl) (nd) (lo) (ho) (so))) → va_S vA vs.heap H locs → W vp lc ve ({ frames := 3, cells := 0, slots := 0, locals := 67 } : Room) vs vm ([.ref (a 0), .int (c)] : List Value).toArray vb vt vc H locs 0 0 (MQ vb (nwQi G (fun r ww => r = bestG (ML 0) (ML 1) c ∧ ww = wM G (a) (n) (cu) (bg) ((coF M)) ((goF M)) (er) (us) (ll) (lm) (lh) (nv) (fr) (tt) (gr) ((hdF2 ML)) (ns) (w) (cs) (cl) (nd) (lo) (ho) (so)) vA) ([.ref (a 0), .int (c)] : List Value).toArray vs ({ frames := 3, cells := 0, slots := 0, locals := 67 } : Room).cells ({ frames := 3, cells := 0, slots := 0, locals := 67 } : Room).slots vA) (F0 vm 11 ls []) := by
    intro fuel
    induction fuel with
    | zero => intro sz x2 x3 x5 H locs ls hmu; exact absurd hmu (Nat.not_lt_zero _)
    | succ fuel ih11 =>
      intro sz x2 x3 x5 H locs ls hmu hsz es hl hP hD hS
      refine lv_iload hx hb dX7_delayBut_11 (lv_at hl 0 rfl) ?_
      refine lv_bipush (v := (16)) hx hb dX7_delayBut_13 (by decide) ?_
      refine lv_icmp_gt (tgt := 118) hx hb dX7_delayBut_15 (by decide) (fun b15_1 => ?_) (fun b15_1 => ?_)
      · skip
        have b15_1 : (16) < (sz) := (nI_ltI (a := 16) (b := sz) (by omega) (by omega)).mp b15_1
        have b15_1n : ¬ ((sz) ≤ (16)) := by omega
        refine lv_iload_n hx hb dX7_delayBut_118 rfl (lv_at hl 3 rfl) ?_
        exact nw_iret (rm := ({ frames := 3, cells := 0, slots := 0, locals := 67 } : Room)) X hP hD hS (⟨(by have h9 := bestG_eq (x := (x2, x3, x5)) (by rw [← es, show sz = 17 by omega]); exact h9), rfl⟩) dX7_delayBut_119
      · skip
        have b15_1 : ¬ ((16) < (sz)) := fun h => b15_1 ((nI_ltI (a := 16) (b := sz) (by omega) (by omega)).mpr h)
        have b15_1n : (sz) ≤ (16) := by omega
        refine lv_iconst (v := (-1)) hx hb dX7_delayBut_18 (by decide) ?_
        refine lv_istore (lv' := [(8, .int (-1)), (7, .int (nI (sz))), (5, .long (x5)), (3, .long (x3)), (2, .int (x2)), (0, .ref (a 0)), (1, .int (c))]) hx hb dX7_delayBut_19 hl (by decide) rfl (fun ls hl => ?_)
        have K21 : ∀ (fuel : Nat) (t : Nat) (x8 : Int32) (y2 : Int32) (y3 : Int64) (y5 : Int64) (H : Heap) (locs : List Loc) (ls : Array Slot), (3 - t) < fuel → (t ≤ 2) → (x8 = sdv t) → (mid (ML 0) (ML 1) (nearG c) sz t = (y2, y3, y5)) → lv_has ls 15 [(8, .int (x8)), (7, .int (nI (sz))), (5, .long (y5)), (3, .long (y3)), (2, .int (y2)), (0, .ref (a 0)), (1, .int (c))] → va_P G.1 vwCl ((wM G (a) (n) (cu) (bg) ((coF M)) ((goF M)) (er) (us) (ll) (lm) (lh) (nv) (fr) (tt) (gr) ((hdF2 ML)) (ns) (w) (cs) (cl) (nd) (lo) (ho) (so))) H → va_D vA ((wM G (a) (n) (cu) (bg) ((coF M)) ((goF M)) (er) (us) (ll) (lm) (lh) (nv) (fr) (tt) (gr) ((hdF2 ML)) (ns) (w) (cs) (cl) (nd) (lo) (ho) (so))) → va_S vA vs.heap H locs → W vp lc ve ({ frames := 3, cells := 0, slots := 0, locals := 67 } : Room) vs vm ([.ref (a 0), .int (c)] : List Value).toArray vb vt vc H locs 0 0 (MQ vb (nwQi G (fun r ww => r = bestG (ML 0) (ML 1) c ∧ ww = wM G (a) (n) (cu) (bg) ((coF M)) ((goF M)) (er) (us) (ll) (lm) (lh) (nv) (fr) (tt) (gr) ((hdF2 ML)) (ns) (w) (cs) (cl) (nd) (lo) (ho) (so)) vA) ([.ref (a 0), .int (c)] : List Value).toArray vs ({ frames := 3, cells := 0, slots := 0, locals := 67 } : Room).cells ({ frames := 3, cells := 0, slots := 0, locals := 67 } : Room).slots vA) (F0 vm 21 ls []) := by
          intro fuel
          induction fuel with
          | zero => intro t x8 y2 y3 y5 H locs ls hmu; exact absurd hmu (Nat.not_lt_zero _)
          | succ fuel ih21 =>
            intro t x8 y2 y3 y5 H locs ls hmu ht ex fs hl hP hD hS
            refine lv_iload hx hb dX7_delayBut_21 (lv_at hl 0 rfl) ?_
            refine lv_iconst (v := (2)) hx hb dX7_delayBut_23 (by decide) ?_
            refine lv_icmp_ge (tgt := 112) hx hb dX7_delayBut_24 (by decide) (fun b24_2 => ?_) (fun b24_2 => ?_)
            · skip
              have b24_2 : (2 : Int32) ≤ (x8) := b24_2
              have b24_2n : ¬ ((x8) < (2 : Int32)) := Int32.not_lt.mpr b24_2
              have ft2 : t = 2 := sdv_2 ht ex b24_2
              refine lv_iinc (v := (nI (sz + 1))) (lv' := [(7, .int (nI (sz + 1))), (8, .int (x8)), (5, .long (y5)), (3, .long (y3)), (2, .int (y2)), (0, .ref (a 0)), (1, .int (c))]) hx hb dX7_delayBut_112 hl (k := 1) rfl (by exact nI_add (sz) 1) (by decide) rfl (fun ls hl => ?_)
              refine lv_goto (tgt := 11) hx hb dX7_delayBut_115 (by decide) ?_
              exact ih11 (sz + 1) ((y2)) ((y3)) ((y5)) _ _ _ (by omega) (by omega) (by rw [mseq_s, ← ft2]; exact fs) (lv_sub hl [0, 2, 3, 4, 5, 6] rfl) hP hD hS
            · skip
              have b24_2 : ¬ ((2 : Int32) ≤ (x8)) := b24_2
              have b24_2n : (x8) < (2 : Int32) := Int32.not_le.mp b24_2
              have htl : t < 2 := sdv_l ht ex b24_2
              refine lv_iload hx hb dX7_delayBut_27 (lv_at hl 1 rfl) ?_
              refine lv_iload hx hb dX7_delayBut_29 (lv_at hl 0 rfl) ?_
              refine lv_imul hx hb dX7_delayBut_31 ?_
              obtain ⟨d, hd⟩ : ∃ y : Int32, y = nI sz * x8 := ⟨_, rfl⟩
              refine nw_top (y := d) hd.symm ?_
              refine lv_istore (lv' := [(9, .int (d)), (8, .int (x8)), (7, .int (nI (sz))), (5, .long (y5)), (3, .long (y3)), (2, .int (y2)), (0, .ref (a 0)), (1, .int (c))]) hx hb dX7_delayBut_32 hl (by decide) rfl (fun ls hl => ?_)
              refine lv_iload hx hb dX7_delayBut_34 (lv_at hl 0 rfl) ?_
              refine lv_iload_n hx hb dX7_delayBut_36 rfl (lv_at hl 7 rfl) ?_
              refine lv_isub hx hb dX7_delayBut_37 ?_
              refine lv_istore (lv' := [(10, .int ((d) - (c))), (9, .int (d)), (8, .int (x8)), (7, .int (nI (sz))), (5, .long (y5)), (3, .long (y3)), (2, .int (y2)), (0, .ref (a 0)), (1, .int (c))]) hx hb dX7_delayBut_38 hl (by decide) rfl (fun ls hl => ?_)
              refine lv_iload hx hb dX7_delayBut_40 (lv_at hl 0 rfl) ?_
              refine lv_iconst (v := (-1)) hx hb dX7_delayBut_42 (by decide) ?_
              refine lv_iconst (v := (1)) hx hb dX7_delayBut_43 (by decide) ?_
              refine nw_Si (As := [.int ((d) - (c)), .int (-1), .int (1)]) (rest := []) X (c_X7_in lc G (((d) - (c))) ((-1 : Int32)) ((1 : Int32)) ) (va_cwS 3 hts gX7_delayBut_X7_in rfl rfl rfl (by decide +kernel) ⟨Nat.le_of_ble_eq_true rfl, Nat.le_of_ble_eq_true rfl⟩) (fun _ _ h => h.2) hP hD hS hA rfl hl.1 rfl (Nat.le_of_ble_eq_true rfl) dX7_delayBut_44 ⟨Nat.le_of_ble_eq_true rfl, Nat.le_of_ble_eq_true rfl⟩ (fun r H locs hp_3 hP hD hS => ?_)
              obtain ⟨⟨rfl, q_4⟩ | ⟨rfl, q_4⟩, -⟩ := hp_3
              · skip
                have q_4 : ¬ out (((d) - (c))) ((-1 : Int32)) ((1 : Int32)) := q_4
                have hnear : nearG c d := q_4
                refine lv_if_ne (tgt := 106) hx hb dX7_delayBut_47 (by decide) (fun _ => ?_) (fun c9 => absurd c9 (by decide))
                refine lv_iinc (v := ((x8) + (2))) (lv' := [(8, .int ((x8) + (2))), (10, .int ((d) - (c))), (9, .int (d)), (7, .int (nI (sz))), (5, .long (y5)), (3, .long (y3)), (2, .int (y2)), (0, .ref (a 0)), (1, .int (c))]) hx hb dX7_delayBut_106 hl (k := 2) rfl rfl (by decide) rfl (fun ls hl => ?_)
                refine lv_goto (tgt := 21) hx hb dX7_delayBut_109 (by decide) ?_
                exact ih21 (t + 1) (((x8) + (2))) ((y2)) ((y3)) ((y5)) _ _ _ (by omega) (by omega) (by rw [ex]; exact sdv_s htl) (by rw [mid_s, fs, dM_eq htl ex, ← hd]; simp only [dst, nwIf_T, nwIf_F, or_true, true_or, or_false, false_or, and_true, true_and, and_false, false_and, not_true_eq_false, not_false_eq_true, Nat.add_sub_cancel, b15_1n, b15_1, b24_2n, b24_2, q_4, hnear]) (lv_sub hl [0, 3, 4, 5, 6, 7, 8] rfl) hP hD hS
              · skip
                have q_4 : out (((d) - (c))) ((-1 : Int32)) ((1 : Int32)) := q_4
                have hnear : ¬ nearG c d := fun h => h q_4
                refine lv_if_ne (tgt := 106) hx hb dX7_delayBut_47 (by decide) (fun c9 => absurd c9 (by decide)) (fun _ => ?_)
                refine lv_aload_n hx hb dX7_delayBut_50 rfl (lv_at hl 7 rfl) ?_
                refine lv_iload hx hb dX7_delayBut_51 (lv_at hl 1 rfl) ?_
                refine nw_Vi (As := [.int (d)]) (rest := []) (q0 := 0) X (c_X7_countOf lc G (a) (n) (cu) (bg) (M) (er) (us) (ll) (lm) (lh) (nv) (fr) (tt) (gr) (ML) (ns) (w) (cs) (cl) (nd) (lo) (ho) (so) ((d)) ) (cwV 1 hts gX7_delayBut_X7_countOf rfl rfl rfl (by decide +kernel) ⟨Nat.le_of_ble_eq_true rfl, Nat.le_of_ble_eq_true rfl⟩) rfl (show vwCl[6]? = some (RX7, TX7, 23) from rfl) (nwSp.all ((wM G (a) (n) (cu) (bg) ((coF M)) ((goF M)) (er) (us) (ll) (lm) (lh) (nv) (fr) (tt) (gr) ((hdF2 ML)) (ns) (w) (cs) (cl) (nd) (lo) (ho) (so)))) hP hD hS hA rfl hl.1 rfl (Nat.le_of_ble_eq_true rfl) dX7_delayBut_53 ⟨Nat.le_of_ble_eq_true rfl, Nat.le_of_ble_eq_true rfl⟩ (fun r w H locs hp_7 hP hD hS => ?_)
                obtain ⟨rfl, rfl⟩ := hp_7
                have hP : va_P G.1 vwCl ((wM G (a) (n) (cu) (bg) ((coF M)) ((goF M)) (er) (us) (ll) (lm) (lh) (nv) (fr) (tt) (gr) ((hdF2 ML)) (ns) (w) (cs) (cl) (nd) (lo) (ho) (so))) H := hP
                have hD : va_D vA ((wM G (a) (n) (cu) (bg) ((coF M)) ((goF M)) (er) (us) (ll) (lm) (lh) (nv) (fr) (tt) (gr) ((hdF2 ML)) (ns) (w) (cs) (cl) (nd) (lo) (ho) (so))) := hD
                have hcb := cntF_le (f := ML 0) (g := ML 1) (d := d) 64
                refine lv_if_le (tgt := 106) hx hb dX7_delayBut_56 (by decide) (fun b56_8 => ?_) (fun b56_8 => ?_)
                · skip
                  have b56_8 : (cntF ((ML) 0) ((ML) 1) ((d)) 64) ≤ (0) := (nI_leI (a := cntF ((ML) 0) ((ML) 1) ((d)) 64) (b := 0) (by omega) (by omega)).mp b56_8
                  have b56_8n : ¬ ((0) < (cntF ((ML) 0) ((ML) 1) ((d)) 64)) := by omega
                  refine lv_iinc (v := ((x8) + (2))) (lv' := [(8, .int ((x8) + (2))), (10, .int ((d) - (c))), (9, .int (d)), (7, .int (nI (sz))), (5, .long (y5)), (3, .long (y3)), (2, .int (y2)), (0, .ref (a 0)), (1, .int (c))]) hx hb dX7_delayBut_106 hl (k := 2) rfl rfl (by decide) rfl (fun ls hl => ?_)
                  refine lv_goto (tgt := 21) hx hb dX7_delayBut_109 (by decide) ?_
                  exact ih21 (t + 1) (((x8) + (2))) ((y2)) ((y3)) ((y5)) _ _ _ (by omega) (by omega) (by rw [ex]; exact sdv_s htl) (by rw [mid_s, fs, dM_eq htl ex, ← hd]; simp only [dst, nwIf_T, nwIf_F, or_true, true_or, or_false, false_or, and_true, true_and, and_false, false_and, not_true_eq_false, not_false_eq_true, Nat.add_sub_cancel, b15_1n, b15_1, b24_2n, b24_2, q_4, hnear, b56_8n, b56_8]) (lv_sub hl [0, 3, 4, 5, 6, 7, 8] rfl) hP hD hS
                · skip
                  have b56_8 : ¬ ((cntF ((ML) 0) ((ML) 1) ((d)) 64) ≤ (0)) := fun h => b56_8 ((nI_leI (a := cntF ((ML) 0) ((ML) 1) ((d)) 64) (b := 0) (by omega) (by omega)).mpr h)
                  have b56_8n : (0) < (cntF ((ML) 0) ((ML) 1) ((d)) 64) := by omega
                  refine lv_aload_n hx hb dX7_delayBut_59 rfl (lv_at hl 7 rfl) ?_
                  refine lv_iload hx hb dX7_delayBut_60 (lv_at hl 1 rfl) ?_
                  refine nw_Vi (As := [.int (d)]) (rest := []) (q0 := 0) X (c_X7_sumOf lc G (a) (n) (cu) (bg) (M) (er) (us) (ll) (lm) (lh) (nv) (fr) (tt) (gr) (ML) (ns) (w) (cs) (cl) (nd) (lo) (ho) (so) ((d)) ) (cwV 1 hts gX7_delayBut_X7_sumOf rfl rfl rfl (by decide +kernel) ⟨Nat.le_of_ble_eq_true rfl, Nat.le_of_ble_eq_true rfl⟩) rfl (show vwCl[6]? = some (RX7, TX7, 23) from rfl) (nwSp.all ((wM G (a) (n) (cu) (bg) ((coF M)) ((goF M)) (er) (us) (ll) (lm) (lh) (nv) (fr) (tt) (gr) ((hdF2 ML)) (ns) (w) (cs) (cl) (nd) (lo) (ho) (so)))) hP hD hS hA rfl hl.1 rfl (Nat.le_of_ble_eq_true rfl) dX7_delayBut_62 ⟨Nat.le_of_ble_eq_true rfl, Nat.le_of_ble_eq_true rfl⟩ (fun r w H locs hp_9 hP hD hS => ?_)
                  obtain ⟨rfl, rfl⟩ := hp_9
                  have hP : va_P G.1 vwCl ((wM G (a) (n) (cu) (bg) ((coF M)) ((goF M)) (er) (us) (ll) (lm) (lh) (nv) (fr) (tt) (gr) ((hdF2 ML)) (ns) (w) (cs) (cl) (nd) (lo) (ho) (so))) H := hP
                  have hD : va_D vA ((wM G (a) (n) (cu) (bg) ((coF M)) ((goF M)) (er) (us) (ll) (lm) (lh) (nv) (fr) (tt) (gr) ((hdF2 ML)) (ns) (w) (cs) (cl) (nd) (lo) (ho) (so))) := hD
                  refine lv_i2l (v := (sumF ((ML) 0) ((ML) 1) ((d)) 64).toInt64) hx hb dX7_delayBut_65 rfl ?_
                  refine lv_lstore (lv' := [(11, .long ((sumF ((ML) 0) ((ML) 1) ((d)) 64).toInt64)), (10, .int ((d) - (c))), (9, .int (d)), (8, .int (x8)), (7, .int (nI (sz))), (5, .long (y5)), (3, .long (y3)), (2, .int (y2)), (0, .ref (a 0)), (1, .int (c))]) hx hb dX7_delayBut_66 hl (by decide) rfl (fun ls hl => ?_)
                  refine lv_aload_n hx hb dX7_delayBut_68 rfl (lv_at hl 8 rfl) ?_
                  refine lv_iload hx hb dX7_delayBut_69 (lv_at hl 2 rfl) ?_
                  refine nw_Vi (As := [.int (d)]) (rest := []) (q0 := 0) X (c_X7_countOf lc G (a) (n) (cu) (bg) (M) (er) (us) (ll) (lm) (lh) (nv) (fr) (tt) (gr) (ML) (ns) (w) (cs) (cl) (nd) (lo) (ho) (so) ((d)) ) (cwV 1 hts gX7_delayBut_X7_countOf rfl rfl rfl (by decide +kernel) ⟨Nat.le_of_ble_eq_true rfl, Nat.le_of_ble_eq_true rfl⟩) rfl (show vwCl[6]? = some (RX7, TX7, 23) from rfl) (nwSp.all ((wM G (a) (n) (cu) (bg) ((coF M)) ((goF M)) (er) (us) (ll) (lm) (lh) (nv) (fr) (tt) (gr) ((hdF2 ML)) (ns) (w) (cs) (cl) (nd) (lo) (ho) (so)))) hP hD hS hA rfl hl.1 rfl (Nat.le_of_ble_eq_true rfl) dX7_delayBut_71 ⟨Nat.le_of_ble_eq_true rfl, Nat.le_of_ble_eq_true rfl⟩ (fun r w H locs hp_10 hP hD hS => ?_)
                  obtain ⟨rfl, rfl⟩ := hp_10
                  have hP : va_P G.1 vwCl ((wM G (a) (n) (cu) (bg) ((coF M)) ((goF M)) (er) (us) (ll) (lm) (lh) (nv) (fr) (tt) (gr) ((hdF2 ML)) (ns) (w) (cs) (cl) (nd) (lo) (ho) (so))) H := hP
                  have hD : va_D vA ((wM G (a) (n) (cu) (bg) ((coF M)) ((goF M)) (er) (us) (ll) (lm) (lh) (nv) (fr) (tt) (gr) ((hdF2 ML)) (ns) (w) (cs) (cl) (nd) (lo) (ho) (so))) := hD
                  refine lv_i2l (v := (nI (cntF ((ML) 0) ((ML) 1) ((d)) 64)).toInt64) hx hb dX7_delayBut_74 rfl ?_
                  refine lv_lstore (lv' := [(13, .long ((nI (cntF ((ML) 0) ((ML) 1) ((d)) 64)).toInt64)), (11, .long ((sumF ((ML) 0) ((ML) 1) ((d)) 64).toInt64)), (10, .int ((d) - (c))), (9, .int (d)), (8, .int (x8)), (7, .int (nI (sz))), (5, .long (y5)), (3, .long (y3)), (2, .int (y2)), (0, .ref (a 0)), (1, .int (c))]) hx hb dX7_delayBut_75 hl (by decide) rfl (fun ls hl => ?_)
                  refine lv_iload_n hx hb dX7_delayBut_77 rfl (lv_at hl 8 rfl) ?_
                  refine lv_bipush (v := (-101)) hx hb dX7_delayBut_78 (by decide) ?_
                  refine lv_icmp_eq (tgt := 96) hx hb dX7_delayBut_80 (by decide) (fun b80_11 => ?_) (fun b80_11 => ?_)
                  · skip
                    have b80_11 : (y2) = (-101 : Int32) := b80_11
                    refine lv_iload hx hb dX7_delayBut_96 (lv_at hl 3 rfl) ?_
                    refine lv_istore_n (lv' := [(2, .int (d)), (13, .long ((nI (cntF ((ML) 0) ((ML) 1) ((d)) 64)).toInt64)), (11, .long ((sumF ((ML) 0) ((ML) 1) ((d)) 64).toInt64)), (10, .int ((d) - (c))), (9, .int (d)), (8, .int (x8)), (7, .int (nI (sz))), (5, .long (y5)), (3, .long (y3)), (0, .ref (a 0)), (1, .int (c))]) hx hb dX7_delayBut_98 rfl hl (by decide) rfl (fun ls hl => ?_)
                    refine lv_lload hx hb dX7_delayBut_99 (lv_at hl 2 rfl) ?_
                    refine lv_lstore_n (lv' := [(3, .long ((sumF ((ML) 0) ((ML) 1) ((d)) 64).toInt64)), (2, .int (d)), (13, .long ((nI (cntF ((ML) 0) ((ML) 1) ((d)) 64)).toInt64)), (11, .long ((sumF ((ML) 0) ((ML) 1) ((d)) 64).toInt64)), (10, .int ((d) - (c))), (9, .int (d)), (8, .int (x8)), (7, .int (nI (sz))), (5, .long (y5)), (0, .ref (a 0)), (1, .int (c))]) hx hb dX7_delayBut_101 rfl hl (by decide) rfl (fun ls hl => ?_)
                    refine lv_lload hx hb dX7_delayBut_102 (lv_at hl 2 rfl) ?_
                    refine lv_lstore (lv' := [(5, .long ((nI (cntF ((ML) 0) ((ML) 1) ((d)) 64)).toInt64)), (3, .long ((sumF ((ML) 0) ((ML) 1) ((d)) 64).toInt64)), (2, .int (d)), (13, .long ((nI (cntF ((ML) 0) ((ML) 1) ((d)) 64)).toInt64)), (11, .long ((sumF ((ML) 0) ((ML) 1) ((d)) 64).toInt64)), (10, .int ((d) - (c))), (9, .int (d)), (8, .int (x8)), (7, .int (nI (sz))), (0, .ref (a 0)), (1, .int (c))]) hx hb dX7_delayBut_104 hl (by decide) rfl (fun ls hl => ?_)
                    refine lv_iinc (v := ((x8) + (2))) (lv' := [(8, .int ((x8) + (2))), (5, .long ((nI (cntF ((ML) 0) ((ML) 1) ((d)) 64)).toInt64)), (3, .long ((sumF ((ML) 0) ((ML) 1) ((d)) 64).toInt64)), (2, .int (d)), (13, .long ((nI (cntF ((ML) 0) ((ML) 1) ((d)) 64)).toInt64)), (11, .long ((sumF ((ML) 0) ((ML) 1) ((d)) 64).toInt64)), (10, .int ((d) - (c))), (9, .int (d)), (7, .int (nI (sz))), (0, .ref (a 0)), (1, .int (c))]) hx hb dX7_delayBut_106 hl (k := 7) rfl rfl (by decide) rfl (fun ls hl => ?_)
                    refine lv_goto (tgt := 21) hx hb dX7_delayBut_109 (by decide) ?_
                    exact ih21 (t + 1) (((x8) + (2))) ((d)) (((sumF ((ML) 0) ((ML) 1) ((d)) 64).toInt64)) (((nI (cntF ((ML) 0) ((ML) 1) ((d)) 64)).toInt64)) _ _ _ (by omega) (by omega) (by rw [ex]; exact sdv_s htl) (by rw [mid_s, fs, dM_eq htl ex, ← hd]; simp only [dst, nwIf_T, nwIf_F, or_true, true_or, or_false, false_or, and_true, true_and, and_false, false_and, not_true_eq_false, not_false_eq_true, Nat.add_sub_cancel, b15_1n, b15_1, b24_2n, b24_2, q_4, hnear, b56_8n, b56_8, eq_true b80_11]) (lv_sub hl [0, 8, 1, 2, 3, 9, 10] rfl) hP hD hS
                  · skip
                    have b80_11 : ¬ ((y2) = (-101 : Int32)) := b80_11
                    refine lv_lload hx hb dX7_delayBut_83 (lv_at hl 1 rfl) ?_
                    refine lv_lload hx hb dX7_delayBut_85 (lv_at hl 6 rfl) ?_
                    refine lv_lmul hx hb dX7_delayBut_87 ?_
                    refine lv_lload_n hx hb dX7_delayBut_88 rfl (lv_at hl 7 rfl) ?_
                    refine lv_lload hx hb dX7_delayBut_89 (lv_at hl 0 rfl) ?_
                    refine lv_lmul hx hb dX7_delayBut_91 ?_
                    refine W.lcmp hx hb dX7_delayBut_92 ?_
                    refine lv_if_le (tgt := 106) hx hb dX7_delayBut_93 (by decide) (fun b93_12 => ?_) (fun b93_12 => ?_)
                    · skip
                      have b93_12 : (((sumF ((ML) 0) ((ML) 1) ((d)) 64).toInt64) * (y5)) ≤ ((y3) * ((nI (cntF ((ML) 0) ((ML) 1) ((d)) 64)).toInt64)) := (lg_cmp_le _ _).mp b93_12
                      have hlt : ¬ y3 * (nI (cntF (ML 0) (ML 1) d 64)).toInt64 < (sumF (ML 0) (ML 1) d 64).toInt64 * y5 := Int64.not_lt.mpr b93_12
                      refine lv_iinc (v := ((x8) + (2))) (lv' := [(8, .int ((x8) + (2))), (13, .long ((nI (cntF ((ML) 0) ((ML) 1) ((d)) 64)).toInt64)), (11, .long ((sumF ((ML) 0) ((ML) 1) ((d)) 64).toInt64)), (10, .int ((d) - (c))), (9, .int (d)), (7, .int (nI (sz))), (5, .long (y5)), (3, .long (y3)), (2, .int (y2)), (0, .ref (a 0)), (1, .int (c))]) hx hb dX7_delayBut_106 hl (k := 4) rfl rfl (by decide) rfl (fun ls hl => ?_)
                      refine lv_goto (tgt := 21) hx hb dX7_delayBut_109 (by decide) ?_
                      exact ih21 (t + 1) (((x8) + (2))) ((y2)) ((y3)) ((y5)) _ _ _ (by omega) (by omega) (by rw [ex]; exact sdv_s htl) (by rw [mid_s, fs, dM_eq htl ex, ← hd]; simp only [dst, nwIf_T, nwIf_F, or_true, true_or, or_false, false_or, and_true, true_and, and_false, false_and, not_true_eq_false, not_false_eq_true, Nat.add_sub_cancel, b15_1n, b15_1, b24_2n, b24_2, q_4, hnear, b56_8n, b56_8, b80_11, b93_12, b93_12, hlt]) (lv_sub hl [0, 5, 6, 7, 8, 9, 10] rfl) hP hD hS
                    · skip
                      have b93_12 : ¬ ((((sumF ((ML) 0) ((ML) 1) ((d)) 64).toInt64) * (y5)) ≤ ((y3) * ((nI (cntF ((ML) 0) ((ML) 1) ((d)) 64)).toInt64))) := fun h => b93_12 ((lg_cmp_le _ _).mpr h)
                      have hlt : y3 * (nI (cntF (ML 0) (ML 1) d 64)).toInt64 < (sumF (ML 0) (ML 1) d 64).toInt64 * y5 := Int64.not_le.mp b93_12
                      refine lv_iload hx hb dX7_delayBut_96 (lv_at hl 3 rfl) ?_
                      refine lv_istore_n (lv' := [(2, .int (d)), (13, .long ((nI (cntF ((ML) 0) ((ML) 1) ((d)) 64)).toInt64)), (11, .long ((sumF ((ML) 0) ((ML) 1) ((d)) 64).toInt64)), (10, .int ((d) - (c))), (9, .int (d)), (8, .int (x8)), (7, .int (nI (sz))), (5, .long (y5)), (3, .long (y3)), (0, .ref (a 0)), (1, .int (c))]) hx hb dX7_delayBut_98 rfl hl (by decide) rfl (fun ls hl => ?_)
                      refine lv_lload hx hb dX7_delayBut_99 (lv_at hl 2 rfl) ?_
                      refine lv_lstore_n (lv' := [(3, .long ((sumF ((ML) 0) ((ML) 1) ((d)) 64).toInt64)), (2, .int (d)), (13, .long ((nI (cntF ((ML) 0) ((ML) 1) ((d)) 64)).toInt64)), (11, .long ((sumF ((ML) 0) ((ML) 1) ((d)) 64).toInt64)), (10, .int ((d) - (c))), (9, .int (d)), (8, .int (x8)), (7, .int (nI (sz))), (5, .long (y5)), (0, .ref (a 0)), (1, .int (c))]) hx hb dX7_delayBut_101 rfl hl (by decide) rfl (fun ls hl => ?_)
                      refine lv_lload hx hb dX7_delayBut_102 (lv_at hl 2 rfl) ?_
                      refine lv_lstore (lv' := [(5, .long ((nI (cntF ((ML) 0) ((ML) 1) ((d)) 64)).toInt64)), (3, .long ((sumF ((ML) 0) ((ML) 1) ((d)) 64).toInt64)), (2, .int (d)), (13, .long ((nI (cntF ((ML) 0) ((ML) 1) ((d)) 64)).toInt64)), (11, .long ((sumF ((ML) 0) ((ML) 1) ((d)) 64).toInt64)), (10, .int ((d) - (c))), (9, .int (d)), (8, .int (x8)), (7, .int (nI (sz))), (0, .ref (a 0)), (1, .int (c))]) hx hb dX7_delayBut_104 hl (by decide) rfl (fun ls hl => ?_)
                      refine lv_iinc (v := ((x8) + (2))) (lv' := [(8, .int ((x8) + (2))), (5, .long ((nI (cntF ((ML) 0) ((ML) 1) ((d)) 64)).toInt64)), (3, .long ((sumF ((ML) 0) ((ML) 1) ((d)) 64).toInt64)), (2, .int (d)), (13, .long ((nI (cntF ((ML) 0) ((ML) 1) ((d)) 64)).toInt64)), (11, .long ((sumF ((ML) 0) ((ML) 1) ((d)) 64).toInt64)), (10, .int ((d) - (c))), (9, .int (d)), (7, .int (nI (sz))), (0, .ref (a 0)), (1, .int (c))]) hx hb dX7_delayBut_106 hl (k := 7) rfl rfl (by decide) rfl (fun ls hl => ?_)
                      refine lv_goto (tgt := 21) hx hb dX7_delayBut_109 (by decide) ?_
                      exact ih21 (t + 1) (((x8) + (2))) ((d)) (((sumF ((ML) 0) ((ML) 1) ((d)) 64).toInt64)) (((nI (cntF ((ML) 0) ((ML) 1) ((d)) 64)).toInt64)) _ _ _ (by omega) (by omega) (by rw [ex]; exact sdv_s htl) (by rw [mid_s, fs, dM_eq htl ex, ← hd]; simp only [dst, nwIf_T, nwIf_F, or_true, true_or, or_false, false_or, and_true, true_and, and_false, false_and, not_true_eq_false, not_false_eq_true, Nat.add_sub_cancel, b15_1n, b15_1, b24_2n, b24_2, q_4, hnear, b56_8n, b56_8, b80_11, b93_12, b93_12, hlt]) (lv_sub hl [0, 8, 1, 2, 3, 9, 10] rfl) hP hD hS
        exact K21 ((3 - (0)) + 1) (0) ((-1 : Int32)) ((x2)) ((x3)) ((x5)) _ _ _ (Nat.lt_succ_self _) (by omega) (by rfl) (by exact es) (lv_sub hl [0, 1, 2, 3, 4, 5, 6] rfl) hP hD hS
  exact K11 ((18 - (0)) + 1) (0) ((-101 : Int32)) ((0)) ((1)) _ _ _ (Nat.lt_succ_self _) (by omega) (by rfl) (lv_sub hl [0, 1, 2, 3, 4, 5] rfl) hP hD hS
set_option maxHeartbeats 4000000 in
set_option maxRecDepth 100000 in
theorem c_X7_delay (lc : Launch) (G : nwG) (a : Nat → Nat) (n : Nat) (cu bg : Nat → Int32) (M : Nat → Nat → Int32) (er us ll lm lh : Int32) (nv : Nat) (fr tt gr : Nat → Nat) (ML : Nat → Nat → Int32) (ns : Nat) (w : Nat → Nat) (cs cl : Nat → Int32) (nd : Nat) (lo ho : Nat → Int32) (so : Nat → Nat) (b : Int32)  : nwCi lc G yX7_delay wsX7_delay ({ frames := 4, cells := 0, slots := 0, locals := 101 } : Room) [.ref (a 0), .int (b)] ((wM G (a) (n) (cu) (bg) ((coF M)) ((goF M)) (er) (us) (ll) (lm) (lh) (nv) (fr) (tt) (gr) ((hdF2 ML)) (ns) (w) (cs) (cl) (nd) (lo) (ho) (so))) (fun r ww => r = delayG ML b ∧ ww = wM G (a) (n) (cu) (bg) ((coF M)) ((goF M)) (er) (us) (ll) (lm) (lh) (nv) (fr) (tt) (gr) ((hdF2 ML)) (ns) (w) (cs) (cl) (nd) (lo) (ho) (so)) := by
  refine nw_of (cc := cX7_delay) (maxL := 3) (ret := (some .int)) (by decide) rfl (Nat.le_of_ble_eq_true rfl) ?_
  intro vp ve vs vm vb vt vc vA ls X hP hD hA hS hl
  have X : nwAt vp vm vc cX7_delay 3 vs _ wsX7_delay RX7 vt (some .int) "delay" G := X
  have hx := X.1.1
  have hb := X.1.2.1
  have hown := X.1.2.2.2.1
  have hts := X.1.2.2.2.2
  have hK := X.2.2.2.2
  have hl : lv_has ls 3 [(0, .ref (a 0)), (1, .int (b))] := hl
  refine lv_aload_n hx hb dX7_delay_0 rfl (lv_at hl 0 rfl) ?_
  refine lv_sipush (v := (1000)) hx hb dX7_delay_1 (by decide) ?_
  refine nw_Vi (As := [.int (1000)]) (rest := []) (q0 := 0) X (c_X7_delayBut lc G (a) (n) (cu) (bg) (M) (er) (us) (ll) (lm) (lh) (nv) (fr) (tt) (gr) (ML) (ns) (w) (cs) (cl) (nd) (lo) (ho) (so) ((1000 : Int32)) ) (cwV 1 hts gX7_delay_X7_delayBut rfl rfl rfl (by decide +kernel) ⟨Nat.le_of_ble_eq_true rfl, Nat.le_of_ble_eq_true rfl⟩) rfl (show vwCl[6]? = some (RX7, TX7, 23) from rfl) (nwSp.all ((wM G (a) (n) (cu) (bg) ((coF M)) ((goF M)) (er) (us) (ll) (lm) (lh) (nv) (fr) (tt) (gr) ((hdF2 ML)) (ns) (w) (cs) (cl) (nd) (lo) (ho) (so)))) hP hD hS hA rfl hl.1 rfl (Nat.le_of_ble_eq_true rfl) dX7_delay_4 ⟨Nat.le_of_ble_eq_true rfl, Nat.le_of_ble_eq_true rfl⟩ (fun r w H locs hp_1 hP hD hS => ?_)
  obtain ⟨rfl, rfl⟩ := hp_1
  have hP : va_P G.1 vwCl ((wM G (a) (n) (cu) (bg) ((coF M)) ((goF M)) (er) (us) (ll) (lm) (lh) (nv) (fr) (tt) (gr) ((hdF2 ML)) (ns) (w) (cs) (cl) (nd) (lo) (ho) (so))) H := hP
  have hD : va_D vA ((wM G (a) (n) (cu) (bg) ((coF M)) ((goF M)) (er) (us) (ll) (lm) (lh) (nv) (fr) (tt) (gr) ((hdF2 ML)) (ns) (w) (cs) (cl) (nd) (lo) (ho) (so))) := hD
  refine lv_istore_n (lv' := [(2, .int (bestG ((ML) 0) ((ML) 1) ((1000 : Int32)))), (0, .ref (a 0)), (1, .int (b))]) hx hb dX7_delay_7 rfl hl (by decide) rfl (fun ls hl => ?_)
  refine lv_iload_n hx hb dX7_delay_8 rfl (lv_at hl 2 rfl) ?_
  refine lv_if_eq (tgt := 18) hx hb dX7_delay_9 (by decide) (fun b9_2 => ?_) (fun b9_2 => ?_)
  · skip
    have b9_2 : (b) = (0 : Int32) := b9_2
    refine lv_iload_n hx hb dX7_delay_18 rfl (lv_at hl 0 rfl) ?_
    refine lv_goto (tgt := 27) hx hb dX7_delay_19 (by decide) ?_
    exact nw_iret (rm := ({ frames := 4, cells := 0, slots := 0, locals := 101 } : Room)) X hP hD hS (by simp only [delayG, nwIf_T, nwIf_F, or_true, true_or, or_false, false_or, and_true, true_and, and_false, false_and, not_true_eq_false, not_false_eq_true, Nat.add_sub_cancel, eq_true b9_2]) dX7_delay_27
  · skip
    have b9_2 : ¬ ((b) = (0 : Int32)) := b9_2
    refine lv_iload_n hx hb dX7_delay_12 rfl (lv_at hl 0 rfl) ?_
    refine lv_bipush (v := (-101)) hx hb dX7_delay_13 (by decide) ?_
    refine lv_icmp_ne (tgt := 22) hx hb dX7_delay_15 (by decide) (fun b15_3 => ?_) (fun b15_3 => ?_)
    · skip
      have b15_3 : ¬ ((bestG ((ML) 0) ((ML) 1) ((1000 : Int32))) = (-101 : Int32)) := b15_3
      refine lv_aload_n hx hb dX7_delay_22 rfl (lv_at hl 1 rfl) ?_
      refine lv_iload_n hx hb dX7_delay_23 rfl (lv_at hl 0 rfl) ?_
      refine nw_Vi (As := [.int (bestG ((ML) 0) ((ML) 1) ((1000 : Int32)))]) (rest := []) (q0 := 0) X (c_X7_delayBut lc G (a) (n) (cu) (bg) (M) (er) (us) (ll) (lm) (lh) (nv) (fr) (tt) (gr) (ML) (ns) (w) (cs) (cl) (nd) (lo) (ho) (so) ((bestG ((ML) 0) ((ML) 1) ((1000 : Int32)))) ) (cwV 1 hts gX7_delay_X7_delayBut rfl rfl rfl (by decide +kernel) ⟨Nat.le_of_ble_eq_true rfl, Nat.le_of_ble_eq_true rfl⟩) rfl (show vwCl[6]? = some (RX7, TX7, 23) from rfl) (nwSp.all ((wM G (a) (n) (cu) (bg) ((coF M)) ((goF M)) (er) (us) (ll) (lm) (lh) (nv) (fr) (tt) (gr) ((hdF2 ML)) (ns) (w) (cs) (cl) (nd) (lo) (ho) (so)))) hP hD hS hA rfl hl.1 rfl (Nat.le_of_ble_eq_true rfl) dX7_delay_24 ⟨Nat.le_of_ble_eq_true rfl, Nat.le_of_ble_eq_true rfl⟩ (fun r w H locs hp_4 hP hD hS => ?_)
      obtain ⟨rfl, rfl⟩ := hp_4
      have hP : va_P G.1 vwCl ((wM G (a) (n) (cu) (bg) ((coF M)) ((goF M)) (er) (us) (ll) (lm) (lh) (nv) (fr) (tt) (gr) ((hdF2 ML)) (ns) (w) (cs) (cl) (nd) (lo) (ho) (so))) H := hP
      have hD : va_D vA ((wM G (a) (n) (cu) (bg) ((coF M)) ((goF M)) (er) (us) (ll) (lm) (lh) (nv) (fr) (tt) (gr) ((hdF2 ML)) (ns) (w) (cs) (cl) (nd) (lo) (ho) (so))) := hD
      exact nw_iret (rm := ({ frames := 4, cells := 0, slots := 0, locals := 101 } : Room)) X hP hD hS (by simp only [delayG, nwIf_T, nwIf_F, or_true, true_or, or_false, false_or, and_true, true_and, and_false, false_and, not_true_eq_false, not_false_eq_true, Nat.add_sub_cancel, b9_2, b15_3]) dX7_delay_27
    · skip
      have b15_3 : (bestG ((ML) 0) ((ML) 1) ((1000 : Int32))) = (-101 : Int32) := b15_3
      refine lv_iload_n hx hb dX7_delay_18 rfl (lv_at hl 0 rfl) ?_
      refine lv_goto (tgt := 27) hx hb dX7_delay_19 (by decide) ?_
      exact nw_iret (rm := ({ frames := 4, cells := 0, slots := 0, locals := 101 } : Room)) X hP hD hS (by simp only [delayG, nwIf_T, nwIf_F, or_true, true_or, or_false, false_or, and_true, true_and, and_false, false_and, not_true_eq_false, not_false_eq_true, Nat.add_sub_cancel, b9_2, eq_true b15_3]) dX7_delay_27
set_option maxHeartbeats 4000000 in
set_option maxRecDepth 100000 in
theorem c_X7_place (lc : Launch) (G : nwG) (a : Nat → Nat) (n : Nat) (cu bg : Nat → Int32) (M : Nat → Nat → Int32) (er us ll lm lh : Int32) (nv : Nat) (fr tt gr : Nat → Nat) (ML : Nat → Nat → Int32) (ns : Nat) (w : Nat → Nat) (cs cl : Nat → Int32) (nd : Nat) (lo ho : Nat → Int32) (so : Nat → Nat) (len sa tb what : Int32)  : nwCi lc G yX7_place wsX7_place ({ frames := 4, cells := 0, slots := 0, locals := 101 } : Room) [.ref (a 0), .int (len), .int (sa), .int (tb), .int (what)] ((wM G (a) (n) (cu) (bg) ((coF M)) ((goF M)) (er) (us) (ll) (lm) (lh) (nv) (fr) (tt) (gr) ((hdF2 ML)) (ns) (w) (cs) (cl) (nd) (lo) (ho) (so))) (fun r ww => r = placeG ML len sa tb what ∧ ww = wM G (a) (n) (cu) (bg) ((coF M)) ((goF M)) (er) (us) (ll) (lm) (lh) (nv) (fr) (tt) (gr) ((hdF2 ML)) (ns) (w) (cs) (cl) (nd) (lo) (ho) (so)) := by
  refine nw_of (cc := cX7_place) (maxL := 9) (ret := (some .int)) (by decide) rfl (Nat.le_of_ble_eq_true rfl) ?_
  intro vp ve vs vm vb vt vc vA ls X hP hD hA hS hl
  have X : nwAt vp vm vc cX7_place 9 vs _ wsX7_place RX7 vt (some .int) "place" G := X
  have hx := X.1.1
  have hb := X.1.2.1
  have hown := X.1.2.2.2.1
  have hts := X.1.2.2.2.2
  have hK := X.2.2.2.2
  have hl : lv_has ls 9 [(0, .ref (a 0)), (1, .int (len)), (2, .int (sa)), (3, .int (tb)), (4, .int (what))] := hl
  refine lv_iload_n hx hb dX7_place_0 rfl (lv_at hl 1 rfl) ?_
  refine lv_iconst (v := (1)) hx hb dX7_place_1 (by decide) ?_
  refine lv_ldc (own := RX7) (v := (100000)) hx hb hown (hts (.constant RX7 126 (100000)) (List.mem_of_getElem? (i := 1) rfl)) dX7_place_2 ?_
  refine nw_Si (As := [.int (len), .int (1), .int (100000)]) (rest := []) X (c_X7_in lc G ((len)) ((1 : Int32)) ((100000 : Int32)) ) (va_cwS 3 hts gX7_place_X7_in rfl rfl rfl (by decide +kernel) ⟨Nat.le_of_ble_eq_true rfl, Nat.le_of_ble_eq_true rfl⟩) (fun _ _ h => h.2) hP hD hS hA rfl hl.1 rfl (Nat.le_of_ble_eq_true rfl) dX7_place_4 ⟨Nat.le_of_ble_eq_true rfl, Nat.le_of_ble_eq_true rfl⟩ (fun r H locs hp_1 hP hD hS => ?_)
  obtain ⟨⟨rfl, q_2⟩ | ⟨rfl, q_2⟩, -⟩ := hp_1
  · skip
    have q_2 : ¬ out ((len)) ((1 : Int32)) ((100000 : Int32)) := q_2
    refine lv_if_eq (tgt := 42) hx hb dX7_place_7 (by decide) (fun c9 => absurd c9 (by decide)) (fun _ => ?_)
    refine lv_iload_n hx hb dX7_place_10 rfl (lv_at hl 2 rfl) ?_
    refine lv_iconst (v := (1)) hx hb dX7_place_11 (by decide) ?_
    refine lv_sipush (v := (2000)) hx hb dX7_place_12 (by decide) ?_
    refine nw_Si (As := [.int (sa), .int (1), .int (2000)]) (rest := []) X (c_X7_in lc G ((sa)) ((1 : Int32)) ((2000 : Int32)) ) (va_cwS 3 hts gX7_place_X7_in rfl rfl rfl (by decide +kernel) ⟨Nat.le_of_ble_eq_true rfl, Nat.le_of_ble_eq_true rfl⟩) (fun _ _ h => h.2) hP hD hS hA rfl hl.1 rfl (Nat.le_of_ble_eq_true rfl) dX7_place_15 ⟨Nat.le_of_ble_eq_true rfl, Nat.le_of_ble_eq_true rfl⟩ (fun r H locs hp_4 hP hD hS => ?_)
    obtain ⟨⟨rfl, q_5⟩ | ⟨rfl, q_5⟩, -⟩ := hp_4
    · skip
      have q_5 : ¬ out ((sa)) ((1 : Int32)) ((2000 : Int32)) := q_5
      refine lv_if_eq (tgt := 42) hx hb dX7_place_18 (by decide) (fun c9 => absurd c9 (by decide)) (fun _ => ?_)
      refine lv_iload_n hx hb dX7_place_21 rfl (lv_at hl 3 rfl) ?_
      refine lv_iload_n hx hb dX7_place_22 rfl (lv_at hl 2 rfl) ?_
      refine lv_sipush (v := (2000)) hx hb dX7_place_23 (by decide) ?_
      refine nw_Si (As := [.int (tb), .int (sa), .int (2000)]) (rest := []) X (c_X7_in lc G ((tb)) ((sa)) ((2000 : Int32)) ) (va_cwS 3 hts gX7_place_X7_in rfl rfl rfl (by decide +kernel) ⟨Nat.le_of_ble_eq_true rfl, Nat.le_of_ble_eq_true rfl⟩) (fun _ _ h => h.2) hP hD hS hA rfl hl.1 rfl (Nat.le_of_ble_eq_true rfl) dX7_place_26 ⟨Nat.le_of_ble_eq_true rfl, Nat.le_of_ble_eq_true rfl⟩ (fun r H locs hp_7 hP hD hS => ?_)
      obtain ⟨⟨rfl, q_8⟩ | ⟨rfl, q_8⟩, -⟩ := hp_7
      · skip
        have q_8 : ¬ out ((tb)) ((sa)) ((2000 : Int32)) := q_8
        refine lv_if_eq (tgt := 42) hx hb dX7_place_29 (by decide) (fun c9 => absurd c9 (by decide)) (fun _ => ?_)
        refine lv_iload hx hb dX7_place_32 (lv_at hl 4 rfl) ?_
        refine lv_iconst (v := (0)) hx hb dX7_place_34 (by decide) ?_
        refine lv_iconst (v := (1)) hx hb dX7_place_35 (by decide) ?_
        refine nw_Si (As := [.int (what), .int (0), .int (1)]) (rest := []) X (c_X7_in lc G ((what)) ((0 : Int32)) ((1 : Int32)) ) (va_cwS 3 hts gX7_place_X7_in rfl rfl rfl (by decide +kernel) ⟨Nat.le_of_ble_eq_true rfl, Nat.le_of_ble_eq_true rfl⟩) (fun _ _ h => h.2) hP hD hS hA rfl hl.1 rfl (Nat.le_of_ble_eq_true rfl) dX7_place_36 ⟨Nat.le_of_ble_eq_true rfl, Nat.le_of_ble_eq_true rfl⟩ (fun r H locs hp_10 hP hD hS => ?_)
        obtain ⟨⟨rfl, q_11⟩ | ⟨rfl, q_11⟩, -⟩ := hp_10
        · skip
          have q_11 : ¬ out ((what)) ((0 : Int32)) ((1 : Int32)) := q_11
          refine lv_if_ne (tgt := 45) hx hb dX7_place_39 (by decide) (fun _ => ?_) (fun c9 => absurd c9 (by decide))
          refine lv_aload_n hx hb dX7_place_45 rfl (lv_at hl 0 rfl) ?_
          refine lv_sipush (v := (1000)) hx hb dX7_place_46 (by decide) ?_
          refine nw_Vi (As := [.int (1000)]) (rest := []) (q0 := 0) X (c_X7_delayBut lc G (a) (n) (cu) (bg) (M) (er) (us) (ll) (lm) (lh) (nv) (fr) (tt) (gr) (ML) (ns) (w) (cs) (cl) (nd) (lo) (ho) (so) ((1000 : Int32)) ) (cwV 1 hts gX7_place_X7_delayBut rfl rfl rfl (by decide +kernel) ⟨Nat.le_of_ble_eq_true rfl, Nat.le_of_ble_eq_true rfl⟩) rfl (show vwCl[6]? = some (RX7, TX7, 23) from rfl) (nwSp.all ((wM G (a) (n) (cu) (bg) ((coF M)) ((goF M)) (er) (us) (ll) (lm) (lh) (nv) (fr) (tt) (gr) ((hdF2 ML)) (ns) (w) (cs) (cl) (nd) (lo) (ho) (so)))) hP hD hS hA rfl hl.1 rfl (Nat.le_of_ble_eq_true rfl) dX7_place_49 ⟨Nat.le_of_ble_eq_true rfl, Nat.le_of_ble_eq_true rfl⟩ (fun r w H locs hp_13 hP hD hS => ?_)
          obtain ⟨rfl, rfl⟩ := hp_13
          have hP : va_P G.1 vwCl ((wM G (a) (n) (cu) (bg) ((coF M)) ((goF M)) (er) (us) (ll) (lm) (lh) (nv) (fr) (tt) (gr) ((hdF2 ML)) (ns) (w) (cs) (cl) (nd) (lo) (ho) (so))) H := hP
          have hD : va_D vA ((wM G (a) (n) (cu) (bg) ((coF M)) ((goF M)) (er) (us) (ll) (lm) (lh) (nv) (fr) (tt) (gr) ((hdF2 ML)) (ns) (w) (cs) (cl) (nd) (lo) (ho) (so))) := hD
          refine lv_istore (lv' := [(5, .int (bestG ((ML) 0) ((ML) 1) ((1000 : Int32)))), (0, .ref (a 0)), (1, .int (len)), (2, .int (sa)), (3, .int (tb)), (4, .int (what))]) hx hb dX7_place_52 hl (by decide) rfl (fun ls hl => ?_)
          refine lv_iload hx hb dX7_place_54 (lv_at hl 0 rfl) ?_
          refine lv_bipush (v := (-101)) hx hb dX7_place_56 (by decide) ?_
          refine lv_icmp_ne (tgt := 64) hx hb dX7_place_58 (by decide) (fun b58_14 => ?_) (fun b58_14 => ?_)
          · skip
            have b58_14 : ¬ ((bestG ((ML) 0) ((ML) 1) ((1000 : Int32))) = (-101 : Int32)) := b58_14
            refine lv_iload_n hx hb dX7_place_64 rfl (lv_at hl 2 rfl) ?_
            refine lv_iload hx hb dX7_place_65 (lv_at hl 0 rfl) ?_
            refine lv_iload_n hx hb dX7_place_67 rfl (lv_at hl 3 rfl) ?_
            refine lv_imul hx hb dX7_place_68 ?_
            refine lv_isub hx hb dX7_place_69 ?_
            refine lv_istore (lv' := [(6, .int ((len) - ((bestG ((ML) 0) ((ML) 1) ((1000 : Int32))) * (sa)))), (5, .int (bestG ((ML) 0) ((ML) 1) ((1000 : Int32)))), (0, .ref (a 0)), (1, .int (len)), (2, .int (sa)), (3, .int (tb)), (4, .int (what))]) hx hb dX7_place_70 hl (by decide) rfl (fun ls hl => ?_)
            refine lv_iload_n hx hb dX7_place_72 rfl (lv_at hl 3 rfl) ?_
            refine lv_iload hx hb dX7_place_73 (lv_at hl 1 rfl) ?_
            refine lv_iload_n hx hb dX7_place_75 rfl (lv_at hl 5 rfl) ?_
            refine lv_imul hx hb dX7_place_76 ?_
            refine lv_isub hx hb dX7_place_77 ?_
            refine lv_istore (lv' := [(7, .int ((len) - ((bestG ((ML) 0) ((ML) 1) ((1000 : Int32))) * (tb)))), (6, .int ((len) - ((bestG ((ML) 0) ((ML) 1) ((1000 : Int32))) * (sa)))), (5, .int (bestG ((ML) 0) ((ML) 1) ((1000 : Int32)))), (0, .ref (a 0)), (1, .int (len)), (2, .int (sa)), (3, .int (tb)), (4, .int (what))]) hx hb dX7_place_78 hl (by decide) rfl (fun ls hl => ?_)
            refine lv_iload hx hb dX7_place_80 (lv_at hl 7 rfl) ?_
            refine lv_if_ne (tgt := 89) hx hb dX7_place_82 (by decide) (fun b82_15 => ?_) (fun b82_15 => ?_)
            · skip
              have b82_15 : ¬ ((what) = (0 : Int32)) := b82_15
              refine lv_iconst (v := (0)) hx hb dX7_place_89 (by decide) ?_
              refine lv_iload hx hb dX7_place_90 (lv_at hl 1 rfl) ?_
              refine lv_iload hx hb dX7_place_92 (lv_at hl 0 rfl) ?_
              refine lv_icmp_ge (tgt := 101) hx hb dX7_place_94 (by decide) (fun b94_16 => ?_) (fun b94_16 => ?_)
              · skip
                have b94_16 : ((len) - ((bestG ((ML) 0) ((ML) 1) ((1000 : Int32))) * (tb))) ≤ ((len) - ((bestG ((ML) 0) ((ML) 1) ((1000 : Int32))) * (sa))) := b94_16
                have b94_16n : ¬ (((len) - ((bestG ((ML) 0) ((ML) 1) ((1000 : Int32))) * (sa))) < ((len) - ((bestG ((ML) 0) ((ML) 1) ((1000 : Int32))) * (tb)))) := Int32.not_lt.mpr b94_16
                refine lv_iconst (v := (0)) hx hb dX7_place_101 (by decide) ?_
                refine lv_icmp_ne (tgt := 110) hx hb dX7_place_102 (by decide) (fun c9 => absurd c9 (by decide)) (fun _ => ?_)
                refine lv_iload hx hb dX7_place_105 (lv_at hl 1 rfl) ?_
                refine lv_goto (tgt := 112) hx hb dX7_place_107 (by decide) ?_
                refine lv_istore (lv' := [(8, .int ((len) - ((bestG ((ML) 0) ((ML) 1) ((1000 : Int32))) * (sa)))), (7, .int ((len) - ((bestG ((ML) 0) ((ML) 1) ((1000 : Int32))) * (tb)))), (6, .int ((len) - ((bestG ((ML) 0) ((ML) 1) ((1000 : Int32))) * (sa)))), (5, .int (bestG ((ML) 0) ((ML) 1) ((1000 : Int32)))), (0, .ref (a 0)), (1, .int (len)), (2, .int (sa)), (3, .int (tb)), (4, .int (what))]) hx hb dX7_place_112 hl (by decide) rfl (fun ls hl => ?_)
                refine lv_iload hx hb dX7_place_114 (lv_at hl 0 rfl) ?_
                refine lv_if_ge (tgt := 123) hx hb dX7_place_116 (by decide) (fun b116_18 => ?_) (fun b116_18 => ?_)
                · skip
                  have b116_18 : (0 : Int32) ≤ ((len) - ((bestG ((ML) 0) ((ML) 1) ((1000 : Int32))) * (sa))) := b116_18
                  have b116_18n : ¬ (((len) - ((bestG ((ML) 0) ((ML) 1) ((1000 : Int32))) * (sa))) < (0 : Int32)) := Int32.not_lt.mpr b116_18
                  refine lv_iload hx hb dX7_place_123 (lv_at hl 0 rfl) ?_
                  refine lv_iconst (v := (2)) hx hb dX7_place_125 (by decide) ?_
                  refine lv_iload_n hx hb dX7_place_126 rfl (lv_at hl 5 rfl) ?_
                  refine lv_imul hx hb dX7_place_127 ?_
                  refine lv_icmp_le (tgt := 137) hx hb dX7_place_128 (by decide) (fun b128_19 => ?_) (fun b128_19 => ?_)
                  · skip
                    have b128_19 : ((len) - ((bestG ((ML) 0) ((ML) 1) ((1000 : Int32))) * (sa))) ≤ ((2 : Int32) * (len)) := b128_19
                    have b128_19n : ¬ (((2 : Int32) * (len)) < ((len) - ((bestG ((ML) 0) ((ML) 1) ((1000 : Int32))) * (sa)))) := Int32.not_lt.mpr b128_19
                    refine lv_iload hx hb dX7_place_137 (lv_at hl 0 rfl) ?_
                    exact nw_iret (rm := ({ frames := 4, cells := 0, slots := 0, locals := 101 } : Room)) X hP hD hS (by simp only [placeG, plcM, nwIf_T, nwIf_F, or_true, true_or, or_false, false_or, and_true, true_and, and_false, false_and, not_true_eq_false, not_false_eq_true, Nat.add_sub_cancel, q_2, q_5, q_8, q_11, b58_14, b82_15, b94_16n, b94_16, b116_18n, b116_18, b128_19n, b128_19]) dX7_place_139
                  · skip
                    have b128_19 : ¬ (((len) - ((bestG ((ML) 0) ((ML) 1) ((1000 : Int32))) * (sa))) ≤ ((2 : Int32) * (len))) := b128_19
                    have b128_19n : ((2 : Int32) * (len)) < ((len) - ((bestG ((ML) 0) ((ML) 1) ((1000 : Int32))) * (sa))) := Int32.not_le.mp b128_19
                    refine lv_iconst (v := (2)) hx hb dX7_place_131 (by decide) ?_
                    refine lv_iload_n hx hb dX7_place_132 rfl (lv_at hl 5 rfl) ?_
                    refine lv_imul hx hb dX7_place_133 ?_
                    refine lv_goto (tgt := 139) hx hb dX7_place_134 (by decide) ?_
                    exact nw_iret (rm := ({ frames := 4, cells := 0, slots := 0, locals := 101 } : Room)) X hP hD hS (by simp only [placeG, plcM, nwIf_T, nwIf_F, or_true, true_or, or_false, false_or, and_true, true_and, and_false, false_and, not_true_eq_false, not_false_eq_true, Nat.add_sub_cancel, q_2, q_5, q_8, q_11, b58_14, b82_15, b94_16n, b94_16, b116_18n, b116_18, b128_19n, b128_19]) dX7_place_139
                · skip
                  have b116_18 : ¬ ((0 : Int32) ≤ ((len) - ((bestG ((ML) 0) ((ML) 1) ((1000 : Int32))) * (sa)))) := b116_18
                  have b116_18n : ((len) - ((bestG ((ML) 0) ((ML) 1) ((1000 : Int32))) * (sa))) < (0 : Int32) := Int32.not_le.mp b116_18
                  refine lv_iconst (v := (0)) hx hb dX7_place_119 (by decide) ?_
                  refine lv_goto (tgt := 139) hx hb dX7_place_120 (by decide) ?_
                  exact nw_iret (rm := ({ frames := 4, cells := 0, slots := 0, locals := 101 } : Room)) X hP hD hS (by simp only [placeG, plcM, nwIf_T, nwIf_F, or_true, true_or, or_false, false_or, and_true, true_and, and_false, false_and, not_true_eq_false, not_false_eq_true, Nat.add_sub_cancel, q_2, q_5, q_8, q_11, b58_14, b82_15, b94_16n, b94_16, b116_18n, b116_18]) dX7_place_139
              · skip
                have b94_16 : ¬ (((len) - ((bestG ((ML) 0) ((ML) 1) ((1000 : Int32))) * (tb))) ≤ ((len) - ((bestG ((ML) 0) ((ML) 1) ((1000 : Int32))) * (sa)))) := b94_16
                have b94_16n : ((len) - ((bestG ((ML) 0) ((ML) 1) ((1000 : Int32))) * (sa))) < ((len) - ((bestG ((ML) 0) ((ML) 1) ((1000 : Int32))) * (tb))) := Int32.not_le.mp b94_16
                refine lv_iconst (v := (1)) hx hb dX7_place_97 (by decide) ?_
                refine lv_goto (tgt := 102) hx hb dX7_place_98 (by decide) ?_
                refine lv_icmp_ne (tgt := 110) hx hb dX7_place_102 (by decide) (fun _ => ?_) (fun c9 => absurd c9 (by decide))
                refine lv_iload hx hb dX7_place_110 (lv_at hl 0 rfl) ?_
                refine lv_istore (lv' := [(8, .int ((len) - ((bestG ((ML) 0) ((ML) 1) ((1000 : Int32))) * (tb)))), (7, .int ((len) - ((bestG ((ML) 0) ((ML) 1) ((1000 : Int32))) * (tb)))), (6, .int ((len) - ((bestG ((ML) 0) ((ML) 1) ((1000 : Int32))) * (sa)))), (5, .int (bestG ((ML) 0) ((ML) 1) ((1000 : Int32)))), (0, .ref (a 0)), (1, .int (len)), (2, .int (sa)), (3, .int (tb)), (4, .int (what))]) hx hb dX7_place_112 hl (by decide) rfl (fun ls hl => ?_)
                refine lv_iload hx hb dX7_place_114 (lv_at hl 0 rfl) ?_
                refine lv_if_ge (tgt := 123) hx hb dX7_place_116 (by decide) (fun b116_21 => ?_) (fun b116_21 => ?_)
                · skip
                  have b116_21 : (0 : Int32) ≤ ((len) - ((bestG ((ML) 0) ((ML) 1) ((1000 : Int32))) * (tb))) := b116_21
                  have b116_21n : ¬ (((len) - ((bestG ((ML) 0) ((ML) 1) ((1000 : Int32))) * (tb))) < (0 : Int32)) := Int32.not_lt.mpr b116_21
                  refine lv_iload hx hb dX7_place_123 (lv_at hl 0 rfl) ?_
                  refine lv_iconst (v := (2)) hx hb dX7_place_125 (by decide) ?_
                  refine lv_iload_n hx hb dX7_place_126 rfl (lv_at hl 5 rfl) ?_
                  refine lv_imul hx hb dX7_place_127 ?_
                  refine lv_icmp_le (tgt := 137) hx hb dX7_place_128 (by decide) (fun b128_22 => ?_) (fun b128_22 => ?_)
                  · skip
                    have b128_22 : ((len) - ((bestG ((ML) 0) ((ML) 1) ((1000 : Int32))) * (tb))) ≤ ((2 : Int32) * (len)) := b128_22
                    have b128_22n : ¬ (((2 : Int32) * (len)) < ((len) - ((bestG ((ML) 0) ((ML) 1) ((1000 : Int32))) * (tb)))) := Int32.not_lt.mpr b128_22
                    refine lv_iload hx hb dX7_place_137 (lv_at hl 0 rfl) ?_
                    exact nw_iret (rm := ({ frames := 4, cells := 0, slots := 0, locals := 101 } : Room)) X hP hD hS (by simp only [placeG, plcM, nwIf_T, nwIf_F, or_true, true_or, or_false, false_or, and_true, true_and, and_false, false_and, not_true_eq_false, not_false_eq_true, Nat.add_sub_cancel, q_2, q_5, q_8, q_11, b58_14, b82_15, b94_16n, b94_16, b116_21n, b116_21, b128_22n, b128_22]) dX7_place_139
                  · skip
                    have b128_22 : ¬ (((len) - ((bestG ((ML) 0) ((ML) 1) ((1000 : Int32))) * (tb))) ≤ ((2 : Int32) * (len))) := b128_22
                    have b128_22n : ((2 : Int32) * (len)) < ((len) - ((bestG ((ML) 0) ((ML) 1) ((1000 : Int32))) * (tb))) := Int32.not_le.mp b128_22
                    refine lv_iconst (v := (2)) hx hb dX7_place_131 (by decide) ?_
                    refine lv_iload_n hx hb dX7_place_132 rfl (lv_at hl 5 rfl) ?_
                    refine lv_imul hx hb dX7_place_133 ?_
                    refine lv_goto (tgt := 139) hx hb dX7_place_134 (by decide) ?_
                    exact nw_iret (rm := ({ frames := 4, cells := 0, slots := 0, locals := 101 } : Room)) X hP hD hS (by simp only [placeG, plcM, nwIf_T, nwIf_F, or_true, true_or, or_false, false_or, and_true, true_and, and_false, false_and, not_true_eq_false, not_false_eq_true, Nat.add_sub_cancel, q_2, q_5, q_8, q_11, b58_14, b82_15, b94_16n, b94_16, b116_21n, b116_21, b128_22n, b128_22]) dX7_place_139
                · skip
                  have b116_21 : ¬ ((0 : Int32) ≤ ((len) - ((bestG ((ML) 0) ((ML) 1) ((1000 : Int32))) * (tb)))) := b116_21
                  have b116_21n : ((len) - ((bestG ((ML) 0) ((ML) 1) ((1000 : Int32))) * (tb))) < (0 : Int32) := Int32.not_le.mp b116_21
                  refine lv_iconst (v := (0)) hx hb dX7_place_119 (by decide) ?_
                  refine lv_goto (tgt := 139) hx hb dX7_place_120 (by decide) ?_
                  exact nw_iret (rm := ({ frames := 4, cells := 0, slots := 0, locals := 101 } : Room)) X hP hD hS (by simp only [placeG, plcM, nwIf_T, nwIf_F, or_true, true_or, or_false, false_or, and_true, true_and, and_false, false_and, not_true_eq_false, not_false_eq_true, Nat.add_sub_cancel, q_2, q_5, q_8, q_11, b58_14, b82_15, b94_16n, b94_16, b116_21n, b116_21]) dX7_place_139
            · skip
              have b82_15 : (what) = (0 : Int32) := b82_15
              refine lv_iconst (v := (1)) hx hb dX7_place_85 (by decide) ?_
              refine lv_goto (tgt := 90) hx hb dX7_place_86 (by decide) ?_
              refine lv_iload hx hb dX7_place_90 (lv_at hl 1 rfl) ?_
              refine lv_iload hx hb dX7_place_92 (lv_at hl 0 rfl) ?_
              refine lv_icmp_ge (tgt := 101) hx hb dX7_place_94 (by decide) (fun b94_23 => ?_) (fun b94_23 => ?_)
              · skip
                have b94_23 : ((len) - ((bestG ((ML) 0) ((ML) 1) ((1000 : Int32))) * (tb))) ≤ ((len) - ((bestG ((ML) 0) ((ML) 1) ((1000 : Int32))) * (sa))) := b94_23
                have b94_23n : ¬ (((len) - ((bestG ((ML) 0) ((ML) 1) ((1000 : Int32))) * (sa))) < ((len) - ((bestG ((ML) 0) ((ML) 1) ((1000 : Int32))) * (tb)))) := Int32.not_lt.mpr b94_23
                refine lv_iconst (v := (0)) hx hb dX7_place_101 (by decide) ?_
                refine lv_icmp_ne (tgt := 110) hx hb dX7_place_102 (by decide) (fun _ => ?_) (fun c9 => absurd c9 (by decide))
                refine lv_iload hx hb dX7_place_110 (lv_at hl 0 rfl) ?_
                refine lv_istore (lv' := [(8, .int ((len) - ((bestG ((ML) 0) ((ML) 1) ((1000 : Int32))) * (tb)))), (7, .int ((len) - ((bestG ((ML) 0) ((ML) 1) ((1000 : Int32))) * (tb)))), (6, .int ((len) - ((bestG ((ML) 0) ((ML) 1) ((1000 : Int32))) * (sa)))), (5, .int (bestG ((ML) 0) ((ML) 1) ((1000 : Int32)))), (0, .ref (a 0)), (1, .int (len)), (2, .int (sa)), (3, .int (tb)), (4, .int (what))]) hx hb dX7_place_112 hl (by decide) rfl (fun ls hl => ?_)
                refine lv_iload hx hb dX7_place_114 (lv_at hl 0 rfl) ?_
                refine lv_if_ge (tgt := 123) hx hb dX7_place_116 (by decide) (fun b116_25 => ?_) (fun b116_25 => ?_)
                · skip
                  have b116_25 : (0 : Int32) ≤ ((len) - ((bestG ((ML) 0) ((ML) 1) ((1000 : Int32))) * (tb))) := b116_25
                  have b116_25n : ¬ (((len) - ((bestG ((ML) 0) ((ML) 1) ((1000 : Int32))) * (tb))) < (0 : Int32)) := Int32.not_lt.mpr b116_25
                  refine lv_iload hx hb dX7_place_123 (lv_at hl 0 rfl) ?_
                  refine lv_iconst (v := (2)) hx hb dX7_place_125 (by decide) ?_
                  refine lv_iload_n hx hb dX7_place_126 rfl (lv_at hl 5 rfl) ?_
                  refine lv_imul hx hb dX7_place_127 ?_
                  refine lv_icmp_le (tgt := 137) hx hb dX7_place_128 (by decide) (fun b128_26 => ?_) (fun b128_26 => ?_)
                  · skip
                    have b128_26 : ((len) - ((bestG ((ML) 0) ((ML) 1) ((1000 : Int32))) * (tb))) ≤ ((2 : Int32) * (len)) := b128_26
                    have b128_26n : ¬ (((2 : Int32) * (len)) < ((len) - ((bestG ((ML) 0) ((ML) 1) ((1000 : Int32))) * (tb)))) := Int32.not_lt.mpr b128_26
                    refine lv_iload hx hb dX7_place_137 (lv_at hl 0 rfl) ?_
                    exact nw_iret (rm := ({ frames := 4, cells := 0, slots := 0, locals := 101 } : Room)) X hP hD hS (by simp only [placeG, plcM, nwIf_T, nwIf_F, or_true, true_or, or_false, false_or, and_true, true_and, and_false, false_and, not_true_eq_false, not_false_eq_true, Nat.add_sub_cancel, q_2, q_5, q_8, q_11, b58_14, eq_true b82_15, b94_23n, b94_23, b116_25n, b116_25, b128_26n, b128_26]) dX7_place_139
                  · skip
                    have b128_26 : ¬ (((len) - ((bestG ((ML) 0) ((ML) 1) ((1000 : Int32))) * (tb))) ≤ ((2 : Int32) * (len))) := b128_26
                    have b128_26n : ((2 : Int32) * (len)) < ((len) - ((bestG ((ML) 0) ((ML) 1) ((1000 : Int32))) * (tb))) := Int32.not_le.mp b128_26
                    refine lv_iconst (v := (2)) hx hb dX7_place_131 (by decide) ?_
                    refine lv_iload_n hx hb dX7_place_132 rfl (lv_at hl 5 rfl) ?_
                    refine lv_imul hx hb dX7_place_133 ?_
                    refine lv_goto (tgt := 139) hx hb dX7_place_134 (by decide) ?_
                    exact nw_iret (rm := ({ frames := 4, cells := 0, slots := 0, locals := 101 } : Room)) X hP hD hS (by simp only [placeG, plcM, nwIf_T, nwIf_F, or_true, true_or, or_false, false_or, and_true, true_and, and_false, false_and, not_true_eq_false, not_false_eq_true, Nat.add_sub_cancel, q_2, q_5, q_8, q_11, b58_14, eq_true b82_15, b94_23n, b94_23, b116_25n, b116_25, b128_26n, b128_26]) dX7_place_139
                · skip
                  have b116_25 : ¬ ((0 : Int32) ≤ ((len) - ((bestG ((ML) 0) ((ML) 1) ((1000 : Int32))) * (tb)))) := b116_25
                  have b116_25n : ((len) - ((bestG ((ML) 0) ((ML) 1) ((1000 : Int32))) * (tb))) < (0 : Int32) := Int32.not_le.mp b116_25
                  refine lv_iconst (v := (0)) hx hb dX7_place_119 (by decide) ?_
                  refine lv_goto (tgt := 139) hx hb dX7_place_120 (by decide) ?_
                  exact nw_iret (rm := ({ frames := 4, cells := 0, slots := 0, locals := 101 } : Room)) X hP hD hS (by simp only [placeG, plcM, nwIf_T, nwIf_F, or_true, true_or, or_false, false_or, and_true, true_and, and_false, false_and, not_true_eq_false, not_false_eq_true, Nat.add_sub_cancel, q_2, q_5, q_8, q_11, b58_14, eq_true b82_15, b94_23n, b94_23, b116_25n, b116_25]) dX7_place_139
              · skip
                have b94_23 : ¬ (((len) - ((bestG ((ML) 0) ((ML) 1) ((1000 : Int32))) * (tb))) ≤ ((len) - ((bestG ((ML) 0) ((ML) 1) ((1000 : Int32))) * (sa)))) := b94_23
                have b94_23n : ((len) - ((bestG ((ML) 0) ((ML) 1) ((1000 : Int32))) * (sa))) < ((len) - ((bestG ((ML) 0) ((ML) 1) ((1000 : Int32))) * (tb))) := Int32.not_le.mp b94_23
                refine lv_iconst (v := (1)) hx hb dX7_place_97 (by decide) ?_
                refine lv_goto (tgt := 102) hx hb dX7_place_98 (by decide) ?_
                refine lv_icmp_ne (tgt := 110) hx hb dX7_place_102 (by decide) (fun c9 => absurd c9 (by decide)) (fun _ => ?_)
                refine lv_iload hx hb dX7_place_105 (lv_at hl 1 rfl) ?_
                refine lv_goto (tgt := 112) hx hb dX7_place_107 (by decide) ?_
                refine lv_istore (lv' := [(8, .int ((len) - ((bestG ((ML) 0) ((ML) 1) ((1000 : Int32))) * (sa)))), (7, .int ((len) - ((bestG ((ML) 0) ((ML) 1) ((1000 : Int32))) * (tb)))), (6, .int ((len) - ((bestG ((ML) 0) ((ML) 1) ((1000 : Int32))) * (sa)))), (5, .int (bestG ((ML) 0) ((ML) 1) ((1000 : Int32)))), (0, .ref (a 0)), (1, .int (len)), (2, .int (sa)), (3, .int (tb)), (4, .int (what))]) hx hb dX7_place_112 hl (by decide) rfl (fun ls hl => ?_)
                refine lv_iload hx hb dX7_place_114 (lv_at hl 0 rfl) ?_
                refine lv_if_ge (tgt := 123) hx hb dX7_place_116 (by decide) (fun b116_28 => ?_) (fun b116_28 => ?_)
                · skip
                  have b116_28 : (0 : Int32) ≤ ((len) - ((bestG ((ML) 0) ((ML) 1) ((1000 : Int32))) * (sa))) := b116_28
                  have b116_28n : ¬ (((len) - ((bestG ((ML) 0) ((ML) 1) ((1000 : Int32))) * (sa))) < (0 : Int32)) := Int32.not_lt.mpr b116_28
                  refine lv_iload hx hb dX7_place_123 (lv_at hl 0 rfl) ?_
                  refine lv_iconst (v := (2)) hx hb dX7_place_125 (by decide) ?_
                  refine lv_iload_n hx hb dX7_place_126 rfl (lv_at hl 5 rfl) ?_
                  refine lv_imul hx hb dX7_place_127 ?_
                  refine lv_icmp_le (tgt := 137) hx hb dX7_place_128 (by decide) (fun b128_29 => ?_) (fun b128_29 => ?_)
                  · skip
                    have b128_29 : ((len) - ((bestG ((ML) 0) ((ML) 1) ((1000 : Int32))) * (sa))) ≤ ((2 : Int32) * (len)) := b128_29
                    have b128_29n : ¬ (((2 : Int32) * (len)) < ((len) - ((bestG ((ML) 0) ((ML) 1) ((1000 : Int32))) * (sa)))) := Int32.not_lt.mpr b128_29
                    refine lv_iload hx hb dX7_place_137 (lv_at hl 0 rfl) ?_
                    exact nw_iret (rm := ({ frames := 4, cells := 0, slots := 0, locals := 101 } : Room)) X hP hD hS (by simp only [placeG, plcM, nwIf_T, nwIf_F, or_true, true_or, or_false, false_or, and_true, true_and, and_false, false_and, not_true_eq_false, not_false_eq_true, Nat.add_sub_cancel, q_2, q_5, q_8, q_11, b58_14, eq_true b82_15, b94_23n, b94_23, b116_28n, b116_28, b128_29n, b128_29]) dX7_place_139
                  · skip
                    have b128_29 : ¬ (((len) - ((bestG ((ML) 0) ((ML) 1) ((1000 : Int32))) * (sa))) ≤ ((2 : Int32) * (len))) := b128_29
                    have b128_29n : ((2 : Int32) * (len)) < ((len) - ((bestG ((ML) 0) ((ML) 1) ((1000 : Int32))) * (sa))) := Int32.not_le.mp b128_29
                    refine lv_iconst (v := (2)) hx hb dX7_place_131 (by decide) ?_
                    refine lv_iload_n hx hb dX7_place_132 rfl (lv_at hl 5 rfl) ?_
                    refine lv_imul hx hb dX7_place_133 ?_
                    refine lv_goto (tgt := 139) hx hb dX7_place_134 (by decide) ?_
                    exact nw_iret (rm := ({ frames := 4, cells := 0, slots := 0, locals := 101 } : Room)) X hP hD hS (by simp only [placeG, plcM, nwIf_T, nwIf_F, or_true, true_or, or_false, false_or, and_true, true_and, and_false, false_and, not_true_eq_false, not_false_eq_true, Nat.add_sub_cancel, q_2, q_5, q_8, q_11, b58_14, eq_true b82_15, b94_23n, b94_23, b116_28n, b116_28, b128_29n, b128_29]) dX7_place_139
                · skip
                  have b116_28 : ¬ ((0 : Int32) ≤ ((len) - ((bestG ((ML) 0) ((ML) 1) ((1000 : Int32))) * (sa)))) := b116_28
                  have b116_28n : ((len) - ((bestG ((ML) 0) ((ML) 1) ((1000 : Int32))) * (sa))) < (0 : Int32) := Int32.not_le.mp b116_28
                  refine lv_iconst (v := (0)) hx hb dX7_place_119 (by decide) ?_
                  refine lv_goto (tgt := 139) hx hb dX7_place_120 (by decide) ?_
                  exact nw_iret (rm := ({ frames := 4, cells := 0, slots := 0, locals := 101 } : Room)) X hP hD hS (by simp only [placeG, plcM, nwIf_T, nwIf_F, or_true, true_or, or_false, false_or, and_true, true_and, and_false, false_and, not_true_eq_false, not_false_eq_true, Nat.add_sub_cancel, q_2, q_5, q_8, q_11, b58_14, eq_true b82_15, b94_23n, b94_23, b116_28n, b116_28]) dX7_place_139
          · skip
            have b58_14 : (bestG ((ML) 0) ((ML) 1) ((1000 : Int32))) = (-101 : Int32) := b58_14
            refine lv_bipush (v := (-3)) hx hb dX7_place_61 (by decide) ?_
            exact nw_iret (rm := ({ frames := 4, cells := 0, slots := 0, locals := 101 } : Room)) X hP hD hS (by simp only [placeG, plcM, nwIf_T, nwIf_F, or_true, true_or, or_false, false_or, and_true, true_and, and_false, false_and, not_true_eq_false, not_false_eq_true, Nat.add_sub_cancel, q_2, q_5, q_8, q_11, eq_true b58_14]) dX7_place_63
        · skip
          have q_11 : out ((what)) ((0 : Int32)) ((1 : Int32)) := q_11
          refine lv_if_ne (tgt := 45) hx hb dX7_place_39 (by decide) (fun c9 => absurd c9 (by decide)) (fun _ => ?_)
          refine lv_bipush (v := (-2)) hx hb dX7_place_42 (by decide) ?_
          exact nw_iret (rm := ({ frames := 4, cells := 0, slots := 0, locals := 101 } : Room)) X hP hD hS (by simp only [placeG, plcM, nwIf_T, nwIf_F, or_true, true_or, or_false, false_or, and_true, true_and, and_false, false_and, not_true_eq_false, not_false_eq_true, Nat.add_sub_cancel, q_2, q_5, q_8, q_11]) dX7_place_44
      · skip
        have q_8 : out ((tb)) ((sa)) ((2000 : Int32)) := q_8
        refine lv_if_eq (tgt := 42) hx hb dX7_place_29 (by decide) (fun _ => ?_) (fun c9 => absurd (by decide) c9)
        refine lv_bipush (v := (-2)) hx hb dX7_place_42 (by decide) ?_
        exact nw_iret (rm := ({ frames := 4, cells := 0, slots := 0, locals := 101 } : Room)) X hP hD hS (by simp only [placeG, plcM, nwIf_T, nwIf_F, or_true, true_or, or_false, false_or, and_true, true_and, and_false, false_and, not_true_eq_false, not_false_eq_true, Nat.add_sub_cancel, q_2, q_5, q_8]) dX7_place_44
    · skip
      have q_5 : out ((sa)) ((1 : Int32)) ((2000 : Int32)) := q_5
      refine lv_if_eq (tgt := 42) hx hb dX7_place_18 (by decide) (fun _ => ?_) (fun c9 => absurd (by decide) c9)
      refine lv_bipush (v := (-2)) hx hb dX7_place_42 (by decide) ?_
      exact nw_iret (rm := ({ frames := 4, cells := 0, slots := 0, locals := 101 } : Room)) X hP hD hS (by simp only [placeG, plcM, nwIf_T, nwIf_F, or_true, true_or, or_false, false_or, and_true, true_and, and_false, false_and, not_true_eq_false, not_false_eq_true, Nat.add_sub_cancel, q_2, q_5]) dX7_place_44
  · skip
    have q_2 : out ((len)) ((1 : Int32)) ((100000 : Int32)) := q_2
    refine lv_if_eq (tgt := 42) hx hb dX7_place_7 (by decide) (fun _ => ?_) (fun c9 => absurd (by decide) c9)
    refine lv_bipush (v := (-2)) hx hb dX7_place_42 (by decide) ?_
    exact nw_iret (rm := ({ frames := 4, cells := 0, slots := 0, locals := 101 } : Room)) X hP hD hS (by simp only [placeG, plcM, nwIf_T, nwIf_F, or_true, true_or, or_false, false_or, and_true, true_and, and_false, false_and, not_true_eq_false, not_false_eq_true, Nat.add_sub_cancel, q_2]) dX7_place_44
