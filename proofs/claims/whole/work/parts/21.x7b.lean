/-! printed by wip/gen/x7b.py: contracts, walked row by row -/
theorem in_X7_doesExplain_X7 : ∀ w ∈ wsX70, w ∈ wsX7_doesExplain := by decide +kernel
theorem in_X7_fewest_X7 : ∀ w ∈ wsX70, w ∈ wsX7_fewest := by decide +kernel
theorem in_X7_findGroups_X7 : ∀ w ∈ wsX70, w ∈ wsX7_findGroups := by decide +kernel
theorem in_X7_group_X7 : ∀ w ∈ wsX70, w ∈ wsX7_group := by decide +kernel
theorem in_X7_isSet_X7 : ∀ w ∈ wsX70, w ∈ wsX7_isSet := by decide +kernel
theorem in_X7_valve_X7 : ∀ w ∈ wsX70, w ∈ wsX7_valve := by decide +kernel
set_option maxHeartbeats 4000000 in
set_option maxRecDepth 100000 in
theorem c_X7_valve (lc : Launch) (G : nwG) (a : Nat → Nat) (n : Nat) (cu bg : Nat → Int32) (M : Nat → Nat → Int32) (er us ll lm lh : Int32) (nv : Nat) (fr tt gr : Nat → Nat) (ML : Nat → Nat → Int32) (ns : Nat) (w : Nat → Nat) (cs cl : Nat → Int32) (nd : Nat) (lo ho : Nat → Int32) (so : Nat → Nat) (p1 p2 : Int32) (hn : n ≤ 8) (hnv : nv ≤ 12) : nwCi lc G yX7_valve wsX7_valve ({ frames := 2, cells := 0, slots := 0, locals := 43 } : Room) [.ref (a 0), .int (p1), .int (p2)] ((wM G (a) (n) (cu) (bg) ((coF M)) ((goF M)) (er) (us) (ll) (lm) (lh) (nv) (fr) (tt) (gr) ((hdF2 ML)) (ns) (w) (cs) (cl) (nd) (lo) (ho) (so))) (fun r ww => r = valveF n nv p1 p2 ∧ ww = wM G (a) (n) (cu) (bg) ((coF M)) ((goF M)) (er) (us) (ll) (lm) (lh) (nwIf (valveOk n nv p1 p2) (nv + 1) nv) (nwIf (valveOk n nv p1 p2) (va_up fr nv p1.toNatClampNeg) fr) (nwIf (valveOk n nv p1 p2) (va_up tt nv p2.toNatClampNeg) tt) (gr) ((hdF2 ML)) (ns) (w) (cs) (cl) (nd) (lo) (ho) (so)) := by
  refine nw_of (cc := cX7_valve) (maxL := 3) (ret := (some .int)) (by decide) rfl (Nat.le_of_ble_eq_true rfl) ?_
  intro vp ve vs vm vb vt vc vA ls X hP hD hA hS hl
  have X : nwAt vp vm vc cX7_valve 3 vs _ wsX7_valve RX7 vt (some .int) "valve" G := X
  have hx := X.1.1
  have hb := X.1.2.1
  have hown := X.1.2.2.2.1
  have hts := X.1.2.2.2.2
  have hK := X.2.2.2.2
  have hl : lv_has ls 3 [(0, .ref (a 0)), (1, .int (p1)), (2, .int (p2))] := hl
  refine lv_aload_n hx hb dX7_valve_0 rfl (lv_at hl 0 rfl) ?_
  refine lv_iload_n hx hb dX7_valve_1 rfl (lv_at hl 1 rfl) ?_
  refine nw_Vi (As := [.int (p1)]) (rest := []) (q0 := 0) X (c_X7_isZone lc G (a) (n) (cu) (bg) (M) (er) (us) (ll) (lm) (lh) (nv) (fr) (tt) (gr) (ML) (ns) (w) (cs) (cl) (nd) (lo) (ho) (so) ((p1)) ) (cwV 1 hts gX7_valve_X7_isZone rfl rfl rfl (by decide +kernel) ⟨Nat.le_of_ble_eq_true rfl, Nat.le_of_ble_eq_true rfl⟩) rfl (show vwCl[6]? = some (RX7, TX7, 23) from rfl) (nwSp.all ((wM G (a) (n) (cu) (bg) ((coF M)) ((goF M)) (er) (us) (ll) (lm) (lh) (nv) (fr) (tt) (gr) ((hdF2 ML)) (ns) (w) (cs) (cl) (nd) (lo) (ho) (so)))) hP hD hS hA rfl hl.1 rfl (Nat.le_of_ble_eq_true rfl) dX7_valve_2 ⟨Nat.le_of_ble_eq_true rfl, Nat.le_of_ble_eq_true rfl⟩ (fun r w H locs hp_1 hP hD hS => ?_)
  obtain ⟨⟨rfl, q_2⟩ | ⟨rfl, q_2⟩, rfl⟩ := hp_1
  · skip
    have hP : va_P G.1 vwCl ((wM G (a) (n) (cu) (bg) ((coF M)) ((goF M)) (er) (us) (ll) (lm) (lh) (nv) (fr) (tt) (gr) ((hdF2 ML)) (ns) (w) (cs) (cl) (nd) (lo) (ho) (so))) H := hP
    have hD : va_D vA ((wM G (a) (n) (cu) (bg) ((coF M)) ((goF M)) (er) (us) (ll) (lm) (lh) (nv) (fr) (tt) (gr) ((hdF2 ML)) (ns) (w) (cs) (cl) (nd) (lo) (ho) (so))) := hD
    have q_2 : ¬ out ((p1)) 0 (nI (n) - 1) := q_2
    obtain ⟨z_3, hz_4, he_5⟩ := nw_lt (n := n) (by omega) q_2
    have ec_6 := nw_clamp he_5 (by omega)
    refine lv_if_eq (tgt := 21) hx hb dX7_valve_5 (by decide) (fun c9 => absurd c9 (by decide)) (fun _ => ?_)
    refine lv_aload_n hx hb dX7_valve_8 rfl (lv_at hl 0 rfl) ?_
    refine lv_iload_n hx hb dX7_valve_9 rfl (lv_at hl 2 rfl) ?_
    refine nw_Vi (As := [.int (p2)]) (rest := []) (q0 := 0) X (c_X7_isZone lc G (a) (n) (cu) (bg) (M) (er) (us) (ll) (lm) (lh) (nv) (fr) (tt) (gr) (ML) (ns) (w) (cs) (cl) (nd) (lo) (ho) (so) ((p2)) ) (cwV 1 hts gX7_valve_X7_isZone rfl rfl rfl (by decide +kernel) ⟨Nat.le_of_ble_eq_true rfl, Nat.le_of_ble_eq_true rfl⟩) rfl (show vwCl[6]? = some (RX7, TX7, 23) from rfl) (nwSp.all ((wM G (a) (n) (cu) (bg) ((coF M)) ((goF M)) (er) (us) (ll) (lm) (lh) (nv) (fr) (tt) (gr) ((hdF2 ML)) (ns) (w) (cs) (cl) (nd) (lo) (ho) (so)))) hP hD hS hA rfl hl.1 rfl (Nat.le_of_ble_eq_true rfl) dX7_valve_10 ⟨Nat.le_of_ble_eq_true rfl, Nat.le_of_ble_eq_true rfl⟩ (fun r w H locs hp_8 hP hD hS => ?_)
    obtain ⟨⟨rfl, q_9⟩ | ⟨rfl, q_9⟩, rfl⟩ := hp_8
    · skip
      have hP : va_P G.1 vwCl ((wM G (a) (n) (cu) (bg) ((coF M)) ((goF M)) (er) (us) (ll) (lm) (lh) (nv) (fr) (tt) (gr) ((hdF2 ML)) (ns) (w) (cs) (cl) (nd) (lo) (ho) (so))) H := hP
      have hD : va_D vA ((wM G (a) (n) (cu) (bg) ((coF M)) ((goF M)) (er) (us) (ll) (lm) (lh) (nv) (fr) (tt) (gr) ((hdF2 ML)) (ns) (w) (cs) (cl) (nd) (lo) (ho) (so))) := hD
      have q_9 : ¬ out ((p2)) 0 (nI (n) - 1) := q_9
      obtain ⟨z_10, hz_11, he_12⟩ := nw_lt (n := n) (by omega) q_9
      have ec_13 := nw_clamp he_12 (by omega)
      refine lv_if_eq (tgt := 21) hx hb dX7_valve_13 (by decide) (fun c9 => absurd c9 (by decide)) (fun _ => ?_)
      refine lv_iload_n hx hb dX7_valve_16 rfl (lv_at hl 1 rfl) ?_
      refine lv_iload_n hx hb dX7_valve_17 rfl (lv_at hl 2 rfl) ?_
      refine lv_icmp_ne (tgt := 24) hx hb dX7_valve_18 (by decide) (fun b18_15 => ?_) (fun b18_15 => ?_)
      · skip
        have b18_15 : ¬ ((p1) = (p2)) := b18_15
        refine lv_aload_n hx hb dX7_valve_24 rfl (lv_at hl 0 rfl) ?_
        refine va_get (D := G.1) (ci := 6) (v := .int (nI (nv))) (C := RX7) (T := TX7) (N := 23) hx hb hts in_X7_valve_X7 hown hK.1 hP 0 rfl rfl 10 (by decide) (hts (.fieldLink RX7 97 "NightWaterModel" "valves" "I") (List.mem_of_getElem? (i := 1) rfl)) (fun _ h9 => h9) rfl dX7_valve_25 ?_
        refine lv_bipush (v := (12)) hx hb dX7_valve_28 (by decide) ?_
        refine lv_icmp_ne (tgt := 36) hx hb dX7_valve_30 (by decide) (fun b30_16 => ?_) (fun b30_16 => ?_)
        · skip
          have b30_16 : ¬ ((nv) = (12)) := fun h => b30_16 ((nI_eq (a := nv) (b := 12) (by omega) (by omega)).mpr h)
          have hl1 : nv < 12 := by omega
          have hl2 : ¬ 12 ≤ nv := by omega
          refine lv_aload_n hx hb dX7_valve_36 rfl (lv_at hl 0 rfl) ?_
          refine va_get (D := G.1) (ci := 6) (v := .ref (a 5)) (C := RX7) (T := TX7) (N := 23) hx hb hts in_X7_valve_X7 hown hK.1 hP 0 rfl rfl 11 (by decide) (hts (.fieldLink RX7 29 "NightWaterModel" "one" "[I") (List.mem_of_getElem? (i := 2) rfl)) (fun _ h9 => h9) rfl dX7_valve_37 ?_
          refine lv_aload_n hx hb dX7_valve_40 rfl (lv_at hl 0 rfl) ?_
          refine va_get (D := G.1) (ci := 6) (v := .int (nI (nv))) (C := RX7) (T := TX7) (N := 23) hx hb hts in_X7_valve_X7 hown hK.1 hP 0 rfl rfl 10 (by decide) (hts (.fieldLink RX7 97 "NightWaterModel" "valves" "I") (List.mem_of_getElem? (i := 1) rfl)) (fun _ h9 => h9) rfl dX7_valve_41 ?_
          refine lv_iload_n hx hb dX7_valve_44 rfl (lv_at hl 1 rfl) ?_
          refine nw_iastN X hP hD hS 5 (n := 12) (f := fr) rfl (nv) (z_3) rfl he_5 (by omega) (by decide) dX7_valve_45 (fun H locs hP hD hS => ?_)
          have hP : va_P G.1 vwCl ((wM G (a) (n) (cu) (bg) ((coF M)) ((goF M)) (er) (us) (ll) (lm) (lh) (nv) (va_up (fr) (nv) (z_3)) (tt) (gr) ((hdF2 ML)) (ns) (w) (cs) (cl) (nd) (lo) (ho) (so))) H := hP
          have hD : va_D vA ((wM G (a) (n) (cu) (bg) ((coF M)) ((goF M)) (er) (us) (ll) (lm) (lh) (nv) (va_up (fr) (nv) (z_3)) (tt) (gr) ((hdF2 ML)) (ns) (w) (cs) (cl) (nd) (lo) (ho) (so))) := hD
          refine lv_aload_n hx hb dX7_valve_46 rfl (lv_at hl 0 rfl) ?_
          refine va_get (D := G.1) (ci := 6) (v := .ref (a 6)) (C := RX7) (T := TX7) (N := 23) hx hb hts in_X7_valve_X7 hown hK.1 hP 0 rfl rfl 12 (by decide) (hts (.fieldLink RX7 32 "NightWaterModel" "other" "[I") (List.mem_of_getElem? (i := 3) rfl)) (fun _ h9 => h9) rfl dX7_valve_47 ?_
          refine lv_aload_n hx hb dX7_valve_50 rfl (lv_at hl 0 rfl) ?_
          refine va_get (D := G.1) (ci := 6) (v := .int (nI (nv))) (C := RX7) (T := TX7) (N := 23) hx hb hts in_X7_valve_X7 hown hK.1 hP 0 rfl rfl 10 (by decide) (hts (.fieldLink RX7 97 "NightWaterModel" "valves" "I") (List.mem_of_getElem? (i := 1) rfl)) (fun _ h9 => h9) rfl dX7_valve_51 ?_
          refine lv_iload_n hx hb dX7_valve_54 rfl (lv_at hl 2 rfl) ?_
          refine nw_iastN X hP hD hS 6 (n := 12) (f := tt) rfl (nv) (z_10) rfl he_12 (by omega) (by decide) dX7_valve_55 (fun H locs hP hD hS => ?_)
          have hP : va_P G.1 vwCl ((wM G (a) (n) (cu) (bg) ((coF M)) ((goF M)) (er) (us) (ll) (lm) (lh) (nv) (va_up (fr) (nv) (z_3)) (va_up (tt) (nv) (z_10)) (gr) ((hdF2 ML)) (ns) (w) (cs) (cl) (nd) (lo) (ho) (so))) H := hP
          have hD : va_D vA ((wM G (a) (n) (cu) (bg) ((coF M)) ((goF M)) (er) (us) (ll) (lm) (lh) (nv) (va_up (fr) (nv) (z_3)) (va_up (tt) (nv) (z_10)) (gr) ((hdF2 ML)) (ns) (w) (cs) (cl) (nd) (lo) (ho) (so))) := hD
          refine lv_aload_n hx hb dX7_valve_56 rfl (lv_at hl 0 rfl) ?_
          refine lv_dup hx hb dX7_valve_57 rfl ?_
          refine va_get (D := G.1) (ci := 6) (v := .int (nI (nv))) (C := RX7) (T := TX7) (N := 23) hx hb hts in_X7_valve_X7 hown hK.1 hP 0 rfl rfl 10 (by decide) (hts (.fieldLink RX7 97 "NightWaterModel" "valves" "I") (List.mem_of_getElem? (i := 1) rfl)) (fun _ h9 => h9) rfl dX7_valve_58 ?_
          refine lv_iconst (v := (1)) hx hb dX7_valve_61 (by decide) ?_
          refine lv_iadd hx hb dX7_valve_62 ?_
          refine nw_top (y := nI (nv + 1)) (nI_add (nv) (1)) ?_
          refine va_put (D := G.1) (ci := 6) (v := .int (nI (nv + 1))) (ty := .int) (C := RX7) (T := TX7) (N := 23) hx hb hts in_X7_valve_X7 tyX7 tyX7_ok nmX7 hown hK.1 hP hD hS 0 rfl rfl 10 (by decide) (hts (.fieldLink RX7 97 "NightWaterModel" "valves" "I") (List.mem_of_getElem? (i := 1) rfl)) (fun _ h9 => h9) rfl (by decide +kernel) rfl rfl (Nat.le_of_ble_eq_true rfl) dX7_valve_63 (fun H locs hP hD hS => ?_)
          have hP : va_P G.1 vwCl ((wM G (a) (n) (cu) (bg) ((coF M)) ((goF M)) (er) (us) (ll) (lm) (lh) (nv + 1) (va_up (fr) (nv) (z_3)) (va_up (tt) (nv) (z_10)) (gr) ((hdF2 ML)) (ns) (w) (cs) (cl) (nd) (lo) (ho) (so))) H := hP
          have hD : va_D vA ((wM G (a) (n) (cu) (bg) ((coF M)) ((goF M)) (er) (us) (ll) (lm) (lh) (nv + 1) (va_up (fr) (nv) (z_3)) (va_up (tt) (nv) (z_10)) (gr) ((hdF2 ML)) (ns) (w) (cs) (cl) (nd) (lo) (ho) (so))) := hD
          refine lv_aload_n hx hb dX7_valve_66 rfl (lv_at hl 0 rfl) ?_
          refine va_get (D := G.1) (ci := 6) (v := .int (nI (nv + 1))) (C := RX7) (T := TX7) (N := 23) hx hb hts in_X7_valve_X7 hown hK.1 hP 0 rfl rfl 10 (by decide) (hts (.fieldLink RX7 97 "NightWaterModel" "valves" "I") (List.mem_of_getElem? (i := 1) rfl)) (fun _ h9 => h9) rfl dX7_valve_67 ?_
          refine lv_iconst (v := (1)) hx hb dX7_valve_70 (by decide) ?_
          refine lv_isub hx hb dX7_valve_71 ?_
          refine nw_top (y := nI (nv + 1 - 1)) (pk_sub (a := nv + 1) (b := 1) (by omega)) ?_
          exact nw_iret (rm := ({ frames := 2, cells := 0, slots := 0, locals := 43 } : Room)) X hP hD hS (by simp only [valveF, valveOk, nwIf_T, nwIf_F, or_true, true_or, or_false, false_or, and_true, true_and, and_false, false_and, not_true_eq_false, not_false_eq_true, Nat.add_sub_cancel, q_2, ec_6, q_9, ec_13, b18_15, b30_16, hl1, hl2]) dX7_valve_72
        · skip
          have b30_16 : (nv) = (12) := (nI_eq (a := nv) (b := 12) (by omega) (by omega)).mp b30_16
          have hl1 : ¬ nv < 12 := by omega
          have hl2 : 12 ≤ nv := by omega
          refine lv_bipush (v := (-4)) hx hb dX7_valve_33 (by decide) ?_
          exact nw_iret (rm := ({ frames := 2, cells := 0, slots := 0, locals := 43 } : Room)) X hP hD hS (by simp only [valveF, valveOk, nwIf_T, nwIf_F, or_true, true_or, or_false, false_or, and_true, true_and, and_false, false_and, not_true_eq_false, not_false_eq_true, Nat.add_sub_cancel, q_2, ec_6, q_9, ec_13, b18_15, eq_true b30_16, hl1, hl2]) dX7_valve_35
      · skip
        have b18_15 : (p1) = (p2) := b18_15
        refine lv_bipush (v := (-2)) hx hb dX7_valve_21 (by decide) ?_
        exact nw_iret (rm := ({ frames := 2, cells := 0, slots := 0, locals := 43 } : Room)) X hP hD hS (by simp only [valveF, valveOk, nwIf_T, nwIf_F, or_true, true_or, or_false, false_or, and_true, true_and, and_false, false_and, not_true_eq_false, not_false_eq_true, Nat.add_sub_cancel, q_2, ec_6, q_9, ec_13, eq_true b18_15]) dX7_valve_23
    · skip
      have hP : va_P G.1 vwCl ((wM G (a) (n) (cu) (bg) ((coF M)) ((goF M)) (er) (us) (ll) (lm) (lh) (nv) (fr) (tt) (gr) ((hdF2 ML)) (ns) (w) (cs) (cl) (nd) (lo) (ho) (so))) H := hP
      have hD : va_D vA ((wM G (a) (n) (cu) (bg) ((coF M)) ((goF M)) (er) (us) (ll) (lm) (lh) (nv) (fr) (tt) (gr) ((hdF2 ML)) (ns) (w) (cs) (cl) (nd) (lo) (ho) (so))) := hD
      have q_9 : out ((p2)) 0 (nI (n) - 1) := q_9
      refine lv_if_eq (tgt := 21) hx hb dX7_valve_13 (by decide) (fun _ => ?_) (fun c9 => absurd (by decide) c9)
      refine lv_bipush (v := (-2)) hx hb dX7_valve_21 (by decide) ?_
      exact nw_iret (rm := ({ frames := 2, cells := 0, slots := 0, locals := 43 } : Room)) X hP hD hS (by simp only [valveF, valveOk, nwIf_T, nwIf_F, or_true, true_or, or_false, false_or, and_true, true_and, and_false, false_and, not_true_eq_false, not_false_eq_true, Nat.add_sub_cancel, q_2, ec_6, q_9]) dX7_valve_23
  · skip
    have hP : va_P G.1 vwCl ((wM G (a) (n) (cu) (bg) ((coF M)) ((goF M)) (er) (us) (ll) (lm) (lh) (nv) (fr) (tt) (gr) ((hdF2 ML)) (ns) (w) (cs) (cl) (nd) (lo) (ho) (so))) H := hP
    have hD : va_D vA ((wM G (a) (n) (cu) (bg) ((coF M)) ((goF M)) (er) (us) (ll) (lm) (lh) (nv) (fr) (tt) (gr) ((hdF2 ML)) (ns) (w) (cs) (cl) (nd) (lo) (ho) (so))) := hD
    have q_2 : out ((p1)) 0 (nI (n) - 1) := q_2
    refine lv_if_eq (tgt := 21) hx hb dX7_valve_5 (by decide) (fun _ => ?_) (fun c9 => absurd (by decide) c9)
    refine lv_bipush (v := (-2)) hx hb dX7_valve_21 (by decide) ?_
    exact nw_iret (rm := ({ frames := 2, cells := 0, slots := 0, locals := 43 } : Room)) X hP hD hS (by simp only [valveF, valveOk, nwIf_T, nwIf_F, or_true, true_or, or_false, false_or, and_true, true_and, and_false, false_and, not_true_eq_false, not_false_eq_true, Nat.add_sub_cancel, q_2]) dX7_valve_23
set_option maxHeartbeats 4000000 in
set_option maxRecDepth 100000 in
theorem c_X7_findGroups (lc : Launch) (G : nwG) (a : Nat → Nat) (n : Nat) (cu bg : Nat → Int32) (M : Nat → Nat → Int32) (er us ll lm lh : Int32) (nv : Nat) (fr tt gr : Nat → Nat) (ML : Nat → Nat → Int32) (ns : Nat) (w : Nat → Nat) (cs cl : Nat → Int32) (nd : Nat) (lo ho : Nat → Int32) (so : Nat → Nat) (k : Nat) (hn : n ≤ 8) (hnv : nv ≤ 12) (hf : ∀ i, i < nv → fr i < n ∧ tt i < n) (hgr : ∀ j, gr j < 8) (hk : k < 4096) : nwCv lc G yX7_findGroups wsX7_findGroups ({ frames := 0, cells := 0, slots := 0, locals := 0 } : Room) [.ref (a 0), .int (nI (k))] ((wM G (a) (n) (cu) (bg) ((coF M)) ((goF M)) (er) (us) (ll) (lm) (lh) (nv) (fr) (tt) (gr) ((hdF2 ML)) (ns) (w) (cs) (cl) (nd) (lo) (ho) (so))) (fun ww => ww = wM G (a) (n) (cu) (bg) ((coF M)) ((goF M)) (er) (us) (ll) (lm) (lh) (nv) (fr) (tt) (grF n fr tt k gr nv) ((hdF2 ML)) (ns) (w) (cs) (cl) (nd) (lo) (ho) (so)) := by
  refine nw_of (cc := cX7_findGroups) (maxL := 6) (ret := none) (by decide) rfl (Nat.le_of_ble_eq_true rfl) ?_
  intro vp ve vs vm vb vt vc vA ls X hP hD hA hS hl
  have X : nwAt vp vm vc cX7_findGroups 6 vs _ wsX7_findGroups RX7 vt none "findGroups" G := X
  have hx := X.1.1
  have hb := X.1.2.1
  have hown := X.1.2.2.2.1
  have hts := X.1.2.2.2.2
  have hK := X.2.2.2.2
  have hl : lv_has ls 6 [(0, .ref (a 0)), (1, .int (nI (k)))] := hl
  refine lv_iconst (v := (0)) hx hb dX7_findGroups_0 (by decide) ?_
  refine lv_istore_n (lv' := [(2, .int (0)), (0, .ref (a 0)), (1, .int (nI (k)))]) hx hb dX7_findGroups_1 rfl hl (by decide) rfl (fun ls hl => ?_)
  have K2 : ∀ (fuel : Nat) (z : Nat) (grv : Nat → Nat) (H : Heap) (locs : List Loc) (ls : Array Slot), (9 - z) < fuel → (z ≤ n) → (grv = id0 gr z) → lv_has ls 6 [(2, .int (nI (z))), (0, .ref (a 0)), (1, .int (nI (k)))] → va_P G.1 vwCl ((wM G (a) (n) (cu) (bg) ((coF M)) ((goF M)) (er) (us) (ll) (lm) (lh) (nv) (fr) (tt) (grv) ((hdF2 ML)) (ns) (w) (cs) (cl) (nd) (lo) (ho) (so))) H → va_D vA ((wM G (a) (n) (cu) (bg) ((coF M)) ((goF M)) (er) (us) (ll) (lm) (lh) (nv) (fr) (tt) (grv) ((hdF2 ML)) (ns) (w) (cs) (cl) (nd) (lo) (ho) (so))) → va_S vA vs.heap H locs → W vp lc ve ({ frames := 0, cells := 0, slots := 0, locals := 0 } : Room) vs vm ([.ref (a 0), .int (nI (k))] : List Value).toArray vb vt vc H locs 0 0 (MQ vb (nwQv G (fun ww => ww = wM G (a) (n) (cu) (bg) ((coF M)) ((goF M)) (er) (us) (ll) (lm) (lh) (nv) (fr) (tt) (grF n fr tt k gr nv) ((hdF2 ML)) (ns) (w) (cs) (cl) (nd) (lo) (ho) (so)) vA) ([.ref (a 0), .int (nI (k))] : List Value).toArray vs ({ frames := 0, cells := 0, slots := 0, locals := 0 } : Room).cells ({ frames := 0, cells := 0, slots := 0, locals := 0 } : Room).slots vA) (F0 vm 2 ls []) := by
    intro fuel
    induction fuel with
    | zero => intro z grv H locs ls hmu; exact absurd hmu (Nat.not_lt_zero _)
    | succ fuel ih2 =>
      intro z grv H locs ls hmu hz el hl hP hD hS
      refine lv_iload_n hx hb dX7_findGroups_2 rfl (lv_at hl 0 rfl) ?_
      refine lv_aload_n hx hb dX7_findGroups_3 rfl (lv_at hl 1 rfl) ?_
      refine va_get (D := G.1) (ci := 6) (v := .int (nI (n))) (C := RX7) (T := TX7) (N := 23) hx hb hts in_X7_findGroups_X7 hown hK.1 hP 0 rfl rfl 0 (by decide) (hts (.fieldLink RX7 62 "NightWaterModel" "zones" "I") (List.mem_of_getElem? (i := 1) rfl)) (fun _ h9 => h9) rfl dX7_findGroups_4 ?_
      refine lv_icmp_ge (tgt := 23) hx hb dX7_findGroups_7 (by decide) (fun b7_1 => ?_) (fun b7_1 => ?_)
      · skip
        have b7_1 : (n) ≤ (z) := (nI_leI (a := n) (b := z) (by omega) (by omega)).mp b7_1
        have b7_1n : ¬ ((z) < (n)) := by omega
        refine lv_iconst (v := (0)) hx hb dX7_findGroups_23 (by decide) ?_
        refine lv_istore_n (lv' := [(2, .int (0)), (0, .ref (a 0)), (1, .int (nI (k)))]) hx hb dX7_findGroups_24 rfl hl (by decide) rfl (fun ls hl => ?_)
        have K25 : ∀ (fuel : Nat) (i : Nat) (grw : Nat → Nat) (H : Heap) (locs : List Loc) (ls : Array Slot), (13 - i) < fuel → (i ≤ nv) → (grw = grF n fr tt k gr i) → lv_has ls 6 [(2, .int (nI (i))), (0, .ref (a 0)), (1, .int (nI (k)))] → va_P G.1 vwCl ((wM G (a) (n) (cu) (bg) ((coF M)) ((goF M)) (er) (us) (ll) (lm) (lh) (nv) (fr) (tt) (grw) ((hdF2 ML)) (ns) (w) (cs) (cl) (nd) (lo) (ho) (so))) H → va_D vA ((wM G (a) (n) (cu) (bg) ((coF M)) ((goF M)) (er) (us) (ll) (lm) (lh) (nv) (fr) (tt) (grw) ((hdF2 ML)) (ns) (w) (cs) (cl) (nd) (lo) (ho) (so))) → va_S vA vs.heap H locs → W vp lc ve ({ frames := 0, cells := 0, slots := 0, locals := 0 } : Room) vs vm ([.ref (a 0), .int (nI (k))] : List Value).toArray vb vt vc H locs 0 0 (MQ vb (nwQv G (fun ww => ww = wM G (a) (n) (cu) (bg) ((coF M)) ((goF M)) (er) (us) (ll) (lm) (lh) (nv) (fr) (tt) (grF n fr tt k gr nv) ((hdF2 ML)) (ns) (w) (cs) (cl) (nd) (lo) (ho) (so)) vA) ([.ref (a 0), .int (nI (k))] : List Value).toArray vs ({ frames := 0, cells := 0, slots := 0, locals := 0 } : Room).cells ({ frames := 0, cells := 0, slots := 0, locals := 0 } : Room).slots vA) (F0 vm 25 ls []) := by
          intro fuel
          induction fuel with
          | zero => intro i grw H locs ls hmu; exact absurd hmu (Nat.not_lt_zero _)
          | succ fuel ih25 =>
            intro i grw H locs ls hmu hi ew hl hP hD hS
            have hlw : ∀ j, grw j < 8 := by rw [ew]; exact grF_b hn hgr i
            refine lv_iload_n hx hb dX7_findGroups_25 rfl (lv_at hl 0 rfl) ?_
            refine lv_aload_n hx hb dX7_findGroups_26 rfl (lv_at hl 1 rfl) ?_
            refine va_get (D := G.1) (ci := 6) (v := .int (nI (nv))) (C := RX7) (T := TX7) (N := 23) hx hb hts in_X7_findGroups_X7 hown hK.1 hP 0 rfl rfl 10 (by decide) (hts (.fieldLink RX7 97 "NightWaterModel" "valves" "I") (List.mem_of_getElem? (i := 3) rfl)) (fun _ h9 => h9) rfl dX7_findGroups_27 ?_
            refine lv_icmp_ge (tgt := 143) hx hb dX7_findGroups_30 (by decide) (fun b30_2 => ?_) (fun b30_2 => ?_)
            · skip
              have b30_2 : (nv) ≤ (i) := (nI_leI (a := nv) (b := i) (by omega) (by omega)).mp b30_2
              have b30_2n : ¬ ((i) < (nv)) := by omega
              exact nw_vret (rm := ({ frames := 0, cells := 0, slots := 0, locals := 0 } : Room)) X hP hD hS (by rw [ew, show i = nv by omega]) dX7_findGroups_143
            · skip
              have b30_2 : ¬ ((nv) ≤ (i)) := fun h => b30_2 ((nI_leI (a := nv) (b := i) (by omega) (by omega)).mpr h)
              have b30_2n : (i) < (nv) := by omega
              have hfi := hf i (by omega)
              have hl1 := hlw (fr i)
              have hl2 := hlw (tt i)
              refine lv_aload_n hx hb dX7_findGroups_33 rfl (lv_at hl 1 rfl) ?_
              refine va_get (D := G.1) (ci := 6) (v := .ref (a 7)) (C := RX7) (T := TX7) (N := 23) hx hb hts in_X7_findGroups_X7 hown hK.1 hP 0 rfl rfl 13 (by decide) (hts (.fieldLink RX7 35 "NightWaterModel" "groupOf" "[I") (List.mem_of_getElem? (i := 2) rfl)) (fun _ h9 => h9) rfl dX7_findGroups_34 ?_
              refine lv_aload_n hx hb dX7_findGroups_37 rfl (lv_at hl 1 rfl) ?_
              refine va_get (D := G.1) (ci := 6) (v := .ref (a 5)) (C := RX7) (T := TX7) (N := 23) hx hb hts in_X7_findGroups_X7 hown hK.1 hP 0 rfl rfl 11 (by decide) (hts (.fieldLink RX7 29 "NightWaterModel" "one" "[I") (List.mem_of_getElem? (i := 4) rfl)) (fun _ h9 => h9) rfl dX7_findGroups_38 ?_
              refine lv_iload_n hx hb dX7_findGroups_41 rfl (lv_at hl 0 rfl) ?_
              refine nw_iald X hP 5 (n := 12) (f := (fun j => nI (fr j))) rfl (i) rfl (by omega) (by decide) dX7_findGroups_42 ?_
              refine nw_iald X hP 7 (n := 8) (f := (fun j => nI (grw j))) rfl (fr (i)) rfl (by omega) (by decide) dX7_findGroups_43 ?_
              refine lv_istore_n (lv' := [(3, .int (nI (grw (fr (i))))), (2, .int (nI (i))), (0, .ref (a 0)), (1, .int (nI (k)))]) hx hb dX7_findGroups_44 rfl hl (by decide) rfl (fun ls hl => ?_)
              refine lv_aload_n hx hb dX7_findGroups_45 rfl (lv_at hl 2 rfl) ?_
              refine va_get (D := G.1) (ci := 6) (v := .ref (a 7)) (C := RX7) (T := TX7) (N := 23) hx hb hts in_X7_findGroups_X7 hown hK.1 hP 0 rfl rfl 13 (by decide) (hts (.fieldLink RX7 35 "NightWaterModel" "groupOf" "[I") (List.mem_of_getElem? (i := 2) rfl)) (fun _ h9 => h9) rfl dX7_findGroups_46 ?_
              refine lv_aload_n hx hb dX7_findGroups_49 rfl (lv_at hl 2 rfl) ?_
              refine va_get (D := G.1) (ci := 6) (v := .ref (a 6)) (C := RX7) (T := TX7) (N := 23) hx hb hts in_X7_findGroups_X7 hown hK.1 hP 0 rfl rfl 12 (by decide) (hts (.fieldLink RX7 32 "NightWaterModel" "other" "[I") (List.mem_of_getElem? (i := 5) rfl)) (fun _ h9 => h9) rfl dX7_findGroups_50 ?_
              refine lv_iload_n hx hb dX7_findGroups_53 rfl (lv_at hl 1 rfl) ?_
              refine nw_iald X hP 6 (n := 12) (f := (fun j => nI (tt j))) rfl (i) rfl (by omega) (by decide) dX7_findGroups_54 ?_
              refine nw_iald X hP 7 (n := 8) (f := (fun j => nI (grw j))) rfl (tt (i)) rfl (by omega) (by decide) dX7_findGroups_55 ?_
              refine lv_istore (lv' := [(4, .int (nI (grw (tt (i))))), (3, .int (nI (grw (fr (i))))), (2, .int (nI (i))), (0, .ref (a 0)), (1, .int (nI (k)))]) hx hb dX7_findGroups_56 hl (by decide) rfl (fun ls hl => ?_)
              refine lv_iconst (v := (0)) hx hb dX7_findGroups_58 (by decide) ?_
              refine lv_istore (lv' := [(5, .int (0)), (4, .int (nI (grw (tt (i))))), (3, .int (nI (grw (fr (i))))), (2, .int (nI (i))), (0, .ref (a 0)), (1, .int (nI (k)))]) hx hb dX7_findGroups_59 hl (by decide) rfl (fun ls hl => ?_)
              have K61 : ∀ (fuel : Nat) (z2 : Nat) (grz : Nat → Nat) (H : Heap) (locs : List Loc) (ls : Array Slot), (9 - z2) < fuel → (z2 ≤ n) → (grz = nwIf (k.testBit i = true) (gst z2 grw (grw (fr i)) (grw (tt i))) grw) → lv_has ls 6 [(5, .int (nI (z2))), (4, .int (nI (grw (tt (i))))), (3, .int (nI (grw (fr (i))))), (2, .int (nI (i))), (0, .ref (a 0)), (1, .int (nI (k)))] → va_P G.1 vwCl ((wM G (a) (n) (cu) (bg) ((coF M)) ((goF M)) (er) (us) (ll) (lm) (lh) (nv) (fr) (tt) (grz) ((hdF2 ML)) (ns) (w) (cs) (cl) (nd) (lo) (ho) (so))) H → va_D vA ((wM G (a) (n) (cu) (bg) ((coF M)) ((goF M)) (er) (us) (ll) (lm) (lh) (nv) (fr) (tt) (grz) ((hdF2 ML)) (ns) (w) (cs) (cl) (nd) (lo) (ho) (so))) → va_S vA vs.heap H locs → W vp lc ve ({ frames := 0, cells := 0, slots := 0, locals := 0 } : Room) vs vm ([.ref (a 0), .int (nI (k))] : List Value).toArray vb vt vc H locs 0 0 (MQ vb (nwQv G (fun ww => ww = wM G (a) (n) (cu) (bg) ((coF M)) ((goF M)) (er) (us) (ll) (lm) (lh) (nv) (fr) (tt) (grF n fr tt k gr nv) ((hdF2 ML)) (ns) (w) (cs) (cl) (nd) (lo) (ho) (so)) vA) ([.ref (a 0), .int (nI (k))] : List Value).toArray vs ({ frames := 0, cells := 0, slots := 0, locals := 0 } : Room).cells ({ frames := 0, cells := 0, slots := 0, locals := 0 } : Room).slots vA) (F0 vm 61 ls []) := by
                intro fuel
                induction fuel with
                | zero => intro z2 grz H locs ls hmu; exact absurd hmu (Nat.not_lt_zero _)
                | succ fuel ih61 =>
                  intro z2 grz H locs ls hmu hz2 eg hl hP hD hS
                  have hgz8 : grz z2 < 8 := by rw [eg]; exact nwIf_ap (gst_lt hlw hl1 hl2 z2) (hlw z2)
                  refine lv_iload hx hb dX7_findGroups_61 (lv_at hl 0 rfl) ?_
                  refine lv_aload_n hx hb dX7_findGroups_63 rfl (lv_at hl 4 rfl) ?_
                  refine va_get (D := G.1) (ci := 6) (v := .int (nI (n))) (C := RX7) (T := TX7) (N := 23) hx hb hts in_X7_findGroups_X7 hown hK.1 hP 0 rfl rfl 0 (by decide) (hts (.fieldLink RX7 62 "NightWaterModel" "zones" "I") (List.mem_of_getElem? (i := 1) rfl)) (fun _ h9 => h9) rfl dX7_findGroups_64 ?_
                  refine lv_icmp_ge (tgt := 137) hx hb dX7_findGroups_67 (by decide) (fun b67_3 => ?_) (fun b67_3 => ?_)
                  · skip
                    have b67_3 : (n) ≤ (z2) := (nI_leI (a := n) (b := z2) (by omega) (by omega)).mp b67_3
                    have b67_3n : ¬ ((z2) < (n)) := by omega
                    refine lv_iinc (v := (nI (i + 1))) (lv' := [(2, .int (nI (i + 1))), (5, .int (nI (z2))), (4, .int (nI (grw (tt (i))))), (3, .int (nI (grw (fr (i))))), (0, .ref (a 0)), (1, .int (nI (k)))]) hx hb dX7_findGroups_137 hl (k := 3) rfl (by exact nI_add (i) 1) (by decide) rfl (fun ls hl => ?_)
                    refine lv_goto (tgt := 25) hx hb dX7_findGroups_140 (by decide) ?_
                    exact ih25 (i + 1) (grz) _ _ _ (by omega) (by omega) (by rw [grF_s, ← ew, eg]; first | rw [nwIf_f hbit, nwIf_f hbit] | rw [show z2 = n by omega]) (lv_sub hl [0, 4, 5] rfl) hP hD hS
                  · skip
                    have b67_3 : ¬ ((n) ≤ (z2)) := fun h => b67_3 ((nI_leI (a := n) (b := z2) (by omega) (by omega)).mpr h)
                    have b67_3n : (z2) < (n) := by omega
                    refine lv_iload_n hx hb dX7_findGroups_70 rfl (lv_at hl 5 rfl) ?_
                    refine lv_iload_n hx hb dX7_findGroups_71 rfl (lv_at hl 3 rfl) ?_
                    refine lv_ishr hx hb dX7_findGroups_72 ?_
                    refine lv_iconst (v := (1)) hx hb dX7_findGroups_73 (by decide) ?_
                    refine lv_iand hx hb dX7_findGroups_74 ?_
                    refine lv_iconst (v := (1)) hx hb dX7_findGroups_75 (by decide) ?_
                    refine lv_icmp_ne (tgt := 137) hx hb dX7_findGroups_76 (by decide) (fun b76_4 => ?_) (fun b76_4 => ?_)
                    · skip
                      have b76_4 : ¬ ((((nI (k)) >>> ((nI (i)) &&& 31)) &&& (1 : Int32)) = (1 : Int32)) := b76_4
                      have hbit : ¬ k.testBit i = true := fun h => b76_4 ((nw_bit1 (by omega) (by omega)).mpr h)
                      refine lv_iinc (v := (nI (i + 1))) (lv' := [(2, .int (nI (i + 1))), (5, .int (nI (z2))), (4, .int (nI (grw (tt (i))))), (3, .int (nI (grw (fr (i))))), (0, .ref (a 0)), (1, .int (nI (k)))]) hx hb dX7_findGroups_137 hl (k := 3) rfl (by exact nI_add (i) 1) (by decide) rfl (fun ls hl => ?_)
                      refine lv_goto (tgt := 25) hx hb dX7_findGroups_140 (by decide) ?_
                      exact ih25 (i + 1) (grz) _ _ _ (by omega) (by omega) (by rw [grF_s, ← ew, eg]; first | rw [nwIf_f hbit, nwIf_f hbit] | rw [show z2 = n by omega]) (lv_sub hl [0, 4, 5] rfl) hP hD hS
                    · skip
                      have b76_4 : (((nI (k)) >>> ((nI (i)) &&& 31)) &&& (1 : Int32)) = (1 : Int32) := b76_4
                      have hbit : k.testBit i = true := (nw_bit1 (by omega) (by omega)).mp b76_4
                      have hgz : grz = gst z2 grw (grw (fr i)) (grw (tt i)) := by rw [eg, nwIf_t hbit]
                      have h9 : grz z2 = grw z2 := by rw [hgz]; exact gst_out (by omega)
                      refine lv_aload_n hx hb dX7_findGroups_79 rfl (lv_at hl 4 rfl) ?_
                      refine va_get (D := G.1) (ci := 6) (v := .ref (a 7)) (C := RX7) (T := TX7) (N := 23) hx hb hts in_X7_findGroups_X7 hown hK.1 hP 0 rfl rfl 13 (by decide) (hts (.fieldLink RX7 35 "NightWaterModel" "groupOf" "[I") (List.mem_of_getElem? (i := 2) rfl)) (fun _ h9 => h9) rfl dX7_findGroups_80 ?_
                      refine lv_iload hx hb dX7_findGroups_83 (lv_at hl 0 rfl) ?_
                      refine lv_aload_n hx hb dX7_findGroups_85 rfl (lv_at hl 4 rfl) ?_
                      refine va_get (D := G.1) (ci := 6) (v := .ref (a 7)) (C := RX7) (T := TX7) (N := 23) hx hb hts in_X7_findGroups_X7 hown hK.1 hP 0 rfl rfl 13 (by decide) (hts (.fieldLink RX7 35 "NightWaterModel" "groupOf" "[I") (List.mem_of_getElem? (i := 2) rfl)) (fun _ h9 => h9) rfl dX7_findGroups_86 ?_
                      refine lv_iload hx hb dX7_findGroups_89 (lv_at hl 0 rfl) ?_
                      refine nw_iald X hP 7 (n := 8) (f := (fun j => nI (grz j))) rfl (z2) rfl (by omega) (by decide) dX7_findGroups_91 ?_
                      refine lv_iload_n hx hb dX7_findGroups_92 rfl (lv_at hl 2 rfl) ?_
                      refine lv_icmp_eq (tgt := 108) hx hb dX7_findGroups_93 (by decide) (fun b93_5 => ?_) (fun b93_5 => ?_)
                      · skip
                        have b93_5 : (grz (z2)) = (grw (fr (i))) := (nI_eq (a := grz (z2)) (b := grw (fr (i))) (by omega) (by omega)).mp b93_5
                        refine lv_iload_n hx hb dX7_findGroups_108 rfl (lv_at hl 2 rfl) ?_
                        refine lv_iload hx hb dX7_findGroups_109 (lv_at hl 1 rfl) ?_
                        refine lv_icmp_ge (tgt := 118) hx hb dX7_findGroups_111 (by decide) (fun b111_6 => ?_) (fun b111_6 => ?_)
                        · skip
                          have b111_6 : (grw (tt (i))) ≤ (grw (fr (i))) := (nI_leI (a := grw (tt (i))) (b := grw (fr (i))) (by omega) (by omega)).mp b111_6
                          have b111_6n : ¬ ((grw (fr (i))) < (grw (tt (i)))) := by omega
                          refine lv_iload hx hb dX7_findGroups_118 (lv_at hl 1 rfl) ?_
                          refine lv_goto (tgt := 130) hx hb dX7_findGroups_120 (by decide) ?_
                          refine nw_iastN X hP hD hS 7 (n := 8) (f := grz) rfl (z2) (grw (tt (i))) rfl rfl (by omega) (by decide) dX7_findGroups_130 (fun H locs hP hD hS => ?_)
                          have hP : va_P G.1 vwCl ((wM G (a) (n) (cu) (bg) ((coF M)) ((goF M)) (er) (us) (ll) (lm) (lh) (nv) (fr) (tt) (va_up (grz) (z2) (grw (tt (i)))) ((hdF2 ML)) (ns) (w) (cs) (cl) (nd) (lo) (ho) (so))) H := hP
                          have hD : va_D vA ((wM G (a) (n) (cu) (bg) ((coF M)) ((goF M)) (er) (us) (ll) (lm) (lh) (nv) (fr) (tt) (va_up (grz) (z2) (grw (tt (i)))) ((hdF2 ML)) (ns) (w) (cs) (cl) (nd) (lo) (ho) (so))) := hD
                          refine lv_iinc (v := (nI (z2 + 1))) (lv' := [(5, .int (nI (z2 + 1))), (4, .int (nI (grw (tt (i))))), (3, .int (nI (grw (fr (i))))), (2, .int (nI (i))), (0, .ref (a 0)), (1, .int (nI (k)))]) hx hb dX7_findGroups_131 hl (k := 0) rfl (by exact nI_add (z2) 1) (by decide) rfl (fun ls hl => ?_)
                          refine lv_goto (tgt := 61) hx hb dX7_findGroups_134 (by decide) ?_
                          exact ih61 (z2 + 1) (va_up (grz) (z2) (grw (tt (i)))) _ _ _ (by omega) (by omega) (by rw [nwIf_t hbit]; exact gup hgz (by omega)) (lv_sub hl [0, 1, 2, 3, 4, 5] rfl) hP hD hS
                        · skip
                          have b111_6 : ¬ ((grw (tt (i))) ≤ (grw (fr (i)))) := fun h => b111_6 ((nI_leI (a := grw (tt (i))) (b := grw (fr (i))) (by omega) (by omega)).mpr h)
                          have b111_6n : (grw (fr (i))) < (grw (tt (i))) := by omega
                          refine lv_iload_n hx hb dX7_findGroups_114 rfl (lv_at hl 2 rfl) ?_
                          refine lv_goto (tgt := 130) hx hb dX7_findGroups_115 (by decide) ?_
                          refine nw_iastN X hP hD hS 7 (n := 8) (f := grz) rfl (z2) (grw (fr (i))) rfl rfl (by omega) (by decide) dX7_findGroups_130 (fun H locs hP hD hS => ?_)
                          have hP : va_P G.1 vwCl ((wM G (a) (n) (cu) (bg) ((coF M)) ((goF M)) (er) (us) (ll) (lm) (lh) (nv) (fr) (tt) (va_up (grz) (z2) (grw (fr (i)))) ((hdF2 ML)) (ns) (w) (cs) (cl) (nd) (lo) (ho) (so))) H := hP
                          have hD : va_D vA ((wM G (a) (n) (cu) (bg) ((coF M)) ((goF M)) (er) (us) (ll) (lm) (lh) (nv) (fr) (tt) (va_up (grz) (z2) (grw (fr (i)))) ((hdF2 ML)) (ns) (w) (cs) (cl) (nd) (lo) (ho) (so))) := hD
                          refine lv_iinc (v := (nI (z2 + 1))) (lv' := [(5, .int (nI (z2 + 1))), (4, .int (nI (grw (tt (i))))), (3, .int (nI (grw (fr (i))))), (2, .int (nI (i))), (0, .ref (a 0)), (1, .int (nI (k)))]) hx hb dX7_findGroups_131 hl (k := 0) rfl (by exact nI_add (z2) 1) (by decide) rfl (fun ls hl => ?_)
                          refine lv_goto (tgt := 61) hx hb dX7_findGroups_134 (by decide) ?_
                          exact ih61 (z2 + 1) (va_up (grz) (z2) (grw (fr (i)))) _ _ _ (by omega) (by omega) (by rw [nwIf_t hbit]; exact gup hgz (by omega)) (lv_sub hl [0, 1, 2, 3, 4, 5] rfl) hP hD hS
                      · skip
                        have b93_5 : ¬ ((grz (z2)) = (grw (fr (i)))) := fun h => b93_5 ((nI_eq (a := grz (z2)) (b := grw (fr (i))) (by omega) (by omega)).mpr h)
                        refine lv_aload_n hx hb dX7_findGroups_96 rfl (lv_at hl 4 rfl) ?_
                        refine va_get (D := G.1) (ci := 6) (v := .ref (a 7)) (C := RX7) (T := TX7) (N := 23) hx hb hts in_X7_findGroups_X7 hown hK.1 hP 0 rfl rfl 13 (by decide) (hts (.fieldLink RX7 35 "NightWaterModel" "groupOf" "[I") (List.mem_of_getElem? (i := 2) rfl)) (fun _ h9 => h9) rfl dX7_findGroups_97 ?_
                        refine lv_iload hx hb dX7_findGroups_100 (lv_at hl 0 rfl) ?_
                        refine nw_iald X hP 7 (n := 8) (f := (fun j => nI (grz j))) rfl (z2) rfl (by omega) (by decide) dX7_findGroups_102 ?_
                        refine lv_iload hx hb dX7_findGroups_103 (lv_at hl 1 rfl) ?_
                        refine lv_icmp_ne (tgt := 123) hx hb dX7_findGroups_105 (by decide) (fun b105_7 => ?_) (fun b105_7 => ?_)
                        · skip
                          have b105_7 : ¬ ((grz (z2)) = (grw (tt (i)))) := fun h => b105_7 ((nI_eq (a := grz (z2)) (b := grw (tt (i))) (by omega) (by omega)).mpr h)
                          refine lv_aload_n hx hb dX7_findGroups_123 rfl (lv_at hl 4 rfl) ?_
                          refine va_get (D := G.1) (ci := 6) (v := .ref (a 7)) (C := RX7) (T := TX7) (N := 23) hx hb hts in_X7_findGroups_X7 hown hK.1 hP 0 rfl rfl 13 (by decide) (hts (.fieldLink RX7 35 "NightWaterModel" "groupOf" "[I") (List.mem_of_getElem? (i := 2) rfl)) (fun _ h9 => h9) rfl dX7_findGroups_124 ?_
                          refine lv_iload hx hb dX7_findGroups_127 (lv_at hl 0 rfl) ?_
                          refine nw_iald X hP 7 (n := 8) (f := (fun j => nI (grz j))) rfl (z2) rfl (by omega) (by decide) dX7_findGroups_129 ?_
                          refine nw_iastN X hP hD hS 7 (n := 8) (f := grz) rfl (z2) (grz (z2)) rfl rfl (by omega) (by decide) dX7_findGroups_130 (fun H locs hP hD hS => ?_)
                          have hP : va_P G.1 vwCl ((wM G (a) (n) (cu) (bg) ((coF M)) ((goF M)) (er) (us) (ll) (lm) (lh) (nv) (fr) (tt) (va_up (grz) (z2) (grz (z2))) ((hdF2 ML)) (ns) (w) (cs) (cl) (nd) (lo) (ho) (so))) H := hP
                          have hD : va_D vA ((wM G (a) (n) (cu) (bg) ((coF M)) ((goF M)) (er) (us) (ll) (lm) (lh) (nv) (fr) (tt) (va_up (grz) (z2) (grz (z2))) ((hdF2 ML)) (ns) (w) (cs) (cl) (nd) (lo) (ho) (so))) := hD
                          refine lv_iinc (v := (nI (z2 + 1))) (lv' := [(5, .int (nI (z2 + 1))), (4, .int (nI (grw (tt (i))))), (3, .int (nI (grw (fr (i))))), (2, .int (nI (i))), (0, .ref (a 0)), (1, .int (nI (k)))]) hx hb dX7_findGroups_131 hl (k := 0) rfl (by exact nI_add (z2) 1) (by decide) rfl (fun ls hl => ?_)
                          refine lv_goto (tgt := 61) hx hb dX7_findGroups_134 (by decide) ?_
                          exact ih61 (z2 + 1) (va_up (grz) (z2) (grz (z2))) _ _ _ (by omega) (by omega) (by rw [nwIf_t hbit]; exact gup hgz (by omega)) (lv_sub hl [0, 1, 2, 3, 4, 5] rfl) hP hD hS
                        · skip
                          have b105_7 : (grz (z2)) = (grw (tt (i))) := (nI_eq (a := grz (z2)) (b := grw (tt (i))) (by omega) (by omega)).mp b105_7
                          refine lv_iload_n hx hb dX7_findGroups_108 rfl (lv_at hl 2 rfl) ?_
                          refine lv_iload hx hb dX7_findGroups_109 (lv_at hl 1 rfl) ?_
                          refine lv_icmp_ge (tgt := 118) hx hb dX7_findGroups_111 (by decide) (fun b111_8 => ?_) (fun b111_8 => ?_)
                          · skip
                            have b111_8 : (grw (tt (i))) ≤ (grw (fr (i))) := (nI_leI (a := grw (tt (i))) (b := grw (fr (i))) (by omega) (by omega)).mp b111_8
                            have b111_8n : ¬ ((grw (fr (i))) < (grw (tt (i)))) := by omega
                            refine lv_iload hx hb dX7_findGroups_118 (lv_at hl 1 rfl) ?_
                            refine lv_goto (tgt := 130) hx hb dX7_findGroups_120 (by decide) ?_
                            refine nw_iastN X hP hD hS 7 (n := 8) (f := grz) rfl (z2) (grw (tt (i))) rfl rfl (by omega) (by decide) dX7_findGroups_130 (fun H locs hP hD hS => ?_)
                            have hP : va_P G.1 vwCl ((wM G (a) (n) (cu) (bg) ((coF M)) ((goF M)) (er) (us) (ll) (lm) (lh) (nv) (fr) (tt) (va_up (grz) (z2) (grw (tt (i)))) ((hdF2 ML)) (ns) (w) (cs) (cl) (nd) (lo) (ho) (so))) H := hP
                            have hD : va_D vA ((wM G (a) (n) (cu) (bg) ((coF M)) ((goF M)) (er) (us) (ll) (lm) (lh) (nv) (fr) (tt) (va_up (grz) (z2) (grw (tt (i)))) ((hdF2 ML)) (ns) (w) (cs) (cl) (nd) (lo) (ho) (so))) := hD
                            refine lv_iinc (v := (nI (z2 + 1))) (lv' := [(5, .int (nI (z2 + 1))), (4, .int (nI (grw (tt (i))))), (3, .int (nI (grw (fr (i))))), (2, .int (nI (i))), (0, .ref (a 0)), (1, .int (nI (k)))]) hx hb dX7_findGroups_131 hl (k := 0) rfl (by exact nI_add (z2) 1) (by decide) rfl (fun ls hl => ?_)
                            refine lv_goto (tgt := 61) hx hb dX7_findGroups_134 (by decide) ?_
                            exact ih61 (z2 + 1) (va_up (grz) (z2) (grw (tt (i)))) _ _ _ (by omega) (by omega) (by rw [nwIf_t hbit]; exact gup hgz (by omega)) (lv_sub hl [0, 1, 2, 3, 4, 5] rfl) hP hD hS
                          · skip
                            have b111_8 : ¬ ((grw (tt (i))) ≤ (grw (fr (i)))) := fun h => b111_8 ((nI_leI (a := grw (tt (i))) (b := grw (fr (i))) (by omega) (by omega)).mpr h)
                            have b111_8n : (grw (fr (i))) < (grw (tt (i))) := by omega
                            refine lv_iload_n hx hb dX7_findGroups_114 rfl (lv_at hl 2 rfl) ?_
                            refine lv_goto (tgt := 130) hx hb dX7_findGroups_115 (by decide) ?_
                            refine nw_iastN X hP hD hS 7 (n := 8) (f := grz) rfl (z2) (grw (fr (i))) rfl rfl (by omega) (by decide) dX7_findGroups_130 (fun H locs hP hD hS => ?_)
                            have hP : va_P G.1 vwCl ((wM G (a) (n) (cu) (bg) ((coF M)) ((goF M)) (er) (us) (ll) (lm) (lh) (nv) (fr) (tt) (va_up (grz) (z2) (grw (fr (i)))) ((hdF2 ML)) (ns) (w) (cs) (cl) (nd) (lo) (ho) (so))) H := hP
                            have hD : va_D vA ((wM G (a) (n) (cu) (bg) ((coF M)) ((goF M)) (er) (us) (ll) (lm) (lh) (nv) (fr) (tt) (va_up (grz) (z2) (grw (fr (i)))) ((hdF2 ML)) (ns) (w) (cs) (cl) (nd) (lo) (ho) (so))) := hD
                            refine lv_iinc (v := (nI (z2 + 1))) (lv' := [(5, .int (nI (z2 + 1))), (4, .int (nI (grw (tt (i))))), (3, .int (nI (grw (fr (i))))), (2, .int (nI (i))), (0, .ref (a 0)), (1, .int (nI (k)))]) hx hb dX7_findGroups_131 hl (k := 0) rfl (by exact nI_add (z2) 1) (by decide) rfl (fun ls hl => ?_)
                            refine lv_goto (tgt := 61) hx hb dX7_findGroups_134 (by decide) ?_
                            exact ih61 (z2 + 1) (va_up (grz) (z2) (grw (fr (i)))) _ _ _ (by omega) (by omega) (by rw [nwIf_t hbit]; exact gup hgz (by omega)) (lv_sub hl [0, 1, 2, 3, 4, 5] rfl) hP hD hS
              exact K61 ((9 - (0)) + 1) (0) (grw) _ _ _ (Nat.lt_succ_self _) (by omega) (by rw [gst_0]; exact nwIf_same.symm) (lv_sub hl [0, 1, 2, 3, 4, 5] rfl) hP hD hS
        exact K25 ((13 - (0)) + 1) (0) (grv) _ _ _ (Nat.lt_succ_self _) (by omega) (by rw [el, show z = n by omega]; exact id0_grF) (lv_sub hl [0, 1, 2] rfl) hP hD hS
      · skip
        have b7_1 : ¬ ((n) ≤ (z)) := fun h => b7_1 ((nI_leI (a := n) (b := z) (by omega) (by omega)).mpr h)
        have b7_1n : (z) < (n) := by omega
        refine lv_aload_n hx hb dX7_findGroups_10 rfl (lv_at hl 1 rfl) ?_
        refine va_get (D := G.1) (ci := 6) (v := .ref (a 7)) (C := RX7) (T := TX7) (N := 23) hx hb hts in_X7_findGroups_X7 hown hK.1 hP 0 rfl rfl 13 (by decide) (hts (.fieldLink RX7 35 "NightWaterModel" "groupOf" "[I") (List.mem_of_getElem? (i := 2) rfl)) (fun _ h9 => h9) rfl dX7_findGroups_11 ?_
        refine lv_iload_n hx hb dX7_findGroups_14 rfl (lv_at hl 0 rfl) ?_
        refine lv_iload_n hx hb dX7_findGroups_15 rfl (lv_at hl 0 rfl) ?_
        refine nw_iastN X hP hD hS 7 (n := 8) (f := grv) rfl (z) (z) rfl rfl (by omega) (by decide) dX7_findGroups_16 (fun H locs hP hD hS => ?_)
        have hP : va_P G.1 vwCl ((wM G (a) (n) (cu) (bg) ((coF M)) ((goF M)) (er) (us) (ll) (lm) (lh) (nv) (fr) (tt) (va_up (grv) (z) (z)) ((hdF2 ML)) (ns) (w) (cs) (cl) (nd) (lo) (ho) (so))) H := hP
        have hD : va_D vA ((wM G (a) (n) (cu) (bg) ((coF M)) ((goF M)) (er) (us) (ll) (lm) (lh) (nv) (fr) (tt) (va_up (grv) (z) (z)) ((hdF2 ML)) (ns) (w) (cs) (cl) (nd) (lo) (ho) (so))) := hD
        refine lv_iinc (v := (nI (z + 1))) (lv' := [(2, .int (nI (z + 1))), (0, .ref (a 0)), (1, .int (nI (k)))]) hx hb dX7_findGroups_17 hl (k := 0) rfl (by exact nI_add (z) 1) (by decide) rfl (fun ls hl => ?_)
        refine lv_goto (tgt := 2) hx hb dX7_findGroups_20 (by decide) ?_
        exact ih2 (z + 1) (va_up (grv) (z) (z)) _ _ _ (by omega) (by omega) (by rw [el]; exact id0_s) (lv_sub hl [0, 1, 2] rfl) hP hD hS
  exact K2 ((9 - (0)) + 1) (0) (gr) _ _ _ (Nat.lt_succ_self _) (by omega) (by exact id0_0.symm) (lv_sub hl [0, 1, 2] rfl) hP hD hS
set_option maxHeartbeats 4000000 in
set_option maxRecDepth 100000 in
theorem c_X7_isSet (lc : Launch) (G : nwG) (a : Nat → Nat) (n : Nat) (cu bg : Nat → Int32) (M : Nat → Nat → Int32) (er us ll lm lh : Int32) (nv : Nat) (fr tt gr : Nat → Nat) (ML : Nat → Nat → Int32) (ns : Nat) (w : Nat → Nat) (cs cl : Nat → Int32) (nd : Nat) (lo ho : Nat → Int32) (so : Nat → Nat) (x : Int32) (hnv : nv ≤ 12) : nwCi lc G yX7_isSet wsX7_isSet ({ frames := 1, cells := 0, slots := 0, locals := 22 } : Room) [.ref (a 0), .int (x)] ((wM G (a) (n) (cu) (bg) ((coF M)) ((goF M)) (er) (us) (ll) (lm) (lh) (nv) (fr) (tt) (gr) ((hdF2 ML)) (ns) (w) (cs) (cl) (nd) (lo) (ho) (so))) (fun r ww => ((r = 1 ∧ ¬ setBad nv x) ∨ (r = 0 ∧ setBad nv x)) ∧ ww = wM G (a) (n) (cu) (bg) ((coF M)) ((goF M)) (er) (us) (ll) (lm) (lh) (nv) (fr) (tt) (gr) ((hdF2 ML)) (ns) (w) (cs) (cl) (nd) (lo) (ho) (so)) := by
  refine nw_of (cc := cX7_isSet) (maxL := 2) (ret := (some .boolean)) (by decide) rfl (Nat.le_of_ble_eq_true rfl) ?_
  intro vp ve vs vm vb vt vc vA ls X hP hD hA hS hl
  have X : nwAt vp vm vc cX7_isSet 2 vs _ wsX7_isSet RX7 vt (some .boolean) "isSet" G := X
  have hx := X.1.1
  have hb := X.1.2.1
  have hown := X.1.2.2.2.1
  have hts := X.1.2.2.2.2
  have hK := X.2.2.2.2
  have hl : lv_has ls 2 [(0, .ref (a 0)), (1, .int (x))] := hl
  refine lv_iload_n hx hb dX7_isSet_0 rfl (lv_at hl 1 rfl) ?_
  refine lv_iconst (v := (0)) hx hb dX7_isSet_1 (by decide) ?_
  refine lv_iconst (v := (1)) hx hb dX7_isSet_2 (by decide) ?_
  refine lv_aload_n hx hb dX7_isSet_3 rfl (lv_at hl 0 rfl) ?_
  refine va_get (D := G.1) (ci := 6) (v := .int (nI (nv))) (C := RX7) (T := TX7) (N := 23) hx hb hts in_X7_isSet_X7 hown hK.1 hP 0 rfl rfl 10 (by decide) (hts (.fieldLink RX7 97 "NightWaterModel" "valves" "I") (List.mem_of_getElem? (i := 1) rfl)) (fun _ h9 => h9) rfl dX7_isSet_4 ?_
  refine lv_ishl hx hb dX7_isSet_7 ?_
  refine lv_iconst (v := (1)) hx hb dX7_isSet_8 (by decide) ?_
  refine lv_isub hx hb dX7_isSet_9 ?_
  refine nw_Si (As := [.int (x), .int (0), .int (((1 : Int32) <<< ((nI (nv)) &&& 31)) - (1 : Int32))]) (rest := []) X (c_X7_in lc G ((x)) ((0 : Int32)) ((((1 : Int32) <<< ((nI (nv)) &&& 31)) - (1 : Int32))) ) (va_cwS 3 hts gX7_isSet_X7_in rfl rfl rfl (by decide +kernel) ⟨Nat.le_of_ble_eq_true rfl, Nat.le_of_ble_eq_true rfl⟩) (fun _ _ h => h.2) hP hD hS hA rfl hl.1 rfl (Nat.le_of_ble_eq_true rfl) dX7_isSet_10 ⟨Nat.le_of_ble_eq_true rfl, Nat.le_of_ble_eq_true rfl⟩ (fun r H locs hp_1 hP hD hS => ?_)
  obtain ⟨⟨rfl, q_2⟩ | ⟨rfl, q_2⟩, -⟩ := hp_1
  · skip
    have q_2 : ¬ out ((x)) ((0 : Int32)) ((((1 : Int32) <<< ((nI (nv)) &&& 31)) - (1 : Int32))) := q_2
    exact nw_zret (rm := ({ frames := 1, cells := 0, slots := 0, locals := 22 } : Room)) X (by decide) hP hD hS (⟨Or.inl ⟨rfl, by unfold setBad; rw [← nw_shl1 nv (by omega)]; exact q_2⟩, rfl⟩) dX7_isSet_13
  · skip
    have q_2 : out ((x)) ((0 : Int32)) ((((1 : Int32) <<< ((nI (nv)) &&& 31)) - (1 : Int32))) := q_2
    exact nw_zret (rm := ({ frames := 1, cells := 0, slots := 0, locals := 22 } : Room)) X (by decide) hP hD hS (⟨Or.inr ⟨rfl, by unfold setBad; rw [← nw_shl1 nv (by omega)]; exact q_2⟩, rfl⟩) dX7_isSet_13
set_option maxHeartbeats 4000000 in
set_option maxRecDepth 100000 in
theorem c_X7_group (lc : Launch) (G : nwG) (a : Nat → Nat) (n : Nat) (cu bg : Nat → Int32) (M : Nat → Nat → Int32) (er us ll lm lh : Int32) (nv : Nat) (fr tt gr : Nat → Nat) (ML : Nat → Nat → Int32) (ns : Nat) (w : Nat → Nat) (cs cl : Nat → Int32) (nd : Nat) (lo ho : Nat → Int32) (so : Nat → Nat) (z x : Int32) (hn : n ≤ 8) (hnv : nv ≤ 12) (hf : ∀ i, i < nv → fr i < n ∧ tt i < n) (hgr : ∀ j, gr j < 8) : nwCi lc G yX7_group wsX7_group ({ frames := 2, cells := 0, slots := 0, locals := 43 } : Room) [.ref (a 0), .int (z), .int (x)] ((wM G (a) (n) (cu) (bg) ((coF M)) ((goF M)) (er) (us) (ll) (lm) (lh) (nv) (fr) (tt) (gr) ((hdF2 ML)) (ns) (w) (cs) (cl) (nd) (lo) (ho) (so))) (fun r ww => ∃ grv : Nat → Nat, (∀ j, grv j < 8) ∧ r = groupF n nv fr tt z x ∧ ww = wM G (a) (n) (cu) (bg) ((coF M)) ((goF M)) (er) (us) (ll) (lm) (lh) (nv) (fr) (tt) (grv) ((hdF2 ML)) (ns) (w) (cs) (cl) (nd) (lo) (ho) (so)) := by
  refine nw_of (cc := cX7_group) (maxL := 3) (ret := (some .int)) (by decide) rfl (Nat.le_of_ble_eq_true rfl) ?_
  intro vp ve vs vm vb vt vc vA ls X hP hD hA hS hl
  have X : nwAt vp vm vc cX7_group 3 vs _ wsX7_group RX7 vt (some .int) "group" G := X
  have hx := X.1.1
  have hb := X.1.2.1
  have hown := X.1.2.2.2.1
  have hts := X.1.2.2.2.2
  have hK := X.2.2.2.2
  have hl : lv_has ls 3 [(0, .ref (a 0)), (1, .int (z)), (2, .int (x))] := hl
  refine lv_aload_n hx hb dX7_group_0 rfl (lv_at hl 0 rfl) ?_
  refine lv_iload_n hx hb dX7_group_1 rfl (lv_at hl 1 rfl) ?_
  refine nw_Vi (As := [.int (z)]) (rest := []) (q0 := 0) X (c_X7_isZone lc G (a) (n) (cu) (bg) (M) (er) (us) (ll) (lm) (lh) (nv) (fr) (tt) (gr) (ML) (ns) (w) (cs) (cl) (nd) (lo) (ho) (so) ((z)) ) (cwV 1 hts gX7_group_X7_isZone rfl rfl rfl (by decide +kernel) ⟨Nat.le_of_ble_eq_true rfl, Nat.le_of_ble_eq_true rfl⟩) rfl (show vwCl[6]? = some (RX7, TX7, 23) from rfl) (nwSp.all ((wM G (a) (n) (cu) (bg) ((coF M)) ((goF M)) (er) (us) (ll) (lm) (lh) (nv) (fr) (tt) (gr) ((hdF2 ML)) (ns) (w) (cs) (cl) (nd) (lo) (ho) (so)))) hP hD hS hA rfl hl.1 rfl (Nat.le_of_ble_eq_true rfl) dX7_group_2 ⟨Nat.le_of_ble_eq_true rfl, Nat.le_of_ble_eq_true rfl⟩ (fun r w H locs hp_1 hP hD hS => ?_)
  obtain ⟨⟨rfl, q_2⟩ | ⟨rfl, q_2⟩, rfl⟩ := hp_1
  · skip
    have hP : va_P G.1 vwCl ((wM G (a) (n) (cu) (bg) ((coF M)) ((goF M)) (er) (us) (ll) (lm) (lh) (nv) (fr) (tt) (gr) ((hdF2 ML)) (ns) (w) (cs) (cl) (nd) (lo) (ho) (so))) H := hP
    have hD : va_D vA ((wM G (a) (n) (cu) (bg) ((coF M)) ((goF M)) (er) (us) (ll) (lm) (lh) (nv) (fr) (tt) (gr) ((hdF2 ML)) (ns) (w) (cs) (cl) (nd) (lo) (ho) (so))) := hD
    have q_2 : ¬ out ((z)) 0 (nI (n) - 1) := q_2
    obtain ⟨z_3, hz_4, he_5⟩ := nw_lt (n := n) (by omega) q_2
    have ec_6 := nw_clamp he_5 (by omega)
    refine lv_if_eq (tgt := 16) hx hb dX7_group_5 (by decide) (fun c9 => absurd c9 (by decide)) (fun _ => ?_)
    refine lv_aload_n hx hb dX7_group_8 rfl (lv_at hl 0 rfl) ?_
    refine lv_iload_n hx hb dX7_group_9 rfl (lv_at hl 2 rfl) ?_
    refine nw_Vi (As := [.int (x)]) (rest := []) (q0 := 0) X (c_X7_isSet lc G (a) (n) (cu) (bg) (M) (er) (us) (ll) (lm) (lh) (nv) (fr) (tt) (gr) (ML) (ns) (w) (cs) (cl) (nd) (lo) (ho) (so) ((x)) (by first | assumption | omega)) (cwV 1 hts gX7_group_X7_isSet rfl rfl rfl (by decide +kernel) ⟨Nat.le_of_ble_eq_true rfl, Nat.le_of_ble_eq_true rfl⟩) rfl (show vwCl[6]? = some (RX7, TX7, 23) from rfl) (nwSp.all ((wM G (a) (n) (cu) (bg) ((coF M)) ((goF M)) (er) (us) (ll) (lm) (lh) (nv) (fr) (tt) (gr) ((hdF2 ML)) (ns) (w) (cs) (cl) (nd) (lo) (ho) (so)))) hP hD hS hA rfl hl.1 rfl (Nat.le_of_ble_eq_true rfl) dX7_group_10 ⟨Nat.le_of_ble_eq_true rfl, Nat.le_of_ble_eq_true rfl⟩ (fun r w H locs hp_8 hP hD hS => ?_)
    obtain ⟨⟨rfl, q_9⟩ | ⟨rfl, q_9⟩, rfl⟩ := hp_8
    · skip
      have hP : va_P G.1 vwCl ((wM G (a) (n) (cu) (bg) ((coF M)) ((goF M)) (er) (us) (ll) (lm) (lh) (nv) (fr) (tt) (gr) ((hdF2 ML)) (ns) (w) (cs) (cl) (nd) (lo) (ho) (so))) H := hP
      have hD : va_D vA ((wM G (a) (n) (cu) (bg) ((coF M)) ((goF M)) (er) (us) (ll) (lm) (lh) (nv) (fr) (tt) (gr) ((hdF2 ML)) (ns) (w) (cs) (cl) (nd) (lo) (ho) (so))) := hD
      have q_9 : ¬ setBad (nv) ((x)) := q_9
      have hpw_14 := nw_pow_lt hnv
      obtain ⟨k_10, hk_11, he_12⟩ := nw_lt (n := 2 ^ nv) (by omega) q_9
      have ec_13 := nw_clamp he_12 (by omega)
      refine lv_if_ne (tgt := 19) hx hb dX7_group_13 (by decide) (fun _ => ?_) (fun c9 => absurd c9 (by decide))
      refine lv_aload_n hx hb dX7_group_19 rfl (lv_at hl 0 rfl) ?_
      refine lv_iload_n hx hb dX7_group_20 rfl (lv_at hl 2 rfl) ?_
      refine nw_st (st' := [.int (nI (k_10)), .ref (a 0)]) (by rw [he_12]) ?_
      refine nw_Vv (As := [.int (nI (k_10))]) (rest := []) (q0 := 0) X (c_X7_findGroups lc G (a) (n) (cu) (bg) (M) (er) (us) (ll) (lm) (lh) (nv) (fr) (tt) (gr) (ML) (ns) (w) (cs) (cl) (nd) (lo) (ho) (so) (k_10) (by first | assumption | omega) (by first | assumption | omega) (by first | assumption | omega) (by first | assumption | omega) (by first | assumption | omega)) (cwV 1 hts gX7_group_X7_findGroups rfl rfl rfl (by decide +kernel) ⟨Nat.le_of_ble_eq_true rfl, Nat.le_of_ble_eq_true rfl⟩) rfl (show vwCl[6]? = some (RX7, TX7, 23) from rfl) (nwSp.all ((wM G (a) (n) (cu) (bg) ((coF M)) ((goF M)) (er) (us) (ll) (lm) (lh) (nv) (fr) (tt) (gr) ((hdF2 ML)) (ns) (w) (cs) (cl) (nd) (lo) (ho) (so)))) hP hD hS hA rfl hl.1 rfl (Nat.le_of_ble_eq_true rfl) dX7_group_21 ⟨Nat.le_of_ble_eq_true rfl, Nat.le_of_ble_eq_true rfl⟩ (fun w H locs hp_16 hP hD hS => ?_)
      obtain rfl := hp_16
      have hP : va_P G.1 vwCl ((wM G (a) (n) (cu) (bg) ((coF M)) ((goF M)) (er) (us) (ll) (lm) (lh) (nv) (fr) (tt) (grF n fr tt k_10 gr nv) ((hdF2 ML)) (ns) (w) (cs) (cl) (nd) (lo) (ho) (so))) H := hP
      have hD : va_D vA ((wM G (a) (n) (cu) (bg) ((coF M)) ((goF M)) (er) (us) (ll) (lm) (lh) (nv) (fr) (tt) (grF n fr tt k_10 gr nv) ((hdF2 ML)) (ns) (w) (cs) (cl) (nd) (lo) (ho) (so))) := hD
      refine lv_aload_n hx hb dX7_group_24 rfl (lv_at hl 0 rfl) ?_
      refine va_get (D := G.1) (ci := 6) (v := .ref (a 7)) (C := RX7) (T := TX7) (N := 23) hx hb hts in_X7_group_X7 hown hK.1 hP 0 rfl rfl 13 (by decide) (hts (.fieldLink RX7 35 "NightWaterModel" "groupOf" "[I") (List.mem_of_getElem? (i := 1) rfl)) (fun _ h9 => h9) rfl dX7_group_25 ?_
      refine lv_iload_n hx hb dX7_group_28 rfl (lv_at hl 1 rfl) ?_
      refine nw_iald X hP 7 (n := 8) (f := (fun j => nI ((grF n fr tt k_10 gr nv) j))) rfl (z_3) he_5 (by omega) (by decide) dX7_group_29 ?_
      exact nw_iret (rm := ({ frames := 2, cells := 0, slots := 0, locals := 43 } : Room)) X hP hD hS (⟨_, grF_b hn hgr nv, by simp only [groupF, nwIf_T, nwIf_F, or_true, true_or, or_false, false_or, and_true, true_and, and_false, false_and, not_true_eq_false, not_false_eq_true, Nat.add_sub_cancel, q_2, ec_6, q_9, ec_13]; rw [grF_junk (g1 := fun _ => 0) hf nv (Nat.le_refl nv) z_3 (by omega)], rfl⟩) dX7_group_30
    · skip
      have hP : va_P G.1 vwCl ((wM G (a) (n) (cu) (bg) ((coF M)) ((goF M)) (er) (us) (ll) (lm) (lh) (nv) (fr) (tt) (gr) ((hdF2 ML)) (ns) (w) (cs) (cl) (nd) (lo) (ho) (so))) H := hP
      have hD : va_D vA ((wM G (a) (n) (cu) (bg) ((coF M)) ((goF M)) (er) (us) (ll) (lm) (lh) (nv) (fr) (tt) (gr) ((hdF2 ML)) (ns) (w) (cs) (cl) (nd) (lo) (ho) (so))) := hD
      have q_9 : setBad (nv) ((x)) := q_9
      refine lv_if_ne (tgt := 19) hx hb dX7_group_13 (by decide) (fun c9 => absurd c9 (by decide)) (fun _ => ?_)
      refine lv_bipush (v := (-2)) hx hb dX7_group_16 (by decide) ?_
      exact nw_iret (rm := ({ frames := 2, cells := 0, slots := 0, locals := 43 } : Room)) X hP hD hS (⟨gr, hgr, by simp only [groupF, nwIf_T, nwIf_F, or_true, true_or, or_false, false_or, and_true, true_and, and_false, false_and, not_true_eq_false, not_false_eq_true, Nat.add_sub_cancel, q_2, ec_6, q_9], rfl⟩) dX7_group_18
  · skip
    have hP : va_P G.1 vwCl ((wM G (a) (n) (cu) (bg) ((coF M)) ((goF M)) (er) (us) (ll) (lm) (lh) (nv) (fr) (tt) (gr) ((hdF2 ML)) (ns) (w) (cs) (cl) (nd) (lo) (ho) (so))) H := hP
    have hD : va_D vA ((wM G (a) (n) (cu) (bg) ((coF M)) ((goF M)) (er) (us) (ll) (lm) (lh) (nv) (fr) (tt) (gr) ((hdF2 ML)) (ns) (w) (cs) (cl) (nd) (lo) (ho) (so))) := hD
    have q_2 : out ((z)) 0 (nI (n) - 1) := q_2
    refine lv_if_eq (tgt := 16) hx hb dX7_group_5 (by decide) (fun _ => ?_) (fun c9 => absurd (by decide) c9)
    refine lv_bipush (v := (-2)) hx hb dX7_group_16 (by decide) ?_
    exact nw_iret (rm := ({ frames := 2, cells := 0, slots := 0, locals := 43 } : Room)) X hP hD hS (⟨gr, hgr, by simp only [groupF, nwIf_T, nwIf_F, or_true, true_or, or_false, false_or, and_true, true_and, and_false, false_and, not_true_eq_false, not_false_eq_true, Nat.add_sub_cancel, q_2], rfl⟩) dX7_group_18
set_option maxHeartbeats 4000000 in
set_option maxRecDepth 100000 in
theorem c_X7_doesExplain (lc : Launch) (G : nwG) (a : Nat → Nat) (n : Nat) (cu bg : Nat → Int32) (M : Nat → Nat → Int32) (er us ll lm lh : Int32) (nv : Nat) (fr tt gr : Nat → Nat) (ML : Nat → Nat → Int32) (ns : Nat) (w : Nat → Nat) (cs cl : Nat → Int32) (nd : Nat) (lo ho : Nat → Int32) (so : Nat → Nat) (k : Nat) (hn : n ≤ 8) (hnv : nv ≤ 12) (hf : ∀ i, i < nv → fr i < n ∧ tt i < n) (hgr : ∀ j, gr j < 8) (hk : k < 4096) : nwCi lc G yX7_doesExplain wsX7_doesExplain ({ frames := 3, cells := 0, slots := 0, locals := 68 } : Room) [.ref (a 0), .int (nI (k))] ((wM G (a) (n) (cu) (bg) ((coF M)) ((goF M)) (er) (us) (ll) (lm) (lh) (nv) (fr) (tt) (gr) ((hdF2 ML)) (ns) (w) (cs) (cl) (nd) (lo) (ho) (so))) (fun r ww => ∃ llv lmv lhv : Int32, ((r = 1 ∧ expl n (grF n fr tt k gr nv) (lk1 cu bg M er us)) ∨ (r = 0 ∧ ¬ expl n (grF n fr tt k gr nv) (lk1 cu bg M er us))) ∧ ww = wM G (a) (n) (cu) (bg) ((coF M)) ((goF M)) (er) (us) (llv) (lmv) (lhv) (nv) (fr) (tt) ((grF n fr tt k gr nv)) ((hdF2 ML)) (ns) (w) (cs) (cl) (nd) (lo) (ho) (so)) := by
  refine nw_of (cc := cX7_doesExplain) (maxL := 7) (ret := (some .boolean)) (by decide) rfl (Nat.le_of_ble_eq_true rfl) ?_
  intro vp ve vs vm vb vt vc vA ls X hP hD hA hS hl
  have X : nwAt vp vm vc cX7_doesExplain 7 vs _ wsX7_doesExplain RX7 vt (some .boolean) "doesExplain" G := X
  have hx := X.1.1
  have hb := X.1.2.1
  have hown := X.1.2.2.2.1
  have hts := X.1.2.2.2.2
  have hK := X.2.2.2.2
  have hl : lv_has ls 7 [(0, .ref (a 0)), (1, .int (nI (k)))] := hl
  refine lv_aload_n hx hb dX7_doesExplain_0 rfl (lv_at hl 0 rfl) ?_
  refine lv_iload_n hx hb dX7_doesExplain_1 rfl (lv_at hl 1 rfl) ?_
  refine nw_st (st' := [.int (nI (k)), .ref (a 0)]) (by rfl) ?_
  refine nw_Vv (As := [.int (nI (k))]) (rest := []) (q0 := 0) X (c_X7_findGroups lc G (a) (n) (cu) (bg) (M) (er) (us) (ll) (lm) (lh) (nv) (fr) (tt) (gr) (ML) (ns) (w) (cs) (cl) (nd) (lo) (ho) (so) (k) (by first | assumption | omega) (by first | assumption | omega) (by first | assumption | omega) (by first | assumption | omega) (by first | assumption | omega)) (cwV 1 hts gX7_doesExplain_X7_findGroups rfl rfl rfl (by decide +kernel) ⟨Nat.le_of_ble_eq_true rfl, Nat.le_of_ble_eq_true rfl⟩) rfl (show vwCl[6]? = some (RX7, TX7, 23) from rfl) (nwSp.all ((wM G (a) (n) (cu) (bg) ((coF M)) ((goF M)) (er) (us) (ll) (lm) (lh) (nv) (fr) (tt) (gr) ((hdF2 ML)) (ns) (w) (cs) (cl) (nd) (lo) (ho) (so)))) hP hD hS hA rfl hl.1 rfl (Nat.le_of_ble_eq_true rfl) dX7_doesExplain_2 ⟨Nat.le_of_ble_eq_true rfl, Nat.le_of_ble_eq_true rfl⟩ (fun w H locs hp_1 hP hD hS => ?_)
  obtain rfl := hp_1
  have hP : va_P G.1 vwCl ((wM G (a) (n) (cu) (bg) ((coF M)) ((goF M)) (er) (us) (ll) (lm) (lh) (nv) (fr) (tt) (grF n fr tt k gr nv) ((hdF2 ML)) (ns) (w) (cs) (cl) (nd) (lo) (ho) (so))) H := hP
  have hD : va_D vA ((wM G (a) (n) (cu) (bg) ((coF M)) ((goF M)) (er) (us) (ll) (lm) (lh) (nv) (fr) (tt) (grF n fr tt k gr nv) ((hdF2 ML)) (ns) (w) (cs) (cl) (nd) (lo) (ho) (so))) := hD
  refine lv_iconst (v := (0)) hx hb dX7_doesExplain_5 (by decide) ?_
  refine lv_istore_n (lv' := [(2, .int (0)), (0, .ref (a 0)), (1, .int (nI (k)))]) hx hb dX7_doesExplain_6 rfl hl (by decide) rfl (fun ls hl => ?_)
  have K7 : ∀ (fuel : Nat) (g : Nat) (x7 : Int32) (x8 : Int32) (x9 : Int32) (H : Heap) (locs : List Loc) (ls : Array Slot), (9 - g) < fuel → (g ≤ n) → (∀ j, j < g → gunt (grF n fr tt k gr nv) (lk1 cu bg M er us) j n ∨ ¬ gsum (grF n fr tt k gr nv) (lk1 cu bg M er us) j n < 0) → lv_has ls 7 [(2, .int (nI (g))), (0, .ref (a 0)), (1, .int (nI (k)))] → va_P G.1 vwCl ((wM G (a) (n) (cu) (bg) ((coF M)) ((goF M)) (er) (us) (x7) (x8) (x9) (nv) (fr) (tt) (grF n fr tt k gr nv) ((hdF2 ML)) (ns) (w) (cs) (cl) (nd) (lo) (ho) (so))) H → va_D vA ((wM G (a) (n) (cu) (bg) ((coF M)) ((goF M)) (er) (us) (x7) (x8) (x9) (nv) (fr) (tt) (grF n fr tt k gr nv) ((hdF2 ML)) (ns) (w) (cs) (cl) (nd) (lo) (ho) (so))) → va_S vA vs.heap H locs → W vp lc ve ({ frames := 3, cells := 0, slots := 0, locals := 68 } : Room) vs vm ([.ref (a 0), .int (nI (k))] : List Value).toArray vb vt vc H locs 0 0 (MQ vb (nwQi G (fun r ww => ∃ llv lmv lhv : Int32, ((r = 1 ∧ expl n (grF n fr tt k gr nv) (lk1 cu bg M er us)) ∨ (r = 0 ∧ ¬ expl n (grF n fr tt k gr nv) (lk1 cu bg M er us))) ∧ ww = wM G (a) (n) (cu) (bg) ((coF M)) ((goF M)) (er) (us) (llv) (lmv) (lhv) (nv) (fr) (tt) ((grF n fr tt k gr nv)) ((hdF2 ML)) (ns) (w) (cs) (cl) (nd) (lo) (ho) (so)) vA) ([.ref (a 0), .int (nI (k))] : List Value).toArray vs ({ frames := 3, cells := 0, slots := 0, locals := 68 } : Room).cells ({ frames := 3, cells := 0, slots := 0, locals := 68 } : Room).slots vA) (F0 vm 7 ls []) := by
    intro fuel
    induction fuel with
    | zero => intro g x7 x8 x9 H locs ls hmu; exact absurd hmu (Nat.not_lt_zero _)
    | succ fuel ih7 =>
      intro g x7 x8 x9 H locs ls hmu hg e2 hl hP hD hS
      refine lv_iload_n hx hb dX7_doesExplain_7 rfl (lv_at hl 0 rfl) ?_
      refine lv_aload_n hx hb dX7_doesExplain_8 rfl (lv_at hl 1 rfl) ?_
      refine va_get (D := G.1) (ci := 6) (v := .int (nI (n))) (C := RX7) (T := TX7) (N := 23) hx hb hts in_X7_doesExplain_X7 hown hK.1 hP 0 rfl rfl 0 (by decide) (hts (Cond.fieldLink RX7 62 "NightWaterModel" "zones" "I") (List.mem_of_getElem? (i := 1) rfl)) (fun _ h9 => h9) rfl dX7_doesExplain_9 ?_
      refine lv_icmp_ge (tgt := 121) hx hb dX7_doesExplain_12 (by decide) (fun b12_2 => ?_) (fun b12_2 => ?_)
      · skip
        have b12_2 : (n) ≤ (g) := (nI_leI (a := n) (b := g) (by omega) (by omega)).mp b12_2
        have b12_2n : ¬ ((g) < (n)) := by omega
        refine lv_iconst (v := (1)) hx hb dX7_doesExplain_121 (by decide) ?_
        exact nw_zret (rm := ({ frames := 3, cells := 0, slots := 0, locals := 68 } : Room)) X (by decide) hP hD hS (⟨_, _, _, Or.inl ⟨rfl, fun j hj => e2 j (by omega)⟩, rfl⟩) dX7_doesExplain_122
      · skip
        have b12_2 : ¬ ((n) ≤ (g)) := fun h => b12_2 ((nI_leI (a := n) (b := g) (by omega) (by omega)).mpr h)
        have b12_2n : (g) < (n) := by omega
        have hgg8 : (grF n fr tt k gr nv) g < n := grF_lt hf (Nat.le_refl nv) (by omega)
        refine lv_aload_n hx hb dX7_doesExplain_15 rfl (lv_at hl 1 rfl) ?_
        refine va_get (D := G.1) (ci := 6) (v := .ref (a 7)) (C := RX7) (T := TX7) (N := 23) hx hb hts in_X7_doesExplain_X7 hown hK.1 hP 0 rfl rfl 13 (by decide) (hts (Cond.fieldLink RX7 35 "NightWaterModel" "groupOf" "[I") (List.mem_of_getElem? (i := 2) rfl)) (fun _ h9 => h9) rfl dX7_doesExplain_16 ?_
        refine lv_iload_n hx hb dX7_doesExplain_19 rfl (lv_at hl 0 rfl) ?_
        refine nw_iald X hP 7 (n := 8) (f := (fun j => nI ((grF n fr tt k gr nv) j))) rfl (g) rfl (by omega) (by decide) dX7_doesExplain_20 ?_
        refine lv_iload_n hx hb dX7_doesExplain_21 rfl (lv_at hl 0 rfl) ?_
        refine lv_icmp_ne (tgt := 29) hx hb dX7_doesExplain_22 (by decide) (fun b22_3 => ?_) (fun b22_3 => ?_)
        · skip
          have b22_3 : ¬ (((grF n fr tt k gr nv) (g)) = (g)) := fun h => b22_3 ((nI_eq (a := (grF n fr tt k gr nv) (g)) (b := g) (by omega) (by omega)).mpr h)
          have hgg : ¬ (grF n fr tt k gr nv) g = g := b22_3
          refine lv_iconst (v := (0)) hx hb dX7_doesExplain_29 (by decide) ?_
          refine lv_istore_n (lv' := [(3, .int (0)), (2, .int (nI (g))), (0, .ref (a 0)), (1, .int (nI (k)))]) hx hb dX7_doesExplain_30 rfl hl (by decide) rfl (fun ls hl => ?_)
          refine lv_iconst (v := (0)) hx hb dX7_doesExplain_31 (by decide) ?_
          refine lv_istore (lv' := [(4, .int (0)), (3, .int (0)), (2, .int (nI (g))), (0, .ref (a 0)), (1, .int (nI (k)))]) hx hb dX7_doesExplain_32 hl (by decide) rfl (fun ls hl => ?_)
          refine lv_iconst (v := (0)) hx hb dX7_doesExplain_34 (by decide) ?_
          refine lv_istore (lv' := [(5, .int (0)), (4, .int (0)), (3, .int (0)), (2, .int (nI (g))), (0, .ref (a 0)), (1, .int (nI (k)))]) hx hb dX7_doesExplain_35 hl (by decide) rfl (fun ls hl => ?_)
          have K37 : ∀ (fuel : Nat) (z : Nat) (al : Nat) (sm : Int32) (y7 : Int32) (y8 : Int32) (y9 : Int32) (H : Heap) (locs : List Loc) (ls : Array Slot), (9 - z) < fuel → (z ≤ n) → (dsI n (grF n fr tt k gr nv) (lk1 cu bg M er us) g z al sm) → lv_has ls 7 [(5, .int (nI (z))), (4, .int (sm)), (3, .int (nI (al))), (2, .int (nI (g))), (0, .ref (a 0)), (1, .int (nI (k)))] → va_P G.1 vwCl ((wM G (a) (n) (cu) (bg) ((coF M)) ((goF M)) (er) (us) (y7) (y8) (y9) (nv) (fr) (tt) (grF n fr tt k gr nv) ((hdF2 ML)) (ns) (w) (cs) (cl) (nd) (lo) (ho) (so))) H → va_D vA ((wM G (a) (n) (cu) (bg) ((coF M)) ((goF M)) (er) (us) (y7) (y8) (y9) (nv) (fr) (tt) (grF n fr tt k gr nv) ((hdF2 ML)) (ns) (w) (cs) (cl) (nd) (lo) (ho) (so))) → va_S vA vs.heap H locs → W vp lc ve ({ frames := 3, cells := 0, slots := 0, locals := 68 } : Room) vs vm ([.ref (a 0), .int (nI (k))] : List Value).toArray vb vt vc H locs 0 0 (MQ vb (nwQi G (fun r ww => ∃ llv lmv lhv : Int32, ((r = 1 ∧ expl n (grF n fr tt k gr nv) (lk1 cu bg M er us)) ∨ (r = 0 ∧ ¬ expl n (grF n fr tt k gr nv) (lk1 cu bg M er us))) ∧ ww = wM G (a) (n) (cu) (bg) ((coF M)) ((goF M)) (er) (us) (llv) (lmv) (lhv) (nv) (fr) (tt) ((grF n fr tt k gr nv)) ((hdF2 ML)) (ns) (w) (cs) (cl) (nd) (lo) (ho) (so)) vA) ([.ref (a 0), .int (nI (k))] : List Value).toArray vs ({ frames := 3, cells := 0, slots := 0, locals := 68 } : Room).cells ({ frames := 3, cells := 0, slots := 0, locals := 68 } : Room).slots vA) (F0 vm 37 ls []) := by
            intro fuel
            induction fuel with
            | zero => intro z al sm y7 y8 y9 H locs ls hmu; exact absurd hmu (Nat.not_lt_zero _)
            | succ fuel ih37 =>
              intro z al sm y7 y8 y9 H locs ls hmu hz hal hl hP hD hS
              have hal1 := dsI_1 hal
              have hgz : z < n → (grF n fr tt k gr nv) z < 8 := fun h => Nat.lt_of_lt_of_le (grF_lt hf (Nat.le_refl nv) h) hn
              refine lv_iload hx hb dX7_doesExplain_37 (lv_at hl 0 rfl) ?_
              refine lv_aload_n hx hb dX7_doesExplain_39 rfl (lv_at hl 4 rfl) ?_
              refine va_get (D := G.1) (ci := 6) (v := .int (nI (n))) (C := RX7) (T := TX7) (N := 23) hx hb hts in_X7_doesExplain_X7 hown hK.1 hP 0 rfl rfl 0 (by decide) (hts (Cond.fieldLink RX7 62 "NightWaterModel" "zones" "I") (List.mem_of_getElem? (i := 1) rfl)) (fun _ h9 => h9) rfl dX7_doesExplain_40 ?_
              refine lv_icmp_ge (tgt := 104) hx hb dX7_doesExplain_43 (by decide) (fun b43_4 => ?_) (fun b43_4 => ?_)
              · skip
                have b43_4 : (n) ≤ (z) := (nI_leI (a := n) (b := z) (by omega) (by omega)).mp b43_4
                have b43_4n : ¬ ((z) < (n)) := by omega
                refine lv_iload_n hx hb dX7_doesExplain_104 rfl (lv_at hl 2 rfl) ?_
                refine lv_if_eq (tgt := 115) hx hb dX7_doesExplain_105 (by decide) (fun b105_5 => ?_) (fun b105_5 => ?_)
                · skip
                  have b105_5 : (al) = (0) := (nI_eq (a := al) (b := 0) (by omega) (by omega)).mp b105_5
                  have hgood := dsI_0 hal (by omega) (fun j hj => (grF_ok hf nv (Nat.le_refl nv) j hj).2)
                  refine lv_iinc (v := (nI (g + 1))) (lv' := [(2, .int (nI (g + 1))), (5, .int (nI (z))), (4, .int (sm)), (3, .int (nI (al))), (0, .ref (a 0)), (1, .int (nI (k)))]) hx hb dX7_doesExplain_115 hl (k := 3) rfl (by exact nI_add (g) 1) (by decide) rfl (fun ls hl => ?_)
                  refine lv_goto (tgt := 7) hx hb dX7_doesExplain_118 (by decide) ?_
                  exact ih7 (g + 1) (y7) (y8) (y9) _ _ _ (by omega) (by omega) (by exact nw_ext e2 hgood) (lv_sub hl [0, 4, 5] rfl) hP hD hS
                · skip
                  have b105_5 : ¬ ((al) = (0)) := fun h => b105_5 ((nI_eq (a := al) (b := 0) (by omega) (by omega)).mpr h)
                  refine lv_iload hx hb dX7_doesExplain_108 (lv_at hl 1 rfl) ?_
                  refine lv_if_ge (tgt := 115) hx hb dX7_doesExplain_110 (by decide) (fun b110_6 => ?_) (fun b110_6 => ?_)
                  · skip
                    have b110_6 : (0 : Int32) ≤ (sm) := b110_6
                    have b110_6n : ¬ ((sm) < (0 : Int32)) := Int32.not_lt.mpr b110_6
                    have hgood : gunt (grF n fr tt k gr nv) (lk1 cu bg M er us) g n ∨ ¬ gsum (grF n fr tt k gr nv) (lk1 cu bg M er us) g n < 0 := by have h5 := dsI_n hal (by omega) (by omega); rw [h5.2] at b110_6; exact Or.inr (Int32.not_lt.mpr b110_6)
                    refine lv_iinc (v := (nI (g + 1))) (lv' := [(2, .int (nI (g + 1))), (5, .int (nI (z))), (4, .int (sm)), (3, .int (nI (al))), (0, .ref (a 0)), (1, .int (nI (k)))]) hx hb dX7_doesExplain_115 hl (k := 3) rfl (by exact nI_add (g) 1) (by decide) rfl (fun ls hl => ?_)
                    refine lv_goto (tgt := 7) hx hb dX7_doesExplain_118 (by decide) ?_
                    exact ih7 (g + 1) (y7) (y8) (y9) _ _ _ (by omega) (by omega) (by exact nw_ext e2 hgood) (lv_sub hl [0, 4, 5] rfl) hP hD hS
                  · skip
                    have b110_6 : ¬ ((0 : Int32) ≤ (sm)) := b110_6
                    have b110_6n : (sm) < (0 : Int32) := Int32.not_le.mp b110_6
                    have hbad : ¬ expl n (grF n fr tt k gr nv) (lk1 cu bg M er us) := fun h => by have h5 := dsI_n hal (by omega) (by omega); rw [h5.2] at b110_6n; exact (h g (by omega)).elim h5.1 (fun q => q b110_6n)
                    refine lv_iconst (v := (0)) hx hb dX7_doesExplain_113 (by decide) ?_
                    exact nw_zret (rm := ({ frames := 3, cells := 0, slots := 0, locals := 68 } : Room)) X (by decide) hP hD hS (⟨_, _, _, Or.inr ⟨rfl, hbad⟩, rfl⟩) dX7_doesExplain_114
              · skip
                have b43_4 : ¬ ((n) ≤ (z)) := fun h => b43_4 ((nI_leI (a := n) (b := z) (by omega) (by omega)).mpr h)
                have b43_4n : (z) < (n) := by omega
                refine lv_iload_n hx hb dX7_doesExplain_46 rfl (lv_at hl 2 rfl) ?_
                refine lv_if_eq (tgt := 104) hx hb dX7_doesExplain_47 (by decide) (fun b47_7 => ?_) (fun b47_7 => ?_)
                · skip
                  have b47_7 : (al) = (0) := (nI_eq (a := al) (b := 0) (by omega) (by omega)).mp b47_7
                  refine lv_iload_n hx hb dX7_doesExplain_104 rfl (lv_at hl 2 rfl) ?_
                  refine lv_if_eq (tgt := 115) hx hb dX7_doesExplain_105 (by decide) (fun b105_8 => ?_) (fun b105_8 => ?_)
                  · skip
                    have b105_8 : (al) = (0) := (nI_eq (a := al) (b := 0) (by omega) (by omega)).mp b105_8
                    have hgood := dsI_0 hal (by omega) (fun j hj => (grF_ok hf nv (Nat.le_refl nv) j hj).2)
                    refine lv_iinc (v := (nI (g + 1))) (lv' := [(2, .int (nI (g + 1))), (5, .int (nI (z))), (4, .int (sm)), (3, .int (nI (al))), (0, .ref (a 0)), (1, .int (nI (k)))]) hx hb dX7_doesExplain_115 hl (k := 3) rfl (by exact nI_add (g) 1) (by decide) rfl (fun ls hl => ?_)
                    refine lv_goto (tgt := 7) hx hb dX7_doesExplain_118 (by decide) ?_
                    exact ih7 (g + 1) (y7) (y8) (y9) _ _ _ (by omega) (by omega) (by exact nw_ext e2 hgood) (lv_sub hl [0, 4, 5] rfl) hP hD hS
                  · skip
                    have b105_8 : ¬ ((al) = (0)) := fun h => b105_8 ((nI_eq (a := al) (b := 0) (by omega) (by omega)).mpr h)
                    omega
                · skip
                  have b47_7 : ¬ ((al) = (0)) := fun h => b47_7 ((nI_eq (a := al) (b := 0) (by omega) (by omega)).mpr h)
                  have hgz8 := hgz (by omega)
                  refine lv_aload_n hx hb dX7_doesExplain_50 rfl (lv_at hl 4 rfl) ?_
                  refine va_get (D := G.1) (ci := 6) (v := .ref (a 7)) (C := RX7) (T := TX7) (N := 23) hx hb hts in_X7_doesExplain_X7 hown hK.1 hP 0 rfl rfl 13 (by decide) (hts (Cond.fieldLink RX7 35 "NightWaterModel" "groupOf" "[I") (List.mem_of_getElem? (i := 2) rfl)) (fun _ h9 => h9) rfl dX7_doesExplain_51 ?_
                  refine lv_iload hx hb dX7_doesExplain_54 (lv_at hl 0 rfl) ?_
                  refine nw_iald X hP 7 (n := 8) (f := (fun j => nI ((grF n fr tt k gr nv) j))) rfl (z) rfl (by omega) (by decide) dX7_doesExplain_56 ?_
                  refine lv_iload_n hx hb dX7_doesExplain_57 rfl (lv_at hl 3 rfl) ?_
                  refine lv_icmp_ne (tgt := 98) hx hb dX7_doesExplain_58 (by decide) (fun b58_9 => ?_) (fun b58_9 => ?_)
                  · skip
                    have b58_9 : ¬ (((grF n fr tt k gr nv) (z)) = (g)) := fun h => b58_9 ((nI_eq (a := (grF n fr tt k gr nv) (z)) (b := g) (by omega) (by omega)).mpr h)
                    have hgzg : ¬ (grF n fr tt k gr nv) z = g := b58_9
                    refine lv_iinc (v := (nI (z + 1))) (lv' := [(5, .int (nI (z + 1))), (4, .int (sm)), (3, .int (nI (al))), (2, .int (nI (g))), (0, .ref (a 0)), (1, .int (nI (k)))]) hx hb dX7_doesExplain_98 hl (k := 0) rfl (by exact nI_add (z) 1) (by decide) rfl (fun ls hl => ?_)
                    refine lv_goto (tgt := 37) hx hb dX7_doesExplain_101 (by decide) ?_
                    exact ih37 (z + 1) (al) ((sm)) (y7) (y8) (y9) _ _ _ (by omega) (by omega) (by first | exact dsI_skip hal (by assumption) hgzg | exact dsI_told hal (by assumption) hgzg hlz | exact dsI_lost hal (by assumption) hgzg hlz (by omega)) (lv_sub hl [0, 1, 2, 3, 4, 5] rfl) hP hD hS
                  · skip
                    have b58_9 : ((grF n fr tt k gr nv) (z)) = (g) := (nI_eq (a := (grF n fr tt k gr nv) (z)) (b := g) (by omega) (by omega)).mp b58_9
                    have hgzg : (grF n fr tt k gr nv) z = g := b58_9
                    refine lv_aload_n hx hb dX7_doesExplain_61 rfl (lv_at hl 4 rfl) ?_
                    refine lv_iload hx hb dX7_doesExplain_62 (lv_at hl 0 rfl) ?_
                    refine lv_iconst (v := (1)) hx hb dX7_doesExplain_64 (by decide) ?_
                    refine nw_st (st' := [.int (1), .int (nI (z)), .ref (a 0)]) (by rfl) ?_
                    refine nw_Vi (As := [.int (nI (z)), .int (1)]) (rest := []) (q0 := 0) X (c_X7_leaksOf lc G (a) (n) (cu) (bg) (M) (er) (us) (y7) (y8) (y9) (nv) (fr) (tt) (grF n fr tt k gr nv) (ML) (ns) (w) (cs) (cl) (nd) (lo) (ho) (so) (z) ((1 : Int32)) (by first | assumption | omega)) (cwV 2 hts gX7_doesExplain_X7_leaksOf rfl rfl rfl (by decide +kernel) ⟨Nat.le_of_ble_eq_true rfl, Nat.le_of_ble_eq_true rfl⟩) rfl (show vwCl[6]? = some (RX7, TX7, 23) from rfl) (nwSp.all ((wM G (a) (n) (cu) (bg) ((coF M)) ((goF M)) (er) (us) (y7) (y8) (y9) (nv) (fr) (tt) (grF n fr tt k gr nv) ((hdF2 ML)) (ns) (w) (cs) (cl) (nd) (lo) (ho) (so)))) hP hD hS hA rfl hl.1 rfl (Nat.le_of_ble_eq_true rfl) dX7_doesExplain_65 ⟨Nat.le_of_ble_eq_true rfl, Nat.le_of_ble_eq_true rfl⟩ (fun r w H locs hp_10 hP hD hS => ?_)
                    obtain ⟨llv_11, lmv_12, lhv_13, rfl, rfl⟩ := hp_10
                    have hP : va_P G.1 vwCl ((wM G (a) (n) (cu) (bg) ((coF M)) ((goF M)) (er) (us) (llv_11) (lmv_12) (lhv_13) (nv) (fr) (tt) (grF n fr tt k gr nv) ((hdF2 ML)) (ns) (w) (cs) (cl) (nd) (lo) (ho) (so))) H := hP
                    have hD : va_D vA ((wM G (a) (n) (cu) (bg) ((coF M)) ((goF M)) (er) (us) (llv_11) (lmv_12) (lhv_13) (nv) (fr) (tt) (grF n fr tt k gr nv) ((hdF2 ML)) (ns) (w) (cs) (cl) (nd) (lo) (ho) (so))) := hD
                    refine lv_istore (lv' := [(6, .int (leakF (er) (us) ((cu) (z)) ((bg) (z)) ((M) (z)) ((M) (8 + (z))) ((1 : Int32)))), (5, .int (nI (z))), (4, .int (sm)), (3, .int (nI (al))), (2, .int (nI (g))), (0, .ref (a 0)), (1, .int (nI (k)))]) hx hb dX7_doesExplain_68 hl (by decide) rfl (fun ls hl => ?_)
                    refine lv_iload hx hb dX7_doesExplain_70 (lv_at hl 0 rfl) ?_
                    refine lv_ldc (own := RX7) (v := (-2000000000)) hx hb hown (hts (Cond.constant RX7 92 (-2000000000)) (List.mem_of_getElem? (i := 3) rfl)) dX7_doesExplain_72 ?_
                    refine lv_icmp_eq (tgt := 81) hx hb dX7_doesExplain_74 (by decide) (fun b74_14 => ?_) (fun b74_14 => ?_)
                    · skip
                      have b74_14 : (leakF (er) (us) ((cu) (z)) ((bg) (z)) ((M) (z)) ((M) (8 + (z))) ((1 : Int32))) = (-2000000000 : Int32) := b74_14
                      have hlz : (lk1 cu bg M er us) z = -2000000000 := b74_14
                      refine lv_iconst (v := (0)) hx hb dX7_doesExplain_81 (by decide) ?_
                      refine lv_istore_n (lv' := [(3, .int (0)), (6, .int (leakF (er) (us) ((cu) (z)) ((bg) (z)) ((M) (z)) ((M) (8 + (z))) ((1 : Int32)))), (5, .int (nI (z))), (4, .int (sm)), (2, .int (nI (g))), (0, .ref (a 0)), (1, .int (nI (k)))]) hx hb dX7_doesExplain_82 rfl hl (by decide) rfl (fun ls hl => ?_)
                      refine lv_iload hx hb dX7_doesExplain_83 (lv_at hl 3 rfl) ?_
                      refine lv_iload_n hx hb dX7_doesExplain_85 rfl (lv_at hl 0 rfl) ?_
                      refine lv_if_eq (tgt := 94) hx hb dX7_doesExplain_86 (by decide) (fun _ => ?_) (fun c9 => absurd (by decide) c9)
                      refine lv_iconst (v := (0)) hx hb dX7_doesExplain_94 (by decide) ?_
                      refine lv_iadd hx hb dX7_doesExplain_95 ?_
                      refine lv_istore (lv' := [(4, .int ((sm) + (0 : Int32))), (3, .int (0)), (6, .int (leakF (er) (us) ((cu) (z)) ((bg) (z)) ((M) (z)) ((M) (8 + (z))) ((1 : Int32)))), (5, .int (nI (z))), (2, .int (nI (g))), (0, .ref (a 0)), (1, .int (nI (k)))]) hx hb dX7_doesExplain_96 hl (by decide) rfl (fun ls hl => ?_)
                      refine lv_iinc (v := (nI (z + 1))) (lv' := [(5, .int (nI (z + 1))), (4, .int ((sm) + (0 : Int32))), (3, .int (0)), (6, .int (leakF (er) (us) ((cu) (z)) ((bg) (z)) ((M) (z)) ((M) (8 + (z))) ((1 : Int32)))), (2, .int (nI (g))), (0, .ref (a 0)), (1, .int (nI (k)))]) hx hb dX7_doesExplain_98 hl (k := 3) rfl (by exact nI_add (z) 1) (by decide) rfl (fun ls hl => ?_)
                      refine lv_goto (tgt := 37) hx hb dX7_doesExplain_101 (by decide) ?_
                      exact ih37 (z + 1) (0) (((sm) + (0 : Int32))) (llv_11) (lmv_12) (lhv_13) _ _ _ (by omega) (by omega) (by first | exact dsI_skip hal (by assumption) hgzg | exact dsI_told hal (by assumption) hgzg hlz | exact dsI_lost hal (by assumption) hgzg hlz (by omega)) (lv_sub hl [0, 1, 2, 4, 5, 6] rfl) hP hD hS
                    · skip
                      have b74_14 : ¬ ((leakF (er) (us) ((cu) (z)) ((bg) (z)) ((M) (z)) ((M) (8 + (z))) ((1 : Int32))) = (-2000000000 : Int32)) := b74_14
                      have hlz : ¬ (lk1 cu bg M er us) z = -2000000000 := b74_14
                      refine lv_iconst (v := (1)) hx hb dX7_doesExplain_77 (by decide) ?_
                      refine lv_goto (tgt := 82) hx hb dX7_doesExplain_78 (by decide) ?_
                      refine lv_istore_n (lv' := [(3, .int (1)), (6, .int (leakF (er) (us) ((cu) (z)) ((bg) (z)) ((M) (z)) ((M) (8 + (z))) ((1 : Int32)))), (5, .int (nI (z))), (4, .int (sm)), (2, .int (nI (g))), (0, .ref (a 0)), (1, .int (nI (k)))]) hx hb dX7_doesExplain_82 rfl hl (by decide) rfl (fun ls hl => ?_)
                      refine lv_iload hx hb dX7_doesExplain_83 (lv_at hl 3 rfl) ?_
                      refine lv_iload_n hx hb dX7_doesExplain_85 rfl (lv_at hl 0 rfl) ?_
                      refine lv_if_eq (tgt := 94) hx hb dX7_doesExplain_86 (by decide) (fun c9 => absurd c9 (by decide)) (fun _ => ?_)
                      refine lv_iload hx hb dX7_doesExplain_89 (lv_at hl 1 rfl) ?_
                      refine lv_goto (tgt := 95) hx hb dX7_doesExplain_91 (by decide) ?_
                      refine lv_iadd hx hb dX7_doesExplain_95 ?_
                      refine lv_istore (lv' := [(4, .int ((sm) + (leakF (er) (us) ((cu) (z)) ((bg) (z)) ((M) (z)) ((M) (8 + (z))) ((1 : Int32))))), (3, .int (1)), (6, .int (leakF (er) (us) ((cu) (z)) ((bg) (z)) ((M) (z)) ((M) (8 + (z))) ((1 : Int32)))), (5, .int (nI (z))), (2, .int (nI (g))), (0, .ref (a 0)), (1, .int (nI (k)))]) hx hb dX7_doesExplain_96 hl (by decide) rfl (fun ls hl => ?_)
                      refine lv_iinc (v := (nI (z + 1))) (lv' := [(5, .int (nI (z + 1))), (4, .int ((sm) + (leakF (er) (us) ((cu) (z)) ((bg) (z)) ((M) (z)) ((M) (8 + (z))) ((1 : Int32))))), (3, .int (1)), (6, .int (leakF (er) (us) ((cu) (z)) ((bg) (z)) ((M) (z)) ((M) (8 + (z))) ((1 : Int32)))), (2, .int (nI (g))), (0, .ref (a 0)), (1, .int (nI (k)))]) hx hb dX7_doesExplain_98 hl (k := 3) rfl (by exact nI_add (z) 1) (by decide) rfl (fun ls hl => ?_)
                      refine lv_goto (tgt := 37) hx hb dX7_doesExplain_101 (by decide) ?_
                      exact ih37 (z + 1) (1) (((sm) + (leakF (er) (us) ((cu) (z)) ((bg) (z)) ((M) (z)) ((M) (8 + (z))) ((1 : Int32))))) (llv_11) (lmv_12) (lhv_13) _ _ _ (by omega) (by omega) (by first | exact dsI_skip hal (by assumption) hgzg | exact dsI_told hal (by assumption) hgzg hlz | exact dsI_lost hal (by assumption) hgzg hlz (by omega)) (lv_sub hl [0, 1, 2, 4, 5, 6] rfl) hP hD hS
          exact K37 ((9 - (0)) + 1) (0) (0) ((0 : Int32)) (x7) (x8) (x9) _ _ _ (Nat.lt_succ_self _) (by omega) (by first | exact dsI_t hgg | exact dsI_f hgg) (lv_sub hl [0, 1, 2, 3, 4, 5] rfl) hP hD hS
        · skip
          have b22_3 : ((grF n fr tt k gr nv) (g)) = (g) := (nI_eq (a := (grF n fr tt k gr nv) (g)) (b := g) (by omega) (by omega)).mp b22_3
          have hgg : (grF n fr tt k gr nv) g = g := b22_3
          refine lv_iconst (v := (1)) hx hb dX7_doesExplain_25 (by decide) ?_
          refine lv_goto (tgt := 30) hx hb dX7_doesExplain_26 (by decide) ?_
          refine lv_istore_n (lv' := [(3, .int (1)), (2, .int (nI (g))), (0, .ref (a 0)), (1, .int (nI (k)))]) hx hb dX7_doesExplain_30 rfl hl (by decide) rfl (fun ls hl => ?_)
          refine lv_iconst (v := (0)) hx hb dX7_doesExplain_31 (by decide) ?_
          refine lv_istore (lv' := [(4, .int (0)), (3, .int (1)), (2, .int (nI (g))), (0, .ref (a 0)), (1, .int (nI (k)))]) hx hb dX7_doesExplain_32 hl (by decide) rfl (fun ls hl => ?_)
          refine lv_iconst (v := (0)) hx hb dX7_doesExplain_34 (by decide) ?_
          refine lv_istore (lv' := [(5, .int (0)), (4, .int (0)), (3, .int (1)), (2, .int (nI (g))), (0, .ref (a 0)), (1, .int (nI (k)))]) hx hb dX7_doesExplain_35 hl (by decide) rfl (fun ls hl => ?_)
          have K37 : ∀ (fuel : Nat) (z : Nat) (al : Nat) (sm : Int32) (y7 : Int32) (y8 : Int32) (y9 : Int32) (H : Heap) (locs : List Loc) (ls : Array Slot), (9 - z) < fuel → (z ≤ n) → (dsI n (grF n fr tt k gr nv) (lk1 cu bg M er us) g z al sm) → lv_has ls 7 [(5, .int (nI (z))), (4, .int (sm)), (3, .int (nI (al))), (2, .int (nI (g))), (0, .ref (a 0)), (1, .int (nI (k)))] → va_P G.1 vwCl ((wM G (a) (n) (cu) (bg) ((coF M)) ((goF M)) (er) (us) (y7) (y8) (y9) (nv) (fr) (tt) (grF n fr tt k gr nv) ((hdF2 ML)) (ns) (w) (cs) (cl) (nd) (lo) (ho) (so))) H → va_D vA ((wM G (a) (n) (cu) (bg) ((coF M)) ((goF M)) (er) (us) (y7) (y8) (y9) (nv) (fr) (tt) (grF n fr tt k gr nv) ((hdF2 ML)) (ns) (w) (cs) (cl) (nd) (lo) (ho) (so))) → va_S vA vs.heap H locs → W vp lc ve ({ frames := 3, cells := 0, slots := 0, locals := 68 } : Room) vs vm ([.ref (a 0), .int (nI (k))] : List Value).toArray vb vt vc H locs 0 0 (MQ vb (nwQi G (fun r ww => ∃ llv lmv lhv : Int32, ((r = 1 ∧ expl n (grF n fr tt k gr nv) (lk1 cu bg M er us)) ∨ (r = 0 ∧ ¬ expl n (grF n fr tt k gr nv) (lk1 cu bg M er us))) ∧ ww = wM G (a) (n) (cu) (bg) ((coF M)) ((goF M)) (er) (us) (llv) (lmv) (lhv) (nv) (fr) (tt) ((grF n fr tt k gr nv)) ((hdF2 ML)) (ns) (w) (cs) (cl) (nd) (lo) (ho) (so)) vA) ([.ref (a 0), .int (nI (k))] : List Value).toArray vs ({ frames := 3, cells := 0, slots := 0, locals := 68 } : Room).cells ({ frames := 3, cells := 0, slots := 0, locals := 68 } : Room).slots vA) (F0 vm 37 ls []) := by
            intro fuel
            induction fuel with
            | zero => intro z al sm y7 y8 y9 H locs ls hmu; exact absurd hmu (Nat.not_lt_zero _)
            | succ fuel ih37 =>
              intro z al sm y7 y8 y9 H locs ls hmu hz hal hl hP hD hS
              have hal1 := dsI_1 hal
              have hgz : z < n → (grF n fr tt k gr nv) z < 8 := fun h => Nat.lt_of_lt_of_le (grF_lt hf (Nat.le_refl nv) h) hn
              refine lv_iload hx hb dX7_doesExplain_37 (lv_at hl 0 rfl) ?_
              refine lv_aload_n hx hb dX7_doesExplain_39 rfl (lv_at hl 4 rfl) ?_
              refine va_get (D := G.1) (ci := 6) (v := .int (nI (n))) (C := RX7) (T := TX7) (N := 23) hx hb hts in_X7_doesExplain_X7 hown hK.1 hP 0 rfl rfl 0 (by decide) (hts (Cond.fieldLink RX7 62 "NightWaterModel" "zones" "I") (List.mem_of_getElem? (i := 1) rfl)) (fun _ h9 => h9) rfl dX7_doesExplain_40 ?_
              refine lv_icmp_ge (tgt := 104) hx hb dX7_doesExplain_43 (by decide) (fun b43_17 => ?_) (fun b43_17 => ?_)
              · skip
                have b43_17 : (n) ≤ (z) := (nI_leI (a := n) (b := z) (by omega) (by omega)).mp b43_17
                have b43_17n : ¬ ((z) < (n)) := by omega
                refine lv_iload_n hx hb dX7_doesExplain_104 rfl (lv_at hl 2 rfl) ?_
                refine lv_if_eq (tgt := 115) hx hb dX7_doesExplain_105 (by decide) (fun b105_18 => ?_) (fun b105_18 => ?_)
                · skip
                  have b105_18 : (al) = (0) := (nI_eq (a := al) (b := 0) (by omega) (by omega)).mp b105_18
                  have hgood := dsI_0 hal (by omega) (fun j hj => (grF_ok hf nv (Nat.le_refl nv) j hj).2)
                  refine lv_iinc (v := (nI (g + 1))) (lv' := [(2, .int (nI (g + 1))), (5, .int (nI (z))), (4, .int (sm)), (3, .int (nI (al))), (0, .ref (a 0)), (1, .int (nI (k)))]) hx hb dX7_doesExplain_115 hl (k := 3) rfl (by exact nI_add (g) 1) (by decide) rfl (fun ls hl => ?_)
                  refine lv_goto (tgt := 7) hx hb dX7_doesExplain_118 (by decide) ?_
                  exact ih7 (g + 1) (y7) (y8) (y9) _ _ _ (by omega) (by omega) (by exact nw_ext e2 hgood) (lv_sub hl [0, 4, 5] rfl) hP hD hS
                · skip
                  have b105_18 : ¬ ((al) = (0)) := fun h => b105_18 ((nI_eq (a := al) (b := 0) (by omega) (by omega)).mpr h)
                  refine lv_iload hx hb dX7_doesExplain_108 (lv_at hl 1 rfl) ?_
                  refine lv_if_ge (tgt := 115) hx hb dX7_doesExplain_110 (by decide) (fun b110_19 => ?_) (fun b110_19 => ?_)
                  · skip
                    have b110_19 : (0 : Int32) ≤ (sm) := b110_19
                    have b110_19n : ¬ ((sm) < (0 : Int32)) := Int32.not_lt.mpr b110_19
                    have hgood : gunt (grF n fr tt k gr nv) (lk1 cu bg M er us) g n ∨ ¬ gsum (grF n fr tt k gr nv) (lk1 cu bg M er us) g n < 0 := by have h5 := dsI_n hal (by omega) (by omega); rw [h5.2] at b110_19; exact Or.inr (Int32.not_lt.mpr b110_19)
                    refine lv_iinc (v := (nI (g + 1))) (lv' := [(2, .int (nI (g + 1))), (5, .int (nI (z))), (4, .int (sm)), (3, .int (nI (al))), (0, .ref (a 0)), (1, .int (nI (k)))]) hx hb dX7_doesExplain_115 hl (k := 3) rfl (by exact nI_add (g) 1) (by decide) rfl (fun ls hl => ?_)
                    refine lv_goto (tgt := 7) hx hb dX7_doesExplain_118 (by decide) ?_
                    exact ih7 (g + 1) (y7) (y8) (y9) _ _ _ (by omega) (by omega) (by exact nw_ext e2 hgood) (lv_sub hl [0, 4, 5] rfl) hP hD hS
                  · skip
                    have b110_19 : ¬ ((0 : Int32) ≤ (sm)) := b110_19
                    have b110_19n : (sm) < (0 : Int32) := Int32.not_le.mp b110_19
                    have hbad : ¬ expl n (grF n fr tt k gr nv) (lk1 cu bg M er us) := fun h => by have h5 := dsI_n hal (by omega) (by omega); rw [h5.2] at b110_19n; exact (h g (by omega)).elim h5.1 (fun q => q b110_19n)
                    refine lv_iconst (v := (0)) hx hb dX7_doesExplain_113 (by decide) ?_
                    exact nw_zret (rm := ({ frames := 3, cells := 0, slots := 0, locals := 68 } : Room)) X (by decide) hP hD hS (⟨_, _, _, Or.inr ⟨rfl, hbad⟩, rfl⟩) dX7_doesExplain_114
              · skip
                have b43_17 : ¬ ((n) ≤ (z)) := fun h => b43_17 ((nI_leI (a := n) (b := z) (by omega) (by omega)).mpr h)
                have b43_17n : (z) < (n) := by omega
                refine lv_iload_n hx hb dX7_doesExplain_46 rfl (lv_at hl 2 rfl) ?_
                refine lv_if_eq (tgt := 104) hx hb dX7_doesExplain_47 (by decide) (fun b47_20 => ?_) (fun b47_20 => ?_)
                · skip
                  have b47_20 : (al) = (0) := (nI_eq (a := al) (b := 0) (by omega) (by omega)).mp b47_20
                  refine lv_iload_n hx hb dX7_doesExplain_104 rfl (lv_at hl 2 rfl) ?_
                  refine lv_if_eq (tgt := 115) hx hb dX7_doesExplain_105 (by decide) (fun b105_21 => ?_) (fun b105_21 => ?_)
                  · skip
                    have b105_21 : (al) = (0) := (nI_eq (a := al) (b := 0) (by omega) (by omega)).mp b105_21
                    have hgood := dsI_0 hal (by omega) (fun j hj => (grF_ok hf nv (Nat.le_refl nv) j hj).2)
                    refine lv_iinc (v := (nI (g + 1))) (lv' := [(2, .int (nI (g + 1))), (5, .int (nI (z))), (4, .int (sm)), (3, .int (nI (al))), (0, .ref (a 0)), (1, .int (nI (k)))]) hx hb dX7_doesExplain_115 hl (k := 3) rfl (by exact nI_add (g) 1) (by decide) rfl (fun ls hl => ?_)
                    refine lv_goto (tgt := 7) hx hb dX7_doesExplain_118 (by decide) ?_
                    exact ih7 (g + 1) (y7) (y8) (y9) _ _ _ (by omega) (by omega) (by exact nw_ext e2 hgood) (lv_sub hl [0, 4, 5] rfl) hP hD hS
                  · skip
                    have b105_21 : ¬ ((al) = (0)) := fun h => b105_21 ((nI_eq (a := al) (b := 0) (by omega) (by omega)).mpr h)
                    omega
                · skip
                  have b47_20 : ¬ ((al) = (0)) := fun h => b47_20 ((nI_eq (a := al) (b := 0) (by omega) (by omega)).mpr h)
                  have hgz8 := hgz (by omega)
                  refine lv_aload_n hx hb dX7_doesExplain_50 rfl (lv_at hl 4 rfl) ?_
                  refine va_get (D := G.1) (ci := 6) (v := .ref (a 7)) (C := RX7) (T := TX7) (N := 23) hx hb hts in_X7_doesExplain_X7 hown hK.1 hP 0 rfl rfl 13 (by decide) (hts (Cond.fieldLink RX7 35 "NightWaterModel" "groupOf" "[I") (List.mem_of_getElem? (i := 2) rfl)) (fun _ h9 => h9) rfl dX7_doesExplain_51 ?_
                  refine lv_iload hx hb dX7_doesExplain_54 (lv_at hl 0 rfl) ?_
                  refine nw_iald X hP 7 (n := 8) (f := (fun j => nI ((grF n fr tt k gr nv) j))) rfl (z) rfl (by omega) (by decide) dX7_doesExplain_56 ?_
                  refine lv_iload_n hx hb dX7_doesExplain_57 rfl (lv_at hl 3 rfl) ?_
                  refine lv_icmp_ne (tgt := 98) hx hb dX7_doesExplain_58 (by decide) (fun b58_22 => ?_) (fun b58_22 => ?_)
                  · skip
                    have b58_22 : ¬ (((grF n fr tt k gr nv) (z)) = (g)) := fun h => b58_22 ((nI_eq (a := (grF n fr tt k gr nv) (z)) (b := g) (by omega) (by omega)).mpr h)
                    have hgzg : ¬ (grF n fr tt k gr nv) z = g := b58_22
                    refine lv_iinc (v := (nI (z + 1))) (lv' := [(5, .int (nI (z + 1))), (4, .int (sm)), (3, .int (nI (al))), (2, .int (nI (g))), (0, .ref (a 0)), (1, .int (nI (k)))]) hx hb dX7_doesExplain_98 hl (k := 0) rfl (by exact nI_add (z) 1) (by decide) rfl (fun ls hl => ?_)
                    refine lv_goto (tgt := 37) hx hb dX7_doesExplain_101 (by decide) ?_
                    exact ih37 (z + 1) (al) ((sm)) (y7) (y8) (y9) _ _ _ (by omega) (by omega) (by first | exact dsI_skip hal (by assumption) hgzg | exact dsI_told hal (by assumption) hgzg hlz | exact dsI_lost hal (by assumption) hgzg hlz (by omega)) (lv_sub hl [0, 1, 2, 3, 4, 5] rfl) hP hD hS
                  · skip
                    have b58_22 : ((grF n fr tt k gr nv) (z)) = (g) := (nI_eq (a := (grF n fr tt k gr nv) (z)) (b := g) (by omega) (by omega)).mp b58_22
                    have hgzg : (grF n fr tt k gr nv) z = g := b58_22
                    refine lv_aload_n hx hb dX7_doesExplain_61 rfl (lv_at hl 4 rfl) ?_
                    refine lv_iload hx hb dX7_doesExplain_62 (lv_at hl 0 rfl) ?_
                    refine lv_iconst (v := (1)) hx hb dX7_doesExplain_64 (by decide) ?_
                    refine nw_st (st' := [.int (1), .int (nI (z)), .ref (a 0)]) (by rfl) ?_
                    refine nw_Vi (As := [.int (nI (z)), .int (1)]) (rest := []) (q0 := 0) X (c_X7_leaksOf lc G (a) (n) (cu) (bg) (M) (er) (us) (y7) (y8) (y9) (nv) (fr) (tt) (grF n fr tt k gr nv) (ML) (ns) (w) (cs) (cl) (nd) (lo) (ho) (so) (z) ((1 : Int32)) (by first | assumption | omega)) (cwV 2 hts gX7_doesExplain_X7_leaksOf rfl rfl rfl (by decide +kernel) ⟨Nat.le_of_ble_eq_true rfl, Nat.le_of_ble_eq_true rfl⟩) rfl (show vwCl[6]? = some (RX7, TX7, 23) from rfl) (nwSp.all ((wM G (a) (n) (cu) (bg) ((coF M)) ((goF M)) (er) (us) (y7) (y8) (y9) (nv) (fr) (tt) (grF n fr tt k gr nv) ((hdF2 ML)) (ns) (w) (cs) (cl) (nd) (lo) (ho) (so)))) hP hD hS hA rfl hl.1 rfl (Nat.le_of_ble_eq_true rfl) dX7_doesExplain_65 ⟨Nat.le_of_ble_eq_true rfl, Nat.le_of_ble_eq_true rfl⟩ (fun r w H locs hp_23 hP hD hS => ?_)
                    obtain ⟨llv_24, lmv_25, lhv_26, rfl, rfl⟩ := hp_23
                    have hP : va_P G.1 vwCl ((wM G (a) (n) (cu) (bg) ((coF M)) ((goF M)) (er) (us) (llv_24) (lmv_25) (lhv_26) (nv) (fr) (tt) (grF n fr tt k gr nv) ((hdF2 ML)) (ns) (w) (cs) (cl) (nd) (lo) (ho) (so))) H := hP
                    have hD : va_D vA ((wM G (a) (n) (cu) (bg) ((coF M)) ((goF M)) (er) (us) (llv_24) (lmv_25) (lhv_26) (nv) (fr) (tt) (grF n fr tt k gr nv) ((hdF2 ML)) (ns) (w) (cs) (cl) (nd) (lo) (ho) (so))) := hD
                    refine lv_istore (lv' := [(6, .int (leakF (er) (us) ((cu) (z)) ((bg) (z)) ((M) (z)) ((M) (8 + (z))) ((1 : Int32)))), (5, .int (nI (z))), (4, .int (sm)), (3, .int (nI (al))), (2, .int (nI (g))), (0, .ref (a 0)), (1, .int (nI (k)))]) hx hb dX7_doesExplain_68 hl (by decide) rfl (fun ls hl => ?_)
                    refine lv_iload hx hb dX7_doesExplain_70 (lv_at hl 0 rfl) ?_
                    refine lv_ldc (own := RX7) (v := (-2000000000)) hx hb hown (hts (Cond.constant RX7 92 (-2000000000)) (List.mem_of_getElem? (i := 3) rfl)) dX7_doesExplain_72 ?_
                    refine lv_icmp_eq (tgt := 81) hx hb dX7_doesExplain_74 (by decide) (fun b74_27 => ?_) (fun b74_27 => ?_)
                    · skip
                      have b74_27 : (leakF (er) (us) ((cu) (z)) ((bg) (z)) ((M) (z)) ((M) (8 + (z))) ((1 : Int32))) = (-2000000000 : Int32) := b74_27
                      have hlz : (lk1 cu bg M er us) z = -2000000000 := b74_27
                      refine lv_iconst (v := (0)) hx hb dX7_doesExplain_81 (by decide) ?_
                      refine lv_istore_n (lv' := [(3, .int (0)), (6, .int (leakF (er) (us) ((cu) (z)) ((bg) (z)) ((M) (z)) ((M) (8 + (z))) ((1 : Int32)))), (5, .int (nI (z))), (4, .int (sm)), (2, .int (nI (g))), (0, .ref (a 0)), (1, .int (nI (k)))]) hx hb dX7_doesExplain_82 rfl hl (by decide) rfl (fun ls hl => ?_)
                      refine lv_iload hx hb dX7_doesExplain_83 (lv_at hl 3 rfl) ?_
                      refine lv_iload_n hx hb dX7_doesExplain_85 rfl (lv_at hl 0 rfl) ?_
                      refine lv_if_eq (tgt := 94) hx hb dX7_doesExplain_86 (by decide) (fun _ => ?_) (fun c9 => absurd (by decide) c9)
                      refine lv_iconst (v := (0)) hx hb dX7_doesExplain_94 (by decide) ?_
                      refine lv_iadd hx hb dX7_doesExplain_95 ?_
                      refine lv_istore (lv' := [(4, .int ((sm) + (0 : Int32))), (3, .int (0)), (6, .int (leakF (er) (us) ((cu) (z)) ((bg) (z)) ((M) (z)) ((M) (8 + (z))) ((1 : Int32)))), (5, .int (nI (z))), (2, .int (nI (g))), (0, .ref (a 0)), (1, .int (nI (k)))]) hx hb dX7_doesExplain_96 hl (by decide) rfl (fun ls hl => ?_)
                      refine lv_iinc (v := (nI (z + 1))) (lv' := [(5, .int (nI (z + 1))), (4, .int ((sm) + (0 : Int32))), (3, .int (0)), (6, .int (leakF (er) (us) ((cu) (z)) ((bg) (z)) ((M) (z)) ((M) (8 + (z))) ((1 : Int32)))), (2, .int (nI (g))), (0, .ref (a 0)), (1, .int (nI (k)))]) hx hb dX7_doesExplain_98 hl (k := 3) rfl (by exact nI_add (z) 1) (by decide) rfl (fun ls hl => ?_)
                      refine lv_goto (tgt := 37) hx hb dX7_doesExplain_101 (by decide) ?_
                      exact ih37 (z + 1) (0) (((sm) + (0 : Int32))) (llv_24) (lmv_25) (lhv_26) _ _ _ (by omega) (by omega) (by first | exact dsI_skip hal (by assumption) hgzg | exact dsI_told hal (by assumption) hgzg hlz | exact dsI_lost hal (by assumption) hgzg hlz (by omega)) (lv_sub hl [0, 1, 2, 4, 5, 6] rfl) hP hD hS
                    · skip
                      have b74_27 : ¬ ((leakF (er) (us) ((cu) (z)) ((bg) (z)) ((M) (z)) ((M) (8 + (z))) ((1 : Int32))) = (-2000000000 : Int32)) := b74_27
                      have hlz : ¬ (lk1 cu bg M er us) z = -2000000000 := b74_27
                      refine lv_iconst (v := (1)) hx hb dX7_doesExplain_77 (by decide) ?_
                      refine lv_goto (tgt := 82) hx hb dX7_doesExplain_78 (by decide) ?_
                      refine lv_istore_n (lv' := [(3, .int (1)), (6, .int (leakF (er) (us) ((cu) (z)) ((bg) (z)) ((M) (z)) ((M) (8 + (z))) ((1 : Int32)))), (5, .int (nI (z))), (4, .int (sm)), (2, .int (nI (g))), (0, .ref (a 0)), (1, .int (nI (k)))]) hx hb dX7_doesExplain_82 rfl hl (by decide) rfl (fun ls hl => ?_)
                      refine lv_iload hx hb dX7_doesExplain_83 (lv_at hl 3 rfl) ?_
                      refine lv_iload_n hx hb dX7_doesExplain_85 rfl (lv_at hl 0 rfl) ?_
                      refine lv_if_eq (tgt := 94) hx hb dX7_doesExplain_86 (by decide) (fun c9 => absurd c9 (by decide)) (fun _ => ?_)
                      refine lv_iload hx hb dX7_doesExplain_89 (lv_at hl 1 rfl) ?_
                      refine lv_goto (tgt := 95) hx hb dX7_doesExplain_91 (by decide) ?_
                      refine lv_iadd hx hb dX7_doesExplain_95 ?_
                      refine lv_istore (lv' := [(4, .int ((sm) + (leakF (er) (us) ((cu) (z)) ((bg) (z)) ((M) (z)) ((M) (8 + (z))) ((1 : Int32))))), (3, .int (1)), (6, .int (leakF (er) (us) ((cu) (z)) ((bg) (z)) ((M) (z)) ((M) (8 + (z))) ((1 : Int32)))), (5, .int (nI (z))), (2, .int (nI (g))), (0, .ref (a 0)), (1, .int (nI (k)))]) hx hb dX7_doesExplain_96 hl (by decide) rfl (fun ls hl => ?_)
                      refine lv_iinc (v := (nI (z + 1))) (lv' := [(5, .int (nI (z + 1))), (4, .int ((sm) + (leakF (er) (us) ((cu) (z)) ((bg) (z)) ((M) (z)) ((M) (8 + (z))) ((1 : Int32))))), (3, .int (1)), (6, .int (leakF (er) (us) ((cu) (z)) ((bg) (z)) ((M) (z)) ((M) (8 + (z))) ((1 : Int32)))), (2, .int (nI (g))), (0, .ref (a 0)), (1, .int (nI (k)))]) hx hb dX7_doesExplain_98 hl (k := 3) rfl (by exact nI_add (z) 1) (by decide) rfl (fun ls hl => ?_)
                      refine lv_goto (tgt := 37) hx hb dX7_doesExplain_101 (by decide) ?_
                      exact ih37 (z + 1) (1) (((sm) + (leakF (er) (us) ((cu) (z)) ((bg) (z)) ((M) (z)) ((M) (8 + (z))) ((1 : Int32))))) (llv_24) (lmv_25) (lhv_26) _ _ _ (by omega) (by omega) (by first | exact dsI_skip hal (by assumption) hgzg | exact dsI_told hal (by assumption) hgzg hlz | exact dsI_lost hal (by assumption) hgzg hlz (by omega)) (lv_sub hl [0, 1, 2, 4, 5, 6] rfl) hP hD hS
          exact K37 ((9 - (0)) + 1) (0) (1) ((0 : Int32)) (x7) (x8) (x9) _ _ _ (Nat.lt_succ_self _) (by omega) (by first | exact dsI_t hgg | exact dsI_f hgg) (lv_sub hl [0, 1, 2, 3, 4, 5] rfl) hP hD hS
  exact K7 ((9 - (0)) + 1) (0) (ll) (lm) (lh) _ _ _ (Nat.lt_succ_self _) (by omega) (by exact fun j h => absurd h (Nat.not_lt_zero j)) (lv_sub hl [0, 1, 2] rfl) hP hD hS
set_option maxHeartbeats 4000000 in
set_option maxRecDepth 100000 in
theorem c_X7_explains (lc : Launch) (G : nwG) (a : Nat → Nat) (n : Nat) (cu bg : Nat → Int32) (M : Nat → Nat → Int32) (er us ll lm lh : Int32) (nv : Nat) (fr tt gr : Nat → Nat) (ML : Nat → Nat → Int32) (ns : Nat) (w : Nat → Nat) (cs cl : Nat → Int32) (nd : Nat) (lo ho : Nat → Int32) (so : Nat → Nat) (x : Int32) (hn : n ≤ 8) (hnv : nv ≤ 12) (hf : ∀ i, i < nv → fr i < n ∧ tt i < n) (hgr : ∀ j, gr j < 8) : nwCi lc G yX7_explains wsX7_explains ({ frames := 4, cells := 0, slots := 0, locals := 94 } : Room) [.ref (a 0), .int (x)] ((wM G (a) (n) (cu) (bg) ((coF M)) ((goF M)) (er) (us) (ll) (lm) (lh) (nv) (fr) (tt) (gr) ((hdF2 ML)) (ns) (w) (cs) (cl) (nd) (lo) (ho) (so))) (fun r ww => ∃ (llv lmv lhv : Int32) (grv : Nat → Nat), (∀ j, grv j < 8) ∧ r = explF n nv fr tt (lk1 cu bg M er us) x ∧ ww = wM G (a) (n) (cu) (bg) ((coF M)) ((goF M)) (er) (us) (llv) (lmv) (lhv) (nv) (fr) (tt) (grv) ((hdF2 ML)) (ns) (w) (cs) (cl) (nd) (lo) (ho) (so)) := by
  refine nw_of (cc := cX7_explains) (maxL := 2) (ret := (some .int)) (by decide) rfl (Nat.le_of_ble_eq_true rfl) ?_
  intro vp ve vs vm vb vt vc vA ls X hP hD hA hS hl
  have X : nwAt vp vm vc cX7_explains 2 vs _ wsX7_explains RX7 vt (some .int) "explains" G := X
  have hx := X.1.1
  have hb := X.1.2.1
  have hown := X.1.2.2.2.1
  have hts := X.1.2.2.2.2
  have hK := X.2.2.2.2
  have hl : lv_has ls 2 [(0, .ref (a 0)), (1, .int (x))] := hl
  refine lv_aload_n hx hb dX7_explains_0 rfl (lv_at hl 0 rfl) ?_
  refine lv_iload_n hx hb dX7_explains_1 rfl (lv_at hl 1 rfl) ?_
  refine nw_Vi (As := [.int (x)]) (rest := []) (q0 := 0) X (c_X7_isSet lc G (a) (n) (cu) (bg) (M) (er) (us) (ll) (lm) (lh) (nv) (fr) (tt) (gr) (ML) (ns) (w) (cs) (cl) (nd) (lo) (ho) (so) ((x)) (by first | assumption | omega)) (cwV 1 hts gX7_explains_X7_isSet rfl rfl rfl (by decide +kernel) ⟨Nat.le_of_ble_eq_true rfl, Nat.le_of_ble_eq_true rfl⟩) rfl (show vwCl[6]? = some (RX7, TX7, 23) from rfl) (nwSp.all ((wM G (a) (n) (cu) (bg) ((coF M)) ((goF M)) (er) (us) (ll) (lm) (lh) (nv) (fr) (tt) (gr) ((hdF2 ML)) (ns) (w) (cs) (cl) (nd) (lo) (ho) (so)))) hP hD hS hA rfl hl.1 rfl (Nat.le_of_ble_eq_true rfl) dX7_explains_2 ⟨Nat.le_of_ble_eq_true rfl, Nat.le_of_ble_eq_true rfl⟩ (fun r w H locs hp_1 hP hD hS => ?_)
  obtain ⟨⟨rfl, q_2⟩ | ⟨rfl, q_2⟩, rfl⟩ := hp_1
  · skip
    have hP : va_P G.1 vwCl ((wM G (a) (n) (cu) (bg) ((coF M)) ((goF M)) (er) (us) (ll) (lm) (lh) (nv) (fr) (tt) (gr) ((hdF2 ML)) (ns) (w) (cs) (cl) (nd) (lo) (ho) (so))) H := hP
    have hD : va_D vA ((wM G (a) (n) (cu) (bg) ((coF M)) ((goF M)) (er) (us) (ll) (lm) (lh) (nv) (fr) (tt) (gr) ((hdF2 ML)) (ns) (w) (cs) (cl) (nd) (lo) (ho) (so))) := hD
    have q_2 : ¬ setBad (nv) ((x)) := q_2
    have hpw_7 := nw_pow_lt hnv
    obtain ⟨k_3, hk_4, he_5⟩ := nw_lt (n := 2 ^ nv) (by omega) q_2
    have ec_6 := nw_clamp he_5 (by omega)
    refine lv_if_ne (tgt := 13) hx hb dX7_explains_5 (by decide) (fun _ => ?_) (fun c9 => absurd c9 (by decide))
    refine lv_aload_n hx hb dX7_explains_13 rfl (lv_at hl 0 rfl) ?_
    refine lv_iload_n hx hb dX7_explains_14 rfl (lv_at hl 1 rfl) ?_
    refine nw_st (st' := [.int (nI (k_3)), .ref (a 0)]) (by rw [he_5]) ?_
    refine nw_Vi (As := [.int (nI (k_3))]) (rest := []) (q0 := 0) X (c_X7_doesExplain lc G (a) (n) (cu) (bg) (M) (er) (us) (ll) (lm) (lh) (nv) (fr) (tt) (gr) (ML) (ns) (w) (cs) (cl) (nd) (lo) (ho) (so) (k_3) (by first | assumption | omega) (by first | assumption | omega) (by first | assumption | omega) (by first | assumption | omega) (by first | assumption | omega)) (cwV 1 hts gX7_explains_X7_doesExplain rfl rfl rfl (by decide +kernel) ⟨Nat.le_of_ble_eq_true rfl, Nat.le_of_ble_eq_true rfl⟩) rfl (show vwCl[6]? = some (RX7, TX7, 23) from rfl) (nwSp.all ((wM G (a) (n) (cu) (bg) ((coF M)) ((goF M)) (er) (us) (ll) (lm) (lh) (nv) (fr) (tt) (gr) ((hdF2 ML)) (ns) (w) (cs) (cl) (nd) (lo) (ho) (so)))) hP hD hS hA rfl hl.1 rfl (Nat.le_of_ble_eq_true rfl) dX7_explains_15 ⟨Nat.le_of_ble_eq_true rfl, Nat.le_of_ble_eq_true rfl⟩ (fun r w H locs hp_9 hP hD hS => ?_)
    obtain ⟨llv_10, lmv_11, lhv_12, ⟨rfl, q_13⟩ | ⟨rfl, q_13⟩, rfl⟩ := hp_9
    · skip
      have hP : va_P G.1 vwCl ((wM G (a) (n) (cu) (bg) ((coF M)) ((goF M)) (er) (us) (llv_10) (lmv_11) (lhv_12) (nv) (fr) (tt) ((grF n fr tt k_3 gr nv)) ((hdF2 ML)) (ns) (w) (cs) (cl) (nd) (lo) (ho) (so))) H := hP
      have hD : va_D vA ((wM G (a) (n) (cu) (bg) ((coF M)) ((goF M)) (er) (us) (llv_10) (lmv_11) (lhv_12) (nv) (fr) (tt) ((grF n fr tt k_3 gr nv)) ((hdF2 ML)) (ns) (w) (cs) (cl) (nd) (lo) (ho) (so))) := hD
      have q_13 : expl (n) (grF (n) (fr) (tt) (k_3) (gr) (nv)) (lk1 (cu) (bg) (M) (er) (us)) := q_13
      refine lv_if_eq (tgt := 25) hx hb dX7_explains_18 (by decide) (fun c9 => absurd c9 (by decide)) (fun _ => ?_)
      refine lv_iconst (v := (1)) hx hb dX7_explains_21 (by decide) ?_
      refine lv_goto (tgt := 26) hx hb dX7_explains_22 (by decide) ?_
      exact nw_iret (rm := ({ frames := 4, cells := 0, slots := 0, locals := 94 } : Room)) X hP hD hS (⟨_, _, _, _, grF_b hn hgr nv, by simp only [explF, nwIf_T, nwIf_F, or_true, true_or, or_false, false_or, and_true, true_and, and_false, false_and, not_true_eq_false, not_false_eq_true, Nat.add_sub_cancel, q_2, ec_6]; exact (nwIf_t (expl_congr (fun z hz9 => grF_junk hf nv (Nat.le_refl nv) z hz9) (fun _ _ => rfl) q_13) _ _).symm, rfl⟩) dX7_explains_26
    · skip
      have hP : va_P G.1 vwCl ((wM G (a) (n) (cu) (bg) ((coF M)) ((goF M)) (er) (us) (llv_10) (lmv_11) (lhv_12) (nv) (fr) (tt) ((grF n fr tt k_3 gr nv)) ((hdF2 ML)) (ns) (w) (cs) (cl) (nd) (lo) (ho) (so))) H := hP
      have hD : va_D vA ((wM G (a) (n) (cu) (bg) ((coF M)) ((goF M)) (er) (us) (llv_10) (lmv_11) (lhv_12) (nv) (fr) (tt) ((grF n fr tt k_3 gr nv)) ((hdF2 ML)) (ns) (w) (cs) (cl) (nd) (lo) (ho) (so))) := hD
      have q_13 : ¬ expl (n) (grF (n) (fr) (tt) (k_3) (gr) (nv)) (lk1 (cu) (bg) (M) (er) (us)) := q_13
      refine lv_if_eq (tgt := 25) hx hb dX7_explains_18 (by decide) (fun _ => ?_) (fun c9 => absurd (by decide) c9)
      refine lv_iconst (v := (0)) hx hb dX7_explains_25 (by decide) ?_
      exact nw_iret (rm := ({ frames := 4, cells := 0, slots := 0, locals := 94 } : Room)) X hP hD hS (⟨_, _, _, _, grF_b hn hgr nv, by simp only [explF, nwIf_T, nwIf_F, or_true, true_or, or_false, false_or, and_true, true_and, and_false, false_and, not_true_eq_false, not_false_eq_true, Nat.add_sub_cancel, q_2, ec_6]; exact (nwIf_f (fun h9 => q_13 (expl_congr (fun z hz9 => grF_junk hf nv (Nat.le_refl nv) z hz9) (fun _ _ => rfl) h9)) _ _).symm, rfl⟩) dX7_explains_26
  · skip
    have hP : va_P G.1 vwCl ((wM G (a) (n) (cu) (bg) ((coF M)) ((goF M)) (er) (us) (ll) (lm) (lh) (nv) (fr) (tt) (gr) ((hdF2 ML)) (ns) (w) (cs) (cl) (nd) (lo) (ho) (so))) H := hP
    have hD : va_D vA ((wM G (a) (n) (cu) (bg) ((coF M)) ((goF M)) (er) (us) (ll) (lm) (lh) (nv) (fr) (tt) (gr) ((hdF2 ML)) (ns) (w) (cs) (cl) (nd) (lo) (ho) (so))) := hD
    have q_2 : setBad (nv) ((x)) := q_2
    refine lv_if_ne (tgt := 13) hx hb dX7_explains_5 (by decide) (fun c9 => absurd c9 (by decide)) (fun _ => ?_)
    refine lv_bipush (v := (-2)) hx hb dX7_explains_8 (by decide) ?_
    refine lv_goto (tgt := 26) hx hb dX7_explains_10 (by decide) ?_
    exact nw_iret (rm := ({ frames := 4, cells := 0, slots := 0, locals := 94 } : Room)) X hP hD hS (⟨ll, lm, lh, gr, hgr, by simp only [explF, nwIf_T, nwIf_F, or_true, true_or, or_false, false_or, and_true, true_and, and_false, false_and, not_true_eq_false, not_false_eq_true, Nat.add_sub_cancel, q_2], rfl⟩) dX7_explains_26
set_option maxHeartbeats 4000000 in
set_option maxRecDepth 100000 in
theorem c_X7_many (lc : Launch) (G : nwG) (k : Nat) (hk : k < 4096) : nwCi lc G yX7_many wsX7_many ({ frames := 0, cells := 0, slots := 0, locals := 0 } : Room) [.int (nI (k))] ([]) (fun r ww => r = nI (popN k) ∧ ww = []) := by
  refine nw_of (cc := cX7_many) (maxL := 3) (ret := (some .int)) (by decide) rfl (Nat.le_of_ble_eq_true rfl) ?_
  intro vp ve vs vm vb vt vc vA ls X hP hD hA hS hl
  have X : nwAt vp vm vc cX7_many 3 vs _ wsX7_many RX7 vt (some .int) "many" G := X
  have hx := X.1.1
  have hb := X.1.2.1
  have hown := X.1.2.2.2.1
  have hts := X.1.2.2.2.2
  have hK := X.2.2.2.2
  have hl : lv_has ls 3 [(0, .int (nI (k)))] := hl
  refine lv_iconst (v := (0)) hx hb dX7_many_0 (by decide) ?_
  refine lv_istore_n (lv' := [(1, .int (0)), (0, .int (nI (k)))]) hx hb dX7_many_1 rfl hl (by decide) rfl (fun ls hl => ?_)
  refine lv_iload_n hx hb dX7_many_2 rfl (lv_at hl 1 rfl) ?_
  refine lv_istore_n (lv' := [(2, .int (nI (k))), (1, .int (0)), (0, .int (nI (k)))]) hx hb dX7_many_3 rfl hl (by decide) rfl (fun ls hl => ?_)
  have K4 : ∀ (fuel : Nat) (vq : Nat) (c : Nat) (f : Nat) (H : Heap) (locs : List Loc) (ls : Array Slot), (vq) < fuel → (vq < 4096) → (vq < 2 ^ f) → (c + pw f vq = popN k) → (f ≤ 13) → lv_has ls 3 [(2, .int (nI (vq))), (1, .int (nI (c))), (0, .int (nI (k)))] → va_P G.1 vwCl ([]) H → va_D vA ([]) → va_S vA vs.heap H locs → W vp lc ve ({ frames := 0, cells := 0, slots := 0, locals := 0 } : Room) vs vm ([.int (nI (k))] : List Value).toArray vb vt vc H locs 0 0 (MQ vb (nwQi G (fun r ww => r = nI (popN k) ∧ ww = []) vA) ([.int (nI (k))] : List Value).toArray vs ({ frames := 0, cells := 0, slots := 0, locals := 0 } : Room).cells ({ frames := 0, cells := 0, slots := 0, locals := 0 } : Room).slots vA) (F0 vm 4 ls []) := by
    intro fuel
    induction fuel with
    | zero => intro vq c f H locs ls hmu; exact absurd hmu (Nat.not_lt_zero _)
    | succ fuel ih4 =>
      intro vq c f H locs ls hmu hv hf hc hf13 hl hP hD hS
      have hcb : c ≤ 13 := by have h7 := pw_le 13 13 k (Nat.le_refl 13) (by omega); have h8 : popN k = pw 13 k := rfl; omega
      refine lv_iload_n hx hb dX7_many_4 rfl (lv_at hl 0 rfl) ?_
      refine lv_if_le (tgt := 21) hx hb dX7_many_5 (by decide) (fun b5_1 => ?_) (fun b5_1 => ?_)
      · skip
        have b5_1 : (vq) ≤ (0) := (nI_leI (a := vq) (b := 0) (by omega) (by omega)).mp b5_1
        have b5_1n : ¬ ((0) < (vq)) := by omega
        refine lv_iload_n hx hb dX7_many_21 rfl (lv_at hl 1 rfl) ?_
        exact nw_iret (rm := ({ frames := 0, cells := 0, slots := 0, locals := 0 } : Room)) X hP hD hS (⟨by rw [← hc, show vq = 0 by omega, pw_z, Nat.add_zero], rfl⟩) dX7_many_22
      · skip
        have b5_1 : ¬ ((vq) ≤ (0)) := fun h => b5_1 ((nI_leI (a := vq) (b := 0) (by omega) (by omega)).mpr h)
        have b5_1n : (0) < (vq) := by omega
        refine lv_iload_n hx hb dX7_many_8 rfl (lv_at hl 1 rfl) ?_
        refine lv_iload_n hx hb dX7_many_9 rfl (lv_at hl 0 rfl) ?_
        refine lv_iconst (v := (1)) hx hb dX7_many_10 (by decide) ?_
        refine lv_iand hx hb dX7_many_11 ?_
        refine nw_top (y := nI (vq % 2)) (pk_andN (by omega) 1 rfl) ?_
        refine lv_iadd hx hb dX7_many_12 ?_
        refine nw_top (y := nI (c + (vq % 2))) (nI_add (c) (vq % 2)) ?_
        refine lv_istore_n (lv' := [(1, .int (nI (c + (vq % 2)))), (2, .int (nI (vq))), (0, .int (nI (k)))]) hx hb dX7_many_13 rfl hl (by decide) rfl (fun ls hl => ?_)
        refine lv_iload_n hx hb dX7_many_14 rfl (lv_at hl 1 rfl) ?_
        refine lv_iconst (v := (1)) hx hb dX7_many_15 (by decide) ?_
        refine lv_ishr hx hb dX7_many_16 ?_
        refine nw_top (y := nI (vq / 2)) (pk_shrN (by omega) _ 1 (by decide)) ?_
        refine lv_istore_n (lv' := [(2, .int (nI (vq / 2))), (1, .int (nI (c + (vq % 2)))), (0, .int (nI (k)))]) hx hb dX7_many_17 rfl hl (by decide) rfl (fun ls hl => ?_)
        refine lv_goto (tgt := 4) hx hb dX7_many_18 (by decide) ?_
        exact ih4 (vq / 2) (c + (vq % 2)) (f - 1) _ _ _ (by omega) (by omega) (by exact many_f (by omega) hf) (by rw [← hc]; exact many_c (by omega) hf) (by omega) (lv_sub hl [0, 1, 2] rfl) hP hD hS
  exact K4 (((k)) + 1) (k) (0) (13) _ _ _ (Nat.lt_succ_self _) (by omega) (by omega) (by exact Nat.zero_add _) (by omega) (lv_sub hl [0, 1, 2] rfl) hP hD hS
set_option maxHeartbeats 4000000 in
set_option maxRecDepth 100000 in
theorem c_X7_fewest (lc : Launch) (G : nwG) (a : Nat → Nat) (n : Nat) (cu bg : Nat → Int32) (M : Nat → Nat → Int32) (er us ll lm lh : Int32) (nv : Nat) (fr tt gr : Nat → Nat) (ML : Nat → Nat → Int32) (ns : Nat) (w : Nat → Nat) (cs cl : Nat → Int32) (nd : Nat) (lo ho : Nat → Int32) (so : Nat → Nat)  (hn : n ≤ 8) (hnv : nv ≤ 12) (hf : ∀ i, i < nv → fr i < n ∧ tt i < n) (hgr : ∀ j, gr j < 8) : nwCi lc G yX7_fewest wsX7_fewest ({ frames := 4, cells := 0, slots := 0, locals := 94 } : Room) [.ref (a 0)] ((wM G (a) (n) (cu) (bg) ((coF M)) ((goF M)) (er) (us) (ll) (lm) (lh) (nv) (fr) (tt) (gr) ((hdF2 ML)) (ns) (w) (cs) (cl) (nd) (lo) (ho) (so))) (fun r ww => ∃ (llv lmv lhv : Int32) (grv : Nat → Nat), (∀ j, grv j < 8) ∧ r = fewF n nv fr tt (lk1 cu bg M er us) ∧ ww = wM G (a) (n) (cu) (bg) ((coF M)) ((goF M)) (er) (us) (llv) (lmv) (lhv) (nv) (fr) (tt) (grv) ((hdF2 ML)) (ns) (w) (cs) (cl) (nd) (lo) (ho) (so)) := by
  refine nw_of (cc := cX7_fewest) (maxL := 3) (ret := (some .int)) (by decide) rfl (Nat.le_of_ble_eq_true rfl) ?_
  intro vp ve vs vm vb vt vc vA ls X hP hD hA hS hl
  have X : nwAt vp vm vc cX7_fewest 3 vs _ wsX7_fewest RX7 vt (some .int) "fewest" G := X
  have hx := X.1.1
  have hb := X.1.2.1
  have hown := X.1.2.2.2.1
  have hts := X.1.2.2.2.2
  have hK := X.2.2.2.2
  have hl : lv_has ls 3 [(0, .ref (a 0))] := hl
  have hpw := nw_pow_lt hnv
  have hp0 : 0 < 2 ^ nv := Nat.pow_pos (by omega)
  refine lv_iconst (v := (-1)) hx hb dX7_fewest_0 (by decide) ?_
  refine lv_istore_n (lv' := [(1, .int (-1)), (0, .ref (a 0))]) hx hb dX7_fewest_1 rfl hl (by decide) rfl (fun ls hl => ?_)
  refine lv_iconst (v := (0)) hx hb dX7_fewest_2 (by decide) ?_
  refine lv_istore_n (lv' := [(2, .int (0)), (1, .int (-1)), (0, .ref (a 0))]) hx hb dX7_fewest_3 rfl hl (by decide) rfl (fun ls hl => ?_)
  have K4 : ∀ (fuel : Nat) (k : Nat) (x1 : Int32) (x7 : Int32) (x8 : Int32) (x9 : Int32) (grv : Nat → Nat) (H : Heap) (locs : List Loc) (ls : Array Slot), (2 ^ nv - k) < fuel → (k ≤ 2 ^ nv) → (x1 = fewR (fwS (exF n nv fr tt (lk1 cu bg M er us)) k)) → (∀ j, grv j < 8) → lv_has ls 3 [(2, .int (nI (k))), (1, .int (x1)), (0, .ref (a 0))] → va_P G.1 vwCl ((wM G (a) (n) (cu) (bg) ((coF M)) ((goF M)) (er) (us) (x7) (x8) (x9) (nv) (fr) (tt) (grv) ((hdF2 ML)) (ns) (w) (cs) (cl) (nd) (lo) (ho) (so))) H → va_D vA ((wM G (a) (n) (cu) (bg) ((coF M)) ((goF M)) (er) (us) (x7) (x8) (x9) (nv) (fr) (tt) (grv) ((hdF2 ML)) (ns) (w) (cs) (cl) (nd) (lo) (ho) (so))) → va_S vA vs.heap H locs → W vp lc ve ({ frames := 4, cells := 0, slots := 0, locals := 94 } : Room) vs vm ([.ref (a 0)] : List Value).toArray vb vt vc H locs 0 0 (MQ vb (nwQi G (fun r ww => ∃ (llv lmv lhv : Int32) (grv : Nat → Nat), (∀ j, grv j < 8) ∧ r = fewF n nv fr tt (lk1 cu bg M er us) ∧ ww = wM G (a) (n) (cu) (bg) ((coF M)) ((goF M)) (er) (us) (llv) (lmv) (lhv) (nv) (fr) (tt) (grv) ((hdF2 ML)) (ns) (w) (cs) (cl) (nd) (lo) (ho) (so)) vA) ([.ref (a 0)] : List Value).toArray vs ({ frames := 4, cells := 0, slots := 0, locals := 94 } : Room).cells ({ frames := 4, cells := 0, slots := 0, locals := 94 } : Room).slots vA) (F0 vm 4 ls []) := by
    intro fuel
    induction fuel with
    | zero => intro k x1 x7 x8 x9 grv H locs ls hmu; exact absurd hmu (Nat.not_lt_zero _)
    | succ fuel ih4 =>
      intro k x1 x7 x8 x9 grv H locs ls hmu hk9 e1 hgv hl hP hD hS
      refine lv_iload_n hx hb dX7_fewest_4 rfl (lv_at hl 0 rfl) ?_
      refine lv_iconst (v := (1)) hx hb dX7_fewest_5 (by decide) ?_
      refine lv_aload_n hx hb dX7_fewest_6 rfl (lv_at hl 2 rfl) ?_
      refine va_get (D := G.1) (ci := 6) (v := .int (nI (nv))) (C := RX7) (T := TX7) (N := 23) hx hb hts in_X7_fewest_X7 hown hK.1 hP 0 rfl rfl 10 (by decide) (hts (Cond.fieldLink RX7 97 "NightWaterModel" "valves" "I") (List.mem_of_getElem? (i := 1) rfl)) (fun _ h9 => h9) rfl dX7_fewest_7 ?_
      refine lv_ishl hx hb dX7_fewest_10 ?_
      refine nw_top (y := nI (2 ^ nv)) (nw_shl1 nv (by omega)) ?_
      refine lv_icmp_ge (tgt := 46) hx hb dX7_fewest_11 (by decide) (fun b11_1 => ?_) (fun b11_1 => ?_)
      · skip
        have b11_1 : (2 ^ nv) ≤ (k) := (nI_leI (a := 2 ^ nv) (b := k) (by omega) (by omega)).mp b11_1
        have b11_1n : ¬ ((k) < (2 ^ nv)) := by omega
        refine lv_iload_n hx hb dX7_fewest_46 rfl (lv_at hl 1 rfl) ?_
        exact nw_iret (rm := ({ frames := 4, cells := 0, slots := 0, locals := 94 } : Room)) X hP hD hS (⟨_, _, _, _, hgv, by rw [e1, show k = 2 ^ nv by omega]; rfl, rfl⟩) dX7_fewest_47
      · skip
        have b11_1 : ¬ ((2 ^ nv) ≤ (k)) := fun h => b11_1 ((nI_leI (a := 2 ^ nv) (b := k) (by omega) (by omega)).mpr h)
        have b11_1n : (k) < (2 ^ nv) := by omega
        refine lv_iload_n hx hb dX7_fewest_14 rfl (lv_at hl 1 rfl) ?_
        refine lv_iconst (v := (-1)) hx hb dX7_fewest_15 (by decide) ?_
        refine lv_icmp_eq (tgt := 30) hx hb dX7_fewest_16 (by decide) (fun b16_2 => ?_) (fun b16_2 => ?_)
        · skip
          have b16_2 : (x1) = (-1 : Int32) := b16_2
          have hbt : better (fwS (exF n nv fr tt (lk1 cu bg M er us)) k) k := fewR_none e1 (by omega) b16_2
          refine lv_aload_n hx hb dX7_fewest_30 rfl (lv_at hl 2 rfl) ?_
          refine lv_iload_n hx hb dX7_fewest_31 rfl (lv_at hl 0 rfl) ?_
          refine nw_st (st' := [.int (nI (k)), .ref (a 0)]) (by rfl) ?_
          refine nw_Vi (As := [.int (nI (k))]) (rest := []) (q0 := 0) X (c_X7_doesExplain lc G (a) (n) (cu) (bg) (M) (er) (us) (x7) (x8) (x9) (nv) (fr) (tt) (grv) (ML) (ns) (w) (cs) (cl) (nd) (lo) (ho) (so) (k) (by first | assumption | omega) (by first | assumption | omega) (by first | assumption | omega) (by exact hgv) (by omega)) (cwV 1 hts gX7_fewest_X7_doesExplain rfl rfl rfl (by decide +kernel) ⟨Nat.le_of_ble_eq_true rfl, Nat.le_of_ble_eq_true rfl⟩) rfl (show vwCl[6]? = some (RX7, TX7, 23) from rfl) (nwSp.all ((wM G (a) (n) (cu) (bg) ((coF M)) ((goF M)) (er) (us) (x7) (x8) (x9) (nv) (fr) (tt) (grv) ((hdF2 ML)) (ns) (w) (cs) (cl) (nd) (lo) (ho) (so)))) hP hD hS hA rfl hl.1 rfl (Nat.le_of_ble_eq_true rfl) dX7_fewest_32 ⟨Nat.le_of_ble_eq_true rfl, Nat.le_of_ble_eq_true rfl⟩ (fun r w H locs hp_3 hP hD hS => ?_)
          obtain ⟨llv_4, lmv_5, lhv_6, ⟨rfl, q_7⟩ | ⟨rfl, q_7⟩, rfl⟩ := hp_3
          · skip
            have hP : va_P G.1 vwCl ((wM G (a) (n) (cu) (bg) ((coF M)) ((goF M)) (er) (us) (llv_4) (lmv_5) (lhv_6) (nv) (fr) (tt) ((grF n fr tt k grv nv)) ((hdF2 ML)) (ns) (w) (cs) (cl) (nd) (lo) (ho) (so))) H := hP
            have hD : va_D vA ((wM G (a) (n) (cu) (bg) ((coF M)) ((goF M)) (er) (us) (llv_4) (lmv_5) (lhv_6) (nv) (fr) (tt) ((grF n fr tt k grv nv)) ((hdF2 ML)) (ns) (w) (cs) (cl) (nd) (lo) (ho) (so))) := hD
            have q_7 : expl (n) (grF (n) (fr) (tt) (k) (grv) (nv)) (lk1 (cu) (bg) (M) (er) (us)) := q_7
            have hek : (exF n nv fr tt (lk1 cu bg M er us)) k := exF_of hf (fun _ _ => rfl) q_7
            refine lv_if_eq (tgt := 40) hx hb dX7_fewest_35 (by decide) (fun c9 => absurd c9 (by decide)) (fun _ => ?_)
            refine lv_iload_n hx hb dX7_fewest_38 rfl (lv_at hl 0 rfl) ?_
            refine lv_istore_n (lv' := [(1, .int (nI (k))), (2, .int (nI (k))), (0, .ref (a 0))]) hx hb dX7_fewest_39 rfl hl (by decide) rfl (fun ls hl => ?_)
            refine lv_iinc (v := (nI (k + 1))) (lv' := [(2, .int (nI (k + 1))), (1, .int (nI (k))), (0, .ref (a 0))]) hx hb dX7_fewest_40 hl (k := 1) rfl (by exact nI_add (k) 1) (by decide) rfl (fun ls hl => ?_)
            refine lv_goto (tgt := 4) hx hb dX7_fewest_43 (by decide) ?_
            exact ih4 (k + 1) ((nI (k))) (llv_4) (lmv_5) (lhv_6) ((grF n fr tt k grv nv)) _ _ _ (by omega) (by omega) (by first | exact fs_take hbt hek | exact e1.trans (congrArg fewR (fs_leave (Or.inr hek)).symm) | exact e1.trans (congrArg fewR (fs_leave (Or.inl hbt)).symm)) (by first | exact hgv | exact grF_b hn hgv nv) (lv_sub hl [0, 1, 2] rfl) hP hD hS
          · skip
            have hP : va_P G.1 vwCl ((wM G (a) (n) (cu) (bg) ((coF M)) ((goF M)) (er) (us) (llv_4) (lmv_5) (lhv_6) (nv) (fr) (tt) ((grF n fr tt k grv nv)) ((hdF2 ML)) (ns) (w) (cs) (cl) (nd) (lo) (ho) (so))) H := hP
            have hD : va_D vA ((wM G (a) (n) (cu) (bg) ((coF M)) ((goF M)) (er) (us) (llv_4) (lmv_5) (lhv_6) (nv) (fr) (tt) ((grF n fr tt k grv nv)) ((hdF2 ML)) (ns) (w) (cs) (cl) (nd) (lo) (ho) (so))) := hD
            have q_7 : ¬ expl (n) (grF (n) (fr) (tt) (k) (grv) (nv)) (lk1 (cu) (bg) (M) (er) (us)) := q_7
            have hek : ¬ (exF n nv fr tt (lk1 cu bg M er us)) k := fun h9 => q_7 (exF_to hf (fun _ _ => rfl) h9)
            refine lv_if_eq (tgt := 40) hx hb dX7_fewest_35 (by decide) (fun _ => ?_) (fun c9 => absurd (by decide) c9)
            refine lv_iinc (v := (nI (k + 1))) (lv' := [(2, .int (nI (k + 1))), (1, .int (x1)), (0, .ref (a 0))]) hx hb dX7_fewest_40 hl (k := 0) rfl (by exact nI_add (k) 1) (by decide) rfl (fun ls hl => ?_)
            refine lv_goto (tgt := 4) hx hb dX7_fewest_43 (by decide) ?_
            exact ih4 (k + 1) ((x1)) (llv_4) (lmv_5) (lhv_6) ((grF n fr tt k grv nv)) _ _ _ (by omega) (by omega) (by first | exact fs_take hbt hek | exact e1.trans (congrArg fewR (fs_leave (Or.inr hek)).symm) | exact e1.trans (congrArg fewR (fs_leave (Or.inl hbt)).symm)) (by first | exact hgv | exact grF_b hn hgv nv) (lv_sub hl [0, 1, 2] rfl) hP hD hS
        · skip
          have b16_2 : ¬ ((x1) = (-1 : Int32)) := b16_2
          obtain ⟨b, hb4, hbo, hbx⟩ := fewR_some e1 (by omega) b16_2
          refine lv_iload_n hx hb dX7_fewest_19 rfl (lv_at hl 0 rfl) ?_
          refine nw_st (st' := [.int (nI (k))]) (by rfl) ?_
          refine nw_Si (As := [.int (nI (k))]) (rest := []) X (c_X7_many lc G (k) (by first | assumption | omega)) (va_cwS 1 hts gX7_fewest_X7_many rfl rfl rfl (by decide +kernel) ⟨Nat.le_of_ble_eq_true rfl, Nat.le_of_ble_eq_true rfl⟩) (fun _ _ h => h.2) hP hD hS hA rfl hl.1 rfl (Nat.le_of_ble_eq_true rfl) dX7_fewest_20 ⟨Nat.le_of_ble_eq_true rfl, Nat.le_of_ble_eq_true rfl⟩ (fun r H locs hp_10 hP hD hS => ?_)
          obtain ⟨rfl, -⟩ := hp_10
          refine lv_iload_n hx hb dX7_fewest_23 rfl (lv_at hl 1 rfl) ?_
          refine nw_st (st' := [.int (nI (b)), .int (nI (popN (k)))]) (by rw [hbx]) ?_
          refine nw_Si (As := [.int (nI (b))]) (rest := [.int (nI (popN (k)))]) X (c_X7_many lc G (b) (by first | assumption | omega)) (va_cwS 1 hts gX7_fewest_X7_many rfl rfl rfl (by decide +kernel) ⟨Nat.le_of_ble_eq_true rfl, Nat.le_of_ble_eq_true rfl⟩) (fun _ _ h => h.2) hP hD hS hA rfl hl.1 rfl (Nat.le_of_ble_eq_true rfl) dX7_fewest_24 ⟨Nat.le_of_ble_eq_true rfl, Nat.le_of_ble_eq_true rfl⟩ (fun r H locs hp_11 hP hD hS => ?_)
          obtain ⟨rfl, -⟩ := hp_11
          have hp1 := pw_le 13 13 k (Nat.le_refl 13) (by omega)
          have hp2 := pw_le 13 13 b (Nat.le_refl 13) (by omega)
          have hp3 : popN k = pw 13 k := rfl
          have hp4 : popN b = pw 13 b := rfl
          refine lv_icmp_ge (tgt := 40) hx hb dX7_fewest_27 (by decide) (fun b27_12 => ?_) (fun b27_12 => ?_)
          · skip
            have b27_12 : (popN (b)) ≤ (popN (k)) := (nI_leI (a := popN (b)) (b := popN (k)) (by omega) (by omega)).mp b27_12
            have b27_12n : ¬ ((popN (k)) < (popN (b))) := by omega
            have hbt : ¬ better (fwS (exF n nv fr tt (lk1 cu bg M er us)) k) k := fun h => absurd (h b hbo) (by omega)
            refine lv_iinc (v := (nI (k + 1))) (lv' := [(2, .int (nI (k + 1))), (1, .int (x1)), (0, .ref (a 0))]) hx hb dX7_fewest_40 hl (k := 0) rfl (by exact nI_add (k) 1) (by decide) rfl (fun ls hl => ?_)
            refine lv_goto (tgt := 4) hx hb dX7_fewest_43 (by decide) ?_
            exact ih4 (k + 1) ((x1)) (x7) (x8) (x9) (grv) _ _ _ (by omega) (by omega) (by first | exact fs_take hbt hek | exact e1.trans (congrArg fewR (fs_leave (Or.inr hek)).symm) | exact e1.trans (congrArg fewR (fs_leave (Or.inl hbt)).symm)) (by first | exact hgv | exact grF_b hn hgv nv) (lv_sub hl [0, 1, 2] rfl) hP hD hS
          · skip
            have b27_12 : ¬ ((popN (b)) ≤ (popN (k))) := fun h => b27_12 ((nI_leI (a := popN (b)) (b := popN (k)) (by omega) (by omega)).mpr h)
            have b27_12n : (popN (k)) < (popN (b)) := by omega
            have hbt : better (fwS (exF n nv fr tt (lk1 cu bg M er us)) k) k := fun c hc => by rw [hbo] at hc; cases hc; omega
            refine lv_aload_n hx hb dX7_fewest_30 rfl (lv_at hl 2 rfl) ?_
            refine lv_iload_n hx hb dX7_fewest_31 rfl (lv_at hl 0 rfl) ?_
            refine nw_st (st' := [.int (nI (k)), .ref (a 0)]) (by rfl) ?_
            refine nw_Vi (As := [.int (nI (k))]) (rest := []) (q0 := 0) X (c_X7_doesExplain lc G (a) (n) (cu) (bg) (M) (er) (us) (x7) (x8) (x9) (nv) (fr) (tt) (grv) (ML) (ns) (w) (cs) (cl) (nd) (lo) (ho) (so) (k) (by first | assumption | omega) (by first | assumption | omega) (by first | assumption | omega) (by exact hgv) (by omega)) (cwV 1 hts gX7_fewest_X7_doesExplain rfl rfl rfl (by decide +kernel) ⟨Nat.le_of_ble_eq_true rfl, Nat.le_of_ble_eq_true rfl⟩) rfl (show vwCl[6]? = some (RX7, TX7, 23) from rfl) (nwSp.all ((wM G (a) (n) (cu) (bg) ((coF M)) ((goF M)) (er) (us) (x7) (x8) (x9) (nv) (fr) (tt) (grv) ((hdF2 ML)) (ns) (w) (cs) (cl) (nd) (lo) (ho) (so)))) hP hD hS hA rfl hl.1 rfl (Nat.le_of_ble_eq_true rfl) dX7_fewest_32 ⟨Nat.le_of_ble_eq_true rfl, Nat.le_of_ble_eq_true rfl⟩ (fun r w H locs hp_13 hP hD hS => ?_)
            obtain ⟨llv_14, lmv_15, lhv_16, ⟨rfl, q_17⟩ | ⟨rfl, q_17⟩, rfl⟩ := hp_13
            · skip
              have hP : va_P G.1 vwCl ((wM G (a) (n) (cu) (bg) ((coF M)) ((goF M)) (er) (us) (llv_14) (lmv_15) (lhv_16) (nv) (fr) (tt) ((grF n fr tt k grv nv)) ((hdF2 ML)) (ns) (w) (cs) (cl) (nd) (lo) (ho) (so))) H := hP
              have hD : va_D vA ((wM G (a) (n) (cu) (bg) ((coF M)) ((goF M)) (er) (us) (llv_14) (lmv_15) (lhv_16) (nv) (fr) (tt) ((grF n fr tt k grv nv)) ((hdF2 ML)) (ns) (w) (cs) (cl) (nd) (lo) (ho) (so))) := hD
              have q_17 : expl (n) (grF (n) (fr) (tt) (k) (grv) (nv)) (lk1 (cu) (bg) (M) (er) (us)) := q_17
              have hek : (exF n nv fr tt (lk1 cu bg M er us)) k := exF_of hf (fun _ _ => rfl) q_17
              refine lv_if_eq (tgt := 40) hx hb dX7_fewest_35 (by decide) (fun c9 => absurd c9 (by decide)) (fun _ => ?_)
              refine lv_iload_n hx hb dX7_fewest_38 rfl (lv_at hl 0 rfl) ?_
              refine lv_istore_n (lv' := [(1, .int (nI (k))), (2, .int (nI (k))), (0, .ref (a 0))]) hx hb dX7_fewest_39 rfl hl (by decide) rfl (fun ls hl => ?_)
              refine lv_iinc (v := (nI (k + 1))) (lv' := [(2, .int (nI (k + 1))), (1, .int (nI (k))), (0, .ref (a 0))]) hx hb dX7_fewest_40 hl (k := 1) rfl (by exact nI_add (k) 1) (by decide) rfl (fun ls hl => ?_)
              refine lv_goto (tgt := 4) hx hb dX7_fewest_43 (by decide) ?_
              exact ih4 (k + 1) ((nI (k))) (llv_14) (lmv_15) (lhv_16) ((grF n fr tt k grv nv)) _ _ _ (by omega) (by omega) (by first | exact fs_take hbt hek | exact e1.trans (congrArg fewR (fs_leave (Or.inr hek)).symm) | exact e1.trans (congrArg fewR (fs_leave (Or.inl hbt)).symm)) (by first | exact hgv | exact grF_b hn hgv nv) (lv_sub hl [0, 1, 2] rfl) hP hD hS
            · skip
              have hP : va_P G.1 vwCl ((wM G (a) (n) (cu) (bg) ((coF M)) ((goF M)) (er) (us) (llv_14) (lmv_15) (lhv_16) (nv) (fr) (tt) ((grF n fr tt k grv nv)) ((hdF2 ML)) (ns) (w) (cs) (cl) (nd) (lo) (ho) (so))) H := hP
              have hD : va_D vA ((wM G (a) (n) (cu) (bg) ((coF M)) ((goF M)) (er) (us) (llv_14) (lmv_15) (lhv_16) (nv) (fr) (tt) ((grF n fr tt k grv nv)) ((hdF2 ML)) (ns) (w) (cs) (cl) (nd) (lo) (ho) (so))) := hD
              have q_17 : ¬ expl (n) (grF (n) (fr) (tt) (k) (grv) (nv)) (lk1 (cu) (bg) (M) (er) (us)) := q_17
              have hek : ¬ (exF n nv fr tt (lk1 cu bg M er us)) k := fun h9 => q_17 (exF_to hf (fun _ _ => rfl) h9)
              refine lv_if_eq (tgt := 40) hx hb dX7_fewest_35 (by decide) (fun _ => ?_) (fun c9 => absurd (by decide) c9)
              refine lv_iinc (v := (nI (k + 1))) (lv' := [(2, .int (nI (k + 1))), (1, .int (x1)), (0, .ref (a 0))]) hx hb dX7_fewest_40 hl (k := 0) rfl (by exact nI_add (k) 1) (by decide) rfl (fun ls hl => ?_)
              refine lv_goto (tgt := 4) hx hb dX7_fewest_43 (by decide) ?_
              exact ih4 (k + 1) ((x1)) (llv_14) (lmv_15) (lhv_16) ((grF n fr tt k grv nv)) _ _ _ (by omega) (by omega) (by first | exact fs_take hbt hek | exact e1.trans (congrArg fewR (fs_leave (Or.inr hek)).symm) | exact e1.trans (congrArg fewR (fs_leave (Or.inl hbt)).symm)) (by first | exact hgv | exact grF_b hn hgv nv) (lv_sub hl [0, 1, 2] rfl) hP hD hS
  exact K4 ((2 ^ nv - (0)) + 1) (0) ((-1 : Int32)) (ll) (lm) (lh) (gr) _ _ _ (Nat.lt_succ_self _) (by omega) (by rfl) (by exact hgr) (lv_sub hl [0, 1, 2] rfl) hP hD hS
