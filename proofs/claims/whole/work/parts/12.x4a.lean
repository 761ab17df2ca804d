/-! printed by wip/gen/x4.py: contracts, walked row by row -/
theorem in_X4_add_X4 : ∀ w ∈ wsX40, w ∈ wsX4_add := by decide +kernel
theorem in_X4_allValves_X4 : ∀ w ∈ wsX40, w ∈ wsX4_allValves := by decide +kernel
theorem in_X4_isExplained_X4 : ∀ w ∈ wsX40, w ∈ wsX4_isExplained := by decide +kernel
theorem in_X4_join_X4 : ∀ w ∈ wsX40, w ∈ wsX4_join := by decide +kernel
theorem in_X4_leastOfGroup_X4 : ∀ w ∈ wsX40, w ∈ wsX4_leastOfGroup := by decide +kernel
theorem in_X4_mixInto_X4 : ∀ w ∈ wsX40, w ∈ wsX4_mixInto := by decide +kernel
theorem in_X4_number_X4 : ∀ w ∈ wsX40, w ∈ wsX4_number := by decide +kernel
theorem in_X4_putTogether_X4 : ∀ w ∈ wsX40, w ∈ wsX4_putTogether := by decide +kernel
theorem in_X4_reckonLeaks_X4 : ∀ w ∈ wsX40, w ∈ wsX4_reckonLeaks := by decide +kernel
set_option maxHeartbeats 4000000 in
set_option maxRecDepth 100000 in
theorem c_X4_number (lc : Launch) (G : nwG) (v : Nat → Nat) (nv : Nat) (fr tt : Nat → Nat) (zl : Nat → Int32) (ld : Nat → Nat) (gk ut : Nat → Int32) (a : Nat → Nat) (n : Nat) (cu bg : Nat → Int32) (M : Nat → Nat → Int32) (er us : Int32)   : nwCi lc G yX4_number wsX4_number ({ frames := 0, cells := 0, slots := 0, locals := 0 } : Room) [.ref (v 0)] ((wV G (v) (a 0) (nv) (fr) (tt) (zl) (ld) (gk) (ut)) ++ ((wZ G (a) (n) (cu) (bg) (M) (er) (us)))) (fun r w => r = nI nv ∧ w = wV G v (a 0) (nv) (fr) (tt) (zl) (ld) (gk) (ut) ++ wZ G a n cu bg M er us) := by
  refine nw_of (cc := cX4_number) (maxL := 1) (ret := (some .int)) (by decide) rfl (Nat.le_of_ble_eq_true rfl) ?_
  intro vp ve vs vm vb vt vc vA ls X hP hD hA hS hl
  have X : nwAt vp vm vc cX4_number 1 vs _ wsX4_number RX4 vt (some .int) "number" G := X
  have hx := X.1.1
  have hb := X.1.2.1
  have hown := X.1.2.2.2.1
  have hts := X.1.2.2.2.2
  have hK := X.2.2.2.2
  have hl : lv_has ls 1 [(0, .ref (v 0))] := hl
  refine lv_aload_n hx hb dX4_number_0 rfl (lv_at hl 0 rfl) ?_
  refine va_get (D := G.1) (ci := 3) (v := .int (nI (nv))) (C := RX4) (T := TX4) (N := 8) hx hb hts in_X4_number_X4 hown hK.1 hP 0 rfl rfl 3 (by decide) (hts (.fieldLink RX4 18 "NightWater$Valves" "size" "I") (List.mem_of_getElem? (i := 1) rfl)) (fun _ h9 => h9) rfl dX4_number_1 ?_
  exact nw_iret (rm := ({ frames := 0, cells := 0, slots := 0, locals := 0 } : Room)) X hP hD hS (⟨rfl, rfl⟩) dX4_number_4
set_option maxHeartbeats 4000000 in
set_option maxRecDepth 100000 in
theorem c_X4_add (lc : Launch) (G : nwG) (v : Nat → Nat) (nv : Nat) (fr tt : Nat → Nat) (zl : Nat → Int32) (ld : Nat → Nat) (gk ut : Nat → Int32) (a : Nat → Nat) (n : Nat) (cu bg : Nat → Int32) (M : Nat → Nat → Int32) (er us : Int32) (x y : Int32) (hn : n ≤ 8) (hnv : nv ≤ 12) : nwCi lc G yX4_add wsX4_add ({ frames := 2, cells := 0, slots := 0, locals := 43 } : Room) [.ref (v 0), .int (x), .int (y)] ((wV G (v) (a 0) (nv) (fr) (tt) (zl) (ld) (gk) (ut)) ++ ((wZ G (a) (n) (cu) (bg) (M) (er) (us)))) (fun r w => r = valveF n nv x y ∧ w = wV G v (a 0) (nwIf (valveOk n nv x y) (nv + 1) nv) (nwIf (valveOk n nv x y) (va_up fr nv x.toNatClampNeg) fr) (nwIf (valveOk n nv x y) (va_up tt nv y.toNatClampNeg) tt) (zl) (ld) (gk) (ut) ++ wZ G a n cu bg M er us) := by
  refine nw_of (cc := cX4_add) (maxL := 3) (ret := (some .int)) (by decide) rfl (Nat.le_of_ble_eq_true rfl) ?_
  intro vp ve vs vm vb vt vc vA ls X hP hD hA hS hl
  have X : nwAt vp vm vc cX4_add 3 vs _ wsX4_add RX4 vt (some .int) "add" G := X
  have hx := X.1.1
  have hb := X.1.2.1
  have hown := X.1.2.2.2.1
  have hts := X.1.2.2.2.2
  have hK := X.2.2.2.2
  have hl : lv_has ls 3 [(0, .ref (v 0)), (1, .int (x)), (2, .int (y))] := hl
  refine lv_aload_n hx hb dX4_add_0 rfl (lv_at hl 0 rfl) ?_
  refine va_get (D := G.1) (ci := 3) (v := .ref (a 0)) (C := RX4) (T := TX4) (N := 8) hx hb hts in_X4_add_X4 hown hK.1 hP 0 rfl rfl 0 (by decide) (hts (.fieldLink RX4 37 "NightWater$Valves" "zones" "LNightWater$Zones;") (List.mem_of_getElem? (i := 1) rfl)) (fun _ h9 => h9) rfl dX4_add_1 ?_
  refine lv_iload_n hx hb dX4_add_4 rfl (lv_at hl 1 rfl) ?_
  refine nw_Vi (As := [.int (x)]) (rest := []) (q0 := 0) X (c_X5_isNone lc G (a) (n) (cu) (bg) (M) (er) (us) ((x)) ) (cwV 1 hts gX4_add_X5_isNone rfl rfl rfl (by decide +kernel) ⟨Nat.le_of_ble_eq_true rfl, Nat.le_of_ble_eq_true rfl⟩) rfl (show vwCl[4]? = some (RX5, TX5, 7) from rfl) (nwSp.suf ((wV G (v) (a 0) (nv) (fr) (tt) (zl) (ld) (gk) (ut))) ((wZ G (a) (n) (cu) (bg) (M) (er) (us)))) hP hD hS hA rfl hl.1 rfl (Nat.le_of_ble_eq_true rfl) dX4_add_5 ⟨Nat.le_of_ble_eq_true rfl, Nat.le_of_ble_eq_true rfl⟩ (fun r w H locs hp_1 hP hD hS => ?_)
  obtain ⟨⟨rfl, q_2⟩ | ⟨rfl, q_2⟩, rfl⟩ := hp_1
  · skip
    have hP : va_P G.1 vwCl ((wV G (v) (a 0) (nv) (fr) (tt) (zl) (ld) (gk) (ut)) ++ ((wZ G (a) (n) (cu) (bg) (M) (er) (us)))) H := hP
    have hD : va_D vA ((wV G (v) (a 0) (nv) (fr) (tt) (zl) (ld) (gk) (ut)) ++ ((wZ G (a) (n) (cu) (bg) (M) (er) (us)))) := hD
    have q_2 : out ((x)) 0 (nI (n) - 1) := q_2
    refine lv_if_ne (tgt := 27) hx hb dX4_add_8 (by decide) (fun _ => ?_) (fun c9 => absurd c9 (by decide))
    refine lv_bipush (v := (-2)) hx hb dX4_add_27 (by decide) ?_
    exact nw_iret (rm := ({ frames := 2, cells := 0, slots := 0, locals := 43 } : Room)) X hP hD hS (by simp only [valveF, valveOk, nwIf_T, nwIf_F, or_true, true_or, or_false, false_or, and_true, true_and, and_false, false_and, not_true_eq_false, not_false_eq_true, Nat.add_sub_cancel, q_2]) dX4_add_29
  · skip
    have hP : va_P G.1 vwCl ((wV G (v) (a 0) (nv) (fr) (tt) (zl) (ld) (gk) (ut)) ++ ((wZ G (a) (n) (cu) (bg) (M) (er) (us)))) H := hP
    have hD : va_D vA ((wV G (v) (a 0) (nv) (fr) (tt) (zl) (ld) (gk) (ut)) ++ ((wZ G (a) (n) (cu) (bg) (M) (er) (us)))) := hD
    have q_2 : ¬ out ((x)) 0 (nI (n) - 1) := q_2
    obtain ⟨z_4, hz_5, he_6⟩ := nw_lt (n := n) (by omega) q_2
    have ec_7 := nw_clamp he_6 (by omega)
    refine lv_if_ne (tgt := 27) hx hb dX4_add_8 (by decide) (fun c9 => absurd c9 (by decide)) (fun _ => ?_)
    refine lv_aload_n hx hb dX4_add_11 rfl (lv_at hl 0 rfl) ?_
    refine va_get (D := G.1) (ci := 3) (v := .ref (a 0)) (C := RX4) (T := TX4) (N := 8) hx hb hts in_X4_add_X4 hown hK.1 hP 0 rfl rfl 0 (by decide) (hts (.fieldLink RX4 37 "NightWater$Valves" "zones" "LNightWater$Zones;") (List.mem_of_getElem? (i := 1) rfl)) (fun _ h9 => h9) rfl dX4_add_12 ?_
    refine lv_iload_n hx hb dX4_add_15 rfl (lv_at hl 2 rfl) ?_
    refine nw_Vi (As := [.int (y)]) (rest := []) (q0 := 0) X (c_X5_isNone lc G (a) (n) (cu) (bg) (M) (er) (us) ((y)) ) (cwV 1 hts gX4_add_X5_isNone rfl rfl rfl (by decide +kernel) ⟨Nat.le_of_ble_eq_true rfl, Nat.le_of_ble_eq_true rfl⟩) rfl (show vwCl[4]? = some (RX5, TX5, 7) from rfl) (nwSp.suf ((wV G (v) (a 0) (nv) (fr) (tt) (zl) (ld) (gk) (ut))) ((wZ G (a) (n) (cu) (bg) (M) (er) (us)))) hP hD hS hA rfl hl.1 rfl (Nat.le_of_ble_eq_true rfl) dX4_add_16 ⟨Nat.le_of_ble_eq_true rfl, Nat.le_of_ble_eq_true rfl⟩ (fun r w H locs hp_9 hP hD hS => ?_)
    obtain ⟨⟨rfl, q_10⟩ | ⟨rfl, q_10⟩, rfl⟩ := hp_9
    · skip
      have hP : va_P G.1 vwCl ((wV G (v) (a 0) (nv) (fr) (tt) (zl) (ld) (gk) (ut)) ++ ((wZ G (a) (n) (cu) (bg) (M) (er) (us)))) H := hP
      have hD : va_D vA ((wV G (v) (a 0) (nv) (fr) (tt) (zl) (ld) (gk) (ut)) ++ ((wZ G (a) (n) (cu) (bg) (M) (er) (us)))) := hD
      have q_10 : out ((y)) 0 (nI (n) - 1) := q_10
      refine lv_if_ne (tgt := 27) hx hb dX4_add_19 (by decide) (fun _ => ?_) (fun c9 => absurd c9 (by decide))
      refine lv_bipush (v := (-2)) hx hb dX4_add_27 (by decide) ?_
      exact nw_iret (rm := ({ frames := 2, cells := 0, slots := 0, locals := 43 } : Room)) X hP hD hS (by simp only [valveF, valveOk, nwIf_T, nwIf_F, or_true, true_or, or_false, false_or, and_true, true_and, and_false, false_and, not_true_eq_false, not_false_eq_true, Nat.add_sub_cancel, q_2, ec_7, q_10]) dX4_add_29
    · skip
      have hP : va_P G.1 vwCl ((wV G (v) (a 0) (nv) (fr) (tt) (zl) (ld) (gk) (ut)) ++ ((wZ G (a) (n) (cu) (bg) (M) (er) (us)))) H := hP
      have hD : va_D vA ((wV G (v) (a 0) (nv) (fr) (tt) (zl) (ld) (gk) (ut)) ++ ((wZ G (a) (n) (cu) (bg) (M) (er) (us)))) := hD
      have q_10 : ¬ out ((y)) 0 (nI (n) - 1) := q_10
      obtain ⟨z_12, hz_13, he_14⟩ := nw_lt (n := n) (by omega) q_10
      have ec_15 := nw_clamp he_14 (by omega)
      refine lv_if_ne (tgt := 27) hx hb dX4_add_19 (by decide) (fun c9 => absurd c9 (by decide)) (fun _ => ?_)
      refine lv_iload_n hx hb dX4_add_22 rfl (lv_at hl 1 rfl) ?_
      refine lv_iload_n hx hb dX4_add_23 rfl (lv_at hl 2 rfl) ?_
      refine lv_icmp_ne (tgt := 30) hx hb dX4_add_24 (by decide) (fun b24_17 => ?_) (fun b24_17 => ?_)
      · skip
        have b24_17 : ¬ ((x) = (y)) := b24_17
        refine lv_aload_n hx hb dX4_add_30 rfl (lv_at hl 0 rfl) ?_
        refine va_get (D := G.1) (ci := 3) (v := .int (nI (nv))) (C := RX4) (T := TX4) (N := 8) hx hb hts in_X4_add_X4 hown hK.1 hP 0 rfl rfl 3 (by decide) (hts (.fieldLink RX4 18 "NightWater$Valves" "size" "I") (List.mem_of_getElem? (i := 2) rfl)) (fun _ h9 => h9) rfl dX4_add_31 ?_
        refine lv_bipush (v := (12)) hx hb dX4_add_34 (by decide) ?_
        refine lv_icmp_lt (tgt := 42) hx hb dX4_add_36 (by decide) (fun b36_18 => ?_) (fun b36_18 => ?_)
        · skip
          have b36_18 : (nv) < (12) := (nI_ltI (a := nv) (b := 12) (by omega) (by omega)).mp b36_18
          have b36_18n : ¬ ((12) ≤ (nv)) := by omega
          refine lv_aload_n hx hb dX4_add_42 rfl (lv_at hl 0 rfl) ?_
          refine va_get (D := G.1) (ci := 3) (v := .ref (v 1)) (C := RX4) (T := TX4) (N := 8) hx hb hts in_X4_add_X4 hown hK.1 hP 0 rfl rfl 1 (by decide) (hts (.fieldLink RX4 11 "NightWater$Valves" "from" "[I") (List.mem_of_getElem? (i := 3) rfl)) (fun _ h9 => h9) rfl dX4_add_43 ?_
          refine lv_aload_n hx hb dX4_add_46 rfl (lv_at hl 0 rfl) ?_
          refine va_get (D := G.1) (ci := 3) (v := .int (nI (nv))) (C := RX4) (T := TX4) (N := 8) hx hb hts in_X4_add_X4 hown hK.1 hP 0 rfl rfl 3 (by decide) (hts (.fieldLink RX4 18 "NightWater$Valves" "size" "I") (List.mem_of_getElem? (i := 2) rfl)) (fun _ h9 => h9) rfl dX4_add_47 ?_
          refine lv_iload_n hx hb dX4_add_50 rfl (lv_at hl 1 rfl) ?_
          refine nw_iastN X hP hD hS 1 (n := 12) (f := fr) rfl (nv) (z_4) rfl he_6 (by omega) (by decide) dX4_add_51 (fun H locs hP hD hS => ?_)
          have hP : va_P G.1 vwCl ((wV G (v) (a 0) (nv) (va_up (fr) (nv) (z_4)) (tt) (zl) (ld) (gk) (ut)) ++ ((wZ G (a) (n) (cu) (bg) (M) (er) (us)))) H := hP
          have hD : va_D vA ((wV G (v) (a 0) (nv) (va_up (fr) (nv) (z_4)) (tt) (zl) (ld) (gk) (ut)) ++ ((wZ G (a) (n) (cu) (bg) (M) (er) (us)))) := hD
          refine lv_aload_n hx hb dX4_add_52 rfl (lv_at hl 0 rfl) ?_
          refine va_get (D := G.1) (ci := 3) (v := .ref (v 2)) (C := RX4) (T := TX4) (N := 8) hx hb hts in_X4_add_X4 hown hK.1 hP 0 rfl rfl 2 (by decide) (hts (.fieldLink RX4 15 "NightWater$Valves" "to" "[I") (List.mem_of_getElem? (i := 4) rfl)) (fun _ h9 => h9) rfl dX4_add_53 ?_
          refine lv_aload_n hx hb dX4_add_56 rfl (lv_at hl 0 rfl) ?_
          refine va_get (D := G.1) (ci := 3) (v := .int (nI (nv))) (C := RX4) (T := TX4) (N := 8) hx hb hts in_X4_add_X4 hown hK.1 hP 0 rfl rfl 3 (by decide) (hts (.fieldLink RX4 18 "NightWater$Valves" "size" "I") (List.mem_of_getElem? (i := 2) rfl)) (fun _ h9 => h9) rfl dX4_add_57 ?_
          refine lv_iload_n hx hb dX4_add_60 rfl (lv_at hl 2 rfl) ?_
          refine nw_iastN X hP hD hS 2 (n := 12) (f := tt) rfl (nv) (z_12) rfl he_14 (by omega) (by decide) dX4_add_61 (fun H locs hP hD hS => ?_)
          have hP : va_P G.1 vwCl ((wV G (v) (a 0) (nv) (va_up (fr) (nv) (z_4)) (va_up (tt) (nv) (z_12)) (zl) (ld) (gk) (ut)) ++ ((wZ G (a) (n) (cu) (bg) (M) (er) (us)))) H := hP
          have hD : va_D vA ((wV G (v) (a 0) (nv) (va_up (fr) (nv) (z_4)) (va_up (tt) (nv) (z_12)) (zl) (ld) (gk) (ut)) ++ ((wZ G (a) (n) (cu) (bg) (M) (er) (us)))) := hD
          refine lv_aload_n hx hb dX4_add_62 rfl (lv_at hl 0 rfl) ?_
          refine lv_dup hx hb dX4_add_63 rfl ?_
          refine va_get (D := G.1) (ci := 3) (v := .int (nI (nv))) (C := RX4) (T := TX4) (N := 8) hx hb hts in_X4_add_X4 hown hK.1 hP 0 rfl rfl 3 (by decide) (hts (.fieldLink RX4 18 "NightWater$Valves" "size" "I") (List.mem_of_getElem? (i := 2) rfl)) (fun _ h9 => h9) rfl dX4_add_64 ?_
          refine lv_iconst (v := (1)) hx hb dX4_add_67 (by decide) ?_
          refine lv_iadd hx hb dX4_add_68 ?_
          refine nw_top (y := nI (nv + 1)) (nI_add (nv) (1)) ?_
          refine va_put (D := G.1) (ci := 3) (v := .int (nI (nv + 1))) (ty := .int) (C := RX4) (T := TX4) (N := 8) hx hb hts in_X4_add_X4 tyX4 tyX4_ok nmX4 hown hK.1 hP hD hS 0 rfl rfl 3 (by decide) (hts (.fieldLink RX4 18 "NightWater$Valves" "size" "I") (List.mem_of_getElem? (i := 2) rfl)) (fun _ h9 => h9) rfl (by decide +kernel) rfl rfl (Nat.le_of_ble_eq_true rfl) dX4_add_69 (fun H locs hP hD hS => ?_)
          have hP : va_P G.1 vwCl ((wV G (v) (a 0) (nv + 1) (va_up (fr) (nv) (z_4)) (va_up (tt) (nv) (z_12)) (zl) (ld) (gk) (ut)) ++ ((wZ G (a) (n) (cu) (bg) (M) (er) (us)))) H := hP
          have hD : va_D vA ((wV G (v) (a 0) (nv + 1) (va_up (fr) (nv) (z_4)) (va_up (tt) (nv) (z_12)) (zl) (ld) (gk) (ut)) ++ ((wZ G (a) (n) (cu) (bg) (M) (er) (us)))) := hD
          refine lv_aload_n hx hb dX4_add_72 rfl (lv_at hl 0 rfl) ?_
          refine va_get (D := G.1) (ci := 3) (v := .int (nI (nv + 1))) (C := RX4) (T := TX4) (N := 8) hx hb hts in_X4_add_X4 hown hK.1 hP 0 rfl rfl 3 (by decide) (hts (.fieldLink RX4 18 "NightWater$Valves" "size" "I") (List.mem_of_getElem? (i := 2) rfl)) (fun _ h9 => h9) rfl dX4_add_73 ?_
          refine lv_iconst (v := (1)) hx hb dX4_add_76 (by decide) ?_
          refine lv_isub hx hb dX4_add_77 ?_
          refine nw_top (y := nI (nv + 1 - 1)) (pk_sub (a := nv + 1) (b := 1) (by omega)) ?_
          exact nw_iret (rm := ({ frames := 2, cells := 0, slots := 0, locals := 43 } : Room)) X hP hD hS (by simp only [valveF, valveOk, nwIf_T, nwIf_F, or_true, true_or, or_false, false_or, and_true, true_and, and_false, false_and, not_true_eq_false, not_false_eq_true, Nat.add_sub_cancel, q_2, ec_7, q_10, ec_15, b24_17, b36_18n, b36_18]) dX4_add_78
        · skip
          have b36_18 : ¬ ((nv) < (12)) := fun h => b36_18 ((nI_ltI (a := nv) (b := 12) (by omega) (by omega)).mpr h)
          have b36_18n : (12) ≤ (nv) := by omega
          refine lv_bipush (v := (-4)) hx hb dX4_add_39 (by decide) ?_
          exact nw_iret (rm := ({ frames := 2, cells := 0, slots := 0, locals := 43 } : Room)) X hP hD hS (by simp only [valveF, valveOk, nwIf_T, nwIf_F, or_true, true_or, or_false, false_or, and_true, true_and, and_false, false_and, not_true_eq_false, not_false_eq_true, Nat.add_sub_cancel, q_2, ec_7, q_10, ec_15, b24_17, b36_18n, b36_18]) dX4_add_41
      · skip
        have b24_17 : (x) = (y) := b24_17
        refine lv_bipush (v := (-2)) hx hb dX4_add_27 (by decide) ?_
        exact nw_iret (rm := ({ frames := 2, cells := 0, slots := 0, locals := 43 } : Room)) X hP hD hS (by simp only [valveF, valveOk, nwIf_T, nwIf_F, or_true, true_or, or_false, false_or, and_true, true_and, and_false, false_and, not_true_eq_false, not_false_eq_true, Nat.add_sub_cancel, q_2, ec_7, q_10, ec_15, eq_true b24_17]) dX4_add_29
set_option maxHeartbeats 4000000 in
set_option maxRecDepth 100000 in
theorem c_X4_allValves (lc : Launch) (G : nwG) (v : Nat → Nat) (nv : Nat) (fr tt : Nat → Nat) (zl : Nat → Int32) (ld : Nat → Nat) (gk ut : Nat → Int32) (a : Nat → Nat) (n : Nat) (cu bg : Nat → Int32) (M : Nat → Nat → Int32) (er us : Int32)  (hnv : nv ≤ 12) : nwCi lc G yX4_allValves wsX4_allValves ({ frames := 0, cells := 0, slots := 0, locals := 0 } : Room) [.ref (v 0)] ((wV G (v) (a 0) (nv) (fr) (tt) (zl) (ld) (gk) (ut)) ++ ((wZ G (a) (n) (cu) (bg) (M) (er) (us)))) (fun r w => r = nI (2 ^ nv) - 1 ∧ w = wV G v (a 0) (nv) (fr) (tt) (zl) (ld) (gk) (ut) ++ wZ G a n cu bg M er us) := by
  refine nw_of (cc := cX4_allValves) (maxL := 1) (ret := (some .int)) (by decide) rfl (Nat.le_of_ble_eq_true rfl) ?_
  intro vp ve vs vm vb vt vc vA ls X hP hD hA hS hl
  have X : nwAt vp vm vc cX4_allValves 1 vs _ wsX4_allValves RX4 vt (some .int) "allValves" G := X
  have hx := X.1.1
  have hb := X.1.2.1
  have hown := X.1.2.2.2.1
  have hts := X.1.2.2.2.2
  have hK := X.2.2.2.2
  have hl : lv_has ls 1 [(0, .ref (v 0))] := hl
  refine lv_iconst (v := (1)) hx hb dX4_allValves_0 (by decide) ?_
  refine lv_aload_n hx hb dX4_allValves_1 rfl (lv_at hl 0 rfl) ?_
  refine va_get (D := G.1) (ci := 3) (v := .int (nI (nv))) (C := RX4) (T := TX4) (N := 8) hx hb hts in_X4_allValves_X4 hown hK.1 hP 0 rfl rfl 3 (by decide) (hts (.fieldLink RX4 18 "NightWater$Valves" "size" "I") (List.mem_of_getElem? (i := 1) rfl)) (fun _ h9 => h9) rfl dX4_allValves_2 ?_
  refine lv_ishl hx hb dX4_allValves_5 ?_
  refine lv_iconst (v := (1)) hx hb dX4_allValves_6 (by decide) ?_
  refine lv_isub hx hb dX4_allValves_7 ?_
  exact nw_iret (rm := ({ frames := 0, cells := 0, slots := 0, locals := 0 } : Room)) X hP hD hS (⟨by rw [nw_shl1 nv (by omega)], rfl⟩) dX4_allValves_8
set_option maxHeartbeats 4000000 in
set_option maxRecDepth 100000 in
theorem c_X4_isNoSet (lc : Launch) (G : nwG) (v : Nat → Nat) (nv : Nat) (fr tt : Nat → Nat) (zl : Nat → Int32) (ld : Nat → Nat) (gk ut : Nat → Int32) (a : Nat → Nat) (n : Nat) (cu bg : Nat → Int32) (M : Nat → Nat → Int32) (er us : Int32) (x : Int32) (hnv : nv ≤ 12) : nwCi lc G yX4_isNoSet wsX4_isNoSet ({ frames := 1, cells := 0, slots := 0, locals := 22 } : Room) [.ref (v 0), .int (x)] ((wV G (v) (a 0) (nv) (fr) (tt) (zl) (ld) (gk) (ut)) ++ ((wZ G (a) (n) (cu) (bg) (M) (er) (us)))) (fun r w => ((r = 1 ∧ setBad nv x) ∨ (r = 0 ∧ ¬ setBad nv x)) ∧ w = wV G v (a 0) (nv) (fr) (tt) (zl) (ld) (gk) (ut) ++ wZ G a n cu bg M er us) := by
  refine nw_of (cc := cX4_isNoSet) (maxL := 2) (ret := (some .boolean)) (by decide) rfl (Nat.le_of_ble_eq_true rfl) ?_
  intro vp ve vs vm vb vt vc vA ls X hP hD hA hS hl
  have X : nwAt vp vm vc cX4_isNoSet 2 vs _ wsX4_isNoSet RX4 vt (some .boolean) "isNoSet" G := X
  have hx := X.1.1
  have hb := X.1.2.1
  have hown := X.1.2.2.2.1
  have hts := X.1.2.2.2.2
  have hK := X.2.2.2.2
  have hl : lv_has ls 2 [(0, .ref (v 0)), (1, .int (x))] := hl
  refine lv_iload_n hx hb dX4_isNoSet_0 rfl (lv_at hl 1 rfl) ?_
  refine lv_iconst (v := (0)) hx hb dX4_isNoSet_1 (by decide) ?_
  refine lv_aload_n hx hb dX4_isNoSet_2 rfl (lv_at hl 0 rfl) ?_
  refine nw_Vi (As := []) (rest := [.int (0), .int (x)]) (q0 := 0) X (c_X4_allValves lc G (v) (nv) (fr) (tt) (zl) (ld) (gk) (ut) (a) (n) (cu) (bg) (M) (er) (us) (by first | assumption | omega)) (cwV 0 hts gX4_isNoSet_X4_allValves rfl rfl rfl (by decide +kernel) ⟨Nat.le_of_ble_eq_true rfl, Nat.le_of_ble_eq_true rfl⟩) rfl (show vwCl[3]? = some (RX4, TX4, 8) from rfl) (nwSp.all ((wV G (v) (a 0) (nv) (fr) (tt) (zl) (ld) (gk) (ut)) ++ ((wZ G (a) (n) (cu) (bg) (M) (er) (us))))) hP hD hS hA rfl hl.1 rfl (Nat.le_of_ble_eq_true rfl) dX4_isNoSet_3 ⟨Nat.le_of_ble_eq_true rfl, Nat.le_of_ble_eq_true rfl⟩ (fun r w H locs hp_1 hP hD hS => ?_)
  obtain ⟨rfl, rfl⟩ := hp_1
  have hP : va_P G.1 vwCl ((wV G (v) (a 0) (nv) (fr) (tt) (zl) (ld) (gk) (ut)) ++ ((wZ G (a) (n) (cu) (bg) (M) (er) (us)))) H := hP
  have hD : va_D vA ((wV G (v) (a 0) (nv) (fr) (tt) (zl) (ld) (gk) (ut)) ++ ((wZ G (a) (n) (cu) (bg) (M) (er) (us)))) := hD
  refine nw_Ni (As := [.int (x), .int (0), .int (nI (2 ^ (nv)) - 1)]) (rest := []) X (c_X6_outside lc G ((x)) ((0 : Int32)) ((nI (2 ^ (nv)) - 1)) ) (va_cnB 3 hts ggX4_isNoSet_X6_outside rfl rfl rfl (hK.nest 4 rfl) (hts (.initialized RX6) (List.mem_of_getElem? (i := 8) rfl)) (by decide +kernel) ⟨Nat.le_of_ble_eq_true rfl, Nat.le_of_ble_eq_true rfl⟩) (hts (.static yX6_outside) (List.mem_of_getElem? (i := 7) rfl)) (fun _ _ h => h.2) hP hD hS hA rfl hl.1 rfl (Nat.le_of_ble_eq_true rfl) dX4_isNoSet_6 ⟨Nat.le_of_ble_eq_true rfl, Nat.le_of_ble_eq_true rfl⟩ (fun r H locs hp_2 hP hD hS => ?_)
  obtain ⟨⟨rfl, q_3⟩ | ⟨rfl, q_3⟩, -⟩ := hp_2
  · skip
    have q_3 : out ((x)) ((0 : Int32)) ((nI (2 ^ (nv)) - 1)) := q_3
    exact nw_zret (rm := ({ frames := 1, cells := 0, slots := 0, locals := 22 } : Room)) X (by decide) hP hD hS (⟨Or.inl ⟨rfl, q_3⟩, rfl⟩) dX4_isNoSet_9
  · skip
    have q_3 : ¬ out ((x)) ((0 : Int32)) ((nI (2 ^ (nv)) - 1)) := q_3
    exact nw_zret (rm := ({ frames := 1, cells := 0, slots := 0, locals := 22 } : Room)) X (by decide) hP hD hS (⟨Or.inr ⟨rfl, q_3⟩, rfl⟩) dX4_isNoSet_9
set_option maxHeartbeats 4000000 in
set_option maxRecDepth 100000 in
theorem c_X4_reckonLeaks (lc : Launch) (G : nwG) (v : Nat → Nat) (nv : Nat) (fr tt : Nat → Nat) (zl : Nat → Int32) (ld : Nat → Nat) (gk ut : Nat → Int32) (a : Nat → Nat) (n : Nat) (cu bg : Nat → Int32) (M : Nat → Nat → Int32) (er us : Int32)  (hn : n ≤ 8) : nwCv lc G yX4_reckonLeaks wsX4_reckonLeaks ({ frames := 4, cells := 0, slots := 0, locals := 91 } : Room) [.ref (v 0)] ((wV G (v) (a 0) (nv) (fr) (tt) (zl) (ld) (gk) (ut)) ++ ((wZ G (a) (n) (cu) (bg) (M) (er) (us)))) (fun w => ∃ zlv : Nat → Int32, (∀ j, j < n → zlv j = lk1 cu bg M er us j) ∧ w = wV G v (a 0) (nv) (fr) (tt) (zlv) (ld) (gk) (ut) ++ wZ G a n cu bg M er us) := by
  refine nw_of (cc := cX4_reckonLeaks) (maxL := 2) (ret := none) (by decide) rfl (Nat.le_of_ble_eq_true rfl) ?_
  intro vp ve vs vm vb vt vc vA ls X hP hD hA hS hl
  have X : nwAt vp vm vc cX4_reckonLeaks 2 vs _ wsX4_reckonLeaks RX4 vt none "reckonLeaks" G := X
  have hx := X.1.1
  have hb := X.1.2.1
  have hown := X.1.2.2.2.1
  have hts := X.1.2.2.2.2
  have hK := X.2.2.2.2
  have hl : lv_has ls 2 [(0, .ref (v 0))] := hl
  refine lv_iconst (v := (0)) hx hb dX4_reckonLeaks_0 (by decide) ?_
  refine lv_istore_n (lv' := [(1, .int (0)), (0, .ref (v 0))]) hx hb dX4_reckonLeaks_1 rfl hl (by decide) rfl (fun ls hl => ?_)
  have K2 : ∀ (fuel : Nat) (z : Nat) (zlw : Nat → Int32) (H : Heap) (locs : List Loc) (ls : Array Slot), (9 - z) < fuel → (z ≤ n) → (∀ j, j < z → zlw j = lk1 cu bg M er us j) → lv_has ls 2 [(1, .int (nI (z))), (0, .ref (v 0))] → va_P G.1 vwCl ((wV G (v) (a 0) (nv) (fr) (tt) (zlw) (ld) (gk) (ut)) ++ ((wZ G (a) (n) (cu) (bg) (M) (er) (us)))) H → va_D vA ((wV G (v) (a 0) (nv) (fr) (tt) (zlw) (ld) (gk) (ut)) ++ ((wZ G (a) (n) (cu) (bg) (M) (er) (us)))) → va_S vA vs.heap H locs → W vp lc ve ({ frames := 4, cells := 0, slots := 0, locals := 91 } : Room) vs vm ([.ref (v 0)] : List Value).toArray vb vt vc H locs 0 0 (MQ vb (nwQv G (fun w => ∃ zlv : Nat → Int32, (∀ j, j < n → zlv j = lk1 cu bg M er us j) ∧ w = wV G v (a 0) (nv) (fr) (tt) (zlv) (ld) (gk) (ut) ++ wZ G a n cu bg M er us) vA) ([.ref (v 0)] : List Value).toArray vs ({ frames := 4, cells := 0, slots := 0, locals := 91 } : Room).cells ({ frames := 4, cells := 0, slots := 0, locals := 91 } : Room).slots vA) (F0 vm 2 ls []) := by
    intro fuel
    induction fuel with
    | zero => intro z zlw H locs ls hmu; exact absurd hmu (Nat.not_lt_zero _)
    | succ fuel ih2 =>
      intro z zlw H locs ls hmu hz el hl hP hD hS
      refine lv_iload_n hx hb dX4_reckonLeaks_2 rfl (lv_at hl 0 rfl) ?_
      refine lv_aload_n hx hb dX4_reckonLeaks_3 rfl (lv_at hl 1 rfl) ?_
      refine va_get (D := G.1) (ci := 3) (v := .ref (a 0)) (C := RX4) (T := TX4) (N := 8) hx hb hts in_X4_reckonLeaks_X4 hown hK.1 hP 0 rfl rfl 0 (by decide) (hts (Cond.fieldLink RX4 37 "NightWater$Valves" "zones" "LNightWater$Zones;") (List.mem_of_getElem? (i := 1) rfl)) (fun _ h9 => h9) rfl dX4_reckonLeaks_4 ?_
      refine nw_Vi (As := []) (rest := [.int (nI (z))]) (q0 := 0) X (c_X5_number lc G (a) (n) (cu) (bg) (M) (er) (us) ) (cwV 0 hts gX4_reckonLeaks_X5_number rfl rfl rfl (by decide +kernel) ⟨Nat.le_of_ble_eq_true rfl, Nat.le_of_ble_eq_true rfl⟩) rfl (show vwCl[4]? = some (RX5, TX5, 7) from rfl) (nwSp.suf ((wV G (v) (a 0) (nv) (fr) (tt) (zlw) (ld) (gk) (ut))) ((wZ G (a) (n) (cu) (bg) (M) (er) (us)))) hP hD hS hA rfl hl.1 rfl (Nat.le_of_ble_eq_true rfl) dX4_reckonLeaks_7 ⟨Nat.le_of_ble_eq_true rfl, Nat.le_of_ble_eq_true rfl⟩ (fun r w H locs hp_1 hP hD hS => ?_)
      obtain ⟨rfl, rfl⟩ := hp_1
      have hP : va_P G.1 vwCl ((wV G (v) (a 0) (nv) (fr) (tt) (zlw) (ld) (gk) (ut)) ++ ((wZ G (a) (n) (cu) (bg) (M) (er) (us)))) H := hP
      have hD : va_D vA ((wV G (v) (a 0) (nv) (fr) (tt) (zlw) (ld) (gk) (ut)) ++ ((wZ G (a) (n) (cu) (bg) (M) (er) (us)))) := hD
      refine lv_icmp_ge (tgt := 34) hx hb dX4_reckonLeaks_10 (by decide) (fun b10_2 => ?_) (fun b10_2 => ?_)
      · skip
        have b10_2 : ((n)) ≤ (z) := (nI_leI (a := (n)) (b := z) (by omega) (by omega)).mp b10_2
        have b10_2n : ¬ ((z) < ((n))) := by omega
        exact nw_vret (rm := ({ frames := 4, cells := 0, slots := 0, locals := 91 } : Room)) X hP hD hS (⟨_, fun j hj => el j (by omega), rfl⟩) dX4_reckonLeaks_34
      · skip
        have b10_2 : ¬ (((n)) ≤ (z)) := fun h => b10_2 ((nI_leI (a := (n)) (b := z) (by omega) (by omega)).mpr h)
        have b10_2n : (z) < ((n)) := by omega
        refine lv_aload_n hx hb dX4_reckonLeaks_13 rfl (lv_at hl 1 rfl) ?_
        refine va_get (D := G.1) (ci := 3) (v := .ref (v 3)) (C := RX4) (T := TX4) (N := 8) hx hb hts in_X4_reckonLeaks_X4 hown hK.1 hP 0 rfl rfl 4 (by decide) (hts (Cond.fieldLink RX4 24 "NightWater$Valves" "zoneLeak" "[I") (List.mem_of_getElem? (i := 2) rfl)) (fun _ h9 => h9) rfl dX4_reckonLeaks_14 ?_
        refine lv_iload_n hx hb dX4_reckonLeaks_17 rfl (lv_at hl 0 rfl) ?_
        refine lv_aload_n hx hb dX4_reckonLeaks_18 rfl (lv_at hl 1 rfl) ?_
        refine va_get (D := G.1) (ci := 3) (v := .ref (a 0)) (C := RX4) (T := TX4) (N := 8) hx hb hts in_X4_reckonLeaks_X4 hown hK.1 hP 0 rfl rfl 0 (by decide) (hts (Cond.fieldLink RX4 37 "NightWater$Valves" "zones" "LNightWater$Zones;") (List.mem_of_getElem? (i := 1) rfl)) (fun _ h9 => h9) rfl dX4_reckonLeaks_19 ?_
        refine lv_iload_n hx hb dX4_reckonLeaks_22 rfl (lv_at hl 0 rfl) ?_
        refine lv_iconst (v := (1)) hx hb dX4_reckonLeaks_23 (by decide) ?_
        refine nw_Vi (As := [.int (nI (z)), .int (1)]) (rest := [.int (nI (z)), .ref (v 3)]) (q0 := 0) X (c_X5_leak lc G (a) (n) (cu) (bg) (M) (er) (us) ((nI (z))) ((1 : Int32)) (by first | assumption | omega)) (cwV 2 hts gX4_reckonLeaks_X5_leak rfl rfl rfl (by decide +kernel) ⟨Nat.le_of_ble_eq_true rfl, Nat.le_of_ble_eq_true rfl⟩) rfl (show vwCl[4]? = some (RX5, TX5, 7) from rfl) (nwSp.suf ((wV G (v) (a 0) (nv) (fr) (tt) (zlw) (ld) (gk) (ut))) ((wZ G (a) (n) (cu) (bg) (M) (er) (us)))) hP hD hS hA rfl hl.1 rfl (Nat.le_of_ble_eq_true rfl) dX4_reckonLeaks_24 ⟨Nat.le_of_ble_eq_true rfl, Nat.le_of_ble_eq_true rfl⟩ (fun r w H locs hp_3 hP hD hS => ?_)
        obtain ⟨rfl, rfl⟩ := hp_3
        have hP : va_P G.1 vwCl ((wV G (v) (a 0) (nv) (fr) (tt) (zlw) (ld) (gk) (ut)) ++ ((wZ G (a) (n) (cu) (bg) (M) (er) (us)))) H := hP
        have hD : va_D vA ((wV G (v) (a 0) (nv) (fr) (tt) (zlw) (ld) (gk) (ut)) ++ ((wZ G (a) (n) (cu) (bg) (M) (er) (us)))) := hD
        refine nw_iast X hP hD hS 3 (n := 8) (f := zlw) rfl (z) rfl (by omega) (by decide) dX4_reckonLeaks_27 (fun H locs hP hD hS => ?_)
        have hP : va_P G.1 vwCl ((wV G (v) (a 0) (nv) (fr) (tt) (va_up (zlw) (z) (leaksF (n) (cu) (bg) (M) (er) (us) ((nI (z))) ((1 : Int32)))) (ld) (gk) (ut)) ++ ((wZ G (a) (n) (cu) (bg) (M) (er) (us)))) H := hP
        have hD : va_D vA ((wV G (v) (a 0) (nv) (fr) (tt) (va_up (zlw) (z) (leaksF (n) (cu) (bg) (M) (er) (us) ((nI (z))) ((1 : Int32)))) (ld) (gk) (ut)) ++ ((wZ G (a) (n) (cu) (bg) (M) (er) (us)))) := hD
        refine lv_iinc (v := (nI (z + 1))) (lv' := [(1, .int (nI (z + 1))), (0, .ref (v 0))]) hx hb dX4_reckonLeaks_28 hl (k := 0) rfl (by exact nI_add (z) 1) (by decide) rfl (fun ls hl => ?_)
        refine lv_goto (tgt := 2) hx hb dX4_reckonLeaks_31 (by decide) ?_
        exact ih2 (z + 1) (va_up (zlw) (z) (leaksF (n) (cu) (bg) (M) (er) (us) ((nI (z))) ((1 : Int32)))) _ _ _ (by omega) (by omega) (by exact nw_fill el (leaksF_at (by omega) hn (by unfold out; decide))) (lv_sub hl [0, 1] rfl) hP hD hS
  exact K2 ((9 - (0)) + 1) (0) (zl) _ _ _ (Nat.lt_succ_self _) (by omega) (by exact fun j h => absurd h (Nat.not_lt_zero j)) (lv_sub hl [0, 1] rfl) hP hD hS
set_option maxHeartbeats 4000000 in
set_option maxRecDepth 100000 in
theorem c_X4_join (lc : Launch) (G : nwG) (v : Nat → Nat) (nv : Nat) (fr tt : Nat → Nat) (zl : Nat → Int32) (ld : Nat → Nat) (gk ut : Nat → Int32) (a : Nat → Nat) (n : Nat) (cu bg : Nat → Int32) (M : Nat → Nat → Int32) (er us : Int32) (x y : Nat) (hn : n ≤ 8) (hjx : x < 8) (hjy : y < 8) (hld : ∀ j, ld j < 8) : nwCv lc G yX4_join wsX4_join ({ frames := 1, cells := 0, slots := 0, locals := 24 } : Room) [.ref (v 0), .int (nI (x)), .int (nI (y))] ((wV G (v) (a 0) (nv) (fr) (tt) (zl) (ld) (gk) (ut)) ++ ((wZ G (a) (n) (cu) (bg) (M) (er) (us)))) (fun w => w = wV G v (a 0) (nv) (fr) (tt) (zl) (gst n ld x y) (gk) (ut) ++ wZ G a n cu bg M er us) := by
  refine nw_of (cc := cX4_join) (maxL := 6) (ret := none) (by decide) rfl (Nat.le_of_ble_eq_true rfl) ?_
  intro vp ve vs vm vb vt vc vA ls X hP hD hA hS hl
  have X : nwAt vp vm vc cX4_join 6 vs _ wsX4_join RX4 vt none "join" G := X
  have hx := X.1.1
  have hb := X.1.2.1
  have hown := X.1.2.2.2.1
  have hts := X.1.2.2.2.2
  have hK := X.2.2.2.2
  have hl : lv_has ls 6 [(0, .ref (v 0)), (1, .int (nI (x))), (2, .int (nI (y)))] := hl
  refine lv_iload_n hx hb dX4_join_0 rfl (lv_at hl 1 rfl) ?_
  refine lv_iload_n hx hb dX4_join_1 rfl (lv_at hl 2 rfl) ?_
  refine nw_min X hl.1 (hts (.methodLink RX4 88 Lib.Math.min.name) (List.mem_of_getElem? (i := 1) rfl)) (hts (.static Lib.Math.min.name) (List.mem_of_getElem? (i := 2) rfl)) (hts (.initialized "java/lang/Math") (List.mem_of_getElem? (i := 3) rfl)) (hts (.code Lib.Math.min.name Lib.Math.min.code 2 (some .int)) (List.mem_of_getElem? (i := 4) rfl)) (Nat.le_of_ble_eq_true rfl) (Nat.le_of_ble_eq_true rfl) (Nat.zero_le _) (Nat.zero_le _) dX4_join_2 ?_
  refine nw_top (y := nI (min x y)) (nw_min_nI (by omega) (by omega)) ?_
  refine lv_istore_n (lv' := [(3, .int (nI (min x y))), (0, .ref (v 0)), (1, .int (nI (x))), (2, .int (nI (y)))]) hx hb dX4_join_5 rfl hl (by decide) rfl (fun ls hl => ?_)
  refine lv_iload_n hx hb dX4_join_6 rfl (lv_at hl 2 rfl) ?_
  refine lv_iload_n hx hb dX4_join_7 rfl (lv_at hl 3 rfl) ?_
  refine nw_max X hl.1 (hts (.methodLink RX4 93 Lib.Math.max.name) (List.mem_of_getElem? (i := 5) rfl)) (hts (.static Lib.Math.max.name) (List.mem_of_getElem? (i := 6) rfl)) (hts (.initialized "java/lang/Math") (List.mem_of_getElem? (i := 3) rfl)) (hts (.code Lib.Math.max.name Lib.Math.max.code 2 (some .int)) (List.mem_of_getElem? (i := 7) rfl)) (Nat.le_of_ble_eq_true rfl) (Nat.le_of_ble_eq_true rfl) (Nat.zero_le _) (Nat.zero_le _) dX4_join_8 ?_
  refine nw_top (y := nI (max x y)) (nw_max_nI (by omega) (by omega)) ?_
  refine lv_istore (lv' := [(4, .int (nI (max x y))), (3, .int (nI (min x y))), (0, .ref (v 0)), (1, .int (nI (x))), (2, .int (nI (y)))]) hx hb dX4_join_11 hl (by decide) rfl (fun ls hl => ?_)
  refine lv_iconst (v := (0)) hx hb dX4_join_13 (by decide) ?_
  refine lv_istore (lv' := [(5, .int (0)), (4, .int (nI (max x y))), (3, .int (nI (min x y))), (0, .ref (v 0)), (1, .int (nI (x))), (2, .int (nI (y)))]) hx hb dX4_join_14 hl (by decide) rfl (fun ls hl => ?_)
  have K16 : ∀ (fuel : Nat) (z : Nat) (ldv : Nat → Nat) (H : Heap) (locs : List Loc) (ls : Array Slot), (9 - z) < fuel → (z ≤ n) → (ldv = gst z ld x y) → lv_has ls 6 [(5, .int (nI (z))), (4, .int (nI (max x y))), (3, .int (nI (min x y))), (0, .ref (v 0)), (1, .int (nI (x))), (2, .int (nI (y)))] → va_P G.1 vwCl ((wV G (v) (a 0) (nv) (fr) (tt) (zl) (ldv) (gk) (ut)) ++ ((wZ G (a) (n) (cu) (bg) (M) (er) (us)))) H → va_D vA ((wV G (v) (a 0) (nv) (fr) (tt) (zl) (ldv) (gk) (ut)) ++ ((wZ G (a) (n) (cu) (bg) (M) (er) (us)))) → va_S vA vs.heap H locs → W vp lc ve ({ frames := 1, cells := 0, slots := 0, locals := 24 } : Room) vs vm ([.ref (v 0), .int (nI (x)), .int (nI (y))] : List Value).toArray vb vt vc H locs 0 0 (MQ vb (nwQv G (fun w => w = wV G v (a 0) (nv) (fr) (tt) (zl) (gst n ld x y) (gk) (ut) ++ wZ G a n cu bg M er us) vA) ([.ref (v 0), .int (nI (x)), .int (nI (y))] : List Value).toArray vs ({ frames := 1, cells := 0, slots := 0, locals := 24 } : Room).cells ({ frames := 1, cells := 0, slots := 0, locals := 24 } : Room).slots vA) (F0 vm 16 ls []) := by
    intro fuel
    induction fuel with
    | zero => intro z ldv H locs ls hmu; exact absurd hmu (Nat.not_lt_zero _)
    | succ fuel ih16 =>
      intro z ldv H locs ls hmu hz el hl hP hD hS
      have hlz : ldv z < 8 := by rw [el]; exact gst_lt hld hjx hjy z
      have h9 : ldv z = ld z := by rw [el]; exact gst_out (by omega)
      refine lv_iload hx hb dX4_join_16 (lv_at hl 0 rfl) ?_
      refine lv_aload_n hx hb dX4_join_18 rfl (lv_at hl 3 rfl) ?_
      refine va_get (D := G.1) (ci := 3) (v := .ref (a 0)) (C := RX4) (T := TX4) (N := 8) hx hb hts in_X4_join_X4 hown hK.1 hP 0 rfl rfl 0 (by decide) (hts (.fieldLink RX4 37 "NightWater$Valves" "zones" "LNightWater$Zones;") (List.mem_of_getElem? (i := 8) rfl)) (fun _ h9 => h9) rfl dX4_join_19 ?_
      refine nw_Vi (As := []) (rest := [.int (nI (z))]) (q0 := 0) X (c_X5_number lc G (a) (n) (cu) (bg) (M) (er) (us) ) (cwV 0 hts gX4_join_X5_number rfl rfl rfl (by decide +kernel) ⟨Nat.le_of_ble_eq_true rfl, Nat.le_of_ble_eq_true rfl⟩) rfl (show vwCl[4]? = some (RX5, TX5, 7) from rfl) (nwSp.suf ((wV G (v) (a 0) (nv) (fr) (tt) (zl) (ldv) (gk) (ut))) ((wZ G (a) (n) (cu) (bg) (M) (er) (us)))) hP hD hS hA rfl hl.1 rfl (Nat.le_of_ble_eq_true rfl) dX4_join_22 ⟨Nat.le_of_ble_eq_true rfl, Nat.le_of_ble_eq_true rfl⟩ (fun r w H locs hp_1 hP hD hS => ?_)
      obtain ⟨rfl, rfl⟩ := hp_1
      have hP : va_P G.1 vwCl ((wV G (v) (a 0) (nv) (fr) (tt) (zl) (ldv) (gk) (ut)) ++ ((wZ G (a) (n) (cu) (bg) (M) (er) (us)))) H := hP
      have hD : va_D vA ((wV G (v) (a 0) (nv) (fr) (tt) (zl) (ldv) (gk) (ut)) ++ ((wZ G (a) (n) (cu) (bg) (M) (er) (us)))) := hD
      refine lv_icmp_ge (tgt := 54) hx hb dX4_join_25 (by decide) (fun b25_2 => ?_) (fun b25_2 => ?_)
      · skip
        have b25_2 : ((n)) ≤ (z) := (nI_leI (a := (n)) (b := z) (by omega) (by omega)).mp b25_2
        have b25_2n : ¬ ((z) < ((n))) := by omega
        exact nw_vret (rm := ({ frames := 1, cells := 0, slots := 0, locals := 24 } : Room)) X hP hD hS (by rw [el, show z = n by omega]) dX4_join_54
      · skip
        have b25_2 : ¬ (((n)) ≤ (z)) := fun h => b25_2 ((nI_leI (a := (n)) (b := z) (by omega) (by omega)).mpr h)
        have b25_2n : (z) < ((n)) := by omega
        refine lv_aload_n hx hb dX4_join_28 rfl (lv_at hl 3 rfl) ?_
        refine va_get (D := G.1) (ci := 3) (v := .ref (v 4)) (C := RX4) (T := TX4) (N := 8) hx hb hts in_X4_join_X4 hown hK.1 hP 0 rfl rfl 5 (by decide) (hts (.fieldLink RX4 27 "NightWater$Valves" "leader" "[I") (List.mem_of_getElem? (i := 9) rfl)) (fun _ h9 => h9) rfl dX4_join_29 ?_
        refine lv_iload hx hb dX4_join_32 (lv_at hl 0 rfl) ?_
        refine nw_iald X hP 4 (n := 8) (f := (fun j => nI (ldv j))) rfl (z) rfl (by omega) (by decide) dX4_join_34 ?_
        refine lv_iload hx hb dX4_join_35 (lv_at hl 1 rfl) ?_
        refine lv_icmp_ne (tgt := 48) hx hb dX4_join_37 (by decide) (fun b37_3 => ?_) (fun b37_3 => ?_)
        · skip
          have b37_3 : ¬ ((ldv (z)) = (max x y)) := fun h => b37_3 ((nI_eq (a := ldv (z)) (b := max x y) (by omega) (by omega)).mpr h)
          refine lv_iinc (v := (nI (z + 1))) (lv' := [(5, .int (nI (z + 1))), (4, .int (nI (max x y))), (3, .int (nI (min x y))), (0, .ref (v 0)), (1, .int (nI (x))), (2, .int (nI (y)))]) hx hb dX4_join_48 hl (k := 0) rfl (by exact nI_add (z) 1) (by decide) rfl (fun ls hl => ?_)
          refine lv_goto (tgt := 16) hx hb dX4_join_51 (by decide) ?_
          exact ih16 (z + 1) (ldv) _ _ _ (by omega) (by omega) (by rw [el]; first | exact gst_hit (by omega) | exact gst_same (by omega)) (lv_sub hl [0, 1, 2, 3, 4, 5] rfl) hP hD hS
        · skip
          have b37_3 : (ldv (z)) = (max x y) := (nI_eq (a := ldv (z)) (b := max x y) (by omega) (by omega)).mp b37_3
          refine lv_aload_n hx hb dX4_join_40 rfl (lv_at hl 3 rfl) ?_
          refine va_get (D := G.1) (ci := 3) (v := .ref (v 4)) (C := RX4) (T := TX4) (N := 8) hx hb hts in_X4_join_X4 hown hK.1 hP 0 rfl rfl 5 (by decide) (hts (.fieldLink RX4 27 "NightWater$Valves" "leader" "[I") (List.mem_of_getElem? (i := 9) rfl)) (fun _ h9 => h9) rfl dX4_join_41 ?_
          refine lv_iload hx hb dX4_join_44 (lv_at hl 0 rfl) ?_
          refine lv_iload_n hx hb dX4_join_46 rfl (lv_at hl 2 rfl) ?_
          refine nw_iastN X hP hD hS 4 (n := 8) (f := ldv) rfl (z) (min x y) rfl rfl (by omega) (by decide) dX4_join_47 (fun H locs hP hD hS => ?_)
          have hP : va_P G.1 vwCl ((wV G (v) (a 0) (nv) (fr) (tt) (zl) (va_up (ldv) (z) (min x y)) (gk) (ut)) ++ ((wZ G (a) (n) (cu) (bg) (M) (er) (us)))) H := hP
          have hD : va_D vA ((wV G (v) (a 0) (nv) (fr) (tt) (zl) (va_up (ldv) (z) (min x y)) (gk) (ut)) ++ ((wZ G (a) (n) (cu) (bg) (M) (er) (us)))) := hD
          refine lv_iinc (v := (nI (z + 1))) (lv' := [(5, .int (nI (z + 1))), (4, .int (nI (max x y))), (3, .int (nI (min x y))), (0, .ref (v 0)), (1, .int (nI (x))), (2, .int (nI (y)))]) hx hb dX4_join_48 hl (k := 0) rfl (by exact nI_add (z) 1) (by decide) rfl (fun ls hl => ?_)
          refine lv_goto (tgt := 16) hx hb dX4_join_51 (by decide) ?_
          exact ih16 (z + 1) (va_up (ldv) (z) (min x y)) _ _ _ (by omega) (by omega) (by rw [el]; first | exact gst_hit (by omega) | exact gst_same (by omega)) (lv_sub hl [0, 1, 2, 3, 4, 5] rfl) hP hD hS
  exact K16 ((9 - (0)) + 1) (0) (ld) _ _ _ (Nat.lt_succ_self _) (by omega) (by exact gst_0.symm) (lv_sub hl [0, 1, 2, 3, 4, 5] rfl) hP hD hS
set_option maxHeartbeats 4000000 in
set_option maxRecDepth 100000 in
theorem c_X4_putTogether (lc : Launch) (G : nwG) (v : Nat → Nat) (nv : Nat) (fr tt : Nat → Nat) (zl : Nat → Int32) (ld : Nat → Nat) (gk ut : Nat → Int32) (a : Nat → Nat) (n : Nat) (cu bg : Nat → Int32) (M : Nat → Nat → Int32) (er us : Int32) (k : Nat) (hn : n ≤ 8) (hnv : nv ≤ 12) (hf : ∀ i, i < nv → fr i < n ∧ tt i < n) (hld : ∀ j, ld j < 8) (hk : k < 4096) : nwCv lc G yX4_putTogether wsX4_putTogether ({ frames := 2, cells := 0, slots := 0, locals := 49 } : Room) [.ref (v 0), .int (nI (k))] ((wV G (v) (a 0) (nv) (fr) (tt) (zl) (ld) (gk) (ut)) ++ ((wZ G (a) (n) (cu) (bg) (M) (er) (us)))) (fun w => w = wV G v (a 0) (nv) (fr) (tt) (zl) (grF n fr tt k ld nv) (gk) (ut) ++ wZ G a n cu bg M er us) := by
  refine nw_of (cc := cX4_putTogether) (maxL := 3) (ret := none) (by decide) rfl (Nat.le_of_ble_eq_true rfl) ?_
  intro vp ve vs vm vb vt vc vA ls X hP hD hA hS hl
  have X : nwAt vp vm vc cX4_putTogether 3 vs _ wsX4_putTogether RX4 vt none "putTogether" G := X
  have hx := X.1.1
  have hb := X.1.2.1
  have hown := X.1.2.2.2.1
  have hts := X.1.2.2.2.2
  have hK := X.2.2.2.2
  have hl : lv_has ls 3 [(0, .ref (v 0)), (1, .int (nI (k)))] := hl
  refine lv_iconst (v := (0)) hx hb dX4_putTogether_0 (by decide) ?_
  refine lv_istore_n (lv' := [(2, .int (0)), (0, .ref (v 0)), (1, .int (nI (k)))]) hx hb dX4_putTogether_1 rfl hl (by decide) rfl (fun ls hl => ?_)
  have K2 : ∀ (fuel : Nat) (z : Nat) (ldv : Nat → Nat) (H : Heap) (locs : List Loc) (ls : Array Slot), (9 - z) < fuel → (z ≤ n) → (ldv = id0 ld z) → lv_has ls 3 [(2, .int (nI (z))), (0, .ref (v 0)), (1, .int (nI (k)))] → va_P G.1 vwCl ((wV G (v) (a 0) (nv) (fr) (tt) (zl) (ldv) (gk) (ut)) ++ ((wZ G (a) (n) (cu) (bg) (M) (er) (us)))) H → va_D vA ((wV G (v) (a 0) (nv) (fr) (tt) (zl) (ldv) (gk) (ut)) ++ ((wZ G (a) (n) (cu) (bg) (M) (er) (us)))) → va_S vA vs.heap H locs → W vp lc ve ({ frames := 2, cells := 0, slots := 0, locals := 49 } : Room) vs vm ([.ref (v 0), .int (nI (k))] : List Value).toArray vb vt vc H locs 0 0 (MQ vb (nwQv G (fun w => w = wV G v (a 0) (nv) (fr) (tt) (zl) (grF n fr tt k ld nv) (gk) (ut) ++ wZ G a n cu bg M er us) vA) ([.ref (v 0), .int (nI (k))] : List Value).toArray vs ({ frames := 2, cells := 0, slots := 0, locals := 49 } : Room).cells ({ frames := 2, cells := 0, slots := 0, locals := 49 } : Room).slots vA) (F0 vm 2 ls []) := by
    intro fuel
    induction fuel with
    | zero => intro z ldv H locs ls hmu; exact absurd hmu (Nat.not_lt_zero _)
    | succ fuel ih2 =>
      intro z ldv H locs ls hmu hz el hl hP hD hS
      refine lv_iload_n hx hb dX4_putTogether_2 rfl (lv_at hl 0 rfl) ?_
      refine lv_aload_n hx hb dX4_putTogether_3 rfl (lv_at hl 1 rfl) ?_
      refine va_get (D := G.1) (ci := 3) (v := .ref (a 0)) (C := RX4) (T := TX4) (N := 8) hx hb hts in_X4_putTogether_X4 hown hK.1 hP 0 rfl rfl 0 (by decide) (hts (.fieldLink RX4 37 "NightWater$Valves" "zones" "LNightWater$Zones;") (List.mem_of_getElem? (i := 1) rfl)) (fun _ h9 => h9) rfl dX4_putTogether_4 ?_
      refine nw_Vi (As := []) (rest := [.int (nI (z))]) (q0 := 0) X (c_X5_number lc G (a) (n) (cu) (bg) (M) (er) (us) ) (cwV 0 hts gX4_putTogether_X5_number rfl rfl rfl (by decide +kernel) ⟨Nat.le_of_ble_eq_true rfl, Nat.le_of_ble_eq_true rfl⟩) rfl (show vwCl[4]? = some (RX5, TX5, 7) from rfl) (nwSp.suf ((wV G (v) (a 0) (nv) (fr) (tt) (zl) (ldv) (gk) (ut))) ((wZ G (a) (n) (cu) (bg) (M) (er) (us)))) hP hD hS hA rfl hl.1 rfl (Nat.le_of_ble_eq_true rfl) dX4_putTogether_7 ⟨Nat.le_of_ble_eq_true rfl, Nat.le_of_ble_eq_true rfl⟩ (fun r w H locs hp_1 hP hD hS => ?_)
      obtain ⟨rfl, rfl⟩ := hp_1
      have hP : va_P G.1 vwCl ((wV G (v) (a 0) (nv) (fr) (tt) (zl) (ldv) (gk) (ut)) ++ ((wZ G (a) (n) (cu) (bg) (M) (er) (us)))) H := hP
      have hD : va_D vA ((wV G (v) (a 0) (nv) (fr) (tt) (zl) (ldv) (gk) (ut)) ++ ((wZ G (a) (n) (cu) (bg) (M) (er) (us)))) := hD
      refine lv_icmp_ge (tgt := 26) hx hb dX4_putTogether_10 (by decide) (fun b10_2 => ?_) (fun b10_2 => ?_)
      · skip
        have b10_2 : ((n)) ≤ (z) := (nI_leI (a := (n)) (b := z) (by omega) (by omega)).mp b10_2
        have b10_2n : ¬ ((z) < ((n))) := by omega
        refine lv_iconst (v := (0)) hx hb dX4_putTogether_26 (by decide) ?_
        refine lv_istore_n (lv' := [(2, .int (0)), (0, .ref (v 0)), (1, .int (nI (k)))]) hx hb dX4_putTogether_27 rfl hl (by decide) rfl (fun ls hl => ?_)
        have K28 : ∀ (fuel : Nat) (i : Nat) (ldw : Nat → Nat) (H : Heap) (locs : List Loc) (ls : Array Slot), (13 - i) < fuel → (i ≤ nv) → (ldw = grF n fr tt k ld i) → lv_has ls 3 [(2, .int (nI (i))), (0, .ref (v 0)), (1, .int (nI (k)))] → va_P G.1 vwCl ((wV G (v) (a 0) (nv) (fr) (tt) (zl) (ldw) (gk) (ut)) ++ ((wZ G (a) (n) (cu) (bg) (M) (er) (us)))) H → va_D vA ((wV G (v) (a 0) (nv) (fr) (tt) (zl) (ldw) (gk) (ut)) ++ ((wZ G (a) (n) (cu) (bg) (M) (er) (us)))) → va_S vA vs.heap H locs → W vp lc ve ({ frames := 2, cells := 0, slots := 0, locals := 49 } : Room) vs vm ([.ref (v 0), .int (nI (k))] : List Value).toArray vb vt vc H locs 0 0 (MQ vb (nwQv G (fun w => w = wV G v (a 0) (nv) (fr) (tt) (zl) (grF n fr tt k ld nv) (gk) (ut) ++ wZ G a n cu bg M er us) vA) ([.ref (v 0), .int (nI (k))] : List Value).toArray vs ({ frames := 2, cells := 0, slots := 0, locals := 49 } : Room).cells ({ frames := 2, cells := 0, slots := 0, locals := 49 } : Room).slots vA) (F0 vm 28 ls []) := by
          intro fuel
          induction fuel with
          | zero => intro i ldw H locs ls hmu; exact absurd hmu (Nat.not_lt_zero _)
          | succ fuel ih28 =>
            intro i ldw H locs ls hmu hi ew hl hP hD hS
            have hlw : ∀ j, ldw j < 8 := by rw [ew]; exact grF_b hn hld i
            refine lv_iload_n hx hb dX4_putTogether_28 rfl (lv_at hl 0 rfl) ?_
            refine lv_aload_n hx hb dX4_putTogether_29 rfl (lv_at hl 1 rfl) ?_
            refine va_get (D := G.1) (ci := 3) (v := .int (nI (nv))) (C := RX4) (T := TX4) (N := 8) hx hb hts in_X4_putTogether_X4 hown hK.1 hP 0 rfl rfl 3 (by decide) (hts (.fieldLink RX4 18 "NightWater$Valves" "size" "I") (List.mem_of_getElem? (i := 3) rfl)) (fun _ h9 => h9) rfl dX4_putTogether_30 ?_
            refine lv_icmp_ge (tgt := 77) hx hb dX4_putTogether_33 (by decide) (fun b33_3 => ?_) (fun b33_3 => ?_)
            · skip
              have b33_3 : (nv) ≤ (i) := (nI_leI (a := nv) (b := i) (by omega) (by omega)).mp b33_3
              have b33_3n : ¬ ((i) < (nv)) := by omega
              exact nw_vret (rm := ({ frames := 2, cells := 0, slots := 0, locals := 49 } : Room)) X hP hD hS (by rw [ew, show i = nv by omega]) dX4_putTogether_77
            · skip
              have b33_3 : ¬ ((nv) ≤ (i)) := fun h => b33_3 ((nI_leI (a := nv) (b := i) (by omega) (by omega)).mpr h)
              have b33_3n : (i) < (nv) := by omega
              have hfi := hf i (by omega)
              have hl1 := hlw (fr i)
              have hl2 := hlw (tt i)
              refine lv_iload_n hx hb dX4_putTogether_36 rfl (lv_at hl 2 rfl) ?_
              refine lv_iload_n hx hb dX4_putTogether_37 rfl (lv_at hl 0 rfl) ?_
              refine lv_ishr hx hb dX4_putTogether_38 ?_
              refine lv_iconst (v := (1)) hx hb dX4_putTogether_39 (by decide) ?_
              refine lv_iand hx hb dX4_putTogether_40 ?_
              refine lv_iconst (v := (1)) hx hb dX4_putTogether_41 (by decide) ?_
              refine lv_icmp_ne (tgt := 71) hx hb dX4_putTogether_42 (by decide) (fun b42_4 => ?_) (fun b42_4 => ?_)
              · skip
                have b42_4 : ¬ ((((nI (k)) >>> ((nI (i)) &&& 31)) &&& (1 : Int32)) = (1 : Int32)) := b42_4
                have hbit : ¬ k.testBit i = true := fun h => b42_4 ((nw_bit1 (by omega) (by omega)).mpr h)
                refine lv_iinc (v := (nI (i + 1))) (lv' := [(2, .int (nI (i + 1))), (0, .ref (v 0)), (1, .int (nI (k)))]) hx hb dX4_putTogether_71 hl (k := 0) rfl (by exact nI_add (i) 1) (by decide) rfl (fun ls hl => ?_)
                refine lv_goto (tgt := 28) hx hb dX4_putTogether_74 (by decide) ?_
                exact ih28 (i + 1) (ldw) _ _ _ (by omega) (by omega) (by rw [grF_s]; first | rw [nwIf_t hbit, ← ew] | rw [nwIf_f hbit, ← ew]) (lv_sub hl [0, 1, 2] rfl) hP hD hS
              · skip
                have b42_4 : (((nI (k)) >>> ((nI (i)) &&& 31)) &&& (1 : Int32)) = (1 : Int32) := b42_4
                have hbit : k.testBit i = true := (nw_bit1 (by omega) (by omega)).mp b42_4
                refine lv_aload_n hx hb dX4_putTogether_45 rfl (lv_at hl 1 rfl) ?_
                refine lv_aload_n hx hb dX4_putTogether_46 rfl (lv_at hl 1 rfl) ?_
                refine va_get (D := G.1) (ci := 3) (v := .ref (v 4)) (C := RX4) (T := TX4) (N := 8) hx hb hts in_X4_putTogether_X4 hown hK.1 hP 0 rfl rfl 5 (by decide) (hts (.fieldLink RX4 27 "NightWater$Valves" "leader" "[I") (List.mem_of_getElem? (i := 2) rfl)) (fun _ h9 => h9) rfl dX4_putTogether_47 ?_
                refine lv_aload_n hx hb dX4_putTogether_50 rfl (lv_at hl 1 rfl) ?_
                refine va_get (D := G.1) (ci := 3) (v := .ref (v 1)) (C := RX4) (T := TX4) (N := 8) hx hb hts in_X4_putTogether_X4 hown hK.1 hP 0 rfl rfl 1 (by decide) (hts (.fieldLink RX4 11 "NightWater$Valves" "from" "[I") (List.mem_of_getElem? (i := 4) rfl)) (fun _ h9 => h9) rfl dX4_putTogether_51 ?_
                refine lv_iload_n hx hb dX4_putTogether_54 rfl (lv_at hl 0 rfl) ?_
                refine nw_iald X hP 1 (n := 12) (f := (fun j => nI (fr j))) rfl (i) rfl (by omega) (by decide) dX4_putTogether_55 ?_
                refine nw_iald X hP 4 (n := 8) (f := (fun j => nI (ldw j))) rfl (fr (i)) rfl (by omega) (by decide) dX4_putTogether_56 ?_
                refine lv_aload_n hx hb dX4_putTogether_57 rfl (lv_at hl 1 rfl) ?_
                refine va_get (D := G.1) (ci := 3) (v := .ref (v 4)) (C := RX4) (T := TX4) (N := 8) hx hb hts in_X4_putTogether_X4 hown hK.1 hP 0 rfl rfl 5 (by decide) (hts (.fieldLink RX4 27 "NightWater$Valves" "leader" "[I") (List.mem_of_getElem? (i := 2) rfl)) (fun _ h9 => h9) rfl dX4_putTogether_58 ?_
                refine lv_aload_n hx hb dX4_putTogether_61 rfl (lv_at hl 1 rfl) ?_
                refine va_get (D := G.1) (ci := 3) (v := .ref (v 2)) (C := RX4) (T := TX4) (N := 8) hx hb hts in_X4_putTogether_X4 hown hK.1 hP 0 rfl rfl 2 (by decide) (hts (.fieldLink RX4 15 "NightWater$Valves" "to" "[I") (List.mem_of_getElem? (i := 5) rfl)) (fun _ h9 => h9) rfl dX4_putTogether_62 ?_
                refine lv_iload_n hx hb dX4_putTogether_65 rfl (lv_at hl 0 rfl) ?_
                refine nw_iald X hP 2 (n := 12) (f := (fun j => nI (tt j))) rfl (i) rfl (by omega) (by decide) dX4_putTogether_66 ?_
                refine nw_iald X hP 4 (n := 8) (f := (fun j => nI (ldw j))) rfl (tt (i)) rfl (by omega) (by decide) dX4_putTogether_67 ?_
                refine nw_st (st' := [.int (nI (ldw (tt (i)))), .int (nI (ldw (fr (i)))), .ref (v 0)]) (by rfl) ?_
                refine nw_Vv (As := [.int (nI (ldw (fr (i)))), .int (nI (ldw (tt (i))))]) (rest := []) (q0 := 0) X (c_X4_join lc G (v) (nv) (fr) (tt) (zl) (ldw) (gk) (ut) (a) (n) (cu) (bg) (M) (er) (us) (ldw (fr (i))) (ldw (tt (i))) (by first | assumption | omega) (by omega) (by omega) (by exact hlw)) (cwV 2 hts gX4_putTogether_X4_join rfl rfl rfl (by decide +kernel) ⟨Nat.le_of_ble_eq_true rfl, Nat.le_of_ble_eq_true rfl⟩) rfl (show vwCl[3]? = some (RX4, TX4, 8) from rfl) (nwSp.all ((wV G (v) (a 0) (nv) (fr) (tt) (zl) (ldw) (gk) (ut)) ++ ((wZ G (a) (n) (cu) (bg) (M) (er) (us))))) hP hD hS hA rfl hl.1 rfl (Nat.le_of_ble_eq_true rfl) dX4_putTogether_68 ⟨Nat.le_of_ble_eq_true rfl, Nat.le_of_ble_eq_true rfl⟩ (fun w H locs hp_5 hP hD hS => ?_)
                obtain rfl := hp_5
                have hP : va_P G.1 vwCl ((wV G (v) (a 0) (nv) (fr) (tt) (zl) (gst n ldw (ldw (fr (i))) (ldw (tt (i)))) (gk) (ut)) ++ ((wZ G (a) (n) (cu) (bg) (M) (er) (us)))) H := hP
                have hD : va_D vA ((wV G (v) (a 0) (nv) (fr) (tt) (zl) (gst n ldw (ldw (fr (i))) (ldw (tt (i)))) (gk) (ut)) ++ ((wZ G (a) (n) (cu) (bg) (M) (er) (us)))) := hD
                refine lv_iinc (v := (nI (i + 1))) (lv' := [(2, .int (nI (i + 1))), (0, .ref (v 0)), (1, .int (nI (k)))]) hx hb dX4_putTogether_71 hl (k := 0) rfl (by exact nI_add (i) 1) (by decide) rfl (fun ls hl => ?_)
                refine lv_goto (tgt := 28) hx hb dX4_putTogether_74 (by decide) ?_
                exact ih28 (i + 1) (gst n ldw (ldw (fr (i))) (ldw (tt (i)))) _ _ _ (by omega) (by omega) (by rw [grF_s]; first | rw [nwIf_t hbit, ← ew] | rw [nwIf_f hbit, ← ew]) (lv_sub hl [0, 1, 2] rfl) hP hD hS
        exact K28 ((13 - (0)) + 1) (0) (ldv) _ _ _ (Nat.lt_succ_self _) (by omega) (by rw [el, show z = n by omega]; exact id0_grF) (lv_sub hl [0, 1, 2] rfl) hP hD hS
      · skip
        have b10_2 : ¬ (((n)) ≤ (z)) := fun h => b10_2 ((nI_leI (a := (n)) (b := z) (by omega) (by omega)).mpr h)
        have b10_2n : (z) < ((n)) := by omega
        refine lv_aload_n hx hb dX4_putTogether_13 rfl (lv_at hl 1 rfl) ?_
        refine va_get (D := G.1) (ci := 3) (v := .ref (v 4)) (C := RX4) (T := TX4) (N := 8) hx hb hts in_X4_putTogether_X4 hown hK.1 hP 0 rfl rfl 5 (by decide) (hts (.fieldLink RX4 27 "NightWater$Valves" "leader" "[I") (List.mem_of_getElem? (i := 2) rfl)) (fun _ h9 => h9) rfl dX4_putTogether_14 ?_
        refine lv_iload_n hx hb dX4_putTogether_17 rfl (lv_at hl 0 rfl) ?_
        refine lv_iload_n hx hb dX4_putTogether_18 rfl (lv_at hl 0 rfl) ?_
        refine nw_iastN X hP hD hS 4 (n := 8) (f := ldv) rfl (z) (z) rfl rfl (by omega) (by decide) dX4_putTogether_19 (fun H locs hP hD hS => ?_)
        have hP : va_P G.1 vwCl ((wV G (v) (a 0) (nv) (fr) (tt) (zl) (va_up (ldv) (z) (z)) (gk) (ut)) ++ ((wZ G (a) (n) (cu) (bg) (M) (er) (us)))) H := hP
        have hD : va_D vA ((wV G (v) (a 0) (nv) (fr) (tt) (zl) (va_up (ldv) (z) (z)) (gk) (ut)) ++ ((wZ G (a) (n) (cu) (bg) (M) (er) (us)))) := hD
        refine lv_iinc (v := (nI (z + 1))) (lv' := [(2, .int (nI (z + 1))), (0, .ref (v 0)), (1, .int (nI (k)))]) hx hb dX4_putTogether_20 hl (k := 0) rfl (by exact nI_add (z) 1) (by decide) rfl (fun ls hl => ?_)
        refine lv_goto (tgt := 2) hx hb dX4_putTogether_23 (by decide) ?_
        exact ih2 (z + 1) (va_up (ldv) (z) (z)) _ _ _ (by omega) (by omega) (by rw [el]; exact id0_s) (lv_sub hl [0, 1, 2] rfl) hP hD hS
  exact K2 ((9 - (0)) + 1) (0) (ld) _ _ _ (Nat.lt_succ_self _) (by omega) (by exact id0_0.symm) (lv_sub hl [0, 1, 2] rfl) hP hD hS
set_option maxHeartbeats 4000000 in
set_option maxRecDepth 100000 in
theorem c_X4_isExplained (lc : Launch) (G : nwG) (v : Nat → Nat) (nv : Nat) (fr tt : Nat → Nat) (zl : Nat → Int32) (ld : Nat → Nat) (gk ut : Nat → Int32) (a : Nat → Nat) (n : Nat) (cu bg : Nat → Int32) (M : Nat → Nat → Int32) (er us : Int32) (k : Nat) (hn : n ≤ 8) (hnv : nv ≤ 12) (hf : ∀ i, i < nv → fr i < n ∧ tt i < n) (hld : ∀ j, ld j < 8) (hk : k < 4096) : nwCi lc G yX4_isExplained wsX4_isExplained ({ frames := 3, cells := 0, slots := 0, locals := 71 } : Room) [.ref (v 0), .int (nI (k))] ((wV G (v) (a 0) (nv) (fr) (tt) (zl) (ld) (gk) (ut)) ++ ((wZ G (a) (n) (cu) (bg) (M) (er) (us)))) (fun r w => ∃ gkv utv : Nat → Int32, ((r = 1 ∧ expl n (grF n fr tt k ld nv) zl) ∨ (r = 0 ∧ ¬ expl n (grF n fr tt k ld nv) zl)) ∧ w = wV G v (a 0) (nv) (fr) (tt) (zl) (grF n fr tt k ld nv) (gkv) (utv) ++ wZ G a n cu bg M er us) := by
  refine nw_of (cc := cX4_isExplained) (maxL := 4) (ret := (some .boolean)) (by decide) rfl (Nat.le_of_ble_eq_true rfl) ?_
  intro vp ve vs vm vb vt vc vA ls X hP hD hA hS hl
  have X : nwAt vp vm vc cX4_isExplained 4 vs _ wsX4_isExplained RX4 vt (some .boolean) "isExplained" G := X
  have hx := X.1.1
  have hb := X.1.2.1
  have hown := X.1.2.2.2.1
  have hts := X.1.2.2.2.2
  have hK := X.2.2.2.2
  have hl : lv_has ls 4 [(0, .ref (v 0)), (1, .int (nI (k)))] := hl
  refine lv_aload_n hx hb dX4_isExplained_0 rfl (lv_at hl 0 rfl) ?_
  refine lv_iload_n hx hb dX4_isExplained_1 rfl (lv_at hl 1 rfl) ?_
  refine nw_st (st' := [.int (nI (k)), .ref (v 0)]) (by rfl) ?_
  refine nw_Vv (As := [.int (nI (k))]) (rest := []) (q0 := 0) X (c_X4_putTogether lc G (v) (nv) (fr) (tt) (zl) (ld) (gk) (ut) (a) (n) (cu) (bg) (M) (er) (us) (k) (by first | assumption | omega) (by first | assumption | omega) (by first | assumption | omega) (by first | assumption | omega) (by first | assumption | omega)) (cwV 1 hts gX4_isExplained_X4_putTogether rfl rfl rfl (by decide +kernel) ⟨Nat.le_of_ble_eq_true rfl, Nat.le_of_ble_eq_true rfl⟩) rfl (show vwCl[3]? = some (RX4, TX4, 8) from rfl) (nwSp.all ((wV G (v) (a 0) (nv) (fr) (tt) (zl) (ld) (gk) (ut)) ++ ((wZ G (a) (n) (cu) (bg) (M) (er) (us))))) hP hD hS hA rfl hl.1 rfl (Nat.le_of_ble_eq_true rfl) dX4_isExplained_2 ⟨Nat.le_of_ble_eq_true rfl, Nat.le_of_ble_eq_true rfl⟩ (fun w H locs hp_1 hP hD hS => ?_)
  obtain rfl := hp_1
  have hP : va_P G.1 vwCl ((wV G (v) (a 0) (nv) (fr) (tt) (zl) (grF n fr tt k ld nv) (gk) (ut)) ++ ((wZ G (a) (n) (cu) (bg) (M) (er) (us)))) H := hP
  have hD : va_D vA ((wV G (v) (a 0) (nv) (fr) (tt) (zl) (grF n fr tt k ld nv) (gk) (ut)) ++ ((wZ G (a) (n) (cu) (bg) (M) (er) (us)))) := hD
  refine lv_aload_n hx hb dX4_isExplained_5 rfl (lv_at hl 0 rfl) ?_
  refine va_get (D := G.1) (ci := 3) (v := .ref (a 0)) (C := RX4) (T := TX4) (N := 8) hx hb hts in_X4_isExplained_X4 hown hK.1 hP 0 rfl rfl 0 (by decide) (hts (Cond.fieldLink RX4 37 "NightWater$Valves" "zones" "LNightWater$Zones;") (List.mem_of_getElem? (i := 1) rfl)) (fun _ h9 => h9) rfl dX4_isExplained_6 ?_
  refine nw_Vi (As := []) (rest := []) (q0 := 0) X (c_X5_number lc G (a) (n) (cu) (bg) (M) (er) (us) ) (cwV 0 hts gX4_isExplained_X5_number rfl rfl rfl (by decide +kernel) ⟨Nat.le_of_ble_eq_true rfl, Nat.le_of_ble_eq_true rfl⟩) rfl (show vwCl[4]? = some (RX5, TX5, 7) from rfl) (nwSp.suf ((wV G (v) (a 0) (nv) (fr) (tt) (zl) (grF n fr tt k ld nv) (gk) (ut))) ((wZ G (a) (n) (cu) (bg) (M) (er) (us)))) hP hD hS hA rfl hl.1 rfl (Nat.le_of_ble_eq_true rfl) dX4_isExplained_9 ⟨Nat.le_of_ble_eq_true rfl, Nat.le_of_ble_eq_true rfl⟩ (fun r w H locs hp_2 hP hD hS => ?_)
  obtain ⟨rfl, rfl⟩ := hp_2
  have hP : va_P G.1 vwCl ((wV G (v) (a 0) (nv) (fr) (tt) (zl) (grF n fr tt k ld nv) (gk) (ut)) ++ ((wZ G (a) (n) (cu) (bg) (M) (er) (us)))) H := hP
  have hD : va_D vA ((wV G (v) (a 0) (nv) (fr) (tt) (zl) (grF n fr tt k ld nv) (gk) (ut)) ++ ((wZ G (a) (n) (cu) (bg) (M) (er) (us)))) := hD
  refine lv_istore_n (lv' := [(2, .int (nI ((n)))), (0, .ref (v 0)), (1, .int (nI (k)))]) hx hb dX4_isExplained_12 rfl hl (by decide) rfl (fun ls hl => ?_)
  refine lv_iconst (v := (0)) hx hb dX4_isExplained_13 (by decide) ?_
  refine lv_istore_n (lv' := [(3, .int (0)), (2, .int (nI ((n)))), (0, .ref (v 0)), (1, .int (nI (k)))]) hx hb dX4_isExplained_14 rfl hl (by decide) rfl (fun ls hl => ?_)
  have K15 : ∀ (fuel : Nat) (z : Nat) (gk0 : Nat → Int32) (ut0 : Nat → Int32) (H : Heap) (locs : List Loc) (ls : Array Slot), (9 - z) < fuel → (z ≤ n) → (∀ g, g < z → gk0 g = 0 ∧ ut0 g = 0) → lv_has ls 4 [(3, .int (nI (z))), (2, .int (nI ((n)))), (0, .ref (v 0)), (1, .int (nI (k)))] → va_P G.1 vwCl ((wV G (v) (a 0) (nv) (fr) (tt) (zl) (grF n fr tt k ld nv) (gk0) (ut0)) ++ ((wZ G (a) (n) (cu) (bg) (M) (er) (us)))) H → va_D vA ((wV G (v) (a 0) (nv) (fr) (tt) (zl) (grF n fr tt k ld nv) (gk0) (ut0)) ++ ((wZ G (a) (n) (cu) (bg) (M) (er) (us)))) → va_S vA vs.heap H locs → W vp lc ve ({ frames := 3, cells := 0, slots := 0, locals := 71 } : Room) vs vm ([.ref (v 0), .int (nI (k))] : List Value).toArray vb vt vc H locs 0 0 (MQ vb (nwQi G (fun r w => ∃ gkv utv : Nat → Int32, ((r = 1 ∧ expl n (grF n fr tt k ld nv) zl) ∨ (r = 0 ∧ ¬ expl n (grF n fr tt k ld nv) zl)) ∧ w = wV G v (a 0) (nv) (fr) (tt) (zl) (grF n fr tt k ld nv) (gkv) (utv) ++ wZ G a n cu bg M er us) vA) ([.ref (v 0), .int (nI (k))] : List Value).toArray vs ({ frames := 3, cells := 0, slots := 0, locals := 71 } : Room).cells ({ frames := 3, cells := 0, slots := 0, locals := 71 } : Room).slots vA) (F0 vm 15 ls []) := by
    intro fuel
    induction fuel with
    | zero => intro z gk0 ut0 H locs ls hmu; exact absurd hmu (Nat.not_lt_zero _)
    | succ fuel ih15 =>
      intro z gk0 ut0 H locs ls hmu hz e0 hl hP hD hS
      refine lv_iload_n hx hb dX4_isExplained_15 rfl (lv_at hl 0 rfl) ?_
      refine lv_iload_n hx hb dX4_isExplained_16 rfl (lv_at hl 1 rfl) ?_
      refine lv_icmp_ge (tgt := 40) hx hb dX4_isExplained_17 (by decide) (fun b17_3 => ?_) (fun b17_3 => ?_)
      · skip
        have b17_3 : ((n)) ≤ (z) := (nI_leI (a := (n)) (b := z) (by omega) (by omega)).mp b17_3
        have b17_3n : ¬ ((z) < ((n))) := by omega
        refine lv_iconst (v := (0)) hx hb dX4_isExplained_40 (by decide) ?_
        refine lv_istore_n (lv' := [(3, .int (0)), (2, .int (nI ((n)))), (0, .ref (v 0)), (1, .int (nI (k)))]) hx hb dX4_isExplained_41 rfl hl (by decide) rfl (fun ls hl => ?_)
        have K42 : ∀ (fuel : Nat) (z1 : Nat) (gk1 : Nat → Int32) (ut1 : Nat → Int32) (H : Heap) (locs : List Loc) (ls : Array Slot), (9 - z1) < fuel → (z1 ≤ n) → (∀ g, g < n → gk1 g = gsum (grF n fr tt k ld nv) zl g z1 ∧ ut1 g = nwIf (gunt (grF n fr tt k ld nv) zl g z1) 1 0) → lv_has ls 4 [(3, .int (nI (z1))), (2, .int (nI ((n)))), (0, .ref (v 0)), (1, .int (nI (k)))] → va_P G.1 vwCl ((wV G (v) (a 0) (nv) (fr) (tt) (zl) (grF n fr tt k ld nv) (gk1) (ut1)) ++ ((wZ G (a) (n) (cu) (bg) (M) (er) (us)))) H → va_D vA ((wV G (v) (a 0) (nv) (fr) (tt) (zl) (grF n fr tt k ld nv) (gk1) (ut1)) ++ ((wZ G (a) (n) (cu) (bg) (M) (er) (us)))) → va_S vA vs.heap H locs → W vp lc ve ({ frames := 3, cells := 0, slots := 0, locals := 71 } : Room) vs vm ([.ref (v 0), .int (nI (k))] : List Value).toArray vb vt vc H locs 0 0 (MQ vb (nwQi G (fun r w => ∃ gkv utv : Nat → Int32, ((r = 1 ∧ expl n (grF n fr tt k ld nv) zl) ∨ (r = 0 ∧ ¬ expl n (grF n fr tt k ld nv) zl)) ∧ w = wV G v (a 0) (nv) (fr) (tt) (zl) (grF n fr tt k ld nv) (gkv) (utv) ++ wZ G a n cu bg M er us) vA) ([.ref (v 0), .int (nI (k))] : List Value).toArray vs ({ frames := 3, cells := 0, slots := 0, locals := 71 } : Room).cells ({ frames := 3, cells := 0, slots := 0, locals := 71 } : Room).slots vA) (F0 vm 42 ls []) := by
          intro fuel
          induction fuel with
          | zero => intro z1 gk1 ut1 H locs ls hmu; exact absurd hmu (Nat.not_lt_zero _)
          | succ fuel ih42 =>
            intro z1 gk1 ut1 H locs ls hmu hz1 e1 hl hP hD hS
            refine lv_iload_n hx hb dX4_isExplained_42 rfl (lv_at hl 0 rfl) ?_
            refine lv_iload_n hx hb dX4_isExplained_43 rfl (lv_at hl 1 rfl) ?_
            refine lv_icmp_ge (tgt := 99) hx hb dX4_isExplained_44 (by decide) (fun b44_4 => ?_) (fun b44_4 => ?_)
            · skip
              have b44_4 : ((n)) ≤ (z1) := (nI_leI (a := (n)) (b := z1) (by omega) (by omega)).mp b44_4
              have b44_4n : ¬ ((z1) < ((n))) := by omega
              refine lv_iconst (v := (0)) hx hb dX4_isExplained_99 (by decide) ?_
              refine lv_istore_n (lv' := [(3, .int (0)), (2, .int (nI ((n)))), (0, .ref (v 0)), (1, .int (nI (k)))]) hx hb dX4_isExplained_100 rfl hl (by decide) rfl (fun ls hl => ?_)
              have K101 : ∀ (fuel : Nat) (z2 : Nat) (H : Heap) (locs : List Loc) (ls : Array Slot), (9 - z2) < fuel → (z2 ≤ n) → (∀ g, g < z2 → gunt (grF n fr tt k ld nv) zl g n ∨ ¬ gsum (grF n fr tt k ld nv) zl g n < 0) → lv_has ls 4 [(3, .int (nI (z2))), (2, .int (nI ((n)))), (0, .ref (v 0)), (1, .int (nI (k)))] → va_P G.1 vwCl ((wV G (v) (a 0) (nv) (fr) (tt) (zl) (grF n fr tt k ld nv) (gk1) (ut1)) ++ ((wZ G (a) (n) (cu) (bg) (M) (er) (us)))) H → va_D vA ((wV G (v) (a 0) (nv) (fr) (tt) (zl) (grF n fr tt k ld nv) (gk1) (ut1)) ++ ((wZ G (a) (n) (cu) (bg) (M) (er) (us)))) → va_S vA vs.heap H locs → W vp lc ve ({ frames := 3, cells := 0, slots := 0, locals := 71 } : Room) vs vm ([.ref (v 0), .int (nI (k))] : List Value).toArray vb vt vc H locs 0 0 (MQ vb (nwQi G (fun r w => ∃ gkv utv : Nat → Int32, ((r = 1 ∧ expl n (grF n fr tt k ld nv) zl) ∨ (r = 0 ∧ ¬ expl n (grF n fr tt k ld nv) zl)) ∧ w = wV G v (a 0) (nv) (fr) (tt) (zl) (grF n fr tt k ld nv) (gkv) (utv) ++ wZ G a n cu bg M er us) vA) ([.ref (v 0), .int (nI (k))] : List Value).toArray vs ({ frames := 3, cells := 0, slots := 0, locals := 71 } : Room).cells ({ frames := 3, cells := 0, slots := 0, locals := 71 } : Room).slots vA) (F0 vm 101 ls []) := by
                intro fuel
                induction fuel with
                | zero => intro z2 H locs ls hmu; exact absurd hmu (Nat.not_lt_zero _)
                | succ fuel ih101 =>
                  intro z2 H locs ls hmu hz2 e2 hl hP hD hS
                  refine lv_iload_n hx hb dX4_isExplained_101 rfl (lv_at hl 0 rfl) ?_
                  refine lv_iload_n hx hb dX4_isExplained_102 rfl (lv_at hl 1 rfl) ?_
                  refine lv_icmp_ge (tgt := 132) hx hb dX4_isExplained_103 (by decide) (fun b103_5 => ?_) (fun b103_5 => ?_)
                  · skip
                    have b103_5 : ((n)) ≤ (z2) := (nI_leI (a := (n)) (b := z2) (by omega) (by omega)).mp b103_5
                    have b103_5n : ¬ ((z2) < ((n))) := by omega
                    refine lv_iconst (v := (1)) hx hb dX4_isExplained_132 (by decide) ?_
                    exact nw_zret (rm := ({ frames := 3, cells := 0, slots := 0, locals := 71 } : Room)) X (by decide) hP hD hS (⟨_, _, Or.inl ⟨rfl, fun g hg => e2 g (by omega)⟩, rfl⟩) dX4_isExplained_133
                  · skip
                    have b103_5 : ¬ (((n)) ≤ (z2)) := fun h => b103_5 ((nI_leI (a := (n)) (b := z2) (by omega) (by omega)).mpr h)
                    have b103_5n : (z2) < ((n)) := by omega
                    have e3 := e1 z2 (by omega)
                    rw [show z1 = n by omega] at e3
                    refine lv_aload_n hx hb dX4_isExplained_106 rfl (lv_at hl 2 rfl) ?_
                    refine va_get (D := G.1) (ci := 3) (v := .ref (v 6)) (C := RX4) (T := TX4) (N := 8) hx hb hts in_X4_isExplained_X4 hown hK.1 hP 0 rfl rfl 7 (by decide) (hts (Cond.fieldLink RX4 33 "NightWater$Valves" "untold" "[Z") (List.mem_of_getElem? (i := 3) rfl)) (fun _ h9 => h9) rfl dX4_isExplained_107 ?_
                    refine lv_iload_n hx hb dX4_isExplained_110 rfl (lv_at hl 0 rfl) ?_
                    refine nw_zald X hP 6 (n := 8) (f := (ut1)) rfl (z2) rfl (by omega) (by decide) dX4_isExplained_111 ?_
                    refine lv_if_ne (tgt := 126) hx hb dX4_isExplained_112 (by decide) (fun b112_6 => ?_) (fun b112_6 => ?_)
                    · skip
                      have b112_6 : ¬ ((ut1 (z2)) = (0 : Int32)) := b112_6
                      have hgood : gunt (grF n fr tt k ld nv) zl z2 n ∨ ¬ gsum (grF n fr tt k ld nv) zl z2 n < 0 := Or.inl (nw_t10 (by rw [← e3.2]; exact b112_6))
                      refine lv_iinc (v := (nI (z2 + 1))) (lv' := [(3, .int (nI (z2 + 1))), (2, .int (nI ((n)))), (0, .ref (v 0)), (1, .int (nI (k)))]) hx hb dX4_isExplained_126 hl (k := 0) rfl (by exact nI_add (z2) 1) (by decide) rfl (fun ls hl => ?_)
                      refine lv_goto (tgt := 101) hx hb dX4_isExplained_129 (by decide) ?_
                      exact ih101 (z2 + 1) _ _ _ (by omega) (by omega) (by exact nw_ext e2 hgood) (lv_sub hl [0, 1, 2, 3] rfl) hP hD hS
                    · skip
                      have b112_6 : (ut1 (z2)) = (0 : Int32) := b112_6
                      have hnu : ¬ gunt (grF n fr tt k ld nv) zl z2 n := nw_f10 (by rw [← e3.2]; exact b112_6)
                      refine lv_aload_n hx hb dX4_isExplained_115 rfl (lv_at hl 2 rfl) ?_
                      refine va_get (D := G.1) (ci := 3) (v := .ref (v 5)) (C := RX4) (T := TX4) (N := 8) hx hb hts in_X4_isExplained_X4 hown hK.1 hP 0 rfl rfl 6 (by decide) (hts (Cond.fieldLink RX4 30 "NightWater$Valves" "groupLeak" "[I") (List.mem_of_getElem? (i := 2) rfl)) (fun _ h9 => h9) rfl dX4_isExplained_116 ?_
                      refine lv_iload_n hx hb dX4_isExplained_119 rfl (lv_at hl 0 rfl) ?_
                      refine nw_iald X hP 5 (n := 8) (f := (gk1)) rfl (z2) rfl (by omega) (by decide) dX4_isExplained_120 ?_
                      refine lv_if_ge (tgt := 126) hx hb dX4_isExplained_121 (by decide) (fun b121_7 => ?_) (fun b121_7 => ?_)
                      · skip
                        have b121_7 : (0 : Int32) ≤ (gk1 (z2)) := b121_7
                        have b121_7n : ¬ ((gk1 (z2)) < (0 : Int32)) := Int32.not_lt.mpr b121_7
                        have hgood : gunt (grF n fr tt k ld nv) zl z2 n ∨ ¬ gsum (grF n fr tt k ld nv) zl z2 n < 0 := Or.inr (by rw [← e3.1]; exact Int32.not_lt.mpr b121_7)
                        refine lv_iinc (v := (nI (z2 + 1))) (lv' := [(3, .int (nI (z2 + 1))), (2, .int (nI ((n)))), (0, .ref (v 0)), (1, .int (nI (k)))]) hx hb dX4_isExplained_126 hl (k := 0) rfl (by exact nI_add (z2) 1) (by decide) rfl (fun ls hl => ?_)
                        refine lv_goto (tgt := 101) hx hb dX4_isExplained_129 (by decide) ?_
                        exact ih101 (z2 + 1) _ _ _ (by omega) (by omega) (by exact nw_ext e2 hgood) (lv_sub hl [0, 1, 2, 3] rfl) hP hD hS
                      · skip
                        have b121_7 : ¬ ((0 : Int32) ≤ (gk1 (z2))) := b121_7
                        have b121_7n : (gk1 (z2)) < (0 : Int32) := Int32.not_le.mp b121_7
                        have hbad : ¬ expl n (grF n fr tt k ld nv) zl := fun h => (h z2 (by omega)).elim hnu (fun q => q (by rw [← e3.1]; exact Int32.not_le.mp b121_7))
                        refine lv_iconst (v := (0)) hx hb dX4_isExplained_124 (by decide) ?_
                        exact nw_zret (rm := ({ frames := 3, cells := 0, slots := 0, locals := 71 } : Room)) X (by decide) hP hD hS (⟨_, _, Or.inr ⟨rfl, hbad⟩, rfl⟩) dX4_isExplained_125
              exact K101 ((9 - (0)) + 1) (0) _ _ _ (Nat.lt_succ_self _) (by omega) (by exact fun g h => absurd h (Nat.not_lt_zero g)) (lv_sub hl [0, 1, 2, 3] rfl) hP hD hS
            · skip
              have b44_4 : ¬ (((n)) ≤ (z1)) := fun h => b44_4 ((nI_leI (a := (n)) (b := z1) (by omega) (by omega)).mpr h)
              have b44_4n : (z1) < ((n)) := by omega
              have hgz : (grF n fr tt k ld nv) z1 < n := grF_lt hf (Nat.le_refl nv) (by omega)
              refine lv_aload_n hx hb dX4_isExplained_47 rfl (lv_at hl 2 rfl) ?_
              refine va_get (D := G.1) (ci := 3) (v := .ref (v 3)) (C := RX4) (T := TX4) (N := 8) hx hb hts in_X4_isExplained_X4 hown hK.1 hP 0 rfl rfl 4 (by decide) (hts (Cond.fieldLink RX4 24 "NightWater$Valves" "zoneLeak" "[I") (List.mem_of_getElem? (i := 4) rfl)) (fun _ h9 => h9) rfl dX4_isExplained_48 ?_
              refine lv_iload_n hx hb dX4_isExplained_51 rfl (lv_at hl 0 rfl) ?_
              refine nw_iald X hP 3 (n := 8) (f := (zl)) rfl (z1) rfl (by omega) (by decide) dX4_isExplained_52 ?_
              refine lv_ldc (own := RX4) (v := (-2000000000)) hx hb hown (hts (Cond.constant RX4 83 (-2000000000)) (List.mem_of_getElem? (i := 5) rfl)) dX4_isExplained_53 ?_
              refine lv_icmp_ne (tgt := 73) hx hb dX4_isExplained_55 (by decide) (fun b55_8 => ?_) (fun b55_8 => ?_)
              · skip
                have b55_8 : ¬ ((zl (z1)) = (-2000000000 : Int32)) := b55_8
                have hlost : ¬ zl z1 = -2000000000 := b55_8
                refine lv_aload_n hx hb dX4_isExplained_73 rfl (lv_at hl 2 rfl) ?_
                refine va_get (D := G.1) (ci := 3) (v := .ref (v 5)) (C := RX4) (T := TX4) (N := 8) hx hb hts in_X4_isExplained_X4 hown hK.1 hP 0 rfl rfl 6 (by decide) (hts (Cond.fieldLink RX4 30 "NightWater$Valves" "groupLeak" "[I") (List.mem_of_getElem? (i := 2) rfl)) (fun _ h9 => h9) rfl dX4_isExplained_74 ?_
                refine lv_aload_n hx hb dX4_isExplained_77 rfl (lv_at hl 2 rfl) ?_
                refine va_get (D := G.1) (ci := 3) (v := .ref (v 4)) (C := RX4) (T := TX4) (N := 8) hx hb hts in_X4_isExplained_X4 hown hK.1 hP 0 rfl rfl 5 (by decide) (hts (Cond.fieldLink RX4 27 "NightWater$Valves" "leader" "[I") (List.mem_of_getElem? (i := 6) rfl)) (fun _ h9 => h9) rfl dX4_isExplained_78 ?_
                refine lv_iload_n hx hb dX4_isExplained_81 rfl (lv_at hl 0 rfl) ?_
                refine nw_iald X hP 4 (n := 8) (f := (fun j => nI ((grF n fr tt k ld nv) j))) rfl (z1) rfl (by omega) (by decide) dX4_isExplained_82 ?_
                refine lv_dup2_11 hx hb dX4_isExplained_83 rfl rfl ?_
                refine nw_iald X hP 5 (n := 8) (f := (gk1)) rfl ((grF n fr tt k ld nv) (z1)) rfl (by omega) (by decide) dX4_isExplained_84 ?_
                refine lv_aload_n hx hb dX4_isExplained_85 rfl (lv_at hl 2 rfl) ?_
                refine va_get (D := G.1) (ci := 3) (v := .ref (v 3)) (C := RX4) (T := TX4) (N := 8) hx hb hts in_X4_isExplained_X4 hown hK.1 hP 0 rfl rfl 4 (by decide) (hts (Cond.fieldLink RX4 24 "NightWater$Valves" "zoneLeak" "[I") (List.mem_of_getElem? (i := 4) rfl)) (fun _ h9 => h9) rfl dX4_isExplained_86 ?_
                refine lv_iload_n hx hb dX4_isExplained_89 rfl (lv_at hl 0 rfl) ?_
                refine nw_iald X hP 3 (n := 8) (f := (zl)) rfl (z1) rfl (by omega) (by decide) dX4_isExplained_90 ?_
                refine lv_iadd hx hb dX4_isExplained_91 ?_
                refine nw_iast X hP hD hS 5 (n := 8) (f := gk1) rfl ((grF n fr tt k ld nv) (z1)) rfl (by omega) (by decide) dX4_isExplained_92 (fun H locs hP hD hS => ?_)
                have hP : va_P G.1 vwCl ((wV G (v) (a 0) (nv) (fr) (tt) (zl) (grF n fr tt k ld nv) (va_up (gk1) ((grF n fr tt k ld nv) (z1)) ((gk1 ((grF n fr tt k ld nv) (z1))) + (zl (z1)))) (ut1)) ++ ((wZ G (a) (n) (cu) (bg) (M) (er) (us)))) H := hP
                have hD : va_D vA ((wV G (v) (a 0) (nv) (fr) (tt) (zl) (grF n fr tt k ld nv) (va_up (gk1) ((grF n fr tt k ld nv) (z1)) ((gk1 ((grF n fr tt k ld nv) (z1))) + (zl (z1)))) (ut1)) ++ ((wZ G (a) (n) (cu) (bg) (M) (er) (us)))) := hD
                refine lv_iinc (v := (nI (z1 + 1))) (lv' := [(3, .int (nI (z1 + 1))), (2, .int (nI ((n)))), (0, .ref (v 0)), (1, .int (nI (k)))]) hx hb dX4_isExplained_93 hl (k := 0) rfl (by exact nI_add (z1) 1) (by decide) rfl (fun ls hl => ?_)
                refine lv_goto (tgt := 42) hx hb dX4_isExplained_96 (by decide) ?_
                exact ih42 (z1 + 1) (va_up (gk1) ((grF n fr tt k ld nv) (z1)) ((gk1 ((grF n fr tt k ld nv) (z1))) + (zl (z1)))) (ut1) _ _ _ (by omega) (by omega) (by first | exact gs_lost e1 hlost | exact gs_told e1 hlost) (lv_sub hl [0, 1, 2, 3] rfl) hP hD hS
              · skip
                have b55_8 : (zl (z1)) = (-2000000000 : Int32) := b55_8
                have hlost : zl z1 = -2000000000 := b55_8
                refine lv_aload_n hx hb dX4_isExplained_58 rfl (lv_at hl 2 rfl) ?_
                refine va_get (D := G.1) (ci := 3) (v := .ref (v 6)) (C := RX4) (T := TX4) (N := 8) hx hb hts in_X4_isExplained_X4 hown hK.1 hP 0 rfl rfl 7 (by decide) (hts (Cond.fieldLink RX4 33 "NightWater$Valves" "untold" "[Z") (List.mem_of_getElem? (i := 3) rfl)) (fun _ h9 => h9) rfl dX4_isExplained_59 ?_
                refine lv_aload_n hx hb dX4_isExplained_62 rfl (lv_at hl 2 rfl) ?_
                refine va_get (D := G.1) (ci := 3) (v := .ref (v 4)) (C := RX4) (T := TX4) (N := 8) hx hb hts in_X4_isExplained_X4 hown hK.1 hP 0 rfl rfl 5 (by decide) (hts (Cond.fieldLink RX4 27 "NightWater$Valves" "leader" "[I") (List.mem_of_getElem? (i := 6) rfl)) (fun _ h9 => h9) rfl dX4_isExplained_63 ?_
                refine lv_iload_n hx hb dX4_isExplained_66 rfl (lv_at hl 0 rfl) ?_
                refine nw_iald X hP 4 (n := 8) (f := (fun j => nI ((grF n fr tt k ld nv) j))) rfl (z1) rfl (by omega) (by decide) dX4_isExplained_67 ?_
                refine lv_iconst (v := (1)) hx hb dX4_isExplained_68 (by decide) ?_
                refine nw_zast X hP hD hS 6 (n := 8) (f := ut1) rfl ((grF n fr tt k ld nv) (z1)) rfl (by omega) (by decide) (by decide) dX4_isExplained_69 (fun H locs hP hD hS => ?_)
                have hP : va_P G.1 vwCl ((wV G (v) (a 0) (nv) (fr) (tt) (zl) (grF n fr tt k ld nv) (gk1) (va_up (ut1) ((grF n fr tt k ld nv) (z1)) (1 : Int32))) ++ ((wZ G (a) (n) (cu) (bg) (M) (er) (us)))) H := hP
                have hD : va_D vA ((wV G (v) (a 0) (nv) (fr) (tt) (zl) (grF n fr tt k ld nv) (gk1) (va_up (ut1) ((grF n fr tt k ld nv) (z1)) (1 : Int32))) ++ ((wZ G (a) (n) (cu) (bg) (M) (er) (us)))) := hD
                refine lv_goto (tgt := 93) hx hb dX4_isExplained_70 (by decide) ?_
                refine lv_iinc (v := (nI (z1 + 1))) (lv' := [(3, .int (nI (z1 + 1))), (2, .int (nI ((n)))), (0, .ref (v 0)), (1, .int (nI (k)))]) hx hb dX4_isExplained_93 hl (k := 0) rfl (by exact nI_add (z1) 1) (by decide) rfl (fun ls hl => ?_)
                refine lv_goto (tgt := 42) hx hb dX4_isExplained_96 (by decide) ?_
                exact ih42 (z1 + 1) (gk1) (va_up (ut1) ((grF n fr tt k ld nv) (z1)) (1 : Int32)) _ _ _ (by omega) (by omega) (by first | exact gs_lost e1 hlost | exact gs_told e1 hlost) (lv_sub hl [0, 1, 2, 3] rfl) hP hD hS
        exact K42 ((9 - (0)) + 1) (0) (gk0) (ut0) _ _ _ (Nat.lt_succ_self _) (by omega) (by exact fun g h => ⟨(e0 g (by omega)).1, (e0 g (by omega)).2.trans (nwIf_f gunt_0 _ _).symm⟩) (lv_sub hl [0, 1, 2, 3] rfl) hP hD hS
      · skip
        have b17_3 : ¬ (((n)) ≤ (z)) := fun h => b17_3 ((nI_leI (a := (n)) (b := z) (by omega) (by omega)).mpr h)
        have b17_3n : (z) < ((n)) := by omega
        refine lv_aload_n hx hb dX4_isExplained_20 rfl (lv_at hl 2 rfl) ?_
        refine va_get (D := G.1) (ci := 3) (v := .ref (v 5)) (C := RX4) (T := TX4) (N := 8) hx hb hts in_X4_isExplained_X4 hown hK.1 hP 0 rfl rfl 6 (by decide) (hts (Cond.fieldLink RX4 30 "NightWater$Valves" "groupLeak" "[I") (List.mem_of_getElem? (i := 2) rfl)) (fun _ h9 => h9) rfl dX4_isExplained_21 ?_
        refine lv_iload_n hx hb dX4_isExplained_24 rfl (lv_at hl 0 rfl) ?_
        refine lv_iconst (v := (0)) hx hb dX4_isExplained_25 (by decide) ?_
        refine nw_iast X hP hD hS 5 (n := 8) (f := gk0) rfl (z) rfl (by omega) (by decide) dX4_isExplained_26 (fun H locs hP hD hS => ?_)
        have hP : va_P G.1 vwCl ((wV G (v) (a 0) (nv) (fr) (tt) (zl) (grF n fr tt k ld nv) (va_up (gk0) (z) (0 : Int32)) (ut0)) ++ ((wZ G (a) (n) (cu) (bg) (M) (er) (us)))) H := hP
        have hD : va_D vA ((wV G (v) (a 0) (nv) (fr) (tt) (zl) (grF n fr tt k ld nv) (va_up (gk0) (z) (0 : Int32)) (ut0)) ++ ((wZ G (a) (n) (cu) (bg) (M) (er) (us)))) := hD
        refine lv_aload_n hx hb dX4_isExplained_27 rfl (lv_at hl 2 rfl) ?_
        refine va_get (D := G.1) (ci := 3) (v := .ref (v 6)) (C := RX4) (T := TX4) (N := 8) hx hb hts in_X4_isExplained_X4 hown hK.1 hP 0 rfl rfl 7 (by decide) (hts (Cond.fieldLink RX4 33 "NightWater$Valves" "untold" "[Z") (List.mem_of_getElem? (i := 3) rfl)) (fun _ h9 => h9) rfl dX4_isExplained_28 ?_
        refine lv_iload_n hx hb dX4_isExplained_31 rfl (lv_at hl 0 rfl) ?_
        refine lv_iconst (v := (0)) hx hb dX4_isExplained_32 (by decide) ?_
        refine nw_zast X hP hD hS 6 (n := 8) (f := ut0) rfl (z) rfl (by omega) (by decide) (by decide) dX4_isExplained_33 (fun H locs hP hD hS => ?_)
        have hP : va_P G.1 vwCl ((wV G (v) (a 0) (nv) (fr) (tt) (zl) (grF n fr tt k ld nv) (va_up (gk0) (z) (0 : Int32)) (va_up (ut0) (z) (0 : Int32))) ++ ((wZ G (a) (n) (cu) (bg) (M) (er) (us)))) H := hP
        have hD : va_D vA ((wV G (v) (a 0) (nv) (fr) (tt) (zl) (grF n fr tt k ld nv) (va_up (gk0) (z) (0 : Int32)) (va_up (ut0) (z) (0 : Int32))) ++ ((wZ G (a) (n) (cu) (bg) (M) (er) (us)))) := hD
        refine lv_iinc (v := (nI (z + 1))) (lv' := [(3, .int (nI (z + 1))), (2, .int (nI ((n)))), (0, .ref (v 0)), (1, .int (nI (k)))]) hx hb dX4_isExplained_34 hl (k := 0) rfl (by exact nI_add (z) 1) (by decide) rfl (fun ls hl => ?_)
        refine lv_goto (tgt := 15) hx hb dX4_isExplained_37 (by decide) ?_
        exact ih15 (z + 1) (va_up (gk0) (z) (0 : Int32)) (va_up (ut0) (z) (0 : Int32)) _ _ _ (by omega) (by omega) (by exact nw_fill2 e0) (lv_sub hl [0, 1, 2, 3] rfl) hP hD hS
  exact K15 ((9 - (0)) + 1) (0) (gk) (ut) _ _ _ (Nat.lt_succ_self _) (by omega) (by exact fun g h => absurd h (Nat.not_lt_zero g)) (lv_sub hl [0, 1, 2, 3] rfl) hP hD hS
set_option maxHeartbeats 4000000 in
set_option maxRecDepth 100000 in
theorem c_X4_leastOfGroup (lc : Launch) (G : nwG) (v : Nat → Nat) (nv : Nat) (fr tt : Nat → Nat) (zl : Nat → Int32) (ld : Nat → Nat) (gk ut : Nat → Int32) (a : Nat → Nat) (n : Nat) (cu bg : Nat → Int32) (M : Nat → Nat → Int32) (er us : Int32) (zone x : Int32) (hn : n ≤ 8) (hnv : nv ≤ 12) (hf : ∀ i, i < nv → fr i < n ∧ tt i < n) (hld : ∀ j, ld j < 8) : nwCi lc G yX4_leastOfGroup wsX4_leastOfGroup ({ frames := 3, cells := 0, slots := 0, locals := 71 } : Room) [.ref (v 0), .int (zone), .int (x)] ((wV G (v) (a 0) (nv) (fr) (tt) (zl) (ld) (gk) (ut)) ++ ((wZ G (a) (n) (cu) (bg) (M) (er) (us)))) (fun r w => ∃ ldv : Nat → Nat, (∀ j, ldv j < 8) ∧ r = groupF n nv fr tt zone x ∧ w = wV G v (a 0) (nv) (fr) (tt) (zl) (ldv) (gk) (ut) ++ wZ G a n cu bg M er us) := by
  refine nw_of (cc := cX4_leastOfGroup) (maxL := 3) (ret := (some .int)) (by decide) rfl (Nat.le_of_ble_eq_true rfl) ?_
  intro vp ve vs vm vb vt vc vA ls X hP hD hA hS hl
  have X : nwAt vp vm vc cX4_leastOfGroup 3 vs _ wsX4_leastOfGroup RX4 vt (some .int) "leastOfGroup" G := X
  have hx := X.1.1
  have hb := X.1.2.1
  have hown := X.1.2.2.2.1
  have hts := X.1.2.2.2.2
  have hK := X.2.2.2.2
  have hl : lv_has ls 3 [(0, .ref (v 0)), (1, .int (zone)), (2, .int (x))] := hl
  refine lv_aload_n hx hb dX4_leastOfGroup_0 rfl (lv_at hl 0 rfl) ?_
  refine va_get (D := G.1) (ci := 3) (v := .ref (a 0)) (C := RX4) (T := TX4) (N := 8) hx hb hts in_X4_leastOfGroup_X4 hown hK.1 hP 0 rfl rfl 0 (by decide) (hts (Cond.fieldLink RX4 37 "NightWater$Valves" "zones" "LNightWater$Zones;") (List.mem_of_getElem? (i := 1) rfl)) (fun _ h9 => h9) rfl dX4_leastOfGroup_1 ?_
  refine lv_iload_n hx hb dX4_leastOfGroup_4 rfl (lv_at hl 1 rfl) ?_
  refine nw_Vi (As := [.int (zone)]) (rest := []) (q0 := 0) X (c_X5_isNone lc G (a) (n) (cu) (bg) (M) (er) (us) ((zone)) ) (cwV 1 hts gX4_leastOfGroup_X5_isNone rfl rfl rfl (by decide +kernel) ⟨Nat.le_of_ble_eq_true rfl, Nat.le_of_ble_eq_true rfl⟩) rfl (show vwCl[4]? = some (RX5, TX5, 7) from rfl) (nwSp.suf ((wV G (v) (a 0) (nv) (fr) (tt) (zl) (ld) (gk) (ut))) ((wZ G (a) (n) (cu) (bg) (M) (er) (us)))) hP hD hS hA rfl hl.1 rfl (Nat.le_of_ble_eq_true rfl) dX4_leastOfGroup_5 ⟨Nat.le_of_ble_eq_true rfl, Nat.le_of_ble_eq_true rfl⟩ (fun r w H locs hp_1 hP hD hS => ?_)
  obtain ⟨⟨rfl, q_2⟩ | ⟨rfl, q_2⟩, rfl⟩ := hp_1
  · skip
    have hP : va_P G.1 vwCl ((wV G (v) (a 0) (nv) (fr) (tt) (zl) (ld) (gk) (ut)) ++ ((wZ G (a) (n) (cu) (bg) (M) (er) (us)))) H := hP
    have hD : va_D vA ((wV G (v) (a 0) (nv) (fr) (tt) (zl) (ld) (gk) (ut)) ++ ((wZ G (a) (n) (cu) (bg) (M) (er) (us)))) := hD
    have q_2 : out ((zone)) 0 (nI (n) - 1) := q_2
    refine lv_if_ne (tgt := 19) hx hb dX4_leastOfGroup_8 (by decide) (fun _ => ?_) (fun c9 => absurd c9 (by decide))
    refine lv_bipush (v := (-2)) hx hb dX4_leastOfGroup_19 (by decide) ?_
    exact nw_iret (rm := ({ frames := 3, cells := 0, slots := 0, locals := 71 } : Room)) X hP hD hS (⟨ld, hld, by simp only [groupF, nwIf_T, nwIf_F, or_true, true_or, or_false, false_or, and_true, true_and, and_false, false_and, not_true_eq_false, not_false_eq_true, Nat.add_sub_cancel, q_2], rfl⟩) dX4_leastOfGroup_21
  · skip
    have hP : va_P G.1 vwCl ((wV G (v) (a 0) (nv) (fr) (tt) (zl) (ld) (gk) (ut)) ++ ((wZ G (a) (n) (cu) (bg) (M) (er) (us)))) H := hP
    have hD : va_D vA ((wV G (v) (a 0) (nv) (fr) (tt) (zl) (ld) (gk) (ut)) ++ ((wZ G (a) (n) (cu) (bg) (M) (er) (us)))) := hD
    have q_2 : ¬ out ((zone)) 0 (nI (n) - 1) := q_2
    obtain ⟨z_4, hz_5, he_6⟩ := nw_lt (n := n) (by omega) q_2
    have ec_7 := nw_clamp he_6 (by omega)
    refine lv_if_ne (tgt := 19) hx hb dX4_leastOfGroup_8 (by decide) (fun c9 => absurd c9 (by decide)) (fun _ => ?_)
    refine lv_aload_n hx hb dX4_leastOfGroup_11 rfl (lv_at hl 0 rfl) ?_
    refine lv_iload_n hx hb dX4_leastOfGroup_12 rfl (lv_at hl 2 rfl) ?_
    refine nw_Vi (As := [.int (x)]) (rest := []) (q0 := 0) X (c_X4_isNoSet lc G (v) (nv) (fr) (tt) (zl) (ld) (gk) (ut) (a) (n) (cu) (bg) (M) (er) (us) ((x)) (by first | assumption | omega)) (cwV 1 hts gX4_leastOfGroup_X4_isNoSet rfl rfl rfl (by decide +kernel) ⟨Nat.le_of_ble_eq_true rfl, Nat.le_of_ble_eq_true rfl⟩) rfl (show vwCl[3]? = some (RX4, TX4, 8) from rfl) (nwSp.all ((wV G (v) (a 0) (nv) (fr) (tt) (zl) (ld) (gk) (ut)) ++ ((wZ G (a) (n) (cu) (bg) (M) (er) (us))))) hP hD hS hA rfl hl.1 rfl (Nat.le_of_ble_eq_true rfl) dX4_leastOfGroup_13 ⟨Nat.le_of_ble_eq_true rfl, Nat.le_of_ble_eq_true rfl⟩ (fun r w H locs hp_9 hP hD hS => ?_)
    obtain ⟨⟨rfl, q_10⟩ | ⟨rfl, q_10⟩, rfl⟩ := hp_9
    · skip
      have hP : va_P G.1 vwCl ((wV G (v) (a 0) (nv) (fr) (tt) (zl) (ld) (gk) (ut)) ++ ((wZ G (a) (n) (cu) (bg) (M) (er) (us)))) H := hP
      have hD : va_D vA ((wV G (v) (a 0) (nv) (fr) (tt) (zl) (ld) (gk) (ut)) ++ ((wZ G (a) (n) (cu) (bg) (M) (er) (us)))) := hD
      have q_10 : setBad (nv) ((x)) := q_10
      refine lv_if_eq (tgt := 22) hx hb dX4_leastOfGroup_16 (by decide) (fun c9 => absurd c9 (by decide)) (fun _ => ?_)
      refine lv_bipush (v := (-2)) hx hb dX4_leastOfGroup_19 (by decide) ?_
      exact nw_iret (rm := ({ frames := 3, cells := 0, slots := 0, locals := 71 } : Room)) X hP hD hS (⟨ld, hld, by simp only [groupF, nwIf_T, nwIf_F, or_true, true_or, or_false, false_or, and_true, true_and, and_false, false_and, not_true_eq_false, not_false_eq_true, Nat.add_sub_cancel, q_2, ec_7, q_10], rfl⟩) dX4_leastOfGroup_21
    · skip
      have hP : va_P G.1 vwCl ((wV G (v) (a 0) (nv) (fr) (tt) (zl) (ld) (gk) (ut)) ++ ((wZ G (a) (n) (cu) (bg) (M) (er) (us)))) H := hP
      have hD : va_D vA ((wV G (v) (a 0) (nv) (fr) (tt) (zl) (ld) (gk) (ut)) ++ ((wZ G (a) (n) (cu) (bg) (M) (er) (us)))) := hD
      have q_10 : ¬ setBad (nv) ((x)) := q_10
      have hpw_16 := nw_pow_lt hnv
      obtain ⟨k_12, hk_13, he_14⟩ := nw_lt (n := 2 ^ nv) (by omega) q_10
      have ec_15 := nw_clamp he_14 (by omega)
      refine lv_if_eq (tgt := 22) hx hb dX4_leastOfGroup_16 (by decide) (fun _ => ?_) (fun c9 => absurd (by decide) c9)
      refine lv_aload_n hx hb dX4_leastOfGroup_22 rfl (lv_at hl 0 rfl) ?_
      refine lv_iload_n hx hb dX4_leastOfGroup_23 rfl (lv_at hl 2 rfl) ?_
      refine nw_st (st' := [.int (nI (k_12)), .ref (v 0)]) (by rw [he_14]) ?_
      refine nw_Vv (As := [.int (nI (k_12))]) (rest := []) (q0 := 0) X (c_X4_putTogether lc G (v) (nv) (fr) (tt) (zl) (ld) (gk) (ut) (a) (n) (cu) (bg) (M) (er) (us) (k_12) (by first | assumption | omega) (by first | assumption | omega) (by first | assumption | omega) (by first | assumption | omega) (by first | assumption | omega)) (cwV 1 hts gX4_leastOfGroup_X4_putTogether rfl rfl rfl (by decide +kernel) ⟨Nat.le_of_ble_eq_true rfl, Nat.le_of_ble_eq_true rfl⟩) rfl (show vwCl[3]? = some (RX4, TX4, 8) from rfl) (nwSp.all ((wV G (v) (a 0) (nv) (fr) (tt) (zl) (ld) (gk) (ut)) ++ ((wZ G (a) (n) (cu) (bg) (M) (er) (us))))) hP hD hS hA rfl hl.1 rfl (Nat.le_of_ble_eq_true rfl) dX4_leastOfGroup_24 ⟨Nat.le_of_ble_eq_true rfl, Nat.le_of_ble_eq_true rfl⟩ (fun w H locs hp_18 hP hD hS => ?_)
      obtain rfl := hp_18
      have hP : va_P G.1 vwCl ((wV G (v) (a 0) (nv) (fr) (tt) (zl) (grF n fr tt k_12 ld nv) (gk) (ut)) ++ ((wZ G (a) (n) (cu) (bg) (M) (er) (us)))) H := hP
      have hD : va_D vA ((wV G (v) (a 0) (nv) (fr) (tt) (zl) (grF n fr tt k_12 ld nv) (gk) (ut)) ++ ((wZ G (a) (n) (cu) (bg) (M) (er) (us)))) := hD
      refine lv_aload_n hx hb dX4_leastOfGroup_27 rfl (lv_at hl 0 rfl) ?_
      refine va_get (D := G.1) (ci := 3) (v := .ref (v 4)) (C := RX4) (T := TX4) (N := 8) hx hb hts in_X4_leastOfGroup_X4 hown hK.1 hP 0 rfl rfl 5 (by decide) (hts (Cond.fieldLink RX4 27 "NightWater$Valves" "leader" "[I") (List.mem_of_getElem? (i := 2) rfl)) (fun _ h9 => h9) rfl dX4_leastOfGroup_28 ?_
      refine lv_iload_n hx hb dX4_leastOfGroup_31 rfl (lv_at hl 1 rfl) ?_
      refine nw_iald X hP 4 (n := 8) (f := (fun j => nI ((grF n fr tt k_12 ld nv) j))) rfl (z_4) he_6 (by omega) (by decide) dX4_leastOfGroup_32 ?_
      exact nw_iret (rm := ({ frames := 3, cells := 0, slots := 0, locals := 71 } : Room)) X hP hD hS (⟨_, grF_b hn hld nv, by simp only [groupF, nwIf_T, nwIf_F, or_true, true_or, or_false, false_or, and_true, true_and, and_false, false_and, not_true_eq_false, not_false_eq_true, Nat.add_sub_cancel, q_2, ec_7, q_10, ec_15]; rw [grF_junk (g1 := fun _ => 0) hf nv (Nat.le_refl nv) z_4 (by omega)], rfl⟩) dX4_leastOfGroup_33
set_option maxHeartbeats 4000000 in
set_option maxRecDepth 100000 in
theorem c_X4_answerExplains (lc : Launch) (G : nwG) (v : Nat → Nat) (nv : Nat) (fr tt : Nat → Nat) (zl : Nat → Int32) (ld : Nat → Nat) (gk ut : Nat → Int32) (a : Nat → Nat) (n : Nat) (cu bg : Nat → Int32) (M : Nat → Nat → Int32) (er us : Int32) (x : Int32) (hn : n ≤ 8) (hnv : nv ≤ 12) (hf : ∀ i, i < nv → fr i < n ∧ tt i < n) (hld : ∀ j, ld j < 8) : nwCi lc G yX4_answerExplains wsX4_answerExplains ({ frames := 5, cells := 0, slots := 0, locals := 112 } : Room) [.ref (v 0), .int (x)] ((wV G (v) (a 0) (nv) (fr) (tt) (zl) (ld) (gk) (ut)) ++ ((wZ G (a) (n) (cu) (bg) (M) (er) (us)))) (fun r w => ∃ (zlv : Nat → Int32) (ldv : Nat → Nat) (gkv utv : Nat → Int32), (∀ j, ldv j < 8) ∧ r = explF n nv fr tt (lk1 cu bg M er us) x ∧ w = wV G v (a 0) (nv) (fr) (tt) (zlv) (ldv) (gkv) (utv) ++ wZ G a n cu bg M er us) := by
  refine nw_of (cc := cX4_answerExplains) (maxL := 2) (ret := (some .int)) (by decide) rfl (Nat.le_of_ble_eq_true rfl) ?_
  intro vp ve vs vm vb vt vc vA ls X hP hD hA hS hl
  have X : nwAt vp vm vc cX4_answerExplains 2 vs _ wsX4_answerExplains RX4 vt (some .int) "answerExplains" G := X
  have hx := X.1.1
  have hb := X.1.2.1
  have hown := X.1.2.2.2.1
  have hts := X.1.2.2.2.2
  have hK := X.2.2.2.2
  have hl : lv_has ls 2 [(0, .ref (v 0)), (1, .int (x))] := hl
  refine lv_aload_n hx hb dX4_answerExplains_0 rfl (lv_at hl 0 rfl) ?_
  refine lv_iload_n hx hb dX4_answerExplains_1 rfl (lv_at hl 1 rfl) ?_
  refine nw_Vi (As := [.int (x)]) (rest := []) (q0 := 0) X (c_X4_isNoSet lc G (v) (nv) (fr) (tt) (zl) (ld) (gk) (ut) (a) (n) (cu) (bg) (M) (er) (us) ((x)) (by first | assumption | omega)) (cwV 1 hts gX4_answerExplains_X4_isNoSet rfl rfl rfl (by decide +kernel) ⟨Nat.le_of_ble_eq_true rfl, Nat.le_of_ble_eq_true rfl⟩) rfl (show vwCl[3]? = some (RX4, TX4, 8) from rfl) (nwSp.all ((wV G (v) (a 0) (nv) (fr) (tt) (zl) (ld) (gk) (ut)) ++ ((wZ G (a) (n) (cu) (bg) (M) (er) (us))))) hP hD hS hA rfl hl.1 rfl (Nat.le_of_ble_eq_true rfl) dX4_answerExplains_2 ⟨Nat.le_of_ble_eq_true rfl, Nat.le_of_ble_eq_true rfl⟩ (fun r w H locs hp_1 hP hD hS => ?_)
  obtain ⟨⟨rfl, q_2⟩ | ⟨rfl, q_2⟩, rfl⟩ := hp_1
  · skip
    have hP : va_P G.1 vwCl ((wV G (v) (a 0) (nv) (fr) (tt) (zl) (ld) (gk) (ut)) ++ ((wZ G (a) (n) (cu) (bg) (M) (er) (us)))) H := hP
    have hD : va_D vA ((wV G (v) (a 0) (nv) (fr) (tt) (zl) (ld) (gk) (ut)) ++ ((wZ G (a) (n) (cu) (bg) (M) (er) (us)))) := hD
    have q_2 : setBad (nv) ((x)) := q_2
    refine lv_if_eq (tgt := 11) hx hb dX4_answerExplains_5 (by decide) (fun c9 => absurd c9 (by decide)) (fun _ => ?_)
    refine lv_bipush (v := (-2)) hx hb dX4_answerExplains_8 (by decide) ?_
    exact nw_iret (rm := ({ frames := 5, cells := 0, slots := 0, locals := 112 } : Room)) X hP hD hS (⟨zl, ld, gk, ut, hld, by simp only [explF, nwIf_T, nwIf_F, or_true, true_or, or_false, false_or, and_true, true_and, and_false, false_and, not_true_eq_false, not_false_eq_true, Nat.add_sub_cancel, q_2], rfl⟩) dX4_answerExplains_10
  · skip
    have hP : va_P G.1 vwCl ((wV G (v) (a 0) (nv) (fr) (tt) (zl) (ld) (gk) (ut)) ++ ((wZ G (a) (n) (cu) (bg) (M) (er) (us)))) H := hP
    have hD : va_D vA ((wV G (v) (a 0) (nv) (fr) (tt) (zl) (ld) (gk) (ut)) ++ ((wZ G (a) (n) (cu) (bg) (M) (er) (us)))) := hD
    have q_2 : ¬ setBad (nv) ((x)) := q_2
    have hpw_8 := nw_pow_lt hnv
    obtain ⟨k_4, hk_5, he_6⟩ := nw_lt (n := 2 ^ nv) (by omega) q_2
    have ec_7 := nw_clamp he_6 (by omega)
    refine lv_if_eq (tgt := 11) hx hb dX4_answerExplains_5 (by decide) (fun _ => ?_) (fun c9 => absurd (by decide) c9)
    refine lv_aload_n hx hb dX4_answerExplains_11 rfl (lv_at hl 0 rfl) ?_
    refine nw_Vv (As := []) (rest := []) (q0 := 0) X (c_X4_reckonLeaks lc G (v) (nv) (fr) (tt) (zl) (ld) (gk) (ut) (a) (n) (cu) (bg) (M) (er) (us) (by first | assumption | omega)) (cwV 0 hts gX4_answerExplains_X4_reckonLeaks rfl rfl rfl (by decide +kernel) ⟨Nat.le_of_ble_eq_true rfl, Nat.le_of_ble_eq_true rfl⟩) rfl (show vwCl[3]? = some (RX4, TX4, 8) from rfl) (nwSp.all ((wV G (v) (a 0) (nv) (fr) (tt) (zl) (ld) (gk) (ut)) ++ ((wZ G (a) (n) (cu) (bg) (M) (er) (us))))) hP hD hS hA rfl hl.1 rfl (Nat.le_of_ble_eq_true rfl) dX4_answerExplains_12 ⟨Nat.le_of_ble_eq_true rfl, Nat.le_of_ble_eq_true rfl⟩ (fun w H locs hp_10 hP hD hS => ?_)
    obtain ⟨zlv_11, hzl_12, rfl⟩ := hp_10
    have hP : va_P G.1 vwCl ((wV G (v) (a 0) (nv) (fr) (tt) (zlv_11) (ld) (gk) (ut)) ++ ((wZ G (a) (n) (cu) (bg) (M) (er) (us)))) H := hP
    have hD : va_D vA ((wV G (v) (a 0) (nv) (fr) (tt) (zlv_11) (ld) (gk) (ut)) ++ ((wZ G (a) (n) (cu) (bg) (M) (er) (us)))) := hD
    refine lv_aload_n hx hb dX4_answerExplains_15 rfl (lv_at hl 0 rfl) ?_
    refine lv_iload_n hx hb dX4_answerExplains_16 rfl (lv_at hl 1 rfl) ?_
    refine nw_st (st' := [.int (nI (k_4)), .ref (v 0)]) (by rw [he_6]) ?_
    refine nw_Vi (As := [.int (nI (k_4))]) (rest := []) (q0 := 0) X (c_X4_isExplained lc G (v) (nv) (fr) (tt) (zlv_11) (ld) (gk) (ut) (a) (n) (cu) (bg) (M) (er) (us) (k_4) (by first | assumption | omega) (by first | assumption | omega) (by first | assumption | omega) (by first | assumption | omega) (by first | assumption | omega)) (cwV 1 hts gX4_answerExplains_X4_isExplained rfl rfl rfl (by decide +kernel) ⟨Nat.le_of_ble_eq_true rfl, Nat.le_of_ble_eq_true rfl⟩) rfl (show vwCl[3]? = some (RX4, TX4, 8) from rfl) (nwSp.all ((wV G (v) (a 0) (nv) (fr) (tt) (zlv_11) (ld) (gk) (ut)) ++ ((wZ G (a) (n) (cu) (bg) (M) (er) (us))))) hP hD hS hA rfl hl.1 rfl (Nat.le_of_ble_eq_true rfl) dX4_answerExplains_17 ⟨Nat.le_of_ble_eq_true rfl, Nat.le_of_ble_eq_true rfl⟩ (fun r w H locs hp_13 hP hD hS => ?_)
    obtain ⟨gkv_14, utv_15, ⟨rfl, q_16⟩ | ⟨rfl, q_16⟩, rfl⟩ := hp_13
    · skip
      have hP : va_P G.1 vwCl ((wV G (v) (a 0) (nv) (fr) (tt) (zlv_11) (grF n fr tt k_4 ld nv) (gkv_14) (utv_15)) ++ ((wZ G (a) (n) (cu) (bg) (M) (er) (us)))) H := hP
      have hD : va_D vA ((wV G (v) (a 0) (nv) (fr) (tt) (zlv_11) (grF n fr tt k_4 ld nv) (gkv_14) (utv_15)) ++ ((wZ G (a) (n) (cu) (bg) (M) (er) (us)))) := hD
      have q_16 : expl (n) (grF (n) (fr) (tt) (k_4) (ld) (nv)) (zlv_11) := q_16
      refine lv_if_eq (tgt := 27) hx hb dX4_answerExplains_20 (by decide) (fun c9 => absurd c9 (by decide)) (fun _ => ?_)
      refine lv_iconst (v := (1)) hx hb dX4_answerExplains_23 (by decide) ?_
      refine lv_goto (tgt := 28) hx hb dX4_answerExplains_24 (by decide) ?_
      exact nw_iret (rm := ({ frames := 5, cells := 0, slots := 0, locals := 112 } : Room)) X hP hD hS (⟨_, _, _, _, grF_b hn hld nv, by simp only [explF, nwIf_T, nwIf_F, or_true, true_or, or_false, false_or, and_true, true_and, and_false, false_and, not_true_eq_false, not_false_eq_true, Nat.add_sub_cancel, q_2, ec_7]; exact (nwIf_t (expl_congr (fun z hz9 => grF_junk hf nv (Nat.le_refl nv) z hz9) hzl_12 q_16) _ _).symm, rfl⟩) dX4_answerExplains_28
    · skip
      have hP : va_P G.1 vwCl ((wV G (v) (a 0) (nv) (fr) (tt) (zlv_11) (grF n fr tt k_4 ld nv) (gkv_14) (utv_15)) ++ ((wZ G (a) (n) (cu) (bg) (M) (er) (us)))) H := hP
      have hD : va_D vA ((wV G (v) (a 0) (nv) (fr) (tt) (zlv_11) (grF n fr tt k_4 ld nv) (gkv_14) (utv_15)) ++ ((wZ G (a) (n) (cu) (bg) (M) (er) (us)))) := hD
      have q_16 : ¬ expl (n) (grF (n) (fr) (tt) (k_4) (ld) (nv)) (zlv_11) := q_16
      refine lv_if_eq (tgt := 27) hx hb dX4_answerExplains_20 (by decide) (fun _ => ?_) (fun c9 => absurd (by decide) c9)
      refine lv_iconst (v := (0)) hx hb dX4_answerExplains_27 (by decide) ?_
      exact nw_iret (rm := ({ frames := 5, cells := 0, slots := 0, locals := 112 } : Room)) X hP hD hS (⟨_, _, _, _, grF_b hn hld nv, by simp only [explF, nwIf_T, nwIf_F, or_true, true_or, or_false, false_or, and_true, true_and, and_false, false_and, not_true_eq_false, not_false_eq_true, Nat.add_sub_cancel, q_2, ec_7]; exact (nwIf_f (fun h9 => q_16 (expl_congr (fun z hz9 => grF_junk hf nv (Nat.le_refl nv) z hz9) (fun z hz9 => (hzl_12 z hz9).symm) h9)) _ _).symm, rfl⟩) dX4_answerExplains_28
set_option maxHeartbeats 4000000 in
set_option maxRecDepth 100000 in
theorem c_X4_mixInto (lc : Launch) (G : nwG) (v : Nat → Nat) (nv : Nat) (fr tt : Nat → Nat) (zl : Nat → Int32) (ld : Nat → Nat) (gk ut : Nat → Int32) (a : Nat → Nat) (n : Nat) (cu bg : Nat → Int32) (M : Nat → Nat → Int32) (er us : Int32) (h0 : Int64) (hnv : nv ≤ 12) : nwCl lc G yX4_mixInto wsX4_mixInto ({ frames := 1, cells := 0, slots := 0, locals := 22 } : Room) [.ref (v 0), .long (h0)] ((wV G (v) (a 0) (nv) (fr) (tt) (zl) (ld) (gk) (ut)) ++ ((wZ G (a) (n) (cu) (bg) (M) (er) (us)))) (fun r w => r = vdF fr tt h0 nv ∧ w = wV G v (a 0) (nv) (fr) (tt) (zl) (ld) (gk) (ut) ++ wZ G a n cu bg M er us) := by
  refine nw_of (cc := cX4_mixInto) (maxL := 6) (ret := (some .long)) (by decide) rfl (Nat.le_of_ble_eq_true rfl) ?_
  intro vp ve vs vm vb vt vc vA ls X hP hD hA hS hl
  have X : nwAt vp vm vc cX4_mixInto 6 vs _ wsX4_mixInto RX4 vt (some .long) "mixInto" G := X
  have hx := X.1.1
  have hb := X.1.2.1
  have hown := X.1.2.2.2.1
  have hts := X.1.2.2.2.2
  have hK := X.2.2.2.2
  have hl : lv_has ls 6 [(0, .ref (v 0)), (1, .long (h0))] := hl
  refine lv_lload_n hx hb dX4_mixInto_0 rfl (lv_at hl 1 rfl) ?_
  refine lv_lstore_n (lv' := [(3, .long (h0)), (0, .ref (v 0)), (1, .long (h0))]) hx hb dX4_mixInto_1 rfl hl (by decide) rfl (fun ls hl => ?_)
  refine lv_iconst (v := (0)) hx hb dX4_mixInto_2 (by decide) ?_
  refine lv_istore (lv' := [(5, .int (0)), (3, .long (h0)), (0, .ref (v 0)), (1, .long (h0))]) hx hb dX4_mixInto_3 hl (by decide) rfl (fun ls hl => ?_)
  have K5 : ∀ (fuel : Nat) (i : Nat) (x3 : Int64) (H : Heap) (locs : List Loc) (ls : Array Slot), (13 - i) < fuel → (i ≤ nv) → (x3 = vdF fr tt h0 i) → lv_has ls 6 [(5, .int (nI (i))), (3, .long (x3)), (0, .ref (v 0)), (1, .long (h0))] → va_P G.1 vwCl ((wV G (v) (a 0) (nv) (fr) (tt) (zl) (ld) (gk) (ut)) ++ ((wZ G (a) (n) (cu) (bg) (M) (er) (us)))) H → va_D vA ((wV G (v) (a 0) (nv) (fr) (tt) (zl) (ld) (gk) (ut)) ++ ((wZ G (a) (n) (cu) (bg) (M) (er) (us)))) → va_S vA vs.heap H locs → W vp lc ve ({ frames := 1, cells := 0, slots := 0, locals := 22 } : Room) vs vm ([.ref (v 0), .long (h0)] : List Value).toArray vb vt vc H locs 0 0 (MQ vb (nwQl G (fun r w => r = vdF fr tt h0 nv ∧ w = wV G v (a 0) (nv) (fr) (tt) (zl) (ld) (gk) (ut) ++ wZ G a n cu bg M er us) vA) ([.ref (v 0), .long (h0)] : List Value).toArray vs ({ frames := 1, cells := 0, slots := 0, locals := 22 } : Room).cells ({ frames := 1, cells := 0, slots := 0, locals := 22 } : Room).slots vA) (F0 vm 5 ls []) := by
    intro fuel
    induction fuel with
    | zero => intro i x3 H locs ls hmu; exact absurd hmu (Nat.not_lt_zero _)
    | succ fuel ih5 =>
      intro i x3 H locs ls hmu hi e3 hl hP hD hS
      refine lv_iload hx hb dX4_mixInto_5 (lv_at hl 0 rfl) ?_
      refine lv_aload_n hx hb dX4_mixInto_7 rfl (lv_at hl 2 rfl) ?_
      refine va_get (D := G.1) (ci := 3) (v := .int (nI (nv))) (C := RX4) (T := TX4) (N := 8) hx hb hts in_X4_mixInto_X4 hown hK.1 hP 0 rfl rfl 3 (by decide) (hts (.fieldLink RX4 18 "NightWater$Valves" "size" "I") (List.mem_of_getElem? (i := 1) rfl)) (fun _ h9 => h9) rfl dX4_mixInto_8 ?_
      refine lv_icmp_ge (tgt := 44) hx hb dX4_mixInto_11 (by decide) (fun b11_1 => ?_) (fun b11_1 => ?_)
      · skip
        have b11_1 : (nv) ≤ (i) := (nI_leI (a := nv) (b := i) (by omega) (by omega)).mp b11_1
        have b11_1n : ¬ ((i) < (nv)) := by omega
        refine lv_lload_n hx hb dX4_mixInto_44 rfl (lv_at hl 1 rfl) ?_
        exact nw_lret (rm := ({ frames := 1, cells := 0, slots := 0, locals := 22 } : Room)) X hP hD hS (⟨e3.trans (by rw [show i = nv by omega]), rfl⟩) dX4_mixInto_45
      · skip
        have b11_1 : ¬ ((nv) ≤ (i)) := fun h => b11_1 ((nI_leI (a := nv) (b := i) (by omega) (by omega)).mpr h)
        have b11_1n : (i) < (nv) := by omega
        refine lv_lload_n hx hb dX4_mixInto_14 rfl (lv_at hl 1 rfl) ?_
        refine lv_aload_n hx hb dX4_mixInto_15 rfl (lv_at hl 2 rfl) ?_
        refine va_get (D := G.1) (ci := 3) (v := .ref (v 1)) (C := RX4) (T := TX4) (N := 8) hx hb hts in_X4_mixInto_X4 hown hK.1 hP 0 rfl rfl 1 (by decide) (hts (.fieldLink RX4 11 "NightWater$Valves" "from" "[I") (List.mem_of_getElem? (i := 2) rfl)) (fun _ h9 => h9) rfl dX4_mixInto_16 ?_
        refine lv_iload hx hb dX4_mixInto_19 (lv_at hl 0 rfl) ?_
        refine nw_iald X hP 1 (n := 12) (f := (fun j => nI (fr j))) rfl (i) rfl (by omega) (by decide) dX4_mixInto_21 ?_
        refine nw_Nl (As := [.long (x3), .int (nI (fr (i)))]) (rest := []) X (c_X6_mix lc G ((x3)) ((nI (fr (i)))) ) (va_cnB 2 hts ggX4_mixInto_X6_mix rfl rfl rfl (hK.nest 10 rfl) (hts (.initialized RX6) (List.mem_of_getElem? (i := 5) rfl)) (by decide +kernel) ⟨Nat.le_of_ble_eq_true rfl, Nat.le_of_ble_eq_true rfl⟩) (hts (.static yX6_mix) (List.mem_of_getElem? (i := 4) rfl)) (fun _ _ h => h.2) hP hD hS hA rfl hl.1 rfl (Nat.le_of_ble_eq_true rfl) dX4_mixInto_22 ⟨Nat.le_of_ble_eq_true rfl, Nat.le_of_ble_eq_true rfl⟩ (fun r H locs hp_2 hP hD hS => ?_)
        obtain ⟨rfl, -⟩ := hp_2
        refine lv_lstore_n (lv' := [(3, .long (31 * ((x3)) + (((nI (fr (i))))).toInt64)), (5, .int (nI (i))), (0, .ref (v 0)), (1, .long (h0))]) hx hb dX4_mixInto_25 rfl hl (by decide) rfl (fun ls hl => ?_)
        refine lv_lload_n hx hb dX4_mixInto_26 rfl (lv_at hl 0 rfl) ?_
        refine lv_aload_n hx hb dX4_mixInto_27 rfl (lv_at hl 2 rfl) ?_
        refine va_get (D := G.1) (ci := 3) (v := .ref (v 2)) (C := RX4) (T := TX4) (N := 8) hx hb hts in_X4_mixInto_X4 hown hK.1 hP 0 rfl rfl 2 (by decide) (hts (.fieldLink RX4 15 "NightWater$Valves" "to" "[I") (List.mem_of_getElem? (i := 3) rfl)) (fun _ h9 => h9) rfl dX4_mixInto_28 ?_
        refine lv_iload hx hb dX4_mixInto_31 (lv_at hl 1 rfl) ?_
        refine nw_iald X hP 2 (n := 12) (f := (fun j => nI (tt j))) rfl (i) rfl (by omega) (by decide) dX4_mixInto_33 ?_
        refine nw_Nl (As := [.long (31 * ((x3)) + (((nI (fr (i))))).toInt64), .int (nI (tt (i)))]) (rest := []) X (c_X6_mix lc G ((31 * ((x3)) + (((nI (fr (i))))).toInt64)) ((nI (tt (i)))) ) (va_cnB 2 hts ggX4_mixInto_X6_mix rfl rfl rfl (hK.nest 10 rfl) (hts (.initialized RX6) (List.mem_of_getElem? (i := 5) rfl)) (by decide +kernel) ⟨Nat.le_of_ble_eq_true rfl, Nat.le_of_ble_eq_true rfl⟩) (hts (.static yX6_mix) (List.mem_of_getElem? (i := 4) rfl)) (fun _ _ h => h.2) hP hD hS hA rfl hl.1 rfl (Nat.le_of_ble_eq_true rfl) dX4_mixInto_34 ⟨Nat.le_of_ble_eq_true rfl, Nat.le_of_ble_eq_true rfl⟩ (fun r H locs hp_3 hP hD hS => ?_)
        obtain ⟨rfl, -⟩ := hp_3
        refine lv_lstore_n (lv' := [(3, .long (31 * ((31 * ((x3)) + (((nI (fr (i))))).toInt64)) + (((nI (tt (i))))).toInt64)), (5, .int (nI (i))), (0, .ref (v 0)), (1, .long (h0))]) hx hb dX4_mixInto_37 rfl hl (by decide) rfl (fun ls hl => ?_)
        refine lv_iinc (v := (nI (i + 1))) (lv' := [(5, .int (nI (i + 1))), (3, .long (31 * ((31 * ((x3)) + (((nI (fr (i))))).toInt64)) + (((nI (tt (i))))).toInt64)), (0, .ref (v 0)), (1, .long (h0))]) hx hb dX4_mixInto_38 hl (k := 1) rfl (by exact nI_add (i) 1) (by decide) rfl (fun ls hl => ?_)
        refine lv_goto (tgt := 5) hx hb dX4_mixInto_41 (by decide) ?_
        exact ih5 (i + 1) ((31 * ((31 * ((x3)) + (((nI (fr (i))))).toInt64)) + (((nI (tt (i))))).toInt64)) _ _ _ (by omega) (by omega) (by rw [vdF_s, e3]) (lv_sub hl [0, 1, 2, 3] rfl) hP hD hS
  exact K5 ((13 - (0)) + 1) (0) ((h0)) _ _ _ (Nat.lt_succ_self _) (by omega) (by rfl) (lv_sub hl [0, 1, 2, 3] rfl) hP hD hS
