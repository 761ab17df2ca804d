/-! printed by wip/gen/x9.py: contracts, walked row by row -/
theorem in_X6_init_X0 : ∀ w ∈ wsX00, w ∈ wsX6_init := by decide +kernel
theorem in_X6_init_X1 : ∀ w ∈ wsX10, w ∈ wsX6_init := by decide +kernel
theorem in_X6_init_X3 : ∀ w ∈ wsX30, w ∈ wsX6_init := by decide +kernel
theorem in_X6_init_X4 : ∀ w ∈ wsX40, w ∈ wsX6_init := by decide +kernel
theorem in_X6_init_X5 : ∀ w ∈ wsX50, w ∈ wsX6_init := by decide +kernel
theorem in_X6_init_X6 : ∀ w ∈ wsX60, w ∈ wsX6_init := by decide +kernel
set_option maxHeartbeats 4000000 in
set_option maxRecDepth 100000 in
theorem c_X6_init (lc : Launch) (G : nwG) (b : Nat) : nwCv lc G yX6_init wsX6_init ({ frames := 4, cells := 64, slots := 974, locals := 91 } : Room) [.ref b] [(b, .inr (5, [.null, .null, .null, .null, .null]))] (fun w => ∃ (z v li st d : Nat → Nat) (Mv : Nat → Nat → Int32), plOk (fun _ => 0) 1 Mv ∧ w = wN b (z 0) (v 0) (li 0) (st 0) (d 0) ++ (wV G v (z 0) 0 (fun _ => 0) (fun _ => 0) (fun _ => 0) (fun _ => 0) (fun _ => 0) (fun _ => 0) ++ (wZ G z 0 (fun _ => 0) (fun _ => 0) (fun _ _ => 0) 20 2 ++ (wL G li (fun _ _ => 0) ++ (wS G st 1 (fun _ => 0) Mv ++ wD G d 0 (fun _ => 0) (fun _ => 0) (fun _ => 0)))))) := by
  refine nw_of (cc := cX6_init) (maxL := 1) (ret := none) (by decide) rfl (Nat.le_of_ble_eq_true rfl) ?_
  intro vp ve vs vm vb vt vc vA ls X hP hD hA hS hl
  have X : nwAt vp vm vc cX6_init 1 vs _ wsX6_init RX6 vt none "<init>" G := X
  have hx := X.1.1
  have hb := X.1.2.1
  have hown := X.1.2.2.2.1
  have hts := X.1.2.2.2.2
  have hK := X.2.2.2.2
  have hl : lv_has ls 1 [(0, .ref (b))] := hl
  refine lv_aload_n hx hb dX6_init_0 rfl (lv_at hl 0 rfl) ?_
  refine W.objInit hx hb hown (hts (.methodLink RX6 1 objectInit) (List.mem_of_getElem? (i := 1) rfl)) (hts (.instanceMethod objectInit) (List.mem_of_getElem? (i := 2) rfl)) (hts (.code objectInit ⟨#[0xb1]⟩ 1 none) (List.mem_of_getElem? (i := 3) rfl)) rfl (X.1.2.2.1 ▸ hl.1) rfl dX6_init_1 (Nat.le_of_ble_eq_true rfl) (Nat.le_of_ble_eq_true rfl) ?_
  refine W.eq (g2 := F0 vm 4 ls []) rfl ?_
  refine lv_aload_n hx hb dX6_init_4 rfl (lv_at hl 0 rfl) ?_
  refine va_new (ci := 4) (fs := [.null, .null, .null, .null, .int (0), .int (0), .int (0)]) (C := RX5) (T := TX5) (N := 7) hx hb hts in_X6_init_X5 tyX5 tyX5_ok hown (hts (.classLink RX6 7 RX5) (List.mem_of_getElem? (i := 4) rfl)) (hts (.instantiable RX5 7) (List.mem_of_getElem? (i := 5) rfl)) (hts (.initialized RX5) (List.mem_of_getElem? (i := 6) rfl)) hK.1 hP hD hS hA rfl (fun j hj => by
      match j, hj with
      | 0, _ => rfl
      | 1, _ => rfl
      | 2, _ => rfl
      | 3, _ => rfl
      | 4, _ => rfl
      | 5, _ => rfl
      | 6, _ => rfl
      | k + 7, h => exact absurd h (by omega)) (Nat.le_of_ble_eq_true rfl) (Nat.le_of_ble_eq_true rfl) dX6_init_5 (fun q0 H hP hD hS => ?_)
  refine lv_dup hx hb dX6_init_8 rfl ?_
  refine nw_INv (As := []) (rest := [.ref q0, .ref b]) X (c_X5_init lc G q0) ⟨va_cnB 0 hts ggX6_init_X5_init rfl rfl rfl (hK.nest 0 rfl) (hts (.initialized RX5) (List.mem_of_getElem? (i := 6) rfl)) (by decide +kernel) ⟨(Nat.le_of_ble_eq_true rfl), (Nat.le_of_ble_eq_true rfl)⟩, rfl, (hts (.instanceMethod yX5_init) (List.mem_of_getElem? (i := 24) rfl))⟩ (nwSp.suf ([(b, .inr (5, [.null, .null, .null, .null, .null]))]) [(q0, .inr (4, [.null, .null, .null, .null, .int (0), .int (0), .int (0)]))]) hP hD hS hA rfl hl.1 rfl (Nat.le_of_ble_eq_true rfl) dX6_init_9 ⟨(Nat.le_of_ble_eq_true rfl), (Nat.le_of_ble_eq_true rfl)⟩ (fun w H locs hp hP9 hD9 hS9 => ?_)
  obtain ⟨z, hz0, rfl⟩ := hp
  subst hz0
  have hP := hP9
  have hD := hD9
  have hS := hS9
  refine va_putF (D := G.1) (ci := 5) (v := .ref (z 0)) (ty := (.object "NightWater$Zones")) (C := RX6) (T := TX6) (N := 5) hx hb hts in_X6_init_X6 tyX6 tyX6_ok nmX6 hown hK.1 hP hD hS 0 rfl rfl 0 (by decide) (hts (.fieldLink RX6 10 "NightWater" "zones" "LNightWater$Zones;") (List.mem_of_getElem? (i := 7) rfl)) (fun _ h9 => h9) rfl X.2.2.2.1 rfl (by decide +kernel) rfl rfl (Nat.le_of_ble_eq_true rfl) dX6_init_12 (fun H locs hP hD hS => ?_)
  have hP : va_P G.1 vwCl (([(b, .inr (5, [.ref (z 0), .null, .null, .null, .null]))] ++ wZ G z 0 (fun _ => 0) (fun _ => 0) (fun _ _ => 0) 20 2)) H := hP
  have hD : va_D vA (([(b, .inr (5, [.ref (z 0), .null, .null, .null, .null]))] ++ wZ G z 0 (fun _ => 0) (fun _ => 0) (fun _ _ => 0) 20 2)) := hD
  refine lv_aload_n hx hb dX6_init_15 rfl (lv_at hl 0 rfl) ?_
  refine va_new (ci := 3) (fs := [.null, .null, .null, .int (0), .null, .null, .null, .null]) (C := RX4) (T := TX4) (N := 8) hx hb hts in_X6_init_X4 tyX4 tyX4_ok hown (hts (.classLink RX6 16 RX4) (List.mem_of_getElem? (i := 8) rfl)) (hts (.instantiable RX4 8) (List.mem_of_getElem? (i := 9) rfl)) (hts (.initialized RX4) (List.mem_of_getElem? (i := 10) rfl)) hK.1 hP hD hS hA rfl (fun j hj => by
      match j, hj with
      | 0, _ => rfl
      | 1, _ => rfl
      | 2, _ => rfl
      | 3, _ => rfl
      | 4, _ => rfl
      | 5, _ => rfl
      | 6, _ => rfl
      | 7, _ => rfl
      | k + 8, h => exact absurd h (by omega)) (Nat.le_of_ble_eq_true rfl) (Nat.le_of_ble_eq_true rfl) dX6_init_16 (fun q1 H hP hD hS => ?_)
  refine lv_dup hx hb dX6_init_19 rfl ?_
  refine lv_aload_n hx hb dX6_init_20 rfl (lv_at hl 0 rfl) ?_
  refine va_get (D := G.1) (ci := 5) (v := .ref (z 0)) (C := RX6) (T := TX6) (N := 5) hx hb hts in_X6_init_X6 hown hK.1 hP 0 rfl rfl 0 (by decide) (hts (.fieldLink RX6 10 "NightWater" "zones" "LNightWater$Zones;") (List.mem_of_getElem? (i := 7) rfl)) (fun _ h9 => h9) rfl dX6_init_21 ?_
  refine nw_Iv (As := [.ref (z 0)]) (rest := [.ref q1, .ref b]) X (c_X4_init lc G q1 (z 0)) (cwI 1 hts gX6_init_X4_init rfl rfl rfl (hts (.initialized RX4) (List.mem_of_getElem? (i := 10) rfl)) (hts (.methodLink RX6 18 yX4_init) (List.mem_of_getElem? (i := 36) rfl)) (hts (.instanceMethod yX4_init) (List.mem_of_getElem? (i := 37) rfl)) rfl (by decide +kernel) ⟨(Nat.le_of_ble_eq_true rfl), (Nat.le_of_ble_eq_true rfl)⟩) (nwSp.suf (([(b, .inr (5, [.ref (z 0), .null, .null, .null, .null]))] ++ wZ G z 0 (fun _ => 0) (fun _ => 0) (fun _ _ => 0) 20 2)) [(q1, .inr (3, [.null, .null, .null, .int (0), .null, .null, .null, .null]))]) hP hD hS hA rfl hl.1 rfl (Nat.le_of_ble_eq_true rfl) dX6_init_24 ⟨(Nat.le_of_ble_eq_true rfl), (Nat.le_of_ble_eq_true rfl)⟩ (fun w H locs hp hP9 hD9 hS9 => ?_)
  obtain ⟨v, hv0, rfl⟩ := hp
  subst hv0
  have hP := hP9
  have hD := hD9
  have hS := hS9
  have hP := va_P.swap hP
  have hD := va_D.swap hD
  refine va_putF (D := G.1) (ci := 5) (v := .ref (v 0)) (ty := (.object "NightWater$Valves")) (C := RX6) (T := TX6) (N := 5) hx hb hts in_X6_init_X6 tyX6 tyX6_ok nmX6 hown hK.1 hP hD hS 0 rfl rfl 1 (by decide) (hts (.fieldLink RX6 21 "NightWater" "valves" "LNightWater$Valves;") (List.mem_of_getElem? (i := 11) rfl)) (fun _ h9 => h9) rfl X.2.2.2.1 rfl (by decide +kernel) rfl rfl (Nat.le_of_ble_eq_true rfl) dX6_init_27 (fun H locs hP hD hS => ?_)
  have hP : va_P G.1 vwCl ((([(b, .inr (5, [.ref (z 0), .ref (v 0), .null, .null, .null]))] ++ wV G v (z 0) 0 (fun _ => 0) (fun _ => 0) (fun _ => 0) (fun _ => 0) (fun _ => 0) (fun _ => 0)) ++ wZ G z 0 (fun _ => 0) (fun _ => 0) (fun _ _ => 0) 20 2)) H := hP
  have hD : va_D vA ((([(b, .inr (5, [.ref (z 0), .ref (v 0), .null, .null, .null]))] ++ wV G v (z 0) 0 (fun _ => 0) (fun _ => 0) (fun _ => 0) (fun _ => 0) (fun _ => 0) (fun _ => 0)) ++ wZ G z 0 (fun _ => 0) (fun _ => 0) (fun _ _ => 0) 20 2)) := hD
  refine lv_aload_n hx hb dX6_init_30 rfl (lv_at hl 0 rfl) ?_
  refine va_new (ci := 1) (fs := [.null]) (C := RX1) (T := TX1) (N := 1) hx hb hts in_X6_init_X1 tyX1 tyX1_ok hown (hts (.classLink RX6 25 RX1) (List.mem_of_getElem? (i := 12) rfl)) (hts (.instantiable RX1 1) (List.mem_of_getElem? (i := 13) rfl)) (hts (.initialized RX1) (List.mem_of_getElem? (i := 14) rfl)) hK.1 hP hD hS hA rfl (fun j hj => by
      match j, hj with
      | 0, _ => rfl
      | k + 1, h => exact absurd h (by omega)) (Nat.le_of_ble_eq_true rfl) (Nat.le_of_ble_eq_true rfl) dX6_init_31 (fun q2 H hP hD hS => ?_)
  refine lv_dup hx hb dX6_init_34 rfl ?_
  refine nw_INv (As := []) (rest := [.ref q2, .ref b]) X (c_X1_init lc G q2) ⟨va_cnB 0 hts ggX6_init_X1_init rfl rfl rfl (hK.nest 1 rfl) (hts (.initialized RX1) (List.mem_of_getElem? (i := 14) rfl)) (by decide +kernel) ⟨(Nat.le_of_ble_eq_true rfl), (Nat.le_of_ble_eq_true rfl)⟩, rfl, (hts (.instanceMethod yX1_init) (List.mem_of_getElem? (i := 49) rfl))⟩ (nwSp.suf ((([(b, .inr (5, [.ref (z 0), .ref (v 0), .null, .null, .null]))] ++ wV G v (z 0) 0 (fun _ => 0) (fun _ => 0) (fun _ => 0) (fun _ => 0) (fun _ => 0) (fun _ => 0)) ++ wZ G z 0 (fun _ => 0) (fun _ => 0) (fun _ _ => 0) 20 2)) [(q2, .inr (1, [.null]))]) hP hD hS hA rfl hl.1 rfl (Nat.le_of_ble_eq_true rfl) dX6_init_35 ⟨(Nat.le_of_ble_eq_true rfl), (Nat.le_of_ble_eq_true rfl)⟩ (fun w H locs hp hP9 hD9 hS9 => ?_)
  obtain ⟨li, hli0, rfl⟩ := hp
  subst hli0
  have hP := hP9
  have hD := hD9
  have hS := hS9
  refine va_putF (D := G.1) (ci := 5) (v := .ref (li 0)) (ty := (.object "NightWater$Listeners")) (C := RX6) (T := TX6) (N := 5) hx hb hts in_X6_init_X6 tyX6 tyX6_ok nmX6 hown hK.1 hP hD hS 0 rfl rfl 2 (by decide) (hts (.fieldLink RX6 28 "NightWater" "listeners" "LNightWater$Listeners;") (List.mem_of_getElem? (i := 15) rfl)) (fun _ h9 => h9) rfl X.2.2.2.1 rfl (by decide +kernel) rfl rfl (Nat.le_of_ble_eq_true rfl) dX6_init_38 (fun H locs hP hD hS => ?_)
  have hP : va_P G.1 vwCl (((([(b, .inr (5, [.ref (z 0), .ref (v 0), .ref (li 0), .null, .null]))] ++ wV G v (z 0) 0 (fun _ => 0) (fun _ => 0) (fun _ => 0) (fun _ => 0) (fun _ => 0) (fun _ => 0)) ++ wZ G z 0 (fun _ => 0) (fun _ => 0) (fun _ _ => 0) 20 2) ++ wL G li (fun _ _ => 0))) H := hP
  have hD : va_D vA (((([(b, .inr (5, [.ref (z 0), .ref (v 0), .ref (li 0), .null, .null]))] ++ wV G v (z 0) 0 (fun _ => 0) (fun _ => 0) (fun _ => 0) (fun _ => 0) (fun _ => 0) (fun _ => 0)) ++ wZ G z 0 (fun _ => 0) (fun _ => 0) (fun _ _ => 0) 20 2) ++ wL G li (fun _ _ => 0))) := hD
  refine lv_aload_n hx hb dX6_init_41 rfl (lv_at hl 0 rfl) ?_
  refine va_new (ci := 2) (fs := [.null, .int (0), .null, .null]) (C := RX3) (T := TX3) (N := 4) hx hb hts in_X6_init_X3 tyX3 tyX3_ok hown (hts (.classLink RX6 32 RX3) (List.mem_of_getElem? (i := 16) rfl)) (hts (.instantiable RX3 4) (List.mem_of_getElem? (i := 17) rfl)) (hts (.initialized RX3) (List.mem_of_getElem? (i := 18) rfl)) hK.1 hP hD hS hA rfl (fun j hj => by
      match j, hj with
      | 0, _ => rfl
      | 1, _ => rfl
      | 2, _ => rfl
      | 3, _ => rfl
      | k + 4, h => exact absurd h (by omega)) (Nat.le_of_ble_eq_true rfl) (Nat.le_of_ble_eq_true rfl) dX6_init_42 (fun q3 H hP hD hS => ?_)
  refine lv_dup hx hb dX6_init_45 rfl ?_
  refine nw_Iv (As := []) (rest := [.ref q3, .ref b]) X (c_X3_init lc G q3) (cwI 0 hts gX6_init_X3_init rfl rfl rfl (hts (.initialized RX3) (List.mem_of_getElem? (i := 18) rfl)) (hts (.methodLink RX6 34 yX3_init) (List.mem_of_getElem? (i := 54) rfl)) (hts (.instanceMethod yX3_init) (List.mem_of_getElem? (i := 55) rfl)) rfl (by decide +kernel) ⟨(Nat.le_of_ble_eq_true rfl), (Nat.le_of_ble_eq_true rfl)⟩) (nwSp.suf (((([(b, .inr (5, [.ref (z 0), .ref (v 0), .ref (li 0), .null, .null]))] ++ wV G v (z 0) 0 (fun _ => 0) (fun _ => 0) (fun _ => 0) (fun _ => 0) (fun _ => 0) (fun _ => 0)) ++ wZ G z 0 (fun _ => 0) (fun _ => 0) (fun _ _ => 0) 20 2) ++ wL G li (fun _ _ => 0))) [(q3, .inr (2, [.null, .int (0), .null, .null]))]) hP hD hS hA rfl hl.1 rfl (Nat.le_of_ble_eq_true rfl) dX6_init_46 ⟨(Nat.le_of_ble_eq_true rfl), (Nat.le_of_ble_eq_true rfl)⟩ (fun w H locs hp hP9 hD9 hS9 => ?_)
  obtain ⟨st, Mv, hst0, hMv, rfl⟩ := hp
  subst hst0
  have hP := hP9
  have hD := hD9
  have hS := hS9
  refine va_putF (D := G.1) (ci := 5) (v := .ref (st 0)) (ty := (.object "NightWater$Steps")) (C := RX6) (T := TX6) (N := 5) hx hb hts in_X6_init_X6 tyX6 tyX6_ok nmX6 hown hK.1 hP hD hS 0 rfl rfl 3 (by decide) (hts (.fieldLink RX6 35 "NightWater" "steps" "LNightWater$Steps;") (List.mem_of_getElem? (i := 19) rfl)) (fun _ h9 => h9) rfl X.2.2.2.1 rfl (by decide +kernel) rfl rfl (Nat.le_of_ble_eq_true rfl) dX6_init_49 (fun H locs hP hD hS => ?_)
  have hP : va_P G.1 vwCl ((((([(b, .inr (5, [.ref (z 0), .ref (v 0), .ref (li 0), .ref (st 0), .null]))] ++ wV G v (z 0) 0 (fun _ => 0) (fun _ => 0) (fun _ => 0) (fun _ => 0) (fun _ => 0) (fun _ => 0)) ++ wZ G z 0 (fun _ => 0) (fun _ => 0) (fun _ _ => 0) 20 2) ++ wL G li (fun _ _ => 0)) ++ wS G st 1 (fun _ => 0) Mv)) H := hP
  have hD : va_D vA ((((([(b, .inr (5, [.ref (z 0), .ref (v 0), .ref (li 0), .ref (st 0), .null]))] ++ wV G v (z 0) 0 (fun _ => 0) (fun _ => 0) (fun _ => 0) (fun _ => 0) (fun _ => 0) (fun _ => 0)) ++ wZ G z 0 (fun _ => 0) (fun _ => 0) (fun _ _ => 0) 20 2) ++ wL G li (fun _ _ => 0)) ++ wS G st 1 (fun _ => 0) Mv)) := hD
  refine lv_aload_n hx hb dX6_init_52 rfl (lv_at hl 0 rfl) ?_
  refine va_new (ci := 0) (fs := [.null, .null, .null, .int (0)]) (C := RX0) (T := TX0) (N := 4) hx hb hts in_X6_init_X0 tyX0 tyX0_ok hown (hts (.classLink RX6 39 RX0) (List.mem_of_getElem? (i := 20) rfl)) (hts (.instantiable RX0 4) (List.mem_of_getElem? (i := 21) rfl)) (hts (.initialized RX0) (List.mem_of_getElem? (i := 22) rfl)) hK.1 hP hD hS hA rfl (fun j hj => by
      match j, hj with
      | 0, _ => rfl
      | 1, _ => rfl
      | 2, _ => rfl
      | 3, _ => rfl
      | k + 4, h => exact absurd h (by omega)) (Nat.le_of_ble_eq_true rfl) (Nat.le_of_ble_eq_true rfl) dX6_init_53 (fun q4 H hP hD hS => ?_)
  refine lv_dup hx hb dX6_init_56 rfl ?_
  refine nw_INv (As := []) (rest := [.ref q4, .ref b]) X (c_X0_init lc G q4) ⟨va_cnB 0 hts ggX6_init_X0_init rfl rfl rfl (hK.nest 2 rfl) (hts (.initialized RX0) (List.mem_of_getElem? (i := 22) rfl)) (by decide +kernel) ⟨(Nat.le_of_ble_eq_true rfl), (Nat.le_of_ble_eq_true rfl)⟩, rfl, (hts (.instanceMethod yX0_init) (List.mem_of_getElem? (i := 75) rfl))⟩ (nwSp.suf ((((([(b, .inr (5, [.ref (z 0), .ref (v 0), .ref (li 0), .ref (st 0), .null]))] ++ wV G v (z 0) 0 (fun _ => 0) (fun _ => 0) (fun _ => 0) (fun _ => 0) (fun _ => 0) (fun _ => 0)) ++ wZ G z 0 (fun _ => 0) (fun _ => 0) (fun _ _ => 0) 20 2) ++ wL G li (fun _ _ => 0)) ++ wS G st 1 (fun _ => 0) Mv)) [(q4, .inr (0, [.null, .null, .null, .int (0)]))]) hP hD hS hA rfl hl.1 rfl (Nat.le_of_ble_eq_true rfl) dX6_init_57 ⟨(Nat.le_of_ble_eq_true rfl), (Nat.le_of_ble_eq_true rfl)⟩ (fun w H locs hp hP9 hD9 hS9 => ?_)
  obtain ⟨d, hd0, rfl⟩ := hp
  subst hd0
  have hP := hP9
  have hD := hD9
  have hS := hS9
  refine va_putF (D := G.1) (ci := 5) (v := .ref (d 0)) (ty := (.object "NightWater$Digs")) (C := RX6) (T := TX6) (N := 5) hx hb hts in_X6_init_X6 tyX6 tyX6_ok nmX6 hown hK.1 hP hD hS 0 rfl rfl 4 (by decide) (hts (.fieldLink RX6 42 "NightWater" "digs" "LNightWater$Digs;") (List.mem_of_getElem? (i := 23) rfl)) (fun _ h9 => h9) rfl X.2.2.2.1 rfl (by decide +kernel) rfl rfl (Nat.le_of_ble_eq_true rfl) dX6_init_60 (fun H locs hP hD hS => ?_)
  have hP : va_P G.1 vwCl (((((([(b, .inr (5, [.ref (z 0), .ref (v 0), .ref (li 0), .ref (st 0), .ref (d 0)]))] ++ wV G v (z 0) 0 (fun _ => 0) (fun _ => 0) (fun _ => 0) (fun _ => 0) (fun _ => 0) (fun _ => 0)) ++ wZ G z 0 (fun _ => 0) (fun _ => 0) (fun _ _ => 0) 20 2) ++ wL G li (fun _ _ => 0)) ++ wS G st 1 (fun _ => 0) Mv) ++ wD G d 0 (fun _ => 0) (fun _ => 0) (fun _ => 0))) H := hP
  have hD : va_D vA (((((([(b, .inr (5, [.ref (z 0), .ref (v 0), .ref (li 0), .ref (st 0), .ref (d 0)]))] ++ wV G v (z 0) 0 (fun _ => 0) (fun _ => 0) (fun _ => 0) (fun _ => 0) (fun _ => 0) (fun _ => 0)) ++ wZ G z 0 (fun _ => 0) (fun _ => 0) (fun _ _ => 0) 20 2) ++ wL G li (fun _ _ => 0)) ++ wS G st 1 (fun _ => 0) Mv) ++ wD G d 0 (fun _ => 0) (fun _ => 0) (fun _ => 0))) := hD
  exact nw_vret (rm := ({ frames := 4, cells := 64, slots := 974, locals := 91 } : Room)) X hP hD hS ⟨z, v, li, st, d, Mv, hMv, by simp only [List.append_assoc]; rfl⟩ dX6_init_63
