/-! printed by wip/gen/x0.py: contracts, walked row by row -/
theorem in_X0_add_X0 : ∀ w ∈ wsX00, w ∈ wsX0_add := by decide +kernel
theorem in_X0_goesAhead_X0 : ∀ w ∈ wsX00, w ∈ wsX0_goesAhead := by decide +kernel
theorem in_X0_inOrder_X0 : ∀ w ∈ wsX00, w ∈ wsX0_inOrder := by decide +kernel
theorem in_X0_lostInOrder_X0 : ∀ w ∈ wsX00, w ∈ wsX0_lostInOrder := by decide +kernel
theorem in_X0_mixInto_X0 : ∀ w ∈ wsX00, w ∈ wsX0_mixInto := by decide +kernel
theorem in_X0_number_X0 : ∀ w ∈ wsX00, w ∈ wsX0_number := by decide +kernel
theorem in_X0_rankNext_X0 : ∀ w ∈ wsX00, w ∈ wsX0_rankNext := by decide +kernel
theorem in_X0_removeAll_X0 : ∀ w ∈ wsX00, w ∈ wsX0_removeAll := by decide +kernel
set_option maxHeartbeats 4000000 in
set_option maxRecDepth 100000 in
theorem c_X0_number (lc : Launch) (G : nwG) (a : Nat → Nat) (nd : Nat) (lo ho : Nat → Int32) (rk : Nat → Nat)   : nwCi lc G yX0_number wsX0_number ({ frames := 0, cells := 0, slots := 0, locals := 0 } : Room) [.ref (a 0)] ((wD G (a) (nd) (lo) (ho) (rk))) (fun r w => r = nI nd ∧ w = wD G a nd lo ho rk) := by
  refine nw_of (cc := cX0_number) (maxL := 1) (ret := (some .int)) (by decide) rfl (Nat.le_of_ble_eq_true rfl) ?_
  intro vp ve vs vm vb vt vc vA ls X hP hD hA hS hl
  have X : nwAt vp vm vc cX0_number 1 vs _ wsX0_number RX0 vt (some .int) "number" G := X
  have hx := X.1.1
  have hb := X.1.2.1
  have hown := X.1.2.2.2.1
  have hts := X.1.2.2.2.2
  have hK := X.2.2.2.2
  have hl : lv_has ls 1 [(0, .ref (a 0))] := hl
  refine lv_aload_n hx hb dX0_number_0 rfl (lv_at hl 0 rfl) ?_
  refine va_get (D := G.1) (ci := 0) (v := .int (nI (nd))) (C := RX0) (T := TX0) (N := 4) hx hb hts in_X0_number_X0 hown hK.1 hP 0 rfl rfl 3 (by decide) (hts (.fieldLink RX0 21 "NightWater$Digs" "size" "I") (List.mem_of_getElem? (i := 1) rfl)) (fun _ h9 => h9) rfl dX0_number_1 ?_
  exact nw_iret (rm := ({ frames := 0, cells := 0, slots := 0, locals := 0 } : Room)) X hP hD hS (⟨rfl, rfl⟩) dX0_number_4
set_option maxHeartbeats 4000000 in
set_option maxRecDepth 100000 in
theorem c_X0_goesAhead (lc : Launch) (G : nwG) (a : Nat → Nat) (nd : Nat) (lo ho : Nat → Int32) (rk : Nat → Nat) (i j : Nat) (hi : i < 8) (hj : j < 8) : nwCi lc G yX0_goesAhead wsX0_goesAhead ({ frames := 0, cells := 0, slots := 0, locals := 0 } : Room) [.ref (a 0), .int (nI (i)), .int (nI (j))] ((wD G (a) (nd) (lo) (ho) (rk))) (fun r w => ((r = 1 ∧ dahead lo ho i j) ∨ (r = 0 ∧ ¬ dahead lo ho i j)) ∧ w = wD G a nd lo ho rk) := by
  refine nw_of (cc := cX0_goesAhead) (maxL := 3) (ret := (some .boolean)) (by decide) rfl (Nat.le_of_ble_eq_true rfl) ?_
  intro vp ve vs vm vb vt vc vA ls X hP hD hA hS hl
  have X : nwAt vp vm vc cX0_goesAhead 3 vs _ wsX0_goesAhead RX0 vt (some .boolean) "goesAhead" G := X
  have hx := X.1.1
  have hb := X.1.2.1
  have hown := X.1.2.2.2.1
  have hts := X.1.2.2.2.2
  have hK := X.2.2.2.2
  have hl : lv_has ls 3 [(0, .ref (a 0)), (1, .int (nI (i))), (2, .int (nI (j)))] := hl
  refine lv_aload_n hx hb dX0_goesAhead_0 rfl (lv_at hl 0 rfl) ?_
  refine va_get (D := G.1) (ci := 0) (v := .ref (a 1)) (C := RX0) (T := TX0) (N := 4) hx hb hts in_X0_goesAhead_X0 hown hK.1 hP 0 rfl rfl 0 (by decide) (hts (.fieldLink RX0 11 "NightWater$Digs" "losses" "[I") (List.mem_of_getElem? (i := 1) rfl)) (fun _ h9 => h9) rfl dX0_goesAhead_1 ?_
  refine lv_iload_n hx hb dX0_goesAhead_4 rfl (lv_at hl 1 rfl) ?_
  refine nw_iald X hP 1 (n := 8) (f := (lo)) rfl (i) rfl (by omega) (by decide) dX0_goesAhead_5 ?_
  refine lv_aload_n hx hb dX0_goesAhead_6 rfl (lv_at hl 0 rfl) ?_
  refine va_get (D := G.1) (ci := 0) (v := .ref (a 2)) (C := RX0) (T := TX0) (N := 4) hx hb hts in_X0_goesAhead_X0 hown hK.1 hP 0 rfl rfl 1 (by decide) (hts (.fieldLink RX0 15 "NightWater$Digs" "durations" "[I") (List.mem_of_getElem? (i := 2) rfl)) (fun _ h9 => h9) rfl dX0_goesAhead_7 ?_
  refine lv_iload_n hx hb dX0_goesAhead_10 rfl (lv_at hl 2 rfl) ?_
  refine nw_iald X hP 2 (n := 8) (f := (ho)) rfl (j) rfl (by omega) (by decide) dX0_goesAhead_11 ?_
  refine lv_imul hx hb dX0_goesAhead_12 ?_
  refine lv_aload_n hx hb dX0_goesAhead_13 rfl (lv_at hl 0 rfl) ?_
  refine va_get (D := G.1) (ci := 0) (v := .ref (a 1)) (C := RX0) (T := TX0) (N := 4) hx hb hts in_X0_goesAhead_X0 hown hK.1 hP 0 rfl rfl 0 (by decide) (hts (.fieldLink RX0 11 "NightWater$Digs" "losses" "[I") (List.mem_of_getElem? (i := 1) rfl)) (fun _ h9 => h9) rfl dX0_goesAhead_14 ?_
  refine lv_iload_n hx hb dX0_goesAhead_17 rfl (lv_at hl 2 rfl) ?_
  refine nw_iald X hP 1 (n := 8) (f := (lo)) rfl (j) rfl (by omega) (by decide) dX0_goesAhead_18 ?_
  refine lv_aload_n hx hb dX0_goesAhead_19 rfl (lv_at hl 0 rfl) ?_
  refine va_get (D := G.1) (ci := 0) (v := .ref (a 2)) (C := RX0) (T := TX0) (N := 4) hx hb hts in_X0_goesAhead_X0 hown hK.1 hP 0 rfl rfl 1 (by decide) (hts (.fieldLink RX0 15 "NightWater$Digs" "durations" "[I") (List.mem_of_getElem? (i := 2) rfl)) (fun _ h9 => h9) rfl dX0_goesAhead_20 ?_
  refine lv_iload_n hx hb dX0_goesAhead_23 rfl (lv_at hl 1 rfl) ?_
  refine nw_iald X hP 2 (n := 8) (f := (ho)) rfl (i) rfl (by omega) (by decide) dX0_goesAhead_24 ?_
  refine lv_imul hx hb dX0_goesAhead_25 ?_
  refine lv_icmp_le (tgt := 33) hx hb dX0_goesAhead_26 (by decide) (fun b26_1 => ?_) (fun b26_1 => ?_)
  · skip
    have b26_1 : ((lo (i)) * (ho (j))) ≤ ((lo (j)) * (ho (i))) := b26_1
    have b26_1n : ¬ (((lo (j)) * (ho (i))) < ((lo (i)) * (ho (j)))) := Int32.not_lt.mpr b26_1
    refine lv_iconst (v := (0)) hx hb dX0_goesAhead_33 (by decide) ?_
    exact nw_zret (rm := ({ frames := 0, cells := 0, slots := 0, locals := 0 } : Room)) X (by decide) hP hD hS (⟨Or.inr ⟨rfl, Int32.not_lt.mpr b26_1⟩, rfl⟩) dX0_goesAhead_34
  · skip
    have b26_1 : ¬ (((lo (i)) * (ho (j))) ≤ ((lo (j)) * (ho (i)))) := b26_1
    have b26_1n : ((lo (j)) * (ho (i))) < ((lo (i)) * (ho (j))) := Int32.not_le.mp b26_1
    refine lv_iconst (v := (1)) hx hb dX0_goesAhead_29 (by decide) ?_
    refine lv_goto (tgt := 34) hx hb dX0_goesAhead_30 (by decide) ?_
    exact nw_zret (rm := ({ frames := 0, cells := 0, slots := 0, locals := 0 } : Room)) X (by decide) hP hD hS (⟨Or.inl ⟨rfl, Int32.not_le.mp b26_1⟩, rfl⟩) dX0_goesAhead_34
set_option maxHeartbeats 4000000 in
set_option maxRecDepth 100000 in
theorem c_X0_rankNext (lc : Launch) (G : nwG) (a : Nat → Nat) (nd : Nat) (lo ho : Nat → Int32) (rk : Nat → Nat) (d : Nat) (hd8 : d < 8) (hrk : ∀ j, rk j < 8) : nwCv lc G yX0_rankNext wsX0_rankNext ({ frames := 1, cells := 0, slots := 0, locals := 22 } : Room) [.ref (a 0), .int (nI (d))] ((wD G (a) (nd) (lo) (ho) (rk))) (fun w => w = wD G a nd lo ho (insF lo ho d d rk)) := by
  refine nw_of (cc := cX0_rankNext) (maxL := 3) (ret := none) (by decide) rfl (Nat.le_of_ble_eq_true rfl) ?_
  intro vp ve vs vm vb vt vc vA ls X hP hD hA hS hl
  have X : nwAt vp vm vc cX0_rankNext 3 vs _ wsX0_rankNext RX0 vt none "rankNext" G := X
  have hx := X.1.1
  have hb := X.1.2.1
  have hown := X.1.2.2.2.1
  have hts := X.1.2.2.2.2
  have hK := X.2.2.2.2
  have hl : lv_has ls 3 [(0, .ref (a 0)), (1, .int (nI (d)))] := hl
  refine lv_iload_n hx hb dX0_rankNext_0 rfl (lv_at hl 1 rfl) ?_
  refine lv_istore_n (lv' := [(2, .int (nI (d))), (0, .ref (a 0)), (1, .int (nI (d)))]) hx hb dX0_rankNext_1 rfl hl (by decide) rfl (fun ls hl => ?_)
  have K2 : ∀ (fuel : Nat) (q : Nat) (rv : Nat → Nat) (H : Heap) (locs : List Loc) (ls : Array Slot), (q) < fuel → (q ≤ d) → (∀ j, rv j < 8) → (insF lo ho d q rv = insF lo ho d d rk) → lv_has ls 3 [(2, .int (nI (q))), (0, .ref (a 0)), (1, .int (nI (d)))] → va_P G.1 vwCl ((wD G (a) (nd) (lo) (ho) (rv))) H → va_D vA ((wD G (a) (nd) (lo) (ho) (rv))) → va_S vA vs.heap H locs → W vp lc ve ({ frames := 1, cells := 0, slots := 0, locals := 22 } : Room) vs vm ([.ref (a 0), .int (nI (d))] : List Value).toArray vb vt vc H locs 0 0 (MQ vb (nwQv G (fun w => w = wD G a nd lo ho (insF lo ho d d rk)) vA) ([.ref (a 0), .int (nI (d))] : List Value).toArray vs ({ frames := 1, cells := 0, slots := 0, locals := 22 } : Room).cells ({ frames := 1, cells := 0, slots := 0, locals := 22 } : Room).slots vA) (F0 vm 2 ls []) := by
    intro fuel
    induction fuel with
    | zero => intro q rv H locs ls hmu; exact absurd hmu (Nat.not_lt_zero _)
    | succ fuel ih2 =>
      intro q rv H locs ls hmu hq hv er hl hP hD hS
      refine lv_iload_n hx hb dX0_rankNext_2 rfl (lv_at hl 0 rfl) ?_
      refine lv_if_le (tgt := 42) hx hb dX0_rankNext_3 (by decide) (fun b3_1 => ?_) (fun b3_1 => ?_)
      · skip
        have b3_1 : (q) ≤ (0) := (nI_leI (a := q) (b := 0) (by omega) (by omega)).mp b3_1
        have b3_1n : ¬ ((0) < (q)) := by omega
        refine lv_aload_n hx hb dX0_rankNext_42 rfl (lv_at hl 1 rfl) ?_
        refine va_get (D := G.1) (ci := 0) (v := .ref (a 3)) (C := RX0) (T := TX0) (N := 4) hx hb hts in_X0_rankNext_X0 hown hK.1 hP 0 rfl rfl 2 (by decide) (hts (.fieldLink RX0 18 "NightWater$Digs" "ranked" "[I") (List.mem_of_getElem? (i := 1) rfl)) (fun _ h9 => h9) rfl dX0_rankNext_43 ?_
        refine lv_iload_n hx hb dX0_rankNext_46 rfl (lv_at hl 0 rfl) ?_
        refine lv_iload_n hx hb dX0_rankNext_47 rfl (lv_at hl 2 rfl) ?_
        refine nw_iastN X hP hD hS 3 (n := 8) (f := rv) rfl (q) (d) rfl rfl (by omega) (by decide) dX0_rankNext_48 (fun H locs hP hD hS => ?_)
        have hP : va_P G.1 vwCl ((wD G (a) (nd) (lo) (ho) (va_up (rv) (q) (d)))) H := hP
        have hD : va_D vA ((wD G (a) (nd) (lo) (ho) (va_up (rv) (q) (d)))) := hD
        exact nw_vret (rm := ({ frames := 1, cells := 0, slots := 0, locals := 22 } : Room)) X hP hD hS (by rw [← er]; first | rw [insF_0 (by omega)] | rw [insF_no (by omega) hah]) dX0_rankNext_49
      · skip
        have b3_1 : ¬ ((q) ≤ (0)) := fun h => b3_1 ((nI_leI (a := q) (b := 0) (by omega) (by omega)).mpr h)
        have b3_1n : (0) < (q) := by omega
        have hv1 := hv (q - 1)
        refine lv_aload_n hx hb dX0_rankNext_6 rfl (lv_at hl 1 rfl) ?_
        refine lv_iload_n hx hb dX0_rankNext_7 rfl (lv_at hl 2 rfl) ?_
        refine lv_aload_n hx hb dX0_rankNext_8 rfl (lv_at hl 1 rfl) ?_
        refine va_get (D := G.1) (ci := 0) (v := .ref (a 3)) (C := RX0) (T := TX0) (N := 4) hx hb hts in_X0_rankNext_X0 hown hK.1 hP 0 rfl rfl 2 (by decide) (hts (.fieldLink RX0 18 "NightWater$Digs" "ranked" "[I") (List.mem_of_getElem? (i := 1) rfl)) (fun _ h9 => h9) rfl dX0_rankNext_9 ?_
        refine lv_iload_n hx hb dX0_rankNext_12 rfl (lv_at hl 0 rfl) ?_
        refine lv_iconst (v := (1)) hx hb dX0_rankNext_13 (by decide) ?_
        refine lv_isub hx hb dX0_rankNext_14 ?_
        refine nw_top (y := nI (q - 1)) (pk_sub (a := q) (b := 1) (by omega)) ?_
        refine nw_iald X hP 3 (n := 8) (f := (fun j => nI (rv j))) rfl (q - 1) rfl (by omega) (by decide) dX0_rankNext_15 ?_
        refine nw_st (st' := [.int (nI (rv (q - 1))), .int (nI (d)), .ref (a 0)]) (by rfl) ?_
        refine nw_Vi (As := [.int (nI (d)), .int (nI (rv (q - 1)))]) (rest := []) (q0 := 0) X (c_X0_goesAhead lc G (a) (nd) (lo) (ho) (rv) (d) (rv (q - 1)) (by first | assumption | omega) (by first | assumption | omega)) (cwV 2 hts gX0_rankNext_X0_goesAhead rfl rfl rfl (by decide +kernel) ⟨Nat.le_of_ble_eq_true rfl, Nat.le_of_ble_eq_true rfl⟩) rfl (show vwCl[0]? = some (RX0, TX0, 4) from rfl) (nwSp.all ((wD G (a) (nd) (lo) (ho) (rv)))) hP hD hS hA rfl hl.1 rfl (Nat.le_of_ble_eq_true rfl) dX0_rankNext_16 ⟨Nat.le_of_ble_eq_true rfl, Nat.le_of_ble_eq_true rfl⟩ (fun r w H locs hp_2 hP hD hS => ?_)
        obtain ⟨⟨rfl, q_3⟩ | ⟨rfl, q_3⟩, rfl⟩ := hp_2
        · skip
          have hP : va_P G.1 vwCl ((wD G (a) (nd) (lo) (ho) (rv))) H := hP
          have hD : va_D vA ((wD G (a) (nd) (lo) (ho) (rv))) := hD
          have q_3 : dahead (lo) (ho) (d) (rv (q - 1)) := q_3
          have hah := q_3
          refine lv_if_eq (tgt := 42) hx hb dX0_rankNext_19 (by decide) (fun c9 => absurd c9 (by decide)) (fun _ => ?_)
          refine lv_aload_n hx hb dX0_rankNext_22 rfl (lv_at hl 1 rfl) ?_
          refine va_get (D := G.1) (ci := 0) (v := .ref (a 3)) (C := RX0) (T := TX0) (N := 4) hx hb hts in_X0_rankNext_X0 hown hK.1 hP 0 rfl rfl 2 (by decide) (hts (.fieldLink RX0 18 "NightWater$Digs" "ranked" "[I") (List.mem_of_getElem? (i := 1) rfl)) (fun _ h9 => h9) rfl dX0_rankNext_23 ?_
          refine lv_iload_n hx hb dX0_rankNext_26 rfl (lv_at hl 0 rfl) ?_
          refine lv_aload_n hx hb dX0_rankNext_27 rfl (lv_at hl 1 rfl) ?_
          refine va_get (D := G.1) (ci := 0) (v := .ref (a 3)) (C := RX0) (T := TX0) (N := 4) hx hb hts in_X0_rankNext_X0 hown hK.1 hP 0 rfl rfl 2 (by decide) (hts (.fieldLink RX0 18 "NightWater$Digs" "ranked" "[I") (List.mem_of_getElem? (i := 1) rfl)) (fun _ h9 => h9) rfl dX0_rankNext_28 ?_
          refine lv_iload_n hx hb dX0_rankNext_31 rfl (lv_at hl 0 rfl) ?_
          refine lv_iconst (v := (1)) hx hb dX0_rankNext_32 (by decide) ?_
          refine lv_isub hx hb dX0_rankNext_33 ?_
          refine nw_top (y := nI (q - 1)) (pk_sub (a := q) (b := 1) (by omega)) ?_
          refine nw_iald X hP 3 (n := 8) (f := (fun j => nI (rv j))) rfl (q - 1) rfl (by omega) (by decide) dX0_rankNext_34 ?_
          refine nw_iastN X hP hD hS 3 (n := 8) (f := rv) rfl (q) (rv (q - 1)) rfl rfl (by omega) (by decide) dX0_rankNext_35 (fun H locs hP hD hS => ?_)
          have hP : va_P G.1 vwCl ((wD G (a) (nd) (lo) (ho) (va_up (rv) (q) (rv (q - 1))))) H := hP
          have hD : va_D vA ((wD G (a) (nd) (lo) (ho) (va_up (rv) (q) (rv (q - 1))))) := hD
          refine lv_iinc (v := (nI (q - 1))) (lv' := [(2, .int (nI (q - 1))), (0, .ref (a 0)), (1, .int (nI (d)))]) hx hb dX0_rankNext_36 hl (k := 0) rfl (by exact nw_dec (by omega)) (by decide) rfl (fun ls hl => ?_)
          refine lv_goto (tgt := 2) hx hb dX0_rankNext_39 (by decide) ?_
          exact ih2 (q - 1) (va_up (rv) (q) (rv (q - 1))) _ _ _ (by omega) (by omega) (by exact va_up_lt hv (hv _)) (by rw [← insF_go (by omega) hah]; exact er) (lv_sub hl [0, 1, 2] rfl) hP hD hS
        · skip
          have hP : va_P G.1 vwCl ((wD G (a) (nd) (lo) (ho) (rv))) H := hP
          have hD : va_D vA ((wD G (a) (nd) (lo) (ho) (rv))) := hD
          have q_3 : ¬ dahead (lo) (ho) (d) (rv (q - 1)) := q_3
          have hah := q_3
          refine lv_if_eq (tgt := 42) hx hb dX0_rankNext_19 (by decide) (fun _ => ?_) (fun c9 => absurd (by decide) c9)
          refine lv_aload_n hx hb dX0_rankNext_42 rfl (lv_at hl 1 rfl) ?_
          refine va_get (D := G.1) (ci := 0) (v := .ref (a 3)) (C := RX0) (T := TX0) (N := 4) hx hb hts in_X0_rankNext_X0 hown hK.1 hP 0 rfl rfl 2 (by decide) (hts (.fieldLink RX0 18 "NightWater$Digs" "ranked" "[I") (List.mem_of_getElem? (i := 1) rfl)) (fun _ h9 => h9) rfl dX0_rankNext_43 ?_
          refine lv_iload_n hx hb dX0_rankNext_46 rfl (lv_at hl 0 rfl) ?_
          refine lv_iload_n hx hb dX0_rankNext_47 rfl (lv_at hl 2 rfl) ?_
          refine nw_iastN X hP hD hS 3 (n := 8) (f := rv) rfl (q) (d) rfl rfl (by omega) (by decide) dX0_rankNext_48 (fun H locs hP hD hS => ?_)
          have hP : va_P G.1 vwCl ((wD G (a) (nd) (lo) (ho) (va_up (rv) (q) (d)))) H := hP
          have hD : va_D vA ((wD G (a) (nd) (lo) (ho) (va_up (rv) (q) (d)))) := hD
          exact nw_vret (rm := ({ frames := 1, cells := 0, slots := 0, locals := 22 } : Room)) X hP hD hS (by rw [← er]; first | rw [insF_0 (by omega)] | rw [insF_no (by omega) hah]) dX0_rankNext_49
  exact K2 (((d)) + 1) (d) (rk) _ _ _ (Nat.lt_succ_self _) (by omega) (by exact hrk) (by rfl) (lv_sub hl [0, 1, 2] rfl) hP hD hS
set_option maxHeartbeats 4000000 in
set_option maxRecDepth 100000 in
theorem c_X0_add (lc : Launch) (G : nwG) (a : Nat → Nat) (nd : Nat) (lo ho : Nat → Int32) (rk : Nat → Nat) (x y : Int32) (hnd : nd ≤ 8) (hrk : ∀ j, rk j < 8) : nwCi lc G yX0_add wsX0_add ({ frames := 2, cells := 0, slots := 0, locals := 44 } : Room) [.ref (a 0), .int (x), .int (y)] ((wD G (a) (nd) (lo) (ho) (rk))) (fun r w => r = digF nd x y ∧ w = wD G a (nwIf (digOk nd x y) (nd + 1) nd) (nwIf (digOk nd x y) (va_up lo nd x) lo) (nwIf (digOk nd x y) (va_up ho nd y) ho) (nwIf (digOk nd x y) (insF (va_up lo nd x) (va_up ho nd y) nd nd rk) rk)) := by
  refine nw_of (cc := cX0_add) (maxL := 3) (ret := (some .int)) (by decide) rfl (Nat.le_of_ble_eq_true rfl) ?_
  intro vp ve vs vm vb vt vc vA ls X hP hD hA hS hl
  have X : nwAt vp vm vc cX0_add 3 vs _ wsX0_add RX0 vt (some .int) "add" G := X
  have hx := X.1.1
  have hb := X.1.2.1
  have hown := X.1.2.2.2.1
  have hts := X.1.2.2.2.2
  have hK := X.2.2.2.2
  have hl : lv_has ls 3 [(0, .ref (a 0)), (1, .int (x)), (2, .int (y))] := hl
  refine lv_iload_n hx hb dX0_add_0 rfl (lv_at hl 1 rfl) ?_
  refine lv_iconst (v := (0)) hx hb dX0_add_1 (by decide) ?_
  refine lv_sipush (v := (1000)) hx hb dX0_add_2 (by decide) ?_
  refine nw_Ni (As := [.int (x), .int (0), .int (1000)]) (rest := []) X (c_X6_outside lc G ((x)) ((0 : Int32)) ((1000 : Int32)) ) (va_cnB 3 hts ggX0_add_X6_outside rfl rfl rfl (hK.nest 7 rfl) (hts (.initialized RX6) (List.mem_of_getElem? (i := 5) rfl)) (by decide +kernel) ⟨Nat.le_of_ble_eq_true rfl, Nat.le_of_ble_eq_true rfl⟩) (hts (.static yX6_outside) (List.mem_of_getElem? (i := 4) rfl)) (fun _ _ h => h.2) hP hD hS hA rfl hl.1 rfl (Nat.le_of_ble_eq_true rfl) dX0_add_5 ⟨Nat.le_of_ble_eq_true rfl, Nat.le_of_ble_eq_true rfl⟩ (fun r H locs hp_1 hP hD hS => ?_)
  obtain ⟨⟨rfl, q_2⟩ | ⟨rfl, q_2⟩, -⟩ := hp_1
  · skip
    have q_2 : out ((x)) ((0 : Int32)) ((1000 : Int32)) := q_2
    refine lv_if_ne (tgt := 21) hx hb dX0_add_8 (by decide) (fun _ => ?_) (fun c9 => absurd c9 (by decide))
    refine lv_bipush (v := (-2)) hx hb dX0_add_21 (by decide) ?_
    exact nw_iret (rm := ({ frames := 2, cells := 0, slots := 0, locals := 44 } : Room)) X hP hD hS (by simp only [digF, digOk, nwIf_T, nwIf_F, or_true, true_or, or_false, false_or, and_true, true_and, and_false, false_and, not_true_eq_false, not_false_eq_true, Nat.add_sub_cancel, q_2]) dX0_add_23
  · skip
    have q_2 : ¬ out ((x)) ((0 : Int32)) ((1000 : Int32)) := q_2
    refine lv_if_ne (tgt := 21) hx hb dX0_add_8 (by decide) (fun c9 => absurd c9 (by decide)) (fun _ => ?_)
    refine lv_iload_n hx hb dX0_add_11 rfl (lv_at hl 2 rfl) ?_
    refine lv_iconst (v := (1)) hx hb dX0_add_12 (by decide) ?_
    refine lv_bipush (v := (100)) hx hb dX0_add_13 (by decide) ?_
    refine nw_Ni (As := [.int (y), .int (1), .int (100)]) (rest := []) X (c_X6_outside lc G ((y)) ((1 : Int32)) ((100 : Int32)) ) (va_cnB 3 hts ggX0_add_X6_outside rfl rfl rfl (hK.nest 7 rfl) (hts (.initialized RX6) (List.mem_of_getElem? (i := 5) rfl)) (by decide +kernel) ⟨Nat.le_of_ble_eq_true rfl, Nat.le_of_ble_eq_true rfl⟩) (hts (.static yX6_outside) (List.mem_of_getElem? (i := 4) rfl)) (fun _ _ h => h.2) hP hD hS hA rfl hl.1 rfl (Nat.le_of_ble_eq_true rfl) dX0_add_15 ⟨Nat.le_of_ble_eq_true rfl, Nat.le_of_ble_eq_true rfl⟩ (fun r H locs hp_5 hP hD hS => ?_)
    obtain ⟨⟨rfl, q_6⟩ | ⟨rfl, q_6⟩, -⟩ := hp_5
    · skip
      have q_6 : out ((y)) ((1 : Int32)) ((100 : Int32)) := q_6
      refine lv_if_eq (tgt := 24) hx hb dX0_add_18 (by decide) (fun c9 => absurd c9 (by decide)) (fun _ => ?_)
      refine lv_bipush (v := (-2)) hx hb dX0_add_21 (by decide) ?_
      exact nw_iret (rm := ({ frames := 2, cells := 0, slots := 0, locals := 44 } : Room)) X hP hD hS (by simp only [digF, digOk, nwIf_T, nwIf_F, or_true, true_or, or_false, false_or, and_true, true_and, and_false, false_and, not_true_eq_false, not_false_eq_true, Nat.add_sub_cancel, q_2, q_6]) dX0_add_23
    · skip
      have q_6 : ¬ out ((y)) ((1 : Int32)) ((100 : Int32)) := q_6
      refine lv_if_eq (tgt := 24) hx hb dX0_add_18 (by decide) (fun _ => ?_) (fun c9 => absurd (by decide) c9)
      refine lv_aload_n hx hb dX0_add_24 rfl (lv_at hl 0 rfl) ?_
      refine va_get (D := G.1) (ci := 0) (v := .int (nI (nd))) (C := RX0) (T := TX0) (N := 4) hx hb hts in_X0_add_X0 hown hK.1 hP 0 rfl rfl 3 (by decide) (hts (.fieldLink RX0 21 "NightWater$Digs" "size" "I") (List.mem_of_getElem? (i := 1) rfl)) (fun _ h9 => h9) rfl dX0_add_25 ?_
      refine lv_bipush (v := (8)) hx hb dX0_add_28 (by decide) ?_
      refine lv_icmp_lt (tgt := 36) hx hb dX0_add_30 (by decide) (fun b30_9 => ?_) (fun b30_9 => ?_)
      · skip
        have b30_9 : (nd) < (8) := (nI_ltI (a := nd) (b := 8) (by omega) (by omega)).mp b30_9
        have b30_9n : ¬ ((8) ≤ (nd)) := by omega
        refine lv_aload_n hx hb dX0_add_36 rfl (lv_at hl 0 rfl) ?_
        refine va_get (D := G.1) (ci := 0) (v := .ref (a 1)) (C := RX0) (T := TX0) (N := 4) hx hb hts in_X0_add_X0 hown hK.1 hP 0 rfl rfl 0 (by decide) (hts (.fieldLink RX0 11 "NightWater$Digs" "losses" "[I") (List.mem_of_getElem? (i := 2) rfl)) (fun _ h9 => h9) rfl dX0_add_37 ?_
        refine lv_aload_n hx hb dX0_add_40 rfl (lv_at hl 0 rfl) ?_
        refine va_get (D := G.1) (ci := 0) (v := .int (nI (nd))) (C := RX0) (T := TX0) (N := 4) hx hb hts in_X0_add_X0 hown hK.1 hP 0 rfl rfl 3 (by decide) (hts (.fieldLink RX0 21 "NightWater$Digs" "size" "I") (List.mem_of_getElem? (i := 1) rfl)) (fun _ h9 => h9) rfl dX0_add_41 ?_
        refine lv_iload_n hx hb dX0_add_44 rfl (lv_at hl 1 rfl) ?_
        refine nw_iast X hP hD hS 1 (n := 8) (f := lo) rfl (nd) rfl (by omega) (by decide) dX0_add_45 (fun H locs hP hD hS => ?_)
        have hP : va_P G.1 vwCl ((wD G (a) (nd) (va_up (lo) (nd) (x)) (ho) (rk))) H := hP
        have hD : va_D vA ((wD G (a) (nd) (va_up (lo) (nd) (x)) (ho) (rk))) := hD
        refine lv_aload_n hx hb dX0_add_46 rfl (lv_at hl 0 rfl) ?_
        refine va_get (D := G.1) (ci := 0) (v := .ref (a 2)) (C := RX0) (T := TX0) (N := 4) hx hb hts in_X0_add_X0 hown hK.1 hP 0 rfl rfl 1 (by decide) (hts (.fieldLink RX0 15 "NightWater$Digs" "durations" "[I") (List.mem_of_getElem? (i := 3) rfl)) (fun _ h9 => h9) rfl dX0_add_47 ?_
        refine lv_aload_n hx hb dX0_add_50 rfl (lv_at hl 0 rfl) ?_
        refine va_get (D := G.1) (ci := 0) (v := .int (nI (nd))) (C := RX0) (T := TX0) (N := 4) hx hb hts in_X0_add_X0 hown hK.1 hP 0 rfl rfl 3 (by decide) (hts (.fieldLink RX0 21 "NightWater$Digs" "size" "I") (List.mem_of_getElem? (i := 1) rfl)) (fun _ h9 => h9) rfl dX0_add_51 ?_
        refine lv_iload_n hx hb dX0_add_54 rfl (lv_at hl 2 rfl) ?_
        refine nw_iast X hP hD hS 2 (n := 8) (f := ho) rfl (nd) rfl (by omega) (by decide) dX0_add_55 (fun H locs hP hD hS => ?_)
        have hP : va_P G.1 vwCl ((wD G (a) (nd) (va_up (lo) (nd) (x)) (va_up (ho) (nd) (y)) (rk))) H := hP
        have hD : va_D vA ((wD G (a) (nd) (va_up (lo) (nd) (x)) (va_up (ho) (nd) (y)) (rk))) := hD
        refine lv_aload_n hx hb dX0_add_56 rfl (lv_at hl 0 rfl) ?_
        refine lv_aload_n hx hb dX0_add_57 rfl (lv_at hl 0 rfl) ?_
        refine va_get (D := G.1) (ci := 0) (v := .int (nI (nd))) (C := RX0) (T := TX0) (N := 4) hx hb hts in_X0_add_X0 hown hK.1 hP 0 rfl rfl 3 (by decide) (hts (.fieldLink RX0 21 "NightWater$Digs" "size" "I") (List.mem_of_getElem? (i := 1) rfl)) (fun _ h9 => h9) rfl dX0_add_58 ?_
        refine nw_st (st' := [.int (nI (nd)), .ref (a 0)]) (by rfl) ?_
        refine nw_Vv (As := [.int (nI (nd))]) (rest := []) (q0 := 0) X (c_X0_rankNext lc G (a) (nd) (va_up (lo) (nd) (x)) (va_up (ho) (nd) (y)) (rk) (nd) (by first | assumption | omega) (by first | assumption | omega)) (cwV 1 hts gX0_add_X0_rankNext rfl rfl rfl (by decide +kernel) ⟨Nat.le_of_ble_eq_true rfl, Nat.le_of_ble_eq_true rfl⟩) rfl (show vwCl[0]? = some (RX0, TX0, 4) from rfl) (nwSp.all ((wD G (a) (nd) (va_up (lo) (nd) (x)) (va_up (ho) (nd) (y)) (rk)))) hP hD hS hA rfl hl.1 rfl (Nat.le_of_ble_eq_true rfl) dX0_add_61 ⟨Nat.le_of_ble_eq_true rfl, Nat.le_of_ble_eq_true rfl⟩ (fun w H locs hp_10 hP hD hS => ?_)
        obtain rfl := hp_10
        have hP : va_P G.1 vwCl ((wD G (a) (nd) (va_up (lo) (nd) (x)) (va_up (ho) (nd) (y)) (insF (va_up (lo) (nd) (x)) (va_up (ho) (nd) (y)) nd nd rk))) H := hP
        have hD : va_D vA ((wD G (a) (nd) (va_up (lo) (nd) (x)) (va_up (ho) (nd) (y)) (insF (va_up (lo) (nd) (x)) (va_up (ho) (nd) (y)) nd nd rk))) := hD
        refine lv_aload_n hx hb dX0_add_64 rfl (lv_at hl 0 rfl) ?_
        refine lv_dup hx hb dX0_add_65 rfl ?_
        refine va_get (D := G.1) (ci := 0) (v := .int (nI (nd))) (C := RX0) (T := TX0) (N := 4) hx hb hts in_X0_add_X0 hown hK.1 hP 0 rfl rfl 3 (by decide) (hts (.fieldLink RX0 21 "NightWater$Digs" "size" "I") (List.mem_of_getElem? (i := 1) rfl)) (fun _ h9 => h9) rfl dX0_add_66 ?_
        refine lv_iconst (v := (1)) hx hb dX0_add_69 (by decide) ?_
        refine lv_iadd hx hb dX0_add_70 ?_
        refine nw_top (y := nI (nd + 1)) (nI_add (nd) (1)) ?_
        refine va_put (D := G.1) (ci := 0) (v := .int (nI (nd + 1))) (ty := .int) (C := RX0) (T := TX0) (N := 4) hx hb hts in_X0_add_X0 tyX0 tyX0_ok nmX0 hown hK.1 hP hD hS 0 rfl rfl 3 (by decide) (hts (.fieldLink RX0 21 "NightWater$Digs" "size" "I") (List.mem_of_getElem? (i := 1) rfl)) (fun _ h9 => h9) rfl (by decide +kernel) rfl rfl (Nat.le_of_ble_eq_true rfl) dX0_add_71 (fun H locs hP hD hS => ?_)
        have hP : va_P G.1 vwCl ((wD G (a) (nd + 1) (va_up (lo) (nd) (x)) (va_up (ho) (nd) (y)) (insF (va_up (lo) (nd) (x)) (va_up (ho) (nd) (y)) nd nd rk))) H := hP
        have hD : va_D vA ((wD G (a) (nd + 1) (va_up (lo) (nd) (x)) (va_up (ho) (nd) (y)) (insF (va_up (lo) (nd) (x)) (va_up (ho) (nd) (y)) nd nd rk))) := hD
        refine lv_aload_n hx hb dX0_add_74 rfl (lv_at hl 0 rfl) ?_
        refine va_get (D := G.1) (ci := 0) (v := .int (nI (nd + 1))) (C := RX0) (T := TX0) (N := 4) hx hb hts in_X0_add_X0 hown hK.1 hP 0 rfl rfl 3 (by decide) (hts (.fieldLink RX0 21 "NightWater$Digs" "size" "I") (List.mem_of_getElem? (i := 1) rfl)) (fun _ h9 => h9) rfl dX0_add_75 ?_
        refine lv_iconst (v := (1)) hx hb dX0_add_78 (by decide) ?_
        refine lv_isub hx hb dX0_add_79 ?_
        refine nw_top (y := nI (nd + 1 - 1)) (pk_sub (a := nd + 1) (b := 1) (by omega)) ?_
        exact nw_iret (rm := ({ frames := 2, cells := 0, slots := 0, locals := 44 } : Room)) X hP hD hS (by simp only [digF, digOk, nwIf_T, nwIf_F, or_true, true_or, or_false, false_or, and_true, true_and, and_false, false_and, not_true_eq_false, not_false_eq_true, Nat.add_sub_cancel, q_2, q_6, b30_9n, b30_9]) dX0_add_80
      · skip
        have b30_9 : ¬ ((nd) < (8)) := fun h => b30_9 ((nI_ltI (a := nd) (b := 8) (by omega) (by omega)).mpr h)
        have b30_9n : (8) ≤ (nd) := by omega
        refine lv_bipush (v := (-4)) hx hb dX0_add_33 (by decide) ?_
        exact nw_iret (rm := ({ frames := 2, cells := 0, slots := 0, locals := 44 } : Room)) X hP hD hS (by simp only [digF, digOk, nwIf_T, nwIf_F, or_true, true_or, or_false, false_or, and_true, true_and, and_false, false_and, not_true_eq_false, not_false_eq_true, Nat.add_sub_cancel, q_2, q_6, b30_9n, b30_9]) dX0_add_35
set_option maxHeartbeats 4000000 in
set_option maxRecDepth 100000 in
theorem c_X0_removeAll (lc : Launch) (G : nwG) (a : Nat → Nat) (nd : Nat) (lo ho : Nat → Int32) (rk : Nat → Nat)   : nwCi lc G yX0_removeAll wsX0_removeAll ({ frames := 0, cells := 0, slots := 0, locals := 0 } : Room) [.ref (a 0)] ((wD G (a) (nd) (lo) (ho) (rk))) (fun r w => r = nI nd ∧ w = wD G a 0 lo ho rk) := by
  refine nw_of (cc := cX0_removeAll) (maxL := 2) (ret := (some .int)) (by decide) rfl (Nat.le_of_ble_eq_true rfl) ?_
  intro vp ve vs vm vb vt vc vA ls X hP hD hA hS hl
  have X : nwAt vp vm vc cX0_removeAll 2 vs _ wsX0_removeAll RX0 vt (some .int) "removeAll" G := X
  have hx := X.1.1
  have hb := X.1.2.1
  have hown := X.1.2.2.2.1
  have hts := X.1.2.2.2.2
  have hK := X.2.2.2.2
  have hl : lv_has ls 2 [(0, .ref (a 0))] := hl
  refine lv_aload_n hx hb dX0_removeAll_0 rfl (lv_at hl 0 rfl) ?_
  refine va_get (D := G.1) (ci := 0) (v := .int (nI (nd))) (C := RX0) (T := TX0) (N := 4) hx hb hts in_X0_removeAll_X0 hown hK.1 hP 0 rfl rfl 3 (by decide) (hts (.fieldLink RX0 21 "NightWater$Digs" "size" "I") (List.mem_of_getElem? (i := 1) rfl)) (fun _ h9 => h9) rfl dX0_removeAll_1 ?_
  refine lv_istore_n (lv' := [(1, .int (nI (nd))), (0, .ref (a 0))]) hx hb dX0_removeAll_4 rfl hl (by decide) rfl (fun ls hl => ?_)
  refine lv_aload_n hx hb dX0_removeAll_5 rfl (lv_at hl 1 rfl) ?_
  refine lv_iconst (v := (0)) hx hb dX0_removeAll_6 (by decide) ?_
  refine va_put (D := G.1) (ci := 0) (v := .int (0)) (ty := .int) (C := RX0) (T := TX0) (N := 4) hx hb hts in_X0_removeAll_X0 tyX0 tyX0_ok nmX0 hown hK.1 hP hD hS 0 rfl rfl 3 (by decide) (hts (.fieldLink RX0 21 "NightWater$Digs" "size" "I") (List.mem_of_getElem? (i := 1) rfl)) (fun _ h9 => h9) rfl (by decide +kernel) rfl rfl (Nat.le_of_ble_eq_true rfl) dX0_removeAll_7 (fun H locs hP hD hS => ?_)
  have hP : va_P G.1 vwCl ((wD G (a) (0) (lo) (ho) (rk))) H := hP
  have hD : va_D vA ((wD G (a) (0) (lo) (ho) (rk))) := hD
  refine lv_iload_n hx hb dX0_removeAll_10 rfl (lv_at hl 0 rfl) ?_
  exact nw_iret (rm := ({ frames := 0, cells := 0, slots := 0, locals := 0 } : Room)) X hP hD hS (⟨rfl, rfl⟩) dX0_removeAll_11
set_option maxHeartbeats 4000000 in
set_option maxRecDepth 100000 in
theorem c_X0_lostInOrder (lc : Launch) (G : nwG) (a : Nat → Nat) (nd : Nat) (lo ho : Nat → Int32) (rk : Nat → Nat)  (hnd : nd ≤ 8) (hrk : ∀ j, rk j < 8) : nwCi lc G yX0_lostInOrder wsX0_lostInOrder ({ frames := 0, cells := 0, slots := 0, locals := 0 } : Room) [.ref (a 0)] ((wD G (a) (nd) (lo) (ho) (rk))) (fun r w => r = (lostD lo ho rk nd).2 ∧ w = wD G a nd lo ho rk) := by
  refine nw_of (cc := cX0_lostInOrder) (maxL := 5) (ret := (some .int)) (by decide) rfl (Nat.le_of_ble_eq_true rfl) ?_
  intro vp ve vs vm vb vt vc vA ls X hP hD hA hS hl
  have X : nwAt vp vm vc cX0_lostInOrder 5 vs _ wsX0_lostInOrder RX0 vt (some .int) "lostInOrder" G := X
  have hx := X.1.1
  have hb := X.1.2.1
  have hown := X.1.2.2.2.1
  have hts := X.1.2.2.2.2
  have hK := X.2.2.2.2
  have hl : lv_has ls 5 [(0, .ref (a 0))] := hl
  refine lv_iconst (v := (0)) hx hb dX0_lostInOrder_0 (by decide) ?_
  refine lv_istore_n (lv' := [(1, .int (0)), (0, .ref (a 0))]) hx hb dX0_lostInOrder_1 rfl hl (by decide) rfl (fun ls hl => ?_)
  refine lv_iconst (v := (0)) hx hb dX0_lostInOrder_2 (by decide) ?_
  refine lv_istore_n (lv' := [(2, .int (0)), (1, .int (0)), (0, .ref (a 0))]) hx hb dX0_lostInOrder_3 rfl hl (by decide) rfl (fun ls hl => ?_)
  refine lv_iconst (v := (0)) hx hb dX0_lostInOrder_4 (by decide) ?_
  refine lv_istore_n (lv' := [(3, .int (0)), (2, .int (0)), (1, .int (0)), (0, .ref (a 0))]) hx hb dX0_lostInOrder_5 rfl hl (by decide) rfl (fun ls hl => ?_)
  have K6 : ∀ (fuel : Nat) (i : Nat) (x1 : Int32) (x2 : Int32) (H : Heap) (locs : List Loc) (ls : Array Slot), (9 - i) < fuel → (i ≤ nd) → (x1 = (lostD lo ho rk i).1) → (x2 = (lostD lo ho rk i).2) → lv_has ls 5 [(3, .int (nI (i))), (2, .int (x2)), (1, .int (x1)), (0, .ref (a 0))] → va_P G.1 vwCl ((wD G (a) (nd) (lo) (ho) (rk))) H → va_D vA ((wD G (a) (nd) (lo) (ho) (rk))) → va_S vA vs.heap H locs → W vp lc ve ({ frames := 0, cells := 0, slots := 0, locals := 0 } : Room) vs vm ([.ref (a 0)] : List Value).toArray vb vt vc H locs 0 0 (MQ vb (nwQi G (fun r w => r = (lostD lo ho rk nd).2 ∧ w = wD G a nd lo ho rk) vA) ([.ref (a 0)] : List Value).toArray vs ({ frames := 0, cells := 0, slots := 0, locals := 0 } : Room).cells ({ frames := 0, cells := 0, slots := 0, locals := 0 } : Room).slots vA) (F0 vm 6 ls []) := by
    intro fuel
    induction fuel with
    | zero => intro i x1 x2 H locs ls hmu; exact absurd hmu (Nat.not_lt_zero _)
    | succ fuel ih6 =>
      intro i x1 x2 H locs ls hmu hi e1 e2 hl hP hD hS
      refine lv_iload_n hx hb dX0_lostInOrder_6 rfl (lv_at hl 0 rfl) ?_
      refine lv_aload_n hx hb dX0_lostInOrder_7 rfl (lv_at hl 3 rfl) ?_
      refine va_get (D := G.1) (ci := 0) (v := .int (nI (nd))) (C := RX0) (T := TX0) (N := 4) hx hb hts in_X0_lostInOrder_X0 hown hK.1 hP 0 rfl rfl 3 (by decide) (hts (.fieldLink RX0 21 "NightWater$Digs" "size" "I") (List.mem_of_getElem? (i := 1) rfl)) (fun _ h9 => h9) rfl dX0_lostInOrder_8 ?_
      refine lv_icmp_ge (tgt := 50) hx hb dX0_lostInOrder_11 (by decide) (fun b11_1 => ?_) (fun b11_1 => ?_)
      · skip
        have b11_1 : (nd) ≤ (i) := (nI_leI (a := nd) (b := i) (by omega) (by omega)).mp b11_1
        have b11_1n : ¬ ((i) < (nd)) := by omega
        refine lv_iload_n hx hb dX0_lostInOrder_50 rfl (lv_at hl 1 rfl) ?_
        exact nw_iret (rm := ({ frames := 0, cells := 0, slots := 0, locals := 0 } : Room)) X hP hD hS (⟨e2.trans (by rw [show i = nd by omega]), rfl⟩) dX0_lostInOrder_51
      · skip
        have b11_1 : ¬ ((nd) ≤ (i)) := fun h => b11_1 ((nI_leI (a := nd) (b := i) (by omega) (by omega)).mpr h)
        have b11_1n : (i) < (nd) := by omega
        refine lv_aload_n hx hb dX0_lostInOrder_14 rfl (lv_at hl 3 rfl) ?_
        refine va_get (D := G.1) (ci := 0) (v := .ref (a 3)) (C := RX0) (T := TX0) (N := 4) hx hb hts in_X0_lostInOrder_X0 hown hK.1 hP 0 rfl rfl 2 (by decide) (hts (.fieldLink RX0 18 "NightWater$Digs" "ranked" "[I") (List.mem_of_getElem? (i := 2) rfl)) (fun _ h9 => h9) rfl dX0_lostInOrder_15 ?_
        refine lv_iload_n hx hb dX0_lostInOrder_18 rfl (lv_at hl 0 rfl) ?_
        refine nw_iald X hP 3 (n := 8) (f := (fun j => nI (rk j))) rfl (i) rfl (by omega) (by decide) dX0_lostInOrder_19 ?_
        refine lv_istore (lv' := [(4, .int (nI (rk (i)))), (3, .int (nI (i))), (2, .int (x2)), (1, .int (x1)), (0, .ref (a 0))]) hx hb dX0_lostInOrder_20 hl (by decide) rfl (fun ls hl => ?_)
        have hri := hrk i
        refine lv_iload_n hx hb dX0_lostInOrder_22 rfl (lv_at hl 3 rfl) ?_
        refine lv_aload_n hx hb dX0_lostInOrder_23 rfl (lv_at hl 4 rfl) ?_
        refine va_get (D := G.1) (ci := 0) (v := .ref (a 2)) (C := RX0) (T := TX0) (N := 4) hx hb hts in_X0_lostInOrder_X0 hown hK.1 hP 0 rfl rfl 1 (by decide) (hts (.fieldLink RX0 15 "NightWater$Digs" "durations" "[I") (List.mem_of_getElem? (i := 3) rfl)) (fun _ h9 => h9) rfl dX0_lostInOrder_24 ?_
        refine lv_iload hx hb dX0_lostInOrder_27 (lv_at hl 0 rfl) ?_
        refine nw_iald X hP 2 (n := 8) (f := (ho)) rfl (rk (i)) rfl (by omega) (by decide) dX0_lostInOrder_29 ?_
        refine lv_iadd hx hb dX0_lostInOrder_30 ?_
        refine lv_istore_n (lv' := [(1, .int ((x1) + (ho (rk (i))))), (4, .int (nI (rk (i)))), (3, .int (nI (i))), (2, .int (x2)), (0, .ref (a 0))]) hx hb dX0_lostInOrder_31 rfl hl (by decide) rfl (fun ls hl => ?_)
        refine lv_iload_n hx hb dX0_lostInOrder_32 rfl (lv_at hl 3 rfl) ?_
        refine lv_aload_n hx hb dX0_lostInOrder_33 rfl (lv_at hl 4 rfl) ?_
        refine va_get (D := G.1) (ci := 0) (v := .ref (a 1)) (C := RX0) (T := TX0) (N := 4) hx hb hts in_X0_lostInOrder_X0 hown hK.1 hP 0 rfl rfl 0 (by decide) (hts (.fieldLink RX0 11 "NightWater$Digs" "losses" "[I") (List.mem_of_getElem? (i := 4) rfl)) (fun _ h9 => h9) rfl dX0_lostInOrder_34 ?_
        refine lv_iload hx hb dX0_lostInOrder_37 (lv_at hl 1 rfl) ?_
        refine nw_iald X hP 1 (n := 8) (f := (lo)) rfl (rk (i)) rfl (by omega) (by decide) dX0_lostInOrder_39 ?_
        refine lv_iload_n hx hb dX0_lostInOrder_40 rfl (lv_at hl 0 rfl) ?_
        refine lv_imul hx hb dX0_lostInOrder_41 ?_
        refine lv_iadd hx hb dX0_lostInOrder_42 ?_
        refine lv_istore_n (lv' := [(2, .int ((x2) + ((lo (rk (i))) * ((x1) + (ho (rk (i))))))), (1, .int ((x1) + (ho (rk (i))))), (4, .int (nI (rk (i)))), (3, .int (nI (i))), (0, .ref (a 0))]) hx hb dX0_lostInOrder_43 rfl hl (by decide) rfl (fun ls hl => ?_)
        refine lv_iinc (v := (nI (i + 1))) (lv' := [(3, .int (nI (i + 1))), (2, .int ((x2) + ((lo (rk (i))) * ((x1) + (ho (rk (i))))))), (1, .int ((x1) + (ho (rk (i))))), (4, .int (nI (rk (i)))), (0, .ref (a 0))]) hx hb dX0_lostInOrder_44 hl (k := 3) rfl (by exact nI_add (i) 1) (by decide) rfl (fun ls hl => ?_)
        refine lv_goto (tgt := 6) hx hb dX0_lostInOrder_47 (by decide) ?_
        exact ih6 (i + 1) (((x1) + (ho (rk (i))))) (((x2) + ((lo (rk (i))) * ((x1) + (ho (rk (i))))))) _ _ _ (by omega) (by omega) (by rw [lostD_s, e1]) (by rw [lostD_s, e1, e2]) (lv_sub hl [0, 1, 2, 4] rfl) hP hD hS
  exact K6 ((9 - (0)) + 1) (0) ((0 : Int32)) ((0 : Int32)) _ _ _ (Nat.lt_succ_self _) (by omega) (by rfl) (by rfl) (lv_sub hl [0, 1, 2, 3] rfl) hP hD hS
set_option maxHeartbeats 4000000 in
set_option maxRecDepth 100000 in
theorem c_X0_inOrder (lc : Launch) (G : nwG) (a : Nat → Nat) (nd : Nat) (lo ho : Nat → Int32) (rk : Nat → Nat) (i : Int32) (hnd : nd ≤ 8) : nwCi lc G yX0_inOrder wsX0_inOrder ({ frames := 1, cells := 0, slots := 0, locals := 22 } : Room) [.ref (a 0), .int (i)] ((wD G (a) (nd) (lo) (ho) (rk))) (fun r w => r = orderF nd rk i ∧ w = wD G a nd lo ho rk) := by
  refine nw_of (cc := cX0_inOrder) (maxL := 2) (ret := (some .int)) (by decide) rfl (Nat.le_of_ble_eq_true rfl) ?_
  intro vp ve vs vm vb vt vc vA ls X hP hD hA hS hl
  have X : nwAt vp vm vc cX0_inOrder 2 vs _ wsX0_inOrder RX0 vt (some .int) "inOrder" G := X
  have hx := X.1.1
  have hb := X.1.2.1
  have hown := X.1.2.2.2.1
  have hts := X.1.2.2.2.2
  have hK := X.2.2.2.2
  have hl : lv_has ls 2 [(0, .ref (a 0)), (1, .int (i))] := hl
  refine lv_iload_n hx hb dX0_inOrder_0 rfl (lv_at hl 1 rfl) ?_
  refine lv_iconst (v := (0)) hx hb dX0_inOrder_1 (by decide) ?_
  refine lv_aload_n hx hb dX0_inOrder_2 rfl (lv_at hl 0 rfl) ?_
  refine va_get (D := G.1) (ci := 0) (v := .int (nI (nd))) (C := RX0) (T := TX0) (N := 4) hx hb hts in_X0_inOrder_X0 hown hK.1 hP 0 rfl rfl 3 (by decide) (hts (.fieldLink RX0 21 "NightWater$Digs" "size" "I") (List.mem_of_getElem? (i := 1) rfl)) (fun _ h9 => h9) rfl dX0_inOrder_3 ?_
  refine lv_iconst (v := (1)) hx hb dX0_inOrder_6 (by decide) ?_
  refine lv_isub hx hb dX0_inOrder_7 ?_
  refine nw_Ni (As := [.int (i), .int (0), .int ((nI (nd)) - (1 : Int32))]) (rest := []) X (c_X6_outside lc G ((i)) ((0 : Int32)) (((nI (nd)) - (1 : Int32))) ) (va_cnB 3 hts ggX0_inOrder_X6_outside rfl rfl rfl (hK.nest 7 rfl) (hts (.initialized RX6) (List.mem_of_getElem? (i := 4) rfl)) (by decide +kernel) ⟨Nat.le_of_ble_eq_true rfl, Nat.le_of_ble_eq_true rfl⟩) (hts (.static yX6_outside) (List.mem_of_getElem? (i := 3) rfl)) (fun _ _ h => h.2) hP hD hS hA rfl hl.1 rfl (Nat.le_of_ble_eq_true rfl) dX0_inOrder_8 ⟨Nat.le_of_ble_eq_true rfl, Nat.le_of_ble_eq_true rfl⟩ (fun r H locs hp_1 hP hD hS => ?_)
  obtain ⟨⟨rfl, q_2⟩ | ⟨rfl, q_2⟩, -⟩ := hp_1
  · skip
    have q_2 : out ((i)) ((0 : Int32)) (((nI (nd)) - (1 : Int32))) := q_2
    refine lv_if_eq (tgt := 18) hx hb dX0_inOrder_11 (by decide) (fun c9 => absurd c9 (by decide)) (fun _ => ?_)
    refine lv_iconst (v := (-1)) hx hb dX0_inOrder_14 (by decide) ?_
    refine lv_goto (tgt := 24) hx hb dX0_inOrder_15 (by decide) ?_
    exact nw_iret (rm := ({ frames := 1, cells := 0, slots := 0, locals := 22 } : Room)) X hP hD hS (by simp only [orderF, nwIf_T, nwIf_F, or_true, true_or, or_false, false_or, and_true, true_and, and_false, false_and, not_true_eq_false, not_false_eq_true, Nat.add_sub_cancel, q_2]) dX0_inOrder_24
  · skip
    have q_2 : ¬ out ((i)) ((0 : Int32)) (((nI (nd)) - (1 : Int32))) := q_2
    obtain ⟨z_4, hz_5, he_6⟩ := nw_lt (n := nd) (by omega) q_2
    have ec_7 := nw_clamp he_6 (by omega)
    refine lv_if_eq (tgt := 18) hx hb dX0_inOrder_11 (by decide) (fun _ => ?_) (fun c9 => absurd (by decide) c9)
    refine lv_aload_n hx hb dX0_inOrder_18 rfl (lv_at hl 0 rfl) ?_
    refine va_get (D := G.1) (ci := 0) (v := .ref (a 3)) (C := RX0) (T := TX0) (N := 4) hx hb hts in_X0_inOrder_X0 hown hK.1 hP 0 rfl rfl 2 (by decide) (hts (.fieldLink RX0 18 "NightWater$Digs" "ranked" "[I") (List.mem_of_getElem? (i := 2) rfl)) (fun _ h9 => h9) rfl dX0_inOrder_19 ?_
    refine lv_iload_n hx hb dX0_inOrder_22 rfl (lv_at hl 1 rfl) ?_
    refine nw_iald X hP 3 (n := 8) (f := (fun j => nI (rk j))) rfl (z_4) he_6 (by omega) (by decide) dX0_inOrder_23 ?_
    exact nw_iret (rm := ({ frames := 1, cells := 0, slots := 0, locals := 22 } : Room)) X hP hD hS (by simp only [orderF, nwIf_T, nwIf_F, or_true, true_or, or_false, false_or, and_true, true_and, and_false, false_and, not_true_eq_false, not_false_eq_true, Nat.add_sub_cancel, q_2, ec_7]) dX0_inOrder_24
set_option maxHeartbeats 4000000 in
set_option maxRecDepth 100000 in
theorem c_X0_mixInto (lc : Launch) (G : nwG) (a : Nat → Nat) (nd : Nat) (lo ho : Nat → Int32) (rk : Nat → Nat) (h0 : Int64) (hnd : nd ≤ 8) : nwCl lc G yX0_mixInto wsX0_mixInto ({ frames := 1, cells := 0, slots := 0, locals := 22 } : Room) [.ref (a 0), .long (h0)] ((wD G (a) (nd) (lo) (ho) (rk))) (fun r w => r = ddF lo ho h0 nd ∧ w = wD G a nd lo ho rk) := by
  refine nw_of (cc := cX0_mixInto) (maxL := 6) (ret := (some .long)) (by decide) rfl (Nat.le_of_ble_eq_true rfl) ?_
  intro vp ve vs vm vb vt vc vA ls X hP hD hA hS hl
  have X : nwAt vp vm vc cX0_mixInto 6 vs _ wsX0_mixInto RX0 vt (some .long) "mixInto" G := X
  have hx := X.1.1
  have hb := X.1.2.1
  have hown := X.1.2.2.2.1
  have hts := X.1.2.2.2.2
  have hK := X.2.2.2.2
  have hl : lv_has ls 6 [(0, .ref (a 0)), (1, .long (h0))] := hl
  refine lv_lload_n hx hb dX0_mixInto_0 rfl (lv_at hl 1 rfl) ?_
  refine lv_lstore_n (lv' := [(3, .long (h0)), (0, .ref (a 0)), (1, .long (h0))]) hx hb dX0_mixInto_1 rfl hl (by decide) rfl (fun ls hl => ?_)
  refine lv_iconst (v := (0)) hx hb dX0_mixInto_2 (by decide) ?_
  refine lv_istore (lv' := [(5, .int (0)), (3, .long (h0)), (0, .ref (a 0)), (1, .long (h0))]) hx hb dX0_mixInto_3 hl (by decide) rfl (fun ls hl => ?_)
  have K5 : ∀ (fuel : Nat) (i : Nat) (x3 : Int64) (H : Heap) (locs : List Loc) (ls : Array Slot), (9 - i) < fuel → (i ≤ nd) → (x3 = ddF lo ho h0 i) → lv_has ls 6 [(5, .int (nI (i))), (3, .long (x3)), (0, .ref (a 0)), (1, .long (h0))] → va_P G.1 vwCl ((wD G (a) (nd) (lo) (ho) (rk))) H → va_D vA ((wD G (a) (nd) (lo) (ho) (rk))) → va_S vA vs.heap H locs → W vp lc ve ({ frames := 1, cells := 0, slots := 0, locals := 22 } : Room) vs vm ([.ref (a 0), .long (h0)] : List Value).toArray vb vt vc H locs 0 0 (MQ vb (nwQl G (fun r w => r = ddF lo ho h0 nd ∧ w = wD G a nd lo ho rk) vA) ([.ref (a 0), .long (h0)] : List Value).toArray vs ({ frames := 1, cells := 0, slots := 0, locals := 22 } : Room).cells ({ frames := 1, cells := 0, slots := 0, locals := 22 } : Room).slots vA) (F0 vm 5 ls []) := by
    intro fuel
    induction fuel with
    | zero => intro i x3 H locs ls hmu; exact absurd hmu (Nat.not_lt_zero _)
    | succ fuel ih5 =>
      intro i x3 H locs ls hmu hi e3 hl hP hD hS
      refine lv_iload hx hb dX0_mixInto_5 (lv_at hl 0 rfl) ?_
      refine lv_aload_n hx hb dX0_mixInto_7 rfl (lv_at hl 2 rfl) ?_
      refine va_get (D := G.1) (ci := 0) (v := .int (nI (nd))) (C := RX0) (T := TX0) (N := 4) hx hb hts in_X0_mixInto_X0 hown hK.1 hP 0 rfl rfl 3 (by decide) (hts (.fieldLink RX0 21 "NightWater$Digs" "size" "I") (List.mem_of_getElem? (i := 1) rfl)) (fun _ h9 => h9) rfl dX0_mixInto_8 ?_
      refine lv_icmp_ge (tgt := 44) hx hb dX0_mixInto_11 (by decide) (fun b11_1 => ?_) (fun b11_1 => ?_)
      · skip
        have b11_1 : (nd) ≤ (i) := (nI_leI (a := nd) (b := i) (by omega) (by omega)).mp b11_1
        have b11_1n : ¬ ((i) < (nd)) := by omega
        refine lv_lload_n hx hb dX0_mixInto_44 rfl (lv_at hl 1 rfl) ?_
        exact nw_lret (rm := ({ frames := 1, cells := 0, slots := 0, locals := 22 } : Room)) X hP hD hS (⟨e3.trans (by rw [show i = nd by omega]), rfl⟩) dX0_mixInto_45
      · skip
        have b11_1 : ¬ ((nd) ≤ (i)) := fun h => b11_1 ((nI_leI (a := nd) (b := i) (by omega) (by omega)).mpr h)
        have b11_1n : (i) < (nd) := by omega
        refine lv_lload_n hx hb dX0_mixInto_14 rfl (lv_at hl 1 rfl) ?_
        refine lv_aload_n hx hb dX0_mixInto_15 rfl (lv_at hl 2 rfl) ?_
        refine va_get (D := G.1) (ci := 0) (v := .ref (a 1)) (C := RX0) (T := TX0) (N := 4) hx hb hts in_X0_mixInto_X0 hown hK.1 hP 0 rfl rfl 0 (by decide) (hts (.fieldLink RX0 11 "NightWater$Digs" "losses" "[I") (List.mem_of_getElem? (i := 2) rfl)) (fun _ h9 => h9) rfl dX0_mixInto_16 ?_
        refine lv_iload hx hb dX0_mixInto_19 (lv_at hl 0 rfl) ?_
        refine nw_iald X hP 1 (n := 8) (f := (lo)) rfl (i) rfl (by omega) (by decide) dX0_mixInto_21 ?_
        refine nw_Nl (As := [.long (x3), .int (lo (i))]) (rest := []) X (c_X6_mix lc G ((x3)) ((lo (i))) ) (va_cnB 2 hts ggX0_mixInto_X6_mix rfl rfl rfl (hK.nest 13 rfl) (hts (.initialized RX6) (List.mem_of_getElem? (i := 5) rfl)) (by decide +kernel) ⟨Nat.le_of_ble_eq_true rfl, Nat.le_of_ble_eq_true rfl⟩) (hts (.static yX6_mix) (List.mem_of_getElem? (i := 4) rfl)) (fun _ _ h => h.2) hP hD hS hA rfl hl.1 rfl (Nat.le_of_ble_eq_true rfl) dX0_mixInto_22 ⟨Nat.le_of_ble_eq_true rfl, Nat.le_of_ble_eq_true rfl⟩ (fun r H locs hp_2 hP hD hS => ?_)
        obtain ⟨rfl, -⟩ := hp_2
        refine lv_lstore_n (lv' := [(3, .long (31 * ((x3)) + (((lo (i)))).toInt64)), (5, .int (nI (i))), (0, .ref (a 0)), (1, .long (h0))]) hx hb dX0_mixInto_25 rfl hl (by decide) rfl (fun ls hl => ?_)
        refine lv_lload_n hx hb dX0_mixInto_26 rfl (lv_at hl 0 rfl) ?_
        refine lv_aload_n hx hb dX0_mixInto_27 rfl (lv_at hl 2 rfl) ?_
        refine va_get (D := G.1) (ci := 0) (v := .ref (a 2)) (C := RX0) (T := TX0) (N := 4) hx hb hts in_X0_mixInto_X0 hown hK.1 hP 0 rfl rfl 1 (by decide) (hts (.fieldLink RX0 15 "NightWater$Digs" "durations" "[I") (List.mem_of_getElem? (i := 3) rfl)) (fun _ h9 => h9) rfl dX0_mixInto_28 ?_
        refine lv_iload hx hb dX0_mixInto_31 (lv_at hl 1 rfl) ?_
        refine nw_iald X hP 2 (n := 8) (f := (ho)) rfl (i) rfl (by omega) (by decide) dX0_mixInto_33 ?_
        refine nw_Nl (As := [.long (31 * ((x3)) + (((lo (i)))).toInt64), .int (ho (i))]) (rest := []) X (c_X6_mix lc G ((31 * ((x3)) + (((lo (i)))).toInt64)) ((ho (i))) ) (va_cnB 2 hts ggX0_mixInto_X6_mix rfl rfl rfl (hK.nest 13 rfl) (hts (.initialized RX6) (List.mem_of_getElem? (i := 5) rfl)) (by decide +kernel) ⟨Nat.le_of_ble_eq_true rfl, Nat.le_of_ble_eq_true rfl⟩) (hts (.static yX6_mix) (List.mem_of_getElem? (i := 4) rfl)) (fun _ _ h => h.2) hP hD hS hA rfl hl.1 rfl (Nat.le_of_ble_eq_true rfl) dX0_mixInto_34 ⟨Nat.le_of_ble_eq_true rfl, Nat.le_of_ble_eq_true rfl⟩ (fun r H locs hp_3 hP hD hS => ?_)
        obtain ⟨rfl, -⟩ := hp_3
        refine lv_lstore_n (lv' := [(3, .long (31 * ((31 * ((x3)) + (((lo (i)))).toInt64)) + (((ho (i)))).toInt64)), (5, .int (nI (i))), (0, .ref (a 0)), (1, .long (h0))]) hx hb dX0_mixInto_37 rfl hl (by decide) rfl (fun ls hl => ?_)
        refine lv_iinc (v := (nI (i + 1))) (lv' := [(5, .int (nI (i + 1))), (3, .long (31 * ((31 * ((x3)) + (((lo (i)))).toInt64)) + (((ho (i)))).toInt64)), (0, .ref (a 0)), (1, .long (h0))]) hx hb dX0_mixInto_38 hl (k := 1) rfl (by exact nI_add (i) 1) (by decide) rfl (fun ls hl => ?_)
        refine lv_goto (tgt := 5) hx hb dX0_mixInto_41 (by decide) ?_
        exact ih5 (i + 1) ((31 * ((31 * ((x3)) + (((lo (i)))).toInt64)) + (((ho (i)))).toInt64)) _ _ _ (by omega) (by omega) (by rw [ddF_s, e3]) (lv_sub hl [0, 1, 2, 3] rfl) hP hD hS
  exact K5 ((9 - (0)) + 1) (0) ((h0)) _ _ _ (Nat.lt_succ_self _) (by omega) (by rfl) (lv_sub hl [0, 1, 2, 3] rfl) hP hD hS
