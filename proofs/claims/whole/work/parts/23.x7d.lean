/-! printed by wip/gen/x7d.py: contracts, walked row by row -/
theorem in_X7_clear_X7 : ∀ w ∈ wsX70, w ∈ wsX7_clear := by decide +kernel
theorem in_X7_closes_X7 : ∀ w ∈ wsX70, w ∈ wsX7_closes := by decide +kernel
theorem in_X7_closings_X7 : ∀ w ∈ wsX70, w ∈ wsX7_closings := by decide +kernel
theorem in_X7_cost_X7 : ∀ w ∈ wsX70, w ∈ wsX7_cost := by decide +kernel
theorem in_X7_dig_X7 : ∀ w ∈ wsX70, w ∈ wsX7_dig := by decide +kernel
theorem in_X7_isSpan_X7 : ∀ w ∈ wsX70, w ∈ wsX7_isSpan := by decide +kernel
theorem in_X7_lost_X7 : ∀ w ∈ wsX70, w ∈ wsX7_lost := by decide +kernel
theorem in_X7_order_X7 : ∀ w ∈ wsX70, w ∈ wsX7_order := by decide +kernel
theorem in_X7_plans_X7 : ∀ w ∈ wsX70, w ∈ wsX7_plans := by decide +kernel
theorem in_X7_section_X7 : ∀ w ∈ wsX70, w ∈ wsX7_section := by decide +kernel
theorem in_X7_sorts_X7 : ∀ w ∈ wsX70, w ∈ wsX7_sorts := by decide +kernel
set_option maxHeartbeats 4000000 in
set_option maxRecDepth 100000 in
theorem c_X7_section (lc : Launch) (G : nwG) (a : Nat → Nat) (n : Nat) (cu bg : Nat → Int32) (M : Nat → Nat → Int32) (er us ll lm lh : Int32) (nv : Nat) (fr tt gr : Nat → Nat) (ML : Nat → Nat → Int32) (ns : Nat) (w : Nat → Nat) (cs cl : Nat → Int32) (nd : Nat) (lo ho : Nat → Int32) (so : Nat → Nat) (n9 i v : Int32) (hn1 : 1 ≤ ns) (hn12 : ns ≤ 12) (hw0 : ∀ k, ns ≤ k → w k = 0) : nwCi lc G yX7_section wsX7_section ({ frames := 1, cells := 0, slots := 0, locals := 22 } : Room) [.ref (a 0), .int (n9), .int (i), .int (v)] ((wM G (a) (n) (cu) (bg) ((coF M)) ((goF M)) (er) (us) (ll) (lm) (lh) (nv) (fr) (tt) (gr) ((hdF2 ML)) (ns) (w) (cs) (cl) (nd) (lo) (ho) (so))) (fun r ww => r = nwIf (secOk n9 i v) (nI (w i.toNatClampNeg)) (-2) ∧ ww = wM G (a) (n) (cu) (bg) ((coF M)) ((goF M)) (er) (us) (ll) (lm) (lh) (nv) (fr) (tt) (gr) ((hdF2 ML)) (nwIf (secOk n9 i v) n9.toNatClampNeg ns) (nwIf (secOk n9 i v) (va_up (cutW w n9.toNatClampNeg) i.toNatClampNeg v.toNatClampNeg) w) (cs) (cl) (nd) (lo) (ho) (so)) := by
  refine nw_of (cc := cX7_section) (maxL := 5) (ret := (some .int)) (by decide) rfl (Nat.le_of_ble_eq_true rfl) ?_
  intro vp ve vs vm vb vt vc vA ls X hP hD hA hS hl
  have X : nwAt vp vm vc cX7_section 5 vs _ wsX7_section RX7 vt (some .int) "section" G := X
  have hx := X.1.1
  have hb := X.1.2.1
  have hown := X.1.2.2.2.1
  have hts := X.1.2.2.2.2
  have hK := X.2.2.2.2
  have hl : lv_has ls 5 [(0, .ref (a 0)), (1, .int (n9)), (2, .int (i)), (3, .int (v))] := hl
  refine lv_iload_n hx hb dX7_section_0 rfl (lv_at hl 1 rfl) ?_
  refine lv_iconst (v := (1)) hx hb dX7_section_1 (by decide) ?_
  refine lv_bipush (v := (12)) hx hb dX7_section_2 (by decide) ?_
  refine nw_Si (As := [.int (n9), .int (1), .int (12)]) (rest := []) X (c_X7_in lc G ((n9)) ((1 : Int32)) ((12 : Int32)) ) (va_cwS 3 hts gX7_section_X7_in rfl rfl rfl (by decide +kernel) ⟨Nat.le_of_ble_eq_true rfl, Nat.le_of_ble_eq_true rfl⟩) (fun _ _ h => h.2) hP hD hS hA rfl hl.1 rfl (Nat.le_of_ble_eq_true rfl) dX7_section_4 ⟨Nat.le_of_ble_eq_true rfl, Nat.le_of_ble_eq_true rfl⟩ (fun r H locs hp_1 hP hD hS => ?_)
  obtain ⟨⟨rfl, q_2⟩ | ⟨rfl, q_2⟩, -⟩ := hp_1
  · skip
    have q_2 : ¬ out ((n9)) ((1 : Int32)) ((12 : Int32)) := q_2
    obtain ⟨m_3, hm_4, hm_5, he_6⟩ := nw_rng1 (n := 12) rfl (by decide) q_2
    have ec_7 := nw_clamp he_6 (by omega)
    refine lv_if_eq (tgt := 32) hx hb dX7_section_7 (by decide) (fun c9 => absurd c9 (by decide)) (fun _ => ?_)
    refine lv_iload_n hx hb dX7_section_10 rfl (lv_at hl 2 rfl) ?_
    refine lv_iconst (v := (0)) hx hb dX7_section_11 (by decide) ?_
    refine lv_iload_n hx hb dX7_section_12 rfl (lv_at hl 1 rfl) ?_
    refine lv_iconst (v := (1)) hx hb dX7_section_13 (by decide) ?_
    refine lv_isub hx hb dX7_section_14 ?_
    refine nw_Si (As := [.int (i), .int (0), .int ((n9) - (1 : Int32))]) (rest := []) X (c_X7_in lc G ((i)) ((0 : Int32)) (((n9) - (1 : Int32))) ) (va_cwS 3 hts gX7_section_X7_in rfl rfl rfl (by decide +kernel) ⟨Nat.le_of_ble_eq_true rfl, Nat.le_of_ble_eq_true rfl⟩) (fun _ _ h => h.2) hP hD hS hA rfl hl.1 rfl (Nat.le_of_ble_eq_true rfl) dX7_section_15 ⟨Nat.le_of_ble_eq_true rfl, Nat.le_of_ble_eq_true rfl⟩ (fun r H locs hp_9 hP hD hS => ?_)
    obtain ⟨⟨rfl, q_10⟩ | ⟨rfl, q_10⟩, -⟩ := hp_9
    · skip
      have q_10 : ¬ out ((i)) ((0 : Int32)) (((n9) - (1 : Int32))) := q_10
      obtain ⟨z_11, hz_12, he_13⟩ := nw_le (n := m_3 - 1) (by rw [he_6]; exact pk_sub (by omega)) (by omega) q_10
      have ec_14 := nw_clamp he_13 (by omega)
      refine lv_if_eq (tgt := 32) hx hb dX7_section_18 (by decide) (fun c9 => absurd c9 (by decide)) (fun _ => ?_)
      refine lv_iload_n hx hb dX7_section_21 rfl (lv_at hl 3 rfl) ?_
      refine lv_iconst (v := (0)) hx hb dX7_section_22 (by decide) ?_
      refine lv_sipush (v := (1000)) hx hb dX7_section_23 (by decide) ?_
      refine nw_Si (As := [.int (v), .int (0), .int (1000)]) (rest := []) X (c_X7_in lc G ((v)) ((0 : Int32)) ((1000 : Int32)) ) (va_cwS 3 hts gX7_section_X7_in rfl rfl rfl (by decide +kernel) ⟨Nat.le_of_ble_eq_true rfl, Nat.le_of_ble_eq_true rfl⟩) (fun _ _ h => h.2) hP hD hS hA rfl hl.1 rfl (Nat.le_of_ble_eq_true rfl) dX7_section_26 ⟨Nat.le_of_ble_eq_true rfl, Nat.le_of_ble_eq_true rfl⟩ (fun r H locs hp_16 hP hD hS => ?_)
      obtain ⟨⟨rfl, q_17⟩ | ⟨rfl, q_17⟩, -⟩ := hp_16
      · skip
        have q_17 : ¬ out ((v)) ((0 : Int32)) ((1000 : Int32)) := q_17
        obtain ⟨z_18, hz_19, he_20⟩ := nw_le (n := 1000) rfl (by decide) q_17
        have ec_21 := nw_clamp he_20 (by omega)
        refine lv_if_ne (tgt := 35) hx hb dX7_section_29 (by decide) (fun _ => ?_) (fun c9 => absurd c9 (by decide))
        rw [he_6] at hl
        rw [he_13] at hl
        rw [he_20] at hl
        have hl : lv_has ls 5 [(0, .ref (a 0)), (1, .int (nI (m_3))), (2, .int (nI (z_11))), (3, .int (nI (z_18)))] := hl
        refine lv_aload_n hx hb dX7_section_35 rfl (lv_at hl 0 rfl) ?_
        refine lv_iload_n hx hb dX7_section_36 rfl (lv_at hl 1 rfl) ?_
        refine va_put (D := G.1) (ci := 6) (v := .int (nI (m_3))) (ty := .int) (C := RX7) (T := TX7) (N := 23) hx hb hts in_X7_section_X7 tyX7 tyX7_ok nmX7 hown hK.1 hP hD hS 0 rfl rfl 15 (by decide) (hts (.fieldLink RX7 41 "NightWaterModel" "sections" "I") (List.mem_of_getElem? (i := 1) rfl)) (fun _ h9 => h9) rfl (by decide +kernel) rfl rfl (Nat.le_of_ble_eq_true rfl) dX7_section_37 (fun H locs hP hD hS => ?_)
        have hP : va_P G.1 vwCl ((wM G (a) (n) (cu) (bg) ((coF M)) ((goF M)) (er) (us) (ll) (lm) (lh) (nv) (fr) (tt) (gr) ((hdF2 ML)) (m_3) (w) (cs) (cl) (nd) (lo) (ho) (so))) H := hP
        have hD : va_D vA ((wM G (a) (n) (cu) (bg) ((coF M)) ((goF M)) (er) (us) (ll) (lm) (lh) (nv) (fr) (tt) (gr) ((hdF2 ML)) (m_3) (w) (cs) (cl) (nd) (lo) (ho) (so))) := hD
        refine lv_iload_n hx hb dX7_section_40 rfl (lv_at hl 1 rfl) ?_
        refine lv_istore (lv' := [(4, .int (nI (m_3))), (0, .ref (a 0)), (1, .int (nI (m_3))), (2, .int (nI (z_11))), (3, .int (nI (z_18)))]) hx hb dX7_section_41 hl (by decide) rfl (fun ls hl => ?_)
        have K43 : ∀ (fuel : Nat) (g : Nat) (wv : Nat → Nat) (H : Heap) (locs : List Loc) (ls : Array Slot), (13 - g) < fuel → (m_3 ≤ g) → (g ≤ 12) → (wv = zerW w m_3 g) → lv_has ls 5 [(4, .int (nI (g))), (0, .ref (a 0)), (1, .int (nI (m_3))), (2, .int (nI (z_11))), (3, .int (nI (z_18)))] → va_P G.1 vwCl ((wM G (a) (n) (cu) (bg) ((coF M)) ((goF M)) (er) (us) (ll) (lm) (lh) (nv) (fr) (tt) (gr) ((hdF2 ML)) (m_3) (wv) (cs) (cl) (nd) (lo) (ho) (so))) H → va_D vA ((wM G (a) (n) (cu) (bg) ((coF M)) ((goF M)) (er) (us) (ll) (lm) (lh) (nv) (fr) (tt) (gr) ((hdF2 ML)) (m_3) (wv) (cs) (cl) (nd) (lo) (ho) (so))) → va_S vA vs.heap H locs → W vp lc ve ({ frames := 1, cells := 0, slots := 0, locals := 22 } : Room) vs vm ([.ref (a 0), .int (n9), .int (i), .int (v)] : List Value).toArray vb vt vc H locs 0 0 (MQ vb (nwQi G (fun r ww => r = nwIf (secOk n9 i v) (nI (w i.toNatClampNeg)) (-2) ∧ ww = wM G (a) (n) (cu) (bg) ((coF M)) ((goF M)) (er) (us) (ll) (lm) (lh) (nv) (fr) (tt) (gr) ((hdF2 ML)) (nwIf (secOk n9 i v) n9.toNatClampNeg ns) (nwIf (secOk n9 i v) (va_up (cutW w n9.toNatClampNeg) i.toNatClampNeg v.toNatClampNeg) w) (cs) (cl) (nd) (lo) (ho) (so)) vA) ([.ref (a 0), .int (n9), .int (i), .int (v)] : List Value).toArray vs ({ frames := 1, cells := 0, slots := 0, locals := 22 } : Room).cells ({ frames := 1, cells := 0, slots := 0, locals := 22 } : Room).slots vA) (F0 vm 43 ls []) := by
          intro fuel
          induction fuel with
          | zero => intro g wv H locs ls hmu; exact absurd hmu (Nat.not_lt_zero _)
          | succ fuel ih43 =>
            intro g wv H locs ls hmu hg1 hg2 eg hl hP hD hS
            refine lv_iload hx hb dX7_section_43 (lv_at hl 0 rfl) ?_
            refine lv_bipush (v := (12)) hx hb dX7_section_45 (by decide) ?_
            refine lv_icmp_ge (tgt := 64) hx hb dX7_section_47 (by decide) (fun b47_23 => ?_) (fun b47_23 => ?_)
            · skip
              have b47_23 : (12) ≤ (g) := (nI_leI (a := 12) (b := g) (by omega) (by omega)).mp b47_23
              have b47_23n : ¬ ((g) < (12)) := by omega
              have ecw : wv = cutW w m_3 := by rw [eg]; exact zerW_cut12 hw0 hn12 (by omega) (by omega)
              rw [ecw] at hP hD
              have hwi : cutW w m_3 z_11 = w z_11 := by unfold cutW; rw [if_pos (by omega)]
              refine lv_aload_n hx hb dX7_section_64 rfl (lv_at hl 1 rfl) ?_
              refine va_get (D := G.1) (ci := 6) (v := .ref (a 9)) (C := RX7) (T := TX7) (N := 23) hx hb hts in_X7_section_X7 hown hK.1 hP 0 rfl rfl 16 (by decide) (hts (.fieldLink RX7 44 "NightWaterModel" "weight" "[I") (List.mem_of_getElem? (i := 2) rfl)) (fun _ h9 => h9) rfl dX7_section_65 ?_
              refine lv_iload_n hx hb dX7_section_68 rfl (lv_at hl 3 rfl) ?_
              refine nw_iald X hP 9 (n := 12) (f := (fun j => nI ((cutW w m_3) j))) rfl (z_11) rfl (by omega) (by decide) dX7_section_69 ?_
              refine lv_istore (lv' := [(4, .int (nI ((cutW w m_3) (z_11)))), (0, .ref (a 0)), (1, .int (nI (m_3))), (2, .int (nI (z_11))), (3, .int (nI (z_18)))]) hx hb dX7_section_70 hl (by decide) rfl (fun ls hl => ?_)
              refine lv_aload_n hx hb dX7_section_72 rfl (lv_at hl 1 rfl) ?_
              refine va_get (D := G.1) (ci := 6) (v := .ref (a 9)) (C := RX7) (T := TX7) (N := 23) hx hb hts in_X7_section_X7 hown hK.1 hP 0 rfl rfl 16 (by decide) (hts (.fieldLink RX7 44 "NightWaterModel" "weight" "[I") (List.mem_of_getElem? (i := 2) rfl)) (fun _ h9 => h9) rfl dX7_section_73 ?_
              refine lv_iload_n hx hb dX7_section_76 rfl (lv_at hl 3 rfl) ?_
              refine lv_iload_n hx hb dX7_section_77 rfl (lv_at hl 4 rfl) ?_
              refine nw_iastN X hP hD hS 9 (n := 12) (f := cutW w m_3) rfl (z_11) (z_18) rfl rfl (by omega) (by decide) dX7_section_78 (fun H locs hP hD hS => ?_)
              have hP : va_P G.1 vwCl ((wM G (a) (n) (cu) (bg) ((coF M)) ((goF M)) (er) (us) (ll) (lm) (lh) (nv) (fr) (tt) (gr) ((hdF2 ML)) (m_3) (va_up (cutW w m_3) (z_11) (z_18)) (cs) (cl) (nd) (lo) (ho) (so))) H := hP
              have hD : va_D vA ((wM G (a) (n) (cu) (bg) ((coF M)) ((goF M)) (er) (us) (ll) (lm) (lh) (nv) (fr) (tt) (gr) ((hdF2 ML)) (m_3) (va_up (cutW w m_3) (z_11) (z_18)) (cs) (cl) (nd) (lo) (ho) (so))) := hD
              refine lv_iload hx hb dX7_section_79 (lv_at hl 0 rfl) ?_
              exact nw_iret (rm := ({ frames := 1, cells := 0, slots := 0, locals := 22 } : Room)) X hP hD hS (⟨by simp only [secOk, nwIf_T, nwIf_F, or_true, true_or, or_false, false_or, and_true, true_and, and_false, false_and, not_true_eq_false, not_false_eq_true, Nat.add_sub_cancel, q_2, ec_7, q_10, ec_14, q_17, ec_21, b47_23n, b47_23, hwi], by simp only [secOk, nwIf_T, nwIf_F, or_true, true_or, or_false, false_or, and_true, true_and, and_false, false_and, not_true_eq_false, not_false_eq_true, Nat.add_sub_cancel, q_2, ec_7, q_10, ec_14, q_17, ec_21, b47_23n, b47_23]⟩) dX7_section_81
            · skip
              have b47_23 : ¬ ((12) ≤ (g)) := fun h => b47_23 ((nI_leI (a := 12) (b := g) (by omega) (by omega)).mpr h)
              have b47_23n : (g) < (12) := by omega
              refine lv_aload_n hx hb dX7_section_50 rfl (lv_at hl 1 rfl) ?_
              refine va_get (D := G.1) (ci := 6) (v := .ref (a 9)) (C := RX7) (T := TX7) (N := 23) hx hb hts in_X7_section_X7 hown hK.1 hP 0 rfl rfl 16 (by decide) (hts (.fieldLink RX7 44 "NightWaterModel" "weight" "[I") (List.mem_of_getElem? (i := 2) rfl)) (fun _ h9 => h9) rfl dX7_section_51 ?_
              refine lv_iload hx hb dX7_section_54 (lv_at hl 0 rfl) ?_
              refine lv_iconst (v := (0)) hx hb dX7_section_56 (by decide) ?_
              refine nw_iastN X hP hD hS 9 (n := 12) (f := wv) rfl (g) (0) rfl rfl (by omega) (by decide) dX7_section_57 (fun H locs hP hD hS => ?_)
              have hP : va_P G.1 vwCl ((wM G (a) (n) (cu) (bg) ((coF M)) ((goF M)) (er) (us) (ll) (lm) (lh) (nv) (fr) (tt) (gr) ((hdF2 ML)) (m_3) (va_up (wv) (g) (0)) (cs) (cl) (nd) (lo) (ho) (so))) H := hP
              have hD : va_D vA ((wM G (a) (n) (cu) (bg) ((coF M)) ((goF M)) (er) (us) (ll) (lm) (lh) (nv) (fr) (tt) (gr) ((hdF2 ML)) (m_3) (va_up (wv) (g) (0)) (cs) (cl) (nd) (lo) (ho) (so))) := hD
              refine lv_iinc (v := (nI (g + 1))) (lv' := [(4, .int (nI (g + 1))), (0, .ref (a 0)), (1, .int (nI (m_3))), (2, .int (nI (z_11))), (3, .int (nI (z_18)))]) hx hb dX7_section_58 hl (k := 0) rfl (by exact nI_add (g) 1) (by decide) rfl (fun ls hl => ?_)
              refine lv_goto (tgt := 43) hx hb dX7_section_61 (by decide) ?_
              exact ih43 (g + 1) (va_up (wv) (g) (0)) _ _ _ (by omega) (by omega) (by omega) (by rw [eg]; exact zerW_s hg1) (lv_sub hl [0, 1, 2, 3, 4] rfl) hP hD hS
        exact K43 ((13 - (m_3)) + 1) (m_3) (w) _ _ _ (Nat.lt_succ_self _) (by omega) (by omega) (by exact zerW_0.symm) (lv_sub hl [0, 1, 2, 3, 4] rfl) hP hD hS
      · skip
        have q_17 : out ((v)) ((0 : Int32)) ((1000 : Int32)) := q_17
        refine lv_if_ne (tgt := 35) hx hb dX7_section_29 (by decide) (fun c9 => absurd c9 (by decide)) (fun _ => ?_)
        refine lv_bipush (v := (-2)) hx hb dX7_section_32 (by decide) ?_
        exact nw_iret (rm := ({ frames := 1, cells := 0, slots := 0, locals := 22 } : Room)) X hP hD hS (⟨by simp only [secOk, nwIf_T, nwIf_F, or_true, true_or, or_false, false_or, and_true, true_and, and_false, false_and, not_true_eq_false, not_false_eq_true, Nat.add_sub_cancel, q_2, ec_7, q_10, ec_14, q_17], by simp only [secOk, nwIf_T, nwIf_F, or_true, true_or, or_false, false_or, and_true, true_and, and_false, false_and, not_true_eq_false, not_false_eq_true, Nat.add_sub_cancel, q_2, ec_7, q_10, ec_14, q_17]⟩) dX7_section_34
    · skip
      have q_10 : out ((i)) ((0 : Int32)) (((n9) - (1 : Int32))) := q_10
      refine lv_if_eq (tgt := 32) hx hb dX7_section_18 (by decide) (fun _ => ?_) (fun c9 => absurd (by decide) c9)
      refine lv_bipush (v := (-2)) hx hb dX7_section_32 (by decide) ?_
      exact nw_iret (rm := ({ frames := 1, cells := 0, slots := 0, locals := 22 } : Room)) X hP hD hS (⟨by simp only [secOk, nwIf_T, nwIf_F, or_true, true_or, or_false, false_or, and_true, true_and, and_false, false_and, not_true_eq_false, not_false_eq_true, Nat.add_sub_cancel, q_2, ec_7, q_10], by simp only [secOk, nwIf_T, nwIf_F, or_true, true_or, or_false, false_or, and_true, true_and, and_false, false_and, not_true_eq_false, not_false_eq_true, Nat.add_sub_cancel, q_2, ec_7, q_10]⟩) dX7_section_34
  · skip
    have q_2 : out ((n9)) ((1 : Int32)) ((12 : Int32)) := q_2
    refine lv_if_eq (tgt := 32) hx hb dX7_section_7 (by decide) (fun _ => ?_) (fun c9 => absurd (by decide) c9)
    refine lv_bipush (v := (-2)) hx hb dX7_section_32 (by decide) ?_
    exact nw_iret (rm := ({ frames := 1, cells := 0, slots := 0, locals := 22 } : Room)) X hP hD hS (⟨by simp only [secOk, nwIf_T, nwIf_F, or_true, true_or, or_false, false_or, and_true, true_and, and_false, false_and, not_true_eq_false, not_false_eq_true, Nat.add_sub_cancel, q_2], by simp only [secOk, nwIf_T, nwIf_F, or_true, true_or, or_false, false_or, and_true, true_and, and_false, false_and, not_true_eq_false, not_false_eq_true, Nat.add_sub_cancel, q_2]⟩) dX7_section_34
set_option maxHeartbeats 4000000 in
set_option maxRecDepth 100000 in
theorem c_X7_plans (lc : Launch) (G : nwG) (a : Nat → Nat) (n : Nat) (cu bg : Nat → Int32) (M : Nat → Nat → Int32) (er us ll lm lh : Int32) (nv : Nat) (fr tt gr : Nat → Nat) (ML : Nat → Nat → Int32) (ns : Nat) (w : Nat → Nat) (cs cl : Nat → Int32) (nd : Nat) (lo ho : Nat → Int32) (so : Nat → Nat)  (hn1 : 1 ≤ ns) (hn12 : ns ≤ 12) (hw : ∀ k, w k ≤ 1000) : nwCv lc G yX7_plans wsX7_plans ({ frames := 0, cells := 0, slots := 0, locals := 0 } : Room) [.ref (a 0)] ((wM G (a) (n) (cu) (bg) ((coF M)) ((goF M)) (er) (us) (ll) (lm) (lh) (nv) (fr) (tt) (gr) ((hdF2 ML)) (ns) (w) (cs) (cl) (nd) (lo) (ho) (so))) (fun ww => ∃ csv clv : Nat → Int32, plM w ns csv clv ∧ ww = wM G (a) (n) (cu) (bg) ((coF M)) ((goF M)) (er) (us) (ll) (lm) (lh) (nv) (fr) (tt) (gr) ((hdF2 ML)) (ns) (w) (csv) (clv) (nd) (lo) (ho) (so)) := by
  refine nw_of (cc := cX7_plans) (maxL := 8) (ret := none) (by decide) rfl (Nat.le_of_ble_eq_true rfl) ?_
  intro vp ve vs vm vb vt vc vA ls X hP hD hA hS hl
  have X : nwAt vp vm vc cX7_plans 8 vs _ wsX7_plans RX7 vt none "plans" G := X
  have hx := X.1.1
  have hb := X.1.2.1
  have hown := X.1.2.2.2.1
  have hts := X.1.2.2.2.2
  have hK := X.2.2.2.2
  have hl : lv_has ls 8 [(0, .ref (a 0))] := hl
  refine lv_iconst (v := (0)) hx hb dX7_plans_0 (by decide) ?_
  refine lv_istore_n (lv' := [(1, .int (0)), (0, .ref (a 0))]) hx hb dX7_plans_1 rfl hl (by decide) rfl (fun ls hl => ?_)
  have K2 : ∀ (fuel : Nat) (d : Nat) (csv : Nat → Int32) (clv : Nat → Int32) (H : Heap) (locs : List Loc) (ls : Array Slot), (13 - d) < fuel → (d ≤ ns) → (plR w ns d 0 csv clv) → lv_has ls 8 [(1, .int (nI (d))), (0, .ref (a 0))] → va_P G.1 vwCl ((wM G (a) (n) (cu) (bg) ((coF M)) ((goF M)) (er) (us) (ll) (lm) (lh) (nv) (fr) (tt) (gr) ((hdF2 ML)) (ns) (w) (csv) (clv) (nd) (lo) (ho) (so))) H → va_D vA ((wM G (a) (n) (cu) (bg) ((coF M)) ((goF M)) (er) (us) (ll) (lm) (lh) (nv) (fr) (tt) (gr) ((hdF2 ML)) (ns) (w) (csv) (clv) (nd) (lo) (ho) (so))) → va_S vA vs.heap H locs → W vp lc ve ({ frames := 0, cells := 0, slots := 0, locals := 0 } : Room) vs vm ([.ref (a 0)] : List Value).toArray vb vt vc H locs 0 0 (MQ vb (nwQv G (fun ww => ∃ csv clv : Nat → Int32, plM w ns csv clv ∧ ww = wM G (a) (n) (cu) (bg) ((coF M)) ((goF M)) (er) (us) (ll) (lm) (lh) (nv) (fr) (tt) (gr) ((hdF2 ML)) (ns) (w) (csv) (clv) (nd) (lo) (ho) (so)) vA) ([.ref (a 0)] : List Value).toArray vs ({ frames := 0, cells := 0, slots := 0, locals := 0 } : Room).cells ({ frames := 0, cells := 0, slots := 0, locals := 0 } : Room).slots vA) (F0 vm 2 ls []) := by
    intro fuel
    induction fuel with
    | zero => intro d csv clv H locs ls hmu; exact absurd hmu (Nat.not_lt_zero _)
    | succ fuel ih2 =>
      intro d csv clv H locs ls hmu hd hDD hl hP hD hS
      refine lv_iload_n hx hb dX7_plans_2 rfl (lv_at hl 0 rfl) ?_
      refine lv_aload_n hx hb dX7_plans_3 rfl (lv_at hl 1 rfl) ?_
      refine va_get (D := G.1) (ci := 6) (v := .int (nI (ns))) (C := RX7) (T := TX7) (N := 23) hx hb hts in_X7_plans_X7 hown hK.1 hP 0 rfl rfl 15 (by decide) (hts (.fieldLink RX7 41 "NightWaterModel" "sections" "I") (List.mem_of_getElem? (i := 1) rfl)) (fun _ h9 => h9) rfl dX7_plans_4 ?_
      refine lv_icmp_ge (tgt := 182) hx hb dX7_plans_7 (by decide) (fun b7_1 => ?_) (fun b7_1 => ?_)
      · skip
        have b7_1 : (ns) ≤ (d) := (nI_leI (a := ns) (b := d) (by omega) (by omega)).mp b7_1
        have b7_1n : ¬ ((d) < (ns)) := by omega
        exact nw_vret (rm := ({ frames := 0, cells := 0, slots := 0, locals := 0 } : Room)) X hP hD hS (⟨_, _, plR_end hDD (by omega), rfl⟩) dX7_plans_182
      · skip
        have b7_1 : ¬ ((ns) ≤ (d)) := fun h => b7_1 ((nI_leI (a := ns) (b := d) (by omega) (by omega)).mpr h)
        have b7_1n : (d) < (ns) := by omega
        refine lv_iconst (v := (0)) hx hb dX7_plans_10 (by decide) ?_
        refine lv_istore_n (lv' := [(2, .int (0)), (1, .int (nI (d))), (0, .ref (a 0))]) hx hb dX7_plans_11 rfl hl (by decide) rfl (fun ls hl => ?_)
        have K12 : ∀ (fuel : Nat) (x : Nat) (csw : Nat → Int32) (clw : Nat → Int32) (H : Heap) (locs : List Loc) (ls : Array Slot), (13 - x) < fuel → (x + d ≤ ns) → (plR w ns d x csw clw) → lv_has ls 8 [(2, .int (nI (x))), (1, .int (nI (d))), (0, .ref (a 0))] → va_P G.1 vwCl ((wM G (a) (n) (cu) (bg) ((coF M)) ((goF M)) (er) (us) (ll) (lm) (lh) (nv) (fr) (tt) (gr) ((hdF2 ML)) (ns) (w) (csw) (clw) (nd) (lo) (ho) (so))) H → va_D vA ((wM G (a) (n) (cu) (bg) ((coF M)) ((goF M)) (er) (us) (ll) (lm) (lh) (nv) (fr) (tt) (gr) ((hdF2 ML)) (ns) (w) (csw) (clw) (nd) (lo) (ho) (so))) → va_S vA vs.heap H locs → W vp lc ve ({ frames := 0, cells := 0, slots := 0, locals := 0 } : Room) vs vm ([.ref (a 0)] : List Value).toArray vb vt vc H locs 0 0 (MQ vb (nwQv G (fun ww => ∃ csv clv : Nat → Int32, plM w ns csv clv ∧ ww = wM G (a) (n) (cu) (bg) ((coF M)) ((goF M)) (er) (us) (ll) (lm) (lh) (nv) (fr) (tt) (gr) ((hdF2 ML)) (ns) (w) (csv) (clv) (nd) (lo) (ho) (so)) vA) ([.ref (a 0)] : List Value).toArray vs ({ frames := 0, cells := 0, slots := 0, locals := 0 } : Room).cells ({ frames := 0, cells := 0, slots := 0, locals := 0 } : Room).slots vA) (F0 vm 12 ls []) := by
          intro fuel
          induction fuel with
          | zero => intro x csw clw H locs ls hmu; exact absurd hmu (Nat.not_lt_zero _)
          | succ fuel ih12 =>
            intro x csw clw H locs ls hmu hxn hR hl hP hD hS
            refine lv_iload_n hx hb dX7_plans_12 rfl (lv_at hl 0 rfl) ?_
            refine lv_iload_n hx hb dX7_plans_13 rfl (lv_at hl 1 rfl) ?_
            refine lv_iadd hx hb dX7_plans_14 ?_
            refine nw_top (y := nI (x + d)) (nI_add (x) (d)) ?_
            refine lv_aload_n hx hb dX7_plans_15 rfl (lv_at hl 2 rfl) ?_
            refine va_get (D := G.1) (ci := 6) (v := .int (nI (ns))) (C := RX7) (T := TX7) (N := 23) hx hb hts in_X7_plans_X7 hown hK.1 hP 0 rfl rfl 15 (by decide) (hts (.fieldLink RX7 41 "NightWaterModel" "sections" "I") (List.mem_of_getElem? (i := 1) rfl)) (fun _ h9 => h9) rfl dX7_plans_16 ?_
            refine lv_icmp_ge (tgt := 176) hx hb dX7_plans_19 (by decide) (fun b19_2 => ?_) (fun b19_2 => ?_)
            · skip
              have b19_2 : (ns) ≤ (x + d) := (nI_leI (a := ns) (b := x + d) (by omega) (by omega)).mp b19_2
              have b19_2n : ¬ ((x + d) < (ns)) := by omega
              refine lv_iinc (v := (nI (d + 1))) (lv' := [(1, .int (nI (d + 1))), (2, .int (nI (x))), (0, .ref (a 0))]) hx hb dX7_plans_176 hl (k := 1) rfl (by exact nI_add (d) 1) (by decide) rfl (fun ls hl => ?_)
              refine lv_goto (tgt := 2) hx hb dX7_plans_179 (by decide) ?_
              exact ih2 (d + 1) (csw) (clw) _ _ _ (by omega) (by omega) (by exact plR_next hR (by omega)) (lv_sub hl [0, 2] rfl) hP hD hS
            · skip
              have b19_2 : ¬ ((ns) ≤ (x + d)) := fun h => b19_2 ((nI_leI (a := ns) (b := x + d) (by omega) (by omega)).mpr h)
              have b19_2n : (x + d) < (ns) := by omega
              have hxd : x + d < ns := by omega
              refine lv_iload_n hx hb dX7_plans_22 rfl (lv_at hl 0 rfl) ?_
              refine lv_iload_n hx hb dX7_plans_23 rfl (lv_at hl 1 rfl) ?_
              refine lv_iadd hx hb dX7_plans_24 ?_
              refine nw_top (y := nI (x + d)) (nI_add (x) (d)) ?_
              refine lv_istore_n (lv' := [(3, .int (nI (x + d))), (2, .int (nI (x))), (1, .int (nI (d))), (0, .ref (a 0))]) hx hb dX7_plans_25 rfl hl (by decide) rfl (fun ls hl => ?_)
              refine lv_iconst (v := (0)) hx hb dX7_plans_26 (by decide) ?_
              refine lv_istore (lv' := [(4, .int (0)), (3, .int (nI (x + d))), (2, .int (nI (x))), (1, .int (nI (d))), (0, .ref (a 0))]) hx hb dX7_plans_27 hl (by decide) rfl (fun ls hl => ?_)
              refine lv_iload_n hx hb dX7_plans_29 rfl (lv_at hl 2 rfl) ?_
              refine lv_istore (lv' := [(5, .int (nI (x))), (4, .int (0)), (3, .int (nI (x + d))), (2, .int (nI (x))), (1, .int (nI (d))), (0, .ref (a 0))]) hx hb dX7_plans_30 hl (by decide) rfl (fun ls hl => ?_)
              have K32 : ∀ (fuel : Nat) (j : Nat) (sa : Nat) (H : Heap) (locs : List Loc) (ls : Array Slot), (x + 13 - (x + j)) < fuel → (j ≤ d + 1) → (sa = wsN w x j) → lv_has ls 8 [(5, .int (nI (x + j))), (4, .int (nI (sa))), (3, .int (nI (x + d))), (2, .int (nI (x))), (1, .int (nI (d))), (0, .ref (a 0))] → va_P G.1 vwCl ((wM G (a) (n) (cu) (bg) ((coF M)) ((goF M)) (er) (us) (ll) (lm) (lh) (nv) (fr) (tt) (gr) ((hdF2 ML)) (ns) (w) (csw) (clw) (nd) (lo) (ho) (so))) H → va_D vA ((wM G (a) (n) (cu) (bg) ((coF M)) ((goF M)) (er) (us) (ll) (lm) (lh) (nv) (fr) (tt) (gr) ((hdF2 ML)) (ns) (w) (csw) (clw) (nd) (lo) (ho) (so))) → va_S vA vs.heap H locs → W vp lc ve ({ frames := 0, cells := 0, slots := 0, locals := 0 } : Room) vs vm ([.ref (a 0)] : List Value).toArray vb vt vc H locs 0 0 (MQ vb (nwQv G (fun ww => ∃ csv clv : Nat → Int32, plM w ns csv clv ∧ ww = wM G (a) (n) (cu) (bg) ((coF M)) ((goF M)) (er) (us) (ll) (lm) (lh) (nv) (fr) (tt) (gr) ((hdF2 ML)) (ns) (w) (csv) (clv) (nd) (lo) (ho) (so)) vA) ([.ref (a 0)] : List Value).toArray vs ({ frames := 0, cells := 0, slots := 0, locals := 0 } : Room).cells ({ frames := 0, cells := 0, slots := 0, locals := 0 } : Room).slots vA) (F0 vm 32 ls []) := by
                intro fuel
                induction fuel with
                | zero => intro j sa H locs ls hmu; exact absurd hmu (Nat.not_lt_zero _)
                | succ fuel ih32 =>
                  intro j sa H locs ls hmu hj esa hl hP hD hS
                  refine lv_iload hx hb dX7_plans_32 (lv_at hl 0 rfl) ?_
                  refine lv_iload_n hx hb dX7_plans_34 rfl (lv_at hl 2 rfl) ?_
                  refine lv_icmp_gt (tgt := 56) hx hb dX7_plans_35 (by decide) (fun b35_3 => ?_) (fun b35_3 => ?_)
                  · skip
                    have b35_3 : (x + d) < (x + j) := (nI_ltI (a := x + d) (b := x + j) (by omega) (by omega)).mp b35_3
                    have b35_3n : ¬ ((x + j) ≤ (x + d)) := by omega
                    have hall : sa = wsum w x d := by rw [esa, show j = d + 1 by omega, wsN_s]
                    have hsle := wsum_le (a := x) hw d
                    refine lv_bipush (v := (12)) hx hb dX7_plans_56 (by decide) ?_
                    refine lv_iload_n hx hb dX7_plans_58 rfl (lv_at hl 3 rfl) ?_
                    refine lv_imul hx hb dX7_plans_59 ?_
                    refine nw_top (y := nI (12 * x)) (pk_mul (12) (x)) ?_
                    refine lv_iload_n hx hb dX7_plans_60 rfl (lv_at hl 2 rfl) ?_
                    refine lv_iadd hx hb dX7_plans_61 ?_
                    refine nw_top (y := nI (12 * x + (x + d))) (nI_add (12 * x) (x + d)) ?_
                    refine lv_istore (lv' := [(5, .int (nI (12 * x + (x + d)))), (4, .int (nI (sa))), (3, .int (nI (x + d))), (2, .int (nI (x))), (1, .int (nI (d))), (0, .ref (a 0))]) hx hb dX7_plans_62 hl (by decide) rfl (fun ls hl => ?_)
                    refine lv_aload_n hx hb dX7_plans_64 rfl (lv_at hl 5 rfl) ?_
                    refine va_get (D := G.1) (ci := 6) (v := .ref (a 10)) (C := RX7) (T := TX7) (N := 23) hx hb hts in_X7_plans_X7 hown hK.1 hP 0 rfl rfl 17 (by decide) (hts (.fieldLink RX7 47 "NightWaterModel" "cost" "[I") (List.mem_of_getElem? (i := 3) rfl)) (fun _ h9 => h9) rfl dX7_plans_65 ?_
                    refine lv_iload hx hb dX7_plans_68 (lv_at hl 0 rfl) ?_
                    refine lv_iconst (v := (0)) hx hb dX7_plans_70 (by decide) ?_
                    refine nw_iast X hP hD hS 10 (n := 144) (f := csw) rfl (12 * x + (x + d)) rfl (by omega) (by decide) dX7_plans_71 (fun H locs hP hD hS => ?_)
                    have hP : va_P G.1 vwCl ((wM G (a) (n) (cu) (bg) ((coF M)) ((goF M)) (er) (us) (ll) (lm) (lh) (nv) (fr) (tt) (gr) ((hdF2 ML)) (ns) (w) (va_up (csw) (12 * x + (x + d)) (0 : Int32)) (clw) (nd) (lo) (ho) (so))) H := hP
                    have hD : va_D vA ((wM G (a) (n) (cu) (bg) ((coF M)) ((goF M)) (er) (us) (ll) (lm) (lh) (nv) (fr) (tt) (gr) ((hdF2 ML)) (ns) (w) (va_up (csw) (12 * x + (x + d)) (0 : Int32)) (clw) (nd) (lo) (ho) (so))) := hD
                    refine lv_aload_n hx hb dX7_plans_72 rfl (lv_at hl 5 rfl) ?_
                    refine va_get (D := G.1) (ci := 6) (v := .ref (a 11)) (C := RX7) (T := TX7) (N := 23) hx hb hts in_X7_plans_X7 hown hK.1 hP 0 rfl rfl 18 (by decide) (hts (.fieldLink RX7 50 "NightWaterModel" "closes" "[I") (List.mem_of_getElem? (i := 4) rfl)) (fun _ h9 => h9) rfl dX7_plans_73 ?_
                    refine lv_iload hx hb dX7_plans_76 (lv_at hl 0 rfl) ?_
                    refine lv_iconst (v := (-1)) hx hb dX7_plans_78 (by decide) ?_
                    refine nw_iast X hP hD hS 11 (n := 144) (f := clw) rfl (12 * x + (x + d)) rfl (by omega) (by decide) dX7_plans_79 (fun H locs hP hD hS => ?_)
                    have hP : va_P G.1 vwCl ((wM G (a) (n) (cu) (bg) ((coF M)) ((goF M)) (er) (us) (ll) (lm) (lh) (nv) (fr) (tt) (gr) ((hdF2 ML)) (ns) (w) (va_up (csw) (12 * x + (x + d)) (0 : Int32)) (va_up (clw) (12 * x + (x + d)) (-1 : Int32)) (nd) (lo) (ho) (so))) H := hP
                    have hD : va_D vA ((wM G (a) (n) (cu) (bg) ((coF M)) ((goF M)) (er) (us) (ll) (lm) (lh) (nv) (fr) (tt) (gr) ((hdF2 ML)) (ns) (w) (va_up (csw) (12 * x + (x + d)) (0 : Int32)) (va_up (clw) (12 * x + (x + d)) (-1 : Int32)) (nd) (lo) (ho) (so))) := hD
                    refine lv_iload_n hx hb dX7_plans_80 rfl (lv_at hl 3 rfl) ?_
                    refine lv_iconst (v := (1)) hx hb dX7_plans_81 (by decide) ?_
                    refine lv_iadd hx hb dX7_plans_82 ?_
                    refine nw_top (y := nI (x + 1)) (nI_add (x) (1)) ?_
                    refine lv_istore (lv' := [(6, .int (nI (x + 1))), (5, .int (nI (12 * x + (x + d)))), (4, .int (nI (sa))), (3, .int (nI (x + d))), (2, .int (nI (x))), (1, .int (nI (d))), (0, .ref (a 0))]) hx hb dX7_plans_83 hl (by decide) rfl (fun ls hl => ?_)
                    have K85 : ∀ (fuel : Nat) (j2 : Nat) (csx : Nat → Int32) (clx : Nat → Int32) (H : Heap) (locs : List Loc) (ls : Array Slot), (13 - j2) < fuel → (j2 ≤ d) → (plK w d x (12 * x + (x + d)) csw clw j2 csx clx) → lv_has ls 8 [(6, .int (nI (x + 1 + j2))), (5, .int (nI (12 * x + (x + d)))), (4, .int (nI (sa))), (3, .int (nI (x + d))), (2, .int (nI (x))), (1, .int (nI (d))), (0, .ref (a 0))] → va_P G.1 vwCl ((wM G (a) (n) (cu) (bg) ((coF M)) ((goF M)) (er) (us) (ll) (lm) (lh) (nv) (fr) (tt) (gr) ((hdF2 ML)) (ns) (w) (csx) (clx) (nd) (lo) (ho) (so))) H → va_D vA ((wM G (a) (n) (cu) (bg) ((coF M)) ((goF M)) (er) (us) (ll) (lm) (lh) (nv) (fr) (tt) (gr) ((hdF2 ML)) (ns) (w) (csx) (clx) (nd) (lo) (ho) (so))) → va_S vA vs.heap H locs → W vp lc ve ({ frames := 0, cells := 0, slots := 0, locals := 0 } : Room) vs vm ([.ref (a 0)] : List Value).toArray vb vt vc H locs 0 0 (MQ vb (nwQv G (fun ww => ∃ csv clv : Nat → Int32, plM w ns csv clv ∧ ww = wM G (a) (n) (cu) (bg) ((coF M)) ((goF M)) (er) (us) (ll) (lm) (lh) (nv) (fr) (tt) (gr) ((hdF2 ML)) (ns) (w) (csv) (clv) (nd) (lo) (ho) (so)) vA) ([.ref (a 0)] : List Value).toArray vs ({ frames := 0, cells := 0, slots := 0, locals := 0 } : Room).cells ({ frames := 0, cells := 0, slots := 0, locals := 0 } : Room).slots vA) (F0 vm 85 ls []) := by
                      intro fuel
                      induction fuel with
                      | zero => intro j2 csx clx H locs ls hmu; exact absurd hmu (Nat.not_lt_zero _)
                      | succ fuel ih85 =>
                        intro j2 csx clx H locs ls hmu hj2 hKK hl hP hD hS
                        refine lv_iload hx hb dX7_plans_85 (lv_at hl 0 rfl) ?_
                        refine lv_iload_n hx hb dX7_plans_87 rfl (lv_at hl 3 rfl) ?_
                        refine lv_icmp_gt (tgt := 170) hx hb dX7_plans_88 (by decide) (fun b88_4 => ?_) (fun b88_4 => ?_)
                        · skip
                          have b88_4 : (x + d) < (x + 1 + j2) := (nI_ltI (a := x + d) (b := x + 1 + j2) (by omega) (by omega)).mp b88_4
                          have b88_4n : ¬ ((x + 1 + j2) ≤ (x + d)) := by omega
                          refine lv_iinc (v := (nI (x + 1))) (lv' := [(2, .int (nI (x + 1))), (6, .int (nI (x + 1 + j2))), (5, .int (nI (12 * x + (x + d)))), (4, .int (nI (sa))), (3, .int (nI (x + d))), (1, .int (nI (d))), (0, .ref (a 0))]) hx hb dX7_plans_170 hl (k := 4) rfl (by exact nI_add (x) 1) (by decide) rfl (fun ls hl => ?_)
                          refine lv_goto (tgt := 12) hx hb dX7_plans_173 (by decide) ?_
                          exact ih12 (x + 1) (csx) (clx) _ _ _ (by omega) (by omega) (by exact plK_end hKK hR hxd (by omega)) (lv_sub hl [0, 5, 6] rfl) hP hD hS
                        · skip
                          have b88_4 : ¬ ((x + d) < (x + 1 + j2)) := fun h => b88_4 ((nI_ltI (a := x + d) (b := x + 1 + j2) (by omega) (by omega)).mpr h)
                          have b88_4n : (x + 1 + j2) ≤ (x + d) := by omega
                          have hj2b : j2 < d := by omega
                          have hc1 := cF_le hw 11 j2 x (by omega) (by omega)
                          have hc2 := cF_le hw 11 (d - (1 + j2)) (x + (1 + j2)) (by omega) (by omega)
                          refine lv_iload hx hb dX7_plans_91 (lv_at hl 2 rfl) ?_
                          refine lv_aload_n hx hb dX7_plans_93 rfl (lv_at hl 6 rfl) ?_
                          refine va_get (D := G.1) (ci := 6) (v := .ref (a 10)) (C := RX7) (T := TX7) (N := 23) hx hb hts in_X7_plans_X7 hown hK.1 hP 0 rfl rfl 17 (by decide) (hts (.fieldLink RX7 47 "NightWaterModel" "cost" "[I") (List.mem_of_getElem? (i := 3) rfl)) (fun _ h9 => h9) rfl dX7_plans_94 ?_
                          refine lv_bipush (v := (12)) hx hb dX7_plans_97 (by decide) ?_
                          refine lv_iload_n hx hb dX7_plans_99 rfl (lv_at hl 4 rfl) ?_
                          refine lv_imul hx hb dX7_plans_100 ?_
                          refine nw_top (y := nI (12 * x)) (pk_mul (12) (x)) ?_
                          refine lv_iload hx hb dX7_plans_101 (lv_at hl 0 rfl) ?_
                          refine lv_iadd hx hb dX7_plans_103 ?_
                          refine nw_top (y := nI (12 * x + (x + 1 + j2))) (nI_add (12 * x) (x + 1 + j2)) ?_
                          refine lv_iconst (v := (1)) hx hb dX7_plans_104 (by decide) ?_
                          refine lv_isub hx hb dX7_plans_105 ?_
                          refine nw_top (y := nI (12 * x + (x + 1 + j2) - 1)) (pk_sub (a := 12 * x + (x + 1 + j2)) (b := 1) (by omega)) ?_
                          refine nw_iald X hP 10 (n := 144) (f := (csx)) rfl ((12 * x + (x + 1 + j2)) - 1) rfl (by omega) (by decide) dX7_plans_106 ?_
                          refine nw_top (y := nI (cF w j2 x)) (plK_a hKK hR hxd) ?_
                          refine lv_iadd hx hb dX7_plans_107 ?_
                          refine nw_top (y := nI (sa + (cF w j2 x))) (nI_add (sa) (cF w j2 x)) ?_
                          refine lv_aload_n hx hb dX7_plans_108 rfl (lv_at hl 6 rfl) ?_
                          refine va_get (D := G.1) (ci := 6) (v := .ref (a 10)) (C := RX7) (T := TX7) (N := 23) hx hb hts in_X7_plans_X7 hown hK.1 hP 0 rfl rfl 17 (by decide) (hts (.fieldLink RX7 47 "NightWaterModel" "cost" "[I") (List.mem_of_getElem? (i := 3) rfl)) (fun _ h9 => h9) rfl dX7_plans_109 ?_
                          refine lv_bipush (v := (12)) hx hb dX7_plans_112 (by decide) ?_
                          refine lv_iload hx hb dX7_plans_114 (lv_at hl 0 rfl) ?_
                          refine lv_imul hx hb dX7_plans_116 ?_
                          refine nw_top (y := nI (12 * (x + 1 + j2))) (pk_mul (12) (x + 1 + j2)) ?_
                          refine lv_iload_n hx hb dX7_plans_117 rfl (lv_at hl 3 rfl) ?_
                          refine lv_iadd hx hb dX7_plans_118 ?_
                          refine nw_top (y := nI (12 * (x + 1 + j2) + (x + d))) (nI_add (12 * (x + 1 + j2)) (x + d)) ?_
                          refine nw_iald X hP 10 (n := 144) (f := (csx)) rfl (12 * (x + 1 + j2) + (x + d)) rfl (by omega) (by decide) dX7_plans_119 ?_
                          refine nw_top (y := nI (cF w (d - (1 + j2)) (x + (1 + j2)))) (plK_b hKK hR hxd hj2b) ?_
                          refine lv_iadd hx hb dX7_plans_120 ?_
                          refine nw_top (y := nI (sa + (cF w j2 x) + (cF w (d - (1 + j2)) (x + (1 + j2))))) (nI_add (sa + (cF w j2 x)) (cF w (d - (1 + j2)) (x + (1 + j2)))) ?_
                          refine nw_top (y := nI (wsum w x d + part (cF w) d x (1 + j2))) (by rw [plK_v, hall]) ?_
                          refine lv_istore (lv' := [(7, .int (nI ((wsum w x d + part (cF w) d x (1 + j2))))), (6, .int (nI (x + 1 + j2))), (5, .int (nI (12 * x + (x + d)))), (4, .int (nI (sa))), (3, .int (nI (x + d))), (2, .int (nI (x))), (1, .int (nI (d))), (0, .ref (a 0))]) hx hb dX7_plans_121 hl (by decide) rfl (fun ls hl => ?_)
                          refine lv_aload_n hx hb dX7_plans_123 rfl (lv_at hl 7 rfl) ?_
                          refine va_get (D := G.1) (ci := 6) (v := .ref (a 11)) (C := RX7) (T := TX7) (N := 23) hx hb hts in_X7_plans_X7 hown hK.1 hP 0 rfl rfl 18 (by decide) (hts (.fieldLink RX7 50 "NightWaterModel" "closes" "[I") (List.mem_of_getElem? (i := 4) rfl)) (fun _ h9 => h9) rfl dX7_plans_124 ?_
                          refine lv_iload hx hb dX7_plans_127 (lv_at hl 2 rfl) ?_
                          refine nw_iald X hP 11 (n := 144) (f := (clx)) rfl (12 * x + (x + d)) rfl (by omega) (by decide) dX7_plans_129 ?_
                          refine lv_iconst (v := (-1)) hx hb dX7_plans_130 (by decide) ?_
                          refine lv_icmp_eq (tgt := 146) hx hb dX7_plans_131 (by decide) (fun b131_5 => ?_) (fun b131_5 => ?_)
                          · skip
                            have b131_5 : (clx (12 * x + (x + d))) = (-1 : Int32) := b131_5
                            have hj20 : j2 = 0 := plK_is0 hKK b131_5 (by omega)
                            have hnv : True := trivial
                            refine lv_aload_n hx hb dX7_plans_146 rfl (lv_at hl 7 rfl) ?_
                            refine va_get (D := G.1) (ci := 6) (v := .ref (a 10)) (C := RX7) (T := TX7) (N := 23) hx hb hts in_X7_plans_X7 hown hK.1 hP 0 rfl rfl 17 (by decide) (hts (.fieldLink RX7 47 "NightWaterModel" "cost" "[I") (List.mem_of_getElem? (i := 3) rfl)) (fun _ h9 => h9) rfl dX7_plans_147 ?_
                            refine lv_iload hx hb dX7_plans_150 (lv_at hl 2 rfl) ?_
                            refine lv_iload hx hb dX7_plans_152 (lv_at hl 0 rfl) ?_
                            refine nw_iast X hP hD hS 10 (n := 144) (f := csx) rfl (12 * x + (x + d)) rfl (by omega) (by decide) dX7_plans_154 (fun H locs hP hD hS => ?_)
                            have hP : va_P G.1 vwCl ((wM G (a) (n) (cu) (bg) ((coF M)) ((goF M)) (er) (us) (ll) (lm) (lh) (nv) (fr) (tt) (gr) ((hdF2 ML)) (ns) (w) (va_up (csx) (12 * x + (x + d)) (nI ((wsum w x d + part (cF w) d x (1 + j2))))) (clx) (nd) (lo) (ho) (so))) H := hP
                            have hD : va_D vA ((wM G (a) (n) (cu) (bg) ((coF M)) ((goF M)) (er) (us) (ll) (lm) (lh) (nv) (fr) (tt) (gr) ((hdF2 ML)) (ns) (w) (va_up (csx) (12 * x + (x + d)) (nI ((wsum w x d + part (cF w) d x (1 + j2))))) (clx) (nd) (lo) (ho) (so))) := hD
                            refine lv_aload_n hx hb dX7_plans_155 rfl (lv_at hl 7 rfl) ?_
                            refine va_get (D := G.1) (ci := 6) (v := .ref (a 11)) (C := RX7) (T := TX7) (N := 23) hx hb hts in_X7_plans_X7 hown hK.1 hP 0 rfl rfl 18 (by decide) (hts (.fieldLink RX7 50 "NightWaterModel" "closes" "[I") (List.mem_of_getElem? (i := 4) rfl)) (fun _ h9 => h9) rfl dX7_plans_156 ?_
                            refine lv_iload hx hb dX7_plans_159 (lv_at hl 2 rfl) ?_
                            refine lv_iload hx hb dX7_plans_161 (lv_at hl 1 rfl) ?_
                            refine nw_iast X hP hD hS 11 (n := 144) (f := clx) rfl (12 * x + (x + d)) rfl (by omega) (by decide) dX7_plans_163 (fun H locs hP hD hS => ?_)
                            have hP : va_P G.1 vwCl ((wM G (a) (n) (cu) (bg) ((coF M)) ((goF M)) (er) (us) (ll) (lm) (lh) (nv) (fr) (tt) (gr) ((hdF2 ML)) (ns) (w) (va_up (csx) (12 * x + (x + d)) (nI ((wsum w x d + part (cF w) d x (1 + j2))))) (va_up (clx) (12 * x + (x + d)) (nI (x + 1 + j2))) (nd) (lo) (ho) (so))) H := hP
                            have hD : va_D vA ((wM G (a) (n) (cu) (bg) ((coF M)) ((goF M)) (er) (us) (ll) (lm) (lh) (nv) (fr) (tt) (gr) ((hdF2 ML)) (ns) (w) (va_up (csx) (12 * x + (x + d)) (nI ((wsum w x d + part (cF w) d x (1 + j2))))) (va_up (clx) (12 * x + (x + d)) (nI (x + 1 + j2))) (nd) (lo) (ho) (so))) := hD
                            refine lv_iinc (v := (nI (x + 1 + j2 + 1))) (lv' := [(6, .int (nI (x + 1 + j2 + 1))), (7, .int (nI ((wsum w x d + part (cF w) d x (1 + j2))))), (5, .int (nI (12 * x + (x + d)))), (4, .int (nI (sa))), (3, .int (nI (x + d))), (2, .int (nI (x))), (1, .int (nI (d))), (0, .ref (a 0))]) hx hb dX7_plans_164 hl (k := 1) rfl (by exact nI_add (x + 1 + j2) 1) (by decide) rfl (fun ls hl => ?_)
                            refine lv_goto (tgt := 85) hx hb dX7_plans_167 (by decide) ?_
                            exact ih85 (j2 + 1) (va_up (csx) (12 * x + (x + d)) (nI ((wsum w x d + part (cF w) d x (1 + j2))))) (va_up (clx) (12 * x + (x + d)) (nI (x + 1 + j2))) _ _ _ (by omega) (by omega) (by first | exact plK_set0 hKK hj20 | exact plK_set hKK hj20 hnv | exact plK_keep hKK hj20 hnv) (lv_sub hl [0, 2, 3, 4, 5, 6, 7] rfl) hP hD hS
                          · skip
                            have b131_5 : ¬ ((clx (12 * x + (x + d))) = (-1 : Int32)) := b131_5
                            have hj20 : 0 < j2 := plK_pos hKK b131_5
                            have hK2 := plK_has hKK hj20
                            have har := argm_rng (c := cF w) (d := d) (a := x) (j2 - 1)
                            have hp1 := part_le (a := x) hw (k := argm (cF w) d x (j2 - 1)) (d := d) (by omega) (by omega) (by omega)
                            have hp2 := part_le (a := x) hw (k := 1 + j2) (d := d) (by omega) (by omega) (by omega)
                            refine lv_iload hx hb dX7_plans_134 (lv_at hl 0 rfl) ?_
                            refine lv_aload_n hx hb dX7_plans_136 rfl (lv_at hl 7 rfl) ?_
                            refine va_get (D := G.1) (ci := 6) (v := .ref (a 10)) (C := RX7) (T := TX7) (N := 23) hx hb hts in_X7_plans_X7 hown hK.1 hP 0 rfl rfl 17 (by decide) (hts (.fieldLink RX7 47 "NightWaterModel" "cost" "[I") (List.mem_of_getElem? (i := 3) rfl)) (fun _ h9 => h9) rfl dX7_plans_137 ?_
                            refine lv_iload hx hb dX7_plans_140 (lv_at hl 2 rfl) ?_
                            refine nw_iald X hP 10 (n := 144) (f := (csx)) rfl (12 * x + (x + d)) rfl (by omega) (by decide) dX7_plans_142 ?_
                            refine nw_top (y := nI (wsum w x d + part (cF w) d x (argm (cF w) d x (j2 - 1)))) hK2.2 ?_
                            refine lv_icmp_ge (tgt := 164) hx hb dX7_plans_143 (by decide) (fun b143_6 => ?_) (fun b143_6 => ?_)
                            · skip
                              have b143_6 : (wsum w x d + part (cF w) d x (argm (cF w) d x (j2 - 1))) ≤ ((wsum w x d + part (cF w) d x (1 + j2))) := (nI_leI (a := wsum w x d + part (cF w) d x (argm (cF w) d x (j2 - 1))) (b := (wsum w x d + part (cF w) d x (1 + j2))) (by omega) (by omega)).mp b143_6
                              have b143_6n : ¬ (((wsum w x d + part (cF w) d x (1 + j2))) < (wsum w x d + part (cF w) d x (argm (cF w) d x (j2 - 1)))) := by omega
                              have hnv : ¬ part (cF w) d x (1 + j2) < part (cF w) d x (argm (cF w) d x (j2 - 1)) := by omega
                              refine lv_iinc (v := (nI (x + 1 + j2 + 1))) (lv' := [(6, .int (nI (x + 1 + j2 + 1))), (7, .int (nI ((wsum w x d + part (cF w) d x (1 + j2))))), (5, .int (nI (12 * x + (x + d)))), (4, .int (nI (sa))), (3, .int (nI (x + d))), (2, .int (nI (x))), (1, .int (nI (d))), (0, .ref (a 0))]) hx hb dX7_plans_164 hl (k := 1) rfl (by exact nI_add (x + 1 + j2) 1) (by decide) rfl (fun ls hl => ?_)
                              refine lv_goto (tgt := 85) hx hb dX7_plans_167 (by decide) ?_
                              exact ih85 (j2 + 1) (csx) (clx) _ _ _ (by omega) (by omega) (by first | exact plK_set0 hKK hj20 | exact plK_set hKK hj20 hnv | exact plK_keep hKK hj20 hnv) (lv_sub hl [0, 2, 3, 4, 5, 6, 7] rfl) hP hD hS
                            · skip
                              have b143_6 : ¬ ((wsum w x d + part (cF w) d x (argm (cF w) d x (j2 - 1))) ≤ ((wsum w x d + part (cF w) d x (1 + j2)))) := fun h => b143_6 ((nI_leI (a := wsum w x d + part (cF w) d x (argm (cF w) d x (j2 - 1))) (b := (wsum w x d + part (cF w) d x (1 + j2))) (by omega) (by omega)).mpr h)
                              have b143_6n : ((wsum w x d + part (cF w) d x (1 + j2))) < (wsum w x d + part (cF w) d x (argm (cF w) d x (j2 - 1))) := by omega
                              have hnv : part (cF w) d x (1 + j2) < part (cF w) d x (argm (cF w) d x (j2 - 1)) := by omega
                              refine lv_aload_n hx hb dX7_plans_146 rfl (lv_at hl 7 rfl) ?_
                              refine va_get (D := G.1) (ci := 6) (v := .ref (a 10)) (C := RX7) (T := TX7) (N := 23) hx hb hts in_X7_plans_X7 hown hK.1 hP 0 rfl rfl 17 (by decide) (hts (.fieldLink RX7 47 "NightWaterModel" "cost" "[I") (List.mem_of_getElem? (i := 3) rfl)) (fun _ h9 => h9) rfl dX7_plans_147 ?_
                              refine lv_iload hx hb dX7_plans_150 (lv_at hl 2 rfl) ?_
                              refine lv_iload hx hb dX7_plans_152 (lv_at hl 0 rfl) ?_
                              refine nw_iast X hP hD hS 10 (n := 144) (f := csx) rfl (12 * x + (x + d)) rfl (by omega) (by decide) dX7_plans_154 (fun H locs hP hD hS => ?_)
                              have hP : va_P G.1 vwCl ((wM G (a) (n) (cu) (bg) ((coF M)) ((goF M)) (er) (us) (ll) (lm) (lh) (nv) (fr) (tt) (gr) ((hdF2 ML)) (ns) (w) (va_up (csx) (12 * x + (x + d)) (nI ((wsum w x d + part (cF w) d x (1 + j2))))) (clx) (nd) (lo) (ho) (so))) H := hP
                              have hD : va_D vA ((wM G (a) (n) (cu) (bg) ((coF M)) ((goF M)) (er) (us) (ll) (lm) (lh) (nv) (fr) (tt) (gr) ((hdF2 ML)) (ns) (w) (va_up (csx) (12 * x + (x + d)) (nI ((wsum w x d + part (cF w) d x (1 + j2))))) (clx) (nd) (lo) (ho) (so))) := hD
                              refine lv_aload_n hx hb dX7_plans_155 rfl (lv_at hl 7 rfl) ?_
                              refine va_get (D := G.1) (ci := 6) (v := .ref (a 11)) (C := RX7) (T := TX7) (N := 23) hx hb hts in_X7_plans_X7 hown hK.1 hP 0 rfl rfl 18 (by decide) (hts (.fieldLink RX7 50 "NightWaterModel" "closes" "[I") (List.mem_of_getElem? (i := 4) rfl)) (fun _ h9 => h9) rfl dX7_plans_156 ?_
                              refine lv_iload hx hb dX7_plans_159 (lv_at hl 2 rfl) ?_
                              refine lv_iload hx hb dX7_plans_161 (lv_at hl 1 rfl) ?_
                              refine nw_iast X hP hD hS 11 (n := 144) (f := clx) rfl (12 * x + (x + d)) rfl (by omega) (by decide) dX7_plans_163 (fun H locs hP hD hS => ?_)
                              have hP : va_P G.1 vwCl ((wM G (a) (n) (cu) (bg) ((coF M)) ((goF M)) (er) (us) (ll) (lm) (lh) (nv) (fr) (tt) (gr) ((hdF2 ML)) (ns) (w) (va_up (csx) (12 * x + (x + d)) (nI ((wsum w x d + part (cF w) d x (1 + j2))))) (va_up (clx) (12 * x + (x + d)) (nI (x + 1 + j2))) (nd) (lo) (ho) (so))) H := hP
                              have hD : va_D vA ((wM G (a) (n) (cu) (bg) ((coF M)) ((goF M)) (er) (us) (ll) (lm) (lh) (nv) (fr) (tt) (gr) ((hdF2 ML)) (ns) (w) (va_up (csx) (12 * x + (x + d)) (nI ((wsum w x d + part (cF w) d x (1 + j2))))) (va_up (clx) (12 * x + (x + d)) (nI (x + 1 + j2))) (nd) (lo) (ho) (so))) := hD
                              refine lv_iinc (v := (nI (x + 1 + j2 + 1))) (lv' := [(6, .int (nI (x + 1 + j2 + 1))), (7, .int (nI ((wsum w x d + part (cF w) d x (1 + j2))))), (5, .int (nI (12 * x + (x + d)))), (4, .int (nI (sa))), (3, .int (nI (x + d))), (2, .int (nI (x))), (1, .int (nI (d))), (0, .ref (a 0))]) hx hb dX7_plans_164 hl (k := 1) rfl (by exact nI_add (x + 1 + j2) 1) (by decide) rfl (fun ls hl => ?_)
                              refine lv_goto (tgt := 85) hx hb dX7_plans_167 (by decide) ?_
                              exact ih85 (j2 + 1) (va_up (csx) (12 * x + (x + d)) (nI ((wsum w x d + part (cF w) d x (1 + j2))))) (va_up (clx) (12 * x + (x + d)) (nI (x + 1 + j2))) _ _ _ (by omega) (by omega) (by first | exact plK_set0 hKK hj20 | exact plK_set hKK hj20 hnv | exact plK_keep hKK hj20 hnv) (lv_sub hl [0, 2, 3, 4, 5, 6, 7] rfl) hP hD hS
                    exact K85 ((13 - (0)) + 1) (0) (va_up (csw) (12 * x + (x + d)) (0 : Int32)) (va_up (clw) (12 * x + (x + d)) (-1 : Int32)) _ _ _ (Nat.lt_succ_self _) (by omega) (by exact plK_0) (lv_sub hl [0, 1, 2, 3, 4, 5, 6] rfl) hP hD hS
                  · skip
                    have b35_3 : ¬ ((x + d) < (x + j)) := fun h => b35_3 ((nI_ltI (a := x + d) (b := x + j) (by omega) (by omega)).mpr h)
                    have b35_3n : (x + j) ≤ (x + d) := by omega
                    refine lv_iload hx hb dX7_plans_38 (lv_at hl 1 rfl) ?_
                    refine lv_aload_n hx hb dX7_plans_40 rfl (lv_at hl 5 rfl) ?_
                    refine va_get (D := G.1) (ci := 6) (v := .ref (a 9)) (C := RX7) (T := TX7) (N := 23) hx hb hts in_X7_plans_X7 hown hK.1 hP 0 rfl rfl 16 (by decide) (hts (.fieldLink RX7 44 "NightWaterModel" "weight" "[I") (List.mem_of_getElem? (i := 2) rfl)) (fun _ h9 => h9) rfl dX7_plans_41 ?_
                    refine lv_iload hx hb dX7_plans_44 (lv_at hl 0 rfl) ?_
                    refine nw_iald X hP 9 (n := 12) (f := (fun j => nI (w j))) rfl (x + j) rfl (by omega) (by decide) dX7_plans_46 ?_
                    refine lv_iadd hx hb dX7_plans_47 ?_
                    refine nw_top (y := nI (sa + (w (x + j)))) (nI_add (sa) (w (x + j))) ?_
                    refine lv_istore (lv' := [(4, .int (nI (sa + (w (x + j))))), (5, .int (nI (x + j))), (3, .int (nI (x + d))), (2, .int (nI (x))), (1, .int (nI (d))), (0, .ref (a 0))]) hx hb dX7_plans_48 hl (by decide) rfl (fun ls hl => ?_)
                    refine lv_iinc (v := (nI (x + j + 1))) (lv' := [(5, .int (nI (x + j + 1))), (4, .int (nI (sa + (w (x + j))))), (3, .int (nI (x + d))), (2, .int (nI (x))), (1, .int (nI (d))), (0, .ref (a 0))]) hx hb dX7_plans_50 hl (k := 1) rfl (by exact nI_add (x + j) 1) (by decide) rfl (fun ls hl => ?_)
                    refine lv_goto (tgt := 32) hx hb dX7_plans_53 (by decide) ?_
                    exact ih32 (j + 1) (sa + (w (x + j))) _ _ _ (by omega) (by omega) (by rw [esa]; rfl) (lv_sub hl [0, 1, 2, 3, 4, 5] rfl) hP hD hS
              exact K32 ((x + 13 - (x + (0))) + 1) (0) (0) _ _ _ (Nat.lt_succ_self _) (by omega) (by rfl) (lv_sub hl [0, 1, 2, 3, 4, 5] rfl) hP hD hS
        exact K12 ((13 - (0)) + 1) (0) (csv) (clv) _ _ _ (Nat.lt_succ_self _) (by omega) (by exact hDD) (lv_sub hl [0, 1, 2] rfl) hP hD hS
  exact K2 ((13 - (0)) + 1) (0) (cs) (cl) _ _ _ (Nat.lt_succ_self _) (by omega) (by exact plR_0) (lv_sub hl [0, 1] rfl) hP hD hS
set_option maxHeartbeats 4000000 in
set_option maxRecDepth 100000 in
theorem c_X7_isSpan (lc : Launch) (G : nwG) (a : Nat → Nat) (n : Nat) (cu bg : Nat → Int32) (M : Nat → Nat → Int32) (er us ll lm lh : Int32) (nv : Nat) (fr tt gr : Nat → Nat) (ML : Nat → Nat → Int32) (ns : Nat) (w : Nat → Nat) (cs cl : Nat → Int32) (nd : Nat) (lo ho : Nat → Int32) (so : Nat → Nat) (x y : Int32) (hn1 : 1 ≤ ns) (hn12 : ns ≤ 12) : nwCi lc G yX7_isSpan wsX7_isSpan ({ frames := 0, cells := 0, slots := 0, locals := 0 } : Room) [.ref (a 0), .int (x), .int (y)] ((wM G (a) (n) (cu) (bg) ((coF M)) ((goF M)) (er) (us) (ll) (lm) (lh) (nv) (fr) (tt) (gr) ((hdF2 ML)) (ns) (w) (cs) (cl) (nd) (lo) (ho) (so))) (fun r ww => ((r = 1 ∧ ¬ spanBad ns x y) ∨ (r = 0 ∧ spanBad ns x y)) ∧ ww = wM G (a) (n) (cu) (bg) ((coF M)) ((goF M)) (er) (us) (ll) (lm) (lh) (nv) (fr) (tt) (gr) ((hdF2 ML)) (ns) (w) (cs) (cl) (nd) (lo) (ho) (so)) := by
  refine nw_of (cc := cX7_isSpan) (maxL := 3) (ret := (some .boolean)) (by decide) rfl (Nat.le_of_ble_eq_true rfl) ?_
  intro vp ve vs vm vb vt vc vA ls X hP hD hA hS hl
  have X : nwAt vp vm vc cX7_isSpan 3 vs _ wsX7_isSpan RX7 vt (some .boolean) "isSpan" G := X
  have hx := X.1.1
  have hb := X.1.2.1
  have hown := X.1.2.2.2.1
  have hts := X.1.2.2.2.2
  have hK := X.2.2.2.2
  have hl : lv_has ls 3 [(0, .ref (a 0)), (1, .int (x)), (2, .int (y))] := hl
  refine lv_iload_n hx hb dX7_isSpan_0 rfl (lv_at hl 1 rfl) ?_
  refine lv_if_lt (tgt := 21) hx hb dX7_isSpan_1 (by decide) (fun b1_1 => ?_) (fun b1_1 => ?_)
  · skip
    have b1_1 : (x) < (0 : Int32) := b1_1
    have b1_1n : ¬ ((0 : Int32) ≤ (x)) := Int32.not_le.mpr b1_1
    refine lv_iconst (v := (0)) hx hb dX7_isSpan_21 (by decide) ?_
    exact nw_zret (rm := ({ frames := 0, cells := 0, slots := 0, locals := 0 } : Room)) X (by decide) hP hD hS (⟨Or.inr ⟨rfl, span_bad1 b1_1⟩, rfl⟩) dX7_isSpan_22
  · skip
    have b1_1 : ¬ ((x) < (0 : Int32)) := b1_1
    have b1_1n : (0 : Int32) ≤ (x) := Int32.not_lt.mp b1_1
    refine lv_iload_n hx hb dX7_isSpan_4 rfl (lv_at hl 2 rfl) ?_
    refine lv_iload_n hx hb dX7_isSpan_5 rfl (lv_at hl 1 rfl) ?_
    refine lv_icmp_lt (tgt := 21) hx hb dX7_isSpan_6 (by decide) (fun b6_2 => ?_) (fun b6_2 => ?_)
    · skip
      have b6_2 : (y) < (x) := b6_2
      have b6_2n : ¬ ((x) ≤ (y)) := Int32.not_le.mpr b6_2
      refine lv_iconst (v := (0)) hx hb dX7_isSpan_21 (by decide) ?_
      exact nw_zret (rm := ({ frames := 0, cells := 0, slots := 0, locals := 0 } : Room)) X (by decide) hP hD hS (⟨Or.inr ⟨rfl, span_bad2 b6_2⟩, rfl⟩) dX7_isSpan_22
    · skip
      have b6_2 : ¬ ((y) < (x)) := b6_2
      have b6_2n : (x) ≤ (y) := Int32.not_lt.mp b6_2
      refine lv_iload_n hx hb dX7_isSpan_9 rfl (lv_at hl 2 rfl) ?_
      refine lv_aload_n hx hb dX7_isSpan_10 rfl (lv_at hl 0 rfl) ?_
      refine va_get (D := G.1) (ci := 6) (v := .int (nI (ns))) (C := RX7) (T := TX7) (N := 23) hx hb hts in_X7_isSpan_X7 hown hK.1 hP 0 rfl rfl 15 (by decide) (hts (.fieldLink RX7 41 "NightWaterModel" "sections" "I") (List.mem_of_getElem? (i := 1) rfl)) (fun _ h9 => h9) rfl dX7_isSpan_11 ?_
      refine lv_icmp_ge (tgt := 21) hx hb dX7_isSpan_14 (by decide) (fun b14_3 => ?_) (fun b14_3 => ?_)
      · skip
        have b14_3 : (nI (ns)) ≤ (y) := b14_3
        have b14_3n : ¬ ((y) < (nI (ns))) := Int32.not_lt.mpr b14_3
        refine lv_iconst (v := (0)) hx hb dX7_isSpan_21 (by decide) ?_
        exact nw_zret (rm := ({ frames := 0, cells := 0, slots := 0, locals := 0 } : Room)) X (by decide) hP hD hS (⟨Or.inr ⟨rfl, span_bad3 hn1 hn12 b14_3⟩, rfl⟩) dX7_isSpan_22
      · skip
        have b14_3 : ¬ ((nI (ns)) ≤ (y)) := b14_3
        have b14_3n : (y) < (nI (ns)) := Int32.not_le.mp b14_3
        refine lv_iconst (v := (1)) hx hb dX7_isSpan_17 (by decide) ?_
        refine lv_goto (tgt := 22) hx hb dX7_isSpan_18 (by decide) ?_
        exact nw_zret (rm := ({ frames := 0, cells := 0, slots := 0, locals := 0 } : Room)) X (by decide) hP hD hS (⟨Or.inl ⟨rfl, span_good b1_1n b6_2n b14_3n⟩, rfl⟩) dX7_isSpan_22
set_option maxHeartbeats 4000000 in
set_option maxRecDepth 100000 in
theorem c_X7_cost (lc : Launch) (G : nwG) (a : Nat → Nat) (n : Nat) (cu bg : Nat → Int32) (M : Nat → Nat → Int32) (er us ll lm lh : Int32) (nv : Nat) (fr tt gr : Nat → Nat) (ML : Nat → Nat → Int32) (ns : Nat) (w : Nat → Nat) (cs cl : Nat → Int32) (nd : Nat) (lo ho : Nat → Int32) (so : Nat → Nat) (x y : Int32) (hn1 : 1 ≤ ns) (hn12 : ns ≤ 12) (hw : ∀ k, w k ≤ 1000) : nwCi lc G yX7_cost wsX7_cost ({ frames := 1, cells := 0, slots := 0, locals := 27 } : Room) [.ref (a 0), .int (x), .int (y)] ((wM G (a) (n) (cu) (bg) ((coF M)) ((goF M)) (er) (us) (ll) (lm) (lh) (nv) (fr) (tt) (gr) ((hdF2 ML)) (ns) (w) (cs) (cl) (nd) (lo) (ho) (so))) (fun r ww => ∃ csv clv : Nat → Int32, r = costF ns w x y ∧ ww = wM G (a) (n) (cu) (bg) ((coF M)) ((goF M)) (er) (us) (ll) (lm) (lh) (nv) (fr) (tt) (gr) ((hdF2 ML)) (ns) (w) (csv) (clv) (nd) (lo) (ho) (so)) := by
  refine nw_of (cc := cX7_cost) (maxL := 3) (ret := (some .int)) (by decide) rfl (Nat.le_of_ble_eq_true rfl) ?_
  intro vp ve vs vm vb vt vc vA ls X hP hD hA hS hl
  have X : nwAt vp vm vc cX7_cost 3 vs _ wsX7_cost RX7 vt (some .int) "cost" G := X
  have hx := X.1.1
  have hb := X.1.2.1
  have hown := X.1.2.2.2.1
  have hts := X.1.2.2.2.2
  have hK := X.2.2.2.2
  have hl : lv_has ls 3 [(0, .ref (a 0)), (1, .int (x)), (2, .int (y))] := hl
  refine lv_aload_n hx hb dX7_cost_0 rfl (lv_at hl 0 rfl) ?_
  refine lv_iload_n hx hb dX7_cost_1 rfl (lv_at hl 1 rfl) ?_
  refine lv_iload_n hx hb dX7_cost_2 rfl (lv_at hl 2 rfl) ?_
  refine nw_Vi (As := [.int (x), .int (y)]) (rest := []) (q0 := 0) X (c_X7_isSpan lc G (a) (n) (cu) (bg) (M) (er) (us) (ll) (lm) (lh) (nv) (fr) (tt) (gr) (ML) (ns) (w) (cs) (cl) (nd) (lo) (ho) (so) ((x)) ((y)) (by first | assumption | omega) (by first | assumption | omega)) (cwV 2 hts gX7_cost_X7_isSpan rfl rfl rfl (by decide +kernel) ⟨Nat.le_of_ble_eq_true rfl, Nat.le_of_ble_eq_true rfl⟩) rfl (show vwCl[6]? = some (RX7, TX7, 23) from rfl) (nwSp.all ((wM G (a) (n) (cu) (bg) ((coF M)) ((goF M)) (er) (us) (ll) (lm) (lh) (nv) (fr) (tt) (gr) ((hdF2 ML)) (ns) (w) (cs) (cl) (nd) (lo) (ho) (so)))) hP hD hS hA rfl hl.1 rfl (Nat.le_of_ble_eq_true rfl) dX7_cost_3 ⟨Nat.le_of_ble_eq_true rfl, Nat.le_of_ble_eq_true rfl⟩ (fun r w H locs hp_1 hP hD hS => ?_)
  obtain ⟨⟨rfl, q_2⟩ | ⟨rfl, q_2⟩, rfl⟩ := hp_1
  · skip
    have hP : va_P G.1 vwCl ((wM G (a) (n) (cu) (bg) ((coF M)) ((goF M)) (er) (us) (ll) (lm) (lh) (nv) (fr) (tt) (gr) ((hdF2 ML)) (ns) (w) (cs) (cl) (nd) (lo) (ho) (so))) H := hP
    have hD : va_D vA ((wM G (a) (n) (cu) (bg) ((coF M)) ((goF M)) (er) (us) (ll) (lm) (lh) (nv) (fr) (tt) (gr) ((hdF2 ML)) (ns) (w) (cs) (cl) (nd) (lo) (ho) (so))) := hD
    have q_2 : ¬ spanBad (ns) ((x)) ((y)) := q_2
    obtain ⟨za_3, zb_4, h1_5, h2_6, ea_7, eb_8⟩ := span_ok hn12 q_2
    have ec_9 := nw_clamp ea_7 (by omega)
    have ec_10 := nw_clamp eb_8 (by omega)
    refine lv_if_ne (tgt := 12) hx hb dX7_cost_6 (by decide) (fun _ => ?_) (fun c9 => absurd c9 (by decide))
    refine lv_aload_n hx hb dX7_cost_12 rfl (lv_at hl 0 rfl) ?_
    refine nw_Vv (As := []) (rest := []) (q0 := 0) X (c_X7_plans lc G (a) (n) (cu) (bg) (M) (er) (us) (ll) (lm) (lh) (nv) (fr) (tt) (gr) (ML) (ns) (w) (cs) (cl) (nd) (lo) (ho) (so) (by first | assumption | omega) (by first | assumption | omega) (by first | assumption | omega)) (cwV 0 hts gX7_cost_X7_plans rfl rfl rfl (by decide +kernel) ⟨Nat.le_of_ble_eq_true rfl, Nat.le_of_ble_eq_true rfl⟩) rfl (show vwCl[6]? = some (RX7, TX7, 23) from rfl) (nwSp.all ((wM G (a) (n) (cu) (bg) ((coF M)) ((goF M)) (er) (us) (ll) (lm) (lh) (nv) (fr) (tt) (gr) ((hdF2 ML)) (ns) (w) (cs) (cl) (nd) (lo) (ho) (so)))) hP hD hS hA rfl hl.1 rfl (Nat.le_of_ble_eq_true rfl) dX7_cost_13 ⟨Nat.le_of_ble_eq_true rfl, Nat.le_of_ble_eq_true rfl⟩ (fun w H locs hp_12 hP hD hS => ?_)
    obtain ⟨csv_13, clv_14, hplm_15, rfl⟩ := hp_12
    have hP : va_P G.1 vwCl ((wM G (a) (n) (cu) (bg) ((coF M)) ((goF M)) (er) (us) (ll) (lm) (lh) (nv) (fr) (tt) (gr) ((hdF2 ML)) (ns) (w) (csv_13) (clv_14) (nd) (lo) (ho) (so))) H := hP
    have hD : va_D vA ((wM G (a) (n) (cu) (bg) ((coF M)) ((goF M)) (er) (us) (ll) (lm) (lh) (nv) (fr) (tt) (gr) ((hdF2 ML)) (ns) (w) (csv_13) (clv_14) (nd) (lo) (ho) (so))) := hD
    refine lv_aload_n hx hb dX7_cost_16 rfl (lv_at hl 0 rfl) ?_
    refine va_get (D := G.1) (ci := 6) (v := .ref (a 10)) (C := RX7) (T := TX7) (N := 23) hx hb hts in_X7_cost_X7 hown hK.1 hP 0 rfl rfl 17 (by decide) (hts (.fieldLink RX7 47 "NightWaterModel" "cost" "[I") (List.mem_of_getElem? (i := 1) rfl)) (fun _ h9 => h9) rfl dX7_cost_17 ?_
    refine lv_bipush (v := (12)) hx hb dX7_cost_20 (by decide) ?_
    refine lv_iload_n hx hb dX7_cost_22 rfl (lv_at hl 1 rfl) ?_
    refine lv_imul hx hb dX7_cost_23 ?_
    refine nw_top (y := nI (12 * za_3)) (by rw [ea_7]; exact pk_mul (12) (za_3)) ?_
    refine lv_iload_n hx hb dX7_cost_24 rfl (lv_at hl 2 rfl) ?_
    refine lv_iadd hx hb dX7_cost_25 ?_
    refine nw_top (y := nI ((12 * za_3) + zb_4)) (by rw [eb_8]; exact nI_add (12 * za_3) (zb_4)) ?_
    refine nw_iald X hP 10 (n := 144) (f := (csv_13)) rfl ((12 * za_3) + zb_4) rfl (by omega) (by decide) dX7_cost_26 ?_
    exact nw_iret (rm := ({ frames := 1, cells := 0, slots := 0, locals := 27 } : Room)) X hP hD hS (⟨_, _, by simp only [costF, nwIf_T, nwIf_F, or_true, true_or, or_false, false_or, and_true, true_and, and_false, false_and, not_true_eq_false, not_false_eq_true, Nat.add_sub_cancel, q_2, ec_9, ec_10]; exact (hplm_15 za_3 zb_4 h1_5 h2_6).1, rfl⟩) dX7_cost_27
  · skip
    have hP : va_P G.1 vwCl ((wM G (a) (n) (cu) (bg) ((coF M)) ((goF M)) (er) (us) (ll) (lm) (lh) (nv) (fr) (tt) (gr) ((hdF2 ML)) (ns) (w) (cs) (cl) (nd) (lo) (ho) (so))) H := hP
    have hD : va_D vA ((wM G (a) (n) (cu) (bg) ((coF M)) ((goF M)) (er) (us) (ll) (lm) (lh) (nv) (fr) (tt) (gr) ((hdF2 ML)) (ns) (w) (cs) (cl) (nd) (lo) (ho) (so))) := hD
    have q_2 : spanBad (ns) ((x)) ((y)) := q_2
    refine lv_if_ne (tgt := 12) hx hb dX7_cost_6 (by decide) (fun c9 => absurd c9 (by decide)) (fun _ => ?_)
    refine lv_bipush (v := (-2)) hx hb dX7_cost_9 (by decide) ?_
    exact nw_iret (rm := ({ frames := 1, cells := 0, slots := 0, locals := 27 } : Room)) X hP hD hS (⟨_, _, by simp only [costF, nwIf_T, nwIf_F, or_true, true_or, or_false, false_or, and_true, true_and, and_false, false_and, not_true_eq_false, not_false_eq_true, Nat.add_sub_cancel, q_2], rfl⟩) dX7_cost_11
set_option maxHeartbeats 4000000 in
set_option maxRecDepth 100000 in
theorem c_X7_closes (lc : Launch) (G : nwG) (a : Nat → Nat) (n : Nat) (cu bg : Nat → Int32) (M : Nat → Nat → Int32) (er us ll lm lh : Int32) (nv : Nat) (fr tt gr : Nat → Nat) (ML : Nat → Nat → Int32) (ns : Nat) (w : Nat → Nat) (cs cl : Nat → Int32) (nd : Nat) (lo ho : Nat → Int32) (so : Nat → Nat) (x y : Int32) (hn1 : 1 ≤ ns) (hn12 : ns ≤ 12) (hw : ∀ k, w k ≤ 1000) : nwCi lc G yX7_closes wsX7_closes ({ frames := 1, cells := 0, slots := 0, locals := 27 } : Room) [.ref (a 0), .int (x), .int (y)] ((wM G (a) (n) (cu) (bg) ((coF M)) ((goF M)) (er) (us) (ll) (lm) (lh) (nv) (fr) (tt) (gr) ((hdF2 ML)) (ns) (w) (cs) (cl) (nd) (lo) (ho) (so))) (fun r ww => ∃ csv clv : Nat → Int32, r = closesF ns w x y ∧ ww = wM G (a) (n) (cu) (bg) ((coF M)) ((goF M)) (er) (us) (ll) (lm) (lh) (nv) (fr) (tt) (gr) ((hdF2 ML)) (ns) (w) (csv) (clv) (nd) (lo) (ho) (so)) := by
  refine nw_of (cc := cX7_closes) (maxL := 3) (ret := (some .int)) (by decide) rfl (Nat.le_of_ble_eq_true rfl) ?_
  intro vp ve vs vm vb vt vc vA ls X hP hD hA hS hl
  have X : nwAt vp vm vc cX7_closes 3 vs _ wsX7_closes RX7 vt (some .int) "closes" G := X
  have hx := X.1.1
  have hb := X.1.2.1
  have hown := X.1.2.2.2.1
  have hts := X.1.2.2.2.2
  have hK := X.2.2.2.2
  have hl : lv_has ls 3 [(0, .ref (a 0)), (1, .int (x)), (2, .int (y))] := hl
  refine lv_aload_n hx hb dX7_closes_0 rfl (lv_at hl 0 rfl) ?_
  refine lv_iload_n hx hb dX7_closes_1 rfl (lv_at hl 1 rfl) ?_
  refine lv_iload_n hx hb dX7_closes_2 rfl (lv_at hl 2 rfl) ?_
  refine nw_Vi (As := [.int (x), .int (y)]) (rest := []) (q0 := 0) X (c_X7_isSpan lc G (a) (n) (cu) (bg) (M) (er) (us) (ll) (lm) (lh) (nv) (fr) (tt) (gr) (ML) (ns) (w) (cs) (cl) (nd) (lo) (ho) (so) ((x)) ((y)) (by first | assumption | omega) (by first | assumption | omega)) (cwV 2 hts gX7_closes_X7_isSpan rfl rfl rfl (by decide +kernel) ⟨Nat.le_of_ble_eq_true rfl, Nat.le_of_ble_eq_true rfl⟩) rfl (show vwCl[6]? = some (RX7, TX7, 23) from rfl) (nwSp.all ((wM G (a) (n) (cu) (bg) ((coF M)) ((goF M)) (er) (us) (ll) (lm) (lh) (nv) (fr) (tt) (gr) ((hdF2 ML)) (ns) (w) (cs) (cl) (nd) (lo) (ho) (so)))) hP hD hS hA rfl hl.1 rfl (Nat.le_of_ble_eq_true rfl) dX7_closes_3 ⟨Nat.le_of_ble_eq_true rfl, Nat.le_of_ble_eq_true rfl⟩ (fun r w H locs hp_1 hP hD hS => ?_)
  obtain ⟨⟨rfl, q_2⟩ | ⟨rfl, q_2⟩, rfl⟩ := hp_1
  · skip
    have hP : va_P G.1 vwCl ((wM G (a) (n) (cu) (bg) ((coF M)) ((goF M)) (er) (us) (ll) (lm) (lh) (nv) (fr) (tt) (gr) ((hdF2 ML)) (ns) (w) (cs) (cl) (nd) (lo) (ho) (so))) H := hP
    have hD : va_D vA ((wM G (a) (n) (cu) (bg) ((coF M)) ((goF M)) (er) (us) (ll) (lm) (lh) (nv) (fr) (tt) (gr) ((hdF2 ML)) (ns) (w) (cs) (cl) (nd) (lo) (ho) (so))) := hD
    have q_2 : ¬ spanBad (ns) ((x)) ((y)) := q_2
    obtain ⟨za_3, zb_4, h1_5, h2_6, ea_7, eb_8⟩ := span_ok hn12 q_2
    have ec_9 := nw_clamp ea_7 (by omega)
    have ec_10 := nw_clamp eb_8 (by omega)
    refine lv_if_ne (tgt := 12) hx hb dX7_closes_6 (by decide) (fun _ => ?_) (fun c9 => absurd c9 (by decide))
    refine lv_aload_n hx hb dX7_closes_12 rfl (lv_at hl 0 rfl) ?_
    refine nw_Vv (As := []) (rest := []) (q0 := 0) X (c_X7_plans lc G (a) (n) (cu) (bg) (M) (er) (us) (ll) (lm) (lh) (nv) (fr) (tt) (gr) (ML) (ns) (w) (cs) (cl) (nd) (lo) (ho) (so) (by first | assumption | omega) (by first | assumption | omega) (by first | assumption | omega)) (cwV 0 hts gX7_closes_X7_plans rfl rfl rfl (by decide +kernel) ⟨Nat.le_of_ble_eq_true rfl, Nat.le_of_ble_eq_true rfl⟩) rfl (show vwCl[6]? = some (RX7, TX7, 23) from rfl) (nwSp.all ((wM G (a) (n) (cu) (bg) ((coF M)) ((goF M)) (er) (us) (ll) (lm) (lh) (nv) (fr) (tt) (gr) ((hdF2 ML)) (ns) (w) (cs) (cl) (nd) (lo) (ho) (so)))) hP hD hS hA rfl hl.1 rfl (Nat.le_of_ble_eq_true rfl) dX7_closes_13 ⟨Nat.le_of_ble_eq_true rfl, Nat.le_of_ble_eq_true rfl⟩ (fun w H locs hp_12 hP hD hS => ?_)
    obtain ⟨csv_13, clv_14, hplm_15, rfl⟩ := hp_12
    have hP : va_P G.1 vwCl ((wM G (a) (n) (cu) (bg) ((coF M)) ((goF M)) (er) (us) (ll) (lm) (lh) (nv) (fr) (tt) (gr) ((hdF2 ML)) (ns) (w) (csv_13) (clv_14) (nd) (lo) (ho) (so))) H := hP
    have hD : va_D vA ((wM G (a) (n) (cu) (bg) ((coF M)) ((goF M)) (er) (us) (ll) (lm) (lh) (nv) (fr) (tt) (gr) ((hdF2 ML)) (ns) (w) (csv_13) (clv_14) (nd) (lo) (ho) (so))) := hD
    refine lv_aload_n hx hb dX7_closes_16 rfl (lv_at hl 0 rfl) ?_
    refine va_get (D := G.1) (ci := 6) (v := .ref (a 11)) (C := RX7) (T := TX7) (N := 23) hx hb hts in_X7_closes_X7 hown hK.1 hP 0 rfl rfl 18 (by decide) (hts (.fieldLink RX7 50 "NightWaterModel" "closes" "[I") (List.mem_of_getElem? (i := 1) rfl)) (fun _ h9 => h9) rfl dX7_closes_17 ?_
    refine lv_bipush (v := (12)) hx hb dX7_closes_20 (by decide) ?_
    refine lv_iload_n hx hb dX7_closes_22 rfl (lv_at hl 1 rfl) ?_
    refine lv_imul hx hb dX7_closes_23 ?_
    refine nw_top (y := nI (12 * za_3)) (by rw [ea_7]; exact pk_mul (12) (za_3)) ?_
    refine lv_iload_n hx hb dX7_closes_24 rfl (lv_at hl 2 rfl) ?_
    refine lv_iadd hx hb dX7_closes_25 ?_
    refine nw_top (y := nI ((12 * za_3) + zb_4)) (by rw [eb_8]; exact nI_add (12 * za_3) (zb_4)) ?_
    refine nw_iald X hP 11 (n := 144) (f := (clv_14)) rfl ((12 * za_3) + zb_4) rfl (by omega) (by decide) dX7_closes_26 ?_
    exact nw_iret (rm := ({ frames := 1, cells := 0, slots := 0, locals := 27 } : Room)) X hP hD hS (⟨_, _, by simp only [closesF, nwIf_T, nwIf_F, or_true, true_or, or_false, false_or, and_true, true_and, and_false, false_and, not_true_eq_false, not_false_eq_true, Nat.add_sub_cancel, q_2, ec_9, ec_10]; exact (hplm_15 za_3 zb_4 h1_5 h2_6).2, rfl⟩) dX7_closes_27
  · skip
    have hP : va_P G.1 vwCl ((wM G (a) (n) (cu) (bg) ((coF M)) ((goF M)) (er) (us) (ll) (lm) (lh) (nv) (fr) (tt) (gr) ((hdF2 ML)) (ns) (w) (cs) (cl) (nd) (lo) (ho) (so))) H := hP
    have hD : va_D vA ((wM G (a) (n) (cu) (bg) ((coF M)) ((goF M)) (er) (us) (ll) (lm) (lh) (nv) (fr) (tt) (gr) ((hdF2 ML)) (ns) (w) (cs) (cl) (nd) (lo) (ho) (so))) := hD
    have q_2 : spanBad (ns) ((x)) ((y)) := q_2
    refine lv_if_ne (tgt := 12) hx hb dX7_closes_6 (by decide) (fun c9 => absurd c9 (by decide)) (fun _ => ?_)
    refine lv_bipush (v := (-2)) hx hb dX7_closes_9 (by decide) ?_
    exact nw_iret (rm := ({ frames := 1, cells := 0, slots := 0, locals := 27 } : Room)) X hP hD hS (⟨_, _, by simp only [closesF, nwIf_T, nwIf_F, or_true, true_or, or_false, false_or, and_true, true_and, and_false, false_and, not_true_eq_false, not_false_eq_true, Nat.add_sub_cancel, q_2], rfl⟩) dX7_closes_11
set_option maxHeartbeats 4000000 in
set_option maxRecDepth 100000 in
theorem c_X7_closings (lc : Launch) (G : nwG) (a : Nat → Nat) (n : Nat) (cu bg : Nat → Int32) (M : Nat → Nat → Int32) (er us ll lm lh : Int32) (nv : Nat) (fr tt gr : Nat → Nat) (ML : Nat → Nat → Int32) (ns : Nat) (w : Nat → Nat) (cs cl : Nat → Int32) (nd : Nat) (lo ho : Nat → Int32) (so : Nat → Nat) (i : Int32) (hn1 : 1 ≤ ns) (hn12 : ns ≤ 12) (hw : ∀ k, w k ≤ 1000) : nwCi lc G yX7_closings wsX7_closings ({ frames := 1, cells := 0, slots := 0, locals := 27 } : Room) [.ref (a 0), .int (i)] ((wM G (a) (n) (cu) (bg) ((coF M)) ((goF M)) (er) (us) (ll) (lm) (lh) (nv) (fr) (tt) (gr) ((hdF2 ML)) (ns) (w) (cs) (cl) (nd) (lo) (ho) (so))) (fun r ww => ∃ csv clv : Nat → Int32, r = closingsF ns w i ∧ ww = wM G (a) (n) (cu) (bg) ((coF M)) ((goF M)) (er) (us) (ll) (lm) (lh) (nv) (fr) (tt) (gr) ((hdF2 ML)) (ns) (w) (csv) (clv) (nd) (lo) (ho) (so)) := by
  refine nw_of (cc := cX7_closings) (maxL := 6) (ret := (some .int)) (by decide) rfl (Nat.le_of_ble_eq_true rfl) ?_
  intro vp ve vs vm vb vt vc vA ls X hP hD hA hS hl
  have X : nwAt vp vm vc cX7_closings 6 vs _ wsX7_closings RX7 vt (some .int) "closings" G := X
  have hx := X.1.1
  have hb := X.1.2.1
  have hown := X.1.2.2.2.1
  have hts := X.1.2.2.2.2
  have hK := X.2.2.2.2
  have hl : lv_has ls 6 [(0, .ref (a 0)), (1, .int (i))] := hl
  refine lv_iload_n hx hb dX7_closings_0 rfl (lv_at hl 1 rfl) ?_
  refine lv_iconst (v := (0)) hx hb dX7_closings_1 (by decide) ?_
  refine lv_aload_n hx hb dX7_closings_2 rfl (lv_at hl 0 rfl) ?_
  refine va_get (D := G.1) (ci := 6) (v := .int (nI (ns))) (C := RX7) (T := TX7) (N := 23) hx hb hts in_X7_closings_X7 hown hK.1 hP 0 rfl rfl 15 (by decide) (hts (.fieldLink RX7 41 "NightWaterModel" "sections" "I") (List.mem_of_getElem? (i := 1) rfl)) (fun _ h9 => h9) rfl dX7_closings_3 ?_
  refine lv_iconst (v := (1)) hx hb dX7_closings_6 (by decide) ?_
  refine lv_isub hx hb dX7_closings_7 ?_
  refine nw_Si (As := [.int (i), .int (0), .int ((nI (ns)) - (1 : Int32))]) (rest := []) X (c_X7_in lc G ((i)) ((0 : Int32)) (((nI (ns)) - (1 : Int32))) ) (va_cwS 3 hts gX7_closings_X7_in rfl rfl rfl (by decide +kernel) ⟨Nat.le_of_ble_eq_true rfl, Nat.le_of_ble_eq_true rfl⟩) (fun _ _ h => h.2) hP hD hS hA rfl hl.1 rfl (Nat.le_of_ble_eq_true rfl) dX7_closings_8 ⟨Nat.le_of_ble_eq_true rfl, Nat.le_of_ble_eq_true rfl⟩ (fun r H locs hp_1 hP hD hS => ?_)
  obtain ⟨⟨rfl, q_2⟩ | ⟨rfl, q_2⟩, -⟩ := hp_1
  · skip
    have q_2 : ¬ out ((i)) ((0 : Int32)) (((nI (ns)) - (1 : Int32))) := q_2
    obtain ⟨z_3, hz_4, he_5⟩ := nw_lt (n := ns) (by omega) q_2
    have ec_6 := nw_clamp he_5 (by omega)
    refine lv_if_ne (tgt := 17) hx hb dX7_closings_11 (by decide) (fun _ => ?_) (fun c9 => absurd c9 (by decide))
    rw [he_5] at hl
    have hl : lv_has ls 6 [(0, .ref (a 0)), (1, .int (nI (z_3)))] := hl
    refine lv_aload_n hx hb dX7_closings_17 rfl (lv_at hl 0 rfl) ?_
    refine nw_Vv (As := []) (rest := []) (q0 := 0) X (c_X7_plans lc G (a) (n) (cu) (bg) (M) (er) (us) (ll) (lm) (lh) (nv) (fr) (tt) (gr) (ML) (ns) (w) (cs) (cl) (nd) (lo) (ho) (so) (by first | assumption | omega) (by first | assumption | omega) (by first | assumption | omega)) (cwV 0 hts gX7_closings_X7_plans rfl rfl rfl (by decide +kernel) ⟨Nat.le_of_ble_eq_true rfl, Nat.le_of_ble_eq_true rfl⟩) rfl (show vwCl[6]? = some (RX7, TX7, 23) from rfl) (nwSp.all ((wM G (a) (n) (cu) (bg) ((coF M)) ((goF M)) (er) (us) (ll) (lm) (lh) (nv) (fr) (tt) (gr) ((hdF2 ML)) (ns) (w) (cs) (cl) (nd) (lo) (ho) (so)))) hP hD hS hA rfl hl.1 rfl (Nat.le_of_ble_eq_true rfl) dX7_closings_18 ⟨Nat.le_of_ble_eq_true rfl, Nat.le_of_ble_eq_true rfl⟩ (fun w H locs hp_8 hP hD hS => ?_)
    obtain ⟨csv_9, clv_10, hplm_11, rfl⟩ := hp_8
    have hP : va_P G.1 vwCl ((wM G (a) (n) (cu) (bg) ((coF M)) ((goF M)) (er) (us) (ll) (lm) (lh) (nv) (fr) (tt) (gr) ((hdF2 ML)) (ns) (w) (csv_9) (clv_10) (nd) (lo) (ho) (so))) H := hP
    have hD : va_D vA ((wM G (a) (n) (cu) (bg) ((coF M)) ((goF M)) (er) (us) (ll) (lm) (lh) (nv) (fr) (tt) (gr) ((hdF2 ML)) (ns) (w) (csv_9) (clv_10) (nd) (lo) (ho) (so))) := hD
    refine lv_iconst (v := (0)) hx hb dX7_closings_21 (by decide) ?_
    refine lv_istore_n (lv' := [(2, .int (0)), (0, .ref (a 0)), (1, .int (nI (z_3)))]) hx hb dX7_closings_22 rfl hl (by decide) rfl (fun ls hl => ?_)
    refine lv_iconst (v := (0)) hx hb dX7_closings_23 (by decide) ?_
    refine lv_istore_n (lv' := [(3, .int (0)), (2, .int (0)), (0, .ref (a 0)), (1, .int (nI (z_3)))]) hx hb dX7_closings_24 rfl hl (by decide) rfl (fun ls hl => ?_)
    refine lv_aload_n hx hb dX7_closings_25 rfl (lv_at hl 2 rfl) ?_
    refine va_get (D := G.1) (ci := 6) (v := .int (nI (ns))) (C := RX7) (T := TX7) (N := 23) hx hb hts in_X7_closings_X7 hown hK.1 hP 0 rfl rfl 15 (by decide) (hts (.fieldLink RX7 41 "NightWaterModel" "sections" "I") (List.mem_of_getElem? (i := 1) rfl)) (fun _ h9 => h9) rfl dX7_closings_26 ?_
    refine lv_iconst (v := (1)) hx hb dX7_closings_29 (by decide) ?_
    refine lv_isub hx hb dX7_closings_30 ?_
    refine nw_top (y := nI (ns - 1)) (pk_sub (a := ns) (b := 1) (by omega)) ?_
    refine lv_istore (lv' := [(4, .int (nI (ns - 1))), (3, .int (0)), (2, .int (0)), (0, .ref (a 0)), (1, .int (nI (z_3)))]) hx hb dX7_closings_31 hl (by decide) rfl (fun ls hl => ?_)
    have K33 : ∀ (fuel : Nat) (x4 : Nat) (x2 : Nat) (x3 : Nat) (H : Heap) (locs : List Loc) (ls : Array Slot), (x3 - x2) < fuel → (x2 ≤ x3) → (x3 < ns) → (x4 + (x3 - x2) ≤ 11) → (x4 + clW w z_3 (12 - x4) x2 x3 = clW w z_3 12 0 (ns - 1)) → lv_has ls 6 [(4, .int (nI (x3))), (3, .int (nI (x2))), (2, .int (nI (x4))), (0, .ref (a 0)), (1, .int (nI (z_3)))] → va_P G.1 vwCl ((wM G (a) (n) (cu) (bg) ((coF M)) ((goF M)) (er) (us) (ll) (lm) (lh) (nv) (fr) (tt) (gr) ((hdF2 ML)) (ns) (w) (csv_9) (clv_10) (nd) (lo) (ho) (so))) H → va_D vA ((wM G (a) (n) (cu) (bg) ((coF M)) ((goF M)) (er) (us) (ll) (lm) (lh) (nv) (fr) (tt) (gr) ((hdF2 ML)) (ns) (w) (csv_9) (clv_10) (nd) (lo) (ho) (so))) → va_S vA vs.heap H locs → W vp lc ve ({ frames := 1, cells := 0, slots := 0, locals := 27 } : Room) vs vm ([.ref (a 0), .int (i)] : List Value).toArray vb vt vc H locs 0 0 (MQ vb (nwQi G (fun r ww => ∃ csv clv : Nat → Int32, r = closingsF ns w i ∧ ww = wM G (a) (n) (cu) (bg) ((coF M)) ((goF M)) (er) (us) (ll) (lm) (lh) (nv) (fr) (tt) (gr) ((hdF2 ML)) (ns) (w) (csv) (clv) (nd) (lo) (ho) (so)) vA) ([.ref (a 0), .int (i)] : List Value).toArray vs ({ frames := 1, cells := 0, slots := 0, locals := 27 } : Room).cells ({ frames := 1, cells := 0, slots := 0, locals := 27 } : Room).slots vA) (F0 vm 33 ls []) := by
      intro fuel
      induction fuel with
      | zero => intro x4 x2 x3 H locs ls hmu; exact absurd hmu (Nat.not_lt_zero _)
      | succ fuel ih33 =>
        intro x4 x2 x3 H locs ls hmu h23 h3n h4 ecl hl hP hD hS
        refine lv_iload_n hx hb dX7_closings_33 rfl (lv_at hl 1 rfl) ?_
        refine lv_iload hx hb dX7_closings_34 (lv_at hl 0 rfl) ?_
        refine lv_icmp_ge (tgt := 89) hx hb dX7_closings_36 (by decide) (fun b36_12 => ?_) (fun b36_12 => ?_)
        · skip
          have b36_12 : (x3) ≤ (x2) := (nI_leI (a := x3) (b := x2) (by omega) (by omega)).mp b36_12
          have b36_12n : ¬ ((x2) < (x3)) := by omega
          refine lv_iload_n hx hb dX7_closings_89 rfl (lv_at hl 2 rfl) ?_
          exact nw_iret (rm := ({ frames := 1, cells := 0, slots := 0, locals := 27 } : Room)) X hP hD hS (⟨_, _, by simp only [closingsF, nwIf_T, nwIf_F, or_true, true_or, or_false, false_or, and_true, true_and, and_false, false_and, not_true_eq_false, not_false_eq_true, Nat.add_sub_cancel, q_2, ec_6, b36_12n, b36_12]; rw [← ecl, clW_e (by omega), Nat.add_zero], rfl⟩) dX7_closings_90
        · skip
          have b36_12 : ¬ ((x3) ≤ (x2)) := fun h => b36_12 ((nI_leI (a := x3) (b := x2) (by omega) (by omega)).mpr h)
          have b36_12n : (x2) < (x3) := by omega
          have hab := hplm_11 x2 x3 (by omega) (by omega)
          have hsr := sF_rng (w := w) (d := x3 - x2) (a := x2) (by omega)
          have hst : clv_10 (12 * x2 + x3) = nI (sF w (x3 - x2) x2) := by rw [hab.2]; unfold stF; rw [if_neg (by omega)]
          refine lv_aload_n hx hb dX7_closings_39 rfl (lv_at hl 3 rfl) ?_
          refine va_get (D := G.1) (ci := 6) (v := .ref (a 11)) (C := RX7) (T := TX7) (N := 23) hx hb hts in_X7_closings_X7 hown hK.1 hP 0 rfl rfl 18 (by decide) (hts (.fieldLink RX7 50 "NightWaterModel" "closes" "[I") (List.mem_of_getElem? (i := 2) rfl)) (fun _ h9 => h9) rfl dX7_closings_40 ?_
          refine lv_bipush (v := (12)) hx hb dX7_closings_43 (by decide) ?_
          refine lv_iload_n hx hb dX7_closings_45 rfl (lv_at hl 1 rfl) ?_
          refine lv_imul hx hb dX7_closings_46 ?_
          refine nw_top (y := nI (12 * x2)) (pk_mul (12) (x2)) ?_
          refine lv_iload hx hb dX7_closings_47 (lv_at hl 0 rfl) ?_
          refine lv_iadd hx hb dX7_closings_49 ?_
          refine nw_top (y := nI (12 * x2 + x3)) (nI_add (12 * x2) (x3)) ?_
          refine nw_iald X hP 11 (n := 144) (f := (clv_10)) rfl (12 * x2 + x3) rfl (by omega) (by decide) dX7_closings_50 ?_
          refine nw_top (y := nI (sF w (x3 - x2) x2)) hst ?_
          refine lv_istore (lv' := [(5, .int (nI (sF w (x3 - x2) x2))), (4, .int (nI (x3))), (3, .int (nI (x2))), (2, .int (nI (x4))), (0, .ref (a 0)), (1, .int (nI (z_3)))]) hx hb dX7_closings_51 hl (by decide) rfl (fun ls hl => ?_)
          refine lv_iload_n hx hb dX7_closings_53 rfl (lv_at hl 5 rfl) ?_
          refine lv_iload hx hb dX7_closings_54 (lv_at hl 0 rfl) ?_
          refine lv_icmp_ge (tgt := 63) hx hb dX7_closings_56 (by decide) (fun b56_13 => ?_) (fun b56_13 => ?_)
          · skip
            have b56_13 : (sF w (x3 - x2) x2) ≤ (z_3) := (nI_leI (a := sF w (x3 - x2) x2) (b := z_3) (by omega) (by omega)).mp b56_13
            have b56_13n : ¬ ((z_3) < (sF w (x3 - x2) x2)) := by omega
            have hil : ¬ z_3 < sF w (x3 - x2) x2 := by omega
            refine lv_iload hx hb dX7_closings_63 (lv_at hl 0 rfl) ?_
            refine lv_istore_n (lv' := [(3, .int (nI (sF w (x3 - x2) x2))), (5, .int (nI (sF w (x3 - x2) x2))), (4, .int (nI (x3))), (2, .int (nI (x4))), (0, .ref (a 0)), (1, .int (nI (z_3)))]) hx hb dX7_closings_65 rfl hl (by decide) rfl (fun ls hl => ?_)
            refine lv_iload_n hx hb dX7_closings_66 rfl (lv_at hl 5 rfl) ?_
            refine lv_iload hx hb dX7_closings_67 (lv_at hl 1 rfl) ?_
            refine lv_icmp_ge (tgt := 79) hx hb dX7_closings_69 (by decide) (fun b69_14 => ?_) (fun b69_14 => ?_)
            · skip
              have b69_14 : (sF w (x3 - x2) x2) ≤ (z_3) := (nI_leI (a := sF w (x3 - x2) x2) (b := z_3) (by omega) (by omega)).mp b69_14
              have b69_14n : ¬ ((z_3) < (sF w (x3 - x2) x2)) := by omega
              refine lv_iload hx hb dX7_closings_79 (lv_at hl 2 rfl) ?_
              refine lv_istore (lv' := [(4, .int (nI (x3))), (3, .int (nI (sF w (x3 - x2) x2))), (5, .int (nI (sF w (x3 - x2) x2))), (2, .int (nI (x4))), (0, .ref (a 0)), (1, .int (nI (z_3)))]) hx hb dX7_closings_81 hl (by decide) rfl (fun ls hl => ?_)
              refine lv_iinc (v := (nI (x4 + 1))) (lv' := [(2, .int (nI (x4 + 1))), (4, .int (nI (x3))), (3, .int (nI (sF w (x3 - x2) x2))), (5, .int (nI (sF w (x3 - x2) x2))), (0, .ref (a 0)), (1, .int (nI (z_3)))]) hx hb dX7_closings_83 hl (k := 3) rfl (by exact nI_add (x4) 1) (by decide) rfl (fun ls hl => ?_)
              refine lv_goto (tgt := 33) hx hb dX7_closings_86 (by decide) ?_
              exact ih33 (x4 + 1) (sF w (x3 - x2) x2) (x3) _ _ _ (by omega) (by omega) (by omega) (by omega) (by rw [← ecl]; first | exact cl_step hil (by omega) (by omega) | exact cl_step2 hil (by omega) (by omega)) (lv_sub hl [1, 2, 0, 4, 5] rfl) hP hD hS
            · skip
              have b69_14 : ¬ ((sF w (x3 - x2) x2) ≤ (z_3)) := fun h => b69_14 ((nI_leI (a := sF w (x3 - x2) x2) (b := z_3) (by omega) (by omega)).mpr h)
              have b69_14n : (z_3) < (sF w (x3 - x2) x2) := by omega
              omega
          · skip
            have b56_13 : ¬ ((sF w (x3 - x2) x2) ≤ (z_3)) := fun h => b56_13 ((nI_leI (a := sF w (x3 - x2) x2) (b := z_3) (by omega) (by omega)).mpr h)
            have b56_13n : (z_3) < (sF w (x3 - x2) x2) := by omega
            have hil : z_3 < sF w (x3 - x2) x2 := by omega
            refine lv_iload_n hx hb dX7_closings_59 rfl (lv_at hl 2 rfl) ?_
            refine lv_goto (tgt := 65) hx hb dX7_closings_60 (by decide) ?_
            refine lv_istore_n (lv' := [(3, .int (nI (x2))), (5, .int (nI (sF w (x3 - x2) x2))), (4, .int (nI (x3))), (2, .int (nI (x4))), (0, .ref (a 0)), (1, .int (nI (z_3)))]) hx hb dX7_closings_65 rfl hl (by decide) rfl (fun ls hl => ?_)
            refine lv_iload_n hx hb dX7_closings_66 rfl (lv_at hl 5 rfl) ?_
            refine lv_iload hx hb dX7_closings_67 (lv_at hl 1 rfl) ?_
            refine lv_icmp_ge (tgt := 79) hx hb dX7_closings_69 (by decide) (fun b69_15 => ?_) (fun b69_15 => ?_)
            · skip
              have b69_15 : (sF w (x3 - x2) x2) ≤ (z_3) := (nI_leI (a := sF w (x3 - x2) x2) (b := z_3) (by omega) (by omega)).mp b69_15
              have b69_15n : ¬ ((z_3) < (sF w (x3 - x2) x2)) := by omega
              omega
            · skip
              have b69_15 : ¬ ((sF w (x3 - x2) x2) ≤ (z_3)) := fun h => b69_15 ((nI_leI (a := sF w (x3 - x2) x2) (b := z_3) (by omega) (by omega)).mpr h)
              have b69_15n : (z_3) < (sF w (x3 - x2) x2) := by omega
              refine lv_iload hx hb dX7_closings_72 (lv_at hl 1 rfl) ?_
              refine lv_iconst (v := (1)) hx hb dX7_closings_74 (by decide) ?_
              refine lv_isub hx hb dX7_closings_75 ?_
              refine nw_top (y := nI (sF w (x3 - x2) x2 - 1)) (pk_sub (a := sF w (x3 - x2) x2) (b := 1) (by omega)) ?_
              refine lv_goto (tgt := 81) hx hb dX7_closings_76 (by decide) ?_
              refine lv_istore (lv' := [(4, .int (nI ((sF w (x3 - x2) x2) - 1))), (3, .int (nI (x2))), (5, .int (nI (sF w (x3 - x2) x2))), (2, .int (nI (x4))), (0, .ref (a 0)), (1, .int (nI (z_3)))]) hx hb dX7_closings_81 hl (by decide) rfl (fun ls hl => ?_)
              refine lv_iinc (v := (nI (x4 + 1))) (lv' := [(2, .int (nI (x4 + 1))), (4, .int (nI ((sF w (x3 - x2) x2) - 1))), (3, .int (nI (x2))), (5, .int (nI (sF w (x3 - x2) x2))), (0, .ref (a 0)), (1, .int (nI (z_3)))]) hx hb dX7_closings_83 hl (k := 3) rfl (by exact nI_add (x4) 1) (by decide) rfl (fun ls hl => ?_)
              refine lv_goto (tgt := 33) hx hb dX7_closings_86 (by decide) ?_
              exact ih33 (x4 + 1) (x2) ((sF w (x3 - x2) x2) - 1) _ _ _ (by omega) (by omega) (by omega) (by omega) (by rw [← ecl]; first | exact cl_step hil (by omega) (by omega) | exact cl_step2 hil (by omega) (by omega)) (lv_sub hl [1, 2, 0, 4, 5] rfl) hP hD hS
    exact K33 (((ns - 1) - (0)) + 1) (0) (0) (ns - 1) _ _ _ (Nat.lt_succ_self _) (by omega) (by omega) (by omega) (by rw [Nat.zero_add]) (lv_sub hl [0, 1, 2, 3, 4] rfl) hP hD hS
  · skip
    have q_2 : out ((i)) ((0 : Int32)) (((nI (ns)) - (1 : Int32))) := q_2
    refine lv_if_ne (tgt := 17) hx hb dX7_closings_11 (by decide) (fun c9 => absurd c9 (by decide)) (fun _ => ?_)
    refine lv_bipush (v := (-2)) hx hb dX7_closings_14 (by decide) ?_
    exact nw_iret (rm := ({ frames := 1, cells := 0, slots := 0, locals := 27 } : Room)) X hP hD hS (⟨_, _, by simp only [closingsF, nwIf_T, nwIf_F, or_true, true_or, or_false, false_or, and_true, true_and, and_false, false_and, not_true_eq_false, not_false_eq_true, Nat.add_sub_cancel, q_2], rfl⟩) dX7_closings_16
set_option maxHeartbeats 4000000 in
set_option maxRecDepth 100000 in
theorem c_X7_dig (lc : Launch) (G : nwG) (a : Nat → Nat) (n : Nat) (cu bg : Nat → Int32) (M : Nat → Nat → Int32) (er us ll lm lh : Int32) (nv : Nat) (fr tt gr : Nat → Nat) (ML : Nat → Nat → Int32) (ns : Nat) (w : Nat → Nat) (cs cl : Nat → Int32) (nd : Nat) (lo ho : Nat → Int32) (so : Nat → Nat) (x y : Int32) (hnd : nd ≤ 8) : nwCi lc G yX7_dig wsX7_dig ({ frames := 1, cells := 0, slots := 0, locals := 22 } : Room) [.ref (a 0), .int (x), .int (y)] ((wM G (a) (n) (cu) (bg) ((coF M)) ((goF M)) (er) (us) (ll) (lm) (lh) (nv) (fr) (tt) (gr) ((hdF2 ML)) (ns) (w) (cs) (cl) (nd) (lo) (ho) (so))) (fun r ww => r = digF nd x y ∧ ww = wM G (a) (n) (cu) (bg) ((coF M)) ((goF M)) (er) (us) (ll) (lm) (lh) (nv) (fr) (tt) (gr) ((hdF2 ML)) (ns) (w) (cs) (cl) (nwIf (digOk nd x y) (nd + 1) nd) (nwIf (digOk nd x y) (va_up lo nd x) lo) (nwIf (digOk nd x y) (va_up ho nd y) ho) (so)) := by
  refine nw_of (cc := cX7_dig) (maxL := 3) (ret := (some .int)) (by decide) rfl (Nat.le_of_ble_eq_true rfl) ?_
  intro vp ve vs vm vb vt vc vA ls X hP hD hA hS hl
  have X : nwAt vp vm vc cX7_dig 3 vs _ wsX7_dig RX7 vt (some .int) "dig" G := X
  have hx := X.1.1
  have hb := X.1.2.1
  have hown := X.1.2.2.2.1
  have hts := X.1.2.2.2.2
  have hK := X.2.2.2.2
  have hl : lv_has ls 3 [(0, .ref (a 0)), (1, .int (x)), (2, .int (y))] := hl
  refine lv_iload_n hx hb dX7_dig_0 rfl (lv_at hl 1 rfl) ?_
  refine lv_iconst (v := (0)) hx hb dX7_dig_1 (by decide) ?_
  refine lv_sipush (v := (1000)) hx hb dX7_dig_2 (by decide) ?_
  refine nw_Si (As := [.int (x), .int (0), .int (1000)]) (rest := []) X (c_X7_in lc G ((x)) ((0 : Int32)) ((1000 : Int32)) ) (va_cwS 3 hts gX7_dig_X7_in rfl rfl rfl (by decide +kernel) ⟨Nat.le_of_ble_eq_true rfl, Nat.le_of_ble_eq_true rfl⟩) (fun _ _ h => h.2) hP hD hS hA rfl hl.1 rfl (Nat.le_of_ble_eq_true rfl) dX7_dig_5 ⟨Nat.le_of_ble_eq_true rfl, Nat.le_of_ble_eq_true rfl⟩ (fun r H locs hp_1 hP hD hS => ?_)
  obtain ⟨⟨rfl, q_2⟩ | ⟨rfl, q_2⟩, -⟩ := hp_1
  · skip
    have q_2 : ¬ out ((x)) ((0 : Int32)) ((1000 : Int32)) := q_2
    refine lv_if_eq (tgt := 21) hx hb dX7_dig_8 (by decide) (fun c9 => absurd c9 (by decide)) (fun _ => ?_)
    refine lv_iload_n hx hb dX7_dig_11 rfl (lv_at hl 2 rfl) ?_
    refine lv_iconst (v := (1)) hx hb dX7_dig_12 (by decide) ?_
    refine lv_bipush (v := (100)) hx hb dX7_dig_13 (by decide) ?_
    refine nw_Si (As := [.int (y), .int (1), .int (100)]) (rest := []) X (c_X7_in lc G ((y)) ((1 : Int32)) ((100 : Int32)) ) (va_cwS 3 hts gX7_dig_X7_in rfl rfl rfl (by decide +kernel) ⟨Nat.le_of_ble_eq_true rfl, Nat.le_of_ble_eq_true rfl⟩) (fun _ _ h => h.2) hP hD hS hA rfl hl.1 rfl (Nat.le_of_ble_eq_true rfl) dX7_dig_15 ⟨Nat.le_of_ble_eq_true rfl, Nat.le_of_ble_eq_true rfl⟩ (fun r H locs hp_4 hP hD hS => ?_)
    obtain ⟨⟨rfl, q_5⟩ | ⟨rfl, q_5⟩, -⟩ := hp_4
    · skip
      have q_5 : ¬ out ((y)) ((1 : Int32)) ((100 : Int32)) := q_5
      refine lv_if_ne (tgt := 24) hx hb dX7_dig_18 (by decide) (fun _ => ?_) (fun c9 => absurd c9 (by decide))
      refine lv_aload_n hx hb dX7_dig_24 rfl (lv_at hl 0 rfl) ?_
      refine va_get (D := G.1) (ci := 6) (v := .int (nI (nd))) (C := RX7) (T := TX7) (N := 23) hx hb hts in_X7_dig_X7 hown hK.1 hP 0 rfl rfl 19 (by decide) (hts (.fieldLink RX7 133 "NightWaterModel" "digs" "I") (List.mem_of_getElem? (i := 1) rfl)) (fun _ h9 => h9) rfl dX7_dig_25 ?_
      refine lv_bipush (v := (8)) hx hb dX7_dig_28 (by decide) ?_
      refine lv_icmp_ne (tgt := 36) hx hb dX7_dig_30 (by decide) (fun b30_7 => ?_) (fun b30_7 => ?_)
      · skip
        have b30_7 : ¬ ((nd) = (8)) := fun h => b30_7 ((nI_eq (a := nd) (b := 8) (by omega) (by omega)).mpr h)
        have hl1 : nd < 8 := by omega
        have hl2 : ¬ 8 ≤ nd := by omega
        refine lv_aload_n hx hb dX7_dig_36 rfl (lv_at hl 0 rfl) ?_
        refine va_get (D := G.1) (ci := 6) (v := .ref (a 12)) (C := RX7) (T := TX7) (N := 23) hx hb hts in_X7_dig_X7 hown hK.1 hP 0 rfl rfl 20 (by decide) (hts (.fieldLink RX7 53 "NightWaterModel" "loses" "[I") (List.mem_of_getElem? (i := 2) rfl)) (fun _ h9 => h9) rfl dX7_dig_37 ?_
        refine lv_aload_n hx hb dX7_dig_40 rfl (lv_at hl 0 rfl) ?_
        refine va_get (D := G.1) (ci := 6) (v := .int (nI (nd))) (C := RX7) (T := TX7) (N := 23) hx hb hts in_X7_dig_X7 hown hK.1 hP 0 rfl rfl 19 (by decide) (hts (.fieldLink RX7 133 "NightWaterModel" "digs" "I") (List.mem_of_getElem? (i := 1) rfl)) (fun _ h9 => h9) rfl dX7_dig_41 ?_
        refine lv_iload_n hx hb dX7_dig_44 rfl (lv_at hl 1 rfl) ?_
        refine nw_iast X hP hD hS 12 (n := 8) (f := lo) rfl (nd) rfl (by omega) (by decide) dX7_dig_45 (fun H locs hP hD hS => ?_)
        have hP : va_P G.1 vwCl ((wM G (a) (n) (cu) (bg) ((coF M)) ((goF M)) (er) (us) (ll) (lm) (lh) (nv) (fr) (tt) (gr) ((hdF2 ML)) (ns) (w) (cs) (cl) (nd) (va_up (lo) (nd) (x)) (ho) (so))) H := hP
        have hD : va_D vA ((wM G (a) (n) (cu) (bg) ((coF M)) ((goF M)) (er) (us) (ll) (lm) (lh) (nv) (fr) (tt) (gr) ((hdF2 ML)) (ns) (w) (cs) (cl) (nd) (va_up (lo) (nd) (x)) (ho) (so))) := hD
        refine lv_aload_n hx hb dX7_dig_46 rfl (lv_at hl 0 rfl) ?_
        refine va_get (D := G.1) (ci := 6) (v := .ref (a 13)) (C := RX7) (T := TX7) (N := 23) hx hb hts in_X7_dig_X7 hown hK.1 hP 0 rfl rfl 21 (by decide) (hts (.fieldLink RX7 56 "NightWaterModel" "hours" "[I") (List.mem_of_getElem? (i := 3) rfl)) (fun _ h9 => h9) rfl dX7_dig_47 ?_
        refine lv_aload_n hx hb dX7_dig_50 rfl (lv_at hl 0 rfl) ?_
        refine va_get (D := G.1) (ci := 6) (v := .int (nI (nd))) (C := RX7) (T := TX7) (N := 23) hx hb hts in_X7_dig_X7 hown hK.1 hP 0 rfl rfl 19 (by decide) (hts (.fieldLink RX7 133 "NightWaterModel" "digs" "I") (List.mem_of_getElem? (i := 1) rfl)) (fun _ h9 => h9) rfl dX7_dig_51 ?_
        refine lv_iload_n hx hb dX7_dig_54 rfl (lv_at hl 2 rfl) ?_
        refine nw_iast X hP hD hS 13 (n := 8) (f := ho) rfl (nd) rfl (by omega) (by decide) dX7_dig_55 (fun H locs hP hD hS => ?_)
        have hP : va_P G.1 vwCl ((wM G (a) (n) (cu) (bg) ((coF M)) ((goF M)) (er) (us) (ll) (lm) (lh) (nv) (fr) (tt) (gr) ((hdF2 ML)) (ns) (w) (cs) (cl) (nd) (va_up (lo) (nd) (x)) (va_up (ho) (nd) (y)) (so))) H := hP
        have hD : va_D vA ((wM G (a) (n) (cu) (bg) ((coF M)) ((goF M)) (er) (us) (ll) (lm) (lh) (nv) (fr) (tt) (gr) ((hdF2 ML)) (ns) (w) (cs) (cl) (nd) (va_up (lo) (nd) (x)) (va_up (ho) (nd) (y)) (so))) := hD
        refine lv_aload_n hx hb dX7_dig_56 rfl (lv_at hl 0 rfl) ?_
        refine lv_dup hx hb dX7_dig_57 rfl ?_
        refine va_get (D := G.1) (ci := 6) (v := .int (nI (nd))) (C := RX7) (T := TX7) (N := 23) hx hb hts in_X7_dig_X7 hown hK.1 hP 0 rfl rfl 19 (by decide) (hts (.fieldLink RX7 133 "NightWaterModel" "digs" "I") (List.mem_of_getElem? (i := 1) rfl)) (fun _ h9 => h9) rfl dX7_dig_58 ?_
        refine lv_iconst (v := (1)) hx hb dX7_dig_61 (by decide) ?_
        refine lv_iadd hx hb dX7_dig_62 ?_
        refine nw_top (y := nI (nd + 1)) (nI_add (nd) (1)) ?_
        refine va_put (D := G.1) (ci := 6) (v := .int (nI (nd + 1))) (ty := .int) (C := RX7) (T := TX7) (N := 23) hx hb hts in_X7_dig_X7 tyX7 tyX7_ok nmX7 hown hK.1 hP hD hS 0 rfl rfl 19 (by decide) (hts (.fieldLink RX7 133 "NightWaterModel" "digs" "I") (List.mem_of_getElem? (i := 1) rfl)) (fun _ h9 => h9) rfl (by decide +kernel) rfl rfl (Nat.le_of_ble_eq_true rfl) dX7_dig_63 (fun H locs hP hD hS => ?_)
        have hP : va_P G.1 vwCl ((wM G (a) (n) (cu) (bg) ((coF M)) ((goF M)) (er) (us) (ll) (lm) (lh) (nv) (fr) (tt) (gr) ((hdF2 ML)) (ns) (w) (cs) (cl) (nd + 1) (va_up (lo) (nd) (x)) (va_up (ho) (nd) (y)) (so))) H := hP
        have hD : va_D vA ((wM G (a) (n) (cu) (bg) ((coF M)) ((goF M)) (er) (us) (ll) (lm) (lh) (nv) (fr) (tt) (gr) ((hdF2 ML)) (ns) (w) (cs) (cl) (nd + 1) (va_up (lo) (nd) (x)) (va_up (ho) (nd) (y)) (so))) := hD
        refine lv_aload_n hx hb dX7_dig_66 rfl (lv_at hl 0 rfl) ?_
        refine va_get (D := G.1) (ci := 6) (v := .int (nI (nd + 1))) (C := RX7) (T := TX7) (N := 23) hx hb hts in_X7_dig_X7 hown hK.1 hP 0 rfl rfl 19 (by decide) (hts (.fieldLink RX7 133 "NightWaterModel" "digs" "I") (List.mem_of_getElem? (i := 1) rfl)) (fun _ h9 => h9) rfl dX7_dig_67 ?_
        refine lv_iconst (v := (1)) hx hb dX7_dig_70 (by decide) ?_
        refine lv_isub hx hb dX7_dig_71 ?_
        refine nw_top (y := nI (nd + 1 - 1)) (pk_sub (a := nd + 1) (b := 1) (by omega)) ?_
        exact nw_iret (rm := ({ frames := 1, cells := 0, slots := 0, locals := 22 } : Room)) X hP hD hS (by simp only [digF, digOk, nwIf_T, nwIf_F, or_true, true_or, or_false, false_or, and_true, true_and, and_false, false_and, not_true_eq_false, not_false_eq_true, Nat.add_sub_cancel, q_2, q_5, b30_7, hl1, hl2]) dX7_dig_72
      · skip
        have b30_7 : (nd) = (8) := (nI_eq (a := nd) (b := 8) (by omega) (by omega)).mp b30_7
        have hl1 : ¬ nd < 8 := by omega
        have hl2 : 8 ≤ nd := by omega
        refine lv_bipush (v := (-4)) hx hb dX7_dig_33 (by decide) ?_
        exact nw_iret (rm := ({ frames := 1, cells := 0, slots := 0, locals := 22 } : Room)) X hP hD hS (by simp only [digF, digOk, nwIf_T, nwIf_F, or_true, true_or, or_false, false_or, and_true, true_and, and_false, false_and, not_true_eq_false, not_false_eq_true, Nat.add_sub_cancel, q_2, q_5, eq_true b30_7, hl1, hl2]) dX7_dig_35
    · skip
      have q_5 : out ((y)) ((1 : Int32)) ((100 : Int32)) := q_5
      refine lv_if_ne (tgt := 24) hx hb dX7_dig_18 (by decide) (fun c9 => absurd c9 (by decide)) (fun _ => ?_)
      refine lv_bipush (v := (-2)) hx hb dX7_dig_21 (by decide) ?_
      exact nw_iret (rm := ({ frames := 1, cells := 0, slots := 0, locals := 22 } : Room)) X hP hD hS (by simp only [digF, digOk, nwIf_T, nwIf_F, or_true, true_or, or_false, false_or, and_true, true_and, and_false, false_and, not_true_eq_false, not_false_eq_true, Nat.add_sub_cancel, q_2, q_5]) dX7_dig_23
  · skip
    have q_2 : out ((x)) ((0 : Int32)) ((1000 : Int32)) := q_2
    refine lv_if_eq (tgt := 21) hx hb dX7_dig_8 (by decide) (fun _ => ?_) (fun c9 => absurd (by decide) c9)
    refine lv_bipush (v := (-2)) hx hb dX7_dig_21 (by decide) ?_
    exact nw_iret (rm := ({ frames := 1, cells := 0, slots := 0, locals := 22 } : Room)) X hP hD hS (by simp only [digF, digOk, nwIf_T, nwIf_F, or_true, true_or, or_false, false_or, and_true, true_and, and_false, false_and, not_true_eq_false, not_false_eq_true, Nat.add_sub_cancel, q_2]) dX7_dig_23
set_option maxHeartbeats 4000000 in
set_option maxRecDepth 100000 in
theorem c_X7_clear (lc : Launch) (G : nwG) (a : Nat → Nat) (n : Nat) (cu bg : Nat → Int32) (M : Nat → Nat → Int32) (er us ll lm lh : Int32) (nv : Nat) (fr tt gr : Nat → Nat) (ML : Nat → Nat → Int32) (ns : Nat) (w : Nat → Nat) (cs cl : Nat → Int32) (nd : Nat) (lo ho : Nat → Int32) (so : Nat → Nat)   : nwCi lc G yX7_clear wsX7_clear ({ frames := 0, cells := 0, slots := 0, locals := 0 } : Room) [.ref (a 0)] ((wM G (a) (n) (cu) (bg) ((coF M)) ((goF M)) (er) (us) (ll) (lm) (lh) (nv) (fr) (tt) (gr) ((hdF2 ML)) (ns) (w) (cs) (cl) (nd) (lo) (ho) (so))) (fun r ww => r = nI nd ∧ ww = wM G (a) (n) (cu) (bg) ((coF M)) ((goF M)) (er) (us) (ll) (lm) (lh) (nv) (fr) (tt) (gr) ((hdF2 ML)) (ns) (w) (cs) (cl) (0) (lo) (ho) (so)) := by
  refine nw_of (cc := cX7_clear) (maxL := 2) (ret := (some .int)) (by decide) rfl (Nat.le_of_ble_eq_true rfl) ?_
  intro vp ve vs vm vb vt vc vA ls X hP hD hA hS hl
  have X : nwAt vp vm vc cX7_clear 2 vs _ wsX7_clear RX7 vt (some .int) "clear" G := X
  have hx := X.1.1
  have hb := X.1.2.1
  have hown := X.1.2.2.2.1
  have hts := X.1.2.2.2.2
  have hK := X.2.2.2.2
  have hl : lv_has ls 2 [(0, .ref (a 0))] := hl
  refine lv_aload_n hx hb dX7_clear_0 rfl (lv_at hl 0 rfl) ?_
  refine va_get (D := G.1) (ci := 6) (v := .int (nI (nd))) (C := RX7) (T := TX7) (N := 23) hx hb hts in_X7_clear_X7 hown hK.1 hP 0 rfl rfl 19 (by decide) (hts (.fieldLink RX7 133 "NightWaterModel" "digs" "I") (List.mem_of_getElem? (i := 1) rfl)) (fun _ h9 => h9) rfl dX7_clear_1 ?_
  refine lv_istore_n (lv' := [(1, .int (nI (nd))), (0, .ref (a 0))]) hx hb dX7_clear_4 rfl hl (by decide) rfl (fun ls hl => ?_)
  refine lv_aload_n hx hb dX7_clear_5 rfl (lv_at hl 1 rfl) ?_
  refine lv_iconst (v := (0)) hx hb dX7_clear_6 (by decide) ?_
  refine va_put (D := G.1) (ci := 6) (v := .int (0)) (ty := .int) (C := RX7) (T := TX7) (N := 23) hx hb hts in_X7_clear_X7 tyX7 tyX7_ok nmX7 hown hK.1 hP hD hS 0 rfl rfl 19 (by decide) (hts (.fieldLink RX7 133 "NightWaterModel" "digs" "I") (List.mem_of_getElem? (i := 1) rfl)) (fun _ h9 => h9) rfl (by decide +kernel) rfl rfl (Nat.le_of_ble_eq_true rfl) dX7_clear_7 (fun H locs hP hD hS => ?_)
  have hP : va_P G.1 vwCl ((wM G (a) (n) (cu) (bg) ((coF M)) ((goF M)) (er) (us) (ll) (lm) (lh) (nv) (fr) (tt) (gr) ((hdF2 ML)) (ns) (w) (cs) (cl) (0) (lo) (ho) (so))) H := hP
  have hD : va_D vA ((wM G (a) (n) (cu) (bg) ((coF M)) ((goF M)) (er) (us) (ll) (lm) (lh) (nv) (fr) (tt) (gr) ((hdF2 ML)) (ns) (w) (cs) (cl) (0) (lo) (ho) (so))) := hD
  refine lv_iload_n hx hb dX7_clear_10 rfl (lv_at hl 0 rfl) ?_
  exact nw_iret (rm := ({ frames := 0, cells := 0, slots := 0, locals := 0 } : Room)) X hP hD hS (⟨rfl, rfl⟩) dX7_clear_11
set_option maxHeartbeats 4000000 in
set_option maxRecDepth 100000 in
theorem c_X7_sorts (lc : Launch) (G : nwG) (a : Nat → Nat) (n : Nat) (cu bg : Nat → Int32) (M : Nat → Nat → Int32) (er us ll lm lh : Int32) (nv : Nat) (fr tt gr : Nat → Nat) (ML : Nat → Nat → Int32) (ns : Nat) (w : Nat → Nat) (cs cl : Nat → Int32) (nd : Nat) (lo ho : Nat → Int32) (so : Nat → Nat)  (hnd : nd ≤ 8) (hso : ∀ j, so j < 8) : nwCv lc G yX7_sorts wsX7_sorts ({ frames := 0, cells := 0, slots := 0, locals := 0 } : Room) [.ref (a 0)] ((wM G (a) (n) (cu) (bg) ((coF M)) ((goF M)) (er) (us) (ll) (lm) (lh) (nv) (fr) (tt) (gr) ((hdF2 ML)) (ns) (w) (cs) (cl) (nd) (lo) (ho) (so))) (fun ww => ww = wM G (a) (n) (cu) (bg) ((coF M)) ((goF M)) (er) (us) (ll) (lm) (lh) (nv) (fr) (tt) (gr) ((hdF2 ML)) (ns) (w) (cs) (cl) (nd) (lo) (ho) (srtF lo ho so nd)) := by
  refine nw_of (cc := cX7_sorts) (maxL := 3) (ret := none) (by decide) rfl (Nat.le_of_ble_eq_true rfl) ?_
  intro vp ve vs vm vb vt vc vA ls X hP hD hA hS hl
  have X : nwAt vp vm vc cX7_sorts 3 vs _ wsX7_sorts RX7 vt none "sorts" G := X
  have hx := X.1.1
  have hb := X.1.2.1
  have hown := X.1.2.2.2.1
  have hts := X.1.2.2.2.2
  have hK := X.2.2.2.2
  have hl : lv_has ls 3 [(0, .ref (a 0))] := hl
  refine lv_iconst (v := (0)) hx hb dX7_sorts_0 (by decide) ?_
  refine lv_istore_n (lv' := [(1, .int (0)), (0, .ref (a 0))]) hx hb dX7_sorts_1 rfl hl (by decide) rfl (fun ls hl => ?_)
  have K2 : ∀ (fuel : Nat) (i : Nat) (sov : Nat → Nat) (H : Heap) (locs : List Loc) (ls : Array Slot), (9 - i) < fuel → (i ≤ nd) → (sov = srtF lo ho so i) → (∀ j, sov j < 8) → lv_has ls 3 [(1, .int (nI (i))), (0, .ref (a 0))] → va_P G.1 vwCl ((wM G (a) (n) (cu) (bg) ((coF M)) ((goF M)) (er) (us) (ll) (lm) (lh) (nv) (fr) (tt) (gr) ((hdF2 ML)) (ns) (w) (cs) (cl) (nd) (lo) (ho) (sov))) H → va_D vA ((wM G (a) (n) (cu) (bg) ((coF M)) ((goF M)) (er) (us) (ll) (lm) (lh) (nv) (fr) (tt) (gr) ((hdF2 ML)) (ns) (w) (cs) (cl) (nd) (lo) (ho) (sov))) → va_S vA vs.heap H locs → W vp lc ve ({ frames := 0, cells := 0, slots := 0, locals := 0 } : Room) vs vm ([.ref (a 0)] : List Value).toArray vb vt vc H locs 0 0 (MQ vb (nwQv G (fun ww => ww = wM G (a) (n) (cu) (bg) ((coF M)) ((goF M)) (er) (us) (ll) (lm) (lh) (nv) (fr) (tt) (gr) ((hdF2 ML)) (ns) (w) (cs) (cl) (nd) (lo) (ho) (srtF lo ho so nd)) vA) ([.ref (a 0)] : List Value).toArray vs ({ frames := 0, cells := 0, slots := 0, locals := 0 } : Room).cells ({ frames := 0, cells := 0, slots := 0, locals := 0 } : Room).slots vA) (F0 vm 2 ls []) := by
    intro fuel
    induction fuel with
    | zero => intro i sov H locs ls hmu; exact absurd hmu (Nat.not_lt_zero _)
    | succ fuel ih2 =>
      intro i sov H locs ls hmu hi es hsv hl hP hD hS
      refine lv_iload_n hx hb dX7_sorts_2 rfl (lv_at hl 0 rfl) ?_
      refine lv_aload_n hx hb dX7_sorts_3 rfl (lv_at hl 1 rfl) ?_
      refine va_get (D := G.1) (ci := 6) (v := .int (nI (nd))) (C := RX7) (T := TX7) (N := 23) hx hb hts in_X7_sorts_X7 hown hK.1 hP 0 rfl rfl 19 (by decide) (hts (.fieldLink RX7 133 "NightWaterModel" "digs" "I") (List.mem_of_getElem? (i := 1) rfl)) (fun _ h9 => h9) rfl dX7_sorts_4 ?_
      refine lv_icmp_ge (tgt := 92) hx hb dX7_sorts_7 (by decide) (fun b7_1 => ?_) (fun b7_1 => ?_)
      · skip
        have b7_1 : (nd) ≤ (i) := (nI_leI (a := nd) (b := i) (by omega) (by omega)).mp b7_1
        have b7_1n : ¬ ((i) < (nd)) := by omega
        exact nw_vret (rm := ({ frames := 0, cells := 0, slots := 0, locals := 0 } : Room)) X hP hD hS (by rw [es, show i = nd by omega]) dX7_sorts_92
      · skip
        have b7_1 : ¬ ((nd) ≤ (i)) := fun h => b7_1 ((nI_leI (a := nd) (b := i) (by omega) (by omega)).mpr h)
        have b7_1n : (i) < (nd) := by omega
        refine lv_iload_n hx hb dX7_sorts_10 rfl (lv_at hl 0 rfl) ?_
        refine lv_istore_n (lv' := [(2, .int (nI (i))), (1, .int (nI (i))), (0, .ref (a 0))]) hx hb dX7_sorts_11 rfl hl (by decide) rfl (fun ls hl => ?_)
        have K12 : ∀ (fuel : Nat) (q : Nat) (rv : Nat → Nat) (H : Heap) (locs : List Loc) (ls : Array Slot), (q) < fuel → (q ≤ i) → (∀ j, rv j < 8) → (insF lo ho i q rv = insF lo ho i i sov) → lv_has ls 3 [(2, .int (nI (q))), (1, .int (nI (i))), (0, .ref (a 0))] → va_P G.1 vwCl ((wM G (a) (n) (cu) (bg) ((coF M)) ((goF M)) (er) (us) (ll) (lm) (lh) (nv) (fr) (tt) (gr) ((hdF2 ML)) (ns) (w) (cs) (cl) (nd) (lo) (ho) (rv))) H → va_D vA ((wM G (a) (n) (cu) (bg) ((coF M)) ((goF M)) (er) (us) (ll) (lm) (lh) (nv) (fr) (tt) (gr) ((hdF2 ML)) (ns) (w) (cs) (cl) (nd) (lo) (ho) (rv))) → va_S vA vs.heap H locs → W vp lc ve ({ frames := 0, cells := 0, slots := 0, locals := 0 } : Room) vs vm ([.ref (a 0)] : List Value).toArray vb vt vc H locs 0 0 (MQ vb (nwQv G (fun ww => ww = wM G (a) (n) (cu) (bg) ((coF M)) ((goF M)) (er) (us) (ll) (lm) (lh) (nv) (fr) (tt) (gr) ((hdF2 ML)) (ns) (w) (cs) (cl) (nd) (lo) (ho) (srtF lo ho so nd)) vA) ([.ref (a 0)] : List Value).toArray vs ({ frames := 0, cells := 0, slots := 0, locals := 0 } : Room).cells ({ frames := 0, cells := 0, slots := 0, locals := 0 } : Room).slots vA) (F0 vm 12 ls []) := by
          intro fuel
          induction fuel with
          | zero => intro q rv H locs ls hmu; exact absurd hmu (Nat.not_lt_zero _)
          | succ fuel ih12 =>
            intro q rv H locs ls hmu hq hv ern hl hP hD hS
            refine lv_iload_n hx hb dX7_sorts_12 rfl (lv_at hl 0 rfl) ?_
            refine lv_if_le (tgt := 79) hx hb dX7_sorts_13 (by decide) (fun b13_2 => ?_) (fun b13_2 => ?_)
            · skip
              have b13_2 : (q) ≤ (0) := (nI_leI (a := q) (b := 0) (by omega) (by omega)).mp b13_2
              have b13_2n : ¬ ((0) < (q)) := by omega
              refine lv_aload_n hx hb dX7_sorts_79 rfl (lv_at hl 2 rfl) ?_
              refine va_get (D := G.1) (ci := 6) (v := .ref (a 14)) (C := RX7) (T := TX7) (N := 23) hx hb hts in_X7_sorts_X7 hown hK.1 hP 0 rfl rfl 22 (by decide) (hts (.fieldLink RX7 59 "NightWaterModel" "sorted" "[I") (List.mem_of_getElem? (i := 4) rfl)) (fun _ h9 => h9) rfl dX7_sorts_80 ?_
              refine lv_iload_n hx hb dX7_sorts_83 rfl (lv_at hl 0 rfl) ?_
              refine lv_iload_n hx hb dX7_sorts_84 rfl (lv_at hl 1 rfl) ?_
              refine nw_iastN X hP hD hS 14 (n := 8) (f := rv) rfl (q) (i) rfl rfl (by omega) (by decide) dX7_sorts_85 (fun H locs hP hD hS => ?_)
              have hP : va_P G.1 vwCl ((wM G (a) (n) (cu) (bg) ((coF M)) ((goF M)) (er) (us) (ll) (lm) (lh) (nv) (fr) (tt) (gr) ((hdF2 ML)) (ns) (w) (cs) (cl) (nd) (lo) (ho) (va_up (rv) (q) (i)))) H := hP
              have hD : va_D vA ((wM G (a) (n) (cu) (bg) ((coF M)) ((goF M)) (er) (us) (ll) (lm) (lh) (nv) (fr) (tt) (gr) ((hdF2 ML)) (ns) (w) (cs) (cl) (nd) (lo) (ho) (va_up (rv) (q) (i)))) := hD
              refine lv_iinc (v := (nI (i + 1))) (lv' := [(1, .int (nI (i + 1))), (2, .int (nI (q))), (0, .ref (a 0))]) hx hb dX7_sorts_86 hl (k := 1) rfl (by exact nI_add (i) 1) (by decide) rfl (fun ls hl => ?_)
              refine lv_goto (tgt := 2) hx hb dX7_sorts_89 (by decide) ?_
              exact ih2 (i + 1) (va_up (rv) (q) (i)) _ _ _ (by omega) (by omega) (by rw [srtF_s, ← es, ← ern]; first | rw [insF_0 (by omega)] | rw [insF_no (by omega) hah]) (by exact va_up_lt hv (by omega)) (lv_sub hl [0, 2] rfl) hP hD hS
            · skip
              have b13_2 : ¬ ((q) ≤ (0)) := fun h => b13_2 ((nI_leI (a := q) (b := 0) (by omega) (by omega)).mpr h)
              have b13_2n : (0) < (q) := by omega
              have hv1 := hv (q - 1)
              have hi8 : i < 8 := by omega
              refine lv_aload_n hx hb dX7_sorts_16 rfl (lv_at hl 2 rfl) ?_
              refine va_get (D := G.1) (ci := 6) (v := .ref (a 12)) (C := RX7) (T := TX7) (N := 23) hx hb hts in_X7_sorts_X7 hown hK.1 hP 0 rfl rfl 20 (by decide) (hts (.fieldLink RX7 53 "NightWaterModel" "loses" "[I") (List.mem_of_getElem? (i := 2) rfl)) (fun _ h9 => h9) rfl dX7_sorts_17 ?_
              refine lv_iload_n hx hb dX7_sorts_20 rfl (lv_at hl 1 rfl) ?_
              refine nw_iald X hP 12 (n := 8) (f := (lo)) rfl (i) rfl (by omega) (by decide) dX7_sorts_21 ?_
              refine lv_aload_n hx hb dX7_sorts_22 rfl (lv_at hl 2 rfl) ?_
              refine va_get (D := G.1) (ci := 6) (v := .ref (a 13)) (C := RX7) (T := TX7) (N := 23) hx hb hts in_X7_sorts_X7 hown hK.1 hP 0 rfl rfl 21 (by decide) (hts (.fieldLink RX7 56 "NightWaterModel" "hours" "[I") (List.mem_of_getElem? (i := 3) rfl)) (fun _ h9 => h9) rfl dX7_sorts_23 ?_
              refine lv_aload_n hx hb dX7_sorts_26 rfl (lv_at hl 2 rfl) ?_
              refine va_get (D := G.1) (ci := 6) (v := .ref (a 14)) (C := RX7) (T := TX7) (N := 23) hx hb hts in_X7_sorts_X7 hown hK.1 hP 0 rfl rfl 22 (by decide) (hts (.fieldLink RX7 59 "NightWaterModel" "sorted" "[I") (List.mem_of_getElem? (i := 4) rfl)) (fun _ h9 => h9) rfl dX7_sorts_27 ?_
              refine lv_iload_n hx hb dX7_sorts_30 rfl (lv_at hl 0 rfl) ?_
              refine lv_iconst (v := (1)) hx hb dX7_sorts_31 (by decide) ?_
              refine lv_isub hx hb dX7_sorts_32 ?_
              refine nw_top (y := nI (q - 1)) (pk_sub (a := q) (b := 1) (by omega)) ?_
              refine nw_iald X hP 14 (n := 8) (f := (fun j => nI (rv j))) rfl (q - 1) rfl (by omega) (by decide) dX7_sorts_33 ?_
              refine nw_iald X hP 13 (n := 8) (f := (ho)) rfl (rv (q - 1)) rfl (by omega) (by decide) dX7_sorts_34 ?_
              refine lv_imul hx hb dX7_sorts_35 ?_
              refine lv_aload_n hx hb dX7_sorts_36 rfl (lv_at hl 2 rfl) ?_
              refine va_get (D := G.1) (ci := 6) (v := .ref (a 12)) (C := RX7) (T := TX7) (N := 23) hx hb hts in_X7_sorts_X7 hown hK.1 hP 0 rfl rfl 20 (by decide) (hts (.fieldLink RX7 53 "NightWaterModel" "loses" "[I") (List.mem_of_getElem? (i := 2) rfl)) (fun _ h9 => h9) rfl dX7_sorts_37 ?_
              refine lv_aload_n hx hb dX7_sorts_40 rfl (lv_at hl 2 rfl) ?_
              refine va_get (D := G.1) (ci := 6) (v := .ref (a 14)) (C := RX7) (T := TX7) (N := 23) hx hb hts in_X7_sorts_X7 hown hK.1 hP 0 rfl rfl 22 (by decide) (hts (.fieldLink RX7 59 "NightWaterModel" "sorted" "[I") (List.mem_of_getElem? (i := 4) rfl)) (fun _ h9 => h9) rfl dX7_sorts_41 ?_
              refine lv_iload_n hx hb dX7_sorts_44 rfl (lv_at hl 0 rfl) ?_
              refine lv_iconst (v := (1)) hx hb dX7_sorts_45 (by decide) ?_
              refine lv_isub hx hb dX7_sorts_46 ?_
              refine nw_top (y := nI (q - 1)) (pk_sub (a := q) (b := 1) (by omega)) ?_
              refine nw_iald X hP 14 (n := 8) (f := (fun j => nI (rv j))) rfl (q - 1) rfl (by omega) (by decide) dX7_sorts_47 ?_
              refine nw_iald X hP 12 (n := 8) (f := (lo)) rfl (rv (q - 1)) rfl (by omega) (by decide) dX7_sorts_48 ?_
              refine lv_aload_n hx hb dX7_sorts_49 rfl (lv_at hl 2 rfl) ?_
              refine va_get (D := G.1) (ci := 6) (v := .ref (a 13)) (C := RX7) (T := TX7) (N := 23) hx hb hts in_X7_sorts_X7 hown hK.1 hP 0 rfl rfl 21 (by decide) (hts (.fieldLink RX7 56 "NightWaterModel" "hours" "[I") (List.mem_of_getElem? (i := 3) rfl)) (fun _ h9 => h9) rfl dX7_sorts_50 ?_
              refine lv_iload_n hx hb dX7_sorts_53 rfl (lv_at hl 1 rfl) ?_
              refine nw_iald X hP 13 (n := 8) (f := (ho)) rfl (i) rfl (by omega) (by decide) dX7_sorts_54 ?_
              refine lv_imul hx hb dX7_sorts_55 ?_
              refine lv_icmp_le (tgt := 79) hx hb dX7_sorts_56 (by decide) (fun b56_3 => ?_) (fun b56_3 => ?_)
              · skip
                have b56_3 : ((lo (i)) * (ho (rv (q - 1)))) ≤ ((lo (rv (q - 1))) * (ho (i))) := b56_3
                have b56_3n : ¬ (((lo (rv (q - 1))) * (ho (i))) < ((lo (i)) * (ho (rv (q - 1))))) := Int32.not_lt.mpr b56_3
                have hah : ¬ dahead lo ho i (rv (q - 1)) := Int32.not_lt.mpr b56_3
                refine lv_aload_n hx hb dX7_sorts_79 rfl (lv_at hl 2 rfl) ?_
                refine va_get (D := G.1) (ci := 6) (v := .ref (a 14)) (C := RX7) (T := TX7) (N := 23) hx hb hts in_X7_sorts_X7 hown hK.1 hP 0 rfl rfl 22 (by decide) (hts (.fieldLink RX7 59 "NightWaterModel" "sorted" "[I") (List.mem_of_getElem? (i := 4) rfl)) (fun _ h9 => h9) rfl dX7_sorts_80 ?_
                refine lv_iload_n hx hb dX7_sorts_83 rfl (lv_at hl 0 rfl) ?_
                refine lv_iload_n hx hb dX7_sorts_84 rfl (lv_at hl 1 rfl) ?_
                refine nw_iastN X hP hD hS 14 (n := 8) (f := rv) rfl (q) (i) rfl rfl (by omega) (by decide) dX7_sorts_85 (fun H locs hP hD hS => ?_)
                have hP : va_P G.1 vwCl ((wM G (a) (n) (cu) (bg) ((coF M)) ((goF M)) (er) (us) (ll) (lm) (lh) (nv) (fr) (tt) (gr) ((hdF2 ML)) (ns) (w) (cs) (cl) (nd) (lo) (ho) (va_up (rv) (q) (i)))) H := hP
                have hD : va_D vA ((wM G (a) (n) (cu) (bg) ((coF M)) ((goF M)) (er) (us) (ll) (lm) (lh) (nv) (fr) (tt) (gr) ((hdF2 ML)) (ns) (w) (cs) (cl) (nd) (lo) (ho) (va_up (rv) (q) (i)))) := hD
                refine lv_iinc (v := (nI (i + 1))) (lv' := [(1, .int (nI (i + 1))), (2, .int (nI (q))), (0, .ref (a 0))]) hx hb dX7_sorts_86 hl (k := 1) rfl (by exact nI_add (i) 1) (by decide) rfl (fun ls hl => ?_)
                refine lv_goto (tgt := 2) hx hb dX7_sorts_89 (by decide) ?_
                exact ih2 (i + 1) (va_up (rv) (q) (i)) _ _ _ (by omega) (by omega) (by rw [srtF_s, ← es, ← ern]; first | rw [insF_0 (by omega)] | rw [insF_no (by omega) hah]) (by exact va_up_lt hv (by omega)) (lv_sub hl [0, 2] rfl) hP hD hS
              · skip
                have b56_3 : ¬ (((lo (i)) * (ho (rv (q - 1)))) ≤ ((lo (rv (q - 1))) * (ho (i)))) := b56_3
                have b56_3n : ((lo (rv (q - 1))) * (ho (i))) < ((lo (i)) * (ho (rv (q - 1)))) := Int32.not_le.mp b56_3
                have hah : dahead lo ho i (rv (q - 1)) := Int32.not_le.mp b56_3
                refine lv_aload_n hx hb dX7_sorts_59 rfl (lv_at hl 2 rfl) ?_
                refine va_get (D := G.1) (ci := 6) (v := .ref (a 14)) (C := RX7) (T := TX7) (N := 23) hx hb hts in_X7_sorts_X7 hown hK.1 hP 0 rfl rfl 22 (by decide) (hts (.fieldLink RX7 59 "NightWaterModel" "sorted" "[I") (List.mem_of_getElem? (i := 4) rfl)) (fun _ h9 => h9) rfl dX7_sorts_60 ?_
                refine lv_iload_n hx hb dX7_sorts_63 rfl (lv_at hl 0 rfl) ?_
                refine lv_aload_n hx hb dX7_sorts_64 rfl (lv_at hl 2 rfl) ?_
                refine va_get (D := G.1) (ci := 6) (v := .ref (a 14)) (C := RX7) (T := TX7) (N := 23) hx hb hts in_X7_sorts_X7 hown hK.1 hP 0 rfl rfl 22 (by decide) (hts (.fieldLink RX7 59 "NightWaterModel" "sorted" "[I") (List.mem_of_getElem? (i := 4) rfl)) (fun _ h9 => h9) rfl dX7_sorts_65 ?_
                refine lv_iload_n hx hb dX7_sorts_68 rfl (lv_at hl 0 rfl) ?_
                refine lv_iconst (v := (1)) hx hb dX7_sorts_69 (by decide) ?_
                refine lv_isub hx hb dX7_sorts_70 ?_
                refine nw_top (y := nI (q - 1)) (pk_sub (a := q) (b := 1) (by omega)) ?_
                refine nw_iald X hP 14 (n := 8) (f := (fun j => nI (rv j))) rfl (q - 1) rfl (by omega) (by decide) dX7_sorts_71 ?_
                refine nw_iastN X hP hD hS 14 (n := 8) (f := rv) rfl (q) (rv (q - 1)) rfl rfl (by omega) (by decide) dX7_sorts_72 (fun H locs hP hD hS => ?_)
                have hP : va_P G.1 vwCl ((wM G (a) (n) (cu) (bg) ((coF M)) ((goF M)) (er) (us) (ll) (lm) (lh) (nv) (fr) (tt) (gr) ((hdF2 ML)) (ns) (w) (cs) (cl) (nd) (lo) (ho) (va_up (rv) (q) (rv (q - 1))))) H := hP
                have hD : va_D vA ((wM G (a) (n) (cu) (bg) ((coF M)) ((goF M)) (er) (us) (ll) (lm) (lh) (nv) (fr) (tt) (gr) ((hdF2 ML)) (ns) (w) (cs) (cl) (nd) (lo) (ho) (va_up (rv) (q) (rv (q - 1))))) := hD
                refine lv_iinc (v := (nI (q - 1))) (lv' := [(2, .int (nI (q - 1))), (1, .int (nI (i))), (0, .ref (a 0))]) hx hb dX7_sorts_73 hl (k := 0) rfl (by exact nw_dec (by omega)) (by decide) rfl (fun ls hl => ?_)
                refine lv_goto (tgt := 12) hx hb dX7_sorts_76 (by decide) ?_
                exact ih12 (q - 1) (va_up (rv) (q) (rv (q - 1))) _ _ _ (by omega) (by omega) (by exact va_up_lt hv (hv _)) (by rw [← insF_go (by omega) hah]; exact ern) (lv_sub hl [0, 1, 2] rfl) hP hD hS
        exact K12 (((i)) + 1) (i) (sov) _ _ _ (Nat.lt_succ_self _) (by omega) (by exact hsv) (by rfl) (lv_sub hl [0, 1, 2] rfl) hP hD hS
  exact K2 ((9 - (0)) + 1) (0) (so) _ _ _ (Nat.lt_succ_self _) (by omega) (by rfl) (by exact hso) (lv_sub hl [0, 1] rfl) hP hD hS
set_option maxHeartbeats 4000000 in
set_option maxRecDepth 100000 in
theorem c_X7_lost (lc : Launch) (G : nwG) (a : Nat → Nat) (n : Nat) (cu bg : Nat → Int32) (M : Nat → Nat → Int32) (er us ll lm lh : Int32) (nv : Nat) (fr tt gr : Nat → Nat) (ML : Nat → Nat → Int32) (ns : Nat) (w : Nat → Nat) (cs cl : Nat → Int32) (nd : Nat) (lo ho : Nat → Int32) (so : Nat → Nat)  (hnd : nd ≤ 8) (hso : ∀ j, so j < 8) : nwCi lc G yX7_lost wsX7_lost ({ frames := 1, cells := 0, slots := 0, locals := 22 } : Room) [.ref (a 0)] ((wM G (a) (n) (cu) (bg) ((coF M)) ((goF M)) (er) (us) (ll) (lm) (lh) (nv) (fr) (tt) (gr) ((hdF2 ML)) (ns) (w) (cs) (cl) (nd) (lo) (ho) (so))) (fun r ww => r = (lostD lo ho (srtF lo ho so nd) nd).2 ∧ ww = wM G (a) (n) (cu) (bg) ((coF M)) ((goF M)) (er) (us) (ll) (lm) (lh) (nv) (fr) (tt) (gr) ((hdF2 ML)) (ns) (w) (cs) (cl) (nd) (lo) (ho) (srtF lo ho so nd)) := by
  refine nw_of (cc := cX7_lost) (maxL := 4) (ret := (some .int)) (by decide) rfl (Nat.le_of_ble_eq_true rfl) ?_
  intro vp ve vs vm vb vt vc vA ls X hP hD hA hS hl
  have X : nwAt vp vm vc cX7_lost 4 vs _ wsX7_lost RX7 vt (some .int) "lost" G := X
  have hx := X.1.1
  have hb := X.1.2.1
  have hown := X.1.2.2.2.1
  have hts := X.1.2.2.2.2
  have hK := X.2.2.2.2
  have hl : lv_has ls 4 [(0, .ref (a 0))] := hl
  refine lv_aload_n hx hb dX7_lost_0 rfl (lv_at hl 0 rfl) ?_
  refine nw_Vv (As := []) (rest := []) (q0 := 0) X (c_X7_sorts lc G (a) (n) (cu) (bg) (M) (er) (us) (ll) (lm) (lh) (nv) (fr) (tt) (gr) (ML) (ns) (w) (cs) (cl) (nd) (lo) (ho) (so) (by first | assumption | omega) (by first | assumption | omega)) (cwV 0 hts gX7_lost_X7_sorts rfl rfl rfl (by decide +kernel) ⟨Nat.le_of_ble_eq_true rfl, Nat.le_of_ble_eq_true rfl⟩) rfl (show vwCl[6]? = some (RX7, TX7, 23) from rfl) (nwSp.all ((wM G (a) (n) (cu) (bg) ((coF M)) ((goF M)) (er) (us) (ll) (lm) (lh) (nv) (fr) (tt) (gr) ((hdF2 ML)) (ns) (w) (cs) (cl) (nd) (lo) (ho) (so)))) hP hD hS hA rfl hl.1 rfl (Nat.le_of_ble_eq_true rfl) dX7_lost_1 ⟨Nat.le_of_ble_eq_true rfl, Nat.le_of_ble_eq_true rfl⟩ (fun w H locs hp_1 hP hD hS => ?_)
  obtain rfl := hp_1
  have hP : va_P G.1 vwCl ((wM G (a) (n) (cu) (bg) ((coF M)) ((goF M)) (er) (us) (ll) (lm) (lh) (nv) (fr) (tt) (gr) ((hdF2 ML)) (ns) (w) (cs) (cl) (nd) (lo) (ho) (srtF lo ho so nd))) H := hP
  have hD : va_D vA ((wM G (a) (n) (cu) (bg) ((coF M)) ((goF M)) (er) (us) (ll) (lm) (lh) (nv) (fr) (tt) (gr) ((hdF2 ML)) (ns) (w) (cs) (cl) (nd) (lo) (ho) (srtF lo ho so nd))) := hD
  refine lv_iconst (v := (0)) hx hb dX7_lost_4 (by decide) ?_
  refine lv_istore_n (lv' := [(1, .int (0)), (0, .ref (a 0))]) hx hb dX7_lost_5 rfl hl (by decide) rfl (fun ls hl => ?_)
  refine lv_iconst (v := (0)) hx hb dX7_lost_6 (by decide) ?_
  refine lv_istore_n (lv' := [(2, .int (0)), (1, .int (0)), (0, .ref (a 0))]) hx hb dX7_lost_7 rfl hl (by decide) rfl (fun ls hl => ?_)
  refine lv_iconst (v := (0)) hx hb dX7_lost_8 (by decide) ?_
  refine lv_istore_n (lv' := [(3, .int (0)), (2, .int (0)), (1, .int (0)), (0, .ref (a 0))]) hx hb dX7_lost_9 rfl hl (by decide) rfl (fun ls hl => ?_)
  have K10 : ∀ (fuel : Nat) (i : Nat) (x1 : Int32) (x2 : Int32) (H : Heap) (locs : List Loc) (ls : Array Slot), (9 - i) < fuel → (i ≤ nd) → (x1 = (lostD lo ho (srtF lo ho so nd) i).1) → (x2 = (lostD lo ho (srtF lo ho so nd) i).2) → lv_has ls 4 [(3, .int (nI (i))), (2, .int (x2)), (1, .int (x1)), (0, .ref (a 0))] → va_P G.1 vwCl ((wM G (a) (n) (cu) (bg) ((coF M)) ((goF M)) (er) (us) (ll) (lm) (lh) (nv) (fr) (tt) (gr) ((hdF2 ML)) (ns) (w) (cs) (cl) (nd) (lo) (ho) (srtF lo ho so nd))) H → va_D vA ((wM G (a) (n) (cu) (bg) ((coF M)) ((goF M)) (er) (us) (ll) (lm) (lh) (nv) (fr) (tt) (gr) ((hdF2 ML)) (ns) (w) (cs) (cl) (nd) (lo) (ho) (srtF lo ho so nd))) → va_S vA vs.heap H locs → W vp lc ve ({ frames := 1, cells := 0, slots := 0, locals := 22 } : Room) vs vm ([.ref (a 0)] : List Value).toArray vb vt vc H locs 0 0 (MQ vb (nwQi G (fun r ww => r = (lostD lo ho (srtF lo ho so nd) nd).2 ∧ ww = wM G (a) (n) (cu) (bg) ((coF M)) ((goF M)) (er) (us) (ll) (lm) (lh) (nv) (fr) (tt) (gr) ((hdF2 ML)) (ns) (w) (cs) (cl) (nd) (lo) (ho) (srtF lo ho so nd)) vA) ([.ref (a 0)] : List Value).toArray vs ({ frames := 1, cells := 0, slots := 0, locals := 22 } : Room).cells ({ frames := 1, cells := 0, slots := 0, locals := 22 } : Room).slots vA) (F0 vm 10 ls []) := by
    intro fuel
    induction fuel with
    | zero => intro i x1 x2 H locs ls hmu; exact absurd hmu (Nat.not_lt_zero _)
    | succ fuel ih10 =>
      intro i x1 x2 H locs ls hmu hi e1 e2 hl hP hD hS
      refine lv_iload_n hx hb dX7_lost_10 rfl (lv_at hl 0 rfl) ?_
      refine lv_aload_n hx hb dX7_lost_11 rfl (lv_at hl 3 rfl) ?_
      refine va_get (D := G.1) (ci := 6) (v := .int (nI (nd))) (C := RX7) (T := TX7) (N := 23) hx hb hts in_X7_lost_X7 hown hK.1 hP 0 rfl rfl 19 (by decide) (hts (.fieldLink RX7 133 "NightWaterModel" "digs" "I") (List.mem_of_getElem? (i := 1) rfl)) (fun _ h9 => h9) rfl dX7_lost_12 ?_
      refine lv_icmp_ge (tgt := 54) hx hb dX7_lost_15 (by decide) (fun b15_2 => ?_) (fun b15_2 => ?_)
      · skip
        have b15_2 : (nd) ≤ (i) := (nI_leI (a := nd) (b := i) (by omega) (by omega)).mp b15_2
        have b15_2n : ¬ ((i) < (nd)) := by omega
        refine lv_iload_n hx hb dX7_lost_54 rfl (lv_at hl 1 rfl) ?_
        exact nw_iret (rm := ({ frames := 1, cells := 0, slots := 0, locals := 22 } : Room)) X hP hD hS (⟨e2.trans (by rw [show i = nd by omega]), rfl⟩) dX7_lost_55
      · skip
        have b15_2 : ¬ ((nd) ≤ (i)) := fun h => b15_2 ((nI_leI (a := nd) (b := i) (by omega) (by omega)).mpr h)
        have b15_2n : (i) < (nd) := by omega
        have hri := srtF_lt (lo := lo) (ho := ho) hso nd hnd i
        refine lv_iload_n hx hb dX7_lost_18 rfl (lv_at hl 2 rfl) ?_
        refine lv_aload_n hx hb dX7_lost_19 rfl (lv_at hl 3 rfl) ?_
        refine va_get (D := G.1) (ci := 6) (v := .ref (a 13)) (C := RX7) (T := TX7) (N := 23) hx hb hts in_X7_lost_X7 hown hK.1 hP 0 rfl rfl 21 (by decide) (hts (.fieldLink RX7 56 "NightWaterModel" "hours" "[I") (List.mem_of_getElem? (i := 2) rfl)) (fun _ h9 => h9) rfl dX7_lost_20 ?_
        refine lv_aload_n hx hb dX7_lost_23 rfl (lv_at hl 3 rfl) ?_
        refine va_get (D := G.1) (ci := 6) (v := .ref (a 14)) (C := RX7) (T := TX7) (N := 23) hx hb hts in_X7_lost_X7 hown hK.1 hP 0 rfl rfl 22 (by decide) (hts (.fieldLink RX7 59 "NightWaterModel" "sorted" "[I") (List.mem_of_getElem? (i := 3) rfl)) (fun _ h9 => h9) rfl dX7_lost_24 ?_
        refine lv_iload_n hx hb dX7_lost_27 rfl (lv_at hl 0 rfl) ?_
        refine nw_iald X hP 14 (n := 8) (f := (fun j => nI ((srtF lo ho so nd) j))) rfl (i) rfl (by omega) (by decide) dX7_lost_28 ?_
        refine nw_iald X hP 13 (n := 8) (f := (ho)) rfl ((srtF lo ho so nd) (i)) rfl (by omega) (by decide) dX7_lost_29 ?_
        refine lv_iadd hx hb dX7_lost_30 ?_
        refine lv_istore_n (lv' := [(1, .int ((x1) + (ho ((srtF lo ho so nd) (i))))), (3, .int (nI (i))), (2, .int (x2)), (0, .ref (a 0))]) hx hb dX7_lost_31 rfl hl (by decide) rfl (fun ls hl => ?_)
        refine lv_iload_n hx hb dX7_lost_32 rfl (lv_at hl 2 rfl) ?_
        refine lv_iload_n hx hb dX7_lost_33 rfl (lv_at hl 0 rfl) ?_
        refine lv_aload_n hx hb dX7_lost_34 rfl (lv_at hl 3 rfl) ?_
        refine va_get (D := G.1) (ci := 6) (v := .ref (a 12)) (C := RX7) (T := TX7) (N := 23) hx hb hts in_X7_lost_X7 hown hK.1 hP 0 rfl rfl 20 (by decide) (hts (.fieldLink RX7 53 "NightWaterModel" "loses" "[I") (List.mem_of_getElem? (i := 4) rfl)) (fun _ h9 => h9) rfl dX7_lost_35 ?_
        refine lv_aload_n hx hb dX7_lost_38 rfl (lv_at hl 3 rfl) ?_
        refine va_get (D := G.1) (ci := 6) (v := .ref (a 14)) (C := RX7) (T := TX7) (N := 23) hx hb hts in_X7_lost_X7 hown hK.1 hP 0 rfl rfl 22 (by decide) (hts (.fieldLink RX7 59 "NightWaterModel" "sorted" "[I") (List.mem_of_getElem? (i := 3) rfl)) (fun _ h9 => h9) rfl dX7_lost_39 ?_
        refine lv_iload_n hx hb dX7_lost_42 rfl (lv_at hl 1 rfl) ?_
        refine nw_iald X hP 14 (n := 8) (f := (fun j => nI ((srtF lo ho so nd) j))) rfl (i) rfl (by omega) (by decide) dX7_lost_43 ?_
        refine nw_iald X hP 12 (n := 8) (f := (lo)) rfl ((srtF lo ho so nd) (i)) rfl (by omega) (by decide) dX7_lost_44 ?_
        refine lv_imul hx hb dX7_lost_45 ?_
        refine lv_iadd hx hb dX7_lost_46 ?_
        refine lv_istore_n (lv' := [(2, .int ((x2) + (((x1) + (ho ((srtF lo ho so nd) (i)))) * (lo ((srtF lo ho so nd) (i)))))), (1, .int ((x1) + (ho ((srtF lo ho so nd) (i))))), (3, .int (nI (i))), (0, .ref (a 0))]) hx hb dX7_lost_47 rfl hl (by decide) rfl (fun ls hl => ?_)
        refine lv_iinc (v := (nI (i + 1))) (lv' := [(3, .int (nI (i + 1))), (2, .int ((x2) + (((x1) + (ho ((srtF lo ho so nd) (i)))) * (lo ((srtF lo ho so nd) (i)))))), (1, .int ((x1) + (ho ((srtF lo ho so nd) (i))))), (0, .ref (a 0))]) hx hb dX7_lost_48 hl (k := 2) rfl (by exact nI_add (i) 1) (by decide) rfl (fun ls hl => ?_)
        refine lv_goto (tgt := 10) hx hb dX7_lost_51 (by decide) ?_
        exact ih10 (i + 1) (((x1) + (ho ((srtF lo ho so nd) (i))))) (((x2) + (((x1) + (ho ((srtF lo ho so nd) (i)))) * (lo ((srtF lo ho so nd) (i)))))) _ _ _ (by omega) (by omega) (by rw [lostD_s, e1]) (by rw [lostD_s, e1, e2, Int32.mul_comm]) (lv_sub hl [0, 1, 2, 3] rfl) hP hD hS
  exact K10 ((9 - (0)) + 1) (0) ((0 : Int32)) ((0 : Int32)) _ _ _ (Nat.lt_succ_self _) (by omega) (by rfl) (by rfl) (lv_sub hl [0, 1, 2, 3] rfl) hP hD hS
set_option maxHeartbeats 4000000 in
set_option maxRecDepth 100000 in
theorem c_X7_order (lc : Launch) (G : nwG) (a : Nat → Nat) (n : Nat) (cu bg : Nat → Int32) (M : Nat → Nat → Int32) (er us ll lm lh : Int32) (nv : Nat) (fr tt gr : Nat → Nat) (ML : Nat → Nat → Int32) (ns : Nat) (w : Nat → Nat) (cs cl : Nat → Int32) (nd : Nat) (lo ho : Nat → Int32) (so : Nat → Nat) (i : Int32) (hnd : nd ≤ 8) (hso : ∀ j, so j < 8) : nwCi lc G yX7_order wsX7_order ({ frames := 1, cells := 0, slots := 0, locals := 22 } : Room) [.ref (a 0), .int (i)] ((wM G (a) (n) (cu) (bg) ((coF M)) ((goF M)) (er) (us) (ll) (lm) (lh) (nv) (fr) (tt) (gr) ((hdF2 ML)) (ns) (w) (cs) (cl) (nd) (lo) (ho) (so))) (fun r ww => r = orderF nd (srtF lo ho so nd) i ∧ ww = wM G (a) (n) (cu) (bg) ((coF M)) ((goF M)) (er) (us) (ll) (lm) (lh) (nv) (fr) (tt) (gr) ((hdF2 ML)) (ns) (w) (cs) (cl) (nd) (lo) (ho) (srtF lo ho so nd)) := by
  refine nw_of (cc := cX7_order) (maxL := 2) (ret := (some .int)) (by decide) rfl (Nat.le_of_ble_eq_true rfl) ?_
  intro vp ve vs vm vb vt vc vA ls X hP hD hA hS hl
  have X : nwAt vp vm vc cX7_order 2 vs _ wsX7_order RX7 vt (some .int) "order" G := X
  have hx := X.1.1
  have hb := X.1.2.1
  have hown := X.1.2.2.2.1
  have hts := X.1.2.2.2.2
  have hK := X.2.2.2.2
  have hl : lv_has ls 2 [(0, .ref (a 0)), (1, .int (i))] := hl
  refine lv_aload_n hx hb dX7_order_0 rfl (lv_at hl 0 rfl) ?_
  refine nw_Vv (As := []) (rest := []) (q0 := 0) X (c_X7_sorts lc G (a) (n) (cu) (bg) (M) (er) (us) (ll) (lm) (lh) (nv) (fr) (tt) (gr) (ML) (ns) (w) (cs) (cl) (nd) (lo) (ho) (so) (by first | assumption | omega) (by first | assumption | omega)) (cwV 0 hts gX7_order_X7_sorts rfl rfl rfl (by decide +kernel) ⟨Nat.le_of_ble_eq_true rfl, Nat.le_of_ble_eq_true rfl⟩) rfl (show vwCl[6]? = some (RX7, TX7, 23) from rfl) (nwSp.all ((wM G (a) (n) (cu) (bg) ((coF M)) ((goF M)) (er) (us) (ll) (lm) (lh) (nv) (fr) (tt) (gr) ((hdF2 ML)) (ns) (w) (cs) (cl) (nd) (lo) (ho) (so)))) hP hD hS hA rfl hl.1 rfl (Nat.le_of_ble_eq_true rfl) dX7_order_1 ⟨Nat.le_of_ble_eq_true rfl, Nat.le_of_ble_eq_true rfl⟩ (fun w H locs hp_1 hP hD hS => ?_)
  obtain rfl := hp_1
  have hP : va_P G.1 vwCl ((wM G (a) (n) (cu) (bg) ((coF M)) ((goF M)) (er) (us) (ll) (lm) (lh) (nv) (fr) (tt) (gr) ((hdF2 ML)) (ns) (w) (cs) (cl) (nd) (lo) (ho) (srtF lo ho so nd))) H := hP
  have hD : va_D vA ((wM G (a) (n) (cu) (bg) ((coF M)) ((goF M)) (er) (us) (ll) (lm) (lh) (nv) (fr) (tt) (gr) ((hdF2 ML)) (ns) (w) (cs) (cl) (nd) (lo) (ho) (srtF lo ho so nd))) := hD
  refine lv_iload_n hx hb dX7_order_4 rfl (lv_at hl 1 rfl) ?_
  refine lv_iconst (v := (0)) hx hb dX7_order_5 (by decide) ?_
  refine lv_aload_n hx hb dX7_order_6 rfl (lv_at hl 0 rfl) ?_
  refine va_get (D := G.1) (ci := 6) (v := .int (nI (nd))) (C := RX7) (T := TX7) (N := 23) hx hb hts in_X7_order_X7 hown hK.1 hP 0 rfl rfl 19 (by decide) (hts (.fieldLink RX7 133 "NightWaterModel" "digs" "I") (List.mem_of_getElem? (i := 1) rfl)) (fun _ h9 => h9) rfl dX7_order_7 ?_
  refine lv_iconst (v := (1)) hx hb dX7_order_10 (by decide) ?_
  refine lv_isub hx hb dX7_order_11 ?_
  refine nw_Si (As := [.int (i), .int (0), .int ((nI (nd)) - (1 : Int32))]) (rest := []) X (c_X7_in lc G ((i)) ((0 : Int32)) (((nI (nd)) - (1 : Int32))) ) (va_cwS 3 hts gX7_order_X7_in rfl rfl rfl (by decide +kernel) ⟨Nat.le_of_ble_eq_true rfl, Nat.le_of_ble_eq_true rfl⟩) (fun _ _ h => h.2) hP hD hS hA rfl hl.1 rfl (Nat.le_of_ble_eq_true rfl) dX7_order_12 ⟨Nat.le_of_ble_eq_true rfl, Nat.le_of_ble_eq_true rfl⟩ (fun r H locs hp_2 hP hD hS => ?_)
  obtain ⟨⟨rfl, q_3⟩ | ⟨rfl, q_3⟩, -⟩ := hp_2
  · skip
    have q_3 : ¬ out ((i)) ((0 : Int32)) (((nI (nd)) - (1 : Int32))) := q_3
    obtain ⟨z_4, hz_5, he_6⟩ := nw_lt (n := nd) (by omega) q_3
    have ec_7 := nw_clamp he_6 (by omega)
    refine lv_if_eq (tgt := 27) hx hb dX7_order_15 (by decide) (fun c9 => absurd c9 (by decide)) (fun _ => ?_)
    refine lv_aload_n hx hb dX7_order_18 rfl (lv_at hl 0 rfl) ?_
    refine va_get (D := G.1) (ci := 6) (v := .ref (a 14)) (C := RX7) (T := TX7) (N := 23) hx hb hts in_X7_order_X7 hown hK.1 hP 0 rfl rfl 22 (by decide) (hts (.fieldLink RX7 59 "NightWaterModel" "sorted" "[I") (List.mem_of_getElem? (i := 2) rfl)) (fun _ h9 => h9) rfl dX7_order_19 ?_
    refine lv_iload_n hx hb dX7_order_22 rfl (lv_at hl 1 rfl) ?_
    refine nw_iald X hP 14 (n := 8) (f := (fun j => nI ((srtF lo ho so nd) j))) rfl (z_4) he_6 (by omega) (by decide) dX7_order_23 ?_
    refine lv_goto (tgt := 28) hx hb dX7_order_24 (by decide) ?_
    exact nw_iret (rm := ({ frames := 1, cells := 0, slots := 0, locals := 22 } : Room)) X hP hD hS (by simp only [orderF, nwIf_T, nwIf_F, or_true, true_or, or_false, false_or, and_true, true_and, and_false, false_and, not_true_eq_false, not_false_eq_true, Nat.add_sub_cancel, q_3, ec_7]) dX7_order_28
  · skip
    have q_3 : out ((i)) ((0 : Int32)) (((nI (nd)) - (1 : Int32))) := q_3
    refine lv_if_eq (tgt := 27) hx hb dX7_order_15 (by decide) (fun _ => ?_) (fun c9 => absurd (by decide) c9)
    refine lv_iconst (v := (-1)) hx hb dX7_order_27 (by decide) ?_
    exact nw_iret (rm := ({ frames := 1, cells := 0, slots := 0, locals := 22 } : Room)) X hP hD hS (by simp only [orderF, nwIf_T, nwIf_F, or_true, true_or, or_false, false_or, and_true, true_and, and_false, false_and, not_true_eq_false, not_false_eq_true, Nat.add_sub_cancel, q_3]) dX7_order_28
set_option maxHeartbeats 4000000 in
set_option maxRecDepth 100000 in
theorem c_X7_pull (lc : Launch) (G : nwG) (x : Nat) (h100 : x ≤ 100) : nwCl lc G yX7_pull wsX7_pull ({ frames := 0, cells := 0, slots := 0, locals := 0 } : Room) [.int (nI (x))] ([]) (fun r ww => r = pullF x ∧ ww = []) := by
  refine nw_of (cc := cX7_pull) (maxL := 2) (ret := (some .long)) (by decide) rfl (Nat.le_of_ble_eq_true rfl) ?_
  intro vp ve vs vm vb vt vc vA ls X hP hD hA hS hl
  have X : nwAt vp vm vc cX7_pull 2 vs _ wsX7_pull RX7 vt (some .long) "pull" G := X
  have hx := X.1.1
  have hb := X.1.2.1
  have hown := X.1.2.2.2.1
  have hts := X.1.2.2.2.2
  have hK := X.2.2.2.2
  have hl : lv_has ls 2 [(0, .int (nI (x)))] := hl
  refine lv_iconst (v := (0)) hx hb dX7_pull_0 (by decide) ?_
  refine lv_istore_n (lv' := [(1, .int (0)), (0, .int (nI (x)))]) hx hb dX7_pull_1 rfl hl (by decide) rfl (fun ls hl => ?_)
  have K2 : ∀ (fuel : Nat) (x1 : Nat) (H : Heap) (locs : List Loc) (ls : Array Slot), (1001 - x1) < fuel → (x1 ≤ 1000) → (x1 * x1 ≤ 10000 * x) → lv_has ls 2 [(1, .int (nI (x1))), (0, .int (nI (x)))] → va_P G.1 vwCl ([]) H → va_D vA ([]) → va_S vA vs.heap H locs → W vp lc ve ({ frames := 0, cells := 0, slots := 0, locals := 0 } : Room) vs vm ([.int (nI (x))] : List Value).toArray vb vt vc H locs 0 0 (MQ vb (nwQl G (fun r ww => r = pullF x ∧ ww = []) vA) ([.int (nI (x))] : List Value).toArray vs ({ frames := 0, cells := 0, slots := 0, locals := 0 } : Room).cells ({ frames := 0, cells := 0, slots := 0, locals := 0 } : Room).slots vA) (F0 vm 2 ls []) := by
    intro fuel
    induction fuel with
    | zero => intro x1 H locs ls hmu; exact absurd hmu (Nat.not_lt_zero _)
    | succ fuel ih2 =>
      intro x1 H locs ls hmu h1 h2 hl hP hD hS
      have h3 : (x1 + 1) * (x1 + 1) ≤ 1001 * 1001 := Nat.mul_le_mul (by omega) (by omega)
      refine lv_iload_n hx hb dX7_pull_2 rfl (lv_at hl 0 rfl) ?_
      refine lv_iconst (v := (1)) hx hb dX7_pull_3 (by decide) ?_
      refine lv_iadd hx hb dX7_pull_4 ?_
      refine nw_top (y := nI (x1 + 1)) (nI_add (x1) (1)) ?_
      refine lv_iload_n hx hb dX7_pull_5 rfl (lv_at hl 0 rfl) ?_
      refine lv_iconst (v := (1)) hx hb dX7_pull_6 (by decide) ?_
      refine lv_iadd hx hb dX7_pull_7 ?_
      refine nw_top (y := nI (x1 + 1)) (nI_add (x1) (1)) ?_
      refine lv_imul hx hb dX7_pull_8 ?_
      refine nw_top (y := nI ((x1 + 1) * (x1 + 1))) (pk_mul (x1 + 1) (x1 + 1)) ?_
      refine lv_sipush (v := (10000)) hx hb dX7_pull_9 (by decide) ?_
      refine lv_iload_n hx hb dX7_pull_12 rfl (lv_at hl 1 rfl) ?_
      refine lv_imul hx hb dX7_pull_13 ?_
      refine nw_top (y := nI (10000 * x)) (pk_mul (10000) (x)) ?_
      refine lv_icmp_gt (tgt := 23) hx hb dX7_pull_14 (by decide) (fun b14_1 => ?_) (fun b14_1 => ?_)
      · skip
        have b14_1 : (10000 * x) < ((x1 + 1) * (x1 + 1)) := (nI_ltI (a := 10000 * x) (b := (x1 + 1) * (x1 + 1)) (by omega) (by omega)).mp b14_1
        have b14_1n : ¬ (((x1 + 1) * (x1 + 1)) ≤ (10000 * x)) := by omega
        refine lv_iload_n hx hb dX7_pull_23 rfl (lv_at hl 1 rfl) ?_
        refine lv_i2l (v := (nI (x)).toInt64) hx hb dX7_pull_24 rfl ?_
        refine lv_iload_n hx hb dX7_pull_25 rfl (lv_at hl 0 rfl) ?_
        refine lv_i2l (v := (nI (x1)).toInt64) hx hb dX7_pull_26 rfl ?_
        refine lv_lmul hx hb dX7_pull_27 ?_
        exact nw_lret (rm := ({ frames := 0, cells := 0, slots := 0, locals := 0 } : Room)) X hP hD hS (⟨by rw [show x1 = rtF (10000 * x) from (rtF_is h2 (by omega) (by omega)).symm]; rfl, rfl⟩) dX7_pull_28
      · skip
        have b14_1 : ¬ ((10000 * x) < ((x1 + 1) * (x1 + 1))) := fun h => b14_1 ((nI_ltI (a := 10000 * x) (b := (x1 + 1) * (x1 + 1)) (by omega) (by omega)).mpr h)
        have b14_1n : ((x1 + 1) * (x1 + 1)) ≤ (10000 * x) := by omega
        refine lv_iinc (v := (nI (x1 + 1))) (lv' := [(1, .int (nI (x1 + 1))), (0, .int (nI (x)))]) hx hb dX7_pull_17 hl (k := 0) rfl (by exact nI_add (x1) 1) (by decide) rfl (fun ls hl => ?_)
        refine lv_goto (tgt := 2) hx hb dX7_pull_20 (by decide) ?_
        exact ih2 (x1 + 1) _ _ _ (by have h9 := sq_le (r := x1 + 1) (by omega); omega) (by exact sq_le (by omega)) (by assumption) (lv_sub hl [0, 1] rfl) hP hD hS
  exact K2 ((1001 - (0)) + 1) (0) _ _ _ (Nat.lt_succ_self _) (by omega) (by omega) (lv_sub hl [0, 1] rfl) hP hD hS
set_option maxHeartbeats 4000000 in
set_option maxRecDepth 100000 in
theorem c_X7_pulled (lc : Launch) (G : nwG) (a : Nat → Nat) (n : Nat) (cu bg : Nat → Int32) (M : Nat → Nat → Int32) (er us ll lm lh : Int32) (nv : Nat) (fr tt gr : Nat → Nat) (ML : Nat → Nat → Int32) (ns : Nat) (w : Nat → Nat) (cs cl : Nat → Int32) (nd : Nat) (lo ho : Nat → Int32) (so : Nat → Nat) (v x y : Int32)  : nwCi lc G yX7_pulled wsX7_pulled ({ frames := 1, cells := 0, slots := 0, locals := 22 } : Room) [.ref (a 0), .int (v), .int (x), .int (y)] ((wM G (a) (n) (cu) (bg) ((coF M)) ((goF M)) (er) (us) (ll) (lm) (lh) (nv) (fr) (tt) (gr) ((hdF2 ML)) (ns) (w) (cs) (cl) (nd) (lo) (ho) (so))) (fun r ww => r = pulledF v x y ∧ ww = wM G (a) (n) (cu) (bg) ((coF M)) ((goF M)) (er) (us) (ll) (lm) (lh) (nv) (fr) (tt) (gr) ((hdF2 ML)) (ns) (w) (cs) (cl) (nd) (lo) (ho) (so)) := by
  refine nw_of (cc := cX7_pulled) (maxL := 4) (ret := (some .int)) (by decide) rfl (Nat.le_of_ble_eq_true rfl) ?_
  intro vp ve vs vm vb vt vc vA ls X hP hD hA hS hl
  have X : nwAt vp vm vc cX7_pulled 4 vs _ wsX7_pulled RX7 vt (some .int) "pulled" G := X
  have hx := X.1.1
  have hb := X.1.2.1
  have hown := X.1.2.2.2.1
  have hts := X.1.2.2.2.2
  have hK := X.2.2.2.2
  have hl : lv_has ls 4 [(0, .ref (a 0)), (1, .int (v)), (2, .int (x)), (3, .int (y))] := hl
  refine lv_iload_n hx hb dX7_pulled_0 rfl (lv_at hl 1 rfl) ?_
  refine lv_iconst (v := (0)) hx hb dX7_pulled_1 (by decide) ?_
  refine lv_ldc (own := RX7) (v := (100000)) hx hb hown (hts (.constant RX7 126 (100000)) (List.mem_of_getElem? (i := 1) rfl)) dX7_pulled_2 ?_
  refine nw_Si (As := [.int (v), .int (0), .int (100000)]) (rest := []) X (c_X7_in lc G ((v)) ((0 : Int32)) ((100000 : Int32)) ) (va_cwS 3 hts gX7_pulled_X7_in rfl rfl rfl (by decide +kernel) ⟨Nat.le_of_ble_eq_true rfl, Nat.le_of_ble_eq_true rfl⟩) (fun _ _ h => h.2) hP hD hS hA rfl hl.1 rfl (Nat.le_of_ble_eq_true rfl) dX7_pulled_4 ⟨Nat.le_of_ble_eq_true rfl, Nat.le_of_ble_eq_true rfl⟩ (fun r H locs hp_1 hP hD hS => ?_)
  obtain ⟨⟨rfl, q_2⟩ | ⟨rfl, q_2⟩, -⟩ := hp_1
  · skip
    have q_2 : ¬ out ((v)) ((0 : Int32)) ((100000 : Int32)) := q_2
    refine lv_if_eq (tgt := 30) hx hb dX7_pulled_7 (by decide) (fun c9 => absurd c9 (by decide)) (fun _ => ?_)
    refine lv_iload_n hx hb dX7_pulled_10 rfl (lv_at hl 2 rfl) ?_
    refine lv_iconst (v := (1)) hx hb dX7_pulled_11 (by decide) ?_
    refine lv_bipush (v := (100)) hx hb dX7_pulled_12 (by decide) ?_
    refine nw_Si (As := [.int (x), .int (1), .int (100)]) (rest := []) X (c_X7_in lc G ((x)) ((1 : Int32)) ((100 : Int32)) ) (va_cwS 3 hts gX7_pulled_X7_in rfl rfl rfl (by decide +kernel) ⟨Nat.le_of_ble_eq_true rfl, Nat.le_of_ble_eq_true rfl⟩) (fun _ _ h => h.2) hP hD hS hA rfl hl.1 rfl (Nat.le_of_ble_eq_true rfl) dX7_pulled_14 ⟨Nat.le_of_ble_eq_true rfl, Nat.le_of_ble_eq_true rfl⟩ (fun r H locs hp_4 hP hD hS => ?_)
    obtain ⟨⟨rfl, q_5⟩ | ⟨rfl, q_5⟩, -⟩ := hp_4
    · skip
      have q_5 : ¬ out ((x)) ((1 : Int32)) ((100 : Int32)) := q_5
      obtain ⟨z_6, hm_7, hz_8, he_9⟩ := nw_rng1 (n := 100) rfl (by decide) q_5
      have ec_10 := nw_clamp he_9 (by omega)
      refine lv_if_eq (tgt := 30) hx hb dX7_pulled_17 (by decide) (fun c9 => absurd c9 (by decide)) (fun _ => ?_)
      refine lv_iload_n hx hb dX7_pulled_20 rfl (lv_at hl 3 rfl) ?_
      refine lv_iconst (v := (1)) hx hb dX7_pulled_21 (by decide) ?_
      refine lv_bipush (v := (100)) hx hb dX7_pulled_22 (by decide) ?_
      refine nw_Si (As := [.int (y), .int (1), .int (100)]) (rest := []) X (c_X7_in lc G ((y)) ((1 : Int32)) ((100 : Int32)) ) (va_cwS 3 hts gX7_pulled_X7_in rfl rfl rfl (by decide +kernel) ⟨Nat.le_of_ble_eq_true rfl, Nat.le_of_ble_eq_true rfl⟩) (fun _ _ h => h.2) hP hD hS hA rfl hl.1 rfl (Nat.le_of_ble_eq_true rfl) dX7_pulled_24 ⟨Nat.le_of_ble_eq_true rfl, Nat.le_of_ble_eq_true rfl⟩ (fun r H locs hp_12 hP hD hS => ?_)
      obtain ⟨⟨rfl, q_13⟩ | ⟨rfl, q_13⟩, -⟩ := hp_12
      · skip
        have q_13 : ¬ out ((y)) ((1 : Int32)) ((100 : Int32)) := q_13
        obtain ⟨z_14, hm_15, hz_16, he_17⟩ := nw_rng1 (n := 100) rfl (by decide) q_13
        have ec_18 := nw_clamp he_17 (by omega)
        refine lv_if_ne (tgt := 33) hx hb dX7_pulled_27 (by decide) (fun _ => ?_) (fun c9 => absurd c9 (by decide))
        refine lv_iload_n hx hb dX7_pulled_33 rfl (lv_at hl 1 rfl) ?_
        refine lv_i2l (v := (v).toInt64) hx hb dX7_pulled_34 rfl ?_
        refine lv_iload_n hx hb dX7_pulled_35 rfl (lv_at hl 3 rfl) ?_
        refine nw_st (st' := [.int (nI (z_14)), .long ((v).toInt64)]) (by rw [he_17]) ?_
        refine nw_Sl (As := [.int (nI (z_14))]) (rest := [.long ((v).toInt64)]) X (c_X7_pull lc G (z_14) (by first | assumption | omega)) (va_cwS 1 hts gX7_pulled_X7_pull rfl rfl rfl (by decide +kernel) ⟨Nat.le_of_ble_eq_true rfl, Nat.le_of_ble_eq_true rfl⟩) (fun _ _ h => h.2) hP hD hS hA rfl hl.1 rfl (Nat.le_of_ble_eq_true rfl) dX7_pulled_36 ⟨Nat.le_of_ble_eq_true rfl, Nat.le_of_ble_eq_true rfl⟩ (fun r H locs hp_20 hP hD hS => ?_)
        obtain ⟨rfl, -⟩ := hp_20
        refine lv_lmul hx hb dX7_pulled_39 ?_
        refine lv_iload_n hx hb dX7_pulled_40 rfl (lv_at hl 2 rfl) ?_
        refine nw_st (st' := [.int (nI (z_6)), .long (((v).toInt64) * (pullF (z_14)))]) (by rw [he_9]) ?_
        refine nw_Sl (As := [.int (nI (z_6))]) (rest := [.long (((v).toInt64) * (pullF (z_14)))]) X (c_X7_pull lc G (z_6) (by first | assumption | omega)) (va_cwS 1 hts gX7_pulled_X7_pull rfl rfl rfl (by decide +kernel) ⟨Nat.le_of_ble_eq_true rfl, Nat.le_of_ble_eq_true rfl⟩) (fun _ _ h => h.2) hP hD hS hA rfl hl.1 rfl (Nat.le_of_ble_eq_true rfl) dX7_pulled_41 ⟨Nat.le_of_ble_eq_true rfl, Nat.le_of_ble_eq_true rfl⟩ (fun r H locs hp_21 hP hD hS => ?_)
        obtain ⟨rfl, -⟩ := hp_21
        refine lv_ldiv hx hb dX7_pulled_44 (by exact fun h9 => absurd (h9 ▸ pullF_pos (x := z_6) (by omega) (by omega) : (0 : Int64) < 0) (by decide)) ?_
        refine lv_l2i (v := ((((v).toInt64) * (pullF (z_14))) / (pullF (z_6))).toInt32) hx hb dX7_pulled_45 rfl ?_
        exact nw_iret (rm := ({ frames := 1, cells := 0, slots := 0, locals := 22 } : Room)) X hP hD hS (by simp only [pulledF, nwIf_T, nwIf_F, or_true, true_or, or_false, false_or, and_true, true_and, and_false, false_and, not_true_eq_false, not_false_eq_true, Nat.add_sub_cancel, q_2, q_5, ec_10, q_13, ec_18]) dX7_pulled_46
      · skip
        have q_13 : out ((y)) ((1 : Int32)) ((100 : Int32)) := q_13
        refine lv_if_ne (tgt := 33) hx hb dX7_pulled_27 (by decide) (fun c9 => absurd c9 (by decide)) (fun _ => ?_)
        refine lv_bipush (v := (-2)) hx hb dX7_pulled_30 (by decide) ?_
        exact nw_iret (rm := ({ frames := 1, cells := 0, slots := 0, locals := 22 } : Room)) X hP hD hS (by simp only [pulledF, nwIf_T, nwIf_F, or_true, true_or, or_false, false_or, and_true, true_and, and_false, false_and, not_true_eq_false, not_false_eq_true, Nat.add_sub_cancel, q_2, q_5, ec_10, q_13]) dX7_pulled_32
    · skip
      have q_5 : out ((x)) ((1 : Int32)) ((100 : Int32)) := q_5
      refine lv_if_eq (tgt := 30) hx hb dX7_pulled_17 (by decide) (fun _ => ?_) (fun c9 => absurd (by decide) c9)
      refine lv_bipush (v := (-2)) hx hb dX7_pulled_30 (by decide) ?_
      exact nw_iret (rm := ({ frames := 1, cells := 0, slots := 0, locals := 22 } : Room)) X hP hD hS (by simp only [pulledF, nwIf_T, nwIf_F, or_true, true_or, or_false, false_or, and_true, true_and, and_false, false_and, not_true_eq_false, not_false_eq_true, Nat.add_sub_cancel, q_2, q_5]) dX7_pulled_32
  · skip
    have q_2 : out ((v)) ((0 : Int32)) ((100000 : Int32)) := q_2
    refine lv_if_eq (tgt := 30) hx hb dX7_pulled_7 (by decide) (fun _ => ?_) (fun c9 => absurd (by decide) c9)
    refine lv_bipush (v := (-2)) hx hb dX7_pulled_30 (by decide) ?_
    exact nw_iret (rm := ({ frames := 1, cells := 0, slots := 0, locals := 22 } : Room)) X hP hD hS (by simp only [pulledF, nwIf_T, nwIf_F, or_true, true_or, or_false, false_or, and_true, true_and, and_false, false_and, not_true_eq_false, not_false_eq_true, Nat.add_sub_cancel, q_2]) dX7_pulled_32
