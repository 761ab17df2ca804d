/-! printed by wip/gen/x7e.py: contracts, walked row by row -/
theorem in_X7_count_X7 : ∀ w ∈ wsX70, w ∈ wsX7_count := by decide +kernel
theorem in_X7_digest_X7 : ∀ w ∈ wsX70, w ∈ wsX7_digest := by decide +kernel
set_option maxHeartbeats 4000000 in
set_option maxRecDepth 100000 in
theorem c_X7_count (lc : Launch) (G : nwG) (a : Nat → Nat) (n : Nat) (cu bg : Nat → Int32) (M : Nat → Nat → Int32) (er us ll lm lh : Int32) (nv : Nat) (fr tt gr : Nat → Nat) (ML : Nat → Nat → Int32) (ns : Nat) (w : Nat → Nat) (cs cl : Nat → Int32) (nd : Nat) (lo ho : Nat → Int32) (so : Nat → Nat) (p1 : Int32) (hn : n ≤ 8) (hnv : nv ≤ 12) (hn12 : ns ≤ 12) (hnd : nd ≤ 8) : nwCi lc G yX7_count wsX7_count ({ frames := 0, cells := 0, slots := 0, locals := 0 } : Room) [.ref (a 0), .int (p1)] ((wM G (a) (n) (cu) (bg) ((coF M)) ((goF M)) (er) (us) (ll) (lm) (lh) (nv) (fr) (tt) (gr) ((hdF2 ML)) (ns) (w) (cs) (cl) (nd) (lo) (ho) (so))) (fun r ww => r = countF n nv ns nd M ML p1 ∧ ww = wM G (a) (n) (cu) (bg) ((coF M)) ((goF M)) (er) (us) (ll) (lm) (lh) (nv) (fr) (tt) (gr) ((hdF2 ML)) (ns) (w) (cs) (cl) (nd) (lo) (ho) (so)) := by
  refine nw_of (cc := cX7_count) (maxL := 4) (ret := (some .int)) (by decide) rfl (Nat.le_of_ble_eq_true rfl) ?_
  intro vp ve vs vm vb vt vc vA ls X hP hD hA hS hl
  have X : nwAt vp vm vc cX7_count 4 vs _ wsX7_count RX7 vt (some .int) "count" G := X
  have hx := X.1.1
  have hb := X.1.2.1
  have hown := X.1.2.2.2.1
  have hts := X.1.2.2.2.2
  have hK := X.2.2.2.2
  have hl : lv_has ls 4 [(0, .ref (a 0)), (1, .int (p1))] := hl
  refine lv_iconst (v := (0)) hx hb dX7_count_0 (by decide) ?_
  refine lv_istore_n (lv' := [(2, .int (0)), (0, .ref (a 0)), (1, .int (p1))]) hx hb dX7_count_1 rfl hl (by decide) rfl (fun ls hl => ?_)
  refine lv_iload_n hx hb dX7_count_2 rfl (lv_at hl 2 rfl) ?_
  by_cases hw0 : p1 = 0
  · skip
    refine nw_st (st' := [.int 0]) (by rw [hw0]) ?_
    refine lv_tableIn (off := 37) (tgt := 40) hx hb dX7_count_3 (by decide) (by decide) (by rfl) (by decide) ?_
    refine lv_aload_n hx hb dX7_count_40 rfl (lv_at hl 1 rfl) ?_
    refine va_get (D := G.1) (ci := 6) (v := .int (nI (n))) (C := RX7) (T := TX7) (N := 23) hx hb hts in_X7_count_X7 hown hK.1 hP 0 rfl rfl 0 (by decide) (hts (.fieldLink RX7 62 "NightWaterModel" "zones" "I") (List.mem_of_getElem? (i := 1) rfl)) (fun _ h9 => h9) rfl dX7_count_41 ?_
    exact nw_iret (rm := ({ frames := 0, cells := 0, slots := 0, locals := 0 } : Room)) X hP hD hS (⟨by simp only [countF, nwIf_T, nwIf_F, or_true, true_or, or_false, false_or, and_true, true_and, and_false, false_and, not_true_eq_false, not_false_eq_true, Nat.add_sub_cancel, eq_true hw0], rfl⟩) dX7_count_44
  by_cases hw1 : p1 = 1
  · skip
    refine nw_st (st' := [.int 1]) (by rw [hw1]) ?_
    refine lv_tableIn (off := 42) (tgt := 45) hx hb dX7_count_3 (by decide) (by decide) (by rfl) (by decide) ?_
    refine lv_aload_n hx hb dX7_count_45 rfl (lv_at hl 1 rfl) ?_
    refine va_get (D := G.1) (ci := 6) (v := .int (nI (nv))) (C := RX7) (T := TX7) (N := 23) hx hb hts in_X7_count_X7 hown hK.1 hP 0 rfl rfl 10 (by decide) (hts (.fieldLink RX7 97 "NightWaterModel" "valves" "I") (List.mem_of_getElem? (i := 2) rfl)) (fun _ h9 => h9) rfl dX7_count_46 ?_
    exact nw_iret (rm := ({ frames := 0, cells := 0, slots := 0, locals := 0 } : Room)) X hP hD hS (⟨by simp only [countF, nwIf_T, nwIf_F, or_true, true_or, or_false, false_or, and_true, true_and, and_false, false_and, not_true_eq_false, not_false_eq_true, Nat.add_sub_cancel, hw0, eq_true hw1], rfl⟩) dX7_count_49
  by_cases hw2 : p1 = 2
  · skip
    refine nw_st (st' := [.int 2]) (by rw [hw2]) ?_
    refine lv_tableIn (off := 47) (tgt := 50) hx hb dX7_count_3 (by decide) (by decide) (by rfl) (by decide) ?_
    refine lv_aload_n hx hb dX7_count_50 rfl (lv_at hl 1 rfl) ?_
    refine va_get (D := G.1) (ci := 6) (v := .int (nI (ns))) (C := RX7) (T := TX7) (N := 23) hx hb hts in_X7_count_X7 hown hK.1 hP 0 rfl rfl 15 (by decide) (hts (.fieldLink RX7 41 "NightWaterModel" "sections" "I") (List.mem_of_getElem? (i := 3) rfl)) (fun _ h9 => h9) rfl dX7_count_51 ?_
    exact nw_iret (rm := ({ frames := 0, cells := 0, slots := 0, locals := 0 } : Room)) X hP hD hS (⟨by simp only [countF, nwIf_T, nwIf_F, or_true, true_or, or_false, false_or, and_true, true_and, and_false, false_and, not_true_eq_false, not_false_eq_true, Nat.add_sub_cancel, hw0, hw1, eq_true hw2], rfl⟩) dX7_count_54
  by_cases hw3 : p1 = 3
  · skip
    refine nw_st (st' := [.int 3]) (by rw [hw3]) ?_
    refine lv_tableIn (off := 52) (tgt := 55) hx hb dX7_count_3 (by decide) (by decide) (by rfl) (by decide) ?_
    refine lv_aload_n hx hb dX7_count_55 rfl (lv_at hl 1 rfl) ?_
    refine va_get (D := G.1) (ci := 6) (v := .int (nI (nd))) (C := RX7) (T := TX7) (N := 23) hx hb hts in_X7_count_X7 hown hK.1 hP 0 rfl rfl 19 (by decide) (hts (.fieldLink RX7 133 "NightWaterModel" "digs" "I") (List.mem_of_getElem? (i := 4) rfl)) (fun _ h9 => h9) rfl dX7_count_56 ?_
    exact nw_iret (rm := ({ frames := 0, cells := 0, slots := 0, locals := 0 } : Room)) X hP hD hS (⟨by simp only [countF, nwIf_T, nwIf_F, or_true, true_or, or_false, false_or, and_true, true_and, and_false, false_and, not_true_eq_false, not_false_eq_true, Nat.add_sub_cancel, hw0, hw1, hw2, eq_true hw3], rfl⟩) dX7_count_59
  by_cases hw4 : p1 = 4
  · skip
    refine nw_st (st' := [.int 4]) (by rw [hw4]) ?_
    refine lv_tableIn (off := 57) (tgt := 60) hx hb dX7_count_3 (by decide) (by decide) (by rfl) (by decide) ?_
    refine lv_iconst (v := (0)) hx hb dX7_count_60 (by decide) ?_
    refine lv_istore_n (lv' := [(3, .int (0)), (2, .int (0)), (0, .ref (a 0)), (1, .int (p1))]) hx hb dX7_count_61 rfl hl (by decide) rfl (fun ls hl => ?_)
    have K62 : ∀ (fuel : Nat) (k : Nat) (x1 : Int32) (H : Heap) (locs : List Loc) (ls : Array Slot), (193 - k) < fuel → (k ≤ 24 * n) → (x1 = rlF M k) → lv_has ls 4 [(3, .int (nI (k))), (2, .int (x1)), (0, .ref (a 0)), (1, .int (p1))] → va_P G.1 vwCl ((wM G (a) (n) (cu) (bg) ((coF M)) ((goF M)) (er) (us) (ll) (lm) (lh) (nv) (fr) (tt) (gr) ((hdF2 ML)) (ns) (w) (cs) (cl) (nd) (lo) (ho) (so))) H → va_D vA ((wM G (a) (n) (cu) (bg) ((coF M)) ((goF M)) (er) (us) (ll) (lm) (lh) (nv) (fr) (tt) (gr) ((hdF2 ML)) (ns) (w) (cs) (cl) (nd) (lo) (ho) (so))) → va_S vA vs.heap H locs → W vp lc ve ({ frames := 0, cells := 0, slots := 0, locals := 0 } : Room) vs vm ([.ref (a 0), .int (p1)] : List Value).toArray vb vt vc H locs 0 0 (MQ vb (nwQi G (fun r ww => r = countF n nv ns nd M ML p1 ∧ ww = wM G (a) (n) (cu) (bg) ((coF M)) ((goF M)) (er) (us) (ll) (lm) (lh) (nv) (fr) (tt) (gr) ((hdF2 ML)) (ns) (w) (cs) (cl) (nd) (lo) (ho) (so)) vA) ([.ref (a 0), .int (p1)] : List Value).toArray vs ({ frames := 0, cells := 0, slots := 0, locals := 0 } : Room).cells ({ frames := 0, cells := 0, slots := 0, locals := 0 } : Room).slots vA) (F0 vm 62 ls []) := by
      intro fuel
      induction fuel with
      | zero => intro k x1 H locs ls hmu; exact absurd hmu (Nat.not_lt_zero _)
      | succ fuel ih62 =>
        intro k x1 H locs ls hmu hk e1 hl hP hD hS
        refine lv_iload_n hx hb dX7_count_62 rfl (lv_at hl 0 rfl) ?_
        refine lv_bipush (v := (24)) hx hb dX7_count_63 (by decide) ?_
        refine lv_aload_n hx hb dX7_count_65 rfl (lv_at hl 2 rfl) ?_
        refine va_get (D := G.1) (ci := 6) (v := .int (nI (n))) (C := RX7) (T := TX7) (N := 23) hx hb hts in_X7_count_X7 hown hK.1 hP 0 rfl rfl 0 (by decide) (hts (.fieldLink RX7 62 "NightWaterModel" "zones" "I") (List.mem_of_getElem? (i := 1) rfl)) (fun _ h9 => h9) rfl dX7_count_66 ?_
        refine lv_imul hx hb dX7_count_69 ?_
        refine nw_top (y := nI (24 * n)) (pk_mul (24) (n)) ?_
        refine lv_icmp_ge (tgt := 113) hx hb dX7_count_70 (by decide) (fun b70_1 => ?_) (fun b70_1 => ?_)
        · skip
          have b70_1 : (24 * n) ≤ (k) := (nI_leI (a := 24 * n) (b := k) (by omega) (by omega)).mp b70_1
          have b70_1n : ¬ ((k) < (24 * n)) := by omega
          refine lv_iload_n hx hb dX7_count_113 rfl (lv_at hl 1 rfl) ?_
          exact nw_iret (rm := ({ frames := 0, cells := 0, slots := 0, locals := 0 } : Room)) X hP hD hS (⟨by simp only [countF, nwIf_T, nwIf_F, or_true, true_or, or_false, false_or, and_true, true_and, and_false, false_and, not_true_eq_false, not_false_eq_true, Nat.add_sub_cancel, hw0, hw1, hw2, hw3, eq_true hw4, b70_1n, b70_1]; exact e1.trans (by rw [show k = 24 * n by omega]), rfl⟩) dX7_count_114
        · skip
          have b70_1 : ¬ ((24 * n) ≤ (k)) := fun h => b70_1 ((nI_leI (a := 24 * n) (b := k) (by omega) (by omega)).mpr h)
          have b70_1n : (k) < (24 * n) := by omega
          refine lv_iload_n hx hb dX7_count_73 rfl (lv_at hl 1 rfl) ?_
          refine lv_aload_n hx hb dX7_count_74 rfl (lv_at hl 2 rfl) ?_
          refine va_get (D := G.1) (ci := 6) (v := .ref (a 3)) (C := RX7) (T := TX7) (N := 23) hx hb hts in_X7_count_X7 hown hK.1 hP 0 rfl rfl 3 (by decide) (hts (.fieldLink RX7 16 "NightWaterModel" "comes" "[I") (List.mem_of_getElem? (i := 5) rfl)) (fun _ h9 => h9) rfl dX7_count_75 ?_
          refine lv_iload_n hx hb dX7_count_78 rfl (lv_at hl 0 rfl) ?_
          refine nw_iald X hP 3 (n := 192) (f := ((coF M))) rfl (k) rfl (by omega) (by decide) dX7_count_79 ?_
          refine nw_top (y := M (k / 24) (k % 24)) (coF_d (by omega)) ?_
          refine lv_iconst (v := (-1)) hx hb dX7_count_80 (by decide) ?_
          refine lv_icmp_ne (tgt := 88) hx hb dX7_count_81 (by decide) (fun b81_2 => ?_) (fun b81_2 => ?_)
          · skip
            have b81_2 : ¬ ((M (k / 24) (k % 24)) = (-1 : Int32)) := b81_2
            refine lv_iconst (v := (0)) hx hb dX7_count_88 (by decide) ?_
            refine lv_aload_n hx hb dX7_count_89 rfl (lv_at hl 2 rfl) ?_
            refine va_get (D := G.1) (ci := 6) (v := .ref (a 4)) (C := RX7) (T := TX7) (N := 23) hx hb hts in_X7_count_X7 hown hK.1 hP 0 rfl rfl 4 (by decide) (hts (.fieldLink RX7 19 "NightWaterModel" "goes" "[I") (List.mem_of_getElem? (i := 6) rfl)) (fun _ h9 => h9) rfl dX7_count_90 ?_
            refine lv_iload_n hx hb dX7_count_93 rfl (lv_at hl 0 rfl) ?_
            refine nw_iald X hP 4 (n := 192) (f := ((goF M))) rfl (k) rfl (by omega) (by decide) dX7_count_94 ?_
            refine nw_top (y := M (8 + k / 24) (k % 24)) (goF_d (by omega)) ?_
            refine lv_iconst (v := (-1)) hx hb dX7_count_95 (by decide) ?_
            refine lv_icmp_ne (tgt := 103) hx hb dX7_count_96 (by decide) (fun b96_3 => ?_) (fun b96_3 => ?_)
            · skip
              have b96_3 : ¬ ((M (8 + k / 24) (k % 24)) = (-1 : Int32)) := b96_3
              refine lv_iconst (v := (0)) hx hb dX7_count_103 (by decide) ?_
              refine lv_iadd hx hb dX7_count_104 ?_
              refine nw_top (y := (0)) (by decide) ?_
              refine lv_iadd hx hb dX7_count_105 ?_
              refine lv_istore_n (lv' := [(2, .int ((x1) + (0 : Int32))), (3, .int (nI (k))), (0, .ref (a 0)), (1, .int (p1))]) hx hb dX7_count_106 rfl hl (by decide) rfl (fun ls hl => ?_)
              refine lv_iinc (v := (nI (k + 1))) (lv' := [(3, .int (nI (k + 1))), (2, .int ((x1) + (0 : Int32))), (0, .ref (a 0)), (1, .int (p1))]) hx hb dX7_count_107 hl (k := 1) rfl (by exact nI_add (k) 1) (by decide) rfl (fun ls hl => ?_)
              refine lv_goto (tgt := 62) hx hb dX7_count_110 (by decide) ?_
              exact ih62 (k + 1) (((x1) + (0 : Int32))) _ _ _ (by omega) (by omega) (by rw [rlF_s2, ← e1]; simp only [nwIf_T, nwIf_F, or_true, true_or, or_false, false_or, and_true, true_and, and_false, false_and, not_true_eq_false, not_false_eq_true, Nat.add_sub_cancel, hw0, hw1, hw2, hw3, eq_true hw4, b70_1n, b70_1, b81_2, b96_3]; exact congrArg (fun q => x1 + q) (by decide)) (lv_sub hl [0, 1, 2, 3] rfl) hP hD hS
            · skip
              have b96_3 : (M (8 + k / 24) (k % 24)) = (-1 : Int32) := b96_3
              refine lv_iconst (v := (1)) hx hb dX7_count_99 (by decide) ?_
              refine lv_goto (tgt := 104) hx hb dX7_count_100 (by decide) ?_
              refine lv_iadd hx hb dX7_count_104 ?_
              refine nw_top (y := (1)) (by decide) ?_
              refine lv_iadd hx hb dX7_count_105 ?_
              refine lv_istore_n (lv' := [(2, .int ((x1) + (1 : Int32))), (3, .int (nI (k))), (0, .ref (a 0)), (1, .int (p1))]) hx hb dX7_count_106 rfl hl (by decide) rfl (fun ls hl => ?_)
              refine lv_iinc (v := (nI (k + 1))) (lv' := [(3, .int (nI (k + 1))), (2, .int ((x1) + (1 : Int32))), (0, .ref (a 0)), (1, .int (p1))]) hx hb dX7_count_107 hl (k := 1) rfl (by exact nI_add (k) 1) (by decide) rfl (fun ls hl => ?_)
              refine lv_goto (tgt := 62) hx hb dX7_count_110 (by decide) ?_
              exact ih62 (k + 1) (((x1) + (1 : Int32))) _ _ _ (by omega) (by omega) (by rw [rlF_s2, ← e1]; simp only [nwIf_T, nwIf_F, or_true, true_or, or_false, false_or, and_true, true_and, and_false, false_and, not_true_eq_false, not_false_eq_true, Nat.add_sub_cancel, hw0, hw1, hw2, hw3, eq_true hw4, b70_1n, b70_1, b81_2, eq_true b96_3]; exact congrArg (fun q => x1 + q) (by decide)) (lv_sub hl [0, 1, 2, 3] rfl) hP hD hS
          · skip
            have b81_2 : (M (k / 24) (k % 24)) = (-1 : Int32) := b81_2
            refine lv_iconst (v := (1)) hx hb dX7_count_84 (by decide) ?_
            refine lv_goto (tgt := 89) hx hb dX7_count_85 (by decide) ?_
            refine lv_aload_n hx hb dX7_count_89 rfl (lv_at hl 2 rfl) ?_
            refine va_get (D := G.1) (ci := 6) (v := .ref (a 4)) (C := RX7) (T := TX7) (N := 23) hx hb hts in_X7_count_X7 hown hK.1 hP 0 rfl rfl 4 (by decide) (hts (.fieldLink RX7 19 "NightWaterModel" "goes" "[I") (List.mem_of_getElem? (i := 6) rfl)) (fun _ h9 => h9) rfl dX7_count_90 ?_
            refine lv_iload_n hx hb dX7_count_93 rfl (lv_at hl 0 rfl) ?_
            refine nw_iald X hP 4 (n := 192) (f := ((goF M))) rfl (k) rfl (by omega) (by decide) dX7_count_94 ?_
            refine nw_top (y := M (8 + k / 24) (k % 24)) (goF_d (by omega)) ?_
            refine lv_iconst (v := (-1)) hx hb dX7_count_95 (by decide) ?_
            refine lv_icmp_ne (tgt := 103) hx hb dX7_count_96 (by decide) (fun b96_4 => ?_) (fun b96_4 => ?_)
            · skip
              have b96_4 : ¬ ((M (8 + k / 24) (k % 24)) = (-1 : Int32)) := b96_4
              refine lv_iconst (v := (0)) hx hb dX7_count_103 (by decide) ?_
              refine lv_iadd hx hb dX7_count_104 ?_
              refine nw_top (y := (1)) (by decide) ?_
              refine lv_iadd hx hb dX7_count_105 ?_
              refine lv_istore_n (lv' := [(2, .int ((x1) + (1 : Int32))), (3, .int (nI (k))), (0, .ref (a 0)), (1, .int (p1))]) hx hb dX7_count_106 rfl hl (by decide) rfl (fun ls hl => ?_)
              refine lv_iinc (v := (nI (k + 1))) (lv' := [(3, .int (nI (k + 1))), (2, .int ((x1) + (1 : Int32))), (0, .ref (a 0)), (1, .int (p1))]) hx hb dX7_count_107 hl (k := 1) rfl (by exact nI_add (k) 1) (by decide) rfl (fun ls hl => ?_)
              refine lv_goto (tgt := 62) hx hb dX7_count_110 (by decide) ?_
              exact ih62 (k + 1) (((x1) + (1 : Int32))) _ _ _ (by omega) (by omega) (by rw [rlF_s2, ← e1]; simp only [nwIf_T, nwIf_F, or_true, true_or, or_false, false_or, and_true, true_and, and_false, false_and, not_true_eq_false, not_false_eq_true, Nat.add_sub_cancel, hw0, hw1, hw2, hw3, eq_true hw4, b70_1n, b70_1, eq_true b81_2, b96_4]; exact congrArg (fun q => x1 + q) (by decide)) (lv_sub hl [0, 1, 2, 3] rfl) hP hD hS
            · skip
              have b96_4 : (M (8 + k / 24) (k % 24)) = (-1 : Int32) := b96_4
              refine lv_iconst (v := (1)) hx hb dX7_count_99 (by decide) ?_
              refine lv_goto (tgt := 104) hx hb dX7_count_100 (by decide) ?_
              refine lv_iadd hx hb dX7_count_104 ?_
              refine nw_top (y := (2)) (by decide) ?_
              refine lv_iadd hx hb dX7_count_105 ?_
              refine lv_istore_n (lv' := [(2, .int ((x1) + (2 : Int32))), (3, .int (nI (k))), (0, .ref (a 0)), (1, .int (p1))]) hx hb dX7_count_106 rfl hl (by decide) rfl (fun ls hl => ?_)
              refine lv_iinc (v := (nI (k + 1))) (lv' := [(3, .int (nI (k + 1))), (2, .int ((x1) + (2 : Int32))), (0, .ref (a 0)), (1, .int (p1))]) hx hb dX7_count_107 hl (k := 1) rfl (by exact nI_add (k) 1) (by decide) rfl (fun ls hl => ?_)
              refine lv_goto (tgt := 62) hx hb dX7_count_110 (by decide) ?_
              exact ih62 (k + 1) (((x1) + (2 : Int32))) _ _ _ (by omega) (by omega) (by rw [rlF_s2, ← e1]; simp only [nwIf_T, nwIf_F, or_true, true_or, or_false, false_or, and_true, true_and, and_false, false_and, not_true_eq_false, not_false_eq_true, Nat.add_sub_cancel, hw0, hw1, hw2, hw3, eq_true hw4, b70_1n, b70_1, eq_true b81_2, eq_true b96_4]; exact congrArg (fun q => x1 + q) (by decide)) (lv_sub hl [0, 1, 2, 3] rfl) hP hD hS
    exact K62 ((193 - (0)) + 1) (0) ((0 : Int32)) _ _ _ (Nat.lt_succ_self _) (by omega) (by rfl) (lv_sub hl [0, 1, 2, 3] rfl) hP hD hS
  by_cases hw5 : p1 = 5
  · skip
    refine nw_st (st' := [.int 5]) (by rw [hw5]) ?_
    refine lv_tableIn (off := 112) (tgt := 115) hx hb dX7_count_3 (by decide) (by decide) (by rfl) (by decide) ?_
    refine lv_iconst (v := (0)) hx hb dX7_count_115 (by decide) ?_
    refine lv_istore_n (lv' := [(3, .int (0)), (2, .int (0)), (0, .ref (a 0)), (1, .int (p1))]) hx hb dX7_count_116 rfl hl (by decide) rfl (fun ls hl => ?_)
    have K117 : ∀ (fuel : Nat) (k : Nat) (x1 : Int32) (H : Heap) (locs : List Loc) (ls : Array Slot), (129 - k) < fuel → (k ≤ 128) → (x1 = loF (hdF2 ML) k) → lv_has ls 4 [(3, .int (nI (k))), (2, .int (x1)), (0, .ref (a 0)), (1, .int (p1))] → va_P G.1 vwCl ((wM G (a) (n) (cu) (bg) ((coF M)) ((goF M)) (er) (us) (ll) (lm) (lh) (nv) (fr) (tt) (gr) ((hdF2 ML)) (ns) (w) (cs) (cl) (nd) (lo) (ho) (so))) H → va_D vA ((wM G (a) (n) (cu) (bg) ((coF M)) ((goF M)) (er) (us) (ll) (lm) (lh) (nv) (fr) (tt) (gr) ((hdF2 ML)) (ns) (w) (cs) (cl) (nd) (lo) (ho) (so))) → va_S vA vs.heap H locs → W vp lc ve ({ frames := 0, cells := 0, slots := 0, locals := 0 } : Room) vs vm ([.ref (a 0), .int (p1)] : List Value).toArray vb vt vc H locs 0 0 (MQ vb (nwQi G (fun r ww => r = countF n nv ns nd M ML p1 ∧ ww = wM G (a) (n) (cu) (bg) ((coF M)) ((goF M)) (er) (us) (ll) (lm) (lh) (nv) (fr) (tt) (gr) ((hdF2 ML)) (ns) (w) (cs) (cl) (nd) (lo) (ho) (so)) vA) ([.ref (a 0), .int (p1)] : List Value).toArray vs ({ frames := 0, cells := 0, slots := 0, locals := 0 } : Room).cells ({ frames := 0, cells := 0, slots := 0, locals := 0 } : Room).slots vA) (F0 vm 117 ls []) := by
      intro fuel
      induction fuel with
      | zero => intro k x1 H locs ls hmu; exact absurd hmu (Nat.not_lt_zero _)
      | succ fuel ih117 =>
        intro k x1 H locs ls hmu hk e1 hl hP hD hS
        refine lv_iload_n hx hb dX7_count_117 rfl (lv_at hl 0 rfl) ?_
        refine lv_sipush (v := (128)) hx hb dX7_count_118 (by decide) ?_
        refine lv_icmp_ge (tgt := 149) hx hb dX7_count_121 (by decide) (fun b121_5 => ?_) (fun b121_5 => ?_)
        · skip
          have b121_5 : (128) ≤ (k) := (nI_leI (a := 128) (b := k) (by omega) (by omega)).mp b121_5
          have b121_5n : ¬ ((k) < (128)) := by omega
          refine lv_iload_n hx hb dX7_count_149 rfl (lv_at hl 1 rfl) ?_
          exact nw_iret (rm := ({ frames := 0, cells := 0, slots := 0, locals := 0 } : Room)) X hP hD hS (⟨by simp only [countF, nwIf_T, nwIf_F, or_true, true_or, or_false, false_or, and_true, true_and, and_false, false_and, not_true_eq_false, not_false_eq_true, Nat.add_sub_cancel, hw0, hw1, hw2, hw3, hw4, eq_true hw5, b121_5n, b121_5]; exact e1.trans (by rw [show k = 128 by omega]; exact lostF_hd), rfl⟩) dX7_count_150
        · skip
          have b121_5 : ¬ ((128) ≤ (k)) := fun h => b121_5 ((nI_leI (a := 128) (b := k) (by omega) (by omega)).mpr h)
          have b121_5n : (k) < (128) := by omega
          refine lv_iload_n hx hb dX7_count_124 rfl (lv_at hl 1 rfl) ?_
          refine lv_aload_n hx hb dX7_count_125 rfl (lv_at hl 2 rfl) ?_
          refine va_get (D := G.1) (ci := 6) (v := .ref (a 8)) (C := RX7) (T := TX7) (N := 23) hx hb hts in_X7_count_X7 hown hK.1 hP 0 rfl rfl 14 (by decide) (hts (.fieldLink RX7 38 "NightWaterModel" "heard" "[I") (List.mem_of_getElem? (i := 7) rfl)) (fun _ h9 => h9) rfl dX7_count_126 ?_
          refine lv_iload_n hx hb dX7_count_129 rfl (lv_at hl 0 rfl) ?_
          refine nw_iald X hP 8 (n := 128) (f := ((hdF2 ML))) rfl (k) rfl (by omega) (by decide) dX7_count_130 ?_
          refine lv_ldc (own := RX7) (v := (-2000000000)) hx hb hown (hts (.constant RX7 92 (-2000000000)) (List.mem_of_getElem? (i := 8) rfl)) dX7_count_131 ?_
          refine lv_icmp_ne (tgt := 140) hx hb dX7_count_133 (by decide) (fun b133_6 => ?_) (fun b133_6 => ?_)
          · skip
            have b133_6 : ¬ ((((hdF2 ML)) (k)) = (-2000000000 : Int32)) := b133_6
            refine lv_iconst (v := (0)) hx hb dX7_count_140 (by decide) ?_
            refine lv_iadd hx hb dX7_count_141 ?_
            refine lv_istore_n (lv' := [(2, .int ((x1) + (0 : Int32))), (3, .int (nI (k))), (0, .ref (a 0)), (1, .int (p1))]) hx hb dX7_count_142 rfl hl (by decide) rfl (fun ls hl => ?_)
            refine lv_iinc (v := (nI (k + 1))) (lv' := [(3, .int (nI (k + 1))), (2, .int ((x1) + (0 : Int32))), (0, .ref (a 0)), (1, .int (p1))]) hx hb dX7_count_143 hl (k := 1) rfl (by exact nI_add (k) 1) (by decide) rfl (fun ls hl => ?_)
            refine lv_goto (tgt := 117) hx hb dX7_count_146 (by decide) ?_
            exact ih117 (k + 1) (((x1) + (0 : Int32))) _ _ _ (by omega) (by omega) (by rw [loF_s, ← e1]; simp only [nwIf_T, nwIf_F, or_true, true_or, or_false, false_or, and_true, true_and, and_false, false_and, not_true_eq_false, not_false_eq_true, Nat.add_sub_cancel, hw0, hw1, hw2, hw3, hw4, eq_true hw5, b121_5n, b121_5, b133_6]) (lv_sub hl [0, 1, 2, 3] rfl) hP hD hS
          · skip
            have b133_6 : (((hdF2 ML)) (k)) = (-2000000000 : Int32) := b133_6
            refine lv_iconst (v := (1)) hx hb dX7_count_136 (by decide) ?_
            refine lv_goto (tgt := 141) hx hb dX7_count_137 (by decide) ?_
            refine lv_iadd hx hb dX7_count_141 ?_
            refine lv_istore_n (lv' := [(2, .int ((x1) + (1 : Int32))), (3, .int (nI (k))), (0, .ref (a 0)), (1, .int (p1))]) hx hb dX7_count_142 rfl hl (by decide) rfl (fun ls hl => ?_)
            refine lv_iinc (v := (nI (k + 1))) (lv' := [(3, .int (nI (k + 1))), (2, .int ((x1) + (1 : Int32))), (0, .ref (a 0)), (1, .int (p1))]) hx hb dX7_count_143 hl (k := 1) rfl (by exact nI_add (k) 1) (by decide) rfl (fun ls hl => ?_)
            refine lv_goto (tgt := 117) hx hb dX7_count_146 (by decide) ?_
            exact ih117 (k + 1) (((x1) + (1 : Int32))) _ _ _ (by omega) (by omega) (by rw [loF_s, ← e1]; simp only [nwIf_T, nwIf_F, or_true, true_or, or_false, false_or, and_true, true_and, and_false, false_and, not_true_eq_false, not_false_eq_true, Nat.add_sub_cancel, hw0, hw1, hw2, hw3, hw4, eq_true hw5, b121_5n, b121_5, eq_true b133_6]) (lv_sub hl [0, 1, 2, 3] rfl) hP hD hS
    exact K117 ((129 - (0)) + 1) (0) ((0 : Int32)) _ _ _ (Nat.lt_succ_self _) (by omega) (by rfl) (lv_sub hl [0, 1, 2, 3] rfl) hP hD hS
  have hi0 : ¬ p1.toInt = 0 := lv_neT hw0 (by decide)
  have hi1 : ¬ p1.toInt = 1 := lv_neT hw1 (by decide)
  have hi2 : ¬ p1.toInt = 2 := lv_neT hw2 (by decide)
  have hi3 : ¬ p1.toInt = 3 := lv_neT hw3 (by decide)
  have hi4 : ¬ p1.toInt = 4 := lv_neT hw4 (by decide)
  have hi5 : ¬ p1.toInt = 5 := lv_neT hw5 (by decide)
  refine lv_tableOut (tgt := 151) hx hb dX7_count_3 (by omega) (by decide) ?_
  refine lv_bipush (v := (-2)) hx hb dX7_count_151 (by decide) ?_
  exact nw_iret (rm := ({ frames := 0, cells := 0, slots := 0, locals := 0 } : Room)) X hP hD hS (⟨by simp only [countF, nwIf_T, nwIf_F, or_true, true_or, or_false, false_or, and_true, true_and, and_false, false_and, not_true_eq_false, not_false_eq_true, Nat.add_sub_cancel, hw0, hw1, hw2, hw3, hw4, hw5], rfl⟩) dX7_count_153
set_option maxHeartbeats 4000000 in
set_option maxRecDepth 100000 in
theorem c_X7_digest (lc : Launch) (G : nwG) (a : Nat → Nat) (n : Nat) (cu bg : Nat → Int32) (M : Nat → Nat → Int32) (er us ll lm lh : Int32) (nv : Nat) (fr tt gr : Nat → Nat) (ML : Nat → Nat → Int32) (ns : Nat) (w : Nat → Nat) (cs cl : Nat → Int32) (nd : Nat) (lo ho : Nat → Int32) (so : Nat → Nat)  (hn : n ≤ 8) (hnv : nv ≤ 12) (hn12 : ns ≤ 12) (hnd : nd ≤ 8) : nwCl lc G yX7_digest wsX7_digest ({ frames := 3, cells := 0, slots := 0, locals := 68 } : Room) [.ref (a 0)] ((wM G (a) (n) (cu) (bg) ((coF M)) ((goF M)) (er) (us) (ll) (lm) (lh) (nv) (fr) (tt) (gr) ((hdF2 ML)) (ns) (w) (cs) (cl) (nd) (lo) (ho) (so))) (fun r ww => ∃ llv lmv lhv : Int32, r = ddF lo ho (wdF w (mixR (ML 1) (mixR (ML 0) (vdF fr tt (zdF cu bg M er us (mixC (countF n nv ns nd M ML) 6) n) nv) 64) 64) ns) nd ∧ ww = wM G (a) (n) (cu) (bg) ((coF M)) ((goF M)) (er) (us) (llv) (lmv) (lhv) (nv) (fr) (tt) (gr) ((hdF2 ML)) (ns) (w) (cs) (cl) (nd) (lo) (ho) (so)) := by
  refine nw_of (cc := cX7_digest) (maxL := 5) (ret := (some .long)) (by decide) rfl (Nat.le_of_ble_eq_true rfl) ?_
  intro vp ve vs vm vb vt vc vA ls X hP hD hA hS hl
  have X : nwAt vp vm vc cX7_digest 5 vs _ wsX7_digest RX7 vt (some .long) "digest" G := X
  have hx := X.1.1
  have hb := X.1.2.1
  have hown := X.1.2.2.2.1
  have hts := X.1.2.2.2.2
  have hK := X.2.2.2.2
  have hl : lv_has ls 5 [(0, .ref (a 0))] := hl
  refine lv_ldc2 (own := RX7) (v := (197)) hx hb hown (hts (Cond.constantLong RX7 143 (197)) (List.mem_of_getElem? (i := 1) rfl)) dX7_digest_0 ?_
  refine lv_lstore_n (lv' := [(1, .long (197)), (0, .ref (a 0))]) hx hb dX7_digest_3 rfl hl (by decide) rfl (fun ls hl => ?_)
  refine lv_iconst (v := (0)) hx hb dX7_digest_4 (by decide) ?_
  refine lv_istore_n (lv' := [(3, .int (0)), (1, .long (197)), (0, .ref (a 0))]) hx hb dX7_digest_5 rfl hl (by decide) rfl (fun ls hl => ?_)
  have K6 : ∀ (fuel : Nat) (k : Nat) (x1 : Int64) (H : Heap) (locs : List Loc) (ls : Array Slot), (7 - k) < fuel → (k ≤ 6) → (x1 = mixC (countF n nv ns nd M ML) k) → lv_has ls 5 [(3, .int (nI (k))), (1, .long (x1)), (0, .ref (a 0))] → va_P G.1 vwCl ((wM G (a) (n) (cu) (bg) ((coF M)) ((goF M)) (er) (us) (ll) (lm) (lh) (nv) (fr) (tt) (gr) ((hdF2 ML)) (ns) (w) (cs) (cl) (nd) (lo) (ho) (so))) H → va_D vA ((wM G (a) (n) (cu) (bg) ((coF M)) ((goF M)) (er) (us) (ll) (lm) (lh) (nv) (fr) (tt) (gr) ((hdF2 ML)) (ns) (w) (cs) (cl) (nd) (lo) (ho) (so))) → va_S vA vs.heap H locs → W vp lc ve ({ frames := 3, cells := 0, slots := 0, locals := 68 } : Room) vs vm ([.ref (a 0)] : List Value).toArray vb vt vc H locs 0 0 (MQ vb (nwQl G (fun r ww => ∃ llv lmv lhv : Int32, r = ddF lo ho (wdF w (mixR (ML 1) (mixR (ML 0) (vdF fr tt (zdF cu bg M er us (mixC (countF n nv ns nd M ML) 6) n) nv) 64) 64) ns) nd ∧ ww = wM G (a) (n) (cu) (bg) ((coF M)) ((goF M)) (er) (us) (llv) (lmv) (lhv) (nv) (fr) (tt) (gr) ((hdF2 ML)) (ns) (w) (cs) (cl) (nd) (lo) (ho) (so)) vA) ([.ref (a 0)] : List Value).toArray vs ({ frames := 3, cells := 0, slots := 0, locals := 68 } : Room).cells ({ frames := 3, cells := 0, slots := 0, locals := 68 } : Room).slots vA) (F0 vm 6 ls []) := by
    intro fuel
    induction fuel with
    | zero => intro k x1 H locs ls hmu; exact absurd hmu (Nat.not_lt_zero _)
    | succ fuel ih6 =>
      intro k x1 H locs ls hmu hk e1 hl hP hD hS
      refine lv_iload_n hx hb dX7_digest_6 rfl (lv_at hl 0 rfl) ?_
      refine lv_bipush (v := (6)) hx hb dX7_digest_7 (by decide) ?_
      refine lv_icmp_ge (tgt := 31) hx hb dX7_digest_9 (by decide) (fun b9_1 => ?_) (fun b9_1 => ?_)
      · skip
        have b9_1 : (6) ≤ (k) := (nI_leI (a := 6) (b := k) (by omega) (by omega)).mp b9_1
        have b9_1n : ¬ ((k) < (6)) := by omega
        have e6 : x1 = mixC (countF n nv ns nd M ML) 6 := e1.trans (by rw [show k = 6 by omega])
        refine lv_iconst (v := (0)) hx hb dX7_digest_31 (by decide) ?_
        refine lv_istore_n (lv' := [(3, .int (0)), (1, .long (x1)), (0, .ref (a 0))]) hx hb dX7_digest_32 rfl hl (by decide) rfl (fun ls hl => ?_)
        have K33 : ∀ (fuel : Nat) (z : Nat) (x3 : Int64) (llw : Int32) (lmw : Int32) (lhw : Int32) (H : Heap) (locs : List Loc) (ls : Array Slot), (9 - z) < fuel → (z ≤ n) → (x3 = zdF cu bg M er us (mixC (countF n nv ns nd M ML) 6) z) → lv_has ls 5 [(3, .int (nI (z))), (1, .long (x3)), (0, .ref (a 0))] → va_P G.1 vwCl ((wM G (a) (n) (cu) (bg) ((coF M)) ((goF M)) (er) (us) (llw) (lmw) (lhw) (nv) (fr) (tt) (gr) ((hdF2 ML)) (ns) (w) (cs) (cl) (nd) (lo) (ho) (so))) H → va_D vA ((wM G (a) (n) (cu) (bg) ((coF M)) ((goF M)) (er) (us) (llw) (lmw) (lhw) (nv) (fr) (tt) (gr) ((hdF2 ML)) (ns) (w) (cs) (cl) (nd) (lo) (ho) (so))) → va_S vA vs.heap H locs → W vp lc ve ({ frames := 3, cells := 0, slots := 0, locals := 68 } : Room) vs vm ([.ref (a 0)] : List Value).toArray vb vt vc H locs 0 0 (MQ vb (nwQl G (fun r ww => ∃ llv lmv lhv : Int32, r = ddF lo ho (wdF w (mixR (ML 1) (mixR (ML 0) (vdF fr tt (zdF cu bg M er us (mixC (countF n nv ns nd M ML) 6) n) nv) 64) 64) ns) nd ∧ ww = wM G (a) (n) (cu) (bg) ((coF M)) ((goF M)) (er) (us) (llv) (lmv) (lhv) (nv) (fr) (tt) (gr) ((hdF2 ML)) (ns) (w) (cs) (cl) (nd) (lo) (ho) (so)) vA) ([.ref (a 0)] : List Value).toArray vs ({ frames := 3, cells := 0, slots := 0, locals := 68 } : Room).cells ({ frames := 3, cells := 0, slots := 0, locals := 68 } : Room).slots vA) (F0 vm 33 ls []) := by
          intro fuel
          induction fuel with
          | zero => intro z x3 llw lmw lhw H locs ls hmu; exact absurd hmu (Nat.not_lt_zero _)
          | succ fuel ih33 =>
            intro z x3 llw lmw lhw H locs ls hmu hz e3 hl hP hD hS
            refine lv_iload_n hx hb dX7_digest_33 rfl (lv_at hl 0 rfl) ?_
            refine lv_aload_n hx hb dX7_digest_34 rfl (lv_at hl 2 rfl) ?_
            refine va_get (D := G.1) (ci := 6) (v := .int (nI (n))) (C := RX7) (T := TX7) (N := 23) hx hb hts in_X7_digest_X7 hown hK.1 hP 0 rfl rfl 0 (by decide) (hts (Cond.fieldLink RX7 62 "NightWaterModel" "zones" "I") (List.mem_of_getElem? (i := 3) rfl)) (fun _ h9 => h9) rfl dX7_digest_35 ?_
            refine lv_icmp_ge (tgt := 125) hx hb dX7_digest_38 (by decide) (fun b38_2 => ?_) (fun b38_2 => ?_)
            · skip
              have b38_2 : (n) ≤ (z) := (nI_leI (a := n) (b := z) (by omega) (by omega)).mp b38_2
              have b38_2n : ¬ ((z) < (n)) := by omega
              refine lv_iconst (v := (0)) hx hb dX7_digest_125 (by decide) ?_
              refine lv_istore_n (lv' := [(3, .int (0)), (1, .long (x3)), (0, .ref (a 0))]) hx hb dX7_digest_126 rfl hl (by decide) rfl (fun ls hl => ?_)
              have K127 : ∀ (fuel : Nat) (i : Nat) (x4 : Int64) (H : Heap) (locs : List Loc) (ls : Array Slot), (13 - i) < fuel → (i ≤ nv) → (x4 = vdF fr tt (zdF cu bg M er us (mixC (countF n nv ns nd M ML) 6) n) i) → lv_has ls 5 [(3, .int (nI (i))), (1, .long (x4)), (0, .ref (a 0))] → va_P G.1 vwCl ((wM G (a) (n) (cu) (bg) ((coF M)) ((goF M)) (er) (us) (llw) (lmw) (lhw) (nv) (fr) (tt) (gr) ((hdF2 ML)) (ns) (w) (cs) (cl) (nd) (lo) (ho) (so))) H → va_D vA ((wM G (a) (n) (cu) (bg) ((coF M)) ((goF M)) (er) (us) (llw) (lmw) (lhw) (nv) (fr) (tt) (gr) ((hdF2 ML)) (ns) (w) (cs) (cl) (nd) (lo) (ho) (so))) → va_S vA vs.heap H locs → W vp lc ve ({ frames := 3, cells := 0, slots := 0, locals := 68 } : Room) vs vm ([.ref (a 0)] : List Value).toArray vb vt vc H locs 0 0 (MQ vb (nwQl G (fun r ww => ∃ llv lmv lhv : Int32, r = ddF lo ho (wdF w (mixR (ML 1) (mixR (ML 0) (vdF fr tt (zdF cu bg M er us (mixC (countF n nv ns nd M ML) 6) n) nv) 64) 64) ns) nd ∧ ww = wM G (a) (n) (cu) (bg) ((coF M)) ((goF M)) (er) (us) (llv) (lmv) (lhv) (nv) (fr) (tt) (gr) ((hdF2 ML)) (ns) (w) (cs) (cl) (nd) (lo) (ho) (so)) vA) ([.ref (a 0)] : List Value).toArray vs ({ frames := 3, cells := 0, slots := 0, locals := 68 } : Room).cells ({ frames := 3, cells := 0, slots := 0, locals := 68 } : Room).slots vA) (F0 vm 127 ls []) := by
                intro fuel
                induction fuel with
                | zero => intro i x4 H locs ls hmu; exact absurd hmu (Nat.not_lt_zero _)
                | succ fuel ih127 =>
                  intro i x4 H locs ls hmu hi e4 hl hP hD hS
                  refine lv_iload_n hx hb dX7_digest_127 rfl (lv_at hl 0 rfl) ?_
                  refine lv_aload_n hx hb dX7_digest_128 rfl (lv_at hl 2 rfl) ?_
                  refine va_get (D := G.1) (ci := 6) (v := .int (nI (nv))) (C := RX7) (T := TX7) (N := 23) hx hb hts in_X7_digest_X7 hown hK.1 hP 0 rfl rfl 10 (by decide) (hts (Cond.fieldLink RX7 97 "NightWaterModel" "valves" "I") (List.mem_of_getElem? (i := 6) rfl)) (fun _ h9 => h9) rfl dX7_digest_129 ?_
                  refine lv_icmp_ge (tgt := 167) hx hb dX7_digest_132 (by decide) (fun b132_3 => ?_) (fun b132_3 => ?_)
                  · skip
                    have b132_3 : (nv) ≤ (i) := (nI_leI (a := nv) (b := i) (by omega) (by omega)).mp b132_3
                    have b132_3n : ¬ ((i) < (nv)) := by omega
                    refine lv_iconst (v := (0)) hx hb dX7_digest_167 (by decide) ?_
                    refine lv_istore_n (lv' := [(3, .int (0)), (1, .long (x4)), (0, .ref (a 0))]) hx hb dX7_digest_168 rfl hl (by decide) rfl (fun ls hl => ?_)
                    have K169 : ∀ (fuel : Nat) (i5 : Nat) (x5 : Int64) (H : Heap) (locs : List Loc) (ls : Array Slot), (129 - i5) < fuel → (i5 ≤ 128) → (x5 = mixR (hdF2 ML) (vdF fr tt (zdF cu bg M er us (mixC (countF n nv ns nd M ML) 6) n) nv) i5) → lv_has ls 5 [(3, .int (nI (i5))), (1, .long (x5)), (0, .ref (a 0))] → va_P G.1 vwCl ((wM G (a) (n) (cu) (bg) ((coF M)) ((goF M)) (er) (us) (llw) (lmw) (lhw) (nv) (fr) (tt) (gr) ((hdF2 ML)) (ns) (w) (cs) (cl) (nd) (lo) (ho) (so))) H → va_D vA ((wM G (a) (n) (cu) (bg) ((coF M)) ((goF M)) (er) (us) (llw) (lmw) (lhw) (nv) (fr) (tt) (gr) ((hdF2 ML)) (ns) (w) (cs) (cl) (nd) (lo) (ho) (so))) → va_S vA vs.heap H locs → W vp lc ve ({ frames := 3, cells := 0, slots := 0, locals := 68 } : Room) vs vm ([.ref (a 0)] : List Value).toArray vb vt vc H locs 0 0 (MQ vb (nwQl G (fun r ww => ∃ llv lmv lhv : Int32, r = ddF lo ho (wdF w (mixR (ML 1) (mixR (ML 0) (vdF fr tt (zdF cu bg M er us (mixC (countF n nv ns nd M ML) 6) n) nv) 64) 64) ns) nd ∧ ww = wM G (a) (n) (cu) (bg) ((coF M)) ((goF M)) (er) (us) (llv) (lmv) (lhv) (nv) (fr) (tt) (gr) ((hdF2 ML)) (ns) (w) (cs) (cl) (nd) (lo) (ho) (so)) vA) ([.ref (a 0)] : List Value).toArray vs ({ frames := 3, cells := 0, slots := 0, locals := 68 } : Room).cells ({ frames := 3, cells := 0, slots := 0, locals := 68 } : Room).slots vA) (F0 vm 169 ls []) := by
                      intro fuel
                      induction fuel with
                      | zero => intro i5 x5 H locs ls hmu; exact absurd hmu (Nat.not_lt_zero _)
                      | succ fuel ih169 =>
                        intro i5 x5 H locs ls hmu hi5 e5 hl hP hD hS
                        refine lv_iload_n hx hb dX7_digest_169 rfl (lv_at hl 0 rfl) ?_
                        refine lv_sipush (v := (128)) hx hb dX7_digest_170 (by decide) ?_
                        refine lv_icmp_ge (tgt := 196) hx hb dX7_digest_173 (by decide) (fun b173_4 => ?_) (fun b173_4 => ?_)
                        · skip
                          have b173_4 : (128) ≤ (i5) := (nI_leI (a := 128) (b := i5) (by omega) (by omega)).mp b173_4
                          have b173_4n : ¬ ((i5) < (128)) := by omega
                          refine lv_iconst (v := (0)) hx hb dX7_digest_196 (by decide) ?_
                          refine lv_istore_n (lv' := [(3, .int (0)), (1, .long (x5)), (0, .ref (a 0))]) hx hb dX7_digest_197 rfl hl (by decide) rfl (fun ls hl => ?_)
                          have K198 : ∀ (fuel : Nat) (i7 : Nat) (x7 : Int64) (H : Heap) (locs : List Loc) (ls : Array Slot), (13 - i7) < fuel → (i7 ≤ ns) → (x7 = wdF w (mixR (ML 1) (mixR (ML 0) (vdF fr tt (zdF cu bg M er us (mixC (countF n nv ns nd M ML) 6) n) nv) 64) 64) i7) → lv_has ls 5 [(3, .int (nI (i7))), (1, .long (x7)), (0, .ref (a 0))] → va_P G.1 vwCl ((wM G (a) (n) (cu) (bg) ((coF M)) ((goF M)) (er) (us) (llw) (lmw) (lhw) (nv) (fr) (tt) (gr) ((hdF2 ML)) (ns) (w) (cs) (cl) (nd) (lo) (ho) (so))) H → va_D vA ((wM G (a) (n) (cu) (bg) ((coF M)) ((goF M)) (er) (us) (llw) (lmw) (lhw) (nv) (fr) (tt) (gr) ((hdF2 ML)) (ns) (w) (cs) (cl) (nd) (lo) (ho) (so))) → va_S vA vs.heap H locs → W vp lc ve ({ frames := 3, cells := 0, slots := 0, locals := 68 } : Room) vs vm ([.ref (a 0)] : List Value).toArray vb vt vc H locs 0 0 (MQ vb (nwQl G (fun r ww => ∃ llv lmv lhv : Int32, r = ddF lo ho (wdF w (mixR (ML 1) (mixR (ML 0) (vdF fr tt (zdF cu bg M er us (mixC (countF n nv ns nd M ML) 6) n) nv) 64) 64) ns) nd ∧ ww = wM G (a) (n) (cu) (bg) ((coF M)) ((goF M)) (er) (us) (llv) (lmv) (lhv) (nv) (fr) (tt) (gr) ((hdF2 ML)) (ns) (w) (cs) (cl) (nd) (lo) (ho) (so)) vA) ([.ref (a 0)] : List Value).toArray vs ({ frames := 3, cells := 0, slots := 0, locals := 68 } : Room).cells ({ frames := 3, cells := 0, slots := 0, locals := 68 } : Room).slots vA) (F0 vm 198 ls []) := by
                            intro fuel
                            induction fuel with
                            | zero => intro i7 x7 H locs ls hmu; exact absurd hmu (Nat.not_lt_zero _)
                            | succ fuel ih198 =>
                              intro i7 x7 H locs ls hmu hi7 e7 hl hP hD hS
                              refine lv_iload_n hx hb dX7_digest_198 rfl (lv_at hl 0 rfl) ?_
                              refine lv_aload_n hx hb dX7_digest_199 rfl (lv_at hl 2 rfl) ?_
                              refine va_get (D := G.1) (ci := 6) (v := .int (nI (ns))) (C := RX7) (T := TX7) (N := 23) hx hb hts in_X7_digest_X7 hown hK.1 hP 0 rfl rfl 15 (by decide) (hts (Cond.fieldLink RX7 41 "NightWaterModel" "sections" "I") (List.mem_of_getElem? (i := 10) rfl)) (fun _ h9 => h9) rfl dX7_digest_200 ?_
                              refine lv_icmp_ge (tgt := 226) hx hb dX7_digest_203 (by decide) (fun b203_5 => ?_) (fun b203_5 => ?_)
                              · skip
                                have b203_5 : (ns) ≤ (i7) := (nI_leI (a := ns) (b := i7) (by omega) (by omega)).mp b203_5
                                have b203_5n : ¬ ((i7) < (ns)) := by omega
                                refine lv_iconst (v := (0)) hx hb dX7_digest_226 (by decide) ?_
                                refine lv_istore_n (lv' := [(3, .int (0)), (1, .long (x7)), (0, .ref (a 0))]) hx hb dX7_digest_227 rfl hl (by decide) rfl (fun ls hl => ?_)
                                have K228 : ∀ (fuel : Nat) (i8 : Nat) (x8 : Int64) (H : Heap) (locs : List Loc) (ls : Array Slot), (9 - i8) < fuel → (i8 ≤ nd) → (x8 = ddF lo ho (wdF w (mixR (ML 1) (mixR (ML 0) (vdF fr tt (zdF cu bg M er us (mixC (countF n nv ns nd M ML) 6) n) nv) 64) 64) ns) i8) → lv_has ls 5 [(3, .int (nI (i8))), (1, .long (x8)), (0, .ref (a 0))] → va_P G.1 vwCl ((wM G (a) (n) (cu) (bg) ((coF M)) ((goF M)) (er) (us) (llw) (lmw) (lhw) (nv) (fr) (tt) (gr) ((hdF2 ML)) (ns) (w) (cs) (cl) (nd) (lo) (ho) (so))) H → va_D vA ((wM G (a) (n) (cu) (bg) ((coF M)) ((goF M)) (er) (us) (llw) (lmw) (lhw) (nv) (fr) (tt) (gr) ((hdF2 ML)) (ns) (w) (cs) (cl) (nd) (lo) (ho) (so))) → va_S vA vs.heap H locs → W vp lc ve ({ frames := 3, cells := 0, slots := 0, locals := 68 } : Room) vs vm ([.ref (a 0)] : List Value).toArray vb vt vc H locs 0 0 (MQ vb (nwQl G (fun r ww => ∃ llv lmv lhv : Int32, r = ddF lo ho (wdF w (mixR (ML 1) (mixR (ML 0) (vdF fr tt (zdF cu bg M er us (mixC (countF n nv ns nd M ML) 6) n) nv) 64) 64) ns) nd ∧ ww = wM G (a) (n) (cu) (bg) ((coF M)) ((goF M)) (er) (us) (llv) (lmv) (lhv) (nv) (fr) (tt) (gr) ((hdF2 ML)) (ns) (w) (cs) (cl) (nd) (lo) (ho) (so)) vA) ([.ref (a 0)] : List Value).toArray vs ({ frames := 3, cells := 0, slots := 0, locals := 68 } : Room).cells ({ frames := 3, cells := 0, slots := 0, locals := 68 } : Room).slots vA) (F0 vm 228 ls []) := by
                                  intro fuel
                                  induction fuel with
                                  | zero => intro i8 x8 H locs ls hmu; exact absurd hmu (Nat.not_lt_zero _)
                                  | succ fuel ih228 =>
                                    intro i8 x8 H locs ls hmu hi8 e8 hl hP hD hS
                                    refine lv_iload_n hx hb dX7_digest_228 rfl (lv_at hl 0 rfl) ?_
                                    refine lv_aload_n hx hb dX7_digest_229 rfl (lv_at hl 2 rfl) ?_
                                    refine va_get (D := G.1) (ci := 6) (v := .int (nI (nd))) (C := RX7) (T := TX7) (N := 23) hx hb hts in_X7_digest_X7 hown hK.1 hP 0 rfl rfl 19 (by decide) (hts (Cond.fieldLink RX7 133 "NightWaterModel" "digs" "I") (List.mem_of_getElem? (i := 12) rfl)) (fun _ h9 => h9) rfl dX7_digest_230 ?_
                                    refine lv_icmp_ge (tgt := 268) hx hb dX7_digest_233 (by decide) (fun b233_6 => ?_) (fun b233_6 => ?_)
                                    · skip
                                      have b233_6 : (nd) ≤ (i8) := (nI_leI (a := nd) (b := i8) (by omega) (by omega)).mp b233_6
                                      have b233_6n : ¬ ((i8) < (nd)) := by omega
                                      refine lv_lload_n hx hb dX7_digest_268 rfl (lv_at hl 1 rfl) ?_
                                      exact nw_lret (rm := ({ frames := 3, cells := 0, slots := 0, locals := 68 } : Room)) X hP hD hS (⟨_, _, _, e8.trans (by rw [show i8 = nd by omega]), rfl⟩) dX7_digest_269
                                    · skip
                                      have b233_6 : ¬ ((nd) ≤ (i8)) := fun h => b233_6 ((nI_leI (a := nd) (b := i8) (by omega) (by omega)).mpr h)
                                      have b233_6n : (i8) < (nd) := by omega
                                      refine lv_ldc2 (own := RX7) (v := (31)) hx hb hown (hts (Cond.constantLong RX7 145 (31)) (List.mem_of_getElem? (i := 2) rfl)) dX7_digest_236 ?_
                                      refine lv_ldc2 (own := RX7) (v := (31)) hx hb hown (hts (Cond.constantLong RX7 145 (31)) (List.mem_of_getElem? (i := 2) rfl)) dX7_digest_239 ?_
                                      refine lv_lload_n hx hb dX7_digest_242 rfl (lv_at hl 1 rfl) ?_
                                      refine lv_lmul hx hb dX7_digest_243 ?_
                                      refine lv_aload_n hx hb dX7_digest_244 rfl (lv_at hl 2 rfl) ?_
                                      refine va_get (D := G.1) (ci := 6) (v := .ref (a 12)) (C := RX7) (T := TX7) (N := 23) hx hb hts in_X7_digest_X7 hown hK.1 hP 0 rfl rfl 20 (by decide) (hts (Cond.fieldLink RX7 53 "NightWaterModel" "loses" "[I") (List.mem_of_getElem? (i := 13) rfl)) (fun _ h9 => h9) rfl dX7_digest_245 ?_
                                      refine lv_iload_n hx hb dX7_digest_248 rfl (lv_at hl 0 rfl) ?_
                                      refine nw_iald X hP 12 (n := 8) (f := (lo)) rfl (i8) rfl (by omega) (by decide) dX7_digest_249 ?_
                                      refine lv_i2l (v := (lo (i8)).toInt64) hx hb dX7_digest_250 rfl ?_
                                      refine lv_ladd hx hb dX7_digest_251 ?_
                                      refine lv_lmul hx hb dX7_digest_252 ?_
                                      refine lv_aload_n hx hb dX7_digest_253 rfl (lv_at hl 2 rfl) ?_
                                      refine va_get (D := G.1) (ci := 6) (v := .ref (a 13)) (C := RX7) (T := TX7) (N := 23) hx hb hts in_X7_digest_X7 hown hK.1 hP 0 rfl rfl 21 (by decide) (hts (Cond.fieldLink RX7 56 "NightWaterModel" "hours" "[I") (List.mem_of_getElem? (i := 14) rfl)) (fun _ h9 => h9) rfl dX7_digest_254 ?_
                                      refine lv_iload_n hx hb dX7_digest_257 rfl (lv_at hl 0 rfl) ?_
                                      refine nw_iald X hP 13 (n := 8) (f := (ho)) rfl (i8) rfl (by omega) (by decide) dX7_digest_258 ?_
                                      refine lv_i2l (v := (ho (i8)).toInt64) hx hb dX7_digest_259 rfl ?_
                                      refine lv_ladd hx hb dX7_digest_260 ?_
                                      refine lv_lstore_n (lv' := [(1, .long (((31) * (((31) * (x8)) + ((lo (i8)).toInt64))) + ((ho (i8)).toInt64))), (3, .int (nI (i8))), (0, .ref (a 0))]) hx hb dX7_digest_261 rfl hl (by decide) rfl (fun ls hl => ?_)
                                      refine lv_iinc (v := (nI (i8 + 1))) (lv' := [(3, .int (nI (i8 + 1))), (1, .long (((31) * (((31) * (x8)) + ((lo (i8)).toInt64))) + ((ho (i8)).toInt64))), (0, .ref (a 0))]) hx hb dX7_digest_262 hl (k := 1) rfl (by exact nI_add (i8) 1) (by decide) rfl (fun ls hl => ?_)
                                      refine lv_goto (tgt := 228) hx hb dX7_digest_265 (by decide) ?_
                                      exact ih228 (i8 + 1) ((((31) * (((31) * (x8)) + ((lo (i8)).toInt64))) + ((ho (i8)).toInt64))) _ _ _ (by omega) (by omega) (by rw [ddF_s, e8]) (lv_sub hl [0, 1, 2] rfl) hP hD hS
                                exact K228 ((9 - (0)) + 1) (0) ((x7)) _ _ _ (Nat.lt_succ_self _) (by omega) (by exact e7.trans (by rw [show i7 = ns by omega]; rfl)) (lv_sub hl [0, 1, 2] rfl) hP hD hS
                              · skip
                                have b203_5 : ¬ ((ns) ≤ (i7)) := fun h => b203_5 ((nI_leI (a := ns) (b := i7) (by omega) (by omega)).mpr h)
                                have b203_5n : (i7) < (ns) := by omega
                                refine lv_ldc2 (own := RX7) (v := (31)) hx hb hown (hts (Cond.constantLong RX7 145 (31)) (List.mem_of_getElem? (i := 2) rfl)) dX7_digest_206 ?_
                                refine lv_lload_n hx hb dX7_digest_209 rfl (lv_at hl 1 rfl) ?_
                                refine lv_lmul hx hb dX7_digest_210 ?_
                                refine lv_aload_n hx hb dX7_digest_211 rfl (lv_at hl 2 rfl) ?_
                                refine va_get (D := G.1) (ci := 6) (v := .ref (a 9)) (C := RX7) (T := TX7) (N := 23) hx hb hts in_X7_digest_X7 hown hK.1 hP 0 rfl rfl 16 (by decide) (hts (Cond.fieldLink RX7 44 "NightWaterModel" "weight" "[I") (List.mem_of_getElem? (i := 11) rfl)) (fun _ h9 => h9) rfl dX7_digest_212 ?_
                                refine lv_iload_n hx hb dX7_digest_215 rfl (lv_at hl 0 rfl) ?_
                                refine nw_iald X hP 9 (n := 12) (f := (fun j => nI (w j))) rfl (i7) rfl (by omega) (by decide) dX7_digest_216 ?_
                                refine lv_i2l (v := (nI (w (i7))).toInt64) hx hb dX7_digest_217 rfl ?_
                                refine lv_ladd hx hb dX7_digest_218 ?_
                                refine lv_lstore_n (lv' := [(1, .long (((31) * (x7)) + ((nI (w (i7))).toInt64))), (3, .int (nI (i7))), (0, .ref (a 0))]) hx hb dX7_digest_219 rfl hl (by decide) rfl (fun ls hl => ?_)
                                refine lv_iinc (v := (nI (i7 + 1))) (lv' := [(3, .int (nI (i7 + 1))), (1, .long (((31) * (x7)) + ((nI (w (i7))).toInt64))), (0, .ref (a 0))]) hx hb dX7_digest_220 hl (k := 1) rfl (by exact nI_add (i7) 1) (by decide) rfl (fun ls hl => ?_)
                                refine lv_goto (tgt := 198) hx hb dX7_digest_223 (by decide) ?_
                                exact ih198 (i7 + 1) ((((31) * (x7)) + ((nI (w (i7))).toInt64))) _ _ _ (by omega) (by omega) (by rw [wdF_s, e7]) (lv_sub hl [0, 1, 2] rfl) hP hD hS
                          exact K198 ((13 - (0)) + 1) (0) ((x5)) _ _ _ (Nat.lt_succ_self _) (by omega) (by exact e5.trans (by rw [show i5 = 128 by omega, mixR_hd]; rfl)) (lv_sub hl [0, 1, 2] rfl) hP hD hS
                        · skip
                          have b173_4 : ¬ ((128) ≤ (i5)) := fun h => b173_4 ((nI_leI (a := 128) (b := i5) (by omega) (by omega)).mpr h)
                          have b173_4n : (i5) < (128) := by omega
                          refine lv_ldc2 (own := RX7) (v := (31)) hx hb hown (hts (Cond.constantLong RX7 145 (31)) (List.mem_of_getElem? (i := 2) rfl)) dX7_digest_176 ?_
                          refine lv_lload_n hx hb dX7_digest_179 rfl (lv_at hl 1 rfl) ?_
                          refine lv_lmul hx hb dX7_digest_180 ?_
                          refine lv_aload_n hx hb dX7_digest_181 rfl (lv_at hl 2 rfl) ?_
                          refine va_get (D := G.1) (ci := 6) (v := .ref (a 8)) (C := RX7) (T := TX7) (N := 23) hx hb hts in_X7_digest_X7 hown hK.1 hP 0 rfl rfl 14 (by decide) (hts (Cond.fieldLink RX7 38 "NightWaterModel" "heard" "[I") (List.mem_of_getElem? (i := 9) rfl)) (fun _ h9 => h9) rfl dX7_digest_182 ?_
                          refine lv_iload_n hx hb dX7_digest_185 rfl (lv_at hl 0 rfl) ?_
                          refine nw_iald X hP 8 (n := 128) (f := ((hdF2 ML))) rfl (i5) rfl (by omega) (by decide) dX7_digest_186 ?_
                          refine lv_i2l (v := (((hdF2 ML)) (i5)).toInt64) hx hb dX7_digest_187 rfl ?_
                          refine lv_ladd hx hb dX7_digest_188 ?_
                          refine lv_lstore_n (lv' := [(1, .long (((31) * (x5)) + ((((hdF2 ML)) (i5)).toInt64))), (3, .int (nI (i5))), (0, .ref (a 0))]) hx hb dX7_digest_189 rfl hl (by decide) rfl (fun ls hl => ?_)
                          refine lv_iinc (v := (nI (i5 + 1))) (lv' := [(3, .int (nI (i5 + 1))), (1, .long (((31) * (x5)) + ((((hdF2 ML)) (i5)).toInt64))), (0, .ref (a 0))]) hx hb dX7_digest_190 hl (k := 1) rfl (by exact nI_add (i5) 1) (by decide) rfl (fun ls hl => ?_)
                          refine lv_goto (tgt := 169) hx hb dX7_digest_193 (by decide) ?_
                          exact ih169 (i5 + 1) ((((31) * (x5)) + ((((hdF2 ML)) (i5)).toInt64))) _ _ _ (by omega) (by omega) (by rw [mixR_s, e5]) (lv_sub hl [0, 1, 2] rfl) hP hD hS
                    exact K169 ((129 - (0)) + 1) (0) ((x4)) _ _ _ (Nat.lt_succ_self _) (by omega) (by exact e4.trans (by rw [show i = nv by omega]; rfl)) (lv_sub hl [0, 1, 2] rfl) hP hD hS
                  · skip
                    have b132_3 : ¬ ((nv) ≤ (i)) := fun h => b132_3 ((nI_leI (a := nv) (b := i) (by omega) (by omega)).mpr h)
                    have b132_3n : (i) < (nv) := by omega
                    refine lv_ldc2 (own := RX7) (v := (31)) hx hb hown (hts (Cond.constantLong RX7 145 (31)) (List.mem_of_getElem? (i := 2) rfl)) dX7_digest_135 ?_
                    refine lv_ldc2 (own := RX7) (v := (31)) hx hb hown (hts (Cond.constantLong RX7 145 (31)) (List.mem_of_getElem? (i := 2) rfl)) dX7_digest_138 ?_
                    refine lv_lload_n hx hb dX7_digest_141 rfl (lv_at hl 1 rfl) ?_
                    refine lv_lmul hx hb dX7_digest_142 ?_
                    refine lv_aload_n hx hb dX7_digest_143 rfl (lv_at hl 2 rfl) ?_
                    refine va_get (D := G.1) (ci := 6) (v := .ref (a 5)) (C := RX7) (T := TX7) (N := 23) hx hb hts in_X7_digest_X7 hown hK.1 hP 0 rfl rfl 11 (by decide) (hts (Cond.fieldLink RX7 29 "NightWaterModel" "one" "[I") (List.mem_of_getElem? (i := 7) rfl)) (fun _ h9 => h9) rfl dX7_digest_144 ?_
                    refine lv_iload_n hx hb dX7_digest_147 rfl (lv_at hl 0 rfl) ?_
                    refine nw_iald X hP 5 (n := 12) (f := (fun j => nI (fr j))) rfl (i) rfl (by omega) (by decide) dX7_digest_148 ?_
                    refine lv_i2l (v := (nI (fr (i))).toInt64) hx hb dX7_digest_149 rfl ?_
                    refine lv_ladd hx hb dX7_digest_150 ?_
                    refine lv_lmul hx hb dX7_digest_151 ?_
                    refine lv_aload_n hx hb dX7_digest_152 rfl (lv_at hl 2 rfl) ?_
                    refine va_get (D := G.1) (ci := 6) (v := .ref (a 6)) (C := RX7) (T := TX7) (N := 23) hx hb hts in_X7_digest_X7 hown hK.1 hP 0 rfl rfl 12 (by decide) (hts (Cond.fieldLink RX7 32 "NightWaterModel" "other" "[I") (List.mem_of_getElem? (i := 8) rfl)) (fun _ h9 => h9) rfl dX7_digest_153 ?_
                    refine lv_iload_n hx hb dX7_digest_156 rfl (lv_at hl 0 rfl) ?_
                    refine nw_iald X hP 6 (n := 12) (f := (fun j => nI (tt j))) rfl (i) rfl (by omega) (by decide) dX7_digest_157 ?_
                    refine lv_i2l (v := (nI (tt (i))).toInt64) hx hb dX7_digest_158 rfl ?_
                    refine lv_ladd hx hb dX7_digest_159 ?_
                    refine lv_lstore_n (lv' := [(1, .long (((31) * (((31) * (x4)) + ((nI (fr (i))).toInt64))) + ((nI (tt (i))).toInt64))), (3, .int (nI (i))), (0, .ref (a 0))]) hx hb dX7_digest_160 rfl hl (by decide) rfl (fun ls hl => ?_)
                    refine lv_iinc (v := (nI (i + 1))) (lv' := [(3, .int (nI (i + 1))), (1, .long (((31) * (((31) * (x4)) + ((nI (fr (i))).toInt64))) + ((nI (tt (i))).toInt64))), (0, .ref (a 0))]) hx hb dX7_digest_161 hl (k := 1) rfl (by exact nI_add (i) 1) (by decide) rfl (fun ls hl => ?_)
                    refine lv_goto (tgt := 127) hx hb dX7_digest_164 (by decide) ?_
                    exact ih127 (i + 1) ((((31) * (((31) * (x4)) + ((nI (fr (i))).toInt64))) + ((nI (tt (i))).toInt64))) _ _ _ (by omega) (by omega) (by rw [vdF_s, e4]) (lv_sub hl [0, 1, 2] rfl) hP hD hS
              exact K127 ((13 - (0)) + 1) (0) ((x3)) _ _ _ (Nat.lt_succ_self _) (by omega) (by exact e3.trans (by rw [show z = n by omega]; rfl)) (lv_sub hl [0, 1, 2] rfl) hP hD hS
            · skip
              have b38_2 : ¬ ((n) ≤ (z)) := fun h => b38_2 ((nI_leI (a := n) (b := z) (by omega) (by omega)).mpr h)
              have b38_2n : (z) < (n) := by omega
              refine lv_ldc2 (own := RX7) (v := (31)) hx hb hown (hts (Cond.constantLong RX7 145 (31)) (List.mem_of_getElem? (i := 2) rfl)) dX7_digest_41 ?_
              refine lv_ldc2 (own := RX7) (v := (31)) hx hb hown (hts (Cond.constantLong RX7 145 (31)) (List.mem_of_getElem? (i := 2) rfl)) dX7_digest_44 ?_
              refine lv_lload_n hx hb dX7_digest_47 rfl (lv_at hl 1 rfl) ?_
              refine lv_lmul hx hb dX7_digest_48 ?_
              refine lv_aload_n hx hb dX7_digest_49 rfl (lv_at hl 2 rfl) ?_
              refine lv_iload_n hx hb dX7_digest_50 rfl (lv_at hl 0 rfl) ?_
              refine lv_iconst (v := (0)) hx hb dX7_digest_51 (by decide) ?_
              refine nw_st (st' := [.int (0), .int (nI (z)), .ref (a 0), .long ((31) * (x3)), .long (31)]) (by rfl) ?_
              refine nw_Vi (As := [.int (nI (z)), .int (0)]) (rest := [.long ((31) * (x3)), .long (31)]) (q0 := 0) X (c_X7_leaksOf lc G (a) (n) (cu) (bg) (M) (er) (us) (llw) (lmw) (lhw) (nv) (fr) (tt) (gr) (ML) (ns) (w) (cs) (cl) (nd) (lo) (ho) (so) (z) ((0 : Int32)) (by first | assumption | omega)) (cwV 2 hts gX7_digest_X7_leaksOf rfl rfl rfl (by decide +kernel) ⟨Nat.le_of_ble_eq_true rfl, Nat.le_of_ble_eq_true rfl⟩) rfl (show vwCl[6]? = some (RX7, TX7, 23) from rfl) (nwSp.all ((wM G (a) (n) (cu) (bg) ((coF M)) ((goF M)) (er) (us) (llw) (lmw) (lhw) (nv) (fr) (tt) (gr) ((hdF2 ML)) (ns) (w) (cs) (cl) (nd) (lo) (ho) (so)))) hP hD hS hA rfl hl.1 rfl (Nat.le_of_ble_eq_true rfl) dX7_digest_52 ⟨Nat.le_of_ble_eq_true rfl, Nat.le_of_ble_eq_true rfl⟩ (fun r w H locs hp_7 hP hD hS => ?_)
              obtain ⟨llv_8, lmv_9, lhv_10, rfl, rfl⟩ := hp_7
              have hP : va_P G.1 vwCl ((wM G (a) (n) (cu) (bg) ((coF M)) ((goF M)) (er) (us) (llv_8) (lmv_9) (lhv_10) (nv) (fr) (tt) (gr) ((hdF2 ML)) (ns) (w) (cs) (cl) (nd) (lo) (ho) (so))) H := hP
              have hD : va_D vA ((wM G (a) (n) (cu) (bg) ((coF M)) ((goF M)) (er) (us) (llv_8) (lmv_9) (lhv_10) (nv) (fr) (tt) (gr) ((hdF2 ML)) (ns) (w) (cs) (cl) (nd) (lo) (ho) (so))) := hD
              refine lv_i2l (v := (leakF (er) (us) ((cu) (z)) ((bg) (z)) ((M) (z)) ((M) (8 + (z))) ((0 : Int32))).toInt64) hx hb dX7_digest_55 rfl ?_
              refine lv_ladd hx hb dX7_digest_56 ?_
              refine lv_lmul hx hb dX7_digest_57 ?_
              refine lv_aload_n hx hb dX7_digest_58 rfl (lv_at hl 2 rfl) ?_
              refine lv_iload_n hx hb dX7_digest_59 rfl (lv_at hl 0 rfl) ?_
              refine lv_iconst (v := (1)) hx hb dX7_digest_60 (by decide) ?_
              refine nw_st (st' := [.int (1), .int (nI (z)), .ref (a 0), .long ((31) * (((31) * (x3)) + ((leakF (er) (us) ((cu) (z)) ((bg) (z)) ((M) (z)) ((M) (8 + (z))) ((0 : Int32))).toInt64)))]) (by rfl) ?_
              refine nw_Vi (As := [.int (nI (z)), .int (1)]) (rest := [.long ((31) * (((31) * (x3)) + ((leakF (er) (us) ((cu) (z)) ((bg) (z)) ((M) (z)) ((M) (8 + (z))) ((0 : Int32))).toInt64)))]) (q0 := 0) X (c_X7_leaksOf lc G (a) (n) (cu) (bg) (M) (er) (us) (llv_8) (lmv_9) (lhv_10) (nv) (fr) (tt) (gr) (ML) (ns) (w) (cs) (cl) (nd) (lo) (ho) (so) (z) ((1 : Int32)) (by first | assumption | omega)) (cwV 2 hts gX7_digest_X7_leaksOf rfl rfl rfl (by decide +kernel) ⟨Nat.le_of_ble_eq_true rfl, Nat.le_of_ble_eq_true rfl⟩) rfl (show vwCl[6]? = some (RX7, TX7, 23) from rfl) (nwSp.all ((wM G (a) (n) (cu) (bg) ((coF M)) ((goF M)) (er) (us) (llv_8) (lmv_9) (lhv_10) (nv) (fr) (tt) (gr) ((hdF2 ML)) (ns) (w) (cs) (cl) (nd) (lo) (ho) (so)))) hP hD hS hA rfl hl.1 rfl (Nat.le_of_ble_eq_true rfl) dX7_digest_61 ⟨Nat.le_of_ble_eq_true rfl, Nat.le_of_ble_eq_true rfl⟩ (fun r w H locs hp_11 hP hD hS => ?_)
              obtain ⟨llv_12, lmv_13, lhv_14, rfl, rfl⟩ := hp_11
              have hP : va_P G.1 vwCl ((wM G (a) (n) (cu) (bg) ((coF M)) ((goF M)) (er) (us) (llv_12) (lmv_13) (lhv_14) (nv) (fr) (tt) (gr) ((hdF2 ML)) (ns) (w) (cs) (cl) (nd) (lo) (ho) (so))) H := hP
              have hD : va_D vA ((wM G (a) (n) (cu) (bg) ((coF M)) ((goF M)) (er) (us) (llv_12) (lmv_13) (lhv_14) (nv) (fr) (tt) (gr) ((hdF2 ML)) (ns) (w) (cs) (cl) (nd) (lo) (ho) (so))) := hD
              refine lv_i2l (v := (leakF (er) (us) ((cu) (z)) ((bg) (z)) ((M) (z)) ((M) (8 + (z))) ((1 : Int32))).toInt64) hx hb dX7_digest_64 rfl ?_
              refine lv_ladd hx hb dX7_digest_65 ?_
              refine lv_lstore_n (lv' := [(1, .long (((31) * (((31) * (x3)) + ((leakF (er) (us) ((cu) (z)) ((bg) (z)) ((M) (z)) ((M) (8 + (z))) ((0 : Int32))).toInt64))) + ((leakF (er) (us) ((cu) (z)) ((bg) (z)) ((M) (z)) ((M) (8 + (z))) ((1 : Int32))).toInt64))), (3, .int (nI (z))), (0, .ref (a 0))]) hx hb dX7_digest_66 rfl hl (by decide) rfl (fun ls hl => ?_)
              refine lv_bipush (v := (24)) hx hb dX7_digest_67 (by decide) ?_
              refine lv_iload_n hx hb dX7_digest_69 rfl (lv_at hl 1 rfl) ?_
              refine lv_imul hx hb dX7_digest_70 ?_
              refine nw_top (y := nI (24 * z)) (pk_mul (24) (z)) ?_
              refine lv_istore (lv' := [(4, .int (nI (24 * z))), (1, .long (((31) * (((31) * (x3)) + ((leakF (er) (us) ((cu) (z)) ((bg) (z)) ((M) (z)) ((M) (8 + (z))) ((0 : Int32))).toInt64))) + ((leakF (er) (us) ((cu) (z)) ((bg) (z)) ((M) (z)) ((M) (8 + (z))) ((1 : Int32))).toInt64))), (3, .int (nI (z))), (0, .ref (a 0))]) hx hb dX7_digest_71 hl (by decide) rfl (fun ls hl => ?_)
              have K73 : ∀ (fuel : Nat) (j : Nat) (y3 : Int64) (H : Heap) (locs : List Loc) (ls : Array Slot), (25 - j) < fuel → (j ≤ 24) → (y3 = hdF (M z) (M (8 + z)) (31 * (31 * zdF cu bg M er us (mixC (countF n nv ns nd M ML) 6) z + (leakF er us (cu z) (bg z) (M z) (M (8 + z)) 0).toInt64) + (leakF er us (cu z) (bg z) (M z) (M (8 + z)) 1).toInt64) j) → lv_has ls 5 [(4, .int (nI (24 * z + j))), (1, .long (y3)), (3, .int (nI (z))), (0, .ref (a 0))] → va_P G.1 vwCl ((wM G (a) (n) (cu) (bg) ((coF M)) ((goF M)) (er) (us) (llv_12) (lmv_13) (lhv_14) (nv) (fr) (tt) (gr) ((hdF2 ML)) (ns) (w) (cs) (cl) (nd) (lo) (ho) (so))) H → va_D vA ((wM G (a) (n) (cu) (bg) ((coF M)) ((goF M)) (er) (us) (llv_12) (lmv_13) (lhv_14) (nv) (fr) (tt) (gr) ((hdF2 ML)) (ns) (w) (cs) (cl) (nd) (lo) (ho) (so))) → va_S vA vs.heap H locs → W vp lc ve ({ frames := 3, cells := 0, slots := 0, locals := 68 } : Room) vs vm ([.ref (a 0)] : List Value).toArray vb vt vc H locs 0 0 (MQ vb (nwQl G (fun r ww => ∃ llv lmv lhv : Int32, r = ddF lo ho (wdF w (mixR (ML 1) (mixR (ML 0) (vdF fr tt (zdF cu bg M er us (mixC (countF n nv ns nd M ML) 6) n) nv) 64) 64) ns) nd ∧ ww = wM G (a) (n) (cu) (bg) ((coF M)) ((goF M)) (er) (us) (llv) (lmv) (lhv) (nv) (fr) (tt) (gr) ((hdF2 ML)) (ns) (w) (cs) (cl) (nd) (lo) (ho) (so)) vA) ([.ref (a 0)] : List Value).toArray vs ({ frames := 3, cells := 0, slots := 0, locals := 68 } : Room).cells ({ frames := 3, cells := 0, slots := 0, locals := 68 } : Room).slots vA) (F0 vm 73 ls []) := by
                intro fuel
                induction fuel with
                | zero => intro j y3 H locs ls hmu; exact absurd hmu (Nat.not_lt_zero _)
                | succ fuel ih73 =>
                  intro j y3 H locs ls hmu hj f3 hl hP hD hS
                  refine lv_iload hx hb dX7_digest_73 (lv_at hl 0 rfl) ?_
                  refine lv_bipush (v := (24)) hx hb dX7_digest_75 (by decide) ?_
                  refine lv_iload_n hx hb dX7_digest_77 rfl (lv_at hl 2 rfl) ?_
                  refine lv_imul hx hb dX7_digest_78 ?_
                  refine nw_top (y := nI (24 * z)) (pk_mul (24) (z)) ?_
                  refine lv_bipush (v := (24)) hx hb dX7_digest_79 (by decide) ?_
                  refine lv_iadd hx hb dX7_digest_81 ?_
                  refine nw_top (y := nI (24 * z + 24)) (nI_add (24 * z) (24)) ?_
                  refine lv_icmp_ge (tgt := 119) hx hb dX7_digest_82 (by decide) (fun b82_15 => ?_) (fun b82_15 => ?_)
                  · skip
                    have b82_15 : (24 * z + 24) ≤ (24 * z + j) := (nI_leI (a := 24 * z + 24) (b := 24 * z + j) (by omega) (by omega)).mp b82_15
                    have b82_15n : ¬ ((24 * z + j) < (24 * z + 24)) := by omega
                    refine lv_iinc (v := (nI (z + 1))) (lv' := [(3, .int (nI (z + 1))), (4, .int (nI (24 * z + j))), (1, .long (y3)), (0, .ref (a 0))]) hx hb dX7_digest_119 hl (k := 2) rfl (by exact nI_add (z) 1) (by decide) rfl (fun ls hl => ?_)
                    refine lv_goto (tgt := 33) hx hb dX7_digest_122 (by decide) ?_
                    exact ih33 (z + 1) ((y3)) (llv_12) (lmv_13) (lhv_14) _ _ _ (by omega) (by omega) (by rw [zdF_s, f3, show j = 24 by omega]) (lv_sub hl [0, 2, 3] rfl) hP hD hS
                  · skip
                    have b82_15 : ¬ ((24 * z + 24) ≤ (24 * z + j)) := fun h => b82_15 ((nI_leI (a := 24 * z + 24) (b := 24 * z + j) (by omega) (by omega)).mpr h)
                    have b82_15n : (24 * z + j) < (24 * z + 24) := by omega
                    refine lv_ldc2 (own := RX7) (v := (31)) hx hb hown (hts (Cond.constantLong RX7 145 (31)) (List.mem_of_getElem? (i := 2) rfl)) dX7_digest_85 ?_
                    refine lv_ldc2 (own := RX7) (v := (31)) hx hb hown (hts (Cond.constantLong RX7 145 (31)) (List.mem_of_getElem? (i := 2) rfl)) dX7_digest_88 ?_
                    refine lv_lload_n hx hb dX7_digest_91 rfl (lv_at hl 1 rfl) ?_
                    refine lv_lmul hx hb dX7_digest_92 ?_
                    refine lv_aload_n hx hb dX7_digest_93 rfl (lv_at hl 3 rfl) ?_
                    refine va_get (D := G.1) (ci := 6) (v := .ref (a 3)) (C := RX7) (T := TX7) (N := 23) hx hb hts in_X7_digest_X7 hown hK.1 hP 0 rfl rfl 3 (by decide) (hts (Cond.fieldLink RX7 16 "NightWaterModel" "comes" "[I") (List.mem_of_getElem? (i := 4) rfl)) (fun _ h9 => h9) rfl dX7_digest_94 ?_
                    refine lv_iload hx hb dX7_digest_97 (lv_at hl 0 rfl) ?_
                    refine nw_iald X hP 3 (n := 192) (f := ((coF M))) rfl (24 * z + j) rfl (by omega) (by decide) dX7_digest_99 ?_
                    refine nw_top (y := M z j) (coF_at (by omega) (by omega)) ?_
                    refine lv_i2l (v := (M z j).toInt64) hx hb dX7_digest_100 rfl ?_
                    refine lv_ladd hx hb dX7_digest_101 ?_
                    refine lv_lmul hx hb dX7_digest_102 ?_
                    refine lv_aload_n hx hb dX7_digest_103 rfl (lv_at hl 3 rfl) ?_
                    refine va_get (D := G.1) (ci := 6) (v := .ref (a 4)) (C := RX7) (T := TX7) (N := 23) hx hb hts in_X7_digest_X7 hown hK.1 hP 0 rfl rfl 4 (by decide) (hts (Cond.fieldLink RX7 19 "NightWaterModel" "goes" "[I") (List.mem_of_getElem? (i := 5) rfl)) (fun _ h9 => h9) rfl dX7_digest_104 ?_
                    refine lv_iload hx hb dX7_digest_107 (lv_at hl 0 rfl) ?_
                    refine nw_iald X hP 4 (n := 192) (f := ((goF M))) rfl (24 * z + j) rfl (by omega) (by decide) dX7_digest_109 ?_
                    refine nw_top (y := M (8 + z) j) (goF_at (by omega) (by omega)) ?_
                    refine lv_i2l (v := (M (8 + z) j).toInt64) hx hb dX7_digest_110 rfl ?_
                    refine lv_ladd hx hb dX7_digest_111 ?_
                    refine lv_lstore_n (lv' := [(1, .long (((31) * (((31) * (y3)) + ((M z j).toInt64))) + ((M (8 + z) j).toInt64))), (4, .int (nI (24 * z + j))), (3, .int (nI (z))), (0, .ref (a 0))]) hx hb dX7_digest_112 rfl hl (by decide) rfl (fun ls hl => ?_)
                    refine lv_iinc (v := (nI (24 * z + j + 1))) (lv' := [(4, .int (nI (24 * z + j + 1))), (1, .long (((31) * (((31) * (y3)) + ((M z j).toInt64))) + ((M (8 + z) j).toInt64))), (3, .int (nI (z))), (0, .ref (a 0))]) hx hb dX7_digest_113 hl (k := 1) rfl (by exact nI_add (24 * z + j) 1) (by decide) rfl (fun ls hl => ?_)
                    refine lv_goto (tgt := 73) hx hb dX7_digest_116 (by decide) ?_
                    exact ih73 (j + 1) ((((31) * (((31) * (y3)) + ((M z j).toInt64))) + ((M (8 + z) j).toInt64))) _ _ _ (by omega) (by omega) (by rw [hdF_s, f3]) (lv_sub hl [0, 1, 2, 3] rfl) hP hD hS
              exact K73 ((25 - (0)) + 1) (0) ((((31) * (((31) * (x3)) + ((leakF (er) (us) ((cu) (z)) ((bg) (z)) ((M) (z)) ((M) (8 + (z))) ((0 : Int32))).toInt64))) + ((leakF (er) (us) ((cu) (z)) ((bg) (z)) ((M) (z)) ((M) (8 + (z))) ((1 : Int32))).toInt64))) _ _ _ (Nat.lt_succ_self _) (by omega) (by rw [e3]; rfl) (lv_sub hl [0, 1, 2, 3] rfl) hP hD hS
        exact K33 ((9 - (0)) + 1) (0) ((x1)) (ll) (lm) (lh) _ _ _ (Nat.lt_succ_self _) (by omega) (by exact e6) (lv_sub hl [0, 1, 2] rfl) hP hD hS
      · skip
        have b9_1 : ¬ ((6) ≤ (k)) := fun h => b9_1 ((nI_leI (a := 6) (b := k) (by omega) (by omega)).mpr h)
        have b9_1n : (k) < (6) := by omega
        refine lv_ldc2 (own := RX7) (v := (31)) hx hb hown (hts (Cond.constantLong RX7 145 (31)) (List.mem_of_getElem? (i := 2) rfl)) dX7_digest_12 ?_
        refine lv_lload_n hx hb dX7_digest_15 rfl (lv_at hl 1 rfl) ?_
        refine lv_lmul hx hb dX7_digest_16 ?_
        refine lv_aload_n hx hb dX7_digest_17 rfl (lv_at hl 2 rfl) ?_
        refine lv_iload_n hx hb dX7_digest_18 rfl (lv_at hl 0 rfl) ?_
        refine nw_Vi (As := [.int (nI (k))]) (rest := [.long ((31) * (x1))]) (q0 := 0) X (c_X7_count lc G (a) (n) (cu) (bg) (M) (er) (us) (ll) (lm) (lh) (nv) (fr) (tt) (gr) (ML) (ns) (w) (cs) (cl) (nd) (lo) (ho) (so) ((nI (k))) (by first | assumption | omega) (by first | assumption | omega) (by first | assumption | omega) (by first | assumption | omega)) (cwV 1 hts gX7_digest_X7_count rfl rfl rfl (by decide +kernel) ⟨Nat.le_of_ble_eq_true rfl, Nat.le_of_ble_eq_true rfl⟩) rfl (show vwCl[6]? = some (RX7, TX7, 23) from rfl) (nwSp.all ((wM G (a) (n) (cu) (bg) ((coF M)) ((goF M)) (er) (us) (ll) (lm) (lh) (nv) (fr) (tt) (gr) ((hdF2 ML)) (ns) (w) (cs) (cl) (nd) (lo) (ho) (so)))) hP hD hS hA rfl hl.1 rfl (Nat.le_of_ble_eq_true rfl) dX7_digest_19 ⟨Nat.le_of_ble_eq_true rfl, Nat.le_of_ble_eq_true rfl⟩ (fun r w H locs hp_16 hP hD hS => ?_)
        obtain ⟨rfl, rfl⟩ := hp_16
        have hP : va_P G.1 vwCl ((wM G (a) (n) (cu) (bg) ((coF M)) ((goF M)) (er) (us) (ll) (lm) (lh) (nv) (fr) (tt) (gr) ((hdF2 ML)) (ns) (w) (cs) (cl) (nd) (lo) (ho) (so))) H := hP
        have hD : va_D vA ((wM G (a) (n) (cu) (bg) ((coF M)) ((goF M)) (er) (us) (ll) (lm) (lh) (nv) (fr) (tt) (gr) ((hdF2 ML)) (ns) (w) (cs) (cl) (nd) (lo) (ho) (so))) := hD
        refine lv_i2l (v := (countF (n) (nv) (ns) (nd) (M) (ML) ((nI (k)))).toInt64) hx hb dX7_digest_22 rfl ?_
        refine lv_ladd hx hb dX7_digest_23 ?_
        refine lv_lstore_n (lv' := [(1, .long (((31) * (x1)) + ((countF (n) (nv) (ns) (nd) (M) (ML) ((nI (k)))).toInt64))), (3, .int (nI (k))), (0, .ref (a 0))]) hx hb dX7_digest_24 rfl hl (by decide) rfl (fun ls hl => ?_)
        refine lv_iinc (v := (nI (k + 1))) (lv' := [(3, .int (nI (k + 1))), (1, .long (((31) * (x1)) + ((countF (n) (nv) (ns) (nd) (M) (ML) ((nI (k)))).toInt64))), (0, .ref (a 0))]) hx hb dX7_digest_25 hl (k := 1) rfl (by exact nI_add (k) 1) (by decide) rfl (fun ls hl => ?_)
        refine lv_goto (tgt := 6) hx hb dX7_digest_28 (by decide) ?_
        exact ih6 (k + 1) ((((31) * (x1)) + ((countF (n) (nv) (ns) (nd) (M) (ML) ((nI (k)))).toInt64))) _ _ _ (by omega) (by omega) (by rw [mixC_s, e1]) (lv_sub hl [0, 1, 2] rfl) hP hD hS
  exact K6 ((7 - (0)) + 1) (0) ((197)) _ _ _ (Nat.lt_succ_self _) (by omega) (by rfl) (lv_sub hl [0, 1, 2] rfl) hP hD hS
