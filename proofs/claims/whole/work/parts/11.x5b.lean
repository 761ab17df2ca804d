/-! printed by wip/gen/x5b.py: contracts, walked row by row -/
theorem in_X5_mixInto_X5 : ∀ w ∈ wsX50, w ∈ wsX5_mixInto := by decide +kernel
theorem in_X5_readingsLost_X5 : ∀ w ∈ wsX50, w ∈ wsX5_readingsLost := by decide +kernel
set_option maxHeartbeats 4000000 in
set_option maxRecDepth 100000 in
theorem c_X6_mix (lc : Launch) (G : nwG) (h : Int64) (v : Int32)  : nwCl lc G yX6_mix wsX6_mix ({ frames := 0, cells := 0, slots := 0, locals := 0 } : Room) [.long (h), .int (v)] ([]) (fun r w => r = 31 * h + v.toInt64 ∧ w = []) := by
  refine nw_of (cc := cX6_mix) (maxL := 3) (ret := (some .long)) (by decide) rfl (Nat.le_of_ble_eq_true rfl) ?_
  intro vp ve vs vm vb vt vc vA ls X hP hD hA hS hl
  have X : nwAt vp vm vc cX6_mix 3 vs _ wsX6_mix RX6 vt (some .long) "mix" G := X
  have hx := X.1.1
  have hb := X.1.2.1
  have hown := X.1.2.2.2.1
  have hts := X.1.2.2.2.2
  have hK := X.2.2.2.2
  have hl : lv_has ls 3 [(0, .long (h)), (2, .int (v))] := hl
  refine lv_ldc2 (own := RX6) (v := (31)) hx hb hown (hts (.constantLong RX6 149 (31)) (List.mem_of_getElem? (i := 1) rfl)) dX6_mix_0 ?_
  refine lv_lload_n hx hb dX6_mix_3 rfl (lv_at hl 0 rfl) ?_
  refine lv_lmul hx hb dX6_mix_4 ?_
  refine lv_iload_n hx hb dX6_mix_5 rfl (lv_at hl 1 rfl) ?_
  refine lv_i2l (v := (v).toInt64) hx hb dX6_mix_6 rfl ?_
  refine lv_ladd hx hb dX6_mix_7 ?_
  exact nw_lret (rm := ({ frames := 0, cells := 0, slots := 0, locals := 0 } : Room)) X hP hD hS (⟨rfl, rfl⟩) dX6_mix_8
set_option maxHeartbeats 4000000 in
set_option maxRecDepth 100000 in
theorem c_X5_readingsLost (lc : Launch) (G : nwG) (a : Nat → Nat) (n : Nat) (cu bg : Nat → Int32) (M : Nat → Nat → Int32) (er us : Int32)  (hn : n ≤ 8) : nwCi lc G yX5_readingsLost wsX5_readingsLost ({ frames := 0, cells := 0, slots := 0, locals := 0 } : Room) [.ref (a 0)] ((wZ G (a) (n) (cu) (bg) (M) (er) (us))) (fun r w => r = rlF M (24 * n) ∧ w = wZ G a n cu bg M er us) := by
  refine nw_of (cc := cX5_readingsLost) (maxL := 4) (ret := (some .int)) (by decide) rfl (Nat.le_of_ble_eq_true rfl) ?_
  intro vp ve vs vm vb vt vc vA ls X hP hD hA hS hl
  have X : nwAt vp vm vc cX5_readingsLost 4 vs _ wsX5_readingsLost RX5 vt (some .int) "readingsLost" G := X
  have hx := X.1.1
  have hb := X.1.2.1
  have hown := X.1.2.2.2.1
  have hts := X.1.2.2.2.2
  have hK := X.2.2.2.2
  have hl : lv_has ls 4 [(0, .ref (a 0))] := hl
  refine lv_iconst (v := (0)) hx hb dX5_readingsLost_0 (by decide) ?_
  refine lv_istore_n (lv' := [(1, .int (0)), (0, .ref (a 0))]) hx hb dX5_readingsLost_1 rfl hl (by decide) rfl (fun ls hl => ?_)
  refine lv_iconst (v := (0)) hx hb dX5_readingsLost_2 (by decide) ?_
  refine lv_istore_n (lv' := [(2, .int (0)), (1, .int (0)), (0, .ref (a 0))]) hx hb dX5_readingsLost_3 rfl hl (by decide) rfl (fun ls hl => ?_)
  have K4 : ∀ (fuel : Nat) (z : Nat) (x1 : Int32) (H : Heap) (locs : List Loc) (ls : Array Slot), (9 - z) < fuel → (z ≤ n) → (x1 = rlF M (24 * z)) → lv_has ls 4 [(2, .int (nI (z))), (1, .int (x1)), (0, .ref (a 0))] → va_P G.1 vwCl ((wZ G (a) (n) (cu) (bg) (M) (er) (us))) H → va_D vA ((wZ G (a) (n) (cu) (bg) (M) (er) (us))) → va_S vA vs.heap H locs → W vp lc ve ({ frames := 0, cells := 0, slots := 0, locals := 0 } : Room) vs vm ([.ref (a 0)] : List Value).toArray vb vt vc H locs 0 0 (MQ vb (nwQi G (fun r w => r = rlF M (24 * n) ∧ w = wZ G a n cu bg M er us) vA) ([.ref (a 0)] : List Value).toArray vs ({ frames := 0, cells := 0, slots := 0, locals := 0 } : Room).cells ({ frames := 0, cells := 0, slots := 0, locals := 0 } : Room).slots vA) (F0 vm 4 ls []) := by
    intro fuel
    induction fuel with
    | zero => intro z x1 H locs ls hmu; exact absurd hmu (Nat.not_lt_zero _)
    | succ fuel ih4 =>
      intro z x1 H locs ls hmu hz e1 hl hP hD hS
      refine lv_iload_n hx hb dX5_readingsLost_4 rfl (lv_at hl 0 rfl) ?_
      refine lv_aload_n hx hb dX5_readingsLost_5 rfl (lv_at hl 2 rfl) ?_
      refine va_get (D := G.1) (ci := 4) (v := .int (nI (n))) (C := RX5) (T := TX5) (N := 7) hx hb hts in_X5_readingsLost_X5 hown hK.1 hP 0 rfl rfl 4 (by decide) (hts (.fieldLink RX5 26 "NightWater$Zones" "size" "I") (List.mem_of_getElem? (i := 1) rfl)) (fun _ h9 => h9) rfl dX5_readingsLost_6 ?_
      refine lv_icmp_ge (tgt := 72) hx hb dX5_readingsLost_9 (by decide) (fun b9_1 => ?_) (fun b9_1 => ?_)
      · skip
        have b9_1 : (n) ≤ (z) := (nI_leI (a := n) (b := z) (by omega) (by omega)).mp b9_1
        have b9_1n : ¬ ((z) < (n)) := by omega
        refine lv_iload_n hx hb dX5_readingsLost_72 rfl (lv_at hl 1 rfl) ?_
        exact nw_iret (rm := ({ frames := 0, cells := 0, slots := 0, locals := 0 } : Room)) X hP hD hS (⟨e1.trans (by rw [show z = n by omega]), rfl⟩) dX5_readingsLost_73
      · skip
        have b9_1 : ¬ ((n) ≤ (z)) := fun h => b9_1 ((nI_leI (a := n) (b := z) (by omega) (by omega)).mpr h)
        have b9_1n : (z) < (n) := by omega
        refine lv_iconst (v := (0)) hx hb dX5_readingsLost_12 (by decide) ?_
        refine lv_istore_n (lv' := [(3, .int (0)), (2, .int (nI (z))), (1, .int (x1)), (0, .ref (a 0))]) hx hb dX5_readingsLost_13 rfl hl (by decide) rfl (fun ls hl => ?_)
        have K14 : ∀ (fuel : Nat) (j : Nat) (y1 : Int32) (H : Heap) (locs : List Loc) (ls : Array Slot), (25 - j) < fuel → (j ≤ 24) → (y1 = rlF M (24 * z + j)) → lv_has ls 4 [(3, .int (nI (j))), (2, .int (nI (z))), (1, .int (y1)), (0, .ref (a 0))] → va_P G.1 vwCl ((wZ G (a) (n) (cu) (bg) (M) (er) (us))) H → va_D vA ((wZ G (a) (n) (cu) (bg) (M) (er) (us))) → va_S vA vs.heap H locs → W vp lc ve ({ frames := 0, cells := 0, slots := 0, locals := 0 } : Room) vs vm ([.ref (a 0)] : List Value).toArray vb vt vc H locs 0 0 (MQ vb (nwQi G (fun r w => r = rlF M (24 * n) ∧ w = wZ G a n cu bg M er us) vA) ([.ref (a 0)] : List Value).toArray vs ({ frames := 0, cells := 0, slots := 0, locals := 0 } : Room).cells ({ frames := 0, cells := 0, slots := 0, locals := 0 } : Room).slots vA) (F0 vm 14 ls []) := by
          intro fuel
          induction fuel with
          | zero => intro j y1 H locs ls hmu; exact absurd hmu (Nat.not_lt_zero _)
          | succ fuel ih14 =>
            intro j y1 H locs ls hmu hj f1 hl hP hD hS
            refine lv_iload_n hx hb dX5_readingsLost_14 rfl (lv_at hl 0 rfl) ?_
            refine lv_bipush (v := (24)) hx hb dX5_readingsLost_15 (by decide) ?_
            refine lv_icmp_ge (tgt := 66) hx hb dX5_readingsLost_17 (by decide) (fun b17_2 => ?_) (fun b17_2 => ?_)
            · skip
              have b17_2 : (24) ≤ (j) := (nI_leI (a := 24) (b := j) (by omega) (by omega)).mp b17_2
              have b17_2n : ¬ ((j) < (24)) := by omega
              refine lv_iinc (v := (nI (z + 1))) (lv' := [(2, .int (nI (z + 1))), (3, .int (nI (j))), (1, .int (y1)), (0, .ref (a 0))]) hx hb dX5_readingsLost_66 hl (k := 1) rfl (by exact nI_add (z) 1) (by decide) rfl (fun ls hl => ?_)
              refine lv_goto (tgt := 4) hx hb dX5_readingsLost_69 (by decide) ?_
              exact ih4 (z + 1) ((y1)) _ _ _ (by omega) (by omega) (by rw [rlF_n, f1, show j = 24 by omega]) (lv_sub hl [0, 2, 3] rfl) hP hD hS
            · skip
              have b17_2 : ¬ ((24) ≤ (j)) := fun h => b17_2 ((nI_leI (a := 24) (b := j) (by omega) (by omega)).mpr h)
              have b17_2n : (j) < (24) := by omega
              refine lv_iload_n hx hb dX5_readingsLost_20 rfl (lv_at hl 2 rfl) ?_
              refine lv_aload_n hx hb dX5_readingsLost_21 rfl (lv_at hl 3 rfl) ?_
              refine va_get (D := G.1) (ci := 4) (v := .ref (a 3)) (C := RX5) (T := TX5) (N := 7) hx hb hts in_X5_readingsLost_X5 hown hK.1 hP 0 rfl rfl 2 (by decide) (hts (.fieldLink RX5 20 "NightWater$Zones" "ins" "[[I") (List.mem_of_getElem? (i := 2) rfl)) (fun _ h9 => h9) rfl dX5_readingsLost_22 ?_
              refine lv_iload_n hx hb dX5_readingsLost_25 rfl (lv_at hl 1 rfl) ?_
              refine nw_aald X hP 3 rfl (z) rfl (by omega) (by decide) dX5_readingsLost_26 ?_
              show W _ _ _ _ _ _ _ _ _ _ _ _ _ _ _ (F0 vm _ ls (.ref (a (5 + z)) :: _))
              refine lv_iload_n hx hb dX5_readingsLost_27 rfl (lv_at hl 0 rfl) ?_
              refine nw_rald (X0 := _) (r := fun i => a (5 + i)) (N := 16) (n := 24) (M := M) X hP (z) (by omega) (j) rfl (by omega) (by decide) dX5_readingsLost_28 ?_
              refine lv_iconst (v := (-1)) hx hb dX5_readingsLost_29 (by decide) ?_
              refine lv_icmp_ne (tgt := 37) hx hb dX5_readingsLost_30 (by decide) (fun b30_3 => ?_) (fun b30_3 => ?_)
              · skip
                have b30_3 : ¬ ((M (z) (j)) = (-1 : Int32)) := b30_3
                refine lv_iconst (v := (0)) hx hb dX5_readingsLost_37 (by decide) ?_
                refine lv_iadd hx hb dX5_readingsLost_38 ?_
                refine lv_istore_n (lv' := [(1, .int ((y1) + (0 : Int32))), (3, .int (nI (j))), (2, .int (nI (z))), (0, .ref (a 0))]) hx hb dX5_readingsLost_39 rfl hl (by decide) rfl (fun ls hl => ?_)
                refine lv_iload_n hx hb dX5_readingsLost_40 rfl (lv_at hl 0 rfl) ?_
                refine lv_aload_n hx hb dX5_readingsLost_41 rfl (lv_at hl 3 rfl) ?_
                refine va_get (D := G.1) (ci := 4) (v := .ref (a 4)) (C := RX5) (T := TX5) (N := 7) hx hb hts in_X5_readingsLost_X5 hown hK.1 hP 0 rfl rfl 3 (by decide) (hts (.fieldLink RX5 23 "NightWater$Zones" "outs" "[[I") (List.mem_of_getElem? (i := 3) rfl)) (fun _ h9 => h9) rfl dX5_readingsLost_42 ?_
                refine lv_iload_n hx hb dX5_readingsLost_45 rfl (lv_at hl 2 rfl) ?_
                refine nw_aald X hP 4 rfl (z) rfl (by omega) (by decide) dX5_readingsLost_46 ?_
                show W _ _ _ _ _ _ _ _ _ _ _ _ _ _ _ (F0 vm _ ls (.ref (a (5 + (8 + z))) :: _))
                refine lv_iload_n hx hb dX5_readingsLost_47 rfl (lv_at hl 1 rfl) ?_
                refine nw_rald (X0 := _) (r := fun i => a (5 + i)) (N := 16) (n := 24) (M := M) X hP (8 + z) (by omega) (j) rfl (by omega) (by decide) dX5_readingsLost_48 ?_
                refine lv_iconst (v := (-1)) hx hb dX5_readingsLost_49 (by decide) ?_
                refine lv_icmp_ne (tgt := 57) hx hb dX5_readingsLost_50 (by decide) (fun b50_4 => ?_) (fun b50_4 => ?_)
                · skip
                  have b50_4 : ¬ ((M (8 + z) (j)) = (-1 : Int32)) := b50_4
                  refine lv_iconst (v := (0)) hx hb dX5_readingsLost_57 (by decide) ?_
                  refine lv_iadd hx hb dX5_readingsLost_58 ?_
                  refine lv_istore_n (lv' := [(1, .int (((y1) + (0 : Int32)) + (0 : Int32))), (3, .int (nI (j))), (2, .int (nI (z))), (0, .ref (a 0))]) hx hb dX5_readingsLost_59 rfl hl (by decide) rfl (fun ls hl => ?_)
                  refine lv_iinc (v := (nI (j + 1))) (lv' := [(3, .int (nI (j + 1))), (1, .int (((y1) + (0 : Int32)) + (0 : Int32))), (2, .int (nI (z))), (0, .ref (a 0))]) hx hb dX5_readingsLost_60 hl (k := 1) rfl (by exact nI_add (j) 1) (by decide) rfl (fun ls hl => ?_)
                  refine lv_goto (tgt := 14) hx hb dX5_readingsLost_63 (by decide) ?_
                  exact ih14 (j + 1) ((((y1) + (0 : Int32)) + (0 : Int32))) _ _ _ (by omega) (by omega) (by rw [rlF_at (by omega), ← f1]; simp only [nwIf_T, nwIf_F, or_true, true_or, or_false, false_or, and_true, true_and, and_false, false_and, not_true_eq_false, not_false_eq_true, Nat.add_sub_cancel, b9_1n, b9_1, b17_2n, b17_2, b30_3, b50_4]) (lv_sub hl [0, 2, 1, 3] rfl) hP hD hS
                · skip
                  have b50_4 : (M (8 + z) (j)) = (-1 : Int32) := b50_4
                  refine lv_iconst (v := (1)) hx hb dX5_readingsLost_53 (by decide) ?_
                  refine lv_goto (tgt := 58) hx hb dX5_readingsLost_54 (by decide) ?_
                  refine lv_iadd hx hb dX5_readingsLost_58 ?_
                  refine lv_istore_n (lv' := [(1, .int (((y1) + (0 : Int32)) + (1 : Int32))), (3, .int (nI (j))), (2, .int (nI (z))), (0, .ref (a 0))]) hx hb dX5_readingsLost_59 rfl hl (by decide) rfl (fun ls hl => ?_)
                  refine lv_iinc (v := (nI (j + 1))) (lv' := [(3, .int (nI (j + 1))), (1, .int (((y1) + (0 : Int32)) + (1 : Int32))), (2, .int (nI (z))), (0, .ref (a 0))]) hx hb dX5_readingsLost_60 hl (k := 1) rfl (by exact nI_add (j) 1) (by decide) rfl (fun ls hl => ?_)
                  refine lv_goto (tgt := 14) hx hb dX5_readingsLost_63 (by decide) ?_
                  exact ih14 (j + 1) ((((y1) + (0 : Int32)) + (1 : Int32))) _ _ _ (by omega) (by omega) (by rw [rlF_at (by omega), ← f1]; simp only [nwIf_T, nwIf_F, or_true, true_or, or_false, false_or, and_true, true_and, and_false, false_and, not_true_eq_false, not_false_eq_true, Nat.add_sub_cancel, b9_1n, b9_1, b17_2n, b17_2, b30_3, eq_true b50_4]) (lv_sub hl [0, 2, 1, 3] rfl) hP hD hS
              · skip
                have b30_3 : (M (z) (j)) = (-1 : Int32) := b30_3
                refine lv_iconst (v := (1)) hx hb dX5_readingsLost_33 (by decide) ?_
                refine lv_goto (tgt := 38) hx hb dX5_readingsLost_34 (by decide) ?_
                refine lv_iadd hx hb dX5_readingsLost_38 ?_
                refine lv_istore_n (lv' := [(1, .int ((y1) + (1 : Int32))), (3, .int (nI (j))), (2, .int (nI (z))), (0, .ref (a 0))]) hx hb dX5_readingsLost_39 rfl hl (by decide) rfl (fun ls hl => ?_)
                refine lv_iload_n hx hb dX5_readingsLost_40 rfl (lv_at hl 0 rfl) ?_
                refine lv_aload_n hx hb dX5_readingsLost_41 rfl (lv_at hl 3 rfl) ?_
                refine va_get (D := G.1) (ci := 4) (v := .ref (a 4)) (C := RX5) (T := TX5) (N := 7) hx hb hts in_X5_readingsLost_X5 hown hK.1 hP 0 rfl rfl 3 (by decide) (hts (.fieldLink RX5 23 "NightWater$Zones" "outs" "[[I") (List.mem_of_getElem? (i := 3) rfl)) (fun _ h9 => h9) rfl dX5_readingsLost_42 ?_
                refine lv_iload_n hx hb dX5_readingsLost_45 rfl (lv_at hl 2 rfl) ?_
                refine nw_aald X hP 4 rfl (z) rfl (by omega) (by decide) dX5_readingsLost_46 ?_
                show W _ _ _ _ _ _ _ _ _ _ _ _ _ _ _ (F0 vm _ ls (.ref (a (5 + (8 + z))) :: _))
                refine lv_iload_n hx hb dX5_readingsLost_47 rfl (lv_at hl 1 rfl) ?_
                refine nw_rald (X0 := _) (r := fun i => a (5 + i)) (N := 16) (n := 24) (M := M) X hP (8 + z) (by omega) (j) rfl (by omega) (by decide) dX5_readingsLost_48 ?_
                refine lv_iconst (v := (-1)) hx hb dX5_readingsLost_49 (by decide) ?_
                refine lv_icmp_ne (tgt := 57) hx hb dX5_readingsLost_50 (by decide) (fun b50_5 => ?_) (fun b50_5 => ?_)
                · skip
                  have b50_5 : ¬ ((M (8 + z) (j)) = (-1 : Int32)) := b50_5
                  refine lv_iconst (v := (0)) hx hb dX5_readingsLost_57 (by decide) ?_
                  refine lv_iadd hx hb dX5_readingsLost_58 ?_
                  refine lv_istore_n (lv' := [(1, .int (((y1) + (1 : Int32)) + (0 : Int32))), (3, .int (nI (j))), (2, .int (nI (z))), (0, .ref (a 0))]) hx hb dX5_readingsLost_59 rfl hl (by decide) rfl (fun ls hl => ?_)
                  refine lv_iinc (v := (nI (j + 1))) (lv' := [(3, .int (nI (j + 1))), (1, .int (((y1) + (1 : Int32)) + (0 : Int32))), (2, .int (nI (z))), (0, .ref (a 0))]) hx hb dX5_readingsLost_60 hl (k := 1) rfl (by exact nI_add (j) 1) (by decide) rfl (fun ls hl => ?_)
                  refine lv_goto (tgt := 14) hx hb dX5_readingsLost_63 (by decide) ?_
                  exact ih14 (j + 1) ((((y1) + (1 : Int32)) + (0 : Int32))) _ _ _ (by omega) (by omega) (by rw [rlF_at (by omega), ← f1]; simp only [nwIf_T, nwIf_F, or_true, true_or, or_false, false_or, and_true, true_and, and_false, false_and, not_true_eq_false, not_false_eq_true, Nat.add_sub_cancel, b9_1n, b9_1, b17_2n, b17_2, eq_true b30_3, b50_5]) (lv_sub hl [0, 2, 1, 3] rfl) hP hD hS
                · skip
                  have b50_5 : (M (8 + z) (j)) = (-1 : Int32) := b50_5
                  refine lv_iconst (v := (1)) hx hb dX5_readingsLost_53 (by decide) ?_
                  refine lv_goto (tgt := 58) hx hb dX5_readingsLost_54 (by decide) ?_
                  refine lv_iadd hx hb dX5_readingsLost_58 ?_
                  refine lv_istore_n (lv' := [(1, .int (((y1) + (1 : Int32)) + (1 : Int32))), (3, .int (nI (j))), (2, .int (nI (z))), (0, .ref (a 0))]) hx hb dX5_readingsLost_59 rfl hl (by decide) rfl (fun ls hl => ?_)
                  refine lv_iinc (v := (nI (j + 1))) (lv' := [(3, .int (nI (j + 1))), (1, .int (((y1) + (1 : Int32)) + (1 : Int32))), (2, .int (nI (z))), (0, .ref (a 0))]) hx hb dX5_readingsLost_60 hl (k := 1) rfl (by exact nI_add (j) 1) (by decide) rfl (fun ls hl => ?_)
                  refine lv_goto (tgt := 14) hx hb dX5_readingsLost_63 (by decide) ?_
                  exact ih14 (j + 1) ((((y1) + (1 : Int32)) + (1 : Int32))) _ _ _ (by omega) (by omega) (by rw [rlF_at (by omega), ← f1]; simp only [nwIf_T, nwIf_F, or_true, true_or, or_false, false_or, and_true, true_and, and_false, false_and, not_true_eq_false, not_false_eq_true, Nat.add_sub_cancel, b9_1n, b9_1, b17_2n, b17_2, eq_true b30_3, eq_true b50_5]) (lv_sub hl [0, 2, 1, 3] rfl) hP hD hS
        exact K14 ((25 - (0)) + 1) (0) ((x1)) _ _ _ (Nat.lt_succ_self _) (by omega) (by exact e1) (lv_sub hl [0, 1, 2, 3] rfl) hP hD hS
  exact K4 ((9 - (0)) + 1) (0) ((0 : Int32)) _ _ _ (Nat.lt_succ_self _) (by omega) (by rfl) (lv_sub hl [0, 1, 2] rfl) hP hD hS
set_option maxHeartbeats 4000000 in
set_option maxRecDepth 100000 in
theorem c_X5_mixInto (lc : Launch) (G : nwG) (a : Nat → Nat) (n : Nat) (cu bg : Nat → Int32) (M : Nat → Nat → Int32) (er us : Int32) (h0 : Int64) (hn : n ≤ 8) : nwCl lc G yX5_mixInto wsX5_mixInto ({ frames := 4, cells := 0, slots := 0, locals := 91 } : Room) [.ref (a 0), .long (h0)] ((wZ G (a) (n) (cu) (bg) (M) (er) (us))) (fun r w => r = zdF cu bg M er us h0 n ∧ w = wZ G a n cu bg M er us) := by
  refine nw_of (cc := cX5_mixInto) (maxL := 7) (ret := (some .long)) (by decide) rfl (Nat.le_of_ble_eq_true rfl) ?_
  intro vp ve vs vm vb vt vc vA ls X hP hD hA hS hl
  have X : nwAt vp vm vc cX5_mixInto 7 vs _ wsX5_mixInto RX5 vt (some .long) "mixInto" G := X
  have hx := X.1.1
  have hb := X.1.2.1
  have hown := X.1.2.2.2.1
  have hts := X.1.2.2.2.2
  have hK := X.2.2.2.2
  have hl : lv_has ls 7 [(0, .ref (a 0)), (1, .long (h0))] := hl
  refine lv_lload_n hx hb dX5_mixInto_0 rfl (lv_at hl 1 rfl) ?_
  refine lv_lstore_n (lv' := [(3, .long (h0)), (0, .ref (a 0)), (1, .long (h0))]) hx hb dX5_mixInto_1 rfl hl (by decide) rfl (fun ls hl => ?_)
  refine lv_iconst (v := (0)) hx hb dX5_mixInto_2 (by decide) ?_
  refine lv_istore (lv' := [(5, .int (0)), (3, .long (h0)), (0, .ref (a 0)), (1, .long (h0))]) hx hb dX5_mixInto_3 hl (by decide) rfl (fun ls hl => ?_)
  have K5 : ∀ (fuel : Nat) (z : Nat) (x3 : Int64) (H : Heap) (locs : List Loc) (ls : Array Slot), (9 - z) < fuel → (z ≤ n) → (x3 = zdF cu bg M er us h0 z) → lv_has ls 7 [(5, .int (nI (z))), (3, .long (x3)), (0, .ref (a 0)), (1, .long (h0))] → va_P G.1 vwCl ((wZ G (a) (n) (cu) (bg) (M) (er) (us))) H → va_D vA ((wZ G (a) (n) (cu) (bg) (M) (er) (us))) → va_S vA vs.heap H locs → W vp lc ve ({ frames := 4, cells := 0, slots := 0, locals := 91 } : Room) vs vm ([.ref (a 0), .long (h0)] : List Value).toArray vb vt vc H locs 0 0 (MQ vb (nwQl G (fun r w => r = zdF cu bg M er us h0 n ∧ w = wZ G a n cu bg M er us) vA) ([.ref (a 0), .long (h0)] : List Value).toArray vs ({ frames := 4, cells := 0, slots := 0, locals := 91 } : Room).cells ({ frames := 4, cells := 0, slots := 0, locals := 91 } : Room).slots vA) (F0 vm 5 ls []) := by
    intro fuel
    induction fuel with
    | zero => intro z x3 H locs ls hmu; exact absurd hmu (Nat.not_lt_zero _)
    | succ fuel ih5 =>
      intro z x3 H locs ls hmu hz e3 hl hP hD hS
      refine lv_iload hx hb dX5_mixInto_5 (lv_at hl 0 rfl) ?_
      refine lv_aload_n hx hb dX5_mixInto_7 rfl (lv_at hl 2 rfl) ?_
      refine va_get (D := G.1) (ci := 4) (v := .int (nI (n))) (C := RX5) (T := TX5) (N := 7) hx hb hts in_X5_mixInto_X5 hown hK.1 hP 0 rfl rfl 4 (by decide) (hts (Cond.fieldLink RX5 26 "NightWater$Zones" "size" "I") (List.mem_of_getElem? (i := 1) rfl)) (fun _ h9 => h9) rfl dX5_mixInto_8 ?_
      refine lv_icmp_ge (tgt := 90) hx hb dX5_mixInto_11 (by decide) (fun b11_1 => ?_) (fun b11_1 => ?_)
      · skip
        have b11_1 : (n) ≤ (z) := (nI_leI (a := n) (b := z) (by omega) (by omega)).mp b11_1
        have b11_1n : ¬ ((z) < (n)) := by omega
        refine lv_lload_n hx hb dX5_mixInto_90 rfl (lv_at hl 1 rfl) ?_
        exact nw_lret (rm := ({ frames := 4, cells := 0, slots := 0, locals := 91 } : Room)) X hP hD hS (⟨e3.trans (by rw [show z = n by omega]), rfl⟩) dX5_mixInto_91
      · skip
        have b11_1 : ¬ ((n) ≤ (z)) := fun h => b11_1 ((nI_leI (a := n) (b := z) (by omega) (by omega)).mpr h)
        have b11_1n : (z) < (n) := by omega
        refine lv_lload_n hx hb dX5_mixInto_14 rfl (lv_at hl 1 rfl) ?_
        refine lv_aload_n hx hb dX5_mixInto_15 rfl (lv_at hl 2 rfl) ?_
        refine lv_iload hx hb dX5_mixInto_16 (lv_at hl 0 rfl) ?_
        refine lv_iconst (v := (0)) hx hb dX5_mixInto_18 (by decide) ?_
        refine nw_Vi (As := [.int (nI (z)), .int (0)]) (rest := [.long (x3)]) (q0 := 0) X (c_X5_leak lc G (a) (n) (cu) (bg) (M) (er) (us) ((nI (z))) ((0 : Int32)) (by first | assumption | omega)) (cwV 2 hts gX5_mixInto_X5_leak rfl rfl rfl (by decide +kernel) ⟨Nat.le_of_ble_eq_true rfl, Nat.le_of_ble_eq_true rfl⟩) rfl (show vwCl[4]? = some (RX5, TX5, 7) from rfl) (nwSp.all ((wZ G (a) (n) (cu) (bg) (M) (er) (us)))) hP hD hS hA rfl hl.1 rfl (Nat.le_of_ble_eq_true rfl) dX5_mixInto_19 ⟨Nat.le_of_ble_eq_true rfl, Nat.le_of_ble_eq_true rfl⟩ (fun r w H locs hp_2 hP hD hS => ?_)
        obtain ⟨rfl, rfl⟩ := hp_2
        have hP : va_P G.1 vwCl ((wZ G (a) (n) (cu) (bg) (M) (er) (us))) H := hP
        have hD : va_D vA ((wZ G (a) (n) (cu) (bg) (M) (er) (us))) := hD
        refine nw_Nl (As := [.long (x3), .int (leaksF (n) (cu) (bg) (M) (er) (us) ((nI (z))) ((0 : Int32)))]) (rest := []) X (c_X6_mix lc G ((x3)) ((leaksF (n) (cu) (bg) (M) (er) (us) ((nI (z))) ((0 : Int32)))) ) (va_cnB 2 hts ggX5_mixInto_X6_mix rfl rfl rfl (hK.nest 9 rfl) (hts (.initialized RX6) (List.mem_of_getElem? (i := 18) rfl)) (by decide +kernel) ⟨Nat.le_of_ble_eq_true rfl, Nat.le_of_ble_eq_true rfl⟩) (hts (.static yX6_mix) (List.mem_of_getElem? (i := 41) rfl)) (fun _ _ h => h.2) hP hD hS hA rfl hl.1 rfl (Nat.le_of_ble_eq_true rfl) dX5_mixInto_22 ⟨Nat.le_of_ble_eq_true rfl, Nat.le_of_ble_eq_true rfl⟩ (fun r H locs hp_3 hP hD hS => ?_)
        obtain ⟨rfl, -⟩ := hp_3
        refine lv_lstore_n (lv' := [(3, .long (31 * ((x3)) + (((leaksF (n) (cu) (bg) (M) (er) (us) ((nI (z))) ((0 : Int32))))).toInt64)), (5, .int (nI (z))), (0, .ref (a 0)), (1, .long (h0))]) hx hb dX5_mixInto_25 rfl hl (by decide) rfl (fun ls hl => ?_)
        refine lv_lload_n hx hb dX5_mixInto_26 rfl (lv_at hl 0 rfl) ?_
        refine lv_aload_n hx hb dX5_mixInto_27 rfl (lv_at hl 2 rfl) ?_
        refine lv_iload hx hb dX5_mixInto_28 (lv_at hl 1 rfl) ?_
        refine lv_iconst (v := (1)) hx hb dX5_mixInto_30 (by decide) ?_
        refine nw_Vi (As := [.int (nI (z)), .int (1)]) (rest := [.long (31 * ((x3)) + (((leaksF (n) (cu) (bg) (M) (er) (us) ((nI (z))) ((0 : Int32))))).toInt64)]) (q0 := 0) X (c_X5_leak lc G (a) (n) (cu) (bg) (M) (er) (us) ((nI (z))) ((1 : Int32)) (by first | assumption | omega)) (cwV 2 hts gX5_mixInto_X5_leak rfl rfl rfl (by decide +kernel) ⟨Nat.le_of_ble_eq_true rfl, Nat.le_of_ble_eq_true rfl⟩) rfl (show vwCl[4]? = some (RX5, TX5, 7) from rfl) (nwSp.all ((wZ G (a) (n) (cu) (bg) (M) (er) (us)))) hP hD hS hA rfl hl.1 rfl (Nat.le_of_ble_eq_true rfl) dX5_mixInto_31 ⟨Nat.le_of_ble_eq_true rfl, Nat.le_of_ble_eq_true rfl⟩ (fun r w H locs hp_4 hP hD hS => ?_)
        obtain ⟨rfl, rfl⟩ := hp_4
        have hP : va_P G.1 vwCl ((wZ G (a) (n) (cu) (bg) (M) (er) (us))) H := hP
        have hD : va_D vA ((wZ G (a) (n) (cu) (bg) (M) (er) (us))) := hD
        refine nw_Nl (As := [.long (31 * ((x3)) + (((leaksF (n) (cu) (bg) (M) (er) (us) ((nI (z))) ((0 : Int32))))).toInt64), .int (leaksF (n) (cu) (bg) (M) (er) (us) ((nI (z))) ((1 : Int32)))]) (rest := []) X (c_X6_mix lc G ((31 * ((x3)) + (((leaksF (n) (cu) (bg) (M) (er) (us) ((nI (z))) ((0 : Int32))))).toInt64)) ((leaksF (n) (cu) (bg) (M) (er) (us) ((nI (z))) ((1 : Int32)))) ) (va_cnB 2 hts ggX5_mixInto_X6_mix rfl rfl rfl (hK.nest 9 rfl) (hts (.initialized RX6) (List.mem_of_getElem? (i := 18) rfl)) (by decide +kernel) ⟨Nat.le_of_ble_eq_true rfl, Nat.le_of_ble_eq_true rfl⟩) (hts (.static yX6_mix) (List.mem_of_getElem? (i := 41) rfl)) (fun _ _ h => h.2) hP hD hS hA rfl hl.1 rfl (Nat.le_of_ble_eq_true rfl) dX5_mixInto_34 ⟨Nat.le_of_ble_eq_true rfl, Nat.le_of_ble_eq_true rfl⟩ (fun r H locs hp_5 hP hD hS => ?_)
        obtain ⟨rfl, -⟩ := hp_5
        refine lv_lstore_n (lv' := [(3, .long (31 * ((31 * ((x3)) + (((leaksF (n) (cu) (bg) (M) (er) (us) ((nI (z))) ((0 : Int32))))).toInt64)) + (((leaksF (n) (cu) (bg) (M) (er) (us) ((nI (z))) ((1 : Int32))))).toInt64)), (5, .int (nI (z))), (0, .ref (a 0)), (1, .long (h0))]) hx hb dX5_mixInto_37 rfl hl (by decide) rfl (fun ls hl => ?_)
        refine lv_iconst (v := (0)) hx hb dX5_mixInto_38 (by decide) ?_
        refine lv_istore (lv' := [(6, .int (0)), (3, .long (31 * ((31 * ((x3)) + (((leaksF (n) (cu) (bg) (M) (er) (us) ((nI (z))) ((0 : Int32))))).toInt64)) + (((leaksF (n) (cu) (bg) (M) (er) (us) ((nI (z))) ((1 : Int32))))).toInt64)), (5, .int (nI (z))), (0, .ref (a 0)), (1, .long (h0))]) hx hb dX5_mixInto_39 hl (by decide) rfl (fun ls hl => ?_)
        have K41 : ∀ (fuel : Nat) (j : Nat) (y3 : Int64) (H : Heap) (locs : List Loc) (ls : Array Slot), (25 - j) < fuel → (j ≤ 24) → (y3 = hdF (M z) (M (8 + z)) (31 * (31 * zdF cu bg M er us h0 z + (leakF er us (cu z) (bg z) (M z) (M (8 + z)) 0).toInt64) + (leakF er us (cu z) (bg z) (M z) (M (8 + z)) 1).toInt64) j) → lv_has ls 7 [(6, .int (nI (j))), (3, .long (y3)), (5, .int (nI (z))), (0, .ref (a 0)), (1, .long (h0))] → va_P G.1 vwCl ((wZ G (a) (n) (cu) (bg) (M) (er) (us))) H → va_D vA ((wZ G (a) (n) (cu) (bg) (M) (er) (us))) → va_S vA vs.heap H locs → W vp lc ve ({ frames := 4, cells := 0, slots := 0, locals := 91 } : Room) vs vm ([.ref (a 0), .long (h0)] : List Value).toArray vb vt vc H locs 0 0 (MQ vb (nwQl G (fun r w => r = zdF cu bg M er us h0 n ∧ w = wZ G a n cu bg M er us) vA) ([.ref (a 0), .long (h0)] : List Value).toArray vs ({ frames := 4, cells := 0, slots := 0, locals := 91 } : Room).cells ({ frames := 4, cells := 0, slots := 0, locals := 91 } : Room).slots vA) (F0 vm 41 ls []) := by
          intro fuel
          induction fuel with
          | zero => intro j y3 H locs ls hmu; exact absurd hmu (Nat.not_lt_zero _)
          | succ fuel ih41 =>
            intro j y3 H locs ls hmu hj f3 hl hP hD hS
            refine lv_iload hx hb dX5_mixInto_41 (lv_at hl 0 rfl) ?_
            refine lv_bipush (v := (24)) hx hb dX5_mixInto_43 (by decide) ?_
            refine lv_icmp_ge (tgt := 84) hx hb dX5_mixInto_45 (by decide) (fun b45_6 => ?_) (fun b45_6 => ?_)
            · skip
              have b45_6 : (24) ≤ (j) := (nI_leI (a := 24) (b := j) (by omega) (by omega)).mp b45_6
              have b45_6n : ¬ ((j) < (24)) := by omega
              refine lv_iinc (v := (nI (z + 1))) (lv' := [(5, .int (nI (z + 1))), (6, .int (nI (j))), (3, .long (y3)), (0, .ref (a 0)), (1, .long (h0))]) hx hb dX5_mixInto_84 hl (k := 2) rfl (by exact nI_add (z) 1) (by decide) rfl (fun ls hl => ?_)
              refine lv_goto (tgt := 5) hx hb dX5_mixInto_87 (by decide) ?_
              exact ih5 (z + 1) ((y3)) _ _ _ (by omega) (by omega) (by rw [zdF_s, f3, show j = 24 by omega]) (lv_sub hl [0, 2, 3, 4] rfl) hP hD hS
            · skip
              have b45_6 : ¬ ((24) ≤ (j)) := fun h => b45_6 ((nI_leI (a := 24) (b := j) (by omega) (by omega)).mpr h)
              have b45_6n : (j) < (24) := by omega
              refine lv_lload_n hx hb dX5_mixInto_48 rfl (lv_at hl 1 rfl) ?_
              refine lv_aload_n hx hb dX5_mixInto_49 rfl (lv_at hl 3 rfl) ?_
              refine va_get (D := G.1) (ci := 4) (v := .ref (a 3)) (C := RX5) (T := TX5) (N := 7) hx hb hts in_X5_mixInto_X5 hown hK.1 hP 0 rfl rfl 2 (by decide) (hts (Cond.fieldLink RX5 20 "NightWater$Zones" "ins" "[[I") (List.mem_of_getElem? (i := 2) rfl)) (fun _ h9 => h9) rfl dX5_mixInto_50 ?_
              refine lv_iload hx hb dX5_mixInto_53 (lv_at hl 2 rfl) ?_
              refine nw_aald X hP 3 rfl (z) rfl (by omega) (by decide) dX5_mixInto_55 ?_
              show W _ _ _ _ _ _ _ _ _ _ _ _ _ _ _ (F0 vm _ ls (.ref (a (5 + z)) :: _))
              refine lv_iload hx hb dX5_mixInto_56 (lv_at hl 0 rfl) ?_
              refine nw_rald (X0 := _) (r := fun i => a (5 + i)) (N := 16) (n := 24) (M := M) X hP (z) (by omega) (j) rfl (by omega) (by decide) dX5_mixInto_58 ?_
              refine nw_Nl (As := [.long (y3), .int (M (z) (j))]) (rest := []) X (c_X6_mix lc G ((y3)) ((M (z) (j))) ) (va_cnB 2 hts ggX5_mixInto_X6_mix rfl rfl rfl (hK.nest 9 rfl) (hts (.initialized RX6) (List.mem_of_getElem? (i := 18) rfl)) (by decide +kernel) ⟨Nat.le_of_ble_eq_true rfl, Nat.le_of_ble_eq_true rfl⟩) (hts (.static yX6_mix) (List.mem_of_getElem? (i := 41) rfl)) (fun _ _ h => h.2) hP hD hS hA rfl hl.1 rfl (Nat.le_of_ble_eq_true rfl) dX5_mixInto_59 ⟨Nat.le_of_ble_eq_true rfl, Nat.le_of_ble_eq_true rfl⟩ (fun r H locs hp_7 hP hD hS => ?_)
              obtain ⟨rfl, -⟩ := hp_7
              refine lv_lstore_n (lv' := [(3, .long (31 * ((y3)) + (((M (z) (j)))).toInt64)), (6, .int (nI (j))), (5, .int (nI (z))), (0, .ref (a 0)), (1, .long (h0))]) hx hb dX5_mixInto_62 rfl hl (by decide) rfl (fun ls hl => ?_)
              refine lv_lload_n hx hb dX5_mixInto_63 rfl (lv_at hl 0 rfl) ?_
              refine lv_aload_n hx hb dX5_mixInto_64 rfl (lv_at hl 3 rfl) ?_
              refine va_get (D := G.1) (ci := 4) (v := .ref (a 4)) (C := RX5) (T := TX5) (N := 7) hx hb hts in_X5_mixInto_X5 hown hK.1 hP 0 rfl rfl 3 (by decide) (hts (Cond.fieldLink RX5 23 "NightWater$Zones" "outs" "[[I") (List.mem_of_getElem? (i := 3) rfl)) (fun _ h9 => h9) rfl dX5_mixInto_65 ?_
              refine lv_iload hx hb dX5_mixInto_68 (lv_at hl 2 rfl) ?_
              refine nw_aald X hP 4 rfl (z) rfl (by omega) (by decide) dX5_mixInto_70 ?_
              show W _ _ _ _ _ _ _ _ _ _ _ _ _ _ _ (F0 vm _ ls (.ref (a (5 + (8 + z))) :: _))
              refine lv_iload hx hb dX5_mixInto_71 (lv_at hl 1 rfl) ?_
              refine nw_rald (X0 := _) (r := fun i => a (5 + i)) (N := 16) (n := 24) (M := M) X hP (8 + z) (by omega) (j) rfl (by omega) (by decide) dX5_mixInto_73 ?_
              refine nw_Nl (As := [.long (31 * ((y3)) + (((M (z) (j)))).toInt64), .int (M (8 + z) (j))]) (rest := []) X (c_X6_mix lc G ((31 * ((y3)) + (((M (z) (j)))).toInt64)) ((M (8 + z) (j))) ) (va_cnB 2 hts ggX5_mixInto_X6_mix rfl rfl rfl (hK.nest 9 rfl) (hts (.initialized RX6) (List.mem_of_getElem? (i := 18) rfl)) (by decide +kernel) ⟨Nat.le_of_ble_eq_true rfl, Nat.le_of_ble_eq_true rfl⟩) (hts (.static yX6_mix) (List.mem_of_getElem? (i := 41) rfl)) (fun _ _ h => h.2) hP hD hS hA rfl hl.1 rfl (Nat.le_of_ble_eq_true rfl) dX5_mixInto_74 ⟨Nat.le_of_ble_eq_true rfl, Nat.le_of_ble_eq_true rfl⟩ (fun r H locs hp_8 hP hD hS => ?_)
              obtain ⟨rfl, -⟩ := hp_8
              refine lv_lstore_n (lv' := [(3, .long (31 * ((31 * ((y3)) + (((M (z) (j)))).toInt64)) + (((M (8 + z) (j)))).toInt64)), (6, .int (nI (j))), (5, .int (nI (z))), (0, .ref (a 0)), (1, .long (h0))]) hx hb dX5_mixInto_77 rfl hl (by decide) rfl (fun ls hl => ?_)
              refine lv_iinc (v := (nI (j + 1))) (lv' := [(6, .int (nI (j + 1))), (3, .long (31 * ((31 * ((y3)) + (((M (z) (j)))).toInt64)) + (((M (8 + z) (j)))).toInt64)), (5, .int (nI (z))), (0, .ref (a 0)), (1, .long (h0))]) hx hb dX5_mixInto_78 hl (k := 1) rfl (by exact nI_add (j) 1) (by decide) rfl (fun ls hl => ?_)
              refine lv_goto (tgt := 41) hx hb dX5_mixInto_81 (by decide) ?_
              exact ih41 (j + 1) ((31 * ((31 * ((y3)) + (((M (z) (j)))).toInt64)) + (((M (8 + z) (j)))).toInt64)) _ _ _ (by omega) (by omega) (by rw [hdF_s, f3]) (lv_sub hl [0, 1, 2, 3, 4] rfl) hP hD hS
        exact K41 ((25 - (0)) + 1) (0) ((31 * ((31 * ((x3)) + (((leaksF (n) (cu) (bg) (M) (er) (us) ((nI (z))) ((0 : Int32))))).toInt64)) + (((leaksF (n) (cu) (bg) (M) (er) (us) ((nI (z))) ((1 : Int32))))).toInt64)) _ _ _ (Nat.lt_succ_self _) (by omega) (by rw [leaksF_at (by omega) hn (by unfold out; decide), leaksF_at (by omega) hn (by unfold out; decide), e3]; rfl) (lv_sub hl [0, 1, 2, 3, 4] rfl) hP hD hS
  exact K5 ((9 - (0)) + 1) (0) ((h0)) _ _ _ (Nat.lt_succ_self _) (by omega) (by rfl) (lv_sub hl [0, 1, 2, 3] rfl) hP hD hS
