/-! printed by wip/gen/x4b.py: contracts, walked row by row -/
set_option maxHeartbeats 4000000 in
set_option maxRecDepth 100000 in
theorem c_J6_bitCount_0f7a4 (lc : Launch) (G : nwG) (k : Nat) (hk : k < 4096) : nwCi lc G yJ6_bitCount_0f7a4 wsJ6_bitCount_0f7a4 ({ frames := 0, cells := 0, slots := 0, locals := 0 } : Room) [.int (nI (k))] ([]) (fun r w => r = nI (popN k) ∧ w = []) := by
  refine nw_of (cc := cJ6_bitCount_0f7a4) (maxL := 1) (ret := (some .int)) (by decide) rfl (Nat.le_of_ble_eq_true rfl) ?_
  intro vp ve vs vm vb vt vc vA ls X hP hD hA hS hl
  have X : nwAt vp vm vc cJ6_bitCount_0f7a4 1 vs _ wsJ6_bitCount_0f7a4 RJ6 vt (some .int) "bitCount" G := X
  have hx := X.1.1
  have hb := X.1.2.1
  have hown := X.1.2.2.2.1
  have hts := X.1.2.2.2.2
  have hK := X.2.2.2.2
  have hl : lv_has ls 1 [(0, .int (nI (k)))] := hl
  refine lv_iload_n hx hb dJ6_bitCount_0f7a4_0 rfl (lv_at hl 0 rfl) ?_
  refine lv_iload_n hx hb dJ6_bitCount_0f7a4_1 rfl (lv_at hl 0 rfl) ?_
  refine lv_iconst (v := (1)) hx hb dJ6_bitCount_0f7a4_2 (by decide) ?_
  refine lv_iushr (v := ((nI (k)).toUInt32 >>> ((1 : Int32).toUInt32 &&& Int32.toUInt32 31)).toInt32) hx hb dJ6_bitCount_0f7a4_3 rfl ?_
  refine lv_ldcw (own := RJ6) (v := (1431655765)) hx hb hown (hts (.constant RJ6 265 (1431655765)) (List.mem_of_getElem? (i := 1) rfl)) dJ6_bitCount_0f7a4_4 ?_
  refine lv_iand hx hb dJ6_bitCount_0f7a4_7 ?_
  refine lv_isub hx hb dJ6_bitCount_0f7a4_8 ?_
  obtain ⟨y1, ey1⟩ : ∃ z : Int32, z = bc1 (nI k) := ⟨_, rfl⟩
  refine nw_top (y := y1) (by rw [ey1]; rfl) ?_
  refine lv_istore_n (lv' := [(0, .int (y1))]) hx hb dJ6_bitCount_0f7a4_9 rfl hl (by decide) rfl (fun ls hl => ?_)
  refine lv_iload_n hx hb dJ6_bitCount_0f7a4_10 rfl (lv_at hl 0 rfl) ?_
  refine lv_ldcw (own := RJ6) (v := (858993459)) hx hb hown (hts (.constant RJ6 266 (858993459)) (List.mem_of_getElem? (i := 2) rfl)) dJ6_bitCount_0f7a4_11 ?_
  refine lv_iand hx hb dJ6_bitCount_0f7a4_14 ?_
  refine lv_iload_n hx hb dJ6_bitCount_0f7a4_15 rfl (lv_at hl 0 rfl) ?_
  refine lv_iconst (v := (2)) hx hb dJ6_bitCount_0f7a4_16 (by decide) ?_
  refine lv_iushr (v := ((y1).toUInt32 >>> ((2 : Int32).toUInt32 &&& Int32.toUInt32 31)).toInt32) hx hb dJ6_bitCount_0f7a4_17 rfl ?_
  refine lv_ldcw (own := RJ6) (v := (858993459)) hx hb hown (hts (.constant RJ6 266 (858993459)) (List.mem_of_getElem? (i := 2) rfl)) dJ6_bitCount_0f7a4_18 ?_
  refine lv_iand hx hb dJ6_bitCount_0f7a4_21 ?_
  refine lv_iadd hx hb dJ6_bitCount_0f7a4_22 ?_
  obtain ⟨y2, ey2⟩ : ∃ z : Int32, z = bc2 y1 := ⟨_, rfl⟩
  refine nw_top (y := y2) (by rw [ey2]; rfl) ?_
  refine lv_istore_n (lv' := [(0, .int (y2))]) hx hb dJ6_bitCount_0f7a4_23 rfl hl (by decide) rfl (fun ls hl => ?_)
  refine lv_iload_n hx hb dJ6_bitCount_0f7a4_24 rfl (lv_at hl 0 rfl) ?_
  refine lv_iload_n hx hb dJ6_bitCount_0f7a4_25 rfl (lv_at hl 0 rfl) ?_
  refine lv_iconst (v := (4)) hx hb dJ6_bitCount_0f7a4_26 (by decide) ?_
  refine lv_iushr (v := ((y2).toUInt32 >>> ((4 : Int32).toUInt32 &&& Int32.toUInt32 31)).toInt32) hx hb dJ6_bitCount_0f7a4_27 rfl ?_
  refine lv_iadd hx hb dJ6_bitCount_0f7a4_28 ?_
  refine lv_ldcw (own := RJ6) (v := (252645135)) hx hb hown (hts (.constant RJ6 267 (252645135)) (List.mem_of_getElem? (i := 3) rfl)) dJ6_bitCount_0f7a4_29 ?_
  refine lv_iand hx hb dJ6_bitCount_0f7a4_32 ?_
  obtain ⟨y3, ey3⟩ : ∃ z : Int32, z = bc3 y2 := ⟨_, rfl⟩
  refine nw_top (y := y3) (by rw [ey3]; rfl) ?_
  refine lv_istore_n (lv' := [(0, .int (y3))]) hx hb dJ6_bitCount_0f7a4_33 rfl hl (by decide) rfl (fun ls hl => ?_)
  refine lv_iload_n hx hb dJ6_bitCount_0f7a4_34 rfl (lv_at hl 0 rfl) ?_
  refine lv_iload_n hx hb dJ6_bitCount_0f7a4_35 rfl (lv_at hl 0 rfl) ?_
  refine lv_bipush (v := (8)) hx hb dJ6_bitCount_0f7a4_36 (by decide) ?_
  refine lv_iushr (v := ((y3).toUInt32 >>> ((8 : Int32).toUInt32 &&& Int32.toUInt32 31)).toInt32) hx hb dJ6_bitCount_0f7a4_38 rfl ?_
  refine lv_iadd hx hb dJ6_bitCount_0f7a4_39 ?_
  obtain ⟨y4, ey4⟩ : ∃ z : Int32, z = bc4 y3 := ⟨_, rfl⟩
  refine nw_top (y := y4) (by rw [ey4]; rfl) ?_
  refine lv_istore_n (lv' := [(0, .int (y4))]) hx hb dJ6_bitCount_0f7a4_40 rfl hl (by decide) rfl (fun ls hl => ?_)
  refine lv_iload_n hx hb dJ6_bitCount_0f7a4_41 rfl (lv_at hl 0 rfl) ?_
  refine lv_iload_n hx hb dJ6_bitCount_0f7a4_42 rfl (lv_at hl 0 rfl) ?_
  refine lv_bipush (v := (16)) hx hb dJ6_bitCount_0f7a4_43 (by decide) ?_
  refine lv_iushr (v := ((y4).toUInt32 >>> ((16 : Int32).toUInt32 &&& Int32.toUInt32 31)).toInt32) hx hb dJ6_bitCount_0f7a4_45 rfl ?_
  refine lv_iadd hx hb dJ6_bitCount_0f7a4_46 ?_
  obtain ⟨y5, ey5⟩ : ∃ z : Int32, z = bc5 y4 := ⟨_, rfl⟩
  refine nw_top (y := y5) (by rw [ey5]; rfl) ?_
  refine lv_istore_n (lv' := [(0, .int (y5))]) hx hb dJ6_bitCount_0f7a4_47 rfl hl (by decide) rfl (fun ls hl => ?_)
  refine lv_iload_n hx hb dJ6_bitCount_0f7a4_48 rfl (lv_at hl 0 rfl) ?_
  refine lv_bipush (v := (63)) hx hb dJ6_bitCount_0f7a4_49 (by decide) ?_
  refine lv_iand hx hb dJ6_bitCount_0f7a4_51 ?_
  exact nw_iret (rm := ({ frames := 0, cells := 0, slots := 0, locals := 0 } : Room)) X hP hD hS (⟨by rw [ey5, ey4, ey3, ey2, ey1]; exact bc_all hk, rfl⟩) dJ6_bitCount_0f7a4_52
set_option maxHeartbeats 4000000 in
set_option maxRecDepth 100000 in
theorem c_X4_fewestSet (lc : Launch) (G : nwG) (v : Nat → Nat) (nv : Nat) (fr tt : Nat → Nat) (zl : Nat → Int32) (ld : Nat → Nat) (gk ut : Nat → Int32) (a : Nat → Nat) (n : Nat) (cu bg : Nat → Int32) (M : Nat → Nat → Int32) (er us : Int32)  (hn : n ≤ 8) (hnv : nv ≤ 12) (hf : ∀ i, i < nv → fr i < n ∧ tt i < n) (hld : ∀ j, ld j < 8) (hbd : bnd n (lk1 cu bg M er us)) : nwCi lc G yX4_fewestSet wsX4_fewestSet ({ frames := 5, cells := 0, slots := 0, locals := 112 } : Room) [.ref (v 0)] ((wV G (v) (a 0) (nv) (fr) (tt) (zl) (ld) (gk) (ut)) ++ ((wZ G (a) (n) (cu) (bg) (M) (er) (us)))) (fun r w => ∃ (zlv : Nat → Int32) (ldv : Nat → Nat) (gkv utv : Nat → Int32), (∀ j, ldv j < 8) ∧ r = fewF n nv fr tt (lk1 cu bg M er us) ∧ w = wV G v (a 0) (nv) (fr) (tt) (zlv) (ldv) (gkv) (utv) ++ wZ G a n cu bg M er us) := by
  refine nw_of (cc := cX4_fewestSet) (maxL := 4) (ret := (some .int)) (by decide) rfl (Nat.le_of_ble_eq_true rfl) ?_
  intro vp ve vs vm vb vt vc vA ls X hP hD hA hS hl
  have X : nwAt vp vm vc cX4_fewestSet 4 vs _ wsX4_fewestSet RX4 vt (some .int) "fewestSet" G := X
  have hx := X.1.1
  have hb := X.1.2.1
  have hown := X.1.2.2.2.1
  have hts := X.1.2.2.2.2
  have hK := X.2.2.2.2
  have hl : lv_has ls 4 [(0, .ref (v 0))] := hl
  have hpw := nw_pow_lt hnv
  have hp0 : 0 < 2 ^ nv := Nat.pow_pos (by omega)
  refine lv_aload_n hx hb dX4_fewestSet_0 rfl (lv_at hl 0 rfl) ?_
  refine nw_Vv (As := []) (rest := []) (q0 := 0) X (c_X4_reckonLeaks lc G (v) (nv) (fr) (tt) (zl) (ld) (gk) (ut) (a) (n) (cu) (bg) (M) (er) (us) (by first | assumption | omega)) (cwV 0 hts gX4_fewestSet_X4_reckonLeaks rfl rfl rfl (by decide +kernel) ⟨Nat.le_of_ble_eq_true rfl, Nat.le_of_ble_eq_true rfl⟩) rfl (show vwCl[3]? = some (RX4, TX4, 8) from rfl) (nwSp.all ((wV G (v) (a 0) (nv) (fr) (tt) (zl) (ld) (gk) (ut)) ++ ((wZ G (a) (n) (cu) (bg) (M) (er) (us))))) hP hD hS hA rfl hl.1 rfl (Nat.le_of_ble_eq_true rfl) dX4_fewestSet_1 ⟨Nat.le_of_ble_eq_true rfl, Nat.le_of_ble_eq_true rfl⟩ (fun w H locs hp_1 hP hD hS => ?_)
  obtain ⟨zlv_2, hzl_3, rfl⟩ := hp_1
  have hP : va_P G.1 vwCl ((wV G (v) (a 0) (nv) (fr) (tt) (zlv_2) (ld) (gk) (ut)) ++ ((wZ G (a) (n) (cu) (bg) (M) (er) (us)))) H := hP
  have hD : va_D vA ((wV G (v) (a 0) (nv) (fr) (tt) (zlv_2) (ld) (gk) (ut)) ++ ((wZ G (a) (n) (cu) (bg) (M) (er) (us)))) := hD
  refine lv_aload_n hx hb dX4_fewestSet_4 rfl (lv_at hl 0 rfl) ?_
  refine nw_Vi (As := []) (rest := []) (q0 := 0) X (c_X4_allValves lc G (v) (nv) (fr) (tt) (zlv_2) (ld) (gk) (ut) (a) (n) (cu) (bg) (M) (er) (us) (by first | assumption | omega)) (cwV 0 hts gX4_fewestSet_X4_allValves rfl rfl rfl (by decide +kernel) ⟨Nat.le_of_ble_eq_true rfl, Nat.le_of_ble_eq_true rfl⟩) rfl (show vwCl[3]? = some (RX4, TX4, 8) from rfl) (nwSp.all ((wV G (v) (a 0) (nv) (fr) (tt) (zlv_2) (ld) (gk) (ut)) ++ ((wZ G (a) (n) (cu) (bg) (M) (er) (us))))) hP hD hS hA rfl hl.1 rfl (Nat.le_of_ble_eq_true rfl) dX4_fewestSet_5 ⟨Nat.le_of_ble_eq_true rfl, Nat.le_of_ble_eq_true rfl⟩ (fun r w H locs hp_4 hP hD hS => ?_)
  obtain ⟨rfl, rfl⟩ := hp_4
  have hP : va_P G.1 vwCl ((wV G (v) (a 0) (nv) (fr) (tt) (zlv_2) (ld) (gk) (ut)) ++ ((wZ G (a) (n) (cu) (bg) (M) (er) (us)))) H := hP
  have hD : va_D vA ((wV G (v) (a 0) (nv) (fr) (tt) (zlv_2) (ld) (gk) (ut)) ++ ((wZ G (a) (n) (cu) (bg) (M) (er) (us)))) := hD
  refine nw_top (y := nI (2 ^ nv - 1)) (pk_sub (a := 2 ^ nv) (b := 1) (by omega)) ?_
  refine lv_istore_n (lv' := [(1, .int (nI (2 ^ nv - 1))), (0, .ref (v 0))]) hx hb dX4_fewestSet_8 rfl hl (by decide) rfl (fun ls hl => ?_)
  refine lv_aload_n hx hb dX4_fewestSet_9 rfl (lv_at hl 1 rfl) ?_
  refine lv_iload_n hx hb dX4_fewestSet_10 rfl (lv_at hl 0 rfl) ?_
  refine nw_st (st' := [.int (nI (2 ^ nv - 1)), .ref (v 0)]) (by rfl) ?_
  refine nw_Vi (As := [.int (nI (2 ^ nv - 1))]) (rest := []) (q0 := 0) X (c_X4_isExplained lc G (v) (nv) (fr) (tt) (zlv_2) (ld) (gk) (ut) (a) (n) (cu) (bg) (M) (er) (us) (2 ^ nv - 1) (by first | assumption | omega) (by first | assumption | omega) (by first | assumption | omega) (by first | assumption | omega) (by omega)) (cwV 1 hts gX4_fewestSet_X4_isExplained rfl rfl rfl (by decide +kernel) ⟨Nat.le_of_ble_eq_true rfl, Nat.le_of_ble_eq_true rfl⟩) rfl (show vwCl[3]? = some (RX4, TX4, 8) from rfl) (nwSp.all ((wV G (v) (a 0) (nv) (fr) (tt) (zlv_2) (ld) (gk) (ut)) ++ ((wZ G (a) (n) (cu) (bg) (M) (er) (us))))) hP hD hS hA rfl hl.1 rfl (Nat.le_of_ble_eq_true rfl) dX4_fewestSet_11 ⟨Nat.le_of_ble_eq_true rfl, Nat.le_of_ble_eq_true rfl⟩ (fun r w H locs hp_5 hP hD hS => ?_)
  obtain ⟨gkv_6, utv_7, ⟨rfl, q_8⟩ | ⟨rfl, q_8⟩, rfl⟩ := hp_5
  · skip
    have hP : va_P G.1 vwCl ((wV G (v) (a 0) (nv) (fr) (tt) (zlv_2) (grF n fr tt (2 ^ nv - 1) ld nv) (gkv_6) (utv_7)) ++ ((wZ G (a) (n) (cu) (bg) (M) (er) (us)))) H := hP
    have hD : va_D vA ((wV G (v) (a 0) (nv) (fr) (tt) (zlv_2) (grF n fr tt (2 ^ nv - 1) ld nv) (gkv_6) (utv_7)) ++ ((wZ G (a) (n) (cu) (bg) (M) (er) (us)))) := hD
    have q_8 : expl (n) (grF (n) (fr) (tt) (2 ^ nv - 1) (ld) (nv)) (zlv_2) := q_8
    have hea : exF n nv fr tt (lk1 cu bg M er us) (2 ^ nv - 1) := exF_of hf hzl_3 q_8
    refine lv_if_ne (tgt := 19) hx hb dX4_fewestSet_14 (by decide) (fun _ => ?_) (fun c9 => absurd c9 (by decide))
    refine lv_iload_n hx hb dX4_fewestSet_19 rfl (lv_at hl 0 rfl) ?_
    refine lv_istore_n (lv' := [(2, .int (nI (2 ^ nv - 1))), (1, .int (nI (2 ^ nv - 1))), (0, .ref (v 0))]) hx hb dX4_fewestSet_20 rfl hl (by decide) rfl (fun ls hl => ?_)
    refine lv_iconst (v := (0)) hx hb dX4_fewestSet_21 (by decide) ?_
    refine lv_istore_n (lv' := [(3, .int (0)), (2, .int (nI (2 ^ nv - 1))), (1, .int (nI (2 ^ nv - 1))), (0, .ref (v 0))]) hx hb dX4_fewestSet_22 rfl hl (by decide) rfl (fun ls hl => ?_)
    have K23 : ∀ (fuel : Nat) (k : Nat) (b : Nat) (ldv : Nat → Nat) (gkv : Nat → Int32) (utv : Nat → Int32) (H : Heap) (locs : List Loc) (ls : Array Slot), (2 ^ nv - k) < fuel → (k ≤ 2 ^ nv - 1) → (∀ j, ldv j < 8) → (fwI (exF n nv fr tt (lk1 cu bg M er us)) nv k b) → lv_has ls 4 [(3, .int (nI (k))), (2, .int (nI (b))), (1, .int (nI (2 ^ nv - 1))), (0, .ref (v 0))] → va_P G.1 vwCl ((wV G (v) (a 0) (nv) (fr) (tt) (zlv_2) (ldv) (gkv) (utv)) ++ ((wZ G (a) (n) (cu) (bg) (M) (er) (us)))) H → va_D vA ((wV G (v) (a 0) (nv) (fr) (tt) (zlv_2) (ldv) (gkv) (utv)) ++ ((wZ G (a) (n) (cu) (bg) (M) (er) (us)))) → va_S vA vs.heap H locs → W vp lc ve ({ frames := 5, cells := 0, slots := 0, locals := 112 } : Room) vs vm ([.ref (v 0)] : List Value).toArray vb vt vc H locs 0 0 (MQ vb (nwQi G (fun r w => ∃ (zlv : Nat → Int32) (ldv : Nat → Nat) (gkv utv : Nat → Int32), (∀ j, ldv j < 8) ∧ r = fewF n nv fr tt (lk1 cu bg M er us) ∧ w = wV G v (a 0) (nv) (fr) (tt) (zlv) (ldv) (gkv) (utv) ++ wZ G a n cu bg M er us) vA) ([.ref (v 0)] : List Value).toArray vs ({ frames := 5, cells := 0, slots := 0, locals := 112 } : Room).cells ({ frames := 5, cells := 0, slots := 0, locals := 112 } : Room).slots vA) (F0 vm 23 ls []) := by
      intro fuel
      induction fuel with
      | zero => intro k b ldv gkv utv H locs ls hmu; exact absurd hmu (Nat.not_lt_zero _)
      | succ fuel ih23 =>
        intro k b ldv gkv utv H locs ls hmu hkk hldv hI hl hP hD hS
        have hbl := fwI_lt hI (by omega)
        refine lv_iload_n hx hb dX4_fewestSet_23 rfl (lv_at hl 0 rfl) ?_
        refine lv_iload_n hx hb dX4_fewestSet_24 rfl (lv_at hl 2 rfl) ?_
        refine lv_icmp_ge (tgt := 55) hx hb dX4_fewestSet_25 (by decide) (fun b25_10 => ?_) (fun b25_10 => ?_)
        · skip
          have b25_10 : (2 ^ nv - 1) ≤ (k) := (nI_leI (a := 2 ^ nv - 1) (b := k) (by omega) (by omega)).mp b25_10
          have b25_10n : ¬ ((k) < (2 ^ nv - 1)) := by omega
          refine lv_iload_n hx hb dX4_fewestSet_55 rfl (lv_at hl 1 rfl) ?_
          exact nw_iret (rm := ({ frames := 5, cells := 0, slots := 0, locals := 112 } : Room)) X hP hD hS (⟨_, _, _, _, hldv, fwI_end hnv (by rw [show 2 ^ nv - 1 = k by omega]; exact hI) hea, rfl⟩) dX4_fewestSet_56
        · skip
          have b25_10 : ¬ ((2 ^ nv - 1) ≤ (k)) := fun h => b25_10 ((nI_leI (a := 2 ^ nv - 1) (b := k) (by omega) (by omega)).mpr h)
          have b25_10n : (k) < (2 ^ nv - 1) := by omega
          refine lv_iload_n hx hb dX4_fewestSet_28 rfl (lv_at hl 0 rfl) ?_
          refine nw_st (st' := [.int (nI (k))]) (by rfl) ?_
          refine nw_Si (As := [.int (nI (k))]) (rest := []) X (c_J6_bitCount_0f7a4 lc G (k) (by first | assumption | omega)) (va_cwS 1 hts gX4_fewestSet_J6_bitCount_0f7a4 rfl rfl rfl (by decide +kernel) ⟨Nat.le_of_ble_eq_true rfl, Nat.le_of_ble_eq_true rfl⟩) (fun _ _ h => h.2) hP hD hS hA rfl hl.1 rfl (Nat.le_of_ble_eq_true rfl) dX4_fewestSet_29 ⟨Nat.le_of_ble_eq_true rfl, Nat.le_of_ble_eq_true rfl⟩ (fun r H locs hp_11 hP hD hS => ?_)
          obtain ⟨rfl, -⟩ := hp_11
          refine lv_iload_n hx hb dX4_fewestSet_32 rfl (lv_at hl 1 rfl) ?_
          refine nw_st (st' := [.int (nI (b)), .int (nI (popN (k)))]) (by rfl) ?_
          refine nw_Si (As := [.int (nI (b))]) (rest := [.int (nI (popN (k)))]) X (c_J6_bitCount_0f7a4 lc G (b) (by first | assumption | omega)) (va_cwS 1 hts gX4_fewestSet_J6_bitCount_0f7a4 rfl rfl rfl (by decide +kernel) ⟨Nat.le_of_ble_eq_true rfl, Nat.le_of_ble_eq_true rfl⟩) (fun _ _ h => h.2) hP hD hS hA rfl hl.1 rfl (Nat.le_of_ble_eq_true rfl) dX4_fewestSet_33 ⟨Nat.le_of_ble_eq_true rfl, Nat.le_of_ble_eq_true rfl⟩ (fun r H locs hp_12 hP hD hS => ?_)
          obtain ⟨rfl, -⟩ := hp_12
          have hpk : popN k ≤ nv := pw_le nv 13 k (by omega) (by omega)
          have hpb : popN b ≤ nv := pw_le nv 13 b (by omega) (by omega)
          refine lv_icmp_ge (tgt := 49) hx hb dX4_fewestSet_36 (by decide) (fun b36_13 => ?_) (fun b36_13 => ?_)
          · skip
            have b36_13 : (popN (b)) ≤ (popN (k)) := (nI_leI (a := popN (b)) (b := popN (k)) (by omega) (by omega)).mp b36_13
            have b36_13n : ¬ ((popN (k)) < (popN (b))) := by omega
            have hI2 := fwI_leave hnv hI (by omega) (Or.inl (by omega))
            refine lv_iinc (v := (nI (k + 1))) (lv' := [(3, .int (nI (k + 1))), (2, .int (nI (b))), (1, .int (nI (2 ^ nv - 1))), (0, .ref (v 0))]) hx hb dX4_fewestSet_49 hl (k := 0) rfl (by exact nI_add (k) 1) (by decide) rfl (fun ls hl => ?_)
            refine lv_goto (tgt := 23) hx hb dX4_fewestSet_52 (by decide) ?_
            exact ih23 (k + 1) (b) (ldv) (gkv) (utv) _ _ _ (by omega) (by omega) (by first | exact hldv | exact grF_b hn hldv nv) (by exact hI2) (lv_sub hl [0, 1, 2, 3] rfl) hP hD hS
          · skip
            have b36_13 : ¬ ((popN (b)) ≤ (popN (k))) := fun h => b36_13 ((nI_leI (a := popN (b)) (b := popN (k)) (by omega) (by omega)).mpr h)
            have b36_13n : (popN (k)) < (popN (b)) := by omega
            have hpp : popN k < popN b := by omega
            refine lv_aload_n hx hb dX4_fewestSet_39 rfl (lv_at hl 3 rfl) ?_
            refine lv_iload_n hx hb dX4_fewestSet_40 rfl (lv_at hl 0 rfl) ?_
            refine nw_st (st' := [.int (nI (k)), .ref (v 0)]) (by rfl) ?_
            refine nw_Vi (As := [.int (nI (k))]) (rest := []) (q0 := 0) X (c_X4_isExplained lc G (v) (nv) (fr) (tt) (zlv_2) (ldv) (gkv) (utv) (a) (n) (cu) (bg) (M) (er) (us) (k) (by first | assumption | omega) (by first | assumption | omega) (by first | assumption | omega) (by exact hldv) (by omega)) (cwV 1 hts gX4_fewestSet_X4_isExplained rfl rfl rfl (by decide +kernel) ⟨Nat.le_of_ble_eq_true rfl, Nat.le_of_ble_eq_true rfl⟩) rfl (show vwCl[3]? = some (RX4, TX4, 8) from rfl) (nwSp.all ((wV G (v) (a 0) (nv) (fr) (tt) (zlv_2) (ldv) (gkv) (utv)) ++ ((wZ G (a) (n) (cu) (bg) (M) (er) (us))))) hP hD hS hA rfl hl.1 rfl (Nat.le_of_ble_eq_true rfl) dX4_fewestSet_41 ⟨Nat.le_of_ble_eq_true rfl, Nat.le_of_ble_eq_true rfl⟩ (fun r w H locs hp_14 hP hD hS => ?_)
            obtain ⟨gkv_15, utv_16, ⟨rfl, q_17⟩ | ⟨rfl, q_17⟩, rfl⟩ := hp_14
            · skip
              have hP : va_P G.1 vwCl ((wV G (v) (a 0) (nv) (fr) (tt) (zlv_2) (grF n fr tt k ldv nv) (gkv_15) (utv_16)) ++ ((wZ G (a) (n) (cu) (bg) (M) (er) (us)))) H := hP
              have hD : va_D vA ((wV G (v) (a 0) (nv) (fr) (tt) (zlv_2) (grF n fr tt k ldv nv) (gkv_15) (utv_16)) ++ ((wZ G (a) (n) (cu) (bg) (M) (er) (us)))) := hD
              have q_17 : expl (n) (grF (n) (fr) (tt) (k) (ldv) (nv)) (zlv_2) := q_17
              have hek : exF n nv fr tt (lk1 cu bg M er us) k := exF_of hf hzl_3 q_17
              have hI2 := fwI_take hI hpp hek
              refine lv_if_eq (tgt := 49) hx hb dX4_fewestSet_44 (by decide) (fun c9 => absurd c9 (by decide)) (fun _ => ?_)
              refine lv_iload_n hx hb dX4_fewestSet_47 rfl (lv_at hl 0 rfl) ?_
              refine lv_istore_n (lv' := [(2, .int (nI (k))), (3, .int (nI (k))), (1, .int (nI (2 ^ nv - 1))), (0, .ref (v 0))]) hx hb dX4_fewestSet_48 rfl hl (by decide) rfl (fun ls hl => ?_)
              refine lv_iinc (v := (nI (k + 1))) (lv' := [(3, .int (nI (k + 1))), (2, .int (nI (k))), (1, .int (nI (2 ^ nv - 1))), (0, .ref (v 0))]) hx hb dX4_fewestSet_49 hl (k := 1) rfl (by exact nI_add (k) 1) (by decide) rfl (fun ls hl => ?_)
              refine lv_goto (tgt := 23) hx hb dX4_fewestSet_52 (by decide) ?_
              exact ih23 (k + 1) (k) (grF n fr tt k ldv nv) (gkv_15) (utv_16) _ _ _ (by omega) (by omega) (by first | exact hldv | exact grF_b hn hldv nv) (by exact hI2) (lv_sub hl [0, 1, 2, 3] rfl) hP hD hS
            · skip
              have hP : va_P G.1 vwCl ((wV G (v) (a 0) (nv) (fr) (tt) (zlv_2) (grF n fr tt k ldv nv) (gkv_15) (utv_16)) ++ ((wZ G (a) (n) (cu) (bg) (M) (er) (us)))) H := hP
              have hD : va_D vA ((wV G (v) (a 0) (nv) (fr) (tt) (zlv_2) (grF n fr tt k ldv nv) (gkv_15) (utv_16)) ++ ((wZ G (a) (n) (cu) (bg) (M) (er) (us)))) := hD
              have q_17 : ¬ expl (n) (grF (n) (fr) (tt) (k) (ldv) (nv)) (zlv_2) := q_17
              have hek : ¬ exF n nv fr tt (lk1 cu bg M er us) k := fun h9 => q_17 (exF_to hf hzl_3 h9)
              have hI2 := fwI_leave hnv hI (by omega) (Or.inr hek)
              refine lv_if_eq (tgt := 49) hx hb dX4_fewestSet_44 (by decide) (fun _ => ?_) (fun c9 => absurd (by decide) c9)
              refine lv_iinc (v := (nI (k + 1))) (lv' := [(3, .int (nI (k + 1))), (2, .int (nI (b))), (1, .int (nI (2 ^ nv - 1))), (0, .ref (v 0))]) hx hb dX4_fewestSet_49 hl (k := 0) rfl (by exact nI_add (k) 1) (by decide) rfl (fun ls hl => ?_)
              refine lv_goto (tgt := 23) hx hb dX4_fewestSet_52 (by decide) ?_
              exact ih23 (k + 1) (b) (grF n fr tt k ldv nv) (gkv_15) (utv_16) _ _ _ (by omega) (by omega) (by first | exact hldv | exact grF_b hn hldv nv) (by exact hI2) (lv_sub hl [0, 1, 2, 3] rfl) hP hD hS
    exact K23 ((2 ^ nv - (0)) + 1) (0) (2 ^ nv - 1) (grF n fr tt (2 ^ nv - 1) ld nv) (gkv_6) (utv_7) _ _ _ (Nat.lt_succ_self _) (by omega) (by exact grF_b hn hld nv) (by exact Or.inl ⟨rfl, rfl⟩) (lv_sub hl [0, 1, 2, 3] rfl) hP hD hS
  · skip
    have hP : va_P G.1 vwCl ((wV G (v) (a 0) (nv) (fr) (tt) (zlv_2) (grF n fr tt (2 ^ nv - 1) ld nv) (gkv_6) (utv_7)) ++ ((wZ G (a) (n) (cu) (bg) (M) (er) (us)))) H := hP
    have hD : va_D vA ((wV G (v) (a 0) (nv) (fr) (tt) (zlv_2) (grF n fr tt (2 ^ nv - 1) ld nv) (gkv_6) (utv_7)) ++ ((wZ G (a) (n) (cu) (bg) (M) (er) (us)))) := hD
    have q_8 : ¬ expl (n) (grF (n) (fr) (tt) (2 ^ nv - 1) (ld) (nv)) (zlv_2) := q_8
    have hea : ¬ exF n nv fr tt (lk1 cu bg M er us) (2 ^ nv - 1) := fun h9 => q_8 (exF_to hf hzl_3 h9)
    refine lv_if_ne (tgt := 19) hx hb dX4_fewestSet_14 (by decide) (fun c9 => absurd c9 (by decide)) (fun _ => ?_)
    refine lv_iconst (v := (-1)) hx hb dX4_fewestSet_17 (by decide) ?_
    exact nw_iret (rm := ({ frames := 5, cells := 0, slots := 0, locals := 112 } : Room)) X hP hD hS (⟨_, _, _, _, grF_b hn hld nv, (fewF_none hn hf hbd hea).symm, rfl⟩) dX4_fewestSet_18
