/-! The law from its entry. -/
theorem in_L_X6 : ∀ w ∈ wsX60, w ∈ wsL_law := fun _ h => List.mem_append_left _ (List.mem_append_left _ (List.mem_append_left _ (List.mem_append_left _ (List.mem_append_left _ (List.mem_append_left _ (List.mem_append_left _ (List.mem_append_right _ h)))))))
theorem in_L_X7 : ∀ w ∈ wsX70, w ∈ wsL_law := fun _ h => List.mem_append_left _ (List.mem_append_left _ (List.mem_append_left _ (List.mem_append_left _ (List.mem_append_left _ (List.mem_append_left _ (List.mem_append_right _ h))))))
theorem coF0 : coF (fun _ _ => 0) = fun _ => 0 := by
  funext j
  unfold coF
  split <;> rfl
theorem goF0 : goF (fun _ _ => 0) = fun _ => 0 := by
  funext j
  unfold goF
  split <;> rfl
theorem hdF0 : hdF2 (fun _ _ => 0) = fun _ => 0 := by
  funext j
  unfold hdF2
  split <;> rfl
theorem nest_in : ∀ q ∈ nwNest, Cond.methodLinkNest q.1 q.2.1 q.2.2.1 q.2.2.2 ∈ lw_tbl := by decide +kernel
theorem nw_start {s : State} {args : Array Value} (hts : ∀ w ∈ lw_tbl, w.before args s = true) : ∃ G : nwG, nwK G s := by
  obtain ⟨c0, i0, k0⟩ := u_known (C := RX0) (T := TX0) (N := 4) (n := 4) hts inX0 (hts (.instantiable RX0 4) (by decide +kernel))
  obtain ⟨c1, i1, k1⟩ := u_known (C := RX1) (T := TX1) (N := 1) (n := 1) hts inX1 (hts (.instantiable RX1 1) (by decide +kernel))
  obtain ⟨c2, i2, k2⟩ := u_known (C := RX3) (T := TX3) (N := 4) (n := 4) hts inX3 (hts (.instantiable RX3 4) (by decide +kernel))
  obtain ⟨c3, i3, k3⟩ := u_known (C := RX4) (T := TX4) (N := 8) (n := 8) hts inX4 (hts (.instantiable RX4 8) (by decide +kernel))
  obtain ⟨c4, i4, k4⟩ := u_known (C := RX5) (T := TX5) (N := 7) (n := 7) hts inX5 (hts (.instantiable RX5 7) (by decide +kernel))
  obtain ⟨c5, i5, k5⟩ := u_known (C := RX6) (T := TX6) (N := 5) (n := 5) hts inX6 (hts (.instantiable RX6 5) (by decide +kernel))
  obtain ⟨c6, i6, k6⟩ := u_known (C := RX7) (T := TX7) (N := 23) (n := 23) hts inX7 (hts (.instantiable RX7 23) (by decide +kernel))
  obtain ⟨cI, kI, mI, fI, hI, eI⟩ := Cond.arrayClass_spec (hts (.arrayClass .int) (by decide +kernel))
  obtain ⟨cZ, kZ, mZ, fZ9, hZ, eZ⟩ := Cond.arrayClass_spec (hts (.arrayClass .boolean) (by decide +kernel))
  have hover : va_AOA .int s := hts (.arrayOver (.array .int)) (by decide +kernel)
  obtain ⟨mA, cA, kA, -, hA, eA, fA⟩ := Cond.arrayOver_specA (hts (.arrayOver (.array .int)) (by decide +kernel))
  refine ⟨((fun k => match k with | 0 => c0 | 1 => c1 | 2 => c2 | 3 => c3 | 4 => c4 | 5 => c5 | _ => c6, fun k => match k with | 0 => i0 | 1 => i1 | 2 => i2 | 3 => i3 | 4 => i4 | 5 => i5 | _ => i6), cI, cZ, cA), ⟨fun k q hq => ?_, fun k q hq => ?_⟩, fun q hq => va_Nw.of rfl (hts _ (nest_in q hq)), hover⟩
  · match k, hq with
    | 0, hq => cases hq; exact k0
    | 1, hq => cases hq; exact k1
    | 2, hq => cases hq; exact k2
    | 3, hq => cases hq; exact k3
    | 4, hq => cases hq; exact k4
    | 5, hq => cases hq; exact k5
    | 6, hq => cases hq; exact k6
    | k + 7, hq => simp [vwCl] at hq
  · match k, hq with
    | 0, hq => cases hq; exact ⟨fun n z => ⟨(fun k h => (by cases h)), kI, hI, mI, eI⟩, fI⟩
    | 1, hq => cases hq; exact ⟨fun n z => ⟨(fun k h => (by cases h)), kZ, hZ, mZ, eZ⟩, fZ9⟩
    | 2, hq => cases hq; exact ⟨fun n z => ⟨(fun k h => (by cases h)), kA, hA, mA, eA⟩, fA⟩
    | k + 3, hq => simp [nwTys] at hq
theorem lwI_0 {Mv : Nat → Nat → Int32} (hM : plOk (fun _ => 0) 1 Mv) : lwI 0 (fun _ => 0) (fun _ => 0) (fun _ => 0) 0 (fun _ => 0) (fun _ => 0) (fun _ _ => 0) 20 2 1 (fun _ => 0) Mv 0 (fun _ => 0) (fun _ => 0) (fun _ => 0) (fun _ => 0) (fun _ => 0) := by
  have h8 : (0 : Nat) < 8 := by decide
  have hK : (0 : Nat) ≤ 1000 := by decide
  have ho : ¬ out (0 : Int32) 0 20000 := by unfold out; decide
  exact ⟨by omega, by omega, fun i hi => absurd hi (Nat.not_lt_zero i), fun _ => h8, fun _ => h8, ⟨fun _ _ => Or.inr ho, by unfold out; decide, fun z hz => absurd hz (Nat.not_lt_zero z)⟩, by omega, by omega, fun _ => hK, fun _ _ => rfl, hM, by omega, fun _ => h8, fun _ => h8, fun j hj => absurd hj (Nat.not_lt_zero j)⟩
set_option maxHeartbeats 4000000 in
set_option maxRecDepth 100000 in
theorem law_start {p : Program} {ve : Env} {s : State} {m : MethodId} {below : List Frame} {meth : Method} {c : Code} (lc : Launch) {sb L : Nat} {xs : Nat → Int32} {args : Array Value} {Q : State → Prop} {ls : Array Slot} {nm : String} {G : nwG} (X : nwAt p m c cL_law 4 s args wsL_law RL meth (some .boolean) nm G) (hsX : va_X sb L xs s s.heap) (hsb : sb < s.heap.size) (hL : L ≤ 2560) (hl : lv_has ls 4 [(0, .ref sb)])
    (hEnd : ∀ (H : Heap) (locs : List Loc) (ls : Array Slot), va_S (fun q : Nat => s.heap.size ≤ q) s.heap H locs → W p lc ve room_1 s m args below meth c H locs 80 1886 Q (F0 m 972 ls [])) : W p lc ve room_1 s m args below meth c s.heap [] 0 0 Q (F0 m 0 ls []) := by
  have hx := X.1.1
  have hb := X.1.2.1
  have hown := X.1.2.2.2.1
  have hts := X.1.2.2.2.2
  have hK := X.2.2.2.2
  have hA : ∀ q : Nat, s.heap.size ≤ q → (fun q : Nat => s.heap.size ≤ q) q := fun _ h => h
  have hsA : ¬ (fun q : Nat => s.heap.size ≤ q) sb := Nat.not_le.mpr hsb
  have hS : va_S (fun q : Nat => s.heap.size ≤ q) s.heap s.heap [] := va_S.rf
  have hP : va_P G.1 vwCl [] s.heap := fun k q h => by simp at h
  have hD : va_D (fun q : Nat => s.heap.size ≤ q) [] := ⟨fun i j p q h => by simp at h, fun k q h => by simp at h⟩
  refine va_new (ci := 5) (fs := [.null, .null, .null, .null, .null]) (C := RX6) (T := TX6) (N := 5) hx hb hts in_L_X6 tyX6 tyX6_ok hown (hts (.classLink RL 7 RX6) (List.mem_of_getElem? (i := 0) rfl)) (hts (.instantiable RX6 5) (List.mem_of_getElem? (i := 1) rfl)) (hts (.initialized RX6) (List.mem_of_getElem? (i := 2) rfl)) hK.1 hP hD hS hA rfl (fun j hj => by
      match j, hj with
      | 0, _ => rfl
      | 1, _ => rfl
      | 2, _ => rfl
      | 3, _ => rfl
      | 4, _ => rfl
      | k + 5, h => exact absurd h (by omega)) (Nat.le_of_ble_eq_true rfl) (Nat.le_of_ble_eq_true rfl) dL_law_0 (fun q6 H hP hD hS => ?_)
  refine lv_dup hx hb dL_law_3 rfl ?_
  refine nw_Iv (As := []) (rest := [.ref q6]) X (c_X6_init lc G q6) (cwI 0 hts gL_law_X6_init rfl rfl rfl (hts (.initialized RX6) (List.mem_of_getElem? (i := 2) rfl)) (hts (.methodLink RL 9 yX6_init) (List.mem_of_getElem? (i := 6) rfl)) (hts (.instanceMethod yX6_init) (List.mem_of_getElem? (i := 7) rfl)) rfl (by decide +kernel) ⟨(Nat.le_of_ble_eq_true rfl), (Nat.le_of_ble_eq_true rfl)⟩) (nwSp.all [(q6, .inr (5, [.null, .null, .null, .null, .null]))]) hP hD hS hA rfl hl.1 rfl (Nat.le_of_ble_eq_true rfl) dL_law_4 ⟨(Nat.le_of_ble_eq_true rfl), (Nat.le_of_ble_eq_true rfl)⟩ (fun w H locs hp hP hD hS => ?_)
  obtain ⟨z, v, li, st, d, Mv, hMv, rfl⟩ := hp
  have hP : va_P G.1 vwCl (wN q6 (z 0) (v 0) (li 0) (st 0) (d 0) ++ (wV G v (z 0) 0 (fun _ => 0) (fun _ => 0) (fun _ => 0) (fun _ => 0) (fun _ => 0) (fun _ => 0) ++ (wZ G z 0 (fun _ => 0) (fun _ => 0) (fun _ _ => 0) 20 2 ++ (wL G li (fun _ _ => 0) ++ (wS G st 1 (fun _ => 0) Mv ++ wD G d 0 (fun _ => 0) (fun _ => 0) (fun _ => 0)))))) H := hP
  have hD : va_D (fun q : Nat => s.heap.size ≤ q) (wN q6 (z 0) (v 0) (li 0) (st 0) (d 0) ++ (wV G v (z 0) 0 (fun _ => 0) (fun _ => 0) (fun _ => 0) (fun _ => 0) (fun _ => 0) (fun _ => 0) ++ (wZ G z 0 (fun _ => 0) (fun _ => 0) (fun _ _ => 0) 20 2 ++ (wL G li (fun _ _ => 0) ++ (wS G st 1 (fun _ => 0) Mv ++ wD G d 0 (fun _ => 0) (fun _ => 0) (fun _ => 0)))))) := hD
  refine lv_astore_n (lv' := [(1, .ref q6), (0, .ref sb)]) hx hb dL_law_7 rfl hl (by decide) rfl (fun ls hl => ?_)
  refine va_new (ci := 6) (fs := [.int (0), .null, .null, .null, .null, .int (0), .int (0), .int (0), .int (0), .int (0), .int (0), .null, .null, .null, .null, .int (0), .null, .null, .null, .int (0), .null, .null, .null]) (C := RX7) (T := TX7) (N := 23) hx hb hts in_L_X7 tyX7 tyX7_ok hown (hts (.classLink RL 10 RX7) (List.mem_of_getElem? (i := 3) rfl)) (hts (.instantiable RX7 23) (List.mem_of_getElem? (i := 4) rfl)) (hts (.initialized RX7) (List.mem_of_getElem? (i := 5) rfl)) hK.1 hP hD hS hA rfl (fun j hj => by
      match j, hj with
      | 0, _ => rfl
      | 1, _ => rfl
      | 2, _ => rfl
      | 3, _ => rfl
      | 4, _ => rfl
      | 5, _ => rfl
      | 6, _ => rfl
      | 7, _ => rfl
      | 8, _ => rfl
      | 9, _ => rfl
      | 10, _ => rfl
      | 11, _ => rfl
      | 12, _ => rfl
      | 13, _ => rfl
      | 14, _ => rfl
      | 15, _ => rfl
      | 16, _ => rfl
      | 17, _ => rfl
      | 18, _ => rfl
      | 19, _ => rfl
      | 20, _ => rfl
      | 21, _ => rfl
      | 22, _ => rfl
      | k + 23, h => exact absurd h (by omega)) (Nat.le_of_ble_eq_true rfl) (Nat.le_of_ble_eq_true rfl) dL_law_8 (fun q7 H hP hD hS => ?_)
  refine lv_dup hx hb dL_law_11 rfl ?_
  refine nw_Iv (As := []) (rest := [.ref q7]) X (c_X7_init lc G q7) (cwI 0 hts gL_law_X7_init rfl rfl rfl (hts (.initialized RX7) (List.mem_of_getElem? (i := 5) rfl)) (hts (.methodLink RL 12 yX7_init) (List.mem_of_getElem? (i := 90) rfl)) (hts (.instanceMethod yX7_init) (List.mem_of_getElem? (i := 91) rfl)) rfl (by decide +kernel) ⟨(Nat.le_of_ble_eq_true rfl), (Nat.le_of_ble_eq_true rfl)⟩) (nwSp.suf (wN q6 (z 0) (v 0) (li 0) (st 0) (d 0) ++ (wV G v (z 0) 0 (fun _ => 0) (fun _ => 0) (fun _ => 0) (fun _ => 0) (fun _ => 0) (fun _ => 0) ++ (wZ G z 0 (fun _ => 0) (fun _ => 0) (fun _ _ => 0) 20 2 ++ (wL G li (fun _ _ => 0) ++ (wS G st 1 (fun _ => 0) Mv ++ wD G d 0 (fun _ => 0) (fun _ => 0) (fun _ => 0)))))) [(q7, .inr (6, [.int (0), .null, .null, .null, .null, .int (0), .int (0), .int (0), .int (0), .int (0), .int (0), .null, .null, .null, .null, .int (0), .null, .null, .null, .int (0), .null, .null, .null]))]) hP hD hS hA rfl hl.1 rfl (Nat.le_of_ble_eq_true rfl) dL_law_12 ⟨(Nat.le_of_ble_eq_true rfl), (Nat.le_of_ble_eq_true rfl)⟩ (fun w H locs hp hP9 hD9 hS9 => ?_)
  obtain ⟨a, ha0, rfl⟩ := hp
  subst ha0
  have hP := hP9
  have hD := hD9
  have hS := hS9
  have hP : va_P G.1 vwCl ((wN q6 (z 0) (v 0) (li 0) (st 0) (d 0) ++ (wV G v (z 0) 0 (fun _ => 0) (fun _ => 0) (fun _ => 0) (fun _ => 0) (fun _ => 0) (fun _ => 0) ++ (wZ G z 0 (fun _ => 0) (fun _ => 0) (fun _ _ => 0) 20 2 ++ (wL G li (fun _ _ => 0) ++ (wS G st 1 (fun _ => 0) Mv ++ wD G d 0 (fun _ => 0) (fun _ => 0) (fun _ => 0)))))) ++ wM G a 0 (fun _ => 0) (fun _ => 0) (fun _ => 0) (fun _ => 0) 20 2 0 0 0 0 (fun _ => 0) (fun _ => 0) (fun _ => 0) (fun _ => 0) 1 (fun _ => 0) (fun _ => 0) (fun _ => 0) 0 (fun _ => 0) (fun _ => 0) (fun _ => 0)) H := hP
  have hD : va_D (fun q : Nat => s.heap.size ≤ q) ((wN q6 (z 0) (v 0) (li 0) (st 0) (d 0) ++ (wV G v (z 0) 0 (fun _ => 0) (fun _ => 0) (fun _ => 0) (fun _ => 0) (fun _ => 0) (fun _ => 0) ++ (wZ G z 0 (fun _ => 0) (fun _ => 0) (fun _ _ => 0) 20 2 ++ (wL G li (fun _ _ => 0) ++ (wS G st 1 (fun _ => 0) Mv ++ wD G d 0 (fun _ => 0) (fun _ => 0) (fun _ => 0)))))) ++ wM G a 0 (fun _ => 0) (fun _ => 0) (fun _ => 0) (fun _ => 0) 20 2 0 0 0 0 (fun _ => 0) (fun _ => 0) (fun _ => 0) (fun _ => 0) 1 (fun _ => 0) (fun _ => 0) (fun _ => 0) 0 (fun _ => 0) (fun _ => 0) (fun _ => 0)) := hD
  have ew : (wN q6 (z 0) (v 0) (li 0) (st 0) (d 0) ++ (wV G v (z 0) 0 (fun _ => 0) (fun _ => 0) (fun _ => 0) (fun _ => 0) (fun _ => 0) (fun _ => 0) ++ (wZ G z 0 (fun _ => 0) (fun _ => 0) (fun _ _ => 0) 20 2 ++ (wL G li (fun _ _ => 0) ++ (wS G st 1 (fun _ => 0) Mv ++ wD G d 0 (fun _ => 0) (fun _ => 0) (fun _ => 0)))))) ++ wM G a 0 (fun _ => 0) (fun _ => 0) (fun _ => 0) (fun _ => 0) 20 2 0 0 0 0 (fun _ => 0) (fun _ => 0) (fun _ => 0) (fun _ => 0) 1 (fun _ => 0) (fun _ => 0) (fun _ => 0) 0 (fun _ => 0) (fun _ => 0) (fun _ => 0) = lwW G q6 z v li st d a 0 (fun _ => 0) (fun _ => 0) (fun _ => 0) (fun _ => 0) (fun _ => 0) (fun _ => 0) 0 (fun _ => 0) (fun _ => 0) (fun _ _ => 0) 20 2 (fun _ _ => 0) 1 (fun _ => 0) Mv 0 (fun _ => 0) (fun _ => 0) (fun _ => 0) 0 0 0 (fun _ => 0) (fun _ => 0) (fun _ => 0) (fun _ => 0) := by
    unfold lwW
    rw [coF0, goF0, hdF0]
    simp only [List.append_assoc]
  rw [ew] at hP hD
  refine lv_astore_n (lv' := [(2, .ref (a 0)), (1, .ref q6), (0, .ref sb)]) hx hb dL_law_15 rfl hl (by decide) rfl (fun ls hl => ?_)
  refine lv_iconst (v := (0)) hx hb dL_law_16 (by decide) ?_
  refine lv_istore_n (lv' := [(3, .int (nI 0)), (2, .ref (a 0)), (1, .ref q6), (0, .ref sb)]) hx hb dL_law_17 rfl hl (by decide) rfl (fun ls hl => ?_)
  exact law_loop X hA hsX hsb hsA hL hEnd (L + 2) 0 (by omega) (by omega) 0 (fun _ => 0) (fun _ => 0) (fun _ => 0) (fun _ => 0) (fun _ => 0) (fun _ => 0) 0 (fun _ => 0) (fun _ => 0) (fun _ _ => 0) 20 2 (fun _ _ => 0) 1 (fun _ => 0) Mv 0 (fun _ => 0) (fun _ => 0) (fun _ => 0) 0 0 0 (fun _ => 0) (fun _ => 0) (fun _ => 0) (fun _ => 0) _ _ _ (lwI_0 hMv) hl hP hD hS
