/-! printed by wip/gen/x10c.py: contracts, walked row by row -/
set_option maxHeartbeats 4000000 in
set_option maxRecDepth 100000 in
theorem law_11 {G : nwG} {b sb : Nat} {z v li st d a : Nat → Nat} {k L : Nat} {xs : Nat → Int32} {vp : Program} {lc : Launch} {ve : Env} {vs : State} {vm : MethodId} {args : Array Value} {vb : List Frame} {vt : Method} {vc : Code} {vA : Nat → Prop} {Q : State → Prop} {nm : String} (X : nwAt vp vm vc cL_law 4 vs args wsL_law RL vt (some .boolean) nm G) (hA : ∀ q, vs.heap.size ≤ q → vA q) (hsX : va_X sb L xs vs vs.heap) (hsb : sb < vs.heap.size) (hsA : ¬ vA sb) (hkL : k + 5 ≤ L) (hL : L ≤ 2560) {p1 p2 p3 p4 : Int32} (e1 : xs (k + 1) = p1) (e2 : xs (k + 2) = p2) (e3 : xs (k + 3) = p3) (e4 : xs (k + 4) = p4) (hK9 : lwK G b sb z v li st d a k vp lc ve vs vm args vb vt vc vA Q) (nv : Nat) (fr tt : Nat → Nat) (zl : Nat → Int32) (ld : Nat → Nat) (gk ut : Nat → Int32) (n : Nat) (cu bg : Nat → Int32) (M : Nat → Nat → Int32) (er us : Int32) (ML : Nat → Nat → Int32) (ns : Nat) (w : Nat → Nat) (MS : Nat → Nat → Int32) (nd : Nat) (lo ho : Nat → Int32) (rk : Nat → Nat) (ll lm lh : Int32) (gr : Nat → Nat) (cs cl : Nat → Int32) (so : Nat → Nat) (hI : lwI nv fr tt ld n cu bg M er us ns w MS nd lo ho rk gr so) (H : Heap) (locs : List Loc) (ls : Array Slot) (hl : lv_has ls 4 [(3, .int (nI k)), (2, .ref (a 0)), (1, .ref b), (0, .ref sb)]) (hP : va_P G.1 vwCl (lwW G b z v li st d a nv fr tt zl ld gk ut n cu bg M er us ML ns w MS nd lo ho rk ll lm lh gr cs cl so) H) (hD : va_D vA (lwW G b z v li st d a nv fr tt zl ld gk ut n cu bg M er us ML ns w MS nd lo ho rk ll lm lh gr cs cl so)) (hS : va_S vA vs.heap H locs) : W vp lc ve room_1 vs vm args vb vt vc H locs 80 1886 Q (F0 vm 547 ls []) := by
  have hx := X.1.1
  have hb := X.1.2.1
  have hown := X.1.2.2.2.1
  have hts := X.1.2.2.2.2
  have hK := X.2.2.2.2
  obtain ⟨hn, hnv, hf, hld, hgr, hsB, hn1, hn12, hw, hw0, hpl, hnd, hrk, hso, hrs⟩ := id hI
  have hso9 := hso
  have hP : va_P G.1 vwCl ((wN (b) (z 0) (v 0) (li 0) (st 0) (d 0)) ++ ((wV G (v) (z 0) (nv) (fr) (tt) (zl) (ld) (gk) (ut)) ++ ((wZ G (z) (n) (cu) (bg) (M) (er) (us)) ++ ((wL G (li) (ML)) ++ ((wS G (st) (ns) (w) (MS)) ++ ((wD G (d) (nd) (lo) (ho) (rk)) ++ ((wM G (a) (n) (cu) (bg) ((coF M)) ((goF M)) (er) (us) (ll) (lm) (lh) (nv) (fr) (tt) (gr) ((hdF2 ML)) (ns) (w) (cs) (cl) (nd) (lo) (ho) (so))))))))) H := hP
  have hD : va_D vA ((wN (b) (z 0) (v 0) (li 0) (st 0) (d 0)) ++ ((wV G (v) (z 0) (nv) (fr) (tt) (zl) (ld) (gk) (ut)) ++ ((wZ G (z) (n) (cu) (bg) (M) (er) (us)) ++ ((wL G (li) (ML)) ++ ((wS G (st) (ns) (w) (MS)) ++ ((wD G (d) (nd) (lo) (ho) (rk)) ++ ((wM G (a) (n) (cu) (bg) ((coF M)) ((goF M)) (er) (us) (ll) (lm) (lh) (nv) (fr) (tt) (gr) ((hdF2 ML)) (ns) (w) (cs) (cl) (nd) (lo) (ho) (so))))))))) := hD
  refine lv_aload_n hx hb dL_law_547 rfl (lv_at hl 2 rfl) ?_
  refine lv_aload_n hx hb dL_law_548 rfl (lv_at hl 3 rfl) ?_
  refine lv_iload_n hx hb dL_law_549 rfl (lv_at hl 0 rfl) ?_
  refine lv_iconst (v := (1)) hx hb dL_law_550 (by decide) ?_
  refine lv_iadd hx hb dL_law_551 ?_
  refine nw_top (y := nI (k + 1)) (nI_add (k) (1)) ?_
  refine nw_sld hx hb hsX hsb hsA hS (k := k + 1) (by omega) (by omega) p1 e1 dL_law_552 ?_
  refine lv_aload_n hx hb dL_law_553 rfl (lv_at hl 3 rfl) ?_
  refine lv_iload_n hx hb dL_law_554 rfl (lv_at hl 0 rfl) ?_
  refine lv_iconst (v := (2)) hx hb dL_law_555 (by decide) ?_
  refine lv_iadd hx hb dL_law_556 ?_
  refine nw_top (y := nI (k + 2)) (nI_add (k) (2)) ?_
  refine nw_sld hx hb hsX hsb hsA hS (k := k + 2) (by omega) (by omega) p2 e2 dL_law_557 ?_
  refine nw_Vi (As := [.int (p1), .int (p2)]) (rest := []) (q0 := 0) X (c_X6_sum lc G (b) (v) (z) (li) (st) (d) (nv) (fr) (tt) (zl) (ld) (gk) (ut) (n) (cu) (bg) (M) (er) (us) (ML) (ns) (w) (MS) (nd) (lo) (ho) (rk) ((p1)) ((p2)) ) (cwV 2 hts gL_law_X6_sum rfl rfl rfl (by decide +kernel) ⟨Nat.le_of_ble_eq_true rfl, Nat.le_of_ble_eq_true rfl⟩) rfl (show vwCl[5]? = some (RX6, TX6, 5) from rfl) (nwSp.gen ([]) ((wN (b) (z 0) (v 0) (li 0) (st 0) (d 0)) ++ ((wV G (v) (z 0) (nv) (fr) (tt) (zl) (ld) (gk) (ut)) ++ ((wZ G (z) (n) (cu) (bg) (M) (er) (us)) ++ ((wL G (li) (ML)) ++ ((wS G (st) (ns) (w) (MS)) ++ ((wD G (d) (nd) (lo) (ho) (rk)))))))) ((wM G (a) (n) (cu) (bg) ((coF M)) ((goF M)) (er) (us) (ll) (lm) (lh) (nv) (fr) (tt) (gr) ((hdF2 ML)) (ns) (w) (cs) (cl) (nd) (lo) (ho) (so))) (f := fun q9 => q9 ++ ((wM G (a) (n) (cu) (bg) ((coF M)) ((goF M)) (er) (us) (ll) (lm) (lh) (nv) (fr) (tt) (gr) ((hdF2 ML)) (ns) (w) (cs) (cl) (nd) (lo) (ho) (so)))) (by simp only [List.append_assoc, List.nil_append, List.append_nil]) (fun q9 => by simp only [List.append_assoc, List.nil_append, List.append_nil])) hP hD hS hA rfl hl.1 rfl (Nat.le_of_ble_eq_true rfl) dL_law_558 ⟨Nat.le_of_ble_eq_true rfl, Nat.le_of_ble_eq_true rfl⟩ (fun r w H locs hp_1 hP hD hS => ?_)
  obtain ⟨rfl, rfl⟩ := hp_1
  simp only [List.append_assoc] at hP hD
  have hP : va_P G.1 vwCl ((wN (b) (z 0) (v 0) (li 0) (st 0) (d 0)) ++ ((wV G (v) (z 0) (nv) (fr) (tt) (zl) (ld) (gk) (ut)) ++ ((wZ G (z) (n) (cu) (bg) (M) (er) (us)) ++ ((wL G (li) (ML)) ++ ((wS G (st) (ns) (w) (MS)) ++ ((wD G (d) (nd) (lo) (ho) (rk)) ++ ((wM G (a) (n) (cu) (bg) ((coF M)) ((goF M)) (er) (us) (ll) (lm) (lh) (nv) (fr) (tt) (gr) ((hdF2 ML)) (ns) (w) (cs) (cl) (nd) (lo) (ho) (so))))))))) H := hP
  have hD : va_D vA ((wN (b) (z 0) (v 0) (li 0) (st 0) (d 0)) ++ ((wV G (v) (z 0) (nv) (fr) (tt) (zl) (ld) (gk) (ut)) ++ ((wZ G (z) (n) (cu) (bg) (M) (er) (us)) ++ ((wL G (li) (ML)) ++ ((wS G (st) (ns) (w) (MS)) ++ ((wD G (d) (nd) (lo) (ho) (rk)) ++ ((wM G (a) (n) (cu) (bg) ((coF M)) ((goF M)) (er) (us) (ll) (lm) (lh) (nv) (fr) (tt) (gr) ((hdF2 ML)) (ns) (w) (cs) (cl) (nd) (lo) (ho) (so))))))))) := hD
  refine lv_aload_n hx hb dL_law_561 rfl (lv_at hl 1 rfl) ?_
  refine lv_aload_n hx hb dL_law_562 rfl (lv_at hl 3 rfl) ?_
  refine lv_iload_n hx hb dL_law_563 rfl (lv_at hl 0 rfl) ?_
  refine lv_iconst (v := (1)) hx hb dL_law_564 (by decide) ?_
  refine lv_iadd hx hb dL_law_565 ?_
  refine nw_top (y := nI (k + 1)) (nI_add (k) (1)) ?_
  refine nw_sld hx hb hsX hsb hsA hS (k := k + 1) (by omega) (by omega) p1 e1 dL_law_566 ?_
  refine lv_aload_n hx hb dL_law_567 rfl (lv_at hl 3 rfl) ?_
  refine lv_iload_n hx hb dL_law_568 rfl (lv_at hl 0 rfl) ?_
  refine lv_iconst (v := (2)) hx hb dL_law_569 (by decide) ?_
  refine lv_iadd hx hb dL_law_570 ?_
  refine nw_top (y := nI (k + 2)) (nI_add (k) (2)) ?_
  refine nw_sld hx hb hsX hsb hsA hS (k := k + 2) (by omega) (by omega) p2 e2 dL_law_571 ?_
  refine nw_Vi (As := [.int (p1), .int (p2)]) (rest := [.int (sumPF (ML) ((p1)) ((p2)))]) (q0 := 0) X (c_X7_sum lc G (a) (n) (cu) (bg) (M) (er) (us) (ll) (lm) (lh) (nv) (fr) (tt) (gr) (ML) (ns) (w) (cs) (cl) (nd) (lo) (ho) (so) ((p1)) ((p2)) ) (cwV 2 hts gL_law_X7_sum rfl rfl rfl (by decide +kernel) ⟨Nat.le_of_ble_eq_true rfl, Nat.le_of_ble_eq_true rfl⟩) rfl (show vwCl[6]? = some (RX7, TX7, 23) from rfl) (nwSp.gen ((wN (b) (z 0) (v 0) (li 0) (st 0) (d 0)) ++ ((wV G (v) (z 0) (nv) (fr) (tt) (zl) (ld) (gk) (ut)) ++ ((wZ G (z) (n) (cu) (bg) (M) (er) (us)) ++ ((wL G (li) (ML)) ++ ((wS G (st) (ns) (w) (MS)) ++ ((wD G (d) (nd) (lo) (ho) (rk)))))))) ((wM G (a) (n) (cu) (bg) ((coF M)) ((goF M)) (er) (us) (ll) (lm) (lh) (nv) (fr) (tt) (gr) ((hdF2 ML)) (ns) (w) (cs) (cl) (nd) (lo) (ho) (so))) ([]) (f := fun q9 => (wN (b) (z 0) (v 0) (li 0) (st 0) (d 0)) ++ ((wV G (v) (z 0) (nv) (fr) (tt) (zl) (ld) (gk) (ut)) ++ ((wZ G (z) (n) (cu) (bg) (M) (er) (us)) ++ ((wL G (li) (ML)) ++ ((wS G (st) (ns) (w) (MS)) ++ ((wD G (d) (nd) (lo) (ho) (rk)) ++ (q9))))))) (by simp only [List.append_assoc, List.nil_append, List.append_nil]) (fun q9 => by simp only [List.append_assoc, List.nil_append, List.append_nil])) hP hD hS hA rfl hl.1 rfl (Nat.le_of_ble_eq_true rfl) dL_law_572 ⟨Nat.le_of_ble_eq_true rfl, Nat.le_of_ble_eq_true rfl⟩ (fun r w H locs hp_2 hP hD hS => ?_)
  obtain ⟨rfl, rfl⟩ := hp_2
  have hP : va_P G.1 vwCl ((wN (b) (z 0) (v 0) (li 0) (st 0) (d 0)) ++ ((wV G (v) (z 0) (nv) (fr) (tt) (zl) (ld) (gk) (ut)) ++ ((wZ G (z) (n) (cu) (bg) (M) (er) (us)) ++ ((wL G (li) (ML)) ++ ((wS G (st) (ns) (w) (MS)) ++ ((wD G (d) (nd) (lo) (ho) (rk)) ++ ((wM G (a) (n) (cu) (bg) ((coF M)) ((goF M)) (er) (us) (ll) (lm) (lh) (nv) (fr) (tt) (gr) ((hdF2 ML)) (ns) (w) (cs) (cl) (nd) (lo) (ho) (so))))))))) H := hP
  have hD : va_D vA ((wN (b) (z 0) (v 0) (li 0) (st 0) (d 0)) ++ ((wV G (v) (z 0) (nv) (fr) (tt) (zl) (ld) (gk) (ut)) ++ ((wZ G (z) (n) (cu) (bg) (M) (er) (us)) ++ ((wL G (li) (ML)) ++ ((wS G (st) (ns) (w) (MS)) ++ ((wD G (d) (nd) (lo) (ho) (rk)) ++ ((wM G (a) (n) (cu) (bg) ((coF M)) ((goF M)) (er) (us) (ll) (lm) (lh) (nv) (fr) (tt) (gr) ((hdF2 ML)) (ns) (w) (cs) (cl) (nd) (lo) (ho) (so))))))))) := hD
  refine lv_icmp_eq (tgt := 966) hx hb dL_law_575 (by decide) (fun b575_3 => ?_) (fun b575_3 => ?_)
  · skip
    have b575_3 : ((sumPF (ML) ((p1)) ((p2))) : Int32) = (sumPF (ML) ((p1)) ((p2))) := b575_3
    exact hK9 (nv) (fr) (tt) (zl) (ld) (gk) (ut) (n) (cu) (bg) (M) (er) (us) (ML) (ns) (w) (MS) (nd) (lo) (ho) (rk) (ll) (lm) (lh) (gr) (cs) (cl) (so) _ _ _ (by exact lwI_same hI (by first | assumption | exact hld) (by first | assumption | exact hgr) (by first | assumption | exact hso9)) (lv_sub hl [0, 1, 2, 3] rfl) hP hD hS
  · skip
    have b575_3 : ¬ (((sumPF (ML) ((p1)) ((p2))) : Int32) = (sumPF (ML) ((p1)) ((p2)))) := b575_3
    exact absurd rfl b575_3
set_option maxHeartbeats 4000000 in
set_option maxRecDepth 100000 in
theorem law_12 {G : nwG} {b sb : Nat} {z v li st d a : Nat → Nat} {k L : Nat} {xs : Nat → Int32} {vp : Program} {lc : Launch} {ve : Env} {vs : State} {vm : MethodId} {args : Array Value} {vb : List Frame} {vt : Method} {vc : Code} {vA : Nat → Prop} {Q : State → Prop} {nm : String} (X : nwAt vp vm vc cL_law 4 vs args wsL_law RL vt (some .boolean) nm G) (hA : ∀ q, vs.heap.size ≤ q → vA q) (hsX : va_X sb L xs vs vs.heap) (hsb : sb < vs.heap.size) (hsA : ¬ vA sb) (hkL : k + 5 ≤ L) (hL : L ≤ 2560) {p1 p2 p3 p4 : Int32} (e1 : xs (k + 1) = p1) (e2 : xs (k + 2) = p2) (e3 : xs (k + 3) = p3) (e4 : xs (k + 4) = p4) (hK9 : lwK G b sb z v li st d a k vp lc ve vs vm args vb vt vc vA Q) (nv : Nat) (fr tt : Nat → Nat) (zl : Nat → Int32) (ld : Nat → Nat) (gk ut : Nat → Int32) (n : Nat) (cu bg : Nat → Int32) (M : Nat → Nat → Int32) (er us : Int32) (ML : Nat → Nat → Int32) (ns : Nat) (w : Nat → Nat) (MS : Nat → Nat → Int32) (nd : Nat) (lo ho : Nat → Int32) (rk : Nat → Nat) (ll lm lh : Int32) (gr : Nat → Nat) (cs cl : Nat → Int32) (so : Nat → Nat) (hI : lwI nv fr tt ld n cu bg M er us ns w MS nd lo ho rk gr so) (H : Heap) (locs : List Loc) (ls : Array Slot) (hl : lv_has ls 4 [(3, .int (nI k)), (2, .ref (a 0)), (1, .ref b), (0, .ref sb)]) (hP : va_P G.1 vwCl (lwW G b z v li st d a nv fr tt zl ld gk ut n cu bg M er us ML ns w MS nd lo ho rk ll lm lh gr cs cl so) H) (hD : va_D vA (lwW G b z v li st d a nv fr tt zl ld gk ut n cu bg M er us ML ns w MS nd lo ho rk ll lm lh gr cs cl so)) (hS : va_S vA vs.heap H locs) : W vp lc ve room_1 vs vm args vb vt vc H locs 80 1886 Q (F0 vm 580 ls []) := by
  have hx := X.1.1
  have hb := X.1.2.1
  have hown := X.1.2.2.2.1
  have hts := X.1.2.2.2.2
  have hK := X.2.2.2.2
  obtain ⟨hn, hnv, hf, hld, hgr, hsB, hn1, hn12, hw, hw0, hpl, hnd, hrk, hso, hrs⟩ := id hI
  have hso9 := hso
  have hP : va_P G.1 vwCl ((wN (b) (z 0) (v 0) (li 0) (st 0) (d 0)) ++ ((wV G (v) (z 0) (nv) (fr) (tt) (zl) (ld) (gk) (ut)) ++ ((wZ G (z) (n) (cu) (bg) (M) (er) (us)) ++ ((wL G (li) (ML)) ++ ((wS G (st) (ns) (w) (MS)) ++ ((wD G (d) (nd) (lo) (ho) (rk)) ++ ((wM G (a) (n) (cu) (bg) ((coF M)) ((goF M)) (er) (us) (ll) (lm) (lh) (nv) (fr) (tt) (gr) ((hdF2 ML)) (ns) (w) (cs) (cl) (nd) (lo) (ho) (so))))))))) H := hP
  have hD : va_D vA ((wN (b) (z 0) (v 0) (li 0) (st 0) (d 0)) ++ ((wV G (v) (z 0) (nv) (fr) (tt) (zl) (ld) (gk) (ut)) ++ ((wZ G (z) (n) (cu) (bg) (M) (er) (us)) ++ ((wL G (li) (ML)) ++ ((wS G (st) (ns) (w) (MS)) ++ ((wD G (d) (nd) (lo) (ho) (rk)) ++ ((wM G (a) (n) (cu) (bg) ((coF M)) ((goF M)) (er) (us) (ll) (lm) (lh) (nv) (fr) (tt) (gr) ((hdF2 ML)) (ns) (w) (cs) (cl) (nd) (lo) (ho) (so))))))))) := hD
  refine lv_aload_n hx hb dL_law_580 rfl (lv_at hl 2 rfl) ?_
  refine lv_aload_n hx hb dL_law_581 rfl (lv_at hl 3 rfl) ?_
  refine lv_iload_n hx hb dL_law_582 rfl (lv_at hl 0 rfl) ?_
  refine lv_iconst (v := (1)) hx hb dL_law_583 (by decide) ?_
  refine lv_iadd hx hb dL_law_584 ?_
  refine nw_top (y := nI (k + 1)) (nI_add (k) (1)) ?_
  refine nw_sld hx hb hsX hsb hsA hS (k := k + 1) (by omega) (by omega) p1 e1 dL_law_585 ?_
  refine lv_if_eq (tgt := 593) hx hb dL_law_586 (by decide) (fun b586_1 => ?_) (fun b586_1 => ?_)
  · skip
    have b586_1 : ((p1) : Int32) = (0 : Int32) := b586_1
    refine lv_iconst (v := (0)) hx hb dL_law_593 (by decide) ?_
    refine nw_Vi (As := [.int (0)]) (rest := []) (q0 := 0) X (c_X6_delay lc G (b) (v) (z) (li) (st) (d) (nv) (fr) (tt) (zl) (ld) (gk) (ut) (n) (cu) (bg) (M) (er) (us) (ML) (ns) (w) (MS) (nd) (lo) (ho) (rk) ((0 : Int32)) ) (cwV 1 hts gL_law_X6_delay rfl rfl rfl (by decide +kernel) ⟨Nat.le_of_ble_eq_true rfl, Nat.le_of_ble_eq_true rfl⟩) rfl (show vwCl[5]? = some (RX6, TX6, 5) from rfl) (nwSp.gen ([]) ((wN (b) (z 0) (v 0) (li 0) (st 0) (d 0)) ++ ((wV G (v) (z 0) (nv) (fr) (tt) (zl) (ld) (gk) (ut)) ++ ((wZ G (z) (n) (cu) (bg) (M) (er) (us)) ++ ((wL G (li) (ML)) ++ ((wS G (st) (ns) (w) (MS)) ++ ((wD G (d) (nd) (lo) (ho) (rk)))))))) ((wM G (a) (n) (cu) (bg) ((coF M)) ((goF M)) (er) (us) (ll) (lm) (lh) (nv) (fr) (tt) (gr) ((hdF2 ML)) (ns) (w) (cs) (cl) (nd) (lo) (ho) (so))) (f := fun q9 => q9 ++ ((wM G (a) (n) (cu) (bg) ((coF M)) ((goF M)) (er) (us) (ll) (lm) (lh) (nv) (fr) (tt) (gr) ((hdF2 ML)) (ns) (w) (cs) (cl) (nd) (lo) (ho) (so)))) (by simp only [List.append_assoc, List.nil_append, List.append_nil]) (fun q9 => by simp only [List.append_assoc, List.nil_append, List.append_nil])) hP hD hS hA rfl hl.1 rfl (Nat.le_of_ble_eq_true rfl) dL_law_594 ⟨Nat.le_of_ble_eq_true rfl, Nat.le_of_ble_eq_true rfl⟩ (fun r w H locs hp_2 hP hD hS => ?_)
    obtain ⟨rfl, rfl⟩ := hp_2
    simp only [List.append_assoc] at hP hD
    have hP : va_P G.1 vwCl ((wN (b) (z 0) (v 0) (li 0) (st 0) (d 0)) ++ ((wV G (v) (z 0) (nv) (fr) (tt) (zl) (ld) (gk) (ut)) ++ ((wZ G (z) (n) (cu) (bg) (M) (er) (us)) ++ ((wL G (li) (ML)) ++ ((wS G (st) (ns) (w) (MS)) ++ ((wD G (d) (nd) (lo) (ho) (rk)) ++ ((wM G (a) (n) (cu) (bg) ((coF M)) ((goF M)) (er) (us) (ll) (lm) (lh) (nv) (fr) (tt) (gr) ((hdF2 ML)) (ns) (w) (cs) (cl) (nd) (lo) (ho) (so))))))))) H := hP
    have hD : va_D vA ((wN (b) (z 0) (v 0) (li 0) (st 0) (d 0)) ++ ((wV G (v) (z 0) (nv) (fr) (tt) (zl) (ld) (gk) (ut)) ++ ((wZ G (z) (n) (cu) (bg) (M) (er) (us)) ++ ((wL G (li) (ML)) ++ ((wS G (st) (ns) (w) (MS)) ++ ((wD G (d) (nd) (lo) (ho) (rk)) ++ ((wM G (a) (n) (cu) (bg) ((coF M)) ((goF M)) (er) (us) (ll) (lm) (lh) (nv) (fr) (tt) (gr) ((hdF2 ML)) (ns) (w) (cs) (cl) (nd) (lo) (ho) (so))))))))) := hD
    refine lv_aload_n hx hb dL_law_597 rfl (lv_at hl 1 rfl) ?_
    refine lv_aload_n hx hb dL_law_598 rfl (lv_at hl 3 rfl) ?_
    refine lv_iload_n hx hb dL_law_599 rfl (lv_at hl 0 rfl) ?_
    refine lv_iconst (v := (1)) hx hb dL_law_600 (by decide) ?_
    refine lv_iadd hx hb dL_law_601 ?_
    refine nw_top (y := nI (k + 1)) (nI_add (k) (1)) ?_
    refine nw_sld hx hb hsX hsb hsA hS (k := k + 1) (by omega) (by omega) p1 e1 dL_law_602 ?_
    refine lv_if_eq (tgt := 610) hx hb dL_law_603 (by decide) (fun b603_3 => ?_) (fun b603_3 => ?_)
    · skip
      have b603_3 : ((p1) : Int32) = (0 : Int32) := b603_3
      refine lv_iconst (v := (0)) hx hb dL_law_610 (by decide) ?_
      refine nw_Vi (As := [.int (0)]) (rest := [.int (delayF (ML) ((0 : Int32)))]) (q0 := 0) X (c_X7_delay lc G (a) (n) (cu) (bg) (M) (er) (us) (ll) (lm) (lh) (nv) (fr) (tt) (gr) (ML) (ns) (w) (cs) (cl) (nd) (lo) (ho) (so) ((0 : Int32)) ) (cwV 1 hts gL_law_X7_delay rfl rfl rfl (by decide +kernel) ⟨Nat.le_of_ble_eq_true rfl, Nat.le_of_ble_eq_true rfl⟩) rfl (show vwCl[6]? = some (RX7, TX7, 23) from rfl) (nwSp.gen ((wN (b) (z 0) (v 0) (li 0) (st 0) (d 0)) ++ ((wV G (v) (z 0) (nv) (fr) (tt) (zl) (ld) (gk) (ut)) ++ ((wZ G (z) (n) (cu) (bg) (M) (er) (us)) ++ ((wL G (li) (ML)) ++ ((wS G (st) (ns) (w) (MS)) ++ ((wD G (d) (nd) (lo) (ho) (rk)))))))) ((wM G (a) (n) (cu) (bg) ((coF M)) ((goF M)) (er) (us) (ll) (lm) (lh) (nv) (fr) (tt) (gr) ((hdF2 ML)) (ns) (w) (cs) (cl) (nd) (lo) (ho) (so))) ([]) (f := fun q9 => (wN (b) (z 0) (v 0) (li 0) (st 0) (d 0)) ++ ((wV G (v) (z 0) (nv) (fr) (tt) (zl) (ld) (gk) (ut)) ++ ((wZ G (z) (n) (cu) (bg) (M) (er) (us)) ++ ((wL G (li) (ML)) ++ ((wS G (st) (ns) (w) (MS)) ++ ((wD G (d) (nd) (lo) (ho) (rk)) ++ (q9))))))) (by simp only [List.append_assoc, List.nil_append, List.append_nil]) (fun q9 => by simp only [List.append_assoc, List.nil_append, List.append_nil])) hP hD hS hA rfl hl.1 rfl (Nat.le_of_ble_eq_true rfl) dL_law_611 ⟨Nat.le_of_ble_eq_true rfl, Nat.le_of_ble_eq_true rfl⟩ (fun r w H locs hp_4 hP hD hS => ?_)
      obtain ⟨rfl, rfl⟩ := hp_4
      have hP : va_P G.1 vwCl ((wN (b) (z 0) (v 0) (li 0) (st 0) (d 0)) ++ ((wV G (v) (z 0) (nv) (fr) (tt) (zl) (ld) (gk) (ut)) ++ ((wZ G (z) (n) (cu) (bg) (M) (er) (us)) ++ ((wL G (li) (ML)) ++ ((wS G (st) (ns) (w) (MS)) ++ ((wD G (d) (nd) (lo) (ho) (rk)) ++ ((wM G (a) (n) (cu) (bg) ((coF M)) ((goF M)) (er) (us) (ll) (lm) (lh) (nv) (fr) (tt) (gr) ((hdF2 ML)) (ns) (w) (cs) (cl) (nd) (lo) (ho) (so))))))))) H := hP
      have hD : va_D vA ((wN (b) (z 0) (v 0) (li 0) (st 0) (d 0)) ++ ((wV G (v) (z 0) (nv) (fr) (tt) (zl) (ld) (gk) (ut)) ++ ((wZ G (z) (n) (cu) (bg) (M) (er) (us)) ++ ((wL G (li) (ML)) ++ ((wS G (st) (ns) (w) (MS)) ++ ((wD G (d) (nd) (lo) (ho) (rk)) ++ ((wM G (a) (n) (cu) (bg) ((coF M)) ((goF M)) (er) (us) (ll) (lm) (lh) (nv) (fr) (tt) (gr) ((hdF2 ML)) (ns) (w) (cs) (cl) (nd) (lo) (ho) (so))))))))) := hD
      refine lv_icmp_eq (tgt := 966) hx hb dL_law_614 (by decide) (fun b614_5 => ?_) (fun b614_5 => ?_)
      · skip
        have b614_5 : ((delayF (ML) ((0 : Int32))) : Int32) = (delayG (ML) ((0 : Int32))) := b614_5
        exact hK9 (nv) (fr) (tt) (zl) (ld) (gk) (ut) (n) (cu) (bg) (M) (er) (us) (ML) (ns) (w) (MS) (nd) (lo) (ho) (rk) (ll) (lm) (lh) (gr) (cs) (cl) (so) _ _ _ (by exact lwI_same hI (by first | assumption | exact hld) (by first | assumption | exact hgr) (by first | assumption | exact hso9)) (lv_sub hl [0, 1, 2, 3] rfl) hP hD hS
      · skip
        have b614_5 : ¬ (((delayF (ML) ((0 : Int32))) : Int32) = (delayG (ML) ((0 : Int32)))) := b614_5
        exact absurd (delayG_eq.symm) b614_5
    · skip
      have b603_3 : ¬ (((p1) : Int32) = (0 : Int32)) := b603_3
      contradiction
  · skip
    have b586_1 : ¬ (((p1) : Int32) = (0 : Int32)) := b586_1
    refine lv_iconst (v := (1)) hx hb dL_law_589 (by decide) ?_
    refine lv_goto (tgt := 594) hx hb dL_law_590 (by decide) ?_
    refine nw_Vi (As := [.int (1)]) (rest := []) (q0 := 0) X (c_X6_delay lc G (b) (v) (z) (li) (st) (d) (nv) (fr) (tt) (zl) (ld) (gk) (ut) (n) (cu) (bg) (M) (er) (us) (ML) (ns) (w) (MS) (nd) (lo) (ho) (rk) ((1 : Int32)) ) (cwV 1 hts gL_law_X6_delay rfl rfl rfl (by decide +kernel) ⟨Nat.le_of_ble_eq_true rfl, Nat.le_of_ble_eq_true rfl⟩) rfl (show vwCl[5]? = some (RX6, TX6, 5) from rfl) (nwSp.gen ([]) ((wN (b) (z 0) (v 0) (li 0) (st 0) (d 0)) ++ ((wV G (v) (z 0) (nv) (fr) (tt) (zl) (ld) (gk) (ut)) ++ ((wZ G (z) (n) (cu) (bg) (M) (er) (us)) ++ ((wL G (li) (ML)) ++ ((wS G (st) (ns) (w) (MS)) ++ ((wD G (d) (nd) (lo) (ho) (rk)))))))) ((wM G (a) (n) (cu) (bg) ((coF M)) ((goF M)) (er) (us) (ll) (lm) (lh) (nv) (fr) (tt) (gr) ((hdF2 ML)) (ns) (w) (cs) (cl) (nd) (lo) (ho) (so))) (f := fun q9 => q9 ++ ((wM G (a) (n) (cu) (bg) ((coF M)) ((goF M)) (er) (us) (ll) (lm) (lh) (nv) (fr) (tt) (gr) ((hdF2 ML)) (ns) (w) (cs) (cl) (nd) (lo) (ho) (so)))) (by simp only [List.append_assoc, List.nil_append, List.append_nil]) (fun q9 => by simp only [List.append_assoc, List.nil_append, List.append_nil])) hP hD hS hA rfl hl.1 rfl (Nat.le_of_ble_eq_true rfl) dL_law_594 ⟨Nat.le_of_ble_eq_true rfl, Nat.le_of_ble_eq_true rfl⟩ (fun r w H locs hp_6 hP hD hS => ?_)
    obtain ⟨rfl, rfl⟩ := hp_6
    simp only [List.append_assoc] at hP hD
    have hP : va_P G.1 vwCl ((wN (b) (z 0) (v 0) (li 0) (st 0) (d 0)) ++ ((wV G (v) (z 0) (nv) (fr) (tt) (zl) (ld) (gk) (ut)) ++ ((wZ G (z) (n) (cu) (bg) (M) (er) (us)) ++ ((wL G (li) (ML)) ++ ((wS G (st) (ns) (w) (MS)) ++ ((wD G (d) (nd) (lo) (ho) (rk)) ++ ((wM G (a) (n) (cu) (bg) ((coF M)) ((goF M)) (er) (us) (ll) (lm) (lh) (nv) (fr) (tt) (gr) ((hdF2 ML)) (ns) (w) (cs) (cl) (nd) (lo) (ho) (so))))))))) H := hP
    have hD : va_D vA ((wN (b) (z 0) (v 0) (li 0) (st 0) (d 0)) ++ ((wV G (v) (z 0) (nv) (fr) (tt) (zl) (ld) (gk) (ut)) ++ ((wZ G (z) (n) (cu) (bg) (M) (er) (us)) ++ ((wL G (li) (ML)) ++ ((wS G (st) (ns) (w) (MS)) ++ ((wD G (d) (nd) (lo) (ho) (rk)) ++ ((wM G (a) (n) (cu) (bg) ((coF M)) ((goF M)) (er) (us) (ll) (lm) (lh) (nv) (fr) (tt) (gr) ((hdF2 ML)) (ns) (w) (cs) (cl) (nd) (lo) (ho) (so))))))))) := hD
    refine lv_aload_n hx hb dL_law_597 rfl (lv_at hl 1 rfl) ?_
    refine lv_aload_n hx hb dL_law_598 rfl (lv_at hl 3 rfl) ?_
    refine lv_iload_n hx hb dL_law_599 rfl (lv_at hl 0 rfl) ?_
    refine lv_iconst (v := (1)) hx hb dL_law_600 (by decide) ?_
    refine lv_iadd hx hb dL_law_601 ?_
    refine nw_top (y := nI (k + 1)) (nI_add (k) (1)) ?_
    refine nw_sld hx hb hsX hsb hsA hS (k := k + 1) (by omega) (by omega) p1 e1 dL_law_602 ?_
    refine lv_if_eq (tgt := 610) hx hb dL_law_603 (by decide) (fun b603_7 => ?_) (fun b603_7 => ?_)
    · skip
      have b603_7 : ((p1) : Int32) = (0 : Int32) := b603_7
      contradiction
    · skip
      have b603_7 : ¬ (((p1) : Int32) = (0 : Int32)) := b603_7
      refine lv_iconst (v := (1)) hx hb dL_law_606 (by decide) ?_
      refine lv_goto (tgt := 611) hx hb dL_law_607 (by decide) ?_
      refine nw_Vi (As := [.int (1)]) (rest := [.int (delayF (ML) ((1 : Int32)))]) (q0 := 0) X (c_X7_delay lc G (a) (n) (cu) (bg) (M) (er) (us) (ll) (lm) (lh) (nv) (fr) (tt) (gr) (ML) (ns) (w) (cs) (cl) (nd) (lo) (ho) (so) ((1 : Int32)) ) (cwV 1 hts gL_law_X7_delay rfl rfl rfl (by decide +kernel) ⟨Nat.le_of_ble_eq_true rfl, Nat.le_of_ble_eq_true rfl⟩) rfl (show vwCl[6]? = some (RX7, TX7, 23) from rfl) (nwSp.gen ((wN (b) (z 0) (v 0) (li 0) (st 0) (d 0)) ++ ((wV G (v) (z 0) (nv) (fr) (tt) (zl) (ld) (gk) (ut)) ++ ((wZ G (z) (n) (cu) (bg) (M) (er) (us)) ++ ((wL G (li) (ML)) ++ ((wS G (st) (ns) (w) (MS)) ++ ((wD G (d) (nd) (lo) (ho) (rk)))))))) ((wM G (a) (n) (cu) (bg) ((coF M)) ((goF M)) (er) (us) (ll) (lm) (lh) (nv) (fr) (tt) (gr) ((hdF2 ML)) (ns) (w) (cs) (cl) (nd) (lo) (ho) (so))) ([]) (f := fun q9 => (wN (b) (z 0) (v 0) (li 0) (st 0) (d 0)) ++ ((wV G (v) (z 0) (nv) (fr) (tt) (zl) (ld) (gk) (ut)) ++ ((wZ G (z) (n) (cu) (bg) (M) (er) (us)) ++ ((wL G (li) (ML)) ++ ((wS G (st) (ns) (w) (MS)) ++ ((wD G (d) (nd) (lo) (ho) (rk)) ++ (q9))))))) (by simp only [List.append_assoc, List.nil_append, List.append_nil]) (fun q9 => by simp only [List.append_assoc, List.nil_append, List.append_nil])) hP hD hS hA rfl hl.1 rfl (Nat.le_of_ble_eq_true rfl) dL_law_611 ⟨Nat.le_of_ble_eq_true rfl, Nat.le_of_ble_eq_true rfl⟩ (fun r w H locs hp_8 hP hD hS => ?_)
      obtain ⟨rfl, rfl⟩ := hp_8
      have hP : va_P G.1 vwCl ((wN (b) (z 0) (v 0) (li 0) (st 0) (d 0)) ++ ((wV G (v) (z 0) (nv) (fr) (tt) (zl) (ld) (gk) (ut)) ++ ((wZ G (z) (n) (cu) (bg) (M) (er) (us)) ++ ((wL G (li) (ML)) ++ ((wS G (st) (ns) (w) (MS)) ++ ((wD G (d) (nd) (lo) (ho) (rk)) ++ ((wM G (a) (n) (cu) (bg) ((coF M)) ((goF M)) (er) (us) (ll) (lm) (lh) (nv) (fr) (tt) (gr) ((hdF2 ML)) (ns) (w) (cs) (cl) (nd) (lo) (ho) (so))))))))) H := hP
      have hD : va_D vA ((wN (b) (z 0) (v 0) (li 0) (st 0) (d 0)) ++ ((wV G (v) (z 0) (nv) (fr) (tt) (zl) (ld) (gk) (ut)) ++ ((wZ G (z) (n) (cu) (bg) (M) (er) (us)) ++ ((wL G (li) (ML)) ++ ((wS G (st) (ns) (w) (MS)) ++ ((wD G (d) (nd) (lo) (ho) (rk)) ++ ((wM G (a) (n) (cu) (bg) ((coF M)) ((goF M)) (er) (us) (ll) (lm) (lh) (nv) (fr) (tt) (gr) ((hdF2 ML)) (ns) (w) (cs) (cl) (nd) (lo) (ho) (so))))))))) := hD
      refine lv_icmp_eq (tgt := 966) hx hb dL_law_614 (by decide) (fun b614_9 => ?_) (fun b614_9 => ?_)
      · skip
        have b614_9 : ((delayF (ML) ((1 : Int32))) : Int32) = (delayG (ML) ((1 : Int32))) := b614_9
        exact hK9 (nv) (fr) (tt) (zl) (ld) (gk) (ut) (n) (cu) (bg) (M) (er) (us) (ML) (ns) (w) (MS) (nd) (lo) (ho) (rk) (ll) (lm) (lh) (gr) (cs) (cl) (so) _ _ _ (by exact lwI_same hI (by first | assumption | exact hld) (by first | assumption | exact hgr) (by first | assumption | exact hso9)) (lv_sub hl [0, 1, 2, 3] rfl) hP hD hS
      · skip
        have b614_9 : ¬ (((delayF (ML) ((1 : Int32))) : Int32) = (delayG (ML) ((1 : Int32)))) := b614_9
        exact absurd (delayG_eq.symm) b614_9
set_option maxHeartbeats 4000000 in
set_option maxRecDepth 100000 in
theorem law_13 {G : nwG} {b sb : Nat} {z v li st d a : Nat → Nat} {k L : Nat} {xs : Nat → Int32} {vp : Program} {lc : Launch} {ve : Env} {vs : State} {vm : MethodId} {args : Array Value} {vb : List Frame} {vt : Method} {vc : Code} {vA : Nat → Prop} {Q : State → Prop} {nm : String} (X : nwAt vp vm vc cL_law 4 vs args wsL_law RL vt (some .boolean) nm G) (hA : ∀ q, vs.heap.size ≤ q → vA q) (hsX : va_X sb L xs vs vs.heap) (hsb : sb < vs.heap.size) (hsA : ¬ vA sb) (hkL : k + 5 ≤ L) (hL : L ≤ 2560) {p1 p2 p3 p4 : Int32} (e1 : xs (k + 1) = p1) (e2 : xs (k + 2) = p2) (e3 : xs (k + 3) = p3) (e4 : xs (k + 4) = p4) (hK9 : lwK G b sb z v li st d a k vp lc ve vs vm args vb vt vc vA Q) (nv : Nat) (fr tt : Nat → Nat) (zl : Nat → Int32) (ld : Nat → Nat) (gk ut : Nat → Int32) (n : Nat) (cu bg : Nat → Int32) (M : Nat → Nat → Int32) (er us : Int32) (ML : Nat → Nat → Int32) (ns : Nat) (w : Nat → Nat) (MS : Nat → Nat → Int32) (nd : Nat) (lo ho : Nat → Int32) (rk : Nat → Nat) (ll lm lh : Int32) (gr : Nat → Nat) (cs cl : Nat → Int32) (so : Nat → Nat) (hI : lwI nv fr tt ld n cu bg M er us ns w MS nd lo ho rk gr so) (H : Heap) (locs : List Loc) (ls : Array Slot) (hl : lv_has ls 4 [(3, .int (nI k)), (2, .ref (a 0)), (1, .ref b), (0, .ref sb)]) (hP : va_P G.1 vwCl (lwW G b z v li st d a nv fr tt zl ld gk ut n cu bg M er us ML ns w MS nd lo ho rk ll lm lh gr cs cl so) H) (hD : va_D vA (lwW G b z v li st d a nv fr tt zl ld gk ut n cu bg M er us ML ns w MS nd lo ho rk ll lm lh gr cs cl so)) (hS : va_S vA vs.heap H locs) : W vp lc ve room_1 vs vm args vb vt vc H locs 80 1886 Q (F0 vm 619 ls []) := by
  have hx := X.1.1
  have hb := X.1.2.1
  have hown := X.1.2.2.2.1
  have hts := X.1.2.2.2.2
  have hK := X.2.2.2.2
  obtain ⟨hn, hnv, hf, hld, hgr, hsB, hn1, hn12, hw, hw0, hpl, hnd, hrk, hso, hrs⟩ := id hI
  have hso9 := hso
  have hP : va_P G.1 vwCl ((wN (b) (z 0) (v 0) (li 0) (st 0) (d 0)) ++ ((wV G (v) (z 0) (nv) (fr) (tt) (zl) (ld) (gk) (ut)) ++ ((wZ G (z) (n) (cu) (bg) (M) (er) (us)) ++ ((wL G (li) (ML)) ++ ((wS G (st) (ns) (w) (MS)) ++ ((wD G (d) (nd) (lo) (ho) (rk)) ++ ((wM G (a) (n) (cu) (bg) ((coF M)) ((goF M)) (er) (us) (ll) (lm) (lh) (nv) (fr) (tt) (gr) ((hdF2 ML)) (ns) (w) (cs) (cl) (nd) (lo) (ho) (so))))))))) H := hP
  have hD : va_D vA ((wN (b) (z 0) (v 0) (li 0) (st 0) (d 0)) ++ ((wV G (v) (z 0) (nv) (fr) (tt) (zl) (ld) (gk) (ut)) ++ ((wZ G (z) (n) (cu) (bg) (M) (er) (us)) ++ ((wL G (li) (ML)) ++ ((wS G (st) (ns) (w) (MS)) ++ ((wD G (d) (nd) (lo) (ho) (rk)) ++ ((wM G (a) (n) (cu) (bg) ((coF M)) ((goF M)) (er) (us) (ll) (lm) (lh) (nv) (fr) (tt) (gr) ((hdF2 ML)) (ns) (w) (cs) (cl) (nd) (lo) (ho) (so))))))))) := hD
  refine lv_aload_n hx hb dL_law_619 rfl (lv_at hl 2 rfl) ?_
  refine lv_aload_n hx hb dL_law_620 rfl (lv_at hl 3 rfl) ?_
  refine lv_iload_n hx hb dL_law_621 rfl (lv_at hl 0 rfl) ?_
  refine lv_iconst (v := (1)) hx hb dL_law_622 (by decide) ?_
  refine lv_iadd hx hb dL_law_623 ?_
  refine nw_top (y := nI (k + 1)) (nI_add (k) (1)) ?_
  refine nw_sld hx hb hsX hsb hsA hS (k := k + 1) (by omega) (by omega) p1 e1 dL_law_624 ?_
  refine lv_aload_n hx hb dL_law_625 rfl (lv_at hl 3 rfl) ?_
  refine lv_iload_n hx hb dL_law_626 rfl (lv_at hl 0 rfl) ?_
  refine lv_iconst (v := (2)) hx hb dL_law_627 (by decide) ?_
  refine lv_iadd hx hb dL_law_628 ?_
  refine nw_top (y := nI (k + 2)) (nI_add (k) (2)) ?_
  refine nw_sld hx hb hsX hsb hsA hS (k := k + 2) (by omega) (by omega) p2 e2 dL_law_629 ?_
  refine lv_aload_n hx hb dL_law_630 rfl (lv_at hl 3 rfl) ?_
  refine lv_iload_n hx hb dL_law_631 rfl (lv_at hl 0 rfl) ?_
  refine lv_iconst (v := (3)) hx hb dL_law_632 (by decide) ?_
  refine lv_iadd hx hb dL_law_633 ?_
  refine nw_top (y := nI (k + 3)) (nI_add (k) (3)) ?_
  refine nw_sld hx hb hsX hsb hsA hS (k := k + 3) (by omega) (by omega) p3 e3 dL_law_634 ?_
  refine lv_aload_n hx hb dL_law_635 rfl (lv_at hl 3 rfl) ?_
  refine lv_iload_n hx hb dL_law_636 rfl (lv_at hl 0 rfl) ?_
  refine lv_iconst (v := (4)) hx hb dL_law_637 (by decide) ?_
  refine lv_iadd hx hb dL_law_638 ?_
  refine nw_top (y := nI (k + 4)) (nI_add (k) (4)) ?_
  refine nw_sld hx hb hsX hsb hsA hS (k := k + 4) (by omega) (by omega) p4 e4 dL_law_639 ?_
  refine nw_Vi (As := [.int (p1), .int (p2), .int (p3), .int (p4)]) (rest := []) (q0 := 0) X (c_X6_place lc G (b) (v) (z) (li) (st) (d) (nv) (fr) (tt) (zl) (ld) (gk) (ut) (n) (cu) (bg) (M) (er) (us) (ML) (ns) (w) (MS) (nd) (lo) (ho) (rk) ((p1)) ((p2)) ((p3)) ((p4)) ) (cwV 4 hts gL_law_X6_place rfl rfl rfl (by decide +kernel) ⟨Nat.le_of_ble_eq_true rfl, Nat.le_of_ble_eq_true rfl⟩) rfl (show vwCl[5]? = some (RX6, TX6, 5) from rfl) (nwSp.gen ([]) ((wN (b) (z 0) (v 0) (li 0) (st 0) (d 0)) ++ ((wV G (v) (z 0) (nv) (fr) (tt) (zl) (ld) (gk) (ut)) ++ ((wZ G (z) (n) (cu) (bg) (M) (er) (us)) ++ ((wL G (li) (ML)) ++ ((wS G (st) (ns) (w) (MS)) ++ ((wD G (d) (nd) (lo) (ho) (rk)))))))) ((wM G (a) (n) (cu) (bg) ((coF M)) ((goF M)) (er) (us) (ll) (lm) (lh) (nv) (fr) (tt) (gr) ((hdF2 ML)) (ns) (w) (cs) (cl) (nd) (lo) (ho) (so))) (f := fun q9 => q9 ++ ((wM G (a) (n) (cu) (bg) ((coF M)) ((goF M)) (er) (us) (ll) (lm) (lh) (nv) (fr) (tt) (gr) ((hdF2 ML)) (ns) (w) (cs) (cl) (nd) (lo) (ho) (so)))) (by simp only [List.append_assoc, List.nil_append, List.append_nil]) (fun q9 => by simp only [List.append_assoc, List.nil_append, List.append_nil])) hP hD hS hA rfl hl.1 rfl (Nat.le_of_ble_eq_true rfl) dL_law_640 ⟨Nat.le_of_ble_eq_true rfl, Nat.le_of_ble_eq_true rfl⟩ (fun r w H locs hp_1 hP hD hS => ?_)
  obtain ⟨rfl, rfl⟩ := hp_1
  simp only [List.append_assoc] at hP hD
  have hP : va_P G.1 vwCl ((wN (b) (z 0) (v 0) (li 0) (st 0) (d 0)) ++ ((wV G (v) (z 0) (nv) (fr) (tt) (zl) (ld) (gk) (ut)) ++ ((wZ G (z) (n) (cu) (bg) (M) (er) (us)) ++ ((wL G (li) (ML)) ++ ((wS G (st) (ns) (w) (MS)) ++ ((wD G (d) (nd) (lo) (ho) (rk)) ++ ((wM G (a) (n) (cu) (bg) ((coF M)) ((goF M)) (er) (us) (ll) (lm) (lh) (nv) (fr) (tt) (gr) ((hdF2 ML)) (ns) (w) (cs) (cl) (nd) (lo) (ho) (so))))))))) H := hP
  have hD : va_D vA ((wN (b) (z 0) (v 0) (li 0) (st 0) (d 0)) ++ ((wV G (v) (z 0) (nv) (fr) (tt) (zl) (ld) (gk) (ut)) ++ ((wZ G (z) (n) (cu) (bg) (M) (er) (us)) ++ ((wL G (li) (ML)) ++ ((wS G (st) (ns) (w) (MS)) ++ ((wD G (d) (nd) (lo) (ho) (rk)) ++ ((wM G (a) (n) (cu) (bg) ((coF M)) ((goF M)) (er) (us) (ll) (lm) (lh) (nv) (fr) (tt) (gr) ((hdF2 ML)) (ns) (w) (cs) (cl) (nd) (lo) (ho) (so))))))))) := hD
  refine lv_aload_n hx hb dL_law_643 rfl (lv_at hl 1 rfl) ?_
  refine lv_aload_n hx hb dL_law_644 rfl (lv_at hl 3 rfl) ?_
  refine lv_iload_n hx hb dL_law_645 rfl (lv_at hl 0 rfl) ?_
  refine lv_iconst (v := (1)) hx hb dL_law_646 (by decide) ?_
  refine lv_iadd hx hb dL_law_647 ?_
  refine nw_top (y := nI (k + 1)) (nI_add (k) (1)) ?_
  refine nw_sld hx hb hsX hsb hsA hS (k := k + 1) (by omega) (by omega) p1 e1 dL_law_648 ?_
  refine lv_aload_n hx hb dL_law_649 rfl (lv_at hl 3 rfl) ?_
  refine lv_iload_n hx hb dL_law_650 rfl (lv_at hl 0 rfl) ?_
  refine lv_iconst (v := (2)) hx hb dL_law_651 (by decide) ?_
  refine lv_iadd hx hb dL_law_652 ?_
  refine nw_top (y := nI (k + 2)) (nI_add (k) (2)) ?_
  refine nw_sld hx hb hsX hsb hsA hS (k := k + 2) (by omega) (by omega) p2 e2 dL_law_653 ?_
  refine lv_aload_n hx hb dL_law_654 rfl (lv_at hl 3 rfl) ?_
  refine lv_iload_n hx hb dL_law_655 rfl (lv_at hl 0 rfl) ?_
  refine lv_iconst (v := (3)) hx hb dL_law_656 (by decide) ?_
  refine lv_iadd hx hb dL_law_657 ?_
  refine nw_top (y := nI (k + 3)) (nI_add (k) (3)) ?_
  refine nw_sld hx hb hsX hsb hsA hS (k := k + 3) (by omega) (by omega) p3 e3 dL_law_658 ?_
  refine lv_aload_n hx hb dL_law_659 rfl (lv_at hl 3 rfl) ?_
  refine lv_iload_n hx hb dL_law_660 rfl (lv_at hl 0 rfl) ?_
  refine lv_iconst (v := (4)) hx hb dL_law_661 (by decide) ?_
  refine lv_iadd hx hb dL_law_662 ?_
  refine nw_top (y := nI (k + 4)) (nI_add (k) (4)) ?_
  refine nw_sld hx hb hsX hsb hsA hS (k := k + 4) (by omega) (by omega) p4 e4 dL_law_663 ?_
  refine nw_Vi (As := [.int (p1), .int (p2), .int (p3), .int (p4)]) (rest := [.int (placeF (ML) ((p1)) ((p2)) ((p3)) ((p4)))]) (q0 := 0) X (c_X7_place lc G (a) (n) (cu) (bg) (M) (er) (us) (ll) (lm) (lh) (nv) (fr) (tt) (gr) (ML) (ns) (w) (cs) (cl) (nd) (lo) (ho) (so) ((p1)) ((p2)) ((p3)) ((p4)) ) (cwV 4 hts gL_law_X7_place rfl rfl rfl (by decide +kernel) ⟨Nat.le_of_ble_eq_true rfl, Nat.le_of_ble_eq_true rfl⟩) rfl (show vwCl[6]? = some (RX7, TX7, 23) from rfl) (nwSp.gen ((wN (b) (z 0) (v 0) (li 0) (st 0) (d 0)) ++ ((wV G (v) (z 0) (nv) (fr) (tt) (zl) (ld) (gk) (ut)) ++ ((wZ G (z) (n) (cu) (bg) (M) (er) (us)) ++ ((wL G (li) (ML)) ++ ((wS G (st) (ns) (w) (MS)) ++ ((wD G (d) (nd) (lo) (ho) (rk)))))))) ((wM G (a) (n) (cu) (bg) ((coF M)) ((goF M)) (er) (us) (ll) (lm) (lh) (nv) (fr) (tt) (gr) ((hdF2 ML)) (ns) (w) (cs) (cl) (nd) (lo) (ho) (so))) ([]) (f := fun q9 => (wN (b) (z 0) (v 0) (li 0) (st 0) (d 0)) ++ ((wV G (v) (z 0) (nv) (fr) (tt) (zl) (ld) (gk) (ut)) ++ ((wZ G (z) (n) (cu) (bg) (M) (er) (us)) ++ ((wL G (li) (ML)) ++ ((wS G (st) (ns) (w) (MS)) ++ ((wD G (d) (nd) (lo) (ho) (rk)) ++ (q9))))))) (by simp only [List.append_assoc, List.nil_append, List.append_nil]) (fun q9 => by simp only [List.append_assoc, List.nil_append, List.append_nil])) hP hD hS hA rfl hl.1 rfl (Nat.le_of_ble_eq_true rfl) dL_law_664 ⟨Nat.le_of_ble_eq_true rfl, Nat.le_of_ble_eq_true rfl⟩ (fun r w H locs hp_2 hP hD hS => ?_)
  obtain ⟨rfl, rfl⟩ := hp_2
  have hP : va_P G.1 vwCl ((wN (b) (z 0) (v 0) (li 0) (st 0) (d 0)) ++ ((wV G (v) (z 0) (nv) (fr) (tt) (zl) (ld) (gk) (ut)) ++ ((wZ G (z) (n) (cu) (bg) (M) (er) (us)) ++ ((wL G (li) (ML)) ++ ((wS G (st) (ns) (w) (MS)) ++ ((wD G (d) (nd) (lo) (ho) (rk)) ++ ((wM G (a) (n) (cu) (bg) ((coF M)) ((goF M)) (er) (us) (ll) (lm) (lh) (nv) (fr) (tt) (gr) ((hdF2 ML)) (ns) (w) (cs) (cl) (nd) (lo) (ho) (so))))))))) H := hP
  have hD : va_D vA ((wN (b) (z 0) (v 0) (li 0) (st 0) (d 0)) ++ ((wV G (v) (z 0) (nv) (fr) (tt) (zl) (ld) (gk) (ut)) ++ ((wZ G (z) (n) (cu) (bg) (M) (er) (us)) ++ ((wL G (li) (ML)) ++ ((wS G (st) (ns) (w) (MS)) ++ ((wD G (d) (nd) (lo) (ho) (rk)) ++ ((wM G (a) (n) (cu) (bg) ((coF M)) ((goF M)) (er) (us) (ll) (lm) (lh) (nv) (fr) (tt) (gr) ((hdF2 ML)) (ns) (w) (cs) (cl) (nd) (lo) (ho) (so))))))))) := hD
  refine lv_icmp_eq (tgt := 966) hx hb dL_law_667 (by decide) (fun b667_3 => ?_) (fun b667_3 => ?_)
  · skip
    have b667_3 : ((placeF (ML) ((p1)) ((p2)) ((p3)) ((p4))) : Int32) = (placeG (ML) ((p1)) ((p2)) ((p3)) ((p4))) := b667_3
    exact hK9 (nv) (fr) (tt) (zl) (ld) (gk) (ut) (n) (cu) (bg) (M) (er) (us) (ML) (ns) (w) (MS) (nd) (lo) (ho) (rk) (ll) (lm) (lh) (gr) (cs) (cl) (so) _ _ _ (by exact lwI_same hI (by first | assumption | exact hld) (by first | assumption | exact hgr) (by first | assumption | exact hso9)) (lv_sub hl [0, 1, 2, 3] rfl) hP hD hS
  · skip
    have b667_3 : ¬ (((placeF (ML) ((p1)) ((p2)) ((p3)) ((p4))) : Int32) = (placeG (ML) ((p1)) ((p2)) ((p3)) ((p4)))) := b667_3
    exact absurd (placeG_eq.symm) b667_3
set_option maxHeartbeats 4000000 in
set_option maxRecDepth 100000 in
theorem law_14 {G : nwG} {b sb : Nat} {z v li st d a : Nat → Nat} {k L : Nat} {xs : Nat → Int32} {vp : Program} {lc : Launch} {ve : Env} {vs : State} {vm : MethodId} {args : Array Value} {vb : List Frame} {vt : Method} {vc : Code} {vA : Nat → Prop} {Q : State → Prop} {nm : String} (X : nwAt vp vm vc cL_law 4 vs args wsL_law RL vt (some .boolean) nm G) (hA : ∀ q, vs.heap.size ≤ q → vA q) (hsX : va_X sb L xs vs vs.heap) (hsb : sb < vs.heap.size) (hsA : ¬ vA sb) (hkL : k + 5 ≤ L) (hL : L ≤ 2560) {p1 p2 p3 p4 : Int32} (e1 : xs (k + 1) = p1) (e2 : xs (k + 2) = p2) (e3 : xs (k + 3) = p3) (e4 : xs (k + 4) = p4) (hK9 : lwK G b sb z v li st d a k vp lc ve vs vm args vb vt vc vA Q) (nv : Nat) (fr tt : Nat → Nat) (zl : Nat → Int32) (ld : Nat → Nat) (gk ut : Nat → Int32) (n : Nat) (cu bg : Nat → Int32) (M : Nat → Nat → Int32) (er us : Int32) (ML : Nat → Nat → Int32) (ns : Nat) (w : Nat → Nat) (MS : Nat → Nat → Int32) (nd : Nat) (lo ho : Nat → Int32) (rk : Nat → Nat) (ll lm lh : Int32) (gr : Nat → Nat) (cs cl : Nat → Int32) (so : Nat → Nat) (hI : lwI nv fr tt ld n cu bg M er us ns w MS nd lo ho rk gr so) (H : Heap) (locs : List Loc) (ls : Array Slot) (hl : lv_has ls 4 [(3, .int (nI k)), (2, .ref (a 0)), (1, .ref b), (0, .ref sb)]) (hP : va_P G.1 vwCl (lwW G b z v li st d a nv fr tt zl ld gk ut n cu bg M er us ML ns w MS nd lo ho rk ll lm lh gr cs cl so) H) (hD : va_D vA (lwW G b z v li st d a nv fr tt zl ld gk ut n cu bg M er us ML ns w MS nd lo ho rk ll lm lh gr cs cl so)) (hS : va_S vA vs.heap H locs) : W vp lc ve room_1 vs vm args vb vt vc H locs 80 1886 Q (F0 vm 672 ls []) := by
  have hx := X.1.1
  have hb := X.1.2.1
  have hown := X.1.2.2.2.1
  have hts := X.1.2.2.2.2
  have hK := X.2.2.2.2
  obtain ⟨hn, hnv, hf, hld, hgr, hsB, hn1, hn12, hw, hw0, hpl, hnd, hrk, hso, hrs⟩ := id hI
  have hso9 := hso
  have hP : va_P G.1 vwCl ((wN (b) (z 0) (v 0) (li 0) (st 0) (d 0)) ++ ((wV G (v) (z 0) (nv) (fr) (tt) (zl) (ld) (gk) (ut)) ++ ((wZ G (z) (n) (cu) (bg) (M) (er) (us)) ++ ((wL G (li) (ML)) ++ ((wS G (st) (ns) (w) (MS)) ++ ((wD G (d) (nd) (lo) (ho) (rk)) ++ ((wM G (a) (n) (cu) (bg) ((coF M)) ((goF M)) (er) (us) (ll) (lm) (lh) (nv) (fr) (tt) (gr) ((hdF2 ML)) (ns) (w) (cs) (cl) (nd) (lo) (ho) (so))))))))) H := hP
  have hD : va_D vA ((wN (b) (z 0) (v 0) (li 0) (st 0) (d 0)) ++ ((wV G (v) (z 0) (nv) (fr) (tt) (zl) (ld) (gk) (ut)) ++ ((wZ G (z) (n) (cu) (bg) (M) (er) (us)) ++ ((wL G (li) (ML)) ++ ((wS G (st) (ns) (w) (MS)) ++ ((wD G (d) (nd) (lo) (ho) (rk)) ++ ((wM G (a) (n) (cu) (bg) ((coF M)) ((goF M)) (er) (us) (ll) (lm) (lh) (nv) (fr) (tt) (gr) ((hdF2 ML)) (ns) (w) (cs) (cl) (nd) (lo) (ho) (so))))))))) := hD
  refine lv_aload_n hx hb dL_law_672 rfl (lv_at hl 2 rfl) ?_
  refine lv_aload_n hx hb dL_law_673 rfl (lv_at hl 3 rfl) ?_
  refine lv_iload_n hx hb dL_law_674 rfl (lv_at hl 0 rfl) ?_
  refine lv_iconst (v := (1)) hx hb dL_law_675 (by decide) ?_
  refine lv_iadd hx hb dL_law_676 ?_
  refine nw_top (y := nI (k + 1)) (nI_add (k) (1)) ?_
  refine nw_sld hx hb hsX hsb hsA hS (k := k + 1) (by omega) (by omega) p1 e1 dL_law_677 ?_
  refine lv_aload_n hx hb dL_law_678 rfl (lv_at hl 3 rfl) ?_
  refine lv_iload_n hx hb dL_law_679 rfl (lv_at hl 0 rfl) ?_
  refine lv_iconst (v := (2)) hx hb dL_law_680 (by decide) ?_
  refine lv_iadd hx hb dL_law_681 ?_
  refine nw_top (y := nI (k + 2)) (nI_add (k) (2)) ?_
  refine nw_sld hx hb hsX hsb hsA hS (k := k + 2) (by omega) (by omega) p2 e2 dL_law_682 ?_
  refine lv_aload_n hx hb dL_law_683 rfl (lv_at hl 3 rfl) ?_
  refine lv_iload_n hx hb dL_law_684 rfl (lv_at hl 0 rfl) ?_
  refine lv_iconst (v := (3)) hx hb dL_law_685 (by decide) ?_
  refine lv_iadd hx hb dL_law_686 ?_
  refine nw_top (y := nI (k + 3)) (nI_add (k) (3)) ?_
  refine nw_sld hx hb hsX hsb hsA hS (k := k + 3) (by omega) (by omega) p3 e3 dL_law_687 ?_
  refine nw_Vi (As := [.int (p1), .int (p2), .int (p3)]) (rest := []) (q0 := 0) X (c_X6_section lc G (b) (v) (z) (li) (st) (d) (nv) (fr) (tt) (zl) (ld) (gk) (ut) (n) (cu) (bg) (M) (er) (us) (ML) (ns) (w) (MS) (nd) (lo) (ho) (rk) ((p1)) ((p2)) ((p3)) (by first | assumption | omega) (by first | assumption | omega) (by first | assumption | omega) (by first | assumption | omega) (by first | assumption | omega)) (cwV 3 hts gL_law_X6_section rfl rfl rfl (by decide +kernel) ⟨Nat.le_of_ble_eq_true rfl, Nat.le_of_ble_eq_true rfl⟩) rfl (show vwCl[5]? = some (RX6, TX6, 5) from rfl) (nwSp.gen ([]) ((wN (b) (z 0) (v 0) (li 0) (st 0) (d 0)) ++ ((wV G (v) (z 0) (nv) (fr) (tt) (zl) (ld) (gk) (ut)) ++ ((wZ G (z) (n) (cu) (bg) (M) (er) (us)) ++ ((wL G (li) (ML)) ++ ((wS G (st) (ns) (w) (MS)) ++ ((wD G (d) (nd) (lo) (ho) (rk)))))))) ((wM G (a) (n) (cu) (bg) ((coF M)) ((goF M)) (er) (us) (ll) (lm) (lh) (nv) (fr) (tt) (gr) ((hdF2 ML)) (ns) (w) (cs) (cl) (nd) (lo) (ho) (so))) (f := fun q9 => q9 ++ ((wM G (a) (n) (cu) (bg) ((coF M)) ((goF M)) (er) (us) (ll) (lm) (lh) (nv) (fr) (tt) (gr) ((hdF2 ML)) (ns) (w) (cs) (cl) (nd) (lo) (ho) (so)))) (by simp only [List.append_assoc, List.nil_append, List.append_nil]) (fun q9 => by simp only [List.append_assoc, List.nil_append, List.append_nil])) hP hD hS hA rfl hl.1 rfl (Nat.le_of_ble_eq_true rfl) dL_law_688 ⟨Nat.le_of_ble_eq_true rfl, Nat.le_of_ble_eq_true rfl⟩ (fun r w H locs hp_1 hP hD hS => ?_)
  obtain ⟨Mv_2, hMv_3, rfl, rfl⟩ := hp_1
  simp only [List.append_assoc] at hP hD
  have hP : va_P G.1 vwCl ((wN (b) (z 0) (v 0) (li 0) (st 0) (d 0)) ++ ((wV G (v) (z 0) (nv) (fr) (tt) (zl) (ld) (gk) (ut)) ++ ((wZ G (z) (n) (cu) (bg) (M) (er) (us)) ++ ((wL G (li) (ML)) ++ ((wS G (st) (nwIf (secOk ((p1)) ((p2)) ((p3))) (((p1))).toNatClampNeg ns) (nwIf (secOk ((p1)) ((p2)) ((p3))) (va_up (cutW w (((p1))).toNatClampNeg) (((p2))).toNatClampNeg (((p3))).toNatClampNeg) w) (Mv_2)) ++ ((wD G (d) (nd) (lo) (ho) (rk)) ++ ((wM G (a) (n) (cu) (bg) ((coF M)) ((goF M)) (er) (us) (ll) (lm) (lh) (nv) (fr) (tt) (gr) ((hdF2 ML)) (ns) (w) (cs) (cl) (nd) (lo) (ho) (so))))))))) H := hP
  have hD : va_D vA ((wN (b) (z 0) (v 0) (li 0) (st 0) (d 0)) ++ ((wV G (v) (z 0) (nv) (fr) (tt) (zl) (ld) (gk) (ut)) ++ ((wZ G (z) (n) (cu) (bg) (M) (er) (us)) ++ ((wL G (li) (ML)) ++ ((wS G (st) (nwIf (secOk ((p1)) ((p2)) ((p3))) (((p1))).toNatClampNeg ns) (nwIf (secOk ((p1)) ((p2)) ((p3))) (va_up (cutW w (((p1))).toNatClampNeg) (((p2))).toNatClampNeg (((p3))).toNatClampNeg) w) (Mv_2)) ++ ((wD G (d) (nd) (lo) (ho) (rk)) ++ ((wM G (a) (n) (cu) (bg) ((coF M)) ((goF M)) (er) (us) (ll) (lm) (lh) (nv) (fr) (tt) (gr) ((hdF2 ML)) (ns) (w) (cs) (cl) (nd) (lo) (ho) (so))))))))) := hD
  refine lv_aload_n hx hb dL_law_691 rfl (lv_at hl 1 rfl) ?_
  refine lv_aload_n hx hb dL_law_692 rfl (lv_at hl 3 rfl) ?_
  refine lv_iload_n hx hb dL_law_693 rfl (lv_at hl 0 rfl) ?_
  refine lv_iconst (v := (1)) hx hb dL_law_694 (by decide) ?_
  refine lv_iadd hx hb dL_law_695 ?_
  refine nw_top (y := nI (k + 1)) (nI_add (k) (1)) ?_
  refine nw_sld hx hb hsX hsb hsA hS (k := k + 1) (by omega) (by omega) p1 e1 dL_law_696 ?_
  refine lv_aload_n hx hb dL_law_697 rfl (lv_at hl 3 rfl) ?_
  refine lv_iload_n hx hb dL_law_698 rfl (lv_at hl 0 rfl) ?_
  refine lv_iconst (v := (2)) hx hb dL_law_699 (by decide) ?_
  refine lv_iadd hx hb dL_law_700 ?_
  refine nw_top (y := nI (k + 2)) (nI_add (k) (2)) ?_
  refine nw_sld hx hb hsX hsb hsA hS (k := k + 2) (by omega) (by omega) p2 e2 dL_law_701 ?_
  refine lv_aload_n hx hb dL_law_702 rfl (lv_at hl 3 rfl) ?_
  refine lv_iload_n hx hb dL_law_703 rfl (lv_at hl 0 rfl) ?_
  refine lv_iconst (v := (3)) hx hb dL_law_704 (by decide) ?_
  refine lv_iadd hx hb dL_law_705 ?_
  refine nw_top (y := nI (k + 3)) (nI_add (k) (3)) ?_
  refine nw_sld hx hb hsX hsb hsA hS (k := k + 3) (by omega) (by omega) p3 e3 dL_law_706 ?_
  refine nw_Vi (As := [.int (p1), .int (p2), .int (p3)]) (rest := [.int (nwIf (secOk ((p1)) ((p2)) ((p3))) (nI ((w) (((p2))).toNatClampNeg)) (-2))]) (q0 := 0) X (c_X7_section lc G (a) (n) (cu) (bg) (M) (er) (us) (ll) (lm) (lh) (nv) (fr) (tt) (gr) (ML) (ns) (w) (cs) (cl) (nd) (lo) (ho) (so) ((p1)) ((p2)) ((p3)) (by first | assumption | omega) (by first | assumption | omega) (by first | assumption | omega)) (cwV 3 hts gL_law_X7_section rfl rfl rfl (by decide +kernel) ⟨Nat.le_of_ble_eq_true rfl, Nat.le_of_ble_eq_true rfl⟩) rfl (show vwCl[6]? = some (RX7, TX7, 23) from rfl) (nwSp.gen ((wN (b) (z 0) (v 0) (li 0) (st 0) (d 0)) ++ ((wV G (v) (z 0) (nv) (fr) (tt) (zl) (ld) (gk) (ut)) ++ ((wZ G (z) (n) (cu) (bg) (M) (er) (us)) ++ ((wL G (li) (ML)) ++ ((wS G (st) (nwIf (secOk ((p1)) ((p2)) ((p3))) (((p1))).toNatClampNeg ns) (nwIf (secOk ((p1)) ((p2)) ((p3))) (va_up (cutW w (((p1))).toNatClampNeg) (((p2))).toNatClampNeg (((p3))).toNatClampNeg) w) (Mv_2)) ++ ((wD G (d) (nd) (lo) (ho) (rk)))))))) ((wM G (a) (n) (cu) (bg) ((coF M)) ((goF M)) (er) (us) (ll) (lm) (lh) (nv) (fr) (tt) (gr) ((hdF2 ML)) (ns) (w) (cs) (cl) (nd) (lo) (ho) (so))) ([]) (f := fun q9 => (wN (b) (z 0) (v 0) (li 0) (st 0) (d 0)) ++ ((wV G (v) (z 0) (nv) (fr) (tt) (zl) (ld) (gk) (ut)) ++ ((wZ G (z) (n) (cu) (bg) (M) (er) (us)) ++ ((wL G (li) (ML)) ++ ((wS G (st) (nwIf (secOk ((p1)) ((p2)) ((p3))) (((p1))).toNatClampNeg ns) (nwIf (secOk ((p1)) ((p2)) ((p3))) (va_up (cutW w (((p1))).toNatClampNeg) (((p2))).toNatClampNeg (((p3))).toNatClampNeg) w) (Mv_2)) ++ ((wD G (d) (nd) (lo) (ho) (rk)) ++ (q9))))))) (by simp only [List.append_assoc, List.nil_append, List.append_nil]) (fun q9 => by simp only [List.append_assoc, List.nil_append, List.append_nil])) hP hD hS hA rfl hl.1 rfl (Nat.le_of_ble_eq_true rfl) dL_law_707 ⟨Nat.le_of_ble_eq_true rfl, Nat.le_of_ble_eq_true rfl⟩ (fun r w H locs hp_4 hP hD hS => ?_)
  obtain ⟨rfl, rfl⟩ := hp_4
  have hP : va_P G.1 vwCl ((wN (b) (z 0) (v 0) (li 0) (st 0) (d 0)) ++ ((wV G (v) (z 0) (nv) (fr) (tt) (zl) (ld) (gk) (ut)) ++ ((wZ G (z) (n) (cu) (bg) (M) (er) (us)) ++ ((wL G (li) (ML)) ++ ((wS G (st) (nwIf (secOk ((p1)) ((p2)) ((p3))) (((p1))).toNatClampNeg ns) (nwIf (secOk ((p1)) ((p2)) ((p3))) (va_up (cutW w (((p1))).toNatClampNeg) (((p2))).toNatClampNeg (((p3))).toNatClampNeg) w) (Mv_2)) ++ ((wD G (d) (nd) (lo) (ho) (rk)) ++ ((wM G (a) (n) (cu) (bg) ((coF M)) ((goF M)) (er) (us) (ll) (lm) (lh) (nv) (fr) (tt) (gr) ((hdF2 ML)) (nwIf (secOk ((p1)) ((p2)) ((p3))) (((p1))).toNatClampNeg ns) (nwIf (secOk ((p1)) ((p2)) ((p3))) (va_up (cutW w (((p1))).toNatClampNeg) (((p2))).toNatClampNeg (((p3))).toNatClampNeg) w) (cs) (cl) (nd) (lo) (ho) (so))))))))) H := hP
  have hD : va_D vA ((wN (b) (z 0) (v 0) (li 0) (st 0) (d 0)) ++ ((wV G (v) (z 0) (nv) (fr) (tt) (zl) (ld) (gk) (ut)) ++ ((wZ G (z) (n) (cu) (bg) (M) (er) (us)) ++ ((wL G (li) (ML)) ++ ((wS G (st) (nwIf (secOk ((p1)) ((p2)) ((p3))) (((p1))).toNatClampNeg ns) (nwIf (secOk ((p1)) ((p2)) ((p3))) (va_up (cutW w (((p1))).toNatClampNeg) (((p2))).toNatClampNeg (((p3))).toNatClampNeg) w) (Mv_2)) ++ ((wD G (d) (nd) (lo) (ho) (rk)) ++ ((wM G (a) (n) (cu) (bg) ((coF M)) ((goF M)) (er) (us) (ll) (lm) (lh) (nv) (fr) (tt) (gr) ((hdF2 ML)) (nwIf (secOk ((p1)) ((p2)) ((p3))) (((p1))).toNatClampNeg ns) (nwIf (secOk ((p1)) ((p2)) ((p3))) (va_up (cutW w (((p1))).toNatClampNeg) (((p2))).toNatClampNeg (((p3))).toNatClampNeg) w) (cs) (cl) (nd) (lo) (ho) (so))))))))) := hD
  refine lv_icmp_eq (tgt := 966) hx hb dL_law_710 (by decide) (fun b710_5 => ?_) (fun b710_5 => ?_)
  · skip
    have b710_5 : ((nwIf (secOk ((p1)) ((p2)) ((p3))) (nI ((w) (((p2))).toNatClampNeg)) (-2)) : Int32) = (nwIf (secOk ((p1)) ((p2)) ((p3))) (nI ((w) (((p2))).toNatClampNeg)) (-2)) := b710_5
    exact hK9 (nv) (fr) (tt) (zl) (ld) (gk) (ut) (n) (cu) (bg) (M) (er) (us) (ML) (nwIf (secOk ((p1)) ((p2)) ((p3))) (((p1))).toNatClampNeg ns) (nwIf (secOk ((p1)) ((p2)) ((p3))) (va_up (cutW w (((p1))).toNatClampNeg) (((p2))).toNatClampNeg (((p3))).toNatClampNeg) w) (Mv_2) (nd) (lo) (ho) (rk) (ll) (lm) (lh) (gr) (cs) (cl) (so) _ _ _ (by exact lwI_section hI (by assumption)) (lv_sub hl [0, 1, 2, 3] rfl) hP hD hS
  · skip
    have b710_5 : ¬ (((nwIf (secOk ((p1)) ((p2)) ((p3))) (nI ((w) (((p2))).toNatClampNeg)) (-2)) : Int32) = (nwIf (secOk ((p1)) ((p2)) ((p3))) (nI ((w) (((p2))).toNatClampNeg)) (-2))) := b710_5
    exact absurd rfl b710_5
set_option maxHeartbeats 4000000 in
set_option maxRecDepth 100000 in
theorem law_15 {G : nwG} {b sb : Nat} {z v li st d a : Nat → Nat} {k L : Nat} {xs : Nat → Int32} {vp : Program} {lc : Launch} {ve : Env} {vs : State} {vm : MethodId} {args : Array Value} {vb : List Frame} {vt : Method} {vc : Code} {vA : Nat → Prop} {Q : State → Prop} {nm : String} (X : nwAt vp vm vc cL_law 4 vs args wsL_law RL vt (some .boolean) nm G) (hA : ∀ q, vs.heap.size ≤ q → vA q) (hsX : va_X sb L xs vs vs.heap) (hsb : sb < vs.heap.size) (hsA : ¬ vA sb) (hkL : k + 5 ≤ L) (hL : L ≤ 2560) {p1 p2 p3 p4 : Int32} (e1 : xs (k + 1) = p1) (e2 : xs (k + 2) = p2) (e3 : xs (k + 3) = p3) (e4 : xs (k + 4) = p4) (hK9 : lwK G b sb z v li st d a k vp lc ve vs vm args vb vt vc vA Q) (nv : Nat) (fr tt : Nat → Nat) (zl : Nat → Int32) (ld : Nat → Nat) (gk ut : Nat → Int32) (n : Nat) (cu bg : Nat → Int32) (M : Nat → Nat → Int32) (er us : Int32) (ML : Nat → Nat → Int32) (ns : Nat) (w : Nat → Nat) (MS : Nat → Nat → Int32) (nd : Nat) (lo ho : Nat → Int32) (rk : Nat → Nat) (ll lm lh : Int32) (gr : Nat → Nat) (cs cl : Nat → Int32) (so : Nat → Nat) (hI : lwI nv fr tt ld n cu bg M er us ns w MS nd lo ho rk gr so) (H : Heap) (locs : List Loc) (ls : Array Slot) (hl : lv_has ls 4 [(3, .int (nI k)), (2, .ref (a 0)), (1, .ref b), (0, .ref sb)]) (hP : va_P G.1 vwCl (lwW G b z v li st d a nv fr tt zl ld gk ut n cu bg M er us ML ns w MS nd lo ho rk ll lm lh gr cs cl so) H) (hD : va_D vA (lwW G b z v li st d a nv fr tt zl ld gk ut n cu bg M er us ML ns w MS nd lo ho rk ll lm lh gr cs cl so)) (hS : va_S vA vs.heap H locs) : W vp lc ve room_1 vs vm args vb vt vc H locs 80 1886 Q (F0 vm 715 ls []) := by
  have hx := X.1.1
  have hb := X.1.2.1
  have hown := X.1.2.2.2.1
  have hts := X.1.2.2.2.2
  have hK := X.2.2.2.2
  obtain ⟨hn, hnv, hf, hld, hgr, hsB, hn1, hn12, hw, hw0, hpl, hnd, hrk, hso, hrs⟩ := id hI
  have hso9 := hso
  have hP : va_P G.1 vwCl ((wN (b) (z 0) (v 0) (li 0) (st 0) (d 0)) ++ ((wV G (v) (z 0) (nv) (fr) (tt) (zl) (ld) (gk) (ut)) ++ ((wZ G (z) (n) (cu) (bg) (M) (er) (us)) ++ ((wL G (li) (ML)) ++ ((wS G (st) (ns) (w) (MS)) ++ ((wD G (d) (nd) (lo) (ho) (rk)) ++ ((wM G (a) (n) (cu) (bg) ((coF M)) ((goF M)) (er) (us) (ll) (lm) (lh) (nv) (fr) (tt) (gr) ((hdF2 ML)) (ns) (w) (cs) (cl) (nd) (lo) (ho) (so))))))))) H := hP
  have hD : va_D vA ((wN (b) (z 0) (v 0) (li 0) (st 0) (d 0)) ++ ((wV G (v) (z 0) (nv) (fr) (tt) (zl) (ld) (gk) (ut)) ++ ((wZ G (z) (n) (cu) (bg) (M) (er) (us)) ++ ((wL G (li) (ML)) ++ ((wS G (st) (ns) (w) (MS)) ++ ((wD G (d) (nd) (lo) (ho) (rk)) ++ ((wM G (a) (n) (cu) (bg) ((coF M)) ((goF M)) (er) (us) (ll) (lm) (lh) (nv) (fr) (tt) (gr) ((hdF2 ML)) (ns) (w) (cs) (cl) (nd) (lo) (ho) (so))))))))) := hD
  refine lv_aload_n hx hb dL_law_715 rfl (lv_at hl 2 rfl) ?_
  refine lv_aload_n hx hb dL_law_716 rfl (lv_at hl 3 rfl) ?_
  refine lv_iload_n hx hb dL_law_717 rfl (lv_at hl 0 rfl) ?_
  refine lv_iconst (v := (1)) hx hb dL_law_718 (by decide) ?_
  refine lv_iadd hx hb dL_law_719 ?_
  refine nw_top (y := nI (k + 1)) (nI_add (k) (1)) ?_
  refine nw_sld hx hb hsX hsb hsA hS (k := k + 1) (by omega) (by omega) p1 e1 dL_law_720 ?_
  refine lv_aload_n hx hb dL_law_721 rfl (lv_at hl 3 rfl) ?_
  refine lv_iload_n hx hb dL_law_722 rfl (lv_at hl 0 rfl) ?_
  refine lv_iconst (v := (2)) hx hb dL_law_723 (by decide) ?_
  refine lv_iadd hx hb dL_law_724 ?_
  refine nw_top (y := nI (k + 2)) (nI_add (k) (2)) ?_
  refine nw_sld hx hb hsX hsb hsA hS (k := k + 2) (by omega) (by omega) p2 e2 dL_law_725 ?_
  refine nw_Vi (As := [.int (p1), .int (p2)]) (rest := []) (q0 := 0) X (c_X6_cost lc G (b) (v) (z) (li) (st) (d) (nv) (fr) (tt) (zl) (ld) (gk) (ut) (n) (cu) (bg) (M) (er) (us) (ML) (ns) (w) (MS) (nd) (lo) (ho) (rk) ((p1)) ((p2)) (by first | assumption | omega) (by first | assumption | omega) (by first | assumption | omega)) (cwV 2 hts gL_law_X6_cost rfl rfl rfl (by decide +kernel) ⟨Nat.le_of_ble_eq_true rfl, Nat.le_of_ble_eq_true rfl⟩) rfl (show vwCl[5]? = some (RX6, TX6, 5) from rfl) (nwSp.gen ([]) ((wN (b) (z 0) (v 0) (li 0) (st 0) (d 0)) ++ ((wV G (v) (z 0) (nv) (fr) (tt) (zl) (ld) (gk) (ut)) ++ ((wZ G (z) (n) (cu) (bg) (M) (er) (us)) ++ ((wL G (li) (ML)) ++ ((wS G (st) (ns) (w) (MS)) ++ ((wD G (d) (nd) (lo) (ho) (rk)))))))) ((wM G (a) (n) (cu) (bg) ((coF M)) ((goF M)) (er) (us) (ll) (lm) (lh) (nv) (fr) (tt) (gr) ((hdF2 ML)) (ns) (w) (cs) (cl) (nd) (lo) (ho) (so))) (f := fun q9 => q9 ++ ((wM G (a) (n) (cu) (bg) ((coF M)) ((goF M)) (er) (us) (ll) (lm) (lh) (nv) (fr) (tt) (gr) ((hdF2 ML)) (ns) (w) (cs) (cl) (nd) (lo) (ho) (so)))) (by simp only [List.append_assoc, List.nil_append, List.append_nil]) (fun q9 => by simp only [List.append_assoc, List.nil_append, List.append_nil])) hP hD hS hA rfl hl.1 rfl (Nat.le_of_ble_eq_true rfl) dL_law_726 ⟨Nat.le_of_ble_eq_true rfl, Nat.le_of_ble_eq_true rfl⟩ (fun r w H locs hp_1 hP hD hS => ?_)
  obtain ⟨rfl, rfl⟩ := hp_1
  simp only [List.append_assoc] at hP hD
  have hP : va_P G.1 vwCl ((wN (b) (z 0) (v 0) (li 0) (st 0) (d 0)) ++ ((wV G (v) (z 0) (nv) (fr) (tt) (zl) (ld) (gk) (ut)) ++ ((wZ G (z) (n) (cu) (bg) (M) (er) (us)) ++ ((wL G (li) (ML)) ++ ((wS G (st) (ns) (w) (MS)) ++ ((wD G (d) (nd) (lo) (ho) (rk)) ++ ((wM G (a) (n) (cu) (bg) ((coF M)) ((goF M)) (er) (us) (ll) (lm) (lh) (nv) (fr) (tt) (gr) ((hdF2 ML)) (ns) (w) (cs) (cl) (nd) (lo) (ho) (so))))))))) H := hP
  have hD : va_D vA ((wN (b) (z 0) (v 0) (li 0) (st 0) (d 0)) ++ ((wV G (v) (z 0) (nv) (fr) (tt) (zl) (ld) (gk) (ut)) ++ ((wZ G (z) (n) (cu) (bg) (M) (er) (us)) ++ ((wL G (li) (ML)) ++ ((wS G (st) (ns) (w) (MS)) ++ ((wD G (d) (nd) (lo) (ho) (rk)) ++ ((wM G (a) (n) (cu) (bg) ((coF M)) ((goF M)) (er) (us) (ll) (lm) (lh) (nv) (fr) (tt) (gr) ((hdF2 ML)) (ns) (w) (cs) (cl) (nd) (lo) (ho) (so))))))))) := hD
  refine lv_aload_n hx hb dL_law_729 rfl (lv_at hl 1 rfl) ?_
  refine lv_aload_n hx hb dL_law_730 rfl (lv_at hl 3 rfl) ?_
  refine lv_iload_n hx hb dL_law_731 rfl (lv_at hl 0 rfl) ?_
  refine lv_iconst (v := (1)) hx hb dL_law_732 (by decide) ?_
  refine lv_iadd hx hb dL_law_733 ?_
  refine nw_top (y := nI (k + 1)) (nI_add (k) (1)) ?_
  refine nw_sld hx hb hsX hsb hsA hS (k := k + 1) (by omega) (by omega) p1 e1 dL_law_734 ?_
  refine lv_aload_n hx hb dL_law_735 rfl (lv_at hl 3 rfl) ?_
  refine lv_iload_n hx hb dL_law_736 rfl (lv_at hl 0 rfl) ?_
  refine lv_iconst (v := (2)) hx hb dL_law_737 (by decide) ?_
  refine lv_iadd hx hb dL_law_738 ?_
  refine nw_top (y := nI (k + 2)) (nI_add (k) (2)) ?_
  refine nw_sld hx hb hsX hsb hsA hS (k := k + 2) (by omega) (by omega) p2 e2 dL_law_739 ?_
  refine nw_Vi (As := [.int (p1), .int (p2)]) (rest := [.int (costF (ns) (w) ((p1)) ((p2)))]) (q0 := 0) X (c_X7_cost lc G (a) (n) (cu) (bg) (M) (er) (us) (ll) (lm) (lh) (nv) (fr) (tt) (gr) (ML) (ns) (w) (cs) (cl) (nd) (lo) (ho) (so) ((p1)) ((p2)) (by first | assumption | omega) (by first | assumption | omega) (by first | assumption | omega)) (cwV 2 hts gL_law_X7_cost rfl rfl rfl (by decide +kernel) ⟨Nat.le_of_ble_eq_true rfl, Nat.le_of_ble_eq_true rfl⟩) rfl (show vwCl[6]? = some (RX7, TX7, 23) from rfl) (nwSp.gen ((wN (b) (z 0) (v 0) (li 0) (st 0) (d 0)) ++ ((wV G (v) (z 0) (nv) (fr) (tt) (zl) (ld) (gk) (ut)) ++ ((wZ G (z) (n) (cu) (bg) (M) (er) (us)) ++ ((wL G (li) (ML)) ++ ((wS G (st) (ns) (w) (MS)) ++ ((wD G (d) (nd) (lo) (ho) (rk)))))))) ((wM G (a) (n) (cu) (bg) ((coF M)) ((goF M)) (er) (us) (ll) (lm) (lh) (nv) (fr) (tt) (gr) ((hdF2 ML)) (ns) (w) (cs) (cl) (nd) (lo) (ho) (so))) ([]) (f := fun q9 => (wN (b) (z 0) (v 0) (li 0) (st 0) (d 0)) ++ ((wV G (v) (z 0) (nv) (fr) (tt) (zl) (ld) (gk) (ut)) ++ ((wZ G (z) (n) (cu) (bg) (M) (er) (us)) ++ ((wL G (li) (ML)) ++ ((wS G (st) (ns) (w) (MS)) ++ ((wD G (d) (nd) (lo) (ho) (rk)) ++ (q9))))))) (by simp only [List.append_assoc, List.nil_append, List.append_nil]) (fun q9 => by simp only [List.append_assoc, List.nil_append, List.append_nil])) hP hD hS hA rfl hl.1 rfl (Nat.le_of_ble_eq_true rfl) dL_law_740 ⟨Nat.le_of_ble_eq_true rfl, Nat.le_of_ble_eq_true rfl⟩ (fun r w H locs hp_2 hP hD hS => ?_)
  obtain ⟨csv_3, clv_4, rfl, rfl⟩ := hp_2
  have hP : va_P G.1 vwCl ((wN (b) (z 0) (v 0) (li 0) (st 0) (d 0)) ++ ((wV G (v) (z 0) (nv) (fr) (tt) (zl) (ld) (gk) (ut)) ++ ((wZ G (z) (n) (cu) (bg) (M) (er) (us)) ++ ((wL G (li) (ML)) ++ ((wS G (st) (ns) (w) (MS)) ++ ((wD G (d) (nd) (lo) (ho) (rk)) ++ ((wM G (a) (n) (cu) (bg) ((coF M)) ((goF M)) (er) (us) (ll) (lm) (lh) (nv) (fr) (tt) (gr) ((hdF2 ML)) (ns) (w) (csv_3) (clv_4) (nd) (lo) (ho) (so))))))))) H := hP
  have hD : va_D vA ((wN (b) (z 0) (v 0) (li 0) (st 0) (d 0)) ++ ((wV G (v) (z 0) (nv) (fr) (tt) (zl) (ld) (gk) (ut)) ++ ((wZ G (z) (n) (cu) (bg) (M) (er) (us)) ++ ((wL G (li) (ML)) ++ ((wS G (st) (ns) (w) (MS)) ++ ((wD G (d) (nd) (lo) (ho) (rk)) ++ ((wM G (a) (n) (cu) (bg) ((coF M)) ((goF M)) (er) (us) (ll) (lm) (lh) (nv) (fr) (tt) (gr) ((hdF2 ML)) (ns) (w) (csv_3) (clv_4) (nd) (lo) (ho) (so))))))))) := hD
  refine lv_icmp_eq (tgt := 966) hx hb dL_law_743 (by decide) (fun b743_5 => ?_) (fun b743_5 => ?_)
  · skip
    have b743_5 : ((costF (ns) (w) ((p1)) ((p2))) : Int32) = (costF (ns) (w) ((p1)) ((p2))) := b743_5
    exact hK9 (nv) (fr) (tt) (zl) (ld) (gk) (ut) (n) (cu) (bg) (M) (er) (us) (ML) (ns) (w) (MS) (nd) (lo) (ho) (rk) (ll) (lm) (lh) (gr) (csv_3) (clv_4) (so) _ _ _ (by exact lwI_same hI (by first | assumption | exact hld) (by first | assumption | exact hgr) (by first | assumption | exact hso9)) (lv_sub hl [0, 1, 2, 3] rfl) hP hD hS
  · skip
    have b743_5 : ¬ (((costF (ns) (w) ((p1)) ((p2))) : Int32) = (costF (ns) (w) ((p1)) ((p2)))) := b743_5
    exact absurd rfl b743_5
