/-! printed by wip/gen/x10b.py: contracts, walked row by row -/
set_option maxHeartbeats 4000000 in
set_option maxRecDepth 100000 in
theorem law_6 {G : nwG} {b sb : Nat} {z v li st d a : Nat → Nat} {k L : Nat} {xs : Nat → Int32} {vp : Program} {lc : Launch} {ve : Env} {vs : State} {vm : MethodId} {args : Array Value} {vb : List Frame} {vt : Method} {vc : Code} {vA : Nat → Prop} {Q : State → Prop} {nm : String} (X : nwAt vp vm vc cL_law 4 vs args wsL_law RL vt (some .boolean) nm G) (hA : ∀ q, vs.heap.size ≤ q → vA q) (hsX : va_X sb L xs vs vs.heap) (hsb : sb < vs.heap.size) (hsA : ¬ vA sb) (hkL : k + 5 ≤ L) (hL : L ≤ 2560) {p1 p2 p3 p4 : Int32} (e1 : xs (k + 1) = p1) (e2 : xs (k + 2) = p2) (e3 : xs (k + 3) = p3) (e4 : xs (k + 4) = p4) (hK9 : lwK G b sb z v li st d a k vp lc ve vs vm args vb vt vc vA Q) (nv : Nat) (fr tt : Nat → Nat) (zl : Nat → Int32) (ld : Nat → Nat) (gk ut : Nat → Int32) (n : Nat) (cu bg : Nat → Int32) (M : Nat → Nat → Int32) (er us : Int32) (ML : Nat → Nat → Int32) (ns : Nat) (w : Nat → Nat) (MS : Nat → Nat → Int32) (nd : Nat) (lo ho : Nat → Int32) (rk : Nat → Nat) (ll lm lh : Int32) (gr : Nat → Nat) (cs cl : Nat → Int32) (so : Nat → Nat) (hI : lwI nv fr tt ld n cu bg M er us ns w MS nd lo ho rk gr so) (H : Heap) (locs : List Loc) (ls : Array Slot) (hl : lv_has ls 4 [(3, .int (nI k)), (2, .ref (a 0)), (1, .ref b), (0, .ref sb)]) (hP : va_P G.1 vwCl (lwW G b z v li st d a nv fr tt zl ld gk ut n cu bg M er us ML ns w MS nd lo ho rk ll lm lh gr cs cl so) H) (hD : va_D vA (lwW G b z v li st d a nv fr tt zl ld gk ut n cu bg M er us ML ns w MS nd lo ho rk ll lm lh gr cs cl so)) (hS : va_S vA vs.heap H locs) : W vp lc ve room_1 vs vm args vb vt vc H locs 80 1886 Q (F0 vm 382 ls []) := by
  have hx := X.1.1
  have hb := X.1.2.1
  have hown := X.1.2.2.2.1
  have hts := X.1.2.2.2.2
  have hK := X.2.2.2.2
  obtain ⟨hn, hnv, hf, hld, hgr, hsB, hn1, hn12, hw, hw0, hpl, hnd, hrk, hso, hrs⟩ := id hI
  have hso9 := hso
  have hP : va_P G.1 vwCl ((wN (b) (z 0) (v 0) (li 0) (st 0) (d 0)) ++ ((wV G (v) (z 0) (nv) (fr) (tt) (zl) (ld) (gk) (ut)) ++ ((wZ G (z) (n) (cu) (bg) (M) (er) (us)) ++ ((wL G (li) (ML)) ++ ((wS G (st) (ns) (w) (MS)) ++ ((wD G (d) (nd) (lo) (ho) (rk)) ++ ((wM G (a) (n) (cu) (bg) ((coF M)) ((goF M)) (er) (us) (ll) (lm) (lh) (nv) (fr) (tt) (gr) ((hdF2 ML)) (ns) (w) (cs) (cl) (nd) (lo) (ho) (so))))))))) H := hP
  have hD : va_D vA ((wN (b) (z 0) (v 0) (li 0) (st 0) (d 0)) ++ ((wV G (v) (z 0) (nv) (fr) (tt) (zl) (ld) (gk) (ut)) ++ ((wZ G (z) (n) (cu) (bg) (M) (er) (us)) ++ ((wL G (li) (ML)) ++ ((wS G (st) (ns) (w) (MS)) ++ ((wD G (d) (nd) (lo) (ho) (rk)) ++ ((wM G (a) (n) (cu) (bg) ((coF M)) ((goF M)) (er) (us) (ll) (lm) (lh) (nv) (fr) (tt) (gr) ((hdF2 ML)) (ns) (w) (cs) (cl) (nd) (lo) (ho) (so))))))))) := hD
  refine lv_aload_n hx hb dL_law_382 rfl (lv_at hl 2 rfl) ?_
  refine lv_aload_n hx hb dL_law_383 rfl (lv_at hl 3 rfl) ?_
  refine lv_iload_n hx hb dL_law_384 rfl (lv_at hl 0 rfl) ?_
  refine lv_iconst (v := (1)) hx hb dL_law_385 (by decide) ?_
  refine lv_iadd hx hb dL_law_386 ?_
  refine nw_top (y := nI (k + 1)) (nI_add (k) (1)) ?_
  refine nw_sld hx hb hsX hsb hsA hS (k := k + 1) (by omega) (by omega) p1 e1 dL_law_387 ?_
  refine lv_aload_n hx hb dL_law_388 rfl (lv_at hl 3 rfl) ?_
  refine lv_iload_n hx hb dL_law_389 rfl (lv_at hl 0 rfl) ?_
  refine lv_iconst (v := (2)) hx hb dL_law_390 (by decide) ?_
  refine lv_iadd hx hb dL_law_391 ?_
  refine nw_top (y := nI (k + 2)) (nI_add (k) (2)) ?_
  refine nw_sld hx hb hsX hsb hsA hS (k := k + 2) (by omega) (by omega) p2 e2 dL_law_392 ?_
  refine nw_Vi (As := [.int (p1), .int (p2)]) (rest := []) (q0 := 0) X (c_X6_group lc G (b) (v) (z) (li) (st) (d) (nv) (fr) (tt) (zl) (ld) (gk) (ut) (n) (cu) (bg) (M) (er) (us) (ML) (ns) (w) (MS) (nd) (lo) (ho) (rk) ((p1)) ((p2)) (by first | assumption | omega) (by first | assumption | omega) (by first | assumption | omega) (by first | assumption | omega)) (cwV 2 hts gL_law_X6_group rfl rfl rfl (by decide +kernel) ⟨Nat.le_of_ble_eq_true rfl, Nat.le_of_ble_eq_true rfl⟩) rfl (show vwCl[5]? = some (RX6, TX6, 5) from rfl) (nwSp.gen ([]) ((wN (b) (z 0) (v 0) (li 0) (st 0) (d 0)) ++ ((wV G (v) (z 0) (nv) (fr) (tt) (zl) (ld) (gk) (ut)) ++ ((wZ G (z) (n) (cu) (bg) (M) (er) (us)) ++ ((wL G (li) (ML)) ++ ((wS G (st) (ns) (w) (MS)) ++ ((wD G (d) (nd) (lo) (ho) (rk)))))))) ((wM G (a) (n) (cu) (bg) ((coF M)) ((goF M)) (er) (us) (ll) (lm) (lh) (nv) (fr) (tt) (gr) ((hdF2 ML)) (ns) (w) (cs) (cl) (nd) (lo) (ho) (so))) (f := fun q9 => q9 ++ ((wM G (a) (n) (cu) (bg) ((coF M)) ((goF M)) (er) (us) (ll) (lm) (lh) (nv) (fr) (tt) (gr) ((hdF2 ML)) (ns) (w) (cs) (cl) (nd) (lo) (ho) (so)))) (by simp only [List.append_assoc, List.nil_append, List.append_nil]) (fun q9 => by simp only [List.append_assoc, List.nil_append, List.append_nil])) hP hD hS hA rfl hl.1 rfl (Nat.le_of_ble_eq_true rfl) dL_law_393 ⟨Nat.le_of_ble_eq_true rfl, Nat.le_of_ble_eq_true rfl⟩ (fun r w H locs hp_1 hP hD hS => ?_)
  obtain ⟨ldv_2, hldv_3, rfl, rfl⟩ := hp_1
  simp only [List.append_assoc] at hP hD
  have hP : va_P G.1 vwCl ((wN (b) (z 0) (v 0) (li 0) (st 0) (d 0)) ++ ((wV G (v) (z 0) (nv) (fr) (tt) (zl) (ldv_2) (gk) (ut)) ++ ((wZ G (z) (n) (cu) (bg) (M) (er) (us)) ++ ((wL G (li) (ML)) ++ ((wS G (st) (ns) (w) (MS)) ++ ((wD G (d) (nd) (lo) (ho) (rk)) ++ ((wM G (a) (n) (cu) (bg) ((coF M)) ((goF M)) (er) (us) (ll) (lm) (lh) (nv) (fr) (tt) (gr) ((hdF2 ML)) (ns) (w) (cs) (cl) (nd) (lo) (ho) (so))))))))) H := hP
  have hD : va_D vA ((wN (b) (z 0) (v 0) (li 0) (st 0) (d 0)) ++ ((wV G (v) (z 0) (nv) (fr) (tt) (zl) (ldv_2) (gk) (ut)) ++ ((wZ G (z) (n) (cu) (bg) (M) (er) (us)) ++ ((wL G (li) (ML)) ++ ((wS G (st) (ns) (w) (MS)) ++ ((wD G (d) (nd) (lo) (ho) (rk)) ++ ((wM G (a) (n) (cu) (bg) ((coF M)) ((goF M)) (er) (us) (ll) (lm) (lh) (nv) (fr) (tt) (gr) ((hdF2 ML)) (ns) (w) (cs) (cl) (nd) (lo) (ho) (so))))))))) := hD
  refine lv_aload_n hx hb dL_law_396 rfl (lv_at hl 1 rfl) ?_
  refine lv_aload_n hx hb dL_law_397 rfl (lv_at hl 3 rfl) ?_
  refine lv_iload_n hx hb dL_law_398 rfl (lv_at hl 0 rfl) ?_
  refine lv_iconst (v := (1)) hx hb dL_law_399 (by decide) ?_
  refine lv_iadd hx hb dL_law_400 ?_
  refine nw_top (y := nI (k + 1)) (nI_add (k) (1)) ?_
  refine nw_sld hx hb hsX hsb hsA hS (k := k + 1) (by omega) (by omega) p1 e1 dL_law_401 ?_
  refine lv_aload_n hx hb dL_law_402 rfl (lv_at hl 3 rfl) ?_
  refine lv_iload_n hx hb dL_law_403 rfl (lv_at hl 0 rfl) ?_
  refine lv_iconst (v := (2)) hx hb dL_law_404 (by decide) ?_
  refine lv_iadd hx hb dL_law_405 ?_
  refine nw_top (y := nI (k + 2)) (nI_add (k) (2)) ?_
  refine nw_sld hx hb hsX hsb hsA hS (k := k + 2) (by omega) (by omega) p2 e2 dL_law_406 ?_
  refine nw_Vi (As := [.int (p1), .int (p2)]) (rest := [.int (groupF (n) (nv) (fr) (tt) ((p1)) ((p2)))]) (q0 := 0) X (c_X7_group lc G (a) (n) (cu) (bg) (M) (er) (us) (ll) (lm) (lh) (nv) (fr) (tt) (gr) (ML) (ns) (w) (cs) (cl) (nd) (lo) (ho) (so) ((p1)) ((p2)) (by first | assumption | omega) (by first | assumption | omega) (by first | assumption | omega) (by first | assumption | omega)) (cwV 2 hts gL_law_X7_group rfl rfl rfl (by decide +kernel) ⟨Nat.le_of_ble_eq_true rfl, Nat.le_of_ble_eq_true rfl⟩) rfl (show vwCl[6]? = some (RX7, TX7, 23) from rfl) (nwSp.gen ((wN (b) (z 0) (v 0) (li 0) (st 0) (d 0)) ++ ((wV G (v) (z 0) (nv) (fr) (tt) (zl) (ldv_2) (gk) (ut)) ++ ((wZ G (z) (n) (cu) (bg) (M) (er) (us)) ++ ((wL G (li) (ML)) ++ ((wS G (st) (ns) (w) (MS)) ++ ((wD G (d) (nd) (lo) (ho) (rk)))))))) ((wM G (a) (n) (cu) (bg) ((coF M)) ((goF M)) (er) (us) (ll) (lm) (lh) (nv) (fr) (tt) (gr) ((hdF2 ML)) (ns) (w) (cs) (cl) (nd) (lo) (ho) (so))) ([]) (f := fun q9 => (wN (b) (z 0) (v 0) (li 0) (st 0) (d 0)) ++ ((wV G (v) (z 0) (nv) (fr) (tt) (zl) (ldv_2) (gk) (ut)) ++ ((wZ G (z) (n) (cu) (bg) (M) (er) (us)) ++ ((wL G (li) (ML)) ++ ((wS G (st) (ns) (w) (MS)) ++ ((wD G (d) (nd) (lo) (ho) (rk)) ++ (q9))))))) (by simp only [List.append_assoc, List.nil_append, List.append_nil]) (fun q9 => by simp only [List.append_assoc, List.nil_append, List.append_nil])) hP hD hS hA rfl hl.1 rfl (Nat.le_of_ble_eq_true rfl) dL_law_407 ⟨Nat.le_of_ble_eq_true rfl, Nat.le_of_ble_eq_true rfl⟩ (fun r w H locs hp_4 hP hD hS => ?_)
  obtain ⟨grv_5, hgrv_6, rfl, rfl⟩ := hp_4
  have hP : va_P G.1 vwCl ((wN (b) (z 0) (v 0) (li 0) (st 0) (d 0)) ++ ((wV G (v) (z 0) (nv) (fr) (tt) (zl) (ldv_2) (gk) (ut)) ++ ((wZ G (z) (n) (cu) (bg) (M) (er) (us)) ++ ((wL G (li) (ML)) ++ ((wS G (st) (ns) (w) (MS)) ++ ((wD G (d) (nd) (lo) (ho) (rk)) ++ ((wM G (a) (n) (cu) (bg) ((coF M)) ((goF M)) (er) (us) (ll) (lm) (lh) (nv) (fr) (tt) (grv_5) ((hdF2 ML)) (ns) (w) (cs) (cl) (nd) (lo) (ho) (so))))))))) H := hP
  have hD : va_D vA ((wN (b) (z 0) (v 0) (li 0) (st 0) (d 0)) ++ ((wV G (v) (z 0) (nv) (fr) (tt) (zl) (ldv_2) (gk) (ut)) ++ ((wZ G (z) (n) (cu) (bg) (M) (er) (us)) ++ ((wL G (li) (ML)) ++ ((wS G (st) (ns) (w) (MS)) ++ ((wD G (d) (nd) (lo) (ho) (rk)) ++ ((wM G (a) (n) (cu) (bg) ((coF M)) ((goF M)) (er) (us) (ll) (lm) (lh) (nv) (fr) (tt) (grv_5) ((hdF2 ML)) (ns) (w) (cs) (cl) (nd) (lo) (ho) (so))))))))) := hD
  refine lv_icmp_eq (tgt := 966) hx hb dL_law_410 (by decide) (fun b410_7 => ?_) (fun b410_7 => ?_)
  · skip
    have b410_7 : ((groupF (n) (nv) (fr) (tt) ((p1)) ((p2))) : Int32) = (groupF (n) (nv) (fr) (tt) ((p1)) ((p2))) := b410_7
    exact hK9 (nv) (fr) (tt) (zl) (ldv_2) (gk) (ut) (n) (cu) (bg) (M) (er) (us) (ML) (ns) (w) (MS) (nd) (lo) (ho) (rk) (ll) (lm) (lh) (grv_5) (cs) (cl) (so) _ _ _ (by exact lwI_same hI (by first | assumption | exact hld) (by first | assumption | exact hgr) (by first | assumption | exact hso9)) (lv_sub hl [0, 1, 2, 3] rfl) hP hD hS
  · skip
    have b410_7 : ¬ (((groupF (n) (nv) (fr) (tt) ((p1)) ((p2))) : Int32) = (groupF (n) (nv) (fr) (tt) ((p1)) ((p2)))) := b410_7
    exact absurd rfl b410_7
set_option maxHeartbeats 4000000 in
set_option maxRecDepth 100000 in
theorem law_7 {G : nwG} {b sb : Nat} {z v li st d a : Nat → Nat} {k L : Nat} {xs : Nat → Int32} {vp : Program} {lc : Launch} {ve : Env} {vs : State} {vm : MethodId} {args : Array Value} {vb : List Frame} {vt : Method} {vc : Code} {vA : Nat → Prop} {Q : State → Prop} {nm : String} (X : nwAt vp vm vc cL_law 4 vs args wsL_law RL vt (some .boolean) nm G) (hA : ∀ q, vs.heap.size ≤ q → vA q) (hsX : va_X sb L xs vs vs.heap) (hsb : sb < vs.heap.size) (hsA : ¬ vA sb) (hkL : k + 5 ≤ L) (hL : L ≤ 2560) {p1 p2 p3 p4 : Int32} (e1 : xs (k + 1) = p1) (e2 : xs (k + 2) = p2) (e3 : xs (k + 3) = p3) (e4 : xs (k + 4) = p4) (hK9 : lwK G b sb z v li st d a k vp lc ve vs vm args vb vt vc vA Q) (nv : Nat) (fr tt : Nat → Nat) (zl : Nat → Int32) (ld : Nat → Nat) (gk ut : Nat → Int32) (n : Nat) (cu bg : Nat → Int32) (M : Nat → Nat → Int32) (er us : Int32) (ML : Nat → Nat → Int32) (ns : Nat) (w : Nat → Nat) (MS : Nat → Nat → Int32) (nd : Nat) (lo ho : Nat → Int32) (rk : Nat → Nat) (ll lm lh : Int32) (gr : Nat → Nat) (cs cl : Nat → Int32) (so : Nat → Nat) (hI : lwI nv fr tt ld n cu bg M er us ns w MS nd lo ho rk gr so) (H : Heap) (locs : List Loc) (ls : Array Slot) (hl : lv_has ls 4 [(3, .int (nI k)), (2, .ref (a 0)), (1, .ref b), (0, .ref sb)]) (hP : va_P G.1 vwCl (lwW G b z v li st d a nv fr tt zl ld gk ut n cu bg M er us ML ns w MS nd lo ho rk ll lm lh gr cs cl so) H) (hD : va_D vA (lwW G b z v li st d a nv fr tt zl ld gk ut n cu bg M er us ML ns w MS nd lo ho rk ll lm lh gr cs cl so)) (hS : va_S vA vs.heap H locs) : W vp lc ve room_1 vs vm args vb vt vc H locs 80 1886 Q (F0 vm 415 ls []) := by
  have hx := X.1.1
  have hb := X.1.2.1
  have hown := X.1.2.2.2.1
  have hts := X.1.2.2.2.2
  have hK := X.2.2.2.2
  obtain ⟨hn, hnv, hf, hld, hgr, hsB, hn1, hn12, hw, hw0, hpl, hnd, hrk, hso, hrs⟩ := id hI
  have hso9 := hso
  have hP : va_P G.1 vwCl ((wN (b) (z 0) (v 0) (li 0) (st 0) (d 0)) ++ ((wV G (v) (z 0) (nv) (fr) (tt) (zl) (ld) (gk) (ut)) ++ ((wZ G (z) (n) (cu) (bg) (M) (er) (us)) ++ ((wL G (li) (ML)) ++ ((wS G (st) (ns) (w) (MS)) ++ ((wD G (d) (nd) (lo) (ho) (rk)) ++ ((wM G (a) (n) (cu) (bg) ((coF M)) ((goF M)) (er) (us) (ll) (lm) (lh) (nv) (fr) (tt) (gr) ((hdF2 ML)) (ns) (w) (cs) (cl) (nd) (lo) (ho) (so))))))))) H := hP
  have hD : va_D vA ((wN (b) (z 0) (v 0) (li 0) (st 0) (d 0)) ++ ((wV G (v) (z 0) (nv) (fr) (tt) (zl) (ld) (gk) (ut)) ++ ((wZ G (z) (n) (cu) (bg) (M) (er) (us)) ++ ((wL G (li) (ML)) ++ ((wS G (st) (ns) (w) (MS)) ++ ((wD G (d) (nd) (lo) (ho) (rk)) ++ ((wM G (a) (n) (cu) (bg) ((coF M)) ((goF M)) (er) (us) (ll) (lm) (lh) (nv) (fr) (tt) (gr) ((hdF2 ML)) (ns) (w) (cs) (cl) (nd) (lo) (ho) (so))))))))) := hD
  refine lv_aload_n hx hb dL_law_415 rfl (lv_at hl 2 rfl) ?_
  refine lv_aload_n hx hb dL_law_416 rfl (lv_at hl 3 rfl) ?_
  refine lv_iload_n hx hb dL_law_417 rfl (lv_at hl 0 rfl) ?_
  refine lv_iconst (v := (1)) hx hb dL_law_418 (by decide) ?_
  refine lv_iadd hx hb dL_law_419 ?_
  refine nw_top (y := nI (k + 1)) (nI_add (k) (1)) ?_
  refine nw_sld hx hb hsX hsb hsA hS (k := k + 1) (by omega) (by omega) p1 e1 dL_law_420 ?_
  refine nw_Vi (As := [.int (p1)]) (rest := []) (q0 := 0) X (c_X6_explains lc G (b) (v) (z) (li) (st) (d) (nv) (fr) (tt) (zl) (ld) (gk) (ut) (n) (cu) (bg) (M) (er) (us) (ML) (ns) (w) (MS) (nd) (lo) (ho) (rk) ((p1)) (by first | assumption | omega) (by first | assumption | omega) (by first | assumption | omega) (by first | assumption | omega)) (cwV 1 hts gL_law_X6_explains rfl rfl rfl (by decide +kernel) ⟨Nat.le_of_ble_eq_true rfl, Nat.le_of_ble_eq_true rfl⟩) rfl (show vwCl[5]? = some (RX6, TX6, 5) from rfl) (nwSp.gen ([]) ((wN (b) (z 0) (v 0) (li 0) (st 0) (d 0)) ++ ((wV G (v) (z 0) (nv) (fr) (tt) (zl) (ld) (gk) (ut)) ++ ((wZ G (z) (n) (cu) (bg) (M) (er) (us)) ++ ((wL G (li) (ML)) ++ ((wS G (st) (ns) (w) (MS)) ++ ((wD G (d) (nd) (lo) (ho) (rk)))))))) ((wM G (a) (n) (cu) (bg) ((coF M)) ((goF M)) (er) (us) (ll) (lm) (lh) (nv) (fr) (tt) (gr) ((hdF2 ML)) (ns) (w) (cs) (cl) (nd) (lo) (ho) (so))) (f := fun q9 => q9 ++ ((wM G (a) (n) (cu) (bg) ((coF M)) ((goF M)) (er) (us) (ll) (lm) (lh) (nv) (fr) (tt) (gr) ((hdF2 ML)) (ns) (w) (cs) (cl) (nd) (lo) (ho) (so)))) (by simp only [List.append_assoc, List.nil_append, List.append_nil]) (fun q9 => by simp only [List.append_assoc, List.nil_append, List.append_nil])) hP hD hS hA rfl hl.1 rfl (Nat.le_of_ble_eq_true rfl) dL_law_421 ⟨Nat.le_of_ble_eq_true rfl, Nat.le_of_ble_eq_true rfl⟩ (fun r w H locs hp_1 hP hD hS => ?_)
  obtain ⟨zlv_2, ldv_3, gkv_4, utv_5, hldv_6, rfl, rfl⟩ := hp_1
  simp only [List.append_assoc] at hP hD
  have hP : va_P G.1 vwCl ((wN (b) (z 0) (v 0) (li 0) (st 0) (d 0)) ++ ((wV G (v) (z 0) (nv) (fr) (tt) (zlv_2) (ldv_3) (gkv_4) (utv_5)) ++ ((wZ G (z) (n) (cu) (bg) (M) (er) (us)) ++ ((wL G (li) (ML)) ++ ((wS G (st) (ns) (w) (MS)) ++ ((wD G (d) (nd) (lo) (ho) (rk)) ++ ((wM G (a) (n) (cu) (bg) ((coF M)) ((goF M)) (er) (us) (ll) (lm) (lh) (nv) (fr) (tt) (gr) ((hdF2 ML)) (ns) (w) (cs) (cl) (nd) (lo) (ho) (so))))))))) H := hP
  have hD : va_D vA ((wN (b) (z 0) (v 0) (li 0) (st 0) (d 0)) ++ ((wV G (v) (z 0) (nv) (fr) (tt) (zlv_2) (ldv_3) (gkv_4) (utv_5)) ++ ((wZ G (z) (n) (cu) (bg) (M) (er) (us)) ++ ((wL G (li) (ML)) ++ ((wS G (st) (ns) (w) (MS)) ++ ((wD G (d) (nd) (lo) (ho) (rk)) ++ ((wM G (a) (n) (cu) (bg) ((coF M)) ((goF M)) (er) (us) (ll) (lm) (lh) (nv) (fr) (tt) (gr) ((hdF2 ML)) (ns) (w) (cs) (cl) (nd) (lo) (ho) (so))))))))) := hD
  refine lv_aload_n hx hb dL_law_424 rfl (lv_at hl 1 rfl) ?_
  refine lv_aload_n hx hb dL_law_425 rfl (lv_at hl 3 rfl) ?_
  refine lv_iload_n hx hb dL_law_426 rfl (lv_at hl 0 rfl) ?_
  refine lv_iconst (v := (1)) hx hb dL_law_427 (by decide) ?_
  refine lv_iadd hx hb dL_law_428 ?_
  refine nw_top (y := nI (k + 1)) (nI_add (k) (1)) ?_
  refine nw_sld hx hb hsX hsb hsA hS (k := k + 1) (by omega) (by omega) p1 e1 dL_law_429 ?_
  refine nw_Vi (As := [.int (p1)]) (rest := [.int (explF (n) (nv) (fr) (tt) (lk1 (cu) (bg) (M) (er) (us)) ((p1)))]) (q0 := 0) X (c_X7_explains lc G (a) (n) (cu) (bg) (M) (er) (us) (ll) (lm) (lh) (nv) (fr) (tt) (gr) (ML) (ns) (w) (cs) (cl) (nd) (lo) (ho) (so) ((p1)) (by first | assumption | omega) (by first | assumption | omega) (by first | assumption | omega) (by first | assumption | omega)) (cwV 1 hts gL_law_X7_explains rfl rfl rfl (by decide +kernel) ⟨Nat.le_of_ble_eq_true rfl, Nat.le_of_ble_eq_true rfl⟩) rfl (show vwCl[6]? = some (RX7, TX7, 23) from rfl) (nwSp.gen ((wN (b) (z 0) (v 0) (li 0) (st 0) (d 0)) ++ ((wV G (v) (z 0) (nv) (fr) (tt) (zlv_2) (ldv_3) (gkv_4) (utv_5)) ++ ((wZ G (z) (n) (cu) (bg) (M) (er) (us)) ++ ((wL G (li) (ML)) ++ ((wS G (st) (ns) (w) (MS)) ++ ((wD G (d) (nd) (lo) (ho) (rk)))))))) ((wM G (a) (n) (cu) (bg) ((coF M)) ((goF M)) (er) (us) (ll) (lm) (lh) (nv) (fr) (tt) (gr) ((hdF2 ML)) (ns) (w) (cs) (cl) (nd) (lo) (ho) (so))) ([]) (f := fun q9 => (wN (b) (z 0) (v 0) (li 0) (st 0) (d 0)) ++ ((wV G (v) (z 0) (nv) (fr) (tt) (zlv_2) (ldv_3) (gkv_4) (utv_5)) ++ ((wZ G (z) (n) (cu) (bg) (M) (er) (us)) ++ ((wL G (li) (ML)) ++ ((wS G (st) (ns) (w) (MS)) ++ ((wD G (d) (nd) (lo) (ho) (rk)) ++ (q9))))))) (by simp only [List.append_assoc, List.nil_append, List.append_nil]) (fun q9 => by simp only [List.append_assoc, List.nil_append, List.append_nil])) hP hD hS hA rfl hl.1 rfl (Nat.le_of_ble_eq_true rfl) dL_law_430 ⟨Nat.le_of_ble_eq_true rfl, Nat.le_of_ble_eq_true rfl⟩ (fun r w H locs hp_7 hP hD hS => ?_)
  obtain ⟨llv_8, lmv_9, lhv_10, grv_11, hgrv_12, rfl, rfl⟩ := hp_7
  have hP : va_P G.1 vwCl ((wN (b) (z 0) (v 0) (li 0) (st 0) (d 0)) ++ ((wV G (v) (z 0) (nv) (fr) (tt) (zlv_2) (ldv_3) (gkv_4) (utv_5)) ++ ((wZ G (z) (n) (cu) (bg) (M) (er) (us)) ++ ((wL G (li) (ML)) ++ ((wS G (st) (ns) (w) (MS)) ++ ((wD G (d) (nd) (lo) (ho) (rk)) ++ ((wM G (a) (n) (cu) (bg) ((coF M)) ((goF M)) (er) (us) (llv_8) (lmv_9) (lhv_10) (nv) (fr) (tt) (grv_11) ((hdF2 ML)) (ns) (w) (cs) (cl) (nd) (lo) (ho) (so))))))))) H := hP
  have hD : va_D vA ((wN (b) (z 0) (v 0) (li 0) (st 0) (d 0)) ++ ((wV G (v) (z 0) (nv) (fr) (tt) (zlv_2) (ldv_3) (gkv_4) (utv_5)) ++ ((wZ G (z) (n) (cu) (bg) (M) (er) (us)) ++ ((wL G (li) (ML)) ++ ((wS G (st) (ns) (w) (MS)) ++ ((wD G (d) (nd) (lo) (ho) (rk)) ++ ((wM G (a) (n) (cu) (bg) ((coF M)) ((goF M)) (er) (us) (llv_8) (lmv_9) (lhv_10) (nv) (fr) (tt) (grv_11) ((hdF2 ML)) (ns) (w) (cs) (cl) (nd) (lo) (ho) (so))))))))) := hD
  refine lv_icmp_eq (tgt := 966) hx hb dL_law_433 (by decide) (fun b433_13 => ?_) (fun b433_13 => ?_)
  · skip
    have b433_13 : ((explF (n) (nv) (fr) (tt) (lk1 (cu) (bg) (M) (er) (us)) ((p1))) : Int32) = (explF (n) (nv) (fr) (tt) (lk1 (cu) (bg) (M) (er) (us)) ((p1))) := b433_13
    exact hK9 (nv) (fr) (tt) (zlv_2) (ldv_3) (gkv_4) (utv_5) (n) (cu) (bg) (M) (er) (us) (ML) (ns) (w) (MS) (nd) (lo) (ho) (rk) (llv_8) (lmv_9) (lhv_10) (grv_11) (cs) (cl) (so) _ _ _ (by exact lwI_same hI (by first | assumption | exact hld) (by first | assumption | exact hgr) (by first | assumption | exact hso9)) (lv_sub hl [0, 1, 2, 3] rfl) hP hD hS
  · skip
    have b433_13 : ¬ (((explF (n) (nv) (fr) (tt) (lk1 (cu) (bg) (M) (er) (us)) ((p1))) : Int32) = (explF (n) (nv) (fr) (tt) (lk1 (cu) (bg) (M) (er) (us)) ((p1)))) := b433_13
    exact absurd rfl b433_13
set_option maxHeartbeats 4000000 in
set_option maxRecDepth 100000 in
theorem law_8 {G : nwG} {b sb : Nat} {z v li st d a : Nat → Nat} {k L : Nat} {xs : Nat → Int32} {vp : Program} {lc : Launch} {ve : Env} {vs : State} {vm : MethodId} {args : Array Value} {vb : List Frame} {vt : Method} {vc : Code} {vA : Nat → Prop} {Q : State → Prop} {nm : String} (X : nwAt vp vm vc cL_law 4 vs args wsL_law RL vt (some .boolean) nm G) (hA : ∀ q, vs.heap.size ≤ q → vA q) (hsX : va_X sb L xs vs vs.heap) (hsb : sb < vs.heap.size) (hsA : ¬ vA sb) (hkL : k + 5 ≤ L) (hL : L ≤ 2560) {p1 p2 p3 p4 : Int32} (e1 : xs (k + 1) = p1) (e2 : xs (k + 2) = p2) (e3 : xs (k + 3) = p3) (e4 : xs (k + 4) = p4) (hK9 : lwK G b sb z v li st d a k vp lc ve vs vm args vb vt vc vA Q) (nv : Nat) (fr tt : Nat → Nat) (zl : Nat → Int32) (ld : Nat → Nat) (gk ut : Nat → Int32) (n : Nat) (cu bg : Nat → Int32) (M : Nat → Nat → Int32) (er us : Int32) (ML : Nat → Nat → Int32) (ns : Nat) (w : Nat → Nat) (MS : Nat → Nat → Int32) (nd : Nat) (lo ho : Nat → Int32) (rk : Nat → Nat) (ll lm lh : Int32) (gr : Nat → Nat) (cs cl : Nat → Int32) (so : Nat → Nat) (hI : lwI nv fr tt ld n cu bg M er us ns w MS nd lo ho rk gr so) (H : Heap) (locs : List Loc) (ls : Array Slot) (hl : lv_has ls 4 [(3, .int (nI k)), (2, .ref (a 0)), (1, .ref b), (0, .ref sb)]) (hP : va_P G.1 vwCl (lwW G b z v li st d a nv fr tt zl ld gk ut n cu bg M er us ML ns w MS nd lo ho rk ll lm lh gr cs cl so) H) (hD : va_D vA (lwW G b z v li st d a nv fr tt zl ld gk ut n cu bg M er us ML ns w MS nd lo ho rk ll lm lh gr cs cl so)) (hS : va_S vA vs.heap H locs) : W vp lc ve room_1 vs vm args vb vt vc H locs 80 1886 Q (F0 vm 438 ls []) := by
  have hx := X.1.1
  have hb := X.1.2.1
  have hown := X.1.2.2.2.1
  have hts := X.1.2.2.2.2
  have hK := X.2.2.2.2
  obtain ⟨hn, hnv, hf, hld, hgr, hsB, hn1, hn12, hw, hw0, hpl, hnd, hrk, hso, hrs⟩ := id hI
  have hbd := lwB_bnd (cu := cu) (us := us) hsB
  have hso9 := hso
  have hP : va_P G.1 vwCl ((wN (b) (z 0) (v 0) (li 0) (st 0) (d 0)) ++ ((wV G (v) (z 0) (nv) (fr) (tt) (zl) (ld) (gk) (ut)) ++ ((wZ G (z) (n) (cu) (bg) (M) (er) (us)) ++ ((wL G (li) (ML)) ++ ((wS G (st) (ns) (w) (MS)) ++ ((wD G (d) (nd) (lo) (ho) (rk)) ++ ((wM G (a) (n) (cu) (bg) ((coF M)) ((goF M)) (er) (us) (ll) (lm) (lh) (nv) (fr) (tt) (gr) ((hdF2 ML)) (ns) (w) (cs) (cl) (nd) (lo) (ho) (so))))))))) H := hP
  have hD : va_D vA ((wN (b) (z 0) (v 0) (li 0) (st 0) (d 0)) ++ ((wV G (v) (z 0) (nv) (fr) (tt) (zl) (ld) (gk) (ut)) ++ ((wZ G (z) (n) (cu) (bg) (M) (er) (us)) ++ ((wL G (li) (ML)) ++ ((wS G (st) (ns) (w) (MS)) ++ ((wD G (d) (nd) (lo) (ho) (rk)) ++ ((wM G (a) (n) (cu) (bg) ((coF M)) ((goF M)) (er) (us) (ll) (lm) (lh) (nv) (fr) (tt) (gr) ((hdF2 ML)) (ns) (w) (cs) (cl) (nd) (lo) (ho) (so))))))))) := hD
  refine lv_aload_n hx hb dL_law_438 rfl (lv_at hl 2 rfl) ?_
  refine nw_Vi (As := []) (rest := []) (q0 := 0) X (c_X6_fewest lc G (b) (v) (z) (li) (st) (d) (nv) (fr) (tt) (zl) (ld) (gk) (ut) (n) (cu) (bg) (M) (er) (us) (ML) (ns) (w) (MS) (nd) (lo) (ho) (rk) (by first | assumption | omega) (by first | assumption | omega) (by first | assumption | omega) (by first | assumption | omega) (by first | assumption | omega)) (cwV 0 hts gL_law_X6_fewest rfl rfl rfl (by decide +kernel) ⟨Nat.le_of_ble_eq_true rfl, Nat.le_of_ble_eq_true rfl⟩) rfl (show vwCl[5]? = some (RX6, TX6, 5) from rfl) (nwSp.gen ([]) ((wN (b) (z 0) (v 0) (li 0) (st 0) (d 0)) ++ ((wV G (v) (z 0) (nv) (fr) (tt) (zl) (ld) (gk) (ut)) ++ ((wZ G (z) (n) (cu) (bg) (M) (er) (us)) ++ ((wL G (li) (ML)) ++ ((wS G (st) (ns) (w) (MS)) ++ ((wD G (d) (nd) (lo) (ho) (rk)))))))) ((wM G (a) (n) (cu) (bg) ((coF M)) ((goF M)) (er) (us) (ll) (lm) (lh) (nv) (fr) (tt) (gr) ((hdF2 ML)) (ns) (w) (cs) (cl) (nd) (lo) (ho) (so))) (f := fun q9 => q9 ++ ((wM G (a) (n) (cu) (bg) ((coF M)) ((goF M)) (er) (us) (ll) (lm) (lh) (nv) (fr) (tt) (gr) ((hdF2 ML)) (ns) (w) (cs) (cl) (nd) (lo) (ho) (so)))) (by simp only [List.append_assoc, List.nil_append, List.append_nil]) (fun q9 => by simp only [List.append_assoc, List.nil_append, List.append_nil])) hP hD hS hA rfl hl.1 rfl (Nat.le_of_ble_eq_true rfl) dL_law_439 ⟨Nat.le_of_ble_eq_true rfl, Nat.le_of_ble_eq_true rfl⟩ (fun r w H locs hp_1 hP hD hS => ?_)
  obtain ⟨zlv_2, ldv_3, gkv_4, utv_5, hldv_6, rfl, rfl⟩ := hp_1
  simp only [List.append_assoc] at hP hD
  have hP : va_P G.1 vwCl ((wN (b) (z 0) (v 0) (li 0) (st 0) (d 0)) ++ ((wV G (v) (z 0) (nv) (fr) (tt) (zlv_2) (ldv_3) (gkv_4) (utv_5)) ++ ((wZ G (z) (n) (cu) (bg) (M) (er) (us)) ++ ((wL G (li) (ML)) ++ ((wS G (st) (ns) (w) (MS)) ++ ((wD G (d) (nd) (lo) (ho) (rk)) ++ ((wM G (a) (n) (cu) (bg) ((coF M)) ((goF M)) (er) (us) (ll) (lm) (lh) (nv) (fr) (tt) (gr) ((hdF2 ML)) (ns) (w) (cs) (cl) (nd) (lo) (ho) (so))))))))) H := hP
  have hD : va_D vA ((wN (b) (z 0) (v 0) (li 0) (st 0) (d 0)) ++ ((wV G (v) (z 0) (nv) (fr) (tt) (zlv_2) (ldv_3) (gkv_4) (utv_5)) ++ ((wZ G (z) (n) (cu) (bg) (M) (er) (us)) ++ ((wL G (li) (ML)) ++ ((wS G (st) (ns) (w) (MS)) ++ ((wD G (d) (nd) (lo) (ho) (rk)) ++ ((wM G (a) (n) (cu) (bg) ((coF M)) ((goF M)) (er) (us) (ll) (lm) (lh) (nv) (fr) (tt) (gr) ((hdF2 ML)) (ns) (w) (cs) (cl) (nd) (lo) (ho) (so))))))))) := hD
  refine lv_aload_n hx hb dL_law_442 rfl (lv_at hl 1 rfl) ?_
  refine nw_Vi (As := []) (rest := [.int (fewF (n) (nv) (fr) (tt) (lk1 (cu) (bg) (M) (er) (us)))]) (q0 := 0) X (c_X7_fewest lc G (a) (n) (cu) (bg) (M) (er) (us) (ll) (lm) (lh) (nv) (fr) (tt) (gr) (ML) (ns) (w) (cs) (cl) (nd) (lo) (ho) (so) (by first | assumption | omega) (by first | assumption | omega) (by first | assumption | omega) (by first | assumption | omega)) (cwV 0 hts gL_law_X7_fewest rfl rfl rfl (by decide +kernel) ⟨Nat.le_of_ble_eq_true rfl, Nat.le_of_ble_eq_true rfl⟩) rfl (show vwCl[6]? = some (RX7, TX7, 23) from rfl) (nwSp.gen ((wN (b) (z 0) (v 0) (li 0) (st 0) (d 0)) ++ ((wV G (v) (z 0) (nv) (fr) (tt) (zlv_2) (ldv_3) (gkv_4) (utv_5)) ++ ((wZ G (z) (n) (cu) (bg) (M) (er) (us)) ++ ((wL G (li) (ML)) ++ ((wS G (st) (ns) (w) (MS)) ++ ((wD G (d) (nd) (lo) (ho) (rk)))))))) ((wM G (a) (n) (cu) (bg) ((coF M)) ((goF M)) (er) (us) (ll) (lm) (lh) (nv) (fr) (tt) (gr) ((hdF2 ML)) (ns) (w) (cs) (cl) (nd) (lo) (ho) (so))) ([]) (f := fun q9 => (wN (b) (z 0) (v 0) (li 0) (st 0) (d 0)) ++ ((wV G (v) (z 0) (nv) (fr) (tt) (zlv_2) (ldv_3) (gkv_4) (utv_5)) ++ ((wZ G (z) (n) (cu) (bg) (M) (er) (us)) ++ ((wL G (li) (ML)) ++ ((wS G (st) (ns) (w) (MS)) ++ ((wD G (d) (nd) (lo) (ho) (rk)) ++ (q9))))))) (by simp only [List.append_assoc, List.nil_append, List.append_nil]) (fun q9 => by simp only [List.append_assoc, List.nil_append, List.append_nil])) hP hD hS hA rfl hl.1 rfl (Nat.le_of_ble_eq_true rfl) dL_law_443 ⟨Nat.le_of_ble_eq_true rfl, Nat.le_of_ble_eq_true rfl⟩ (fun r w H locs hp_7 hP hD hS => ?_)
  obtain ⟨llv_8, lmv_9, lhv_10, grv_11, hgrv_12, rfl, rfl⟩ := hp_7
  have hP : va_P G.1 vwCl ((wN (b) (z 0) (v 0) (li 0) (st 0) (d 0)) ++ ((wV G (v) (z 0) (nv) (fr) (tt) (zlv_2) (ldv_3) (gkv_4) (utv_5)) ++ ((wZ G (z) (n) (cu) (bg) (M) (er) (us)) ++ ((wL G (li) (ML)) ++ ((wS G (st) (ns) (w) (MS)) ++ ((wD G (d) (nd) (lo) (ho) (rk)) ++ ((wM G (a) (n) (cu) (bg) ((coF M)) ((goF M)) (er) (us) (llv_8) (lmv_9) (lhv_10) (nv) (fr) (tt) (grv_11) ((hdF2 ML)) (ns) (w) (cs) (cl) (nd) (lo) (ho) (so))))))))) H := hP
  have hD : va_D vA ((wN (b) (z 0) (v 0) (li 0) (st 0) (d 0)) ++ ((wV G (v) (z 0) (nv) (fr) (tt) (zlv_2) (ldv_3) (gkv_4) (utv_5)) ++ ((wZ G (z) (n) (cu) (bg) (M) (er) (us)) ++ ((wL G (li) (ML)) ++ ((wS G (st) (ns) (w) (MS)) ++ ((wD G (d) (nd) (lo) (ho) (rk)) ++ ((wM G (a) (n) (cu) (bg) ((coF M)) ((goF M)) (er) (us) (llv_8) (lmv_9) (lhv_10) (nv) (fr) (tt) (grv_11) ((hdF2 ML)) (ns) (w) (cs) (cl) (nd) (lo) (ho) (so))))))))) := hD
  refine lv_icmp_eq (tgt := 966) hx hb dL_law_446 (by decide) (fun b446_13 => ?_) (fun b446_13 => ?_)
  · skip
    have b446_13 : ((fewF (n) (nv) (fr) (tt) (lk1 (cu) (bg) (M) (er) (us))) : Int32) = (fewF (n) (nv) (fr) (tt) (lk1 (cu) (bg) (M) (er) (us))) := b446_13
    exact hK9 (nv) (fr) (tt) (zlv_2) (ldv_3) (gkv_4) (utv_5) (n) (cu) (bg) (M) (er) (us) (ML) (ns) (w) (MS) (nd) (lo) (ho) (rk) (llv_8) (lmv_9) (lhv_10) (grv_11) (cs) (cl) (so) _ _ _ (by exact lwI_same hI (by first | assumption | exact hld) (by first | assumption | exact hgr) (by first | assumption | exact hso9)) (lv_sub hl [0, 1, 2, 3] rfl) hP hD hS
  · skip
    have b446_13 : ¬ (((fewF (n) (nv) (fr) (tt) (lk1 (cu) (bg) (M) (er) (us))) : Int32) = (fewF (n) (nv) (fr) (tt) (lk1 (cu) (bg) (M) (er) (us)))) := b446_13
    exact absurd rfl b446_13
set_option maxHeartbeats 4000000 in
set_option maxRecDepth 100000 in
theorem law_9 {G : nwG} {b sb : Nat} {z v li st d a : Nat → Nat} {k L : Nat} {xs : Nat → Int32} {vp : Program} {lc : Launch} {ve : Env} {vs : State} {vm : MethodId} {args : Array Value} {vb : List Frame} {vt : Method} {vc : Code} {vA : Nat → Prop} {Q : State → Prop} {nm : String} (X : nwAt vp vm vc cL_law 4 vs args wsL_law RL vt (some .boolean) nm G) (hA : ∀ q, vs.heap.size ≤ q → vA q) (hsX : va_X sb L xs vs vs.heap) (hsb : sb < vs.heap.size) (hsA : ¬ vA sb) (hkL : k + 5 ≤ L) (hL : L ≤ 2560) {p1 p2 p3 p4 : Int32} (e1 : xs (k + 1) = p1) (e2 : xs (k + 2) = p2) (e3 : xs (k + 3) = p3) (e4 : xs (k + 4) = p4) (hK9 : lwK G b sb z v li st d a k vp lc ve vs vm args vb vt vc vA Q) (nv : Nat) (fr tt : Nat → Nat) (zl : Nat → Int32) (ld : Nat → Nat) (gk ut : Nat → Int32) (n : Nat) (cu bg : Nat → Int32) (M : Nat → Nat → Int32) (er us : Int32) (ML : Nat → Nat → Int32) (ns : Nat) (w : Nat → Nat) (MS : Nat → Nat → Int32) (nd : Nat) (lo ho : Nat → Int32) (rk : Nat → Nat) (ll lm lh : Int32) (gr : Nat → Nat) (cs cl : Nat → Int32) (so : Nat → Nat) (hI : lwI nv fr tt ld n cu bg M er us ns w MS nd lo ho rk gr so) (H : Heap) (locs : List Loc) (ls : Array Slot) (hl : lv_has ls 4 [(3, .int (nI k)), (2, .ref (a 0)), (1, .ref b), (0, .ref sb)]) (hP : va_P G.1 vwCl (lwW G b z v li st d a nv fr tt zl ld gk ut n cu bg M er us ML ns w MS nd lo ho rk ll lm lh gr cs cl so) H) (hD : va_D vA (lwW G b z v li st d a nv fr tt zl ld gk ut n cu bg M er us ML ns w MS nd lo ho rk ll lm lh gr cs cl so)) (hS : va_S vA vs.heap H locs) : W vp lc ve room_1 vs vm args vb vt vc H locs 80 1886 Q (F0 vm 451 ls []) := by
  have hx := X.1.1
  have hb := X.1.2.1
  have hown := X.1.2.2.2.1
  have hts := X.1.2.2.2.2
  have hK := X.2.2.2.2
  obtain ⟨hn, hnv, hf, hld, hgr, hsB, hn1, hn12, hw, hw0, hpl, hnd, hrk, hso, hrs⟩ := id hI
  have hso9 := hso
  have hP : va_P G.1 vwCl ((wN (b) (z 0) (v 0) (li 0) (st 0) (d 0)) ++ ((wV G (v) (z 0) (nv) (fr) (tt) (zl) (ld) (gk) (ut)) ++ ((wZ G (z) (n) (cu) (bg) (M) (er) (us)) ++ ((wL G (li) (ML)) ++ ((wS G (st) (ns) (w) (MS)) ++ ((wD G (d) (nd) (lo) (ho) (rk)) ++ ((wM G (a) (n) (cu) (bg) ((coF M)) ((goF M)) (er) (us) (ll) (lm) (lh) (nv) (fr) (tt) (gr) ((hdF2 ML)) (ns) (w) (cs) (cl) (nd) (lo) (ho) (so))))))))) H := hP
  have hD : va_D vA ((wN (b) (z 0) (v 0) (li 0) (st 0) (d 0)) ++ ((wV G (v) (z 0) (nv) (fr) (tt) (zl) (ld) (gk) (ut)) ++ ((wZ G (z) (n) (cu) (bg) (M) (er) (us)) ++ ((wL G (li) (ML)) ++ ((wS G (st) (ns) (w) (MS)) ++ ((wD G (d) (nd) (lo) (ho) (rk)) ++ ((wM G (a) (n) (cu) (bg) ((coF M)) ((goF M)) (er) (us) (ll) (lm) (lh) (nv) (fr) (tt) (gr) ((hdF2 ML)) (ns) (w) (cs) (cl) (nd) (lo) (ho) (so))))))))) := hD
  refine lv_aload_n hx hb dL_law_451 rfl (lv_at hl 2 rfl) ?_
  refine lv_aload_n hx hb dL_law_452 rfl (lv_at hl 3 rfl) ?_
  refine lv_iload_n hx hb dL_law_453 rfl (lv_at hl 0 rfl) ?_
  refine lv_iconst (v := (1)) hx hb dL_law_454 (by decide) ?_
  refine lv_iadd hx hb dL_law_455 ?_
  refine nw_top (y := nI (k + 1)) (nI_add (k) (1)) ?_
  refine nw_sld hx hb hsX hsb hsA hS (k := k + 1) (by omega) (by omega) p1 e1 dL_law_456 ?_
  refine lv_aload_n hx hb dL_law_457 rfl (lv_at hl 3 rfl) ?_
  refine lv_iload_n hx hb dL_law_458 rfl (lv_at hl 0 rfl) ?_
  refine lv_iconst (v := (2)) hx hb dL_law_459 (by decide) ?_
  refine lv_iadd hx hb dL_law_460 ?_
  refine nw_top (y := nI (k + 2)) (nI_add (k) (2)) ?_
  refine nw_sld hx hb hsX hsb hsA hS (k := k + 2) (by omega) (by omega) p2 e2 dL_law_461 ?_
  refine lv_aload_n hx hb dL_law_462 rfl (lv_at hl 3 rfl) ?_
  refine lv_iload_n hx hb dL_law_463 rfl (lv_at hl 0 rfl) ?_
  refine lv_iconst (v := (3)) hx hb dL_law_464 (by decide) ?_
  refine lv_iadd hx hb dL_law_465 ?_
  refine nw_top (y := nI (k + 3)) (nI_add (k) (3)) ?_
  refine nw_sld hx hb hsX hsb hsA hS (k := k + 3) (by omega) (by omega) p3 e3 dL_law_466 ?_
  refine nw_Vi (As := [.int (p1), .int (p2), .int (p3)]) (rest := []) (q0 := 0) X (c_X6_sample lc G (b) (v) (z) (li) (st) (d) (nv) (fr) (tt) (zl) (ld) (gk) (ut) (n) (cu) (bg) (M) (er) (us) (ML) (ns) (w) (MS) (nd) (lo) (ho) (rk) ((p1)) ((p2)) ((p3)) ) (cwV 3 hts gL_law_X6_sample rfl rfl rfl (by decide +kernel) ⟨Nat.le_of_ble_eq_true rfl, Nat.le_of_ble_eq_true rfl⟩) rfl (show vwCl[5]? = some (RX6, TX6, 5) from rfl) (nwSp.gen ([]) ((wN (b) (z 0) (v 0) (li 0) (st 0) (d 0)) ++ ((wV G (v) (z 0) (nv) (fr) (tt) (zl) (ld) (gk) (ut)) ++ ((wZ G (z) (n) (cu) (bg) (M) (er) (us)) ++ ((wL G (li) (ML)) ++ ((wS G (st) (ns) (w) (MS)) ++ ((wD G (d) (nd) (lo) (ho) (rk)))))))) ((wM G (a) (n) (cu) (bg) ((coF M)) ((goF M)) (er) (us) (ll) (lm) (lh) (nv) (fr) (tt) (gr) ((hdF2 ML)) (ns) (w) (cs) (cl) (nd) (lo) (ho) (so))) (f := fun q9 => q9 ++ ((wM G (a) (n) (cu) (bg) ((coF M)) ((goF M)) (er) (us) (ll) (lm) (lh) (nv) (fr) (tt) (gr) ((hdF2 ML)) (ns) (w) (cs) (cl) (nd) (lo) (ho) (so)))) (by simp only [List.append_assoc, List.nil_append, List.append_nil]) (fun q9 => by simp only [List.append_assoc, List.nil_append, List.append_nil])) hP hD hS hA rfl hl.1 rfl (Nat.le_of_ble_eq_true rfl) dL_law_467 ⟨Nat.le_of_ble_eq_true rfl, Nat.le_of_ble_eq_true rfl⟩ (fun r w H locs hp_1 hP hD hS => ?_)
  obtain ⟨rfl, rfl⟩ := hp_1
  simp only [List.append_assoc] at hP hD
  have hP : va_P G.1 vwCl ((wN (b) (z 0) (v 0) (li 0) (st 0) (d 0)) ++ ((wV G (v) (z 0) (nv) (fr) (tt) (zl) (ld) (gk) (ut)) ++ ((wZ G (z) (n) (cu) (bg) (M) (er) (us)) ++ ((wL G (li) (nwIf (sampOk ((p1)) ((p2)) ((p3))) (nwU2 ML (((p1))).toNatClampNeg (((p2))).toNatClampNeg ((p3))) ML)) ++ ((wS G (st) (ns) (w) (MS)) ++ ((wD G (d) (nd) (lo) (ho) (rk)) ++ ((wM G (a) (n) (cu) (bg) ((coF M)) ((goF M)) (er) (us) (ll) (lm) (lh) (nv) (fr) (tt) (gr) ((hdF2 ML)) (ns) (w) (cs) (cl) (nd) (lo) (ho) (so))))))))) H := hP
  have hD : va_D vA ((wN (b) (z 0) (v 0) (li 0) (st 0) (d 0)) ++ ((wV G (v) (z 0) (nv) (fr) (tt) (zl) (ld) (gk) (ut)) ++ ((wZ G (z) (n) (cu) (bg) (M) (er) (us)) ++ ((wL G (li) (nwIf (sampOk ((p1)) ((p2)) ((p3))) (nwU2 ML (((p1))).toNatClampNeg (((p2))).toNatClampNeg ((p3))) ML)) ++ ((wS G (st) (ns) (w) (MS)) ++ ((wD G (d) (nd) (lo) (ho) (rk)) ++ ((wM G (a) (n) (cu) (bg) ((coF M)) ((goF M)) (er) (us) (ll) (lm) (lh) (nv) (fr) (tt) (gr) ((hdF2 ML)) (ns) (w) (cs) (cl) (nd) (lo) (ho) (so))))))))) := hD
  refine lv_aload_n hx hb dL_law_470 rfl (lv_at hl 1 rfl) ?_
  refine lv_aload_n hx hb dL_law_471 rfl (lv_at hl 3 rfl) ?_
  refine lv_iload_n hx hb dL_law_472 rfl (lv_at hl 0 rfl) ?_
  refine lv_iconst (v := (1)) hx hb dL_law_473 (by decide) ?_
  refine lv_iadd hx hb dL_law_474 ?_
  refine nw_top (y := nI (k + 1)) (nI_add (k) (1)) ?_
  refine nw_sld hx hb hsX hsb hsA hS (k := k + 1) (by omega) (by omega) p1 e1 dL_law_475 ?_
  refine lv_aload_n hx hb dL_law_476 rfl (lv_at hl 3 rfl) ?_
  refine lv_iload_n hx hb dL_law_477 rfl (lv_at hl 0 rfl) ?_
  refine lv_iconst (v := (2)) hx hb dL_law_478 (by decide) ?_
  refine lv_iadd hx hb dL_law_479 ?_
  refine nw_top (y := nI (k + 2)) (nI_add (k) (2)) ?_
  refine nw_sld hx hb hsX hsb hsA hS (k := k + 2) (by omega) (by omega) p2 e2 dL_law_480 ?_
  refine lv_aload_n hx hb dL_law_481 rfl (lv_at hl 3 rfl) ?_
  refine lv_iload_n hx hb dL_law_482 rfl (lv_at hl 0 rfl) ?_
  refine lv_iconst (v := (3)) hx hb dL_law_483 (by decide) ?_
  refine lv_iadd hx hb dL_law_484 ?_
  refine nw_top (y := nI (k + 3)) (nI_add (k) (3)) ?_
  refine nw_sld hx hb hsX hsb hsA hS (k := k + 3) (by omega) (by omega) p3 e3 dL_law_485 ?_
  refine nw_Vi (As := [.int (p1), .int (p2), .int (p3)]) (rest := [.int (nwIf (sampOk ((p1)) ((p2)) ((p3))) 1 (-2))]) (q0 := 0) X (c_X7_sample lc G (a) (n) (cu) (bg) (M) (er) (us) (ll) (lm) (lh) (nv) (fr) (tt) (gr) (ML) (ns) (w) (cs) (cl) (nd) (lo) (ho) (so) ((p1)) ((p2)) ((p3)) ) (cwV 3 hts gL_law_X7_sample rfl rfl rfl (by decide +kernel) ⟨Nat.le_of_ble_eq_true rfl, Nat.le_of_ble_eq_true rfl⟩) rfl (show vwCl[6]? = some (RX7, TX7, 23) from rfl) (nwSp.gen ((wN (b) (z 0) (v 0) (li 0) (st 0) (d 0)) ++ ((wV G (v) (z 0) (nv) (fr) (tt) (zl) (ld) (gk) (ut)) ++ ((wZ G (z) (n) (cu) (bg) (M) (er) (us)) ++ ((wL G (li) (nwIf (sampOk ((p1)) ((p2)) ((p3))) (nwU2 ML (((p1))).toNatClampNeg (((p2))).toNatClampNeg ((p3))) ML)) ++ ((wS G (st) (ns) (w) (MS)) ++ ((wD G (d) (nd) (lo) (ho) (rk)))))))) ((wM G (a) (n) (cu) (bg) ((coF M)) ((goF M)) (er) (us) (ll) (lm) (lh) (nv) (fr) (tt) (gr) ((hdF2 ML)) (ns) (w) (cs) (cl) (nd) (lo) (ho) (so))) ([]) (f := fun q9 => (wN (b) (z 0) (v 0) (li 0) (st 0) (d 0)) ++ ((wV G (v) (z 0) (nv) (fr) (tt) (zl) (ld) (gk) (ut)) ++ ((wZ G (z) (n) (cu) (bg) (M) (er) (us)) ++ ((wL G (li) (nwIf (sampOk ((p1)) ((p2)) ((p3))) (nwU2 ML (((p1))).toNatClampNeg (((p2))).toNatClampNeg ((p3))) ML)) ++ ((wS G (st) (ns) (w) (MS)) ++ ((wD G (d) (nd) (lo) (ho) (rk)) ++ (q9))))))) (by simp only [List.append_assoc, List.nil_append, List.append_nil]) (fun q9 => by simp only [List.append_assoc, List.nil_append, List.append_nil])) hP hD hS hA rfl hl.1 rfl (Nat.le_of_ble_eq_true rfl) dL_law_486 ⟨Nat.le_of_ble_eq_true rfl, Nat.le_of_ble_eq_true rfl⟩ (fun r w H locs hp_2 hP hD hS => ?_)
  obtain ⟨rfl, rfl⟩ := hp_2
  have hP : va_P G.1 vwCl ((wN (b) (z 0) (v 0) (li 0) (st 0) (d 0)) ++ ((wV G (v) (z 0) (nv) (fr) (tt) (zl) (ld) (gk) (ut)) ++ ((wZ G (z) (n) (cu) (bg) (M) (er) (us)) ++ ((wL G (li) (nwIf (sampOk ((p1)) ((p2)) ((p3))) (nwU2 ML (((p1))).toNatClampNeg (((p2))).toNatClampNeg ((p3))) ML)) ++ ((wS G (st) (ns) (w) (MS)) ++ ((wD G (d) (nd) (lo) (ho) (rk)) ++ ((wM G (a) (n) (cu) (bg) ((coF M)) ((goF M)) (er) (us) (ll) (lm) (lh) (nv) (fr) (tt) (gr) ((hdF2 (nwIf (sampOk ((p1)) ((p2)) ((p3))) (nwU2 ML (((p1))).toNatClampNeg (((p2))).toNatClampNeg ((p3))) ML))) (ns) (w) (cs) (cl) (nd) (lo) (ho) (so))))))))) H := hP
  have hD : va_D vA ((wN (b) (z 0) (v 0) (li 0) (st 0) (d 0)) ++ ((wV G (v) (z 0) (nv) (fr) (tt) (zl) (ld) (gk) (ut)) ++ ((wZ G (z) (n) (cu) (bg) (M) (er) (us)) ++ ((wL G (li) (nwIf (sampOk ((p1)) ((p2)) ((p3))) (nwU2 ML (((p1))).toNatClampNeg (((p2))).toNatClampNeg ((p3))) ML)) ++ ((wS G (st) (ns) (w) (MS)) ++ ((wD G (d) (nd) (lo) (ho) (rk)) ++ ((wM G (a) (n) (cu) (bg) ((coF M)) ((goF M)) (er) (us) (ll) (lm) (lh) (nv) (fr) (tt) (gr) ((hdF2 (nwIf (sampOk ((p1)) ((p2)) ((p3))) (nwU2 ML (((p1))).toNatClampNeg (((p2))).toNatClampNeg ((p3))) ML))) (ns) (w) (cs) (cl) (nd) (lo) (ho) (so))))))))) := hD
  refine lv_icmp_eq (tgt := 966) hx hb dL_law_489 (by decide) (fun b489_3 => ?_) (fun b489_3 => ?_)
  · skip
    have b489_3 : ((nwIf (sampOk ((p1)) ((p2)) ((p3))) 1 (-2)) : Int32) = (nwIf (sampOk ((p1)) ((p2)) ((p3))) 1 (-2)) := b489_3
    exact hK9 (nv) (fr) (tt) (zl) (ld) (gk) (ut) (n) (cu) (bg) (M) (er) (us) (nwIf (sampOk ((p1)) ((p2)) ((p3))) (nwU2 ML (((p1))).toNatClampNeg (((p2))).toNatClampNeg ((p3))) ML) (ns) (w) (MS) (nd) (lo) (ho) (rk) (ll) (lm) (lh) (gr) (cs) (cl) (so) _ _ _ (by exact lwI_same hI (by first | assumption | exact hld) (by first | assumption | exact hgr) (by first | assumption | exact hso9)) (lv_sub hl [0, 1, 2, 3] rfl) hP hD hS
  · skip
    have b489_3 : ¬ (((nwIf (sampOk ((p1)) ((p2)) ((p3))) 1 (-2)) : Int32) = (nwIf (sampOk ((p1)) ((p2)) ((p3))) 1 (-2))) := b489_3
    exact absurd rfl b489_3
set_option maxHeartbeats 4000000 in
set_option maxRecDepth 100000 in
theorem law_10 {G : nwG} {b sb : Nat} {z v li st d a : Nat → Nat} {k L : Nat} {xs : Nat → Int32} {vp : Program} {lc : Launch} {ve : Env} {vs : State} {vm : MethodId} {args : Array Value} {vb : List Frame} {vt : Method} {vc : Code} {vA : Nat → Prop} {Q : State → Prop} {nm : String} (X : nwAt vp vm vc cL_law 4 vs args wsL_law RL vt (some .boolean) nm G) (hA : ∀ q, vs.heap.size ≤ q → vA q) (hsX : va_X sb L xs vs vs.heap) (hsb : sb < vs.heap.size) (hsA : ¬ vA sb) (hkL : k + 5 ≤ L) (hL : L ≤ 2560) {p1 p2 p3 p4 : Int32} (e1 : xs (k + 1) = p1) (e2 : xs (k + 2) = p2) (e3 : xs (k + 3) = p3) (e4 : xs (k + 4) = p4) (hK9 : lwK G b sb z v li st d a k vp lc ve vs vm args vb vt vc vA Q) (nv : Nat) (fr tt : Nat → Nat) (zl : Nat → Int32) (ld : Nat → Nat) (gk ut : Nat → Int32) (n : Nat) (cu bg : Nat → Int32) (M : Nat → Nat → Int32) (er us : Int32) (ML : Nat → Nat → Int32) (ns : Nat) (w : Nat → Nat) (MS : Nat → Nat → Int32) (nd : Nat) (lo ho : Nat → Int32) (rk : Nat → Nat) (ll lm lh : Int32) (gr : Nat → Nat) (cs cl : Nat → Int32) (so : Nat → Nat) (hI : lwI nv fr tt ld n cu bg M er us ns w MS nd lo ho rk gr so) (H : Heap) (locs : List Loc) (ls : Array Slot) (hl : lv_has ls 4 [(3, .int (nI k)), (2, .ref (a 0)), (1, .ref b), (0, .ref sb)]) (hP : va_P G.1 vwCl (lwW G b z v li st d a nv fr tt zl ld gk ut n cu bg M er us ML ns w MS nd lo ho rk ll lm lh gr cs cl so) H) (hD : va_D vA (lwW G b z v li st d a nv fr tt zl ld gk ut n cu bg M er us ML ns w MS nd lo ho rk ll lm lh gr cs cl so)) (hS : va_S vA vs.heap H locs) : W vp lc ve room_1 vs vm args vb vt vc H locs 80 1886 Q (F0 vm 494 ls []) := by
  have hx := X.1.1
  have hb := X.1.2.1
  have hown := X.1.2.2.2.1
  have hts := X.1.2.2.2.2
  have hK := X.2.2.2.2
  obtain ⟨hn, hnv, hf, hld, hgr, hsB, hn1, hn12, hw, hw0, hpl, hnd, hrk, hso, hrs⟩ := id hI
  have hso9 := hso
  have hP : va_P G.1 vwCl ((wN (b) (z 0) (v 0) (li 0) (st 0) (d 0)) ++ ((wV G (v) (z 0) (nv) (fr) (tt) (zl) (ld) (gk) (ut)) ++ ((wZ G (z) (n) (cu) (bg) (M) (er) (us)) ++ ((wL G (li) (ML)) ++ ((wS G (st) (ns) (w) (MS)) ++ ((wD G (d) (nd) (lo) (ho) (rk)) ++ ((wM G (a) (n) (cu) (bg) ((coF M)) ((goF M)) (er) (us) (ll) (lm) (lh) (nv) (fr) (tt) (gr) ((hdF2 ML)) (ns) (w) (cs) (cl) (nd) (lo) (ho) (so))))))))) H := hP
  have hD : va_D vA ((wN (b) (z 0) (v 0) (li 0) (st 0) (d 0)) ++ ((wV G (v) (z 0) (nv) (fr) (tt) (zl) (ld) (gk) (ut)) ++ ((wZ G (z) (n) (cu) (bg) (M) (er) (us)) ++ ((wL G (li) (ML)) ++ ((wS G (st) (ns) (w) (MS)) ++ ((wD G (d) (nd) (lo) (ho) (rk)) ++ ((wM G (a) (n) (cu) (bg) ((coF M)) ((goF M)) (er) (us) (ll) (lm) (lh) (nv) (fr) (tt) (gr) ((hdF2 ML)) (ns) (w) (cs) (cl) (nd) (lo) (ho) (so))))))))) := hD
  refine lv_aload_n hx hb dL_law_494 rfl (lv_at hl 2 rfl) ?_
  refine lv_aload_n hx hb dL_law_495 rfl (lv_at hl 3 rfl) ?_
  refine lv_iload_n hx hb dL_law_496 rfl (lv_at hl 0 rfl) ?_
  refine lv_iconst (v := (1)) hx hb dL_law_497 (by decide) ?_
  refine lv_iadd hx hb dL_law_498 ?_
  refine nw_top (y := nI (k + 1)) (nI_add (k) (1)) ?_
  refine nw_sld hx hb hsX hsb hsA hS (k := k + 1) (by omega) (by omega) p1 e1 dL_law_499 ?_
  refine lv_aload_n hx hb dL_law_500 rfl (lv_at hl 3 rfl) ?_
  refine lv_iload_n hx hb dL_law_501 rfl (lv_at hl 0 rfl) ?_
  refine lv_iconst (v := (2)) hx hb dL_law_502 (by decide) ?_
  refine lv_iadd hx hb dL_law_503 ?_
  refine nw_top (y := nI (k + 2)) (nI_add (k) (2)) ?_
  refine nw_sld hx hb hsX hsb hsA hS (k := k + 2) (by omega) (by omega) p2 e2 dL_law_504 ?_
  refine lv_aload_n hx hb dL_law_505 rfl (lv_at hl 3 rfl) ?_
  refine lv_iload_n hx hb dL_law_506 rfl (lv_at hl 0 rfl) ?_
  refine lv_iconst (v := (3)) hx hb dL_law_507 (by decide) ?_
  refine lv_iadd hx hb dL_law_508 ?_
  refine nw_top (y := nI (k + 3)) (nI_add (k) (3)) ?_
  refine nw_sld hx hb hsX hsb hsA hS (k := k + 3) (by omega) (by omega) p3 e3 dL_law_509 ?_
  refine lv_aload_n hx hb dL_law_510 rfl (lv_at hl 3 rfl) ?_
  refine lv_iload_n hx hb dL_law_511 rfl (lv_at hl 0 rfl) ?_
  refine lv_iconst (v := (4)) hx hb dL_law_512 (by decide) ?_
  refine lv_iadd hx hb dL_law_513 ?_
  refine nw_top (y := nI (k + 4)) (nI_add (k) (4)) ?_
  refine nw_sld hx hb hsX hsb hsA hS (k := k + 4) (by omega) (by omega) p4 e4 dL_law_514 ?_
  refine nw_Vi (As := [.int (p1), .int (p2), .int (p3), .int (p4)]) (rest := []) (q0 := 0) X (c_X6_echo lc G (b) (v) (z) (li) (st) (d) (nv) (fr) (tt) (zl) (ld) (gk) (ut) (n) (cu) (bg) (M) (er) (us) (ML) (ns) (w) (MS) (nd) (lo) (ho) (rk) ((p1)) ((p2)) ((p3)) ((p4)) ) (cwV 4 hts gL_law_X6_echo rfl rfl rfl (by decide +kernel) ⟨Nat.le_of_ble_eq_true rfl, Nat.le_of_ble_eq_true rfl⟩) rfl (show vwCl[5]? = some (RX6, TX6, 5) from rfl) (nwSp.gen ([]) ((wN (b) (z 0) (v 0) (li 0) (st 0) (d 0)) ++ ((wV G (v) (z 0) (nv) (fr) (tt) (zl) (ld) (gk) (ut)) ++ ((wZ G (z) (n) (cu) (bg) (M) (er) (us)) ++ ((wL G (li) (ML)) ++ ((wS G (st) (ns) (w) (MS)) ++ ((wD G (d) (nd) (lo) (ho) (rk)))))))) ((wM G (a) (n) (cu) (bg) ((coF M)) ((goF M)) (er) (us) (ll) (lm) (lh) (nv) (fr) (tt) (gr) ((hdF2 ML)) (ns) (w) (cs) (cl) (nd) (lo) (ho) (so))) (f := fun q9 => q9 ++ ((wM G (a) (n) (cu) (bg) ((coF M)) ((goF M)) (er) (us) (ll) (lm) (lh) (nv) (fr) (tt) (gr) ((hdF2 ML)) (ns) (w) (cs) (cl) (nd) (lo) (ho) (so)))) (by simp only [List.append_assoc, List.nil_append, List.append_nil]) (fun q9 => by simp only [List.append_assoc, List.nil_append, List.append_nil])) hP hD hS hA rfl hl.1 rfl (Nat.le_of_ble_eq_true rfl) dL_law_515 ⟨Nat.le_of_ble_eq_true rfl, Nat.le_of_ble_eq_true rfl⟩ (fun r w H locs hp_1 hP hD hS => ?_)
  obtain ⟨rfl, rfl⟩ := hp_1
  simp only [List.append_assoc] at hP hD
  have hP : va_P G.1 vwCl ((wN (b) (z 0) (v 0) (li 0) (st 0) (d 0)) ++ ((wV G (v) (z 0) (nv) (fr) (tt) (zl) (ld) (gk) (ut)) ++ ((wZ G (z) (n) (cu) (bg) (M) (er) (us)) ++ ((wL G (li) (nwIf (echoBad ((p1)) ((p2)) ((p3)) ((p4))) ML (cpF ML (((p1))).toNatClampNeg (((p2))).toNatClampNeg (((p3))).toNatClampNeg (((p4))).toNatClampNeg))) ++ ((wS G (st) (ns) (w) (MS)) ++ ((wD G (d) (nd) (lo) (ho) (rk)) ++ ((wM G (a) (n) (cu) (bg) ((coF M)) ((goF M)) (er) (us) (ll) (lm) (lh) (nv) (fr) (tt) (gr) ((hdF2 ML)) (ns) (w) (cs) (cl) (nd) (lo) (ho) (so))))))))) H := hP
  have hD : va_D vA ((wN (b) (z 0) (v 0) (li 0) (st 0) (d 0)) ++ ((wV G (v) (z 0) (nv) (fr) (tt) (zl) (ld) (gk) (ut)) ++ ((wZ G (z) (n) (cu) (bg) (M) (er) (us)) ++ ((wL G (li) (nwIf (echoBad ((p1)) ((p2)) ((p3)) ((p4))) ML (cpF ML (((p1))).toNatClampNeg (((p2))).toNatClampNeg (((p3))).toNatClampNeg (((p4))).toNatClampNeg))) ++ ((wS G (st) (ns) (w) (MS)) ++ ((wD G (d) (nd) (lo) (ho) (rk)) ++ ((wM G (a) (n) (cu) (bg) ((coF M)) ((goF M)) (er) (us) (ll) (lm) (lh) (nv) (fr) (tt) (gr) ((hdF2 ML)) (ns) (w) (cs) (cl) (nd) (lo) (ho) (so))))))))) := hD
  refine lv_aload_n hx hb dL_law_518 rfl (lv_at hl 1 rfl) ?_
  refine lv_aload_n hx hb dL_law_519 rfl (lv_at hl 3 rfl) ?_
  refine lv_iload_n hx hb dL_law_520 rfl (lv_at hl 0 rfl) ?_
  refine lv_iconst (v := (1)) hx hb dL_law_521 (by decide) ?_
  refine lv_iadd hx hb dL_law_522 ?_
  refine nw_top (y := nI (k + 1)) (nI_add (k) (1)) ?_
  refine nw_sld hx hb hsX hsb hsA hS (k := k + 1) (by omega) (by omega) p1 e1 dL_law_523 ?_
  refine lv_aload_n hx hb dL_law_524 rfl (lv_at hl 3 rfl) ?_
  refine lv_iload_n hx hb dL_law_525 rfl (lv_at hl 0 rfl) ?_
  refine lv_iconst (v := (2)) hx hb dL_law_526 (by decide) ?_
  refine lv_iadd hx hb dL_law_527 ?_
  refine nw_top (y := nI (k + 2)) (nI_add (k) (2)) ?_
  refine nw_sld hx hb hsX hsb hsA hS (k := k + 2) (by omega) (by omega) p2 e2 dL_law_528 ?_
  refine lv_aload_n hx hb dL_law_529 rfl (lv_at hl 3 rfl) ?_
  refine lv_iload_n hx hb dL_law_530 rfl (lv_at hl 0 rfl) ?_
  refine lv_iconst (v := (3)) hx hb dL_law_531 (by decide) ?_
  refine lv_iadd hx hb dL_law_532 ?_
  refine nw_top (y := nI (k + 3)) (nI_add (k) (3)) ?_
  refine nw_sld hx hb hsX hsb hsA hS (k := k + 3) (by omega) (by omega) p3 e3 dL_law_533 ?_
  refine lv_aload_n hx hb dL_law_534 rfl (lv_at hl 3 rfl) ?_
  refine lv_iload_n hx hb dL_law_535 rfl (lv_at hl 0 rfl) ?_
  refine lv_iconst (v := (4)) hx hb dL_law_536 (by decide) ?_
  refine lv_iadd hx hb dL_law_537 ?_
  refine nw_top (y := nI (k + 4)) (nI_add (k) (4)) ?_
  refine nw_sld hx hb hsX hsb hsA hS (k := k + 4) (by omega) (by omega) p4 e4 dL_law_538 ?_
  refine nw_Vi (As := [.int (p1), .int (p2), .int (p3), .int (p4)]) (rest := [.int (nwIf (echoBad ((p1)) ((p2)) ((p3)) ((p4))) (-2) 1)]) (q0 := 0) X (c_X7_echo lc G (a) (n) (cu) (bg) (M) (er) (us) (ll) (lm) (lh) (nv) (fr) (tt) (gr) (ML) (ns) (w) (cs) (cl) (nd) (lo) (ho) (so) ((p1)) ((p2)) ((p3)) ((p4)) ) (cwV 4 hts gL_law_X7_echo rfl rfl rfl (by decide +kernel) ⟨Nat.le_of_ble_eq_true rfl, Nat.le_of_ble_eq_true rfl⟩) rfl (show vwCl[6]? = some (RX7, TX7, 23) from rfl) (nwSp.gen ((wN (b) (z 0) (v 0) (li 0) (st 0) (d 0)) ++ ((wV G (v) (z 0) (nv) (fr) (tt) (zl) (ld) (gk) (ut)) ++ ((wZ G (z) (n) (cu) (bg) (M) (er) (us)) ++ ((wL G (li) (nwIf (echoBad ((p1)) ((p2)) ((p3)) ((p4))) ML (cpF ML (((p1))).toNatClampNeg (((p2))).toNatClampNeg (((p3))).toNatClampNeg (((p4))).toNatClampNeg))) ++ ((wS G (st) (ns) (w) (MS)) ++ ((wD G (d) (nd) (lo) (ho) (rk)))))))) ((wM G (a) (n) (cu) (bg) ((coF M)) ((goF M)) (er) (us) (ll) (lm) (lh) (nv) (fr) (tt) (gr) ((hdF2 ML)) (ns) (w) (cs) (cl) (nd) (lo) (ho) (so))) ([]) (f := fun q9 => (wN (b) (z 0) (v 0) (li 0) (st 0) (d 0)) ++ ((wV G (v) (z 0) (nv) (fr) (tt) (zl) (ld) (gk) (ut)) ++ ((wZ G (z) (n) (cu) (bg) (M) (er) (us)) ++ ((wL G (li) (nwIf (echoBad ((p1)) ((p2)) ((p3)) ((p4))) ML (cpF ML (((p1))).toNatClampNeg (((p2))).toNatClampNeg (((p3))).toNatClampNeg (((p4))).toNatClampNeg))) ++ ((wS G (st) (ns) (w) (MS)) ++ ((wD G (d) (nd) (lo) (ho) (rk)) ++ (q9))))))) (by simp only [List.append_assoc, List.nil_append, List.append_nil]) (fun q9 => by simp only [List.append_assoc, List.nil_append, List.append_nil])) hP hD hS hA rfl hl.1 rfl (Nat.le_of_ble_eq_true rfl) dL_law_539 ⟨Nat.le_of_ble_eq_true rfl, Nat.le_of_ble_eq_true rfl⟩ (fun r w H locs hp_2 hP hD hS => ?_)
  obtain ⟨rfl, rfl⟩ := hp_2
  have hP : va_P G.1 vwCl ((wN (b) (z 0) (v 0) (li 0) (st 0) (d 0)) ++ ((wV G (v) (z 0) (nv) (fr) (tt) (zl) (ld) (gk) (ut)) ++ ((wZ G (z) (n) (cu) (bg) (M) (er) (us)) ++ ((wL G (li) (nwIf (echoBad ((p1)) ((p2)) ((p3)) ((p4))) ML (cpF ML (((p1))).toNatClampNeg (((p2))).toNatClampNeg (((p3))).toNatClampNeg (((p4))).toNatClampNeg))) ++ ((wS G (st) (ns) (w) (MS)) ++ ((wD G (d) (nd) (lo) (ho) (rk)) ++ ((wM G (a) (n) (cu) (bg) ((coF M)) ((goF M)) (er) (us) (ll) (lm) (lh) (nv) (fr) (tt) (gr) ((hdF2 (nwIf (echoBad ((p1)) ((p2)) ((p3)) ((p4))) ML (cpF ML (((p1))).toNatClampNeg (((p2))).toNatClampNeg (((p3))).toNatClampNeg (((p4))).toNatClampNeg)))) (ns) (w) (cs) (cl) (nd) (lo) (ho) (so))))))))) H := hP
  have hD : va_D vA ((wN (b) (z 0) (v 0) (li 0) (st 0) (d 0)) ++ ((wV G (v) (z 0) (nv) (fr) (tt) (zl) (ld) (gk) (ut)) ++ ((wZ G (z) (n) (cu) (bg) (M) (er) (us)) ++ ((wL G (li) (nwIf (echoBad ((p1)) ((p2)) ((p3)) ((p4))) ML (cpF ML (((p1))).toNatClampNeg (((p2))).toNatClampNeg (((p3))).toNatClampNeg (((p4))).toNatClampNeg))) ++ ((wS G (st) (ns) (w) (MS)) ++ ((wD G (d) (nd) (lo) (ho) (rk)) ++ ((wM G (a) (n) (cu) (bg) ((coF M)) ((goF M)) (er) (us) (ll) (lm) (lh) (nv) (fr) (tt) (gr) ((hdF2 (nwIf (echoBad ((p1)) ((p2)) ((p3)) ((p4))) ML (cpF ML (((p1))).toNatClampNeg (((p2))).toNatClampNeg (((p3))).toNatClampNeg (((p4))).toNatClampNeg)))) (ns) (w) (cs) (cl) (nd) (lo) (ho) (so))))))))) := hD
  refine lv_icmp_eq (tgt := 966) hx hb dL_law_542 (by decide) (fun b542_3 => ?_) (fun b542_3 => ?_)
  · skip
    have b542_3 : ((nwIf (echoBad ((p1)) ((p2)) ((p3)) ((p4))) (-2) 1) : Int32) = (nwIf (echoBad ((p1)) ((p2)) ((p3)) ((p4))) (-2) 1) := b542_3
    exact hK9 (nv) (fr) (tt) (zl) (ld) (gk) (ut) (n) (cu) (bg) (M) (er) (us) (nwIf (echoBad ((p1)) ((p2)) ((p3)) ((p4))) ML (cpF ML (((p1))).toNatClampNeg (((p2))).toNatClampNeg (((p3))).toNatClampNeg (((p4))).toNatClampNeg)) (ns) (w) (MS) (nd) (lo) (ho) (rk) (ll) (lm) (lh) (gr) (cs) (cl) (so) _ _ _ (by exact lwI_same hI (by first | assumption | exact hld) (by first | assumption | exact hgr) (by first | assumption | exact hso9)) (lv_sub hl [0, 1, 2, 3] rfl) hP hD hS
  · skip
    have b542_3 : ¬ (((nwIf (echoBad ((p1)) ((p2)) ((p3)) ((p4))) (-2) 1) : Int32) = (nwIf (echoBad ((p1)) ((p2)) ((p3)) ((p4))) (-2) 1)) := b542_3
    exact absurd rfl b542_3
