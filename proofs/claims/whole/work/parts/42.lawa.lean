/-! printed by wip/gen/x10a.py: contracts, walked row by row -/
set_option maxHeartbeats 4000000 in
set_option maxRecDepth 100000 in
theorem law_0 {G : nwG} {b sb : Nat} {z v li st d a : Nat → Nat} {k L : Nat} {xs : Nat → Int32} {vp : Program} {lc : Launch} {ve : Env} {vs : State} {vm : MethodId} {args : Array Value} {vb : List Frame} {vt : Method} {vc : Code} {vA : Nat → Prop} {Q : State → Prop} {nm : String} (X : nwAt vp vm vc cL_law 4 vs args wsL_law RL vt (some .boolean) nm G) (hA : ∀ q, vs.heap.size ≤ q → vA q) (hsX : va_X sb L xs vs vs.heap) (hsb : sb < vs.heap.size) (hsA : ¬ vA sb) (hkL : k + 5 ≤ L) (hL : L ≤ 2560) {p1 p2 p3 p4 : Int32} (e1 : xs (k + 1) = p1) (e2 : xs (k + 2) = p2) (e3 : xs (k + 3) = p3) (e4 : xs (k + 4) = p4) (hK9 : lwK G b sb z v li st d a k vp lc ve vs vm args vb vt vc vA Q) (nv : Nat) (fr tt : Nat → Nat) (zl : Nat → Int32) (ld : Nat → Nat) (gk ut : Nat → Int32) (n : Nat) (cu bg : Nat → Int32) (M : Nat → Nat → Int32) (er us : Int32) (ML : Nat → Nat → Int32) (ns : Nat) (w : Nat → Nat) (MS : Nat → Nat → Int32) (nd : Nat) (lo ho : Nat → Int32) (rk : Nat → Nat) (ll lm lh : Int32) (gr : Nat → Nat) (cs cl : Nat → Int32) (so : Nat → Nat) (hI : lwI nv fr tt ld n cu bg M er us ns w MS nd lo ho rk gr so) (H : Heap) (locs : List Loc) (ls : Array Slot) (hl : lv_has ls 4 [(3, .int (nI k)), (2, .ref (a 0)), (1, .ref b), (0, .ref sb)]) (hP : va_P G.1 vwCl (lwW G b z v li st d a nv fr tt zl ld gk ut n cu bg M er us ML ns w MS nd lo ho rk ll lm lh gr cs cl so) H) (hD : va_D vA (lwW G b z v li st d a nv fr tt zl ld gk ut n cu bg M er us ML ns w MS nd lo ho rk ll lm lh gr cs cl so)) (hS : va_S vA vs.heap H locs) : W vp lc ve room_1 vs vm args vb vt vc H locs 80 1886 Q (F0 vm 148 ls []) := by
  have hx := X.1.1
  have hb := X.1.2.1
  have hown := X.1.2.2.2.1
  have hts := X.1.2.2.2.2
  have hK := X.2.2.2.2
  obtain ⟨hn, hnv, hf, hld, hgr, hsB, hn1, hn12, hw, hw0, hpl, hnd, hrk, hso, hrs⟩ := id hI
  have hso9 := hso
  have hP : va_P G.1 vwCl ((wN (b) (z 0) (v 0) (li 0) (st 0) (d 0)) ++ ((wV G (v) (z 0) (nv) (fr) (tt) (zl) (ld) (gk) (ut)) ++ ((wZ G (z) (n) (cu) (bg) (M) (er) (us)) ++ ((wL G (li) (ML)) ++ ((wS G (st) (ns) (w) (MS)) ++ ((wD G (d) (nd) (lo) (ho) (rk)) ++ ((wM G (a) (n) (cu) (bg) ((coF M)) ((goF M)) (er) (us) (ll) (lm) (lh) (nv) (fr) (tt) (gr) ((hdF2 ML)) (ns) (w) (cs) (cl) (nd) (lo) (ho) (so))))))))) H := hP
  have hD : va_D vA ((wN (b) (z 0) (v 0) (li 0) (st 0) (d 0)) ++ ((wV G (v) (z 0) (nv) (fr) (tt) (zl) (ld) (gk) (ut)) ++ ((wZ G (z) (n) (cu) (bg) (M) (er) (us)) ++ ((wL G (li) (ML)) ++ ((wS G (st) (ns) (w) (MS)) ++ ((wD G (d) (nd) (lo) (ho) (rk)) ++ ((wM G (a) (n) (cu) (bg) ((coF M)) ((goF M)) (er) (us) (ll) (lm) (lh) (nv) (fr) (tt) (gr) ((hdF2 ML)) (ns) (w) (cs) (cl) (nd) (lo) (ho) (so))))))))) := hD
  refine lv_aload_n hx hb dL_law_148 rfl (lv_at hl 2 rfl) ?_
  refine lv_aload_n hx hb dL_law_149 rfl (lv_at hl 3 rfl) ?_
  refine lv_iload_n hx hb dL_law_150 rfl (lv_at hl 0 rfl) ?_
  refine lv_iconst (v := (1)) hx hb dL_law_151 (by decide) ?_
  refine lv_iadd hx hb dL_law_152 ?_
  refine nw_top (y := nI (k + 1)) (nI_add (k) (1)) ?_
  refine nw_sld hx hb hsX hsb hsA hS (k := k + 1) (by omega) (by omega) p1 e1 dL_law_153 ?_
  refine lv_aload_n hx hb dL_law_154 rfl (lv_at hl 3 rfl) ?_
  refine lv_iload_n hx hb dL_law_155 rfl (lv_at hl 0 rfl) ?_
  refine lv_iconst (v := (2)) hx hb dL_law_156 (by decide) ?_
  refine lv_iadd hx hb dL_law_157 ?_
  refine nw_top (y := nI (k + 2)) (nI_add (k) (2)) ?_
  refine nw_sld hx hb hsX hsb hsA hS (k := k + 2) (by omega) (by omega) p2 e2 dL_law_158 ?_
  refine nw_Vi (As := [.int (p1), .int (p2)]) (rest := []) (q0 := 0) X (c_X6_zone lc G (b) (v) (z) (li) (st) (d) (nv) (fr) (tt) (zl) (ld) (gk) (ut) (n) (cu) (bg) (M) (er) (us) (ML) (ns) (w) (MS) (nd) (lo) (ho) (rk) ((p1)) ((p2)) (by first | assumption | omega)) (cwV 2 hts gL_law_X6_zone rfl rfl rfl (by decide +kernel) ⟨Nat.le_of_ble_eq_true rfl, Nat.le_of_ble_eq_true rfl⟩) rfl (show vwCl[5]? = some (RX6, TX6, 5) from rfl) (nwSp.gen ([]) ((wN (b) (z 0) (v 0) (li 0) (st 0) (d 0)) ++ ((wV G (v) (z 0) (nv) (fr) (tt) (zl) (ld) (gk) (ut)) ++ ((wZ G (z) (n) (cu) (bg) (M) (er) (us)) ++ ((wL G (li) (ML)) ++ ((wS G (st) (ns) (w) (MS)) ++ ((wD G (d) (nd) (lo) (ho) (rk)))))))) ((wM G (a) (n) (cu) (bg) ((coF M)) ((goF M)) (er) (us) (ll) (lm) (lh) (nv) (fr) (tt) (gr) ((hdF2 ML)) (ns) (w) (cs) (cl) (nd) (lo) (ho) (so))) (f := fun q9 => q9 ++ ((wM G (a) (n) (cu) (bg) ((coF M)) ((goF M)) (er) (us) (ll) (lm) (lh) (nv) (fr) (tt) (gr) ((hdF2 ML)) (ns) (w) (cs) (cl) (nd) (lo) (ho) (so)))) (by simp only [List.append_assoc, List.nil_append, List.append_nil]) (fun q9 => by simp only [List.append_assoc, List.nil_append, List.append_nil])) hP hD hS hA rfl hl.1 rfl (Nat.le_of_ble_eq_true rfl) dL_law_159 ⟨Nat.le_of_ble_eq_true rfl, Nat.le_of_ble_eq_true rfl⟩ (fun r w H locs hp_1 hP hD hS => ?_)
  obtain ⟨rfl, rfl⟩ := hp_1
  simp only [List.append_assoc] at hP hD
  have hP : va_P G.1 vwCl ((wN (b) (z 0) (v 0) (li 0) (st 0) (d 0)) ++ ((wV G (v) (z 0) (nv) (fr) (tt) (zl) (ld) (gk) (ut)) ++ ((wZ G (z) (nwIf (zoneOk n ((p1)) ((p2))) (n + 1) n) (nwIf (zoneOk n ((p1)) ((p2))) (va_up cu n ((p1))) cu) (nwIf (zoneOk n ((p1)) ((p2))) (va_up bg n ((p2))) bg) (M) (er) (us)) ++ ((wL G (li) (ML)) ++ ((wS G (st) (ns) (w) (MS)) ++ ((wD G (d) (nd) (lo) (ho) (rk)) ++ ((wM G (a) (n) (cu) (bg) ((coF M)) ((goF M)) (er) (us) (ll) (lm) (lh) (nv) (fr) (tt) (gr) ((hdF2 ML)) (ns) (w) (cs) (cl) (nd) (lo) (ho) (so))))))))) H := hP
  have hD : va_D vA ((wN (b) (z 0) (v 0) (li 0) (st 0) (d 0)) ++ ((wV G (v) (z 0) (nv) (fr) (tt) (zl) (ld) (gk) (ut)) ++ ((wZ G (z) (nwIf (zoneOk n ((p1)) ((p2))) (n + 1) n) (nwIf (zoneOk n ((p1)) ((p2))) (va_up cu n ((p1))) cu) (nwIf (zoneOk n ((p1)) ((p2))) (va_up bg n ((p2))) bg) (M) (er) (us)) ++ ((wL G (li) (ML)) ++ ((wS G (st) (ns) (w) (MS)) ++ ((wD G (d) (nd) (lo) (ho) (rk)) ++ ((wM G (a) (n) (cu) (bg) ((coF M)) ((goF M)) (er) (us) (ll) (lm) (lh) (nv) (fr) (tt) (gr) ((hdF2 ML)) (ns) (w) (cs) (cl) (nd) (lo) (ho) (so))))))))) := hD
  refine lv_aload_n hx hb dL_law_162 rfl (lv_at hl 1 rfl) ?_
  refine lv_aload_n hx hb dL_law_163 rfl (lv_at hl 3 rfl) ?_
  refine lv_iload_n hx hb dL_law_164 rfl (lv_at hl 0 rfl) ?_
  refine lv_iconst (v := (1)) hx hb dL_law_165 (by decide) ?_
  refine lv_iadd hx hb dL_law_166 ?_
  refine nw_top (y := nI (k + 1)) (nI_add (k) (1)) ?_
  refine nw_sld hx hb hsX hsb hsA hS (k := k + 1) (by omega) (by omega) p1 e1 dL_law_167 ?_
  refine lv_aload_n hx hb dL_law_168 rfl (lv_at hl 3 rfl) ?_
  refine lv_iload_n hx hb dL_law_169 rfl (lv_at hl 0 rfl) ?_
  refine lv_iconst (v := (2)) hx hb dL_law_170 (by decide) ?_
  refine lv_iadd hx hb dL_law_171 ?_
  refine nw_top (y := nI (k + 2)) (nI_add (k) (2)) ?_
  refine nw_sld hx hb hsX hsb hsA hS (k := k + 2) (by omega) (by omega) p2 e2 dL_law_172 ?_
  refine nw_Vi (As := [.int (p1), .int (p2)]) (rest := [.int (zoneF (n) ((p1)) ((p2)))]) (q0 := 0) X (c_X7_zone lc G (a) (n) (cu) (bg) (M) (er) (us) (ll) (lm) (lh) (nv) (fr) (tt) (gr) (ML) (ns) (w) (cs) (cl) (nd) (lo) (ho) (so) ((p1)) ((p2)) (by first | assumption | omega)) (cwV 2 hts gL_law_X7_zone rfl rfl rfl (by decide +kernel) ⟨Nat.le_of_ble_eq_true rfl, Nat.le_of_ble_eq_true rfl⟩) rfl (show vwCl[6]? = some (RX7, TX7, 23) from rfl) (nwSp.gen ((wN (b) (z 0) (v 0) (li 0) (st 0) (d 0)) ++ ((wV G (v) (z 0) (nv) (fr) (tt) (zl) (ld) (gk) (ut)) ++ ((wZ G (z) (nwIf (zoneOk n ((p1)) ((p2))) (n + 1) n) (nwIf (zoneOk n ((p1)) ((p2))) (va_up cu n ((p1))) cu) (nwIf (zoneOk n ((p1)) ((p2))) (va_up bg n ((p2))) bg) (M) (er) (us)) ++ ((wL G (li) (ML)) ++ ((wS G (st) (ns) (w) (MS)) ++ ((wD G (d) (nd) (lo) (ho) (rk)))))))) ((wM G (a) (n) (cu) (bg) ((coF M)) ((goF M)) (er) (us) (ll) (lm) (lh) (nv) (fr) (tt) (gr) ((hdF2 ML)) (ns) (w) (cs) (cl) (nd) (lo) (ho) (so))) ([]) (f := fun q9 => (wN (b) (z 0) (v 0) (li 0) (st 0) (d 0)) ++ ((wV G (v) (z 0) (nv) (fr) (tt) (zl) (ld) (gk) (ut)) ++ ((wZ G (z) (nwIf (zoneOk n ((p1)) ((p2))) (n + 1) n) (nwIf (zoneOk n ((p1)) ((p2))) (va_up cu n ((p1))) cu) (nwIf (zoneOk n ((p1)) ((p2))) (va_up bg n ((p2))) bg) (M) (er) (us)) ++ ((wL G (li) (ML)) ++ ((wS G (st) (ns) (w) (MS)) ++ ((wD G (d) (nd) (lo) (ho) (rk)) ++ (q9))))))) (by simp only [List.append_assoc, List.nil_append, List.append_nil]) (fun q9 => by simp only [List.append_assoc, List.nil_append, List.append_nil])) hP hD hS hA rfl hl.1 rfl (Nat.le_of_ble_eq_true rfl) dL_law_173 ⟨Nat.le_of_ble_eq_true rfl, Nat.le_of_ble_eq_true rfl⟩ (fun r w H locs hp_2 hP hD hS => ?_)
  obtain ⟨rfl, rfl⟩ := hp_2
  have hP : va_P G.1 vwCl ((wN (b) (z 0) (v 0) (li 0) (st 0) (d 0)) ++ ((wV G (v) (z 0) (nv) (fr) (tt) (zl) (ld) (gk) (ut)) ++ ((wZ G (z) (nwIf (zoneOk n ((p1)) ((p2))) (n + 1) n) (nwIf (zoneOk n ((p1)) ((p2))) (va_up cu n ((p1))) cu) (nwIf (zoneOk n ((p1)) ((p2))) (va_up bg n ((p2))) bg) (M) (er) (us)) ++ ((wL G (li) (ML)) ++ ((wS G (st) (ns) (w) (MS)) ++ ((wD G (d) (nd) (lo) (ho) (rk)) ++ ((wM G (a) (nwIf (zoneOk n ((p1)) ((p2))) (n + 1) n) (nwIf (zoneOk n ((p1)) ((p2))) (va_up cu n ((p1))) cu) (nwIf (zoneOk n ((p1)) ((p2))) (va_up bg n ((p2))) bg) ((coF M)) ((goF M)) (er) (us) (ll) (lm) (lh) (nv) (fr) (tt) (gr) ((hdF2 ML)) (ns) (w) (cs) (cl) (nd) (lo) (ho) (so))))))))) H := hP
  have hD : va_D vA ((wN (b) (z 0) (v 0) (li 0) (st 0) (d 0)) ++ ((wV G (v) (z 0) (nv) (fr) (tt) (zl) (ld) (gk) (ut)) ++ ((wZ G (z) (nwIf (zoneOk n ((p1)) ((p2))) (n + 1) n) (nwIf (zoneOk n ((p1)) ((p2))) (va_up cu n ((p1))) cu) (nwIf (zoneOk n ((p1)) ((p2))) (va_up bg n ((p2))) bg) (M) (er) (us)) ++ ((wL G (li) (ML)) ++ ((wS G (st) (ns) (w) (MS)) ++ ((wD G (d) (nd) (lo) (ho) (rk)) ++ ((wM G (a) (nwIf (zoneOk n ((p1)) ((p2))) (n + 1) n) (nwIf (zoneOk n ((p1)) ((p2))) (va_up cu n ((p1))) cu) (nwIf (zoneOk n ((p1)) ((p2))) (va_up bg n ((p2))) bg) ((coF M)) ((goF M)) (er) (us) (ll) (lm) (lh) (nv) (fr) (tt) (gr) ((hdF2 ML)) (ns) (w) (cs) (cl) (nd) (lo) (ho) (so))))))))) := hD
  refine lv_icmp_eq (tgt := 966) hx hb dL_law_176 (by decide) (fun b176_3 => ?_) (fun b176_3 => ?_)
  · skip
    have b176_3 : ((zoneF (n) ((p1)) ((p2))) : Int32) = (zoneF (n) ((p1)) ((p2))) := b176_3
    exact hK9 (nv) (fr) (tt) (zl) (ld) (gk) (ut) (nwIf (zoneOk n ((p1)) ((p2))) (n + 1) n) (nwIf (zoneOk n ((p1)) ((p2))) (va_up cu n ((p1))) cu) (nwIf (zoneOk n ((p1)) ((p2))) (va_up bg n ((p2))) bg) (M) (er) (us) (ML) (ns) (w) (MS) (nd) (lo) (ho) (rk) (ll) (lm) (lh) (gr) (cs) (cl) (so) _ _ _ (by exact lwI_zone hI) (lv_sub hl [0, 1, 2, 3] rfl) hP hD hS
  · skip
    have b176_3 : ¬ (((zoneF (n) ((p1)) ((p2))) : Int32) = (zoneF (n) ((p1)) ((p2)))) := b176_3
    exact absurd rfl b176_3
set_option maxHeartbeats 4000000 in
set_option maxRecDepth 100000 in
theorem law_1 {G : nwG} {b sb : Nat} {z v li st d a : Nat → Nat} {k L : Nat} {xs : Nat → Int32} {vp : Program} {lc : Launch} {ve : Env} {vs : State} {vm : MethodId} {args : Array Value} {vb : List Frame} {vt : Method} {vc : Code} {vA : Nat → Prop} {Q : State → Prop} {nm : String} (X : nwAt vp vm vc cL_law 4 vs args wsL_law RL vt (some .boolean) nm G) (hA : ∀ q, vs.heap.size ≤ q → vA q) (hsX : va_X sb L xs vs vs.heap) (hsb : sb < vs.heap.size) (hsA : ¬ vA sb) (hkL : k + 5 ≤ L) (hL : L ≤ 2560) {p1 p2 p3 p4 : Int32} (e1 : xs (k + 1) = p1) (e2 : xs (k + 2) = p2) (e3 : xs (k + 3) = p3) (e4 : xs (k + 4) = p4) (hK9 : lwK G b sb z v li st d a k vp lc ve vs vm args vb vt vc vA Q) (nv : Nat) (fr tt : Nat → Nat) (zl : Nat → Int32) (ld : Nat → Nat) (gk ut : Nat → Int32) (n : Nat) (cu bg : Nat → Int32) (M : Nat → Nat → Int32) (er us : Int32) (ML : Nat → Nat → Int32) (ns : Nat) (w : Nat → Nat) (MS : Nat → Nat → Int32) (nd : Nat) (lo ho : Nat → Int32) (rk : Nat → Nat) (ll lm lh : Int32) (gr : Nat → Nat) (cs cl : Nat → Int32) (so : Nat → Nat) (hI : lwI nv fr tt ld n cu bg M er us ns w MS nd lo ho rk gr so) (H : Heap) (locs : List Loc) (ls : Array Slot) (hl : lv_has ls 4 [(3, .int (nI k)), (2, .ref (a 0)), (1, .ref b), (0, .ref sb)]) (hP : va_P G.1 vwCl (lwW G b z v li st d a nv fr tt zl ld gk ut n cu bg M er us ML ns w MS nd lo ho rk ll lm lh gr cs cl so) H) (hD : va_D vA (lwW G b z v li st d a nv fr tt zl ld gk ut n cu bg M er us ML ns w MS nd lo ho rk ll lm lh gr cs cl so)) (hS : va_S vA vs.heap H locs) : W vp lc ve room_1 vs vm args vb vt vc H locs 80 1886 Q (F0 vm 181 ls []) := by
  have hx := X.1.1
  have hb := X.1.2.1
  have hown := X.1.2.2.2.1
  have hts := X.1.2.2.2.2
  have hK := X.2.2.2.2
  obtain ⟨hn, hnv, hf, hld, hgr, hsB, hn1, hn12, hw, hw0, hpl, hnd, hrk, hso, hrs⟩ := id hI
  have hso9 := hso
  have hP : va_P G.1 vwCl ((wN (b) (z 0) (v 0) (li 0) (st 0) (d 0)) ++ ((wV G (v) (z 0) (nv) (fr) (tt) (zl) (ld) (gk) (ut)) ++ ((wZ G (z) (n) (cu) (bg) (M) (er) (us)) ++ ((wL G (li) (ML)) ++ ((wS G (st) (ns) (w) (MS)) ++ ((wD G (d) (nd) (lo) (ho) (rk)) ++ ((wM G (a) (n) (cu) (bg) ((coF M)) ((goF M)) (er) (us) (ll) (lm) (lh) (nv) (fr) (tt) (gr) ((hdF2 ML)) (ns) (w) (cs) (cl) (nd) (lo) (ho) (so))))))))) H := hP
  have hD : va_D vA ((wN (b) (z 0) (v 0) (li 0) (st 0) (d 0)) ++ ((wV G (v) (z 0) (nv) (fr) (tt) (zl) (ld) (gk) (ut)) ++ ((wZ G (z) (n) (cu) (bg) (M) (er) (us)) ++ ((wL G (li) (ML)) ++ ((wS G (st) (ns) (w) (MS)) ++ ((wD G (d) (nd) (lo) (ho) (rk)) ++ ((wM G (a) (n) (cu) (bg) ((coF M)) ((goF M)) (er) (us) (ll) (lm) (lh) (nv) (fr) (tt) (gr) ((hdF2 ML)) (ns) (w) (cs) (cl) (nd) (lo) (ho) (so))))))))) := hD
  refine lv_aload_n hx hb dL_law_181 rfl (lv_at hl 2 rfl) ?_
  refine lv_aload_n hx hb dL_law_182 rfl (lv_at hl 3 rfl) ?_
  refine lv_iload_n hx hb dL_law_183 rfl (lv_at hl 0 rfl) ?_
  refine lv_iconst (v := (1)) hx hb dL_law_184 (by decide) ?_
  refine lv_iadd hx hb dL_law_185 ?_
  refine nw_top (y := nI (k + 1)) (nI_add (k) (1)) ?_
  refine nw_sld hx hb hsX hsb hsA hS (k := k + 1) (by omega) (by omega) p1 e1 dL_law_186 ?_
  refine lv_aload_n hx hb dL_law_187 rfl (lv_at hl 3 rfl) ?_
  refine lv_iload_n hx hb dL_law_188 rfl (lv_at hl 0 rfl) ?_
  refine lv_iconst (v := (2)) hx hb dL_law_189 (by decide) ?_
  refine lv_iadd hx hb dL_law_190 ?_
  refine nw_top (y := nI (k + 2)) (nI_add (k) (2)) ?_
  refine nw_sld hx hb hsX hsb hsA hS (k := k + 2) (by omega) (by omega) p2 e2 dL_law_191 ?_
  refine nw_Vi (As := [.int (p1), .int (p2)]) (rest := []) (q0 := 0) X (c_X6_rules lc G (b) (v) (z) (li) (st) (d) (nv) (fr) (tt) (zl) (ld) (gk) (ut) (n) (cu) (bg) (M) (er) (us) (ML) (ns) (w) (MS) (nd) (lo) (ho) (rk) ((p1)) ((p2)) ) (cwV 2 hts gL_law_X6_rules rfl rfl rfl (by decide +kernel) ⟨Nat.le_of_ble_eq_true rfl, Nat.le_of_ble_eq_true rfl⟩) rfl (show vwCl[5]? = some (RX6, TX6, 5) from rfl) (nwSp.gen ([]) ((wN (b) (z 0) (v 0) (li 0) (st 0) (d 0)) ++ ((wV G (v) (z 0) (nv) (fr) (tt) (zl) (ld) (gk) (ut)) ++ ((wZ G (z) (n) (cu) (bg) (M) (er) (us)) ++ ((wL G (li) (ML)) ++ ((wS G (st) (ns) (w) (MS)) ++ ((wD G (d) (nd) (lo) (ho) (rk)))))))) ((wM G (a) (n) (cu) (bg) ((coF M)) ((goF M)) (er) (us) (ll) (lm) (lh) (nv) (fr) (tt) (gr) ((hdF2 ML)) (ns) (w) (cs) (cl) (nd) (lo) (ho) (so))) (f := fun q9 => q9 ++ ((wM G (a) (n) (cu) (bg) ((coF M)) ((goF M)) (er) (us) (ll) (lm) (lh) (nv) (fr) (tt) (gr) ((hdF2 ML)) (ns) (w) (cs) (cl) (nd) (lo) (ho) (so)))) (by simp only [List.append_assoc, List.nil_append, List.append_nil]) (fun q9 => by simp only [List.append_assoc, List.nil_append, List.append_nil])) hP hD hS hA rfl hl.1 rfl (Nat.le_of_ble_eq_true rfl) dL_law_192 ⟨Nat.le_of_ble_eq_true rfl, Nat.le_of_ble_eq_true rfl⟩ (fun r w H locs hp_1 hP hD hS => ?_)
  obtain ⟨rfl, rfl⟩ := hp_1
  simp only [List.append_assoc] at hP hD
  have hP : va_P G.1 vwCl ((wN (b) (z 0) (v 0) (li 0) (st 0) (d 0)) ++ ((wV G (v) (z 0) (nv) (fr) (tt) (zl) (ld) (gk) (ut)) ++ ((wZ G (z) (n) (cu) (bg) (M) (nwIf (rulesOk ((p1)) ((p2))) ((p1)) er) (nwIf (rulesOk ((p1)) ((p2))) ((p2)) us)) ++ ((wL G (li) (ML)) ++ ((wS G (st) (ns) (w) (MS)) ++ ((wD G (d) (nd) (lo) (ho) (rk)) ++ ((wM G (a) (n) (cu) (bg) ((coF M)) ((goF M)) (er) (us) (ll) (lm) (lh) (nv) (fr) (tt) (gr) ((hdF2 ML)) (ns) (w) (cs) (cl) (nd) (lo) (ho) (so))))))))) H := hP
  have hD : va_D vA ((wN (b) (z 0) (v 0) (li 0) (st 0) (d 0)) ++ ((wV G (v) (z 0) (nv) (fr) (tt) (zl) (ld) (gk) (ut)) ++ ((wZ G (z) (n) (cu) (bg) (M) (nwIf (rulesOk ((p1)) ((p2))) ((p1)) er) (nwIf (rulesOk ((p1)) ((p2))) ((p2)) us)) ++ ((wL G (li) (ML)) ++ ((wS G (st) (ns) (w) (MS)) ++ ((wD G (d) (nd) (lo) (ho) (rk)) ++ ((wM G (a) (n) (cu) (bg) ((coF M)) ((goF M)) (er) (us) (ll) (lm) (lh) (nv) (fr) (tt) (gr) ((hdF2 ML)) (ns) (w) (cs) (cl) (nd) (lo) (ho) (so))))))))) := hD
  refine lv_aload_n hx hb dL_law_195 rfl (lv_at hl 1 rfl) ?_
  refine lv_aload_n hx hb dL_law_196 rfl (lv_at hl 3 rfl) ?_
  refine lv_iload_n hx hb dL_law_197 rfl (lv_at hl 0 rfl) ?_
  refine lv_iconst (v := (1)) hx hb dL_law_198 (by decide) ?_
  refine lv_iadd hx hb dL_law_199 ?_
  refine nw_top (y := nI (k + 1)) (nI_add (k) (1)) ?_
  refine nw_sld hx hb hsX hsb hsA hS (k := k + 1) (by omega) (by omega) p1 e1 dL_law_200 ?_
  refine lv_aload_n hx hb dL_law_201 rfl (lv_at hl 3 rfl) ?_
  refine lv_iload_n hx hb dL_law_202 rfl (lv_at hl 0 rfl) ?_
  refine lv_iconst (v := (2)) hx hb dL_law_203 (by decide) ?_
  refine lv_iadd hx hb dL_law_204 ?_
  refine nw_top (y := nI (k + 2)) (nI_add (k) (2)) ?_
  refine nw_sld hx hb hsX hsb hsA hS (k := k + 2) (by omega) (by omega) p2 e2 dL_law_205 ?_
  refine nw_Vi (As := [.int (p1), .int (p2)]) (rest := [.int (nwIf (rulesOk ((p1)) ((p2))) 1 (-2))]) (q0 := 0) X (c_X7_rules lc G (a) (n) (cu) (bg) (M) (er) (us) (ll) (lm) (lh) (nv) (fr) (tt) (gr) (ML) (ns) (w) (cs) (cl) (nd) (lo) (ho) (so) ((p1)) ((p2)) ) (cwV 2 hts gL_law_X7_rules rfl rfl rfl (by decide +kernel) ⟨Nat.le_of_ble_eq_true rfl, Nat.le_of_ble_eq_true rfl⟩) rfl (show vwCl[6]? = some (RX7, TX7, 23) from rfl) (nwSp.gen ((wN (b) (z 0) (v 0) (li 0) (st 0) (d 0)) ++ ((wV G (v) (z 0) (nv) (fr) (tt) (zl) (ld) (gk) (ut)) ++ ((wZ G (z) (n) (cu) (bg) (M) (nwIf (rulesOk ((p1)) ((p2))) ((p1)) er) (nwIf (rulesOk ((p1)) ((p2))) ((p2)) us)) ++ ((wL G (li) (ML)) ++ ((wS G (st) (ns) (w) (MS)) ++ ((wD G (d) (nd) (lo) (ho) (rk)))))))) ((wM G (a) (n) (cu) (bg) ((coF M)) ((goF M)) (er) (us) (ll) (lm) (lh) (nv) (fr) (tt) (gr) ((hdF2 ML)) (ns) (w) (cs) (cl) (nd) (lo) (ho) (so))) ([]) (f := fun q9 => (wN (b) (z 0) (v 0) (li 0) (st 0) (d 0)) ++ ((wV G (v) (z 0) (nv) (fr) (tt) (zl) (ld) (gk) (ut)) ++ ((wZ G (z) (n) (cu) (bg) (M) (nwIf (rulesOk ((p1)) ((p2))) ((p1)) er) (nwIf (rulesOk ((p1)) ((p2))) ((p2)) us)) ++ ((wL G (li) (ML)) ++ ((wS G (st) (ns) (w) (MS)) ++ ((wD G (d) (nd) (lo) (ho) (rk)) ++ (q9))))))) (by simp only [List.append_assoc, List.nil_append, List.append_nil]) (fun q9 => by simp only [List.append_assoc, List.nil_append, List.append_nil])) hP hD hS hA rfl hl.1 rfl (Nat.le_of_ble_eq_true rfl) dL_law_206 ⟨Nat.le_of_ble_eq_true rfl, Nat.le_of_ble_eq_true rfl⟩ (fun r w H locs hp_2 hP hD hS => ?_)
  obtain ⟨rfl, rfl⟩ := hp_2
  have hP : va_P G.1 vwCl ((wN (b) (z 0) (v 0) (li 0) (st 0) (d 0)) ++ ((wV G (v) (z 0) (nv) (fr) (tt) (zl) (ld) (gk) (ut)) ++ ((wZ G (z) (n) (cu) (bg) (M) (nwIf (rulesOk ((p1)) ((p2))) ((p1)) er) (nwIf (rulesOk ((p1)) ((p2))) ((p2)) us)) ++ ((wL G (li) (ML)) ++ ((wS G (st) (ns) (w) (MS)) ++ ((wD G (d) (nd) (lo) (ho) (rk)) ++ ((wM G (a) (n) (cu) (bg) ((coF M)) ((goF M)) (nwIf (rulesOk ((p1)) ((p2))) ((p1)) er) (nwIf (rulesOk ((p1)) ((p2))) ((p2)) us) (ll) (lm) (lh) (nv) (fr) (tt) (gr) ((hdF2 ML)) (ns) (w) (cs) (cl) (nd) (lo) (ho) (so))))))))) H := hP
  have hD : va_D vA ((wN (b) (z 0) (v 0) (li 0) (st 0) (d 0)) ++ ((wV G (v) (z 0) (nv) (fr) (tt) (zl) (ld) (gk) (ut)) ++ ((wZ G (z) (n) (cu) (bg) (M) (nwIf (rulesOk ((p1)) ((p2))) ((p1)) er) (nwIf (rulesOk ((p1)) ((p2))) ((p2)) us)) ++ ((wL G (li) (ML)) ++ ((wS G (st) (ns) (w) (MS)) ++ ((wD G (d) (nd) (lo) (ho) (rk)) ++ ((wM G (a) (n) (cu) (bg) ((coF M)) ((goF M)) (nwIf (rulesOk ((p1)) ((p2))) ((p1)) er) (nwIf (rulesOk ((p1)) ((p2))) ((p2)) us) (ll) (lm) (lh) (nv) (fr) (tt) (gr) ((hdF2 ML)) (ns) (w) (cs) (cl) (nd) (lo) (ho) (so))))))))) := hD
  refine lv_icmp_eq (tgt := 966) hx hb dL_law_209 (by decide) (fun b209_3 => ?_) (fun b209_3 => ?_)
  · skip
    have b209_3 : ((nwIf (rulesOk ((p1)) ((p2))) 1 (-2)) : Int32) = (nwIf (rulesOk ((p1)) ((p2))) 1 (-2)) := b209_3
    exact hK9 (nv) (fr) (tt) (zl) (ld) (gk) (ut) (n) (cu) (bg) (M) (nwIf (rulesOk ((p1)) ((p2))) ((p1)) er) (nwIf (rulesOk ((p1)) ((p2))) ((p2)) us) (ML) (ns) (w) (MS) (nd) (lo) (ho) (rk) (ll) (lm) (lh) (gr) (cs) (cl) (so) _ _ _ (by exact lwI_rules hI) (lv_sub hl [0, 1, 2, 3] rfl) hP hD hS
  · skip
    have b209_3 : ¬ (((nwIf (rulesOk ((p1)) ((p2))) 1 (-2)) : Int32) = (nwIf (rulesOk ((p1)) ((p2))) 1 (-2))) := b209_3
    exact absurd rfl b209_3
set_option maxHeartbeats 4000000 in
set_option maxRecDepth 100000 in
theorem law_2 {G : nwG} {b sb : Nat} {z v li st d a : Nat → Nat} {k L : Nat} {xs : Nat → Int32} {vp : Program} {lc : Launch} {ve : Env} {vs : State} {vm : MethodId} {args : Array Value} {vb : List Frame} {vt : Method} {vc : Code} {vA : Nat → Prop} {Q : State → Prop} {nm : String} (X : nwAt vp vm vc cL_law 4 vs args wsL_law RL vt (some .boolean) nm G) (hA : ∀ q, vs.heap.size ≤ q → vA q) (hsX : va_X sb L xs vs vs.heap) (hsb : sb < vs.heap.size) (hsA : ¬ vA sb) (hkL : k + 5 ≤ L) (hL : L ≤ 2560) {p1 p2 p3 p4 : Int32} (e1 : xs (k + 1) = p1) (e2 : xs (k + 2) = p2) (e3 : xs (k + 3) = p3) (e4 : xs (k + 4) = p4) (hK9 : lwK G b sb z v li st d a k vp lc ve vs vm args vb vt vc vA Q) (nv : Nat) (fr tt : Nat → Nat) (zl : Nat → Int32) (ld : Nat → Nat) (gk ut : Nat → Int32) (n : Nat) (cu bg : Nat → Int32) (M : Nat → Nat → Int32) (er us : Int32) (ML : Nat → Nat → Int32) (ns : Nat) (w : Nat → Nat) (MS : Nat → Nat → Int32) (nd : Nat) (lo ho : Nat → Int32) (rk : Nat → Nat) (ll lm lh : Int32) (gr : Nat → Nat) (cs cl : Nat → Int32) (so : Nat → Nat) (hI : lwI nv fr tt ld n cu bg M er us ns w MS nd lo ho rk gr so) (H : Heap) (locs : List Loc) (ls : Array Slot) (hl : lv_has ls 4 [(3, .int (nI k)), (2, .ref (a 0)), (1, .ref b), (0, .ref sb)]) (hP : va_P G.1 vwCl (lwW G b z v li st d a nv fr tt zl ld gk ut n cu bg M er us ML ns w MS nd lo ho rk ll lm lh gr cs cl so) H) (hD : va_D vA (lwW G b z v li st d a nv fr tt zl ld gk ut n cu bg M er us ML ns w MS nd lo ho rk ll lm lh gr cs cl so)) (hS : va_S vA vs.heap H locs) : W vp lc ve room_1 vs vm args vb vt vc H locs 80 1886 Q (F0 vm 214 ls []) := by
  have hx := X.1.1
  have hb := X.1.2.1
  have hown := X.1.2.2.2.1
  have hts := X.1.2.2.2.2
  have hK := X.2.2.2.2
  obtain ⟨hn, hnv, hf, hld, hgr, hsB, hn1, hn12, hw, hw0, hpl, hnd, hrk, hso, hrs⟩ := id hI
  have hso9 := hso
  have hP : va_P G.1 vwCl ((wN (b) (z 0) (v 0) (li 0) (st 0) (d 0)) ++ ((wV G (v) (z 0) (nv) (fr) (tt) (zl) (ld) (gk) (ut)) ++ ((wZ G (z) (n) (cu) (bg) (M) (er) (us)) ++ ((wL G (li) (ML)) ++ ((wS G (st) (ns) (w) (MS)) ++ ((wD G (d) (nd) (lo) (ho) (rk)) ++ ((wM G (a) (n) (cu) (bg) ((coF M)) ((goF M)) (er) (us) (ll) (lm) (lh) (nv) (fr) (tt) (gr) ((hdF2 ML)) (ns) (w) (cs) (cl) (nd) (lo) (ho) (so))))))))) H := hP
  have hD : va_D vA ((wN (b) (z 0) (v 0) (li 0) (st 0) (d 0)) ++ ((wV G (v) (z 0) (nv) (fr) (tt) (zl) (ld) (gk) (ut)) ++ ((wZ G (z) (n) (cu) (bg) (M) (er) (us)) ++ ((wL G (li) (ML)) ++ ((wS G (st) (ns) (w) (MS)) ++ ((wD G (d) (nd) (lo) (ho) (rk)) ++ ((wM G (a) (n) (cu) (bg) ((coF M)) ((goF M)) (er) (us) (ll) (lm) (lh) (nv) (fr) (tt) (gr) ((hdF2 ML)) (ns) (w) (cs) (cl) (nd) (lo) (ho) (so))))))))) := hD
  refine lv_aload_n hx hb dL_law_214 rfl (lv_at hl 2 rfl) ?_
  refine lv_aload_n hx hb dL_law_215 rfl (lv_at hl 3 rfl) ?_
  refine lv_iload_n hx hb dL_law_216 rfl (lv_at hl 0 rfl) ?_
  refine lv_iconst (v := (1)) hx hb dL_law_217 (by decide) ?_
  refine lv_iadd hx hb dL_law_218 ?_
  refine nw_top (y := nI (k + 1)) (nI_add (k) (1)) ?_
  refine nw_sld hx hb hsX hsb hsA hS (k := k + 1) (by omega) (by omega) p1 e1 dL_law_219 ?_
  refine lv_aload_n hx hb dL_law_220 rfl (lv_at hl 3 rfl) ?_
  refine lv_iload_n hx hb dL_law_221 rfl (lv_at hl 0 rfl) ?_
  refine lv_iconst (v := (2)) hx hb dL_law_222 (by decide) ?_
  refine lv_iadd hx hb dL_law_223 ?_
  refine nw_top (y := nI (k + 2)) (nI_add (k) (2)) ?_
  refine nw_sld hx hb hsX hsb hsA hS (k := k + 2) (by omega) (by omega) p2 e2 dL_law_224 ?_
  refine lv_aload_n hx hb dL_law_225 rfl (lv_at hl 3 rfl) ?_
  refine lv_iload_n hx hb dL_law_226 rfl (lv_at hl 0 rfl) ?_
  refine lv_iconst (v := (3)) hx hb dL_law_227 (by decide) ?_
  refine lv_iadd hx hb dL_law_228 ?_
  refine nw_top (y := nI (k + 3)) (nI_add (k) (3)) ?_
  refine nw_sld hx hb hsX hsb hsA hS (k := k + 3) (by omega) (by omega) p3 e3 dL_law_229 ?_
  refine lv_if_eq (tgt := 237) hx hb dL_law_230 (by decide) (fun b230_1 => ?_) (fun b230_1 => ?_)
  · skip
    have b230_1 : ((p3) : Int32) = (0 : Int32) := b230_1
    refine lv_iconst (v := (0)) hx hb dL_law_237 (by decide) ?_
    refine lv_aload_n hx hb dL_law_238 rfl (lv_at hl 3 rfl) ?_
    refine lv_iload_n hx hb dL_law_239 rfl (lv_at hl 0 rfl) ?_
    refine lv_iconst (v := (4)) hx hb dL_law_240 (by decide) ?_
    refine lv_iadd hx hb dL_law_241 ?_
    refine nw_top (y := nI (k + 4)) (nI_add (k) (4)) ?_
    refine nw_sld hx hb hsX hsb hsA hS (k := k + 4) (by omega) (by omega) p4 e4 dL_law_242 ?_
    refine nw_Vi (As := [.int (p1), .int (p2), .int (0), .int (p4)]) (rest := []) (q0 := 0) X (c_X6_read lc G (b) (v) (z) (li) (st) (d) (nv) (fr) (tt) (zl) (ld) (gk) (ut) (n) (cu) (bg) (M) (er) (us) (ML) (ns) (w) (MS) (nd) (lo) (ho) (rk) ((p1)) ((p2)) ((0 : Int32)) ((p4)) (by first | assumption | omega)) (cwV 4 hts gL_law_X6_read rfl rfl rfl (by decide +kernel) ⟨Nat.le_of_ble_eq_true rfl, Nat.le_of_ble_eq_true rfl⟩) rfl (show vwCl[5]? = some (RX6, TX6, 5) from rfl) (nwSp.gen ([]) ((wN (b) (z 0) (v 0) (li 0) (st 0) (d 0)) ++ ((wV G (v) (z 0) (nv) (fr) (tt) (zl) (ld) (gk) (ut)) ++ ((wZ G (z) (n) (cu) (bg) (M) (er) (us)) ++ ((wL G (li) (ML)) ++ ((wS G (st) (ns) (w) (MS)) ++ ((wD G (d) (nd) (lo) (ho) (rk)))))))) ((wM G (a) (n) (cu) (bg) ((coF M)) ((goF M)) (er) (us) (ll) (lm) (lh) (nv) (fr) (tt) (gr) ((hdF2 ML)) (ns) (w) (cs) (cl) (nd) (lo) (ho) (so))) (f := fun q9 => q9 ++ ((wM G (a) (n) (cu) (bg) ((coF M)) ((goF M)) (er) (us) (ll) (lm) (lh) (nv) (fr) (tt) (gr) ((hdF2 ML)) (ns) (w) (cs) (cl) (nd) (lo) (ho) (so)))) (by simp only [List.append_assoc, List.nil_append, List.append_nil]) (fun q9 => by simp only [List.append_assoc, List.nil_append, List.append_nil])) hP hD hS hA rfl hl.1 rfl (Nat.le_of_ble_eq_true rfl) dL_law_243 ⟨Nat.le_of_ble_eq_true rfl, Nat.le_of_ble_eq_true rfl⟩ (fun r w H locs hp_2 hP hD hS => ?_)
    obtain ⟨rfl, rfl⟩ := hp_2
    simp only [List.append_assoc] at hP hD
    have hP : va_P G.1 vwCl ((wN (b) (z 0) (v 0) (li 0) (st 0) (d 0)) ++ ((wV G (v) (z 0) (nv) (fr) (tt) (zl) (ld) (gk) (ut)) ++ ((wZ G (z) (n) (cu) (bg) (nwIf (readOk n ((p1)) ((p2)) ((p4))) (nwU2 M (readRow ((p1)) ((0 : Int32))) (((p2))).toNatClampNeg ((p4))) M) (er) (us)) ++ ((wL G (li) (ML)) ++ ((wS G (st) (ns) (w) (MS)) ++ ((wD G (d) (nd) (lo) (ho) (rk)) ++ ((wM G (a) (n) (cu) (bg) ((coF M)) ((goF M)) (er) (us) (ll) (lm) (lh) (nv) (fr) (tt) (gr) ((hdF2 ML)) (ns) (w) (cs) (cl) (nd) (lo) (ho) (so))))))))) H := hP
    have hD : va_D vA ((wN (b) (z 0) (v 0) (li 0) (st 0) (d 0)) ++ ((wV G (v) (z 0) (nv) (fr) (tt) (zl) (ld) (gk) (ut)) ++ ((wZ G (z) (n) (cu) (bg) (nwIf (readOk n ((p1)) ((p2)) ((p4))) (nwU2 M (readRow ((p1)) ((0 : Int32))) (((p2))).toNatClampNeg ((p4))) M) (er) (us)) ++ ((wL G (li) (ML)) ++ ((wS G (st) (ns) (w) (MS)) ++ ((wD G (d) (nd) (lo) (ho) (rk)) ++ ((wM G (a) (n) (cu) (bg) ((coF M)) ((goF M)) (er) (us) (ll) (lm) (lh) (nv) (fr) (tt) (gr) ((hdF2 ML)) (ns) (w) (cs) (cl) (nd) (lo) (ho) (so))))))))) := hD
    refine lv_aload_n hx hb dL_law_246 rfl (lv_at hl 1 rfl) ?_
    refine lv_aload_n hx hb dL_law_247 rfl (lv_at hl 3 rfl) ?_
    refine lv_iload_n hx hb dL_law_248 rfl (lv_at hl 0 rfl) ?_
    refine lv_iconst (v := (1)) hx hb dL_law_249 (by decide) ?_
    refine lv_iadd hx hb dL_law_250 ?_
    refine nw_top (y := nI (k + 1)) (nI_add (k) (1)) ?_
    refine nw_sld hx hb hsX hsb hsA hS (k := k + 1) (by omega) (by omega) p1 e1 dL_law_251 ?_
    refine lv_aload_n hx hb dL_law_252 rfl (lv_at hl 3 rfl) ?_
    refine lv_iload_n hx hb dL_law_253 rfl (lv_at hl 0 rfl) ?_
    refine lv_iconst (v := (2)) hx hb dL_law_254 (by decide) ?_
    refine lv_iadd hx hb dL_law_255 ?_
    refine nw_top (y := nI (k + 2)) (nI_add (k) (2)) ?_
    refine nw_sld hx hb hsX hsb hsA hS (k := k + 2) (by omega) (by omega) p2 e2 dL_law_256 ?_
    refine lv_aload_n hx hb dL_law_257 rfl (lv_at hl 3 rfl) ?_
    refine lv_iload_n hx hb dL_law_258 rfl (lv_at hl 0 rfl) ?_
    refine lv_iconst (v := (3)) hx hb dL_law_259 (by decide) ?_
    refine lv_iadd hx hb dL_law_260 ?_
    refine nw_top (y := nI (k + 3)) (nI_add (k) (3)) ?_
    refine nw_sld hx hb hsX hsb hsA hS (k := k + 3) (by omega) (by omega) p3 e3 dL_law_261 ?_
    refine lv_if_eq (tgt := 269) hx hb dL_law_262 (by decide) (fun b262_3 => ?_) (fun b262_3 => ?_)
    · skip
      have b262_3 : ((p3) : Int32) = (0 : Int32) := b262_3
      refine lv_iconst (v := (0)) hx hb dL_law_269 (by decide) ?_
      refine lv_aload_n hx hb dL_law_270 rfl (lv_at hl 3 rfl) ?_
      refine lv_iload_n hx hb dL_law_271 rfl (lv_at hl 0 rfl) ?_
      refine lv_iconst (v := (4)) hx hb dL_law_272 (by decide) ?_
      refine lv_iadd hx hb dL_law_273 ?_
      refine nw_top (y := nI (k + 4)) (nI_add (k) (4)) ?_
      refine nw_sld hx hb hsX hsb hsA hS (k := k + 4) (by omega) (by omega) p4 e4 dL_law_274 ?_
      refine nw_Vi (As := [.int (p1), .int (p2), .int (0), .int (p4)]) (rest := [.int (nwIf (readOk (n) ((p1)) ((p2)) ((p4))) ((M) (readRow ((p1)) ((0 : Int32))) (((p2))).toNatClampNeg) (-2))]) (q0 := 0) X (c_X7_read lc G (a) (n) (cu) (bg) (M) (er) (us) (ll) (lm) (lh) (nv) (fr) (tt) (gr) (ML) (ns) (w) (cs) (cl) (nd) (lo) (ho) (so) ((p1)) ((p2)) ((0 : Int32)) ((p4)) (by first | assumption | omega)) (cwV 4 hts gL_law_X7_read rfl rfl rfl (by decide +kernel) ⟨Nat.le_of_ble_eq_true rfl, Nat.le_of_ble_eq_true rfl⟩) rfl (show vwCl[6]? = some (RX7, TX7, 23) from rfl) (nwSp.gen ((wN (b) (z 0) (v 0) (li 0) (st 0) (d 0)) ++ ((wV G (v) (z 0) (nv) (fr) (tt) (zl) (ld) (gk) (ut)) ++ ((wZ G (z) (n) (cu) (bg) (nwIf (readOk n ((p1)) ((p2)) ((p4))) (nwU2 M (readRow ((p1)) ((0 : Int32))) (((p2))).toNatClampNeg ((p4))) M) (er) (us)) ++ ((wL G (li) (ML)) ++ ((wS G (st) (ns) (w) (MS)) ++ ((wD G (d) (nd) (lo) (ho) (rk)))))))) ((wM G (a) (n) (cu) (bg) ((coF M)) ((goF M)) (er) (us) (ll) (lm) (lh) (nv) (fr) (tt) (gr) ((hdF2 ML)) (ns) (w) (cs) (cl) (nd) (lo) (ho) (so))) ([]) (f := fun q9 => (wN (b) (z 0) (v 0) (li 0) (st 0) (d 0)) ++ ((wV G (v) (z 0) (nv) (fr) (tt) (zl) (ld) (gk) (ut)) ++ ((wZ G (z) (n) (cu) (bg) (nwIf (readOk n ((p1)) ((p2)) ((p4))) (nwU2 M (readRow ((p1)) ((0 : Int32))) (((p2))).toNatClampNeg ((p4))) M) (er) (us)) ++ ((wL G (li) (ML)) ++ ((wS G (st) (ns) (w) (MS)) ++ ((wD G (d) (nd) (lo) (ho) (rk)) ++ (q9))))))) (by simp only [List.append_assoc, List.nil_append, List.append_nil]) (fun q9 => by simp only [List.append_assoc, List.nil_append, List.append_nil])) hP hD hS hA rfl hl.1 rfl (Nat.le_of_ble_eq_true rfl) dL_law_275 ⟨Nat.le_of_ble_eq_true rfl, Nat.le_of_ble_eq_true rfl⟩ (fun r w H locs hp_4 hP hD hS => ?_)
      obtain ⟨rfl, rfl⟩ := hp_4
      have hP : va_P G.1 vwCl ((wN (b) (z 0) (v 0) (li 0) (st 0) (d 0)) ++ ((wV G (v) (z 0) (nv) (fr) (tt) (zl) (ld) (gk) (ut)) ++ ((wZ G (z) (n) (cu) (bg) (nwIf (readOk n ((p1)) ((p2)) ((p4))) (nwU2 M (readRow ((p1)) ((0 : Int32))) (((p2))).toNatClampNeg ((p4))) M) (er) (us)) ++ ((wL G (li) (ML)) ++ ((wS G (st) (ns) (w) (MS)) ++ ((wD G (d) (nd) (lo) (ho) (rk)) ++ ((wM G (a) (n) (cu) (bg) ((coF (nwIf (readOk n ((p1)) ((p2)) ((p4))) (nwU2 M (readRow ((p1)) ((0 : Int32))) (((p2))).toNatClampNeg ((p4))) M))) ((goF (nwIf (readOk n ((p1)) ((p2)) ((p4))) (nwU2 M (readRow ((p1)) ((0 : Int32))) (((p2))).toNatClampNeg ((p4))) M))) (er) (us) (ll) (lm) (lh) (nv) (fr) (tt) (gr) ((hdF2 ML)) (ns) (w) (cs) (cl) (nd) (lo) (ho) (so))))))))) H := hP
      have hD : va_D vA ((wN (b) (z 0) (v 0) (li 0) (st 0) (d 0)) ++ ((wV G (v) (z 0) (nv) (fr) (tt) (zl) (ld) (gk) (ut)) ++ ((wZ G (z) (n) (cu) (bg) (nwIf (readOk n ((p1)) ((p2)) ((p4))) (nwU2 M (readRow ((p1)) ((0 : Int32))) (((p2))).toNatClampNeg ((p4))) M) (er) (us)) ++ ((wL G (li) (ML)) ++ ((wS G (st) (ns) (w) (MS)) ++ ((wD G (d) (nd) (lo) (ho) (rk)) ++ ((wM G (a) (n) (cu) (bg) ((coF (nwIf (readOk n ((p1)) ((p2)) ((p4))) (nwU2 M (readRow ((p1)) ((0 : Int32))) (((p2))).toNatClampNeg ((p4))) M))) ((goF (nwIf (readOk n ((p1)) ((p2)) ((p4))) (nwU2 M (readRow ((p1)) ((0 : Int32))) (((p2))).toNatClampNeg ((p4))) M))) (er) (us) (ll) (lm) (lh) (nv) (fr) (tt) (gr) ((hdF2 ML)) (ns) (w) (cs) (cl) (nd) (lo) (ho) (so))))))))) := hD
      refine lv_icmp_eq (tgt := 966) hx hb dL_law_278 (by decide) (fun b278_5 => ?_) (fun b278_5 => ?_)
      · skip
        have b278_5 : ((nwIf (readOk (n) ((p1)) ((p2)) ((p4))) ((M) (readRow ((p1)) ((0 : Int32))) (((p2))).toNatClampNeg) (-2)) : Int32) = (nwIf (readOk (n) ((p1)) ((p2)) ((p4))) ((M) (readRow ((p1)) ((0 : Int32))) (((p2))).toNatClampNeg) (-2)) := b278_5
        exact hK9 (nv) (fr) (tt) (zl) (ld) (gk) (ut) (n) (cu) (bg) (nwIf (readOk n ((p1)) ((p2)) ((p4))) (nwU2 M (readRow ((p1)) ((0 : Int32))) (((p2))).toNatClampNeg ((p4))) M) (er) (us) (ML) (ns) (w) (MS) (nd) (lo) (ho) (rk) (ll) (lm) (lh) (gr) (cs) (cl) (so) _ _ _ (by exact lwI_read hI) (lv_sub hl [0, 1, 2, 3] rfl) hP hD hS
      · skip
        have b278_5 : ¬ (((nwIf (readOk (n) ((p1)) ((p2)) ((p4))) ((M) (readRow ((p1)) ((0 : Int32))) (((p2))).toNatClampNeg) (-2)) : Int32) = (nwIf (readOk (n) ((p1)) ((p2)) ((p4))) ((M) (readRow ((p1)) ((0 : Int32))) (((p2))).toNatClampNeg) (-2))) := b278_5
        exact absurd rfl b278_5
    · skip
      have b262_3 : ¬ (((p3) : Int32) = (0 : Int32)) := b262_3
      contradiction
  · skip
    have b230_1 : ¬ (((p3) : Int32) = (0 : Int32)) := b230_1
    refine lv_iconst (v := (1)) hx hb dL_law_233 (by decide) ?_
    refine lv_goto (tgt := 238) hx hb dL_law_234 (by decide) ?_
    refine lv_aload_n hx hb dL_law_238 rfl (lv_at hl 3 rfl) ?_
    refine lv_iload_n hx hb dL_law_239 rfl (lv_at hl 0 rfl) ?_
    refine lv_iconst (v := (4)) hx hb dL_law_240 (by decide) ?_
    refine lv_iadd hx hb dL_law_241 ?_
    refine nw_top (y := nI (k + 4)) (nI_add (k) (4)) ?_
    refine nw_sld hx hb hsX hsb hsA hS (k := k + 4) (by omega) (by omega) p4 e4 dL_law_242 ?_
    refine nw_Vi (As := [.int (p1), .int (p2), .int (1), .int (p4)]) (rest := []) (q0 := 0) X (c_X6_read lc G (b) (v) (z) (li) (st) (d) (nv) (fr) (tt) (zl) (ld) (gk) (ut) (n) (cu) (bg) (M) (er) (us) (ML) (ns) (w) (MS) (nd) (lo) (ho) (rk) ((p1)) ((p2)) ((1 : Int32)) ((p4)) (by first | assumption | omega)) (cwV 4 hts gL_law_X6_read rfl rfl rfl (by decide +kernel) ⟨Nat.le_of_ble_eq_true rfl, Nat.le_of_ble_eq_true rfl⟩) rfl (show vwCl[5]? = some (RX6, TX6, 5) from rfl) (nwSp.gen ([]) ((wN (b) (z 0) (v 0) (li 0) (st 0) (d 0)) ++ ((wV G (v) (z 0) (nv) (fr) (tt) (zl) (ld) (gk) (ut)) ++ ((wZ G (z) (n) (cu) (bg) (M) (er) (us)) ++ ((wL G (li) (ML)) ++ ((wS G (st) (ns) (w) (MS)) ++ ((wD G (d) (nd) (lo) (ho) (rk)))))))) ((wM G (a) (n) (cu) (bg) ((coF M)) ((goF M)) (er) (us) (ll) (lm) (lh) (nv) (fr) (tt) (gr) ((hdF2 ML)) (ns) (w) (cs) (cl) (nd) (lo) (ho) (so))) (f := fun q9 => q9 ++ ((wM G (a) (n) (cu) (bg) ((coF M)) ((goF M)) (er) (us) (ll) (lm) (lh) (nv) (fr) (tt) (gr) ((hdF2 ML)) (ns) (w) (cs) (cl) (nd) (lo) (ho) (so)))) (by simp only [List.append_assoc, List.nil_append, List.append_nil]) (fun q9 => by simp only [List.append_assoc, List.nil_append, List.append_nil])) hP hD hS hA rfl hl.1 rfl (Nat.le_of_ble_eq_true rfl) dL_law_243 ⟨Nat.le_of_ble_eq_true rfl, Nat.le_of_ble_eq_true rfl⟩ (fun r w H locs hp_6 hP hD hS => ?_)
    obtain ⟨rfl, rfl⟩ := hp_6
    simp only [List.append_assoc] at hP hD
    have hP : va_P G.1 vwCl ((wN (b) (z 0) (v 0) (li 0) (st 0) (d 0)) ++ ((wV G (v) (z 0) (nv) (fr) (tt) (zl) (ld) (gk) (ut)) ++ ((wZ G (z) (n) (cu) (bg) (nwIf (readOk n ((p1)) ((p2)) ((p4))) (nwU2 M (readRow ((p1)) ((1 : Int32))) (((p2))).toNatClampNeg ((p4))) M) (er) (us)) ++ ((wL G (li) (ML)) ++ ((wS G (st) (ns) (w) (MS)) ++ ((wD G (d) (nd) (lo) (ho) (rk)) ++ ((wM G (a) (n) (cu) (bg) ((coF M)) ((goF M)) (er) (us) (ll) (lm) (lh) (nv) (fr) (tt) (gr) ((hdF2 ML)) (ns) (w) (cs) (cl) (nd) (lo) (ho) (so))))))))) H := hP
    have hD : va_D vA ((wN (b) (z 0) (v 0) (li 0) (st 0) (d 0)) ++ ((wV G (v) (z 0) (nv) (fr) (tt) (zl) (ld) (gk) (ut)) ++ ((wZ G (z) (n) (cu) (bg) (nwIf (readOk n ((p1)) ((p2)) ((p4))) (nwU2 M (readRow ((p1)) ((1 : Int32))) (((p2))).toNatClampNeg ((p4))) M) (er) (us)) ++ ((wL G (li) (ML)) ++ ((wS G (st) (ns) (w) (MS)) ++ ((wD G (d) (nd) (lo) (ho) (rk)) ++ ((wM G (a) (n) (cu) (bg) ((coF M)) ((goF M)) (er) (us) (ll) (lm) (lh) (nv) (fr) (tt) (gr) ((hdF2 ML)) (ns) (w) (cs) (cl) (nd) (lo) (ho) (so))))))))) := hD
    refine lv_aload_n hx hb dL_law_246 rfl (lv_at hl 1 rfl) ?_
    refine lv_aload_n hx hb dL_law_247 rfl (lv_at hl 3 rfl) ?_
    refine lv_iload_n hx hb dL_law_248 rfl (lv_at hl 0 rfl) ?_
    refine lv_iconst (v := (1)) hx hb dL_law_249 (by decide) ?_
    refine lv_iadd hx hb dL_law_250 ?_
    refine nw_top (y := nI (k + 1)) (nI_add (k) (1)) ?_
    refine nw_sld hx hb hsX hsb hsA hS (k := k + 1) (by omega) (by omega) p1 e1 dL_law_251 ?_
    refine lv_aload_n hx hb dL_law_252 rfl (lv_at hl 3 rfl) ?_
    refine lv_iload_n hx hb dL_law_253 rfl (lv_at hl 0 rfl) ?_
    refine lv_iconst (v := (2)) hx hb dL_law_254 (by decide) ?_
    refine lv_iadd hx hb dL_law_255 ?_
    refine nw_top (y := nI (k + 2)) (nI_add (k) (2)) ?_
    refine nw_sld hx hb hsX hsb hsA hS (k := k + 2) (by omega) (by omega) p2 e2 dL_law_256 ?_
    refine lv_aload_n hx hb dL_law_257 rfl (lv_at hl 3 rfl) ?_
    refine lv_iload_n hx hb dL_law_258 rfl (lv_at hl 0 rfl) ?_
    refine lv_iconst (v := (3)) hx hb dL_law_259 (by decide) ?_
    refine lv_iadd hx hb dL_law_260 ?_
    refine nw_top (y := nI (k + 3)) (nI_add (k) (3)) ?_
    refine nw_sld hx hb hsX hsb hsA hS (k := k + 3) (by omega) (by omega) p3 e3 dL_law_261 ?_
    refine lv_if_eq (tgt := 269) hx hb dL_law_262 (by decide) (fun b262_7 => ?_) (fun b262_7 => ?_)
    · skip
      have b262_7 : ((p3) : Int32) = (0 : Int32) := b262_7
      contradiction
    · skip
      have b262_7 : ¬ (((p3) : Int32) = (0 : Int32)) := b262_7
      refine lv_iconst (v := (1)) hx hb dL_law_265 (by decide) ?_
      refine lv_goto (tgt := 270) hx hb dL_law_266 (by decide) ?_
      refine lv_aload_n hx hb dL_law_270 rfl (lv_at hl 3 rfl) ?_
      refine lv_iload_n hx hb dL_law_271 rfl (lv_at hl 0 rfl) ?_
      refine lv_iconst (v := (4)) hx hb dL_law_272 (by decide) ?_
      refine lv_iadd hx hb dL_law_273 ?_
      refine nw_top (y := nI (k + 4)) (nI_add (k) (4)) ?_
      refine nw_sld hx hb hsX hsb hsA hS (k := k + 4) (by omega) (by omega) p4 e4 dL_law_274 ?_
      refine nw_Vi (As := [.int (p1), .int (p2), .int (1), .int (p4)]) (rest := [.int (nwIf (readOk (n) ((p1)) ((p2)) ((p4))) ((M) (readRow ((p1)) ((1 : Int32))) (((p2))).toNatClampNeg) (-2))]) (q0 := 0) X (c_X7_read lc G (a) (n) (cu) (bg) (M) (er) (us) (ll) (lm) (lh) (nv) (fr) (tt) (gr) (ML) (ns) (w) (cs) (cl) (nd) (lo) (ho) (so) ((p1)) ((p2)) ((1 : Int32)) ((p4)) (by first | assumption | omega)) (cwV 4 hts gL_law_X7_read rfl rfl rfl (by decide +kernel) ⟨Nat.le_of_ble_eq_true rfl, Nat.le_of_ble_eq_true rfl⟩) rfl (show vwCl[6]? = some (RX7, TX7, 23) from rfl) (nwSp.gen ((wN (b) (z 0) (v 0) (li 0) (st 0) (d 0)) ++ ((wV G (v) (z 0) (nv) (fr) (tt) (zl) (ld) (gk) (ut)) ++ ((wZ G (z) (n) (cu) (bg) (nwIf (readOk n ((p1)) ((p2)) ((p4))) (nwU2 M (readRow ((p1)) ((1 : Int32))) (((p2))).toNatClampNeg ((p4))) M) (er) (us)) ++ ((wL G (li) (ML)) ++ ((wS G (st) (ns) (w) (MS)) ++ ((wD G (d) (nd) (lo) (ho) (rk)))))))) ((wM G (a) (n) (cu) (bg) ((coF M)) ((goF M)) (er) (us) (ll) (lm) (lh) (nv) (fr) (tt) (gr) ((hdF2 ML)) (ns) (w) (cs) (cl) (nd) (lo) (ho) (so))) ([]) (f := fun q9 => (wN (b) (z 0) (v 0) (li 0) (st 0) (d 0)) ++ ((wV G (v) (z 0) (nv) (fr) (tt) (zl) (ld) (gk) (ut)) ++ ((wZ G (z) (n) (cu) (bg) (nwIf (readOk n ((p1)) ((p2)) ((p4))) (nwU2 M (readRow ((p1)) ((1 : Int32))) (((p2))).toNatClampNeg ((p4))) M) (er) (us)) ++ ((wL G (li) (ML)) ++ ((wS G (st) (ns) (w) (MS)) ++ ((wD G (d) (nd) (lo) (ho) (rk)) ++ (q9))))))) (by simp only [List.append_assoc, List.nil_append, List.append_nil]) (fun q9 => by simp only [List.append_assoc, List.nil_append, List.append_nil])) hP hD hS hA rfl hl.1 rfl (Nat.le_of_ble_eq_true rfl) dL_law_275 ⟨Nat.le_of_ble_eq_true rfl, Nat.le_of_ble_eq_true rfl⟩ (fun r w H locs hp_8 hP hD hS => ?_)
      obtain ⟨rfl, rfl⟩ := hp_8
      have hP : va_P G.1 vwCl ((wN (b) (z 0) (v 0) (li 0) (st 0) (d 0)) ++ ((wV G (v) (z 0) (nv) (fr) (tt) (zl) (ld) (gk) (ut)) ++ ((wZ G (z) (n) (cu) (bg) (nwIf (readOk n ((p1)) ((p2)) ((p4))) (nwU2 M (readRow ((p1)) ((1 : Int32))) (((p2))).toNatClampNeg ((p4))) M) (er) (us)) ++ ((wL G (li) (ML)) ++ ((wS G (st) (ns) (w) (MS)) ++ ((wD G (d) (nd) (lo) (ho) (rk)) ++ ((wM G (a) (n) (cu) (bg) ((coF (nwIf (readOk n ((p1)) ((p2)) ((p4))) (nwU2 M (readRow ((p1)) ((1 : Int32))) (((p2))).toNatClampNeg ((p4))) M))) ((goF (nwIf (readOk n ((p1)) ((p2)) ((p4))) (nwU2 M (readRow ((p1)) ((1 : Int32))) (((p2))).toNatClampNeg ((p4))) M))) (er) (us) (ll) (lm) (lh) (nv) (fr) (tt) (gr) ((hdF2 ML)) (ns) (w) (cs) (cl) (nd) (lo) (ho) (so))))))))) H := hP
      have hD : va_D vA ((wN (b) (z 0) (v 0) (li 0) (st 0) (d 0)) ++ ((wV G (v) (z 0) (nv) (fr) (tt) (zl) (ld) (gk) (ut)) ++ ((wZ G (z) (n) (cu) (bg) (nwIf (readOk n ((p1)) ((p2)) ((p4))) (nwU2 M (readRow ((p1)) ((1 : Int32))) (((p2))).toNatClampNeg ((p4))) M) (er) (us)) ++ ((wL G (li) (ML)) ++ ((wS G (st) (ns) (w) (MS)) ++ ((wD G (d) (nd) (lo) (ho) (rk)) ++ ((wM G (a) (n) (cu) (bg) ((coF (nwIf (readOk n ((p1)) ((p2)) ((p4))) (nwU2 M (readRow ((p1)) ((1 : Int32))) (((p2))).toNatClampNeg ((p4))) M))) ((goF (nwIf (readOk n ((p1)) ((p2)) ((p4))) (nwU2 M (readRow ((p1)) ((1 : Int32))) (((p2))).toNatClampNeg ((p4))) M))) (er) (us) (ll) (lm) (lh) (nv) (fr) (tt) (gr) ((hdF2 ML)) (ns) (w) (cs) (cl) (nd) (lo) (ho) (so))))))))) := hD
      refine lv_icmp_eq (tgt := 966) hx hb dL_law_278 (by decide) (fun b278_9 => ?_) (fun b278_9 => ?_)
      · skip
        have b278_9 : ((nwIf (readOk (n) ((p1)) ((p2)) ((p4))) ((M) (readRow ((p1)) ((1 : Int32))) (((p2))).toNatClampNeg) (-2)) : Int32) = (nwIf (readOk (n) ((p1)) ((p2)) ((p4))) ((M) (readRow ((p1)) ((1 : Int32))) (((p2))).toNatClampNeg) (-2)) := b278_9
        exact hK9 (nv) (fr) (tt) (zl) (ld) (gk) (ut) (n) (cu) (bg) (nwIf (readOk n ((p1)) ((p2)) ((p4))) (nwU2 M (readRow ((p1)) ((1 : Int32))) (((p2))).toNatClampNeg ((p4))) M) (er) (us) (ML) (ns) (w) (MS) (nd) (lo) (ho) (rk) (ll) (lm) (lh) (gr) (cs) (cl) (so) _ _ _ (by exact lwI_read hI) (lv_sub hl [0, 1, 2, 3] rfl) hP hD hS
      · skip
        have b278_9 : ¬ (((nwIf (readOk (n) ((p1)) ((p2)) ((p4))) ((M) (readRow ((p1)) ((1 : Int32))) (((p2))).toNatClampNeg) (-2)) : Int32) = (nwIf (readOk (n) ((p1)) ((p2)) ((p4))) ((M) (readRow ((p1)) ((1 : Int32))) (((p2))).toNatClampNeg) (-2))) := b278_9
        exact absurd rfl b278_9
set_option maxHeartbeats 4000000 in
set_option maxRecDepth 100000 in
theorem law_3 {G : nwG} {b sb : Nat} {z v li st d a : Nat → Nat} {k L : Nat} {xs : Nat → Int32} {vp : Program} {lc : Launch} {ve : Env} {vs : State} {vm : MethodId} {args : Array Value} {vb : List Frame} {vt : Method} {vc : Code} {vA : Nat → Prop} {Q : State → Prop} {nm : String} (X : nwAt vp vm vc cL_law 4 vs args wsL_law RL vt (some .boolean) nm G) (hA : ∀ q, vs.heap.size ≤ q → vA q) (hsX : va_X sb L xs vs vs.heap) (hsb : sb < vs.heap.size) (hsA : ¬ vA sb) (hkL : k + 5 ≤ L) (hL : L ≤ 2560) {p1 p2 p3 p4 : Int32} (e1 : xs (k + 1) = p1) (e2 : xs (k + 2) = p2) (e3 : xs (k + 3) = p3) (e4 : xs (k + 4) = p4) (hK9 : lwK G b sb z v li st d a k vp lc ve vs vm args vb vt vc vA Q) (nv : Nat) (fr tt : Nat → Nat) (zl : Nat → Int32) (ld : Nat → Nat) (gk ut : Nat → Int32) (n : Nat) (cu bg : Nat → Int32) (M : Nat → Nat → Int32) (er us : Int32) (ML : Nat → Nat → Int32) (ns : Nat) (w : Nat → Nat) (MS : Nat → Nat → Int32) (nd : Nat) (lo ho : Nat → Int32) (rk : Nat → Nat) (ll lm lh : Int32) (gr : Nat → Nat) (cs cl : Nat → Int32) (so : Nat → Nat) (hI : lwI nv fr tt ld n cu bg M er us ns w MS nd lo ho rk gr so) (H : Heap) (locs : List Loc) (ls : Array Slot) (hl : lv_has ls 4 [(3, .int (nI k)), (2, .ref (a 0)), (1, .ref b), (0, .ref sb)]) (hP : va_P G.1 vwCl (lwW G b z v li st d a nv fr tt zl ld gk ut n cu bg M er us ML ns w MS nd lo ho rk ll lm lh gr cs cl so) H) (hD : va_D vA (lwW G b z v li st d a nv fr tt zl ld gk ut n cu bg M er us ML ns w MS nd lo ho rk ll lm lh gr cs cl so)) (hS : va_S vA vs.heap H locs) : W vp lc ve room_1 vs vm args vb vt vc H locs 80 1886 Q (F0 vm 283 ls []) := by
  have hx := X.1.1
  have hb := X.1.2.1
  have hown := X.1.2.2.2.1
  have hts := X.1.2.2.2.2
  have hK := X.2.2.2.2
  obtain ⟨hn, hnv, hf, hld, hgr, hsB, hn1, hn12, hw, hw0, hpl, hnd, hrk, hso, hrs⟩ := id hI
  have hso9 := hso
  have hP : va_P G.1 vwCl ((wN (b) (z 0) (v 0) (li 0) (st 0) (d 0)) ++ ((wV G (v) (z 0) (nv) (fr) (tt) (zl) (ld) (gk) (ut)) ++ ((wZ G (z) (n) (cu) (bg) (M) (er) (us)) ++ ((wL G (li) (ML)) ++ ((wS G (st) (ns) (w) (MS)) ++ ((wD G (d) (nd) (lo) (ho) (rk)) ++ ((wM G (a) (n) (cu) (bg) ((coF M)) ((goF M)) (er) (us) (ll) (lm) (lh) (nv) (fr) (tt) (gr) ((hdF2 ML)) (ns) (w) (cs) (cl) (nd) (lo) (ho) (so))))))))) H := hP
  have hD : va_D vA ((wN (b) (z 0) (v 0) (li 0) (st 0) (d 0)) ++ ((wV G (v) (z 0) (nv) (fr) (tt) (zl) (ld) (gk) (ut)) ++ ((wZ G (z) (n) (cu) (bg) (M) (er) (us)) ++ ((wL G (li) (ML)) ++ ((wS G (st) (ns) (w) (MS)) ++ ((wD G (d) (nd) (lo) (ho) (rk)) ++ ((wM G (a) (n) (cu) (bg) ((coF M)) ((goF M)) (er) (us) (ll) (lm) (lh) (nv) (fr) (tt) (gr) ((hdF2 ML)) (ns) (w) (cs) (cl) (nd) (lo) (ho) (so))))))))) := hD
  refine lv_aload_n hx hb dL_law_283 rfl (lv_at hl 2 rfl) ?_
  refine lv_aload_n hx hb dL_law_284 rfl (lv_at hl 3 rfl) ?_
  refine lv_iload_n hx hb dL_law_285 rfl (lv_at hl 0 rfl) ?_
  refine lv_iconst (v := (1)) hx hb dL_law_286 (by decide) ?_
  refine lv_iadd hx hb dL_law_287 ?_
  refine nw_top (y := nI (k + 1)) (nI_add (k) (1)) ?_
  refine nw_sld hx hb hsX hsb hsA hS (k := k + 1) (by omega) (by omega) p1 e1 dL_law_288 ?_
  refine lv_aload_n hx hb dL_law_289 rfl (lv_at hl 3 rfl) ?_
  refine lv_iload_n hx hb dL_law_290 rfl (lv_at hl 0 rfl) ?_
  refine lv_iconst (v := (2)) hx hb dL_law_291 (by decide) ?_
  refine lv_iadd hx hb dL_law_292 ?_
  refine nw_top (y := nI (k + 2)) (nI_add (k) (2)) ?_
  refine nw_sld hx hb hsX hsb hsA hS (k := k + 2) (by omega) (by omega) p2 e2 dL_law_293 ?_
  refine nw_Vi (As := [.int (p1), .int (p2)]) (rest := []) (q0 := 0) X (c_X6_low lc G (b) (v) (z) (li) (st) (d) (nv) (fr) (tt) (zl) (ld) (gk) (ut) (n) (cu) (bg) (M) (er) (us) (ML) (ns) (w) (MS) (nd) (lo) (ho) (rk) ((p1)) ((p2)) (by first | assumption | omega)) (cwV 2 hts gL_law_X6_low rfl rfl rfl (by decide +kernel) ⟨Nat.le_of_ble_eq_true rfl, Nat.le_of_ble_eq_true rfl⟩) rfl (show vwCl[5]? = some (RX6, TX6, 5) from rfl) (nwSp.gen ([]) ((wN (b) (z 0) (v 0) (li 0) (st 0) (d 0)) ++ ((wV G (v) (z 0) (nv) (fr) (tt) (zl) (ld) (gk) (ut)) ++ ((wZ G (z) (n) (cu) (bg) (M) (er) (us)) ++ ((wL G (li) (ML)) ++ ((wS G (st) (ns) (w) (MS)) ++ ((wD G (d) (nd) (lo) (ho) (rk)))))))) ((wM G (a) (n) (cu) (bg) ((coF M)) ((goF M)) (er) (us) (ll) (lm) (lh) (nv) (fr) (tt) (gr) ((hdF2 ML)) (ns) (w) (cs) (cl) (nd) (lo) (ho) (so))) (f := fun q9 => q9 ++ ((wM G (a) (n) (cu) (bg) ((coF M)) ((goF M)) (er) (us) (ll) (lm) (lh) (nv) (fr) (tt) (gr) ((hdF2 ML)) (ns) (w) (cs) (cl) (nd) (lo) (ho) (so)))) (by simp only [List.append_assoc, List.nil_append, List.append_nil]) (fun q9 => by simp only [List.append_assoc, List.nil_append, List.append_nil])) hP hD hS hA rfl hl.1 rfl (Nat.le_of_ble_eq_true rfl) dL_law_294 ⟨Nat.le_of_ble_eq_true rfl, Nat.le_of_ble_eq_true rfl⟩ (fun r w H locs hp_1 hP hD hS => ?_)
  obtain ⟨rfl, rfl⟩ := hp_1
  simp only [List.append_assoc] at hP hD
  have hP : va_P G.1 vwCl ((wN (b) (z 0) (v 0) (li 0) (st 0) (d 0)) ++ ((wV G (v) (z 0) (nv) (fr) (tt) (zl) (ld) (gk) (ut)) ++ ((wZ G (z) (n) (cu) (bg) (M) (er) (us)) ++ ((wL G (li) (ML)) ++ ((wS G (st) (ns) (w) (MS)) ++ ((wD G (d) (nd) (lo) (ho) (rk)) ++ ((wM G (a) (n) (cu) (bg) ((coF M)) ((goF M)) (er) (us) (ll) (lm) (lh) (nv) (fr) (tt) (gr) ((hdF2 ML)) (ns) (w) (cs) (cl) (nd) (lo) (ho) (so))))))))) H := hP
  have hD : va_D vA ((wN (b) (z 0) (v 0) (li 0) (st 0) (d 0)) ++ ((wV G (v) (z 0) (nv) (fr) (tt) (zl) (ld) (gk) (ut)) ++ ((wZ G (z) (n) (cu) (bg) (M) (er) (us)) ++ ((wL G (li) (ML)) ++ ((wS G (st) (ns) (w) (MS)) ++ ((wD G (d) (nd) (lo) (ho) (rk)) ++ ((wM G (a) (n) (cu) (bg) ((coF M)) ((goF M)) (er) (us) (ll) (lm) (lh) (nv) (fr) (tt) (gr) ((hdF2 ML)) (ns) (w) (cs) (cl) (nd) (lo) (ho) (so))))))))) := hD
  refine lv_aload_n hx hb dL_law_297 rfl (lv_at hl 1 rfl) ?_
  refine lv_aload_n hx hb dL_law_298 rfl (lv_at hl 3 rfl) ?_
  refine lv_iload_n hx hb dL_law_299 rfl (lv_at hl 0 rfl) ?_
  refine lv_iconst (v := (1)) hx hb dL_law_300 (by decide) ?_
  refine lv_iadd hx hb dL_law_301 ?_
  refine nw_top (y := nI (k + 1)) (nI_add (k) (1)) ?_
  refine nw_sld hx hb hsX hsb hsA hS (k := k + 1) (by omega) (by omega) p1 e1 dL_law_302 ?_
  refine lv_aload_n hx hb dL_law_303 rfl (lv_at hl 3 rfl) ?_
  refine lv_iload_n hx hb dL_law_304 rfl (lv_at hl 0 rfl) ?_
  refine lv_iconst (v := (2)) hx hb dL_law_305 (by decide) ?_
  refine lv_iadd hx hb dL_law_306 ?_
  refine nw_top (y := nI (k + 2)) (nI_add (k) (2)) ?_
  refine nw_sld hx hb hsX hsb hsA hS (k := k + 2) (by omega) (by omega) p2 e2 dL_law_307 ?_
  refine nw_Vi (As := [.int (p1), .int (p2)]) (rest := [.int (lowPF (n) (M) (er) ((p1)) ((p2)))]) (q0 := 0) X (c_X7_low lc G (a) (n) (cu) (bg) (M) (er) (us) (ll) (lm) (lh) (nv) (fr) (tt) (gr) (ML) (ns) (w) (cs) (cl) (nd) (lo) (ho) (so) ((p1)) ((p2)) (by first | assumption | omega)) (cwV 2 hts gL_law_X7_low rfl rfl rfl (by decide +kernel) ⟨Nat.le_of_ble_eq_true rfl, Nat.le_of_ble_eq_true rfl⟩) rfl (show vwCl[6]? = some (RX7, TX7, 23) from rfl) (nwSp.gen ((wN (b) (z 0) (v 0) (li 0) (st 0) (d 0)) ++ ((wV G (v) (z 0) (nv) (fr) (tt) (zl) (ld) (gk) (ut)) ++ ((wZ G (z) (n) (cu) (bg) (M) (er) (us)) ++ ((wL G (li) (ML)) ++ ((wS G (st) (ns) (w) (MS)) ++ ((wD G (d) (nd) (lo) (ho) (rk)))))))) ((wM G (a) (n) (cu) (bg) ((coF M)) ((goF M)) (er) (us) (ll) (lm) (lh) (nv) (fr) (tt) (gr) ((hdF2 ML)) (ns) (w) (cs) (cl) (nd) (lo) (ho) (so))) ([]) (f := fun q9 => (wN (b) (z 0) (v 0) (li 0) (st 0) (d 0)) ++ ((wV G (v) (z 0) (nv) (fr) (tt) (zl) (ld) (gk) (ut)) ++ ((wZ G (z) (n) (cu) (bg) (M) (er) (us)) ++ ((wL G (li) (ML)) ++ ((wS G (st) (ns) (w) (MS)) ++ ((wD G (d) (nd) (lo) (ho) (rk)) ++ (q9))))))) (by simp only [List.append_assoc, List.nil_append, List.append_nil]) (fun q9 => by simp only [List.append_assoc, List.nil_append, List.append_nil])) hP hD hS hA rfl hl.1 rfl (Nat.le_of_ble_eq_true rfl) dL_law_308 ⟨Nat.le_of_ble_eq_true rfl, Nat.le_of_ble_eq_true rfl⟩ (fun r w H locs hp_2 hP hD hS => ?_)
  obtain ⟨llv_3, lmv_4, lhv_5, rfl, rfl⟩ := hp_2
  have hP : va_P G.1 vwCl ((wN (b) (z 0) (v 0) (li 0) (st 0) (d 0)) ++ ((wV G (v) (z 0) (nv) (fr) (tt) (zl) (ld) (gk) (ut)) ++ ((wZ G (z) (n) (cu) (bg) (M) (er) (us)) ++ ((wL G (li) (ML)) ++ ((wS G (st) (ns) (w) (MS)) ++ ((wD G (d) (nd) (lo) (ho) (rk)) ++ ((wM G (a) (n) (cu) (bg) ((coF M)) ((goF M)) (er) (us) (llv_3) (lmv_4) (lhv_5) (nv) (fr) (tt) (gr) ((hdF2 ML)) (ns) (w) (cs) (cl) (nd) (lo) (ho) (so))))))))) H := hP
  have hD : va_D vA ((wN (b) (z 0) (v 0) (li 0) (st 0) (d 0)) ++ ((wV G (v) (z 0) (nv) (fr) (tt) (zl) (ld) (gk) (ut)) ++ ((wZ G (z) (n) (cu) (bg) (M) (er) (us)) ++ ((wL G (li) (ML)) ++ ((wS G (st) (ns) (w) (MS)) ++ ((wD G (d) (nd) (lo) (ho) (rk)) ++ ((wM G (a) (n) (cu) (bg) ((coF M)) ((goF M)) (er) (us) (llv_3) (lmv_4) (lhv_5) (nv) (fr) (tt) (gr) ((hdF2 ML)) (ns) (w) (cs) (cl) (nd) (lo) (ho) (so))))))))) := hD
  refine lv_icmp_eq (tgt := 966) hx hb dL_law_311 (by decide) (fun b311_6 => ?_) (fun b311_6 => ?_)
  · skip
    have b311_6 : ((lowPF (n) (M) (er) ((p1)) ((p2))) : Int32) = (lowPF (n) (M) (er) ((p1)) ((p2))) := b311_6
    exact hK9 (nv) (fr) (tt) (zl) (ld) (gk) (ut) (n) (cu) (bg) (M) (er) (us) (ML) (ns) (w) (MS) (nd) (lo) (ho) (rk) (llv_3) (lmv_4) (lhv_5) (gr) (cs) (cl) (so) _ _ _ (by exact lwI_same hI (by first | assumption | exact hld) (by first | assumption | exact hgr) (by first | assumption | exact hso9)) (lv_sub hl [0, 1, 2, 3] rfl) hP hD hS
  · skip
    have b311_6 : ¬ (((lowPF (n) (M) (er) ((p1)) ((p2))) : Int32) = (lowPF (n) (M) (er) ((p1)) ((p2)))) := b311_6
    exact absurd rfl b311_6
set_option maxHeartbeats 4000000 in
set_option maxRecDepth 100000 in
theorem law_4 {G : nwG} {b sb : Nat} {z v li st d a : Nat → Nat} {k L : Nat} {xs : Nat → Int32} {vp : Program} {lc : Launch} {ve : Env} {vs : State} {vm : MethodId} {args : Array Value} {vb : List Frame} {vt : Method} {vc : Code} {vA : Nat → Prop} {Q : State → Prop} {nm : String} (X : nwAt vp vm vc cL_law 4 vs args wsL_law RL vt (some .boolean) nm G) (hA : ∀ q, vs.heap.size ≤ q → vA q) (hsX : va_X sb L xs vs vs.heap) (hsb : sb < vs.heap.size) (hsA : ¬ vA sb) (hkL : k + 5 ≤ L) (hL : L ≤ 2560) {p1 p2 p3 p4 : Int32} (e1 : xs (k + 1) = p1) (e2 : xs (k + 2) = p2) (e3 : xs (k + 3) = p3) (e4 : xs (k + 4) = p4) (hK9 : lwK G b sb z v li st d a k vp lc ve vs vm args vb vt vc vA Q) (nv : Nat) (fr tt : Nat → Nat) (zl : Nat → Int32) (ld : Nat → Nat) (gk ut : Nat → Int32) (n : Nat) (cu bg : Nat → Int32) (M : Nat → Nat → Int32) (er us : Int32) (ML : Nat → Nat → Int32) (ns : Nat) (w : Nat → Nat) (MS : Nat → Nat → Int32) (nd : Nat) (lo ho : Nat → Int32) (rk : Nat → Nat) (ll lm lh : Int32) (gr : Nat → Nat) (cs cl : Nat → Int32) (so : Nat → Nat) (hI : lwI nv fr tt ld n cu bg M er us ns w MS nd lo ho rk gr so) (H : Heap) (locs : List Loc) (ls : Array Slot) (hl : lv_has ls 4 [(3, .int (nI k)), (2, .ref (a 0)), (1, .ref b), (0, .ref sb)]) (hP : va_P G.1 vwCl (lwW G b z v li st d a nv fr tt zl ld gk ut n cu bg M er us ML ns w MS nd lo ho rk ll lm lh gr cs cl so) H) (hD : va_D vA (lwW G b z v li st d a nv fr tt zl ld gk ut n cu bg M er us ML ns w MS nd lo ho rk ll lm lh gr cs cl so)) (hS : va_S vA vs.heap H locs) : W vp lc ve room_1 vs vm args vb vt vc H locs 80 1886 Q (F0 vm 316 ls []) := by
  have hx := X.1.1
  have hb := X.1.2.1
  have hown := X.1.2.2.2.1
  have hts := X.1.2.2.2.2
  have hK := X.2.2.2.2
  obtain ⟨hn, hnv, hf, hld, hgr, hsB, hn1, hn12, hw, hw0, hpl, hnd, hrk, hso, hrs⟩ := id hI
  have hso9 := hso
  have hP : va_P G.1 vwCl ((wN (b) (z 0) (v 0) (li 0) (st 0) (d 0)) ++ ((wV G (v) (z 0) (nv) (fr) (tt) (zl) (ld) (gk) (ut)) ++ ((wZ G (z) (n) (cu) (bg) (M) (er) (us)) ++ ((wL G (li) (ML)) ++ ((wS G (st) (ns) (w) (MS)) ++ ((wD G (d) (nd) (lo) (ho) (rk)) ++ ((wM G (a) (n) (cu) (bg) ((coF M)) ((goF M)) (er) (us) (ll) (lm) (lh) (nv) (fr) (tt) (gr) ((hdF2 ML)) (ns) (w) (cs) (cl) (nd) (lo) (ho) (so))))))))) H := hP
  have hD : va_D vA ((wN (b) (z 0) (v 0) (li 0) (st 0) (d 0)) ++ ((wV G (v) (z 0) (nv) (fr) (tt) (zl) (ld) (gk) (ut)) ++ ((wZ G (z) (n) (cu) (bg) (M) (er) (us)) ++ ((wL G (li) (ML)) ++ ((wS G (st) (ns) (w) (MS)) ++ ((wD G (d) (nd) (lo) (ho) (rk)) ++ ((wM G (a) (n) (cu) (bg) ((coF M)) ((goF M)) (er) (us) (ll) (lm) (lh) (nv) (fr) (tt) (gr) ((hdF2 ML)) (ns) (w) (cs) (cl) (nd) (lo) (ho) (so))))))))) := hD
  refine lv_aload_n hx hb dL_law_316 rfl (lv_at hl 2 rfl) ?_
  refine lv_aload_n hx hb dL_law_317 rfl (lv_at hl 3 rfl) ?_
  refine lv_iload_n hx hb dL_law_318 rfl (lv_at hl 0 rfl) ?_
  refine lv_iconst (v := (1)) hx hb dL_law_319 (by decide) ?_
  refine lv_iadd hx hb dL_law_320 ?_
  refine nw_top (y := nI (k + 1)) (nI_add (k) (1)) ?_
  refine nw_sld hx hb hsX hsb hsA hS (k := k + 1) (by omega) (by omega) p1 e1 dL_law_321 ?_
  refine lv_aload_n hx hb dL_law_322 rfl (lv_at hl 3 rfl) ?_
  refine lv_iload_n hx hb dL_law_323 rfl (lv_at hl 0 rfl) ?_
  refine lv_iconst (v := (2)) hx hb dL_law_324 (by decide) ?_
  refine lv_iadd hx hb dL_law_325 ?_
  refine nw_top (y := nI (k + 2)) (nI_add (k) (2)) ?_
  refine nw_sld hx hb hsX hsb hsA hS (k := k + 2) (by omega) (by omega) p2 e2 dL_law_326 ?_
  refine nw_Vi (As := [.int (p1), .int (p2)]) (rest := []) (q0 := 0) X (c_X6_leaks lc G (b) (v) (z) (li) (st) (d) (nv) (fr) (tt) (zl) (ld) (gk) (ut) (n) (cu) (bg) (M) (er) (us) (ML) (ns) (w) (MS) (nd) (lo) (ho) (rk) ((p1)) ((p2)) (by first | assumption | omega)) (cwV 2 hts gL_law_X6_leaks rfl rfl rfl (by decide +kernel) ⟨Nat.le_of_ble_eq_true rfl, Nat.le_of_ble_eq_true rfl⟩) rfl (show vwCl[5]? = some (RX6, TX6, 5) from rfl) (nwSp.gen ([]) ((wN (b) (z 0) (v 0) (li 0) (st 0) (d 0)) ++ ((wV G (v) (z 0) (nv) (fr) (tt) (zl) (ld) (gk) (ut)) ++ ((wZ G (z) (n) (cu) (bg) (M) (er) (us)) ++ ((wL G (li) (ML)) ++ ((wS G (st) (ns) (w) (MS)) ++ ((wD G (d) (nd) (lo) (ho) (rk)))))))) ((wM G (a) (n) (cu) (bg) ((coF M)) ((goF M)) (er) (us) (ll) (lm) (lh) (nv) (fr) (tt) (gr) ((hdF2 ML)) (ns) (w) (cs) (cl) (nd) (lo) (ho) (so))) (f := fun q9 => q9 ++ ((wM G (a) (n) (cu) (bg) ((coF M)) ((goF M)) (er) (us) (ll) (lm) (lh) (nv) (fr) (tt) (gr) ((hdF2 ML)) (ns) (w) (cs) (cl) (nd) (lo) (ho) (so)))) (by simp only [List.append_assoc, List.nil_append, List.append_nil]) (fun q9 => by simp only [List.append_assoc, List.nil_append, List.append_nil])) hP hD hS hA rfl hl.1 rfl (Nat.le_of_ble_eq_true rfl) dL_law_327 ⟨Nat.le_of_ble_eq_true rfl, Nat.le_of_ble_eq_true rfl⟩ (fun r w H locs hp_1 hP hD hS => ?_)
  obtain ⟨rfl, rfl⟩ := hp_1
  simp only [List.append_assoc] at hP hD
  have hP : va_P G.1 vwCl ((wN (b) (z 0) (v 0) (li 0) (st 0) (d 0)) ++ ((wV G (v) (z 0) (nv) (fr) (tt) (zl) (ld) (gk) (ut)) ++ ((wZ G (z) (n) (cu) (bg) (M) (er) (us)) ++ ((wL G (li) (ML)) ++ ((wS G (st) (ns) (w) (MS)) ++ ((wD G (d) (nd) (lo) (ho) (rk)) ++ ((wM G (a) (n) (cu) (bg) ((coF M)) ((goF M)) (er) (us) (ll) (lm) (lh) (nv) (fr) (tt) (gr) ((hdF2 ML)) (ns) (w) (cs) (cl) (nd) (lo) (ho) (so))))))))) H := hP
  have hD : va_D vA ((wN (b) (z 0) (v 0) (li 0) (st 0) (d 0)) ++ ((wV G (v) (z 0) (nv) (fr) (tt) (zl) (ld) (gk) (ut)) ++ ((wZ G (z) (n) (cu) (bg) (M) (er) (us)) ++ ((wL G (li) (ML)) ++ ((wS G (st) (ns) (w) (MS)) ++ ((wD G (d) (nd) (lo) (ho) (rk)) ++ ((wM G (a) (n) (cu) (bg) ((coF M)) ((goF M)) (er) (us) (ll) (lm) (lh) (nv) (fr) (tt) (gr) ((hdF2 ML)) (ns) (w) (cs) (cl) (nd) (lo) (ho) (so))))))))) := hD
  refine lv_aload_n hx hb dL_law_330 rfl (lv_at hl 1 rfl) ?_
  refine lv_aload_n hx hb dL_law_331 rfl (lv_at hl 3 rfl) ?_
  refine lv_iload_n hx hb dL_law_332 rfl (lv_at hl 0 rfl) ?_
  refine lv_iconst (v := (1)) hx hb dL_law_333 (by decide) ?_
  refine lv_iadd hx hb dL_law_334 ?_
  refine nw_top (y := nI (k + 1)) (nI_add (k) (1)) ?_
  refine nw_sld hx hb hsX hsb hsA hS (k := k + 1) (by omega) (by omega) p1 e1 dL_law_335 ?_
  refine lv_aload_n hx hb dL_law_336 rfl (lv_at hl 3 rfl) ?_
  refine lv_iload_n hx hb dL_law_337 rfl (lv_at hl 0 rfl) ?_
  refine lv_iconst (v := (2)) hx hb dL_law_338 (by decide) ?_
  refine lv_iadd hx hb dL_law_339 ?_
  refine nw_top (y := nI (k + 2)) (nI_add (k) (2)) ?_
  refine nw_sld hx hb hsX hsb hsA hS (k := k + 2) (by omega) (by omega) p2 e2 dL_law_340 ?_
  refine nw_Vi (As := [.int (p1), .int (p2)]) (rest := [.int (leaksF (n) (cu) (bg) (M) (er) (us) ((p1)) ((p2)))]) (q0 := 0) X (c_X7_leaks lc G (a) (n) (cu) (bg) (M) (er) (us) (ll) (lm) (lh) (nv) (fr) (tt) (gr) (ML) (ns) (w) (cs) (cl) (nd) (lo) (ho) (so) ((p1)) ((p2)) (by first | assumption | omega)) (cwV 2 hts gL_law_X7_leaks rfl rfl rfl (by decide +kernel) ⟨Nat.le_of_ble_eq_true rfl, Nat.le_of_ble_eq_true rfl⟩) rfl (show vwCl[6]? = some (RX7, TX7, 23) from rfl) (nwSp.gen ((wN (b) (z 0) (v 0) (li 0) (st 0) (d 0)) ++ ((wV G (v) (z 0) (nv) (fr) (tt) (zl) (ld) (gk) (ut)) ++ ((wZ G (z) (n) (cu) (bg) (M) (er) (us)) ++ ((wL G (li) (ML)) ++ ((wS G (st) (ns) (w) (MS)) ++ ((wD G (d) (nd) (lo) (ho) (rk)))))))) ((wM G (a) (n) (cu) (bg) ((coF M)) ((goF M)) (er) (us) (ll) (lm) (lh) (nv) (fr) (tt) (gr) ((hdF2 ML)) (ns) (w) (cs) (cl) (nd) (lo) (ho) (so))) ([]) (f := fun q9 => (wN (b) (z 0) (v 0) (li 0) (st 0) (d 0)) ++ ((wV G (v) (z 0) (nv) (fr) (tt) (zl) (ld) (gk) (ut)) ++ ((wZ G (z) (n) (cu) (bg) (M) (er) (us)) ++ ((wL G (li) (ML)) ++ ((wS G (st) (ns) (w) (MS)) ++ ((wD G (d) (nd) (lo) (ho) (rk)) ++ (q9))))))) (by simp only [List.append_assoc, List.nil_append, List.append_nil]) (fun q9 => by simp only [List.append_assoc, List.nil_append, List.append_nil])) hP hD hS hA rfl hl.1 rfl (Nat.le_of_ble_eq_true rfl) dL_law_341 ⟨Nat.le_of_ble_eq_true rfl, Nat.le_of_ble_eq_true rfl⟩ (fun r w H locs hp_2 hP hD hS => ?_)
  obtain ⟨llv_3, lmv_4, lhv_5, rfl, rfl⟩ := hp_2
  have hP : va_P G.1 vwCl ((wN (b) (z 0) (v 0) (li 0) (st 0) (d 0)) ++ ((wV G (v) (z 0) (nv) (fr) (tt) (zl) (ld) (gk) (ut)) ++ ((wZ G (z) (n) (cu) (bg) (M) (er) (us)) ++ ((wL G (li) (ML)) ++ ((wS G (st) (ns) (w) (MS)) ++ ((wD G (d) (nd) (lo) (ho) (rk)) ++ ((wM G (a) (n) (cu) (bg) ((coF M)) ((goF M)) (er) (us) (llv_3) (lmv_4) (lhv_5) (nv) (fr) (tt) (gr) ((hdF2 ML)) (ns) (w) (cs) (cl) (nd) (lo) (ho) (so))))))))) H := hP
  have hD : va_D vA ((wN (b) (z 0) (v 0) (li 0) (st 0) (d 0)) ++ ((wV G (v) (z 0) (nv) (fr) (tt) (zl) (ld) (gk) (ut)) ++ ((wZ G (z) (n) (cu) (bg) (M) (er) (us)) ++ ((wL G (li) (ML)) ++ ((wS G (st) (ns) (w) (MS)) ++ ((wD G (d) (nd) (lo) (ho) (rk)) ++ ((wM G (a) (n) (cu) (bg) ((coF M)) ((goF M)) (er) (us) (llv_3) (lmv_4) (lhv_5) (nv) (fr) (tt) (gr) ((hdF2 ML)) (ns) (w) (cs) (cl) (nd) (lo) (ho) (so))))))))) := hD
  refine lv_icmp_eq (tgt := 966) hx hb dL_law_344 (by decide) (fun b344_6 => ?_) (fun b344_6 => ?_)
  · skip
    have b344_6 : ((leaksF (n) (cu) (bg) (M) (er) (us) ((p1)) ((p2))) : Int32) = (leaksF (n) (cu) (bg) (M) (er) (us) ((p1)) ((p2))) := b344_6
    exact hK9 (nv) (fr) (tt) (zl) (ld) (gk) (ut) (n) (cu) (bg) (M) (er) (us) (ML) (ns) (w) (MS) (nd) (lo) (ho) (rk) (llv_3) (lmv_4) (lhv_5) (gr) (cs) (cl) (so) _ _ _ (by exact lwI_same hI (by first | assumption | exact hld) (by first | assumption | exact hgr) (by first | assumption | exact hso9)) (lv_sub hl [0, 1, 2, 3] rfl) hP hD hS
  · skip
    have b344_6 : ¬ (((leaksF (n) (cu) (bg) (M) (er) (us) ((p1)) ((p2))) : Int32) = (leaksF (n) (cu) (bg) (M) (er) (us) ((p1)) ((p2)))) := b344_6
    exact absurd rfl b344_6
set_option maxHeartbeats 4000000 in
set_option maxRecDepth 100000 in
theorem law_5 {G : nwG} {b sb : Nat} {z v li st d a : Nat → Nat} {k L : Nat} {xs : Nat → Int32} {vp : Program} {lc : Launch} {ve : Env} {vs : State} {vm : MethodId} {args : Array Value} {vb : List Frame} {vt : Method} {vc : Code} {vA : Nat → Prop} {Q : State → Prop} {nm : String} (X : nwAt vp vm vc cL_law 4 vs args wsL_law RL vt (some .boolean) nm G) (hA : ∀ q, vs.heap.size ≤ q → vA q) (hsX : va_X sb L xs vs vs.heap) (hsb : sb < vs.heap.size) (hsA : ¬ vA sb) (hkL : k + 5 ≤ L) (hL : L ≤ 2560) {p1 p2 p3 p4 : Int32} (e1 : xs (k + 1) = p1) (e2 : xs (k + 2) = p2) (e3 : xs (k + 3) = p3) (e4 : xs (k + 4) = p4) (hK9 : lwK G b sb z v li st d a k vp lc ve vs vm args vb vt vc vA Q) (nv : Nat) (fr tt : Nat → Nat) (zl : Nat → Int32) (ld : Nat → Nat) (gk ut : Nat → Int32) (n : Nat) (cu bg : Nat → Int32) (M : Nat → Nat → Int32) (er us : Int32) (ML : Nat → Nat → Int32) (ns : Nat) (w : Nat → Nat) (MS : Nat → Nat → Int32) (nd : Nat) (lo ho : Nat → Int32) (rk : Nat → Nat) (ll lm lh : Int32) (gr : Nat → Nat) (cs cl : Nat → Int32) (so : Nat → Nat) (hI : lwI nv fr tt ld n cu bg M er us ns w MS nd lo ho rk gr so) (H : Heap) (locs : List Loc) (ls : Array Slot) (hl : lv_has ls 4 [(3, .int (nI k)), (2, .ref (a 0)), (1, .ref b), (0, .ref sb)]) (hP : va_P G.1 vwCl (lwW G b z v li st d a nv fr tt zl ld gk ut n cu bg M er us ML ns w MS nd lo ho rk ll lm lh gr cs cl so) H) (hD : va_D vA (lwW G b z v li st d a nv fr tt zl ld gk ut n cu bg M er us ML ns w MS nd lo ho rk ll lm lh gr cs cl so)) (hS : va_S vA vs.heap H locs) : W vp lc ve room_1 vs vm args vb vt vc H locs 80 1886 Q (F0 vm 349 ls []) := by
  have hx := X.1.1
  have hb := X.1.2.1
  have hown := X.1.2.2.2.1
  have hts := X.1.2.2.2.2
  have hK := X.2.2.2.2
  obtain ⟨hn, hnv, hf, hld, hgr, hsB, hn1, hn12, hw, hw0, hpl, hnd, hrk, hso, hrs⟩ := id hI
  have hso9 := hso
  have hP : va_P G.1 vwCl ((wN (b) (z 0) (v 0) (li 0) (st 0) (d 0)) ++ ((wV G (v) (z 0) (nv) (fr) (tt) (zl) (ld) (gk) (ut)) ++ ((wZ G (z) (n) (cu) (bg) (M) (er) (us)) ++ ((wL G (li) (ML)) ++ ((wS G (st) (ns) (w) (MS)) ++ ((wD G (d) (nd) (lo) (ho) (rk)) ++ ((wM G (a) (n) (cu) (bg) ((coF M)) ((goF M)) (er) (us) (ll) (lm) (lh) (nv) (fr) (tt) (gr) ((hdF2 ML)) (ns) (w) (cs) (cl) (nd) (lo) (ho) (so))))))))) H := hP
  have hD : va_D vA ((wN (b) (z 0) (v 0) (li 0) (st 0) (d 0)) ++ ((wV G (v) (z 0) (nv) (fr) (tt) (zl) (ld) (gk) (ut)) ++ ((wZ G (z) (n) (cu) (bg) (M) (er) (us)) ++ ((wL G (li) (ML)) ++ ((wS G (st) (ns) (w) (MS)) ++ ((wD G (d) (nd) (lo) (ho) (rk)) ++ ((wM G (a) (n) (cu) (bg) ((coF M)) ((goF M)) (er) (us) (ll) (lm) (lh) (nv) (fr) (tt) (gr) ((hdF2 ML)) (ns) (w) (cs) (cl) (nd) (lo) (ho) (so))))))))) := hD
  refine lv_aload_n hx hb dL_law_349 rfl (lv_at hl 2 rfl) ?_
  refine lv_aload_n hx hb dL_law_350 rfl (lv_at hl 3 rfl) ?_
  refine lv_iload_n hx hb dL_law_351 rfl (lv_at hl 0 rfl) ?_
  refine lv_iconst (v := (1)) hx hb dL_law_352 (by decide) ?_
  refine lv_iadd hx hb dL_law_353 ?_
  refine nw_top (y := nI (k + 1)) (nI_add (k) (1)) ?_
  refine nw_sld hx hb hsX hsb hsA hS (k := k + 1) (by omega) (by omega) p1 e1 dL_law_354 ?_
  refine lv_aload_n hx hb dL_law_355 rfl (lv_at hl 3 rfl) ?_
  refine lv_iload_n hx hb dL_law_356 rfl (lv_at hl 0 rfl) ?_
  refine lv_iconst (v := (2)) hx hb dL_law_357 (by decide) ?_
  refine lv_iadd hx hb dL_law_358 ?_
  refine nw_top (y := nI (k + 2)) (nI_add (k) (2)) ?_
  refine nw_sld hx hb hsX hsb hsA hS (k := k + 2) (by omega) (by omega) p2 e2 dL_law_359 ?_
  refine nw_Vi (As := [.int (p1), .int (p2)]) (rest := []) (q0 := 0) X (c_X6_valve lc G (b) (v) (z) (li) (st) (d) (nv) (fr) (tt) (zl) (ld) (gk) (ut) (n) (cu) (bg) (M) (er) (us) (ML) (ns) (w) (MS) (nd) (lo) (ho) (rk) ((p1)) ((p2)) (by first | assumption | omega) (by first | assumption | omega)) (cwV 2 hts gL_law_X6_valve rfl rfl rfl (by decide +kernel) ⟨Nat.le_of_ble_eq_true rfl, Nat.le_of_ble_eq_true rfl⟩) rfl (show vwCl[5]? = some (RX6, TX6, 5) from rfl) (nwSp.gen ([]) ((wN (b) (z 0) (v 0) (li 0) (st 0) (d 0)) ++ ((wV G (v) (z 0) (nv) (fr) (tt) (zl) (ld) (gk) (ut)) ++ ((wZ G (z) (n) (cu) (bg) (M) (er) (us)) ++ ((wL G (li) (ML)) ++ ((wS G (st) (ns) (w) (MS)) ++ ((wD G (d) (nd) (lo) (ho) (rk)))))))) ((wM G (a) (n) (cu) (bg) ((coF M)) ((goF M)) (er) (us) (ll) (lm) (lh) (nv) (fr) (tt) (gr) ((hdF2 ML)) (ns) (w) (cs) (cl) (nd) (lo) (ho) (so))) (f := fun q9 => q9 ++ ((wM G (a) (n) (cu) (bg) ((coF M)) ((goF M)) (er) (us) (ll) (lm) (lh) (nv) (fr) (tt) (gr) ((hdF2 ML)) (ns) (w) (cs) (cl) (nd) (lo) (ho) (so)))) (by simp only [List.append_assoc, List.nil_append, List.append_nil]) (fun q9 => by simp only [List.append_assoc, List.nil_append, List.append_nil])) hP hD hS hA rfl hl.1 rfl (Nat.le_of_ble_eq_true rfl) dL_law_360 ⟨Nat.le_of_ble_eq_true rfl, Nat.le_of_ble_eq_true rfl⟩ (fun r w H locs hp_1 hP hD hS => ?_)
  obtain ⟨rfl, rfl⟩ := hp_1
  simp only [List.append_assoc] at hP hD
  have hP : va_P G.1 vwCl ((wN (b) (z 0) (v 0) (li 0) (st 0) (d 0)) ++ ((wV G (v) (z 0) (nwIf (valveOk n nv ((p1)) ((p2))) (nv + 1) nv) (nwIf (valveOk n nv ((p1)) ((p2))) (va_up fr nv (((p1))).toNatClampNeg) fr) (nwIf (valveOk n nv ((p1)) ((p2))) (va_up tt nv (((p2))).toNatClampNeg) tt) (zl) (ld) (gk) (ut)) ++ ((wZ G (z) (n) (cu) (bg) (M) (er) (us)) ++ ((wL G (li) (ML)) ++ ((wS G (st) (ns) (w) (MS)) ++ ((wD G (d) (nd) (lo) (ho) (rk)) ++ ((wM G (a) (n) (cu) (bg) ((coF M)) ((goF M)) (er) (us) (ll) (lm) (lh) (nv) (fr) (tt) (gr) ((hdF2 ML)) (ns) (w) (cs) (cl) (nd) (lo) (ho) (so))))))))) H := hP
  have hD : va_D vA ((wN (b) (z 0) (v 0) (li 0) (st 0) (d 0)) ++ ((wV G (v) (z 0) (nwIf (valveOk n nv ((p1)) ((p2))) (nv + 1) nv) (nwIf (valveOk n nv ((p1)) ((p2))) (va_up fr nv (((p1))).toNatClampNeg) fr) (nwIf (valveOk n nv ((p1)) ((p2))) (va_up tt nv (((p2))).toNatClampNeg) tt) (zl) (ld) (gk) (ut)) ++ ((wZ G (z) (n) (cu) (bg) (M) (er) (us)) ++ ((wL G (li) (ML)) ++ ((wS G (st) (ns) (w) (MS)) ++ ((wD G (d) (nd) (lo) (ho) (rk)) ++ ((wM G (a) (n) (cu) (bg) ((coF M)) ((goF M)) (er) (us) (ll) (lm) (lh) (nv) (fr) (tt) (gr) ((hdF2 ML)) (ns) (w) (cs) (cl) (nd) (lo) (ho) (so))))))))) := hD
  refine lv_aload_n hx hb dL_law_363 rfl (lv_at hl 1 rfl) ?_
  refine lv_aload_n hx hb dL_law_364 rfl (lv_at hl 3 rfl) ?_
  refine lv_iload_n hx hb dL_law_365 rfl (lv_at hl 0 rfl) ?_
  refine lv_iconst (v := (1)) hx hb dL_law_366 (by decide) ?_
  refine lv_iadd hx hb dL_law_367 ?_
  refine nw_top (y := nI (k + 1)) (nI_add (k) (1)) ?_
  refine nw_sld hx hb hsX hsb hsA hS (k := k + 1) (by omega) (by omega) p1 e1 dL_law_368 ?_
  refine lv_aload_n hx hb dL_law_369 rfl (lv_at hl 3 rfl) ?_
  refine lv_iload_n hx hb dL_law_370 rfl (lv_at hl 0 rfl) ?_
  refine lv_iconst (v := (2)) hx hb dL_law_371 (by decide) ?_
  refine lv_iadd hx hb dL_law_372 ?_
  refine nw_top (y := nI (k + 2)) (nI_add (k) (2)) ?_
  refine nw_sld hx hb hsX hsb hsA hS (k := k + 2) (by omega) (by omega) p2 e2 dL_law_373 ?_
  refine nw_Vi (As := [.int (p1), .int (p2)]) (rest := [.int (valveF (n) (nv) ((p1)) ((p2)))]) (q0 := 0) X (c_X7_valve lc G (a) (n) (cu) (bg) (M) (er) (us) (ll) (lm) (lh) (nv) (fr) (tt) (gr) (ML) (ns) (w) (cs) (cl) (nd) (lo) (ho) (so) ((p1)) ((p2)) (by first | assumption | omega) (by first | assumption | omega)) (cwV 2 hts gL_law_X7_valve rfl rfl rfl (by decide +kernel) ⟨Nat.le_of_ble_eq_true rfl, Nat.le_of_ble_eq_true rfl⟩) rfl (show vwCl[6]? = some (RX7, TX7, 23) from rfl) (nwSp.gen ((wN (b) (z 0) (v 0) (li 0) (st 0) (d 0)) ++ ((wV G (v) (z 0) (nwIf (valveOk n nv ((p1)) ((p2))) (nv + 1) nv) (nwIf (valveOk n nv ((p1)) ((p2))) (va_up fr nv (((p1))).toNatClampNeg) fr) (nwIf (valveOk n nv ((p1)) ((p2))) (va_up tt nv (((p2))).toNatClampNeg) tt) (zl) (ld) (gk) (ut)) ++ ((wZ G (z) (n) (cu) (bg) (M) (er) (us)) ++ ((wL G (li) (ML)) ++ ((wS G (st) (ns) (w) (MS)) ++ ((wD G (d) (nd) (lo) (ho) (rk)))))))) ((wM G (a) (n) (cu) (bg) ((coF M)) ((goF M)) (er) (us) (ll) (lm) (lh) (nv) (fr) (tt) (gr) ((hdF2 ML)) (ns) (w) (cs) (cl) (nd) (lo) (ho) (so))) ([]) (f := fun q9 => (wN (b) (z 0) (v 0) (li 0) (st 0) (d 0)) ++ ((wV G (v) (z 0) (nwIf (valveOk n nv ((p1)) ((p2))) (nv + 1) nv) (nwIf (valveOk n nv ((p1)) ((p2))) (va_up fr nv (((p1))).toNatClampNeg) fr) (nwIf (valveOk n nv ((p1)) ((p2))) (va_up tt nv (((p2))).toNatClampNeg) tt) (zl) (ld) (gk) (ut)) ++ ((wZ G (z) (n) (cu) (bg) (M) (er) (us)) ++ ((wL G (li) (ML)) ++ ((wS G (st) (ns) (w) (MS)) ++ ((wD G (d) (nd) (lo) (ho) (rk)) ++ (q9))))))) (by simp only [List.append_assoc, List.nil_append, List.append_nil]) (fun q9 => by simp only [List.append_assoc, List.nil_append, List.append_nil])) hP hD hS hA rfl hl.1 rfl (Nat.le_of_ble_eq_true rfl) dL_law_374 ⟨Nat.le_of_ble_eq_true rfl, Nat.le_of_ble_eq_true rfl⟩ (fun r w H locs hp_2 hP hD hS => ?_)
  obtain ⟨rfl, rfl⟩ := hp_2
  have hP : va_P G.1 vwCl ((wN (b) (z 0) (v 0) (li 0) (st 0) (d 0)) ++ ((wV G (v) (z 0) (nwIf (valveOk n nv ((p1)) ((p2))) (nv + 1) nv) (nwIf (valveOk n nv ((p1)) ((p2))) (va_up fr nv (((p1))).toNatClampNeg) fr) (nwIf (valveOk n nv ((p1)) ((p2))) (va_up tt nv (((p2))).toNatClampNeg) tt) (zl) (ld) (gk) (ut)) ++ ((wZ G (z) (n) (cu) (bg) (M) (er) (us)) ++ ((wL G (li) (ML)) ++ ((wS G (st) (ns) (w) (MS)) ++ ((wD G (d) (nd) (lo) (ho) (rk)) ++ ((wM G (a) (n) (cu) (bg) ((coF M)) ((goF M)) (er) (us) (ll) (lm) (lh) (nwIf (valveOk n nv ((p1)) ((p2))) (nv + 1) nv) (nwIf (valveOk n nv ((p1)) ((p2))) (va_up fr nv (((p1))).toNatClampNeg) fr) (nwIf (valveOk n nv ((p1)) ((p2))) (va_up tt nv (((p2))).toNatClampNeg) tt) (gr) ((hdF2 ML)) (ns) (w) (cs) (cl) (nd) (lo) (ho) (so))))))))) H := hP
  have hD : va_D vA ((wN (b) (z 0) (v 0) (li 0) (st 0) (d 0)) ++ ((wV G (v) (z 0) (nwIf (valveOk n nv ((p1)) ((p2))) (nv + 1) nv) (nwIf (valveOk n nv ((p1)) ((p2))) (va_up fr nv (((p1))).toNatClampNeg) fr) (nwIf (valveOk n nv ((p1)) ((p2))) (va_up tt nv (((p2))).toNatClampNeg) tt) (zl) (ld) (gk) (ut)) ++ ((wZ G (z) (n) (cu) (bg) (M) (er) (us)) ++ ((wL G (li) (ML)) ++ ((wS G (st) (ns) (w) (MS)) ++ ((wD G (d) (nd) (lo) (ho) (rk)) ++ ((wM G (a) (n) (cu) (bg) ((coF M)) ((goF M)) (er) (us) (ll) (lm) (lh) (nwIf (valveOk n nv ((p1)) ((p2))) (nv + 1) nv) (nwIf (valveOk n nv ((p1)) ((p2))) (va_up fr nv (((p1))).toNatClampNeg) fr) (nwIf (valveOk n nv ((p1)) ((p2))) (va_up tt nv (((p2))).toNatClampNeg) tt) (gr) ((hdF2 ML)) (ns) (w) (cs) (cl) (nd) (lo) (ho) (so))))))))) := hD
  refine lv_icmp_eq (tgt := 966) hx hb dL_law_377 (by decide) (fun b377_3 => ?_) (fun b377_3 => ?_)
  · skip
    have b377_3 : ((valveF (n) (nv) ((p1)) ((p2))) : Int32) = (valveF (n) (nv) ((p1)) ((p2))) := b377_3
    exact hK9 (nwIf (valveOk n nv ((p1)) ((p2))) (nv + 1) nv) (nwIf (valveOk n nv ((p1)) ((p2))) (va_up fr nv (((p1))).toNatClampNeg) fr) (nwIf (valveOk n nv ((p1)) ((p2))) (va_up tt nv (((p2))).toNatClampNeg) tt) (zl) (ld) (gk) (ut) (n) (cu) (bg) (M) (er) (us) (ML) (ns) (w) (MS) (nd) (lo) (ho) (rk) (ll) (lm) (lh) (gr) (cs) (cl) (so) _ _ _ (by exact lwI_valve hI) (lv_sub hl [0, 1, 2, 3] rfl) hP hD hS
  · skip
    have b377_3 : ¬ (((valveF (n) (nv) ((p1)) ((p2))) : Int32) = (valveF (n) (nv) ((p1)) ((p2)))) := b377_3
    exact absurd rfl b377_3
