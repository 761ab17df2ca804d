/-! Rows over the layer: arrays by a number, rows of grids, the stack's top under another name; the worlds. -/
section NWR
variable {p : Program} {l : Launch} {e : Env} {R : Room} {s : State} {m : MethodId} {args : Array Value} {below : List Frame} {meth : Method} {c : Code} {H : Heap} {locs : List Loc} {cells slots : Nat} {Q : State → Prop}
variable {pc : Nat} {ls : Array Slot} {rest : List Value} {A : Nat → Prop} {G : nwG} {cc : ByteArray} {nL : Nat} {Ts : List Cond} {own : String} {ret : Option FieldType} {nm : String} {a : Nat} {ws : va_W}
theorem nw_top {x y : Int32} (h : x = y) (k : W p l e R s m args below meth c H locs cells slots Q (F0 m pc ls (.int y :: rest))) : W p l e R s m args below meth c H locs cells slots Q (F0 m pc ls (.int x :: rest)) := h ▸ k
theorem nw_topl {x y : Int64} (h : x = y) (k : W p l e R s m args below meth c H locs cells slots Q (F0 m pc ls (.long y :: rest))) : W p l e R s m args below meth c H locs cells slots Q (F0 m pc ls (.long x :: rest)) := h ▸ k
theorem nw_st {st st' : List Value} (h : st = st') (k : W p l e R s m args below meth c H locs cells slots Q (F0 m pc ls st')) : W p l e R s m args below meth c H locs cells slots Q (F0 m pc ls st) := h ▸ k
theorem nw_iald (X : nwAt p m c cc nL s args Ts own meth ret nm G) (hP : va_P G.1 vwCl ws H) (q0 : Nat) {n : Nat} {f : Nat → Int32} (ha : ws[q0]? = some (a, .inl (G.2.1, n, .inl f))) (k : Nat) {i : Int32} (hi : i = nI k) (hk : k < n) (hn : n < 2 ^ 31) (hdg : decode cc pc = .ok (.iaload, 1))
    (kk : W p l e R s m args below meth c H locs cells slots Q (F0 m (pc + 1) ls (.int (f k) :: rest))) : W p l e R s m args below meth c H locs cells slots Q (F0 m pc ls (.int i :: .ref a :: rest)) := by
  subst hi
  exact va_iald X.1.1 X.1.2.1 X.2.2.2.2.1 hP q0 0 ha rfl (vp_in_nI hk hn) hdg (by rw [nI_clamp (by omega)]; exact kk)
theorem nw_zald (X : nwAt p m c cc nL s args Ts own meth ret nm G) (hP : va_P G.1 vwCl ws H) (q0 : Nat) {n : Nat} {f : Nat → Int32} (ha : ws[q0]? = some (a, .inl (G.2.2.1, n, .inl f))) (k : Nat) {i : Int32} (hi : i = nI k) (hk : k < n) (hn : n < 2 ^ 31) (hdg : decode cc pc = .ok (.baload, 1))
    (kk : W p l e R s m args below meth c H locs cells slots Q (F0 m (pc + 1) ls (.int (f k) :: rest))) : W p l e R s m args below meth c H locs cells slots Q (F0 m pc ls (.int i :: .ref a :: rest)) := by
  subst hi
  exact va_zald X.1.1 X.1.2.1 X.2.2.2.2.1 hP q0 1 ha rfl (vp_in_nI hk hn) hdg (by rw [nI_clamp (by omega)]; exact kk)
theorem nw_aald (X : nwAt p m c cc nL s args Ts own meth ret nm G) (hP : va_P G.1 vwCl ws H) (q0 : Nat) {n : Nat} {f : Nat → Option Nat} (ha : ws[q0]? = some (a, .inl (G.2.2.2, n, .inr (.inr (.inr (.inr f)))))) (k : Nat) {i : Int32} (hi : i = nI k) (hk : k < n) (hn : n < 2 ^ 31) (hdg : decode cc pc = .ok (.aaload, 1))
    (kk : W p l e R s m args below meth c H locs cells slots Q (F0 m (pc + 1) ls (va_rf (f k) :: rest))) : W p l e R s m args below meth c H locs cells slots Q (F0 m pc ls (.int i :: .ref a :: rest)) := by
  subst hi
  have hin : vp_in (nI k) n := vp_in_nI hk hn
  have hlt : (nI k).toNatClampNeg < n := Nat.not_le.mp fun q => hin (Or.inr q)
  rw [← nI_clamp (show k < 2 ^ 31 by omega)] at kk
  exact W.aald (v := va_rf (f (nI k).toNatClampNeg)) (ty := .array .int) X.1.1 X.1.2.1 (hP q0 _ ha) ((X.2.2.2.2.1.2 2 _ rfl).1 n (fun j => va_rf (f j))) rfl (fun q => by cases q) (by show ¬ (nI k < 0 ∨ (arrV _ _ _).slots.size ≤ _); rw [arrV_size]; exact hin) (by show (arrV _ _ _).slots[_]? = _; rw [arrV_read _ _ hlt]) rfl rfl hdg kk
theorem nw_iast (X : nwAt p m c cc nL s args Ts own meth ret nm G) (hP : va_P G.1 vwCl ws H) (hD : va_D A ws) (hS : va_S A s.heap H locs) (q0 : Nat) {n : Nat} {f : Nat → Int32} (ha : ws[q0]? = some (a, .inl (G.2.1, n, .inl f))) (k : Nat) {i x : Int32} (hi : i = nI k) (hk : k < n) (hn : n < 2 ^ 31) (hdg : decode cc pc = .ok (.iastore, 1))
    (kk : ∀ (H1 : Heap) (locs1 : List Loc), va_P G.1 vwCl (ws.set q0 (a, .inl (G.2.1, n, .inl (va_up f k x)))) H1 → va_D A (ws.set q0 (a, .inl (G.2.1, n, .inl (va_up f k x)))) → va_S A s.heap H1 locs1 → W p l e R s m args below meth c H1 locs1 cells slots Q (F0 m (pc + 1) ls rest)) : W p l e R s m args below meth c H locs cells slots Q (F0 m pc ls (.int x :: .int i :: .ref a :: rest)) := by
  subst hi
  refine va_iast X.1.1 X.1.2.1 X.2.2.2.2.1 hP hD hS q0 0 ha rfl (vp_in_nI hk hn) hdg ?_
  rw [nI_clamp (by omega)]
  exact kk
theorem nw_upN {f : Nat → Nat} {k e : Nat} : va_up (fun j => nI (f j)) k (nI e) = fun j => nI (va_up f k e j) := by
  funext j
  by_cases h : j = k
  · subst h
    rw [va_up_self, va_up_self]
  · rw [va_up_ne _ _ h, va_up_ne _ _ h]
/-- the same, where the array holds small numbers -/
theorem nw_iastN (X : nwAt p m c cc nL s args Ts own meth ret nm G) (hP : va_P G.1 vwCl ws H) (hD : va_D A ws) (hS : va_S A s.heap H locs) (q0 : Nat) {n : Nat} {f : Nat → Nat} (ha : ws[q0]? = some (a, .inl (G.2.1, n, .inl (fun j => nI (f j))))) (k v : Nat) {i x : Int32} (hi : i = nI k) (hv : x = nI v) (hk : k < n) (hn : n < 2 ^ 31) (hdg : decode cc pc = .ok (.iastore, 1))
    (kk : ∀ (H1 : Heap) (locs1 : List Loc), va_P G.1 vwCl (ws.set q0 (a, .inl (G.2.1, n, .inl (fun j => nI (va_up f k v j))))) H1 → va_D A (ws.set q0 (a, .inl (G.2.1, n, .inl (fun j => nI (va_up f k v j))))) → va_S A s.heap H1 locs1 → W p l e R s m args below meth c H1 locs1 cells slots Q (F0 m (pc + 1) ls rest)) : W p l e R s m args below meth c H locs cells slots Q (F0 m pc ls (.int x :: .int i :: .ref a :: rest)) := by
  subst hv
  refine nw_iast X hP hD hS q0 ha k hi hk hn hdg ?_
  rw [nw_upN]
  exact kk
theorem nw_zast (X : nwAt p m c cc nL s args Ts own meth ret nm G) (hP : va_P G.1 vwCl ws H) (hD : va_D A ws) (hS : va_S A s.heap H locs) (q0 : Nat) {n : Nat} {f : Nat → Int32} (ha : ws[q0]? = some (a, .inl (G.2.2.1, n, .inl f))) (k : Nat) {i x : Int32} (hi : i = nI k) (hk : k < n) (hn : n < 2 ^ 31) (hx : vp_nar .boolean x = x) (hdg : decode cc pc = .ok (.bastore, 1))
    (kk : ∀ (H1 : Heap) (locs1 : List Loc), va_P G.1 vwCl (ws.set q0 (a, .inl (G.2.2.1, n, .inl (va_up f k x)))) H1 → va_D A (ws.set q0 (a, .inl (G.2.2.1, n, .inl (va_up f k x)))) → va_S A s.heap H1 locs1 → W p l e R s m args below meth c H1 locs1 cells slots Q (F0 m (pc + 1) ls rest)) : W p l e R s m args below meth c H locs cells slots Q (F0 m pc ls (.int x :: .int i :: .ref a :: rest)) := by
  subst hi
  refine va_zast X.1.1 X.1.2.1 X.2.2.2.2.1 hP hD hS q0 1 ha rfl (vp_in_nI hk hn) hdg ?_
  rw [nI_clamp (by omega), hx]
  exact kk
/-- the rows of a grid: row i lies at r i and holds M i -/
def nwRows (c : ClassId) (r : Nat → Nat) (n k : Nat) (M : Nat → Nat → Int32) : va_W := (List.range n).map (fun i => (r i, .inl (c, k, .inl (M i))))
theorem nwRows_get {X : va_W} {c : ClassId} {r : Nat → Nat} {n k : Nat} {M : Nat → Nat → Int32} {z : Nat} (hz : z < n) : (X ++ nwRows c r n k M)[X.length + z]? = some (r z, .inl (c, k, .inl (M z))) := by
  rw [List.getElem?_append_right (by omega), Nat.add_sub_cancel_left]
  unfold nwRows
  rw [List.getElem?_map, List.getElem?_range hz]
  rfl
def nwU2 (M : Nat → Nat → Int32) (z h : Nat) (x : Int32) : Nat → Nat → Int32 := fun i => if i = z then va_up (M z) h x else M i
theorem nwU2_s {M : Nat → Nat → Int32} {z h : Nat} {x : Int32} : nwU2 M z h x z h = x := by simp [nwU2, va_up]
theorem nwU2_n {M : Nat → Nat → Int32} {z h i j : Nat} {x : Int32} (hn : ¬ (i = z ∧ j = h)) : nwU2 M z h x i j = M i j := by
  unfold nwU2
  by_cases e : i = z
  · subst e
    rw [if_pos rfl, va_up_ne _ _ (fun q => hn ⟨rfl, q⟩)]
  · rw [if_neg e]
theorem nwRows_set {X : va_W} {c : ClassId} {r : Nat → Nat} {n k : Nat} {M : Nat → Nat → Int32} {z h : Nat} {x : Int32} (hz : z < n) : (X ++ nwRows c r n k M).set (X.length + z) (r z, .inl (c, k, .inl (va_up (M z) h x))) = X ++ nwRows c r n k (nwU2 M z h x) := by
  rw [List.set_append_right (X.length + z) _ (by omega), Nat.add_sub_cancel_left]
  congr 1
  unfold nwRows
  apply List.ext_getElem?
  intro i
  rw [List.getElem?_set]
  by_cases h1 : z = i
  · subst h1
    rw [if_pos rfl, List.length_map, List.length_range, if_pos hz, List.getElem?_map, List.getElem?_range hz]
    simp [nwU2]
  · rw [if_neg h1, List.getElem?_map, List.getElem?_map]
    by_cases h2 : i < n
    · rw [List.getElem?_range h2]
      simp [nwU2, Ne.symm h1, show ¬ i = z from fun q => h1 q.symm]
    · rw [List.getElem?_eq_none (by rw [List.length_range]; omega)]
      rfl
theorem nw_rald {X0 : va_W} {r : Nat → Nat} {N n : Nat} {M : Nat → Nat → Int32} (X : nwAt p m c cc nL s args Ts own meth ret nm G) (hP : va_P G.1 vwCl (X0 ++ nwRows G.2.1 r N n M) H) (z : Nat) (hz : z < N) (k : Nat) {i : Int32} (hi : i = nI k) (hk : k < n) (hn : n < 2 ^ 31) (hdg : decode cc pc = .ok (.iaload, 1))
    (kk : W p l e R s m args below meth c H locs cells slots Q (F0 m (pc + 1) ls (.int (M z k) :: rest))) : W p l e R s m args below meth c H locs cells slots Q (F0 m pc ls (.int i :: .ref (r z) :: rest)) := nw_iald X hP (X0.length + z) (nwRows_get hz) k hi hk hn hdg kk
theorem nw_rast {X0 : va_W} {r : Nat → Nat} {N n : Nat} {M : Nat → Nat → Int32} (X : nwAt p m c cc nL s args Ts own meth ret nm G) (hP : va_P G.1 vwCl (X0 ++ nwRows G.2.1 r N n M) H) (hD : va_D A (X0 ++ nwRows G.2.1 r N n M)) (hS : va_S A s.heap H locs) (z : Nat) (hz : z < N) (k : Nat) {i x : Int32} (hi : i = nI k) (hk : k < n) (hn : n < 2 ^ 31) (hdg : decode cc pc = .ok (.iastore, 1))
    (kk : ∀ (H1 : Heap) (locs1 : List Loc), va_P G.1 vwCl (X0 ++ nwRows G.2.1 r N n (nwU2 M z k x)) H1 → va_D A (X0 ++ nwRows G.2.1 r N n (nwU2 M z k x)) → va_S A s.heap H1 locs1 → W p l e R s m args below meth c H1 locs1 cells slots Q (F0 m (pc + 1) ls rest)) : W p l e R s m args below meth c H locs cells slots Q (F0 m pc ls (.int x :: .int i :: .ref (r z) :: rest)) := by
  refine nw_iast X hP hD hS (X0.length + z) (nwRows_get hz) k hi hk hn hdg ?_
  rw [nwRows_set hz]
  exact kk
/-- Math.max, min, abs -/
theorem nw_max {index : Nat} (X : nwAt p m c cc nL s args Ts own meth ret nm G) (hsz : ls.size = nL) (hlink : (Cond.methodLink own index Lib.Math.max.name).before args s = true) (hstat : (Cond.static Lib.Math.max.name).before args s = true) (hini : (Cond.initialized "java/lang/Math").before args s = true) (hcode : (Cond.code Lib.Math.max.name Lib.Math.max.code 2 (some .int)).before args s = true)
    (hframes : 1 ≤ R.frames) (hlocals : (rest.map fun v => v.category).sum + 13 ≤ R.locals) (hc : cells ≤ R.cells) (hs : slots ≤ R.slots) {x y : Int32} (hdg : decode cc pc = .ok (.invokestatic index, 3))
    (kk : W p l e R s m args below meth c H locs cells slots Q (F0 m (pc + 3) ls (.int (if x < y then y else x) :: rest))) : W p l e R s m args below meth c H locs cells slots Q (F0 m pc ls (.int y :: .int x :: rest)) := va_mmax X.1.1 X.1.2.1 (X.1.2.2.1.trans hsz.symm) X.1.2.2.2.1 hlink hstat hini hcode hframes hlocals hc hs hdg kk
theorem nw_min {index : Nat} (X : nwAt p m c cc nL s args Ts own meth ret nm G) (hsz : ls.size = nL) (hlink : (Cond.methodLink own index Lib.Math.min.name).before args s = true) (hstat : (Cond.static Lib.Math.min.name).before args s = true) (hini : (Cond.initialized "java/lang/Math").before args s = true) (hcode : (Cond.code Lib.Math.min.name Lib.Math.min.code 2 (some .int)).before args s = true)
    (hframes : 1 ≤ R.frames) (hlocals : (rest.map fun v => v.category).sum + 13 ≤ R.locals) (hc : cells ≤ R.cells) (hs : slots ≤ R.slots) {x y : Int32} (hdg : decode cc pc = .ok (.invokestatic index, 3))
    (kk : W p l e R s m args below meth c H locs cells slots Q (F0 m (pc + 3) ls (.int (if y < x then y else x) :: rest))) : W p l e R s m args below meth c H locs cells slots Q (F0 m pc ls (.int y :: .int x :: rest)) := va_mmin X.1.1 X.1.2.1 (X.1.2.2.1.trans hsz.symm) X.1.2.2.2.1 hlink hstat hini hcode hframes hlocals hc hs hdg kk
theorem nw_abs {index : Nat} (X : nwAt p m c cc nL s args Ts own meth ret nm G) (hsz : ls.size = nL) (hlink : (Cond.methodLink own index Lib.Math.abs.name).before args s = true) (hstat : (Cond.static Lib.Math.abs.name).before args s = true) (hini : (Cond.initialized "java/lang/Math").before args s = true) (hcode : (Cond.code Lib.Math.abs.name Lib.Math.abs.code 1 (some .int)).before args s = true)
    (hframes : 1 ≤ R.frames) (hlocals : (rest.map fun v => v.category).sum + 13 ≤ R.locals) (hc : cells ≤ R.cells) (hs : slots ≤ R.slots) {x : Int32} (hdg : decode cc pc = .ok (.invokestatic index, 3))
    (kk : W p l e R s m args below meth c H locs cells slots Q (F0 m (pc + 3) ls (.int (if 0 ≤ x then x else 0 - x) :: rest))) : W p l e R s m args below meth c H locs cells slots Q (F0 m pc ls (.int x :: rest)) := va_mabs X.1.1 X.1.2.1 (X.1.2.2.1.trans hsz.symm) X.1.2.2.2.1 hlink hstat hini hcode hframes hlocals hc hs hdg kk
end NWR
/-! the worlds -/
def wZ (G : nwG) (a : Nat → Nat) (n : Nat) (cu bg : Nat → Int32) (M : Nat → Nat → Int32) (er us : Int32) : va_W :=
  [(a 0, .inr (4, [.ref (a 1), .ref (a 2), .ref (a 3), .ref (a 4), .int (nI n), .int er, .int us])),
   (a 1, .inl (G.2.1, 8, .inl cu)), (a 2, .inl (G.2.1, 8, .inl bg)),
   (a 3, .inl (G.2.2.2, 8, .inr (.inr (.inr (.inr (fun i => some (a (5 + i)))))))),
   (a 4, .inl (G.2.2.2, 8, .inr (.inr (.inr (.inr (fun i => some (a (5 + (8 + i)))))))))] ++ nwRows G.2.1 (fun i => a (5 + i)) 16 24 M
def wV (G : nwG) (a : Nat → Nat) (z nv : Nat) (fr tt : Nat → Nat) (zl : Nat → Int32) (ld : Nat → Nat) (gk ut : Nat → Int32) : va_W :=
  [(a 0, .inr (3, [.ref z, .ref (a 1), .ref (a 2), .int (nI nv), .ref (a 3), .ref (a 4), .ref (a 5), .ref (a 6)])),
   (a 1, .inl (G.2.1, 12, .inl (fun j => nI (fr j)))), (a 2, .inl (G.2.1, 12, .inl (fun j => nI (tt j)))),
   (a 3, .inl (G.2.1, 8, .inl zl)), (a 4, .inl (G.2.1, 8, .inl (fun j => nI (ld j)))), (a 5, .inl (G.2.1, 8, .inl gk)), (a 6, .inl (G.2.2.1, 8, .inl ut))]
def wL (G : nwG) (a : Nat → Nat) (M : Nat → Nat → Int32) : va_W :=
  [(a 0, .inr (1, [.ref (a 1)])), (a 1, .inl (G.2.2.2, 2, .inr (.inr (.inr (.inr (fun i => some (a (2 + i))))))))] ++ nwRows G.2.1 (fun i => a (2 + i)) 2 64 M
def wS (G : nwG) (a : Nat → Nat) (ns : Nat) (w : Nat → Nat) (M : Nat → Nat → Int32) : va_W :=
  [(a 0, .inr (2, [.ref (a 1), .int (nI ns), .ref (a 2), .ref (a 3)])), (a 1, .inl (G.2.1, 12, .inl (fun j => nI (w j)))),
   (a 2, .inl (G.2.2.2, 12, .inr (.inr (.inr (.inr (fun i => some (a (4 + i)))))))),
   (a 3, .inl (G.2.2.2, 12, .inr (.inr (.inr (.inr (fun i => some (a (4 + (12 + i)))))))))] ++ nwRows G.2.1 (fun i => a (4 + i)) 24 12 M
def wD (G : nwG) (a : Nat → Nat) (nd : Nat) (lo ho : Nat → Int32) (rk : Nat → Nat) : va_W :=
  [(a 0, .inr (0, [.ref (a 1), .ref (a 2), .ref (a 3), .int (nI nd)])), (a 1, .inl (G.2.1, 8, .inl lo)), (a 2, .inl (G.2.1, 8, .inl ho)), (a 3, .inl (G.2.1, 8, .inl (fun j => nI (rk j))))]
def wM (G : nwG) (a : Nat → Nat) (n : Nat) (cu bg co go : Nat → Int32) (er us ll lm lh : Int32) (nv : Nat) (fr tt gr : Nat → Nat) (hd : Nat → Int32) (ns : Nat) (w : Nat → Nat) (cs cl : Nat → Int32) (nd : Nat) (lo ho : Nat → Int32) (so : Nat → Nat) : va_W :=
  [(a 0, .inr (6, [.int (nI n), .ref (a 1), .ref (a 2), .ref (a 3), .ref (a 4), .int er, .int us, .int ll, .int lm, .int lh, .int (nI nv), .ref (a 5), .ref (a 6), .ref (a 7), .ref (a 8), .int (nI ns), .ref (a 9), .ref (a 10), .ref (a 11), .int (nI nd), .ref (a 12), .ref (a 13), .ref (a 14)])),
   (a 1, .inl (G.2.1, 8, .inl cu)), (a 2, .inl (G.2.1, 8, .inl bg)), (a 3, .inl (G.2.1, 192, .inl co)), (a 4, .inl (G.2.1, 192, .inl go)),
   (a 5, .inl (G.2.1, 12, .inl (fun j => nI (fr j)))), (a 6, .inl (G.2.1, 12, .inl (fun j => nI (tt j)))), (a 7, .inl (G.2.1, 8, .inl (fun j => nI (gr j)))),
   (a 8, .inl (G.2.1, 128, .inl hd)), (a 9, .inl (G.2.1, 12, .inl (fun j => nI (w j)))), (a 10, .inl (G.2.1, 144, .inl cs)), (a 11, .inl (G.2.1, 144, .inl cl)),
   (a 12, .inl (G.2.1, 8, .inl lo)), (a 13, .inl (G.2.1, 8, .inl ho)), (a 14, .inl (G.2.1, 8, .inl (fun j => nI (so j))))]
def wN (b z v li st d : Nat) : va_W := [(b, .inr (5, [.ref z, .ref v, .ref li, .ref st, .ref d]))]
theorem nwSp.gen (a b c : va_W) {ws : va_W} {f : va_W → va_W} (h : ws = a ++ (b ++ c)) (hf : ∀ w, f w = a ++ (w ++ c)) : nwSp ws b f := by
  subst h
  obtain ⟨wr, i1, i2, h1, h2, h3, h3', h4, h5⟩ := nwSp.seg a b c
  exact ⟨wr, i1, i2, h1, h2, h3, h3', h4, fun w => by rw [hf]; exact h5 w⟩
