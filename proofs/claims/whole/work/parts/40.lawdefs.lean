/-! The law: the two worlds side by side, what holds between two calls, the script's ints. -/
/-- the state's own bounds: readings, rules, zones -/
def lwB (n : Nat) (cu bg : Nat → Int32) (M : Nat → Nat → Int32) (er us : Int32) : Prop := (∀ z h, M z h = -1 ∨ ¬ out (M z h) 0 20000) ∧ ¬ out er 0 200 ∧ ∀ z, z < n → ¬ out (bg z) 0 5000
def lwI (nv : Nat) (fr tt ld : Nat → Nat) (n : Nat) (cu bg : Nat → Int32) (M : Nat → Nat → Int32) (er us : Int32) (ns : Nat) (w : Nat → Nat) (MS : Nat → Nat → Int32) (nd : Nat) (lo ho : Nat → Int32) (rk gr so : Nat → Nat) : Prop :=
  n ≤ 8 ∧ nv ≤ 12 ∧ (∀ i, i < nv → fr i < n ∧ tt i < n) ∧ (∀ j, ld j < 8) ∧ (∀ j, gr j < 8) ∧ lwB n cu bg M er us ∧ 1 ≤ ns ∧ ns ≤ 12 ∧ (∀ k, w k ≤ 1000) ∧ (∀ k, ns ≤ k → w k = 0) ∧ plOk w ns MS ∧ nd ≤ 8 ∧ (∀ j, rk j < 8) ∧ (∀ j, so j < 8) ∧ ∀ j, j < nd → rk j = srtF lo ho (fun _ => 0) nd j
def lwW (G : nwG) (b : Nat) (z v li st d a : Nat → Nat) (nv : Nat) (fr tt : Nat → Nat) (zl : Nat → Int32) (ld : Nat → Nat) (gk ut : Nat → Int32) (n : Nat) (cu bg : Nat → Int32) (M : Nat → Nat → Int32) (er us : Int32) (ML : Nat → Nat → Int32) (ns : Nat) (w : Nat → Nat) (MS : Nat → Nat → Int32) (nd : Nat) (lo ho : Nat → Int32) (rk : Nat → Nat) (ll lm lh : Int32) (gr : Nat → Nat) (cs cl : Nat → Int32) (so : Nat → Nat) : va_W :=
  wN b (z 0) (v 0) (li 0) (st 0) (d 0) ++ (wV G v (z 0) nv fr tt zl ld gk ut ++ (wZ G z n cu bg M er us ++ (wL G li ML ++ (wS G st ns w MS ++ (wD G d nd lo ho rk ++ (wM G a n cu bg (coF M) (goF M) er us ll lm lh nv fr tt gr (hdF2 ML) ns w cs cl nd lo ho so))))))
/-- what goes on behind a call, wherever the loop's step ends -/
def lwK (G : nwG) (b sb : Nat) (z v li st d a : Nat → Nat) (k : Nat) (vp : Program) (lc : Launch) (ve : Env) (vs : State) (vm : MethodId) (args : Array Value) (vb : List Frame) (vt : Method) (vc : Code) (vA : Nat → Prop) (Q : State → Prop) : Prop :=
  ∀ (nv : Nat) (fr tt : Nat → Nat) (zl : Nat → Int32) (ld : Nat → Nat) (gk ut : Nat → Int32) (n : Nat) (cu bg : Nat → Int32) (M : Nat → Nat → Int32) (er us : Int32) (ML : Nat → Nat → Int32) (ns : Nat) (w : Nat → Nat) (MS : Nat → Nat → Int32) (nd : Nat) (lo ho : Nat → Int32) (rk : Nat → Nat) (ll lm lh : Int32) (gr : Nat → Nat) (cs cl : Nat → Int32) (so : Nat → Nat) (H : Heap) (locs : List Loc) (ls : Array Slot),
    lwI nv fr tt ld n cu bg M er us ns w MS nd lo ho rk gr so → lv_has ls 4 [(3, .int (nI k)), (2, .ref (a 0)), (1, .ref b), (0, .ref sb)] → va_P G.1 vwCl (lwW G b z v li st d a nv fr tt zl ld gk ut n cu bg M er us ML ns w MS nd lo ho rk ll lm lh gr cs cl so) H → va_D vA (lwW G b z v li st d a nv fr tt zl ld gk ut n cu bg M er us ML ns w MS nd lo ho rk ll lm lh gr cs cl so) → va_S vA vs.heap H locs →
    W vp lc ve room_1 vs vm args vb vt vc H locs 80 1886 Q (F0 vm 966 ls [])
section NWL
variable {p : Program} {l : Launch} {e : Env} {R : Room} {s : State} {m : MethodId} {args : Array Value} {below : List Frame} {meth : Method} {c : Code} {H : Heap} {locs : List Loc} {cells slots : Nat} {Q : State → Prop}
variable {pc : Nat} {ls : Array Slot} {rest : List Value} {A : Nat → Prop} {cc : ByteArray}
theorem nw_sld (hx : p.tables.exec = Jvm.exec) (hb : c.code = cc) {sb L : Nat} {xs : Nat → Int32} (hX : va_X sb L xs s s.heap) (hbl : sb < s.heap.size) (hbA : ¬ A sb) (hS : va_S A s.heap H locs) {k : Nat} (hk : k < L) (hL : L < 2 ^ 31) (y : Int32) (hy : xs k = y) (hdg : decode cc pc = .ok (.iaload, 1))
    (kk : W p l e R s m args below meth c H locs cells slots Q (F0 m (pc + 1) ls (.int y :: rest))) : W p l e R s m args below meth c H locs cells slots Q (F0 m pc ls (.int (nI k) :: .ref sb :: rest)) := by
  refine va_sld hx hb hX hbl hbA hS (vp_in_nI hk hL) hdg ?_
  rw [nI_clamp (by omega), hy]
  exact kk
end NWL
