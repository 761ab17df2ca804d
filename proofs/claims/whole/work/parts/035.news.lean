/-! New arrays and rows of arrays: where they lie, what they hold. -/
theorem nw_cA {D : va_G} {cl : List vw_C} {tys : List (ClassId × FieldType)} {c cA : ClassId} {ty : FieldType} {s : State} (hy : va_RA s c ty → va_RA s cA ty → cA = c) (hK : va_K D cl (tys ++ [(cA, ty)]) s) (k : Nat) (hk : tys[k]? = some (c, ty)) : cA = c := by
  have h1 := (hK.2 tys.length (cA, ty) (by rw [List.getElem?_append_right (Nat.le_refl _), Nat.sub_self]; rfl)).2
  have h2 := (hK.2 k (c, ty) (by rw [List.getElem?_append_left (List.getElem?_eq_some_iff.mp hk).1]; exact hk)).2
  exact hy h2 h1
theorem nw_outer {D : va_G} {cl : List vw_C} {A : Nat → Prop} {ws : va_W} {H : Heap} {a n : Nat} {c : ClassId} {f : Nat → Option Nat} (hP : va_P D cl ws H) (hD : va_D A ws) (q0 : Nat) (he : ws[q0]? = some (a, .inl (c, n, .inr (.inr (.inr (.inr f)))))) (g : Nat → Option Nat) (h : ∀ i, i < n → f i = g i) : va_P D cl (ws.set q0 (a, .inl (c, n, .inr (.inr (.inr (.inr g)))))) H ∧ va_D A (ws.set q0 (a, .inl (c, n, .inr (.inr (.inr (.inr g)))))) := by
  refine ⟨hP.set hD he ?_ (fun _ _ => rfl), hD.set he⟩
  have h1 : va_at D cl (a, .inl (c, n, .inr (.inr (.inr (.inr f))))) H := hP q0 _ he
  have e : vp_cell c (n, .inr (.inr (.inr (.inr g)))) = vp_cell c (n, .inr (.inr (.inr (.inr f)))) := by
    rw [vp_cell_q, vp_cell_q]
    unfold arrV
    congr 1
    exact congrArg Array.ofFn (funext fun j => congrArg va_rf (h j.1 j.2).symm)
  show H[a]? = some (vp_cell c (n, .inr (.inr (.inr (.inr g)))))
  rw [e]
  exact h1
/-- the first places by a list, the others by a function -/
def nwA : List Nat → (Nat → Nat) → Nat → Nat
  | [], r, i => r i
  | x :: _, _, 0 => x
  | _ :: l, r, i + 1 => nwA l r i
theorem nwA_add {r : Nat → Nat} : ∀ (l : List Nat) (i : Nat), nwA l r (l.length + i) = r i
  | [], i => by rw [List.length_nil, Nat.zero_add]; rfl
  | x :: l, i => by
    rw [List.length_cons, show l.length + 1 + i = (l.length + i) + 1 by omega]
    exact nwA_add l i
theorem nwRows_pl {c : ClassId} {r0 r1 : Nat → Nat} {N0 N1 k : Nat} (f : Nat → va_E) (hf : va_pl ((List.range N0).map r0) f = nwRows c r0 N0 k (fun _ _ => 0)) (hf2 : f = fun _ => .inl (c, k, .inl (fun _ => 0))) :
    va_pl ((List.range N0).map r0 ++ (List.range N1).map r1) (vr_up f ((List.range N1).map r1) (.inl (c, k, .inl (fun _ => 0)))) = nwRows c (fun i => if i < N0 then r0 i else r1 (i - N0)) (N0 + N1) k (fun _ _ => 0) := by
  have e : vr_up f ((List.range N1).map r1) (.inl (c, k, .inl (fun _ => 0))) = fun _ => .inl (c, k, .inl (fun _ => 0)) := by
    funext a
    unfold vr_up
    rw [hf2]
    split <;> rfl
  rw [e]
  unfold va_pl nwRows
  apply List.ext_getElem?
  intro i
  rw [List.map_append, List.map_map, List.map_map]
  by_cases h0 : i < N0
  · rw [List.getElem?_append_left (by simp; exact h0), List.getElem?_map, List.getElem?_map, List.getElem?_range h0, List.getElem?_range (by omega)]
    simp [h0]
  · rw [List.getElem?_append_right (by simp; omega)]
    simp only [List.length_map, List.length_range, List.getElem?_map]
    by_cases h1 : i - N0 < N1
    · rw [List.getElem?_range h1, List.getElem?_range (by omega)]
      simp [h0]
    · rw [List.getElem?_eq_none (by rw [List.length_range]; omega), List.getElem?_eq_none (by rw [List.length_range]; omega)]
      rfl
section NWN
variable {p : Program} {l : Launch} {e : Env} {R : Room} {s : State} {m : MethodId} {args : Array Value} {below : List Frame} {meth : Method} {c : Code} {H : Heap} {locs : List Loc} {cells slots : Nat} {Q : State → Prop}
variable {pc : Nat} {ls : Array Slot} {rest : List Value} {A : Nat → Prop} {G : nwG} {cc : ByteArray} {nL : Nat} {Ts : List Cond} {own : String} {ret : Option FieldType} {nm : String} {ws : va_W}
theorem nw_newI (X : nwAt p m c cc nL s args Ts own meth ret nm G) (hP : va_P G.1 vwCl ws H) (hD : va_D A ws) (hS : va_S A s.heap H locs) (hA : ∀ q, s.heap.size ≤ q → A q) (harr : (Cond.arrayClass .int).before args s = true) {n : Int32} (N' : Nat) (hn : ¬ n < 0) (hN : n.toNatClampNeg = N') (hbytes : N' * componentBytes .int ≤ 536870912) (hcells : cells + 1 ≤ R.cells) (hslots : slots + N' ≤ R.slots) (hdg : decode cc pc = .ok (.newarray .int, 2))
    (kk : ∀ (q : Nat) (H1 : Heap), va_P G.1 vwCl (ws ++ [(q, .inl (G.2.1, N', .inl (fun _ => 0)))]) H1 → va_D A (ws ++ [(q, .inl (G.2.1, N', .inl (fun _ => 0)))]) → va_S A s.heap H1 locs →
      W p l e R s m args below meth c H1 locs (cells + 1) (slots + N') Q (F0 m (pc + 2) ls (.ref q :: rest))) : W p l e R s m args below meth c H locs cells slots Q (F0 m pc ls (.int n :: rest)) := by
  refine va_newa (atype := .int) (a0 := (N', .inl (fun _ => 0))) X.1.1 X.1.2.1 harr rfl X.2.2.2.2.1 hP hD hS hA (fun _ => rfl) hn hN hbytes hcells hslots hdg (fun q cA H1 hK1 hP hD hS => ?_)
  have e := nw_cA (ty := .int) (c := G.2.1) (cA := cA) (s := s) (fun (a : s.vm.findClass _ = some _) (b : s.vm.findClass _ = some _) => Option.some.inj (Eq.trans (Eq.symm b) a)) hK1 0 rfl
  subst e
  exact kk q H1 hP hD hS
theorem nw_newZ (X : nwAt p m c cc nL s args Ts own meth ret nm G) (hP : va_P G.1 vwCl ws H) (hD : va_D A ws) (hS : va_S A s.heap H locs) (hA : ∀ q, s.heap.size ≤ q → A q) (harr : (Cond.arrayClass .boolean).before args s = true) {n : Int32} (N' : Nat) (hn : ¬ n < 0) (hN : n.toNatClampNeg = N') (hbytes : N' * componentBytes .boolean ≤ 536870912) (hcells : cells + 1 ≤ R.cells) (hslots : slots + N' ≤ R.slots) (hdg : decode cc pc = .ok (.newarray .boolean, 2))
    (kk : ∀ (q : Nat) (H1 : Heap), va_P G.1 vwCl (ws ++ [(q, .inl (G.2.2.1, N', .inl (fun _ => 0)))]) H1 → va_D A (ws ++ [(q, .inl (G.2.2.1, N', .inl (fun _ => 0)))]) → va_S A s.heap H1 locs →
      W p l e R s m args below meth c H1 locs (cells + 1) (slots + N') Q (F0 m (pc + 2) ls (.ref q :: rest))) : W p l e R s m args below meth c H locs cells slots Q (F0 m pc ls (.int n :: rest)) := by
  refine va_newa (atype := .boolean) (a0 := (N', .inl (fun _ => 0))) X.1.1 X.1.2.1 harr rfl X.2.2.2.2.1 hP hD hS hA (fun _ => rfl) hn hN hbytes hcells hslots hdg (fun q cA H1 hK1 hP hD hS => ?_)
  have e := nw_cA (ty := .boolean) (c := G.2.2.1) (cA := cA) (s := s) (fun (a : s.vm.findClass _ = some _) (b : s.vm.findClass _ = some _) => Option.some.inj (Eq.trans (Eq.symm b) a)) hK1 1 rfl
  subst e
  exact kk q H1 hP hD hS
theorem nw_newR {Y : va_W} {r0 : Nat → Nat} {N0 index : Nat} (X : nwAt p m c cc nL s args Ts own meth ret nm G) {n k : Int32} (N' K' : Nat) (hP : va_P G.1 vwCl (Y ++ nwRows G.2.1 r0 N0 K' (fun _ _ => 0)) H) (hD : va_D A (Y ++ nwRows G.2.1 r0 N0 K' (fun _ _ => 0))) (hS : va_S A s.heap H locs) (hA : ∀ q, s.heap.size ≤ q → A q) (hclink : (Cond.classLink own index "[[I").before args s = true) (harr : (Cond.arrayClass .int).before args s = true) (hn : ¬ n < 0) (hk : ¬ k < 0) (hN : n.toNatClampNeg = N') (hM : k.toNatClampNeg = K')
    (hb1 : N' * 4 ≤ 536870912) (hb2 : K' * componentBytes .int ≤ 536870912) (hb3 : K' ≤ 536870912) (hcells : cells + (1 + N') ≤ R.cells) (hslots : slots + (N' + N' * K') ≤ R.slots) (hdg : decode cc pc = .ok (.multianewarray index 2, 4))
    (kk : ∀ (q : Nat) (r : Nat → Nat) (H1 : Heap), va_P G.1 vwCl ((Y ++ [(q, .inl (G.2.2.2, N', .inr (.inr (.inr (.inr (fun i => if i < N' then some (r i) else none))))))]) ++ nwRows G.2.1 (fun i => if i < N0 then r0 i else r (i - N0)) (N0 + N') K' (fun _ _ => 0)) H1 → va_D A ((Y ++ [(q, .inl (G.2.2.2, N', .inr (.inr (.inr (.inr (fun i => if i < N' then some (r i) else none))))))]) ++ nwRows G.2.1 (fun i => if i < N0 then r0 i else r (i - N0)) (N0 + N') K' (fun _ _ => 0)) → va_S A s.heap H1 locs →
      W p l e R s m args below meth c H1 locs (cells + 1 + N') (slots + N' + N' * K') Q (F0 m (pc + 4) ls (.ref q :: rest))) : W p l e R s m args below meth c H locs cells slots Q (F0 m pc ls (.int k :: .int n :: rest)) := by
  have e0 : va_pl ((List.range N0).map r0) (fun _ => .inl (G.2.1, K', .inl (fun _ => 0))) = nwRows G.2.1 r0 N0 K' (fun _ _ => 0) := by
    unfold va_pl nwRows
    rw [List.map_map]
    rfl
  rw [← e0] at hP hD
  have hcy : s.vm.findClass (FieldType.array .int).toString = some G.2.1 := (X.2.2.2.2.1.2 0 _ rfl).2
  refine va_mna (ty := .int) (z := (K', .inl (fun _ => 0))) X.1.1 X.1.2.1 X.1.2.2.2.1 hclink X.2.2.2.2.2.2 harr hcy X.2.2.2.2.1 hP hD hS hA hn hk hN hM hb1 hb2 hb3 rfl rfl hcells hslots (fun cA => by rw [vp_cell_i, ← arrV_new]; rfl) hdg (fun q r cA H1 h1 h2 hK1 hP hD hS => ?_)
  have e := nw_cA (ty := (.array .int)) (c := G.2.2.2) (cA := cA) (s := s) (fun (a : s.vm.findClass _ = some _) (b : s.vm.findClass _ = some _) => Option.some.inj (Eq.trans (Eq.symm b) a)) hK1 2 rfl
  subst e
  rw [nwRows_pl _ e0 rfl] at hP hD
  exact kk q r H1 hP hD hS
end NWN
