/-! The layer of this proof: one word for the class tables (nwK), one form of contract (nwCi, nwCl, nwCv), its way in, its ends, its calls. A world is a list of cells; a call cuts the callee's cells out of it and puts back what came. -/
abbrev nwG : Type := va_G × ClassId × ClassId × ClassId
abbrev nwTys (G : nwG) : List (ClassId × FieldType) := [(G.2.1, .int), (G.2.2.1, .boolean), (G.2.2.2, .array .int)]
def nwNest : List (String × Nat × MethodName × String) := [(RX6, 9, yX5_init, RX6), (RX6, 27, yX1_init, RX6), (RX6, 41, yX0_init, RX6), (RX5, 36, yX6_outside, RX6), (RX4, 72, yX6_outside, RX6), (RX1, 16, yX6_outside, RX6), (RX3, 30, yX6_outside, RX6), (RX0, 25, yX6_outside, RX6), (RX2, 10, yX6_outside, RX6), (RX5, 59, yX6_mix, RX6), (RX4, 68, yX6_mix, RX6), (RX1, 48, yX6_mix, RX6), (RX3, 38, yX6_mix, RX6), (RX0, 33, yX6_mix, RX6)]
theorem nwAOA_alike {ty : FieldType} {u U : State} (hvm : u.vm.Alike U.vm) (h : va_AOA ty u) : va_AOA ty U := by
  exact (show (Cond.arrayOver ty.array).before #[] U = true from by
    have h2 := Cond.arrayOver_setVmC (args := #[]) (s := u) hvm ty.array
    have h3 : (Cond.arrayOver ty.array).before #[] (u.setVm U.vm) = (Cond.arrayOver ty.array).before #[] U := rfl
    rw [← h3, h2]
    exact h)
def nwK (G : nwG) (U : State) : Prop := va_K G.1 vwCl (nwTys G) U ∧ (∀ q ∈ nwNest, va_Nw (.methodLinkNest q.1 q.2.1 q.2.2.1 q.2.2.2) U) ∧ va_AOA .int U
theorem nwK.warm {G : nwG} {s U : State} (hW : s.WarmedH U.vm) (h : nwK G s) : nwK G U := ⟨va_K.moved hW.alike h.1, fun q hq => va_Nw.warmM hW (h.2.1 q hq), nwAOA_alike hW.alike h.2.2⟩
theorem nwK.calling {G : nwG} {U : State} {g : JFrame} {mk : MethodId} {a : Array Value} (h : nwK G U) : nwK G (U.calling g mk a) := ⟨va_K.moved (u := U) (U := U.calling g mk a) (Vm.Alike.refl U.vm) h.1, fun q hq => va_Nw.same (u := U) (U := U.calling g mk a) rfl rfl (h.2.1 q hq), nwAOA_alike (u := U) (U := U.calling g mk a) (Vm.Alike.refl U.vm) h.2.2⟩
theorem nwK.nest {G : nwG} {s : State} (h : nwK G s) (k : Nat) {o : String} {i : Nat} {y : MethodName} {t : String} (hk : nwNest[k]? = some (o, i, y, t)) : va_Nw (.methodLinkNest o i y t) s := h.2.1 (o, i, y, t) (List.mem_of_getElem? hk)
def nwPre (G : nwG) (ws : va_W) (sz : Nat) (U : State) : Prop := U.heap.size = sz ∧ nwK G U ∧ va_P G.1 vwCl ws U.heap ∧ va_D (fun _ => True) ws
def nwEnd (G : nwG) (A : Nat → Prop) (w : va_W) (t : State) : Prop := va_P G.1 vwCl w t.heap ∧ va_D A w
abbrev nwQi (G : nwG) (post : Int32 → va_W → Prop) (A : Nat → Prop) : Array Value → State → Outcome → State → Prop := va_Qi post (nwEnd G A) A
abbrev nwQl (G : nwG) (post : Int64 → va_W → Prop) (A : Nat → Prop) : Array Value → State → Outcome → State → Prop := va_Ql post (nwEnd G A) A
abbrev nwQv (G : nwG) (post : va_W → Prop) (A : Nat → Prop) : Array Value → State → Outcome → State → Prop := va_Qv post (nwEnd G A) A
def nwCi (l : Launch) (G : nwG) (y : MethodName) (ws : List Cond) (rm : Room) (av : List Value) (W0 : va_W) (post : Int32 → va_W → Prop) : Prop := ∀ sz : Nat, Met l y ws rm (va_Pc av (nwPre G W0 sz)) (nwQi G post (va_A W0 sz)) rm.cells rm.slots (va_A W0 sz)
def nwCl (l : Launch) (G : nwG) (y : MethodName) (ws : List Cond) (rm : Room) (av : List Value) (W0 : va_W) (post : Int64 → va_W → Prop) : Prop := ∀ sz : Nat, Met l y ws rm (va_Pc av (nwPre G W0 sz)) (nwQl G post (va_A W0 sz)) rm.cells rm.slots (va_A W0 sz)
def nwCv (l : Launch) (G : nwG) (y : MethodName) (ws : List Cond) (rm : Room) (av : List Value) (W0 : va_W) (post : va_W → Prop) : Prop := ∀ sz : Nat, Met l y ws rm (va_Pc av (nwPre G W0 sz)) (nwQv G post (va_A W0 sz)) rm.cells rm.slots (va_A W0 sz)
/-- what a body knows of its frame -/
abbrev nwAt (p : Program) (m : MethodId) (c : Code) (cc : ByteArray) (nL : Nat) (s : State) (args : Array Value) (Ts : List Cond) (own : String) (meth : Method) (ret : Option FieldType) (nm : String) (G : nwG) : Prop := CallFix p m c cc nL s args Ts own ∧ meth.sig.returnType = ret ∧ meth.locks = false ∧ meth.name = nm ∧ nwK G s
theorem nw_blind {G : nwG} {av : List Value} {W0 : va_W} {sz : Nat} : FrameBlind (va_Pc av (nwPre G W0 sz)) := fun a U g mk q => by
  obtain ⟨q0, q1, q2, q3, q4⟩ := q
  exact ⟨q0, q1, q2.calling, q3, q4⟩
/-- the way into a body -/
theorem nw_of {l : Launch} {G : nwG} {y : MethodName} {ws ws' : List Cond} {rm : Room} {cc : ByteArray} {maxL : Nat} {ret : Option FieldType} {av : List Value} {W0 : va_W} {Qc : (Nat → Prop) → Array Value → State → Outcome → State → Prop} (hy : plainName y.cls = true) (hw : ws = .code y cc maxL ret :: ws') (hn : (lg_sl av).length ≤ maxL)
    (body : ∀ (p : Program) (e : Env) (s : State) (m : MethodId) (below : List Frame) (meth : Method) (c : Code) (A : Nat → Prop) (ls : Array Slot), nwAt p m c cc maxL s av.toArray ws y.cls meth ret y.name G → va_P G.1 vwCl W0 s.heap → va_D A W0 → (∀ q, s.heap.size ≤ q → A q) → va_S A s.heap s.heap [] → lv_has ls maxL (lv_args 0 av) → W p l e rm s m av.toArray below meth c s.heap [] 0 0 (MQ below (Qc A) av.toArray s rm.cells rm.slots A) (F0 m 0 ls [])) :
    ∀ sz : Nat, Met l y ws rm (va_Pc av (nwPre G W0 sz)) (Qc (va_A W0 sz)) rm.cells rm.slots (va_A W0 sz) := by
  intro sz
  refine Met.ofW (cc := cc) (maxL := maxL) (ret := ret) hy hw ?_
  intro p e s m args below meth c s₁ B hml hv
  obtain ⟨rfl, hsz, hK, hP, hD0⟩ := hv
  subst hsz
  have hl := lv_entry av hn
  rw [lg_entry_eq]
  exact body p e s m below meth c (va_A W0 s.heap.size) _ ⟨⟨B.exec, B.bytes, hml, findClass_of_methodNamed B.named, atoms_spec (ws := ws) B.pre⟩, B.returns, B.notSynchronized, (name_of_methodNamed B.named B.method).1, hK⟩ hP hD0.self (fun q h => Or.inr h) va_S.rf hl
/-- cutting a world: f w is the caller's world with w in the place of the callee's cells -/
def nwSp (ws wc : va_W) (f : va_W → va_W) : Prop := ∃ (wr : va_W) (isC isR : List Nat), isC.map (fun i => ws[i]?) = wc.map some ∧ isR.map (fun i => ws[i]?) = wr.map some ∧ va_nd isR = true ∧ va_nd isC = true ∧ (∀ i ∈ isR, i ∉ isC) ∧ ∀ w : va_W, (f w).Perm (wr ++ w)
theorem va_P.mem {D : va_G} {cl : List vw_C} {ws : va_W} {H : Heap} : va_P D cl ws H ↔ ∀ q ∈ ws, va_at D cl q H := ⟨fun h q hq => by
  obtain ⟨k, hk⟩ := List.getElem?_of_mem hq
  exact h k q hk, fun h k q hk => h q (List.mem_of_getElem? hk)⟩
theorem va_P.perm {D : va_G} {cl : List vw_C} {ws ws' : va_W} {H : Heap} (hp : ws'.Perm ws) (h : va_P D cl ws H) : va_P D cl ws' H := va_P.mem.mpr fun q hq => va_P.mem.mp h q (hp.mem_iff.mp hq)
theorem nw_nodup {α : Type} {l : List α} : l.Nodup ↔ ∀ (i j : Nat) (x y : α), i < j → l[i]? = some x → l[j]? = some y → x ≠ y := by
  unfold List.Nodup
  rw [List.pairwise_iff_getElem]
  constructor
  · intro h i j x y hij hx hy
    obtain ⟨h1, rfl⟩ := List.getElem?_eq_some_iff.mp hx
    obtain ⟨h2, rfl⟩ := List.getElem?_eq_some_iff.mp hy
    exact h i j h1 h2 hij
  · intro h i j h1 h2 hij
    exact h i j _ _ hij (List.getElem?_eq_getElem h1) (List.getElem?_eq_getElem h2)
theorem va_D.mem {A : Nat → Prop} {ws : va_W} : va_D A ws ↔ (ws.map (fun q => q.1)).Nodup ∧ ∀ q ∈ ws, A q.1 := by
  rw [nw_nodup]
  constructor
  · intro h
    refine ⟨fun i j x y hij hx hy e => ?_, fun q hq => by
      obtain ⟨k, hk⟩ := List.getElem?_of_mem hq
      exact h.2 k q hk⟩
    rw [List.getElem?_map] at hx hy
    obtain ⟨p, hp, rfl⟩ := Option.map_eq_some_iff.mp hx
    obtain ⟨q, hq, rfl⟩ := Option.map_eq_some_iff.mp hy
    have := h.1 i j p q hp hq e
    omega
  · intro h
    refine ⟨fun i j p q hi hj e => ?_, fun k q hk => h.2 q (List.mem_of_getElem? hk)⟩
    have g : ∀ (i : Nat) (p : Nat × va_E), ws[i]? = some p → (ws.map (fun q => q.1))[i]? = some p.1 := fun i p hi => by rw [List.getElem?_map, hi]; rfl
    rcases Nat.lt_trichotomy i j with h1 | h1 | h1
    · exact absurd e (h.1 i j _ _ h1 (g i p hi) (g j q hj))
    · exact h1
    · exact absurd e.symm (h.1 j i _ _ h1 (g j q hj) (g i p hi))
theorem va_D.perm {A : Nat → Prop} {ws ws' : va_W} (hp : ws'.Perm ws) (h : va_D A ws) : va_D A ws' := by
  rw [va_D.mem] at h ⊢
  exact ⟨((hp.map _).nodup_iff).mpr h.1, fun q hq => h.2 q (hp.mem_iff.mp hq)⟩
theorem nw_ndOf : ∀ (l : List Nat), l.Nodup → va_nd l = true := by
  intro l
  induction l with
  | nil => intro _; rfl
  | cons x t ih =>
    intro h
    rw [List.nodup_cons] at h
    simp [va_nd, ih h.2, h.1]
theorem nw_ndR (n a : Nat) : ((List.range n).map (fun i => a + i)).Nodup := by
  rw [nw_nodup]
  intro i j x y hij hx hy e
  rw [List.getElem?_map] at hx hy
  obtain ⟨p, hp, rfl⟩ := Option.map_eq_some_iff.mp hx
  obtain ⟨q, hq, rfl⟩ := Option.map_eq_some_iff.mp hy
  have h1 : i < n := by have := (List.getElem?_eq_some_iff.mp hp).1; rwa [List.length_range] at this
  have h2 : j < n := by have := (List.getElem?_eq_some_iff.mp hq).1; rwa [List.length_range] at this
  rw [List.getElem?_range h1] at hp
  rw [List.getElem?_range h2] at hq
  have := Option.some.inj hp
  have := Option.some.inj hq
  omega
theorem nw_seg {a b c : va_W} : ((List.range b.length).map (fun i => a.length + i)).map (fun i => (a ++ (b ++ c))[i]?) = b.map some := by
  apply List.ext_getElem?
  intro k
  rw [List.map_map, List.getElem?_map, List.getElem?_map]
  by_cases h : k < b.length
  · rw [List.getElem?_range h, List.getElem?_eq_getElem h]
    simp only [Option.map_some, Function.comp]
    rw [List.getElem?_append_right (by omega), Nat.add_sub_cancel_left, List.getElem?_append_left h, List.getElem?_eq_getElem h]
  · rw [List.getElem?_eq_none (by rw [List.length_range]; omega), List.getElem?_eq_none (by omega)]
    rfl
theorem nwSp.seg (a b c : va_W) : nwSp (a ++ (b ++ c)) b (fun w => a ++ (w ++ c)) := by
  refine ⟨a ++ c, (List.range b.length).map (fun i => a.length + i), (List.range a.length).map (fun i => 0 + i) ++ (List.range c.length).map (fun i => (a.length + b.length) + i), nw_seg, ?_, ?_, ?_, ?_, ?_⟩
  · rw [List.map_append, List.map_append]
    have h1 := nw_seg (a := []) (b := a) (c := b ++ c)
    have h2 := nw_seg (a := a ++ b) (b := c) (c := [])
    rw [List.append_nil, List.append_assoc, List.length_append] at h2
    rw [List.nil_append, List.length_nil] at h1
    rw [h1, h2]
  · apply nw_ndOf
    rw [List.nodup_append]
    refine ⟨nw_ndR _ _, nw_ndR _ _, ?_⟩
    intro x hx y hy e
    obtain ⟨i, hi, rfl⟩ := List.mem_map.mp hx
    obtain ⟨j, hj, rfl⟩ := List.mem_map.mp hy
    have := List.mem_range.mp hi
    omega
  · exact nw_ndOf _ (nw_ndR _ _)
  · intro i hi hc
    obtain ⟨j, hj, e⟩ := List.mem_map.mp hc
    have := List.mem_range.mp hj
    rcases List.mem_append.mp hi with h | h
    · obtain ⟨k, hk, rfl⟩ := List.mem_map.mp h
      have := List.mem_range.mp hk
      omega
    · obtain ⟨k, hk, rfl⟩ := List.mem_map.mp h
      omega
  · intro w
    rw [List.append_assoc]
    exact (List.perm_append_comm (l₁ := w) (l₂ := c)).append_left a
theorem nwSp.all (b : va_W) : nwSp b b (fun w => w) := by
  obtain ⟨wr, i1, i2, h1, h2, h3, h3', h4, h5⟩ := nwSp.seg [] b []
  rw [List.nil_append, List.append_nil] at h1 h2
  exact ⟨wr, i1, i2, h1, h2, h3, h3', h4, fun w => by have := h5 w; dsimp only at this; rwa [List.nil_append, List.append_nil] at this⟩
theorem nwSp.suf (a b : va_W) : nwSp (a ++ b) b (fun w => a ++ w) := by
  obtain ⟨wr, i1, i2, h1, h2, h3, h3', h4, h5⟩ := nwSp.seg a b []
  rw [List.append_nil] at h1 h2
  exact ⟨wr, i1, i2, h1, h2, h3, h3', h4, fun w => by have := h5 w; dsimp only at this; rwa [List.append_nil] at this⟩
theorem nwSp.pre (b c : va_W) : nwSp (b ++ c) b (fun w => w ++ c) := nwSp.seg [] b c
theorem nwSp.none (b : va_W) : nwSp b [] (fun w => w ++ b) := nwSp.seg [] [] b
theorem nwSp.join {A0 : Nat → Prop} {D : va_G} {cl : List vw_C} {ws wc w1 : va_W} {f : va_W → va_W} {H H1 : Heap} (sp : nwSp ws wc f) (hP : va_P D cl ws H) (hD : va_D A0 ws) (hk : ∀ q : Nat, q < H.size → ¬ va_A wc H.size q → H1[q]? = H[q]?) (hF : ∀ q, va_A wc H.size q → A0 q) (hP1 : va_P D cl w1 H1) (hD1 : va_D (va_A wc H.size) w1) : va_P D cl (f w1) H1 ∧ va_D A0 (f w1) := by
  obtain ⟨wr, isC, isR, hC, hR, hn, hnC, hdis, hp⟩ := sp
  obtain ⟨h1, h2⟩ := va_join hP hD isC isR hC hR hn hdis hk hF hP1 hD1
  exact ⟨h1.perm (hp w1), h2.perm (hp w1)⟩
theorem nwSp.cut {A0 : Nat → Prop} {D : va_G} {cl : List vw_C} {ws wc : va_W} {f : va_W → va_W} {H0 H : Heap} {locs : List Loc} (sp : nwSp ws wc f) (hP : va_P D cl ws H) (hD : va_D A0 ws) (hS : va_S A0 H0 H locs) (hA : ∀ q, H0.size ≤ q → A0 q) : va_P D cl wc H ∧ va_D (fun _ => True) wc ∧ ∀ q, va_A wc H.size q → A0 q := by
  obtain ⟨wr, isC, isR, hC, hR, hn, hnC, hdis, hp⟩ := sp
  have hPc : va_P D cl wc H := fun k q hq => by
    have h1 : (isC.map (fun i => ws[i]?))[k]? = some (some q) := by rw [hC, List.getElem?_map, hq]; rfl
    rw [List.getElem?_map] at h1
    cases hi : isC[k]? with
    | none => rw [hi] at h1; cases h1
    | some i => rw [hi] at h1; exact hP i q (Option.some.inj h1)
  exact ⟨hPc, (hD.sub isC hnC hC).weaken (fun _ _ _ _ => trivial), va_free hD hS hA isC hC⟩
section NWC
variable {p : Program} {l : Launch} {e : Env} {R : Room} {s : State} {m : MethodId} {args : Array Value} {below : List Frame} {meth : Method} {c : Code} {H : Heap} {locs : List Loc} {cells slots : Nat} {Q : State → Prop}
variable {pc : Nat} {ls : Array Slot} {rest st0 : List Value} {A : Nat → Prop} {G : nwG} {cc : ByteArray} {nL : Nat} {Ts : List Cond} {own : String} {ret : Option FieldType} {nm : String}
theorem nw_preS {av : List Value} {wc : va_W} (hK : nwK G s) (hP : va_P G.1 vwCl wc H) (hD : va_D (fun _ => True) wc) : PreS s H (va_Pc av (nwPre G wc H.size)) av := ⟨nw_blind, fun U hU hW => ⟨rfl, by rw [hU], hK.warm hW, by rw [hU]; exact hP, hD⟩⟩
theorem nw_preV {b : Nat} {As : List Value} {wc : va_W} {C : String} {T : u_T} {N q0 ci : Nat} {fs : List Value} (hK : nwK G s) (hP : va_P G.1 vwCl wc H) (hD : va_D (fun _ => True) wc) (hb : wc[q0]? = some (b, .inr (ci, fs))) (hc : vwCl[ci]? = some (C, T, N)) : PreV s H C b (va_Pc (.ref b :: As) (nwPre G wc H.size)) As := ⟨nw_blind, va_recv hK.1 hP hc hb, (nw_preS (av := .ref b :: As) hK hP hD).2⟩
/-- an own method (virtual; private ones too), an int back -/
theorem nw_Vi {y : MethodName} {index maxL n : Nat} {bytes : ByteArray} {rt : Option FieldType} {ws : List Cond} {rm : Room} {b : Nat} {As : List Value} {wc ws0 : va_W} {f : va_W → va_W} {post : Int32 → va_W → Prop} {C : String} {T : u_T} {N q0 ci : Nat} {fs : List Value} (X : nwAt p m c cc nL s args Ts own meth ret nm G) (hC : nwCi l G y ws rm (.ref b :: As) wc post) (cw : CallW R s args own C index y bytes maxL rt ws rm rm.cells rm.slots n) (hb : wc[q0]? = some (b, .inr (ci, fs))) (hc : vwCl[ci]? = some (C, T, N)) (sp : nwSp ws0 wc f) (hP : va_P G.1 vwCl ws0 H) (hD : va_D A ws0) (hS : va_S A s.heap H locs) (hA : ∀ q, s.heap.size ≤ q → A q) (hn : As.length = n) (hsz : ls.size = nL) (hst : st0 = As.reverse ++ .ref b :: rest) (hr : (rest.map fun v => v.category).sum ≤ 8) (hdg : decode cc pc = .ok (.invokevirtual index, 3)) (hf : cells + rm.cells ≤ R.cells ∧ slots + rm.slots ≤ R.slots)
    (kk : ∀ (r : Int32) (w : va_W) (H1 : Heap) (locs1 : List Loc), post r w → va_P G.1 vwCl (f w) H1 → va_D A (f w) → va_S A s.heap H1 locs1 → W p l e R s m args below meth c H1 locs1 (cells + rm.cells) (slots + rm.slots) Q (F0 m (pc + 3) ls (.int r :: rest))) : W p l e R s m args below meth c H locs cells slots Q (F0 m pc ls st0) := by
  obtain ⟨hPc, hDc, hF⟩ := sp.cut hP hD hS hA
  refine va_calli (va_runV (rest := rest) X.1 (hC H.size) cw (nw_preV X.2.2.2.2 hPc hDc hb hc) rfl hn hsz hst (lv_room (rest := st0) hr) hdg hf) hS (fun q _ h => hF q h) hF (fun r u t H1 locs1 ht hvm hw hB hz1 hk1 hS1 => ?_)
  obtain ⟨hP1, hD1⟩ := sp.join hP hD hk1 hF (by rw [← ht]; exact hB.1) hB.2
  exact kk r u H1 locs1 hw hP1 hD1 hS1
theorem nw_Vl {y : MethodName} {index maxL n : Nat} {bytes : ByteArray} {rt : Option FieldType} {ws : List Cond} {rm : Room} {b : Nat} {As : List Value} {wc ws0 : va_W} {f : va_W → va_W} {post : Int64 → va_W → Prop} {C : String} {T : u_T} {N q0 ci : Nat} {fs : List Value} (X : nwAt p m c cc nL s args Ts own meth ret nm G) (hC : nwCl l G y ws rm (.ref b :: As) wc post) (cw : CallW R s args own C index y bytes maxL rt ws rm rm.cells rm.slots n) (hb : wc[q0]? = some (b, .inr (ci, fs))) (hc : vwCl[ci]? = some (C, T, N)) (sp : nwSp ws0 wc f) (hP : va_P G.1 vwCl ws0 H) (hD : va_D A ws0) (hS : va_S A s.heap H locs) (hA : ∀ q, s.heap.size ≤ q → A q) (hn : As.length = n) (hsz : ls.size = nL) (hst : st0 = As.reverse ++ .ref b :: rest) (hr : (rest.map fun v => v.category).sum ≤ 8) (hdg : decode cc pc = .ok (.invokevirtual index, 3)) (hf : cells + rm.cells ≤ R.cells ∧ slots + rm.slots ≤ R.slots)
    (kk : ∀ (r : Int64) (w : va_W) (H1 : Heap) (locs1 : List Loc), post r w → va_P G.1 vwCl (f w) H1 → va_D A (f w) → va_S A s.heap H1 locs1 → W p l e R s m args below meth c H1 locs1 (cells + rm.cells) (slots + rm.slots) Q (F0 m (pc + 3) ls (.long r :: rest))) : W p l e R s m args below meth c H locs cells slots Q (F0 m pc ls st0) := by
  obtain ⟨hPc, hDc, hF⟩ := sp.cut hP hD hS hA
  refine va_calll (va_runV (rest := rest) X.1 (hC H.size) cw (nw_preV X.2.2.2.2 hPc hDc hb hc) rfl hn hsz hst (lv_room (rest := st0) hr) hdg hf) hS (fun q _ h => hF q h) hF (fun r u t H1 locs1 ht hvm hw hB hz1 hk1 hS1 => ?_)
  obtain ⟨hP1, hD1⟩ := sp.join hP hD hk1 hF (by rw [← ht]; exact hB.1) hB.2
  exact kk r u H1 locs1 hw hP1 hD1 hS1
theorem nw_Vv {y : MethodName} {index maxL n : Nat} {bytes : ByteArray} {rt : Option FieldType} {ws : List Cond} {rm : Room} {b : Nat} {As : List Value} {wc ws0 : va_W} {f : va_W → va_W} {post : va_W → Prop} {C : String} {T : u_T} {N q0 ci : Nat} {fs : List Value} (X : nwAt p m c cc nL s args Ts own meth ret nm G) (hC : nwCv l G y ws rm (.ref b :: As) wc post) (cw : CallW R s args own C index y bytes maxL rt ws rm rm.cells rm.slots n) (hb : wc[q0]? = some (b, .inr (ci, fs))) (hc : vwCl[ci]? = some (C, T, N)) (sp : nwSp ws0 wc f) (hP : va_P G.1 vwCl ws0 H) (hD : va_D A ws0) (hS : va_S A s.heap H locs) (hA : ∀ q, s.heap.size ≤ q → A q) (hn : As.length = n) (hsz : ls.size = nL) (hst : st0 = As.reverse ++ .ref b :: rest) (hr : (rest.map fun v => v.category).sum ≤ 8) (hdg : decode cc pc = .ok (.invokevirtual index, 3)) (hf : cells + rm.cells ≤ R.cells ∧ slots + rm.slots ≤ R.slots)
    (kk : ∀ (w : va_W) (H1 : Heap) (locs1 : List Loc), post w → va_P G.1 vwCl (f w) H1 → va_D A (f w) → va_S A s.heap H1 locs1 → W p l e R s m args below meth c H1 locs1 (cells + rm.cells) (slots + rm.slots) Q (F0 m (pc + 3) ls rest)) : W p l e R s m args below meth c H locs cells slots Q (F0 m pc ls st0) := by
  obtain ⟨hPc, hDc, hF⟩ := sp.cut hP hD hS hA
  refine va_callv (va_runV (rest := rest) X.1 (hC H.size) cw (nw_preV X.2.2.2.2 hPc hDc hb hc) rfl hn hsz hst (lv_room (rest := st0) hr) hdg hf) hS (fun q _ h => hF q h) hF (fun u t H1 locs1 ht hvm hw hB hz1 hk1 hS1 => ?_)
  obtain ⟨hP1, hD1⟩ := sp.join hP hD hk1 hF (by rw [← ht]; exact hB.1) hB.2
  exact kk u H1 locs1 hw hP1 hD1 hS1
/-- a static method over no cells at all: its answer alone -/
theorem nw_Si {y : MethodName} {index maxL n : Nat} {bytes : ByteArray} {rt : Option FieldType} {ws : List Cond} {rm : Room} {As : List Value} {ws0 : va_W} {post : Int32 → va_W → Prop} (X : nwAt p m c cc nL s args Ts own meth ret nm G) (hC : nwCi l G y ws rm As [] post) (cw : CallB R s args own index y bytes maxL rt ws rm rm.cells rm.slots n ∧ (Cond.static y).before args s = true) (hpost : ∀ r w, post r w → w = []) (hP : va_P G.1 vwCl ws0 H) (hD : va_D A ws0) (hS : va_S A s.heap H locs) (hA : ∀ q, s.heap.size ≤ q → A q) (hn : As.length = n) (hsz : ls.size = nL) (hst : st0 = As.reverse ++ rest) (hr : (rest.map fun v => v.category).sum ≤ 8) (hdg : decode cc pc = .ok (.invokestatic index, 3)) (hf : cells + rm.cells ≤ R.cells ∧ slots + rm.slots ≤ R.slots)
    (kk : ∀ (r : Int32) (H1 : Heap) (locs1 : List Loc), post r [] → va_P G.1 vwCl ws0 H1 → va_D A ws0 → va_S A s.heap H1 locs1 → W p l e R s m args below meth c H1 locs1 (cells + rm.cells) (slots + rm.slots) Q (F0 m (pc + 3) ls (.int r :: rest))) : W p l e R s m args below meth c H locs cells slots Q (F0 m pc ls st0) := by
  have sp := nwSp.none ws0
  obtain ⟨hPc, hDc, hF⟩ := sp.cut hP hD hS hA
  refine va_calli (va_runS (rest := rest) X.1 (hC H.size) cw (nw_preS X.2.2.2.2 hPc hDc) rfl hn hsz hst (lv_room (rest := st0) hr) hdg hf) hS (fun q _ h => hF q h) hF (fun r u t H1 locs1 ht hvm hw hB hz1 hk1 hS1 => ?_)
  obtain ⟨hP1, hD1⟩ := sp.join hP hD hk1 hF (by rw [← ht]; exact hB.1) hB.2
  have hu := hpost r u hw
  subst hu
  exact kk r H1 locs1 hw hP1 hD1 hS1
theorem nw_Sl {y : MethodName} {index maxL n : Nat} {bytes : ByteArray} {rt : Option FieldType} {ws : List Cond} {rm : Room} {As : List Value} {ws0 : va_W} {post : Int64 → va_W → Prop} (X : nwAt p m c cc nL s args Ts own meth ret nm G) (hC : nwCl l G y ws rm As [] post) (cw : CallB R s args own index y bytes maxL rt ws rm rm.cells rm.slots n ∧ (Cond.static y).before args s = true) (hpost : ∀ r w, post r w → w = []) (hP : va_P G.1 vwCl ws0 H) (hD : va_D A ws0) (hS : va_S A s.heap H locs) (hA : ∀ q, s.heap.size ≤ q → A q) (hn : As.length = n) (hsz : ls.size = nL) (hst : st0 = As.reverse ++ rest) (hr : (rest.map fun v => v.category).sum ≤ 8) (hdg : decode cc pc = .ok (.invokestatic index, 3)) (hf : cells + rm.cells ≤ R.cells ∧ slots + rm.slots ≤ R.slots)
    (kk : ∀ (r : Int64) (H1 : Heap) (locs1 : List Loc), post r [] → va_P G.1 vwCl ws0 H1 → va_D A ws0 → va_S A s.heap H1 locs1 → W p l e R s m args below meth c H1 locs1 (cells + rm.cells) (slots + rm.slots) Q (F0 m (pc + 3) ls (.long r :: rest))) : W p l e R s m args below meth c H locs cells slots Q (F0 m pc ls st0) := by
  have sp := nwSp.none ws0
  obtain ⟨hPc, hDc, hF⟩ := sp.cut hP hD hS hA
  refine va_calll (va_runS (rest := rest) X.1 (hC H.size) cw (nw_preS X.2.2.2.2 hPc hDc) rfl hn hsz hst (lv_room (rest := st0) hr) hdg hf) hS (fun q _ h => hF q h) hF (fun r u t H1 locs1 ht hvm hw hB hz1 hk1 hS1 => ?_)
  obtain ⟨hP1, hD1⟩ := sp.join hP hD hk1 hF (by rw [← ht]; exact hB.1) hB.2
  have hu := hpost r u hw
  subst hu
  exact kk r H1 locs1 hw hP1 hD1 hS1
/-- a nest mate's private static -/
theorem nw_Ni {y : MethodName} {index maxL n : Nat} {bytes : ByteArray} {host : String} {rt : Option FieldType} {ws : List Cond} {rm : Room} {As : List Value} {ws0 : va_W} {post : Int32 → va_W → Prop} (X : nwAt p m c cc nL s args Ts own meth ret nm G) (hC : nwCi l G y ws rm As [] post) (cw : va_CN R s args own index y host bytes maxL rt ws rm rm.cells rm.slots n) (hstat : (Cond.static y).before args s = true) (hpost : ∀ r w, post r w → w = []) (hP : va_P G.1 vwCl ws0 H) (hD : va_D A ws0) (hS : va_S A s.heap H locs) (hA : ∀ q, s.heap.size ≤ q → A q) (hn : As.length = n) (hsz : ls.size = nL) (hst : st0 = As.reverse ++ rest) (hr : (rest.map fun v => v.category).sum ≤ 8) (hdg : decode cc pc = .ok (.invokestatic index, 3)) (hf : cells + rm.cells ≤ R.cells ∧ slots + rm.slots ≤ R.slots)
    (kk : ∀ (r : Int32) (H1 : Heap) (locs1 : List Loc), post r [] → va_P G.1 vwCl ws0 H1 → va_D A ws0 → va_S A s.heap H1 locs1 → W p l e R s m args below meth c H1 locs1 (cells + rm.cells) (slots + rm.slots) Q (F0 m (pc + 3) ls (.int r :: rest))) : W p l e R s m args below meth c H locs cells slots Q (F0 m pc ls st0) := by
  have sp := nwSp.none ws0
  obtain ⟨hPc, hDc, hF⟩ := sp.cut hP hD hS hA
  refine va_calli (va_runSN (rest := rest) X.1 (hC H.size) ⟨cw, hstat, trivial⟩ (nw_preS X.2.2.2.2 hPc hDc) rfl hn hsz hst (lv_room (rest := st0) hr) hdg hf) hS (fun q _ h => hF q h) hF (fun r u t H1 locs1 ht hvm hw hB hz1 hk1 hS1 => ?_)
  obtain ⟨hP1, hD1⟩ := sp.join hP hD hk1 hF (by rw [← ht]; exact hB.1) hB.2
  have hu := hpost r u hw
  subst hu
  exact kk r H1 locs1 hw hP1 hD1 hS1
theorem nw_Nl {y : MethodName} {index maxL n : Nat} {bytes : ByteArray} {host : String} {rt : Option FieldType} {ws : List Cond} {rm : Room} {As : List Value} {ws0 : va_W} {post : Int64 → va_W → Prop} (X : nwAt p m c cc nL s args Ts own meth ret nm G) (hC : nwCl l G y ws rm As [] post) (cw : va_CN R s args own index y host bytes maxL rt ws rm rm.cells rm.slots n) (hstat : (Cond.static y).before args s = true) (hpost : ∀ r w, post r w → w = []) (hP : va_P G.1 vwCl ws0 H) (hD : va_D A ws0) (hS : va_S A s.heap H locs) (hA : ∀ q, s.heap.size ≤ q → A q) (hn : As.length = n) (hsz : ls.size = nL) (hst : st0 = As.reverse ++ rest) (hr : (rest.map fun v => v.category).sum ≤ 8) (hdg : decode cc pc = .ok (.invokestatic index, 3)) (hf : cells + rm.cells ≤ R.cells ∧ slots + rm.slots ≤ R.slots)
    (kk : ∀ (r : Int64) (H1 : Heap) (locs1 : List Loc), post r [] → va_P G.1 vwCl ws0 H1 → va_D A ws0 → va_S A s.heap H1 locs1 → W p l e R s m args below meth c H1 locs1 (cells + rm.cells) (slots + rm.slots) Q (F0 m (pc + 3) ls (.long r :: rest))) : W p l e R s m args below meth c H locs cells slots Q (F0 m pc ls st0) := by
  have sp := nwSp.none ws0
  obtain ⟨hPc, hDc, hF⟩ := sp.cut hP hD hS hA
  refine va_calll (va_runSN (rest := rest) X.1 (hC H.size) ⟨cw, hstat, trivial⟩ (nw_preS X.2.2.2.2 hPc hDc) rfl hn hsz hst (lv_room (rest := st0) hr) hdg hf) hS (fun q _ h => hF q h) hF (fun r u t H1 locs1 ht hvm hw hB hz1 hk1 hS1 => ?_)
  obtain ⟨hP1, hD1⟩ := sp.join hP hD hk1 hF (by rw [← ht]; exact hB.1) hB.2
  have hu := hpost r u hw
  subst hu
  exact kk r H1 locs1 hw hP1 hD1 hS1
/-- a constructor of ours; a nest mate's private one -/
theorem nw_Iv {y : MethodName} {index maxL n : Nat} {bytes : ByteArray} {ws : List Cond} {rm : Room} {b : Nat} {As : List Value} {wc ws0 : va_W} {f : va_W → va_W} {post : va_W → Prop} (X : nwAt p m c cc nL s args Ts own meth ret nm G) (hC : nwCv l G y ws rm (.ref b :: As) wc post) (cw : CallB R s args own index y bytes maxL none ws rm rm.cells rm.slots n ∧ y.name = "<init>" ∧ (Cond.instanceMethod y).before args s = true) (sp : nwSp ws0 wc f) (hP : va_P G.1 vwCl ws0 H) (hD : va_D A ws0) (hS : va_S A s.heap H locs) (hA : ∀ q, s.heap.size ≤ q → A q) (hn : As.length = n) (hsz : ls.size = nL) (hst : st0 = As.reverse ++ .ref b :: rest) (hr : (rest.map fun v => v.category).sum ≤ 8) (hdg : decode cc pc = .ok (.invokespecial index, 3)) (hf : cells + rm.cells ≤ R.cells ∧ slots + rm.slots ≤ R.slots)
    (kk : ∀ (w : va_W) (H1 : Heap) (locs1 : List Loc), post w → va_P G.1 vwCl (f w) H1 → va_D A (f w) → va_S A s.heap H1 locs1 → W p l e R s m args below meth c H1 locs1 (cells + rm.cells) (slots + rm.slots) Q (F0 m (pc + 3) ls rest)) : W p l e R s m args below meth c H locs cells slots Q (F0 m pc ls st0) := by
  obtain ⟨hPc, hDc, hF⟩ := sp.cut hP hD hS hA
  refine va_callv (va_runI (rest := rest) X.1 (hC H.size) cw (nw_preS X.2.2.2.2 hPc hDc) rfl hn hsz hst (lv_room (rest := st0) hr) hdg hf) hS (fun q _ h => hF q h) hF (fun u t H1 locs1 ht hvm hw hB hz1 hk1 hS1 => ?_)
  obtain ⟨hP1, hD1⟩ := sp.join hP hD hk1 hF (by rw [← ht]; exact hB.1) hB.2
  exact kk u H1 locs1 hw hP1 hD1 hS1
theorem nw_INv {y : MethodName} {index maxL n : Nat} {bytes : ByteArray} {host : String} {ws : List Cond} {rm : Room} {b : Nat} {As : List Value} {wc ws0 : va_W} {f : va_W → va_W} {post : va_W → Prop} (X : nwAt p m c cc nL s args Ts own meth ret nm G) (hC : nwCv l G y ws rm (.ref b :: As) wc post) (cw : va_CN R s args own index y host bytes maxL none ws rm rm.cells rm.slots n ∧ y.name = "<init>" ∧ (Cond.instanceMethod y).before args s = true) (sp : nwSp ws0 wc f) (hP : va_P G.1 vwCl ws0 H) (hD : va_D A ws0) (hS : va_S A s.heap H locs) (hA : ∀ q, s.heap.size ≤ q → A q) (hn : As.length = n) (hsz : ls.size = nL) (hst : st0 = As.reverse ++ .ref b :: rest) (hr : (rest.map fun v => v.category).sum ≤ 8) (hdg : decode cc pc = .ok (.invokespecial index, 3)) (hf : cells + rm.cells ≤ R.cells ∧ slots + rm.slots ≤ R.slots)
    (kk : ∀ (w : va_W) (H1 : Heap) (locs1 : List Loc), post w → va_P G.1 vwCl (f w) H1 → va_D A (f w) → va_S A s.heap H1 locs1 → W p l e R s m args below meth c H1 locs1 (cells + rm.cells) (slots + rm.slots) Q (F0 m (pc + 3) ls rest)) : W p l e R s m args below meth c H locs cells slots Q (F0 m pc ls st0) := by
  obtain ⟨hPc, hDc, hF⟩ := sp.cut hP hD hS hA
  refine va_callv (va_runIN (rest := rest) X.1 (hC H.size) cw (nw_preS X.2.2.2.2 hPc hDc) rfl hn hsz hst (lv_room (rest := st0) hr) hdg hf) hS (fun q _ h => hF q h) hF (fun u t H1 locs1 ht hvm hw hB hz1 hk1 hS1 => ?_)
  obtain ⟨hP1, hD1⟩ := sp.join hP hD hk1 hF (by rw [← ht]; exact hB.1) hB.2
  exact kk u H1 locs1 hw hP1 hD1 hS1
/-- the ends -/
theorem nw_iret {post : Int32 → va_W → Prop} {w : va_W} {v : Int32} {rm : Room} (X : nwAt p m c cc nL s args Ts own meth (some .int) nm G) (hP : va_P G.1 vwCl w H) (hD : va_D A w) (hS : va_S A s.heap H locs) (hp : post v w) (hdg : decode cc pc = .ok (.ireturn, 1)) : W p l e R s m args below meth c H locs rm.cells rm.slots (MQ below (nwQi G post A) args s rm.cells rm.slots A) (F0 m pc ls [.int v]) := by
  have hlocks : meth.locks = false := X.2.2.1
  exact W.iret X.1.1 X.1.2.1 X.2.1 (fun t ht _ => ⟨⟨v, w, rfl, hp, by rw [ht]; exact hP, hD⟩, hS.F ht⟩) hS.2.2 hdg
theorem nw_zret {post : Int32 → va_W → Prop} {w : va_W} {v : Int32} {rm : Room} (X : nwAt p m c cc nL s args Ts own meth (some .boolean) nm G) (hv : narrow .boolean (.int v) = .int v) (hP : va_P G.1 vwCl w H) (hD : va_D A w) (hS : va_S A s.heap H locs) (hp : post v w) (hdg : decode cc pc = .ok (.ireturn, 1)) : W p l e R s m args below meth c H locs rm.cells rm.slots (MQ below (nwQi G post A) args s rm.cells rm.slots A) (F0 m pc ls [.int v]) := by
  have hlocks : meth.locks = false := X.2.2.1
  exact W.zret X.1.1 X.1.2.1 X.2.1 hv (fun t ht _ => ⟨⟨v, w, rfl, hp, by rw [ht]; exact hP, hD⟩, hS.F ht⟩) hS.2.2 hdg
theorem nw_lret {post : Int64 → va_W → Prop} {w : va_W} {v : Int64} {rm : Room} (X : nwAt p m c cc nL s args Ts own meth (some .long) nm G) (hP : va_P G.1 vwCl w H) (hD : va_D A w) (hS : va_S A s.heap H locs) (hp : post v w) (hdg : decode cc pc = .ok (.lreturn, 1)) : W p l e R s m args below meth c H locs rm.cells rm.slots (MQ below (nwQl G post A) args s rm.cells rm.slots A) (F0 m pc ls [.long v]) := by
  have hlocks : meth.locks = false := X.2.2.1
  exact W.lret X.1.1 X.1.2.1 X.2.1 (fun t ht _ => ⟨⟨v, w, rfl, hp, by rw [ht]; exact hP, hD⟩, hS.F ht⟩) hS.2.2 hdg
theorem nw_vret {post : va_W → Prop} {w : va_W} {rm : Room} (X : nwAt p m c cc nL s args Ts own meth none nm G) (hP : va_P G.1 vwCl w H) (hD : va_D A w) (hS : va_S A s.heap H locs) (hp : post w) (hdg : decode cc pc = .ok (.return_, 1)) : W p l e R s m args below meth c H locs rm.cells rm.slots (MQ below (nwQv G post A) args s rm.cells rm.slots A) (F0 m pc ls []) := by
  have hlocks : meth.locks = false := X.2.2.1
  exact W.vret X.1.1 X.1.2.1 X.2.1 (fun t ht _ => ⟨⟨w, rfl, hp, by rw [ht]; exact hP, hD⟩, hS.F ht⟩) hS.2.2 hdg
end NWC
