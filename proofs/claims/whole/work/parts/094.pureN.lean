/-! Plain facts on the reference's groups, and its fewest. -/
theorem nwIf_ap {p : Prop} {f g : Nat → Nat} {z b : Nat} (h1 : f z < b) (h2 : g z < b) : nwIf p f g z < b := by
  by_cases h : p
  · rw [nwIf_t h]; exact h1
  · rw [nwIf_f h]; exact h2
theorem nwIf_same {α : Type} {p : Prop} {x : α} : nwIf p x x = x := by
  by_cases h : p
  · exact nwIf_t h _ _
  · exact nwIf_f h _ _
theorem gup {gl gz : Nat → Nat} {x y m v : Nat} (hz : gz = gst m gl x y) (hv : ((gl m = x ∨ gl m = y) ∧ v = min x y) ∨ (¬ (gl m = x ∨ gl m = y) ∧ v = gl m)) : va_up gz m v = gst (m + 1) gl x y := by
  subst hz
  rcases hv with ⟨h, rfl⟩ | ⟨h, rfl⟩
  · exact gst_hit h
  · rw [← gst_same (Or.inr h)]
    funext j
    by_cases e : j = m
    · subst e; rw [va_up_self, gst_out (by omega)]
    · rw [va_up_ne _ _ e]
/-- one group's leaks, looked at up to zone z -/
def dsI (n : Nat) (gl : Nat → Nat) (lk : Nat → Int32) (g z al : Nat) (sm : Int32) : Prop := (al = 1 ∧ gl g = g ∧ ¬ gunt gl lk g z ∧ sm = gsum gl lk g z) ∨ (al = 0 ∧ (¬ gl g = g ∨ gunt gl lk g n))
section DS
variable {n : Nat} {gl : Nat → Nat} {lk : Nat → Int32} {g z al : Nat} {sm : Int32}
theorem dsI_1 (h : dsI n gl lk g z al sm) : al ≤ 1 := by rcases h with ⟨h, _⟩ | ⟨h, _⟩ <;> omega
theorem dsI_t {sm : Int32} (h : gl g = g) (hs : sm = 0 := by rfl) : dsI n gl lk g 0 1 sm := Or.inl ⟨rfl, h, gunt_0, hs⟩
theorem dsI_f (h : ¬ gl g = g) : dsI n gl lk g 0 0 sm := Or.inr ⟨rfl, Or.inl h⟩
theorem dsI_skip (h : dsI n gl lk g z al sm) (ha : ¬ al = 0) (hz : ¬ gl z = g) : dsI n gl lk g (z + 1) al sm := by
  rcases h with ⟨h1, h2, h3, h4⟩ | ⟨h, _⟩
  · refine Or.inl ⟨h1, h2, fun q => (gunt_s.mp q).elim h3 (fun r => hz r.1), ?_⟩
    rw [gsum_s, nwIf_f (fun q => hz q.1)]
    exact h4
  · exact absurd h ha
theorem dsI_told (h : dsI n gl lk g z al sm) (ha : ¬ al = 0) (hz : gl z = g) (hl : ¬ lk z = -2000000000) : dsI n gl lk g (z + 1) 1 (sm + lk z) := by
  rcases h with ⟨h1, h2, h3, h4⟩ | ⟨h, _⟩
  · refine Or.inl ⟨rfl, h2, fun q => (gunt_s.mp q).elim h3 (fun r => hl r.2), ?_⟩
    rw [gsum_s, nwIf_t ⟨hz, hl⟩, h4]
  · exact absurd h ha
theorem dsI_lost {s2 : Int32} (h : dsI n gl lk g z al sm) (ha : ¬ al = 0) (hz : gl z = g) (hl : lk z = -2000000000) (hn : z < n) : dsI n gl lk g (z + 1) 0 s2 := Or.inr ⟨rfl, Or.inr ⟨z, hn, hz, hl⟩⟩
theorem dsI_0 (h : dsI n gl lk g z al sm) (ha : al = 0) (hi : ∀ j, j < n → gl (gl j) = gl j) : gunt gl lk g n ∨ ¬ gsum gl lk g n < 0 := by
  rcases h with ⟨h, _⟩ | ⟨_, h | h⟩
  · omega
  · right
    rw [gsum_none n (fun j hj e => h (by rw [← e]; exact hi j hj))]
    exact Int32.lt_irrefl
  · exact Or.inl h
theorem dsI_n (h : dsI n gl lk g z al sm) (ha : ¬ al = 0) (hz : z = n) : ¬ gunt gl lk g n ∧ sm = gsum gl lk g n := by
  subst hz
  rcases h with ⟨_, _, h3, h4⟩ | ⟨h, _⟩
  · exact ⟨h3, h4⟩
  · exact absurd h ha
end DS
theorem pw_z : ∀ f, pw f 0 = 0 := by
  intro f
  induction f with
  | zero => rfl
  | succ f ih => show 0 % 2 + pw f (0 / 2) = 0; rw [Nat.zero_div, ih]
theorem many_f {v f : Nat} (hv : 0 < v) (hf : v < 2 ^ f) : v / 2 < 2 ^ (f - 1) := by
  cases f with
  | zero => simp at hf; omega
  | succ f => rw [Nat.pow_succ] at hf; rw [Nat.add_sub_cancel]; omega
theorem many_c {v f c : Nat} (hv : 0 < v) (hf : v < 2 ^ f) : c + v % 2 + pw (f - 1) (v / 2) = c + pw f v := by
  cases f with
  | zero => simp at hf; omega
  | succ f =>
    rw [Nat.add_sub_cancel]
    show c + v % 2 + pw f (v / 2) = c + (v % 2 + pw f (v / 2))
    omega
theorem fs_take {ex : Nat → Prop} {k : Nat} (h1 : better (fwS ex k) k) (h2 : ex k) : nI k = fewR (fwS ex (k + 1)) := by rw [fwS_s, nwIf_t ⟨h1, h2⟩]; rfl
theorem fs_leave {ex : Nat → Prop} {k : Nat} (h : ¬ better (fwS ex k) k ∨ ¬ ex k) : fwS ex (k + 1) = fwS ex k := by rw [fwS_s, nwIf_f (fun q => h.elim (fun w => w q.1) (fun w => w q.2))]
theorem fewR_some {ex : Nat → Prop} {k : Nat} {x : Int32} (e : x = fewR (fwS ex k)) (hk : k ≤ 4096) (h : ¬ x = -1) : ∃ b : Nat, b < 4096 ∧ fwS ex k = some b ∧ x = nI b := by
  cases o : fwS ex k with
  | none => rw [o] at e; exact absurd e h
  | some b => rw [o] at e; exact ⟨b, by have := fwS_lt k b o; omega, rfl, e⟩
theorem fewR_none {ex : Nat → Prop} {k : Nat} {x : Int32} (e : x = fewR (fwS ex k)) (hk : k ≤ 4096) (h : x = -1) : better (fwS ex k) k := by
  cases o : fwS ex k with
  | none => intro b hb; cases hb
  | some b =>
    rw [o] at e
    have hb := fwS_lt k b o
    exact absurd (e.symm.trans h) (nI_nm1 (by omega))
