section
-- ===== PART A: goes FIRST, ahead of the names: the tables' words, and 'selects' of the private methods out of them =====
/-- a private method of a class that the tables say can be made, by its rows of tables_1 -/
def lw_okq (q : MethodName × Nat) : Prop := (q.1.cls ≠ "java/lang/invoke/MethodHandle" ∧ q.1.cls ≠ "java/lang/invoke/VarHandle") ∧ Cond.instantiable q.1.cls q.2 ∈ tables_1 ∧ Cond.privateMethod q.1 ∈ tables_1 ∧ Cond.instanceMethod q.1 ∈ tables_1
theorem lw_p0 : lw_okq (⟨"NightWater$Steps", "planAll", "()V"⟩, 4) := ⟨⟨by decide +kernel, by decide +kernel⟩, List.mem_of_getElem? (i := 94) (by decide +kernel), List.mem_of_getElem? (i := 101) (by decide +kernel), List.mem_of_getElem? (i := 102) (by decide +kernel)⟩
theorem lw_p1 : lw_okq (⟨"NightWater$Steps", "planStretch", "(III)V"⟩, 4) := ⟨⟨by decide +kernel, by decide +kernel⟩, List.mem_of_getElem? (i := 94) (by decide +kernel), List.mem_of_getElem? (i := 105) (by decide +kernel), List.mem_of_getElem? (i := 106) (by decide +kernel)⟩
theorem lw_p2 : lw_okq (⟨"NightWater$Steps", "costOfParts", "(III)I"⟩, 4) := ⟨⟨by decide +kernel, by decide +kernel⟩, List.mem_of_getElem? (i := 94) (by decide +kernel), List.mem_of_getElem? (i := 109) (by decide +kernel), List.mem_of_getElem? (i := 110) (by decide +kernel)⟩
theorem lw_p3 : lw_okq (⟨"NightWater$Zones", "lowHour", "(I)I"⟩, 7) := ⟨⟨by decide +kernel, by decide +kernel⟩, List.mem_of_getElem? (i := 20) (by decide +kernel), List.mem_of_getElem? (i := 201) (by decide +kernel), List.mem_of_getElem? (i := 202) (by decide +kernel)⟩
theorem lw_p4 : lw_okq (⟨"NightWater$Zones", "greatestNet", "(II)I"⟩, 7) := ⟨⟨by decide +kernel, by decide +kernel⟩, List.mem_of_getElem? (i := 20) (by decide +kernel), List.mem_of_getElem? (i := 205) (by decide +kernel), List.mem_of_getElem? (i := 206) (by decide +kernel)⟩
theorem lw_p5 : lw_okq (⟨"NightWater$Zones", "greatestOf", "(I)I"⟩, 7) := ⟨⟨by decide +kernel, by decide +kernel⟩, List.mem_of_getElem? (i := 20) (by decide +kernel), List.mem_of_getElem? (i := 209) (by decide +kernel), List.mem_of_getElem? (i := 210) (by decide +kernel)⟩
theorem lw_p6 : lw_okq (⟨"NightWater$Zones", "leastOf", "(I)I"⟩, 7) := ⟨⟨by decide +kernel, by decide +kernel⟩, List.mem_of_getElem? (i := 20) (by decide +kernel), List.mem_of_getElem? (i := 213) (by decide +kernel), List.mem_of_getElem? (i := 214) (by decide +kernel)⟩
theorem lw_p7 : lw_okq (⟨"NightWater$Zones", "leastNet", "(II)I"⟩, 7) := ⟨⟨by decide +kernel, by decide +kernel⟩, List.mem_of_getElem? (i := 20) (by decide +kernel), List.mem_of_getElem? (i := 217) (by decide +kernel), List.mem_of_getElem? (i := 218) (by decide +kernel)⟩
theorem lw_p8 : lw_okq (⟨"NightWater$Valves", "isNoSet", "(I)Z"⟩, 8) := ⟨⟨by decide +kernel, by decide +kernel⟩, List.mem_of_getElem? (i := 51) (by decide +kernel), List.mem_of_getElem? (i := 246) (by decide +kernel), List.mem_of_getElem? (i := 247) (by decide +kernel)⟩
theorem lw_p9 : lw_okq (⟨"NightWater$Valves", "allValves", "()I"⟩, 8) := ⟨⟨by decide +kernel, by decide +kernel⟩, List.mem_of_getElem? (i := 51) (by decide +kernel), List.mem_of_getElem? (i := 250) (by decide +kernel), List.mem_of_getElem? (i := 251) (by decide +kernel)⟩
theorem lw_p10 : lw_okq (⟨"NightWater$Valves", "putTogether", "(I)V"⟩, 8) := ⟨⟨by decide +kernel, by decide +kernel⟩, List.mem_of_getElem? (i := 51) (by decide +kernel), List.mem_of_getElem? (i := 255) (by decide +kernel), List.mem_of_getElem? (i := 256) (by decide +kernel)⟩
theorem lw_p11 : lw_okq (⟨"NightWater$Valves", "join", "(II)V"⟩, 8) := ⟨⟨by decide +kernel, by decide +kernel⟩, List.mem_of_getElem? (i := 51) (by decide +kernel), List.mem_of_getElem? (i := 263) (by decide +kernel), List.mem_of_getElem? (i := 264) (by decide +kernel)⟩
theorem lw_p12 : lw_okq (⟨"NightWater$Valves", "reckonLeaks", "()V"⟩, 8) := ⟨⟨by decide +kernel, by decide +kernel⟩, List.mem_of_getElem? (i := 51) (by decide +kernel), List.mem_of_getElem? (i := 281) (by decide +kernel), List.mem_of_getElem? (i := 282) (by decide +kernel)⟩
theorem lw_p13 : lw_okq (⟨"NightWater$Valves", "isExplained", "(I)Z"⟩, 8) := ⟨⟨by decide +kernel, by decide +kernel⟩, List.mem_of_getElem? (i := 51) (by decide +kernel), List.mem_of_getElem? (i := 286) (by decide +kernel), List.mem_of_getElem? (i := 287) (by decide +kernel)⟩
theorem lw_p14 : lw_okq (⟨"NightWater$Listeners", "sumAt", "(I)I"⟩, 1) := ⟨⟨by decide +kernel, by decide +kernel⟩, List.mem_of_getElem? (i := 83) (by decide +kernel), List.mem_of_getElem? (i := 331) (by decide +kernel), List.mem_of_getElem? (i := 332) (by decide +kernel)⟩
theorem lw_p15 : lw_okq (⟨"NightWater$Listeners", "isPair", "(II)Z"⟩, 1) := ⟨⟨by decide +kernel, by decide +kernel⟩, List.mem_of_getElem? (i := 83) (by decide +kernel), List.mem_of_getElem? (i := 335) (by decide +kernel), List.mem_of_getElem? (i := 336) (by decide +kernel)⟩
def lw_privs_1 : List (MethodName × Nat) := [(⟨"NightWater$Steps", "planAll", "()V"⟩, 4), (⟨"NightWater$Steps", "planStretch", "(III)V"⟩, 4), (⟨"NightWater$Steps", "costOfParts", "(III)I"⟩, 4), (⟨"NightWater$Zones", "lowHour", "(I)I"⟩, 7), (⟨"NightWater$Zones", "greatestNet", "(II)I"⟩, 7), (⟨"NightWater$Zones", "greatestOf", "(I)I"⟩, 7), (⟨"NightWater$Zones", "leastOf", "(I)I"⟩, 7), (⟨"NightWater$Zones", "leastNet", "(II)I"⟩, 7), (⟨"NightWater$Valves", "isNoSet", "(I)Z"⟩, 8), (⟨"NightWater$Valves", "allValves", "()I"⟩, 8), (⟨"NightWater$Valves", "putTogether", "(I)V"⟩, 8), (⟨"NightWater$Valves", "join", "(II)V"⟩, 8), (⟨"NightWater$Valves", "reckonLeaks", "()V"⟩, 8), (⟨"NightWater$Valves", "isExplained", "(I)Z"⟩, 8), (⟨"NightWater$Listeners", "sumAt", "(I)I"⟩, 1), (⟨"NightWater$Listeners", "isPair", "(II)Z"⟩, 1)]
theorem lw_r1 : ∀ q ∈ lw_privs_1, lw_okq q := List.forall_mem_cons.mpr ⟨lw_p0, List.forall_mem_cons.mpr ⟨lw_p1, List.forall_mem_cons.mpr ⟨lw_p2, List.forall_mem_cons.mpr ⟨lw_p3, List.forall_mem_cons.mpr ⟨lw_p4, List.forall_mem_cons.mpr ⟨lw_p5, List.forall_mem_cons.mpr ⟨lw_p6, List.forall_mem_cons.mpr ⟨lw_p7, List.forall_mem_cons.mpr ⟨lw_p8, List.forall_mem_cons.mpr ⟨lw_p9, List.forall_mem_cons.mpr ⟨lw_p10, List.forall_mem_cons.mpr ⟨lw_p11, List.forall_mem_cons.mpr ⟨lw_p12, List.forall_mem_cons.mpr ⟨lw_p13, List.forall_mem_cons.mpr ⟨lw_p14, List.forall_mem_cons.mpr ⟨lw_p15, fun _ h => absurd h List.not_mem_nil⟩⟩⟩⟩⟩⟩⟩⟩⟩⟩⟩⟩⟩⟩⟩⟩
theorem lw_p16 : lw_okq (⟨"NightWater$Listeners", "pairsAt", "(I)I"⟩, 1) := ⟨⟨by decide +kernel, by decide +kernel⟩, List.mem_of_getElem? (i := 83) (by decide +kernel), List.mem_of_getElem? (i := 339) (by decide +kernel), List.mem_of_getElem? (i := 340) (by decide +kernel)⟩
theorem lw_p17 : lw_okq (⟨"NightWater$Listeners", "bestDelayAwayFrom", "(I)I"⟩, 1) := ⟨⟨by decide +kernel, by decide +kernel⟩, List.mem_of_getElem? (i := 83) (by decide +kernel), List.mem_of_getElem? (i := 351) (by decide +kernel), List.mem_of_getElem? (i := 352) (by decide +kernel)⟩
theorem lw_p18 : lw_okq (⟨"NightWater$Steps", "isNoStretch", "(II)Z"⟩, 4) := ⟨⟨by decide +kernel, by decide +kernel⟩, List.mem_of_getElem? (i := 94) (by decide +kernel), List.mem_of_getElem? (i := 390) (by decide +kernel), List.mem_of_getElem? (i := 391) (by decide +kernel)⟩
theorem lw_p19 : lw_okq (⟨"NightWater$Digs", "rankNext", "(I)V"⟩, 4) := ⟨⟨by decide +kernel, by decide +kernel⟩, List.mem_of_getElem? (i := 126) (by decide +kernel), List.mem_of_getElem? (i := 419) (by decide +kernel), List.mem_of_getElem? (i := 420) (by decide +kernel)⟩
theorem lw_p20 : lw_okq (⟨"NightWater$Digs", "goesAhead", "(II)Z"⟩, 4) := ⟨⟨by decide +kernel, by decide +kernel⟩, List.mem_of_getElem? (i := 126) (by decide +kernel), List.mem_of_getElem? (i := 423) (by decide +kernel), List.mem_of_getElem? (i := 424) (by decide +kernel)⟩
theorem lw_p21 : lw_okq (⟨"NightWaterModel", "isZone", "(I)Z"⟩, 23) := ⟨⟨by decide +kernel, by decide +kernel⟩, List.mem_of_getElem? (i := 527) (by decide +kernel), List.mem_of_getElem? (i := 618) (by decide +kernel), List.mem_of_getElem? (i := 619) (by decide +kernel)⟩
theorem lw_p22 : lw_okq (⟨"NightWaterModel", "findLow", "(I)Z"⟩, 23) := ⟨⟨by decide +kernel, by decide +kernel⟩, List.mem_of_getElem? (i := 527) (by decide +kernel), List.mem_of_getElem? (i := 626) (by decide +kernel), List.mem_of_getElem? (i := 627) (by decide +kernel)⟩
theorem lw_p23 : lw_okq (⟨"NightWaterModel", "greatest", "(I)I"⟩, 23) := ⟨⟨by decide +kernel, by decide +kernel⟩, List.mem_of_getElem? (i := 527) (by decide +kernel), List.mem_of_getElem? (i := 630) (by decide +kernel), List.mem_of_getElem? (i := 631) (by decide +kernel)⟩
theorem lw_p24 : lw_okq (⟨"NightWaterModel", "least", "(I)I"⟩, 23) := ⟨⟨by decide +kernel, by decide +kernel⟩, List.mem_of_getElem? (i := 527) (by decide +kernel), List.mem_of_getElem? (i := 634) (by decide +kernel), List.mem_of_getElem? (i := 635) (by decide +kernel)⟩
theorem lw_p25 : lw_okq (⟨"NightWaterModel", "leaksOf", "(II)I"⟩, 23) := ⟨⟨by decide +kernel, by decide +kernel⟩, List.mem_of_getElem? (i := 527) (by decide +kernel), List.mem_of_getElem? (i := 643) (by decide +kernel), List.mem_of_getElem? (i := 644) (by decide +kernel)⟩
theorem lw_p26 : lw_okq (⟨"NightWaterModel", "isSet", "(I)Z"⟩, 23) := ⟨⟨by decide +kernel, by decide +kernel⟩, List.mem_of_getElem? (i := 527) (by decide +kernel), List.mem_of_getElem? (i := 655) (by decide +kernel), List.mem_of_getElem? (i := 656) (by decide +kernel)⟩
theorem lw_p27 : lw_okq (⟨"NightWaterModel", "findGroups", "(I)V"⟩, 23) := ⟨⟨by decide +kernel, by decide +kernel⟩, List.mem_of_getElem? (i := 527) (by decide +kernel), List.mem_of_getElem? (i := 659) (by decide +kernel), List.mem_of_getElem? (i := 660) (by decide +kernel)⟩
theorem lw_p28 : lw_okq (⟨"NightWaterModel", "doesExplain", "(I)Z"⟩, 23) := ⟨⟨by decide +kernel, by decide +kernel⟩, List.mem_of_getElem? (i := 527) (by decide +kernel), List.mem_of_getElem? (i := 667) (by decide +kernel), List.mem_of_getElem? (i := 668) (by decide +kernel)⟩
theorem lw_p29 : lw_okq (⟨"NightWaterModel", "sumOf", "(I)I"⟩, 23) := ⟨⟨by decide +kernel, by decide +kernel⟩, List.mem_of_getElem? (i := 527) (by decide +kernel), List.mem_of_getElem? (i := 690) (by decide +kernel), List.mem_of_getElem? (i := 691) (by decide +kernel)⟩
theorem lw_p30 : lw_okq (⟨"NightWaterModel", "isBoth", "(II)Z"⟩, 23) := ⟨⟨by decide +kernel, by decide +kernel⟩, List.mem_of_getElem? (i := 527) (by decide +kernel), List.mem_of_getElem? (i := 694) (by decide +kernel), List.mem_of_getElem? (i := 695) (by decide +kernel)⟩
theorem lw_p31 : lw_okq (⟨"NightWaterModel", "countOf", "(I)I"⟩, 23) := ⟨⟨by decide +kernel, by decide +kernel⟩, List.mem_of_getElem? (i := 527) (by decide +kernel), List.mem_of_getElem? (i := 698) (by decide +kernel), List.mem_of_getElem? (i := 699) (by decide +kernel)⟩
def lw_privs_2 : List (MethodName × Nat) := [(⟨"NightWater$Listeners", "pairsAt", "(I)I"⟩, 1), (⟨"NightWater$Listeners", "bestDelayAwayFrom", "(I)I"⟩, 1), (⟨"NightWater$Steps", "isNoStretch", "(II)Z"⟩, 4), (⟨"NightWater$Digs", "rankNext", "(I)V"⟩, 4), (⟨"NightWater$Digs", "goesAhead", "(II)Z"⟩, 4), (⟨"NightWaterModel", "isZone", "(I)Z"⟩, 23), (⟨"NightWaterModel", "findLow", "(I)Z"⟩, 23), (⟨"NightWaterModel", "greatest", "(I)I"⟩, 23), (⟨"NightWaterModel", "least", "(I)I"⟩, 23), (⟨"NightWaterModel", "leaksOf", "(II)I"⟩, 23), (⟨"NightWaterModel", "isSet", "(I)Z"⟩, 23), (⟨"NightWaterModel", "findGroups", "(I)V"⟩, 23), (⟨"NightWaterModel", "doesExplain", "(I)Z"⟩, 23), (⟨"NightWaterModel", "sumOf", "(I)I"⟩, 23), (⟨"NightWaterModel", "isBoth", "(II)Z"⟩, 23), (⟨"NightWaterModel", "countOf", "(I)I"⟩, 23)]
theorem lw_r2 : ∀ q ∈ lw_privs_2, lw_okq q := List.forall_mem_cons.mpr ⟨lw_p16, List.forall_mem_cons.mpr ⟨lw_p17, List.forall_mem_cons.mpr ⟨lw_p18, List.forall_mem_cons.mpr ⟨lw_p19, List.forall_mem_cons.mpr ⟨lw_p20, List.forall_mem_cons.mpr ⟨lw_p21, List.forall_mem_cons.mpr ⟨lw_p22, List.forall_mem_cons.mpr ⟨lw_p23, List.forall_mem_cons.mpr ⟨lw_p24, List.forall_mem_cons.mpr ⟨lw_p25, List.forall_mem_cons.mpr ⟨lw_p26, List.forall_mem_cons.mpr ⟨lw_p27, List.forall_mem_cons.mpr ⟨lw_p28, List.forall_mem_cons.mpr ⟨lw_p29, List.forall_mem_cons.mpr ⟨lw_p30, List.forall_mem_cons.mpr ⟨lw_p31, fun _ h => absurd h List.not_mem_nil⟩⟩⟩⟩⟩⟩⟩⟩⟩⟩⟩⟩⟩⟩⟩⟩
theorem lw_p32 : lw_okq (⟨"NightWaterModel", "delayBut", "(I)I"⟩, 23) := ⟨⟨by decide +kernel, by decide +kernel⟩, List.mem_of_getElem? (i := 527) (by decide +kernel), List.mem_of_getElem? (i := 706) (by decide +kernel), List.mem_of_getElem? (i := 707) (by decide +kernel)⟩
theorem lw_p33 : lw_okq (⟨"NightWaterModel", "isSpan", "(II)Z"⟩, 23) := ⟨⟨by decide +kernel, by decide +kernel⟩, List.mem_of_getElem? (i := 527) (by decide +kernel), List.mem_of_getElem? (i := 723) (by decide +kernel), List.mem_of_getElem? (i := 724) (by decide +kernel)⟩
theorem lw_p34 : lw_okq (⟨"NightWaterModel", "plans", "()V"⟩, 23) := ⟨⟨by decide +kernel, by decide +kernel⟩, List.mem_of_getElem? (i := 527) (by decide +kernel), List.mem_of_getElem? (i := 727) (by decide +kernel), List.mem_of_getElem? (i := 728) (by decide +kernel)⟩
theorem lw_p35 : lw_okq (⟨"NightWaterModel", "sorts", "()V"⟩, 23) := ⟨⟨by decide +kernel, by decide +kernel⟩, List.mem_of_getElem? (i := 527) (by decide +kernel), List.mem_of_getElem? (i := 751) (by decide +kernel), List.mem_of_getElem? (i := 752) (by decide +kernel)⟩
def lw_privs_3 : List (MethodName × Nat) := [(⟨"NightWaterModel", "delayBut", "(I)I"⟩, 23), (⟨"NightWaterModel", "isSpan", "(II)Z"⟩, 23), (⟨"NightWaterModel", "plans", "()V"⟩, 23), (⟨"NightWaterModel", "sorts", "()V"⟩, 23)]
theorem lw_r3 : ∀ q ∈ lw_privs_3, lw_okq q := List.forall_mem_cons.mpr ⟨lw_p32, List.forall_mem_cons.mpr ⟨lw_p33, List.forall_mem_cons.mpr ⟨lw_p34, List.forall_mem_cons.mpr ⟨lw_p35, fun _ h => absurd h List.not_mem_nil⟩⟩⟩⟩
def lw_privs : List (MethodName × Nat) := lw_privs_1 ++ (lw_privs_2 ++ (lw_privs_3))
def lw_tbl : List Cond := k2_sels lw_privs ++ tables_1
theorem lw_privs_ok : ∀ q ∈ lw_privs, lw_okq q := by
  show ∀ q ∈ lw_privs_1 ++ (lw_privs_2 ++ (lw_privs_3)), lw_okq q
  exact List.forall_mem_append.mpr ⟨lw_r1, List.forall_mem_append.mpr ⟨lw_r2, lw_r3⟩⟩
-- ===== end of PART A; then your names; then what follows =====
end
section
/-! ===== BEGIN words of one list among another's, by their places ===== -/
theorem goodIn_r {big : List Cond} (ws : List Cond) (ps : List Nat) (hp : ws = ps.filterMap (fun i => big[i]?)) (h : ws.all goodWord = true) : GoodIn big ws := by
  intro w hw
  have h1 := List.all_eq_true.mp h w hw
  rw [hp] at hw
  obtain ⟨i, -, hi⟩ := List.mem_filterMap.mp hw
  have hm : w ∈ big := by first | exact List.mem_of_getElem? hi | exact List.getElem?_mem hi
  exact ⟨hm, good_of_word h1⟩
theorem goodIn_app {big a b : List Cond} (ha : GoodIn big a) (hb : GoodIn big b) : GoodIn big (a ++ b) := fun w h => (List.mem_append.mp h).elim (ha w) (hb w)
theorem goodIn_ca {big a b : List Cond} {c : Cond} (ha : GoodIn big (c :: a)) (hb : GoodIn big b) : GoodIn big (c :: (a ++ b)) := fun w h => (List.mem_cons.mp h).elim (fun e => ha w (List.mem_cons.mpr (Or.inl e))) (fun h => (List.mem_append.mp h).elim (fun h => ha w (List.mem_cons.mpr (Or.inr h))) (hb w))
theorem goodIn_sub {big ws : List Cond} (hm : ∀ w ∈ ws, w ∈ big) (h : ws.all goodWord = true) : GoodIn big ws := fun w hw => ⟨hm w hw, good_of_word (List.all_eq_true.mp h w hw)⟩
/-! ===== END ===== -/

/-! ===== BEGIN new T[n][m]: the outer array a place, the inner ones among the pooled ===== -/
/-- f, but v at every address of l -/
def vr_up {α : Type} (f : Nat → α) (l : List Nat) (v : α) : Nat → α := fun a => if a ∈ l then v else f a
theorem vr_up_in {α : Type} {f : Nat → α} {l : List Nat} {v : α} {a : Nat} (h : a ∈ l) : vr_up f l v a = v := if_pos h
theorem vr_up_ne {α : Type} {f : Nat → α} {l : List Nat} {v : α} {a : Nat} (h : a ∉ l) : vr_up f l v a = f a := if_neg h
theorem vr_rows {L l : List Nat} {f : Nat → va_E} {e : va_E} (h : ∀ a, a ∈ l → a ∉ L) : va_pl L f ++ l.map (fun a => (a, e)) = va_pl (L ++ l) (vr_up f l e) := by
  unfold va_pl
  rw [List.map_append]
  congr 1
  · apply List.map_congr_left
    intro a ha
    rw [vr_up_ne (fun q => h a q ha)]
  · apply List.map_congr_left
    intro a ha
    rw [vr_up_in ha]
theorem vr_lay {X rows : va_W} {x : Nat × va_E} {pl : va_W} {D : va_G} {cl : List vw_C} {H : Heap} (hP : va_P D cl (((X ++ pl) ++ [x]) ++ rows) H) : va_P D cl ((X ++ [x]) ++ (pl ++ rows)) H := by
  rw [List.append_assoc (X ++ pl)] at hP
  have h := va_P.swap hP
  rw [← List.append_assoc X] at h
  have h2 := va_P.swap h
  rw [List.append_assoc (X ++ [x])] at h2
  exact h2
theorem vr_layD {X rows : va_W} {x : Nat × va_E} {pl : va_W} {A : Nat → Prop} (hD : va_D A (((X ++ pl) ++ [x]) ++ rows)) : va_D A ((X ++ [x]) ++ (pl ++ rows)) := by
  rw [List.append_assoc (X ++ pl)] at hD
  have h := va_D.swap hD
  rw [← List.append_assoc X] at h
  have h2 := va_D.swap h
  rw [List.append_assoc (X ++ [x])] at h2
  exact h2
theorem vr_outer (c : ClassId) (N h0 : Nat) : ∀ i : Nat, Jvm.Free.Multi.outerC c N h0 i = arrV c N (fun j => va_rf (if j < i then some (h0 + 1 + j) else none))
  | 0 => by
    show ({ cls := c, slots := Array.replicate N .null, vm := .none } : Cell) = _
    rw [arrV_new]
    refine congrArg (arrV c N) (funext fun j => ?_)
    simp [va_rf]
  | i + 1 => by
    show (Jvm.Free.Multi.outerC c N h0 i).setSlot i (.ref (h0 + 1 + i)) = _
    rw [vr_outer c N h0 i, arrV_store]
    refine congrArg (arrV c N) (funext fun j => ?_)
    by_cases e : j = i
    · subst e
      simp [updV, va_rf]
    · by_cases h : j < i
      · simp [updV, e, h, Nat.lt_succ_of_lt h]
      · simp [updV, e, h, show ¬ j < i + 1 by omega]
/-- what the tables say of arrays of arrays (the printed rows use this name; no text here had it) -/
def va_AOA (ty : FieldType) (U : State) : Prop := (Cond.arrayOver (.array ty)).before #[] U = true
theorem va_AOA.use {ty : FieldType} {A : Array Value} {U : State} (h : va_AOA ty U) : (Cond.arrayOver (.array ty)).before A U = true := h
section VGM
variable {p : Program} {l : Launch} {e : Env} {R : Room} {s : State} {m : MethodId} {args : Array Value} {below : List Frame} {meth : Method} {c : Code} {H : Heap} {locs : List Loc} {cells slots : Nat} {Q : State → Prop}
variable {cc : ByteArray} {pc : Nat} {ls : Array Slot} {rest : List Value} {D : va_G} {cl : List vw_C} {A : Nat → Prop} {a : Nat} {tys : List (ClassId × FieldType)} {ws : va_W} {H0 : Heap}
theorem va_mna {X : va_W} {L : List Nat} {f : Nat → va_E} {cc : ByteArray} (hexec : p.tables.exec = Jvm.exec) (hb : c.code = cc) {own : String} {index : Nat} {ty : FieldType} {cy : ClassId} (hown : s.vm.findClass own = some m.cls) (hclink : (Cond.classLink own index ("[" ++ (FieldType.array ty).toString)).before args s = true) (hover : va_AOA ty s) (harr : (Cond.arrayClass ty).before args s = true) (hcy : s.vm.findClass (FieldType.array ty).toString = some cy)
    (hK : va_K D cl tys s) (hP : va_P D cl (X ++ va_pl L f) H) (hD : va_D A (X ++ va_pl L f)) (hS : va_S A H0 H locs) (hA : ∀ q, H0.size ≤ q → A q) {n k : Int32} {N' K' : Nat} {z : vp_A} (hn : ¬ n < 0) (hk : ¬ k < 0) (hN : n.toNatClampNeg = N') (hM : k.toNatClampNeg = K')
    (hb1 : N' * 4 ≤ 536870912) (hb2 : K' * componentBytes ty ≤ 536870912) (hb3 : K' ≤ 536870912) (hdf : fits ty (defaultValue ty) = true) (hdd : (defaultValue ty).isDefault = true) (hcells : cells + (1 + N') ≤ R.cells) (hslots : slots + (N' + N' * K') ≤ R.slots) (hz : ∀ c : ClassId, Jvm.Free.Multi.innerC c K' (defaultValue ty) = vp_cell c z) (hdg : decode cc pc = .ok (.multianewarray index 2, 4))
    (kk : ∀ (q : Nat) (r : Nat → Nat) (cA : ClassId) (H1 : Heap), (∀ i j : Nat, i < N' → j < N' → r i = r j → i = j) → (∀ i : Nat, i < N' → r i ∉ L) → va_K D cl (tys ++ [(cA, .array ty)]) s →
      va_P D cl ((X ++ [(q, .inl (cA, N', .inr (.inr (.inr (.inr (fun i => if i < N' then some (r i) else none))))))]) ++ va_pl (L ++ (List.range N').map r) (vr_up f ((List.range N').map r) (.inl (cy, z)))) H1 → va_D A ((X ++ [(q, .inl (cA, N', .inr (.inr (.inr (.inr (fun i => if i < N' then some (r i) else none))))))]) ++ va_pl (L ++ (List.range N').map r) (vr_up f ((List.range N').map r) (.inl (cy, z)))) → va_S A H0 H1 locs →
      W p l e R s m args below meth c H1 locs (cells + 1 + N') (slots + N' + N' * K') Q (F0 m (pc + 4) ls (.ref q :: rest))) : W p l e R s m args below meth c H locs cells slots Q (F0 m pc ls (.int k :: .int n :: rest)) := by
  subst hN
  subst hM
  intro T hT Xs
  obtain ⟨vm₁, cA, comp, -, fA, fC, hO, -, X', step⟩ := Xs.multianewarray2F hexec hown hclink (va_AOA.use hover) harr (g := F0 m pc ls (.int k :: .int n :: rest)) rfl (by rw [hb]; exact hdg) rfl hn hk hb1 hb2 hb3 hdf hdd hcells hslots
  have ec : some cy = some comp := hcy.symm.trans fC
  cases ec
  generalize hF : Jvm.Free.Multi.fill (T.setVm vm₁) cA cy n.toNatClampNeg k.toNatClampNeg (defaultValue ty) n.toNatClampNeg = F at X' step
  have hTh : (T.setVm vm₁).heap = H := hT
  obtain ⟨f1, f2, -, -⟩ := Jvm.Free.Multi.fill_facts (T.setVm vm₁) cA cy n.toNatClampNeg k.toNatClampNeg (defaultValue ty) n.toNatClampNeg
  rw [hF, hTh] at f1 f2
  have hold : ∀ x : Nat, x < H.size → F.heap[x]? = H[x]? := fun x hx => by
    have := Jvm.Free.Multi.fill_old (T.setVm vm₁) cA cy n.toNatClampNeg k.toNatClampNeg (defaultValue ty) (a := x) (by rw [hTh]; exact hx) n.toNatClampNeg
    rw [hF, hTh] at this
    exact this
  have hrow : ∀ j : Nat, j < n.toNatClampNeg → F.heap[H.size + 1 + j]? = some (vp_cell cy z) := fun j hj => by
    have := Jvm.Free.Multi.fill_inner (T.setVm vm₁) cA cy n.toNatClampNeg k.toNatClampNeg (defaultValue ty) n.toNatClampNeg j hj
    rw [hF, hTh, hz] at this
    exact this
  have hout : Jvm.Free.Multi.outerC cA n.toNatClampNeg H.size n.toNatClampNeg = vp_cell cA (n.toNatClampNeg, .inr (.inr (.inr (.inr (fun i => if i < n.toNatClampNeg then some (H.size + 1 + i) else none))))) := by
    rw [vp_cell_q]
    exact vr_outer cA n.toNatClampNeg H.size n.toNatClampNeg
  rw [hout] at f2
  have hlt : ∀ a, a ∈ L → a < H.size := fun a ha => by
    obtain ⟨k9, hk9⟩ := va_pl_get (X := X) (f := f) ha
    exact (hP k9 _ hk9).lt
  have hnl : ∀ i : Nat, i < n.toNatClampNeg → H.size + 1 + i ∉ L := fun i _ h => by
    have := hlt _ h
    omega
  have hnm : ∀ a, a ∈ (List.range n.toNatClampNeg).map (fun i => H.size + 1 + i) → a ∉ L := fun a ha h => by
    obtain ⟨i, -, rfl⟩ := List.mem_map.mp ha
    have := hlt _ h
    omega
  have hP0 : va_P D cl (X ++ va_pl L f) F.heap := hP.kept (fun k9 x hx => hold x.1 ((hP k9 x hx).lt))
  have hP1 : va_P D cl ((X ++ va_pl L f) ++ [(H.size, .inl (cA, n.toNatClampNeg, .inr (.inr (.inr (.inr (fun i => if i < n.toNatClampNeg then some (H.size + 1 + i) else none))))))]) F.heap := hP0.app (fun k9 x hx => by
    have h0 : k9 < 1 := (List.getElem?_eq_some_iff.mp hx).1
    rw [show k9 = 0 by omega] at hx
    cases hx
    exact f2)
  have hP2 : va_P D cl (((X ++ va_pl L f) ++ [(H.size, .inl (cA, n.toNatClampNeg, .inr (.inr (.inr (.inr (fun i => if i < n.toNatClampNeg then some (H.size + 1 + i) else none))))))]) ++ ((List.range n.toNatClampNeg).map (fun i => H.size + 1 + i)).map (fun a => (a, .inl (cy, z)))) F.heap := hP1.app (fun k9 x hx => by
    obtain ⟨a, ha, rfl⟩ := List.mem_map.mp (List.mem_of_getElem? hx)
    obtain ⟨i, hi, rfl⟩ := List.mem_map.mp ha
    exact hrow i (List.mem_range.mp hi))
  have hD2 : va_D A (((X ++ va_pl L f) ++ [(H.size, .inl (cA, n.toNatClampNeg, .inr (.inr (.inr (.inr (fun i => if i < n.toNatClampNeg then some (H.size + 1 + i) else none))))))]) ++ ((List.range n.toNatClampNeg).map (fun i => H.size + 1 + i)).map (fun a => (a, .inl (cy, z)))) := by
    have hD1 := hD.push (e := .inl (cA, n.toNatClampNeg, .inr (.inr (.inr (.inr (fun i => if i < n.toNatClampNeg then some (H.size + 1 + i) else none)))))) hP rfl (hA _ hS.1)
    generalize hW1 : (X ++ va_pl L f) ++ [(H.size, .inl (cA, n.toNatClampNeg, .inr (.inr (.inr (.inr (fun i => if i < n.toNatClampNeg then some (H.size + 1 + i) else none))))))] = W1 at hD1 hP1 ⊢
    have hle : ∀ (k9 : Nat) (x : Nat × va_E), W1[k9]? = some x → x.1 ≤ H.size := fun k9 x hx => by
      rw [← hW1] at hx
      by_cases hl : k9 < (X ++ va_pl L f).length
      · rw [List.getElem?_append_left hl] at hx
        exact Nat.le_of_lt ((hP k9 x hx).lt)
      · rw [List.getElem?_append_right (by omega)] at hx
        have h0 : k9 - (X ++ va_pl L f).length < 1 := (List.getElem?_eq_some_iff.mp hx).1
        rw [show k9 - (X ++ va_pl L f).length = 0 by omega] at hx
        cases hx
        exact Nat.le_refl _
    have hr : ∀ (k9 : Nat) (x : Nat × va_E), (((List.range n.toNatClampNeg).map (fun i => H.size + 1 + i)).map (fun a => ((a, .inl (cy, z)) : Nat × va_E)))[k9]? = some x → x.1 = H.size + 1 + k9 := fun k9 x hx => by
      rw [List.getElem?_map, List.getElem?_map] at hx
      by_cases h9 : k9 < n.toNatClampNeg
      · rw [List.getElem?_range h9] at hx
        cases hx
        rfl
      · have hn0 : (List.range n.toNatClampNeg)[k9]? = none := List.getElem?_eq_none (by rw [List.length_range]; omega)
        rw [hn0] at hx
        cases hx
    refine ⟨fun i j x y hi hj hxy => ?_, fun k9 x hx => ?_⟩
    · by_cases h1 : i < W1.length <;> by_cases h2 : j < W1.length
      · rw [List.getElem?_append_left h1] at hi
        rw [List.getElem?_append_left h2] at hj
        exact hD1.1 i j x y hi hj hxy
      · rw [List.getElem?_append_left h1] at hi
        rw [List.getElem?_append_right (by omega)] at hj
        have := hle _ _ hi
        have := hr _ _ hj
        omega
      · rw [List.getElem?_append_right (by omega)] at hi
        rw [List.getElem?_append_left h2] at hj
        have := hle _ _ hj
        have := hr _ _ hi
        omega
      · rw [List.getElem?_append_right (by omega)] at hi hj
        have := hr _ _ hi
        have := hr _ _ hj
        omega
    · by_cases h1 : k9 < W1.length
      · rw [List.getElem?_append_left h1] at hx
        exact hD1.2 k9 x hx
      · rw [List.getElem?_append_right (by omega)] at hx
        have := hr _ _ hx
        exact hA _ (by have := hS.1; omega)
  have hAr : ArrOfT s cA (.array ty) := fun N9 z9 => by
    obtain ⟨-, k9, hk9, cm9, hkk9⟩ := (hO 0 0 0).1
    exact ⟨(fun q hq => by cases hq), k9, hk9, cm9, hkk9⟩
  have hK2 : va_K D cl (tys ++ [(cA, .array ty)]) s := ⟨hK.1, fun k9 x hx => by
    by_cases hl : k9 < tys.length
    · rw [List.getElem?_append_left hl] at hx
      exact hK.2 k9 x hx
    · rw [List.getElem?_append_right (by omega)] at hx
      have h0 : k9 - tys.length < 1 := (List.getElem?_eq_some_iff.mp hx).1
      rw [show k9 - tys.length = 0 by omega] at hx
      cases hx
      exact ⟨hAr, fA⟩⟩
  obtain ⟨t, a1, b1⟩ := kk H.size (fun i => H.size + 1 + i) cA F.heap (fun i j _ _ h => by have h9 : H.size + 1 + i = H.size + 1 + j := h; omega) hnl hK2 (by rw [← vr_rows hnm]; exact vr_lay hP2) (by rw [← vr_rows hnm]; exact vr_layD hD2) ⟨by rw [f1]; have := hS.1; omega, fun x h1 h2 => (hold x (Nat.lt_of_lt_of_le h1 hS.1)).trans (hS.2.1 x h1 h2), hS.2.2⟩ F rfl X'
  refine ⟨t, step t ?_, b1⟩
  have e : T.heap.size = H.size := by rw [hT]
  rw [e]
  exact a1
end VGM
/-! ===== END ===== -/
end
section

/-! ===== BEGIN printed: names, fields, word lists, decode rows ===== -/
def RX0 : String := "NightWater$Digs"
def TX0 : u_T := fun k => match k with
  | 0 => ("NightWater$Digs", "losses", "[I", true)
  | 1 => ("NightWater$Digs", "durations", "[I", true)
  | 2 => ("NightWater$Digs", "ranked", "[I", true)
  | _ => ("NightWater$Digs", "size", "I", false)
def tyX0 : Nat → FieldType := fun k => match k with
  | 0 => .array .int
  | 1 => .array .int
  | 2 => .array .int
  | _ => .int
abbrev wsX00 : List Cond := u_ws RX0 TX0 4
theorem nmX0 : ∀ a, a < 4 → ∀ b, b < 4 → a ≠ b → (TX0 a).2.1 ≠ (TX0 b).2.1 := by decide +kernel
theorem tyX0_ok : ∀ k, k < 4 → parseFieldDescriptor (TX0 k).2.2.1 = some (tyX0 k) := by decide +kernel
abbrev cX0_init : ByteArray := prog_2_method_1_code
def yX0_init : MethodName := ⟨RX0, "<init>", "()V"⟩
abbrev cX0_number : ByteArray := prog_2_method_2_code
def yX0_number : MethodName := ⟨RX0, "number", "()I"⟩
abbrev cX0_add : ByteArray := prog_2_method_3_code
def yX0_add : MethodName := ⟨RX0, "add", "(II)I"⟩
abbrev cX0_removeAll : ByteArray := prog_2_method_4_code
def yX0_removeAll : MethodName := ⟨RX0, "removeAll", "()I"⟩
abbrev cX0_lostInOrder : ByteArray := prog_2_method_5_code
def yX0_lostInOrder : MethodName := ⟨RX0, "lostInOrder", "()I"⟩
abbrev cX0_inOrder : ByteArray := prog_2_method_6_code
def yX0_inOrder : MethodName := ⟨RX0, "inOrder", "(I)I"⟩
abbrev cX0_mixInto : ByteArray := prog_2_method_7_code
def yX0_mixInto : MethodName := ⟨RX0, "mixInto", "(J)J"⟩
abbrev cX0_rankNext : ByteArray := prog_2_method_8_code
def yX0_rankNext : MethodName := ⟨RX0, "rankNext", "(I)V"⟩
abbrev cX0_goesAhead : ByteArray := prog_2_method_9_code
def yX0_goesAhead : MethodName := ⟨RX0, "goesAhead", "(II)Z"⟩
def RX1 : String := "NightWater$Listeners"
def TX1 : u_T := fun k => match k with
  | _ => ("NightWater$Listeners", "rows", "[[I", true)
def tyX1 : Nat → FieldType := fun k => match k with
  | _ => .array (.array .int)
abbrev wsX10 : List Cond := u_ws RX1 TX1 1
theorem nmX1 : ∀ a, a < 1 → ∀ b, b < 1 → a ≠ b → (TX1 a).2.1 ≠ (TX1 b).2.1 := by decide +kernel
theorem tyX1_ok : ∀ k, k < 1 → parseFieldDescriptor (TX1 k).2.2.1 = some (tyX1 k) := by decide +kernel
abbrev cX1_init : ByteArray := prog_3_method_1_code
def yX1_init : MethodName := ⟨RX1, "<init>", "()V"⟩
abbrev cX1_setSample : ByteArray := prog_3_method_2_code
def yX1_setSample : MethodName := ⟨RX1, "setSample", "(III)I"⟩
abbrev cX1_copySamples : ByteArray := prog_3_method_3_code
def yX1_copySamples : MethodName := ⟨RX1, "copySamples", "(IIII)I"⟩
abbrev cX1_sumPart : ByteArray := prog_3_method_4_code
def yX1_sumPart : MethodName := ⟨RX1, "sumPart", "(II)I"⟩
abbrev cX1_findDelay : ByteArray := prog_3_method_5_code
def yX1_findDelay : MethodName := ⟨RX1, "findDelay", "(Z)I"⟩
abbrev cX1_twicePlace : ByteArray := prog_3_method_6_code
def yX1_twicePlace : MethodName := ⟨RX1, "twicePlace", "(IIII)I"⟩
abbrev cX1_samplesLost : ByteArray := prog_3_method_7_code
def yX1_samplesLost : MethodName := ⟨RX1, "samplesLost", "()I"⟩
abbrev cX1_mixInto : ByteArray := prog_3_method_8_code
def yX1_mixInto : MethodName := ⟨RX1, "mixInto", "(J)J"⟩
abbrev cX1_bestDelayAwayFrom : ByteArray := prog_3_method_9_code
def yX1_bestDelayAwayFrom : MethodName := ⟨RX1, "bestDelayAwayFrom", "(I)I"⟩
abbrev cX1_sumAt : ByteArray := prog_3_method_10_code
def yX1_sumAt : MethodName := ⟨RX1, "sumAt", "(I)I"⟩
abbrev cX1_pairsAt : ByteArray := prog_3_method_11_code
def yX1_pairsAt : MethodName := ⟨RX1, "pairsAt", "(I)I"⟩
abbrev cX1_isPair : ByteArray := prog_3_method_12_code
def yX1_isPair : MethodName := ⟨RX1, "isPair", "(II)Z"⟩
abbrev cX1_onPipe : ByteArray := prog_3_method_13_code
def yX1_onPipe : MethodName := ⟨RX1, "onPipe", "(II)I"⟩
def RX2 : String := "NightWater$Pressure"
def TX2 : u_T := fun k => match k with
  | _ => ("", "", "", false)
def tyX2 : Nat → FieldType := fun k => match k with
  | _ => .int
abbrev wsX20 : List Cond := u_ws RX2 TX2 0
theorem nmX2 : ∀ a, a < 0 → ∀ b, b < 0 → a ≠ b → (TX2 a).2.1 ≠ (TX2 b).2.1 := by decide +kernel
theorem tyX2_ok : ∀ k, k < 0 → parseFieldDescriptor (TX2 k).2.2.1 = some (tyX2 k) := by decide +kernel
abbrev cX2_leakAt : ByteArray := prog_4_method_2_code
def yX2_leakAt : MethodName := ⟨RX2, "leakAt", "(III)I"⟩
abbrev cX2_pull : ByteArray := prog_4_method_3_code
def yX2_pull : MethodName := ⟨RX2, "pull", "(I)J"⟩
abbrev cX2_rootOf : ByteArray := prog_4_method_4_code
def yX2_rootOf : MethodName := ⟨RX2, "rootOf", "(I)I"⟩
def RX3 : String := "NightWater$Steps"
def TX3 : u_T := fun k => match k with
  | 0 => ("NightWater$Steps", "weights", "[I", true)
  | 1 => ("NightWater$Steps", "size", "I", false)
  | 2 => ("NightWater$Steps", "costs", "[[I", true)
  | _ => ("NightWater$Steps", "starts", "[[I", true)
def tyX3 : Nat → FieldType := fun k => match k with
  | 0 => .array .int
  | 1 => .int
  | 2 => .array (.array .int)
  | _ => .array (.array .int)
abbrev wsX30 : List Cond := u_ws RX3 TX3 4
theorem nmX3 : ∀ a, a < 4 → ∀ b, b < 4 → a ≠ b → (TX3 a).2.1 ≠ (TX3 b).2.1 := by decide +kernel
theorem tyX3_ok : ∀ k, k < 4 → parseFieldDescriptor (TX3 k).2.2.1 = some (tyX3 k) := by decide +kernel
abbrev cX3_init : ByteArray := prog_5_method_1_code
def yX3_init : MethodName := ⟨RX3, "<init>", "()V"⟩
abbrev cX3_number : ByteArray := prog_5_method_2_code
def yX3_number : MethodName := ⟨RX3, "number", "()I"⟩
abbrev cX3_setWeight : ByteArray := prog_5_method_3_code
def yX3_setWeight : MethodName := ⟨RX3, "setWeight", "(III)I"⟩
abbrev cX3_planCost : ByteArray := prog_5_method_4_code
def yX3_planCost : MethodName := ⟨RX3, "planCost", "(II)I"⟩
abbrev cX3_planStart : ByteArray := prog_5_method_5_code
def yX3_planStart : MethodName := ⟨RX3, "planStart", "(II)I"⟩
abbrev cX3_closingsFor : ByteArray := prog_5_method_6_code
def yX3_closingsFor : MethodName := ⟨RX3, "closingsFor", "(I)I"⟩
abbrev cX3_mixInto : ByteArray := prog_5_method_7_code
def yX3_mixInto : MethodName := ⟨RX3, "mixInto", "(J)J"⟩
abbrev cX3_isNoStretch : ByteArray := prog_5_method_8_code
def yX3_isNoStretch : MethodName := ⟨RX3, "isNoStretch", "(II)Z"⟩
abbrev cX3_planAll : ByteArray := prog_5_method_9_code
def yX3_planAll : MethodName := ⟨RX3, "planAll", "()V"⟩
abbrev cX3_planStretch : ByteArray := prog_5_method_10_code
def yX3_planStretch : MethodName := ⟨RX3, "planStretch", "(III)V"⟩
abbrev cX3_costOfParts : ByteArray := prog_5_method_11_code
def yX3_costOfParts : MethodName := ⟨RX3, "costOfParts", "(III)I"⟩
def RX4 : String := "NightWater$Valves"
def TX4 : u_T := fun k => match k with
  | 0 => ("NightWater$Valves", "zones", "LNightWater$Zones;", true)
  | 1 => ("NightWater$Valves", "from", "[I", true)
  | 2 => ("NightWater$Valves", "to", "[I", true)
  | 3 => ("NightWater$Valves", "size", "I", false)
  | 4 => ("NightWater$Valves", "zoneLeak", "[I", true)
  | 5 => ("NightWater$Valves", "leader", "[I", true)
  | 6 => ("NightWater$Valves", "groupLeak", "[I", true)
  | _ => ("NightWater$Valves", "untold", "[Z", true)
def tyX4 : Nat → FieldType := fun k => match k with
  | 0 => .object "NightWater$Zones"
  | 1 => .array .int
  | 2 => .array .int
  | 3 => .int
  | 4 => .array .int
  | 5 => .array .int
  | 6 => .array .int
  | _ => .array .boolean
abbrev wsX40 : List Cond := u_ws RX4 TX4 8
theorem nmX4 : ∀ a, a < 8 → ∀ b, b < 8 → a ≠ b → (TX4 a).2.1 ≠ (TX4 b).2.1 := by decide +kernel
theorem tyX4_ok : ∀ k, k < 8 → parseFieldDescriptor (TX4 k).2.2.1 = some (tyX4 k) := by decide +kernel
abbrev cX4_init : ByteArray := prog_6_method_1_code
def yX4_init : MethodName := ⟨RX4, "<init>", "(LNightWater$Zones;)V"⟩
abbrev cX4_number : ByteArray := prog_6_method_2_code
def yX4_number : MethodName := ⟨RX4, "number", "()I"⟩
abbrev cX4_add : ByteArray := prog_6_method_3_code
def yX4_add : MethodName := ⟨RX4, "add", "(II)I"⟩
abbrev cX4_leastOfGroup : ByteArray := prog_6_method_4_code
def yX4_leastOfGroup : MethodName := ⟨RX4, "leastOfGroup", "(II)I"⟩
abbrev cX4_answerExplains : ByteArray := prog_6_method_5_code
def yX4_answerExplains : MethodName := ⟨RX4, "answerExplains", "(I)I"⟩
abbrev cX4_fewestSet : ByteArray := prog_6_method_6_code
def yX4_fewestSet : MethodName := ⟨RX4, "fewestSet", "()I"⟩
abbrev cX4_mixInto : ByteArray := prog_6_method_7_code
def yX4_mixInto : MethodName := ⟨RX4, "mixInto", "(J)J"⟩
abbrev cX4_allValves : ByteArray := prog_6_method_8_code
def yX4_allValves : MethodName := ⟨RX4, "allValves", "()I"⟩
abbrev cX4_isNoSet : ByteArray := prog_6_method_9_code
def yX4_isNoSet : MethodName := ⟨RX4, "isNoSet", "(I)Z"⟩
abbrev cX4_reckonLeaks : ByteArray := prog_6_method_10_code
def yX4_reckonLeaks : MethodName := ⟨RX4, "reckonLeaks", "()V"⟩
abbrev cX4_isExplained : ByteArray := prog_6_method_11_code
def yX4_isExplained : MethodName := ⟨RX4, "isExplained", "(I)Z"⟩
abbrev cX4_putTogether : ByteArray := prog_6_method_12_code
def yX4_putTogether : MethodName := ⟨RX4, "putTogether", "(I)V"⟩
abbrev cX4_join : ByteArray := prog_6_method_13_code
def yX4_join : MethodName := ⟨RX4, "join", "(II)V"⟩
def RX5 : String := "NightWater$Zones"
def TX5 : u_T := fun k => match k with
  | 0 => ("NightWater$Zones", "customers", "[I", true)
  | 1 => ("NightWater$Zones", "bigs", "[I", true)
  | 2 => ("NightWater$Zones", "ins", "[[I", true)
  | 3 => ("NightWater$Zones", "outs", "[[I", true)
  | 4 => ("NightWater$Zones", "size", "I", false)
  | 5 => ("NightWater$Zones", "error", "I", false)
  | _ => ("NightWater$Zones", "use", "I", false)
def tyX5 : Nat → FieldType := fun k => match k with
  | 0 => .array .int
  | 1 => .array .int
  | 2 => .array (.array .int)
  | 3 => .array (.array .int)
  | 4 => .int
  | 5 => .int
  | _ => .int
abbrev wsX50 : List Cond := u_ws RX5 TX5 7
theorem nmX5 : ∀ a, a < 7 → ∀ b, b < 7 → a ≠ b → (TX5 a).2.1 ≠ (TX5 b).2.1 := by decide +kernel
theorem tyX5_ok : ∀ k, k < 7 → parseFieldDescriptor (TX5 k).2.2.1 = some (tyX5 k) := by decide +kernel
abbrev cX5_init : ByteArray := prog_7_method_1_code
def yX5_init : MethodName := ⟨RX5, "<init>", "()V"⟩
abbrev cX5_number : ByteArray := prog_7_method_2_code
def yX5_number : MethodName := ⟨RX5, "number", "()I"⟩
abbrev cX5_isNone : ByteArray := prog_7_method_3_code
def yX5_isNone : MethodName := ⟨RX5, "isNone", "(I)Z"⟩
abbrev cX5_add : ByteArray := prog_7_method_4_code
def yX5_add : MethodName := ⟨RX5, "add", "(II)I"⟩
abbrev cX5_setRules : ByteArray := prog_7_method_5_code
def yX5_setRules : MethodName := ⟨RX5, "setRules", "(II)I"⟩
abbrev cX5_setReading : ByteArray := prog_7_method_6_code
def yX5_setReading : MethodName := ⟨RX5, "setReading", "(IIZI)I"⟩
abbrev cX5_lowPart : ByteArray := prog_7_method_7_code
def yX5_lowPart : MethodName := ⟨RX5, "lowPart", "(II)I"⟩
abbrev cX5_leak : ByteArray := prog_7_method_8_code
def yX5_leak : MethodName := ⟨RX5, "leak", "(II)I"⟩
abbrev cX5_readingsLost : ByteArray := prog_7_method_9_code
def yX5_readingsLost : MethodName := ⟨RX5, "readingsLost", "()I"⟩
abbrev cX5_mixInto : ByteArray := prog_7_method_10_code
def yX5_mixInto : MethodName := ⟨RX5, "mixInto", "(J)J"⟩
abbrev cX5_lowHour : ByteArray := prog_7_method_11_code
def yX5_lowHour : MethodName := ⟨RX5, "lowHour", "(I)I"⟩
abbrev cX5_leastNet : ByteArray := prog_7_method_12_code
def yX5_leastNet : MethodName := ⟨RX5, "leastNet", "(II)I"⟩
abbrev cX5_greatestNet : ByteArray := prog_7_method_13_code
def yX5_greatestNet : MethodName := ⟨RX5, "greatestNet", "(II)I"⟩
abbrev cX5_leastOf : ByteArray := prog_7_method_14_code
def yX5_leastOf : MethodName := ⟨RX5, "leastOf", "(I)I"⟩
abbrev cX5_greatestOf : ByteArray := prog_7_method_15_code
def yX5_greatestOf : MethodName := ⟨RX5, "greatestOf", "(I)I"⟩
def RX6 : String := "NightWater"
def TX6 : u_T := fun k => match k with
  | 0 => ("NightWater", "zones", "LNightWater$Zones;", true)
  | 1 => ("NightWater", "valves", "LNightWater$Valves;", true)
  | 2 => ("NightWater", "listeners", "LNightWater$Listeners;", true)
  | 3 => ("NightWater", "steps", "LNightWater$Steps;", true)
  | _ => ("NightWater", "digs", "LNightWater$Digs;", true)
def tyX6 : Nat → FieldType := fun k => match k with
  | 0 => .object "NightWater$Zones"
  | 1 => .object "NightWater$Valves"
  | 2 => .object "NightWater$Listeners"
  | 3 => .object "NightWater$Steps"
  | _ => .object "NightWater$Digs"
abbrev wsX60 : List Cond := u_ws RX6 TX6 5
theorem nmX6 : ∀ a, a < 5 → ∀ b, b < 5 → a ≠ b → (TX6 a).2.1 ≠ (TX6 b).2.1 := by decide +kernel
theorem tyX6_ok : ∀ k, k < 5 → parseFieldDescriptor (TX6 k).2.2.1 = some (tyX6 k) := by decide +kernel
abbrev cX6_init : ByteArray := prog_1_method_1_code
def yX6_init : MethodName := ⟨RX6, "<init>", "()V"⟩
abbrev cX6_zone : ByteArray := prog_1_method_2_code
def yX6_zone : MethodName := ⟨RX6, "zone", "(II)I"⟩
abbrev cX6_rules : ByteArray := prog_1_method_3_code
def yX6_rules : MethodName := ⟨RX6, "rules", "(II)I"⟩
abbrev cX6_read : ByteArray := prog_1_method_4_code
def yX6_read : MethodName := ⟨RX6, "read", "(IIZI)I"⟩
abbrev cX6_low : ByteArray := prog_1_method_5_code
def yX6_low : MethodName := ⟨RX6, "low", "(II)I"⟩
abbrev cX6_leaks : ByteArray := prog_1_method_6_code
def yX6_leaks : MethodName := ⟨RX6, "leaks", "(II)I"⟩
abbrev cX6_valve : ByteArray := prog_1_method_7_code
def yX6_valve : MethodName := ⟨RX6, "valve", "(II)I"⟩
abbrev cX6_group : ByteArray := prog_1_method_8_code
def yX6_group : MethodName := ⟨RX6, "group", "(II)I"⟩
abbrev cX6_explains : ByteArray := prog_1_method_9_code
def yX6_explains : MethodName := ⟨RX6, "explains", "(I)I"⟩
abbrev cX6_fewest : ByteArray := prog_1_method_10_code
def yX6_fewest : MethodName := ⟨RX6, "fewest", "()I"⟩
abbrev cX6_sample : ByteArray := prog_1_method_11_code
def yX6_sample : MethodName := ⟨RX6, "sample", "(III)I"⟩
abbrev cX6_echo : ByteArray := prog_1_method_12_code
def yX6_echo : MethodName := ⟨RX6, "echo", "(IIII)I"⟩
abbrev cX6_sum : ByteArray := prog_1_method_13_code
def yX6_sum : MethodName := ⟨RX6, "sum", "(II)I"⟩
abbrev cX6_delay : ByteArray := prog_1_method_14_code
def yX6_delay : MethodName := ⟨RX6, "delay", "(Z)I"⟩
abbrev cX6_place : ByteArray := prog_1_method_15_code
def yX6_place : MethodName := ⟨RX6, "place", "(IIII)I"⟩
abbrev cX6_section : ByteArray := prog_1_method_16_code
def yX6_section : MethodName := ⟨RX6, "section", "(III)I"⟩
abbrev cX6_cost : ByteArray := prog_1_method_17_code
def yX6_cost : MethodName := ⟨RX6, "cost", "(II)I"⟩
abbrev cX6_closes : ByteArray := prog_1_method_18_code
def yX6_closes : MethodName := ⟨RX6, "closes", "(II)I"⟩
abbrev cX6_closings : ByteArray := prog_1_method_19_code
def yX6_closings : MethodName := ⟨RX6, "closings", "(I)I"⟩
abbrev cX6_dig : ByteArray := prog_1_method_20_code
def yX6_dig : MethodName := ⟨RX6, "dig", "(II)I"⟩
abbrev cX6_clear : ByteArray := prog_1_method_21_code
def yX6_clear : MethodName := ⟨RX6, "clear", "()I"⟩
abbrev cX6_lost : ByteArray := prog_1_method_22_code
def yX6_lost : MethodName := ⟨RX6, "lost", "()I"⟩
abbrev cX6_order : ByteArray := prog_1_method_23_code
def yX6_order : MethodName := ⟨RX6, "order", "(I)I"⟩
abbrev cX6_pulled : ByteArray := prog_1_method_24_code
def yX6_pulled : MethodName := ⟨RX6, "pulled", "(III)I"⟩
abbrev cX6_count : ByteArray := prog_1_method_25_code
def yX6_count : MethodName := ⟨RX6, "count", "(I)I"⟩
abbrev cX6_digest : ByteArray := prog_1_method_26_code
def yX6_digest : MethodName := ⟨RX6, "digest", "()J"⟩
abbrev cX6_outside : ByteArray := prog_1_method_27_code
def yX6_outside : MethodName := ⟨RX6, "outside", "(III)Z"⟩
abbrev cX6_mix : ByteArray := prog_1_method_28_code
def yX6_mix : MethodName := ⟨RX6, "mix", "(JI)J"⟩
def RX7 : String := "NightWaterModel"
def TX7 : u_T := fun k => match k with
  | 0 => ("NightWaterModel", "zones", "I", false)
  | 1 => ("NightWaterModel", "customers", "[I", true)
  | 2 => ("NightWaterModel", "big", "[I", true)
  | 3 => ("NightWaterModel", "comes", "[I", true)
  | 4 => ("NightWaterModel", "goes", "[I", true)
  | 5 => ("NightWaterModel", "error", "I", false)
  | 6 => ("NightWaterModel", "use", "I", false)
  | 7 => ("NightWaterModel", "lowLeast", "I", false)
  | 8 => ("NightWaterModel", "lowMost", "I", false)
  | 9 => ("NightWaterModel", "lowHour", "I", false)
  | 10 => ("NightWaterModel", "valves", "I", false)
  | 11 => ("NightWaterModel", "one", "[I", true)
  | 12 => ("NightWaterModel", "other", "[I", true)
  | 13 => ("NightWaterModel", "groupOf", "[I", true)
  | 14 => ("NightWaterModel", "heard", "[I", true)
  | 15 => ("NightWaterModel", "sections", "I", false)
  | 16 => ("NightWaterModel", "weight", "[I", true)
  | 17 => ("NightWaterModel", "cost", "[I", true)
  | 18 => ("NightWaterModel", "closes", "[I", true)
  | 19 => ("NightWaterModel", "digs", "I", false)
  | 20 => ("NightWaterModel", "loses", "[I", true)
  | 21 => ("NightWaterModel", "hours", "[I", true)
  | _ => ("NightWaterModel", "sorted", "[I", true)
def tyX7 : Nat → FieldType := fun k => match k with
  | 0 => .int
  | 1 => .array .int
  | 2 => .array .int
  | 3 => .array .int
  | 4 => .array .int
  | 5 => .int
  | 6 => .int
  | 7 => .int
  | 8 => .int
  | 9 => .int
  | 10 => .int
  | 11 => .array .int
  | 12 => .array .int
  | 13 => .array .int
  | 14 => .array .int
  | 15 => .int
  | 16 => .array .int
  | 17 => .array .int
  | 18 => .array .int
  | 19 => .int
  | 20 => .array .int
  | 21 => .array .int
  | _ => .array .int
abbrev wsX70 : List Cond := u_ws RX7 TX7 23
theorem nmX7 : ∀ a, a < 23 → ∀ b, b < 23 → a ≠ b → (TX7 a).2.1 ≠ (TX7 b).2.1 := by decide +kernel
theorem tyX7_ok : ∀ k, k < 23 → parseFieldDescriptor (TX7 k).2.2.1 = some (tyX7 k) := by decide +kernel
abbrev cX7_init : ByteArray := prog_9_method_1_code
def yX7_init : MethodName := ⟨RX7, "<init>", "()V"⟩
abbrev cX7_in : ByteArray := prog_9_method_3_code
def yX7_in : MethodName := ⟨RX7, "in", "(III)Z"⟩
abbrev cX7_isZone : ByteArray := prog_9_method_4_code
def yX7_isZone : MethodName := ⟨RX7, "isZone", "(I)Z"⟩
abbrev cX7_zone : ByteArray := prog_9_method_5_code
def yX7_zone : MethodName := ⟨RX7, "zone", "(II)I"⟩
abbrev cX7_rules : ByteArray := prog_9_method_6_code
def yX7_rules : MethodName := ⟨RX7, "rules", "(II)I"⟩
abbrev cX7_read : ByteArray := prog_9_method_7_code
def yX7_read : MethodName := ⟨RX7, "read", "(IIZI)I"⟩
abbrev cX7_least : ByteArray := prog_9_method_8_code
def yX7_least : MethodName := ⟨RX7, "least", "(I)I"⟩
abbrev cX7_greatest : ByteArray := prog_9_method_9_code
def yX7_greatest : MethodName := ⟨RX7, "greatest", "(I)I"⟩
abbrev cX7_findLow : ByteArray := prog_9_method_10_code
def yX7_findLow : MethodName := ⟨RX7, "findLow", "(I)Z"⟩
abbrev cX7_low : ByteArray := prog_9_method_11_code
def yX7_low : MethodName := ⟨RX7, "low", "(II)I"⟩
abbrev cX7_leaksOf : ByteArray := prog_9_method_12_code
def yX7_leaksOf : MethodName := ⟨RX7, "leaksOf", "(II)I"⟩
abbrev cX7_leaks : ByteArray := prog_9_method_13_code
def yX7_leaks : MethodName := ⟨RX7, "leaks", "(II)I"⟩
abbrev cX7_valve : ByteArray := prog_9_method_14_code
def yX7_valve : MethodName := ⟨RX7, "valve", "(II)I"⟩
abbrev cX7_findGroups : ByteArray := prog_9_method_15_code
def yX7_findGroups : MethodName := ⟨RX7, "findGroups", "(I)V"⟩
abbrev cX7_isSet : ByteArray := prog_9_method_16_code
def yX7_isSet : MethodName := ⟨RX7, "isSet", "(I)Z"⟩
abbrev cX7_group : ByteArray := prog_9_method_17_code
def yX7_group : MethodName := ⟨RX7, "group", "(II)I"⟩
abbrev cX7_doesExplain : ByteArray := prog_9_method_18_code
def yX7_doesExplain : MethodName := ⟨RX7, "doesExplain", "(I)Z"⟩
abbrev cX7_explains : ByteArray := prog_9_method_19_code
def yX7_explains : MethodName := ⟨RX7, "explains", "(I)I"⟩
abbrev cX7_many : ByteArray := prog_9_method_20_code
def yX7_many : MethodName := ⟨RX7, "many", "(I)I"⟩
abbrev cX7_fewest : ByteArray := prog_9_method_21_code
def yX7_fewest : MethodName := ⟨RX7, "fewest", "()I"⟩
abbrev cX7_sample : ByteArray := prog_9_method_22_code
def yX7_sample : MethodName := ⟨RX7, "sample", "(III)I"⟩
abbrev cX7_echo : ByteArray := prog_9_method_23_code
def yX7_echo : MethodName := ⟨RX7, "echo", "(IIII)I"⟩
abbrev cX7_isBoth : ByteArray := prog_9_method_24_code
def yX7_isBoth : MethodName := ⟨RX7, "isBoth", "(II)Z"⟩
abbrev cX7_sumOf : ByteArray := prog_9_method_25_code
def yX7_sumOf : MethodName := ⟨RX7, "sumOf", "(I)I"⟩
abbrev cX7_countOf : ByteArray := prog_9_method_26_code
def yX7_countOf : MethodName := ⟨RX7, "countOf", "(I)I"⟩
abbrev cX7_sum : ByteArray := prog_9_method_27_code
def yX7_sum : MethodName := ⟨RX7, "sum", "(II)I"⟩
abbrev cX7_delayBut : ByteArray := prog_9_method_28_code
def yX7_delayBut : MethodName := ⟨RX7, "delayBut", "(I)I"⟩
abbrev cX7_delay : ByteArray := prog_9_method_29_code
def yX7_delay : MethodName := ⟨RX7, "delay", "(Z)I"⟩
abbrev cX7_place : ByteArray := prog_9_method_30_code
def yX7_place : MethodName := ⟨RX7, "place", "(IIII)I"⟩
abbrev cX7_section : ByteArray := prog_9_method_31_code
def yX7_section : MethodName := ⟨RX7, "section", "(III)I"⟩
abbrev cX7_plans : ByteArray := prog_9_method_32_code
def yX7_plans : MethodName := ⟨RX7, "plans", "()V"⟩
abbrev cX7_isSpan : ByteArray := prog_9_method_33_code
def yX7_isSpan : MethodName := ⟨RX7, "isSpan", "(II)Z"⟩
abbrev cX7_cost : ByteArray := prog_9_method_34_code
def yX7_cost : MethodName := ⟨RX7, "cost", "(II)I"⟩
abbrev cX7_closes : ByteArray := prog_9_method_35_code
def yX7_closes : MethodName := ⟨RX7, "closes", "(II)I"⟩
abbrev cX7_closings : ByteArray := prog_9_method_36_code
def yX7_closings : MethodName := ⟨RX7, "closings", "(I)I"⟩
abbrev cX7_dig : ByteArray := prog_9_method_37_code
def yX7_dig : MethodName := ⟨RX7, "dig", "(II)I"⟩
abbrev cX7_clear : ByteArray := prog_9_method_38_code
def yX7_clear : MethodName := ⟨RX7, "clear", "()I"⟩
abbrev cX7_sorts : ByteArray := prog_9_method_39_code
def yX7_sorts : MethodName := ⟨RX7, "sorts", "()V"⟩
abbrev cX7_lost : ByteArray := prog_9_method_40_code
def yX7_lost : MethodName := ⟨RX7, "lost", "()I"⟩
abbrev cX7_order : ByteArray := prog_9_method_41_code
def yX7_order : MethodName := ⟨RX7, "order", "(I)I"⟩
abbrev cX7_pull : ByteArray := prog_9_method_42_code
def yX7_pull : MethodName := ⟨RX7, "pull", "(I)J"⟩
abbrev cX7_pulled : ByteArray := prog_9_method_43_code
def yX7_pulled : MethodName := ⟨RX7, "pulled", "(III)I"⟩
abbrev cX7_count : ByteArray := prog_9_method_44_code
def yX7_count : MethodName := ⟨RX7, "count", "(I)I"⟩
abbrev cX7_digest : ByteArray := prog_9_method_45_code
def yX7_digest : MethodName := ⟨RX7, "digest", "()J"⟩
def RJ6 : String := "java/lang/Integer"
def TJ6 : u_T := fun k => match k with
  | _ => ("", "", "", false)
def tyJ6 : Nat → FieldType := fun k => match k with
  | _ => .int
abbrev wsJ60 : List Cond := u_ws RJ6 TJ6 0
theorem nmJ6 : ∀ a, a < 0 → ∀ b, b < 0 → a ≠ b → (TJ6 a).2.1 ≠ (TJ6 b).2.1 := by decide +kernel
theorem tyJ6_ok : ∀ k, k < 0 → parseFieldDescriptor (TJ6 k).2.2.1 = some (tyJ6 k) := by decide +kernel
abbrev cJ6_bitCount_0f7a4 : ByteArray := prog_10_method_49_code
def yJ6_bitCount_0f7a4 : MethodName := ⟨RJ6, "bitCount", "(I)I"⟩
def RJ9 : String := "java/lang/Math"
def TJ9 : u_T := fun k => match k with
  | _ => ("", "", "", false)
def tyJ9 : Nat → FieldType := fun k => match k with
  | _ => .int
abbrev wsJ90 : List Cond := u_ws RJ9 TJ9 0
theorem nmJ9 : ∀ a, a < 0 → ∀ b, b < 0 → a ≠ b → (TJ9 a).2.1 ≠ (TJ9 b).2.1 := by decide +kernel
theorem tyJ9_ok : ∀ k, k < 0 → parseFieldDescriptor (TJ9 k).2.2.1 = some (tyJ9 k) := by decide +kernel
abbrev cJ9_abs_0f7a4 : ByteArray := prog_11_method_59_code
def yJ9_abs_0f7a4 : MethodName := ⟨RJ9, "abs", "(I)I"⟩
abbrev cJ9_max_7cf53 : ByteArray := prog_11_method_65_code
def yJ9_max_7cf53 : MethodName := ⟨RJ9, "max", "(II)I"⟩
abbrev cJ9_min_7cf53 : ByteArray := prog_11_method_69_code
def yJ9_min_7cf53 : MethodName := ⟨RJ9, "min", "(II)I"⟩
def RL : String := "NightWaterLaw"
abbrev cL_law : ByteArray := code
def yL_law : MethodName := ⟨RL, "law", "([I)Z"⟩
def wsX0_init : List Cond := .code yX0_init cX0_init 1 none :: ([.methodLink RX0 3 objectInit, .instanceMethod objectInit, .code objectInit ⟨#[0xb1]⟩ 1 none, .arrayClass .int, .fieldLink RX0 11 "NightWater$Digs" "losses" "[I", .fieldLink RX0 15 "NightWater$Digs" "durations" "[I", .fieldLink RX0 18 "NightWater$Digs" "ranked" "[I", .fieldLink RX0 21 "NightWater$Digs" "size" "I"] ++ wsX00)
def wsX0_number : List Cond := .code yX0_number cX0_number 1 (some .int) :: ([.fieldLink RX0 21 "NightWater$Digs" "size" "I"] ++ wsX00)
def wsX6_outside : List Cond := .code yX6_outside cX6_outside 3 (some .boolean) :: ([])
def wsX0_goesAhead : List Cond := .code yX0_goesAhead cX0_goesAhead 3 (some .boolean) :: ([.fieldLink RX0 11 "NightWater$Digs" "losses" "[I", .fieldLink RX0 15 "NightWater$Digs" "durations" "[I"] ++ wsX00)
def wsX0_rankNext : List Cond := .code yX0_rankNext cX0_rankNext 3 none :: ([.fieldLink RX0 18 "NightWater$Digs" "ranked" "[I", .methodLink RX0 37 yX0_goesAhead, .instanceMethod yX0_goesAhead, .selects RX0 yX0_goesAhead yX0_goesAhead, .initialized RX0, .code yX0_goesAhead cX0_goesAhead 3 (some .boolean), .fieldLink RX0 11 "NightWater$Digs" "losses" "[I", .fieldLink RX0 15 "NightWater$Digs" "durations" "[I"] ++ wsX00)
def wsX0_add : List Cond := .code yX0_add cX0_add 3 (some .int) :: ([.fieldLink RX0 21 "NightWater$Digs" "size" "I", .fieldLink RX0 11 "NightWater$Digs" "losses" "[I", .fieldLink RX0 15 "NightWater$Digs" "durations" "[I", .static yX6_outside, .initialized RX6, .code yX6_outside cX6_outside 3 (some .boolean), .methodLink RX0 29 yX0_rankNext, .instanceMethod yX0_rankNext, .selects RX0 yX0_rankNext yX0_rankNext, .initialized RX0, .code yX0_rankNext cX0_rankNext 3 none, .fieldLink RX0 18 "NightWater$Digs" "ranked" "[I", .methodLink RX0 37 yX0_goesAhead, .instanceMethod yX0_goesAhead, .selects RX0 yX0_goesAhead yX0_goesAhead, .code yX0_goesAhead cX0_goesAhead 3 (some .boolean)] ++ wsX00)
def wsX0_removeAll : List Cond := .code yX0_removeAll cX0_removeAll 2 (some .int) :: ([.fieldLink RX0 21 "NightWater$Digs" "size" "I"] ++ wsX00)
def wsX0_lostInOrder : List Cond := .code yX0_lostInOrder cX0_lostInOrder 5 (some .int) :: ([.fieldLink RX0 21 "NightWater$Digs" "size" "I", .fieldLink RX0 18 "NightWater$Digs" "ranked" "[I", .fieldLink RX0 15 "NightWater$Digs" "durations" "[I", .fieldLink RX0 11 "NightWater$Digs" "losses" "[I"] ++ wsX00)
def wsX0_inOrder : List Cond := .code yX0_inOrder cX0_inOrder 2 (some .int) :: ([.fieldLink RX0 21 "NightWater$Digs" "size" "I", .fieldLink RX0 18 "NightWater$Digs" "ranked" "[I", .static yX6_outside, .initialized RX6, .code yX6_outside cX6_outside 3 (some .boolean)] ++ wsX00)
def wsX6_mix : List Cond := .code yX6_mix cX6_mix 3 (some .long) :: ([.constantLong RX6 149 (31)])
def wsX0_mixInto : List Cond := .code yX0_mixInto cX0_mixInto 6 (some .long) :: ([.fieldLink RX0 21 "NightWater$Digs" "size" "I", .fieldLink RX0 11 "NightWater$Digs" "losses" "[I", .fieldLink RX0 15 "NightWater$Digs" "durations" "[I", .static yX6_mix, .initialized RX6, .code yX6_mix cX6_mix 3 (some .long), .constantLong RX6 149 (31)] ++ wsX00)
def wsX1_init : List Cond := .code yX1_init cX1_init 1 none :: ([.methodLink RX1 3 objectInit, .instanceMethod objectInit, .code objectInit ⟨#[0xb1]⟩ 1 none, .classLink RX1 11 "[[I", .arrayClass .int, .fieldLink RX1 13 "NightWater$Listeners" "rows" "[[I"] ++ wsX10)
def wsX1_setSample : List Cond := .code yX1_setSample cX1_setSample 4 (some .int) :: ([.constant RX1 20 (-2000000000), .fieldLink RX1 13 "NightWater$Listeners" "rows" "[[I", .static yX6_outside, .initialized RX6, .code yX6_outside cX6_outside 3 (some .boolean)] ++ wsX10)
def wsX1_copySamples : List Cond := .code yX1_copySamples cX1_copySamples 6 (some .int) :: ([.fieldLink RX1 13 "NightWater$Listeners" "rows" "[[I", .static yX6_outside, .initialized RX6, .code yX6_outside cX6_outside 3 (some .boolean)] ++ wsX10)
def wsX1_isPair : List Cond := .code yX1_isPair cX1_isPair 3 (some .boolean) :: ([.fieldLink RX1 13 "NightWater$Listeners" "rows" "[[I", .constant RX1 20 (-2000000000), .static yX6_outside, .initialized RX6, .code yX6_outside cX6_outside 3 (some .boolean)] ++ wsX10)
def wsX1_sumAt : List Cond := .code yX1_sumAt cX1_sumAt 4 (some .int) :: ([.fieldLink RX1 13 "NightWater$Listeners" "rows" "[[I", .methodLink RX1 55 yX1_isPair, .instanceMethod yX1_isPair, .selects RX1 yX1_isPair yX1_isPair, .initialized RX1, .code yX1_isPair cX1_isPair 3 (some .boolean), .constant RX1 20 (-2000000000), .static yX6_outside, .initialized RX6, .code yX6_outside cX6_outside 3 (some .boolean)] ++ wsX10)
def wsX1_pairsAt : List Cond := .code yX1_pairsAt cX1_pairsAt 4 (some .int) :: ([.methodLink RX1 55 yX1_isPair, .instanceMethod yX1_isPair, .selects RX1 yX1_isPair yX1_isPair, .initialized RX1, .code yX1_isPair cX1_isPair 3 (some .boolean), .fieldLink RX1 13 "NightWater$Listeners" "rows" "[[I", .constant RX1 20 (-2000000000), .static yX6_outside, .initialized RX6, .code yX6_outside cX6_outside 3 (some .boolean)] ++ wsX10)
def wsX1_sumPart : List Cond := .code yX1_sumPart cX1_sumPart 3 (some .int) :: ([.constant RX1 20 (-2000000000), .static yX6_outside, .initialized RX6, .code yX6_outside cX6_outside 3 (some .boolean), .methodLink RX1 21 yX1_sumAt, .instanceMethod yX1_sumAt, .selects RX1 yX1_sumAt yX1_sumAt, .initialized RX1, .code yX1_sumAt cX1_sumAt 4 (some .int), .fieldLink RX1 13 "NightWater$Listeners" "rows" "[[I", .methodLink RX1 55 yX1_isPair, .instanceMethod yX1_isPair, .selects RX1 yX1_isPair yX1_isPair, .code yX1_isPair cX1_isPair 3 (some .boolean), .methodLink RX1 25 yX1_pairsAt, .instanceMethod yX1_pairsAt, .selects RX1 yX1_pairsAt yX1_pairsAt, .code yX1_pairsAt cX1_pairsAt 4 (some .int)] ++ wsX10)
def wsX1_bestDelayAwayFrom : List Cond := .code yX1_bestDelayAwayFrom cX1_bestDelayAwayFrom 13 (some .int) :: ([.methodLink RX1 52 Lib.Math.abs.name, .static Lib.Math.abs.name, .initialized "java/lang/Math", .code Lib.Math.abs.name Lib.Math.abs.code 1 (some .int), .methodLink RX1 21 yX1_sumAt, .instanceMethod yX1_sumAt, .selects RX1 yX1_sumAt yX1_sumAt, .initialized RX1, .code yX1_sumAt cX1_sumAt 4 (some .int), .fieldLink RX1 13 "NightWater$Listeners" "rows" "[[I", .methodLink RX1 55 yX1_isPair, .instanceMethod yX1_isPair, .selects RX1 yX1_isPair yX1_isPair, .code yX1_isPair cX1_isPair 3 (some .boolean), .constant RX1 20 (-2000000000), .static yX6_outside, .initialized RX6, .code yX6_outside cX6_outside 3 (some .boolean), .methodLink RX1 25 yX1_pairsAt, .instanceMethod yX1_pairsAt, .selects RX1 yX1_pairsAt yX1_pairsAt, .code yX1_pairsAt cX1_pairsAt 4 (some .int)] ++ wsX10)
def wsX1_findDelay_r1 : List Cond := [Cond.methodLink RX1 28 yX1_bestDelayAwayFrom, Cond.instanceMethod yX1_bestDelayAwayFrom, Cond.selects RX1 yX1_bestDelayAwayFrom yX1_bestDelayAwayFrom, Cond.initialized RX1, Cond.code yX1_bestDelayAwayFrom cX1_bestDelayAwayFrom 13 (some .int), Cond.methodLink RX1 52 Lib.Math.abs.name, Cond.static Lib.Math.abs.name, Cond.initialized "java/lang/Math", Cond.code Lib.Math.abs.name Lib.Math.abs.code 1 (some .int), Cond.methodLink RX1 21 yX1_sumAt, Cond.instanceMethod yX1_sumAt, Cond.selects RX1 yX1_sumAt yX1_sumAt, Cond.code yX1_sumAt cX1_sumAt 4 (some .int), Cond.fieldLink RX1 13 "NightWater$Listeners" "rows" "[[I", Cond.methodLink RX1 55 yX1_isPair, Cond.instanceMethod yX1_isPair, Cond.selects RX1 yX1_isPair yX1_isPair, Cond.code yX1_isPair cX1_isPair 3 (some .boolean), Cond.constant RX1 20 (-2000000000), Cond.static yX6_outside, Cond.initialized RX6, Cond.code yX6_outside cX6_outside 3 (some .boolean), Cond.methodLink RX1 25 yX1_pairsAt, Cond.instanceMethod yX1_pairsAt]
def wsX1_findDelay_r2 : List Cond := [Cond.selects RX1 yX1_pairsAt yX1_pairsAt, Cond.code yX1_pairsAt cX1_pairsAt 4 (some .int)]
def wsX1_findDelay : List Cond := .code yX1_findDelay cX1_findDelay 3 (some .int) :: ((wsX1_findDelay_r1 ++ wsX1_findDelay_r2) ++ wsX10)
def wsX1_onPipe : List Cond := .code yX1_onPipe cX1_onPipe 2 (some .int) :: ([.methodLink RX1 40 Lib.Math.min.name, .static Lib.Math.min.name, .initialized "java/lang/Math", .code Lib.Math.min.name Lib.Math.min.code 2 (some .int), .methodLink RX1 45 Lib.Math.max.name, .static Lib.Math.max.name, .code Lib.Math.max.name Lib.Math.max.code 2 (some .int)])
def wsX1_twicePlace_r1 : List Cond := [Cond.constant RX1 31 (100000), Cond.methodLink RX1 40 Lib.Math.min.name, Cond.static Lib.Math.min.name, Cond.initialized "java/lang/Math", Cond.code Lib.Math.min.name Lib.Math.min.code 2 (some .int), Cond.methodLink RX1 45 Lib.Math.max.name, Cond.static Lib.Math.max.name, Cond.code Lib.Math.max.name Lib.Math.max.code 2 (some .int), Cond.static yX6_outside, Cond.initialized RX6, Cond.code yX6_outside cX6_outside 3 (some .boolean), Cond.methodLink RX1 32 yX1_findDelay, Cond.instanceMethod yX1_findDelay, Cond.selects RX1 yX1_findDelay yX1_findDelay, Cond.initialized RX1, Cond.code yX1_findDelay cX1_findDelay 3 (some .int), Cond.methodLink RX1 28 yX1_bestDelayAwayFrom, Cond.instanceMethod yX1_bestDelayAwayFrom, Cond.selects RX1 yX1_bestDelayAwayFrom yX1_bestDelayAwayFrom, Cond.code yX1_bestDelayAwayFrom cX1_bestDelayAwayFrom 13 (some .int), Cond.methodLink RX1 52 Lib.Math.abs.name, Cond.static Lib.Math.abs.name, Cond.code Lib.Math.abs.name Lib.Math.abs.code 1 (some .int), Cond.methodLink RX1 21 yX1_sumAt]
def wsX1_twicePlace_r2 : List Cond := [Cond.instanceMethod yX1_sumAt, Cond.selects RX1 yX1_sumAt yX1_sumAt, Cond.code yX1_sumAt cX1_sumAt 4 (some .int), Cond.fieldLink RX1 13 "NightWater$Listeners" "rows" "[[I", Cond.methodLink RX1 55 yX1_isPair, Cond.instanceMethod yX1_isPair, Cond.selects RX1 yX1_isPair yX1_isPair, Cond.code yX1_isPair cX1_isPair 3 (some .boolean), Cond.constant RX1 20 (-2000000000), Cond.methodLink RX1 25 yX1_pairsAt, Cond.instanceMethod yX1_pairsAt, Cond.selects RX1 yX1_pairsAt yX1_pairsAt, Cond.code yX1_pairsAt cX1_pairsAt 4 (some .int), Cond.methodLink RX1 36 yX1_onPipe, Cond.static yX1_onPipe, Cond.code yX1_onPipe cX1_onPipe 2 (some .int)]
def wsX1_twicePlace : List Cond := .code yX1_twicePlace cX1_twicePlace 8 (some .int) :: ((wsX1_twicePlace_r1 ++ wsX1_twicePlace_r2) ++ wsX10)
def wsX1_samplesLost : List Cond := .code yX1_samplesLost cX1_samplesLost 3 (some .int) :: ([.fieldLink RX1 13 "NightWater$Listeners" "rows" "[[I", .constant RX1 20 (-2000000000)] ++ wsX10)
def wsX1_mixInto : List Cond := .code yX1_mixInto cX1_mixInto 7 (some .long) :: ([.fieldLink RX1 13 "NightWater$Listeners" "rows" "[[I", .static yX6_mix, .initialized RX6, .code yX6_mix cX6_mix 3 (some .long), .constantLong RX6 149 (31)] ++ wsX10)
def wsX2_rootOf : List Cond := .code yX2_rootOf cX2_rootOf 2 (some .int) :: ([])
def wsX2_pull : List Cond := .code yX2_pull cX2_pull 1 (some .long) :: ([.methodLink RX2 20 yX2_rootOf, .static yX2_rootOf, .initialized RX2, .code yX2_rootOf cX2_rootOf 2 (some .int)])
def wsX2_leakAt : List Cond := .code yX2_leakAt cX2_leakAt 5 (some .int) :: ([.constant RX2 9 (100000), .static yX6_outside, .initialized RX6, .code yX6_outside cX6_outside 3 (some .boolean), .methodLink RX2 14 yX2_pull, .static yX2_pull, .initialized RX2, .code yX2_pull cX2_pull 1 (some .long), .methodLink RX2 20 yX2_rootOf, .static yX2_rootOf, .code yX2_rootOf cX2_rootOf 2 (some .int)])
def wsX3_costOfParts : List Cond := .code yX3_costOfParts cX3_costOfParts 4 (some .int) :: ([.fieldLink RX3 21 "NightWater$Steps" "costs" "[[I"] ++ wsX30)
def wsX3_planStretch : List Cond := .code yX3_planStretch cX3_planStretch 6 none :: ([.fieldLink RX3 24 "NightWater$Steps" "starts" "[[I", .fieldLink RX3 21 "NightWater$Steps" "costs" "[[I", .methodLink RX3 46 yX3_costOfParts, .instanceMethod yX3_costOfParts, .selects RX3 yX3_costOfParts yX3_costOfParts, .initialized RX3, .code yX3_costOfParts cX3_costOfParts 4 (some .int)] ++ wsX30)
def wsX3_planAll : List Cond := .code yX3_planAll cX3_planAll 4 none :: ([.fieldLink RX3 15 "NightWater$Steps" "size" "I", .fieldLink RX3 21 "NightWater$Steps" "costs" "[[I", .fieldLink RX3 24 "NightWater$Steps" "starts" "[[I", .fieldLink RX3 11 "NightWater$Steps" "weights" "[I", .methodLink RX3 42 yX3_planStretch, .instanceMethod yX3_planStretch, .selects RX3 yX3_planStretch yX3_planStretch, .initialized RX3, .code yX3_planStretch cX3_planStretch 6 none, .methodLink RX3 46 yX3_costOfParts, .instanceMethod yX3_costOfParts, .selects RX3 yX3_costOfParts yX3_costOfParts, .code yX3_costOfParts cX3_costOfParts 4 (some .int)] ++ wsX30)
def wsX3_init : List Cond := .code yX3_init cX3_init 1 none :: ([.methodLink RX3 3 objectInit, .instanceMethod objectInit, .code objectInit ⟨#[0xb1]⟩ 1 none, .arrayClass .int, .fieldLink RX3 11 "NightWater$Steps" "weights" "[I", .fieldLink RX3 15 "NightWater$Steps" "size" "I", .classLink RX3 19 "[[I", .fieldLink RX3 21 "NightWater$Steps" "costs" "[[I", .fieldLink RX3 24 "NightWater$Steps" "starts" "[[I", .methodLink RX3 27 yX3_planAll, .instanceMethod yX3_planAll, .selects RX3 yX3_planAll yX3_planAll, .initialized RX3, .code yX3_planAll cX3_planAll 4 none, .methodLink RX3 42 yX3_planStretch, .instanceMethod yX3_planStretch, .selects RX3 yX3_planStretch yX3_planStretch, .code yX3_planStretch cX3_planStretch 6 none, .methodLink RX3 46 yX3_costOfParts, .instanceMethod yX3_costOfParts, .selects RX3 yX3_costOfParts yX3_costOfParts, .code yX3_costOfParts cX3_costOfParts 4 (some .int)] ++ wsX30)
def wsX3_number : List Cond := .code yX3_number cX3_number 1 (some .int) :: ([.fieldLink RX3 15 "NightWater$Steps" "size" "I"] ++ wsX30)
def wsX3_setWeight : List Cond := .code yX3_setWeight cX3_setWeight 5 (some .int) :: ([.fieldLink RX3 15 "NightWater$Steps" "size" "I", .fieldLink RX3 11 "NightWater$Steps" "weights" "[I", .static yX6_outside, .initialized RX6, .code yX6_outside cX6_outside 3 (some .boolean), .methodLink RX3 27 yX3_planAll, .instanceMethod yX3_planAll, .selects RX3 yX3_planAll yX3_planAll, .initialized RX3, .code yX3_planAll cX3_planAll 4 none, .fieldLink RX3 21 "NightWater$Steps" "costs" "[[I", .fieldLink RX3 24 "NightWater$Steps" "starts" "[[I", .methodLink RX3 42 yX3_planStretch, .instanceMethod yX3_planStretch, .selects RX3 yX3_planStretch yX3_planStretch, .code yX3_planStretch cX3_planStretch 6 none, .methodLink RX3 46 yX3_costOfParts, .instanceMethod yX3_costOfParts, .selects RX3 yX3_costOfParts yX3_costOfParts, .code yX3_costOfParts cX3_costOfParts 4 (some .int)] ++ wsX30)
def wsX3_isNoStretch : List Cond := .code yX3_isNoStretch cX3_isNoStretch 3 (some .boolean) :: ([.fieldLink RX3 15 "NightWater$Steps" "size" "I", .static yX6_outside, .initialized RX6, .code yX6_outside cX6_outside 3 (some .boolean)] ++ wsX30)
def wsX3_planCost : List Cond := .code yX3_planCost cX3_planCost 3 (some .int) :: ([.fieldLink RX3 21 "NightWater$Steps" "costs" "[[I", .methodLink RX3 34 yX3_isNoStretch, .instanceMethod yX3_isNoStretch, .selects RX3 yX3_isNoStretch yX3_isNoStretch, .initialized RX3, .code yX3_isNoStretch cX3_isNoStretch 3 (some .boolean), .fieldLink RX3 15 "NightWater$Steps" "size" "I", .static yX6_outside, .initialized RX6, .code yX6_outside cX6_outside 3 (some .boolean)] ++ wsX30)
def wsX3_planStart : List Cond := .code yX3_planStart cX3_planStart 3 (some .int) :: ([.fieldLink RX3 24 "NightWater$Steps" "starts" "[[I", .methodLink RX3 34 yX3_isNoStretch, .instanceMethod yX3_isNoStretch, .selects RX3 yX3_isNoStretch yX3_isNoStretch, .initialized RX3, .code yX3_isNoStretch cX3_isNoStretch 3 (some .boolean), .fieldLink RX3 15 "NightWater$Steps" "size" "I", .static yX6_outside, .initialized RX6, .code yX6_outside cX6_outside 3 (some .boolean)] ++ wsX30)
def wsX3_closingsFor : List Cond := .code yX3_closingsFor cX3_closingsFor 6 (some .int) :: ([.fieldLink RX3 15 "NightWater$Steps" "size" "I", .fieldLink RX3 24 "NightWater$Steps" "starts" "[[I", .static yX6_outside, .initialized RX6, .code yX6_outside cX6_outside 3 (some .boolean)] ++ wsX30)
def wsX3_mixInto : List Cond := .code yX3_mixInto cX3_mixInto 6 (some .long) :: ([.fieldLink RX3 15 "NightWater$Steps" "size" "I", .fieldLink RX3 11 "NightWater$Steps" "weights" "[I", .static yX6_mix, .initialized RX6, .code yX6_mix cX6_mix 3 (some .long), .constantLong RX6 149 (31)] ++ wsX30)
def wsX4_init : List Cond := .code yX4_init cX4_init 2 none :: ([.methodLink RX4 3 objectInit, .instanceMethod objectInit, .code objectInit ⟨#[0xb1]⟩ 1 none, .arrayClass .int, .fieldLink RX4 11 "NightWater$Valves" "from" "[I", .fieldLink RX4 15 "NightWater$Valves" "to" "[I", .fieldLink RX4 18 "NightWater$Valves" "size" "I", .fieldLink RX4 24 "NightWater$Valves" "zoneLeak" "[I", .fieldLink RX4 27 "NightWater$Valves" "leader" "[I", .fieldLink RX4 30 "NightWater$Valves" "groupLeak" "[I", .arrayClass .boolean, .fieldLink RX4 33 "NightWater$Valves" "untold" "[Z", .fieldLink RX4 37 "NightWater$Valves" "zones" "LNightWater$Zones;"] ++ wsX40)
def wsX4_number : List Cond := .code yX4_number cX4_number 1 (some .int) :: ([.fieldLink RX4 18 "NightWater$Valves" "size" "I"] ++ wsX40)
def wsX5_isNone : List Cond := .code yX5_isNone cX5_isNone 2 (some .boolean) :: ([.fieldLink RX5 26 "NightWater$Zones" "size" "I", .static yX6_outside, .initialized RX6, .code yX6_outside cX6_outside 3 (some .boolean)] ++ wsX50)
def wsX4_add : List Cond := .code yX4_add cX4_add 3 (some .int) :: ([.fieldLink RX4 37 "NightWater$Valves" "zones" "LNightWater$Zones;", .fieldLink RX4 18 "NightWater$Valves" "size" "I", .fieldLink RX4 11 "NightWater$Valves" "from" "[I", .fieldLink RX4 15 "NightWater$Valves" "to" "[I", .methodLink RX4 41 yX5_isNone, .instanceMethod yX5_isNone, .selects RX5 yX5_isNone yX5_isNone, .initialized RX5, .code yX5_isNone cX5_isNone 2 (some .boolean), .fieldLink RX5 26 "NightWater$Zones" "size" "I", .static yX6_outside, .initialized RX6, .code yX6_outside cX6_outside 3 (some .boolean)] ++ wsX40 ++ wsX50)
def wsX4_allValves : List Cond := .code yX4_allValves cX4_allValves 1 (some .int) :: ([.fieldLink RX4 18 "NightWater$Valves" "size" "I"] ++ wsX40)
def wsX4_isNoSet : List Cond := .code yX4_isNoSet cX4_isNoSet 2 (some .boolean) :: ([.methodLink RX4 58 yX4_allValves, .instanceMethod yX4_allValves, .selects RX4 yX4_allValves yX4_allValves, .initialized RX4, .code yX4_allValves cX4_allValves 1 (some .int), .fieldLink RX4 18 "NightWater$Valves" "size" "I", .static yX6_outside, .initialized RX6, .code yX6_outside cX6_outside 3 (some .boolean)] ++ wsX40)
def wsX5_number : List Cond := .code yX5_number cX5_number 1 (some .int) :: ([.fieldLink RX5 26 "NightWater$Zones" "size" "I"] ++ wsX50)
def wsX4_join : List Cond := .code yX4_join cX4_join 6 none :: ([.methodLink RX4 88 Lib.Math.min.name, .static Lib.Math.min.name, .initialized "java/lang/Math", .code Lib.Math.min.name Lib.Math.min.code 2 (some .int), .methodLink RX4 93 Lib.Math.max.name, .static Lib.Math.max.name, .code Lib.Math.max.name Lib.Math.max.code 2 (some .int), .fieldLink RX4 37 "NightWater$Valves" "zones" "LNightWater$Zones;", .fieldLink RX4 27 "NightWater$Valves" "leader" "[I", .methodLink RX4 76 yX5_number, .instanceMethod yX5_number, .selects RX5 yX5_number yX5_number, .initialized RX5, .code yX5_number cX5_number 1 (some .int), .fieldLink RX5 26 "NightWater$Zones" "size" "I"] ++ wsX40 ++ wsX50)
def wsX4_putTogether : List Cond := .code yX4_putTogether cX4_putTogether 3 none :: ([.fieldLink RX4 37 "NightWater$Valves" "zones" "LNightWater$Zones;", .fieldLink RX4 27 "NightWater$Valves" "leader" "[I", .fieldLink RX4 18 "NightWater$Valves" "size" "I", .fieldLink RX4 11 "NightWater$Valves" "from" "[I", .fieldLink RX4 15 "NightWater$Valves" "to" "[I", .methodLink RX4 76 yX5_number, .instanceMethod yX5_number, .selects RX5 yX5_number yX5_number, .initialized RX5, .code yX5_number cX5_number 1 (some .int), .fieldLink RX5 26 "NightWater$Zones" "size" "I", .methodLink RX4 84 yX4_join, .instanceMethod yX4_join, .selects RX4 yX4_join yX4_join, .initialized RX4, .code yX4_join cX4_join 6 none, .methodLink RX4 88 Lib.Math.min.name, .static Lib.Math.min.name, .initialized "java/lang/Math", .code Lib.Math.min.name Lib.Math.min.code 2 (some .int), .methodLink RX4 93 Lib.Math.max.name, .static Lib.Math.max.name, .code Lib.Math.max.name Lib.Math.max.code 2 (some .int)] ++ wsX40 ++ wsX50)
def wsX4_leastOfGroup_r1 : List Cond := [Cond.fieldLink RX4 37 "NightWater$Valves" "zones" "LNightWater$Zones;", Cond.fieldLink RX4 27 "NightWater$Valves" "leader" "[I", Cond.methodLink RX4 41 yX5_isNone, Cond.instanceMethod yX5_isNone, Cond.selects RX5 yX5_isNone yX5_isNone, Cond.initialized RX5, Cond.code yX5_isNone cX5_isNone 2 (some .boolean), Cond.fieldLink RX5 26 "NightWater$Zones" "size" "I", Cond.static yX6_outside, Cond.initialized RX6, Cond.code yX6_outside cX6_outside 3 (some .boolean), Cond.methodLink RX4 45 yX4_isNoSet, Cond.instanceMethod yX4_isNoSet, Cond.selects RX4 yX4_isNoSet yX4_isNoSet, Cond.initialized RX4, Cond.code yX4_isNoSet cX4_isNoSet 2 (some .boolean), Cond.methodLink RX4 58 yX4_allValves, Cond.instanceMethod yX4_allValves, Cond.selects RX4 yX4_allValves yX4_allValves, Cond.code yX4_allValves cX4_allValves 1 (some .int), Cond.fieldLink RX4 18 "NightWater$Valves" "size" "I", Cond.methodLink RX4 48 yX4_putTogether, Cond.instanceMethod yX4_putTogether, Cond.selects RX4 yX4_putTogether yX4_putTogether]
def wsX4_leastOfGroup_r2 : List Cond := [Cond.code yX4_putTogether cX4_putTogether 3 none, Cond.fieldLink RX4 11 "NightWater$Valves" "from" "[I", Cond.fieldLink RX4 15 "NightWater$Valves" "to" "[I", Cond.methodLink RX4 76 yX5_number, Cond.instanceMethod yX5_number, Cond.selects RX5 yX5_number yX5_number, Cond.code yX5_number cX5_number 1 (some .int), Cond.methodLink RX4 84 yX4_join, Cond.instanceMethod yX4_join, Cond.selects RX4 yX4_join yX4_join, Cond.code yX4_join cX4_join 6 none, Cond.methodLink RX4 88 Lib.Math.min.name, Cond.static Lib.Math.min.name, Cond.initialized "java/lang/Math", Cond.code Lib.Math.min.name Lib.Math.min.code 2 (some .int), Cond.methodLink RX4 93 Lib.Math.max.name, Cond.static Lib.Math.max.name, Cond.code Lib.Math.max.name Lib.Math.max.code 2 (some .int)]
def wsX4_leastOfGroup : List Cond := .code yX4_leastOfGroup cX4_leastOfGroup 3 (some .int) :: ((wsX4_leastOfGroup_r1 ++ wsX4_leastOfGroup_r2) ++ wsX40 ++ wsX50)
def wsX5_greatestOf : List Cond := .code yX5_greatestOf cX5_greatestOf 2 (some .int) :: ([.fieldLink RX5 30 "NightWater$Zones" "error" "I"] ++ wsX50)
def wsX5_leastOf : List Cond := .code yX5_leastOf cX5_leastOf 2 (some .int) :: ([.fieldLink RX5 30 "NightWater$Zones" "error" "I"] ++ wsX50)
def wsX5_greatestNet : List Cond := .code yX5_greatestNet cX5_greatestNet 3 (some .int) :: ([.fieldLink RX5 20 "NightWater$Zones" "ins" "[[I", .fieldLink RX5 23 "NightWater$Zones" "outs" "[[I", .methodLink RX5 66 yX5_greatestOf, .instanceMethod yX5_greatestOf, .selects RX5 yX5_greatestOf yX5_greatestOf, .initialized RX5, .code yX5_greatestOf cX5_greatestOf 2 (some .int), .fieldLink RX5 30 "NightWater$Zones" "error" "I", .methodLink RX5 63 yX5_leastOf, .instanceMethod yX5_leastOf, .selects RX5 yX5_leastOf yX5_leastOf, .code yX5_leastOf cX5_leastOf 2 (some .int)] ++ wsX50)
def wsX5_lowHour : List Cond := .code yX5_lowHour cX5_lowHour 6 (some .int) :: ([.fieldLink RX5 20 "NightWater$Zones" "ins" "[[I", .fieldLink RX5 23 "NightWater$Zones" "outs" "[[I", .methodLink RX5 53 yX5_greatestNet, .instanceMethod yX5_greatestNet, .selects RX5 yX5_greatestNet yX5_greatestNet, .initialized RX5, .code yX5_greatestNet cX5_greatestNet 3 (some .int), .methodLink RX5 66 yX5_greatestOf, .instanceMethod yX5_greatestOf, .selects RX5 yX5_greatestOf yX5_greatestOf, .code yX5_greatestOf cX5_greatestOf 2 (some .int), .fieldLink RX5 30 "NightWater$Zones" "error" "I", .methodLink RX5 63 yX5_leastOf, .instanceMethod yX5_leastOf, .selects RX5 yX5_leastOf yX5_leastOf, .code yX5_leastOf cX5_leastOf 2 (some .int)] ++ wsX50)
def wsX5_leastNet : List Cond := .code yX5_leastNet cX5_leastNet 3 (some .int) :: ([.fieldLink RX5 20 "NightWater$Zones" "ins" "[[I", .fieldLink RX5 23 "NightWater$Zones" "outs" "[[I", .methodLink RX5 63 yX5_leastOf, .instanceMethod yX5_leastOf, .selects RX5 yX5_leastOf yX5_leastOf, .initialized RX5, .code yX5_leastOf cX5_leastOf 2 (some .int), .fieldLink RX5 30 "NightWater$Zones" "error" "I", .methodLink RX5 66 yX5_greatestOf, .instanceMethod yX5_greatestOf, .selects RX5 yX5_greatestOf yX5_greatestOf, .code yX5_greatestOf cX5_greatestOf 2 (some .int)] ++ wsX50)
def wsX5_leak_r1 : List Cond := [Cond.constant RX5 44 (-2000000000), Cond.fieldLink RX5 15 "NightWater$Zones" "bigs" "[I", Cond.fieldLink RX5 11 "NightWater$Zones" "customers" "[I", Cond.fieldLink RX5 33 "NightWater$Zones" "use" "I", Cond.methodLink RX5 40 yX5_isNone, Cond.instanceMethod yX5_isNone, Cond.selects RX5 yX5_isNone yX5_isNone, Cond.initialized RX5, Cond.code yX5_isNone cX5_isNone 2 (some .boolean), Cond.fieldLink RX5 26 "NightWater$Zones" "size" "I", Cond.static yX6_outside, Cond.initialized RX6, Cond.code yX6_outside cX6_outside 3 (some .boolean), Cond.methodLink RX5 45 yX5_lowHour, Cond.instanceMethod yX5_lowHour, Cond.selects RX5 yX5_lowHour yX5_lowHour, Cond.code yX5_lowHour cX5_lowHour 6 (some .int), Cond.fieldLink RX5 20 "NightWater$Zones" "ins" "[[I", Cond.fieldLink RX5 23 "NightWater$Zones" "outs" "[[I", Cond.methodLink RX5 53 yX5_greatestNet, Cond.instanceMethod yX5_greatestNet, Cond.selects RX5 yX5_greatestNet yX5_greatestNet, Cond.code yX5_greatestNet cX5_greatestNet 3 (some .int), Cond.methodLink RX5 66 yX5_greatestOf]
def wsX5_leak_r2 : List Cond := [Cond.instanceMethod yX5_greatestOf, Cond.selects RX5 yX5_greatestOf yX5_greatestOf, Cond.code yX5_greatestOf cX5_greatestOf 2 (some .int), Cond.fieldLink RX5 30 "NightWater$Zones" "error" "I", Cond.methodLink RX5 63 yX5_leastOf, Cond.instanceMethod yX5_leastOf, Cond.selects RX5 yX5_leastOf yX5_leastOf, Cond.code yX5_leastOf cX5_leastOf 2 (some .int), Cond.methodLink RX5 49 yX5_leastNet, Cond.instanceMethod yX5_leastNet, Cond.selects RX5 yX5_leastNet yX5_leastNet, Cond.code yX5_leastNet cX5_leastNet 3 (some .int)]
def wsX5_leak : List Cond := .code yX5_leak cX5_leak 4 (some .int) :: ((wsX5_leak_r1 ++ wsX5_leak_r2) ++ wsX50)
def wsX4_reckonLeaks_r1 : List Cond := [Cond.fieldLink RX4 37 "NightWater$Valves" "zones" "LNightWater$Zones;", Cond.fieldLink RX4 24 "NightWater$Valves" "zoneLeak" "[I", Cond.methodLink RX4 76 yX5_number, Cond.instanceMethod yX5_number, Cond.selects RX5 yX5_number yX5_number, Cond.initialized RX5, Cond.code yX5_number cX5_number 1 (some .int), Cond.fieldLink RX5 26 "NightWater$Zones" "size" "I", Cond.methodLink RX4 79 yX5_leak, Cond.instanceMethod yX5_leak, Cond.selects RX5 yX5_leak yX5_leak, Cond.code yX5_leak cX5_leak 4 (some .int), Cond.constant RX5 44 (-2000000000), Cond.fieldLink RX5 15 "NightWater$Zones" "bigs" "[I", Cond.fieldLink RX5 11 "NightWater$Zones" "customers" "[I", Cond.fieldLink RX5 33 "NightWater$Zones" "use" "I", Cond.methodLink RX5 40 yX5_isNone, Cond.instanceMethod yX5_isNone, Cond.selects RX5 yX5_isNone yX5_isNone, Cond.code yX5_isNone cX5_isNone 2 (some .boolean), Cond.static yX6_outside, Cond.initialized RX6, Cond.code yX6_outside cX6_outside 3 (some .boolean), Cond.methodLink RX5 45 yX5_lowHour]
def wsX4_reckonLeaks_r2 : List Cond := [Cond.instanceMethod yX5_lowHour, Cond.selects RX5 yX5_lowHour yX5_lowHour, Cond.code yX5_lowHour cX5_lowHour 6 (some .int), Cond.fieldLink RX5 20 "NightWater$Zones" "ins" "[[I", Cond.fieldLink RX5 23 "NightWater$Zones" "outs" "[[I", Cond.methodLink RX5 53 yX5_greatestNet, Cond.instanceMethod yX5_greatestNet, Cond.selects RX5 yX5_greatestNet yX5_greatestNet, Cond.code yX5_greatestNet cX5_greatestNet 3 (some .int), Cond.methodLink RX5 66 yX5_greatestOf, Cond.instanceMethod yX5_greatestOf, Cond.selects RX5 yX5_greatestOf yX5_greatestOf, Cond.code yX5_greatestOf cX5_greatestOf 2 (some .int), Cond.fieldLink RX5 30 "NightWater$Zones" "error" "I", Cond.methodLink RX5 63 yX5_leastOf, Cond.instanceMethod yX5_leastOf, Cond.selects RX5 yX5_leastOf yX5_leastOf, Cond.code yX5_leastOf cX5_leastOf 2 (some .int), Cond.methodLink RX5 49 yX5_leastNet, Cond.instanceMethod yX5_leastNet, Cond.selects RX5 yX5_leastNet yX5_leastNet, Cond.code yX5_leastNet cX5_leastNet 3 (some .int)]
def wsX4_reckonLeaks : List Cond := .code yX4_reckonLeaks cX4_reckonLeaks 2 none :: ((wsX4_reckonLeaks_r1 ++ wsX4_reckonLeaks_r2) ++ wsX40 ++ wsX50)
def wsX4_isExplained_r1 : List Cond := [Cond.fieldLink RX4 37 "NightWater$Valves" "zones" "LNightWater$Zones;", Cond.fieldLink RX4 30 "NightWater$Valves" "groupLeak" "[I", Cond.fieldLink RX4 33 "NightWater$Valves" "untold" "[Z", Cond.fieldLink RX4 24 "NightWater$Valves" "zoneLeak" "[I", Cond.constant RX4 83 (-2000000000), Cond.fieldLink RX4 27 "NightWater$Valves" "leader" "[I", Cond.methodLink RX4 48 yX4_putTogether, Cond.instanceMethod yX4_putTogether, Cond.selects RX4 yX4_putTogether yX4_putTogether, Cond.initialized RX4, Cond.code yX4_putTogether cX4_putTogether 3 none, Cond.fieldLink RX4 18 "NightWater$Valves" "size" "I", Cond.fieldLink RX4 11 "NightWater$Valves" "from" "[I", Cond.fieldLink RX4 15 "NightWater$Valves" "to" "[I", Cond.methodLink RX4 76 yX5_number, Cond.instanceMethod yX5_number, Cond.selects RX5 yX5_number yX5_number, Cond.initialized RX5, Cond.code yX5_number cX5_number 1 (some .int), Cond.fieldLink RX5 26 "NightWater$Zones" "size" "I", Cond.methodLink RX4 84 yX4_join, Cond.instanceMethod yX4_join, Cond.selects RX4 yX4_join yX4_join, Cond.code yX4_join cX4_join 6 none]
def wsX4_isExplained_r2 : List Cond := [Cond.methodLink RX4 88 Lib.Math.min.name, Cond.static Lib.Math.min.name, Cond.initialized "java/lang/Math", Cond.code Lib.Math.min.name Lib.Math.min.code 2 (some .int), Cond.methodLink RX4 93 Lib.Math.max.name, Cond.static Lib.Math.max.name, Cond.code Lib.Math.max.name Lib.Math.max.code 2 (some .int)]
def wsX4_isExplained : List Cond := .code yX4_isExplained cX4_isExplained 4 (some .boolean) :: ((wsX4_isExplained_r1 ++ wsX4_isExplained_r2) ++ wsX40 ++ wsX50)
def wsX4_answerExplains_r1 : List Cond := [Cond.methodLink RX4 45 yX4_isNoSet, Cond.instanceMethod yX4_isNoSet, Cond.selects RX4 yX4_isNoSet yX4_isNoSet, Cond.initialized RX4, Cond.code yX4_isNoSet cX4_isNoSet 2 (some .boolean), Cond.methodLink RX4 58 yX4_allValves, Cond.instanceMethod yX4_allValves, Cond.selects RX4 yX4_allValves yX4_allValves, Cond.code yX4_allValves cX4_allValves 1 (some .int), Cond.fieldLink RX4 18 "NightWater$Valves" "size" "I", Cond.static yX6_outside, Cond.initialized RX6, Cond.code yX6_outside cX6_outside 3 (some .boolean), Cond.methodLink RX4 52 yX4_reckonLeaks, Cond.instanceMethod yX4_reckonLeaks, Cond.selects RX4 yX4_reckonLeaks yX4_reckonLeaks, Cond.code yX4_reckonLeaks cX4_reckonLeaks 2 none, Cond.fieldLink RX4 37 "NightWater$Valves" "zones" "LNightWater$Zones;", Cond.fieldLink RX4 24 "NightWater$Valves" "zoneLeak" "[I", Cond.methodLink RX4 76 yX5_number, Cond.instanceMethod yX5_number, Cond.selects RX5 yX5_number yX5_number, Cond.initialized RX5, Cond.code yX5_number cX5_number 1 (some .int)]
def wsX4_answerExplains_r2 : List Cond := [Cond.fieldLink RX5 26 "NightWater$Zones" "size" "I", Cond.methodLink RX4 79 yX5_leak, Cond.instanceMethod yX5_leak, Cond.selects RX5 yX5_leak yX5_leak, Cond.code yX5_leak cX5_leak 4 (some .int), Cond.constant RX5 44 (-2000000000), Cond.fieldLink RX5 15 "NightWater$Zones" "bigs" "[I", Cond.fieldLink RX5 11 "NightWater$Zones" "customers" "[I", Cond.fieldLink RX5 33 "NightWater$Zones" "use" "I", Cond.methodLink RX5 40 yX5_isNone, Cond.instanceMethod yX5_isNone, Cond.selects RX5 yX5_isNone yX5_isNone, Cond.code yX5_isNone cX5_isNone 2 (some .boolean), Cond.methodLink RX5 45 yX5_lowHour, Cond.instanceMethod yX5_lowHour, Cond.selects RX5 yX5_lowHour yX5_lowHour, Cond.code yX5_lowHour cX5_lowHour 6 (some .int), Cond.fieldLink RX5 20 "NightWater$Zones" "ins" "[[I", Cond.fieldLink RX5 23 "NightWater$Zones" "outs" "[[I", Cond.methodLink RX5 53 yX5_greatestNet, Cond.instanceMethod yX5_greatestNet, Cond.selects RX5 yX5_greatestNet yX5_greatestNet, Cond.code yX5_greatestNet cX5_greatestNet 3 (some .int), Cond.methodLink RX5 66 yX5_greatestOf]
def wsX4_answerExplains_r3 : List Cond := [Cond.instanceMethod yX5_greatestOf, Cond.selects RX5 yX5_greatestOf yX5_greatestOf, Cond.code yX5_greatestOf cX5_greatestOf 2 (some .int), Cond.fieldLink RX5 30 "NightWater$Zones" "error" "I", Cond.methodLink RX5 63 yX5_leastOf, Cond.instanceMethod yX5_leastOf, Cond.selects RX5 yX5_leastOf yX5_leastOf, Cond.code yX5_leastOf cX5_leastOf 2 (some .int), Cond.methodLink RX5 49 yX5_leastNet, Cond.instanceMethod yX5_leastNet, Cond.selects RX5 yX5_leastNet yX5_leastNet, Cond.code yX5_leastNet cX5_leastNet 3 (some .int), Cond.methodLink RX4 55 yX4_isExplained, Cond.instanceMethod yX4_isExplained, Cond.selects RX4 yX4_isExplained yX4_isExplained, Cond.code yX4_isExplained cX4_isExplained 4 (some .boolean), Cond.fieldLink RX4 30 "NightWater$Valves" "groupLeak" "[I", Cond.fieldLink RX4 33 "NightWater$Valves" "untold" "[Z", Cond.constant RX4 83 (-2000000000), Cond.fieldLink RX4 27 "NightWater$Valves" "leader" "[I", Cond.methodLink RX4 48 yX4_putTogether, Cond.instanceMethod yX4_putTogether, Cond.selects RX4 yX4_putTogether yX4_putTogether, Cond.code yX4_putTogether cX4_putTogether 3 none]
def wsX4_answerExplains_r4 : List Cond := [Cond.fieldLink RX4 11 "NightWater$Valves" "from" "[I", Cond.fieldLink RX4 15 "NightWater$Valves" "to" "[I", Cond.methodLink RX4 84 yX4_join, Cond.instanceMethod yX4_join, Cond.selects RX4 yX4_join yX4_join, Cond.code yX4_join cX4_join 6 none, Cond.methodLink RX4 88 Lib.Math.min.name, Cond.static Lib.Math.min.name, Cond.initialized "java/lang/Math", Cond.code Lib.Math.min.name Lib.Math.min.code 2 (some .int), Cond.methodLink RX4 93 Lib.Math.max.name, Cond.static Lib.Math.max.name, Cond.code Lib.Math.max.name Lib.Math.max.code 2 (some .int)]
def wsX4_answerExplains : List Cond := .code yX4_answerExplains cX4_answerExplains 2 (some .int) :: ((wsX4_answerExplains_r1 ++ (wsX4_answerExplains_r2 ++ (wsX4_answerExplains_r3 ++ wsX4_answerExplains_r4))) ++ wsX40 ++ wsX50)
def wsJ6_bitCount_0f7a4 : List Cond := .code yJ6_bitCount_0f7a4 cJ6_bitCount_0f7a4 1 (some .int) :: ([.constant RJ6 265 (1431655765), .constant RJ6 266 (858993459), .constant RJ6 267 (252645135)])
def wsX4_fewestSet_r1 : List Cond := [Cond.methodLink RX4 52 yX4_reckonLeaks, Cond.instanceMethod yX4_reckonLeaks, Cond.selects RX4 yX4_reckonLeaks yX4_reckonLeaks, Cond.initialized RX4, Cond.code yX4_reckonLeaks cX4_reckonLeaks 2 none, Cond.fieldLink RX4 37 "NightWater$Valves" "zones" "LNightWater$Zones;", Cond.fieldLink RX4 24 "NightWater$Valves" "zoneLeak" "[I", Cond.methodLink RX4 76 yX5_number, Cond.instanceMethod yX5_number, Cond.selects RX5 yX5_number yX5_number, Cond.initialized RX5, Cond.code yX5_number cX5_number 1 (some .int), Cond.fieldLink RX5 26 "NightWater$Zones" "size" "I", Cond.methodLink RX4 79 yX5_leak, Cond.instanceMethod yX5_leak, Cond.selects RX5 yX5_leak yX5_leak, Cond.code yX5_leak cX5_leak 4 (some .int), Cond.constant RX5 44 (-2000000000), Cond.fieldLink RX5 15 "NightWater$Zones" "bigs" "[I", Cond.fieldLink RX5 11 "NightWater$Zones" "customers" "[I", Cond.fieldLink RX5 33 "NightWater$Zones" "use" "I", Cond.methodLink RX5 40 yX5_isNone, Cond.instanceMethod yX5_isNone, Cond.selects RX5 yX5_isNone yX5_isNone]
def wsX4_fewestSet_r2 : List Cond := [Cond.code yX5_isNone cX5_isNone 2 (some .boolean), Cond.static yX6_outside, Cond.initialized RX6, Cond.code yX6_outside cX6_outside 3 (some .boolean), Cond.methodLink RX5 45 yX5_lowHour, Cond.instanceMethod yX5_lowHour, Cond.selects RX5 yX5_lowHour yX5_lowHour, Cond.code yX5_lowHour cX5_lowHour 6 (some .int), Cond.fieldLink RX5 20 "NightWater$Zones" "ins" "[[I", Cond.fieldLink RX5 23 "NightWater$Zones" "outs" "[[I", Cond.methodLink RX5 53 yX5_greatestNet, Cond.instanceMethod yX5_greatestNet, Cond.selects RX5 yX5_greatestNet yX5_greatestNet, Cond.code yX5_greatestNet cX5_greatestNet 3 (some .int), Cond.methodLink RX5 66 yX5_greatestOf, Cond.instanceMethod yX5_greatestOf, Cond.selects RX5 yX5_greatestOf yX5_greatestOf, Cond.code yX5_greatestOf cX5_greatestOf 2 (some .int), Cond.fieldLink RX5 30 "NightWater$Zones" "error" "I", Cond.methodLink RX5 63 yX5_leastOf, Cond.instanceMethod yX5_leastOf, Cond.selects RX5 yX5_leastOf yX5_leastOf, Cond.code yX5_leastOf cX5_leastOf 2 (some .int), Cond.methodLink RX5 49 yX5_leastNet]
def wsX4_fewestSet_r3 : List Cond := [Cond.instanceMethod yX5_leastNet, Cond.selects RX5 yX5_leastNet yX5_leastNet, Cond.code yX5_leastNet cX5_leastNet 3 (some .int), Cond.methodLink RX4 58 yX4_allValves, Cond.instanceMethod yX4_allValves, Cond.selects RX4 yX4_allValves yX4_allValves, Cond.code yX4_allValves cX4_allValves 1 (some .int), Cond.fieldLink RX4 18 "NightWater$Valves" "size" "I", Cond.methodLink RX4 55 yX4_isExplained, Cond.instanceMethod yX4_isExplained, Cond.selects RX4 yX4_isExplained yX4_isExplained, Cond.code yX4_isExplained cX4_isExplained 4 (some .boolean), Cond.fieldLink RX4 30 "NightWater$Valves" "groupLeak" "[I", Cond.fieldLink RX4 33 "NightWater$Valves" "untold" "[Z", Cond.constant RX4 83 (-2000000000), Cond.fieldLink RX4 27 "NightWater$Valves" "leader" "[I", Cond.methodLink RX4 48 yX4_putTogether, Cond.instanceMethod yX4_putTogether, Cond.selects RX4 yX4_putTogether yX4_putTogether, Cond.code yX4_putTogether cX4_putTogether 3 none, Cond.fieldLink RX4 11 "NightWater$Valves" "from" "[I", Cond.fieldLink RX4 15 "NightWater$Valves" "to" "[I", Cond.methodLink RX4 84 yX4_join, Cond.instanceMethod yX4_join]
def wsX4_fewestSet_r4 : List Cond := [Cond.selects RX4 yX4_join yX4_join, Cond.code yX4_join cX4_join 6 none, Cond.methodLink RX4 88 Lib.Math.min.name, Cond.static Lib.Math.min.name, Cond.initialized "java/lang/Math", Cond.code Lib.Math.min.name Lib.Math.min.code 2 (some .int), Cond.methodLink RX4 93 Lib.Math.max.name, Cond.static Lib.Math.max.name, Cond.code Lib.Math.max.name Lib.Math.max.code 2 (some .int), Cond.methodLink RX4 62 yJ6_bitCount_0f7a4, Cond.static yJ6_bitCount_0f7a4, Cond.initialized RJ6, Cond.code yJ6_bitCount_0f7a4 cJ6_bitCount_0f7a4 1 (some .int), Cond.constant RJ6 265 (1431655765), Cond.constant RJ6 266 (858993459), Cond.constant RJ6 267 (252645135)]
def wsX4_fewestSet : List Cond := .code yX4_fewestSet cX4_fewestSet 4 (some .int) :: ((wsX4_fewestSet_r1 ++ (wsX4_fewestSet_r2 ++ (wsX4_fewestSet_r3 ++ wsX4_fewestSet_r4))) ++ wsX40 ++ wsX50)
def wsX4_mixInto : List Cond := .code yX4_mixInto cX4_mixInto 6 (some .long) :: ([.fieldLink RX4 18 "NightWater$Valves" "size" "I", .fieldLink RX4 11 "NightWater$Valves" "from" "[I", .fieldLink RX4 15 "NightWater$Valves" "to" "[I", .static yX6_mix, .initialized RX6, .code yX6_mix cX6_mix 3 (some .long), .constantLong RX6 149 (31)] ++ wsX40)
def wsX5_init : List Cond := .code yX5_init cX5_init 1 none :: ([.methodLink RX5 3 objectInit, .instanceMethod objectInit, .code objectInit ⟨#[0xb1]⟩ 1 none, .arrayClass .int, .fieldLink RX5 11 "NightWater$Zones" "customers" "[I", .fieldLink RX5 15 "NightWater$Zones" "bigs" "[I", .classLink RX5 18 "[[I", .fieldLink RX5 20 "NightWater$Zones" "ins" "[[I", .fieldLink RX5 23 "NightWater$Zones" "outs" "[[I", .fieldLink RX5 26 "NightWater$Zones" "size" "I", .fieldLink RX5 30 "NightWater$Zones" "error" "I", .fieldLink RX5 33 "NightWater$Zones" "use" "I"] ++ wsX50)
def wsX5_add : List Cond := .code yX5_add cX5_add 3 (some .int) :: ([.fieldLink RX5 26 "NightWater$Zones" "size" "I", .fieldLink RX5 11 "NightWater$Zones" "customers" "[I", .fieldLink RX5 15 "NightWater$Zones" "bigs" "[I", .static yX6_outside, .initialized RX6, .code yX6_outside cX6_outside 3 (some .boolean)] ++ wsX50)
def wsX5_setRules : List Cond := .code yX5_setRules cX5_setRules 3 (some .int) :: ([.fieldLink RX5 30 "NightWater$Zones" "error" "I", .fieldLink RX5 33 "NightWater$Zones" "use" "I", .static yX6_outside, .initialized RX6, .code yX6_outside cX6_outside 3 (some .boolean)] ++ wsX50)
def wsX5_setReading : List Cond := .code yX5_setReading cX5_setReading 7 (some .int) :: ([.fieldLink RX5 20 "NightWater$Zones" "ins" "[[I", .fieldLink RX5 23 "NightWater$Zones" "outs" "[[I", .methodLink RX5 40 yX5_isNone, .instanceMethod yX5_isNone, .selects RX5 yX5_isNone yX5_isNone, .initialized RX5, .code yX5_isNone cX5_isNone 2 (some .boolean), .fieldLink RX5 26 "NightWater$Zones" "size" "I", .static yX6_outside, .initialized RX6, .code yX6_outside cX6_outside 3 (some .boolean)] ++ wsX50)
def wsX5_lowPart_r1 : List Cond := [Cond.constant RX5 44 (-2000000000), Cond.methodLink RX5 40 yX5_isNone, Cond.instanceMethod yX5_isNone, Cond.selects RX5 yX5_isNone yX5_isNone, Cond.initialized RX5, Cond.code yX5_isNone cX5_isNone 2 (some .boolean), Cond.fieldLink RX5 26 "NightWater$Zones" "size" "I", Cond.static yX6_outside, Cond.initialized RX6, Cond.code yX6_outside cX6_outside 3 (some .boolean), Cond.methodLink RX5 45 yX5_lowHour, Cond.instanceMethod yX5_lowHour, Cond.selects RX5 yX5_lowHour yX5_lowHour, Cond.code yX5_lowHour cX5_lowHour 6 (some .int), Cond.fieldLink RX5 20 "NightWater$Zones" "ins" "[[I", Cond.fieldLink RX5 23 "NightWater$Zones" "outs" "[[I", Cond.methodLink RX5 53 yX5_greatestNet, Cond.instanceMethod yX5_greatestNet, Cond.selects RX5 yX5_greatestNet yX5_greatestNet, Cond.code yX5_greatestNet cX5_greatestNet 3 (some .int), Cond.methodLink RX5 66 yX5_greatestOf, Cond.instanceMethod yX5_greatestOf, Cond.selects RX5 yX5_greatestOf yX5_greatestOf, Cond.code yX5_greatestOf cX5_greatestOf 2 (some .int)]
def wsX5_lowPart_r2 : List Cond := [Cond.fieldLink RX5 30 "NightWater$Zones" "error" "I", Cond.methodLink RX5 63 yX5_leastOf, Cond.instanceMethod yX5_leastOf, Cond.selects RX5 yX5_leastOf yX5_leastOf, Cond.code yX5_leastOf cX5_leastOf 2 (some .int), Cond.methodLink RX5 49 yX5_leastNet, Cond.instanceMethod yX5_leastNet, Cond.selects RX5 yX5_leastNet yX5_leastNet, Cond.code yX5_leastNet cX5_leastNet 3 (some .int)]
def wsX5_lowPart : List Cond := .code yX5_lowPart cX5_lowPart 4 (some .int) :: ((wsX5_lowPart_r1 ++ wsX5_lowPart_r2) ++ wsX50)
def wsX5_readingsLost : List Cond := .code yX5_readingsLost cX5_readingsLost 4 (some .int) :: ([.fieldLink RX5 26 "NightWater$Zones" "size" "I", .fieldLink RX5 20 "NightWater$Zones" "ins" "[[I", .fieldLink RX5 23 "NightWater$Zones" "outs" "[[I"] ++ wsX50)
def wsX5_mixInto_r1 : List Cond := [Cond.fieldLink RX5 26 "NightWater$Zones" "size" "I", Cond.fieldLink RX5 20 "NightWater$Zones" "ins" "[[I", Cond.fieldLink RX5 23 "NightWater$Zones" "outs" "[[I", Cond.methodLink RX5 56 yX5_leak, Cond.instanceMethod yX5_leak, Cond.selects RX5 yX5_leak yX5_leak, Cond.initialized RX5, Cond.code yX5_leak cX5_leak 4 (some .int), Cond.constant RX5 44 (-2000000000), Cond.fieldLink RX5 15 "NightWater$Zones" "bigs" "[I", Cond.fieldLink RX5 11 "NightWater$Zones" "customers" "[I", Cond.fieldLink RX5 33 "NightWater$Zones" "use" "I", Cond.methodLink RX5 40 yX5_isNone, Cond.instanceMethod yX5_isNone, Cond.selects RX5 yX5_isNone yX5_isNone, Cond.code yX5_isNone cX5_isNone 2 (some .boolean), Cond.static yX6_outside, Cond.initialized RX6, Cond.code yX6_outside cX6_outside 3 (some .boolean), Cond.methodLink RX5 45 yX5_lowHour, Cond.instanceMethod yX5_lowHour, Cond.selects RX5 yX5_lowHour yX5_lowHour, Cond.code yX5_lowHour cX5_lowHour 6 (some .int), Cond.methodLink RX5 53 yX5_greatestNet]
def wsX5_mixInto_r2 : List Cond := [Cond.instanceMethod yX5_greatestNet, Cond.selects RX5 yX5_greatestNet yX5_greatestNet, Cond.code yX5_greatestNet cX5_greatestNet 3 (some .int), Cond.methodLink RX5 66 yX5_greatestOf, Cond.instanceMethod yX5_greatestOf, Cond.selects RX5 yX5_greatestOf yX5_greatestOf, Cond.code yX5_greatestOf cX5_greatestOf 2 (some .int), Cond.fieldLink RX5 30 "NightWater$Zones" "error" "I", Cond.methodLink RX5 63 yX5_leastOf, Cond.instanceMethod yX5_leastOf, Cond.selects RX5 yX5_leastOf yX5_leastOf, Cond.code yX5_leastOf cX5_leastOf 2 (some .int), Cond.methodLink RX5 49 yX5_leastNet, Cond.instanceMethod yX5_leastNet, Cond.selects RX5 yX5_leastNet yX5_leastNet, Cond.code yX5_leastNet cX5_leastNet 3 (some .int), Cond.static yX6_mix, Cond.code yX6_mix cX6_mix 3 (some .long), Cond.constantLong RX6 149 (31)]
def wsX5_mixInto : List Cond := .code yX5_mixInto cX5_mixInto 7 (some .long) :: ((wsX5_mixInto_r1 ++ wsX5_mixInto_r2) ++ wsX50)
def wsX6_init_r1 : List Cond := [Cond.methodLink RX6 1 objectInit, Cond.instanceMethod objectInit, Cond.code objectInit ⟨#[0xb1]⟩ 1 none, Cond.classLink RX6 7 RX5, Cond.instantiable RX5 7, Cond.initialized RX5, Cond.fieldLink RX6 10 "NightWater" "zones" "LNightWater$Zones;", Cond.classLink RX6 16 RX4, Cond.instantiable RX4 8, Cond.initialized RX4, Cond.fieldLink RX6 21 "NightWater" "valves" "LNightWater$Valves;", Cond.classLink RX6 25 RX1, Cond.instantiable RX1 1, Cond.initialized RX1, Cond.fieldLink RX6 28 "NightWater" "listeners" "LNightWater$Listeners;", Cond.classLink RX6 32 RX3, Cond.instantiable RX3 4, Cond.initialized RX3, Cond.fieldLink RX6 35 "NightWater" "steps" "LNightWater$Steps;", Cond.classLink RX6 39 RX0, Cond.instantiable RX0 4, Cond.initialized RX0, Cond.fieldLink RX6 42 "NightWater" "digs" "LNightWater$Digs;", Cond.instanceMethod yX5_init]
def wsX6_init_r2 : List Cond := [Cond.code yX5_init cX5_init 1 none, Cond.methodLink RX5 3 objectInit, Cond.arrayClass .int, Cond.fieldLink RX5 11 "NightWater$Zones" "customers" "[I", Cond.fieldLink RX5 15 "NightWater$Zones" "bigs" "[I", Cond.classLink RX5 18 "[[I", Cond.fieldLink RX5 20 "NightWater$Zones" "ins" "[[I", Cond.fieldLink RX5 23 "NightWater$Zones" "outs" "[[I", Cond.fieldLink RX5 26 "NightWater$Zones" "size" "I", Cond.fieldLink RX5 30 "NightWater$Zones" "error" "I", Cond.fieldLink RX5 33 "NightWater$Zones" "use" "I", Cond.methodLink RX6 18 yX4_init, Cond.instanceMethod yX4_init, Cond.code yX4_init cX4_init 2 none, Cond.methodLink RX4 3 objectInit, Cond.fieldLink RX4 11 "NightWater$Valves" "from" "[I", Cond.fieldLink RX4 15 "NightWater$Valves" "to" "[I", Cond.fieldLink RX4 18 "NightWater$Valves" "size" "I", Cond.fieldLink RX4 24 "NightWater$Valves" "zoneLeak" "[I", Cond.fieldLink RX4 27 "NightWater$Valves" "leader" "[I", Cond.fieldLink RX4 30 "NightWater$Valves" "groupLeak" "[I", Cond.arrayClass .boolean, Cond.fieldLink RX4 33 "NightWater$Valves" "untold" "[Z", Cond.fieldLink RX4 37 "NightWater$Valves" "zones" "LNightWater$Zones;"]
def wsX6_init_r3 : List Cond := [Cond.instanceMethod yX1_init, Cond.code yX1_init cX1_init 1 none, Cond.methodLink RX1 3 objectInit, Cond.classLink RX1 11 "[[I", Cond.fieldLink RX1 13 "NightWater$Listeners" "rows" "[[I", Cond.methodLink RX6 34 yX3_init, Cond.instanceMethod yX3_init, Cond.code yX3_init cX3_init 1 none, Cond.methodLink RX3 3 objectInit, Cond.fieldLink RX3 11 "NightWater$Steps" "weights" "[I", Cond.fieldLink RX3 15 "NightWater$Steps" "size" "I", Cond.classLink RX3 19 "[[I", Cond.fieldLink RX3 21 "NightWater$Steps" "costs" "[[I", Cond.fieldLink RX3 24 "NightWater$Steps" "starts" "[[I", Cond.methodLink RX3 27 yX3_planAll, Cond.instanceMethod yX3_planAll, Cond.selects RX3 yX3_planAll yX3_planAll, Cond.code yX3_planAll cX3_planAll 4 none, Cond.methodLink RX3 42 yX3_planStretch, Cond.instanceMethod yX3_planStretch, Cond.selects RX3 yX3_planStretch yX3_planStretch, Cond.code yX3_planStretch cX3_planStretch 6 none, Cond.methodLink RX3 46 yX3_costOfParts, Cond.instanceMethod yX3_costOfParts]
def wsX6_init_r4 : List Cond := [Cond.selects RX3 yX3_costOfParts yX3_costOfParts, Cond.code yX3_costOfParts cX3_costOfParts 4 (some .int), Cond.instanceMethod yX0_init, Cond.code yX0_init cX0_init 1 none, Cond.methodLink RX0 3 objectInit, Cond.fieldLink RX0 11 "NightWater$Digs" "losses" "[I", Cond.fieldLink RX0 15 "NightWater$Digs" "durations" "[I", Cond.fieldLink RX0 18 "NightWater$Digs" "ranked" "[I", Cond.fieldLink RX0 21 "NightWater$Digs" "size" "I"]
def wsX6_init : List Cond := .code yX6_init cX6_init 1 none :: ((wsX6_init_r1 ++ (wsX6_init_r2 ++ (wsX6_init_r3 ++ wsX6_init_r4))) ++ wsX50 ++ wsX60 ++ wsX40 ++ wsX10 ++ wsX30 ++ wsX00)
def wsX6_zone : List Cond := .code yX6_zone cX6_zone 3 (some .int) :: ([.fieldLink RX6 10 "NightWater" "zones" "LNightWater$Zones;", .methodLink RX6 46 yX5_add, .instanceMethod yX5_add, .selects RX5 yX5_add yX5_add, .initialized RX5, .code yX5_add cX5_add 3 (some .int), .fieldLink RX5 26 "NightWater$Zones" "size" "I", .fieldLink RX5 11 "NightWater$Zones" "customers" "[I", .fieldLink RX5 15 "NightWater$Zones" "bigs" "[I", .static yX6_outside, .initialized RX6, .code yX6_outside cX6_outside 3 (some .boolean)] ++ wsX60 ++ wsX50)
def wsX6_rules : List Cond := .code yX6_rules cX6_rules 3 (some .int) :: ([.fieldLink RX6 10 "NightWater" "zones" "LNightWater$Zones;", .methodLink RX6 50 yX5_setRules, .instanceMethod yX5_setRules, .selects RX5 yX5_setRules yX5_setRules, .initialized RX5, .code yX5_setRules cX5_setRules 3 (some .int), .fieldLink RX5 30 "NightWater$Zones" "error" "I", .fieldLink RX5 33 "NightWater$Zones" "use" "I", .static yX6_outside, .initialized RX6, .code yX6_outside cX6_outside 3 (some .boolean)] ++ wsX60 ++ wsX50)
def wsX6_read : List Cond := .code yX6_read cX6_read 5 (some .int) :: ([.fieldLink RX6 10 "NightWater" "zones" "LNightWater$Zones;", .methodLink RX6 53 yX5_setReading, .instanceMethod yX5_setReading, .selects RX5 yX5_setReading yX5_setReading, .initialized RX5, .code yX5_setReading cX5_setReading 7 (some .int), .fieldLink RX5 20 "NightWater$Zones" "ins" "[[I", .fieldLink RX5 23 "NightWater$Zones" "outs" "[[I", .methodLink RX5 40 yX5_isNone, .instanceMethod yX5_isNone, .selects RX5 yX5_isNone yX5_isNone, .code yX5_isNone cX5_isNone 2 (some .boolean), .fieldLink RX5 26 "NightWater$Zones" "size" "I", .static yX6_outside, .initialized RX6, .code yX6_outside cX6_outside 3 (some .boolean)] ++ wsX60 ++ wsX50)
def wsX6_low_r1 : List Cond := [Cond.fieldLink RX6 10 "NightWater" "zones" "LNightWater$Zones;", Cond.methodLink RX6 57 yX5_lowPart, Cond.instanceMethod yX5_lowPart, Cond.selects RX5 yX5_lowPart yX5_lowPart, Cond.initialized RX5, Cond.code yX5_lowPart cX5_lowPart 4 (some .int), Cond.constant RX5 44 (-2000000000), Cond.methodLink RX5 40 yX5_isNone, Cond.instanceMethod yX5_isNone, Cond.selects RX5 yX5_isNone yX5_isNone, Cond.code yX5_isNone cX5_isNone 2 (some .boolean), Cond.fieldLink RX5 26 "NightWater$Zones" "size" "I", Cond.static yX6_outside, Cond.initialized RX6, Cond.code yX6_outside cX6_outside 3 (some .boolean), Cond.methodLink RX5 45 yX5_lowHour, Cond.instanceMethod yX5_lowHour, Cond.selects RX5 yX5_lowHour yX5_lowHour, Cond.code yX5_lowHour cX5_lowHour 6 (some .int), Cond.fieldLink RX5 20 "NightWater$Zones" "ins" "[[I", Cond.fieldLink RX5 23 "NightWater$Zones" "outs" "[[I", Cond.methodLink RX5 53 yX5_greatestNet, Cond.instanceMethod yX5_greatestNet, Cond.selects RX5 yX5_greatestNet yX5_greatestNet]
def wsX6_low_r2 : List Cond := [Cond.code yX5_greatestNet cX5_greatestNet 3 (some .int), Cond.methodLink RX5 66 yX5_greatestOf, Cond.instanceMethod yX5_greatestOf, Cond.selects RX5 yX5_greatestOf yX5_greatestOf, Cond.code yX5_greatestOf cX5_greatestOf 2 (some .int), Cond.fieldLink RX5 30 "NightWater$Zones" "error" "I", Cond.methodLink RX5 63 yX5_leastOf, Cond.instanceMethod yX5_leastOf, Cond.selects RX5 yX5_leastOf yX5_leastOf, Cond.code yX5_leastOf cX5_leastOf 2 (some .int), Cond.methodLink RX5 49 yX5_leastNet, Cond.instanceMethod yX5_leastNet, Cond.selects RX5 yX5_leastNet yX5_leastNet, Cond.code yX5_leastNet cX5_leastNet 3 (some .int)]
def wsX6_low : List Cond := .code yX6_low cX6_low 3 (some .int) :: ((wsX6_low_r1 ++ wsX6_low_r2) ++ wsX60 ++ wsX50)
def wsX6_leaks_r1 : List Cond := [Cond.fieldLink RX6 10 "NightWater" "zones" "LNightWater$Zones;", Cond.methodLink RX6 60 yX5_leak, Cond.instanceMethod yX5_leak, Cond.selects RX5 yX5_leak yX5_leak, Cond.initialized RX5, Cond.code yX5_leak cX5_leak 4 (some .int), Cond.constant RX5 44 (-2000000000), Cond.fieldLink RX5 15 "NightWater$Zones" "bigs" "[I", Cond.fieldLink RX5 11 "NightWater$Zones" "customers" "[I", Cond.fieldLink RX5 33 "NightWater$Zones" "use" "I", Cond.methodLink RX5 40 yX5_isNone, Cond.instanceMethod yX5_isNone, Cond.selects RX5 yX5_isNone yX5_isNone, Cond.code yX5_isNone cX5_isNone 2 (some .boolean), Cond.fieldLink RX5 26 "NightWater$Zones" "size" "I", Cond.static yX6_outside, Cond.initialized RX6, Cond.code yX6_outside cX6_outside 3 (some .boolean), Cond.methodLink RX5 45 yX5_lowHour, Cond.instanceMethod yX5_lowHour, Cond.selects RX5 yX5_lowHour yX5_lowHour, Cond.code yX5_lowHour cX5_lowHour 6 (some .int), Cond.fieldLink RX5 20 "NightWater$Zones" "ins" "[[I", Cond.fieldLink RX5 23 "NightWater$Zones" "outs" "[[I"]
def wsX6_leaks_r2 : List Cond := [Cond.methodLink RX5 53 yX5_greatestNet, Cond.instanceMethod yX5_greatestNet, Cond.selects RX5 yX5_greatestNet yX5_greatestNet, Cond.code yX5_greatestNet cX5_greatestNet 3 (some .int), Cond.methodLink RX5 66 yX5_greatestOf, Cond.instanceMethod yX5_greatestOf, Cond.selects RX5 yX5_greatestOf yX5_greatestOf, Cond.code yX5_greatestOf cX5_greatestOf 2 (some .int), Cond.fieldLink RX5 30 "NightWater$Zones" "error" "I", Cond.methodLink RX5 63 yX5_leastOf, Cond.instanceMethod yX5_leastOf, Cond.selects RX5 yX5_leastOf yX5_leastOf, Cond.code yX5_leastOf cX5_leastOf 2 (some .int), Cond.methodLink RX5 49 yX5_leastNet, Cond.instanceMethod yX5_leastNet, Cond.selects RX5 yX5_leastNet yX5_leastNet, Cond.code yX5_leastNet cX5_leastNet 3 (some .int)]
def wsX6_leaks : List Cond := .code yX6_leaks cX6_leaks 3 (some .int) :: ((wsX6_leaks_r1 ++ wsX6_leaks_r2) ++ wsX60 ++ wsX50)
def wsX6_valve : List Cond := .code yX6_valve cX6_valve 3 (some .int) :: ([.fieldLink RX6 21 "NightWater" "valves" "LNightWater$Valves;", .methodLink RX6 63 yX4_add, .instanceMethod yX4_add, .selects RX4 yX4_add yX4_add, .initialized RX4, .code yX4_add cX4_add 3 (some .int), .fieldLink RX4 37 "NightWater$Valves" "zones" "LNightWater$Zones;", .fieldLink RX4 18 "NightWater$Valves" "size" "I", .fieldLink RX4 11 "NightWater$Valves" "from" "[I", .fieldLink RX4 15 "NightWater$Valves" "to" "[I", .methodLink RX4 41 yX5_isNone, .instanceMethod yX5_isNone, .selects RX5 yX5_isNone yX5_isNone, .initialized RX5, .code yX5_isNone cX5_isNone 2 (some .boolean), .fieldLink RX5 26 "NightWater$Zones" "size" "I", .static yX6_outside, .initialized RX6, .code yX6_outside cX6_outside 3 (some .boolean)] ++ wsX60 ++ wsX40 ++ wsX50)
def wsX6_group_r1 : List Cond := [Cond.fieldLink RX6 21 "NightWater" "valves" "LNightWater$Valves;", Cond.methodLink RX6 64 yX4_leastOfGroup, Cond.instanceMethod yX4_leastOfGroup, Cond.selects RX4 yX4_leastOfGroup yX4_leastOfGroup, Cond.initialized RX4, Cond.code yX4_leastOfGroup cX4_leastOfGroup 3 (some .int), Cond.fieldLink RX4 37 "NightWater$Valves" "zones" "LNightWater$Zones;", Cond.fieldLink RX4 27 "NightWater$Valves" "leader" "[I", Cond.methodLink RX4 41 yX5_isNone, Cond.instanceMethod yX5_isNone, Cond.selects RX5 yX5_isNone yX5_isNone, Cond.initialized RX5, Cond.code yX5_isNone cX5_isNone 2 (some .boolean), Cond.fieldLink RX5 26 "NightWater$Zones" "size" "I", Cond.static yX6_outside, Cond.initialized RX6, Cond.code yX6_outside cX6_outside 3 (some .boolean), Cond.methodLink RX4 45 yX4_isNoSet, Cond.instanceMethod yX4_isNoSet, Cond.selects RX4 yX4_isNoSet yX4_isNoSet, Cond.code yX4_isNoSet cX4_isNoSet 2 (some .boolean), Cond.methodLink RX4 58 yX4_allValves, Cond.instanceMethod yX4_allValves, Cond.selects RX4 yX4_allValves yX4_allValves]
def wsX6_group_r2 : List Cond := [Cond.code yX4_allValves cX4_allValves 1 (some .int), Cond.fieldLink RX4 18 "NightWater$Valves" "size" "I", Cond.methodLink RX4 48 yX4_putTogether, Cond.instanceMethod yX4_putTogether, Cond.selects RX4 yX4_putTogether yX4_putTogether, Cond.code yX4_putTogether cX4_putTogether 3 none, Cond.fieldLink RX4 11 "NightWater$Valves" "from" "[I", Cond.fieldLink RX4 15 "NightWater$Valves" "to" "[I", Cond.methodLink RX4 76 yX5_number, Cond.instanceMethod yX5_number, Cond.selects RX5 yX5_number yX5_number, Cond.code yX5_number cX5_number 1 (some .int), Cond.methodLink RX4 84 yX4_join, Cond.instanceMethod yX4_join, Cond.selects RX4 yX4_join yX4_join, Cond.code yX4_join cX4_join 6 none, Cond.methodLink RX4 88 Lib.Math.min.name, Cond.static Lib.Math.min.name, Cond.initialized "java/lang/Math", Cond.code Lib.Math.min.name Lib.Math.min.code 2 (some .int), Cond.methodLink RX4 93 Lib.Math.max.name, Cond.static Lib.Math.max.name, Cond.code Lib.Math.max.name Lib.Math.max.code 2 (some .int)]
def wsX6_group : List Cond := .code yX6_group cX6_group 3 (some .int) :: ((wsX6_group_r1 ++ wsX6_group_r2) ++ wsX60 ++ wsX40 ++ wsX50)
def wsX6_explains_r1 : List Cond := [Cond.fieldLink RX6 21 "NightWater" "valves" "LNightWater$Valves;", Cond.methodLink RX6 67 yX4_answerExplains, Cond.instanceMethod yX4_answerExplains, Cond.selects RX4 yX4_answerExplains yX4_answerExplains, Cond.initialized RX4, Cond.code yX4_answerExplains cX4_answerExplains 2 (some .int), Cond.methodLink RX4 45 yX4_isNoSet, Cond.instanceMethod yX4_isNoSet, Cond.selects RX4 yX4_isNoSet yX4_isNoSet, Cond.code yX4_isNoSet cX4_isNoSet 2 (some .boolean), Cond.methodLink RX4 58 yX4_allValves, Cond.instanceMethod yX4_allValves, Cond.selects RX4 yX4_allValves yX4_allValves, Cond.code yX4_allValves cX4_allValves 1 (some .int), Cond.fieldLink RX4 18 "NightWater$Valves" "size" "I", Cond.static yX6_outside, Cond.initialized RX6, Cond.code yX6_outside cX6_outside 3 (some .boolean), Cond.methodLink RX4 52 yX4_reckonLeaks, Cond.instanceMethod yX4_reckonLeaks, Cond.selects RX4 yX4_reckonLeaks yX4_reckonLeaks, Cond.code yX4_reckonLeaks cX4_reckonLeaks 2 none, Cond.fieldLink RX4 37 "NightWater$Valves" "zones" "LNightWater$Zones;", Cond.fieldLink RX4 24 "NightWater$Valves" "zoneLeak" "[I"]
def wsX6_explains_r2 : List Cond := [Cond.methodLink RX4 76 yX5_number, Cond.instanceMethod yX5_number, Cond.selects RX5 yX5_number yX5_number, Cond.initialized RX5, Cond.code yX5_number cX5_number 1 (some .int), Cond.fieldLink RX5 26 "NightWater$Zones" "size" "I", Cond.methodLink RX4 79 yX5_leak, Cond.instanceMethod yX5_leak, Cond.selects RX5 yX5_leak yX5_leak, Cond.code yX5_leak cX5_leak 4 (some .int), Cond.constant RX5 44 (-2000000000), Cond.fieldLink RX5 15 "NightWater$Zones" "bigs" "[I", Cond.fieldLink RX5 11 "NightWater$Zones" "customers" "[I", Cond.fieldLink RX5 33 "NightWater$Zones" "use" "I", Cond.methodLink RX5 40 yX5_isNone, Cond.instanceMethod yX5_isNone, Cond.selects RX5 yX5_isNone yX5_isNone, Cond.code yX5_isNone cX5_isNone 2 (some .boolean), Cond.methodLink RX5 45 yX5_lowHour, Cond.instanceMethod yX5_lowHour, Cond.selects RX5 yX5_lowHour yX5_lowHour, Cond.code yX5_lowHour cX5_lowHour 6 (some .int), Cond.fieldLink RX5 20 "NightWater$Zones" "ins" "[[I", Cond.fieldLink RX5 23 "NightWater$Zones" "outs" "[[I"]
def wsX6_explains_r3 : List Cond := [Cond.methodLink RX5 53 yX5_greatestNet, Cond.instanceMethod yX5_greatestNet, Cond.selects RX5 yX5_greatestNet yX5_greatestNet, Cond.code yX5_greatestNet cX5_greatestNet 3 (some .int), Cond.methodLink RX5 66 yX5_greatestOf, Cond.instanceMethod yX5_greatestOf, Cond.selects RX5 yX5_greatestOf yX5_greatestOf, Cond.code yX5_greatestOf cX5_greatestOf 2 (some .int), Cond.fieldLink RX5 30 "NightWater$Zones" "error" "I", Cond.methodLink RX5 63 yX5_leastOf, Cond.instanceMethod yX5_leastOf, Cond.selects RX5 yX5_leastOf yX5_leastOf, Cond.code yX5_leastOf cX5_leastOf 2 (some .int), Cond.methodLink RX5 49 yX5_leastNet, Cond.instanceMethod yX5_leastNet, Cond.selects RX5 yX5_leastNet yX5_leastNet, Cond.code yX5_leastNet cX5_leastNet 3 (some .int), Cond.methodLink RX4 55 yX4_isExplained, Cond.instanceMethod yX4_isExplained, Cond.selects RX4 yX4_isExplained yX4_isExplained, Cond.code yX4_isExplained cX4_isExplained 4 (some .boolean), Cond.fieldLink RX4 30 "NightWater$Valves" "groupLeak" "[I", Cond.fieldLink RX4 33 "NightWater$Valves" "untold" "[Z", Cond.constant RX4 83 (-2000000000)]
def wsX6_explains_r4 : List Cond := [Cond.fieldLink RX4 27 "NightWater$Valves" "leader" "[I", Cond.methodLink RX4 48 yX4_putTogether, Cond.instanceMethod yX4_putTogether, Cond.selects RX4 yX4_putTogether yX4_putTogether, Cond.code yX4_putTogether cX4_putTogether 3 none, Cond.fieldLink RX4 11 "NightWater$Valves" "from" "[I", Cond.fieldLink RX4 15 "NightWater$Valves" "to" "[I", Cond.methodLink RX4 84 yX4_join, Cond.instanceMethod yX4_join, Cond.selects RX4 yX4_join yX4_join, Cond.code yX4_join cX4_join 6 none, Cond.methodLink RX4 88 Lib.Math.min.name, Cond.static Lib.Math.min.name, Cond.initialized "java/lang/Math", Cond.code Lib.Math.min.name Lib.Math.min.code 2 (some .int), Cond.methodLink RX4 93 Lib.Math.max.name, Cond.static Lib.Math.max.name, Cond.code Lib.Math.max.name Lib.Math.max.code 2 (some .int)]
def wsX6_explains : List Cond := .code yX6_explains cX6_explains 2 (some .int) :: ((wsX6_explains_r1 ++ (wsX6_explains_r2 ++ (wsX6_explains_r3 ++ wsX6_explains_r4))) ++ wsX60 ++ wsX40 ++ wsX50)
def wsX6_fewest_r1 : List Cond := [Cond.fieldLink RX6 21 "NightWater" "valves" "LNightWater$Valves;", Cond.methodLink RX6 71 yX4_fewestSet, Cond.instanceMethod yX4_fewestSet, Cond.selects RX4 yX4_fewestSet yX4_fewestSet, Cond.initialized RX4, Cond.code yX4_fewestSet cX4_fewestSet 4 (some .int), Cond.methodLink RX4 52 yX4_reckonLeaks, Cond.instanceMethod yX4_reckonLeaks, Cond.selects RX4 yX4_reckonLeaks yX4_reckonLeaks, Cond.code yX4_reckonLeaks cX4_reckonLeaks 2 none, Cond.fieldLink RX4 37 "NightWater$Valves" "zones" "LNightWater$Zones;", Cond.fieldLink RX4 24 "NightWater$Valves" "zoneLeak" "[I", Cond.methodLink RX4 76 yX5_number, Cond.instanceMethod yX5_number, Cond.selects RX5 yX5_number yX5_number, Cond.initialized RX5, Cond.code yX5_number cX5_number 1 (some .int), Cond.fieldLink RX5 26 "NightWater$Zones" "size" "I", Cond.methodLink RX4 79 yX5_leak, Cond.instanceMethod yX5_leak, Cond.selects RX5 yX5_leak yX5_leak, Cond.code yX5_leak cX5_leak 4 (some .int), Cond.constant RX5 44 (-2000000000), Cond.fieldLink RX5 15 "NightWater$Zones" "bigs" "[I"]
def wsX6_fewest_r2 : List Cond := [Cond.fieldLink RX5 11 "NightWater$Zones" "customers" "[I", Cond.fieldLink RX5 33 "NightWater$Zones" "use" "I", Cond.methodLink RX5 40 yX5_isNone, Cond.instanceMethod yX5_isNone, Cond.selects RX5 yX5_isNone yX5_isNone, Cond.code yX5_isNone cX5_isNone 2 (some .boolean), Cond.static yX6_outside, Cond.initialized RX6, Cond.code yX6_outside cX6_outside 3 (some .boolean), Cond.methodLink RX5 45 yX5_lowHour, Cond.instanceMethod yX5_lowHour, Cond.selects RX5 yX5_lowHour yX5_lowHour, Cond.code yX5_lowHour cX5_lowHour 6 (some .int), Cond.fieldLink RX5 20 "NightWater$Zones" "ins" "[[I", Cond.fieldLink RX5 23 "NightWater$Zones" "outs" "[[I", Cond.methodLink RX5 53 yX5_greatestNet, Cond.instanceMethod yX5_greatestNet, Cond.selects RX5 yX5_greatestNet yX5_greatestNet, Cond.code yX5_greatestNet cX5_greatestNet 3 (some .int), Cond.methodLink RX5 66 yX5_greatestOf, Cond.instanceMethod yX5_greatestOf, Cond.selects RX5 yX5_greatestOf yX5_greatestOf, Cond.code yX5_greatestOf cX5_greatestOf 2 (some .int), Cond.fieldLink RX5 30 "NightWater$Zones" "error" "I"]
def wsX6_fewest_r3 : List Cond := [Cond.methodLink RX5 63 yX5_leastOf, Cond.instanceMethod yX5_leastOf, Cond.selects RX5 yX5_leastOf yX5_leastOf, Cond.code yX5_leastOf cX5_leastOf 2 (some .int), Cond.methodLink RX5 49 yX5_leastNet, Cond.instanceMethod yX5_leastNet, Cond.selects RX5 yX5_leastNet yX5_leastNet, Cond.code yX5_leastNet cX5_leastNet 3 (some .int), Cond.methodLink RX4 58 yX4_allValves, Cond.instanceMethod yX4_allValves, Cond.selects RX4 yX4_allValves yX4_allValves, Cond.code yX4_allValves cX4_allValves 1 (some .int), Cond.fieldLink RX4 18 "NightWater$Valves" "size" "I", Cond.methodLink RX4 55 yX4_isExplained, Cond.instanceMethod yX4_isExplained, Cond.selects RX4 yX4_isExplained yX4_isExplained, Cond.code yX4_isExplained cX4_isExplained 4 (some .boolean), Cond.fieldLink RX4 30 "NightWater$Valves" "groupLeak" "[I", Cond.fieldLink RX4 33 "NightWater$Valves" "untold" "[Z", Cond.constant RX4 83 (-2000000000), Cond.fieldLink RX4 27 "NightWater$Valves" "leader" "[I", Cond.methodLink RX4 48 yX4_putTogether, Cond.instanceMethod yX4_putTogether, Cond.selects RX4 yX4_putTogether yX4_putTogether]
def wsX6_fewest_r4 : List Cond := [Cond.code yX4_putTogether cX4_putTogether 3 none, Cond.fieldLink RX4 11 "NightWater$Valves" "from" "[I", Cond.fieldLink RX4 15 "NightWater$Valves" "to" "[I", Cond.methodLink RX4 84 yX4_join, Cond.instanceMethod yX4_join, Cond.selects RX4 yX4_join yX4_join, Cond.code yX4_join cX4_join 6 none, Cond.methodLink RX4 88 Lib.Math.min.name, Cond.static Lib.Math.min.name, Cond.initialized "java/lang/Math", Cond.code Lib.Math.min.name Lib.Math.min.code 2 (some .int), Cond.methodLink RX4 93 Lib.Math.max.name, Cond.static Lib.Math.max.name, Cond.code Lib.Math.max.name Lib.Math.max.code 2 (some .int), Cond.methodLink RX4 62 yJ6_bitCount_0f7a4, Cond.static yJ6_bitCount_0f7a4, Cond.initialized RJ6, Cond.code yJ6_bitCount_0f7a4 cJ6_bitCount_0f7a4 1 (some .int), Cond.constant RJ6 265 (1431655765), Cond.constant RJ6 266 (858993459), Cond.constant RJ6 267 (252645135)]
def wsX6_fewest : List Cond := .code yX6_fewest cX6_fewest 1 (some .int) :: ((wsX6_fewest_r1 ++ (wsX6_fewest_r2 ++ (wsX6_fewest_r3 ++ wsX6_fewest_r4))) ++ wsX60 ++ wsX40 ++ wsX50)
def wsX6_sample : List Cond := .code yX6_sample cX6_sample 4 (some .int) :: ([.fieldLink RX6 28 "NightWater" "listeners" "LNightWater$Listeners;", .methodLink RX6 75 yX1_setSample, .instanceMethod yX1_setSample, .selects RX1 yX1_setSample yX1_setSample, .initialized RX1, .code yX1_setSample cX1_setSample 4 (some .int), .constant RX1 20 (-2000000000), .fieldLink RX1 13 "NightWater$Listeners" "rows" "[[I", .static yX6_outside, .initialized RX6, .code yX6_outside cX6_outside 3 (some .boolean)] ++ wsX60 ++ wsX10)
def wsX6_echo : List Cond := .code yX6_echo cX6_echo 5 (some .int) :: ([.fieldLink RX6 28 "NightWater" "listeners" "LNightWater$Listeners;", .methodLink RX6 79 yX1_copySamples, .instanceMethod yX1_copySamples, .selects RX1 yX1_copySamples yX1_copySamples, .initialized RX1, .code yX1_copySamples cX1_copySamples 6 (some .int), .fieldLink RX1 13 "NightWater$Listeners" "rows" "[[I", .static yX6_outside, .initialized RX6, .code yX6_outside cX6_outside 3 (some .boolean)] ++ wsX60 ++ wsX10)
def wsX6_sum : List Cond := .code yX6_sum cX6_sum 3 (some .int) :: ([.fieldLink RX6 28 "NightWater" "listeners" "LNightWater$Listeners;", .methodLink RX6 83 yX1_sumPart, .instanceMethod yX1_sumPart, .selects RX1 yX1_sumPart yX1_sumPart, .initialized RX1, .code yX1_sumPart cX1_sumPart 3 (some .int), .constant RX1 20 (-2000000000), .static yX6_outside, .initialized RX6, .code yX6_outside cX6_outside 3 (some .boolean), .methodLink RX1 21 yX1_sumAt, .instanceMethod yX1_sumAt, .selects RX1 yX1_sumAt yX1_sumAt, .code yX1_sumAt cX1_sumAt 4 (some .int), .fieldLink RX1 13 "NightWater$Listeners" "rows" "[[I", .methodLink RX1 55 yX1_isPair, .instanceMethod yX1_isPair, .selects RX1 yX1_isPair yX1_isPair, .code yX1_isPair cX1_isPair 3 (some .boolean), .methodLink RX1 25 yX1_pairsAt, .instanceMethod yX1_pairsAt, .selects RX1 yX1_pairsAt yX1_pairsAt, .code yX1_pairsAt cX1_pairsAt 4 (some .int)] ++ wsX60 ++ wsX10)
def wsX6_delay_r1 : List Cond := [Cond.fieldLink RX6 28 "NightWater" "listeners" "LNightWater$Listeners;", Cond.methodLink RX6 86 yX1_findDelay, Cond.instanceMethod yX1_findDelay, Cond.selects RX1 yX1_findDelay yX1_findDelay, Cond.initialized RX1, Cond.code yX1_findDelay cX1_findDelay 3 (some .int), Cond.methodLink RX1 28 yX1_bestDelayAwayFrom, Cond.instanceMethod yX1_bestDelayAwayFrom, Cond.selects RX1 yX1_bestDelayAwayFrom yX1_bestDelayAwayFrom, Cond.code yX1_bestDelayAwayFrom cX1_bestDelayAwayFrom 13 (some .int), Cond.methodLink RX1 52 Lib.Math.abs.name, Cond.static Lib.Math.abs.name, Cond.initialized "java/lang/Math", Cond.code Lib.Math.abs.name Lib.Math.abs.code 1 (some .int), Cond.methodLink RX1 21 yX1_sumAt, Cond.instanceMethod yX1_sumAt, Cond.selects RX1 yX1_sumAt yX1_sumAt, Cond.code yX1_sumAt cX1_sumAt 4 (some .int), Cond.fieldLink RX1 13 "NightWater$Listeners" "rows" "[[I", Cond.methodLink RX1 55 yX1_isPair, Cond.instanceMethod yX1_isPair, Cond.selects RX1 yX1_isPair yX1_isPair, Cond.code yX1_isPair cX1_isPair 3 (some .boolean), Cond.constant RX1 20 (-2000000000)]
def wsX6_delay_r2 : List Cond := [Cond.static yX6_outside, Cond.initialized RX6, Cond.code yX6_outside cX6_outside 3 (some .boolean), Cond.methodLink RX1 25 yX1_pairsAt, Cond.instanceMethod yX1_pairsAt, Cond.selects RX1 yX1_pairsAt yX1_pairsAt, Cond.code yX1_pairsAt cX1_pairsAt 4 (some .int)]
def wsX6_delay : List Cond := .code yX6_delay cX6_delay 2 (some .int) :: ((wsX6_delay_r1 ++ wsX6_delay_r2) ++ wsX60 ++ wsX10)
def wsX6_place_r1 : List Cond := [Cond.fieldLink RX6 28 "NightWater" "listeners" "LNightWater$Listeners;", Cond.methodLink RX6 90 yX1_twicePlace, Cond.instanceMethod yX1_twicePlace, Cond.selects RX1 yX1_twicePlace yX1_twicePlace, Cond.initialized RX1, Cond.code yX1_twicePlace cX1_twicePlace 8 (some .int), Cond.constant RX1 31 (100000), Cond.methodLink RX1 40 Lib.Math.min.name, Cond.static Lib.Math.min.name, Cond.initialized "java/lang/Math", Cond.code Lib.Math.min.name Lib.Math.min.code 2 (some .int), Cond.methodLink RX1 45 Lib.Math.max.name, Cond.static Lib.Math.max.name, Cond.code Lib.Math.max.name Lib.Math.max.code 2 (some .int), Cond.static yX6_outside, Cond.initialized RX6, Cond.code yX6_outside cX6_outside 3 (some .boolean), Cond.methodLink RX1 32 yX1_findDelay, Cond.instanceMethod yX1_findDelay, Cond.selects RX1 yX1_findDelay yX1_findDelay, Cond.code yX1_findDelay cX1_findDelay 3 (some .int), Cond.methodLink RX1 28 yX1_bestDelayAwayFrom, Cond.instanceMethod yX1_bestDelayAwayFrom, Cond.selects RX1 yX1_bestDelayAwayFrom yX1_bestDelayAwayFrom]
def wsX6_place_r2 : List Cond := [Cond.code yX1_bestDelayAwayFrom cX1_bestDelayAwayFrom 13 (some .int), Cond.methodLink RX1 52 Lib.Math.abs.name, Cond.static Lib.Math.abs.name, Cond.code Lib.Math.abs.name Lib.Math.abs.code 1 (some .int), Cond.methodLink RX1 21 yX1_sumAt, Cond.instanceMethod yX1_sumAt, Cond.selects RX1 yX1_sumAt yX1_sumAt, Cond.code yX1_sumAt cX1_sumAt 4 (some .int), Cond.fieldLink RX1 13 "NightWater$Listeners" "rows" "[[I", Cond.methodLink RX1 55 yX1_isPair, Cond.instanceMethod yX1_isPair, Cond.selects RX1 yX1_isPair yX1_isPair, Cond.code yX1_isPair cX1_isPair 3 (some .boolean), Cond.constant RX1 20 (-2000000000), Cond.methodLink RX1 25 yX1_pairsAt, Cond.instanceMethod yX1_pairsAt, Cond.selects RX1 yX1_pairsAt yX1_pairsAt, Cond.code yX1_pairsAt cX1_pairsAt 4 (some .int), Cond.methodLink RX1 36 yX1_onPipe, Cond.static yX1_onPipe, Cond.code yX1_onPipe cX1_onPipe 2 (some .int)]
def wsX6_place : List Cond := .code yX6_place cX6_place 5 (some .int) :: ((wsX6_place_r1 ++ wsX6_place_r2) ++ wsX60 ++ wsX10)
def wsX6_section_r1 : List Cond := [Cond.fieldLink RX6 35 "NightWater" "steps" "LNightWater$Steps;", Cond.methodLink RX6 93 yX3_setWeight, Cond.instanceMethod yX3_setWeight, Cond.selects RX3 yX3_setWeight yX3_setWeight, Cond.initialized RX3, Cond.code yX3_setWeight cX3_setWeight 5 (some .int), Cond.fieldLink RX3 15 "NightWater$Steps" "size" "I", Cond.fieldLink RX3 11 "NightWater$Steps" "weights" "[I", Cond.static yX6_outside, Cond.initialized RX6, Cond.code yX6_outside cX6_outside 3 (some .boolean), Cond.methodLink RX3 27 yX3_planAll, Cond.instanceMethod yX3_planAll, Cond.selects RX3 yX3_planAll yX3_planAll, Cond.code yX3_planAll cX3_planAll 4 none, Cond.fieldLink RX3 21 "NightWater$Steps" "costs" "[[I", Cond.fieldLink RX3 24 "NightWater$Steps" "starts" "[[I", Cond.methodLink RX3 42 yX3_planStretch, Cond.instanceMethod yX3_planStretch, Cond.selects RX3 yX3_planStretch yX3_planStretch, Cond.code yX3_planStretch cX3_planStretch 6 none, Cond.methodLink RX3 46 yX3_costOfParts, Cond.instanceMethod yX3_costOfParts, Cond.selects RX3 yX3_costOfParts yX3_costOfParts]
def wsX6_section_r2 : List Cond := [Cond.code yX3_costOfParts cX3_costOfParts 4 (some .int)]
def wsX6_section : List Cond := .code yX6_section cX6_section 4 (some .int) :: ((wsX6_section_r1 ++ wsX6_section_r2) ++ wsX60 ++ wsX30)
def wsX6_cost : List Cond := .code yX6_cost cX6_cost 3 (some .int) :: ([.fieldLink RX6 35 "NightWater" "steps" "LNightWater$Steps;", .methodLink RX6 96 yX3_planCost, .instanceMethod yX3_planCost, .selects RX3 yX3_planCost yX3_planCost, .initialized RX3, .code yX3_planCost cX3_planCost 3 (some .int), .fieldLink RX3 21 "NightWater$Steps" "costs" "[[I", .methodLink RX3 34 yX3_isNoStretch, .instanceMethod yX3_isNoStretch, .selects RX3 yX3_isNoStretch yX3_isNoStretch, .code yX3_isNoStretch cX3_isNoStretch 3 (some .boolean), .fieldLink RX3 15 "NightWater$Steps" "size" "I", .static yX6_outside, .initialized RX6, .code yX6_outside cX6_outside 3 (some .boolean)] ++ wsX60 ++ wsX30)
def wsX6_closes : List Cond := .code yX6_closes cX6_closes 3 (some .int) :: ([.fieldLink RX6 35 "NightWater" "steps" "LNightWater$Steps;", .methodLink RX6 99 yX3_planStart, .instanceMethod yX3_planStart, .selects RX3 yX3_planStart yX3_planStart, .initialized RX3, .code yX3_planStart cX3_planStart 3 (some .int), .fieldLink RX3 24 "NightWater$Steps" "starts" "[[I", .methodLink RX3 34 yX3_isNoStretch, .instanceMethod yX3_isNoStretch, .selects RX3 yX3_isNoStretch yX3_isNoStretch, .code yX3_isNoStretch cX3_isNoStretch 3 (some .boolean), .fieldLink RX3 15 "NightWater$Steps" "size" "I", .static yX6_outside, .initialized RX6, .code yX6_outside cX6_outside 3 (some .boolean)] ++ wsX60 ++ wsX30)
def wsX6_closings : List Cond := .code yX6_closings cX6_closings 2 (some .int) :: ([.fieldLink RX6 35 "NightWater" "steps" "LNightWater$Steps;", .methodLink RX6 102 yX3_closingsFor, .instanceMethod yX3_closingsFor, .selects RX3 yX3_closingsFor yX3_closingsFor, .initialized RX3, .code yX3_closingsFor cX3_closingsFor 6 (some .int), .fieldLink RX3 15 "NightWater$Steps" "size" "I", .fieldLink RX3 24 "NightWater$Steps" "starts" "[[I", .static yX6_outside, .initialized RX6, .code yX6_outside cX6_outside 3 (some .boolean)] ++ wsX60 ++ wsX30)
def wsX6_dig : List Cond := .code yX6_dig cX6_dig 3 (some .int) :: ([.fieldLink RX6 42 "NightWater" "digs" "LNightWater$Digs;", .methodLink RX6 105 yX0_add, .instanceMethod yX0_add, .selects RX0 yX0_add yX0_add, .initialized RX0, .code yX0_add cX0_add 3 (some .int), .fieldLink RX0 21 "NightWater$Digs" "size" "I", .fieldLink RX0 11 "NightWater$Digs" "losses" "[I", .fieldLink RX0 15 "NightWater$Digs" "durations" "[I", .static yX6_outside, .initialized RX6, .code yX6_outside cX6_outside 3 (some .boolean), .methodLink RX0 29 yX0_rankNext, .instanceMethod yX0_rankNext, .selects RX0 yX0_rankNext yX0_rankNext, .code yX0_rankNext cX0_rankNext 3 none, .fieldLink RX0 18 "NightWater$Digs" "ranked" "[I", .methodLink RX0 37 yX0_goesAhead, .instanceMethod yX0_goesAhead, .selects RX0 yX0_goesAhead yX0_goesAhead, .code yX0_goesAhead cX0_goesAhead 3 (some .boolean)] ++ wsX60 ++ wsX00)
def wsX6_clear : List Cond := .code yX6_clear cX6_clear 1 (some .int) :: ([.fieldLink RX6 42 "NightWater" "digs" "LNightWater$Digs;", .methodLink RX6 106 yX0_removeAll, .instanceMethod yX0_removeAll, .selects RX0 yX0_removeAll yX0_removeAll, .initialized RX0, .code yX0_removeAll cX0_removeAll 2 (some .int), .fieldLink RX0 21 "NightWater$Digs" "size" "I"] ++ wsX60 ++ wsX00)
def wsX6_lost : List Cond := .code yX6_lost cX6_lost 1 (some .int) :: ([.fieldLink RX6 42 "NightWater" "digs" "LNightWater$Digs;", .methodLink RX6 109 yX0_lostInOrder, .instanceMethod yX0_lostInOrder, .selects RX0 yX0_lostInOrder yX0_lostInOrder, .initialized RX0, .code yX0_lostInOrder cX0_lostInOrder 5 (some .int), .fieldLink RX0 21 "NightWater$Digs" "size" "I", .fieldLink RX0 18 "NightWater$Digs" "ranked" "[I", .fieldLink RX0 15 "NightWater$Digs" "durations" "[I", .fieldLink RX0 11 "NightWater$Digs" "losses" "[I"] ++ wsX60 ++ wsX00)
def wsX6_order : List Cond := .code yX6_order cX6_order 2 (some .int) :: ([.fieldLink RX6 42 "NightWater" "digs" "LNightWater$Digs;", .methodLink RX6 112 yX0_inOrder, .instanceMethod yX0_inOrder, .selects RX0 yX0_inOrder yX0_inOrder, .initialized RX0, .code yX0_inOrder cX0_inOrder 2 (some .int), .fieldLink RX0 21 "NightWater$Digs" "size" "I", .fieldLink RX0 18 "NightWater$Digs" "ranked" "[I", .static yX6_outside, .initialized RX6, .code yX6_outside cX6_outside 3 (some .boolean)] ++ wsX60 ++ wsX00)
def wsX6_pulled : List Cond := .code yX6_pulled cX6_pulled 4 (some .int) :: ([.methodLink RX6 115 yX2_leakAt, .static yX2_leakAt, .initialized RX2, .code yX2_leakAt cX2_leakAt 5 (some .int), .constant RX2 9 (100000), .static yX6_outside, .initialized RX6, .code yX6_outside cX6_outside 3 (some .boolean), .methodLink RX2 14 yX2_pull, .static yX2_pull, .code yX2_pull cX2_pull 1 (some .long), .methodLink RX2 20 yX2_rootOf, .static yX2_rootOf, .code yX2_rootOf cX2_rootOf 2 (some .int)])
def wsX6_count_r1 : List Cond := [Cond.fieldLink RX6 10 "NightWater" "zones" "LNightWater$Zones;", Cond.fieldLink RX6 21 "NightWater" "valves" "LNightWater$Valves;", Cond.fieldLink RX6 35 "NightWater" "steps" "LNightWater$Steps;", Cond.fieldLink RX6 42 "NightWater" "digs" "LNightWater$Digs;", Cond.fieldLink RX6 28 "NightWater" "listeners" "LNightWater$Listeners;", Cond.methodLink RX6 120 yX5_number, Cond.instanceMethod yX5_number, Cond.selects RX5 yX5_number yX5_number, Cond.initialized RX5, Cond.code yX5_number cX5_number 1 (some .int), Cond.fieldLink RX5 26 "NightWater$Zones" "size" "I", Cond.methodLink RX6 123 yX4_number, Cond.instanceMethod yX4_number, Cond.selects RX4 yX4_number yX4_number, Cond.initialized RX4, Cond.code yX4_number cX4_number 1 (some .int), Cond.fieldLink RX4 18 "NightWater$Valves" "size" "I", Cond.methodLink RX6 124 yX3_number, Cond.instanceMethod yX3_number, Cond.selects RX3 yX3_number yX3_number, Cond.initialized RX3, Cond.code yX3_number cX3_number 1 (some .int), Cond.fieldLink RX3 15 "NightWater$Steps" "size" "I", Cond.methodLink RX6 125 yX0_number]
def wsX6_count_r2 : List Cond := [Cond.instanceMethod yX0_number, Cond.selects RX0 yX0_number yX0_number, Cond.initialized RX0, Cond.code yX0_number cX0_number 1 (some .int), Cond.fieldLink RX0 21 "NightWater$Digs" "size" "I", Cond.methodLink RX6 126 yX5_readingsLost, Cond.instanceMethod yX5_readingsLost, Cond.selects RX5 yX5_readingsLost yX5_readingsLost, Cond.code yX5_readingsLost cX5_readingsLost 4 (some .int), Cond.fieldLink RX5 20 "NightWater$Zones" "ins" "[[I", Cond.fieldLink RX5 23 "NightWater$Zones" "outs" "[[I", Cond.methodLink RX6 129 yX1_samplesLost, Cond.instanceMethod yX1_samplesLost, Cond.selects RX1 yX1_samplesLost yX1_samplesLost, Cond.initialized RX1, Cond.code yX1_samplesLost cX1_samplesLost 3 (some .int), Cond.fieldLink RX1 13 "NightWater$Listeners" "rows" "[[I", Cond.constant RX1 20 (-2000000000)]
def wsX6_count : List Cond := .code yX6_count cX6_count 2 (some .int) :: ((wsX6_count_r1 ++ wsX6_count_r2) ++ wsX60 ++ wsX50 ++ wsX40 ++ wsX30 ++ wsX00 ++ wsX10)
def wsX6_digest_r1 : List Cond := [Cond.constantLong RX6 132 (197), Cond.fieldLink RX6 10 "NightWater" "zones" "LNightWater$Zones;", Cond.fieldLink RX6 21 "NightWater" "valves" "LNightWater$Valves;", Cond.fieldLink RX6 28 "NightWater" "listeners" "LNightWater$Listeners;", Cond.fieldLink RX6 35 "NightWater" "steps" "LNightWater$Steps;", Cond.fieldLink RX6 42 "NightWater" "digs" "LNightWater$Digs;", Cond.methodLink RX6 134 yX6_count, Cond.instanceMethod yX6_count, Cond.selects RX6 yX6_count yX6_count, Cond.initialized RX6, Cond.code yX6_count cX6_count 2 (some .int), Cond.methodLink RX6 120 yX5_number, Cond.instanceMethod yX5_number, Cond.selects RX5 yX5_number yX5_number, Cond.initialized RX5, Cond.code yX5_number cX5_number 1 (some .int), Cond.fieldLink RX5 26 "NightWater$Zones" "size" "I", Cond.methodLink RX6 123 yX4_number, Cond.instanceMethod yX4_number, Cond.selects RX4 yX4_number yX4_number, Cond.initialized RX4, Cond.code yX4_number cX4_number 1 (some .int), Cond.fieldLink RX4 18 "NightWater$Valves" "size" "I", Cond.methodLink RX6 124 yX3_number]
def wsX6_digest_r2 : List Cond := [Cond.instanceMethod yX3_number, Cond.selects RX3 yX3_number yX3_number, Cond.initialized RX3, Cond.code yX3_number cX3_number 1 (some .int), Cond.fieldLink RX3 15 "NightWater$Steps" "size" "I", Cond.methodLink RX6 125 yX0_number, Cond.instanceMethod yX0_number, Cond.selects RX0 yX0_number yX0_number, Cond.initialized RX0, Cond.code yX0_number cX0_number 1 (some .int), Cond.fieldLink RX0 21 "NightWater$Digs" "size" "I", Cond.methodLink RX6 126 yX5_readingsLost, Cond.instanceMethod yX5_readingsLost, Cond.selects RX5 yX5_readingsLost yX5_readingsLost, Cond.code yX5_readingsLost cX5_readingsLost 4 (some .int), Cond.fieldLink RX5 20 "NightWater$Zones" "ins" "[[I", Cond.fieldLink RX5 23 "NightWater$Zones" "outs" "[[I", Cond.methodLink RX6 129 yX1_samplesLost, Cond.instanceMethod yX1_samplesLost, Cond.selects RX1 yX1_samplesLost yX1_samplesLost, Cond.initialized RX1, Cond.code yX1_samplesLost cX1_samplesLost 3 (some .int), Cond.fieldLink RX1 13 "NightWater$Listeners" "rows" "[[I", Cond.constant RX1 20 (-2000000000)]
def wsX6_digest_r3 : List Cond := [Cond.methodLink RX6 137 yX6_mix, Cond.static yX6_mix, Cond.code yX6_mix cX6_mix 3 (some .long), Cond.constantLong RX6 149 (31), Cond.methodLink RX6 141 yX5_mixInto, Cond.instanceMethod yX5_mixInto, Cond.selects RX5 yX5_mixInto yX5_mixInto, Cond.code yX5_mixInto cX5_mixInto 7 (some .long), Cond.methodLink RX5 56 yX5_leak, Cond.instanceMethod yX5_leak, Cond.selects RX5 yX5_leak yX5_leak, Cond.code yX5_leak cX5_leak 4 (some .int), Cond.constant RX5 44 (-2000000000), Cond.fieldLink RX5 15 "NightWater$Zones" "bigs" "[I", Cond.fieldLink RX5 11 "NightWater$Zones" "customers" "[I", Cond.fieldLink RX5 33 "NightWater$Zones" "use" "I", Cond.methodLink RX5 40 yX5_isNone, Cond.instanceMethod yX5_isNone, Cond.selects RX5 yX5_isNone yX5_isNone, Cond.code yX5_isNone cX5_isNone 2 (some .boolean), Cond.static yX6_outside, Cond.code yX6_outside cX6_outside 3 (some .boolean), Cond.methodLink RX5 45 yX5_lowHour, Cond.instanceMethod yX5_lowHour]
def wsX6_digest_r4 : List Cond := [Cond.selects RX5 yX5_lowHour yX5_lowHour, Cond.code yX5_lowHour cX5_lowHour 6 (some .int), Cond.methodLink RX5 53 yX5_greatestNet, Cond.instanceMethod yX5_greatestNet, Cond.selects RX5 yX5_greatestNet yX5_greatestNet, Cond.code yX5_greatestNet cX5_greatestNet 3 (some .int), Cond.methodLink RX5 66 yX5_greatestOf, Cond.instanceMethod yX5_greatestOf, Cond.selects RX5 yX5_greatestOf yX5_greatestOf, Cond.code yX5_greatestOf cX5_greatestOf 2 (some .int), Cond.fieldLink RX5 30 "NightWater$Zones" "error" "I", Cond.methodLink RX5 63 yX5_leastOf, Cond.instanceMethod yX5_leastOf, Cond.selects RX5 yX5_leastOf yX5_leastOf, Cond.code yX5_leastOf cX5_leastOf 2 (some .int), Cond.methodLink RX5 49 yX5_leastNet, Cond.instanceMethod yX5_leastNet, Cond.selects RX5 yX5_leastNet yX5_leastNet, Cond.code yX5_leastNet cX5_leastNet 3 (some .int), Cond.methodLink RX6 145 yX4_mixInto, Cond.instanceMethod yX4_mixInto, Cond.selects RX4 yX4_mixInto yX4_mixInto, Cond.code yX4_mixInto cX4_mixInto 6 (some .long), Cond.fieldLink RX4 11 "NightWater$Valves" "from" "[I"]
def wsX6_digest_r5 : List Cond := [Cond.fieldLink RX4 15 "NightWater$Valves" "to" "[I", Cond.methodLink RX6 146 yX1_mixInto, Cond.instanceMethod yX1_mixInto, Cond.selects RX1 yX1_mixInto yX1_mixInto, Cond.code yX1_mixInto cX1_mixInto 7 (some .long), Cond.methodLink RX6 147 yX3_mixInto, Cond.instanceMethod yX3_mixInto, Cond.selects RX3 yX3_mixInto yX3_mixInto, Cond.code yX3_mixInto cX3_mixInto 6 (some .long), Cond.fieldLink RX3 11 "NightWater$Steps" "weights" "[I", Cond.methodLink RX6 148 yX0_mixInto, Cond.instanceMethod yX0_mixInto, Cond.selects RX0 yX0_mixInto yX0_mixInto, Cond.code yX0_mixInto cX0_mixInto 6 (some .long), Cond.fieldLink RX0 11 "NightWater$Digs" "losses" "[I", Cond.fieldLink RX0 15 "NightWater$Digs" "durations" "[I"]
def wsX6_digest : List Cond := .code yX6_digest cX6_digest 4 (some .long) :: ((wsX6_digest_r1 ++ (wsX6_digest_r2 ++ (wsX6_digest_r3 ++ (wsX6_digest_r4 ++ wsX6_digest_r5)))) ++ wsX60 ++ wsX50 ++ wsX40 ++ wsX30 ++ wsX00 ++ wsX10)
def wsX7_init : List Cond := .code yX7_init cX7_init 1 none :: ([.methodLink RX7 1 objectInit, .instanceMethod objectInit, .code objectInit ⟨#[0xb1]⟩ 1 none, .arrayClass .int, .fieldLink RX7 7 "NightWaterModel" "customers" "[I", .fieldLink RX7 13 "NightWaterModel" "big" "[I", .fieldLink RX7 16 "NightWaterModel" "comes" "[I", .fieldLink RX7 19 "NightWaterModel" "goes" "[I", .fieldLink RX7 22 "NightWaterModel" "error" "I", .fieldLink RX7 26 "NightWaterModel" "use" "I", .fieldLink RX7 29 "NightWaterModel" "one" "[I", .fieldLink RX7 32 "NightWaterModel" "other" "[I", .fieldLink RX7 35 "NightWaterModel" "groupOf" "[I", .fieldLink RX7 38 "NightWaterModel" "heard" "[I", .fieldLink RX7 41 "NightWaterModel" "sections" "I", .fieldLink RX7 44 "NightWaterModel" "weight" "[I", .fieldLink RX7 47 "NightWaterModel" "cost" "[I", .fieldLink RX7 50 "NightWaterModel" "closes" "[I", .fieldLink RX7 53 "NightWaterModel" "loses" "[I", .fieldLink RX7 56 "NightWaterModel" "hours" "[I", .fieldLink RX7 59 "NightWaterModel" "sorted" "[I"] ++ wsX70)
def wsX7_in : List Cond := .code yX7_in cX7_in 3 (some .boolean) :: ([])
def wsX7_isZone : List Cond := .code yX7_isZone cX7_isZone 2 (some .boolean) :: ([.fieldLink RX7 62 "NightWaterModel" "zones" "I", .methodLink RX7 65 yX7_in, .static yX7_in, .initialized RX7, .code yX7_in cX7_in 3 (some .boolean)] ++ wsX70)
def wsX7_zone : List Cond := .code yX7_zone cX7_zone 3 (some .int) :: ([.fieldLink RX7 62 "NightWaterModel" "zones" "I", .fieldLink RX7 7 "NightWaterModel" "customers" "[I", .fieldLink RX7 13 "NightWaterModel" "big" "[I", .methodLink RX7 65 yX7_in, .static yX7_in, .initialized RX7, .code yX7_in cX7_in 3 (some .boolean)] ++ wsX70)
def wsX7_rules : List Cond := .code yX7_rules cX7_rules 3 (some .int) :: ([.fieldLink RX7 22 "NightWaterModel" "error" "I", .fieldLink RX7 26 "NightWaterModel" "use" "I", .methodLink RX7 65 yX7_in, .static yX7_in, .initialized RX7, .code yX7_in cX7_in 3 (some .boolean)] ++ wsX70)
def wsX7_read : List Cond := .code yX7_read cX7_read 7 (some .int) :: ([.fieldLink RX7 16 "NightWaterModel" "comes" "[I", .fieldLink RX7 19 "NightWaterModel" "goes" "[I", .methodLink RX7 69 yX7_isZone, .instanceMethod yX7_isZone, .selects RX7 yX7_isZone yX7_isZone, .initialized RX7, .code yX7_isZone cX7_isZone 2 (some .boolean), .fieldLink RX7 62 "NightWaterModel" "zones" "I", .methodLink RX7 65 yX7_in, .static yX7_in, .code yX7_in cX7_in 3 (some .boolean)] ++ wsX70)
def wsX7_least : List Cond := .code yX7_least cX7_least 2 (some .int) :: ([.fieldLink RX7 22 "NightWaterModel" "error" "I"] ++ wsX70)
def wsX7_greatest : List Cond := .code yX7_greatest cX7_greatest 2 (some .int) :: ([.fieldLink RX7 22 "NightWaterModel" "error" "I"] ++ wsX70)
def wsX7_findLow : List Cond := .code yX7_findLow cX7_findLow 6 (some .boolean) :: ([.fieldLink RX7 73 "NightWaterModel" "lowHour" "I", .fieldLink RX7 16 "NightWaterModel" "comes" "[I", .fieldLink RX7 19 "NightWaterModel" "goes" "[I", .fieldLink RX7 83 "NightWaterModel" "lowMost" "I", .fieldLink RX7 86 "NightWaterModel" "lowLeast" "I", .methodLink RX7 76 yX7_greatest, .instanceMethod yX7_greatest, .selects RX7 yX7_greatest yX7_greatest, .initialized RX7, .code yX7_greatest cX7_greatest 2 (some .int), .fieldLink RX7 22 "NightWaterModel" "error" "I", .methodLink RX7 80 yX7_least, .instanceMethod yX7_least, .selects RX7 yX7_least yX7_least, .code yX7_least cX7_least 2 (some .int)] ++ wsX70)
def wsX7_low_r1 : List Cond := [Cond.constant RX7 92 (-2000000000), Cond.fieldLink RX7 86 "NightWaterModel" "lowLeast" "I", Cond.fieldLink RX7 83 "NightWaterModel" "lowMost" "I", Cond.fieldLink RX7 73 "NightWaterModel" "lowHour" "I", Cond.methodLink RX7 69 yX7_isZone, Cond.instanceMethod yX7_isZone, Cond.selects RX7 yX7_isZone yX7_isZone, Cond.initialized RX7, Cond.code yX7_isZone cX7_isZone 2 (some .boolean), Cond.fieldLink RX7 62 "NightWaterModel" "zones" "I", Cond.methodLink RX7 65 yX7_in, Cond.static yX7_in, Cond.code yX7_in cX7_in 3 (some .boolean), Cond.methodLink RX7 89 yX7_findLow, Cond.instanceMethod yX7_findLow, Cond.selects RX7 yX7_findLow yX7_findLow, Cond.code yX7_findLow cX7_findLow 6 (some .boolean), Cond.fieldLink RX7 16 "NightWaterModel" "comes" "[I", Cond.fieldLink RX7 19 "NightWaterModel" "goes" "[I", Cond.methodLink RX7 76 yX7_greatest, Cond.instanceMethod yX7_greatest, Cond.selects RX7 yX7_greatest yX7_greatest, Cond.code yX7_greatest cX7_greatest 2 (some .int), Cond.fieldLink RX7 22 "NightWaterModel" "error" "I"]
def wsX7_low_r2 : List Cond := [Cond.methodLink RX7 80 yX7_least, Cond.instanceMethod yX7_least, Cond.selects RX7 yX7_least yX7_least, Cond.code yX7_least cX7_least 2 (some .int)]
def wsX7_low : List Cond := .code yX7_low cX7_low 3 (some .int) :: ((wsX7_low_r1 ++ wsX7_low_r2) ++ wsX70)
def wsX7_leaksOf : List Cond := .code yX7_leaksOf cX7_leaksOf 3 (some .int) :: ([.constant RX7 92 (-2000000000), .fieldLink RX7 86 "NightWaterModel" "lowLeast" "I", .fieldLink RX7 13 "NightWaterModel" "big" "[I", .fieldLink RX7 7 "NightWaterModel" "customers" "[I", .fieldLink RX7 26 "NightWaterModel" "use" "I", .fieldLink RX7 83 "NightWaterModel" "lowMost" "I", .methodLink RX7 89 yX7_findLow, .instanceMethod yX7_findLow, .selects RX7 yX7_findLow yX7_findLow, .initialized RX7, .code yX7_findLow cX7_findLow 6 (some .boolean), .fieldLink RX7 73 "NightWaterModel" "lowHour" "I", .fieldLink RX7 16 "NightWaterModel" "comes" "[I", .fieldLink RX7 19 "NightWaterModel" "goes" "[I", .methodLink RX7 76 yX7_greatest, .instanceMethod yX7_greatest, .selects RX7 yX7_greatest yX7_greatest, .code yX7_greatest cX7_greatest 2 (some .int), .fieldLink RX7 22 "NightWaterModel" "error" "I", .methodLink RX7 80 yX7_least, .instanceMethod yX7_least, .selects RX7 yX7_least yX7_least, .code yX7_least cX7_least 2 (some .int)] ++ wsX70)
def wsX7_leaks_r1 : List Cond := [Cond.constant RX7 92 (-2000000000), Cond.methodLink RX7 69 yX7_isZone, Cond.instanceMethod yX7_isZone, Cond.selects RX7 yX7_isZone yX7_isZone, Cond.initialized RX7, Cond.code yX7_isZone cX7_isZone 2 (some .boolean), Cond.fieldLink RX7 62 "NightWaterModel" "zones" "I", Cond.methodLink RX7 65 yX7_in, Cond.static yX7_in, Cond.code yX7_in cX7_in 3 (some .boolean), Cond.methodLink RX7 93 yX7_leaksOf, Cond.instanceMethod yX7_leaksOf, Cond.selects RX7 yX7_leaksOf yX7_leaksOf, Cond.code yX7_leaksOf cX7_leaksOf 3 (some .int), Cond.fieldLink RX7 86 "NightWaterModel" "lowLeast" "I", Cond.fieldLink RX7 13 "NightWaterModel" "big" "[I", Cond.fieldLink RX7 7 "NightWaterModel" "customers" "[I", Cond.fieldLink RX7 26 "NightWaterModel" "use" "I", Cond.fieldLink RX7 83 "NightWaterModel" "lowMost" "I", Cond.methodLink RX7 89 yX7_findLow, Cond.instanceMethod yX7_findLow, Cond.selects RX7 yX7_findLow yX7_findLow, Cond.code yX7_findLow cX7_findLow 6 (some .boolean), Cond.fieldLink RX7 73 "NightWaterModel" "lowHour" "I"]
def wsX7_leaks_r2 : List Cond := [Cond.fieldLink RX7 16 "NightWaterModel" "comes" "[I", Cond.fieldLink RX7 19 "NightWaterModel" "goes" "[I", Cond.methodLink RX7 76 yX7_greatest, Cond.instanceMethod yX7_greatest, Cond.selects RX7 yX7_greatest yX7_greatest, Cond.code yX7_greatest cX7_greatest 2 (some .int), Cond.fieldLink RX7 22 "NightWaterModel" "error" "I", Cond.methodLink RX7 80 yX7_least, Cond.instanceMethod yX7_least, Cond.selects RX7 yX7_least yX7_least, Cond.code yX7_least cX7_least 2 (some .int)]
def wsX7_leaks : List Cond := .code yX7_leaks cX7_leaks 3 (some .int) :: ((wsX7_leaks_r1 ++ wsX7_leaks_r2) ++ wsX70)
def wsX7_valve : List Cond := .code yX7_valve cX7_valve 3 (some .int) :: ([.fieldLink RX7 97 "NightWaterModel" "valves" "I", .fieldLink RX7 29 "NightWaterModel" "one" "[I", .fieldLink RX7 32 "NightWaterModel" "other" "[I", .methodLink RX7 69 yX7_isZone, .instanceMethod yX7_isZone, .selects RX7 yX7_isZone yX7_isZone, .initialized RX7, .code yX7_isZone cX7_isZone 2 (some .boolean), .fieldLink RX7 62 "NightWaterModel" "zones" "I", .methodLink RX7 65 yX7_in, .static yX7_in, .code yX7_in cX7_in 3 (some .boolean)] ++ wsX70)
def wsX7_findGroups : List Cond := .code yX7_findGroups cX7_findGroups 6 none :: ([.fieldLink RX7 62 "NightWaterModel" "zones" "I", .fieldLink RX7 35 "NightWaterModel" "groupOf" "[I", .fieldLink RX7 97 "NightWaterModel" "valves" "I", .fieldLink RX7 29 "NightWaterModel" "one" "[I", .fieldLink RX7 32 "NightWaterModel" "other" "[I"] ++ wsX70)
def wsX7_isSet : List Cond := .code yX7_isSet cX7_isSet 2 (some .boolean) :: ([.fieldLink RX7 97 "NightWaterModel" "valves" "I", .methodLink RX7 65 yX7_in, .static yX7_in, .initialized RX7, .code yX7_in cX7_in 3 (some .boolean)] ++ wsX70)
def wsX7_group : List Cond := .code yX7_group cX7_group 3 (some .int) :: ([.fieldLink RX7 35 "NightWaterModel" "groupOf" "[I", .methodLink RX7 69 yX7_isZone, .instanceMethod yX7_isZone, .selects RX7 yX7_isZone yX7_isZone, .initialized RX7, .code yX7_isZone cX7_isZone 2 (some .boolean), .fieldLink RX7 62 "NightWaterModel" "zones" "I", .methodLink RX7 65 yX7_in, .static yX7_in, .code yX7_in cX7_in 3 (some .boolean), .methodLink RX7 100 yX7_isSet, .instanceMethod yX7_isSet, .selects RX7 yX7_isSet yX7_isSet, .code yX7_isSet cX7_isSet 2 (some .boolean), .fieldLink RX7 97 "NightWaterModel" "valves" "I", .methodLink RX7 103 yX7_findGroups, .instanceMethod yX7_findGroups, .selects RX7 yX7_findGroups yX7_findGroups, .code yX7_findGroups cX7_findGroups 6 none, .fieldLink RX7 29 "NightWaterModel" "one" "[I", .fieldLink RX7 32 "NightWaterModel" "other" "[I"] ++ wsX70)
def wsX7_doesExplain_r1 : List Cond := [Cond.fieldLink RX7 62 "NightWaterModel" "zones" "I", Cond.fieldLink RX7 35 "NightWaterModel" "groupOf" "[I", Cond.constant RX7 92 (-2000000000), Cond.methodLink RX7 103 yX7_findGroups, Cond.instanceMethod yX7_findGroups, Cond.selects RX7 yX7_findGroups yX7_findGroups, Cond.initialized RX7, Cond.code yX7_findGroups cX7_findGroups 6 none, Cond.fieldLink RX7 97 "NightWaterModel" "valves" "I", Cond.fieldLink RX7 29 "NightWaterModel" "one" "[I", Cond.fieldLink RX7 32 "NightWaterModel" "other" "[I", Cond.methodLink RX7 93 yX7_leaksOf, Cond.instanceMethod yX7_leaksOf, Cond.selects RX7 yX7_leaksOf yX7_leaksOf, Cond.code yX7_leaksOf cX7_leaksOf 3 (some .int), Cond.fieldLink RX7 86 "NightWaterModel" "lowLeast" "I", Cond.fieldLink RX7 13 "NightWaterModel" "big" "[I", Cond.fieldLink RX7 7 "NightWaterModel" "customers" "[I", Cond.fieldLink RX7 26 "NightWaterModel" "use" "I", Cond.fieldLink RX7 83 "NightWaterModel" "lowMost" "I", Cond.methodLink RX7 89 yX7_findLow, Cond.instanceMethod yX7_findLow, Cond.selects RX7 yX7_findLow yX7_findLow, Cond.code yX7_findLow cX7_findLow 6 (some .boolean)]
def wsX7_doesExplain_r2 : List Cond := [Cond.fieldLink RX7 73 "NightWaterModel" "lowHour" "I", Cond.fieldLink RX7 16 "NightWaterModel" "comes" "[I", Cond.fieldLink RX7 19 "NightWaterModel" "goes" "[I", Cond.methodLink RX7 76 yX7_greatest, Cond.instanceMethod yX7_greatest, Cond.selects RX7 yX7_greatest yX7_greatest, Cond.code yX7_greatest cX7_greatest 2 (some .int), Cond.fieldLink RX7 22 "NightWaterModel" "error" "I", Cond.methodLink RX7 80 yX7_least, Cond.instanceMethod yX7_least, Cond.selects RX7 yX7_least yX7_least, Cond.code yX7_least cX7_least 2 (some .int)]
def wsX7_doesExplain : List Cond := .code yX7_doesExplain cX7_doesExplain 7 (some .boolean) :: ((wsX7_doesExplain_r1 ++ wsX7_doesExplain_r2) ++ wsX70)
def wsX7_explains_r1 : List Cond := [Cond.methodLink RX7 100 yX7_isSet, Cond.instanceMethod yX7_isSet, Cond.selects RX7 yX7_isSet yX7_isSet, Cond.initialized RX7, Cond.code yX7_isSet cX7_isSet 2 (some .boolean), Cond.fieldLink RX7 97 "NightWaterModel" "valves" "I", Cond.methodLink RX7 65 yX7_in, Cond.static yX7_in, Cond.code yX7_in cX7_in 3 (some .boolean), Cond.methodLink RX7 107 yX7_doesExplain, Cond.instanceMethod yX7_doesExplain, Cond.selects RX7 yX7_doesExplain yX7_doesExplain, Cond.code yX7_doesExplain cX7_doesExplain 7 (some .boolean), Cond.fieldLink RX7 62 "NightWaterModel" "zones" "I", Cond.fieldLink RX7 35 "NightWaterModel" "groupOf" "[I", Cond.constant RX7 92 (-2000000000), Cond.methodLink RX7 103 yX7_findGroups, Cond.instanceMethod yX7_findGroups, Cond.selects RX7 yX7_findGroups yX7_findGroups, Cond.code yX7_findGroups cX7_findGroups 6 none, Cond.fieldLink RX7 29 "NightWaterModel" "one" "[I", Cond.fieldLink RX7 32 "NightWaterModel" "other" "[I", Cond.methodLink RX7 93 yX7_leaksOf, Cond.instanceMethod yX7_leaksOf]
def wsX7_explains_r2 : List Cond := [Cond.selects RX7 yX7_leaksOf yX7_leaksOf, Cond.code yX7_leaksOf cX7_leaksOf 3 (some .int), Cond.fieldLink RX7 86 "NightWaterModel" "lowLeast" "I", Cond.fieldLink RX7 13 "NightWaterModel" "big" "[I", Cond.fieldLink RX7 7 "NightWaterModel" "customers" "[I", Cond.fieldLink RX7 26 "NightWaterModel" "use" "I", Cond.fieldLink RX7 83 "NightWaterModel" "lowMost" "I", Cond.methodLink RX7 89 yX7_findLow, Cond.instanceMethod yX7_findLow, Cond.selects RX7 yX7_findLow yX7_findLow, Cond.code yX7_findLow cX7_findLow 6 (some .boolean), Cond.fieldLink RX7 73 "NightWaterModel" "lowHour" "I", Cond.fieldLink RX7 16 "NightWaterModel" "comes" "[I", Cond.fieldLink RX7 19 "NightWaterModel" "goes" "[I", Cond.methodLink RX7 76 yX7_greatest, Cond.instanceMethod yX7_greatest, Cond.selects RX7 yX7_greatest yX7_greatest, Cond.code yX7_greatest cX7_greatest 2 (some .int), Cond.fieldLink RX7 22 "NightWaterModel" "error" "I", Cond.methodLink RX7 80 yX7_least, Cond.instanceMethod yX7_least, Cond.selects RX7 yX7_least yX7_least, Cond.code yX7_least cX7_least 2 (some .int)]
def wsX7_explains : List Cond := .code yX7_explains cX7_explains 2 (some .int) :: ((wsX7_explains_r1 ++ wsX7_explains_r2) ++ wsX70)
def wsX7_many : List Cond := .code yX7_many cX7_many 3 (some .int) :: ([])
def wsX7_fewest_r1 : List Cond := [Cond.fieldLink RX7 97 "NightWaterModel" "valves" "I", Cond.methodLink RX7 110 yX7_many, Cond.static yX7_many, Cond.initialized RX7, Cond.code yX7_many cX7_many 3 (some .int), Cond.methodLink RX7 107 yX7_doesExplain, Cond.instanceMethod yX7_doesExplain, Cond.selects RX7 yX7_doesExplain yX7_doesExplain, Cond.code yX7_doesExplain cX7_doesExplain 7 (some .boolean), Cond.fieldLink RX7 62 "NightWaterModel" "zones" "I", Cond.fieldLink RX7 35 "NightWaterModel" "groupOf" "[I", Cond.constant RX7 92 (-2000000000), Cond.methodLink RX7 103 yX7_findGroups, Cond.instanceMethod yX7_findGroups, Cond.selects RX7 yX7_findGroups yX7_findGroups, Cond.code yX7_findGroups cX7_findGroups 6 none, Cond.fieldLink RX7 29 "NightWaterModel" "one" "[I", Cond.fieldLink RX7 32 "NightWaterModel" "other" "[I", Cond.methodLink RX7 93 yX7_leaksOf, Cond.instanceMethod yX7_leaksOf, Cond.selects RX7 yX7_leaksOf yX7_leaksOf, Cond.code yX7_leaksOf cX7_leaksOf 3 (some .int), Cond.fieldLink RX7 86 "NightWaterModel" "lowLeast" "I", Cond.fieldLink RX7 13 "NightWaterModel" "big" "[I"]
def wsX7_fewest_r2 : List Cond := [Cond.fieldLink RX7 7 "NightWaterModel" "customers" "[I", Cond.fieldLink RX7 26 "NightWaterModel" "use" "I", Cond.fieldLink RX7 83 "NightWaterModel" "lowMost" "I", Cond.methodLink RX7 89 yX7_findLow, Cond.instanceMethod yX7_findLow, Cond.selects RX7 yX7_findLow yX7_findLow, Cond.code yX7_findLow cX7_findLow 6 (some .boolean), Cond.fieldLink RX7 73 "NightWaterModel" "lowHour" "I", Cond.fieldLink RX7 16 "NightWaterModel" "comes" "[I", Cond.fieldLink RX7 19 "NightWaterModel" "goes" "[I", Cond.methodLink RX7 76 yX7_greatest, Cond.instanceMethod yX7_greatest, Cond.selects RX7 yX7_greatest yX7_greatest, Cond.code yX7_greatest cX7_greatest 2 (some .int), Cond.fieldLink RX7 22 "NightWaterModel" "error" "I", Cond.methodLink RX7 80 yX7_least, Cond.instanceMethod yX7_least, Cond.selects RX7 yX7_least yX7_least, Cond.code yX7_least cX7_least 2 (some .int)]
def wsX7_fewest : List Cond := .code yX7_fewest cX7_fewest 3 (some .int) :: ((wsX7_fewest_r1 ++ wsX7_fewest_r2) ++ wsX70)
def wsX7_sample : List Cond := .code yX7_sample cX7_sample 4 (some .int) :: ([.constant RX7 92 (-2000000000), .fieldLink RX7 38 "NightWaterModel" "heard" "[I", .methodLink RX7 65 yX7_in, .static yX7_in, .initialized RX7, .code yX7_in cX7_in 3 (some .boolean)] ++ wsX70)
def wsX7_echo : List Cond := .code yX7_echo cX7_echo 6 (some .int) :: ([.fieldLink RX7 38 "NightWaterModel" "heard" "[I", .methodLink RX7 65 yX7_in, .static yX7_in, .initialized RX7, .code yX7_in cX7_in 3 (some .boolean)] ++ wsX70)
def wsX7_isBoth : List Cond := .code yX7_isBoth cX7_isBoth 3 (some .boolean) :: ([.fieldLink RX7 38 "NightWaterModel" "heard" "[I", .constant RX7 92 (-2000000000), .methodLink RX7 65 yX7_in, .static yX7_in, .initialized RX7, .code yX7_in cX7_in 3 (some .boolean)] ++ wsX70)
def wsX7_sumOf : List Cond := .code yX7_sumOf cX7_sumOf 4 (some .int) :: ([.fieldLink RX7 38 "NightWaterModel" "heard" "[I", .methodLink RX7 113 yX7_isBoth, .instanceMethod yX7_isBoth, .selects RX7 yX7_isBoth yX7_isBoth, .initialized RX7, .code yX7_isBoth cX7_isBoth 3 (some .boolean), .constant RX7 92 (-2000000000), .methodLink RX7 65 yX7_in, .static yX7_in, .code yX7_in cX7_in 3 (some .boolean)] ++ wsX70)
def wsX7_countOf : List Cond := .code yX7_countOf cX7_countOf 4 (some .int) :: ([.methodLink RX7 113 yX7_isBoth, .instanceMethod yX7_isBoth, .selects RX7 yX7_isBoth yX7_isBoth, .initialized RX7, .code yX7_isBoth cX7_isBoth 3 (some .boolean), .fieldLink RX7 38 "NightWaterModel" "heard" "[I", .constant RX7 92 (-2000000000), .methodLink RX7 65 yX7_in, .static yX7_in, .code yX7_in cX7_in 3 (some .boolean)] ++ wsX70)
def wsX7_sum : List Cond := .code yX7_sum cX7_sum 3 (some .int) :: ([.constant RX7 92 (-2000000000), .methodLink RX7 65 yX7_in, .static yX7_in, .initialized RX7, .code yX7_in cX7_in 3 (some .boolean), .methodLink RX7 117 yX7_sumOf, .instanceMethod yX7_sumOf, .selects RX7 yX7_sumOf yX7_sumOf, .code yX7_sumOf cX7_sumOf 4 (some .int), .fieldLink RX7 38 "NightWaterModel" "heard" "[I", .methodLink RX7 113 yX7_isBoth, .instanceMethod yX7_isBoth, .selects RX7 yX7_isBoth yX7_isBoth, .code yX7_isBoth cX7_isBoth 3 (some .boolean), .methodLink RX7 120 yX7_countOf, .instanceMethod yX7_countOf, .selects RX7 yX7_countOf yX7_countOf, .code yX7_countOf cX7_countOf 4 (some .int)] ++ wsX70)
def wsX7_delayBut : List Cond := .code yX7_delayBut cX7_delayBut 15 (some .int) :: ([.methodLink RX7 65 yX7_in, .static yX7_in, .initialized RX7, .code yX7_in cX7_in 3 (some .boolean), .methodLink RX7 120 yX7_countOf, .instanceMethod yX7_countOf, .selects RX7 yX7_countOf yX7_countOf, .code yX7_countOf cX7_countOf 4 (some .int), .methodLink RX7 113 yX7_isBoth, .instanceMethod yX7_isBoth, .selects RX7 yX7_isBoth yX7_isBoth, .code yX7_isBoth cX7_isBoth 3 (some .boolean), .fieldLink RX7 38 "NightWaterModel" "heard" "[I", .constant RX7 92 (-2000000000), .methodLink RX7 117 yX7_sumOf, .instanceMethod yX7_sumOf, .selects RX7 yX7_sumOf yX7_sumOf, .code yX7_sumOf cX7_sumOf 4 (some .int)] ++ wsX70)
def wsX7_delay : List Cond := .code yX7_delay cX7_delay 3 (some .int) :: ([.methodLink RX7 123 yX7_delayBut, .instanceMethod yX7_delayBut, .selects RX7 yX7_delayBut yX7_delayBut, .initialized RX7, .code yX7_delayBut cX7_delayBut 15 (some .int), .methodLink RX7 65 yX7_in, .static yX7_in, .code yX7_in cX7_in 3 (some .boolean), .methodLink RX7 120 yX7_countOf, .instanceMethod yX7_countOf, .selects RX7 yX7_countOf yX7_countOf, .code yX7_countOf cX7_countOf 4 (some .int), .methodLink RX7 113 yX7_isBoth, .instanceMethod yX7_isBoth, .selects RX7 yX7_isBoth yX7_isBoth, .code yX7_isBoth cX7_isBoth 3 (some .boolean), .fieldLink RX7 38 "NightWaterModel" "heard" "[I", .constant RX7 92 (-2000000000), .methodLink RX7 117 yX7_sumOf, .instanceMethod yX7_sumOf, .selects RX7 yX7_sumOf yX7_sumOf, .code yX7_sumOf cX7_sumOf 4 (some .int)] ++ wsX70)
def wsX7_place : List Cond := .code yX7_place cX7_place 9 (some .int) :: ([.constant RX7 126 (100000), .methodLink RX7 65 yX7_in, .static yX7_in, .initialized RX7, .code yX7_in cX7_in 3 (some .boolean), .methodLink RX7 123 yX7_delayBut, .instanceMethod yX7_delayBut, .selects RX7 yX7_delayBut yX7_delayBut, .code yX7_delayBut cX7_delayBut 15 (some .int), .methodLink RX7 120 yX7_countOf, .instanceMethod yX7_countOf, .selects RX7 yX7_countOf yX7_countOf, .code yX7_countOf cX7_countOf 4 (some .int), .methodLink RX7 113 yX7_isBoth, .instanceMethod yX7_isBoth, .selects RX7 yX7_isBoth yX7_isBoth, .code yX7_isBoth cX7_isBoth 3 (some .boolean), .fieldLink RX7 38 "NightWaterModel" "heard" "[I", .constant RX7 92 (-2000000000), .methodLink RX7 117 yX7_sumOf, .instanceMethod yX7_sumOf, .selects RX7 yX7_sumOf yX7_sumOf, .code yX7_sumOf cX7_sumOf 4 (some .int)] ++ wsX70)
def wsX7_section : List Cond := .code yX7_section cX7_section 5 (some .int) :: ([.fieldLink RX7 41 "NightWaterModel" "sections" "I", .fieldLink RX7 44 "NightWaterModel" "weight" "[I", .methodLink RX7 65 yX7_in, .static yX7_in, .initialized RX7, .code yX7_in cX7_in 3 (some .boolean)] ++ wsX70)
def wsX7_plans : List Cond := .code yX7_plans cX7_plans 8 none :: ([.fieldLink RX7 41 "NightWaterModel" "sections" "I", .fieldLink RX7 44 "NightWaterModel" "weight" "[I", .fieldLink RX7 47 "NightWaterModel" "cost" "[I", .fieldLink RX7 50 "NightWaterModel" "closes" "[I"] ++ wsX70)
def wsX7_isSpan : List Cond := .code yX7_isSpan cX7_isSpan 3 (some .boolean) :: ([.fieldLink RX7 41 "NightWaterModel" "sections" "I"] ++ wsX70)
def wsX7_cost : List Cond := .code yX7_cost cX7_cost 3 (some .int) :: ([.fieldLink RX7 47 "NightWaterModel" "cost" "[I", .methodLink RX7 127 yX7_isSpan, .instanceMethod yX7_isSpan, .selects RX7 yX7_isSpan yX7_isSpan, .initialized RX7, .code yX7_isSpan cX7_isSpan 3 (some .boolean), .fieldLink RX7 41 "NightWaterModel" "sections" "I", .methodLink RX7 130 yX7_plans, .instanceMethod yX7_plans, .selects RX7 yX7_plans yX7_plans, .code yX7_plans cX7_plans 8 none, .fieldLink RX7 44 "NightWaterModel" "weight" "[I", .fieldLink RX7 50 "NightWaterModel" "closes" "[I"] ++ wsX70)
def wsX7_closes : List Cond := .code yX7_closes cX7_closes 3 (some .int) :: ([.fieldLink RX7 50 "NightWaterModel" "closes" "[I", .methodLink RX7 127 yX7_isSpan, .instanceMethod yX7_isSpan, .selects RX7 yX7_isSpan yX7_isSpan, .initialized RX7, .code yX7_isSpan cX7_isSpan 3 (some .boolean), .fieldLink RX7 41 "NightWaterModel" "sections" "I", .methodLink RX7 130 yX7_plans, .instanceMethod yX7_plans, .selects RX7 yX7_plans yX7_plans, .code yX7_plans cX7_plans 8 none, .fieldLink RX7 44 "NightWaterModel" "weight" "[I", .fieldLink RX7 47 "NightWaterModel" "cost" "[I"] ++ wsX70)
def wsX7_closings : List Cond := .code yX7_closings cX7_closings 6 (some .int) :: ([.fieldLink RX7 41 "NightWaterModel" "sections" "I", .fieldLink RX7 50 "NightWaterModel" "closes" "[I", .methodLink RX7 65 yX7_in, .static yX7_in, .initialized RX7, .code yX7_in cX7_in 3 (some .boolean), .methodLink RX7 130 yX7_plans, .instanceMethod yX7_plans, .selects RX7 yX7_plans yX7_plans, .code yX7_plans cX7_plans 8 none, .fieldLink RX7 44 "NightWaterModel" "weight" "[I", .fieldLink RX7 47 "NightWaterModel" "cost" "[I"] ++ wsX70)
def wsX7_dig : List Cond := .code yX7_dig cX7_dig 3 (some .int) :: ([.fieldLink RX7 133 "NightWaterModel" "digs" "I", .fieldLink RX7 53 "NightWaterModel" "loses" "[I", .fieldLink RX7 56 "NightWaterModel" "hours" "[I", .methodLink RX7 65 yX7_in, .static yX7_in, .initialized RX7, .code yX7_in cX7_in 3 (some .boolean)] ++ wsX70)
def wsX7_clear : List Cond := .code yX7_clear cX7_clear 2 (some .int) :: ([.fieldLink RX7 133 "NightWaterModel" "digs" "I"] ++ wsX70)
def wsX7_sorts : List Cond := .code yX7_sorts cX7_sorts 3 none :: ([.fieldLink RX7 133 "NightWaterModel" "digs" "I", .fieldLink RX7 53 "NightWaterModel" "loses" "[I", .fieldLink RX7 56 "NightWaterModel" "hours" "[I", .fieldLink RX7 59 "NightWaterModel" "sorted" "[I"] ++ wsX70)
def wsX7_lost : List Cond := .code yX7_lost cX7_lost 4 (some .int) :: ([.fieldLink RX7 133 "NightWaterModel" "digs" "I", .fieldLink RX7 56 "NightWaterModel" "hours" "[I", .fieldLink RX7 59 "NightWaterModel" "sorted" "[I", .fieldLink RX7 53 "NightWaterModel" "loses" "[I", .methodLink RX7 136 yX7_sorts, .instanceMethod yX7_sorts, .selects RX7 yX7_sorts yX7_sorts, .initialized RX7, .code yX7_sorts cX7_sorts 3 none] ++ wsX70)
def wsX7_order : List Cond := .code yX7_order cX7_order 2 (some .int) :: ([.fieldLink RX7 133 "NightWaterModel" "digs" "I", .fieldLink RX7 59 "NightWaterModel" "sorted" "[I", .methodLink RX7 136 yX7_sorts, .instanceMethod yX7_sorts, .selects RX7 yX7_sorts yX7_sorts, .initialized RX7, .code yX7_sorts cX7_sorts 3 none, .fieldLink RX7 53 "NightWaterModel" "loses" "[I", .fieldLink RX7 56 "NightWaterModel" "hours" "[I", .methodLink RX7 65 yX7_in, .static yX7_in, .code yX7_in cX7_in 3 (some .boolean)] ++ wsX70)
def wsX7_pull : List Cond := .code yX7_pull cX7_pull 2 (some .long) :: ([])
def wsX7_pulled : List Cond := .code yX7_pulled cX7_pulled 4 (some .int) :: ([.constant RX7 126 (100000), .methodLink RX7 65 yX7_in, .static yX7_in, .initialized RX7, .code yX7_in cX7_in 3 (some .boolean), .methodLink RX7 139 yX7_pull, .static yX7_pull, .code yX7_pull cX7_pull 2 (some .long)])
def wsX7_count : List Cond := .code yX7_count cX7_count 4 (some .int) :: ([.fieldLink RX7 62 "NightWaterModel" "zones" "I", .fieldLink RX7 97 "NightWaterModel" "valves" "I", .fieldLink RX7 41 "NightWaterModel" "sections" "I", .fieldLink RX7 133 "NightWaterModel" "digs" "I", .fieldLink RX7 16 "NightWaterModel" "comes" "[I", .fieldLink RX7 19 "NightWaterModel" "goes" "[I", .fieldLink RX7 38 "NightWaterModel" "heard" "[I", .constant RX7 92 (-2000000000)] ++ wsX70)
def wsX7_digest_r1 : List Cond := [Cond.constantLong RX7 143 (197), Cond.constantLong RX7 145 (31), Cond.fieldLink RX7 62 "NightWaterModel" "zones" "I", Cond.fieldLink RX7 16 "NightWaterModel" "comes" "[I", Cond.fieldLink RX7 19 "NightWaterModel" "goes" "[I", Cond.fieldLink RX7 97 "NightWaterModel" "valves" "I", Cond.fieldLink RX7 29 "NightWaterModel" "one" "[I", Cond.fieldLink RX7 32 "NightWaterModel" "other" "[I", Cond.fieldLink RX7 38 "NightWaterModel" "heard" "[I", Cond.fieldLink RX7 41 "NightWaterModel" "sections" "I", Cond.fieldLink RX7 44 "NightWaterModel" "weight" "[I", Cond.fieldLink RX7 133 "NightWaterModel" "digs" "I", Cond.fieldLink RX7 53 "NightWaterModel" "loses" "[I", Cond.fieldLink RX7 56 "NightWaterModel" "hours" "[I", Cond.methodLink RX7 147 yX7_count, Cond.instanceMethod yX7_count, Cond.selects RX7 yX7_count yX7_count, Cond.initialized RX7, Cond.code yX7_count cX7_count 4 (some .int), Cond.constant RX7 92 (-2000000000), Cond.methodLink RX7 93 yX7_leaksOf, Cond.instanceMethod yX7_leaksOf, Cond.selects RX7 yX7_leaksOf yX7_leaksOf, Cond.code yX7_leaksOf cX7_leaksOf 3 (some .int)]
def wsX7_digest_r2 : List Cond := [Cond.fieldLink RX7 86 "NightWaterModel" "lowLeast" "I", Cond.fieldLink RX7 13 "NightWaterModel" "big" "[I", Cond.fieldLink RX7 7 "NightWaterModel" "customers" "[I", Cond.fieldLink RX7 26 "NightWaterModel" "use" "I", Cond.fieldLink RX7 83 "NightWaterModel" "lowMost" "I", Cond.methodLink RX7 89 yX7_findLow, Cond.instanceMethod yX7_findLow, Cond.selects RX7 yX7_findLow yX7_findLow, Cond.code yX7_findLow cX7_findLow 6 (some .boolean), Cond.fieldLink RX7 73 "NightWaterModel" "lowHour" "I", Cond.methodLink RX7 76 yX7_greatest, Cond.instanceMethod yX7_greatest, Cond.selects RX7 yX7_greatest yX7_greatest, Cond.code yX7_greatest cX7_greatest 2 (some .int), Cond.fieldLink RX7 22 "NightWaterModel" "error" "I", Cond.methodLink RX7 80 yX7_least, Cond.instanceMethod yX7_least, Cond.selects RX7 yX7_least yX7_least, Cond.code yX7_least cX7_least 2 (some .int)]
def wsX7_digest : List Cond := .code yX7_digest cX7_digest 5 (some .long) :: ((wsX7_digest_r1 ++ wsX7_digest_r2) ++ wsX70)
def wsJ9_abs_0f7a4 : List Cond := .code yJ9_abs_0f7a4 cJ9_abs_0f7a4 1 (some .int) :: ([])
def wsJ9_max_7cf53 : List Cond := .code yJ9_max_7cf53 cJ9_max_7cf53 2 (some .int) :: ([])
def wsJ9_min_7cf53 : List Cond := .code yJ9_min_7cf53 cJ9_min_7cf53 2 (some .int) :: ([])
def wsL_law_r1 : List Cond := [Cond.classLink RL 7 RX6, Cond.instantiable RX6 5, Cond.initialized RX6, Cond.classLink RL 10 RX7, Cond.instantiable RX7 23, Cond.initialized RX7, Cond.methodLink RL 9 yX6_init, Cond.instanceMethod yX6_init, Cond.code yX6_init cX6_init 1 none, Cond.methodLink RX6 1 objectInit, Cond.instanceMethod objectInit, Cond.code objectInit ⟨#[0xb1]⟩ 1 none, Cond.classLink RX6 7 RX5, Cond.instantiable RX5 7, Cond.initialized RX5, Cond.fieldLink RX6 10 "NightWater" "zones" "LNightWater$Zones;", Cond.classLink RX6 16 RX4, Cond.instantiable RX4 8, Cond.initialized RX4, Cond.fieldLink RX6 21 "NightWater" "valves" "LNightWater$Valves;", Cond.classLink RX6 25 RX1, Cond.instantiable RX1 1, Cond.initialized RX1, Cond.fieldLink RX6 28 "NightWater" "listeners" "LNightWater$Listeners;"]
def wsL_law_r2 : List Cond := [Cond.classLink RX6 32 RX3, Cond.instantiable RX3 4, Cond.initialized RX3, Cond.fieldLink RX6 35 "NightWater" "steps" "LNightWater$Steps;", Cond.classLink RX6 39 RX0, Cond.instantiable RX0 4, Cond.initialized RX0, Cond.fieldLink RX6 42 "NightWater" "digs" "LNightWater$Digs;", Cond.instanceMethod yX5_init, Cond.code yX5_init cX5_init 1 none, Cond.methodLink RX5 3 objectInit, Cond.arrayClass .int, Cond.fieldLink RX5 11 "NightWater$Zones" "customers" "[I", Cond.fieldLink RX5 15 "NightWater$Zones" "bigs" "[I", Cond.classLink RX5 18 "[[I", Cond.fieldLink RX5 20 "NightWater$Zones" "ins" "[[I", Cond.fieldLink RX5 23 "NightWater$Zones" "outs" "[[I", Cond.fieldLink RX5 26 "NightWater$Zones" "size" "I", Cond.fieldLink RX5 30 "NightWater$Zones" "error" "I", Cond.fieldLink RX5 33 "NightWater$Zones" "use" "I", Cond.methodLink RX6 18 yX4_init, Cond.instanceMethod yX4_init, Cond.code yX4_init cX4_init 2 none, Cond.methodLink RX4 3 objectInit]
def wsL_law_r3 : List Cond := [Cond.fieldLink RX4 11 "NightWater$Valves" "from" "[I", Cond.fieldLink RX4 15 "NightWater$Valves" "to" "[I", Cond.fieldLink RX4 18 "NightWater$Valves" "size" "I", Cond.fieldLink RX4 24 "NightWater$Valves" "zoneLeak" "[I", Cond.fieldLink RX4 27 "NightWater$Valves" "leader" "[I", Cond.fieldLink RX4 30 "NightWater$Valves" "groupLeak" "[I", Cond.arrayClass .boolean, Cond.fieldLink RX4 33 "NightWater$Valves" "untold" "[Z", Cond.fieldLink RX4 37 "NightWater$Valves" "zones" "LNightWater$Zones;", Cond.instanceMethod yX1_init, Cond.code yX1_init cX1_init 1 none, Cond.methodLink RX1 3 objectInit, Cond.classLink RX1 11 "[[I", Cond.fieldLink RX1 13 "NightWater$Listeners" "rows" "[[I", Cond.methodLink RX6 34 yX3_init, Cond.instanceMethod yX3_init, Cond.code yX3_init cX3_init 1 none, Cond.methodLink RX3 3 objectInit, Cond.fieldLink RX3 11 "NightWater$Steps" "weights" "[I", Cond.fieldLink RX3 15 "NightWater$Steps" "size" "I", Cond.classLink RX3 19 "[[I", Cond.fieldLink RX3 21 "NightWater$Steps" "costs" "[[I", Cond.fieldLink RX3 24 "NightWater$Steps" "starts" "[[I", Cond.methodLink RX3 27 yX3_planAll]
def wsL_law_r4 : List Cond := [Cond.instanceMethod yX3_planAll, Cond.selects RX3 yX3_planAll yX3_planAll, Cond.code yX3_planAll cX3_planAll 4 none, Cond.methodLink RX3 42 yX3_planStretch, Cond.instanceMethod yX3_planStretch, Cond.selects RX3 yX3_planStretch yX3_planStretch, Cond.code yX3_planStretch cX3_planStretch 6 none, Cond.methodLink RX3 46 yX3_costOfParts, Cond.instanceMethod yX3_costOfParts, Cond.selects RX3 yX3_costOfParts yX3_costOfParts, Cond.code yX3_costOfParts cX3_costOfParts 4 (some .int), Cond.instanceMethod yX0_init, Cond.code yX0_init cX0_init 1 none, Cond.methodLink RX0 3 objectInit, Cond.fieldLink RX0 11 "NightWater$Digs" "losses" "[I", Cond.fieldLink RX0 15 "NightWater$Digs" "durations" "[I", Cond.fieldLink RX0 18 "NightWater$Digs" "ranked" "[I", Cond.fieldLink RX0 21 "NightWater$Digs" "size" "I", Cond.methodLink RL 12 yX7_init, Cond.instanceMethod yX7_init, Cond.code yX7_init cX7_init 1 none, Cond.methodLink RX7 1 objectInit, Cond.fieldLink RX7 7 "NightWaterModel" "customers" "[I", Cond.fieldLink RX7 13 "NightWaterModel" "big" "[I"]
def wsL_law_r5 : List Cond := [Cond.fieldLink RX7 16 "NightWaterModel" "comes" "[I", Cond.fieldLink RX7 19 "NightWaterModel" "goes" "[I", Cond.fieldLink RX7 22 "NightWaterModel" "error" "I", Cond.fieldLink RX7 26 "NightWaterModel" "use" "I", Cond.fieldLink RX7 29 "NightWaterModel" "one" "[I", Cond.fieldLink RX7 32 "NightWaterModel" "other" "[I", Cond.fieldLink RX7 35 "NightWaterModel" "groupOf" "[I", Cond.fieldLink RX7 38 "NightWaterModel" "heard" "[I", Cond.fieldLink RX7 41 "NightWaterModel" "sections" "I", Cond.fieldLink RX7 44 "NightWaterModel" "weight" "[I", Cond.fieldLink RX7 47 "NightWaterModel" "cost" "[I", Cond.fieldLink RX7 50 "NightWaterModel" "closes" "[I", Cond.fieldLink RX7 53 "NightWaterModel" "loses" "[I", Cond.fieldLink RX7 56 "NightWaterModel" "hours" "[I", Cond.fieldLink RX7 59 "NightWaterModel" "sorted" "[I", Cond.methodLink RL 13 yX6_zone, Cond.instanceMethod yX6_zone, Cond.selects RX6 yX6_zone yX6_zone, Cond.code yX6_zone cX6_zone 3 (some .int), Cond.methodLink RX6 46 yX5_add, Cond.instanceMethod yX5_add, Cond.selects RX5 yX5_add yX5_add, Cond.code yX5_add cX5_add 3 (some .int), Cond.static yX6_outside]
def wsL_law_r6 : List Cond := [Cond.code yX6_outside cX6_outside 3 (some .boolean), Cond.methodLink RL 17 yX7_zone, Cond.instanceMethod yX7_zone, Cond.selects RX7 yX7_zone yX7_zone, Cond.code yX7_zone cX7_zone 3 (some .int), Cond.fieldLink RX7 62 "NightWaterModel" "zones" "I", Cond.methodLink RX7 65 yX7_in, Cond.static yX7_in, Cond.code yX7_in cX7_in 3 (some .boolean), Cond.methodLink RL 18 yX6_rules, Cond.instanceMethod yX6_rules, Cond.selects RX6 yX6_rules yX6_rules, Cond.code yX6_rules cX6_rules 3 (some .int), Cond.methodLink RX6 50 yX5_setRules, Cond.instanceMethod yX5_setRules, Cond.selects RX5 yX5_setRules yX5_setRules, Cond.code yX5_setRules cX5_setRules 3 (some .int), Cond.methodLink RL 21 yX7_rules, Cond.instanceMethod yX7_rules, Cond.selects RX7 yX7_rules yX7_rules, Cond.code yX7_rules cX7_rules 3 (some .int), Cond.methodLink RL 22 yX6_read, Cond.instanceMethod yX6_read, Cond.selects RX6 yX6_read yX6_read]
def wsL_law_r7 : List Cond := [Cond.code yX6_read cX6_read 5 (some .int), Cond.methodLink RX6 53 yX5_setReading, Cond.instanceMethod yX5_setReading, Cond.selects RX5 yX5_setReading yX5_setReading, Cond.code yX5_setReading cX5_setReading 7 (some .int), Cond.methodLink RX5 40 yX5_isNone, Cond.instanceMethod yX5_isNone, Cond.selects RX5 yX5_isNone yX5_isNone, Cond.code yX5_isNone cX5_isNone 2 (some .boolean), Cond.methodLink RL 26 yX7_read, Cond.instanceMethod yX7_read, Cond.selects RX7 yX7_read yX7_read, Cond.code yX7_read cX7_read 7 (some .int), Cond.methodLink RX7 69 yX7_isZone, Cond.instanceMethod yX7_isZone, Cond.selects RX7 yX7_isZone yX7_isZone, Cond.code yX7_isZone cX7_isZone 2 (some .boolean), Cond.methodLink RL 27 yX6_low, Cond.instanceMethod yX6_low, Cond.selects RX6 yX6_low yX6_low, Cond.code yX6_low cX6_low 3 (some .int), Cond.methodLink RX6 57 yX5_lowPart, Cond.instanceMethod yX5_lowPart, Cond.selects RX5 yX5_lowPart yX5_lowPart]
def wsL_law_r8 : List Cond := [Cond.code yX5_lowPart cX5_lowPart 4 (some .int), Cond.constant RX5 44 (-2000000000), Cond.methodLink RX5 45 yX5_lowHour, Cond.instanceMethod yX5_lowHour, Cond.selects RX5 yX5_lowHour yX5_lowHour, Cond.code yX5_lowHour cX5_lowHour 6 (some .int), Cond.methodLink RX5 53 yX5_greatestNet, Cond.instanceMethod yX5_greatestNet, Cond.selects RX5 yX5_greatestNet yX5_greatestNet, Cond.code yX5_greatestNet cX5_greatestNet 3 (some .int), Cond.methodLink RX5 66 yX5_greatestOf, Cond.instanceMethod yX5_greatestOf, Cond.selects RX5 yX5_greatestOf yX5_greatestOf, Cond.code yX5_greatestOf cX5_greatestOf 2 (some .int), Cond.methodLink RX5 63 yX5_leastOf, Cond.instanceMethod yX5_leastOf, Cond.selects RX5 yX5_leastOf yX5_leastOf, Cond.code yX5_leastOf cX5_leastOf 2 (some .int), Cond.methodLink RX5 49 yX5_leastNet, Cond.instanceMethod yX5_leastNet, Cond.selects RX5 yX5_leastNet yX5_leastNet, Cond.code yX5_leastNet cX5_leastNet 3 (some .int), Cond.methodLink RL 30 yX7_low, Cond.instanceMethod yX7_low]
def wsL_law_r9 : List Cond := [Cond.selects RX7 yX7_low yX7_low, Cond.code yX7_low cX7_low 3 (some .int), Cond.constant RX7 92 (-2000000000), Cond.fieldLink RX7 86 "NightWaterModel" "lowLeast" "I", Cond.fieldLink RX7 83 "NightWaterModel" "lowMost" "I", Cond.fieldLink RX7 73 "NightWaterModel" "lowHour" "I", Cond.methodLink RX7 89 yX7_findLow, Cond.instanceMethod yX7_findLow, Cond.selects RX7 yX7_findLow yX7_findLow, Cond.code yX7_findLow cX7_findLow 6 (some .boolean), Cond.methodLink RX7 76 yX7_greatest, Cond.instanceMethod yX7_greatest, Cond.selects RX7 yX7_greatest yX7_greatest, Cond.code yX7_greatest cX7_greatest 2 (some .int), Cond.methodLink RX7 80 yX7_least, Cond.instanceMethod yX7_least, Cond.selects RX7 yX7_least yX7_least, Cond.code yX7_least cX7_least 2 (some .int), Cond.methodLink RL 31 yX6_leaks, Cond.instanceMethod yX6_leaks, Cond.selects RX6 yX6_leaks yX6_leaks, Cond.code yX6_leaks cX6_leaks 3 (some .int), Cond.methodLink RX6 60 yX5_leak, Cond.instanceMethod yX5_leak]
def wsL_law_r10 : List Cond := [Cond.selects RX5 yX5_leak yX5_leak, Cond.code yX5_leak cX5_leak 4 (some .int), Cond.methodLink RL 34 yX7_leaks, Cond.instanceMethod yX7_leaks, Cond.selects RX7 yX7_leaks yX7_leaks, Cond.code yX7_leaks cX7_leaks 3 (some .int), Cond.methodLink RX7 93 yX7_leaksOf, Cond.instanceMethod yX7_leaksOf, Cond.selects RX7 yX7_leaksOf yX7_leaksOf, Cond.code yX7_leaksOf cX7_leaksOf 3 (some .int), Cond.methodLink RL 35 yX6_valve, Cond.instanceMethod yX6_valve, Cond.selects RX6 yX6_valve yX6_valve, Cond.code yX6_valve cX6_valve 3 (some .int), Cond.methodLink RX6 63 yX4_add, Cond.instanceMethod yX4_add, Cond.selects RX4 yX4_add yX4_add, Cond.code yX4_add cX4_add 3 (some .int), Cond.methodLink RX4 41 yX5_isNone, Cond.methodLink RL 38 yX7_valve, Cond.instanceMethod yX7_valve, Cond.selects RX7 yX7_valve yX7_valve, Cond.code yX7_valve cX7_valve 3 (some .int), Cond.fieldLink RX7 97 "NightWaterModel" "valves" "I"]
def wsL_law_r11 : List Cond := [Cond.methodLink RL 39 yX6_group, Cond.instanceMethod yX6_group, Cond.selects RX6 yX6_group yX6_group, Cond.code yX6_group cX6_group 3 (some .int), Cond.methodLink RX6 64 yX4_leastOfGroup, Cond.instanceMethod yX4_leastOfGroup, Cond.selects RX4 yX4_leastOfGroup yX4_leastOfGroup, Cond.code yX4_leastOfGroup cX4_leastOfGroup 3 (some .int), Cond.methodLink RX4 45 yX4_isNoSet, Cond.instanceMethod yX4_isNoSet, Cond.selects RX4 yX4_isNoSet yX4_isNoSet, Cond.code yX4_isNoSet cX4_isNoSet 2 (some .boolean), Cond.methodLink RX4 58 yX4_allValves, Cond.instanceMethod yX4_allValves, Cond.selects RX4 yX4_allValves yX4_allValves, Cond.code yX4_allValves cX4_allValves 1 (some .int), Cond.methodLink RX4 48 yX4_putTogether, Cond.instanceMethod yX4_putTogether, Cond.selects RX4 yX4_putTogether yX4_putTogether, Cond.code yX4_putTogether cX4_putTogether 3 none, Cond.methodLink RX4 76 yX5_number, Cond.instanceMethod yX5_number, Cond.selects RX5 yX5_number yX5_number, Cond.code yX5_number cX5_number 1 (some .int)]
def wsL_law_r12 : List Cond := [Cond.methodLink RX4 84 yX4_join, Cond.instanceMethod yX4_join, Cond.selects RX4 yX4_join yX4_join, Cond.code yX4_join cX4_join 6 none, Cond.methodLink RX4 88 Lib.Math.min.name, Cond.static Lib.Math.min.name, Cond.initialized "java/lang/Math", Cond.code Lib.Math.min.name Lib.Math.min.code 2 (some .int), Cond.methodLink RX4 93 Lib.Math.max.name, Cond.static Lib.Math.max.name, Cond.code Lib.Math.max.name Lib.Math.max.code 2 (some .int), Cond.methodLink RL 42 yX7_group, Cond.instanceMethod yX7_group, Cond.selects RX7 yX7_group yX7_group, Cond.code yX7_group cX7_group 3 (some .int), Cond.methodLink RX7 100 yX7_isSet, Cond.instanceMethod yX7_isSet, Cond.selects RX7 yX7_isSet yX7_isSet, Cond.code yX7_isSet cX7_isSet 2 (some .boolean), Cond.methodLink RX7 103 yX7_findGroups, Cond.instanceMethod yX7_findGroups, Cond.selects RX7 yX7_findGroups yX7_findGroups, Cond.code yX7_findGroups cX7_findGroups 6 none, Cond.methodLink RL 43 yX6_explains]
def wsL_law_r13 : List Cond := [Cond.instanceMethod yX6_explains, Cond.selects RX6 yX6_explains yX6_explains, Cond.code yX6_explains cX6_explains 2 (some .int), Cond.methodLink RX6 67 yX4_answerExplains, Cond.instanceMethod yX4_answerExplains, Cond.selects RX4 yX4_answerExplains yX4_answerExplains, Cond.code yX4_answerExplains cX4_answerExplains 2 (some .int), Cond.methodLink RX4 52 yX4_reckonLeaks, Cond.instanceMethod yX4_reckonLeaks, Cond.selects RX4 yX4_reckonLeaks yX4_reckonLeaks, Cond.code yX4_reckonLeaks cX4_reckonLeaks 2 none, Cond.methodLink RX4 79 yX5_leak, Cond.methodLink RX4 55 yX4_isExplained, Cond.instanceMethod yX4_isExplained, Cond.selects RX4 yX4_isExplained yX4_isExplained, Cond.code yX4_isExplained cX4_isExplained 4 (some .boolean), Cond.constant RX4 83 (-2000000000), Cond.methodLink RL 47 yX7_explains, Cond.instanceMethod yX7_explains, Cond.selects RX7 yX7_explains yX7_explains, Cond.code yX7_explains cX7_explains 2 (some .int), Cond.methodLink RX7 107 yX7_doesExplain, Cond.instanceMethod yX7_doesExplain, Cond.selects RX7 yX7_doesExplain yX7_doesExplain]
def wsL_law_r14 : List Cond := [Cond.code yX7_doesExplain cX7_doesExplain 7 (some .boolean), Cond.methodLink RL 48 yX6_fewest, Cond.instanceMethod yX6_fewest, Cond.selects RX6 yX6_fewest yX6_fewest, Cond.code yX6_fewest cX6_fewest 1 (some .int), Cond.methodLink RX6 71 yX4_fewestSet, Cond.instanceMethod yX4_fewestSet, Cond.selects RX4 yX4_fewestSet yX4_fewestSet, Cond.code yX4_fewestSet cX4_fewestSet 4 (some .int), Cond.methodLink RX4 62 yJ6_bitCount_0f7a4, Cond.static yJ6_bitCount_0f7a4, Cond.initialized RJ6, Cond.code yJ6_bitCount_0f7a4 cJ6_bitCount_0f7a4 1 (some .int), Cond.constant RJ6 265 (1431655765), Cond.constant RJ6 266 (858993459), Cond.constant RJ6 267 (252645135), Cond.methodLink RL 52 yX7_fewest, Cond.instanceMethod yX7_fewest, Cond.selects RX7 yX7_fewest yX7_fewest, Cond.code yX7_fewest cX7_fewest 3 (some .int), Cond.methodLink RX7 110 yX7_many, Cond.static yX7_many, Cond.code yX7_many cX7_many 3 (some .int), Cond.methodLink RL 53 yX6_sample]
def wsL_law_r15 : List Cond := [Cond.instanceMethod yX6_sample, Cond.selects RX6 yX6_sample yX6_sample, Cond.code yX6_sample cX6_sample 4 (some .int), Cond.methodLink RX6 75 yX1_setSample, Cond.instanceMethod yX1_setSample, Cond.selects RX1 yX1_setSample yX1_setSample, Cond.code yX1_setSample cX1_setSample 4 (some .int), Cond.constant RX1 20 (-2000000000), Cond.methodLink RL 57 yX7_sample, Cond.instanceMethod yX7_sample, Cond.selects RX7 yX7_sample yX7_sample, Cond.code yX7_sample cX7_sample 4 (some .int), Cond.methodLink RL 58 yX6_echo, Cond.instanceMethod yX6_echo, Cond.selects RX6 yX6_echo yX6_echo, Cond.code yX6_echo cX6_echo 5 (some .int), Cond.methodLink RX6 79 yX1_copySamples, Cond.instanceMethod yX1_copySamples, Cond.selects RX1 yX1_copySamples yX1_copySamples, Cond.code yX1_copySamples cX1_copySamples 6 (some .int), Cond.methodLink RL 62 yX7_echo, Cond.instanceMethod yX7_echo, Cond.selects RX7 yX7_echo yX7_echo, Cond.code yX7_echo cX7_echo 6 (some .int)]
def wsL_law_r16 : List Cond := [Cond.methodLink RL 63 yX6_sum, Cond.instanceMethod yX6_sum, Cond.selects RX6 yX6_sum yX6_sum, Cond.code yX6_sum cX6_sum 3 (some .int), Cond.methodLink RX6 83 yX1_sumPart, Cond.instanceMethod yX1_sumPart, Cond.selects RX1 yX1_sumPart yX1_sumPart, Cond.code yX1_sumPart cX1_sumPart 3 (some .int), Cond.methodLink RX1 21 yX1_sumAt, Cond.instanceMethod yX1_sumAt, Cond.selects RX1 yX1_sumAt yX1_sumAt, Cond.code yX1_sumAt cX1_sumAt 4 (some .int), Cond.methodLink RX1 55 yX1_isPair, Cond.instanceMethod yX1_isPair, Cond.selects RX1 yX1_isPair yX1_isPair, Cond.code yX1_isPair cX1_isPair 3 (some .boolean), Cond.methodLink RX1 25 yX1_pairsAt, Cond.instanceMethod yX1_pairsAt, Cond.selects RX1 yX1_pairsAt yX1_pairsAt, Cond.code yX1_pairsAt cX1_pairsAt 4 (some .int), Cond.methodLink RL 66 yX7_sum, Cond.instanceMethod yX7_sum, Cond.selects RX7 yX7_sum yX7_sum, Cond.code yX7_sum cX7_sum 3 (some .int)]
def wsL_law_r17 : List Cond := [Cond.methodLink RX7 117 yX7_sumOf, Cond.instanceMethod yX7_sumOf, Cond.selects RX7 yX7_sumOf yX7_sumOf, Cond.code yX7_sumOf cX7_sumOf 4 (some .int), Cond.methodLink RX7 113 yX7_isBoth, Cond.instanceMethod yX7_isBoth, Cond.selects RX7 yX7_isBoth yX7_isBoth, Cond.code yX7_isBoth cX7_isBoth 3 (some .boolean), Cond.methodLink RX7 120 yX7_countOf, Cond.instanceMethod yX7_countOf, Cond.selects RX7 yX7_countOf yX7_countOf, Cond.code yX7_countOf cX7_countOf 4 (some .int), Cond.methodLink RL 67 yX6_delay, Cond.instanceMethod yX6_delay, Cond.selects RX6 yX6_delay yX6_delay, Cond.code yX6_delay cX6_delay 2 (some .int), Cond.methodLink RX6 86 yX1_findDelay, Cond.instanceMethod yX1_findDelay, Cond.selects RX1 yX1_findDelay yX1_findDelay, Cond.code yX1_findDelay cX1_findDelay 3 (some .int), Cond.methodLink RX1 28 yX1_bestDelayAwayFrom, Cond.instanceMethod yX1_bestDelayAwayFrom, Cond.selects RX1 yX1_bestDelayAwayFrom yX1_bestDelayAwayFrom, Cond.code yX1_bestDelayAwayFrom cX1_bestDelayAwayFrom 13 (some .int)]
def wsL_law_r18 : List Cond := [Cond.methodLink RX1 52 Lib.Math.abs.name, Cond.static Lib.Math.abs.name, Cond.code Lib.Math.abs.name Lib.Math.abs.code 1 (some .int), Cond.methodLink RL 71 yX7_delay, Cond.instanceMethod yX7_delay, Cond.selects RX7 yX7_delay yX7_delay, Cond.code yX7_delay cX7_delay 3 (some .int), Cond.methodLink RX7 123 yX7_delayBut, Cond.instanceMethod yX7_delayBut, Cond.selects RX7 yX7_delayBut yX7_delayBut, Cond.code yX7_delayBut cX7_delayBut 15 (some .int), Cond.methodLink RL 72 yX6_place, Cond.instanceMethod yX6_place, Cond.selects RX6 yX6_place yX6_place, Cond.code yX6_place cX6_place 5 (some .int), Cond.methodLink RX6 90 yX1_twicePlace, Cond.instanceMethod yX1_twicePlace, Cond.selects RX1 yX1_twicePlace yX1_twicePlace, Cond.code yX1_twicePlace cX1_twicePlace 8 (some .int), Cond.constant RX1 31 (100000), Cond.methodLink RX1 40 Lib.Math.min.name, Cond.methodLink RX1 45 Lib.Math.max.name, Cond.methodLink RX1 32 yX1_findDelay, Cond.methodLink RX1 36 yX1_onPipe]
def wsL_law_r19 : List Cond := [Cond.static yX1_onPipe, Cond.code yX1_onPipe cX1_onPipe 2 (some .int), Cond.methodLink RL 75 yX7_place, Cond.instanceMethod yX7_place, Cond.selects RX7 yX7_place yX7_place, Cond.code yX7_place cX7_place 9 (some .int), Cond.constant RX7 126 (100000), Cond.methodLink RL 76 yX6_section, Cond.instanceMethod yX6_section, Cond.selects RX6 yX6_section yX6_section, Cond.code yX6_section cX6_section 4 (some .int), Cond.methodLink RX6 93 yX3_setWeight, Cond.instanceMethod yX3_setWeight, Cond.selects RX3 yX3_setWeight yX3_setWeight, Cond.code yX3_setWeight cX3_setWeight 5 (some .int), Cond.methodLink RL 79 yX7_section, Cond.instanceMethod yX7_section, Cond.selects RX7 yX7_section yX7_section, Cond.code yX7_section cX7_section 5 (some .int), Cond.methodLink RL 80 yX6_cost, Cond.instanceMethod yX6_cost, Cond.selects RX6 yX6_cost yX6_cost, Cond.code yX6_cost cX6_cost 3 (some .int), Cond.methodLink RX6 96 yX3_planCost]
def wsL_law_r20 : List Cond := [Cond.instanceMethod yX3_planCost, Cond.selects RX3 yX3_planCost yX3_planCost, Cond.code yX3_planCost cX3_planCost 3 (some .int), Cond.methodLink RX3 34 yX3_isNoStretch, Cond.instanceMethod yX3_isNoStretch, Cond.selects RX3 yX3_isNoStretch yX3_isNoStretch, Cond.code yX3_isNoStretch cX3_isNoStretch 3 (some .boolean), Cond.methodLink RL 83 yX7_cost, Cond.instanceMethod yX7_cost, Cond.selects RX7 yX7_cost yX7_cost, Cond.code yX7_cost cX7_cost 3 (some .int), Cond.methodLink RX7 127 yX7_isSpan, Cond.instanceMethod yX7_isSpan, Cond.selects RX7 yX7_isSpan yX7_isSpan, Cond.code yX7_isSpan cX7_isSpan 3 (some .boolean), Cond.methodLink RX7 130 yX7_plans, Cond.instanceMethod yX7_plans, Cond.selects RX7 yX7_plans yX7_plans, Cond.code yX7_plans cX7_plans 8 none, Cond.methodLink RL 84 yX6_closes, Cond.instanceMethod yX6_closes, Cond.selects RX6 yX6_closes yX6_closes, Cond.code yX6_closes cX6_closes 3 (some .int), Cond.methodLink RX6 99 yX3_planStart]
def wsL_law_r21 : List Cond := [Cond.instanceMethod yX3_planStart, Cond.selects RX3 yX3_planStart yX3_planStart, Cond.code yX3_planStart cX3_planStart 3 (some .int), Cond.methodLink RL 87 yX7_closes, Cond.instanceMethod yX7_closes, Cond.selects RX7 yX7_closes yX7_closes, Cond.code yX7_closes cX7_closes 3 (some .int), Cond.methodLink RL 88 yX6_closings, Cond.instanceMethod yX6_closings, Cond.selects RX6 yX6_closings yX6_closings, Cond.code yX6_closings cX6_closings 2 (some .int), Cond.methodLink RX6 102 yX3_closingsFor, Cond.instanceMethod yX3_closingsFor, Cond.selects RX3 yX3_closingsFor yX3_closingsFor, Cond.code yX3_closingsFor cX3_closingsFor 6 (some .int), Cond.methodLink RL 91 yX7_closings, Cond.instanceMethod yX7_closings, Cond.selects RX7 yX7_closings yX7_closings, Cond.code yX7_closings cX7_closings 6 (some .int), Cond.methodLink RL 92 yX6_dig, Cond.instanceMethod yX6_dig, Cond.selects RX6 yX6_dig yX6_dig, Cond.code yX6_dig cX6_dig 3 (some .int), Cond.methodLink RX6 105 yX0_add]
def wsL_law_r22 : List Cond := [Cond.instanceMethod yX0_add, Cond.selects RX0 yX0_add yX0_add, Cond.code yX0_add cX0_add 3 (some .int), Cond.methodLink RX0 29 yX0_rankNext, Cond.instanceMethod yX0_rankNext, Cond.selects RX0 yX0_rankNext yX0_rankNext, Cond.code yX0_rankNext cX0_rankNext 3 none, Cond.methodLink RX0 37 yX0_goesAhead, Cond.instanceMethod yX0_goesAhead, Cond.selects RX0 yX0_goesAhead yX0_goesAhead, Cond.code yX0_goesAhead cX0_goesAhead 3 (some .boolean), Cond.methodLink RL 95 yX7_dig, Cond.instanceMethod yX7_dig, Cond.selects RX7 yX7_dig yX7_dig, Cond.code yX7_dig cX7_dig 3 (some .int), Cond.fieldLink RX7 133 "NightWaterModel" "digs" "I", Cond.methodLink RL 96 yX6_clear, Cond.instanceMethod yX6_clear, Cond.selects RX6 yX6_clear yX6_clear, Cond.code yX6_clear cX6_clear 1 (some .int), Cond.methodLink RX6 106 yX0_removeAll, Cond.instanceMethod yX0_removeAll, Cond.selects RX0 yX0_removeAll yX0_removeAll, Cond.code yX0_removeAll cX0_removeAll 2 (some .int)]
def wsL_law_r23 : List Cond := [Cond.methodLink RL 99 yX7_clear, Cond.instanceMethod yX7_clear, Cond.selects RX7 yX7_clear yX7_clear, Cond.code yX7_clear cX7_clear 2 (some .int), Cond.methodLink RL 100 yX6_lost, Cond.instanceMethod yX6_lost, Cond.selects RX6 yX6_lost yX6_lost, Cond.code yX6_lost cX6_lost 1 (some .int), Cond.methodLink RX6 109 yX0_lostInOrder, Cond.instanceMethod yX0_lostInOrder, Cond.selects RX0 yX0_lostInOrder yX0_lostInOrder, Cond.code yX0_lostInOrder cX0_lostInOrder 5 (some .int), Cond.methodLink RL 103 yX7_lost, Cond.instanceMethod yX7_lost, Cond.selects RX7 yX7_lost yX7_lost, Cond.code yX7_lost cX7_lost 4 (some .int), Cond.methodLink RX7 136 yX7_sorts, Cond.instanceMethod yX7_sorts, Cond.selects RX7 yX7_sorts yX7_sorts, Cond.code yX7_sorts cX7_sorts 3 none, Cond.methodLink RL 104 yX6_order, Cond.instanceMethod yX6_order, Cond.selects RX6 yX6_order yX6_order, Cond.code yX6_order cX6_order 2 (some .int)]
def wsL_law_r24 : List Cond := [Cond.methodLink RX6 112 yX0_inOrder, Cond.instanceMethod yX0_inOrder, Cond.selects RX0 yX0_inOrder yX0_inOrder, Cond.code yX0_inOrder cX0_inOrder 2 (some .int), Cond.methodLink RL 107 yX7_order, Cond.instanceMethod yX7_order, Cond.selects RX7 yX7_order yX7_order, Cond.code yX7_order cX7_order 2 (some .int), Cond.methodLink RL 108 yX6_pulled, Cond.instanceMethod yX6_pulled, Cond.selects RX6 yX6_pulled yX6_pulled, Cond.code yX6_pulled cX6_pulled 4 (some .int), Cond.methodLink RX6 115 yX2_leakAt, Cond.static yX2_leakAt, Cond.initialized RX2, Cond.code yX2_leakAt cX2_leakAt 5 (some .int), Cond.constant RX2 9 (100000), Cond.methodLink RX2 14 yX2_pull, Cond.static yX2_pull, Cond.code yX2_pull cX2_pull 1 (some .long), Cond.methodLink RX2 20 yX2_rootOf, Cond.static yX2_rootOf, Cond.code yX2_rootOf cX2_rootOf 2 (some .int), Cond.methodLink RL 111 yX7_pulled]
def wsL_law_r25 : List Cond := [Cond.instanceMethod yX7_pulled, Cond.selects RX7 yX7_pulled yX7_pulled, Cond.code yX7_pulled cX7_pulled 4 (some .int), Cond.methodLink RX7 139 yX7_pull, Cond.static yX7_pull, Cond.code yX7_pull cX7_pull 2 (some .long), Cond.methodLink RL 112 yX6_count, Cond.instanceMethod yX6_count, Cond.selects RX6 yX6_count yX6_count, Cond.code yX6_count cX6_count 2 (some .int), Cond.methodLink RX6 120 yX5_number, Cond.methodLink RX6 123 yX4_number, Cond.instanceMethod yX4_number, Cond.selects RX4 yX4_number yX4_number, Cond.code yX4_number cX4_number 1 (some .int), Cond.methodLink RX6 124 yX3_number, Cond.instanceMethod yX3_number, Cond.selects RX3 yX3_number yX3_number, Cond.code yX3_number cX3_number 1 (some .int), Cond.methodLink RX6 125 yX0_number, Cond.instanceMethod yX0_number, Cond.selects RX0 yX0_number yX0_number, Cond.code yX0_number cX0_number 1 (some .int), Cond.methodLink RX6 126 yX5_readingsLost]
def wsL_law_r26 : List Cond := [Cond.instanceMethod yX5_readingsLost, Cond.selects RX5 yX5_readingsLost yX5_readingsLost, Cond.code yX5_readingsLost cX5_readingsLost 4 (some .int), Cond.methodLink RX6 129 yX1_samplesLost, Cond.instanceMethod yX1_samplesLost, Cond.selects RX1 yX1_samplesLost yX1_samplesLost, Cond.code yX1_samplesLost cX1_samplesLost 3 (some .int), Cond.methodLink RL 115 yX7_count, Cond.instanceMethod yX7_count, Cond.selects RX7 yX7_count yX7_count, Cond.code yX7_count cX7_count 4 (some .int), Cond.methodLink RL 116 yX6_digest, Cond.instanceMethod yX6_digest, Cond.selects RX6 yX6_digest yX6_digest, Cond.code yX6_digest cX6_digest 4 (some .long), Cond.constantLong RX6 132 (197), Cond.methodLink RX6 134 yX6_count, Cond.methodLink RX6 137 yX6_mix, Cond.static yX6_mix, Cond.code yX6_mix cX6_mix 3 (some .long), Cond.constantLong RX6 149 (31), Cond.methodLink RX6 141 yX5_mixInto, Cond.instanceMethod yX5_mixInto, Cond.selects RX5 yX5_mixInto yX5_mixInto]
def wsL_law_r27 : List Cond := [Cond.code yX5_mixInto cX5_mixInto 7 (some .long), Cond.methodLink RX5 56 yX5_leak, Cond.methodLink RX6 145 yX4_mixInto, Cond.instanceMethod yX4_mixInto, Cond.selects RX4 yX4_mixInto yX4_mixInto, Cond.code yX4_mixInto cX4_mixInto 6 (some .long), Cond.methodLink RX6 146 yX1_mixInto, Cond.instanceMethod yX1_mixInto, Cond.selects RX1 yX1_mixInto yX1_mixInto, Cond.code yX1_mixInto cX1_mixInto 7 (some .long), Cond.methodLink RX6 147 yX3_mixInto, Cond.instanceMethod yX3_mixInto, Cond.selects RX3 yX3_mixInto yX3_mixInto, Cond.code yX3_mixInto cX3_mixInto 6 (some .long), Cond.methodLink RX6 148 yX0_mixInto, Cond.instanceMethod yX0_mixInto, Cond.selects RX0 yX0_mixInto yX0_mixInto, Cond.code yX0_mixInto cX0_mixInto 6 (some .long), Cond.methodLink RL 120 yX7_digest, Cond.instanceMethod yX7_digest, Cond.selects RX7 yX7_digest yX7_digest, Cond.code yX7_digest cX7_digest 5 (some .long), Cond.constantLong RX7 143 (197), Cond.constantLong RX7 145 (31)]
def wsL_law_r28 : List Cond := [Cond.methodLink RX7 147 yX7_count]
def wsL_law : List Cond := (wsL_law_r1 ++ (wsL_law_r2 ++ (wsL_law_r3 ++ (wsL_law_r4 ++ (wsL_law_r5 ++ (wsL_law_r6 ++ (wsL_law_r7 ++ (wsL_law_r8 ++ (wsL_law_r9 ++ (wsL_law_r10 ++ (wsL_law_r11 ++ (wsL_law_r12 ++ (wsL_law_r13 ++ (wsL_law_r14 ++ (wsL_law_r15 ++ (wsL_law_r16 ++ (wsL_law_r17 ++ (wsL_law_r18 ++ (wsL_law_r19 ++ (wsL_law_r20 ++ (wsL_law_r21 ++ (wsL_law_r22 ++ (wsL_law_r23 ++ (wsL_law_r24 ++ (wsL_law_r25 ++ (wsL_law_r26 ++ (wsL_law_r27 ++ wsL_law_r28))))))))))))))))))))))))))) ++ wsX60 ++ wsX70 ++ wsX50 ++ wsX40 ++ wsX10 ++ wsX30 ++ wsX00 ++ ([] : List Cond)
abbrev vwCl : List vw_C := [(RX0, TX0, 4), (RX1, TX1, 1), (RX3, TX3, 4), (RX4, TX4, 8), (RX5, TX5, 7), (RX6, TX6, 5), (RX7, TX7, 23)]
end
section
theorem dX0_init_0 : decode cX0_init 0 = .ok (.aload_n 0, 1) := by decide +kernel
theorem dX0_init_1 : decode cX0_init 1 = .ok (.invokespecial 3, 3) := by decide +kernel
theorem dX0_init_4 : decode cX0_init 4 = .ok (.aload_n 0, 1) := by decide +kernel
theorem dX0_init_5 : decode cX0_init 5 = .ok (.bipush 8, 2) := by decide +kernel
theorem dX0_init_7 : decode cX0_init 7 = .ok (.newarray .int, 2) := by decide +kernel
theorem dX0_init_9 : decode cX0_init 9 = .ok (.putfield 11, 3) := by decide +kernel
theorem dX0_init_12 : decode cX0_init 12 = .ok (.aload_n 0, 1) := by decide +kernel
theorem dX0_init_13 : decode cX0_init 13 = .ok (.bipush 8, 2) := by decide +kernel
theorem dX0_init_15 : decode cX0_init 15 = .ok (.newarray .int, 2) := by decide +kernel
theorem dX0_init_17 : decode cX0_init 17 = .ok (.putfield 15, 3) := by decide +kernel
theorem dX0_init_20 : decode cX0_init 20 = .ok (.aload_n 0, 1) := by decide +kernel
theorem dX0_init_21 : decode cX0_init 21 = .ok (.bipush 8, 2) := by decide +kernel
theorem dX0_init_23 : decode cX0_init 23 = .ok (.newarray .int, 2) := by decide +kernel
theorem dX0_init_25 : decode cX0_init 25 = .ok (.putfield 18, 3) := by decide +kernel
theorem dX0_init_28 : decode cX0_init 28 = .ok (.aload_n 0, 1) := by decide +kernel
theorem dX0_init_29 : decode cX0_init 29 = .ok (.iconst 0, 1) := by decide +kernel
theorem dX0_init_30 : decode cX0_init 30 = .ok (.putfield 21, 3) := by decide +kernel
theorem dX0_init_33 : decode cX0_init 33 = .ok (.return_, 1) := by decide +kernel
theorem dX0_number_0 : decode cX0_number 0 = .ok (.aload_n 0, 1) := by decide +kernel
theorem dX0_number_1 : decode cX0_number 1 = .ok (.getfield 21, 3) := by decide +kernel
theorem dX0_number_4 : decode cX0_number 4 = .ok (.ireturn, 1) := by decide +kernel
set_option maxRecDepth 20000 in
theorem ggX0_add_X6_outside : GoodIn wsX0_add wsX6_outside := goodIn_r _ [6] (by decide +kernel) (by decide +kernel)
set_option maxRecDepth 20000 in
theorem gX0_add_X6_outside_n25 : GoodIn wsX0_add (wsX6_outside) := ggX0_add_X6_outside
set_option maxRecDepth 20000 in
theorem ggX0_add_X0_rankNext : GoodIn wsX0_add wsX0_rankNext := goodIn_r _ [11, 12, 13, 14, 15, 10, 16, 2, 3, 17, 18, 19, 20] (by decide +kernel) (by decide +kernel)
set_option maxRecDepth 20000 in
theorem gX0_add_X0_rankNext : GoodIn wsX0_add (wsV RX0 29 RX0 yX0_rankNext wsX0_rankNext) := goodIn_app (goodIn_of _ (by decide +kernel)) ggX0_add_X0_rankNext
theorem dX0_add_0 : decode cX0_add 0 = .ok (.iload_n 1, 1) := by decide +kernel
theorem dX0_add_1 : decode cX0_add 1 = .ok (.iconst 0, 1) := by decide +kernel
theorem dX0_add_2 : decode cX0_add 2 = .ok (.sipush 1000, 3) := by decide +kernel
theorem dX0_add_5 : decode cX0_add 5 = .ok (.invokestatic 25, 3) := by decide +kernel
theorem dX0_add_8 : decode cX0_add 8 = .ok (.ifCond .ne 13, 3) := by decide +kernel
theorem dX0_add_11 : decode cX0_add 11 = .ok (.iload_n 2, 1) := by decide +kernel
theorem dX0_add_12 : decode cX0_add 12 = .ok (.iconst 1, 1) := by decide +kernel
theorem dX0_add_13 : decode cX0_add 13 = .ok (.bipush 100, 2) := by decide +kernel
theorem dX0_add_15 : decode cX0_add 15 = .ok (.invokestatic 25, 3) := by decide +kernel
theorem dX0_add_18 : decode cX0_add 18 = .ok (.ifCond .eq 6, 3) := by decide +kernel
theorem dX0_add_21 : decode cX0_add 21 = .ok (.bipush (-2), 2) := by decide +kernel
theorem dX0_add_23 : decode cX0_add 23 = .ok (.ireturn, 1) := by decide +kernel
theorem dX0_add_24 : decode cX0_add 24 = .ok (.aload_n 0, 1) := by decide +kernel
theorem dX0_add_25 : decode cX0_add 25 = .ok (.getfield 21, 3) := by decide +kernel
theorem dX0_add_28 : decode cX0_add 28 = .ok (.bipush 8, 2) := by decide +kernel
theorem dX0_add_30 : decode cX0_add 30 = .ok (.if_icmp .lt 6, 3) := by decide +kernel
theorem dX0_add_33 : decode cX0_add 33 = .ok (.bipush (-4), 2) := by decide +kernel
theorem dX0_add_35 : decode cX0_add 35 = .ok (.ireturn, 1) := by decide +kernel
theorem dX0_add_36 : decode cX0_add 36 = .ok (.aload_n 0, 1) := by decide +kernel
theorem dX0_add_37 : decode cX0_add 37 = .ok (.getfield 11, 3) := by decide +kernel
theorem dX0_add_40 : decode cX0_add 40 = .ok (.aload_n 0, 1) := by decide +kernel
theorem dX0_add_41 : decode cX0_add 41 = .ok (.getfield 21, 3) := by decide +kernel
theorem dX0_add_44 : decode cX0_add 44 = .ok (.iload_n 1, 1) := by decide +kernel
theorem dX0_add_45 : decode cX0_add 45 = .ok (.iastore, 1) := by decide +kernel
theorem dX0_add_46 : decode cX0_add 46 = .ok (.aload_n 0, 1) := by decide +kernel
theorem dX0_add_47 : decode cX0_add 47 = .ok (.getfield 15, 3) := by decide +kernel
theorem dX0_add_50 : decode cX0_add 50 = .ok (.aload_n 0, 1) := by decide +kernel
theorem dX0_add_51 : decode cX0_add 51 = .ok (.getfield 21, 3) := by decide +kernel
theorem dX0_add_54 : decode cX0_add 54 = .ok (.iload_n 2, 1) := by decide +kernel
theorem dX0_add_55 : decode cX0_add 55 = .ok (.iastore, 1) := by decide +kernel
theorem dX0_add_56 : decode cX0_add 56 = .ok (.aload_n 0, 1) := by decide +kernel
theorem dX0_add_57 : decode cX0_add 57 = .ok (.aload_n 0, 1) := by decide +kernel
theorem dX0_add_58 : decode cX0_add 58 = .ok (.getfield 21, 3) := by decide +kernel
theorem dX0_add_61 : decode cX0_add 61 = .ok (.invokevirtual 29, 3) := by decide +kernel
theorem dX0_add_64 : decode cX0_add 64 = .ok (.aload_n 0, 1) := by decide +kernel
theorem dX0_add_65 : decode cX0_add 65 = .ok (.dup, 1) := by decide +kernel
theorem dX0_add_66 : decode cX0_add 66 = .ok (.getfield 21, 3) := by decide +kernel
theorem dX0_add_69 : decode cX0_add 69 = .ok (.iconst 1, 1) := by decide +kernel
theorem dX0_add_70 : decode cX0_add 70 = .ok (.iadd, 1) := by decide +kernel
theorem dX0_add_71 : decode cX0_add 71 = .ok (.putfield 21, 3) := by decide +kernel
theorem dX0_add_74 : decode cX0_add 74 = .ok (.aload_n 0, 1) := by decide +kernel
theorem dX0_add_75 : decode cX0_add 75 = .ok (.getfield 21, 3) := by decide +kernel
theorem dX0_add_78 : decode cX0_add 78 = .ok (.iconst 1, 1) := by decide +kernel
theorem dX0_add_79 : decode cX0_add 79 = .ok (.isub, 1) := by decide +kernel
theorem dX0_add_80 : decode cX0_add 80 = .ok (.ireturn, 1) := by decide +kernel
theorem dX0_removeAll_0 : decode cX0_removeAll 0 = .ok (.aload_n 0, 1) := by decide +kernel
theorem dX0_removeAll_1 : decode cX0_removeAll 1 = .ok (.getfield 21, 3) := by decide +kernel
theorem dX0_removeAll_4 : decode cX0_removeAll 4 = .ok (.istore_n 1, 1) := by decide +kernel
theorem dX0_removeAll_5 : decode cX0_removeAll 5 = .ok (.aload_n 0, 1) := by decide +kernel
theorem dX0_removeAll_6 : decode cX0_removeAll 6 = .ok (.iconst 0, 1) := by decide +kernel
theorem dX0_removeAll_7 : decode cX0_removeAll 7 = .ok (.putfield 21, 3) := by decide +kernel
theorem dX0_removeAll_10 : decode cX0_removeAll 10 = .ok (.iload_n 1, 1) := by decide +kernel
theorem dX0_removeAll_11 : decode cX0_removeAll 11 = .ok (.ireturn, 1) := by decide +kernel
theorem dX0_lostInOrder_0 : decode cX0_lostInOrder 0 = .ok (.iconst 0, 1) := by decide +kernel
theorem dX0_lostInOrder_1 : decode cX0_lostInOrder 1 = .ok (.istore_n 1, 1) := by decide +kernel
theorem dX0_lostInOrder_2 : decode cX0_lostInOrder 2 = .ok (.iconst 0, 1) := by decide +kernel
theorem dX0_lostInOrder_3 : decode cX0_lostInOrder 3 = .ok (.istore_n 2, 1) := by decide +kernel
theorem dX0_lostInOrder_4 : decode cX0_lostInOrder 4 = .ok (.iconst 0, 1) := by decide +kernel
theorem dX0_lostInOrder_5 : decode cX0_lostInOrder 5 = .ok (.istore_n 3, 1) := by decide +kernel
theorem dX0_lostInOrder_6 : decode cX0_lostInOrder 6 = .ok (.iload_n 3, 1) := by decide +kernel
theorem dX0_lostInOrder_7 : decode cX0_lostInOrder 7 = .ok (.aload_n 0, 1) := by decide +kernel
theorem dX0_lostInOrder_8 : decode cX0_lostInOrder 8 = .ok (.getfield 21, 3) := by decide +kernel
theorem dX0_lostInOrder_11 : decode cX0_lostInOrder 11 = .ok (.if_icmp .ge 39, 3) := by decide +kernel
theorem dX0_lostInOrder_14 : decode cX0_lostInOrder 14 = .ok (.aload_n 0, 1) := by decide +kernel
theorem dX0_lostInOrder_15 : decode cX0_lostInOrder 15 = .ok (.getfield 18, 3) := by decide +kernel
theorem dX0_lostInOrder_18 : decode cX0_lostInOrder 18 = .ok (.iload_n 3, 1) := by decide +kernel
theorem dX0_lostInOrder_19 : decode cX0_lostInOrder 19 = .ok (.iaload, 1) := by decide +kernel
theorem dX0_lostInOrder_20 : decode cX0_lostInOrder 20 = .ok (.istore 4, 2) := by decide +kernel
theorem dX0_lostInOrder_22 : decode cX0_lostInOrder 22 = .ok (.iload_n 1, 1) := by decide +kernel
theorem dX0_lostInOrder_23 : decode cX0_lostInOrder 23 = .ok (.aload_n 0, 1) := by decide +kernel
theorem dX0_lostInOrder_24 : decode cX0_lostInOrder 24 = .ok (.getfield 15, 3) := by decide +kernel
theorem dX0_lostInOrder_27 : decode cX0_lostInOrder 27 = .ok (.iload 4, 2) := by decide +kernel
theorem dX0_lostInOrder_29 : decode cX0_lostInOrder 29 = .ok (.iaload, 1) := by decide +kernel
theorem dX0_lostInOrder_30 : decode cX0_lostInOrder 30 = .ok (.iadd, 1) := by decide +kernel
theorem dX0_lostInOrder_31 : decode cX0_lostInOrder 31 = .ok (.istore_n 1, 1) := by decide +kernel
theorem dX0_lostInOrder_32 : decode cX0_lostInOrder 32 = .ok (.iload_n 2, 1) := by decide +kernel
theorem dX0_lostInOrder_33 : decode cX0_lostInOrder 33 = .ok (.aload_n 0, 1) := by decide +kernel
theorem dX0_lostInOrder_34 : decode cX0_lostInOrder 34 = .ok (.getfield 11, 3) := by decide +kernel
theorem dX0_lostInOrder_37 : decode cX0_lostInOrder 37 = .ok (.iload 4, 2) := by decide +kernel
theorem dX0_lostInOrder_39 : decode cX0_lostInOrder 39 = .ok (.iaload, 1) := by decide +kernel
theorem dX0_lostInOrder_40 : decode cX0_lostInOrder 40 = .ok (.iload_n 1, 1) := by decide +kernel
theorem dX0_lostInOrder_41 : decode cX0_lostInOrder 41 = .ok (.imul, 1) := by decide +kernel
theorem dX0_lostInOrder_42 : decode cX0_lostInOrder 42 = .ok (.iadd, 1) := by decide +kernel
theorem dX0_lostInOrder_43 : decode cX0_lostInOrder 43 = .ok (.istore_n 2, 1) := by decide +kernel
theorem dX0_lostInOrder_44 : decode cX0_lostInOrder 44 = .ok (.iinc 3 1, 3) := by decide +kernel
theorem dX0_lostInOrder_47 : decode cX0_lostInOrder 47 = .ok (.goto (-41), 3) := by decide +kernel
theorem dX0_lostInOrder_50 : decode cX0_lostInOrder 50 = .ok (.iload_n 2, 1) := by decide +kernel
theorem dX0_lostInOrder_51 : decode cX0_lostInOrder 51 = .ok (.ireturn, 1) := by decide +kernel
set_option maxRecDepth 20000 in
theorem ggX0_inOrder_X6_outside : GoodIn wsX0_inOrder wsX6_outside := goodIn_r _ [5] (by decide +kernel) (by decide +kernel)
set_option maxRecDepth 20000 in
theorem gX0_inOrder_X6_outside_n25 : GoodIn wsX0_inOrder (wsX6_outside) := ggX0_inOrder_X6_outside
theorem dX0_inOrder_0 : decode cX0_inOrder 0 = .ok (.iload_n 1, 1) := by decide +kernel
theorem dX0_inOrder_1 : decode cX0_inOrder 1 = .ok (.iconst 0, 1) := by decide +kernel
theorem dX0_inOrder_2 : decode cX0_inOrder 2 = .ok (.aload_n 0, 1) := by decide +kernel
theorem dX0_inOrder_3 : decode cX0_inOrder 3 = .ok (.getfield 21, 3) := by decide +kernel
theorem dX0_inOrder_6 : decode cX0_inOrder 6 = .ok (.iconst 1, 1) := by decide +kernel
theorem dX0_inOrder_7 : decode cX0_inOrder 7 = .ok (.isub, 1) := by decide +kernel
theorem dX0_inOrder_8 : decode cX0_inOrder 8 = .ok (.invokestatic 25, 3) := by decide +kernel
theorem dX0_inOrder_11 : decode cX0_inOrder 11 = .ok (.ifCond .eq 7, 3) := by decide +kernel
theorem dX0_inOrder_14 : decode cX0_inOrder 14 = .ok (.iconst (-1), 1) := by decide +kernel
theorem dX0_inOrder_15 : decode cX0_inOrder 15 = .ok (.goto 9, 3) := by decide +kernel
theorem dX0_inOrder_18 : decode cX0_inOrder 18 = .ok (.aload_n 0, 1) := by decide +kernel
theorem dX0_inOrder_19 : decode cX0_inOrder 19 = .ok (.getfield 18, 3) := by decide +kernel
theorem dX0_inOrder_22 : decode cX0_inOrder 22 = .ok (.iload_n 1, 1) := by decide +kernel
theorem dX0_inOrder_23 : decode cX0_inOrder 23 = .ok (.iaload, 1) := by decide +kernel
theorem dX0_inOrder_24 : decode cX0_inOrder 24 = .ok (.ireturn, 1) := by decide +kernel
set_option maxRecDepth 20000 in
theorem ggX0_mixInto_X6_mix : GoodIn wsX0_mixInto wsX6_mix := goodIn_r _ [6, 7] (by decide +kernel) (by decide +kernel)
set_option maxRecDepth 20000 in
theorem gX0_mixInto_X6_mix_n33 : GoodIn wsX0_mixInto (wsX6_mix) := ggX0_mixInto_X6_mix
theorem dX0_mixInto_0 : decode cX0_mixInto 0 = .ok (.lload_n 1, 1) := by decide +kernel
theorem dX0_mixInto_1 : decode cX0_mixInto 1 = .ok (.lstore_n 3, 1) := by decide +kernel
theorem dX0_mixInto_2 : decode cX0_mixInto 2 = .ok (.iconst 0, 1) := by decide +kernel
theorem dX0_mixInto_3 : decode cX0_mixInto 3 = .ok (.istore 5, 2) := by decide +kernel
theorem dX0_mixInto_5 : decode cX0_mixInto 5 = .ok (.iload 5, 2) := by decide +kernel
theorem dX0_mixInto_7 : decode cX0_mixInto 7 = .ok (.aload_n 0, 1) := by decide +kernel
theorem dX0_mixInto_8 : decode cX0_mixInto 8 = .ok (.getfield 21, 3) := by decide +kernel
theorem dX0_mixInto_11 : decode cX0_mixInto 11 = .ok (.if_icmp .ge 33, 3) := by decide +kernel
theorem dX0_mixInto_14 : decode cX0_mixInto 14 = .ok (.lload_n 3, 1) := by decide +kernel
theorem dX0_mixInto_15 : decode cX0_mixInto 15 = .ok (.aload_n 0, 1) := by decide +kernel
theorem dX0_mixInto_16 : decode cX0_mixInto 16 = .ok (.getfield 11, 3) := by decide +kernel
theorem dX0_mixInto_19 : decode cX0_mixInto 19 = .ok (.iload 5, 2) := by decide +kernel
theorem dX0_mixInto_21 : decode cX0_mixInto 21 = .ok (.iaload, 1) := by decide +kernel
theorem dX0_mixInto_22 : decode cX0_mixInto 22 = .ok (.invokestatic 33, 3) := by decide +kernel
theorem dX0_mixInto_25 : decode cX0_mixInto 25 = .ok (.lstore_n 3, 1) := by decide +kernel
theorem dX0_mixInto_26 : decode cX0_mixInto 26 = .ok (.lload_n 3, 1) := by decide +kernel
theorem dX0_mixInto_27 : decode cX0_mixInto 27 = .ok (.aload_n 0, 1) := by decide +kernel
theorem dX0_mixInto_28 : decode cX0_mixInto 28 = .ok (.getfield 15, 3) := by decide +kernel
theorem dX0_mixInto_31 : decode cX0_mixInto 31 = .ok (.iload 5, 2) := by decide +kernel
theorem dX0_mixInto_33 : decode cX0_mixInto 33 = .ok (.iaload, 1) := by decide +kernel
theorem dX0_mixInto_34 : decode cX0_mixInto 34 = .ok (.invokestatic 33, 3) := by decide +kernel
theorem dX0_mixInto_37 : decode cX0_mixInto 37 = .ok (.lstore_n 3, 1) := by decide +kernel
theorem dX0_mixInto_38 : decode cX0_mixInto 38 = .ok (.iinc 5 1, 3) := by decide +kernel
theorem dX0_mixInto_41 : decode cX0_mixInto 41 = .ok (.goto (-36), 3) := by decide +kernel
theorem dX0_mixInto_44 : decode cX0_mixInto 44 = .ok (.lload_n 3, 1) := by decide +kernel
theorem dX0_mixInto_45 : decode cX0_mixInto 45 = .ok (.lreturn, 1) := by decide +kernel
set_option maxRecDepth 20000 in
theorem ggX0_rankNext_X0_goesAhead : GoodIn wsX0_rankNext wsX0_goesAhead := goodIn_r _ [6, 7, 8, 9, 10, 11, 12] (by decide +kernel) (by decide +kernel)
set_option maxRecDepth 20000 in
theorem gX0_rankNext_X0_goesAhead : GoodIn wsX0_rankNext (wsV RX0 37 RX0 yX0_goesAhead wsX0_goesAhead) := goodIn_app (goodIn_of _ (by decide +kernel)) ggX0_rankNext_X0_goesAhead
theorem dX0_rankNext_0 : decode cX0_rankNext 0 = .ok (.iload_n 1, 1) := by decide +kernel
theorem dX0_rankNext_1 : decode cX0_rankNext 1 = .ok (.istore_n 2, 1) := by decide +kernel
theorem dX0_rankNext_2 : decode cX0_rankNext 2 = .ok (.iload_n 2, 1) := by decide +kernel
theorem dX0_rankNext_3 : decode cX0_rankNext 3 = .ok (.ifCond .le 39, 3) := by decide +kernel
theorem dX0_rankNext_6 : decode cX0_rankNext 6 = .ok (.aload_n 0, 1) := by decide +kernel
theorem dX0_rankNext_7 : decode cX0_rankNext 7 = .ok (.iload_n 1, 1) := by decide +kernel
theorem dX0_rankNext_8 : decode cX0_rankNext 8 = .ok (.aload_n 0, 1) := by decide +kernel
theorem dX0_rankNext_9 : decode cX0_rankNext 9 = .ok (.getfield 18, 3) := by decide +kernel
theorem dX0_rankNext_12 : decode cX0_rankNext 12 = .ok (.iload_n 2, 1) := by decide +kernel
theorem dX0_rankNext_13 : decode cX0_rankNext 13 = .ok (.iconst 1, 1) := by decide +kernel
theorem dX0_rankNext_14 : decode cX0_rankNext 14 = .ok (.isub, 1) := by decide +kernel
theorem dX0_rankNext_15 : decode cX0_rankNext 15 = .ok (.iaload, 1) := by decide +kernel
theorem dX0_rankNext_16 : decode cX0_rankNext 16 = .ok (.invokevirtual 37, 3) := by decide +kernel
theorem dX0_rankNext_19 : decode cX0_rankNext 19 = .ok (.ifCond .eq 23, 3) := by decide +kernel
theorem dX0_rankNext_22 : decode cX0_rankNext 22 = .ok (.aload_n 0, 1) := by decide +kernel
theorem dX0_rankNext_23 : decode cX0_rankNext 23 = .ok (.getfield 18, 3) := by decide +kernel
theorem dX0_rankNext_26 : decode cX0_rankNext 26 = .ok (.iload_n 2, 1) := by decide +kernel
theorem dX0_rankNext_27 : decode cX0_rankNext 27 = .ok (.aload_n 0, 1) := by decide +kernel
theorem dX0_rankNext_28 : decode cX0_rankNext 28 = .ok (.getfield 18, 3) := by decide +kernel
theorem dX0_rankNext_31 : decode cX0_rankNext 31 = .ok (.iload_n 2, 1) := by decide +kernel
theorem dX0_rankNext_32 : decode cX0_rankNext 32 = .ok (.iconst 1, 1) := by decide +kernel
theorem dX0_rankNext_33 : decode cX0_rankNext 33 = .ok (.isub, 1) := by decide +kernel
theorem dX0_rankNext_34 : decode cX0_rankNext 34 = .ok (.iaload, 1) := by decide +kernel
theorem dX0_rankNext_35 : decode cX0_rankNext 35 = .ok (.iastore, 1) := by decide +kernel
theorem dX0_rankNext_36 : decode cX0_rankNext 36 = .ok (.iinc 2 (-1), 3) := by decide +kernel
theorem dX0_rankNext_39 : decode cX0_rankNext 39 = .ok (.goto (-37), 3) := by decide +kernel
theorem dX0_rankNext_42 : decode cX0_rankNext 42 = .ok (.aload_n 0, 1) := by decide +kernel
theorem dX0_rankNext_43 : decode cX0_rankNext 43 = .ok (.getfield 18, 3) := by decide +kernel
theorem dX0_rankNext_46 : decode cX0_rankNext 46 = .ok (.iload_n 2, 1) := by decide +kernel
theorem dX0_rankNext_47 : decode cX0_rankNext 47 = .ok (.iload_n 1, 1) := by decide +kernel
theorem dX0_rankNext_48 : decode cX0_rankNext 48 = .ok (.iastore, 1) := by decide +kernel
theorem dX0_rankNext_49 : decode cX0_rankNext 49 = .ok (.return_, 1) := by decide +kernel
theorem dX0_goesAhead_0 : decode cX0_goesAhead 0 = .ok (.aload_n 0, 1) := by decide +kernel
theorem dX0_goesAhead_1 : decode cX0_goesAhead 1 = .ok (.getfield 11, 3) := by decide +kernel
theorem dX0_goesAhead_4 : decode cX0_goesAhead 4 = .ok (.iload_n 1, 1) := by decide +kernel
theorem dX0_goesAhead_5 : decode cX0_goesAhead 5 = .ok (.iaload, 1) := by decide +kernel
theorem dX0_goesAhead_6 : decode cX0_goesAhead 6 = .ok (.aload_n 0, 1) := by decide +kernel
theorem dX0_goesAhead_7 : decode cX0_goesAhead 7 = .ok (.getfield 15, 3) := by decide +kernel
theorem dX0_goesAhead_10 : decode cX0_goesAhead 10 = .ok (.iload_n 2, 1) := by decide +kernel
theorem dX0_goesAhead_11 : decode cX0_goesAhead 11 = .ok (.iaload, 1) := by decide +kernel
theorem dX0_goesAhead_12 : decode cX0_goesAhead 12 = .ok (.imul, 1) := by decide +kernel
theorem dX0_goesAhead_13 : decode cX0_goesAhead 13 = .ok (.aload_n 0, 1) := by decide +kernel
theorem dX0_goesAhead_14 : decode cX0_goesAhead 14 = .ok (.getfield 11, 3) := by decide +kernel
theorem dX0_goesAhead_17 : decode cX0_goesAhead 17 = .ok (.iload_n 2, 1) := by decide +kernel
theorem dX0_goesAhead_18 : decode cX0_goesAhead 18 = .ok (.iaload, 1) := by decide +kernel
theorem dX0_goesAhead_19 : decode cX0_goesAhead 19 = .ok (.aload_n 0, 1) := by decide +kernel
theorem dX0_goesAhead_20 : decode cX0_goesAhead 20 = .ok (.getfield 15, 3) := by decide +kernel
theorem dX0_goesAhead_23 : decode cX0_goesAhead 23 = .ok (.iload_n 1, 1) := by decide +kernel
theorem dX0_goesAhead_24 : decode cX0_goesAhead 24 = .ok (.iaload, 1) := by decide +kernel
theorem dX0_goesAhead_25 : decode cX0_goesAhead 25 = .ok (.imul, 1) := by decide +kernel
theorem dX0_goesAhead_26 : decode cX0_goesAhead 26 = .ok (.if_icmp .le 7, 3) := by decide +kernel
theorem dX0_goesAhead_29 : decode cX0_goesAhead 29 = .ok (.iconst 1, 1) := by decide +kernel
theorem dX0_goesAhead_30 : decode cX0_goesAhead 30 = .ok (.goto 4, 3) := by decide +kernel
theorem dX0_goesAhead_33 : decode cX0_goesAhead 33 = .ok (.iconst 0, 1) := by decide +kernel
theorem dX0_goesAhead_34 : decode cX0_goesAhead 34 = .ok (.ireturn, 1) := by decide +kernel
theorem dX1_init_0 : decode cX1_init 0 = .ok (.aload_n 0, 1) := by decide +kernel
theorem dX1_init_1 : decode cX1_init 1 = .ok (.invokespecial 3, 3) := by decide +kernel
theorem dX1_init_4 : decode cX1_init 4 = .ok (.aload_n 0, 1) := by decide +kernel
theorem dX1_init_5 : decode cX1_init 5 = .ok (.iconst 2, 1) := by decide +kernel
theorem dX1_init_6 : decode cX1_init 6 = .ok (.bipush 64, 2) := by decide +kernel
theorem dX1_init_8 : decode cX1_init 8 = .ok (.multianewarray 11 2, 4) := by decide +kernel
theorem dX1_init_12 : decode cX1_init 12 = .ok (.putfield 13, 3) := by decide +kernel
theorem dX1_init_15 : decode cX1_init 15 = .ok (.return_, 1) := by decide +kernel
set_option maxRecDepth 20000 in
theorem ggX1_setSample_X6_outside : GoodIn wsX1_setSample wsX6_outside := goodIn_r _ [5] (by decide +kernel) (by decide +kernel)
set_option maxRecDepth 20000 in
theorem gX1_setSample_X6_outside_n16 : GoodIn wsX1_setSample (wsX6_outside) := ggX1_setSample_X6_outside
theorem dX1_setSample_0 : decode cX1_setSample 0 = .ok (.iload_n 1, 1) := by decide +kernel
theorem dX1_setSample_1 : decode cX1_setSample 1 = .ok (.iconst 0, 1) := by decide +kernel
theorem dX1_setSample_2 : decode cX1_setSample 2 = .ok (.iconst 1, 1) := by decide +kernel
theorem dX1_setSample_3 : decode cX1_setSample 3 = .ok (.invokestatic 16, 3) := by decide +kernel
theorem dX1_setSample_6 : decode cX1_setSample 6 = .ok (.ifCond .ne 13, 3) := by decide +kernel
theorem dX1_setSample_9 : decode cX1_setSample 9 = .ok (.iload_n 2, 1) := by decide +kernel
theorem dX1_setSample_10 : decode cX1_setSample 10 = .ok (.iconst 0, 1) := by decide +kernel
theorem dX1_setSample_11 : decode cX1_setSample 11 = .ok (.bipush 63, 2) := by decide +kernel
theorem dX1_setSample_13 : decode cX1_setSample 13 = .ok (.invokestatic 16, 3) := by decide +kernel
theorem dX1_setSample_16 : decode cX1_setSample 16 = .ok (.ifCond .eq 6, 3) := by decide +kernel
theorem dX1_setSample_19 : decode cX1_setSample 19 = .ok (.bipush (-2), 2) := by decide +kernel
theorem dX1_setSample_21 : decode cX1_setSample 21 = .ok (.ireturn, 1) := by decide +kernel
theorem dX1_setSample_22 : decode cX1_setSample 22 = .ok (.iload_n 3, 1) := by decide +kernel
theorem dX1_setSample_23 : decode cX1_setSample 23 = .ok (.ldc 20, 2) := by decide +kernel
theorem dX1_setSample_25 : decode cX1_setSample 25 = .ok (.if_icmp .eq 19, 3) := by decide +kernel
theorem dX1_setSample_28 : decode cX1_setSample 28 = .ok (.iload_n 3, 1) := by decide +kernel
theorem dX1_setSample_29 : decode cX1_setSample 29 = .ok (.sipush (-1000), 3) := by decide +kernel
theorem dX1_setSample_32 : decode cX1_setSample 32 = .ok (.sipush 1000, 3) := by decide +kernel
theorem dX1_setSample_35 : decode cX1_setSample 35 = .ok (.invokestatic 16, 3) := by decide +kernel
theorem dX1_setSample_38 : decode cX1_setSample 38 = .ok (.ifCond .eq 6, 3) := by decide +kernel
theorem dX1_setSample_41 : decode cX1_setSample 41 = .ok (.bipush (-2), 2) := by decide +kernel
theorem dX1_setSample_43 : decode cX1_setSample 43 = .ok (.ireturn, 1) := by decide +kernel
theorem dX1_setSample_44 : decode cX1_setSample 44 = .ok (.aload_n 0, 1) := by decide +kernel
theorem dX1_setSample_45 : decode cX1_setSample 45 = .ok (.getfield 13, 3) := by decide +kernel
theorem dX1_setSample_48 : decode cX1_setSample 48 = .ok (.iload_n 1, 1) := by decide +kernel
theorem dX1_setSample_49 : decode cX1_setSample 49 = .ok (.aaload, 1) := by decide +kernel
theorem dX1_setSample_50 : decode cX1_setSample 50 = .ok (.iload_n 2, 1) := by decide +kernel
theorem dX1_setSample_51 : decode cX1_setSample 51 = .ok (.iload_n 3, 1) := by decide +kernel
theorem dX1_setSample_52 : decode cX1_setSample 52 = .ok (.iastore, 1) := by decide +kernel
theorem dX1_setSample_53 : decode cX1_setSample 53 = .ok (.iconst 1, 1) := by decide +kernel
theorem dX1_setSample_54 : decode cX1_setSample 54 = .ok (.ireturn, 1) := by decide +kernel
set_option maxRecDepth 20000 in
theorem ggX1_copySamples_X6_outside : GoodIn wsX1_copySamples wsX6_outside := goodIn_r _ [4] (by decide +kernel) (by decide +kernel)
set_option maxRecDepth 20000 in
theorem gX1_copySamples_X6_outside_n16 : GoodIn wsX1_copySamples (wsX6_outside) := ggX1_copySamples_X6_outside
theorem dX1_copySamples_0 : decode cX1_copySamples 0 = .ok (.iload_n 1, 1) := by decide +kernel
theorem dX1_copySamples_1 : decode cX1_copySamples 1 = .ok (.iconst 0, 1) := by decide +kernel
theorem dX1_copySamples_2 : decode cX1_copySamples 2 = .ok (.iconst 1, 1) := by decide +kernel
theorem dX1_copySamples_3 : decode cX1_copySamples 3 = .ok (.invokestatic 16, 3) := by decide +kernel
theorem dX1_copySamples_6 : decode cX1_copySamples 6 = .ok (.ifCond .ne 40, 3) := by decide +kernel
theorem dX1_copySamples_9 : decode cX1_copySamples 9 = .ok (.iload 4, 2) := by decide +kernel
theorem dX1_copySamples_11 : decode cX1_copySamples 11 = .ok (.iconst 1, 1) := by decide +kernel
theorem dX1_copySamples_12 : decode cX1_copySamples 12 = .ok (.bipush 64, 2) := by decide +kernel
theorem dX1_copySamples_14 : decode cX1_copySamples 14 = .ok (.invokestatic 16, 3) := by decide +kernel
theorem dX1_copySamples_17 : decode cX1_copySamples 17 = .ok (.ifCond .ne 29, 3) := by decide +kernel
theorem dX1_copySamples_20 : decode cX1_copySamples 20 = .ok (.iload_n 2, 1) := by decide +kernel
theorem dX1_copySamples_21 : decode cX1_copySamples 21 = .ok (.iconst 0, 1) := by decide +kernel
theorem dX1_copySamples_22 : decode cX1_copySamples 22 = .ok (.bipush 64, 2) := by decide +kernel
theorem dX1_copySamples_24 : decode cX1_copySamples 24 = .ok (.iload 4, 2) := by decide +kernel
theorem dX1_copySamples_26 : decode cX1_copySamples 26 = .ok (.isub, 1) := by decide +kernel
theorem dX1_copySamples_27 : decode cX1_copySamples 27 = .ok (.invokestatic 16, 3) := by decide +kernel
theorem dX1_copySamples_30 : decode cX1_copySamples 30 = .ok (.ifCond .ne 16, 3) := by decide +kernel
theorem dX1_copySamples_33 : decode cX1_copySamples 33 = .ok (.iload_n 3, 1) := by decide +kernel
theorem dX1_copySamples_34 : decode cX1_copySamples 34 = .ok (.iconst 0, 1) := by decide +kernel
theorem dX1_copySamples_35 : decode cX1_copySamples 35 = .ok (.bipush 64, 2) := by decide +kernel
theorem dX1_copySamples_37 : decode cX1_copySamples 37 = .ok (.iload 4, 2) := by decide +kernel
theorem dX1_copySamples_39 : decode cX1_copySamples 39 = .ok (.isub, 1) := by decide +kernel
theorem dX1_copySamples_40 : decode cX1_copySamples 40 = .ok (.invokestatic 16, 3) := by decide +kernel
theorem dX1_copySamples_43 : decode cX1_copySamples 43 = .ok (.ifCond .eq 6, 3) := by decide +kernel
theorem dX1_copySamples_46 : decode cX1_copySamples 46 = .ok (.bipush (-2), 2) := by decide +kernel
theorem dX1_copySamples_48 : decode cX1_copySamples 48 = .ok (.ireturn, 1) := by decide +kernel
theorem dX1_copySamples_49 : decode cX1_copySamples 49 = .ok (.iconst 0, 1) := by decide +kernel
theorem dX1_copySamples_50 : decode cX1_copySamples 50 = .ok (.istore 5, 2) := by decide +kernel
theorem dX1_copySamples_52 : decode cX1_copySamples 52 = .ok (.iload 5, 2) := by decide +kernel
theorem dX1_copySamples_54 : decode cX1_copySamples 54 = .ok (.iload 4, 2) := by decide +kernel
theorem dX1_copySamples_56 : decode cX1_copySamples 56 = .ok (.if_icmp .ge 33, 3) := by decide +kernel
theorem dX1_copySamples_59 : decode cX1_copySamples 59 = .ok (.aload_n 0, 1) := by decide +kernel
theorem dX1_copySamples_60 : decode cX1_copySamples 60 = .ok (.getfield 13, 3) := by decide +kernel
theorem dX1_copySamples_63 : decode cX1_copySamples 63 = .ok (.iload_n 1, 1) := by decide +kernel
theorem dX1_copySamples_64 : decode cX1_copySamples 64 = .ok (.aaload, 1) := by decide +kernel
theorem dX1_copySamples_65 : decode cX1_copySamples 65 = .ok (.iload_n 2, 1) := by decide +kernel
theorem dX1_copySamples_66 : decode cX1_copySamples 66 = .ok (.iload 5, 2) := by decide +kernel
theorem dX1_copySamples_68 : decode cX1_copySamples 68 = .ok (.iadd, 1) := by decide +kernel
theorem dX1_copySamples_69 : decode cX1_copySamples 69 = .ok (.aload_n 0, 1) := by decide +kernel
theorem dX1_copySamples_70 : decode cX1_copySamples 70 = .ok (.getfield 13, 3) := by decide +kernel
theorem dX1_copySamples_73 : decode cX1_copySamples 73 = .ok (.iconst 1, 1) := by decide +kernel
theorem dX1_copySamples_74 : decode cX1_copySamples 74 = .ok (.iload_n 1, 1) := by decide +kernel
theorem dX1_copySamples_75 : decode cX1_copySamples 75 = .ok (.isub, 1) := by decide +kernel
theorem dX1_copySamples_76 : decode cX1_copySamples 76 = .ok (.aaload, 1) := by decide +kernel
theorem dX1_copySamples_77 : decode cX1_copySamples 77 = .ok (.iload_n 3, 1) := by decide +kernel
theorem dX1_copySamples_78 : decode cX1_copySamples 78 = .ok (.iload 5, 2) := by decide +kernel
theorem dX1_copySamples_80 : decode cX1_copySamples 80 = .ok (.iadd, 1) := by decide +kernel
theorem dX1_copySamples_81 : decode cX1_copySamples 81 = .ok (.iaload, 1) := by decide +kernel
theorem dX1_copySamples_82 : decode cX1_copySamples 82 = .ok (.iastore, 1) := by decide +kernel
theorem dX1_copySamples_83 : decode cX1_copySamples 83 = .ok (.iinc 5 1, 3) := by decide +kernel
theorem dX1_copySamples_86 : decode cX1_copySamples 86 = .ok (.goto (-34), 3) := by decide +kernel
theorem dX1_copySamples_89 : decode cX1_copySamples 89 = .ok (.iconst 1, 1) := by decide +kernel
theorem dX1_copySamples_90 : decode cX1_copySamples 90 = .ok (.ireturn, 1) := by decide +kernel
set_option maxRecDepth 20000 in
theorem ggX1_sumPart_X6_outside : GoodIn wsX1_sumPart wsX6_outside := goodIn_r _ [4] (by decide +kernel) (by decide +kernel)
set_option maxRecDepth 20000 in
theorem gX1_sumPart_X6_outside_n16 : GoodIn wsX1_sumPart (wsX6_outside) := ggX1_sumPart_X6_outside
set_option maxRecDepth 20000 in
theorem ggX1_sumPart_X1_sumAt : GoodIn wsX1_sumPart wsX1_sumAt := goodIn_r _ [9, 10, 11, 12, 13, 8, 14, 1, 2, 3, 4, 19] (by decide +kernel) (by decide +kernel)
set_option maxRecDepth 20000 in
theorem gX1_sumPart_X1_sumAt : GoodIn wsX1_sumPart (wsV RX1 21 RX1 yX1_sumAt wsX1_sumAt) := goodIn_app (goodIn_of _ (by decide +kernel)) ggX1_sumPart_X1_sumAt
set_option maxRecDepth 20000 in
theorem ggX1_sumPart_X1_pairsAt : GoodIn wsX1_sumPart wsX1_pairsAt := goodIn_r _ [18, 11, 12, 13, 8, 14, 10, 1, 2, 3, 4, 19] (by decide +kernel) (by decide +kernel)
set_option maxRecDepth 20000 in
theorem gX1_sumPart_X1_pairsAt : GoodIn wsX1_sumPart (wsV RX1 25 RX1 yX1_pairsAt wsX1_pairsAt) := goodIn_app (goodIn_of _ (by decide +kernel)) ggX1_sumPart_X1_pairsAt
theorem dX1_sumPart_0 : decode cX1_sumPart 0 = .ok (.iload_n 1, 1) := by decide +kernel
theorem dX1_sumPart_1 : decode cX1_sumPart 1 = .ok (.bipush (-16), 2) := by decide +kernel
theorem dX1_sumPart_3 : decode cX1_sumPart 3 = .ok (.bipush 16, 2) := by decide +kernel
theorem dX1_sumPart_5 : decode cX1_sumPart 5 = .ok (.invokestatic 16, 3) := by decide +kernel
theorem dX1_sumPart_8 : decode cX1_sumPart 8 = .ok (.ifCond .ne 12, 3) := by decide +kernel
theorem dX1_sumPart_11 : decode cX1_sumPart 11 = .ok (.iload_n 2, 1) := by decide +kernel
theorem dX1_sumPart_12 : decode cX1_sumPart 12 = .ok (.iconst 0, 1) := by decide +kernel
theorem dX1_sumPart_13 : decode cX1_sumPart 13 = .ok (.iconst 1, 1) := by decide +kernel
theorem dX1_sumPart_14 : decode cX1_sumPart 14 = .ok (.invokestatic 16, 3) := by decide +kernel
theorem dX1_sumPart_17 : decode cX1_sumPart 17 = .ok (.ifCond .eq 6, 3) := by decide +kernel
theorem dX1_sumPart_20 : decode cX1_sumPart 20 = .ok (.ldc 20, 2) := by decide +kernel
theorem dX1_sumPart_22 : decode cX1_sumPart 22 = .ok (.ireturn, 1) := by decide +kernel
theorem dX1_sumPart_23 : decode cX1_sumPart 23 = .ok (.iload_n 2, 1) := by decide +kernel
theorem dX1_sumPart_24 : decode cX1_sumPart 24 = .ok (.ifCond .ne 11, 3) := by decide +kernel
theorem dX1_sumPart_27 : decode cX1_sumPart 27 = .ok (.aload_n 0, 1) := by decide +kernel
theorem dX1_sumPart_28 : decode cX1_sumPart 28 = .ok (.iload_n 1, 1) := by decide +kernel
theorem dX1_sumPart_29 : decode cX1_sumPart 29 = .ok (.invokevirtual 21, 3) := by decide +kernel
theorem dX1_sumPart_32 : decode cX1_sumPart 32 = .ok (.goto 8, 3) := by decide +kernel
theorem dX1_sumPart_35 : decode cX1_sumPart 35 = .ok (.aload_n 0, 1) := by decide +kernel
theorem dX1_sumPart_36 : decode cX1_sumPart 36 = .ok (.iload_n 1, 1) := by decide +kernel
theorem dX1_sumPart_37 : decode cX1_sumPart 37 = .ok (.invokevirtual 25, 3) := by decide +kernel
theorem dX1_sumPart_40 : decode cX1_sumPart 40 = .ok (.ireturn, 1) := by decide +kernel
set_option maxRecDepth 20000 in
theorem ggX1_findDelay_X1_bestDelayAwayFrom : GoodIn wsX1_findDelay wsX1_bestDelayAwayFrom := goodIn_r _ [5, 6, 7, 8, 9, 10, 11, 12, 4, 13, 14, 15, 16, 17, 18, 19, 20, 21, 22, 23, 24, 25, 26, 27] (by decide +kernel) (by decide +kernel)
set_option maxRecDepth 20000 in
theorem gX1_findDelay_X1_bestDelayAwayFrom : GoodIn wsX1_findDelay (wsV RX1 28 RX1 yX1_bestDelayAwayFrom wsX1_bestDelayAwayFrom) := goodIn_app (goodIn_of _ (by decide +kernel)) ggX1_findDelay_X1_bestDelayAwayFrom
theorem dX1_findDelay_0 : decode cX1_findDelay 0 = .ok (.aload_n 0, 1) := by decide +kernel
theorem dX1_findDelay_1 : decode cX1_findDelay 1 = .ok (.bipush (-101), 2) := by decide +kernel
theorem dX1_findDelay_3 : decode cX1_findDelay 3 = .ok (.invokevirtual 28, 3) := by decide +kernel
theorem dX1_findDelay_6 : decode cX1_findDelay 6 = .ok (.istore_n 2, 1) := by decide +kernel
theorem dX1_findDelay_7 : decode cX1_findDelay 7 = .ok (.iload_n 1, 1) := by decide +kernel
theorem dX1_findDelay_8 : decode cX1_findDelay 8 = .ok (.ifCond .eq 11, 3) := by decide +kernel
theorem dX1_findDelay_11 : decode cX1_findDelay 11 = .ok (.aload_n 0, 1) := by decide +kernel
theorem dX1_findDelay_12 : decode cX1_findDelay 12 = .ok (.iload_n 2, 1) := by decide +kernel
theorem dX1_findDelay_13 : decode cX1_findDelay 13 = .ok (.invokevirtual 28, 3) := by decide +kernel
theorem dX1_findDelay_16 : decode cX1_findDelay 16 = .ok (.goto 4, 3) := by decide +kernel
theorem dX1_findDelay_19 : decode cX1_findDelay 19 = .ok (.iload_n 2, 1) := by decide +kernel
theorem dX1_findDelay_20 : decode cX1_findDelay 20 = .ok (.ireturn, 1) := by decide +kernel
set_option maxRecDepth 20000 in
theorem ggX1_twicePlace_X6_outside : GoodIn wsX1_twicePlace wsX6_outside := goodIn_r _ [11] (by decide +kernel) (by decide +kernel)
set_option maxRecDepth 20000 in
theorem gX1_twicePlace_X6_outside_n16 : GoodIn wsX1_twicePlace (wsX6_outside) := ggX1_twicePlace_X6_outside
set_option maxRecDepth 20000 in
theorem ggX1_twicePlace_X1_findDelay : GoodIn wsX1_twicePlace wsX1_findDelay := goodIn_r _ [16, 17, 18, 19, 15, 20, 21, 22, 4, 23, 24, 25, 26, 27, 28, 29, 30, 31, 32, 33, 9, 10, 11, 34, 35, 36, 37, 41] (by decide +kernel) (by decide +kernel)
set_option maxRecDepth 20000 in
theorem gX1_twicePlace_X1_findDelay : GoodIn wsX1_twicePlace (wsV RX1 32 RX1 yX1_findDelay wsX1_findDelay) := goodIn_app (goodIn_of _ (by decide +kernel)) ggX1_twicePlace_X1_findDelay
set_option maxRecDepth 20000 in
theorem ggX1_twicePlace_X1_onPipe : GoodIn wsX1_twicePlace wsX1_onPipe := goodIn_r _ [40, 2, 3, 4, 5, 6, 7, 8] (by decide +kernel) (by decide +kernel)
set_option maxRecDepth 20000 in
theorem gX1_twicePlace_X1_onPipe : GoodIn wsX1_twicePlace (va_wsS RX1 36 yX1_onPipe wsX1_onPipe) := goodIn_app (goodIn_of _ (by decide +kernel)) ggX1_twicePlace_X1_onPipe
theorem dX1_twicePlace_0 : decode cX1_twicePlace 0 = .ok (.iload_n 1, 1) := by decide +kernel
theorem dX1_twicePlace_1 : decode cX1_twicePlace 1 = .ok (.iconst 1, 1) := by decide +kernel
theorem dX1_twicePlace_2 : decode cX1_twicePlace 2 = .ok (.ldc 31, 2) := by decide +kernel
theorem dX1_twicePlace_4 : decode cX1_twicePlace 4 = .ok (.invokestatic 16, 3) := by decide +kernel
theorem dX1_twicePlace_7 : decode cX1_twicePlace 7 = .ok (.ifCond .ne 35, 3) := by decide +kernel
theorem dX1_twicePlace_10 : decode cX1_twicePlace 10 = .ok (.iload_n 2, 1) := by decide +kernel
theorem dX1_twicePlace_11 : decode cX1_twicePlace 11 = .ok (.iconst 1, 1) := by decide +kernel
theorem dX1_twicePlace_12 : decode cX1_twicePlace 12 = .ok (.sipush 2000, 3) := by decide +kernel
theorem dX1_twicePlace_15 : decode cX1_twicePlace 15 = .ok (.invokestatic 16, 3) := by decide +kernel
theorem dX1_twicePlace_18 : decode cX1_twicePlace 18 = .ok (.ifCond .ne 24, 3) := by decide +kernel
theorem dX1_twicePlace_21 : decode cX1_twicePlace 21 = .ok (.iload_n 3, 1) := by decide +kernel
theorem dX1_twicePlace_22 : decode cX1_twicePlace 22 = .ok (.iload_n 2, 1) := by decide +kernel
theorem dX1_twicePlace_23 : decode cX1_twicePlace 23 = .ok (.sipush 2000, 3) := by decide +kernel
theorem dX1_twicePlace_26 : decode cX1_twicePlace 26 = .ok (.invokestatic 16, 3) := by decide +kernel
theorem dX1_twicePlace_29 : decode cX1_twicePlace 29 = .ok (.ifCond .ne 13, 3) := by decide +kernel
theorem dX1_twicePlace_32 : decode cX1_twicePlace 32 = .ok (.iload 4, 2) := by decide +kernel
theorem dX1_twicePlace_34 : decode cX1_twicePlace 34 = .ok (.iconst 0, 1) := by decide +kernel
theorem dX1_twicePlace_35 : decode cX1_twicePlace 35 = .ok (.iconst 1, 1) := by decide +kernel
theorem dX1_twicePlace_36 : decode cX1_twicePlace 36 = .ok (.invokestatic 16, 3) := by decide +kernel
theorem dX1_twicePlace_39 : decode cX1_twicePlace 39 = .ok (.ifCond .eq 6, 3) := by decide +kernel
theorem dX1_twicePlace_42 : decode cX1_twicePlace 42 = .ok (.bipush (-2), 2) := by decide +kernel
theorem dX1_twicePlace_44 : decode cX1_twicePlace 44 = .ok (.ireturn, 1) := by decide +kernel
theorem dX1_twicePlace_45 : decode cX1_twicePlace 45 = .ok (.aload_n 0, 1) := by decide +kernel
theorem dX1_twicePlace_46 : decode cX1_twicePlace 46 = .ok (.iconst 0, 1) := by decide +kernel
theorem dX1_twicePlace_47 : decode cX1_twicePlace 47 = .ok (.invokevirtual 32, 3) := by decide +kernel
theorem dX1_twicePlace_50 : decode cX1_twicePlace 50 = .ok (.istore 5, 2) := by decide +kernel
theorem dX1_twicePlace_52 : decode cX1_twicePlace 52 = .ok (.iload 5, 2) := by decide +kernel
theorem dX1_twicePlace_54 : decode cX1_twicePlace 54 = .ok (.bipush (-101), 2) := by decide +kernel
theorem dX1_twicePlace_56 : decode cX1_twicePlace 56 = .ok (.if_icmp .ne 6, 3) := by decide +kernel
theorem dX1_twicePlace_59 : decode cX1_twicePlace 59 = .ok (.bipush (-3), 2) := by decide +kernel
theorem dX1_twicePlace_61 : decode cX1_twicePlace 61 = .ok (.ireturn, 1) := by decide +kernel
theorem dX1_twicePlace_62 : decode cX1_twicePlace 62 = .ok (.iload_n 1, 1) := by decide +kernel
theorem dX1_twicePlace_63 : decode cX1_twicePlace 63 = .ok (.iload 5, 2) := by decide +kernel
theorem dX1_twicePlace_65 : decode cX1_twicePlace 65 = .ok (.iload_n 2, 1) := by decide +kernel
theorem dX1_twicePlace_66 : decode cX1_twicePlace 66 = .ok (.imul, 1) := by decide +kernel
theorem dX1_twicePlace_67 : decode cX1_twicePlace 67 = .ok (.isub, 1) := by decide +kernel
theorem dX1_twicePlace_68 : decode cX1_twicePlace 68 = .ok (.iload_n 1, 1) := by decide +kernel
theorem dX1_twicePlace_69 : decode cX1_twicePlace 69 = .ok (.invokestatic 36, 3) := by decide +kernel
theorem dX1_twicePlace_72 : decode cX1_twicePlace 72 = .ok (.istore 6, 2) := by decide +kernel
theorem dX1_twicePlace_74 : decode cX1_twicePlace 74 = .ok (.iload_n 1, 1) := by decide +kernel
theorem dX1_twicePlace_75 : decode cX1_twicePlace 75 = .ok (.iload 5, 2) := by decide +kernel
theorem dX1_twicePlace_77 : decode cX1_twicePlace 77 = .ok (.iload_n 3, 1) := by decide +kernel
theorem dX1_twicePlace_78 : decode cX1_twicePlace 78 = .ok (.imul, 1) := by decide +kernel
theorem dX1_twicePlace_79 : decode cX1_twicePlace 79 = .ok (.isub, 1) := by decide +kernel
theorem dX1_twicePlace_80 : decode cX1_twicePlace 80 = .ok (.iload_n 1, 1) := by decide +kernel
theorem dX1_twicePlace_81 : decode cX1_twicePlace 81 = .ok (.invokestatic 36, 3) := by decide +kernel
theorem dX1_twicePlace_84 : decode cX1_twicePlace 84 = .ok (.istore 7, 2) := by decide +kernel
theorem dX1_twicePlace_86 : decode cX1_twicePlace 86 = .ok (.iload 4, 2) := by decide +kernel
theorem dX1_twicePlace_88 : decode cX1_twicePlace 88 = .ok (.ifCond .ne 13, 3) := by decide +kernel
theorem dX1_twicePlace_91 : decode cX1_twicePlace 91 = .ok (.iload 6, 2) := by decide +kernel
theorem dX1_twicePlace_93 : decode cX1_twicePlace 93 = .ok (.iload 7, 2) := by decide +kernel
theorem dX1_twicePlace_95 : decode cX1_twicePlace 95 = .ok (.invokestatic 40, 3) := by decide +kernel
theorem dX1_twicePlace_98 : decode cX1_twicePlace 98 = .ok (.goto 10, 3) := by decide +kernel
theorem dX1_twicePlace_101 : decode cX1_twicePlace 101 = .ok (.iload 6, 2) := by decide +kernel
theorem dX1_twicePlace_103 : decode cX1_twicePlace 103 = .ok (.iload 7, 2) := by decide +kernel
theorem dX1_twicePlace_105 : decode cX1_twicePlace 105 = .ok (.invokestatic 45, 3) := by decide +kernel
theorem dX1_twicePlace_108 : decode cX1_twicePlace 108 = .ok (.ireturn, 1) := by decide +kernel
theorem dX1_samplesLost_0 : decode cX1_samplesLost 0 = .ok (.iconst 0, 1) := by decide +kernel
theorem dX1_samplesLost_1 : decode cX1_samplesLost 1 = .ok (.istore_n 1, 1) := by decide +kernel
theorem dX1_samplesLost_2 : decode cX1_samplesLost 2 = .ok (.iconst 0, 1) := by decide +kernel
theorem dX1_samplesLost_3 : decode cX1_samplesLost 3 = .ok (.istore_n 2, 1) := by decide +kernel
theorem dX1_samplesLost_4 : decode cX1_samplesLost 4 = .ok (.iload_n 2, 1) := by decide +kernel
theorem dX1_samplesLost_5 : decode cX1_samplesLost 5 = .ok (.bipush 64, 2) := by decide +kernel
theorem dX1_samplesLost_7 : decode cX1_samplesLost 7 = .ok (.if_icmp .ge 51, 3) := by decide +kernel
theorem dX1_samplesLost_10 : decode cX1_samplesLost 10 = .ok (.iload_n 1, 1) := by decide +kernel
theorem dX1_samplesLost_11 : decode cX1_samplesLost 11 = .ok (.aload_n 0, 1) := by decide +kernel
theorem dX1_samplesLost_12 : decode cX1_samplesLost 12 = .ok (.getfield 13, 3) := by decide +kernel
theorem dX1_samplesLost_15 : decode cX1_samplesLost 15 = .ok (.iconst 0, 1) := by decide +kernel
theorem dX1_samplesLost_16 : decode cX1_samplesLost 16 = .ok (.aaload, 1) := by decide +kernel
theorem dX1_samplesLost_17 : decode cX1_samplesLost 17 = .ok (.iload_n 2, 1) := by decide +kernel
theorem dX1_samplesLost_18 : decode cX1_samplesLost 18 = .ok (.iaload, 1) := by decide +kernel
theorem dX1_samplesLost_19 : decode cX1_samplesLost 19 = .ok (.ldc 20, 2) := by decide +kernel
theorem dX1_samplesLost_21 : decode cX1_samplesLost 21 = .ok (.if_icmp .ne 7, 3) := by decide +kernel
theorem dX1_samplesLost_24 : decode cX1_samplesLost 24 = .ok (.iconst 1, 1) := by decide +kernel
theorem dX1_samplesLost_25 : decode cX1_samplesLost 25 = .ok (.goto 4, 3) := by decide +kernel
theorem dX1_samplesLost_28 : decode cX1_samplesLost 28 = .ok (.iconst 0, 1) := by decide +kernel
theorem dX1_samplesLost_29 : decode cX1_samplesLost 29 = .ok (.iadd, 1) := by decide +kernel
theorem dX1_samplesLost_30 : decode cX1_samplesLost 30 = .ok (.istore_n 1, 1) := by decide +kernel
theorem dX1_samplesLost_31 : decode cX1_samplesLost 31 = .ok (.iload_n 1, 1) := by decide +kernel
theorem dX1_samplesLost_32 : decode cX1_samplesLost 32 = .ok (.aload_n 0, 1) := by decide +kernel
theorem dX1_samplesLost_33 : decode cX1_samplesLost 33 = .ok (.getfield 13, 3) := by decide +kernel
theorem dX1_samplesLost_36 : decode cX1_samplesLost 36 = .ok (.iconst 1, 1) := by decide +kernel
theorem dX1_samplesLost_37 : decode cX1_samplesLost 37 = .ok (.aaload, 1) := by decide +kernel
theorem dX1_samplesLost_38 : decode cX1_samplesLost 38 = .ok (.iload_n 2, 1) := by decide +kernel
theorem dX1_samplesLost_39 : decode cX1_samplesLost 39 = .ok (.iaload, 1) := by decide +kernel
theorem dX1_samplesLost_40 : decode cX1_samplesLost 40 = .ok (.ldc 20, 2) := by decide +kernel
theorem dX1_samplesLost_42 : decode cX1_samplesLost 42 = .ok (.if_icmp .ne 7, 3) := by decide +kernel
theorem dX1_samplesLost_45 : decode cX1_samplesLost 45 = .ok (.iconst 1, 1) := by decide +kernel
theorem dX1_samplesLost_46 : decode cX1_samplesLost 46 = .ok (.goto 4, 3) := by decide +kernel
theorem dX1_samplesLost_49 : decode cX1_samplesLost 49 = .ok (.iconst 0, 1) := by decide +kernel
theorem dX1_samplesLost_50 : decode cX1_samplesLost 50 = .ok (.iadd, 1) := by decide +kernel
theorem dX1_samplesLost_51 : decode cX1_samplesLost 51 = .ok (.istore_n 1, 1) := by decide +kernel
theorem dX1_samplesLost_52 : decode cX1_samplesLost 52 = .ok (.iinc 2 1, 3) := by decide +kernel
theorem dX1_samplesLost_55 : decode cX1_samplesLost 55 = .ok (.goto (-51), 3) := by decide +kernel
theorem dX1_samplesLost_58 : decode cX1_samplesLost 58 = .ok (.iload_n 1, 1) := by decide +kernel
theorem dX1_samplesLost_59 : decode cX1_samplesLost 59 = .ok (.ireturn, 1) := by decide +kernel
set_option maxRecDepth 20000 in
theorem ggX1_mixInto_X6_mix : GoodIn wsX1_mixInto wsX6_mix := goodIn_r _ [4, 5] (by decide +kernel) (by decide +kernel)
set_option maxRecDepth 20000 in
theorem gX1_mixInto_X6_mix_n48 : GoodIn wsX1_mixInto (wsX6_mix) := ggX1_mixInto_X6_mix
theorem dX1_mixInto_0 : decode cX1_mixInto 0 = .ok (.lload_n 1, 1) := by decide +kernel
theorem dX1_mixInto_1 : decode cX1_mixInto 1 = .ok (.lstore_n 3, 1) := by decide +kernel
theorem dX1_mixInto_2 : decode cX1_mixInto 2 = .ok (.iconst 0, 1) := by decide +kernel
theorem dX1_mixInto_3 : decode cX1_mixInto 3 = .ok (.istore 5, 2) := by decide +kernel
theorem dX1_mixInto_5 : decode cX1_mixInto 5 = .ok (.iload 5, 2) := by decide +kernel
theorem dX1_mixInto_7 : decode cX1_mixInto 7 = .ok (.iconst 1, 1) := by decide +kernel
theorem dX1_mixInto_8 : decode cX1_mixInto 8 = .ok (.if_icmp .gt 40, 3) := by decide +kernel
theorem dX1_mixInto_11 : decode cX1_mixInto 11 = .ok (.iconst 0, 1) := by decide +kernel
theorem dX1_mixInto_12 : decode cX1_mixInto 12 = .ok (.istore 6, 2) := by decide +kernel
theorem dX1_mixInto_14 : decode cX1_mixInto 14 = .ok (.iload 6, 2) := by decide +kernel
theorem dX1_mixInto_16 : decode cX1_mixInto 16 = .ok (.bipush 64, 2) := by decide +kernel
theorem dX1_mixInto_18 : decode cX1_mixInto 18 = .ok (.if_icmp .ge 24, 3) := by decide +kernel
theorem dX1_mixInto_21 : decode cX1_mixInto 21 = .ok (.lload_n 3, 1) := by decide +kernel
theorem dX1_mixInto_22 : decode cX1_mixInto 22 = .ok (.aload_n 0, 1) := by decide +kernel
theorem dX1_mixInto_23 : decode cX1_mixInto 23 = .ok (.getfield 13, 3) := by decide +kernel
theorem dX1_mixInto_26 : decode cX1_mixInto 26 = .ok (.iload 5, 2) := by decide +kernel
theorem dX1_mixInto_28 : decode cX1_mixInto 28 = .ok (.aaload, 1) := by decide +kernel
theorem dX1_mixInto_29 : decode cX1_mixInto 29 = .ok (.iload 6, 2) := by decide +kernel
theorem dX1_mixInto_31 : decode cX1_mixInto 31 = .ok (.iaload, 1) := by decide +kernel
theorem dX1_mixInto_32 : decode cX1_mixInto 32 = .ok (.invokestatic 48, 3) := by decide +kernel
theorem dX1_mixInto_35 : decode cX1_mixInto 35 = .ok (.lstore_n 3, 1) := by decide +kernel
theorem dX1_mixInto_36 : decode cX1_mixInto 36 = .ok (.iinc 6 1, 3) := by decide +kernel
theorem dX1_mixInto_39 : decode cX1_mixInto 39 = .ok (.goto (-25), 3) := by decide +kernel
theorem dX1_mixInto_42 : decode cX1_mixInto 42 = .ok (.iinc 5 1, 3) := by decide +kernel
theorem dX1_mixInto_45 : decode cX1_mixInto 45 = .ok (.goto (-40), 3) := by decide +kernel
theorem dX1_mixInto_48 : decode cX1_mixInto 48 = .ok (.lload_n 3, 1) := by decide +kernel
theorem dX1_mixInto_49 : decode cX1_mixInto 49 = .ok (.lreturn, 1) := by decide +kernel
set_option maxRecDepth 20000 in
theorem ggX1_bestDelayAwayFrom_X1_sumAt : GoodIn wsX1_bestDelayAwayFrom wsX1_sumAt := goodIn_r _ [9, 10, 11, 12, 13, 8, 14, 15, 16, 17, 18, 23] (by decide +kernel) (by decide +kernel)
set_option maxRecDepth 20000 in
theorem gX1_bestDelayAwayFrom_X1_sumAt : GoodIn wsX1_bestDelayAwayFrom (wsV RX1 21 RX1 yX1_sumAt wsX1_sumAt) := goodIn_app (goodIn_of _ (by decide +kernel)) ggX1_bestDelayAwayFrom_X1_sumAt
set_option maxRecDepth 20000 in
theorem ggX1_bestDelayAwayFrom_X1_pairsAt : GoodIn wsX1_bestDelayAwayFrom wsX1_pairsAt := goodIn_r _ [22, 11, 12, 13, 8, 14, 10, 15, 16, 17, 18, 23] (by decide +kernel) (by decide +kernel)
set_option maxRecDepth 20000 in
theorem gX1_bestDelayAwayFrom_X1_pairsAt : GoodIn wsX1_bestDelayAwayFrom (wsV RX1 25 RX1 yX1_pairsAt wsX1_pairsAt) := goodIn_app (goodIn_of _ (by decide +kernel)) ggX1_bestDelayAwayFrom_X1_pairsAt
theorem dX1_bestDelayAwayFrom_0 : decode cX1_bestDelayAwayFrom 0 = .ok (.bipush (-101), 2) := by decide +kernel
theorem dX1_bestDelayAwayFrom_2 : decode cX1_bestDelayAwayFrom 2 = .ok (.istore_n 2, 1) := by decide +kernel
theorem dX1_bestDelayAwayFrom_3 : decode cX1_bestDelayAwayFrom 3 = .ok (.lconst 0, 1) := by decide +kernel
theorem dX1_bestDelayAwayFrom_4 : decode cX1_bestDelayAwayFrom 4 = .ok (.lstore_n 3, 1) := by decide +kernel
theorem dX1_bestDelayAwayFrom_5 : decode cX1_bestDelayAwayFrom 5 = .ok (.lconst 0, 1) := by decide +kernel
theorem dX1_bestDelayAwayFrom_6 : decode cX1_bestDelayAwayFrom 6 = .ok (.lstore 5, 2) := by decide +kernel
theorem dX1_bestDelayAwayFrom_8 : decode cX1_bestDelayAwayFrom 8 = .ok (.iconst 0, 1) := by decide +kernel
theorem dX1_bestDelayAwayFrom_9 : decode cX1_bestDelayAwayFrom 9 = .ok (.istore 7, 2) := by decide +kernel
theorem dX1_bestDelayAwayFrom_11 : decode cX1_bestDelayAwayFrom 11 = .ok (.iload 7, 2) := by decide +kernel
theorem dX1_bestDelayAwayFrom_13 : decode cX1_bestDelayAwayFrom 13 = .ok (.bipush 32, 2) := by decide +kernel
theorem dX1_bestDelayAwayFrom_15 : decode cX1_bestDelayAwayFrom 15 = .ok (.if_icmp .gt 97, 3) := by decide +kernel
theorem dX1_bestDelayAwayFrom_18 : decode cX1_bestDelayAwayFrom 18 = .ok (.iload 7, 2) := by decide +kernel
theorem dX1_bestDelayAwayFrom_20 : decode cX1_bestDelayAwayFrom 20 = .ok (.iconst 2, 1) := by decide +kernel
theorem dX1_bestDelayAwayFrom_21 : decode cX1_bestDelayAwayFrom 21 = .ok (.irem, 1) := by decide +kernel
theorem dX1_bestDelayAwayFrom_22 : decode cX1_bestDelayAwayFrom 22 = .ok (.ifCond .ne 10, 3) := by decide +kernel
theorem dX1_bestDelayAwayFrom_25 : decode cX1_bestDelayAwayFrom 25 = .ok (.iload 7, 2) := by decide +kernel
theorem dX1_bestDelayAwayFrom_27 : decode cX1_bestDelayAwayFrom 27 = .ok (.iconst 2, 1) := by decide +kernel
theorem dX1_bestDelayAwayFrom_28 : decode cX1_bestDelayAwayFrom 28 = .ok (.idiv, 1) := by decide +kernel
theorem dX1_bestDelayAwayFrom_29 : decode cX1_bestDelayAwayFrom 29 = .ok (.goto 10, 3) := by decide +kernel
theorem dX1_bestDelayAwayFrom_32 : decode cX1_bestDelayAwayFrom 32 = .ok (.iload 7, 2) := by decide +kernel
theorem dX1_bestDelayAwayFrom_34 : decode cX1_bestDelayAwayFrom 34 = .ok (.iconst 2, 1) := by decide +kernel
theorem dX1_bestDelayAwayFrom_35 : decode cX1_bestDelayAwayFrom 35 = .ok (.idiv, 1) := by decide +kernel
theorem dX1_bestDelayAwayFrom_36 : decode cX1_bestDelayAwayFrom 36 = .ok (.ineg, 1) := by decide +kernel
theorem dX1_bestDelayAwayFrom_37 : decode cX1_bestDelayAwayFrom 37 = .ok (.iconst 1, 1) := by decide +kernel
theorem dX1_bestDelayAwayFrom_38 : decode cX1_bestDelayAwayFrom 38 = .ok (.isub, 1) := by decide +kernel
theorem dX1_bestDelayAwayFrom_39 : decode cX1_bestDelayAwayFrom 39 = .ok (.istore 8, 2) := by decide +kernel
theorem dX1_bestDelayAwayFrom_41 : decode cX1_bestDelayAwayFrom 41 = .ok (.iload 8, 2) := by decide +kernel
theorem dX1_bestDelayAwayFrom_43 : decode cX1_bestDelayAwayFrom 43 = .ok (.iload_n 1, 1) := by decide +kernel
theorem dX1_bestDelayAwayFrom_44 : decode cX1_bestDelayAwayFrom 44 = .ok (.isub, 1) := by decide +kernel
theorem dX1_bestDelayAwayFrom_45 : decode cX1_bestDelayAwayFrom 45 = .ok (.invokestatic 52, 3) := by decide +kernel
theorem dX1_bestDelayAwayFrom_48 : decode cX1_bestDelayAwayFrom 48 = .ok (.iconst 1, 1) := by decide +kernel
theorem dX1_bestDelayAwayFrom_49 : decode cX1_bestDelayAwayFrom 49 = .ok (.if_icmp .le 57, 3) := by decide +kernel
theorem dX1_bestDelayAwayFrom_52 : decode cX1_bestDelayAwayFrom 52 = .ok (.aload_n 0, 1) := by decide +kernel
theorem dX1_bestDelayAwayFrom_53 : decode cX1_bestDelayAwayFrom 53 = .ok (.iload 8, 2) := by decide +kernel
theorem dX1_bestDelayAwayFrom_55 : decode cX1_bestDelayAwayFrom 55 = .ok (.invokevirtual 21, 3) := by decide +kernel
theorem dX1_bestDelayAwayFrom_58 : decode cX1_bestDelayAwayFrom 58 = .ok (.i2l, 1) := by decide +kernel
theorem dX1_bestDelayAwayFrom_59 : decode cX1_bestDelayAwayFrom 59 = .ok (.lstore 9, 2) := by decide +kernel
theorem dX1_bestDelayAwayFrom_61 : decode cX1_bestDelayAwayFrom 61 = .ok (.aload_n 0, 1) := by decide +kernel
theorem dX1_bestDelayAwayFrom_62 : decode cX1_bestDelayAwayFrom 62 = .ok (.iload 8, 2) := by decide +kernel
theorem dX1_bestDelayAwayFrom_64 : decode cX1_bestDelayAwayFrom 64 = .ok (.invokevirtual 25, 3) := by decide +kernel
theorem dX1_bestDelayAwayFrom_67 : decode cX1_bestDelayAwayFrom 67 = .ok (.i2l, 1) := by decide +kernel
theorem dX1_bestDelayAwayFrom_68 : decode cX1_bestDelayAwayFrom 68 = .ok (.lstore 11, 2) := by decide +kernel
theorem dX1_bestDelayAwayFrom_70 : decode cX1_bestDelayAwayFrom 70 = .ok (.lload 11, 2) := by decide +kernel
theorem dX1_bestDelayAwayFrom_72 : decode cX1_bestDelayAwayFrom 72 = .ok (.lconst 0, 1) := by decide +kernel
theorem dX1_bestDelayAwayFrom_73 : decode cX1_bestDelayAwayFrom 73 = .ok (.lcmp, 1) := by decide +kernel
theorem dX1_bestDelayAwayFrom_74 : decode cX1_bestDelayAwayFrom 74 = .ok (.ifCond .le 32, 3) := by decide +kernel
theorem dX1_bestDelayAwayFrom_77 : decode cX1_bestDelayAwayFrom 77 = .ok (.iload_n 2, 1) := by decide +kernel
theorem dX1_bestDelayAwayFrom_78 : decode cX1_bestDelayAwayFrom 78 = .ok (.bipush (-101), 2) := by decide +kernel
theorem dX1_bestDelayAwayFrom_80 : decode cX1_bestDelayAwayFrom 80 = .ok (.if_icmp .eq 16, 3) := by decide +kernel
theorem dX1_bestDelayAwayFrom_83 : decode cX1_bestDelayAwayFrom 83 = .ok (.lload 9, 2) := by decide +kernel
theorem dX1_bestDelayAwayFrom_85 : decode cX1_bestDelayAwayFrom 85 = .ok (.lload 5, 2) := by decide +kernel
theorem dX1_bestDelayAwayFrom_87 : decode cX1_bestDelayAwayFrom 87 = .ok (.lmul, 1) := by decide +kernel
theorem dX1_bestDelayAwayFrom_88 : decode cX1_bestDelayAwayFrom 88 = .ok (.lload_n 3, 1) := by decide +kernel
theorem dX1_bestDelayAwayFrom_89 : decode cX1_bestDelayAwayFrom 89 = .ok (.lload 11, 2) := by decide +kernel
theorem dX1_bestDelayAwayFrom_91 : decode cX1_bestDelayAwayFrom 91 = .ok (.lmul, 1) := by decide +kernel
theorem dX1_bestDelayAwayFrom_92 : decode cX1_bestDelayAwayFrom 92 = .ok (.lcmp, 1) := by decide +kernel
theorem dX1_bestDelayAwayFrom_93 : decode cX1_bestDelayAwayFrom 93 = .ok (.ifCond .le 13, 3) := by decide +kernel
theorem dX1_bestDelayAwayFrom_96 : decode cX1_bestDelayAwayFrom 96 = .ok (.iload 8, 2) := by decide +kernel
theorem dX1_bestDelayAwayFrom_98 : decode cX1_bestDelayAwayFrom 98 = .ok (.istore_n 2, 1) := by decide +kernel
theorem dX1_bestDelayAwayFrom_99 : decode cX1_bestDelayAwayFrom 99 = .ok (.lload 9, 2) := by decide +kernel
theorem dX1_bestDelayAwayFrom_101 : decode cX1_bestDelayAwayFrom 101 = .ok (.lstore_n 3, 1) := by decide +kernel
theorem dX1_bestDelayAwayFrom_102 : decode cX1_bestDelayAwayFrom 102 = .ok (.lload 11, 2) := by decide +kernel
theorem dX1_bestDelayAwayFrom_104 : decode cX1_bestDelayAwayFrom 104 = .ok (.lstore 5, 2) := by decide +kernel
theorem dX1_bestDelayAwayFrom_106 : decode cX1_bestDelayAwayFrom 106 = .ok (.iinc 7 1, 3) := by decide +kernel
theorem dX1_bestDelayAwayFrom_109 : decode cX1_bestDelayAwayFrom 109 = .ok (.goto (-98), 3) := by decide +kernel
theorem dX1_bestDelayAwayFrom_112 : decode cX1_bestDelayAwayFrom 112 = .ok (.iload_n 2, 1) := by decide +kernel
theorem dX1_bestDelayAwayFrom_113 : decode cX1_bestDelayAwayFrom 113 = .ok (.ireturn, 1) := by decide +kernel
set_option maxRecDepth 20000 in
theorem ggX1_sumAt_X1_isPair : GoodIn wsX1_sumAt wsX1_isPair := goodIn_r _ [6, 1, 7, 8, 9, 10, 11] (by decide +kernel) (by decide +kernel)
set_option maxRecDepth 20000 in
theorem gX1_sumAt_X1_isPair : GoodIn wsX1_sumAt (wsV RX1 55 RX1 yX1_isPair wsX1_isPair) := goodIn_app (goodIn_of _ (by decide +kernel)) ggX1_sumAt_X1_isPair
theorem dX1_sumAt_0 : decode cX1_sumAt 0 = .ok (.iconst 0, 1) := by decide +kernel
theorem dX1_sumAt_1 : decode cX1_sumAt 1 = .ok (.istore_n 2, 1) := by decide +kernel
theorem dX1_sumAt_2 : decode cX1_sumAt 2 = .ok (.iconst 0, 1) := by decide +kernel
theorem dX1_sumAt_3 : decode cX1_sumAt 3 = .ok (.istore_n 3, 1) := by decide +kernel
theorem dX1_sumAt_4 : decode cX1_sumAt 4 = .ok (.iload_n 3, 1) := by decide +kernel
theorem dX1_sumAt_5 : decode cX1_sumAt 5 = .ok (.bipush 64, 2) := by decide +kernel
theorem dX1_sumAt_7 : decode cX1_sumAt 7 = .ok (.if_icmp .ge 42, 3) := by decide +kernel
theorem dX1_sumAt_10 : decode cX1_sumAt 10 = .ok (.aload_n 0, 1) := by decide +kernel
theorem dX1_sumAt_11 : decode cX1_sumAt 11 = .ok (.iload_n 3, 1) := by decide +kernel
theorem dX1_sumAt_12 : decode cX1_sumAt 12 = .ok (.iload_n 3, 1) := by decide +kernel
theorem dX1_sumAt_13 : decode cX1_sumAt 13 = .ok (.iload_n 1, 1) := by decide +kernel
theorem dX1_sumAt_14 : decode cX1_sumAt 14 = .ok (.iadd, 1) := by decide +kernel
theorem dX1_sumAt_15 : decode cX1_sumAt 15 = .ok (.invokevirtual 55, 3) := by decide +kernel
theorem dX1_sumAt_18 : decode cX1_sumAt 18 = .ok (.ifCond .eq 25, 3) := by decide +kernel
theorem dX1_sumAt_21 : decode cX1_sumAt 21 = .ok (.iload_n 2, 1) := by decide +kernel
theorem dX1_sumAt_22 : decode cX1_sumAt 22 = .ok (.aload_n 0, 1) := by decide +kernel
theorem dX1_sumAt_23 : decode cX1_sumAt 23 = .ok (.getfield 13, 3) := by decide +kernel
theorem dX1_sumAt_26 : decode cX1_sumAt 26 = .ok (.iconst 0, 1) := by decide +kernel
theorem dX1_sumAt_27 : decode cX1_sumAt 27 = .ok (.aaload, 1) := by decide +kernel
theorem dX1_sumAt_28 : decode cX1_sumAt 28 = .ok (.iload_n 3, 1) := by decide +kernel
theorem dX1_sumAt_29 : decode cX1_sumAt 29 = .ok (.iaload, 1) := by decide +kernel
theorem dX1_sumAt_30 : decode cX1_sumAt 30 = .ok (.aload_n 0, 1) := by decide +kernel
theorem dX1_sumAt_31 : decode cX1_sumAt 31 = .ok (.getfield 13, 3) := by decide +kernel
theorem dX1_sumAt_34 : decode cX1_sumAt 34 = .ok (.iconst 1, 1) := by decide +kernel
theorem dX1_sumAt_35 : decode cX1_sumAt 35 = .ok (.aaload, 1) := by decide +kernel
theorem dX1_sumAt_36 : decode cX1_sumAt 36 = .ok (.iload_n 3, 1) := by decide +kernel
theorem dX1_sumAt_37 : decode cX1_sumAt 37 = .ok (.iload_n 1, 1) := by decide +kernel
theorem dX1_sumAt_38 : decode cX1_sumAt 38 = .ok (.iadd, 1) := by decide +kernel
theorem dX1_sumAt_39 : decode cX1_sumAt 39 = .ok (.iaload, 1) := by decide +kernel
theorem dX1_sumAt_40 : decode cX1_sumAt 40 = .ok (.imul, 1) := by decide +kernel
theorem dX1_sumAt_41 : decode cX1_sumAt 41 = .ok (.iadd, 1) := by decide +kernel
theorem dX1_sumAt_42 : decode cX1_sumAt 42 = .ok (.istore_n 2, 1) := by decide +kernel
theorem dX1_sumAt_43 : decode cX1_sumAt 43 = .ok (.iinc 3 1, 3) := by decide +kernel
theorem dX1_sumAt_46 : decode cX1_sumAt 46 = .ok (.goto (-42), 3) := by decide +kernel
theorem dX1_sumAt_49 : decode cX1_sumAt 49 = .ok (.iload_n 2, 1) := by decide +kernel
theorem dX1_sumAt_50 : decode cX1_sumAt 50 = .ok (.ireturn, 1) := by decide +kernel
set_option maxRecDepth 20000 in
theorem ggX1_pairsAt_X1_isPair : GoodIn wsX1_pairsAt wsX1_isPair := goodIn_r _ [5, 6, 7, 8, 9, 10, 11] (by decide +kernel) (by decide +kernel)
set_option maxRecDepth 20000 in
theorem gX1_pairsAt_X1_isPair : GoodIn wsX1_pairsAt (wsV RX1 55 RX1 yX1_isPair wsX1_isPair) := goodIn_app (goodIn_of _ (by decide +kernel)) ggX1_pairsAt_X1_isPair
theorem dX1_pairsAt_0 : decode cX1_pairsAt 0 = .ok (.iconst 0, 1) := by decide +kernel
theorem dX1_pairsAt_1 : decode cX1_pairsAt 1 = .ok (.istore_n 2, 1) := by decide +kernel
theorem dX1_pairsAt_2 : decode cX1_pairsAt 2 = .ok (.iconst 0, 1) := by decide +kernel
theorem dX1_pairsAt_3 : decode cX1_pairsAt 3 = .ok (.istore_n 3, 1) := by decide +kernel
theorem dX1_pairsAt_4 : decode cX1_pairsAt 4 = .ok (.iload_n 3, 1) := by decide +kernel
theorem dX1_pairsAt_5 : decode cX1_pairsAt 5 = .ok (.bipush 64, 2) := by decide +kernel
theorem dX1_pairsAt_7 : decode cX1_pairsAt 7 = .ok (.if_icmp .ge 23, 3) := by decide +kernel
theorem dX1_pairsAt_10 : decode cX1_pairsAt 10 = .ok (.aload_n 0, 1) := by decide +kernel
theorem dX1_pairsAt_11 : decode cX1_pairsAt 11 = .ok (.iload_n 3, 1) := by decide +kernel
theorem dX1_pairsAt_12 : decode cX1_pairsAt 12 = .ok (.iload_n 3, 1) := by decide +kernel
theorem dX1_pairsAt_13 : decode cX1_pairsAt 13 = .ok (.iload_n 1, 1) := by decide +kernel
theorem dX1_pairsAt_14 : decode cX1_pairsAt 14 = .ok (.iadd, 1) := by decide +kernel
theorem dX1_pairsAt_15 : decode cX1_pairsAt 15 = .ok (.invokevirtual 55, 3) := by decide +kernel
theorem dX1_pairsAt_18 : decode cX1_pairsAt 18 = .ok (.ifCond .eq 6, 3) := by decide +kernel
theorem dX1_pairsAt_21 : decode cX1_pairsAt 21 = .ok (.iinc 2 1, 3) := by decide +kernel
theorem dX1_pairsAt_24 : decode cX1_pairsAt 24 = .ok (.iinc 3 1, 3) := by decide +kernel
theorem dX1_pairsAt_27 : decode cX1_pairsAt 27 = .ok (.goto (-23), 3) := by decide +kernel
theorem dX1_pairsAt_30 : decode cX1_pairsAt 30 = .ok (.iload_n 2, 1) := by decide +kernel
theorem dX1_pairsAt_31 : decode cX1_pairsAt 31 = .ok (.ireturn, 1) := by decide +kernel
set_option maxRecDepth 20000 in
theorem ggX1_isPair_X6_outside : GoodIn wsX1_isPair wsX6_outside := goodIn_r _ [5] (by decide +kernel) (by decide +kernel)
set_option maxRecDepth 20000 in
theorem gX1_isPair_X6_outside_n16 : GoodIn wsX1_isPair (wsX6_outside) := ggX1_isPair_X6_outside
theorem dX1_isPair_0 : decode cX1_isPair 0 = .ok (.iload_n 1, 1) := by decide +kernel
theorem dX1_isPair_1 : decode cX1_isPair 1 = .ok (.iconst 0, 1) := by decide +kernel
theorem dX1_isPair_2 : decode cX1_isPair 2 = .ok (.bipush 63, 2) := by decide +kernel
theorem dX1_isPair_4 : decode cX1_isPair 4 = .ok (.invokestatic 16, 3) := by decide +kernel
theorem dX1_isPair_7 : decode cX1_isPair 7 = .ok (.ifCond .ne 43, 3) := by decide +kernel
theorem dX1_isPair_10 : decode cX1_isPair 10 = .ok (.iload_n 2, 1) := by decide +kernel
theorem dX1_isPair_11 : decode cX1_isPair 11 = .ok (.iconst 0, 1) := by decide +kernel
theorem dX1_isPair_12 : decode cX1_isPair 12 = .ok (.bipush 63, 2) := by decide +kernel
theorem dX1_isPair_14 : decode cX1_isPair 14 = .ok (.invokestatic 16, 3) := by decide +kernel
theorem dX1_isPair_17 : decode cX1_isPair 17 = .ok (.ifCond .ne 33, 3) := by decide +kernel
theorem dX1_isPair_20 : decode cX1_isPair 20 = .ok (.aload_n 0, 1) := by decide +kernel
theorem dX1_isPair_21 : decode cX1_isPair 21 = .ok (.getfield 13, 3) := by decide +kernel
theorem dX1_isPair_24 : decode cX1_isPair 24 = .ok (.iconst 0, 1) := by decide +kernel
theorem dX1_isPair_25 : decode cX1_isPair 25 = .ok (.aaload, 1) := by decide +kernel
theorem dX1_isPair_26 : decode cX1_isPair 26 = .ok (.iload_n 1, 1) := by decide +kernel
theorem dX1_isPair_27 : decode cX1_isPair 27 = .ok (.iaload, 1) := by decide +kernel
theorem dX1_isPair_28 : decode cX1_isPair 28 = .ok (.ldc 20, 2) := by decide +kernel
theorem dX1_isPair_30 : decode cX1_isPair 30 = .ok (.if_icmp .eq 20, 3) := by decide +kernel
theorem dX1_isPair_33 : decode cX1_isPair 33 = .ok (.aload_n 0, 1) := by decide +kernel
theorem dX1_isPair_34 : decode cX1_isPair 34 = .ok (.getfield 13, 3) := by decide +kernel
theorem dX1_isPair_37 : decode cX1_isPair 37 = .ok (.iconst 1, 1) := by decide +kernel
theorem dX1_isPair_38 : decode cX1_isPair 38 = .ok (.aaload, 1) := by decide +kernel
theorem dX1_isPair_39 : decode cX1_isPair 39 = .ok (.iload_n 2, 1) := by decide +kernel
theorem dX1_isPair_40 : decode cX1_isPair 40 = .ok (.iaload, 1) := by decide +kernel
theorem dX1_isPair_41 : decode cX1_isPair 41 = .ok (.ldc 20, 2) := by decide +kernel
theorem dX1_isPair_43 : decode cX1_isPair 43 = .ok (.if_icmp .eq 7, 3) := by decide +kernel
theorem dX1_isPair_46 : decode cX1_isPair 46 = .ok (.iconst 1, 1) := by decide +kernel
theorem dX1_isPair_47 : decode cX1_isPair 47 = .ok (.goto 4, 3) := by decide +kernel
theorem dX1_isPair_50 : decode cX1_isPair 50 = .ok (.iconst 0, 1) := by decide +kernel
theorem dX1_isPair_51 : decode cX1_isPair 51 = .ok (.ireturn, 1) := by decide +kernel
theorem dX1_onPipe_0 : decode cX1_onPipe 0 = .ok (.iconst 0, 1) := by decide +kernel
theorem dX1_onPipe_1 : decode cX1_onPipe 1 = .ok (.iconst 2, 1) := by decide +kernel
theorem dX1_onPipe_2 : decode cX1_onPipe 2 = .ok (.iload_n 1, 1) := by decide +kernel
theorem dX1_onPipe_3 : decode cX1_onPipe 3 = .ok (.imul, 1) := by decide +kernel
theorem dX1_onPipe_4 : decode cX1_onPipe 4 = .ok (.iload_n 0, 1) := by decide +kernel
theorem dX1_onPipe_5 : decode cX1_onPipe 5 = .ok (.invokestatic 40, 3) := by decide +kernel
theorem dX1_onPipe_8 : decode cX1_onPipe 8 = .ok (.invokestatic 45, 3) := by decide +kernel
theorem dX1_onPipe_11 : decode cX1_onPipe 11 = .ok (.ireturn, 1) := by decide +kernel
set_option maxRecDepth 20000 in
theorem ggX2_leakAt_X6_outside : GoodIn wsX2_leakAt wsX6_outside := goodIn_r _ [4] (by decide +kernel) (by decide +kernel)
set_option maxRecDepth 20000 in
theorem gX2_leakAt_X6_outside_n10 : GoodIn wsX2_leakAt (wsX6_outside) := ggX2_leakAt_X6_outside
set_option maxRecDepth 20000 in
theorem ggX2_leakAt_X2_pull : GoodIn wsX2_leakAt wsX2_pull := goodIn_r _ [8, 9, 10, 7, 11] (by decide +kernel) (by decide +kernel)
set_option maxRecDepth 20000 in
theorem gX2_leakAt_X2_pull : GoodIn wsX2_leakAt (va_wsS RX2 14 yX2_pull wsX2_pull) := goodIn_app (goodIn_of _ (by decide +kernel)) ggX2_leakAt_X2_pull
theorem dX2_leakAt_0 : decode cX2_leakAt 0 = .ok (.iload_n 0, 1) := by decide +kernel
theorem dX2_leakAt_1 : decode cX2_leakAt 1 = .ok (.iconst 0, 1) := by decide +kernel
theorem dX2_leakAt_2 : decode cX2_leakAt 2 = .ok (.ldc 9, 2) := by decide +kernel
theorem dX2_leakAt_4 : decode cX2_leakAt 4 = .ok (.invokestatic 10, 3) := by decide +kernel
theorem dX2_leakAt_7 : decode cX2_leakAt 7 = .ok (.ifCond .ne 23, 3) := by decide +kernel
theorem dX2_leakAt_10 : decode cX2_leakAt 10 = .ok (.iload_n 1, 1) := by decide +kernel
theorem dX2_leakAt_11 : decode cX2_leakAt 11 = .ok (.iconst 1, 1) := by decide +kernel
theorem dX2_leakAt_12 : decode cX2_leakAt 12 = .ok (.bipush 100, 2) := by decide +kernel
theorem dX2_leakAt_14 : decode cX2_leakAt 14 = .ok (.invokestatic 10, 3) := by decide +kernel
theorem dX2_leakAt_17 : decode cX2_leakAt 17 = .ok (.ifCond .ne 13, 3) := by decide +kernel
theorem dX2_leakAt_20 : decode cX2_leakAt 20 = .ok (.iload_n 2, 1) := by decide +kernel
theorem dX2_leakAt_21 : decode cX2_leakAt 21 = .ok (.iconst 1, 1) := by decide +kernel
theorem dX2_leakAt_22 : decode cX2_leakAt 22 = .ok (.bipush 100, 2) := by decide +kernel
theorem dX2_leakAt_24 : decode cX2_leakAt 24 = .ok (.invokestatic 10, 3) := by decide +kernel
theorem dX2_leakAt_27 : decode cX2_leakAt 27 = .ok (.ifCond .eq 6, 3) := by decide +kernel
theorem dX2_leakAt_30 : decode cX2_leakAt 30 = .ok (.bipush (-2), 2) := by decide +kernel
theorem dX2_leakAt_32 : decode cX2_leakAt 32 = .ok (.ireturn, 1) := by decide +kernel
theorem dX2_leakAt_33 : decode cX2_leakAt 33 = .ok (.iload_n 1, 1) := by decide +kernel
theorem dX2_leakAt_34 : decode cX2_leakAt 34 = .ok (.invokestatic 14, 3) := by decide +kernel
theorem dX2_leakAt_37 : decode cX2_leakAt 37 = .ok (.lstore_n 3, 1) := by decide +kernel
theorem dX2_leakAt_38 : decode cX2_leakAt 38 = .ok (.lload_n 3, 1) := by decide +kernel
theorem dX2_leakAt_39 : decode cX2_leakAt 39 = .ok (.lconst 0, 1) := by decide +kernel
theorem dX2_leakAt_40 : decode cX2_leakAt 40 = .ok (.lcmp, 1) := by decide +kernel
theorem dX2_leakAt_41 : decode cX2_leakAt 41 = .ok (.ifCond .gt 6, 3) := by decide +kernel
theorem dX2_leakAt_44 : decode cX2_leakAt 44 = .ok (.bipush (-2), 2) := by decide +kernel
theorem dX2_leakAt_46 : decode cX2_leakAt 46 = .ok (.ireturn, 1) := by decide +kernel
theorem dX2_leakAt_47 : decode cX2_leakAt 47 = .ok (.iload_n 0, 1) := by decide +kernel
theorem dX2_leakAt_48 : decode cX2_leakAt 48 = .ok (.i2l, 1) := by decide +kernel
theorem dX2_leakAt_49 : decode cX2_leakAt 49 = .ok (.iload_n 2, 1) := by decide +kernel
theorem dX2_leakAt_50 : decode cX2_leakAt 50 = .ok (.invokestatic 14, 3) := by decide +kernel
theorem dX2_leakAt_53 : decode cX2_leakAt 53 = .ok (.lmul, 1) := by decide +kernel
theorem dX2_leakAt_54 : decode cX2_leakAt 54 = .ok (.lload_n 3, 1) := by decide +kernel
theorem dX2_leakAt_55 : decode cX2_leakAt 55 = .ok (.ldiv, 1) := by decide +kernel
theorem dX2_leakAt_56 : decode cX2_leakAt 56 = .ok (.l2i, 1) := by decide +kernel
theorem dX2_leakAt_57 : decode cX2_leakAt 57 = .ok (.ireturn, 1) := by decide +kernel
set_option maxRecDepth 20000 in
theorem ggX2_pull_X2_rootOf : GoodIn wsX2_pull wsX2_rootOf := goodIn_r _ [4] (by decide +kernel) (by decide +kernel)
set_option maxRecDepth 20000 in
theorem gX2_pull_X2_rootOf : GoodIn wsX2_pull (va_wsS RX2 20 yX2_rootOf wsX2_rootOf) := goodIn_app (goodIn_of _ (by decide +kernel)) ggX2_pull_X2_rootOf
theorem dX2_pull_0 : decode cX2_pull 0 = .ok (.iload_n 0, 1) := by decide +kernel
theorem dX2_pull_1 : decode cX2_pull 1 = .ok (.i2l, 1) := by decide +kernel
theorem dX2_pull_2 : decode cX2_pull 2 = .ok (.sipush 10000, 3) := by decide +kernel
theorem dX2_pull_5 : decode cX2_pull 5 = .ok (.iload_n 0, 1) := by decide +kernel
theorem dX2_pull_6 : decode cX2_pull 6 = .ok (.imul, 1) := by decide +kernel
theorem dX2_pull_7 : decode cX2_pull 7 = .ok (.invokestatic 20, 3) := by decide +kernel
theorem dX2_pull_10 : decode cX2_pull 10 = .ok (.i2l, 1) := by decide +kernel
theorem dX2_pull_11 : decode cX2_pull 11 = .ok (.lmul, 1) := by decide +kernel
theorem dX2_pull_12 : decode cX2_pull 12 = .ok (.lreturn, 1) := by decide +kernel
theorem dX2_rootOf_0 : decode cX2_rootOf 0 = .ok (.iconst 0, 1) := by decide +kernel
theorem dX2_rootOf_1 : decode cX2_rootOf 1 = .ok (.istore_n 1, 1) := by decide +kernel
theorem dX2_rootOf_2 : decode cX2_rootOf 2 = .ok (.iload_n 1, 1) := by decide +kernel
theorem dX2_rootOf_3 : decode cX2_rootOf 3 = .ok (.sipush 1000, 3) := by decide +kernel
theorem dX2_rootOf_6 : decode cX2_rootOf 6 = .ok (.if_icmp .ge 20, 3) := by decide +kernel
theorem dX2_rootOf_9 : decode cX2_rootOf 9 = .ok (.iload_n 1, 1) := by decide +kernel
theorem dX2_rootOf_10 : decode cX2_rootOf 10 = .ok (.iconst 1, 1) := by decide +kernel
theorem dX2_rootOf_11 : decode cX2_rootOf 11 = .ok (.iadd, 1) := by decide +kernel
theorem dX2_rootOf_12 : decode cX2_rootOf 12 = .ok (.iload_n 1, 1) := by decide +kernel
theorem dX2_rootOf_13 : decode cX2_rootOf 13 = .ok (.iconst 1, 1) := by decide +kernel
theorem dX2_rootOf_14 : decode cX2_rootOf 14 = .ok (.iadd, 1) := by decide +kernel
theorem dX2_rootOf_15 : decode cX2_rootOf 15 = .ok (.imul, 1) := by decide +kernel
theorem dX2_rootOf_16 : decode cX2_rootOf 16 = .ok (.iload_n 0, 1) := by decide +kernel
theorem dX2_rootOf_17 : decode cX2_rootOf 17 = .ok (.if_icmp .gt 9, 3) := by decide +kernel
theorem dX2_rootOf_20 : decode cX2_rootOf 20 = .ok (.iinc 1 1, 3) := by decide +kernel
theorem dX2_rootOf_23 : decode cX2_rootOf 23 = .ok (.goto (-21), 3) := by decide +kernel
theorem dX2_rootOf_26 : decode cX2_rootOf 26 = .ok (.iload_n 1, 1) := by decide +kernel
theorem dX2_rootOf_27 : decode cX2_rootOf 27 = .ok (.ireturn, 1) := by decide +kernel
set_option maxRecDepth 20000 in
theorem ggX3_init_X3_planAll : GoodIn wsX3_init wsX3_planAll := goodIn_r _ [14, 6, 8, 9, 5, 15, 16, 17, 13, 18, 19, 20, 21, 22, 23, 24, 25, 26] (by decide +kernel) (by decide +kernel)
set_option maxRecDepth 20000 in
theorem gX3_init_X3_planAll : GoodIn wsX3_init (wsV RX3 27 RX3 yX3_planAll wsX3_planAll) := goodIn_app (goodIn_of _ (by decide +kernel)) ggX3_init_X3_planAll
theorem dX3_init_0 : decode cX3_init 0 = .ok (.aload_n 0, 1) := by decide +kernel
theorem dX3_init_1 : decode cX3_init 1 = .ok (.invokespecial 3, 3) := by decide +kernel
theorem dX3_init_4 : decode cX3_init 4 = .ok (.aload_n 0, 1) := by decide +kernel
theorem dX3_init_5 : decode cX3_init 5 = .ok (.bipush 12, 2) := by decide +kernel
theorem dX3_init_7 : decode cX3_init 7 = .ok (.newarray .int, 2) := by decide +kernel
theorem dX3_init_9 : decode cX3_init 9 = .ok (.putfield 11, 3) := by decide +kernel
theorem dX3_init_12 : decode cX3_init 12 = .ok (.aload_n 0, 1) := by decide +kernel
theorem dX3_init_13 : decode cX3_init 13 = .ok (.iconst 1, 1) := by decide +kernel
theorem dX3_init_14 : decode cX3_init 14 = .ok (.putfield 15, 3) := by decide +kernel
theorem dX3_init_17 : decode cX3_init 17 = .ok (.aload_n 0, 1) := by decide +kernel
theorem dX3_init_18 : decode cX3_init 18 = .ok (.bipush 12, 2) := by decide +kernel
theorem dX3_init_20 : decode cX3_init 20 = .ok (.bipush 12, 2) := by decide +kernel
theorem dX3_init_22 : decode cX3_init 22 = .ok (.multianewarray 19 2, 4) := by decide +kernel
theorem dX3_init_26 : decode cX3_init 26 = .ok (.putfield 21, 3) := by decide +kernel
theorem dX3_init_29 : decode cX3_init 29 = .ok (.aload_n 0, 1) := by decide +kernel
theorem dX3_init_30 : decode cX3_init 30 = .ok (.bipush 12, 2) := by decide +kernel
theorem dX3_init_32 : decode cX3_init 32 = .ok (.bipush 12, 2) := by decide +kernel
theorem dX3_init_34 : decode cX3_init 34 = .ok (.multianewarray 19 2, 4) := by decide +kernel
theorem dX3_init_38 : decode cX3_init 38 = .ok (.putfield 24, 3) := by decide +kernel
theorem dX3_init_41 : decode cX3_init 41 = .ok (.aload_n 0, 1) := by decide +kernel
theorem dX3_init_42 : decode cX3_init 42 = .ok (.invokevirtual 27, 3) := by decide +kernel
theorem dX3_init_45 : decode cX3_init 45 = .ok (.return_, 1) := by decide +kernel
theorem dX3_number_0 : decode cX3_number 0 = .ok (.aload_n 0, 1) := by decide +kernel
theorem dX3_number_1 : decode cX3_number 1 = .ok (.getfield 15, 3) := by decide +kernel
theorem dX3_number_4 : decode cX3_number 4 = .ok (.ireturn, 1) := by decide +kernel
set_option maxRecDepth 20000 in
theorem ggX3_setWeight_X6_outside : GoodIn wsX3_setWeight wsX6_outside := goodIn_r _ [5] (by decide +kernel) (by decide +kernel)
set_option maxRecDepth 20000 in
theorem gX3_setWeight_X6_outside_n30 : GoodIn wsX3_setWeight (wsX6_outside) := ggX3_setWeight_X6_outside
set_option maxRecDepth 20000 in
theorem ggX3_setWeight_X3_planAll : GoodIn wsX3_setWeight wsX3_planAll := goodIn_r _ [10, 1, 11, 12, 2, 13, 14, 15, 9, 16, 17, 18, 19, 20, 21, 22, 23, 24] (by decide +kernel) (by decide +kernel)
set_option maxRecDepth 20000 in
theorem gX3_setWeight_X3_planAll : GoodIn wsX3_setWeight (wsV RX3 27 RX3 yX3_planAll wsX3_planAll) := goodIn_app (goodIn_of _ (by decide +kernel)) ggX3_setWeight_X3_planAll
theorem dX3_setWeight_0 : decode cX3_setWeight 0 = .ok (.iload_n 1, 1) := by decide +kernel
theorem dX3_setWeight_1 : decode cX3_setWeight 1 = .ok (.iconst 1, 1) := by decide +kernel
theorem dX3_setWeight_2 : decode cX3_setWeight 2 = .ok (.bipush 12, 2) := by decide +kernel
theorem dX3_setWeight_4 : decode cX3_setWeight 4 = .ok (.invokestatic 30, 3) := by decide +kernel
theorem dX3_setWeight_7 : decode cX3_setWeight 7 = .ok (.ifCond .ne 25, 3) := by decide +kernel
theorem dX3_setWeight_10 : decode cX3_setWeight 10 = .ok (.iload_n 2, 1) := by decide +kernel
theorem dX3_setWeight_11 : decode cX3_setWeight 11 = .ok (.iconst 0, 1) := by decide +kernel
theorem dX3_setWeight_12 : decode cX3_setWeight 12 = .ok (.iload_n 1, 1) := by decide +kernel
theorem dX3_setWeight_13 : decode cX3_setWeight 13 = .ok (.iconst 1, 1) := by decide +kernel
theorem dX3_setWeight_14 : decode cX3_setWeight 14 = .ok (.isub, 1) := by decide +kernel
theorem dX3_setWeight_15 : decode cX3_setWeight 15 = .ok (.invokestatic 30, 3) := by decide +kernel
theorem dX3_setWeight_18 : decode cX3_setWeight 18 = .ok (.ifCond .ne 14, 3) := by decide +kernel
theorem dX3_setWeight_21 : decode cX3_setWeight 21 = .ok (.iload_n 3, 1) := by decide +kernel
theorem dX3_setWeight_22 : decode cX3_setWeight 22 = .ok (.iconst 0, 1) := by decide +kernel
theorem dX3_setWeight_23 : decode cX3_setWeight 23 = .ok (.sipush 1000, 3) := by decide +kernel
theorem dX3_setWeight_26 : decode cX3_setWeight 26 = .ok (.invokestatic 30, 3) := by decide +kernel
theorem dX3_setWeight_29 : decode cX3_setWeight 29 = .ok (.ifCond .eq 6, 3) := by decide +kernel
theorem dX3_setWeight_32 : decode cX3_setWeight 32 = .ok (.bipush (-2), 2) := by decide +kernel
theorem dX3_setWeight_34 : decode cX3_setWeight 34 = .ok (.ireturn, 1) := by decide +kernel
theorem dX3_setWeight_35 : decode cX3_setWeight 35 = .ok (.iload_n 1, 1) := by decide +kernel
theorem dX3_setWeight_36 : decode cX3_setWeight 36 = .ok (.istore 4, 2) := by decide +kernel
theorem dX3_setWeight_38 : decode cX3_setWeight 38 = .ok (.iload 4, 2) := by decide +kernel
theorem dX3_setWeight_40 : decode cX3_setWeight 40 = .ok (.aload_n 0, 1) := by decide +kernel
theorem dX3_setWeight_41 : decode cX3_setWeight 41 = .ok (.getfield 15, 3) := by decide +kernel
theorem dX3_setWeight_44 : decode cX3_setWeight 44 = .ok (.if_icmp .ge 17, 3) := by decide +kernel
theorem dX3_setWeight_47 : decode cX3_setWeight 47 = .ok (.aload_n 0, 1) := by decide +kernel
theorem dX3_setWeight_48 : decode cX3_setWeight 48 = .ok (.getfield 11, 3) := by decide +kernel
theorem dX3_setWeight_51 : decode cX3_setWeight 51 = .ok (.iload 4, 2) := by decide +kernel
theorem dX3_setWeight_53 : decode cX3_setWeight 53 = .ok (.iconst 0, 1) := by decide +kernel
theorem dX3_setWeight_54 : decode cX3_setWeight 54 = .ok (.iastore, 1) := by decide +kernel
theorem dX3_setWeight_55 : decode cX3_setWeight 55 = .ok (.iinc 4 1, 3) := by decide +kernel
theorem dX3_setWeight_58 : decode cX3_setWeight 58 = .ok (.goto (-20), 3) := by decide +kernel
theorem dX3_setWeight_61 : decode cX3_setWeight 61 = .ok (.aload_n 0, 1) := by decide +kernel
theorem dX3_setWeight_62 : decode cX3_setWeight 62 = .ok (.iload_n 1, 1) := by decide +kernel
theorem dX3_setWeight_63 : decode cX3_setWeight 63 = .ok (.putfield 15, 3) := by decide +kernel
theorem dX3_setWeight_66 : decode cX3_setWeight 66 = .ok (.aload_n 0, 1) := by decide +kernel
theorem dX3_setWeight_67 : decode cX3_setWeight 67 = .ok (.getfield 11, 3) := by decide +kernel
theorem dX3_setWeight_70 : decode cX3_setWeight 70 = .ok (.iload_n 2, 1) := by decide +kernel
theorem dX3_setWeight_71 : decode cX3_setWeight 71 = .ok (.iaload, 1) := by decide +kernel
theorem dX3_setWeight_72 : decode cX3_setWeight 72 = .ok (.istore 4, 2) := by decide +kernel
theorem dX3_setWeight_74 : decode cX3_setWeight 74 = .ok (.aload_n 0, 1) := by decide +kernel
theorem dX3_setWeight_75 : decode cX3_setWeight 75 = .ok (.getfield 11, 3) := by decide +kernel
theorem dX3_setWeight_78 : decode cX3_setWeight 78 = .ok (.iload_n 2, 1) := by decide +kernel
theorem dX3_setWeight_79 : decode cX3_setWeight 79 = .ok (.iload_n 3, 1) := by decide +kernel
theorem dX3_setWeight_80 : decode cX3_setWeight 80 = .ok (.iastore, 1) := by decide +kernel
theorem dX3_setWeight_81 : decode cX3_setWeight 81 = .ok (.aload_n 0, 1) := by decide +kernel
theorem dX3_setWeight_82 : decode cX3_setWeight 82 = .ok (.invokevirtual 27, 3) := by decide +kernel
theorem dX3_setWeight_85 : decode cX3_setWeight 85 = .ok (.iload 4, 2) := by decide +kernel
theorem dX3_setWeight_87 : decode cX3_setWeight 87 = .ok (.ireturn, 1) := by decide +kernel
set_option maxRecDepth 20000 in
theorem ggX3_planCost_X3_isNoStretch : GoodIn wsX3_planCost wsX3_isNoStretch := goodIn_r _ [6, 7, 8, 9, 10, 11, 12, 13, 14] (by decide +kernel) (by decide +kernel)
set_option maxRecDepth 20000 in
theorem gX3_planCost_X3_isNoStretch : GoodIn wsX3_planCost (wsV RX3 34 RX3 yX3_isNoStretch wsX3_isNoStretch) := goodIn_app (goodIn_of _ (by decide +kernel)) ggX3_planCost_X3_isNoStretch
theorem dX3_planCost_0 : decode cX3_planCost 0 = .ok (.aload_n 0, 1) := by decide +kernel
theorem dX3_planCost_1 : decode cX3_planCost 1 = .ok (.iload_n 1, 1) := by decide +kernel
theorem dX3_planCost_2 : decode cX3_planCost 2 = .ok (.iload_n 2, 1) := by decide +kernel
theorem dX3_planCost_3 : decode cX3_planCost 3 = .ok (.invokevirtual 34, 3) := by decide +kernel
theorem dX3_planCost_6 : decode cX3_planCost 6 = .ok (.ifCond .eq 8, 3) := by decide +kernel
theorem dX3_planCost_9 : decode cX3_planCost 9 = .ok (.bipush (-2), 2) := by decide +kernel
theorem dX3_planCost_11 : decode cX3_planCost 11 = .ok (.goto 11, 3) := by decide +kernel
theorem dX3_planCost_14 : decode cX3_planCost 14 = .ok (.aload_n 0, 1) := by decide +kernel
theorem dX3_planCost_15 : decode cX3_planCost 15 = .ok (.getfield 21, 3) := by decide +kernel
theorem dX3_planCost_18 : decode cX3_planCost 18 = .ok (.iload_n 1, 1) := by decide +kernel
theorem dX3_planCost_19 : decode cX3_planCost 19 = .ok (.aaload, 1) := by decide +kernel
theorem dX3_planCost_20 : decode cX3_planCost 20 = .ok (.iload_n 2, 1) := by decide +kernel
theorem dX3_planCost_21 : decode cX3_planCost 21 = .ok (.iaload, 1) := by decide +kernel
theorem dX3_planCost_22 : decode cX3_planCost 22 = .ok (.ireturn, 1) := by decide +kernel
set_option maxRecDepth 20000 in
theorem ggX3_planStart_X3_isNoStretch : GoodIn wsX3_planStart wsX3_isNoStretch := goodIn_r _ [6, 7, 8, 9, 10, 11, 12, 13, 14] (by decide +kernel) (by decide +kernel)
set_option maxRecDepth 20000 in
theorem gX3_planStart_X3_isNoStretch : GoodIn wsX3_planStart (wsV RX3 34 RX3 yX3_isNoStretch wsX3_isNoStretch) := goodIn_app (goodIn_of _ (by decide +kernel)) ggX3_planStart_X3_isNoStretch
theorem dX3_planStart_0 : decode cX3_planStart 0 = .ok (.aload_n 0, 1) := by decide +kernel
theorem dX3_planStart_1 : decode cX3_planStart 1 = .ok (.iload_n 1, 1) := by decide +kernel
theorem dX3_planStart_2 : decode cX3_planStart 2 = .ok (.iload_n 2, 1) := by decide +kernel
theorem dX3_planStart_3 : decode cX3_planStart 3 = .ok (.invokevirtual 34, 3) := by decide +kernel
theorem dX3_planStart_6 : decode cX3_planStart 6 = .ok (.ifCond .eq 8, 3) := by decide +kernel
theorem dX3_planStart_9 : decode cX3_planStart 9 = .ok (.bipush (-2), 2) := by decide +kernel
theorem dX3_planStart_11 : decode cX3_planStart 11 = .ok (.goto 11, 3) := by decide +kernel
theorem dX3_planStart_14 : decode cX3_planStart 14 = .ok (.aload_n 0, 1) := by decide +kernel
theorem dX3_planStart_15 : decode cX3_planStart 15 = .ok (.getfield 24, 3) := by decide +kernel
theorem dX3_planStart_18 : decode cX3_planStart 18 = .ok (.iload_n 1, 1) := by decide +kernel
theorem dX3_planStart_19 : decode cX3_planStart 19 = .ok (.aaload, 1) := by decide +kernel
theorem dX3_planStart_20 : decode cX3_planStart 20 = .ok (.iload_n 2, 1) := by decide +kernel
theorem dX3_planStart_21 : decode cX3_planStart 21 = .ok (.iaload, 1) := by decide +kernel
theorem dX3_planStart_22 : decode cX3_planStart 22 = .ok (.ireturn, 1) := by decide +kernel
set_option maxRecDepth 20000 in
theorem ggX3_closingsFor_X6_outside : GoodIn wsX3_closingsFor wsX6_outside := goodIn_r _ [5] (by decide +kernel) (by decide +kernel)
set_option maxRecDepth 20000 in
theorem gX3_closingsFor_X6_outside_n30 : GoodIn wsX3_closingsFor (wsX6_outside) := ggX3_closingsFor_X6_outside
theorem dX3_closingsFor_0 : decode cX3_closingsFor 0 = .ok (.iload_n 1, 1) := by decide +kernel
theorem dX3_closingsFor_1 : decode cX3_closingsFor 1 = .ok (.iconst 0, 1) := by decide +kernel
theorem dX3_closingsFor_2 : decode cX3_closingsFor 2 = .ok (.aload_n 0, 1) := by decide +kernel
theorem dX3_closingsFor_3 : decode cX3_closingsFor 3 = .ok (.getfield 15, 3) := by decide +kernel
theorem dX3_closingsFor_6 : decode cX3_closingsFor 6 = .ok (.iconst 1, 1) := by decide +kernel
theorem dX3_closingsFor_7 : decode cX3_closingsFor 7 = .ok (.isub, 1) := by decide +kernel
theorem dX3_closingsFor_8 : decode cX3_closingsFor 8 = .ok (.invokestatic 30, 3) := by decide +kernel
theorem dX3_closingsFor_11 : decode cX3_closingsFor 11 = .ok (.ifCond .eq 6, 3) := by decide +kernel
theorem dX3_closingsFor_14 : decode cX3_closingsFor 14 = .ok (.bipush (-2), 2) := by decide +kernel
theorem dX3_closingsFor_16 : decode cX3_closingsFor 16 = .ok (.ireturn, 1) := by decide +kernel
theorem dX3_closingsFor_17 : decode cX3_closingsFor 17 = .ok (.iconst 0, 1) := by decide +kernel
theorem dX3_closingsFor_18 : decode cX3_closingsFor 18 = .ok (.istore_n 2, 1) := by decide +kernel
theorem dX3_closingsFor_19 : decode cX3_closingsFor 19 = .ok (.aload_n 0, 1) := by decide +kernel
theorem dX3_closingsFor_20 : decode cX3_closingsFor 20 = .ok (.getfield 15, 3) := by decide +kernel
theorem dX3_closingsFor_23 : decode cX3_closingsFor 23 = .ok (.iconst 1, 1) := by decide +kernel
theorem dX3_closingsFor_24 : decode cX3_closingsFor 24 = .ok (.isub, 1) := by decide +kernel
theorem dX3_closingsFor_25 : decode cX3_closingsFor 25 = .ok (.istore_n 3, 1) := by decide +kernel
theorem dX3_closingsFor_26 : decode cX3_closingsFor 26 = .ok (.iconst 0, 1) := by decide +kernel
theorem dX3_closingsFor_27 : decode cX3_closingsFor 27 = .ok (.istore 4, 2) := by decide +kernel
theorem dX3_closingsFor_29 : decode cX3_closingsFor 29 = .ok (.iload_n 2, 1) := by decide +kernel
theorem dX3_closingsFor_30 : decode cX3_closingsFor 30 = .ok (.iload_n 3, 1) := by decide +kernel
theorem dX3_closingsFor_31 : decode cX3_closingsFor 31 = .ok (.if_icmp .ge 43, 3) := by decide +kernel
theorem dX3_closingsFor_34 : decode cX3_closingsFor 34 = .ok (.iload 4, 2) := by decide +kernel
theorem dX3_closingsFor_36 : decode cX3_closingsFor 36 = .ok (.bipush 12, 2) := by decide +kernel
theorem dX3_closingsFor_38 : decode cX3_closingsFor 38 = .ok (.if_icmp .ge 36, 3) := by decide +kernel
theorem dX3_closingsFor_41 : decode cX3_closingsFor 41 = .ok (.aload_n 0, 1) := by decide +kernel
theorem dX3_closingsFor_42 : decode cX3_closingsFor 42 = .ok (.getfield 24, 3) := by decide +kernel
theorem dX3_closingsFor_45 : decode cX3_closingsFor 45 = .ok (.iload_n 2, 1) := by decide +kernel
theorem dX3_closingsFor_46 : decode cX3_closingsFor 46 = .ok (.aaload, 1) := by decide +kernel
theorem dX3_closingsFor_47 : decode cX3_closingsFor 47 = .ok (.iload_n 3, 1) := by decide +kernel
theorem dX3_closingsFor_48 : decode cX3_closingsFor 48 = .ok (.iaload, 1) := by decide +kernel
theorem dX3_closingsFor_49 : decode cX3_closingsFor 49 = .ok (.istore 5, 2) := by decide +kernel
theorem dX3_closingsFor_51 : decode cX3_closingsFor 51 = .ok (.iload_n 1, 1) := by decide +kernel
theorem dX3_closingsFor_52 : decode cX3_closingsFor 52 = .ok (.iload 5, 2) := by decide +kernel
theorem dX3_closingsFor_54 : decode cX3_closingsFor 54 = .ok (.if_icmp .ge 11, 3) := by decide +kernel
theorem dX3_closingsFor_57 : decode cX3_closingsFor 57 = .ok (.iload 5, 2) := by decide +kernel
theorem dX3_closingsFor_59 : decode cX3_closingsFor 59 = .ok (.iconst 1, 1) := by decide +kernel
theorem dX3_closingsFor_60 : decode cX3_closingsFor 60 = .ok (.isub, 1) := by decide +kernel
theorem dX3_closingsFor_61 : decode cX3_closingsFor 61 = .ok (.istore_n 3, 1) := by decide +kernel
theorem dX3_closingsFor_62 : decode cX3_closingsFor 62 = .ok (.goto 6, 3) := by decide +kernel
theorem dX3_closingsFor_65 : decode cX3_closingsFor 65 = .ok (.iload 5, 2) := by decide +kernel
theorem dX3_closingsFor_67 : decode cX3_closingsFor 67 = .ok (.istore_n 2, 1) := by decide +kernel
theorem dX3_closingsFor_68 : decode cX3_closingsFor 68 = .ok (.iinc 4 1, 3) := by decide +kernel
theorem dX3_closingsFor_71 : decode cX3_closingsFor 71 = .ok (.goto (-42), 3) := by decide +kernel
theorem dX3_closingsFor_74 : decode cX3_closingsFor 74 = .ok (.iload 4, 2) := by decide +kernel
theorem dX3_closingsFor_76 : decode cX3_closingsFor 76 = .ok (.ireturn, 1) := by decide +kernel
set_option maxRecDepth 20000 in
theorem ggX3_mixInto_X6_mix : GoodIn wsX3_mixInto wsX6_mix := goodIn_r _ [5, 6] (by decide +kernel) (by decide +kernel)
set_option maxRecDepth 20000 in
theorem gX3_mixInto_X6_mix_n38 : GoodIn wsX3_mixInto (wsX6_mix) := ggX3_mixInto_X6_mix
theorem dX3_mixInto_0 : decode cX3_mixInto 0 = .ok (.lload_n 1, 1) := by decide +kernel
theorem dX3_mixInto_1 : decode cX3_mixInto 1 = .ok (.lstore_n 3, 1) := by decide +kernel
theorem dX3_mixInto_2 : decode cX3_mixInto 2 = .ok (.iconst 0, 1) := by decide +kernel
theorem dX3_mixInto_3 : decode cX3_mixInto 3 = .ok (.istore 5, 2) := by decide +kernel
theorem dX3_mixInto_5 : decode cX3_mixInto 5 = .ok (.iload 5, 2) := by decide +kernel
theorem dX3_mixInto_7 : decode cX3_mixInto 7 = .ok (.aload_n 0, 1) := by decide +kernel
theorem dX3_mixInto_8 : decode cX3_mixInto 8 = .ok (.getfield 15, 3) := by decide +kernel
theorem dX3_mixInto_11 : decode cX3_mixInto 11 = .ok (.if_icmp .ge 21, 3) := by decide +kernel
theorem dX3_mixInto_14 : decode cX3_mixInto 14 = .ok (.lload_n 3, 1) := by decide +kernel
theorem dX3_mixInto_15 : decode cX3_mixInto 15 = .ok (.aload_n 0, 1) := by decide +kernel
theorem dX3_mixInto_16 : decode cX3_mixInto 16 = .ok (.getfield 11, 3) := by decide +kernel
theorem dX3_mixInto_19 : decode cX3_mixInto 19 = .ok (.iload 5, 2) := by decide +kernel
theorem dX3_mixInto_21 : decode cX3_mixInto 21 = .ok (.iaload, 1) := by decide +kernel
theorem dX3_mixInto_22 : decode cX3_mixInto 22 = .ok (.invokestatic 38, 3) := by decide +kernel
theorem dX3_mixInto_25 : decode cX3_mixInto 25 = .ok (.lstore_n 3, 1) := by decide +kernel
theorem dX3_mixInto_26 : decode cX3_mixInto 26 = .ok (.iinc 5 1, 3) := by decide +kernel
theorem dX3_mixInto_29 : decode cX3_mixInto 29 = .ok (.goto (-24), 3) := by decide +kernel
theorem dX3_mixInto_32 : decode cX3_mixInto 32 = .ok (.lload_n 3, 1) := by decide +kernel
theorem dX3_mixInto_33 : decode cX3_mixInto 33 = .ok (.lreturn, 1) := by decide +kernel
set_option maxRecDepth 20000 in
theorem ggX3_isNoStretch_X6_outside : GoodIn wsX3_isNoStretch wsX6_outside := goodIn_r _ [4] (by decide +kernel) (by decide +kernel)
set_option maxRecDepth 20000 in
theorem gX3_isNoStretch_X6_outside_n30 : GoodIn wsX3_isNoStretch (wsX6_outside) := ggX3_isNoStretch_X6_outside
theorem dX3_isNoStretch_0 : decode cX3_isNoStretch 0 = .ok (.iload_n 2, 1) := by decide +kernel
theorem dX3_isNoStretch_1 : decode cX3_isNoStretch 1 = .ok (.iconst 0, 1) := by decide +kernel
theorem dX3_isNoStretch_2 : decode cX3_isNoStretch 2 = .ok (.aload_n 0, 1) := by decide +kernel
theorem dX3_isNoStretch_3 : decode cX3_isNoStretch 3 = .ok (.getfield 15, 3) := by decide +kernel
theorem dX3_isNoStretch_6 : decode cX3_isNoStretch 6 = .ok (.iconst 1, 1) := by decide +kernel
theorem dX3_isNoStretch_7 : decode cX3_isNoStretch 7 = .ok (.isub, 1) := by decide +kernel
theorem dX3_isNoStretch_8 : decode cX3_isNoStretch 8 = .ok (.invokestatic 30, 3) := by decide +kernel
theorem dX3_isNoStretch_11 : decode cX3_isNoStretch 11 = .ok (.ifCond .ne 12, 3) := by decide +kernel
theorem dX3_isNoStretch_14 : decode cX3_isNoStretch 14 = .ok (.iload_n 1, 1) := by decide +kernel
theorem dX3_isNoStretch_15 : decode cX3_isNoStretch 15 = .ok (.iconst 0, 1) := by decide +kernel
theorem dX3_isNoStretch_16 : decode cX3_isNoStretch 16 = .ok (.iload_n 2, 1) := by decide +kernel
theorem dX3_isNoStretch_17 : decode cX3_isNoStretch 17 = .ok (.invokestatic 30, 3) := by decide +kernel
theorem dX3_isNoStretch_20 : decode cX3_isNoStretch 20 = .ok (.ifCond .eq 7, 3) := by decide +kernel
theorem dX3_isNoStretch_23 : decode cX3_isNoStretch 23 = .ok (.iconst 1, 1) := by decide +kernel
theorem dX3_isNoStretch_24 : decode cX3_isNoStretch 24 = .ok (.goto 4, 3) := by decide +kernel
theorem dX3_isNoStretch_27 : decode cX3_isNoStretch 27 = .ok (.iconst 0, 1) := by decide +kernel
theorem dX3_isNoStretch_28 : decode cX3_isNoStretch 28 = .ok (.ireturn, 1) := by decide +kernel
set_option maxRecDepth 20000 in
theorem ggX3_planAll_X3_planStretch : GoodIn wsX3_planAll wsX3_planStretch := goodIn_r _ [9, 3, 2, 10, 11, 12, 8, 13, 14, 15, 16, 17] (by decide +kernel) (by decide +kernel)
set_option maxRecDepth 20000 in
theorem gX3_planAll_X3_planStretch : GoodIn wsX3_planAll (wsV RX3 42 RX3 yX3_planStretch wsX3_planStretch) := goodIn_app (goodIn_of _ (by decide +kernel)) ggX3_planAll_X3_planStretch
theorem dX3_planAll_0 : decode cX3_planAll 0 = .ok (.aload_n 0, 1) := by decide +kernel
theorem dX3_planAll_1 : decode cX3_planAll 1 = .ok (.getfield 15, 3) := by decide +kernel
theorem dX3_planAll_4 : decode cX3_planAll 4 = .ok (.iconst 1, 1) := by decide +kernel
theorem dX3_planAll_5 : decode cX3_planAll 5 = .ok (.isub, 1) := by decide +kernel
theorem dX3_planAll_6 : decode cX3_planAll 6 = .ok (.istore_n 1, 1) := by decide +kernel
theorem dX3_planAll_7 : decode cX3_planAll 7 = .ok (.iload_n 1, 1) := by decide +kernel
theorem dX3_planAll_8 : decode cX3_planAll 8 = .ok (.ifCond .lt 68, 3) := by decide +kernel
theorem dX3_planAll_11 : decode cX3_planAll 11 = .ok (.aload_n 0, 1) := by decide +kernel
theorem dX3_planAll_12 : decode cX3_planAll 12 = .ok (.getfield 21, 3) := by decide +kernel
theorem dX3_planAll_15 : decode cX3_planAll 15 = .ok (.iload_n 1, 1) := by decide +kernel
theorem dX3_planAll_16 : decode cX3_planAll 16 = .ok (.aaload, 1) := by decide +kernel
theorem dX3_planAll_17 : decode cX3_planAll 17 = .ok (.iload_n 1, 1) := by decide +kernel
theorem dX3_planAll_18 : decode cX3_planAll 18 = .ok (.iconst 0, 1) := by decide +kernel
theorem dX3_planAll_19 : decode cX3_planAll 19 = .ok (.iastore, 1) := by decide +kernel
theorem dX3_planAll_20 : decode cX3_planAll 20 = .ok (.aload_n 0, 1) := by decide +kernel
theorem dX3_planAll_21 : decode cX3_planAll 21 = .ok (.getfield 24, 3) := by decide +kernel
theorem dX3_planAll_24 : decode cX3_planAll 24 = .ok (.iload_n 1, 1) := by decide +kernel
theorem dX3_planAll_25 : decode cX3_planAll 25 = .ok (.aaload, 1) := by decide +kernel
theorem dX3_planAll_26 : decode cX3_planAll 26 = .ok (.iload_n 1, 1) := by decide +kernel
theorem dX3_planAll_27 : decode cX3_planAll 27 = .ok (.iconst (-1), 1) := by decide +kernel
theorem dX3_planAll_28 : decode cX3_planAll 28 = .ok (.iastore, 1) := by decide +kernel
theorem dX3_planAll_29 : decode cX3_planAll 29 = .ok (.aload_n 0, 1) := by decide +kernel
theorem dX3_planAll_30 : decode cX3_planAll 30 = .ok (.getfield 11, 3) := by decide +kernel
theorem dX3_planAll_33 : decode cX3_planAll 33 = .ok (.iload_n 1, 1) := by decide +kernel
theorem dX3_planAll_34 : decode cX3_planAll 34 = .ok (.iaload, 1) := by decide +kernel
theorem dX3_planAll_35 : decode cX3_planAll 35 = .ok (.istore_n 2, 1) := by decide +kernel
theorem dX3_planAll_36 : decode cX3_planAll 36 = .ok (.iload_n 1, 1) := by decide +kernel
theorem dX3_planAll_37 : decode cX3_planAll 37 = .ok (.iconst 1, 1) := by decide +kernel
theorem dX3_planAll_38 : decode cX3_planAll 38 = .ok (.iadd, 1) := by decide +kernel
theorem dX3_planAll_39 : decode cX3_planAll 39 = .ok (.istore_n 3, 1) := by decide +kernel
theorem dX3_planAll_40 : decode cX3_planAll 40 = .ok (.iload_n 3, 1) := by decide +kernel
theorem dX3_planAll_41 : decode cX3_planAll 41 = .ok (.aload_n 0, 1) := by decide +kernel
theorem dX3_planAll_42 : decode cX3_planAll 42 = .ok (.getfield 15, 3) := by decide +kernel
theorem dX3_planAll_45 : decode cX3_planAll 45 = .ok (.if_icmp .ge 25, 3) := by decide +kernel
theorem dX3_planAll_48 : decode cX3_planAll 48 = .ok (.iload_n 2, 1) := by decide +kernel
theorem dX3_planAll_49 : decode cX3_planAll 49 = .ok (.aload_n 0, 1) := by decide +kernel
theorem dX3_planAll_50 : decode cX3_planAll 50 = .ok (.getfield 11, 3) := by decide +kernel
theorem dX3_planAll_53 : decode cX3_planAll 53 = .ok (.iload_n 3, 1) := by decide +kernel
theorem dX3_planAll_54 : decode cX3_planAll 54 = .ok (.iaload, 1) := by decide +kernel
theorem dX3_planAll_55 : decode cX3_planAll 55 = .ok (.iadd, 1) := by decide +kernel
theorem dX3_planAll_56 : decode cX3_planAll 56 = .ok (.istore_n 2, 1) := by decide +kernel
theorem dX3_planAll_57 : decode cX3_planAll 57 = .ok (.aload_n 0, 1) := by decide +kernel
theorem dX3_planAll_58 : decode cX3_planAll 58 = .ok (.iload_n 1, 1) := by decide +kernel
theorem dX3_planAll_59 : decode cX3_planAll 59 = .ok (.iload_n 3, 1) := by decide +kernel
theorem dX3_planAll_60 : decode cX3_planAll 60 = .ok (.iload_n 2, 1) := by decide +kernel
theorem dX3_planAll_61 : decode cX3_planAll 61 = .ok (.invokevirtual 42, 3) := by decide +kernel
theorem dX3_planAll_64 : decode cX3_planAll 64 = .ok (.iinc 3 1, 3) := by decide +kernel
theorem dX3_planAll_67 : decode cX3_planAll 67 = .ok (.goto (-27), 3) := by decide +kernel
theorem dX3_planAll_70 : decode cX3_planAll 70 = .ok (.iinc 1 (-1), 3) := by decide +kernel
theorem dX3_planAll_73 : decode cX3_planAll 73 = .ok (.goto (-66), 3) := by decide +kernel
theorem dX3_planAll_76 : decode cX3_planAll 76 = .ok (.return_, 1) := by decide +kernel
set_option maxRecDepth 20000 in
theorem ggX3_planStretch_X3_costOfParts : GoodIn wsX3_planStretch wsX3_costOfParts := goodIn_r _ [7, 2, 8, 9, 10, 11] (by decide +kernel) (by decide +kernel)
set_option maxRecDepth 20000 in
theorem gX3_planStretch_X3_costOfParts : GoodIn wsX3_planStretch (wsV RX3 46 RX3 yX3_costOfParts wsX3_costOfParts) := goodIn_app (goodIn_of _ (by decide +kernel)) ggX3_planStretch_X3_costOfParts
theorem dX3_planStretch_0 : decode cX3_planStretch 0 = .ok (.iload_n 1, 1) := by decide +kernel
theorem dX3_planStretch_1 : decode cX3_planStretch 1 = .ok (.iconst 1, 1) := by decide +kernel
theorem dX3_planStretch_2 : decode cX3_planStretch 2 = .ok (.iadd, 1) := by decide +kernel
theorem dX3_planStretch_3 : decode cX3_planStretch 3 = .ok (.istore 4, 2) := by decide +kernel
theorem dX3_planStretch_5 : decode cX3_planStretch 5 = .ok (.iload_n 1, 1) := by decide +kernel
theorem dX3_planStretch_6 : decode cX3_planStretch 6 = .ok (.iconst 2, 1) := by decide +kernel
theorem dX3_planStretch_7 : decode cX3_planStretch 7 = .ok (.iadd, 1) := by decide +kernel
theorem dX3_planStretch_8 : decode cX3_planStretch 8 = .ok (.istore 5, 2) := by decide +kernel
theorem dX3_planStretch_10 : decode cX3_planStretch 10 = .ok (.iload 5, 2) := by decide +kernel
theorem dX3_planStretch_12 : decode cX3_planStretch 12 = .ok (.iload_n 2, 1) := by decide +kernel
theorem dX3_planStretch_13 : decode cX3_planStretch 13 = .ok (.if_icmp .gt 32, 3) := by decide +kernel
theorem dX3_planStretch_16 : decode cX3_planStretch 16 = .ok (.aload_n 0, 1) := by decide +kernel
theorem dX3_planStretch_17 : decode cX3_planStretch 17 = .ok (.iload_n 1, 1) := by decide +kernel
theorem dX3_planStretch_18 : decode cX3_planStretch 18 = .ok (.iload 5, 2) := by decide +kernel
theorem dX3_planStretch_20 : decode cX3_planStretch 20 = .ok (.iload_n 2, 1) := by decide +kernel
theorem dX3_planStretch_21 : decode cX3_planStretch 21 = .ok (.invokevirtual 46, 3) := by decide +kernel
theorem dX3_planStretch_24 : decode cX3_planStretch 24 = .ok (.aload_n 0, 1) := by decide +kernel
theorem dX3_planStretch_25 : decode cX3_planStretch 25 = .ok (.iload_n 1, 1) := by decide +kernel
theorem dX3_planStretch_26 : decode cX3_planStretch 26 = .ok (.iload 4, 2) := by decide +kernel
theorem dX3_planStretch_28 : decode cX3_planStretch 28 = .ok (.iload_n 2, 1) := by decide +kernel
theorem dX3_planStretch_29 : decode cX3_planStretch 29 = .ok (.invokevirtual 46, 3) := by decide +kernel
theorem dX3_planStretch_32 : decode cX3_planStretch 32 = .ok (.if_icmp .ge 7, 3) := by decide +kernel
theorem dX3_planStretch_35 : decode cX3_planStretch 35 = .ok (.iload 5, 2) := by decide +kernel
theorem dX3_planStretch_37 : decode cX3_planStretch 37 = .ok (.istore 4, 2) := by decide +kernel
theorem dX3_planStretch_39 : decode cX3_planStretch 39 = .ok (.iinc 5 1, 3) := by decide +kernel
theorem dX3_planStretch_42 : decode cX3_planStretch 42 = .ok (.goto (-32), 3) := by decide +kernel
theorem dX3_planStretch_45 : decode cX3_planStretch 45 = .ok (.aload_n 0, 1) := by decide +kernel
theorem dX3_planStretch_46 : decode cX3_planStretch 46 = .ok (.getfield 24, 3) := by decide +kernel
theorem dX3_planStretch_49 : decode cX3_planStretch 49 = .ok (.iload_n 1, 1) := by decide +kernel
theorem dX3_planStretch_50 : decode cX3_planStretch 50 = .ok (.aaload, 1) := by decide +kernel
theorem dX3_planStretch_51 : decode cX3_planStretch 51 = .ok (.iload_n 2, 1) := by decide +kernel
theorem dX3_planStretch_52 : decode cX3_planStretch 52 = .ok (.iload 4, 2) := by decide +kernel
theorem dX3_planStretch_54 : decode cX3_planStretch 54 = .ok (.iastore, 1) := by decide +kernel
theorem dX3_planStretch_55 : decode cX3_planStretch 55 = .ok (.aload_n 0, 1) := by decide +kernel
theorem dX3_planStretch_56 : decode cX3_planStretch 56 = .ok (.getfield 21, 3) := by decide +kernel
theorem dX3_planStretch_59 : decode cX3_planStretch 59 = .ok (.iload_n 1, 1) := by decide +kernel
theorem dX3_planStretch_60 : decode cX3_planStretch 60 = .ok (.aaload, 1) := by decide +kernel
theorem dX3_planStretch_61 : decode cX3_planStretch 61 = .ok (.iload_n 2, 1) := by decide +kernel
theorem dX3_planStretch_62 : decode cX3_planStretch 62 = .ok (.iload_n 3, 1) := by decide +kernel
theorem dX3_planStretch_63 : decode cX3_planStretch 63 = .ok (.aload_n 0, 1) := by decide +kernel
theorem dX3_planStretch_64 : decode cX3_planStretch 64 = .ok (.iload_n 1, 1) := by decide +kernel
theorem dX3_planStretch_65 : decode cX3_planStretch 65 = .ok (.iload 4, 2) := by decide +kernel
theorem dX3_planStretch_67 : decode cX3_planStretch 67 = .ok (.iload_n 2, 1) := by decide +kernel
theorem dX3_planStretch_68 : decode cX3_planStretch 68 = .ok (.invokevirtual 46, 3) := by decide +kernel
theorem dX3_planStretch_71 : decode cX3_planStretch 71 = .ok (.iadd, 1) := by decide +kernel
theorem dX3_planStretch_72 : decode cX3_planStretch 72 = .ok (.iastore, 1) := by decide +kernel
theorem dX3_planStretch_73 : decode cX3_planStretch 73 = .ok (.return_, 1) := by decide +kernel
theorem dX3_costOfParts_0 : decode cX3_costOfParts 0 = .ok (.aload_n 0, 1) := by decide +kernel
theorem dX3_costOfParts_1 : decode cX3_costOfParts 1 = .ok (.getfield 21, 3) := by decide +kernel
theorem dX3_costOfParts_4 : decode cX3_costOfParts 4 = .ok (.iload_n 1, 1) := by decide +kernel
theorem dX3_costOfParts_5 : decode cX3_costOfParts 5 = .ok (.aaload, 1) := by decide +kernel
theorem dX3_costOfParts_6 : decode cX3_costOfParts 6 = .ok (.iload_n 2, 1) := by decide +kernel
theorem dX3_costOfParts_7 : decode cX3_costOfParts 7 = .ok (.iconst 1, 1) := by decide +kernel
theorem dX3_costOfParts_8 : decode cX3_costOfParts 8 = .ok (.isub, 1) := by decide +kernel
theorem dX3_costOfParts_9 : decode cX3_costOfParts 9 = .ok (.iaload, 1) := by decide +kernel
theorem dX3_costOfParts_10 : decode cX3_costOfParts 10 = .ok (.aload_n 0, 1) := by decide +kernel
theorem dX3_costOfParts_11 : decode cX3_costOfParts 11 = .ok (.getfield 21, 3) := by decide +kernel
theorem dX3_costOfParts_14 : decode cX3_costOfParts 14 = .ok (.iload_n 2, 1) := by decide +kernel
theorem dX3_costOfParts_15 : decode cX3_costOfParts 15 = .ok (.aaload, 1) := by decide +kernel
theorem dX3_costOfParts_16 : decode cX3_costOfParts 16 = .ok (.iload_n 3, 1) := by decide +kernel
theorem dX3_costOfParts_17 : decode cX3_costOfParts 17 = .ok (.iaload, 1) := by decide +kernel
theorem dX3_costOfParts_18 : decode cX3_costOfParts 18 = .ok (.iadd, 1) := by decide +kernel
theorem dX3_costOfParts_19 : decode cX3_costOfParts 19 = .ok (.ireturn, 1) := by decide +kernel
theorem dX4_init_0 : decode cX4_init 0 = .ok (.aload_n 0, 1) := by decide +kernel
theorem dX4_init_1 : decode cX4_init 1 = .ok (.invokespecial 3, 3) := by decide +kernel
theorem dX4_init_4 : decode cX4_init 4 = .ok (.aload_n 0, 1) := by decide +kernel
theorem dX4_init_5 : decode cX4_init 5 = .ok (.bipush 12, 2) := by decide +kernel
theorem dX4_init_7 : decode cX4_init 7 = .ok (.newarray .int, 2) := by decide +kernel
theorem dX4_init_9 : decode cX4_init 9 = .ok (.putfield 11, 3) := by decide +kernel
theorem dX4_init_12 : decode cX4_init 12 = .ok (.aload_n 0, 1) := by decide +kernel
theorem dX4_init_13 : decode cX4_init 13 = .ok (.bipush 12, 2) := by decide +kernel
theorem dX4_init_15 : decode cX4_init 15 = .ok (.newarray .int, 2) := by decide +kernel
theorem dX4_init_17 : decode cX4_init 17 = .ok (.putfield 15, 3) := by decide +kernel
theorem dX4_init_20 : decode cX4_init 20 = .ok (.aload_n 0, 1) := by decide +kernel
theorem dX4_init_21 : decode cX4_init 21 = .ok (.iconst 0, 1) := by decide +kernel
theorem dX4_init_22 : decode cX4_init 22 = .ok (.putfield 18, 3) := by decide +kernel
theorem dX4_init_25 : decode cX4_init 25 = .ok (.aload_n 0, 1) := by decide +kernel
theorem dX4_init_26 : decode cX4_init 26 = .ok (.bipush 8, 2) := by decide +kernel
theorem dX4_init_28 : decode cX4_init 28 = .ok (.newarray .int, 2) := by decide +kernel
theorem dX4_init_30 : decode cX4_init 30 = .ok (.putfield 24, 3) := by decide +kernel
theorem dX4_init_33 : decode cX4_init 33 = .ok (.aload_n 0, 1) := by decide +kernel
theorem dX4_init_34 : decode cX4_init 34 = .ok (.bipush 8, 2) := by decide +kernel
theorem dX4_init_36 : decode cX4_init 36 = .ok (.newarray .int, 2) := by decide +kernel
theorem dX4_init_38 : decode cX4_init 38 = .ok (.putfield 27, 3) := by decide +kernel
theorem dX4_init_41 : decode cX4_init 41 = .ok (.aload_n 0, 1) := by decide +kernel
theorem dX4_init_42 : decode cX4_init 42 = .ok (.bipush 8, 2) := by decide +kernel
theorem dX4_init_44 : decode cX4_init 44 = .ok (.newarray .int, 2) := by decide +kernel
theorem dX4_init_46 : decode cX4_init 46 = .ok (.putfield 30, 3) := by decide +kernel
theorem dX4_init_49 : decode cX4_init 49 = .ok (.aload_n 0, 1) := by decide +kernel
theorem dX4_init_50 : decode cX4_init 50 = .ok (.bipush 8, 2) := by decide +kernel
theorem dX4_init_52 : decode cX4_init 52 = .ok (.newarray .boolean, 2) := by decide +kernel
theorem dX4_init_54 : decode cX4_init 54 = .ok (.putfield 33, 3) := by decide +kernel
theorem dX4_init_57 : decode cX4_init 57 = .ok (.aload_n 0, 1) := by decide +kernel
theorem dX4_init_58 : decode cX4_init 58 = .ok (.aload_n 1, 1) := by decide +kernel
theorem dX4_init_59 : decode cX4_init 59 = .ok (.putfield 37, 3) := by decide +kernel
theorem dX4_init_62 : decode cX4_init 62 = .ok (.return_, 1) := by decide +kernel
theorem dX4_number_0 : decode cX4_number 0 = .ok (.aload_n 0, 1) := by decide +kernel
theorem dX4_number_1 : decode cX4_number 1 = .ok (.getfield 18, 3) := by decide +kernel
theorem dX4_number_4 : decode cX4_number 4 = .ok (.ireturn, 1) := by decide +kernel
set_option maxRecDepth 20000 in
theorem ggX4_add_X5_isNone : GoodIn wsX4_add wsX5_isNone := goodIn_r _ [9, 10, 11, 12, 13, 22, 23, 24, 25, 26, 27, 28] (by decide +kernel) (by decide +kernel)
set_option maxRecDepth 20000 in
theorem gX4_add_X5_isNone : GoodIn wsX4_add (wsV RX4 41 RX5 yX5_isNone wsX5_isNone) := goodIn_app (goodIn_of _ (by decide +kernel)) ggX4_add_X5_isNone
theorem dX4_add_0 : decode cX4_add 0 = .ok (.aload_n 0, 1) := by decide +kernel
theorem dX4_add_1 : decode cX4_add 1 = .ok (.getfield 37, 3) := by decide +kernel
theorem dX4_add_4 : decode cX4_add 4 = .ok (.iload_n 1, 1) := by decide +kernel
theorem dX4_add_5 : decode cX4_add 5 = .ok (.invokevirtual 41, 3) := by decide +kernel
theorem dX4_add_8 : decode cX4_add 8 = .ok (.ifCond .ne 19, 3) := by decide +kernel
theorem dX4_add_11 : decode cX4_add 11 = .ok (.aload_n 0, 1) := by decide +kernel
theorem dX4_add_12 : decode cX4_add 12 = .ok (.getfield 37, 3) := by decide +kernel
theorem dX4_add_15 : decode cX4_add 15 = .ok (.iload_n 2, 1) := by decide +kernel
theorem dX4_add_16 : decode cX4_add 16 = .ok (.invokevirtual 41, 3) := by decide +kernel
theorem dX4_add_19 : decode cX4_add 19 = .ok (.ifCond .ne 8, 3) := by decide +kernel
theorem dX4_add_22 : decode cX4_add 22 = .ok (.iload_n 1, 1) := by decide +kernel
theorem dX4_add_23 : decode cX4_add 23 = .ok (.iload_n 2, 1) := by decide +kernel
theorem dX4_add_24 : decode cX4_add 24 = .ok (.if_icmp .ne 6, 3) := by decide +kernel
theorem dX4_add_27 : decode cX4_add 27 = .ok (.bipush (-2), 2) := by decide +kernel
theorem dX4_add_29 : decode cX4_add 29 = .ok (.ireturn, 1) := by decide +kernel
theorem dX4_add_30 : decode cX4_add 30 = .ok (.aload_n 0, 1) := by decide +kernel
theorem dX4_add_31 : decode cX4_add 31 = .ok (.getfield 18, 3) := by decide +kernel
theorem dX4_add_34 : decode cX4_add 34 = .ok (.bipush 12, 2) := by decide +kernel
theorem dX4_add_36 : decode cX4_add 36 = .ok (.if_icmp .lt 6, 3) := by decide +kernel
theorem dX4_add_39 : decode cX4_add 39 = .ok (.bipush (-4), 2) := by decide +kernel
theorem dX4_add_41 : decode cX4_add 41 = .ok (.ireturn, 1) := by decide +kernel
theorem dX4_add_42 : decode cX4_add 42 = .ok (.aload_n 0, 1) := by decide +kernel
theorem dX4_add_43 : decode cX4_add 43 = .ok (.getfield 11, 3) := by decide +kernel
theorem dX4_add_46 : decode cX4_add 46 = .ok (.aload_n 0, 1) := by decide +kernel
theorem dX4_add_47 : decode cX4_add 47 = .ok (.getfield 18, 3) := by decide +kernel
theorem dX4_add_50 : decode cX4_add 50 = .ok (.iload_n 1, 1) := by decide +kernel
theorem dX4_add_51 : decode cX4_add 51 = .ok (.iastore, 1) := by decide +kernel
theorem dX4_add_52 : decode cX4_add 52 = .ok (.aload_n 0, 1) := by decide +kernel
theorem dX4_add_53 : decode cX4_add 53 = .ok (.getfield 15, 3) := by decide +kernel
theorem dX4_add_56 : decode cX4_add 56 = .ok (.aload_n 0, 1) := by decide +kernel
theorem dX4_add_57 : decode cX4_add 57 = .ok (.getfield 18, 3) := by decide +kernel
theorem dX4_add_60 : decode cX4_add 60 = .ok (.iload_n 2, 1) := by decide +kernel
theorem dX4_add_61 : decode cX4_add 61 = .ok (.iastore, 1) := by decide +kernel
theorem dX4_add_62 : decode cX4_add 62 = .ok (.aload_n 0, 1) := by decide +kernel
theorem dX4_add_63 : decode cX4_add 63 = .ok (.dup, 1) := by decide +kernel
theorem dX4_add_64 : decode cX4_add 64 = .ok (.getfield 18, 3) := by decide +kernel
theorem dX4_add_67 : decode cX4_add 67 = .ok (.iconst 1, 1) := by decide +kernel
theorem dX4_add_68 : decode cX4_add 68 = .ok (.iadd, 1) := by decide +kernel
theorem dX4_add_69 : decode cX4_add 69 = .ok (.putfield 18, 3) := by decide +kernel
theorem dX4_add_72 : decode cX4_add 72 = .ok (.aload_n 0, 1) := by decide +kernel
theorem dX4_add_73 : decode cX4_add 73 = .ok (.getfield 18, 3) := by decide +kernel
theorem dX4_add_76 : decode cX4_add 76 = .ok (.iconst 1, 1) := by decide +kernel
theorem dX4_add_77 : decode cX4_add 77 = .ok (.isub, 1) := by decide +kernel
theorem dX4_add_78 : decode cX4_add 78 = .ok (.ireturn, 1) := by decide +kernel
set_option maxRecDepth 20000 in
theorem ggX4_leastOfGroup_X5_isNone : GoodIn wsX4_leastOfGroup wsX5_isNone := goodIn_r _ [7, 8, 9, 10, 11, 51, 52, 53, 54, 55, 56, 57] (by decide +kernel) (by decide +kernel)
set_option maxRecDepth 20000 in
theorem gX4_leastOfGroup_X5_isNone : GoodIn wsX4_leastOfGroup (wsV RX4 41 RX5 yX5_isNone wsX5_isNone) := goodIn_app (goodIn_of _ (by decide +kernel)) ggX4_leastOfGroup_X5_isNone
set_option maxRecDepth 20000 in
theorem ggX4_leastOfGroup_X4_isNoSet : GoodIn wsX4_leastOfGroup wsX4_isNoSet := goodIn_r _ [16, 17, 18, 19, 15, 20, 21, 9, 10, 11, 43, 44, 45, 46, 47, 48, 49, 50] (by decide +kernel) (by decide +kernel)
set_option maxRecDepth 20000 in
theorem gX4_leastOfGroup_X4_isNoSet : GoodIn wsX4_leastOfGroup (wsV RX4 45 RX4 yX4_isNoSet wsX4_isNoSet) := goodIn_app (goodIn_of _ (by decide +kernel)) ggX4_leastOfGroup_X4_isNoSet
set_option maxRecDepth 20000 in
theorem ggX4_leastOfGroup_X4_putTogether : GoodIn wsX4_leastOfGroup wsX4_putTogether := goodIn_r _ [25, 1, 2, 21, 26, 27, 28, 29, 30, 6, 31, 8, 32, 33, 34, 15, 35, 36, 37, 38, 39, 40, 41, 42, 43, 44, 45, 46, 47, 48, 49, 50, 51, 52, 53, 54, 55, 56, 57] (by decide +kernel) (by decide +kernel)
set_option maxRecDepth 20000 in
theorem gX4_leastOfGroup_X4_putTogether : GoodIn wsX4_leastOfGroup (wsV RX4 48 RX4 yX4_putTogether wsX4_putTogether) := goodIn_app (goodIn_of _ (by decide +kernel)) ggX4_leastOfGroup_X4_putTogether
theorem dX4_leastOfGroup_0 : decode cX4_leastOfGroup 0 = .ok (.aload_n 0, 1) := by decide +kernel
theorem dX4_leastOfGroup_1 : decode cX4_leastOfGroup 1 = .ok (.getfield 37, 3) := by decide +kernel
theorem dX4_leastOfGroup_4 : decode cX4_leastOfGroup 4 = .ok (.iload_n 1, 1) := by decide +kernel
theorem dX4_leastOfGroup_5 : decode cX4_leastOfGroup 5 = .ok (.invokevirtual 41, 3) := by decide +kernel
theorem dX4_leastOfGroup_8 : decode cX4_leastOfGroup 8 = .ok (.ifCond .ne 11, 3) := by decide +kernel
theorem dX4_leastOfGroup_11 : decode cX4_leastOfGroup 11 = .ok (.aload_n 0, 1) := by decide +kernel
theorem dX4_leastOfGroup_12 : decode cX4_leastOfGroup 12 = .ok (.iload_n 2, 1) := by decide +kernel
theorem dX4_leastOfGroup_13 : decode cX4_leastOfGroup 13 = .ok (.invokevirtual 45, 3) := by decide +kernel
theorem dX4_leastOfGroup_16 : decode cX4_leastOfGroup 16 = .ok (.ifCond .eq 6, 3) := by decide +kernel
theorem dX4_leastOfGroup_19 : decode cX4_leastOfGroup 19 = .ok (.bipush (-2), 2) := by decide +kernel
theorem dX4_leastOfGroup_21 : decode cX4_leastOfGroup 21 = .ok (.ireturn, 1) := by decide +kernel
theorem dX4_leastOfGroup_22 : decode cX4_leastOfGroup 22 = .ok (.aload_n 0, 1) := by decide +kernel
theorem dX4_leastOfGroup_23 : decode cX4_leastOfGroup 23 = .ok (.iload_n 2, 1) := by decide +kernel
theorem dX4_leastOfGroup_24 : decode cX4_leastOfGroup 24 = .ok (.invokevirtual 48, 3) := by decide +kernel
theorem dX4_leastOfGroup_27 : decode cX4_leastOfGroup 27 = .ok (.aload_n 0, 1) := by decide +kernel
theorem dX4_leastOfGroup_28 : decode cX4_leastOfGroup 28 = .ok (.getfield 27, 3) := by decide +kernel
theorem dX4_leastOfGroup_31 : decode cX4_leastOfGroup 31 = .ok (.iload_n 1, 1) := by decide +kernel
theorem dX4_leastOfGroup_32 : decode cX4_leastOfGroup 32 = .ok (.iaload, 1) := by decide +kernel
theorem dX4_leastOfGroup_33 : decode cX4_leastOfGroup 33 = .ok (.ireturn, 1) := by decide +kernel
set_option maxRecDepth 20000 in
theorem ggX4_answerExplains_X4_isNoSet : GoodIn wsX4_answerExplains wsX4_isNoSet := goodIn_r _ [5, 6, 7, 8, 4, 9, 10, 11, 12, 13, 86, 87, 88, 89, 90, 91, 92, 93] (by decide +kernel) (by decide +kernel)
set_option maxRecDepth 20000 in
theorem gX4_answerExplains_X4_isNoSet : GoodIn wsX4_answerExplains (wsV RX4 45 RX4 yX4_isNoSet wsX4_isNoSet) := goodIn_app (goodIn_of _ (by decide +kernel)) ggX4_answerExplains_X4_isNoSet
set_option maxRecDepth 20000 in
theorem ggX4_answerExplains_X4_reckonLeaks : GoodIn wsX4_answerExplains wsX4_reckonLeaks := goodIn_r _ [17, 18, 19, 20, 21, 22, 23, 24, 25, 26, 27, 28, 29, 30, 31, 32, 33, 34, 35, 36, 37, 11, 12, 13, 38, 39, 40, 41, 42, 43, 44, 45, 46, 47, 48, 49, 50, 51, 52, 53, 54, 55, 56, 57, 58, 59, 60, 86, 87, 88, 89, 90, 91, 92, 93, 94, 95, 96, 97, 98, 99, 100] (by decide +kernel) (by decide +kernel)
set_option maxRecDepth 20000 in
theorem gX4_answerExplains_X4_reckonLeaks : GoodIn wsX4_answerExplains (wsV RX4 52 RX4 yX4_reckonLeaks wsX4_reckonLeaks) := goodIn_app (goodIn_of _ (by decide +kernel)) ggX4_answerExplains_X4_reckonLeaks
set_option maxRecDepth 20000 in
theorem ggX4_answerExplains_X4_isExplained : GoodIn wsX4_answerExplains wsX4_isExplained := goodIn_r _ [64, 18, 65, 66, 19, 67, 68, 69, 70, 71, 4, 72, 10, 73, 74, 20, 21, 22, 23, 24, 25, 75, 76, 77, 78, 79, 80, 81, 82, 83, 84, 85, 86, 87, 88, 89, 90, 91, 92, 93, 94, 95, 96, 97, 98, 99, 100] (by decide +kernel) (by decide +kernel)
set_option maxRecDepth 20000 in
theorem gX4_answerExplains_X4_isExplained : GoodIn wsX4_answerExplains (wsV RX4 55 RX4 yX4_isExplained wsX4_isExplained) := goodIn_app (goodIn_of _ (by decide +kernel)) ggX4_answerExplains_X4_isExplained
theorem dX4_answerExplains_0 : decode cX4_answerExplains 0 = .ok (.aload_n 0, 1) := by decide +kernel
theorem dX4_answerExplains_1 : decode cX4_answerExplains 1 = .ok (.iload_n 1, 1) := by decide +kernel
theorem dX4_answerExplains_2 : decode cX4_answerExplains 2 = .ok (.invokevirtual 45, 3) := by decide +kernel
theorem dX4_answerExplains_5 : decode cX4_answerExplains 5 = .ok (.ifCond .eq 6, 3) := by decide +kernel
theorem dX4_answerExplains_8 : decode cX4_answerExplains 8 = .ok (.bipush (-2), 2) := by decide +kernel
theorem dX4_answerExplains_10 : decode cX4_answerExplains 10 = .ok (.ireturn, 1) := by decide +kernel
theorem dX4_answerExplains_11 : decode cX4_answerExplains 11 = .ok (.aload_n 0, 1) := by decide +kernel
theorem dX4_answerExplains_12 : decode cX4_answerExplains 12 = .ok (.invokevirtual 52, 3) := by decide +kernel
theorem dX4_answerExplains_15 : decode cX4_answerExplains 15 = .ok (.aload_n 0, 1) := by decide +kernel
theorem dX4_answerExplains_16 : decode cX4_answerExplains 16 = .ok (.iload_n 1, 1) := by decide +kernel
theorem dX4_answerExplains_17 : decode cX4_answerExplains 17 = .ok (.invokevirtual 55, 3) := by decide +kernel
theorem dX4_answerExplains_20 : decode cX4_answerExplains 20 = .ok (.ifCond .eq 7, 3) := by decide +kernel
theorem dX4_answerExplains_23 : decode cX4_answerExplains 23 = .ok (.iconst 1, 1) := by decide +kernel
theorem dX4_answerExplains_24 : decode cX4_answerExplains 24 = .ok (.goto 4, 3) := by decide +kernel
theorem dX4_answerExplains_27 : decode cX4_answerExplains 27 = .ok (.iconst 0, 1) := by decide +kernel
theorem dX4_answerExplains_28 : decode cX4_answerExplains 28 = .ok (.ireturn, 1) := by decide +kernel
set_option maxRecDepth 20000 in
theorem ggX4_fewestSet_X4_reckonLeaks : GoodIn wsX4_fewestSet wsX4_reckonLeaks := goodIn_r _ [5, 6, 7, 8, 9, 10, 11, 12, 13, 14, 15, 16, 17, 18, 19, 20, 21, 22, 23, 24, 25, 26, 27, 28, 29, 30, 31, 32, 33, 34, 35, 36, 37, 38, 39, 40, 41, 42, 43, 44, 45, 46, 47, 48, 49, 50, 51, 89, 90, 91, 92, 93, 94, 95, 96, 97, 98, 99, 100, 101, 102, 103] (by decide +kernel) (by decide +kernel)
set_option maxRecDepth 20000 in
theorem gX4_fewestSet_X4_reckonLeaks : GoodIn wsX4_fewestSet (wsV RX4 52 RX4 yX4_reckonLeaks wsX4_reckonLeaks) := goodIn_app (goodIn_of _ (by decide +kernel)) ggX4_fewestSet_X4_reckonLeaks
set_option maxRecDepth 20000 in
theorem ggX4_fewestSet_X4_allValves : GoodIn wsX4_fewestSet wsX4_allValves := goodIn_r _ [55, 56, 89, 90, 91, 92, 93, 94, 95, 96] (by decide +kernel) (by decide +kernel)
set_option maxRecDepth 20000 in
theorem gX4_fewestSet_X4_allValves : GoodIn wsX4_fewestSet (wsV RX4 58 RX4 yX4_allValves wsX4_allValves) := goodIn_app (goodIn_of _ (by decide +kernel)) ggX4_fewestSet_X4_allValves
set_option maxRecDepth 20000 in
theorem ggX4_fewestSet_X4_isExplained : GoodIn wsX4_fewestSet wsX4_isExplained := goodIn_r _ [60, 6, 61, 62, 7, 63, 64, 65, 66, 67, 4, 68, 56, 69, 70, 8, 9, 10, 11, 12, 13, 71, 72, 73, 74, 75, 76, 77, 78, 79, 80, 81, 89, 90, 91, 92, 93, 94, 95, 96, 97, 98, 99, 100, 101, 102, 103] (by decide +kernel) (by decide +kernel)
set_option maxRecDepth 20000 in
theorem gX4_fewestSet_X4_isExplained : GoodIn wsX4_fewestSet (wsV RX4 55 RX4 yX4_isExplained wsX4_isExplained) := goodIn_app (goodIn_of _ (by decide +kernel)) ggX4_fewestSet_X4_isExplained
set_option maxRecDepth 20000 in
theorem ggX4_fewestSet_J6_bitCount_0f7a4 : GoodIn wsX4_fewestSet wsJ6_bitCount_0f7a4 := goodIn_r _ [85, 86, 87, 88] (by decide +kernel) (by decide +kernel)
set_option maxRecDepth 20000 in
theorem gX4_fewestSet_J6_bitCount_0f7a4 : GoodIn wsX4_fewestSet (va_wsS RX4 62 yJ6_bitCount_0f7a4 wsJ6_bitCount_0f7a4) := goodIn_app (goodIn_of _ (by decide +kernel)) ggX4_fewestSet_J6_bitCount_0f7a4
theorem dX4_fewestSet_0 : decode cX4_fewestSet 0 = .ok (.aload_n 0, 1) := by decide +kernel
theorem dX4_fewestSet_1 : decode cX4_fewestSet 1 = .ok (.invokevirtual 52, 3) := by decide +kernel
theorem dX4_fewestSet_4 : decode cX4_fewestSet 4 = .ok (.aload_n 0, 1) := by decide +kernel
theorem dX4_fewestSet_5 : decode cX4_fewestSet 5 = .ok (.invokevirtual 58, 3) := by decide +kernel
theorem dX4_fewestSet_8 : decode cX4_fewestSet 8 = .ok (.istore_n 1, 1) := by decide +kernel
theorem dX4_fewestSet_9 : decode cX4_fewestSet 9 = .ok (.aload_n 0, 1) := by decide +kernel
theorem dX4_fewestSet_10 : decode cX4_fewestSet 10 = .ok (.iload_n 1, 1) := by decide +kernel
theorem dX4_fewestSet_11 : decode cX4_fewestSet 11 = .ok (.invokevirtual 55, 3) := by decide +kernel
theorem dX4_fewestSet_14 : decode cX4_fewestSet 14 = .ok (.ifCond .ne 5, 3) := by decide +kernel
theorem dX4_fewestSet_17 : decode cX4_fewestSet 17 = .ok (.iconst (-1), 1) := by decide +kernel
theorem dX4_fewestSet_18 : decode cX4_fewestSet 18 = .ok (.ireturn, 1) := by decide +kernel
theorem dX4_fewestSet_19 : decode cX4_fewestSet 19 = .ok (.iload_n 1, 1) := by decide +kernel
theorem dX4_fewestSet_20 : decode cX4_fewestSet 20 = .ok (.istore_n 2, 1) := by decide +kernel
theorem dX4_fewestSet_21 : decode cX4_fewestSet 21 = .ok (.iconst 0, 1) := by decide +kernel
theorem dX4_fewestSet_22 : decode cX4_fewestSet 22 = .ok (.istore_n 3, 1) := by decide +kernel
theorem dX4_fewestSet_23 : decode cX4_fewestSet 23 = .ok (.iload_n 3, 1) := by decide +kernel
theorem dX4_fewestSet_24 : decode cX4_fewestSet 24 = .ok (.iload_n 1, 1) := by decide +kernel
theorem dX4_fewestSet_25 : decode cX4_fewestSet 25 = .ok (.if_icmp .ge 30, 3) := by decide +kernel
theorem dX4_fewestSet_28 : decode cX4_fewestSet 28 = .ok (.iload_n 3, 1) := by decide +kernel
theorem dX4_fewestSet_29 : decode cX4_fewestSet 29 = .ok (.invokestatic 62, 3) := by decide +kernel
theorem dX4_fewestSet_32 : decode cX4_fewestSet 32 = .ok (.iload_n 2, 1) := by decide +kernel
theorem dX4_fewestSet_33 : decode cX4_fewestSet 33 = .ok (.invokestatic 62, 3) := by decide +kernel
theorem dX4_fewestSet_36 : decode cX4_fewestSet 36 = .ok (.if_icmp .ge 13, 3) := by decide +kernel
theorem dX4_fewestSet_39 : decode cX4_fewestSet 39 = .ok (.aload_n 0, 1) := by decide +kernel
theorem dX4_fewestSet_40 : decode cX4_fewestSet 40 = .ok (.iload_n 3, 1) := by decide +kernel
theorem dX4_fewestSet_41 : decode cX4_fewestSet 41 = .ok (.invokevirtual 55, 3) := by decide +kernel
theorem dX4_fewestSet_44 : decode cX4_fewestSet 44 = .ok (.ifCond .eq 5, 3) := by decide +kernel
theorem dX4_fewestSet_47 : decode cX4_fewestSet 47 = .ok (.iload_n 3, 1) := by decide +kernel
theorem dX4_fewestSet_48 : decode cX4_fewestSet 48 = .ok (.istore_n 2, 1) := by decide +kernel
theorem dX4_fewestSet_49 : decode cX4_fewestSet 49 = .ok (.iinc 3 1, 3) := by decide +kernel
theorem dX4_fewestSet_52 : decode cX4_fewestSet 52 = .ok (.goto (-29), 3) := by decide +kernel
theorem dX4_fewestSet_55 : decode cX4_fewestSet 55 = .ok (.iload_n 2, 1) := by decide +kernel
theorem dX4_fewestSet_56 : decode cX4_fewestSet 56 = .ok (.ireturn, 1) := by decide +kernel
set_option maxRecDepth 20000 in
theorem ggX4_mixInto_X6_mix : GoodIn wsX4_mixInto wsX6_mix := goodIn_r _ [6, 7] (by decide +kernel) (by decide +kernel)
set_option maxRecDepth 20000 in
theorem gX4_mixInto_X6_mix_n68 : GoodIn wsX4_mixInto (wsX6_mix) := ggX4_mixInto_X6_mix
theorem dX4_mixInto_0 : decode cX4_mixInto 0 = .ok (.lload_n 1, 1) := by decide +kernel
theorem dX4_mixInto_1 : decode cX4_mixInto 1 = .ok (.lstore_n 3, 1) := by decide +kernel
theorem dX4_mixInto_2 : decode cX4_mixInto 2 = .ok (.iconst 0, 1) := by decide +kernel
theorem dX4_mixInto_3 : decode cX4_mixInto 3 = .ok (.istore 5, 2) := by decide +kernel
theorem dX4_mixInto_5 : decode cX4_mixInto 5 = .ok (.iload 5, 2) := by decide +kernel
theorem dX4_mixInto_7 : decode cX4_mixInto 7 = .ok (.aload_n 0, 1) := by decide +kernel
theorem dX4_mixInto_8 : decode cX4_mixInto 8 = .ok (.getfield 18, 3) := by decide +kernel
theorem dX4_mixInto_11 : decode cX4_mixInto 11 = .ok (.if_icmp .ge 33, 3) := by decide +kernel
theorem dX4_mixInto_14 : decode cX4_mixInto 14 = .ok (.lload_n 3, 1) := by decide +kernel
theorem dX4_mixInto_15 : decode cX4_mixInto 15 = .ok (.aload_n 0, 1) := by decide +kernel
theorem dX4_mixInto_16 : decode cX4_mixInto 16 = .ok (.getfield 11, 3) := by decide +kernel
theorem dX4_mixInto_19 : decode cX4_mixInto 19 = .ok (.iload 5, 2) := by decide +kernel
theorem dX4_mixInto_21 : decode cX4_mixInto 21 = .ok (.iaload, 1) := by decide +kernel
theorem dX4_mixInto_22 : decode cX4_mixInto 22 = .ok (.invokestatic 68, 3) := by decide +kernel
theorem dX4_mixInto_25 : decode cX4_mixInto 25 = .ok (.lstore_n 3, 1) := by decide +kernel
theorem dX4_mixInto_26 : decode cX4_mixInto 26 = .ok (.lload_n 3, 1) := by decide +kernel
theorem dX4_mixInto_27 : decode cX4_mixInto 27 = .ok (.aload_n 0, 1) := by decide +kernel
theorem dX4_mixInto_28 : decode cX4_mixInto 28 = .ok (.getfield 15, 3) := by decide +kernel
theorem dX4_mixInto_31 : decode cX4_mixInto 31 = .ok (.iload 5, 2) := by decide +kernel
theorem dX4_mixInto_33 : decode cX4_mixInto 33 = .ok (.iaload, 1) := by decide +kernel
theorem dX4_mixInto_34 : decode cX4_mixInto 34 = .ok (.invokestatic 68, 3) := by decide +kernel
theorem dX4_mixInto_37 : decode cX4_mixInto 37 = .ok (.lstore_n 3, 1) := by decide +kernel
theorem dX4_mixInto_38 : decode cX4_mixInto 38 = .ok (.iinc 5 1, 3) := by decide +kernel
theorem dX4_mixInto_41 : decode cX4_mixInto 41 = .ok (.goto (-36), 3) := by decide +kernel
theorem dX4_mixInto_44 : decode cX4_mixInto 44 = .ok (.lload_n 3, 1) := by decide +kernel
theorem dX4_mixInto_45 : decode cX4_mixInto 45 = .ok (.lreturn, 1) := by decide +kernel
theorem dX4_allValves_0 : decode cX4_allValves 0 = .ok (.iconst 1, 1) := by decide +kernel
theorem dX4_allValves_1 : decode cX4_allValves 1 = .ok (.aload_n 0, 1) := by decide +kernel
theorem dX4_allValves_2 : decode cX4_allValves 2 = .ok (.getfield 18, 3) := by decide +kernel
theorem dX4_allValves_5 : decode cX4_allValves 5 = .ok (.ishl, 1) := by decide +kernel
theorem dX4_allValves_6 : decode cX4_allValves 6 = .ok (.iconst 1, 1) := by decide +kernel
theorem dX4_allValves_7 : decode cX4_allValves 7 = .ok (.isub, 1) := by decide +kernel
theorem dX4_allValves_8 : decode cX4_allValves 8 = .ok (.ireturn, 1) := by decide +kernel
set_option maxRecDepth 20000 in
theorem ggX4_isNoSet_X4_allValves : GoodIn wsX4_isNoSet wsX4_allValves := goodIn_r _ [5, 6, 10, 11, 12, 13, 14, 15, 16, 17] (by decide +kernel) (by decide +kernel)
set_option maxRecDepth 20000 in
theorem gX4_isNoSet_X4_allValves : GoodIn wsX4_isNoSet (wsV RX4 58 RX4 yX4_allValves wsX4_allValves) := goodIn_app (goodIn_of _ (by decide +kernel)) ggX4_isNoSet_X4_allValves
set_option maxRecDepth 20000 in
theorem ggX4_isNoSet_X6_outside : GoodIn wsX4_isNoSet wsX6_outside := goodIn_r _ [9] (by decide +kernel) (by decide +kernel)
set_option maxRecDepth 20000 in
theorem gX4_isNoSet_X6_outside_n72 : GoodIn wsX4_isNoSet (wsX6_outside) := ggX4_isNoSet_X6_outside
theorem dX4_isNoSet_0 : decode cX4_isNoSet 0 = .ok (.iload_n 1, 1) := by decide +kernel
theorem dX4_isNoSet_1 : decode cX4_isNoSet 1 = .ok (.iconst 0, 1) := by decide +kernel
theorem dX4_isNoSet_2 : decode cX4_isNoSet 2 = .ok (.aload_n 0, 1) := by decide +kernel
theorem dX4_isNoSet_3 : decode cX4_isNoSet 3 = .ok (.invokevirtual 58, 3) := by decide +kernel
theorem dX4_isNoSet_6 : decode cX4_isNoSet 6 = .ok (.invokestatic 72, 3) := by decide +kernel
theorem dX4_isNoSet_9 : decode cX4_isNoSet 9 = .ok (.ireturn, 1) := by decide +kernel
set_option maxRecDepth 20000 in
theorem ggX4_reckonLeaks_X5_number : GoodIn wsX4_reckonLeaks wsX5_number := goodIn_r _ [7, 8, 55, 56, 57, 58, 59, 60, 61] (by decide +kernel) (by decide +kernel)
end
section
set_option maxRecDepth 20000 in
theorem gX4_reckonLeaks_X5_number : GoodIn wsX4_reckonLeaks (wsV RX4 76 RX5 yX5_number wsX5_number) := goodIn_app (goodIn_of _ (by decide +kernel)) ggX4_reckonLeaks_X5_number
set_option maxRecDepth 20000 in
theorem ggX4_reckonLeaks_X5_leak : GoodIn wsX4_reckonLeaks wsX5_leak := goodIn_r _ [12, 13, 14, 15, 16, 17, 18, 19, 6, 20, 8, 21, 22, 23, 24, 25, 26, 27, 28, 29, 30, 31, 32, 33, 34, 35, 36, 37, 38, 39, 40, 41, 42, 43, 44, 45, 46, 55, 56, 57, 58, 59, 60, 61] (by decide +kernel) (by decide +kernel)
set_option maxRecDepth 20000 in
theorem gX4_reckonLeaks_X5_leak : GoodIn wsX4_reckonLeaks (wsV RX4 79 RX5 yX5_leak wsX5_leak) := goodIn_app (goodIn_of _ (by decide +kernel)) ggX4_reckonLeaks_X5_leak
theorem dX4_reckonLeaks_0 : decode cX4_reckonLeaks 0 = .ok (.iconst 0, 1) := by decide +kernel
theorem dX4_reckonLeaks_1 : decode cX4_reckonLeaks 1 = .ok (.istore_n 1, 1) := by decide +kernel
theorem dX4_reckonLeaks_2 : decode cX4_reckonLeaks 2 = .ok (.iload_n 1, 1) := by decide +kernel
theorem dX4_reckonLeaks_3 : decode cX4_reckonLeaks 3 = .ok (.aload_n 0, 1) := by decide +kernel
theorem dX4_reckonLeaks_4 : decode cX4_reckonLeaks 4 = .ok (.getfield 37, 3) := by decide +kernel
theorem dX4_reckonLeaks_7 : decode cX4_reckonLeaks 7 = .ok (.invokevirtual 76, 3) := by decide +kernel
theorem dX4_reckonLeaks_10 : decode cX4_reckonLeaks 10 = .ok (.if_icmp .ge 24, 3) := by decide +kernel
theorem dX4_reckonLeaks_13 : decode cX4_reckonLeaks 13 = .ok (.aload_n 0, 1) := by decide +kernel
theorem dX4_reckonLeaks_14 : decode cX4_reckonLeaks 14 = .ok (.getfield 24, 3) := by decide +kernel
theorem dX4_reckonLeaks_17 : decode cX4_reckonLeaks 17 = .ok (.iload_n 1, 1) := by decide +kernel
theorem dX4_reckonLeaks_18 : decode cX4_reckonLeaks 18 = .ok (.aload_n 0, 1) := by decide +kernel
theorem dX4_reckonLeaks_19 : decode cX4_reckonLeaks 19 = .ok (.getfield 37, 3) := by decide +kernel
theorem dX4_reckonLeaks_22 : decode cX4_reckonLeaks 22 = .ok (.iload_n 1, 1) := by decide +kernel
theorem dX4_reckonLeaks_23 : decode cX4_reckonLeaks 23 = .ok (.iconst 1, 1) := by decide +kernel
theorem dX4_reckonLeaks_24 : decode cX4_reckonLeaks 24 = .ok (.invokevirtual 79, 3) := by decide +kernel
theorem dX4_reckonLeaks_27 : decode cX4_reckonLeaks 27 = .ok (.iastore, 1) := by decide +kernel
theorem dX4_reckonLeaks_28 : decode cX4_reckonLeaks 28 = .ok (.iinc 1 1, 3) := by decide +kernel
theorem dX4_reckonLeaks_31 : decode cX4_reckonLeaks 31 = .ok (.goto (-29), 3) := by decide +kernel
theorem dX4_reckonLeaks_34 : decode cX4_reckonLeaks 34 = .ok (.return_, 1) := by decide +kernel
set_option maxRecDepth 20000 in
theorem ggX4_isExplained_X4_putTogether : GoodIn wsX4_isExplained wsX4_putTogether := goodIn_r _ [11, 1, 6, 12, 13, 14, 15, 16, 17, 18, 19, 20, 21, 22, 23, 10, 24, 25, 26, 27, 28, 29, 30, 31, 32, 33, 34, 35, 36, 37, 38, 39, 40, 41, 42, 43, 44, 45, 46] (by decide +kernel) (by decide +kernel)
set_option maxRecDepth 20000 in
theorem gX4_isExplained_X4_putTogether : GoodIn wsX4_isExplained (wsV RX4 48 RX4 yX4_putTogether wsX4_putTogether) := goodIn_app (goodIn_of _ (by decide +kernel)) ggX4_isExplained_X4_putTogether
set_option maxRecDepth 20000 in
theorem ggX4_isExplained_X5_number : GoodIn wsX4_isExplained wsX5_number := goodIn_r _ [19, 20, 40, 41, 42, 43, 44, 45, 46] (by decide +kernel) (by decide +kernel)
set_option maxRecDepth 20000 in
theorem gX4_isExplained_X5_number : GoodIn wsX4_isExplained (wsV RX4 76 RX5 yX5_number wsX5_number) := goodIn_app (goodIn_of _ (by decide +kernel)) ggX4_isExplained_X5_number
theorem dX4_isExplained_0 : decode cX4_isExplained 0 = .ok (.aload_n 0, 1) := by decide +kernel
theorem dX4_isExplained_1 : decode cX4_isExplained 1 = .ok (.iload_n 1, 1) := by decide +kernel
theorem dX4_isExplained_2 : decode cX4_isExplained 2 = .ok (.invokevirtual 48, 3) := by decide +kernel
theorem dX4_isExplained_5 : decode cX4_isExplained 5 = .ok (.aload_n 0, 1) := by decide +kernel
theorem dX4_isExplained_6 : decode cX4_isExplained 6 = .ok (.getfield 37, 3) := by decide +kernel
theorem dX4_isExplained_9 : decode cX4_isExplained 9 = .ok (.invokevirtual 76, 3) := by decide +kernel
theorem dX4_isExplained_12 : decode cX4_isExplained 12 = .ok (.istore_n 2, 1) := by decide +kernel
theorem dX4_isExplained_13 : decode cX4_isExplained 13 = .ok (.iconst 0, 1) := by decide +kernel
theorem dX4_isExplained_14 : decode cX4_isExplained 14 = .ok (.istore_n 3, 1) := by decide +kernel
theorem dX4_isExplained_15 : decode cX4_isExplained 15 = .ok (.iload_n 3, 1) := by decide +kernel
theorem dX4_isExplained_16 : decode cX4_isExplained 16 = .ok (.iload_n 2, 1) := by decide +kernel
theorem dX4_isExplained_17 : decode cX4_isExplained 17 = .ok (.if_icmp .ge 23, 3) := by decide +kernel
theorem dX4_isExplained_20 : decode cX4_isExplained 20 = .ok (.aload_n 0, 1) := by decide +kernel
theorem dX4_isExplained_21 : decode cX4_isExplained 21 = .ok (.getfield 30, 3) := by decide +kernel
theorem dX4_isExplained_24 : decode cX4_isExplained 24 = .ok (.iload_n 3, 1) := by decide +kernel
theorem dX4_isExplained_25 : decode cX4_isExplained 25 = .ok (.iconst 0, 1) := by decide +kernel
theorem dX4_isExplained_26 : decode cX4_isExplained 26 = .ok (.iastore, 1) := by decide +kernel
theorem dX4_isExplained_27 : decode cX4_isExplained 27 = .ok (.aload_n 0, 1) := by decide +kernel
theorem dX4_isExplained_28 : decode cX4_isExplained 28 = .ok (.getfield 33, 3) := by decide +kernel
theorem dX4_isExplained_31 : decode cX4_isExplained 31 = .ok (.iload_n 3, 1) := by decide +kernel
theorem dX4_isExplained_32 : decode cX4_isExplained 32 = .ok (.iconst 0, 1) := by decide +kernel
theorem dX4_isExplained_33 : decode cX4_isExplained 33 = .ok (.bastore, 1) := by decide +kernel
theorem dX4_isExplained_34 : decode cX4_isExplained 34 = .ok (.iinc 3 1, 3) := by decide +kernel
theorem dX4_isExplained_37 : decode cX4_isExplained 37 = .ok (.goto (-22), 3) := by decide +kernel
theorem dX4_isExplained_40 : decode cX4_isExplained 40 = .ok (.iconst 0, 1) := by decide +kernel
theorem dX4_isExplained_41 : decode cX4_isExplained 41 = .ok (.istore_n 3, 1) := by decide +kernel
theorem dX4_isExplained_42 : decode cX4_isExplained 42 = .ok (.iload_n 3, 1) := by decide +kernel
theorem dX4_isExplained_43 : decode cX4_isExplained 43 = .ok (.iload_n 2, 1) := by decide +kernel
theorem dX4_isExplained_44 : decode cX4_isExplained 44 = .ok (.if_icmp .ge 55, 3) := by decide +kernel
theorem dX4_isExplained_47 : decode cX4_isExplained 47 = .ok (.aload_n 0, 1) := by decide +kernel
theorem dX4_isExplained_48 : decode cX4_isExplained 48 = .ok (.getfield 24, 3) := by decide +kernel
theorem dX4_isExplained_51 : decode cX4_isExplained 51 = .ok (.iload_n 3, 1) := by decide +kernel
theorem dX4_isExplained_52 : decode cX4_isExplained 52 = .ok (.iaload, 1) := by decide +kernel
theorem dX4_isExplained_53 : decode cX4_isExplained 53 = .ok (.ldc 83, 2) := by decide +kernel
theorem dX4_isExplained_55 : decode cX4_isExplained 55 = .ok (.if_icmp .ne 18, 3) := by decide +kernel
theorem dX4_isExplained_58 : decode cX4_isExplained 58 = .ok (.aload_n 0, 1) := by decide +kernel
theorem dX4_isExplained_59 : decode cX4_isExplained 59 = .ok (.getfield 33, 3) := by decide +kernel
theorem dX4_isExplained_62 : decode cX4_isExplained 62 = .ok (.aload_n 0, 1) := by decide +kernel
theorem dX4_isExplained_63 : decode cX4_isExplained 63 = .ok (.getfield 27, 3) := by decide +kernel
theorem dX4_isExplained_66 : decode cX4_isExplained 66 = .ok (.iload_n 3, 1) := by decide +kernel
theorem dX4_isExplained_67 : decode cX4_isExplained 67 = .ok (.iaload, 1) := by decide +kernel
theorem dX4_isExplained_68 : decode cX4_isExplained 68 = .ok (.iconst 1, 1) := by decide +kernel
theorem dX4_isExplained_69 : decode cX4_isExplained 69 = .ok (.bastore, 1) := by decide +kernel
theorem dX4_isExplained_70 : decode cX4_isExplained 70 = .ok (.goto 23, 3) := by decide +kernel
theorem dX4_isExplained_73 : decode cX4_isExplained 73 = .ok (.aload_n 0, 1) := by decide +kernel
theorem dX4_isExplained_74 : decode cX4_isExplained 74 = .ok (.getfield 30, 3) := by decide +kernel
theorem dX4_isExplained_77 : decode cX4_isExplained 77 = .ok (.aload_n 0, 1) := by decide +kernel
theorem dX4_isExplained_78 : decode cX4_isExplained 78 = .ok (.getfield 27, 3) := by decide +kernel
theorem dX4_isExplained_81 : decode cX4_isExplained 81 = .ok (.iload_n 3, 1) := by decide +kernel
theorem dX4_isExplained_82 : decode cX4_isExplained 82 = .ok (.iaload, 1) := by decide +kernel
theorem dX4_isExplained_83 : decode cX4_isExplained 83 = .ok (.dup2, 1) := by decide +kernel
theorem dX4_isExplained_84 : decode cX4_isExplained 84 = .ok (.iaload, 1) := by decide +kernel
theorem dX4_isExplained_85 : decode cX4_isExplained 85 = .ok (.aload_n 0, 1) := by decide +kernel
theorem dX4_isExplained_86 : decode cX4_isExplained 86 = .ok (.getfield 24, 3) := by decide +kernel
theorem dX4_isExplained_89 : decode cX4_isExplained 89 = .ok (.iload_n 3, 1) := by decide +kernel
theorem dX4_isExplained_90 : decode cX4_isExplained 90 = .ok (.iaload, 1) := by decide +kernel
theorem dX4_isExplained_91 : decode cX4_isExplained 91 = .ok (.iadd, 1) := by decide +kernel
theorem dX4_isExplained_92 : decode cX4_isExplained 92 = .ok (.iastore, 1) := by decide +kernel
theorem dX4_isExplained_93 : decode cX4_isExplained 93 = .ok (.iinc 3 1, 3) := by decide +kernel
theorem dX4_isExplained_96 : decode cX4_isExplained 96 = .ok (.goto (-54), 3) := by decide +kernel
theorem dX4_isExplained_99 : decode cX4_isExplained 99 = .ok (.iconst 0, 1) := by decide +kernel
theorem dX4_isExplained_100 : decode cX4_isExplained 100 = .ok (.istore_n 3, 1) := by decide +kernel
theorem dX4_isExplained_101 : decode cX4_isExplained 101 = .ok (.iload_n 3, 1) := by decide +kernel
theorem dX4_isExplained_102 : decode cX4_isExplained 102 = .ok (.iload_n 2, 1) := by decide +kernel
theorem dX4_isExplained_103 : decode cX4_isExplained 103 = .ok (.if_icmp .ge 29, 3) := by decide +kernel
theorem dX4_isExplained_106 : decode cX4_isExplained 106 = .ok (.aload_n 0, 1) := by decide +kernel
theorem dX4_isExplained_107 : decode cX4_isExplained 107 = .ok (.getfield 33, 3) := by decide +kernel
theorem dX4_isExplained_110 : decode cX4_isExplained 110 = .ok (.iload_n 3, 1) := by decide +kernel
theorem dX4_isExplained_111 : decode cX4_isExplained 111 = .ok (.baload, 1) := by decide +kernel
theorem dX4_isExplained_112 : decode cX4_isExplained 112 = .ok (.ifCond .ne 14, 3) := by decide +kernel
theorem dX4_isExplained_115 : decode cX4_isExplained 115 = .ok (.aload_n 0, 1) := by decide +kernel
theorem dX4_isExplained_116 : decode cX4_isExplained 116 = .ok (.getfield 30, 3) := by decide +kernel
theorem dX4_isExplained_119 : decode cX4_isExplained 119 = .ok (.iload_n 3, 1) := by decide +kernel
theorem dX4_isExplained_120 : decode cX4_isExplained 120 = .ok (.iaload, 1) := by decide +kernel
theorem dX4_isExplained_121 : decode cX4_isExplained 121 = .ok (.ifCond .ge 5, 3) := by decide +kernel
theorem dX4_isExplained_124 : decode cX4_isExplained 124 = .ok (.iconst 0, 1) := by decide +kernel
theorem dX4_isExplained_125 : decode cX4_isExplained 125 = .ok (.ireturn, 1) := by decide +kernel
theorem dX4_isExplained_126 : decode cX4_isExplained 126 = .ok (.iinc 3 1, 3) := by decide +kernel
theorem dX4_isExplained_129 : decode cX4_isExplained 129 = .ok (.goto (-28), 3) := by decide +kernel
theorem dX4_isExplained_132 : decode cX4_isExplained 132 = .ok (.iconst 1, 1) := by decide +kernel
theorem dX4_isExplained_133 : decode cX4_isExplained 133 = .ok (.ireturn, 1) := by decide +kernel
set_option maxRecDepth 20000 in
theorem ggX4_putTogether_X5_number : GoodIn wsX4_putTogether wsX5_number := goodIn_r _ [10, 11, 32, 33, 34, 35, 36, 37, 38] (by decide +kernel) (by decide +kernel)
set_option maxRecDepth 20000 in
theorem gX4_putTogether_X5_number : GoodIn wsX4_putTogether (wsV RX4 76 RX5 yX5_number wsX5_number) := goodIn_app (goodIn_of _ (by decide +kernel)) ggX4_putTogether_X5_number
set_option maxRecDepth 20000 in
theorem ggX4_putTogether_X4_join : GoodIn wsX4_putTogether wsX4_join := goodIn_r _ [16, 17, 18, 19, 20, 21, 22, 23, 1, 2, 6, 7, 8, 9, 10, 11, 24, 25, 26, 27, 28, 29, 30, 31, 32, 33, 34, 35, 36, 37, 38] (by decide +kernel) (by decide +kernel)
set_option maxRecDepth 20000 in
theorem gX4_putTogether_X4_join : GoodIn wsX4_putTogether (wsV RX4 84 RX4 yX4_join wsX4_join) := goodIn_app (goodIn_of _ (by decide +kernel)) ggX4_putTogether_X4_join
theorem dX4_putTogether_0 : decode cX4_putTogether 0 = .ok (.iconst 0, 1) := by decide +kernel
theorem dX4_putTogether_1 : decode cX4_putTogether 1 = .ok (.istore_n 2, 1) := by decide +kernel
theorem dX4_putTogether_2 : decode cX4_putTogether 2 = .ok (.iload_n 2, 1) := by decide +kernel
theorem dX4_putTogether_3 : decode cX4_putTogether 3 = .ok (.aload_n 0, 1) := by decide +kernel
theorem dX4_putTogether_4 : decode cX4_putTogether 4 = .ok (.getfield 37, 3) := by decide +kernel
theorem dX4_putTogether_7 : decode cX4_putTogether 7 = .ok (.invokevirtual 76, 3) := by decide +kernel
theorem dX4_putTogether_10 : decode cX4_putTogether 10 = .ok (.if_icmp .ge 16, 3) := by decide +kernel
theorem dX4_putTogether_13 : decode cX4_putTogether 13 = .ok (.aload_n 0, 1) := by decide +kernel
theorem dX4_putTogether_14 : decode cX4_putTogether 14 = .ok (.getfield 27, 3) := by decide +kernel
theorem dX4_putTogether_17 : decode cX4_putTogether 17 = .ok (.iload_n 2, 1) := by decide +kernel
theorem dX4_putTogether_18 : decode cX4_putTogether 18 = .ok (.iload_n 2, 1) := by decide +kernel
theorem dX4_putTogether_19 : decode cX4_putTogether 19 = .ok (.iastore, 1) := by decide +kernel
theorem dX4_putTogether_20 : decode cX4_putTogether 20 = .ok (.iinc 2 1, 3) := by decide +kernel
theorem dX4_putTogether_23 : decode cX4_putTogether 23 = .ok (.goto (-21), 3) := by decide +kernel
theorem dX4_putTogether_26 : decode cX4_putTogether 26 = .ok (.iconst 0, 1) := by decide +kernel
theorem dX4_putTogether_27 : decode cX4_putTogether 27 = .ok (.istore_n 2, 1) := by decide +kernel
theorem dX4_putTogether_28 : decode cX4_putTogether 28 = .ok (.iload_n 2, 1) := by decide +kernel
theorem dX4_putTogether_29 : decode cX4_putTogether 29 = .ok (.aload_n 0, 1) := by decide +kernel
theorem dX4_putTogether_30 : decode cX4_putTogether 30 = .ok (.getfield 18, 3) := by decide +kernel
theorem dX4_putTogether_33 : decode cX4_putTogether 33 = .ok (.if_icmp .ge 44, 3) := by decide +kernel
theorem dX4_putTogether_36 : decode cX4_putTogether 36 = .ok (.iload_n 1, 1) := by decide +kernel
theorem dX4_putTogether_37 : decode cX4_putTogether 37 = .ok (.iload_n 2, 1) := by decide +kernel
theorem dX4_putTogether_38 : decode cX4_putTogether 38 = .ok (.ishr, 1) := by decide +kernel
theorem dX4_putTogether_39 : decode cX4_putTogether 39 = .ok (.iconst 1, 1) := by decide +kernel
theorem dX4_putTogether_40 : decode cX4_putTogether 40 = .ok (.iand, 1) := by decide +kernel
theorem dX4_putTogether_41 : decode cX4_putTogether 41 = .ok (.iconst 1, 1) := by decide +kernel
theorem dX4_putTogether_42 : decode cX4_putTogether 42 = .ok (.if_icmp .ne 29, 3) := by decide +kernel
theorem dX4_putTogether_45 : decode cX4_putTogether 45 = .ok (.aload_n 0, 1) := by decide +kernel
theorem dX4_putTogether_46 : decode cX4_putTogether 46 = .ok (.aload_n 0, 1) := by decide +kernel
theorem dX4_putTogether_47 : decode cX4_putTogether 47 = .ok (.getfield 27, 3) := by decide +kernel
theorem dX4_putTogether_50 : decode cX4_putTogether 50 = .ok (.aload_n 0, 1) := by decide +kernel
theorem dX4_putTogether_51 : decode cX4_putTogether 51 = .ok (.getfield 11, 3) := by decide +kernel
theorem dX4_putTogether_54 : decode cX4_putTogether 54 = .ok (.iload_n 2, 1) := by decide +kernel
theorem dX4_putTogether_55 : decode cX4_putTogether 55 = .ok (.iaload, 1) := by decide +kernel
theorem dX4_putTogether_56 : decode cX4_putTogether 56 = .ok (.iaload, 1) := by decide +kernel
theorem dX4_putTogether_57 : decode cX4_putTogether 57 = .ok (.aload_n 0, 1) := by decide +kernel
theorem dX4_putTogether_58 : decode cX4_putTogether 58 = .ok (.getfield 27, 3) := by decide +kernel
theorem dX4_putTogether_61 : decode cX4_putTogether 61 = .ok (.aload_n 0, 1) := by decide +kernel
theorem dX4_putTogether_62 : decode cX4_putTogether 62 = .ok (.getfield 15, 3) := by decide +kernel
theorem dX4_putTogether_65 : decode cX4_putTogether 65 = .ok (.iload_n 2, 1) := by decide +kernel
theorem dX4_putTogether_66 : decode cX4_putTogether 66 = .ok (.iaload, 1) := by decide +kernel
theorem dX4_putTogether_67 : decode cX4_putTogether 67 = .ok (.iaload, 1) := by decide +kernel
theorem dX4_putTogether_68 : decode cX4_putTogether 68 = .ok (.invokevirtual 84, 3) := by decide +kernel
theorem dX4_putTogether_71 : decode cX4_putTogether 71 = .ok (.iinc 2 1, 3) := by decide +kernel
theorem dX4_putTogether_74 : decode cX4_putTogether 74 = .ok (.goto (-46), 3) := by decide +kernel
theorem dX4_putTogether_77 : decode cX4_putTogether 77 = .ok (.return_, 1) := by decide +kernel
set_option maxRecDepth 20000 in
theorem ggX4_join_X5_number : GoodIn wsX4_join wsX5_number := goodIn_r _ [14, 15, 24, 25, 26, 27, 28, 29, 30] (by decide +kernel) (by decide +kernel)
set_option maxRecDepth 20000 in
theorem gX4_join_X5_number : GoodIn wsX4_join (wsV RX4 76 RX5 yX5_number wsX5_number) := goodIn_app (goodIn_of _ (by decide +kernel)) ggX4_join_X5_number
theorem dX4_join_0 : decode cX4_join 0 = .ok (.iload_n 1, 1) := by decide +kernel
theorem dX4_join_1 : decode cX4_join 1 = .ok (.iload_n 2, 1) := by decide +kernel
theorem dX4_join_2 : decode cX4_join 2 = .ok (.invokestatic 88, 3) := by decide +kernel
theorem dX4_join_5 : decode cX4_join 5 = .ok (.istore_n 3, 1) := by decide +kernel
theorem dX4_join_6 : decode cX4_join 6 = .ok (.iload_n 1, 1) := by decide +kernel
theorem dX4_join_7 : decode cX4_join 7 = .ok (.iload_n 2, 1) := by decide +kernel
theorem dX4_join_8 : decode cX4_join 8 = .ok (.invokestatic 93, 3) := by decide +kernel
theorem dX4_join_11 : decode cX4_join 11 = .ok (.istore 4, 2) := by decide +kernel
theorem dX4_join_13 : decode cX4_join 13 = .ok (.iconst 0, 1) := by decide +kernel
theorem dX4_join_14 : decode cX4_join 14 = .ok (.istore 5, 2) := by decide +kernel
theorem dX4_join_16 : decode cX4_join 16 = .ok (.iload 5, 2) := by decide +kernel
theorem dX4_join_18 : decode cX4_join 18 = .ok (.aload_n 0, 1) := by decide +kernel
theorem dX4_join_19 : decode cX4_join 19 = .ok (.getfield 37, 3) := by decide +kernel
theorem dX4_join_22 : decode cX4_join 22 = .ok (.invokevirtual 76, 3) := by decide +kernel
theorem dX4_join_25 : decode cX4_join 25 = .ok (.if_icmp .ge 29, 3) := by decide +kernel
theorem dX4_join_28 : decode cX4_join 28 = .ok (.aload_n 0, 1) := by decide +kernel
theorem dX4_join_29 : decode cX4_join 29 = .ok (.getfield 27, 3) := by decide +kernel
theorem dX4_join_32 : decode cX4_join 32 = .ok (.iload 5, 2) := by decide +kernel
theorem dX4_join_34 : decode cX4_join 34 = .ok (.iaload, 1) := by decide +kernel
theorem dX4_join_35 : decode cX4_join 35 = .ok (.iload 4, 2) := by decide +kernel
theorem dX4_join_37 : decode cX4_join 37 = .ok (.if_icmp .ne 11, 3) := by decide +kernel
theorem dX4_join_40 : decode cX4_join 40 = .ok (.aload_n 0, 1) := by decide +kernel
theorem dX4_join_41 : decode cX4_join 41 = .ok (.getfield 27, 3) := by decide +kernel
theorem dX4_join_44 : decode cX4_join 44 = .ok (.iload 5, 2) := by decide +kernel
theorem dX4_join_46 : decode cX4_join 46 = .ok (.iload_n 3, 1) := by decide +kernel
theorem dX4_join_47 : decode cX4_join 47 = .ok (.iastore, 1) := by decide +kernel
theorem dX4_join_48 : decode cX4_join 48 = .ok (.iinc 5 1, 3) := by decide +kernel
theorem dX4_join_51 : decode cX4_join 51 = .ok (.goto (-35), 3) := by decide +kernel
theorem dX4_join_54 : decode cX4_join 54 = .ok (.return_, 1) := by decide +kernel
theorem dX5_init_0 : decode cX5_init 0 = .ok (.aload_n 0, 1) := by decide +kernel
theorem dX5_init_1 : decode cX5_init 1 = .ok (.invokespecial 3, 3) := by decide +kernel
theorem dX5_init_4 : decode cX5_init 4 = .ok (.aload_n 0, 1) := by decide +kernel
theorem dX5_init_5 : decode cX5_init 5 = .ok (.bipush 8, 2) := by decide +kernel
theorem dX5_init_7 : decode cX5_init 7 = .ok (.newarray .int, 2) := by decide +kernel
theorem dX5_init_9 : decode cX5_init 9 = .ok (.putfield 11, 3) := by decide +kernel
theorem dX5_init_12 : decode cX5_init 12 = .ok (.aload_n 0, 1) := by decide +kernel
theorem dX5_init_13 : decode cX5_init 13 = .ok (.bipush 8, 2) := by decide +kernel
theorem dX5_init_15 : decode cX5_init 15 = .ok (.newarray .int, 2) := by decide +kernel
theorem dX5_init_17 : decode cX5_init 17 = .ok (.putfield 15, 3) := by decide +kernel
theorem dX5_init_20 : decode cX5_init 20 = .ok (.aload_n 0, 1) := by decide +kernel
theorem dX5_init_21 : decode cX5_init 21 = .ok (.bipush 8, 2) := by decide +kernel
theorem dX5_init_23 : decode cX5_init 23 = .ok (.bipush 24, 2) := by decide +kernel
theorem dX5_init_25 : decode cX5_init 25 = .ok (.multianewarray 18 2, 4) := by decide +kernel
theorem dX5_init_29 : decode cX5_init 29 = .ok (.putfield 20, 3) := by decide +kernel
theorem dX5_init_32 : decode cX5_init 32 = .ok (.aload_n 0, 1) := by decide +kernel
theorem dX5_init_33 : decode cX5_init 33 = .ok (.bipush 8, 2) := by decide +kernel
theorem dX5_init_35 : decode cX5_init 35 = .ok (.bipush 24, 2) := by decide +kernel
theorem dX5_init_37 : decode cX5_init 37 = .ok (.multianewarray 18 2, 4) := by decide +kernel
theorem dX5_init_41 : decode cX5_init 41 = .ok (.putfield 23, 3) := by decide +kernel
theorem dX5_init_44 : decode cX5_init 44 = .ok (.aload_n 0, 1) := by decide +kernel
theorem dX5_init_45 : decode cX5_init 45 = .ok (.iconst 0, 1) := by decide +kernel
theorem dX5_init_46 : decode cX5_init 46 = .ok (.putfield 26, 3) := by decide +kernel
theorem dX5_init_49 : decode cX5_init 49 = .ok (.aload_n 0, 1) := by decide +kernel
theorem dX5_init_50 : decode cX5_init 50 = .ok (.bipush 20, 2) := by decide +kernel
theorem dX5_init_52 : decode cX5_init 52 = .ok (.putfield 30, 3) := by decide +kernel
theorem dX5_init_55 : decode cX5_init 55 = .ok (.aload_n 0, 1) := by decide +kernel
theorem dX5_init_56 : decode cX5_init 56 = .ok (.iconst 2, 1) := by decide +kernel
theorem dX5_init_57 : decode cX5_init 57 = .ok (.putfield 33, 3) := by decide +kernel
theorem dX5_init_60 : decode cX5_init 60 = .ok (.return_, 1) := by decide +kernel
theorem dX5_number_0 : decode cX5_number 0 = .ok (.aload_n 0, 1) := by decide +kernel
theorem dX5_number_1 : decode cX5_number 1 = .ok (.getfield 26, 3) := by decide +kernel
theorem dX5_number_4 : decode cX5_number 4 = .ok (.ireturn, 1) := by decide +kernel
set_option maxRecDepth 20000 in
theorem ggX5_isNone_X6_outside : GoodIn wsX5_isNone wsX6_outside := goodIn_r _ [4] (by decide +kernel) (by decide +kernel)
set_option maxRecDepth 20000 in
theorem gX5_isNone_X6_outside_n36 : GoodIn wsX5_isNone (wsX6_outside) := ggX5_isNone_X6_outside
theorem dX5_isNone_0 : decode cX5_isNone 0 = .ok (.iload_n 1, 1) := by decide +kernel
theorem dX5_isNone_1 : decode cX5_isNone 1 = .ok (.iconst 0, 1) := by decide +kernel
theorem dX5_isNone_2 : decode cX5_isNone 2 = .ok (.aload_n 0, 1) := by decide +kernel
theorem dX5_isNone_3 : decode cX5_isNone 3 = .ok (.getfield 26, 3) := by decide +kernel
theorem dX5_isNone_6 : decode cX5_isNone 6 = .ok (.iconst 1, 1) := by decide +kernel
theorem dX5_isNone_7 : decode cX5_isNone 7 = .ok (.isub, 1) := by decide +kernel
theorem dX5_isNone_8 : decode cX5_isNone 8 = .ok (.invokestatic 36, 3) := by decide +kernel
theorem dX5_isNone_11 : decode cX5_isNone 11 = .ok (.ireturn, 1) := by decide +kernel
set_option maxRecDepth 20000 in
theorem ggX5_add_X6_outside : GoodIn wsX5_add wsX6_outside := goodIn_r _ [6] (by decide +kernel) (by decide +kernel)
set_option maxRecDepth 20000 in
theorem gX5_add_X6_outside_n36 : GoodIn wsX5_add (wsX6_outside) := ggX5_add_X6_outside
theorem dX5_add_0 : decode cX5_add 0 = .ok (.iload_n 1, 1) := by decide +kernel
theorem dX5_add_1 : decode cX5_add 1 = .ok (.iconst 0, 1) := by decide +kernel
theorem dX5_add_2 : decode cX5_add 2 = .ok (.sipush 5000, 3) := by decide +kernel
theorem dX5_add_5 : decode cX5_add 5 = .ok (.invokestatic 36, 3) := by decide +kernel
theorem dX5_add_8 : decode cX5_add 8 = .ok (.ifCond .ne 14, 3) := by decide +kernel
theorem dX5_add_11 : decode cX5_add 11 = .ok (.iload_n 2, 1) := by decide +kernel
theorem dX5_add_12 : decode cX5_add 12 = .ok (.iconst 0, 1) := by decide +kernel
theorem dX5_add_13 : decode cX5_add 13 = .ok (.sipush 5000, 3) := by decide +kernel
theorem dX5_add_16 : decode cX5_add 16 = .ok (.invokestatic 36, 3) := by decide +kernel
theorem dX5_add_19 : decode cX5_add 19 = .ok (.ifCond .eq 6, 3) := by decide +kernel
theorem dX5_add_22 : decode cX5_add 22 = .ok (.bipush (-2), 2) := by decide +kernel
theorem dX5_add_24 : decode cX5_add 24 = .ok (.ireturn, 1) := by decide +kernel
theorem dX5_add_25 : decode cX5_add 25 = .ok (.aload_n 0, 1) := by decide +kernel
theorem dX5_add_26 : decode cX5_add 26 = .ok (.getfield 26, 3) := by decide +kernel
theorem dX5_add_29 : decode cX5_add 29 = .ok (.bipush 8, 2) := by decide +kernel
theorem dX5_add_31 : decode cX5_add 31 = .ok (.if_icmp .lt 6, 3) := by decide +kernel
theorem dX5_add_34 : decode cX5_add 34 = .ok (.bipush (-4), 2) := by decide +kernel
theorem dX5_add_36 : decode cX5_add 36 = .ok (.ireturn, 1) := by decide +kernel
theorem dX5_add_37 : decode cX5_add 37 = .ok (.aload_n 0, 1) := by decide +kernel
theorem dX5_add_38 : decode cX5_add 38 = .ok (.getfield 11, 3) := by decide +kernel
theorem dX5_add_41 : decode cX5_add 41 = .ok (.aload_n 0, 1) := by decide +kernel
theorem dX5_add_42 : decode cX5_add 42 = .ok (.getfield 26, 3) := by decide +kernel
theorem dX5_add_45 : decode cX5_add 45 = .ok (.iload_n 1, 1) := by decide +kernel
theorem dX5_add_46 : decode cX5_add 46 = .ok (.iastore, 1) := by decide +kernel
theorem dX5_add_47 : decode cX5_add 47 = .ok (.aload_n 0, 1) := by decide +kernel
theorem dX5_add_48 : decode cX5_add 48 = .ok (.getfield 15, 3) := by decide +kernel
theorem dX5_add_51 : decode cX5_add 51 = .ok (.aload_n 0, 1) := by decide +kernel
theorem dX5_add_52 : decode cX5_add 52 = .ok (.getfield 26, 3) := by decide +kernel
theorem dX5_add_55 : decode cX5_add 55 = .ok (.iload_n 2, 1) := by decide +kernel
theorem dX5_add_56 : decode cX5_add 56 = .ok (.iastore, 1) := by decide +kernel
theorem dX5_add_57 : decode cX5_add 57 = .ok (.aload_n 0, 1) := by decide +kernel
theorem dX5_add_58 : decode cX5_add 58 = .ok (.dup, 1) := by decide +kernel
theorem dX5_add_59 : decode cX5_add 59 = .ok (.getfield 26, 3) := by decide +kernel
theorem dX5_add_62 : decode cX5_add 62 = .ok (.iconst 1, 1) := by decide +kernel
theorem dX5_add_63 : decode cX5_add 63 = .ok (.iadd, 1) := by decide +kernel
theorem dX5_add_64 : decode cX5_add 64 = .ok (.putfield 26, 3) := by decide +kernel
theorem dX5_add_67 : decode cX5_add 67 = .ok (.aload_n 0, 1) := by decide +kernel
theorem dX5_add_68 : decode cX5_add 68 = .ok (.getfield 26, 3) := by decide +kernel
theorem dX5_add_71 : decode cX5_add 71 = .ok (.iconst 1, 1) := by decide +kernel
theorem dX5_add_72 : decode cX5_add 72 = .ok (.isub, 1) := by decide +kernel
theorem dX5_add_73 : decode cX5_add 73 = .ok (.ireturn, 1) := by decide +kernel
set_option maxRecDepth 20000 in
theorem ggX5_setRules_X6_outside : GoodIn wsX5_setRules wsX6_outside := goodIn_r _ [5] (by decide +kernel) (by decide +kernel)
set_option maxRecDepth 20000 in
theorem gX5_setRules_X6_outside_n36 : GoodIn wsX5_setRules (wsX6_outside) := ggX5_setRules_X6_outside
theorem dX5_setRules_0 : decode cX5_setRules 0 = .ok (.iload_n 1, 1) := by decide +kernel
theorem dX5_setRules_1 : decode cX5_setRules 1 = .ok (.iconst 0, 1) := by decide +kernel
theorem dX5_setRules_2 : decode cX5_setRules 2 = .ok (.sipush 200, 3) := by decide +kernel
theorem dX5_setRules_5 : decode cX5_setRules 5 = .ok (.invokestatic 36, 3) := by decide +kernel
theorem dX5_setRules_8 : decode cX5_setRules 8 = .ok (.ifCond .ne 13, 3) := by decide +kernel
theorem dX5_setRules_11 : decode cX5_setRules 11 = .ok (.iload_n 2, 1) := by decide +kernel
theorem dX5_setRules_12 : decode cX5_setRules 12 = .ok (.iconst 0, 1) := by decide +kernel
theorem dX5_setRules_13 : decode cX5_setRules 13 = .ok (.bipush 20, 2) := by decide +kernel
theorem dX5_setRules_15 : decode cX5_setRules 15 = .ok (.invokestatic 36, 3) := by decide +kernel
theorem dX5_setRules_18 : decode cX5_setRules 18 = .ok (.ifCond .eq 6, 3) := by decide +kernel
theorem dX5_setRules_21 : decode cX5_setRules 21 = .ok (.bipush (-2), 2) := by decide +kernel
theorem dX5_setRules_23 : decode cX5_setRules 23 = .ok (.ireturn, 1) := by decide +kernel
theorem dX5_setRules_24 : decode cX5_setRules 24 = .ok (.aload_n 0, 1) := by decide +kernel
theorem dX5_setRules_25 : decode cX5_setRules 25 = .ok (.iload_n 1, 1) := by decide +kernel
theorem dX5_setRules_26 : decode cX5_setRules 26 = .ok (.putfield 30, 3) := by decide +kernel
theorem dX5_setRules_29 : decode cX5_setRules 29 = .ok (.aload_n 0, 1) := by decide +kernel
theorem dX5_setRules_30 : decode cX5_setRules 30 = .ok (.iload_n 2, 1) := by decide +kernel
theorem dX5_setRules_31 : decode cX5_setRules 31 = .ok (.putfield 33, 3) := by decide +kernel
theorem dX5_setRules_34 : decode cX5_setRules 34 = .ok (.iconst 1, 1) := by decide +kernel
theorem dX5_setRules_35 : decode cX5_setRules 35 = .ok (.ireturn, 1) := by decide +kernel
set_option maxRecDepth 20000 in
theorem ggX5_setReading_X5_isNone : GoodIn wsX5_setReading wsX5_isNone := goodIn_r _ [7, 8, 9, 10, 11, 12, 13, 14, 15, 16, 17, 18] (by decide +kernel) (by decide +kernel)
set_option maxRecDepth 20000 in
theorem gX5_setReading_X5_isNone : GoodIn wsX5_setReading (wsV RX5 40 RX5 yX5_isNone wsX5_isNone) := goodIn_app (goodIn_of _ (by decide +kernel)) ggX5_setReading_X5_isNone
set_option maxRecDepth 20000 in
theorem ggX5_setReading_X6_outside : GoodIn wsX5_setReading wsX6_outside := goodIn_r _ [11] (by decide +kernel) (by decide +kernel)
set_option maxRecDepth 20000 in
theorem gX5_setReading_X6_outside_n36 : GoodIn wsX5_setReading (wsX6_outside) := ggX5_setReading_X6_outside
theorem dX5_setReading_0 : decode cX5_setReading 0 = .ok (.aload_n 0, 1) := by decide +kernel
theorem dX5_setReading_1 : decode cX5_setReading 1 = .ok (.iload_n 1, 1) := by decide +kernel
theorem dX5_setReading_2 : decode cX5_setReading 2 = .ok (.invokevirtual 40, 3) := by decide +kernel
theorem dX5_setReading_5 : decode cX5_setReading 5 = .ok (.ifCond .ne 25, 3) := by decide +kernel
theorem dX5_setReading_8 : decode cX5_setReading 8 = .ok (.iload_n 2, 1) := by decide +kernel
theorem dX5_setReading_9 : decode cX5_setReading 9 = .ok (.iconst 0, 1) := by decide +kernel
theorem dX5_setReading_10 : decode cX5_setReading 10 = .ok (.bipush 23, 2) := by decide +kernel
theorem dX5_setReading_12 : decode cX5_setReading 12 = .ok (.invokestatic 36, 3) := by decide +kernel
theorem dX5_setReading_15 : decode cX5_setReading 15 = .ok (.ifCond .ne 15, 3) := by decide +kernel
theorem dX5_setReading_18 : decode cX5_setReading 18 = .ok (.iload 4, 2) := by decide +kernel
theorem dX5_setReading_20 : decode cX5_setReading 20 = .ok (.iconst (-1), 1) := by decide +kernel
theorem dX5_setReading_21 : decode cX5_setReading 21 = .ok (.sipush 20000, 3) := by decide +kernel
theorem dX5_setReading_24 : decode cX5_setReading 24 = .ok (.invokestatic 36, 3) := by decide +kernel
theorem dX5_setReading_27 : decode cX5_setReading 27 = .ok (.ifCond .eq 6, 3) := by decide +kernel
theorem dX5_setReading_30 : decode cX5_setReading 30 = .ok (.bipush (-2), 2) := by decide +kernel
theorem dX5_setReading_32 : decode cX5_setReading 32 = .ok (.ireturn, 1) := by decide +kernel
theorem dX5_setReading_33 : decode cX5_setReading 33 = .ok (.iload_n 3, 1) := by decide +kernel
theorem dX5_setReading_34 : decode cX5_setReading 34 = .ok (.ifCond .eq 12, 3) := by decide +kernel
theorem dX5_setReading_37 : decode cX5_setReading 37 = .ok (.aload_n 0, 1) := by decide +kernel
theorem dX5_setReading_38 : decode cX5_setReading 38 = .ok (.getfield 20, 3) := by decide +kernel
theorem dX5_setReading_41 : decode cX5_setReading 41 = .ok (.iload_n 1, 1) := by decide +kernel
theorem dX5_setReading_42 : decode cX5_setReading 42 = .ok (.aaload, 1) := by decide +kernel
theorem dX5_setReading_43 : decode cX5_setReading 43 = .ok (.goto 9, 3) := by decide +kernel
theorem dX5_setReading_46 : decode cX5_setReading 46 = .ok (.aload_n 0, 1) := by decide +kernel
theorem dX5_setReading_47 : decode cX5_setReading 47 = .ok (.getfield 23, 3) := by decide +kernel
theorem dX5_setReading_50 : decode cX5_setReading 50 = .ok (.iload_n 1, 1) := by decide +kernel
theorem dX5_setReading_51 : decode cX5_setReading 51 = .ok (.aaload, 1) := by decide +kernel
theorem dX5_setReading_52 : decode cX5_setReading 52 = .ok (.astore 5, 2) := by decide +kernel
theorem dX5_setReading_54 : decode cX5_setReading 54 = .ok (.aload 5, 2) := by decide +kernel
theorem dX5_setReading_56 : decode cX5_setReading 56 = .ok (.iload_n 2, 1) := by decide +kernel
theorem dX5_setReading_57 : decode cX5_setReading 57 = .ok (.iaload, 1) := by decide +kernel
theorem dX5_setReading_58 : decode cX5_setReading 58 = .ok (.istore 6, 2) := by decide +kernel
theorem dX5_setReading_60 : decode cX5_setReading 60 = .ok (.aload 5, 2) := by decide +kernel
theorem dX5_setReading_62 : decode cX5_setReading 62 = .ok (.iload_n 2, 1) := by decide +kernel
theorem dX5_setReading_63 : decode cX5_setReading 63 = .ok (.iload 4, 2) := by decide +kernel
theorem dX5_setReading_65 : decode cX5_setReading 65 = .ok (.iastore, 1) := by decide +kernel
theorem dX5_setReading_66 : decode cX5_setReading 66 = .ok (.iload 6, 2) := by decide +kernel
theorem dX5_setReading_68 : decode cX5_setReading 68 = .ok (.ireturn, 1) := by decide +kernel
set_option maxRecDepth 20000 in
theorem ggX5_lowPart_X5_isNone : GoodIn wsX5_lowPart wsX5_isNone := goodIn_r _ [6, 7, 8, 9, 10, 34, 35, 36, 37, 38, 39, 40] (by decide +kernel) (by decide +kernel)
set_option maxRecDepth 20000 in
theorem gX5_lowPart_X5_isNone : GoodIn wsX5_lowPart (wsV RX5 40 RX5 yX5_isNone wsX5_isNone) := goodIn_app (goodIn_of _ (by decide +kernel)) ggX5_lowPart_X5_isNone
set_option maxRecDepth 20000 in
theorem ggX5_lowPart_X6_outside : GoodIn wsX5_lowPart wsX6_outside := goodIn_r _ [10] (by decide +kernel) (by decide +kernel)
set_option maxRecDepth 20000 in
theorem gX5_lowPart_X6_outside_n36 : GoodIn wsX5_lowPart (wsX6_outside) := ggX5_lowPart_X6_outside
set_option maxRecDepth 20000 in
theorem ggX5_lowPart_X5_lowHour : GoodIn wsX5_lowPart wsX5_lowHour := goodIn_r _ [14, 15, 16, 17, 18, 19, 5, 20, 21, 22, 23, 24, 25, 26, 27, 28, 29, 34, 35, 36, 37, 38, 39, 40] (by decide +kernel) (by decide +kernel)
set_option maxRecDepth 20000 in
theorem gX5_lowPart_X5_lowHour : GoodIn wsX5_lowPart (wsV RX5 45 RX5 yX5_lowHour wsX5_lowHour) := goodIn_app (goodIn_of _ (by decide +kernel)) ggX5_lowPart_X5_lowHour
set_option maxRecDepth 20000 in
theorem ggX5_lowPart_X5_leastNet : GoodIn wsX5_lowPart wsX5_leastNet := goodIn_r _ [33, 15, 16, 26, 27, 28, 5, 29, 25, 21, 22, 23, 24, 34, 35, 36, 37, 38, 39, 40] (by decide +kernel) (by decide +kernel)
set_option maxRecDepth 20000 in
theorem gX5_lowPart_X5_leastNet : GoodIn wsX5_lowPart (wsV RX5 49 RX5 yX5_leastNet wsX5_leastNet) := goodIn_app (goodIn_of _ (by decide +kernel)) ggX5_lowPart_X5_leastNet
set_option maxRecDepth 20000 in
theorem ggX5_lowPart_X5_greatestNet : GoodIn wsX5_lowPart wsX5_greatestNet := goodIn_r _ [20, 15, 16, 21, 22, 23, 5, 24, 25, 26, 27, 28, 29, 34, 35, 36, 37, 38, 39, 40] (by decide +kernel) (by decide +kernel)
set_option maxRecDepth 20000 in
theorem gX5_lowPart_X5_greatestNet : GoodIn wsX5_lowPart (wsV RX5 53 RX5 yX5_greatestNet wsX5_greatestNet) := goodIn_app (goodIn_of _ (by decide +kernel)) ggX5_lowPart_X5_greatestNet
theorem dX5_lowPart_0 : decode cX5_lowPart 0 = .ok (.aload_n 0, 1) := by decide +kernel
theorem dX5_lowPart_1 : decode cX5_lowPart 1 = .ok (.iload_n 1, 1) := by decide +kernel
theorem dX5_lowPart_2 : decode cX5_lowPart 2 = .ok (.invokevirtual 40, 3) := by decide +kernel
theorem dX5_lowPart_5 : decode cX5_lowPart 5 = .ok (.ifCond .ne 12, 3) := by decide +kernel
theorem dX5_lowPart_8 : decode cX5_lowPart 8 = .ok (.iload_n 2, 1) := by decide +kernel
theorem dX5_lowPart_9 : decode cX5_lowPart 9 = .ok (.iconst 0, 1) := by decide +kernel
theorem dX5_lowPart_10 : decode cX5_lowPart 10 = .ok (.iconst 2, 1) := by decide +kernel
theorem dX5_lowPart_11 : decode cX5_lowPart 11 = .ok (.invokestatic 36, 3) := by decide +kernel
theorem dX5_lowPart_14 : decode cX5_lowPart 14 = .ok (.ifCond .eq 6, 3) := by decide +kernel
theorem dX5_lowPart_17 : decode cX5_lowPart 17 = .ok (.ldc 44, 2) := by decide +kernel
theorem dX5_lowPart_19 : decode cX5_lowPart 19 = .ok (.ireturn, 1) := by decide +kernel
theorem dX5_lowPart_20 : decode cX5_lowPart 20 = .ok (.aload_n 0, 1) := by decide +kernel
theorem dX5_lowPart_21 : decode cX5_lowPart 21 = .ok (.iload_n 1, 1) := by decide +kernel
theorem dX5_lowPart_22 : decode cX5_lowPart 22 = .ok (.invokevirtual 45, 3) := by decide +kernel
theorem dX5_lowPart_25 : decode cX5_lowPart 25 = .ok (.istore_n 3, 1) := by decide +kernel
theorem dX5_lowPart_26 : decode cX5_lowPart 26 = .ok (.iload_n 3, 1) := by decide +kernel
theorem dX5_lowPart_27 : decode cX5_lowPart 27 = .ok (.iconst (-1), 1) := by decide +kernel
theorem dX5_lowPart_28 : decode cX5_lowPart 28 = .ok (.if_icmp .ne 6, 3) := by decide +kernel
theorem dX5_lowPart_31 : decode cX5_lowPart 31 = .ok (.ldc 44, 2) := by decide +kernel
theorem dX5_lowPart_33 : decode cX5_lowPart 33 = .ok (.ireturn, 1) := by decide +kernel
theorem dX5_lowPart_34 : decode cX5_lowPart 34 = .ok (.iload_n 2, 1) := by decide +kernel
theorem dX5_lowPart_35 : decode cX5_lowPart 35 = .ok (.iconst 2, 1) := by decide +kernel
theorem dX5_lowPart_36 : decode cX5_lowPart 36 = .ok (.if_icmp .ne 5, 3) := by decide +kernel
theorem dX5_lowPart_39 : decode cX5_lowPart 39 = .ok (.iload_n 3, 1) := by decide +kernel
theorem dX5_lowPart_40 : decode cX5_lowPart 40 = .ok (.ireturn, 1) := by decide +kernel
theorem dX5_lowPart_41 : decode cX5_lowPart 41 = .ok (.iload_n 2, 1) := by decide +kernel
theorem dX5_lowPart_42 : decode cX5_lowPart 42 = .ok (.ifCond .ne 12, 3) := by decide +kernel
theorem dX5_lowPart_45 : decode cX5_lowPart 45 = .ok (.aload_n 0, 1) := by decide +kernel
theorem dX5_lowPart_46 : decode cX5_lowPart 46 = .ok (.iload_n 1, 1) := by decide +kernel
theorem dX5_lowPart_47 : decode cX5_lowPart 47 = .ok (.iload_n 3, 1) := by decide +kernel
theorem dX5_lowPart_48 : decode cX5_lowPart 48 = .ok (.invokevirtual 49, 3) := by decide +kernel
theorem dX5_lowPart_51 : decode cX5_lowPart 51 = .ok (.goto 9, 3) := by decide +kernel
theorem dX5_lowPart_54 : decode cX5_lowPart 54 = .ok (.aload_n 0, 1) := by decide +kernel
theorem dX5_lowPart_55 : decode cX5_lowPart 55 = .ok (.iload_n 1, 1) := by decide +kernel
theorem dX5_lowPart_56 : decode cX5_lowPart 56 = .ok (.iload_n 3, 1) := by decide +kernel
theorem dX5_lowPart_57 : decode cX5_lowPart 57 = .ok (.invokevirtual 53, 3) := by decide +kernel
theorem dX5_lowPart_60 : decode cX5_lowPart 60 = .ok (.ireturn, 1) := by decide +kernel
set_option maxRecDepth 20000 in
theorem ggX5_leak_X5_isNone : GoodIn wsX5_leak wsX5_isNone := goodIn_r _ [9, 10, 11, 12, 13, 37, 38, 39, 40, 41, 42, 43] (by decide +kernel) (by decide +kernel)
set_option maxRecDepth 20000 in
theorem gX5_leak_X5_isNone : GoodIn wsX5_leak (wsV RX5 40 RX5 yX5_isNone wsX5_isNone) := goodIn_app (goodIn_of _ (by decide +kernel)) ggX5_leak_X5_isNone
set_option maxRecDepth 20000 in
theorem ggX5_leak_X6_outside : GoodIn wsX5_leak wsX6_outside := goodIn_r _ [13] (by decide +kernel) (by decide +kernel)
set_option maxRecDepth 20000 in
theorem gX5_leak_X6_outside_n36 : GoodIn wsX5_leak (wsX6_outside) := ggX5_leak_X6_outside
set_option maxRecDepth 20000 in
theorem ggX5_leak_X5_lowHour : GoodIn wsX5_leak wsX5_lowHour := goodIn_r _ [17, 18, 19, 20, 21, 22, 8, 23, 24, 25, 26, 27, 28, 29, 30, 31, 32, 37, 38, 39, 40, 41, 42, 43] (by decide +kernel) (by decide +kernel)
set_option maxRecDepth 20000 in
theorem gX5_leak_X5_lowHour : GoodIn wsX5_leak (wsV RX5 45 RX5 yX5_lowHour wsX5_lowHour) := goodIn_app (goodIn_of _ (by decide +kernel)) ggX5_leak_X5_lowHour
set_option maxRecDepth 20000 in
theorem ggX5_leak_X5_leastNet : GoodIn wsX5_leak wsX5_leastNet := goodIn_r _ [36, 18, 19, 29, 30, 31, 8, 32, 28, 24, 25, 26, 27, 37, 38, 39, 40, 41, 42, 43] (by decide +kernel) (by decide +kernel)
set_option maxRecDepth 20000 in
theorem gX5_leak_X5_leastNet : GoodIn wsX5_leak (wsV RX5 49 RX5 yX5_leastNet wsX5_leastNet) := goodIn_app (goodIn_of _ (by decide +kernel)) ggX5_leak_X5_leastNet
set_option maxRecDepth 20000 in
theorem ggX5_leak_X5_greatestNet : GoodIn wsX5_leak wsX5_greatestNet := goodIn_r _ [23, 18, 19, 24, 25, 26, 8, 27, 28, 29, 30, 31, 32, 37, 38, 39, 40, 41, 42, 43] (by decide +kernel) (by decide +kernel)
set_option maxRecDepth 20000 in
theorem gX5_leak_X5_greatestNet : GoodIn wsX5_leak (wsV RX5 53 RX5 yX5_greatestNet wsX5_greatestNet) := goodIn_app (goodIn_of _ (by decide +kernel)) ggX5_leak_X5_greatestNet
theorem dX5_leak_0 : decode cX5_leak 0 = .ok (.aload_n 0, 1) := by decide +kernel
theorem dX5_leak_1 : decode cX5_leak 1 = .ok (.iload_n 1, 1) := by decide +kernel
theorem dX5_leak_2 : decode cX5_leak 2 = .ok (.invokevirtual 40, 3) := by decide +kernel
theorem dX5_leak_5 : decode cX5_leak 5 = .ok (.ifCond .ne 12, 3) := by decide +kernel
theorem dX5_leak_8 : decode cX5_leak 8 = .ok (.iload_n 2, 1) := by decide +kernel
theorem dX5_leak_9 : decode cX5_leak 9 = .ok (.iconst 0, 1) := by decide +kernel
theorem dX5_leak_10 : decode cX5_leak 10 = .ok (.iconst 1, 1) := by decide +kernel
theorem dX5_leak_11 : decode cX5_leak 11 = .ok (.invokestatic 36, 3) := by decide +kernel
theorem dX5_leak_14 : decode cX5_leak 14 = .ok (.ifCond .eq 6, 3) := by decide +kernel
theorem dX5_leak_17 : decode cX5_leak 17 = .ok (.ldc 44, 2) := by decide +kernel
theorem dX5_leak_19 : decode cX5_leak 19 = .ok (.ireturn, 1) := by decide +kernel
theorem dX5_leak_20 : decode cX5_leak 20 = .ok (.aload_n 0, 1) := by decide +kernel
theorem dX5_leak_21 : decode cX5_leak 21 = .ok (.iload_n 1, 1) := by decide +kernel
theorem dX5_leak_22 : decode cX5_leak 22 = .ok (.invokevirtual 45, 3) := by decide +kernel
theorem dX5_leak_25 : decode cX5_leak 25 = .ok (.istore_n 3, 1) := by decide +kernel
theorem dX5_leak_26 : decode cX5_leak 26 = .ok (.iload_n 3, 1) := by decide +kernel
theorem dX5_leak_27 : decode cX5_leak 27 = .ok (.iconst (-1), 1) := by decide +kernel
theorem dX5_leak_28 : decode cX5_leak 28 = .ok (.if_icmp .ne 6, 3) := by decide +kernel
theorem dX5_leak_31 : decode cX5_leak 31 = .ok (.ldc 44, 2) := by decide +kernel
theorem dX5_leak_33 : decode cX5_leak 33 = .ok (.ireturn, 1) := by decide +kernel
theorem dX5_leak_34 : decode cX5_leak 34 = .ok (.iload_n 2, 1) := by decide +kernel
theorem dX5_leak_35 : decode cX5_leak 35 = .ok (.ifCond .ne 29, 3) := by decide +kernel
theorem dX5_leak_38 : decode cX5_leak 38 = .ok (.aload_n 0, 1) := by decide +kernel
theorem dX5_leak_39 : decode cX5_leak 39 = .ok (.iload_n 1, 1) := by decide +kernel
theorem dX5_leak_40 : decode cX5_leak 40 = .ok (.iload_n 3, 1) := by decide +kernel
theorem dX5_leak_41 : decode cX5_leak 41 = .ok (.invokevirtual 49, 3) := by decide +kernel
theorem dX5_leak_44 : decode cX5_leak 44 = .ok (.aload_n 0, 1) := by decide +kernel
theorem dX5_leak_45 : decode cX5_leak 45 = .ok (.getfield 15, 3) := by decide +kernel
theorem dX5_leak_48 : decode cX5_leak 48 = .ok (.iload_n 1, 1) := by decide +kernel
theorem dX5_leak_49 : decode cX5_leak 49 = .ok (.iaload, 1) := by decide +kernel
theorem dX5_leak_50 : decode cX5_leak 50 = .ok (.isub, 1) := by decide +kernel
theorem dX5_leak_51 : decode cX5_leak 51 = .ok (.aload_n 0, 1) := by decide +kernel
theorem dX5_leak_52 : decode cX5_leak 52 = .ok (.getfield 11, 3) := by decide +kernel
theorem dX5_leak_55 : decode cX5_leak 55 = .ok (.iload_n 1, 1) := by decide +kernel
theorem dX5_leak_56 : decode cX5_leak 56 = .ok (.iaload, 1) := by decide +kernel
theorem dX5_leak_57 : decode cX5_leak 57 = .ok (.aload_n 0, 1) := by decide +kernel
theorem dX5_leak_58 : decode cX5_leak 58 = .ok (.getfield 33, 3) := by decide +kernel
theorem dX5_leak_61 : decode cX5_leak 61 = .ok (.imul, 1) := by decide +kernel
theorem dX5_leak_62 : decode cX5_leak 62 = .ok (.isub, 1) := by decide +kernel
theorem dX5_leak_63 : decode cX5_leak 63 = .ok (.ireturn, 1) := by decide +kernel
theorem dX5_leak_64 : decode cX5_leak 64 = .ok (.aload_n 0, 1) := by decide +kernel
theorem dX5_leak_65 : decode cX5_leak 65 = .ok (.iload_n 1, 1) := by decide +kernel
theorem dX5_leak_66 : decode cX5_leak 66 = .ok (.iload_n 3, 1) := by decide +kernel
theorem dX5_leak_67 : decode cX5_leak 67 = .ok (.invokevirtual 53, 3) := by decide +kernel
theorem dX5_leak_70 : decode cX5_leak 70 = .ok (.aload_n 0, 1) := by decide +kernel
theorem dX5_leak_71 : decode cX5_leak 71 = .ok (.getfield 15, 3) := by decide +kernel
theorem dX5_leak_74 : decode cX5_leak 74 = .ok (.iload_n 1, 1) := by decide +kernel
theorem dX5_leak_75 : decode cX5_leak 75 = .ok (.iaload, 1) := by decide +kernel
theorem dX5_leak_76 : decode cX5_leak 76 = .ok (.isub, 1) := by decide +kernel
theorem dX5_leak_77 : decode cX5_leak 77 = .ok (.ireturn, 1) := by decide +kernel
theorem dX5_readingsLost_0 : decode cX5_readingsLost 0 = .ok (.iconst 0, 1) := by decide +kernel
theorem dX5_readingsLost_1 : decode cX5_readingsLost 1 = .ok (.istore_n 1, 1) := by decide +kernel
theorem dX5_readingsLost_2 : decode cX5_readingsLost 2 = .ok (.iconst 0, 1) := by decide +kernel
theorem dX5_readingsLost_3 : decode cX5_readingsLost 3 = .ok (.istore_n 2, 1) := by decide +kernel
theorem dX5_readingsLost_4 : decode cX5_readingsLost 4 = .ok (.iload_n 2, 1) := by decide +kernel
theorem dX5_readingsLost_5 : decode cX5_readingsLost 5 = .ok (.aload_n 0, 1) := by decide +kernel
theorem dX5_readingsLost_6 : decode cX5_readingsLost 6 = .ok (.getfield 26, 3) := by decide +kernel
theorem dX5_readingsLost_9 : decode cX5_readingsLost 9 = .ok (.if_icmp .ge 63, 3) := by decide +kernel
theorem dX5_readingsLost_12 : decode cX5_readingsLost 12 = .ok (.iconst 0, 1) := by decide +kernel
theorem dX5_readingsLost_13 : decode cX5_readingsLost 13 = .ok (.istore_n 3, 1) := by decide +kernel
theorem dX5_readingsLost_14 : decode cX5_readingsLost 14 = .ok (.iload_n 3, 1) := by decide +kernel
theorem dX5_readingsLost_15 : decode cX5_readingsLost 15 = .ok (.bipush 24, 2) := by decide +kernel
theorem dX5_readingsLost_17 : decode cX5_readingsLost 17 = .ok (.if_icmp .ge 49, 3) := by decide +kernel
theorem dX5_readingsLost_20 : decode cX5_readingsLost 20 = .ok (.iload_n 1, 1) := by decide +kernel
theorem dX5_readingsLost_21 : decode cX5_readingsLost 21 = .ok (.aload_n 0, 1) := by decide +kernel
theorem dX5_readingsLost_22 : decode cX5_readingsLost 22 = .ok (.getfield 20, 3) := by decide +kernel
theorem dX5_readingsLost_25 : decode cX5_readingsLost 25 = .ok (.iload_n 2, 1) := by decide +kernel
theorem dX5_readingsLost_26 : decode cX5_readingsLost 26 = .ok (.aaload, 1) := by decide +kernel
theorem dX5_readingsLost_27 : decode cX5_readingsLost 27 = .ok (.iload_n 3, 1) := by decide +kernel
theorem dX5_readingsLost_28 : decode cX5_readingsLost 28 = .ok (.iaload, 1) := by decide +kernel
theorem dX5_readingsLost_29 : decode cX5_readingsLost 29 = .ok (.iconst (-1), 1) := by decide +kernel
theorem dX5_readingsLost_30 : decode cX5_readingsLost 30 = .ok (.if_icmp .ne 7, 3) := by decide +kernel
theorem dX5_readingsLost_33 : decode cX5_readingsLost 33 = .ok (.iconst 1, 1) := by decide +kernel
theorem dX5_readingsLost_34 : decode cX5_readingsLost 34 = .ok (.goto 4, 3) := by decide +kernel
theorem dX5_readingsLost_37 : decode cX5_readingsLost 37 = .ok (.iconst 0, 1) := by decide +kernel
theorem dX5_readingsLost_38 : decode cX5_readingsLost 38 = .ok (.iadd, 1) := by decide +kernel
theorem dX5_readingsLost_39 : decode cX5_readingsLost 39 = .ok (.istore_n 1, 1) := by decide +kernel
theorem dX5_readingsLost_40 : decode cX5_readingsLost 40 = .ok (.iload_n 1, 1) := by decide +kernel
theorem dX5_readingsLost_41 : decode cX5_readingsLost 41 = .ok (.aload_n 0, 1) := by decide +kernel
theorem dX5_readingsLost_42 : decode cX5_readingsLost 42 = .ok (.getfield 23, 3) := by decide +kernel
theorem dX5_readingsLost_45 : decode cX5_readingsLost 45 = .ok (.iload_n 2, 1) := by decide +kernel
theorem dX5_readingsLost_46 : decode cX5_readingsLost 46 = .ok (.aaload, 1) := by decide +kernel
theorem dX5_readingsLost_47 : decode cX5_readingsLost 47 = .ok (.iload_n 3, 1) := by decide +kernel
theorem dX5_readingsLost_48 : decode cX5_readingsLost 48 = .ok (.iaload, 1) := by decide +kernel
theorem dX5_readingsLost_49 : decode cX5_readingsLost 49 = .ok (.iconst (-1), 1) := by decide +kernel
theorem dX5_readingsLost_50 : decode cX5_readingsLost 50 = .ok (.if_icmp .ne 7, 3) := by decide +kernel
theorem dX5_readingsLost_53 : decode cX5_readingsLost 53 = .ok (.iconst 1, 1) := by decide +kernel
theorem dX5_readingsLost_54 : decode cX5_readingsLost 54 = .ok (.goto 4, 3) := by decide +kernel
theorem dX5_readingsLost_57 : decode cX5_readingsLost 57 = .ok (.iconst 0, 1) := by decide +kernel
theorem dX5_readingsLost_58 : decode cX5_readingsLost 58 = .ok (.iadd, 1) := by decide +kernel
theorem dX5_readingsLost_59 : decode cX5_readingsLost 59 = .ok (.istore_n 1, 1) := by decide +kernel
theorem dX5_readingsLost_60 : decode cX5_readingsLost 60 = .ok (.iinc 3 1, 3) := by decide +kernel
theorem dX5_readingsLost_63 : decode cX5_readingsLost 63 = .ok (.goto (-49), 3) := by decide +kernel
theorem dX5_readingsLost_66 : decode cX5_readingsLost 66 = .ok (.iinc 2 1, 3) := by decide +kernel
theorem dX5_readingsLost_69 : decode cX5_readingsLost 69 = .ok (.goto (-65), 3) := by decide +kernel
theorem dX5_readingsLost_72 : decode cX5_readingsLost 72 = .ok (.iload_n 1, 1) := by decide +kernel
theorem dX5_readingsLost_73 : decode cX5_readingsLost 73 = .ok (.ireturn, 1) := by decide +kernel
set_option maxRecDepth 20000 in
theorem ggX5_mixInto_X5_leak : GoodIn wsX5_mixInto wsX5_leak := goodIn_r _ [8, 9, 10, 11, 12, 13, 14, 15, 7, 16, 1, 17, 18, 19, 20, 21, 22, 23, 2, 3, 24, 25, 26, 27, 28, 29, 30, 31, 32, 33, 34, 35, 36, 37, 38, 39, 40, 44, 45, 46, 47, 48, 49, 50] (by decide +kernel) (by decide +kernel)
set_option maxRecDepth 20000 in
theorem gX5_mixInto_X5_leak : GoodIn wsX5_mixInto (wsV RX5 56 RX5 yX5_leak wsX5_leak) := goodIn_app (goodIn_of _ (by decide +kernel)) ggX5_mixInto_X5_leak
set_option maxRecDepth 20000 in
theorem ggX5_mixInto_X6_mix : GoodIn wsX5_mixInto wsX6_mix := goodIn_r _ [42, 43] (by decide +kernel) (by decide +kernel)
set_option maxRecDepth 20000 in
theorem gX5_mixInto_X6_mix_n59 : GoodIn wsX5_mixInto (wsX6_mix) := ggX5_mixInto_X6_mix
theorem dX5_mixInto_0 : decode cX5_mixInto 0 = .ok (.lload_n 1, 1) := by decide +kernel
theorem dX5_mixInto_1 : decode cX5_mixInto 1 = .ok (.lstore_n 3, 1) := by decide +kernel
theorem dX5_mixInto_2 : decode cX5_mixInto 2 = .ok (.iconst 0, 1) := by decide +kernel
theorem dX5_mixInto_3 : decode cX5_mixInto 3 = .ok (.istore 5, 2) := by decide +kernel
theorem dX5_mixInto_5 : decode cX5_mixInto 5 = .ok (.iload 5, 2) := by decide +kernel
theorem dX5_mixInto_7 : decode cX5_mixInto 7 = .ok (.aload_n 0, 1) := by decide +kernel
theorem dX5_mixInto_8 : decode cX5_mixInto 8 = .ok (.getfield 26, 3) := by decide +kernel
theorem dX5_mixInto_11 : decode cX5_mixInto 11 = .ok (.if_icmp .ge 79, 3) := by decide +kernel
theorem dX5_mixInto_14 : decode cX5_mixInto 14 = .ok (.lload_n 3, 1) := by decide +kernel
theorem dX5_mixInto_15 : decode cX5_mixInto 15 = .ok (.aload_n 0, 1) := by decide +kernel
theorem dX5_mixInto_16 : decode cX5_mixInto 16 = .ok (.iload 5, 2) := by decide +kernel
theorem dX5_mixInto_18 : decode cX5_mixInto 18 = .ok (.iconst 0, 1) := by decide +kernel
theorem dX5_mixInto_19 : decode cX5_mixInto 19 = .ok (.invokevirtual 56, 3) := by decide +kernel
theorem dX5_mixInto_22 : decode cX5_mixInto 22 = .ok (.invokestatic 59, 3) := by decide +kernel
theorem dX5_mixInto_25 : decode cX5_mixInto 25 = .ok (.lstore_n 3, 1) := by decide +kernel
theorem dX5_mixInto_26 : decode cX5_mixInto 26 = .ok (.lload_n 3, 1) := by decide +kernel
theorem dX5_mixInto_27 : decode cX5_mixInto 27 = .ok (.aload_n 0, 1) := by decide +kernel
theorem dX5_mixInto_28 : decode cX5_mixInto 28 = .ok (.iload 5, 2) := by decide +kernel
theorem dX5_mixInto_30 : decode cX5_mixInto 30 = .ok (.iconst 1, 1) := by decide +kernel
theorem dX5_mixInto_31 : decode cX5_mixInto 31 = .ok (.invokevirtual 56, 3) := by decide +kernel
theorem dX5_mixInto_34 : decode cX5_mixInto 34 = .ok (.invokestatic 59, 3) := by decide +kernel
theorem dX5_mixInto_37 : decode cX5_mixInto 37 = .ok (.lstore_n 3, 1) := by decide +kernel
theorem dX5_mixInto_38 : decode cX5_mixInto 38 = .ok (.iconst 0, 1) := by decide +kernel
theorem dX5_mixInto_39 : decode cX5_mixInto 39 = .ok (.istore 6, 2) := by decide +kernel
theorem dX5_mixInto_41 : decode cX5_mixInto 41 = .ok (.iload 6, 2) := by decide +kernel
theorem dX5_mixInto_43 : decode cX5_mixInto 43 = .ok (.bipush 24, 2) := by decide +kernel
theorem dX5_mixInto_45 : decode cX5_mixInto 45 = .ok (.if_icmp .ge 39, 3) := by decide +kernel
theorem dX5_mixInto_48 : decode cX5_mixInto 48 = .ok (.lload_n 3, 1) := by decide +kernel
theorem dX5_mixInto_49 : decode cX5_mixInto 49 = .ok (.aload_n 0, 1) := by decide +kernel
theorem dX5_mixInto_50 : decode cX5_mixInto 50 = .ok (.getfield 20, 3) := by decide +kernel
theorem dX5_mixInto_53 : decode cX5_mixInto 53 = .ok (.iload 5, 2) := by decide +kernel
theorem dX5_mixInto_55 : decode cX5_mixInto 55 = .ok (.aaload, 1) := by decide +kernel
theorem dX5_mixInto_56 : decode cX5_mixInto 56 = .ok (.iload 6, 2) := by decide +kernel
theorem dX5_mixInto_58 : decode cX5_mixInto 58 = .ok (.iaload, 1) := by decide +kernel
theorem dX5_mixInto_59 : decode cX5_mixInto 59 = .ok (.invokestatic 59, 3) := by decide +kernel
theorem dX5_mixInto_62 : decode cX5_mixInto 62 = .ok (.lstore_n 3, 1) := by decide +kernel
theorem dX5_mixInto_63 : decode cX5_mixInto 63 = .ok (.lload_n 3, 1) := by decide +kernel
theorem dX5_mixInto_64 : decode cX5_mixInto 64 = .ok (.aload_n 0, 1) := by decide +kernel
theorem dX5_mixInto_65 : decode cX5_mixInto 65 = .ok (.getfield 23, 3) := by decide +kernel
theorem dX5_mixInto_68 : decode cX5_mixInto 68 = .ok (.iload 5, 2) := by decide +kernel
theorem dX5_mixInto_70 : decode cX5_mixInto 70 = .ok (.aaload, 1) := by decide +kernel
theorem dX5_mixInto_71 : decode cX5_mixInto 71 = .ok (.iload 6, 2) := by decide +kernel
theorem dX5_mixInto_73 : decode cX5_mixInto 73 = .ok (.iaload, 1) := by decide +kernel
theorem dX5_mixInto_74 : decode cX5_mixInto 74 = .ok (.invokestatic 59, 3) := by decide +kernel
theorem dX5_mixInto_77 : decode cX5_mixInto 77 = .ok (.lstore_n 3, 1) := by decide +kernel
theorem dX5_mixInto_78 : decode cX5_mixInto 78 = .ok (.iinc 6 1, 3) := by decide +kernel
theorem dX5_mixInto_81 : decode cX5_mixInto 81 = .ok (.goto (-40), 3) := by decide +kernel
theorem dX5_mixInto_84 : decode cX5_mixInto 84 = .ok (.iinc 5 1, 3) := by decide +kernel
theorem dX5_mixInto_87 : decode cX5_mixInto 87 = .ok (.goto (-82), 3) := by decide +kernel
theorem dX5_mixInto_90 : decode cX5_mixInto 90 = .ok (.lload_n 3, 1) := by decide +kernel
theorem dX5_mixInto_91 : decode cX5_mixInto 91 = .ok (.lreturn, 1) := by decide +kernel
set_option maxRecDepth 20000 in
theorem ggX5_lowHour_X5_greatestNet : GoodIn wsX5_lowHour wsX5_greatestNet := goodIn_r _ [7, 1, 2, 8, 9, 10, 6, 11, 12, 13, 14, 15, 16, 17, 18, 19, 20, 21, 22, 23] (by decide +kernel) (by decide +kernel)
set_option maxRecDepth 20000 in
theorem gX5_lowHour_X5_greatestNet : GoodIn wsX5_lowHour (wsV RX5 53 RX5 yX5_greatestNet wsX5_greatestNet) := goodIn_app (goodIn_of _ (by decide +kernel)) ggX5_lowHour_X5_greatestNet
theorem dX5_lowHour_0 : decode cX5_lowHour 0 = .ok (.iconst (-1), 1) := by decide +kernel
theorem dX5_lowHour_1 : decode cX5_lowHour 1 = .ok (.istore_n 2, 1) := by decide +kernel
theorem dX5_lowHour_2 : decode cX5_lowHour 2 = .ok (.iconst 0, 1) := by decide +kernel
theorem dX5_lowHour_3 : decode cX5_lowHour 3 = .ok (.istore_n 3, 1) := by decide +kernel
theorem dX5_lowHour_4 : decode cX5_lowHour 4 = .ok (.iconst 1, 1) := by decide +kernel
theorem dX5_lowHour_5 : decode cX5_lowHour 5 = .ok (.istore 4, 2) := by decide +kernel
theorem dX5_lowHour_7 : decode cX5_lowHour 7 = .ok (.iload 4, 2) := by decide +kernel
theorem dX5_lowHour_9 : decode cX5_lowHour 9 = .ok (.iconst 4, 1) := by decide +kernel
theorem dX5_lowHour_10 : decode cX5_lowHour 10 = .ok (.if_icmp .gt 61, 3) := by decide +kernel
theorem dX5_lowHour_13 : decode cX5_lowHour 13 = .ok (.aload_n 0, 1) := by decide +kernel
theorem dX5_lowHour_14 : decode cX5_lowHour 14 = .ok (.getfield 20, 3) := by decide +kernel
theorem dX5_lowHour_17 : decode cX5_lowHour 17 = .ok (.iload_n 1, 1) := by decide +kernel
theorem dX5_lowHour_18 : decode cX5_lowHour 18 = .ok (.aaload, 1) := by decide +kernel
theorem dX5_lowHour_19 : decode cX5_lowHour 19 = .ok (.iload 4, 2) := by decide +kernel
theorem dX5_lowHour_21 : decode cX5_lowHour 21 = .ok (.iaload, 1) := by decide +kernel
theorem dX5_lowHour_22 : decode cX5_lowHour 22 = .ok (.iconst (-1), 1) := by decide +kernel
theorem dX5_lowHour_23 : decode cX5_lowHour 23 = .ok (.if_icmp .eq 42, 3) := by decide +kernel
theorem dX5_lowHour_26 : decode cX5_lowHour 26 = .ok (.aload_n 0, 1) := by decide +kernel
theorem dX5_lowHour_27 : decode cX5_lowHour 27 = .ok (.getfield 23, 3) := by decide +kernel
theorem dX5_lowHour_30 : decode cX5_lowHour 30 = .ok (.iload_n 1, 1) := by decide +kernel
theorem dX5_lowHour_31 : decode cX5_lowHour 31 = .ok (.aaload, 1) := by decide +kernel
theorem dX5_lowHour_32 : decode cX5_lowHour 32 = .ok (.iload 4, 2) := by decide +kernel
theorem dX5_lowHour_34 : decode cX5_lowHour 34 = .ok (.iaload, 1) := by decide +kernel
theorem dX5_lowHour_35 : decode cX5_lowHour 35 = .ok (.iconst (-1), 1) := by decide +kernel
theorem dX5_lowHour_36 : decode cX5_lowHour 36 = .ok (.if_icmp .eq 29, 3) := by decide +kernel
theorem dX5_lowHour_39 : decode cX5_lowHour 39 = .ok (.aload_n 0, 1) := by decide +kernel
theorem dX5_lowHour_40 : decode cX5_lowHour 40 = .ok (.iload_n 1, 1) := by decide +kernel
theorem dX5_lowHour_41 : decode cX5_lowHour 41 = .ok (.iload 4, 2) := by decide +kernel
theorem dX5_lowHour_43 : decode cX5_lowHour 43 = .ok (.invokevirtual 53, 3) := by decide +kernel
theorem dX5_lowHour_46 : decode cX5_lowHour 46 = .ok (.istore 5, 2) := by decide +kernel
theorem dX5_lowHour_48 : decode cX5_lowHour 48 = .ok (.iload_n 2, 1) := by decide +kernel
theorem dX5_lowHour_49 : decode cX5_lowHour 49 = .ok (.iconst (-1), 1) := by decide +kernel
theorem dX5_lowHour_50 : decode cX5_lowHour 50 = .ok (.if_icmp .eq 9, 3) := by decide +kernel
theorem dX5_lowHour_53 : decode cX5_lowHour 53 = .ok (.iload 5, 2) := by decide +kernel
theorem dX5_lowHour_55 : decode cX5_lowHour 55 = .ok (.iload_n 3, 1) := by decide +kernel
theorem dX5_lowHour_56 : decode cX5_lowHour 56 = .ok (.if_icmp .ge 9, 3) := by decide +kernel
theorem dX5_lowHour_59 : decode cX5_lowHour 59 = .ok (.iload 4, 2) := by decide +kernel
theorem dX5_lowHour_61 : decode cX5_lowHour 61 = .ok (.istore_n 2, 1) := by decide +kernel
theorem dX5_lowHour_62 : decode cX5_lowHour 62 = .ok (.iload 5, 2) := by decide +kernel
theorem dX5_lowHour_64 : decode cX5_lowHour 64 = .ok (.istore_n 3, 1) := by decide +kernel
theorem dX5_lowHour_65 : decode cX5_lowHour 65 = .ok (.iinc 4 1, 3) := by decide +kernel
theorem dX5_lowHour_68 : decode cX5_lowHour 68 = .ok (.goto (-61), 3) := by decide +kernel
theorem dX5_lowHour_71 : decode cX5_lowHour 71 = .ok (.iload_n 2, 1) := by decide +kernel
theorem dX5_lowHour_72 : decode cX5_lowHour 72 = .ok (.ireturn, 1) := by decide +kernel
set_option maxRecDepth 20000 in
theorem ggX5_leastNet_X5_leastOf : GoodIn wsX5_leastNet wsX5_leastOf := goodIn_r _ [7, 8, 13, 14, 15, 16, 17, 18, 19] (by decide +kernel) (by decide +kernel)
set_option maxRecDepth 20000 in
theorem gX5_leastNet_X5_leastOf : GoodIn wsX5_leastNet (wsV RX5 63 RX5 yX5_leastOf wsX5_leastOf) := goodIn_app (goodIn_of _ (by decide +kernel)) ggX5_leastNet_X5_leastOf
set_option maxRecDepth 20000 in
theorem ggX5_leastNet_X5_greatestOf : GoodIn wsX5_leastNet wsX5_greatestOf := goodIn_r _ [12, 8, 13, 14, 15, 16, 17, 18, 19] (by decide +kernel) (by decide +kernel)
set_option maxRecDepth 20000 in
theorem gX5_leastNet_X5_greatestOf : GoodIn wsX5_leastNet (wsV RX5 66 RX5 yX5_greatestOf wsX5_greatestOf) := goodIn_app (goodIn_of _ (by decide +kernel)) ggX5_leastNet_X5_greatestOf
theorem dX5_leastNet_0 : decode cX5_leastNet 0 = .ok (.aload_n 0, 1) := by decide +kernel
theorem dX5_leastNet_1 : decode cX5_leastNet 1 = .ok (.aload_n 0, 1) := by decide +kernel
theorem dX5_leastNet_2 : decode cX5_leastNet 2 = .ok (.getfield 20, 3) := by decide +kernel
theorem dX5_leastNet_5 : decode cX5_leastNet 5 = .ok (.iload_n 1, 1) := by decide +kernel
theorem dX5_leastNet_6 : decode cX5_leastNet 6 = .ok (.aaload, 1) := by decide +kernel
theorem dX5_leastNet_7 : decode cX5_leastNet 7 = .ok (.iload_n 2, 1) := by decide +kernel
theorem dX5_leastNet_8 : decode cX5_leastNet 8 = .ok (.iaload, 1) := by decide +kernel
theorem dX5_leastNet_9 : decode cX5_leastNet 9 = .ok (.invokevirtual 63, 3) := by decide +kernel
theorem dX5_leastNet_12 : decode cX5_leastNet 12 = .ok (.aload_n 0, 1) := by decide +kernel
theorem dX5_leastNet_13 : decode cX5_leastNet 13 = .ok (.aload_n 0, 1) := by decide +kernel
theorem dX5_leastNet_14 : decode cX5_leastNet 14 = .ok (.getfield 23, 3) := by decide +kernel
theorem dX5_leastNet_17 : decode cX5_leastNet 17 = .ok (.iload_n 1, 1) := by decide +kernel
theorem dX5_leastNet_18 : decode cX5_leastNet 18 = .ok (.aaload, 1) := by decide +kernel
theorem dX5_leastNet_19 : decode cX5_leastNet 19 = .ok (.iload_n 2, 1) := by decide +kernel
theorem dX5_leastNet_20 : decode cX5_leastNet 20 = .ok (.iaload, 1) := by decide +kernel
theorem dX5_leastNet_21 : decode cX5_leastNet 21 = .ok (.invokevirtual 66, 3) := by decide +kernel
theorem dX5_leastNet_24 : decode cX5_leastNet 24 = .ok (.isub, 1) := by decide +kernel
theorem dX5_leastNet_25 : decode cX5_leastNet 25 = .ok (.ireturn, 1) := by decide +kernel
set_option maxRecDepth 20000 in
theorem ggX5_greatestNet_X5_greatestOf : GoodIn wsX5_greatestNet wsX5_greatestOf := goodIn_r _ [7, 8, 13, 14, 15, 16, 17, 18, 19] (by decide +kernel) (by decide +kernel)
set_option maxRecDepth 20000 in
theorem gX5_greatestNet_X5_greatestOf : GoodIn wsX5_greatestNet (wsV RX5 66 RX5 yX5_greatestOf wsX5_greatestOf) := goodIn_app (goodIn_of _ (by decide +kernel)) ggX5_greatestNet_X5_greatestOf
set_option maxRecDepth 20000 in
theorem ggX5_greatestNet_X5_leastOf : GoodIn wsX5_greatestNet wsX5_leastOf := goodIn_r _ [12, 8, 13, 14, 15, 16, 17, 18, 19] (by decide +kernel) (by decide +kernel)
set_option maxRecDepth 20000 in
theorem gX5_greatestNet_X5_leastOf : GoodIn wsX5_greatestNet (wsV RX5 63 RX5 yX5_leastOf wsX5_leastOf) := goodIn_app (goodIn_of _ (by decide +kernel)) ggX5_greatestNet_X5_leastOf
theorem dX5_greatestNet_0 : decode cX5_greatestNet 0 = .ok (.aload_n 0, 1) := by decide +kernel
theorem dX5_greatestNet_1 : decode cX5_greatestNet 1 = .ok (.aload_n 0, 1) := by decide +kernel
theorem dX5_greatestNet_2 : decode cX5_greatestNet 2 = .ok (.getfield 20, 3) := by decide +kernel
theorem dX5_greatestNet_5 : decode cX5_greatestNet 5 = .ok (.iload_n 1, 1) := by decide +kernel
theorem dX5_greatestNet_6 : decode cX5_greatestNet 6 = .ok (.aaload, 1) := by decide +kernel
theorem dX5_greatestNet_7 : decode cX5_greatestNet 7 = .ok (.iload_n 2, 1) := by decide +kernel
theorem dX5_greatestNet_8 : decode cX5_greatestNet 8 = .ok (.iaload, 1) := by decide +kernel
theorem dX5_greatestNet_9 : decode cX5_greatestNet 9 = .ok (.invokevirtual 66, 3) := by decide +kernel
theorem dX5_greatestNet_12 : decode cX5_greatestNet 12 = .ok (.aload_n 0, 1) := by decide +kernel
theorem dX5_greatestNet_13 : decode cX5_greatestNet 13 = .ok (.aload_n 0, 1) := by decide +kernel
theorem dX5_greatestNet_14 : decode cX5_greatestNet 14 = .ok (.getfield 23, 3) := by decide +kernel
theorem dX5_greatestNet_17 : decode cX5_greatestNet 17 = .ok (.iload_n 1, 1) := by decide +kernel
theorem dX5_greatestNet_18 : decode cX5_greatestNet 18 = .ok (.aaload, 1) := by decide +kernel
theorem dX5_greatestNet_19 : decode cX5_greatestNet 19 = .ok (.iload_n 2, 1) := by decide +kernel
theorem dX5_greatestNet_20 : decode cX5_greatestNet 20 = .ok (.iaload, 1) := by decide +kernel
theorem dX5_greatestNet_21 : decode cX5_greatestNet 21 = .ok (.invokevirtual 63, 3) := by decide +kernel
theorem dX5_greatestNet_24 : decode cX5_greatestNet 24 = .ok (.isub, 1) := by decide +kernel
theorem dX5_greatestNet_25 : decode cX5_greatestNet 25 = .ok (.ireturn, 1) := by decide +kernel
theorem dX5_leastOf_0 : decode cX5_leastOf 0 = .ok (.iload_n 1, 1) := by decide +kernel
theorem dX5_leastOf_1 : decode cX5_leastOf 1 = .ok (.sipush 1000, 3) := by decide +kernel
theorem dX5_leastOf_4 : decode cX5_leastOf 4 = .ok (.aload_n 0, 1) := by decide +kernel
theorem dX5_leastOf_5 : decode cX5_leastOf 5 = .ok (.getfield 30, 3) := by decide +kernel
theorem dX5_leastOf_8 : decode cX5_leastOf 8 = .ok (.isub, 1) := by decide +kernel
theorem dX5_leastOf_9 : decode cX5_leastOf 9 = .ok (.imul, 1) := by decide +kernel
theorem dX5_leastOf_10 : decode cX5_leastOf 10 = .ok (.sipush 1000, 3) := by decide +kernel
theorem dX5_leastOf_13 : decode cX5_leastOf 13 = .ok (.idiv, 1) := by decide +kernel
theorem dX5_leastOf_14 : decode cX5_leastOf 14 = .ok (.ireturn, 1) := by decide +kernel
theorem dX5_greatestOf_0 : decode cX5_greatestOf 0 = .ok (.iload_n 1, 1) := by decide +kernel
theorem dX5_greatestOf_1 : decode cX5_greatestOf 1 = .ok (.sipush 1000, 3) := by decide +kernel
theorem dX5_greatestOf_4 : decode cX5_greatestOf 4 = .ok (.aload_n 0, 1) := by decide +kernel
theorem dX5_greatestOf_5 : decode cX5_greatestOf 5 = .ok (.getfield 30, 3) := by decide +kernel
theorem dX5_greatestOf_8 : decode cX5_greatestOf 8 = .ok (.iadd, 1) := by decide +kernel
theorem dX5_greatestOf_9 : decode cX5_greatestOf 9 = .ok (.imul, 1) := by decide +kernel
theorem dX5_greatestOf_10 : decode cX5_greatestOf 10 = .ok (.sipush 999, 3) := by decide +kernel
theorem dX5_greatestOf_13 : decode cX5_greatestOf 13 = .ok (.iadd, 1) := by decide +kernel
theorem dX5_greatestOf_14 : decode cX5_greatestOf 14 = .ok (.sipush 1000, 3) := by decide +kernel
theorem dX5_greatestOf_17 : decode cX5_greatestOf 17 = .ok (.idiv, 1) := by decide +kernel
theorem dX5_greatestOf_18 : decode cX5_greatestOf 18 = .ok (.ireturn, 1) := by decide +kernel
set_option maxRecDepth 20000 in
theorem ggX6_init_X5_init : GoodIn wsX6_init wsX5_init := goodIn_r _ [25, 26, 2, 3, 27, 28, 29, 30, 31, 32, 33, 34, 35, 82, 83, 84, 85, 86, 87, 88] (by decide +kernel) (by decide +kernel)
set_option maxRecDepth 20000 in
theorem gX6_init_X5_init_n9 : GoodIn wsX6_init (wsX5_init) := ggX6_init_X5_init
set_option maxRecDepth 20000 in
theorem ggX6_init_X4_init : GoodIn wsX6_init wsX4_init := goodIn_r _ [38, 39, 2, 3, 27, 40, 41, 42, 43, 44, 45, 46, 47, 48, 94, 95, 96, 97, 98, 99, 100, 101] (by decide +kernel) (by decide +kernel)
set_option maxRecDepth 20000 in
theorem gX6_init_X4_init : GoodIn wsX6_init (wsX4_init) := ggX6_init_X4_init
set_option maxRecDepth 20000 in
theorem ggX6_init_X1_init : GoodIn wsX6_init wsX1_init := goodIn_r _ [50, 51, 2, 3, 52, 27, 53, 102] (by decide +kernel) (by decide +kernel)
set_option maxRecDepth 20000 in
theorem gX6_init_X1_init_n27 : GoodIn wsX6_init (wsX1_init) := ggX6_init_X1_init
set_option maxRecDepth 20000 in
theorem ggX6_init_X3_init : GoodIn wsX6_init wsX3_init := goodIn_r _ [56, 57, 2, 3, 27, 58, 59, 60, 61, 62, 63, 64, 65, 18, 66, 67, 68, 69, 70, 71, 72, 73, 74, 103, 104, 105, 106] (by decide +kernel) (by decide +kernel)
set_option maxRecDepth 20000 in
theorem gX6_init_X3_init : GoodIn wsX6_init (wsX3_init) := ggX6_init_X3_init
set_option maxRecDepth 20000 in
theorem ggX6_init_X0_init : GoodIn wsX6_init wsX0_init := goodIn_r _ [76, 77, 2, 3, 27, 78, 79, 80, 81, 107, 108, 109, 110] (by decide +kernel) (by decide +kernel)
set_option maxRecDepth 20000 in
theorem gX6_init_X0_init_n41 : GoodIn wsX6_init (wsX0_init) := ggX6_init_X0_init
theorem dX6_init_0 : decode cX6_init 0 = .ok (.aload_n 0, 1) := by decide +kernel
theorem dX6_init_1 : decode cX6_init 1 = .ok (.invokespecial 1, 3) := by decide +kernel
theorem dX6_init_4 : decode cX6_init 4 = .ok (.aload_n 0, 1) := by decide +kernel
theorem dX6_init_5 : decode cX6_init 5 = .ok (.new 7, 3) := by decide +kernel
theorem dX6_init_8 : decode cX6_init 8 = .ok (.dup, 1) := by decide +kernel
theorem dX6_init_9 : decode cX6_init 9 = .ok (.invokespecial 9, 3) := by decide +kernel
theorem dX6_init_12 : decode cX6_init 12 = .ok (.putfield 10, 3) := by decide +kernel
theorem dX6_init_15 : decode cX6_init 15 = .ok (.aload_n 0, 1) := by decide +kernel
theorem dX6_init_16 : decode cX6_init 16 = .ok (.new 16, 3) := by decide +kernel
theorem dX6_init_19 : decode cX6_init 19 = .ok (.dup, 1) := by decide +kernel
theorem dX6_init_20 : decode cX6_init 20 = .ok (.aload_n 0, 1) := by decide +kernel
theorem dX6_init_21 : decode cX6_init 21 = .ok (.getfield 10, 3) := by decide +kernel
theorem dX6_init_24 : decode cX6_init 24 = .ok (.invokespecial 18, 3) := by decide +kernel
theorem dX6_init_27 : decode cX6_init 27 = .ok (.putfield 21, 3) := by decide +kernel
theorem dX6_init_30 : decode cX6_init 30 = .ok (.aload_n 0, 1) := by decide +kernel
theorem dX6_init_31 : decode cX6_init 31 = .ok (.new 25, 3) := by decide +kernel
theorem dX6_init_34 : decode cX6_init 34 = .ok (.dup, 1) := by decide +kernel
theorem dX6_init_35 : decode cX6_init 35 = .ok (.invokespecial 27, 3) := by decide +kernel
theorem dX6_init_38 : decode cX6_init 38 = .ok (.putfield 28, 3) := by decide +kernel
theorem dX6_init_41 : decode cX6_init 41 = .ok (.aload_n 0, 1) := by decide +kernel
theorem dX6_init_42 : decode cX6_init 42 = .ok (.new 32, 3) := by decide +kernel
theorem dX6_init_45 : decode cX6_init 45 = .ok (.dup, 1) := by decide +kernel
theorem dX6_init_46 : decode cX6_init 46 = .ok (.invokespecial 34, 3) := by decide +kernel
theorem dX6_init_49 : decode cX6_init 49 = .ok (.putfield 35, 3) := by decide +kernel
theorem dX6_init_52 : decode cX6_init 52 = .ok (.aload_n 0, 1) := by decide +kernel
theorem dX6_init_53 : decode cX6_init 53 = .ok (.new 39, 3) := by decide +kernel
theorem dX6_init_56 : decode cX6_init 56 = .ok (.dup, 1) := by decide +kernel
theorem dX6_init_57 : decode cX6_init 57 = .ok (.invokespecial 41, 3) := by decide +kernel
theorem dX6_init_60 : decode cX6_init 60 = .ok (.putfield 42, 3) := by decide +kernel
theorem dX6_init_63 : decode cX6_init 63 = .ok (.return_, 1) := by decide +kernel
set_option maxRecDepth 20000 in
theorem ggX6_zone_X5_add : GoodIn wsX6_zone wsX5_add := goodIn_r _ [6, 7, 8, 9, 10, 11, 12, 18, 19, 20, 21, 22, 23, 24] (by decide +kernel) (by decide +kernel)
set_option maxRecDepth 20000 in
theorem gX6_zone_X5_add : GoodIn wsX6_zone (wsV RX6 46 RX5 yX5_add wsX5_add) := goodIn_app (goodIn_of _ (by decide +kernel)) ggX6_zone_X5_add
theorem dX6_zone_0 : decode cX6_zone 0 = .ok (.aload_n 0, 1) := by decide +kernel
theorem dX6_zone_1 : decode cX6_zone 1 = .ok (.getfield 10, 3) := by decide +kernel
theorem dX6_zone_4 : decode cX6_zone 4 = .ok (.iload_n 1, 1) := by decide +kernel
theorem dX6_zone_5 : decode cX6_zone 5 = .ok (.iload_n 2, 1) := by decide +kernel
theorem dX6_zone_6 : decode cX6_zone 6 = .ok (.invokevirtual 46, 3) := by decide +kernel
theorem dX6_zone_9 : decode cX6_zone 9 = .ok (.ireturn, 1) := by decide +kernel
set_option maxRecDepth 20000 in
theorem ggX6_rules_X5_setRules : GoodIn wsX6_rules wsX5_setRules := goodIn_r _ [6, 7, 8, 9, 10, 11, 17, 18, 19, 20, 21, 22, 23] (by decide +kernel) (by decide +kernel)
set_option maxRecDepth 20000 in
theorem gX6_rules_X5_setRules : GoodIn wsX6_rules (wsV RX6 50 RX5 yX5_setRules wsX5_setRules) := goodIn_app (goodIn_of _ (by decide +kernel)) ggX6_rules_X5_setRules
theorem dX6_rules_0 : decode cX6_rules 0 = .ok (.aload_n 0, 1) := by decide +kernel
theorem dX6_rules_1 : decode cX6_rules 1 = .ok (.getfield 10, 3) := by decide +kernel
theorem dX6_rules_4 : decode cX6_rules 4 = .ok (.iload_n 1, 1) := by decide +kernel
theorem dX6_rules_5 : decode cX6_rules 5 = .ok (.iload_n 2, 1) := by decide +kernel
theorem dX6_rules_6 : decode cX6_rules 6 = .ok (.invokevirtual 50, 3) := by decide +kernel
theorem dX6_rules_9 : decode cX6_rules 9 = .ok (.ireturn, 1) := by decide +kernel
set_option maxRecDepth 20000 in
theorem ggX6_read_X5_setReading : GoodIn wsX6_read wsX5_setReading := goodIn_r _ [6, 7, 8, 9, 10, 11, 5, 12, 13, 14, 15, 16, 22, 23, 24, 25, 26, 27, 28] (by decide +kernel) (by decide +kernel)
set_option maxRecDepth 20000 in
theorem gX6_read_X5_setReading : GoodIn wsX6_read (wsV RX6 53 RX5 yX5_setReading wsX5_setReading) := goodIn_app (goodIn_of _ (by decide +kernel)) ggX6_read_X5_setReading
theorem dX6_read_0 : decode cX6_read 0 = .ok (.aload_n 0, 1) := by decide +kernel
theorem dX6_read_1 : decode cX6_read 1 = .ok (.getfield 10, 3) := by decide +kernel
theorem dX6_read_4 : decode cX6_read 4 = .ok (.iload_n 1, 1) := by decide +kernel
theorem dX6_read_5 : decode cX6_read 5 = .ok (.iload_n 2, 1) := by decide +kernel
theorem dX6_read_6 : decode cX6_read 6 = .ok (.iload_n 3, 1) := by decide +kernel
theorem dX6_read_7 : decode cX6_read 7 = .ok (.iload 4, 2) := by decide +kernel
theorem dX6_read_9 : decode cX6_read 9 = .ok (.invokevirtual 53, 3) := by decide +kernel
theorem dX6_read_12 : decode cX6_read 12 = .ok (.ireturn, 1) := by decide +kernel
set_option maxRecDepth 20000 in
theorem ggX6_low_X5_lowPart : GoodIn wsX6_low wsX5_lowPart := goodIn_r _ [6, 7, 8, 9, 10, 5, 11, 12, 13, 14, 15, 16, 17, 18, 19, 20, 21, 22, 23, 24, 25, 26, 27, 28, 29, 30, 31, 32, 33, 34, 35, 36, 37, 38, 44, 45, 46, 47, 48, 49, 50] (by decide +kernel) (by decide +kernel)
set_option maxRecDepth 20000 in
theorem gX6_low_X5_lowPart : GoodIn wsX6_low (wsV RX6 57 RX5 yX5_lowPart wsX5_lowPart) := goodIn_app (goodIn_of _ (by decide +kernel)) ggX6_low_X5_lowPart
theorem dX6_low_0 : decode cX6_low 0 = .ok (.aload_n 0, 1) := by decide +kernel
theorem dX6_low_1 : decode cX6_low 1 = .ok (.getfield 10, 3) := by decide +kernel
theorem dX6_low_4 : decode cX6_low 4 = .ok (.iload_n 1, 1) := by decide +kernel
theorem dX6_low_5 : decode cX6_low 5 = .ok (.iload_n 2, 1) := by decide +kernel
theorem dX6_low_6 : decode cX6_low 6 = .ok (.invokevirtual 57, 3) := by decide +kernel
theorem dX6_low_9 : decode cX6_low 9 = .ok (.ireturn, 1) := by decide +kernel
set_option maxRecDepth 20000 in
theorem ggX6_leaks_X5_leak : GoodIn wsX6_leaks wsX5_leak := goodIn_r _ [6, 7, 8, 9, 10, 11, 12, 13, 5, 14, 15, 16, 17, 18, 19, 20, 21, 22, 23, 24, 25, 26, 27, 28, 29, 30, 31, 32, 33, 34, 35, 36, 37, 38, 39, 40, 41, 47, 48, 49, 50, 51, 52, 53] (by decide +kernel) (by decide +kernel)
set_option maxRecDepth 20000 in
theorem gX6_leaks_X5_leak : GoodIn wsX6_leaks (wsV RX6 60 RX5 yX5_leak wsX5_leak) := goodIn_app (goodIn_of _ (by decide +kernel)) ggX6_leaks_X5_leak
theorem dX6_leaks_0 : decode cX6_leaks 0 = .ok (.aload_n 0, 1) := by decide +kernel
theorem dX6_leaks_1 : decode cX6_leaks 1 = .ok (.getfield 10, 3) := by decide +kernel
theorem dX6_leaks_4 : decode cX6_leaks 4 = .ok (.iload_n 1, 1) := by decide +kernel
theorem dX6_leaks_5 : decode cX6_leaks 5 = .ok (.iload_n 2, 1) := by decide +kernel
theorem dX6_leaks_6 : decode cX6_leaks 6 = .ok (.invokevirtual 60, 3) := by decide +kernel
theorem dX6_leaks_9 : decode cX6_leaks 9 = .ok (.ireturn, 1) := by decide +kernel
set_option maxRecDepth 20000 in
theorem ggX6_valve_X4_add : GoodIn wsX6_valve wsX4_add := goodIn_r _ [6, 7, 8, 9, 10, 11, 12, 13, 14, 15, 16, 17, 18, 19, 25, 26, 27, 28, 29, 30, 31, 32, 33, 34, 35, 36, 37, 38, 39] (by decide +kernel) (by decide +kernel)
set_option maxRecDepth 20000 in
theorem gX6_valve_X4_add : GoodIn wsX6_valve (wsV RX6 63 RX4 yX4_add wsX4_add) := goodIn_app (goodIn_of _ (by decide +kernel)) ggX6_valve_X4_add
theorem dX6_valve_0 : decode cX6_valve 0 = .ok (.aload_n 0, 1) := by decide +kernel
theorem dX6_valve_1 : decode cX6_valve 1 = .ok (.getfield 21, 3) := by decide +kernel
theorem dX6_valve_4 : decode cX6_valve 4 = .ok (.iload_n 1, 1) := by decide +kernel
theorem dX6_valve_5 : decode cX6_valve 5 = .ok (.iload_n 2, 1) := by decide +kernel
theorem dX6_valve_6 : decode cX6_valve 6 = .ok (.invokevirtual 63, 3) := by decide +kernel
theorem dX6_valve_9 : decode cX6_valve 9 = .ok (.ireturn, 1) := by decide +kernel
set_option maxRecDepth 20000 in
theorem ggX6_group_X4_leastOfGroup : GoodIn wsX6_group wsX4_leastOfGroup := goodIn_r _ [6, 7, 8, 9, 10, 11, 12, 13, 14, 15, 16, 17, 18, 19, 20, 5, 21, 22, 23, 24, 25, 26, 27, 28, 29, 30, 31, 32, 33, 34, 35, 36, 37, 38, 39, 40, 41, 42, 43, 44, 45, 46, 47, 53, 54, 55, 56, 57, 58, 59, 60, 61, 62, 63, 64, 65, 66, 67] (by decide +kernel) (by decide +kernel)
set_option maxRecDepth 20000 in
theorem gX6_group_X4_leastOfGroup : GoodIn wsX6_group (wsV RX6 64 RX4 yX4_leastOfGroup wsX4_leastOfGroup) := goodIn_app (goodIn_of _ (by decide +kernel)) ggX6_group_X4_leastOfGroup
theorem dX6_group_0 : decode cX6_group 0 = .ok (.aload_n 0, 1) := by decide +kernel
theorem dX6_group_1 : decode cX6_group 1 = .ok (.getfield 21, 3) := by decide +kernel
theorem dX6_group_4 : decode cX6_group 4 = .ok (.iload_n 1, 1) := by decide +kernel
theorem dX6_group_5 : decode cX6_group 5 = .ok (.iload_n 2, 1) := by decide +kernel
theorem dX6_group_6 : decode cX6_group 6 = .ok (.invokevirtual 64, 3) := by decide +kernel
theorem dX6_group_9 : decode cX6_group 9 = .ok (.ireturn, 1) := by decide +kernel
set_option maxRecDepth 20000 in
theorem ggX6_explains_X4_answerExplains : GoodIn wsX6_explains wsX4_answerExplains := goodIn_r _ [6, 7, 8, 9, 5, 10, 11, 12, 13, 14, 15, 16, 17, 18, 19, 20, 21, 22, 23, 24, 25, 26, 27, 28, 29, 30, 31, 32, 33, 34, 35, 36, 37, 38, 39, 40, 41, 42, 43, 44, 45, 46, 47, 48, 49, 50, 51, 52, 53, 54, 55, 56, 57, 58, 59, 60, 61, 62, 63, 64, 65, 66, 67, 68, 69, 70, 71, 72, 73, 74, 75, 76, 77, 78, 79, 80, 81, 82, 83, 84, 85, 86, 87, 88, 89, 90, 96, 97, 98, 99, 100, 101, 102, 103, 104, 105, 106, 107, 108, 109, 110] (by decide +kernel) (by decide +kernel)
set_option maxRecDepth 20000 in
theorem gX6_explains_X4_answerExplains : GoodIn wsX6_explains (wsV RX6 67 RX4 yX4_answerExplains wsX4_answerExplains) := goodIn_app (goodIn_of _ (by decide +kernel)) ggX6_explains_X4_answerExplains
theorem dX6_explains_0 : decode cX6_explains 0 = .ok (.aload_n 0, 1) := by decide +kernel
theorem dX6_explains_1 : decode cX6_explains 1 = .ok (.getfield 21, 3) := by decide +kernel
theorem dX6_explains_4 : decode cX6_explains 4 = .ok (.iload_n 1, 1) := by decide +kernel
theorem dX6_explains_5 : decode cX6_explains 5 = .ok (.invokevirtual 67, 3) := by decide +kernel
theorem dX6_explains_8 : decode cX6_explains 8 = .ok (.ireturn, 1) := by decide +kernel
set_option maxRecDepth 20000 in
theorem ggX6_fewest_X4_fewestSet : GoodIn wsX6_fewest wsX4_fewestSet := goodIn_r _ [6, 7, 8, 9, 5, 10, 11, 12, 13, 14, 15, 16, 17, 18, 19, 20, 21, 22, 23, 24, 25, 26, 27, 28, 29, 30, 31, 32, 33, 34, 35, 36, 37, 38, 39, 40, 41, 42, 43, 44, 45, 46, 47, 48, 49, 50, 51, 52, 53, 54, 55, 56, 57, 58, 59, 60, 61, 62, 63, 64, 65, 66, 67, 68, 69, 70, 71, 72, 73, 74, 75, 76, 77, 78, 79, 80, 81, 82, 83, 84, 85, 86, 87, 88, 89, 90, 91, 92, 93, 99, 100, 101, 102, 103, 104, 105, 106, 107, 108, 109, 110, 111, 112, 113] (by decide +kernel) (by decide +kernel)
set_option maxRecDepth 20000 in
theorem gX6_fewest_X4_fewestSet : GoodIn wsX6_fewest (wsV RX6 71 RX4 yX4_fewestSet wsX4_fewestSet) := goodIn_app (goodIn_of _ (by decide +kernel)) ggX6_fewest_X4_fewestSet
theorem dX6_fewest_0 : decode cX6_fewest 0 = .ok (.aload_n 0, 1) := by decide +kernel
theorem dX6_fewest_1 : decode cX6_fewest 1 = .ok (.getfield 21, 3) := by decide +kernel
theorem dX6_fewest_4 : decode cX6_fewest 4 = .ok (.invokevirtual 71, 3) := by decide +kernel
theorem dX6_fewest_7 : decode cX6_fewest 7 = .ok (.ireturn, 1) := by decide +kernel
set_option maxRecDepth 20000 in
theorem ggX6_sample_X1_setSample : GoodIn wsX6_sample wsX1_setSample := goodIn_r _ [6, 7, 8, 9, 10, 11, 17] (by decide +kernel) (by decide +kernel)
set_option maxRecDepth 20000 in
theorem gX6_sample_X1_setSample : GoodIn wsX6_sample (wsV RX6 75 RX1 yX1_setSample wsX1_setSample) := goodIn_app (goodIn_of _ (by decide +kernel)) ggX6_sample_X1_setSample
theorem dX6_sample_0 : decode cX6_sample 0 = .ok (.aload_n 0, 1) := by decide +kernel
theorem dX6_sample_1 : decode cX6_sample 1 = .ok (.getfield 28, 3) := by decide +kernel
theorem dX6_sample_4 : decode cX6_sample 4 = .ok (.iload_n 1, 1) := by decide +kernel
theorem dX6_sample_5 : decode cX6_sample 5 = .ok (.iload_n 2, 1) := by decide +kernel
theorem dX6_sample_6 : decode cX6_sample 6 = .ok (.iload_n 3, 1) := by decide +kernel
theorem dX6_sample_7 : decode cX6_sample 7 = .ok (.invokevirtual 75, 3) := by decide +kernel
theorem dX6_sample_10 : decode cX6_sample 10 = .ok (.ireturn, 1) := by decide +kernel
set_option maxRecDepth 20000 in
theorem ggX6_echo_X1_copySamples : GoodIn wsX6_echo wsX1_copySamples := goodIn_r _ [6, 7, 8, 9, 10, 16] (by decide +kernel) (by decide +kernel)
set_option maxRecDepth 20000 in
theorem gX6_echo_X1_copySamples : GoodIn wsX6_echo (wsV RX6 79 RX1 yX1_copySamples wsX1_copySamples) := goodIn_app (goodIn_of _ (by decide +kernel)) ggX6_echo_X1_copySamples
theorem dX6_echo_0 : decode cX6_echo 0 = .ok (.aload_n 0, 1) := by decide +kernel
theorem dX6_echo_1 : decode cX6_echo 1 = .ok (.getfield 28, 3) := by decide +kernel
theorem dX6_echo_4 : decode cX6_echo 4 = .ok (.iload_n 1, 1) := by decide +kernel
theorem dX6_echo_5 : decode cX6_echo 5 = .ok (.iload_n 2, 1) := by decide +kernel
theorem dX6_echo_6 : decode cX6_echo 6 = .ok (.iload_n 3, 1) := by decide +kernel
theorem dX6_echo_7 : decode cX6_echo 7 = .ok (.iload 4, 2) := by decide +kernel
theorem dX6_echo_9 : decode cX6_echo 9 = .ok (.invokevirtual 79, 3) := by decide +kernel
theorem dX6_echo_12 : decode cX6_echo 12 = .ok (.ireturn, 1) := by decide +kernel
set_option maxRecDepth 20000 in
theorem ggX6_sum_X1_sumPart : GoodIn wsX6_sum wsX1_sumPart := goodIn_r _ [6, 7, 8, 9, 10, 11, 12, 13, 5, 14, 15, 16, 17, 18, 19, 20, 21, 22, 23, 29] (by decide +kernel) (by decide +kernel)
set_option maxRecDepth 20000 in
theorem gX6_sum_X1_sumPart : GoodIn wsX6_sum (wsV RX6 83 RX1 yX1_sumPart wsX1_sumPart) := goodIn_app (goodIn_of _ (by decide +kernel)) ggX6_sum_X1_sumPart
theorem dX6_sum_0 : decode cX6_sum 0 = .ok (.aload_n 0, 1) := by decide +kernel
theorem dX6_sum_1 : decode cX6_sum 1 = .ok (.getfield 28, 3) := by decide +kernel
theorem dX6_sum_4 : decode cX6_sum 4 = .ok (.iload_n 1, 1) := by decide +kernel
theorem dX6_sum_5 : decode cX6_sum 5 = .ok (.iload_n 2, 1) := by decide +kernel
theorem dX6_sum_6 : decode cX6_sum 6 = .ok (.invokevirtual 83, 3) := by decide +kernel
theorem dX6_sum_9 : decode cX6_sum 9 = .ok (.ireturn, 1) := by decide +kernel
set_option maxRecDepth 20000 in
theorem ggX6_delay_X1_findDelay : GoodIn wsX6_delay wsX1_findDelay := goodIn_r _ [6, 7, 8, 9, 5, 10, 11, 12, 13, 14, 15, 16, 17, 18, 19, 20, 21, 22, 23, 24, 25, 26, 27, 28, 29, 30, 31, 37] (by decide +kernel) (by decide +kernel)
set_option maxRecDepth 20000 in
theorem gX6_delay_X1_findDelay : GoodIn wsX6_delay (wsV RX6 86 RX1 yX1_findDelay wsX1_findDelay) := goodIn_app (goodIn_of _ (by decide +kernel)) ggX6_delay_X1_findDelay
theorem dX6_delay_0 : decode cX6_delay 0 = .ok (.aload_n 0, 1) := by decide +kernel
theorem dX6_delay_1 : decode cX6_delay 1 = .ok (.getfield 28, 3) := by decide +kernel
theorem dX6_delay_4 : decode cX6_delay 4 = .ok (.iload_n 1, 1) := by decide +kernel
theorem dX6_delay_5 : decode cX6_delay 5 = .ok (.invokevirtual 86, 3) := by decide +kernel
theorem dX6_delay_8 : decode cX6_delay 8 = .ok (.ireturn, 1) := by decide +kernel
set_option maxRecDepth 20000 in
theorem ggX6_place_X1_twicePlace : GoodIn wsX6_place wsX1_twicePlace := goodIn_r _ [6, 7, 8, 9, 10, 11, 12, 13, 14, 15, 16, 17, 18, 19, 20, 5, 21, 22, 23, 24, 25, 26, 27, 28, 29, 30, 31, 32, 33, 34, 35, 36, 37, 38, 39, 40, 41, 42, 43, 44, 45, 51] (by decide +kernel) (by decide +kernel)
set_option maxRecDepth 20000 in
theorem gX6_place_X1_twicePlace : GoodIn wsX6_place (wsV RX6 90 RX1 yX1_twicePlace wsX1_twicePlace) := goodIn_app (goodIn_of _ (by decide +kernel)) ggX6_place_X1_twicePlace
theorem dX6_place_0 : decode cX6_place 0 = .ok (.aload_n 0, 1) := by decide +kernel
theorem dX6_place_1 : decode cX6_place 1 = .ok (.getfield 28, 3) := by decide +kernel
theorem dX6_place_4 : decode cX6_place 4 = .ok (.iload_n 1, 1) := by decide +kernel
theorem dX6_place_5 : decode cX6_place 5 = .ok (.iload_n 2, 1) := by decide +kernel
theorem dX6_place_6 : decode cX6_place 6 = .ok (.iload_n 3, 1) := by decide +kernel
theorem dX6_place_7 : decode cX6_place 7 = .ok (.iload 4, 2) := by decide +kernel
theorem dX6_place_9 : decode cX6_place 9 = .ok (.invokevirtual 90, 3) := by decide +kernel
theorem dX6_place_12 : decode cX6_place 12 = .ok (.ireturn, 1) := by decide +kernel
set_option maxRecDepth 20000 in
theorem ggX6_section_X3_setWeight : GoodIn wsX6_section wsX3_setWeight := goodIn_r _ [6, 7, 8, 9, 10, 11, 12, 13, 14, 5, 15, 16, 17, 18, 19, 20, 21, 22, 23, 24, 25, 31, 32, 33, 34] (by decide +kernel) (by decide +kernel)
set_option maxRecDepth 20000 in
theorem gX6_section_X3_setWeight : GoodIn wsX6_section (wsV RX6 93 RX3 yX3_setWeight wsX3_setWeight) := goodIn_app (goodIn_of _ (by decide +kernel)) ggX6_section_X3_setWeight
theorem dX6_section_0 : decode cX6_section 0 = .ok (.aload_n 0, 1) := by decide +kernel
theorem dX6_section_1 : decode cX6_section 1 = .ok (.getfield 35, 3) := by decide +kernel
theorem dX6_section_4 : decode cX6_section 4 = .ok (.iload_n 1, 1) := by decide +kernel
theorem dX6_section_5 : decode cX6_section 5 = .ok (.iload_n 2, 1) := by decide +kernel
theorem dX6_section_6 : decode cX6_section 6 = .ok (.iload_n 3, 1) := by decide +kernel
theorem dX6_section_7 : decode cX6_section 7 = .ok (.invokevirtual 93, 3) := by decide +kernel
theorem dX6_section_10 : decode cX6_section 10 = .ok (.ireturn, 1) := by decide +kernel
set_option maxRecDepth 20000 in
theorem ggX6_cost_X3_planCost : GoodIn wsX6_cost wsX3_planCost := goodIn_r _ [6, 7, 8, 9, 10, 5, 11, 12, 13, 14, 15, 21, 22, 23, 24] (by decide +kernel) (by decide +kernel)
set_option maxRecDepth 20000 in
theorem gX6_cost_X3_planCost : GoodIn wsX6_cost (wsV RX6 96 RX3 yX3_planCost wsX3_planCost) := goodIn_app (goodIn_of _ (by decide +kernel)) ggX6_cost_X3_planCost
theorem dX6_cost_0 : decode cX6_cost 0 = .ok (.aload_n 0, 1) := by decide +kernel
theorem dX6_cost_1 : decode cX6_cost 1 = .ok (.getfield 35, 3) := by decide +kernel
theorem dX6_cost_4 : decode cX6_cost 4 = .ok (.iload_n 1, 1) := by decide +kernel
theorem dX6_cost_5 : decode cX6_cost 5 = .ok (.iload_n 2, 1) := by decide +kernel
theorem dX6_cost_6 : decode cX6_cost 6 = .ok (.invokevirtual 96, 3) := by decide +kernel
theorem dX6_cost_9 : decode cX6_cost 9 = .ok (.ireturn, 1) := by decide +kernel
set_option maxRecDepth 20000 in
theorem ggX6_closes_X3_planStart : GoodIn wsX6_closes wsX3_planStart := goodIn_r _ [6, 7, 8, 9, 10, 5, 11, 12, 13, 14, 15, 21, 22, 23, 24] (by decide +kernel) (by decide +kernel)
set_option maxRecDepth 20000 in
theorem gX6_closes_X3_planStart : GoodIn wsX6_closes (wsV RX6 99 RX3 yX3_planStart wsX3_planStart) := goodIn_app (goodIn_of _ (by decide +kernel)) ggX6_closes_X3_planStart
theorem dX6_closes_0 : decode cX6_closes 0 = .ok (.aload_n 0, 1) := by decide +kernel
theorem dX6_closes_1 : decode cX6_closes 1 = .ok (.getfield 35, 3) := by decide +kernel
theorem dX6_closes_4 : decode cX6_closes 4 = .ok (.iload_n 1, 1) := by decide +kernel
theorem dX6_closes_5 : decode cX6_closes 5 = .ok (.iload_n 2, 1) := by decide +kernel
theorem dX6_closes_6 : decode cX6_closes 6 = .ok (.invokevirtual 99, 3) := by decide +kernel
theorem dX6_closes_9 : decode cX6_closes 9 = .ok (.ireturn, 1) := by decide +kernel
set_option maxRecDepth 20000 in
theorem ggX6_closings_X3_closingsFor : GoodIn wsX6_closings wsX3_closingsFor := goodIn_r _ [6, 7, 8, 9, 10, 11, 17, 18, 19, 20] (by decide +kernel) (by decide +kernel)
set_option maxRecDepth 20000 in
theorem gX6_closings_X3_closingsFor : GoodIn wsX6_closings (wsV RX6 102 RX3 yX3_closingsFor wsX3_closingsFor) := goodIn_app (goodIn_of _ (by decide +kernel)) ggX6_closings_X3_closingsFor
theorem dX6_closings_0 : decode cX6_closings 0 = .ok (.aload_n 0, 1) := by decide +kernel
theorem dX6_closings_1 : decode cX6_closings 1 = .ok (.getfield 35, 3) := by decide +kernel
theorem dX6_closings_4 : decode cX6_closings 4 = .ok (.iload_n 1, 1) := by decide +kernel
theorem dX6_closings_5 : decode cX6_closings 5 = .ok (.invokevirtual 102, 3) := by decide +kernel
theorem dX6_closings_8 : decode cX6_closings 8 = .ok (.ireturn, 1) := by decide +kernel
set_option maxRecDepth 20000 in
theorem ggX6_dig_X0_add : GoodIn wsX6_dig wsX0_add := goodIn_r _ [6, 7, 8, 9, 10, 11, 12, 13, 14, 15, 5, 16, 17, 18, 19, 20, 21, 27, 28, 29, 30] (by decide +kernel) (by decide +kernel)
set_option maxRecDepth 20000 in
theorem gX6_dig_X0_add : GoodIn wsX6_dig (wsV RX6 105 RX0 yX0_add wsX0_add) := goodIn_app (goodIn_of _ (by decide +kernel)) ggX6_dig_X0_add
theorem dX6_dig_0 : decode cX6_dig 0 = .ok (.aload_n 0, 1) := by decide +kernel
theorem dX6_dig_1 : decode cX6_dig 1 = .ok (.getfield 42, 3) := by decide +kernel
theorem dX6_dig_4 : decode cX6_dig 4 = .ok (.iload_n 1, 1) := by decide +kernel
theorem dX6_dig_5 : decode cX6_dig 5 = .ok (.iload_n 2, 1) := by decide +kernel
theorem dX6_dig_6 : decode cX6_dig 6 = .ok (.invokevirtual 105, 3) := by decide +kernel
theorem dX6_dig_9 : decode cX6_dig 9 = .ok (.ireturn, 1) := by decide +kernel
set_option maxRecDepth 20000 in
theorem ggX6_clear_X0_removeAll : GoodIn wsX6_clear wsX0_removeAll := goodIn_r _ [6, 7, 13, 14, 15, 16] (by decide +kernel) (by decide +kernel)
set_option maxRecDepth 20000 in
theorem gX6_clear_X0_removeAll : GoodIn wsX6_clear (wsV RX6 106 RX0 yX0_removeAll wsX0_removeAll) := goodIn_app (goodIn_of _ (by decide +kernel)) ggX6_clear_X0_removeAll
theorem dX6_clear_0 : decode cX6_clear 0 = .ok (.aload_n 0, 1) := by decide +kernel
theorem dX6_clear_1 : decode cX6_clear 1 = .ok (.getfield 42, 3) := by decide +kernel
theorem dX6_clear_4 : decode cX6_clear 4 = .ok (.invokevirtual 106, 3) := by decide +kernel
theorem dX6_clear_7 : decode cX6_clear 7 = .ok (.ireturn, 1) := by decide +kernel
set_option maxRecDepth 20000 in
theorem ggX6_lost_X0_lostInOrder : GoodIn wsX6_lost wsX0_lostInOrder := goodIn_r _ [6, 7, 8, 9, 10, 16, 17, 18, 19] (by decide +kernel) (by decide +kernel)
set_option maxRecDepth 20000 in
theorem gX6_lost_X0_lostInOrder : GoodIn wsX6_lost (wsV RX6 109 RX0 yX0_lostInOrder wsX0_lostInOrder) := goodIn_app (goodIn_of _ (by decide +kernel)) ggX6_lost_X0_lostInOrder
theorem dX6_lost_0 : decode cX6_lost 0 = .ok (.aload_n 0, 1) := by decide +kernel
theorem dX6_lost_1 : decode cX6_lost 1 = .ok (.getfield 42, 3) := by decide +kernel
theorem dX6_lost_4 : decode cX6_lost 4 = .ok (.invokevirtual 109, 3) := by decide +kernel
theorem dX6_lost_7 : decode cX6_lost 7 = .ok (.ireturn, 1) := by decide +kernel
set_option maxRecDepth 20000 in
theorem ggX6_order_X0_inOrder : GoodIn wsX6_order wsX0_inOrder := goodIn_r _ [6, 7, 8, 9, 10, 11, 17, 18, 19, 20] (by decide +kernel) (by decide +kernel)
set_option maxRecDepth 20000 in
theorem gX6_order_X0_inOrder : GoodIn wsX6_order (wsV RX6 112 RX0 yX0_inOrder wsX0_inOrder) := goodIn_app (goodIn_of _ (by decide +kernel)) ggX6_order_X0_inOrder
theorem dX6_order_0 : decode cX6_order 0 = .ok (.aload_n 0, 1) := by decide +kernel
theorem dX6_order_1 : decode cX6_order 1 = .ok (.getfield 42, 3) := by decide +kernel
theorem dX6_order_4 : decode cX6_order 4 = .ok (.iload_n 1, 1) := by decide +kernel
theorem dX6_order_5 : decode cX6_order 5 = .ok (.invokevirtual 112, 3) := by decide +kernel
theorem dX6_order_8 : decode cX6_order 8 = .ok (.ireturn, 1) := by decide +kernel
set_option maxRecDepth 20000 in
theorem ggX6_pulled_X2_leakAt : GoodIn wsX6_pulled wsX2_leakAt := goodIn_r _ [4, 5, 6, 7, 8, 9, 10, 3, 11, 12, 13, 14] (by decide +kernel) (by decide +kernel)
set_option maxRecDepth 20000 in
theorem gX6_pulled_X2_leakAt : GoodIn wsX6_pulled (va_wsS RX6 115 yX2_leakAt wsX2_leakAt) := goodIn_app (goodIn_of _ (by decide +kernel)) ggX6_pulled_X2_leakAt
theorem dX6_pulled_0 : decode cX6_pulled 0 = .ok (.iload_n 1, 1) := by decide +kernel
theorem dX6_pulled_1 : decode cX6_pulled 1 = .ok (.iload_n 2, 1) := by decide +kernel
theorem dX6_pulled_2 : decode cX6_pulled 2 = .ok (.iload_n 3, 1) := by decide +kernel
theorem dX6_pulled_3 : decode cX6_pulled 3 = .ok (.invokestatic 115, 3) := by decide +kernel
theorem dX6_pulled_6 : decode cX6_pulled 6 = .ok (.ireturn, 1) := by decide +kernel
set_option maxRecDepth 20000 in
theorem ggX6_count_X5_number : GoodIn wsX6_count wsX5_number := goodIn_r _ [10, 11, 48, 49, 50, 51, 52, 53, 54] (by decide +kernel) (by decide +kernel)
set_option maxRecDepth 20000 in
theorem gX6_count_X5_number : GoodIn wsX6_count (wsV RX6 120 RX5 yX5_number wsX5_number) := goodIn_app (goodIn_of _ (by decide +kernel)) ggX6_count_X5_number
set_option maxRecDepth 20000 in
theorem ggX6_count_X4_number : GoodIn wsX6_count wsX4_number := goodIn_r _ [16, 17, 55, 56, 57, 58, 59, 60, 61, 62] (by decide +kernel) (by decide +kernel)
set_option maxRecDepth 20000 in
theorem gX6_count_X4_number : GoodIn wsX6_count (wsV RX6 123 RX4 yX4_number wsX4_number) := goodIn_app (goodIn_of _ (by decide +kernel)) ggX6_count_X4_number
set_option maxRecDepth 20000 in
theorem ggX6_count_X3_number : GoodIn wsX6_count wsX3_number := goodIn_r _ [22, 23, 63, 64, 65, 66] (by decide +kernel) (by decide +kernel)
set_option maxRecDepth 20000 in
theorem gX6_count_X3_number : GoodIn wsX6_count (wsV RX6 124 RX3 yX3_number wsX3_number) := goodIn_app (goodIn_of _ (by decide +kernel)) ggX6_count_X3_number
set_option maxRecDepth 20000 in
theorem ggX6_count_X0_number : GoodIn wsX6_count wsX0_number := goodIn_r _ [28, 29, 67, 68, 69, 70] (by decide +kernel) (by decide +kernel)
set_option maxRecDepth 20000 in
theorem gX6_count_X0_number : GoodIn wsX6_count (wsV RX6 125 RX0 yX0_number wsX0_number) := goodIn_app (goodIn_of _ (by decide +kernel)) ggX6_count_X0_number
set_option maxRecDepth 20000 in
theorem ggX6_count_X5_readingsLost : GoodIn wsX6_count wsX5_readingsLost := goodIn_r _ [33, 11, 34, 35, 48, 49, 50, 51, 52, 53, 54] (by decide +kernel) (by decide +kernel)
set_option maxRecDepth 20000 in
theorem gX6_count_X5_readingsLost : GoodIn wsX6_count (wsV RX6 126 RX5 yX5_readingsLost wsX5_readingsLost) := goodIn_app (goodIn_of _ (by decide +kernel)) ggX6_count_X5_readingsLost
set_option maxRecDepth 20000 in
theorem ggX6_count_X1_samplesLost : GoodIn wsX6_count wsX1_samplesLost := goodIn_r _ [40, 41, 42, 71] (by decide +kernel) (by decide +kernel)
set_option maxRecDepth 20000 in
theorem gX6_count_X1_samplesLost : GoodIn wsX6_count (wsV RX6 129 RX1 yX1_samplesLost wsX1_samplesLost) := goodIn_app (goodIn_of _ (by decide +kernel)) ggX6_count_X1_samplesLost
theorem dX6_count_0 : decode cX6_count 0 = .ok (.iload_n 1, 1) := by decide +kernel
theorem dX6_count_1 : decode cX6_count 1 = .ok (.tableswitch 87 0 5 #[39, 47, 55, 63, 71, 79], 39) := by decide +kernel
theorem dX6_count_40 : decode cX6_count 40 = .ok (.aload_n 0, 1) := by decide +kernel
theorem dX6_count_41 : decode cX6_count 41 = .ok (.getfield 10, 3) := by decide +kernel
theorem dX6_count_44 : decode cX6_count 44 = .ok (.invokevirtual 120, 3) := by decide +kernel
theorem dX6_count_47 : decode cX6_count 47 = .ok (.ireturn, 1) := by decide +kernel
theorem dX6_count_48 : decode cX6_count 48 = .ok (.aload_n 0, 1) := by decide +kernel
theorem dX6_count_49 : decode cX6_count 49 = .ok (.getfield 21, 3) := by decide +kernel
theorem dX6_count_52 : decode cX6_count 52 = .ok (.invokevirtual 123, 3) := by decide +kernel
theorem dX6_count_55 : decode cX6_count 55 = .ok (.ireturn, 1) := by decide +kernel
theorem dX6_count_56 : decode cX6_count 56 = .ok (.aload_n 0, 1) := by decide +kernel
theorem dX6_count_57 : decode cX6_count 57 = .ok (.getfield 35, 3) := by decide +kernel
theorem dX6_count_60 : decode cX6_count 60 = .ok (.invokevirtual 124, 3) := by decide +kernel
theorem dX6_count_63 : decode cX6_count 63 = .ok (.ireturn, 1) := by decide +kernel
theorem dX6_count_64 : decode cX6_count 64 = .ok (.aload_n 0, 1) := by decide +kernel
theorem dX6_count_65 : decode cX6_count 65 = .ok (.getfield 42, 3) := by decide +kernel
theorem dX6_count_68 : decode cX6_count 68 = .ok (.invokevirtual 125, 3) := by decide +kernel
theorem dX6_count_71 : decode cX6_count 71 = .ok (.ireturn, 1) := by decide +kernel
theorem dX6_count_72 : decode cX6_count 72 = .ok (.aload_n 0, 1) := by decide +kernel
theorem dX6_count_73 : decode cX6_count 73 = .ok (.getfield 10, 3) := by decide +kernel
theorem dX6_count_76 : decode cX6_count 76 = .ok (.invokevirtual 126, 3) := by decide +kernel
theorem dX6_count_79 : decode cX6_count 79 = .ok (.ireturn, 1) := by decide +kernel
theorem dX6_count_80 : decode cX6_count 80 = .ok (.aload_n 0, 1) := by decide +kernel
theorem dX6_count_81 : decode cX6_count 81 = .ok (.getfield 28, 3) := by decide +kernel
theorem dX6_count_84 : decode cX6_count 84 = .ok (.invokevirtual 129, 3) := by decide +kernel
theorem dX6_count_87 : decode cX6_count 87 = .ok (.ireturn, 1) := by decide +kernel
theorem dX6_count_88 : decode cX6_count 88 = .ok (.bipush (-2), 2) := by decide +kernel
theorem dX6_count_90 : decode cX6_count 90 = .ok (.ireturn, 1) := by decide +kernel
set_option maxRecDepth 20000 in
theorem ggX6_digest_X6_count : GoodIn wsX6_digest wsX6_count := goodIn_r _ [11, 2, 3, 5, 6, 4, 12, 13, 14, 15, 16, 17, 18, 19, 20, 21, 22, 23, 24, 25, 26, 27, 28, 29, 30, 31, 32, 33, 34, 35, 36, 37, 38, 39, 40, 41, 42, 43, 44, 45, 46, 47, 48, 113, 114, 115, 116, 117, 118, 119, 120, 121, 122, 123, 124, 125, 126, 127, 128, 129, 130, 131, 132, 133, 134, 135, 136, 137, 138, 139, 140, 141] (by decide +kernel) (by decide +kernel)
set_option maxRecDepth 20000 in
theorem gX6_digest_X6_count : GoodIn wsX6_digest (wsV RX6 134 RX6 yX6_count wsX6_count) := goodIn_app (goodIn_of _ (by decide +kernel)) ggX6_digest_X6_count
set_option maxRecDepth 20000 in
theorem ggX6_digest_X6_mix : GoodIn wsX6_digest wsX6_mix := goodIn_r _ [51, 52] (by decide +kernel) (by decide +kernel)
set_option maxRecDepth 20000 in
theorem gX6_digest_X6_mix : GoodIn wsX6_digest (va_wsS RX6 137 yX6_mix wsX6_mix) := goodIn_app (goodIn_of _ (by decide +kernel)) ggX6_digest_X6_mix
set_option maxRecDepth 20000 in
theorem ggX6_digest_X5_mixInto : GoodIn wsX6_digest wsX5_mixInto := goodIn_r _ [56, 17, 40, 41, 57, 58, 59, 15, 60, 61, 62, 63, 64, 65, 66, 67, 68, 69, 10, 70, 71, 72, 73, 74, 75, 76, 77, 78, 79, 80, 81, 82, 83, 84, 85, 86, 87, 88, 89, 90, 91, 50, 51, 52, 118, 119, 120, 121, 122, 123, 124] (by decide +kernel) (by decide +kernel)
set_option maxRecDepth 20000 in
theorem gX6_digest_X5_mixInto : GoodIn wsX6_digest (wsV RX6 141 RX5 yX5_mixInto wsX5_mixInto) := goodIn_app (goodIn_of _ (by decide +kernel)) ggX6_digest_X5_mixInto
set_option maxRecDepth 20000 in
theorem ggX6_digest_X4_mixInto : GoodIn wsX6_digest wsX4_mixInto := goodIn_r _ [95, 23, 96, 97, 50, 10, 51, 52, 125, 126, 127, 128, 129, 130, 131, 132] (by decide +kernel) (by decide +kernel)
set_option maxRecDepth 20000 in
theorem gX6_digest_X4_mixInto : GoodIn wsX6_digest (wsV RX6 145 RX4 yX4_mixInto wsX4_mixInto) := goodIn_app (goodIn_of _ (by decide +kernel)) ggX6_digest_X4_mixInto
set_option maxRecDepth 20000 in
theorem ggX6_digest_X1_mixInto : GoodIn wsX6_digest wsX1_mixInto := goodIn_r _ [101, 47, 50, 10, 51, 52, 141] (by decide +kernel) (by decide +kernel)
set_option maxRecDepth 20000 in
theorem gX6_digest_X1_mixInto : GoodIn wsX6_digest (wsV RX6 146 RX1 yX1_mixInto wsX1_mixInto) := goodIn_app (goodIn_of _ (by decide +kernel)) ggX6_digest_X1_mixInto
set_option maxRecDepth 20000 in
theorem ggX6_digest_X3_mixInto : GoodIn wsX6_digest wsX3_mixInto := goodIn_r _ [105, 29, 106, 50, 10, 51, 52, 133, 134, 135, 136] (by decide +kernel) (by decide +kernel)
set_option maxRecDepth 20000 in
theorem gX6_digest_X3_mixInto : GoodIn wsX6_digest (wsV RX6 147 RX3 yX3_mixInto wsX3_mixInto) := goodIn_app (goodIn_of _ (by decide +kernel)) ggX6_digest_X3_mixInto
set_option maxRecDepth 20000 in
theorem ggX6_digest_X0_mixInto : GoodIn wsX6_digest wsX0_mixInto := goodIn_r _ [110, 35, 111, 112, 50, 10, 51, 52, 137, 138, 139, 140] (by decide +kernel) (by decide +kernel)
set_option maxRecDepth 20000 in
theorem gX6_digest_X0_mixInto : GoodIn wsX6_digest (wsV RX6 148 RX0 yX0_mixInto wsX0_mixInto) := goodIn_app (goodIn_of _ (by decide +kernel)) ggX6_digest_X0_mixInto
theorem dX6_digest_0 : decode cX6_digest 0 = .ok (.ldc2_w 132, 3) := by decide +kernel
theorem dX6_digest_3 : decode cX6_digest 3 = .ok (.lstore_n 1, 1) := by decide +kernel
theorem dX6_digest_4 : decode cX6_digest 4 = .ok (.iconst 0, 1) := by decide +kernel
theorem dX6_digest_5 : decode cX6_digest 5 = .ok (.istore_n 3, 1) := by decide +kernel
theorem dX6_digest_6 : decode cX6_digest 6 = .ok (.iload_n 3, 1) := by decide +kernel
theorem dX6_digest_7 : decode cX6_digest 7 = .ok (.iconst 5, 1) := by decide +kernel
theorem dX6_digest_8 : decode cX6_digest 8 = .ok (.if_icmp .gt 19, 3) := by decide +kernel
theorem dX6_digest_11 : decode cX6_digest 11 = .ok (.lload_n 1, 1) := by decide +kernel
theorem dX6_digest_12 : decode cX6_digest 12 = .ok (.aload_n 0, 1) := by decide +kernel
theorem dX6_digest_13 : decode cX6_digest 13 = .ok (.iload_n 3, 1) := by decide +kernel
theorem dX6_digest_14 : decode cX6_digest 14 = .ok (.invokevirtual 134, 3) := by decide +kernel
theorem dX6_digest_17 : decode cX6_digest 17 = .ok (.invokestatic 137, 3) := by decide +kernel
theorem dX6_digest_20 : decode cX6_digest 20 = .ok (.lstore_n 1, 1) := by decide +kernel
theorem dX6_digest_21 : decode cX6_digest 21 = .ok (.iinc 3 1, 3) := by decide +kernel
theorem dX6_digest_24 : decode cX6_digest 24 = .ok (.goto (-18), 3) := by decide +kernel
theorem dX6_digest_27 : decode cX6_digest 27 = .ok (.aload_n 0, 1) := by decide +kernel
theorem dX6_digest_28 : decode cX6_digest 28 = .ok (.getfield 10, 3) := by decide +kernel
theorem dX6_digest_31 : decode cX6_digest 31 = .ok (.lload_n 1, 1) := by decide +kernel
theorem dX6_digest_32 : decode cX6_digest 32 = .ok (.invokevirtual 141, 3) := by decide +kernel
theorem dX6_digest_35 : decode cX6_digest 35 = .ok (.lstore_n 1, 1) := by decide +kernel
theorem dX6_digest_36 : decode cX6_digest 36 = .ok (.aload_n 0, 1) := by decide +kernel
theorem dX6_digest_37 : decode cX6_digest 37 = .ok (.getfield 21, 3) := by decide +kernel
theorem dX6_digest_40 : decode cX6_digest 40 = .ok (.lload_n 1, 1) := by decide +kernel
theorem dX6_digest_41 : decode cX6_digest 41 = .ok (.invokevirtual 145, 3) := by decide +kernel
theorem dX6_digest_44 : decode cX6_digest 44 = .ok (.lstore_n 1, 1) := by decide +kernel
theorem dX6_digest_45 : decode cX6_digest 45 = .ok (.aload_n 0, 1) := by decide +kernel
theorem dX6_digest_46 : decode cX6_digest 46 = .ok (.getfield 28, 3) := by decide +kernel
theorem dX6_digest_49 : decode cX6_digest 49 = .ok (.lload_n 1, 1) := by decide +kernel
theorem dX6_digest_50 : decode cX6_digest 50 = .ok (.invokevirtual 146, 3) := by decide +kernel
theorem dX6_digest_53 : decode cX6_digest 53 = .ok (.lstore_n 1, 1) := by decide +kernel
theorem dX6_digest_54 : decode cX6_digest 54 = .ok (.aload_n 0, 1) := by decide +kernel
theorem dX6_digest_55 : decode cX6_digest 55 = .ok (.getfield 35, 3) := by decide +kernel
theorem dX6_digest_58 : decode cX6_digest 58 = .ok (.lload_n 1, 1) := by decide +kernel
theorem dX6_digest_59 : decode cX6_digest 59 = .ok (.invokevirtual 147, 3) := by decide +kernel
theorem dX6_digest_62 : decode cX6_digest 62 = .ok (.lstore_n 1, 1) := by decide +kernel
theorem dX6_digest_63 : decode cX6_digest 63 = .ok (.aload_n 0, 1) := by decide +kernel
theorem dX6_digest_64 : decode cX6_digest 64 = .ok (.getfield 42, 3) := by decide +kernel
theorem dX6_digest_67 : decode cX6_digest 67 = .ok (.lload_n 1, 1) := by decide +kernel
theorem dX6_digest_68 : decode cX6_digest 68 = .ok (.invokevirtual 148, 3) := by decide +kernel
theorem dX6_digest_71 : decode cX6_digest 71 = .ok (.lreturn, 1) := by decide +kernel
theorem dX6_outside_0 : decode cX6_outside 0 = .ok (.iload_n 0, 1) := by decide +kernel
theorem dX6_outside_1 : decode cX6_outside 1 = .ok (.iload_n 1, 1) := by decide +kernel
theorem dX6_outside_2 : decode cX6_outside 2 = .ok (.if_icmp .lt 8, 3) := by decide +kernel
theorem dX6_outside_5 : decode cX6_outside 5 = .ok (.iload_n 0, 1) := by decide +kernel
theorem dX6_outside_6 : decode cX6_outside 6 = .ok (.iload_n 2, 1) := by decide +kernel
theorem dX6_outside_7 : decode cX6_outside 7 = .ok (.if_icmp .le 7, 3) := by decide +kernel
theorem dX6_outside_10 : decode cX6_outside 10 = .ok (.iconst 1, 1) := by decide +kernel
theorem dX6_outside_11 : decode cX6_outside 11 = .ok (.goto 4, 3) := by decide +kernel
theorem dX6_outside_14 : decode cX6_outside 14 = .ok (.iconst 0, 1) := by decide +kernel
theorem dX6_outside_15 : decode cX6_outside 15 = .ok (.ireturn, 1) := by decide +kernel
theorem dX6_mix_0 : decode cX6_mix 0 = .ok (.ldc2_w 149, 3) := by decide +kernel
theorem dX6_mix_3 : decode cX6_mix 3 = .ok (.lload_n 0, 1) := by decide +kernel
theorem dX6_mix_4 : decode cX6_mix 4 = .ok (.lmul, 1) := by decide +kernel
theorem dX6_mix_5 : decode cX6_mix 5 = .ok (.iload_n 2, 1) := by decide +kernel
theorem dX6_mix_6 : decode cX6_mix 6 = .ok (.i2l, 1) := by decide +kernel
theorem dX6_mix_7 : decode cX6_mix 7 = .ok (.ladd, 1) := by decide +kernel
theorem dX6_mix_8 : decode cX6_mix 8 = .ok (.lreturn, 1) := by decide +kernel
theorem dX7_init_0 : decode cX7_init 0 = .ok (.aload_n 0, 1) := by decide +kernel
theorem dX7_init_1 : decode cX7_init 1 = .ok (.invokespecial 1, 3) := by decide +kernel
theorem dX7_init_4 : decode cX7_init 4 = .ok (.aload_n 0, 1) := by decide +kernel
theorem dX7_init_5 : decode cX7_init 5 = .ok (.bipush 8, 2) := by decide +kernel
theorem dX7_init_7 : decode cX7_init 7 = .ok (.newarray .int, 2) := by decide +kernel
theorem dX7_init_9 : decode cX7_init 9 = .ok (.putfield 7, 3) := by decide +kernel
theorem dX7_init_12 : decode cX7_init 12 = .ok (.aload_n 0, 1) := by decide +kernel
theorem dX7_init_13 : decode cX7_init 13 = .ok (.bipush 8, 2) := by decide +kernel
theorem dX7_init_15 : decode cX7_init 15 = .ok (.newarray .int, 2) := by decide +kernel
theorem dX7_init_17 : decode cX7_init 17 = .ok (.putfield 13, 3) := by decide +kernel
theorem dX7_init_20 : decode cX7_init 20 = .ok (.aload_n 0, 1) := by decide +kernel
theorem dX7_init_21 : decode cX7_init 21 = .ok (.sipush 192, 3) := by decide +kernel
theorem dX7_init_24 : decode cX7_init 24 = .ok (.newarray .int, 2) := by decide +kernel
theorem dX7_init_26 : decode cX7_init 26 = .ok (.putfield 16, 3) := by decide +kernel
theorem dX7_init_29 : decode cX7_init 29 = .ok (.aload_n 0, 1) := by decide +kernel
theorem dX7_init_30 : decode cX7_init 30 = .ok (.sipush 192, 3) := by decide +kernel
theorem dX7_init_33 : decode cX7_init 33 = .ok (.newarray .int, 2) := by decide +kernel
theorem dX7_init_35 : decode cX7_init 35 = .ok (.putfield 19, 3) := by decide +kernel
theorem dX7_init_38 : decode cX7_init 38 = .ok (.aload_n 0, 1) := by decide +kernel
theorem dX7_init_39 : decode cX7_init 39 = .ok (.bipush 20, 2) := by decide +kernel
theorem dX7_init_41 : decode cX7_init 41 = .ok (.putfield 22, 3) := by decide +kernel
theorem dX7_init_44 : decode cX7_init 44 = .ok (.aload_n 0, 1) := by decide +kernel
theorem dX7_init_45 : decode cX7_init 45 = .ok (.iconst 2, 1) := by decide +kernel
theorem dX7_init_46 : decode cX7_init 46 = .ok (.putfield 26, 3) := by decide +kernel
theorem dX7_init_49 : decode cX7_init 49 = .ok (.aload_n 0, 1) := by decide +kernel
theorem dX7_init_50 : decode cX7_init 50 = .ok (.bipush 12, 2) := by decide +kernel
theorem dX7_init_52 : decode cX7_init 52 = .ok (.newarray .int, 2) := by decide +kernel
theorem dX7_init_54 : decode cX7_init 54 = .ok (.putfield 29, 3) := by decide +kernel
theorem dX7_init_57 : decode cX7_init 57 = .ok (.aload_n 0, 1) := by decide +kernel
theorem dX7_init_58 : decode cX7_init 58 = .ok (.bipush 12, 2) := by decide +kernel
theorem dX7_init_60 : decode cX7_init 60 = .ok (.newarray .int, 2) := by decide +kernel
theorem dX7_init_62 : decode cX7_init 62 = .ok (.putfield 32, 3) := by decide +kernel
theorem dX7_init_65 : decode cX7_init 65 = .ok (.aload_n 0, 1) := by decide +kernel
theorem dX7_init_66 : decode cX7_init 66 = .ok (.bipush 8, 2) := by decide +kernel
theorem dX7_init_68 : decode cX7_init 68 = .ok (.newarray .int, 2) := by decide +kernel
theorem dX7_init_70 : decode cX7_init 70 = .ok (.putfield 35, 3) := by decide +kernel
theorem dX7_init_73 : decode cX7_init 73 = .ok (.aload_n 0, 1) := by decide +kernel
theorem dX7_init_74 : decode cX7_init 74 = .ok (.sipush 128, 3) := by decide +kernel
theorem dX7_init_77 : decode cX7_init 77 = .ok (.newarray .int, 2) := by decide +kernel
theorem dX7_init_79 : decode cX7_init 79 = .ok (.putfield 38, 3) := by decide +kernel
theorem dX7_init_82 : decode cX7_init 82 = .ok (.aload_n 0, 1) := by decide +kernel
theorem dX7_init_83 : decode cX7_init 83 = .ok (.iconst 1, 1) := by decide +kernel
theorem dX7_init_84 : decode cX7_init 84 = .ok (.putfield 41, 3) := by decide +kernel
theorem dX7_init_87 : decode cX7_init 87 = .ok (.aload_n 0, 1) := by decide +kernel
theorem dX7_init_88 : decode cX7_init 88 = .ok (.bipush 12, 2) := by decide +kernel
theorem dX7_init_90 : decode cX7_init 90 = .ok (.newarray .int, 2) := by decide +kernel
theorem dX7_init_92 : decode cX7_init 92 = .ok (.putfield 44, 3) := by decide +kernel
theorem dX7_init_95 : decode cX7_init 95 = .ok (.aload_n 0, 1) := by decide +kernel
theorem dX7_init_96 : decode cX7_init 96 = .ok (.sipush 144, 3) := by decide +kernel
theorem dX7_init_99 : decode cX7_init 99 = .ok (.newarray .int, 2) := by decide +kernel
theorem dX7_init_101 : decode cX7_init 101 = .ok (.putfield 47, 3) := by decide +kernel
theorem dX7_init_104 : decode cX7_init 104 = .ok (.aload_n 0, 1) := by decide +kernel
theorem dX7_init_105 : decode cX7_init 105 = .ok (.sipush 144, 3) := by decide +kernel
theorem dX7_init_108 : decode cX7_init 108 = .ok (.newarray .int, 2) := by decide +kernel
theorem dX7_init_110 : decode cX7_init 110 = .ok (.putfield 50, 3) := by decide +kernel
theorem dX7_init_113 : decode cX7_init 113 = .ok (.aload_n 0, 1) := by decide +kernel
theorem dX7_init_114 : decode cX7_init 114 = .ok (.bipush 8, 2) := by decide +kernel
theorem dX7_init_116 : decode cX7_init 116 = .ok (.newarray .int, 2) := by decide +kernel
theorem dX7_init_118 : decode cX7_init 118 = .ok (.putfield 53, 3) := by decide +kernel
theorem dX7_init_121 : decode cX7_init 121 = .ok (.aload_n 0, 1) := by decide +kernel
theorem dX7_init_122 : decode cX7_init 122 = .ok (.bipush 8, 2) := by decide +kernel
theorem dX7_init_124 : decode cX7_init 124 = .ok (.newarray .int, 2) := by decide +kernel
theorem dX7_init_126 : decode cX7_init 126 = .ok (.putfield 56, 3) := by decide +kernel
theorem dX7_init_129 : decode cX7_init 129 = .ok (.aload_n 0, 1) := by decide +kernel
theorem dX7_init_130 : decode cX7_init 130 = .ok (.bipush 8, 2) := by decide +kernel
theorem dX7_init_132 : decode cX7_init 132 = .ok (.newarray .int, 2) := by decide +kernel
theorem dX7_init_134 : decode cX7_init 134 = .ok (.putfield 59, 3) := by decide +kernel
theorem dX7_init_137 : decode cX7_init 137 = .ok (.return_, 1) := by decide +kernel
theorem dX7_in_0 : decode cX7_in 0 = .ok (.iload_n 0, 1) := by decide +kernel
theorem dX7_in_1 : decode cX7_in 1 = .ok (.iload_n 1, 1) := by decide +kernel
theorem dX7_in_2 : decode cX7_in 2 = .ok (.if_icmp .lt 12, 3) := by decide +kernel
theorem dX7_in_5 : decode cX7_in 5 = .ok (.iload_n 0, 1) := by decide +kernel
theorem dX7_in_6 : decode cX7_in 6 = .ok (.iload_n 2, 1) := by decide +kernel
theorem dX7_in_7 : decode cX7_in 7 = .ok (.if_icmp .gt 7, 3) := by decide +kernel
theorem dX7_in_10 : decode cX7_in 10 = .ok (.iconst 1, 1) := by decide +kernel
theorem dX7_in_11 : decode cX7_in 11 = .ok (.goto 4, 3) := by decide +kernel
theorem dX7_in_14 : decode cX7_in 14 = .ok (.iconst 0, 1) := by decide +kernel
theorem dX7_in_15 : decode cX7_in 15 = .ok (.ireturn, 1) := by decide +kernel
set_option maxRecDepth 20000 in
theorem ggX7_isZone_X7_in : GoodIn wsX7_isZone wsX7_in := goodIn_r _ [5] (by decide +kernel) (by decide +kernel)
set_option maxRecDepth 20000 in
theorem gX7_isZone_X7_in : GoodIn wsX7_isZone (va_wsS RX7 65 yX7_in wsX7_in) := goodIn_app (goodIn_of _ (by decide +kernel)) ggX7_isZone_X7_in
theorem dX7_isZone_0 : decode cX7_isZone 0 = .ok (.iload_n 1, 1) := by decide +kernel
theorem dX7_isZone_1 : decode cX7_isZone 1 = .ok (.iconst 0, 1) := by decide +kernel
theorem dX7_isZone_2 : decode cX7_isZone 2 = .ok (.aload_n 0, 1) := by decide +kernel
theorem dX7_isZone_3 : decode cX7_isZone 3 = .ok (.getfield 62, 3) := by decide +kernel
theorem dX7_isZone_6 : decode cX7_isZone 6 = .ok (.iconst 1, 1) := by decide +kernel
theorem dX7_isZone_7 : decode cX7_isZone 7 = .ok (.isub, 1) := by decide +kernel
theorem dX7_isZone_8 : decode cX7_isZone 8 = .ok (.invokestatic 65, 3) := by decide +kernel
theorem dX7_isZone_11 : decode cX7_isZone 11 = .ok (.ireturn, 1) := by decide +kernel
set_option maxRecDepth 20000 in
theorem ggX7_zone_X7_in : GoodIn wsX7_zone wsX7_in := goodIn_r _ [7] (by decide +kernel) (by decide +kernel)
set_option maxRecDepth 20000 in
theorem gX7_zone_X7_in : GoodIn wsX7_zone (va_wsS RX7 65 yX7_in wsX7_in) := goodIn_app (goodIn_of _ (by decide +kernel)) ggX7_zone_X7_in
theorem dX7_zone_0 : decode cX7_zone 0 = .ok (.iload_n 1, 1) := by decide +kernel
theorem dX7_zone_1 : decode cX7_zone 1 = .ok (.iconst 0, 1) := by decide +kernel
theorem dX7_zone_2 : decode cX7_zone 2 = .ok (.sipush 5000, 3) := by decide +kernel
theorem dX7_zone_5 : decode cX7_zone 5 = .ok (.invokestatic 65, 3) := by decide +kernel
theorem dX7_zone_8 : decode cX7_zone 8 = .ok (.ifCond .eq 14, 3) := by decide +kernel
theorem dX7_zone_11 : decode cX7_zone 11 = .ok (.iload_n 2, 1) := by decide +kernel
theorem dX7_zone_12 : decode cX7_zone 12 = .ok (.iconst 0, 1) := by decide +kernel
theorem dX7_zone_13 : decode cX7_zone 13 = .ok (.sipush 5000, 3) := by decide +kernel
theorem dX7_zone_16 : decode cX7_zone 16 = .ok (.invokestatic 65, 3) := by decide +kernel
theorem dX7_zone_19 : decode cX7_zone 19 = .ok (.ifCond .ne 6, 3) := by decide +kernel
theorem dX7_zone_22 : decode cX7_zone 22 = .ok (.bipush (-2), 2) := by decide +kernel
theorem dX7_zone_24 : decode cX7_zone 24 = .ok (.ireturn, 1) := by decide +kernel
theorem dX7_zone_25 : decode cX7_zone 25 = .ok (.aload_n 0, 1) := by decide +kernel
theorem dX7_zone_26 : decode cX7_zone 26 = .ok (.getfield 62, 3) := by decide +kernel
theorem dX7_zone_29 : decode cX7_zone 29 = .ok (.bipush 8, 2) := by decide +kernel
theorem dX7_zone_31 : decode cX7_zone 31 = .ok (.if_icmp .ne 6, 3) := by decide +kernel
theorem dX7_zone_34 : decode cX7_zone 34 = .ok (.bipush (-4), 2) := by decide +kernel
theorem dX7_zone_36 : decode cX7_zone 36 = .ok (.ireturn, 1) := by decide +kernel
theorem dX7_zone_37 : decode cX7_zone 37 = .ok (.aload_n 0, 1) := by decide +kernel
theorem dX7_zone_38 : decode cX7_zone 38 = .ok (.getfield 7, 3) := by decide +kernel
theorem dX7_zone_41 : decode cX7_zone 41 = .ok (.aload_n 0, 1) := by decide +kernel
theorem dX7_zone_42 : decode cX7_zone 42 = .ok (.getfield 62, 3) := by decide +kernel
theorem dX7_zone_45 : decode cX7_zone 45 = .ok (.iload_n 1, 1) := by decide +kernel
theorem dX7_zone_46 : decode cX7_zone 46 = .ok (.iastore, 1) := by decide +kernel
theorem dX7_zone_47 : decode cX7_zone 47 = .ok (.aload_n 0, 1) := by decide +kernel
theorem dX7_zone_48 : decode cX7_zone 48 = .ok (.getfield 13, 3) := by decide +kernel
theorem dX7_zone_51 : decode cX7_zone 51 = .ok (.aload_n 0, 1) := by decide +kernel
theorem dX7_zone_52 : decode cX7_zone 52 = .ok (.getfield 62, 3) := by decide +kernel
theorem dX7_zone_55 : decode cX7_zone 55 = .ok (.iload_n 2, 1) := by decide +kernel
theorem dX7_zone_56 : decode cX7_zone 56 = .ok (.iastore, 1) := by decide +kernel
theorem dX7_zone_57 : decode cX7_zone 57 = .ok (.aload_n 0, 1) := by decide +kernel
theorem dX7_zone_58 : decode cX7_zone 58 = .ok (.dup, 1) := by decide +kernel
theorem dX7_zone_59 : decode cX7_zone 59 = .ok (.getfield 62, 3) := by decide +kernel
theorem dX7_zone_62 : decode cX7_zone 62 = .ok (.iconst 1, 1) := by decide +kernel
theorem dX7_zone_63 : decode cX7_zone 63 = .ok (.iadd, 1) := by decide +kernel
theorem dX7_zone_64 : decode cX7_zone 64 = .ok (.putfield 62, 3) := by decide +kernel
theorem dX7_zone_67 : decode cX7_zone 67 = .ok (.aload_n 0, 1) := by decide +kernel
theorem dX7_zone_68 : decode cX7_zone 68 = .ok (.getfield 62, 3) := by decide +kernel
theorem dX7_zone_71 : decode cX7_zone 71 = .ok (.iconst 1, 1) := by decide +kernel
theorem dX7_zone_72 : decode cX7_zone 72 = .ok (.isub, 1) := by decide +kernel
theorem dX7_zone_73 : decode cX7_zone 73 = .ok (.ireturn, 1) := by decide +kernel
set_option maxRecDepth 20000 in
theorem ggX7_rules_X7_in : GoodIn wsX7_rules wsX7_in := goodIn_r _ [6] (by decide +kernel) (by decide +kernel)
set_option maxRecDepth 20000 in
theorem gX7_rules_X7_in : GoodIn wsX7_rules (va_wsS RX7 65 yX7_in wsX7_in) := goodIn_app (goodIn_of _ (by decide +kernel)) ggX7_rules_X7_in
theorem dX7_rules_0 : decode cX7_rules 0 = .ok (.iload_n 1, 1) := by decide +kernel
theorem dX7_rules_1 : decode cX7_rules 1 = .ok (.iconst 0, 1) := by decide +kernel
theorem dX7_rules_2 : decode cX7_rules 2 = .ok (.sipush 200, 3) := by decide +kernel
theorem dX7_rules_5 : decode cX7_rules 5 = .ok (.invokestatic 65, 3) := by decide +kernel
theorem dX7_rules_8 : decode cX7_rules 8 = .ok (.ifCond .eq 13, 3) := by decide +kernel
theorem dX7_rules_11 : decode cX7_rules 11 = .ok (.iload_n 2, 1) := by decide +kernel
theorem dX7_rules_12 : decode cX7_rules 12 = .ok (.iconst 0, 1) := by decide +kernel
theorem dX7_rules_13 : decode cX7_rules 13 = .ok (.bipush 20, 2) := by decide +kernel
theorem dX7_rules_15 : decode cX7_rules 15 = .ok (.invokestatic 65, 3) := by decide +kernel
theorem dX7_rules_18 : decode cX7_rules 18 = .ok (.ifCond .ne 6, 3) := by decide +kernel
theorem dX7_rules_21 : decode cX7_rules 21 = .ok (.bipush (-2), 2) := by decide +kernel
theorem dX7_rules_23 : decode cX7_rules 23 = .ok (.ireturn, 1) := by decide +kernel
theorem dX7_rules_24 : decode cX7_rules 24 = .ok (.aload_n 0, 1) := by decide +kernel
theorem dX7_rules_25 : decode cX7_rules 25 = .ok (.iload_n 1, 1) := by decide +kernel
theorem dX7_rules_26 : decode cX7_rules 26 = .ok (.putfield 22, 3) := by decide +kernel
theorem dX7_rules_29 : decode cX7_rules 29 = .ok (.aload_n 0, 1) := by decide +kernel
theorem dX7_rules_30 : decode cX7_rules 30 = .ok (.iload_n 2, 1) := by decide +kernel
theorem dX7_rules_31 : decode cX7_rules 31 = .ok (.putfield 26, 3) := by decide +kernel
theorem dX7_rules_34 : decode cX7_rules 34 = .ok (.iconst 1, 1) := by decide +kernel
theorem dX7_rules_35 : decode cX7_rules 35 = .ok (.ireturn, 1) := by decide +kernel
set_option maxRecDepth 20000 in
theorem ggX7_read_X7_isZone : GoodIn wsX7_read wsX7_isZone := goodIn_r _ [7, 8, 9, 10, 6, 11, 12, 13, 14, 15, 16, 17, 18, 19, 20, 21, 22, 23, 24, 25, 26, 27, 28, 29, 30, 31, 32, 33, 34] (by decide +kernel) (by decide +kernel)
set_option maxRecDepth 20000 in
theorem gX7_read_X7_isZone : GoodIn wsX7_read (wsV RX7 69 RX7 yX7_isZone wsX7_isZone) := goodIn_app (goodIn_of _ (by decide +kernel)) ggX7_read_X7_isZone
set_option maxRecDepth 20000 in
theorem ggX7_read_X7_in : GoodIn wsX7_read wsX7_in := goodIn_r _ [11] (by decide +kernel) (by decide +kernel)
set_option maxRecDepth 20000 in
theorem gX7_read_X7_in : GoodIn wsX7_read (va_wsS RX7 65 yX7_in wsX7_in) := goodIn_app (goodIn_of _ (by decide +kernel)) ggX7_read_X7_in
theorem dX7_read_0 : decode cX7_read 0 = .ok (.aload_n 0, 1) := by decide +kernel
theorem dX7_read_1 : decode cX7_read 1 = .ok (.iload_n 1, 1) := by decide +kernel
theorem dX7_read_2 : decode cX7_read 2 = .ok (.invokevirtual 69, 3) := by decide +kernel
theorem dX7_read_5 : decode cX7_read 5 = .ok (.ifCond .eq 25, 3) := by decide +kernel
theorem dX7_read_8 : decode cX7_read 8 = .ok (.iload_n 2, 1) := by decide +kernel
theorem dX7_read_9 : decode cX7_read 9 = .ok (.iconst 0, 1) := by decide +kernel
theorem dX7_read_10 : decode cX7_read 10 = .ok (.bipush 23, 2) := by decide +kernel
theorem dX7_read_12 : decode cX7_read 12 = .ok (.invokestatic 65, 3) := by decide +kernel
theorem dX7_read_15 : decode cX7_read 15 = .ok (.ifCond .eq 15, 3) := by decide +kernel
theorem dX7_read_18 : decode cX7_read 18 = .ok (.iload 4, 2) := by decide +kernel
theorem dX7_read_20 : decode cX7_read 20 = .ok (.iconst (-1), 1) := by decide +kernel
theorem dX7_read_21 : decode cX7_read 21 = .ok (.sipush 20000, 3) := by decide +kernel
theorem dX7_read_24 : decode cX7_read 24 = .ok (.invokestatic 65, 3) := by decide +kernel
theorem dX7_read_27 : decode cX7_read 27 = .ok (.ifCond .ne 6, 3) := by decide +kernel
theorem dX7_read_30 : decode cX7_read 30 = .ok (.bipush (-2), 2) := by decide +kernel
theorem dX7_read_32 : decode cX7_read 32 = .ok (.ireturn, 1) := by decide +kernel
theorem dX7_read_33 : decode cX7_read 33 = .ok (.bipush 24, 2) := by decide +kernel
theorem dX7_read_35 : decode cX7_read 35 = .ok (.iload_n 1, 1) := by decide +kernel
theorem dX7_read_36 : decode cX7_read 36 = .ok (.imul, 1) := by decide +kernel
theorem dX7_read_37 : decode cX7_read 37 = .ok (.iload_n 2, 1) := by decide +kernel
theorem dX7_read_38 : decode cX7_read 38 = .ok (.iadd, 1) := by decide +kernel
theorem dX7_read_39 : decode cX7_read 39 = .ok (.istore 5, 2) := by decide +kernel
theorem dX7_read_41 : decode cX7_read 41 = .ok (.iload_n 3, 1) := by decide +kernel
theorem dX7_read_42 : decode cX7_read 42 = .ok (.ifCond .eq 13, 3) := by decide +kernel
theorem dX7_read_45 : decode cX7_read 45 = .ok (.aload_n 0, 1) := by decide +kernel
theorem dX7_read_46 : decode cX7_read 46 = .ok (.getfield 16, 3) := by decide +kernel
theorem dX7_read_49 : decode cX7_read 49 = .ok (.iload 5, 2) := by decide +kernel
theorem dX7_read_51 : decode cX7_read 51 = .ok (.iaload, 1) := by decide +kernel
theorem dX7_read_52 : decode cX7_read 52 = .ok (.goto 10, 3) := by decide +kernel
theorem dX7_read_55 : decode cX7_read 55 = .ok (.aload_n 0, 1) := by decide +kernel
theorem dX7_read_56 : decode cX7_read 56 = .ok (.getfield 19, 3) := by decide +kernel
theorem dX7_read_59 : decode cX7_read 59 = .ok (.iload 5, 2) := by decide +kernel
theorem dX7_read_61 : decode cX7_read 61 = .ok (.iaload, 1) := by decide +kernel
theorem dX7_read_62 : decode cX7_read 62 = .ok (.istore 6, 2) := by decide +kernel
theorem dX7_read_64 : decode cX7_read 64 = .ok (.iload_n 3, 1) := by decide +kernel
theorem dX7_read_65 : decode cX7_read 65 = .ok (.ifCond .eq 15, 3) := by decide +kernel
theorem dX7_read_68 : decode cX7_read 68 = .ok (.aload_n 0, 1) := by decide +kernel
theorem dX7_read_69 : decode cX7_read 69 = .ok (.getfield 16, 3) := by decide +kernel
theorem dX7_read_72 : decode cX7_read 72 = .ok (.iload 5, 2) := by decide +kernel
theorem dX7_read_74 : decode cX7_read 74 = .ok (.iload 4, 2) := by decide +kernel
theorem dX7_read_76 : decode cX7_read 76 = .ok (.iastore, 1) := by decide +kernel
theorem dX7_read_77 : decode cX7_read 77 = .ok (.goto 12, 3) := by decide +kernel
theorem dX7_read_80 : decode cX7_read 80 = .ok (.aload_n 0, 1) := by decide +kernel
theorem dX7_read_81 : decode cX7_read 81 = .ok (.getfield 19, 3) := by decide +kernel
theorem dX7_read_84 : decode cX7_read 84 = .ok (.iload 5, 2) := by decide +kernel
theorem dX7_read_86 : decode cX7_read 86 = .ok (.iload 4, 2) := by decide +kernel
theorem dX7_read_88 : decode cX7_read 88 = .ok (.iastore, 1) := by decide +kernel
theorem dX7_read_89 : decode cX7_read 89 = .ok (.iload 6, 2) := by decide +kernel
theorem dX7_read_91 : decode cX7_read 91 = .ok (.ireturn, 1) := by decide +kernel
theorem dX7_least_0 : decode cX7_least 0 = .ok (.iload_n 1, 1) := by decide +kernel
theorem dX7_least_1 : decode cX7_least 1 = .ok (.sipush 1000, 3) := by decide +kernel
theorem dX7_least_4 : decode cX7_least 4 = .ok (.aload_n 0, 1) := by decide +kernel
theorem dX7_least_5 : decode cX7_least 5 = .ok (.getfield 22, 3) := by decide +kernel
theorem dX7_least_8 : decode cX7_least 8 = .ok (.isub, 1) := by decide +kernel
theorem dX7_least_9 : decode cX7_least 9 = .ok (.imul, 1) := by decide +kernel
theorem dX7_least_10 : decode cX7_least 10 = .ok (.sipush 1000, 3) := by decide +kernel
theorem dX7_least_13 : decode cX7_least 13 = .ok (.idiv, 1) := by decide +kernel
theorem dX7_least_14 : decode cX7_least 14 = .ok (.ireturn, 1) := by decide +kernel
end
section
theorem dX7_greatest_0 : decode cX7_greatest 0 = .ok (.iload_n 1, 1) := by decide +kernel
theorem dX7_greatest_1 : decode cX7_greatest 1 = .ok (.sipush 1000, 3) := by decide +kernel
theorem dX7_greatest_4 : decode cX7_greatest 4 = .ok (.aload_n 0, 1) := by decide +kernel
theorem dX7_greatest_5 : decode cX7_greatest 5 = .ok (.getfield 22, 3) := by decide +kernel
theorem dX7_greatest_8 : decode cX7_greatest 8 = .ok (.iadd, 1) := by decide +kernel
theorem dX7_greatest_9 : decode cX7_greatest 9 = .ok (.imul, 1) := by decide +kernel
theorem dX7_greatest_10 : decode cX7_greatest 10 = .ok (.sipush 999, 3) := by decide +kernel
theorem dX7_greatest_13 : decode cX7_greatest 13 = .ok (.iadd, 1) := by decide +kernel
theorem dX7_greatest_14 : decode cX7_greatest 14 = .ok (.sipush 1000, 3) := by decide +kernel
theorem dX7_greatest_17 : decode cX7_greatest 17 = .ok (.idiv, 1) := by decide +kernel
theorem dX7_greatest_18 : decode cX7_greatest 18 = .ok (.ireturn, 1) := by decide +kernel
set_option maxRecDepth 20000 in
theorem ggX7_findLow_X7_greatest : GoodIn wsX7_findLow wsX7_greatest := goodIn_r _ [10, 11, 16, 17, 18, 19, 20, 21, 22, 23, 24, 25, 26, 27, 28, 29, 30, 31, 32, 33, 34, 35, 36, 37, 38] (by decide +kernel) (by decide +kernel)
set_option maxRecDepth 20000 in
theorem gX7_findLow_X7_greatest : GoodIn wsX7_findLow (wsV RX7 76 RX7 yX7_greatest wsX7_greatest) := goodIn_app (goodIn_of _ (by decide +kernel)) ggX7_findLow_X7_greatest
set_option maxRecDepth 20000 in
theorem ggX7_findLow_X7_least : GoodIn wsX7_findLow wsX7_least := goodIn_r _ [15, 11, 16, 17, 18, 19, 20, 21, 22, 23, 24, 25, 26, 27, 28, 29, 30, 31, 32, 33, 34, 35, 36, 37, 38] (by decide +kernel) (by decide +kernel)
set_option maxRecDepth 20000 in
theorem gX7_findLow_X7_least : GoodIn wsX7_findLow (wsV RX7 80 RX7 yX7_least wsX7_least) := goodIn_app (goodIn_of _ (by decide +kernel)) ggX7_findLow_X7_least
theorem dX7_findLow_0 : decode cX7_findLow 0 = .ok (.aload_n 0, 1) := by decide +kernel
theorem dX7_findLow_1 : decode cX7_findLow 1 = .ok (.iconst (-1), 1) := by decide +kernel
theorem dX7_findLow_2 : decode cX7_findLow 2 = .ok (.putfield 73, 3) := by decide +kernel
theorem dX7_findLow_5 : decode cX7_findLow 5 = .ok (.iconst 1, 1) := by decide +kernel
theorem dX7_findLow_6 : decode cX7_findLow 6 = .ok (.istore_n 2, 1) := by decide +kernel
theorem dX7_findLow_7 : decode cX7_findLow 7 = .ok (.iload_n 2, 1) := by decide +kernel
theorem dX7_findLow_8 : decode cX7_findLow 8 = .ok (.iconst 5, 1) := by decide +kernel
theorem dX7_findLow_9 : decode cX7_findLow 9 = .ok (.if_icmp .ge 103, 3) := by decide +kernel
theorem dX7_findLow_12 : decode cX7_findLow 12 = .ok (.aload_n 0, 1) := by decide +kernel
theorem dX7_findLow_13 : decode cX7_findLow 13 = .ok (.getfield 16, 3) := by decide +kernel
theorem dX7_findLow_16 : decode cX7_findLow 16 = .ok (.bipush 24, 2) := by decide +kernel
theorem dX7_findLow_18 : decode cX7_findLow 18 = .ok (.iload_n 1, 1) := by decide +kernel
theorem dX7_findLow_19 : decode cX7_findLow 19 = .ok (.imul, 1) := by decide +kernel
theorem dX7_findLow_20 : decode cX7_findLow 20 = .ok (.iload_n 2, 1) := by decide +kernel
theorem dX7_findLow_21 : decode cX7_findLow 21 = .ok (.iadd, 1) := by decide +kernel
theorem dX7_findLow_22 : decode cX7_findLow 22 = .ok (.iaload, 1) := by decide +kernel
theorem dX7_findLow_23 : decode cX7_findLow 23 = .ok (.istore_n 3, 1) := by decide +kernel
theorem dX7_findLow_24 : decode cX7_findLow 24 = .ok (.aload_n 0, 1) := by decide +kernel
theorem dX7_findLow_25 : decode cX7_findLow 25 = .ok (.getfield 19, 3) := by decide +kernel
theorem dX7_findLow_28 : decode cX7_findLow 28 = .ok (.bipush 24, 2) := by decide +kernel
theorem dX7_findLow_30 : decode cX7_findLow 30 = .ok (.iload_n 1, 1) := by decide +kernel
theorem dX7_findLow_31 : decode cX7_findLow 31 = .ok (.imul, 1) := by decide +kernel
theorem dX7_findLow_32 : decode cX7_findLow 32 = .ok (.iload_n 2, 1) := by decide +kernel
theorem dX7_findLow_33 : decode cX7_findLow 33 = .ok (.iadd, 1) := by decide +kernel
theorem dX7_findLow_34 : decode cX7_findLow 34 = .ok (.iaload, 1) := by decide +kernel
theorem dX7_findLow_35 : decode cX7_findLow 35 = .ok (.istore 4, 2) := by decide +kernel
theorem dX7_findLow_37 : decode cX7_findLow 37 = .ok (.iload_n 3, 1) := by decide +kernel
theorem dX7_findLow_38 : decode cX7_findLow 38 = .ok (.iconst (-1), 1) := by decide +kernel
theorem dX7_findLow_39 : decode cX7_findLow 39 = .ok (.if_icmp .eq 67, 3) := by decide +kernel
theorem dX7_findLow_42 : decode cX7_findLow 42 = .ok (.iload 4, 2) := by decide +kernel
theorem dX7_findLow_44 : decode cX7_findLow 44 = .ok (.iconst (-1), 1) := by decide +kernel
theorem dX7_findLow_45 : decode cX7_findLow 45 = .ok (.if_icmp .eq 61, 3) := by decide +kernel
theorem dX7_findLow_48 : decode cX7_findLow 48 = .ok (.aload_n 0, 1) := by decide +kernel
theorem dX7_findLow_49 : decode cX7_findLow 49 = .ok (.iload_n 3, 1) := by decide +kernel
theorem dX7_findLow_50 : decode cX7_findLow 50 = .ok (.invokevirtual 76, 3) := by decide +kernel
theorem dX7_findLow_53 : decode cX7_findLow 53 = .ok (.aload_n 0, 1) := by decide +kernel
theorem dX7_findLow_54 : decode cX7_findLow 54 = .ok (.iload 4, 2) := by decide +kernel
theorem dX7_findLow_56 : decode cX7_findLow 56 = .ok (.invokevirtual 80, 3) := by decide +kernel
theorem dX7_findLow_59 : decode cX7_findLow 59 = .ok (.isub, 1) := by decide +kernel
theorem dX7_findLow_60 : decode cX7_findLow 60 = .ok (.istore 5, 2) := by decide +kernel
theorem dX7_findLow_62 : decode cX7_findLow 62 = .ok (.aload_n 0, 1) := by decide +kernel
theorem dX7_findLow_63 : decode cX7_findLow 63 = .ok (.getfield 73, 3) := by decide +kernel
theorem dX7_findLow_66 : decode cX7_findLow 66 = .ok (.iconst (-1), 1) := by decide +kernel
theorem dX7_findLow_67 : decode cX7_findLow 67 = .ok (.if_icmp .eq 12, 3) := by decide +kernel
theorem dX7_findLow_70 : decode cX7_findLow 70 = .ok (.iload 5, 2) := by decide +kernel
theorem dX7_findLow_72 : decode cX7_findLow 72 = .ok (.aload_n 0, 1) := by decide +kernel
theorem dX7_findLow_73 : decode cX7_findLow 73 = .ok (.getfield 83, 3) := by decide +kernel
theorem dX7_findLow_76 : decode cX7_findLow 76 = .ok (.if_icmp .ge 30, 3) := by decide +kernel
theorem dX7_findLow_79 : decode cX7_findLow 79 = .ok (.aload_n 0, 1) := by decide +kernel
theorem dX7_findLow_80 : decode cX7_findLow 80 = .ok (.iload_n 2, 1) := by decide +kernel
theorem dX7_findLow_81 : decode cX7_findLow 81 = .ok (.putfield 73, 3) := by decide +kernel
theorem dX7_findLow_84 : decode cX7_findLow 84 = .ok (.aload_n 0, 1) := by decide +kernel
theorem dX7_findLow_85 : decode cX7_findLow 85 = .ok (.iload 5, 2) := by decide +kernel
theorem dX7_findLow_87 : decode cX7_findLow 87 = .ok (.putfield 83, 3) := by decide +kernel
theorem dX7_findLow_90 : decode cX7_findLow 90 = .ok (.aload_n 0, 1) := by decide +kernel
theorem dX7_findLow_91 : decode cX7_findLow 91 = .ok (.aload_n 0, 1) := by decide +kernel
theorem dX7_findLow_92 : decode cX7_findLow 92 = .ok (.iload_n 3, 1) := by decide +kernel
theorem dX7_findLow_93 : decode cX7_findLow 93 = .ok (.invokevirtual 80, 3) := by decide +kernel
theorem dX7_findLow_96 : decode cX7_findLow 96 = .ok (.aload_n 0, 1) := by decide +kernel
theorem dX7_findLow_97 : decode cX7_findLow 97 = .ok (.iload 4, 2) := by decide +kernel
theorem dX7_findLow_99 : decode cX7_findLow 99 = .ok (.invokevirtual 76, 3) := by decide +kernel
theorem dX7_findLow_102 : decode cX7_findLow 102 = .ok (.isub, 1) := by decide +kernel
theorem dX7_findLow_103 : decode cX7_findLow 103 = .ok (.putfield 86, 3) := by decide +kernel
theorem dX7_findLow_106 : decode cX7_findLow 106 = .ok (.iinc 2 1, 3) := by decide +kernel
theorem dX7_findLow_109 : decode cX7_findLow 109 = .ok (.goto (-102), 3) := by decide +kernel
theorem dX7_findLow_112 : decode cX7_findLow 112 = .ok (.aload_n 0, 1) := by decide +kernel
theorem dX7_findLow_113 : decode cX7_findLow 113 = .ok (.getfield 73, 3) := by decide +kernel
theorem dX7_findLow_116 : decode cX7_findLow 116 = .ok (.iconst (-1), 1) := by decide +kernel
theorem dX7_findLow_117 : decode cX7_findLow 117 = .ok (.if_icmp .eq 7, 3) := by decide +kernel
theorem dX7_findLow_120 : decode cX7_findLow 120 = .ok (.iconst 1, 1) := by decide +kernel
theorem dX7_findLow_121 : decode cX7_findLow 121 = .ok (.goto 4, 3) := by decide +kernel
theorem dX7_findLow_124 : decode cX7_findLow 124 = .ok (.iconst 0, 1) := by decide +kernel
theorem dX7_findLow_125 : decode cX7_findLow 125 = .ok (.ireturn, 1) := by decide +kernel
set_option maxRecDepth 20000 in
theorem ggX7_low_X7_isZone : GoodIn wsX7_low wsX7_isZone := goodIn_r _ [9, 10, 11, 12, 8, 13, 29, 30, 31, 32, 33, 34, 35, 36, 37, 38, 39, 40, 41, 42, 43, 44, 45, 46, 47, 48, 49, 50, 51] (by decide +kernel) (by decide +kernel)
set_option maxRecDepth 20000 in
theorem gX7_low_X7_isZone : GoodIn wsX7_low (wsV RX7 69 RX7 yX7_isZone wsX7_isZone) := goodIn_app (goodIn_of _ (by decide +kernel)) ggX7_low_X7_isZone
set_option maxRecDepth 20000 in
theorem ggX7_low_X7_in : GoodIn wsX7_low wsX7_in := goodIn_r _ [13] (by decide +kernel) (by decide +kernel)
set_option maxRecDepth 20000 in
theorem gX7_low_X7_in : GoodIn wsX7_low (va_wsS RX7 65 yX7_in wsX7_in) := goodIn_app (goodIn_of _ (by decide +kernel)) ggX7_low_X7_in
set_option maxRecDepth 20000 in
theorem ggX7_low_X7_findLow : GoodIn wsX7_low wsX7_findLow := goodIn_r _ [17, 4, 18, 19, 3, 2, 20, 21, 22, 8, 23, 24, 25, 26, 27, 28, 29, 30, 31, 32, 33, 34, 35, 36, 37, 38, 39, 40, 41, 42, 43, 44, 45, 46, 47, 48, 49, 50, 51] (by decide +kernel) (by decide +kernel)
set_option maxRecDepth 20000 in
theorem gX7_low_X7_findLow : GoodIn wsX7_low (wsV RX7 89 RX7 yX7_findLow wsX7_findLow) := goodIn_app (goodIn_of _ (by decide +kernel)) ggX7_low_X7_findLow
theorem dX7_low_0 : decode cX7_low 0 = .ok (.aload_n 0, 1) := by decide +kernel
theorem dX7_low_1 : decode cX7_low 1 = .ok (.iload_n 1, 1) := by decide +kernel
theorem dX7_low_2 : decode cX7_low 2 = .ok (.invokevirtual 69, 3) := by decide +kernel
theorem dX7_low_5 : decode cX7_low 5 = .ok (.ifCond .eq 20, 3) := by decide +kernel
theorem dX7_low_8 : decode cX7_low 8 = .ok (.iload_n 2, 1) := by decide +kernel
theorem dX7_low_9 : decode cX7_low 9 = .ok (.iconst 0, 1) := by decide +kernel
theorem dX7_low_10 : decode cX7_low 10 = .ok (.iconst 2, 1) := by decide +kernel
theorem dX7_low_11 : decode cX7_low 11 = .ok (.invokestatic 65, 3) := by decide +kernel
theorem dX7_low_14 : decode cX7_low 14 = .ok (.ifCond .eq 11, 3) := by decide +kernel
theorem dX7_low_17 : decode cX7_low 17 = .ok (.aload_n 0, 1) := by decide +kernel
theorem dX7_low_18 : decode cX7_low 18 = .ok (.iload_n 1, 1) := by decide +kernel
theorem dX7_low_19 : decode cX7_low 19 = .ok (.invokevirtual 89, 3) := by decide +kernel
theorem dX7_low_22 : decode cX7_low 22 = .ok (.ifCond .ne 6, 3) := by decide +kernel
theorem dX7_low_25 : decode cX7_low 25 = .ok (.ldc 92, 2) := by decide +kernel
theorem dX7_low_27 : decode cX7_low 27 = .ok (.ireturn, 1) := by decide +kernel
theorem dX7_low_28 : decode cX7_low 28 = .ok (.iload_n 2, 1) := by decide +kernel
theorem dX7_low_29 : decode cX7_low 29 = .ok (.ifCond .ne 10, 3) := by decide +kernel
theorem dX7_low_32 : decode cX7_low 32 = .ok (.aload_n 0, 1) := by decide +kernel
theorem dX7_low_33 : decode cX7_low 33 = .ok (.getfield 86, 3) := by decide +kernel
theorem dX7_low_36 : decode cX7_low 36 = .ok (.goto 19, 3) := by decide +kernel
theorem dX7_low_39 : decode cX7_low 39 = .ok (.iload_n 2, 1) := by decide +kernel
theorem dX7_low_40 : decode cX7_low 40 = .ok (.iconst 1, 1) := by decide +kernel
theorem dX7_low_41 : decode cX7_low 41 = .ok (.if_icmp .ne 10, 3) := by decide +kernel
theorem dX7_low_44 : decode cX7_low 44 = .ok (.aload_n 0, 1) := by decide +kernel
theorem dX7_low_45 : decode cX7_low 45 = .ok (.getfield 83, 3) := by decide +kernel
theorem dX7_low_48 : decode cX7_low 48 = .ok (.goto 7, 3) := by decide +kernel
theorem dX7_low_51 : decode cX7_low 51 = .ok (.aload_n 0, 1) := by decide +kernel
theorem dX7_low_52 : decode cX7_low 52 = .ok (.getfield 73, 3) := by decide +kernel
theorem dX7_low_55 : decode cX7_low 55 = .ok (.ireturn, 1) := by decide +kernel
set_option maxRecDepth 20000 in
theorem ggX7_leaksOf_X7_findLow : GoodIn wsX7_leaksOf wsX7_findLow := goodIn_r _ [11, 12, 13, 14, 6, 2, 15, 16, 17, 10, 18, 19, 20, 21, 22, 23, 24, 25, 26, 27, 28, 29, 30, 31, 32, 33, 34, 35, 36, 37, 38, 39, 40, 41, 42, 43, 44, 45, 46] (by decide +kernel) (by decide +kernel)
set_option maxRecDepth 20000 in
theorem gX7_leaksOf_X7_findLow : GoodIn wsX7_leaksOf (wsV RX7 89 RX7 yX7_findLow wsX7_findLow) := goodIn_app (goodIn_of _ (by decide +kernel)) ggX7_leaksOf_X7_findLow
theorem dX7_leaksOf_0 : decode cX7_leaksOf 0 = .ok (.aload_n 0, 1) := by decide +kernel
theorem dX7_leaksOf_1 : decode cX7_leaksOf 1 = .ok (.iload_n 1, 1) := by decide +kernel
theorem dX7_leaksOf_2 : decode cX7_leaksOf 2 = .ok (.invokevirtual 89, 3) := by decide +kernel
theorem dX7_leaksOf_5 : decode cX7_leaksOf 5 = .ok (.ifCond .ne 8, 3) := by decide +kernel
theorem dX7_leaksOf_8 : decode cX7_leaksOf 8 = .ok (.ldc 92, 2) := by decide +kernel
theorem dX7_leaksOf_10 : decode cX7_leaksOf 10 = .ok (.goto 44, 3) := by decide +kernel
theorem dX7_leaksOf_13 : decode cX7_leaksOf 13 = .ok (.iload_n 2, 1) := by decide +kernel
theorem dX7_leaksOf_14 : decode cX7_leaksOf 14 = .ok (.ifCond .ne 29, 3) := by decide +kernel
theorem dX7_leaksOf_17 : decode cX7_leaksOf 17 = .ok (.aload_n 0, 1) := by decide +kernel
theorem dX7_leaksOf_18 : decode cX7_leaksOf 18 = .ok (.getfield 86, 3) := by decide +kernel
theorem dX7_leaksOf_21 : decode cX7_leaksOf 21 = .ok (.aload_n 0, 1) := by decide +kernel
theorem dX7_leaksOf_22 : decode cX7_leaksOf 22 = .ok (.getfield 13, 3) := by decide +kernel
theorem dX7_leaksOf_25 : decode cX7_leaksOf 25 = .ok (.iload_n 1, 1) := by decide +kernel
theorem dX7_leaksOf_26 : decode cX7_leaksOf 26 = .ok (.iaload, 1) := by decide +kernel
theorem dX7_leaksOf_27 : decode cX7_leaksOf 27 = .ok (.isub, 1) := by decide +kernel
theorem dX7_leaksOf_28 : decode cX7_leaksOf 28 = .ok (.aload_n 0, 1) := by decide +kernel
theorem dX7_leaksOf_29 : decode cX7_leaksOf 29 = .ok (.getfield 7, 3) := by decide +kernel
theorem dX7_leaksOf_32 : decode cX7_leaksOf 32 = .ok (.iload_n 1, 1) := by decide +kernel
theorem dX7_leaksOf_33 : decode cX7_leaksOf 33 = .ok (.iaload, 1) := by decide +kernel
theorem dX7_leaksOf_34 : decode cX7_leaksOf 34 = .ok (.aload_n 0, 1) := by decide +kernel
theorem dX7_leaksOf_35 : decode cX7_leaksOf 35 = .ok (.getfield 26, 3) := by decide +kernel
theorem dX7_leaksOf_38 : decode cX7_leaksOf 38 = .ok (.imul, 1) := by decide +kernel
theorem dX7_leaksOf_39 : decode cX7_leaksOf 39 = .ok (.isub, 1) := by decide +kernel
theorem dX7_leaksOf_40 : decode cX7_leaksOf 40 = .ok (.goto 14, 3) := by decide +kernel
theorem dX7_leaksOf_43 : decode cX7_leaksOf 43 = .ok (.aload_n 0, 1) := by decide +kernel
theorem dX7_leaksOf_44 : decode cX7_leaksOf 44 = .ok (.getfield 83, 3) := by decide +kernel
theorem dX7_leaksOf_47 : decode cX7_leaksOf 47 = .ok (.aload_n 0, 1) := by decide +kernel
theorem dX7_leaksOf_48 : decode cX7_leaksOf 48 = .ok (.getfield 13, 3) := by decide +kernel
theorem dX7_leaksOf_51 : decode cX7_leaksOf 51 = .ok (.iload_n 1, 1) := by decide +kernel
theorem dX7_leaksOf_52 : decode cX7_leaksOf 52 = .ok (.iaload, 1) := by decide +kernel
theorem dX7_leaksOf_53 : decode cX7_leaksOf 53 = .ok (.isub, 1) := by decide +kernel
theorem dX7_leaksOf_54 : decode cX7_leaksOf 54 = .ok (.ireturn, 1) := by decide +kernel
set_option maxRecDepth 20000 in
theorem ggX7_leaks_X7_isZone : GoodIn wsX7_leaks wsX7_isZone := goodIn_r _ [6, 7, 8, 9, 5, 10, 36, 37, 38, 39, 40, 41, 42, 43, 44, 45, 46, 47, 48, 49, 50, 51, 52, 53, 54, 55, 56, 57, 58] (by decide +kernel) (by decide +kernel)
set_option maxRecDepth 20000 in
theorem gX7_leaks_X7_isZone : GoodIn wsX7_leaks (wsV RX7 69 RX7 yX7_isZone wsX7_isZone) := goodIn_app (goodIn_of _ (by decide +kernel)) ggX7_leaks_X7_isZone
set_option maxRecDepth 20000 in
theorem ggX7_leaks_X7_in : GoodIn wsX7_leaks wsX7_in := goodIn_r _ [10] (by decide +kernel) (by decide +kernel)
set_option maxRecDepth 20000 in
theorem gX7_leaks_X7_in : GoodIn wsX7_leaks (va_wsS RX7 65 yX7_in wsX7_in) := goodIn_app (goodIn_of _ (by decide +kernel)) ggX7_leaks_X7_in
set_option maxRecDepth 20000 in
theorem ggX7_leaks_X7_leaksOf : GoodIn wsX7_leaks wsX7_leaksOf := goodIn_r _ [14, 1, 15, 16, 17, 18, 19, 20, 21, 22, 5, 23, 24, 25, 26, 27, 28, 29, 30, 31, 32, 33, 34, 35, 36, 37, 38, 39, 40, 41, 42, 43, 44, 45, 46, 47, 48, 49, 50, 51, 52, 53, 54, 55, 56, 57, 58] (by decide +kernel) (by decide +kernel)
set_option maxRecDepth 20000 in
theorem gX7_leaks_X7_leaksOf : GoodIn wsX7_leaks (wsV RX7 93 RX7 yX7_leaksOf wsX7_leaksOf) := goodIn_app (goodIn_of _ (by decide +kernel)) ggX7_leaks_X7_leaksOf
theorem dX7_leaks_0 : decode cX7_leaks 0 = .ok (.aload_n 0, 1) := by decide +kernel
theorem dX7_leaks_1 : decode cX7_leaks 1 = .ok (.iload_n 1, 1) := by decide +kernel
theorem dX7_leaks_2 : decode cX7_leaks 2 = .ok (.invokevirtual 69, 3) := by decide +kernel
theorem dX7_leaks_5 : decode cX7_leaks 5 = .ok (.ifCond .eq 21, 3) := by decide +kernel
theorem dX7_leaks_8 : decode cX7_leaks 8 = .ok (.iload_n 2, 1) := by decide +kernel
theorem dX7_leaks_9 : decode cX7_leaks 9 = .ok (.iconst 0, 1) := by decide +kernel
theorem dX7_leaks_10 : decode cX7_leaks 10 = .ok (.iconst 1, 1) := by decide +kernel
theorem dX7_leaks_11 : decode cX7_leaks 11 = .ok (.invokestatic 65, 3) := by decide +kernel
theorem dX7_leaks_14 : decode cX7_leaks 14 = .ok (.ifCond .eq 12, 3) := by decide +kernel
theorem dX7_leaks_17 : decode cX7_leaks 17 = .ok (.aload_n 0, 1) := by decide +kernel
theorem dX7_leaks_18 : decode cX7_leaks 18 = .ok (.iload_n 1, 1) := by decide +kernel
theorem dX7_leaks_19 : decode cX7_leaks 19 = .ok (.iload_n 2, 1) := by decide +kernel
theorem dX7_leaks_20 : decode cX7_leaks 20 = .ok (.invokevirtual 93, 3) := by decide +kernel
theorem dX7_leaks_23 : decode cX7_leaks 23 = .ok (.goto 5, 3) := by decide +kernel
theorem dX7_leaks_26 : decode cX7_leaks 26 = .ok (.ldc 92, 2) := by decide +kernel
theorem dX7_leaks_28 : decode cX7_leaks 28 = .ok (.ireturn, 1) := by decide +kernel
set_option maxRecDepth 20000 in
theorem ggX7_valve_X7_isZone : GoodIn wsX7_valve wsX7_isZone := goodIn_r _ [8, 9, 10, 11, 7, 12, 13, 14, 15, 16, 17, 18, 19, 20, 21, 22, 23, 24, 25, 26, 27, 28, 29, 30, 31, 32, 33, 34, 35] (by decide +kernel) (by decide +kernel)
set_option maxRecDepth 20000 in
theorem gX7_valve_X7_isZone : GoodIn wsX7_valve (wsV RX7 69 RX7 yX7_isZone wsX7_isZone) := goodIn_app (goodIn_of _ (by decide +kernel)) ggX7_valve_X7_isZone
theorem dX7_valve_0 : decode cX7_valve 0 = .ok (.aload_n 0, 1) := by decide +kernel
theorem dX7_valve_1 : decode cX7_valve 1 = .ok (.iload_n 1, 1) := by decide +kernel
theorem dX7_valve_2 : decode cX7_valve 2 = .ok (.invokevirtual 69, 3) := by decide +kernel
theorem dX7_valve_5 : decode cX7_valve 5 = .ok (.ifCond .eq 16, 3) := by decide +kernel
theorem dX7_valve_8 : decode cX7_valve 8 = .ok (.aload_n 0, 1) := by decide +kernel
theorem dX7_valve_9 : decode cX7_valve 9 = .ok (.iload_n 2, 1) := by decide +kernel
theorem dX7_valve_10 : decode cX7_valve 10 = .ok (.invokevirtual 69, 3) := by decide +kernel
theorem dX7_valve_13 : decode cX7_valve 13 = .ok (.ifCond .eq 8, 3) := by decide +kernel
theorem dX7_valve_16 : decode cX7_valve 16 = .ok (.iload_n 1, 1) := by decide +kernel
theorem dX7_valve_17 : decode cX7_valve 17 = .ok (.iload_n 2, 1) := by decide +kernel
theorem dX7_valve_18 : decode cX7_valve 18 = .ok (.if_icmp .ne 6, 3) := by decide +kernel
theorem dX7_valve_21 : decode cX7_valve 21 = .ok (.bipush (-2), 2) := by decide +kernel
theorem dX7_valve_23 : decode cX7_valve 23 = .ok (.ireturn, 1) := by decide +kernel
theorem dX7_valve_24 : decode cX7_valve 24 = .ok (.aload_n 0, 1) := by decide +kernel
theorem dX7_valve_25 : decode cX7_valve 25 = .ok (.getfield 97, 3) := by decide +kernel
theorem dX7_valve_28 : decode cX7_valve 28 = .ok (.bipush 12, 2) := by decide +kernel
theorem dX7_valve_30 : decode cX7_valve 30 = .ok (.if_icmp .ne 6, 3) := by decide +kernel
theorem dX7_valve_33 : decode cX7_valve 33 = .ok (.bipush (-4), 2) := by decide +kernel
theorem dX7_valve_35 : decode cX7_valve 35 = .ok (.ireturn, 1) := by decide +kernel
theorem dX7_valve_36 : decode cX7_valve 36 = .ok (.aload_n 0, 1) := by decide +kernel
theorem dX7_valve_37 : decode cX7_valve 37 = .ok (.getfield 29, 3) := by decide +kernel
theorem dX7_valve_40 : decode cX7_valve 40 = .ok (.aload_n 0, 1) := by decide +kernel
theorem dX7_valve_41 : decode cX7_valve 41 = .ok (.getfield 97, 3) := by decide +kernel
theorem dX7_valve_44 : decode cX7_valve 44 = .ok (.iload_n 1, 1) := by decide +kernel
theorem dX7_valve_45 : decode cX7_valve 45 = .ok (.iastore, 1) := by decide +kernel
theorem dX7_valve_46 : decode cX7_valve 46 = .ok (.aload_n 0, 1) := by decide +kernel
theorem dX7_valve_47 : decode cX7_valve 47 = .ok (.getfield 32, 3) := by decide +kernel
theorem dX7_valve_50 : decode cX7_valve 50 = .ok (.aload_n 0, 1) := by decide +kernel
theorem dX7_valve_51 : decode cX7_valve 51 = .ok (.getfield 97, 3) := by decide +kernel
theorem dX7_valve_54 : decode cX7_valve 54 = .ok (.iload_n 2, 1) := by decide +kernel
theorem dX7_valve_55 : decode cX7_valve 55 = .ok (.iastore, 1) := by decide +kernel
theorem dX7_valve_56 : decode cX7_valve 56 = .ok (.aload_n 0, 1) := by decide +kernel
theorem dX7_valve_57 : decode cX7_valve 57 = .ok (.dup, 1) := by decide +kernel
theorem dX7_valve_58 : decode cX7_valve 58 = .ok (.getfield 97, 3) := by decide +kernel
theorem dX7_valve_61 : decode cX7_valve 61 = .ok (.iconst 1, 1) := by decide +kernel
theorem dX7_valve_62 : decode cX7_valve 62 = .ok (.iadd, 1) := by decide +kernel
theorem dX7_valve_63 : decode cX7_valve 63 = .ok (.putfield 97, 3) := by decide +kernel
theorem dX7_valve_66 : decode cX7_valve 66 = .ok (.aload_n 0, 1) := by decide +kernel
theorem dX7_valve_67 : decode cX7_valve 67 = .ok (.getfield 97, 3) := by decide +kernel
theorem dX7_valve_70 : decode cX7_valve 70 = .ok (.iconst 1, 1) := by decide +kernel
theorem dX7_valve_71 : decode cX7_valve 71 = .ok (.isub, 1) := by decide +kernel
theorem dX7_valve_72 : decode cX7_valve 72 = .ok (.ireturn, 1) := by decide +kernel
theorem dX7_findGroups_0 : decode cX7_findGroups 0 = .ok (.iconst 0, 1) := by decide +kernel
theorem dX7_findGroups_1 : decode cX7_findGroups 1 = .ok (.istore_n 2, 1) := by decide +kernel
theorem dX7_findGroups_2 : decode cX7_findGroups 2 = .ok (.iload_n 2, 1) := by decide +kernel
theorem dX7_findGroups_3 : decode cX7_findGroups 3 = .ok (.aload_n 0, 1) := by decide +kernel
theorem dX7_findGroups_4 : decode cX7_findGroups 4 = .ok (.getfield 62, 3) := by decide +kernel
theorem dX7_findGroups_7 : decode cX7_findGroups 7 = .ok (.if_icmp .ge 16, 3) := by decide +kernel
theorem dX7_findGroups_10 : decode cX7_findGroups 10 = .ok (.aload_n 0, 1) := by decide +kernel
theorem dX7_findGroups_11 : decode cX7_findGroups 11 = .ok (.getfield 35, 3) := by decide +kernel
theorem dX7_findGroups_14 : decode cX7_findGroups 14 = .ok (.iload_n 2, 1) := by decide +kernel
theorem dX7_findGroups_15 : decode cX7_findGroups 15 = .ok (.iload_n 2, 1) := by decide +kernel
theorem dX7_findGroups_16 : decode cX7_findGroups 16 = .ok (.iastore, 1) := by decide +kernel
theorem dX7_findGroups_17 : decode cX7_findGroups 17 = .ok (.iinc 2 1, 3) := by decide +kernel
theorem dX7_findGroups_20 : decode cX7_findGroups 20 = .ok (.goto (-18), 3) := by decide +kernel
theorem dX7_findGroups_23 : decode cX7_findGroups 23 = .ok (.iconst 0, 1) := by decide +kernel
theorem dX7_findGroups_24 : decode cX7_findGroups 24 = .ok (.istore_n 2, 1) := by decide +kernel
theorem dX7_findGroups_25 : decode cX7_findGroups 25 = .ok (.iload_n 2, 1) := by decide +kernel
theorem dX7_findGroups_26 : decode cX7_findGroups 26 = .ok (.aload_n 0, 1) := by decide +kernel
theorem dX7_findGroups_27 : decode cX7_findGroups 27 = .ok (.getfield 97, 3) := by decide +kernel
theorem dX7_findGroups_30 : decode cX7_findGroups 30 = .ok (.if_icmp .ge 113, 3) := by decide +kernel
theorem dX7_findGroups_33 : decode cX7_findGroups 33 = .ok (.aload_n 0, 1) := by decide +kernel
theorem dX7_findGroups_34 : decode cX7_findGroups 34 = .ok (.getfield 35, 3) := by decide +kernel
theorem dX7_findGroups_37 : decode cX7_findGroups 37 = .ok (.aload_n 0, 1) := by decide +kernel
theorem dX7_findGroups_38 : decode cX7_findGroups 38 = .ok (.getfield 29, 3) := by decide +kernel
theorem dX7_findGroups_41 : decode cX7_findGroups 41 = .ok (.iload_n 2, 1) := by decide +kernel
theorem dX7_findGroups_42 : decode cX7_findGroups 42 = .ok (.iaload, 1) := by decide +kernel
theorem dX7_findGroups_43 : decode cX7_findGroups 43 = .ok (.iaload, 1) := by decide +kernel
theorem dX7_findGroups_44 : decode cX7_findGroups 44 = .ok (.istore_n 3, 1) := by decide +kernel
theorem dX7_findGroups_45 : decode cX7_findGroups 45 = .ok (.aload_n 0, 1) := by decide +kernel
theorem dX7_findGroups_46 : decode cX7_findGroups 46 = .ok (.getfield 35, 3) := by decide +kernel
theorem dX7_findGroups_49 : decode cX7_findGroups 49 = .ok (.aload_n 0, 1) := by decide +kernel
theorem dX7_findGroups_50 : decode cX7_findGroups 50 = .ok (.getfield 32, 3) := by decide +kernel
theorem dX7_findGroups_53 : decode cX7_findGroups 53 = .ok (.iload_n 2, 1) := by decide +kernel
theorem dX7_findGroups_54 : decode cX7_findGroups 54 = .ok (.iaload, 1) := by decide +kernel
theorem dX7_findGroups_55 : decode cX7_findGroups 55 = .ok (.iaload, 1) := by decide +kernel
theorem dX7_findGroups_56 : decode cX7_findGroups 56 = .ok (.istore 4, 2) := by decide +kernel
theorem dX7_findGroups_58 : decode cX7_findGroups 58 = .ok (.iconst 0, 1) := by decide +kernel
theorem dX7_findGroups_59 : decode cX7_findGroups 59 = .ok (.istore 5, 2) := by decide +kernel
theorem dX7_findGroups_61 : decode cX7_findGroups 61 = .ok (.iload 5, 2) := by decide +kernel
theorem dX7_findGroups_63 : decode cX7_findGroups 63 = .ok (.aload_n 0, 1) := by decide +kernel
theorem dX7_findGroups_64 : decode cX7_findGroups 64 = .ok (.getfield 62, 3) := by decide +kernel
theorem dX7_findGroups_67 : decode cX7_findGroups 67 = .ok (.if_icmp .ge 70, 3) := by decide +kernel
theorem dX7_findGroups_70 : decode cX7_findGroups 70 = .ok (.iload_n 1, 1) := by decide +kernel
theorem dX7_findGroups_71 : decode cX7_findGroups 71 = .ok (.iload_n 2, 1) := by decide +kernel
theorem dX7_findGroups_72 : decode cX7_findGroups 72 = .ok (.ishr, 1) := by decide +kernel
theorem dX7_findGroups_73 : decode cX7_findGroups 73 = .ok (.iconst 1, 1) := by decide +kernel
theorem dX7_findGroups_74 : decode cX7_findGroups 74 = .ok (.iand, 1) := by decide +kernel
theorem dX7_findGroups_75 : decode cX7_findGroups 75 = .ok (.iconst 1, 1) := by decide +kernel
theorem dX7_findGroups_76 : decode cX7_findGroups 76 = .ok (.if_icmp .ne 61, 3) := by decide +kernel
theorem dX7_findGroups_79 : decode cX7_findGroups 79 = .ok (.aload_n 0, 1) := by decide +kernel
theorem dX7_findGroups_80 : decode cX7_findGroups 80 = .ok (.getfield 35, 3) := by decide +kernel
theorem dX7_findGroups_83 : decode cX7_findGroups 83 = .ok (.iload 5, 2) := by decide +kernel
theorem dX7_findGroups_85 : decode cX7_findGroups 85 = .ok (.aload_n 0, 1) := by decide +kernel
theorem dX7_findGroups_86 : decode cX7_findGroups 86 = .ok (.getfield 35, 3) := by decide +kernel
theorem dX7_findGroups_89 : decode cX7_findGroups 89 = .ok (.iload 5, 2) := by decide +kernel
theorem dX7_findGroups_91 : decode cX7_findGroups 91 = .ok (.iaload, 1) := by decide +kernel
theorem dX7_findGroups_92 : decode cX7_findGroups 92 = .ok (.iload_n 3, 1) := by decide +kernel
theorem dX7_findGroups_93 : decode cX7_findGroups 93 = .ok (.if_icmp .eq 15, 3) := by decide +kernel
theorem dX7_findGroups_96 : decode cX7_findGroups 96 = .ok (.aload_n 0, 1) := by decide +kernel
theorem dX7_findGroups_97 : decode cX7_findGroups 97 = .ok (.getfield 35, 3) := by decide +kernel
theorem dX7_findGroups_100 : decode cX7_findGroups 100 = .ok (.iload 5, 2) := by decide +kernel
theorem dX7_findGroups_102 : decode cX7_findGroups 102 = .ok (.iaload, 1) := by decide +kernel
theorem dX7_findGroups_103 : decode cX7_findGroups 103 = .ok (.iload 4, 2) := by decide +kernel
theorem dX7_findGroups_105 : decode cX7_findGroups 105 = .ok (.if_icmp .ne 18, 3) := by decide +kernel
theorem dX7_findGroups_108 : decode cX7_findGroups 108 = .ok (.iload_n 3, 1) := by decide +kernel
theorem dX7_findGroups_109 : decode cX7_findGroups 109 = .ok (.iload 4, 2) := by decide +kernel
theorem dX7_findGroups_111 : decode cX7_findGroups 111 = .ok (.if_icmp .ge 7, 3) := by decide +kernel
theorem dX7_findGroups_114 : decode cX7_findGroups 114 = .ok (.iload_n 3, 1) := by decide +kernel
theorem dX7_findGroups_115 : decode cX7_findGroups 115 = .ok (.goto 15, 3) := by decide +kernel
theorem dX7_findGroups_118 : decode cX7_findGroups 118 = .ok (.iload 4, 2) := by decide +kernel
theorem dX7_findGroups_120 : decode cX7_findGroups 120 = .ok (.goto 10, 3) := by decide +kernel
theorem dX7_findGroups_123 : decode cX7_findGroups 123 = .ok (.aload_n 0, 1) := by decide +kernel
theorem dX7_findGroups_124 : decode cX7_findGroups 124 = .ok (.getfield 35, 3) := by decide +kernel
theorem dX7_findGroups_127 : decode cX7_findGroups 127 = .ok (.iload 5, 2) := by decide +kernel
theorem dX7_findGroups_129 : decode cX7_findGroups 129 = .ok (.iaload, 1) := by decide +kernel
theorem dX7_findGroups_130 : decode cX7_findGroups 130 = .ok (.iastore, 1) := by decide +kernel
theorem dX7_findGroups_131 : decode cX7_findGroups 131 = .ok (.iinc 5 1, 3) := by decide +kernel
theorem dX7_findGroups_134 : decode cX7_findGroups 134 = .ok (.goto (-73), 3) := by decide +kernel
theorem dX7_findGroups_137 : decode cX7_findGroups 137 = .ok (.iinc 2 1, 3) := by decide +kernel
theorem dX7_findGroups_140 : decode cX7_findGroups 140 = .ok (.goto (-115), 3) := by decide +kernel
theorem dX7_findGroups_143 : decode cX7_findGroups 143 = .ok (.return_, 1) := by decide +kernel
set_option maxRecDepth 20000 in
theorem ggX7_isSet_X7_in : GoodIn wsX7_isSet wsX7_in := goodIn_r _ [5] (by decide +kernel) (by decide +kernel)
set_option maxRecDepth 20000 in
theorem gX7_isSet_X7_in : GoodIn wsX7_isSet (va_wsS RX7 65 yX7_in wsX7_in) := goodIn_app (goodIn_of _ (by decide +kernel)) ggX7_isSet_X7_in
theorem dX7_isSet_0 : decode cX7_isSet 0 = .ok (.iload_n 1, 1) := by decide +kernel
theorem dX7_isSet_1 : decode cX7_isSet 1 = .ok (.iconst 0, 1) := by decide +kernel
theorem dX7_isSet_2 : decode cX7_isSet 2 = .ok (.iconst 1, 1) := by decide +kernel
theorem dX7_isSet_3 : decode cX7_isSet 3 = .ok (.aload_n 0, 1) := by decide +kernel
theorem dX7_isSet_4 : decode cX7_isSet 4 = .ok (.getfield 97, 3) := by decide +kernel
theorem dX7_isSet_7 : decode cX7_isSet 7 = .ok (.ishl, 1) := by decide +kernel
theorem dX7_isSet_8 : decode cX7_isSet 8 = .ok (.iconst 1, 1) := by decide +kernel
theorem dX7_isSet_9 : decode cX7_isSet 9 = .ok (.isub, 1) := by decide +kernel
theorem dX7_isSet_10 : decode cX7_isSet 10 = .ok (.invokestatic 65, 3) := by decide +kernel
theorem dX7_isSet_13 : decode cX7_isSet 13 = .ok (.ireturn, 1) := by decide +kernel
set_option maxRecDepth 20000 in
theorem ggX7_group_X7_isZone : GoodIn wsX7_group wsX7_isZone := goodIn_r _ [6, 7, 8, 9, 5, 10, 22, 23, 24, 25, 26, 27, 28, 29, 30, 31, 32, 33, 34, 35, 36, 37, 38, 39, 40, 41, 42, 43, 44] (by decide +kernel) (by decide +kernel)
set_option maxRecDepth 20000 in
theorem gX7_group_X7_isZone : GoodIn wsX7_group (wsV RX7 69 RX7 yX7_isZone wsX7_isZone) := goodIn_app (goodIn_of _ (by decide +kernel)) ggX7_group_X7_isZone
set_option maxRecDepth 20000 in
theorem ggX7_group_X7_isSet : GoodIn wsX7_group wsX7_isSet := goodIn_r _ [14, 15, 8, 9, 5, 10, 22, 23, 24, 25, 26, 27, 28, 29, 30, 31, 32, 33, 34, 35, 36, 37, 38, 39, 40, 41, 42, 43, 44] (by decide +kernel) (by decide +kernel)
set_option maxRecDepth 20000 in
theorem gX7_group_X7_isSet : GoodIn wsX7_group (wsV RX7 100 RX7 yX7_isSet wsX7_isSet) := goodIn_app (goodIn_of _ (by decide +kernel)) ggX7_group_X7_isSet
set_option maxRecDepth 20000 in
theorem ggX7_group_X7_findGroups : GoodIn wsX7_group wsX7_findGroups := goodIn_r _ [19, 7, 1, 15, 20, 21, 22, 23, 24, 25, 26, 27, 28, 29, 30, 31, 32, 33, 34, 35, 36, 37, 38, 39, 40, 41, 42, 43, 44] (by decide +kernel) (by decide +kernel)
set_option maxRecDepth 20000 in
theorem gX7_group_X7_findGroups : GoodIn wsX7_group (wsV RX7 103 RX7 yX7_findGroups wsX7_findGroups) := goodIn_app (goodIn_of _ (by decide +kernel)) ggX7_group_X7_findGroups
theorem dX7_group_0 : decode cX7_group 0 = .ok (.aload_n 0, 1) := by decide +kernel
theorem dX7_group_1 : decode cX7_group 1 = .ok (.iload_n 1, 1) := by decide +kernel
theorem dX7_group_2 : decode cX7_group 2 = .ok (.invokevirtual 69, 3) := by decide +kernel
theorem dX7_group_5 : decode cX7_group 5 = .ok (.ifCond .eq 11, 3) := by decide +kernel
theorem dX7_group_8 : decode cX7_group 8 = .ok (.aload_n 0, 1) := by decide +kernel
theorem dX7_group_9 : decode cX7_group 9 = .ok (.iload_n 2, 1) := by decide +kernel
theorem dX7_group_10 : decode cX7_group 10 = .ok (.invokevirtual 100, 3) := by decide +kernel
theorem dX7_group_13 : decode cX7_group 13 = .ok (.ifCond .ne 6, 3) := by decide +kernel
theorem dX7_group_16 : decode cX7_group 16 = .ok (.bipush (-2), 2) := by decide +kernel
theorem dX7_group_18 : decode cX7_group 18 = .ok (.ireturn, 1) := by decide +kernel
theorem dX7_group_19 : decode cX7_group 19 = .ok (.aload_n 0, 1) := by decide +kernel
theorem dX7_group_20 : decode cX7_group 20 = .ok (.iload_n 2, 1) := by decide +kernel
theorem dX7_group_21 : decode cX7_group 21 = .ok (.invokevirtual 103, 3) := by decide +kernel
theorem dX7_group_24 : decode cX7_group 24 = .ok (.aload_n 0, 1) := by decide +kernel
theorem dX7_group_25 : decode cX7_group 25 = .ok (.getfield 35, 3) := by decide +kernel
theorem dX7_group_28 : decode cX7_group 28 = .ok (.iload_n 1, 1) := by decide +kernel
theorem dX7_group_29 : decode cX7_group 29 = .ok (.iaload, 1) := by decide +kernel
theorem dX7_group_30 : decode cX7_group 30 = .ok (.ireturn, 1) := by decide +kernel
set_option maxRecDepth 20000 in
theorem ggX7_doesExplain_X7_findGroups : GoodIn wsX7_doesExplain wsX7_findGroups := goodIn_r _ [8, 1, 2, 9, 10, 11, 37, 38, 39, 40, 41, 42, 43, 44, 45, 46, 47, 48, 49, 50, 51, 52, 53, 54, 55, 56, 57, 58, 59] (by decide +kernel) (by decide +kernel)
set_option maxRecDepth 20000 in
theorem gX7_doesExplain_X7_findGroups : GoodIn wsX7_doesExplain (wsV RX7 103 RX7 yX7_findGroups wsX7_findGroups) := goodIn_app (goodIn_of _ (by decide +kernel)) ggX7_doesExplain_X7_findGroups
set_option maxRecDepth 20000 in
theorem ggX7_doesExplain_X7_leaksOf : GoodIn wsX7_doesExplain wsX7_leaksOf := goodIn_r _ [15, 3, 16, 17, 18, 19, 20, 21, 22, 23, 7, 24, 25, 26, 27, 28, 29, 30, 31, 32, 33, 34, 35, 36, 37, 38, 39, 40, 41, 42, 43, 44, 45, 46, 47, 48, 49, 50, 51, 52, 53, 54, 55, 56, 57, 58, 59] (by decide +kernel) (by decide +kernel)
set_option maxRecDepth 20000 in
theorem gX7_doesExplain_X7_leaksOf : GoodIn wsX7_doesExplain (wsV RX7 93 RX7 yX7_leaksOf wsX7_leaksOf) := goodIn_app (goodIn_of _ (by decide +kernel)) ggX7_doesExplain_X7_leaksOf
theorem dX7_doesExplain_0 : decode cX7_doesExplain 0 = .ok (.aload_n 0, 1) := by decide +kernel
theorem dX7_doesExplain_1 : decode cX7_doesExplain 1 = .ok (.iload_n 1, 1) := by decide +kernel
theorem dX7_doesExplain_2 : decode cX7_doesExplain 2 = .ok (.invokevirtual 103, 3) := by decide +kernel
theorem dX7_doesExplain_5 : decode cX7_doesExplain 5 = .ok (.iconst 0, 1) := by decide +kernel
theorem dX7_doesExplain_6 : decode cX7_doesExplain 6 = .ok (.istore_n 2, 1) := by decide +kernel
theorem dX7_doesExplain_7 : decode cX7_doesExplain 7 = .ok (.iload_n 2, 1) := by decide +kernel
theorem dX7_doesExplain_8 : decode cX7_doesExplain 8 = .ok (.aload_n 0, 1) := by decide +kernel
theorem dX7_doesExplain_9 : decode cX7_doesExplain 9 = .ok (.getfield 62, 3) := by decide +kernel
theorem dX7_doesExplain_12 : decode cX7_doesExplain 12 = .ok (.if_icmp .ge 109, 3) := by decide +kernel
theorem dX7_doesExplain_15 : decode cX7_doesExplain 15 = .ok (.aload_n 0, 1) := by decide +kernel
theorem dX7_doesExplain_16 : decode cX7_doesExplain 16 = .ok (.getfield 35, 3) := by decide +kernel
theorem dX7_doesExplain_19 : decode cX7_doesExplain 19 = .ok (.iload_n 2, 1) := by decide +kernel
theorem dX7_doesExplain_20 : decode cX7_doesExplain 20 = .ok (.iaload, 1) := by decide +kernel
theorem dX7_doesExplain_21 : decode cX7_doesExplain 21 = .ok (.iload_n 2, 1) := by decide +kernel
theorem dX7_doesExplain_22 : decode cX7_doesExplain 22 = .ok (.if_icmp .ne 7, 3) := by decide +kernel
theorem dX7_doesExplain_25 : decode cX7_doesExplain 25 = .ok (.iconst 1, 1) := by decide +kernel
theorem dX7_doesExplain_26 : decode cX7_doesExplain 26 = .ok (.goto 4, 3) := by decide +kernel
theorem dX7_doesExplain_29 : decode cX7_doesExplain 29 = .ok (.iconst 0, 1) := by decide +kernel
theorem dX7_doesExplain_30 : decode cX7_doesExplain 30 = .ok (.istore_n 3, 1) := by decide +kernel
theorem dX7_doesExplain_31 : decode cX7_doesExplain 31 = .ok (.iconst 0, 1) := by decide +kernel
theorem dX7_doesExplain_32 : decode cX7_doesExplain 32 = .ok (.istore 4, 2) := by decide +kernel
theorem dX7_doesExplain_34 : decode cX7_doesExplain 34 = .ok (.iconst 0, 1) := by decide +kernel
theorem dX7_doesExplain_35 : decode cX7_doesExplain 35 = .ok (.istore 5, 2) := by decide +kernel
theorem dX7_doesExplain_37 : decode cX7_doesExplain 37 = .ok (.iload 5, 2) := by decide +kernel
theorem dX7_doesExplain_39 : decode cX7_doesExplain 39 = .ok (.aload_n 0, 1) := by decide +kernel
theorem dX7_doesExplain_40 : decode cX7_doesExplain 40 = .ok (.getfield 62, 3) := by decide +kernel
theorem dX7_doesExplain_43 : decode cX7_doesExplain 43 = .ok (.if_icmp .ge 61, 3) := by decide +kernel
theorem dX7_doesExplain_46 : decode cX7_doesExplain 46 = .ok (.iload_n 3, 1) := by decide +kernel
theorem dX7_doesExplain_47 : decode cX7_doesExplain 47 = .ok (.ifCond .eq 57, 3) := by decide +kernel
theorem dX7_doesExplain_50 : decode cX7_doesExplain 50 = .ok (.aload_n 0, 1) := by decide +kernel
theorem dX7_doesExplain_51 : decode cX7_doesExplain 51 = .ok (.getfield 35, 3) := by decide +kernel
theorem dX7_doesExplain_54 : decode cX7_doesExplain 54 = .ok (.iload 5, 2) := by decide +kernel
theorem dX7_doesExplain_56 : decode cX7_doesExplain 56 = .ok (.iaload, 1) := by decide +kernel
theorem dX7_doesExplain_57 : decode cX7_doesExplain 57 = .ok (.iload_n 2, 1) := by decide +kernel
theorem dX7_doesExplain_58 : decode cX7_doesExplain 58 = .ok (.if_icmp .ne 40, 3) := by decide +kernel
theorem dX7_doesExplain_61 : decode cX7_doesExplain 61 = .ok (.aload_n 0, 1) := by decide +kernel
theorem dX7_doesExplain_62 : decode cX7_doesExplain 62 = .ok (.iload 5, 2) := by decide +kernel
theorem dX7_doesExplain_64 : decode cX7_doesExplain 64 = .ok (.iconst 1, 1) := by decide +kernel
theorem dX7_doesExplain_65 : decode cX7_doesExplain 65 = .ok (.invokevirtual 93, 3) := by decide +kernel
theorem dX7_doesExplain_68 : decode cX7_doesExplain 68 = .ok (.istore 6, 2) := by decide +kernel
theorem dX7_doesExplain_70 : decode cX7_doesExplain 70 = .ok (.iload 6, 2) := by decide +kernel
theorem dX7_doesExplain_72 : decode cX7_doesExplain 72 = .ok (.ldc 92, 2) := by decide +kernel
theorem dX7_doesExplain_74 : decode cX7_doesExplain 74 = .ok (.if_icmp .eq 7, 3) := by decide +kernel
theorem dX7_doesExplain_77 : decode cX7_doesExplain 77 = .ok (.iconst 1, 1) := by decide +kernel
theorem dX7_doesExplain_78 : decode cX7_doesExplain 78 = .ok (.goto 4, 3) := by decide +kernel
theorem dX7_doesExplain_81 : decode cX7_doesExplain 81 = .ok (.iconst 0, 1) := by decide +kernel
theorem dX7_doesExplain_82 : decode cX7_doesExplain 82 = .ok (.istore_n 3, 1) := by decide +kernel
theorem dX7_doesExplain_83 : decode cX7_doesExplain 83 = .ok (.iload 4, 2) := by decide +kernel
theorem dX7_doesExplain_85 : decode cX7_doesExplain 85 = .ok (.iload_n 3, 1) := by decide +kernel
theorem dX7_doesExplain_86 : decode cX7_doesExplain 86 = .ok (.ifCond .eq 8, 3) := by decide +kernel
theorem dX7_doesExplain_89 : decode cX7_doesExplain 89 = .ok (.iload 6, 2) := by decide +kernel
theorem dX7_doesExplain_91 : decode cX7_doesExplain 91 = .ok (.goto 4, 3) := by decide +kernel
theorem dX7_doesExplain_94 : decode cX7_doesExplain 94 = .ok (.iconst 0, 1) := by decide +kernel
theorem dX7_doesExplain_95 : decode cX7_doesExplain 95 = .ok (.iadd, 1) := by decide +kernel
theorem dX7_doesExplain_96 : decode cX7_doesExplain 96 = .ok (.istore 4, 2) := by decide +kernel
theorem dX7_doesExplain_98 : decode cX7_doesExplain 98 = .ok (.iinc 5 1, 3) := by decide +kernel
theorem dX7_doesExplain_101 : decode cX7_doesExplain 101 = .ok (.goto (-64), 3) := by decide +kernel
theorem dX7_doesExplain_104 : decode cX7_doesExplain 104 = .ok (.iload_n 3, 1) := by decide +kernel
theorem dX7_doesExplain_105 : decode cX7_doesExplain 105 = .ok (.ifCond .eq 10, 3) := by decide +kernel
theorem dX7_doesExplain_108 : decode cX7_doesExplain 108 = .ok (.iload 4, 2) := by decide +kernel
theorem dX7_doesExplain_110 : decode cX7_doesExplain 110 = .ok (.ifCond .ge 5, 3) := by decide +kernel
theorem dX7_doesExplain_113 : decode cX7_doesExplain 113 = .ok (.iconst 0, 1) := by decide +kernel
theorem dX7_doesExplain_114 : decode cX7_doesExplain 114 = .ok (.ireturn, 1) := by decide +kernel
theorem dX7_doesExplain_115 : decode cX7_doesExplain 115 = .ok (.iinc 2 1, 3) := by decide +kernel
theorem dX7_doesExplain_118 : decode cX7_doesExplain 118 = .ok (.goto (-111), 3) := by decide +kernel
theorem dX7_doesExplain_121 : decode cX7_doesExplain 121 = .ok (.iconst 1, 1) := by decide +kernel
theorem dX7_doesExplain_122 : decode cX7_doesExplain 122 = .ok (.ireturn, 1) := by decide +kernel
set_option maxRecDepth 20000 in
theorem ggX7_explains_X7_isSet : GoodIn wsX7_explains wsX7_isSet := goodIn_r _ [5, 6, 7, 8, 4, 9, 48, 49, 50, 51, 52, 53, 54, 55, 56, 57, 58, 59, 60, 61, 62, 63, 64, 65, 66, 67, 68, 69, 70] (by decide +kernel) (by decide +kernel)
set_option maxRecDepth 20000 in
theorem gX7_explains_X7_isSet : GoodIn wsX7_explains (wsV RX7 100 RX7 yX7_isSet wsX7_isSet) := goodIn_app (goodIn_of _ (by decide +kernel)) ggX7_explains_X7_isSet
set_option maxRecDepth 20000 in
theorem ggX7_explains_X7_doesExplain : GoodIn wsX7_explains wsX7_doesExplain := goodIn_r _ [13, 14, 15, 16, 17, 18, 19, 4, 20, 6, 21, 22, 23, 24, 25, 26, 27, 28, 29, 30, 31, 32, 33, 34, 35, 36, 37, 38, 39, 40, 41, 42, 43, 44, 45, 46, 47, 48, 49, 50, 51, 52, 53, 54, 55, 56, 57, 58, 59, 60, 61, 62, 63, 64, 65, 66, 67, 68, 69, 70] (by decide +kernel) (by decide +kernel)
set_option maxRecDepth 20000 in
theorem gX7_explains_X7_doesExplain : GoodIn wsX7_explains (wsV RX7 107 RX7 yX7_doesExplain wsX7_doesExplain) := goodIn_app (goodIn_of _ (by decide +kernel)) ggX7_explains_X7_doesExplain
theorem dX7_explains_0 : decode cX7_explains 0 = .ok (.aload_n 0, 1) := by decide +kernel
theorem dX7_explains_1 : decode cX7_explains 1 = .ok (.iload_n 1, 1) := by decide +kernel
theorem dX7_explains_2 : decode cX7_explains 2 = .ok (.invokevirtual 100, 3) := by decide +kernel
theorem dX7_explains_5 : decode cX7_explains 5 = .ok (.ifCond .ne 8, 3) := by decide +kernel
theorem dX7_explains_8 : decode cX7_explains 8 = .ok (.bipush (-2), 2) := by decide +kernel
theorem dX7_explains_10 : decode cX7_explains 10 = .ok (.goto 16, 3) := by decide +kernel
theorem dX7_explains_13 : decode cX7_explains 13 = .ok (.aload_n 0, 1) := by decide +kernel
theorem dX7_explains_14 : decode cX7_explains 14 = .ok (.iload_n 1, 1) := by decide +kernel
theorem dX7_explains_15 : decode cX7_explains 15 = .ok (.invokevirtual 107, 3) := by decide +kernel
theorem dX7_explains_18 : decode cX7_explains 18 = .ok (.ifCond .eq 7, 3) := by decide +kernel
theorem dX7_explains_21 : decode cX7_explains 21 = .ok (.iconst 1, 1) := by decide +kernel
theorem dX7_explains_22 : decode cX7_explains 22 = .ok (.goto 4, 3) := by decide +kernel
theorem dX7_explains_25 : decode cX7_explains 25 = .ok (.iconst 0, 1) := by decide +kernel
theorem dX7_explains_26 : decode cX7_explains 26 = .ok (.ireturn, 1) := by decide +kernel
theorem dX7_many_0 : decode cX7_many 0 = .ok (.iconst 0, 1) := by decide +kernel
theorem dX7_many_1 : decode cX7_many 1 = .ok (.istore_n 1, 1) := by decide +kernel
theorem dX7_many_2 : decode cX7_many 2 = .ok (.iload_n 0, 1) := by decide +kernel
theorem dX7_many_3 : decode cX7_many 3 = .ok (.istore_n 2, 1) := by decide +kernel
theorem dX7_many_4 : decode cX7_many 4 = .ok (.iload_n 2, 1) := by decide +kernel
theorem dX7_many_5 : decode cX7_many 5 = .ok (.ifCond .le 16, 3) := by decide +kernel
theorem dX7_many_8 : decode cX7_many 8 = .ok (.iload_n 1, 1) := by decide +kernel
theorem dX7_many_9 : decode cX7_many 9 = .ok (.iload_n 2, 1) := by decide +kernel
theorem dX7_many_10 : decode cX7_many 10 = .ok (.iconst 1, 1) := by decide +kernel
theorem dX7_many_11 : decode cX7_many 11 = .ok (.iand, 1) := by decide +kernel
theorem dX7_many_12 : decode cX7_many 12 = .ok (.iadd, 1) := by decide +kernel
theorem dX7_many_13 : decode cX7_many 13 = .ok (.istore_n 1, 1) := by decide +kernel
theorem dX7_many_14 : decode cX7_many 14 = .ok (.iload_n 2, 1) := by decide +kernel
theorem dX7_many_15 : decode cX7_many 15 = .ok (.iconst 1, 1) := by decide +kernel
theorem dX7_many_16 : decode cX7_many 16 = .ok (.ishr, 1) := by decide +kernel
theorem dX7_many_17 : decode cX7_many 17 = .ok (.istore_n 2, 1) := by decide +kernel
theorem dX7_many_18 : decode cX7_many 18 = .ok (.goto (-14), 3) := by decide +kernel
theorem dX7_many_21 : decode cX7_many 21 = .ok (.iload_n 1, 1) := by decide +kernel
theorem dX7_many_22 : decode cX7_many 22 = .ok (.ireturn, 1) := by decide +kernel
set_option maxRecDepth 20000 in
theorem ggX7_fewest_X7_many : GoodIn wsX7_fewest wsX7_many := goodIn_r _ [5] (by decide +kernel) (by decide +kernel)
set_option maxRecDepth 20000 in
theorem gX7_fewest_X7_many : GoodIn wsX7_fewest (va_wsS RX7 110 yX7_many wsX7_many) := goodIn_app (goodIn_of _ (by decide +kernel)) ggX7_fewest_X7_many
set_option maxRecDepth 20000 in
theorem ggX7_fewest_X7_doesExplain : GoodIn wsX7_fewest wsX7_doesExplain := goodIn_r _ [9, 10, 11, 12, 13, 14, 15, 4, 16, 1, 17, 18, 19, 20, 21, 22, 23, 24, 25, 26, 27, 28, 29, 30, 31, 32, 33, 34, 35, 36, 37, 38, 39, 40, 41, 42, 43, 44, 45, 46, 47, 48, 49, 50, 51, 52, 53, 54, 55, 56, 57, 58, 59, 60, 61, 62, 63, 64, 65, 66] (by decide +kernel) (by decide +kernel)
set_option maxRecDepth 20000 in
theorem gX7_fewest_X7_doesExplain : GoodIn wsX7_fewest (wsV RX7 107 RX7 yX7_doesExplain wsX7_doesExplain) := goodIn_app (goodIn_of _ (by decide +kernel)) ggX7_fewest_X7_doesExplain
theorem dX7_fewest_0 : decode cX7_fewest 0 = .ok (.iconst (-1), 1) := by decide +kernel
theorem dX7_fewest_1 : decode cX7_fewest 1 = .ok (.istore_n 1, 1) := by decide +kernel
theorem dX7_fewest_2 : decode cX7_fewest 2 = .ok (.iconst 0, 1) := by decide +kernel
theorem dX7_fewest_3 : decode cX7_fewest 3 = .ok (.istore_n 2, 1) := by decide +kernel
theorem dX7_fewest_4 : decode cX7_fewest 4 = .ok (.iload_n 2, 1) := by decide +kernel
theorem dX7_fewest_5 : decode cX7_fewest 5 = .ok (.iconst 1, 1) := by decide +kernel
theorem dX7_fewest_6 : decode cX7_fewest 6 = .ok (.aload_n 0, 1) := by decide +kernel
theorem dX7_fewest_7 : decode cX7_fewest 7 = .ok (.getfield 97, 3) := by decide +kernel
theorem dX7_fewest_10 : decode cX7_fewest 10 = .ok (.ishl, 1) := by decide +kernel
theorem dX7_fewest_11 : decode cX7_fewest 11 = .ok (.if_icmp .ge 35, 3) := by decide +kernel
theorem dX7_fewest_14 : decode cX7_fewest 14 = .ok (.iload_n 1, 1) := by decide +kernel
theorem dX7_fewest_15 : decode cX7_fewest 15 = .ok (.iconst (-1), 1) := by decide +kernel
theorem dX7_fewest_16 : decode cX7_fewest 16 = .ok (.if_icmp .eq 14, 3) := by decide +kernel
theorem dX7_fewest_19 : decode cX7_fewest 19 = .ok (.iload_n 2, 1) := by decide +kernel
theorem dX7_fewest_20 : decode cX7_fewest 20 = .ok (.invokestatic 110, 3) := by decide +kernel
theorem dX7_fewest_23 : decode cX7_fewest 23 = .ok (.iload_n 1, 1) := by decide +kernel
theorem dX7_fewest_24 : decode cX7_fewest 24 = .ok (.invokestatic 110, 3) := by decide +kernel
theorem dX7_fewest_27 : decode cX7_fewest 27 = .ok (.if_icmp .ge 13, 3) := by decide +kernel
theorem dX7_fewest_30 : decode cX7_fewest 30 = .ok (.aload_n 0, 1) := by decide +kernel
theorem dX7_fewest_31 : decode cX7_fewest 31 = .ok (.iload_n 2, 1) := by decide +kernel
theorem dX7_fewest_32 : decode cX7_fewest 32 = .ok (.invokevirtual 107, 3) := by decide +kernel
theorem dX7_fewest_35 : decode cX7_fewest 35 = .ok (.ifCond .eq 5, 3) := by decide +kernel
theorem dX7_fewest_38 : decode cX7_fewest 38 = .ok (.iload_n 2, 1) := by decide +kernel
theorem dX7_fewest_39 : decode cX7_fewest 39 = .ok (.istore_n 1, 1) := by decide +kernel
theorem dX7_fewest_40 : decode cX7_fewest 40 = .ok (.iinc 2 1, 3) := by decide +kernel
theorem dX7_fewest_43 : decode cX7_fewest 43 = .ok (.goto (-39), 3) := by decide +kernel
theorem dX7_fewest_46 : decode cX7_fewest 46 = .ok (.iload_n 1, 1) := by decide +kernel
theorem dX7_fewest_47 : decode cX7_fewest 47 = .ok (.ireturn, 1) := by decide +kernel
set_option maxRecDepth 20000 in
theorem ggX7_sample_X7_in : GoodIn wsX7_sample wsX7_in := goodIn_r _ [6] (by decide +kernel) (by decide +kernel)
set_option maxRecDepth 20000 in
theorem gX7_sample_X7_in : GoodIn wsX7_sample (va_wsS RX7 65 yX7_in wsX7_in) := goodIn_app (goodIn_of _ (by decide +kernel)) ggX7_sample_X7_in
theorem dX7_sample_0 : decode cX7_sample 0 = .ok (.iload_n 1, 1) := by decide +kernel
theorem dX7_sample_1 : decode cX7_sample 1 = .ok (.iconst 0, 1) := by decide +kernel
theorem dX7_sample_2 : decode cX7_sample 2 = .ok (.iconst 1, 1) := by decide +kernel
theorem dX7_sample_3 : decode cX7_sample 3 = .ok (.invokestatic 65, 3) := by decide +kernel
theorem dX7_sample_6 : decode cX7_sample 6 = .ok (.ifCond .eq 32, 3) := by decide +kernel
theorem dX7_sample_9 : decode cX7_sample 9 = .ok (.iload_n 2, 1) := by decide +kernel
theorem dX7_sample_10 : decode cX7_sample 10 = .ok (.iconst 0, 1) := by decide +kernel
theorem dX7_sample_11 : decode cX7_sample 11 = .ok (.bipush 63, 2) := by decide +kernel
theorem dX7_sample_13 : decode cX7_sample 13 = .ok (.invokestatic 65, 3) := by decide +kernel
theorem dX7_sample_16 : decode cX7_sample 16 = .ok (.ifCond .eq 22, 3) := by decide +kernel
theorem dX7_sample_19 : decode cX7_sample 19 = .ok (.iload_n 3, 1) := by decide +kernel
theorem dX7_sample_20 : decode cX7_sample 20 = .ok (.sipush (-1000), 3) := by decide +kernel
theorem dX7_sample_23 : decode cX7_sample 23 = .ok (.sipush 1000, 3) := by decide +kernel
theorem dX7_sample_26 : decode cX7_sample 26 = .ok (.invokestatic 65, 3) := by decide +kernel
theorem dX7_sample_29 : decode cX7_sample 29 = .ok (.ifCond .ne 12, 3) := by decide +kernel
theorem dX7_sample_32 : decode cX7_sample 32 = .ok (.iload_n 3, 1) := by decide +kernel
theorem dX7_sample_33 : decode cX7_sample 33 = .ok (.ldc 92, 2) := by decide +kernel
theorem dX7_sample_35 : decode cX7_sample 35 = .ok (.if_icmp .eq 6, 3) := by decide +kernel
theorem dX7_sample_38 : decode cX7_sample 38 = .ok (.bipush (-2), 2) := by decide +kernel
theorem dX7_sample_40 : decode cX7_sample 40 = .ok (.ireturn, 1) := by decide +kernel
theorem dX7_sample_41 : decode cX7_sample 41 = .ok (.aload_n 0, 1) := by decide +kernel
theorem dX7_sample_42 : decode cX7_sample 42 = .ok (.getfield 38, 3) := by decide +kernel
theorem dX7_sample_45 : decode cX7_sample 45 = .ok (.bipush 64, 2) := by decide +kernel
theorem dX7_sample_47 : decode cX7_sample 47 = .ok (.iload_n 1, 1) := by decide +kernel
theorem dX7_sample_48 : decode cX7_sample 48 = .ok (.imul, 1) := by decide +kernel
theorem dX7_sample_49 : decode cX7_sample 49 = .ok (.iload_n 2, 1) := by decide +kernel
theorem dX7_sample_50 : decode cX7_sample 50 = .ok (.iadd, 1) := by decide +kernel
theorem dX7_sample_51 : decode cX7_sample 51 = .ok (.iload_n 3, 1) := by decide +kernel
theorem dX7_sample_52 : decode cX7_sample 52 = .ok (.iastore, 1) := by decide +kernel
theorem dX7_sample_53 : decode cX7_sample 53 = .ok (.iconst 1, 1) := by decide +kernel
theorem dX7_sample_54 : decode cX7_sample 54 = .ok (.ireturn, 1) := by decide +kernel
set_option maxRecDepth 20000 in
theorem ggX7_echo_X7_in : GoodIn wsX7_echo wsX7_in := goodIn_r _ [5] (by decide +kernel) (by decide +kernel)
set_option maxRecDepth 20000 in
theorem gX7_echo_X7_in : GoodIn wsX7_echo (va_wsS RX7 65 yX7_in wsX7_in) := goodIn_app (goodIn_of _ (by decide +kernel)) ggX7_echo_X7_in
theorem dX7_echo_0 : decode cX7_echo 0 = .ok (.iload_n 1, 1) := by decide +kernel
theorem dX7_echo_1 : decode cX7_echo 1 = .ok (.iconst 0, 1) := by decide +kernel
theorem dX7_echo_2 : decode cX7_echo 2 = .ok (.iconst 1, 1) := by decide +kernel
theorem dX7_echo_3 : decode cX7_echo 3 = .ok (.invokestatic 65, 3) := by decide +kernel
theorem dX7_echo_6 : decode cX7_echo 6 = .ok (.ifCond .eq 40, 3) := by decide +kernel
theorem dX7_echo_9 : decode cX7_echo 9 = .ok (.iload 4, 2) := by decide +kernel
theorem dX7_echo_11 : decode cX7_echo 11 = .ok (.iconst 1, 1) := by decide +kernel
theorem dX7_echo_12 : decode cX7_echo 12 = .ok (.bipush 64, 2) := by decide +kernel
theorem dX7_echo_14 : decode cX7_echo 14 = .ok (.invokestatic 65, 3) := by decide +kernel
theorem dX7_echo_17 : decode cX7_echo 17 = .ok (.ifCond .eq 29, 3) := by decide +kernel
theorem dX7_echo_20 : decode cX7_echo 20 = .ok (.iload_n 2, 1) := by decide +kernel
theorem dX7_echo_21 : decode cX7_echo 21 = .ok (.iconst 0, 1) := by decide +kernel
theorem dX7_echo_22 : decode cX7_echo 22 = .ok (.bipush 64, 2) := by decide +kernel
theorem dX7_echo_24 : decode cX7_echo 24 = .ok (.iload 4, 2) := by decide +kernel
theorem dX7_echo_26 : decode cX7_echo 26 = .ok (.isub, 1) := by decide +kernel
theorem dX7_echo_27 : decode cX7_echo 27 = .ok (.invokestatic 65, 3) := by decide +kernel
theorem dX7_echo_30 : decode cX7_echo 30 = .ok (.ifCond .eq 16, 3) := by decide +kernel
theorem dX7_echo_33 : decode cX7_echo 33 = .ok (.iload_n 3, 1) := by decide +kernel
theorem dX7_echo_34 : decode cX7_echo 34 = .ok (.iconst 0, 1) := by decide +kernel
theorem dX7_echo_35 : decode cX7_echo 35 = .ok (.bipush 64, 2) := by decide +kernel
theorem dX7_echo_37 : decode cX7_echo 37 = .ok (.iload 4, 2) := by decide +kernel
theorem dX7_echo_39 : decode cX7_echo 39 = .ok (.isub, 1) := by decide +kernel
theorem dX7_echo_40 : decode cX7_echo 40 = .ok (.invokestatic 65, 3) := by decide +kernel
theorem dX7_echo_43 : decode cX7_echo 43 = .ok (.ifCond .ne 6, 3) := by decide +kernel
theorem dX7_echo_46 : decode cX7_echo 46 = .ok (.bipush (-2), 2) := by decide +kernel
theorem dX7_echo_48 : decode cX7_echo 48 = .ok (.ireturn, 1) := by decide +kernel
theorem dX7_echo_49 : decode cX7_echo 49 = .ok (.iconst 0, 1) := by decide +kernel
theorem dX7_echo_50 : decode cX7_echo 50 = .ok (.istore 5, 2) := by decide +kernel
theorem dX7_echo_52 : decode cX7_echo 52 = .ok (.iload 5, 2) := by decide +kernel
theorem dX7_echo_54 : decode cX7_echo 54 = .ok (.iload 4, 2) := by decide +kernel
theorem dX7_echo_56 : decode cX7_echo 56 = .ok (.if_icmp .ge 39, 3) := by decide +kernel
theorem dX7_echo_59 : decode cX7_echo 59 = .ok (.aload_n 0, 1) := by decide +kernel
theorem dX7_echo_60 : decode cX7_echo 60 = .ok (.getfield 38, 3) := by decide +kernel
theorem dX7_echo_63 : decode cX7_echo 63 = .ok (.bipush 64, 2) := by decide +kernel
theorem dX7_echo_65 : decode cX7_echo 65 = .ok (.iload_n 1, 1) := by decide +kernel
theorem dX7_echo_66 : decode cX7_echo 66 = .ok (.imul, 1) := by decide +kernel
theorem dX7_echo_67 : decode cX7_echo 67 = .ok (.iload_n 2, 1) := by decide +kernel
theorem dX7_echo_68 : decode cX7_echo 68 = .ok (.iadd, 1) := by decide +kernel
theorem dX7_echo_69 : decode cX7_echo 69 = .ok (.iload 5, 2) := by decide +kernel
theorem dX7_echo_71 : decode cX7_echo 71 = .ok (.iadd, 1) := by decide +kernel
theorem dX7_echo_72 : decode cX7_echo 72 = .ok (.aload_n 0, 1) := by decide +kernel
theorem dX7_echo_73 : decode cX7_echo 73 = .ok (.getfield 38, 3) := by decide +kernel
theorem dX7_echo_76 : decode cX7_echo 76 = .ok (.bipush 64, 2) := by decide +kernel
theorem dX7_echo_78 : decode cX7_echo 78 = .ok (.iconst 1, 1) := by decide +kernel
theorem dX7_echo_79 : decode cX7_echo 79 = .ok (.iload_n 1, 1) := by decide +kernel
theorem dX7_echo_80 : decode cX7_echo 80 = .ok (.isub, 1) := by decide +kernel
theorem dX7_echo_81 : decode cX7_echo 81 = .ok (.imul, 1) := by decide +kernel
theorem dX7_echo_82 : decode cX7_echo 82 = .ok (.iload_n 3, 1) := by decide +kernel
theorem dX7_echo_83 : decode cX7_echo 83 = .ok (.iadd, 1) := by decide +kernel
theorem dX7_echo_84 : decode cX7_echo 84 = .ok (.iload 5, 2) := by decide +kernel
theorem dX7_echo_86 : decode cX7_echo 86 = .ok (.iadd, 1) := by decide +kernel
theorem dX7_echo_87 : decode cX7_echo 87 = .ok (.iaload, 1) := by decide +kernel
theorem dX7_echo_88 : decode cX7_echo 88 = .ok (.iastore, 1) := by decide +kernel
theorem dX7_echo_89 : decode cX7_echo 89 = .ok (.iinc 5 1, 3) := by decide +kernel
theorem dX7_echo_92 : decode cX7_echo 92 = .ok (.goto (-40), 3) := by decide +kernel
theorem dX7_echo_95 : decode cX7_echo 95 = .ok (.iconst 1, 1) := by decide +kernel
theorem dX7_echo_96 : decode cX7_echo 96 = .ok (.ireturn, 1) := by decide +kernel
set_option maxRecDepth 20000 in
theorem ggX7_isBoth_X7_in : GoodIn wsX7_isBoth wsX7_in := goodIn_r _ [6] (by decide +kernel) (by decide +kernel)
set_option maxRecDepth 20000 in
theorem gX7_isBoth_X7_in : GoodIn wsX7_isBoth (va_wsS RX7 65 yX7_in wsX7_in) := goodIn_app (goodIn_of _ (by decide +kernel)) ggX7_isBoth_X7_in
theorem dX7_isBoth_0 : decode cX7_isBoth 0 = .ok (.iload_n 1, 1) := by decide +kernel
theorem dX7_isBoth_1 : decode cX7_isBoth 1 = .ok (.iload_n 2, 1) := by decide +kernel
theorem dX7_isBoth_2 : decode cX7_isBoth 2 = .ok (.iadd, 1) := by decide +kernel
theorem dX7_isBoth_3 : decode cX7_isBoth 3 = .ok (.iconst 0, 1) := by decide +kernel
theorem dX7_isBoth_4 : decode cX7_isBoth 4 = .ok (.bipush 63, 2) := by decide +kernel
theorem dX7_isBoth_6 : decode cX7_isBoth 6 = .ok (.invokestatic 65, 3) := by decide +kernel
theorem dX7_isBoth_9 : decode cX7_isBoth 9 = .ok (.ifCond .eq 34, 3) := by decide +kernel
theorem dX7_isBoth_12 : decode cX7_isBoth 12 = .ok (.aload_n 0, 1) := by decide +kernel
theorem dX7_isBoth_13 : decode cX7_isBoth 13 = .ok (.getfield 38, 3) := by decide +kernel
theorem dX7_isBoth_16 : decode cX7_isBoth 16 = .ok (.iload_n 1, 1) := by decide +kernel
theorem dX7_isBoth_17 : decode cX7_isBoth 17 = .ok (.iaload, 1) := by decide +kernel
theorem dX7_isBoth_18 : decode cX7_isBoth 18 = .ok (.ldc 92, 2) := by decide +kernel
theorem dX7_isBoth_20 : decode cX7_isBoth 20 = .ok (.if_icmp .eq 23, 3) := by decide +kernel
theorem dX7_isBoth_23 : decode cX7_isBoth 23 = .ok (.aload_n 0, 1) := by decide +kernel
theorem dX7_isBoth_24 : decode cX7_isBoth 24 = .ok (.getfield 38, 3) := by decide +kernel
theorem dX7_isBoth_27 : decode cX7_isBoth 27 = .ok (.bipush 64, 2) := by decide +kernel
theorem dX7_isBoth_29 : decode cX7_isBoth 29 = .ok (.iload_n 1, 1) := by decide +kernel
theorem dX7_isBoth_30 : decode cX7_isBoth 30 = .ok (.iadd, 1) := by decide +kernel
theorem dX7_isBoth_31 : decode cX7_isBoth 31 = .ok (.iload_n 2, 1) := by decide +kernel
theorem dX7_isBoth_32 : decode cX7_isBoth 32 = .ok (.iadd, 1) := by decide +kernel
theorem dX7_isBoth_33 : decode cX7_isBoth 33 = .ok (.iaload, 1) := by decide +kernel
theorem dX7_isBoth_34 : decode cX7_isBoth 34 = .ok (.ldc 92, 2) := by decide +kernel
theorem dX7_isBoth_36 : decode cX7_isBoth 36 = .ok (.if_icmp .eq 7, 3) := by decide +kernel
theorem dX7_isBoth_39 : decode cX7_isBoth 39 = .ok (.iconst 1, 1) := by decide +kernel
theorem dX7_isBoth_40 : decode cX7_isBoth 40 = .ok (.goto 4, 3) := by decide +kernel
theorem dX7_isBoth_43 : decode cX7_isBoth 43 = .ok (.iconst 0, 1) := by decide +kernel
theorem dX7_isBoth_44 : decode cX7_isBoth 44 = .ok (.ireturn, 1) := by decide +kernel
set_option maxRecDepth 20000 in
theorem ggX7_sumOf_X7_isBoth : GoodIn wsX7_sumOf wsX7_isBoth := goodIn_r _ [6, 1, 7, 8, 9, 5, 10, 11, 12, 13, 14, 15, 16, 17, 18, 19, 20, 21, 22, 23, 24, 25, 26, 27, 28, 29, 30, 31, 32, 33] (by decide +kernel) (by decide +kernel)
set_option maxRecDepth 20000 in
theorem gX7_sumOf_X7_isBoth : GoodIn wsX7_sumOf (wsV RX7 113 RX7 yX7_isBoth wsX7_isBoth) := goodIn_app (goodIn_of _ (by decide +kernel)) ggX7_sumOf_X7_isBoth
theorem dX7_sumOf_0 : decode cX7_sumOf 0 = .ok (.iconst 0, 1) := by decide +kernel
theorem dX7_sumOf_1 : decode cX7_sumOf 1 = .ok (.istore_n 2, 1) := by decide +kernel
theorem dX7_sumOf_2 : decode cX7_sumOf 2 = .ok (.iconst 0, 1) := by decide +kernel
theorem dX7_sumOf_3 : decode cX7_sumOf 3 = .ok (.istore_n 3, 1) := by decide +kernel
theorem dX7_sumOf_4 : decode cX7_sumOf 4 = .ok (.iload_n 3, 1) := by decide +kernel
theorem dX7_sumOf_5 : decode cX7_sumOf 5 = .ok (.bipush 64, 2) := by decide +kernel
theorem dX7_sumOf_7 : decode cX7_sumOf 7 = .ok (.if_icmp .ge 43, 3) := by decide +kernel
theorem dX7_sumOf_10 : decode cX7_sumOf 10 = .ok (.iload_n 2, 1) := by decide +kernel
theorem dX7_sumOf_11 : decode cX7_sumOf 11 = .ok (.aload_n 0, 1) := by decide +kernel
theorem dX7_sumOf_12 : decode cX7_sumOf 12 = .ok (.iload_n 3, 1) := by decide +kernel
theorem dX7_sumOf_13 : decode cX7_sumOf 13 = .ok (.iload_n 1, 1) := by decide +kernel
theorem dX7_sumOf_14 : decode cX7_sumOf 14 = .ok (.invokevirtual 113, 3) := by decide +kernel
theorem dX7_sumOf_17 : decode cX7_sumOf 17 = .ok (.ifCond .eq 24, 3) := by decide +kernel
theorem dX7_sumOf_20 : decode cX7_sumOf 20 = .ok (.aload_n 0, 1) := by decide +kernel
theorem dX7_sumOf_21 : decode cX7_sumOf 21 = .ok (.getfield 38, 3) := by decide +kernel
theorem dX7_sumOf_24 : decode cX7_sumOf 24 = .ok (.iload_n 3, 1) := by decide +kernel
theorem dX7_sumOf_25 : decode cX7_sumOf 25 = .ok (.iaload, 1) := by decide +kernel
theorem dX7_sumOf_26 : decode cX7_sumOf 26 = .ok (.aload_n 0, 1) := by decide +kernel
theorem dX7_sumOf_27 : decode cX7_sumOf 27 = .ok (.getfield 38, 3) := by decide +kernel
theorem dX7_sumOf_30 : decode cX7_sumOf 30 = .ok (.bipush 64, 2) := by decide +kernel
theorem dX7_sumOf_32 : decode cX7_sumOf 32 = .ok (.iload_n 3, 1) := by decide +kernel
theorem dX7_sumOf_33 : decode cX7_sumOf 33 = .ok (.iadd, 1) := by decide +kernel
theorem dX7_sumOf_34 : decode cX7_sumOf 34 = .ok (.iload_n 1, 1) := by decide +kernel
theorem dX7_sumOf_35 : decode cX7_sumOf 35 = .ok (.iadd, 1) := by decide +kernel
theorem dX7_sumOf_36 : decode cX7_sumOf 36 = .ok (.iaload, 1) := by decide +kernel
theorem dX7_sumOf_37 : decode cX7_sumOf 37 = .ok (.imul, 1) := by decide +kernel
theorem dX7_sumOf_38 : decode cX7_sumOf 38 = .ok (.goto 4, 3) := by decide +kernel
theorem dX7_sumOf_41 : decode cX7_sumOf 41 = .ok (.iconst 0, 1) := by decide +kernel
theorem dX7_sumOf_42 : decode cX7_sumOf 42 = .ok (.iadd, 1) := by decide +kernel
theorem dX7_sumOf_43 : decode cX7_sumOf 43 = .ok (.istore_n 2, 1) := by decide +kernel
theorem dX7_sumOf_44 : decode cX7_sumOf 44 = .ok (.iinc 3 1, 3) := by decide +kernel
theorem dX7_sumOf_47 : decode cX7_sumOf 47 = .ok (.goto (-43), 3) := by decide +kernel
theorem dX7_sumOf_50 : decode cX7_sumOf 50 = .ok (.iload_n 2, 1) := by decide +kernel
theorem dX7_sumOf_51 : decode cX7_sumOf 51 = .ok (.ireturn, 1) := by decide +kernel
set_option maxRecDepth 20000 in
theorem ggX7_countOf_X7_isBoth : GoodIn wsX7_countOf wsX7_isBoth := goodIn_r _ [5, 6, 7, 8, 9, 4, 10, 11, 12, 13, 14, 15, 16, 17, 18, 19, 20, 21, 22, 23, 24, 25, 26, 27, 28, 29, 30, 31, 32, 33] (by decide +kernel) (by decide +kernel)
set_option maxRecDepth 20000 in
theorem gX7_countOf_X7_isBoth : GoodIn wsX7_countOf (wsV RX7 113 RX7 yX7_isBoth wsX7_isBoth) := goodIn_app (goodIn_of _ (by decide +kernel)) ggX7_countOf_X7_isBoth
theorem dX7_countOf_0 : decode cX7_countOf 0 = .ok (.iconst 0, 1) := by decide +kernel
theorem dX7_countOf_1 : decode cX7_countOf 1 = .ok (.istore_n 2, 1) := by decide +kernel
theorem dX7_countOf_2 : decode cX7_countOf 2 = .ok (.iconst 0, 1) := by decide +kernel
theorem dX7_countOf_3 : decode cX7_countOf 3 = .ok (.istore_n 3, 1) := by decide +kernel
theorem dX7_countOf_4 : decode cX7_countOf 4 = .ok (.iload_n 3, 1) := by decide +kernel
theorem dX7_countOf_5 : decode cX7_countOf 5 = .ok (.bipush 64, 2) := by decide +kernel
theorem dX7_countOf_7 : decode cX7_countOf 7 = .ok (.if_icmp .ge 26, 3) := by decide +kernel
theorem dX7_countOf_10 : decode cX7_countOf 10 = .ok (.iload_n 2, 1) := by decide +kernel
theorem dX7_countOf_11 : decode cX7_countOf 11 = .ok (.aload_n 0, 1) := by decide +kernel
theorem dX7_countOf_12 : decode cX7_countOf 12 = .ok (.iload_n 3, 1) := by decide +kernel
theorem dX7_countOf_13 : decode cX7_countOf 13 = .ok (.iload_n 1, 1) := by decide +kernel
theorem dX7_countOf_14 : decode cX7_countOf 14 = .ok (.invokevirtual 113, 3) := by decide +kernel
theorem dX7_countOf_17 : decode cX7_countOf 17 = .ok (.ifCond .eq 7, 3) := by decide +kernel
theorem dX7_countOf_20 : decode cX7_countOf 20 = .ok (.iconst 1, 1) := by decide +kernel
theorem dX7_countOf_21 : decode cX7_countOf 21 = .ok (.goto 4, 3) := by decide +kernel
theorem dX7_countOf_24 : decode cX7_countOf 24 = .ok (.iconst 0, 1) := by decide +kernel
theorem dX7_countOf_25 : decode cX7_countOf 25 = .ok (.iadd, 1) := by decide +kernel
theorem dX7_countOf_26 : decode cX7_countOf 26 = .ok (.istore_n 2, 1) := by decide +kernel
theorem dX7_countOf_27 : decode cX7_countOf 27 = .ok (.iinc 3 1, 3) := by decide +kernel
theorem dX7_countOf_30 : decode cX7_countOf 30 = .ok (.goto (-26), 3) := by decide +kernel
theorem dX7_countOf_33 : decode cX7_countOf 33 = .ok (.iload_n 2, 1) := by decide +kernel
theorem dX7_countOf_34 : decode cX7_countOf 34 = .ok (.ireturn, 1) := by decide +kernel
set_option maxRecDepth 20000 in
theorem ggX7_sum_X7_in : GoodIn wsX7_sum wsX7_in := goodIn_r _ [5] (by decide +kernel) (by decide +kernel)
set_option maxRecDepth 20000 in
theorem gX7_sum_X7_in : GoodIn wsX7_sum (va_wsS RX7 65 yX7_in wsX7_in) := goodIn_app (goodIn_of _ (by decide +kernel)) ggX7_sum_X7_in
set_option maxRecDepth 20000 in
theorem ggX7_sum_X7_sumOf : GoodIn wsX7_sum wsX7_sumOf := goodIn_r _ [9, 10, 11, 12, 13, 4, 14, 1, 2, 3, 5, 19, 20, 21, 22, 23, 24, 25, 26, 27, 28, 29, 30, 31, 32, 33, 34, 35, 36, 37, 38, 39, 40, 41] (by decide +kernel) (by decide +kernel)
set_option maxRecDepth 20000 in
theorem gX7_sum_X7_sumOf : GoodIn wsX7_sum (wsV RX7 117 RX7 yX7_sumOf wsX7_sumOf) := goodIn_app (goodIn_of _ (by decide +kernel)) ggX7_sum_X7_sumOf
set_option maxRecDepth 20000 in
theorem ggX7_sum_X7_countOf : GoodIn wsX7_sum wsX7_countOf := goodIn_r _ [18, 11, 12, 13, 4, 14, 10, 1, 2, 3, 5, 19, 20, 21, 22, 23, 24, 25, 26, 27, 28, 29, 30, 31, 32, 33, 34, 35, 36, 37, 38, 39, 40, 41] (by decide +kernel) (by decide +kernel)
set_option maxRecDepth 20000 in
theorem gX7_sum_X7_countOf : GoodIn wsX7_sum (wsV RX7 120 RX7 yX7_countOf wsX7_countOf) := goodIn_app (goodIn_of _ (by decide +kernel)) ggX7_sum_X7_countOf
theorem dX7_sum_0 : decode cX7_sum 0 = .ok (.iload_n 1, 1) := by decide +kernel
theorem dX7_sum_1 : decode cX7_sum 1 = .ok (.bipush (-16), 2) := by decide +kernel
theorem dX7_sum_3 : decode cX7_sum 3 = .ok (.bipush 16, 2) := by decide +kernel
theorem dX7_sum_5 : decode cX7_sum 5 = .ok (.invokestatic 65, 3) := by decide +kernel
theorem dX7_sum_8 : decode cX7_sum 8 = .ok (.ifCond .eq 12, 3) := by decide +kernel
theorem dX7_sum_11 : decode cX7_sum 11 = .ok (.iload_n 2, 1) := by decide +kernel
theorem dX7_sum_12 : decode cX7_sum 12 = .ok (.iconst 0, 1) := by decide +kernel
theorem dX7_sum_13 : decode cX7_sum 13 = .ok (.iconst 1, 1) := by decide +kernel
theorem dX7_sum_14 : decode cX7_sum 14 = .ok (.invokestatic 65, 3) := by decide +kernel
theorem dX7_sum_17 : decode cX7_sum 17 = .ok (.ifCond .ne 8, 3) := by decide +kernel
theorem dX7_sum_20 : decode cX7_sum 20 = .ok (.ldc 92, 2) := by decide +kernel
theorem dX7_sum_22 : decode cX7_sum 22 = .ok (.goto 20, 3) := by decide +kernel
theorem dX7_sum_25 : decode cX7_sum 25 = .ok (.iload_n 2, 1) := by decide +kernel
theorem dX7_sum_26 : decode cX7_sum 26 = .ok (.ifCond .ne 11, 3) := by decide +kernel
theorem dX7_sum_29 : decode cX7_sum 29 = .ok (.aload_n 0, 1) := by decide +kernel
theorem dX7_sum_30 : decode cX7_sum 30 = .ok (.iload_n 1, 1) := by decide +kernel
theorem dX7_sum_31 : decode cX7_sum 31 = .ok (.invokevirtual 117, 3) := by decide +kernel
theorem dX7_sum_34 : decode cX7_sum 34 = .ok (.goto 8, 3) := by decide +kernel
theorem dX7_sum_37 : decode cX7_sum 37 = .ok (.aload_n 0, 1) := by decide +kernel
theorem dX7_sum_38 : decode cX7_sum 38 = .ok (.iload_n 1, 1) := by decide +kernel
theorem dX7_sum_39 : decode cX7_sum 39 = .ok (.invokevirtual 120, 3) := by decide +kernel
theorem dX7_sum_42 : decode cX7_sum 42 = .ok (.ireturn, 1) := by decide +kernel
set_option maxRecDepth 20000 in
theorem ggX7_delayBut_X7_in : GoodIn wsX7_delayBut wsX7_in := goodIn_r _ [4] (by decide +kernel) (by decide +kernel)
set_option maxRecDepth 20000 in
theorem gX7_delayBut_X7_in : GoodIn wsX7_delayBut (va_wsS RX7 65 yX7_in wsX7_in) := goodIn_app (goodIn_of _ (by decide +kernel)) ggX7_delayBut_X7_in
set_option maxRecDepth 20000 in
theorem ggX7_delayBut_X7_countOf : GoodIn wsX7_delayBut wsX7_countOf := goodIn_r _ [8, 9, 10, 11, 3, 12, 13, 14, 1, 2, 4, 19, 20, 21, 22, 23, 24, 25, 26, 27, 28, 29, 30, 31, 32, 33, 34, 35, 36, 37, 38, 39, 40, 41] (by decide +kernel) (by decide +kernel)
set_option maxRecDepth 20000 in
theorem gX7_delayBut_X7_countOf : GoodIn wsX7_delayBut (wsV RX7 120 RX7 yX7_countOf wsX7_countOf) := goodIn_app (goodIn_of _ (by decide +kernel)) ggX7_delayBut_X7_countOf
set_option maxRecDepth 20000 in
theorem ggX7_delayBut_X7_sumOf : GoodIn wsX7_delayBut wsX7_sumOf := goodIn_r _ [18, 13, 9, 10, 11, 3, 12, 14, 1, 2, 4, 19, 20, 21, 22, 23, 24, 25, 26, 27, 28, 29, 30, 31, 32, 33, 34, 35, 36, 37, 38, 39, 40, 41] (by decide +kernel) (by decide +kernel)
set_option maxRecDepth 20000 in
theorem gX7_delayBut_X7_sumOf : GoodIn wsX7_delayBut (wsV RX7 117 RX7 yX7_sumOf wsX7_sumOf) := goodIn_app (goodIn_of _ (by decide +kernel)) ggX7_delayBut_X7_sumOf
theorem dX7_delayBut_0 : decode cX7_delayBut 0 = .ok (.bipush (-101), 2) := by decide +kernel
theorem dX7_delayBut_2 : decode cX7_delayBut 2 = .ok (.istore_n 2, 1) := by decide +kernel
theorem dX7_delayBut_3 : decode cX7_delayBut 3 = .ok (.lconst 0, 1) := by decide +kernel
theorem dX7_delayBut_4 : decode cX7_delayBut 4 = .ok (.lstore_n 3, 1) := by decide +kernel
theorem dX7_delayBut_5 : decode cX7_delayBut 5 = .ok (.lconst 1, 1) := by decide +kernel
theorem dX7_delayBut_6 : decode cX7_delayBut 6 = .ok (.lstore 5, 2) := by decide +kernel
theorem dX7_delayBut_8 : decode cX7_delayBut 8 = .ok (.iconst 0, 1) := by decide +kernel
theorem dX7_delayBut_9 : decode cX7_delayBut 9 = .ok (.istore 7, 2) := by decide +kernel
theorem dX7_delayBut_11 : decode cX7_delayBut 11 = .ok (.iload 7, 2) := by decide +kernel
theorem dX7_delayBut_13 : decode cX7_delayBut 13 = .ok (.bipush 16, 2) := by decide +kernel
theorem dX7_delayBut_15 : decode cX7_delayBut 15 = .ok (.if_icmp .gt 103, 3) := by decide +kernel
theorem dX7_delayBut_18 : decode cX7_delayBut 18 = .ok (.iconst (-1), 1) := by decide +kernel
theorem dX7_delayBut_19 : decode cX7_delayBut 19 = .ok (.istore 8, 2) := by decide +kernel
theorem dX7_delayBut_21 : decode cX7_delayBut 21 = .ok (.iload 8, 2) := by decide +kernel
theorem dX7_delayBut_23 : decode cX7_delayBut 23 = .ok (.iconst 2, 1) := by decide +kernel
theorem dX7_delayBut_24 : decode cX7_delayBut 24 = .ok (.if_icmp .ge 88, 3) := by decide +kernel
theorem dX7_delayBut_27 : decode cX7_delayBut 27 = .ok (.iload 7, 2) := by decide +kernel
theorem dX7_delayBut_29 : decode cX7_delayBut 29 = .ok (.iload 8, 2) := by decide +kernel
theorem dX7_delayBut_31 : decode cX7_delayBut 31 = .ok (.imul, 1) := by decide +kernel
theorem dX7_delayBut_32 : decode cX7_delayBut 32 = .ok (.istore 9, 2) := by decide +kernel
theorem dX7_delayBut_34 : decode cX7_delayBut 34 = .ok (.iload 9, 2) := by decide +kernel
theorem dX7_delayBut_36 : decode cX7_delayBut 36 = .ok (.iload_n 1, 1) := by decide +kernel
theorem dX7_delayBut_37 : decode cX7_delayBut 37 = .ok (.isub, 1) := by decide +kernel
theorem dX7_delayBut_38 : decode cX7_delayBut 38 = .ok (.istore 10, 2) := by decide +kernel
theorem dX7_delayBut_40 : decode cX7_delayBut 40 = .ok (.iload 10, 2) := by decide +kernel
theorem dX7_delayBut_42 : decode cX7_delayBut 42 = .ok (.iconst (-1), 1) := by decide +kernel
theorem dX7_delayBut_43 : decode cX7_delayBut 43 = .ok (.iconst 1, 1) := by decide +kernel
theorem dX7_delayBut_44 : decode cX7_delayBut 44 = .ok (.invokestatic 65, 3) := by decide +kernel
theorem dX7_delayBut_47 : decode cX7_delayBut 47 = .ok (.ifCond .ne 59, 3) := by decide +kernel
theorem dX7_delayBut_50 : decode cX7_delayBut 50 = .ok (.aload_n 0, 1) := by decide +kernel
theorem dX7_delayBut_51 : decode cX7_delayBut 51 = .ok (.iload 9, 2) := by decide +kernel
theorem dX7_delayBut_53 : decode cX7_delayBut 53 = .ok (.invokevirtual 120, 3) := by decide +kernel
theorem dX7_delayBut_56 : decode cX7_delayBut 56 = .ok (.ifCond .le 50, 3) := by decide +kernel
theorem dX7_delayBut_59 : decode cX7_delayBut 59 = .ok (.aload_n 0, 1) := by decide +kernel
theorem dX7_delayBut_60 : decode cX7_delayBut 60 = .ok (.iload 9, 2) := by decide +kernel
theorem dX7_delayBut_62 : decode cX7_delayBut 62 = .ok (.invokevirtual 117, 3) := by decide +kernel
theorem dX7_delayBut_65 : decode cX7_delayBut 65 = .ok (.i2l, 1) := by decide +kernel
theorem dX7_delayBut_66 : decode cX7_delayBut 66 = .ok (.lstore 11, 2) := by decide +kernel
theorem dX7_delayBut_68 : decode cX7_delayBut 68 = .ok (.aload_n 0, 1) := by decide +kernel
theorem dX7_delayBut_69 : decode cX7_delayBut 69 = .ok (.iload 9, 2) := by decide +kernel
theorem dX7_delayBut_71 : decode cX7_delayBut 71 = .ok (.invokevirtual 120, 3) := by decide +kernel
theorem dX7_delayBut_74 : decode cX7_delayBut 74 = .ok (.i2l, 1) := by decide +kernel
theorem dX7_delayBut_75 : decode cX7_delayBut 75 = .ok (.lstore 13, 2) := by decide +kernel
theorem dX7_delayBut_77 : decode cX7_delayBut 77 = .ok (.iload_n 2, 1) := by decide +kernel
theorem dX7_delayBut_78 : decode cX7_delayBut 78 = .ok (.bipush (-101), 2) := by decide +kernel
theorem dX7_delayBut_80 : decode cX7_delayBut 80 = .ok (.if_icmp .eq 16, 3) := by decide +kernel
theorem dX7_delayBut_83 : decode cX7_delayBut 83 = .ok (.lload 11, 2) := by decide +kernel
theorem dX7_delayBut_85 : decode cX7_delayBut 85 = .ok (.lload 5, 2) := by decide +kernel
theorem dX7_delayBut_87 : decode cX7_delayBut 87 = .ok (.lmul, 1) := by decide +kernel
theorem dX7_delayBut_88 : decode cX7_delayBut 88 = .ok (.lload_n 3, 1) := by decide +kernel
theorem dX7_delayBut_89 : decode cX7_delayBut 89 = .ok (.lload 13, 2) := by decide +kernel
theorem dX7_delayBut_91 : decode cX7_delayBut 91 = .ok (.lmul, 1) := by decide +kernel
theorem dX7_delayBut_92 : decode cX7_delayBut 92 = .ok (.lcmp, 1) := by decide +kernel
theorem dX7_delayBut_93 : decode cX7_delayBut 93 = .ok (.ifCond .le 13, 3) := by decide +kernel
theorem dX7_delayBut_96 : decode cX7_delayBut 96 = .ok (.iload 9, 2) := by decide +kernel
theorem dX7_delayBut_98 : decode cX7_delayBut 98 = .ok (.istore_n 2, 1) := by decide +kernel
theorem dX7_delayBut_99 : decode cX7_delayBut 99 = .ok (.lload 11, 2) := by decide +kernel
theorem dX7_delayBut_101 : decode cX7_delayBut 101 = .ok (.lstore_n 3, 1) := by decide +kernel
theorem dX7_delayBut_102 : decode cX7_delayBut 102 = .ok (.lload 13, 2) := by decide +kernel
theorem dX7_delayBut_104 : decode cX7_delayBut 104 = .ok (.lstore 5, 2) := by decide +kernel
theorem dX7_delayBut_106 : decode cX7_delayBut 106 = .ok (.iinc 8 2, 3) := by decide +kernel
theorem dX7_delayBut_109 : decode cX7_delayBut 109 = .ok (.goto (-88), 3) := by decide +kernel
theorem dX7_delayBut_112 : decode cX7_delayBut 112 = .ok (.iinc 7 1, 3) := by decide +kernel
theorem dX7_delayBut_115 : decode cX7_delayBut 115 = .ok (.goto (-104), 3) := by decide +kernel
theorem dX7_delayBut_118 : decode cX7_delayBut 118 = .ok (.iload_n 2, 1) := by decide +kernel
theorem dX7_delayBut_119 : decode cX7_delayBut 119 = .ok (.ireturn, 1) := by decide +kernel
set_option maxRecDepth 20000 in
theorem ggX7_delay_X7_delayBut : GoodIn wsX7_delay wsX7_delayBut := goodIn_r _ [5, 6, 7, 4, 8, 9, 10, 11, 12, 13, 14, 15, 16, 17, 18, 19, 20, 21, 22, 23, 24, 25, 26, 27, 28, 29, 30, 31, 32, 33, 34, 35, 36, 37, 38, 39, 40, 41, 42, 43, 44, 45] (by decide +kernel) (by decide +kernel)
set_option maxRecDepth 20000 in
theorem gX7_delay_X7_delayBut : GoodIn wsX7_delay (wsV RX7 123 RX7 yX7_delayBut wsX7_delayBut) := goodIn_app (goodIn_of _ (by decide +kernel)) ggX7_delay_X7_delayBut
theorem dX7_delay_0 : decode cX7_delay 0 = .ok (.aload_n 0, 1) := by decide +kernel
theorem dX7_delay_1 : decode cX7_delay 1 = .ok (.sipush 1000, 3) := by decide +kernel
theorem dX7_delay_4 : decode cX7_delay 4 = .ok (.invokevirtual 123, 3) := by decide +kernel
theorem dX7_delay_7 : decode cX7_delay 7 = .ok (.istore_n 2, 1) := by decide +kernel
theorem dX7_delay_8 : decode cX7_delay 8 = .ok (.iload_n 1, 1) := by decide +kernel
theorem dX7_delay_9 : decode cX7_delay 9 = .ok (.ifCond .eq 9, 3) := by decide +kernel
theorem dX7_delay_12 : decode cX7_delay 12 = .ok (.iload_n 2, 1) := by decide +kernel
theorem dX7_delay_13 : decode cX7_delay 13 = .ok (.bipush (-101), 2) := by decide +kernel
theorem dX7_delay_15 : decode cX7_delay 15 = .ok (.if_icmp .ne 7, 3) := by decide +kernel
theorem dX7_delay_18 : decode cX7_delay 18 = .ok (.iload_n 2, 1) := by decide +kernel
theorem dX7_delay_19 : decode cX7_delay 19 = .ok (.goto 8, 3) := by decide +kernel
theorem dX7_delay_22 : decode cX7_delay 22 = .ok (.aload_n 0, 1) := by decide +kernel
theorem dX7_delay_23 : decode cX7_delay 23 = .ok (.iload_n 2, 1) := by decide +kernel
theorem dX7_delay_24 : decode cX7_delay 24 = .ok (.invokevirtual 123, 3) := by decide +kernel
theorem dX7_delay_27 : decode cX7_delay 27 = .ok (.ireturn, 1) := by decide +kernel
set_option maxRecDepth 20000 in
theorem ggX7_place_X7_in : GoodIn wsX7_place wsX7_in := goodIn_r _ [5] (by decide +kernel) (by decide +kernel)
set_option maxRecDepth 20000 in
theorem gX7_place_X7_in : GoodIn wsX7_place (va_wsS RX7 65 yX7_in wsX7_in) := goodIn_app (goodIn_of _ (by decide +kernel)) ggX7_place_X7_in
set_option maxRecDepth 20000 in
theorem ggX7_place_X7_delayBut : GoodIn wsX7_place wsX7_delayBut := goodIn_r _ [9, 2, 3, 4, 5, 10, 11, 12, 13, 14, 15, 16, 17, 18, 19, 20, 21, 22, 23, 24, 25, 26, 27, 28, 29, 30, 31, 32, 33, 34, 35, 36, 37, 38, 39, 40, 41, 42, 43, 44, 45, 46] (by decide +kernel) (by decide +kernel)
set_option maxRecDepth 20000 in
theorem gX7_place_X7_delayBut : GoodIn wsX7_place (wsV RX7 123 RX7 yX7_delayBut wsX7_delayBut) := goodIn_app (goodIn_of _ (by decide +kernel)) ggX7_place_X7_delayBut
theorem dX7_place_0 : decode cX7_place 0 = .ok (.iload_n 1, 1) := by decide +kernel
theorem dX7_place_1 : decode cX7_place 1 = .ok (.iconst 1, 1) := by decide +kernel
theorem dX7_place_2 : decode cX7_place 2 = .ok (.ldc 126, 2) := by decide +kernel
theorem dX7_place_4 : decode cX7_place 4 = .ok (.invokestatic 65, 3) := by decide +kernel
theorem dX7_place_7 : decode cX7_place 7 = .ok (.ifCond .eq 35, 3) := by decide +kernel
theorem dX7_place_10 : decode cX7_place 10 = .ok (.iload_n 2, 1) := by decide +kernel
theorem dX7_place_11 : decode cX7_place 11 = .ok (.iconst 1, 1) := by decide +kernel
theorem dX7_place_12 : decode cX7_place 12 = .ok (.sipush 2000, 3) := by decide +kernel
theorem dX7_place_15 : decode cX7_place 15 = .ok (.invokestatic 65, 3) := by decide +kernel
theorem dX7_place_18 : decode cX7_place 18 = .ok (.ifCond .eq 24, 3) := by decide +kernel
theorem dX7_place_21 : decode cX7_place 21 = .ok (.iload_n 3, 1) := by decide +kernel
theorem dX7_place_22 : decode cX7_place 22 = .ok (.iload_n 2, 1) := by decide +kernel
theorem dX7_place_23 : decode cX7_place 23 = .ok (.sipush 2000, 3) := by decide +kernel
theorem dX7_place_26 : decode cX7_place 26 = .ok (.invokestatic 65, 3) := by decide +kernel
theorem dX7_place_29 : decode cX7_place 29 = .ok (.ifCond .eq 13, 3) := by decide +kernel
theorem dX7_place_32 : decode cX7_place 32 = .ok (.iload 4, 2) := by decide +kernel
theorem dX7_place_34 : decode cX7_place 34 = .ok (.iconst 0, 1) := by decide +kernel
theorem dX7_place_35 : decode cX7_place 35 = .ok (.iconst 1, 1) := by decide +kernel
theorem dX7_place_36 : decode cX7_place 36 = .ok (.invokestatic 65, 3) := by decide +kernel
theorem dX7_place_39 : decode cX7_place 39 = .ok (.ifCond .ne 6, 3) := by decide +kernel
theorem dX7_place_42 : decode cX7_place 42 = .ok (.bipush (-2), 2) := by decide +kernel
theorem dX7_place_44 : decode cX7_place 44 = .ok (.ireturn, 1) := by decide +kernel
theorem dX7_place_45 : decode cX7_place 45 = .ok (.aload_n 0, 1) := by decide +kernel
theorem dX7_place_46 : decode cX7_place 46 = .ok (.sipush 1000, 3) := by decide +kernel
theorem dX7_place_49 : decode cX7_place 49 = .ok (.invokevirtual 123, 3) := by decide +kernel
theorem dX7_place_52 : decode cX7_place 52 = .ok (.istore 5, 2) := by decide +kernel
theorem dX7_place_54 : decode cX7_place 54 = .ok (.iload 5, 2) := by decide +kernel
theorem dX7_place_56 : decode cX7_place 56 = .ok (.bipush (-101), 2) := by decide +kernel
theorem dX7_place_58 : decode cX7_place 58 = .ok (.if_icmp .ne 6, 3) := by decide +kernel
theorem dX7_place_61 : decode cX7_place 61 = .ok (.bipush (-3), 2) := by decide +kernel
theorem dX7_place_63 : decode cX7_place 63 = .ok (.ireturn, 1) := by decide +kernel
theorem dX7_place_64 : decode cX7_place 64 = .ok (.iload_n 1, 1) := by decide +kernel
theorem dX7_place_65 : decode cX7_place 65 = .ok (.iload 5, 2) := by decide +kernel
theorem dX7_place_67 : decode cX7_place 67 = .ok (.iload_n 2, 1) := by decide +kernel
theorem dX7_place_68 : decode cX7_place 68 = .ok (.imul, 1) := by decide +kernel
theorem dX7_place_69 : decode cX7_place 69 = .ok (.isub, 1) := by decide +kernel
theorem dX7_place_70 : decode cX7_place 70 = .ok (.istore 6, 2) := by decide +kernel
theorem dX7_place_72 : decode cX7_place 72 = .ok (.iload_n 1, 1) := by decide +kernel
theorem dX7_place_73 : decode cX7_place 73 = .ok (.iload 5, 2) := by decide +kernel
theorem dX7_place_75 : decode cX7_place 75 = .ok (.iload_n 3, 1) := by decide +kernel
theorem dX7_place_76 : decode cX7_place 76 = .ok (.imul, 1) := by decide +kernel
theorem dX7_place_77 : decode cX7_place 77 = .ok (.isub, 1) := by decide +kernel
theorem dX7_place_78 : decode cX7_place 78 = .ok (.istore 7, 2) := by decide +kernel
theorem dX7_place_80 : decode cX7_place 80 = .ok (.iload 4, 2) := by decide +kernel
theorem dX7_place_82 : decode cX7_place 82 = .ok (.ifCond .ne 7, 3) := by decide +kernel
theorem dX7_place_85 : decode cX7_place 85 = .ok (.iconst 1, 1) := by decide +kernel
theorem dX7_place_86 : decode cX7_place 86 = .ok (.goto 4, 3) := by decide +kernel
theorem dX7_place_89 : decode cX7_place 89 = .ok (.iconst 0, 1) := by decide +kernel
theorem dX7_place_90 : decode cX7_place 90 = .ok (.iload 6, 2) := by decide +kernel
theorem dX7_place_92 : decode cX7_place 92 = .ok (.iload 7, 2) := by decide +kernel
theorem dX7_place_94 : decode cX7_place 94 = .ok (.if_icmp .ge 7, 3) := by decide +kernel
theorem dX7_place_97 : decode cX7_place 97 = .ok (.iconst 1, 1) := by decide +kernel
theorem dX7_place_98 : decode cX7_place 98 = .ok (.goto 4, 3) := by decide +kernel
theorem dX7_place_101 : decode cX7_place 101 = .ok (.iconst 0, 1) := by decide +kernel
theorem dX7_place_102 : decode cX7_place 102 = .ok (.if_icmp .ne 8, 3) := by decide +kernel
theorem dX7_place_105 : decode cX7_place 105 = .ok (.iload 6, 2) := by decide +kernel
theorem dX7_place_107 : decode cX7_place 107 = .ok (.goto 5, 3) := by decide +kernel
theorem dX7_place_110 : decode cX7_place 110 = .ok (.iload 7, 2) := by decide +kernel
theorem dX7_place_112 : decode cX7_place 112 = .ok (.istore 8, 2) := by decide +kernel
theorem dX7_place_114 : decode cX7_place 114 = .ok (.iload 8, 2) := by decide +kernel
theorem dX7_place_116 : decode cX7_place 116 = .ok (.ifCond .ge 7, 3) := by decide +kernel
theorem dX7_place_119 : decode cX7_place 119 = .ok (.iconst 0, 1) := by decide +kernel
theorem dX7_place_120 : decode cX7_place 120 = .ok (.goto 19, 3) := by decide +kernel
theorem dX7_place_123 : decode cX7_place 123 = .ok (.iload 8, 2) := by decide +kernel
theorem dX7_place_125 : decode cX7_place 125 = .ok (.iconst 2, 1) := by decide +kernel
theorem dX7_place_126 : decode cX7_place 126 = .ok (.iload_n 1, 1) := by decide +kernel
theorem dX7_place_127 : decode cX7_place 127 = .ok (.imul, 1) := by decide +kernel
theorem dX7_place_128 : decode cX7_place 128 = .ok (.if_icmp .le 9, 3) := by decide +kernel
theorem dX7_place_131 : decode cX7_place 131 = .ok (.iconst 2, 1) := by decide +kernel
theorem dX7_place_132 : decode cX7_place 132 = .ok (.iload_n 1, 1) := by decide +kernel
theorem dX7_place_133 : decode cX7_place 133 = .ok (.imul, 1) := by decide +kernel
theorem dX7_place_134 : decode cX7_place 134 = .ok (.goto 5, 3) := by decide +kernel
theorem dX7_place_137 : decode cX7_place 137 = .ok (.iload 8, 2) := by decide +kernel
theorem dX7_place_139 : decode cX7_place 139 = .ok (.ireturn, 1) := by decide +kernel
set_option maxRecDepth 20000 in
theorem ggX7_section_X7_in : GoodIn wsX7_section wsX7_in := goodIn_r _ [6] (by decide +kernel) (by decide +kernel)
set_option maxRecDepth 20000 in
theorem gX7_section_X7_in : GoodIn wsX7_section (va_wsS RX7 65 yX7_in wsX7_in) := goodIn_app (goodIn_of _ (by decide +kernel)) ggX7_section_X7_in
theorem dX7_section_0 : decode cX7_section 0 = .ok (.iload_n 1, 1) := by decide +kernel
theorem dX7_section_1 : decode cX7_section 1 = .ok (.iconst 1, 1) := by decide +kernel
theorem dX7_section_2 : decode cX7_section 2 = .ok (.bipush 12, 2) := by decide +kernel
theorem dX7_section_4 : decode cX7_section 4 = .ok (.invokestatic 65, 3) := by decide +kernel
theorem dX7_section_7 : decode cX7_section 7 = .ok (.ifCond .eq 25, 3) := by decide +kernel
theorem dX7_section_10 : decode cX7_section 10 = .ok (.iload_n 2, 1) := by decide +kernel
theorem dX7_section_11 : decode cX7_section 11 = .ok (.iconst 0, 1) := by decide +kernel
theorem dX7_section_12 : decode cX7_section 12 = .ok (.iload_n 1, 1) := by decide +kernel
theorem dX7_section_13 : decode cX7_section 13 = .ok (.iconst 1, 1) := by decide +kernel
theorem dX7_section_14 : decode cX7_section 14 = .ok (.isub, 1) := by decide +kernel
theorem dX7_section_15 : decode cX7_section 15 = .ok (.invokestatic 65, 3) := by decide +kernel
theorem dX7_section_18 : decode cX7_section 18 = .ok (.ifCond .eq 14, 3) := by decide +kernel
theorem dX7_section_21 : decode cX7_section 21 = .ok (.iload_n 3, 1) := by decide +kernel
theorem dX7_section_22 : decode cX7_section 22 = .ok (.iconst 0, 1) := by decide +kernel
theorem dX7_section_23 : decode cX7_section 23 = .ok (.sipush 1000, 3) := by decide +kernel
theorem dX7_section_26 : decode cX7_section 26 = .ok (.invokestatic 65, 3) := by decide +kernel
theorem dX7_section_29 : decode cX7_section 29 = .ok (.ifCond .ne 6, 3) := by decide +kernel
theorem dX7_section_32 : decode cX7_section 32 = .ok (.bipush (-2), 2) := by decide +kernel
theorem dX7_section_34 : decode cX7_section 34 = .ok (.ireturn, 1) := by decide +kernel
theorem dX7_section_35 : decode cX7_section 35 = .ok (.aload_n 0, 1) := by decide +kernel
theorem dX7_section_36 : decode cX7_section 36 = .ok (.iload_n 1, 1) := by decide +kernel
theorem dX7_section_37 : decode cX7_section 37 = .ok (.putfield 41, 3) := by decide +kernel
theorem dX7_section_40 : decode cX7_section 40 = .ok (.iload_n 1, 1) := by decide +kernel
theorem dX7_section_41 : decode cX7_section 41 = .ok (.istore 4, 2) := by decide +kernel
theorem dX7_section_43 : decode cX7_section 43 = .ok (.iload 4, 2) := by decide +kernel
theorem dX7_section_45 : decode cX7_section 45 = .ok (.bipush 12, 2) := by decide +kernel
theorem dX7_section_47 : decode cX7_section 47 = .ok (.if_icmp .ge 17, 3) := by decide +kernel
theorem dX7_section_50 : decode cX7_section 50 = .ok (.aload_n 0, 1) := by decide +kernel
theorem dX7_section_51 : decode cX7_section 51 = .ok (.getfield 44, 3) := by decide +kernel
theorem dX7_section_54 : decode cX7_section 54 = .ok (.iload 4, 2) := by decide +kernel
theorem dX7_section_56 : decode cX7_section 56 = .ok (.iconst 0, 1) := by decide +kernel
theorem dX7_section_57 : decode cX7_section 57 = .ok (.iastore, 1) := by decide +kernel
theorem dX7_section_58 : decode cX7_section 58 = .ok (.iinc 4 1, 3) := by decide +kernel
theorem dX7_section_61 : decode cX7_section 61 = .ok (.goto (-18), 3) := by decide +kernel
theorem dX7_section_64 : decode cX7_section 64 = .ok (.aload_n 0, 1) := by decide +kernel
theorem dX7_section_65 : decode cX7_section 65 = .ok (.getfield 44, 3) := by decide +kernel
theorem dX7_section_68 : decode cX7_section 68 = .ok (.iload_n 2, 1) := by decide +kernel
theorem dX7_section_69 : decode cX7_section 69 = .ok (.iaload, 1) := by decide +kernel
theorem dX7_section_70 : decode cX7_section 70 = .ok (.istore 4, 2) := by decide +kernel
theorem dX7_section_72 : decode cX7_section 72 = .ok (.aload_n 0, 1) := by decide +kernel
theorem dX7_section_73 : decode cX7_section 73 = .ok (.getfield 44, 3) := by decide +kernel
theorem dX7_section_76 : decode cX7_section 76 = .ok (.iload_n 2, 1) := by decide +kernel
theorem dX7_section_77 : decode cX7_section 77 = .ok (.iload_n 3, 1) := by decide +kernel
theorem dX7_section_78 : decode cX7_section 78 = .ok (.iastore, 1) := by decide +kernel
theorem dX7_section_79 : decode cX7_section 79 = .ok (.iload 4, 2) := by decide +kernel
theorem dX7_section_81 : decode cX7_section 81 = .ok (.ireturn, 1) := by decide +kernel
theorem dX7_plans_0 : decode cX7_plans 0 = .ok (.iconst 0, 1) := by decide +kernel
theorem dX7_plans_1 : decode cX7_plans 1 = .ok (.istore_n 1, 1) := by decide +kernel
theorem dX7_plans_2 : decode cX7_plans 2 = .ok (.iload_n 1, 1) := by decide +kernel
theorem dX7_plans_3 : decode cX7_plans 3 = .ok (.aload_n 0, 1) := by decide +kernel
theorem dX7_plans_4 : decode cX7_plans 4 = .ok (.getfield 41, 3) := by decide +kernel
theorem dX7_plans_7 : decode cX7_plans 7 = .ok (.if_icmp .ge 175, 3) := by decide +kernel
theorem dX7_plans_10 : decode cX7_plans 10 = .ok (.iconst 0, 1) := by decide +kernel
theorem dX7_plans_11 : decode cX7_plans 11 = .ok (.istore_n 2, 1) := by decide +kernel
theorem dX7_plans_12 : decode cX7_plans 12 = .ok (.iload_n 2, 1) := by decide +kernel
theorem dX7_plans_13 : decode cX7_plans 13 = .ok (.iload_n 1, 1) := by decide +kernel
theorem dX7_plans_14 : decode cX7_plans 14 = .ok (.iadd, 1) := by decide +kernel
theorem dX7_plans_15 : decode cX7_plans 15 = .ok (.aload_n 0, 1) := by decide +kernel
theorem dX7_plans_16 : decode cX7_plans 16 = .ok (.getfield 41, 3) := by decide +kernel
theorem dX7_plans_19 : decode cX7_plans 19 = .ok (.if_icmp .ge 157, 3) := by decide +kernel
theorem dX7_plans_22 : decode cX7_plans 22 = .ok (.iload_n 2, 1) := by decide +kernel
theorem dX7_plans_23 : decode cX7_plans 23 = .ok (.iload_n 1, 1) := by decide +kernel
theorem dX7_plans_24 : decode cX7_plans 24 = .ok (.iadd, 1) := by decide +kernel
theorem dX7_plans_25 : decode cX7_plans 25 = .ok (.istore_n 3, 1) := by decide +kernel
theorem dX7_plans_26 : decode cX7_plans 26 = .ok (.iconst 0, 1) := by decide +kernel
theorem dX7_plans_27 : decode cX7_plans 27 = .ok (.istore 4, 2) := by decide +kernel
theorem dX7_plans_29 : decode cX7_plans 29 = .ok (.iload_n 2, 1) := by decide +kernel
theorem dX7_plans_30 : decode cX7_plans 30 = .ok (.istore 5, 2) := by decide +kernel
theorem dX7_plans_32 : decode cX7_plans 32 = .ok (.iload 5, 2) := by decide +kernel
theorem dX7_plans_34 : decode cX7_plans 34 = .ok (.iload_n 3, 1) := by decide +kernel
theorem dX7_plans_35 : decode cX7_plans 35 = .ok (.if_icmp .gt 21, 3) := by decide +kernel
theorem dX7_plans_38 : decode cX7_plans 38 = .ok (.iload 4, 2) := by decide +kernel
theorem dX7_plans_40 : decode cX7_plans 40 = .ok (.aload_n 0, 1) := by decide +kernel
theorem dX7_plans_41 : decode cX7_plans 41 = .ok (.getfield 44, 3) := by decide +kernel
theorem dX7_plans_44 : decode cX7_plans 44 = .ok (.iload 5, 2) := by decide +kernel
theorem dX7_plans_46 : decode cX7_plans 46 = .ok (.iaload, 1) := by decide +kernel
theorem dX7_plans_47 : decode cX7_plans 47 = .ok (.iadd, 1) := by decide +kernel
theorem dX7_plans_48 : decode cX7_plans 48 = .ok (.istore 4, 2) := by decide +kernel
theorem dX7_plans_50 : decode cX7_plans 50 = .ok (.iinc 5 1, 3) := by decide +kernel
theorem dX7_plans_53 : decode cX7_plans 53 = .ok (.goto (-21), 3) := by decide +kernel
theorem dX7_plans_56 : decode cX7_plans 56 = .ok (.bipush 12, 2) := by decide +kernel
theorem dX7_plans_58 : decode cX7_plans 58 = .ok (.iload_n 2, 1) := by decide +kernel
theorem dX7_plans_59 : decode cX7_plans 59 = .ok (.imul, 1) := by decide +kernel
theorem dX7_plans_60 : decode cX7_plans 60 = .ok (.iload_n 3, 1) := by decide +kernel
theorem dX7_plans_61 : decode cX7_plans 61 = .ok (.iadd, 1) := by decide +kernel
theorem dX7_plans_62 : decode cX7_plans 62 = .ok (.istore 5, 2) := by decide +kernel
theorem dX7_plans_64 : decode cX7_plans 64 = .ok (.aload_n 0, 1) := by decide +kernel
theorem dX7_plans_65 : decode cX7_plans 65 = .ok (.getfield 47, 3) := by decide +kernel
theorem dX7_plans_68 : decode cX7_plans 68 = .ok (.iload 5, 2) := by decide +kernel
theorem dX7_plans_70 : decode cX7_plans 70 = .ok (.iconst 0, 1) := by decide +kernel
theorem dX7_plans_71 : decode cX7_plans 71 = .ok (.iastore, 1) := by decide +kernel
theorem dX7_plans_72 : decode cX7_plans 72 = .ok (.aload_n 0, 1) := by decide +kernel
theorem dX7_plans_73 : decode cX7_plans 73 = .ok (.getfield 50, 3) := by decide +kernel
theorem dX7_plans_76 : decode cX7_plans 76 = .ok (.iload 5, 2) := by decide +kernel
theorem dX7_plans_78 : decode cX7_plans 78 = .ok (.iconst (-1), 1) := by decide +kernel
theorem dX7_plans_79 : decode cX7_plans 79 = .ok (.iastore, 1) := by decide +kernel
theorem dX7_plans_80 : decode cX7_plans 80 = .ok (.iload_n 2, 1) := by decide +kernel
theorem dX7_plans_81 : decode cX7_plans 81 = .ok (.iconst 1, 1) := by decide +kernel
theorem dX7_plans_82 : decode cX7_plans 82 = .ok (.iadd, 1) := by decide +kernel
theorem dX7_plans_83 : decode cX7_plans 83 = .ok (.istore 6, 2) := by decide +kernel
theorem dX7_plans_85 : decode cX7_plans 85 = .ok (.iload 6, 2) := by decide +kernel
theorem dX7_plans_87 : decode cX7_plans 87 = .ok (.iload_n 3, 1) := by decide +kernel
theorem dX7_plans_88 : decode cX7_plans 88 = .ok (.if_icmp .gt 82, 3) := by decide +kernel
theorem dX7_plans_91 : decode cX7_plans 91 = .ok (.iload 4, 2) := by decide +kernel
theorem dX7_plans_93 : decode cX7_plans 93 = .ok (.aload_n 0, 1) := by decide +kernel
theorem dX7_plans_94 : decode cX7_plans 94 = .ok (.getfield 47, 3) := by decide +kernel
theorem dX7_plans_97 : decode cX7_plans 97 = .ok (.bipush 12, 2) := by decide +kernel
theorem dX7_plans_99 : decode cX7_plans 99 = .ok (.iload_n 2, 1) := by decide +kernel
theorem dX7_plans_100 : decode cX7_plans 100 = .ok (.imul, 1) := by decide +kernel
theorem dX7_plans_101 : decode cX7_plans 101 = .ok (.iload 6, 2) := by decide +kernel
theorem dX7_plans_103 : decode cX7_plans 103 = .ok (.iadd, 1) := by decide +kernel
theorem dX7_plans_104 : decode cX7_plans 104 = .ok (.iconst 1, 1) := by decide +kernel
theorem dX7_plans_105 : decode cX7_plans 105 = .ok (.isub, 1) := by decide +kernel
theorem dX7_plans_106 : decode cX7_plans 106 = .ok (.iaload, 1) := by decide +kernel
theorem dX7_plans_107 : decode cX7_plans 107 = .ok (.iadd, 1) := by decide +kernel
theorem dX7_plans_108 : decode cX7_plans 108 = .ok (.aload_n 0, 1) := by decide +kernel
theorem dX7_plans_109 : decode cX7_plans 109 = .ok (.getfield 47, 3) := by decide +kernel
theorem dX7_plans_112 : decode cX7_plans 112 = .ok (.bipush 12, 2) := by decide +kernel
theorem dX7_plans_114 : decode cX7_plans 114 = .ok (.iload 6, 2) := by decide +kernel
theorem dX7_plans_116 : decode cX7_plans 116 = .ok (.imul, 1) := by decide +kernel
theorem dX7_plans_117 : decode cX7_plans 117 = .ok (.iload_n 3, 1) := by decide +kernel
theorem dX7_plans_118 : decode cX7_plans 118 = .ok (.iadd, 1) := by decide +kernel
theorem dX7_plans_119 : decode cX7_plans 119 = .ok (.iaload, 1) := by decide +kernel
theorem dX7_plans_120 : decode cX7_plans 120 = .ok (.iadd, 1) := by decide +kernel
theorem dX7_plans_121 : decode cX7_plans 121 = .ok (.istore 7, 2) := by decide +kernel
theorem dX7_plans_123 : decode cX7_plans 123 = .ok (.aload_n 0, 1) := by decide +kernel
theorem dX7_plans_124 : decode cX7_plans 124 = .ok (.getfield 50, 3) := by decide +kernel
theorem dX7_plans_127 : decode cX7_plans 127 = .ok (.iload 5, 2) := by decide +kernel
theorem dX7_plans_129 : decode cX7_plans 129 = .ok (.iaload, 1) := by decide +kernel
theorem dX7_plans_130 : decode cX7_plans 130 = .ok (.iconst (-1), 1) := by decide +kernel
theorem dX7_plans_131 : decode cX7_plans 131 = .ok (.if_icmp .eq 15, 3) := by decide +kernel
theorem dX7_plans_134 : decode cX7_plans 134 = .ok (.iload 7, 2) := by decide +kernel
theorem dX7_plans_136 : decode cX7_plans 136 = .ok (.aload_n 0, 1) := by decide +kernel
theorem dX7_plans_137 : decode cX7_plans 137 = .ok (.getfield 47, 3) := by decide +kernel
theorem dX7_plans_140 : decode cX7_plans 140 = .ok (.iload 5, 2) := by decide +kernel
theorem dX7_plans_142 : decode cX7_plans 142 = .ok (.iaload, 1) := by decide +kernel
theorem dX7_plans_143 : decode cX7_plans 143 = .ok (.if_icmp .ge 21, 3) := by decide +kernel
theorem dX7_plans_146 : decode cX7_plans 146 = .ok (.aload_n 0, 1) := by decide +kernel
theorem dX7_plans_147 : decode cX7_plans 147 = .ok (.getfield 47, 3) := by decide +kernel
theorem dX7_plans_150 : decode cX7_plans 150 = .ok (.iload 5, 2) := by decide +kernel
theorem dX7_plans_152 : decode cX7_plans 152 = .ok (.iload 7, 2) := by decide +kernel
theorem dX7_plans_154 : decode cX7_plans 154 = .ok (.iastore, 1) := by decide +kernel
theorem dX7_plans_155 : decode cX7_plans 155 = .ok (.aload_n 0, 1) := by decide +kernel
theorem dX7_plans_156 : decode cX7_plans 156 = .ok (.getfield 50, 3) := by decide +kernel
theorem dX7_plans_159 : decode cX7_plans 159 = .ok (.iload 5, 2) := by decide +kernel
theorem dX7_plans_161 : decode cX7_plans 161 = .ok (.iload 6, 2) := by decide +kernel
theorem dX7_plans_163 : decode cX7_plans 163 = .ok (.iastore, 1) := by decide +kernel
theorem dX7_plans_164 : decode cX7_plans 164 = .ok (.iinc 6 1, 3) := by decide +kernel
theorem dX7_plans_167 : decode cX7_plans 167 = .ok (.goto (-82), 3) := by decide +kernel
theorem dX7_plans_170 : decode cX7_plans 170 = .ok (.iinc 2 1, 3) := by decide +kernel
theorem dX7_plans_173 : decode cX7_plans 173 = .ok (.goto (-161), 3) := by decide +kernel
theorem dX7_plans_176 : decode cX7_plans 176 = .ok (.iinc 1 1, 3) := by decide +kernel
theorem dX7_plans_179 : decode cX7_plans 179 = .ok (.goto (-177), 3) := by decide +kernel
theorem dX7_plans_182 : decode cX7_plans 182 = .ok (.return_, 1) := by decide +kernel
theorem dX7_isSpan_0 : decode cX7_isSpan 0 = .ok (.iload_n 1, 1) := by decide +kernel
theorem dX7_isSpan_1 : decode cX7_isSpan 1 = .ok (.ifCond .lt 20, 3) := by decide +kernel
theorem dX7_isSpan_4 : decode cX7_isSpan 4 = .ok (.iload_n 2, 1) := by decide +kernel
theorem dX7_isSpan_5 : decode cX7_isSpan 5 = .ok (.iload_n 1, 1) := by decide +kernel
theorem dX7_isSpan_6 : decode cX7_isSpan 6 = .ok (.if_icmp .lt 15, 3) := by decide +kernel
theorem dX7_isSpan_9 : decode cX7_isSpan 9 = .ok (.iload_n 2, 1) := by decide +kernel
theorem dX7_isSpan_10 : decode cX7_isSpan 10 = .ok (.aload_n 0, 1) := by decide +kernel
theorem dX7_isSpan_11 : decode cX7_isSpan 11 = .ok (.getfield 41, 3) := by decide +kernel
theorem dX7_isSpan_14 : decode cX7_isSpan 14 = .ok (.if_icmp .ge 7, 3) := by decide +kernel
theorem dX7_isSpan_17 : decode cX7_isSpan 17 = .ok (.iconst 1, 1) := by decide +kernel
theorem dX7_isSpan_18 : decode cX7_isSpan 18 = .ok (.goto 4, 3) := by decide +kernel
theorem dX7_isSpan_21 : decode cX7_isSpan 21 = .ok (.iconst 0, 1) := by decide +kernel
theorem dX7_isSpan_22 : decode cX7_isSpan 22 = .ok (.ireturn, 1) := by decide +kernel
set_option maxRecDepth 20000 in
theorem ggX7_cost_X7_isSpan : GoodIn wsX7_cost wsX7_isSpan := goodIn_r _ [6, 7, 14, 15, 16, 17, 18, 19, 20, 21, 22, 23, 24, 25, 26, 27, 28, 29, 30, 31, 32, 33, 34, 35, 36] (by decide +kernel) (by decide +kernel)
set_option maxRecDepth 20000 in
theorem gX7_cost_X7_isSpan : GoodIn wsX7_cost (wsV RX7 127 RX7 yX7_isSpan wsX7_isSpan) := goodIn_app (goodIn_of _ (by decide +kernel)) ggX7_cost_X7_isSpan
set_option maxRecDepth 20000 in
theorem ggX7_cost_X7_plans : GoodIn wsX7_cost wsX7_plans := goodIn_r _ [11, 7, 12, 1, 13, 14, 15, 16, 17, 18, 19, 20, 21, 22, 23, 24, 25, 26, 27, 28, 29, 30, 31, 32, 33, 34, 35, 36] (by decide +kernel) (by decide +kernel)
set_option maxRecDepth 20000 in
theorem gX7_cost_X7_plans : GoodIn wsX7_cost (wsV RX7 130 RX7 yX7_plans wsX7_plans) := goodIn_app (goodIn_of _ (by decide +kernel)) ggX7_cost_X7_plans
theorem dX7_cost_0 : decode cX7_cost 0 = .ok (.aload_n 0, 1) := by decide +kernel
theorem dX7_cost_1 : decode cX7_cost 1 = .ok (.iload_n 1, 1) := by decide +kernel
theorem dX7_cost_2 : decode cX7_cost 2 = .ok (.iload_n 2, 1) := by decide +kernel
theorem dX7_cost_3 : decode cX7_cost 3 = .ok (.invokevirtual 127, 3) := by decide +kernel
theorem dX7_cost_6 : decode cX7_cost 6 = .ok (.ifCond .ne 6, 3) := by decide +kernel
theorem dX7_cost_9 : decode cX7_cost 9 = .ok (.bipush (-2), 2) := by decide +kernel
theorem dX7_cost_11 : decode cX7_cost 11 = .ok (.ireturn, 1) := by decide +kernel
theorem dX7_cost_12 : decode cX7_cost 12 = .ok (.aload_n 0, 1) := by decide +kernel
theorem dX7_cost_13 : decode cX7_cost 13 = .ok (.invokevirtual 130, 3) := by decide +kernel
theorem dX7_cost_16 : decode cX7_cost 16 = .ok (.aload_n 0, 1) := by decide +kernel
theorem dX7_cost_17 : decode cX7_cost 17 = .ok (.getfield 47, 3) := by decide +kernel
theorem dX7_cost_20 : decode cX7_cost 20 = .ok (.bipush 12, 2) := by decide +kernel
theorem dX7_cost_22 : decode cX7_cost 22 = .ok (.iload_n 1, 1) := by decide +kernel
theorem dX7_cost_23 : decode cX7_cost 23 = .ok (.imul, 1) := by decide +kernel
theorem dX7_cost_24 : decode cX7_cost 24 = .ok (.iload_n 2, 1) := by decide +kernel
theorem dX7_cost_25 : decode cX7_cost 25 = .ok (.iadd, 1) := by decide +kernel
theorem dX7_cost_26 : decode cX7_cost 26 = .ok (.iaload, 1) := by decide +kernel
theorem dX7_cost_27 : decode cX7_cost 27 = .ok (.ireturn, 1) := by decide +kernel
set_option maxRecDepth 20000 in
theorem ggX7_closes_X7_isSpan : GoodIn wsX7_closes wsX7_isSpan := goodIn_r _ [6, 7, 14, 15, 16, 17, 18, 19, 20, 21, 22, 23, 24, 25, 26, 27, 28, 29, 30, 31, 32, 33, 34, 35, 36] (by decide +kernel) (by decide +kernel)
set_option maxRecDepth 20000 in
theorem gX7_closes_X7_isSpan : GoodIn wsX7_closes (wsV RX7 127 RX7 yX7_isSpan wsX7_isSpan) := goodIn_app (goodIn_of _ (by decide +kernel)) ggX7_closes_X7_isSpan
set_option maxRecDepth 20000 in
theorem ggX7_closes_X7_plans : GoodIn wsX7_closes wsX7_plans := goodIn_r _ [11, 7, 12, 13, 1, 14, 15, 16, 17, 18, 19, 20, 21, 22, 23, 24, 25, 26, 27, 28, 29, 30, 31, 32, 33, 34, 35, 36] (by decide +kernel) (by decide +kernel)
set_option maxRecDepth 20000 in
theorem gX7_closes_X7_plans : GoodIn wsX7_closes (wsV RX7 130 RX7 yX7_plans wsX7_plans) := goodIn_app (goodIn_of _ (by decide +kernel)) ggX7_closes_X7_plans
theorem dX7_closes_0 : decode cX7_closes 0 = .ok (.aload_n 0, 1) := by decide +kernel
theorem dX7_closes_1 : decode cX7_closes 1 = .ok (.iload_n 1, 1) := by decide +kernel
theorem dX7_closes_2 : decode cX7_closes 2 = .ok (.iload_n 2, 1) := by decide +kernel
theorem dX7_closes_3 : decode cX7_closes 3 = .ok (.invokevirtual 127, 3) := by decide +kernel
theorem dX7_closes_6 : decode cX7_closes 6 = .ok (.ifCond .ne 6, 3) := by decide +kernel
theorem dX7_closes_9 : decode cX7_closes 9 = .ok (.bipush (-2), 2) := by decide +kernel
theorem dX7_closes_11 : decode cX7_closes 11 = .ok (.ireturn, 1) := by decide +kernel
theorem dX7_closes_12 : decode cX7_closes 12 = .ok (.aload_n 0, 1) := by decide +kernel
theorem dX7_closes_13 : decode cX7_closes 13 = .ok (.invokevirtual 130, 3) := by decide +kernel
theorem dX7_closes_16 : decode cX7_closes 16 = .ok (.aload_n 0, 1) := by decide +kernel
theorem dX7_closes_17 : decode cX7_closes 17 = .ok (.getfield 50, 3) := by decide +kernel
theorem dX7_closes_20 : decode cX7_closes 20 = .ok (.bipush 12, 2) := by decide +kernel
theorem dX7_closes_22 : decode cX7_closes 22 = .ok (.iload_n 1, 1) := by decide +kernel
theorem dX7_closes_23 : decode cX7_closes 23 = .ok (.imul, 1) := by decide +kernel
theorem dX7_closes_24 : decode cX7_closes 24 = .ok (.iload_n 2, 1) := by decide +kernel
theorem dX7_closes_25 : decode cX7_closes 25 = .ok (.iadd, 1) := by decide +kernel
theorem dX7_closes_26 : decode cX7_closes 26 = .ok (.iaload, 1) := by decide +kernel
theorem dX7_closes_27 : decode cX7_closes 27 = .ok (.ireturn, 1) := by decide +kernel
set_option maxRecDepth 20000 in
theorem ggX7_closings_X7_in : GoodIn wsX7_closings wsX7_in := goodIn_r _ [6] (by decide +kernel) (by decide +kernel)
set_option maxRecDepth 20000 in
theorem gX7_closings_X7_in : GoodIn wsX7_closings (va_wsS RX7 65 yX7_in wsX7_in) := goodIn_app (goodIn_of _ (by decide +kernel)) ggX7_closings_X7_in
set_option maxRecDepth 20000 in
theorem ggX7_closings_X7_plans : GoodIn wsX7_closings wsX7_plans := goodIn_r _ [10, 1, 11, 12, 2, 13, 14, 15, 16, 17, 18, 19, 20, 21, 22, 23, 24, 25, 26, 27, 28, 29, 30, 31, 32, 33, 34, 35] (by decide +kernel) (by decide +kernel)
set_option maxRecDepth 20000 in
theorem gX7_closings_X7_plans : GoodIn wsX7_closings (wsV RX7 130 RX7 yX7_plans wsX7_plans) := goodIn_app (goodIn_of _ (by decide +kernel)) ggX7_closings_X7_plans
theorem dX7_closings_0 : decode cX7_closings 0 = .ok (.iload_n 1, 1) := by decide +kernel
theorem dX7_closings_1 : decode cX7_closings 1 = .ok (.iconst 0, 1) := by decide +kernel
theorem dX7_closings_2 : decode cX7_closings 2 = .ok (.aload_n 0, 1) := by decide +kernel
theorem dX7_closings_3 : decode cX7_closings 3 = .ok (.getfield 41, 3) := by decide +kernel
theorem dX7_closings_6 : decode cX7_closings 6 = .ok (.iconst 1, 1) := by decide +kernel
theorem dX7_closings_7 : decode cX7_closings 7 = .ok (.isub, 1) := by decide +kernel
theorem dX7_closings_8 : decode cX7_closings 8 = .ok (.invokestatic 65, 3) := by decide +kernel
theorem dX7_closings_11 : decode cX7_closings 11 = .ok (.ifCond .ne 6, 3) := by decide +kernel
theorem dX7_closings_14 : decode cX7_closings 14 = .ok (.bipush (-2), 2) := by decide +kernel
theorem dX7_closings_16 : decode cX7_closings 16 = .ok (.ireturn, 1) := by decide +kernel
theorem dX7_closings_17 : decode cX7_closings 17 = .ok (.aload_n 0, 1) := by decide +kernel
theorem dX7_closings_18 : decode cX7_closings 18 = .ok (.invokevirtual 130, 3) := by decide +kernel
theorem dX7_closings_21 : decode cX7_closings 21 = .ok (.iconst 0, 1) := by decide +kernel
theorem dX7_closings_22 : decode cX7_closings 22 = .ok (.istore_n 2, 1) := by decide +kernel
theorem dX7_closings_23 : decode cX7_closings 23 = .ok (.iconst 0, 1) := by decide +kernel
theorem dX7_closings_24 : decode cX7_closings 24 = .ok (.istore_n 3, 1) := by decide +kernel
theorem dX7_closings_25 : decode cX7_closings 25 = .ok (.aload_n 0, 1) := by decide +kernel
theorem dX7_closings_26 : decode cX7_closings 26 = .ok (.getfield 41, 3) := by decide +kernel
theorem dX7_closings_29 : decode cX7_closings 29 = .ok (.iconst 1, 1) := by decide +kernel
theorem dX7_closings_30 : decode cX7_closings 30 = .ok (.isub, 1) := by decide +kernel
theorem dX7_closings_31 : decode cX7_closings 31 = .ok (.istore 4, 2) := by decide +kernel
theorem dX7_closings_33 : decode cX7_closings 33 = .ok (.iload_n 3, 1) := by decide +kernel
theorem dX7_closings_34 : decode cX7_closings 34 = .ok (.iload 4, 2) := by decide +kernel
theorem dX7_closings_36 : decode cX7_closings 36 = .ok (.if_icmp .ge 53, 3) := by decide +kernel
theorem dX7_closings_39 : decode cX7_closings 39 = .ok (.aload_n 0, 1) := by decide +kernel
theorem dX7_closings_40 : decode cX7_closings 40 = .ok (.getfield 50, 3) := by decide +kernel
theorem dX7_closings_43 : decode cX7_closings 43 = .ok (.bipush 12, 2) := by decide +kernel
theorem dX7_closings_45 : decode cX7_closings 45 = .ok (.iload_n 3, 1) := by decide +kernel
theorem dX7_closings_46 : decode cX7_closings 46 = .ok (.imul, 1) := by decide +kernel
theorem dX7_closings_47 : decode cX7_closings 47 = .ok (.iload 4, 2) := by decide +kernel
theorem dX7_closings_49 : decode cX7_closings 49 = .ok (.iadd, 1) := by decide +kernel
theorem dX7_closings_50 : decode cX7_closings 50 = .ok (.iaload, 1) := by decide +kernel
theorem dX7_closings_51 : decode cX7_closings 51 = .ok (.istore 5, 2) := by decide +kernel
theorem dX7_closings_53 : decode cX7_closings 53 = .ok (.iload_n 1, 1) := by decide +kernel
theorem dX7_closings_54 : decode cX7_closings 54 = .ok (.iload 5, 2) := by decide +kernel
theorem dX7_closings_56 : decode cX7_closings 56 = .ok (.if_icmp .ge 7, 3) := by decide +kernel
theorem dX7_closings_59 : decode cX7_closings 59 = .ok (.iload_n 3, 1) := by decide +kernel
theorem dX7_closings_60 : decode cX7_closings 60 = .ok (.goto 5, 3) := by decide +kernel
theorem dX7_closings_63 : decode cX7_closings 63 = .ok (.iload 5, 2) := by decide +kernel
theorem dX7_closings_65 : decode cX7_closings 65 = .ok (.istore_n 3, 1) := by decide +kernel
theorem dX7_closings_66 : decode cX7_closings 66 = .ok (.iload_n 1, 1) := by decide +kernel
theorem dX7_closings_67 : decode cX7_closings 67 = .ok (.iload 5, 2) := by decide +kernel
theorem dX7_closings_69 : decode cX7_closings 69 = .ok (.if_icmp .ge 10, 3) := by decide +kernel
theorem dX7_closings_72 : decode cX7_closings 72 = .ok (.iload 5, 2) := by decide +kernel
theorem dX7_closings_74 : decode cX7_closings 74 = .ok (.iconst 1, 1) := by decide +kernel
theorem dX7_closings_75 : decode cX7_closings 75 = .ok (.isub, 1) := by decide +kernel
theorem dX7_closings_76 : decode cX7_closings 76 = .ok (.goto 5, 3) := by decide +kernel
theorem dX7_closings_79 : decode cX7_closings 79 = .ok (.iload 4, 2) := by decide +kernel
theorem dX7_closings_81 : decode cX7_closings 81 = .ok (.istore 4, 2) := by decide +kernel
theorem dX7_closings_83 : decode cX7_closings 83 = .ok (.iinc 2 1, 3) := by decide +kernel
theorem dX7_closings_86 : decode cX7_closings 86 = .ok (.goto (-53), 3) := by decide +kernel
theorem dX7_closings_89 : decode cX7_closings 89 = .ok (.iload_n 2, 1) := by decide +kernel
theorem dX7_closings_90 : decode cX7_closings 90 = .ok (.ireturn, 1) := by decide +kernel
set_option maxRecDepth 20000 in
theorem ggX7_dig_X7_in : GoodIn wsX7_dig wsX7_in := goodIn_r _ [7] (by decide +kernel) (by decide +kernel)
set_option maxRecDepth 20000 in
theorem gX7_dig_X7_in : GoodIn wsX7_dig (va_wsS RX7 65 yX7_in wsX7_in) := goodIn_app (goodIn_of _ (by decide +kernel)) ggX7_dig_X7_in
theorem dX7_dig_0 : decode cX7_dig 0 = .ok (.iload_n 1, 1) := by decide +kernel
theorem dX7_dig_1 : decode cX7_dig 1 = .ok (.iconst 0, 1) := by decide +kernel
theorem dX7_dig_2 : decode cX7_dig 2 = .ok (.sipush 1000, 3) := by decide +kernel
theorem dX7_dig_5 : decode cX7_dig 5 = .ok (.invokestatic 65, 3) := by decide +kernel
theorem dX7_dig_8 : decode cX7_dig 8 = .ok (.ifCond .eq 13, 3) := by decide +kernel
theorem dX7_dig_11 : decode cX7_dig 11 = .ok (.iload_n 2, 1) := by decide +kernel
theorem dX7_dig_12 : decode cX7_dig 12 = .ok (.iconst 1, 1) := by decide +kernel
theorem dX7_dig_13 : decode cX7_dig 13 = .ok (.bipush 100, 2) := by decide +kernel
theorem dX7_dig_15 : decode cX7_dig 15 = .ok (.invokestatic 65, 3) := by decide +kernel
theorem dX7_dig_18 : decode cX7_dig 18 = .ok (.ifCond .ne 6, 3) := by decide +kernel
theorem dX7_dig_21 : decode cX7_dig 21 = .ok (.bipush (-2), 2) := by decide +kernel
theorem dX7_dig_23 : decode cX7_dig 23 = .ok (.ireturn, 1) := by decide +kernel
theorem dX7_dig_24 : decode cX7_dig 24 = .ok (.aload_n 0, 1) := by decide +kernel
theorem dX7_dig_25 : decode cX7_dig 25 = .ok (.getfield 133, 3) := by decide +kernel
theorem dX7_dig_28 : decode cX7_dig 28 = .ok (.bipush 8, 2) := by decide +kernel
theorem dX7_dig_30 : decode cX7_dig 30 = .ok (.if_icmp .ne 6, 3) := by decide +kernel
theorem dX7_dig_33 : decode cX7_dig 33 = .ok (.bipush (-4), 2) := by decide +kernel
theorem dX7_dig_35 : decode cX7_dig 35 = .ok (.ireturn, 1) := by decide +kernel
theorem dX7_dig_36 : decode cX7_dig 36 = .ok (.aload_n 0, 1) := by decide +kernel
theorem dX7_dig_37 : decode cX7_dig 37 = .ok (.getfield 53, 3) := by decide +kernel
theorem dX7_dig_40 : decode cX7_dig 40 = .ok (.aload_n 0, 1) := by decide +kernel
theorem dX7_dig_41 : decode cX7_dig 41 = .ok (.getfield 133, 3) := by decide +kernel
theorem dX7_dig_44 : decode cX7_dig 44 = .ok (.iload_n 1, 1) := by decide +kernel
theorem dX7_dig_45 : decode cX7_dig 45 = .ok (.iastore, 1) := by decide +kernel
theorem dX7_dig_46 : decode cX7_dig 46 = .ok (.aload_n 0, 1) := by decide +kernel
theorem dX7_dig_47 : decode cX7_dig 47 = .ok (.getfield 56, 3) := by decide +kernel
theorem dX7_dig_50 : decode cX7_dig 50 = .ok (.aload_n 0, 1) := by decide +kernel
theorem dX7_dig_51 : decode cX7_dig 51 = .ok (.getfield 133, 3) := by decide +kernel
theorem dX7_dig_54 : decode cX7_dig 54 = .ok (.iload_n 2, 1) := by decide +kernel
theorem dX7_dig_55 : decode cX7_dig 55 = .ok (.iastore, 1) := by decide +kernel
theorem dX7_dig_56 : decode cX7_dig 56 = .ok (.aload_n 0, 1) := by decide +kernel
theorem dX7_dig_57 : decode cX7_dig 57 = .ok (.dup, 1) := by decide +kernel
theorem dX7_dig_58 : decode cX7_dig 58 = .ok (.getfield 133, 3) := by decide +kernel
theorem dX7_dig_61 : decode cX7_dig 61 = .ok (.iconst 1, 1) := by decide +kernel
theorem dX7_dig_62 : decode cX7_dig 62 = .ok (.iadd, 1) := by decide +kernel
theorem dX7_dig_63 : decode cX7_dig 63 = .ok (.putfield 133, 3) := by decide +kernel
theorem dX7_dig_66 : decode cX7_dig 66 = .ok (.aload_n 0, 1) := by decide +kernel
theorem dX7_dig_67 : decode cX7_dig 67 = .ok (.getfield 133, 3) := by decide +kernel
theorem dX7_dig_70 : decode cX7_dig 70 = .ok (.iconst 1, 1) := by decide +kernel
theorem dX7_dig_71 : decode cX7_dig 71 = .ok (.isub, 1) := by decide +kernel
theorem dX7_dig_72 : decode cX7_dig 72 = .ok (.ireturn, 1) := by decide +kernel
theorem dX7_clear_0 : decode cX7_clear 0 = .ok (.aload_n 0, 1) := by decide +kernel
theorem dX7_clear_1 : decode cX7_clear 1 = .ok (.getfield 133, 3) := by decide +kernel
theorem dX7_clear_4 : decode cX7_clear 4 = .ok (.istore_n 1, 1) := by decide +kernel
theorem dX7_clear_5 : decode cX7_clear 5 = .ok (.aload_n 0, 1) := by decide +kernel
theorem dX7_clear_6 : decode cX7_clear 6 = .ok (.iconst 0, 1) := by decide +kernel
theorem dX7_clear_7 : decode cX7_clear 7 = .ok (.putfield 133, 3) := by decide +kernel
theorem dX7_clear_10 : decode cX7_clear 10 = .ok (.iload_n 1, 1) := by decide +kernel
theorem dX7_clear_11 : decode cX7_clear 11 = .ok (.ireturn, 1) := by decide +kernel
theorem dX7_sorts_0 : decode cX7_sorts 0 = .ok (.iconst 0, 1) := by decide +kernel
theorem dX7_sorts_1 : decode cX7_sorts 1 = .ok (.istore_n 1, 1) := by decide +kernel
theorem dX7_sorts_2 : decode cX7_sorts 2 = .ok (.iload_n 1, 1) := by decide +kernel
theorem dX7_sorts_3 : decode cX7_sorts 3 = .ok (.aload_n 0, 1) := by decide +kernel
theorem dX7_sorts_4 : decode cX7_sorts 4 = .ok (.getfield 133, 3) := by decide +kernel
theorem dX7_sorts_7 : decode cX7_sorts 7 = .ok (.if_icmp .ge 85, 3) := by decide +kernel
theorem dX7_sorts_10 : decode cX7_sorts 10 = .ok (.iload_n 1, 1) := by decide +kernel
theorem dX7_sorts_11 : decode cX7_sorts 11 = .ok (.istore_n 2, 1) := by decide +kernel
theorem dX7_sorts_12 : decode cX7_sorts 12 = .ok (.iload_n 2, 1) := by decide +kernel
theorem dX7_sorts_13 : decode cX7_sorts 13 = .ok (.ifCond .le 66, 3) := by decide +kernel
theorem dX7_sorts_16 : decode cX7_sorts 16 = .ok (.aload_n 0, 1) := by decide +kernel
theorem dX7_sorts_17 : decode cX7_sorts 17 = .ok (.getfield 53, 3) := by decide +kernel
theorem dX7_sorts_20 : decode cX7_sorts 20 = .ok (.iload_n 1, 1) := by decide +kernel
theorem dX7_sorts_21 : decode cX7_sorts 21 = .ok (.iaload, 1) := by decide +kernel
theorem dX7_sorts_22 : decode cX7_sorts 22 = .ok (.aload_n 0, 1) := by decide +kernel
theorem dX7_sorts_23 : decode cX7_sorts 23 = .ok (.getfield 56, 3) := by decide +kernel
theorem dX7_sorts_26 : decode cX7_sorts 26 = .ok (.aload_n 0, 1) := by decide +kernel
theorem dX7_sorts_27 : decode cX7_sorts 27 = .ok (.getfield 59, 3) := by decide +kernel
theorem dX7_sorts_30 : decode cX7_sorts 30 = .ok (.iload_n 2, 1) := by decide +kernel
theorem dX7_sorts_31 : decode cX7_sorts 31 = .ok (.iconst 1, 1) := by decide +kernel
theorem dX7_sorts_32 : decode cX7_sorts 32 = .ok (.isub, 1) := by decide +kernel
theorem dX7_sorts_33 : decode cX7_sorts 33 = .ok (.iaload, 1) := by decide +kernel
theorem dX7_sorts_34 : decode cX7_sorts 34 = .ok (.iaload, 1) := by decide +kernel
theorem dX7_sorts_35 : decode cX7_sorts 35 = .ok (.imul, 1) := by decide +kernel
theorem dX7_sorts_36 : decode cX7_sorts 36 = .ok (.aload_n 0, 1) := by decide +kernel
theorem dX7_sorts_37 : decode cX7_sorts 37 = .ok (.getfield 53, 3) := by decide +kernel
theorem dX7_sorts_40 : decode cX7_sorts 40 = .ok (.aload_n 0, 1) := by decide +kernel
theorem dX7_sorts_41 : decode cX7_sorts 41 = .ok (.getfield 59, 3) := by decide +kernel
theorem dX7_sorts_44 : decode cX7_sorts 44 = .ok (.iload_n 2, 1) := by decide +kernel
theorem dX7_sorts_45 : decode cX7_sorts 45 = .ok (.iconst 1, 1) := by decide +kernel
theorem dX7_sorts_46 : decode cX7_sorts 46 = .ok (.isub, 1) := by decide +kernel
theorem dX7_sorts_47 : decode cX7_sorts 47 = .ok (.iaload, 1) := by decide +kernel
theorem dX7_sorts_48 : decode cX7_sorts 48 = .ok (.iaload, 1) := by decide +kernel
theorem dX7_sorts_49 : decode cX7_sorts 49 = .ok (.aload_n 0, 1) := by decide +kernel
theorem dX7_sorts_50 : decode cX7_sorts 50 = .ok (.getfield 56, 3) := by decide +kernel
theorem dX7_sorts_53 : decode cX7_sorts 53 = .ok (.iload_n 1, 1) := by decide +kernel
theorem dX7_sorts_54 : decode cX7_sorts 54 = .ok (.iaload, 1) := by decide +kernel
theorem dX7_sorts_55 : decode cX7_sorts 55 = .ok (.imul, 1) := by decide +kernel
theorem dX7_sorts_56 : decode cX7_sorts 56 = .ok (.if_icmp .le 23, 3) := by decide +kernel
theorem dX7_sorts_59 : decode cX7_sorts 59 = .ok (.aload_n 0, 1) := by decide +kernel
theorem dX7_sorts_60 : decode cX7_sorts 60 = .ok (.getfield 59, 3) := by decide +kernel
theorem dX7_sorts_63 : decode cX7_sorts 63 = .ok (.iload_n 2, 1) := by decide +kernel
theorem dX7_sorts_64 : decode cX7_sorts 64 = .ok (.aload_n 0, 1) := by decide +kernel
theorem dX7_sorts_65 : decode cX7_sorts 65 = .ok (.getfield 59, 3) := by decide +kernel
theorem dX7_sorts_68 : decode cX7_sorts 68 = .ok (.iload_n 2, 1) := by decide +kernel
theorem dX7_sorts_69 : decode cX7_sorts 69 = .ok (.iconst 1, 1) := by decide +kernel
theorem dX7_sorts_70 : decode cX7_sorts 70 = .ok (.isub, 1) := by decide +kernel
theorem dX7_sorts_71 : decode cX7_sorts 71 = .ok (.iaload, 1) := by decide +kernel
theorem dX7_sorts_72 : decode cX7_sorts 72 = .ok (.iastore, 1) := by decide +kernel
theorem dX7_sorts_73 : decode cX7_sorts 73 = .ok (.iinc 2 (-1), 3) := by decide +kernel
theorem dX7_sorts_76 : decode cX7_sorts 76 = .ok (.goto (-64), 3) := by decide +kernel
theorem dX7_sorts_79 : decode cX7_sorts 79 = .ok (.aload_n 0, 1) := by decide +kernel
theorem dX7_sorts_80 : decode cX7_sorts 80 = .ok (.getfield 59, 3) := by decide +kernel
theorem dX7_sorts_83 : decode cX7_sorts 83 = .ok (.iload_n 2, 1) := by decide +kernel
theorem dX7_sorts_84 : decode cX7_sorts 84 = .ok (.iload_n 1, 1) := by decide +kernel
theorem dX7_sorts_85 : decode cX7_sorts 85 = .ok (.iastore, 1) := by decide +kernel
theorem dX7_sorts_86 : decode cX7_sorts 86 = .ok (.iinc 1 1, 3) := by decide +kernel
theorem dX7_sorts_89 : decode cX7_sorts 89 = .ok (.goto (-87), 3) := by decide +kernel
theorem dX7_sorts_92 : decode cX7_sorts 92 = .ok (.return_, 1) := by decide +kernel
set_option maxRecDepth 20000 in
theorem ggX7_lost_X7_sorts : GoodIn wsX7_lost wsX7_sorts := goodIn_r _ [9, 1, 4, 2, 3, 10, 11, 12, 13, 14, 15, 16, 17, 18, 19, 20, 21, 22, 23, 24, 25, 26, 27, 28, 29, 30, 31, 32] (by decide +kernel) (by decide +kernel)
set_option maxRecDepth 20000 in
theorem gX7_lost_X7_sorts : GoodIn wsX7_lost (wsV RX7 136 RX7 yX7_sorts wsX7_sorts) := goodIn_app (goodIn_of _ (by decide +kernel)) ggX7_lost_X7_sorts
theorem dX7_lost_0 : decode cX7_lost 0 = .ok (.aload_n 0, 1) := by decide +kernel
theorem dX7_lost_1 : decode cX7_lost 1 = .ok (.invokevirtual 136, 3) := by decide +kernel
theorem dX7_lost_4 : decode cX7_lost 4 = .ok (.iconst 0, 1) := by decide +kernel
theorem dX7_lost_5 : decode cX7_lost 5 = .ok (.istore_n 1, 1) := by decide +kernel
theorem dX7_lost_6 : decode cX7_lost 6 = .ok (.iconst 0, 1) := by decide +kernel
theorem dX7_lost_7 : decode cX7_lost 7 = .ok (.istore_n 2, 1) := by decide +kernel
theorem dX7_lost_8 : decode cX7_lost 8 = .ok (.iconst 0, 1) := by decide +kernel
theorem dX7_lost_9 : decode cX7_lost 9 = .ok (.istore_n 3, 1) := by decide +kernel
theorem dX7_lost_10 : decode cX7_lost 10 = .ok (.iload_n 3, 1) := by decide +kernel
theorem dX7_lost_11 : decode cX7_lost 11 = .ok (.aload_n 0, 1) := by decide +kernel
theorem dX7_lost_12 : decode cX7_lost 12 = .ok (.getfield 133, 3) := by decide +kernel
theorem dX7_lost_15 : decode cX7_lost 15 = .ok (.if_icmp .ge 39, 3) := by decide +kernel
theorem dX7_lost_18 : decode cX7_lost 18 = .ok (.iload_n 1, 1) := by decide +kernel
theorem dX7_lost_19 : decode cX7_lost 19 = .ok (.aload_n 0, 1) := by decide +kernel
theorem dX7_lost_20 : decode cX7_lost 20 = .ok (.getfield 56, 3) := by decide +kernel
theorem dX7_lost_23 : decode cX7_lost 23 = .ok (.aload_n 0, 1) := by decide +kernel
theorem dX7_lost_24 : decode cX7_lost 24 = .ok (.getfield 59, 3) := by decide +kernel
theorem dX7_lost_27 : decode cX7_lost 27 = .ok (.iload_n 3, 1) := by decide +kernel
theorem dX7_lost_28 : decode cX7_lost 28 = .ok (.iaload, 1) := by decide +kernel
theorem dX7_lost_29 : decode cX7_lost 29 = .ok (.iaload, 1) := by decide +kernel
theorem dX7_lost_30 : decode cX7_lost 30 = .ok (.iadd, 1) := by decide +kernel
theorem dX7_lost_31 : decode cX7_lost 31 = .ok (.istore_n 1, 1) := by decide +kernel
theorem dX7_lost_32 : decode cX7_lost 32 = .ok (.iload_n 2, 1) := by decide +kernel
theorem dX7_lost_33 : decode cX7_lost 33 = .ok (.iload_n 1, 1) := by decide +kernel
theorem dX7_lost_34 : decode cX7_lost 34 = .ok (.aload_n 0, 1) := by decide +kernel
theorem dX7_lost_35 : decode cX7_lost 35 = .ok (.getfield 53, 3) := by decide +kernel
theorem dX7_lost_38 : decode cX7_lost 38 = .ok (.aload_n 0, 1) := by decide +kernel
theorem dX7_lost_39 : decode cX7_lost 39 = .ok (.getfield 59, 3) := by decide +kernel
theorem dX7_lost_42 : decode cX7_lost 42 = .ok (.iload_n 3, 1) := by decide +kernel
theorem dX7_lost_43 : decode cX7_lost 43 = .ok (.iaload, 1) := by decide +kernel
theorem dX7_lost_44 : decode cX7_lost 44 = .ok (.iaload, 1) := by decide +kernel
theorem dX7_lost_45 : decode cX7_lost 45 = .ok (.imul, 1) := by decide +kernel
theorem dX7_lost_46 : decode cX7_lost 46 = .ok (.iadd, 1) := by decide +kernel
theorem dX7_lost_47 : decode cX7_lost 47 = .ok (.istore_n 2, 1) := by decide +kernel
theorem dX7_lost_48 : decode cX7_lost 48 = .ok (.iinc 3 1, 3) := by decide +kernel
theorem dX7_lost_51 : decode cX7_lost 51 = .ok (.goto (-41), 3) := by decide +kernel
theorem dX7_lost_54 : decode cX7_lost 54 = .ok (.iload_n 2, 1) := by decide +kernel
theorem dX7_lost_55 : decode cX7_lost 55 = .ok (.ireturn, 1) := by decide +kernel
end
section
set_option maxRecDepth 20000 in
theorem ggX7_order_X7_sorts : GoodIn wsX7_order wsX7_sorts := goodIn_r _ [7, 1, 8, 9, 2, 13, 14, 15, 16, 17, 18, 19, 20, 21, 22, 23, 24, 25, 26, 27, 28, 29, 30, 31, 32, 33, 34, 35] (by decide +kernel) (by decide +kernel)
set_option maxRecDepth 20000 in
theorem gX7_order_X7_sorts : GoodIn wsX7_order (wsV RX7 136 RX7 yX7_sorts wsX7_sorts) := goodIn_app (goodIn_of _ (by decide +kernel)) ggX7_order_X7_sorts
set_option maxRecDepth 20000 in
theorem ggX7_order_X7_in : GoodIn wsX7_order wsX7_in := goodIn_r _ [12] (by decide +kernel) (by decide +kernel)
set_option maxRecDepth 20000 in
theorem gX7_order_X7_in : GoodIn wsX7_order (va_wsS RX7 65 yX7_in wsX7_in) := goodIn_app (goodIn_of _ (by decide +kernel)) ggX7_order_X7_in
theorem dX7_order_0 : decode cX7_order 0 = .ok (.aload_n 0, 1) := by decide +kernel
theorem dX7_order_1 : decode cX7_order 1 = .ok (.invokevirtual 136, 3) := by decide +kernel
theorem dX7_order_4 : decode cX7_order 4 = .ok (.iload_n 1, 1) := by decide +kernel
theorem dX7_order_5 : decode cX7_order 5 = .ok (.iconst 0, 1) := by decide +kernel
theorem dX7_order_6 : decode cX7_order 6 = .ok (.aload_n 0, 1) := by decide +kernel
theorem dX7_order_7 : decode cX7_order 7 = .ok (.getfield 133, 3) := by decide +kernel
theorem dX7_order_10 : decode cX7_order 10 = .ok (.iconst 1, 1) := by decide +kernel
theorem dX7_order_11 : decode cX7_order 11 = .ok (.isub, 1) := by decide +kernel
theorem dX7_order_12 : decode cX7_order 12 = .ok (.invokestatic 65, 3) := by decide +kernel
theorem dX7_order_15 : decode cX7_order 15 = .ok (.ifCond .eq 12, 3) := by decide +kernel
theorem dX7_order_18 : decode cX7_order 18 = .ok (.aload_n 0, 1) := by decide +kernel
theorem dX7_order_19 : decode cX7_order 19 = .ok (.getfield 59, 3) := by decide +kernel
theorem dX7_order_22 : decode cX7_order 22 = .ok (.iload_n 1, 1) := by decide +kernel
theorem dX7_order_23 : decode cX7_order 23 = .ok (.iaload, 1) := by decide +kernel
theorem dX7_order_24 : decode cX7_order 24 = .ok (.goto 4, 3) := by decide +kernel
theorem dX7_order_27 : decode cX7_order 27 = .ok (.iconst (-1), 1) := by decide +kernel
theorem dX7_order_28 : decode cX7_order 28 = .ok (.ireturn, 1) := by decide +kernel
theorem dX7_pull_0 : decode cX7_pull 0 = .ok (.iconst 0, 1) := by decide +kernel
theorem dX7_pull_1 : decode cX7_pull 1 = .ok (.istore_n 1, 1) := by decide +kernel
theorem dX7_pull_2 : decode cX7_pull 2 = .ok (.iload_n 1, 1) := by decide +kernel
theorem dX7_pull_3 : decode cX7_pull 3 = .ok (.iconst 1, 1) := by decide +kernel
theorem dX7_pull_4 : decode cX7_pull 4 = .ok (.iadd, 1) := by decide +kernel
theorem dX7_pull_5 : decode cX7_pull 5 = .ok (.iload_n 1, 1) := by decide +kernel
theorem dX7_pull_6 : decode cX7_pull 6 = .ok (.iconst 1, 1) := by decide +kernel
theorem dX7_pull_7 : decode cX7_pull 7 = .ok (.iadd, 1) := by decide +kernel
theorem dX7_pull_8 : decode cX7_pull 8 = .ok (.imul, 1) := by decide +kernel
theorem dX7_pull_9 : decode cX7_pull 9 = .ok (.sipush 10000, 3) := by decide +kernel
theorem dX7_pull_12 : decode cX7_pull 12 = .ok (.iload_n 0, 1) := by decide +kernel
theorem dX7_pull_13 : decode cX7_pull 13 = .ok (.imul, 1) := by decide +kernel
theorem dX7_pull_14 : decode cX7_pull 14 = .ok (.if_icmp .gt 9, 3) := by decide +kernel
theorem dX7_pull_17 : decode cX7_pull 17 = .ok (.iinc 1 1, 3) := by decide +kernel
theorem dX7_pull_20 : decode cX7_pull 20 = .ok (.goto (-18), 3) := by decide +kernel
theorem dX7_pull_23 : decode cX7_pull 23 = .ok (.iload_n 0, 1) := by decide +kernel
theorem dX7_pull_24 : decode cX7_pull 24 = .ok (.i2l, 1) := by decide +kernel
theorem dX7_pull_25 : decode cX7_pull 25 = .ok (.iload_n 1, 1) := by decide +kernel
theorem dX7_pull_26 : decode cX7_pull 26 = .ok (.i2l, 1) := by decide +kernel
theorem dX7_pull_27 : decode cX7_pull 27 = .ok (.lmul, 1) := by decide +kernel
theorem dX7_pull_28 : decode cX7_pull 28 = .ok (.lreturn, 1) := by decide +kernel
set_option maxRecDepth 20000 in
theorem ggX7_pulled_X7_in : GoodIn wsX7_pulled wsX7_in := goodIn_r _ [5] (by decide +kernel) (by decide +kernel)
set_option maxRecDepth 20000 in
theorem gX7_pulled_X7_in : GoodIn wsX7_pulled (va_wsS RX7 65 yX7_in wsX7_in) := goodIn_app (goodIn_of _ (by decide +kernel)) ggX7_pulled_X7_in
set_option maxRecDepth 20000 in
theorem ggX7_pulled_X7_pull : GoodIn wsX7_pulled wsX7_pull := goodIn_r _ [8] (by decide +kernel) (by decide +kernel)
set_option maxRecDepth 20000 in
theorem gX7_pulled_X7_pull : GoodIn wsX7_pulled (va_wsS RX7 139 yX7_pull wsX7_pull) := goodIn_app (goodIn_of _ (by decide +kernel)) ggX7_pulled_X7_pull
theorem dX7_pulled_0 : decode cX7_pulled 0 = .ok (.iload_n 1, 1) := by decide +kernel
theorem dX7_pulled_1 : decode cX7_pulled 1 = .ok (.iconst 0, 1) := by decide +kernel
theorem dX7_pulled_2 : decode cX7_pulled 2 = .ok (.ldc 126, 2) := by decide +kernel
theorem dX7_pulled_4 : decode cX7_pulled 4 = .ok (.invokestatic 65, 3) := by decide +kernel
theorem dX7_pulled_7 : decode cX7_pulled 7 = .ok (.ifCond .eq 23, 3) := by decide +kernel
theorem dX7_pulled_10 : decode cX7_pulled 10 = .ok (.iload_n 2, 1) := by decide +kernel
theorem dX7_pulled_11 : decode cX7_pulled 11 = .ok (.iconst 1, 1) := by decide +kernel
theorem dX7_pulled_12 : decode cX7_pulled 12 = .ok (.bipush 100, 2) := by decide +kernel
theorem dX7_pulled_14 : decode cX7_pulled 14 = .ok (.invokestatic 65, 3) := by decide +kernel
theorem dX7_pulled_17 : decode cX7_pulled 17 = .ok (.ifCond .eq 13, 3) := by decide +kernel
theorem dX7_pulled_20 : decode cX7_pulled 20 = .ok (.iload_n 3, 1) := by decide +kernel
theorem dX7_pulled_21 : decode cX7_pulled 21 = .ok (.iconst 1, 1) := by decide +kernel
theorem dX7_pulled_22 : decode cX7_pulled 22 = .ok (.bipush 100, 2) := by decide +kernel
theorem dX7_pulled_24 : decode cX7_pulled 24 = .ok (.invokestatic 65, 3) := by decide +kernel
theorem dX7_pulled_27 : decode cX7_pulled 27 = .ok (.ifCond .ne 6, 3) := by decide +kernel
theorem dX7_pulled_30 : decode cX7_pulled 30 = .ok (.bipush (-2), 2) := by decide +kernel
theorem dX7_pulled_32 : decode cX7_pulled 32 = .ok (.ireturn, 1) := by decide +kernel
theorem dX7_pulled_33 : decode cX7_pulled 33 = .ok (.iload_n 1, 1) := by decide +kernel
theorem dX7_pulled_34 : decode cX7_pulled 34 = .ok (.i2l, 1) := by decide +kernel
theorem dX7_pulled_35 : decode cX7_pulled 35 = .ok (.iload_n 3, 1) := by decide +kernel
theorem dX7_pulled_36 : decode cX7_pulled 36 = .ok (.invokestatic 139, 3) := by decide +kernel
theorem dX7_pulled_39 : decode cX7_pulled 39 = .ok (.lmul, 1) := by decide +kernel
theorem dX7_pulled_40 : decode cX7_pulled 40 = .ok (.iload_n 2, 1) := by decide +kernel
theorem dX7_pulled_41 : decode cX7_pulled 41 = .ok (.invokestatic 139, 3) := by decide +kernel
theorem dX7_pulled_44 : decode cX7_pulled 44 = .ok (.ldiv, 1) := by decide +kernel
theorem dX7_pulled_45 : decode cX7_pulled 45 = .ok (.l2i, 1) := by decide +kernel
theorem dX7_pulled_46 : decode cX7_pulled 46 = .ok (.ireturn, 1) := by decide +kernel
theorem dX7_count_0 : decode cX7_count 0 = .ok (.iconst 0, 1) := by decide +kernel
theorem dX7_count_1 : decode cX7_count 1 = .ok (.istore_n 2, 1) := by decide +kernel
theorem dX7_count_2 : decode cX7_count 2 = .ok (.iload_n 1, 1) := by decide +kernel
theorem dX7_count_3 : decode cX7_count 3 = .ok (.tableswitch 148 0 5 #[37, 42, 47, 52, 57, 112], 37) := by decide +kernel
theorem dX7_count_40 : decode cX7_count 40 = .ok (.aload_n 0, 1) := by decide +kernel
theorem dX7_count_41 : decode cX7_count 41 = .ok (.getfield 62, 3) := by decide +kernel
theorem dX7_count_44 : decode cX7_count 44 = .ok (.ireturn, 1) := by decide +kernel
theorem dX7_count_45 : decode cX7_count 45 = .ok (.aload_n 0, 1) := by decide +kernel
theorem dX7_count_46 : decode cX7_count 46 = .ok (.getfield 97, 3) := by decide +kernel
theorem dX7_count_49 : decode cX7_count 49 = .ok (.ireturn, 1) := by decide +kernel
theorem dX7_count_50 : decode cX7_count 50 = .ok (.aload_n 0, 1) := by decide +kernel
theorem dX7_count_51 : decode cX7_count 51 = .ok (.getfield 41, 3) := by decide +kernel
theorem dX7_count_54 : decode cX7_count 54 = .ok (.ireturn, 1) := by decide +kernel
theorem dX7_count_55 : decode cX7_count 55 = .ok (.aload_n 0, 1) := by decide +kernel
theorem dX7_count_56 : decode cX7_count 56 = .ok (.getfield 133, 3) := by decide +kernel
theorem dX7_count_59 : decode cX7_count 59 = .ok (.ireturn, 1) := by decide +kernel
theorem dX7_count_60 : decode cX7_count 60 = .ok (.iconst 0, 1) := by decide +kernel
theorem dX7_count_61 : decode cX7_count 61 = .ok (.istore_n 3, 1) := by decide +kernel
theorem dX7_count_62 : decode cX7_count 62 = .ok (.iload_n 3, 1) := by decide +kernel
theorem dX7_count_63 : decode cX7_count 63 = .ok (.bipush 24, 2) := by decide +kernel
theorem dX7_count_65 : decode cX7_count 65 = .ok (.aload_n 0, 1) := by decide +kernel
theorem dX7_count_66 : decode cX7_count 66 = .ok (.getfield 62, 3) := by decide +kernel
theorem dX7_count_69 : decode cX7_count 69 = .ok (.imul, 1) := by decide +kernel
theorem dX7_count_70 : decode cX7_count 70 = .ok (.if_icmp .ge 43, 3) := by decide +kernel
theorem dX7_count_73 : decode cX7_count 73 = .ok (.iload_n 2, 1) := by decide +kernel
theorem dX7_count_74 : decode cX7_count 74 = .ok (.aload_n 0, 1) := by decide +kernel
theorem dX7_count_75 : decode cX7_count 75 = .ok (.getfield 16, 3) := by decide +kernel
theorem dX7_count_78 : decode cX7_count 78 = .ok (.iload_n 3, 1) := by decide +kernel
theorem dX7_count_79 : decode cX7_count 79 = .ok (.iaload, 1) := by decide +kernel
theorem dX7_count_80 : decode cX7_count 80 = .ok (.iconst (-1), 1) := by decide +kernel
theorem dX7_count_81 : decode cX7_count 81 = .ok (.if_icmp .ne 7, 3) := by decide +kernel
theorem dX7_count_84 : decode cX7_count 84 = .ok (.iconst 1, 1) := by decide +kernel
theorem dX7_count_85 : decode cX7_count 85 = .ok (.goto 4, 3) := by decide +kernel
theorem dX7_count_88 : decode cX7_count 88 = .ok (.iconst 0, 1) := by decide +kernel
theorem dX7_count_89 : decode cX7_count 89 = .ok (.aload_n 0, 1) := by decide +kernel
theorem dX7_count_90 : decode cX7_count 90 = .ok (.getfield 19, 3) := by decide +kernel
theorem dX7_count_93 : decode cX7_count 93 = .ok (.iload_n 3, 1) := by decide +kernel
theorem dX7_count_94 : decode cX7_count 94 = .ok (.iaload, 1) := by decide +kernel
theorem dX7_count_95 : decode cX7_count 95 = .ok (.iconst (-1), 1) := by decide +kernel
theorem dX7_count_96 : decode cX7_count 96 = .ok (.if_icmp .ne 7, 3) := by decide +kernel
theorem dX7_count_99 : decode cX7_count 99 = .ok (.iconst 1, 1) := by decide +kernel
theorem dX7_count_100 : decode cX7_count 100 = .ok (.goto 4, 3) := by decide +kernel
theorem dX7_count_103 : decode cX7_count 103 = .ok (.iconst 0, 1) := by decide +kernel
theorem dX7_count_104 : decode cX7_count 104 = .ok (.iadd, 1) := by decide +kernel
theorem dX7_count_105 : decode cX7_count 105 = .ok (.iadd, 1) := by decide +kernel
theorem dX7_count_106 : decode cX7_count 106 = .ok (.istore_n 2, 1) := by decide +kernel
theorem dX7_count_107 : decode cX7_count 107 = .ok (.iinc 3 1, 3) := by decide +kernel
theorem dX7_count_110 : decode cX7_count 110 = .ok (.goto (-48), 3) := by decide +kernel
theorem dX7_count_113 : decode cX7_count 113 = .ok (.iload_n 2, 1) := by decide +kernel
theorem dX7_count_114 : decode cX7_count 114 = .ok (.ireturn, 1) := by decide +kernel
theorem dX7_count_115 : decode cX7_count 115 = .ok (.iconst 0, 1) := by decide +kernel
theorem dX7_count_116 : decode cX7_count 116 = .ok (.istore_n 3, 1) := by decide +kernel
theorem dX7_count_117 : decode cX7_count 117 = .ok (.iload_n 3, 1) := by decide +kernel
theorem dX7_count_118 : decode cX7_count 118 = .ok (.sipush 128, 3) := by decide +kernel
theorem dX7_count_121 : decode cX7_count 121 = .ok (.if_icmp .ge 28, 3) := by decide +kernel
theorem dX7_count_124 : decode cX7_count 124 = .ok (.iload_n 2, 1) := by decide +kernel
theorem dX7_count_125 : decode cX7_count 125 = .ok (.aload_n 0, 1) := by decide +kernel
theorem dX7_count_126 : decode cX7_count 126 = .ok (.getfield 38, 3) := by decide +kernel
theorem dX7_count_129 : decode cX7_count 129 = .ok (.iload_n 3, 1) := by decide +kernel
theorem dX7_count_130 : decode cX7_count 130 = .ok (.iaload, 1) := by decide +kernel
theorem dX7_count_131 : decode cX7_count 131 = .ok (.ldc 92, 2) := by decide +kernel
theorem dX7_count_133 : decode cX7_count 133 = .ok (.if_icmp .ne 7, 3) := by decide +kernel
theorem dX7_count_136 : decode cX7_count 136 = .ok (.iconst 1, 1) := by decide +kernel
theorem dX7_count_137 : decode cX7_count 137 = .ok (.goto 4, 3) := by decide +kernel
theorem dX7_count_140 : decode cX7_count 140 = .ok (.iconst 0, 1) := by decide +kernel
theorem dX7_count_141 : decode cX7_count 141 = .ok (.iadd, 1) := by decide +kernel
theorem dX7_count_142 : decode cX7_count 142 = .ok (.istore_n 2, 1) := by decide +kernel
theorem dX7_count_143 : decode cX7_count 143 = .ok (.iinc 3 1, 3) := by decide +kernel
theorem dX7_count_146 : decode cX7_count 146 = .ok (.goto (-29), 3) := by decide +kernel
theorem dX7_count_149 : decode cX7_count 149 = .ok (.iload_n 2, 1) := by decide +kernel
theorem dX7_count_150 : decode cX7_count 150 = .ok (.ireturn, 1) := by decide +kernel
theorem dX7_count_151 : decode cX7_count 151 = .ok (.bipush (-2), 2) := by decide +kernel
theorem dX7_count_153 : decode cX7_count 153 = .ok (.ireturn, 1) := by decide +kernel
set_option maxRecDepth 20000 in
theorem ggX7_digest_X7_count : GoodIn wsX7_digest wsX7_count := goodIn_r _ [19, 3, 6, 10, 12, 4, 5, 9, 20, 44, 45, 46, 47, 48, 49, 50, 51, 52, 53, 54, 55, 56, 57, 58, 59, 60, 61, 62, 63, 64, 65, 66] (by decide +kernel) (by decide +kernel)
set_option maxRecDepth 20000 in
theorem gX7_digest_X7_count : GoodIn wsX7_digest (wsV RX7 147 RX7 yX7_count wsX7_count) := goodIn_app (goodIn_of _ (by decide +kernel)) ggX7_digest_X7_count
set_option maxRecDepth 20000 in
theorem ggX7_digest_X7_leaksOf : GoodIn wsX7_digest wsX7_leaksOf := goodIn_r _ [24, 20, 25, 26, 27, 28, 29, 30, 31, 32, 18, 33, 34, 4, 5, 35, 36, 37, 38, 39, 40, 41, 42, 43, 44, 45, 46, 47, 48, 49, 50, 51, 52, 53, 54, 55, 56, 57, 58, 59, 60, 61, 62, 63, 64, 65, 66] (by decide +kernel) (by decide +kernel)
set_option maxRecDepth 20000 in
theorem gX7_digest_X7_leaksOf : GoodIn wsX7_digest (wsV RX7 93 RX7 yX7_leaksOf wsX7_leaksOf) := goodIn_app (goodIn_of _ (by decide +kernel)) ggX7_digest_X7_leaksOf
theorem dX7_digest_0 : decode cX7_digest 0 = .ok (.ldc2_w 143, 3) := by decide +kernel
theorem dX7_digest_3 : decode cX7_digest 3 = .ok (.lstore_n 1, 1) := by decide +kernel
theorem dX7_digest_4 : decode cX7_digest 4 = .ok (.iconst 0, 1) := by decide +kernel
theorem dX7_digest_5 : decode cX7_digest 5 = .ok (.istore_n 3, 1) := by decide +kernel
theorem dX7_digest_6 : decode cX7_digest 6 = .ok (.iload_n 3, 1) := by decide +kernel
theorem dX7_digest_7 : decode cX7_digest 7 = .ok (.bipush 6, 2) := by decide +kernel
theorem dX7_digest_9 : decode cX7_digest 9 = .ok (.if_icmp .ge 22, 3) := by decide +kernel
theorem dX7_digest_12 : decode cX7_digest 12 = .ok (.ldc2_w 145, 3) := by decide +kernel
theorem dX7_digest_15 : decode cX7_digest 15 = .ok (.lload_n 1, 1) := by decide +kernel
theorem dX7_digest_16 : decode cX7_digest 16 = .ok (.lmul, 1) := by decide +kernel
theorem dX7_digest_17 : decode cX7_digest 17 = .ok (.aload_n 0, 1) := by decide +kernel
theorem dX7_digest_18 : decode cX7_digest 18 = .ok (.iload_n 3, 1) := by decide +kernel
theorem dX7_digest_19 : decode cX7_digest 19 = .ok (.invokevirtual 147, 3) := by decide +kernel
theorem dX7_digest_22 : decode cX7_digest 22 = .ok (.i2l, 1) := by decide +kernel
theorem dX7_digest_23 : decode cX7_digest 23 = .ok (.ladd, 1) := by decide +kernel
theorem dX7_digest_24 : decode cX7_digest 24 = .ok (.lstore_n 1, 1) := by decide +kernel
theorem dX7_digest_25 : decode cX7_digest 25 = .ok (.iinc 3 1, 3) := by decide +kernel
theorem dX7_digest_28 : decode cX7_digest 28 = .ok (.goto (-22), 3) := by decide +kernel
theorem dX7_digest_31 : decode cX7_digest 31 = .ok (.iconst 0, 1) := by decide +kernel
theorem dX7_digest_32 : decode cX7_digest 32 = .ok (.istore_n 3, 1) := by decide +kernel
theorem dX7_digest_33 : decode cX7_digest 33 = .ok (.iload_n 3, 1) := by decide +kernel
theorem dX7_digest_34 : decode cX7_digest 34 = .ok (.aload_n 0, 1) := by decide +kernel
theorem dX7_digest_35 : decode cX7_digest 35 = .ok (.getfield 62, 3) := by decide +kernel
theorem dX7_digest_38 : decode cX7_digest 38 = .ok (.if_icmp .ge 87, 3) := by decide +kernel
theorem dX7_digest_41 : decode cX7_digest 41 = .ok (.ldc2_w 145, 3) := by decide +kernel
theorem dX7_digest_44 : decode cX7_digest 44 = .ok (.ldc2_w 145, 3) := by decide +kernel
theorem dX7_digest_47 : decode cX7_digest 47 = .ok (.lload_n 1, 1) := by decide +kernel
theorem dX7_digest_48 : decode cX7_digest 48 = .ok (.lmul, 1) := by decide +kernel
theorem dX7_digest_49 : decode cX7_digest 49 = .ok (.aload_n 0, 1) := by decide +kernel
theorem dX7_digest_50 : decode cX7_digest 50 = .ok (.iload_n 3, 1) := by decide +kernel
theorem dX7_digest_51 : decode cX7_digest 51 = .ok (.iconst 0, 1) := by decide +kernel
theorem dX7_digest_52 : decode cX7_digest 52 = .ok (.invokevirtual 93, 3) := by decide +kernel
theorem dX7_digest_55 : decode cX7_digest 55 = .ok (.i2l, 1) := by decide +kernel
theorem dX7_digest_56 : decode cX7_digest 56 = .ok (.ladd, 1) := by decide +kernel
theorem dX7_digest_57 : decode cX7_digest 57 = .ok (.lmul, 1) := by decide +kernel
theorem dX7_digest_58 : decode cX7_digest 58 = .ok (.aload_n 0, 1) := by decide +kernel
theorem dX7_digest_59 : decode cX7_digest 59 = .ok (.iload_n 3, 1) := by decide +kernel
theorem dX7_digest_60 : decode cX7_digest 60 = .ok (.iconst 1, 1) := by decide +kernel
theorem dX7_digest_61 : decode cX7_digest 61 = .ok (.invokevirtual 93, 3) := by decide +kernel
theorem dX7_digest_64 : decode cX7_digest 64 = .ok (.i2l, 1) := by decide +kernel
theorem dX7_digest_65 : decode cX7_digest 65 = .ok (.ladd, 1) := by decide +kernel
theorem dX7_digest_66 : decode cX7_digest 66 = .ok (.lstore_n 1, 1) := by decide +kernel
theorem dX7_digest_67 : decode cX7_digest 67 = .ok (.bipush 24, 2) := by decide +kernel
theorem dX7_digest_69 : decode cX7_digest 69 = .ok (.iload_n 3, 1) := by decide +kernel
theorem dX7_digest_70 : decode cX7_digest 70 = .ok (.imul, 1) := by decide +kernel
theorem dX7_digest_71 : decode cX7_digest 71 = .ok (.istore 4, 2) := by decide +kernel
theorem dX7_digest_73 : decode cX7_digest 73 = .ok (.iload 4, 2) := by decide +kernel
theorem dX7_digest_75 : decode cX7_digest 75 = .ok (.bipush 24, 2) := by decide +kernel
theorem dX7_digest_77 : decode cX7_digest 77 = .ok (.iload_n 3, 1) := by decide +kernel
theorem dX7_digest_78 : decode cX7_digest 78 = .ok (.imul, 1) := by decide +kernel
theorem dX7_digest_79 : decode cX7_digest 79 = .ok (.bipush 24, 2) := by decide +kernel
theorem dX7_digest_81 : decode cX7_digest 81 = .ok (.iadd, 1) := by decide +kernel
theorem dX7_digest_82 : decode cX7_digest 82 = .ok (.if_icmp .ge 37, 3) := by decide +kernel
theorem dX7_digest_85 : decode cX7_digest 85 = .ok (.ldc2_w 145, 3) := by decide +kernel
theorem dX7_digest_88 : decode cX7_digest 88 = .ok (.ldc2_w 145, 3) := by decide +kernel
theorem dX7_digest_91 : decode cX7_digest 91 = .ok (.lload_n 1, 1) := by decide +kernel
theorem dX7_digest_92 : decode cX7_digest 92 = .ok (.lmul, 1) := by decide +kernel
theorem dX7_digest_93 : decode cX7_digest 93 = .ok (.aload_n 0, 1) := by decide +kernel
theorem dX7_digest_94 : decode cX7_digest 94 = .ok (.getfield 16, 3) := by decide +kernel
theorem dX7_digest_97 : decode cX7_digest 97 = .ok (.iload 4, 2) := by decide +kernel
theorem dX7_digest_99 : decode cX7_digest 99 = .ok (.iaload, 1) := by decide +kernel
theorem dX7_digest_100 : decode cX7_digest 100 = .ok (.i2l, 1) := by decide +kernel
theorem dX7_digest_101 : decode cX7_digest 101 = .ok (.ladd, 1) := by decide +kernel
theorem dX7_digest_102 : decode cX7_digest 102 = .ok (.lmul, 1) := by decide +kernel
theorem dX7_digest_103 : decode cX7_digest 103 = .ok (.aload_n 0, 1) := by decide +kernel
theorem dX7_digest_104 : decode cX7_digest 104 = .ok (.getfield 19, 3) := by decide +kernel
theorem dX7_digest_107 : decode cX7_digest 107 = .ok (.iload 4, 2) := by decide +kernel
theorem dX7_digest_109 : decode cX7_digest 109 = .ok (.iaload, 1) := by decide +kernel
theorem dX7_digest_110 : decode cX7_digest 110 = .ok (.i2l, 1) := by decide +kernel
theorem dX7_digest_111 : decode cX7_digest 111 = .ok (.ladd, 1) := by decide +kernel
theorem dX7_digest_112 : decode cX7_digest 112 = .ok (.lstore_n 1, 1) := by decide +kernel
theorem dX7_digest_113 : decode cX7_digest 113 = .ok (.iinc 4 1, 3) := by decide +kernel
theorem dX7_digest_116 : decode cX7_digest 116 = .ok (.goto (-43), 3) := by decide +kernel
theorem dX7_digest_119 : decode cX7_digest 119 = .ok (.iinc 3 1, 3) := by decide +kernel
theorem dX7_digest_122 : decode cX7_digest 122 = .ok (.goto (-89), 3) := by decide +kernel
theorem dX7_digest_125 : decode cX7_digest 125 = .ok (.iconst 0, 1) := by decide +kernel
theorem dX7_digest_126 : decode cX7_digest 126 = .ok (.istore_n 3, 1) := by decide +kernel
theorem dX7_digest_127 : decode cX7_digest 127 = .ok (.iload_n 3, 1) := by decide +kernel
theorem dX7_digest_128 : decode cX7_digest 128 = .ok (.aload_n 0, 1) := by decide +kernel
theorem dX7_digest_129 : decode cX7_digest 129 = .ok (.getfield 97, 3) := by decide +kernel
theorem dX7_digest_132 : decode cX7_digest 132 = .ok (.if_icmp .ge 35, 3) := by decide +kernel
theorem dX7_digest_135 : decode cX7_digest 135 = .ok (.ldc2_w 145, 3) := by decide +kernel
theorem dX7_digest_138 : decode cX7_digest 138 = .ok (.ldc2_w 145, 3) := by decide +kernel
theorem dX7_digest_141 : decode cX7_digest 141 = .ok (.lload_n 1, 1) := by decide +kernel
theorem dX7_digest_142 : decode cX7_digest 142 = .ok (.lmul, 1) := by decide +kernel
theorem dX7_digest_143 : decode cX7_digest 143 = .ok (.aload_n 0, 1) := by decide +kernel
theorem dX7_digest_144 : decode cX7_digest 144 = .ok (.getfield 29, 3) := by decide +kernel
theorem dX7_digest_147 : decode cX7_digest 147 = .ok (.iload_n 3, 1) := by decide +kernel
theorem dX7_digest_148 : decode cX7_digest 148 = .ok (.iaload, 1) := by decide +kernel
theorem dX7_digest_149 : decode cX7_digest 149 = .ok (.i2l, 1) := by decide +kernel
theorem dX7_digest_150 : decode cX7_digest 150 = .ok (.ladd, 1) := by decide +kernel
theorem dX7_digest_151 : decode cX7_digest 151 = .ok (.lmul, 1) := by decide +kernel
theorem dX7_digest_152 : decode cX7_digest 152 = .ok (.aload_n 0, 1) := by decide +kernel
theorem dX7_digest_153 : decode cX7_digest 153 = .ok (.getfield 32, 3) := by decide +kernel
theorem dX7_digest_156 : decode cX7_digest 156 = .ok (.iload_n 3, 1) := by decide +kernel
theorem dX7_digest_157 : decode cX7_digest 157 = .ok (.iaload, 1) := by decide +kernel
theorem dX7_digest_158 : decode cX7_digest 158 = .ok (.i2l, 1) := by decide +kernel
theorem dX7_digest_159 : decode cX7_digest 159 = .ok (.ladd, 1) := by decide +kernel
theorem dX7_digest_160 : decode cX7_digest 160 = .ok (.lstore_n 1, 1) := by decide +kernel
theorem dX7_digest_161 : decode cX7_digest 161 = .ok (.iinc 3 1, 3) := by decide +kernel
theorem dX7_digest_164 : decode cX7_digest 164 = .ok (.goto (-37), 3) := by decide +kernel
theorem dX7_digest_167 : decode cX7_digest 167 = .ok (.iconst 0, 1) := by decide +kernel
theorem dX7_digest_168 : decode cX7_digest 168 = .ok (.istore_n 3, 1) := by decide +kernel
theorem dX7_digest_169 : decode cX7_digest 169 = .ok (.iload_n 3, 1) := by decide +kernel
theorem dX7_digest_170 : decode cX7_digest 170 = .ok (.sipush 128, 3) := by decide +kernel
theorem dX7_digest_173 : decode cX7_digest 173 = .ok (.if_icmp .ge 23, 3) := by decide +kernel
theorem dX7_digest_176 : decode cX7_digest 176 = .ok (.ldc2_w 145, 3) := by decide +kernel
theorem dX7_digest_179 : decode cX7_digest 179 = .ok (.lload_n 1, 1) := by decide +kernel
theorem dX7_digest_180 : decode cX7_digest 180 = .ok (.lmul, 1) := by decide +kernel
theorem dX7_digest_181 : decode cX7_digest 181 = .ok (.aload_n 0, 1) := by decide +kernel
theorem dX7_digest_182 : decode cX7_digest 182 = .ok (.getfield 38, 3) := by decide +kernel
theorem dX7_digest_185 : decode cX7_digest 185 = .ok (.iload_n 3, 1) := by decide +kernel
theorem dX7_digest_186 : decode cX7_digest 186 = .ok (.iaload, 1) := by decide +kernel
theorem dX7_digest_187 : decode cX7_digest 187 = .ok (.i2l, 1) := by decide +kernel
theorem dX7_digest_188 : decode cX7_digest 188 = .ok (.ladd, 1) := by decide +kernel
theorem dX7_digest_189 : decode cX7_digest 189 = .ok (.lstore_n 1, 1) := by decide +kernel
theorem dX7_digest_190 : decode cX7_digest 190 = .ok (.iinc 3 1, 3) := by decide +kernel
theorem dX7_digest_193 : decode cX7_digest 193 = .ok (.goto (-24), 3) := by decide +kernel
theorem dX7_digest_196 : decode cX7_digest 196 = .ok (.iconst 0, 1) := by decide +kernel
theorem dX7_digest_197 : decode cX7_digest 197 = .ok (.istore_n 3, 1) := by decide +kernel
theorem dX7_digest_198 : decode cX7_digest 198 = .ok (.iload_n 3, 1) := by decide +kernel
theorem dX7_digest_199 : decode cX7_digest 199 = .ok (.aload_n 0, 1) := by decide +kernel
theorem dX7_digest_200 : decode cX7_digest 200 = .ok (.getfield 41, 3) := by decide +kernel
theorem dX7_digest_203 : decode cX7_digest 203 = .ok (.if_icmp .ge 23, 3) := by decide +kernel
theorem dX7_digest_206 : decode cX7_digest 206 = .ok (.ldc2_w 145, 3) := by decide +kernel
theorem dX7_digest_209 : decode cX7_digest 209 = .ok (.lload_n 1, 1) := by decide +kernel
theorem dX7_digest_210 : decode cX7_digest 210 = .ok (.lmul, 1) := by decide +kernel
theorem dX7_digest_211 : decode cX7_digest 211 = .ok (.aload_n 0, 1) := by decide +kernel
theorem dX7_digest_212 : decode cX7_digest 212 = .ok (.getfield 44, 3) := by decide +kernel
theorem dX7_digest_215 : decode cX7_digest 215 = .ok (.iload_n 3, 1) := by decide +kernel
theorem dX7_digest_216 : decode cX7_digest 216 = .ok (.iaload, 1) := by decide +kernel
theorem dX7_digest_217 : decode cX7_digest 217 = .ok (.i2l, 1) := by decide +kernel
theorem dX7_digest_218 : decode cX7_digest 218 = .ok (.ladd, 1) := by decide +kernel
theorem dX7_digest_219 : decode cX7_digest 219 = .ok (.lstore_n 1, 1) := by decide +kernel
theorem dX7_digest_220 : decode cX7_digest 220 = .ok (.iinc 3 1, 3) := by decide +kernel
theorem dX7_digest_223 : decode cX7_digest 223 = .ok (.goto (-25), 3) := by decide +kernel
theorem dX7_digest_226 : decode cX7_digest 226 = .ok (.iconst 0, 1) := by decide +kernel
theorem dX7_digest_227 : decode cX7_digest 227 = .ok (.istore_n 3, 1) := by decide +kernel
theorem dX7_digest_228 : decode cX7_digest 228 = .ok (.iload_n 3, 1) := by decide +kernel
theorem dX7_digest_229 : decode cX7_digest 229 = .ok (.aload_n 0, 1) := by decide +kernel
theorem dX7_digest_230 : decode cX7_digest 230 = .ok (.getfield 133, 3) := by decide +kernel
theorem dX7_digest_233 : decode cX7_digest 233 = .ok (.if_icmp .ge 35, 3) := by decide +kernel
theorem dX7_digest_236 : decode cX7_digest 236 = .ok (.ldc2_w 145, 3) := by decide +kernel
theorem dX7_digest_239 : decode cX7_digest 239 = .ok (.ldc2_w 145, 3) := by decide +kernel
theorem dX7_digest_242 : decode cX7_digest 242 = .ok (.lload_n 1, 1) := by decide +kernel
theorem dX7_digest_243 : decode cX7_digest 243 = .ok (.lmul, 1) := by decide +kernel
theorem dX7_digest_244 : decode cX7_digest 244 = .ok (.aload_n 0, 1) := by decide +kernel
theorem dX7_digest_245 : decode cX7_digest 245 = .ok (.getfield 53, 3) := by decide +kernel
theorem dX7_digest_248 : decode cX7_digest 248 = .ok (.iload_n 3, 1) := by decide +kernel
theorem dX7_digest_249 : decode cX7_digest 249 = .ok (.iaload, 1) := by decide +kernel
theorem dX7_digest_250 : decode cX7_digest 250 = .ok (.i2l, 1) := by decide +kernel
theorem dX7_digest_251 : decode cX7_digest 251 = .ok (.ladd, 1) := by decide +kernel
theorem dX7_digest_252 : decode cX7_digest 252 = .ok (.lmul, 1) := by decide +kernel
theorem dX7_digest_253 : decode cX7_digest 253 = .ok (.aload_n 0, 1) := by decide +kernel
theorem dX7_digest_254 : decode cX7_digest 254 = .ok (.getfield 56, 3) := by decide +kernel
theorem dX7_digest_257 : decode cX7_digest 257 = .ok (.iload_n 3, 1) := by decide +kernel
theorem dX7_digest_258 : decode cX7_digest 258 = .ok (.iaload, 1) := by decide +kernel
theorem dX7_digest_259 : decode cX7_digest 259 = .ok (.i2l, 1) := by decide +kernel
theorem dX7_digest_260 : decode cX7_digest 260 = .ok (.ladd, 1) := by decide +kernel
theorem dX7_digest_261 : decode cX7_digest 261 = .ok (.lstore_n 1, 1) := by decide +kernel
theorem dX7_digest_262 : decode cX7_digest 262 = .ok (.iinc 3 1, 3) := by decide +kernel
theorem dX7_digest_265 : decode cX7_digest 265 = .ok (.goto (-37), 3) := by decide +kernel
theorem dX7_digest_268 : decode cX7_digest 268 = .ok (.lload_n 1, 1) := by decide +kernel
theorem dX7_digest_269 : decode cX7_digest 269 = .ok (.lreturn, 1) := by decide +kernel
theorem dJ6_bitCount_0f7a4_0 : decode cJ6_bitCount_0f7a4 0 = .ok (.iload_n 0, 1) := by decide +kernel
theorem dJ6_bitCount_0f7a4_1 : decode cJ6_bitCount_0f7a4 1 = .ok (.iload_n 0, 1) := by decide +kernel
theorem dJ6_bitCount_0f7a4_2 : decode cJ6_bitCount_0f7a4 2 = .ok (.iconst 1, 1) := by decide +kernel
theorem dJ6_bitCount_0f7a4_3 : decode cJ6_bitCount_0f7a4 3 = .ok (.iushr, 1) := by decide +kernel
theorem dJ6_bitCount_0f7a4_4 : decode cJ6_bitCount_0f7a4 4 = .ok (.ldc_w 265, 3) := by decide +kernel
theorem dJ6_bitCount_0f7a4_7 : decode cJ6_bitCount_0f7a4 7 = .ok (.iand, 1) := by decide +kernel
theorem dJ6_bitCount_0f7a4_8 : decode cJ6_bitCount_0f7a4 8 = .ok (.isub, 1) := by decide +kernel
theorem dJ6_bitCount_0f7a4_9 : decode cJ6_bitCount_0f7a4 9 = .ok (.istore_n 0, 1) := by decide +kernel
theorem dJ6_bitCount_0f7a4_10 : decode cJ6_bitCount_0f7a4 10 = .ok (.iload_n 0, 1) := by decide +kernel
theorem dJ6_bitCount_0f7a4_11 : decode cJ6_bitCount_0f7a4 11 = .ok (.ldc_w 266, 3) := by decide +kernel
theorem dJ6_bitCount_0f7a4_14 : decode cJ6_bitCount_0f7a4 14 = .ok (.iand, 1) := by decide +kernel
theorem dJ6_bitCount_0f7a4_15 : decode cJ6_bitCount_0f7a4 15 = .ok (.iload_n 0, 1) := by decide +kernel
theorem dJ6_bitCount_0f7a4_16 : decode cJ6_bitCount_0f7a4 16 = .ok (.iconst 2, 1) := by decide +kernel
theorem dJ6_bitCount_0f7a4_17 : decode cJ6_bitCount_0f7a4 17 = .ok (.iushr, 1) := by decide +kernel
theorem dJ6_bitCount_0f7a4_18 : decode cJ6_bitCount_0f7a4 18 = .ok (.ldc_w 266, 3) := by decide +kernel
theorem dJ6_bitCount_0f7a4_21 : decode cJ6_bitCount_0f7a4 21 = .ok (.iand, 1) := by decide +kernel
theorem dJ6_bitCount_0f7a4_22 : decode cJ6_bitCount_0f7a4 22 = .ok (.iadd, 1) := by decide +kernel
theorem dJ6_bitCount_0f7a4_23 : decode cJ6_bitCount_0f7a4 23 = .ok (.istore_n 0, 1) := by decide +kernel
theorem dJ6_bitCount_0f7a4_24 : decode cJ6_bitCount_0f7a4 24 = .ok (.iload_n 0, 1) := by decide +kernel
theorem dJ6_bitCount_0f7a4_25 : decode cJ6_bitCount_0f7a4 25 = .ok (.iload_n 0, 1) := by decide +kernel
theorem dJ6_bitCount_0f7a4_26 : decode cJ6_bitCount_0f7a4 26 = .ok (.iconst 4, 1) := by decide +kernel
theorem dJ6_bitCount_0f7a4_27 : decode cJ6_bitCount_0f7a4 27 = .ok (.iushr, 1) := by decide +kernel
theorem dJ6_bitCount_0f7a4_28 : decode cJ6_bitCount_0f7a4 28 = .ok (.iadd, 1) := by decide +kernel
theorem dJ6_bitCount_0f7a4_29 : decode cJ6_bitCount_0f7a4 29 = .ok (.ldc_w 267, 3) := by decide +kernel
theorem dJ6_bitCount_0f7a4_32 : decode cJ6_bitCount_0f7a4 32 = .ok (.iand, 1) := by decide +kernel
theorem dJ6_bitCount_0f7a4_33 : decode cJ6_bitCount_0f7a4 33 = .ok (.istore_n 0, 1) := by decide +kernel
theorem dJ6_bitCount_0f7a4_34 : decode cJ6_bitCount_0f7a4 34 = .ok (.iload_n 0, 1) := by decide +kernel
theorem dJ6_bitCount_0f7a4_35 : decode cJ6_bitCount_0f7a4 35 = .ok (.iload_n 0, 1) := by decide +kernel
theorem dJ6_bitCount_0f7a4_36 : decode cJ6_bitCount_0f7a4 36 = .ok (.bipush 8, 2) := by decide +kernel
theorem dJ6_bitCount_0f7a4_38 : decode cJ6_bitCount_0f7a4 38 = .ok (.iushr, 1) := by decide +kernel
theorem dJ6_bitCount_0f7a4_39 : decode cJ6_bitCount_0f7a4 39 = .ok (.iadd, 1) := by decide +kernel
theorem dJ6_bitCount_0f7a4_40 : decode cJ6_bitCount_0f7a4 40 = .ok (.istore_n 0, 1) := by decide +kernel
theorem dJ6_bitCount_0f7a4_41 : decode cJ6_bitCount_0f7a4 41 = .ok (.iload_n 0, 1) := by decide +kernel
theorem dJ6_bitCount_0f7a4_42 : decode cJ6_bitCount_0f7a4 42 = .ok (.iload_n 0, 1) := by decide +kernel
theorem dJ6_bitCount_0f7a4_43 : decode cJ6_bitCount_0f7a4 43 = .ok (.bipush 16, 2) := by decide +kernel
theorem dJ6_bitCount_0f7a4_45 : decode cJ6_bitCount_0f7a4 45 = .ok (.iushr, 1) := by decide +kernel
theorem dJ6_bitCount_0f7a4_46 : decode cJ6_bitCount_0f7a4 46 = .ok (.iadd, 1) := by decide +kernel
theorem dJ6_bitCount_0f7a4_47 : decode cJ6_bitCount_0f7a4 47 = .ok (.istore_n 0, 1) := by decide +kernel
theorem dJ6_bitCount_0f7a4_48 : decode cJ6_bitCount_0f7a4 48 = .ok (.iload_n 0, 1) := by decide +kernel
theorem dJ6_bitCount_0f7a4_49 : decode cJ6_bitCount_0f7a4 49 = .ok (.bipush 63, 2) := by decide +kernel
theorem dJ6_bitCount_0f7a4_51 : decode cJ6_bitCount_0f7a4 51 = .ok (.iand, 1) := by decide +kernel
theorem dJ6_bitCount_0f7a4_52 : decode cJ6_bitCount_0f7a4 52 = .ok (.ireturn, 1) := by decide +kernel
theorem dJ9_abs_0f7a4_0 : decode cJ9_abs_0f7a4 0 = .ok (.iload_n 0, 1) := by decide +kernel
theorem dJ9_abs_0f7a4_1 : decode cJ9_abs_0f7a4 1 = .ok (.ifCond .ge 8, 3) := by decide +kernel
theorem dJ9_abs_0f7a4_4 : decode cJ9_abs_0f7a4 4 = .ok (.iload_n 0, 1) := by decide +kernel
theorem dJ9_abs_0f7a4_5 : decode cJ9_abs_0f7a4 5 = .ok (.ineg, 1) := by decide +kernel
theorem dJ9_abs_0f7a4_6 : decode cJ9_abs_0f7a4 6 = .ok (.goto 4, 3) := by decide +kernel
theorem dJ9_abs_0f7a4_9 : decode cJ9_abs_0f7a4 9 = .ok (.iload_n 0, 1) := by decide +kernel
theorem dJ9_abs_0f7a4_10 : decode cJ9_abs_0f7a4 10 = .ok (.ireturn, 1) := by decide +kernel
theorem dJ9_max_7cf53_0 : decode cJ9_max_7cf53 0 = .ok (.iload_n 0, 1) := by decide +kernel
theorem dJ9_max_7cf53_1 : decode cJ9_max_7cf53 1 = .ok (.iload_n 1, 1) := by decide +kernel
theorem dJ9_max_7cf53_2 : decode cJ9_max_7cf53 2 = .ok (.if_icmp .lt 7, 3) := by decide +kernel
theorem dJ9_max_7cf53_5 : decode cJ9_max_7cf53 5 = .ok (.iload_n 0, 1) := by decide +kernel
theorem dJ9_max_7cf53_6 : decode cJ9_max_7cf53 6 = .ok (.goto 4, 3) := by decide +kernel
theorem dJ9_max_7cf53_9 : decode cJ9_max_7cf53 9 = .ok (.iload_n 1, 1) := by decide +kernel
theorem dJ9_max_7cf53_10 : decode cJ9_max_7cf53 10 = .ok (.ireturn, 1) := by decide +kernel
theorem dJ9_min_7cf53_0 : decode cJ9_min_7cf53 0 = .ok (.iload_n 0, 1) := by decide +kernel
theorem dJ9_min_7cf53_1 : decode cJ9_min_7cf53 1 = .ok (.iload_n 1, 1) := by decide +kernel
theorem dJ9_min_7cf53_2 : decode cJ9_min_7cf53 2 = .ok (.if_icmp .gt 7, 3) := by decide +kernel
theorem dJ9_min_7cf53_5 : decode cJ9_min_7cf53 5 = .ok (.iload_n 0, 1) := by decide +kernel
theorem dJ9_min_7cf53_6 : decode cJ9_min_7cf53 6 = .ok (.goto 4, 3) := by decide +kernel
theorem dJ9_min_7cf53_9 : decode cJ9_min_7cf53 9 = .ok (.iload_n 1, 1) := by decide +kernel
theorem dJ9_min_7cf53_10 : decode cJ9_min_7cf53 10 = .ok (.ireturn, 1) := by decide +kernel
set_option maxRecDepth 20000 in
theorem ggL_law_X6_init : GoodIn wsL_law wsX6_init := goodIn_r _ [8, 9, 10, 11, 12, 13, 14, 15, 16, 17, 18, 19, 20, 21, 22, 23, 24, 25, 26, 27, 28, 29, 30, 31, 32, 33, 34, 35, 36, 37, 38, 39, 40, 41, 42, 43, 44, 45, 46, 47, 48, 49, 50, 51, 52, 53, 54, 55, 56, 57, 58, 59, 60, 61, 62, 63, 64, 65, 66, 67, 68, 69, 70, 71, 72, 73, 74, 75, 76, 77, 78, 79, 80, 81, 82, 83, 84, 85, 86, 87, 88, 89, 677, 678, 679, 680, 681, 682, 683, 649, 650, 651, 652, 653, 684, 685, 686, 687, 688, 689, 690, 691, 692, 693, 694, 695, 696, 697, 698, 699, 700] (by decide +kernel) (by decide +kernel)
set_option maxRecDepth 20000 in
theorem gL_law_X6_init : GoodIn wsL_law (wsX6_init) := ggL_law_X6_init
set_option maxRecDepth 20000 in
theorem ggL_law_X7_init : GoodIn wsL_law wsX7_init := goodIn_r _ [92, 93, 10, 11, 35, 94, 95, 96, 97, 98, 99, 100, 101, 102, 103, 104, 105, 106, 107, 108, 109, 110, 654, 655, 656, 657, 658, 659, 660, 661, 662, 663, 664, 665, 666, 667, 668, 669, 670, 671, 672, 673, 674, 675, 676] (by decide +kernel) (by decide +kernel)
set_option maxRecDepth 20000 in
theorem gL_law_X7_init : GoodIn wsL_law (wsX7_init) := ggL_law_X7_init
set_option maxRecDepth 20000 in
theorem ggL_law_X6_zone : GoodIn wsL_law wsX6_zone := goodIn_r _ [114, 15, 115, 116, 117, 14, 118, 41, 36, 37, 119, 2, 120, 649, 650, 651, 652, 653, 677, 678, 679, 680, 681, 682, 683] (by decide +kernel) (by decide +kernel)
set_option maxRecDepth 20000 in
theorem gL_law_X6_zone : GoodIn wsL_law (wsV RL 13 RX6 yX6_zone wsX6_zone) := goodIn_app (goodIn_of _ (by decide +kernel)) ggL_law_X6_zone
set_option maxRecDepth 20000 in
theorem ggL_law_X7_zone : GoodIn wsL_law wsX7_zone := goodIn_r _ [124, 125, 94, 95, 126, 127, 5, 128, 654, 655, 656, 657, 658, 659, 660, 661, 662, 663, 664, 665, 666, 667, 668, 669, 670, 671, 672, 673, 674, 675, 676] (by decide +kernel) (by decide +kernel)
set_option maxRecDepth 20000 in
theorem gL_law_X7_zone : GoodIn wsL_law (wsV RL 17 RX7 yX7_zone wsX7_zone) := goodIn_app (goodIn_of _ (by decide +kernel)) ggL_law_X7_zone
set_option maxRecDepth 20000 in
theorem ggL_law_X6_rules : GoodIn wsL_law wsX6_rules := goodIn_r _ [132, 15, 133, 134, 135, 14, 136, 42, 43, 119, 2, 120, 649, 650, 651, 652, 653, 677, 678, 679, 680, 681, 682, 683] (by decide +kernel) (by decide +kernel)
set_option maxRecDepth 20000 in
theorem gL_law_X6_rules : GoodIn wsL_law (wsV RL 18 RX6 yX6_rules wsX6_rules) := goodIn_app (goodIn_of _ (by decide +kernel)) ggL_law_X6_rules
set_option maxRecDepth 20000 in
theorem ggL_law_X7_rules : GoodIn wsL_law wsX7_rules := goodIn_r _ [140, 98, 99, 126, 127, 5, 128, 654, 655, 656, 657, 658, 659, 660, 661, 662, 663, 664, 665, 666, 667, 668, 669, 670, 671, 672, 673, 674, 675, 676] (by decide +kernel) (by decide +kernel)
set_option maxRecDepth 20000 in
theorem gL_law_X7_rules : GoodIn wsL_law (wsV RL 21 RX7 yX7_rules wsX7_rules) := goodIn_app (goodIn_of _ (by decide +kernel)) ggL_law_X7_rules
set_option maxRecDepth 20000 in
theorem ggL_law_X6_read : GoodIn wsL_law wsX6_read := goodIn_r _ [144, 15, 145, 146, 147, 14, 148, 39, 40, 149, 150, 151, 152, 41, 119, 2, 120, 649, 650, 651, 652, 653, 677, 678, 679, 680, 681, 682, 683] (by decide +kernel) (by decide +kernel)
set_option maxRecDepth 20000 in
theorem gL_law_X6_read : GoodIn wsL_law (wsV RL 22 RX6 yX6_read wsX6_read) := goodIn_app (goodIn_of _ (by decide +kernel)) ggL_law_X6_read
set_option maxRecDepth 20000 in
theorem ggL_law_X7_read : GoodIn wsL_law wsX7_read := goodIn_r _ [156, 96, 97, 157, 158, 159, 5, 160, 125, 126, 127, 128, 654, 655, 656, 657, 658, 659, 660, 661, 662, 663, 664, 665, 666, 667, 668, 669, 670, 671, 672, 673, 674, 675, 676] (by decide +kernel) (by decide +kernel)
set_option maxRecDepth 20000 in
theorem gL_law_X7_read : GoodIn wsL_law (wsV RL 26 RX7 yX7_read wsX7_read) := goodIn_app (goodIn_of _ (by decide +kernel)) ggL_law_X7_read
set_option maxRecDepth 20000 in
theorem ggL_law_X6_low : GoodIn wsL_law wsX6_low := goodIn_r _ [164, 15, 165, 166, 167, 14, 168, 169, 149, 150, 151, 152, 41, 119, 2, 120, 170, 171, 172, 173, 39, 40, 174, 175, 176, 177, 178, 179, 180, 181, 42, 182, 183, 184, 185, 186, 187, 188, 189, 649, 650, 651, 652, 653, 677, 678, 679, 680, 681, 682, 683] (by decide +kernel) (by decide +kernel)
set_option maxRecDepth 20000 in
theorem gL_law_X6_low : GoodIn wsL_law (wsV RL 27 RX6 yX6_low wsX6_low) := goodIn_app (goodIn_of _ (by decide +kernel)) ggL_law_X6_low
set_option maxRecDepth 20000 in
theorem ggL_law_X7_low : GoodIn wsL_law wsX7_low := goodIn_r _ [193, 194, 195, 196, 197, 157, 158, 159, 5, 160, 125, 126, 127, 128, 198, 199, 200, 201, 96, 97, 202, 203, 204, 205, 98, 206, 207, 208, 209, 654, 655, 656, 657, 658, 659, 660, 661, 662, 663, 664, 665, 666, 667, 668, 669, 670, 671, 672, 673, 674, 675, 676] (by decide +kernel) (by decide +kernel)
set_option maxRecDepth 20000 in
theorem gL_law_X7_low : GoodIn wsL_law (wsV RL 30 RX7 yX7_low wsX7_low) := goodIn_app (goodIn_of _ (by decide +kernel)) ggL_law_X7_low
set_option maxRecDepth 20000 in
theorem ggL_law_X6_leaks : GoodIn wsL_law wsX6_leaks := goodIn_r _ [213, 15, 214, 215, 216, 14, 217, 169, 37, 36, 43, 149, 150, 151, 152, 41, 119, 2, 120, 170, 171, 172, 173, 39, 40, 174, 175, 176, 177, 178, 179, 180, 181, 42, 182, 183, 184, 185, 186, 187, 188, 189, 649, 650, 651, 652, 653, 677, 678, 679, 680, 681, 682, 683] (by decide +kernel) (by decide +kernel)
set_option maxRecDepth 20000 in
theorem gL_law_X6_leaks : GoodIn wsL_law (wsV RL 31 RX6 yX6_leaks wsX6_leaks) := goodIn_app (goodIn_of _ (by decide +kernel)) ggL_law_X6_leaks
set_option maxRecDepth 20000 in
theorem ggL_law_X7_leaks : GoodIn wsL_law wsX7_leaks := goodIn_r _ [221, 194, 157, 158, 159, 5, 160, 125, 126, 127, 128, 222, 223, 224, 225, 195, 95, 94, 99, 196, 198, 199, 200, 201, 197, 96, 97, 202, 203, 204, 205, 98, 206, 207, 208, 209, 654, 655, 656, 657, 658, 659, 660, 661, 662, 663, 664, 665, 666, 667, 668, 669, 670, 671, 672, 673, 674, 675, 676] (by decide +kernel) (by decide +kernel)
set_option maxRecDepth 20000 in
theorem gL_law_X7_leaks : GoodIn wsL_law (wsV RL 34 RX7 yX7_leaks wsX7_leaks) := goodIn_app (goodIn_of _ (by decide +kernel)) ggL_law_X7_leaks
set_option maxRecDepth 20000 in
theorem ggL_law_X6_valve : GoodIn wsL_law wsX6_valve := goodIn_r _ [229, 19, 230, 231, 232, 18, 233, 56, 50, 48, 49, 234, 150, 151, 14, 152, 41, 119, 2, 120, 649, 650, 651, 652, 653, 684, 685, 686, 687, 688, 689, 690, 691, 677, 678, 679, 680, 681, 682, 683] (by decide +kernel) (by decide +kernel)
set_option maxRecDepth 20000 in
theorem gL_law_X6_valve : GoodIn wsL_law (wsV RL 35 RX6 yX6_valve wsX6_valve) := goodIn_app (goodIn_of _ (by decide +kernel)) ggL_law_X6_valve
set_option maxRecDepth 20000 in
theorem ggL_law_X7_valve : GoodIn wsL_law wsX7_valve := goodIn_r _ [238, 239, 100, 101, 157, 158, 159, 5, 160, 125, 126, 127, 128, 654, 655, 656, 657, 658, 659, 660, 661, 662, 663, 664, 665, 666, 667, 668, 669, 670, 671, 672, 673, 674, 675, 676] (by decide +kernel) (by decide +kernel)
set_option maxRecDepth 20000 in
theorem gL_law_X7_valve : GoodIn wsL_law (wsV RL 38 RX7 yX7_valve wsX7_valve) := goodIn_app (goodIn_of _ (by decide +kernel)) ggL_law_X7_valve
set_option maxRecDepth 20000 in
theorem ggL_law_X6_group : GoodIn wsL_law wsX6_group := goodIn_r _ [243, 19, 244, 245, 246, 18, 247, 56, 52, 234, 150, 151, 14, 152, 41, 119, 2, 120, 248, 249, 250, 251, 252, 253, 254, 255, 50, 256, 257, 258, 259, 48, 49, 260, 261, 262, 263, 264, 265, 266, 267, 268, 269, 270, 271, 272, 273, 274, 649, 650, 651, 652, 653, 684, 685, 686, 687, 688, 689, 690, 691, 677, 678, 679, 680, 681, 682, 683] (by decide +kernel) (by decide +kernel)
set_option maxRecDepth 20000 in
theorem gL_law_X6_group : GoodIn wsL_law (wsV RL 39 RX6 yX6_group wsX6_group) := goodIn_app (goodIn_of _ (by decide +kernel)) ggL_law_X6_group
set_option maxRecDepth 20000 in
theorem ggL_law_X7_group : GoodIn wsL_law wsX7_group := goodIn_r _ [278, 102, 157, 158, 159, 5, 160, 125, 126, 127, 128, 279, 280, 281, 282, 239, 283, 284, 285, 286, 100, 101, 654, 655, 656, 657, 658, 659, 660, 661, 662, 663, 664, 665, 666, 667, 668, 669, 670, 671, 672, 673, 674, 675, 676] (by decide +kernel) (by decide +kernel)
set_option maxRecDepth 20000 in
theorem gL_law_X7_group : GoodIn wsL_law (wsV RL 42 RX7 yX7_group wsX7_group) := goodIn_app (goodIn_of _ (by decide +kernel)) ggL_law_X7_group
set_option maxRecDepth 20000 in
theorem ggL_law_X6_explains : GoodIn wsL_law wsX6_explains := goodIn_r _ [290, 19, 291, 292, 293, 18, 294, 248, 249, 250, 251, 252, 253, 254, 255, 50, 119, 2, 120, 295, 296, 297, 298, 56, 51, 260, 261, 262, 14, 263, 41, 299, 215, 216, 217, 169, 37, 36, 43, 149, 150, 151, 152, 170, 171, 172, 173, 39, 40, 174, 175, 176, 177, 178, 179, 180, 181, 42, 182, 183, 184, 185, 186, 187, 188, 189, 300, 301, 302, 303, 53, 55, 304, 52, 256, 257, 258, 259, 48, 49, 264, 265, 266, 267, 268, 269, 270, 271, 272, 273, 274, 649, 650, 651, 652, 653, 684, 685, 686, 687, 688, 689, 690, 691, 677, 678, 679, 680, 681, 682, 683] (by decide +kernel) (by decide +kernel)
set_option maxRecDepth 20000 in
theorem gL_law_X6_explains : GoodIn wsL_law (wsV RL 43 RX6 yX6_explains wsX6_explains) := goodIn_app (goodIn_of _ (by decide +kernel)) ggL_law_X6_explains
set_option maxRecDepth 20000 in
theorem ggL_law_X7_explains : GoodIn wsL_law wsX7_explains := goodIn_r _ [308, 279, 280, 281, 5, 282, 239, 126, 127, 128, 309, 310, 311, 312, 125, 102, 194, 283, 284, 285, 286, 100, 101, 222, 223, 224, 225, 195, 95, 94, 99, 196, 198, 199, 200, 201, 197, 96, 97, 202, 203, 204, 205, 98, 206, 207, 208, 209, 654, 655, 656, 657, 658, 659, 660, 661, 662, 663, 664, 665, 666, 667, 668, 669, 670, 671, 672, 673, 674, 675, 676] (by decide +kernel) (by decide +kernel)
set_option maxRecDepth 20000 in
theorem gL_law_X7_explains : GoodIn wsL_law (wsV RL 47 RX7 yX7_explains wsX7_explains) := goodIn_app (goodIn_of _ (by decide +kernel)) ggL_law_X7_explains
set_option maxRecDepth 20000 in
theorem ggL_law_X6_fewest : GoodIn wsL_law wsX6_fewest := goodIn_r _ [316, 19, 317, 318, 319, 18, 320, 295, 296, 297, 298, 56, 51, 260, 261, 262, 14, 263, 41, 299, 215, 216, 217, 169, 37, 36, 43, 149, 150, 151, 152, 119, 2, 120, 170, 171, 172, 173, 39, 40, 174, 175, 176, 177, 178, 179, 180, 181, 42, 182, 183, 184, 185, 186, 187, 188, 189, 252, 253, 254, 255, 50, 300, 301, 302, 303, 53, 55, 304, 52, 256, 257, 258, 259, 48, 49, 264, 265, 266, 267, 268, 269, 270, 271, 272, 273, 274, 321, 322, 323, 324, 325, 326, 327, 649, 650, 651, 652, 653, 684, 685, 686, 687, 688, 689, 690, 691, 677, 678, 679, 680, 681, 682, 683] (by decide +kernel) (by decide +kernel)
set_option maxRecDepth 20000 in
theorem gL_law_X6_fewest : GoodIn wsL_law (wsV RL 48 RX6 yX6_fewest wsX6_fewest) := goodIn_app (goodIn_of _ (by decide +kernel)) ggL_law_X6_fewest
set_option maxRecDepth 20000 in
theorem ggL_law_X7_fewest : GoodIn wsL_law wsX7_fewest := goodIn_r _ [331, 239, 332, 333, 5, 334, 309, 310, 311, 312, 125, 102, 194, 283, 284, 285, 286, 100, 101, 222, 223, 224, 225, 195, 95, 94, 99, 196, 198, 199, 200, 201, 197, 96, 97, 202, 203, 204, 205, 98, 206, 207, 208, 209, 654, 655, 656, 657, 658, 659, 660, 661, 662, 663, 664, 665, 666, 667, 668, 669, 670, 671, 672, 673, 674, 675, 676] (by decide +kernel) (by decide +kernel)
set_option maxRecDepth 20000 in
theorem gL_law_X7_fewest : GoodIn wsL_law (wsV RL 52 RX7 yX7_fewest wsX7_fewest) := goodIn_app (goodIn_of _ (by decide +kernel)) ggL_law_X7_fewest
set_option maxRecDepth 20000 in
theorem ggL_law_X6_sample : GoodIn wsL_law wsX6_sample := goodIn_r _ [338, 23, 339, 340, 341, 22, 342, 343, 61, 119, 2, 120, 649, 650, 651, 652, 653, 692] (by decide +kernel) (by decide +kernel)
set_option maxRecDepth 20000 in
theorem gL_law_X6_sample : GoodIn wsL_law (wsV RL 53 RX6 yX6_sample wsX6_sample) := goodIn_app (goodIn_of _ (by decide +kernel)) ggL_law_X6_sample
set_option maxRecDepth 20000 in
theorem ggL_law_X7_sample : GoodIn wsL_law wsX7_sample := goodIn_r _ [347, 194, 103, 126, 127, 5, 128, 654, 655, 656, 657, 658, 659, 660, 661, 662, 663, 664, 665, 666, 667, 668, 669, 670, 671, 672, 673, 674, 675, 676] (by decide +kernel) (by decide +kernel)
set_option maxRecDepth 20000 in
theorem gL_law_X7_sample : GoodIn wsL_law (wsV RL 57 RX7 yX7_sample wsX7_sample) := goodIn_app (goodIn_of _ (by decide +kernel)) ggL_law_X7_sample
set_option maxRecDepth 20000 in
theorem ggL_law_X6_echo : GoodIn wsL_law wsX6_echo := goodIn_r _ [351, 23, 352, 353, 354, 22, 355, 61, 119, 2, 120, 649, 650, 651, 652, 653, 692] (by decide +kernel) (by decide +kernel)
set_option maxRecDepth 20000 in
theorem gL_law_X6_echo : GoodIn wsL_law (wsV RL 58 RX6 yX6_echo wsX6_echo) := goodIn_app (goodIn_of _ (by decide +kernel)) ggL_law_X6_echo
set_option maxRecDepth 20000 in
theorem ggL_law_X7_echo : GoodIn wsL_law wsX7_echo := goodIn_r _ [359, 103, 126, 127, 5, 128, 654, 655, 656, 657, 658, 659, 660, 661, 662, 663, 664, 665, 666, 667, 668, 669, 670, 671, 672, 673, 674, 675, 676] (by decide +kernel) (by decide +kernel)
set_option maxRecDepth 20000 in
theorem gL_law_X7_echo : GoodIn wsL_law (wsV RL 62 RX7 yX7_echo wsX7_echo) := goodIn_app (goodIn_of _ (by decide +kernel)) ggL_law_X7_echo
set_option maxRecDepth 20000 in
theorem ggL_law_X6_sum : GoodIn wsL_law wsX6_sum := goodIn_r _ [363, 23, 364, 365, 366, 22, 367, 343, 119, 2, 120, 368, 369, 370, 371, 61, 372, 373, 374, 375, 376, 377, 378, 379, 649, 650, 651, 652, 653, 692] (by decide +kernel) (by decide +kernel)
set_option maxRecDepth 20000 in
theorem gL_law_X6_sum : GoodIn wsL_law (wsV RL 63 RX6 yX6_sum wsX6_sum) := goodIn_app (goodIn_of _ (by decide +kernel)) ggL_law_X6_sum
set_option maxRecDepth 20000 in
theorem ggL_law_X7_sum : GoodIn wsL_law wsX7_sum := goodIn_r _ [383, 194, 126, 127, 5, 128, 384, 385, 386, 387, 103, 388, 389, 390, 391, 392, 393, 394, 395, 654, 655, 656, 657, 658, 659, 660, 661, 662, 663, 664, 665, 666, 667, 668, 669, 670, 671, 672, 673, 674, 675, 676] (by decide +kernel) (by decide +kernel)
set_option maxRecDepth 20000 in
theorem gL_law_X7_sum : GoodIn wsL_law (wsV RL 66 RX7 yX7_sum wsX7_sum) := goodIn_app (goodIn_of _ (by decide +kernel)) ggL_law_X7_sum
set_option maxRecDepth 20000 in
theorem ggL_law_X6_delay : GoodIn wsL_law wsX6_delay := goodIn_r _ [399, 23, 400, 401, 402, 22, 403, 404, 405, 406, 407, 408, 409, 270, 410, 368, 369, 370, 371, 61, 372, 373, 374, 375, 343, 119, 2, 120, 376, 377, 378, 379, 649, 650, 651, 652, 653, 692] (by decide +kernel) (by decide +kernel)
set_option maxRecDepth 20000 in
theorem gL_law_X6_delay : GoodIn wsL_law (wsV RL 67 RX6 yX6_delay wsX6_delay) := goodIn_app (goodIn_of _ (by decide +kernel)) ggL_law_X6_delay
set_option maxRecDepth 20000 in
theorem ggL_law_X7_delay : GoodIn wsL_law wsX7_delay := goodIn_r _ [414, 415, 416, 417, 5, 418, 126, 127, 128, 392, 393, 394, 395, 388, 389, 390, 391, 103, 194, 384, 385, 386, 387, 654, 655, 656, 657, 658, 659, 660, 661, 662, 663, 664, 665, 666, 667, 668, 669, 670, 671, 672, 673, 674, 675, 676] (by decide +kernel) (by decide +kernel)
set_option maxRecDepth 20000 in
theorem gL_law_X7_delay : GoodIn wsL_law (wsV RL 71 RX7 yX7_delay wsX7_delay) := goodIn_app (goodIn_of _ (by decide +kernel)) ggL_law_X7_delay
set_option maxRecDepth 20000 in
theorem ggL_law_X6_place : GoodIn wsL_law wsX6_place := goodIn_r _ [422, 23, 423, 424, 425, 22, 426, 427, 428, 269, 270, 271, 429, 273, 274, 119, 2, 120, 430, 401, 402, 403, 404, 405, 406, 407, 408, 409, 410, 368, 369, 370, 371, 61, 372, 373, 374, 375, 343, 376, 377, 378, 379, 431, 432, 433, 649, 650, 651, 652, 653, 692] (by decide +kernel) (by decide +kernel)
set_option maxRecDepth 20000 in
theorem gL_law_X6_place : GoodIn wsL_law (wsV RL 72 RX6 yX6_place wsX6_place) := goodIn_app (goodIn_of _ (by decide +kernel)) ggL_law_X6_place
set_option maxRecDepth 20000 in
theorem ggL_law_X7_place : GoodIn wsL_law wsX7_place := goodIn_r _ [437, 438, 126, 127, 5, 128, 415, 416, 417, 418, 392, 393, 394, 395, 388, 389, 390, 391, 103, 194, 384, 385, 386, 387, 654, 655, 656, 657, 658, 659, 660, 661, 662, 663, 664, 665, 666, 667, 668, 669, 670, 671, 672, 673, 674, 675, 676] (by decide +kernel) (by decide +kernel)
set_option maxRecDepth 20000 in
theorem gL_law_X7_place : GoodIn wsL_law (wsV RL 75 RX7 yX7_place wsX7_place) := goodIn_app (goodIn_of _ (by decide +kernel)) ggL_law_X7_place
set_option maxRecDepth 20000 in
theorem ggL_law_X6_section : GoodIn wsL_law wsX6_section := goodIn_r _ [442, 27, 443, 444, 445, 26, 446, 67, 66, 119, 2, 120, 71, 72, 73, 74, 69, 70, 75, 76, 77, 78, 79, 80, 81, 82, 649, 650, 651, 652, 653, 693, 694, 695, 696] (by decide +kernel) (by decide +kernel)
set_option maxRecDepth 20000 in
theorem gL_law_X6_section : GoodIn wsL_law (wsV RL 76 RX6 yX6_section wsX6_section) := goodIn_app (goodIn_of _ (by decide +kernel)) ggL_law_X6_section
set_option maxRecDepth 20000 in
theorem ggL_law_X7_section : GoodIn wsL_law wsX7_section := goodIn_r _ [450, 104, 105, 126, 127, 5, 128, 654, 655, 656, 657, 658, 659, 660, 661, 662, 663, 664, 665, 666, 667, 668, 669, 670, 671, 672, 673, 674, 675, 676] (by decide +kernel) (by decide +kernel)
set_option maxRecDepth 20000 in
theorem gL_law_X7_section : GoodIn wsL_law (wsV RL 79 RX7 yX7_section wsX7_section) := goodIn_app (goodIn_of _ (by decide +kernel)) ggL_law_X7_section
set_option maxRecDepth 20000 in
theorem ggL_law_X6_cost : GoodIn wsL_law wsX6_cost := goodIn_r _ [454, 27, 455, 456, 457, 26, 458, 69, 459, 460, 461, 462, 67, 119, 2, 120, 649, 650, 651, 652, 653, 693, 694, 695, 696] (by decide +kernel) (by decide +kernel)
set_option maxRecDepth 20000 in
theorem gL_law_X6_cost : GoodIn wsL_law (wsV RL 80 RX6 yX6_cost wsX6_cost) := goodIn_app (goodIn_of _ (by decide +kernel)) ggL_law_X6_cost
set_option maxRecDepth 20000 in
theorem ggL_law_X7_cost : GoodIn wsL_law wsX7_cost := goodIn_r _ [466, 106, 467, 468, 469, 5, 470, 104, 471, 472, 473, 474, 105, 107, 654, 655, 656, 657, 658, 659, 660, 661, 662, 663, 664, 665, 666, 667, 668, 669, 670, 671, 672, 673, 674, 675, 676] (by decide +kernel) (by decide +kernel)
set_option maxRecDepth 20000 in
theorem gL_law_X7_cost : GoodIn wsL_law (wsV RL 83 RX7 yX7_cost wsX7_cost) := goodIn_app (goodIn_of _ (by decide +kernel)) ggL_law_X7_cost
set_option maxRecDepth 20000 in
theorem ggL_law_X6_closes : GoodIn wsL_law wsX6_closes := goodIn_r _ [478, 27, 479, 480, 481, 26, 482, 70, 459, 460, 461, 462, 67, 119, 2, 120, 649, 650, 651, 652, 653, 693, 694, 695, 696] (by decide +kernel) (by decide +kernel)
set_option maxRecDepth 20000 in
theorem gL_law_X6_closes : GoodIn wsL_law (wsV RL 84 RX6 yX6_closes wsX6_closes) := goodIn_app (goodIn_of _ (by decide +kernel)) ggL_law_X6_closes
set_option maxRecDepth 20000 in
theorem ggL_law_X7_closes : GoodIn wsL_law wsX7_closes := goodIn_r _ [486, 107, 467, 468, 469, 5, 470, 104, 471, 472, 473, 474, 105, 106, 654, 655, 656, 657, 658, 659, 660, 661, 662, 663, 664, 665, 666, 667, 668, 669, 670, 671, 672, 673, 674, 675, 676] (by decide +kernel) (by decide +kernel)
set_option maxRecDepth 20000 in
theorem gL_law_X7_closes : GoodIn wsL_law (wsV RL 87 RX7 yX7_closes wsX7_closes) := goodIn_app (goodIn_of _ (by decide +kernel)) ggL_law_X7_closes
set_option maxRecDepth 20000 in
theorem ggL_law_X6_closings : GoodIn wsL_law wsX6_closings := goodIn_r _ [490, 27, 491, 492, 493, 26, 494, 67, 70, 119, 2, 120, 649, 650, 651, 652, 653, 693, 694, 695, 696] (by decide +kernel) (by decide +kernel)
set_option maxRecDepth 20000 in
theorem gL_law_X6_closings : GoodIn wsL_law (wsV RL 88 RX6 yX6_closings wsX6_closings) := goodIn_app (goodIn_of _ (by decide +kernel)) ggL_law_X6_closings
set_option maxRecDepth 20000 in
theorem ggL_law_X7_closings : GoodIn wsL_law wsX7_closings := goodIn_r _ [498, 104, 107, 126, 127, 5, 128, 471, 472, 473, 474, 105, 106, 654, 655, 656, 657, 658, 659, 660, 661, 662, 663, 664, 665, 666, 667, 668, 669, 670, 671, 672, 673, 674, 675, 676] (by decide +kernel) (by decide +kernel)
set_option maxRecDepth 20000 in
theorem gL_law_X7_closings : GoodIn wsL_law (wsV RL 91 RX7 yX7_closings wsX7_closings) := goodIn_app (goodIn_of _ (by decide +kernel)) ggL_law_X7_closings
set_option maxRecDepth 20000 in
theorem ggL_law_X6_dig : GoodIn wsL_law wsX6_dig := goodIn_r _ [502, 31, 503, 504, 505, 30, 506, 89, 86, 87, 119, 2, 120, 507, 508, 509, 510, 88, 511, 512, 513, 514, 649, 650, 651, 652, 653, 697, 698, 699, 700] (by decide +kernel) (by decide +kernel)
set_option maxRecDepth 20000 in
theorem gL_law_X6_dig : GoodIn wsL_law (wsV RL 92 RX6 yX6_dig wsX6_dig) := goodIn_app (goodIn_of _ (by decide +kernel)) ggL_law_X6_dig
set_option maxRecDepth 20000 in
theorem ggL_law_X7_dig : GoodIn wsL_law wsX7_dig := goodIn_r _ [518, 519, 108, 109, 126, 127, 5, 128, 654, 655, 656, 657, 658, 659, 660, 661, 662, 663, 664, 665, 666, 667, 668, 669, 670, 671, 672, 673, 674, 675, 676] (by decide +kernel) (by decide +kernel)
set_option maxRecDepth 20000 in
theorem gL_law_X7_dig : GoodIn wsL_law (wsV RL 95 RX7 yX7_dig wsX7_dig) := goodIn_app (goodIn_of _ (by decide +kernel)) ggL_law_X7_dig
set_option maxRecDepth 20000 in
theorem ggL_law_X6_clear : GoodIn wsL_law wsX6_clear := goodIn_r _ [523, 31, 524, 525, 526, 30, 527, 89, 649, 650, 651, 652, 653, 697, 698, 699, 700] (by decide +kernel) (by decide +kernel)
set_option maxRecDepth 20000 in
theorem gL_law_X6_clear : GoodIn wsL_law (wsV RL 96 RX6 yX6_clear wsX6_clear) := goodIn_app (goodIn_of _ (by decide +kernel)) ggL_law_X6_clear
set_option maxRecDepth 20000 in
theorem ggL_law_X7_clear : GoodIn wsL_law wsX7_clear := goodIn_r _ [531, 519, 654, 655, 656, 657, 658, 659, 660, 661, 662, 663, 664, 665, 666, 667, 668, 669, 670, 671, 672, 673, 674, 675, 676] (by decide +kernel) (by decide +kernel)
set_option maxRecDepth 20000 in
theorem gL_law_X7_clear : GoodIn wsL_law (wsV RL 99 RX7 yX7_clear wsX7_clear) := goodIn_app (goodIn_of _ (by decide +kernel)) ggL_law_X7_clear
set_option maxRecDepth 20000 in
theorem ggL_law_X6_lost : GoodIn wsL_law wsX6_lost := goodIn_r _ [535, 31, 536, 537, 538, 30, 539, 89, 88, 87, 86, 649, 650, 651, 652, 653, 697, 698, 699, 700] (by decide +kernel) (by decide +kernel)
set_option maxRecDepth 20000 in
theorem gL_law_X6_lost : GoodIn wsL_law (wsV RL 100 RX6 yX6_lost wsX6_lost) := goodIn_app (goodIn_of _ (by decide +kernel)) ggL_law_X6_lost
set_option maxRecDepth 20000 in
theorem ggL_law_X7_lost : GoodIn wsL_law wsX7_lost := goodIn_r _ [543, 519, 109, 110, 108, 544, 545, 546, 5, 547, 654, 655, 656, 657, 658, 659, 660, 661, 662, 663, 664, 665, 666, 667, 668, 669, 670, 671, 672, 673, 674, 675, 676] (by decide +kernel) (by decide +kernel)
set_option maxRecDepth 20000 in
theorem gL_law_X7_lost : GoodIn wsL_law (wsV RL 103 RX7 yX7_lost wsX7_lost) := goodIn_app (goodIn_of _ (by decide +kernel)) ggL_law_X7_lost
set_option maxRecDepth 20000 in
theorem ggL_law_X6_order : GoodIn wsL_law wsX6_order := goodIn_r _ [551, 31, 552, 553, 554, 30, 555, 89, 88, 119, 2, 120, 649, 650, 651, 652, 653, 697, 698, 699, 700] (by decide +kernel) (by decide +kernel)
set_option maxRecDepth 20000 in
theorem gL_law_X6_order : GoodIn wsL_law (wsV RL 104 RX6 yX6_order wsX6_order) := goodIn_app (goodIn_of _ (by decide +kernel)) ggL_law_X6_order
set_option maxRecDepth 20000 in
theorem ggL_law_X7_order : GoodIn wsL_law wsX7_order := goodIn_r _ [559, 519, 110, 544, 545, 546, 5, 547, 108, 109, 126, 127, 128, 654, 655, 656, 657, 658, 659, 660, 661, 662, 663, 664, 665, 666, 667, 668, 669, 670, 671, 672, 673, 674, 675, 676] (by decide +kernel) (by decide +kernel)
set_option maxRecDepth 20000 in
theorem gL_law_X7_order : GoodIn wsL_law (wsV RL 107 RX7 yX7_order wsX7_order) := goodIn_app (goodIn_of _ (by decide +kernel)) ggL_law_X7_order
set_option maxRecDepth 20000 in
theorem ggL_law_X6_pulled : GoodIn wsL_law wsX6_pulled := goodIn_r _ [563, 564, 565, 566, 567, 568, 119, 2, 120, 569, 570, 571, 572, 573, 574] (by decide +kernel) (by decide +kernel)
set_option maxRecDepth 20000 in
theorem gL_law_X6_pulled : GoodIn wsL_law (wsV RL 108 RX6 yX6_pulled wsX6_pulled) := goodIn_app (goodIn_of _ (by decide +kernel)) ggL_law_X6_pulled
set_option maxRecDepth 20000 in
theorem ggL_law_X7_pulled : GoodIn wsL_law wsX7_pulled := goodIn_r _ [578, 438, 126, 127, 5, 128, 579, 580, 581] (by decide +kernel) (by decide +kernel)
set_option maxRecDepth 20000 in
theorem gL_law_X7_pulled : GoodIn wsL_law (wsV RL 111 RX7 yX7_pulled wsX7_pulled) := goodIn_app (goodIn_of _ (by decide +kernel)) ggL_law_X7_pulled
set_option maxRecDepth 20000 in
theorem ggL_law_X6_count : GoodIn wsL_law wsX6_count := goodIn_r _ [585, 15, 19, 27, 31, 23, 586, 261, 262, 14, 263, 41, 587, 588, 589, 18, 590, 50, 591, 592, 593, 26, 594, 67, 595, 596, 597, 30, 598, 89, 599, 600, 601, 602, 39, 40, 603, 604, 605, 22, 606, 61, 343, 649, 650, 651, 652, 653, 677, 678, 679, 680, 681, 682, 683, 684, 685, 686, 687, 688, 689, 690, 691, 693, 694, 695, 696, 697, 698, 699, 700, 692] (by decide +kernel) (by decide +kernel)
set_option maxRecDepth 20000 in
theorem gL_law_X6_count : GoodIn wsL_law (wsV RL 112 RX6 yX6_count wsX6_count) := goodIn_app (goodIn_of _ (by decide +kernel)) ggL_law_X6_count
set_option maxRecDepth 20000 in
theorem ggL_law_X7_count : GoodIn wsL_law wsX7_count := goodIn_r _ [610, 125, 239, 104, 519, 96, 97, 103, 194, 654, 655, 656, 657, 658, 659, 660, 661, 662, 663, 664, 665, 666, 667, 668, 669, 670, 671, 672, 673, 674, 675, 676] (by decide +kernel) (by decide +kernel)
set_option maxRecDepth 20000 in
theorem gL_law_X7_count : GoodIn wsL_law (wsV RL 115 RX7 yX7_count wsX7_count) := goodIn_app (goodIn_of _ (by decide +kernel)) ggL_law_X7_count
set_option maxRecDepth 20000 in
theorem ggL_law_X6_digest : GoodIn wsL_law wsX6_digest := goodIn_r _ [614, 615, 15, 19, 23, 27, 31, 616, 583, 584, 2, 585, 586, 261, 262, 14, 263, 41, 587, 588, 589, 18, 590, 50, 591, 592, 593, 26, 594, 67, 595, 596, 597, 30, 598, 89, 599, 600, 601, 602, 39, 40, 603, 604, 605, 22, 606, 61, 343, 617, 618, 619, 620, 621, 622, 623, 624, 625, 215, 216, 217, 169, 37, 36, 43, 149, 150, 151, 152, 119, 120, 170, 171, 172, 173, 174, 175, 176, 177, 178, 179, 180, 181, 42, 182, 183, 184, 185, 186, 187, 188, 189, 626, 627, 628, 629, 48, 49, 630, 631, 632, 633, 634, 635, 636, 637, 66, 638, 639, 640, 641, 86, 87, 649, 650, 651, 652, 653, 677, 678, 679, 680, 681, 682, 683, 684, 685, 686, 687, 688, 689, 690, 691, 693, 694, 695, 696, 697, 698, 699, 700, 692] (by decide +kernel) (by decide +kernel)
set_option maxRecDepth 20000 in
theorem gL_law_X6_digest : GoodIn wsL_law (wsV RL 116 RX6 yX6_digest wsX6_digest) := goodIn_app (goodIn_of _ (by decide +kernel)) ggL_law_X6_digest
set_option maxRecDepth 20000 in
theorem ggL_law_X7_digest : GoodIn wsL_law wsX7_digest := goodIn_r _ [645, 646, 647, 125, 96, 97, 239, 100, 101, 103, 104, 105, 519, 108, 109, 648, 608, 609, 5, 610, 194, 222, 223, 224, 225, 195, 95, 94, 99, 196, 198, 199, 200, 201, 197, 202, 203, 204, 205, 98, 206, 207, 208, 209, 654, 655, 656, 657, 658, 659, 660, 661, 662, 663, 664, 665, 666, 667, 668, 669, 670, 671, 672, 673, 674, 675, 676] (by decide +kernel) (by decide +kernel)
set_option maxRecDepth 20000 in
theorem gL_law_X7_digest : GoodIn wsL_law (wsV RL 120 RX7 yX7_digest wsX7_digest) := goodIn_app (goodIn_of _ (by decide +kernel)) ggL_law_X7_digest
theorem dL_law_0 : decode cL_law 0 = .ok (.new 7, 3) := by decide +kernel
theorem dL_law_3 : decode cL_law 3 = .ok (.dup, 1) := by decide +kernel
theorem dL_law_4 : decode cL_law 4 = .ok (.invokespecial 9, 3) := by decide +kernel
theorem dL_law_7 : decode cL_law 7 = .ok (.astore_n 1, 1) := by decide +kernel
theorem dL_law_8 : decode cL_law 8 = .ok (.new 10, 3) := by decide +kernel
theorem dL_law_11 : decode cL_law 11 = .ok (.dup, 1) := by decide +kernel
theorem dL_law_12 : decode cL_law 12 = .ok (.invokespecial 12, 3) := by decide +kernel
theorem dL_law_15 : decode cL_law 15 = .ok (.astore_n 2, 1) := by decide +kernel
theorem dL_law_16 : decode cL_law 16 = .ok (.iconst 0, 1) := by decide +kernel
theorem dL_law_17 : decode cL_law 17 = .ok (.istore_n 3, 1) := by decide +kernel
theorem dL_law_18 : decode cL_law 18 = .ok (.iload_n 3, 1) := by decide +kernel
theorem dL_law_19 : decode cL_law 19 = .ok (.aload_n 0, 1) := by decide +kernel
theorem dL_law_20 : decode cL_law 20 = .ok (.arraylength, 1) := by decide +kernel
theorem dL_law_21 : decode cL_law 21 = .ok (.iconst 5, 1) := by decide +kernel
theorem dL_law_22 : decode cL_law 22 = .ok (.isub, 1) := by decide +kernel
theorem dL_law_23 : decode cL_law 23 = .ok (.if_icmp .gt 949, 3) := by decide +kernel
theorem dL_law_26 : decode cL_law 26 = .ok (.aload_n 0, 1) := by decide +kernel
theorem dL_law_27 : decode cL_law 27 = .ok (.iload_n 3, 1) := by decide +kernel
theorem dL_law_28 : decode cL_law 28 = .ok (.iaload, 1) := by decide +kernel
theorem dL_law_29 : decode cL_law 29 = .ok (.bipush 31, 2) := by decide +kernel
theorem dL_law_31 : decode cL_law 31 = .ok (.iand, 1) := by decide +kernel
theorem dL_law_32 : decode cL_law 32 = .ok (.tableswitch 934 0 24 #[116, 149, 182, 251, 284, 317, 350, 383, 406, 419, 462, 515, 548, 587, 640, 683, 716, 749, 772, 805, 818, 831, 854, 897, 920], 116) := by decide +kernel
theorem dL_law_148 : decode cL_law 148 = .ok (.aload_n 1, 1) := by decide +kernel
theorem dL_law_149 : decode cL_law 149 = .ok (.aload_n 0, 1) := by decide +kernel
theorem dL_law_150 : decode cL_law 150 = .ok (.iload_n 3, 1) := by decide +kernel
theorem dL_law_151 : decode cL_law 151 = .ok (.iconst 1, 1) := by decide +kernel
theorem dL_law_152 : decode cL_law 152 = .ok (.iadd, 1) := by decide +kernel
theorem dL_law_153 : decode cL_law 153 = .ok (.iaload, 1) := by decide +kernel
theorem dL_law_154 : decode cL_law 154 = .ok (.aload_n 0, 1) := by decide +kernel
theorem dL_law_155 : decode cL_law 155 = .ok (.iload_n 3, 1) := by decide +kernel
theorem dL_law_156 : decode cL_law 156 = .ok (.iconst 2, 1) := by decide +kernel
theorem dL_law_157 : decode cL_law 157 = .ok (.iadd, 1) := by decide +kernel
theorem dL_law_158 : decode cL_law 158 = .ok (.iaload, 1) := by decide +kernel
theorem dL_law_159 : decode cL_law 159 = .ok (.invokevirtual 13, 3) := by decide +kernel
theorem dL_law_162 : decode cL_law 162 = .ok (.aload_n 2, 1) := by decide +kernel
theorem dL_law_163 : decode cL_law 163 = .ok (.aload_n 0, 1) := by decide +kernel
theorem dL_law_164 : decode cL_law 164 = .ok (.iload_n 3, 1) := by decide +kernel
theorem dL_law_165 : decode cL_law 165 = .ok (.iconst 1, 1) := by decide +kernel
theorem dL_law_166 : decode cL_law 166 = .ok (.iadd, 1) := by decide +kernel
theorem dL_law_167 : decode cL_law 167 = .ok (.iaload, 1) := by decide +kernel
theorem dL_law_168 : decode cL_law 168 = .ok (.aload_n 0, 1) := by decide +kernel
theorem dL_law_169 : decode cL_law 169 = .ok (.iload_n 3, 1) := by decide +kernel
theorem dL_law_170 : decode cL_law 170 = .ok (.iconst 2, 1) := by decide +kernel
theorem dL_law_171 : decode cL_law 171 = .ok (.iadd, 1) := by decide +kernel
theorem dL_law_172 : decode cL_law 172 = .ok (.iaload, 1) := by decide +kernel
theorem dL_law_173 : decode cL_law 173 = .ok (.invokevirtual 17, 3) := by decide +kernel
theorem dL_law_176 : decode cL_law 176 = .ok (.if_icmp .eq 790, 3) := by decide +kernel
theorem dL_law_179 : decode cL_law 179 = .ok (.iconst 0, 1) := by decide +kernel
theorem dL_law_180 : decode cL_law 180 = .ok (.ireturn, 1) := by decide +kernel
theorem dL_law_181 : decode cL_law 181 = .ok (.aload_n 1, 1) := by decide +kernel
theorem dL_law_182 : decode cL_law 182 = .ok (.aload_n 0, 1) := by decide +kernel
theorem dL_law_183 : decode cL_law 183 = .ok (.iload_n 3, 1) := by decide +kernel
theorem dL_law_184 : decode cL_law 184 = .ok (.iconst 1, 1) := by decide +kernel
theorem dL_law_185 : decode cL_law 185 = .ok (.iadd, 1) := by decide +kernel
theorem dL_law_186 : decode cL_law 186 = .ok (.iaload, 1) := by decide +kernel
theorem dL_law_187 : decode cL_law 187 = .ok (.aload_n 0, 1) := by decide +kernel
theorem dL_law_188 : decode cL_law 188 = .ok (.iload_n 3, 1) := by decide +kernel
theorem dL_law_189 : decode cL_law 189 = .ok (.iconst 2, 1) := by decide +kernel
theorem dL_law_190 : decode cL_law 190 = .ok (.iadd, 1) := by decide +kernel
theorem dL_law_191 : decode cL_law 191 = .ok (.iaload, 1) := by decide +kernel
theorem dL_law_192 : decode cL_law 192 = .ok (.invokevirtual 18, 3) := by decide +kernel
theorem dL_law_195 : decode cL_law 195 = .ok (.aload_n 2, 1) := by decide +kernel
theorem dL_law_196 : decode cL_law 196 = .ok (.aload_n 0, 1) := by decide +kernel
theorem dL_law_197 : decode cL_law 197 = .ok (.iload_n 3, 1) := by decide +kernel
theorem dL_law_198 : decode cL_law 198 = .ok (.iconst 1, 1) := by decide +kernel
theorem dL_law_199 : decode cL_law 199 = .ok (.iadd, 1) := by decide +kernel
theorem dL_law_200 : decode cL_law 200 = .ok (.iaload, 1) := by decide +kernel
theorem dL_law_201 : decode cL_law 201 = .ok (.aload_n 0, 1) := by decide +kernel
theorem dL_law_202 : decode cL_law 202 = .ok (.iload_n 3, 1) := by decide +kernel
theorem dL_law_203 : decode cL_law 203 = .ok (.iconst 2, 1) := by decide +kernel
theorem dL_law_204 : decode cL_law 204 = .ok (.iadd, 1) := by decide +kernel
theorem dL_law_205 : decode cL_law 205 = .ok (.iaload, 1) := by decide +kernel
theorem dL_law_206 : decode cL_law 206 = .ok (.invokevirtual 21, 3) := by decide +kernel
theorem dL_law_209 : decode cL_law 209 = .ok (.if_icmp .eq 757, 3) := by decide +kernel
theorem dL_law_212 : decode cL_law 212 = .ok (.iconst 0, 1) := by decide +kernel
theorem dL_law_213 : decode cL_law 213 = .ok (.ireturn, 1) := by decide +kernel
theorem dL_law_214 : decode cL_law 214 = .ok (.aload_n 1, 1) := by decide +kernel
theorem dL_law_215 : decode cL_law 215 = .ok (.aload_n 0, 1) := by decide +kernel
theorem dL_law_216 : decode cL_law 216 = .ok (.iload_n 3, 1) := by decide +kernel
theorem dL_law_217 : decode cL_law 217 = .ok (.iconst 1, 1) := by decide +kernel
theorem dL_law_218 : decode cL_law 218 = .ok (.iadd, 1) := by decide +kernel
theorem dL_law_219 : decode cL_law 219 = .ok (.iaload, 1) := by decide +kernel
theorem dL_law_220 : decode cL_law 220 = .ok (.aload_n 0, 1) := by decide +kernel
theorem dL_law_221 : decode cL_law 221 = .ok (.iload_n 3, 1) := by decide +kernel
theorem dL_law_222 : decode cL_law 222 = .ok (.iconst 2, 1) := by decide +kernel
theorem dL_law_223 : decode cL_law 223 = .ok (.iadd, 1) := by decide +kernel
theorem dL_law_224 : decode cL_law 224 = .ok (.iaload, 1) := by decide +kernel
theorem dL_law_225 : decode cL_law 225 = .ok (.aload_n 0, 1) := by decide +kernel
theorem dL_law_226 : decode cL_law 226 = .ok (.iload_n 3, 1) := by decide +kernel
theorem dL_law_227 : decode cL_law 227 = .ok (.iconst 3, 1) := by decide +kernel
theorem dL_law_228 : decode cL_law 228 = .ok (.iadd, 1) := by decide +kernel
theorem dL_law_229 : decode cL_law 229 = .ok (.iaload, 1) := by decide +kernel
theorem dL_law_230 : decode cL_law 230 = .ok (.ifCond .eq 7, 3) := by decide +kernel
theorem dL_law_233 : decode cL_law 233 = .ok (.iconst 1, 1) := by decide +kernel
theorem dL_law_234 : decode cL_law 234 = .ok (.goto 4, 3) := by decide +kernel
theorem dL_law_237 : decode cL_law 237 = .ok (.iconst 0, 1) := by decide +kernel
theorem dL_law_238 : decode cL_law 238 = .ok (.aload_n 0, 1) := by decide +kernel
theorem dL_law_239 : decode cL_law 239 = .ok (.iload_n 3, 1) := by decide +kernel
theorem dL_law_240 : decode cL_law 240 = .ok (.iconst 4, 1) := by decide +kernel
theorem dL_law_241 : decode cL_law 241 = .ok (.iadd, 1) := by decide +kernel
theorem dL_law_242 : decode cL_law 242 = .ok (.iaload, 1) := by decide +kernel
theorem dL_law_243 : decode cL_law 243 = .ok (.invokevirtual 22, 3) := by decide +kernel
theorem dL_law_246 : decode cL_law 246 = .ok (.aload_n 2, 1) := by decide +kernel
theorem dL_law_247 : decode cL_law 247 = .ok (.aload_n 0, 1) := by decide +kernel
theorem dL_law_248 : decode cL_law 248 = .ok (.iload_n 3, 1) := by decide +kernel
theorem dL_law_249 : decode cL_law 249 = .ok (.iconst 1, 1) := by decide +kernel
theorem dL_law_250 : decode cL_law 250 = .ok (.iadd, 1) := by decide +kernel
theorem dL_law_251 : decode cL_law 251 = .ok (.iaload, 1) := by decide +kernel
theorem dL_law_252 : decode cL_law 252 = .ok (.aload_n 0, 1) := by decide +kernel
theorem dL_law_253 : decode cL_law 253 = .ok (.iload_n 3, 1) := by decide +kernel
theorem dL_law_254 : decode cL_law 254 = .ok (.iconst 2, 1) := by decide +kernel
theorem dL_law_255 : decode cL_law 255 = .ok (.iadd, 1) := by decide +kernel
theorem dL_law_256 : decode cL_law 256 = .ok (.iaload, 1) := by decide +kernel
theorem dL_law_257 : decode cL_law 257 = .ok (.aload_n 0, 1) := by decide +kernel
theorem dL_law_258 : decode cL_law 258 = .ok (.iload_n 3, 1) := by decide +kernel
theorem dL_law_259 : decode cL_law 259 = .ok (.iconst 3, 1) := by decide +kernel
theorem dL_law_260 : decode cL_law 260 = .ok (.iadd, 1) := by decide +kernel
theorem dL_law_261 : decode cL_law 261 = .ok (.iaload, 1) := by decide +kernel
theorem dL_law_262 : decode cL_law 262 = .ok (.ifCond .eq 7, 3) := by decide +kernel
theorem dL_law_265 : decode cL_law 265 = .ok (.iconst 1, 1) := by decide +kernel
theorem dL_law_266 : decode cL_law 266 = .ok (.goto 4, 3) := by decide +kernel
theorem dL_law_269 : decode cL_law 269 = .ok (.iconst 0, 1) := by decide +kernel
theorem dL_law_270 : decode cL_law 270 = .ok (.aload_n 0, 1) := by decide +kernel
theorem dL_law_271 : decode cL_law 271 = .ok (.iload_n 3, 1) := by decide +kernel
theorem dL_law_272 : decode cL_law 272 = .ok (.iconst 4, 1) := by decide +kernel
theorem dL_law_273 : decode cL_law 273 = .ok (.iadd, 1) := by decide +kernel
theorem dL_law_274 : decode cL_law 274 = .ok (.iaload, 1) := by decide +kernel
theorem dL_law_275 : decode cL_law 275 = .ok (.invokevirtual 26, 3) := by decide +kernel
theorem dL_law_278 : decode cL_law 278 = .ok (.if_icmp .eq 688, 3) := by decide +kernel
theorem dL_law_281 : decode cL_law 281 = .ok (.iconst 0, 1) := by decide +kernel
theorem dL_law_282 : decode cL_law 282 = .ok (.ireturn, 1) := by decide +kernel
theorem dL_law_283 : decode cL_law 283 = .ok (.aload_n 1, 1) := by decide +kernel
theorem dL_law_284 : decode cL_law 284 = .ok (.aload_n 0, 1) := by decide +kernel
theorem dL_law_285 : decode cL_law 285 = .ok (.iload_n 3, 1) := by decide +kernel
theorem dL_law_286 : decode cL_law 286 = .ok (.iconst 1, 1) := by decide +kernel
theorem dL_law_287 : decode cL_law 287 = .ok (.iadd, 1) := by decide +kernel
theorem dL_law_288 : decode cL_law 288 = .ok (.iaload, 1) := by decide +kernel
theorem dL_law_289 : decode cL_law 289 = .ok (.aload_n 0, 1) := by decide +kernel
theorem dL_law_290 : decode cL_law 290 = .ok (.iload_n 3, 1) := by decide +kernel
theorem dL_law_291 : decode cL_law 291 = .ok (.iconst 2, 1) := by decide +kernel
theorem dL_law_292 : decode cL_law 292 = .ok (.iadd, 1) := by decide +kernel
theorem dL_law_293 : decode cL_law 293 = .ok (.iaload, 1) := by decide +kernel
theorem dL_law_294 : decode cL_law 294 = .ok (.invokevirtual 27, 3) := by decide +kernel
theorem dL_law_297 : decode cL_law 297 = .ok (.aload_n 2, 1) := by decide +kernel
theorem dL_law_298 : decode cL_law 298 = .ok (.aload_n 0, 1) := by decide +kernel
theorem dL_law_299 : decode cL_law 299 = .ok (.iload_n 3, 1) := by decide +kernel
theorem dL_law_300 : decode cL_law 300 = .ok (.iconst 1, 1) := by decide +kernel
theorem dL_law_301 : decode cL_law 301 = .ok (.iadd, 1) := by decide +kernel
theorem dL_law_302 : decode cL_law 302 = .ok (.iaload, 1) := by decide +kernel
theorem dL_law_303 : decode cL_law 303 = .ok (.aload_n 0, 1) := by decide +kernel
theorem dL_law_304 : decode cL_law 304 = .ok (.iload_n 3, 1) := by decide +kernel
theorem dL_law_305 : decode cL_law 305 = .ok (.iconst 2, 1) := by decide +kernel
theorem dL_law_306 : decode cL_law 306 = .ok (.iadd, 1) := by decide +kernel
theorem dL_law_307 : decode cL_law 307 = .ok (.iaload, 1) := by decide +kernel
theorem dL_law_308 : decode cL_law 308 = .ok (.invokevirtual 30, 3) := by decide +kernel
theorem dL_law_311 : decode cL_law 311 = .ok (.if_icmp .eq 655, 3) := by decide +kernel
theorem dL_law_314 : decode cL_law 314 = .ok (.iconst 0, 1) := by decide +kernel
theorem dL_law_315 : decode cL_law 315 = .ok (.ireturn, 1) := by decide +kernel
theorem dL_law_316 : decode cL_law 316 = .ok (.aload_n 1, 1) := by decide +kernel
theorem dL_law_317 : decode cL_law 317 = .ok (.aload_n 0, 1) := by decide +kernel
theorem dL_law_318 : decode cL_law 318 = .ok (.iload_n 3, 1) := by decide +kernel
theorem dL_law_319 : decode cL_law 319 = .ok (.iconst 1, 1) := by decide +kernel
theorem dL_law_320 : decode cL_law 320 = .ok (.iadd, 1) := by decide +kernel
theorem dL_law_321 : decode cL_law 321 = .ok (.iaload, 1) := by decide +kernel
theorem dL_law_322 : decode cL_law 322 = .ok (.aload_n 0, 1) := by decide +kernel
theorem dL_law_323 : decode cL_law 323 = .ok (.iload_n 3, 1) := by decide +kernel
theorem dL_law_324 : decode cL_law 324 = .ok (.iconst 2, 1) := by decide +kernel
theorem dL_law_325 : decode cL_law 325 = .ok (.iadd, 1) := by decide +kernel
theorem dL_law_326 : decode cL_law 326 = .ok (.iaload, 1) := by decide +kernel
theorem dL_law_327 : decode cL_law 327 = .ok (.invokevirtual 31, 3) := by decide +kernel
theorem dL_law_330 : decode cL_law 330 = .ok (.aload_n 2, 1) := by decide +kernel
theorem dL_law_331 : decode cL_law 331 = .ok (.aload_n 0, 1) := by decide +kernel
theorem dL_law_332 : decode cL_law 332 = .ok (.iload_n 3, 1) := by decide +kernel
theorem dL_law_333 : decode cL_law 333 = .ok (.iconst 1, 1) := by decide +kernel
theorem dL_law_334 : decode cL_law 334 = .ok (.iadd, 1) := by decide +kernel
theorem dL_law_335 : decode cL_law 335 = .ok (.iaload, 1) := by decide +kernel
theorem dL_law_336 : decode cL_law 336 = .ok (.aload_n 0, 1) := by decide +kernel
theorem dL_law_337 : decode cL_law 337 = .ok (.iload_n 3, 1) := by decide +kernel
theorem dL_law_338 : decode cL_law 338 = .ok (.iconst 2, 1) := by decide +kernel
theorem dL_law_339 : decode cL_law 339 = .ok (.iadd, 1) := by decide +kernel
theorem dL_law_340 : decode cL_law 340 = .ok (.iaload, 1) := by decide +kernel
theorem dL_law_341 : decode cL_law 341 = .ok (.invokevirtual 34, 3) := by decide +kernel
theorem dL_law_344 : decode cL_law 344 = .ok (.if_icmp .eq 622, 3) := by decide +kernel
theorem dL_law_347 : decode cL_law 347 = .ok (.iconst 0, 1) := by decide +kernel
theorem dL_law_348 : decode cL_law 348 = .ok (.ireturn, 1) := by decide +kernel
theorem dL_law_349 : decode cL_law 349 = .ok (.aload_n 1, 1) := by decide +kernel
theorem dL_law_350 : decode cL_law 350 = .ok (.aload_n 0, 1) := by decide +kernel
theorem dL_law_351 : decode cL_law 351 = .ok (.iload_n 3, 1) := by decide +kernel
theorem dL_law_352 : decode cL_law 352 = .ok (.iconst 1, 1) := by decide +kernel
theorem dL_law_353 : decode cL_law 353 = .ok (.iadd, 1) := by decide +kernel
theorem dL_law_354 : decode cL_law 354 = .ok (.iaload, 1) := by decide +kernel
theorem dL_law_355 : decode cL_law 355 = .ok (.aload_n 0, 1) := by decide +kernel
theorem dL_law_356 : decode cL_law 356 = .ok (.iload_n 3, 1) := by decide +kernel
theorem dL_law_357 : decode cL_law 357 = .ok (.iconst 2, 1) := by decide +kernel
theorem dL_law_358 : decode cL_law 358 = .ok (.iadd, 1) := by decide +kernel
theorem dL_law_359 : decode cL_law 359 = .ok (.iaload, 1) := by decide +kernel
theorem dL_law_360 : decode cL_law 360 = .ok (.invokevirtual 35, 3) := by decide +kernel
theorem dL_law_363 : decode cL_law 363 = .ok (.aload_n 2, 1) := by decide +kernel
theorem dL_law_364 : decode cL_law 364 = .ok (.aload_n 0, 1) := by decide +kernel
theorem dL_law_365 : decode cL_law 365 = .ok (.iload_n 3, 1) := by decide +kernel
theorem dL_law_366 : decode cL_law 366 = .ok (.iconst 1, 1) := by decide +kernel
theorem dL_law_367 : decode cL_law 367 = .ok (.iadd, 1) := by decide +kernel
theorem dL_law_368 : decode cL_law 368 = .ok (.iaload, 1) := by decide +kernel
theorem dL_law_369 : decode cL_law 369 = .ok (.aload_n 0, 1) := by decide +kernel
theorem dL_law_370 : decode cL_law 370 = .ok (.iload_n 3, 1) := by decide +kernel
theorem dL_law_371 : decode cL_law 371 = .ok (.iconst 2, 1) := by decide +kernel
theorem dL_law_372 : decode cL_law 372 = .ok (.iadd, 1) := by decide +kernel
theorem dL_law_373 : decode cL_law 373 = .ok (.iaload, 1) := by decide +kernel
theorem dL_law_374 : decode cL_law 374 = .ok (.invokevirtual 38, 3) := by decide +kernel
theorem dL_law_377 : decode cL_law 377 = .ok (.if_icmp .eq 589, 3) := by decide +kernel
theorem dL_law_380 : decode cL_law 380 = .ok (.iconst 0, 1) := by decide +kernel
theorem dL_law_381 : decode cL_law 381 = .ok (.ireturn, 1) := by decide +kernel
theorem dL_law_382 : decode cL_law 382 = .ok (.aload_n 1, 1) := by decide +kernel
theorem dL_law_383 : decode cL_law 383 = .ok (.aload_n 0, 1) := by decide +kernel
theorem dL_law_384 : decode cL_law 384 = .ok (.iload_n 3, 1) := by decide +kernel
theorem dL_law_385 : decode cL_law 385 = .ok (.iconst 1, 1) := by decide +kernel
theorem dL_law_386 : decode cL_law 386 = .ok (.iadd, 1) := by decide +kernel
theorem dL_law_387 : decode cL_law 387 = .ok (.iaload, 1) := by decide +kernel
theorem dL_law_388 : decode cL_law 388 = .ok (.aload_n 0, 1) := by decide +kernel
theorem dL_law_389 : decode cL_law 389 = .ok (.iload_n 3, 1) := by decide +kernel
theorem dL_law_390 : decode cL_law 390 = .ok (.iconst 2, 1) := by decide +kernel
theorem dL_law_391 : decode cL_law 391 = .ok (.iadd, 1) := by decide +kernel
theorem dL_law_392 : decode cL_law 392 = .ok (.iaload, 1) := by decide +kernel
theorem dL_law_393 : decode cL_law 393 = .ok (.invokevirtual 39, 3) := by decide +kernel
theorem dL_law_396 : decode cL_law 396 = .ok (.aload_n 2, 1) := by decide +kernel
theorem dL_law_397 : decode cL_law 397 = .ok (.aload_n 0, 1) := by decide +kernel
theorem dL_law_398 : decode cL_law 398 = .ok (.iload_n 3, 1) := by decide +kernel
theorem dL_law_399 : decode cL_law 399 = .ok (.iconst 1, 1) := by decide +kernel
theorem dL_law_400 : decode cL_law 400 = .ok (.iadd, 1) := by decide +kernel
theorem dL_law_401 : decode cL_law 401 = .ok (.iaload, 1) := by decide +kernel
theorem dL_law_402 : decode cL_law 402 = .ok (.aload_n 0, 1) := by decide +kernel
theorem dL_law_403 : decode cL_law 403 = .ok (.iload_n 3, 1) := by decide +kernel
theorem dL_law_404 : decode cL_law 404 = .ok (.iconst 2, 1) := by decide +kernel
theorem dL_law_405 : decode cL_law 405 = .ok (.iadd, 1) := by decide +kernel
theorem dL_law_406 : decode cL_law 406 = .ok (.iaload, 1) := by decide +kernel
theorem dL_law_407 : decode cL_law 407 = .ok (.invokevirtual 42, 3) := by decide +kernel
theorem dL_law_410 : decode cL_law 410 = .ok (.if_icmp .eq 556, 3) := by decide +kernel
theorem dL_law_413 : decode cL_law 413 = .ok (.iconst 0, 1) := by decide +kernel
theorem dL_law_414 : decode cL_law 414 = .ok (.ireturn, 1) := by decide +kernel
theorem dL_law_415 : decode cL_law 415 = .ok (.aload_n 1, 1) := by decide +kernel
theorem dL_law_416 : decode cL_law 416 = .ok (.aload_n 0, 1) := by decide +kernel
theorem dL_law_417 : decode cL_law 417 = .ok (.iload_n 3, 1) := by decide +kernel
theorem dL_law_418 : decode cL_law 418 = .ok (.iconst 1, 1) := by decide +kernel
theorem dL_law_419 : decode cL_law 419 = .ok (.iadd, 1) := by decide +kernel
theorem dL_law_420 : decode cL_law 420 = .ok (.iaload, 1) := by decide +kernel
theorem dL_law_421 : decode cL_law 421 = .ok (.invokevirtual 43, 3) := by decide +kernel
theorem dL_law_424 : decode cL_law 424 = .ok (.aload_n 2, 1) := by decide +kernel
theorem dL_law_425 : decode cL_law 425 = .ok (.aload_n 0, 1) := by decide +kernel
theorem dL_law_426 : decode cL_law 426 = .ok (.iload_n 3, 1) := by decide +kernel
theorem dL_law_427 : decode cL_law 427 = .ok (.iconst 1, 1) := by decide +kernel
theorem dL_law_428 : decode cL_law 428 = .ok (.iadd, 1) := by decide +kernel
theorem dL_law_429 : decode cL_law 429 = .ok (.iaload, 1) := by decide +kernel
theorem dL_law_430 : decode cL_law 430 = .ok (.invokevirtual 47, 3) := by decide +kernel
theorem dL_law_433 : decode cL_law 433 = .ok (.if_icmp .eq 533, 3) := by decide +kernel
theorem dL_law_436 : decode cL_law 436 = .ok (.iconst 0, 1) := by decide +kernel
theorem dL_law_437 : decode cL_law 437 = .ok (.ireturn, 1) := by decide +kernel
theorem dL_law_438 : decode cL_law 438 = .ok (.aload_n 1, 1) := by decide +kernel
theorem dL_law_439 : decode cL_law 439 = .ok (.invokevirtual 48, 3) := by decide +kernel
theorem dL_law_442 : decode cL_law 442 = .ok (.aload_n 2, 1) := by decide +kernel
theorem dL_law_443 : decode cL_law 443 = .ok (.invokevirtual 52, 3) := by decide +kernel
theorem dL_law_446 : decode cL_law 446 = .ok (.if_icmp .eq 520, 3) := by decide +kernel
theorem dL_law_449 : decode cL_law 449 = .ok (.iconst 0, 1) := by decide +kernel
theorem dL_law_450 : decode cL_law 450 = .ok (.ireturn, 1) := by decide +kernel
theorem dL_law_451 : decode cL_law 451 = .ok (.aload_n 1, 1) := by decide +kernel
theorem dL_law_452 : decode cL_law 452 = .ok (.aload_n 0, 1) := by decide +kernel
theorem dL_law_453 : decode cL_law 453 = .ok (.iload_n 3, 1) := by decide +kernel
theorem dL_law_454 : decode cL_law 454 = .ok (.iconst 1, 1) := by decide +kernel
theorem dL_law_455 : decode cL_law 455 = .ok (.iadd, 1) := by decide +kernel
theorem dL_law_456 : decode cL_law 456 = .ok (.iaload, 1) := by decide +kernel
theorem dL_law_457 : decode cL_law 457 = .ok (.aload_n 0, 1) := by decide +kernel
theorem dL_law_458 : decode cL_law 458 = .ok (.iload_n 3, 1) := by decide +kernel
theorem dL_law_459 : decode cL_law 459 = .ok (.iconst 2, 1) := by decide +kernel
theorem dL_law_460 : decode cL_law 460 = .ok (.iadd, 1) := by decide +kernel
theorem dL_law_461 : decode cL_law 461 = .ok (.iaload, 1) := by decide +kernel
theorem dL_law_462 : decode cL_law 462 = .ok (.aload_n 0, 1) := by decide +kernel
theorem dL_law_463 : decode cL_law 463 = .ok (.iload_n 3, 1) := by decide +kernel
theorem dL_law_464 : decode cL_law 464 = .ok (.iconst 3, 1) := by decide +kernel
theorem dL_law_465 : decode cL_law 465 = .ok (.iadd, 1) := by decide +kernel
theorem dL_law_466 : decode cL_law 466 = .ok (.iaload, 1) := by decide +kernel
theorem dL_law_467 : decode cL_law 467 = .ok (.invokevirtual 53, 3) := by decide +kernel
theorem dL_law_470 : decode cL_law 470 = .ok (.aload_n 2, 1) := by decide +kernel
theorem dL_law_471 : decode cL_law 471 = .ok (.aload_n 0, 1) := by decide +kernel
theorem dL_law_472 : decode cL_law 472 = .ok (.iload_n 3, 1) := by decide +kernel
theorem dL_law_473 : decode cL_law 473 = .ok (.iconst 1, 1) := by decide +kernel
theorem dL_law_474 : decode cL_law 474 = .ok (.iadd, 1) := by decide +kernel
theorem dL_law_475 : decode cL_law 475 = .ok (.iaload, 1) := by decide +kernel
theorem dL_law_476 : decode cL_law 476 = .ok (.aload_n 0, 1) := by decide +kernel
theorem dL_law_477 : decode cL_law 477 = .ok (.iload_n 3, 1) := by decide +kernel
theorem dL_law_478 : decode cL_law 478 = .ok (.iconst 2, 1) := by decide +kernel
theorem dL_law_479 : decode cL_law 479 = .ok (.iadd, 1) := by decide +kernel
theorem dL_law_480 : decode cL_law 480 = .ok (.iaload, 1) := by decide +kernel
theorem dL_law_481 : decode cL_law 481 = .ok (.aload_n 0, 1) := by decide +kernel
theorem dL_law_482 : decode cL_law 482 = .ok (.iload_n 3, 1) := by decide +kernel
theorem dL_law_483 : decode cL_law 483 = .ok (.iconst 3, 1) := by decide +kernel
theorem dL_law_484 : decode cL_law 484 = .ok (.iadd, 1) := by decide +kernel
theorem dL_law_485 : decode cL_law 485 = .ok (.iaload, 1) := by decide +kernel
theorem dL_law_486 : decode cL_law 486 = .ok (.invokevirtual 57, 3) := by decide +kernel
theorem dL_law_489 : decode cL_law 489 = .ok (.if_icmp .eq 477, 3) := by decide +kernel
theorem dL_law_492 : decode cL_law 492 = .ok (.iconst 0, 1) := by decide +kernel
theorem dL_law_493 : decode cL_law 493 = .ok (.ireturn, 1) := by decide +kernel
theorem dL_law_494 : decode cL_law 494 = .ok (.aload_n 1, 1) := by decide +kernel
theorem dL_law_495 : decode cL_law 495 = .ok (.aload_n 0, 1) := by decide +kernel
theorem dL_law_496 : decode cL_law 496 = .ok (.iload_n 3, 1) := by decide +kernel
theorem dL_law_497 : decode cL_law 497 = .ok (.iconst 1, 1) := by decide +kernel
theorem dL_law_498 : decode cL_law 498 = .ok (.iadd, 1) := by decide +kernel
theorem dL_law_499 : decode cL_law 499 = .ok (.iaload, 1) := by decide +kernel
theorem dL_law_500 : decode cL_law 500 = .ok (.aload_n 0, 1) := by decide +kernel
theorem dL_law_501 : decode cL_law 501 = .ok (.iload_n 3, 1) := by decide +kernel
theorem dL_law_502 : decode cL_law 502 = .ok (.iconst 2, 1) := by decide +kernel
theorem dL_law_503 : decode cL_law 503 = .ok (.iadd, 1) := by decide +kernel
theorem dL_law_504 : decode cL_law 504 = .ok (.iaload, 1) := by decide +kernel
theorem dL_law_505 : decode cL_law 505 = .ok (.aload_n 0, 1) := by decide +kernel
theorem dL_law_506 : decode cL_law 506 = .ok (.iload_n 3, 1) := by decide +kernel
theorem dL_law_507 : decode cL_law 507 = .ok (.iconst 3, 1) := by decide +kernel
theorem dL_law_508 : decode cL_law 508 = .ok (.iadd, 1) := by decide +kernel
theorem dL_law_509 : decode cL_law 509 = .ok (.iaload, 1) := by decide +kernel
theorem dL_law_510 : decode cL_law 510 = .ok (.aload_n 0, 1) := by decide +kernel
theorem dL_law_511 : decode cL_law 511 = .ok (.iload_n 3, 1) := by decide +kernel
theorem dL_law_512 : decode cL_law 512 = .ok (.iconst 4, 1) := by decide +kernel
theorem dL_law_513 : decode cL_law 513 = .ok (.iadd, 1) := by decide +kernel
theorem dL_law_514 : decode cL_law 514 = .ok (.iaload, 1) := by decide +kernel
theorem dL_law_515 : decode cL_law 515 = .ok (.invokevirtual 58, 3) := by decide +kernel
theorem dL_law_518 : decode cL_law 518 = .ok (.aload_n 2, 1) := by decide +kernel
theorem dL_law_519 : decode cL_law 519 = .ok (.aload_n 0, 1) := by decide +kernel
theorem dL_law_520 : decode cL_law 520 = .ok (.iload_n 3, 1) := by decide +kernel
theorem dL_law_521 : decode cL_law 521 = .ok (.iconst 1, 1) := by decide +kernel
theorem dL_law_522 : decode cL_law 522 = .ok (.iadd, 1) := by decide +kernel
theorem dL_law_523 : decode cL_law 523 = .ok (.iaload, 1) := by decide +kernel
theorem dL_law_524 : decode cL_law 524 = .ok (.aload_n 0, 1) := by decide +kernel
theorem dL_law_525 : decode cL_law 525 = .ok (.iload_n 3, 1) := by decide +kernel
theorem dL_law_526 : decode cL_law 526 = .ok (.iconst 2, 1) := by decide +kernel
theorem dL_law_527 : decode cL_law 527 = .ok (.iadd, 1) := by decide +kernel
theorem dL_law_528 : decode cL_law 528 = .ok (.iaload, 1) := by decide +kernel
theorem dL_law_529 : decode cL_law 529 = .ok (.aload_n 0, 1) := by decide +kernel
theorem dL_law_530 : decode cL_law 530 = .ok (.iload_n 3, 1) := by decide +kernel
theorem dL_law_531 : decode cL_law 531 = .ok (.iconst 3, 1) := by decide +kernel
theorem dL_law_532 : decode cL_law 532 = .ok (.iadd, 1) := by decide +kernel
theorem dL_law_533 : decode cL_law 533 = .ok (.iaload, 1) := by decide +kernel
theorem dL_law_534 : decode cL_law 534 = .ok (.aload_n 0, 1) := by decide +kernel
theorem dL_law_535 : decode cL_law 535 = .ok (.iload_n 3, 1) := by decide +kernel
theorem dL_law_536 : decode cL_law 536 = .ok (.iconst 4, 1) := by decide +kernel
theorem dL_law_537 : decode cL_law 537 = .ok (.iadd, 1) := by decide +kernel
theorem dL_law_538 : decode cL_law 538 = .ok (.iaload, 1) := by decide +kernel
theorem dL_law_539 : decode cL_law 539 = .ok (.invokevirtual 62, 3) := by decide +kernel
theorem dL_law_542 : decode cL_law 542 = .ok (.if_icmp .eq 424, 3) := by decide +kernel
theorem dL_law_545 : decode cL_law 545 = .ok (.iconst 0, 1) := by decide +kernel
theorem dL_law_546 : decode cL_law 546 = .ok (.ireturn, 1) := by decide +kernel
theorem dL_law_547 : decode cL_law 547 = .ok (.aload_n 1, 1) := by decide +kernel
theorem dL_law_548 : decode cL_law 548 = .ok (.aload_n 0, 1) := by decide +kernel
theorem dL_law_549 : decode cL_law 549 = .ok (.iload_n 3, 1) := by decide +kernel
theorem dL_law_550 : decode cL_law 550 = .ok (.iconst 1, 1) := by decide +kernel
theorem dL_law_551 : decode cL_law 551 = .ok (.iadd, 1) := by decide +kernel
theorem dL_law_552 : decode cL_law 552 = .ok (.iaload, 1) := by decide +kernel
theorem dL_law_553 : decode cL_law 553 = .ok (.aload_n 0, 1) := by decide +kernel
theorem dL_law_554 : decode cL_law 554 = .ok (.iload_n 3, 1) := by decide +kernel
theorem dL_law_555 : decode cL_law 555 = .ok (.iconst 2, 1) := by decide +kernel
theorem dL_law_556 : decode cL_law 556 = .ok (.iadd, 1) := by decide +kernel
theorem dL_law_557 : decode cL_law 557 = .ok (.iaload, 1) := by decide +kernel
theorem dL_law_558 : decode cL_law 558 = .ok (.invokevirtual 63, 3) := by decide +kernel
theorem dL_law_561 : decode cL_law 561 = .ok (.aload_n 2, 1) := by decide +kernel
theorem dL_law_562 : decode cL_law 562 = .ok (.aload_n 0, 1) := by decide +kernel
theorem dL_law_563 : decode cL_law 563 = .ok (.iload_n 3, 1) := by decide +kernel
theorem dL_law_564 : decode cL_law 564 = .ok (.iconst 1, 1) := by decide +kernel
theorem dL_law_565 : decode cL_law 565 = .ok (.iadd, 1) := by decide +kernel
theorem dL_law_566 : decode cL_law 566 = .ok (.iaload, 1) := by decide +kernel
theorem dL_law_567 : decode cL_law 567 = .ok (.aload_n 0, 1) := by decide +kernel
theorem dL_law_568 : decode cL_law 568 = .ok (.iload_n 3, 1) := by decide +kernel
theorem dL_law_569 : decode cL_law 569 = .ok (.iconst 2, 1) := by decide +kernel
theorem dL_law_570 : decode cL_law 570 = .ok (.iadd, 1) := by decide +kernel
theorem dL_law_571 : decode cL_law 571 = .ok (.iaload, 1) := by decide +kernel
theorem dL_law_572 : decode cL_law 572 = .ok (.invokevirtual 66, 3) := by decide +kernel
theorem dL_law_575 : decode cL_law 575 = .ok (.if_icmp .eq 391, 3) := by decide +kernel
theorem dL_law_578 : decode cL_law 578 = .ok (.iconst 0, 1) := by decide +kernel
theorem dL_law_579 : decode cL_law 579 = .ok (.ireturn, 1) := by decide +kernel
theorem dL_law_580 : decode cL_law 580 = .ok (.aload_n 1, 1) := by decide +kernel
theorem dL_law_581 : decode cL_law 581 = .ok (.aload_n 0, 1) := by decide +kernel
theorem dL_law_582 : decode cL_law 582 = .ok (.iload_n 3, 1) := by decide +kernel
theorem dL_law_583 : decode cL_law 583 = .ok (.iconst 1, 1) := by decide +kernel
theorem dL_law_584 : decode cL_law 584 = .ok (.iadd, 1) := by decide +kernel
theorem dL_law_585 : decode cL_law 585 = .ok (.iaload, 1) := by decide +kernel
theorem dL_law_586 : decode cL_law 586 = .ok (.ifCond .eq 7, 3) := by decide +kernel
theorem dL_law_589 : decode cL_law 589 = .ok (.iconst 1, 1) := by decide +kernel
theorem dL_law_590 : decode cL_law 590 = .ok (.goto 4, 3) := by decide +kernel
theorem dL_law_593 : decode cL_law 593 = .ok (.iconst 0, 1) := by decide +kernel
theorem dL_law_594 : decode cL_law 594 = .ok (.invokevirtual 67, 3) := by decide +kernel
theorem dL_law_597 : decode cL_law 597 = .ok (.aload_n 2, 1) := by decide +kernel
theorem dL_law_598 : decode cL_law 598 = .ok (.aload_n 0, 1) := by decide +kernel
theorem dL_law_599 : decode cL_law 599 = .ok (.iload_n 3, 1) := by decide +kernel
theorem dL_law_600 : decode cL_law 600 = .ok (.iconst 1, 1) := by decide +kernel
theorem dL_law_601 : decode cL_law 601 = .ok (.iadd, 1) := by decide +kernel
theorem dL_law_602 : decode cL_law 602 = .ok (.iaload, 1) := by decide +kernel
theorem dL_law_603 : decode cL_law 603 = .ok (.ifCond .eq 7, 3) := by decide +kernel
theorem dL_law_606 : decode cL_law 606 = .ok (.iconst 1, 1) := by decide +kernel
theorem dL_law_607 : decode cL_law 607 = .ok (.goto 4, 3) := by decide +kernel
theorem dL_law_610 : decode cL_law 610 = .ok (.iconst 0, 1) := by decide +kernel
theorem dL_law_611 : decode cL_law 611 = .ok (.invokevirtual 71, 3) := by decide +kernel
theorem dL_law_614 : decode cL_law 614 = .ok (.if_icmp .eq 352, 3) := by decide +kernel
theorem dL_law_617 : decode cL_law 617 = .ok (.iconst 0, 1) := by decide +kernel
theorem dL_law_618 : decode cL_law 618 = .ok (.ireturn, 1) := by decide +kernel
theorem dL_law_619 : decode cL_law 619 = .ok (.aload_n 1, 1) := by decide +kernel
theorem dL_law_620 : decode cL_law 620 = .ok (.aload_n 0, 1) := by decide +kernel
theorem dL_law_621 : decode cL_law 621 = .ok (.iload_n 3, 1) := by decide +kernel
theorem dL_law_622 : decode cL_law 622 = .ok (.iconst 1, 1) := by decide +kernel
theorem dL_law_623 : decode cL_law 623 = .ok (.iadd, 1) := by decide +kernel
theorem dL_law_624 : decode cL_law 624 = .ok (.iaload, 1) := by decide +kernel
theorem dL_law_625 : decode cL_law 625 = .ok (.aload_n 0, 1) := by decide +kernel
theorem dL_law_626 : decode cL_law 626 = .ok (.iload_n 3, 1) := by decide +kernel
theorem dL_law_627 : decode cL_law 627 = .ok (.iconst 2, 1) := by decide +kernel
theorem dL_law_628 : decode cL_law 628 = .ok (.iadd, 1) := by decide +kernel
theorem dL_law_629 : decode cL_law 629 = .ok (.iaload, 1) := by decide +kernel
theorem dL_law_630 : decode cL_law 630 = .ok (.aload_n 0, 1) := by decide +kernel
theorem dL_law_631 : decode cL_law 631 = .ok (.iload_n 3, 1) := by decide +kernel
theorem dL_law_632 : decode cL_law 632 = .ok (.iconst 3, 1) := by decide +kernel
theorem dL_law_633 : decode cL_law 633 = .ok (.iadd, 1) := by decide +kernel
theorem dL_law_634 : decode cL_law 634 = .ok (.iaload, 1) := by decide +kernel
theorem dL_law_635 : decode cL_law 635 = .ok (.aload_n 0, 1) := by decide +kernel
theorem dL_law_636 : decode cL_law 636 = .ok (.iload_n 3, 1) := by decide +kernel
theorem dL_law_637 : decode cL_law 637 = .ok (.iconst 4, 1) := by decide +kernel
theorem dL_law_638 : decode cL_law 638 = .ok (.iadd, 1) := by decide +kernel
theorem dL_law_639 : decode cL_law 639 = .ok (.iaload, 1) := by decide +kernel
theorem dL_law_640 : decode cL_law 640 = .ok (.invokevirtual 72, 3) := by decide +kernel
theorem dL_law_643 : decode cL_law 643 = .ok (.aload_n 2, 1) := by decide +kernel
theorem dL_law_644 : decode cL_law 644 = .ok (.aload_n 0, 1) := by decide +kernel
theorem dL_law_645 : decode cL_law 645 = .ok (.iload_n 3, 1) := by decide +kernel
theorem dL_law_646 : decode cL_law 646 = .ok (.iconst 1, 1) := by decide +kernel
theorem dL_law_647 : decode cL_law 647 = .ok (.iadd, 1) := by decide +kernel
theorem dL_law_648 : decode cL_law 648 = .ok (.iaload, 1) := by decide +kernel
theorem dL_law_649 : decode cL_law 649 = .ok (.aload_n 0, 1) := by decide +kernel
theorem dL_law_650 : decode cL_law 650 = .ok (.iload_n 3, 1) := by decide +kernel
theorem dL_law_651 : decode cL_law 651 = .ok (.iconst 2, 1) := by decide +kernel
theorem dL_law_652 : decode cL_law 652 = .ok (.iadd, 1) := by decide +kernel
theorem dL_law_653 : decode cL_law 653 = .ok (.iaload, 1) := by decide +kernel
theorem dL_law_654 : decode cL_law 654 = .ok (.aload_n 0, 1) := by decide +kernel
theorem dL_law_655 : decode cL_law 655 = .ok (.iload_n 3, 1) := by decide +kernel
theorem dL_law_656 : decode cL_law 656 = .ok (.iconst 3, 1) := by decide +kernel
theorem dL_law_657 : decode cL_law 657 = .ok (.iadd, 1) := by decide +kernel
theorem dL_law_658 : decode cL_law 658 = .ok (.iaload, 1) := by decide +kernel
theorem dL_law_659 : decode cL_law 659 = .ok (.aload_n 0, 1) := by decide +kernel
theorem dL_law_660 : decode cL_law 660 = .ok (.iload_n 3, 1) := by decide +kernel
theorem dL_law_661 : decode cL_law 661 = .ok (.iconst 4, 1) := by decide +kernel
theorem dL_law_662 : decode cL_law 662 = .ok (.iadd, 1) := by decide +kernel
theorem dL_law_663 : decode cL_law 663 = .ok (.iaload, 1) := by decide +kernel
theorem dL_law_664 : decode cL_law 664 = .ok (.invokevirtual 75, 3) := by decide +kernel
theorem dL_law_667 : decode cL_law 667 = .ok (.if_icmp .eq 299, 3) := by decide +kernel
theorem dL_law_670 : decode cL_law 670 = .ok (.iconst 0, 1) := by decide +kernel
theorem dL_law_671 : decode cL_law 671 = .ok (.ireturn, 1) := by decide +kernel
theorem dL_law_672 : decode cL_law 672 = .ok (.aload_n 1, 1) := by decide +kernel
theorem dL_law_673 : decode cL_law 673 = .ok (.aload_n 0, 1) := by decide +kernel
theorem dL_law_674 : decode cL_law 674 = .ok (.iload_n 3, 1) := by decide +kernel
theorem dL_law_675 : decode cL_law 675 = .ok (.iconst 1, 1) := by decide +kernel
theorem dL_law_676 : decode cL_law 676 = .ok (.iadd, 1) := by decide +kernel
theorem dL_law_677 : decode cL_law 677 = .ok (.iaload, 1) := by decide +kernel
theorem dL_law_678 : decode cL_law 678 = .ok (.aload_n 0, 1) := by decide +kernel
theorem dL_law_679 : decode cL_law 679 = .ok (.iload_n 3, 1) := by decide +kernel
theorem dL_law_680 : decode cL_law 680 = .ok (.iconst 2, 1) := by decide +kernel
theorem dL_law_681 : decode cL_law 681 = .ok (.iadd, 1) := by decide +kernel
theorem dL_law_682 : decode cL_law 682 = .ok (.iaload, 1) := by decide +kernel
theorem dL_law_683 : decode cL_law 683 = .ok (.aload_n 0, 1) := by decide +kernel
theorem dL_law_684 : decode cL_law 684 = .ok (.iload_n 3, 1) := by decide +kernel
theorem dL_law_685 : decode cL_law 685 = .ok (.iconst 3, 1) := by decide +kernel
theorem dL_law_686 : decode cL_law 686 = .ok (.iadd, 1) := by decide +kernel
theorem dL_law_687 : decode cL_law 687 = .ok (.iaload, 1) := by decide +kernel
theorem dL_law_688 : decode cL_law 688 = .ok (.invokevirtual 76, 3) := by decide +kernel
theorem dL_law_691 : decode cL_law 691 = .ok (.aload_n 2, 1) := by decide +kernel
theorem dL_law_692 : decode cL_law 692 = .ok (.aload_n 0, 1) := by decide +kernel
theorem dL_law_693 : decode cL_law 693 = .ok (.iload_n 3, 1) := by decide +kernel
theorem dL_law_694 : decode cL_law 694 = .ok (.iconst 1, 1) := by decide +kernel
theorem dL_law_695 : decode cL_law 695 = .ok (.iadd, 1) := by decide +kernel
theorem dL_law_696 : decode cL_law 696 = .ok (.iaload, 1) := by decide +kernel
theorem dL_law_697 : decode cL_law 697 = .ok (.aload_n 0, 1) := by decide +kernel
theorem dL_law_698 : decode cL_law 698 = .ok (.iload_n 3, 1) := by decide +kernel
theorem dL_law_699 : decode cL_law 699 = .ok (.iconst 2, 1) := by decide +kernel
theorem dL_law_700 : decode cL_law 700 = .ok (.iadd, 1) := by decide +kernel
theorem dL_law_701 : decode cL_law 701 = .ok (.iaload, 1) := by decide +kernel
theorem dL_law_702 : decode cL_law 702 = .ok (.aload_n 0, 1) := by decide +kernel
theorem dL_law_703 : decode cL_law 703 = .ok (.iload_n 3, 1) := by decide +kernel
theorem dL_law_704 : decode cL_law 704 = .ok (.iconst 3, 1) := by decide +kernel
theorem dL_law_705 : decode cL_law 705 = .ok (.iadd, 1) := by decide +kernel
theorem dL_law_706 : decode cL_law 706 = .ok (.iaload, 1) := by decide +kernel
theorem dL_law_707 : decode cL_law 707 = .ok (.invokevirtual 79, 3) := by decide +kernel
theorem dL_law_710 : decode cL_law 710 = .ok (.if_icmp .eq 256, 3) := by decide +kernel
theorem dL_law_713 : decode cL_law 713 = .ok (.iconst 0, 1) := by decide +kernel
theorem dL_law_714 : decode cL_law 714 = .ok (.ireturn, 1) := by decide +kernel
theorem dL_law_715 : decode cL_law 715 = .ok (.aload_n 1, 1) := by decide +kernel
theorem dL_law_716 : decode cL_law 716 = .ok (.aload_n 0, 1) := by decide +kernel
theorem dL_law_717 : decode cL_law 717 = .ok (.iload_n 3, 1) := by decide +kernel
theorem dL_law_718 : decode cL_law 718 = .ok (.iconst 1, 1) := by decide +kernel
theorem dL_law_719 : decode cL_law 719 = .ok (.iadd, 1) := by decide +kernel
theorem dL_law_720 : decode cL_law 720 = .ok (.iaload, 1) := by decide +kernel
theorem dL_law_721 : decode cL_law 721 = .ok (.aload_n 0, 1) := by decide +kernel
theorem dL_law_722 : decode cL_law 722 = .ok (.iload_n 3, 1) := by decide +kernel
theorem dL_law_723 : decode cL_law 723 = .ok (.iconst 2, 1) := by decide +kernel
theorem dL_law_724 : decode cL_law 724 = .ok (.iadd, 1) := by decide +kernel
theorem dL_law_725 : decode cL_law 725 = .ok (.iaload, 1) := by decide +kernel
theorem dL_law_726 : decode cL_law 726 = .ok (.invokevirtual 80, 3) := by decide +kernel
theorem dL_law_729 : decode cL_law 729 = .ok (.aload_n 2, 1) := by decide +kernel
theorem dL_law_730 : decode cL_law 730 = .ok (.aload_n 0, 1) := by decide +kernel
theorem dL_law_731 : decode cL_law 731 = .ok (.iload_n 3, 1) := by decide +kernel
theorem dL_law_732 : decode cL_law 732 = .ok (.iconst 1, 1) := by decide +kernel
theorem dL_law_733 : decode cL_law 733 = .ok (.iadd, 1) := by decide +kernel
theorem dL_law_734 : decode cL_law 734 = .ok (.iaload, 1) := by decide +kernel
theorem dL_law_735 : decode cL_law 735 = .ok (.aload_n 0, 1) := by decide +kernel
theorem dL_law_736 : decode cL_law 736 = .ok (.iload_n 3, 1) := by decide +kernel
theorem dL_law_737 : decode cL_law 737 = .ok (.iconst 2, 1) := by decide +kernel
theorem dL_law_738 : decode cL_law 738 = .ok (.iadd, 1) := by decide +kernel
theorem dL_law_739 : decode cL_law 739 = .ok (.iaload, 1) := by decide +kernel
theorem dL_law_740 : decode cL_law 740 = .ok (.invokevirtual 83, 3) := by decide +kernel
theorem dL_law_743 : decode cL_law 743 = .ok (.if_icmp .eq 223, 3) := by decide +kernel
theorem dL_law_746 : decode cL_law 746 = .ok (.iconst 0, 1) := by decide +kernel
theorem dL_law_747 : decode cL_law 747 = .ok (.ireturn, 1) := by decide +kernel
theorem dL_law_748 : decode cL_law 748 = .ok (.aload_n 1, 1) := by decide +kernel
theorem dL_law_749 : decode cL_law 749 = .ok (.aload_n 0, 1) := by decide +kernel
theorem dL_law_750 : decode cL_law 750 = .ok (.iload_n 3, 1) := by decide +kernel
theorem dL_law_751 : decode cL_law 751 = .ok (.iconst 1, 1) := by decide +kernel
theorem dL_law_752 : decode cL_law 752 = .ok (.iadd, 1) := by decide +kernel
theorem dL_law_753 : decode cL_law 753 = .ok (.iaload, 1) := by decide +kernel
theorem dL_law_754 : decode cL_law 754 = .ok (.aload_n 0, 1) := by decide +kernel
theorem dL_law_755 : decode cL_law 755 = .ok (.iload_n 3, 1) := by decide +kernel
theorem dL_law_756 : decode cL_law 756 = .ok (.iconst 2, 1) := by decide +kernel
theorem dL_law_757 : decode cL_law 757 = .ok (.iadd, 1) := by decide +kernel
theorem dL_law_758 : decode cL_law 758 = .ok (.iaload, 1) := by decide +kernel
theorem dL_law_759 : decode cL_law 759 = .ok (.invokevirtual 84, 3) := by decide +kernel
theorem dL_law_762 : decode cL_law 762 = .ok (.aload_n 2, 1) := by decide +kernel
theorem dL_law_763 : decode cL_law 763 = .ok (.aload_n 0, 1) := by decide +kernel
theorem dL_law_764 : decode cL_law 764 = .ok (.iload_n 3, 1) := by decide +kernel
theorem dL_law_765 : decode cL_law 765 = .ok (.iconst 1, 1) := by decide +kernel
theorem dL_law_766 : decode cL_law 766 = .ok (.iadd, 1) := by decide +kernel
theorem dL_law_767 : decode cL_law 767 = .ok (.iaload, 1) := by decide +kernel
theorem dL_law_768 : decode cL_law 768 = .ok (.aload_n 0, 1) := by decide +kernel
theorem dL_law_769 : decode cL_law 769 = .ok (.iload_n 3, 1) := by decide +kernel
theorem dL_law_770 : decode cL_law 770 = .ok (.iconst 2, 1) := by decide +kernel
theorem dL_law_771 : decode cL_law 771 = .ok (.iadd, 1) := by decide +kernel
theorem dL_law_772 : decode cL_law 772 = .ok (.iaload, 1) := by decide +kernel
theorem dL_law_773 : decode cL_law 773 = .ok (.invokevirtual 87, 3) := by decide +kernel
theorem dL_law_776 : decode cL_law 776 = .ok (.if_icmp .eq 190, 3) := by decide +kernel
theorem dL_law_779 : decode cL_law 779 = .ok (.iconst 0, 1) := by decide +kernel
theorem dL_law_780 : decode cL_law 780 = .ok (.ireturn, 1) := by decide +kernel
theorem dL_law_781 : decode cL_law 781 = .ok (.aload_n 1, 1) := by decide +kernel
theorem dL_law_782 : decode cL_law 782 = .ok (.aload_n 0, 1) := by decide +kernel
theorem dL_law_783 : decode cL_law 783 = .ok (.iload_n 3, 1) := by decide +kernel
theorem dL_law_784 : decode cL_law 784 = .ok (.iconst 1, 1) := by decide +kernel
theorem dL_law_785 : decode cL_law 785 = .ok (.iadd, 1) := by decide +kernel
theorem dL_law_786 : decode cL_law 786 = .ok (.iaload, 1) := by decide +kernel
theorem dL_law_787 : decode cL_law 787 = .ok (.invokevirtual 88, 3) := by decide +kernel
theorem dL_law_790 : decode cL_law 790 = .ok (.aload_n 2, 1) := by decide +kernel
theorem dL_law_791 : decode cL_law 791 = .ok (.aload_n 0, 1) := by decide +kernel
theorem dL_law_792 : decode cL_law 792 = .ok (.iload_n 3, 1) := by decide +kernel
theorem dL_law_793 : decode cL_law 793 = .ok (.iconst 1, 1) := by decide +kernel
theorem dL_law_794 : decode cL_law 794 = .ok (.iadd, 1) := by decide +kernel
theorem dL_law_795 : decode cL_law 795 = .ok (.iaload, 1) := by decide +kernel
theorem dL_law_796 : decode cL_law 796 = .ok (.invokevirtual 91, 3) := by decide +kernel
theorem dL_law_799 : decode cL_law 799 = .ok (.if_icmp .eq 167, 3) := by decide +kernel
theorem dL_law_802 : decode cL_law 802 = .ok (.iconst 0, 1) := by decide +kernel
theorem dL_law_803 : decode cL_law 803 = .ok (.ireturn, 1) := by decide +kernel
theorem dL_law_804 : decode cL_law 804 = .ok (.aload_n 1, 1) := by decide +kernel
theorem dL_law_805 : decode cL_law 805 = .ok (.aload_n 0, 1) := by decide +kernel
theorem dL_law_806 : decode cL_law 806 = .ok (.iload_n 3, 1) := by decide +kernel
theorem dL_law_807 : decode cL_law 807 = .ok (.iconst 1, 1) := by decide +kernel
theorem dL_law_808 : decode cL_law 808 = .ok (.iadd, 1) := by decide +kernel
theorem dL_law_809 : decode cL_law 809 = .ok (.iaload, 1) := by decide +kernel
theorem dL_law_810 : decode cL_law 810 = .ok (.aload_n 0, 1) := by decide +kernel
theorem dL_law_811 : decode cL_law 811 = .ok (.iload_n 3, 1) := by decide +kernel
theorem dL_law_812 : decode cL_law 812 = .ok (.iconst 2, 1) := by decide +kernel
theorem dL_law_813 : decode cL_law 813 = .ok (.iadd, 1) := by decide +kernel
theorem dL_law_814 : decode cL_law 814 = .ok (.iaload, 1) := by decide +kernel
theorem dL_law_815 : decode cL_law 815 = .ok (.invokevirtual 92, 3) := by decide +kernel
theorem dL_law_818 : decode cL_law 818 = .ok (.aload_n 2, 1) := by decide +kernel
theorem dL_law_819 : decode cL_law 819 = .ok (.aload_n 0, 1) := by decide +kernel
theorem dL_law_820 : decode cL_law 820 = .ok (.iload_n 3, 1) := by decide +kernel
theorem dL_law_821 : decode cL_law 821 = .ok (.iconst 1, 1) := by decide +kernel
theorem dL_law_822 : decode cL_law 822 = .ok (.iadd, 1) := by decide +kernel
theorem dL_law_823 : decode cL_law 823 = .ok (.iaload, 1) := by decide +kernel
theorem dL_law_824 : decode cL_law 824 = .ok (.aload_n 0, 1) := by decide +kernel
theorem dL_law_825 : decode cL_law 825 = .ok (.iload_n 3, 1) := by decide +kernel
theorem dL_law_826 : decode cL_law 826 = .ok (.iconst 2, 1) := by decide +kernel
theorem dL_law_827 : decode cL_law 827 = .ok (.iadd, 1) := by decide +kernel
theorem dL_law_828 : decode cL_law 828 = .ok (.iaload, 1) := by decide +kernel
theorem dL_law_829 : decode cL_law 829 = .ok (.invokevirtual 95, 3) := by decide +kernel
theorem dL_law_832 : decode cL_law 832 = .ok (.if_icmp .eq 134, 3) := by decide +kernel
theorem dL_law_835 : decode cL_law 835 = .ok (.iconst 0, 1) := by decide +kernel
theorem dL_law_836 : decode cL_law 836 = .ok (.ireturn, 1) := by decide +kernel
theorem dL_law_837 : decode cL_law 837 = .ok (.aload_n 1, 1) := by decide +kernel
theorem dL_law_838 : decode cL_law 838 = .ok (.invokevirtual 96, 3) := by decide +kernel
theorem dL_law_841 : decode cL_law 841 = .ok (.aload_n 2, 1) := by decide +kernel
theorem dL_law_842 : decode cL_law 842 = .ok (.invokevirtual 99, 3) := by decide +kernel
theorem dL_law_845 : decode cL_law 845 = .ok (.if_icmp .eq 121, 3) := by decide +kernel
theorem dL_law_848 : decode cL_law 848 = .ok (.iconst 0, 1) := by decide +kernel
theorem dL_law_849 : decode cL_law 849 = .ok (.ireturn, 1) := by decide +kernel
theorem dL_law_850 : decode cL_law 850 = .ok (.aload_n 1, 1) := by decide +kernel
theorem dL_law_851 : decode cL_law 851 = .ok (.invokevirtual 100, 3) := by decide +kernel
theorem dL_law_854 : decode cL_law 854 = .ok (.aload_n 2, 1) := by decide +kernel
theorem dL_law_855 : decode cL_law 855 = .ok (.invokevirtual 103, 3) := by decide +kernel
theorem dL_law_858 : decode cL_law 858 = .ok (.if_icmp .eq 108, 3) := by decide +kernel
theorem dL_law_861 : decode cL_law 861 = .ok (.iconst 0, 1) := by decide +kernel
theorem dL_law_862 : decode cL_law 862 = .ok (.ireturn, 1) := by decide +kernel
theorem dL_law_863 : decode cL_law 863 = .ok (.aload_n 1, 1) := by decide +kernel
theorem dL_law_864 : decode cL_law 864 = .ok (.aload_n 0, 1) := by decide +kernel
theorem dL_law_865 : decode cL_law 865 = .ok (.iload_n 3, 1) := by decide +kernel
theorem dL_law_866 : decode cL_law 866 = .ok (.iconst 1, 1) := by decide +kernel
theorem dL_law_867 : decode cL_law 867 = .ok (.iadd, 1) := by decide +kernel
theorem dL_law_868 : decode cL_law 868 = .ok (.iaload, 1) := by decide +kernel
theorem dL_law_869 : decode cL_law 869 = .ok (.invokevirtual 104, 3) := by decide +kernel
theorem dL_law_872 : decode cL_law 872 = .ok (.aload_n 2, 1) := by decide +kernel
theorem dL_law_873 : decode cL_law 873 = .ok (.aload_n 0, 1) := by decide +kernel
theorem dL_law_874 : decode cL_law 874 = .ok (.iload_n 3, 1) := by decide +kernel
theorem dL_law_875 : decode cL_law 875 = .ok (.iconst 1, 1) := by decide +kernel
theorem dL_law_876 : decode cL_law 876 = .ok (.iadd, 1) := by decide +kernel
theorem dL_law_877 : decode cL_law 877 = .ok (.iaload, 1) := by decide +kernel
theorem dL_law_878 : decode cL_law 878 = .ok (.invokevirtual 107, 3) := by decide +kernel
theorem dL_law_881 : decode cL_law 881 = .ok (.if_icmp .eq 85, 3) := by decide +kernel
theorem dL_law_884 : decode cL_law 884 = .ok (.iconst 0, 1) := by decide +kernel
theorem dL_law_885 : decode cL_law 885 = .ok (.ireturn, 1) := by decide +kernel
theorem dL_law_886 : decode cL_law 886 = .ok (.aload_n 1, 1) := by decide +kernel
theorem dL_law_887 : decode cL_law 887 = .ok (.aload_n 0, 1) := by decide +kernel
theorem dL_law_888 : decode cL_law 888 = .ok (.iload_n 3, 1) := by decide +kernel
theorem dL_law_889 : decode cL_law 889 = .ok (.iconst 1, 1) := by decide +kernel
theorem dL_law_890 : decode cL_law 890 = .ok (.iadd, 1) := by decide +kernel
theorem dL_law_891 : decode cL_law 891 = .ok (.iaload, 1) := by decide +kernel
theorem dL_law_892 : decode cL_law 892 = .ok (.aload_n 0, 1) := by decide +kernel
theorem dL_law_893 : decode cL_law 893 = .ok (.iload_n 3, 1) := by decide +kernel
theorem dL_law_894 : decode cL_law 894 = .ok (.iconst 2, 1) := by decide +kernel
theorem dL_law_895 : decode cL_law 895 = .ok (.iadd, 1) := by decide +kernel
theorem dL_law_896 : decode cL_law 896 = .ok (.iaload, 1) := by decide +kernel
theorem dL_law_897 : decode cL_law 897 = .ok (.aload_n 0, 1) := by decide +kernel
theorem dL_law_898 : decode cL_law 898 = .ok (.iload_n 3, 1) := by decide +kernel
theorem dL_law_899 : decode cL_law 899 = .ok (.iconst 3, 1) := by decide +kernel
theorem dL_law_900 : decode cL_law 900 = .ok (.iadd, 1) := by decide +kernel
theorem dL_law_901 : decode cL_law 901 = .ok (.iaload, 1) := by decide +kernel
theorem dL_law_902 : decode cL_law 902 = .ok (.invokevirtual 108, 3) := by decide +kernel
theorem dL_law_905 : decode cL_law 905 = .ok (.aload_n 2, 1) := by decide +kernel
theorem dL_law_906 : decode cL_law 906 = .ok (.aload_n 0, 1) := by decide +kernel
theorem dL_law_907 : decode cL_law 907 = .ok (.iload_n 3, 1) := by decide +kernel
theorem dL_law_908 : decode cL_law 908 = .ok (.iconst 1, 1) := by decide +kernel
theorem dL_law_909 : decode cL_law 909 = .ok (.iadd, 1) := by decide +kernel
theorem dL_law_910 : decode cL_law 910 = .ok (.iaload, 1) := by decide +kernel
theorem dL_law_911 : decode cL_law 911 = .ok (.aload_n 0, 1) := by decide +kernel
theorem dL_law_912 : decode cL_law 912 = .ok (.iload_n 3, 1) := by decide +kernel
theorem dL_law_913 : decode cL_law 913 = .ok (.iconst 2, 1) := by decide +kernel
theorem dL_law_914 : decode cL_law 914 = .ok (.iadd, 1) := by decide +kernel
theorem dL_law_915 : decode cL_law 915 = .ok (.iaload, 1) := by decide +kernel
theorem dL_law_916 : decode cL_law 916 = .ok (.aload_n 0, 1) := by decide +kernel
theorem dL_law_917 : decode cL_law 917 = .ok (.iload_n 3, 1) := by decide +kernel
theorem dL_law_918 : decode cL_law 918 = .ok (.iconst 3, 1) := by decide +kernel
theorem dL_law_919 : decode cL_law 919 = .ok (.iadd, 1) := by decide +kernel
theorem dL_law_920 : decode cL_law 920 = .ok (.iaload, 1) := by decide +kernel
theorem dL_law_921 : decode cL_law 921 = .ok (.invokevirtual 111, 3) := by decide +kernel
theorem dL_law_924 : decode cL_law 924 = .ok (.if_icmp .eq 42, 3) := by decide +kernel
theorem dL_law_927 : decode cL_law 927 = .ok (.iconst 0, 1) := by decide +kernel
theorem dL_law_928 : decode cL_law 928 = .ok (.ireturn, 1) := by decide +kernel
theorem dL_law_929 : decode cL_law 929 = .ok (.aload_n 1, 1) := by decide +kernel
theorem dL_law_930 : decode cL_law 930 = .ok (.aload_n 0, 1) := by decide +kernel
theorem dL_law_931 : decode cL_law 931 = .ok (.iload_n 3, 1) := by decide +kernel
theorem dL_law_932 : decode cL_law 932 = .ok (.iconst 1, 1) := by decide +kernel
theorem dL_law_933 : decode cL_law 933 = .ok (.iadd, 1) := by decide +kernel
theorem dL_law_934 : decode cL_law 934 = .ok (.iaload, 1) := by decide +kernel
theorem dL_law_935 : decode cL_law 935 = .ok (.invokevirtual 112, 3) := by decide +kernel
theorem dL_law_938 : decode cL_law 938 = .ok (.aload_n 2, 1) := by decide +kernel
theorem dL_law_939 : decode cL_law 939 = .ok (.aload_n 0, 1) := by decide +kernel
theorem dL_law_940 : decode cL_law 940 = .ok (.iload_n 3, 1) := by decide +kernel
theorem dL_law_941 : decode cL_law 941 = .ok (.iconst 1, 1) := by decide +kernel
theorem dL_law_942 : decode cL_law 942 = .ok (.iadd, 1) := by decide +kernel
theorem dL_law_943 : decode cL_law 943 = .ok (.iaload, 1) := by decide +kernel
theorem dL_law_944 : decode cL_law 944 = .ok (.invokevirtual 115, 3) := by decide +kernel
theorem dL_law_947 : decode cL_law 947 = .ok (.if_icmp .eq 19, 3) := by decide +kernel
theorem dL_law_950 : decode cL_law 950 = .ok (.iconst 0, 1) := by decide +kernel
theorem dL_law_951 : decode cL_law 951 = .ok (.ireturn, 1) := by decide +kernel
theorem dL_law_952 : decode cL_law 952 = .ok (.aload_n 1, 1) := by decide +kernel
theorem dL_law_953 : decode cL_law 953 = .ok (.invokevirtual 116, 3) := by decide +kernel
theorem dL_law_956 : decode cL_law 956 = .ok (.aload_n 2, 1) := by decide +kernel
theorem dL_law_957 : decode cL_law 957 = .ok (.invokevirtual 120, 3) := by decide +kernel
theorem dL_law_960 : decode cL_law 960 = .ok (.lcmp, 1) := by decide +kernel
theorem dL_law_961 : decode cL_law 961 = .ok (.ifCond .eq 5, 3) := by decide +kernel
theorem dL_law_964 : decode cL_law 964 = .ok (.iconst 0, 1) := by decide +kernel
theorem dL_law_965 : decode cL_law 965 = .ok (.ireturn, 1) := by decide +kernel
theorem dL_law_966 : decode cL_law 966 = .ok (.iinc 3 5, 3) := by decide +kernel
theorem dL_law_969 : decode cL_law 969 = .ok (.goto (-951), 3) := by decide +kernel
theorem dL_law_972 : decode cL_law 972 = .ok (.iconst 1, 1) := by decide +kernel
theorem dL_law_973 : decode cL_law 973 = .ok (.ireturn, 1) := by decide +kernel
end
section
/-! The layer of this proof: one word for the class tables (nwK), one form of contract (nwCi, nwCl, nwCv), its way in, its ends, its calls. A world is a list of cells; a call cuts the callee's cells out of it and puts back what came. -/
abbrev nwG : Type := va_G × ClassId × ClassId × ClassId
abbrev nwTys (G : nwG) : List (ClassId × FieldType) := [(G.2.1, .int), (G.2.2.1, .boolean), (G.2.2.2, .array .int)]
def nwNest : List (String × Nat × MethodName × String) := [(RX6, 9, yX5_init, RX6), (RX6, 27, yX1_init, RX6), (RX6, 41, yX0_init, RX6), (RX5, 36, yX6_outside, RX6), (RX4, 72, yX6_outside, RX6), (RX1, 16, yX6_outside, RX6), (RX3, 30, yX6_outside, RX6), (RX0, 25, yX6_outside, RX6), (RX2, 10, yX6_outside, RX6), (RX5, 59, yX6_mix, RX6), (RX4, 68, yX6_mix, RX6), (RX1, 48, yX6_mix, RX6), (RX3, 38, yX6_mix, RX6), (RX0, 33, yX6_mix, RX6)]
def nwK (G : nwG) (U : State) : Prop := va_K G.1 vwCl (nwTys G) U ∧ ∀ q ∈ nwNest, va_Nw (.methodLinkNest q.1 q.2.1 q.2.2.1 q.2.2.2) U
theorem nwK.warm {G : nwG} {s U : State} (hW : s.WarmedH U.vm) (h : nwK G s) : nwK G U := ⟨va_K.moved hW.alike h.1, fun q hq => va_Nw.warmM hW (h.2 q hq)⟩
theorem nwK.calling {G : nwG} {U : State} {g : JFrame} {mk : MethodId} {a : Array Value} (h : nwK G U) : nwK G (U.calling g mk a) := ⟨va_K.moved (u := U) (U := U.calling g mk a) (Vm.Alike.refl U.vm) h.1, fun q hq => va_Nw.same (u := U) (U := U.calling g mk a) rfl rfl (h.2 q hq)⟩
theorem nwK.nest {G : nwG} {s : State} (h : nwK G s) (k : Nat) {o : String} {i : Nat} {y : MethodName} {t : String} (hk : nwNest[k]? = some (o, i, y, t)) : va_Nw (.methodLinkNest o i y t) s := h.2 (o, i, y, t) (List.mem_of_getElem? hk)
def nwPre (G : nwG) (ws : va_W) (sz : Nat) (U : State) : Prop := U.heap.size = sz ∧ nwK G U ∧ va_P G.1 vwCl ws U.heap ∧ va_D (fun _ => True) ws
def nwEnd (G : nwG) (A : Nat → Prop) (w : va_W) (t : State) : Prop := va_P G.1 vwCl w t.heap ∧ va_D A w
abbrev nwQi (G : nwG) (post : Int32 → va_W → Prop) (A : Nat → Prop) : Array Value → State → Outcome → State → Prop := va_Qi post (nwEnd G A) A
abbrev nwQl (G : nwG) (post : Int64 → va_W → Prop) (A : Nat → Prop) : Array Value → State → Outcome → State → Prop := va_Ql post (nwEnd G A) A
abbrev nwQv (G : nwG) (post : va_W → Prop) (A : Nat → Prop) : Array Value → State → Outcome → State → Prop := va_Qv post (nwEnd G A) A
def nwCi (l : Launch) (G : nwG) (y : MethodName) (ws : List Cond) (rm : Room) (av : List Value) (W0 : va_W) (post : Int32 → va_W → Prop) : Prop := ∀ sz : Nat, Met l y ws rm (va_Pc av (nwPre G W0 sz)) (nwQi G post (va_A W0 sz)) rm.cells rm.slots (va_A W0 sz)
def nwCl (l : Launch) (G : nwG) (y : MethodName) (ws : List Cond) (rm : Room) (av : List Value) (W0 : va_W) (post : Int64 → va_W → Prop) : Prop := ∀ sz : Nat, Met l y ws rm (va_Pc av (nwPre G W0 sz)) (nwQl G post (va_A W0 sz)) rm.cells rm.slots (va_A W0 sz)
def nwCv (l : Launch) (G : nwG) (y : MethodName) (ws : List Cond) (rm : Room) (av : List Value) (W0 : va_W) (post : va_W → Prop) : Prop := ∀ sz : Nat, Met l y ws rm (va_Pc av (nwPre G W0 sz)) (nwQv G post (va_A W0 sz)) rm.cells rm.slots (va_A W0 sz)
/-- what a body knows of its frame -/
abbrev nwAt (p : Program) (m : MethodId) (c : Code) (cc : ByteArray) (nL : Nat) (s : State) (args : Array Value) (Ts : List Cond) (own : String) (meth : Method) (ret : Option FieldType) (nm : String) (G : nwG) : Prop := CallFix p m c cc nL s args Ts own ∧ meth.sig.returnType = ret ∧ meth.locks = false ∧ meth.name = nm ∧ nwK G s
theorem nw_blind {G : nwG} {av : List Value} {W0 : va_W} {sz : Nat} : FrameBlind (va_Pc av (nwPre G W0 sz)) := fun a U g mk q => by
  obtain ⟨q0, q1, q2, q3, q4⟩ := q
  exact ⟨q0, q1, q2.calling, q3, q4⟩
/-- the way into a body -/
theorem nw_of {l : Launch} {G : nwG} {y : MethodName} {ws ws' : List Cond} {rm : Room} {cc : ByteArray} {maxL : Nat} {ret : Option FieldType} {av : List Value} {W0 : va_W} {Qc : (Nat → Prop) → Array Value → State → Outcome → State → Prop} (hy : plainName y.cls = true) (hw : ws = .code y cc maxL ret :: ws') (hn : (lg_sl av).length ≤ maxL)
    (body : ∀ (p : Program) (e : Env) (s : State) (m : MethodId) (below : List Frame) (meth : Method) (c : Code) (A : Nat → Prop) (ls : Array Slot), nwAt p m c cc maxL s av.toArray ws y.cls meth ret y.name G → va_P G.1 vwCl W0 s.heap → va_D A W0 → (∀ q, s.heap.size ≤ q → A q) → va_S A s.heap s.heap [] → lv_has ls maxL (lv_args 0 av) → W p l e rm s m av.toArray below meth c s.heap [] 0 0 (MQ below (Qc A) av.toArray s rm.cells rm.slots A) (F0 m 0 ls [])) :
    ∀ sz : Nat, Met l y ws rm (va_Pc av (nwPre G W0 sz)) (Qc (va_A W0 sz)) rm.cells rm.slots (va_A W0 sz) := by
  intro sz
  refine Met.ofW (cc := cc) (maxL := maxL) (ret := ret) hy hw ?_
  intro p e s m args below meth c s₁ B hml hv
  obtain ⟨rfl, hsz, hK, hP, hD0⟩ := hv
  subst hsz
  have hl := lv_entry av hn
  rw [lg_entry_eq]
  exact body p e s m below meth c (va_A W0 s.heap.size) _ ⟨⟨B.exec, B.bytes, hml, findClass_of_methodNamed B.named, atoms_spec (ws := ws) B.pre⟩, B.returns, B.notSynchronized, (name_of_methodNamed B.named B.method).1, hK⟩ hP hD0.self (fun q h => Or.inr h) va_S.rf hl
/-- cutting a world: f w is the caller's world with w in the place of the callee's cells -/
def nwSp (ws wc : va_W) (f : va_W → va_W) : Prop := ∃ (wr : va_W) (isC isR : List Nat), isC.map (fun i => ws[i]?) = wc.map some ∧ isR.map (fun i => ws[i]?) = wr.map some ∧ va_nd isR = true ∧ va_nd isC = true ∧ (∀ i ∈ isR, i ∉ isC) ∧ ∀ w : va_W, (f w).Perm (wr ++ w)
theorem va_P.mem {D : va_G} {cl : List vw_C} {ws : va_W} {H : Heap} : va_P D cl ws H ↔ ∀ q ∈ ws, va_at D cl q H := ⟨fun h q hq => by
  obtain ⟨k, hk⟩ := List.getElem?_of_mem hq
  exact h k q hk, fun h k q hk => h q (List.mem_of_getElem? hk)⟩
theorem va_P.perm {D : va_G} {cl : List vw_C} {ws ws' : va_W} {H : Heap} (hp : ws'.Perm ws) (h : va_P D cl ws H) : va_P D cl ws' H := va_P.mem.mpr fun q hq => va_P.mem.mp h q (hp.mem_iff.mp hq)
theorem nw_nodup {α : Type} {l : List α} : l.Nodup ↔ ∀ (i j : Nat) (x y : α), i < j → l[i]? = some x → l[j]? = some y → x ≠ y := by
  unfold List.Nodup
  rw [List.pairwise_iff_getElem]
  constructor
  · intro h i j x y hij hx hy
    obtain ⟨h1, rfl⟩ := List.getElem?_eq_some_iff.mp hx
    obtain ⟨h2, rfl⟩ := List.getElem?_eq_some_iff.mp hy
    exact h i j h1 h2 hij
  · intro h i j h1 h2 hij
    exact h i j _ _ hij (List.getElem?_eq_getElem h1) (List.getElem?_eq_getElem h2)
theorem va_D.mem {A : Nat → Prop} {ws : va_W} : va_D A ws ↔ (ws.map (fun q => q.1)).Nodup ∧ ∀ q ∈ ws, A q.1 := by
  rw [nw_nodup]
  constructor
  · intro h
    refine ⟨fun i j x y hij hx hy e => ?_, fun q hq => by
      obtain ⟨k, hk⟩ := List.getElem?_of_mem hq
      exact h.2 k q hk⟩
    rw [List.getElem?_map] at hx hy
    obtain ⟨p, hp, rfl⟩ := Option.map_eq_some_iff.mp hx
    obtain ⟨q, hq, rfl⟩ := Option.map_eq_some_iff.mp hy
    have := h.1 i j p q hp hq e
    omega
  · intro h
    refine ⟨fun i j p q hi hj e => ?_, fun k q hk => h.2 q (List.mem_of_getElem? hk)⟩
    have g : ∀ (i : Nat) (p : Nat × va_E), ws[i]? = some p → (ws.map (fun q => q.1))[i]? = some p.1 := fun i p hi => by rw [List.getElem?_map, hi]; rfl
    rcases Nat.lt_trichotomy i j with h1 | h1 | h1
    · exact absurd e (h.1 i j _ _ h1 (g i p hi) (g j q hj))
    · exact h1
    · exact absurd e.symm (h.1 j i _ _ h1 (g j q hj) (g i p hi))
theorem va_D.perm {A : Nat → Prop} {ws ws' : va_W} (hp : ws'.Perm ws) (h : va_D A ws) : va_D A ws' := by
  rw [va_D.mem] at h ⊢
  exact ⟨((hp.map _).nodup_iff).mpr h.1, fun q hq => h.2 q (hp.mem_iff.mp hq)⟩
theorem nw_ndOf : ∀ (l : List Nat), l.Nodup → va_nd l = true := by
  intro l
  induction l with
  | nil => intro _; rfl
  | cons x t ih =>
    intro h
    rw [List.nodup_cons] at h
    simp [va_nd, ih h.2, h.1]
theorem nw_ndR (n a : Nat) : ((List.range n).map (fun i => a + i)).Nodup := by
  rw [nw_nodup]
  intro i j x y hij hx hy e
  rw [List.getElem?_map] at hx hy
  obtain ⟨p, hp, rfl⟩ := Option.map_eq_some_iff.mp hx
  obtain ⟨q, hq, rfl⟩ := Option.map_eq_some_iff.mp hy
  have h1 : i < n := by have := (List.getElem?_eq_some_iff.mp hp).1; rwa [List.length_range] at this
  have h2 : j < n := by have := (List.getElem?_eq_some_iff.mp hq).1; rwa [List.length_range] at this
  rw [List.getElem?_range h1] at hp
  rw [List.getElem?_range h2] at hq
  have := Option.some.inj hp
  have := Option.some.inj hq
  omega
theorem nw_seg {a b c : va_W} : ((List.range b.length).map (fun i => a.length + i)).map (fun i => (a ++ (b ++ c))[i]?) = b.map some := by
  apply List.ext_getElem?
  intro k
  rw [List.map_map, List.getElem?_map, List.getElem?_map]
  by_cases h : k < b.length
  · rw [List.getElem?_range h, List.getElem?_eq_getElem h]
    simp only [Option.map_some, Function.comp]
    rw [List.getElem?_append_right (by omega), Nat.add_sub_cancel_left, List.getElem?_append_left h, List.getElem?_eq_getElem h]
  · rw [List.getElem?_eq_none (by rw [List.length_range]; omega), List.getElem?_eq_none (by omega)]
    rfl
theorem nwSp.seg (a b c : va_W) : nwSp (a ++ (b ++ c)) b (fun w => a ++ (w ++ c)) := by
  refine ⟨a ++ c, (List.range b.length).map (fun i => a.length + i), (List.range a.length).map (fun i => 0 + i) ++ (List.range c.length).map (fun i => (a.length + b.length) + i), nw_seg, ?_, ?_, ?_, ?_, ?_⟩
  · rw [List.map_append, List.map_append]
    have h1 := nw_seg (a := []) (b := a) (c := b ++ c)
    have h2 := nw_seg (a := a ++ b) (b := c) (c := [])
    rw [List.append_nil, List.append_assoc, List.length_append] at h2
    rw [List.nil_append, List.length_nil] at h1
    rw [h1, h2]
  · apply nw_ndOf
    rw [List.nodup_append]
    refine ⟨nw_ndR _ _, nw_ndR _ _, ?_⟩
    intro x hx y hy e
    obtain ⟨i, hi, rfl⟩ := List.mem_map.mp hx
    obtain ⟨j, hj, rfl⟩ := List.mem_map.mp hy
    have := List.mem_range.mp hi
    omega
  · exact nw_ndOf _ (nw_ndR _ _)
  · intro i hi hc
    obtain ⟨j, hj, e⟩ := List.mem_map.mp hc
    have := List.mem_range.mp hj
    rcases List.mem_append.mp hi with h | h
    · obtain ⟨k, hk, rfl⟩ := List.mem_map.mp h
      have := List.mem_range.mp hk
      omega
    · obtain ⟨k, hk, rfl⟩ := List.mem_map.mp h
      omega
  · intro w
    rw [List.append_assoc]
    exact (List.perm_append_comm (l₁ := w) (l₂ := c)).append_left a
theorem nwSp.all (b : va_W) : nwSp b b (fun w => w) := by
  obtain ⟨wr, i1, i2, h1, h2, h3, h3', h4, h5⟩ := nwSp.seg [] b []
  rw [List.nil_append, List.append_nil] at h1 h2
  exact ⟨wr, i1, i2, h1, h2, h3, h3', h4, fun w => by have := h5 w; dsimp only at this; rwa [List.nil_append, List.append_nil] at this⟩
theorem nwSp.suf (a b : va_W) : nwSp (a ++ b) b (fun w => a ++ w) := by
  obtain ⟨wr, i1, i2, h1, h2, h3, h3', h4, h5⟩ := nwSp.seg a b []
  rw [List.append_nil] at h1 h2
  exact ⟨wr, i1, i2, h1, h2, h3, h3', h4, fun w => by have := h5 w; dsimp only at this; rwa [List.append_nil] at this⟩
theorem nwSp.pre (b c : va_W) : nwSp (b ++ c) b (fun w => w ++ c) := nwSp.seg [] b c
theorem nwSp.none (b : va_W) : nwSp b [] (fun w => w ++ b) := nwSp.seg [] [] b
theorem nwSp.join {A0 : Nat → Prop} {D : va_G} {cl : List vw_C} {ws wc w1 : va_W} {f : va_W → va_W} {H H1 : Heap} (sp : nwSp ws wc f) (hP : va_P D cl ws H) (hD : va_D A0 ws) (hk : ∀ q : Nat, q < H.size → ¬ va_A wc H.size q → H1[q]? = H[q]?) (hF : ∀ q, va_A wc H.size q → A0 q) (hP1 : va_P D cl w1 H1) (hD1 : va_D (va_A wc H.size) w1) : va_P D cl (f w1) H1 ∧ va_D A0 (f w1) := by
  obtain ⟨wr, isC, isR, hC, hR, hn, hnC, hdis, hp⟩ := sp
  obtain ⟨h1, h2⟩ := va_join hP hD isC isR hC hR hn hdis hk hF hP1 hD1
  exact ⟨h1.perm (hp w1), h2.perm (hp w1)⟩
theorem nwSp.cut {A0 : Nat → Prop} {D : va_G} {cl : List vw_C} {ws wc : va_W} {f : va_W → va_W} {H0 H : Heap} {locs : List Loc} (sp : nwSp ws wc f) (hP : va_P D cl ws H) (hD : va_D A0 ws) (hS : va_S A0 H0 H locs) (hA : ∀ q, H0.size ≤ q → A0 q) : va_P D cl wc H ∧ va_D (fun _ => True) wc ∧ ∀ q, va_A wc H.size q → A0 q := by
  obtain ⟨wr, isC, isR, hC, hR, hn, hnC, hdis, hp⟩ := sp
  have hPc : va_P D cl wc H := fun k q hq => by
    have h1 : (isC.map (fun i => ws[i]?))[k]? = some (some q) := by rw [hC, List.getElem?_map, hq]; rfl
    rw [List.getElem?_map] at h1
    cases hi : isC[k]? with
    | none => rw [hi] at h1; cases h1
    | some i => rw [hi] at h1; exact hP i q (Option.some.inj h1)
  exact ⟨hPc, (hD.sub isC hnC hC).weaken (fun _ _ _ _ => trivial), va_free hD hS hA isC hC⟩
section NWC
variable {p : Program} {l : Launch} {e : Env} {R : Room} {s : State} {m : MethodId} {args : Array Value} {below : List Frame} {meth : Method} {c : Code} {H : Heap} {locs : List Loc} {cells slots : Nat} {Q : State → Prop}
variable {pc : Nat} {ls : Array Slot} {rest st0 : List Value} {A : Nat → Prop} {G : nwG} {cc : ByteArray} {nL : Nat} {Ts : List Cond} {own : String} {ret : Option FieldType} {nm : String}
theorem nw_preS {av : List Value} {wc : va_W} (hK : nwK G s) (hP : va_P G.1 vwCl wc H) (hD : va_D (fun _ => True) wc) : PreS s H (va_Pc av (nwPre G wc H.size)) av := ⟨nw_blind, fun U hU hW => ⟨rfl, by rw [hU], hK.warm hW, by rw [hU]; exact hP, hD⟩⟩
theorem nw_preV {b : Nat} {As : List Value} {wc : va_W} {C : String} {T : u_T} {N q0 ci : Nat} {fs : List Value} (hK : nwK G s) (hP : va_P G.1 vwCl wc H) (hD : va_D (fun _ => True) wc) (hb : wc[q0]? = some (b, .inr (ci, fs))) (hc : vwCl[ci]? = some (C, T, N)) : PreV s H C b (va_Pc (.ref b :: As) (nwPre G wc H.size)) As := ⟨nw_blind, va_recv hK.1 hP hc hb, (nw_preS (av := .ref b :: As) hK hP hD).2⟩
/-- an own method (virtual; private ones too), an int back -/
theorem nw_Vi {y : MethodName} {index maxL n : Nat} {bytes : ByteArray} {rt : Option FieldType} {ws : List Cond} {rm : Room} {b : Nat} {As : List Value} {wc ws0 : va_W} {f : va_W → va_W} {post : Int32 → va_W → Prop} {C : String} {T : u_T} {N q0 ci : Nat} {fs : List Value} (X : nwAt p m c cc nL s args Ts own meth ret nm G) (hC : nwCi l G y ws rm (.ref b :: As) wc post) (cw : CallW R s args own C index y bytes maxL rt ws rm rm.cells rm.slots n) (hb : wc[q0]? = some (b, .inr (ci, fs))) (hc : vwCl[ci]? = some (C, T, N)) (sp : nwSp ws0 wc f) (hP : va_P G.1 vwCl ws0 H) (hD : va_D A ws0) (hS : va_S A s.heap H locs) (hA : ∀ q, s.heap.size ≤ q → A q) (hn : As.length = n) (hsz : ls.size = nL) (hst : st0 = As.reverse ++ .ref b :: rest) (hr : (rest.map fun v => v.category).sum ≤ 8) (hdg : decode cc pc = .ok (.invokevirtual index, 3)) (hf : cells + rm.cells ≤ R.cells ∧ slots + rm.slots ≤ R.slots)
    (kk : ∀ (r : Int32) (w : va_W) (H1 : Heap) (locs1 : List Loc), post r w → va_P G.1 vwCl (f w) H1 → va_D A (f w) → va_S A s.heap H1 locs1 → W p l e R s m args below meth c H1 locs1 (cells + rm.cells) (slots + rm.slots) Q (F0 m (pc + 3) ls (.int r :: rest))) : W p l e R s m args below meth c H locs cells slots Q (F0 m pc ls st0) := by
  obtain ⟨hPc, hDc, hF⟩ := sp.cut hP hD hS hA
  refine va_calli (va_runV (rest := rest) X.1 (hC H.size) cw (nw_preV X.2.2.2.2 hPc hDc hb hc) rfl hn hsz hst (lv_room (rest := st0) hr) hdg hf) hS (fun q _ h => hF q h) hF (fun r u t H1 locs1 ht hvm hw hB hz1 hk1 hS1 => ?_)
  obtain ⟨hP1, hD1⟩ := sp.join hP hD hk1 hF (by rw [← ht]; exact hB.1) hB.2
  exact kk r u H1 locs1 hw hP1 hD1 hS1
theorem nw_Vl {y : MethodName} {index maxL n : Nat} {bytes : ByteArray} {rt : Option FieldType} {ws : List Cond} {rm : Room} {b : Nat} {As : List Value} {wc ws0 : va_W} {f : va_W → va_W} {post : Int64 → va_W → Prop} {C : String} {T : u_T} {N q0 ci : Nat} {fs : List Value} (X : nwAt p m c cc nL s args Ts own meth ret nm G) (hC : nwCl l G y ws rm (.ref b :: As) wc post) (cw : CallW R s args own C index y bytes maxL rt ws rm rm.cells rm.slots n) (hb : wc[q0]? = some (b, .inr (ci, fs))) (hc : vwCl[ci]? = some (C, T, N)) (sp : nwSp ws0 wc f) (hP : va_P G.1 vwCl ws0 H) (hD : va_D A ws0) (hS : va_S A s.heap H locs) (hA : ∀ q, s.heap.size ≤ q → A q) (hn : As.length = n) (hsz : ls.size = nL) (hst : st0 = As.reverse ++ .ref b :: rest) (hr : (rest.map fun v => v.category).sum ≤ 8) (hdg : decode cc pc = .ok (.invokevirtual index, 3)) (hf : cells + rm.cells ≤ R.cells ∧ slots + rm.slots ≤ R.slots)
    (kk : ∀ (r : Int64) (w : va_W) (H1 : Heap) (locs1 : List Loc), post r w → va_P G.1 vwCl (f w) H1 → va_D A (f w) → va_S A s.heap H1 locs1 → W p l e R s m args below meth c H1 locs1 (cells + rm.cells) (slots + rm.slots) Q (F0 m (pc + 3) ls (.long r :: rest))) : W p l e R s m args below meth c H locs cells slots Q (F0 m pc ls st0) := by
  obtain ⟨hPc, hDc, hF⟩ := sp.cut hP hD hS hA
  refine va_calll (va_runV (rest := rest) X.1 (hC H.size) cw (nw_preV X.2.2.2.2 hPc hDc hb hc) rfl hn hsz hst (lv_room (rest := st0) hr) hdg hf) hS (fun q _ h => hF q h) hF (fun r u t H1 locs1 ht hvm hw hB hz1 hk1 hS1 => ?_)
  obtain ⟨hP1, hD1⟩ := sp.join hP hD hk1 hF (by rw [← ht]; exact hB.1) hB.2
  exact kk r u H1 locs1 hw hP1 hD1 hS1
theorem nw_Vv {y : MethodName} {index maxL n : Nat} {bytes : ByteArray} {rt : Option FieldType} {ws : List Cond} {rm : Room} {b : Nat} {As : List Value} {wc ws0 : va_W} {f : va_W → va_W} {post : va_W → Prop} {C : String} {T : u_T} {N q0 ci : Nat} {fs : List Value} (X : nwAt p m c cc nL s args Ts own meth ret nm G) (hC : nwCv l G y ws rm (.ref b :: As) wc post) (cw : CallW R s args own C index y bytes maxL rt ws rm rm.cells rm.slots n) (hb : wc[q0]? = some (b, .inr (ci, fs))) (hc : vwCl[ci]? = some (C, T, N)) (sp : nwSp ws0 wc f) (hP : va_P G.1 vwCl ws0 H) (hD : va_D A ws0) (hS : va_S A s.heap H locs) (hA : ∀ q, s.heap.size ≤ q → A q) (hn : As.length = n) (hsz : ls.size = nL) (hst : st0 = As.reverse ++ .ref b :: rest) (hr : (rest.map fun v => v.category).sum ≤ 8) (hdg : decode cc pc = .ok (.invokevirtual index, 3)) (hf : cells + rm.cells ≤ R.cells ∧ slots + rm.slots ≤ R.slots)
    (kk : ∀ (w : va_W) (H1 : Heap) (locs1 : List Loc), post w → va_P G.1 vwCl (f w) H1 → va_D A (f w) → va_S A s.heap H1 locs1 → W p l e R s m args below meth c H1 locs1 (cells + rm.cells) (slots + rm.slots) Q (F0 m (pc + 3) ls rest)) : W p l e R s m args below meth c H locs cells slots Q (F0 m pc ls st0) := by
  obtain ⟨hPc, hDc, hF⟩ := sp.cut hP hD hS hA
  refine va_callv (va_runV (rest := rest) X.1 (hC H.size) cw (nw_preV X.2.2.2.2 hPc hDc hb hc) rfl hn hsz hst (lv_room (rest := st0) hr) hdg hf) hS (fun q _ h => hF q h) hF (fun u t H1 locs1 ht hvm hw hB hz1 hk1 hS1 => ?_)
  obtain ⟨hP1, hD1⟩ := sp.join hP hD hk1 hF (by rw [← ht]; exact hB.1) hB.2
  exact kk u H1 locs1 hw hP1 hD1 hS1
/-- a static method over no cells at all: its answer alone -/
theorem nw_Si {y : MethodName} {index maxL n : Nat} {bytes : ByteArray} {rt : Option FieldType} {ws : List Cond} {rm : Room} {As : List Value} {ws0 : va_W} {post : Int32 → va_W → Prop} (X : nwAt p m c cc nL s args Ts own meth ret nm G) (hC : nwCi l G y ws rm As [] post) (cw : CallB R s args own index y bytes maxL rt ws rm rm.cells rm.slots n ∧ (Cond.static y).before args s = true) (hpost : ∀ r w, post r w → w = []) (hP : va_P G.1 vwCl ws0 H) (hD : va_D A ws0) (hS : va_S A s.heap H locs) (hA : ∀ q, s.heap.size ≤ q → A q) (hn : As.length = n) (hsz : ls.size = nL) (hst : st0 = As.reverse ++ rest) (hr : (rest.map fun v => v.category).sum ≤ 8) (hdg : decode cc pc = .ok (.invokestatic index, 3)) (hf : cells + rm.cells ≤ R.cells ∧ slots + rm.slots ≤ R.slots)
    (kk : ∀ (r : Int32) (H1 : Heap) (locs1 : List Loc), post r [] → va_P G.1 vwCl ws0 H1 → va_D A ws0 → va_S A s.heap H1 locs1 → W p l e R s m args below meth c H1 locs1 (cells + rm.cells) (slots + rm.slots) Q (F0 m (pc + 3) ls (.int r :: rest))) : W p l e R s m args below meth c H locs cells slots Q (F0 m pc ls st0) := by
  have sp := nwSp.none ws0
  obtain ⟨hPc, hDc, hF⟩ := sp.cut hP hD hS hA
  refine va_calli (va_runS (rest := rest) X.1 (hC H.size) cw (nw_preS X.2.2.2.2 hPc hDc) rfl hn hsz hst (lv_room (rest := st0) hr) hdg hf) hS (fun q _ h => hF q h) hF (fun r u t H1 locs1 ht hvm hw hB hz1 hk1 hS1 => ?_)
  obtain ⟨hP1, hD1⟩ := sp.join hP hD hk1 hF (by rw [← ht]; exact hB.1) hB.2
  have hu := hpost r u hw
  subst hu
  exact kk r H1 locs1 hw hP1 hD1 hS1
theorem nw_Sl {y : MethodName} {index maxL n : Nat} {bytes : ByteArray} {rt : Option FieldType} {ws : List Cond} {rm : Room} {As : List Value} {ws0 : va_W} {post : Int64 → va_W → Prop} (X : nwAt p m c cc nL s args Ts own meth ret nm G) (hC : nwCl l G y ws rm As [] post) (cw : CallB R s args own index y bytes maxL rt ws rm rm.cells rm.slots n ∧ (Cond.static y).before args s = true) (hpost : ∀ r w, post r w → w = []) (hP : va_P G.1 vwCl ws0 H) (hD : va_D A ws0) (hS : va_S A s.heap H locs) (hA : ∀ q, s.heap.size ≤ q → A q) (hn : As.length = n) (hsz : ls.size = nL) (hst : st0 = As.reverse ++ rest) (hr : (rest.map fun v => v.category).sum ≤ 8) (hdg : decode cc pc = .ok (.invokestatic index, 3)) (hf : cells + rm.cells ≤ R.cells ∧ slots + rm.slots ≤ R.slots)
    (kk : ∀ (r : Int64) (H1 : Heap) (locs1 : List Loc), post r [] → va_P G.1 vwCl ws0 H1 → va_D A ws0 → va_S A s.heap H1 locs1 → W p l e R s m args below meth c H1 locs1 (cells + rm.cells) (slots + rm.slots) Q (F0 m (pc + 3) ls (.long r :: rest))) : W p l e R s m args below meth c H locs cells slots Q (F0 m pc ls st0) := by
  have sp := nwSp.none ws0
  obtain ⟨hPc, hDc, hF⟩ := sp.cut hP hD hS hA
  refine va_calll (va_runS (rest := rest) X.1 (hC H.size) cw (nw_preS X.2.2.2.2 hPc hDc) rfl hn hsz hst (lv_room (rest := st0) hr) hdg hf) hS (fun q _ h => hF q h) hF (fun r u t H1 locs1 ht hvm hw hB hz1 hk1 hS1 => ?_)
  obtain ⟨hP1, hD1⟩ := sp.join hP hD hk1 hF (by rw [← ht]; exact hB.1) hB.2
  have hu := hpost r u hw
  subst hu
  exact kk r H1 locs1 hw hP1 hD1 hS1
/-- a nest mate's private static -/
theorem nw_Ni {y : MethodName} {index maxL n : Nat} {bytes : ByteArray} {host : String} {rt : Option FieldType} {ws : List Cond} {rm : Room} {As : List Value} {ws0 : va_W} {post : Int32 → va_W → Prop} (X : nwAt p m c cc nL s args Ts own meth ret nm G) (hC : nwCi l G y ws rm As [] post) (cw : va_CN R s args own index y host bytes maxL rt ws rm rm.cells rm.slots n) (hstat : (Cond.static y).before args s = true) (hpost : ∀ r w, post r w → w = []) (hP : va_P G.1 vwCl ws0 H) (hD : va_D A ws0) (hS : va_S A s.heap H locs) (hA : ∀ q, s.heap.size ≤ q → A q) (hn : As.length = n) (hsz : ls.size = nL) (hst : st0 = As.reverse ++ rest) (hr : (rest.map fun v => v.category).sum ≤ 8) (hdg : decode cc pc = .ok (.invokestatic index, 3)) (hf : cells + rm.cells ≤ R.cells ∧ slots + rm.slots ≤ R.slots)
    (kk : ∀ (r : Int32) (H1 : Heap) (locs1 : List Loc), post r [] → va_P G.1 vwCl ws0 H1 → va_D A ws0 → va_S A s.heap H1 locs1 → W p l e R s m args below meth c H1 locs1 (cells + rm.cells) (slots + rm.slots) Q (F0 m (pc + 3) ls (.int r :: rest))) : W p l e R s m args below meth c H locs cells slots Q (F0 m pc ls st0) := by
  have sp := nwSp.none ws0
  obtain ⟨hPc, hDc, hF⟩ := sp.cut hP hD hS hA
  refine va_calli (va_runSN (rest := rest) X.1 (hC H.size) ⟨cw, hstat, trivial⟩ (nw_preS X.2.2.2.2 hPc hDc) rfl hn hsz hst (lv_room (rest := st0) hr) hdg hf) hS (fun q _ h => hF q h) hF (fun r u t H1 locs1 ht hvm hw hB hz1 hk1 hS1 => ?_)
  obtain ⟨hP1, hD1⟩ := sp.join hP hD hk1 hF (by rw [← ht]; exact hB.1) hB.2
  have hu := hpost r u hw
  subst hu
  exact kk r H1 locs1 hw hP1 hD1 hS1
theorem nw_Nl {y : MethodName} {index maxL n : Nat} {bytes : ByteArray} {host : String} {rt : Option FieldType} {ws : List Cond} {rm : Room} {As : List Value} {ws0 : va_W} {post : Int64 → va_W → Prop} (X : nwAt p m c cc nL s args Ts own meth ret nm G) (hC : nwCl l G y ws rm As [] post) (cw : va_CN R s args own index y host bytes maxL rt ws rm rm.cells rm.slots n) (hstat : (Cond.static y).before args s = true) (hpost : ∀ r w, post r w → w = []) (hP : va_P G.1 vwCl ws0 H) (hD : va_D A ws0) (hS : va_S A s.heap H locs) (hA : ∀ q, s.heap.size ≤ q → A q) (hn : As.length = n) (hsz : ls.size = nL) (hst : st0 = As.reverse ++ rest) (hr : (rest.map fun v => v.category).sum ≤ 8) (hdg : decode cc pc = .ok (.invokestatic index, 3)) (hf : cells + rm.cells ≤ R.cells ∧ slots + rm.slots ≤ R.slots)
    (kk : ∀ (r : Int64) (H1 : Heap) (locs1 : List Loc), post r [] → va_P G.1 vwCl ws0 H1 → va_D A ws0 → va_S A s.heap H1 locs1 → W p l e R s m args below meth c H1 locs1 (cells + rm.cells) (slots + rm.slots) Q (F0 m (pc + 3) ls (.long r :: rest))) : W p l e R s m args below meth c H locs cells slots Q (F0 m pc ls st0) := by
  have sp := nwSp.none ws0
  obtain ⟨hPc, hDc, hF⟩ := sp.cut hP hD hS hA
  refine va_calll (va_runSN (rest := rest) X.1 (hC H.size) ⟨cw, hstat, trivial⟩ (nw_preS X.2.2.2.2 hPc hDc) rfl hn hsz hst (lv_room (rest := st0) hr) hdg hf) hS (fun q _ h => hF q h) hF (fun r u t H1 locs1 ht hvm hw hB hz1 hk1 hS1 => ?_)
  obtain ⟨hP1, hD1⟩ := sp.join hP hD hk1 hF (by rw [← ht]; exact hB.1) hB.2
  have hu := hpost r u hw
  subst hu
  exact kk r H1 locs1 hw hP1 hD1 hS1
/-- a constructor of ours; a nest mate's private one -/
theorem nw_Iv {y : MethodName} {index maxL n : Nat} {bytes : ByteArray} {ws : List Cond} {rm : Room} {b : Nat} {As : List Value} {wc ws0 : va_W} {f : va_W → va_W} {post : va_W → Prop} (X : nwAt p m c cc nL s args Ts own meth ret nm G) (hC : nwCv l G y ws rm (.ref b :: As) wc post) (cw : CallB R s args own index y bytes maxL none ws rm rm.cells rm.slots n ∧ y.name = "<init>" ∧ (Cond.instanceMethod y).before args s = true) (sp : nwSp ws0 wc f) (hP : va_P G.1 vwCl ws0 H) (hD : va_D A ws0) (hS : va_S A s.heap H locs) (hA : ∀ q, s.heap.size ≤ q → A q) (hn : As.length = n) (hsz : ls.size = nL) (hst : st0 = As.reverse ++ .ref b :: rest) (hr : (rest.map fun v => v.category).sum ≤ 8) (hdg : decode cc pc = .ok (.invokespecial index, 3)) (hf : cells + rm.cells ≤ R.cells ∧ slots + rm.slots ≤ R.slots)
    (kk : ∀ (w : va_W) (H1 : Heap) (locs1 : List Loc), post w → va_P G.1 vwCl (f w) H1 → va_D A (f w) → va_S A s.heap H1 locs1 → W p l e R s m args below meth c H1 locs1 (cells + rm.cells) (slots + rm.slots) Q (F0 m (pc + 3) ls rest)) : W p l e R s m args below meth c H locs cells slots Q (F0 m pc ls st0) := by
  obtain ⟨hPc, hDc, hF⟩ := sp.cut hP hD hS hA
  refine va_callv (va_runI (rest := rest) X.1 (hC H.size) cw (nw_preS X.2.2.2.2 hPc hDc) rfl hn hsz hst (lv_room (rest := st0) hr) hdg hf) hS (fun q _ h => hF q h) hF (fun u t H1 locs1 ht hvm hw hB hz1 hk1 hS1 => ?_)
  obtain ⟨hP1, hD1⟩ := sp.join hP hD hk1 hF (by rw [← ht]; exact hB.1) hB.2
  exact kk u H1 locs1 hw hP1 hD1 hS1
theorem nw_INv {y : MethodName} {index maxL n : Nat} {bytes : ByteArray} {host : String} {ws : List Cond} {rm : Room} {b : Nat} {As : List Value} {wc ws0 : va_W} {f : va_W → va_W} {post : va_W → Prop} (X : nwAt p m c cc nL s args Ts own meth ret nm G) (hC : nwCv l G y ws rm (.ref b :: As) wc post) (cw : va_CN R s args own index y host bytes maxL none ws rm rm.cells rm.slots n ∧ y.name = "<init>" ∧ (Cond.instanceMethod y).before args s = true) (sp : nwSp ws0 wc f) (hP : va_P G.1 vwCl ws0 H) (hD : va_D A ws0) (hS : va_S A s.heap H locs) (hA : ∀ q, s.heap.size ≤ q → A q) (hn : As.length = n) (hsz : ls.size = nL) (hst : st0 = As.reverse ++ .ref b :: rest) (hr : (rest.map fun v => v.category).sum ≤ 8) (hdg : decode cc pc = .ok (.invokespecial index, 3)) (hf : cells + rm.cells ≤ R.cells ∧ slots + rm.slots ≤ R.slots)
    (kk : ∀ (w : va_W) (H1 : Heap) (locs1 : List Loc), post w → va_P G.1 vwCl (f w) H1 → va_D A (f w) → va_S A s.heap H1 locs1 → W p l e R s m args below meth c H1 locs1 (cells + rm.cells) (slots + rm.slots) Q (F0 m (pc + 3) ls rest)) : W p l e R s m args below meth c H locs cells slots Q (F0 m pc ls st0) := by
  obtain ⟨hPc, hDc, hF⟩ := sp.cut hP hD hS hA
  refine va_callv (va_runIN (rest := rest) X.1 (hC H.size) cw (nw_preS X.2.2.2.2 hPc hDc) rfl hn hsz hst (lv_room (rest := st0) hr) hdg hf) hS (fun q _ h => hF q h) hF (fun u t H1 locs1 ht hvm hw hB hz1 hk1 hS1 => ?_)
  obtain ⟨hP1, hD1⟩ := sp.join hP hD hk1 hF (by rw [← ht]; exact hB.1) hB.2
  exact kk u H1 locs1 hw hP1 hD1 hS1
/-- the ends -/
theorem nw_iret {post : Int32 → va_W → Prop} {w : va_W} {v : Int32} {rm : Room} (X : nwAt p m c cc nL s args Ts own meth (some .int) nm G) (hP : va_P G.1 vwCl w H) (hD : va_D A w) (hS : va_S A s.heap H locs) (hp : post v w) (hdg : decode cc pc = .ok (.ireturn, 1)) : W p l e R s m args below meth c H locs rm.cells rm.slots (MQ below (nwQi G post A) args s rm.cells rm.slots A) (F0 m pc ls [.int v]) := by
  have hlocks : meth.locks = false := X.2.2.1
  exact W.iret X.1.1 X.1.2.1 X.2.1 (fun t ht _ => ⟨⟨v, w, rfl, hp, by rw [ht]; exact hP, hD⟩, hS.F ht⟩) hS.2.2 hdg
theorem nw_zret {post : Int32 → va_W → Prop} {w : va_W} {v : Int32} {rm : Room} (X : nwAt p m c cc nL s args Ts own meth (some .boolean) nm G) (hv : narrow .boolean (.int v) = .int v) (hP : va_P G.1 vwCl w H) (hD : va_D A w) (hS : va_S A s.heap H locs) (hp : post v w) (hdg : decode cc pc = .ok (.ireturn, 1)) : W p l e R s m args below meth c H locs rm.cells rm.slots (MQ below (nwQi G post A) args s rm.cells rm.slots A) (F0 m pc ls [.int v]) := by
  have hlocks : meth.locks = false := X.2.2.1
  exact W.zret X.1.1 X.1.2.1 X.2.1 hv (fun t ht _ => ⟨⟨v, w, rfl, hp, by rw [ht]; exact hP, hD⟩, hS.F ht⟩) hS.2.2 hdg
theorem nw_lret {post : Int64 → va_W → Prop} {w : va_W} {v : Int64} {rm : Room} (X : nwAt p m c cc nL s args Ts own meth (some .long) nm G) (hP : va_P G.1 vwCl w H) (hD : va_D A w) (hS : va_S A s.heap H locs) (hp : post v w) (hdg : decode cc pc = .ok (.lreturn, 1)) : W p l e R s m args below meth c H locs rm.cells rm.slots (MQ below (nwQl G post A) args s rm.cells rm.slots A) (F0 m pc ls [.long v]) := by
  have hlocks : meth.locks = false := X.2.2.1
  exact W.lret X.1.1 X.1.2.1 X.2.1 (fun t ht _ => ⟨⟨v, w, rfl, hp, by rw [ht]; exact hP, hD⟩, hS.F ht⟩) hS.2.2 hdg
theorem nw_vret {post : va_W → Prop} {w : va_W} {rm : Room} (X : nwAt p m c cc nL s args Ts own meth none nm G) (hP : va_P G.1 vwCl w H) (hD : va_D A w) (hS : va_S A s.heap H locs) (hp : post w) (hdg : decode cc pc = .ok (.return_, 1)) : W p l e R s m args below meth c H locs rm.cells rm.slots (MQ below (nwQv G post A) args s rm.cells rm.slots A) (F0 m pc ls []) := by
  have hlocks : meth.locks = false := X.2.2.1
  exact W.vret X.1.1 X.1.2.1 X.2.1 (fun t ht _ => ⟨⟨w, rfl, hp, by rw [ht]; exact hP, hD⟩, hS.F ht⟩) hS.2.2 hdg
end NWC
end
section
/-! Rows over the layer: arrays by a number, rows of grids, the stack's top under another name; the worlds. -/
section NWR
variable {p : Program} {l : Launch} {e : Env} {R : Room} {s : State} {m : MethodId} {args : Array Value} {below : List Frame} {meth : Method} {c : Code} {H : Heap} {locs : List Loc} {cells slots : Nat} {Q : State → Prop}
variable {pc : Nat} {ls : Array Slot} {rest : List Value} {A : Nat → Prop} {G : nwG} {cc : ByteArray} {nL : Nat} {Ts : List Cond} {own : String} {ret : Option FieldType} {nm : String} {a : Nat} {ws : va_W}
theorem nw_top {x y : Int32} (h : x = y) (k : W p l e R s m args below meth c H locs cells slots Q (F0 m pc ls (.int y :: rest))) : W p l e R s m args below meth c H locs cells slots Q (F0 m pc ls (.int x :: rest)) := h ▸ k
theorem nw_topl {x y : Int64} (h : x = y) (k : W p l e R s m args below meth c H locs cells slots Q (F0 m pc ls (.long y :: rest))) : W p l e R s m args below meth c H locs cells slots Q (F0 m pc ls (.long x :: rest)) := h ▸ k
theorem nw_st {st st' : List Value} (h : st = st') (k : W p l e R s m args below meth c H locs cells slots Q (F0 m pc ls st')) : W p l e R s m args below meth c H locs cells slots Q (F0 m pc ls st) := h ▸ k
theorem nw_iald (X : nwAt p m c cc nL s args Ts own meth ret nm G) (hP : va_P G.1 vwCl ws H) (q0 : Nat) {n : Nat} {f : Nat → Int32} (ha : ws[q0]? = some (a, .inl (G.2.1, n, .inl f))) (k : Nat) {i : Int32} (hi : i = nI k) (hk : k < n) (hn : n < 2 ^ 31) (hdg : decode cc pc = .ok (.iaload, 1))
    (kk : W p l e R s m args below meth c H locs cells slots Q (F0 m (pc + 1) ls (.int (f k) :: rest))) : W p l e R s m args below meth c H locs cells slots Q (F0 m pc ls (.int i :: .ref a :: rest)) := by
  subst hi
  exact va_iald X.1.1 X.1.2.1 X.2.2.2.2.1 hP q0 0 ha rfl (vp_in_nI hk hn) hdg (by rw [nI_clamp (by omega)]; exact kk)
theorem nw_zald (X : nwAt p m c cc nL s args Ts own meth ret nm G) (hP : va_P G.1 vwCl ws H) (q0 : Nat) {n : Nat} {f : Nat → Int32} (ha : ws[q0]? = some (a, .inl (G.2.2.1, n, .inl f))) (k : Nat) {i : Int32} (hi : i = nI k) (hk : k < n) (hn : n < 2 ^ 31) (hdg : decode cc pc = .ok (.baload, 1))
    (kk : W p l e R s m args below meth c H locs cells slots Q (F0 m (pc + 1) ls (.int (f k) :: rest))) : W p l e R s m args below meth c H locs cells slots Q (F0 m pc ls (.int i :: .ref a :: rest)) := by
  subst hi
  exact va_zald X.1.1 X.1.2.1 X.2.2.2.2.1 hP q0 1 ha rfl (vp_in_nI hk hn) hdg (by rw [nI_clamp (by omega)]; exact kk)
theorem nw_aald (X : nwAt p m c cc nL s args Ts own meth ret nm G) (hP : va_P G.1 vwCl ws H) (q0 : Nat) {n : Nat} {f : Nat → Option Nat} (ha : ws[q0]? = some (a, .inl (G.2.2.2, n, .inr (.inr (.inr (.inr f)))))) (k : Nat) {i : Int32} (hi : i = nI k) (hk : k < n) (hn : n < 2 ^ 31) (hdg : decode cc pc = .ok (.aaload, 1))
    (kk : W p l e R s m args below meth c H locs cells slots Q (F0 m (pc + 1) ls (va_rf (f k) :: rest))) : W p l e R s m args below meth c H locs cells slots Q (F0 m pc ls (.int i :: .ref a :: rest)) := by
  subst hi
  have hin : vp_in (nI k) n := vp_in_nI hk hn
  have hlt : (nI k).toNatClampNeg < n := Nat.not_le.mp fun q => hin (Or.inr q)
  rw [← nI_clamp (show k < 2 ^ 31 by omega)] at kk
  exact W.aald (v := va_rf (f (nI k).toNatClampNeg)) (ty := .array .int) X.1.1 X.1.2.1 (hP q0 _ ha) ((X.2.2.2.2.1.2 2 _ rfl).1 n (fun j => va_rf (f j))) rfl (fun q => by cases q) (by show ¬ (nI k < 0 ∨ (arrV _ _ _).slots.size ≤ _); rw [arrV_size]; exact hin) (by show (arrV _ _ _).slots[_]? = _; rw [arrV_read _ _ hlt]) rfl rfl hdg kk
theorem nw_iast (X : nwAt p m c cc nL s args Ts own meth ret nm G) (hP : va_P G.1 vwCl ws H) (hD : va_D A ws) (hS : va_S A s.heap H locs) (q0 : Nat) {n : Nat} {f : Nat → Int32} (ha : ws[q0]? = some (a, .inl (G.2.1, n, .inl f))) (k : Nat) {i x : Int32} (hi : i = nI k) (hk : k < n) (hn : n < 2 ^ 31) (hdg : decode cc pc = .ok (.iastore, 1))
    (kk : ∀ (H1 : Heap) (locs1 : List Loc), va_P G.1 vwCl (ws.set q0 (a, .inl (G.2.1, n, .inl (va_up f k x)))) H1 → va_D A (ws.set q0 (a, .inl (G.2.1, n, .inl (va_up f k x)))) → va_S A s.heap H1 locs1 → W p l e R s m args below meth c H1 locs1 cells slots Q (F0 m (pc + 1) ls rest)) : W p l e R s m args below meth c H locs cells slots Q (F0 m pc ls (.int x :: .int i :: .ref a :: rest)) := by
  subst hi
  refine va_iast X.1.1 X.1.2.1 X.2.2.2.2.1 hP hD hS q0 0 ha rfl (vp_in_nI hk hn) hdg ?_
  rw [nI_clamp (by omega)]
  exact kk
theorem nw_upN {f : Nat → Nat} {k e : Nat} : va_up (fun j => nI (f j)) k (nI e) = fun j => nI (va_up f k e j) := by
  funext j
  by_cases h : j = k
  · subst h
    rw [va_up_self, va_up_self]
  · rw [va_up_ne _ _ h, va_up_ne _ _ h]
/-- the same, where the array holds small numbers -/
theorem nw_iastN (X : nwAt p m c cc nL s args Ts own meth ret nm G) (hP : va_P G.1 vwCl ws H) (hD : va_D A ws) (hS : va_S A s.heap H locs) (q0 : Nat) {n : Nat} {f : Nat → Nat} (ha : ws[q0]? = some (a, .inl (G.2.1, n, .inl (fun j => nI (f j))))) (k v : Nat) {i x : Int32} (hi : i = nI k) (hv : x = nI v) (hk : k < n) (hn : n < 2 ^ 31) (hdg : decode cc pc = .ok (.iastore, 1))
    (kk : ∀ (H1 : Heap) (locs1 : List Loc), va_P G.1 vwCl (ws.set q0 (a, .inl (G.2.1, n, .inl (fun j => nI (va_up f k v j))))) H1 → va_D A (ws.set q0 (a, .inl (G.2.1, n, .inl (fun j => nI (va_up f k v j))))) → va_S A s.heap H1 locs1 → W p l e R s m args below meth c H1 locs1 cells slots Q (F0 m (pc + 1) ls rest)) : W p l e R s m args below meth c H locs cells slots Q (F0 m pc ls (.int x :: .int i :: .ref a :: rest)) := by
  subst hv
  refine nw_iast X hP hD hS q0 ha k hi hk hn hdg ?_
  rw [nw_upN]
  exact kk
theorem nw_zast (X : nwAt p m c cc nL s args Ts own meth ret nm G) (hP : va_P G.1 vwCl ws H) (hD : va_D A ws) (hS : va_S A s.heap H locs) (q0 : Nat) {n : Nat} {f : Nat → Int32} (ha : ws[q0]? = some (a, .inl (G.2.2.1, n, .inl f))) (k : Nat) {i x : Int32} (hi : i = nI k) (hk : k < n) (hn : n < 2 ^ 31) (hx : vp_nar .boolean x = x) (hdg : decode cc pc = .ok (.bastore, 1))
    (kk : ∀ (H1 : Heap) (locs1 : List Loc), va_P G.1 vwCl (ws.set q0 (a, .inl (G.2.2.1, n, .inl (va_up f k x)))) H1 → va_D A (ws.set q0 (a, .inl (G.2.2.1, n, .inl (va_up f k x)))) → va_S A s.heap H1 locs1 → W p l e R s m args below meth c H1 locs1 cells slots Q (F0 m (pc + 1) ls rest)) : W p l e R s m args below meth c H locs cells slots Q (F0 m pc ls (.int x :: .int i :: .ref a :: rest)) := by
  subst hi
  refine va_zast X.1.1 X.1.2.1 X.2.2.2.2.1 hP hD hS q0 1 ha rfl (vp_in_nI hk hn) hdg ?_
  rw [nI_clamp (by omega), hx]
  exact kk
/-- the rows of a grid: row i lies at r i and holds M i -/
def nwRows (c : ClassId) (r : Nat → Nat) (n k : Nat) (M : Nat → Nat → Int32) : va_W := (List.range n).map (fun i => (r i, .inl (c, k, .inl (M i))))
theorem nwRows_get {X : va_W} {c : ClassId} {r : Nat → Nat} {n k : Nat} {M : Nat → Nat → Int32} {z : Nat} (hz : z < n) : (X ++ nwRows c r n k M)[X.length + z]? = some (r z, .inl (c, k, .inl (M z))) := by
  rw [List.getElem?_append_right (by omega), Nat.add_sub_cancel_left]
  unfold nwRows
  rw [List.getElem?_map, List.getElem?_range hz]
  rfl
def nwU2 (M : Nat → Nat → Int32) (z h : Nat) (x : Int32) : Nat → Nat → Int32 := fun i => if i = z then va_up (M z) h x else M i
theorem nwU2_s {M : Nat → Nat → Int32} {z h : Nat} {x : Int32} : nwU2 M z h x z h = x := by simp [nwU2, va_up]
theorem nwU2_n {M : Nat → Nat → Int32} {z h i j : Nat} {x : Int32} (hn : ¬ (i = z ∧ j = h)) : nwU2 M z h x i j = M i j := by
  unfold nwU2
  by_cases e : i = z
  · subst e
    rw [if_pos rfl, va_up_ne _ _ (fun q => hn ⟨rfl, q⟩)]
  · rw [if_neg e]
theorem nwRows_set {X : va_W} {c : ClassId} {r : Nat → Nat} {n k : Nat} {M : Nat → Nat → Int32} {z h : Nat} {x : Int32} (hz : z < n) : (X ++ nwRows c r n k M).set (X.length + z) (r z, .inl (c, k, .inl (va_up (M z) h x))) = X ++ nwRows c r n k (nwU2 M z h x) := by
  rw [List.set_append_right (X.length + z) _ (by omega), Nat.add_sub_cancel_left]
  congr 1
  unfold nwRows
  apply List.ext_getElem?
  intro i
  rw [List.getElem?_set]
  by_cases h1 : z = i
  · subst h1
    rw [if_pos rfl, List.length_map, List.length_range, if_pos hz, List.getElem?_map, List.getElem?_range hz]
    simp [nwU2]
  · rw [if_neg h1, List.getElem?_map, List.getElem?_map]
    by_cases h2 : i < n
    · rw [List.getElem?_range h2]
      simp [nwU2, Ne.symm h1, show ¬ i = z from fun q => h1 q.symm]
    · rw [List.getElem?_eq_none (by rw [List.length_range]; omega)]
      rfl
theorem nw_rald {X0 : va_W} {r : Nat → Nat} {N n : Nat} {M : Nat → Nat → Int32} (X : nwAt p m c cc nL s args Ts own meth ret nm G) (hP : va_P G.1 vwCl (X0 ++ nwRows G.2.1 r N n M) H) (z : Nat) (hz : z < N) (k : Nat) {i : Int32} (hi : i = nI k) (hk : k < n) (hn : n < 2 ^ 31) (hdg : decode cc pc = .ok (.iaload, 1))
    (kk : W p l e R s m args below meth c H locs cells slots Q (F0 m (pc + 1) ls (.int (M z k) :: rest))) : W p l e R s m args below meth c H locs cells slots Q (F0 m pc ls (.int i :: .ref (r z) :: rest)) := nw_iald X hP (X0.length + z) (nwRows_get hz) k hi hk hn hdg kk
theorem nw_rast {X0 : va_W} {r : Nat → Nat} {N n : Nat} {M : Nat → Nat → Int32} (X : nwAt p m c cc nL s args Ts own meth ret nm G) (hP : va_P G.1 vwCl (X0 ++ nwRows G.2.1 r N n M) H) (hD : va_D A (X0 ++ nwRows G.2.1 r N n M)) (hS : va_S A s.heap H locs) (z : Nat) (hz : z < N) (k : Nat) {i x : Int32} (hi : i = nI k) (hk : k < n) (hn : n < 2 ^ 31) (hdg : decode cc pc = .ok (.iastore, 1))
    (kk : ∀ (H1 : Heap) (locs1 : List Loc), va_P G.1 vwCl (X0 ++ nwRows G.2.1 r N n (nwU2 M z k x)) H1 → va_D A (X0 ++ nwRows G.2.1 r N n (nwU2 M z k x)) → va_S A s.heap H1 locs1 → W p l e R s m args below meth c H1 locs1 cells slots Q (F0 m (pc + 1) ls rest)) : W p l e R s m args below meth c H locs cells slots Q (F0 m pc ls (.int x :: .int i :: .ref (r z) :: rest)) := by
  refine nw_iast X hP hD hS (X0.length + z) (nwRows_get hz) k hi hk hn hdg ?_
  rw [nwRows_set hz]
  exact kk
/-- Math.max, min, abs -/
theorem nw_max {index : Nat} (X : nwAt p m c cc nL s args Ts own meth ret nm G) (hsz : ls.size = nL) (hlink : (Cond.methodLink own index Lib.Math.max.name).before args s = true) (hstat : (Cond.static Lib.Math.max.name).before args s = true) (hini : (Cond.initialized "java/lang/Math").before args s = true) (hcode : (Cond.code Lib.Math.max.name Lib.Math.max.code 2 (some .int)).before args s = true)
    (hframes : 1 ≤ R.frames) (hlocals : (rest.map fun v => v.category).sum + 13 ≤ R.locals) (hc : cells ≤ R.cells) (hs : slots ≤ R.slots) {x y : Int32} (hdg : decode cc pc = .ok (.invokestatic index, 3))
    (kk : W p l e R s m args below meth c H locs cells slots Q (F0 m (pc + 3) ls (.int (if x < y then y else x) :: rest))) : W p l e R s m args below meth c H locs cells slots Q (F0 m pc ls (.int y :: .int x :: rest)) := va_mmax X.1.1 X.1.2.1 (X.1.2.2.1.trans hsz.symm) X.1.2.2.2.1 hlink hstat hini hcode hframes hlocals hc hs hdg kk
theorem nw_min {index : Nat} (X : nwAt p m c cc nL s args Ts own meth ret nm G) (hsz : ls.size = nL) (hlink : (Cond.methodLink own index Lib.Math.min.name).before args s = true) (hstat : (Cond.static Lib.Math.min.name).before args s = true) (hini : (Cond.initialized "java/lang/Math").before args s = true) (hcode : (Cond.code Lib.Math.min.name Lib.Math.min.code 2 (some .int)).before args s = true)
    (hframes : 1 ≤ R.frames) (hlocals : (rest.map fun v => v.category).sum + 13 ≤ R.locals) (hc : cells ≤ R.cells) (hs : slots ≤ R.slots) {x y : Int32} (hdg : decode cc pc = .ok (.invokestatic index, 3))
    (kk : W p l e R s m args below meth c H locs cells slots Q (F0 m (pc + 3) ls (.int (if y < x then y else x) :: rest))) : W p l e R s m args below meth c H locs cells slots Q (F0 m pc ls (.int y :: .int x :: rest)) := va_mmin X.1.1 X.1.2.1 (X.1.2.2.1.trans hsz.symm) X.1.2.2.2.1 hlink hstat hini hcode hframes hlocals hc hs hdg kk
theorem nw_abs {index : Nat} (X : nwAt p m c cc nL s args Ts own meth ret nm G) (hsz : ls.size = nL) (hlink : (Cond.methodLink own index Lib.Math.abs.name).before args s = true) (hstat : (Cond.static Lib.Math.abs.name).before args s = true) (hini : (Cond.initialized "java/lang/Math").before args s = true) (hcode : (Cond.code Lib.Math.abs.name Lib.Math.abs.code 1 (some .int)).before args s = true)
    (hframes : 1 ≤ R.frames) (hlocals : (rest.map fun v => v.category).sum + 13 ≤ R.locals) (hc : cells ≤ R.cells) (hs : slots ≤ R.slots) {x : Int32} (hdg : decode cc pc = .ok (.invokestatic index, 3))
    (kk : W p l e R s m args below meth c H locs cells slots Q (F0 m (pc + 3) ls (.int (if 0 ≤ x then x else 0 - x) :: rest))) : W p l e R s m args below meth c H locs cells slots Q (F0 m pc ls (.int x :: rest)) := va_mabs X.1.1 X.1.2.1 (X.1.2.2.1.trans hsz.symm) X.1.2.2.2.1 hlink hstat hini hcode hframes hlocals hc hs hdg kk
end NWR
/-! the worlds -/
def wZ (G : nwG) (a : Nat → Nat) (n : Nat) (cu bg : Nat → Int32) (M : Nat → Nat → Int32) (er us : Int32) : va_W :=
  [(a 0, .inr (4, [.ref (a 1), .ref (a 2), .ref (a 3), .ref (a 4), .int (nI n), .int er, .int us])),
   (a 1, .inl (G.2.1, 8, .inl cu)), (a 2, .inl (G.2.1, 8, .inl bg)),
   (a 3, .inl (G.2.2.2, 8, .inr (.inr (.inr (.inr (fun i => some (a (5 + i)))))))),
   (a 4, .inl (G.2.2.2, 8, .inr (.inr (.inr (.inr (fun i => some (a (5 + (8 + i)))))))))] ++ nwRows G.2.1 (fun i => a (5 + i)) 16 24 M
def wV (G : nwG) (a : Nat → Nat) (z nv : Nat) (fr tt : Nat → Nat) (zl : Nat → Int32) (ld : Nat → Nat) (gk ut : Nat → Int32) : va_W :=
  [(a 0, .inr (3, [.ref z, .ref (a 1), .ref (a 2), .int (nI nv), .ref (a 3), .ref (a 4), .ref (a 5), .ref (a 6)])),
   (a 1, .inl (G.2.1, 12, .inl (fun j => nI (fr j)))), (a 2, .inl (G.2.1, 12, .inl (fun j => nI (tt j)))),
   (a 3, .inl (G.2.1, 8, .inl zl)), (a 4, .inl (G.2.1, 8, .inl (fun j => nI (ld j)))), (a 5, .inl (G.2.1, 8, .inl gk)), (a 6, .inl (G.2.2.1, 8, .inl ut))]
def wL (G : nwG) (a : Nat → Nat) (M : Nat → Nat → Int32) : va_W :=
  [(a 0, .inr (1, [.ref (a 1)])), (a 1, .inl (G.2.2.2, 2, .inr (.inr (.inr (.inr (fun i => some (a (2 + i))))))))] ++ nwRows G.2.1 (fun i => a (2 + i)) 2 64 M
def wS (G : nwG) (a : Nat → Nat) (ns : Nat) (w : Nat → Nat) (M : Nat → Nat → Int32) : va_W :=
  [(a 0, .inr (2, [.ref (a 1), .int (nI ns), .ref (a 2), .ref (a 3)])), (a 1, .inl (G.2.1, 12, .inl (fun j => nI (w j)))),
   (a 2, .inl (G.2.2.2, 12, .inr (.inr (.inr (.inr (fun i => some (a (4 + i)))))))),
   (a 3, .inl (G.2.2.2, 12, .inr (.inr (.inr (.inr (fun i => some (a (4 + (12 + i)))))))))] ++ nwRows G.2.1 (fun i => a (4 + i)) 24 12 M
def wD (G : nwG) (a : Nat → Nat) (nd : Nat) (lo ho : Nat → Int32) (rk : Nat → Nat) : va_W :=
  [(a 0, .inr (0, [.ref (a 1), .ref (a 2), .ref (a 3), .int (nI nd)])), (a 1, .inl (G.2.1, 8, .inl lo)), (a 2, .inl (G.2.1, 8, .inl ho)), (a 3, .inl (G.2.1, 8, .inl (fun j => nI (rk j))))]
def wM (G : nwG) (a : Nat → Nat) (n : Nat) (cu bg co go : Nat → Int32) (er us ll lm lh : Int32) (nv : Nat) (fr tt gr : Nat → Nat) (hd : Nat → Int32) (ns : Nat) (w : Nat → Nat) (cs cl : Nat → Int32) (nd : Nat) (lo ho : Nat → Int32) (so : Nat → Nat) : va_W :=
  [(a 0, .inr (6, [.int (nI n), .ref (a 1), .ref (a 2), .ref (a 3), .ref (a 4), .int er, .int us, .int ll, .int lm, .int lh, .int (nI nv), .ref (a 5), .ref (a 6), .ref (a 7), .ref (a 8), .int (nI ns), .ref (a 9), .ref (a 10), .ref (a 11), .int (nI nd), .ref (a 12), .ref (a 13), .ref (a 14)])),
   (a 1, .inl (G.2.1, 8, .inl cu)), (a 2, .inl (G.2.1, 8, .inl bg)), (a 3, .inl (G.2.1, 192, .inl co)), (a 4, .inl (G.2.1, 192, .inl go)),
   (a 5, .inl (G.2.1, 12, .inl (fun j => nI (fr j)))), (a 6, .inl (G.2.1, 12, .inl (fun j => nI (tt j)))), (a 7, .inl (G.2.1, 8, .inl (fun j => nI (gr j)))),
   (a 8, .inl (G.2.1, 128, .inl hd)), (a 9, .inl (G.2.1, 12, .inl (fun j => nI (w j)))), (a 10, .inl (G.2.1, 144, .inl cs)), (a 11, .inl (G.2.1, 144, .inl cl)),
   (a 12, .inl (G.2.1, 8, .inl lo)), (a 13, .inl (G.2.1, 8, .inl ho)), (a 14, .inl (G.2.1, 8, .inl (fun j => nI (so j))))]
def wN (b z v li st d : Nat) : va_W := [(b, .inr (5, [.ref z, .ref v, .ref li, .ref st, .ref d]))]
theorem nwSp.gen (a b c : va_W) {ws : va_W} {f : va_W → va_W} (h : ws = a ++ (b ++ c)) (hf : ∀ w, f w = a ++ (w ++ c)) : nwSp ws b f := by
  subst h
  obtain ⟨wr, i1, i2, h1, h2, h3, h3', h4, h5⟩ := nwSp.seg a b c
  exact ⟨wr, i1, i2, h1, h2, h3, h3', h4, fun w => by rw [hf]; exact h5 w⟩
end
section
/-! Plain facts: a choice by any proposition, ranges of ints, what the class reckons (zones). -/
noncomputable def nwIf {α : Type} (p : Prop) (a b : α) : α := @ite α p (Classical.propDecidable p) a b
theorem nwIf_t {α : Type} {p : Prop} (h : p) (a b : α) : nwIf p a b = a := by unfold nwIf; exact if_pos h
theorem nwIf_f {α : Type} {p : Prop} (h : ¬ p) (a b : α) : nwIf p a b = b := by unfold nwIf; exact if_neg h
theorem nwIf_T {α : Type} (a b : α) : nwIf True a b = a := nwIf_t trivial a b
theorem nwIf_F {α : Type} (a b : α) : nwIf False a b = b := nwIf_f id a b

theorem nw_dec {k : Nat} (h : 0 < k) : nI k + Int32.ofInt (-1) = nI (k - 1) := by
  obtain ⟨j, rfl⟩ : ∃ j, k = j + 1 := ⟨k - 1, by omega⟩
  exact pk_m1 j
def out (v lo hi : Int32) : Prop := v < lo ∨ hi < v
theorem nw_le {x M : Int32} {n : Nat} (hM : M = nI n) (hn : n < 2 ^ 31) (h : ¬ out x 0 M) : ∃ j : Nat, j ≤ n ∧ x = nI j := by
  subst hM
  unfold out at h
  obtain ⟨j, hj, rfl⟩ := nI_of (x := x) (fun q => h (Or.inl q))
  refine ⟨j, ?_, rfl⟩
  rcases Nat.lt_or_ge n j with q | q
  · exact absurd (Or.inr (nI_lt q hj)) h
  · exact q
theorem nw_lt {x : Int32} {n : Nat} (hn : n < 2 ^ 31) (h : ¬ out x 0 (nI n - 1)) : ∃ j : Nat, j < n ∧ x = nI j := by
  cases n with
  | zero =>
    exfalso
    unfold out at h
    obtain ⟨j, hj, rfl⟩ := nI_of (x := x) (fun q => h (Or.inl q))
    apply h
    right
    rw [Int32.lt_iff_toInt_lt, nI_toInt hj]
    have : (nI 0 - 1 : Int32).toInt = -1 := by decide
    omega
  | succ n =>
    rw [nI_pred] at h
    obtain ⟨j, h1, h2⟩ := nw_le rfl (by omega) h
    exact ⟨j, by omega, h2⟩
theorem nw_clamp {x : Int32} {j : Nat} (h : x = nI j) (hj : j < 2 ^ 31) : x.toNatClampNeg = j := by rw [h]; exact nI_clamp hj
/-! zones -/
def lstF (er v : Int32) : Int32 := v * (1000 - er) / 1000
def grtF (er v : Int32) : Int32 := (v * (1000 + er) + 999) / 1000
noncomputable def zoneF (n : Nat) (c b : Int32) : Int32 := nwIf (out c 0 5000 ∨ out b 0 5000) (-2) (nwIf (8 ≤ n) (-4) (nI n))
def zoneOk (n : Nat) (c b : Int32) : Prop := ¬ out c 0 5000 ∧ ¬ out b 0 5000 ∧ n < 8
def rulesOk (e u : Int32) : Prop := ¬ out e 0 200 ∧ ¬ out u 0 20
def readOk (n : Nat) (z h v : Int32) : Prop := ¬ out z 0 (nI n - 1) ∧ ¬ out h 0 23 ∧ ¬ out v (-1) 20000
noncomputable def readRow (z b : Int32) : Nat := nwIf (b = 0) (8 + z.toNatClampNeg) z.toNatClampNeg
/-- the low of hours 1 .. k: the hour (-1: none), its greatest, its least -/
noncomputable def lowF (er : Int32) (f g : Nat → Int32) : Nat → Int32 × Int32 × Int32
  | 0 => (-1, 0, 0)
  | k + 1 => nwIf ((¬ f (k + 1) = -1) ∧ (¬ g (k + 1) = -1) ∧ ((lowF er f g k).1 = -1 ∨ grtF er (f (k + 1)) - lstF er (g (k + 1)) < (lowF er f g k).2.1)) (nI (k + 1), grtF er (f (k + 1)) - lstF er (g (k + 1)), lstF er (f (k + 1)) - grtF er (g (k + 1))) (lowF er f g k)
theorem lowF_s {er : Int32} {f g : Nat → Int32} (k : Nat) : lowF er f g (k + 1) = nwIf ((¬ f (k + 1) = -1) ∧ (¬ g (k + 1) = -1) ∧ ((lowF er f g k).1 = -1 ∨ grtF er (f (k + 1)) - lstF er (g (k + 1)) < (lowF er f g k).2.1)) (nI (k + 1), grtF er (f (k + 1)) - lstF er (g (k + 1)), lstF er (f (k + 1)) - grtF er (g (k + 1))) (lowF er f g k) := rfl
theorem lowF_h {er : Int32} {f g : Nat → Int32} (k : Nat) : (lowF er f g k).1 = -1 ∨ ∃ h : Nat, 1 ≤ h ∧ h ≤ k ∧ lowF er f g k = (nI h, grtF er (f h) - lstF er (g h), lstF er (f h) - grtF er (g h)) := by
  induction k with
  | zero => left; rfl
  | succ k ih =>
    rw [lowF_s]
    by_cases c : ((¬ f (k + 1) = -1) ∧ (¬ g (k + 1) = -1) ∧ ((lowF er f g k).1 = -1 ∨ grtF er (f (k + 1)) - lstF er (g (k + 1)) < (lowF er f g k).2.1))
    · rw [nwIf_t c]
      right
      exact ⟨k + 1, by omega, by omega, rfl⟩
    · rw [nwIf_f c]
      rcases ih with h | ⟨h, h1, h2, h3⟩
      · exact Or.inl h
      · exact Or.inr ⟨h, h1, by omega, h3⟩
theorem nI_nm1 {h : Nat} (hh : h < 2 ^ 31) : ¬ nI h = -1 := by
  intro e
  have := congrArg Int32.toInt e
  rw [nI_toInt hh] at this
  have h2 : (-1 : Int32).toInt = -1 := by decide
  omega
noncomputable def leakF (er us c b : Int32) (f g : Nat → Int32) (what : Int32) : Int32 := nwIf ((lowF er f g 4).1 = -1) (-2000000000) (nwIf (what = 0) ((lowF er f g 4).2.2 - b - c * us) ((lowF er f g 4).2.1 - b))
noncomputable def lowPF (n : Nat) (M : Nat → Nat → Int32) (er z what : Int32) : Int32 := nwIf (out z 0 (nI n - 1) ∨ out what 0 2) (-2000000000) (nwIf ((lowF er (M z.toNatClampNeg) (M (8 + z.toNatClampNeg)) 4).1 = -1) (-2000000000) (nwIf (what = 2) (lowF er (M z.toNatClampNeg) (M (8 + z.toNatClampNeg)) 4).1 (nwIf (what = 0) (lowF er (M z.toNatClampNeg) (M (8 + z.toNatClampNeg)) 4).2.2 (lowF er (M z.toNatClampNeg) (M (8 + z.toNatClampNeg)) 4).2.1)))
noncomputable def leaksF (n : Nat) (cu bg : Nat → Int32) (M : Nat → Nat → Int32) (er us z what : Int32) : Int32 := nwIf (out z 0 (nI n - 1) ∨ out what 0 1) (-2000000000) (leakF er us (cu z.toNatClampNeg) (bg z.toNatClampNeg) (M z.toNatClampNeg) (M (8 + z.toNatClampNeg)) what)
end
section
/-! Plain facts on zones: lost readings, the digest's part. -/
/-- of the first k readings (24 a zone), in and out: how many are lost -/
noncomputable def rlF (M : Nat → Nat → Int32) : Nat → Int32
  | 0 => 0
  | k + 1 => rlF M k + nwIf (M (k / 24) (k % 24) = -1) 1 0 + nwIf (M (8 + k / 24) (k % 24) = -1) 1 0
theorem rlF_s {M : Nat → Nat → Int32} (k : Nat) : rlF M (k + 1) = rlF M k + nwIf (M (k / 24) (k % 24) = -1) 1 0 + nwIf (M (8 + k / 24) (k % 24) = -1) 1 0 := rfl
theorem rlF_at {M : Nat → Nat → Int32} {z j : Nat} (hj : j < 24) : rlF M (24 * z + (j + 1)) = rlF M (24 * z + j) + nwIf (M z j = -1) 1 0 + nwIf (M (8 + z) j = -1) 1 0 := by
  have h := rlF_s (M := M) (24 * z + j)
  rw [show (24 * z + j) / 24 = z by omega, show (24 * z + j) % 24 = j by omega] at h
  exact h
theorem rlF_n {M : Nat → Nat → Int32} {z : Nat} : rlF M (24 * (z + 1)) = rlF M (24 * z + 24) := by rw [show 24 * (z + 1) = 24 * z + 24 by omega]
/-- a zone's hours mixed into the digest -/
def hdF (f g : Nat → Int32) (h : Int64) : Nat → Int64
  | 0 => h
  | j + 1 => 31 * (31 * hdF f g h j + (f j).toInt64) + (g j).toInt64
theorem hdF_s {f g : Nat → Int32} {h : Int64} (j : Nat) : hdF f g h (j + 1) = 31 * (31 * hdF f g h j + (f j).toInt64) + (g j).toInt64 := rfl
noncomputable def zdF (cu bg : Nat → Int32) (M : Nat → Nat → Int32) (er us : Int32) (h : Int64) : Nat → Int64
  | 0 => h
  | z + 1 => hdF (M z) (M (8 + z)) (31 * (31 * zdF cu bg M er us h z + (leakF er us (cu z) (bg z) (M z) (M (8 + z)) 0).toInt64) + (leakF er us (cu z) (bg z) (M z) (M (8 + z)) 1).toInt64) 24
theorem zdF_s {cu bg : Nat → Int32} {M : Nat → Nat → Int32} {er us : Int32} {h : Int64} (z : Nat) : zdF cu bg M er us h (z + 1) = hdF (M z) (M (8 + z)) (31 * (31 * zdF cu bg M er us h z + (leakF er us (cu z) (bg z) (M z) (M (8 + z)) 0).toInt64) + (leakF er us (cu z) (bg z) (M z) (M (8 + z)) 1).toInt64) 24 := rfl
theorem nw_in_ok {n z : Nat} (hz : z < n) (hn : n < 2 ^ 31) : ¬ out (nI z) 0 (nI n - 1) := by
  obtain ⟨m, rfl⟩ : ∃ m, n = m + 1 := ⟨n - 1, by omega⟩
  rw [nI_pred]
  unfold out
  rintro (h | h)
  · exact nI_pos (by omega) h
  · exact nI_nlt (show z ≤ m by omega) (by omega) h
theorem leaksF_at {n : Nat} {cu bg : Nat → Int32} {M : Nat → Nat → Int32} {er us what : Int32} {z : Nat} (hz : z < n) (hn : n ≤ 8) (hw : ¬ out what 0 1) : leaksF n cu bg M er us (nI z) what = leakF er us (cu z) (bg z) (M z) (M (8 + z)) what := by
  unfold leaksF
  rw [nwIf_f (fun h => h.elim (nw_in_ok hz (by omega)) hw), nI_clamp (by omega)]
end
section
/-! Plain facts on groups: what valves put together, what a set explains, the fewest. -/
def valveOk (n nv : Nat) (x y : Int32) : Prop := ¬ out x 0 (nI n - 1) ∧ ¬ out y 0 (nI n - 1) ∧ ¬ x = y ∧ nv < 12
noncomputable def valveF (n nv : Nat) (x y : Int32) : Int32 := nwIf (out x 0 (nI n - 1) ∨ out y 0 (nI n - 1) ∨ x = y) (-2) (nwIf (12 ≤ nv) (-4) (nI nv))
/-- what an open valve between the groups x and y makes of the leaders gl -/
noncomputable def gst (n : Nat) (gl : Nat → Nat) (x y : Nat) : Nat → Nat := fun z => nwIf (z < n ∧ (gl z = x ∨ gl z = y)) (min x y) (gl z)
/-- the leaders behind the first v valves -/
noncomputable def grF (n : Nat) (fr tt : Nat → Nat) (k : Nat) (g0 : Nat → Nat) : Nat → Nat → Nat
  | 0 => fun z => nwIf (z < n) z (g0 z)
  | v + 1 => nwIf (k.testBit v = true) (gst n (grF n fr tt k g0 v) (grF n fr tt k g0 v (fr v)) (grF n fr tt k g0 v (tt v))) (grF n fr tt k g0 v)
theorem grF_s {n : Nat} {fr tt : Nat → Nat} {k : Nat} {g0 : Nat → Nat} (v : Nat) : grF n fr tt k g0 (v + 1) = nwIf (k.testBit v = true) (gst n (grF n fr tt k g0 v) (grF n fr tt k g0 v (fr v)) (grF n fr tt k g0 v (tt v))) (grF n fr tt k g0 v) := rfl
theorem gst_in {n : Nat} {gl : Nat → Nat} {x y z : Nat} (h : z < n ∧ (gl z = x ∨ gl z = y)) : gst n gl x y z = min x y := nwIf_t h _ _
theorem gst_out {n : Nat} {gl : Nat → Nat} {x y z : Nat} (h : ¬ (z < n ∧ (gl z = x ∨ gl z = y))) : gst n gl x y z = gl z := nwIf_f h _ _
/-- leaders are zones no greater than those they lead, and lead themselves -/
def ldOk (n : Nat) (gl : Nat → Nat) : Prop := ∀ z, z < n → gl z ≤ z ∧ gl (gl z) = gl z
theorem gst_ok {n : Nat} {gl : Nat → Nat} {x y : Nat} (h : ldOk n gl) (hx : ∃ i, i < n ∧ x = gl i) (hy : ∃ i, i < n ∧ y = gl i) : ldOk n (gst n gl x y) := by
  obtain ⟨i, hi, rfl⟩ := hx
  obtain ⟨j, hj, rfl⟩ := hy
  have hi2 := h i hi
  have hj2 := h j hj
  intro z hz
  have hz2 := h z hz
  by_cases c : gl z = gl i ∨ gl z = gl j
  · rw [gst_in ⟨hz, c⟩]
    refine ⟨by omega, ?_⟩
    rcases Nat.le_total (gl i) (gl j) with q | q
    · rw [Nat.min_eq_left q, gst_in ⟨by omega, Or.inl hi2.2⟩, Nat.min_eq_left q]
    · rw [Nat.min_eq_right q, gst_in ⟨by omega, Or.inr hj2.2⟩, Nat.min_eq_right q]
  · rw [gst_out (fun q => c q.2)]
    refine ⟨hz2.1, ?_⟩
    rw [gst_out (fun q => c (by rw [hz2.2] at q; exact q.2))]
    exact hz2.2
theorem grF_ok {n nv : Nat} {fr tt : Nat → Nat} {k : Nat} {g0 : Nat → Nat} (hf : ∀ v, v < nv → fr v < n ∧ tt v < n) : ∀ v, v ≤ nv → ldOk n (grF n fr tt k g0 v) := by
  intro v
  induction v with
  | zero =>
    intro _ z hz
    show nwIf (z < n) z (g0 z) ≤ z ∧ nwIf (nwIf (z < n) z (g0 z) < n) (nwIf (z < n) z (g0 z)) (g0 (nwIf (z < n) z (g0 z))) = nwIf (z < n) z (g0 z)
    rw [nwIf_t hz, nwIf_t hz]
    exact ⟨Nat.le_refl z, rfl⟩
  | succ v ih =>
    intro hv
    have h := ih (by omega)
    rw [grF_s]
    by_cases c : k.testBit v = true
    · rw [nwIf_t c]
      exact gst_ok h ⟨fr v, (hf v hv).1, rfl⟩ ⟨tt v, (hf v hv).2, rfl⟩
    · rw [nwIf_f c]
      exact h
theorem grF_lt {n nv : Nat} {fr tt : Nat → Nat} {k : Nat} {g0 : Nat → Nat} (hf : ∀ v, v < nv → fr v < n ∧ tt v < n) {v z : Nat} (hv : v ≤ nv) (hz : z < n) : grF n fr tt k g0 v z < n := Nat.lt_of_le_of_lt (grF_ok hf v hv z hz).1 hz
theorem grF_junk {n nv : Nat} {fr tt : Nat → Nat} {k : Nat} {g0 g1 : Nat → Nat} (hf : ∀ v, v < nv → fr v < n ∧ tt v < n) : ∀ v, v ≤ nv → ∀ z, z < n → grF n fr tt k g0 v z = grF n fr tt k g1 v z := by
  intro v
  induction v with
  | zero =>
    intro _ z hz
    show nwIf (z < n) z (g0 z) = nwIf (z < n) z (g1 z)
    rw [nwIf_t hz, nwIf_t hz]
  | succ v ih =>
    intro hv z hz
    have h := ih (by omega)
    rw [grF_s, grF_s]
    by_cases c : k.testBit v = true
    · rw [nwIf_t c, nwIf_t c]
      unfold gst
      rw [h z hz, h _ (hf v hv).1, h _ (hf v hv).2]
    · rw [nwIf_f c, nwIf_f c]
      exact h z hz
/-- what lies behind n stays -/
theorem grF_hi {n : Nat} {fr tt : Nat → Nat} {k : Nat} {g0 : Nat → Nat} : ∀ v z, n ≤ z → grF n fr tt k g0 v z = g0 z := by
  intro v
  induction v with
  | zero => intro z hz; exact nwIf_f (by omega) _ _
  | succ v ih =>
    intro z hz
    rw [grF_s]
    by_cases c : k.testBit v = true
    · rw [nwIf_t c, gst_out (by omega)]; exact ih z hz
    · rw [nwIf_f c]; exact ih z hz
def setBad (nv : Nat) (x : Int32) : Prop := out x 0 (nI (2 ^ nv) - 1)
noncomputable def groupF (n nv : Nat) (fr tt : Nat → Nat) (z x : Int32) : Int32 := nwIf (out z 0 (nI n - 1) ∨ setBad nv x) (-2) (nI (grF n fr tt x.toNatClampNeg (fun _ => 0) nv z.toNatClampNeg))
/-- the sum of the leaks of the told zones below m that g leads, and whether one of them isn't told -/
noncomputable def gsum (gl : Nat → Nat) (lk : Nat → Int32) (g : Nat) : Nat → Int32
  | 0 => 0
  | m + 1 => nwIf (gl m = g ∧ ¬ lk m = -2000000000) (gsum gl lk g m + lk m) (gsum gl lk g m)
def gunt (gl : Nat → Nat) (lk : Nat → Int32) (g m : Nat) : Prop := ∃ z, z < m ∧ gl z = g ∧ lk z = -2000000000
def expl (n : Nat) (gl : Nat → Nat) (lk : Nat → Int32) : Prop := ∀ g, g < n → gunt gl lk g n ∨ ¬ gsum gl lk g n < 0
theorem gsum_s {gl : Nat → Nat} {lk : Nat → Int32} {g : Nat} (m : Nat) : gsum gl lk g (m + 1) = nwIf (gl m = g ∧ ¬ lk m = -2000000000) (gsum gl lk g m + lk m) (gsum gl lk g m) := rfl
theorem gunt_s {gl : Nat → Nat} {lk : Nat → Int32} {g m : Nat} : gunt gl lk g (m + 1) ↔ gunt gl lk g m ∨ (gl m = g ∧ lk m = -2000000000) := by
  constructor
  · rintro ⟨z, h1, h2, h3⟩
    by_cases e : z = m
    · subst e; exact Or.inr ⟨h2, h3⟩
    · exact Or.inl ⟨z, by omega, h2, h3⟩
  · rintro (⟨z, h1, h2, h3⟩ | ⟨h2, h3⟩)
    · exact ⟨z, by omega, h2, h3⟩
    · exact ⟨m, by omega, h2, h3⟩
theorem gunt_0 {gl : Nat → Nat} {lk : Nat → Int32} {g : Nat} : ¬ gunt gl lk g 0 := fun ⟨z, h, _⟩ => absurd h (Nat.not_lt_zero z)
/-- who leads nobody has no sum -/
theorem gsum_none {gl : Nat → Nat} {lk : Nat → Int32} {g : Nat} : ∀ m, (∀ z, z < m → ¬ gl z = g) → gsum gl lk g m = 0 := by
  intro m
  induction m with
  | zero => intro _; rfl
  | succ m ih =>
    intro h
    rw [gsum_s, nwIf_f (fun q => h m (by omega) q.1)]
    exact ih (fun z hz => h z (by omega))
theorem gsum_congr {g1 g2 : Nat → Nat} {l1 l2 : Nat → Int32} {g : Nat} : ∀ m, (∀ z, z < m → g1 z = g2 z) → (∀ z, z < m → l1 z = l2 z) → gsum g1 l1 g m = gsum g2 l2 g m := by
  intro m
  induction m with
  | zero => intro _ _; rfl
  | succ m ih =>
    intro h1 h2
    rw [gsum_s, gsum_s, h1 m (by omega), h2 m (by omega), ih (fun z hz => h1 z (by omega)) (fun z hz => h2 z (by omega))]
theorem expl_congr {n : Nat} {g1 g2 : Nat → Nat} {l1 l2 : Nat → Int32} (h1 : ∀ z, z < n → g1 z = g2 z) (h2 : ∀ z, z < n → l1 z = l2 z) : expl n g1 l1 → expl n g2 l2 := by
  intro h g hg
  rcases h g hg with ⟨z, a, b, c⟩ | q
  · exact Or.inl ⟨z, a, (h1 z a).symm.trans b, (h2 z a).symm.trans c⟩
  · rw [gsum_congr n h1 h2] at q
    exact Or.inr q
/-- the greatest leak of a zone, as the class has it -/
noncomputable def lk1 (cu bg : Nat → Int32) (M : Nat → Nat → Int32) (er us : Int32) : Nat → Int32 := fun z => leakF er us (cu z) (bg z) (M z) (M (8 + z)) 1
noncomputable def explF (n nv : Nat) (fr tt : Nat → Nat) (lk : Nat → Int32) (x : Int32) : Int32 := nwIf (setBad nv x) (-2) (nwIf (expl n (grF n fr tt x.toNatClampNeg (fun _ => 0) nv) lk) 1 0)
/-! steps of the class's loops over leaders -/
theorem nw_min_nI {x y : Nat} (hx : x < 2 ^ 31) (hy : y < 2 ^ 31) : (if nI y < nI x then nI y else nI x) = nI (min x y) := by
  by_cases h : y < x
  · rw [if_pos ((nI_ltI hy hx).mpr h), Nat.min_eq_right (by omega)]
  · rw [if_neg (fun q => h ((nI_ltI hy hx).mp q)), Nat.min_eq_left (by omega)]
theorem nw_max_nI {x y : Nat} (hx : x < 2 ^ 31) (hy : y < 2 ^ 31) : (if nI x < nI y then nI y else nI x) = nI (max x y) := by
  by_cases h : x < y
  · rw [if_pos ((nI_ltI hx hy).mpr h), Nat.max_eq_right (by omega)]
  · rw [if_neg (fun q => h ((nI_ltI hx hy).mp q)), Nat.max_eq_left (by omega)]
theorem nw_shl1 : ∀ n, n < 31 → (1 : Int32) <<< (nI n &&& 31) = nI (2 ^ n) := by decide +kernel
theorem nw_pow_lt {n : Nat} (h : n ≤ 12) : 2 ^ n ≤ 4096 := by
  have : 2 ^ n ≤ 2 ^ 12 := Nat.pow_le_pow_right (by omega) h
  omega
theorem nw_smod : ∀ v, v < 31 → ((nI v &&& 31).toBitVec.smod 32).toNat = v := by decide +kernel
theorem nw_bit {k v : Nat} (hk : k < 2 ^ 31) (hv : v < 31) : ((nI k >>> (nI v &&& 31)) &&& 1) = nI (k / 2 ^ v % 2) := by
  rw [pk_shrN hk _ v (nw_smod v hv)]
  have h : k / 2 ^ v < 2 ^ 32 := Nat.lt_of_le_of_lt (Nat.div_le_self _ _) (by omega)
  exact pk_andN h 1 rfl
theorem nw_bit1 {k v : Nat} (hk : k < 2 ^ 31) (hv : v < 31) : ((nI k >>> (nI v &&& 31)) &&& 1) = 1 ↔ k.testBit v = true := by
  rw [nw_bit hk hv]
  have h2 : k / 2 ^ v % 2 < 2 := Nat.mod_lt _ (by omega)
  rw [show (1 : Int32) = nI 1 from rfl, nI_eq (by omega) (by omega)]
  rw [Nat.testBit_eq_decide_div_mod_eq]
  exact (decide_eq_true_iff).symm
/-- leaders are set to the zones themselves, one by one -/
def id0 (ld : Nat → Nat) (z : Nat) : Nat → Nat := fun j => if j < z then j else ld j
theorem id0_0 {ld : Nat → Nat} : id0 ld 0 = ld := by funext j; simp [id0]
theorem id0_s {ld : Nat → Nat} {z : Nat} : va_up (id0 ld z) z z = id0 ld (z + 1) := by
  funext j
  by_cases h : j = z
  · subst h; rw [va_up_self]; simp [id0]
  · rw [va_up_ne _ _ h]
    unfold id0
    by_cases q : j < z
    · rw [if_pos q, if_pos (by omega)]
    · rw [if_neg q, if_neg (by omega)]
theorem id0_grF {n : Nat} {fr tt : Nat → Nat} {k : Nat} {ld : Nat → Nat} : id0 ld n = grF n fr tt k ld 0 := by
  funext j
  show (if j < n then j else ld j) = nwIf (j < n) j (ld j)
  by_cases q : j < n
  · rw [if_pos q, nwIf_t q]
  · rw [if_neg q, nwIf_f q]
/-- one by one the leaders of a join -/
noncomputable def gst0 (gl : Nat → Nat) (x y m : Nat) : Nat → Nat := gst m gl x y
theorem gst_0 {gl : Nat → Nat} {x y : Nat} : gst 0 gl x y = gl := by funext z; exact gst_out (by omega)
theorem gst_hit {gl : Nat → Nat} {x y m : Nat} (h : gl m = x ∨ gl m = y) : va_up (gst m gl x y) m (min x y) = gst (m + 1) gl x y := by
  funext j
  by_cases e : j = m
  · subst e; rw [va_up_self, gst_in ⟨by omega, h⟩]
  · rw [va_up_ne _ _ e]
    by_cases q : j < m ∧ (gl j = x ∨ gl j = y)
    · rw [gst_in q, gst_in ⟨by omega, q.2⟩]
    · rw [gst_out q, gst_out (fun w => q ⟨by omega, w.2⟩)]
theorem gst_same {gl : Nat → Nat} {x y m : Nat} (h : gl m = min x y ∨ ¬ (gl m = x ∨ gl m = y)) : gst m gl x y = gst (m + 1) gl x y := by
  funext j
  by_cases e : j = m
  · subst e
    rw [gst_out (by omega)]
    by_cases q : gl j = x ∨ gl j = y
    · rw [gst_in ⟨by omega, q⟩]
      rcases h with h | h
      · exact h
      · exact absurd q h
    · rw [gst_out (fun w => q w.2)]
  · by_cases q : j < m ∧ (gl j = x ∨ gl j = y)
    · rw [gst_in q, gst_in ⟨by omega, q.2⟩]
    · rw [gst_out q, gst_out (fun w => q ⟨by omega, w.2⟩)]
theorem gst_lt {gl : Nat → Nat} {x y m b : Nat} (h : ∀ j, gl j < b) (hx : x < b) (hy : y < b) : ∀ j, gst m gl x y j < b := by
  intro j
  by_cases q : j < m ∧ (gl j = x ∨ gl j = y)
  · rw [gst_in q]; omega
  · rw [gst_out q]; exact h j
theorem grF_b {n : Nat} {fr tt : Nat → Nat} {k b : Nat} {g0 : Nat → Nat} (hn : n ≤ b) (h : ∀ j, g0 j < b) : ∀ v j, grF n fr tt k g0 v j < b := by
  intro v
  induction v with
  | zero =>
    intro j
    show nwIf (j < n) j (g0 j) < b
    by_cases q : j < n
    · rw [nwIf_t q]; omega
    · rw [nwIf_f q]; exact h j
  | succ v ih =>
    intro j
    rw [grF_s]
    by_cases c : k.testBit v = true
    · rw [nwIf_t c]; exact gst_lt ih (ih _) (ih _) j
    · rw [nwIf_f c]; exact ih j
/-! steps of the reckoning of groups' leaks -/
theorem gs_lost {n z : Nat} {gl : Nat → Nat} {zl gk ut : Nat → Int32} (h : ∀ g, g < n → gk g = gsum gl zl g z ∧ ut g = nwIf (gunt gl zl g z) 1 0) (hl : zl z = -2000000000) : ∀ g, g < n → gk g = gsum gl zl g (z + 1) ∧ va_up ut (gl z) 1 g = nwIf (gunt gl zl g (z + 1)) 1 0 := by
  intro g hg
  obtain ⟨h1, h2⟩ := h g hg
  refine ⟨by rw [gsum_s, nwIf_f (fun q => q.2 hl)]; exact h1, ?_⟩
  by_cases e : g = gl z
  · subst e
    rw [va_up_self, nwIf_t (gunt_s.mpr (Or.inr ⟨rfl, hl⟩))]
  · rw [va_up_ne _ _ e, h2]
    by_cases q : gunt gl zl g z
    · rw [nwIf_t q, nwIf_t (gunt_s.mpr (Or.inl q))]
    · rw [nwIf_f q, nwIf_f (fun w => (gunt_s.mp w).elim q (fun r => e r.1.symm))]
theorem gs_told {n z : Nat} {gl : Nat → Nat} {zl gk ut : Nat → Int32} (h : ∀ g, g < n → gk g = gsum gl zl g z ∧ ut g = nwIf (gunt gl zl g z) 1 0) (hl : ¬ zl z = -2000000000) : ∀ g, g < n → va_up gk (gl z) (gk (gl z) + zl z) g = gsum gl zl g (z + 1) ∧ ut g = nwIf (gunt gl zl g (z + 1)) 1 0 := by
  intro g hg
  obtain ⟨h1, h2⟩ := h g hg
  constructor
  · by_cases e : g = gl z
    · subst e
      rw [va_up_self, gsum_s, nwIf_t ⟨rfl, hl⟩, h1]
    · rw [va_up_ne _ _ e, gsum_s, nwIf_f (fun q => e q.1.symm)]
      exact h1
  · rw [h2]
    by_cases q : gunt gl zl g z
    · rw [nwIf_t q, nwIf_t (gunt_s.mpr (Or.inl q))]
    · rw [nwIf_f q, nwIf_f (fun w => (gunt_s.mp w).elim q (fun r => hl r.2))]
theorem nw_t10 {p : Prop} (h : ¬ nwIf p (1 : Int32) 0 = 0) : p := by
  by_cases q : p
  · exact q
  · rw [nwIf_f q] at h; exact absurd rfl h
theorem nw_f10 {p : Prop} (h : nwIf p (1 : Int32) 0 = 0) : ¬ p := fun q => by
  rw [nwIf_t q] at h
  exact absurd h (by decide)
/-- valves in the digest -/
def vdF (fr tt : Nat → Nat) (h : Int64) : Nat → Int64
  | 0 => h
  | i + 1 => 31 * (31 * vdF fr tt h i + (nI (fr i)).toInt64) + (nI (tt i)).toInt64
theorem vdF_s {fr tt : Nat → Nat} {h : Int64} (i : Nat) : vdF fr tt h (i + 1) = 31 * (31 * vdF fr tt h i + (nI (fr i)).toInt64) + (nI (tt i)).toInt64 := rfl
theorem nw_fill {f g : Nat → Int32} {z : Nat} {x : Int32} (h : ∀ j, j < z → f j = g j) (hx : x = g z) : ∀ j, j < z + 1 → va_up f z x j = g j := by
  intro j hj
  by_cases e : j = z
  · subst e; rw [va_up_self]; exact hx
  · rw [va_up_ne _ _ e]; exact h j (by omega)
theorem nw_fill2 {f g : Nat → Int32} {z : Nat} (h : ∀ j, j < z → f j = 0 ∧ g j = 0) : ∀ j, j < z + 1 → va_up f z 0 j = 0 ∧ va_up g z 0 j = 0 := by
  intro j hj
  by_cases e : j = z
  · subst e; rw [va_up_self, va_up_self]; exact ⟨rfl, rfl⟩
  · rw [va_up_ne _ _ e, va_up_ne _ _ e]; exact h j (by omega)
theorem nw_ext {p : Nat → Prop} {z : Nat} (h : ∀ g, g < z → p g) (hz : p z) : ∀ g, g < z + 1 → p g := by
  intro g hg
  by_cases e : g = z
  · subst e; exact hz
  · exact h g (by omega)
end
section
/-! Plain facts on listeners: sums, counts, the delay. -/
def sampOk (l i v : Int32) : Prop := ¬ out l 0 1 ∧ ¬ out i 0 63 ∧ (v = -2000000000 ∨ ¬ out v (-1000) 1000)
def echoBad (l i j n : Int32) : Prop := out l 0 1 ∨ out n 1 64 ∨ out i 0 (64 - n) ∨ out j 0 (64 - n)
/-- rows behind m copied samples -/
noncomputable def cpF (M : Nat → Nat → Int32) (l i j : Nat) : Nat → Nat → Nat → Int32
  | 0 => M
  | m + 1 => nwU2 (cpF M l i j m) l (i + m) (cpF M l i j m (1 - l) (j + m))
theorem cpF_s {M : Nat → Nat → Int32} {l i j : Nat} (m : Nat) : cpF M l i j (m + 1) = nwU2 (cpF M l i j m) l (i + m) (cpF M l i j m (1 - l) (j + m)) := rfl
def pairF (f g : Nat → Int32) (i : Nat) (d : Int32) : Prop := ¬ out (nI i + d) 0 63 ∧ ¬ f i = -2000000000 ∧ ¬ g (nI i + d).toNatClampNeg = -2000000000
noncomputable def sumF (f g : Nat → Int32) (d : Int32) : Nat → Int32
  | 0 => 0
  | i + 1 => nwIf (pairF f g i d) (sumF f g d i + f i * g (nI i + d).toNatClampNeg) (sumF f g d i)
noncomputable def cntF (f g : Nat → Int32) (d : Int32) : Nat → Nat
  | 0 => 0
  | i + 1 => nwIf (pairF f g i d) (cntF f g d i + 1) (cntF f g d i)
theorem sumF_s {f g : Nat → Int32} {d : Int32} (i : Nat) : sumF f g d (i + 1) = nwIf (pairF f g i d) (sumF f g d i + f i * g (nI i + d).toNatClampNeg) (sumF f g d i) := rfl
theorem cntF_s {f g : Nat → Int32} {d : Int32} (i : Nat) : cntF f g d (i + 1) = nwIf (pairF f g i d) (cntF f g d i + 1) (cntF f g d i) := rfl
theorem cntF_le {f g : Nat → Int32} {d : Int32} : ∀ i, cntF f g d i ≤ i := by
  intro i
  induction i with
  | zero => exact Nat.le_refl 0
  | succ i ih =>
    rw [cntF_s]
    by_cases c : pairF f g i d
    · rw [nwIf_t c]; omega
    · rw [nwIf_f c]; omega
noncomputable def sumPF (M : Nat → Nat → Int32) (d what : Int32) : Int32 := nwIf (out d (-16) 16 ∨ out what 0 1) (-2000000000) (nwIf (what = 0) (sumF (M 0) (M 1) d 64) (nI (cntF (M 0) (M 1) d 64)))
/-- one delay held against the best so far: the best (-101: none), its sum, its count -/
noncomputable def dst (f g : Nat → Int32) (near : Int32 → Prop) (st : Int32 × Int64 × Int64) (d : Int32) : Int32 × Int64 × Int64 :=
  nwIf (¬ near d ∧ 0 < cntF f g d 64 ∧ (st.1 = -101 ∨ st.2.1 * (nI (cntF f g d 64)).toInt64 < (sumF f g d 64).toInt64 * st.2.2)) (d, (sumF f g d 64).toInt64, (nI (cntF f g d 64)).toInt64) st
noncomputable def dT (t : Nat) : Int32 := nwIf (t % 2 = 0) (nI (t / 2)) (-(nI (t / 2)) - 1)
noncomputable def dseq (f g : Nat → Int32) (near : Int32 → Prop) : Nat → Int32 × Int64 × Int64
  | 0 => (-101, 0, 0)
  | t + 1 => dst f g near (dseq f g near t) (dT t)
theorem dseq_s {f g : Nat → Int32} {near : Int32 → Prop} (t : Nat) : dseq f g near (t + 1) = dst f g near (dseq f g near t) (dT t) := rfl
def nearF (c d : Int32) : Prop := ¬ 1 < (if 0 ≤ d - c then d - c else 0 - (d - c))
noncomputable def bestF (f g : Nat → Int32) (c : Int32) : Int32 := (dseq f g (nearF c) 33).1
noncomputable def delayF (M : Nat → Nat → Int32) (b : Int32) : Int32 := nwIf (b = 0) (bestF (M 0) (M 1) (-101)) (bestF (M 0) (M 1) (bestF (M 0) (M 1) (-101)))
noncomputable def pipeF (x len : Int32) : Int32 := if 0 < (if x < 2 * len then x else 2 * len) then (if x < 2 * len then x else 2 * len) else 0
noncomputable def placeF (M : Nat → Nat → Int32) (len s t what : Int32) : Int32 := nwIf (out len 1 100000 ∨ out s 1 2000 ∨ out t s 2000 ∨ out what 0 1) (-2) (nwIf (delayF M 0 = -101) (-3) (nwIf (what = 0) (if pipeF (len - delayF M 0 * t) len < pipeF (len - delayF M 0 * s) len then pipeF (len - delayF M 0 * t) len else pipeF (len - delayF M 0 * s) len) (if pipeF (len - delayF M 0 * s) len < pipeF (len - delayF M 0 * t) len then pipeF (len - delayF M 0 * t) len else pipeF (len - delayF M 0 * s) len)))
/-- how many of the first k samples of a row are lost -/
noncomputable def lostF (f g : Nat → Int32) : Nat → Int32
  | 0 => 0
  | k + 1 => lostF f g k + nwIf (f k = -2000000000) 1 0 + nwIf (g k = -2000000000) 1 0
theorem lostF_s {f g : Nat → Int32} (k : Nat) : lostF f g (k + 1) = lostF f g k + nwIf (f k = -2000000000) 1 0 + nwIf (g k = -2000000000) 1 0 := rfl
/-- a row mixed into the digest -/
def mixR (f : Nat → Int32) (h : Int64) : Nat → Int64
  | 0 => h
  | k + 1 => 31 * mixR f h k + (f k).toInt64
theorem mixR_s {f : Nat → Int32} {h : Int64} (k : Nat) : mixR f h (k + 1) = 31 * mixR f h k + (f k).toInt64 := rfl
theorem nw_l0 {c : Nat} (hc : c < 2 ^ 31) : (nI c).toInt64 ≤ 0 ↔ c = 0 := by
  rw [nI_l hc, show (0 : Int64) = lN 0 from rfl, lN_le hc (by omega)]
  omega
def l1F (f : Nat → Int32) : Nat → Nat
  | 0 => 0
  | k + 1 => l1F f k + (if f k = -2000000000 then 1 else 0)
theorem bestF_eq {f g : Nat → Int32} {c : Int32} {x : Int32 × Int64 × Int64} (h : dseq f g (nearF c) 33 = x) : x.1 = bestF f g c := by rw [← h]; rfl
noncomputable def mix2 (M : Nat → Nat → Int32) (h : Int64) : Nat → Int64
  | 0 => h
  | q + 1 => mixR (M q) (mix2 M h q) 64
theorem mix2_s {M : Nat → Nat → Int32} {h : Int64} (q : Nat) : mix2 M h (q + 1) = mixR (M q) (mix2 M h q) 64 := rfl
theorem nw_in63 {i : Nat} (h : i < 64) : ¬ out (nI i) 0 63 := by
  unfold out
  rintro (q | q)
  · exact nI_pos (by omega) q
  · exact nI_nlt (show i ≤ 63 by omega) (by omega) q
theorem nw_rng {x : Int32} (h : ¬ out x 1 64) : ∃ j : Nat, 1 ≤ j ∧ j ≤ 64 ∧ x = nI j := by
  have h0 : ¬ out x 0 64 := by
    unfold out at h ⊢
    rintro (q | q)
    · exact h (Or.inl (Int32.lt_trans q (by decide)))
    · exact h (Or.inr q)
  obtain ⟨j, h1, rfl⟩ := nw_le (n := 64) rfl (by decide) h0
  refine ⟨j, ?_, h1, rfl⟩
  rcases Nat.eq_zero_or_pos j with e | e
  · subst e; exact absurd (Or.inl (by decide)) h
  · exact e
theorem nw_64 {x : Int32} {m : Nat} (h : x = nI m) (hm : m ≤ 64) : 64 - x = nI (64 - m) := by
  subst h
  exact pk_sub (a := 64) hm
end
section
/-! Plain facts on pressure: the root by counting up. -/
def rtG (q : Nat) : Nat → Nat
  | 0 => 0
  | f + 1 => if (rtG q f + 1) * (rtG q f + 1) ≤ q then rtG q f + 1 else rtG q f
def rtF (q : Nat) : Nat := rtG q 1001
theorem rtG_min {q r : Nat} (h1 : r * r ≤ q) (h2 : q < (r + 1) * (r + 1)) : ∀ f, rtG q f = min f r := by
  intro f
  induction f with
  | zero => exact (Nat.zero_min r).symm
  | succ f ih =>
    show (if (rtG q f + 1) * (rtG q f + 1) ≤ q then rtG q f + 1 else rtG q f) = min (f + 1) r
    rw [ih]
    rcases Nat.lt_or_ge f r with h | h
    · rw [Nat.min_eq_left (by omega), Nat.min_eq_left (by omega), if_pos]
      exact Nat.le_trans (Nat.mul_le_mul h h) h1
    · rw [Nat.min_eq_right h, Nat.min_eq_right (by omega), if_neg (by omega)]
theorem rtF_is {q r : Nat} (h1 : r * r ≤ q) (h2 : q < (r + 1) * (r + 1)) (h : r ≤ 1001) : rtF q = r := by
  unfold rtF
  rw [rtG_min h1 h2]
  exact Nat.min_eq_right h
theorem rtG_le {q : Nat} : ∀ f, rtG q f ≤ f := by
  intro f
  induction f with
  | zero => exact Nat.le_refl 0
  | succ f ih =>
    show (if (rtG q f + 1) * (rtG q f + 1) ≤ q then rtG q f + 1 else rtG q f) ≤ f + 1
    by_cases h : (rtG q f + 1) * (rtG q f + 1) ≤ q
    · rw [if_pos h]; omega
    · rw [if_neg h]; omega
theorem rtG_pos {q : Nat} (hq : 1 ≤ q) : ∀ f, 1 ≤ rtG q (f + 1) := by
  intro f
  induction f with
  | zero =>
    show 1 ≤ (if (rtG q 0 + 1) * (rtG q 0 + 1) ≤ q then rtG q 0 + 1 else rtG q 0)
    rw [if_pos (show (rtG q 0 + 1) * (rtG q 0 + 1) ≤ q from hq)]
    exact Nat.le_add_left 1 _
  | succ f ih =>
    show 1 ≤ (if (rtG q (f + 1) + 1) * (rtG q (f + 1) + 1) ≤ q then rtG q (f + 1) + 1 else rtG q (f + 1))
    by_cases h : (rtG q (f + 1) + 1) * (rtG q (f + 1) + 1) ≤ q
    · rw [if_pos h]; omega
    · rw [if_neg h]; exact ih
def pullF (x : Nat) : Int64 := (nI x).toInt64 * (nI (rtF (10000 * x))).toInt64
theorem pullF_pos {x : Nat} (h1 : 1 ≤ x) (h2 : x ≤ 100) : 0 < pullF x := by
  unfold pullF
  have hr : rtF (10000 * x) ≤ 1001 := rtG_le 1001
  have hp : 1 ≤ rtF (10000 * x) := rtG_pos (by omega) 1000
  rw [nI_l (by omega), nI_l (by omega), lN_mul, show (0 : Int64) = lN 0 from rfl]
  have hm : x * rtF (10000 * x) ≤ 100 * 1001 := Nat.mul_le_mul h2 hr
  have hm2 : 1 * 1 ≤ x * rtF (10000 * x) := Nat.mul_le_mul h1 hp
  rw [lN_lt (by omega) (by omega)]
  omega
theorem nw_rng1 {x M : Int32} {n : Nat} (hM : M = nI n) (hn : n < 2 ^ 31) (h : ¬ out x 1 M) : ∃ j : Nat, 1 ≤ j ∧ j ≤ n ∧ x = nI j := by
  have h0 : ¬ out x 0 M := by
    unfold out at h ⊢
    rintro (q | q)
    · exact h (Or.inl (Int32.lt_trans q (by decide)))
    · exact h (Or.inr q)
  obtain ⟨j, h1, rfl⟩ := nw_le hM hn h0
  refine ⟨j, ?_, h1, rfl⟩
  rcases Nat.eq_zero_or_pos j with e | e
  · subst e; exact absurd (Or.inl (by decide)) h
  · exact e
noncomputable def pulledF (v x y : Int32) : Int32 := nwIf (out v 0 100000 ∨ out x 1 100 ∨ out y 1 100) (-2) ((v.toInt64 * pullF y.toNatClampNeg / pullF x.toNatClampNeg).toInt32)
end
section
/-! Plain facts on digs: put into order one by one. -/
def dahead (lo ho : Nat → Int32) (i j : Nat) : Prop := lo j * ho i < lo i * ho j
noncomputable def insF (lo ho : Nat → Int32) (d : Nat) : Nat → (Nat → Nat) → Nat → Nat
  | 0, s => va_up s 0 d
  | k + 1, s => nwIf (dahead lo ho d (s k)) (insF lo ho d k (va_up s (k + 1) (s k))) (va_up s (k + 1) d)
theorem insF_go {lo ho : Nat → Int32} {d q : Nat} {s : Nat → Nat} (hq : 0 < q) (h : dahead lo ho d (s (q - 1))) : insF lo ho d q s = insF lo ho d (q - 1) (va_up s q (s (q - 1))) := by
  obtain ⟨k, rfl⟩ : ∃ k, q = k + 1 := ⟨q - 1, by omega⟩
  exact nwIf_t h _ _
theorem insF_no {lo ho : Nat → Int32} {d q : Nat} {s : Nat → Nat} (hq : 0 < q) (h : ¬ dahead lo ho d (s (q - 1))) : insF lo ho d q s = va_up s q d := by
  obtain ⟨k, rfl⟩ : ∃ k, q = k + 1 := ⟨q - 1, by omega⟩
  exact nwIf_f h _ _
theorem insF_0 {lo ho : Nat → Int32} {d q : Nat} {s : Nat → Nat} (hq : q ≤ 0) : insF lo ho d q s = va_up s q d := by
  obtain rfl : q = 0 := by omega
  rfl
theorem va_up_lt {s : Nat → Nat} {k v b : Nat} (h : ∀ j, s j < b) (hv : v < b) : ∀ j, va_up s k v j < b := by
  intro j
  by_cases e : j = k
  · subst e; rw [va_up_self]; exact hv
  · rw [va_up_ne _ _ e]; exact h j
theorem insF_lt {lo ho : Nat → Int32} {d b : Nat} (hd : d < b) : ∀ q s, (∀ j, s j < b) → ∀ j, insF lo ho d q s j < b := by
  intro q
  induction q with
  | zero => intro s h; exact va_up_lt h hd
  | succ k ih =>
    intro s h
    by_cases c : dahead lo ho d (s k)
    · intro j
      show nwIf (dahead lo ho d (s k)) (insF lo ho d k (va_up s (k + 1) (s k))) (va_up s (k + 1) d) j < b
      rw [nwIf_t c]; exact ih _ (va_up_lt h (h k)) j
    · intro j
      show nwIf (dahead lo ho d (s k)) (insF lo ho d k (va_up s (k + 1) (s k))) (va_up s (k + 1) d) j < b
      rw [nwIf_f c]; exact va_up_lt h hd j
def digOk (nd : Nat) (x y : Int32) : Prop := ¬ out x 0 1000 ∧ ¬ out y 1 100 ∧ nd < 8
noncomputable def digF (nd : Nat) (x y : Int32) : Int32 := nwIf (out x 0 1000 ∨ out y 1 100) (-2) (nwIf (8 ≤ nd) (-4) (nI nd))
/-- time and loss behind the first i digs of an order -/
def lostD (lo ho : Nat → Int32) (s : Nat → Nat) : Nat → Int32 × Int32
  | 0 => (0, 0)
  | i + 1 => ((lostD lo ho s i).1 + ho (s i), (lostD lo ho s i).2 + lo (s i) * ((lostD lo ho s i).1 + ho (s i)))
theorem lostD_s {lo ho : Nat → Int32} {s : Nat → Nat} (i : Nat) : lostD lo ho s (i + 1) = ((lostD lo ho s i).1 + ho (s i), (lostD lo ho s i).2 + lo (s i) * ((lostD lo ho s i).1 + ho (s i))) := rfl
noncomputable def orderF (nd : Nat) (s : Nat → Nat) (i : Int32) : Int32 := nwIf (out i 0 (nI nd - 1)) (-1) (nI (s i.toNatClampNeg))
def ddF (lo ho : Nat → Int32) (h : Int64) : Nat → Int64
  | 0 => h
  | i + 1 => 31 * (31 * ddF lo ho h i + (lo i).toInt64) + (ho i).toInt64
theorem ddF_s {lo ho : Nat → Int32} {h : Int64} (i : Nat) : ddF lo ho h (i + 1) = 31 * (31 * ddF lo ho h i + (lo i).toInt64) + (ho i).toInt64 := rfl
/-! the order itself -/
noncomputable def srtF (lo ho : Nat → Int32) (s0 : Nat → Nat) : Nat → Nat → Nat
  | 0 => s0
  | i + 1 => insF lo ho i i (srtF lo ho s0 i)
theorem srtF_s {lo ho : Nat → Int32} {s0 : Nat → Nat} (i : Nat) : srtF lo ho s0 (i + 1) = insF lo ho i i (srtF lo ho s0 i) := rfl
theorem srtF_lt {lo ho : Nat → Int32} {s0 : Nat → Nat} {b : Nat} (h : ∀ j, s0 j < b) : ∀ i, i ≤ b → ∀ j, srtF lo ho s0 i j < b := by
  intro i
  induction i with
  | zero => intro _; exact h
  | succ i ih => intro hi; exact insF_lt (by omega) i _ (ih (by omega))
/-- an order told by its first places alone -/
theorem insF_congr {l1 h1 l2 h2 : Nat → Int32} {d : Nat} (hd : l1 d = l2 d ∧ h1 d = h2 d) : ∀ (q : Nat) (s t : Nat → Nat), (∀ j, j < q → s j = t j) → (∀ j, j < q → l1 (s j) = l2 (s j) ∧ h1 (s j) = h2 (s j)) → ∀ j, j ≤ q → insF l1 h1 d q s j = insF l2 h2 d q t j := by
  intro q
  induction q with
  | zero =>
    intro s t _ _ j hj
    obtain rfl : j = 0 := by omega
    show va_up s 0 d 0 = va_up t 0 d 0
    rw [va_up_self, va_up_self]
  | succ k ih =>
    intro s t hs hl j hj
    have hk := hs k (by omega)
    have hlk := hl k (by omega)
    have hc : dahead l1 h1 d (s k) ↔ dahead l2 h2 d (t k) := by
      unfold dahead
      rw [hd.1, hd.2, hlk.1, hlk.2, hk]
    show nwIf (dahead l1 h1 d (s k)) (insF l1 h1 d k (va_up s (k + 1) (s k))) (va_up s (k + 1) d) j = nwIf (dahead l2 h2 d (t k)) (insF l2 h2 d k (va_up t (k + 1) (t k))) (va_up t (k + 1) d) j
    by_cases c : dahead l1 h1 d (s k)
    · rw [nwIf_t c, nwIf_t (hc.mp c)]
      by_cases e : j = k + 1
      · subst e
        have key : ∀ (l h : Nat → Int32) (m : Nat) (s : Nat → Nat) (j : Nat), m < j → insF l h d m s j = s j := by
          intro l h m
          induction m with
          | zero => intro s j hj; exact va_up_ne _ _ (by omega)
          | succ m ih2 =>
            intro s j hj
            show nwIf (dahead l h d (s m)) (insF l h d m (va_up s (m + 1) (s m))) (va_up s (m + 1) d) j = s j
            by_cases c2 : dahead l h d (s m)
            · rw [nwIf_t c2, ih2 _ j (by omega), va_up_ne _ _ (by omega)]
            · rw [nwIf_f c2, va_up_ne _ _ (by omega)]
        rw [key _ _ k _ (k + 1) (by omega), key _ _ k _ (k + 1) (by omega), va_up_self, va_up_self, hk]
      · refine ih _ _ (fun i hi => ?_) (fun i hi => ?_) j (by omega)
        · rw [va_up_ne _ _ (by omega), va_up_ne _ _ (by omega)]; exact hs i (by omega)
        · rw [va_up_ne _ _ (by omega)]; exact hl i (by omega)
    · rw [nwIf_f c, nwIf_f (fun q => c (hc.mpr q))]
      by_cases e : j = k + 1
      · subst e; rw [va_up_self, va_up_self]
      · rw [va_up_ne _ _ e, va_up_ne _ _ e]; exact hs j (by omega)
theorem insF_in {lo ho : Nat → Int32} {d : Nat} : ∀ (q : Nat) (s : Nat → Nat), q ≤ d → (∀ j, j < q → s j < d) → ∀ j, j ≤ q → insF lo ho d q s j ≤ d := by
  intro q
  induction q with
  | zero =>
    intro s _ _ j hj
    obtain rfl : j = 0 := by omega
    show va_up s 0 d 0 ≤ d
    rw [va_up_self]; exact Nat.le_refl d
  | succ k ih =>
    intro s hq hs j hj
    show nwIf (dahead lo ho d (s k)) (insF lo ho d k (va_up s (k + 1) (s k))) (va_up s (k + 1) d) j ≤ d
    have key : ∀ (m : Nat) (s : Nat → Nat) (j : Nat), m < j → insF lo ho d m s j = s j := by
      intro m
      induction m with
      | zero => intro s j hj; exact va_up_ne _ _ (by omega)
      | succ m ih2 =>
        intro s j hj
        show nwIf (dahead lo ho d (s m)) (insF lo ho d m (va_up s (m + 1) (s m))) (va_up s (m + 1) d) j = s j
        by_cases c2 : dahead lo ho d (s m)
        · rw [nwIf_t c2, ih2 _ j (by omega), va_up_ne _ _ (by omega)]
        · rw [nwIf_f c2, va_up_ne _ _ (by omega)]
    by_cases c : dahead lo ho d (s k)
    · rw [nwIf_t c]
      by_cases e : j = k + 1
      · subst e
        rw [key k _ (k + 1) (by omega), va_up_self]
        exact Nat.le_of_lt (hs k (by omega))
      · exact ih _ (by omega) (fun i hi => by rw [va_up_ne _ _ (by omega)]; exact hs i (by omega)) j (by omega)
    · rw [nwIf_f c]
      by_cases e : j = k + 1
      · subst e; rw [va_up_self]; exact Nat.le_refl d
      · rw [va_up_ne _ _ e]; exact Nat.le_of_lt (hs j (by omega))
/-- the first n places hold digs below n -/
theorem srtF_in {lo ho : Nat → Int32} {s0 : Nat → Nat} : ∀ n j, j < n → srtF lo ho s0 n j < n := by
  intro n
  induction n with
  | zero => intro j h; exact absurd h (Nat.not_lt_zero j)
  | succ n ih =>
    intro j hj
    rw [srtF_s]
    exact Nat.lt_succ_of_le (insF_in n _ (Nat.le_refl n) ih j (by omega))
theorem srtF_congr {l1 h1 l2 h2 : Nat → Int32} {s0 t0 : Nat → Nat} : ∀ n, (∀ j, j < n → l1 j = l2 j ∧ h1 j = h2 j) → ∀ j, j < n → srtF l1 h1 s0 n j = srtF l2 h2 t0 n j := by
  intro n
  induction n with
  | zero => intro _ j h; exact absurd h (Nat.not_lt_zero j)
  | succ n ih =>
    intro h j hj
    rw [srtF_s, srtF_s]
    exact insF_congr (h n (by omega)) n _ _ (fun i hi => ih (fun k hk => h k (by omega)) i hi) (fun i hi => h _ (by have := srtF_in (lo := l1) (ho := h1) (s0 := s0) n i hi; omega)) j (by omega)
theorem lostD_congr {l1 h1 l2 h2 : Nat → Int32} {s t : Nat → Nat} : ∀ n, (∀ j, j < n → s j = t j) → (∀ j, j < n → l1 (s j) = l2 (s j) ∧ h1 (s j) = h2 (s j)) → lostD l1 h1 s n = lostD l2 h2 t n := by
  intro n
  induction n with
  | zero => intro _ _; rfl
  | succ n ih =>
    intro h1' h2'
    have e := ih (fun j hj => h1' j (by omega)) (fun j hj => h2' j (by omega))
    have e1 := h1' n (by omega)
    have e2 := h2' n (by omega)
    rw [lostD_s, lostD_s, e, e2.1, e2.2, e1]
end
section
/-! Plain facts on steps: the plan's cost by width, and where it closes. -/
def wsum (w : Nat → Nat) (a : Nat) : Nat → Nat
  | 0 => w a
  | d + 1 => wsum w a d + w (a + (d + 1))
theorem wsum_s {w : Nat → Nat} {a d : Nat} : wsum w a (d + 1) = wsum w a d + w (a + (d + 1)) := rfl
def part (c : Nat → Nat → Nat) (d a k : Nat) : Nat := c (k - 1) a + c (d - k) (a + k)
def argm (c : Nat → Nat → Nat) (d a : Nat) : Nat → Nat
  | 0 => 1
  | j + 1 => if part c d a (j + 2) < part c d a (argm c d a j) then j + 2 else argm c d a j
theorem argm_s {c : Nat → Nat → Nat} {d a j : Nat} : argm c d a (j + 1) = if part c d a (j + 2) < part c d a (argm c d a j) then j + 2 else argm c d a j := rfl
theorem argm_rng {c : Nat → Nat → Nat} {d a : Nat} : ∀ j, 1 ≤ argm c d a j ∧ argm c d a j ≤ j + 1 := by
  intro j
  induction j with
  | zero => exact ⟨Nat.le_refl 1, Nat.le_refl 1⟩
  | succ j ih =>
    rw [argm_s]
    by_cases h : part c d a (j + 2) < part c d a (argm c d a j)
    · rw [if_pos h]; omega
    · rw [if_neg h]; omega
theorem argm_congr {c1 c2 : Nat → Nat → Nat} {d a : Nat} : ∀ j, (∀ k, 1 ≤ k → k ≤ j + 1 → part c1 d a k = part c2 d a k) → argm c1 d a j = argm c2 d a j := by
  intro j
  induction j with
  | zero => intro _; rfl
  | succ j ih =>
    intro h
    have e := ih (fun k h1 h2 => h k h1 (by omega))
    have hr := argm_rng (c := c2) (d := d) (a := a) j
    rw [argm_s, argm_s, e, h (j + 2) (by omega) (by omega), h (argm c2 d a j) hr.1 (by omega)]
def ctab (w : Nat → Nat) : Nat → Nat → Nat → Nat
  | 0 => fun _ _ => 0
  | n + 1 => fun d a => if d = n + 1 then wsum w a d + part (ctab w n) d a (argm (ctab w n) d a (d - 1)) else ctab w n d a
def cF (w : Nat → Nat) (d a : Nat) : Nat := ctab w d d a
theorem ctab_eq {w : Nat → Nat} {d a : Nat} : ∀ n, d ≤ n → ctab w n d a = cF w d a := by
  intro n
  induction n with
  | zero => intro h; obtain rfl : d = 0 := by omega
            rfl
  | succ n ih =>
    intro h
    by_cases e : d = n + 1
    · subst e; rfl
    · show (if d = n + 1 then _ else ctab w n d a) = _
      rw [if_neg e]
      exact ih (by omega)
theorem cF_0 {w : Nat → Nat} {a : Nat} : cF w 0 a = 0 := rfl
theorem cF_s {w : Nat → Nat} {d a : Nat} : cF w (d + 1) a = wsum w a (d + 1) + part (cF w) (d + 1) a (argm (cF w) (d + 1) a d) := by
  have hp : ∀ k, 1 ≤ k → k ≤ d + 1 → part (ctab w d) (d + 1) a k = part (cF w) (d + 1) a k := by
    intro k h1 h2
    unfold part
    rw [ctab_eq d (by omega), ctab_eq d (by omega)]
  have ha := argm_congr (c1 := ctab w d) (c2 := cF w) (d := d + 1) (a := a) d hp
  have hr := argm_rng (c := cF w) (d := d + 1) (a := a) d
  show (if d + 1 = d + 1 then wsum w a (d + 1) + part (ctab w d) (d + 1) a (argm (ctab w d) (d + 1) a (d + 1 - 1)) else ctab w d (d + 1) a) = _
  rw [if_pos rfl, Nat.add_sub_cancel, ha, hp _ hr.1 hr.2]
def sF (w : Nat → Nat) (d a : Nat) : Nat := a + argm (cF w) d a (d - 1)
theorem sF_rng {w : Nat → Nat} {d a : Nat} (h : 0 < d) : a < sF w d a ∧ sF w d a ≤ a + d := by
  have := argm_rng (c := cF w) (d := d) (a := a) (d - 1)
  unfold sF
  omega
theorem wsum_le {w : Nat → Nat} {a : Nat} (hw : ∀ k, w k ≤ 1000) : ∀ d, wsum w a d ≤ 1000 * (d + 1) := by
  intro d
  induction d with
  | zero => exact hw a
  | succ d ih => rw [wsum_s]; have := hw (a + (d + 1)); omega
theorem cF_le {w : Nat → Nat} (hw : ∀ k, w k ≤ 1000) : ∀ n d a, d ≤ n → d ≤ 11 → cF w d a ≤ 12000 * d := by
  intro n
  induction n with
  | zero => intro d a h _; obtain rfl : d = 0 := by omega
            exact Nat.le_refl 0
  | succ n ih =>
    intro d a h h11
    cases d with
    | zero => exact Nat.le_refl 0
    | succ d =>
      rw [cF_s]
      have h1 := wsum_le (a := a) hw (d + 1)
      have hr := argm_rng (c := cF w) (d := d + 1) (a := a) d
      unfold part
      have h2 := ih (argm (cF w) (d + 1) a d - 1) a (by omega) (by omega)
      have h3 := ih (d + 1 - argm (cF w) (d + 1) a d) (a + argm (cF w) (d + 1) a d) (by omega) (by omega)
      omega
theorem part_le {w : Nat → Nat} (hw : ∀ k, w k ≤ 1000) {d a k : Nat} (h1 : 1 ≤ k) (h2 : k ≤ d) (hd : d ≤ 11) : part (cF w) d a k ≤ 132000 := by
  unfold part
  have h3 := cF_le hw 11 (k - 1) a (by omega) (by omega)
  have h4 := cF_le hw 11 (d - k) (a + k) (by omega) (by omega)
  omega
def stF (w : Nat → Nat) (a b : Nat) : Int32 := if a = b then -1 else nI (sF w (b - a) a)
/-- the tables are right -/
def plOk (w : Nat → Nat) (ns : Nat) (M : Nat → Nat → Int32) : Prop := ∀ a b, a ≤ b → b < ns → M a b = nI (cF w (b - a) a) ∧ M (12 + a) b = stF w a b
/-- what the stretches of a .. b shorter than it have -/
def plIn (w : Nat → Nat) (M : Nat → Nat → Int32) (a b : Nat) : Prop := ∀ k, a < k → k ≤ b → M a (k - 1) = nI (cF w (k - 1 - a) a) ∧ M k b = nI (cF w (b - k) k)
theorem plIn_part {w : Nat → Nat} {M : Nat → Nat → Int32} {a b k : Nat} (h : plIn w M a b) (h1 : a < k) (h2 : k ≤ b) : M a (k - 1) + M k b = nI (part (cF w) (b - a) a (k - a)) := by
  rw [(h k h1 h2).1, (h k h1 h2).2, nI_add]
  unfold part
  rw [show k - 1 - a = k - a - 1 by omega, show b - a - (k - a) = b - k by omega, show a + (k - a) = k by omega]
def spanBad (ns : Nat) (a b : Int32) : Prop := out b 0 (nI ns - 1) ∨ out a 0 b
noncomputable def costF (ns : Nat) (w : Nat → Nat) (a b : Int32) : Int32 := nwIf (spanBad ns a b) (-2) (nI (cF w (b.toNatClampNeg - a.toNatClampNeg) a.toNatClampNeg))
noncomputable def closesF (ns : Nat) (w : Nat → Nat) (a b : Int32) : Int32 := nwIf (spanBad ns a b) (-2) (stF w a.toNatClampNeg b.toNatClampNeg)
def clW (w : Nat → Nat) (i : Nat) : Nat → Nat → Nat → Nat
  | 0, _, _ => 0
  | f + 1, a, b => if a < b then 1 + (if i < sF w (b - a) a then clW w i f a (sF w (b - a) a - 1) else clW w i f (sF w (b - a) a) b) else 0
theorem clW_l {w : Nat → Nat} {i f a b : Nat} (hf : 0 < f) (h : a < b) (hi : i < sF w (b - a) a) : clW w i f a b = 1 + clW w i (f - 1) a (sF w (b - a) a - 1) := by
  obtain ⟨g, rfl⟩ : ∃ g, f = g + 1 := ⟨f - 1, by omega⟩
  show (if a < b then 1 + (if i < sF w (b - a) a then clW w i g a (sF w (b - a) a - 1) else clW w i g (sF w (b - a) a) b) else 0) = _
  rw [if_pos h, if_pos hi, Nat.add_sub_cancel]
theorem clW_r {w : Nat → Nat} {i f a b : Nat} (hf : 0 < f) (h : a < b) (hi : ¬ i < sF w (b - a) a) : clW w i f a b = 1 + clW w i (f - 1) (sF w (b - a) a) b := by
  obtain ⟨g, rfl⟩ : ∃ g, f = g + 1 := ⟨f - 1, by omega⟩
  show (if a < b then 1 + (if i < sF w (b - a) a then clW w i g a (sF w (b - a) a - 1) else clW w i g (sF w (b - a) a) b) else 0) = _
  rw [if_pos h, if_neg hi, Nat.add_sub_cancel]
theorem clW_e {w : Nat → Nat} {i f a b : Nat} (h : ¬ a < b) : clW w i f a b = 0 := by
  cases f with
  | zero => rfl
  | succ f => exact if_neg h
noncomputable def closingsF (ns : Nat) (w : Nat → Nat) (i : Int32) : Int32 := nwIf (out i 0 (nI ns - 1)) (-2) (nI (clW w i.toNatClampNeg 12 0 (ns - 1)))
def secOk (n i v : Int32) : Prop := ¬ out n 1 12 ∧ ¬ out i 0 (n - 1) ∧ ¬ out v 0 1000
def cutW (w : Nat → Nat) (m : Nat) : Nat → Nat := fun k => if k < m then w k else 0
/-- weights set to 0 from m on, up to g -/
def zerW (w : Nat → Nat) (m g : Nat) : Nat → Nat := fun k => if m ≤ k ∧ k < g then 0 else w k
theorem zerW_0 {w : Nat → Nat} {m : Nat} : zerW w m m = w := by funext k; unfold zerW; rw [if_neg (by omega)]
theorem zerW_s {w : Nat → Nat} {m g : Nat} (h : m ≤ g) : va_up (zerW w m g) g 0 = zerW w m (g + 1) := by
  funext k
  by_cases e : k = g
  · subst e; rw [va_up_self]; unfold zerW; rw [if_pos (by omega)]
  · rw [va_up_ne _ _ e]
    unfold zerW
    by_cases q : m ≤ k ∧ k < g
    · rw [if_pos q, if_pos (by omega)]
    · rw [if_neg q, if_neg (by omega)]
theorem zerW_cut {w : Nat → Nat} {m g ns : Nat} (h0 : ∀ k, ns ≤ k → w k = 0) (h : ns ≤ g ∨ m = g) (hg : m = g → ns ≤ m) (hns : g ≤ ns ∨ m = g) : zerW w m g = cutW w m := by
  funext k
  unfold zerW cutW
  by_cases q : k < m
  · rw [if_neg (by omega), if_pos q]
  · rw [if_neg q]
    by_cases q2 : m ≤ k ∧ k < g
    · rw [if_pos q2]
    · rw [if_neg q2]; exact h0 k (by omega)
def wdF (w : Nat → Nat) (h : Int64) : Nat → Int64
  | 0 => h
  | i + 1 => 31 * wdF w h i + (nI (w i)).toInt64
theorem wdF_s {w : Nat → Nat} {h : Int64} (i : Nat) : wdF w h (i + 1) = 31 * wdF w h i + (nI (w i)).toInt64 := rfl
theorem span_ok {ns : Nat} {x y : Int32} (hn : ns ≤ 12) (h : ¬ spanBad ns x y) : ∃ a b : Nat, a ≤ b ∧ b < ns ∧ x = nI a ∧ y = nI b := by
  unfold spanBad at h
  obtain ⟨b, hb, rfl⟩ := nw_lt (n := ns) (by omega) (fun q => h (Or.inl q))
  obtain ⟨a, ha, rfl⟩ := nw_le (n := b) rfl (by omega) (fun q => h (Or.inr q))
  exact ⟨a, b, ha, hb, rfl, rfl⟩
/-- a start that is laid leaves the costs -/
theorem st_part {w : Nat → Nat} {M : Nat → Nat → Int32} {x y k : Nat} {v : Int32} (h : plIn w M x y) (h1 : x < k) (h2 : k ≤ y) (hy : y < 12 := by omega) : nwU2 M (12 + x) y v x (k - 1) + nwU2 M (12 + x) y v k y = nI (part (cF w) (y - x) x (k - x)) := by
  rw [nwU2_n (by omega), nwU2_n (by omega)]
  exact plIn_part h h1 h2
theorem st_end {G : nwG} {a : Nat → Nat} {ns : Nat} {w : Nat → Nat} {M : Nat → Nat → Int32} {x y be wt j : Nat} (hxy : x < y) (eb : be = x + argm (cF w) (y - x) x j) (hj : j = y - x - 1) (hwt : wt = wsum w x (y - x)) : wS G a ns w (nwU2 (nwU2 M (12 + x) y (nI be)) x y (nI (wt + part (cF w) (y - x) x (be - x)))) = wS G a ns w (nwU2 (nwU2 M (12 + x) y (nI (sF w (y - x) x))) x y (nI (cF w (y - x) x))) := by
  have e1 : sF w (y - x) x = be := by unfold sF; rw [← hj, eb]
  have e2 : cF w (y - x) x = wt + part (cF w) (y - x) x (be - x) := by
    obtain ⟨d, hd⟩ : ∃ d, y - x = d + 1 := ⟨y - x - 1, by omega⟩
    rw [hwt, eb, hj, hd, cF_s, Nat.add_sub_cancel, Nat.add_sub_cancel_left]
  rw [e1, e2]
/-! the table row by row, from the last -/
def plTo (w : Nat → Nat) (ns : Nat) (M : Nat → Nat → Int32) (k : Nat) : Prop := ∀ a b, k ≤ a → a ≤ b → b < ns → M a b = nI (cF w (b - a) a) ∧ M (12 + a) b = stF w a b
def plRow (w : Nat → Nat) (ns : Nat) (M : Nat → Nat → Int32) (a0 b0 : Nat) : Prop := plTo w ns M (a0 + 1) ∧ ∀ b, a0 ≤ b → b < b0 → M a0 b = nI (cF w (b - a0) a0) ∧ M (12 + a0) b = stF w a0 b
theorem plTo_n {w : Nat → Nat} {ns : Nat} {M : Nat → Nat → Int32} : plTo w ns M ns := fun a b h1 h2 h3 => absurd h3 (by omega)
theorem plTo_0 {w : Nat → Nat} {ns : Nat} {M : Nat → Nat → Int32} (h : plTo w ns M 0) : plOk w ns M := fun a b h2 h3 => h a b (Nat.zero_le a) h2 h3
theorem plTo_s {w : Nat → Nat} {ns k b0 : Nat} {M : Nat → Nat → Int32} (hk : 0 < k) (hb : b0 = ns) (h : plRow w ns M (k - 1) b0) : plTo w ns M (k - 1) := by
  intro a b h1 h2 h3
  by_cases e : a = k - 1
  · subst e; exact h.2 b h2 (by omega)
  · exact h.1 a b (by omega) h2 h3
theorem plRow_0 {w : Nat → Nat} {ns k : Nat} {M : Nat → Nat → Int32} (hk : 0 < k) (hkn : k ≤ ns) (hn : ns ≤ 12) (h : plTo w ns M k) : plRow w ns (nwU2 (nwU2 M (k - 1) (k - 1) 0) (12 + (k - 1)) (k - 1) (-1)) (k - 1) (k - 1 + 1 + 0) := by
  refine ⟨fun a b h1 h2 h3 => ?_, fun b h1 h2 => ?_⟩
  · rw [nwU2_n (by omega), nwU2_n (by omega), nwU2_n (by omega), nwU2_n (by omega)]
    exact h a b (by omega) h2 h3
  · obtain rfl : b = k - 1 := by omega
    rw [nwU2_n (by omega), nwU2_s, nwU2_s, Nat.sub_self]
    refine ⟨rfl, ?_⟩
    unfold stF
    rw [if_pos rfl]
theorem plRow_s {w : Nat → Nat} {ns a0 b0 : Nat} {M : Nat → Nat → Int32} (hn : b0 < 12) (hb : a0 < b0) (h : plRow w ns M a0 b0) : plRow w ns (nwU2 (nwU2 M (12 + a0) b0 (nI (sF w (b0 - a0) a0))) a0 b0 (nI (cF w (b0 - a0) a0))) a0 (b0 + 1) := by
  refine ⟨fun a b h1 h2 h3 => ?_, fun b h1 h2 => ?_⟩
  · rw [nwU2_n (by omega), nwU2_n (by omega), nwU2_n (by omega), nwU2_n (by omega)]
    exact h.1 a b h1 h2 h3
  · by_cases e : b = b0
    · subst e
      rw [nwU2_s, nwU2_n (by omega), nwU2_s]
      refine ⟨rfl, ?_⟩
      unfold stF
      rw [if_neg (by omega)]
    · rw [nwU2_n (by omega), nwU2_n (by omega), nwU2_n (by omega), nwU2_n (by omega)]
      exact h.2 b h1 (by omega)
theorem plRow_in {w : Nat → Nat} {ns a0 b0 : Nat} {M : Nat → Nat → Int32} (hb : b0 < ns) (hab : a0 < b0) (h : plRow w ns M a0 b0) : plIn w M a0 b0 := fun k h1 h2 => ⟨(h.2 (k - 1) (by omega) (by omega)).1, (h.1 k b0 (by omega) h2 hb).1⟩
theorem neg_1 {k : Nat} (h : 0 < k) : nI k + (-1) = nI (k - 1) := nw_dec h
theorem neg_k {k : Nat} {x : Int32} (e : x = nI k + (-1)) (h : x < 0) (hk : k < 2 ^ 31 := by omega) : k = 0 := by
  rcases Nat.eq_zero_or_pos k with q | q
  · exact q
  · rw [e, neg_1 q] at h
    exact absurd h (nI_pos (by omega))
theorem pos_k {k : Nat} {x : Int32} (e : x = nI k + (-1)) (h : ¬ x < 0) : 0 < k := by
  rcases Nat.eq_zero_or_pos k with q | q
  · subst q; subst e; exact absurd (by decide) h
  · exact q
theorem cut_le {w : Nat → Nat} {m i v : Nat} (h : ∀ k, w k ≤ 1000) (hv : v ≤ 1000) : ∀ k, va_up (cutW w m) i v k ≤ 1000 := by
  intro k
  by_cases e : k = i
  · subst e; rw [va_up_self]; exact hv
  · rw [va_up_ne _ _ e]
    unfold cutW
    by_cases q : k < m
    · rw [if_pos q]; exact h k
    · rw [if_neg q]; omega
theorem cl_step {w : Nat → Nat} {i c a b : Nat} (hi : i < sF w (b - a) a) (h : a < b) (hc : c < 12) : c + 1 + clW w i (12 - (c + 1)) a (sF w (b - a) a - 1) = c + clW w i (12 - c) a b := by
  rw [clW_l (by omega) h hi, show 12 - (c + 1) = 12 - c - 1 by omega]
  omega
theorem cl_step2 {w : Nat → Nat} {i c a b : Nat} (hi : ¬ i < sF w (b - a) a) (h : a < b) (hc : c < 12) : c + 1 + clW w i (12 - (c + 1)) (sF w (b - a) a) b = c + clW w i (12 - c) a b := by
  rw [clW_r (by omega) h hi, show 12 - (c + 1) = 12 - c - 1 by omega]
  omega
end
section
/-! Plain facts on the fewest valves: bits counted, sums over groups, more valves explain no less. -/
def pw : Nat → Nat → Nat
  | 0, _ => 0
  | f + 1, k => k % 2 + pw f (k / 2)
def popN (k : Nat) : Nat := pw 13 k
theorem pw_le : ∀ v f k, v ≤ f → k < 2 ^ v → pw f k ≤ v := by
  intro v
  induction v with
  | zero =>
    intro f k _ hk
    obtain rfl : k = 0 := by simpa using hk
    have : ∀ f, pw f 0 = 0 := by
      intro f
      induction f with
      | zero => rfl
      | succ f ih => show 0 % 2 + pw f (0 / 2) = 0; rw [Nat.zero_div, ih]
    rw [this]
    exact Nat.le_refl 0
  | succ v ih =>
    intro f k hf hk
    obtain ⟨g, rfl⟩ : ∃ g, f = g + 1 := ⟨f - 1, by omega⟩
    have h := ih g (k / 2) (by omega) (by rw [Nat.pow_succ] at hk; omega)
    show k % 2 + pw g (k / 2) ≤ v + 1
    omega
theorem pw_lt : ∀ v f k, v ≤ f → k + 1 < 2 ^ v → pw f k < v := by
  intro v
  induction v with
  | zero => intro f k _ hk; simp at hk
  | succ v ih =>
    intro f k hf hk
    obtain ⟨g, rfl⟩ : ∃ g, f = g + 1 := ⟨f - 1, by omega⟩
    rw [Nat.pow_succ] at hk
    show k % 2 + pw g (k / 2) < v + 1
    by_cases e : k / 2 + 1 < 2 ^ v
    · have h := ih g (k / 2) (by omega) e
      omega
    · have h := pw_le v g (k / 2) (by omega) (by omega)
      have : k % 2 = 0 := by omega
      omega
theorem pw_all : ∀ v f, v ≤ f → pw f (2 ^ v - 1) = v := by
  intro v
  induction v with
  | zero =>
    intro f _
    have : ∀ f, pw f 0 = 0 := by
      intro f
      induction f with
      | zero => rfl
      | succ f ih => show 0 % 2 + pw f (0 / 2) = 0; rw [Nat.zero_div, ih]
    exact this f
  | succ v ih =>
    intro f hf
    obtain ⟨g, rfl⟩ : ∃ g, f = g + 1 := ⟨f - 1, by omega⟩
    have h := ih g (by omega)
    have hp : 0 < 2 ^ v := Nat.pow_pos (by omega)
    show (2 ^ (v + 1) - 1) % 2 + pw g ((2 ^ (v + 1) - 1) / 2) = v + 1
    rw [Nat.pow_succ, show (2 ^ v * 2 - 1) / 2 = 2 ^ v - 1 by omega, h]
    omega
/-- the bits as the library's method counts them -/
def bc1 (x : Int32) : Int32 := x - ((x.toUInt32 >>> ((1 : Int32).toUInt32 &&& Int32.toUInt32 31)).toInt32 &&& 1431655765)
def bc2 (x : Int32) : Int32 := (x &&& 858993459) + ((x.toUInt32 >>> ((2 : Int32).toUInt32 &&& Int32.toUInt32 31)).toInt32 &&& 858993459)
def bc3 (x : Int32) : Int32 := (x + (x.toUInt32 >>> ((4 : Int32).toUInt32 &&& Int32.toUInt32 31)).toInt32) &&& 252645135
def bc4 (x : Int32) : Int32 := x + (x.toUInt32 >>> ((8 : Int32).toUInt32 &&& Int32.toUInt32 31)).toInt32
def bc5 (x : Int32) : Int32 := x + (x.toUInt32 >>> ((16 : Int32).toUInt32 &&& Int32.toUInt32 31)).toInt32
theorem bc_64 : ∀ a, a < 64 → ∀ b, b < 64 → (bc5 (bc4 (bc3 (bc2 (bc1 (nI (64 * a + b)))))) &&& 63) = nI (popN (64 * a + b)) := by decide +kernel
theorem bc_all {k : Nat} (h : k < 4096) : (bc5 (bc4 (bc3 (bc2 (bc1 (nI k))))) &&& 63) = nI (popN k) := by
  have := bc_64 (k / 64) (by omega) (k % 64) (by omega)
  rwa [show 64 * (k / 64) + k % 64 = k by omega] at this
/-! sums -/
def SS (F : Nat → Int) : Nat → Int
  | 0 => 0
  | m + 1 => SS F m + F m
theorem SS_s {F : Nat → Int} {m : Nat} : SS F (m + 1) = SS F m + F m := rfl
theorem SS_congr {F K : Nat → Int} : ∀ m, (∀ z, z < m → F z = K z) → SS F m = SS K m := by
  intro m
  induction m with
  | zero => intro _; rfl
  | succ m ih => intro h; rw [SS_s, SS_s, ih (fun z hz => h z (by omega)), h m (by omega)]
theorem SS_add {F K : Nat → Int} : ∀ m, SS (fun z => F z + K z) m = SS F m + SS K m := by
  intro m
  induction m with
  | zero => rfl
  | succ m ih => rw [SS_s, SS_s, SS_s, ih]; omega
theorem SS_0 : ∀ m, SS (fun _ => 0) m = 0 := by
  intro m
  induction m with
  | zero => rfl
  | succ m ih => rw [SS_s, ih]; rfl
theorem SS_swap {F : Nat → Nat → Int} : ∀ m n, SS (fun z => SS (fun h => F z h) n) m = SS (fun h => SS (fun z => F z h) m) n := by
  intro m n
  induction m with
  | zero => exact (SS_0 n).symm
  | succ m ih => rw [SS_s, ih, ← SS_add]; rfl
theorem SS_nn {F : Nat → Int} : ∀ m, (∀ z, z < m → 0 ≤ F z) → 0 ≤ SS F m := by
  intro m
  induction m with
  | zero => intro _; exact Int.le_refl 0
  | succ m ih => intro h; rw [SS_s]; have := ih (fun z hz => h z (by omega)); have := h m (by omega); omega
theorem SS_one {a : Nat} {c : Int} : ∀ n, SS (fun h => if a = h then c else 0) n = if a < n then c else 0 := by
  intro n
  induction n with
  | zero => rfl
  | succ n ih =>
    rw [SS_s, ih]
    by_cases e : a = n
    · subst e; rw [if_neg (by omega), if_pos rfl, if_pos (by omega)]; omega
    · by_cases q : a < n
      · rw [if_pos q, if_neg e, if_pos (by omega)]; omega
      · rw [if_neg q, if_neg e, if_neg (by omega)]; rfl
/-- told leaks are small -/
def bnd (n : Nat) (lk : Nat → Int32) : Prop := ∀ z, z < n → lk z = -2000000000 ∨ (-1000000 ≤ (lk z).toInt ∧ (lk z).toInt ≤ 1000000)
def fZ (lk : Nat → Int32) (z : Nat) : Int := if lk z = -2000000000 then 0 else (lk z).toInt
theorem gsum_int {n : Nat} {gl : Nat → Nat} {lk : Nat → Int32} {g : Nat} (hb : bnd n lk) : ∀ m, m ≤ n → m ≤ 8 → (gsum gl lk g m).toInt = SS (fun z => if gl z = g then fZ lk z else 0) m ∧ -1000000 * (m : Int) ≤ (gsum gl lk g m).toInt ∧ (gsum gl lk g m).toInt ≤ 1000000 * (m : Int) := by
  intro m
  induction m with
  | zero => intro _ _; exact ⟨rfl, Int.le_refl _, Int.le_refl _⟩
  | succ m ih =>
    intro h1 h2
    obtain ⟨e, l, u⟩ := ih (by omega) (by omega)
    rw [gsum_s, SS_s]
    by_cases c : gl m = g ∧ ¬ lk m = -2000000000
    · rw [nwIf_t c, if_pos c.1]
      have hz : fZ lk m = (lk m).toInt := if_neg c.2
      rcases hb m (by omega) with q | ⟨q1, q2⟩
      · exact absurd q c.2
      · have ha : (gsum gl lk g m + lk m).toInt = (gsum gl lk g m).toInt + (lk m).toInt := by
          rw [Int32.toInt_add]
          apply Int.bmod_eq_of_le <;> omega
        rw [ha, hz, ← e]
        refine ⟨rfl, ?_, ?_⟩ <;> omega
    · rw [nwIf_f c]
      have hz : (if gl m = g then fZ lk m else 0) = 0 := by
        by_cases c1 : gl m = g
        · rw [if_pos c1]
          have c2 : lk m = -2000000000 := Classical.not_not.mp (fun q => c ⟨c1, q⟩)
          exact if_pos c2
        · exact if_neg c1
      rw [hz, ← e]
      refine ⟨by omega, ?_, ?_⟩ <;> omega
/-- g2 is coarser than g1 -/
def crs (n : Nat) (g1 g2 : Nat → Nat) : Prop := ∀ i j, i < n → j < n → g1 i = g1 j → g2 i = g2 j
theorem gst_fun {n : Nat} {g : Nat → Nat} {x y i j : Nat} (hi : i < n) (hj : j < n) (h : g i = g j) : gst n g x y i = gst n g x y j := by
  unfold gst
  by_cases c : g i = x ∨ g i = y
  · rw [nwIf_t ⟨hi, c⟩, nwIf_t ⟨hj, by rw [← h]; exact c⟩]
  · rw [nwIf_f (fun q => c q.2), nwIf_f (fun q => c (by rw [h]; exact q.2)), h]
theorem crs_grF {n nv k : Nat} {fr tt g0 h0 : Nat → Nat} (hf : ∀ v, v < nv → fr v < n ∧ tt v < n) : ∀ v, v ≤ nv → crs n (grF n fr tt k g0 v) (grF n fr tt (2 ^ nv - 1) h0 v) := by
  intro v
  induction v with
  | zero =>
    intro _ i j hi hj h
    have e : ∀ (g0 : Nat → Nat) z, z < n → (fun z => nwIf (z < n) z (g0 z)) z = z := fun g0 z hz => nwIf_t hz _ _
    have h' : i = j := by
      have h1 := e g0 i hi
      have h2 := e g0 j hj
      exact h1.symm.trans (h.trans h2)
    rw [h']
  | succ v ih =>
    intro hv i j hi hj h
    have c0 := ih (by omega)
    have hb : (2 ^ nv - 1).testBit v = true := by rw [Nat.testBit_two_pow_sub_one]; exact decide_eq_true (by omega)
    rw [grF_s (k := 2 ^ nv - 1), nwIf_t hb]
    rw [grF_s (k := k)] at h
    obtain ⟨hfv, htv⟩ := hf v hv
    by_cases c : k.testBit v = true
    · rw [nwIf_t c] at h
      by_cases ci : grF n fr tt k g0 v i = grF n fr tt k g0 v (fr v) ∨ grF n fr tt k g0 v i = grF n fr tt k g0 v (tt v)
      · by_cases cj : grF n fr tt k g0 v j = grF n fr tt k g0 v (fr v) ∨ grF n fr tt k g0 v j = grF n fr tt k g0 v (tt v)
        · have i2 : grF n fr tt (2 ^ nv - 1) h0 v i = grF n fr tt (2 ^ nv - 1) h0 v (fr v) ∨ grF n fr tt (2 ^ nv - 1) h0 v i = grF n fr tt (2 ^ nv - 1) h0 v (tt v) := ci.elim (fun q => Or.inl (c0 i _ hi hfv q)) (fun q => Or.inr (c0 i _ hi htv q))
          have j2 : grF n fr tt (2 ^ nv - 1) h0 v j = grF n fr tt (2 ^ nv - 1) h0 v (fr v) ∨ grF n fr tt (2 ^ nv - 1) h0 v j = grF n fr tt (2 ^ nv - 1) h0 v (tt v) := cj.elim (fun q => Or.inl (c0 j _ hj hfv q)) (fun q => Or.inr (c0 j _ hj htv q))
          rw [gst_in ⟨hi, i2⟩, gst_in ⟨hj, j2⟩]
        · rw [gst_in ⟨hi, ci⟩, gst_out (fun q => cj q.2)] at h
          exact absurd (by omega) cj
      · by_cases cj : grF n fr tt k g0 v j = grF n fr tt k g0 v (fr v) ∨ grF n fr tt k g0 v j = grF n fr tt k g0 v (tt v)
        · rw [gst_in ⟨hj, cj⟩, gst_out (fun q => ci q.2)] at h
          exact absurd (by omega) ci
        · rw [gst_out (fun q => ci q.2), gst_out (fun q => cj q.2)] at h
          exact gst_fun hi hj (c0 i j hi hj h)
    · rw [nwIf_f c] at h
      exact gst_fun hi hj (c0 i j hi hj h)
/-- what a set explains, a coarser one explains -/
theorem expl_crs {n : Nat} {g1 g2 : Nat → Nat} {lk : Nat → Int32} (hn : n ≤ 8) (hb : bnd n lk) (ho : ldOk n g1) (hc : crs n g1 g2) (h : expl n g1 lk) : expl n g2 lk := by
  intro g hg
  by_cases u : gunt g2 lk g n
  · exact Or.inl u
  right
  rw [Int32.lt_iff_toInt_lt, (gsum_int hb n (Nat.le_refl n) hn).1]
  have key : SS (fun z => if g2 z = g then fZ lk z else 0) n = SS (fun a => if g2 a = g then SS (fun z => if g1 z = a then fZ lk z else 0) n else 0) n := by
    have e1 : SS (fun z => if g2 z = g then fZ lk z else 0) n = SS (fun z => SS (fun a => if g1 z = a then (if g2 a = g then fZ lk z else 0) else 0) n) n := by
      apply SS_congr
      intro z hz
      have hz1 := ho z hz
      have e2 : SS (fun a => if g1 z = a then (if g2 a = g then fZ lk z else 0) else 0) n = SS (fun a => if g1 z = a then (if g2 z = g then fZ lk z else 0) else 0) n := by
        apply SS_congr
        intro a ha
        by_cases q : g1 z = a
        · rw [if_pos q, if_pos q]
          have : g2 z = g2 a := hc z a hz ha (by rw [← q]; exact hz1.2.symm)
          rw [this]
        · rw [if_neg q, if_neg q]
      show (if g2 z = g then fZ lk z else 0) = SS (fun a => if g1 z = a then (if g2 a = g then fZ lk z else 0) else 0) n
      rw [e2, SS_one, if_pos (show g1 z < n by omega)]
    rw [e1, SS_swap]
    apply SS_congr
    intro a ha
    show SS (fun z => if g1 z = a then (if g2 a = g then fZ lk z else 0) else 0) n = if g2 a = g then SS (fun z => if g1 z = a then fZ lk z else 0) n else 0
    by_cases q : g2 a = g
    · rw [if_pos q]
      apply SS_congr
      intro z _
      rw [if_pos q]
    · rw [if_neg q]
      rw [SS_congr (K := fun _ => 0) n (fun z _ => by rw [if_neg q]; exact ite_self 0)]
      exact SS_0 n
  rw [key]
  have nn : 0 ≤ SS (fun a => if g2 a = g then SS (fun z => if g1 z = a then fZ lk z else 0) n else 0) n := by
    apply SS_nn
    intro a ha
    show 0 ≤ (if g2 a = g then SS (fun z => if g1 z = a then fZ lk z else 0) n else 0)
    by_cases q : g2 a = g
    · rw [if_pos q, ← (gsum_int hb n (Nat.le_refl n) hn).1]
      rcases h a ha with ⟨z, hz, q1, q2⟩ | w
      · by_cases qa : g1 a = a
        · exact absurd ⟨z, hz, (hc z a hz ha (by rw [q1, qa])).trans q, q2⟩ u
        · exact absurd (by rw [← q1]; exact (ho z hz).2) qa
      · rw [Int32.lt_iff_toInt_lt] at w
        exact Int.not_lt.mp w
    · rw [if_neg q]; exact Int.le_refl 0
  have z0 : (0 : Int32).toInt = 0 := rfl
  omega
/-! the fewest -/
def better (o : Option Nat) (k : Nat) : Prop := ∀ b, o = some b → popN k < popN b
noncomputable def fwS (ex : Nat → Prop) : Nat → Option Nat
  | 0 => none
  | k + 1 => nwIf (better (fwS ex k) k ∧ ex k) (some k) (fwS ex k)
theorem fwS_s {ex : Nat → Prop} {k : Nat} : fwS ex (k + 1) = nwIf (better (fwS ex k) k ∧ ex k) (some k) (fwS ex k) := rfl
def fewR (o : Option Nat) : Int32 := match o with
  | none => -1
  | some b => nI b
theorem fwS_none {ex : Nat → Prop} : ∀ k, (∀ j, j < k → ¬ ex j) → fwS ex k = none := by
  intro k
  induction k with
  | zero => intro _; rfl
  | succ k ih =>
    intro h
    rw [fwS_s, nwIf_f (fun q => h k (by omega) q.2)]
    exact ih (fun j hj => h j (by omega))
theorem fwS_lt {ex : Nat → Prop} : ∀ k b, fwS ex k = some b → b < k := by
  intro k
  induction k with
  | zero => intro b h; cases h
  | succ k ih =>
    intro b h
    rw [fwS_s] at h
    by_cases c : better (fwS ex k) k ∧ ex k
    · rw [nwIf_t c] at h; cases h; omega
    · rw [nwIf_f c] at h; have := ih b h; omega
def fwI (ex : Nat → Prop) (nv k b : Nat) : Prop := (fwS ex k = none ∧ b = 2 ^ nv - 1) ∨ fwS ex k = some b
theorem fwI_lt {ex : Nat → Prop} {nv k b : Nat} (h : fwI ex nv k b) (hk : k ≤ 2 ^ nv) : b < 2 ^ nv := by
  have : 0 < 2 ^ nv := Nat.pow_pos (by omega)
  rcases h with ⟨_, rfl⟩ | h
  · omega
  · have := fwS_lt k b h; omega
theorem fwI_take {ex : Nat → Prop} {nv k b : Nat} (h : fwI ex nv k b) (hp : popN k < popN b) (he : ex k) : fwI ex nv (k + 1) k := by
  have hbt : better (fwS ex k) k := by
    intro c hc
    rcases h with ⟨h, _⟩ | h
    · rw [h] at hc; cases hc
    · rw [h] at hc; cases hc; exact hp
  right
  rw [fwS_s, nwIf_t ⟨hbt, he⟩]
theorem fwI_leave {ex : Nat → Prop} {nv k b : Nat} (hv : nv ≤ 12) (h : fwI ex nv k b) (hk : k + 1 < 2 ^ nv) (hn : ¬ popN k < popN b ∨ ¬ ex k) : fwI ex nv (k + 1) b := by
  have hs : ¬ (better (fwS ex k) k ∧ ex k) := by
    rintro ⟨q1, q2⟩
    rcases hn with hn | hn
    · rcases h with ⟨h, rfl⟩ | h
      · have e1 : popN (2 ^ nv - 1) = nv := pw_all nv 13 (by omega)
        have e2 : popN k < nv := pw_lt nv 13 k (by omega) hk
        omega
      · exact hn (q1 b h)
    · exact hn q2
  unfold fwI
  rw [fwS_s, nwIf_f hs]
  exact h
theorem fwI_end {ex : Nat → Prop} {nv b : Nat} (hv : nv ≤ 12) (h : fwI ex nv (2 ^ nv - 1) b) (he : ex (2 ^ nv - 1)) : nI b = fewR (fwS ex (2 ^ nv)) := by
  have hp : 0 < 2 ^ nv := Nat.pow_pos (by omega)
  have e : fwS ex (2 ^ nv) = some b := by
    obtain ⟨m, hm⟩ : ∃ m, 2 ^ nv = m + 1 := ⟨2 ^ nv - 1, by omega⟩
    unfold fwI at h
    rw [hm, Nat.add_sub_cancel] at h he
    rw [hm, fwS_s]
    rcases h with ⟨h, rfl⟩ | h
    · rw [nwIf_t ⟨fun c hc => (by rw [h] at hc; cases hc), he⟩]
    · rw [nwIf_f, h]
      rintro ⟨q1, -⟩
      have := q1 b h
      have hb := fwS_lt m b h
      have e1 : popN m = nv := by have := pw_all nv 13 (by omega); rwa [hm, Nat.add_sub_cancel] at this
      have e2 : popN b ≤ nv := pw_le nv 13 b (by omega) (by omega)
      omega
  rw [e]
  rfl
noncomputable def exF (n nv : Nat) (fr tt : Nat → Nat) (lk : Nat → Int32) (k : Nat) : Prop := expl n (grF n fr tt k (fun _ => 0) nv) lk
noncomputable def fewF (n nv : Nat) (fr tt : Nat → Nat) (lk : Nat → Int32) : Int32 := fewR (fwS (exF n nv fr tt lk) (2 ^ nv))
theorem exF_all {n nv k : Nat} {fr tt : Nat → Nat} {lk : Nat → Int32} (hn : n ≤ 8) (hf : ∀ v, v < nv → fr v < n ∧ tt v < n) (hb : bnd n lk) (h : exF n nv fr tt lk k) : exF n nv fr tt lk (2 ^ nv - 1) := expl_crs hn hb (grF_ok hf nv (Nat.le_refl nv)) (crs_grF hf nv (Nat.le_refl nv)) h
theorem fewF_none {n nv : Nat} {fr tt : Nat → Nat} {lk : Nat → Int32} (hn : n ≤ 8) (hf : ∀ v, v < nv → fr v < n ∧ tt v < n) (hb : bnd n lk) (h : ¬ exF n nv fr tt lk (2 ^ nv - 1)) : fewF n nv fr tt lk = -1 := by
  unfold fewF
  rw [fwS_none _ (fun j _ q => h (exF_all hn hf hb q))]
  rfl
theorem exF_of {n nv k : Nat} {fr tt ld : Nat → Nat} {lk zl : Nat → Int32} (hf : ∀ v, v < nv → fr v < n ∧ tt v < n) (hz : ∀ j, j < n → zl j = lk j) (h : expl n (grF n fr tt k ld nv) zl) : exF n nv fr tt lk k := expl_congr (fun z hz9 => grF_junk hf nv (Nat.le_refl nv) z hz9) hz h
theorem exF_to {n nv k : Nat} {fr tt ld : Nat → Nat} {lk zl : Nat → Int32} (hf : ∀ v, v < nv → fr v < n ∧ tt v < n) (hz : ∀ j, j < n → zl j = lk j) (h : exF n nv fr tt lk k) : expl n (grF n fr tt k ld nv) zl := expl_congr (fun z hz9 => grF_junk hf nv (Nat.le_refl nv) z hz9) (fun z hz9 => (hz z hz9).symm) h
end
section
/-! Plain facts on the face: counts and the digest's beginning. -/
noncomputable def countF (n nv ns nd : Nat) (M ML : Nat → Nat → Int32) (x : Int32) : Int32 := nwIf (x = 0) (nI n) (nwIf (x = 1) (nI nv) (nwIf (x = 2) (nI ns) (nwIf (x = 3) (nI nd) (nwIf (x = 4) (rlF M (24 * n)) (nwIf (x = 5) (lostF (ML 0) (ML 1) 64) (-2))))))
def mixC (f : Int32 → Int32) : Nat → Int64
  | 0 => 197
  | k + 1 => 31 * mixC f k + (f (nI k)).toInt64
theorem mixC_s {f : Int32 → Int32} {k : Nat} : mixC f (k + 1) = 31 * mixC f k + (f (nI k)).toInt64 := rfl
end
section
/-! Plain facts on the reference's rows: hours and samples one behind another. -/
def coF (M : Nat → Nat → Int32) : Nat → Int32 := fun j => if j < 192 then M (j / 24) (j % 24) else 0
def goF (M : Nat → Nat → Int32) : Nat → Int32 := fun j => if j < 192 then M (8 + j / 24) (j % 24) else 0
def hdF2 (M : Nat → Nat → Int32) : Nat → Int32 := fun j => if j < 128 then M (j / 64) (j % 64) else 0
theorem coF_at {M : Nat → Nat → Int32} {z h : Nat} (hz : z < 8) (hh : h < 24) : coF M (24 * z + h) = M z h := by
  unfold coF
  rw [if_pos (by omega), show (24 * z + h) / 24 = z by omega, show (24 * z + h) % 24 = h by omega]
theorem goF_at {M : Nat → Nat → Int32} {z h : Nat} (hz : z < 8) (hh : h < 24) : goF M (24 * z + h) = M (8 + z) h := by
  unfold goF
  rw [if_pos (by omega), show (24 * z + h) / 24 = z by omega, show (24 * z + h) % 24 = h by omega]
theorem hdF_at {M : Nat → Nat → Int32} {l i : Nat} (hl : l < 2) (hi : i < 64) : hdF2 M (64 * l + i) = M l i := by
  unfold hdF2
  rw [if_pos (by omega), show (64 * l + i) / 64 = l by omega, show (64 * l + i) % 64 = i by omega]
theorem coF_up {M : Nat → Nat → Int32} {z h : Nat} {v : Int32} (hz : z < 8) (hh : h < 24) : va_up (coF M) (24 * z + h) v = coF (nwU2 M z h v) ∧ goF (nwU2 M z h v) = goF M := by
  constructor
  · funext j
    by_cases e : j = 24 * z + h
    · subst e; rw [va_up_self, coF_at hz hh, nwU2_s]
    · rw [va_up_ne _ _ e]
      unfold coF
      by_cases q : j < 192
      · rw [if_pos q, if_pos q, nwU2_n (by omega)]
      · rw [if_neg q, if_neg q]
  · funext j
    unfold goF
    by_cases q : j < 192
    · rw [if_pos q, if_pos q, nwU2_n (by omega)]
    · rw [if_neg q, if_neg q]
theorem goF_up {M : Nat → Nat → Int32} {z h : Nat} {v : Int32} (hz : z < 8) (hh : h < 24) : va_up (goF M) (24 * z + h) v = goF (nwU2 M (8 + z) h v) ∧ coF (nwU2 M (8 + z) h v) = coF M := by
  constructor
  · funext j
    by_cases e : j = 24 * z + h
    · subst e; rw [va_up_self, goF_at hz hh, nwU2_s]
    · rw [va_up_ne _ _ e]
      unfold goF
      by_cases q : j < 192
      · rw [if_pos q, if_pos q, nwU2_n (by omega)]
      · rw [if_neg q, if_neg q]
  · funext j
    unfold coF
    by_cases q : j < 192
    · rw [if_pos q, if_pos q, nwU2_n (by omega)]
    · rw [if_neg q, if_neg q]
theorem hdF_up {M : Nat → Nat → Int32} {l i : Nat} {v : Int32} (hl : l < 2) (hi : i < 64) : va_up (hdF2 M) (64 * l + i) v = hdF2 (nwU2 M l i v) := by
  funext j
  by_cases e : j = 64 * l + i
  · subst e; rw [va_up_self, hdF_at hl hi, nwU2_s]
  · rw [va_up_ne _ _ e]
    unfold hdF2
    by_cases q : j < 128
    · rw [if_pos q, if_pos q, nwU2_n (by omega)]
    · rw [if_neg q, if_neg q]
theorem fl_take {er : Int32} {f g : Nat → Int32} {k : Nat} (h : (¬ f (k + 1) = -1) ∧ (¬ g (k + 1) = -1) ∧ ((lowF er f g k).1 = -1 ∨ grtF er (f (k + 1)) - lstF er (g (k + 1)) < (lowF er f g k).2.1)) : lowF er f g (k + 1) = (nI (k + 1), grtF er (f (k + 1)) - lstF er (g (k + 1)), lstF er (f (k + 1)) - grtF er (g (k + 1))) := by rw [lowF_s, nwIf_t h]
theorem fl_keep {er : Int32} {f g : Nat → Int32} {k : Nat} (h : ¬ ((¬ f (k + 1) = -1) ∧ (¬ g (k + 1) = -1) ∧ ((lowF er f g k).1 = -1 ∨ grtF er (f (k + 1)) - lstF er (g (k + 1)) < (lowF er f g k).2.1))) : lowF er f g (k + 1) = lowF er f g k := by rw [lowF_s, nwIf_f h]
theorem nw_two {x : Int32} (h : ¬ out x 0 2) (h0 : ¬ x = 0) (h1 : ¬ x = 1) : x = 2 := by
  obtain ⟨j, hj, rfl⟩ := nw_le (n := 2) rfl (by decide) h
  have a0 : ¬ j = 0 := fun e => h0 (by rw [e]; rfl)
  have a1 : ¬ j = 1 := fun e => h1 (by rw [e]; rfl)
  obtain rfl : j = 2 := by omega
  rfl
end
section
/-! Plain facts on the reference's groups, and its fewest. -/
theorem nwIf_ap {p : Prop} {f g : Nat → Nat} {z b : Nat} (h1 : f z < b) (h2 : g z < b) : nwIf p f g z < b := by
  by_cases h : p
  · rw [nwIf_t h]; exact h1
  · rw [nwIf_f h]; exact h2
theorem nwIf_same {α : Type} {p : Prop} {x : α} : nwIf p x x = x := by
  by_cases h : p
  · exact nwIf_t h _ _
  · exact nwIf_f h _ _
theorem gup {gl gz : Nat → Nat} {x y m v : Nat} (hz : gz = gst m gl x y) (hv : ((gl m = x ∨ gl m = y) ∧ v = min x y) ∨ (¬ (gl m = x ∨ gl m = y) ∧ v = gl m)) : va_up gz m v = gst (m + 1) gl x y := by
  subst hz
  rcases hv with ⟨h, rfl⟩ | ⟨h, rfl⟩
  · exact gst_hit h
  · rw [← gst_same (Or.inr h)]
    funext j
    by_cases e : j = m
    · subst e; rw [va_up_self, gst_out (by omega)]
    · rw [va_up_ne _ _ e]
/-- one group's leaks, looked at up to zone z -/
def dsI (n : Nat) (gl : Nat → Nat) (lk : Nat → Int32) (g z al : Nat) (sm : Int32) : Prop := (al = 1 ∧ gl g = g ∧ ¬ gunt gl lk g z ∧ sm = gsum gl lk g z) ∨ (al = 0 ∧ (¬ gl g = g ∨ gunt gl lk g n))
section DS
variable {n : Nat} {gl : Nat → Nat} {lk : Nat → Int32} {g z al : Nat} {sm : Int32}
theorem dsI_1 (h : dsI n gl lk g z al sm) : al ≤ 1 := by rcases h with ⟨h, _⟩ | ⟨h, _⟩ <;> omega
theorem dsI_t {sm : Int32} (h : gl g = g) (hs : sm = 0 := by rfl) : dsI n gl lk g 0 1 sm := Or.inl ⟨rfl, h, gunt_0, hs⟩
theorem dsI_f (h : ¬ gl g = g) : dsI n gl lk g 0 0 sm := Or.inr ⟨rfl, Or.inl h⟩
theorem dsI_skip (h : dsI n gl lk g z al sm) (ha : ¬ al = 0) (hz : ¬ gl z = g) : dsI n gl lk g (z + 1) al sm := by
  rcases h with ⟨h1, h2, h3, h4⟩ | ⟨h, _⟩
  · refine Or.inl ⟨h1, h2, fun q => (gunt_s.mp q).elim h3 (fun r => hz r.1), ?_⟩
    rw [gsum_s, nwIf_f (fun q => hz q.1)]
    exact h4
  · exact absurd h ha
theorem dsI_told (h : dsI n gl lk g z al sm) (ha : ¬ al = 0) (hz : gl z = g) (hl : ¬ lk z = -2000000000) : dsI n gl lk g (z + 1) 1 (sm + lk z) := by
  rcases h with ⟨h1, h2, h3, h4⟩ | ⟨h, _⟩
  · refine Or.inl ⟨rfl, h2, fun q => (gunt_s.mp q).elim h3 (fun r => hl r.2), ?_⟩
    rw [gsum_s, nwIf_t ⟨hz, hl⟩, h4]
  · exact absurd h ha
theorem dsI_lost {s2 : Int32} (h : dsI n gl lk g z al sm) (ha : ¬ al = 0) (hz : gl z = g) (hl : lk z = -2000000000) (hn : z < n) : dsI n gl lk g (z + 1) 0 s2 := Or.inr ⟨rfl, Or.inr ⟨z, hn, hz, hl⟩⟩
theorem dsI_0 (h : dsI n gl lk g z al sm) (ha : al = 0) (hi : ∀ j, j < n → gl (gl j) = gl j) : gunt gl lk g n ∨ ¬ gsum gl lk g n < 0 := by
  rcases h with ⟨h, _⟩ | ⟨_, h | h⟩
  · omega
  · right
    rw [gsum_none n (fun j hj e => h (by rw [← e]; exact hi j hj))]
    exact Int32.lt_irrefl
  · exact Or.inl h
theorem dsI_n (h : dsI n gl lk g z al sm) (ha : ¬ al = 0) (hz : z = n) : ¬ gunt gl lk g n ∧ sm = gsum gl lk g n := by
  subst hz
  rcases h with ⟨_, _, h3, h4⟩ | ⟨h, _⟩
  · exact ⟨h3, h4⟩
  · exact absurd h ha
end DS
theorem pw_z : ∀ f, pw f 0 = 0 := by
  intro f
  induction f with
  | zero => rfl
  | succ f ih => show 0 % 2 + pw f (0 / 2) = 0; rw [Nat.zero_div, ih]
theorem many_f {v f : Nat} (hv : 0 < v) (hf : v < 2 ^ f) : v / 2 < 2 ^ (f - 1) := by
  cases f with
  | zero => simp at hf; omega
  | succ f => rw [Nat.pow_succ] at hf; rw [Nat.add_sub_cancel]; omega
theorem many_c {v f c : Nat} (hv : 0 < v) (hf : v < 2 ^ f) : c + v % 2 + pw (f - 1) (v / 2) = c + pw f v := by
  cases f with
  | zero => simp at hf; omega
  | succ f =>
    rw [Nat.add_sub_cancel]
    show c + v % 2 + pw f (v / 2) = c + (v % 2 + pw f (v / 2))
    omega
theorem fs_take {ex : Nat → Prop} {k : Nat} (h1 : better (fwS ex k) k) (h2 : ex k) : nI k = fewR (fwS ex (k + 1)) := by rw [fwS_s, nwIf_t ⟨h1, h2⟩]; rfl
theorem fs_leave {ex : Nat → Prop} {k : Nat} (h : ¬ better (fwS ex k) k ∨ ¬ ex k) : fwS ex (k + 1) = fwS ex k := by rw [fwS_s, nwIf_f (fun q => h.elim (fun w => w q.1) (fun w => w q.2))]
theorem fewR_some {ex : Nat → Prop} {k : Nat} {x : Int32} (e : x = fewR (fwS ex k)) (hk : k ≤ 4096) (h : ¬ x = -1) : ∃ b : Nat, b < 4096 ∧ fwS ex k = some b ∧ x = nI b := by
  cases o : fwS ex k with
  | none => rw [o] at e; exact absurd e h
  | some b => rw [o] at e; exact ⟨b, by have := fwS_lt k b o; omega, rfl, e⟩
theorem fewR_none {ex : Nat → Prop} {k : Nat} {x : Int32} (e : x = fewR (fwS ex k)) (hk : k ≤ 4096) (h : x = -1) : better (fwS ex k) k := by
  cases o : fwS ex k with
  | none => intro b hb; cases hb
  | some b =>
    rw [o] at e
    have hb := fwS_lt k b o
    exact absurd (e.symm.trans h) (nI_nm1 (by omega))
end
section
/-! Plain facts on the reference's listeners: its order of delays, and that it finds the same. -/
theorem hdF_0 {M : Nat → Nat → Int32} {i : Nat} (hi : i < 64) : hdF2 M i = M 0 i := by
  have h := hdF_at (M := M) (l := 0) (i := i) (by omega) hi
  rwa [Nat.mul_zero, Nat.zero_add] at h
theorem hdF_1 {M : Nat → Nat → Int32} {i : Nat} (hi : i < 64) : hdF2 M (64 + i) = M 1 i := by
  have h := hdF_at (M := M) (l := 1) (i := i) (by omega) hi
  rwa [Nat.mul_one] at h
theorem sh64 {i j : Nat} {d : Int32} (h : nI i + d = nI j) : nI (64 + i) + d = nI (64 + j) := by
  rw [← nI_add, Int32.add_assoc, h, nI_add]
def nearG (c d : Int32) : Prop := ¬ out (d - c) (-1) 1
def sdv (t : Nat) : Int32 := if t = 0 then -1 else if t = 1 then 1 else 3
def dM (s t : Nat) : Int32 := nI s * sdv t
theorem sdv_s {t : Nat} (h : t < 2) : sdv t + 2 = sdv (t + 1) := by
  rcases Nat.lt_or_ge t 1 with q | q
  · obtain rfl : t = 0 := by omega
    decide
  · obtain rfl : t = 1 := by omega
    decide
theorem sdv_2 {t : Nat} {x : Int32} (h : t ≤ 2) (e : x = sdv t) (hx : 2 ≤ x) : t = 2 := by
  rcases Nat.lt_or_ge t 1 with q | q
  · obtain rfl : t = 0 := by omega
    rw [e] at hx; exact absurd hx (by decide)
  · rcases Nat.lt_or_ge t 2 with q2 | q2
    · obtain rfl : t = 1 := by omega
      rw [e] at hx; exact absurd hx (by decide)
    · omega
theorem sdv_l {t : Nat} {x : Int32} (h : t ≤ 2) (e : x = sdv t) (hx : ¬ 2 ≤ x) : t < 2 := by
  rcases Nat.lt_or_ge t 2 with q | q
  · exact q
  · obtain rfl : t = 2 := by omega
    rw [e] at hx; exact absurd (by decide) hx
noncomputable def mseq (f g : Nat → Int32) (near : Int32 → Prop) : Nat → Int32 × Int64 × Int64
  | 0 => (-101, 0, 1)
  | s + 1 => dst f g near (dst f g near (mseq f g near s) (dM s 0)) (dM s 1)
noncomputable def mid (f g : Nat → Int32) (near : Int32 → Prop) (s : Nat) : Nat → Int32 × Int64 × Int64
  | 0 => mseq f g near s
  | t + 1 => dst f g near (mid f g near s t) (dM s t)
theorem mid_s {f g : Nat → Int32} {near : Int32 → Prop} {s t : Nat} : mid f g near s (t + 1) = dst f g near (mid f g near s t) (dM s t) := rfl
theorem mseq_s {f g : Nat → Int32} {near : Int32 → Prop} {s : Nat} : mseq f g near (s + 1) = mid f g near s 2 := rfl
theorem dM_eq {s t : Nat} {x : Int32} (h : t < 2) (e : x = sdv t) : dM s t = nI s * x := by rw [e]; rfl
noncomputable def bestG (f g : Nat → Int32) (c : Int32) : Int32 := (mseq f g (nearG c) 17).1
theorem bestG_eq {f g : Nat → Int32} {c : Int32} {x : Int32 × Int64 × Int64} (h : mseq f g (nearG c) 17 = x) : x.1 = bestG f g c := by rw [← h]; rfl
noncomputable def delayG (M : Nat → Nat → Int32) (b : Int32) : Int32 := nwIf (b = 0) (bestG (M 0) (M 1) 1000) (nwIf (bestG (M 0) (M 1) 1000 = -101) (bestG (M 0) (M 1) 1000) (bestG (M 0) (M 1) (bestG (M 0) (M 1) 1000)))
noncomputable def plcM (len x y what : Int32) : Int32 := nwIf (nwIf ((what = 0 ∧ x < y) ∨ ((¬ what = 0) ∧ ¬ x < y)) x y < 0) 0 (nwIf (2 * len < nwIf ((what = 0 ∧ x < y) ∨ ((¬ what = 0) ∧ ¬ x < y)) x y) (2 * len) (nwIf ((what = 0 ∧ x < y) ∨ ((¬ what = 0) ∧ ¬ x < y)) x y))
noncomputable def placeG (M : Nat → Nat → Int32) (len s t what : Int32) : Int32 := nwIf (out len 1 100000 ∨ out s 1 2000 ∨ out t s 2000 ∨ out what 0 1) (-2) (nwIf (bestG (M 0) (M 1) 1000 = -101) (-3) (plcM len (len - bestG (M 0) (M 1) 1000 * s) (len - bestG (M 0) (M 1) 1000 * t) what))
end
section
/-! Plain facts on the reference's plans: by width, flat. -/
theorem zerW_cut12 {w : Nat → Nat} {m g ns : Nat} (h0 : ∀ k, ns ≤ k → w k = 0) (hn : ns ≤ 12) (hg : 12 ≤ g) (hg2 : g ≤ 12) : zerW w m g = cutW w m := by
  funext k
  unfold zerW cutW
  by_cases q : k < m
  · rw [if_neg (by omega), if_pos q]
  · rw [if_neg q]
    by_cases q2 : m ≤ k ∧ k < g
    · rw [if_pos q2]
    · rw [if_neg q2]; exact h0 k (by omega)
def wsN (w : Nat → Nat) (a : Nat) : Nat → Nat
  | 0 => 0
  | j + 1 => wsN w a j + w (a + j)
theorem wsN_s {w : Nat → Nat} {a : Nat} : ∀ d, wsN w a (d + 1) = wsum w a d := by
  intro d
  induction d with
  | zero => show 0 + w (a + 0) = w a; rw [Nat.zero_add, Nat.add_zero]
  | succ d ih => show wsN w a (d + 1) + w (a + (d + 1)) = wsum w a d + w (a + (d + 1)); rw [ih]
def plE (w : Nat → Nat) (cs cl : Nat → Int32) (a b : Nat) : Prop := cs (12 * a + b) = nI (cF w (b - a) a) ∧ cl (12 * a + b) = stF w a b
def plM (w : Nat → Nat) (ns : Nat) (cs cl : Nat → Int32) : Prop := ∀ a b, a ≤ b → b < ns → cs (12 * a + b) = nI (cF w (b - a) a) ∧ cl (12 * a + b) = stF w a b
def plR (w : Nat → Nat) (ns d x : Nat) (cs cl : Nat → Int32) : Prop := ns ≤ 12 → ∀ a b, a ≤ b → b < ns → (b - a < d ∨ (b - a = d ∧ a < x)) → plE w cs cl a b
theorem plR_0 {w : Nat → Nat} {ns : Nat} {cs cl : Nat → Int32} : plR w ns 0 0 cs cl := fun _ a b _ _ h => absurd h (by omega)
theorem plR_next {w : Nat → Nat} {ns d x : Nat} {cs cl : Nat → Int32} (h : plR w ns d x cs cl) (hx : ns ≤ x + d) : plR w ns (d + 1) 0 cs cl := fun hn a b h1 h2 h3 => h hn a b h1 h2 (by omega)
theorem plR_end {w : Nat → Nat} {ns d : Nat} {cs cl : Nat → Int32} (h : plR w ns d 0 cs cl) (hd : ns ≤ d) (hn : ns ≤ 12 := by omega) : plM w ns cs cl := fun a b h1 h2 => h hn a b h1 h2 (by omega)
def plK (w : Nat → Nat) (d x q : Nat) (csw clw : Nat → Int32) (j : Nat) (cs cl : Nat → Int32) : Prop := (∀ p, ¬ p = q → cs p = csw p ∧ cl p = clw p) ∧ ((j = 0 ∧ cs q = 0 ∧ cl q = -1) ∨ (0 < j ∧ cl q = nI (x + argm (cF w) d x (j - 1)) ∧ cs q = nI (wsum w x d + part (cF w) d x (argm (cF w) d x (j - 1)))))
section PLK
variable {w : Nat → Nat} {ns d x q j : Nat} {csw clw cs cl : Nat → Int32}
theorem plK_0 : plK w d x q csw clw 0 (va_up csw q 0) (va_up clw q (-1)) := ⟨fun p h => ⟨va_up_ne _ _ h, va_up_ne _ _ h⟩, Or.inl ⟨rfl, va_up_self _ _ _, va_up_self _ _ _⟩⟩
theorem plK_is0 (h : plK w d x q csw clw j cs cl) (e : cl q = -1) (hx : x + d < 2 ^ 20) (hj : j ≤ d := by omega) : j = 0 := by
  rcases h.2 with ⟨h, _⟩ | ⟨h1, h2, _⟩
  · exact h
  · have hr := argm_rng (c := cF w) (d := d) (a := x) (j - 1)
    exact absurd (h2.symm.trans e) (nI_nm1 (by omega))
theorem plK_pos (h : plK w d x q csw clw j cs cl) (e : ¬ cl q = -1) : 0 < j := by
  rcases h.2 with ⟨_, _, h⟩ | ⟨h, _⟩
  · exact absurd h e
  · exact h
theorem plK_has (h : plK w d x q csw clw j cs cl) (hj : 0 < j) : cl q = nI (x + argm (cF w) d x (j - 1)) ∧ cs q = nI (wsum w x d + part (cF w) d x (argm (cF w) d x (j - 1))) := by
  rcases h.2 with ⟨h, _⟩ | ⟨_, h⟩
  · omega
  · exact h
theorem plK_set0 (h : plK w d x q csw clw j cs cl) (hj : j = 0) : plK w d x q csw clw (j + 1) (va_up cs q (nI (wsum w x d + part (cF w) d x (1 + j)))) (va_up cl q (nI (x + 1 + j))) := by
  subst hj
  refine ⟨fun p hp => by rw [va_up_ne _ _ hp, va_up_ne _ _ hp]; exact h.1 p hp, Or.inr ⟨by omega, ?_, ?_⟩⟩
  · rw [va_up_self]; rfl
  · rw [va_up_self]; rfl
theorem plK_set (h : plK w d x q csw clw j cs cl) (hj : 0 < j) (hv : part (cF w) d x (1 + j) < part (cF w) d x (argm (cF w) d x (j - 1))) : plK w d x q csw clw (j + 1) (va_up cs q (nI (wsum w x d + part (cF w) d x (1 + j)))) (va_up cl q (nI (x + 1 + j))) := by
  obtain ⟨i, rfl⟩ : ∃ i, j = i + 1 := ⟨j - 1, by omega⟩
  rw [Nat.add_sub_cancel, show 1 + (i + 1) = i + 2 by omega] at hv
  have e : argm (cF w) d x (i + 1) = i + 2 := by rw [argm_s, if_pos hv]
  refine ⟨fun p hp => by rw [va_up_ne _ _ hp, va_up_ne _ _ hp]; exact h.1 p hp, Or.inr ⟨by omega, ?_, ?_⟩⟩
  · rw [va_up_self, Nat.add_sub_cancel, e, show x + 1 + (i + 1) = x + (i + 2) by omega]
  · rw [va_up_self, Nat.add_sub_cancel, e, show 1 + (i + 1) = i + 2 by omega]
theorem plK_keep (h : plK w d x q csw clw j cs cl) (hj : 0 < j) (hv : ¬ part (cF w) d x (1 + j) < part (cF w) d x (argm (cF w) d x (j - 1))) : plK w d x q csw clw (j + 1) cs cl := by
  have h2 := plK_has h hj
  obtain ⟨i, rfl⟩ : ∃ i, j = i + 1 := ⟨j - 1, by omega⟩
  rw [Nat.add_sub_cancel] at h2
  rw [Nat.add_sub_cancel, show 1 + (i + 1) = i + 2 by omega] at hv
  have e : argm (cF w) d x (i + 1) = argm (cF w) d x i := by rw [argm_s, if_neg hv]
  refine ⟨h.1, Or.inr ⟨by omega, ?_, ?_⟩⟩
  · rw [Nat.add_sub_cancel, e]; exact h2.1
  · rw [Nat.add_sub_cancel, e]; exact h2.2
theorem plK_a (h : plK w d x (12 * x + (x + d)) csw clw j cs cl) (hR : plR w ns d x csw clw) (hx : x + d < ns) (hn : ns ≤ 12 := by omega) (hj : j < d := by omega) : cs (12 * x + (x + 1 + j) - 1) = nI (cF w j x) := by
  rw [show 12 * x + (x + 1 + j) - 1 = 12 * x + (x + j) by omega, (h.1 _ (by omega)).1, (hR hn x (x + j) (by omega) (by omega) (by omega)).1, show x + j - x = j by omega]
theorem plK_b (h : plK w d x (12 * x + (x + d)) csw clw j cs cl) (hR : plR w ns d x csw clw) (hx : x + d < ns) (hj : j < d) (hn : ns ≤ 12 := by omega) : cs (12 * (x + 1 + j) + (x + d)) = nI (cF w (d - (1 + j)) (x + (1 + j))) := by
  rw [(h.1 _ (by omega)).1, (hR hn (x + 1 + j) (x + d) (by omega) (by omega) (by omega)).1, show x + d - (x + 1 + j) = d - (1 + j) by omega, show x + 1 + j = x + (1 + j) by omega]
theorem plK_v {s : Nat} : nI (s + cF w j x + cF w (d - (1 + j)) (x + (1 + j))) = nI (s + part (cF w) d x (1 + j)) := by
  unfold part
  rw [show 1 + j - 1 = j by omega, Nat.add_assoc]
theorem plK_end (h : plK w d x (12 * x + (x + d)) csw clw j cs cl) (hR : plR w ns d x csw clw) (hx : x + d < ns) (hj : j = d) : plR w ns d (x + 1) cs cl := by
  intro hn a b h1 h2 h3
  by_cases e : a = x ∧ b = x + d
  · obtain ⟨rfl, rfl⟩ := e
    unfold plE
    rw [show a + d - a = d by omega]
    rcases h.2 with ⟨h4, h5, h6⟩ | ⟨h4, h5, h6⟩
    · obtain rfl : d = 0 := by omega
      rw [h5, h6]
      refine ⟨rfl, ?_⟩
      unfold stF
      rw [if_pos (by omega)]
    · rw [h5, h6]
      obtain ⟨i, rfl⟩ : ∃ i, d = i + 1 := ⟨d - 1, by omega⟩
      subst hj
      rw [Nat.add_sub_cancel, cF_s]
      refine ⟨rfl, ?_⟩
      unfold stF sF
      rw [if_neg (by omega), show a + (i + 1) - a = i + 1 by omega, Nat.add_sub_cancel]
  · have h4 := hR hn a b h1 h2 (by omega)
    unfold plE at h4 ⊢
    rw [(h.1 _ (by omega)).1, (h.1 _ (by omega)).2]
    exact h4
end PLK
theorem span_good {ns : Nat} {x y : Int32} (h1 : 0 ≤ x) (h2 : x ≤ y) (h3 : y < nI ns) (hn : ns ≤ 12 := by assumption) : ¬ spanBad ns x y := by
  unfold spanBad out
  rw [Int32.le_iff_toInt_le] at h1 h2
  rw [Int32.lt_iff_toInt_lt, nI_toInt (by omega)] at h3
  have z0 : (0 : Int32).toInt = 0 := rfl
  obtain ⟨m, rfl⟩ : ∃ m, ns = m + 1 := ⟨ns - 1, by omega⟩
  rw [nI_pred]
  simp only [Int32.lt_iff_toInt_lt]
  rw [nI_toInt (by omega)]
  omega
theorem span_bad1 {ns : Nat} {x y : Int32} (h : x < 0) : spanBad ns x y := Or.inr (Or.inl h)
theorem span_bad2 {ns : Nat} {x y : Int32} (h : y < x) : spanBad ns x y := Or.inr (Or.inr h)
theorem span_bad3 {ns : Nat} {x y : Int32} (h1 : 1 ≤ ns) (hn : ns ≤ 12) (h : nI ns ≤ y) : spanBad ns x y := by
  left
  right
  rw [Int32.le_iff_toInt_le, nI_toInt (by omega)] at h
  obtain ⟨m, rfl⟩ : ∃ m, ns = m + 1 := ⟨ns - 1, by omega⟩
  rw [nI_pred, Int32.lt_iff_toInt_lt, nI_toInt (by omega)]
  omega
theorem sq_le {r : Nat} (h : r * r ≤ 1000000) : r ≤ 1000 := by
  rcases Nat.lt_or_ge 1000 r with q | q
  · have : 1001 * 1001 ≤ r * r := Nat.mul_le_mul q q
    omega
  · exact q
end
section
/-! Plain facts on the reference's counts and digest: rows one behind another. -/
theorem rlF_s2 {M : Nat → Nat → Int32} (k : Nat) : rlF M (k + 1) = rlF M k + (nwIf (M (k / 24) (k % 24) = -1) 1 0 + nwIf (M (8 + k / 24) (k % 24) = -1) 1 0) := by rw [rlF_s, Int32.add_assoc]
theorem coF_d {M : Nat → Nat → Int32} {k : Nat} (h : k < 192) : coF M k = M (k / 24) (k % 24) := if_pos h
theorem goF_d {M : Nat → Nat → Int32} {k : Nat} (h : k < 192) : goF M k = M (8 + k / 24) (k % 24) := if_pos h
noncomputable def loF (f : Nat → Int32) : Nat → Int32
  | 0 => 0
  | k + 1 => loF f k + nwIf (f k = -2000000000) 1 0
theorem loF_s {f : Nat → Int32} (k : Nat) : loF f (k + 1) = loF f k + nwIf (f k = -2000000000) 1 0 := rfl
theorem loF_congr {f g : Nat → Int32} : ∀ (k : Nat), (∀ j, j < k → f j = g j) → loF f k = loF g k
  | 0, _ => rfl
  | k + 1, h => by rw [loF_s, loF_s, loF_congr k (fun j hj => h j (by omega)), h k (by omega)]
theorem loF_add {f : Nat → Int32} (a : Nat) : ∀ (k : Nat), loF f (a + k) = loF f a + loF (fun j => f (a + j)) k
  | 0 => (Int32.add_zero _).symm
  | k + 1 => by rw [← Nat.add_assoc, loF_s, loF_add a k, loF_s, Int32.add_assoc]
theorem lostF_lo {f g : Nat → Int32} : ∀ (k : Nat), lostF f g k = loF f k + loF g k
  | 0 => by rfl
  | k + 1 => by
    rw [lostF_s, loF_s, loF_s, lostF_lo k, Int32.add_assoc, Int32.add_assoc, Int32.add_assoc, ← Int32.add_assoc (loF g k), Int32.add_comm (loF g k), Int32.add_assoc]
theorem lostF_hd {M : Nat → Nat → Int32} : loF (hdF2 M) 128 = lostF (M 0) (M 1) 64 := by
  rw [show (128 : Nat) = 64 + 64 from rfl, loF_add, lostF_lo, loF_congr (f := hdF2 M) (g := M 0) 64 (fun j hj => hdF_0 hj), loF_congr (f := fun j => hdF2 M (64 + j)) (g := M 1) 64 (fun j hj => hdF_1 hj)]
theorem mixR_congr {f g : Nat → Int32} {h : Int64} : ∀ (k : Nat), (∀ j, j < k → f j = g j) → mixR f h k = mixR g h k
  | 0, _ => rfl
  | k + 1, q => by rw [mixR_s, mixR_s, mixR_congr k (fun j hj => q j (by omega)), q k (by omega)]
theorem mixR_add {f : Nat → Int32} {h : Int64} (a : Nat) : ∀ (k : Nat), mixR f h (a + k) = mixR (fun j => f (a + j)) (mixR f h a) k
  | 0 => rfl
  | k + 1 => by rw [← Nat.add_assoc, mixR_s, mixR_add a k, mixR_s]
theorem mixR_hd {M : Nat → Nat → Int32} {h : Int64} : mixR (hdF2 M) h 128 = mixR (M 1) (mixR (M 0) h 64) 64 := by
  rw [show (128 : Nat) = 64 + 64 from rfl, mixR_add, mixR_congr (f := hdF2 M) (g := M 0) 64 (fun j hj => hdF_0 hj), mixR_congr (f := fun j => hdF2 M (64 + j)) (g := M 1) 64 (fun j hj => hdF_1 hj)]
end
section
/-! printed by wip/gen/x7a.py: contracts, walked row by row -/
theorem in_X7_findLow_X7 : ∀ w ∈ wsX70, w ∈ wsX7_findLow := by decide +kernel
theorem in_X7_greatest_X7 : ∀ w ∈ wsX70, w ∈ wsX7_greatest := by decide +kernel
theorem in_X7_isZone_X7 : ∀ w ∈ wsX70, w ∈ wsX7_isZone := by decide +kernel
theorem in_X7_leaksOf_X7 : ∀ w ∈ wsX70, w ∈ wsX7_leaksOf := by decide +kernel
theorem in_X7_least_X7 : ∀ w ∈ wsX70, w ∈ wsX7_least := by decide +kernel
theorem in_X7_low_X7 : ∀ w ∈ wsX70, w ∈ wsX7_low := by decide +kernel
theorem in_X7_read_X7 : ∀ w ∈ wsX70, w ∈ wsX7_read := by decide +kernel
theorem in_X7_rules_X7 : ∀ w ∈ wsX70, w ∈ wsX7_rules := by decide +kernel
theorem in_X7_zone_X7 : ∀ w ∈ wsX70, w ∈ wsX7_zone := by decide +kernel
set_option maxHeartbeats 4000000 in
set_option maxRecDepth 100000 in
theorem c_X7_in (lc : Launch) (G : nwG) (v lo hi : Int32)  : nwCi lc G yX7_in wsX7_in ({ frames := 0, cells := 0, slots := 0, locals := 0 } : Room) [.int (v), .int (lo), .int (hi)] ([]) (fun r ww => ((r = 1 ∧ ¬ out v lo hi) ∨ (r = 0 ∧ out v lo hi)) ∧ ww = []) := by
  refine nw_of (cc := cX7_in) (maxL := 3) (ret := (some .boolean)) (by decide) rfl (Nat.le_of_ble_eq_true rfl) ?_
  intro vp ve vs vm vb vt vc vA ls X hP hD hA hS hl
  have X : nwAt vp vm vc cX7_in 3 vs _ wsX7_in RX7 vt (some .boolean) "in" G := X
  have hx := X.1.1
  have hb := X.1.2.1
  have hown := X.1.2.2.2.1
  have hts := X.1.2.2.2.2
  have hK := X.2.2.2.2
  have hl : lv_has ls 3 [(0, .int (v)), (1, .int (lo)), (2, .int (hi))] := hl
  refine lv_iload_n hx hb dX7_in_0 rfl (lv_at hl 0 rfl) ?_
  refine lv_iload_n hx hb dX7_in_1 rfl (lv_at hl 1 rfl) ?_
  refine lv_icmp_lt (tgt := 14) hx hb dX7_in_2 (by decide) (fun b2_1 => ?_) (fun b2_1 => ?_)
  · skip
    have b2_1 : (v) < (lo) := b2_1
    have b2_1n : ¬ ((lo) ≤ (v)) := Int32.not_le.mpr b2_1
    refine lv_iconst (v := (0)) hx hb dX7_in_14 (by decide) ?_
    exact nw_zret (rm := ({ frames := 0, cells := 0, slots := 0, locals := 0 } : Room)) X (by decide) hP hD hS (⟨Or.inr ⟨rfl, by simp only [out, nwIf_T, nwIf_F, or_true, true_or, or_false, false_or, and_true, true_and, and_false, false_and, not_true_eq_false, not_false_eq_true, Nat.add_sub_cancel, b2_1n, b2_1]⟩, rfl⟩) dX7_in_15
  · skip
    have b2_1 : ¬ ((v) < (lo)) := b2_1
    have b2_1n : (lo) ≤ (v) := Int32.not_lt.mp b2_1
    refine lv_iload_n hx hb dX7_in_5 rfl (lv_at hl 0 rfl) ?_
    refine lv_iload_n hx hb dX7_in_6 rfl (lv_at hl 2 rfl) ?_
    refine lv_icmp_gt (tgt := 14) hx hb dX7_in_7 (by decide) (fun b7_2 => ?_) (fun b7_2 => ?_)
    · skip
      have b7_2 : (hi) < (v) := b7_2
      have b7_2n : ¬ ((v) ≤ (hi)) := Int32.not_le.mpr b7_2
      refine lv_iconst (v := (0)) hx hb dX7_in_14 (by decide) ?_
      exact nw_zret (rm := ({ frames := 0, cells := 0, slots := 0, locals := 0 } : Room)) X (by decide) hP hD hS (⟨Or.inr ⟨rfl, by simp only [out, nwIf_T, nwIf_F, or_true, true_or, or_false, false_or, and_true, true_and, and_false, false_and, not_true_eq_false, not_false_eq_true, Nat.add_sub_cancel, b2_1n, b2_1, b7_2n, b7_2]⟩, rfl⟩) dX7_in_15
    · skip
      have b7_2 : ¬ ((hi) < (v)) := b7_2
      have b7_2n : (v) ≤ (hi) := Int32.not_lt.mp b7_2
      refine lv_iconst (v := (1)) hx hb dX7_in_10 (by decide) ?_
      refine lv_goto (tgt := 15) hx hb dX7_in_11 (by decide) ?_
      exact nw_zret (rm := ({ frames := 0, cells := 0, slots := 0, locals := 0 } : Room)) X (by decide) hP hD hS (⟨Or.inl ⟨rfl, by simp only [out, nwIf_T, nwIf_F, or_true, true_or, or_false, false_or, and_true, true_and, and_false, false_and, not_true_eq_false, not_false_eq_true, Nat.add_sub_cancel, b2_1n, b2_1, b7_2n, b7_2]⟩, rfl⟩) dX7_in_15
set_option maxHeartbeats 4000000 in
set_option maxRecDepth 100000 in
theorem c_X7_isZone (lc : Launch) (G : nwG) (a : Nat → Nat) (n : Nat) (cu bg : Nat → Int32) (M : Nat → Nat → Int32) (er us ll lm lh : Int32) (nv : Nat) (fr tt gr : Nat → Nat) (ML : Nat → Nat → Int32) (ns : Nat) (w : Nat → Nat) (cs cl : Nat → Int32) (nd : Nat) (lo ho : Nat → Int32) (so : Nat → Nat) (z : Int32)  : nwCi lc G yX7_isZone wsX7_isZone ({ frames := 1, cells := 0, slots := 0, locals := 22 } : Room) [.ref (a 0), .int (z)] ((wM G (a) (n) (cu) (bg) ((coF M)) ((goF M)) (er) (us) (ll) (lm) (lh) (nv) (fr) (tt) (gr) ((hdF2 ML)) (ns) (w) (cs) (cl) (nd) (lo) (ho) (so))) (fun r ww => ((r = 1 ∧ ¬ out z 0 (nI n - 1)) ∨ (r = 0 ∧ out z 0 (nI n - 1))) ∧ ww = wM G (a) (n) (cu) (bg) ((coF M)) ((goF M)) (er) (us) (ll) (lm) (lh) (nv) (fr) (tt) (gr) ((hdF2 ML)) (ns) (w) (cs) (cl) (nd) (lo) (ho) (so)) := by
  refine nw_of (cc := cX7_isZone) (maxL := 2) (ret := (some .boolean)) (by decide) rfl (Nat.le_of_ble_eq_true rfl) ?_
  intro vp ve vs vm vb vt vc vA ls X hP hD hA hS hl
  have X : nwAt vp vm vc cX7_isZone 2 vs _ wsX7_isZone RX7 vt (some .boolean) "isZone" G := X
  have hx := X.1.1
  have hb := X.1.2.1
  have hown := X.1.2.2.2.1
  have hts := X.1.2.2.2.2
  have hK := X.2.2.2.2
  have hl : lv_has ls 2 [(0, .ref (a 0)), (1, .int (z))] := hl
  refine lv_iload_n hx hb dX7_isZone_0 rfl (lv_at hl 1 rfl) ?_
  refine lv_iconst (v := (0)) hx hb dX7_isZone_1 (by decide) ?_
  refine lv_aload_n hx hb dX7_isZone_2 rfl (lv_at hl 0 rfl) ?_
  refine va_get (D := G.1) (ci := 6) (v := .int (nI (n))) (C := RX7) (T := TX7) (N := 23) hx hb hts in_X7_isZone_X7 hown hK.1 hP 0 rfl rfl 0 (by decide) (hts (.fieldLink RX7 62 "NightWaterModel" "zones" "I") (List.mem_of_getElem? (i := 1) rfl)) (fun _ h9 => h9) rfl dX7_isZone_3 ?_
  refine lv_iconst (v := (1)) hx hb dX7_isZone_6 (by decide) ?_
  refine lv_isub hx hb dX7_isZone_7 ?_
  refine nw_Si (As := [.int (z), .int (0), .int ((nI (n)) - (1 : Int32))]) (rest := []) X (c_X7_in lc G ((z)) ((0 : Int32)) (((nI (n)) - (1 : Int32))) ) (va_cwS 3 hts gX7_isZone_X7_in rfl rfl rfl (by decide +kernel) ⟨Nat.le_of_ble_eq_true rfl, Nat.le_of_ble_eq_true rfl⟩) (fun _ _ h => h.2) hP hD hS hA rfl hl.1 rfl (Nat.le_of_ble_eq_true rfl) dX7_isZone_8 ⟨Nat.le_of_ble_eq_true rfl, Nat.le_of_ble_eq_true rfl⟩ (fun r H locs hp_1 hP hD hS => ?_)
  obtain ⟨⟨rfl, q_2⟩ | ⟨rfl, q_2⟩, -⟩ := hp_1
  · skip
    have q_2 : ¬ out ((z)) ((0 : Int32)) (((nI (n)) - (1 : Int32))) := q_2
    exact nw_zret (rm := ({ frames := 1, cells := 0, slots := 0, locals := 22 } : Room)) X (by decide) hP hD hS (⟨Or.inl ⟨rfl, q_2⟩, rfl⟩) dX7_isZone_11
  · skip
    have q_2 : out ((z)) ((0 : Int32)) (((nI (n)) - (1 : Int32))) := q_2
    exact nw_zret (rm := ({ frames := 1, cells := 0, slots := 0, locals := 22 } : Room)) X (by decide) hP hD hS (⟨Or.inr ⟨rfl, q_2⟩, rfl⟩) dX7_isZone_11
set_option maxHeartbeats 4000000 in
set_option maxRecDepth 100000 in
theorem c_X7_zone (lc : Launch) (G : nwG) (a : Nat → Nat) (n : Nat) (cu bg : Nat → Int32) (M : Nat → Nat → Int32) (er us ll lm lh : Int32) (nv : Nat) (fr tt gr : Nat → Nat) (ML : Nat → Nat → Int32) (ns : Nat) (w : Nat → Nat) (cs cl : Nat → Int32) (nd : Nat) (lo ho : Nat → Int32) (so : Nat → Nat) (p1 p2 : Int32) (hn : n ≤ 8) : nwCi lc G yX7_zone wsX7_zone ({ frames := 1, cells := 0, slots := 0, locals := 22 } : Room) [.ref (a 0), .int (p1), .int (p2)] ((wM G (a) (n) (cu) (bg) ((coF M)) ((goF M)) (er) (us) (ll) (lm) (lh) (nv) (fr) (tt) (gr) ((hdF2 ML)) (ns) (w) (cs) (cl) (nd) (lo) (ho) (so))) (fun r ww => r = zoneF n p1 p2 ∧ ww = wM G (a) (nwIf (zoneOk n p1 p2) (n + 1) n) (nwIf (zoneOk n p1 p2) (va_up cu n p1) cu) (nwIf (zoneOk n p1 p2) (va_up bg n p2) bg) ((coF M)) ((goF M)) (er) (us) (ll) (lm) (lh) (nv) (fr) (tt) (gr) ((hdF2 ML)) (ns) (w) (cs) (cl) (nd) (lo) (ho) (so)) := by
  refine nw_of (cc := cX7_zone) (maxL := 3) (ret := (some .int)) (by decide) rfl (Nat.le_of_ble_eq_true rfl) ?_
  intro vp ve vs vm vb vt vc vA ls X hP hD hA hS hl
  have X : nwAt vp vm vc cX7_zone 3 vs _ wsX7_zone RX7 vt (some .int) "zone" G := X
  have hx := X.1.1
  have hb := X.1.2.1
  have hown := X.1.2.2.2.1
  have hts := X.1.2.2.2.2
  have hK := X.2.2.2.2
  have hl : lv_has ls 3 [(0, .ref (a 0)), (1, .int (p1)), (2, .int (p2))] := hl
  refine lv_iload_n hx hb dX7_zone_0 rfl (lv_at hl 1 rfl) ?_
  refine lv_iconst (v := (0)) hx hb dX7_zone_1 (by decide) ?_
  refine lv_sipush (v := (5000)) hx hb dX7_zone_2 (by decide) ?_
  refine nw_Si (As := [.int (p1), .int (0), .int (5000)]) (rest := []) X (c_X7_in lc G ((p1)) ((0 : Int32)) ((5000 : Int32)) ) (va_cwS 3 hts gX7_zone_X7_in rfl rfl rfl (by decide +kernel) ⟨Nat.le_of_ble_eq_true rfl, Nat.le_of_ble_eq_true rfl⟩) (fun _ _ h => h.2) hP hD hS hA rfl hl.1 rfl (Nat.le_of_ble_eq_true rfl) dX7_zone_5 ⟨Nat.le_of_ble_eq_true rfl, Nat.le_of_ble_eq_true rfl⟩ (fun r H locs hp_1 hP hD hS => ?_)
  obtain ⟨⟨rfl, q_2⟩ | ⟨rfl, q_2⟩, -⟩ := hp_1
  · skip
    have q_2 : ¬ out ((p1)) ((0 : Int32)) ((5000 : Int32)) := q_2
    refine lv_if_eq (tgt := 22) hx hb dX7_zone_8 (by decide) (fun c9 => absurd c9 (by decide)) (fun _ => ?_)
    refine lv_iload_n hx hb dX7_zone_11 rfl (lv_at hl 2 rfl) ?_
    refine lv_iconst (v := (0)) hx hb dX7_zone_12 (by decide) ?_
    refine lv_sipush (v := (5000)) hx hb dX7_zone_13 (by decide) ?_
    refine nw_Si (As := [.int (p2), .int (0), .int (5000)]) (rest := []) X (c_X7_in lc G ((p2)) ((0 : Int32)) ((5000 : Int32)) ) (va_cwS 3 hts gX7_zone_X7_in rfl rfl rfl (by decide +kernel) ⟨Nat.le_of_ble_eq_true rfl, Nat.le_of_ble_eq_true rfl⟩) (fun _ _ h => h.2) hP hD hS hA rfl hl.1 rfl (Nat.le_of_ble_eq_true rfl) dX7_zone_16 ⟨Nat.le_of_ble_eq_true rfl, Nat.le_of_ble_eq_true rfl⟩ (fun r H locs hp_4 hP hD hS => ?_)
    obtain ⟨⟨rfl, q_5⟩ | ⟨rfl, q_5⟩, -⟩ := hp_4
    · skip
      have q_5 : ¬ out ((p2)) ((0 : Int32)) ((5000 : Int32)) := q_5
      refine lv_if_ne (tgt := 25) hx hb dX7_zone_19 (by decide) (fun _ => ?_) (fun c9 => absurd c9 (by decide))
      refine lv_aload_n hx hb dX7_zone_25 rfl (lv_at hl 0 rfl) ?_
      refine va_get (D := G.1) (ci := 6) (v := .int (nI (n))) (C := RX7) (T := TX7) (N := 23) hx hb hts in_X7_zone_X7 hown hK.1 hP 0 rfl rfl 0 (by decide) (hts (.fieldLink RX7 62 "NightWaterModel" "zones" "I") (List.mem_of_getElem? (i := 1) rfl)) (fun _ h9 => h9) rfl dX7_zone_26 ?_
      refine lv_bipush (v := (8)) hx hb dX7_zone_29 (by decide) ?_
      refine lv_icmp_ne (tgt := 37) hx hb dX7_zone_31 (by decide) (fun b31_7 => ?_) (fun b31_7 => ?_)
      · skip
        have b31_7 : ¬ ((n) = (8)) := fun h => b31_7 ((nI_eq (a := n) (b := 8) (by omega) (by omega)).mpr h)
        have hl1 : n < 8 := by omega
        have hl2 : ¬ 8 ≤ n := by omega
        refine lv_aload_n hx hb dX7_zone_37 rfl (lv_at hl 0 rfl) ?_
        refine va_get (D := G.1) (ci := 6) (v := .ref (a 1)) (C := RX7) (T := TX7) (N := 23) hx hb hts in_X7_zone_X7 hown hK.1 hP 0 rfl rfl 1 (by decide) (hts (.fieldLink RX7 7 "NightWaterModel" "customers" "[I") (List.mem_of_getElem? (i := 2) rfl)) (fun _ h9 => h9) rfl dX7_zone_38 ?_
        refine lv_aload_n hx hb dX7_zone_41 rfl (lv_at hl 0 rfl) ?_
        refine va_get (D := G.1) (ci := 6) (v := .int (nI (n))) (C := RX7) (T := TX7) (N := 23) hx hb hts in_X7_zone_X7 hown hK.1 hP 0 rfl rfl 0 (by decide) (hts (.fieldLink RX7 62 "NightWaterModel" "zones" "I") (List.mem_of_getElem? (i := 1) rfl)) (fun _ h9 => h9) rfl dX7_zone_42 ?_
        refine lv_iload_n hx hb dX7_zone_45 rfl (lv_at hl 1 rfl) ?_
        refine nw_iast X hP hD hS 1 (n := 8) (f := cu) rfl (n) rfl (by omega) (by decide) dX7_zone_46 (fun H locs hP hD hS => ?_)
        have hP : va_P G.1 vwCl ((wM G (a) (n) (va_up (cu) (n) (p1)) (bg) ((coF M)) ((goF M)) (er) (us) (ll) (lm) (lh) (nv) (fr) (tt) (gr) ((hdF2 ML)) (ns) (w) (cs) (cl) (nd) (lo) (ho) (so))) H := hP
        have hD : va_D vA ((wM G (a) (n) (va_up (cu) (n) (p1)) (bg) ((coF M)) ((goF M)) (er) (us) (ll) (lm) (lh) (nv) (fr) (tt) (gr) ((hdF2 ML)) (ns) (w) (cs) (cl) (nd) (lo) (ho) (so))) := hD
        refine lv_aload_n hx hb dX7_zone_47 rfl (lv_at hl 0 rfl) ?_
        refine va_get (D := G.1) (ci := 6) (v := .ref (a 2)) (C := RX7) (T := TX7) (N := 23) hx hb hts in_X7_zone_X7 hown hK.1 hP 0 rfl rfl 2 (by decide) (hts (.fieldLink RX7 13 "NightWaterModel" "big" "[I") (List.mem_of_getElem? (i := 3) rfl)) (fun _ h9 => h9) rfl dX7_zone_48 ?_
        refine lv_aload_n hx hb dX7_zone_51 rfl (lv_at hl 0 rfl) ?_
        refine va_get (D := G.1) (ci := 6) (v := .int (nI (n))) (C := RX7) (T := TX7) (N := 23) hx hb hts in_X7_zone_X7 hown hK.1 hP 0 rfl rfl 0 (by decide) (hts (.fieldLink RX7 62 "NightWaterModel" "zones" "I") (List.mem_of_getElem? (i := 1) rfl)) (fun _ h9 => h9) rfl dX7_zone_52 ?_
        refine lv_iload_n hx hb dX7_zone_55 rfl (lv_at hl 2 rfl) ?_
        refine nw_iast X hP hD hS 2 (n := 8) (f := bg) rfl (n) rfl (by omega) (by decide) dX7_zone_56 (fun H locs hP hD hS => ?_)
        have hP : va_P G.1 vwCl ((wM G (a) (n) (va_up (cu) (n) (p1)) (va_up (bg) (n) (p2)) ((coF M)) ((goF M)) (er) (us) (ll) (lm) (lh) (nv) (fr) (tt) (gr) ((hdF2 ML)) (ns) (w) (cs) (cl) (nd) (lo) (ho) (so))) H := hP
        have hD : va_D vA ((wM G (a) (n) (va_up (cu) (n) (p1)) (va_up (bg) (n) (p2)) ((coF M)) ((goF M)) (er) (us) (ll) (lm) (lh) (nv) (fr) (tt) (gr) ((hdF2 ML)) (ns) (w) (cs) (cl) (nd) (lo) (ho) (so))) := hD
        refine lv_aload_n hx hb dX7_zone_57 rfl (lv_at hl 0 rfl) ?_
        refine lv_dup hx hb dX7_zone_58 rfl ?_
        refine va_get (D := G.1) (ci := 6) (v := .int (nI (n))) (C := RX7) (T := TX7) (N := 23) hx hb hts in_X7_zone_X7 hown hK.1 hP 0 rfl rfl 0 (by decide) (hts (.fieldLink RX7 62 "NightWaterModel" "zones" "I") (List.mem_of_getElem? (i := 1) rfl)) (fun _ h9 => h9) rfl dX7_zone_59 ?_
        refine lv_iconst (v := (1)) hx hb dX7_zone_62 (by decide) ?_
        refine lv_iadd hx hb dX7_zone_63 ?_
        refine nw_top (y := nI (n + 1)) (nI_add (n) (1)) ?_
        refine va_put (D := G.1) (ci := 6) (v := .int (nI (n + 1))) (ty := .int) (C := RX7) (T := TX7) (N := 23) hx hb hts in_X7_zone_X7 tyX7 tyX7_ok nmX7 hown hK.1 hP hD hS 0 rfl rfl 0 (by decide) (hts (.fieldLink RX7 62 "NightWaterModel" "zones" "I") (List.mem_of_getElem? (i := 1) rfl)) (fun _ h9 => h9) rfl (by decide +kernel) rfl rfl (Nat.le_of_ble_eq_true rfl) dX7_zone_64 (fun H locs hP hD hS => ?_)
        have hP : va_P G.1 vwCl ((wM G (a) (n + 1) (va_up (cu) (n) (p1)) (va_up (bg) (n) (p2)) ((coF M)) ((goF M)) (er) (us) (ll) (lm) (lh) (nv) (fr) (tt) (gr) ((hdF2 ML)) (ns) (w) (cs) (cl) (nd) (lo) (ho) (so))) H := hP
        have hD : va_D vA ((wM G (a) (n + 1) (va_up (cu) (n) (p1)) (va_up (bg) (n) (p2)) ((coF M)) ((goF M)) (er) (us) (ll) (lm) (lh) (nv) (fr) (tt) (gr) ((hdF2 ML)) (ns) (w) (cs) (cl) (nd) (lo) (ho) (so))) := hD
        refine lv_aload_n hx hb dX7_zone_67 rfl (lv_at hl 0 rfl) ?_
        refine va_get (D := G.1) (ci := 6) (v := .int (nI (n + 1))) (C := RX7) (T := TX7) (N := 23) hx hb hts in_X7_zone_X7 hown hK.1 hP 0 rfl rfl 0 (by decide) (hts (.fieldLink RX7 62 "NightWaterModel" "zones" "I") (List.mem_of_getElem? (i := 1) rfl)) (fun _ h9 => h9) rfl dX7_zone_68 ?_
        refine lv_iconst (v := (1)) hx hb dX7_zone_71 (by decide) ?_
        refine lv_isub hx hb dX7_zone_72 ?_
        refine nw_top (y := nI (n + 1 - 1)) (pk_sub (a := n + 1) (b := 1) (by omega)) ?_
        exact nw_iret (rm := ({ frames := 1, cells := 0, slots := 0, locals := 22 } : Room)) X hP hD hS (by simp only [zoneF, zoneOk, nwIf_T, nwIf_F, or_true, true_or, or_false, false_or, and_true, true_and, and_false, false_and, not_true_eq_false, not_false_eq_true, Nat.add_sub_cancel, q_2, q_5, b31_7, hl1, hl2]) dX7_zone_73
      · skip
        have b31_7 : (n) = (8) := (nI_eq (a := n) (b := 8) (by omega) (by omega)).mp b31_7
        have hl1 : ¬ n < 8 := by omega
        have hl2 : 8 ≤ n := by omega
        refine lv_bipush (v := (-4)) hx hb dX7_zone_34 (by decide) ?_
        exact nw_iret (rm := ({ frames := 1, cells := 0, slots := 0, locals := 22 } : Room)) X hP hD hS (by simp only [zoneF, zoneOk, nwIf_T, nwIf_F, or_true, true_or, or_false, false_or, and_true, true_and, and_false, false_and, not_true_eq_false, not_false_eq_true, Nat.add_sub_cancel, q_2, q_5, eq_true b31_7, hl1, hl2]) dX7_zone_36
    · skip
      have q_5 : out ((p2)) ((0 : Int32)) ((5000 : Int32)) := q_5
      refine lv_if_ne (tgt := 25) hx hb dX7_zone_19 (by decide) (fun c9 => absurd c9 (by decide)) (fun _ => ?_)
      refine lv_bipush (v := (-2)) hx hb dX7_zone_22 (by decide) ?_
      exact nw_iret (rm := ({ frames := 1, cells := 0, slots := 0, locals := 22 } : Room)) X hP hD hS (by simp only [zoneF, zoneOk, nwIf_T, nwIf_F, or_true, true_or, or_false, false_or, and_true, true_and, and_false, false_and, not_true_eq_false, not_false_eq_true, Nat.add_sub_cancel, q_2, q_5]) dX7_zone_24
  · skip
    have q_2 : out ((p1)) ((0 : Int32)) ((5000 : Int32)) := q_2
    refine lv_if_eq (tgt := 22) hx hb dX7_zone_8 (by decide) (fun _ => ?_) (fun c9 => absurd (by decide) c9)
    refine lv_bipush (v := (-2)) hx hb dX7_zone_22 (by decide) ?_
    exact nw_iret (rm := ({ frames := 1, cells := 0, slots := 0, locals := 22 } : Room)) X hP hD hS (by simp only [zoneF, zoneOk, nwIf_T, nwIf_F, or_true, true_or, or_false, false_or, and_true, true_and, and_false, false_and, not_true_eq_false, not_false_eq_true, Nat.add_sub_cancel, q_2]) dX7_zone_24
set_option maxHeartbeats 4000000 in
set_option maxRecDepth 100000 in
theorem c_X7_rules (lc : Launch) (G : nwG) (a : Nat → Nat) (n : Nat) (cu bg : Nat → Int32) (M : Nat → Nat → Int32) (er us ll lm lh : Int32) (nv : Nat) (fr tt gr : Nat → Nat) (ML : Nat → Nat → Int32) (ns : Nat) (w : Nat → Nat) (cs cl : Nat → Int32) (nd : Nat) (lo ho : Nat → Int32) (so : Nat → Nat) (p1 p2 : Int32)  : nwCi lc G yX7_rules wsX7_rules ({ frames := 1, cells := 0, slots := 0, locals := 22 } : Room) [.ref (a 0), .int (p1), .int (p2)] ((wM G (a) (n) (cu) (bg) ((coF M)) ((goF M)) (er) (us) (ll) (lm) (lh) (nv) (fr) (tt) (gr) ((hdF2 ML)) (ns) (w) (cs) (cl) (nd) (lo) (ho) (so))) (fun r ww => r = nwIf (rulesOk p1 p2) 1 (-2) ∧ ww = wM G (a) (n) (cu) (bg) ((coF M)) ((goF M)) (nwIf (rulesOk p1 p2) p1 er) (nwIf (rulesOk p1 p2) p2 us) (ll) (lm) (lh) (nv) (fr) (tt) (gr) ((hdF2 ML)) (ns) (w) (cs) (cl) (nd) (lo) (ho) (so)) := by
  refine nw_of (cc := cX7_rules) (maxL := 3) (ret := (some .int)) (by decide) rfl (Nat.le_of_ble_eq_true rfl) ?_
  intro vp ve vs vm vb vt vc vA ls X hP hD hA hS hl
  have X : nwAt vp vm vc cX7_rules 3 vs _ wsX7_rules RX7 vt (some .int) "rules" G := X
  have hx := X.1.1
  have hb := X.1.2.1
  have hown := X.1.2.2.2.1
  have hts := X.1.2.2.2.2
  have hK := X.2.2.2.2
  have hl : lv_has ls 3 [(0, .ref (a 0)), (1, .int (p1)), (2, .int (p2))] := hl
  refine lv_iload_n hx hb dX7_rules_0 rfl (lv_at hl 1 rfl) ?_
  refine lv_iconst (v := (0)) hx hb dX7_rules_1 (by decide) ?_
  refine lv_sipush (v := (200)) hx hb dX7_rules_2 (by decide) ?_
  refine nw_Si (As := [.int (p1), .int (0), .int (200)]) (rest := []) X (c_X7_in lc G ((p1)) ((0 : Int32)) ((200 : Int32)) ) (va_cwS 3 hts gX7_rules_X7_in rfl rfl rfl (by decide +kernel) ⟨Nat.le_of_ble_eq_true rfl, Nat.le_of_ble_eq_true rfl⟩) (fun _ _ h => h.2) hP hD hS hA rfl hl.1 rfl (Nat.le_of_ble_eq_true rfl) dX7_rules_5 ⟨Nat.le_of_ble_eq_true rfl, Nat.le_of_ble_eq_true rfl⟩ (fun r H locs hp_1 hP hD hS => ?_)
  obtain ⟨⟨rfl, q_2⟩ | ⟨rfl, q_2⟩, -⟩ := hp_1
  · skip
    have q_2 : ¬ out ((p1)) ((0 : Int32)) ((200 : Int32)) := q_2
    refine lv_if_eq (tgt := 21) hx hb dX7_rules_8 (by decide) (fun c9 => absurd c9 (by decide)) (fun _ => ?_)
    refine lv_iload_n hx hb dX7_rules_11 rfl (lv_at hl 2 rfl) ?_
    refine lv_iconst (v := (0)) hx hb dX7_rules_12 (by decide) ?_
    refine lv_bipush (v := (20)) hx hb dX7_rules_13 (by decide) ?_
    refine nw_Si (As := [.int (p2), .int (0), .int (20)]) (rest := []) X (c_X7_in lc G ((p2)) ((0 : Int32)) ((20 : Int32)) ) (va_cwS 3 hts gX7_rules_X7_in rfl rfl rfl (by decide +kernel) ⟨Nat.le_of_ble_eq_true rfl, Nat.le_of_ble_eq_true rfl⟩) (fun _ _ h => h.2) hP hD hS hA rfl hl.1 rfl (Nat.le_of_ble_eq_true rfl) dX7_rules_15 ⟨Nat.le_of_ble_eq_true rfl, Nat.le_of_ble_eq_true rfl⟩ (fun r H locs hp_4 hP hD hS => ?_)
    obtain ⟨⟨rfl, q_5⟩ | ⟨rfl, q_5⟩, -⟩ := hp_4
    · skip
      have q_5 : ¬ out ((p2)) ((0 : Int32)) ((20 : Int32)) := q_5
      refine lv_if_ne (tgt := 24) hx hb dX7_rules_18 (by decide) (fun _ => ?_) (fun c9 => absurd c9 (by decide))
      refine lv_aload_n hx hb dX7_rules_24 rfl (lv_at hl 0 rfl) ?_
      refine lv_iload_n hx hb dX7_rules_25 rfl (lv_at hl 1 rfl) ?_
      refine va_put (D := G.1) (ci := 6) (v := .int (p1)) (ty := .int) (C := RX7) (T := TX7) (N := 23) hx hb hts in_X7_rules_X7 tyX7 tyX7_ok nmX7 hown hK.1 hP hD hS 0 rfl rfl 5 (by decide) (hts (.fieldLink RX7 22 "NightWaterModel" "error" "I") (List.mem_of_getElem? (i := 1) rfl)) (fun _ h9 => h9) rfl (by decide +kernel) rfl rfl (Nat.le_of_ble_eq_true rfl) dX7_rules_26 (fun H locs hP hD hS => ?_)
      have hP : va_P G.1 vwCl ((wM G (a) (n) (cu) (bg) ((coF M)) ((goF M)) ((p1)) (us) (ll) (lm) (lh) (nv) (fr) (tt) (gr) ((hdF2 ML)) (ns) (w) (cs) (cl) (nd) (lo) (ho) (so))) H := hP
      have hD : va_D vA ((wM G (a) (n) (cu) (bg) ((coF M)) ((goF M)) ((p1)) (us) (ll) (lm) (lh) (nv) (fr) (tt) (gr) ((hdF2 ML)) (ns) (w) (cs) (cl) (nd) (lo) (ho) (so))) := hD
      refine lv_aload_n hx hb dX7_rules_29 rfl (lv_at hl 0 rfl) ?_
      refine lv_iload_n hx hb dX7_rules_30 rfl (lv_at hl 2 rfl) ?_
      refine va_put (D := G.1) (ci := 6) (v := .int (p2)) (ty := .int) (C := RX7) (T := TX7) (N := 23) hx hb hts in_X7_rules_X7 tyX7 tyX7_ok nmX7 hown hK.1 hP hD hS 0 rfl rfl 6 (by decide) (hts (.fieldLink RX7 26 "NightWaterModel" "use" "I") (List.mem_of_getElem? (i := 2) rfl)) (fun _ h9 => h9) rfl (by decide +kernel) rfl rfl (Nat.le_of_ble_eq_true rfl) dX7_rules_31 (fun H locs hP hD hS => ?_)
      have hP : va_P G.1 vwCl ((wM G (a) (n) (cu) (bg) ((coF M)) ((goF M)) ((p1)) ((p2)) (ll) (lm) (lh) (nv) (fr) (tt) (gr) ((hdF2 ML)) (ns) (w) (cs) (cl) (nd) (lo) (ho) (so))) H := hP
      have hD : va_D vA ((wM G (a) (n) (cu) (bg) ((coF M)) ((goF M)) ((p1)) ((p2)) (ll) (lm) (lh) (nv) (fr) (tt) (gr) ((hdF2 ML)) (ns) (w) (cs) (cl) (nd) (lo) (ho) (so))) := hD
      refine lv_iconst (v := (1)) hx hb dX7_rules_34 (by decide) ?_
      exact nw_iret (rm := ({ frames := 1, cells := 0, slots := 0, locals := 22 } : Room)) X hP hD hS (by simp only [rulesOk, nwIf_T, nwIf_F, or_true, true_or, or_false, false_or, and_true, true_and, and_false, false_and, not_true_eq_false, not_false_eq_true, Nat.add_sub_cancel, q_2, q_5]) dX7_rules_35
    · skip
      have q_5 : out ((p2)) ((0 : Int32)) ((20 : Int32)) := q_5
      refine lv_if_ne (tgt := 24) hx hb dX7_rules_18 (by decide) (fun c9 => absurd c9 (by decide)) (fun _ => ?_)
      refine lv_bipush (v := (-2)) hx hb dX7_rules_21 (by decide) ?_
      exact nw_iret (rm := ({ frames := 1, cells := 0, slots := 0, locals := 22 } : Room)) X hP hD hS (by simp only [rulesOk, nwIf_T, nwIf_F, or_true, true_or, or_false, false_or, and_true, true_and, and_false, false_and, not_true_eq_false, not_false_eq_true, Nat.add_sub_cancel, q_2, q_5]) dX7_rules_23
  · skip
    have q_2 : out ((p1)) ((0 : Int32)) ((200 : Int32)) := q_2
    refine lv_if_eq (tgt := 21) hx hb dX7_rules_8 (by decide) (fun _ => ?_) (fun c9 => absurd (by decide) c9)
    refine lv_bipush (v := (-2)) hx hb dX7_rules_21 (by decide) ?_
    exact nw_iret (rm := ({ frames := 1, cells := 0, slots := 0, locals := 22 } : Room)) X hP hD hS (by simp only [rulesOk, nwIf_T, nwIf_F, or_true, true_or, or_false, false_or, and_true, true_and, and_false, false_and, not_true_eq_false, not_false_eq_true, Nat.add_sub_cancel, q_2]) dX7_rules_23
set_option maxHeartbeats 4000000 in
set_option maxRecDepth 100000 in
theorem c_X7_read (lc : Launch) (G : nwG) (a : Nat → Nat) (n : Nat) (cu bg : Nat → Int32) (M : Nat → Nat → Int32) (er us ll lm lh : Int32) (nv : Nat) (fr tt gr : Nat → Nat) (ML : Nat → Nat → Int32) (ns : Nat) (w : Nat → Nat) (cs cl : Nat → Int32) (nd : Nat) (lo ho : Nat → Int32) (so : Nat → Nat) (p1 p2 p3 p4 : Int32) (hn : n ≤ 8) : nwCi lc G yX7_read wsX7_read ({ frames := 2, cells := 0, slots := 0, locals := 43 } : Room) [.ref (a 0), .int (p1), .int (p2), .int (p3), .int (p4)] ((wM G (a) (n) (cu) (bg) ((coF M)) ((goF M)) (er) (us) (ll) (lm) (lh) (nv) (fr) (tt) (gr) ((hdF2 ML)) (ns) (w) (cs) (cl) (nd) (lo) (ho) (so))) (fun r ww => r = nwIf (readOk n p1 p2 p4) (M (readRow p1 p3) p2.toNatClampNeg) (-2) ∧ ww = wM G (a) (n) (cu) (bg) ((coF (nwIf (readOk n p1 p2 p4) (nwU2 M (readRow p1 p3) p2.toNatClampNeg p4) M))) ((goF (nwIf (readOk n p1 p2 p4) (nwU2 M (readRow p1 p3) p2.toNatClampNeg p4) M))) (er) (us) (ll) (lm) (lh) (nv) (fr) (tt) (gr) ((hdF2 ML)) (ns) (w) (cs) (cl) (nd) (lo) (ho) (so)) := by
  refine nw_of (cc := cX7_read) (maxL := 7) (ret := (some .int)) (by decide) rfl (Nat.le_of_ble_eq_true rfl) ?_
  intro vp ve vs vm vb vt vc vA ls X hP hD hA hS hl
  have X : nwAt vp vm vc cX7_read 7 vs _ wsX7_read RX7 vt (some .int) "read" G := X
  have hx := X.1.1
  have hb := X.1.2.1
  have hown := X.1.2.2.2.1
  have hts := X.1.2.2.2.2
  have hK := X.2.2.2.2
  have hl : lv_has ls 7 [(0, .ref (a 0)), (1, .int (p1)), (2, .int (p2)), (3, .int (p3)), (4, .int (p4))] := hl
  refine lv_aload_n hx hb dX7_read_0 rfl (lv_at hl 0 rfl) ?_
  refine lv_iload_n hx hb dX7_read_1 rfl (lv_at hl 1 rfl) ?_
  refine nw_Vi (As := [.int (p1)]) (rest := []) (q0 := 0) X (c_X7_isZone lc G (a) (n) (cu) (bg) (M) (er) (us) (ll) (lm) (lh) (nv) (fr) (tt) (gr) (ML) (ns) (w) (cs) (cl) (nd) (lo) (ho) (so) ((p1)) ) (cwV 1 hts gX7_read_X7_isZone rfl rfl rfl (by decide +kernel) ⟨Nat.le_of_ble_eq_true rfl, Nat.le_of_ble_eq_true rfl⟩) rfl (show vwCl[6]? = some (RX7, TX7, 23) from rfl) (nwSp.all ((wM G (a) (n) (cu) (bg) ((coF M)) ((goF M)) (er) (us) (ll) (lm) (lh) (nv) (fr) (tt) (gr) ((hdF2 ML)) (ns) (w) (cs) (cl) (nd) (lo) (ho) (so)))) hP hD hS hA rfl hl.1 rfl (Nat.le_of_ble_eq_true rfl) dX7_read_2 ⟨Nat.le_of_ble_eq_true rfl, Nat.le_of_ble_eq_true rfl⟩ (fun r w H locs hp_1 hP hD hS => ?_)
  obtain ⟨⟨rfl, q_2⟩ | ⟨rfl, q_2⟩, rfl⟩ := hp_1
  · skip
    have hP : va_P G.1 vwCl ((wM G (a) (n) (cu) (bg) ((coF M)) ((goF M)) (er) (us) (ll) (lm) (lh) (nv) (fr) (tt) (gr) ((hdF2 ML)) (ns) (w) (cs) (cl) (nd) (lo) (ho) (so))) H := hP
    have hD : va_D vA ((wM G (a) (n) (cu) (bg) ((coF M)) ((goF M)) (er) (us) (ll) (lm) (lh) (nv) (fr) (tt) (gr) ((hdF2 ML)) (ns) (w) (cs) (cl) (nd) (lo) (ho) (so))) := hD
    have q_2 : ¬ out ((p1)) 0 (nI (n) - 1) := q_2
    obtain ⟨z_3, hz_4, he_5⟩ := nw_lt (n := n) (by omega) q_2
    have ec_6 := nw_clamp he_5 (by omega)
    refine lv_if_eq (tgt := 30) hx hb dX7_read_5 (by decide) (fun c9 => absurd c9 (by decide)) (fun _ => ?_)
    refine lv_iload_n hx hb dX7_read_8 rfl (lv_at hl 2 rfl) ?_
    refine lv_iconst (v := (0)) hx hb dX7_read_9 (by decide) ?_
    refine lv_bipush (v := (23)) hx hb dX7_read_10 (by decide) ?_
    refine nw_Si (As := [.int (p2), .int (0), .int (23)]) (rest := []) X (c_X7_in lc G ((p2)) ((0 : Int32)) ((23 : Int32)) ) (va_cwS 3 hts gX7_read_X7_in rfl rfl rfl (by decide +kernel) ⟨Nat.le_of_ble_eq_true rfl, Nat.le_of_ble_eq_true rfl⟩) (fun _ _ h => h.2) hP hD hS hA rfl hl.1 rfl (Nat.le_of_ble_eq_true rfl) dX7_read_12 ⟨Nat.le_of_ble_eq_true rfl, Nat.le_of_ble_eq_true rfl⟩ (fun r H locs hp_8 hP hD hS => ?_)
    obtain ⟨⟨rfl, q_9⟩ | ⟨rfl, q_9⟩, -⟩ := hp_8
    · skip
      have q_9 : ¬ out ((p2)) ((0 : Int32)) ((23 : Int32)) := q_9
      obtain ⟨z_10, hz_11, he_12⟩ := nw_le (n := 23) rfl (by decide) q_9
      have ec_13 := nw_clamp he_12 (by omega)
      refine lv_if_eq (tgt := 30) hx hb dX7_read_15 (by decide) (fun c9 => absurd c9 (by decide)) (fun _ => ?_)
      refine lv_iload hx hb dX7_read_18 (lv_at hl 4 rfl) ?_
      refine lv_iconst (v := (-1)) hx hb dX7_read_20 (by decide) ?_
      refine lv_sipush (v := (20000)) hx hb dX7_read_21 (by decide) ?_
      refine nw_Si (As := [.int (p4), .int (-1), .int (20000)]) (rest := []) X (c_X7_in lc G ((p4)) ((-1 : Int32)) ((20000 : Int32)) ) (va_cwS 3 hts gX7_read_X7_in rfl rfl rfl (by decide +kernel) ⟨Nat.le_of_ble_eq_true rfl, Nat.le_of_ble_eq_true rfl⟩) (fun _ _ h => h.2) hP hD hS hA rfl hl.1 rfl (Nat.le_of_ble_eq_true rfl) dX7_read_24 ⟨Nat.le_of_ble_eq_true rfl, Nat.le_of_ble_eq_true rfl⟩ (fun r H locs hp_15 hP hD hS => ?_)
      obtain ⟨⟨rfl, q_16⟩ | ⟨rfl, q_16⟩, -⟩ := hp_15
      · skip
        have q_16 : ¬ out ((p4)) ((-1 : Int32)) ((20000 : Int32)) := q_16
        refine lv_if_ne (tgt := 33) hx hb dX7_read_27 (by decide) (fun _ => ?_) (fun c9 => absurd c9 (by decide))
        refine lv_bipush (v := (24)) hx hb dX7_read_33 (by decide) ?_
        refine lv_iload_n hx hb dX7_read_35 rfl (lv_at hl 1 rfl) ?_
        refine lv_imul hx hb dX7_read_36 ?_
        refine nw_top (y := nI (24 * z_3)) (by rw [he_5]; exact pk_mul (24) (z_3)) ?_
        refine lv_iload_n hx hb dX7_read_37 rfl (lv_at hl 2 rfl) ?_
        refine lv_iadd hx hb dX7_read_38 ?_
        refine nw_top (y := nI ((24 * z_3) + z_10)) (by rw [he_12]; exact nI_add (24 * z_3) (z_10)) ?_
        refine lv_istore (lv' := [(5, .int (nI ((24 * z_3) + z_10))), (0, .ref (a 0)), (1, .int (p1)), (2, .int (p2)), (3, .int (p3)), (4, .int (p4))]) hx hb dX7_read_39 hl (by decide) rfl (fun ls hl => ?_)
        refine lv_iload_n hx hb dX7_read_41 rfl (lv_at hl 4 rfl) ?_
        refine lv_if_eq (tgt := 55) hx hb dX7_read_42 (by decide) (fun b42_18 => ?_) (fun b42_18 => ?_)
        · skip
          have b42_18 : (p3) = (0 : Int32) := b42_18
          refine lv_aload_n hx hb dX7_read_55 rfl (lv_at hl 1 rfl) ?_
          refine va_get (D := G.1) (ci := 6) (v := .ref (a 4)) (C := RX7) (T := TX7) (N := 23) hx hb hts in_X7_read_X7 hown hK.1 hP 0 rfl rfl 4 (by decide) (hts (.fieldLink RX7 19 "NightWaterModel" "goes" "[I") (List.mem_of_getElem? (i := 2) rfl)) (fun _ h9 => h9) rfl dX7_read_56 ?_
          refine lv_iload hx hb dX7_read_59 (lv_at hl 0 rfl) ?_
          refine nw_iald X hP 4 (n := 192) (f := ((goF M))) rfl ((24 * z_3) + z_10) rfl (by omega) (by decide) dX7_read_61 ?_
          refine nw_top (y := M (8 + z_3) z_10) (goF_at (by omega) (by omega)) ?_
          refine lv_istore (lv' := [(6, .int (M (8 + z_3) z_10)), (5, .int (nI ((24 * z_3) + z_10))), (0, .ref (a 0)), (1, .int (p1)), (2, .int (p2)), (3, .int (p3)), (4, .int (p4))]) hx hb dX7_read_62 hl (by decide) rfl (fun ls hl => ?_)
          refine lv_iload_n hx hb dX7_read_64 rfl (lv_at hl 5 rfl) ?_
          refine lv_if_eq (tgt := 80) hx hb dX7_read_65 (by decide) (fun b65_19 => ?_) (fun b65_19 => ?_)
          · skip
            have b65_19 : (p3) = (0 : Int32) := b65_19
            refine lv_aload_n hx hb dX7_read_80 rfl (lv_at hl 2 rfl) ?_
            refine va_get (D := G.1) (ci := 6) (v := .ref (a 4)) (C := RX7) (T := TX7) (N := 23) hx hb hts in_X7_read_X7 hown hK.1 hP 0 rfl rfl 4 (by decide) (hts (.fieldLink RX7 19 "NightWaterModel" "goes" "[I") (List.mem_of_getElem? (i := 2) rfl)) (fun _ h9 => h9) rfl dX7_read_81 ?_
            refine lv_iload hx hb dX7_read_84 (lv_at hl 1 rfl) ?_
            refine lv_iload hx hb dX7_read_86 (lv_at hl 6 rfl) ?_
            refine nw_iast X hP hD hS 4 (n := 192) (f := (goF M)) rfl ((24 * z_3) + z_10) rfl (by omega) (by decide) dX7_read_88 (fun H locs hP hD hS => ?_)
            have hP : va_P G.1 vwCl ((wM G (a) (n) (cu) (bg) ((coF M)) (va_up ((goF M)) ((24 * z_3) + z_10) (p4)) (er) (us) (ll) (lm) (lh) (nv) (fr) (tt) (gr) ((hdF2 ML)) (ns) (w) (cs) (cl) (nd) (lo) (ho) (so))) H := hP
            have hD : va_D vA ((wM G (a) (n) (cu) (bg) ((coF M)) (va_up ((goF M)) ((24 * z_3) + z_10) (p4)) (er) (us) (ll) (lm) (lh) (nv) (fr) (tt) (gr) ((hdF2 ML)) (ns) (w) (cs) (cl) (nd) (lo) (ho) (so))) := hD
            refine lv_iload hx hb dX7_read_89 (lv_at hl 0 rfl) ?_
            exact nw_iret (rm := ({ frames := 2, cells := 0, slots := 0, locals := 43 } : Room)) X hP hD hS (⟨by simp only [readOk, readRow, nwIf_T, nwIf_F, or_true, true_or, or_false, false_or, and_true, true_and, and_false, false_and, not_true_eq_false, not_false_eq_true, Nat.add_sub_cancel, q_2, ec_6, q_9, ec_13, q_16, eq_true b42_18, eq_true b65_19], by simp only [readOk, readRow, nwIf_T, nwIf_F, or_true, true_or, or_false, false_or, and_true, true_and, and_false, false_and, not_true_eq_false, not_false_eq_true, Nat.add_sub_cancel, q_2, ec_6, q_9, ec_13, q_16, eq_true b42_18, eq_true b65_19]; rw [(goF_up (M := M) (v := p4) (z := z_3) (h := z_10) (by omega) (by omega)).1, (goF_up (M := M) (v := p4) (z := z_3) (h := z_10) (by omega) (by omega)).2]⟩) dX7_read_91
          · skip
            have b65_19 : ¬ ((p3) = (0 : Int32)) := b65_19
            exact absurd b42_18 b65_19
        · skip
          have b42_18 : ¬ ((p3) = (0 : Int32)) := b42_18
          refine lv_aload_n hx hb dX7_read_45 rfl (lv_at hl 1 rfl) ?_
          refine va_get (D := G.1) (ci := 6) (v := .ref (a 3)) (C := RX7) (T := TX7) (N := 23) hx hb hts in_X7_read_X7 hown hK.1 hP 0 rfl rfl 3 (by decide) (hts (.fieldLink RX7 16 "NightWaterModel" "comes" "[I") (List.mem_of_getElem? (i := 1) rfl)) (fun _ h9 => h9) rfl dX7_read_46 ?_
          refine lv_iload hx hb dX7_read_49 (lv_at hl 0 rfl) ?_
          refine nw_iald X hP 3 (n := 192) (f := ((coF M))) rfl ((24 * z_3) + z_10) rfl (by omega) (by decide) dX7_read_51 ?_
          refine nw_top (y := M z_3 z_10) (coF_at (by omega) (by omega)) ?_
          refine lv_goto (tgt := 62) hx hb dX7_read_52 (by decide) ?_
          refine lv_istore (lv' := [(6, .int (M z_3 z_10)), (5, .int (nI ((24 * z_3) + z_10))), (0, .ref (a 0)), (1, .int (p1)), (2, .int (p2)), (3, .int (p3)), (4, .int (p4))]) hx hb dX7_read_62 hl (by decide) rfl (fun ls hl => ?_)
          refine lv_iload_n hx hb dX7_read_64 rfl (lv_at hl 5 rfl) ?_
          refine lv_if_eq (tgt := 80) hx hb dX7_read_65 (by decide) (fun b65_20 => ?_) (fun b65_20 => ?_)
          · skip
            have b65_20 : (p3) = (0 : Int32) := b65_20
            exact absurd b65_20 b42_18
          · skip
            have b65_20 : ¬ ((p3) = (0 : Int32)) := b65_20
            refine lv_aload_n hx hb dX7_read_68 rfl (lv_at hl 2 rfl) ?_
            refine va_get (D := G.1) (ci := 6) (v := .ref (a 3)) (C := RX7) (T := TX7) (N := 23) hx hb hts in_X7_read_X7 hown hK.1 hP 0 rfl rfl 3 (by decide) (hts (.fieldLink RX7 16 "NightWaterModel" "comes" "[I") (List.mem_of_getElem? (i := 1) rfl)) (fun _ h9 => h9) rfl dX7_read_69 ?_
            refine lv_iload hx hb dX7_read_72 (lv_at hl 1 rfl) ?_
            refine lv_iload hx hb dX7_read_74 (lv_at hl 6 rfl) ?_
            refine nw_iast X hP hD hS 3 (n := 192) (f := (coF M)) rfl ((24 * z_3) + z_10) rfl (by omega) (by decide) dX7_read_76 (fun H locs hP hD hS => ?_)
            have hP : va_P G.1 vwCl ((wM G (a) (n) (cu) (bg) (va_up ((coF M)) ((24 * z_3) + z_10) (p4)) ((goF M)) (er) (us) (ll) (lm) (lh) (nv) (fr) (tt) (gr) ((hdF2 ML)) (ns) (w) (cs) (cl) (nd) (lo) (ho) (so))) H := hP
            have hD : va_D vA ((wM G (a) (n) (cu) (bg) (va_up ((coF M)) ((24 * z_3) + z_10) (p4)) ((goF M)) (er) (us) (ll) (lm) (lh) (nv) (fr) (tt) (gr) ((hdF2 ML)) (ns) (w) (cs) (cl) (nd) (lo) (ho) (so))) := hD
            refine lv_goto (tgt := 89) hx hb dX7_read_77 (by decide) ?_
            refine lv_iload hx hb dX7_read_89 (lv_at hl 0 rfl) ?_
            exact nw_iret (rm := ({ frames := 2, cells := 0, slots := 0, locals := 43 } : Room)) X hP hD hS (⟨by simp only [readOk, readRow, nwIf_T, nwIf_F, or_true, true_or, or_false, false_or, and_true, true_and, and_false, false_and, not_true_eq_false, not_false_eq_true, Nat.add_sub_cancel, q_2, ec_6, q_9, ec_13, q_16, b42_18, b65_20], by simp only [readOk, readRow, nwIf_T, nwIf_F, or_true, true_or, or_false, false_or, and_true, true_and, and_false, false_and, not_true_eq_false, not_false_eq_true, Nat.add_sub_cancel, q_2, ec_6, q_9, ec_13, q_16, b42_18, b65_20]; rw [(coF_up (M := M) (v := p4) (z := z_3) (h := z_10) (by omega) (by omega)).1, (coF_up (M := M) (v := p4) (z := z_3) (h := z_10) (by omega) (by omega)).2]⟩) dX7_read_91
      · skip
        have q_16 : out ((p4)) ((-1 : Int32)) ((20000 : Int32)) := q_16
        refine lv_if_ne (tgt := 33) hx hb dX7_read_27 (by decide) (fun c9 => absurd c9 (by decide)) (fun _ => ?_)
        refine lv_bipush (v := (-2)) hx hb dX7_read_30 (by decide) ?_
        exact nw_iret (rm := ({ frames := 2, cells := 0, slots := 0, locals := 43 } : Room)) X hP hD hS (⟨by simp only [readOk, readRow, nwIf_T, nwIf_F, or_true, true_or, or_false, false_or, and_true, true_and, and_false, false_and, not_true_eq_false, not_false_eq_true, Nat.add_sub_cancel, q_2, ec_6, q_9, ec_13, q_16], by simp only [readOk, readRow, nwIf_T, nwIf_F, or_true, true_or, or_false, false_or, and_true, true_and, and_false, false_and, not_true_eq_false, not_false_eq_true, Nat.add_sub_cancel, q_2, ec_6, q_9, ec_13, q_16]⟩) dX7_read_32
    · skip
      have q_9 : out ((p2)) ((0 : Int32)) ((23 : Int32)) := q_9
      refine lv_if_eq (tgt := 30) hx hb dX7_read_15 (by decide) (fun _ => ?_) (fun c9 => absurd (by decide) c9)
      refine lv_bipush (v := (-2)) hx hb dX7_read_30 (by decide) ?_
      exact nw_iret (rm := ({ frames := 2, cells := 0, slots := 0, locals := 43 } : Room)) X hP hD hS (⟨by simp only [readOk, readRow, nwIf_T, nwIf_F, or_true, true_or, or_false, false_or, and_true, true_and, and_false, false_and, not_true_eq_false, not_false_eq_true, Nat.add_sub_cancel, q_2, ec_6, q_9], by simp only [readOk, readRow, nwIf_T, nwIf_F, or_true, true_or, or_false, false_or, and_true, true_and, and_false, false_and, not_true_eq_false, not_false_eq_true, Nat.add_sub_cancel, q_2, ec_6, q_9]⟩) dX7_read_32
  · skip
    have hP : va_P G.1 vwCl ((wM G (a) (n) (cu) (bg) ((coF M)) ((goF M)) (er) (us) (ll) (lm) (lh) (nv) (fr) (tt) (gr) ((hdF2 ML)) (ns) (w) (cs) (cl) (nd) (lo) (ho) (so))) H := hP
    have hD : va_D vA ((wM G (a) (n) (cu) (bg) ((coF M)) ((goF M)) (er) (us) (ll) (lm) (lh) (nv) (fr) (tt) (gr) ((hdF2 ML)) (ns) (w) (cs) (cl) (nd) (lo) (ho) (so))) := hD
    have q_2 : out ((p1)) 0 (nI (n) - 1) := q_2
    refine lv_if_eq (tgt := 30) hx hb dX7_read_5 (by decide) (fun _ => ?_) (fun c9 => absurd (by decide) c9)
    refine lv_bipush (v := (-2)) hx hb dX7_read_30 (by decide) ?_
    exact nw_iret (rm := ({ frames := 2, cells := 0, slots := 0, locals := 43 } : Room)) X hP hD hS (⟨by simp only [readOk, readRow, nwIf_T, nwIf_F, or_true, true_or, or_false, false_or, and_true, true_and, and_false, false_and, not_true_eq_false, not_false_eq_true, Nat.add_sub_cancel, q_2], by simp only [readOk, readRow, nwIf_T, nwIf_F, or_true, true_or, or_false, false_or, and_true, true_and, and_false, false_and, not_true_eq_false, not_false_eq_true, Nat.add_sub_cancel, q_2]⟩) dX7_read_32
set_option maxHeartbeats 4000000 in
set_option maxRecDepth 100000 in
theorem c_X7_least (lc : Launch) (G : nwG) (a : Nat → Nat) (n : Nat) (cu bg : Nat → Int32) (M : Nat → Nat → Int32) (er us ll lm lh : Int32) (nv : Nat) (fr tt gr : Nat → Nat) (ML : Nat → Nat → Int32) (ns : Nat) (w : Nat → Nat) (cs cl : Nat → Int32) (nd : Nat) (lo ho : Nat → Int32) (so : Nat → Nat) (v : Int32)  : nwCi lc G yX7_least wsX7_least ({ frames := 0, cells := 0, slots := 0, locals := 0 } : Room) [.ref (a 0), .int (v)] ((wM G (a) (n) (cu) (bg) ((coF M)) ((goF M)) (er) (us) (ll) (lm) (lh) (nv) (fr) (tt) (gr) ((hdF2 ML)) (ns) (w) (cs) (cl) (nd) (lo) (ho) (so))) (fun r ww => r = lstF er v ∧ ww = wM G (a) (n) (cu) (bg) ((coF M)) ((goF M)) (er) (us) (ll) (lm) (lh) (nv) (fr) (tt) (gr) ((hdF2 ML)) (ns) (w) (cs) (cl) (nd) (lo) (ho) (so)) := by
  refine nw_of (cc := cX7_least) (maxL := 2) (ret := (some .int)) (by decide) rfl (Nat.le_of_ble_eq_true rfl) ?_
  intro vp ve vs vm vb vt vc vA ls X hP hD hA hS hl
  have X : nwAt vp vm vc cX7_least 2 vs _ wsX7_least RX7 vt (some .int) "least" G := X
  have hx := X.1.1
  have hb := X.1.2.1
  have hown := X.1.2.2.2.1
  have hts := X.1.2.2.2.2
  have hK := X.2.2.2.2
  have hl : lv_has ls 2 [(0, .ref (a 0)), (1, .int (v))] := hl
  refine lv_iload_n hx hb dX7_least_0 rfl (lv_at hl 1 rfl) ?_
  refine lv_sipush (v := (1000)) hx hb dX7_least_1 (by decide) ?_
  refine lv_aload_n hx hb dX7_least_4 rfl (lv_at hl 0 rfl) ?_
  refine va_get (D := G.1) (ci := 6) (v := .int (er)) (C := RX7) (T := TX7) (N := 23) hx hb hts in_X7_least_X7 hown hK.1 hP 0 rfl rfl 5 (by decide) (hts (.fieldLink RX7 22 "NightWaterModel" "error" "I") (List.mem_of_getElem? (i := 1) rfl)) (fun _ h9 => h9) rfl dX7_least_5 ?_
  refine lv_isub hx hb dX7_least_8 ?_
  refine lv_imul hx hb dX7_least_9 ?_
  refine lv_sipush (v := (1000)) hx hb dX7_least_10 (by decide) ?_
  refine lv_idiv hx hb dX7_least_13 (by decide) ?_
  exact nw_iret (rm := ({ frames := 0, cells := 0, slots := 0, locals := 0 } : Room)) X hP hD hS (⟨rfl, rfl⟩) dX7_least_14
set_option maxHeartbeats 4000000 in
set_option maxRecDepth 100000 in
theorem c_X7_greatest (lc : Launch) (G : nwG) (a : Nat → Nat) (n : Nat) (cu bg : Nat → Int32) (M : Nat → Nat → Int32) (er us ll lm lh : Int32) (nv : Nat) (fr tt gr : Nat → Nat) (ML : Nat → Nat → Int32) (ns : Nat) (w : Nat → Nat) (cs cl : Nat → Int32) (nd : Nat) (lo ho : Nat → Int32) (so : Nat → Nat) (v : Int32)  : nwCi lc G yX7_greatest wsX7_greatest ({ frames := 0, cells := 0, slots := 0, locals := 0 } : Room) [.ref (a 0), .int (v)] ((wM G (a) (n) (cu) (bg) ((coF M)) ((goF M)) (er) (us) (ll) (lm) (lh) (nv) (fr) (tt) (gr) ((hdF2 ML)) (ns) (w) (cs) (cl) (nd) (lo) (ho) (so))) (fun r ww => r = grtF er v ∧ ww = wM G (a) (n) (cu) (bg) ((coF M)) ((goF M)) (er) (us) (ll) (lm) (lh) (nv) (fr) (tt) (gr) ((hdF2 ML)) (ns) (w) (cs) (cl) (nd) (lo) (ho) (so)) := by
  refine nw_of (cc := cX7_greatest) (maxL := 2) (ret := (some .int)) (by decide) rfl (Nat.le_of_ble_eq_true rfl) ?_
  intro vp ve vs vm vb vt vc vA ls X hP hD hA hS hl
  have X : nwAt vp vm vc cX7_greatest 2 vs _ wsX7_greatest RX7 vt (some .int) "greatest" G := X
  have hx := X.1.1
  have hb := X.1.2.1
  have hown := X.1.2.2.2.1
  have hts := X.1.2.2.2.2
  have hK := X.2.2.2.2
  have hl : lv_has ls 2 [(0, .ref (a 0)), (1, .int (v))] := hl
  refine lv_iload_n hx hb dX7_greatest_0 rfl (lv_at hl 1 rfl) ?_
  refine lv_sipush (v := (1000)) hx hb dX7_greatest_1 (by decide) ?_
  refine lv_aload_n hx hb dX7_greatest_4 rfl (lv_at hl 0 rfl) ?_
  refine va_get (D := G.1) (ci := 6) (v := .int (er)) (C := RX7) (T := TX7) (N := 23) hx hb hts in_X7_greatest_X7 hown hK.1 hP 0 rfl rfl 5 (by decide) (hts (.fieldLink RX7 22 "NightWaterModel" "error" "I") (List.mem_of_getElem? (i := 1) rfl)) (fun _ h9 => h9) rfl dX7_greatest_5 ?_
  refine lv_iadd hx hb dX7_greatest_8 ?_
  refine lv_imul hx hb dX7_greatest_9 ?_
  refine lv_sipush (v := (999)) hx hb dX7_greatest_10 (by decide) ?_
  refine lv_iadd hx hb dX7_greatest_13 ?_
  refine lv_sipush (v := (1000)) hx hb dX7_greatest_14 (by decide) ?_
  refine lv_idiv hx hb dX7_greatest_17 (by decide) ?_
  exact nw_iret (rm := ({ frames := 0, cells := 0, slots := 0, locals := 0 } : Room)) X hP hD hS (⟨rfl, rfl⟩) dX7_greatest_18
set_option maxHeartbeats 4000000 in
set_option maxRecDepth 100000 in
theorem c_X7_findLow (lc : Launch) (G : nwG) (a : Nat → Nat) (n : Nat) (cu bg : Nat → Int32) (M : Nat → Nat → Int32) (er us ll lm lh : Int32) (nv : Nat) (fr tt gr : Nat → Nat) (ML : Nat → Nat → Int32) (ns : Nat) (w : Nat → Nat) (cs cl : Nat → Int32) (nd : Nat) (lo ho : Nat → Int32) (so : Nat → Nat) (z : Nat) (hz : z < 8) : nwCi lc G yX7_findLow wsX7_findLow ({ frames := 1, cells := 0, slots := 0, locals := 21 } : Room) [.ref (a 0), .int (nI (z))] ((wM G (a) (n) (cu) (bg) ((coF M)) ((goF M)) (er) (us) (ll) (lm) (lh) (nv) (fr) (tt) (gr) ((hdF2 ML)) (ns) (w) (cs) (cl) (nd) (lo) (ho) (so))) (fun r ww => ∃ llv lmv : Int32, ((r = 1 ∧ ¬ (lowF er (M z) (M (8 + z)) 4).1 = -1) ∨ (r = 0 ∧ (lowF er (M z) (M (8 + z)) 4).1 = -1)) ∧ (¬ (lowF er (M z) (M (8 + z)) 4).1 = -1 → lmv = (lowF er (M z) (M (8 + z)) 4).2.1 ∧ llv = (lowF er (M z) (M (8 + z)) 4).2.2) ∧ ww = wM G (a) (n) (cu) (bg) ((coF M)) ((goF M)) (er) (us) (llv) (lmv) ((lowF er (M z) (M (8 + z)) 4).1) (nv) (fr) (tt) (gr) ((hdF2 ML)) (ns) (w) (cs) (cl) (nd) (lo) (ho) (so)) := by
  refine nw_of (cc := cX7_findLow) (maxL := 6) (ret := (some .boolean)) (by decide) rfl (Nat.le_of_ble_eq_true rfl) ?_
  intro vp ve vs vm vb vt vc vA ls X hP hD hA hS hl
  have X : nwAt vp vm vc cX7_findLow 6 vs _ wsX7_findLow RX7 vt (some .boolean) "findLow" G := X
  have hx := X.1.1
  have hb := X.1.2.1
  have hown := X.1.2.2.2.1
  have hts := X.1.2.2.2.2
  have hK := X.2.2.2.2
  have hl : lv_has ls 6 [(0, .ref (a 0)), (1, .int (nI (z)))] := hl
  refine lv_aload_n hx hb dX7_findLow_0 rfl (lv_at hl 0 rfl) ?_
  refine lv_iconst (v := (-1)) hx hb dX7_findLow_1 (by decide) ?_
  refine va_put (D := G.1) (ci := 6) (v := .int (-1)) (ty := .int) (C := RX7) (T := TX7) (N := 23) hx hb hts in_X7_findLow_X7 tyX7 tyX7_ok nmX7 hown hK.1 hP hD hS 0 rfl rfl 9 (by decide) (hts (.fieldLink RX7 73 "NightWaterModel" "lowHour" "I") (List.mem_of_getElem? (i := 1) rfl)) (fun _ h9 => h9) rfl (by decide +kernel) rfl rfl (Nat.le_of_ble_eq_true rfl) dX7_findLow_2 (fun H locs hP hD hS => ?_)
  have hP : va_P G.1 vwCl ((wM G (a) (n) (cu) (bg) ((coF M)) ((goF M)) (er) (us) (ll) (lm) ((-1 : Int32)) (nv) (fr) (tt) (gr) ((hdF2 ML)) (ns) (w) (cs) (cl) (nd) (lo) (ho) (so))) H := hP
  have hD : va_D vA ((wM G (a) (n) (cu) (bg) ((coF M)) ((goF M)) (er) (us) (ll) (lm) ((-1 : Int32)) (nv) (fr) (tt) (gr) ((hdF2 ML)) (ns) (w) (cs) (cl) (nd) (lo) (ho) (so))) := hD
  refine lv_iconst (v := (1)) hx hb dX7_findLow_5 (by decide) ?_
  refine lv_istore_n (lv' := [(2, .int (1)), (0, .ref (a 0)), (1, .int (nI (z)))]) hx hb dX7_findLow_6 rfl hl (by decide) rfl (fun ls hl => ?_)
  have K7 : ∀ (fuel : Nat) (k : Nat) (x7 : Int32) (x8 : Int32) (x9 : Int32) (H : Heap) (locs : List Loc) (ls : Array Slot), (5 - k) < fuel → (k ≤ 4) → (x9 = (lowF er (M z) (M (8 + z)) k).1) → (¬ (lowF er (M z) (M (8 + z)) k).1 = -1 → x8 = (lowF er (M z) (M (8 + z)) k).2.1 ∧ x7 = (lowF er (M z) (M (8 + z)) k).2.2) → lv_has ls 6 [(2, .int (nI (k + 1))), (0, .ref (a 0)), (1, .int (nI (z)))] → va_P G.1 vwCl ((wM G (a) (n) (cu) (bg) ((coF M)) ((goF M)) (er) (us) (x7) (x8) (x9) (nv) (fr) (tt) (gr) ((hdF2 ML)) (ns) (w) (cs) (cl) (nd) (lo) (ho) (so))) H → va_D vA ((wM G (a) (n) (cu) (bg) ((coF M)) ((goF M)) (er) (us) (x7) (x8) (x9) (nv) (fr) (tt) (gr) ((hdF2 ML)) (ns) (w) (cs) (cl) (nd) (lo) (ho) (so))) → va_S vA vs.heap H locs → W vp lc ve ({ frames := 1, cells := 0, slots := 0, locals := 21 } : Room) vs vm ([.ref (a 0), .int (nI (z))] : List Value).toArray vb vt vc H locs 0 0 (MQ vb (nwQi G (fun r ww => ∃ llv lmv : Int32, ((r = 1 ∧ ¬ (lowF er (M z) (M (8 + z)) 4).1 = -1) ∨ (r = 0 ∧ (lowF er (M z) (M (8 + z)) 4).1 = -1)) ∧ (¬ (lowF er (M z) (M (8 + z)) 4).1 = -1 → lmv = (lowF er (M z) (M (8 + z)) 4).2.1 ∧ llv = (lowF er (M z) (M (8 + z)) 4).2.2) ∧ ww = wM G (a) (n) (cu) (bg) ((coF M)) ((goF M)) (er) (us) (llv) (lmv) ((lowF er (M z) (M (8 + z)) 4).1) (nv) (fr) (tt) (gr) ((hdF2 ML)) (ns) (w) (cs) (cl) (nd) (lo) (ho) (so)) vA) ([.ref (a 0), .int (nI (z))] : List Value).toArray vs ({ frames := 1, cells := 0, slots := 0, locals := 21 } : Room).cells ({ frames := 1, cells := 0, slots := 0, locals := 21 } : Room).slots vA) (F0 vm 7 ls []) := by
    intro fuel
    induction fuel with
    | zero => intro k x7 x8 x9 H locs ls hmu; exact absurd hmu (Nat.not_lt_zero _)
    | succ fuel ih7 =>
      intro k x7 x8 x9 H locs ls hmu hk e9 e8 hl hP hD hS
      refine lv_iload_n hx hb dX7_findLow_7 rfl (lv_at hl 0 rfl) ?_
      refine lv_iconst (v := (5)) hx hb dX7_findLow_8 (by decide) ?_
      refine lv_icmp_ge (tgt := 112) hx hb dX7_findLow_9 (by decide) (fun b9_1 => ?_) (fun b9_1 => ?_)
      · skip
        have b9_1 : (5) ≤ (k + 1) := (nI_leI (a := 5) (b := k + 1) (by omega) (by omega)).mp b9_1
        have b9_1n : ¬ ((k + 1) < (5)) := by omega
        have hk4 : k = 4 := by omega
        rw [hk4] at e9 e8
        refine lv_aload_n hx hb dX7_findLow_112 rfl (lv_at hl 1 rfl) ?_
        refine va_get (D := G.1) (ci := 6) (v := .int (x9)) (C := RX7) (T := TX7) (N := 23) hx hb hts in_X7_findLow_X7 hown hK.1 hP 0 rfl rfl 9 (by decide) (hts (.fieldLink RX7 73 "NightWaterModel" "lowHour" "I") (List.mem_of_getElem? (i := 1) rfl)) (fun _ h9 => h9) rfl dX7_findLow_113 ?_
        refine lv_iconst (v := (-1)) hx hb dX7_findLow_116 (by decide) ?_
        refine lv_icmp_eq (tgt := 124) hx hb dX7_findLow_117 (by decide) (fun b117_2 => ?_) (fun b117_2 => ?_)
        · skip
          have b117_2 : (x9) = (-1 : Int32) := b117_2
          refine lv_iconst (v := (0)) hx hb dX7_findLow_124 (by decide) ?_
          exact nw_zret (rm := ({ frames := 1, cells := 0, slots := 0, locals := 21 } : Room)) X (by decide) hP hD hS (⟨_, _, Or.inr ⟨rfl, by rw [← e9]; exact b117_2⟩, e8, by rw [e9]⟩) dX7_findLow_125
        · skip
          have b117_2 : ¬ ((x9) = (-1 : Int32)) := b117_2
          refine lv_iconst (v := (1)) hx hb dX7_findLow_120 (by decide) ?_
          refine lv_goto (tgt := 125) hx hb dX7_findLow_121 (by decide) ?_
          exact nw_zret (rm := ({ frames := 1, cells := 0, slots := 0, locals := 21 } : Room)) X (by decide) hP hD hS (⟨_, _, Or.inl ⟨rfl, by rw [← e9]; exact b117_2⟩, e8, by rw [e9]⟩) dX7_findLow_125
      · skip
        have b9_1 : ¬ ((5) ≤ (k + 1)) := fun h => b9_1 ((nI_leI (a := 5) (b := k + 1) (by omega) (by omega)).mpr h)
        have b9_1n : (k + 1) < (5) := by omega
        refine lv_aload_n hx hb dX7_findLow_12 rfl (lv_at hl 1 rfl) ?_
        refine va_get (D := G.1) (ci := 6) (v := .ref (a 3)) (C := RX7) (T := TX7) (N := 23) hx hb hts in_X7_findLow_X7 hown hK.1 hP 0 rfl rfl 3 (by decide) (hts (.fieldLink RX7 16 "NightWaterModel" "comes" "[I") (List.mem_of_getElem? (i := 2) rfl)) (fun _ h9 => h9) rfl dX7_findLow_13 ?_
        refine lv_bipush (v := (24)) hx hb dX7_findLow_16 (by decide) ?_
        refine lv_iload_n hx hb dX7_findLow_18 rfl (lv_at hl 2 rfl) ?_
        refine lv_imul hx hb dX7_findLow_19 ?_
        refine nw_top (y := nI (24 * z)) (pk_mul (24) (z)) ?_
        refine lv_iload_n hx hb dX7_findLow_20 rfl (lv_at hl 0 rfl) ?_
        refine lv_iadd hx hb dX7_findLow_21 ?_
        refine nw_top (y := nI (24 * z + (k + 1))) (nI_add (24 * z) (k + 1)) ?_
        refine nw_iald X hP 3 (n := 192) (f := ((coF M))) rfl (24 * z + (k + 1)) rfl (by omega) (by decide) dX7_findLow_22 ?_
        refine nw_top (y := M z (k + 1)) (coF_at (by omega) (by omega)) ?_
        refine lv_istore_n (lv' := [(3, .int (M z (k + 1))), (2, .int (nI (k + 1))), (0, .ref (a 0)), (1, .int (nI (z)))]) hx hb dX7_findLow_23 rfl hl (by decide) rfl (fun ls hl => ?_)
        refine lv_aload_n hx hb dX7_findLow_24 rfl (lv_at hl 2 rfl) ?_
        refine va_get (D := G.1) (ci := 6) (v := .ref (a 4)) (C := RX7) (T := TX7) (N := 23) hx hb hts in_X7_findLow_X7 hown hK.1 hP 0 rfl rfl 4 (by decide) (hts (.fieldLink RX7 19 "NightWaterModel" "goes" "[I") (List.mem_of_getElem? (i := 3) rfl)) (fun _ h9 => h9) rfl dX7_findLow_25 ?_
        refine lv_bipush (v := (24)) hx hb dX7_findLow_28 (by decide) ?_
        refine lv_iload_n hx hb dX7_findLow_30 rfl (lv_at hl 3 rfl) ?_
        refine lv_imul hx hb dX7_findLow_31 ?_
        refine nw_top (y := nI (24 * z)) (pk_mul (24) (z)) ?_
        refine lv_iload_n hx hb dX7_findLow_32 rfl (lv_at hl 1 rfl) ?_
        refine lv_iadd hx hb dX7_findLow_33 ?_
        refine nw_top (y := nI (24 * z + (k + 1))) (nI_add (24 * z) (k + 1)) ?_
        refine nw_iald X hP 4 (n := 192) (f := ((goF M))) rfl (24 * z + (k + 1)) rfl (by omega) (by decide) dX7_findLow_34 ?_
        refine nw_top (y := M (8 + z) (k + 1)) (goF_at (by omega) (by omega)) ?_
        refine lv_istore (lv' := [(4, .int (M (8 + z) (k + 1))), (3, .int (M z (k + 1))), (2, .int (nI (k + 1))), (0, .ref (a 0)), (1, .int (nI (z)))]) hx hb dX7_findLow_35 hl (by decide) rfl (fun ls hl => ?_)
        refine lv_iload_n hx hb dX7_findLow_37 rfl (lv_at hl 1 rfl) ?_
        refine lv_iconst (v := (-1)) hx hb dX7_findLow_38 (by decide) ?_
        refine lv_icmp_eq (tgt := 106) hx hb dX7_findLow_39 (by decide) (fun b39_3 => ?_) (fun b39_3 => ?_)
        · skip
          have b39_3 : (M z (k + 1)) = (-1 : Int32) := b39_3
          refine lv_iinc (v := (nI (k + 1 + 1))) (lv' := [(2, .int (nI (k + 1 + 1))), (4, .int (M (8 + z) (k + 1))), (3, .int (M z (k + 1))), (0, .ref (a 0)), (1, .int (nI (z)))]) hx hb dX7_findLow_106 hl (k := 2) rfl (by exact nI_add (k + 1) 1) (by decide) rfl (fun ls hl => ?_)
          refine lv_goto (tgt := 7) hx hb dX7_findLow_109 (by decide) ?_
          exact ih7 (k + 1) (x7) (x8) (x9) _ _ _ (by omega) (by omega) (by first | exact (congrArg (fun q => q.1) (fl_take (er := er) (f := M z) (g := M (8 + z)) (k := k) (by rw [← e9]; (try rw [← h8]); simp only [nwIf_T, nwIf_F, or_true, true_or, or_false, false_or, and_true, true_and, and_false, false_and, not_true_eq_false, not_false_eq_true, Nat.add_sub_cancel, b9_1n, b9_1, eq_true b39_3]))).symm | exact e9.trans (congrArg (fun q => q.1) (fl_keep (er := er) (f := M z) (g := M (8 + z)) (k := k) (by rw [← e9]; (try rw [← h8]); simp only [nwIf_T, nwIf_F, or_true, true_or, or_false, false_or, and_true, true_and, and_false, false_and, not_true_eq_false, not_false_eq_true, Nat.add_sub_cancel, b9_1n, b9_1, eq_true b39_3]))).symm) (by first | (rw [(fl_take (er := er) (f := M z) (g := M (8 + z)) (k := k) (by rw [← e9]; (try rw [← h8]); simp only [nwIf_T, nwIf_F, or_true, true_or, or_false, false_or, and_true, true_and, and_false, false_and, not_true_eq_false, not_false_eq_true, Nat.add_sub_cancel, b9_1n, b9_1, eq_true b39_3]))]; exact fun _ => ⟨rfl, rfl⟩) | (rw [(fl_keep (er := er) (f := M z) (g := M (8 + z)) (k := k) (by rw [← e9]; (try rw [← h8]); simp only [nwIf_T, nwIf_F, or_true, true_or, or_false, false_or, and_true, true_and, and_false, false_and, not_true_eq_false, not_false_eq_true, Nat.add_sub_cancel, b9_1n, b9_1, eq_true b39_3]))]; exact e8)) (lv_sub hl [0, 3, 4] rfl) hP hD hS
        · skip
          have b39_3 : ¬ ((M z (k + 1)) = (-1 : Int32)) := b39_3
          refine lv_iload hx hb dX7_findLow_42 (lv_at hl 0 rfl) ?_
          refine lv_iconst (v := (-1)) hx hb dX7_findLow_44 (by decide) ?_
          refine lv_icmp_eq (tgt := 106) hx hb dX7_findLow_45 (by decide) (fun b45_4 => ?_) (fun b45_4 => ?_)
          · skip
            have b45_4 : (M (8 + z) (k + 1)) = (-1 : Int32) := b45_4
            refine lv_iinc (v := (nI (k + 1 + 1))) (lv' := [(2, .int (nI (k + 1 + 1))), (4, .int (M (8 + z) (k + 1))), (3, .int (M z (k + 1))), (0, .ref (a 0)), (1, .int (nI (z)))]) hx hb dX7_findLow_106 hl (k := 2) rfl (by exact nI_add (k + 1) 1) (by decide) rfl (fun ls hl => ?_)
            refine lv_goto (tgt := 7) hx hb dX7_findLow_109 (by decide) ?_
            exact ih7 (k + 1) (x7) (x8) (x9) _ _ _ (by omega) (by omega) (by first | exact (congrArg (fun q => q.1) (fl_take (er := er) (f := M z) (g := M (8 + z)) (k := k) (by rw [← e9]; (try rw [← h8]); simp only [nwIf_T, nwIf_F, or_true, true_or, or_false, false_or, and_true, true_and, and_false, false_and, not_true_eq_false, not_false_eq_true, Nat.add_sub_cancel, b9_1n, b9_1, b39_3, eq_true b45_4]))).symm | exact e9.trans (congrArg (fun q => q.1) (fl_keep (er := er) (f := M z) (g := M (8 + z)) (k := k) (by rw [← e9]; (try rw [← h8]); simp only [nwIf_T, nwIf_F, or_true, true_or, or_false, false_or, and_true, true_and, and_false, false_and, not_true_eq_false, not_false_eq_true, Nat.add_sub_cancel, b9_1n, b9_1, b39_3, eq_true b45_4]))).symm) (by first | (rw [(fl_take (er := er) (f := M z) (g := M (8 + z)) (k := k) (by rw [← e9]; (try rw [← h8]); simp only [nwIf_T, nwIf_F, or_true, true_or, or_false, false_or, and_true, true_and, and_false, false_and, not_true_eq_false, not_false_eq_true, Nat.add_sub_cancel, b9_1n, b9_1, b39_3, eq_true b45_4]))]; exact fun _ => ⟨rfl, rfl⟩) | (rw [(fl_keep (er := er) (f := M z) (g := M (8 + z)) (k := k) (by rw [← e9]; (try rw [← h8]); simp only [nwIf_T, nwIf_F, or_true, true_or, or_false, false_or, and_true, true_and, and_false, false_and, not_true_eq_false, not_false_eq_true, Nat.add_sub_cancel, b9_1n, b9_1, b39_3, eq_true b45_4]))]; exact e8)) (lv_sub hl [0, 3, 4] rfl) hP hD hS
          · skip
            have b45_4 : ¬ ((M (8 + z) (k + 1)) = (-1 : Int32)) := b45_4
            refine lv_aload_n hx hb dX7_findLow_48 rfl (lv_at hl 3 rfl) ?_
            refine lv_iload_n hx hb dX7_findLow_49 rfl (lv_at hl 1 rfl) ?_
            refine nw_Vi (As := [.int (M z (k + 1))]) (rest := []) (q0 := 0) X (c_X7_greatest lc G (a) (n) (cu) (bg) (M) (er) (us) (x7) (x8) (x9) (nv) (fr) (tt) (gr) (ML) (ns) (w) (cs) (cl) (nd) (lo) (ho) (so) ((M z (k + 1))) ) (cwV 1 hts gX7_findLow_X7_greatest rfl rfl rfl (by decide +kernel) ⟨Nat.le_of_ble_eq_true rfl, Nat.le_of_ble_eq_true rfl⟩) rfl (show vwCl[6]? = some (RX7, TX7, 23) from rfl) (nwSp.all ((wM G (a) (n) (cu) (bg) ((coF M)) ((goF M)) (er) (us) (x7) (x8) (x9) (nv) (fr) (tt) (gr) ((hdF2 ML)) (ns) (w) (cs) (cl) (nd) (lo) (ho) (so)))) hP hD hS hA rfl hl.1 rfl (Nat.le_of_ble_eq_true rfl) dX7_findLow_50 ⟨Nat.le_of_ble_eq_true rfl, Nat.le_of_ble_eq_true rfl⟩ (fun r w H locs hp_5 hP hD hS => ?_)
            obtain ⟨rfl, rfl⟩ := hp_5
            have hP : va_P G.1 vwCl ((wM G (a) (n) (cu) (bg) ((coF M)) ((goF M)) (er) (us) (x7) (x8) (x9) (nv) (fr) (tt) (gr) ((hdF2 ML)) (ns) (w) (cs) (cl) (nd) (lo) (ho) (so))) H := hP
            have hD : va_D vA ((wM G (a) (n) (cu) (bg) ((coF M)) ((goF M)) (er) (us) (x7) (x8) (x9) (nv) (fr) (tt) (gr) ((hdF2 ML)) (ns) (w) (cs) (cl) (nd) (lo) (ho) (so))) := hD
            refine lv_aload_n hx hb dX7_findLow_53 rfl (lv_at hl 3 rfl) ?_
            refine lv_iload hx hb dX7_findLow_54 (lv_at hl 0 rfl) ?_
            refine nw_Vi (As := [.int (M (8 + z) (k + 1))]) (rest := [.int (grtF (er) ((M z (k + 1))))]) (q0 := 0) X (c_X7_least lc G (a) (n) (cu) (bg) (M) (er) (us) (x7) (x8) (x9) (nv) (fr) (tt) (gr) (ML) (ns) (w) (cs) (cl) (nd) (lo) (ho) (so) ((M (8 + z) (k + 1))) ) (cwV 1 hts gX7_findLow_X7_least rfl rfl rfl (by decide +kernel) ⟨Nat.le_of_ble_eq_true rfl, Nat.le_of_ble_eq_true rfl⟩) rfl (show vwCl[6]? = some (RX7, TX7, 23) from rfl) (nwSp.all ((wM G (a) (n) (cu) (bg) ((coF M)) ((goF M)) (er) (us) (x7) (x8) (x9) (nv) (fr) (tt) (gr) ((hdF2 ML)) (ns) (w) (cs) (cl) (nd) (lo) (ho) (so)))) hP hD hS hA rfl hl.1 rfl (Nat.le_of_ble_eq_true rfl) dX7_findLow_56 ⟨Nat.le_of_ble_eq_true rfl, Nat.le_of_ble_eq_true rfl⟩ (fun r w H locs hp_6 hP hD hS => ?_)
            obtain ⟨rfl, rfl⟩ := hp_6
            have hP : va_P G.1 vwCl ((wM G (a) (n) (cu) (bg) ((coF M)) ((goF M)) (er) (us) (x7) (x8) (x9) (nv) (fr) (tt) (gr) ((hdF2 ML)) (ns) (w) (cs) (cl) (nd) (lo) (ho) (so))) H := hP
            have hD : va_D vA ((wM G (a) (n) (cu) (bg) ((coF M)) ((goF M)) (er) (us) (x7) (x8) (x9) (nv) (fr) (tt) (gr) ((hdF2 ML)) (ns) (w) (cs) (cl) (nd) (lo) (ho) (so))) := hD
            refine lv_isub hx hb dX7_findLow_59 ?_
            refine lv_istore (lv' := [(5, .int ((grtF (er) ((M z (k + 1)))) - (lstF (er) ((M (8 + z) (k + 1)))))), (4, .int (M (8 + z) (k + 1))), (3, .int (M z (k + 1))), (2, .int (nI (k + 1))), (0, .ref (a 0)), (1, .int (nI (z)))]) hx hb dX7_findLow_60 hl (by decide) rfl (fun ls hl => ?_)
            refine lv_aload_n hx hb dX7_findLow_62 rfl (lv_at hl 4 rfl) ?_
            refine va_get (D := G.1) (ci := 6) (v := .int (x9)) (C := RX7) (T := TX7) (N := 23) hx hb hts in_X7_findLow_X7 hown hK.1 hP 0 rfl rfl 9 (by decide) (hts (.fieldLink RX7 73 "NightWaterModel" "lowHour" "I") (List.mem_of_getElem? (i := 1) rfl)) (fun _ h9 => h9) rfl dX7_findLow_63 ?_
            refine lv_iconst (v := (-1)) hx hb dX7_findLow_66 (by decide) ?_
            refine lv_icmp_eq (tgt := 79) hx hb dX7_findLow_67 (by decide) (fun b67_7 => ?_) (fun b67_7 => ?_)
            · skip
              have b67_7 : (x9) = (-1 : Int32) := b67_7
              refine lv_aload_n hx hb dX7_findLow_79 rfl (lv_at hl 4 rfl) ?_
              refine lv_iload_n hx hb dX7_findLow_80 rfl (lv_at hl 3 rfl) ?_
              refine va_put (D := G.1) (ci := 6) (v := .int (nI (k + 1))) (ty := .int) (C := RX7) (T := TX7) (N := 23) hx hb hts in_X7_findLow_X7 tyX7 tyX7_ok nmX7 hown hK.1 hP hD hS 0 rfl rfl 9 (by decide) (hts (.fieldLink RX7 73 "NightWaterModel" "lowHour" "I") (List.mem_of_getElem? (i := 1) rfl)) (fun _ h9 => h9) rfl (by decide +kernel) rfl rfl (Nat.le_of_ble_eq_true rfl) dX7_findLow_81 (fun H locs hP hD hS => ?_)
              have hP : va_P G.1 vwCl ((wM G (a) (n) (cu) (bg) ((coF M)) ((goF M)) (er) (us) (x7) (x8) ((nI (k + 1))) (nv) (fr) (tt) (gr) ((hdF2 ML)) (ns) (w) (cs) (cl) (nd) (lo) (ho) (so))) H := hP
              have hD : va_D vA ((wM G (a) (n) (cu) (bg) ((coF M)) ((goF M)) (er) (us) (x7) (x8) ((nI (k + 1))) (nv) (fr) (tt) (gr) ((hdF2 ML)) (ns) (w) (cs) (cl) (nd) (lo) (ho) (so))) := hD
              refine lv_aload_n hx hb dX7_findLow_84 rfl (lv_at hl 4 rfl) ?_
              refine lv_iload hx hb dX7_findLow_85 (lv_at hl 0 rfl) ?_
              refine va_put (D := G.1) (ci := 6) (v := .int ((grtF (er) ((M z (k + 1)))) - (lstF (er) ((M (8 + z) (k + 1)))))) (ty := .int) (C := RX7) (T := TX7) (N := 23) hx hb hts in_X7_findLow_X7 tyX7 tyX7_ok nmX7 hown hK.1 hP hD hS 0 rfl rfl 8 (by decide) (hts (.fieldLink RX7 83 "NightWaterModel" "lowMost" "I") (List.mem_of_getElem? (i := 4) rfl)) (fun _ h9 => h9) rfl (by decide +kernel) rfl rfl (Nat.le_of_ble_eq_true rfl) dX7_findLow_87 (fun H locs hP hD hS => ?_)
              have hP : va_P G.1 vwCl ((wM G (a) (n) (cu) (bg) ((coF M)) ((goF M)) (er) (us) (x7) (((grtF (er) ((M z (k + 1)))) - (lstF (er) ((M (8 + z) (k + 1)))))) ((nI (k + 1))) (nv) (fr) (tt) (gr) ((hdF2 ML)) (ns) (w) (cs) (cl) (nd) (lo) (ho) (so))) H := hP
              have hD : va_D vA ((wM G (a) (n) (cu) (bg) ((coF M)) ((goF M)) (er) (us) (x7) (((grtF (er) ((M z (k + 1)))) - (lstF (er) ((M (8 + z) (k + 1)))))) ((nI (k + 1))) (nv) (fr) (tt) (gr) ((hdF2 ML)) (ns) (w) (cs) (cl) (nd) (lo) (ho) (so))) := hD
              refine lv_aload_n hx hb dX7_findLow_90 rfl (lv_at hl 4 rfl) ?_
              refine lv_aload_n hx hb dX7_findLow_91 rfl (lv_at hl 4 rfl) ?_
              refine lv_iload_n hx hb dX7_findLow_92 rfl (lv_at hl 2 rfl) ?_
              refine nw_Vi (As := [.int (M z (k + 1))]) (rest := [.ref (a 0)]) (q0 := 0) X (c_X7_least lc G (a) (n) (cu) (bg) (M) (er) (us) (x7) (((grtF (er) ((M z (k + 1)))) - (lstF (er) ((M (8 + z) (k + 1)))))) ((nI (k + 1))) (nv) (fr) (tt) (gr) (ML) (ns) (w) (cs) (cl) (nd) (lo) (ho) (so) ((M z (k + 1))) ) (cwV 1 hts gX7_findLow_X7_least rfl rfl rfl (by decide +kernel) ⟨Nat.le_of_ble_eq_true rfl, Nat.le_of_ble_eq_true rfl⟩) rfl (show vwCl[6]? = some (RX7, TX7, 23) from rfl) (nwSp.all ((wM G (a) (n) (cu) (bg) ((coF M)) ((goF M)) (er) (us) (x7) (((grtF (er) ((M z (k + 1)))) - (lstF (er) ((M (8 + z) (k + 1)))))) ((nI (k + 1))) (nv) (fr) (tt) (gr) ((hdF2 ML)) (ns) (w) (cs) (cl) (nd) (lo) (ho) (so)))) hP hD hS hA rfl hl.1 rfl (Nat.le_of_ble_eq_true rfl) dX7_findLow_93 ⟨Nat.le_of_ble_eq_true rfl, Nat.le_of_ble_eq_true rfl⟩ (fun r w H locs hp_8 hP hD hS => ?_)
              obtain ⟨rfl, rfl⟩ := hp_8
              have hP : va_P G.1 vwCl ((wM G (a) (n) (cu) (bg) ((coF M)) ((goF M)) (er) (us) (x7) (((grtF (er) ((M z (k + 1)))) - (lstF (er) ((M (8 + z) (k + 1)))))) ((nI (k + 1))) (nv) (fr) (tt) (gr) ((hdF2 ML)) (ns) (w) (cs) (cl) (nd) (lo) (ho) (so))) H := hP
              have hD : va_D vA ((wM G (a) (n) (cu) (bg) ((coF M)) ((goF M)) (er) (us) (x7) (((grtF (er) ((M z (k + 1)))) - (lstF (er) ((M (8 + z) (k + 1)))))) ((nI (k + 1))) (nv) (fr) (tt) (gr) ((hdF2 ML)) (ns) (w) (cs) (cl) (nd) (lo) (ho) (so))) := hD
              refine lv_aload_n hx hb dX7_findLow_96 rfl (lv_at hl 4 rfl) ?_
              refine lv_iload hx hb dX7_findLow_97 (lv_at hl 1 rfl) ?_
              refine nw_Vi (As := [.int (M (8 + z) (k + 1))]) (rest := [.int (lstF (er) ((M z (k + 1)))), .ref (a 0)]) (q0 := 0) X (c_X7_greatest lc G (a) (n) (cu) (bg) (M) (er) (us) (x7) (((grtF (er) ((M z (k + 1)))) - (lstF (er) ((M (8 + z) (k + 1)))))) ((nI (k + 1))) (nv) (fr) (tt) (gr) (ML) (ns) (w) (cs) (cl) (nd) (lo) (ho) (so) ((M (8 + z) (k + 1))) ) (cwV 1 hts gX7_findLow_X7_greatest rfl rfl rfl (by decide +kernel) ⟨Nat.le_of_ble_eq_true rfl, Nat.le_of_ble_eq_true rfl⟩) rfl (show vwCl[6]? = some (RX7, TX7, 23) from rfl) (nwSp.all ((wM G (a) (n) (cu) (bg) ((coF M)) ((goF M)) (er) (us) (x7) (((grtF (er) ((M z (k + 1)))) - (lstF (er) ((M (8 + z) (k + 1)))))) ((nI (k + 1))) (nv) (fr) (tt) (gr) ((hdF2 ML)) (ns) (w) (cs) (cl) (nd) (lo) (ho) (so)))) hP hD hS hA rfl hl.1 rfl (Nat.le_of_ble_eq_true rfl) dX7_findLow_99 ⟨Nat.le_of_ble_eq_true rfl, Nat.le_of_ble_eq_true rfl⟩ (fun r w H locs hp_9 hP hD hS => ?_)
              obtain ⟨rfl, rfl⟩ := hp_9
              have hP : va_P G.1 vwCl ((wM G (a) (n) (cu) (bg) ((coF M)) ((goF M)) (er) (us) (x7) (((grtF (er) ((M z (k + 1)))) - (lstF (er) ((M (8 + z) (k + 1)))))) ((nI (k + 1))) (nv) (fr) (tt) (gr) ((hdF2 ML)) (ns) (w) (cs) (cl) (nd) (lo) (ho) (so))) H := hP
              have hD : va_D vA ((wM G (a) (n) (cu) (bg) ((coF M)) ((goF M)) (er) (us) (x7) (((grtF (er) ((M z (k + 1)))) - (lstF (er) ((M (8 + z) (k + 1)))))) ((nI (k + 1))) (nv) (fr) (tt) (gr) ((hdF2 ML)) (ns) (w) (cs) (cl) (nd) (lo) (ho) (so))) := hD
              refine lv_isub hx hb dX7_findLow_102 ?_
              refine va_put (D := G.1) (ci := 6) (v := .int ((lstF (er) ((M z (k + 1)))) - (grtF (er) ((M (8 + z) (k + 1)))))) (ty := .int) (C := RX7) (T := TX7) (N := 23) hx hb hts in_X7_findLow_X7 tyX7 tyX7_ok nmX7 hown hK.1 hP hD hS 0 rfl rfl 7 (by decide) (hts (.fieldLink RX7 86 "NightWaterModel" "lowLeast" "I") (List.mem_of_getElem? (i := 5) rfl)) (fun _ h9 => h9) rfl (by decide +kernel) rfl rfl (Nat.le_of_ble_eq_true rfl) dX7_findLow_103 (fun H locs hP hD hS => ?_)
              have hP : va_P G.1 vwCl ((wM G (a) (n) (cu) (bg) ((coF M)) ((goF M)) (er) (us) (((lstF (er) ((M z (k + 1)))) - (grtF (er) ((M (8 + z) (k + 1)))))) (((grtF (er) ((M z (k + 1)))) - (lstF (er) ((M (8 + z) (k + 1)))))) ((nI (k + 1))) (nv) (fr) (tt) (gr) ((hdF2 ML)) (ns) (w) (cs) (cl) (nd) (lo) (ho) (so))) H := hP
              have hD : va_D vA ((wM G (a) (n) (cu) (bg) ((coF M)) ((goF M)) (er) (us) (((lstF (er) ((M z (k + 1)))) - (grtF (er) ((M (8 + z) (k + 1)))))) (((grtF (er) ((M z (k + 1)))) - (lstF (er) ((M (8 + z) (k + 1)))))) ((nI (k + 1))) (nv) (fr) (tt) (gr) ((hdF2 ML)) (ns) (w) (cs) (cl) (nd) (lo) (ho) (so))) := hD
              refine lv_iinc (v := (nI (k + 1 + 1))) (lv' := [(2, .int (nI (k + 1 + 1))), (5, .int ((grtF (er) ((M z (k + 1)))) - (lstF (er) ((M (8 + z) (k + 1)))))), (4, .int (M (8 + z) (k + 1))), (3, .int (M z (k + 1))), (0, .ref (a 0)), (1, .int (nI (z)))]) hx hb dX7_findLow_106 hl (k := 3) rfl (by exact nI_add (k + 1) 1) (by decide) rfl (fun ls hl => ?_)
              refine lv_goto (tgt := 7) hx hb dX7_findLow_109 (by decide) ?_
              exact ih7 (k + 1) (((lstF (er) ((M z (k + 1)))) - (grtF (er) ((M (8 + z) (k + 1)))))) (((grtF (er) ((M z (k + 1)))) - (lstF (er) ((M (8 + z) (k + 1)))))) ((nI (k + 1))) _ _ _ (by omega) (by omega) (by first | exact (congrArg (fun q => q.1) (fl_take (er := er) (f := M z) (g := M (8 + z)) (k := k) (by rw [← e9]; (try rw [← h8]); simp only [nwIf_T, nwIf_F, or_true, true_or, or_false, false_or, and_true, true_and, and_false, false_and, not_true_eq_false, not_false_eq_true, Nat.add_sub_cancel, b9_1n, b9_1, b39_3, b45_4, eq_true b67_7]))).symm | exact e9.trans (congrArg (fun q => q.1) (fl_keep (er := er) (f := M z) (g := M (8 + z)) (k := k) (by rw [← e9]; (try rw [← h8]); simp only [nwIf_T, nwIf_F, or_true, true_or, or_false, false_or, and_true, true_and, and_false, false_and, not_true_eq_false, not_false_eq_true, Nat.add_sub_cancel, b9_1n, b9_1, b39_3, b45_4, eq_true b67_7]))).symm) (by first | (rw [(fl_take (er := er) (f := M z) (g := M (8 + z)) (k := k) (by rw [← e9]; (try rw [← h8]); simp only [nwIf_T, nwIf_F, or_true, true_or, or_false, false_or, and_true, true_and, and_false, false_and, not_true_eq_false, not_false_eq_true, Nat.add_sub_cancel, b9_1n, b9_1, b39_3, b45_4, eq_true b67_7]))]; exact fun _ => ⟨rfl, rfl⟩) | (rw [(fl_keep (er := er) (f := M z) (g := M (8 + z)) (k := k) (by rw [← e9]; (try rw [← h8]); simp only [nwIf_T, nwIf_F, or_true, true_or, or_false, false_or, and_true, true_and, and_false, false_and, not_true_eq_false, not_false_eq_true, Nat.add_sub_cancel, b9_1n, b9_1, b39_3, b45_4, eq_true b67_7]))]; exact e8)) (lv_sub hl [0, 4, 5] rfl) hP hD hS
            · skip
              have b67_7 : ¬ ((x9) = (-1 : Int32)) := b67_7
              have h8 : x8 = (lowF er (M z) (M (8 + z)) k).2.1 := (e8 (by rw [← e9]; exact b67_7)).1
              refine lv_iload hx hb dX7_findLow_70 (lv_at hl 0 rfl) ?_
              refine lv_aload_n hx hb dX7_findLow_72 rfl (lv_at hl 4 rfl) ?_
              refine va_get (D := G.1) (ci := 6) (v := .int (x8)) (C := RX7) (T := TX7) (N := 23) hx hb hts in_X7_findLow_X7 hown hK.1 hP 0 rfl rfl 8 (by decide) (hts (.fieldLink RX7 83 "NightWaterModel" "lowMost" "I") (List.mem_of_getElem? (i := 4) rfl)) (fun _ h9 => h9) rfl dX7_findLow_73 ?_
              refine lv_icmp_ge (tgt := 106) hx hb dX7_findLow_76 (by decide) (fun b76_10 => ?_) (fun b76_10 => ?_)
              · skip
                have b76_10 : (x8) ≤ ((grtF (er) ((M z (k + 1)))) - (lstF (er) ((M (8 + z) (k + 1))))) := b76_10
                have b76_10n : ¬ (((grtF (er) ((M z (k + 1)))) - (lstF (er) ((M (8 + z) (k + 1))))) < (x8)) := Int32.not_lt.mpr b76_10
                refine lv_iinc (v := (nI (k + 1 + 1))) (lv' := [(2, .int (nI (k + 1 + 1))), (5, .int ((grtF (er) ((M z (k + 1)))) - (lstF (er) ((M (8 + z) (k + 1)))))), (4, .int (M (8 + z) (k + 1))), (3, .int (M z (k + 1))), (0, .ref (a 0)), (1, .int (nI (z)))]) hx hb dX7_findLow_106 hl (k := 3) rfl (by exact nI_add (k + 1) 1) (by decide) rfl (fun ls hl => ?_)
                refine lv_goto (tgt := 7) hx hb dX7_findLow_109 (by decide) ?_
                exact ih7 (k + 1) (x7) (x8) (x9) _ _ _ (by omega) (by omega) (by first | exact (congrArg (fun q => q.1) (fl_take (er := er) (f := M z) (g := M (8 + z)) (k := k) (by rw [← e9]; (try rw [← h8]); simp only [nwIf_T, nwIf_F, or_true, true_or, or_false, false_or, and_true, true_and, and_false, false_and, not_true_eq_false, not_false_eq_true, Nat.add_sub_cancel, b9_1n, b9_1, b39_3, b45_4, b67_7, b76_10n, b76_10]))).symm | exact e9.trans (congrArg (fun q => q.1) (fl_keep (er := er) (f := M z) (g := M (8 + z)) (k := k) (by rw [← e9]; (try rw [← h8]); simp only [nwIf_T, nwIf_F, or_true, true_or, or_false, false_or, and_true, true_and, and_false, false_and, not_true_eq_false, not_false_eq_true, Nat.add_sub_cancel, b9_1n, b9_1, b39_3, b45_4, b67_7, b76_10n, b76_10]))).symm) (by first | (rw [(fl_take (er := er) (f := M z) (g := M (8 + z)) (k := k) (by rw [← e9]; (try rw [← h8]); simp only [nwIf_T, nwIf_F, or_true, true_or, or_false, false_or, and_true, true_and, and_false, false_and, not_true_eq_false, not_false_eq_true, Nat.add_sub_cancel, b9_1n, b9_1, b39_3, b45_4, b67_7, b76_10n, b76_10]))]; exact fun _ => ⟨rfl, rfl⟩) | (rw [(fl_keep (er := er) (f := M z) (g := M (8 + z)) (k := k) (by rw [← e9]; (try rw [← h8]); simp only [nwIf_T, nwIf_F, or_true, true_or, or_false, false_or, and_true, true_and, and_false, false_and, not_true_eq_false, not_false_eq_true, Nat.add_sub_cancel, b9_1n, b9_1, b39_3, b45_4, b67_7, b76_10n, b76_10]))]; exact e8)) (lv_sub hl [0, 4, 5] rfl) hP hD hS
              · skip
                have b76_10 : ¬ ((x8) ≤ ((grtF (er) ((M z (k + 1)))) - (lstF (er) ((M (8 + z) (k + 1)))))) := b76_10
                have b76_10n : ((grtF (er) ((M z (k + 1)))) - (lstF (er) ((M (8 + z) (k + 1))))) < (x8) := Int32.not_le.mp b76_10
                refine lv_aload_n hx hb dX7_findLow_79 rfl (lv_at hl 4 rfl) ?_
                refine lv_iload_n hx hb dX7_findLow_80 rfl (lv_at hl 3 rfl) ?_
                refine va_put (D := G.1) (ci := 6) (v := .int (nI (k + 1))) (ty := .int) (C := RX7) (T := TX7) (N := 23) hx hb hts in_X7_findLow_X7 tyX7 tyX7_ok nmX7 hown hK.1 hP hD hS 0 rfl rfl 9 (by decide) (hts (.fieldLink RX7 73 "NightWaterModel" "lowHour" "I") (List.mem_of_getElem? (i := 1) rfl)) (fun _ h9 => h9) rfl (by decide +kernel) rfl rfl (Nat.le_of_ble_eq_true rfl) dX7_findLow_81 (fun H locs hP hD hS => ?_)
                have hP : va_P G.1 vwCl ((wM G (a) (n) (cu) (bg) ((coF M)) ((goF M)) (er) (us) (x7) (x8) ((nI (k + 1))) (nv) (fr) (tt) (gr) ((hdF2 ML)) (ns) (w) (cs) (cl) (nd) (lo) (ho) (so))) H := hP
                have hD : va_D vA ((wM G (a) (n) (cu) (bg) ((coF M)) ((goF M)) (er) (us) (x7) (x8) ((nI (k + 1))) (nv) (fr) (tt) (gr) ((hdF2 ML)) (ns) (w) (cs) (cl) (nd) (lo) (ho) (so))) := hD
                refine lv_aload_n hx hb dX7_findLow_84 rfl (lv_at hl 4 rfl) ?_
                refine lv_iload hx hb dX7_findLow_85 (lv_at hl 0 rfl) ?_
                refine va_put (D := G.1) (ci := 6) (v := .int ((grtF (er) ((M z (k + 1)))) - (lstF (er) ((M (8 + z) (k + 1)))))) (ty := .int) (C := RX7) (T := TX7) (N := 23) hx hb hts in_X7_findLow_X7 tyX7 tyX7_ok nmX7 hown hK.1 hP hD hS 0 rfl rfl 8 (by decide) (hts (.fieldLink RX7 83 "NightWaterModel" "lowMost" "I") (List.mem_of_getElem? (i := 4) rfl)) (fun _ h9 => h9) rfl (by decide +kernel) rfl rfl (Nat.le_of_ble_eq_true rfl) dX7_findLow_87 (fun H locs hP hD hS => ?_)
                have hP : va_P G.1 vwCl ((wM G (a) (n) (cu) (bg) ((coF M)) ((goF M)) (er) (us) (x7) (((grtF (er) ((M z (k + 1)))) - (lstF (er) ((M (8 + z) (k + 1)))))) ((nI (k + 1))) (nv) (fr) (tt) (gr) ((hdF2 ML)) (ns) (w) (cs) (cl) (nd) (lo) (ho) (so))) H := hP
                have hD : va_D vA ((wM G (a) (n) (cu) (bg) ((coF M)) ((goF M)) (er) (us) (x7) (((grtF (er) ((M z (k + 1)))) - (lstF (er) ((M (8 + z) (k + 1)))))) ((nI (k + 1))) (nv) (fr) (tt) (gr) ((hdF2 ML)) (ns) (w) (cs) (cl) (nd) (lo) (ho) (so))) := hD
                refine lv_aload_n hx hb dX7_findLow_90 rfl (lv_at hl 4 rfl) ?_
                refine lv_aload_n hx hb dX7_findLow_91 rfl (lv_at hl 4 rfl) ?_
                refine lv_iload_n hx hb dX7_findLow_92 rfl (lv_at hl 2 rfl) ?_
                refine nw_Vi (As := [.int (M z (k + 1))]) (rest := [.ref (a 0)]) (q0 := 0) X (c_X7_least lc G (a) (n) (cu) (bg) (M) (er) (us) (x7) (((grtF (er) ((M z (k + 1)))) - (lstF (er) ((M (8 + z) (k + 1)))))) ((nI (k + 1))) (nv) (fr) (tt) (gr) (ML) (ns) (w) (cs) (cl) (nd) (lo) (ho) (so) ((M z (k + 1))) ) (cwV 1 hts gX7_findLow_X7_least rfl rfl rfl (by decide +kernel) ⟨Nat.le_of_ble_eq_true rfl, Nat.le_of_ble_eq_true rfl⟩) rfl (show vwCl[6]? = some (RX7, TX7, 23) from rfl) (nwSp.all ((wM G (a) (n) (cu) (bg) ((coF M)) ((goF M)) (er) (us) (x7) (((grtF (er) ((M z (k + 1)))) - (lstF (er) ((M (8 + z) (k + 1)))))) ((nI (k + 1))) (nv) (fr) (tt) (gr) ((hdF2 ML)) (ns) (w) (cs) (cl) (nd) (lo) (ho) (so)))) hP hD hS hA rfl hl.1 rfl (Nat.le_of_ble_eq_true rfl) dX7_findLow_93 ⟨Nat.le_of_ble_eq_true rfl, Nat.le_of_ble_eq_true rfl⟩ (fun r w H locs hp_11 hP hD hS => ?_)
                obtain ⟨rfl, rfl⟩ := hp_11
                have hP : va_P G.1 vwCl ((wM G (a) (n) (cu) (bg) ((coF M)) ((goF M)) (er) (us) (x7) (((grtF (er) ((M z (k + 1)))) - (lstF (er) ((M (8 + z) (k + 1)))))) ((nI (k + 1))) (nv) (fr) (tt) (gr) ((hdF2 ML)) (ns) (w) (cs) (cl) (nd) (lo) (ho) (so))) H := hP
                have hD : va_D vA ((wM G (a) (n) (cu) (bg) ((coF M)) ((goF M)) (er) (us) (x7) (((grtF (er) ((M z (k + 1)))) - (lstF (er) ((M (8 + z) (k + 1)))))) ((nI (k + 1))) (nv) (fr) (tt) (gr) ((hdF2 ML)) (ns) (w) (cs) (cl) (nd) (lo) (ho) (so))) := hD
                refine lv_aload_n hx hb dX7_findLow_96 rfl (lv_at hl 4 rfl) ?_
                refine lv_iload hx hb dX7_findLow_97 (lv_at hl 1 rfl) ?_
                refine nw_Vi (As := [.int (M (8 + z) (k + 1))]) (rest := [.int (lstF (er) ((M z (k + 1)))), .ref (a 0)]) (q0 := 0) X (c_X7_greatest lc G (a) (n) (cu) (bg) (M) (er) (us) (x7) (((grtF (er) ((M z (k + 1)))) - (lstF (er) ((M (8 + z) (k + 1)))))) ((nI (k + 1))) (nv) (fr) (tt) (gr) (ML) (ns) (w) (cs) (cl) (nd) (lo) (ho) (so) ((M (8 + z) (k + 1))) ) (cwV 1 hts gX7_findLow_X7_greatest rfl rfl rfl (by decide +kernel) ⟨Nat.le_of_ble_eq_true rfl, Nat.le_of_ble_eq_true rfl⟩) rfl (show vwCl[6]? = some (RX7, TX7, 23) from rfl) (nwSp.all ((wM G (a) (n) (cu) (bg) ((coF M)) ((goF M)) (er) (us) (x7) (((grtF (er) ((M z (k + 1)))) - (lstF (er) ((M (8 + z) (k + 1)))))) ((nI (k + 1))) (nv) (fr) (tt) (gr) ((hdF2 ML)) (ns) (w) (cs) (cl) (nd) (lo) (ho) (so)))) hP hD hS hA rfl hl.1 rfl (Nat.le_of_ble_eq_true rfl) dX7_findLow_99 ⟨Nat.le_of_ble_eq_true rfl, Nat.le_of_ble_eq_true rfl⟩ (fun r w H locs hp_12 hP hD hS => ?_)
                obtain ⟨rfl, rfl⟩ := hp_12
                have hP : va_P G.1 vwCl ((wM G (a) (n) (cu) (bg) ((coF M)) ((goF M)) (er) (us) (x7) (((grtF (er) ((M z (k + 1)))) - (lstF (er) ((M (8 + z) (k + 1)))))) ((nI (k + 1))) (nv) (fr) (tt) (gr) ((hdF2 ML)) (ns) (w) (cs) (cl) (nd) (lo) (ho) (so))) H := hP
                have hD : va_D vA ((wM G (a) (n) (cu) (bg) ((coF M)) ((goF M)) (er) (us) (x7) (((grtF (er) ((M z (k + 1)))) - (lstF (er) ((M (8 + z) (k + 1)))))) ((nI (k + 1))) (nv) (fr) (tt) (gr) ((hdF2 ML)) (ns) (w) (cs) (cl) (nd) (lo) (ho) (so))) := hD
                refine lv_isub hx hb dX7_findLow_102 ?_
                refine va_put (D := G.1) (ci := 6) (v := .int ((lstF (er) ((M z (k + 1)))) - (grtF (er) ((M (8 + z) (k + 1)))))) (ty := .int) (C := RX7) (T := TX7) (N := 23) hx hb hts in_X7_findLow_X7 tyX7 tyX7_ok nmX7 hown hK.1 hP hD hS 0 rfl rfl 7 (by decide) (hts (.fieldLink RX7 86 "NightWaterModel" "lowLeast" "I") (List.mem_of_getElem? (i := 5) rfl)) (fun _ h9 => h9) rfl (by decide +kernel) rfl rfl (Nat.le_of_ble_eq_true rfl) dX7_findLow_103 (fun H locs hP hD hS => ?_)
                have hP : va_P G.1 vwCl ((wM G (a) (n) (cu) (bg) ((coF M)) ((goF M)) (er) (us) (((lstF (er) ((M z (k + 1)))) - (grtF (er) ((M (8 + z) (k + 1)))))) (((grtF (er) ((M z (k + 1)))) - (lstF (er) ((M (8 + z) (k + 1)))))) ((nI (k + 1))) (nv) (fr) (tt) (gr) ((hdF2 ML)) (ns) (w) (cs) (cl) (nd) (lo) (ho) (so))) H := hP
                have hD : va_D vA ((wM G (a) (n) (cu) (bg) ((coF M)) ((goF M)) (er) (us) (((lstF (er) ((M z (k + 1)))) - (grtF (er) ((M (8 + z) (k + 1)))))) (((grtF (er) ((M z (k + 1)))) - (lstF (er) ((M (8 + z) (k + 1)))))) ((nI (k + 1))) (nv) (fr) (tt) (gr) ((hdF2 ML)) (ns) (w) (cs) (cl) (nd) (lo) (ho) (so))) := hD
                refine lv_iinc (v := (nI (k + 1 + 1))) (lv' := [(2, .int (nI (k + 1 + 1))), (5, .int ((grtF (er) ((M z (k + 1)))) - (lstF (er) ((M (8 + z) (k + 1)))))), (4, .int (M (8 + z) (k + 1))), (3, .int (M z (k + 1))), (0, .ref (a 0)), (1, .int (nI (z)))]) hx hb dX7_findLow_106 hl (k := 3) rfl (by exact nI_add (k + 1) 1) (by decide) rfl (fun ls hl => ?_)
                refine lv_goto (tgt := 7) hx hb dX7_findLow_109 (by decide) ?_
                exact ih7 (k + 1) (((lstF (er) ((M z (k + 1)))) - (grtF (er) ((M (8 + z) (k + 1)))))) (((grtF (er) ((M z (k + 1)))) - (lstF (er) ((M (8 + z) (k + 1)))))) ((nI (k + 1))) _ _ _ (by omega) (by omega) (by first | exact (congrArg (fun q => q.1) (fl_take (er := er) (f := M z) (g := M (8 + z)) (k := k) (by rw [← e9]; (try rw [← h8]); simp only [nwIf_T, nwIf_F, or_true, true_or, or_false, false_or, and_true, true_and, and_false, false_and, not_true_eq_false, not_false_eq_true, Nat.add_sub_cancel, b9_1n, b9_1, b39_3, b45_4, b67_7, b76_10n, b76_10]))).symm | exact e9.trans (congrArg (fun q => q.1) (fl_keep (er := er) (f := M z) (g := M (8 + z)) (k := k) (by rw [← e9]; (try rw [← h8]); simp only [nwIf_T, nwIf_F, or_true, true_or, or_false, false_or, and_true, true_and, and_false, false_and, not_true_eq_false, not_false_eq_true, Nat.add_sub_cancel, b9_1n, b9_1, b39_3, b45_4, b67_7, b76_10n, b76_10]))).symm) (by first | (rw [(fl_take (er := er) (f := M z) (g := M (8 + z)) (k := k) (by rw [← e9]; (try rw [← h8]); simp only [nwIf_T, nwIf_F, or_true, true_or, or_false, false_or, and_true, true_and, and_false, false_and, not_true_eq_false, not_false_eq_true, Nat.add_sub_cancel, b9_1n, b9_1, b39_3, b45_4, b67_7, b76_10n, b76_10]))]; exact fun _ => ⟨rfl, rfl⟩) | (rw [(fl_keep (er := er) (f := M z) (g := M (8 + z)) (k := k) (by rw [← e9]; (try rw [← h8]); simp only [nwIf_T, nwIf_F, or_true, true_or, or_false, false_or, and_true, true_and, and_false, false_and, not_true_eq_false, not_false_eq_true, Nat.add_sub_cancel, b9_1n, b9_1, b39_3, b45_4, b67_7, b76_10n, b76_10]))]; exact e8)) (lv_sub hl [0, 4, 5] rfl) hP hD hS
  exact K7 ((5 - (0)) + 1) (0) (ll) (lm) ((-1 : Int32)) _ _ _ (Nat.lt_succ_self _) (by omega) (by rfl) (by exact fun h => absurd rfl h) (lv_sub hl [0, 1, 2] rfl) hP hD hS
set_option maxHeartbeats 4000000 in
set_option maxRecDepth 100000 in
theorem c_X7_low (lc : Launch) (G : nwG) (a : Nat → Nat) (n : Nat) (cu bg : Nat → Int32) (M : Nat → Nat → Int32) (er us ll lm lh : Int32) (nv : Nat) (fr tt gr : Nat → Nat) (ML : Nat → Nat → Int32) (ns : Nat) (w : Nat → Nat) (cs cl : Nat → Int32) (nd : Nat) (lo ho : Nat → Int32) (so : Nat → Nat) (z what : Int32) (hn : n ≤ 8) : nwCi lc G yX7_low wsX7_low ({ frames := 2, cells := 0, slots := 0, locals := 46 } : Room) [.ref (a 0), .int (z), .int (what)] ((wM G (a) (n) (cu) (bg) ((coF M)) ((goF M)) (er) (us) (ll) (lm) (lh) (nv) (fr) (tt) (gr) ((hdF2 ML)) (ns) (w) (cs) (cl) (nd) (lo) (ho) (so))) (fun r ww => ∃ llv lmv lhv : Int32, r = lowPF n M er z what ∧ ww = wM G (a) (n) (cu) (bg) ((coF M)) ((goF M)) (er) (us) (llv) (lmv) (lhv) (nv) (fr) (tt) (gr) ((hdF2 ML)) (ns) (w) (cs) (cl) (nd) (lo) (ho) (so)) := by
  refine nw_of (cc := cX7_low) (maxL := 3) (ret := (some .int)) (by decide) rfl (Nat.le_of_ble_eq_true rfl) ?_
  intro vp ve vs vm vb vt vc vA ls X hP hD hA hS hl
  have X : nwAt vp vm vc cX7_low 3 vs _ wsX7_low RX7 vt (some .int) "low" G := X
  have hx := X.1.1
  have hb := X.1.2.1
  have hown := X.1.2.2.2.1
  have hts := X.1.2.2.2.2
  have hK := X.2.2.2.2
  have hl : lv_has ls 3 [(0, .ref (a 0)), (1, .int (z)), (2, .int (what))] := hl
  refine lv_aload_n hx hb dX7_low_0 rfl (lv_at hl 0 rfl) ?_
  refine lv_iload_n hx hb dX7_low_1 rfl (lv_at hl 1 rfl) ?_
  refine nw_Vi (As := [.int (z)]) (rest := []) (q0 := 0) X (c_X7_isZone lc G (a) (n) (cu) (bg) (M) (er) (us) (ll) (lm) (lh) (nv) (fr) (tt) (gr) (ML) (ns) (w) (cs) (cl) (nd) (lo) (ho) (so) ((z)) ) (cwV 1 hts gX7_low_X7_isZone rfl rfl rfl (by decide +kernel) ⟨Nat.le_of_ble_eq_true rfl, Nat.le_of_ble_eq_true rfl⟩) rfl (show vwCl[6]? = some (RX7, TX7, 23) from rfl) (nwSp.all ((wM G (a) (n) (cu) (bg) ((coF M)) ((goF M)) (er) (us) (ll) (lm) (lh) (nv) (fr) (tt) (gr) ((hdF2 ML)) (ns) (w) (cs) (cl) (nd) (lo) (ho) (so)))) hP hD hS hA rfl hl.1 rfl (Nat.le_of_ble_eq_true rfl) dX7_low_2 ⟨Nat.le_of_ble_eq_true rfl, Nat.le_of_ble_eq_true rfl⟩ (fun r w H locs hp_1 hP hD hS => ?_)
  obtain ⟨⟨rfl, q_2⟩ | ⟨rfl, q_2⟩, rfl⟩ := hp_1
  · skip
    have hP : va_P G.1 vwCl ((wM G (a) (n) (cu) (bg) ((coF M)) ((goF M)) (er) (us) (ll) (lm) (lh) (nv) (fr) (tt) (gr) ((hdF2 ML)) (ns) (w) (cs) (cl) (nd) (lo) (ho) (so))) H := hP
    have hD : va_D vA ((wM G (a) (n) (cu) (bg) ((coF M)) ((goF M)) (er) (us) (ll) (lm) (lh) (nv) (fr) (tt) (gr) ((hdF2 ML)) (ns) (w) (cs) (cl) (nd) (lo) (ho) (so))) := hD
    have q_2 : ¬ out ((z)) 0 (nI (n) - 1) := q_2
    obtain ⟨z_3, hz_4, he_5⟩ := nw_lt (n := n) (by omega) q_2
    have ec_6 := nw_clamp he_5 (by omega)
    refine lv_if_eq (tgt := 25) hx hb dX7_low_5 (by decide) (fun c9 => absurd c9 (by decide)) (fun _ => ?_)
    refine lv_iload_n hx hb dX7_low_8 rfl (lv_at hl 2 rfl) ?_
    refine lv_iconst (v := (0)) hx hb dX7_low_9 (by decide) ?_
    refine lv_iconst (v := (2)) hx hb dX7_low_10 (by decide) ?_
    refine nw_Si (As := [.int (what), .int (0), .int (2)]) (rest := []) X (c_X7_in lc G ((what)) ((0 : Int32)) ((2 : Int32)) ) (va_cwS 3 hts gX7_low_X7_in rfl rfl rfl (by decide +kernel) ⟨Nat.le_of_ble_eq_true rfl, Nat.le_of_ble_eq_true rfl⟩) (fun _ _ h => h.2) hP hD hS hA rfl hl.1 rfl (Nat.le_of_ble_eq_true rfl) dX7_low_11 ⟨Nat.le_of_ble_eq_true rfl, Nat.le_of_ble_eq_true rfl⟩ (fun r H locs hp_8 hP hD hS => ?_)
    obtain ⟨⟨rfl, q_9⟩ | ⟨rfl, q_9⟩, -⟩ := hp_8
    · skip
      have q_9 : ¬ out ((what)) ((0 : Int32)) ((2 : Int32)) := q_9
      refine lv_if_eq (tgt := 25) hx hb dX7_low_14 (by decide) (fun c9 => absurd c9 (by decide)) (fun _ => ?_)
      refine lv_aload_n hx hb dX7_low_17 rfl (lv_at hl 0 rfl) ?_
      refine lv_iload_n hx hb dX7_low_18 rfl (lv_at hl 1 rfl) ?_
      refine nw_st (st' := [.int (nI (z_3)), .ref (a 0)]) (by rw [he_5]) ?_
      refine nw_Vi (As := [.int (nI (z_3))]) (rest := []) (q0 := 0) X (c_X7_findLow lc G (a) (n) (cu) (bg) (M) (er) (us) (ll) (lm) (lh) (nv) (fr) (tt) (gr) (ML) (ns) (w) (cs) (cl) (nd) (lo) (ho) (so) (z_3) (by first | assumption | omega)) (cwV 1 hts gX7_low_X7_findLow rfl rfl rfl (by decide +kernel) ⟨Nat.le_of_ble_eq_true rfl, Nat.le_of_ble_eq_true rfl⟩) rfl (show vwCl[6]? = some (RX7, TX7, 23) from rfl) (nwSp.all ((wM G (a) (n) (cu) (bg) ((coF M)) ((goF M)) (er) (us) (ll) (lm) (lh) (nv) (fr) (tt) (gr) ((hdF2 ML)) (ns) (w) (cs) (cl) (nd) (lo) (ho) (so)))) hP hD hS hA rfl hl.1 rfl (Nat.le_of_ble_eq_true rfl) dX7_low_19 ⟨Nat.le_of_ble_eq_true rfl, Nat.le_of_ble_eq_true rfl⟩ (fun r w H locs hp_11 hP hD hS => ?_)
      obtain ⟨llv_12, lmv_13, ⟨rfl, q_14⟩ | ⟨rfl, q_14⟩, hfl_15, rfl⟩ := hp_11
      · skip
        have hP : va_P G.1 vwCl ((wM G (a) (n) (cu) (bg) ((coF M)) ((goF M)) (er) (us) (llv_12) (lmv_13) ((lowF er (M z_3) (M (8 + z_3)) 4).1) (nv) (fr) (tt) (gr) ((hdF2 ML)) (ns) (w) (cs) (cl) (nd) (lo) (ho) (so))) H := hP
        have hD : va_D vA ((wM G (a) (n) (cu) (bg) ((coF M)) ((goF M)) (er) (us) (llv_12) (lmv_13) ((lowF er (M z_3) (M (8 + z_3)) 4).1) (nv) (fr) (tt) (gr) ((hdF2 ML)) (ns) (w) (cs) (cl) (nd) (lo) (ho) (so))) := hD
        have q_14 : ¬ (lowF (er) ((M) (z_3)) ((M) (8 + (z_3))) 4).1 = -1 := q_14
        obtain ⟨hlm_16, hll_17⟩ := hfl_15 q_14
        refine lv_if_ne (tgt := 28) hx hb dX7_low_22 (by decide) (fun _ => ?_) (fun c9 => absurd c9 (by decide))
        refine lv_iload_n hx hb dX7_low_28 rfl (lv_at hl 2 rfl) ?_
        refine lv_if_ne (tgt := 39) hx hb dX7_low_29 (by decide) (fun b29_19 => ?_) (fun b29_19 => ?_)
        · skip
          have b29_19 : ¬ ((what) = (0 : Int32)) := b29_19
          refine lv_iload_n hx hb dX7_low_39 rfl (lv_at hl 2 rfl) ?_
          refine lv_iconst (v := (1)) hx hb dX7_low_40 (by decide) ?_
          refine lv_icmp_ne (tgt := 51) hx hb dX7_low_41 (by decide) (fun b41_20 => ?_) (fun b41_20 => ?_)
          · skip
            have b41_20 : ¬ ((what) = (1 : Int32)) := b41_20
            have hw2 : what = 2 := nw_two q_9 b29_19 b41_20
            refine lv_aload_n hx hb dX7_low_51 rfl (lv_at hl 0 rfl) ?_
            refine va_get (D := G.1) (ci := 6) (v := .int ((lowF er (M z_3) (M (8 + z_3)) 4).1)) (C := RX7) (T := TX7) (N := 23) hx hb hts in_X7_low_X7 hown hK.1 hP 0 rfl rfl 9 (by decide) (hts (Cond.fieldLink RX7 73 "NightWaterModel" "lowHour" "I") (List.mem_of_getElem? (i := 4) rfl)) (fun _ h9 => h9) rfl dX7_low_52 ?_
            exact nw_iret (rm := ({ frames := 2, cells := 0, slots := 0, locals := 46 } : Room)) X hP hD hS (⟨_, _, _, by simp only [lowPF, nwIf_T, nwIf_F, or_true, true_or, or_false, false_or, and_true, true_and, and_false, false_and, not_true_eq_false, not_false_eq_true, Nat.add_sub_cancel, q_2, ec_6, q_9, q_14, ← hlm_16, ← hll_17, b29_19, b41_20, eq_true hw2], rfl⟩) dX7_low_55
          · skip
            have b41_20 : (what) = (1 : Int32) := b41_20
            have hn2 : ¬ what = 2 := by rw [b41_20]; decide
            refine lv_aload_n hx hb dX7_low_44 rfl (lv_at hl 0 rfl) ?_
            refine va_get (D := G.1) (ci := 6) (v := .int (lmv_13)) (C := RX7) (T := TX7) (N := 23) hx hb hts in_X7_low_X7 hown hK.1 hP 0 rfl rfl 8 (by decide) (hts (Cond.fieldLink RX7 83 "NightWaterModel" "lowMost" "I") (List.mem_of_getElem? (i := 3) rfl)) (fun _ h9 => h9) rfl dX7_low_45 ?_
            refine lv_goto (tgt := 55) hx hb dX7_low_48 (by decide) ?_
            exact nw_iret (rm := ({ frames := 2, cells := 0, slots := 0, locals := 46 } : Room)) X hP hD hS (⟨_, _, _, by simp only [lowPF, nwIf_T, nwIf_F, or_true, true_or, or_false, false_or, and_true, true_and, and_false, false_and, not_true_eq_false, not_false_eq_true, Nat.add_sub_cancel, q_2, ec_6, q_9, q_14, ← hlm_16, ← hll_17, b29_19, eq_true b41_20, hn2], rfl⟩) dX7_low_55
        · skip
          have b29_19 : (what) = (0 : Int32) := b29_19
          have hn2 : ¬ what = 2 := by rw [b29_19]; decide
          refine lv_aload_n hx hb dX7_low_32 rfl (lv_at hl 0 rfl) ?_
          refine va_get (D := G.1) (ci := 6) (v := .int (llv_12)) (C := RX7) (T := TX7) (N := 23) hx hb hts in_X7_low_X7 hown hK.1 hP 0 rfl rfl 7 (by decide) (hts (Cond.fieldLink RX7 86 "NightWaterModel" "lowLeast" "I") (List.mem_of_getElem? (i := 2) rfl)) (fun _ h9 => h9) rfl dX7_low_33 ?_
          refine lv_goto (tgt := 55) hx hb dX7_low_36 (by decide) ?_
          exact nw_iret (rm := ({ frames := 2, cells := 0, slots := 0, locals := 46 } : Room)) X hP hD hS (⟨_, _, _, by simp only [lowPF, nwIf_T, nwIf_F, or_true, true_or, or_false, false_or, and_true, true_and, and_false, false_and, not_true_eq_false, not_false_eq_true, Nat.add_sub_cancel, q_2, ec_6, q_9, q_14, ← hlm_16, ← hll_17, eq_true b29_19, hn2], rfl⟩) dX7_low_55
      · skip
        have hP : va_P G.1 vwCl ((wM G (a) (n) (cu) (bg) ((coF M)) ((goF M)) (er) (us) (llv_12) (lmv_13) ((lowF er (M z_3) (M (8 + z_3)) 4).1) (nv) (fr) (tt) (gr) ((hdF2 ML)) (ns) (w) (cs) (cl) (nd) (lo) (ho) (so))) H := hP
        have hD : va_D vA ((wM G (a) (n) (cu) (bg) ((coF M)) ((goF M)) (er) (us) (llv_12) (lmv_13) ((lowF er (M z_3) (M (8 + z_3)) 4).1) (nv) (fr) (tt) (gr) ((hdF2 ML)) (ns) (w) (cs) (cl) (nd) (lo) (ho) (so))) := hD
        have q_14 : (lowF (er) ((M) (z_3)) ((M) (8 + (z_3))) 4).1 = -1 := q_14
        refine lv_if_ne (tgt := 28) hx hb dX7_low_22 (by decide) (fun c9 => absurd c9 (by decide)) (fun _ => ?_)
        refine lv_ldc (own := RX7) (v := (-2000000000)) hx hb hown (hts (Cond.constant RX7 92 (-2000000000)) (List.mem_of_getElem? (i := 1) rfl)) dX7_low_25 ?_
        exact nw_iret (rm := ({ frames := 2, cells := 0, slots := 0, locals := 46 } : Room)) X hP hD hS (⟨_, _, _, by simp only [lowPF, nwIf_T, nwIf_F, or_true, true_or, or_false, false_or, and_true, true_and, and_false, false_and, not_true_eq_false, not_false_eq_true, Nat.add_sub_cancel, q_2, ec_6, q_9, eq_true q_14], rfl⟩) dX7_low_27
    · skip
      have q_9 : out ((what)) ((0 : Int32)) ((2 : Int32)) := q_9
      refine lv_if_eq (tgt := 25) hx hb dX7_low_14 (by decide) (fun _ => ?_) (fun c9 => absurd (by decide) c9)
      refine lv_ldc (own := RX7) (v := (-2000000000)) hx hb hown (hts (Cond.constant RX7 92 (-2000000000)) (List.mem_of_getElem? (i := 1) rfl)) dX7_low_25 ?_
      exact nw_iret (rm := ({ frames := 2, cells := 0, slots := 0, locals := 46 } : Room)) X hP hD hS (⟨_, _, _, by simp only [lowPF, nwIf_T, nwIf_F, or_true, true_or, or_false, false_or, and_true, true_and, and_false, false_and, not_true_eq_false, not_false_eq_true, Nat.add_sub_cancel, q_2, ec_6, q_9], rfl⟩) dX7_low_27
  · skip
    have hP : va_P G.1 vwCl ((wM G (a) (n) (cu) (bg) ((coF M)) ((goF M)) (er) (us) (ll) (lm) (lh) (nv) (fr) (tt) (gr) ((hdF2 ML)) (ns) (w) (cs) (cl) (nd) (lo) (ho) (so))) H := hP
    have hD : va_D vA ((wM G (a) (n) (cu) (bg) ((coF M)) ((goF M)) (er) (us) (ll) (lm) (lh) (nv) (fr) (tt) (gr) ((hdF2 ML)) (ns) (w) (cs) (cl) (nd) (lo) (ho) (so))) := hD
    have q_2 : out ((z)) 0 (nI (n) - 1) := q_2
    refine lv_if_eq (tgt := 25) hx hb dX7_low_5 (by decide) (fun _ => ?_) (fun c9 => absurd (by decide) c9)
    refine lv_ldc (own := RX7) (v := (-2000000000)) hx hb hown (hts (Cond.constant RX7 92 (-2000000000)) (List.mem_of_getElem? (i := 1) rfl)) dX7_low_25 ?_
    exact nw_iret (rm := ({ frames := 2, cells := 0, slots := 0, locals := 46 } : Room)) X hP hD hS (⟨_, _, _, by simp only [lowPF, nwIf_T, nwIf_F, or_true, true_or, or_false, false_or, and_true, true_and, and_false, false_and, not_true_eq_false, not_false_eq_true, Nat.add_sub_cancel, q_2], rfl⟩) dX7_low_27
set_option maxHeartbeats 4000000 in
set_option maxRecDepth 100000 in
theorem c_X7_leaksOf (lc : Launch) (G : nwG) (a : Nat → Nat) (n : Nat) (cu bg : Nat → Int32) (M : Nat → Nat → Int32) (er us ll lm lh : Int32) (nv : Nat) (fr tt gr : Nat → Nat) (ML : Nat → Nat → Int32) (ns : Nat) (w : Nat → Nat) (cs cl : Nat → Int32) (nd : Nat) (lo ho : Nat → Int32) (so : Nat → Nat) (z : Nat) (what : Int32) (hz : z < 8) : nwCi lc G yX7_leaksOf wsX7_leaksOf ({ frames := 2, cells := 0, slots := 0, locals := 46 } : Room) [.ref (a 0), .int (nI (z)), .int (what)] ((wM G (a) (n) (cu) (bg) ((coF M)) ((goF M)) (er) (us) (ll) (lm) (lh) (nv) (fr) (tt) (gr) ((hdF2 ML)) (ns) (w) (cs) (cl) (nd) (lo) (ho) (so))) (fun r ww => ∃ llv lmv lhv : Int32, r = leakF er us (cu z) (bg z) (M z) (M (8 + z)) what ∧ ww = wM G (a) (n) (cu) (bg) ((coF M)) ((goF M)) (er) (us) (llv) (lmv) (lhv) (nv) (fr) (tt) (gr) ((hdF2 ML)) (ns) (w) (cs) (cl) (nd) (lo) (ho) (so)) := by
  refine nw_of (cc := cX7_leaksOf) (maxL := 3) (ret := (some .int)) (by decide) rfl (Nat.le_of_ble_eq_true rfl) ?_
  intro vp ve vs vm vb vt vc vA ls X hP hD hA hS hl
  have X : nwAt vp vm vc cX7_leaksOf 3 vs _ wsX7_leaksOf RX7 vt (some .int) "leaksOf" G := X
  have hx := X.1.1
  have hb := X.1.2.1
  have hown := X.1.2.2.2.1
  have hts := X.1.2.2.2.2
  have hK := X.2.2.2.2
  have hl : lv_has ls 3 [(0, .ref (a 0)), (1, .int (nI (z))), (2, .int (what))] := hl
  refine lv_aload_n hx hb dX7_leaksOf_0 rfl (lv_at hl 0 rfl) ?_
  refine lv_iload_n hx hb dX7_leaksOf_1 rfl (lv_at hl 1 rfl) ?_
  refine nw_st (st' := [.int (nI (z)), .ref (a 0)]) (by rfl) ?_
  refine nw_Vi (As := [.int (nI (z))]) (rest := []) (q0 := 0) X (c_X7_findLow lc G (a) (n) (cu) (bg) (M) (er) (us) (ll) (lm) (lh) (nv) (fr) (tt) (gr) (ML) (ns) (w) (cs) (cl) (nd) (lo) (ho) (so) (z) (by first | assumption | omega)) (cwV 1 hts gX7_leaksOf_X7_findLow rfl rfl rfl (by decide +kernel) ⟨Nat.le_of_ble_eq_true rfl, Nat.le_of_ble_eq_true rfl⟩) rfl (show vwCl[6]? = some (RX7, TX7, 23) from rfl) (nwSp.all ((wM G (a) (n) (cu) (bg) ((coF M)) ((goF M)) (er) (us) (ll) (lm) (lh) (nv) (fr) (tt) (gr) ((hdF2 ML)) (ns) (w) (cs) (cl) (nd) (lo) (ho) (so)))) hP hD hS hA rfl hl.1 rfl (Nat.le_of_ble_eq_true rfl) dX7_leaksOf_2 ⟨Nat.le_of_ble_eq_true rfl, Nat.le_of_ble_eq_true rfl⟩ (fun r w H locs hp_1 hP hD hS => ?_)
  obtain ⟨llv_2, lmv_3, ⟨rfl, q_4⟩ | ⟨rfl, q_4⟩, hfl_5, rfl⟩ := hp_1
  · skip
    have hP : va_P G.1 vwCl ((wM G (a) (n) (cu) (bg) ((coF M)) ((goF M)) (er) (us) (llv_2) (lmv_3) ((lowF er (M z) (M (8 + z)) 4).1) (nv) (fr) (tt) (gr) ((hdF2 ML)) (ns) (w) (cs) (cl) (nd) (lo) (ho) (so))) H := hP
    have hD : va_D vA ((wM G (a) (n) (cu) (bg) ((coF M)) ((goF M)) (er) (us) (llv_2) (lmv_3) ((lowF er (M z) (M (8 + z)) 4).1) (nv) (fr) (tt) (gr) ((hdF2 ML)) (ns) (w) (cs) (cl) (nd) (lo) (ho) (so))) := hD
    have q_4 : ¬ (lowF (er) ((M) (z)) ((M) (8 + (z))) 4).1 = -1 := q_4
    obtain ⟨hlm_6, hll_7⟩ := hfl_5 q_4
    refine lv_if_ne (tgt := 13) hx hb dX7_leaksOf_5 (by decide) (fun _ => ?_) (fun c9 => absurd c9 (by decide))
    refine lv_iload_n hx hb dX7_leaksOf_13 rfl (lv_at hl 2 rfl) ?_
    refine lv_if_ne (tgt := 43) hx hb dX7_leaksOf_14 (by decide) (fun b14_9 => ?_) (fun b14_9 => ?_)
    · skip
      have b14_9 : ¬ ((what) = (0 : Int32)) := b14_9
      refine lv_aload_n hx hb dX7_leaksOf_43 rfl (lv_at hl 0 rfl) ?_
      refine va_get (D := G.1) (ci := 6) (v := .int (lmv_3)) (C := RX7) (T := TX7) (N := 23) hx hb hts in_X7_leaksOf_X7 hown hK.1 hP 0 rfl rfl 8 (by decide) (hts (.fieldLink RX7 83 "NightWaterModel" "lowMost" "I") (List.mem_of_getElem? (i := 6) rfl)) (fun _ h9 => h9) rfl dX7_leaksOf_44 ?_
      refine lv_aload_n hx hb dX7_leaksOf_47 rfl (lv_at hl 0 rfl) ?_
      refine va_get (D := G.1) (ci := 6) (v := .ref (a 2)) (C := RX7) (T := TX7) (N := 23) hx hb hts in_X7_leaksOf_X7 hown hK.1 hP 0 rfl rfl 2 (by decide) (hts (.fieldLink RX7 13 "NightWaterModel" "big" "[I") (List.mem_of_getElem? (i := 3) rfl)) (fun _ h9 => h9) rfl dX7_leaksOf_48 ?_
      refine lv_iload_n hx hb dX7_leaksOf_51 rfl (lv_at hl 1 rfl) ?_
      refine nw_iald X hP 2 (n := 8) (f := (bg)) rfl (z) rfl (by omega) (by decide) dX7_leaksOf_52 ?_
      refine lv_isub hx hb dX7_leaksOf_53 ?_
      exact nw_iret (rm := ({ frames := 2, cells := 0, slots := 0, locals := 46 } : Room)) X hP hD hS (⟨_, _, _, by simp only [leakF, nwIf_T, nwIf_F, or_true, true_or, or_false, false_or, and_true, true_and, and_false, false_and, not_true_eq_false, not_false_eq_true, Nat.add_sub_cancel, q_4, ← hlm_6, ← hll_7, b14_9], rfl⟩) dX7_leaksOf_54
    · skip
      have b14_9 : (what) = (0 : Int32) := b14_9
      refine lv_aload_n hx hb dX7_leaksOf_17 rfl (lv_at hl 0 rfl) ?_
      refine va_get (D := G.1) (ci := 6) (v := .int (llv_2)) (C := RX7) (T := TX7) (N := 23) hx hb hts in_X7_leaksOf_X7 hown hK.1 hP 0 rfl rfl 7 (by decide) (hts (.fieldLink RX7 86 "NightWaterModel" "lowLeast" "I") (List.mem_of_getElem? (i := 2) rfl)) (fun _ h9 => h9) rfl dX7_leaksOf_18 ?_
      refine lv_aload_n hx hb dX7_leaksOf_21 rfl (lv_at hl 0 rfl) ?_
      refine va_get (D := G.1) (ci := 6) (v := .ref (a 2)) (C := RX7) (T := TX7) (N := 23) hx hb hts in_X7_leaksOf_X7 hown hK.1 hP 0 rfl rfl 2 (by decide) (hts (.fieldLink RX7 13 "NightWaterModel" "big" "[I") (List.mem_of_getElem? (i := 3) rfl)) (fun _ h9 => h9) rfl dX7_leaksOf_22 ?_
      refine lv_iload_n hx hb dX7_leaksOf_25 rfl (lv_at hl 1 rfl) ?_
      refine nw_iald X hP 2 (n := 8) (f := (bg)) rfl (z) rfl (by omega) (by decide) dX7_leaksOf_26 ?_
      refine lv_isub hx hb dX7_leaksOf_27 ?_
      refine lv_aload_n hx hb dX7_leaksOf_28 rfl (lv_at hl 0 rfl) ?_
      refine va_get (D := G.1) (ci := 6) (v := .ref (a 1)) (C := RX7) (T := TX7) (N := 23) hx hb hts in_X7_leaksOf_X7 hown hK.1 hP 0 rfl rfl 1 (by decide) (hts (.fieldLink RX7 7 "NightWaterModel" "customers" "[I") (List.mem_of_getElem? (i := 4) rfl)) (fun _ h9 => h9) rfl dX7_leaksOf_29 ?_
      refine lv_iload_n hx hb dX7_leaksOf_32 rfl (lv_at hl 1 rfl) ?_
      refine nw_iald X hP 1 (n := 8) (f := (cu)) rfl (z) rfl (by omega) (by decide) dX7_leaksOf_33 ?_
      refine lv_aload_n hx hb dX7_leaksOf_34 rfl (lv_at hl 0 rfl) ?_
      refine va_get (D := G.1) (ci := 6) (v := .int (us)) (C := RX7) (T := TX7) (N := 23) hx hb hts in_X7_leaksOf_X7 hown hK.1 hP 0 rfl rfl 6 (by decide) (hts (.fieldLink RX7 26 "NightWaterModel" "use" "I") (List.mem_of_getElem? (i := 5) rfl)) (fun _ h9 => h9) rfl dX7_leaksOf_35 ?_
      refine lv_imul hx hb dX7_leaksOf_38 ?_
      refine lv_isub hx hb dX7_leaksOf_39 ?_
      refine lv_goto (tgt := 54) hx hb dX7_leaksOf_40 (by decide) ?_
      exact nw_iret (rm := ({ frames := 2, cells := 0, slots := 0, locals := 46 } : Room)) X hP hD hS (⟨_, _, _, by simp only [leakF, nwIf_T, nwIf_F, or_true, true_or, or_false, false_or, and_true, true_and, and_false, false_and, not_true_eq_false, not_false_eq_true, Nat.add_sub_cancel, q_4, ← hlm_6, ← hll_7, eq_true b14_9], rfl⟩) dX7_leaksOf_54
  · skip
    have hP : va_P G.1 vwCl ((wM G (a) (n) (cu) (bg) ((coF M)) ((goF M)) (er) (us) (llv_2) (lmv_3) ((lowF er (M z) (M (8 + z)) 4).1) (nv) (fr) (tt) (gr) ((hdF2 ML)) (ns) (w) (cs) (cl) (nd) (lo) (ho) (so))) H := hP
    have hD : va_D vA ((wM G (a) (n) (cu) (bg) ((coF M)) ((goF M)) (er) (us) (llv_2) (lmv_3) ((lowF er (M z) (M (8 + z)) 4).1) (nv) (fr) (tt) (gr) ((hdF2 ML)) (ns) (w) (cs) (cl) (nd) (lo) (ho) (so))) := hD
    have q_4 : (lowF (er) ((M) (z)) ((M) (8 + (z))) 4).1 = -1 := q_4
    refine lv_if_ne (tgt := 13) hx hb dX7_leaksOf_5 (by decide) (fun c9 => absurd c9 (by decide)) (fun _ => ?_)
    refine lv_ldc (own := RX7) (v := (-2000000000)) hx hb hown (hts (.constant RX7 92 (-2000000000)) (List.mem_of_getElem? (i := 1) rfl)) dX7_leaksOf_8 ?_
    refine lv_goto (tgt := 54) hx hb dX7_leaksOf_10 (by decide) ?_
    exact nw_iret (rm := ({ frames := 2, cells := 0, slots := 0, locals := 46 } : Room)) X hP hD hS (⟨_, _, _, by simp only [leakF, nwIf_T, nwIf_F, or_true, true_or, or_false, false_or, and_true, true_and, and_false, false_and, not_true_eq_false, not_false_eq_true, Nat.add_sub_cancel, eq_true q_4], rfl⟩) dX7_leaksOf_54
set_option maxHeartbeats 4000000 in
set_option maxRecDepth 100000 in
theorem c_X7_leaks (lc : Launch) (G : nwG) (a : Nat → Nat) (n : Nat) (cu bg : Nat → Int32) (M : Nat → Nat → Int32) (er us ll lm lh : Int32) (nv : Nat) (fr tt gr : Nat → Nat) (ML : Nat → Nat → Int32) (ns : Nat) (w : Nat → Nat) (cs cl : Nat → Int32) (nd : Nat) (lo ho : Nat → Int32) (so : Nat → Nat) (z what : Int32) (hn : n ≤ 8) : nwCi lc G yX7_leaks wsX7_leaks ({ frames := 3, cells := 0, slots := 0, locals := 68 } : Room) [.ref (a 0), .int (z), .int (what)] ((wM G (a) (n) (cu) (bg) ((coF M)) ((goF M)) (er) (us) (ll) (lm) (lh) (nv) (fr) (tt) (gr) ((hdF2 ML)) (ns) (w) (cs) (cl) (nd) (lo) (ho) (so))) (fun r ww => ∃ llv lmv lhv : Int32, r = leaksF n cu bg M er us z what ∧ ww = wM G (a) (n) (cu) (bg) ((coF M)) ((goF M)) (er) (us) (llv) (lmv) (lhv) (nv) (fr) (tt) (gr) ((hdF2 ML)) (ns) (w) (cs) (cl) (nd) (lo) (ho) (so)) := by
  refine nw_of (cc := cX7_leaks) (maxL := 3) (ret := (some .int)) (by decide) rfl (Nat.le_of_ble_eq_true rfl) ?_
  intro vp ve vs vm vb vt vc vA ls X hP hD hA hS hl
  have X : nwAt vp vm vc cX7_leaks 3 vs _ wsX7_leaks RX7 vt (some .int) "leaks" G := X
  have hx := X.1.1
  have hb := X.1.2.1
  have hown := X.1.2.2.2.1
  have hts := X.1.2.2.2.2
  have hK := X.2.2.2.2
  have hl : lv_has ls 3 [(0, .ref (a 0)), (1, .int (z)), (2, .int (what))] := hl
  refine lv_aload_n hx hb dX7_leaks_0 rfl (lv_at hl 0 rfl) ?_
  refine lv_iload_n hx hb dX7_leaks_1 rfl (lv_at hl 1 rfl) ?_
  refine nw_Vi (As := [.int (z)]) (rest := []) (q0 := 0) X (c_X7_isZone lc G (a) (n) (cu) (bg) (M) (er) (us) (ll) (lm) (lh) (nv) (fr) (tt) (gr) (ML) (ns) (w) (cs) (cl) (nd) (lo) (ho) (so) ((z)) ) (cwV 1 hts gX7_leaks_X7_isZone rfl rfl rfl (by decide +kernel) ⟨Nat.le_of_ble_eq_true rfl, Nat.le_of_ble_eq_true rfl⟩) rfl (show vwCl[6]? = some (RX7, TX7, 23) from rfl) (nwSp.all ((wM G (a) (n) (cu) (bg) ((coF M)) ((goF M)) (er) (us) (ll) (lm) (lh) (nv) (fr) (tt) (gr) ((hdF2 ML)) (ns) (w) (cs) (cl) (nd) (lo) (ho) (so)))) hP hD hS hA rfl hl.1 rfl (Nat.le_of_ble_eq_true rfl) dX7_leaks_2 ⟨Nat.le_of_ble_eq_true rfl, Nat.le_of_ble_eq_true rfl⟩ (fun r w H locs hp_1 hP hD hS => ?_)
  obtain ⟨⟨rfl, q_2⟩ | ⟨rfl, q_2⟩, rfl⟩ := hp_1
  · skip
    have hP : va_P G.1 vwCl ((wM G (a) (n) (cu) (bg) ((coF M)) ((goF M)) (er) (us) (ll) (lm) (lh) (nv) (fr) (tt) (gr) ((hdF2 ML)) (ns) (w) (cs) (cl) (nd) (lo) (ho) (so))) H := hP
    have hD : va_D vA ((wM G (a) (n) (cu) (bg) ((coF M)) ((goF M)) (er) (us) (ll) (lm) (lh) (nv) (fr) (tt) (gr) ((hdF2 ML)) (ns) (w) (cs) (cl) (nd) (lo) (ho) (so))) := hD
    have q_2 : ¬ out ((z)) 0 (nI (n) - 1) := q_2
    obtain ⟨z_3, hz_4, he_5⟩ := nw_lt (n := n) (by omega) q_2
    have ec_6 := nw_clamp he_5 (by omega)
    refine lv_if_eq (tgt := 26) hx hb dX7_leaks_5 (by decide) (fun c9 => absurd c9 (by decide)) (fun _ => ?_)
    refine lv_iload_n hx hb dX7_leaks_8 rfl (lv_at hl 2 rfl) ?_
    refine lv_iconst (v := (0)) hx hb dX7_leaks_9 (by decide) ?_
    refine lv_iconst (v := (1)) hx hb dX7_leaks_10 (by decide) ?_
    refine nw_Si (As := [.int (what), .int (0), .int (1)]) (rest := []) X (c_X7_in lc G ((what)) ((0 : Int32)) ((1 : Int32)) ) (va_cwS 3 hts gX7_leaks_X7_in rfl rfl rfl (by decide +kernel) ⟨Nat.le_of_ble_eq_true rfl, Nat.le_of_ble_eq_true rfl⟩) (fun _ _ h => h.2) hP hD hS hA rfl hl.1 rfl (Nat.le_of_ble_eq_true rfl) dX7_leaks_11 ⟨Nat.le_of_ble_eq_true rfl, Nat.le_of_ble_eq_true rfl⟩ (fun r H locs hp_8 hP hD hS => ?_)
    obtain ⟨⟨rfl, q_9⟩ | ⟨rfl, q_9⟩, -⟩ := hp_8
    · skip
      have q_9 : ¬ out ((what)) ((0 : Int32)) ((1 : Int32)) := q_9
      refine lv_if_eq (tgt := 26) hx hb dX7_leaks_14 (by decide) (fun c9 => absurd c9 (by decide)) (fun _ => ?_)
      refine lv_aload_n hx hb dX7_leaks_17 rfl (lv_at hl 0 rfl) ?_
      refine lv_iload_n hx hb dX7_leaks_18 rfl (lv_at hl 1 rfl) ?_
      refine lv_iload_n hx hb dX7_leaks_19 rfl (lv_at hl 2 rfl) ?_
      refine nw_st (st' := [.int (what), .int (nI (z_3)), .ref (a 0)]) (by rw [he_5]) ?_
      refine nw_Vi (As := [.int (nI (z_3)), .int (what)]) (rest := []) (q0 := 0) X (c_X7_leaksOf lc G (a) (n) (cu) (bg) (M) (er) (us) (ll) (lm) (lh) (nv) (fr) (tt) (gr) (ML) (ns) (w) (cs) (cl) (nd) (lo) (ho) (so) (z_3) ((what)) (by first | assumption | omega)) (cwV 2 hts gX7_leaks_X7_leaksOf rfl rfl rfl (by decide +kernel) ⟨Nat.le_of_ble_eq_true rfl, Nat.le_of_ble_eq_true rfl⟩) rfl (show vwCl[6]? = some (RX7, TX7, 23) from rfl) (nwSp.all ((wM G (a) (n) (cu) (bg) ((coF M)) ((goF M)) (er) (us) (ll) (lm) (lh) (nv) (fr) (tt) (gr) ((hdF2 ML)) (ns) (w) (cs) (cl) (nd) (lo) (ho) (so)))) hP hD hS hA rfl hl.1 rfl (Nat.le_of_ble_eq_true rfl) dX7_leaks_20 ⟨Nat.le_of_ble_eq_true rfl, Nat.le_of_ble_eq_true rfl⟩ (fun r w H locs hp_11 hP hD hS => ?_)
      obtain ⟨llv_12, lmv_13, lhv_14, rfl, rfl⟩ := hp_11
      have hP : va_P G.1 vwCl ((wM G (a) (n) (cu) (bg) ((coF M)) ((goF M)) (er) (us) (llv_12) (lmv_13) (lhv_14) (nv) (fr) (tt) (gr) ((hdF2 ML)) (ns) (w) (cs) (cl) (nd) (lo) (ho) (so))) H := hP
      have hD : va_D vA ((wM G (a) (n) (cu) (bg) ((coF M)) ((goF M)) (er) (us) (llv_12) (lmv_13) (lhv_14) (nv) (fr) (tt) (gr) ((hdF2 ML)) (ns) (w) (cs) (cl) (nd) (lo) (ho) (so))) := hD
      refine lv_goto (tgt := 28) hx hb dX7_leaks_23 (by decide) ?_
      exact nw_iret (rm := ({ frames := 3, cells := 0, slots := 0, locals := 68 } : Room)) X hP hD hS (⟨_, _, _, by simp only [leaksF, nwIf_T, nwIf_F, or_true, true_or, or_false, false_or, and_true, true_and, and_false, false_and, not_true_eq_false, not_false_eq_true, Nat.add_sub_cancel, q_2, ec_6, q_9], rfl⟩) dX7_leaks_28
    · skip
      have q_9 : out ((what)) ((0 : Int32)) ((1 : Int32)) := q_9
      refine lv_if_eq (tgt := 26) hx hb dX7_leaks_14 (by decide) (fun _ => ?_) (fun c9 => absurd (by decide) c9)
      refine lv_ldc (own := RX7) (v := (-2000000000)) hx hb hown (hts (Cond.constant RX7 92 (-2000000000)) (List.mem_of_getElem? (i := 1) rfl)) dX7_leaks_26 ?_
      exact nw_iret (rm := ({ frames := 3, cells := 0, slots := 0, locals := 68 } : Room)) X hP hD hS (⟨_, _, _, by simp only [leaksF, nwIf_T, nwIf_F, or_true, true_or, or_false, false_or, and_true, true_and, and_false, false_and, not_true_eq_false, not_false_eq_true, Nat.add_sub_cancel, q_2, ec_6, q_9], rfl⟩) dX7_leaks_28
  · skip
    have hP : va_P G.1 vwCl ((wM G (a) (n) (cu) (bg) ((coF M)) ((goF M)) (er) (us) (ll) (lm) (lh) (nv) (fr) (tt) (gr) ((hdF2 ML)) (ns) (w) (cs) (cl) (nd) (lo) (ho) (so))) H := hP
    have hD : va_D vA ((wM G (a) (n) (cu) (bg) ((coF M)) ((goF M)) (er) (us) (ll) (lm) (lh) (nv) (fr) (tt) (gr) ((hdF2 ML)) (ns) (w) (cs) (cl) (nd) (lo) (ho) (so))) := hD
    have q_2 : out ((z)) 0 (nI (n) - 1) := q_2
    refine lv_if_eq (tgt := 26) hx hb dX7_leaks_5 (by decide) (fun _ => ?_) (fun c9 => absurd (by decide) c9)
    refine lv_ldc (own := RX7) (v := (-2000000000)) hx hb hown (hts (Cond.constant RX7 92 (-2000000000)) (List.mem_of_getElem? (i := 1) rfl)) dX7_leaks_26 ?_
    exact nw_iret (rm := ({ frames := 3, cells := 0, slots := 0, locals := 68 } : Room)) X hP hD hS (⟨_, _, _, by simp only [leaksF, nwIf_T, nwIf_F, or_true, true_or, or_false, false_or, and_true, true_and, and_false, false_and, not_true_eq_false, not_false_eq_true, Nat.add_sub_cancel, q_2], rfl⟩) dX7_leaks_28
end
section
/-! printed by wip/gen/x7e.py: contracts, walked row by row -/
theorem in_X7_count_X7 : ∀ w ∈ wsX70, w ∈ wsX7_count := by decide +kernel
theorem in_X7_digest_X7 : ∀ w ∈ wsX70, w ∈ wsX7_digest := by decide +kernel
set_option maxHeartbeats 4000000 in
set_option maxRecDepth 100000 in
theorem c_X7_count (lc : Launch) (G : nwG) (a : Nat → Nat) (n : Nat) (cu bg : Nat → Int32) (M : Nat → Nat → Int32) (er us ll lm lh : Int32) (nv : Nat) (fr tt gr : Nat → Nat) (ML : Nat → Nat → Int32) (ns : Nat) (w : Nat → Nat) (cs cl : Nat → Int32) (nd : Nat) (lo ho : Nat → Int32) (so : Nat → Nat) (p1 : Int32) (hn : n ≤ 8) (hnv : nv ≤ 12) (hn12 : ns ≤ 12) (hnd : nd ≤ 8) : nwCi lc G yX7_count wsX7_count ({ frames := 0, cells := 0, slots := 0, locals := 0 } : Room) [.ref (a 0), .int (p1)] ((wM G (a) (n) (cu) (bg) ((coF M)) ((goF M)) (er) (us) (ll) (lm) (lh) (nv) (fr) (tt) (gr) ((hdF2 ML)) (ns) (w) (cs) (cl) (nd) (lo) (ho) (so))) (fun r ww => r = countF n nv ns nd M ML p1 ∧ ww = wM G (a) (n) (cu) (bg) ((coF M)) ((goF M)) (er) (us) (ll) (lm) (lh) (nv) (fr) (tt) (gr) ((hdF2 ML)) (ns) (w) (cs) (cl) (nd) (lo) (ho) (so)) := by
  refine nw_of (cc := cX7_count) (maxL := 4) (ret := (some .int)) (by decide) rfl (Nat.le_of_ble_eq_true rfl) ?_
  intro vp ve vs vm vb vt vc vA ls X hP hD hA hS hl
  have X : nwAt vp vm vc cX7_count 4 vs _ wsX7_count RX7 vt (some .int) "count" G := X
  have hx := X.1.1
  have hb := X.1.2.1
  have hown := X.1.2.2.2.1
  have hts := X.1.2.2.2.2
  have hK := X.2.2.2.2
  have hl : lv_has ls 4 [(0, .ref (a 0)), (1, .int (p1))] := hl
  refine lv_iconst (v := (0)) hx hb dX7_count_0 (by decide) ?_
  refine lv_istore_n (lv' := [(2, .int (0)), (0, .ref (a 0)), (1, .int (p1))]) hx hb dX7_count_1 rfl hl (by decide) rfl (fun ls hl => ?_)
  refine lv_iload_n hx hb dX7_count_2 rfl (lv_at hl 2 rfl) ?_
  by_cases hw0 : p1 = 0
  · skip
    refine nw_st (st' := [.int 0]) (by rw [hw0]) ?_
    refine lv_tableIn (off := 37) (tgt := 40) hx hb dX7_count_3 (by decide) (by decide) (by rfl) (by decide) ?_
    refine lv_aload_n hx hb dX7_count_40 rfl (lv_at hl 1 rfl) ?_
    refine va_get (D := G.1) (ci := 6) (v := .int (nI (n))) (C := RX7) (T := TX7) (N := 23) hx hb hts in_X7_count_X7 hown hK.1 hP 0 rfl rfl 0 (by decide) (hts (.fieldLink RX7 62 "NightWaterModel" "zones" "I") (List.mem_of_getElem? (i := 1) rfl)) (fun _ h9 => h9) rfl dX7_count_41 ?_
    exact nw_iret (rm := ({ frames := 0, cells := 0, slots := 0, locals := 0 } : Room)) X hP hD hS (⟨by simp only [countF, nwIf_T, nwIf_F, or_true, true_or, or_false, false_or, and_true, true_and, and_false, false_and, not_true_eq_false, not_false_eq_true, Nat.add_sub_cancel, eq_true hw0], rfl⟩) dX7_count_44
  by_cases hw1 : p1 = 1
  · skip
    refine nw_st (st' := [.int 1]) (by rw [hw1]) ?_
    refine lv_tableIn (off := 42) (tgt := 45) hx hb dX7_count_3 (by decide) (by decide) (by rfl) (by decide) ?_
    refine lv_aload_n hx hb dX7_count_45 rfl (lv_at hl 1 rfl) ?_
    refine va_get (D := G.1) (ci := 6) (v := .int (nI (nv))) (C := RX7) (T := TX7) (N := 23) hx hb hts in_X7_count_X7 hown hK.1 hP 0 rfl rfl 10 (by decide) (hts (.fieldLink RX7 97 "NightWaterModel" "valves" "I") (List.mem_of_getElem? (i := 2) rfl)) (fun _ h9 => h9) rfl dX7_count_46 ?_
    exact nw_iret (rm := ({ frames := 0, cells := 0, slots := 0, locals := 0 } : Room)) X hP hD hS (⟨by simp only [countF, nwIf_T, nwIf_F, or_true, true_or, or_false, false_or, and_true, true_and, and_false, false_and, not_true_eq_false, not_false_eq_true, Nat.add_sub_cancel, hw0, eq_true hw1], rfl⟩) dX7_count_49
  by_cases hw2 : p1 = 2
  · skip
    refine nw_st (st' := [.int 2]) (by rw [hw2]) ?_
    refine lv_tableIn (off := 47) (tgt := 50) hx hb dX7_count_3 (by decide) (by decide) (by rfl) (by decide) ?_
    refine lv_aload_n hx hb dX7_count_50 rfl (lv_at hl 1 rfl) ?_
    refine va_get (D := G.1) (ci := 6) (v := .int (nI (ns))) (C := RX7) (T := TX7) (N := 23) hx hb hts in_X7_count_X7 hown hK.1 hP 0 rfl rfl 15 (by decide) (hts (.fieldLink RX7 41 "NightWaterModel" "sections" "I") (List.mem_of_getElem? (i := 3) rfl)) (fun _ h9 => h9) rfl dX7_count_51 ?_
    exact nw_iret (rm := ({ frames := 0, cells := 0, slots := 0, locals := 0 } : Room)) X hP hD hS (⟨by simp only [countF, nwIf_T, nwIf_F, or_true, true_or, or_false, false_or, and_true, true_and, and_false, false_and, not_true_eq_false, not_false_eq_true, Nat.add_sub_cancel, hw0, hw1, eq_true hw2], rfl⟩) dX7_count_54
  by_cases hw3 : p1 = 3
  · skip
    refine nw_st (st' := [.int 3]) (by rw [hw3]) ?_
    refine lv_tableIn (off := 52) (tgt := 55) hx hb dX7_count_3 (by decide) (by decide) (by rfl) (by decide) ?_
    refine lv_aload_n hx hb dX7_count_55 rfl (lv_at hl 1 rfl) ?_
    refine va_get (D := G.1) (ci := 6) (v := .int (nI (nd))) (C := RX7) (T := TX7) (N := 23) hx hb hts in_X7_count_X7 hown hK.1 hP 0 rfl rfl 19 (by decide) (hts (.fieldLink RX7 133 "NightWaterModel" "digs" "I") (List.mem_of_getElem? (i := 4) rfl)) (fun _ h9 => h9) rfl dX7_count_56 ?_
    exact nw_iret (rm := ({ frames := 0, cells := 0, slots := 0, locals := 0 } : Room)) X hP hD hS (⟨by simp only [countF, nwIf_T, nwIf_F, or_true, true_or, or_false, false_or, and_true, true_and, and_false, false_and, not_true_eq_false, not_false_eq_true, Nat.add_sub_cancel, hw0, hw1, hw2, eq_true hw3], rfl⟩) dX7_count_59
  by_cases hw4 : p1 = 4
  · skip
    refine nw_st (st' := [.int 4]) (by rw [hw4]) ?_
    refine lv_tableIn (off := 57) (tgt := 60) hx hb dX7_count_3 (by decide) (by decide) (by rfl) (by decide) ?_
    refine lv_iconst (v := (0)) hx hb dX7_count_60 (by decide) ?_
    refine lv_istore_n (lv' := [(3, .int (0)), (2, .int (0)), (0, .ref (a 0)), (1, .int (p1))]) hx hb dX7_count_61 rfl hl (by decide) rfl (fun ls hl => ?_)
    have K62 : ∀ (fuel : Nat) (k : Nat) (x1 : Int32) (H : Heap) (locs : List Loc) (ls : Array Slot), (193 - k) < fuel → (k ≤ 24 * n) → (x1 = rlF M k) → lv_has ls 4 [(3, .int (nI (k))), (2, .int (x1)), (0, .ref (a 0)), (1, .int (p1))] → va_P G.1 vwCl ((wM G (a) (n) (cu) (bg) ((coF M)) ((goF M)) (er) (us) (ll) (lm) (lh) (nv) (fr) (tt) (gr) ((hdF2 ML)) (ns) (w) (cs) (cl) (nd) (lo) (ho) (so))) H → va_D vA ((wM G (a) (n) (cu) (bg) ((coF M)) ((goF M)) (er) (us) (ll) (lm) (lh) (nv) (fr) (tt) (gr) ((hdF2 ML)) (ns) (w) (cs) (cl) (nd) (lo) (ho) (so))) → va_S vA vs.heap H locs → W vp lc ve ({ frames := 0, cells := 0, slots := 0, locals := 0 } : Room) vs vm ([.ref (a 0), .int (p1)] : List Value).toArray vb vt vc H locs 0 0 (MQ vb (nwQi G (fun r ww => r = countF n nv ns nd M ML p1 ∧ ww = wM G (a) (n) (cu) (bg) ((coF M)) ((goF M)) (er) (us) (ll) (lm) (lh) (nv) (fr) (tt) (gr) ((hdF2 ML)) (ns) (w) (cs) (cl) (nd) (lo) (ho) (so)) vA) ([.ref (a 0), .int (p1)] : List Value).toArray vs ({ frames := 0, cells := 0, slots := 0, locals := 0 } : Room).cells ({ frames := 0, cells := 0, slots := 0, locals := 0 } : Room).slots vA) (F0 vm 62 ls []) := by
      intro fuel
      induction fuel with
      | zero => intro k x1 H locs ls hmu; exact absurd hmu (Nat.not_lt_zero _)
      | succ fuel ih62 =>
        intro k x1 H locs ls hmu hk e1 hl hP hD hS
        refine lv_iload_n hx hb dX7_count_62 rfl (lv_at hl 0 rfl) ?_
        refine lv_bipush (v := (24)) hx hb dX7_count_63 (by decide) ?_
        refine lv_aload_n hx hb dX7_count_65 rfl (lv_at hl 2 rfl) ?_
        refine va_get (D := G.1) (ci := 6) (v := .int (nI (n))) (C := RX7) (T := TX7) (N := 23) hx hb hts in_X7_count_X7 hown hK.1 hP 0 rfl rfl 0 (by decide) (hts (.fieldLink RX7 62 "NightWaterModel" "zones" "I") (List.mem_of_getElem? (i := 1) rfl)) (fun _ h9 => h9) rfl dX7_count_66 ?_
        refine lv_imul hx hb dX7_count_69 ?_
        refine nw_top (y := nI (24 * n)) (pk_mul (24) (n)) ?_
        refine lv_icmp_ge (tgt := 113) hx hb dX7_count_70 (by decide) (fun b70_1 => ?_) (fun b70_1 => ?_)
        · skip
          have b70_1 : (24 * n) ≤ (k) := (nI_leI (a := 24 * n) (b := k) (by omega) (by omega)).mp b70_1
          have b70_1n : ¬ ((k) < (24 * n)) := by omega
          refine lv_iload_n hx hb dX7_count_113 rfl (lv_at hl 1 rfl) ?_
          exact nw_iret (rm := ({ frames := 0, cells := 0, slots := 0, locals := 0 } : Room)) X hP hD hS (⟨by simp only [countF, nwIf_T, nwIf_F, or_true, true_or, or_false, false_or, and_true, true_and, and_false, false_and, not_true_eq_false, not_false_eq_true, Nat.add_sub_cancel, hw0, hw1, hw2, hw3, eq_true hw4, b70_1n, b70_1]; exact e1.trans (by rw [show k = 24 * n by omega]), rfl⟩) dX7_count_114
        · skip
          have b70_1 : ¬ ((24 * n) ≤ (k)) := fun h => b70_1 ((nI_leI (a := 24 * n) (b := k) (by omega) (by omega)).mpr h)
          have b70_1n : (k) < (24 * n) := by omega
          refine lv_iload_n hx hb dX7_count_73 rfl (lv_at hl 1 rfl) ?_
          refine lv_aload_n hx hb dX7_count_74 rfl (lv_at hl 2 rfl) ?_
          refine va_get (D := G.1) (ci := 6) (v := .ref (a 3)) (C := RX7) (T := TX7) (N := 23) hx hb hts in_X7_count_X7 hown hK.1 hP 0 rfl rfl 3 (by decide) (hts (.fieldLink RX7 16 "NightWaterModel" "comes" "[I") (List.mem_of_getElem? (i := 5) rfl)) (fun _ h9 => h9) rfl dX7_count_75 ?_
          refine lv_iload_n hx hb dX7_count_78 rfl (lv_at hl 0 rfl) ?_
          refine nw_iald X hP 3 (n := 192) (f := ((coF M))) rfl (k) rfl (by omega) (by decide) dX7_count_79 ?_
          refine nw_top (y := M (k / 24) (k % 24)) (coF_d (by omega)) ?_
          refine lv_iconst (v := (-1)) hx hb dX7_count_80 (by decide) ?_
          refine lv_icmp_ne (tgt := 88) hx hb dX7_count_81 (by decide) (fun b81_2 => ?_) (fun b81_2 => ?_)
          · skip
            have b81_2 : ¬ ((M (k / 24) (k % 24)) = (-1 : Int32)) := b81_2
            refine lv_iconst (v := (0)) hx hb dX7_count_88 (by decide) ?_
            refine lv_aload_n hx hb dX7_count_89 rfl (lv_at hl 2 rfl) ?_
            refine va_get (D := G.1) (ci := 6) (v := .ref (a 4)) (C := RX7) (T := TX7) (N := 23) hx hb hts in_X7_count_X7 hown hK.1 hP 0 rfl rfl 4 (by decide) (hts (.fieldLink RX7 19 "NightWaterModel" "goes" "[I") (List.mem_of_getElem? (i := 6) rfl)) (fun _ h9 => h9) rfl dX7_count_90 ?_
            refine lv_iload_n hx hb dX7_count_93 rfl (lv_at hl 0 rfl) ?_
            refine nw_iald X hP 4 (n := 192) (f := ((goF M))) rfl (k) rfl (by omega) (by decide) dX7_count_94 ?_
            refine nw_top (y := M (8 + k / 24) (k % 24)) (goF_d (by omega)) ?_
            refine lv_iconst (v := (-1)) hx hb dX7_count_95 (by decide) ?_
            refine lv_icmp_ne (tgt := 103) hx hb dX7_count_96 (by decide) (fun b96_3 => ?_) (fun b96_3 => ?_)
            · skip
              have b96_3 : ¬ ((M (8 + k / 24) (k % 24)) = (-1 : Int32)) := b96_3
              refine lv_iconst (v := (0)) hx hb dX7_count_103 (by decide) ?_
              refine lv_iadd hx hb dX7_count_104 ?_
              refine nw_top (y := (0)) (by decide) ?_
              refine lv_iadd hx hb dX7_count_105 ?_
              refine lv_istore_n (lv' := [(2, .int ((x1) + (0 : Int32))), (3, .int (nI (k))), (0, .ref (a 0)), (1, .int (p1))]) hx hb dX7_count_106 rfl hl (by decide) rfl (fun ls hl => ?_)
              refine lv_iinc (v := (nI (k + 1))) (lv' := [(3, .int (nI (k + 1))), (2, .int ((x1) + (0 : Int32))), (0, .ref (a 0)), (1, .int (p1))]) hx hb dX7_count_107 hl (k := 1) rfl (by exact nI_add (k) 1) (by decide) rfl (fun ls hl => ?_)
              refine lv_goto (tgt := 62) hx hb dX7_count_110 (by decide) ?_
              exact ih62 (k + 1) (((x1) + (0 : Int32))) _ _ _ (by omega) (by omega) (by rw [rlF_s2, ← e1]; simp only [nwIf_T, nwIf_F, or_true, true_or, or_false, false_or, and_true, true_and, and_false, false_and, not_true_eq_false, not_false_eq_true, Nat.add_sub_cancel, hw0, hw1, hw2, hw3, eq_true hw4, b70_1n, b70_1, b81_2, b96_3]; exact congrArg (fun q => x1 + q) (by decide)) (lv_sub hl [0, 1, 2, 3] rfl) hP hD hS
            · skip
              have b96_3 : (M (8 + k / 24) (k % 24)) = (-1 : Int32) := b96_3
              refine lv_iconst (v := (1)) hx hb dX7_count_99 (by decide) ?_
              refine lv_goto (tgt := 104) hx hb dX7_count_100 (by decide) ?_
              refine lv_iadd hx hb dX7_count_104 ?_
              refine nw_top (y := (1)) (by decide) ?_
              refine lv_iadd hx hb dX7_count_105 ?_
              refine lv_istore_n (lv' := [(2, .int ((x1) + (1 : Int32))), (3, .int (nI (k))), (0, .ref (a 0)), (1, .int (p1))]) hx hb dX7_count_106 rfl hl (by decide) rfl (fun ls hl => ?_)
              refine lv_iinc (v := (nI (k + 1))) (lv' := [(3, .int (nI (k + 1))), (2, .int ((x1) + (1 : Int32))), (0, .ref (a 0)), (1, .int (p1))]) hx hb dX7_count_107 hl (k := 1) rfl (by exact nI_add (k) 1) (by decide) rfl (fun ls hl => ?_)
              refine lv_goto (tgt := 62) hx hb dX7_count_110 (by decide) ?_
              exact ih62 (k + 1) (((x1) + (1 : Int32))) _ _ _ (by omega) (by omega) (by rw [rlF_s2, ← e1]; simp only [nwIf_T, nwIf_F, or_true, true_or, or_false, false_or, and_true, true_and, and_false, false_and, not_true_eq_false, not_false_eq_true, Nat.add_sub_cancel, hw0, hw1, hw2, hw3, eq_true hw4, b70_1n, b70_1, b81_2, eq_true b96_3]; exact congrArg (fun q => x1 + q) (by decide)) (lv_sub hl [0, 1, 2, 3] rfl) hP hD hS
          · skip
            have b81_2 : (M (k / 24) (k % 24)) = (-1 : Int32) := b81_2
            refine lv_iconst (v := (1)) hx hb dX7_count_84 (by decide) ?_
            refine lv_goto (tgt := 89) hx hb dX7_count_85 (by decide) ?_
            refine lv_aload_n hx hb dX7_count_89 rfl (lv_at hl 2 rfl) ?_
            refine va_get (D := G.1) (ci := 6) (v := .ref (a 4)) (C := RX7) (T := TX7) (N := 23) hx hb hts in_X7_count_X7 hown hK.1 hP 0 rfl rfl 4 (by decide) (hts (.fieldLink RX7 19 "NightWaterModel" "goes" "[I") (List.mem_of_getElem? (i := 6) rfl)) (fun _ h9 => h9) rfl dX7_count_90 ?_
            refine lv_iload_n hx hb dX7_count_93 rfl (lv_at hl 0 rfl) ?_
            refine nw_iald X hP 4 (n := 192) (f := ((goF M))) rfl (k) rfl (by omega) (by decide) dX7_count_94 ?_
            refine nw_top (y := M (8 + k / 24) (k % 24)) (goF_d (by omega)) ?_
            refine lv_iconst (v := (-1)) hx hb dX7_count_95 (by decide) ?_
            refine lv_icmp_ne (tgt := 103) hx hb dX7_count_96 (by decide) (fun b96_4 => ?_) (fun b96_4 => ?_)
            · skip
              have b96_4 : ¬ ((M (8 + k / 24) (k % 24)) = (-1 : Int32)) := b96_4
              refine lv_iconst (v := (0)) hx hb dX7_count_103 (by decide) ?_
              refine lv_iadd hx hb dX7_count_104 ?_
              refine nw_top (y := (1)) (by decide) ?_
              refine lv_iadd hx hb dX7_count_105 ?_
              refine lv_istore_n (lv' := [(2, .int ((x1) + (1 : Int32))), (3, .int (nI (k))), (0, .ref (a 0)), (1, .int (p1))]) hx hb dX7_count_106 rfl hl (by decide) rfl (fun ls hl => ?_)
              refine lv_iinc (v := (nI (k + 1))) (lv' := [(3, .int (nI (k + 1))), (2, .int ((x1) + (1 : Int32))), (0, .ref (a 0)), (1, .int (p1))]) hx hb dX7_count_107 hl (k := 1) rfl (by exact nI_add (k) 1) (by decide) rfl (fun ls hl => ?_)
              refine lv_goto (tgt := 62) hx hb dX7_count_110 (by decide) ?_
              exact ih62 (k + 1) (((x1) + (1 : Int32))) _ _ _ (by omega) (by omega) (by rw [rlF_s2, ← e1]; simp only [nwIf_T, nwIf_F, or_true, true_or, or_false, false_or, and_true, true_and, and_false, false_and, not_true_eq_false, not_false_eq_true, Nat.add_sub_cancel, hw0, hw1, hw2, hw3, eq_true hw4, b70_1n, b70_1, eq_true b81_2, b96_4]; exact congrArg (fun q => x1 + q) (by decide)) (lv_sub hl [0, 1, 2, 3] rfl) hP hD hS
            · skip
              have b96_4 : (M (8 + k / 24) (k % 24)) = (-1 : Int32) := b96_4
              refine lv_iconst (v := (1)) hx hb dX7_count_99 (by decide) ?_
              refine lv_goto (tgt := 104) hx hb dX7_count_100 (by decide) ?_
              refine lv_iadd hx hb dX7_count_104 ?_
              refine nw_top (y := (2)) (by decide) ?_
              refine lv_iadd hx hb dX7_count_105 ?_
              refine lv_istore_n (lv' := [(2, .int ((x1) + (2 : Int32))), (3, .int (nI (k))), (0, .ref (a 0)), (1, .int (p1))]) hx hb dX7_count_106 rfl hl (by decide) rfl (fun ls hl => ?_)
              refine lv_iinc (v := (nI (k + 1))) (lv' := [(3, .int (nI (k + 1))), (2, .int ((x1) + (2 : Int32))), (0, .ref (a 0)), (1, .int (p1))]) hx hb dX7_count_107 hl (k := 1) rfl (by exact nI_add (k) 1) (by decide) rfl (fun ls hl => ?_)
              refine lv_goto (tgt := 62) hx hb dX7_count_110 (by decide) ?_
              exact ih62 (k + 1) (((x1) + (2 : Int32))) _ _ _ (by omega) (by omega) (by rw [rlF_s2, ← e1]; simp only [nwIf_T, nwIf_F, or_true, true_or, or_false, false_or, and_true, true_and, and_false, false_and, not_true_eq_false, not_false_eq_true, Nat.add_sub_cancel, hw0, hw1, hw2, hw3, eq_true hw4, b70_1n, b70_1, eq_true b81_2, eq_true b96_4]; exact congrArg (fun q => x1 + q) (by decide)) (lv_sub hl [0, 1, 2, 3] rfl) hP hD hS
    exact K62 ((193 - (0)) + 1) (0) ((0 : Int32)) _ _ _ (Nat.lt_succ_self _) (by omega) (by rfl) (lv_sub hl [0, 1, 2, 3] rfl) hP hD hS
  by_cases hw5 : p1 = 5
  · skip
    refine nw_st (st' := [.int 5]) (by rw [hw5]) ?_
    refine lv_tableIn (off := 112) (tgt := 115) hx hb dX7_count_3 (by decide) (by decide) (by rfl) (by decide) ?_
    refine lv_iconst (v := (0)) hx hb dX7_count_115 (by decide) ?_
    refine lv_istore_n (lv' := [(3, .int (0)), (2, .int (0)), (0, .ref (a 0)), (1, .int (p1))]) hx hb dX7_count_116 rfl hl (by decide) rfl (fun ls hl => ?_)
    have K117 : ∀ (fuel : Nat) (k : Nat) (x1 : Int32) (H : Heap) (locs : List Loc) (ls : Array Slot), (129 - k) < fuel → (k ≤ 128) → (x1 = loF (hdF2 ML) k) → lv_has ls 4 [(3, .int (nI (k))), (2, .int (x1)), (0, .ref (a 0)), (1, .int (p1))] → va_P G.1 vwCl ((wM G (a) (n) (cu) (bg) ((coF M)) ((goF M)) (er) (us) (ll) (lm) (lh) (nv) (fr) (tt) (gr) ((hdF2 ML)) (ns) (w) (cs) (cl) (nd) (lo) (ho) (so))) H → va_D vA ((wM G (a) (n) (cu) (bg) ((coF M)) ((goF M)) (er) (us) (ll) (lm) (lh) (nv) (fr) (tt) (gr) ((hdF2 ML)) (ns) (w) (cs) (cl) (nd) (lo) (ho) (so))) → va_S vA vs.heap H locs → W vp lc ve ({ frames := 0, cells := 0, slots := 0, locals := 0 } : Room) vs vm ([.ref (a 0), .int (p1)] : List Value).toArray vb vt vc H locs 0 0 (MQ vb (nwQi G (fun r ww => r = countF n nv ns nd M ML p1 ∧ ww = wM G (a) (n) (cu) (bg) ((coF M)) ((goF M)) (er) (us) (ll) (lm) (lh) (nv) (fr) (tt) (gr) ((hdF2 ML)) (ns) (w) (cs) (cl) (nd) (lo) (ho) (so)) vA) ([.ref (a 0), .int (p1)] : List Value).toArray vs ({ frames := 0, cells := 0, slots := 0, locals := 0 } : Room).cells ({ frames := 0, cells := 0, slots := 0, locals := 0 } : Room).slots vA) (F0 vm 117 ls []) := by
      intro fuel
      induction fuel with
      | zero => intro k x1 H locs ls hmu; exact absurd hmu (Nat.not_lt_zero _)
      | succ fuel ih117 =>
        intro k x1 H locs ls hmu hk e1 hl hP hD hS
        refine lv_iload_n hx hb dX7_count_117 rfl (lv_at hl 0 rfl) ?_
        refine lv_sipush (v := (128)) hx hb dX7_count_118 (by decide) ?_
        refine lv_icmp_ge (tgt := 149) hx hb dX7_count_121 (by decide) (fun b121_5 => ?_) (fun b121_5 => ?_)
        · skip
          have b121_5 : (128) ≤ (k) := (nI_leI (a := 128) (b := k) (by omega) (by omega)).mp b121_5
          have b121_5n : ¬ ((k) < (128)) := by omega
          refine lv_iload_n hx hb dX7_count_149 rfl (lv_at hl 1 rfl) ?_
          exact nw_iret (rm := ({ frames := 0, cells := 0, slots := 0, locals := 0 } : Room)) X hP hD hS (⟨by simp only [countF, nwIf_T, nwIf_F, or_true, true_or, or_false, false_or, and_true, true_and, and_false, false_and, not_true_eq_false, not_false_eq_true, Nat.add_sub_cancel, hw0, hw1, hw2, hw3, hw4, eq_true hw5, b121_5n, b121_5]; exact e1.trans (by rw [show k = 128 by omega]; exact lostF_hd), rfl⟩) dX7_count_150
        · skip
          have b121_5 : ¬ ((128) ≤ (k)) := fun h => b121_5 ((nI_leI (a := 128) (b := k) (by omega) (by omega)).mpr h)
          have b121_5n : (k) < (128) := by omega
          refine lv_iload_n hx hb dX7_count_124 rfl (lv_at hl 1 rfl) ?_
          refine lv_aload_n hx hb dX7_count_125 rfl (lv_at hl 2 rfl) ?_
          refine va_get (D := G.1) (ci := 6) (v := .ref (a 8)) (C := RX7) (T := TX7) (N := 23) hx hb hts in_X7_count_X7 hown hK.1 hP 0 rfl rfl 14 (by decide) (hts (.fieldLink RX7 38 "NightWaterModel" "heard" "[I") (List.mem_of_getElem? (i := 7) rfl)) (fun _ h9 => h9) rfl dX7_count_126 ?_
          refine lv_iload_n hx hb dX7_count_129 rfl (lv_at hl 0 rfl) ?_
          refine nw_iald X hP 8 (n := 128) (f := ((hdF2 ML))) rfl (k) rfl (by omega) (by decide) dX7_count_130 ?_
          refine lv_ldc (own := RX7) (v := (-2000000000)) hx hb hown (hts (.constant RX7 92 (-2000000000)) (List.mem_of_getElem? (i := 8) rfl)) dX7_count_131 ?_
          refine lv_icmp_ne (tgt := 140) hx hb dX7_count_133 (by decide) (fun b133_6 => ?_) (fun b133_6 => ?_)
          · skip
            have b133_6 : ¬ ((((hdF2 ML)) (k)) = (-2000000000 : Int32)) := b133_6
            refine lv_iconst (v := (0)) hx hb dX7_count_140 (by decide) ?_
            refine lv_iadd hx hb dX7_count_141 ?_
            refine lv_istore_n (lv' := [(2, .int ((x1) + (0 : Int32))), (3, .int (nI (k))), (0, .ref (a 0)), (1, .int (p1))]) hx hb dX7_count_142 rfl hl (by decide) rfl (fun ls hl => ?_)
            refine lv_iinc (v := (nI (k + 1))) (lv' := [(3, .int (nI (k + 1))), (2, .int ((x1) + (0 : Int32))), (0, .ref (a 0)), (1, .int (p1))]) hx hb dX7_count_143 hl (k := 1) rfl (by exact nI_add (k) 1) (by decide) rfl (fun ls hl => ?_)
            refine lv_goto (tgt := 117) hx hb dX7_count_146 (by decide) ?_
            exact ih117 (k + 1) (((x1) + (0 : Int32))) _ _ _ (by omega) (by omega) (by rw [loF_s, ← e1]; simp only [nwIf_T, nwIf_F, or_true, true_or, or_false, false_or, and_true, true_and, and_false, false_and, not_true_eq_false, not_false_eq_true, Nat.add_sub_cancel, hw0, hw1, hw2, hw3, hw4, eq_true hw5, b121_5n, b121_5, b133_6]) (lv_sub hl [0, 1, 2, 3] rfl) hP hD hS
          · skip
            have b133_6 : (((hdF2 ML)) (k)) = (-2000000000 : Int32) := b133_6
            refine lv_iconst (v := (1)) hx hb dX7_count_136 (by decide) ?_
            refine lv_goto (tgt := 141) hx hb dX7_count_137 (by decide) ?_
            refine lv_iadd hx hb dX7_count_141 ?_
            refine lv_istore_n (lv' := [(2, .int ((x1) + (1 : Int32))), (3, .int (nI (k))), (0, .ref (a 0)), (1, .int (p1))]) hx hb dX7_count_142 rfl hl (by decide) rfl (fun ls hl => ?_)
            refine lv_iinc (v := (nI (k + 1))) (lv' := [(3, .int (nI (k + 1))), (2, .int ((x1) + (1 : Int32))), (0, .ref (a 0)), (1, .int (p1))]) hx hb dX7_count_143 hl (k := 1) rfl (by exact nI_add (k) 1) (by decide) rfl (fun ls hl => ?_)
            refine lv_goto (tgt := 117) hx hb dX7_count_146 (by decide) ?_
            exact ih117 (k + 1) (((x1) + (1 : Int32))) _ _ _ (by omega) (by omega) (by rw [loF_s, ← e1]; simp only [nwIf_T, nwIf_F, or_true, true_or, or_false, false_or, and_true, true_and, and_false, false_and, not_true_eq_false, not_false_eq_true, Nat.add_sub_cancel, hw0, hw1, hw2, hw3, hw4, eq_true hw5, b121_5n, b121_5, eq_true b133_6]) (lv_sub hl [0, 1, 2, 3] rfl) hP hD hS
    exact K117 ((129 - (0)) + 1) (0) ((0 : Int32)) _ _ _ (Nat.lt_succ_self _) (by omega) (by rfl) (lv_sub hl [0, 1, 2, 3] rfl) hP hD hS
  have hi0 : ¬ p1.toInt = 0 := lv_neT hw0 (by decide)
  have hi1 : ¬ p1.toInt = 1 := lv_neT hw1 (by decide)
  have hi2 : ¬ p1.toInt = 2 := lv_neT hw2 (by decide)
  have hi3 : ¬ p1.toInt = 3 := lv_neT hw3 (by decide)
  have hi4 : ¬ p1.toInt = 4 := lv_neT hw4 (by decide)
  have hi5 : ¬ p1.toInt = 5 := lv_neT hw5 (by decide)
  refine lv_tableOut (tgt := 151) hx hb dX7_count_3 (by omega) (by decide) ?_
  refine lv_bipush (v := (-2)) hx hb dX7_count_151 (by decide) ?_
  exact nw_iret (rm := ({ frames := 0, cells := 0, slots := 0, locals := 0 } : Room)) X hP hD hS (⟨by simp only [countF, nwIf_T, nwIf_F, or_true, true_or, or_false, false_or, and_true, true_and, and_false, false_and, not_true_eq_false, not_false_eq_true, Nat.add_sub_cancel, hw0, hw1, hw2, hw3, hw4, hw5], rfl⟩) dX7_count_153
set_option maxHeartbeats 4000000 in
set_option maxRecDepth 100000 in
theorem c_X7_digest (lc : Launch) (G : nwG) (a : Nat → Nat) (n : Nat) (cu bg : Nat → Int32) (M : Nat → Nat → Int32) (er us ll lm lh : Int32) (nv : Nat) (fr tt gr : Nat → Nat) (ML : Nat → Nat → Int32) (ns : Nat) (w : Nat → Nat) (cs cl : Nat → Int32) (nd : Nat) (lo ho : Nat → Int32) (so : Nat → Nat)  (hn : n ≤ 8) (hnv : nv ≤ 12) (hn12 : ns ≤ 12) (hnd : nd ≤ 8) : nwCl lc G yX7_digest wsX7_digest ({ frames := 3, cells := 0, slots := 0, locals := 68 } : Room) [.ref (a 0)] ((wM G (a) (n) (cu) (bg) ((coF M)) ((goF M)) (er) (us) (ll) (lm) (lh) (nv) (fr) (tt) (gr) ((hdF2 ML)) (ns) (w) (cs) (cl) (nd) (lo) (ho) (so))) (fun r ww => ∃ llv lmv lhv : Int32, r = ddF lo ho (wdF w (mixR (ML 1) (mixR (ML 0) (vdF fr tt (zdF cu bg M er us (mixC (countF n nv ns nd M ML) 6) n) nv) 64) 64) ns) nd ∧ ww = wM G (a) (n) (cu) (bg) ((coF M)) ((goF M)) (er) (us) (llv) (lmv) (lhv) (nv) (fr) (tt) (gr) ((hdF2 ML)) (ns) (w) (cs) (cl) (nd) (lo) (ho) (so)) := by
  refine nw_of (cc := cX7_digest) (maxL := 5) (ret := (some .long)) (by decide) rfl (Nat.le_of_ble_eq_true rfl) ?_
  intro vp ve vs vm vb vt vc vA ls X hP hD hA hS hl
  have X : nwAt vp vm vc cX7_digest 5 vs _ wsX7_digest RX7 vt (some .long) "digest" G := X
  have hx := X.1.1
  have hb := X.1.2.1
  have hown := X.1.2.2.2.1
  have hts := X.1.2.2.2.2
  have hK := X.2.2.2.2
  have hl : lv_has ls 5 [(0, .ref (a 0))] := hl
  refine lv_ldc2 (own := RX7) (v := (197)) hx hb hown (hts (Cond.constantLong RX7 143 (197)) (List.mem_of_getElem? (i := 1) rfl)) dX7_digest_0 ?_
  refine lv_lstore_n (lv' := [(1, .long (197)), (0, .ref (a 0))]) hx hb dX7_digest_3 rfl hl (by decide) rfl (fun ls hl => ?_)
  refine lv_iconst (v := (0)) hx hb dX7_digest_4 (by decide) ?_
  refine lv_istore_n (lv' := [(3, .int (0)), (1, .long (197)), (0, .ref (a 0))]) hx hb dX7_digest_5 rfl hl (by decide) rfl (fun ls hl => ?_)
  have K6 : ∀ (fuel : Nat) (k : Nat) (x1 : Int64) (H : Heap) (locs : List Loc) (ls : Array Slot), (7 - k) < fuel → (k ≤ 6) → (x1 = mixC (countF n nv ns nd M ML) k) → lv_has ls 5 [(3, .int (nI (k))), (1, .long (x1)), (0, .ref (a 0))] → va_P G.1 vwCl ((wM G (a) (n) (cu) (bg) ((coF M)) ((goF M)) (er) (us) (ll) (lm) (lh) (nv) (fr) (tt) (gr) ((hdF2 ML)) (ns) (w) (cs) (cl) (nd) (lo) (ho) (so))) H → va_D vA ((wM G (a) (n) (cu) (bg) ((coF M)) ((goF M)) (er) (us) (ll) (lm) (lh) (nv) (fr) (tt) (gr) ((hdF2 ML)) (ns) (w) (cs) (cl) (nd) (lo) (ho) (so))) → va_S vA vs.heap H locs → W vp lc ve ({ frames := 3, cells := 0, slots := 0, locals := 68 } : Room) vs vm ([.ref (a 0)] : List Value).toArray vb vt vc H locs 0 0 (MQ vb (nwQl G (fun r ww => ∃ llv lmv lhv : Int32, r = ddF lo ho (wdF w (mixR (ML 1) (mixR (ML 0) (vdF fr tt (zdF cu bg M er us (mixC (countF n nv ns nd M ML) 6) n) nv) 64) 64) ns) nd ∧ ww = wM G (a) (n) (cu) (bg) ((coF M)) ((goF M)) (er) (us) (llv) (lmv) (lhv) (nv) (fr) (tt) (gr) ((hdF2 ML)) (ns) (w) (cs) (cl) (nd) (lo) (ho) (so)) vA) ([.ref (a 0)] : List Value).toArray vs ({ frames := 3, cells := 0, slots := 0, locals := 68 } : Room).cells ({ frames := 3, cells := 0, slots := 0, locals := 68 } : Room).slots vA) (F0 vm 6 ls []) := by
    intro fuel
    induction fuel with
    | zero => intro k x1 H locs ls hmu; exact absurd hmu (Nat.not_lt_zero _)
    | succ fuel ih6 =>
      intro k x1 H locs ls hmu hk e1 hl hP hD hS
      refine lv_iload_n hx hb dX7_digest_6 rfl (lv_at hl 0 rfl) ?_
      refine lv_bipush (v := (6)) hx hb dX7_digest_7 (by decide) ?_
      refine lv_icmp_ge (tgt := 31) hx hb dX7_digest_9 (by decide) (fun b9_1 => ?_) (fun b9_1 => ?_)
      · skip
        have b9_1 : (6) ≤ (k) := (nI_leI (a := 6) (b := k) (by omega) (by omega)).mp b9_1
        have b9_1n : ¬ ((k) < (6)) := by omega
        have e6 : x1 = mixC (countF n nv ns nd M ML) 6 := e1.trans (by rw [show k = 6 by omega])
        refine lv_iconst (v := (0)) hx hb dX7_digest_31 (by decide) ?_
        refine lv_istore_n (lv' := [(3, .int (0)), (1, .long (x1)), (0, .ref (a 0))]) hx hb dX7_digest_32 rfl hl (by decide) rfl (fun ls hl => ?_)
        have K33 : ∀ (fuel : Nat) (z : Nat) (x3 : Int64) (llw : Int32) (lmw : Int32) (lhw : Int32) (H : Heap) (locs : List Loc) (ls : Array Slot), (9 - z) < fuel → (z ≤ n) → (x3 = zdF cu bg M er us (mixC (countF n nv ns nd M ML) 6) z) → lv_has ls 5 [(3, .int (nI (z))), (1, .long (x3)), (0, .ref (a 0))] → va_P G.1 vwCl ((wM G (a) (n) (cu) (bg) ((coF M)) ((goF M)) (er) (us) (llw) (lmw) (lhw) (nv) (fr) (tt) (gr) ((hdF2 ML)) (ns) (w) (cs) (cl) (nd) (lo) (ho) (so))) H → va_D vA ((wM G (a) (n) (cu) (bg) ((coF M)) ((goF M)) (er) (us) (llw) (lmw) (lhw) (nv) (fr) (tt) (gr) ((hdF2 ML)) (ns) (w) (cs) (cl) (nd) (lo) (ho) (so))) → va_S vA vs.heap H locs → W vp lc ve ({ frames := 3, cells := 0, slots := 0, locals := 68 } : Room) vs vm ([.ref (a 0)] : List Value).toArray vb vt vc H locs 0 0 (MQ vb (nwQl G (fun r ww => ∃ llv lmv lhv : Int32, r = ddF lo ho (wdF w (mixR (ML 1) (mixR (ML 0) (vdF fr tt (zdF cu bg M er us (mixC (countF n nv ns nd M ML) 6) n) nv) 64) 64) ns) nd ∧ ww = wM G (a) (n) (cu) (bg) ((coF M)) ((goF M)) (er) (us) (llv) (lmv) (lhv) (nv) (fr) (tt) (gr) ((hdF2 ML)) (ns) (w) (cs) (cl) (nd) (lo) (ho) (so)) vA) ([.ref (a 0)] : List Value).toArray vs ({ frames := 3, cells := 0, slots := 0, locals := 68 } : Room).cells ({ frames := 3, cells := 0, slots := 0, locals := 68 } : Room).slots vA) (F0 vm 33 ls []) := by
          intro fuel
          induction fuel with
          | zero => intro z x3 llw lmw lhw H locs ls hmu; exact absurd hmu (Nat.not_lt_zero _)
          | succ fuel ih33 =>
            intro z x3 llw lmw lhw H locs ls hmu hz e3 hl hP hD hS
            refine lv_iload_n hx hb dX7_digest_33 rfl (lv_at hl 0 rfl) ?_
            refine lv_aload_n hx hb dX7_digest_34 rfl (lv_at hl 2 rfl) ?_
            refine va_get (D := G.1) (ci := 6) (v := .int (nI (n))) (C := RX7) (T := TX7) (N := 23) hx hb hts in_X7_digest_X7 hown hK.1 hP 0 rfl rfl 0 (by decide) (hts (Cond.fieldLink RX7 62 "NightWaterModel" "zones" "I") (List.mem_of_getElem? (i := 3) rfl)) (fun _ h9 => h9) rfl dX7_digest_35 ?_
            refine lv_icmp_ge (tgt := 125) hx hb dX7_digest_38 (by decide) (fun b38_2 => ?_) (fun b38_2 => ?_)
            · skip
              have b38_2 : (n) ≤ (z) := (nI_leI (a := n) (b := z) (by omega) (by omega)).mp b38_2
              have b38_2n : ¬ ((z) < (n)) := by omega
              refine lv_iconst (v := (0)) hx hb dX7_digest_125 (by decide) ?_
              refine lv_istore_n (lv' := [(3, .int (0)), (1, .long (x3)), (0, .ref (a 0))]) hx hb dX7_digest_126 rfl hl (by decide) rfl (fun ls hl => ?_)
              have K127 : ∀ (fuel : Nat) (i : Nat) (x4 : Int64) (H : Heap) (locs : List Loc) (ls : Array Slot), (13 - i) < fuel → (i ≤ nv) → (x4 = vdF fr tt (zdF cu bg M er us (mixC (countF n nv ns nd M ML) 6) n) i) → lv_has ls 5 [(3, .int (nI (i))), (1, .long (x4)), (0, .ref (a 0))] → va_P G.1 vwCl ((wM G (a) (n) (cu) (bg) ((coF M)) ((goF M)) (er) (us) (llw) (lmw) (lhw) (nv) (fr) (tt) (gr) ((hdF2 ML)) (ns) (w) (cs) (cl) (nd) (lo) (ho) (so))) H → va_D vA ((wM G (a) (n) (cu) (bg) ((coF M)) ((goF M)) (er) (us) (llw) (lmw) (lhw) (nv) (fr) (tt) (gr) ((hdF2 ML)) (ns) (w) (cs) (cl) (nd) (lo) (ho) (so))) → va_S vA vs.heap H locs → W vp lc ve ({ frames := 3, cells := 0, slots := 0, locals := 68 } : Room) vs vm ([.ref (a 0)] : List Value).toArray vb vt vc H locs 0 0 (MQ vb (nwQl G (fun r ww => ∃ llv lmv lhv : Int32, r = ddF lo ho (wdF w (mixR (ML 1) (mixR (ML 0) (vdF fr tt (zdF cu bg M er us (mixC (countF n nv ns nd M ML) 6) n) nv) 64) 64) ns) nd ∧ ww = wM G (a) (n) (cu) (bg) ((coF M)) ((goF M)) (er) (us) (llv) (lmv) (lhv) (nv) (fr) (tt) (gr) ((hdF2 ML)) (ns) (w) (cs) (cl) (nd) (lo) (ho) (so)) vA) ([.ref (a 0)] : List Value).toArray vs ({ frames := 3, cells := 0, slots := 0, locals := 68 } : Room).cells ({ frames := 3, cells := 0, slots := 0, locals := 68 } : Room).slots vA) (F0 vm 127 ls []) := by
                intro fuel
                induction fuel with
                | zero => intro i x4 H locs ls hmu; exact absurd hmu (Nat.not_lt_zero _)
                | succ fuel ih127 =>
                  intro i x4 H locs ls hmu hi e4 hl hP hD hS
                  refine lv_iload_n hx hb dX7_digest_127 rfl (lv_at hl 0 rfl) ?_
                  refine lv_aload_n hx hb dX7_digest_128 rfl (lv_at hl 2 rfl) ?_
                  refine va_get (D := G.1) (ci := 6) (v := .int (nI (nv))) (C := RX7) (T := TX7) (N := 23) hx hb hts in_X7_digest_X7 hown hK.1 hP 0 rfl rfl 10 (by decide) (hts (Cond.fieldLink RX7 97 "NightWaterModel" "valves" "I") (List.mem_of_getElem? (i := 6) rfl)) (fun _ h9 => h9) rfl dX7_digest_129 ?_
                  refine lv_icmp_ge (tgt := 167) hx hb dX7_digest_132 (by decide) (fun b132_3 => ?_) (fun b132_3 => ?_)
                  · skip
                    have b132_3 : (nv) ≤ (i) := (nI_leI (a := nv) (b := i) (by omega) (by omega)).mp b132_3
                    have b132_3n : ¬ ((i) < (nv)) := by omega
                    refine lv_iconst (v := (0)) hx hb dX7_digest_167 (by decide) ?_
                    refine lv_istore_n (lv' := [(3, .int (0)), (1, .long (x4)), (0, .ref (a 0))]) hx hb dX7_digest_168 rfl hl (by decide) rfl (fun ls hl => ?_)
                    have K169 : ∀ (fuel : Nat) (i5 : Nat) (x5 : Int64) (H : Heap) (locs : List Loc) (ls : Array Slot), (129 - i5) < fuel → (i5 ≤ 128) → (x5 = mixR (hdF2 ML) (vdF fr tt (zdF cu bg M er us (mixC (countF n nv ns nd M ML) 6) n) nv) i5) → lv_has ls 5 [(3, .int (nI (i5))), (1, .long (x5)), (0, .ref (a 0))] → va_P G.1 vwCl ((wM G (a) (n) (cu) (bg) ((coF M)) ((goF M)) (er) (us) (llw) (lmw) (lhw) (nv) (fr) (tt) (gr) ((hdF2 ML)) (ns) (w) (cs) (cl) (nd) (lo) (ho) (so))) H → va_D vA ((wM G (a) (n) (cu) (bg) ((coF M)) ((goF M)) (er) (us) (llw) (lmw) (lhw) (nv) (fr) (tt) (gr) ((hdF2 ML)) (ns) (w) (cs) (cl) (nd) (lo) (ho) (so))) → va_S vA vs.heap H locs → W vp lc ve ({ frames := 3, cells := 0, slots := 0, locals := 68 } : Room) vs vm ([.ref (a 0)] : List Value).toArray vb vt vc H locs 0 0 (MQ vb (nwQl G (fun r ww => ∃ llv lmv lhv : Int32, r = ddF lo ho (wdF w (mixR (ML 1) (mixR (ML 0) (vdF fr tt (zdF cu bg M er us (mixC (countF n nv ns nd M ML) 6) n) nv) 64) 64) ns) nd ∧ ww = wM G (a) (n) (cu) (bg) ((coF M)) ((goF M)) (er) (us) (llv) (lmv) (lhv) (nv) (fr) (tt) (gr) ((hdF2 ML)) (ns) (w) (cs) (cl) (nd) (lo) (ho) (so)) vA) ([.ref (a 0)] : List Value).toArray vs ({ frames := 3, cells := 0, slots := 0, locals := 68 } : Room).cells ({ frames := 3, cells := 0, slots := 0, locals := 68 } : Room).slots vA) (F0 vm 169 ls []) := by
                      intro fuel
                      induction fuel with
                      | zero => intro i5 x5 H locs ls hmu; exact absurd hmu (Nat.not_lt_zero _)
                      | succ fuel ih169 =>
                        intro i5 x5 H locs ls hmu hi5 e5 hl hP hD hS
                        refine lv_iload_n hx hb dX7_digest_169 rfl (lv_at hl 0 rfl) ?_
                        refine lv_sipush (v := (128)) hx hb dX7_digest_170 (by decide) ?_
                        refine lv_icmp_ge (tgt := 196) hx hb dX7_digest_173 (by decide) (fun b173_4 => ?_) (fun b173_4 => ?_)
                        · skip
                          have b173_4 : (128) ≤ (i5) := (nI_leI (a := 128) (b := i5) (by omega) (by omega)).mp b173_4
                          have b173_4n : ¬ ((i5) < (128)) := by omega
                          refine lv_iconst (v := (0)) hx hb dX7_digest_196 (by decide) ?_
                          refine lv_istore_n (lv' := [(3, .int (0)), (1, .long (x5)), (0, .ref (a 0))]) hx hb dX7_digest_197 rfl hl (by decide) rfl (fun ls hl => ?_)
                          have K198 : ∀ (fuel : Nat) (i7 : Nat) (x7 : Int64) (H : Heap) (locs : List Loc) (ls : Array Slot), (13 - i7) < fuel → (i7 ≤ ns) → (x7 = wdF w (mixR (ML 1) (mixR (ML 0) (vdF fr tt (zdF cu bg M er us (mixC (countF n nv ns nd M ML) 6) n) nv) 64) 64) i7) → lv_has ls 5 [(3, .int (nI (i7))), (1, .long (x7)), (0, .ref (a 0))] → va_P G.1 vwCl ((wM G (a) (n) (cu) (bg) ((coF M)) ((goF M)) (er) (us) (llw) (lmw) (lhw) (nv) (fr) (tt) (gr) ((hdF2 ML)) (ns) (w) (cs) (cl) (nd) (lo) (ho) (so))) H → va_D vA ((wM G (a) (n) (cu) (bg) ((coF M)) ((goF M)) (er) (us) (llw) (lmw) (lhw) (nv) (fr) (tt) (gr) ((hdF2 ML)) (ns) (w) (cs) (cl) (nd) (lo) (ho) (so))) → va_S vA vs.heap H locs → W vp lc ve ({ frames := 3, cells := 0, slots := 0, locals := 68 } : Room) vs vm ([.ref (a 0)] : List Value).toArray vb vt vc H locs 0 0 (MQ vb (nwQl G (fun r ww => ∃ llv lmv lhv : Int32, r = ddF lo ho (wdF w (mixR (ML 1) (mixR (ML 0) (vdF fr tt (zdF cu bg M er us (mixC (countF n nv ns nd M ML) 6) n) nv) 64) 64) ns) nd ∧ ww = wM G (a) (n) (cu) (bg) ((coF M)) ((goF M)) (er) (us) (llv) (lmv) (lhv) (nv) (fr) (tt) (gr) ((hdF2 ML)) (ns) (w) (cs) (cl) (nd) (lo) (ho) (so)) vA) ([.ref (a 0)] : List Value).toArray vs ({ frames := 3, cells := 0, slots := 0, locals := 68 } : Room).cells ({ frames := 3, cells := 0, slots := 0, locals := 68 } : Room).slots vA) (F0 vm 198 ls []) := by
                            intro fuel
                            induction fuel with
                            | zero => intro i7 x7 H locs ls hmu; exact absurd hmu (Nat.not_lt_zero _)
                            | succ fuel ih198 =>
                              intro i7 x7 H locs ls hmu hi7 e7 hl hP hD hS
                              refine lv_iload_n hx hb dX7_digest_198 rfl (lv_at hl 0 rfl) ?_
                              refine lv_aload_n hx hb dX7_digest_199 rfl (lv_at hl 2 rfl) ?_
                              refine va_get (D := G.1) (ci := 6) (v := .int (nI (ns))) (C := RX7) (T := TX7) (N := 23) hx hb hts in_X7_digest_X7 hown hK.1 hP 0 rfl rfl 15 (by decide) (hts (Cond.fieldLink RX7 41 "NightWaterModel" "sections" "I") (List.mem_of_getElem? (i := 10) rfl)) (fun _ h9 => h9) rfl dX7_digest_200 ?_
                              refine lv_icmp_ge (tgt := 226) hx hb dX7_digest_203 (by decide) (fun b203_5 => ?_) (fun b203_5 => ?_)
                              · skip
                                have b203_5 : (ns) ≤ (i7) := (nI_leI (a := ns) (b := i7) (by omega) (by omega)).mp b203_5
                                have b203_5n : ¬ ((i7) < (ns)) := by omega
                                refine lv_iconst (v := (0)) hx hb dX7_digest_226 (by decide) ?_
                                refine lv_istore_n (lv' := [(3, .int (0)), (1, .long (x7)), (0, .ref (a 0))]) hx hb dX7_digest_227 rfl hl (by decide) rfl (fun ls hl => ?_)
                                have K228 : ∀ (fuel : Nat) (i8 : Nat) (x8 : Int64) (H : Heap) (locs : List Loc) (ls : Array Slot), (9 - i8) < fuel → (i8 ≤ nd) → (x8 = ddF lo ho (wdF w (mixR (ML 1) (mixR (ML 0) (vdF fr tt (zdF cu bg M er us (mixC (countF n nv ns nd M ML) 6) n) nv) 64) 64) ns) i8) → lv_has ls 5 [(3, .int (nI (i8))), (1, .long (x8)), (0, .ref (a 0))] → va_P G.1 vwCl ((wM G (a) (n) (cu) (bg) ((coF M)) ((goF M)) (er) (us) (llw) (lmw) (lhw) (nv) (fr) (tt) (gr) ((hdF2 ML)) (ns) (w) (cs) (cl) (nd) (lo) (ho) (so))) H → va_D vA ((wM G (a) (n) (cu) (bg) ((coF M)) ((goF M)) (er) (us) (llw) (lmw) (lhw) (nv) (fr) (tt) (gr) ((hdF2 ML)) (ns) (w) (cs) (cl) (nd) (lo) (ho) (so))) → va_S vA vs.heap H locs → W vp lc ve ({ frames := 3, cells := 0, slots := 0, locals := 68 } : Room) vs vm ([.ref (a 0)] : List Value).toArray vb vt vc H locs 0 0 (MQ vb (nwQl G (fun r ww => ∃ llv lmv lhv : Int32, r = ddF lo ho (wdF w (mixR (ML 1) (mixR (ML 0) (vdF fr tt (zdF cu bg M er us (mixC (countF n nv ns nd M ML) 6) n) nv) 64) 64) ns) nd ∧ ww = wM G (a) (n) (cu) (bg) ((coF M)) ((goF M)) (er) (us) (llv) (lmv) (lhv) (nv) (fr) (tt) (gr) ((hdF2 ML)) (ns) (w) (cs) (cl) (nd) (lo) (ho) (so)) vA) ([.ref (a 0)] : List Value).toArray vs ({ frames := 3, cells := 0, slots := 0, locals := 68 } : Room).cells ({ frames := 3, cells := 0, slots := 0, locals := 68 } : Room).slots vA) (F0 vm 228 ls []) := by
                                  intro fuel
                                  induction fuel with
                                  | zero => intro i8 x8 H locs ls hmu; exact absurd hmu (Nat.not_lt_zero _)
                                  | succ fuel ih228 =>
                                    intro i8 x8 H locs ls hmu hi8 e8 hl hP hD hS
                                    refine lv_iload_n hx hb dX7_digest_228 rfl (lv_at hl 0 rfl) ?_
                                    refine lv_aload_n hx hb dX7_digest_229 rfl (lv_at hl 2 rfl) ?_
                                    refine va_get (D := G.1) (ci := 6) (v := .int (nI (nd))) (C := RX7) (T := TX7) (N := 23) hx hb hts in_X7_digest_X7 hown hK.1 hP 0 rfl rfl 19 (by decide) (hts (Cond.fieldLink RX7 133 "NightWaterModel" "digs" "I") (List.mem_of_getElem? (i := 12) rfl)) (fun _ h9 => h9) rfl dX7_digest_230 ?_
                                    refine lv_icmp_ge (tgt := 268) hx hb dX7_digest_233 (by decide) (fun b233_6 => ?_) (fun b233_6 => ?_)
                                    · skip
                                      have b233_6 : (nd) ≤ (i8) := (nI_leI (a := nd) (b := i8) (by omega) (by omega)).mp b233_6
                                      have b233_6n : ¬ ((i8) < (nd)) := by omega
                                      refine lv_lload_n hx hb dX7_digest_268 rfl (lv_at hl 1 rfl) ?_
                                      exact nw_lret (rm := ({ frames := 3, cells := 0, slots := 0, locals := 68 } : Room)) X hP hD hS (⟨_, _, _, e8.trans (by rw [show i8 = nd by omega]), rfl⟩) dX7_digest_269
                                    · skip
                                      have b233_6 : ¬ ((nd) ≤ (i8)) := fun h => b233_6 ((nI_leI (a := nd) (b := i8) (by omega) (by omega)).mpr h)
                                      have b233_6n : (i8) < (nd) := by omega
                                      refine lv_ldc2 (own := RX7) (v := (31)) hx hb hown (hts (Cond.constantLong RX7 145 (31)) (List.mem_of_getElem? (i := 2) rfl)) dX7_digest_236 ?_
                                      refine lv_ldc2 (own := RX7) (v := (31)) hx hb hown (hts (Cond.constantLong RX7 145 (31)) (List.mem_of_getElem? (i := 2) rfl)) dX7_digest_239 ?_
                                      refine lv_lload_n hx hb dX7_digest_242 rfl (lv_at hl 1 rfl) ?_
                                      refine lv_lmul hx hb dX7_digest_243 ?_
                                      refine lv_aload_n hx hb dX7_digest_244 rfl (lv_at hl 2 rfl) ?_
                                      refine va_get (D := G.1) (ci := 6) (v := .ref (a 12)) (C := RX7) (T := TX7) (N := 23) hx hb hts in_X7_digest_X7 hown hK.1 hP 0 rfl rfl 20 (by decide) (hts (Cond.fieldLink RX7 53 "NightWaterModel" "loses" "[I") (List.mem_of_getElem? (i := 13) rfl)) (fun _ h9 => h9) rfl dX7_digest_245 ?_
                                      refine lv_iload_n hx hb dX7_digest_248 rfl (lv_at hl 0 rfl) ?_
                                      refine nw_iald X hP 12 (n := 8) (f := (lo)) rfl (i8) rfl (by omega) (by decide) dX7_digest_249 ?_
                                      refine lv_i2l (v := (lo (i8)).toInt64) hx hb dX7_digest_250 rfl ?_
                                      refine lv_ladd hx hb dX7_digest_251 ?_
                                      refine lv_lmul hx hb dX7_digest_252 ?_
                                      refine lv_aload_n hx hb dX7_digest_253 rfl (lv_at hl 2 rfl) ?_
                                      refine va_get (D := G.1) (ci := 6) (v := .ref (a 13)) (C := RX7) (T := TX7) (N := 23) hx hb hts in_X7_digest_X7 hown hK.1 hP 0 rfl rfl 21 (by decide) (hts (Cond.fieldLink RX7 56 "NightWaterModel" "hours" "[I") (List.mem_of_getElem? (i := 14) rfl)) (fun _ h9 => h9) rfl dX7_digest_254 ?_
                                      refine lv_iload_n hx hb dX7_digest_257 rfl (lv_at hl 0 rfl) ?_
                                      refine nw_iald X hP 13 (n := 8) (f := (ho)) rfl (i8) rfl (by omega) (by decide) dX7_digest_258 ?_
                                      refine lv_i2l (v := (ho (i8)).toInt64) hx hb dX7_digest_259 rfl ?_
                                      refine lv_ladd hx hb dX7_digest_260 ?_
                                      refine lv_lstore_n (lv' := [(1, .long (((31) * (((31) * (x8)) + ((lo (i8)).toInt64))) + ((ho (i8)).toInt64))), (3, .int (nI (i8))), (0, .ref (a 0))]) hx hb dX7_digest_261 rfl hl (by decide) rfl (fun ls hl => ?_)
                                      refine lv_iinc (v := (nI (i8 + 1))) (lv' := [(3, .int (nI (i8 + 1))), (1, .long (((31) * (((31) * (x8)) + ((lo (i8)).toInt64))) + ((ho (i8)).toInt64))), (0, .ref (a 0))]) hx hb dX7_digest_262 hl (k := 1) rfl (by exact nI_add (i8) 1) (by decide) rfl (fun ls hl => ?_)
                                      refine lv_goto (tgt := 228) hx hb dX7_digest_265 (by decide) ?_
                                      exact ih228 (i8 + 1) ((((31) * (((31) * (x8)) + ((lo (i8)).toInt64))) + ((ho (i8)).toInt64))) _ _ _ (by omega) (by omega) (by rw [ddF_s, e8]) (lv_sub hl [0, 1, 2] rfl) hP hD hS
                                exact K228 ((9 - (0)) + 1) (0) ((x7)) _ _ _ (Nat.lt_succ_self _) (by omega) (by exact e7.trans (by rw [show i7 = ns by omega]; rfl)) (lv_sub hl [0, 1, 2] rfl) hP hD hS
                              · skip
                                have b203_5 : ¬ ((ns) ≤ (i7)) := fun h => b203_5 ((nI_leI (a := ns) (b := i7) (by omega) (by omega)).mpr h)
                                have b203_5n : (i7) < (ns) := by omega
                                refine lv_ldc2 (own := RX7) (v := (31)) hx hb hown (hts (Cond.constantLong RX7 145 (31)) (List.mem_of_getElem? (i := 2) rfl)) dX7_digest_206 ?_
                                refine lv_lload_n hx hb dX7_digest_209 rfl (lv_at hl 1 rfl) ?_
                                refine lv_lmul hx hb dX7_digest_210 ?_
                                refine lv_aload_n hx hb dX7_digest_211 rfl (lv_at hl 2 rfl) ?_
                                refine va_get (D := G.1) (ci := 6) (v := .ref (a 9)) (C := RX7) (T := TX7) (N := 23) hx hb hts in_X7_digest_X7 hown hK.1 hP 0 rfl rfl 16 (by decide) (hts (Cond.fieldLink RX7 44 "NightWaterModel" "weight" "[I") (List.mem_of_getElem? (i := 11) rfl)) (fun _ h9 => h9) rfl dX7_digest_212 ?_
                                refine lv_iload_n hx hb dX7_digest_215 rfl (lv_at hl 0 rfl) ?_
                                refine nw_iald X hP 9 (n := 12) (f := (fun j => nI (w j))) rfl (i7) rfl (by omega) (by decide) dX7_digest_216 ?_
                                refine lv_i2l (v := (nI (w (i7))).toInt64) hx hb dX7_digest_217 rfl ?_
                                refine lv_ladd hx hb dX7_digest_218 ?_
                                refine lv_lstore_n (lv' := [(1, .long (((31) * (x7)) + ((nI (w (i7))).toInt64))), (3, .int (nI (i7))), (0, .ref (a 0))]) hx hb dX7_digest_219 rfl hl (by decide) rfl (fun ls hl => ?_)
                                refine lv_iinc (v := (nI (i7 + 1))) (lv' := [(3, .int (nI (i7 + 1))), (1, .long (((31) * (x7)) + ((nI (w (i7))).toInt64))), (0, .ref (a 0))]) hx hb dX7_digest_220 hl (k := 1) rfl (by exact nI_add (i7) 1) (by decide) rfl (fun ls hl => ?_)
                                refine lv_goto (tgt := 198) hx hb dX7_digest_223 (by decide) ?_
                                exact ih198 (i7 + 1) ((((31) * (x7)) + ((nI (w (i7))).toInt64))) _ _ _ (by omega) (by omega) (by rw [wdF_s, e7]) (lv_sub hl [0, 1, 2] rfl) hP hD hS
                          exact K198 ((13 - (0)) + 1) (0) ((x5)) _ _ _ (Nat.lt_succ_self _) (by omega) (by exact e5.trans (by rw [show i5 = 128 by omega, mixR_hd]; rfl)) (lv_sub hl [0, 1, 2] rfl) hP hD hS
                        · skip
                          have b173_4 : ¬ ((128) ≤ (i5)) := fun h => b173_4 ((nI_leI (a := 128) (b := i5) (by omega) (by omega)).mpr h)
                          have b173_4n : (i5) < (128) := by omega
                          refine lv_ldc2 (own := RX7) (v := (31)) hx hb hown (hts (Cond.constantLong RX7 145 (31)) (List.mem_of_getElem? (i := 2) rfl)) dX7_digest_176 ?_
                          refine lv_lload_n hx hb dX7_digest_179 rfl (lv_at hl 1 rfl) ?_
                          refine lv_lmul hx hb dX7_digest_180 ?_
                          refine lv_aload_n hx hb dX7_digest_181 rfl (lv_at hl 2 rfl) ?_
                          refine va_get (D := G.1) (ci := 6) (v := .ref (a 8)) (C := RX7) (T := TX7) (N := 23) hx hb hts in_X7_digest_X7 hown hK.1 hP 0 rfl rfl 14 (by decide) (hts (Cond.fieldLink RX7 38 "NightWaterModel" "heard" "[I") (List.mem_of_getElem? (i := 9) rfl)) (fun _ h9 => h9) rfl dX7_digest_182 ?_
                          refine lv_iload_n hx hb dX7_digest_185 rfl (lv_at hl 0 rfl) ?_
                          refine nw_iald X hP 8 (n := 128) (f := ((hdF2 ML))) rfl (i5) rfl (by omega) (by decide) dX7_digest_186 ?_
                          refine lv_i2l (v := (((hdF2 ML)) (i5)).toInt64) hx hb dX7_digest_187 rfl ?_
                          refine lv_ladd hx hb dX7_digest_188 ?_
                          refine lv_lstore_n (lv' := [(1, .long (((31) * (x5)) + ((((hdF2 ML)) (i5)).toInt64))), (3, .int (nI (i5))), (0, .ref (a 0))]) hx hb dX7_digest_189 rfl hl (by decide) rfl (fun ls hl => ?_)
                          refine lv_iinc (v := (nI (i5 + 1))) (lv' := [(3, .int (nI (i5 + 1))), (1, .long (((31) * (x5)) + ((((hdF2 ML)) (i5)).toInt64))), (0, .ref (a 0))]) hx hb dX7_digest_190 hl (k := 1) rfl (by exact nI_add (i5) 1) (by decide) rfl (fun ls hl => ?_)
                          refine lv_goto (tgt := 169) hx hb dX7_digest_193 (by decide) ?_
                          exact ih169 (i5 + 1) ((((31) * (x5)) + ((((hdF2 ML)) (i5)).toInt64))) _ _ _ (by omega) (by omega) (by rw [mixR_s, e5]) (lv_sub hl [0, 1, 2] rfl) hP hD hS
                    exact K169 ((129 - (0)) + 1) (0) ((x4)) _ _ _ (Nat.lt_succ_self _) (by omega) (by exact e4.trans (by rw [show i = nv by omega]; rfl)) (lv_sub hl [0, 1, 2] rfl) hP hD hS
                  · skip
                    have b132_3 : ¬ ((nv) ≤ (i)) := fun h => b132_3 ((nI_leI (a := nv) (b := i) (by omega) (by omega)).mpr h)
                    have b132_3n : (i) < (nv) := by omega
                    refine lv_ldc2 (own := RX7) (v := (31)) hx hb hown (hts (Cond.constantLong RX7 145 (31)) (List.mem_of_getElem? (i := 2) rfl)) dX7_digest_135 ?_
                    refine lv_ldc2 (own := RX7) (v := (31)) hx hb hown (hts (Cond.constantLong RX7 145 (31)) (List.mem_of_getElem? (i := 2) rfl)) dX7_digest_138 ?_
                    refine lv_lload_n hx hb dX7_digest_141 rfl (lv_at hl 1 rfl) ?_
                    refine lv_lmul hx hb dX7_digest_142 ?_
                    refine lv_aload_n hx hb dX7_digest_143 rfl (lv_at hl 2 rfl) ?_
                    refine va_get (D := G.1) (ci := 6) (v := .ref (a 5)) (C := RX7) (T := TX7) (N := 23) hx hb hts in_X7_digest_X7 hown hK.1 hP 0 rfl rfl 11 (by decide) (hts (Cond.fieldLink RX7 29 "NightWaterModel" "one" "[I") (List.mem_of_getElem? (i := 7) rfl)) (fun _ h9 => h9) rfl dX7_digest_144 ?_
                    refine lv_iload_n hx hb dX7_digest_147 rfl (lv_at hl 0 rfl) ?_
                    refine nw_iald X hP 5 (n := 12) (f := (fun j => nI (fr j))) rfl (i) rfl (by omega) (by decide) dX7_digest_148 ?_
                    refine lv_i2l (v := (nI (fr (i))).toInt64) hx hb dX7_digest_149 rfl ?_
                    refine lv_ladd hx hb dX7_digest_150 ?_
                    refine lv_lmul hx hb dX7_digest_151 ?_
                    refine lv_aload_n hx hb dX7_digest_152 rfl (lv_at hl 2 rfl) ?_
                    refine va_get (D := G.1) (ci := 6) (v := .ref (a 6)) (C := RX7) (T := TX7) (N := 23) hx hb hts in_X7_digest_X7 hown hK.1 hP 0 rfl rfl 12 (by decide) (hts (Cond.fieldLink RX7 32 "NightWaterModel" "other" "[I") (List.mem_of_getElem? (i := 8) rfl)) (fun _ h9 => h9) rfl dX7_digest_153 ?_
                    refine lv_iload_n hx hb dX7_digest_156 rfl (lv_at hl 0 rfl) ?_
                    refine nw_iald X hP 6 (n := 12) (f := (fun j => nI (tt j))) rfl (i) rfl (by omega) (by decide) dX7_digest_157 ?_
                    refine lv_i2l (v := (nI (tt (i))).toInt64) hx hb dX7_digest_158 rfl ?_
                    refine lv_ladd hx hb dX7_digest_159 ?_
                    refine lv_lstore_n (lv' := [(1, .long (((31) * (((31) * (x4)) + ((nI (fr (i))).toInt64))) + ((nI (tt (i))).toInt64))), (3, .int (nI (i))), (0, .ref (a 0))]) hx hb dX7_digest_160 rfl hl (by decide) rfl (fun ls hl => ?_)
                    refine lv_iinc (v := (nI (i + 1))) (lv' := [(3, .int (nI (i + 1))), (1, .long (((31) * (((31) * (x4)) + ((nI (fr (i))).toInt64))) + ((nI (tt (i))).toInt64))), (0, .ref (a 0))]) hx hb dX7_digest_161 hl (k := 1) rfl (by exact nI_add (i) 1) (by decide) rfl (fun ls hl => ?_)
                    refine lv_goto (tgt := 127) hx hb dX7_digest_164 (by decide) ?_
                    exact ih127 (i + 1) ((((31) * (((31) * (x4)) + ((nI (fr (i))).toInt64))) + ((nI (tt (i))).toInt64))) _ _ _ (by omega) (by omega) (by rw [vdF_s, e4]) (lv_sub hl [0, 1, 2] rfl) hP hD hS
              exact K127 ((13 - (0)) + 1) (0) ((x3)) _ _ _ (Nat.lt_succ_self _) (by omega) (by exact e3.trans (by rw [show z = n by omega]; rfl)) (lv_sub hl [0, 1, 2] rfl) hP hD hS
            · skip
              have b38_2 : ¬ ((n) ≤ (z)) := fun h => b38_2 ((nI_leI (a := n) (b := z) (by omega) (by omega)).mpr h)
              have b38_2n : (z) < (n) := by omega
              refine lv_ldc2 (own := RX7) (v := (31)) hx hb hown (hts (Cond.constantLong RX7 145 (31)) (List.mem_of_getElem? (i := 2) rfl)) dX7_digest_41 ?_
              refine lv_ldc2 (own := RX7) (v := (31)) hx hb hown (hts (Cond.constantLong RX7 145 (31)) (List.mem_of_getElem? (i := 2) rfl)) dX7_digest_44 ?_
              refine lv_lload_n hx hb dX7_digest_47 rfl (lv_at hl 1 rfl) ?_
              refine lv_lmul hx hb dX7_digest_48 ?_
              refine lv_aload_n hx hb dX7_digest_49 rfl (lv_at hl 2 rfl) ?_
              refine lv_iload_n hx hb dX7_digest_50 rfl (lv_at hl 0 rfl) ?_
              refine lv_iconst (v := (0)) hx hb dX7_digest_51 (by decide) ?_
              refine nw_st (st' := [.int (0), .int (nI (z)), .ref (a 0), .long ((31) * (x3)), .long (31)]) (by rfl) ?_
              refine nw_Vi (As := [.int (nI (z)), .int (0)]) (rest := [.long ((31) * (x3)), .long (31)]) (q0 := 0) X (c_X7_leaksOf lc G (a) (n) (cu) (bg) (M) (er) (us) (llw) (lmw) (lhw) (nv) (fr) (tt) (gr) (ML) (ns) (w) (cs) (cl) (nd) (lo) (ho) (so) (z) ((0 : Int32)) (by first | assumption | omega)) (cwV 2 hts gX7_digest_X7_leaksOf rfl rfl rfl (by decide +kernel) ⟨Nat.le_of_ble_eq_true rfl, Nat.le_of_ble_eq_true rfl⟩) rfl (show vwCl[6]? = some (RX7, TX7, 23) from rfl) (nwSp.all ((wM G (a) (n) (cu) (bg) ((coF M)) ((goF M)) (er) (us) (llw) (lmw) (lhw) (nv) (fr) (tt) (gr) ((hdF2 ML)) (ns) (w) (cs) (cl) (nd) (lo) (ho) (so)))) hP hD hS hA rfl hl.1 rfl (Nat.le_of_ble_eq_true rfl) dX7_digest_52 ⟨Nat.le_of_ble_eq_true rfl, Nat.le_of_ble_eq_true rfl⟩ (fun r w H locs hp_7 hP hD hS => ?_)
              obtain ⟨llv_8, lmv_9, lhv_10, rfl, rfl⟩ := hp_7
              have hP : va_P G.1 vwCl ((wM G (a) (n) (cu) (bg) ((coF M)) ((goF M)) (er) (us) (llv_8) (lmv_9) (lhv_10) (nv) (fr) (tt) (gr) ((hdF2 ML)) (ns) (w) (cs) (cl) (nd) (lo) (ho) (so))) H := hP
              have hD : va_D vA ((wM G (a) (n) (cu) (bg) ((coF M)) ((goF M)) (er) (us) (llv_8) (lmv_9) (lhv_10) (nv) (fr) (tt) (gr) ((hdF2 ML)) (ns) (w) (cs) (cl) (nd) (lo) (ho) (so))) := hD
              refine lv_i2l (v := (leakF (er) (us) ((cu) (z)) ((bg) (z)) ((M) (z)) ((M) (8 + (z))) ((0 : Int32))).toInt64) hx hb dX7_digest_55 rfl ?_
              refine lv_ladd hx hb dX7_digest_56 ?_
              refine lv_lmul hx hb dX7_digest_57 ?_
              refine lv_aload_n hx hb dX7_digest_58 rfl (lv_at hl 2 rfl) ?_
              refine lv_iload_n hx hb dX7_digest_59 rfl (lv_at hl 0 rfl) ?_
              refine lv_iconst (v := (1)) hx hb dX7_digest_60 (by decide) ?_
              refine nw_st (st' := [.int (1), .int (nI (z)), .ref (a 0), .long ((31) * (((31) * (x3)) + ((leakF (er) (us) ((cu) (z)) ((bg) (z)) ((M) (z)) ((M) (8 + (z))) ((0 : Int32))).toInt64)))]) (by rfl) ?_
              refine nw_Vi (As := [.int (nI (z)), .int (1)]) (rest := [.long ((31) * (((31) * (x3)) + ((leakF (er) (us) ((cu) (z)) ((bg) (z)) ((M) (z)) ((M) (8 + (z))) ((0 : Int32))).toInt64)))]) (q0 := 0) X (c_X7_leaksOf lc G (a) (n) (cu) (bg) (M) (er) (us) (llv_8) (lmv_9) (lhv_10) (nv) (fr) (tt) (gr) (ML) (ns) (w) (cs) (cl) (nd) (lo) (ho) (so) (z) ((1 : Int32)) (by first | assumption | omega)) (cwV 2 hts gX7_digest_X7_leaksOf rfl rfl rfl (by decide +kernel) ⟨Nat.le_of_ble_eq_true rfl, Nat.le_of_ble_eq_true rfl⟩) rfl (show vwCl[6]? = some (RX7, TX7, 23) from rfl) (nwSp.all ((wM G (a) (n) (cu) (bg) ((coF M)) ((goF M)) (er) (us) (llv_8) (lmv_9) (lhv_10) (nv) (fr) (tt) (gr) ((hdF2 ML)) (ns) (w) (cs) (cl) (nd) (lo) (ho) (so)))) hP hD hS hA rfl hl.1 rfl (Nat.le_of_ble_eq_true rfl) dX7_digest_61 ⟨Nat.le_of_ble_eq_true rfl, Nat.le_of_ble_eq_true rfl⟩ (fun r w H locs hp_11 hP hD hS => ?_)
              obtain ⟨llv_12, lmv_13, lhv_14, rfl, rfl⟩ := hp_11
              have hP : va_P G.1 vwCl ((wM G (a) (n) (cu) (bg) ((coF M)) ((goF M)) (er) (us) (llv_12) (lmv_13) (lhv_14) (nv) (fr) (tt) (gr) ((hdF2 ML)) (ns) (w) (cs) (cl) (nd) (lo) (ho) (so))) H := hP
              have hD : va_D vA ((wM G (a) (n) (cu) (bg) ((coF M)) ((goF M)) (er) (us) (llv_12) (lmv_13) (lhv_14) (nv) (fr) (tt) (gr) ((hdF2 ML)) (ns) (w) (cs) (cl) (nd) (lo) (ho) (so))) := hD
              refine lv_i2l (v := (leakF (er) (us) ((cu) (z)) ((bg) (z)) ((M) (z)) ((M) (8 + (z))) ((1 : Int32))).toInt64) hx hb dX7_digest_64 rfl ?_
              refine lv_ladd hx hb dX7_digest_65 ?_
              refine lv_lstore_n (lv' := [(1, .long (((31) * (((31) * (x3)) + ((leakF (er) (us) ((cu) (z)) ((bg) (z)) ((M) (z)) ((M) (8 + (z))) ((0 : Int32))).toInt64))) + ((leakF (er) (us) ((cu) (z)) ((bg) (z)) ((M) (z)) ((M) (8 + (z))) ((1 : Int32))).toInt64))), (3, .int (nI (z))), (0, .ref (a 0))]) hx hb dX7_digest_66 rfl hl (by decide) rfl (fun ls hl => ?_)
              refine lv_bipush (v := (24)) hx hb dX7_digest_67 (by decide) ?_
              refine lv_iload_n hx hb dX7_digest_69 rfl (lv_at hl 1 rfl) ?_
              refine lv_imul hx hb dX7_digest_70 ?_
              refine nw_top (y := nI (24 * z)) (pk_mul (24) (z)) ?_
              refine lv_istore (lv' := [(4, .int (nI (24 * z))), (1, .long (((31) * (((31) * (x3)) + ((leakF (er) (us) ((cu) (z)) ((bg) (z)) ((M) (z)) ((M) (8 + (z))) ((0 : Int32))).toInt64))) + ((leakF (er) (us) ((cu) (z)) ((bg) (z)) ((M) (z)) ((M) (8 + (z))) ((1 : Int32))).toInt64))), (3, .int (nI (z))), (0, .ref (a 0))]) hx hb dX7_digest_71 hl (by decide) rfl (fun ls hl => ?_)
              have K73 : ∀ (fuel : Nat) (j : Nat) (y3 : Int64) (H : Heap) (locs : List Loc) (ls : Array Slot), (25 - j) < fuel → (j ≤ 24) → (y3 = hdF (M z) (M (8 + z)) (31 * (31 * zdF cu bg M er us (mixC (countF n nv ns nd M ML) 6) z + (leakF er us (cu z) (bg z) (M z) (M (8 + z)) 0).toInt64) + (leakF er us (cu z) (bg z) (M z) (M (8 + z)) 1).toInt64) j) → lv_has ls 5 [(4, .int (nI (24 * z + j))), (1, .long (y3)), (3, .int (nI (z))), (0, .ref (a 0))] → va_P G.1 vwCl ((wM G (a) (n) (cu) (bg) ((coF M)) ((goF M)) (er) (us) (llv_12) (lmv_13) (lhv_14) (nv) (fr) (tt) (gr) ((hdF2 ML)) (ns) (w) (cs) (cl) (nd) (lo) (ho) (so))) H → va_D vA ((wM G (a) (n) (cu) (bg) ((coF M)) ((goF M)) (er) (us) (llv_12) (lmv_13) (lhv_14) (nv) (fr) (tt) (gr) ((hdF2 ML)) (ns) (w) (cs) (cl) (nd) (lo) (ho) (so))) → va_S vA vs.heap H locs → W vp lc ve ({ frames := 3, cells := 0, slots := 0, locals := 68 } : Room) vs vm ([.ref (a 0)] : List Value).toArray vb vt vc H locs 0 0 (MQ vb (nwQl G (fun r ww => ∃ llv lmv lhv : Int32, r = ddF lo ho (wdF w (mixR (ML 1) (mixR (ML 0) (vdF fr tt (zdF cu bg M er us (mixC (countF n nv ns nd M ML) 6) n) nv) 64) 64) ns) nd ∧ ww = wM G (a) (n) (cu) (bg) ((coF M)) ((goF M)) (er) (us) (llv) (lmv) (lhv) (nv) (fr) (tt) (gr) ((hdF2 ML)) (ns) (w) (cs) (cl) (nd) (lo) (ho) (so)) vA) ([.ref (a 0)] : List Value).toArray vs ({ frames := 3, cells := 0, slots := 0, locals := 68 } : Room).cells ({ frames := 3, cells := 0, slots := 0, locals := 68 } : Room).slots vA) (F0 vm 73 ls []) := by
                intro fuel
                induction fuel with
                | zero => intro j y3 H locs ls hmu; exact absurd hmu (Nat.not_lt_zero _)
                | succ fuel ih73 =>
                  intro j y3 H locs ls hmu hj f3 hl hP hD hS
                  refine lv_iload hx hb dX7_digest_73 (lv_at hl 0 rfl) ?_
                  refine lv_bipush (v := (24)) hx hb dX7_digest_75 (by decide) ?_
                  refine lv_iload_n hx hb dX7_digest_77 rfl (lv_at hl 2 rfl) ?_
                  refine lv_imul hx hb dX7_digest_78 ?_
                  refine nw_top (y := nI (24 * z)) (pk_mul (24) (z)) ?_
                  refine lv_bipush (v := (24)) hx hb dX7_digest_79 (by decide) ?_
                  refine lv_iadd hx hb dX7_digest_81 ?_
                  refine nw_top (y := nI (24 * z + 24)) (nI_add (24 * z) (24)) ?_
                  refine lv_icmp_ge (tgt := 119) hx hb dX7_digest_82 (by decide) (fun b82_15 => ?_) (fun b82_15 => ?_)
                  · skip
                    have b82_15 : (24 * z + 24) ≤ (24 * z + j) := (nI_leI (a := 24 * z + 24) (b := 24 * z + j) (by omega) (by omega)).mp b82_15
                    have b82_15n : ¬ ((24 * z + j) < (24 * z + 24)) := by omega
                    refine lv_iinc (v := (nI (z + 1))) (lv' := [(3, .int (nI (z + 1))), (4, .int (nI (24 * z + j))), (1, .long (y3)), (0, .ref (a 0))]) hx hb dX7_digest_119 hl (k := 2) rfl (by exact nI_add (z) 1) (by decide) rfl (fun ls hl => ?_)
                    refine lv_goto (tgt := 33) hx hb dX7_digest_122 (by decide) ?_
                    exact ih33 (z + 1) ((y3)) (llv_12) (lmv_13) (lhv_14) _ _ _ (by omega) (by omega) (by rw [zdF_s, f3, show j = 24 by omega]) (lv_sub hl [0, 2, 3] rfl) hP hD hS
                  · skip
                    have b82_15 : ¬ ((24 * z + 24) ≤ (24 * z + j)) := fun h => b82_15 ((nI_leI (a := 24 * z + 24) (b := 24 * z + j) (by omega) (by omega)).mpr h)
                    have b82_15n : (24 * z + j) < (24 * z + 24) := by omega
                    refine lv_ldc2 (own := RX7) (v := (31)) hx hb hown (hts (Cond.constantLong RX7 145 (31)) (List.mem_of_getElem? (i := 2) rfl)) dX7_digest_85 ?_
                    refine lv_ldc2 (own := RX7) (v := (31)) hx hb hown (hts (Cond.constantLong RX7 145 (31)) (List.mem_of_getElem? (i := 2) rfl)) dX7_digest_88 ?_
                    refine lv_lload_n hx hb dX7_digest_91 rfl (lv_at hl 1 rfl) ?_
                    refine lv_lmul hx hb dX7_digest_92 ?_
                    refine lv_aload_n hx hb dX7_digest_93 rfl (lv_at hl 3 rfl) ?_
                    refine va_get (D := G.1) (ci := 6) (v := .ref (a 3)) (C := RX7) (T := TX7) (N := 23) hx hb hts in_X7_digest_X7 hown hK.1 hP 0 rfl rfl 3 (by decide) (hts (Cond.fieldLink RX7 16 "NightWaterModel" "comes" "[I") (List.mem_of_getElem? (i := 4) rfl)) (fun _ h9 => h9) rfl dX7_digest_94 ?_
                    refine lv_iload hx hb dX7_digest_97 (lv_at hl 0 rfl) ?_
                    refine nw_iald X hP 3 (n := 192) (f := ((coF M))) rfl (24 * z + j) rfl (by omega) (by decide) dX7_digest_99 ?_
                    refine nw_top (y := M z j) (coF_at (by omega) (by omega)) ?_
                    refine lv_i2l (v := (M z j).toInt64) hx hb dX7_digest_100 rfl ?_
                    refine lv_ladd hx hb dX7_digest_101 ?_
                    refine lv_lmul hx hb dX7_digest_102 ?_
                    refine lv_aload_n hx hb dX7_digest_103 rfl (lv_at hl 3 rfl) ?_
                    refine va_get (D := G.1) (ci := 6) (v := .ref (a 4)) (C := RX7) (T := TX7) (N := 23) hx hb hts in_X7_digest_X7 hown hK.1 hP 0 rfl rfl 4 (by decide) (hts (Cond.fieldLink RX7 19 "NightWaterModel" "goes" "[I") (List.mem_of_getElem? (i := 5) rfl)) (fun _ h9 => h9) rfl dX7_digest_104 ?_
                    refine lv_iload hx hb dX7_digest_107 (lv_at hl 0 rfl) ?_
                    refine nw_iald X hP 4 (n := 192) (f := ((goF M))) rfl (24 * z + j) rfl (by omega) (by decide) dX7_digest_109 ?_
                    refine nw_top (y := M (8 + z) j) (goF_at (by omega) (by omega)) ?_
                    refine lv_i2l (v := (M (8 + z) j).toInt64) hx hb dX7_digest_110 rfl ?_
                    refine lv_ladd hx hb dX7_digest_111 ?_
                    refine lv_lstore_n (lv' := [(1, .long (((31) * (((31) * (y3)) + ((M z j).toInt64))) + ((M (8 + z) j).toInt64))), (4, .int (nI (24 * z + j))), (3, .int (nI (z))), (0, .ref (a 0))]) hx hb dX7_digest_112 rfl hl (by decide) rfl (fun ls hl => ?_)
                    refine lv_iinc (v := (nI (24 * z + j + 1))) (lv' := [(4, .int (nI (24 * z + j + 1))), (1, .long (((31) * (((31) * (y3)) + ((M z j).toInt64))) + ((M (8 + z) j).toInt64))), (3, .int (nI (z))), (0, .ref (a 0))]) hx hb dX7_digest_113 hl (k := 1) rfl (by exact nI_add (24 * z + j) 1) (by decide) rfl (fun ls hl => ?_)
                    refine lv_goto (tgt := 73) hx hb dX7_digest_116 (by decide) ?_
                    exact ih73 (j + 1) ((((31) * (((31) * (y3)) + ((M z j).toInt64))) + ((M (8 + z) j).toInt64))) _ _ _ (by omega) (by omega) (by rw [hdF_s, f3]) (lv_sub hl [0, 1, 2, 3] rfl) hP hD hS
              exact K73 ((25 - (0)) + 1) (0) ((((31) * (((31) * (x3)) + ((leakF (er) (us) ((cu) (z)) ((bg) (z)) ((M) (z)) ((M) (8 + (z))) ((0 : Int32))).toInt64))) + ((leakF (er) (us) ((cu) (z)) ((bg) (z)) ((M) (z)) ((M) (8 + (z))) ((1 : Int32))).toInt64))) _ _ _ (Nat.lt_succ_self _) (by omega) (by rw [e3]; rfl) (lv_sub hl [0, 1, 2, 3] rfl) hP hD hS
        exact K33 ((9 - (0)) + 1) (0) ((x1)) (ll) (lm) (lh) _ _ _ (Nat.lt_succ_self _) (by omega) (by exact e6) (lv_sub hl [0, 1, 2] rfl) hP hD hS
      · skip
        have b9_1 : ¬ ((6) ≤ (k)) := fun h => b9_1 ((nI_leI (a := 6) (b := k) (by omega) (by omega)).mpr h)
        have b9_1n : (k) < (6) := by omega
        refine lv_ldc2 (own := RX7) (v := (31)) hx hb hown (hts (Cond.constantLong RX7 145 (31)) (List.mem_of_getElem? (i := 2) rfl)) dX7_digest_12 ?_
        refine lv_lload_n hx hb dX7_digest_15 rfl (lv_at hl 1 rfl) ?_
        refine lv_lmul hx hb dX7_digest_16 ?_
        refine lv_aload_n hx hb dX7_digest_17 rfl (lv_at hl 2 rfl) ?_
        refine lv_iload_n hx hb dX7_digest_18 rfl (lv_at hl 0 rfl) ?_
        refine nw_Vi (As := [.int (nI (k))]) (rest := [.long ((31) * (x1))]) (q0 := 0) X (c_X7_count lc G (a) (n) (cu) (bg) (M) (er) (us) (ll) (lm) (lh) (nv) (fr) (tt) (gr) (ML) (ns) (w) (cs) (cl) (nd) (lo) (ho) (so) ((nI (k))) (by first | assumption | omega) (by first | assumption | omega) (by first | assumption | omega) (by first | assumption | omega)) (cwV 1 hts gX7_digest_X7_count rfl rfl rfl (by decide +kernel) ⟨Nat.le_of_ble_eq_true rfl, Nat.le_of_ble_eq_true rfl⟩) rfl (show vwCl[6]? = some (RX7, TX7, 23) from rfl) (nwSp.all ((wM G (a) (n) (cu) (bg) ((coF M)) ((goF M)) (er) (us) (ll) (lm) (lh) (nv) (fr) (tt) (gr) ((hdF2 ML)) (ns) (w) (cs) (cl) (nd) (lo) (ho) (so)))) hP hD hS hA rfl hl.1 rfl (Nat.le_of_ble_eq_true rfl) dX7_digest_19 ⟨Nat.le_of_ble_eq_true rfl, Nat.le_of_ble_eq_true rfl⟩ (fun r w H locs hp_16 hP hD hS => ?_)
        obtain ⟨rfl, rfl⟩ := hp_16
        have hP : va_P G.1 vwCl ((wM G (a) (n) (cu) (bg) ((coF M)) ((goF M)) (er) (us) (ll) (lm) (lh) (nv) (fr) (tt) (gr) ((hdF2 ML)) (ns) (w) (cs) (cl) (nd) (lo) (ho) (so))) H := hP
        have hD : va_D vA ((wM G (a) (n) (cu) (bg) ((coF M)) ((goF M)) (er) (us) (ll) (lm) (lh) (nv) (fr) (tt) (gr) ((hdF2 ML)) (ns) (w) (cs) (cl) (nd) (lo) (ho) (so))) := hD
        refine lv_i2l (v := (countF (n) (nv) (ns) (nd) (M) (ML) ((nI (k)))).toInt64) hx hb dX7_digest_22 rfl ?_
        refine lv_ladd hx hb dX7_digest_23 ?_
        refine lv_lstore_n (lv' := [(1, .long (((31) * (x1)) + ((countF (n) (nv) (ns) (nd) (M) (ML) ((nI (k)))).toInt64))), (3, .int (nI (k))), (0, .ref (a 0))]) hx hb dX7_digest_24 rfl hl (by decide) rfl (fun ls hl => ?_)
        refine lv_iinc (v := (nI (k + 1))) (lv' := [(3, .int (nI (k + 1))), (1, .long (((31) * (x1)) + ((countF (n) (nv) (ns) (nd) (M) (ML) ((nI (k)))).toInt64))), (0, .ref (a 0))]) hx hb dX7_digest_25 hl (k := 1) rfl (by exact nI_add (k) 1) (by decide) rfl (fun ls hl => ?_)
        refine lv_goto (tgt := 6) hx hb dX7_digest_28 (by decide) ?_
        exact ih6 (k + 1) ((((31) * (x1)) + ((countF (n) (nv) (ns) (nd) (M) (ML) ((nI (k)))).toInt64))) _ _ _ (by omega) (by omega) (by rw [mixC_s, e1]) (lv_sub hl [0, 1, 2] rfl) hP hD hS
  exact K6 ((7 - (0)) + 1) (0) ((197)) _ _ _ (Nat.lt_succ_self _) (by omega) (by rfl) (lv_sub hl [0, 1, 2] rfl) hP hD hS
end
