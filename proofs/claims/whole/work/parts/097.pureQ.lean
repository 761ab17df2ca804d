/-! Plain facts on the reference's counts and digest: rows one behind another. -/
theorem rlF_s2 {M : Nat → Nat → Int32} (k : Nat) : rlF M (k + 1) = rlF M k + (nwIf (M (k / 24) (k % 24) = -1) 1 0 + nwIf (M (8 + k / 24) (k % 24) = -1) 1 0) := by rw [rlF_s, Int32.add_assoc]
theorem coF_d {M : Nat → Nat → Int32} {k : Nat} (h : k < 192) : coF M k = M (k / 24) (k % 24) := if_pos h
theorem goF_d {M : Nat → Nat → Int32} {k : Nat} (h : k < 192) : goF M k = M (8 + k / 24) (k % 24) := if_pos h
noncomputable def loF (f : Nat → Int32) : Nat → Int32
  | 0 => 0
  | k + 1 => loF f k + nwIf (f k = -2000000000) 1 0
theorem loF_s {f : Nat → Int32} (k : Nat) : loF f (k + 1) = loF f k + nwIf (f k = -2000000000) 1 0 := rfl
theorem loF_congr {f g : Nat → Int32} : ∀ (k : Nat), (∀ j, j < k → f j = g j) → loF f k = loF g k
  | 0, _ => rfl
  | k + 1, h => by rw [loF_s, loF_s, loF_congr k (fun j hj => h j (by omega)), h k (by omega)]
theorem loF_add {f : Nat → Int32} (a : Nat) : ∀ (k : Nat), loF f (a + k) = loF f a + loF (fun j => f (a + j)) k
  | 0 => (Int32.add_zero _).symm
  | k + 1 => by rw [← Nat.add_assoc, loF_s, loF_add a k, loF_s, Int32.add_assoc]
theorem lostF_lo {f g : Nat → Int32} : ∀ (k : Nat), lostF f g k = loF f k + loF g k
  | 0 => by rfl
  | k + 1 => by
    rw [lostF_s, loF_s, loF_s, lostF_lo k, Int32.add_assoc, Int32.add_assoc, Int32.add_assoc, ← Int32.add_assoc (loF g k), Int32.add_comm (loF g k), Int32.add_assoc]
theorem lostF_hd {M : Nat → Nat → Int32} : loF (hdF2 M) 128 = lostF (M 0) (M 1) 64 := by
  rw [show (128 : Nat) = 64 + 64 from rfl, loF_add, lostF_lo, loF_congr (f := hdF2 M) (g := M 0) 64 (fun j hj => hdF_0 hj), loF_congr (f := fun j => hdF2 M (64 + j)) (g := M 1) 64 (fun j hj => hdF_1 hj)]
theorem mixR_congr {f g : Nat → Int32} {h : Int64} : ∀ (k : Nat), (∀ j, j < k → f j = g j) → mixR f h k = mixR g h k
  | 0, _ => rfl
  | k + 1, q => by rw [mixR_s, mixR_s, mixR_congr k (fun j hj => q j (by omega)), q k (by omega)]
theorem mixR_add {f : Nat → Int32} {h : Int64} (a : Nat) : ∀ (k : Nat), mixR f h (a + k) = mixR (fun j => f (a + j)) (mixR f h a) k
  | 0 => rfl
  | k + 1 => by rw [← Nat.add_assoc, mixR_s, mixR_add a k, mixR_s]
theorem mixR_hd {M : Nat → Nat → Int32} {h : Int64} : mixR (hdF2 M) h 128 = mixR (M 1) (mixR (M 0) h 64) 64 := by
  rw [show (128 : Nat) = 64 + 64 from rfl, mixR_add, mixR_congr (f := hdF2 M) (g := M 0) 64 (fun j hj => hdF_0 hj), mixR_congr (f := fun j => hdF2 M (64 + j)) (g := M 1) 64 (fun j hj => hdF_1 hj)]
