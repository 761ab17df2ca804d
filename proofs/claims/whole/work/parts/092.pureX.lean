/-! Plain facts on the face: counts and the digest's beginning. -/
noncomputable def countF (n nv ns nd : Nat) (M ML : Nat → Nat → Int32) (x : Int32) : Int32 := nwIf (x = 0) (nI n) (nwIf (x = 1) (nI nv) (nwIf (x = 2) (nI ns) (nwIf (x = 3) (nI nd) (nwIf (x = 4) (rlF M (24 * n)) (nwIf (x = 5) (lostF (ML 0) (ML 1) 64) (-2))))))
def mixC (f : Int32 → Int32) : Nat → Int64
  | 0 => 197
  | k + 1 => 31 * mixC f k + (f (nI k)).toInt64
theorem mixC_s {f : Int32 → Int32} {k : Nat} : mixC f (k + 1) = 31 * mixC f k + (f (nI k)).toInt64 := rfl
