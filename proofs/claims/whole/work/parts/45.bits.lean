/-! how many of six bits are set -/
def pc6 (s : Nat) : Nat := s % 2 + s / 2 % 2 + s / 4 % 2 + s / 8 % 2 + s / 16 % 2 + s / 32 % 2
def bcx (x : Int32) : Int32 :=
  let z1 := x - ((pm_ushr x 1) &&& 1431655765)
  let z2 := (z1 &&& 858993459) + ((pm_ushr z1 2) &&& 858993459)
  let z3 := (z2 + (pm_ushr z2 4)) &&& 252645135
  let z4 := z3 + (pm_ushr z3 8)
  let z5 := z4 + (pm_ushr z4 16)
  z5 &&& 63
theorem bcx_eq : ∀ s : Nat, s < 64 → bcx (nI s) = nI (pc6 s) := by decide
theorem j_bitCount {M : pm_M} {s : Nat} (h : s < 64) : f_J_bitCount M (nI s) = some (nI (pc6 s), M) := by
  rw [← bcx_eq s h]; rfl
