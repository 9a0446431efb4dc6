/-! THE LAW: all of it, but the three calls of ways -/
theorem lw_all {L : Nat} {xs : Nat → Int32} (o522 : zLop 522) (o579 : zLop 579) (o709 : zLop 709) (hL : L ≤ 3072) : ∃ M' X', zex 228 0 [] (zloc 8 [(3, 4)]) (zM0 L xs) ([], 601024, 7293034) = some ((0, 1), M', X') := by
  obtain ⟨M, n, m, a1, a2, a3, a4⟩ := lw_start (xs := xs) hL
  rw [a1]
  exact lw_loop (L := (L : Int)) o522 o579 o709 ⟨by omega, by omega⟩ 512 0 0 M n m _ _ _ a2 (by omega) (by omega) (by omega) (by omega) (by omega) (by omega)
