/-! PURE: the two facts that the law's walk stands on -/
theorem law_fill : ∃ o, mJ7_fill_53178 qz (-1) = some o := sorry
theorem law_true (o : qA) (hf : mJ7_fill_53178 qz (-1) = some o) {L : Nat} (hL : L ≤ 3072) (xs : Nat → Int32) : lpL_law L xs 513 0 0 ((0, 0, 0, qz, qz, qz, qz, qz, qz, o, qz) : SN) ((qz, qz, qz) : ST) ((0, 0, qz, qz, qz, qz, qzJ) : SF) ((qz, qz, qz, qz, qz, qz, qz, qz) : SP) ((qz, qz, qz, qz, qz, qz, qz, qz) : SP) ((0, qz, qz, qz, 0, qz, qz, qz, 0, qz, qz, qz, qz, qz, qz, qz, qz, qz, qz) : SM) qzJ = some 1 := sorry
