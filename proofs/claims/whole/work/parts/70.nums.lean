/-! PURE: numbers of the mirrors -/
theorem ck_n {α : Type} {i : Int32} {n : Nat} {k : Option α} (j : Nat) (hi : i = nI j) (h : j < n) (hn : n ≤ 3072) : ck i n k = k := by
  subst hi
  unfold ck
  rw [if_neg]
  exact nI_in h (by omega)
theorem ck_nI {α : Type} {j n : Nat} {k : Option α} (h : j < n) (hn : n ≤ 3072) : ck (nI j) n k = k := ck_n j rfl h hn
theorem cl_n {j : Nat} (h : j < 2000000000) : (nI j).toNatClampNeg = j := nI_clamp (by omega)
theorem le_n {a b : Nat} (ha : a < 2000000001) (hb : b < 2000000001) : (nI a ≤ nI b) = (a ≤ b) := propext (nI_leI (by omega) (by omega))
theorem lt_n {a b : Nat} (ha : a < 2000000001) (hb : b < 2000000001) : (nI a < nI b) = (a < b) := propext (nI_ltI (by omega) (by omega))
theorem eq_n {a b : Nat} (ha : a < 2000000001) (hb : b < 2000000001) : (nI a = nI b) = (a = b) := propext (nI_eq (by omega) (by omega))
theorem ne_n1 {a : Nat} (ha : a < 2000000001) : (nI a = -1) = False := by
  apply propext
  constructor
  · intro h
    have h1 := nI_toInt (n := a) (by omega)
    rw [h] at h1
    have h2 : (-1 : Int32).toInt = -1 := by decide
    omega
  · exact False.elim
theorem lt_0n {a : Nat} (ha : a < 2000000001) : (nI a < 0) = False := by
  apply propext
  exact ⟨fun h => nI_pos (by omega) h, False.elim⟩
theorem le_0n {a : Nat} (ha : a < 2000000001) : ((0 : Int32) ≤ nI a) = True := by
  apply propext
  exact ⟨fun _ => trivial, fun _ => nI_pos' (by omega)⟩
theorem ad_n (a b : Nat) : nI a + nI b = nI (a + b) := nI_add a b
theorem ad_1 (a : Nat) : nI a + 1 = nI (a + 1) := nI_1 a
theorem mu_5 (a : Nat) : nI a * 5 = nI (a * 5) := pk_mul a 5
theorem mu_5' (a : Nat) : 5 * nI a = nI (5 * a) := pk_mul 5 a
theorem di_5 {a : Nat} (h : a < 2000000000) : nI a / 5 = nI (a / 5) := pk_div (d := 5) (by omega) (by omega) (by omega)
theorem re_5 {a : Nat} (h : a < 2000000000) : nI a - nI a / 5 * 5 = nI (a % 5) := pk_rem (d := 5) (by omega) (by omega) (by omega)
theorem su_1 {a : Nat} (h : 1 ≤ a) : nI a - 1 = nI (a - 1) := pk_sub (a := a) (b := 1) h
theorem su_n {a b : Nat} (h : b ≤ a) : nI a - nI b = nI (a - b) := pk_sub h
theorem bool_0 : vp_nar .boolean 0 = 0 := by decide
theorem bool_1 : vp_nar .boolean 1 = 1 := by decide
theorem ckz_0 {α : Type} {k : Option α} : ckz 0 k = k := rfl
theorem ckz_1 {α : Type} {k : Option α} : ckz 1 k = k := rfl
theorem mi_n {a b : Nat} (ha : a < 2000000001) (hb : b < 2000000001) : (if nI a < nI b then nI a else nI b) = nI (if a < b then a else b) := by
  by_cases h : a < b
  · rw [if_pos (by rw [lt_n ha hb]; exact h), if_pos h]
  · rw [if_neg (by rw [lt_n ha hb]; exact h), if_neg h]
theorem ma_n {a b : Nat} (ha : a < 2000000001) (hb : b < 2000000001) : (if nI a < nI b then nI b else nI a) = nI (if a < b then b else a) := by
  by_cases h : a < b
  · rw [if_pos (by rw [lt_n ha hb]; exact h), if_pos h]
  · rw [if_neg (by rw [lt_n ha hb]; exact h), if_neg h]
theorem up_s {f : Nat → Int32} {k : Nat} {x : Int32} : upd f k x k = x := pk_us
theorem up_n {f : Nat → Int32} {k j : Nat} {x : Int32} (h : j ≠ k) : upd f k x j = f j := pk_un h
theorem bi_s {α β : Type} (x : α) (f : α → Option β) : (some x).bind f = f x := rfl
theorem qFU_s : qFU = 3999 + 1 := rfl
