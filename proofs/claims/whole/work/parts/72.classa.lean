/-! PURE: the class's play keeps to the mathematical one, part a: small methods -/
/-- how the class's Play holds a state -/
def EC (M : MN) (w : Nat) (S : PS) (p : SP) : Prop :=
  (∀ a, a < gna M → P_rows p a = nI (scu S a) ∧ P_states p a = nI (sph S a) ∧ P_dues p a = nI (sdue S a)) ∧
  (∀ q, q < gnp M → P_free p q = nI (shw M w q - shc M S q (gna M)) ∧ P_waiting p q = nI (swc M S q (gna M))) ∧
  (∀ r, gV M r → (r < scu S (r / 5) ∨ (r = scu S (r / 5) ∧ 1 ≤ sph S (r / 5)) → P_came p r = nI (scm S r)) ∧ (r < scu S (r / 5) ∨ (r = scu S (r / 5) ∧ 2 ≤ sph S (r / 5)) → P_begun p r = nI (sbg S r) ∧ P_done p r = nI (sdn S r)))
/-- what holds of a state: rows in range, phases, as many helped as may be, times bounded -/
def SI (M : MN) (w : Nat) (S : PS) (B : Nat) : Prop :=
  (∀ a, a < gna M → 5 * a ≤ scu S a ∧ scu S a < 5 * a + gle M a ∧ sph S a ≤ 3 ∧ (sph S a = 3 → scu S a + 1 = 5 * a + gle M a) ∧ (sph S a ≤ 1 → scm S (scu S a) ≤ B) ∧ (2 ≤ sph S a → sdn S (scu S a) ≤ B)) ∧
  (∀ q, q < gnp M → shc M S q (gna M) ≤ shw M w q)
theorem SI.row {M : MN} {w : Nat} {S : PS} {B : Nat} (ok : gOK M) (h : SI M w S B) {a : Nat} (ha : a < gna M) : gV M (scu S a) ∧ scu S a / 5 = a ∧ scu S a < 300 := by
  obtain ⟨h1, h2, -⟩ := h.1 a ha
  have h5 := (ok.2.2.2.1 a ha).2.2.2
  have e : scu S a / 5 = a := by omega
  have hv : gV M (scu S a) := by
    unfold gV
    rw [e]
    exact ⟨ha, by omega⟩
  exact ⟨hv, e, hv.lt ok⟩
theorem sdue_le {M : MN} {w : Nat} {S : PS} {B : Nat} (h : SI M w S B) (hB : B ≤ 1000000000) {a : Nat} (ha : a < gna M) : sdue S a ≤ 1000000000 := by
  obtain ⟨-, -, h3, -, h5, h6⟩ := h.1 a ha
  unfold sdue
  split
  · exact Nat.le_trans (h5 (by omega)) hB
  · split
    · exact Nat.le_trans (h6 (by omega)) hB
    · omega
theorem mFirst (n : SN) (a : Nat) : mX1_firstRow n (nI a) = some (nI (5 * a)) := by
  unfold mX1_firstRow
  rw [mu_5, Nat.mul_comm]
theorem mLast {M : MN} {n : SN} (ok : gOK M) (h : RN M n) {a : Nat} (ha : a < gna M) : mX1_lastRow n (nI a) = some (nI (5 * a + gle M a - 1)) := by
  unfold mX1_lastRow
  have h60 := ok.2.1
  have hl := ok.2.2.2.1 a ha
  rw [mFirst, bi_s, ck_nI (by omega) (by omega), cl_n (by omega), (h.2.2.2.1 a ha).2.2, ad_n, su_1 (by omega)]
theorem nt_loop {M : MN} {w : Nat} {n : SN} {S : PS} {p : SP} {B : Nat} (ok : gOK M) (hn : RN M n) (hs : SI M w S B) (hB : B ≤ 1000000000) (hc : EC M w S p) :
    ∀ (d i k : Nat), i + d = gna M → d < k → lpX2_nextTick_5 p n k (nI (smn (sdue S) i)) (nI i) = some (nI (smn (sdue S) (gna M))) := by
  have h60 := ok.2.1
  have hm : ∀ i, i ≤ gna M → smn (sdue S) i ≤ 1000000000 := by
    intro i
    induction i with
    | zero => intro _; exact Nat.le_refl _
    | succ i ih =>
      intro h
      have := ih (by omega)
      have := sdue_le hs hB (a := i) (by omega)
      unfold smn
      split <;> omega
  intro d
  induction d with
  | zero =>
    intro i k hi hk
    obtain ⟨k, rfl⟩ : ∃ j, k = j + 1 := ⟨k - 1, by omega⟩
    rw [lpX2_nextTick_5, hn.2.1, if_pos (by rw [le_n (by omega) (by omega)]; omega), show i = gna M by omega]
  | succ d ih =>
    intro i k hi hk
    obtain ⟨k, rfl⟩ : ∃ j, k = j + 1 := ⟨k - 1, by omega⟩
    have hi2 : i < gna M := by omega
    have b1 := hm i (by omega)
    have b2 := sdue_le hs hB (a := i) hi2
    rw [lpX2_nextTick_5, hn.2.1, if_neg (by rw [le_n (by omega) (by omega)]; omega), ck_nI (by omega) (by omega), cl_n (by omega), (hc.1 i hi2).2.2, mi_n (by omega) (by omega), ad_1]
    exact ih (i + 1) k (by omega) (by omega)
theorem mNext {M : MN} {w : Nat} {n : SN} {S : PS} {p : SP} {B : Nat} (ok : gOK M) (hn : RN M n) (hs : SI M w S B) (hB : B ≤ 1000000000) (hc : EC M w S p) : mX2_nextTick p n = some (nI (smn (sdue S) (gna M))) := by
  unfold mX2_nextTick
  have := nt_loop ok hn hs hB hc (gna M) 0 qFU (by omega) (by have := ok.2.1; unfold qFU; omega)
  have e : (1000000000 : Int32) = nI (smn (sdue S) 0) := rfl
  rw [e, show (0 : Int32) = nI 0 from rfl, this, bi_s]
