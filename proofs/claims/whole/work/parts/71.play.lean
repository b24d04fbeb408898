/-! PURE: a net, and its play, in plain numbers -/
abbrev MN : Type := Nat × Nat × (Nat → Nat) × (Nat → Nat) × (Nat → Nat) × (Nat → Nat) × (Nat → Nat) × (Nat → Nat) × (Nat → Nat) × (Nat → Nat)
abbrev gnp (M : MN) : Nat := M.1
abbrev gna (M : MN) : Nat := M.2.1
abbrev ghe (M : MN) : Nat → Nat := M.2.2.1
abbrev gru (M : MN) : Nat → Nat := M.2.2.2.1
abbrev gde (M : MN) : Nat → Nat := M.2.2.2.2.1
abbrev gki (M : MN) : Nat → Nat := M.2.2.2.2.2.1
abbrev gst (M : MN) : Nat → Nat := M.2.2.2.2.2.2.1
abbrev gle (M : MN) : Nat → Nat := M.2.2.2.2.2.2.2.1
abbrev gpa (M : MN) : Nat → Nat := M.2.2.2.2.2.2.2.2.1
abbrev gwo (M : MN) : Nat → Nat := M.2.2.2.2.2.2.2.2.2
/-- a row that is a step -/
def gV (M : MN) (r : Nat) : Prop := r / 5 < gna M ∧ r % 5 < gle M (r / 5)
def gOK (M : MN) : Prop := gnp M ≤ 5 ∧ gna M ≤ 60 ∧ (∀ p, p < gnp M → 1 ≤ ghe M p ∧ ghe M p ≤ 8 ∧ gru M p ≤ 3 ∧ gde M p ≤ 1000) ∧ (∀ a, a < gna M → gki M a ≤ 3 ∧ gst M a ≤ 100000 ∧ 1 ≤ gle M a ∧ gle M a ≤ 5) ∧ (∀ r, gV M r → gpa M r < gnp M ∧ 1 ≤ gwo M r ∧ gwo M r ≤ 1000)
theorem gV.lt {M : MN} (ok : gOK M) {r : Nat} (h : gV M r) : r < 300 := by
  obtain ⟨h1, h2⟩ := h
  obtain ⟨-, h60, -, -, -⟩ := ok
  omega
theorem gV.mk {M : MN} {a j : Nat} (ha : a < gna M) (hl : gle M a ≤ 5) (hj : j < gle M a) : gV M (5 * a + j) := by
  have e1 : (5 * a + j) / 5 = a := by omega
  have e2 : (5 * a + j) % 5 = j := by omega
  unfold gV
  rw [e1, e2]
  exact ⟨ha, hj⟩
/-- the class's net -/
def RN (M : MN) (n : SN) : Prop := N_places n = nI (gnp M) ∧ N_asks n = nI (gna M) ∧ (∀ p, p < gnp M → N_helpers n p = nI (ghe M p) ∧ N_rules n p = nI (gru M p) ∧ N_delays n p = nI (gde M p)) ∧ (∀ a, a < gna M → N_kinds n a = nI (gki M a) ∧ N_starts n a = nI (gst M a) ∧ N_lengths n a = nI (gle M a)) ∧ (∀ r, gV M r → N_stepPlaces n r = nI (gpa M r) ∧ N_stepWorks n r = nI (gwo M r))
/-- the play's state: each ask's row and phase (0 coming, 1 waiting, 2 helped, 3 gone); when each row came, was begun, was done -/
abbrev PS : Type := (Nat → Nat) × (Nat → Nat) × (Nat → Nat) × (Nat → Nat) × (Nat → Nat)
abbrev scu (S : PS) : Nat → Nat := S.1
abbrev sph (S : PS) : Nat → Nat := S.2.1
abbrev scm (S : PS) : Nat → Nat := S.2.2.1
abbrev sbg (S : PS) : Nat → Nat := S.2.2.2.1
abbrev sdn (S : PS) : Nat → Nat := S.2.2.2.2
def sdue (S : PS) (a : Nat) : Nat := if sph S a = 0 then scm S (scu S a) else if sph S a = 2 then sdn S (scu S a) else 1000000000
def smn (f : Nat → Nat) : Nat → Nat
  | 0 => 1000000000
  | n + 1 => if f n < smn f n then f n else smn f n
def shc (M : MN) (S : PS) (p : Nat) : Nat → Nat
  | 0 => 0
  | n + 1 => shc M S p n + (if sph S n = 2 ∧ gpa M (scu S n) = p then 1 else 0)
def swc (M : MN) (S : PS) (p : Nat) : Nat → Nat
  | 0 => 0
  | n + 1 => swc M S p n + (if sph S n = 1 ∧ gpa M (scu S n) = p then 1 else 0)
def shw (M : MN) (w : Nat) (p : Nat) : Nat := ghe M p + (if p = w then 1 else 0)
/-- one ask goes on at tick t -/
def slast (M : MN) (S : PS) (a : Nat) : Prop := scu S a + 1 = 5 * a + gle M a
/-- ask i finishes its step at tick t -/
def sfin (M : MN) (t i : Nat) (S : PS) : PS :=
  if scu S i + 1 = 5 * i + gle M i then (scu S, (fun a => if a = i then 3 else sph S a), scm S, sbg S, sdn S)
  else ((fun a => if a = i then scu S i + 1 else scu S a), (fun a => if a = i then (if gde M (gpa M (scu S i)) = 0 then 1 else 0) else sph S a), (fun r => if r = scu S i + 1 then t + gde M (gpa M (scu S i)) else scm S r), sbg S, sdn S)
/-- ask i comes -/
def sarr (i : Nat) (S : PS) : PS := (scu S, (fun a => if a = i then 1 else sph S a), scm S, sbg S, sdn S)
def sone (M : MN) (t i : Nat) (S : PS) : PS := if sdue S i = t then (if sph S i = 2 then sfin M t i S else sarr i S) else S
def sadv (M : MN) (t : Nat) (S : PS) : Nat → PS
  | 0 => S
  | i + 1 => sone M t i (sadv M t S i)
/-- ask i is begun with -/
def sbeg (M : MN) (t i : Nat) (S : PS) : PS := (scu S, (fun a => if a = i then 2 else sph S a), scm S, (fun r => if r = scu S i then t else sbg S r), (fun r => if r = scu S i then t + gwo M (scu S i) else sdn S r))
def srk (M : MN) (S : PS) (p a : Nat) : Int := if gru M p = 1 then -(scm S (scu S a) : Int) else if gru M p = 2 then (gwo M (scu S a) : Int) * 1000000000 + scm S (scu S a) else if gru M p = 3 then (gki M a : Int) * 1000000000 + scm S (scu S a) else (scm S (scu S a) : Int)
/-- the ask that is begun with next at place p, of the asks below n -/
def spk (M : MN) (S : PS) (p : Nat) : Nat → Option Nat
  | 0 => none
  | n + 1 => if sph S n = 1 ∧ gpa M (scu S n) = p then (match spk M S p n with
    | none => some n
    | some b => if srk M S p n < srk M S p b then some n else some b) else spk M S p n
def sbl (M : MN) (w t p : Nat) : Nat → PS → PS
  | 0, S => S
  | k + 1, S => if shw M w p ≤ shc M S p (gna M) then S else match spk M S p (gna M) with
    | none => S
    | some a => sbl M w t p k (sbeg M t a S)
def sba (M : MN) (w t : Nat) : Nat → PS → PS
  | 0, S => S
  | p + 1, S => sbl M w t p 60 (sba M w t p S)
def stk (M : MN) (w t : Nat) (S : PS) : PS := sba M w t (gnp M) (sadv M t S (gna M))
def srn (M : MN) (w : Nat) : Nat → PS → PS
  | 0, S => S
  | k + 1, S => if smn (sdue S) (gna M) = 1000000000 then S else srn M w k (stk M w (smn (sdue S) (gna M)) S)
def s0 (M : MN) : PS := ((fun a => 5 * a), (fun _ => 0), (fun r => gst M (r / 5)), (fun _ => 0), (fun _ => 0))
