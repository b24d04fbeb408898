/-! PURE: the two facts that the law's walk stands on -/
theorem fill_spec : ∃ o, mJ7_fill_53178 qz (-1) = some o ∧ ∀ k, k < 300 → o k = -1 := by
  unfold mJ7_fill_53178
  have key := lpx (F := fun k i (z : qA) => lpJ7_fill_53178_5 (-1) 300 k (nI i) z) (G := fun z => some z) (fun i z => ∀ k, k < i → z k = -1) 300
    (fun k s hs => by
      show lpJ7_fill_53178_5 (-1) 300 (k + 1) (nI 300) s = some s
      rw [lpJ7_fill_53178_5, if_pos (by decide)])
    (fun k i s hi hs => by
      show ∃ s', (∀ j, j < i + 1 → s' j = -1) ∧ lpJ7_fill_53178_5 (-1) 300 (k + 1) (nI i) s = lpJ7_fill_53178_5 (-1) 300 k (nI (i + 1)) s'
      rw [lpJ7_fill_53178_5, if_neg (by rw [show (300 : Int32) = nI 300 from rfl, le_n (by omega) (by omega)]; omega), ck_nI hi (by omega), cl_n (j := i) (by omega), ad_1 i]
      refine ⟨_, fun j hj => ?_, rfl⟩
      by_cases e : j = i
      · subst e; rw [up_s]
      · rw [up_n e]; exact hs j (by omega))
    300 qFU 0 qz (by omega) (by unfold qFU; omega) (fun k hk => absurd hk (Nat.not_lt_zero _))
  obtain ⟨s', h1, h2⟩ := key
  have h2' : lpJ7_fill_53178_5 (-1) 300 qFU 0 qz = some s' := h2
  rw [h2', bi_s]
  exact ⟨s', rfl, h1⟩
theorem law_fill : ∃ o, mJ7_fill_53178 qz (-1) = some o := by
  obtain ⟨o, h, -⟩ := fill_spec
  exact ⟨o, h⟩
/-- a new object, and a new reference -/
def mN0 : MN := (0, 0, (fun _ => 0), (fun _ => 0), (fun _ => 0), (fun _ => 0), (fun _ => 0), (fun _ => 0), (fun _ => 0), (fun _ => 0))
theorem LI_0 {o : qA} (h : ∀ k, k < 300 → o k = -1) : LI 0 ((0, 0, 0, qz, qz, qz, qz, qz, qz, o, qz) : SN) ((qz, qz, qz) : ST) ((qz, qz, qz, qz, qz, qz, qz, qz) : SP) ((0, qz, qz, qz, 0, qz, qz, qz, 0, qz, qz, qz, qz, qz, qz, qz, qz, qz, qz) : SM) := by
  have hv : ∀ r, ¬ gV mN0 r := fun r z => absurd z.1 (Nat.not_lt_zero _)
  refine ⟨mN0, fun _ => 0, fun _ => 0, fun _ => 0, ?_, ?_, ?_, ?_, ?_, ?_, Or.inl rfl⟩
  · exact ⟨Nat.zero_le _, Nat.zero_le _, fun p hp => absurd hp (Nat.not_lt_zero _), fun a ha => absurd ha (Nat.not_lt_zero _), fun r hr => absurd hr (hv r)⟩
  · exact ⟨⟨rfl, rfl, fun p hp => absurd hp (Nat.not_lt_zero _), fun a ha => absurd ha (Nat.not_lt_zero _), fun r hr => absurd hr (hv r)⟩, fun a _ _ => rfl, fun r hr _ => h r hr, rfl⟩
  · exact ⟨rfl, rfl, fun p hp => absurd hp (Nat.not_lt_zero _), fun a ha => absurd ha (Nat.not_lt_zero _), fun r hr => absurd hr (hv r)⟩
  · exact fun r => ⟨Nat.zero_le _, fun z => absurd (show (0 : Nat) = 1 from z) (by omega)⟩
  · exact fun r _ => ⟨rfl, fun z => absurd (show (0 : Nat) = 1 from z) (by omega)⟩
  · exact fun r _ => ⟨rfl, fun z => absurd (show (0 : Nat) = 1 from z) (by omega)⟩
theorem tc_1 {m : SM} {c : Int32} {x y : Int64} {K : Option Int32} (h1 : M_thrown m = c) (h2 : c = 0 → x = y) : ((mX5_thrown m).bind fun o => if o = c then (if c = 0 then (ck 0 1 (if (lg_cmp x y) = 0 then K else (some 0))) else K) else (some 0)) = K := by
  unfold mX5_thrown
  rw [bi_s, if_pos h1]
  by_cases z : c = 0
  · rw [if_pos z, ck_01, if_pos ((lg_cmp_eq _ _).mpr (h2 z))]
  · rw [if_neg z]
theorem tc_2 {m : SM} {c w : Int32} {x : Int64} {K : Option Int32} (h1 : M_thrown m = c) (h2 : c = 0 → x = if w = 0 then 0 else 1) : ((mX5_thrown m).bind fun o => if o = c then (if c = 0 then (ck 0 1 (Option.bind (if w = 0 then (some 0) else (some 1)) fun z => if (lg_cmp x z) = 0 then K else (some 0))) else K) else (some 0)) = K := by
  unfold mX5_thrown
  rw [bi_s, if_pos h1]
  by_cases z : c = 0
  · rw [if_pos z, ck_01, h2 z]
    by_cases y : w = 0
    · rw [if_pos y, if_pos y, bi_s, if_pos ((lg_cmp_eq _ _).mpr rfl)]
    · rw [if_neg y, if_neg y, bi_s, if_pos ((lg_cmp_eq _ _).mpr rfl)]
  · rw [if_neg z]
theorem tc_3 {m : SM} {c : Int32} {K : Option Int32} (h1 : M_thrown m = c) : ((mX5_thrown m).bind fun o => if o = c then K else (some 0)) = K := by
  unfold mX5_thrown
  rw [bi_s, if_pos h1]
theorem bool_z (x : Int32) : ∃ z : Int32, (if x = 0 then (some (0 : Int32)) else (some 1)) = some z := by
  split
  · exact ⟨_, rfl⟩
  · exact ⟨_, rfl⟩
set_option maxHeartbeats 8000000 in
set_option maxRecDepth 100000 in
theorem law_run {L : Nat} (hL : L ≤ 3072) (xs : Nat → Int32) : ∀ (k i : Nat) (q : Int32) (n : SN) (t : ST) (f : SF) (p r : SP) (m : SM) (o : qJ), LI q n t p m → i ≤ L → L + 6 ≤ i + 6 * k → lpL_law L xs k (nI i) q n t f p r m o = some 1 := by
  intro k
  induction k with
  | zero => intro i q n t f p r m o hI h1 h2; omega
  | succ k ih =>
    intro i q n t f p r m o hI h1 h2
    have hcond : ((Int32.ofNat L) - 6 < nI i) = ((L : Int) - 6 < i) := by
      have e : Int32.ofNat L - 6 = nI L - nI 6 := rfl
      rw [e, Int32.lt_iff_toInt_lt, pk_sub_toInt (by omega) (by omega), nI_toInt (by omega)]
      rfl
    rw [lpL_law]
    by_cases hc : (L : Int) - 6 < i
    · rw [if_pos (by rw [hcond]; exact hc)]
    · have hi6 : i + 6 ≤ L := by omega
      have f1 : nI i + 1 = nI (i + 1) := ad_1 i
      have f2 : nI i + 2 = nI (i + 2) := ad_n i 2
      have f3 : nI i + 3 = nI (i + 3) := ad_n i 3
      have f4 : nI i + 4 = nI (i + 4) := ad_n i 4
      have f5 : nI i + 5 = nI (i + 5) := ad_n i 5
      have f6 : nI i + 6 = nI (i + 6) := ad_n i 6
      have g1 : ∀ {α : Type} (y : Option α), ck (nI (i + 1)) L y = y := fun y => ck_nI (by omega) (by omega)
      have g2 : ∀ {α : Type} (y : Option α), ck (nI (i + 2)) L y = y := fun y => ck_nI (by omega) (by omega)
      have g3 : ∀ {α : Type} (y : Option α), ck (nI (i + 3)) L y = y := fun y => ck_nI (by omega) (by omega)
      have g4 : ∀ {α : Type} (y : Option α), ck (nI (i + 4)) L y = y := fun y => ck_nI (by omega) (by omega)
      have g5 : ∀ {α : Type} (y : Option α), ck (nI (i + 5)) L y = y := fun y => ck_nI (by omega) (by omega)
      have nx : ∀ (q : Int32) (n : SN) (t : ST) (f : SF) (p r : SP) (m : SM) (o : qJ), LI q n t p m → lpL_law L xs k (nI (i + 6)) q n t f p r m o = some 1 := fun q n t f p r m o h => ih (i + 6) q n t f p r m o h hi6 (by omega)
      rw [if_neg (by rw [hcond]; exact hc), ck_nI (j := i) (by omega) (by omega), cl_n (j := i) (by omega)]
      by_cases hb : Int32.toInt (xs i &&& 31) < 0 ∨ 16 < Int32.toInt (xs i &&& 31)
      · rw [if_pos hb, f6]
        exact nx _ _ _ _ _ _ _ _ hI
      · rw [if_neg hb]
        have hz : ¬ (xs i &&& 31) < 0 := by
          rw [Int32.lt_iff_toInt_lt]
          have : (0 : Int32).toInt = 0 := rfl
          omega
        obtain ⟨j, hj, hv⟩ := nI_of hz
        rw [hv, nI_toInt hj] at hb
        rw [hv]
        obtain z | z | z | z | z | z | z | z | z | z | z | z | z | z | z | z | z : j = 0 ∨ j = 1 ∨ j = 2 ∨ j = 3 ∨ j = 4 ∨ j = 5 ∨ j = 6 ∨ j = 7 ∨ j = 8 ∨ j = 9 ∨ j = 10 ∨ j = 11 ∨ j = 12 ∨ j = 13 ∨ j = 14 ∨ j = 15 ∨ j = 16 := by omega
        · subst z
          rw [if_pos (show nI 0 = 0 from rfl)]
          obtain ⟨a, b, e1, e2, e3, e4, e5⟩ := op_place hI o (xs (i + 1)) (xs (i + 2)) (xs (i + 3))
          rw [f1, f2, f3, cl_n (j := i + 1) (by omega), cl_n (j := i + 2) (by omega), cl_n (j := i + 3) (by omega), f6]
          simp only [g1, g2, g3]
          rw [e1, bi_s, e2, bi_s, tc_1 e3 e4]
          exact nx _ _ _ _ _ _ _ _ e5
        · subst z
          rw [if_neg (show ¬ nI 1 = 0 by decide), if_pos (show nI 1 = 1 from rfl)]
          obtain ⟨a, b, e1, e2, e3, e5⟩ := op_change hI (xs (i + 1)) (xs (i + 2)) (xs (i + 3)) (xs (i + 4))
          rw [f1, f2, f3, f4, cl_n (j := i + 1) (by omega), cl_n (j := i + 2) (by omega), cl_n (j := i + 3) (by omega), cl_n (j := i + 4) (by omega), f6]
          simp only [g1, g2, g3, g4]
          rw [e1, bi_s, e2, bi_s, tc_3 e3]
          exact nx _ _ _ _ _ _ _ _ e5
        · subst z
          rw [if_neg (show ¬ nI 2 = 0 by decide), if_neg (show ¬ nI 2 = 1 by decide), if_pos (show nI 2 = 2 from rfl)]
          obtain ⟨a, b, e1, e2, e3, e4, e5⟩ := op_ask hI o (xs (i + 1)) (xs (i + 2)) (xs (i + 3)) (xs (i + 4))
          rw [f1, f2, f3, f4, cl_n (j := i + 1) (by omega), cl_n (j := i + 2) (by omega), cl_n (j := i + 3) (by omega), cl_n (j := i + 4) (by omega), f6]
          simp only [g1, g2, g3, g4]
          rw [e1, bi_s, e2, bi_s, tc_1 e3 e4]
          exact nx _ _ _ _ _ _ _ _ e5
        · subst z
          rw [if_neg (show ¬ nI 3 = 0 by decide), if_neg (show ¬ nI 3 = 1 by decide), if_neg (show ¬ nI 3 = 2 by decide), if_pos (show nI 3 = 3 from rfl)]
          obtain ⟨a, b, e1, e2, e3, e4, e5⟩ := op_step hI o (xs (i + 1)) (xs (i + 2)) (xs (i + 3))
          rw [f1, f2, f3, cl_n (j := i + 1) (by omega), cl_n (j := i + 2) (by omega), cl_n (j := i + 3) (by omega), f6]
          simp only [g1, g2, g3]
          rw [e1, bi_s, e2, bi_s, tc_1 e3 e4]
          exact nx _ _ _ _ _ _ _ _ e5
        · subst z
          rw [if_neg (show ¬ nI 4 = 0 by decide), if_neg (show ¬ nI 4 = 1 by decide), if_neg (show ¬ nI 4 = 2 by decide), if_neg (show ¬ nI 4 = 3 by decide), if_pos (show nI 4 = 4 from rfl)]
          obtain ⟨a, b, e1, e2, e3, e5⟩ := op_seen hI (xs (i + 1)) (xs (i + 2)) (xs (i + 3)) (xs (i + 4))
          rw [f1, f2, f3, f4, cl_n (j := i + 1) (by omega), cl_n (j := i + 2) (by omega), cl_n (j := i + 3) (by omega), cl_n (j := i + 4) (by omega), f6]
          simp only [g1, g2, g3, g4]
          rw [e1, bi_s, e2, bi_s, tc_3 e3]
          exact nx _ _ _ _ _ _ _ _ e5
        · subst z
          rw [if_neg (show ¬ nI 5 = 0 by decide), if_neg (show ¬ nI 5 = 1 by decide), if_neg (show ¬ nI 5 = 2 by decide), if_neg (show ¬ nI 5 = 3 by decide), if_neg (show ¬ nI 5 = 4 by decide), if_pos (show nI 5 = 5 from rfl)]
          obtain ⟨a, b, e1, e2, e3, e4, e5⟩ := op_unsee hI o (xs (i + 1)) (xs (i + 2))
          rw [f1, f2, cl_n (j := i + 1) (by omega), cl_n (j := i + 2) (by omega), f6]
          simp only [g1, g2]
          rw [e1, bi_s, e2, bi_s, tc_2 e3 e4]
          exact nx _ _ _ _ _ _ _ _ e5
        · subst z
          rw [if_neg (show ¬ nI 6 = 0 by decide), if_neg (show ¬ nI 6 = 1 by decide), if_neg (show ¬ nI 6 = 2 by decide), if_neg (show ¬ nI 6 = 3 by decide), if_neg (show ¬ nI 6 = 4 by decide), if_neg (show ¬ nI 6 = 5 by decide), if_pos (show nI 6 = 6 from rfl)]
          obtain ⟨a, b, e1, e2, e3, e4, e5⟩ := op_played hI o (xs (i + 1)) (xs (i + 2)) (xs (i + 3))
          rw [f1, f2, f3, cl_n (j := i + 1) (by omega), cl_n (j := i + 2) (by omega), cl_n (j := i + 3) (by omega), f6]
          simp only [g1, g2, g3]
          rw [e1, bi_s, e2, bi_s, tc_1 e3 e4]
          exact nx _ _ _ _ _ _ _ _ e5
        · subst z
          rw [if_neg (show ¬ nI 7 = 0 by decide), if_neg (show ¬ nI 7 = 1 by decide), if_neg (show ¬ nI 7 = 2 by decide), if_neg (show ¬ nI 7 = 3 by decide), if_neg (show ¬ nI 7 = 4 by decide), if_neg (show ¬ nI 7 = 5 by decide), if_neg (show ¬ nI 7 = 6 by decide), if_pos (show nI 7 = 7 from rfl)]
          obtain ⟨a, b, e1, e2, e3, e5⟩ := op_trace hI
          rw [f6]
          rw [e1, bi_s, e2, bi_s, if_pos e3]
          exact nx _ _ _ _ _ _ _ _ e5
        · subst z
          rw [if_neg (show ¬ nI 8 = 0 by decide), if_neg (show ¬ nI 8 = 1 by decide), if_neg (show ¬ nI 8 = 2 by decide), if_neg (show ¬ nI 8 = 3 by decide), if_neg (show ¬ nI 8 = 4 by decide), if_neg (show ¬ nI 8 = 5 by decide), if_neg (show ¬ nI 8 = 6 by decide), if_neg (show ¬ nI 8 = 7 by decide), if_pos (show nI 8 = 8 from rfl)]
          obtain ⟨a, b, e1, e2, e3, e5⟩ := op_unlike hI
          rw [f6]
          rw [e1, bi_s, e2, bi_s, if_pos e3]
          exact nx _ _ _ _ _ _ _ _ e5
        · subst z
          rw [if_neg (show ¬ nI 9 = 0 by decide), if_neg (show ¬ nI 9 = 1 by decide), if_neg (show ¬ nI 9 = 2 by decide), if_neg (show ¬ nI 9 = 3 by decide), if_neg (show ¬ nI 9 = 4 by decide), if_neg (show ¬ nI 9 = 5 by decide), if_neg (show ¬ nI 9 = 6 by decide), if_neg (show ¬ nI 9 = 7 by decide), if_neg (show ¬ nI 9 = 8 by decide), if_pos (show nI 9 = 9 from rfl)]
          obtain ⟨zb, hzb⟩ := bool_z (xs (i + 2))
          obtain ⟨a, b, e1, e2, e3, e4, e5⟩ := op_found hI f o (xs (i + 1)) zb
          rw [f1, f2, cl_n (j := i + 1) (by omega), cl_n (j := i + 2) (by omega), f6]
          simp only [g1, g2]
          rw [hzb, bi_s, e1, bi_s, bi_s, e2, bi_s, tc_1 e3 e4]
          exact nx _ _ _ _ _ _ _ _ e5
        · subst z
          rw [if_neg (show ¬ nI 10 = 0 by decide), if_neg (show ¬ nI 10 = 1 by decide), if_neg (show ¬ nI 10 = 2 by decide), if_neg (show ¬ nI 10 = 3 by decide), if_neg (show ¬ nI 10 = 4 by decide), if_neg (show ¬ nI 10 = 5 by decide), if_neg (show ¬ nI 10 = 6 by decide), if_neg (show ¬ nI 10 = 7 by decide), if_neg (show ¬ nI 10 = 8 by decide), if_neg (show ¬ nI 10 = 9 by decide), if_pos (show nI 10 = 10 from rfl)]
          obtain ⟨a, b, e1, e2, e3, e4, e5⟩ := op_overlap hI f o (xs (i + 1))
          rw [f1, cl_n (j := i + 1) (by omega), f6]
          simp only [g1]
          rw [e1, bi_s, e2, bi_s, tc_1 e3 e4]
          exact nx _ _ _ _ _ _ _ _ e5
        · subst z
          rw [if_neg (show ¬ nI 11 = 0 by decide), if_neg (show ¬ nI 11 = 1 by decide), if_neg (show ¬ nI 11 = 2 by decide), if_neg (show ¬ nI 11 = 3 by decide), if_neg (show ¬ nI 11 = 4 by decide), if_neg (show ¬ nI 11 = 5 by decide), if_neg (show ¬ nI 11 = 6 by decide), if_neg (show ¬ nI 11 = 7 by decide), if_neg (show ¬ nI 11 = 8 by decide), if_neg (show ¬ nI 11 = 9 by decide), if_neg (show ¬ nI 11 = 10 by decide), if_pos (show nI 11 = 11 from rfl)]
          obtain ⟨zb, hzb⟩ := bool_z (xs (i + 2))
          obtain ⟨a, b, e1, e2, e3, e4, e5⟩ := op_counts hI o (xs (i + 1)) zb (xs (i + 3)) (xs (i + 4)) (xs (i + 5))
          rw [f1, f2, f3, f4, f5, cl_n (j := i + 1) (by omega), cl_n (j := i + 2) (by omega), cl_n (j := i + 3) (by omega), cl_n (j := i + 4) (by omega), cl_n (j := i + 5) (by omega), f6]
          simp only [g1, g2, g3, g4, g5]
          rw [hzb, bi_s, e1, bi_s, bi_s, e2, bi_s, tc_1 e3 e4]
          exact nx _ _ _ _ _ _ _ _ e5
        · subst z
          rw [if_neg (show ¬ nI 12 = 0 by decide), if_neg (show ¬ nI 12 = 1 by decide), if_neg (show ¬ nI 12 = 2 by decide), if_neg (show ¬ nI 12 = 3 by decide), if_neg (show ¬ nI 12 = 4 by decide), if_neg (show ¬ nI 12 = 5 by decide), if_neg (show ¬ nI 12 = 6 by decide), if_neg (show ¬ nI 12 = 7 by decide), if_neg (show ¬ nI 12 = 8 by decide), if_neg (show ¬ nI 12 = 9 by decide), if_neg (show ¬ nI 12 = 10 by decide), if_neg (show ¬ nI 12 = 11 by decide), if_pos (show nI 12 = 12 from rfl)]
          obtain ⟨a, b, e1, e2, e3, e5⟩ := op_total hI
          rw [f6]
          rw [e1, bi_s, e2, bi_s, if_pos ((lg_cmp_eq _ _).mpr e3)]
          exact nx _ _ _ _ _ _ _ _ e5
        · subst z
          rw [if_neg (show ¬ nI 13 = 0 by decide), if_neg (show ¬ nI 13 = 1 by decide), if_neg (show ¬ nI 13 = 2 by decide), if_neg (show ¬ nI 13 = 3 by decide), if_neg (show ¬ nI 13 = 4 by decide), if_neg (show ¬ nI 13 = 5 by decide), if_neg (show ¬ nI 13 = 6 by decide), if_neg (show ¬ nI 13 = 7 by decide), if_neg (show ¬ nI 13 = 8 by decide), if_neg (show ¬ nI 13 = 9 by decide), if_neg (show ¬ nI 13 = 10 by decide), if_neg (show ¬ nI 13 = 11 by decide), if_neg (show ¬ nI 13 = 12 by decide), if_pos (show nI 13 = 13 from rfl)]
          obtain ⟨a, b, e1, e2, e3, e4, e5⟩ := op_saved hI r o (xs (i + 1))
          rw [f1, cl_n (j := i + 1) (by omega), f6]
          simp only [g1]
          rw [e1, bi_s, e2, bi_s, tc_1 e3 e4]
          exact nx _ _ _ _ _ _ _ _ e5
        · subst z
          rw [if_neg (show ¬ nI 14 = 0 by decide), if_neg (show ¬ nI 14 = 1 by decide), if_neg (show ¬ nI 14 = 2 by decide), if_neg (show ¬ nI 14 = 3 by decide), if_neg (show ¬ nI 14 = 4 by decide), if_neg (show ¬ nI 14 = 5 by decide), if_neg (show ¬ nI 14 = 6 by decide), if_neg (show ¬ nI 14 = 7 by decide), if_neg (show ¬ nI 14 = 8 by decide), if_neg (show ¬ nI 14 = 9 by decide), if_neg (show ¬ nI 14 = 10 by decide), if_neg (show ¬ nI 14 = 11 by decide), if_neg (show ¬ nI 14 = 12 by decide), if_neg (show ¬ nI 14 = 13 by decide), if_pos (show nI 14 = 14 from rfl)]
          obtain ⟨a, b, e1, e2, e3, e5⟩ := op_narrow hI r
          rw [f6]
          rw [e1, bi_s, e2, bi_s, if_pos e3]
          exact nx _ _ _ _ _ _ _ _ e5
        · subst z
          rw [if_neg (show ¬ nI 15 = 0 by decide), if_neg (show ¬ nI 15 = 1 by decide), if_neg (show ¬ nI 15 = 2 by decide), if_neg (show ¬ nI 15 = 3 by decide), if_neg (show ¬ nI 15 = 4 by decide), if_neg (show ¬ nI 15 = 5 by decide), if_neg (show ¬ nI 15 = 6 by decide), if_neg (show ¬ nI 15 = 7 by decide), if_neg (show ¬ nI 15 = 8 by decide), if_neg (show ¬ nI 15 = 9 by decide), if_neg (show ¬ nI 15 = 10 by decide), if_neg (show ¬ nI 15 = 11 by decide), if_neg (show ¬ nI 15 = 12 by decide), if_neg (show ¬ nI 15 = 13 by decide), if_neg (show ¬ nI 15 = 14 by decide), if_pos (show nI 15 = 15 from rfl)]
          obtain ⟨a, b, e1, e2, e3, e4, e5⟩ := op_alone hI o (xs (i + 1))
          rw [f1, cl_n (j := i + 1) (by omega), f6]
          simp only [g1]
          rw [e1, bi_s, e2, bi_s, tc_1 e3 e4]
          exact nx _ _ _ _ _ _ _ _ e5
        · subst z
          rw [if_neg (show ¬ nI 16 = 0 by decide), if_neg (show ¬ nI 16 = 1 by decide), if_neg (show ¬ nI 16 = 2 by decide), if_neg (show ¬ nI 16 = 3 by decide), if_neg (show ¬ nI 16 = 4 by decide), if_neg (show ¬ nI 16 = 5 by decide), if_neg (show ¬ nI 16 = 6 by decide), if_neg (show ¬ nI 16 = 7 by decide), if_neg (show ¬ nI 16 = 8 by decide), if_neg (show ¬ nI 16 = 9 by decide), if_neg (show ¬ nI 16 = 10 by decide), if_neg (show ¬ nI 16 = 11 by decide), if_neg (show ¬ nI 16 = 12 by decide), if_neg (show ¬ nI 16 = 13 by decide), if_neg (show ¬ nI 16 = 14 by decide), if_neg (show ¬ nI 16 = 15 by decide), if_pos (show nI 16 = 16 from rfl)]
          obtain ⟨a, b, e1, e2, e3, e5⟩ := op_count hI (xs (i + 1))
          rw [f1, cl_n (j := i + 1) (by omega), f6]
          simp only [g1]
          rw [e1, bi_s, e2, bi_s, if_pos e3]
          exact nx _ _ _ _ _ _ _ _ e5
theorem law_true (o : qA) (hf : mJ7_fill_53178 qz (-1) = some o) {L : Nat} (hL : L ≤ 3072) (xs : Nat → Int32) : lpL_law L xs 513 0 0 ((0, 0, 0, qz, qz, qz, qz, qz, qz, o, qz) : SN) ((qz, qz, qz) : ST) ((0, 0, qz, qz, qz, qz, qzJ) : SF) ((qz, qz, qz, qz, qz, qz, qz, qz) : SP) ((qz, qz, qz, qz, qz, qz, qz, qz) : SP) ((0, qz, qz, qz, 0, qz, qz, qz, 0, qz, qz, qz, qz, qz, qz, qz, qz, qz, qz) : SM) qzJ = some 1 := by
  obtain ⟨o', h1, h2⟩ := fill_spec
  rw [hf] at h1
  cases h1
  exact law_run hL xs 513 0 _ _ _ _ _ _ _ _ (LI_0 h2) (Nat.zero_le _) (by omega)
