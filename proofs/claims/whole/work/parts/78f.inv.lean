/-! PURE: what the law keeps; the calls that change the net -/
def uN (f : Nat → Nat) (k x : Nat) : Nat → Nat := fun j => if j = k then x else f j
theorem uN_s {f : Nat → Nat} {k x : Nat} : uN f k x k = x := by unfold uN; rw [if_pos rfl]
theorem uN_n {f : Nat → Nat} {k x j : Nat} (h : j ≠ k) : uN f k x j = f j := by unfold uN; rw [if_neg h]
theorem upd_u {F : Nat → Int32} {f : Nat → Nat} {k x j : Nat} (h : j ≠ k → F j = nI (f j)) : upd F k (nI x) j = nI (uN f k x j) := by
  by_cases e : j = k
  · subst e; rw [up_s, uN_s]
  · rw [up_n e, uN_n e]; exact h e
/-- the class's net with its idle rows -/
def LN (M : MN) (n : SN) : Prop := RN M n ∧ (∀ a, gna M ≤ a → a < 60 → N_lengths n a = nI 0) ∧ (∀ r, r < 300 → ¬ gV M r → N_stepPlaces n r = -1) ∧ N_steps n = nI (cg (gle M) (gna M))
/-- what was seen -/
def SD (M : MN) (sn sb sd : Nat → Nat) : Prop := ∀ r, sn r ≤ 1 ∧ (sn r = 1 → gV M r ∧ sb r < sd r ∧ sd r ≤ 10000000)
def ET (sn sb sd : Nat → Nat) (t : ST) : Prop := ∀ r, r < 300 → T_isSeen t r = nI (sn r) ∧ (sn r = 1 → T_begun t r = nI (sb r) ∧ T_done t r = nI (sd r))
def EM (sn sb sd : Nat → Nat) (m : SM) : Prop := ∀ r, r < 300 → M_isSeen m r = nI (sn r) ∧ (sn r = 1 → M_seenBegun m r = nI (sb r) ∧ M_seenDone m r = nI (sd r))
def FR (M : MN) (q : Int32) (p : SP) : Prop := q = 0 ∨ (q = 1 ∧ PE M 5 p)
def LI (q : Int32) (n : SN) (t : ST) (p : SP) (m : SM) : Prop := ∃ M sn sb sd, gOK M ∧ LN M n ∧ RM M m ∧ SD M sn sb sd ∧ ET sn sb sd t ∧ EM sn sb sd m ∧ FR M q p
theorem nw (x lo hi : Int32) : (¬ x < lo ∧ x ≤ hi ∧ mX5_in x lo hi = some 1 ∧ mX4_needWithin x lo hi = some (Sum.inr ())) ∨ (mX5_in x lo hi = some 0 ∧ mX4_needWithin x lo hi = some (Sum.inl "java/lang/IllegalArgumentException")) := by
  unfold mX5_in mX4_needWithin
  by_cases h1 : x < lo
  · rw [if_pos h1, if_pos h1]; exact Or.inr ⟨rfl, rfl⟩
  · rw [if_neg h1, if_neg h1]
    by_cases h2 : x ≤ hi
    · rw [if_neg (by rw [Int32.not_lt]; exact h2), if_pos h2]; exact Or.inl ⟨h1, h2, rfl, rfl⟩
    · rw [if_pos (by rw [← Int32.not_le]; exact h2), if_neg h2]; exact Or.inr ⟨rfl, rfl⟩
theorem nwN {x : Int32} {lo hi : Nat} (hl : hi ≤ 2000000000) (hlo : lo ≤ 2000000000) : (∃ j, lo ≤ j ∧ j ≤ hi ∧ x = nI j ∧ mX5_in x (nI lo) (nI hi) = some 1 ∧ mX4_needWithin x (nI lo) (nI hi) = some (Sum.inr ())) ∨ (mX5_in x (nI lo) (nI hi) = some 0 ∧ mX4_needWithin x (nI lo) (nI hi) = some (Sum.inl "java/lang/IllegalArgumentException")) := by
  rcases nw x (nI lo) (nI hi) with ⟨h1, h2, h3, h4⟩ | h
  · left
    have h0 : ¬ x < 0 := by
      intro z
      apply h1
      rw [Int32.lt_iff_toInt_lt] at z ⊢
      rw [nI_toInt (by omega)]
      have : (0 : Int32).toInt = 0 := rfl
      omega
    obtain ⟨j, hj, rfl⟩ := nI_of h0
    have a1 : lo ≤ j := by
      apply Classical.byContradiction
      intro z
      apply h1
      exact nI_lt (by omega) (by omega)
    have a2 : j ≤ hi := by
      apply Classical.byContradiction
      intro z
      exact nI_ge (a := hi) (b := j) (by omega) (by omega) h2
    exact ⟨j, a1, a2, rfl, h3, h4⟩
  · exact Or.inr h
theorem ixN {x : Int32} {g : Nat} (hg : g ≤ 1000) : (∃ j, j < g ∧ x = nI j ∧ mX5_in x 0 (nI g - 1) = some 1) ∨ ((x < 0 ∨ ¬ x < nI g) ∧ mX5_in x 0 (nI g - 1) = some 0) := by
  unfold mX5_in
  by_cases h0 : x < 0
  · right; rw [if_pos h0]; exact ⟨Or.inl h0, rfl⟩
  · rw [if_neg h0]
    obtain ⟨j, hj, rfl⟩ := nI_of h0
    by_cases h1 : j < g
    · left
      refine ⟨j, h1, rfl, ?_⟩
      rw [su_1 (by omega), if_neg (nI_nlt (by omega) (by omega))]
    · right
      refine ⟨Or.inr (nI_nlt (by omega) (by omega)), ?_⟩
      rw [if_pos]
      by_cases hz : g = 0
      · subst hz
        rw [Int32.lt_iff_toInt_lt, nI_toInt hj]
        have : (nI 0 - 1).toInt = -1 := by decide
        omega
      · rw [su_1 (by omega)]
        exact nI_lt (by omega) hj
theorem npN {M : MN} {n : SN} {m : SM} {q x : Int32} (ok : gOK M) (hn : N_places n = nI (gnp M)) (hm : M_places m = nI (gnp M)) : (∃ p, p < gnp M ∧ x = nI p ∧ mX4_needPlace q n x = some (Sum.inr ()) ∧ mX5_noPlace m x = some 0) ∨ (mX4_needPlace q n x = some (Sum.inl "java/lang/IndexOutOfBoundsException") ∧ mX5_noPlace m x = some 1) := by
  have h5 := ok.1
  unfold mX4_needPlace mX5_noPlace
  rw [hn, hm]
  rcases ixN (x := x) (g := gnp M) (by omega) with ⟨j, h1, rfl, h3⟩ | ⟨h1, h3⟩
  · left
    refine ⟨j, h1, rfl, ?_, ?_⟩
    · rw [if_neg (by rw [lt_0n (by omega)]; exact not_false), if_pos (nI_lt h1 (by omega))]; rfl
    · rw [h3, bi_s, if_neg (by decide)]
  · right
    rw [h3, bi_s, if_pos rfl]
    refine ⟨?_, rfl⟩
    by_cases z : x < 0
    · rw [if_pos z]
    · rw [if_neg z, if_neg (h1.resolve_left z)]
theorem naN {M : MN} {n : SN} {m : SM} {q x : Int32} (ok : gOK M) (hn : N_asks n = nI (gna M)) (hm : M_asks m = nI (gna M)) : (∃ p, p < gna M ∧ x = nI p ∧ mX4_needAsk q n x = some (Sum.inr ()) ∧ mX5_noAsk m x = some 0) ∨ (mX4_needAsk q n x = some (Sum.inl "java/lang/IndexOutOfBoundsException") ∧ mX5_noAsk m x = some 1) := by
  have h5 := ok.2.1
  unfold mX4_needAsk mX5_noAsk
  rw [hn, hm]
  rcases ixN (x := x) (g := gna M) (by omega) with ⟨j, h1, rfl, h3⟩ | ⟨h1, h3⟩
  · left
    refine ⟨j, h1, rfl, ?_, ?_⟩
    · rw [if_neg (by rw [lt_0n (by omega)]; exact not_false), if_pos (nI_lt h1 (by omega))]; rfl
    · rw [h3, bi_s, if_neg (by decide)]
  · right
    rw [h3, bi_s, if_pos rfl]
    refine ⟨?_, rfl⟩
    by_cases z : x < 0
    · rw [if_pos z]
    · rw [if_neg z, if_neg (h1.resolve_left z)]
theorem nsN {M : MN} {n : SN} {m : SM} {q x y : Int32} (ok : gOK M) (hn : RN M n) (hm : RM M m) : (∃ a j, a < gna M ∧ j < gle M a ∧ x = nI a ∧ y = nI j ∧ mX4_needStep q n x y = some (Sum.inr (nI (5 * a + j))) ∧ mX5_noStep m x y = some 0) ∨ (mX4_needStep q n x y = some (Sum.inl "java/lang/IndexOutOfBoundsException") ∧ mX5_noStep m x y = some 1) := by
  have h5 := ok.2.1
  unfold mX4_needStep mX5_noStep
  rcases naN (q := q) (x := x) ok hn.2.1 hm.2.1 with ⟨a, h1, rfl, h3, h4⟩ | ⟨h3, h4⟩
  · rw [h3, h4, bi_s, bi_s, if_pos rfl]
    have hl := ok.2.2.2.1 a h1
    unfold qX
    dsimp only
    rw [ck_nI (by omega) (by omega), ck_nI (by omega) (by omega), cl_n (by omega), (hn.2.2.2.1 a h1).2.2, (hm.2.2.2.1 a h1).2.2, mFirst, bi_s]
    rcases ixN (x := y) (g := gle M a) (by omega) with ⟨j, k1, rfl, k3⟩ | ⟨k1, k3⟩
    · left
      refine ⟨a, j, h1, k1, rfl, rfl, ?_, ?_⟩
      · rw [if_neg (by rw [lt_0n (by omega)]; exact not_false), if_pos (nI_lt k1 (by omega)), ad_n]; rfl
      · rw [k3, bi_s, if_neg (by decide)]
    · right
      rw [k3, bi_s, if_pos rfl]
      refine ⟨?_, rfl⟩
      by_cases z : y < 0
      · rw [if_pos z]
      · rw [if_neg z, if_neg (k1.resolve_left z)]
  · right
    rw [h3, h4, bi_s, bi_s, if_neg (show ¬ (1 : Int32) = 0 by decide)]
    exact ⟨rfl, rfl⟩
theorem ti_1 (m : SM) (c : Int32) : mX5_throwsIf m 1 c = some (1, M_thrown_s m c) := by unfold mX5_throwsIf; rw [if_neg (by decide), ckz_1]
theorem ti_0 (m : SM) (c : Int32) : mX5_throwsIf m 0 c = some (0, m) := by unfold mX5_throwsIf; rw [if_pos rfl, ckz_0]
theorem RM.th {M : MN} {m : SM} (h : RM M m) (c : Int32) : RM M (M_thrown_s m c) := h
theorem EM.th {sn sb sd : Nat → Nat} {m : SM} (h : EM sn sb sd m) (c : Int32) : EM sn sb sd (M_thrown_s m c) := h
theorem out_0 (o : qJ) (x : Int64) : vp_updL o (Int32.toNatClampNeg 0) x (Int32.toNatClampNeg 0) = x := pk_uLs
theorem ck_01 {α : Type} {k : Option α} : ck 0 1 k = k := by unfold ck; rw [if_neg (by decide)]
theorem plN (h r d : Int32) : (∃ a b c, 1 ≤ a ∧ a ≤ 8 ∧ b ≤ 3 ∧ c ≤ 1000 ∧ h = nI a ∧ r = nI b ∧ d = nI c ∧ mX5_isPlace h r d = some 1 ∧ mX4_needPlaceNumbers h r d = some (Sum.inr ())) ∨ (mX5_isPlace h r d = some 0 ∧ mX4_needPlaceNumbers h r d = some (Sum.inl "java/lang/IllegalArgumentException")) := by
  unfold mX5_isPlace mX4_needPlaceNumbers
  rw [show (8 : Int32) = nI 8 from rfl, show (1000 : Int32) = nI 1000 from rfl, show (3 : Int32) = nI 3 from rfl]
  rw [show mX5_in h 1 (nI 8) = mX5_in h (nI 1) (nI 8) from rfl, show mX4_needWithin h 1 (nI 8) = mX4_needWithin h (nI 1) (nI 8) from rfl, show mX5_in r 0 (nI 3) = mX5_in r (nI 0) (nI 3) from rfl, show mX4_needWithin r 0 (nI 3) = mX4_needWithin r (nI 0) (nI 3) from rfl, show mX5_in d 0 (nI 1000) = mX5_in d (nI 0) (nI 1000) from rfl, show mX4_needWithin d 0 (nI 1000) = mX4_needWithin d (nI 0) (nI 1000) from rfl]
  rcases nwN (x := h) (lo := 1) (hi := 8) (by omega) (by omega) with ⟨a, a1, a2, a3, a4, a5⟩ | ⟨a4, a5⟩
  · rw [a4, a5, bi_s, bi_s, if_neg (by decide)]
    unfold qX
    dsimp only
    rcases nwN (x := r) (lo := 0) (hi := 3) (by omega) (by omega) with ⟨b, b1, b2, b3, b4, b5⟩ | ⟨b4, b5⟩
    · rw [b4, b5, bi_s, bi_s, if_neg (by decide)]
      dsimp only
      rcases nwN (x := d) (lo := 0) (hi := 1000) (by omega) (by omega) with ⟨c, c1, c2, c3, c4, c5⟩ | ⟨c4, c5⟩
      · rw [c4, c5, bi_s, bi_s, if_neg (by decide)]
        exact Or.inl ⟨a, b, c, a1, a2, b2, c2, a3, b3, c3, rfl, rfl⟩
      · rw [c4, c5, bi_s, bi_s, if_pos rfl]
        exact Or.inr ⟨rfl, rfl⟩
    · rw [b4, b5, bi_s, bi_s, if_pos rfl]
      exact Or.inr ⟨rfl, rfl⟩
  · rw [a4, a5, bi_s, bi_s, if_pos rfl]
    exact Or.inr ⟨rfl, rfl⟩
/-- other numbers at place p -/
def mCh (M : MN) (np p h r d : Nat) : MN := (np, gna M, uN (ghe M) p h, uN (gru M) p r, uN (gde M) p d, gki M, gst M, gle M, gpa M, gwo M)
theorem gV_ch {M : MN} {np p h r d k : Nat} : gV (mCh M np p h r d) k ↔ gV M k := Iff.rfl
theorem gOK_ch {M : MN} {np p h r d : Nat} (ok : gOK M) (h5 : np ≤ 5) (hnp : gnp M ≤ np) (hp : ∀ q, q < np → q ≠ p → q < gnp M) (h1 : 1 ≤ h) (h8 : h ≤ 8) (hr : r ≤ 3) (hd : d ≤ 1000) : gOK (mCh M np p h r d) := by
  refine ⟨h5, ok.2.1, fun q hq => ?_, ok.2.2.2.1, fun k hk => ?_⟩
  · show 1 ≤ uN (ghe M) p h q ∧ uN (ghe M) p h q ≤ 8 ∧ uN (gru M) p r q ≤ 3 ∧ uN (gde M) p d q ≤ 1000
    by_cases e : q = p
    · subst e; rw [uN_s, uN_s, uN_s]; exact ⟨h1, h8, hr, hd⟩
    · rw [uN_n e, uN_n e, uN_n e]; exact ok.2.2.1 q (hp q hq e)
  · have := ok.2.2.2.2 k hk
    exact ⟨Nat.lt_of_lt_of_le this.1 hnp, this.2⟩
theorem LN_ch {M : MN} {n : SN} {np p h r d : Nat} (hn : LN M n) (hp : ∀ q, q < np → q ≠ p → q < gnp M) : LN (mCh M np p h r d) (N_delays_s (N_rules_s (N_helpers_s (N_places_s n (nI np)) (upd (N_helpers n) p (nI h))) (upd (N_rules n) p (nI r))) (upd (N_delays n) p (nI d))) := by
  refine ⟨⟨rfl, hn.1.2.1, fun q hq => ?_, hn.1.2.2.2.1, hn.1.2.2.2.2⟩, hn.2.1, hn.2.2.1, hn.2.2.2⟩
  have hq' := fun e => hn.1.2.2.1 q (hp q hq e)
  exact ⟨upd_u (fun e => (hq' e).1), upd_u (fun e => (hq' e).2.1), upd_u (fun e => (hq' e).2.2)⟩
theorem RM_ch {M : MN} {m : SM} {np p h r d : Nat} (hm : RM M m) (hp : ∀ q, q < np → q ≠ p → q < gnp M) : RM (mCh M np p h r d) (M_places_s (M_delay_s (M_rule_s (M_helpers_s m (upd (M_helpers m) p (nI h))) (upd (M_rule m) p (nI r))) (upd (M_delay m) p (nI d))) (nI np)) := by
  refine ⟨rfl, hm.2.1, fun q hq => ?_, hm.2.2.2.1, hm.2.2.2.2⟩
  have hq' := fun e => hm.2.2.1 q (hp q hq e)
  exact ⟨upd_u (fun e => (hq' e).1), upd_u (fun e => (hq' e).2.1), upd_u (fun e => (hq' e).2.2)⟩
theorem zX_l {α β : Type} (x : String) (k : α → Option (Sum String β)) : qX (Sum.inl x) k = some (Sum.inl x) := rfl
theorem zX_r {α β : Type} (v : α) (k : α → Option (Sum String β)) : qX (Sum.inr v) k = k v := rfl
theorem zW_l {α β : Type} (x : String) (f : String → Option β) (k : α → Option β) : qW (Sum.inl x) f k = f x := rfl
theorem zW_r {α β : Type} (v : α) (f : String → Option β) (k : α → Option β) : qW (Sum.inr v) f k = k v := rfl
theorem zS_l {ρ ε α : Type} (r : ρ) (f : ρ → α) (k : ε → Option α) : qS (Sum.inl r) f k = some (f r) := rfl
theorem zS_r {ρ ε α : Type} (v : ε) (f : ρ → α) (k : ε → Option α) : qS (Sum.inr v) f k = k v := rfl
theorem n10 : ¬ (1 : Int32) = 0 := by decide
theorem if_0 {α : Type} {x y : α} : (if (0 : Int32) = 0 then x else y) = x := if_pos rfl
theorem if_1 {α : Type} {x y : α} : (if (1 : Int32) = 0 then x else y) = y := if_neg n10
theorem op_place {q : Int32} {n : SN} {t : ST} {p : SP} {m : SM} (hI : LI q n t p m) (o : qJ) (x1 x2 x3 : Int32) : ∃ a b, mL_place q n o x1 x2 x3 = some a ∧ mX5_place m x1 x2 x3 = some b ∧ M_thrown b.2 = a.1 ∧ (a.1 = 0 → a.2.2.2 (Int32.toNatClampNeg 0) = b.1.toInt64) ∧ LI a.2.1 a.2.2.1 t p b.2 := by
  obtain ⟨M, sn, sb, sd, ok, hn, hm, hsd, het, hem, hfr⟩ := hI
  have h5 := ok.1
  have hmp : M_places m = nI (gnp M) := hm.1
  rcases plN x1 x2 x3 with ⟨h, r, d, h1, h8, hr, hd, rfl, rfl, rfl, k1, k2⟩ | ⟨k1, k2⟩
  · by_cases hg : gnp M < 5
    · have hc : mL_place q n o (nI h) (nI r) (nI d) = some (0, 0, (N_delays_s (N_rules_s (N_helpers_s (N_places_s n (nI (gnp M + 1))) (upd (N_helpers n) (gnp M) (nI h))) (upd (N_rules n) (gnp M) (nI r))) (upd (N_delays n) (gnp M) (nI d))), vp_updL o (Int32.toNatClampNeg 0) (nI (gnp M)).toInt64) := by
        unfold mL_place mX4_place mX1_setPlace
        rw [k2, bi_s, zX_r, hn.1.1, if_pos (by rw [show (5 : Int32) = nI 5 from rfl, lt_n (by omega) (by omega)]; exact hg), ck_nI hg (by omega), ck_nI hg (by omega), ck_nI hg (by omega), cl_n (by omega), ad_1, bi_s, Option.map_some, bi_s, zW_r, ck_01]
      have hr' : mX5_place m (nI h) (nI r) (nI d) = some (nI (gnp M), (M_places_s (M_delay_s (M_rule_s (M_helpers_s (M_thrown_s m 0) (upd (M_helpers m) (gnp M) (nI h))) (upd (M_rule m) (gnp M) (nI r))) (upd (M_delay m) (gnp M) (nI d))) (nI (gnp M + 1)))) := by
        unfold mX5_place
        rw [k1, bi_s, if_1, bi_s, ti_0, bi_s, if_0]
        show Option.bind (if M_places m = 5 then some 1 else some 0) _ = _
        rw [hmp, if_neg (by rw [show (5 : Int32) = nI 5 from rfl, eq_n (by omega) (by omega)]; omega), bi_s, ti_0, bi_s, if_0]
        show ck (M_places m) 5 (ck (M_places m) 5 (ck (M_places m) 5 (some (M_places m + 1 - 1, (M_places_s (M_delay_s (M_rule_s (M_helpers_s (M_thrown_s m 0) (upd (M_helpers m) (Int32.toNatClampNeg (M_places m)) (nI h))) (upd (M_rule m) (Int32.toNatClampNeg (M_places m)) (nI r))) (upd (M_delay m) (Int32.toNatClampNeg (M_places m)) (nI d))) (M_places m + 1)))))) = _
        rw [hmp, ck_nI hg (by omega), ck_nI hg (by omega), ck_nI hg (by omega), cl_n (by omega), ad_1, su_1 (by omega)]
        rfl
      refine ⟨_, _, hc, hr', rfl, fun _ => out_0 o _, mCh M (gnp M + 1) (gnp M) h r d, sn, sb, sd, gOK_ch ok (by omega) (by omega) (fun q hq e => by omega) h1 h8 hr hd, LN_ch hn (fun q hq e => by omega), RM_ch hm (fun q hq e => by omega), hsd, het, hem, Or.inl rfl⟩
    · have hc : mL_place q n o (nI h) (nI r) (nI d) = some (2, q, n, o) := by
        unfold mL_place mX4_place
        rw [k2, bi_s, zX_r, hn.1.1, if_neg (by rw [show (5 : Int32) = nI 5 from rfl, lt_n (by omega) (by omega)]; exact hg), bi_s, zW_l, if_neg (by decide), if_pos rfl]
      have hr' : mX5_place m (nI h) (nI r) (nI d) = some (0, M_thrown_s m 2) := by
        unfold mX5_place
        rw [k1, bi_s, if_1, bi_s, ti_0, bi_s, if_0]
        show Option.bind (if M_places m = 5 then some 1 else some 0) _ = _
        rw [hmp, if_pos (by rw [show gnp M = 5 by omega]; rfl), bi_s, ti_1, bi_s, if_1]
      exact ⟨_, _, hc, hr', rfl, fun z => absurd (show (2 : Int32) = 0 from z) (by decide), M, sn, sb, sd, ok, hn, hm, hsd, het, hem, hfr⟩
  · have hc : mL_place q n o x1 x2 x3 = some (1, q, n, o) := by
      unfold mL_place mX4_place
      rw [k2, bi_s, zX_l, bi_s, zW_l, if_pos rfl]
    have hr' : mX5_place m x1 x2 x3 = some (0, M_thrown_s m 1) := by
      unfold mX5_place
      rw [k1, bi_s, if_0, bi_s, ti_1, bi_s, if_1]
    exact ⟨_, _, hc, hr', rfl, fun z => absurd (show (1 : Int32) = 0 from z) (by decide), M, sn, sb, sd, ok, hn, hm, hsd, het, hem, hfr⟩
theorem op_change {q : Int32} {n : SN} {t : ST} {p : SP} {m : SM} (hI : LI q n t p m) (x1 x2 x3 x4 : Int32) : ∃ a b, mL_change q n x1 x2 x3 x4 = some a ∧ mX5_change m x1 x2 x3 x4 = some b ∧ M_thrown b = a.1 ∧ LI a.2.1 a.2.2 t p b := by
  obtain ⟨M, sn, sb, sd, ok, hn, hm, hsd, het, hem, hfr⟩ := hI
  have h5 := ok.1
  have hmp : M_places m = nI (gnp M) := hm.1
  rcases npN (q := q) (x := x1) (m := M_thrown_s m 0) ok hn.1.1 hm.1 with ⟨pl, hpl, rfl, j1, j2⟩ | ⟨j1, j2⟩
  · rcases plN x2 x3 x4 with ⟨h, r, d, h1, h8, hr, hd, rfl, rfl, rfl, k1, k2⟩ | ⟨k1, k2⟩
    · have hc : mL_change q n (nI pl) (nI h) (nI r) (nI d) = some (0, 0, (N_delays_s (N_rules_s (N_helpers_s n (upd (N_helpers n) pl (nI h))) (upd (N_rules n) pl (nI r))) (upd (N_delays n) pl (nI d)))) := by
        unfold mL_change mX4_change mX1_setPlace
        rw [j1, bi_s, zX_r, k2, bi_s, zX_r, ck_nI (by omega) (by omega), ck_nI (by omega) (by omega), ck_nI (by omega) (by omega), cl_n (by omega), bi_s, Option.map_some, bi_s, zW_r]
      have hr' : mX5_change m (nI pl) (nI h) (nI r) (nI d) = some (M_delay_s (M_rule_s (M_helpers_s (M_thrown_s m 0) (upd (M_helpers m) pl (nI h))) (upd (M_rule m) pl (nI r))) (upd (M_delay m) pl (nI d))) := by
        unfold mX5_change
        rw [j2, bi_s, ti_0, bi_s, if_0, k1, bi_s, if_1, bi_s, ti_0, bi_s, if_0, ck_nI (by omega) (by omega), ck_nI (by omega) (by omega), ck_nI (by omega) (by omega), cl_n (by omega)]
      have hln := LN_ch (np := gnp M) (p := pl) (h := h) (r := r) (d := d) hn (fun q hq e => hq)
      have hrm := RM_ch (np := gnp M) (p := pl) (h := h) (r := r) (d := d) (hm.th 0) (fun q hq e => hq)
      rw [show N_places_s n (nI (gnp M)) = n by rw [← hn.1.1]] at hln
      refine ⟨_, _, hc, hr', rfl, mCh M (gnp M) pl h r d, sn, sb, sd, gOK_ch ok h5 (Nat.le_refl _) (fun q hq e => hq) h1 h8 hr hd, hln, ?_, hsd, het, hem, Or.inl rfl⟩
      exact ⟨hmp, hrm.2⟩
    · have hc : mL_change q n (nI pl) x2 x3 x4 = some (2, q, n) := by
        unfold mL_change mX4_change
        rw [j1, bi_s, zX_r, k2, bi_s, zX_l, bi_s, zW_l, if_neg (by decide), if_pos rfl]
      have hr' : mX5_change m (nI pl) x2 x3 x4 = some (M_thrown_s m 2) := by
        unfold mX5_change
        rw [j2, bi_s, ti_0, bi_s, if_0, k1, bi_s, if_0, bi_s, ti_1, bi_s, if_1]
      exact ⟨_, _, hc, hr', rfl, M, sn, sb, sd, ok, hn, hm, hsd, het, hem, hfr⟩
  · have hc : mL_change q n x1 x2 x3 x4 = some (1, q, n) := by
      unfold mL_change mX4_change
      rw [j1, bi_s, zX_l, bi_s, zW_l, if_pos rfl]
    have hr' : mX5_change m x1 x2 x3 x4 = some (M_thrown_s m 1) := by
      unfold mX5_change
      rw [j2, bi_s, ti_1, bi_s, if_1]
    exact ⟨_, _, hc, hr', rfl, M, sn, sb, sd, ok, hn, hm, hsd, het, hem, hfr⟩
