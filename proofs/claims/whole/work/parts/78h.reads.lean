/-! PURE: played, total, saved, narrow, alone -/
theorem EM.keep {sn sb sd : Nat → Nat} {m m0 : SM} (h : EM sn sb sd m0) (hk : kp m = kp m0) : EM sn sb sd m := by
  obtain ⟨-, -, -, -, -, -, -, -, -, -, -, h1, h2, h3⟩ := kp_all hk
  unfold EM
  rw [h1, h2, h3]
  exact h
theorem hx5 {M : MN} (ok : gOK M) : ∀ p, p < gnp M → (nI p = -1 ↔ p = 5) := by
  have h5 := ok.1
  intro p hp
  constructor
  · intro z; rw [ne_n1 (by omega)] at z; exact z.elim
  · intro z; omega
theorem hxp {M : MN} (ok : gOK M) {w : Nat} (hw : w < gnp M) : ∀ p, p < gnp M → (nI p = nI w ↔ p = w) := by
  have h5 := ok.1
  intro p hp
  rw [eq_n (by omega) (by omega)]
theorem mRefresh {M : MN} {q : Int32} {n : SN} {p : SP} (ok : gOK M) (hn : RN M n) (hf : FR M q p) : ∃ p', mX4_refreshPlay q n p = some (1, p') ∧ PE M 5 p' := by
  unfold mX4_refreshPlay
  rcases hf with h | ⟨h, h2⟩
  · rw [if_pos h]
    obtain ⟨p', h1, h2⟩ := mRunE ok hn (hx5 ok) p
    rw [h1, bi_s]
    exact ⟨p', rfl, h2⟩
  · subst h
    rw [if_1]
    exact ⟨p, rfl, h2⟩
theorem whN {x : Int32} {k : Nat} (hk : k ≤ 1000) : (∃ j, j ≤ k ∧ x = nI j ∧ mX4_needWhat x (nI k) = some (Sum.inr ()) ∧ mX5_in x 0 (nI k) = some 1) ∨ (mX4_needWhat x (nI k) = some (Sum.inl "java/util/NoSuchElementException") ∧ mX5_in x 0 (nI k) = some 0) := by
  have hi : mX4_needWhat x (nI k) = if x < 0 then some (Sum.inl "java/util/NoSuchElementException") else if x ≤ nI k then some (Sum.inr ()) else some (Sum.inl "java/util/NoSuchElementException") := rfl
  rw [hi]
  rcases nwN (x := x) (lo := 0) (hi := k) (by omega) (by omega) with ⟨j, -, h2, rfl, h4, -⟩ | ⟨h4, h5⟩
  · left
    refine ⟨j, h2, rfl, ?_, h4⟩
    rw [if_neg (by rw [lt_0n (by omega)]; exact not_false), if_pos (nI_le h2 (by omega))]
  · right
    refine ⟨?_, h4⟩
    have h5' : (if x < 0 then some (Sum.inl "java/lang/IllegalArgumentException") else if x ≤ nI k then some (Sum.inr ()) else some (Sum.inl "java/lang/IllegalArgumentException")) = some (Sum.inl (β := Unit) "java/lang/IllegalArgumentException") := h5
    by_cases z : x < 0
    · rw [if_pos z]
    · rw [if_neg z] at h5' ⊢
      by_cases y : x ≤ nI k
      · rw [if_pos y] at h5'; cases h5'
      · rw [if_neg y]
theorem op_played {q : Int32} {n : SN} {t : ST} {p : SP} {m : SM} (hI : LI q n t p m) (o : qJ) (x1 x2 x3 : Int32) : ∃ a b, mL_played q n p o x1 x2 x3 = some a ∧ mX5_played m x1 x2 x3 = some b ∧ M_thrown b.2 = a.1 ∧ (a.1 = 0 → a.2.2.2 (Int32.toNatClampNeg 0) = b.1.toInt64) ∧ LI a.2.1 n t a.2.2.1 b.2 := by
  obtain ⟨M, sn, sb, sd, ok, hn, hm, hsd, het, hem, hfr⟩ := hI
  have h60 := ok.2.1
  rcases nsN (q := q) (x := x1) (y := x2) (m := M_thrown_s m 0) ok hn.1 hm with ⟨a, j, ha, hj, rfl, rfl, i1, i2⟩ | ⟨i1, i2⟩
  · have hle := ok.2.2.2.1 a ha
    have hv : gV M (5 * a + j) := gV.mk ha hle.2.2.2 hj
    have hr3 : 5 * a + j < 300 := by omega
    rcases whN (x := x3) (k := 2) (by omega) with ⟨w, w1, w2, w3, w4⟩ | ⟨w3, w4⟩
    · have e3 : mX4_needWhat x3 2 = some (Sum.inr ()) := w3
      have e4 : mX5_in x3 0 2 = some 1 := w4
      obtain ⟨p', f1, f2⟩ := mRefresh ok hn.1 hfr
      obtain ⟨m', g1, g2, g3⟩ := mPlaysE ok (hm.th 0) (hx5 ok)
      obtain ⟨v1, v2, v3⟩ := f2 _ hv
      obtain ⟨u1, u2, u3⟩ := g3 _ hv
      have hth : M_thrown m' = 0 := (kp_all g2).1
      have hc : mL_played q n p o (nI a) (nI j) x3 = some (0, 1, p', vp_updL o (Int32.toNatClampNeg 0) (if x3 = 0 then nI (ecm M 5 (5 * a + j)) else if x3 = 1 then nI (ebg M 5 (5 * a + j)) else nI (edn M 5 (5 * a + j))).toInt64) := by
        unfold mL_played mX4_played
        rw [i1, bi_s, zX_r, e3, bi_s, zX_r, f1, bi_s, ck_nI hr3 (by omega), ck_nI hr3 (by omega), ck_nI hr3 (by omega), cl_n (by omega)]
        dsimp only
        rw [v1, v2, v3]
        by_cases c0 : x3 = 0
        · rw [if_pos c0, if_pos c0, Option.map_some, bi_s, zW_r, ck_01]
        · rw [if_neg c0, if_neg c0]
          by_cases c1 : x3 = 1
          · rw [if_pos c1, if_pos c1, Option.map_some, bi_s, zW_r, ck_01]
          · rw [if_neg c1, if_neg c1, Option.map_some, bi_s, zW_r, ck_01]
      have hr' : mX5_played m (nI a) (nI j) x3 = some (if x3 = 0 then nI (ecm M 5 (5 * a + j)) else if x3 = 1 then nI (ebg M 5 (5 * a + j)) else nI (edn M 5 (5 * a + j)), m') := by
        unfold mX5_played
        rw [i2, bi_s, ti_0, bi_s, if_0, e4, bi_s, if_1, bi_s, ti_0, bi_s, if_0, g1, bi_s, mu_5', ad_n, ck_nI hr3 (by omega), ck_nI hr3 (by omega), ck_nI hr3 (by omega), cl_n (by omega)]
        dsimp only
        rw [u1, u2, u3]
        by_cases c0 : x3 = 0
        · rw [if_pos c0, if_pos c0]
        · rw [if_neg c0, if_neg c0]
          by_cases c1 : x3 = 1
          · rw [if_pos c1, if_pos c1]
          · rw [if_neg c1, if_neg c1]
      exact ⟨_, _, hc, hr', hth, fun _ => out_0 o _, M, sn, sb, sd, ok, hn, (hm.th 0).keep g2, hsd, het, (hem.th 0).keep g2, Or.inr ⟨rfl, f2⟩⟩
    · have e3 : mX4_needWhat x3 2 = _ := w3
      have e4 : mX5_in x3 0 2 = some 0 := w4
      have hc : mL_played q n p o (nI a) (nI j) x3 = some (2, q, p, o) := by
        unfold mL_played mX4_played
        rw [i1, bi_s, zX_r, e3, bi_s, zX_l, bi_s, zW_l, if_neg (by decide), if_pos rfl]
      have hr' : mX5_played m (nI a) (nI j) x3 = some (0, M_thrown_s m 2) := by
        unfold mX5_played
        rw [i2, bi_s, ti_0, bi_s, if_0, e4, bi_s, if_0, bi_s, ti_1, bi_s, if_1]
      exact ⟨_, _, hc, hr', rfl, fun z => absurd (show (2 : Int32) = 0 from z) (by decide), M, sn, sb, sd, ok, hn, hm, hsd, het, hem, hfr⟩
  · have hc : mL_played q n p o x1 x2 x3 = some (1, q, p, o) := by
      unfold mL_played mX4_played
      rw [i1, bi_s, zX_l, bi_s, zW_l, if_pos rfl]
    have hr' : mX5_played m x1 x2 x3 = some (0, M_thrown_s m 1) := by
      unfold mX5_played
      rw [i2, bi_s, ti_1, bi_s, if_1]
    exact ⟨_, _, hc, hr', rfl, fun z => absurd (show (1 : Int32) = 0 from z) (by decide), M, sn, sb, sd, ok, hn, hm, hsd, het, hem, hfr⟩
/-! the sum of all times -/
def isum (M : MN) (w : Nat) : Nat → Int
  | 0 => 0
  | n + 1 => isum M w n + ((edn M w (5 * n + gle M n - 1) : Int) - (gst M n : Int))
theorem to64 (z : Int32) : z.toInt64 = jI z.toInt := by
  unfold jI
  exact (Int64.ofInt_int32ToInt z).symm
theorem gV_last {M : MN} (ok : gOK M) {a : Nat} (ha : a < gna M) : gV M (5 * a + gle M a - 1) := by
  have := ok.2.2.2.1 a ha
  have e : 5 * a + gle M a - 1 = 5 * a + (gle M a - 1) := by omega
  rw [e]
  exact gV.mk ha (by omega) (by omega)
theorem isum_b {M : MN} (ok : gOK M) (w : Nat) : ∀ n, n ≤ gna M → -(100000 * (n : Int)) ≤ isum M w n ∧ isum M w n ≤ 700000 * (n : Int)
  | 0, _ => by rw [isum]; omega
  | n + 1, h => by
    have ih := isum_b ok w n (by omega)
    have h1 := (edn_b ok w (gV_last ok (a := n) (by omega))).2.2
    have h2 := (ok.2.2.2.1 n (by omega)).2.1
    rw [isum]
    omega
theorem mSum {M : MN} {n : SN} {p : SP} {w : Nat} (ok : gOK M) (hn : RN M n) (hp : PE M w p) : mX2_sumOfTimes p n = some (jI (isum M w (gna M))) := by
  have h60 := ok.2.1
  unfold mX2_sumOfTimes
  have key := lpx (F := fun k i (x : Int64) => lpX2_sumOfTimes_5 p n k x (nI i)) (G := fun x => some x) (fun i x => x = jI (isum M w i)) (gna M)
    (fun k s hs => by
      show lpX2_sumOfTimes_5 p n (k + 1) s (nI (gna M)) = some s
      rw [lpX2_sumOfTimes_5, hn.2.1, if_pos (by rw [le_n (by omega) (by omega)]; omega)])
    (fun k i s hi hs => by
      show ∃ s', s' = jI (isum M w (i + 1)) ∧ lpX2_sumOfTimes_5 p n (k + 1) s (nI i) = lpX2_sumOfTimes_5 p n k s' (nI (i + 1))
      have hl := ok.2.2.2.1 i hi
      have hv := gV_last ok hi
      have hb := (edn_b ok w hv).2.2
      rw [lpX2_sumOfTimes_5, hn.2.1, if_neg (by rw [le_n (by omega) (by omega)]; omega), mLast ok hn hi, bi_s, ck_nI (by omega) (by omega), ck_nI (by omega) (by omega), cl_n (by omega), cl_n (by omega), (hp _ hv).2.2, (hn.2.2.2.1 i hi).2.1, ad_1, to64, pk_sub_toInt (by omega) (by omega)]
      refine ⟨_, ?_, rfl⟩
      rw [hs, jI_add, isum])
    (gna M) qFU 0 0 (by omega) (by unfold qFU; omega) rfl
  obtain ⟨s', h1, h2⟩ := key
  have h2' : lpX2_sumOfTimes_5 p n qFU 0 0 = some s' := h2
  rw [h2', bi_s, h1]
theorem mTotW {M : MN} {m : SM} (ok : gOK M) (hr : RM M m) {w : Nat} {x : Int32} (hx : ∀ p, p < gnp M → (nI p = x ↔ p = w)) : ∃ m', mX5_totalWith m x = some (jI (isum M w (gna M)), m') ∧ kp m' = kp m := by
  have h60 := ok.2.1
  unfold mX5_totalWith
  obtain ⟨m', g1, g2, g3⟩ := mPlaysE ok hr hx
  rw [g1, bi_s]
  have hr2 := hr.keep g2
  have key := lpx (F := fun k i (x : Int64) => lpX5_totalWith_11 m' k x (nI i)) (G := fun x => some x) (fun i x => x = jI (isum M w i)) (gna M)
    (fun k s hs => by
      show lpX5_totalWith_11 m' (k + 1) s (nI (gna M)) = some s
      rw [lpX5_totalWith_11, hr2.2.1, if_pos (by rw [le_n (by omega) (by omega)]; omega)])
    (fun k i s hi hs => by
      show ∃ s', s' = jI (isum M w (i + 1)) ∧ lpX5_totalWith_11 m' (k + 1) s (nI i) = lpX5_totalWith_11 m' k s' (nI (i + 1))
      have hl := ok.2.2.2.1 i hi
      have hv := gV_last ok hi
      have hb := (edn_b ok w hv).2.2
      rw [lpX5_totalWith_11, hr2.2.1, if_neg (by rw [le_n (by omega) (by omega)]; omega), cl_n (j := i) (by omega), (hr2.2.2.2.1 i hi).2.2, (hr2.2.2.2.1 i hi).2.1, mu_5', ad_n, su_1 (by omega), ck_nI (by omega) (by omega), ck_nI (by omega) (by omega), ck_nI (by omega) (by omega), cl_n (by omega), (g3 _ hv).2.2, ad_1, to64, pk_sub_toInt (by omega) (by omega)]
      refine ⟨_, ?_, rfl⟩
      rw [hs, jI_add, isum])
    (gna M) qFU 0 0 (by omega) (by unfold qFU; omega) rfl
  obtain ⟨s', h1, h2⟩ := key
  have h2' : lpX5_totalWith_11 m' qFU 0 0 = some s' := h2
  dsimp only
  rw [h2', bi_s, h1]
  exact ⟨m', rfl, g2⟩
theorem op_total {q : Int32} {n : SN} {t : ST} {p : SP} {m : SM} (hI : LI q n t p m) : ∃ a b, mX4_total q n p = some a ∧ mX5_total m = some b ∧ a.1 = b.1 ∧ LI a.2.1 n t a.2.2 b.2 := by
  obtain ⟨M, sn, sb, sd, ok, hn, hm, hsd, het, hem, hfr⟩ := hI
  obtain ⟨p', f1, f2⟩ := mRefresh ok hn.1 hfr
  obtain ⟨m', g1, g2⟩ := mTotW ok (hm.th 0) (hx5 ok)
  unfold mX4_total mX5_total
  rw [f1, bi_s, mSum ok hn.1 f2, bi_s, g1, bi_s]
  exact ⟨_, _, rfl, rfl, rfl, M, sn, sb, sd, ok, hn, (hm.th 0).keep g2, hsd, het, (hem.th 0).keep g2, Or.inr ⟨rfl, f2⟩⟩
theorem mGain {M : MN} {n : SN} {q : Int32} {p r : SP} (ok : gOK M) (hn : RN M n) (hp : PE M 5 p) {w : Nat} (hw : w < gnp M) : ∃ r', mX4_gainAt q n p r (nI w) = some (jI (isum M 5 (gna M) - isum M w (gna M)), r') := by
  unfold mX4_gainAt
  obtain ⟨r', h1, h2⟩ := mRunE ok hn (hxp ok hw) r
  rw [h1, bi_s, mSum ok hn hp, bi_s, mSum ok hn h2, bi_s, jI_sub]
  exact ⟨r', rfl⟩
theorem op_saved {q : Int32} {n : SN} {t : ST} {p : SP} {m : SM} (hI : LI q n t p m) (r : SP) (o : qJ) (x1 : Int32) : ∃ a b, mL_saved q n p r o x1 = some a ∧ mX5_saved m x1 = some b ∧ M_thrown b.2 = a.1 ∧ (a.1 = 0 → a.2.2.2.2 (Int32.toNatClampNeg 0) = b.1) ∧ LI a.2.1 n t a.2.2.1 b.2 := by
  obtain ⟨M, sn, sb, sd, ok, hn, hm, hsd, het, hem, hfr⟩ := hI
  rcases npN (q := q) (x := x1) (m := M_thrown_s m 0) ok hn.1.1 hm.1 with ⟨pl, hpl, rfl, j1, j2⟩ | ⟨j1, j2⟩
  · obtain ⟨p', f1, f2⟩ := mRefresh ok hn.1 hfr
    obtain ⟨r', k1⟩ := mGain (q := 1) (r := r) ok hn.1 f2 hpl
    obtain ⟨m1, g1, g2⟩ := mTotW ok (hm.th 0) (hx5 ok)
    obtain ⟨m2, g3, g4⟩ := mTotW ok ((hm.th 0).keep g2) (hxp ok hpl)
    have hth : M_thrown m2 = 0 := (kp_all (g4.trans g2)).1
    have hc : mL_saved q n p r o (nI pl) = some (0, 1, p', r', vp_updL o (Int32.toNatClampNeg 0) (jI (isum M 5 (gna M) - isum M pl (gna M)))) := by
      unfold mL_saved mX4_saved
      rw [j1, bi_s, zX_r, f1, bi_s, k1, bi_s, Option.map_some, bi_s, zW_r, ck_01]
    have hr' : mX5_saved m (nI pl) = some (jI (isum M 5 (gna M) - isum M pl (gna M)), m2) := by
      unfold mX5_saved
      rw [j2, bi_s, ti_0, bi_s, if_0, g1, bi_s, g3, bi_s]
      dsimp only
      rw [jI_sub]
    exact ⟨_, _, hc, hr', hth, fun _ => out_0 o _, M, sn, sb, sd, ok, hn, (hm.th 0).keep (g4.trans g2), hsd, het, (hem.th 0).keep (g4.trans g2), Or.inr ⟨rfl, f2⟩⟩
  · have hc : mL_saved q n p r o x1 = some (1, q, p, r, o) := by
      unfold mL_saved mX4_saved
      rw [j1, bi_s, zX_l, bi_s, zW_l, if_pos rfl]
    have hr' : mX5_saved m x1 = some (0, M_thrown_s m 1) := by
      unfold mX5_saved
      rw [j2, bi_s, ti_1, bi_s, if_1]
    exact ⟨_, _, hc, hr', rfl, fun z => absurd (show (1 : Int32) = 0 from z) (by decide), M, sn, sb, sd, ok, hn, hm, hsd, het, hem, hfr⟩
/-- the place where one helper more leaves least -/
def nbest (M : MN) : Nat → Option Nat
  | 0 => none
  | n + 1 => match nbest M n with
    | none => some n
    | some b => if isum M n (gna M) < isum M b (gna M) then some n else some b
theorem nbest_lt {M : MN} : ∀ {n b : Nat}, nbest M n = some b → b < n
  | 0, b, h => by rw [nbest] at h; cases h
  | n + 1, b, h => by
    rw [nbest] at h
    split at h
    · cases h; omega
    · rename_i b' hb'
      have := nbest_lt hb'
      split at h
      · cases h; omega
      · cases h; omega
theorem mNarC {M : MN} {n : SN} {q : Int32} {p r : SP} (ok : gOK M) (hn : RN M n) (hp : PE M 5 p) : ∃ r', lpX4_narrow_11 q n p qFU (-1) 0 0 r = some (eo (nbest M (gnp M)), r') := by
  have h5 := ok.1
  have h60 := ok.2.1
  have hb := fun w => isum_b ok w (gna M) (Nat.le_refl _)
  have key := lpx (F := fun k i (x : Int32 × Int64 × SP) => lpX4_narrow_11 q n p k x.1 x.2.1 (nI i) x.2.2) (G := fun x => some (x.1, x.2.2)) (fun i x => x.1 = eo (nbest M i) ∧ ∀ b, nbest M i = some b → x.2.1 = jI (isum M 5 (gna M) - isum M b (gna M))) (gnp M)
    (fun k s hs => by
      show lpX4_narrow_11 q n p (k + 1) s.1 s.2.1 (nI (gnp M)) s.2.2 = some (s.1, s.2.2)
      rw [lpX4_narrow_11, hn.1, if_pos (by rw [le_n (by omega) (by omega)]; omega)])
    (fun k i s hi hs => by
      show ∃ s' : Int32 × Int64 × SP, (s'.1 = eo (nbest M (i + 1)) ∧ ∀ b, nbest M (i + 1) = some b → s'.2.1 = jI (isum M 5 (gna M) - isum M b (gna M))) ∧ lpX4_narrow_11 q n p (k + 1) s.1 s.2.1 (nI i) s.2.2 = lpX4_narrow_11 q n p k s'.1 s'.2.1 (nI (i + 1)) s'.2.2
      obtain ⟨s1, s2⟩ := hs
      obtain ⟨r', g1⟩ := mGain (q := q) (r := s.2.2) ok hn hp hi
      rw [lpX4_narrow_11, hn.1, if_neg (by rw [le_n (by omega) (by omega)]; omega), g1, bi_s, ad_1, s1, nbest]
      cases hnb : nbest M i with
      | none =>
        rw [if_pos (show eo none = -1 from rfl)]
        exact ⟨(nI i, jI (isum M 5 (gna M) - isum M i (gna M)), r'), ⟨rfl, fun b hb => by cases hb; rfl⟩, rfl⟩
      | some b =>
        have hbi := nbest_lt hnb
        rw [s2 b hnb, if_neg (show ¬ eo (some b) = -1 by show ¬ nI b = -1; rw [ne_n1 (by omega)]; exact not_false)]
        have c1 := hb 5
        have c2 := hb i
        have c3 := hb b
        have hcmp : (lg_cmp (jI (isum M 5 (gna M) - isum M i (gna M))) (jI (isum M 5 (gna M) - isum M b (gna M))) ≤ 0) = (isum M b (gna M) ≤ isum M i (gna M)) := by
          rw [lg_cmp_le, jI_le (by omega) (by omega) (by omega) (by omega)]
          apply propext
          omega
        dsimp only
        by_cases c : isum M i (gna M) < isum M b (gna M)
        · rw [if_pos c, if_neg (by rw [hcmp]; omega)]
          exact ⟨(nI i, jI (isum M 5 (gna M) - isum M i (gna M)), r'), ⟨rfl, fun b hb => by cases hb; rfl⟩, rfl⟩
        · rw [if_neg c, if_pos (by rw [hcmp]; omega)]
          exact ⟨(nI b, jI (isum M 5 (gna M) - isum M b (gna M)), r'), ⟨rfl, fun b hb => by cases hb; rfl⟩, rfl⟩)
    (gnp M) qFU 0 (-1, 0, r) (by omega) (by unfold qFU; omega) ⟨rfl, fun b hb => by cases hb⟩
  obtain ⟨s', ⟨h1, -⟩, h2⟩ := key
  have h2' : lpX4_narrow_11 q n p qFU (-1) 0 0 r = some (s'.1, s'.2.2) := h2
  rw [h2', h1]
  exact ⟨_, rfl⟩
theorem mNarM {M : MN} {m : SM} (ok : gOK M) (hr : RM M m) : ∃ m', lpX5_narrow_12 qFU (-1) 0 0 m = some (eo (nbest M (gnp M)), m') ∧ kp m' = kp m := by
  have h5 := ok.1
  have h60 := ok.2.1
  have hb := fun w => isum_b ok w (gna M) (Nat.le_refl _)
  have key := lpx (F := fun k i (x : Int32 × Int64 × SM) => lpX5_narrow_12 k x.1 x.2.1 (nI i) x.2.2) (G := fun x => some (x.1, x.2.2)) (fun i x => x.1 = eo (nbest M i) ∧ (∀ b, nbest M i = some b → x.2.1 = jI (isum M b (gna M))) ∧ kp x.2.2 = kp m) (gnp M)
    (fun k s hs => by
      show lpX5_narrow_12 (k + 1) s.1 s.2.1 (nI (gnp M)) s.2.2 = some (s.1, s.2.2)
      rw [lpX5_narrow_12, (hr.keep hs.2.2).1, if_pos (by rw [le_n (by omega) (by omega)]; omega)])
    (fun k i s hi hs => by
      show ∃ s' : Int32 × Int64 × SM, (s'.1 = eo (nbest M (i + 1)) ∧ (∀ b, nbest M (i + 1) = some b → s'.2.1 = jI (isum M b (gna M))) ∧ kp s'.2.2 = kp m) ∧ lpX5_narrow_12 (k + 1) s.1 s.2.1 (nI i) s.2.2 = lpX5_narrow_12 k s'.1 s'.2.1 (nI (i + 1)) s'.2.2
      obtain ⟨s1, s2, s3⟩ := hs
      have hr2 := hr.keep s3
      obtain ⟨m', g1, g2⟩ := mTotW ok hr2 (hxp ok hi)
      rw [lpX5_narrow_12, hr2.1, if_neg (by rw [le_n (by omega) (by omega)]; omega), g1, bi_s, ad_1, s1, nbest]
      cases hnb : nbest M i with
      | none =>
        rw [if_pos (show eo none < 0 by decide)]
        exact ⟨(nI i, jI (isum M i (gna M)), m'), ⟨rfl, (fun b hb => by cases hb; rfl), g2.trans s3⟩, rfl⟩
      | some b =>
        have hbi := nbest_lt hnb
        rw [s2 b hnb, if_neg (show ¬ eo (some b) < 0 by show ¬ nI b < 0; rw [lt_0n (by omega)]; exact not_false)]
        have c2 := hb i
        have c3 := hb b
        have hcmp : (lg_cmp (jI (isum M i (gna M))) (jI (isum M b (gna M))) < 0) = (isum M i (gna M) < isum M b (gna M)) := by
          rw [lg_cmp_lt, jI_lt (by omega) (by omega) (by omega) (by omega)]
        dsimp only
        by_cases c : isum M i (gna M) < isum M b (gna M)
        · rw [if_pos c, if_pos (by rw [hcmp]; exact c)]
          exact ⟨(nI i, jI (isum M i (gna M)), m'), ⟨rfl, (fun b hb => by cases hb; rfl), g2.trans s3⟩, rfl⟩
        · rw [if_neg c, if_neg (by rw [hcmp]; exact c)]
          exact ⟨(nI b, jI (isum M b (gna M)), m'), ⟨rfl, (fun b hb => by cases hb; rfl), g2.trans s3⟩, rfl⟩)
    (gnp M) qFU 0 (-1, 0, m) (by omega) (by unfold qFU; omega) ⟨rfl, (fun b hb => by cases hb), rfl⟩
  obtain ⟨s', ⟨h1, -, h3⟩, h2⟩ := key
  have h2' : lpX5_narrow_12 qFU (-1) 0 0 m = some (s'.1, s'.2.2) := h2
  rw [h2', h1]
  exact ⟨_, rfl, h3⟩
theorem op_narrow {q : Int32} {n : SN} {t : ST} {p : SP} {m : SM} (hI : LI q n t p m) (r : SP) : ∃ a b, mX4_narrow q n p r = some a ∧ mX5_narrow m = some b ∧ a.1 = b.1 ∧ LI a.2.1 n t a.2.2.1 b.2 := by
  obtain ⟨M, sn, sb, sd, ok, hn, hm, hsd, het, hem, hfr⟩ := hI
  obtain ⟨p', f1, f2⟩ := mRefresh ok hn.1 hfr
  obtain ⟨r', k1⟩ := mNarC (q := 1) (r := r) ok hn.1 f2
  obtain ⟨m', g1, g2⟩ := mNarM ok (hm.th 0)
  unfold mX4_narrow mX5_narrow
  rw [f1, bi_s, k1, bi_s, g1, bi_s]
  exact ⟨_, _, rfl, rfl, rfl, M, sn, sb, sd, ok, hn, (hm.th 0).keep g2, hsd, het, (hem.th 0).keep g2, Or.inr ⟨rfl, f2⟩⟩
/-! alone -/
def alo (M : MN) (a : Nat) : Nat → Nat
  | 0 => gst M a
  | j + 1 => alo M a j + (gwo M (5 * a + j) + (if j + 1 < gle M a then gde M (gpa M (5 * a + j)) else 0))
theorem op_alone {q : Int32} {n : SN} {t : ST} {p : SP} {m : SM} (hI : LI q n t p m) (o : qJ) (x1 : Int32) : ∃ a b, mL_alone q n o x1 = some a ∧ mX5_alone m x1 = some b ∧ M_thrown b.2 = a.1 ∧ (a.1 = 0 → a.2 (Int32.toNatClampNeg 0) = b.1.toInt64) ∧ LI q n t p b.2 := by
  obtain ⟨M, sn, sb, sd, ok, hn, hm, hsd, het, hem, hfr⟩ := hI
  have h60 := ok.2.1
  have h5 := ok.1
  rcases naN (q := q) (x := x1) (m := M_thrown_s m 0) ok hn.1.2.1 hm.2.1 with ⟨a, ha, rfl, i1, i2⟩ | ⟨i1, i2⟩
  · have hl := ok.2.2.2.1 a ha
    have hm' := hm.th 0
    have hc0 : lpX4_alone_24 n (nI a) qFU (nI (gst M a)) (nI (5 * a)) = some (nI (alo M a (gle M a))) := by
      have key := lpx (F := fun k i (x : Int32) => lpX4_alone_24 n (nI a) k x (nI (5 * a + i))) (G := fun x => some x) (fun i x => x = nI (alo M a i)) (gle M a)
        (fun k s hs => by
          show lpX4_alone_24 n (nI a) (k + 1) s (nI (5 * a + gle M a)) = some s
          rw [lpX4_alone_24, mLast ok hn.1 ha, bi_s, if_pos (by rw [lt_n (by omega) (by omega)]; omega)])
        (fun k i s hi hs => by
          show ∃ s', s' = nI (alo M a (i + 1)) ∧ lpX4_alone_24 n (nI a) (k + 1) s (nI (5 * a + i)) = lpX4_alone_24 n (nI a) k s' (nI (5 * a + (i + 1)))
          have hv : gV M (5 * a + i) := gV.mk ha (by omega) hi
          have hpl := (ok.2.2.2.2 _ hv).1
          rw [lpX4_alone_24, mLast ok hn.1 ha, bi_s, bi_s, if_neg (by rw [lt_n (by omega) (by omega)]; omega), ck_nI (by omega) (by omega), ck_nI (by omega) (by omega), cl_n (by omega), (hn.1.2.2.2.2 _ hv).1, (hn.1.2.2.2.2 _ hv).2, ck_nI (by omega) (by omega), cl_n (by omega), (hn.1.2.2.1 _ hpl).2.2, ad_1, hs, ad_n, ad_n, alo]
          by_cases c : i + 1 < gle M a
          · rw [if_pos c, if_neg (by rw [le_n (by omega) (by omega)]; omega)]
            exact ⟨_, by rw [Nat.add_assoc], rfl⟩
          · rw [if_neg c, if_pos (by rw [le_n (by omega) (by omega)]; omega)]
            exact ⟨_, rfl, rfl⟩)
        (gle M a) qFU 0 (nI (gst M a)) (by omega) (by unfold qFU; omega) rfl
      obtain ⟨s', h1, h2⟩ := key
      have h2' : lpX4_alone_24 n (nI a) qFU (nI (gst M a)) (nI (5 * a)) = some s' := h2
      rw [h2', h1]
    have hr0 : lpX5_alone_31 (M_thrown_s m 0) (nI a) qFU (nI (gst M a)) (nI (5 * a)) = some (nI (alo M a (gle M a))) := by
      have key := lpx (F := fun k i (x : Int32) => lpX5_alone_31 (M_thrown_s m 0) (nI a) k x (nI (5 * a + i))) (G := fun x => some x) (fun i x => x = nI (alo M a i)) (gle M a)
        (fun k s hs => by
          show lpX5_alone_31 (M_thrown_s m 0) (nI a) (k + 1) s (nI (5 * a + gle M a)) = some s
          rw [lpX5_alone_31, ck_nI (by omega) (by omega), cl_n (j := a) (by omega), (hm'.2.2.2.1 a ha).2.2, mu_5', ad_n, if_pos (by rw [le_n (by omega) (by omega)]; omega)])
        (fun k i s hi hs => by
          show ∃ s', s' = nI (alo M a (i + 1)) ∧ lpX5_alone_31 (M_thrown_s m 0) (nI a) (k + 1) s (nI (5 * a + i)) = lpX5_alone_31 (M_thrown_s m 0) (nI a) k s' (nI (5 * a + (i + 1)))
          have hv : gV M (5 * a + i) := gV.mk ha (by omega) hi
          have hpl := (ok.2.2.2.2 _ hv).1
          have e : (if nI (gle M a) ≤ nI ((5 * a + i) % 5 + 1) then some 0 else ck (nI (5 * a + i)) 300 (ck (nI (gpa M (5 * a + i))) 5 (some (nI (gde M (gpa M (5 * a + i))))))) = some (nI (if i + 1 < gle M a then gde M (gpa M (5 * a + i)) else 0)) := by
            rw [ck_nI (by omega) (by omega), ck_nI (by omega) (by omega)]
            by_cases c : i + 1 < gle M a
            · rw [if_neg (by rw [le_n (by omega) (by omega)]; omega), if_pos c]
            · rw [if_pos (by rw [le_n (by omega) (by omega)]; omega), if_neg c]; rfl
          rw [lpX5_alone_31, ck_nI (by omega) (by omega), ck_nI (by omega) (by omega), ck_nI (by omega) (by omega), cl_n (j := a) (by omega), (hm'.2.2.2.1 a ha).2.2, mu_5', ad_n, if_neg (by rw [le_n (by omega) (by omega)]; omega), re_5 (by omega), cl_n (j := 5 * a + i) (by omega), (hm'.2.2.2.2 _ hv).1, (hm'.2.2.2.2 _ hv).2, cl_n (j := gpa M (5 * a + i)) (by omega), (hm'.2.2.1 _ hpl).2.2, ad_1, e, bi_s, hs, ad_n, ad_n, ad_1, alo]
          exact ⟨_, rfl, rfl⟩)
        (gle M a) qFU 0 (nI (gst M a)) (by omega) (by unfold qFU; omega) rfl
      obtain ⟨s', h1, h2⟩ := key
      have h2' : lpX5_alone_31 (M_thrown_s m 0) (nI a) qFU (nI (gst M a)) (nI (5 * a)) = some s' := h2
      rw [h2', h1]
    have hc : mL_alone q n o (nI a) = some (0, vp_updL o (Int32.toNatClampNeg 0) (nI (alo M a (gle M a))).toInt64) := by
      unfold mL_alone mX4_alone
      rw [i1, bi_s, zX_r, ck_nI (by omega) (by omega), mFirst, bi_s, cl_n (by omega), (hn.1.2.2.2.1 a ha).2.1, hc0, bi_s, Option.map_some, bi_s, zW_r, ck_01]
    have hr' : mX5_alone m (nI a) = some (nI (alo M a (gle M a)), M_thrown_s m 0) := by
      unfold mX5_alone
      rw [i2, bi_s, ti_0, bi_s, if_0, ck_nI (by omega) (by omega), cl_n (by omega), mu_5']
      dsimp only
      rw [(hm'.2.2.2.1 a ha).2.1, hr0, bi_s]
    exact ⟨_, _, hc, hr', rfl, fun _ => out_0 o _, M, sn, sb, sd, ok, hn, hm, hsd, het, hem, hfr⟩
  · have hc : mL_alone q n o x1 = some (1, o) := by
      unfold mL_alone mX4_alone
      rw [i1, bi_s, zX_l, bi_s, zW_l, if_pos rfl]
    have hr' : mX5_alone m x1 = some (0, M_thrown_s m 1) := by
      unfold mX5_alone
      rw [i2, bi_s, ti_1, bi_s, if_1]
    exact ⟨_, _, hc, hr', rfl, fun z => absurd (show (1 : Int32) = 0 from z) (by decide), M, sn, sb, sd, ok, hn, hm, hsd, het, hem, hfr⟩
