/-! PURE: the reference's whole play, and what both plays leave behind -/
theorem lp272 {M : MN} {w : Nat} {m : SM} {B t : Nat} {x : Int32} (ok : gOK M) (hx : ∀ p, p < gnp M → (nI p = x ↔ p = w)) {S : PS} (hS : SI M w S B) (hT : TI M S (t + 1)) (hB : B ≤ 900000000) (ht : t + 1000 ≤ B) (he : EQ M (gwo M) (xR M S) m) :
    ∃ m', lpX5_plays_272 x (nI t) qFU 0 m = some m' ∧ kp m' = kp m ∧ EQ M (gwo M) (xR M (sba M w t (gnp M) S)) m' := by
  have h5 := ok.1
  have key := lpx (F := fun k i (z : SM) => lpX5_plays_272 x (nI t) k (nI i) z) (G := fun z => some z) (fun i z => kp z = kp m ∧ EQ M (gwo M) (xR M (sba M w t i S)) z) (gnp M)
    (fun k s hs => by
      show lpX5_plays_272 x (nI t) (k + 1) (nI (gnp M)) s = some s
      rw [lpX5_plays_272, hs.2.1.1, if_pos (by rw [le_n (by omega) (by omega)]; omega)])
    (fun k i s hi hs => by
      show ∃ s', _ ∧ lpX5_plays_272 x (nI t) (k + 1) (nI i) s = lpX5_plays_272 x (nI t) k (nI (i + 1)) s'
      obtain ⟨s1, s2⟩ := hs
      obtain ⟨i1, i2, -⟩ := sba_keep ok ht (fun _ => True) (fun _ _ _ _ _ _ _ => trivial) hS hT trivial i (by omega)
      have hq := QI_x ok i1 i2 hB (by omega)
      have hpl := ok.2.2.1 i hi
      have hby := qby_x (p := i) ok i1 i2 hB (by omega) (gna M) (Nat.le_refl _)
      have hsh := i1.2 i hi
      obtain ⟨m', b1, b2, b3, b4⟩ := mBegins ok s2 hq (p := i) (r := gru M i) (t := t) (h := shw M w i) hi hpl.2.2.1 (by omega) (shw_le ok hi).2 (by rw [hby]; exact hsh)
      rw [hby, qbl_x ok ht hi 60 _ i1 i2 (by have := (shw_le (w := w) ok hi).2; omega)] at b2
      have e : (if nI i = x then some (1 : Int32) else some 0) = some (nI (if i = w then 1 else 0)) := by
        by_cases h : i = w
        · rw [if_pos ((hx i hi).mpr h), if_pos h]; rfl
        · rw [if_neg (fun z => h ((hx i hi).mp z)), if_neg h]; rfl
      rw [lpX5_plays_272, s2.1.1, if_neg (by rw [le_n (by omega) (by omega)]; omega), ck_nI (by omega) (by omega), e, bi_s, ck_nI (by omega) (by omega), cl_n (by omega), (s2.1.2.2.1 i hi).1, (s2.1.2.2.1 i hi).2.1, ad_n]
      have b1' : mX5_begins s (nI i) (nI (ghe M i + if i = w then 1 else 0)) (nI (gru M i)) (nI t) = some m' := b1
      rw [b1', bi_s, ad_1]
      exact ⟨m', ⟨b4.trans s1, by rw [sba]; exact b2⟩, rfl⟩)
    (gnp M) qFU 0 m (by omega) (by unfold qFU; omega) ⟨rfl, he⟩
  obtain ⟨s', ⟨s1, s2⟩, h2⟩ := key
  exact ⟨s', h2, s1, s2⟩
theorem pl_loop {M : MN} {w : Nat} {x : Int32} (ok : gOK M) (hx : ∀ p, p < gnp M → (nI p = x ↔ p = w)) : ∀ (d k : Nat) (S : PS) (u B : Nat) (m : SM), d < k → GI M w S u B → u ≤ 900000000 → B + 1000 * d ≤ 900000000 → 600 ≤ cg (mua S) (gna M) + d → EQ M (gwo M) (xR M S) m →
    ∃ u' m', lpX5_plays_63 x k (tk u) m = some (nI (u' - 1), m') ∧ u' ≤ 900000000 ∧ GI M w (srn M w d S) u' (B + 1000 * d) ∧ kp m' = kp m ∧ EQ M (gwo M) (xR M (srn M w d S)) m' := by
  have hlast : ∀ (S : PS) (u B : Nat) (m : SM) (k : Nat), GI M w S u B → u ≤ 900000000 → B ≤ 900000000 → EQ M (gwo M) (xR M S) m → smn (sdue S) (gna M) = 1000000000 → lpX5_plays_63 x (k + 1) (tk u) m = some (nI (u - 1), m) := by
    intro S u B m k hG hu hB he hN
    have hq := QI_x ok hG.1 hG.2.1 hB hu
    have hs := mSoonP ok he hq (u := u) (by omega)
    rw [qsn_x ok hG.1 hG.2.1 hB (gna M) (Nat.le_refl _), hN] at hs
    rw [lpX5_plays_63, hs, bi_s, if_pos (show nI (cmb 1000000000) = 2000000000 from rfl)]
    have hv : (if 0 < tk u then tk u else 0) = nI (u - 1) := by
      by_cases h0 : u = 0
      · subst h0; rfl
      · have e : tk u = nI (u - 1) := by unfold tk; rw [if_neg h0]
        rw [e]
        by_cases h1 : u = 1
        · subst h1; rfl
        · rw [if_pos (by rw [show (0 : Int32) = nI 0 from rfl, lt_n (by omega) (by omega)]; omega)]
    rw [hv]
  intro d
  induction d with
  | zero =>
    intro k S u B m hk hG hu hB hm he
    obtain ⟨k, rfl⟩ : ∃ j, k = j + 1 := ⟨k - 1, by omega⟩
    exact ⟨u, m, hlast S u B m k hG hu hB he (rest_of ok hG.1 hm), hu, hG, rfl, he⟩
  | succ d ih =>
    intro k S u B m hk hG hu hB hm he
    obtain ⟨k, rfl⟩ : ∃ j, k = j + 1 := ⟨k - 1, by omega⟩
    have k0 : B + 1000 ≤ B + 1000 * (d + 1) := by clear hB; omega
    have hB1 : B + 1000 ≤ 900000000 := Nat.le_trans k0 hB
    have hB0 : B ≤ 900000000 := by clear hB; omega
    rw [srn]
    by_cases hN : smn (sdue S) (gna M) = 1000000000
    · rw [if_pos hN]
      refine ⟨u, m, hlast S u B m k hG hu hB0 he hN, hu, ⟨hG.1.mono (Nat.le_add_right _ _), hG.2⟩, rfl, he⟩
    · rw [if_neg hN]
      obtain ⟨t1, t2, t3, t4, t5⟩ := GI_tick ok hG hB1 hN
      have hq := QI_x ok hG.1 hG.2.1 hB0 hu
      have hs := mSoonP ok he hq (u := u) (by omega)
      rw [qsn_x ok hG.1 hG.2.1 hB0 (gna M) (Nat.le_refl _)] at hs
      have hcm : cmb (smn (sdue S) (gna M)) = smn (sdue S) (gna M) := by unfold cmb; rw [if_neg hN]
      rw [hcm] at hs
      generalize smn (sdue S) (gna M) = t at *
      have ht : t + 1000 ≤ B + 1000 := by clear hB; omega
      have hS' := hG.1.mono (B' := B + 1000) (by clear hB; omega)
      have ht2 : t < 1000000000 := by clear hB; omega
      rw [lpX5_plays_63, hs, bi_s, if_neg (by rw [show (2000000000 : Int32) = nI 2000000000 from rfl, eq_n (by omega) (by omega)]; omega)]
      obtain ⟨m1, a1, a2, a3, a4, a5, a6, a7⟩ := lp149 ok hS' hG.2.1 hB1 ht t1 he
      rw [a1, bi_s]
      obtain ⟨m2, b1, b2, b3⟩ := lp221 ok hS' hG.2.1 hB1 ht t1 he a2 a3 a4 a5 a6 a7
      rw [b1, bi_s]
      obtain ⟨i1, -, -⟩ := sadv_at ok hS' ht ht2 (gna M) (Nat.le_refl _)
      obtain ⟨m3, c1, c2, c3⟩ := lp272 ok hx i1 (TI_adv ok hS' ht ht2 t1 t3 hG.2.1) hB1 ht b3
      rw [c1, bi_s, ← tk_s]
      have e : B + 1000 + 1000 * d = B + 1000 * (d + 1) := by clear hB; omega
      obtain ⟨u', m', d1, d2, d3, d4, d5⟩ := ih k (stk M w t S) (t + 1) (B + 1000) m3 (by clear hB; omega) t4 (by clear hB; omega) (by rw [e]; exact hB) (by clear hB; omega) c3
      rw [e] at d3
      exact ⟨u', m', d1, d2, d3, d4.trans (c2.trans b2), d5⟩
theorem mForgets (m : SM) : ∃ m', mX5_forgets m = some m' ∧ kp m' = kp m ∧ M_pWork m' = M_pWork m ∧ ∀ k, k < 300 → M_came m' k = nI 2000000000 ∧ M_begun m' k = nI 2000000000 ∧ M_done m' k = nI 2000000000 ∧ M_waits m' k = nI 0 := by
  unfold mX5_forgets
  have key := lpx (F := fun k i (z : SM) => lpX5_forgets_2 k (nI i) z) (G := fun z => some z) (fun i z => kp z = kp m ∧ M_pWork z = M_pWork m ∧ ∀ k, k < i → M_came z k = nI 2000000000 ∧ M_begun z k = nI 2000000000 ∧ M_done z k = nI 2000000000 ∧ M_waits z k = nI 0) 300
    (fun k s hs => by
      show lpX5_forgets_2 (k + 1) (nI 300) s = some s
      rw [lpX5_forgets_2, if_pos (by decide)])
    (fun k i s hi hs => by
      show ∃ s', _ ∧ lpX5_forgets_2 (k + 1) (nI i) s = lpX5_forgets_2 k (nI (i + 1)) s'
      obtain ⟨s1, s2, s3⟩ := hs
      rw [lpX5_forgets_2, if_neg (by rw [show (300 : Int32) = nI 300 from rfl, le_n (by omega) (by omega)]; omega), ck_nI hi (by omega), ck_nI hi (by omega), ck_nI hi (by omega), ck_nI hi (by omega), cl_n (by omega), ad_1, bool_0]
      refine ⟨_, ⟨?_, ?_, fun k hk => ?_⟩, rfl⟩
      · exact s1
      · exact s2
      · show upd (M_came s) i 2000000000 k = _ ∧ upd (M_begun s) i 2000000000 k = _ ∧ upd (M_done s) i 2000000000 k = _ ∧ upd (M_waits s) i 0 k = _
        by_cases e : k = i
        · subst e; rw [up_s, up_s, up_s, up_s]; exact ⟨rfl, rfl, rfl, rfl⟩
        · rw [up_n e, up_n e, up_n e, up_n e]; exact s3 k (by omega))
    300 qFU 0 m (by omega) (by unfold qFU; omega) ⟨rfl, rfl, fun k hk => absurd hk (Nat.not_lt_zero k)⟩
  obtain ⟨s', ⟨s1, s2, s3⟩, h2⟩ := key
  have h2' : lpX5_forgets_2 qFU 0 m = some s' := h2
  rw [h2', bi_s]
  exact ⟨s', rfl, s1, s2, s3⟩
theorem lpw6 (m : SM) : ∃ m', lpX5_plays_6 qFU 0 m = some m' ∧ kp m' = kp m ∧ M_came m' = M_came m ∧ M_begun m' = M_begun m ∧ M_done m' = M_done m ∧ M_waits m' = M_waits m ∧ ∀ k, k < 300 → M_pWork m' k = M_work m k := by
  have key := lpx (F := fun k i (z : SM) => lpX5_plays_6 k (nI i) z) (G := fun z => some z) (fun i z => kp z = kp m ∧ M_came z = M_came m ∧ M_begun z = M_begun m ∧ M_done z = M_done m ∧ M_waits z = M_waits m ∧ ∀ k, k < i → M_pWork z k = M_work m k) 300
    (fun k s hs => by
      show lpX5_plays_6 (k + 1) (nI 300) s = some s
      rw [lpX5_plays_6, if_pos (by decide)])
    (fun k i s hi hs => by
      show ∃ s', _ ∧ lpX5_plays_6 (k + 1) (nI i) s = lpX5_plays_6 k (nI (i + 1)) s'
      obtain ⟨s1, s2, s3, s4, s5, s6⟩ := hs
      have hw := (kp_all s1).2.2.2.2.2.2.2.2.2.2.1
      rw [lpX5_plays_6, if_neg (by rw [show (300 : Int32) = nI 300 from rfl, le_n (by omega) (by omega)]; omega), ck_nI hi (by omega), ck_nI hi (by omega), cl_n (by omega), ad_1]
      refine ⟨_, ⟨?_, ?_, ?_, ?_, ?_, fun k hk => ?_⟩, rfl⟩
      · exact s1
      · exact s2
      · exact s3
      · exact s4
      · exact s5
      · show upd (M_pWork s) i (M_work s i) k = _
        by_cases e : k = i
        · subst e; rw [up_s, hw]
        · rw [up_n e]; exact s6 k (by omega))
    300 qFU 0 m (by omega) (by unfold qFU; omega) ⟨rfl, rfl, rfl, rfl, rfl, fun k hk => absurd hk (Nat.not_lt_zero k)⟩
  obtain ⟨s', ⟨s1, s2, s3, s4, s5, s6⟩, h2⟩ := key
  exact ⟨s', h2, s1, s2, s3, s4, s5, s6⟩
theorem lp33 {M : MN} (ok : gOK M) {m : SM} (hr : RM M m) : ∃ m', lpX5_plays_33 qFU 0 m = some m' ∧ kp m' = kp m ∧ M_begun m' = M_begun m ∧ M_done m' = M_done m ∧ M_waits m' = M_waits m ∧ M_pWork m' = M_pWork m ∧ (∀ a, a < gna M → M_came m' (5 * a) = nI (gst M a)) ∧ (∀ k, (∀ a, a < gna M → k ≠ 5 * a) → M_came m' k = M_came m k) := by
  have h60 := ok.2.1
  have key := lpx (F := fun k i (z : SM) => lpX5_plays_33 k (nI i) z) (G := fun z => some z) (fun i z => kp z = kp m ∧ M_begun z = M_begun m ∧ M_done z = M_done m ∧ M_waits z = M_waits m ∧ M_pWork z = M_pWork m ∧ (∀ a, a < i → M_came z (5 * a) = nI (gst M a)) ∧ (∀ k, (∀ a, a < gna M → k ≠ 5 * a) → M_came z k = M_came m k)) (gna M)
    (fun k s hs => by
      show lpX5_plays_33 (k + 1) (nI (gna M)) s = some s
      rw [lpX5_plays_33, (hr.keep hs.1).2.1, if_pos (by rw [le_n (by omega) (by omega)]; omega)])
    (fun k i s hi hs => by
      show ∃ s', _ ∧ lpX5_plays_33 (k + 1) (nI i) s = lpX5_plays_33 k (nI (i + 1)) s'
      obtain ⟨s1, s2, s3, s4, s5, s6, s7⟩ := hs
      have hrm := hr.keep s1
      rw [lpX5_plays_33, hrm.2.1, if_neg (by rw [le_n (by omega) (by omega)]; omega), mu_5', ck_nI (by omega) (by omega), ck_nI (by omega) (by omega), cl_n (by omega), cl_n (by omega), (hrm.2.2.2.1 i hi).2.1, ad_1]
      refine ⟨_, ⟨?_, ?_, ?_, ?_, ?_, fun a ha => ?_, fun k hk => ?_⟩, rfl⟩
      · exact s1
      · exact s2
      · exact s3
      · exact s4
      · exact s5
      · show upd (M_came s) (5 * i) (nI (gst M i)) (5 * a) = _
        by_cases e : a = i
        · subst e; rw [up_s]
        · rw [up_n (by omega)]; exact s6 a (by omega)
      · show upd (M_came s) (5 * i) (nI (gst M i)) k = _
        rw [up_n (hk i hi)]
        exact s7 k hk)
    (gna M) qFU 0 m (by omega) (by unfold qFU; omega) ⟨rfl, rfl, rfl, rfl, rfl, fun a ha => absurd ha (Nat.not_lt_zero a), fun _ _ => rfl⟩
  obtain ⟨s', ⟨s1, s2, s3, s4, s5, s6, s7⟩, h2⟩ := key
  exact ⟨s', h2, s1, s2, s3, s4, s5, s6, s7⟩
theorem mPlays {M : MN} {m : SM} (ok : gOK M) (hr : RM M m) {w : Nat} {x : Int32} (hx : ∀ p, p < gnp M → (nI p = x ↔ p = w)) : ∃ u m', mX5_plays m x = some (nI (u - 1), m') ∧ GI M w (sEnd M w) u 700000 ∧ kp m' = kp m ∧ EQ M (gwo M) (xR M (sEnd M w)) m' := by
  have h60 := ok.2.1
  unfold mX5_plays
  obtain ⟨m1, a1, a2, a3, a4⟩ := mForgets m
  rw [a1, bi_s]
  obtain ⟨m2, b1, b2, b3, b4, b5, b6, b7⟩ := lpw6 m1
  rw [b1, bi_s]
  have hr2 : RM M m2 := hr.keep (b2.trans a2)
  obtain ⟨m3, c1, c2, c3, c4, c5, c6, c7, c8⟩ := lp33 ok hr2
  rw [c1, bi_s]
  have he : EQ M (gwo M) (xR M (s0 M)) m3 := by
    refine ⟨hr2.keep c2, fun k hk => ⟨?_, ?_, ?_, ?_⟩, fun k hv => ?_⟩
    · by_cases h : k / 5 < gna M ∧ k % 5 = 0
      · have hk5 : k = 5 * (k / 5) := by omega
        have e : xcm M (s0 M) k = scm (s0 M) k := xcm_in rfl h.1 (by show k ≤ 5 * (k / 5); omega)
        show M_came m3 k = nI (xcm M (s0 M) k)
        rw [e]
        show M_came m3 k = nI (gst M (k / 5))
        rw [← c7 _ h.1]
        exact congrArg (M_came m3) hk5
      · have e : xcm M (s0 M) k = 2000000000 := xcm_out rfl (by rintro ⟨z1, z2⟩; apply h; have z3 : k ≤ 5 * (k / 5) := z2; exact ⟨z1, by omega⟩)
        show M_came m3 k = nI (xcm M (s0 M) k)
        rw [e, c8 k (fun a ha z => h (by omega)), b3]
        exact (a4 k hk).1
    · have e := (xbg_out (M := M) (S := s0 M) (k := k) rfl (by rintro ⟨z1, z2⟩; have z3 : k < 5 * (k / 5) ∨ (k = 5 * (k / 5) ∧ 2 ≤ 0) := z2; omega)).1
      show M_begun m3 k = nI (xbg M (s0 M) k)
      rw [e, c3, b4]; exact (a4 k hk).2.1
    · have e := (xbg_out (M := M) (S := s0 M) (k := k) rfl (by rintro ⟨z1, z2⟩; have z3 : k < 5 * (k / 5) ∨ (k = 5 * (k / 5) ∧ 2 ≤ 0) := z2; omega)).2
      show M_done m3 k = nI (xdn M (s0 M) k)
      rw [e, c4, b5]; exact (a4 k hk).2.2.1
    · have e := xwt_out (M := M) (S := s0 M) (k := k) rfl (by rintro ⟨z1, z2, z3⟩; have z4 : (0 : Nat) = 1 := z3; omega)
      show M_waits m3 k = nI (xwt M (s0 M) k)
      rw [e, c5, b6]; exact (a4 k hk).2.2.2
    · rw [c6, b7 k (hv.lt ok)]
      have := (kp_all a2).2.2.2.2.2.2.2.2.2.2.1
      rw [this]
      exact (hr.2.2.2.2 k hv).2
  obtain ⟨u', m', d1, d2, d3, d4, d5⟩ := pl_loop ok hx 600 qFU (s0 M) 0 100000 m3 (by unfold qFU; omega) (GI_0 ok w) (by omega) (by omega) (by omega) he
  have d1' : lpX5_plays_63 x qFU (-1) m3 = some (nI (u' - 1), m') := d1
  rw [d1', bi_s]
  exact ⟨u', m', rfl, d3, d4.trans (c2.trans (b2.trans a2)), d5⟩
/-! what both leave behind -/
def ecm (M : MN) (w : Nat) : Nat → Nat := scm (sEnd M w)
def ebg (M : MN) (w : Nat) : Nat → Nat := sbg (sEnd M w)
def edn (M : MN) (w : Nat) : Nat → Nat := sdn (sEnd M w)
/-- the class's play is the play's end -/
def PE (M : MN) (w : Nat) (p : SP) : Prop := ∀ r, gV M r → P_came p r = nI (ecm M w r) ∧ P_begun p r = nI (ebg M w r) ∧ P_done p r = nI (edn M w r)
def PM (M : MN) (w : Nat) (m : SM) : Prop := ∀ r, gV M r → M_came m r = nI (ecm M w r) ∧ M_begun m r = nI (ebg M w r) ∧ M_done m r = nI (edn M w r)
theorem sEnd_in {M : MN} (ok : gOK M) (w : Nat) {r : Nat} (hv : gV M r) : r < scu (sEnd M w) (r / 5) ∨ (r = scu (sEnd M w) (r / 5) ∧ 2 ≤ sph (sEnd M w) (r / 5)) := by
  obtain ⟨h1, h2⟩ := sEnd_gone ok w hv.1
  have := hv.2
  omega
theorem mRunE {M : MN} {n : SN} (ok : gOK M) (hn : RN M n) {w : Nat} {x : Int32} (hx : ∀ p, p < gnp M → (nI p = x ↔ p = w)) (vP : SP) : ∃ p', mX2_run vP n x = some p' ∧ PE M w p' := by
  obtain ⟨p', h1, h2, h3⟩ := mRun ok hn hx vP
  refine ⟨p', h1, fun r hv => ?_⟩
  have hin := sEnd_in ok w hv
  obtain ⟨q1, q2⟩ := h2.2.2 r hv
  exact ⟨q1 (by omega), (q2 hin).1, (q2 hin).2⟩
/-- when the last ask is done -/
def eend (M : MN) (w : Nat) : Nat → Nat
  | 0 => 0
  | n + 1 => if eend M w n < edn M w (5 * n + gle M n - 1) then edn M w (5 * n + gle M n - 1) else eend M w n
theorem eend_le {M : MN} {w b : Nat} : ∀ n, (∀ a, a < n → edn M w (5 * a + gle M a - 1) ≤ b) → eend M w n ≤ b
  | 0, _ => Nat.zero_le _
  | n + 1, h => by
    have h1 := eend_le n (fun a ha => h a (by omega))
    have h2 := h n (by omega)
    rw [eend]
    split <;> omega
theorem eend_ge {M : MN} {w : Nat} : ∀ n a, a < n → edn M w (5 * a + gle M a - 1) ≤ eend M w n
  | 0, a, h => absurd h (Nat.not_lt_zero a)
  | n + 1, a, h => by
    rw [eend]
    by_cases e : a = n
    · subst e; split <;> omega
    · have := eend_ge (M := M) (w := w) n a (by omega)
      split <;> omega
theorem edn_b {M : MN} (ok : gOK M) (w : Nat) {r : Nat} (hv : gV M r) : ecm M w r ≤ 700000 ∧ ebg M w r ≤ 700000 ∧ edn M w r ≤ 700000 := by
  obtain ⟨u, hG, hN⟩ := sEnd_GI ok w
  have hin := sEnd_in ok w hv
  have h3 := sEnd_gone ok w hv.1
  have key : ∀ a, a < gna M → u ≤ 700001 := by
    intro a ha
    rcases hG.2.2.2 with z | ⟨b, hb, hz⟩
    · omega
    · have h3b := (sEnd_gone ok w hb).1
      have := hz h3b
      have := (hG.1.1 b hb).2.2.2.2.2 (by omega)
      omega
  have hu := key _ hv.1
  obtain ⟨t1, t2, t3, t4, t5, t6⟩ := hG.2.1 _ hv.1
  rcases hin with z | ⟨z, z2⟩
  · have := t1 r rfl z
    unfold ecm ebg edn
    omega
  · have a1 := t3 (by omega)
    have a2 := t4 (by omega)
    have a3 := t6 (by omega)
    rw [← z] at a1 a2 a3
    unfold ecm ebg edn
    omega
theorem mPlaysE {M : MN} {m : SM} (ok : gOK M) (hr : RM M m) {w : Nat} {x : Int32} (hx : ∀ p, p < gnp M → (nI p = x ↔ p = w)) : ∃ m', mX5_plays m x = some (nI (eend M w (gna M)), m') ∧ kp m' = kp m ∧ PM M w m' := by
  obtain ⟨u, m', h1, hG, h3, h4⟩ := mPlays ok hr hx
  have hu : u - 1 = eend M w (gna M) := by
    have ub : eend M w (gna M) ≤ u - 1 := by
      refine eend_le (gna M) (fun a ha => ?_)
      obtain ⟨g1, g2⟩ := sEnd_gone ok w ha
      have hl := ok.2.2.2.1 a ha
      have := (hG.2.1 a ha).2.2.2.2.2 g1
      unfold edn
      rw [show 5 * a + gle M a - 1 = scu (sEnd M w) a by omega]
      omega
    rcases hG.2.2.2 with z | ⟨b, hb, hz⟩
    · omega
    · obtain ⟨g1, g2⟩ := sEnd_gone ok w hb
      have hl := ok.2.2.2.1 b hb
      have h5 := hz g1
      have h6 := eend_ge (M := M) (w := w) (gna M) b hb
      unfold edn at h6
      rw [show 5 * b + gle M b - 1 = scu (sEnd M w) b by omega] at h6
      omega
  rw [hu] at h1
  refine ⟨m', h1, h3, fun r hv => ?_⟩
  have hin := sEnd_in ok w hv
  obtain ⟨q1, q2, q3, -⟩ := h4.2.1 r (hv.lt ok)
  have x1 : xcm M (sEnd M w) r = scm (sEnd M w) r := xcm_in rfl hv.1 (by omega)
  obtain ⟨x2, x3⟩ := xbg_in (M := M) (S := sEnd M w) (k := r) rfl hv.1 hin
  refine ⟨?_, ?_, ?_⟩
  · rw [q1]; exact congrArg nI x1
  · rw [q2]; exact congrArg nI x2
  · rw [q3]; exact congrArg nI x3
