/-! PURE: ask, step, seen, unsee -/
def mAs (M : MN) (k s p w : Nat) : MN := (gnp M, gna M + 1, ghe M, gru M, gde M, uN (gki M) (gna M) k, uN (gst M) (gna M) s, uN (gle M) (gna M) 1, uN (gpa M) (5 * gna M) p, uN (gwo M) (5 * gna M) w)
theorem gV_as {M : MN} {k s p w r : Nat} : gV (mAs M k s p w) r ↔ (gV M r ∨ r = 5 * gna M) := by
  unfold gV
  show (r / 5 < gna M + 1 ∧ r % 5 < uN (gle M) (gna M) 1 (r / 5)) ↔ _
  by_cases e : r / 5 = gna M
  · rw [e, uN_s]
    constructor
    · rintro ⟨h1, h2⟩; right; omega
    · rintro (⟨h1, h2⟩ | h); omega; omega
  · rw [uN_n e]
    constructor
    · rintro ⟨h1, h2⟩; left; exact ⟨by omega, h2⟩
    · rintro (⟨h1, h2⟩ | h)
      · exact ⟨by omega, h2⟩
      · exfalso; omega
theorem gOK_as {M : MN} {k s p w : Nat} (ok : gOK M) (h60 : gna M < 60) (hk : k ≤ 3) (hs : s ≤ 100000) (hp : p < gnp M) (hw1 : 1 ≤ w) (hw : w ≤ 1000) : gOK (mAs M k s p w) := by
  refine ⟨ok.1, by show gna M + 1 ≤ 60; omega, ok.2.2.1, fun a ha => ?_, fun r hr => ?_⟩
  · show uN (gki M) (gna M) k a ≤ 3 ∧ uN (gst M) (gna M) s a ≤ 100000 ∧ 1 ≤ uN (gle M) (gna M) 1 a ∧ uN (gle M) (gna M) 1 a ≤ 5
    have ha' : a < gna M + 1 := ha
    by_cases e : a = gna M
    · subst e; rw [uN_s, uN_s, uN_s]; omega
    · rw [uN_n e, uN_n e, uN_n e]; exact ok.2.2.2.1 a (by omega)
  · show uN (gpa M) (5 * gna M) p r < gnp M ∧ 1 ≤ uN (gwo M) (5 * gna M) w r ∧ uN (gwo M) (5 * gna M) w r ≤ 1000
    by_cases e : r = 5 * gna M
    · subst e; rw [uN_s, uN_s]; exact ⟨hp, hw1, hw⟩
    · rw [uN_n e, uN_n e]; exact ok.2.2.2.2 r ((gV_as.mp hr).resolve_right e)
theorem SD_mono {M M' : MN} {sn sb sd : Nat → Nat} (h : SD M sn sb sd) (hg : ∀ r, gV M r → gV M' r) : SD M' sn sb sd := fun r => ⟨(h r).1, fun z => ⟨hg r ((h r).2 z).1, ((h r).2 z).2⟩⟩
theorem mAdd {n : SN} {a l : Nat} (ha : a < 60) (h : 5 * a + l < 300) (hl : N_lengths n a = nI l) (pl x : Int32) : mX1_addStep n (nI a) pl x = some (nI l, N_stepWorks_s (N_stepPlaces_s (N_lengths_s (N_steps_s n (N_steps n + 1)) (upd (N_lengths n) a (nI (l + 1)))) (upd (N_stepPlaces n) (5 * a + l) pl)) (upd (N_stepWorks n) (5 * a + l) x)) := by
  unfold mX1_addStep
  rw [mFirst, bi_s, cl_n (j := a) (by omega), hl, ad_n, ck_nI (by omega) (by omega), ck_nI (by omega) (by omega), ck_nI (by omega) (by omega), ck_nI (by omega) (by omega), cl_n (by omega), ad_1]
theorem op_ask {q : Int32} {n : SN} {t : ST} {p : SP} {m : SM} (hI : LI q n t p m) (o : qJ) (x1 x2 x3 x4 : Int32) : ∃ a b, mL_ask q n o x1 x2 x3 x4 = some a ∧ mX5_ask m x1 x2 x3 x4 = some b ∧ M_thrown b.2 = a.1 ∧ (a.1 = 0 → a.2.2.2 (Int32.toNatClampNeg 0) = b.1.toInt64) ∧ LI a.2.1 a.2.2.1 t p b.2 := by
  obtain ⟨M, sn, sb, sd, ok, hn, hm, hsd, het, hem, hfr⟩ := hI
  have h5 := ok.1
  have h60 := ok.2.1
  have hma : M_asks m = nI (gna M) := hm.2.1
  rcases npN (q := q) (x := x3) (m := M_thrown_s m 0) ok hn.1.1 hm.1 with ⟨pl, hpl, rfl, j1, j2⟩ | ⟨j1, j2⟩
  · have badN : ∀ x1 x2 x4 : Int32, mL_ask q n o x1 x2 (nI pl) x4 = some (2, q, n, o) → mX5_ask m x1 x2 (nI pl) x4 = some (0, M_thrown_s m 2) → ∃ a b, mL_ask q n o x1 x2 (nI pl) x4 = some a ∧ mX5_ask m x1 x2 (nI pl) x4 = some b ∧ M_thrown b.2 = a.1 ∧ (a.1 = 0 → a.2.2.2 (Int32.toNatClampNeg 0) = b.1.toInt64) ∧ LI a.2.1 a.2.2.1 t p b.2 :=
      fun x1 x2 x4 hc hr => ⟨_, _, hc, hr, rfl, fun z => absurd (show (2 : Int32) = 0 from z) (by decide), M, sn, sb, sd, ok, hn, hm, hsd, het, hem, hfr⟩
    rcases nwN (x := x1) (lo := 0) (hi := 3) (by omega) (by omega) with ⟨k, a1, a2, a3, a4, a5⟩ | ⟨a4, a5⟩
    · rcases nwN (x := x2) (lo := 0) (hi := 100000) (by omega) (by omega) with ⟨s, b1, b2, b3, b4, b5⟩ | ⟨b4, b5⟩
      · rcases nwN (x := x4) (lo := 1) (hi := 1000) (by omega) (by omega) with ⟨w, c1, c2, c3, c4, c5⟩ | ⟨c4, c5⟩
        · by_cases hg : gna M < 60
          · have hc : mL_ask q n o x1 x2 (nI pl) x4 = some (0, 0, (N_stepWorks_s (N_stepPlaces_s (N_lengths_s (N_steps_s (N_starts_s (N_kinds_s (N_asks_s n (nI (gna M + 1))) (upd (N_kinds n) (gna M) x1)) (upd (N_starts n) (gna M) x2)) (N_steps n + 1)) (upd (N_lengths n) (gna M) (nI 1))) (upd (N_stepPlaces n) (5 * gna M) (nI pl))) (upd (N_stepWorks n) (5 * gna M) x4)), vp_updL o (Int32.toNatClampNeg 0) (nI (gna M)).toInt64) := by
              unfold mL_ask mX4_ask
              have e1 : mX4_needWithin x1 0 3 = some (Sum.inr ()) := a5
              have e2 : mX4_needWithin x2 0 100000 = some (Sum.inr ()) := b5
              have e3 : mX4_needWithin x4 1 1000 = some (Sum.inr ()) := c5
              rw [j1, bi_s, zX_r, e1, bi_s, zX_r, e2, bi_s, zX_r, e3, bi_s, zX_r, hn.1.2.1, if_pos (by rw [show (60 : Int32) = nI 60 from rfl, lt_n (by omega) (by omega)]; exact hg), ck_nI hg (by omega), ck_nI hg (by omega), cl_n (by omega), ad_1]
              rw [mAdd (l := 0) hg (by omega) (by exact hn.2.1 (gna M) (Nat.le_refl _) hg), bi_s, Option.map_some, bi_s, zW_r, ck_01]
              rfl
            have hr' : mX5_ask m x1 x2 (nI pl) x4 = some (nI (gna M), (M_work_s (M_at_s (M_asks_s (M_steps_s (M_start_s (M_kind_s (M_thrown_s m 0) (upd (M_kind m) (gna M) x1)) (upd (M_start m) (gna M) x2)) (upd (M_steps m) (gna M) (nI 1))) (nI (gna M + 1))) (upd (M_at m) (5 * gna M) (nI pl))) (upd (M_work m) (5 * gna M) x4))) := by
              unfold mX5_ask
              have e1 : mX5_in x1 0 3 = some 1 := a4
              have e2 : mX5_in x2 0 100000 = some 1 := b4
              have e3 : mX5_in x4 1 1000 = some 1 := c4
              rw [j2, bi_s, ti_0, bi_s, if_0, e1, bi_s, if_1, e2, bi_s, if_1, e3, bi_s, if_1, bi_s, ti_0, bi_s, if_0]
              have hma' : M_asks (M_thrown_s m 0) = nI (gna M) := hm.2.1
              dsimp only
              rw [hma', if_neg (by rw [show (60 : Int32) = nI 60 from rfl, eq_n (by omega) (by omega)]; omega), bi_s, ti_0, bi_s, if_0]
              dsimp only
              rw [hma', mu_5', ck_nI hg (by omega), ck_nI hg (by omega), ck_nI (by omega) (by omega), ck_nI (by omega) (by omega), ck_nI hg (by omega), cl_n (by omega), cl_n (by omega), ad_1, su_1 (by omega)]
              rfl
            refine ⟨_, _, hc, hr', rfl, fun _ => out_0 o _, mAs M k s pl w, sn, sb, sd, gOK_as ok hg a2 b2 hpl c1 c2, ?_, ?_, SD_mono hsd (fun r hr => gV_as.mpr (Or.inl hr)), het, hem, Or.inl rfl⟩
            · refine ⟨⟨hn.1.1, rfl, hn.1.2.2.1, fun a ha => ?_, fun r hr => ?_⟩, fun a ha1 ha2 => ?_, fun r hr1 hr2 => ?_, ?_⟩
              · have ha' : a < gna M + 1 := ha
                have hq' := fun e : a ≠ gna M => hn.1.2.2.2.1 a (by omega)
                rw [a3, b3]
                exact ⟨upd_u (fun e => (hq' e).1), upd_u (fun e => (hq' e).2.1), upd_u (fun e => (hq' e).2.2)⟩
              · have hq' := fun e : r ≠ 5 * gna M => hn.1.2.2.2.2 r ((gV_as.mp hr).resolve_right e)
                rw [c3]
                exact ⟨upd_u (fun e => (hq' e).1), upd_u (fun e => (hq' e).2)⟩
              · show upd (N_lengths n) (gna M) (nI 1) a = nI 0
                have ha1' : gna M + 1 ≤ a := ha1
                rw [up_n (by omega)]
                exact hn.2.1 a (by omega) ha2
              · show upd (N_stepPlaces n) (5 * gna M) (nI pl) r = -1
                rw [up_n (fun z => hr2 (gV_as.mpr (Or.inr z)))]
                exact hn.2.2.1 r hr1 (fun z => hr2 (gV_as.mpr (Or.inl z)))
              · show N_steps n + 1 = nI (cg (uN (gle M) (gna M) 1) (gna M + 1))
                rw [hn.2.2.2, ad_1, cg, uN_s, cg_congr (g := gle M) (fun a ha => uN_n (by omega))]
            · refine ⟨hm.1, rfl, hm.2.2.1, fun a ha => ?_, fun r hr => ?_⟩
              · have ha' : a < gna M + 1 := ha
                have hq' := fun e : a ≠ gna M => hm.2.2.2.1 a (by omega)
                rw [a3, b3]
                exact ⟨upd_u (fun e => (hq' e).1), upd_u (fun e => (hq' e).2.1), upd_u (fun e => (hq' e).2.2)⟩
              · have hq' := fun e : r ≠ 5 * gna M => hm.2.2.2.2 r ((gV_as.mp hr).resolve_right e)
                rw [c3]
                exact ⟨upd_u (fun e => (hq' e).1), upd_u (fun e => (hq' e).2)⟩
          · have hc : mL_ask q n o x1 x2 (nI pl) x4 = some (3, q, n, o) := by
              unfold mL_ask mX4_ask
              have e1 : mX4_needWithin x1 0 3 = some (Sum.inr ()) := a5
              have e2 : mX4_needWithin x2 0 100000 = some (Sum.inr ()) := b5
              have e3 : mX4_needWithin x4 1 1000 = some (Sum.inr ()) := c5
              rw [j1, bi_s, zX_r, e1, bi_s, zX_r, e2, bi_s, zX_r, e3, bi_s, zX_r, hn.1.2.1, if_neg (by rw [show (60 : Int32) = nI 60 from rfl, lt_n (by omega) (by omega)]; exact hg), bi_s, zW_l, if_neg (by decide), if_neg (by decide), if_pos rfl]
            have hr' : mX5_ask m x1 x2 (nI pl) x4 = some (0, M_thrown_s m 3) := by
              unfold mX5_ask
              have e1 : mX5_in x1 0 3 = some 1 := a4
              have e2 : mX5_in x2 0 100000 = some 1 := b4
              have e3 : mX5_in x4 1 1000 = some 1 := c4
              rw [j2, bi_s, ti_0, bi_s, if_0, e1, bi_s, if_1, e2, bi_s, if_1, e3, bi_s, if_1, bi_s, ti_0, bi_s, if_0]
              show Option.bind (if M_asks m = 60 then some 1 else some 0) _ = _
              rw [hma, if_pos (by rw [show gna M = 60 by omega]; rfl), bi_s, ti_1, bi_s, if_1]
            exact ⟨_, _, hc, hr', rfl, fun z => absurd (show (3 : Int32) = 0 from z) (by decide), M, sn, sb, sd, ok, hn, hm, hsd, het, hem, hfr⟩
        · refine badN x1 x2 x4 ?_ ?_
          · unfold mL_ask mX4_ask
            have e1 : mX4_needWithin x1 0 3 = some (Sum.inr ()) := a5
            have e2 : mX4_needWithin x2 0 100000 = some (Sum.inr ()) := b5
            have e3 : mX4_needWithin x4 1 1000 = _ := c5
            rw [j1, bi_s, zX_r, e1, bi_s, zX_r, e2, bi_s, zX_r, e3, bi_s, zX_l, bi_s, zW_l, if_neg (by decide), if_pos rfl]
          · unfold mX5_ask
            have e1 : mX5_in x1 0 3 = some 1 := a4
            have e2 : mX5_in x2 0 100000 = some 1 := b4
            have e3 : mX5_in x4 1 1000 = some 0 := c4
            rw [j2, bi_s, ti_0, bi_s, if_0, e1, bi_s, if_1, e2, bi_s, if_1, e3, bi_s, if_0, bi_s, ti_1, bi_s, if_1]
      · refine badN x1 x2 x4 ?_ ?_
        · unfold mL_ask mX4_ask
          have e1 : mX4_needWithin x1 0 3 = some (Sum.inr ()) := a5
          have e2 : mX4_needWithin x2 0 100000 = _ := b5
          rw [j1, bi_s, zX_r, e1, bi_s, zX_r, e2, bi_s, zX_l, bi_s, zW_l, if_neg (by decide), if_pos rfl]
        · unfold mX5_ask
          have e1 : mX5_in x1 0 3 = some 1 := a4
          have e2 : mX5_in x2 0 100000 = some 0 := b4
          rw [j2, bi_s, ti_0, bi_s, if_0, e1, bi_s, if_1, e2, bi_s, if_0, bi_s, ti_1, bi_s, if_1]
    · refine badN x1 x2 x4 ?_ ?_
      · unfold mL_ask mX4_ask
        have e1 : mX4_needWithin x1 0 3 = _ := a5
        rw [j1, bi_s, zX_r, e1, bi_s, zX_l, bi_s, zW_l, if_neg (by decide), if_pos rfl]
      · unfold mX5_ask
        have e1 : mX5_in x1 0 3 = some 0 := a4
        rw [j2, bi_s, ti_0, bi_s, if_0, e1, bi_s, if_0, bi_s, ti_1, bi_s, if_1]
  · have hc : mL_ask q n o x1 x2 x3 x4 = some (1, q, n, o) := by
      unfold mL_ask mX4_ask
      rw [j1, bi_s, zX_l, bi_s, zW_l, if_pos rfl]
    have hr' : mX5_ask m x1 x2 x3 x4 = some (0, M_thrown_s m 1) := by
      unfold mX5_ask
      rw [j2, bi_s, ti_1, bi_s, if_1]
    exact ⟨_, _, hc, hr', rfl, fun z => absurd (show (1 : Int32) = 0 from z) (by decide), M, sn, sb, sd, ok, hn, hm, hsd, het, hem, hfr⟩
def mSt (M : MN) (a p w : Nat) : MN := (gnp M, gna M, ghe M, gru M, gde M, gki M, gst M, uN (gle M) a (gle M a + 1), uN (gpa M) (5 * a + gle M a) p, uN (gwo M) (5 * a + gle M a) w)
theorem gV_st {M : MN} {a p w r : Nat} (ha : a < gna M) (hl : gle M a < 5) : gV (mSt M a p w) r ↔ (gV M r ∨ r = 5 * a + gle M a) := by
  unfold gV
  show (r / 5 < gna M ∧ r % 5 < uN (gle M) a (gle M a + 1) (r / 5)) ↔ _
  by_cases e : r / 5 = a
  · rw [e, uN_s]
    constructor
    · rintro ⟨h1, h2⟩
      by_cases z : r % 5 = gle M a
      · right; omega
      · left; exact ⟨h1, by omega⟩
    · rintro (⟨h1, h2⟩ | h)
      · exact ⟨h1, by omega⟩
      · exact ⟨ha, by omega⟩
  · rw [uN_n e]
    constructor
    · rintro ⟨h1, h2⟩; left; exact ⟨h1, h2⟩
    · rintro (⟨h1, h2⟩ | h)
      · exact ⟨h1, h2⟩
      · exfalso; omega
theorem gOK_st {M : MN} {a p w : Nat} (ok : gOK M) (ha : a < gna M) (hl : gle M a < 5) (hp : p < gnp M) (hw1 : 1 ≤ w) (hw : w ≤ 1000) : gOK (mSt M a p w) := by
  refine ⟨ok.1, ok.2.1, ok.2.2.1, fun b hb => ?_, fun r hr => ?_⟩
  · have := ok.2.2.2.1 b hb
    refine ⟨this.1, this.2.1, ?_⟩
    show 1 ≤ uN (gle M) a (gle M a + 1) b ∧ uN (gle M) a (gle M a + 1) b ≤ 5
    by_cases e : b = a
    · subst e; rw [uN_s]; omega
    · rw [uN_n e]; exact this.2.2
  · show uN (gpa M) (5 * a + gle M a) p r < gnp M ∧ 1 ≤ uN (gwo M) (5 * a + gle M a) w r ∧ uN (gwo M) (5 * a + gle M a) w r ≤ 1000
    by_cases e : r = 5 * a + gle M a
    · subst e; rw [uN_s, uN_s]; exact ⟨hp, hw1, hw⟩
    · rw [uN_n e, uN_n e]; exact ok.2.2.2.2 r (((gV_st ha hl).mp hr).resolve_right e)
theorem op_step {q : Int32} {n : SN} {t : ST} {p : SP} {m : SM} (hI : LI q n t p m) (o : qJ) (x1 x2 x3 : Int32) : ∃ a b, mL_step q n o x1 x2 x3 = some a ∧ mX5_step m x1 x2 x3 = some b ∧ M_thrown b.2 = a.1 ∧ (a.1 = 0 → a.2.2.2 (Int32.toNatClampNeg 0) = b.1.toInt64) ∧ LI a.2.1 a.2.2.1 t p b.2 := by
  obtain ⟨M, sn, sb, sd, ok, hn, hm, hsd, het, hem, hfr⟩ := hI
  have h5 := ok.1
  have h60 := ok.2.1
  have bad1 : mL_step q n o x1 x2 x3 = some (1, q, n, o) → mX5_step m x1 x2 x3 = some (0, M_thrown_s m 1) → ∃ a b, mL_step q n o x1 x2 x3 = some a ∧ mX5_step m x1 x2 x3 = some b ∧ M_thrown b.2 = a.1 ∧ (a.1 = 0 → a.2.2.2 (Int32.toNatClampNeg 0) = b.1.toInt64) ∧ LI a.2.1 a.2.2.1 t p b.2 :=
    fun hc hr => ⟨_, _, hc, hr, rfl, fun z => absurd (show (1 : Int32) = 0 from z) (by decide), M, sn, sb, sd, ok, hn, hm, hsd, het, hem, hfr⟩
  rcases naN (q := q) (x := x1) (m := M_thrown_s m 0) ok hn.1.2.1 hm.2.1 with ⟨a, ha, rfl, i1, i2⟩ | ⟨i1, i2⟩
  · rcases npN (q := q) (x := x2) (m := M_thrown_s m 0) ok hn.1.1 hm.1 with ⟨pl, hpl, rfl, j1, j2⟩ | ⟨j1, j2⟩
    · have hle := ok.2.2.2.1 a ha
      have hnl := (hn.1.2.2.2.1 a ha).2.2
      have hml : M_steps m a = nI (gle M a) := (hm.2.2.2.1 a ha).2.2
      rcases nwN (x := x3) (lo := 1) (hi := 1000) (by omega) (by omega) with ⟨w, c1, c2, c3, c4, c5⟩ | ⟨c4, c5⟩
      · have e3 : mX4_needWithin x3 1 1000 = some (Sum.inr ()) := c5
        have e4 : mX5_in x3 1 1000 = some 1 := c4
        by_cases hg : gle M a < 5
        · have hc : mL_step q n o (nI a) (nI pl) x3 = some (0, 0, (N_stepWorks_s (N_stepPlaces_s (N_lengths_s (N_steps_s n (N_steps n + 1)) (upd (N_lengths n) a (nI (gle M a + 1)))) (upd (N_stepPlaces n) (5 * a + gle M a) (nI pl))) (upd (N_stepWorks n) (5 * a + gle M a) x3)), vp_updL o (Int32.toNatClampNeg 0) (nI (gle M a)).toInt64) := by
            unfold mL_step mX4_step
            rw [i1, bi_s, zX_r, j1, bi_s, zX_r, e3, bi_s, zX_r, cl_n (j := a) (by omega), hnl, if_pos (by rw [show (5 : Int32) = nI 5 from rfl, lt_n (by omega) (by omega)]; exact hg), ck_nI (by omega) (by omega), mAdd (by omega) (by omega) hnl, bi_s, Option.map_some, bi_s, zW_r, ck_01]
          have hr' : mX5_step m (nI a) (nI pl) x3 = some (nI (gle M a), (M_work_s (M_at_s (M_steps_s (M_thrown_s m 0) (upd (M_steps m) a (nI (gle M a + 1)))) (upd (M_at m) (5 * a + gle M a) (nI pl))) (upd (M_work m) (5 * a + gle M a) x3))) := by
            unfold mX5_step
            rw [i2, bi_s, if_0, j2, bi_s, if_0, bi_s, ti_0, bi_s, if_0, e4, bi_s, if_1, bi_s, ti_0, bi_s, if_0, cl_n (j := a) (by omega), mu_5', ck_nI (by omega) (by omega), ck_nI (by omega) (by omega), ck_nI (by omega) (by omega), ck_nI (by omega) (by omega), ck_nI (by omega) (by omega), ck_nI (by omega) (by omega)]
            have hml' : M_steps (M_thrown_s m 0) a = nI (gle M a) := hml
            dsimp only
            rw [hml', if_neg (by rw [show (5 : Int32) = nI 5 from rfl, eq_n (by omega) (by omega)]; omega), ad_n, ck_nI (by omega) (by omega), ck_nI (by omega) (by omega), cl_n (by omega), ad_1, up_s, su_1 (by omega)]
            rfl
          refine ⟨_, _, hc, hr', rfl, fun _ => out_0 o _, mSt M a pl w, sn, sb, sd, gOK_st ok ha hg hpl c1 c2, ?_, ?_, SD_mono hsd (fun r hr => (gV_st ha hg).mpr (Or.inl hr)), het, hem, Or.inl rfl⟩
          · refine ⟨⟨hn.1.1, hn.1.2.1, hn.1.2.2.1, fun b hb => ?_, fun r hr => ?_⟩, fun b ha1 ha2 => ?_, fun r hr1 hr2 => ?_, ?_⟩
            · have hq' := hn.1.2.2.2.1 b hb
              exact ⟨hq'.1, hq'.2.1, upd_u (fun e => hq'.2.2)⟩
            · have hq' := fun e : r ≠ 5 * a + gle M a => hn.1.2.2.2.2 r (((gV_st ha hg).mp hr).resolve_right e)
              rw [c3]
              exact ⟨upd_u (fun e => (hq' e).1), upd_u (fun e => (hq' e).2)⟩
            · show upd (N_lengths n) a (nI (gle M a + 1)) b = nI 0
              have ha1' : gna M ≤ b := ha1
              rw [up_n (by omega)]
              exact hn.2.1 b ha1' ha2
            · show upd (N_stepPlaces n) (5 * a + gle M a) (nI pl) r = -1
              rw [up_n (fun z => hr2 ((gV_st ha hg).mpr (Or.inr z)))]
              exact hn.2.2.1 r hr1 (fun z => hr2 ((gV_st ha hg).mpr (Or.inl z)))
            · show N_steps n + 1 = nI (cg (uN (gle M) a (gle M a + 1)) (gna M))
              have := cg_change (f := gle M) (g := uN (gle M) a (gle M a + 1)) (i := a) (n := gna M) ha (fun b _ e => uN_n e)
              rw [uN_s] at this
              rw [hn.2.2.2, ad_1]
              congr 1
              omega
          · refine ⟨hm.1, hm.2.1, hm.2.2.1, fun b hb => ?_, fun r hr => ?_⟩
            · have hq' := hm.2.2.2.1 b hb
              exact ⟨hq'.1, hq'.2.1, upd_u (fun e => hq'.2.2)⟩
            · have hq' := fun e : r ≠ 5 * a + gle M a => hm.2.2.2.2 r (((gV_st ha hg).mp hr).resolve_right e)
              rw [c3]
              exact ⟨upd_u (fun e => (hq' e).1), upd_u (fun e => (hq' e).2)⟩
        · have hc : mL_step q n o (nI a) (nI pl) x3 = some (0, q, n, vp_updL o (Int32.toNatClampNeg 0) (-1 : Int32).toInt64) := by
            unfold mL_step mX4_step
            rw [i1, bi_s, zX_r, j1, bi_s, zX_r, e3, bi_s, zX_r, cl_n (j := a) (by omega), hnl, if_neg (by rw [show (5 : Int32) = nI 5 from rfl, lt_n (by omega) (by omega)]; exact hg), ck_nI (by omega) (by omega), Option.map_some, bi_s, zW_r, ck_01]
          have hr' : mX5_step m (nI a) (nI pl) x3 = some (-1, M_thrown_s m 0) := by
            unfold mX5_step
            rw [i2, bi_s, if_0, j2, bi_s, if_0, bi_s, ti_0, bi_s, if_0, e4, bi_s, if_1, bi_s, ti_0, bi_s, if_0, cl_n (j := a) (by omega), ck_nI (by omega) (by omega)]
            show (if M_steps m a = 5 then _ else _) = _
            rw [hml, if_pos (by rw [show gle M a = 5 by omega]; rfl)]
          exact ⟨_, _, hc, hr', rfl, fun _ => out_0 o _, M, sn, sb, sd, ok, hn, hm, hsd, het, hem, hfr⟩
      · have e3 : mX4_needWithin x3 1 1000 = _ := c5
        have e4 : mX5_in x3 1 1000 = some 0 := c4
        have hc : mL_step q n o (nI a) (nI pl) x3 = some (2, q, n, o) := by
          unfold mL_step mX4_step
          rw [i1, bi_s, zX_r, j1, bi_s, zX_r, e3, bi_s, zX_l, bi_s, zW_l, if_neg (by decide), if_pos rfl]
        have hr' : mX5_step m (nI a) (nI pl) x3 = some (0, M_thrown_s m 2) := by
          unfold mX5_step
          rw [i2, bi_s, if_0, j2, bi_s, if_0, bi_s, ti_0, bi_s, if_0, e4, bi_s, if_0, bi_s, ti_1, bi_s, if_1]
        exact ⟨_, _, hc, hr', rfl, fun z => absurd (show (2 : Int32) = 0 from z) (by decide), M, sn, sb, sd, ok, hn, hm, hsd, het, hem, hfr⟩
    · refine bad1 ?_ ?_
      · unfold mL_step mX4_step
        rw [i1, bi_s, zX_r, j1, bi_s, zX_l, bi_s, zW_l, if_pos rfl]
      · unfold mX5_step
        rw [i2, bi_s, if_0, j2, bi_s, if_1, bi_s, ti_1, bi_s, if_1]
  · refine bad1 ?_ ?_
    · unfold mL_step mX4_step
      rw [i1, bi_s, zX_l, bi_s, zW_l, if_pos rfl]
    · unfold mX5_step
      rw [i2, bi_s, if_1, bi_s, ti_1, bi_s, if_1]
theorem ET_tell {sn sb sd : Nat → Nat} {t : ST} {r b d : Nat} (h : ET sn sb sd t) : ET (uN sn r 1) (uN sb r b) (uN sd r d) (T_done_s (T_begun_s (T_isSeen_s t (upd (T_isSeen t) r (nI 1))) (upd (T_begun t) r (nI b))) (upd (T_done t) r (nI d))) := by
  intro k hk
  refine ⟨upd_u (fun e => (h k hk).1), fun z => ?_⟩
  have h2 : k ≠ r → sn k = 1 := fun e => by rw [uN_n e] at z; exact z
  exact ⟨upd_u (fun e => ((h k hk).2 (h2 e)).1), upd_u (fun e => ((h k hk).2 (h2 e)).2)⟩
theorem EM_tell {sn sb sd : Nat → Nat} {m : SM} {r b d : Nat} (h : EM sn sb sd m) : EM (uN sn r 1) (uN sb r b) (uN sd r d) (M_seenDone_s (M_seenBegun_s (M_isSeen_s m (upd (M_isSeen m) r (nI 1))) (upd (M_seenBegun m) r (nI b))) (upd (M_seenDone m) r (nI d))) := by
  intro k hk
  refine ⟨upd_u (fun e => (h k hk).1), fun z => ?_⟩
  have h2 : k ≠ r → sn k = 1 := fun e => by rw [uN_n e] at z; exact z
  exact ⟨upd_u (fun e => ((h k hk).2 (h2 e)).1), upd_u (fun e => ((h k hk).2 (h2 e)).2)⟩
theorem SD_tell {M : MN} {sn sb sd : Nat → Nat} {r b d : Nat} (h : SD M sn sb sd) (hv : gV M r) (hbd : b < d) (hd : d ≤ 10000000) : SD M (uN sn r 1) (uN sb r b) (uN sd r d) := by
  intro k
  by_cases e : k = r
  · subst e; rw [uN_s, uN_s, uN_s]; exact ⟨Nat.le_refl _, fun _ => ⟨hv, hbd, hd⟩⟩
  · rw [uN_n e, uN_n e, uN_n e]; exact h k
theorem op_seen {q : Int32} {n : SN} {t : ST} {p : SP} {m : SM} (hI : LI q n t p m) (x1 x2 x3 x4 : Int32) : ∃ a b, mL_seen q n t x1 x2 x3 x4 = some a ∧ mX5_seen m x1 x2 x3 x4 = some b ∧ M_thrown b = a.1 ∧ LI q n a.2 p b := by
  obtain ⟨M, sn, sb, sd, ok, hn, hm, hsd, het, hem, hfr⟩ := hI
  have h60 := ok.2.1
  rcases nsN (q := q) (x := x1) (y := x2) (m := M_thrown_s m 0) ok hn.1 hm with ⟨a, j, ha, hj, rfl, rfl, i1, i2⟩ | ⟨i1, i2⟩
  · have hle := ok.2.2.2.1 a ha
    have bad : mL_seen q n t (nI a) (nI j) x3 x4 = some (2, t) → mX5_seen m (nI a) (nI j) x3 x4 = some (M_thrown_s m 2) → ∃ c b, mL_seen q n t (nI a) (nI j) x3 x4 = some c ∧ mX5_seen m (nI a) (nI j) x3 x4 = some b ∧ M_thrown b = c.1 ∧ LI q n c.2 p b :=
      fun hc hr => ⟨_, _, hc, hr, rfl, M, sn, sb, sd, ok, hn, hm, hsd, het, hem, hfr⟩
    rcases nwN (x := x3) (lo := 0) (hi := 10000000) (by omega) (by omega) with ⟨b, b1, b2, b3, b4, b5⟩ | ⟨b4, b5⟩
    · rcases nwN (x := x4) (lo := 0) (hi := 10000000) (by omega) (by omega) with ⟨d, d1, d2, d3, d4, d5⟩ | ⟨d4, d5⟩
      · have e1 : mX4_needWithin x3 0 10000000 = some (Sum.inr ()) := b5
        have e2 : mX4_needWithin x4 0 10000000 = some (Sum.inr ()) := d5
        have e3 : mX5_in x3 0 10000000 = some 1 := b4
        have e4 : mX5_in x4 0 10000000 = some 1 := d4
        have hlt : (x3 < x4) = (b < d) := by rw [b3, d3, lt_n (by omega) (by omega)]
        by_cases hbd : b < d
        · have hc : mL_seen q n t (nI a) (nI j) x3 x4 = some (0, (T_done_s (T_begun_s (T_isSeen_s t (upd (T_isSeen t) (5 * a + j) (nI 1))) (upd (T_begun t) (5 * a + j) x3)) (upd (T_done t) (5 * a + j) x4))) := by
            unfold mL_seen mX4_seen mX3_tell
            rw [i1, bi_s, zX_r, e1, bi_s, zX_r, e2, bi_s, zX_r, if_pos (by rw [hlt]; exact hbd), ck_nI (by omega) (by omega), ck_nI (by omega) (by omega), ck_nI (by omega) (by omega), cl_n (by omega), bool_1, bi_s, Option.map_some, bi_s, zW_r]
            rfl
          have hr' : mX5_seen m (nI a) (nI j) x3 x4 = some (M_seenDone_s (M_seenBegun_s (M_isSeen_s (M_thrown_s m 0) (upd (M_isSeen m) (5 * a + j) (nI 1))) (upd (M_seenBegun m) (5 * a + j) x3)) (upd (M_seenDone m) (5 * a + j) x4)) := by
            unfold mX5_seen
            rw [i2, bi_s, ti_0, bi_s, if_0, e3, bi_s, if_1, e4, bi_s, if_1, if_pos (by rw [hlt]; exact hbd), bi_s, ti_0, bi_s, if_0, mu_5', ad_n, ck_nI (by omega) (by omega), ck_nI (by omega) (by omega), ck_nI (by omega) (by omega), cl_n (by omega), bool_1]
            rfl
          refine ⟨_, _, hc, hr', rfl, M, uN sn (5 * a + j) 1, uN sb (5 * a + j) b, uN sd (5 * a + j) d, ok, hn, hm, SD_tell hsd (gV.mk ha hle.2.2.2 hj) hbd d2, ?_, ?_, hfr⟩
          · rw [b3, d3]; exact ET_tell het
          · rw [b3, d3]; exact EM_tell (m := M_thrown_s m 0) hem
        · refine bad ?_ ?_
          · unfold mL_seen mX4_seen
            rw [i1, bi_s, zX_r, e1, bi_s, zX_r, e2, bi_s, zX_r, if_neg (by rw [hlt]; exact hbd), bi_s, zW_l, if_neg (by decide), if_pos rfl]
          · unfold mX5_seen
            rw [i2, bi_s, ti_0, bi_s, if_0, e3, bi_s, if_1, e4, bi_s, if_1, if_neg (by rw [hlt]; exact hbd), bi_s, ti_1, bi_s, if_1]
      · have e1 : mX4_needWithin x3 0 10000000 = some (Sum.inr ()) := b5
        have e2 : mX4_needWithin x4 0 10000000 = _ := d5
        have e3 : mX5_in x3 0 10000000 = some 1 := b4
        have e4 : mX5_in x4 0 10000000 = some 0 := d4
        refine bad ?_ ?_
        · unfold mL_seen mX4_seen
          rw [i1, bi_s, zX_r, e1, bi_s, zX_r, e2, bi_s, zX_l, bi_s, zW_l, if_neg (by decide), if_pos rfl]
        · unfold mX5_seen
          rw [i2, bi_s, ti_0, bi_s, if_0, e3, bi_s, if_1, e4, bi_s, if_0, bi_s, ti_1, bi_s, if_1]
    · have e1 : mX4_needWithin x3 0 10000000 = _ := b5
      have e3 : mX5_in x3 0 10000000 = some 0 := b4
      refine bad ?_ ?_
      · unfold mL_seen mX4_seen
        rw [i1, bi_s, zX_r, e1, bi_s, zX_l, bi_s, zW_l, if_neg (by decide), if_pos rfl]
      · unfold mX5_seen
        rw [i2, bi_s, ti_0, bi_s, if_0, e3, bi_s, if_0, bi_s, ti_1, bi_s, if_1]
  · have hc : mL_seen q n t x1 x2 x3 x4 = some (1, t) := by
      unfold mL_seen mX4_seen
      rw [i1, bi_s, zX_l, bi_s, zW_l, if_pos rfl]
    have hr' : mX5_seen m x1 x2 x3 x4 = some (M_thrown_s m 1) := by
      unfold mX5_seen
      rw [i2, bi_s, ti_1, bi_s, if_1]
    exact ⟨_, _, hc, hr', rfl, M, sn, sb, sd, ok, hn, hm, hsd, het, hem, hfr⟩
theorem op_unsee {q : Int32} {n : SN} {t : ST} {p : SP} {m : SM} (hI : LI q n t p m) (o : qJ) (x1 x2 : Int32) : ∃ a b, mL_unsee q n t o x1 x2 = some a ∧ mX5_unsee m x1 x2 = some b ∧ M_thrown b.2 = a.1 ∧ (a.1 = 0 → a.2.2 (Int32.toNatClampNeg 0) = if b.1 = 0 then 0 else 1) ∧ LI q n a.2.1 p b.2 := by
  obtain ⟨M, sn, sb, sd, ok, hn, hm, hsd, het, hem, hfr⟩ := hI
  have h60 := ok.2.1
  rcases nsN (q := q) (x := x1) (y := x2) (m := M_thrown_s m 0) ok hn.1 hm with ⟨a, j, ha, hj, rfl, rfl, i1, i2⟩ | ⟨i1, i2⟩
  · have hle := ok.2.2.2.1 a ha
    have hr3 : 5 * a + j < 300 := by omega
    have v1 := (het _ hr3).1
    have v2 : M_isSeen m (5 * a + j) = nI (sn (5 * a + j)) := (hem _ hr3).1
    have hz : ∀ {α : Type} (k : Option α), ckz (nI (sn (5 * a + j))) k = k := by
      intro α k
      have := (hsd (5 * a + j)).1
      unfold ckz
      rw [if_pos]
      by_cases z : sn (5 * a + j) = 0
      · left; rw [z]; rfl
      · right; rw [show sn (5 * a + j) = 1 by omega]; rfl
    have hc : mL_unsee q n t o (nI a) (nI j) = some (0, T_isSeen_s t (upd (T_isSeen t) (5 * a + j) (nI 0)), vp_updL o (Int32.toNatClampNeg 0) (if nI (sn (5 * a + j)) = 0 then 0 else 1)) := by
      unfold mL_unsee mX4_unsee
      rw [i1, bi_s, zX_r, ck_nI (by omega) (by omega), ck_nI (by omega) (by omega), cl_n (by omega), v1, hz, Option.map_some, bi_s, zW_r, bool_0]
      by_cases z : nI (sn (5 * a + j)) = 0
      · rw [if_pos z, if_pos z, bi_s, ck_01]; rfl
      · rw [if_neg z, if_neg z, bi_s, ck_01]; rfl
    have hr' : mX5_unsee m (nI a) (nI j) = some (nI (sn (5 * a + j)), M_isSeen_s (M_thrown_s m 0) (upd (M_isSeen m) (5 * a + j) (nI 0))) := by
      unfold mX5_unsee
      rw [i2, bi_s, ti_0, bi_s, if_0, mu_5', ad_n, ck_nI (by omega) (by omega), ck_nI (by omega) (by omega), cl_n (by omega), bool_0]
      show ckz (M_isSeen m (5 * a + j)) (some (M_isSeen m (5 * a + j), _)) = _
      rw [v2, hz]
      rfl
    refine ⟨_, _, hc, hr', rfl, fun _ => out_0 o _, M, uN sn (5 * a + j) 0, sb, sd, ok, hn, hm, fun r => ?_, fun r hr => ?_, fun r hr => ?_, hfr⟩
    · by_cases e : r = 5 * a + j
      · subst e; rw [uN_s]; exact ⟨by omega, fun z => by omega⟩
      · rw [uN_n e]; exact hsd r
    · refine ⟨upd_u (fun e => (het r hr).1), fun z => ?_⟩
      by_cases e : r = 5 * a + j
      · subst e; rw [uN_s] at z; omega
      · rw [uN_n e] at z; exact (het r hr).2 z
    · refine ⟨upd_u (fun e => (hem r hr).1), fun z => ?_⟩
      by_cases e : r = 5 * a + j
      · subst e; rw [uN_s] at z; omega
      · rw [uN_n e] at z; exact (hem r hr).2 z
  · have hc : mL_unsee q n t o x1 x2 = some (1, t, o) := by
      unfold mL_unsee mX4_unsee
      rw [i1, bi_s, zX_l, bi_s, zW_l, if_pos rfl]
    have hr' : mX5_unsee m x1 x2 = some (0, M_thrown_s m 1) := by
      unfold mX5_unsee
      rw [i2, bi_s, ti_1, bi_s, if_1]
    exact ⟨_, _, hc, hr', rfl, fun z => absurd (show (1 : Int32) = 0 from z) (by decide), M, sn, sb, sd, ok, hn, hm, hsd, het, hem, hfr⟩
