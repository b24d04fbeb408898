/-! PURE: the reference's search of helpers and a rule -/
theorem gwh_iff {M : MN} {sn sd : Nat → Nat} {p : Nat} : ∀ n, gwh M sn sd p n = 1 ↔ ∀ r, r < n → gB M r = 1 → gpa M r = p → sn r = 1 ∧ gcm M sn sd r ≠ none
  | 0 => ⟨fun _ r h => absurd h (Nat.not_lt_zero _), fun _ => rfl⟩
  | n + 1 => by
    have ih := gwh_iff (M := M) (sn := sn) (sd := sd) (p := p) n
    rw [gwh]
    by_cases c : gB M n = 1 ∧ gpa M n = p
    · rw [if_pos c]
      by_cases d : gwh M sn sd p n = 1 ∧ sn n = 1 ∧ gcm M sn sd n ≠ none
      · rw [if_pos d]
        refine ⟨fun _ r hr h1 h2 => ?_, fun _ => rfl⟩
        by_cases e : r = n
        · subst e; exact d.2
        · exact ih.mp d.1 r (by omega) h1 h2
      · rw [if_neg d]
        refine ⟨fun z => by omega, fun z => ?_⟩
        exact absurd ⟨ih.mpr (fun r hr h1 h2 => z r (by omega) h1 h2), z n (by omega) c.1 c.2⟩ d
    · rw [if_neg c, ih]
      constructor
      · intro z r hr h1 h2
        by_cases e : r = n
        · subst e; exact absurd ⟨h1, h2⟩ c
        · exact z r (by omega) h1 h2
      · intro z r hr h1 h2
        exact z r (by omega) h1 h2
def gco (M : MN) (sn sd : Nat → Nat) (r : Nat) : Nat := (gcm M sn sd r).getD 0
def pwf (M : MN) (sb sd : Nat → Nat) (p k : Nat) : Nat := if gpa M k = p then sd k - sb k else 0
/-- place p is whole -/
def WH (M : MN) (sn sd : Nat → Nat) (p : Nat) : Prop := ∀ r, r < 300 → gV M r → gpa M r = p → gG M sn p r = 1 ∧ gcm M sn sd r = some (gco M sn sd r)
theorem WH_of {M : MN} {sn sd : Nat → Nat} {p : Nat} (h : gwh M sn sd p 300 = 1) : WH M sn sd p := by
  intro r hr hv hp
  obtain ⟨h1, h2⟩ := (gwh_iff 300).mp h r hr (gB_1 hv) hp
  refine ⟨gG_i ⟨h1, hp⟩, ?_⟩
  unfold gco
  cases hc : gcm M sn sd r with
  | none => exact absurd hc h2
  | some x => rfl
theorem HC_of {M : MN} {sn sb sd : Nat → Nat} {p : Nat} (ok : gOK M) (hsd : SD M sn sb sd) (hw : WH M sn sd p) : HC M sn sb sd (gco M sn sd) (pwf M sb sd p) p := by
  have h60 := ok.2.1
  refine ⟨fun k hk hg => ?_, fun k hv => ?_, fun k hk hg => ?_⟩
  · obtain ⟨g1, g2, g3⟩ := SDb hsd hg
    have gp := (gG_1 hg).2
    have e : pwf M sb sd p k = sd k - sb k := by unfold pwf; rw [if_pos gp]
    have hb := gcm_b ok hsd g1 (hw k hk g1 gp).2
    rw [e]
    exact ⟨g1, hb, by omega, by omega, g3⟩
  · unfold pwf
    by_cases c : gpa M k = p
    · rw [if_pos c]
      have := (SDb hsd (hw k (gV.lt ok hv) hv c).1).2.2
      omega
    · rw [if_neg c]; omega
  · have := gG_out (p := p) hsd (r := k) (by omega)
    omega
def gsm (M : MN) (p : Nat) : Nat → Nat
  | 0 => 0
  | n + 1 => if gB M n = 1 ∧ gpa M n = p then 1 else gsm M p n
theorem gsm_le (M : MN) (p : Nat) : ∀ n, gsm M p n ≤ 1
  | 0 => by rw [gsm]; omega
  | n + 1 => by
    have := gsm_le M p n
    rw [gsm]
    split <;> omega
theorem gsm_iff {M : MN} {p : Nat} : ∀ n, gsm M p n = 1 ↔ ∃ r, r < n ∧ gB M r = 1 ∧ gpa M r = p
  | 0 => ⟨fun h => by rw [gsm] at h; omega, fun ⟨r, h, _⟩ => absurd h (Nat.not_lt_zero _)⟩
  | n + 1 => by
    have ih := gsm_iff (M := M) (p := p) n
    rw [gsm]
    by_cases c : gB M n = 1 ∧ gpa M n = p
    · rw [if_pos c]
      exact ⟨fun _ => ⟨n, by omega, c⟩, fun _ => rfl⟩
    · rw [if_neg c, ih]
      constructor
      · rintro ⟨r, hr, h⟩; exact ⟨r, by omega, h⟩
      · rintro ⟨r, hr, h⟩
        by_cases e : r = n
        · subst e; exact absurd h c
        · exact ⟨r, by omega, h⟩
theorem mIsW {M : MN} {m : SM} {sn sb sd : Nat → Nat} (ok : gOK M) (hr : RM M m) (hsd : SD M sn sb sd) (hem : EM sn sb sd m) {p : Nat} (hp : p < gnp M) : mX5_isWhole m (nI p) = some (if gwh M sn sd p 300 = 1 ∧ gsm M p 300 = 1 then 1 else 0) := by
  have h5 := ok.1
  unfold mX5_isWhole
  have key := lpx (F := fun k i (x : Int32 × Int32) => lpX5_isWhole_7 m (nI p) k x.1 x.2 (nI i)) (G := fun x => some x) (fun i x => x.1 = nI (gwh M sn sd p i) ∧ x.2 = nI (gsm M p i)) 300
    (fun k s hs => by
      show lpX5_isWhole_7 m (nI p) (k + 1) s.1 s.2 (nI 300) = some s
      rw [lpX5_isWhole_7, if_pos (by decide)])
    (fun k i s hi hs => by
      show ∃ s' : Int32 × Int32, (s'.1 = nI (gwh M sn sd p (i + 1)) ∧ s'.2 = nI (gsm M p (i + 1))) ∧ lpX5_isWhole_7 m (nI p) (k + 1) s.1 s.2 (nI i) = lpX5_isWhole_7 m (nI p) k s'.1 s'.2 (nI (i + 1))
      obtain ⟨s1, s2⟩ := hs
      rw [lpX5_isWhole_7, if_neg (by rw [show (300 : Int32) = nI 300 from rfl, le_n (by omega) (by omega)]; omega), mIsM ok hr hi, bi_s, cl_n (j := i) (by omega), ad_1 i, ck_nI hi (by omega), ck_nI hi (by omega), (hem i hi).1]
      by_cases hv : gV M i
      · have hpl := (ok.2.2.2.2 i hv).1
        rw [gB_1 hv, if_neg (c := nI 1 = 0) (by decide), (hr.2.2.2.2 i hv).1]
        by_cases c : gpa M i = p
        · have cc : gB M i = 1 ∧ gpa M i = p := ⟨gB_1 hv, c⟩
          have e : (if s.1 = 0 then some (0 : Int32) else if nI (sn i) = 0 then some 0 else (mX5_seenCame m (nI i)).bind fun o43 => if o43 < 0 then some 0 else some 1) = some (nI (gwh M sn sd p (i + 1))) := by
            rw [s1, mSeenC ok hr hsd hem hv, bi_s]
            by_cases g : gwh M sn sd p i = 1
            · rw [g, if_neg (show ¬ nI 1 = 0 by decide)]
              rcases sn01 hsd i with h | h
              · have e : gwh M sn sd p (i + 1) = 0 := by rw [gwh, if_pos cc, if_neg (fun z => by omega)]
                rw [e, h, if_pos (show nI 0 = 0 from rfl)]
                rfl
              · rw [h, if_neg (show ¬ nI 1 = 0 by decide)]
                cases hc : gcm M sn sd i with
                | none =>
                  have e : gwh M sn sd p (i + 1) = 0 := by rw [gwh, if_pos cc, if_neg (fun z => z.2.2 hc)]
                  rw [e, if_pos (show eo none < 0 by decide)]
                  rfl
                | some x =>
                  have hb := gcm_b ok hsd hv hc
                  have e : gwh M sn sd p (i + 1) = 1 := by rw [gwh, if_pos cc, if_pos ⟨g, h, by rw [hc]; intro z; cases z⟩]
                  rw [e, if_neg (show ¬ eo (some x) < 0 by show ¬ nI x < 0; rw [lt_0n (by omega)]; exact not_false)]
                  rfl
            · have g0 : gwh M sn sd p i = 0 := by have := gwh_le M sn sd p i; omega
              have e : gwh M sn sd p (i + 1) = 0 := by rw [gwh, if_pos cc, if_neg (fun z => g z.1)]
              rw [e, g0, if_pos (show nI 0 = 0 from rfl)]
              rfl
          rw [if_pos (by rw [c]), e, bi_s]
          refine ⟨(nI (gwh M sn sd p (i + 1)), 1), ⟨rfl, ?_⟩, rfl⟩
          rw [gsm, if_pos cc]
          rfl
        · have cc : ¬ (gB M i = 1 ∧ gpa M i = p) := fun z => c z.2
          rw [if_neg (by rw [eq_n (by omega) (by omega)]; exact c), gwh, if_neg cc, gsm, if_neg cc]
          exact ⟨s, ⟨s1, s2⟩, rfl⟩
      · have cc : ¬ (gB M i = 1 ∧ gpa M i = p) := fun z => hv (gB_v z.1)
        rw [gB_0 hv, if_pos (c := nI 0 = 0) rfl, gwh, if_neg cc, gsm, if_neg cc]
        exact ⟨s, ⟨s1, s2⟩, rfl⟩)
    300 qFU 0 (1, 0) (by omega) (by unfold qFU; omega) ⟨rfl, rfl⟩
  obtain ⟨s', ⟨h1, h3⟩, h2⟩ := key
  have h2' : lpX5_isWhole_7 m (nI p) qFU 1 0 0 = some s' := h2
  have b1 := gwh_le M sn sd p 300
  have b2 := gsm_le M p 300
  rw [h2', bi_s, h1, h3]
  by_cases c1 : gwh M sn sd p 300 = 1
  · rw [c1, if_neg (show ¬ nI 1 = 0 by decide)]
    by_cases c2 : gsm M p 300 = 1
    · rw [c2, if_neg (show ¬ nI 1 = 0 by decide), if_pos ⟨rfl, rfl⟩]
    · rw [show gsm M p 300 = 0 by omega, if_pos (show nI 0 = 0 from rfl), if_neg (fun z => by omega)]
  · rw [show gwh M sn sd p 300 = 0 by omega, if_pos (show nI 0 = 0 from rfl), if_neg (fun z => by omega)]
theorem lpa7 {M : MN} {m : SM} {sn sb sd : Nat → Nat} (ok : gOK M) (hr : RM M m) (hsd : SD M sn sb sd) (hem : EM sn sb sd m) {p : Nat} (hp : p < gnp M) (hw : WH M sn sd p) (h0 : ∀ k, k < 300 → M_came m k = nI 2000000000) :
    ∃ m', lpX5_agrees_7 (nI p) qFU 0 m = some m' ∧ kp m' = kp m ∧ M_begun m' = M_begun m ∧ M_done m' = M_done m ∧ M_waits m' = M_waits m ∧ (∀ k, k < 300 → M_came m' k = nI (if gG M sn p k = 1 then gco M sn sd k else 2000000000)) ∧ (∀ k, k < 300 → gG M sn p k = 1 → M_pWork m' k = nI (sd k - sb k)) := by
  have h5 := ok.1
  have key := lpx (F := fun k i (z : SM) => lpX5_agrees_7 (nI p) k (nI i) z) (G := fun z => some z) (fun i z => kp z = kp m ∧ M_begun z = M_begun m ∧ M_done z = M_done m ∧ M_waits z = M_waits m ∧ (∀ k, k < 300 → M_came z k = nI (if k < i ∧ gG M sn p k = 1 then gco M sn sd k else 2000000000)) ∧ (∀ k, k < i → gG M sn p k = 1 → M_pWork z k = nI (sd k - sb k))) 300
    (fun k s hs => by
      show lpX5_agrees_7 (nI p) (k + 1) (nI 300) s = some s
      rw [lpX5_agrees_7, if_pos (by decide)])
    (fun k i s hi hs => by
      show ∃ s', _ ∧ lpX5_agrees_7 (nI p) (k + 1) (nI i) s = lpX5_agrees_7 (nI p) k (nI (i + 1)) s'
      obtain ⟨s1, s2, s3, s4, s5, s6⟩ := hs
      have hr1 := hr.keep s1
      have he1 := hem.keep s1
      rw [lpX5_agrees_7, if_neg (by rw [show (300 : Int32) = nI 300 from rfl, le_n (by omega) (by omega)]; omega), mIsM ok hr1 hi, bi_s, cl_n (j := i) (by omega), ad_1 i]
      simp only [ckr (j := i) (n := 300) hi (by omega)]
      by_cases g : gG M sn p i = 1
      · obtain ⟨hv, g2, g3⟩ := SDb hsd g
        obtain ⟨gs, gp⟩ := gG_1 g
        have hc := (hw i hi hv gp).2
        rw [gB_1 hv, if_neg (c := nI 1 = 0) (by decide), (hr1.2.2.2.2 i hv).1, if_pos (by rw [gp]), mSeenC ok hr1 hsd he1 hv, bi_s, hc, ((he1 i hi).2 gs).1, ((he1 i hi).2 gs).2, su_n (by omega), show eo (some (gco M sn sd i)) = nI (gco M sn sd i) from rfl]
        refine ⟨_, ⟨?_, ?_, ?_, ?_, fun k hk => ?_, fun k hk hg => ?_⟩, rfl⟩
        · exact s1
        · exact s2
        · exact s3
        · exact s4
        · show upd (M_came s) i (nI (gco M sn sd i)) k = _
          by_cases e : k = i
          · subst e
            rw [up_s, if_pos ⟨by omega, g⟩]
          · rw [up_n e, s5 k hk]
            by_cases d : k < i ∧ gG M sn p k = 1
            · rw [if_pos d, if_pos ⟨by omega, d.2⟩]
            · rw [if_neg d, if_neg (fun z => d ⟨by omega, z.2⟩)]
        · show upd (M_pWork s) i (nI (sd i - sb i)) k = _
          by_cases e : k = i
          · subst e
            rw [up_s]
          · rw [up_n e]
            exact s6 k (by omega) hg
      · have keep : ∃ s', (kp s' = kp m ∧ M_begun s' = M_begun m ∧ M_done s' = M_done m ∧ M_waits s' = M_waits m ∧ (∀ k, k < 300 → M_came s' k = nI (if k < i + 1 ∧ gG M sn p k = 1 then gco M sn sd k else 2000000000)) ∧ (∀ k, k < i + 1 → gG M sn p k = 1 → M_pWork s' k = nI (sd k - sb k))) ∧ lpX5_agrees_7 (nI p) k (nI (i + 1)) s = lpX5_agrees_7 (nI p) k (nI (i + 1)) s' := by
          refine ⟨s, ⟨s1, s2, s3, s4, fun k hk => ?_, fun k hk hg => ?_⟩, rfl⟩
          · rw [s5 k hk]
            by_cases d : k < i ∧ gG M sn p k = 1
            · rw [if_pos d, if_pos ⟨by omega, d.2⟩]
            · rw [if_neg d, if_neg (fun z => by
                by_cases e : k = i
                · subst e; exact g z.2
                · exact d ⟨by omega, z.2⟩)]
          · have e : k ≠ i := fun z => by subst z; exact g hg
            exact s6 k (by omega) hg
        by_cases hv : gV M i
        · have hpl := (ok.2.2.2.2 i hv).1
          rw [gB_1 hv, if_neg (c := nI 1 = 0) (by decide), (hr1.2.2.2.2 i hv).1, if_neg (by
            rw [eq_n (by omega) (by omega)]
            intro z
            exact g (hw i hi hv z).1)]
          exact keep
        · rw [gB_0 hv, if_pos (c := nI 0 = 0) rfl]
          exact keep)
    300 qFU 0 m (by omega) (by unfold qFU; omega) ⟨rfl, rfl, rfl, rfl, fun k hk => by
      rw [if_neg (fun z => absurd z.1 (Nat.not_lt_zero _))]
      exact h0 k hk, fun k hk => absurd hk (Nat.not_lt_zero _)⟩
  obtain ⟨s', ⟨s1, s2, s3, s4, s5, s6⟩, h2⟩ := key
  refine ⟨s', h2, s1, s2, s3, s4, fun k hk => ?_, s6⟩
  rw [s5 k hk]
  by_cases d : gG M sn p k = 1
  · rw [if_pos ⟨hk, d⟩, if_pos d]
  · rw [if_neg (fun z => d z.2), if_neg d]
theorem mAgrees {M : MN} {m : SM} {sn sb sd : Nat → Nat} (ok : gOK M) (hr : RM M m) (hsd : SD M sn sb sd) (hem : EM sn sb sd m) {p h r : Nat} (hp : p < gnp M) (hw : WH M sn sd p) (hh : 1 ≤ h) (hh8 : h ≤ 9) (hr3 : r ≤ 3) :
    ∃ m', kp m' = kp m ∧ ((gGood M sn sb sd (gco M sn sd) (pwf M sb sd p) p h r ∧ mX5_agrees m (nI p) (nI h) (nI r) = some (1, m')) ∨ (¬ gGood M sn sb sd (gco M sn sd) (pwf M sb sd p) p h r ∧ mX5_agrees m (nI p) (nI h) (nI r) = some (0, m'))) := by
  have hc := HC_of ok hsd hw
  unfold mX5_agrees
  obtain ⟨m1, a1, a2, a3, a4⟩ := mForgets m
  obtain ⟨m2, b1, b2, b3, b4, b5, b6, b7⟩ := lpa7 ok (hr.keep a2) hsd (hem.keep a2) hp hw (fun k hk => (a4 k hk).1)
  rw [a1, bi_s, b1, bi_s]
  have he : EP M (pwf M sb sd p) p ((fun k => if gG M sn p k = 1 then gco M sn sd k else 2000000000), (fun _ => 2000000000), (fun _ => 2000000000), (fun _ => 0)) m2 := by
    refine ⟨hr.keep (b2.trans a2), fun k hk => ?_, fun k hv hpk => ?_⟩
    · rw [b3, b4, b5]
      exact ⟨b6 k hk, (a4 k hk).2.1, (a4 k hk).2.2.1, (a4 k hk).2.2.2⟩
    · have hk := gV.lt ok hv
      rw [b7 k hk (hw k hk hv hpk).1]
      unfold pwf
      rw [if_pos hpk]
  have hS : SV M sn sb sd (gco M sn sd) (pwf M sb sd p) p h r ((fun k => if gG M sn p k = 1 then gco M sn sd k else 2000000000), (fun _ => 2000000000), (fun _ => 2000000000), (fun _ => 0)) 0 := by
    refine ⟨fun k hk hg => ⟨?_, Or.inr ⟨rfl, rfl, ?_⟩⟩, fun k hk hg => ⟨?_, rfl, rfl, rfl⟩, ?_⟩
    · show (if gG M sn p k = 1 then gco M sn sd k else 2000000000) = _
      rw [if_pos hg]
    · show 0 = _
      rw [if_neg (Nat.not_lt_zero _)]
    · show (if gG M sn p k = 1 then gco M sn sd k else 2000000000) = _
      rw [if_neg hg]
    · exact ⟨fun _ _ _ z => absurd z (Nat.not_lt_zero _), fun _ z => absurd z (Nat.not_lt_zero _), fun _ _ z => absurd z (Nat.not_lt_zero _), fun _ _ _ _ _ _ z => absurd z (Nat.not_lt_zero _)⟩
  obtain ⟨m3, c1, c2⟩ := ag_loop ok hsd hc hp hh hh8 hr3 qFU _ 0 m2 (by
    have := amf_le (M := M) (sn := sn) (c := gco M sn sd) (p := p) (u := 0) (R := ((fun k => if gG M sn p k = 1 then gco M sn sd k else 2000000000), (fun _ => 2000000000), (fun _ => 2000000000), (fun _ => 0))) 300
    unfold qFU
    omega) he (hem.keep (b2.trans a2)) hS (by omega)
  refine ⟨m3, c1.trans (b2.trans a2), ?_⟩
  rcases c2 with ⟨d1, d2⟩ | ⟨d1, d2⟩
  · have d2' : lpX5_agrees_82 (nI p) (nI h) (nI r) qFU (-1) m2 = some (1, m3) := d2
    rw [d2', bi_s]
    exact Or.inl ⟨d1, rfl⟩
  · have d2' : lpX5_agrees_82 (nI p) (nI h) (nI r) qFU (-1) m2 = some (0, m3) := d2
    rw [d2', bi_s]
    exact Or.inr ⟨d1, rfl⟩
theorem fo50 {M : MN} {sn sb sd : Nat → Nat} (ok : gOK M) (hsd : SD M sn sb sd) {p h : Nat} {x2 : Int32} (hp : p < gnp M) (hw : WH M sn sd p) (hh : 1 ≤ h) (hh8 : h ≤ 9) : ∀ (d k i : Nat) (m : SM), i + d = 4 → d < k → RM M m → EM sn sb sd m → (∀ r, r < i → ¬ gGood M sn sb sd (gco M sn sd) (pwf M sb sd p) p h r) →
    ∃ m', kp m' = kp m ∧ ((∃ r, r ≤ 3 ∧ gGood M sn sb sd (gco M sn sd) (pwf M sb sd p) p h r ∧ (∀ r', r' < r → ¬ gGood M sn sb sd (gco M sn sd) (pwf M sb sd p) p h r') ∧ lpX5_found_50 (nI p) x2 (nI h) k (nI i) m = some (Sum.inl (if x2 = 0 then nI h else nI r, m'))) ∨ ((∀ r, r ≤ 3 → ¬ gGood M sn sb sd (gco M sn sd) (pwf M sb sd p) p h r) ∧ lpX5_found_50 (nI p) x2 (nI h) k (nI i) m = some (Sum.inr m'))) := by
  intro d
  induction d with
  | zero =>
    intro k i m hi hk hr hem hb
    obtain ⟨k, rfl⟩ : ∃ j, k = j + 1 := ⟨k - 1, by omega⟩
    have e4 : i = 4 := by omega
    subst e4
    rw [lpX5_found_50, if_pos (by decide)]
    exact ⟨m, rfl, Or.inr ⟨fun r hr3 => hb r (by omega), rfl⟩⟩
  | succ d ih =>
    intro k i m hi hk hr hem hb
    obtain ⟨k, rfl⟩ : ∃ j, k = j + 1 := ⟨k - 1, by omega⟩
    obtain ⟨m1, a1, a2⟩ := mAgrees (h := h) (r := i) ok hr hsd hem hp hw hh hh8 (by omega)
    rw [lpX5_found_50, if_neg (by rw [show (4 : Int32) = nI 4 from rfl, le_n (by omega) (by omega)]; omega)]
    rcases a2 with ⟨g, e⟩ | ⟨g, e⟩
    · rw [e, bi_s]
      dsimp only
      rw [if_1]
      refine ⟨m1, a1, Or.inl ⟨i, by omega, g, hb, ?_⟩⟩
      by_cases z : x2 = 0
      · rw [if_pos z, if_pos z]
      · rw [if_neg z, if_neg z]
    · rw [e, bi_s]
      dsimp only
      rw [if_0, ad_1]
      obtain ⟨m2, b1, b2⟩ := ih k (i + 1) m1 (by omega) (by omega) (hr.keep a1) (hem.keep a1) (fun r hr => by
        by_cases z : r = i
        · subst z; exact g
        · exact hb r (by omega))
      exact ⟨m2, b1.trans a1, b2⟩
theorem fo41 {M : MN} {sn sb sd : Nat → Nat} (ok : gOK M) (hsd : SD M sn sb sd) {p : Nat} {x2 : Int32} (hp : p < gnp M) (hw : WH M sn sd p) : ∀ (d k i : Nat) (m : SM), i + d = 9 → d < k → 1 ≤ i → RM M m → EM sn sb sd m → (∀ h r, 1 ≤ h → h < i → r ≤ 3 → ¬ gGood M sn sb sd (gco M sn sd) (pwf M sb sd p) p h r) →
    ∃ m', kp m' = kp m ∧ ((∃ h r, 1 ≤ h ∧ h ≤ 8 ∧ r ≤ 3 ∧ gGood M sn sb sd (gco M sn sd) (pwf M sb sd p) p h r ∧ (∀ h' r', 1 ≤ h' → r' ≤ 3 → (h' < h ∨ (h' = h ∧ r' < r)) → ¬ gGood M sn sb sd (gco M sn sd) (pwf M sb sd p) p h' r') ∧ lpX5_found_41 (nI p) x2 k (nI i) m = some (Sum.inl (if x2 = 0 then nI h else nI r, m'))) ∨ ((∀ h r, 1 ≤ h → h ≤ 8 → r ≤ 3 → ¬ gGood M sn sb sd (gco M sn sd) (pwf M sb sd p) p h r) ∧ lpX5_found_41 (nI p) x2 k (nI i) m = some (Sum.inr m'))) := by
  intro d
  induction d with
  | zero =>
    intro k i m hi hk h1 hr hem hb
    obtain ⟨k, rfl⟩ : ∃ j, k = j + 1 := ⟨k - 1, by omega⟩
    have e9 : i = 9 := by omega
    subst e9
    rw [lpX5_found_41, if_pos (by decide)]
    exact ⟨m, rfl, Or.inr ⟨fun h r a b c => hb h r a (by omega) c, rfl⟩⟩
  | succ d ih =>
    intro k i m hi hk h1 hr hem hb
    obtain ⟨k, rfl⟩ : ∃ j, k = j + 1 := ⟨k - 1, by omega⟩
    obtain ⟨m1, a1, a2⟩ := fo50 (h := i) (x2 := x2) ok hsd hp hw h1 (by omega) 4 qFU 0 m (by omega) (by unfold qFU; omega) hr hem (fun r hr => absurd hr (Nat.not_lt_zero _))
    rw [lpX5_found_41, if_neg (by rw [show (9 : Int32) = nI 9 from rfl, le_n (by omega) (by omega)]; omega)]
    rcases a2 with ⟨r, r1, r2, r3, e⟩ | ⟨g, e⟩
    · have e' : lpX5_found_50 (nI p) x2 (nI i) qFU 0 m = some (Sum.inl (if x2 = 0 then nI i else nI r, m1)) := e
      rw [e', bi_s, zS_l]
      refine ⟨m1, a1, Or.inl ⟨i, r, h1, by omega, r1, r2, fun h' r' a b c => ?_, rfl⟩⟩
      rcases c with c | ⟨c, c2⟩
      · exact hb h' r' a c b
      · subst c; exact r3 r' c2
    · have e' : lpX5_found_50 (nI p) x2 (nI i) qFU 0 m = some (Sum.inr m1) := e
      rw [e', bi_s, zS_r, ad_1]
      obtain ⟨m2, b1, b2⟩ := ih k (i + 1) m1 (by omega) (by omega) (by omega) (hr.keep a1) (hem.keep a1) (fun h r a b c => by
        by_cases z : h = i
        · subst z; exact g r c
        · exact hb h r a (by omega) c)
      exact ⟨m2, b1.trans a1, b2⟩
