/-! PURE: the reference's trial of helpers and a rule at one place -/
theorem lps {τ : Type} {F : Nat → Nat → Option τ} {X Y : Option τ} (P : Nat → Prop) (e : Nat) (hx : ∀ k, F (k + 1) e = Y) (hs : ∀ k i, i < e → (P i ∧ F (k + 1) i = X) ∨ (¬ P i ∧ F (k + 1) i = F k (i + 1))) :
    ∀ (d k i : Nat), i + d = e → d < k → ((∃ j, i ≤ j ∧ j < e ∧ P j) ∧ F k i = X) ∨ ((∀ j, i ≤ j → j < e → ¬ P j) ∧ F k i = Y) := by
  intro d
  induction d with
  | zero =>
    intro k i hi hk
    obtain ⟨k, rfl⟩ : ∃ j, k = j + 1 := ⟨k - 1, by omega⟩
    have : i = e := by omega
    subst this
    exact Or.inr ⟨fun j h1 h2 => by omega, hx k⟩
  | succ d ih =>
    intro k i hi hk
    obtain ⟨k, rfl⟩ : ∃ j, k = j + 1 := ⟨k - 1, by omega⟩
    rcases hs k i (by omega) with ⟨h1, h2⟩ | ⟨h1, h2⟩
    · exact Or.inl ⟨⟨i, Nat.le_refl _, by omega, h1⟩, h2⟩
    · rw [h2]
      rcases ih k (i + 1) (by omega) (by omega) with ⟨⟨j, j1, j2, j3⟩, g⟩ | ⟨g1, g2⟩
      · exact Or.inl ⟨⟨j, by omega, j2, j3⟩, g⟩
      · refine Or.inr ⟨fun j j1 j2 => ?_, g2⟩
        by_cases e2 : j = i
        · subst e2; exact h1
        · exact g1 j (by omega) j2
theorem lp174 {M : MN} {pw : Nat → Nat} {p : Nat} {R : QS} {m : SM} (ok : gOK M) (he : EP M pw p R m) (hq : QI M pw R) {t : Nat} (ht : t < 2000000000) : ∃ m', lpX5_agrees_174 (nI t) qFU 0 m = some m' ∧ kp m' = kp m ∧ EP M pw p (qR1 M t R) m' := by
  have h60 := ok.2.1
  have key := lpx (F := fun k i (z : SM) => lpX5_agrees_174 (nI t) k (nI i) z) (G := fun z => some z) (fun i z => kp z = kp m ∧ M_came z = M_came m ∧ M_begun z = M_begun m ∧ M_done z = M_done m ∧ M_pWork z = M_pWork m ∧ ∀ k, k < 300 → M_waits z k = nI (if k < i ∧ qcm R k = t then 1 else qwt R k)) (5 * gna M)
    (fun k s hs => by
      show lpX5_agrees_174 (nI t) (k + 1) (nI (5 * gna M)) s = some s
      rw [lpX5_agrees_174, (he.1.keep hs.1).2.1, mu_5', if_pos (by rw [le_n (by omega) (by omega)]; omega)])
    (fun k i s hi hs => by
      show ∃ s', _ ∧ lpX5_agrees_174 (nI t) (k + 1) (nI i) s = lpX5_agrees_174 (nI t) k (nI (i + 1)) s'
      obtain ⟨s1, s2, s3, s4, s5, s6⟩ := hs
      have hi3 : i < 300 := by omega
      have hb := (hq.1 i hi3).1
      rw [lpX5_agrees_174, (he.1.keep s1).2.1, mu_5', if_neg (by rw [le_n (by omega) (by omega)]; omega), ck_nI hi3 (by omega), ck_nI hi3 (by omega), cl_n (j := i) (by omega), ad_1 i, s2, (he.2.1 i hi3).1, bool_1]
      by_cases c : qcm R i = t
      · rw [if_pos (by rw [c])]
        refine ⟨M_waits_s s (upd (M_waits s) i 1), ⟨s1, s2, s3, s4, s5, fun k hk => ?_⟩, rfl⟩
        show upd (M_waits s) i 1 k = _
        by_cases e : k = i
        · subst e
          rw [up_s, if_pos ⟨by omega, c⟩]
          rfl
        · rw [up_n e, s6 k hk]
          by_cases d : k < i ∧ qcm R k = t
          · rw [if_pos d, if_pos ⟨by omega, d.2⟩]
          · rw [if_neg d, if_neg (fun z => d ⟨by omega, z.2⟩)]
      · rw [if_neg (by rw [eq_n (by omega) (by omega)]; exact c)]
        refine ⟨s, ⟨s1, s2, s3, s4, s5, fun k hk => ?_⟩, rfl⟩
        rw [s6 k hk]
        by_cases d : k < i ∧ qcm R k = t
        · rw [if_pos d, if_pos ⟨by omega, d.2⟩]
        · rw [if_neg d, if_neg (fun z => by
            by_cases e : k = i
            · subst e; exact c z.2
            · exact d ⟨by omega, z.2⟩)])
    (5 * gna M) qFU 0 m (by omega) (by unfold qFU; omega) ⟨rfl, rfl, rfl, rfl, rfl, fun k hk => by
      rw [if_neg (fun z => absurd z.1 (Nat.not_lt_zero _))]
      exact (he.2.1 k hk).2.2.2⟩
  obtain ⟨s', ⟨s1, s2, s3, s4, s5, s6⟩, h2⟩ := key
  refine ⟨s', h2, s1, he.1.keep s1, fun k hk => ?_, fun k hv hp => by rw [s5]; exact he.2.2 k hv hp⟩
  obtain ⟨c1, c2, c3, c4⟩ := he.2.1 k hk
  rw [s2, s3, s4]
  exact ⟨c1, c2, c3, s6 k hk⟩
theorem lp223 {M : MN} {pw sn sb sd : Nat → Nat} {p : Nat} {R : QS} {m : SM} (ok : gOK M) (hsd : SD M sn sb sd) (hem : EM sn sb sd m) (he : EP M pw p R m) {t : Nat} (ht : t < 2000000000) (h0 : ∀ k, k < 300 → qbg R k ≤ 2000000000 ∧ (qbg R k = t → gG M sn p k = 1)) :
    ((∃ k, k < 5 * gna M ∧ qbg R k = t ∧ sb k ≠ t) ∧ lpX5_agrees_223 m (nI t) qFU 0 = some (Sum.inl (0, m))) ∨ ((∀ k, k < 5 * gna M → qbg R k = t → sb k = t) ∧ lpX5_agrees_223 m (nI t) qFU 0 = some (Sum.inr ())) := by
  have h60 := ok.2.1
  have key := lps (F := fun q i => lpX5_agrees_223 m (nI t) q (nI i)) (X := some (Sum.inl (0, m))) (Y := some (Sum.inr ())) (fun k => qbg R k = t ∧ sb k ≠ t) (5 * gna M)
    (fun k => by
      show lpX5_agrees_223 m (nI t) (k + 1) (nI (5 * gna M)) = _
      rw [lpX5_agrees_223, he.1.2.1, mu_5', if_pos (by rw [le_n (by omega) (by omega)]; omega)])
    (fun k i hi => by
      show (_ ∧ lpX5_agrees_223 m (nI t) (k + 1) (nI i) = _) ∨ (_ ∧ lpX5_agrees_223 m (nI t) (k + 1) (nI i) = lpX5_agrees_223 m (nI t) k (nI (i + 1)))
      have hi3 : i < 300 := by omega
      obtain ⟨b1, b2⟩ := h0 i hi3
      rw [lpX5_agrees_223, he.1.2.1, mu_5', if_neg (by rw [le_n (by omega) (by omega)]; omega), ck_nI hi3 (by omega), ck_nI hi3 (by omega), cl_n (j := i) (by omega), ad_1 i, (he.2.1 i hi3).2.1]
      by_cases c : qbg R i = t
      · have hg := b2 c
        obtain ⟨g1, g2, g3⟩ := SDb hsd hg
        rw [if_pos (by rw [c]), ((hem i hi3).2 (gG_1 hg).1).1]
        by_cases d : sb i = t
        · right
          rw [if_pos (by rw [d])]
          exact ⟨fun z => z.2 d, rfl⟩
        · left
          rw [if_neg (by rw [eq_n (by omega) (by omega)]; exact d)]
          exact ⟨⟨c, d⟩, rfl⟩
      · right
        rw [if_neg (by rw [eq_n (by omega) (by omega)]; exact c)]
        exact ⟨fun z => c z.1, rfl⟩)
    (5 * gna M) qFU 0 (by omega) (by unfold qFU; omega)
  rcases key with ⟨⟨k, -, k2, k3⟩, h⟩ | ⟨h1, h⟩
  · exact Or.inl ⟨⟨k, k2, k3⟩, h⟩
  · refine Or.inr ⟨fun k hk hb => ?_, h⟩
    apply Classical.byContradiction
    intro z
    exact h1 k (Nat.zero_le _) hk ⟨hb, z⟩
/-- comings and ends that lie ahead -/
def amf (M : MN) (sn c : Nat → Nat) (p : Nat) (R : QS) (u k : Nat) : Nat := (if gG M sn p k = 1 ∧ u ≤ c k then 1 else 0) + (if gG M sn p k = 1 ∧ u ≤ qdn R k then 1 else 0)
theorem amf_le {M : MN} {sn c : Nat → Nat} {p u : Nat} {R : QS} : ∀ n, cg (amf M sn c p R u) n ≤ 2 * n
  | 0 => Nat.le_refl _
  | n + 1 => by
    have := amf_le (M := M) (sn := sn) (c := c) (p := p) (u := u) (R := R) n
    have h2 : amf M sn c p R u n ≤ 2 := by unfold amf; split <;> split <;> omega
    rw [cg]
    omega
theorem amf_lt {M : MN} {sn sb sd c pw : Nat → Nat} {p h r u t : Nat} {R R2 : QS} (ok : gOK M) (hc : HC M sn sb sd c pw p) (hS : SV M sn sb sd c pw p h r R u) (ht : qsn R u (5 * gna M) = t) (ht2 : t < 2000000000) (hut : u ≤ t)
    (n1 : ∀ k, k < 300 → gG M sn p k = 1 → qcm R2 k = c k ∧ ((qbg R2 k = sb k ∧ sb k < u ∧ qdn R2 k = sd k ∧ qwt R2 k = 0 ∧ qdn R k = sd k) ∨ (qbg R2 k = t ∧ qdn R2 k = t + pw k ∧ qwt R2 k = 0 ∧ qdn R k = 2000000000) ∨ (qbg R2 k = 2000000000 ∧ qdn R2 k = 2000000000 ∧ qwt R2 k = (if c k < t + 1 then 1 else 0) ∧ qdn R k = 2000000000))) : cg (amf M sn c p R2 (t + 1)) 300 < cg (amf M sn c p R u) 300 := by
  have h60 := ok.2.1
  have hle : ∀ k, k < 300 → gG M sn p k = 1 → (t + 1 ≤ qdn R2 k → u ≤ qdn R k) := by
    intro k hk hg z
    rcases (n1 k hk hg).2 with y | y | y
    · omega
    · omega
    · omega
  have hpt : ∀ k, k < 300 → amf M sn c p R2 (t + 1) k ≤ amf M sn c p R u k := by
    intro k hk
    unfold amf
    by_cases g : gG M sn p k = 1
    · have := hle k hk g
      have e1 : (if gG M sn p k = 1 ∧ t + 1 ≤ c k then 1 else 0) ≤ (if gG M sn p k = 1 ∧ u ≤ c k then 1 else 0) := by
        by_cases z : t + 1 ≤ c k
        · rw [if_pos ⟨g, z⟩, if_pos ⟨g, by omega⟩]; exact Nat.le_refl _
        · rw [if_neg (fun y => z y.2)]; exact Nat.zero_le _
      have e2 : (if gG M sn p k = 1 ∧ t + 1 ≤ qdn R2 k then 1 else 0) ≤ (if gG M sn p k = 1 ∧ u ≤ qdn R k then 1 else 0) := by
        by_cases z : t + 1 ≤ qdn R2 k
        · rw [if_pos ⟨g, z⟩, if_pos ⟨g, this z⟩]; exact Nat.le_refl _
        · rw [if_neg (fun y => z y.2)]; exact Nat.zero_le _
      exact Nat.add_le_add e1 e2
    · rw [if_neg (fun z => g z.1), if_neg (fun z => g z.1)]
      exact Nat.zero_le _
  obtain ⟨k, k1, k2⟩ := qsn_hit (R := R) (u := u) (5 * gna M) (by omega)
  rw [ht] at k2
  have hk3 : k < 300 := by omega
  have g : gG M sn p k = 1 := by
    apply Classical.byContradiction
    intro z
    have := hS.2.1 k hk3 z
    omega
  refine cg_lt (i := k) hpt hk3 ?_
  have h1 := (hS.1 k hk3 g).1
  unfold amf
  rcases k2 with ⟨z1, z2⟩ | ⟨z1, z2⟩
  · rw [if_neg (c := gG M sn p k = 1 ∧ t + 1 ≤ c k) (fun y => by have := y.2; omega), if_pos (c := gG M sn p k = 1 ∧ u ≤ c k) ⟨g, by omega⟩]
    by_cases z : t + 1 ≤ qdn R2 k
    · rw [if_pos ⟨g, z⟩, if_pos ⟨g, hle k hk3 g z⟩]; omega
    · rw [if_neg (fun y => z y.2)]; omega
  · have hd2 : ¬ t + 1 ≤ qdn R2 k := by
      rcases (n1 k hk3 g).2 with y | y | y
      · omega
      · omega
      · omega
    rw [if_neg (c := gG M sn p k = 1 ∧ t + 1 ≤ qdn R2 k) (fun y => hd2 y.2), if_pos (c := gG M sn p k = 1 ∧ u ≤ qdn R k) ⟨g, z1⟩]
    by_cases z : t + 1 ≤ c k
    · rw [if_pos ⟨g, z⟩, if_pos ⟨g, by omega⟩]; omega
    · rw [if_neg (fun y => z y.2)]; omega
theorem ag_loop {M : MN} {sn sb sd c pw : Nat → Nat} {p h r : Nat} (ok : gOK M) (hsd : SD M sn sb sd) (hc : HC M sn sb sd c pw p) (hp : p < gnp M) (hh : 1 ≤ h) (hh8 : h ≤ 9) (hr : r ≤ 3) : ∀ (k : Nat) (R : QS) (u : Nat) (m : SM), cg (amf M sn c p R u) 300 < k → EP M pw p R m → EM sn sb sd m → SV M sn sb sd c pw p h r R u → u ≤ 10001001 →
    ∃ m', kp m' = kp m ∧ ((gGood M sn sb sd c pw p h r ∧ lpX5_agrees_82 (nI p) (nI h) (nI r) k (tk u) m = some (1, m')) ∨ (¬ gGood M sn sb sd c pw p h r ∧ lpX5_agrees_82 (nI p) (nI h) (nI r) k (tk u) m = some (0, m'))) := by
  have h60 := ok.2.1
  intro k
  induction k with
  | zero => intro R u m hk; omega
  | succ k ih =>
    intro R u m hk he hem hS hu
    have hq := QI_sv hc hS
    have hs := mSoonA ok he hq (u := u) (by omega)
    have hle := qsn_le R u (5 * gna M)
    rw [lpX5_agrees_82, hs, bi_s]
    by_cases hN : qsn R u (5 * gna M) = 2000000000
    · rw [hN, if_pos (show nI 2000000000 = 2000000000 from rfl)]
      exact ⟨m, rfl, Or.inl ⟨SV_end ok hc hS hh (by omega) hN, rfl⟩⟩
    · rw [if_neg (by rw [show (2000000000 : Int32) = nI 2000000000 from rfl, eq_n (by omega) (by omega)]; exact hN)]
      obtain ⟨t, ht⟩ : ∃ t, qsn R u (5 * gna M) = t := ⟨_, rfl⟩
      rw [ht] at hs hle hN ⊢
      have ht2 : t < 2000000000 := by omega
      obtain ⟨a1, a2, a3, a4, a5, a6, a7⟩ := SV_adv ok hc hS ht ht2
      obtain ⟨m1, b1, b2, b3⟩ := lp174 ok he hq ht2
      obtain ⟨m2, d1, d2, d3, d4⟩ := mBeginsp (h := h) (r := r) ok b3 a3 hp hr (by omega) hh8 a4
      rw [b1, bi_s, d1, bi_s]
      generalize hR2 : qbl M pw p r t (h - qby M (qR1 M t R) p t (5 * gna M)) (qR1 M t R) = R2 at *
      have hem2 : EM sn sb sd m2 := hem.keep (d4.trans b2)
      have hg : ∀ k, k < 300 → qbg R2 k ≤ 2000000000 ∧ (qbg R2 k = t → gG M sn p k = 1) := by
        intro k hk
        refine ⟨(d3.1 k hk).2.1, fun z => ?_⟩
        apply Classical.byContradiction
        intro y
        have := a6 k hk y
        omega
      have hlt := amf_lt ok hc hS ht ht2 a1 a5
      rcases lp223 ok hsd hem2 d2 ht2 hg with ⟨⟨j, j1, j2, j3⟩, e⟩ | ⟨e0, e⟩
      · rw [e, bi_s, zS_l]
        refine ⟨m2, d4.trans b2, Or.inr ⟨fun hG => j3 ?_, rfl⟩⟩
        have hj3 : j < 300 := by omega
        have hgj := (hg j hj3).2 j2
        have hu2 := GD_uniq a7 (hG (t + 1)) (fun i hi gi hb => by
            rcases (a5 i hi gi).2 with y | y | y
            · have := hc.1 i hi gi; omega
            · omega
            · omega) (fun i hi gi _ => (hc.1 i hi gi).2.2.2.1) (fun i hi gi => (hc.1 i hi gi).2.2.1) (t + 1) (Nat.le_refl _) j hj3 hgj
        have := hu2.2 (by omega)
        omega
      · rw [e, bi_s, zS_r, ← tk_s]
        obtain ⟨m', f1, f2⟩ := ih R2 (t + 1) m2 (by omega) d2 hem2 ⟨fun i hi gi => by
            obtain ⟨y0, y⟩ := a5 i hi gi
            refine ⟨y0, ?_⟩
            rcases y with y | y | y
            · left; exact ⟨y.1, by omega, y.2.2.1, y.2.2.2.1⟩
            · left
              have hi5 : i < 5 * gna M := by have := (hc.1 i hi gi).1.1; omega
              have hs := e0 i hi5 y.1
              have := (hc.1 i hi gi).2.2.2.1
              exact ⟨by omega, by omega, by omega, y.2.2.1⟩
            · right; exact ⟨y.1, y.2.1, y.2.2.1⟩, a6, a7⟩ (by omega)
        exact ⟨m', f1.trans (d4.trans b2), f2⟩
