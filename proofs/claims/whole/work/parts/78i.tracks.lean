/-! PURE: trace, unlike, count -/
def WI (M : MN) (S : PS) : Prop := ∀ a, a < gna M → ∀ r, r / 5 = a → (r < scu S a ∨ (r = scu S a ∧ 2 ≤ sph S a)) → sdn S r = sbg S r + gwo M r
theorem WI_tick {M : MN} {w : Nat} {S : PS} {u B : Nat} (ok : gOK M) (hG : GI M w S u B) (hW : WI M S) (hB : B + 1000 ≤ 900000000) (hN : smn (sdue S) (gna M) ≠ 1000000000) : WI M (stk M w (smn (sdue S) (gna M)) S) := by
  obtain ⟨t1, t2, t3, -, -⟩ := GI_tick ok hG hB hN
  generalize smn (sdue S) (gna M) = t at *
  have hS' := hG.1.mono (B' := B + 1000) (by omega)
  have ht : t + 1000 ≤ B + 1000 := by omega
  have ht2 : t < 1000000000 := by omega
  obtain ⟨i1, -, i3⟩ := sadv_at ok hS' ht ht2 (gna M) (Nat.le_refl _)
  have hT2 := TI_adv ok hS' ht ht2 t1 t3 hG.2.1
  have hW2 : WI M (sadv M t S (gna M)) := by
    intro a ha r hr hin
    obtain ⟨j1, j2, j3⟩ := i3 a ha
    rw [(j3 r hr).2.1, (j3 r hr).2.2]
    rw [j1, j2] at hin
    have hw := hW a ha r hr
    obtain ⟨g1, g2, g3, -⟩ := hS'.1 a ha
    rcases sone_cases (M := M) g3 ht2 with ⟨e, hne⟩ | ⟨h0, hc, e⟩ | ⟨h2, hdn, hl, e⟩ | ⟨h2, hdn, hl, hz, e⟩ | ⟨h2, hdn, hl, hz, e⟩
    · rw [e] at hin ⊢; exact hw hin
    · rw [e] at hin ⊢
      rw [sarr_ph, if_pos rfl] at hin
      refine hw ?_
      rcases hin with z | ⟨z, z2⟩
      · exact Or.inl z
      · omega
    · rw [e] at hin ⊢
      refine hw ?_
      rcases hin with z | ⟨z, z2⟩
      · exact Or.inl z
      · exact Or.inr ⟨z, by omega⟩
    · rw [e] at hin ⊢
      rw [sarr_ph, if_pos rfl] at hin
      have hu : scu (sarr a (snx M t a S)) a = scu S a + 1 := by show scu (snx M t a S) a = _; rw [snx_cu, if_pos rfl]
      rw [hu] at hin
      exact hw (by omega)
    · rw [e] at hin ⊢
      rw [snx_ph, if_pos rfl, snx_cu, if_pos rfl] at hin
      exact hw (by omega)
  unfold stk
  refine (sba_keep ok ht (fun S' => WI M S') (fun S' b a1 a2 a3 a4 a5 => ?_) i1 hT2 hW2 (gnp M) (Nat.le_refl _)).2.2
  intro a ha r hr hin
  obtain ⟨-, hdiv, -⟩ := a1.row ok a4
  rw [sbeg_bg, sbeg_dn]
  by_cases e : r = scu S' b
  · rw [if_pos e, if_pos e, e]
  · rw [if_neg e, if_neg e]
    refine a3 a ha r hr ?_
    have hin' : r < scu S' a ∨ (r = scu S' a ∧ 2 ≤ sph (sbeg M t b S') a) := hin
    rcases hin' with z | ⟨z, z2⟩
    · exact Or.inl z
    · rw [sbeg_ph] at z2
      by_cases e2 : a = b
      · subst e2; exact absurd z e
      · rw [if_neg e2] at z2; exact Or.inr ⟨z, z2⟩
theorem srn_WI {M : MN} {w : Nat} (ok : gOK M) : ∀ (d : Nat) (S : PS) (u B : Nat), GI M w S u B → WI M S → B + 1000 * d ≤ 900000000 → WI M (srn M w d S)
  | 0, S, u, B, hG, hW, hB => hW
  | d + 1, S, u, B, hG, hW, hB => by
    rw [srn]
    by_cases hN : smn (sdue S) (gna M) = 1000000000
    · rw [if_pos hN]; exact hW
    · rw [if_neg hN]
      have k0 : B + 1000 ≤ B + 1000 * (d + 1) := by clear hN hB; omega
      obtain ⟨-, -, -, g1, -⟩ := GI_tick ok hG (Nat.le_trans k0 hB) hN
      have e : B + 1000 + 1000 * d = B + 1000 * (d + 1) := by clear hB hN; omega
      exact srn_WI ok d _ _ _ g1 (WI_tick ok hG hW (Nat.le_trans k0 hB) hN) (by rw [e]; exact hB)
theorem edn_pos {M : MN} (ok : gOK M) (w : Nat) {r : Nat} (hv : gV M r) : ebg M w r < edn M w r := by
  have hW : WI M (sEnd M w) := srn_WI ok 600 (s0 M) 0 100000 (GI_0 ok w) (fun a ha r hr hin => by
    exfalso
    have hin' : r < 5 * a ∨ (r = 5 * a ∧ 2 ≤ 0) := hin
    omega) (by omega)
  have := hW _ hv.1 r rfl (sEnd_in ok w hv)
  have h1 := (ok.2.2.2.2 r hv).2.1
  unfold ebg edn
  omega
def gB (M : MN) (r : Nat) : Nat := if r / 5 < gna M ∧ r % 5 < gle M (r / 5) then 1 else 0
theorem gB_1 {M : MN} {r : Nat} (h : gV M r) : gB M r = 1 := if_pos h
theorem gB_0 {M : MN} {r : Nat} (h : ¬ gV M r) : gB M r = 0 := if_neg h
theorem gB_v {M : MN} {r : Nat} (h : gB M r = 1) : gV M r := Classical.byContradiction (fun z => by rw [gB_0 z] at h; omega)
theorem gB_le (M : MN) (r : Nat) : gB M r ≤ 1 := by unfold gB; split <;> omega
theorem gB_out {M : MN} {r : Nat} (h : 5 * gna M ≤ r) : gB M r = 0 := gB_0 (fun z => by have := z.1; omega)
theorem mIsM {M : MN} {m : SM} (ok : gOK M) (hr : RM M m) {k : Nat} (hk : k < 300) : mX5_isStep m (nI k) = some (nI (gB M k)) := by
  have h60 := ok.2.1
  unfold mX5_isStep
  rw [hr.2.1, re_5 (by omega), di_5 (by omega)]
  by_cases h1 : k / 5 < gna M
  · have hl := ok.2.2.2.1 _ h1
    rw [if_neg (by rw [le_n (by omega) (by omega)]; omega), ck_nI (by omega) (by omega), cl_n (by omega), (hr.2.2.2.1 _ h1).2.2]
    by_cases h2 : k % 5 < gle M (k / 5)
    · rw [if_neg (by rw [le_n (by omega) (by omega)]; omega), gB_1 ⟨h1, h2⟩]; rfl
    · rw [if_pos (by rw [le_n (by omega) (by omega)]; omega), gB_0 (fun z => h2 z.2)]; rfl
  · rw [if_pos (by rw [le_n (by omega) (by omega)]; omega), gB_0 (fun z => h1 z.1)]; rfl
theorem mIsN {M : MN} {n : SN} (ok : gOK M) (hn : LN M n) {k : Nat} (hk : k < 300) : mX1_isStep n (nI k) = some (nI (gB M k)) := by
  unfold mX1_isStep
  rw [ck_nI hk (by omega), cl_n (by omega)]
  by_cases h : gV M k
  · have := (ok.2.2.2.2 k h).1
    have h5 := ok.1
    rw [(hn.1.2.2.2.2 k h).1, if_neg (by rw [ne_n1 (by omega)]; exact not_false), gB_1 h]; rfl
  · rw [hn.2.2.1 k hk h, if_pos rfl, gB_0 h]; rfl
theorem mEndR {M : MN} {n : SN} (hn : RN M n) : mX1_rowsEnd n = some (nI (5 * gna M)) := by
  unfold mX1_rowsEnd
  rw [hn.2.1, mu_5, Nat.mul_comm]
def ft (M : MN) (x y : Nat → Nat) (i r : Nat) : Nat := if r < i ∧ gB M r = 1 then y r else x r
theorem ft_1 {M : MN} {x y : Nat → Nat} {i : Nat} (h : gB M i = 1) : ft M x y (i + 1) = uN (ft M x y i) i (y i) := by
  funext r
  unfold ft uN
  by_cases e : r = i
  · subst e; rw [if_pos ⟨by omega, h⟩, if_pos rfl]
  · rw [if_neg e]
    show (if r < i + 1 ∧ gB M r = 1 then y r else x r) = if r < i ∧ gB M r = 1 then y r else x r
    by_cases c : r < i ∧ gB M r = 1
    · rw [if_pos c, if_pos ⟨by omega, c.2⟩]
    · rw [if_neg c, if_neg (fun z => c ⟨by omega, z.2⟩)]
theorem ft_0 {M : MN} {x y : Nat → Nat} {i : Nat} (h : ¬ gB M i = 1) : ft M x y (i + 1) = ft M x y i := by
  funext r
  unfold ft
  by_cases c : r < i ∧ gB M r = 1
  · rw [if_pos c, if_pos ⟨by omega, c.2⟩]
  · rw [if_neg c, if_neg]
    rintro ⟨z1, z2⟩
    by_cases e : r = i
    · subst e; exact h z2
    · exact c ⟨by omega, z2⟩
theorem ft_z {M : MN} {x y : Nat → Nat} : ft M x y 0 = x := by
  funext r
  unfold ft
  rw [if_neg (by omega)]
theorem ft_top {M : MN} {x y : Nat → Nat} (h : 5 * gna M ≤ 300) : ft M x y 300 = ft M x y (5 * gna M) := by
  funext r
  unfold ft
  by_cases c : r < 5 * gna M ∧ gB M r = 1
  · rw [if_pos c, if_pos ⟨by omega, c.2⟩]
  · rw [if_neg c, if_neg]
    rintro ⟨z1, z2⟩
    apply c
    refine ⟨?_, z2⟩
    apply Classical.byContradiction
    intro z
    rw [gB_out (by omega)] at z2
    omega
theorem mTrC {M : MN} {n : SN} {t : ST} {p : SP} {sn sb sd : Nat → Nat} (ok : gOK M) (hn : LN M n) (hp : PE M 5 p) (het : ET sn sb sd t) : ∃ t', lpX4_trace_6 n p qFU 0 t = some t' ∧ ET (ft M sn (fun _ => 1) 300) (ft M sb (ebg M 5) 300) (ft M sd (edn M 5) 300) t' := by
  have h60 := ok.2.1
  have key := lpx (F := fun k i (x : ST) => lpX4_trace_6 n p k (nI i) x) (G := fun x => some x) (fun i x => ET (ft M sn (fun _ => 1) i) (ft M sb (ebg M 5) i) (ft M sd (edn M 5) i) x) (5 * gna M)
    (fun k s hs => by
      show lpX4_trace_6 n p (k + 1) (nI (5 * gna M)) s = some s
      rw [lpX4_trace_6, mEndR hn.1, bi_s, if_pos (by rw [le_n (by omega) (by omega)]; omega)])
    (fun k i s hi hs => by
      show ∃ s', ET (ft M sn (fun _ => 1) (i + 1)) (ft M sb (ebg M 5) (i + 1)) (ft M sd (edn M 5) (i + 1)) s' ∧ lpX4_trace_6 n p (k + 1) (nI i) s = lpX4_trace_6 n p k (nI (i + 1)) s'
      have hi3 : i < 300 := by omega
      rw [lpX4_trace_6, mEndR hn.1, bi_s, if_neg (by rw [le_n (by omega) (by omega)]; omega), mIsN ok hn hi3, bi_s, ad_1]
      by_cases h : gB M i = 1
      · have hv := gB_v h
        rw [h, if_neg (show ¬ nI 1 = 0 by decide), ck_nI hi3 (by omega), ck_nI hi3 (by omega), cl_n (by omega), (hp i hv).2.1, (hp i hv).2.2]
        unfold mX3_tell
        rw [ck_nI hi3 (by omega), ck_nI hi3 (by omega), ck_nI hi3 (by omega), cl_n (by omega), bool_1, bi_s, ft_1 h, ft_1 h, ft_1 h]
        exact ⟨_, ET_tell hs, rfl⟩
      · have h0 : gB M i = 0 := by have := gB_le M i; omega
        rw [h0, if_pos (show nI 0 = 0 from rfl), ft_0 h, ft_0 h, ft_0 h]
        exact ⟨s, hs, rfl⟩)
    (5 * gna M) qFU 0 t (by omega) (by unfold qFU; omega) (by rw [ft_z, ft_z, ft_z]; exact het)
  obtain ⟨s', h1, h2⟩ := key
  rw [ft_top (by omega), ft_top (by omega), ft_top (by omega)]
  exact ⟨s', h2, h1⟩
theorem mTrM {M : MN} {m : SM} {sn sb sd : Nat → Nat} (ok : gOK M) (hr : RM M m) (hp : PM M 5 m) (hem : EM sn sb sd m) : ∃ m', lpX5_trace_13 qFU 0 m = some m' ∧ RM M m' ∧ EM (ft M sn (fun _ => 1) 300) (ft M sb (ebg M 5) 300) (ft M sd (edn M 5) 300) m' := by
  have key := lpx (F := fun k i (x : SM) => lpX5_trace_13 k (nI i) x) (G := fun x => some x) (fun i x => RM M x ∧ PM M 5 x ∧ EM (ft M sn (fun _ => 1) i) (ft M sb (ebg M 5) i) (ft M sd (edn M 5) i) x) 300
    (fun k s hs => by
      show lpX5_trace_13 (k + 1) (nI 300) s = some s
      rw [lpX5_trace_13, if_pos (by decide)])
    (fun k i s hi hs => by
      show ∃ s', (RM M s' ∧ PM M 5 s' ∧ EM (ft M sn (fun _ => 1) (i + 1)) (ft M sb (ebg M 5) (i + 1)) (ft M sd (edn M 5) (i + 1)) s') ∧ lpX5_trace_13 (k + 1) (nI i) s = lpX5_trace_13 k (nI (i + 1)) s'
      obtain ⟨s1, s2, s3⟩ := hs
      rw [lpX5_trace_13, if_neg (by rw [show (300 : Int32) = nI 300 from rfl, le_n (by omega) (by omega)]; omega), mIsM ok s1 hi, bi_s, ad_1]
      by_cases h : gB M i = 1
      · have hv := gB_v h
        rw [h, if_neg (show ¬ nI 1 = 0 by decide), ck_nI hi (by omega), ck_nI hi (by omega), ck_nI hi (by omega), ck_nI hi (by omega), ck_nI hi (by omega), cl_n (by omega), (s2 i hv).2.1, (s2 i hv).2.2, bool_1, ft_1 h, ft_1 h, ft_1 h]
        refine ⟨(M_seenDone_s (M_seenBegun_s (M_isSeen_s s (upd (M_isSeen s) i 1)) (upd (M_seenBegun s) i (nI (ebg M 5 i)))) (upd (M_seenDone s) i (nI (edn M 5 i)))), ⟨s1, s2, ?_⟩, rfl⟩
        exact EM_tell s3
      · have h0 : gB M i = 0 := by have := gB_le M i; omega
        rw [h0, if_pos (show nI 0 = 0 from rfl), ft_0 h, ft_0 h, ft_0 h]
        exact ⟨s, ⟨s1, s2, s3⟩, rfl⟩)
    300 qFU 0 m (by omega) (by unfold qFU; omega) ⟨hr, hp, by rw [ft_z, ft_z, ft_z]; exact hem⟩
  obtain ⟨s', ⟨h1, -, h3⟩, h2⟩ := key
  exact ⟨s', h2, h1, h3⟩
theorem mStA {M : MN} {m : SM} (ok : gOK M) (hr : RM M m) : mX5_stepsOfAll m = some (nI (cg (gle M) (gna M))) := by
  have h60 := ok.2.1
  unfold mX5_stepsOfAll
  have key := lpx (F := fun k i (x : Int32) => lpX5_stepsOfAll_4 m k x (nI i)) (G := fun x => some x) (fun i x => x = nI (cg (gle M) i)) (gna M)
    (fun k s hs => by
      show lpX5_stepsOfAll_4 m (k + 1) s (nI (gna M)) = some s
      rw [lpX5_stepsOfAll_4, hr.2.1, if_pos (by rw [le_n (by omega) (by omega)]; omega)])
    (fun k i s hi hs => by
      show ∃ s', s' = nI (cg (gle M) (i + 1)) ∧ lpX5_stepsOfAll_4 m (k + 1) s (nI i) = lpX5_stepsOfAll_4 m k s' (nI (i + 1))
      rw [lpX5_stepsOfAll_4, hr.2.1, if_neg (by rw [le_n (by omega) (by omega)]; omega), ck_nI (by omega) (by omega), cl_n (by omega), (hr.2.2.2.1 i hi).2.2, hs, ad_n, ad_1, cg]
      exact ⟨_, rfl, rfl⟩)
    (gna M) qFU 0 0 (by omega) (by unfold qFU; omega) rfl
  obtain ⟨s', h1, h2⟩ := key
  have h2' : lpX5_stepsOfAll_4 m qFU 0 0 = some s' := h2
  rw [h2', bi_s, h1]
theorem op_trace {q : Int32} {n : SN} {t : ST} {p : SP} {m : SM} (hI : LI q n t p m) : ∃ a b, mX4_trace q n t p = some a ∧ mX5_trace m = some b ∧ a.1 = b.1 ∧ LI a.2.1 n a.2.2.1 a.2.2.2 b.2 := by
  obtain ⟨M, sn, sb, sd, ok, hn, hm, hsd, het, hem, hfr⟩ := hI
  obtain ⟨p', f1, f2⟩ := mRefresh ok hn.1 hfr
  obtain ⟨t', f3, f4⟩ := mTrC ok hn f2 het
  obtain ⟨m1, g1, g2, g3⟩ := mPlaysE ok (hm.th 0) (hx5 ok)
  obtain ⟨m2, k1, k2, k3⟩ := mTrM ok ((hm.th 0).keep g2) g3 ((hem.th 0).keep g2)
  unfold mX4_trace mX5_trace
  rw [f1, bi_s, f3, bi_s, g1, bi_s, k1, bi_s, mStA ok k2, bi_s]
  refine ⟨_, _, rfl, rfl, hn.2.2.2, M, _, _, _, ok, hn, k2, fun r => ?_, f4, k3, Or.inr ⟨rfl, f2⟩⟩
  unfold ft
  by_cases c : r < 300 ∧ gB M r = 1
  · rw [if_pos c, if_pos c, if_pos c]
    have hv := gB_v c.2
    have := (edn_b ok 5 hv).2.2
    exact ⟨Nat.le_refl _, fun _ => ⟨hv, edn_pos ok 5 hv, by omega⟩⟩
  · rw [if_neg c, if_neg c, if_neg c]
    exact hsd r
/-! counts over rows -/
theorem cg_ext {M : MN} {f : Nat → Nat} (h : ∀ r, 5 * gna M ≤ r → f r = 0) : ∀ n, cg f (5 * gna M + n) = cg f (5 * gna M)
  | 0 => rfl
  | n + 1 => by
    rw [show 5 * gna M + (n + 1) = 5 * gna M + n + 1 from rfl, cg, cg_ext h n, h _ (by omega)]
    rfl
theorem cg_300 {M : MN} (ok : gOK M) {f : Nat → Nat} (h : ∀ r, 5 * gna M ≤ r → f r = 0) : cg f 300 = cg f (5 * gna M) := by
  have := ok.2.1
  have e := cg_ext h (300 - 5 * gna M)
  rw [show 5 * gna M + (300 - 5 * gna M) = 300 by omega] at e
  exact e
theorem sn_out {M : MN} {sn sb sd : Nat → Nat} (h : SD M sn sb sd) {r : Nat} (hr : 5 * gna M ≤ r) : sn r = 0 := by
  have h1 := (h r).1
  have h2 := fun z => ((h r).2 z).1.1
  apply Classical.byContradiction
  intro z
  have := h2 (by omega)
  omega
def ful (M : MN) (sn sb sd : Nat → Nat) (r : Nat) : Nat := if sn r = 1 ∧ ¬ (sb r = ebg M 5 r ∧ sd r = edn M 5 r) then 1 else 0
theorem mUnC {M : MN} {n : SN} {t : ST} {p : SP} {sn sb sd : Nat → Nat} (ok : gOK M) (hn : RN M n) (hsd : SD M sn sb sd) (hp : PE M 5 p) (het : ET sn sb sd t) : lpX4_unlike_8 n t p qFU 0 0 = some (nI (cg (ful M sn sb sd) (5 * gna M))) := by
  have h60 := ok.2.1
  have key := lpx (F := fun k i (x : Int32) => lpX4_unlike_8 n t p k x (nI i)) (G := fun x => some x) (fun i x => x = nI (cg (ful M sn sb sd) i)) (5 * gna M)
    (fun k s hs => by
      show lpX4_unlike_8 n t p (k + 1) s (nI (5 * gna M)) = some s
      rw [lpX4_unlike_8, mEndR hn, bi_s, if_pos (by rw [le_n (by omega) (by omega)]; omega)])
    (fun k i s hi hs => by
      show ∃ s', s' = nI (cg (ful M sn sb sd) (i + 1)) ∧ lpX4_unlike_8 n t p (k + 1) s (nI i) = lpX4_unlike_8 n t p k s' (nI (i + 1))
      have hi3 : i < 300 := by omega
      obtain ⟨d1, d2⟩ := hsd i
      obtain ⟨v1, v2⟩ := het i hi3
      rw [lpX4_unlike_8, mEndR hn, bi_s, if_neg (by rw [le_n (by omega) (by omega)]; omega), cl_n (by omega), v1, ad_1, hs, ad_1, cg]
      simp only [ckr (j := i) (n := 300) hi3 (by omega)]
      by_cases h : sn i = 1
      · obtain ⟨hv, hlt, hle⟩ := d2 h
        obtain ⟨e1, e2⟩ := v2 h
        have hb := edn_b ok 5 hv
        rw [h, if_neg (show ¬ nI 1 = 0 by decide), e1, e2, (hp i hv).2.1, (hp i hv).2.2]
        by_cases c1 : sb i = ebg M 5 i
        · rw [if_pos (by rw [c1])]
          by_cases c2 : sd i = edn M 5 i
          · rw [if_pos (by rw [c2])]
            refine ⟨_, ?_, rfl⟩
            unfold ful
            rw [if_neg (fun z => z.2 ⟨c1, c2⟩)]
            rfl
          · rw [if_neg (by rw [eq_n (by omega) (by omega)]; exact c2)]
            refine ⟨_, ?_, rfl⟩
            unfold ful
            rw [if_pos ⟨h, fun z => c2 z.2⟩]
        · rw [if_neg (by rw [eq_n (by omega) (by omega)]; exact c1)]
          refine ⟨_, ?_, rfl⟩
          unfold ful
          rw [if_pos ⟨h, fun z => c1 z.1⟩]
      · have h0 : sn i = 0 := by omega
        rw [h0, if_pos (show nI 0 = 0 from rfl)]
        refine ⟨_, ?_, rfl⟩
        unfold ful
        rw [if_neg (fun z => h z.1)]
        rfl)
    (5 * gna M) qFU 0 0 (by omega) (by unfold qFU; omega) rfl
  obtain ⟨s', h1, h2⟩ := key
  have h2' : lpX4_unlike_8 n t p qFU 0 0 = some s' := h2
  rw [h2', h1]
theorem mUnM {M : MN} {m : SM} {sn sb sd : Nat → Nat} (ok : gOK M) (hr : RM M m) (hsd : SD M sn sb sd) (hp : PM M 5 m) (hem : EM sn sb sd m) : lpX5_unlike_15 m qFU 0 0 = some (nI (cg (ful M sn sb sd) 300)) := by
  have key := lpx (F := fun k i (x : Int32) => lpX5_unlike_15 m k x (nI i)) (G := fun x => some x) (fun i x => x = nI (cg (ful M sn sb sd) i)) 300
    (fun k s hs => by
      show lpX5_unlike_15 m (k + 1) s (nI 300) = some s
      rw [lpX5_unlike_15, if_pos (by decide)])
    (fun k i s hi hs => by
      show ∃ s', s' = nI (cg (ful M sn sb sd) (i + 1)) ∧ lpX5_unlike_15 m (k + 1) s (nI i) = lpX5_unlike_15 m k s' (nI (i + 1))
      obtain ⟨d1, d2⟩ := hsd i
      obtain ⟨v1, v2⟩ := hem i hi
      have e : (if nI (gB M i) = 0 then some 0 else ck (nI i) 300 (if M_isSeen m i = 0 then some 0 else ck (nI i) 300 (ck (nI i) 300 (if M_seenBegun m i = M_begun m i then ck (nI i) 300 (ck (nI i) 300 (if M_seenDone m i = M_done m i then some 0 else some 1)) else some 1)))) = some (nI (ful M sn sb sd i)) := by
        simp only [ckr (j := i) (n := 300) hi (by omega)]
        rw [v1]
        by_cases h : sn i = 1
        · obtain ⟨hv, hlt, hle⟩ := d2 h
          obtain ⟨e1, e2⟩ := v2 h
          have hb := edn_b ok 5 hv
          rw [gB_1 hv, h, if_neg (show ¬ nI 1 = 0 by decide), if_neg (show ¬ nI 1 = 0 by decide), e1, e2, (hp i hv).2.1, (hp i hv).2.2]
          unfold ful
          by_cases c1 : sb i = ebg M 5 i
          · rw [if_pos (show nI (sb i) = nI (ebg M 5 i) by rw [c1])]
            by_cases c2 : sd i = edn M 5 i
            · rw [if_pos (show nI (sd i) = nI (edn M 5 i) by rw [c2]), if_neg (fun z => z.2 ⟨c1, c2⟩)]; rfl
            · rw [if_neg (by rw [eq_n (by omega) (by omega)]; exact c2), if_pos ⟨h, fun z => c2 z.2⟩]; rfl
          · rw [if_neg (by rw [eq_n (by omega) (by omega)]; exact c1), if_pos ⟨h, fun z => c1 z.1⟩]; rfl
        · have h0 : sn i = 0 := by omega
          unfold ful
          rw [h0, if_pos (c := nI 0 = 0) rfl, if_neg (c := _ ∧ _) (fun z => by omega)]
          split <;> rfl
      rw [lpX5_unlike_15, if_neg (by rw [show (300 : Int32) = nI 300 from rfl, le_n (by omega) (by omega)]; omega), mIsM ok hr hi, bi_s, cl_n (by omega), e, bi_s, hs, ad_n, ad_1, cg]
      exact ⟨_, rfl, rfl⟩)
    300 qFU 0 0 (by omega) (by unfold qFU; omega) rfl
  obtain ⟨s', h1, h2⟩ := key
  have h2' : lpX5_unlike_15 m qFU 0 0 = some s' := h2
  rw [h2', h1]
theorem op_unlike {q : Int32} {n : SN} {t : ST} {p : SP} {m : SM} (hI : LI q n t p m) : ∃ a b, mX4_unlike q n t p = some a ∧ mX5_unlike m = some b ∧ a.1 = b.1 ∧ LI a.2.1 n t a.2.2 b.2 := by
  obtain ⟨M, sn, sb, sd, ok, hn, hm, hsd, het, hem, hfr⟩ := hI
  obtain ⟨p', f1, f2⟩ := mRefresh ok hn.1 hfr
  obtain ⟨m1, g1, g2, g3⟩ := mPlaysE ok (hm.th 0) (hx5 ok)
  have hr1 := (hm.th 0).keep g2
  have he1 := (hem.th 0).keep g2
  have hz : cg (ful M sn sb sd) 300 = cg (ful M sn sb sd) (5 * gna M) := cg_300 ok (fun r hr => by
    unfold ful
    rw [if_neg (fun z => by have := sn_out hsd hr; omega)])
  unfold mX4_unlike mX5_unlike
  rw [f1, bi_s, mUnC ok hn.1 hsd f2 het, bi_s, g1, bi_s, mUnM ok hr1 hsd g3 he1, bi_s, hz]
  exact ⟨_, _, rfl, rfl, rfl, M, sn, sb, sd, ok, hn, hr1, hsd, het, he1, Or.inr ⟨rfl, f2⟩⟩
theorem mSiz {M : MN} {n : SN} {t : ST} {sn sb sd : Nat → Nat} (ok : gOK M) (hn : RN M n) (hsd : SD M sn sb sd) (het : ET sn sb sd t) : mX3_size t n = some (nI (cg sn (5 * gna M))) := by
  have h60 := ok.2.1
  unfold mX3_size
  have key := lpx (F := fun k i (x : Int32) => lpX3_size_4 t n k x (nI i)) (G := fun x => some x) (fun i x => x = nI (cg sn i)) (5 * gna M)
    (fun k s hs => by
      show lpX3_size_4 t n (k + 1) s (nI (5 * gna M)) = some s
      rw [lpX3_size_4, mEndR hn, bi_s, if_pos (by rw [le_n (by omega) (by omega)]; omega)])
    (fun k i s hi hs => by
      show ∃ s', s' = nI (cg sn (i + 1)) ∧ lpX3_size_4 t n (k + 1) s (nI i) = lpX3_size_4 t n k s' (nI (i + 1))
      have hi3 : i < 300 := by omega
      have d1 := (hsd i).1
      rw [lpX3_size_4, mEndR hn, bi_s, if_neg (by rw [le_n (by omega) (by omega)]; omega), ck_nI hi3 (by omega), cl_n (by omega), (het i hi3).1, ad_1, hs, ad_1, cg]
      by_cases h : sn i = 1
      · rw [h, if_neg (show ¬ nI 1 = 0 by decide)]; exact ⟨_, rfl, rfl⟩
      · have h0 : sn i = 0 := by omega
        rw [h0, if_pos (show nI 0 = 0 from rfl)]; exact ⟨_, rfl, rfl⟩)
    (5 * gna M) qFU 0 0 (by omega) (by unfold qFU; omega) rfl
  obtain ⟨s', h1, h2⟩ := key
  have h2' : lpX3_size_4 t n qFU 0 0 = some s' := h2
  rw [h2', bi_s, h1]
theorem mCnt3 {M : MN} {m : SM} {sn sb sd : Nat → Nat} (ok : gOK M) (hr : RM M m) (hsd : SD M sn sb sd) (hem : EM sn sb sd m) : lpX5_count_61 m qFU 0 0 = some (nI (cg sn 300)) := by
  have key := lpx (F := fun k i (x : Int32) => lpX5_count_61 m k x (nI i)) (G := fun x => some x) (fun i x => x = nI (cg sn i)) 300
    (fun k s hs => by
      show lpX5_count_61 m (k + 1) s (nI 300) = some s
      rw [lpX5_count_61, if_pos (by decide)])
    (fun k i s hi hs => by
      show ∃ s', s' = nI (cg sn (i + 1)) ∧ lpX5_count_61 m (k + 1) s (nI i) = lpX5_count_61 m k s' (nI (i + 1))
      obtain ⟨d1, d2⟩ := hsd i
      have e : (if nI (gB M i) = 0 then some 0 else ck (nI i) 300 (if M_isSeen m i = 0 then some 0 else some 1)) = some (nI (sn i)) := by
        rw [ck_nI hi (by omega), (hem i hi).1]
        by_cases h : sn i = 1
        · rw [gB_1 (d2 h).1, h, if_neg (show ¬ nI 1 = 0 by decide), if_neg (show ¬ nI 1 = 0 by decide)]; rfl
        · have h0 : sn i = 0 := by omega
          rw [h0, if_pos (c := nI 0 = 0) rfl]
          split <;> rfl
      rw [lpX5_count_61, if_neg (by rw [show (300 : Int32) = nI 300 from rfl, le_n (by omega) (by omega)]; omega), mIsM ok hr hi, bi_s, cl_n (by omega), e, bi_s, hs, ad_n, ad_1, cg]
      exact ⟨_, rfl, rfl⟩)
    300 qFU 0 0 (by omega) (by unfold qFU; omega) rfl
  obtain ⟨s', h1, h2⟩ := key
  have h2' : lpX5_count_61 m qFU 0 0 = some s' := h2
  rw [h2', h1]
theorem mEnd {M : MN} {n : SN} {p : SP} (ok : gOK M) (hn : RN M n) (hp : PE M 5 p) : mX2_end p n = some (nI (eend M 5 (gna M))) := by
  have h60 := ok.2.1
  unfold mX2_end
  have key := lpx (F := fun k i (x : Int32) => lpX2_end_4 p n k x (nI i)) (G := fun x => some x) (fun i x => x = nI (eend M 5 i)) (gna M)
    (fun k s hs => by
      show lpX2_end_4 p n (k + 1) s (nI (gna M)) = some s
      rw [lpX2_end_4, hn.2.1, if_pos (by rw [le_n (by omega) (by omega)]; omega)])
    (fun k i s hi hs => by
      show ∃ s', s' = nI (eend M 5 (i + 1)) ∧ lpX2_end_4 p n (k + 1) s (nI i) = lpX2_end_4 p n k s' (nI (i + 1))
      have hl := ok.2.2.2.1 i hi
      have hv := gV_last ok hi
      have hb := (edn_b ok 5 hv).2.2
      have hb2 : eend M 5 i ≤ 700000 := eend_le i (fun a ha => (edn_b ok 5 (gV_last ok (by omega))).2.2)
      rw [lpX2_end_4, hn.2.1, if_neg (by rw [le_n (by omega) (by omega)]; omega), mLast ok hn hi, bi_s, ck_nI (by omega) (by omega), cl_n (by omega), (hp _ hv).2.2, hs, ma_n (by omega) (by omega), ad_1, eend]
      exact ⟨_, rfl, rfl⟩)
    (gna M) qFU 0 0 (by omega) (by unfold qFU; omega) rfl
  obtain ⟨s', h1, h2⟩ := key
  have h2' : lpX2_end_4 p n qFU 0 0 = some s' := h2
  rw [h2', bi_s, h1]
theorem op_count {q : Int32} {n : SN} {t : ST} {p : SP} {m : SM} (hI : LI q n t p m) (x1 : Int32) : ∃ a b, mX4_count q n t p x1 = some a ∧ mX5_count m x1 = some b ∧ a.1 = b.1 ∧ LI a.2.1 n t a.2.2 b.2 := by
  obtain ⟨M, sn, sb, sd, ok, hn, hm, hsd, het, hem, hfr⟩ := hI
  have hL : LI q n t p (M_thrown_s m 0) := ⟨M, sn, sb, sd, ok, hn, hm, hsd, het, hem, hfr⟩
  unfold mX4_count mX5_count
  by_cases h : Int32.toInt x1 < 0 ∨ 4 < Int32.toInt x1
  · rw [if_pos h, if_pos h]
    exact ⟨_, _, rfl, rfl, rfl, hL⟩
  · rw [if_neg h, if_neg h]
    by_cases h0 : x1 = 0
    · rw [if_pos h0, if_pos h0]
      exact ⟨_, _, rfl, rfl, by rw [hn.1.1, hm.1], hL⟩
    · rw [if_neg h0, if_neg h0]
      by_cases h1 : x1 = 1
      · rw [if_pos h1, if_pos h1]
        exact ⟨_, _, rfl, rfl, by rw [hn.1.2.1, hm.2.1], hL⟩
      · rw [if_neg h1, if_neg h1]
        by_cases h2 : x1 = 2
        · rw [if_pos h2, if_pos h2, mStA ok (hm.th 0), bi_s]
          exact ⟨_, _, rfl, rfl, hn.2.2.2, hL⟩
        · rw [if_neg h2, if_neg h2]
          by_cases h3 : x1 = 3
          · rw [if_pos h3, if_pos h3, mSiz ok hn.1 hsd het, bi_s, mCnt3 ok (hm.th 0) hsd (hem.th 0), bi_s, cg_300 ok (fun r hr => sn_out hsd hr)]
            exact ⟨_, _, rfl, rfl, rfl, hL⟩
          · rw [if_neg h3, if_neg h3]
            have h4 : x1 = 4 := by
              have hz : ¬ x1 < 0 := by rw [Int32.lt_iff_toInt_lt]; have : (0 : Int32).toInt = 0 := rfl; omega
              obtain ⟨j, hj, rfl⟩ := nI_of hz
              rw [nI_toInt hj] at h
              obtain z | z | z | z | z : j = 0 ∨ j = 1 ∨ j = 2 ∨ j = 3 ∨ j = 4 := by omega
              · subst z; exact absurd rfl h0
              · subst z; exact absurd rfl h1
              · subst z; exact absurd rfl h2
              · subst z; exact absurd rfl h3
              · subst z; rfl
            rw [if_pos h4, if_pos h4]
            obtain ⟨p', f1, f2⟩ := mRefresh ok hn.1 hfr
            obtain ⟨m1, g1, g2, g3⟩ := mPlaysE ok (hm.th 0) (hx5 ok)
            rw [f1, bi_s, mEnd ok hn.1 f2, bi_s, g1, bi_s]
            exact ⟨_, _, rfl, rfl, rfl, M, sn, sb, sd, ok, hn, (hm.th 0).keep g2, hsd, het, (hem.th 0).keep g2, Or.inr ⟨rfl, f2⟩⟩
