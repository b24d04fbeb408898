/-! PURE: the whole play comes to rest with all asks gone; its rows as the reference holds them -/
def LT (M : MN) (S : PS) (u : Nat) : Prop := u = 0 ∨ ∃ a, a < gna M ∧ (sph S a = 3 → sdn S (scu S a) + 1 = u)
def GI (M : MN) (w : Nat) (S : PS) (u B : Nat) : Prop := SI M w S B ∧ TI M S u ∧ LV M w S ∧ LT M S u
theorem LT_one {M : MN} {w : Nat} {S : PS} {B t a : Nat} (h : SI M w S B) (ha : a < gna M) (ht2 : t < 1000000000) (hd : sdue S a = t) : sph (sone M t a S) a = 3 → sdn (sone M t a S) (scu (sone M t a S) a) + 1 = t + 1 := by
  obtain ⟨g1, g2, g3, -⟩ := h.1 a ha
  rcases sone_cases (M := M) g3 ht2 with ⟨e, hne⟩ | ⟨h0, hc, e⟩ | ⟨h2, hdn, hl, e⟩ | ⟨h2, hdn, hl, hz, e⟩ | ⟨h2, hdn, hl, hz, e⟩
  · exact absurd hd hne
  · rw [e, sarr_ph, if_pos rfl]; intro z; omega
  · rw [e]
    intro _
    show sdn S (scu S a) + 1 = t + 1
    omega
  · rw [e, sarr_ph, if_pos rfl]; intro z; omega
  · rw [e, snx_ph, if_pos rfl]; intro z; omega
theorem GI_tick {M : MN} {w : Nat} {S : PS} {u B : Nat} (ok : gOK M) (hG : GI M w S u B) (hB : B + 1000 ≤ 900000000) (hN : smn (sdue S) (gna M) ≠ 1000000000) :
    u ≤ smn (sdue S) (gna M) ∧ smn (sdue S) (gna M) ≤ B ∧ (∀ a, a < gna M → smn (sdue S) (gna M) ≤ sdue S a) ∧ GI M w (stk M w (smn (sdue S) (gna M)) S) (smn (sdue S) (gna M) + 1) (B + 1000) ∧ cg (mua S) (gna M) < cg (mua (stk M w (smn (sdue S) (gna M)) S)) (gna M) := by
  obtain ⟨hS, hT, hL, hLT⟩ := hG
  have hB2 : smn (sdue S) (gna M) ≤ B := (smn_le hS (gna M) (Nat.le_refl _)).resolve_left hN
  have hm := smn_min (sdue S) (gna M)
  have hlt : smn (sdue S) (gna M) < 1000000000 := by have := smn_top (sdue S) (gna M); omega
  have hh := smn_hit (sdue S) (gna M) hlt
  generalize smn (sdue S) (gna M) = t at *
  have hut : u ≤ t := by
    obtain ⟨a, ha, hd⟩ := hh
    obtain ⟨t1, t2, t3, t4, t5, t6⟩ := hT a ha
    unfold sdue at hd
    split at hd
    · rename_i z; have := t2 z; omega
    · split at hd
      · rename_i z; have := t5 z; omega
      · omega
  have hS' := hS.mono (B' := B + 1000) (by omega)
  have ht : t + 1000 ≤ B + 1000 := by omega
  have hT2 := TI_adv ok hS' ht hlt hut hm hT
  obtain ⟨i1, -, i3⟩ := sadv_at ok hS' ht hlt (gna M) (Nat.le_refl _)
  refine ⟨hut, hB2, hm, ?_, mua_tick ok hS' ht hlt hut hm hT hh⟩
  obtain ⟨a, ha, hd⟩ := hh
  have k1 : sph (sadv M t S (gna M)) a = 3 → sdn (sadv M t S (gna M)) (scu (sadv M t S (gna M)) a) + 1 = t + 1 := by
    obtain ⟨j1, j2, j3⟩ := i3 a ha
    have hr := ((SI_one ok hS' ha ht hlt).row ok ha).2.1
    rw [j1, j2, (j3 _ hr).2.2]
    exact LT_one hS' ha hlt hd
  obtain ⟨k2, k3, k4⟩ := sba_keep ok ht (fun S' => sph S' a = 3 → sdn S' (scu S' a) + 1 = t + 1) (fun S' b a1 a2 a3 a4 a5 => by
    rw [sbeg_ph, sbeg_dn]
    by_cases e : a = b
    · rw [if_pos e]; intro z; omega
    · rw [if_neg e]
      intro z
      have r1 := (a1.row ok ha).2.1
      have r2 := (a1.row ok a4).2.1
      rw [if_neg (by intro z; apply e; rw [← r1, ← r2]; exact congrArg (· / 5) z)]
      exact a3 z) i1 hT2 k1 (gnp M) (Nat.le_refl _)
  exact ⟨k2, k3, fun p hp hw => sba_live ok ht i1 hT2 (gnp M) (Nat.le_refl _) p hp hw, Or.inr ⟨a, ha, k4⟩⟩
theorem GI_0 {M : MN} (ok : gOK M) (w : Nat) : GI M w (s0 M) 0 100000 := by
  refine ⟨SI_0 ok w, fun a ha => ?_, fun p hp hw => ?_, Or.inl rfl⟩
  · have e1 : sph (s0 M) a = 0 := rfl
    have e2 : scu (s0 M) a = 5 * a := rfl
    unfold TA
    rw [e1, e2]
    exact ⟨fun r h1 h2 => by omega, fun _ => Nat.zero_le _, fun z => by omega, fun z => by omega, fun z => by omega, fun z => by omega⟩
  · rw [(cnt0 M p _).2] at hw
    omega
theorem mua_le {M : MN} {w : Nat} {S : PS} {B a : Nat} (ok : gOK M) (h : SI M w S B) (ha : a < gna M) : mua S a ≤ 10 ∧ (sph S a ≠ 3 → mua S a < 10) := by
  obtain ⟨g1, g2, g3, g4, -⟩ := h.1 a ha
  have := (ok.2.2.2.1 a ha).2.2.2
  unfold mua
  split
  · omega
  · split <;> omega
theorem rest_of {M : MN} {w : Nat} {S : PS} {B : Nat} (ok : gOK M) (h : SI M w S B) (hm : 600 ≤ cg (mua S) (gna M)) : smn (sdue S) (gna M) = 1000000000 := by
  apply Classical.byContradiction
  intro hN
  have hlt : smn (sdue S) (gna M) < 1000000000 := by have := smn_top (sdue S) (gna M); omega
  obtain ⟨a, ha, hd⟩ := smn_hit (sdue S) (gna M) hlt
  rw [← hd] at hlt
  have h3 : sph S a ≠ 3 := by
    intro z
    unfold sdue at hlt
    rw [if_neg (by omega), if_neg (by omega)] at hlt
    omega
  have k := cg_lt (f := mua S) (g := fun _ => 10) (i := a) (n := gna M) (fun b hb => (mua_le ok h hb).1) ha ((mua_le ok h ha).2 h3)
  rw [cg_ten] at k
  have := ok.2.1
  omega
theorem rest_gone {M : MN} {w : Nat} {S : PS} {u B : Nat} (ok : gOK M) (hG : GI M w S u B) (hB : B ≤ 900000000) (hN : smn (sdue S) (gna M) = 1000000000) {a : Nat} (ha : a < gna M) : sph S a = 3 := by
  obtain ⟨hS, hT, hL, -⟩ := hG
  have h02 : ∀ b, b < gna M → sph S b = 1 ∨ sph S b = 3 := by
    intro b hb
    have := smn_min (sdue S) (gna M) b hb
    rw [hN] at this
    obtain ⟨-, -, g3, -, g5, g6⟩ := hS.1 b hb
    unfold sdue at this
    by_cases z : sph S b = 0
    · rw [if_pos z] at this; have := g5 (by omega); omega
    · rw [if_neg z] at this
      by_cases z2 : sph S b = 2
      · rw [if_pos z2] at this; have := g6 (by omega); omega
      · omega
  rcases h02 a ha with h | h
  · exfalso
    obtain ⟨hv, -, -⟩ := hS.row ok ha
    have hp := (ok.2.2.2.2 _ hv).1
    have hw : 0 < swc M S (gpa M (scu S a)) (gna M) := by
      rw [swc_cg]
      exact cg_pos.mpr ⟨a, ha, by unfold wcf; rw [if_pos ⟨h, rfl⟩]; omega⟩
    have h1 := hL _ hp hw
    have h2 := (shw_le (w := w) ok hp).1
    have h3 : 0 < shc M S (gpa M (scu S a)) (gna M) := by omega
    rw [shc_cg] at h3
    obtain ⟨b, hb, hf⟩ := cg_pos.mp h3
    unfold hcf at hf
    split at hf
    · rename_i z; have := h02 b hb; omega
    · omega
  · exact h
theorem srn_GI {M : MN} {w : Nat} (ok : gOK M) : ∀ (d : Nat) (S : PS) (u B : Nat), GI M w S u B → B + 1000 * d ≤ 900000000 → 600 ≤ cg (mua S) (gna M) + d → ∃ u', GI M w (srn M w d S) u' (B + 1000 * d) ∧ smn (sdue (srn M w d S)) (gna M) = 1000000000
  | 0, S, u, B, hG, hB, hm => ⟨u, hG, rest_of ok hG.1 hm⟩
  | d + 1, S, u, B, hG, hB, hm => by
    rw [srn]
    by_cases hN : smn (sdue S) (gna M) = 1000000000
    · rw [if_pos hN]
      exact ⟨u, ⟨hG.1.mono (by omega), hG.2⟩, hN⟩
    · rw [if_neg hN]
      have k0 : B + 1000 ≤ B + 1000 * (d + 1) := by clear hN hB; omega
      obtain ⟨-, -, -, g1, g2⟩ := GI_tick ok hG (Nat.le_trans k0 hB) hN
      have e : B + 1000 + 1000 * d = B + 1000 * (d + 1) := by clear hB hN; omega
      obtain ⟨u', h1, h2⟩ := srn_GI ok d _ _ _ g1 (by rw [e]; exact hB) (by clear hB hN; omega)
      rw [e] at h1
      exact ⟨u', h1, h2⟩
theorem sEnd_GI {M : MN} (ok : gOK M) (w : Nat) : ∃ u, GI M w (sEnd M w) u 700000 ∧ smn (sdue (sEnd M w)) (gna M) = 1000000000 := srn_GI ok 600 (s0 M) 0 100000 (GI_0 ok w) (by omega) (by omega)
theorem sEnd_gone {M : MN} (ok : gOK M) (w : Nat) {a : Nat} (ha : a < gna M) : sph (sEnd M w) a = 3 ∧ scu (sEnd M w) a + 1 = 5 * a + gle M a := by
  obtain ⟨u, hG, hN⟩ := sEnd_GI ok w
  have h3 := rest_gone ok hG (by omega) hN ha
  exact ⟨h3, (hG.1.1 a ha).2.2.2.1 h3⟩
/-! the state's rows as the reference holds them -/
def xcm (M : MN) (S : PS) (k : Nat) : Nat := if k / 5 < gna M ∧ k ≤ scu S (k / 5) then scm S k else 2000000000
def xbg (M : MN) (S : PS) (k : Nat) : Nat := if k / 5 < gna M ∧ (k < scu S (k / 5) ∨ (k = scu S (k / 5) ∧ 2 ≤ sph S (k / 5))) then sbg S k else 2000000000
def xdn (M : MN) (S : PS) (k : Nat) : Nat := if k / 5 < gna M ∧ (k < scu S (k / 5) ∨ (k = scu S (k / 5) ∧ 2 ≤ sph S (k / 5))) then sdn S k else 2000000000
def xwt (M : MN) (S : PS) (k : Nat) : Nat := if k / 5 < gna M ∧ k = scu S (k / 5) ∧ sph S (k / 5) = 1 then 1 else 0
def xR (M : MN) (S : PS) : QS := (xcm M S, xbg M S, xdn M S, xwt M S)
theorem QI_x {M : MN} {w : Nat} {S : PS} {u B : Nat} (ok : gOK M) (hS : SI M w S B) (hT : TI M S u) (hB : B ≤ 900000000) (hu : u ≤ 900000000) : QI M (gwo M) (xR M S) := by
  refine ⟨fun k hk => ?_, fun k hv => by have := (ok.2.2.2.2 k hv).2.2; omega⟩
  show xcm M S k ≤ 2000000000 ∧ xbg M S k ≤ 2000000000 ∧ xdn M S k ≤ 2000000000 ∧ xwt M S k ≤ 1 ∧ (xwt M S k = 1 → gV M k ∧ xcm M S k ≤ 900000000) ∧ (¬ gV M k → xbg M S k = 2000000000)
  by_cases ha : k / 5 < gna M
  · obtain ⟨g1, g2, g3, g4, g5, g6⟩ := hS.1 _ ha
    obtain ⟨t1, t2, t3, t4, t5, t6⟩ := hT _ ha
    have hgv : k ≤ scu S (k / 5) → gV M k := fun z => ⟨ha, by omega⟩
    have hcm : k ≤ scu S (k / 5) → scm S k ≤ 900000000 := by
      intro z
      by_cases e : k = scu S (k / 5)
      · rw [e]
        by_cases h0 : sph S (k / 5) = 0
        · rw [← e]; have := g5 (by omega); rw [← e] at this; omega
        · rw [← e]; have := t3 (by omega); rw [← e] at this; omega
      · have := (t1 k rfl (by omega)).1; omega
    have hbd : (k < scu S (k / 5) ∨ (k = scu S (k / 5) ∧ 2 ≤ sph S (k / 5))) → sbg S k ≤ 900000000 ∧ sdn S k ≤ 900000000 := by
      rintro (z | ⟨z, z2⟩)
      · have := t1 k rfl z; omega
      · have h1 := t4 z2
        have h2 := g6 z2
        rw [← z] at h1 h2
        omega
    refine ⟨?_, ?_, ?_, ?_, ?_, ?_⟩
    · unfold xcm; split
      · rename_i z; have := hcm z.2; omega
      · omega
    · unfold xbg; split
      · rename_i z; have := hbd z.2; omega
      · omega
    · unfold xdn; split
      · rename_i z; have := hbd z.2; omega
      · omega
    · unfold xwt; split <;> omega
    · intro h
      have hk1 : k = scu S (k / 5) := by
        unfold xwt at h
        split at h
        · rename_i z; exact z.2.1
        · omega
      refine ⟨hgv (by omega), ?_⟩
      unfold xcm
      rw [if_pos ⟨ha, by omega⟩]
      exact hcm (by omega)
    · intro h
      unfold xbg
      rw [if_neg]
      rintro ⟨-, z⟩
      exact h (hgv (by omega))
  · have e1 : xcm M S k = 2000000000 := by unfold xcm; rw [if_neg (fun z => ha z.1)]
    have e2 : xbg M S k = 2000000000 := by unfold xbg; rw [if_neg (fun z => ha z.1)]
    have e3 : xdn M S k = 2000000000 := by unfold xdn; rw [if_neg (fun z => ha z.1)]
    have e4 : xwt M S k = 0 := by unfold xwt; rw [if_neg (fun z => ha z.1)]
    rw [e1, e2, e3, e4]
    exact ⟨by omega, by omega, by omega, by omega, fun z => by omega, fun _ => rfl⟩
theorem qkk_x {M : MN} {w : Nat} {S : PS} {B a p : Nat} (ok : gOK M) (hS : SI M w S B) (ha : a < gna M) : qkk M (gwo M) (xR M S) (gru M p) (scu S a) = srk M S p a := by
  obtain ⟨-, hdiv, -⟩ := hS.row ok ha
  unfold qkk
  rw [srk_q, hdiv]
  show qrk _ (xcm M S (scu S a)) _ _ = _
  unfold xcm
  rw [hdiv, if_pos ⟨ha, Nat.le_refl _⟩]
theorem qnx_no {M : MN} {pw : Nat → Nat} {R : QS} {p r n : Nat} (h : ¬ (qwt R n = 1 ∧ gpa M n = p)) : qnx M pw R p r (n + 1) = qnx M pw R p r n := by rw [qnx, if_neg h]
theorem qnx_nn {M : MN} {pw : Nat → Nat} {R : QS} {p r n : Nat} (h : qwt R n = 1 ∧ gpa M n = p) (h2 : qnx M pw R p r n = none) : qnx M pw R p r (n + 1) = some n := by rw [qnx, if_pos h, h2]
theorem qnx_sm {M : MN} {pw : Nat → Nat} {R : QS} {p r n b : Nat} (h : qwt R n = 1 ∧ gpa M n = p) (h2 : qnx M pw R p r n = some b) : qnx M pw R p r (n + 1) = if qkk M pw R r n < qkk M pw R r b then some n else some b := by rw [qnx, if_pos h, h2]
theorem qnx_x {M : MN} {w : Nat} {S : PS} {B p : Nat} (ok : gOK M) (hS : SI M w S B) : ∀ n, n ≤ gna M → qnx M (gwo M) (xR M S) p (gru M p) (5 * n) = (spk M S p n).map (scu S)
  | 0, _ => rfl
  | n + 1, hn => by
    have ih := qnx_x (p := p) ok hS n (by omega)
    have ha : n < gna M := by omega
    obtain ⟨g1, g2, -⟩ := hS.1 n ha
    have g5 := (ok.2.2.2.1 n ha).2.2.2
    have key : ∀ j, j ≤ 5 → qnx M (gwo M) (xR M S) p (gru M p) (5 * n + j) = if scu S n < 5 * n + j then (spk M S p (n + 1)).map (scu S) else (spk M S p n).map (scu S) := by
      intro j
      induction j with
      | zero => intro _; rw [if_neg (by omega)]; exact ih
      | succ j ihj =>
        intro hj
        have ihj := ihj (by omega)
        have hdiv : (5 * n + j) / 5 = n := by omega
        rw [show 5 * n + (j + 1) = 5 * n + j + 1 from rfl]
        by_cases e : 5 * n + j = scu S n
        · rw [if_neg (by omega)] at ihj
          rw [if_pos (c := scu S n < 5 * n + j + 1) (by omega)]
          by_cases c : sph S n = 1 ∧ gpa M (scu S n) = p
          · have hw : qwt (xR M S) (5 * n + j) = 1 ∧ gpa M (5 * n + j) = p := by
              refine ⟨?_, by rw [e]; exact c.2⟩
              show xwt M S (5 * n + j) = 1
              unfold xwt
              rw [hdiv, if_pos ⟨ha, e, c.1⟩]
            cases hs : spk M S p n with
            | none =>
              rw [qnx_nn hw (by rw [ihj, hs]; rfl), spk, if_pos c, hs]
              show some _ = some _
              rw [e]
            | some b =>
              have hb := spk_some hs
              rw [qnx_sm (b := scu S b) hw (by rw [ihj, hs]; rfl), spk, if_pos c, hs, e, qkk_x ok hS ha, qkk_x ok hS (by omega)]
              show (if srk M S p n < srk M S p b then some (scu S n) else some (scu S b)) = Option.map (scu S) (if srk M S p n < srk M S p b then some n else some b)
              split <;> rfl
          · rw [qnx_no (by
              rintro ⟨z1, z2⟩
              apply c
              refine ⟨?_, by rw [← e]; exact z2⟩
              have z1' : xwt M S (5 * n + j) = 1 := z1
              unfold xwt at z1'
              rw [hdiv] at z1'
              split at z1'
              · rename_i y; exact y.2.2
              · omega), ihj, spk, if_neg c]
        · rw [qnx_no (by
            rintro ⟨z1, z2⟩
            have z1' : xwt M S (5 * n + j) = 1 := z1
            unfold xwt at z1'
            rw [hdiv] at z1'
            split at z1'
            · rename_i y; exact e y.2.1
            · omega), ihj]
          by_cases c : scu S n < 5 * n + j
          · rw [if_pos c, if_pos (by omega)]
          · rw [if_neg c, if_neg (by omega)]
    have := key 5 (by omega)
    rw [if_pos (by omega)] at this
    exact this
theorem qby_1 {M : MN} {R : QS} {p t n : Nat} (h : gpa M n = p ∧ qbg R n ≤ t ∧ t < qdn R n ∧ qdn R n < 2000000000) : qby M R p t (n + 1) = qby M R p t n + 1 := by rw [qby, if_pos h]
theorem qby_0 {M : MN} {R : QS} {p t n : Nat} (h : ¬ (gpa M n = p ∧ qbg R n ≤ t ∧ t < qdn R n ∧ qdn R n < 2000000000)) : qby M R p t (n + 1) = qby M R p t n := by rw [qby, if_neg h]; rfl
theorem qby_x {M : MN} {w : Nat} {S : PS} {B p t : Nat} (ok : gOK M) (hS : SI M w S B) (hT : TI M S (t + 1)) (hB : B ≤ 900000000) (ht : t ≤ 900000000) : ∀ n, n ≤ gna M → qby M (xR M S) p t (5 * n) = shc M S p n
  | 0, _ => rfl
  | n + 1, hn => by
    have ih := qby_x (p := p) ok hS hT hB ht n (by omega)
    have ha : n < gna M := by omega
    obtain ⟨g1, g2, g3, g4, -, g6⟩ := hS.1 n ha
    have g5 := (ok.2.2.2.1 n ha).2.2.2
    obtain ⟨t1, t2, t3, t4, t5, t6⟩ := hT n ha
    have key : ∀ j, j ≤ 5 → qby M (xR M S) p t (5 * n + j) = if scu S n < 5 * n + j then shc M S p (n + 1) else shc M S p n := by
      intro j
      induction j with
      | zero => intro _; rw [if_neg (by omega)]; exact ih
      | succ j ihj =>
        intro hj
        have ihj := ihj (by omega)
        have hdiv : (5 * n + j) / 5 = n := by omega
        rw [show 5 * n + (j + 1) = 5 * n + j + 1 from rfl]
        by_cases hin : 5 * n + j < scu S n ∨ (5 * n + j = scu S n ∧ 2 ≤ sph S n)
        · have v1 : qbg (xR M S) (5 * n + j) = sbg S (5 * n + j) := by
            show xbg M S (5 * n + j) = _
            unfold xbg
            rw [hdiv, if_pos ⟨ha, hin⟩]
          have v2 : qdn (xR M S) (5 * n + j) = sdn S (5 * n + j) := by
            show xdn M S (5 * n + j) = _
            unfold xdn
            rw [hdiv, if_pos ⟨ha, hin⟩]
          by_cases e : 5 * n + j = scu S n
          · have c : 2 ≤ sph S n := by omega
            rw [if_neg (by omega)] at ihj
            rw [if_pos (c := scu S n < 5 * n + j + 1) (by omega), shc]
            have q1 := t4 c
            have q2 := g6 c
            by_cases c2 : sph S n = 2 ∧ gpa M (scu S n) = p
            · have q3 := t5 c2.1
              rw [qby_1 (by rw [v1, v2, e]; exact ⟨c2.2, by omega, by omega, by omega⟩), ihj, if_pos c2]
            · rw [qby_0 (by
                rw [v1, v2, e]
                rintro ⟨z1, z2, z3, z4⟩
                apply c2
                refine ⟨?_, z1⟩
                by_cases y : sph S n = 2
                · exact y
                · have := t6 (by omega); omega), ihj, if_neg c2]
              rfl
          · have q := t1 (5 * n + j) hdiv (by omega)
            rw [if_neg (by omega)] at ihj
            rw [qby_0 (by rw [v1, v2]; rintro ⟨-, -, z, -⟩; omega), ihj, if_neg (by omega)]
        · have v1 : qbg (xR M S) (5 * n + j) = 2000000000 := by
            show xbg M S (5 * n + j) = _
            unfold xbg
            rw [hdiv, if_neg (fun z => hin z.2)]
          rw [qby_0 (by rw [v1]; rintro ⟨-, z, -, -⟩; omega), ihj]
          by_cases e : 5 * n + j = scu S n
          · rw [if_neg (by omega), if_pos (by omega), shc, if_neg (by rintro ⟨z, -⟩; omega)]
            rfl
          · rw [if_pos (by omega), if_pos (by omega)]
    have := key 5 (by omega)
    rw [if_pos (by omega)] at this
    exact this
theorem qbe_x {M : MN} {w : Nat} {S : PS} {B b t : Nat} (ok : gOK M) (hS : SI M w S B) (hb : b < gna M) (h1 : sph S b = 1) : qbe (gwo M) t (scu S b) (xR M S) = xR M (sbeg M t b S) := by
  obtain ⟨-, hdiv, -⟩ := hS.row ok hb
  unfold qbe xR
  refine Prod.ext rfl (Prod.ext ?_ (Prod.ext ?_ ?_))
  · funext k
    show (if k = scu S b then t else xbg M S k) = xbg M (sbeg M t b S) k
    by_cases e : k = scu S b
    · unfold xbg
      have e2 : k / 5 = b := by rw [e, hdiv]
      rw [if_pos e, e2, sbeg_ph, if_pos rfl, if_pos ⟨hb, Or.inr ⟨e, Nat.le_refl 2⟩⟩, sbeg_bg, if_pos e]
    · rw [if_neg e]
      unfold xbg
      rw [sbeg_ph, sbeg_bg, if_neg e]
      by_cases e2 : k / 5 = b
      · rw [if_pos e2, e2]
        by_cases c : k < scu S b
        · rw [if_pos ⟨hb, Or.inl c⟩, if_pos ⟨hb, Or.inl c⟩]
        · rw [if_neg (by rintro ⟨-, z | ⟨z, -⟩⟩; exact c z; exact e z), if_neg (by rintro ⟨-, z | ⟨z, -⟩⟩; exact c z; exact e z)]
      · rw [if_neg e2]; rfl
  · funext k
    show (if k = scu S b then t + gwo M (scu S b) else xdn M S k) = xdn M (sbeg M t b S) k
    by_cases e : k = scu S b
    · unfold xdn
      have e2 : k / 5 = b := by rw [e, hdiv]
      rw [if_pos e, e2, sbeg_ph, if_pos rfl, if_pos ⟨hb, Or.inr ⟨e, Nat.le_refl 2⟩⟩, sbeg_dn, if_pos e]
    · rw [if_neg e]
      unfold xdn
      rw [sbeg_ph, sbeg_dn, if_neg e]
      by_cases e2 : k / 5 = b
      · rw [if_pos e2, e2]
        by_cases c : k < scu S b
        · rw [if_pos ⟨hb, Or.inl c⟩, if_pos ⟨hb, Or.inl c⟩]
        · rw [if_neg (by rintro ⟨-, z | ⟨z, -⟩⟩; exact c z; exact e z), if_neg (by rintro ⟨-, z | ⟨z, -⟩⟩; exact c z; exact e z)]
      · rw [if_neg e2]; rfl
  · funext k
    show (if k = scu S b then 0 else xwt M S k) = xwt M (sbeg M t b S) k
    unfold xwt
    rw [sbeg_ph]
    by_cases e : k = scu S b
    · have e2 : k / 5 = b := by rw [e, hdiv]
      rw [if_pos e, if_pos e2, if_neg (by rintro ⟨-, -, z⟩; omega)]
    · rw [if_neg e]
      by_cases e2 : k / 5 = b
      · rw [if_pos e2, e2, if_neg (by rintro ⟨-, z, -⟩; exact e z), if_neg (by rintro ⟨-, -, z⟩; omega)]
      · rw [if_neg e2]; rfl
theorem qbl_x {M : MN} {w : Nat} {B p t : Nat} (ok : gOK M) (ht : t + 1000 ≤ B) (hp : p < gnp M) : ∀ (k : Nat) (S : PS), SI M w S B → TI M S (t + 1) → shw M w p - shc M S p (gna M) ≤ k → qbl M (gwo M) p (gru M p) t (shw M w p - shc M S p (gna M)) (xR M S) = xR M (sbl M w t p k S)
  | 0, S, h1, h2, hk => by
    rw [show shw M w p - shc M S p (gna M) = 0 by omega]
    rfl
  | k + 1, S, h1, h2, hk => by
    rw [sbl]
    by_cases hf : shw M w p ≤ shc M S p (gna M)
    · rw [if_pos hf, show shw M w p - shc M S p (gna M) = 0 by omega]
      rfl
    · rw [if_neg hf]
      obtain ⟨f, hf2⟩ : ∃ f, shw M w p - shc M S p (gna M) = f + 1 := ⟨shw M w p - shc M S p (gna M) - 1, by omega⟩
      rw [hf2, qbl, qnx_x ok h1 (gna M) (Nat.le_refl _)]
      cases hs : spk M S p (gna M) with
      | none => rfl
      | some b =>
        obtain ⟨hb, hb1, hbp⟩ := spk_some hs
        have hc := (sbeg_cnt (t := t) hb hb1 p).1
        rw [if_pos hbp] at hc
        have ih := qbl_x ok ht hp k (sbeg M t b S) (SI_beg ok h1 hb hb1 ht (by rw [hbp]; omega)) (TI_beg ok h1 hb hb1 h2) (by omega)
        rw [show shw M w p - shc M (sbeg M t b S) p (gna M) = f by omega] at ih
        show qbl M (gwo M) p (gru M p) t f (qbe (gwo M) t (scu S b) (xR M S)) = _
        rw [qbe_x ok h1 hb hb1]
        exact ih
