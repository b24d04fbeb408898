/-! PURE: the play's times: what is past, what is to come; each tick takes an event; nobody waits for ever -/
def sag (a : Nat) (S S' : PS) : Prop := scu S' a = scu S a ∧ sph S' a = sph S a ∧ ∀ r, r / 5 = a → scm S' r = scm S r ∧ sbg S' r = sbg S r ∧ sdn S' r = sdn S r
theorem sag.refl (a : Nat) (S : PS) : sag a S S := ⟨rfl, rfl, fun _ _ => ⟨rfl, rfl, rfl⟩⟩
theorem sag.trans {a : Nat} {S S' S'' : PS} (h : sag a S S') (h' : sag a S' S'') : sag a S S'' :=
  ⟨h'.1.trans h.1, h'.2.1.trans h.2.1, fun r hr => ⟨(h'.2.2 r hr).1.trans (h.2.2 r hr).1, (h'.2.2 r hr).2.1.trans (h.2.2 r hr).2.1, (h'.2.2 r hr).2.2.trans (h.2.2 r hr).2.2⟩⟩
theorem sone_cases {M : MN} {t a : Nat} {S : PS} (hp : sph S a ≤ 3) (ht : t < 1000000000) :
    (sone M t a S = S ∧ sdue S a ≠ t) ∨ (sph S a = 0 ∧ scm S (scu S a) = t ∧ sone M t a S = sarr a S) ∨
    (sph S a = 2 ∧ sdn S (scu S a) = t ∧ scu S a + 1 = 5 * a + gle M a ∧ sone M t a S = sgo a S) ∨
    (sph S a = 2 ∧ sdn S (scu S a) = t ∧ ¬ scu S a + 1 = 5 * a + gle M a ∧ gde M (gpa M (scu S a)) = 0 ∧ sone M t a S = sarr a (snx M t a S)) ∨
    (sph S a = 2 ∧ sdn S (scu S a) = t ∧ ¬ scu S a + 1 = 5 * a + gle M a ∧ ¬ gde M (gpa M (scu S a)) = 0 ∧ sone M t a S = snx M t a S) := by
  by_cases hd : sdue S a = t
  · right
    by_cases h2 : sph S a = 2
    · right
      have hd2 : sdn S (scu S a) = t := by
        refine Eq.trans ?_ hd
        unfold sdue
        rw [if_neg (by omega), if_pos h2]
      have e : sone M t a S = sfin M t a S := by unfold sone; rw [if_pos hd, if_pos h2]
      rw [e]
      by_cases hl : scu S a + 1 = 5 * a + gle M a
      · exact Or.inl ⟨h2, hd2, hl, sfin_last hl⟩
      · right
        by_cases hz : gde M (gpa M (scu S a)) = 0
        · exact Or.inl ⟨h2, hd2, hl, hz, sfin_now hl hz⟩
        · exact Or.inr ⟨h2, hd2, hl, hz, sfin_del hl hz⟩
    · left
      have h0 : sph S a = 0 := by
        by_cases z : sph S a = 0
        · exact z
        · exfalso
          unfold sdue at hd
          rw [if_neg z, if_neg h2] at hd
          omega
      refine ⟨h0, ?_, ?_⟩
      · refine Eq.trans ?_ hd
        unfold sdue
        rw [if_pos h0]
      · unfold sone
        rw [if_pos hd, if_neg h2]
  · left
    refine ⟨?_, hd⟩
    unfold sone
    rw [if_neg hd]
theorem SI_one {M : MN} {w : Nat} {S : PS} {B i t : Nat} (ok : gOK M) (h : SI M w S B) (hi : i < gna M) (ht : t + 1000 ≤ B) (ht2 : t < 1000000000) : SI M w (sone M t i S) B := by
  obtain ⟨-, -, h3, -⟩ := h.1 i hi
  rcases sone_cases (M := M) h3 ht2 with ⟨e, -⟩ | ⟨h0, -, e⟩ | ⟨h2, -, hl, e⟩ | ⟨h2, -, hl, hz, e⟩ | ⟨h2, -, hl, hz, e⟩
  · rw [e]; exact h
  · rw [e]; exact SI_arr h hi h0
  · rw [e]; exact SI_go h hi h2 hl
  · rw [e]; exact SI_arr (SI_nx ok h hi h2 hl ht) hi (by rw [snx_ph, if_pos rfl])
  · rw [e]; exact SI_nx ok h hi h2 hl ht
theorem sag_arr {a i : Nat} {S : PS} (h : a ≠ i) : sag a S (sarr i S) := ⟨rfl, by rw [sarr_ph, if_neg h], fun _ _ => ⟨rfl, rfl, rfl⟩⟩
theorem sag_go {a i : Nat} {S : PS} (h : a ≠ i) : sag a S (sgo i S) := ⟨rfl, by rw [sgo_ph, if_neg h], fun _ _ => ⟨rfl, rfl, rfl⟩⟩
theorem sag_nx {M : MN} {t a i : Nat} {S : PS} (h : a ≠ i) (hr : (scu S i + 1) / 5 = i) : sag a S (snx M t i S) := by
  refine ⟨by rw [snx_cu, if_neg h], by rw [snx_ph, if_neg h], fun r hra => ⟨?_, rfl, rfl⟩⟩
  rw [snx_cm, if_neg]
  intro z
  apply h
  rw [← hra, z, hr]
theorem nx_div {M : MN} {w : Nat} {S : PS} {B i : Nat} (ok : gOK M) (h : SI M w S B) (hi : i < gna M) (hl : ¬ scu S i + 1 = 5 * i + gle M i) : (scu S i + 1) / 5 = i := by
  obtain ⟨h1, h2, -⟩ := h.1 i hi
  have := (ok.2.2.2.1 i hi).2.2.2
  omega
theorem sone_other {M : MN} {w : Nat} {S : PS} {B i t a : Nat} (ok : gOK M) (h : SI M w S B) (hi : i < gna M) (ht2 : t < 1000000000) (hne : a ≠ i) : sag a S (sone M t i S) := by
  obtain ⟨-, -, h3, -⟩ := h.1 i hi
  rcases sone_cases (M := M) h3 ht2 with ⟨e, -⟩ | ⟨h0, -, e⟩ | ⟨h2, -, hl, e⟩ | ⟨h2, -, hl, hz, e⟩ | ⟨h2, -, hl, hz, e⟩
  · rw [e]; exact sag.refl a S
  · rw [e]; exact sag_arr hne
  · rw [e]; exact sag_go hne
  · rw [e]; exact (sag_nx hne (nx_div ok h hi hl)).trans (sag_arr hne)
  · rw [e]; exact sag_nx hne (nx_div ok h hi hl)
theorem sag_due {a : Nat} {S S' : PS} (h : sag a S S') (hr : scu S a / 5 = a) : sdue S' a = sdue S a := by
  unfold sdue
  rw [h.1, h.2.1, (h.2.2 _ hr).1, (h.2.2 _ hr).2.2]
theorem sone_congr {M : MN} {t a : Nat} {S S' : PS} (h : sag a S S') (hr : scu S a / 5 = a) : sag a (sone M t a S) (sone M t a S') := by
  have hd := sag_due h hr
  obtain ⟨h1, h2, h3⟩ := h
  unfold sone
  rw [hd, h2]
  by_cases c1 : sdue S a = t
  · rw [if_pos c1, if_pos c1]
    by_cases c2 : sph S a = 2
    · rw [if_pos c2, if_pos c2]
      unfold sfin
      rw [h1]
      by_cases c3 : scu S a + 1 = 5 * a + gle M a
      · rw [if_pos c3, if_pos c3]
        refine ⟨h1, ?_, h3⟩
        show (if a = a then 3 else sph S' a) = if a = a then 3 else sph S a
        rw [if_pos rfl, if_pos rfl]
      · rw [if_neg c3, if_neg c3]
        refine ⟨?_, ?_, fun r hra => ⟨?_, (h3 r hra).2⟩⟩
        · show (if a = a then scu S a + 1 else scu S' a) = if a = a then scu S a + 1 else scu S a
          rw [if_pos rfl, if_pos rfl]
        · show (if a = a then (if gde M (gpa M (scu S a)) = 0 then 1 else 0) else sph S' a) = if a = a then (if gde M (gpa M (scu S a)) = 0 then 1 else 0) else sph S a
          rw [if_pos rfl, if_pos rfl]
        · show (if r = scu S a + 1 then t + gde M (gpa M (scu S a)) else scm S' r) = if r = scu S a + 1 then t + gde M (gpa M (scu S a)) else scm S r
          rw [(h3 r hra).1]
    · rw [if_neg c2, if_neg c2]
      refine ⟨h1, ?_, h3⟩
      rw [sarr_ph, sarr_ph, if_pos rfl, if_pos rfl]
  · rw [if_neg c1, if_neg c1]
    exact ⟨h1, h2, h3⟩
theorem sadv_at {M : MN} {w : Nat} {S : PS} {B t : Nat} (ok : gOK M) (h : SI M w S B) (ht : t + 1000 ≤ B) (ht2 : t < 1000000000) : ∀ n, n ≤ gna M → SI M w (sadv M t S n) B ∧ (∀ a, n ≤ a → sag a S (sadv M t S n)) ∧ (∀ a, a < n → sag a (sone M t a S) (sadv M t S n))
  | 0, _ => ⟨h, fun a _ => sag.refl a S, fun a ha => absurd ha (Nat.not_lt_zero a)⟩
  | n + 1, hn => by
    obtain ⟨i1, i2, i3⟩ := sadv_at ok h ht ht2 n (by omega)
    rw [sadv]
    refine ⟨SI_one ok i1 (by omega) ht ht2, fun a ha => (i2 a (by omega)).trans (sone_other ok i1 (by omega) ht2 (by omega)), fun a ha => ?_⟩
    by_cases e : a = n
    · subst e
      exact sone_congr (i2 a (Nat.le_refl a)) (h.row ok (by omega)).2.1
    · exact (i3 a (by omega)).trans (sone_other ok i1 (by omega) ht2 e)
/-- what is past at u, of ask a -/
def TA (S : PS) (u a : Nat) : Prop := (∀ r, r / 5 = a → r < scu S a → scm S r < u ∧ sbg S r < u ∧ sdn S r < u) ∧ (sph S a = 0 → u ≤ scm S (scu S a)) ∧ (1 ≤ sph S a → scm S (scu S a) < u) ∧ (2 ≤ sph S a → sbg S (scu S a) < u) ∧ (sph S a = 2 → u ≤ sdn S (scu S a)) ∧ (sph S a = 3 → sdn S (scu S a) < u)
def TI (M : MN) (S : PS) (u : Nat) : Prop := ∀ a, a < gna M → TA S u a
theorem TA.congr {S S' : PS} {u a : Nat} (hr : scu S a / 5 = a) (h : sag a S S') (hT : TA S u a) : TA S' u a := by
  obtain ⟨h1, h2, h3⟩ := h
  obtain ⟨k1, k2, k3⟩ := h3 _ hr
  unfold TA
  rw [h1, h2, k1, k2, k3]
  refine ⟨fun r hra hrl => ?_, hT.2⟩
  obtain ⟨l1, l2, l3⟩ := h3 r hra
  rw [l1, l2, l3]
  exact hT.1 r hra hrl
theorem TA_one {M : MN} {w : Nat} {S : PS} {B t a u : Nat} (ok : gOK M) (h : SI M w S B) (ha : a < gna M) (ht2 : t < 1000000000) (hut : u ≤ t) (hd : t ≤ sdue S a) (hT : TA S u a) : TA (sone M t a S) (t + 1) a := by
  obtain ⟨g1, g2, g3, -⟩ := h.1 a ha
  obtain ⟨t1, t2, t3, t4, t5, t6⟩ := hT
  have past : ∀ r, r / 5 = a → r < scu S a → scm S r < t + 1 ∧ sbg S r < t + 1 ∧ sdn S r < t + 1 := fun r h1 h2 => by
    obtain ⟨q1, q2, q3⟩ := t1 r h1 h2
    omega
  have nx : sph S a = 2 → sdn S (scu S a) = t → ¬ scu S a + 1 = 5 * a + gle M a → ∀ r, r / 5 = a → r < scu S a + 1 → (if r = scu S a + 1 then t + gde M (gpa M (scu S a)) else scm S r) < t + 1 ∧ sbg S r < t + 1 ∧ sdn S r < t + 1 := by
    intro h2 hdn hl r hr hrl
    rw [if_neg (by omega)]
    by_cases e : r = scu S a
    · subst e
      have := t3 (by omega)
      have := t4 (by omega)
      omega
    · exact past r hr (by omega)
  rcases sone_cases (M := M) g3 ht2 with ⟨e, hne⟩ | ⟨h0, hc, e⟩ | ⟨h2, hdn, hl, e⟩ | ⟨h2, hdn, hl, hz, e⟩ | ⟨h2, hdn, hl, hz, e⟩
  · rw [e]
    unfold sdue at hd hne
    refine ⟨past, fun z => ?_, fun z => ?_, fun z => ?_, fun z => ?_, fun z => ?_⟩
    · rw [if_pos z] at hd hne; omega
    · have := t3 z; omega
    · have := t4 z; omega
    · rw [if_neg (by omega), if_pos z] at hd hne; omega
    · have := t6 z; omega
  · rw [e]
    have e1 : sph (sarr a S) a = 1 := by rw [sarr_ph, if_pos rfl]
    unfold TA
    rw [e1]
    refine ⟨past, fun z => by omega, fun z => ?_, fun z => by omega, fun z => by omega, fun z => by omega⟩
    show scm S (scu S a) < t + 1
    omega
  · rw [e]
    have e1 : sph (sgo a S) a = 3 := by rw [sgo_ph, if_pos rfl]
    unfold TA
    rw [e1]
    refine ⟨past, fun z => by omega, fun z => ?_, fun z => ?_, fun z => by omega, fun z => ?_⟩
    · show scm S (scu S a) < t + 1
      have := t3 (by omega); omega
    · show sbg S (scu S a) < t + 1
      have := t4 (by omega); omega
    · show sdn S (scu S a) < t + 1
      omega
  · rw [e]
    have e1 : sph (sarr a (snx M t a S)) a = 1 := by rw [sarr_ph, if_pos rfl]
    have e2 : scu (sarr a (snx M t a S)) a = scu S a + 1 := by show scu (snx M t a S) a = _; rw [snx_cu, if_pos rfl]
    unfold TA
    rw [e1, e2]
    refine ⟨nx h2 hdn hl, fun z => by omega, fun z => ?_, fun z => by omega, fun z => by omega, fun z => by omega⟩
    show (if scu S a + 1 = scu S a + 1 then t + gde M (gpa M (scu S a)) else scm S (scu S a + 1)) < t + 1
    rw [if_pos rfl]
    omega
  · rw [e]
    have e1 : sph (snx M t a S) a = 0 := by rw [snx_ph, if_pos rfl]
    have e2 : scu (snx M t a S) a = scu S a + 1 := by rw [snx_cu, if_pos rfl]
    unfold TA
    rw [e1, e2]
    refine ⟨nx h2 hdn hl, fun z => ?_, fun z => by omega, fun z => by omega, fun z => by omega, fun z => by omega⟩
    show t + 1 ≤ (if scu S a + 1 = scu S a + 1 then t + gde M (gpa M (scu S a)) else scm S (scu S a + 1))
    rw [if_pos rfl]
    omega
theorem smn_min (f : Nat → Nat) : ∀ n a, a < n → smn f n ≤ f a
  | 0, a, h => absurd h (Nat.not_lt_zero a)
  | n + 1, a, h => by
    rw [smn]
    by_cases e : a = n
    · subst e; split <;> omega
    · have := smn_min f n a (by omega)
      split <;> omega
theorem smn_hit (f : Nat → Nat) : ∀ n, smn f n < 1000000000 → ∃ a, a < n ∧ f a = smn f n
  | 0, h => by rw [smn] at h; omega
  | n + 1, h => by
    rw [smn] at h ⊢
    by_cases c : f n < smn f n
    · rw [if_pos c]; exact ⟨n, by omega, rfl⟩
    · rw [if_neg c] at h ⊢
      obtain ⟨a, h1, h2⟩ := smn_hit f n h
      exact ⟨a, by omega, h2⟩
theorem smn_top (f : Nat → Nat) : ∀ n, smn f n ≤ 1000000000
  | 0 => Nat.le_refl _
  | n + 1 => by have := smn_top f n; rw [smn]; split <;> omega
theorem TI_adv {M : MN} {w : Nat} {S : PS} {B t u : Nat} (ok : gOK M) (h : SI M w S B) (ht : t + 1000 ≤ B) (ht2 : t < 1000000000) (hut : u ≤ t) (hm : ∀ a, a < gna M → t ≤ sdue S a) (hT : TI M S u) : TI M (sadv M t S (gna M)) (t + 1) := by
  intro a ha
  obtain ⟨-, -, i3⟩ := sadv_at ok h ht ht2 (gna M) (Nat.le_refl _)
  refine TA.congr ?_ (i3 a ha) (TA_one ok h ha ht2 hut (hm a ha) (hT a ha))
  exact ((SI_one ok h ha ht ht2).row ok ha).2.1
theorem TI_beg {M : MN} {w : Nat} {S : PS} {B t b : Nat} (ok : gOK M) (h : SI M w S B) (hb : b < gna M) (h1 : sph S b = 1) (hT : TI M S (t + 1)) : TI M (sbeg M t b S) (t + 1) := by
  obtain ⟨hv, hdiv, -⟩ := h.row ok hb
  have hwo := (ok.2.2.2.2 _ hv).2.1
  intro a ha
  obtain ⟨t1, t2, t3, t4, t5, t6⟩ := hT a ha
  by_cases e : a = b
  · subst e
    have e1 : sph (sbeg M t a S) a = 2 := by rw [sbeg_ph, if_pos rfl]
    have e2 : scu (sbeg M t a S) a = scu S a := rfl
    unfold TA
    rw [e1, e2, sbeg_bg, sbeg_dn, if_pos rfl, if_pos rfl]
    refine ⟨fun r hr hrl => ?_, fun z => by omega, fun _ => t3 (by omega), fun _ => by omega, fun _ => by omega, fun z => by omega⟩
    rw [sbeg_bg, sbeg_dn, if_neg (by omega), if_neg (by omega)]
    exact t1 r hr hrl
  · refine TA.congr (h.row ok ha).2.1 ⟨rfl, by rw [sbeg_ph, if_neg e], fun r hr => ⟨rfl, ?_, ?_⟩⟩ ⟨t1, t2, t3, t4, t5, t6⟩
    · rw [sbeg_bg, if_neg (by intro z; apply e; rw [← hr, z, hdiv])]
    · rw [sbeg_dn, if_neg (by intro z; apply e; rw [← hr, z, hdiv])]
/-- what a begin keeps -/
theorem sbl_keep {M : MN} {w t p B : Nat} (ok : gOK M) (hp : p < gnp M) (ht : t + 1000 ≤ B) (P : PS → Prop) (hP : ∀ S b, SI M w S B → TI M S (t + 1) → P S → b < gna M → sph S b = 1 → gpa M (scu S b) = p → P (sbeg M t b S)) :
    ∀ (k : Nat) (S : PS), SI M w S B → TI M S (t + 1) → P S → SI M w (sbl M w t p k S) B ∧ TI M (sbl M w t p k S) (t + 1) ∧ P (sbl M w t p k S)
  | 0, S, h1, h2, h3 => ⟨h1, h2, h3⟩
  | k + 1, S, h1, h2, h3 => by
    rw [sbl]
    by_cases hf : shw M w p ≤ shc M S p (gna M)
    · rw [if_pos hf]; exact ⟨h1, h2, h3⟩
    · rw [if_neg hf]
      cases hs : spk M S p (gna M) with
      | none => exact ⟨h1, h2, h3⟩
      | some b =>
        obtain ⟨hb, hb1, hbp⟩ := spk_some hs
        exact sbl_keep ok hp ht P hP k _ (SI_beg ok h1 hb hb1 ht (by rw [hbp]; omega)) (TI_beg ok h1 hb hb1 h2) (hP S b h1 h2 h3 hb hb1 hbp)
theorem sba_keep {M : MN} {w t B : Nat} (ok : gOK M) (ht : t + 1000 ≤ B) (P : PS → Prop) (hP : ∀ S b, SI M w S B → TI M S (t + 1) → P S → b < gna M → sph S b = 1 → P (sbeg M t b S)) {S : PS} (h1 : SI M w S B) (h2 : TI M S (t + 1)) (h3 : P S) :
    ∀ (q : Nat), q ≤ gnp M → SI M w (sba M w t q S) B ∧ TI M (sba M w t q S) (t + 1) ∧ P (sba M w t q S)
  | 0, _ => ⟨h1, h2, h3⟩
  | q + 1, hq => by
    obtain ⟨i1, i2, i3⟩ := sba_keep ok ht P hP h1 h2 h3 q (by omega)
    rw [sba]
    exact sbl_keep ok (by omega) ht P (fun S b a1 a2 a3 a4 a5 _ => hP S b a1 a2 a3 a4 a5) 60 _ i1 i2 i3
/-- nobody waits where a helper is free -/
def LV (M : MN) (w : Nat) (S : PS) : Prop := ∀ p, p < gnp M → 0 < swc M S p (gna M) → shw M w p ≤ shc M S p (gna M)
theorem sbl_live {M : MN} {w t p B : Nat} (ok : gOK M) (hp : p < gnp M) (ht : t + 1000 ≤ B) :
    ∀ (k : Nat) (S : PS), SI M w S B → shw M w p - shc M S p (gna M) ≤ k → (0 < swc M (sbl M w t p k S) p (gna M) → shw M w p ≤ shc M (sbl M w t p k S) p (gna M))
  | 0, S, h1, hk, _ => by
    show shw M w p ≤ shc M S p (gna M)
    omega
  | k + 1, S, h1, hk, hw => by
    rw [sbl] at hw ⊢
    by_cases hf : shw M w p ≤ shc M S p (gna M)
    · rw [if_pos hf]; exact hf
    · rw [if_neg hf] at hw ⊢
      cases hs : spk M S p (gna M) with
      | none =>
        rw [hs] at hw
        have := spk_none.mp hs
        dsimp only at hw
        omega
      | some b =>
        obtain ⟨hb, hb1, hbp⟩ := spk_some hs
        rw [hs] at hw
        have hc := (sbeg_cnt (t := t) hb hb1 p).1
        rw [if_pos hbp] at hc
        exact sbl_live ok hp ht k _ (SI_beg ok h1 hb hb1 ht (by rw [hbp]; omega)) (by omega) hw
theorem shw_le {M : MN} {w p : Nat} (ok : gOK M) (hp : p < gnp M) : 1 ≤ shw M w p ∧ shw M w p ≤ 9 := by
  have := ok.2.2.1 p hp
  unfold shw
  split <;> omega
theorem sba_live {M : MN} {w t B : Nat} (ok : gOK M) (ht : t + 1000 ≤ B) {S : PS} (h1 : SI M w S B) (h2 : TI M S (t + 1)) :
    ∀ (q : Nat), q ≤ gnp M → ∀ p, p < q → 0 < swc M (sba M w t q S) p (gna M) → shw M w p ≤ shc M (sba M w t q S) p (gna M)
  | 0, _, p, hp, _ => absurd hp (Nat.not_lt_zero p)
  | q + 1, hq, p, hp, hw => by
    obtain ⟨i1, i2, -⟩ := sba_keep ok ht (fun _ => True) (fun _ _ _ _ _ _ _ => trivial) h1 h2 trivial q (by omega)
    have ih := sba_live ok ht h1 h2 q (by omega)
    rw [sba] at hw ⊢
    by_cases e : p = q
    · subst e
      exact sbl_live ok (by omega) ht 60 _ i1 (by have := (shw_le (w := w) ok (p := p) (by omega)).2; omega) hw
    · have key := (sbl_keep ok (p := q) (by omega) ht (fun S' => swc M S' p (gna M) = swc M (sba M w t q S) p (gna M) ∧ shc M S' p (gna M) = shc M (sba M w t q S) p (gna M)) (fun S' b a1 a2 a3 a4 a5 a6 => by
        have hc := sbeg_cnt (t := t) a4 a5 p
        rw [if_neg (by rw [a6]; exact fun z => e z.symm)] at hc
        omega) 60 _ i1 i2 ⟨rfl, rfl⟩).2.2
      rw [key.1] at hw
      rw [key.2]
      exact ih p (by omega) hw
/-- how far the asks are -/
def mua (S : PS) (a : Nat) : Nat := 2 * (scu S a - 5 * a) + (if sph S a = 0 then 0 else if sph S a = 3 then 2 else 1)
theorem mua_congr {S S' : PS} {a : Nat} (h : sag a S S') : mua S' a = mua S a := by
  unfold mua
  rw [h.1, h.2.1]
theorem mua_one {M : MN} {w : Nat} {S : PS} {B t a : Nat} (h : SI M w S B) (ha : a < gna M) (ht2 : t < 1000000000) : mua S a ≤ mua (sone M t a S) a ∧ (sdue S a = t → mua S a < mua (sone M t a S) a) := by
  obtain ⟨g1, g2, g3, -⟩ := h.1 a ha
  rcases sone_cases (M := M) g3 ht2 with ⟨e, hne⟩ | ⟨h0, hc, e⟩ | ⟨h2, hdn, hl, e⟩ | ⟨h2, hdn, hl, hz, e⟩ | ⟨h2, hdn, hl, hz, e⟩
  · rw [e]; exact ⟨Nat.le_refl _, fun z => absurd z hne⟩
  · have : mua S a < mua (sone M t a S) a := by
      rw [e]
      unfold mua
      rw [sarr_ph, if_pos rfl, h0]
      show 2 * (scu S a - 5 * a) + 0 < 2 * (scu S a - 5 * a) + 1
      omega
    exact ⟨by omega, fun _ => this⟩
  · have : mua S a < mua (sone M t a S) a := by
      rw [e]
      unfold mua
      rw [sgo_ph, if_pos rfl, h2]
      show 2 * (scu S a - 5 * a) + 1 < 2 * (scu S a - 5 * a) + 2
      omega
    exact ⟨by omega, fun _ => this⟩
  · have : mua S a < mua (sone M t a S) a := by
      rw [e]
      unfold mua
      rw [sarr_ph, if_pos rfl, h2]
      show 2 * (scu S a - 5 * a) + 1 < 2 * (scu (snx M t a S) a - 5 * a) + 1
      rw [snx_cu, if_pos rfl]
      omega
    exact ⟨by omega, fun _ => this⟩
  · have : mua S a < mua (sone M t a S) a := by
      rw [e]
      unfold mua
      rw [snx_ph, if_pos rfl, h2, snx_cu, if_pos rfl]
      show 2 * (scu S a - 5 * a) + 1 < 2 * (scu S a + 1 - 5 * a) + 0
      omega
    exact ⟨by omega, fun _ => this⟩
theorem cg_mono {f g : Nat → Nat} : ∀ {n : Nat}, (∀ a, a < n → f a ≤ g a) → cg f n ≤ cg g n
  | 0, _ => Nat.le_refl _
  | n + 1, h => by
    have := cg_mono (f := f) (g := g) (n := n) (fun a ha => h a (by omega))
    have := h n (by omega)
    rw [cg, cg]
    omega
theorem cg_lt {f g : Nat → Nat} {i : Nat} : ∀ {n : Nat}, (∀ a, a < n → f a ≤ g a) → i < n → f i < g i → cg f n < cg g n
  | 0, _, h, _ => absurd h (Nat.not_lt_zero _)
  | n + 1, h, hi, hf => by
    have h1 := cg_mono (f := f) (g := g) (n := n) (fun a ha => h a (by omega))
    have h2 := h n (by omega)
    rw [cg, cg]
    by_cases e : i = n
    · subst e; omega
    · have := cg_lt (f := f) (g := g) (i := i) (n := n) (fun a ha => h a (by omega)) (by omega) hf
      omega
theorem cg_ten (n : Nat) : cg (fun _ => 10) n = 10 * n := by
  induction n with
  | zero => rfl
  | succ n ih => rw [cg, ih]; omega
theorem mua_tick {M : MN} {w : Nat} {S : PS} {B t u : Nat} (ok : gOK M) (h : SI M w S B) (ht : t + 1000 ≤ B) (ht2 : t < 1000000000) (hut : u ≤ t) (hm : ∀ a, a < gna M → t ≤ sdue S a) (hT : TI M S u) (hit : ∃ a, a < gna M ∧ sdue S a = t) : cg (mua S) (gna M) < cg (mua (stk M w t S)) (gna M) := by
  obtain ⟨i1, -, i3⟩ := sadv_at ok h ht ht2 (gna M) (Nat.le_refl _)
  have hT2 := TI_adv ok h ht ht2 hut hm hT
  obtain ⟨b, hb, hbd⟩ := hit
  have k1 : cg (mua S) (gna M) < cg (mua (sadv M t S (gna M))) (gna M) := by
    refine cg_lt (i := b) (fun a ha => ?_) hb ?_
    · rw [mua_congr (i3 a ha)]; exact (mua_one h ha ht2).1
    · rw [mua_congr (i3 b hb)]; exact (mua_one h hb ht2).2 hbd
  have k2 := (sba_keep ok ht (fun S' => ∀ a, mua S' a = mua (sadv M t S (gna M)) a) (fun S' b' a1 a2 a3 a4 a5 a => by
    rw [← a3 a]
    unfold mua
    rw [sbeg_ph]
    by_cases e : a = b'
    · subst e; rw [if_pos rfl, a5]; rfl
    · rw [if_neg e]; rfl) i1 hT2 (fun _ => rfl) (gnp M) (Nat.le_refl _)).2.2
  unfold stk
  rw [cg_congr (fun a _ => k2 a)]
  exact k1
