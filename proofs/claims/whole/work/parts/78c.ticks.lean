/-! PURE: one tick of the reference's play -/
theorem xcm_in {M : MN} {S : PS} {a k : Nat} (hk : k / 5 = a) (ha : a < gna M) (h : k ≤ scu S a) : xcm M S k = scm S k := by
  subst hk; unfold xcm; rw [if_pos ⟨ha, h⟩]
theorem xcm_out {M : MN} {S : PS} {a k : Nat} (hk : k / 5 = a) (h : ¬ (a < gna M ∧ k ≤ scu S a)) : xcm M S k = 2000000000 := by
  subst hk; unfold xcm; rw [if_neg h]
theorem xbg_in {M : MN} {S : PS} {a k : Nat} (hk : k / 5 = a) (ha : a < gna M) (h : k < scu S a ∨ (k = scu S a ∧ 2 ≤ sph S a)) : xbg M S k = sbg S k ∧ xdn M S k = sdn S k := by
  subst hk; unfold xbg xdn; rw [if_pos ⟨ha, h⟩, if_pos ⟨ha, h⟩]; exact ⟨rfl, rfl⟩
theorem xbg_out {M : MN} {S : PS} {a k : Nat} (hk : k / 5 = a) (h : ¬ (a < gna M ∧ (k < scu S a ∨ (k = scu S a ∧ 2 ≤ sph S a)))) : xbg M S k = 2000000000 ∧ xdn M S k = 2000000000 := by
  subst hk; unfold xbg xdn; rw [if_neg h, if_neg h]; exact ⟨rfl, rfl⟩
theorem xwt_in {M : MN} {S : PS} {a k : Nat} (hk : k / 5 = a) (ha : a < gna M) (h : k = scu S a ∧ sph S a = 1) : xwt M S k = 1 := by
  subst hk; unfold xwt; rw [if_pos ⟨ha, h⟩]
theorem xwt_out {M : MN} {S : PS} {a k : Nat} (hk : k / 5 = a) (h : ¬ (a < gna M ∧ k = scu S a ∧ sph S a = 1)) : xwt M S k = 0 := by
  subst hk; unfold xwt; rw [if_neg h]
theorem x_congr {M : MN} {S S' : PS} {a k : Nat} (hk : k / 5 = a) (h : sag a S S') : xcm M S' k = xcm M S k ∧ xbg M S' k = xbg M S k ∧ xdn M S' k = xdn M S k ∧ xwt M S' k = xwt M S k := by
  obtain ⟨h1, h2, h3⟩ := h
  obtain ⟨k1, k2, k3⟩ := h3 k hk
  unfold xcm xbg xdn xwt
  rw [hk, h1, h2, k1, k2, k3]
  exact ⟨rfl, rfl, rfl, rfl⟩
def f9c (M : MN) (S : PS) (t k : Nat) : Prop := 0 < k ∧ xdn M S (k - 1) = t ∧ (k - 1) % 5 + 1 < gle M ((k - 1) / 5)
theorem f9c_iff {M : MN} {w : Nat} {S : PS} {B t u k : Nat} (ok : gOK M) (hS : SI M w S B) (hT : TI M S u) (hut : u ≤ t) (ht2 : t < 1000000000) : f9c M S t k ↔ (k / 5 < gna M ∧ k = scu S (k / 5) + 1 ∧ sph S (k / 5) = 2 ∧ sdn S (scu S (k / 5)) = t ∧ ¬ scu S (k / 5) + 1 = 5 * (k / 5) + gle M (k / 5)) := by
  constructor
  · rintro ⟨h0, h1, h2⟩
    by_cases hin : (k - 1) / 5 < gna M ∧ (k - 1 < scu S ((k - 1) / 5) ∨ (k - 1 = scu S ((k - 1) / 5) ∧ 2 ≤ sph S ((k - 1) / 5)))
    · have h5 := (ok.2.2.2.1 _ hin.1).2.2.2
      have hd : k / 5 = (k - 1) / 5 := by omega
      rw [hd]
      have e := (xbg_in (M := M) (S := S) (k := k - 1) rfl hin.1 hin.2).2
      rw [e] at h1
      obtain ⟨t1, t2, t3, t4, t5, t6⟩ := hT _ hin.1
      have g3 := (hS.1 _ hin.1).2.2.1
      rcases hin.2 with z | ⟨z, z2⟩
      · have := t1 (k - 1) rfl z; omega
      · have hk1 : k = scu S ((k - 1) / 5) + 1 := by omega
        have h2' : sph S ((k - 1) / 5) = 2 := by
          by_cases y : sph S ((k - 1) / 5) = 2
          · exact y
          · have := t6 (by omega); rw [← z] at this; omega
        refine ⟨hin.1, hk1, h2', by rw [← z]; exact h1, ?_⟩
        intro y
        omega
    · rw [(xbg_out (M := M) (S := S) (k := k - 1) rfl hin).2] at h1
      omega
  · rintro ⟨ha, h1, h2, h3, h4⟩
    obtain ⟨g1, g2, -⟩ := hS.1 _ ha
    obtain ⟨-, hdiv, -⟩ := hS.row ok ha
    have h5 := (ok.2.2.2.1 _ ha).2.2.2
    have hk : k - 1 = scu S (k / 5) := by omega
    have hd : (k - 1) / 5 = k / 5 := by rw [hk]; exact hdiv
    refine ⟨by omega, ?_, ?_⟩
    · rw [(xbg_in hd ha (Or.inr ⟨hk, by omega⟩)).2, hk]; exact h3
    · rw [hd]
      omega
theorem adv_x {M : MN} {w : Nat} {S : PS} {B t u : Nat} (ok : gOK M) (hS : SI M w S B) (hT : TI M S u) (ht : t + 1000 ≤ B) (hut : u ≤ t) (ht2 : t < 1000000000) (k : Nat) :
    (f9c M S t k → xcm M (sadv M t S (gna M)) k = t + gde M (gpa M (k - 1))) ∧ (¬ f9c M S t k → xcm M (sadv M t S (gna M)) k = xcm M S k) ∧ xbg M (sadv M t S (gna M)) k = xbg M S k ∧ xdn M (sadv M t S (gna M)) k = xdn M S k ∧
    ((xcm M (sadv M t S (gna M)) k = t ∧ xbg M S k = 2000000000) → k / 5 < gna M ∧ xwt M (sadv M t S (gna M)) k = 1) ∧ (¬ (xcm M (sadv M t S (gna M)) k = t ∧ xbg M S k = 2000000000) → xwt M (sadv M t S (gna M)) k = xwt M S k) := by
  have hf := f9c_iff (k := k) ok hS hT hut ht2
  obtain ⟨-, -, i3⟩ := sadv_at ok hS ht ht2 (gna M) (Nat.le_refl _)
  by_cases ha : k / 5 < gna M
  · obtain ⟨j1, j2, j3, j4⟩ := x_congr (M := M) (k := k) rfl (i3 _ ha)
    rw [j1, j2, j3, j4]
    obtain ⟨g1, g2, g3, -⟩ := hS.1 _ ha
    obtain ⟨t1, t2, t3, t4, t5, t6⟩ := hT _ ha
    generalize hka : k / 5 = a at *
    have past : k < scu S a → scm S k < u := fun z => (t1 k hka z).1
    have c_t : xcm M S k = t → k = scu S a ∧ sph S a = 0 := by
      intro z
      by_cases hle : k ≤ scu S a
      · rw [xcm_in hka ha hle] at z
        by_cases e : k = scu S a
        · refine ⟨e, ?_⟩
          by_cases h0 : sph S a = 0
          · exact h0
          · have := t3 (by omega); rw [← e] at this; omega
        · have := past (by omega); omega
      · rw [xcm_out hka (fun y => hle y.2)] at z; omega
    rcases sone_cases (M := M) g3 ht2 with ⟨e, hne⟩ | ⟨h0, hc, e⟩ | ⟨h2, hdn, hl, e⟩ | ⟨h2, hdn, hl, hz, e⟩ | ⟨h2, hdn, hl, hz, e⟩
    · rw [e]
      have hnf : ¬ f9c M S t k := by
        rw [hf]
        rintro ⟨-, -, z2, z3, -⟩
        apply hne
        unfold sdue
        rw [if_neg (by omega), if_pos z2]
        exact z3
      refine ⟨fun z => absurd z hnf, fun _ => rfl, rfl, rfl, fun z => ?_, fun _ => rfl⟩
      exfalso
      obtain ⟨z1, z2⟩ := c_t z.1
      apply hne
      unfold sdue
      rw [if_pos z2, ← z1]
      have := z.1
      rw [xcm_in hka ha (by omega)] at this
      exact this
    · rw [e]
      have hnf : ¬ f9c M S t k := by
        rw [hf]
        rintro ⟨-, -, z2, -⟩
        omega
      have hp : sph (sarr a S) a = 1 := by rw [sarr_ph, if_pos rfl]
      have e1 : xcm M (sarr a S) k = xcm M S k := by unfold xcm; rfl
      have e2 : xbg M (sarr a S) k = xbg M S k ∧ xdn M (sarr a S) k = xdn M S k := by
        by_cases c : k < scu S a
        · obtain ⟨y1, y2⟩ := xbg_in (M := M) (S := S) hka ha (Or.inl c)
          obtain ⟨y3, y4⟩ := xbg_in (M := M) (S := sarr a S) hka ha (Or.inl c)
          rw [y1, y2, y3, y4]; exact ⟨rfl, rfl⟩
        · obtain ⟨y1, y2⟩ := xbg_out (M := M) (S := S) hka (by rintro ⟨-, z | ⟨-, z⟩⟩ <;> omega)
          obtain ⟨y3, y4⟩ := xbg_out (M := M) (S := sarr a S) hka (by rw [hp]; rintro ⟨-, z | ⟨-, z⟩⟩; exact c z; omega)
          rw [y1, y2, y3, y4]; exact ⟨rfl, rfl⟩
      rw [e1, e2.1, e2.2]
      refine ⟨fun z => absurd z hnf, fun _ => rfl, rfl, rfl, fun z => ⟨ha, ?_⟩, fun z => ?_⟩
      · exact xwt_in hka ha ⟨(c_t z.1).1, hp⟩
      · by_cases c : k = scu S a
        · exfalso
          apply z
          refine ⟨?_, (xbg_out hka (by rintro ⟨-, z | ⟨-, z⟩⟩ <;> omega)).1⟩
          rw [xcm_in hka ha (by omega), c]
          exact hc
        · rw [xwt_out (S := sarr a S) hka (fun y => c y.2.1), xwt_out (S := S) hka (fun y => c y.2.1)]
    · rw [e]
      have hnf : ¬ f9c M S t k := by
        rw [hf]
        rintro ⟨-, -, -, -, z⟩
        exact z hl
      have hp : sph (sgo a S) a = 3 := by rw [sgo_ph, if_pos rfl]
      have e1 : xcm M (sgo a S) k = xcm M S k := by unfold xcm; rfl
      have e2 : xbg M (sgo a S) k = xbg M S k ∧ xdn M (sgo a S) k = xdn M S k := by
        by_cases c : k ≤ scu S a
        · obtain ⟨y1, y2⟩ := xbg_in (M := M) (S := S) (k := k) hka ha (by omega)
          obtain ⟨y3, y4⟩ := xbg_in (M := M) (S := sgo a S) (k := k) hka ha (by rw [hp]; show k < scu S a ∨ (k = scu S a ∧ _); omega)
          rw [y1, y2, y3, y4]; exact ⟨rfl, rfl⟩
        · obtain ⟨y1, y2⟩ := xbg_out (M := M) (S := S) hka (by rintro ⟨-, z | ⟨z, -⟩⟩ <;> omega)
          obtain ⟨y3, y4⟩ := xbg_out (M := M) (S := sgo a S) (k := k) hka (by rintro ⟨-, z⟩; have z' : k < scu S a ∨ (k = scu S a ∧ _) := z; omega)
          rw [y1, y2, y3, y4]; exact ⟨rfl, rfl⟩
      rw [e1, e2.1, e2.2]
      refine ⟨fun z => absurd z hnf, fun _ => rfl, rfl, rfl, fun z => ?_, fun z => ?_⟩
      · have := c_t z.1; omega
      · rw [xwt_out hka (by rw [hp]; rintro ⟨-, -, y⟩; omega), xwt_out hka (by rintro ⟨-, -, y⟩; omega)]
    · rw [e]
      have hp : sph (sarr a (snx M t a S)) a = 1 := by rw [sarr_ph, if_pos rfl]
      have hu : scu (sarr a (snx M t a S)) a = scu S a + 1 := by show scu (snx M t a S) a = _; rw [snx_cu, if_pos rfl]
      have hcm' : scm (sarr a (snx M t a S)) k = if k = scu S a + 1 then t + gde M (gpa M (scu S a)) else scm S k := rfl
      have e2 : xbg M (sarr a (snx M t a S)) k = xbg M S k ∧ xdn M (sarr a (snx M t a S)) k = xdn M S k := by
        by_cases c : k ≤ scu S a
        · obtain ⟨y1, y2⟩ := xbg_in (M := M) (S := S) (k := k) hka ha (by omega)
          obtain ⟨y3, y4⟩ := xbg_in (M := M) (S := sarr a (snx M t a S)) (k := k) hka ha (by rw [hu]; exact Or.inl (by omega))
          rw [y1, y2, y3, y4]; exact ⟨rfl, rfl⟩
        · obtain ⟨y1, y2⟩ := xbg_out (M := M) (S := S) hka (by rintro ⟨-, z | ⟨z, -⟩⟩ <;> omega)
          obtain ⟨y3, y4⟩ := xbg_out (M := M) (S := sarr a (snx M t a S)) (k := k) hka (by rw [hu, hp]; rintro ⟨-, z | ⟨-, z⟩⟩ <;> omega)
          rw [y1, y2, y3, y4]; exact ⟨rfl, rfl⟩
      rw [e2.1, e2.2]
      by_cases c : k = scu S a + 1
      · have e1 : xcm M (sarr a (snx M t a S)) k = t + gde M (gpa M (scu S a)) := by rw [xcm_in hka ha (by rw [hu]; omega), hcm', if_pos c]
        have hyf : f9c M S t k := hf.mpr ⟨ha, c, h2, hdn, hl⟩
        rw [e1, show k - 1 = scu S a by omega]
        refine ⟨fun _ => rfl, fun z => absurd hyf z, rfl, rfl, fun z => ⟨ha, xwt_in hka ha ⟨by rw [hu]; exact c, hp⟩⟩, fun z => ?_⟩
        exfalso
        apply z
        exact ⟨by omega, (xbg_out hka (by rintro ⟨-, y | ⟨y, -⟩⟩ <;> omega)).1⟩
      · have hnf : ¬ f9c M S t k := by
          rw [hf]
          rintro ⟨-, z, -⟩
          exact c z
        have e1 : xcm M (sarr a (snx M t a S)) k = xcm M S k := by
          by_cases c2 : k ≤ scu S a
          · rw [xcm_in hka ha c2, xcm_in hka ha (by rw [hu]; omega), hcm', if_neg c]
          · rw [xcm_out hka (fun z => c2 z.2), xcm_out hka (by rw [hu]; rintro ⟨-, z⟩; omega)]
        rw [e1]
        refine ⟨fun z => absurd z hnf, fun _ => rfl, rfl, rfl, fun z => ?_, fun z => ?_⟩
        · have := c_t z.1; omega
        · rw [xwt_out hka (by rw [hu]; rintro ⟨-, y, -⟩; exact c y), xwt_out hka (by rintro ⟨-, -, y⟩; omega)]
    · rw [e]
      have hp : sph (snx M t a S) a = 0 := by rw [snx_ph, if_pos rfl]
      have hu : scu (snx M t a S) a = scu S a + 1 := by rw [snx_cu, if_pos rfl]
      have hcm' : scm (snx M t a S) k = if k = scu S a + 1 then t + gde M (gpa M (scu S a)) else scm S k := rfl
      have e2 : xbg M (snx M t a S) k = xbg M S k ∧ xdn M (snx M t a S) k = xdn M S k := by
        by_cases c : k ≤ scu S a
        · obtain ⟨y1, y2⟩ := xbg_in (M := M) (S := S) (k := k) hka ha (by omega)
          obtain ⟨y3, y4⟩ := xbg_in (M := M) (S := snx M t a S) (k := k) hka ha (by rw [hu]; exact Or.inl (by omega))
          rw [y1, y2, y3, y4]; exact ⟨rfl, rfl⟩
        · obtain ⟨y1, y2⟩ := xbg_out (M := M) (S := S) hka (by rintro ⟨-, z | ⟨z, -⟩⟩ <;> omega)
          obtain ⟨y3, y4⟩ := xbg_out (M := M) (S := snx M t a S) (k := k) hka (by rw [hu, hp]; rintro ⟨-, z | ⟨-, z⟩⟩ <;> omega)
          rw [y1, y2, y3, y4]; exact ⟨rfl, rfl⟩
      rw [e2.1, e2.2]
      have hw' : xwt M (snx M t a S) k = xwt M S k := by
        rw [xwt_out hka (by rw [hp]; rintro ⟨-, -, y⟩; omega), xwt_out hka (by rintro ⟨-, -, y⟩; omega)]
      rw [hw']
      by_cases c : k = scu S a + 1
      · have e1 : xcm M (snx M t a S) k = t + gde M (gpa M (scu S a)) := by rw [xcm_in hka ha (by rw [hu]; omega), hcm', if_pos c]
        have hyf : f9c M S t k := hf.mpr ⟨ha, c, h2, hdn, hl⟩
        rw [e1, show k - 1 = scu S a by omega]
        exact ⟨fun _ => rfl, fun z => absurd hyf z, rfl, rfl, fun z => by omega, fun z => rfl⟩
      · have hnf : ¬ f9c M S t k := by
          rw [hf]
          rintro ⟨-, z, -⟩
          exact c z
        have e1 : xcm M (snx M t a S) k = xcm M S k := by
          by_cases c2 : k ≤ scu S a
          · rw [xcm_in hka ha c2, xcm_in hka ha (by rw [hu]; omega), hcm', if_neg c]
          · rw [xcm_out hka (fun z => c2 z.2), xcm_out hka (by rw [hu]; rintro ⟨-, z⟩; omega)]
        rw [e1]
        refine ⟨fun z => absurd z hnf, fun _ => rfl, rfl, rfl, fun z => ?_, fun z => rfl⟩
        have := c_t z.1; omega
  · have hnf : ¬ f9c M S t k := by
      rw [hf]
      rintro ⟨z, -⟩
      exact ha z
    rw [xcm_out rfl (fun z => ha z.1), xcm_out rfl (fun z => ha z.1), (xbg_out rfl (fun z => ha z.1)).1, (xbg_out rfl (fun z => ha z.1)).1, (xbg_out rfl (fun z => ha z.1)).2, (xbg_out rfl (fun z => ha z.1)).2, xwt_out rfl (fun z => ha z.1), xwt_out rfl (fun z => ha z.1)]
    exact ⟨fun z => absurd z hnf, fun _ => rfl, rfl, rfl, fun z => by omega, fun _ => rfl⟩
