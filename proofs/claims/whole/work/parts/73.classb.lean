/-! PURE: the class's play, part b: an ask comes, an ask is done, all asks at a tick -/
def cg (f : Nat → Nat) : Nat → Nat
  | 0 => 0
  | n + 1 => cg f n + f n
theorem cg_congr {f g : Nat → Nat} : ∀ {n : Nat}, (∀ a, a < n → f a = g a) → cg f n = cg g n
  | 0, _ => rfl
  | n + 1, h => by rw [cg, cg, cg_congr (fun a ha => h a (by omega)), h n (by omega)]
theorem cg_change {f g : Nat → Nat} {i : Nat} : ∀ {n : Nat}, i < n → (∀ a, a < n → a ≠ i → g a = f a) → cg g n + f i = cg f n + g i
  | 0, h, _ => absurd h (Nat.not_lt_zero _)
  | n + 1, h, hh => by
    rw [cg, cg]
    by_cases e : i = n
    · subst e
      rw [cg_congr (f := g) (g := f) (fun a ha => hh a (by omega) (by omega))]
      omega
    · have := cg_change (f := f) (g := g) (i := i) (n := n) (by omega) (fun a ha hne => hh a (by omega) hne)
      have := hh n (by omega) (fun z => e z.symm)
      omega
theorem cg_le {f : Nat → Nat} : ∀ {n : Nat}, (∀ a, a < n → f a ≤ 1) → cg f n ≤ n
  | 0, _ => Nat.le_refl _
  | n + 1, h => by
    have := cg_le (f := f) (n := n) (fun a ha => h a (by omega))
    have := h n (by omega)
    rw [cg]
    omega
theorem cg_pos {f : Nat → Nat} : ∀ {n : Nat}, 0 < cg f n ↔ ∃ a, a < n ∧ 0 < f a
  | 0 => ⟨fun h => absurd h (Nat.lt_irrefl 0), fun ⟨a, h, _⟩ => absurd h (Nat.not_lt_zero a)⟩
  | n + 1 => by
    have ih := cg_pos (f := f) (n := n)
    rw [cg]
    constructor
    · intro h
      by_cases h1 : 0 < cg f n
      · obtain ⟨a, ha, hf⟩ := ih.mp h1
        exact ⟨a, by omega, hf⟩
      · exact ⟨n, by omega, by omega⟩
    · rintro ⟨a, ha, hf⟩
      by_cases e : a = n
      · subst e; omega
      · have := ih.mpr ⟨a, by omega, hf⟩
        omega
def hcf (M : MN) (S : PS) (p a : Nat) : Nat := if sph S a = 2 ∧ gpa M (scu S a) = p then 1 else 0
def wcf (M : MN) (S : PS) (p a : Nat) : Nat := if sph S a = 1 ∧ gpa M (scu S a) = p then 1 else 0
theorem shc_cg (M : MN) (S : PS) (p : Nat) : ∀ n, shc M S p n = cg (hcf M S p) n
  | 0 => rfl
  | n + 1 => by rw [shc, cg, shc_cg M S p n]; rfl
theorem swc_cg (M : MN) (S : PS) (p : Nat) : ∀ n, swc M S p n = cg (wcf M S p) n
  | 0 => rfl
  | n + 1 => by rw [swc, cg, swc_cg M S p n]; rfl
theorem hcf_le (M : MN) (S : PS) (p a : Nat) : hcf M S p a ≤ 1 := by unfold hcf; split <;> omega
theorem wcf_le (M : MN) (S : PS) (p a : Nat) : wcf M S p a ≤ 1 := by unfold wcf; split <;> omega
theorem swc_le (M : MN) (S : PS) (p n : Nat) : swc M S p n ≤ n := by rw [swc_cg]; exact cg_le (fun a _ => wcf_le M S p a)
/-- only ask i has changed -/
theorem cnt_change {M : MN} {S S' : PS} {i p n : Nat} (hi : i < n) (hp : ∀ a, a ≠ i → sph S' a = sph S a) (hc : ∀ a, a ≠ i → scu S' a = scu S a) : shc M S' p n + hcf M S p i = shc M S p n + hcf M S' p i ∧ swc M S' p n + wcf M S p i = swc M S p n + wcf M S' p i := by
  rw [shc_cg, shc_cg, swc_cg, swc_cg]
  refine ⟨cg_change hi (fun a _ hne => ?_), cg_change hi (fun a _ hne => ?_)⟩
  · unfold hcf; rw [hp a hne, hc a hne]
  · unfold wcf; rw [hp a hne, hc a hne]
theorem SI.mono {M : MN} {w : Nat} {S : PS} {B B' : Nat} (h : SI M w S B) (hB : B ≤ B') : SI M w S B' := by
  refine ⟨fun a ha => ?_, h.2⟩
  obtain ⟨h1, h2, h3, h4, h5, h6⟩ := h.1 a ha
  exact ⟨h1, h2, h3, h4, fun z => Nat.le_trans (h5 z) hB, fun z => Nat.le_trans (h6 z) hB⟩
theorem sdue_congr {S S' : PS} {a : Nat} (h1 : sph S' a = sph S a) (h2 : scu S' a = scu S a) (h3 : scm S' (scu S a) = scm S (scu S a)) (h4 : sdn S' (scu S a) = sdn S (scu S a)) : sdue S' a = sdue S a := by
  unfold sdue
  rw [h1, h2, h3, h4]
theorem sarr_ph (i : Nat) (S : PS) (a : Nat) : sph (sarr i S) a = if a = i then 1 else sph S a := rfl
theorem sarr_due_i (i : Nat) (S : PS) : sdue (sarr i S) i = 1000000000 := by
  unfold sdue
  rw [sarr_ph, if_pos rfl]
  rfl
theorem SI_arr {M : MN} {w : Nat} {S : PS} {B i : Nat} (h : SI M w S B) (hi : i < gna M) (h0 : sph S i = 0) : SI M w (sarr i S) B := by
  refine ⟨fun a ha => ?_, fun q hq => ?_⟩
  · obtain ⟨h1, h2, h3, h4, h5, h6⟩ := h.1 a ha
    refine ⟨h1, h2, ?_, ?_, ?_, ?_⟩
    · rw [sarr_ph]; split <;> omega
    · rw [sarr_ph]; split
      · intro z; omega
      · exact h4
    · intro _
      show scm S (scu S a) ≤ B
      by_cases e : a = i
      · subst e; exact h5 (by omega)
      · apply h5
        rename_i z
        rw [sarr_ph, if_neg e] at z
        exact z
    · rw [sarr_ph]; split
      · intro z; omega
      · exact h6
  · have hcc := (cnt_change (M := M) (S := S) (S' := sarr i S) (p := q) hi (fun a hne => by rw [sarr_ph, if_neg hne]) (fun a _ => rfl)).1
    have h1 : hcf M (sarr i S) q i = 0 := by
      unfold hcf
      rw [sarr_ph, if_pos rfl, if_neg (by omega)]
    have h2 := h.2 q hq
    omega
theorem mArrive {M : MN} {w : Nat} {n : SN} {S : PS} {p : SP} {B : Nat} (ok : gOK M) (hn : RN M n) (hs : SI M w S B) (hc : EC M w S p) {i t : Nat} (hi : i < gna M) (h0 : sph S i = 0) (ht : scm S (scu S i) = t) : ∃ p', mX2_arrive p n (nI i) (nI t) = some p' ∧ EC M w (sarr i S) p' := by
  have h60 := ok.2.1
  have h5 := ok.1
  obtain ⟨hv, hdiv, h300⟩ := hs.row ok hi
  have hpl := (ok.2.2.2.2 _ hv).1
  have hpn := (hn.2.2.2.2 _ hv).1
  unfold mX2_arrive
  rw [cl_n (j := i) (by omega), (hc.1 i hi).1, cl_n (j := scu S i) (by omega), hpn, cl_n (j := gpa M (scu S i)) (by omega), (hc.2.1 _ hpl).2]
  rw [ck_nI (by omega) (by omega), ck_nI (by omega) (by omega), ck_nI (by omega) (by omega), ck_nI (by omega) (by omega), ck_nI (by omega) (by omega), ck_nI (by omega) (by omega), ck_nI (by omega) (by omega)]
  refine ⟨_, rfl, fun a ha => ⟨(hc.1 a ha).1, ?_, ?_⟩, fun q hq => ?_, fun r hr => ⟨fun h => ?_, fun h => ?_⟩⟩
  · show upd (P_states p) i 1 a = nI (sph (sarr i S) a)
    rw [sarr_ph]
    by_cases e : a = i
    · subst e; rw [up_s, if_pos rfl]; rfl
    · rw [up_n e, if_neg e]; exact (hc.1 a ha).2.1
  · show upd (P_dues p) i 1000000000 a = nI (sdue (sarr i S) a)
    by_cases e : a = i
    · subst e; rw [up_s, sarr_due_i]; rfl
    · rw [up_n e, (hc.1 a ha).2.2]
      exact congrArg nI (sdue_congr (S := S) (S' := sarr i S) (by rw [sarr_ph, if_neg e]) rfl rfl rfl).symm
  · have hcc := cnt_change (M := M) (S := S) (S' := sarr i S) (p := q) hi (fun a hne => by rw [sarr_ph, if_neg hne]) (fun a _ => rfl)
    have e1 : hcf M S q i = 0 := by unfold hcf; rw [if_neg (by omega)]
    have e2 : hcf M (sarr i S) q i = 0 := by unfold hcf; rw [sarr_ph, if_pos rfl, if_neg (by omega)]
    have e3 : wcf M S q i = 0 := by unfold wcf; rw [if_neg (by omega)]
    have e4 : wcf M (sarr i S) q i = if gpa M (scu S i) = q then 1 else 0 := by
      unfold wcf
      rw [sarr_ph, if_pos rfl]
      simp only [true_and]
      rfl
    refine ⟨?_, ?_⟩
    · show P_free p q = _
      rw [(hc.2.1 q hq).1]
      congr 2
      omega
    · show upd (P_waiting p) (gpa M (scu S i)) (nI (swc M S (gpa M (scu S i)) (gna M)) + 1) q = _
      by_cases e : q = gpa M (scu S i)
      · subst e
        rw [up_s, ad_1]
        rw [if_pos rfl] at e4
        congr 1
        omega
      · rw [up_n e, (hc.2.1 q hq).2]
        rw [if_neg (fun z => e z.symm)] at e4
        congr 1
        omega
  · show upd (P_came p) (scu S i) (nI t) r = nI (scm S r)
    by_cases e : r = scu S i
    · subst e; rw [up_s, ht]
    · rw [up_n e]
      refine ((hc.2.2 r hr).1 ?_)
      rcases h with h | ⟨h, h'⟩
      · exact Or.inl h
      · by_cases e2 : r / 5 = i
        · exfalso; apply e; rw [← e2]; exact h
        · rw [sarr_ph, if_neg e2] at h'
          exact Or.inr ⟨h, h'⟩
  · refine ((hc.2.2 r hr).2 ?_)
    rcases h with h | ⟨h, h'⟩
    · exact Or.inl h
    · by_cases e2 : r / 5 = i
      · rw [sarr_ph, if_pos e2] at h'; omega
      · rw [sarr_ph, if_neg e2] at h'
        exact Or.inr ⟨h, h'⟩
