/-! PURE: the class's play, part e: who is begun with at a place; a tick; the whole play -/
theorem sbeg_ph (M : MN) (t i : Nat) (S : PS) (a : Nat) : sph (sbeg M t i S) a = if a = i then 2 else sph S a := rfl
theorem sbeg_bg (M : MN) (t i : Nat) (S : PS) (r : Nat) : sbg (sbeg M t i S) r = if r = scu S i then t else sbg S r := rfl
theorem sbeg_dn (M : MN) (t i : Nat) (S : PS) (r : Nat) : sdn (sbeg M t i S) r = if r = scu S i then t + gwo M (scu S i) else sdn S r := rfl
theorem sbeg_cnt {M : MN} {t i : Nat} {S : PS} (hi : i < gna M) (h1 : sph S i = 1) (q : Nat) : shc M (sbeg M t i S) q (gna M) = shc M S q (gna M) + (if gpa M (scu S i) = q then 1 else 0) ∧ swc M (sbeg M t i S) q (gna M) + (if gpa M (scu S i) = q then 1 else 0) = swc M S q (gna M) := by
  have hcc := cnt_change (M := M) (S := S) (S' := sbeg M t i S) (p := q) hi (fun a hne => by rw [sbeg_ph, if_neg hne]) (fun a _ => rfl)
  have e1 : hcf M S q i = 0 := by unfold hcf; rw [if_neg (by omega)]
  have e2 : hcf M (sbeg M t i S) q i = if gpa M (scu S i) = q then 1 else 0 := by
    unfold hcf
    rw [sbeg_ph, if_pos rfl]
    simp only [true_and]
    rfl
  have e3 : wcf M S q i = if gpa M (scu S i) = q then 1 else 0 := by
    unfold wcf
    rw [h1]
    simp only [true_and]
  have e4 : wcf M (sbeg M t i S) q i = 0 := by unfold wcf; rw [sbeg_ph, if_pos rfl, if_neg (by omega)]
  omega
theorem SI_beg {M : MN} {w : Nat} {S : PS} {B i t : Nat} (ok : gOK M) (h : SI M w S B) (hi : i < gna M) (h1 : sph S i = 1) (ht : t + 1000 ≤ B) (hf : shc M S (gpa M (scu S i)) (gna M) < shw M w (gpa M (scu S i))) : SI M w (sbeg M t i S) B := by
  obtain ⟨hv, hdiv, -⟩ := h.row ok hi
  have hwo := (ok.2.2.2.2 _ hv).2.2
  refine ⟨fun a ha => ?_, fun q hq => ?_⟩
  · obtain ⟨g1, g2, g3, g4, g5, g6⟩ := h.1 a ha
    obtain ⟨-, hdiva, -⟩ := h.row ok ha
    rw [sbeg_ph, sbeg_dn]
    by_cases e : a = i
    · subst e
      rw [if_pos rfl]
      refine ⟨g1, g2, by omega, fun z => by omega, fun z => by omega, fun _ => ?_⟩
      rw [if_pos (show scu (sbeg M t a S) a = scu S a from rfl)]
      omega
    · rw [if_neg e]
      refine ⟨g1, g2, g3, g4, g5, fun z => ?_⟩
      rw [if_neg (by intro z; apply e; rw [← hdiva, ← hdiv]; exact congrArg (· / 5) z)]
      exact g6 z
  · have hcc := (sbeg_cnt (t := t) hi h1 q).1
    have := h.2 q hq
    rw [hcc]
    split
    · rename_i e; subst e; omega
    · omega
theorem bl_loop {M : MN} {w : Nat} {n : SN} {B t p : Nat} (ok : gOK M) (hn : RN M n) (hB : B ≤ 900000000) (ht : t + 1000 ≤ B) (hp : p < gnp M) :
    ∀ (d j k : Nat) (S : PS) (vP : SP), j + d = 60 → d < k → SI M w S B → EC M w S vP → ∃ p', (lpX2_beginAt_3 n (nI p) (nI t) k (nI j) vP).bind (fun o => qS o (fun z => z) fun v => some v) = some p' ∧ EC M w (sbl M w t p d S) p' ∧ SI M w (sbl M w t p d S) B := by
  have h60 := ok.2.1
  have h5 := ok.1
  intro d
  induction d with
  | zero =>
    intro j k S vP hi hk hs hc
    obtain ⟨k, rfl⟩ : ∃ j, k = j + 1 := ⟨k - 1, by omega⟩
    rw [lpX2_beginAt_3, show (60 : Int32) = nI 60 from rfl, if_pos (by rw [le_n (by omega) (by omega)]; omega)]
    exact ⟨vP, rfl, hc, hs⟩
  | succ d ih =>
    intro j k S vP hi hk hs hc
    obtain ⟨k, rfl⟩ : ∃ j, k = j + 1 := ⟨k - 1, by omega⟩
    have hwl := swc_le M S p (gna M)
    have hhe := ok.2.2.1 p hp
    have hsw : shw M w p ≤ 9 := by unfold shw; split <;> omega
    rw [lpX2_beginAt_3, show (60 : Int32) = nI 60 from rfl, if_neg (by rw [le_n (by omega) (by omega)]; omega), cl_n (j := p) (by omega), (hc.2.1 p hp).1, (hc.2.1 p hp).2, mFw ok hn hs (by omega) hc hp]
    rw [ck_nI (j := p) (by omega) (by omega), ck_nI (j := p) (by omega) (by omega)]
    rw [sbl]
    by_cases hf : shw M w p ≤ shc M S p (gna M)
    · rw [if_pos (by rw [show (0 : Int32) = nI 0 from rfl, le_n (by omega) (by omega)]; omega), if_pos hf]
      exact ⟨vP, rfl, hc, hs⟩
    · rw [if_neg (by rw [show (0 : Int32) = nI 0 from rfl, le_n (by omega) (by omega)]; omega), if_neg hf]
      by_cases hw0 : swc M S p (gna M) = 0
      · rw [if_pos (by rw [show (0 : Int32) = nI 0 from rfl, le_n (by omega) (by omega)]; omega), spk_none.mpr hw0]
        exact ⟨vP, rfl, hc, hs⟩
      · rw [if_neg (by rw [show (0 : Int32) = nI 0 from rfl, le_n (by omega) (by omega)]; omega), bi_s]
        cases hsp : spk M S p (gna M) with
        | none => exact absurd (spk_none.mp hsp) hw0
        | some b =>
          obtain ⟨hb, hb1, hbp⟩ := spk_some hsp
          obtain ⟨hv, hdiv, h300⟩ := hs.row ok hb
          have hwo := (ok.2.2.2.2 _ hv).2.2
          have hSI := SI_beg (t := t) ok hs hb hb1 ht (by rw [hbp]; omega)
          rw [if_neg (by show ¬ nI b = -1; rw [ne_n1 (by omega)]; exact not_false)]
          show ∃ p', (ck (nI b) 60 _).bind _ = some p' ∧ _
          rw [show eo (some b) = nI b from rfl, cl_n (j := b) (by omega), (hc.1 b hb).1, cl_n (j := scu S b) (by omega), (hn.2.2.2.2 _ hv).2]
          rw [ck_nI (j := b) (by omega) (by omega), ck_nI (j := scu S b) (by omega) (by omega), ck_nI (j := scu S b) (by omega) (by omega), ck_nI (j := scu S b) (by omega) (by omega), ck_nI (j := b) (by omega) (by omega), ck_nI (j := scu S b) (by omega) (by omega), ck_nI (j := b) (by omega) (by omega), ck_nI (j := p) (by omega) (by omega), ck_nI (j := p) (by omega) (by omega), ck_nI (j := p) (by omega) (by omega), ck_nI (j := p) (by omega) (by omega), ad_1, ad_n, up_s]
          refine ih (j + 1) k (sbeg M t b S) _ (by omega) (by omega) hSI ⟨fun a ha => ⟨(hc.1 a ha).1, ?_, ?_⟩, fun q hq => ?_, fun r hr => ⟨fun h => ?_, fun h => ?_⟩⟩
          · show upd (P_states vP) b 2 a = nI (sph (sbeg M t b S) a)
            rw [sbeg_ph]
            by_cases e : a = b
            · subst e; rw [up_s, if_pos rfl]; rfl
            · rw [up_n e, if_neg e]; exact (hc.1 a ha).2.1
          · show upd (P_dues vP) b (nI (t + gwo M (scu S b))) a = nI (sdue (sbeg M t b S) a)
            by_cases e : a = b
            · subst e
              rw [up_s]
              unfold sdue
              rw [sbeg_ph, if_pos rfl, if_neg (by omega), if_pos rfl, sbeg_dn, if_pos (show scu (sbeg M t a S) a = scu S a from rfl)]
            · rw [up_n e, (hc.1 a ha).2.2]
              obtain ⟨-, hdiva, -⟩ := hs.row ok ha
              refine congrArg nI (sdue_congr (S := S) (S' := sbeg M t b S) (by rw [sbeg_ph, if_neg e]) rfl rfl ?_).symm
              rw [sbeg_dn, if_neg (by intro z; apply e; rw [← hdiva, ← hdiv]; exact congrArg (· / 5) z)]
          · have hcc := sbeg_cnt (t := t) hb hb1 q
            refine ⟨?_, ?_⟩
            · show upd (P_free vP) p (nI (shw M w p - shc M S p (gna M)) - 1) q = _
              by_cases e : q = p
              · subst e
                rw [if_pos hbp] at hcc
                rw [up_s, su_1 (by omega), hcc.1]
                congr 1
              · rw [if_neg (by rw [hbp]; exact fun z => e z.symm)] at hcc
                rw [up_n e, (hc.2.1 q hq).1, hcc.1]
                rfl
            · show upd (P_waiting vP) p (nI (swc M S p (gna M)) - 1) q = _
              by_cases e : q = p
              · subst e
                rw [if_pos hbp] at hcc
                rw [up_s, su_1 (by omega)]
                congr 1
                omega
              · rw [if_neg (by rw [hbp]; exact fun z => e z.symm)] at hcc
                rw [up_n e, (hc.2.1 q hq).2]
                congr 1
                omega
          · refine (hc.2.2 r hr).1 ?_
            rcases h with h | ⟨h, h'⟩
            · exact Or.inl h
            · by_cases e2 : r / 5 = b
              · exact Or.inr ⟨h, by rw [e2]; omega⟩
              · rw [sbeg_ph, if_neg e2] at h'
                exact Or.inr ⟨h, h'⟩
          · show upd (P_begun vP) (scu S b) (nI t) r = nI (sbg (sbeg M t b S) r) ∧ upd (P_done vP) (scu S b) (nI (t + gwo M (scu S b))) r = nI (sdn (sbeg M t b S) r)
            rw [sbeg_bg, sbeg_dn]
            by_cases e : r = scu S b
            · subst e
              rw [up_s, up_s, if_pos rfl, if_pos rfl]
              exact ⟨rfl, rfl⟩
            · rw [up_n e, up_n e, if_neg e, if_neg e]
              refine (hc.2.2 r hr).2 ?_
              rcases h with h | ⟨h, h'⟩
              · exact Or.inl h
              · by_cases e2 : r / 5 = b
                · exfalso; apply e; rw [← e2]; exact h
                · rw [sbeg_ph, if_neg e2] at h'
                  exact Or.inr ⟨h, h'⟩
theorem mBegin {M : MN} {w : Nat} {n : SN} {B t p : Nat} (ok : gOK M) (hn : RN M n) (hB : B ≤ 900000000) (ht : t + 1000 ≤ B) (hp : p < gnp M) {S : PS} {vP : SP} (hs : SI M w S B) (hc : EC M w S vP) : ∃ p', mX2_beginAt vP n (nI p) (nI t) = some p' ∧ EC M w (sbl M w t p 60 S) p' ∧ SI M w (sbl M w t p 60 S) B := by
  unfold mX2_beginAt
  exact bl_loop ok hn hB ht hp 60 0 qFU S vP rfl (by unfold qFU; omega) hs hc
theorem ba_loop {M : MN} {w : Nat} {n : SN} {B t : Nat} (ok : gOK M) (hn : RN M n) (hB : B ≤ 900000000) (ht : t + 1000 ≤ B) {S : PS} :
    ∀ (d i k : Nat) (vP : SP), i + d = gnp M → d < k → SI M w (sba M w t i S) B → EC M w (sba M w t i S) vP → ∃ p', lpX2_run_40 n (nI t) k (nI i) vP = some p' ∧ EC M w (sba M w t (gnp M) S) p' ∧ SI M w (sba M w t (gnp M) S) B := by
  have h5 := ok.1
  intro d
  induction d with
  | zero =>
    intro i k p hi hk hs hc
    obtain ⟨k, rfl⟩ : ∃ j, k = j + 1 := ⟨k - 1, by omega⟩
    rw [lpX2_run_40, hn.1, if_pos (by rw [le_n (by omega) (by omega)]; omega)]
    rw [show i = gnp M by omega] at hs hc
    exact ⟨p, rfl, hc, hs⟩
  | succ d ih =>
    intro i k p hi hk hs hc
    obtain ⟨k, rfl⟩ : ∃ j, k = j + 1 := ⟨k - 1, by omega⟩
    rw [lpX2_run_40, hn.1, if_neg (by rw [le_n (by omega) (by omega)]; omega)]
    obtain ⟨p', hp', hE, hS⟩ := mBegin ok hn hB ht (p := i) (by omega) hs hc
    rw [hp', bi_s, ad_1]
    exact ih (i + 1) k p' (by omega) (by omega) hS hE
theorem smn_le {M : MN} {w : Nat} {S : PS} {B : Nat} (hs : SI M w S B) : ∀ n, n ≤ gna M → smn (sdue S) n = 1000000000 ∨ smn (sdue S) n ≤ B
  | 0, _ => Or.inl rfl
  | n + 1, h => by
    have ih := smn_le hs n (by omega)
    obtain ⟨-, -, -, -, g5, g6⟩ := hs.1 n (by omega)
    rw [smn]
    split
    · unfold sdue
      split
      · exact Or.inr (g5 (by omega))
      · split
        · exact Or.inr (g6 (by omega))
        · exact Or.inl rfl
    · exact ih
theorem rn_loop {M : MN} {w : Nat} {n : SN} (ok : gOK M) (hn : RN M n) :
    ∀ (d j k B : Nat) (S : PS) (vP : SP), j + d = 600 → d < k → B + 1000 * d ≤ 900000000 → SI M w S B → EC M w S vP → ∃ p', (lpX2_run_8 n k (nI j) vP).bind (fun o => qS o (fun z => z) fun v => some v) = some p' ∧ EC M w (srn M w d S) p' ∧ SI M w (srn M w d S) (B + 1000 * d) := by
  have h60 := ok.2.1
  have h5 := ok.1
  intro d
  induction d with
  | zero =>
    intro j k B S vP hi hk hB hs hc
    obtain ⟨k, rfl⟩ : ∃ j, k = j + 1 := ⟨k - 1, by omega⟩
    rw [lpX2_run_8, show (600 : Int32) = nI 600 from rfl, if_pos (by rw [le_n (by omega) (by omega)]; omega)]
    exact ⟨vP, rfl, hc, hs⟩
  | succ d ih =>
    intro j k B S vP hi hk hB hs hc
    obtain ⟨k, rfl⟩ : ∃ j, k = j + 1 := ⟨k - 1, by omega⟩
    rw [lpX2_run_8, show (600 : Int32) = nI 600 from rfl, if_neg (by rw [le_n (by omega) (by omega)]; omega), mNext ok hn hs (by omega) hc, bi_s, srn]
    have hm := smn_le hs (gna M) (Nat.le_refl _)
    generalize smn (sdue S) (gna M) = T at hm ⊢
    by_cases hN : T = 1000000000
    · rw [if_pos (by rw [hN]; rfl), if_pos hN]
      exact ⟨vP, rfl, hc, hs.mono (by omega)⟩
    · rw [if_neg (by rw [show (1000000000 : Int32) = nI 1000000000 from rfl, eq_n (by omega) (by omega)]; exact hN), if_neg hN]
      have hTB : T ≤ B := hm.resolve_left hN
      have k0 : B + 1000 ≤ B + 1000 * (d + 1) := by clear hN hm hB; omega
      have k1 : B + 1000 ≤ 900000000 := Nat.le_trans k0 hB
      have k2 : T + 1000 ≤ B + 1000 := by clear hN hm hB; omega
      obtain ⟨p1, h1, hE1, hS1⟩ := mAdvance (t := T) (B := B + 1000) ok hn k1 k2 (hs.mono (by omega)) hc
      rw [h1, bi_s]
      obtain ⟨p2, h2, hE2, hS2⟩ := ba_loop (S := sadv M T S (gna M)) (t := T) (B := B + 1000) ok hn k1 k2 (gnp M) 0 qFU p1 (by omega) (by unfold qFU; omega) hS1 hE1
      rw [show (0 : Int32) = nI 0 from rfl, h2, bi_s, ad_1]
      obtain ⟨p3, h3, hE3, hS3⟩ := ih (j + 1) k (B + 1000) (stk M w T S) p2 (by omega) (by omega) (by omega) hS2 hE2
      exact ⟨p3, h3, hE3, hS3.mono (by omega)⟩
/-! the opening -/
theorem op_loop1 {M : MN} {n : SN} (ok : gOK M) (hn : RN M n) {w : Nat} {x : Int32} (hx : ∀ p, p < gnp M → (nI p = x ↔ p = w)) :
    ∀ (d i k : Nat) (vP : SP), i + d = gnp M → d < k → (∀ q, q < i → P_free vP q = nI (shw M w q) ∧ P_waiting vP q = 0) → ∃ p', lpX2_open_2 n x k (nI i) vP = some p' ∧ (∀ q, q < gnp M → P_free p' q = nI (shw M w q) ∧ P_waiting p' q = 0) := by
  have h5 := ok.1
  intro d
  induction d with
  | zero =>
    intro i k p hi hk hq
    obtain ⟨k, rfl⟩ : ∃ j, k = j + 1 := ⟨k - 1, by omega⟩
    rw [lpX2_open_2, hn.1, if_pos (by rw [le_n (by omega) (by omega)]; omega)]
    exact ⟨p, rfl, fun q h => hq q (by omega)⟩
  | succ d ih =>
    intro i k p hi hk hq
    obtain ⟨k, rfl⟩ : ∃ j, k = j + 1 := ⟨k - 1, by omega⟩
    have hi2 : i < gnp M := by omega
    rw [lpX2_open_2, hn.1, if_neg (by rw [le_n (by omega) (by omega)]; omega), cl_n (by omega), (hn.2.2.1 i hi2).1, ck_nI (by omega) (by omega), ck_nI (by omega) (by omega), ad_1]
    have e : (if nI i = x then some (nI (ghe M i + 1)) else some (nI (ghe M i))) = some (nI (shw M w i)) := by
      unfold shw
      by_cases h : i = w
      · rw [if_pos ((hx i hi2).mpr h), if_pos h]
      · rw [if_neg (fun z => h ((hx i hi2).mp z)), if_neg h]; rfl
    rw [e, bi_s, ck_nI (by omega) (by omega), ck_nI (by omega) (by omega), ad_1]
    refine ih (i + 1) k _ (by omega) (by omega) (fun q h => ?_)
    show upd (P_free p) i (nI (shw M w i)) q = _ ∧ upd (P_waiting p) i 0 q = 0
    by_cases e2 : q = i
    · subst e2; rw [up_s, up_s]; exact ⟨rfl, rfl⟩
    · rw [up_n e2, up_n e2]; exact hq q (by omega)
theorem op_loop2 {M : MN} {n : SN} (ok : gOK M) (hn : RN M n) :
    ∀ (d i k : Nat) (vP : SP), i + d = gna M → d < k → (∀ a, a < i → P_rows vP a = nI (5 * a) ∧ P_states vP a = 0 ∧ P_dues vP a = nI (gst M a)) → ∃ p', lpX2_open_53 n k (nI i) vP = some p' ∧ (∀ a, a < gna M → P_rows p' a = nI (5 * a) ∧ P_states p' a = 0 ∧ P_dues p' a = nI (gst M a)) ∧ P_free p' = P_free vP ∧ P_waiting p' = P_waiting vP := by
  have h5 := ok.2.1
  intro d
  induction d with
  | zero =>
    intro i k p hi hk hq
    obtain ⟨k, rfl⟩ : ∃ j, k = j + 1 := ⟨k - 1, by omega⟩
    rw [lpX2_open_53, hn.2.1, if_pos (by rw [le_n (by omega) (by omega)]; omega)]
    exact ⟨p, rfl, fun q h => hq q (by omega), rfl, rfl⟩
  | succ d ih =>
    intro i k p hi hk hq
    obtain ⟨k, rfl⟩ : ∃ j, k = j + 1 := ⟨k - 1, by omega⟩
    have hi2 : i < gna M := by omega
    rw [lpX2_open_53, hn.2.1, if_neg (by rw [le_n (by omega) (by omega)]; omega), mFirst, cl_n (by omega), (hn.2.2.2.1 i hi2).2.1, bi_s, ck_nI (by omega) (by omega), ck_nI (by omega) (by omega), ck_nI (by omega) (by omega), ck_nI (by omega) (by omega), ad_1]
    obtain ⟨p', h1, h2, h3, h4⟩ := ih (i + 1) k (P_dues_s (P_rows_s (P_states_s p (upd (P_states p) i 0)) (upd (P_rows p) i (nI (5 * i)))) (upd (P_dues p) i (nI (gst M i)))) (by omega) (by omega) (fun q h => by
      show upd (P_rows p) i (nI (5 * i)) q = _ ∧ upd (P_states p) i 0 q = 0 ∧ upd (P_dues p) i (nI (gst M i)) q = _
      by_cases e2 : q = i
      · subst e2; rw [up_s, up_s, up_s]; exact ⟨rfl, rfl, rfl⟩
      · rw [up_n e2, up_n e2, up_n e2]; exact hq q (by omega))
    exact ⟨p', h1, h2, h3, h4⟩
theorem cnt0 (M : MN) (p : Nat) : ∀ n, shc M (s0 M) p n = 0 ∧ swc M (s0 M) p n = 0
  | 0 => ⟨rfl, rfl⟩
  | n + 1 => by
    obtain ⟨h1, h2⟩ := cnt0 M p n
    rw [shc, swc, h1, h2, if_neg (by rintro ⟨z, -⟩; cases z), if_neg (by rintro ⟨z, -⟩; cases z)]
    exact ⟨rfl, rfl⟩
theorem SI_0 {M : MN} (ok : gOK M) (w : Nat) : SI M w (s0 M) 100000 := by
  refine ⟨fun a ha => ?_, fun q _ => by rw [(cnt0 M q _).1]; omega⟩
  have h := ok.2.2.2.1 a ha
  have e : scu (s0 M) a = 5 * a := rfl
  have e1 : sph (s0 M) a = 0 := rfl
  rw [e, e1]
  refine ⟨by omega, by omega, by omega, fun z => by omega, fun _ => ?_, fun z => by omega⟩
  show gst M (5 * a / 5) ≤ 100000
  rw [show 5 * a / 5 = a by omega]
  exact h.2.1
theorem mOpen {M : MN} {n : SN} (ok : gOK M) (hn : RN M n) {w : Nat} {x : Int32} (hx : ∀ p, p < gnp M → (nI p = x ↔ p = w)) (vP : SP) : ∃ p', mX2_open vP n x = some p' ∧ EC M w (s0 M) p' := by
  have h5 := ok.1
  have h60 := ok.2.1
  unfold mX2_open
  obtain ⟨p1, h1, h2⟩ := op_loop1 ok hn hx (gnp M) 0 qFU vP (by omega) (by unfold qFU; omega) (fun q h => absurd h (Nat.not_lt_zero q))
  rw [show (0 : Int32) = nI 0 from rfl, h1, bi_s]
  obtain ⟨p2, h3, h4, h6, h7⟩ := op_loop2 ok hn (gna M) 0 qFU p1 (by omega) (by unfold qFU; omega) (fun q h => absurd h (Nat.not_lt_zero q))
  rw [h3, bi_s]
  refine ⟨p2, rfl, fun a ha => ⟨(h4 a ha).1, (h4 a ha).2.1, ?_⟩, fun q hq => ⟨?_, ?_⟩, fun r hr => ⟨fun h => ?_, fun h => ?_⟩⟩
  · rw [(h4 a ha).2.2]
    show _ = nI (gst M (5 * a / 5))
    rw [show 5 * a / 5 = a by omega]
  · rw [h6, (h2 q hq).1, (cnt0 M q _).1]; rfl
  · rw [h7, (h2 q hq).2, (cnt0 M q _).2]; rfl
  · exfalso
    have e : scu (s0 M) (r / 5) = 5 * (r / 5) := rfl
    have e1 : sph (s0 M) (r / 5) = 0 := rfl
    rw [e, e1] at h
    omega
  · exfalso
    have e : scu (s0 M) (r / 5) = 5 * (r / 5) := rfl
    have e1 : sph (s0 M) (r / 5) = 0 := rfl
    rw [e, e1] at h
    omega
/-- the play's end -/
def sEnd (M : MN) (w : Nat) : PS := srn M w 600 (s0 M)
theorem mRun {M : MN} {n : SN} (ok : gOK M) (hn : RN M n) {w : Nat} {x : Int32} (hx : ∀ p, p < gnp M → (nI p = x ↔ p = w)) (vP : SP) : ∃ p', mX2_run vP n x = some p' ∧ EC M w (sEnd M w) p' ∧ SI M w (sEnd M w) 700000 := by
  unfold mX2_run
  obtain ⟨p1, h1, h2⟩ := mOpen ok hn hx vP
  rw [h1, bi_s]
  exact rn_loop ok hn 600 0 qFU 100000 (s0 M) p1 rfl (by unfold qFU; omega) (by omega) (SI_0 ok w) h2
