/-! PURE: the class's play, part c: an ask's step is done; all asks at a tick -/
def sgo (i : Nat) (S : PS) : PS := (scu S, (fun a => if a = i then 3 else sph S a), scm S, sbg S, sdn S)
def snx (M : MN) (t i : Nat) (S : PS) : PS := ((fun a => if a = i then scu S i + 1 else scu S a), (fun a => if a = i then 0 else sph S a), (fun r => if r = scu S i + 1 then t + gde M (gpa M (scu S i)) else scm S r), sbg S, sdn S)
theorem sfin_last {M : MN} {t i : Nat} {S : PS} (h : scu S i + 1 = 5 * i + gle M i) : sfin M t i S = sgo i S := by
  unfold sfin
  rw [if_pos h]
  rfl
theorem sfin_del {M : MN} {t i : Nat} {S : PS} (h : ¬ scu S i + 1 = 5 * i + gle M i) (hd : ¬ gde M (gpa M (scu S i)) = 0) : sfin M t i S = snx M t i S := by
  unfold sfin snx
  rw [if_neg h, if_neg hd]
theorem sfin_now {M : MN} {t i : Nat} {S : PS} (h : ¬ scu S i + 1 = 5 * i + gle M i) (hd : gde M (gpa M (scu S i)) = 0) : sfin M t i S = sarr i (snx M t i S) := by
  unfold sfin sarr snx
  rw [if_neg h, if_pos hd]
  refine Prod.ext rfl (Prod.ext ?_ rfl)
  funext a
  show (if a = i then 1 else sph S a) = if a = i then 1 else if a = i then 0 else sph S a
  by_cases e : a = i
  · rw [if_pos e, if_pos e]
  · rw [if_neg e, if_neg e, if_neg e]
theorem sgo_ph (i : Nat) (S : PS) (a : Nat) : sph (sgo i S) a = if a = i then 3 else sph S a := rfl
theorem snx_ph (M : MN) (t i : Nat) (S : PS) (a : Nat) : sph (snx M t i S) a = if a = i then 0 else sph S a := rfl
theorem snx_cu (M : MN) (t i : Nat) (S : PS) (a : Nat) : scu (snx M t i S) a = if a = i then scu S i + 1 else scu S a := rfl
theorem snx_cm (M : MN) (t i : Nat) (S : PS) (r : Nat) : scm (snx M t i S) r = if r = scu S i + 1 then t + gde M (gpa M (scu S i)) else scm S r := rfl
theorem SI_go {M : MN} {w : Nat} {S : PS} {B i : Nat} (h : SI M w S B) (hi : i < gna M) (h2 : sph S i = 2) (hl : scu S i + 1 = 5 * i + gle M i) : SI M w (sgo i S) B := by
  refine ⟨fun a ha => ?_, fun q hq => ?_⟩
  · obtain ⟨g1, g2, g3, g4, g5, g6⟩ := h.1 a ha
    refine ⟨g1, g2, ?_, ?_, ?_, ?_⟩
    · rw [sgo_ph]; split <;> omega
    · rw [sgo_ph]; split
      · rename_i e; intro _; subst e; exact hl
      · exact g4
    · rw [sgo_ph]; split
      · intro z; omega
      · exact g5
    · intro _
      show sdn S (scu S a) ≤ B
      by_cases e : a = i
      · subst e; exact g6 (by omega)
      · apply g6
        rename_i z
        rw [sgo_ph, if_neg e] at z
        exact z
  · have hcc := (cnt_change (M := M) (S := S) (S' := sgo i S) (p := q) hi (fun a hne => by rw [sgo_ph, if_neg hne]) (fun a _ => rfl)).1
    have e1 : hcf M (sgo i S) q i = 0 := by unfold hcf; rw [sgo_ph, if_pos rfl, if_neg (by omega)]
    have := h.2 q hq
    omega
theorem SI_nx {M : MN} {w : Nat} {S : PS} {B i t : Nat} (ok : gOK M) (h : SI M w S B) (hi : i < gna M) (h2 : sph S i = 2) (hl : ¬ scu S i + 1 = 5 * i + gle M i) (ht : t + 1000 ≤ B) : SI M w (snx M t i S) B := by
  obtain ⟨hv, hdiv, -⟩ := h.row ok hi
  have hde := (ok.2.2.1 _ (ok.2.2.2.2 _ hv).1).2.2.2
  refine ⟨fun a ha => ?_, fun q hq => ?_⟩
  · obtain ⟨g1, g2, g3, g4, g5, g6⟩ := h.1 a ha
    by_cases e : a = i
    · subst e
      rw [snx_cu, snx_ph, if_pos rfl, if_pos rfl]
      refine ⟨by omega, by omega, by omega, fun z => by omega, fun _ => ?_, fun z => by omega⟩
      rw [snx_cm, if_pos rfl]
      omega
    · rw [snx_cu, snx_ph, if_neg e, if_neg e]
      refine ⟨g1, g2, g3, g4, fun z => ?_, g6⟩
      rw [snx_cm]
      split
      · omega
      · exact g5 z
  · have hcc := (cnt_change (M := M) (S := S) (S' := snx M t i S) (p := q) hi (fun a hne => by rw [snx_ph, if_neg hne]) (fun a hne => by rw [snx_cu, if_neg hne])).1
    have e1 : hcf M (snx M t i S) q i = 0 := by unfold hcf; rw [snx_ph, if_pos rfl, if_neg (by omega)]
    have := h.2 q hq
    omega
theorem mFinish {M : MN} {w : Nat} {n : SN} {S : PS} {p : SP} {B : Nat} (ok : gOK M) (hn : RN M n) (hs : SI M w S B) (hB : B ≤ 900000000) (hc : EC M w S p) {i t : Nat} (hi : i < gna M) (h2 : sph S i = 2) (htB : t + 1000 ≤ B) (ht : sdn S (scu S i) = t) : ∃ p', mX2_finish p n (nI i) (nI t) = some p' ∧ EC M w (sfin M t i S) p' ∧ SI M w (sfin M t i S) B := by
  have h60 := ok.2.1
  have h5 := ok.1
  obtain ⟨hv, hdiv, h300⟩ := hs.row ok hi
  have hpl := (ok.2.2.2.2 _ hv).1
  have hpn := (hn.2.2.2.2 _ hv).1
  have hde := (ok.2.2.1 _ hpl).2.2.2
  have hle := (ok.2.2.2.1 i hi).2.2
  obtain ⟨g1, g2, g3, g4, g5, g6⟩ := hs.1 i hi
  have hq0 : hcf M S (gpa M (scu S i)) i = 1 := by unfold hcf; rw [if_pos ⟨h2, rfl⟩]
  have hw := hs.2 _ hpl
  unfold mX2_finish
  rw [mLast ok hn hi, bi_s, cl_n (j := i) (by omega), (hc.1 i hi).1, cl_n (j := scu S i) (by omega), hpn, cl_n (j := gpa M (scu S i)) (by omega), (hc.2.1 _ hpl).1, (hn.2.2.1 _ hpl).2.2]
  rw [ck_nI (by omega) (by omega), ck_nI (by omega) (by omega), ck_nI (by omega) (by omega), ck_nI (by omega) (by omega)]
  by_cases hl : scu S i + 1 = 5 * i + gle M i
  · rw [if_pos (by rw [eq_n (by omega) (by omega)]; omega), ck_nI (by omega) (by omega), ck_nI (by omega) (by omega)]
    rw [sfin_last hl]
    refine ⟨_, rfl, ⟨fun a ha => ⟨(hc.1 a ha).1, ?_, ?_⟩, fun q hq => ?_, fun r hr => ⟨fun h => ?_, fun h => ?_⟩⟩, SI_go hs hi h2 hl⟩
    · show upd (P_states p) i 3 a = nI (sph (sgo i S) a)
      rw [sgo_ph]
      by_cases e : a = i
      · subst e; rw [up_s, if_pos rfl]; rfl
      · rw [up_n e, if_neg e]; exact (hc.1 a ha).2.1
    · show upd (P_dues p) i 1000000000 a = nI (sdue (sgo i S) a)
      by_cases e : a = i
      · subst e
        rw [up_s]
        unfold sdue
        rw [sgo_ph, if_pos rfl]
        rfl
      · rw [up_n e, (hc.1 a ha).2.2]
        exact congrArg nI (sdue_congr (S := S) (S' := sgo i S) (by rw [sgo_ph, if_neg e]) rfl rfl rfl).symm
    · have hcc := cnt_change (M := M) (S := S) (S' := sgo i S) (p := q) hi (fun a hne => by rw [sgo_ph, if_neg hne]) (fun a _ => rfl)
      have e2 : hcf M (sgo i S) q i = 0 := by unfold hcf; rw [sgo_ph, if_pos rfl, if_neg (by omega)]
      have e3 : wcf M S q i = 0 := by unfold wcf; rw [if_neg (by omega)]
      have e4 : wcf M (sgo i S) q i = 0 := by unfold wcf; rw [sgo_ph, if_pos rfl, if_neg (by omega)]
      refine ⟨?_, ?_⟩
      · show upd (P_free p) (gpa M (scu S i)) (nI (shw M w (gpa M (scu S i)) - shc M S (gpa M (scu S i)) (gna M)) + 1) q = _
        by_cases e : q = gpa M (scu S i)
        · subst e
          rw [up_s, ad_1]
          congr 1
          omega
        · have e1 : hcf M S q i = 0 := by unfold hcf; rw [if_neg (fun z => e z.2.symm)]
          rw [up_n e, (hc.2.1 q hq).1]
          congr 2
          omega
      · show P_waiting p q = _
        rw [(hc.2.1 q hq).2]
        congr 1
        omega
    · refine (hc.2.2 r hr).1 ?_
      rcases h with h | ⟨h, h'⟩
      · exact Or.inl h
      · by_cases e2 : r / 5 = i
        · exact Or.inr ⟨h, by rw [e2]; omega⟩
        · rw [sgo_ph, if_neg e2] at h'
          exact Or.inr ⟨h, h'⟩
    · refine (hc.2.2 r hr).2 ?_
      rcases h with h | ⟨h, h'⟩
      · exact Or.inl h
      · by_cases e2 : r / 5 = i
        · exact Or.inr ⟨h, by rw [e2]; omega⟩
        · rw [sgo_ph, if_neg e2] at h'
          exact Or.inr ⟨h, h'⟩
  · rw [if_neg (by rw [eq_n (by omega) (by omega)]; omega), ck_nI (by omega) (by omega), ck_nI (by omega) (by omega), ck_nI (by omega) (by omega), ck_nI (by omega) (by omega), ck_nI (by omega) (by omega)]
    rw [ad_1, ad_n]
    have hsx := SI_nx ok hs hi h2 hl htB
    have hEx : ∀ p2 : SP, P_rows p2 = upd (P_rows p) i (nI (scu S i + 1)) → P_states p2 = upd (P_states p) i 0 → P_dues p2 = upd (P_dues p) i (nI (t + gde M (gpa M (scu S i)))) → P_free p2 = upd (P_free p) (gpa M (scu S i)) (nI (shw M w (gpa M (scu S i)) - shc M S (gpa M (scu S i)) (gna M)) + 1) → P_waiting p2 = P_waiting p → P_came p2 = P_came p → P_begun p2 = P_begun p → P_done p2 = P_done p → EC M w (snx M t i S) p2 := by
      intro p2 q1 q2 q3 q4 q5 q6 q7 q8
      refine ⟨fun a ha => ⟨?_, ?_, ?_⟩, fun q hq => ?_, fun r hr => ⟨fun h => ?_, fun h => ?_⟩⟩
      · rw [q1, snx_cu]
        by_cases e : a = i
        · subst e; rw [up_s, if_pos rfl]
        · rw [up_n e, if_neg e]; exact (hc.1 a ha).1
      · rw [q2, snx_ph]
        by_cases e : a = i
        · subst e; rw [up_s, if_pos rfl]; rfl
        · rw [up_n e, if_neg e]; exact (hc.1 a ha).2.1
      · rw [q3]
        by_cases e : a = i
        · subst e
          rw [up_s]
          unfold sdue
          rw [snx_ph, if_pos rfl, if_pos rfl, snx_cu, if_pos rfl, snx_cm, if_pos rfl]
        · obtain ⟨k1, k2, -⟩ := hs.1 a ha
          rw [up_n e, (hc.1 a ha).2.2]
          refine congrArg nI (sdue_congr (S := S) (S' := snx M t i S) (by rw [snx_ph, if_neg e]) (by rw [snx_cu, if_neg e]) ?_ rfl).symm
          have hla := (ok.2.2.2.1 a ha).2.2.2
          rw [snx_cm, if_neg (by omega)]
      · have hcc := cnt_change (M := M) (S := S) (S' := snx M t i S) (p := q) hi (fun a hne => by rw [snx_ph, if_neg hne]) (fun a hne => by rw [snx_cu, if_neg hne])
        have e2 : hcf M (snx M t i S) q i = 0 := by unfold hcf; rw [snx_ph, if_pos rfl, if_neg (by omega)]
        have e3 : wcf M S q i = 0 := by unfold wcf; rw [if_neg (by omega)]
        have e4 : wcf M (snx M t i S) q i = 0 := by unfold wcf; rw [snx_ph, if_pos rfl, if_neg (by omega)]
        refine ⟨?_, ?_⟩
        · rw [q4]
          by_cases e : q = gpa M (scu S i)
          · subst e
            rw [up_s, ad_1]
            congr 1
            omega
          · have e1 : hcf M S q i = 0 := by unfold hcf; rw [if_neg (fun z => e z.2.symm)]
            rw [up_n e, (hc.2.1 q hq).1]
            congr 2
            omega
        · rw [q5, (hc.2.1 q hq).2]
          congr 1
          omega
      · rw [q6]
        rw [snx_cu, snx_ph] at h
        by_cases e2 : r / 5 = i
        · rw [if_pos e2, if_pos e2] at h
          rcases h with h | ⟨h, h'⟩
          · rw [snx_cm, if_neg (by omega)]
            refine (hc.2.2 r hr).1 ?_
            rw [e2]
            omega
          · omega
        · rw [if_neg e2, if_neg e2] at h
          rw [snx_cm, if_neg (by intro z; apply e2; rw [z]; omega)]
          exact (hc.2.2 r hr).1 h
      · rw [q7, q8]
        rw [snx_cu, snx_ph] at h
        by_cases e2 : r / 5 = i
        · rw [if_pos e2, if_pos e2] at h
          rcases h with h | ⟨h, h'⟩
          · refine (hc.2.2 r hr).2 ?_
            rw [e2]
            omega
          · omega
        · rw [if_neg e2, if_neg e2] at h
          exact (hc.2.2 r hr).2 h
    by_cases hd : gde M (gpa M (scu S i)) = 0
    · rw [if_pos (by rw [show (0 : Int32) = nI 0 from rfl, eq_n (by omega) (by omega)]; exact hd)]
      rw [sfin_now hl hd]
      have hEC := hEx (P_free_s (P_dues_s (P_rows_s (P_states_s p (upd (P_states p) i 0)) (upd (P_rows p) i (nI (scu S i + 1)))) (upd (P_dues p) i (nI (t + gde M (gpa M (scu S i)))))) (upd (P_free p) (gpa M (scu S i)) (nI (shw M w (gpa M (scu S i)) - shc M S (gpa M (scu S i)) (gna M)) + 1))) rfl rfl rfl rfl rfl rfl rfl rfl
      obtain ⟨p', hp', hE'⟩ := mArrive (t := t) ok hn hsx hEC hi (by rw [snx_ph, if_pos rfl]) (by rw [snx_cu, if_pos rfl, snx_cm, if_pos rfl, hd]; rfl)
      refine ⟨p', ?_, hE', SI_arr hsx hi (by rw [snx_ph, if_pos rfl])⟩
      rw [hp']
      rfl
    · rw [if_neg (by rw [show (0 : Int32) = nI 0 from rfl, eq_n (by omega) (by omega)]; exact hd)]
      rw [sfin_del hl hd]
      exact ⟨_, rfl, hEx (P_free_s (P_dues_s (P_rows_s (P_states_s p (upd (P_states p) i 0)) (upd (P_rows p) i (nI (scu S i + 1)))) (upd (P_dues p) i (nI (t + gde M (gpa M (scu S i)))))) (upd (P_free p) (gpa M (scu S i)) (nI (shw M w (gpa M (scu S i)) - shc M S (gpa M (scu S i)) (gna M)) + 1))) rfl rfl rfl rfl rfl rfl rfl rfl, hsx⟩
theorem sadv_loop {M : MN} {w : Nat} {n : SN} {S : PS} {B t : Nat} (ok : gOK M) (hn : RN M n) (hB : B ≤ 900000000) (ht : t + 1000 ≤ B) :
    ∀ (d i k : Nat) (p : SP), i + d = gna M → d < k → SI M w (sadv M t S i) B → EC M w (sadv M t S i) p → ∃ p', lpX2_advance_2 n (nI t) k (nI i) p = some p' ∧ EC M w (sadv M t S (gna M)) p' ∧ SI M w (sadv M t S (gna M)) B := by
  have h60 := ok.2.1
  intro d
  induction d with
  | zero =>
    intro i k p hi hk hs hc
    obtain ⟨k, rfl⟩ : ∃ j, k = j + 1 := ⟨k - 1, by omega⟩
    rw [lpX2_advance_2, hn.2.1, if_pos (by rw [le_n (by omega) (by omega)]; omega)]
    rw [show i = gna M by omega] at hs hc
    exact ⟨p, rfl, hc, hs⟩
  | succ d ih =>
    intro i k p hi hk hs hc
    obtain ⟨k, rfl⟩ : ∃ j, k = j + 1 := ⟨k - 1, by omega⟩
    have hi2 : i < gna M := by omega
    have b2 := sdue_le hs (by omega) (a := i) hi2
    rw [lpX2_advance_2, hn.2.1, if_neg (by rw [le_n (by omega) (by omega)]; omega), ck_nI (by omega) (by omega), cl_n (by omega), (hc.1 i hi2).2.2, (hc.1 i hi2).2.1, ad_1]
    by_cases hd : sdue (sadv M t S i) i = t
    · rw [if_pos (by rw [eq_n (by omega) (by omega)]; exact hd), ck_nI (by omega) (by omega)]
      have g3 := (hs.1 i hi2).2.2.1
      by_cases h2 : sph (sadv M t S i) i = 2
      · rw [if_pos (by rw [show (2 : Int32) = nI 2 from rfl, eq_n (by omega) (by omega)]; exact h2)]
        have hd2 : sdn (sadv M t S i) (scu (sadv M t S i) i) = t := by
          refine Eq.trans ?_ hd
          unfold sdue
          rw [if_neg (by omega), if_pos h2]
        obtain ⟨p', hp', hE', hS'⟩ := mFinish ok hn hs hB hc hi2 h2 ht hd2
        rw [hp', bi_s]
        have e : sadv M t S (i + 1) = sfin M t i (sadv M t S i) := by
          rw [sadv]
          unfold sone
          rw [if_pos hd, if_pos h2]
        exact ih (i + 1) k p' (by omega) (by omega) (by rw [e]; exact hS') (by rw [e]; exact hE')
      · rw [if_neg (by rw [show (2 : Int32) = nI 2 from rfl, eq_n (by omega) (by omega)]; exact h2)]
        have h0 : sph (sadv M t S i) i = 0 := by
          by_cases z : sph (sadv M t S i) i = 0
          · exact z
          · exfalso
            unfold sdue at hd
            rw [if_neg z, if_neg h2] at hd
            omega
        have hd2 : scm (sadv M t S i) (scu (sadv M t S i) i) = t := by
          refine Eq.trans ?_ hd
          unfold sdue
          rw [if_pos h0]
        obtain ⟨p', hp', hE'⟩ := mArrive ok hn hs hc hi2 h0 hd2
        rw [hp', bi_s]
        have e : sadv M t S (i + 1) = sarr i (sadv M t S i) := by
          rw [sadv]
          unfold sone
          rw [if_pos hd, if_neg h2]
        exact ih (i + 1) k p' (by omega) (by omega) (by rw [e]; exact SI_arr hs hi2 h0) (by rw [e]; exact hE')
    · rw [if_neg (by rw [eq_n (by omega) (by omega)]; exact hd)]
      have e : sadv M t S (i + 1) = sadv M t S i := by
        rw [sadv]
        unfold sone
        rw [if_neg hd]
      exact ih (i + 1) k p (by omega) (by omega) (by rw [e]; exact hs) (by rw [e]; exact hc)
theorem mAdvance {M : MN} {w : Nat} {n : SN} {S : PS} {B t : Nat} (ok : gOK M) (hn : RN M n) (hB : B ≤ 900000000) (ht : t + 1000 ≤ B) {p : SP} (hs : SI M w S B) (hc : EC M w S p) : ∃ p', mX2_advance p n (nI t) = some p' ∧ EC M w (sadv M t S (gna M)) p' ∧ SI M w (sadv M t S (gna M)) B := by
  unfold mX2_advance
  obtain ⟨p', h1, h2, h3⟩ := sadv_loop (S := S) ok hn hB ht (gna M) 0 qFU p (by omega) (by have := ok.2.1; unfold qFU; omega) hs hc
  rw [show (0 : Int32) = nI 0 from rfl, h1, bi_s]
  exact ⟨p', rfl, h2, h3⟩
