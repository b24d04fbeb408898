/-! PURE: the reference's play is the class's -/
def tk (u : Nat) : Int32 := if u = 0 then -1 else nI (u - 1)
theorem tk_s (t : Nat) : tk (t + 1) = nI t := by unfold tk; rw [if_neg (by omega)]; rfl
theorem le_tk {a u : Nat} (ha : a ≤ 2000000000) (hu : u ≤ 2000000000) : (nI a ≤ tk u) = (a < u) := by
  unfold tk
  apply propext
  by_cases h : u = 0
  · rw [if_pos h]
    constructor
    · intro z
      exfalso
      have z' := Int32.le_iff_toInt_le.mp z
      rw [nI_toInt (by omega), show (-1 : Int32).toInt = -1 by decide] at z'
      omega
    · intro z; omega
  · rw [if_neg h, le_n (by omega) (by omega)]
    omega
def mn2 (a b : Nat) : Nat := if a < b then a else b
def qsn (R : QS) (u : Nat) : Nat → Nat
  | 0 => 2000000000
  | n + 1 => mn2 (if u ≤ qdn R n then qdn R n else 2000000000) (mn2 (if u ≤ qcm R n then qcm R n else 2000000000) (qsn R u n))
theorem mn2_le (a b : Nat) : mn2 a b ≤ b := by unfold mn2; split <;> omega
theorem mn2_top {b : Nat} (h : b ≤ 2000000000) : mn2 2000000000 b = b := by unfold mn2; rw [if_neg (by omega)]
theorem qsn_le (R : QS) (u : Nat) : ∀ n, qsn R u n ≤ 2000000000
  | 0 => Nat.le_refl _
  | n + 1 => by
    have h1 := qsn_le R u n
    rw [qsn]
    exact Nat.le_trans (mn2_le _ _) (Nat.le_trans (mn2_le _ _) h1)
theorem mSoonP {M : MN} {pw : Nat → Nat} {R : QS} {m : SM} (ok : gOK M) (he : EQ M pw R m) (hq : QI M pw R) {u : Nat} (hu : u ≤ 2000000000) : lpX5_plays_69 m (tk u) qFU 2000000000 0 = some (nI (qsn R u (5 * gna M))) := by
  have h60 := ok.2.1
  have key := lpx (F := fun k i (x : Int32) => lpX5_plays_69 m (tk u) k x (nI i)) (G := fun x => some x) (fun i x => x = nI (qsn R u i)) (5 * gna M)
    (fun k s hs => by
      show lpX5_plays_69 m (tk u) (k + 1) s (nI (5 * gna M)) = some s
      rw [lpX5_plays_69, he.1.2.1, mu_5', if_pos (by rw [le_n (by omega) (by omega)]; omega)])
    (fun k i s hi hs => by
      show ∃ s', s' = nI (qsn R u (i + 1)) ∧ lpX5_plays_69 m (tk u) (k + 1) s (nI i) = lpX5_plays_69 m (tk u) k s' (nI (i + 1))
      have hi3 : i < 300 := by omega
      obtain ⟨b1, b2, b3, b4, b5, b6⟩ := hq.1 i hi3
      obtain ⟨c1, c2, c3, c4⟩ := he.2.1 i hi3
      have hx := qsn_le R u i
      rw [lpX5_plays_69, he.1.2.1, mu_5', if_neg (by rw [le_n (by omega) (by omega)]; omega), cl_n (by omega), c1, c3, hs]
      simp only [ckr (j := i) (n := 300) hi3 (by omega), ad_1]
      rw [mi_n (a := qcm R i) (by omega) (by omega)]
      by_cases h1 : qcm R i < u
      · rw [if_pos (by rw [le_tk b1 hu]; exact h1)]
        by_cases h2 : qdn R i < u
        · rw [if_pos (by rw [le_tk b3 hu]; exact h2)]
          refine ⟨_, ?_, rfl⟩
          rw [qsn, if_neg (c := u ≤ qdn R i) (by omega), if_neg (c := u ≤ qcm R i) (by omega), mn2_top hx, mn2_top hx]
        · rw [if_neg (by rw [le_tk b3 hu]; exact h2), mi_n (by omega) (by omega)]
          refine ⟨_, ?_, rfl⟩
          rw [qsn, if_pos (c := u ≤ qdn R i) (by omega), if_neg (c := u ≤ qcm R i) (by omega), mn2_top hx]
          rfl
      · rw [if_neg (by rw [le_tk b1 hu]; exact h1)]
        have hy : mn2 (qcm R i) (qsn R u i) ≤ 2000000000 := Nat.le_trans (mn2_le _ _) hx
        by_cases h2 : qdn R i < u
        · rw [if_pos (by rw [le_tk b3 hu]; exact h2)]
          refine ⟨_, ?_, rfl⟩
          rw [qsn, if_neg (c := u ≤ qdn R i) (by omega), if_pos (c := u ≤ qcm R i) (by omega), mn2_top hy]
          rfl
        · rw [if_neg (by rw [le_tk b3 hu]; exact h2)]
          have hy' : (if qcm R i < qsn R u i then qcm R i else qsn R u i) ≤ 2000000000 := hy
          rw [mi_n (by omega) (by omega)]
          refine ⟨_, ?_, rfl⟩
          rw [qsn, if_pos (c := u ≤ qdn R i) (by omega), if_pos (c := u ≤ qcm R i) (by omega)]
          rfl)
    (5 * gna M) qFU 0 2000000000 (by omega) (by unfold qFU; omega) rfl
  obtain ⟨s', h1, h2⟩ := key
  have h2' : lpX5_plays_69 m (tk u) qFU 2000000000 0 = some s' := h2
  rw [h2', h1]
theorem qsn_keep {R : QS} {u n : Nat} (h1 : u ≤ qcm R n → qsn R u n ≤ qcm R n) (h2 : u ≤ qdn R n → qsn R u n ≤ qdn R n) : qsn R u (n + 1) = qsn R u n := by
  have hx := qsn_le R u n
  rw [qsn]
  have e1 : mn2 (if u ≤ qcm R n then qcm R n else 2000000000) (qsn R u n) = qsn R u n := by
    unfold mn2
    by_cases c : u ≤ qcm R n
    · rw [if_pos c, if_neg (by have := h1 c; omega)]
    · rw [if_neg c, if_neg (by omega)]
  rw [e1]
  unfold mn2
  by_cases c : u ≤ qdn R n
  · rw [if_pos c, if_neg (by have := h2 c; omega)]
  · rw [if_neg c, if_neg (by omega)]
theorem qsn_cm {R : QS} {u n : Nat} (h1 : u ≤ qcm R n) (h2 : u ≤ qdn R n → qsn R u n ≤ qdn R n) : qsn R u (n + 1) = mn2 (qcm R n) (qsn R u n) := by
  have hx := qsn_le R u n
  have hy := mn2_le (qcm R n) (qsn R u n)
  rw [qsn, if_pos h1]
  unfold mn2 at hy ⊢
  by_cases c : u ≤ qdn R n
  · have := h2 c
    rw [if_pos c]
    exact if_neg (by omega)
  · rw [if_neg c]
    exact if_neg (by omega)
theorem qsn_dn {R : QS} {u n : Nat} (h1 : ¬ u ≤ qcm R n) (h2 : u ≤ qdn R n) : qsn R u (n + 1) = mn2 (qdn R n) (qsn R u n) := by
  rw [qsn, if_neg h1, if_pos h2, mn2_top (qsn_le R u n)]
def cmb (x : Nat) : Nat := if x = 1000000000 then 2000000000 else x
theorem cmb_mn {a b : Nat} (ha : a ≤ 1000000000) (hb : b ≤ 1000000000) : mn2 (cmb a) (cmb b) = cmb (if a < b then a else b) := by
  unfold mn2 cmb
  by_cases h1 : a = 1000000000
  · rw [if_pos h1]
    by_cases h2 : b = 1000000000
    · rw [if_pos h2, if_neg (by omega), if_neg (c := a < b) (by omega), if_pos h2]
    · rw [if_neg h2, if_neg (by omega), if_neg (c := a < b) (by omega), if_neg h2]
  · rw [if_neg h1]
    by_cases h2 : b = 1000000000
    · rw [if_pos h2, if_pos (c := a < 2000000000) (by omega), if_pos (c := a < b) (by omega), if_neg h1]
    · rw [if_neg h2]
      by_cases h3 : a < b
      · rw [if_pos h3, if_neg h1]
      · rw [if_neg h3, if_neg h2]
theorem qsn_x {M : MN} {w : Nat} {S : PS} {B u : Nat} (ok : gOK M) (hS : SI M w S B) (hT : TI M S u) (hB : B ≤ 900000000) : ∀ n, n ≤ gna M → qsn (xR M S) u (5 * n) = cmb (smn (sdue S) n)
  | 0, _ => rfl
  | n + 1, hn => by
    have ih := qsn_x ok hS hT hB n (by omega)
    have ha : n < gna M := by omega
    obtain ⟨g1, g2, g3, g4, g7, g6⟩ := hS.1 n ha
    have g5 := (ok.2.2.2.1 n ha).2.2.2
    obtain ⟨t1, t2, t3, t4, t5, t6⟩ := hT n ha
    have hdl := sdue_le hS (by omega) (a := n) ha
    have htop := smn_top (sdue S) n
    have key : ∀ j, j ≤ 5 → qsn (xR M S) u (5 * n + j) = if scu S n < 5 * n + j then cmb (smn (sdue S) (n + 1)) else cmb (smn (sdue S) n) := by
      intro j
      induction j with
      | zero => intro _; rw [if_neg (by omega)]; exact ih
      | succ j ihj =>
        intro hj
        have ihj := ihj (by omega)
        have hle := qsn_le (xR M S) u (5 * n + j)
        have hdiv : (5 * n + j) / 5 = n := by omega
        rw [show 5 * n + (j + 1) = 5 * n + j + 1 from rfl]
        by_cases e : 5 * n + j = scu S n
        · rw [if_neg (by omega)] at ihj
          rw [if_pos (c := scu S n < 5 * n + j + 1) (by omega), smn, ← cmb_mn hdl htop, ← ihj]
          have vc : qcm (xR M S) (5 * n + j) = scm S (scu S n) := by rw [← e]; exact xcm_in hdiv ha (by omega)
          by_cases h0 : sph S n = 0
          · have vd : qdn (xR M S) (5 * n + j) = 2000000000 := (xbg_out hdiv (by rintro ⟨-, z | ⟨-, z⟩⟩ <;> omega)).2
            have hd : sdue S n = scm S (scu S n) := by unfold sdue; rw [if_pos h0]
            rw [qsn_cm (by rw [vc]; exact t2 h0) (by rw [vd]; intro _; exact hle), vc, hd]
            have := g7 (by omega)
            unfold cmb
            rw [if_neg (by omega)]
          · by_cases h2 : sph S n = 2
            · have vd : qdn (xR M S) (5 * n + j) = sdn S (scu S n) := by rw [← e]; exact (xbg_in hdiv ha (Or.inr ⟨e, by omega⟩)).2
              have hd : sdue S n = sdn S (scu S n) := by unfold sdue; rw [if_neg h0, if_pos h2]
              rw [qsn_dn (by rw [vc]; have := t3 (by omega); omega) (by rw [vd]; exact t5 h2), vd, hd]
              have := g6 (by omega)
              unfold cmb
              rw [if_neg (by omega)]
            · have hd : sdue S n = 1000000000 := by unfold sdue; rw [if_neg h0, if_neg h2]
              rw [hd, show cmb 1000000000 = 2000000000 from rfl, mn2_top hle]
              refine qsn_keep (by rw [vc]; intro z; have := t3 (by omega); omega) (fun z => ?_)
              by_cases h3 : sph S n = 3
              · have vd : qdn (xR M S) (5 * n + j) = sdn S (scu S n) := by rw [← e]; exact (xbg_in hdiv ha (Or.inr ⟨e, by omega⟩)).2
                rw [vd] at z
                have := t6 h3
                omega
              · have vd : qdn (xR M S) (5 * n + j) = 2000000000 := (xbg_out hdiv (by rintro ⟨-, z | ⟨-, z⟩⟩ <;> omega)).2
                rw [vd]
                exact hle
        · have hk : qsn (xR M S) u (5 * n + j + 1) = qsn (xR M S) u (5 * n + j) := by
            by_cases c : 5 * n + j < scu S n
            · have vc : qcm (xR M S) (5 * n + j) = scm S (5 * n + j) := xcm_in hdiv ha (by omega)
              have vd : qdn (xR M S) (5 * n + j) = sdn S (5 * n + j) := (xbg_in hdiv ha (Or.inl c)).2
              have := t1 _ hdiv c
              exact qsn_keep (by rw [vc]; intro z; omega) (by rw [vd]; intro z; omega)
            · have vc : qcm (xR M S) (5 * n + j) = 2000000000 := xcm_out hdiv (by rintro ⟨-, z⟩; omega)
              have vd : qdn (xR M S) (5 * n + j) = 2000000000 := (xbg_out hdiv (by rintro ⟨-, z | ⟨z, -⟩⟩ <;> omega)).2
              exact qsn_keep (by rw [vc]; intro z; exact hle) (by rw [vd]; intro z; exact hle)
          rw [hk, ihj]
          by_cases c : scu S n < 5 * n + j
          · rw [if_pos c, if_pos (by omega)]
          · rw [if_neg c, if_neg (by omega)]
    have := key 5 (by omega)
    rw [if_pos (by omega)] at this
    exact this
theorem lp149 {M : MN} {w : Nat} {S : PS} {m : SM} {B t u : Nat} (ok : gOK M) (hS : SI M w S B) (hT : TI M S u) (hB : B ≤ 900000000) (ht : t + 1000 ≤ B) (hut : u ≤ t) (he : EQ M (gwo M) (xR M S) m) :
    ∃ m', lpX5_plays_149 (nI t) qFU 0 m = some m' ∧ kp m' = kp m ∧ M_begun m' = M_begun m ∧ M_done m' = M_done m ∧ M_waits m' = M_waits m ∧ M_pWork m' = M_pWork m ∧ ∀ k, k < 300 → M_came m' k = nI (xcm M (sadv M t S (gna M)) k) := by
  have h60 := ok.2.1
  have h5 := ok.1
  have ht2 : t < 1000000000 := by omega
  have ax := fun k => adv_x ok hS hT ht hut ht2 k
  have hq := QI_x ok hS hT hB (by omega)
  have key := lpx (F := fun k i (x : SM) => lpX5_plays_149 (nI t) k (nI i) x) (G := fun x => some x) (fun i x => kp x = kp m ∧ M_begun x = M_begun m ∧ M_done x = M_done m ∧ M_waits x = M_waits m ∧ M_pWork x = M_pWork m ∧ ∀ k, k < 300 → (k ≤ i → M_came x k = nI (xcm M (sadv M t S (gna M)) k)) ∧ (i < k → M_came x k = nI (xcm M S k))) (5 * gna M)
    (fun k s hs => by
      show lpX5_plays_149 (nI t) (k + 1) (nI (5 * gna M)) s = some s
      have ha := (he.1.keep hs.1).2.1
      rw [lpX5_plays_149, ha, mu_5', if_pos (by rw [le_n (by omega) (by omega)]; omega)])
    (fun k i s hi hs => by
      show ∃ s', _ ∧ lpX5_plays_149 (nI t) (k + 1) (nI i) s = lpX5_plays_149 (nI t) k (nI (i + 1)) s'
      obtain ⟨s1, s2, s3, s4, s5, s6⟩ := hs
      have hi3 : i < 300 := by omega
      have hrm := he.1.keep s1
      have hdn : M_done s i = nI (xdn M S i) := by rw [s3]; exact (he.2.1 i hi3).2.2.1
      have hbd : xdn M S i ≤ 2000000000 := (hq.1 i hi3).2.2.1
      have hia : i / 5 < gna M := by omega
      have hle := ok.2.2.2.1 _ hia
      have same : ¬ f9c M S t (i + 1) → ∃ s', (kp s' = kp m ∧ M_begun s' = M_begun m ∧ M_done s' = M_done m ∧ M_waits s' = M_waits m ∧ M_pWork s' = M_pWork m ∧ ∀ k, k < 300 → (k ≤ i + 1 → M_came s' k = nI (xcm M (sadv M t S (gna M)) k)) ∧ (i + 1 < k → M_came s' k = nI (xcm M S k))) ∧ lpX5_plays_149 (nI t) k (nI (i + 1)) s = lpX5_plays_149 (nI t) k (nI (i + 1)) s' := by
        intro hnf
        refine ⟨s, ⟨s1, s2, s3, s4, s5, fun j hj => ⟨fun hji => ?_, fun hji => (s6 j hj).2 (by omega)⟩⟩, rfl⟩
        by_cases e : j ≤ i
        · exact (s6 j hj).1 e
        · have e2 : j = i + 1 := by omega
          subst e2
          rw [(ax (i + 1)).2.1 hnf]
          exact (s6 _ hj).2 (by omega)
      rw [lpX5_plays_149, hrm.2.1, mu_5', if_neg (by rw [le_n (by omega) (by omega)]; omega), ck_nI hi3 (by omega), cl_n (j := i) (by omega), hdn, ad_1]
      by_cases hd : xdn M S i = t
      · rw [if_pos (by rw [hd]), re_5 (by omega), di_5 (by omega), cl_n (j := i / 5) (by omega), (hrm.2.2.2.1 _ hia).2.2, ck_nI (by omega) (by omega), ad_1]
        by_cases hl : gle M (i / 5) ≤ i % 5 + 1
        · rw [if_pos (by rw [le_n (by omega) (by omega)]; exact hl)]
          exact same (by rintro ⟨-, -, z⟩; simp only [Nat.add_sub_cancel] at z; omega)
        · rw [if_neg (by rw [le_n (by omega) (by omega)]; exact hl)]
          have hf : f9c M S t (i + 1) := ⟨by omega, by simp only [Nat.add_sub_cancel]; exact hd, by simp only [Nat.add_sub_cancel]; omega⟩
          have hv : gV M i := ⟨hia, by omega⟩
          have hpl := (ok.2.2.2.2 i hv).1
          have hde := (ok.2.2.1 _ hpl).2.2.2
          rw [(hrm.2.2.2.2 i hv).1, cl_n (j := gpa M i) (by omega), (hrm.2.2.1 _ hpl).2.2, cl_n (j := i + 1) (by omega), ck_nI (by omega) (by omega), ck_nI (by omega) (by omega), ck_nI (by omega) (by omega), ad_n]
          refine ⟨M_came_s s (upd (M_came s) (i + 1) (nI (t + gde M (gpa M i)))), ⟨s1, s2, s3, s4, s5, fun j hj => ?_⟩, rfl⟩
          show (_ → upd (M_came s) (i + 1) (nI (t + gde M (gpa M i))) j = _) ∧ (_ → upd (M_came s) (i + 1) (nI (t + gde M (gpa M i))) j = _)
          by_cases e : j = i + 1
          · subst e
            rw [up_s]
            refine ⟨fun _ => ?_, fun z => by omega⟩
            rw [(ax (i + 1)).1 hf]
            rfl
          · rw [up_n e]
            exact ⟨fun z => (s6 j hj).1 (by omega), fun z => (s6 j hj).2 (by omega)⟩
      · rw [if_neg (by rw [eq_n (by omega) (by omega)]; exact hd)]
        exact same (by rintro ⟨-, z, -⟩; simp only [Nat.add_sub_cancel] at z; exact hd z))
    (5 * gna M) qFU 0 m (by omega) (by unfold qFU; omega) ⟨rfl, rfl, rfl, rfl, rfl, fun k hk => ⟨fun z => by
      have z0 : k = 0 := by omega
      subst z0
      rw [(ax 0).2.1 (by rintro ⟨z, -⟩; omega)]
      exact (he.2.1 0 hk).1, fun _ => (he.2.1 k hk).1⟩⟩
  obtain ⟨s', ⟨s1, s2, s3, s4, s5, s6⟩, h2⟩ := key
  refine ⟨s', h2, s1, s2, s3, s4, s5, fun k hk => ?_⟩
  by_cases e : k ≤ 5 * gna M
  · exact (s6 k hk).1 e
  · rw [(s6 k hk).2 (by omega), (ax k).2.1 (by
      rw [f9c_iff ok hS hT hut ht2]
      rintro ⟨z, -⟩
      omega)]
theorem lp221 {M : MN} {w : Nat} {S : PS} {m m1 : SM} {B t u : Nat} (ok : gOK M) (hS : SI M w S B) (hT : TI M S u) (hB : B ≤ 900000000) (ht : t + 1000 ≤ B) (hut : u ≤ t) (he : EQ M (gwo M) (xR M S) m) (k1 : kp m1 = kp m) (k2 : M_begun m1 = M_begun m) (k3 : M_done m1 = M_done m) (k4 : M_waits m1 = M_waits m) (k5 : M_pWork m1 = M_pWork m) (k6 : ∀ k, k < 300 → M_came m1 k = nI (xcm M (sadv M t S (gna M)) k)) :
    ∃ m', lpX5_plays_221 (nI t) qFU 0 m1 = some m' ∧ kp m' = kp m ∧ EQ M (gwo M) (xR M (sadv M t S (gna M))) m' := by
  have h60 := ok.2.1
  have h5 := ok.1
  have ht2 : t < 1000000000 := by omega
  have ax := fun k => adv_x ok hS hT ht hut ht2 k
  have hq := QI_x ok hS hT hB (by omega)
  obtain ⟨hSa, -, -⟩ := sadv_at ok hS ht ht2 (gna M) (Nat.le_refl _)
  have hcb : ∀ k, k < 300 → xcm M (sadv M t S (gna M)) k ≤ 2000000000 := by
    intro k hk
    by_cases hf : f9c M S t k
    · rw [(ax k).1 hf]
      obtain ⟨ha, hk1, -, -, hl⟩ := (f9c_iff ok hS hT hut ht2).mp hf
      obtain ⟨hv, -, -⟩ := hS.row ok ha
      have := (ok.2.2.1 _ (ok.2.2.2.2 _ hv).1).2.2.2
      rw [show k - 1 = scu S (k / 5) by omega]
      omega
    · rw [(ax k).2.1 hf]
      exact (hq.1 k hk).1
  have hrm1 := he.1.keep k1
  have key := lpx (F := fun k i (x : SM) => lpX5_plays_221 (nI t) k (nI i) x) (G := fun x => some x) (fun i x => kp x = kp m ∧ M_begun x = M_begun m ∧ M_done x = M_done m ∧ M_came x = M_came m1 ∧ M_pWork x = M_pWork m ∧ ∀ k, k < 300 → (k < i → M_waits x k = nI (xwt M (sadv M t S (gna M)) k)) ∧ (i ≤ k → M_waits x k = nI (xwt M S k))) (5 * gna M)
    (fun k s hs => by
      show lpX5_plays_221 (nI t) (k + 1) (nI (5 * gna M)) s = some s
      have ha := (he.1.keep hs.1).2.1
      rw [lpX5_plays_221, ha, mu_5', if_pos (by rw [le_n (by omega) (by omega)]; omega)])
    (fun k i s hi hs => by
      show ∃ s', _ ∧ lpX5_plays_221 (nI t) (k + 1) (nI i) s = lpX5_plays_221 (nI t) k (nI (i + 1)) s'
      obtain ⟨s1, s2, s3, s4, s5, s6⟩ := hs
      have hi3 : i < 300 := by omega
      have hrm := he.1.keep s1
      have hcm : M_came s i = nI (xcm M (sadv M t S (gna M)) i) := by rw [s4]; exact k6 i hi3
      have hbg : M_begun s i = nI (xbg M S i) := by rw [s2]; exact (he.2.1 i hi3).2.1
      have hbb : xbg M S i ≤ 2000000000 := (hq.1 i hi3).2.1
      have hcc := hcb i hi3
      have same : ¬ (xcm M (sadv M t S (gna M)) i = t ∧ xbg M S i = 2000000000) → ∃ s', (kp s' = kp m ∧ M_begun s' = M_begun m ∧ M_done s' = M_done m ∧ M_came s' = M_came m1 ∧ M_pWork s' = M_pWork m ∧ ∀ k, k < 300 → (k < i + 1 → M_waits s' k = nI (xwt M (sadv M t S (gna M)) k)) ∧ (i + 1 ≤ k → M_waits s' k = nI (xwt M S k))) ∧ lpX5_plays_221 (nI t) k (nI (i + 1)) s = lpX5_plays_221 (nI t) k (nI (i + 1)) s' := by
        intro hnf
        refine ⟨s, ⟨s1, s2, s3, s4, s5, fun j hj => ⟨fun hji => ?_, fun hji => (s6 j hj).2 (by omega)⟩⟩, rfl⟩
        by_cases e : j < i
        · exact (s6 j hj).1 e
        · have e2 : j = i := by omega
          subst e2
          rw [(ax j).2.2.2.2.2 hnf]
          exact (s6 _ hj).2 (by omega)
      rw [lpX5_plays_221, hrm.2.1, mu_5', if_neg (by rw [le_n (by omega) (by omega)]; omega), cl_n (j := i) (by omega), hcm, hbg, ad_1, bool_1]
      simp only [ckr (j := i) (n := 300) hi3 (by omega)]
      by_cases hc : xcm M (sadv M t S (gna M)) i = t
      · rw [if_pos (by rw [hc])]
        by_cases hb : xbg M S i = 2000000000
        · rw [if_pos (by rw [hb]; rfl)]
          refine ⟨M_waits_s s (upd (M_waits s) i 1), ⟨s1, s2, s3, s4, s5, fun j hj => ?_⟩, rfl⟩
          show (_ → upd (M_waits s) i 1 j = _) ∧ (_ → upd (M_waits s) i 1 j = _)
          by_cases e : j = i
          · subst e
            rw [up_s]
            refine ⟨fun _ => ?_, fun z => by omega⟩
            rw [((ax j).2.2.2.2.1 ⟨hc, hb⟩).2]
            rfl
          · rw [up_n e]
            exact ⟨fun z => (s6 j hj).1 (by omega), fun z => (s6 j hj).2 (by omega)⟩
        · rw [if_neg (by rw [show (2000000000 : Int32) = nI 2000000000 from rfl, eq_n (by omega) (by omega)]; exact hb)]
          exact same (fun z => hb z.2)
      · rw [if_neg (by rw [eq_n (by omega) (by omega)]; exact hc)]
        exact same (fun z => hc z.1))
    (5 * gna M) qFU 0 m1 (by omega) (by unfold qFU; omega) ⟨k1, k2, k3, rfl, k5, fun k hk => ⟨fun z => by omega, fun _ => by rw [k4]; exact (he.2.1 k hk).2.2.2⟩⟩
  obtain ⟨s', ⟨s1, s2, s3, s4, s5, s6⟩, h2⟩ := key
  refine ⟨s', h2, s1, he.1.keep s1, fun k hk => ⟨?_, ?_, ?_, ?_⟩, fun k hv => by rw [s5]; exact he.2.2 k hv⟩
  · rw [s4]; exact k6 k hk
  · rw [s2, (he.2.1 k hk).2.1]
    exact congrArg nI (ax k).2.2.1.symm
  · rw [s3, (he.2.1 k hk).2.2.1]
    exact congrArg nI (ax k).2.2.2.1.symm
  · by_cases e : k < 5 * gna M
    · exact (s6 k hk).1 e
    · rw [(s6 k hk).2 (by omega)]
      refine congrArg nI ((ax k).2.2.2.2.2 ?_).symm
      intro z
      have := ((ax k).2.2.2.2.1 z).1
      omega
