/-! PURE: one place alone: the reference's rows -/
def EP (M : MN) (pw : Nat → Nat) (p : Nat) (R : QS) (m : SM) : Prop := RM M m ∧ (∀ k, k < 300 → M_came m k = nI (qcm R k) ∧ M_begun m k = nI (qbg R k) ∧ M_done m k = nI (qdn R k) ∧ M_waits m k = nI (qwt R k)) ∧ (∀ k, gV M k → gpa M k = p → M_pWork m k = nI (pw k))
theorem mNxp {M : MN} {pw : Nat → Nat} {R : QS} {m : SM} {p r : Nat} (ok : gOK M) (he : EP M pw p R m) (hq : QI M pw R) (hp : p < gnp M) (hr : r ≤ 3) : mX5_next m (nI p) (nI r) = some (eo (qnx M pw R p r (5 * gna M))) := by
  have h60 := ok.2.1
  have h5 := ok.1
  unfold mX5_next
  have key := lpx (F := fun k i (x : Int32) => lpX5_next_5 m (nI p) (nI r) k x (nI i)) (G := fun x => some x) (fun i x => x = eo (qnx M pw R p r i)) (5 * gna M)
    (fun k s hs => by
      show lpX5_next_5 m (nI p) (nI r) (k + 1) s (nI (5 * gna M)) = some s
      rw [lpX5_next_5, he.1.2.1, mu_5', if_pos (by rw [le_n (by omega) (by omega)]; omega)])
    (fun k i s hi hs => by
      show ∃ s', s' = eo (qnx M pw R p r (i + 1)) ∧ lpX5_next_5 m (nI p) (nI r) (k + 1) s (nI i) = lpX5_next_5 m (nI p) (nI r) k s' (nI (i + 1))
      have hi3 : i < 300 := by omega
      obtain ⟨b1, b2, b3, b4, b5, b6⟩ := hq.1 i hi3
      obtain ⟨c1, c2, c3, c4⟩ := he.2.1 i hi3
      rw [lpX5_next_5, he.1.2.1, mu_5', if_neg (by rw [le_n (by omega) (by omega)]; omega), ck_nI hi3 (by omega), cl_n (by omega), c4, ad_1]
      by_cases hw : qwt R i = 1
      · rw [if_neg (by rw [qwt_01 b4]; omega), ck_nI hi3 (by omega)]
        obtain ⟨hv, hcm⟩ := b5 hw
        have hpl := (ok.2.2.2.2 _ hv).1
        rw [(he.1.2.2.2.2 i hv).1]
        by_cases hpp : gpa M i = p
        · rw [if_pos (by rw [hpp])]
          cases hn : qnx M pw R p r i with
          | none =>
            rw [hs, hn, if_pos (by decide)]
            refine ⟨_, ?_, rfl⟩
            rw [qnx, if_pos ⟨hw, hpp⟩, hn]
            rfl
          | some b =>
            obtain ⟨hbi, hbw, hbp⟩ := qnx_some hn
            obtain ⟨a1, a2, a3, a4, a5, a6⟩ := hq.1 b (by omega)
            obtain ⟨hvb, hcb⟩ := a5 hbw
            rw [hs, hn, show eo (some b) = nI b from rfl, if_neg (by rw [lt_0n (by omega)]; exact not_false)]
            rw [mAhead (m := m) hr hi3 (by omega) hcm hcb (hq.2 i hv) (hq.2 b hvb) (ok.2.2.2.1 _ hv.1).1 (ok.2.2.2.1 _ hvb.1).1 c1 (he.2.1 b (by omega)).1 (he.2.2 i hv hpp) (he.2.2 b hvb hbp) (he.1.2.2.2.1 _ hv.1).1 (he.1.2.2.2.1 _ hvb.1).1, bi_s]
            by_cases hlt : qkk M pw R r i < qkk M pw R r b
            · have hlt' := hlt
              unfold qkk at hlt'
              rw [if_pos (c := _ ∨ _) (Or.inl hlt'), if_neg (by decide)]
              refine ⟨_, ?_, rfl⟩
              rw [qnx, if_pos ⟨hw, hpp⟩, hn]
              show _ = eo (if qkk M pw R r i < qkk M pw R r b then some i else some b)
              rw [if_pos hlt]
              rfl
            · rw [if_neg (c := _ ∨ _) (by rintro (z | ⟨-, z⟩); exact hlt z; omega), if_pos rfl]
              refine ⟨_, ?_, rfl⟩
              rw [qnx, if_pos ⟨hw, hpp⟩, hn]
              show _ = eo (if qkk M pw R r i < qkk M pw R r b then some i else some b)
              rw [if_neg hlt]
              rfl
        · rw [if_neg (by rw [eq_n (by omega) (by omega)]; exact hpp)]
          refine ⟨_, ?_, rfl⟩
          rw [qnx, if_neg (fun z => hpp z.2)]
          exact hs
      · rw [if_pos (by rw [qwt_01 b4]; omega)]
        refine ⟨_, ?_, rfl⟩
        rw [qnx, if_neg (fun z => hw z.1)]
        exact hs)
    (5 * gna M) qFU 0 (-1) (by omega) (by unfold qFU; omega) rfl
  obtain ⟨s', h1, h2⟩ := key
  have h2' : lpX5_next_5 m (nI p) (nI r) qFU (-1) 0 = some s' := h2
  rw [h2', bi_s, h1]
theorem mByp {M : MN} {pw : Nat → Nat} {R : QS} {m : SM} {p t : Nat} (ok : gOK M) (he : EP M pw p R m) (hq : QI M pw R) (hp : p < gnp M) (ht : t ≤ 900000000) : mX5_busy m (nI p) (nI t) = some (nI (qby M R p t (5 * gna M))) := by
  have h60 := ok.2.1
  have h5 := ok.1
  unfold mX5_busy
  have key := lpx (F := fun k i (x : Int32) => lpX5_busy_5 m (nI p) (nI t) k x (nI i)) (G := fun x => some x) (fun i x => x = nI (qby M R p t i)) (5 * gna M)
    (fun k s hs => by
      show lpX5_busy_5 m (nI p) (nI t) (k + 1) s (nI (5 * gna M)) = some s
      rw [lpX5_busy_5, he.1.2.1, mu_5', if_pos (by rw [le_n (by omega) (by omega)]; omega)])
    (fun k i s hi hs => by
      show ∃ s', s' = nI (qby M R p t (i + 1)) ∧ lpX5_busy_5 m (nI p) (nI t) (k + 1) s (nI i) = lpX5_busy_5 m (nI p) (nI t) k s' (nI (i + 1))
      have hi3 : i < 300 := by omega
      obtain ⟨b1, b2, b3, b4, b5, b6⟩ := hq.1 i hi3
      obtain ⟨c1, c2, c3, c4⟩ := he.2.1 i hi3
      have hin : (if M_at m i = nI p then ck (nI i) 300 (if nI t < nI (qbg R i) then some 0 else ck (nI i) 300 (if nI (qdn R i) ≤ nI t then some 0 else ck (nI i) 300 (if 2000000000 ≤ nI (qdn R i) then some 0 else some 1))) else some 0) = some (nI (if gpa M i = p ∧ qbg R i ≤ t ∧ t < qdn R i ∧ qdn R i < 2000000000 then 1 else 0)) := by
        simp only [ckr (j := i) (n := 300) hi3 (by omega), lt_n (a := t) (b := qbg R i) (by omega) (by omega), le_n (a := qdn R i) (b := t) (by omega) (by omega), show (2000000000 : Int32) = nI 2000000000 from rfl, le_n (a := 2000000000) (b := qdn R i) (by omega) (by omega)]
        by_cases hb : t < qbg R i
        · rw [if_neg (c := _ ∧ _) (by omega), if_pos hb]
          split <;> rfl
        · have hv : gV M i := Classical.byContradiction (fun z => by have := b6 z; omega)
          have hpl := (ok.2.2.2.2 _ hv).1
          rw [(he.1.2.2.2.2 i hv).1, if_neg hb]
          by_cases hpp : gpa M i = p
          · rw [if_pos (by rw [hpp])]
            by_cases hd : qdn R i ≤ t
            · rw [if_pos hd, if_neg (c := _ ∧ _) (by omega)]; rfl
            · rw [if_neg hd]
              by_cases hd2 : 2000000000 ≤ qdn R i
              · rw [if_pos hd2, if_neg (c := _ ∧ _) (by omega)]; rfl
              · rw [if_neg hd2, if_pos (c := _ ∧ _) ⟨hpp, by omega, by omega, by omega⟩]; rfl
          · rw [if_neg (by rw [eq_n (by omega) (by omega)]; exact hpp), if_neg (c := _ ∧ _) (by omega)]; rfl
      rw [lpX5_busy_5, he.1.2.1, mu_5', if_neg (by rw [le_n (by omega) (by omega)]; omega), ck_nI hi3 (by omega), cl_n (by omega), c2, c3, hin, bi_s, ad_1]
      refine ⟨_, ?_, rfl⟩
      rw [hs, ad_n, qby])
    (5 * gna M) qFU 0 0 (by omega) (by unfold qFU; omega) rfl
  obtain ⟨s', h1, h2⟩ := key
  have h2' : lpX5_busy_5 m (nI p) (nI t) qFU 0 0 = some s' := h2
  rw [h2', bi_s, h1]
theorem EP_be {M : MN} {pw : Nat → Nat} {R : QS} {m : SM} {t k p : Nat} (he : EP M pw p R m) : EP M pw p (qbe pw t k R) (M_waits_s (M_done_s (M_begun_s m (upd (M_begun m) k (nI t))) (upd (M_done m) k (nI (t + pw k)))) (upd (M_waits m) k 0)) := by
  refine ⟨he.1, fun j hj => ?_, he.2.2⟩
  obtain ⟨c1, c2, c3, c4⟩ := he.2.1 j hj
  show M_came m j = nI (qcm R j) ∧ upd (M_begun m) k (nI t) j = nI (if j = k then t else qbg R j) ∧ upd (M_done m) k (nI (t + pw k)) j = nI (if j = k then t + pw k else qdn R j) ∧ upd (M_waits m) k 0 j = nI (if j = k then 0 else qwt R j)
  by_cases e : j = k
  · subst e
    simp only [if_true, up_s]
    exact ⟨c1, trivial, trivial, rfl⟩
  · simp only [if_neg e, up_n e]
    exact ⟨c1, c2, c3, c4⟩
theorem bs_loopp {M : MN} {pw : Nat → Nat} (ok : gOK M) {p r t : Nat} (hp : p < gnp M) (hr : r ≤ 3) (ht : t ≤ 900000000) :
    ∀ (f k : Nat) (R : QS) (m : SM), f < 1000 → f < k → EP M pw p R m → QI M pw R → ∃ m', lpX5_begins_19 (nI p) (nI r) (nI t) k (nI f) (eo (qnx M pw R p r (5 * gna M))) m = some m' ∧ EP M pw p (qbl M pw p r t f R) m' ∧ QI M pw (qbl M pw p r t f R) ∧ kp m' = kp m := by
  have h60 := ok.2.1
  intro f
  induction f with
  | zero =>
    intro k R m hf hk he hq
    obtain ⟨k, rfl⟩ : ∃ j, k = j + 1 := ⟨k - 1, by omega⟩
    rw [lpX5_begins_19, if_pos (by decide)]
    exact ⟨m, rfl, he, hq, rfl⟩
  | succ f ih =>
    intro k R m hf hk he hq
    obtain ⟨k, rfl⟩ : ∃ j, k = j + 1 := ⟨k - 1, by omega⟩
    · rw [lpX5_begins_19, if_neg (by rw [show (0 : Int32) = nI 0 from rfl, le_n (by omega) (by omega)]; omega), qbl]
      cases hn : qnx M pw R p r (5 * gna M) with
      | none =>
        rw [if_pos (by decide)]
        exact ⟨m, rfl, he, hq, rfl⟩
      | some b =>
        obtain ⟨hb, hbw, hbp⟩ := qnx_some hn
        obtain ⟨hv, hcm⟩ := (hq.1 b (by omega)).2.2.2.2.1 hbw
        rw [show eo (some b) = nI b from rfl, if_neg (by rw [lt_0n (by omega)]; exact not_false), ck_nI (by omega) (by omega), ck_nI (by omega) (by omega), ck_nI (by omega) (by omega), ck_nI (by omega) (by omega), cl_n (by omega), he.2.2 b hv hbp, ad_n, bool_0]
        have he2 := EP_be (t := t) (k := b) he
        have hq2 := QI_be (t := t) hq ht hv
        rw [mNxp ok he2 hq2 hp hr, bi_s, pk_m1]
        exact ih k (qbe pw t b R) _ (by omega) (by omega) he2 hq2
theorem mBeginsp {M : MN} {pw : Nat → Nat} {R : QS} {m : SM} {p r t h : Nat} (ok : gOK M) (he : EP M pw p R m) (hq : QI M pw R) (hp : p < gnp M) (hr : r ≤ 3) (ht : t ≤ 900000000) (hh : h ≤ 9) (hb : qby M R p t (5 * gna M) ≤ h) : ∃ m', mX5_begins m (nI p) (nI h) (nI r) (nI t) = some m' ∧ EP M pw p (qbl M pw p r t (h - qby M R p t (5 * gna M)) R) m' ∧ QI M pw (qbl M pw p r t (h - qby M R p t (5 * gna M)) R) ∧ kp m' = kp m := by
  unfold mX5_begins
  rw [mByp ok he hq hp ht, bi_s, mNxp ok he hq hp hr, bi_s, su_n hb]
  obtain ⟨m', h1, h2⟩ := bs_loopp ok hp hr ht (h - qby M R p t (5 * gna M)) qFU R m (by omega) (by unfold qFU; omega) he hq
  rw [h1, bi_s]
  exact ⟨m', rfl, h2⟩
theorem mSoonA {M : MN} {pw : Nat → Nat} {R : QS} {m : SM} {p : Nat} (ok : gOK M) (he : EP M pw p R m) (hq : QI M pw R) {u : Nat} (hu : u ≤ 2000000000) : lpX5_agrees_89 m (tk u) qFU 2000000000 0 = some (nI (qsn R u (5 * gna M))) := by
  have h60 := ok.2.1
  have key := lpx (F := fun k i (x : Int32) => lpX5_agrees_89 m (tk u) k x (nI i)) (G := fun x => some x) (fun i x => x = nI (qsn R u i)) (5 * gna M)
    (fun k s hs => by
      show lpX5_agrees_89 m (tk u) (k + 1) s (nI (5 * gna M)) = some s
      rw [lpX5_agrees_89, he.1.2.1, mu_5', if_pos (by rw [le_n (by omega) (by omega)]; omega)])
    (fun k i s hi hs => by
      show ∃ s', s' = nI (qsn R u (i + 1)) ∧ lpX5_agrees_89 m (tk u) (k + 1) s (nI i) = lpX5_agrees_89 m (tk u) k s' (nI (i + 1))
      have hi3 : i < 300 := by omega
      obtain ⟨b1, b2, b3, b4, b5, b6⟩ := hq.1 i hi3
      obtain ⟨c1, c2, c3, c4⟩ := he.2.1 i hi3
      have hx := qsn_le R u i
      rw [lpX5_agrees_89, he.1.2.1, mu_5', if_neg (by rw [le_n (by omega) (by omega)]; omega), cl_n (by omega), c1, c3, hs]
      simp only [ckr (j := i) (n := 300) hi3 (by omega), ad_1]
      rw [mi_n (a := qcm R i) (by omega) (by omega)]
      by_cases h1 : qcm R i < u
      · rw [if_pos (by rw [le_tk b1 hu]; exact h1)]
        by_cases h2 : qdn R i < u
        · rw [if_pos (by rw [le_tk b3 hu]; exact h2)]
          refine ⟨_, ?_, rfl⟩
          rw [qsn, if_neg (c := u ≤ qdn R i) (by omega), if_neg (c := u ≤ qcm R i) (by omega), mn2_top hx, mn2_top hx]
        · rw [if_neg (by rw [le_tk b3 hu]; exact h2), mi_n (by omega) (by omega)]
          refine ⟨_, ?_, rfl⟩
          rw [qsn, if_pos (c := u ≤ qdn R i) (by omega), if_neg (c := u ≤ qcm R i) (by omega), mn2_top hx]
          rfl
      · rw [if_neg (by rw [le_tk b1 hu]; exact h1)]
        have hy : mn2 (qcm R i) (qsn R u i) ≤ 2000000000 := Nat.le_trans (mn2_le _ _) hx
        by_cases h2 : qdn R i < u
        · rw [if_pos (by rw [le_tk b3 hu]; exact h2)]
          refine ⟨_, ?_, rfl⟩
          rw [qsn, if_neg (c := u ≤ qdn R i) (by omega), if_pos (c := u ≤ qcm R i) (by omega), mn2_top hy]
          rfl
        · rw [if_neg (by rw [le_tk b3 hu]; exact h2)]
          have hy' : (if qcm R i < qsn R u i then qcm R i else qsn R u i) ≤ 2000000000 := hy
          rw [mi_n (by omega) (by omega)]
          refine ⟨_, ?_, rfl⟩
          rw [qsn, if_pos (c := u ≤ qdn R i) (by omega), if_pos (c := u ≤ qcm R i) (by omega)]
          rfl)
    (5 * gna M) qFU 0 2000000000 (by omega) (by unfold qFU; omega) rfl
  obtain ⟨s', h1, h2⟩ := key
  have h2' : lpX5_agrees_89 m (tk u) qFU 2000000000 0 = some s' := h2
  rw [h2', h1]
/-! who is begun with -/
theorem qnx_best {M : MN} {pw : Nat → Nat} {R : QS} {p r : Nat} : ∀ n : Nat, (qnx M pw R p r n = none → ∀ k, k < n → ¬ (qwt R k = 1 ∧ gpa M k = p)) ∧ (∀ b, qnx M pw R p r n = some b → ∀ k, k < n → qwt R k = 1 → gpa M k = p → ¬ (qkk M pw R r k < qkk M pw R r b ∨ (qkk M pw R r k = qkk M pw R r b ∧ k < b)))
  | 0 => ⟨fun _ k hk => absurd hk (Nat.not_lt_zero _), fun b _ k hk => absurd hk (Nat.not_lt_zero _)⟩
  | n + 1 => by
    obtain ⟨i1, i2⟩ := qnx_best (M := M) (pw := pw) (R := R) (p := p) (r := r) n
    by_cases c : qwt R n = 1 ∧ gpa M n = p
    · cases hq : qnx M pw R p r n with
      | none =>
        rw [qnx_nn c hq]
        refine ⟨fun z => (by cases z), fun b hb k hk h1 h2 => ?_⟩
        cases hb
        by_cases e : k = n
        · subst e; omega
        · exact absurd ⟨h1, h2⟩ (i1 hq k (by omega))
      | some b0 =>
        rw [qnx_sm c hq]
        have hb0 := qnx_some hq
        by_cases l : qkk M pw R r n < qkk M pw R r b0
        · rw [if_pos l]
          refine ⟨fun z => (by cases z), fun b hb k hk h1 h2 => ?_⟩
          cases hb
          by_cases e : k = n
          · subst e; omega
          · have := i2 b0 hq k (by omega) h1 h2
            omega
        · rw [if_neg l]
          refine ⟨fun z => (by cases z), fun b hb k hk h1 h2 => ?_⟩
          cases hb
          by_cases e : k = n
          · subst e; omega
          · exact i2 b0 hq k (by omega) h1 h2
    · rw [qnx_no c]
      refine ⟨fun z k hk => ?_, fun b hb k hk h1 h2 => ?_⟩
      · by_cases e : k = n
        · subst e; exact c
        · exact i1 z k (by omega)
      · by_cases e : k = n
        · subst e; exact absurd ⟨h1, h2⟩ c
        · exact i2 b hb k (by omega) h1 h2
def qbf (M : MN) (R : QS) (p t k : Nat) : Nat := if gpa M k = p ∧ qbg R k ≤ t ∧ t < qdn R k ∧ qdn R k < 2000000000 then 1 else 0
theorem qby_cg {M : MN} {R : QS} {p t : Nat} : ∀ n, qby M R p t n = cg (qbf M R p t) n
  | 0 => rfl
  | n + 1 => by rw [qby, cg, qby_cg n]; rfl
theorem qbe_bg (pw : Nat → Nat) (t b : Nat) (R : QS) (k : Nat) : qbg (qbe pw t b R) k = if k = b then t else qbg R k := rfl
theorem qbe_dn (pw : Nat → Nat) (t b : Nat) (R : QS) (k : Nat) : qdn (qbe pw t b R) k = if k = b then t + pw b else qdn R k := rfl
theorem qbe_wt (pw : Nat → Nat) (t b : Nat) (R : QS) (k : Nat) : qwt (qbe pw t b R) k = if k = b then 0 else qwt R k := rfl
theorem qby_be {M : MN} {pw : Nat → Nat} {R : QS} {p t b n : Nat} (hb : b < n) (hp : gpa M b = p) (hbg : t < qbg R b) (h1 : 1 ≤ pw b) (h2 : t + pw b < 2000000000) : qby M (qbe pw t b R) p t n = qby M R p t n + 1 := by
  rw [qby_cg, qby_cg]
  have hc := cg_change (f := qbf M R p t) (g := qbf M (qbe pw t b R) p t) (i := b) (n := n) hb (fun a _ e => by
    unfold qbf
    rw [qbe_bg, qbe_dn, if_neg e, if_neg e])
  have e1 : qbf M R p t b = 0 := by unfold qbf; rw [if_neg (fun z => by have := z.2.1; omega)]
  have e2 : qbf M (qbe pw t b R) p t b = 1 := by
    unfold qbf
    rw [qbe_bg, qbe_dn, if_pos rfl, if_pos rfl, if_pos ⟨hp, Nat.le_refl _, by omega, h2⟩]
  omega
/-- row k was begun with on the way from R to R' -/
def QP (M : MN) (pw : Nat → Nat) (p t : Nat) (R R' : QS) (k : Nat) : Prop := k < 5 * gna M ∧ qwt R k = 1 ∧ gpa M k = p ∧ qbg R' k = t ∧ qdn R' k = t + pw k ∧ qwt R' k = 0
theorem qbl_spec {M : MN} {pw : Nat → Nat} {p r t : Nat} (ht : t ≤ 900000000) : ∀ (f : Nat) (R : QS), (∀ k, k < 5 * gna M → qwt R k = 1 → gpa M k = p → t < qbg R k ∧ 1 ≤ pw k ∧ pw k ≤ 20000000) →
    (∀ k, qcm (qbl M pw p r t f R) k = qcm R k) ∧
    (∀ k, (qbg (qbl M pw p r t f R) k = qbg R k ∧ qdn (qbl M pw p r t f R) k = qdn R k ∧ qwt (qbl M pw p r t f R) k = qwt R k) ∨ QP M pw p t R (qbl M pw p r t f R) k) ∧
    qby M (qbl M pw p r t f R) p t (5 * gna M) ≤ qby M R p t (5 * gna M) + f ∧
    (∀ j, j < 5 * gna M → qwt (qbl M pw p r t f R) j = 1 → gpa M j = p → qby M (qbl M pw p r t f R) p t (5 * gna M) = qby M R p t (5 * gna M) + f ∧ qwt R j = 1 ∧ ∀ i, QP M pw p t R (qbl M pw p r t f R) i → ¬ (qkk M pw R r j < qkk M pw R r i ∨ (qkk M pw R r j = qkk M pw R r i ∧ j < i)))
  | 0, R, _ => by
    rw [show qbl M pw p r t 0 R = R from rfl]
    exact ⟨fun _ => rfl, fun _ => Or.inl ⟨rfl, rfl, rfl⟩, Nat.le_refl _, fun j _ h1 _ => ⟨rfl, h1, fun i hi => by have a := hi.2.1; have b := hi.2.2.2.2.2; omega⟩⟩
  | f + 1, R, hR => by
    cases hq : qnx M pw R p r (5 * gna M) with
    | none =>
      have e : qbl M pw p r t (f + 1) R = R := by rw [qbl, hq]
      rw [e]
      exact ⟨fun _ => rfl, fun _ => Or.inl ⟨rfl, rfl, rfl⟩, by omega, fun j hj h1 h2 => absurd ⟨h1, h2⟩ ((qnx_best _).1 hq j hj)⟩
    | some b =>
      have e : qbl M pw p r t (f + 1) R = qbl M pw p r t f (qbe pw t b R) := by rw [qbl, hq]
      rw [e]
      obtain ⟨hb, hbw, hbp⟩ := qnx_some hq
      obtain ⟨b1, b2, b3⟩ := hR b hb hbw hbp
      have hby := qby_be (n := 5 * gna M) hb hbp b1 b2 (by omega)
      obtain ⟨e1, e2, e3, e4⟩ := qbl_spec (M := M) (pw := pw) (p := p) (r := r) ht f (qbe pw t b R) (fun k hk h1 h2 => by
        rw [qbe_wt] at h1
        rw [qbe_bg]
        by_cases c : k = b
        · rw [if_pos c] at h1; omega
        · rw [if_neg c] at h1 ⊢
          exact hR k hk h1 h2)
      generalize qbl M pw p r t f (qbe pw t b R) = R' at *
      have hwb : ∀ k, qwt (qbe pw t b R) k = 1 → k ≠ b ∧ qwt R k = 1 := by
        intro k hk
        rw [qbe_wt] at hk
        by_cases c : k = b
        · rw [if_pos c] at hk; omega
        · rw [if_neg c] at hk; exact ⟨c, hk⟩
      refine ⟨e1, fun k => ?_, by omega, fun j hj h1 h2 => ?_⟩
      · rcases e2 k with ⟨z1, z2, z3⟩ | z
        · rw [qbe_bg] at z1
          rw [qbe_dn] at z2
          rw [qbe_wt] at z3
          by_cases c : k = b
          · right
            rw [if_pos c] at z1 z2 z3
            subst c
            exact ⟨hb, hbw, hbp, z1, z2, z3⟩
          · left
            rw [if_neg c] at z1 z2 z3
            exact ⟨z1, z2, z3⟩
        · right
          exact ⟨z.1, (hwb k z.2.1).2, z.2.2⟩
      · obtain ⟨y1, y2, y3⟩ := e4 j hj h1 h2
        obtain ⟨jb, jw⟩ := hwb j y2
        refine ⟨by omega, jw, fun i hi => ?_⟩
        by_cases c : i = b
        · rw [c]
          exact (qnx_best _).2 b hq j hj jw h2
        · exact y3 i ⟨hi.1, by rw [qbe_wt, if_neg c]; exact hi.2.1, hi.2.2⟩
theorem qsn_min {R : QS} {u : Nat} : ∀ (n : Nat) {k : Nat}, k < n → (u ≤ qcm R k → qsn R u n ≤ qcm R k) ∧ (u ≤ qdn R k → qsn R u n ≤ qdn R k)
  | 0, k, h => absurd h (Nat.not_lt_zero _)
  | n + 1, k, h => by
    have h1 : qsn R u (n + 1) ≤ qsn R u n := by rw [qsn]; exact Nat.le_trans (mn2_le _ _) (mn2_le _ _)
    by_cases e : k = n
    · subst e
      constructor
      · intro z
        rw [qsn]
        refine Nat.le_trans (mn2_le _ _) ?_
        rw [if_pos z]
        unfold mn2
        split <;> omega
      · intro z
        rw [qsn, if_pos z]
        generalize mn2 _ (qsn R u k) = y
        unfold mn2
        split <;> omega
    · obtain ⟨i1, i2⟩ := qsn_min (R := R) (u := u) n (k := k) (by omega)
      exact ⟨fun z => Nat.le_trans h1 (i1 z), fun z => Nat.le_trans h1 (i2 z)⟩
theorem qsn_hit {R : QS} {u : Nat} : ∀ n : Nat, qsn R u n < 2000000000 → ∃ k, k < n ∧ ((u ≤ qcm R k ∧ qcm R k = qsn R u n) ∨ (u ≤ qdn R k ∧ qdn R k = qsn R u n))
  | 0, h => by rw [qsn] at h; omega
  | n + 1, h => by
    have ih := qsn_hit (R := R) (u := u) n
    rw [qsn] at h ⊢
    have e1 : mn2 (if u ≤ qcm R n then qcm R n else 2000000000) (qsn R u n) = qsn R u n ∨ (u ≤ qcm R n ∧ mn2 (if u ≤ qcm R n then qcm R n else 2000000000) (qsn R u n) = qcm R n) := by
      have hx := qsn_le R u n
      by_cases z : u ≤ qcm R n
      · rw [if_pos z]
        unfold mn2
        split
        · exact Or.inr ⟨z, rfl⟩
        · exact Or.inl rfl
      · rw [if_neg z, mn2_top hx]
        exact Or.inl rfl
    have hy : mn2 (if u ≤ qcm R n then qcm R n else 2000000000) (qsn R u n) ≤ 2000000000 := Nat.le_trans (mn2_le _ _) (qsn_le R u n)
    generalize mn2 (if u ≤ qcm R n then qcm R n else 2000000000) (qsn R u n) = y at *
    have e2 : mn2 (if u ≤ qdn R n then qdn R n else 2000000000) y = y ∨ (u ≤ qdn R n ∧ mn2 (if u ≤ qdn R n then qdn R n else 2000000000) y = qdn R n) := by
      by_cases z : u ≤ qdn R n
      · rw [if_pos z]
        unfold mn2
        split
        · exact Or.inr ⟨z, rfl⟩
        · exact Or.inl rfl
      · rw [if_neg z, mn2_top hy]
        exact Or.inl rfl
    generalize mn2 (if u ≤ qdn R n then qdn R n else 2000000000) y = x at *
    rcases e2 with z | ⟨z1, z2⟩
    · rcases e1 with w | ⟨w1, w2⟩
      · obtain ⟨k, k1, k2⟩ := ih (by omega)
        exact ⟨k, by omega, by omega⟩
      · exact ⟨n, by omega, Or.inl ⟨w1, by omega⟩⟩
    · exact ⟨n, by omega, Or.inr ⟨z1, by omega⟩⟩
