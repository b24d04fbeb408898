/-! PURE: the reference's rows: whom to help next, how many are helped, who is begun with -/
theorem lpx {σ τ : Type} {F : Nat → Nat → σ → Option τ} {G : σ → Option τ} (I : Nat → σ → Prop) (e : Nat) (hx : ∀ k s, I e s → F (k + 1) e s = G s) (hs : ∀ k i s, i < e → I i s → ∃ s', I (i + 1) s' ∧ F (k + 1) i s = F k (i + 1) s') :
    ∀ (d k i : Nat) (s : σ), i + d = e → d < k → I i s → ∃ s', I e s' ∧ F k i s = G s' := by
  intro d
  induction d with
  | zero =>
    intro k i s hi hk h
    obtain ⟨k, rfl⟩ : ∃ j, k = j + 1 := ⟨k - 1, by omega⟩
    have : i = e := by omega
    subst this
    exact ⟨s, h, hx k s h⟩
  | succ d ih =>
    intro k i s hi hk h
    obtain ⟨k, rfl⟩ : ∃ j, k = j + 1 := ⟨k - 1, by omega⟩
    obtain ⟨s', h1, h2⟩ := hs k i s (by omega) h
    rw [h2]
    exact ih k (i + 1) s' (by omega) (by omega) h1
theorem ckr {α : Type} {j n : Nat} (h : j < n) (hn : n ≤ 3072) : ∀ k : Option α, ck (nI j) n k = k := fun _ => ck_nI h hn
/-- the reference's net -/
def RM (M : MN) (m : SM) : Prop := M_places m = nI (gnp M) ∧ M_asks m = nI (gna M) ∧ (∀ p, p < gnp M → M_helpers m p = nI (ghe M p) ∧ M_rule m p = nI (gru M p) ∧ M_delay m p = nI (gde M p)) ∧ (∀ a, a < gna M → M_kind m a = nI (gki M a) ∧ M_start m a = nI (gst M a) ∧ M_steps m a = nI (gle M a)) ∧ (∀ r, gV M r → M_at m r = nI (gpa M r) ∧ M_work m r = nI (gwo M r))
def kp (m : SM) : Int32 × qA × qA × qA × Int32 × qA × qA × qA × Int32 × qA × qA × qA × qA × qA := (M_thrown m, M_helpers m, M_rule m, M_delay m, M_places m, M_kind m, M_start m, M_steps m, M_asks m, M_at m, M_work m, M_isSeen m, M_seenBegun m, M_seenDone m)
theorem kp_all {m m0 : SM} (h : kp m = kp m0) : M_thrown m = M_thrown m0 ∧ M_helpers m = M_helpers m0 ∧ M_rule m = M_rule m0 ∧ M_delay m = M_delay m0 ∧ M_places m = M_places m0 ∧ M_kind m = M_kind m0 ∧ M_start m = M_start m0 ∧ M_steps m = M_steps m0 ∧ M_asks m = M_asks m0 ∧ M_at m = M_at m0 ∧ M_work m = M_work m0 ∧ M_isSeen m = M_isSeen m0 ∧ M_seenBegun m = M_seenBegun m0 ∧ M_seenDone m = M_seenDone m0 := by
  unfold kp at h
  simp only [Prod.mk.injEq] at h
  exact h
theorem RM.keep {M : MN} {m m0 : SM} (h0 : RM M m0) (h : kp m = kp m0) : RM M m := by
  obtain ⟨-, h1, h2, h3, h4, h5, h6, h7, h8, h9, h10, -⟩ := kp_all h
  unfold RM
  rw [h1, h2, h3, h4, h5, h6, h7, h8, h9, h10]
  exact h0
abbrev QS : Type := (Nat → Nat) × (Nat → Nat) × (Nat → Nat) × (Nat → Nat)
abbrev qcm (R : QS) : Nat → Nat := R.1
abbrev qbg (R : QS) : Nat → Nat := R.2.1
abbrev qdn (R : QS) : Nat → Nat := R.2.2.1
abbrev qwt (R : QS) : Nat → Nat := R.2.2.2
def EQ (M : MN) (pw : Nat → Nat) (R : QS) (m : SM) : Prop := RM M m ∧ (∀ k, k < 300 → M_came m k = nI (qcm R k) ∧ M_begun m k = nI (qbg R k) ∧ M_done m k = nI (qdn R k) ∧ M_waits m k = nI (qwt R k)) ∧ (∀ k, gV M k → M_pWork m k = nI (pw k))
def QI (M : MN) (pw : Nat → Nat) (R : QS) : Prop := (∀ k, k < 300 → qcm R k ≤ 2000000000 ∧ qbg R k ≤ 2000000000 ∧ qdn R k ≤ 2000000000 ∧ qwt R k ≤ 1 ∧ (qwt R k = 1 → gV M k ∧ qcm R k ≤ 900000000) ∧ (¬ gV M k → qbg R k = 2000000000)) ∧ (∀ k, gV M k → pw k ≤ 20000000)
theorem mAhead {m : SM} {r k1 k2 c1 c2 w1 w2 d1 d2 : Nat} (hr : r ≤ 3) (h1 : k1 < 300) (h2 : k2 < 300) (hc1 : c1 ≤ 900000000) (hc2 : c2 ≤ 900000000) (hw1 : w1 ≤ 20000000) (hw2 : w2 ≤ 20000000) (hd1 : d1 ≤ 3) (hd2 : d2 ≤ 3) (e1 : M_came m k1 = nI c1) (e2 : M_came m k2 = nI c2) (e3 : M_pWork m k1 = nI w1) (e4 : M_pWork m k2 = nI w2) (e5 : M_kind m (k1 / 5) = nI d1) (e6 : M_kind m (k2 / 5) = nI d2) :
    mX5_isAhead m (nI k1) (nI k2) (nI r) = some (if qrk r c1 w1 d1 < qrk r c2 w2 d2 ∨ (qrk r c1 w1 d1 = qrk r c2 w2 d2 ∧ k1 < k2) then 1 else 0) := by
  unfold mX5_isAhead
  rw [cl_n (j := k1) (by omega), cl_n (j := k2) (by omega), di_5 (a := k1) (by omega), di_5 (a := k2) (by omega), cl_n (j := k1 / 5) (by omega), cl_n (j := k2 / 5) (by omega), e1, e2, e3, e4, e5, e6]
  simp only [ckr (j := k1) (n := 300) h1 (by omega), ckr (j := k2) (n := 300) h2 (by omega), ckr (j := k1 / 5) (n := 60) (by omega) (by omega), ckr (j := k2 / 5) (n := 60) (by omega) (by omega), eq_n (a := c1) (b := c2) (by omega) (by omega), eq_n (a := w1) (b := w2) (by omega) (by omega), eq_n (a := d1) (b := d2) (by omega) (by omega), le_n (a := c1) (b := c2) (by omega) (by omega), le_n (a := c2) (b := c1) (by omega) (by omega), le_n (a := w2) (b := w1) (by omega) (by omega), le_n (a := d2) (b := d1) (by omega) (by omega), le_n (a := k2) (b := k1) (by omega) (by omega)]
  obtain h | h | h | h : r = 0 ∨ r = 1 ∨ r = 2 ∨ r = 3 := by omega
  · subst h
    simp only [show (nI 0 = (1 : Int32)) = False from eq_false (by decide), show (nI 0 = (2 : Int32)) = False from eq_false (by decide), show (nI 0 = (3 : Int32)) = False from eq_false (by decide), if_false]
    have q1 : qrk 0 c1 w1 d1 = c1 := rfl
    have q2 : qrk 0 c2 w2 d2 = c2 := rfl
    rw [q1, q2]
    by_cases hP : (c1 : Int) < c2 ∨ ((c1 : Int) = c2 ∧ k1 < k2)
    · rw [if_pos hP]
      split
      · rw [if_neg (by omega)]
      · rw [if_neg (by omega)]
    · rw [if_neg hP]
      split
      · rw [if_pos (by omega)]
      · rw [if_pos (by omega)]
  · subst h
    simp only [show (nI 1 = (1 : Int32)) = True from eq_true rfl, show (nI 1 = (2 : Int32)) = False from eq_false (by decide), show (nI 1 = (3 : Int32)) = False from eq_false (by decide), if_false, if_true]
    have q1 : qrk 1 c1 w1 d1 = -(c1 : Int) := rfl
    have q2 : qrk 1 c2 w2 d2 = -(c2 : Int) := rfl
    rw [q1, q2]
    by_cases hP : -(c1 : Int) < -(c2 : Int) ∨ (-(c1 : Int) = -(c2 : Int) ∧ k1 < k2)
    · rw [if_pos hP]
      split
      · rw [if_neg (by omega)]
      · rw [if_neg (by omega)]
    · rw [if_neg hP]
      split
      · rw [if_pos (by omega)]
      · rw [if_pos (by omega)]
  · subst h
    simp only [show (nI 2 = (1 : Int32)) = False from eq_false (by decide), show (nI 2 = (2 : Int32)) = True from eq_true rfl, show (nI 2 = (3 : Int32)) = False from eq_false (by decide), if_false, if_true]
    have q1 : qrk 2 c1 w1 d1 = (w1 : Int) * 1000000000 + c1 := rfl
    have q2 : qrk 2 c2 w2 d2 = (w2 : Int) * 1000000000 + c2 := rfl
    rw [q1, q2]
    by_cases hP : (w1 : Int) * 1000000000 + c1 < (w2 : Int) * 1000000000 + c2 ∨ ((w1 : Int) * 1000000000 + c1 = (w2 : Int) * 1000000000 + c2 ∧ k1 < k2)
    · rw [if_pos hP]
      split
      · split
        · rw [if_neg (by omega)]
        · rw [if_neg (by omega)]
      · rw [if_neg (by omega)]
    · rw [if_neg hP]
      split
      · split
        · rw [if_pos (by omega)]
        · rw [if_pos (by omega)]
      · rw [if_pos (by omega)]
  · subst h
    simp only [show (nI 3 = (1 : Int32)) = False from eq_false (by decide), show (nI 3 = (2 : Int32)) = False from eq_false (by decide), show (nI 3 = (3 : Int32)) = True from eq_true rfl, if_false, if_true]
    have q1 : qrk 3 c1 w1 d1 = (d1 : Int) * 1000000000 + c1 := rfl
    have q2 : qrk 3 c2 w2 d2 = (d2 : Int) * 1000000000 + c2 := rfl
    rw [q1, q2]
    by_cases hP : (d1 : Int) * 1000000000 + c1 < (d2 : Int) * 1000000000 + c2 ∨ ((d1 : Int) * 1000000000 + c1 = (d2 : Int) * 1000000000 + c2 ∧ k1 < k2)
    · rw [if_pos hP]
      split
      · split
        · rw [if_neg (by omega)]
        · rw [if_neg (by omega)]
      · rw [if_neg (by omega)]
    · rw [if_neg hP]
      split
      · split
        · rw [if_pos (by omega)]
        · rw [if_pos (by omega)]
      · rw [if_pos (by omega)]
def qkk (M : MN) (pw : Nat → Nat) (R : QS) (r k : Nat) : Int := qrk r (qcm R k) (pw k) (gki M (k / 5))
def qnx (M : MN) (pw : Nat → Nat) (R : QS) (p r : Nat) : Nat → Option Nat
  | 0 => none
  | n + 1 => if qwt R n = 1 ∧ gpa M n = p then (match qnx M pw R p r n with
    | none => some n
    | some b => if qkk M pw R r n < qkk M pw R r b then some n else some b) else qnx M pw R p r n
theorem qnx_some {M : MN} {pw : Nat → Nat} {R : QS} {p r : Nat} : ∀ {n b : Nat}, qnx M pw R p r n = some b → b < n ∧ qwt R b = 1 ∧ gpa M b = p
  | 0, b, h => by rw [qnx] at h; exact absurd h (by intro z; cases z)
  | n + 1, b, h => by
    rw [qnx] at h
    split at h
    · rename_i hc
      split at h
      · cases h
        exact ⟨by omega, hc⟩
      · rename_i b' hb'
        have ih := qnx_some hb'
        split at h
        · cases h
          exact ⟨by omega, hc⟩
        · cases h
          exact ⟨by omega, ih.2⟩
    · have ih := qnx_some h
      exact ⟨by omega, ih.2⟩
theorem qwt_01 {n : Nat} (h : n ≤ 1) : (nI n = 0) = (n = 0) := by
  rw [show (0 : Int32) = nI 0 from rfl, eq_n (by omega) (by omega)]
theorem mNx {M : MN} {pw : Nat → Nat} {R : QS} {m : SM} (ok : gOK M) (he : EQ M pw R m) (hq : QI M pw R) {p r : Nat} (hp : p < gnp M) (hr : r ≤ 3) : mX5_next m (nI p) (nI r) = some (eo (qnx M pw R p r (5 * gna M))) := by
  have h60 := ok.2.1
  have h5 := ok.1
  unfold mX5_next
  have key := lpx (F := fun k i (x : Int32) => lpX5_next_5 m (nI p) (nI r) k x (nI i)) (G := fun x => some x) (fun i x => x = eo (qnx M pw R p r i)) (5 * gna M)
    (fun k s hs => by
      show lpX5_next_5 m (nI p) (nI r) (k + 1) s (nI (5 * gna M)) = some s
      rw [lpX5_next_5, he.1.2.1, mu_5', if_pos (by rw [le_n (by omega) (by omega)]; omega)])
    (fun k i s hi hs => by
      show ∃ s', s' = eo (qnx M pw R p r (i + 1)) ∧ lpX5_next_5 m (nI p) (nI r) (k + 1) s (nI i) = lpX5_next_5 m (nI p) (nI r) k s' (nI (i + 1))
      have hi3 : i < 300 := by omega
      obtain ⟨b1, b2, b3, b4, b5, b6⟩ := hq.1 i hi3
      obtain ⟨c1, c2, c3, c4⟩ := he.2.1 i hi3
      rw [lpX5_next_5, he.1.2.1, mu_5', if_neg (by rw [le_n (by omega) (by omega)]; omega), ck_nI hi3 (by omega), cl_n (by omega), c4, ad_1]
      by_cases hw : qwt R i = 1
      · rw [if_neg (by rw [qwt_01 b4]; omega), ck_nI hi3 (by omega)]
        obtain ⟨hv, hcm⟩ := b5 hw
        have hpl := (ok.2.2.2.2 _ hv).1
        rw [(he.1.2.2.2.2 i hv).1]
        by_cases hpp : gpa M i = p
        · rw [if_pos (by rw [hpp])]
          cases hn : qnx M pw R p r i with
          | none =>
            rw [hs, hn, if_pos (by decide)]
            refine ⟨_, ?_, rfl⟩
            rw [qnx, if_pos ⟨hw, hpp⟩, hn]
            rfl
          | some b =>
            obtain ⟨hbi, hbw, hbp⟩ := qnx_some hn
            obtain ⟨a1, a2, a3, a4, a5, a6⟩ := hq.1 b (by omega)
            obtain ⟨hvb, hcb⟩ := a5 hbw
            rw [hs, hn, show eo (some b) = nI b from rfl, if_neg (by rw [lt_0n (by omega)]; exact not_false)]
            rw [mAhead (m := m) hr hi3 (by omega) hcm hcb (hq.2 i hv) (hq.2 b hvb) (ok.2.2.2.1 _ hv.1).1 (ok.2.2.2.1 _ hvb.1).1 c1 (he.2.1 b (by omega)).1 (he.2.2 i hv) (he.2.2 b hvb) (he.1.2.2.2.1 _ hv.1).1 (he.1.2.2.2.1 _ hvb.1).1, bi_s]
            by_cases hlt : qkk M pw R r i < qkk M pw R r b
            · have hlt' := hlt
              unfold qkk at hlt'
              rw [if_pos (c := _ ∨ _) (Or.inl hlt'), if_neg (by decide)]
              refine ⟨_, ?_, rfl⟩
              rw [qnx, if_pos ⟨hw, hpp⟩, hn]
              show _ = eo (if qkk M pw R r i < qkk M pw R r b then some i else some b)
              rw [if_pos hlt]
              rfl
            · rw [if_neg (c := _ ∨ _) (by rintro (z | ⟨-, z⟩); exact hlt z; omega), if_pos rfl]
              refine ⟨_, ?_, rfl⟩
              rw [qnx, if_pos ⟨hw, hpp⟩, hn]
              show _ = eo (if qkk M pw R r i < qkk M pw R r b then some i else some b)
              rw [if_neg hlt]
              rfl
        · rw [if_neg (by rw [eq_n (by omega) (by omega)]; exact hpp)]
          refine ⟨_, ?_, rfl⟩
          rw [qnx, if_neg (fun z => hpp z.2)]
          exact hs
      · rw [if_pos (by rw [qwt_01 b4]; omega)]
        refine ⟨_, ?_, rfl⟩
        rw [qnx, if_neg (fun z => hw z.1)]
        exact hs)
    (5 * gna M) qFU 0 (-1) (by omega) (by unfold qFU; omega) rfl
  obtain ⟨s', h1, h2⟩ := key
  have h2' : lpX5_next_5 m (nI p) (nI r) qFU (-1) 0 = some s' := h2
  rw [h2', bi_s, h1]
def qby (M : MN) (R : QS) (p t : Nat) : Nat → Nat
  | 0 => 0
  | n + 1 => qby M R p t n + (if gpa M n = p ∧ qbg R n ≤ t ∧ t < qdn R n ∧ qdn R n < 2000000000 then 1 else 0)
theorem qby_le (M : MN) (R : QS) (p t : Nat) : ∀ n, qby M R p t n ≤ n
  | 0 => Nat.le_refl _
  | n + 1 => by have := qby_le M R p t n; rw [qby]; split <;> omega
theorem mBy {M : MN} {pw : Nat → Nat} {R : QS} {m : SM} (ok : gOK M) (he : EQ M pw R m) (hq : QI M pw R) {p t : Nat} (hp : p < gnp M) (ht : t ≤ 900000000) : mX5_busy m (nI p) (nI t) = some (nI (qby M R p t (5 * gna M))) := by
  have h60 := ok.2.1
  have h5 := ok.1
  unfold mX5_busy
  have key := lpx (F := fun k i (x : Int32) => lpX5_busy_5 m (nI p) (nI t) k x (nI i)) (G := fun x => some x) (fun i x => x = nI (qby M R p t i)) (5 * gna M)
    (fun k s hs => by
      show lpX5_busy_5 m (nI p) (nI t) (k + 1) s (nI (5 * gna M)) = some s
      rw [lpX5_busy_5, he.1.2.1, mu_5', if_pos (by rw [le_n (by omega) (by omega)]; omega)])
    (fun k i s hi hs => by
      show ∃ s', s' = nI (qby M R p t (i + 1)) ∧ lpX5_busy_5 m (nI p) (nI t) (k + 1) s (nI i) = lpX5_busy_5 m (nI p) (nI t) k s' (nI (i + 1))
      have hi3 : i < 300 := by omega
      obtain ⟨b1, b2, b3, b4, b5, b6⟩ := hq.1 i hi3
      obtain ⟨c1, c2, c3, c4⟩ := he.2.1 i hi3
      have hin : (if M_at m i = nI p then ck (nI i) 300 (if nI t < nI (qbg R i) then some 0 else ck (nI i) 300 (if nI (qdn R i) ≤ nI t then some 0 else ck (nI i) 300 (if 2000000000 ≤ nI (qdn R i) then some 0 else some 1))) else some 0) = some (nI (if gpa M i = p ∧ qbg R i ≤ t ∧ t < qdn R i ∧ qdn R i < 2000000000 then 1 else 0)) := by
        simp only [ckr (j := i) (n := 300) hi3 (by omega), lt_n (a := t) (b := qbg R i) (by omega) (by omega), le_n (a := qdn R i) (b := t) (by omega) (by omega), show (2000000000 : Int32) = nI 2000000000 from rfl, le_n (a := 2000000000) (b := qdn R i) (by omega) (by omega)]
        by_cases hb : t < qbg R i
        · rw [if_neg (c := _ ∧ _) (by omega), if_pos hb]
          split <;> rfl
        · have hv : gV M i := Classical.byContradiction (fun z => by have := b6 z; omega)
          have hpl := (ok.2.2.2.2 _ hv).1
          rw [(he.1.2.2.2.2 i hv).1, if_neg hb]
          by_cases hpp : gpa M i = p
          · rw [if_pos (by rw [hpp])]
            by_cases hd : qdn R i ≤ t
            · rw [if_pos hd, if_neg (c := _ ∧ _) (by omega)]; rfl
            · rw [if_neg hd]
              by_cases hd2 : 2000000000 ≤ qdn R i
              · rw [if_pos hd2, if_neg (c := _ ∧ _) (by omega)]; rfl
              · rw [if_neg hd2, if_pos (c := _ ∧ _) ⟨hpp, by omega, by omega, by omega⟩]; rfl
          · rw [if_neg (by rw [eq_n (by omega) (by omega)]; exact hpp), if_neg (c := _ ∧ _) (by omega)]; rfl
      rw [lpX5_busy_5, he.1.2.1, mu_5', if_neg (by rw [le_n (by omega) (by omega)]; omega), ck_nI hi3 (by omega), cl_n (by omega), c2, c3, hin, bi_s, ad_1]
      refine ⟨_, ?_, rfl⟩
      rw [hs, ad_n, qby])
    (5 * gna M) qFU 0 0 (by omega) (by unfold qFU; omega) rfl
  obtain ⟨s', h1, h2⟩ := key
  have h2' : lpX5_busy_5 m (nI p) (nI t) qFU 0 0 = some s' := h2
  rw [h2', bi_s, h1]
def qbe (pw : Nat → Nat) (t k : Nat) (R : QS) : QS := (qcm R, (fun j => if j = k then t else qbg R j), (fun j => if j = k then t + pw k else qdn R j), (fun j => if j = k then 0 else qwt R j))
def qbl (M : MN) (pw : Nat → Nat) (p r t : Nat) : Nat → QS → QS
  | 0, R => R
  | f + 1, R => match qnx M pw R p r (5 * gna M) with
    | none => R
    | some k => qbl M pw p r t f (qbe pw t k R)
theorem QI_be {M : MN} {pw : Nat → Nat} {R : QS} {t k : Nat} (hq : QI M pw R) (ht : t ≤ 900000000) (hv : gV M k) : QI M pw (qbe pw t k R) := by
  refine ⟨fun j hj => ?_, hq.2⟩
  obtain ⟨b1, b2, b3, b4, b5, b6⟩ := hq.1 j hj
  have hpw := hq.2 k hv
  show qcm R j ≤ 2000000000 ∧ (if j = k then t else qbg R j) ≤ 2000000000 ∧ (if j = k then t + pw k else qdn R j) ≤ 2000000000 ∧ (if j = k then 0 else qwt R j) ≤ 1 ∧ ((if j = k then 0 else qwt R j) = 1 → _) ∧ (_ → (if j = k then t else qbg R j) = 2000000000)
  by_cases e : j = k
  · subst e
    simp only [if_true]
    refine ⟨b1, by omega, by omega, by omega, fun z => by omega, fun z => absurd hv z⟩
  · simp only [if_neg e]
    exact ⟨b1, b2, b3, b4, b5, b6⟩
theorem EQ_be {M : MN} {pw : Nat → Nat} {R : QS} {m : SM} {t k : Nat} (he : EQ M pw R m) : EQ M pw (qbe pw t k R) (M_waits_s (M_done_s (M_begun_s m (upd (M_begun m) k (nI t))) (upd (M_done m) k (nI (t + pw k)))) (upd (M_waits m) k 0)) := by
  refine ⟨he.1, fun j hj => ?_, he.2.2⟩
  obtain ⟨c1, c2, c3, c4⟩ := he.2.1 j hj
  show M_came m j = nI (qcm R j) ∧ upd (M_begun m) k (nI t) j = nI (if j = k then t else qbg R j) ∧ upd (M_done m) k (nI (t + pw k)) j = nI (if j = k then t + pw k else qdn R j) ∧ upd (M_waits m) k 0 j = nI (if j = k then 0 else qwt R j)
  by_cases e : j = k
  · subst e
    simp only [if_true, up_s]
    exact ⟨c1, trivial, trivial, rfl⟩
  · simp only [if_neg e, up_n e]
    exact ⟨c1, c2, c3, c4⟩
theorem bs_loop {M : MN} {pw : Nat → Nat} (ok : gOK M) {p r t : Nat} (hp : p < gnp M) (hr : r ≤ 3) (ht : t ≤ 900000000) :
    ∀ (f k : Nat) (R : QS) (m : SM), f < 1000 → f < k → EQ M pw R m → QI M pw R → ∃ m', lpX5_begins_19 (nI p) (nI r) (nI t) k (nI f) (eo (qnx M pw R p r (5 * gna M))) m = some m' ∧ EQ M pw (qbl M pw p r t f R) m' ∧ QI M pw (qbl M pw p r t f R) ∧ kp m' = kp m := by
  have h60 := ok.2.1
  intro f
  induction f with
  | zero =>
    intro k R m hf hk he hq
    obtain ⟨k, rfl⟩ : ∃ j, k = j + 1 := ⟨k - 1, by omega⟩
    rw [lpX5_begins_19, if_pos (by decide)]
    exact ⟨m, rfl, he, hq, rfl⟩
  | succ f ih =>
    intro k R m hf hk he hq
    obtain ⟨k, rfl⟩ : ∃ j, k = j + 1 := ⟨k - 1, by omega⟩
    · rw [lpX5_begins_19, if_neg (by rw [show (0 : Int32) = nI 0 from rfl, le_n (by omega) (by omega)]; omega), qbl]
      cases hn : qnx M pw R p r (5 * gna M) with
      | none =>
        rw [if_pos (by decide)]
        exact ⟨m, rfl, he, hq, rfl⟩
      | some b =>
        obtain ⟨hb, hbw, hbp⟩ := qnx_some hn
        obtain ⟨hv, hcm⟩ := (hq.1 b (by omega)).2.2.2.2.1 hbw
        rw [show eo (some b) = nI b from rfl, if_neg (by rw [lt_0n (by omega)]; exact not_false), ck_nI (by omega) (by omega), ck_nI (by omega) (by omega), ck_nI (by omega) (by omega), ck_nI (by omega) (by omega), cl_n (by omega), he.2.2 b hv, ad_n, bool_0]
        have he2 := EQ_be (t := t) (k := b) he
        have hq2 := QI_be (t := t) hq ht hv
        rw [mNx ok he2 hq2 hp hr, bi_s, pk_m1]
        exact ih k (qbe pw t b R) _ (by omega) (by omega) he2 hq2
theorem mBegins {M : MN} {pw : Nat → Nat} {R : QS} {m : SM} (ok : gOK M) (he : EQ M pw R m) (hq : QI M pw R) {p r t h : Nat} (hp : p < gnp M) (hr : r ≤ 3) (ht : t ≤ 900000000) (hh : h ≤ 9) (hb : qby M R p t (5 * gna M) ≤ h) : ∃ m', mX5_begins m (nI p) (nI h) (nI r) (nI t) = some m' ∧ EQ M pw (qbl M pw p r t (h - qby M R p t (5 * gna M)) R) m' ∧ QI M pw (qbl M pw p r t (h - qby M R p t (5 * gna M)) R) ∧ kp m' = kp m := by
  unfold mX5_begins
  rw [mBy ok he hq hp ht, bi_s, mNx ok he hq hp hr, bi_s, su_n hb]
  obtain ⟨m', h1, h2⟩ := bs_loop ok hp hr ht (h - qby M R p t (5 * gna M)) qFU R m (by omega) (by unfold qFU; omega) he hq
  rw [h1, bi_s]
  exact ⟨m', rfl, h2⟩
