/-! PURE: the seen steps of one place; overlap -/
theorem re0 {r : Nat} (h : r < 300) : (nI r - nI r / 5 * 5 = 0) = (r % 5 = 0) := by
  rw [re_5 (by omega), show (0 : Int32) = nI 0 from rfl, eq_n (by omega) (by omega)]
theorem sn01 {M : MN} {sn sb sd : Nat → Nat} (h : SD M sn sb sd) (r : Nat) : sn r = 0 ∨ sn r = 1 := by have := (h r).1; omega
/-- when a row came, by tracks -/
def gcm (M : MN) (sn sd : Nat → Nat) (r : Nat) : Option Nat := if r % 5 = 0 then some (gst M (r / 5)) else if sn (r - 1) = 1 then some (sd (r - 1) + gde M (gpa M (r - 1))) else none
theorem gcm_b {M : MN} {sn sb sd : Nat → Nat} (ok : gOK M) (hsd : SD M sn sb sd) {r c : Nat} (hv : gV M r) (h : gcm M sn sd r = some c) : c ≤ 10001000 := by
  unfold gcm at h
  split at h
  · cases h
    have := (ok.2.2.2.1 _ hv.1).2.1
    omega
  · split at h
    · rename_i z
      cases h
      obtain ⟨h1, h2, h3⟩ := (hsd (r - 1)).2 z
      have h4 := (ok.2.2.1 _ (ok.2.2.2.2 _ h1).1).2.2.2
      omega
    · cases h
theorem mCame {M : MN} {n : SN} {t : ST} {sn sb sd : Nat → Nat} (ok : gOK M) (hn : RN M n) (hsd : SD M sn sb sd) (het : ET sn sb sd t) {r : Nat} (hr : r < 300) : mX3_cameOf t n (nI r) = some (if sn r = 1 then eo (gcm M sn sd r) else -1) := by
  have h5 := ok.1
  have h60 := ok.2.1
  unfold mX3_cameOf
  rw [ck_nI hr (by omega), cl_n (j := r) (by omega), (het r hr).1]
  rcases sn01 hsd r with h | h
  · rw [h, if_pos (show nI 0 = 0 from rfl), if_neg (show ¬ (0 : Nat) = 1 by omega)]
  · have hv := ((hsd r).2 h).1
    rw [h, if_neg (show ¬ nI 1 = 0 by decide), if_pos (show (1 : Nat) = 1 from rfl)]
    unfold gcm
    by_cases c : r % 5 = 0
    · rw [if_pos (by rw [re0 hr]; exact c), if_pos c, di_5 (by omega), ck_nI (by omega) (by omega), cl_n (by omega), (hn.2.2.2.1 _ hv.1).2.1]
      rfl
    · rw [if_neg (by rw [re0 hr]; exact c), if_neg c, su_1 (by omega), ck_nI (by omega) (by omega), cl_n (j := r - 1) (by omega), (het (r - 1) (by omega)).1]
      rcases sn01 hsd (r - 1) with h2 | h2
      · rw [h2, if_pos (show nI 0 = 0 from rfl), if_neg (show ¬ (0 : Nat) = 1 by omega)]
        rfl
      · have hv2 := ((hsd (r - 1)).2 h2).1
        have hp2 := (ok.2.2.2.2 _ hv2).1
        rw [h2, if_neg (show ¬ nI 1 = 0 by decide), if_pos (show (1 : Nat) = 1 from rfl), ck_nI (by omega) (by omega), ck_nI (by omega) (by omega), ((het (r - 1) (by omega)).2 h2).2, (hn.2.2.2.2 _ hv2).1, ck_nI (by omega) (by omega), cl_n (by omega), (hn.2.2.1 _ hp2).2.2, ad_n]
        rfl
theorem mSeenC {M : MN} {m : SM} {sn sb sd : Nat → Nat} (ok : gOK M) (hr : RM M m) (hsd : SD M sn sb sd) (hem : EM sn sb sd m) {r : Nat} (hv : gV M r) : mX5_seenCame m (nI r) = some (eo (gcm M sn sd r)) := by
  have h5 := ok.1
  have h60 := ok.2.1
  have hr3 : r < 300 := gV.lt ok hv
  unfold mX5_seenCame gcm
  by_cases c : r % 5 = 0
  · rw [if_pos (by rw [re0 hr3]; exact c), if_pos c, di_5 (by omega), ck_nI (by omega) (by omega), cl_n (by omega), (hr.2.2.2.1 _ hv.1).2.1]
    rfl
  · rw [if_neg (by rw [re0 hr3]; exact c), if_neg c, su_1 (by omega), ck_nI (by omega) (by omega), cl_n (j := r - 1) (by omega), (hem (r - 1) (by omega)).1]
    rcases sn01 hsd (r - 1) with h2 | h2
    · rw [h2, if_pos (show nI 0 = 0 from rfl), if_neg (show ¬ (0 : Nat) = 1 by omega)]
      rfl
    · have hv2 := ((hsd (r - 1)).2 h2).1
      have hp2 := (ok.2.2.2.2 _ hv2).1
      rw [h2, if_neg (show ¬ nI 1 = 0 by decide), if_pos (show (1 : Nat) = 1 from rfl), ck_nI (by omega) (by omega), ck_nI (by omega) (by omega), ((hem (r - 1) (by omega)).2 h2).2, (hr.2.2.2.2 _ hv2).1, ck_nI (by omega) (by omega), cl_n (by omega), (hr.2.2.1 _ hp2).2.2, ad_n]
      rfl
/-- a seen step at place p -/
def gG (M : MN) (sn : Nat → Nat) (p r : Nat) : Nat := if sn r = 1 ∧ gpa M r = p then 1 else 0
theorem gG_le (M : MN) (sn : Nat → Nat) (p r : Nat) : gG M sn p r ≤ 1 := by unfold gG; split <;> omega
theorem gG_1 {M : MN} {sn : Nat → Nat} {p r : Nat} (h : gG M sn p r = 1) : sn r = 1 ∧ gpa M r = p := by
  unfold gG at h
  split at h
  · rename_i z; exact z
  · omega
theorem gG_i {M : MN} {sn : Nat → Nat} {p r : Nat} (h : sn r = 1 ∧ gpa M r = p) : gG M sn p r = 1 := by unfold gG; rw [if_pos h]
theorem gG_o {M : MN} {sn : Nat → Nat} {p r : Nat} (h : ¬ (sn r = 1 ∧ gpa M r = p)) : gG M sn p r = 0 := by unfold gG; rw [if_neg h]
def gwh (M : MN) (sn sd : Nat → Nat) (p : Nat) : Nat → Nat
  | 0 => 1
  | n + 1 => if gB M n = 1 ∧ gpa M n = p then (if gwh M sn sd p n = 1 ∧ sn n = 1 ∧ gcm M sn sd n ≠ none then 1 else 0) else gwh M sn sd p n
theorem gwh_le (M : MN) (sn sd : Nat → Nat) (p : Nat) : ∀ n, gwh M sn sd p n ≤ 1
  | 0 => Nat.le_refl _
  | n + 1 => by
    have := gwh_le M sn sd p n
    rw [gwh]
    split
    · split <;> omega
    · exact this
def GA (M : MN) (sn sb sd : Nat → Nat) (p i : Nat) (f : SF) : Prop := F_size f = nI (cg (gG M sn p) i) ∧ F_isWhole f = nI (gwh M sn sd p i) ∧ ∀ r, r < i → gG M sn p r = 1 → F_came f (cg (gG M sn p) r) = eo (gcm M sn sd r) ∧ F_begun f (cg (gG M sn p) r) = nI (sb r) ∧ F_done f (cg (gG M sn p) r) = nI (sd r) ∧ F_kinds f (cg (gG M sn p) r) = nI (gki M (r / 5))
theorem spP {M : MN} {n : SN} (ok : gOK M) (hn : LN M n) {p i : Nat} (hp : p < gnp M) (hi : i < 300) : (N_stepPlaces n i = nI p) = (gB M i = 1 ∧ gpa M i = p) := by
  have h5 := ok.1
  apply propext
  by_cases h : gV M i
  · have := (ok.2.2.2.2 i h).1
    rw [(hn.1.2.2.2.2 i h).1, eq_n (by omega) (by omega), gB_1 h]
    exact ⟨fun z => ⟨rfl, z⟩, fun z => z.2⟩
  · rw [hn.2.2.1 i hi h, gB_0 h]
    constructor
    · intro z
      exact absurd z.symm (by rw [ne_n1 (by omega)]; exact not_false)
    · intro z
      exact absurd z.1 (by omega)
theorem cg_mn {f : Nat → Nat} {a : Nat} : ∀ {b : Nat}, a ≤ b → cg f a ≤ cg f b
  | 0, h => by rw [show a = 0 by omega]; exact Nat.le_refl _
  | b + 1, h => by
    by_cases e : a = b + 1
    · rw [e]; exact Nat.le_refl _
    · have := cg_mn (f := f) (b := b) (show a ≤ b by omega)
      rw [cg]; omega
theorem cg_up {f : Nat → Nat} {a b : Nat} (h : a < b) (hf : 0 < f a) : cg f a < cg f b := by
  have := cg_mn (f := f) (a := a + 1) (b := b) h
  rw [cg] at this
  omega
theorem gG_inj {M : MN} {sn : Nat → Nat} {p a b : Nat} (ha : gG M sn p a = 1) (hb : gG M sn p b = 1) (h : cg (gG M sn p) a = cg (gG M sn p) b) : a = b := by
  rcases Nat.lt_trichotomy a b with z | z | z
  · have := cg_up (f := gG M sn p) z (by omega); omega
  · exact z
  · have := cg_up (f := gG M sn p) z (by omega); omega
theorem gG_inv {M : MN} {sn : Nat → Nat} {p : Nat} : ∀ (n : Nat) {i : Nat}, i < cg (gG M sn p) n → ∃ r, r < n ∧ gG M sn p r = 1 ∧ cg (gG M sn p) r = i
  | 0, i, h => by rw [cg] at h; omega
  | n + 1, i, h => by
    rw [cg] at h
    by_cases e : i < cg (gG M sn p) n
    · obtain ⟨r, h1, h2⟩ := gG_inv n e
      exact ⟨r, by omega, h2⟩
    · have := gG_le M sn p n
      exact ⟨n, by omega, by omega, by omega⟩
theorem mGather {M : MN} {n : SN} {t : ST} {sn sb sd : Nat → Nat} (ok : gOK M) (hn : LN M n) (hsd : SD M sn sb sd) (het : ET sn sb sd t) {p : Nat} (hp : p < gnp M) (f : SF) : ∃ f', mX0_gather f n t (nI p) = some f' ∧ GA M sn sb sd p (5 * gna M) f' := by
  have h60 := ok.2.1
  unfold mX0_gather
  have key := lpx (F := fun k i (x : SF) => lpX0_gather_13 n t (nI p) k (nI i) x) (G := fun x => some x) (fun i x => GA M sn sb sd p i x) (5 * gna M)
    (fun k s hs => by
      show lpX0_gather_13 n t (nI p) (k + 1) (nI (5 * gna M)) s = some s
      rw [lpX0_gather_13, mEndR hn.1, bi_s, if_pos (by rw [le_n (by omega) (by omega)]; omega)])
    (fun k i s hi hs => by
      show ∃ s', GA M sn sb sd p (i + 1) s' ∧ lpX0_gather_13 n t (nI p) (k + 1) (nI i) s = lpX0_gather_13 n t (nI p) k (nI (i + 1)) s'
      have hi3 : i < 300 := by omega
      obtain ⟨s1, s2, s3⟩ := hs
      rw [lpX0_gather_13, mEndR hn.1, bi_s, if_neg (by rw [le_n (by omega) (by omega)]; omega), ck_nI hi3 (by omega), cl_n (j := i) (by omega), ad_1 i]
      by_cases c : gB M i = 1 ∧ gpa M i = p
      · have hv := gB_v c.1
        have ew : (if F_isWhole s = 0 then some (0 : Int32) else if (if sn i = 1 then eo (gcm M sn sd i) else -1) = -1 then some 0 else some 1) = some (nI (gwh M sn sd p (i + 1))) := by
          rw [s2]
          by_cases g : gwh M sn sd p i = 1
          · rw [g, if_neg (show ¬ nI 1 = 0 by decide)]
            rcases sn01 hsd i with h | h
            · have e : gwh M sn sd p (i + 1) = 0 := by rw [gwh, if_pos c, if_neg (fun z => by omega)]
              rw [e, h, if_neg (c := (0 : Nat) = 1) (by omega), if_pos (c := (-1 : Int32) = -1) rfl]
              rfl
            · rw [h, if_pos (c := (1 : Nat) = 1) rfl]
              cases hc : gcm M sn sd i with
              | none =>
                have e : gwh M sn sd p (i + 1) = 0 := by rw [gwh, if_pos c, if_neg (fun z => z.2.2 hc)]
                rw [e, if_pos (show eo none = -1 from rfl)]
                rfl
              | some x =>
                have hb := gcm_b ok hsd hv hc
                have e : gwh M sn sd p (i + 1) = 1 := by rw [gwh, if_pos c, if_pos ⟨g, h, by rw [hc]; intro z; cases z⟩]
                rw [e, if_neg (show ¬ eo (some x) = -1 by show ¬ nI x = -1; rw [ne_n1 (by omega)]; exact not_false)]
                rfl
          · have g0 : gwh M sn sd p i = 0 := by have := gwh_le M sn sd p i; omega
            have e : gwh M sn sd p (i + 1) = 0 := by rw [gwh, if_pos c, if_neg (fun z => g z.1)]
            rw [e, g0, if_pos (show nI 0 = 0 from rfl)]
            rfl
        have hz : ∀ {α : Type} (k : Option α), ckz (nI (gwh M sn sd p (i + 1))) k = k := by
          intro α k
          have := gwh_le M sn sd p (i + 1)
          unfold ckz
          rw [if_pos]
          by_cases z : gwh M sn sd p (i + 1) = 0
          · left; rw [z]; rfl
          · right; rw [show gwh M sn sd p (i + 1) = 1 by omega]; rfl
        rw [if_pos (by rw [spP ok hn hp hi3]; exact c), mCame ok hn.1 hsd het hi3, bi_s, ew, bi_s, hz, ck_nI hi3 (by omega), (het i hi3).1]
        rcases sn01 hsd i with h | h
        · have hg : gG M sn p i = 0 := gG_o (fun z => by omega)
          rw [h, if_pos (c := nI 0 = 0) rfl]
          refine ⟨_, ?_, rfl⟩
          refine ⟨?_, rfl, fun r hr hgr => ?_⟩
          · show F_size s = nI (cg (gG M sn p) (i + 1))
            rw [s1, cg, hg]
            rfl
          · have e : r ≠ i := fun z => by rw [z] at hgr; omega
            exact s3 r (by omega) hgr
        · have hg : gG M sn p i = 1 := gG_i ⟨h, c.2⟩
          have hgc : cg (gG M sn p) i < 300 := Nat.lt_of_le_of_lt (cg_le (fun a _ => gG_le M sn p a)) hi3
          rw [h, if_neg (c := nI 1 = 0) (by decide), if_pos (c := (1 : Nat) = 1) rfl, s1, di_5 (by omega)]
          simp only [ckr (j := i) (n := 300) hi3 (by omega), ckr (j := cg (gG M sn p) i) (n := 300) hgc (by omega), ckr (j := i / 5) (n := 60) (by omega) (by omega)]
          rw [cl_n (j := cg (gG M sn p) i) (by omega), cl_n (j := i / 5) (by omega), ((het i hi3).2 h).1, ((het i hi3).2 h).2, (hn.1.2.2.2.1 _ hv.1).1]
          refine ⟨_, ?_, rfl⟩
          refine ⟨?_, rfl, fun r hr hgr => ?_⟩
          · show nI (cg (gG M sn p) i) + 1 = nI (cg (gG M sn p) (i + 1))
            rw [cg, hg, ad_1]
          · show upd (F_came s) (cg (gG M sn p) i) (eo (gcm M sn sd i)) (cg (gG M sn p) r) = eo (gcm M sn sd r) ∧ upd (F_begun s) (cg (gG M sn p) i) (nI (sb i)) (cg (gG M sn p) r) = nI (sb r) ∧ upd (F_done s) (cg (gG M sn p) i) (nI (sd i)) (cg (gG M sn p) r) = nI (sd r) ∧ upd (F_kinds s) (cg (gG M sn p) i) (nI (gki M (i / 5))) (cg (gG M sn p) r) = nI (gki M (r / 5))
            by_cases e : r = i
            · subst e
              rw [up_s, up_s, up_s, up_s]
              exact ⟨rfl, rfl, rfl, rfl⟩
            · have hlt := cg_up (f := gG M sn p) (a := r) (b := i) (by omega) (by omega)
              rw [up_n (by omega), up_n (by omega), up_n (by omega), up_n (by omega)]
              exact s3 r (by omega) hgr
      · have hg : gG M sn p i = 0 := gG_o (fun z => c ⟨gB_1 ((hsd i).2 z.1).1, z.2⟩)
        rw [if_neg (by rw [spP ok hn hp hi3]; exact c)]
        refine ⟨s, ⟨?_, ?_, fun r hr hgr => ?_⟩, rfl⟩
        · rw [s1, cg, hg]
          rfl
        · rw [s2, gwh, if_neg c]
        · have e : r ≠ i := fun z => by rw [z] at hgr; omega
          exact s3 r (by omega) hgr)
    (5 * gna M) qFU 0 (F_isWhole_s (F_size_s f 0) 1) (by omega) (by unfold qFU; omega) ⟨rfl, rfl, fun r hr => by omega⟩
  obtain ⟨s', h1, h2⟩ := key
  have h2' : lpX0_gather_13 n t (nI p) qFU 0 (F_isWhole_s (F_size_s f 0) 1) = some s' := h2
  rw [h2', bi_s]
  exact ⟨s', rfl, h1⟩
theorem gG_out {M : MN} {sn sb sd : Nat → Nat} (hsd : SD M sn sb sd) {p r : Nat} (hr : 5 * gna M ≤ r) : gG M sn p r = 0 := gG_o (fun z => by have := sn_out hsd hr; omega)
theorem gwh_300 {M : MN} (ok : gOK M) {sn sd : Nat → Nat} {p : Nat} : gwh M sn sd p 300 = gwh M sn sd p (5 * gna M) := by
  have h60 := ok.2.1
  have key : ∀ d, gwh M sn sd p (5 * gna M + d) = gwh M sn sd p (5 * gna M) := by
    intro d
    induction d with
    | zero => rfl
    | succ d ih =>
      rw [show 5 * gna M + (d + 1) = 5 * gna M + d + 1 from rfl, gwh, if_neg, ih]
      intro z
      have := gB_out (M := M) (r := 5 * gna M + d) (by omega)
      omega
  have := key (300 - 5 * gna M)
  rw [show 5 * gna M + (300 - 5 * gna M) = 300 by omega] at this
  exact this
theorem GA_300 {M : MN} {sn sb sd : Nat → Nat} {p : Nat} {f : SF} (ok : gOK M) (hsd : SD M sn sb sd) (h : GA M sn sb sd p (5 * gna M) f) : GA M sn sb sd p 300 f := by
  have e : cg (gG M sn p) 300 = cg (gG M sn p) (5 * gna M) := cg_300 ok (fun r hr => gG_out hsd hr)
  refine ⟨by rw [e]; exact h.1, by rw [gwh_300 ok]; exact h.2.1, fun r hr hg => ?_⟩
  by_cases c : r < 5 * gna M
  · exact h.2.2 r c hg
  · have := gG_out (p := p) hsd (r := r) (by omega); omega
/-- the gathered rows by their index -/
def FG (M : MN) (sn sb sd : Nat → Nat) (p : Nat) (f : SF) (g : Nat → Nat) : Prop := F_size f = nI (cg (gG M sn p) 300) ∧ ∀ i, i < cg (gG M sn p) 300 → g i < 300 ∧ gG M sn p (g i) = 1 ∧ cg (gG M sn p) (g i) = i ∧ F_came f i = eo (gcm M sn sd (g i)) ∧ F_begun f i = nI (sb (g i)) ∧ F_done f i = nI (sd (g i)) ∧ F_kinds f i = nI (gki M (g i / 5))
theorem GA_FG {M : MN} {sn sb sd : Nat → Nat} {p : Nat} {f : SF} (h : GA M sn sb sd p 300 f) : ∃ g, FG M sn sb sd p f g := by
  have h1 : ∀ i : Nat, ∃ r : Nat, i < cg (gG M sn p) 300 → r < 300 ∧ gG M sn p r = 1 ∧ cg (gG M sn p) r = i := by
    intro i
    by_cases e : i < cg (gG M sn p) 300
    · obtain ⟨r, hr⟩ := gG_inv 300 e
      exact ⟨r, fun _ => hr⟩
    · exact ⟨0, fun z => absurd z e⟩
  obtain ⟨g, hg⟩ := Classical.skolem.mp h1
  refine ⟨g, h.1, fun i hi => ?_⟩
  obtain ⟨a1, a2, a3⟩ := hg i hi
  obtain ⟨b1, b2, b3, b4⟩ := h.2.2 (g i) a1 a2
  rw [a3] at b1 b2 b3 b4
  exact ⟨a1, a2, a3, b1, b2, b3, b4⟩
theorem gS_le (M : MN) (sn : Nat → Nat) (p : Nat) : cg (gG M sn p) 300 ≤ 300 := cg_le (fun a _ => gG_le M sn p a)
theorem FG.inv {M : MN} {sn sb sd : Nat → Nat} {p : Nat} {f : SF} {g : Nat → Nat} (h : FG M sn sb sd p f g) {r : Nat} (hr : r < 300) (hg : gG M sn p r = 1) : cg (gG M sn p) r < cg (gG M sn p) 300 ∧ g (cg (gG M sn p) r) = r := by
  have h1 := cg_up (f := gG M sn p) hr (by omega)
  obtain ⟨-, a2, a3, -⟩ := h.2 _ h1
  exact ⟨h1, gG_inj a2 hg a3⟩
theorem cg_re {M : MN} {sn : Nat → Nat} {p : Nat} {F : Nat → Nat} : ∀ n, cg F (cg (gG M sn p) n) = cg (fun r => if gG M sn p r = 1 then F (cg (gG M sn p) r) else 0) n
  | 0 => rfl
  | n + 1 => by
    have ih := cg_re (M := M) (sn := sn) (p := p) (F := F) n
    show cg F (cg (gG M sn p) n + gG M sn p n) = cg (fun r => if gG M sn p r = 1 then F (cg (gG M sn p) r) else 0) n + (if gG M sn p n = 1 then F (cg (gG M sn p) n) else 0)
    rw [← ih]
    by_cases e : gG M sn p n = 1
    · rw [if_pos e, e]
      rfl
    · rw [if_neg e, show gG M sn p n = 0 by have := gG_le M sn p n; omega]
      rfl
def hfn (M : MN) (sn sb sd : Nat → Nat) (p t r : Nat) : Nat := if gG M sn p r = 1 ∧ sb r ≤ t ∧ t < sd r then 1 else 0
theorem hfn_le (M : MN) (sn sb sd : Nat → Nat) (p t r : Nat) : hfn M sn sb sd p t r ≤ 1 := by unfold hfn; split <;> omega
/-- how many seen steps are helped at place p at tick t -/
def gH (M : MN) (sn sb sd : Nat → Nat) (p t : Nat) : Nat := cg (hfn M sn sb sd p t) 300
theorem gH_le (M : MN) (sn sb sd : Nat → Nat) (p t : Nat) : gH M sn sb sd p t ≤ 300 := cg_le (fun a _ => hfn_le M sn sb sd p t a)
theorem SDb {M : MN} {sn sb sd : Nat → Nat} (h : SD M sn sb sd) {p r : Nat} (hg : gG M sn p r = 1) : gV M r ∧ sb r < sd r ∧ sd r ≤ 10000000 := (h r).2 (gG_1 hg).1
def hig (sb sd g : Nat → Nat) (t i : Nat) : Nat := if sb (g i) ≤ t ∧ t < sd (g i) then 1 else 0
theorem hig_1 {sb sd g : Nat → Nat} {t i : Nat} (h : sb (g i) ≤ t ∧ t < sd (g i)) : hig sb sd g t i = 1 := if_pos h
theorem hig_0 {sb sd g : Nat → Nat} {t i : Nat} (h : ¬ (sb (g i) ≤ t ∧ t < sd (g i))) : hig sb sd g t i = 0 := if_neg h
theorem mHelp {M : MN} {sn sb sd : Nat → Nat} {p : Nat} {f : SF} {g : Nat → Nat} (hsd : SD M sn sb sd) (hf : FG M sn sb sd p f g) {t : Nat} (ht : t ≤ 20000000) : mX0_helpedAt f (nI t) = some (nI (gH M sn sb sd p t)) := by
  have hS := gS_le M sn p
  unfold mX0_helpedAt
  have key := lpx (F := fun k i (x : Int32) => lpX0_helpedAt_4 f (nI t) k x (nI i)) (G := fun x => some x) (fun i x => x = nI (cg (hig sb sd g t) i)) (cg (gG M sn p) 300)
    (fun k s hs => by
      show lpX0_helpedAt_4 f (nI t) (k + 1) s (nI (cg (gG M sn p) 300)) = some s
      rw [lpX0_helpedAt_4, hf.1, if_pos (by rw [le_n (by omega) (by omega)]; omega)])
    (fun k i s hi hs => by
      show ∃ s', s' = nI (cg (hig sb sd g t) (i + 1)) ∧ lpX0_helpedAt_4 f (nI t) (k + 1) s (nI i) = lpX0_helpedAt_4 f (nI t) k s' (nI (i + 1))
      obtain ⟨a1, a2, a3, a4, a5, a6, a7⟩ := hf.2 i hi
      obtain ⟨b1, b2, b3⟩ := SDb hsd a2
      rw [lpX0_helpedAt_4, hf.1, if_neg (by rw [le_n (by omega) (by omega)]; omega), ck_nI (by omega) (by omega), ck_nI (by omega) (by omega), cl_n (j := i) (by omega), a5, a6, ad_1 i, hs, ad_1, cg]
      by_cases c1 : t < sb (g i)
      · rw [if_pos (by rw [lt_n (by omega) (by omega)]; exact c1), hig_0 (by omega)]
        exact ⟨_, rfl, rfl⟩
      · rw [if_neg (by rw [lt_n (by omega) (by omega)]; exact c1)]
        by_cases c2 : sd (g i) ≤ t
        · rw [if_pos (by rw [le_n (by omega) (by omega)]; exact c2), hig_0 (by omega)]
          exact ⟨_, rfl, rfl⟩
        · rw [if_neg (by rw [le_n (by omega) (by omega)]; exact c2), hig_1 (by omega)]
          exact ⟨_, rfl, rfl⟩)
    (cg (gG M sn p) 300) qFU 0 0 (by omega) (by unfold qFU; omega) rfl
  obtain ⟨s', h1, h2⟩ := key
  have h2' : lpX0_helpedAt_4 f (nI t) qFU 0 0 = some s' := h2
  rw [h2', bi_s, h1, cg_re]
  unfold gH
  refine congrArg (fun z => some (nI z)) (cg_congr (fun r hr => ?_))
  unfold hfn
  by_cases e : gG M sn p r = 1
  · rw [if_pos e]
    have e2 := (hf.inv hr e).2
    by_cases c : sb r ≤ t ∧ t < sd r
    · rw [hig_1 (by rw [e2]; exact c), if_pos ⟨e, c⟩]
    · rw [hig_0 (by rw [e2]; exact c), if_neg (fun z => c z.2)]
  · rw [if_neg e, if_neg (fun z => e z.1)]
def mxf (F : Nat → Nat) : Nat → Nat
  | 0 => 0
  | n + 1 => if mxf F n < F n then F n else mxf F n
theorem mxf_le {F : Nat → Nat} {b : Nat} : ∀ n, (∀ i, i < n → F i ≤ b) → mxf F n ≤ b
  | 0, _ => Nat.zero_le _
  | n + 1, h => by
    have h1 := mxf_le (F := F) (b := b) n (fun i hi => h i (by omega))
    have h2 := h n (by omega)
    rw [mxf]
    split <;> assumption
/-- the most that are helped at once at place p -/
def gmx (M : MN) (sn sb sd : Nat → Nat) (p : Nat) : Nat → Nat
  | 0 => 0
  | n + 1 => if gG M sn p n = 1 then (if gmx M sn sb sd p n < gH M sn sb sd p (sb n) then gH M sn sb sd p (sb n) else gmx M sn sb sd p n) else gmx M sn sb sd p n
theorem gmx_le (M : MN) (sn sb sd : Nat → Nat) (p : Nat) : ∀ n, gmx M sn sb sd p n ≤ 300
  | 0 => Nat.zero_le _
  | n + 1 => by
    have h1 := gmx_le M sn sb sd p n
    have h2 := gH_le M sn sb sd p (sb n)
    rw [gmx]
    split
    · split <;> assumption
    · exact h1
theorem mxf_re {M : MN} {sn sb sd : Nat → Nat} {p : Nat} {F : Nat → Nat} : ∀ n, (∀ r, r < n → gG M sn p r = 1 → F (cg (gG M sn p) r) = gH M sn sb sd p (sb r)) → mxf F (cg (gG M sn p) n) = gmx M sn sb sd p n
  | 0, _ => rfl
  | n + 1, h => by
    have ih := mxf_re (M := M) (sn := sn) (sb := sb) (sd := sd) (p := p) (F := F) n (fun r hr => h r (by omega))
    show mxf F (cg (gG M sn p) n + gG M sn p n) = gmx M sn sb sd p (n + 1)
    rw [gmx]
    by_cases e : gG M sn p n = 1
    · rw [if_pos e, e, mxf, ih, h n (by omega) e]
    · rw [if_neg e, show gG M sn p n = 0 by have := gG_le M sn p n; omega]
      exact ih
theorem mMost {M : MN} {sn sb sd : Nat → Nat} {p : Nat} {f : SF} {g : Nat → Nat} (hsd : SD M sn sb sd) (hf : FG M sn sb sd p f g) : mX0_mostAtOnce f = some (nI (gmx M sn sb sd p 300)) := by
  have hS := gS_le M sn p
  unfold mX0_mostAtOnce
  have key := lpx (F := fun k i (x : Int32) => lpX0_mostAtOnce_4 f k x (nI i)) (G := fun x => some x) (fun i x => x = nI (mxf (fun i => gH M sn sb sd p (sb (g i))) i)) (cg (gG M sn p) 300)
    (fun k s hs => by
      show lpX0_mostAtOnce_4 f (k + 1) s (nI (cg (gG M sn p) 300)) = some s
      rw [lpX0_mostAtOnce_4, hf.1, if_pos (by rw [le_n (by omega) (by omega)]; omega)])
    (fun k i s hi hs => by
      show ∃ s', s' = nI (mxf (fun i => gH M sn sb sd p (sb (g i))) (i + 1)) ∧ lpX0_mostAtOnce_4 f (k + 1) s (nI i) = lpX0_mostAtOnce_4 f k s' (nI (i + 1))
      obtain ⟨a1, a2, a3, a4, a5, a6, a7⟩ := hf.2 i hi
      obtain ⟨b1, b2, b3⟩ := SDb hsd a2
      have hb1 := mxf_le (F := fun i => gH M sn sb sd p (sb (g i))) (b := 300) i (fun j _ => gH_le M sn sb sd p (sb (g j)))
      have hb2 := gH_le M sn sb sd p (sb (g i))
      rw [lpX0_mostAtOnce_4, hf.1, if_neg (by rw [le_n (by omega) (by omega)]; omega), ck_nI (by omega) (by omega), cl_n (j := i) (by omega), a5, mHelp hsd hf (by omega), bi_s, ad_1 i, hs, ma_n (by omega) (by omega)]
      exact ⟨_, rfl, rfl⟩)
    (cg (gG M sn p) 300) qFU 0 0 (by omega) (by unfold qFU; omega) rfl
  obtain ⟨s', h1, h2⟩ := key
  have h2' : lpX0_mostAtOnce_4 f qFU 0 0 = some s' := h2
  rw [h2', bi_s, h1, mxf_re (sb := sb) (sd := sd) 300 (fun r hr hg => by rw [(hf.inv hr hg).2])]
theorem mOv67 {M : MN} {m : SM} {sn sb sd : Nat → Nat} (ok : gOK M) (hr : RM M m) (hsd : SD M sn sb sd) (hem : EM sn sb sd m) {p k : Nat} (hp : p < gnp M) (hk : gG M sn p k = 1) : lpX5_overlap_67 m (nI p) (nI k) qFU 0 0 = some (nI (gH M sn sb sd p (sb k))) := by
  have h5 := ok.1
  obtain ⟨hkv, hk2, hk3⟩ := SDb hsd hk
  have hk300 : k < 300 := gV.lt ok hkv
  have ek := ((hem k hk300).2 (gG_1 hk).1).1
  have key := lpx (F := fun q i (x : Int32) => lpX5_overlap_67 m (nI p) (nI k) q x (nI i)) (G := fun x => some x) (fun i x => x = nI (cg (hfn M sn sb sd p (sb k)) i)) 300
    (fun q s hs => by
      show lpX5_overlap_67 m (nI p) (nI k) (q + 1) s (nI 300) = some s
      rw [lpX5_overlap_67, if_pos (by decide)])
    (fun q i s hi hs => by
      show ∃ s', s' = nI (cg (hfn M sn sb sd p (sb k)) (i + 1)) ∧ lpX5_overlap_67 m (nI p) (nI k) (q + 1) s (nI i) = lpX5_overlap_67 m (nI p) (nI k) q s' (nI (i + 1))
      have e : (if nI (gB M i) = 0 then some (0 : Int32) else ck (nI i) 300 (if M_at m i = nI p then ck (nI i) 300 (if M_isSeen m i = 0 then some 0 else ck (nI i) 300 (ck (nI k) 300 (if M_seenBegun m k < M_seenBegun m i then some 0 else ck (nI i) 300 (ck (nI k) 300 (if M_seenDone m i ≤ M_seenBegun m k then some 0 else some 1))))) else some 0)) = some (nI (hfn M sn sb sd p (sb k) i)) := by
        simp only [ckr (j := i) (n := 300) hi (by omega), ckr (j := k) (n := 300) hk300 (by omega)]
        by_cases hg : gG M sn p i = 1
        · obtain ⟨hv, h2, h3⟩ := SDb hsd hg
          obtain ⟨g1, g2⟩ := gG_1 hg
          obtain ⟨v1, v2⟩ := hem i hi
          obtain ⟨e1, e2⟩ := v2 g1
          rw [gB_1 hv, if_neg (c := nI 1 = 0) (by decide), (hr.2.2.2.2 i hv).1, if_pos (by rw [g2]), v1, g1, if_neg (c := nI 1 = 0) (by decide), ek, e1, e2]
          unfold hfn
          by_cases c1 : sb k < sb i
          · rw [if_pos (by rw [lt_n (by omega) (by omega)]; exact c1), if_neg (c := _ ∧ _) (by omega)]
            rfl
          · rw [if_neg (by rw [lt_n (by omega) (by omega)]; exact c1)]
            by_cases c2 : sd i ≤ sb k
            · rw [if_pos (by rw [le_n (by omega) (by omega)]; exact c2), if_neg (c := _ ∧ _) (by omega)]
              rfl
            · rw [if_neg (by rw [le_n (by omega) (by omega)]; exact c2), if_pos (c := _ ∧ _) ⟨hg, by omega, by omega⟩]
              rfl
        · have e0 : hfn M sn sb sd p (sb k) i = 0 := by unfold hfn; rw [if_neg (fun z => hg z.1)]
          rw [e0]
          by_cases hv : gV M i
          · have hpl := (ok.2.2.2.2 i hv).1
            rw [gB_1 hv, if_neg (c := nI 1 = 0) (by decide), (hr.2.2.2.2 i hv).1]
            by_cases c : gpa M i = p
            · have s0 : sn i = 0 := by rcases sn01 hsd i with z | z; exact z; exact absurd (gG_i ⟨z, c⟩) hg
              rw [if_pos (by rw [c]), (hem i hi).1, s0, if_pos (c := nI 0 = 0) rfl]
              rfl
            · rw [if_neg (by rw [eq_n (by omega) (by omega)]; exact c)]
              rfl
          · rw [gB_0 hv, if_pos (c := nI 0 = 0) rfl]
            rfl
      rw [lpX5_overlap_67, if_neg (by rw [show (300 : Int32) = nI 300 from rfl, le_n (by omega) (by omega)]; omega), mIsM ok hr hi, bi_s, cl_n (j := i) (by omega), cl_n (j := k) (by omega), e, bi_s, hs, ad_n, ad_1 i, cg]
      exact ⟨_, rfl, rfl⟩)
    300 qFU 0 0 (by omega) (by unfold qFU; omega) rfl
  obtain ⟨s', h1, h2⟩ := key
  have h2' : lpX5_overlap_67 m (nI p) (nI k) qFU 0 0 = some s' := h2
  rw [h2', h1]
  rfl
theorem mOv24 {M : MN} {m : SM} {sn sb sd : Nat → Nat} (ok : gOK M) (hr : RM M m) (hsd : SD M sn sb sd) (hem : EM sn sb sd m) {p : Nat} (hp : p < gnp M) : lpX5_overlap_24 m (nI p) qFU 0 0 = some (nI (gmx M sn sb sd p 300)) := by
  have h5 := ok.1
  have key := lpx (F := fun q i (x : Int32) => lpX5_overlap_24 m (nI p) q x (nI i)) (G := fun x => some x) (fun i x => x = nI (gmx M sn sb sd p i)) 300
    (fun q s hs => by
      show lpX5_overlap_24 m (nI p) (q + 1) s (nI 300) = some s
      rw [lpX5_overlap_24, if_pos (by decide)])
    (fun q i s hi hs => by
      show ∃ s', s' = nI (gmx M sn sb sd p (i + 1)) ∧ lpX5_overlap_24 m (nI p) (q + 1) s (nI i) = lpX5_overlap_24 m (nI p) q s' (nI (i + 1))
      rw [lpX5_overlap_24, if_neg (by rw [show (300 : Int32) = nI 300 from rfl, le_n (by omega) (by omega)]; omega), mIsM ok hr hi, bi_s, cl_n (j := i) (by omega), ad_1 i, ck_nI hi (by omega), ck_nI hi (by omega), (hem i hi).1, gmx]
      by_cases hg : gG M sn p i = 1
      · obtain ⟨hv, h2, h3⟩ := SDb hsd hg
        obtain ⟨g1, g2⟩ := gG_1 hg
        have b1 := gmx_le M sn sb sd p i
        have b2 := gH_le M sn sb sd p (sb i)
        rw [gB_1 hv, if_neg (c := nI 1 = 0) (by decide), (hr.2.2.2.2 i hv).1, if_pos (c := nI (gpa M i) = nI p) (by rw [g2]), g1, if_neg (c := nI 1 = 0) (by decide), mOv67 ok hr hsd hem hp hg, bi_s, if_pos hg, hs, ma_n (by omega) (by omega)]
        exact ⟨_, rfl, rfl⟩
      · rw [if_neg hg]
        refine ⟨s, hs, ?_⟩
        by_cases hv : gV M i
        · have hpl := (ok.2.2.2.2 i hv).1
          rw [gB_1 hv, if_neg (c := nI 1 = 0) (by decide), (hr.2.2.2.2 i hv).1]
          by_cases c : gpa M i = p
          · have s0 : sn i = 0 := by rcases sn01 hsd i with z | z; exact z; exact absurd (gG_i ⟨z, c⟩) hg
            rw [if_pos (by rw [c]), s0, if_pos (c := nI 0 = 0) rfl]
          · rw [if_neg (by rw [eq_n (by omega) (by omega)]; exact c)]
        · rw [gB_0 hv, if_pos (c := nI 0 = 0) rfl])
    300 qFU 0 0 (by omega) (by unfold qFU; omega) rfl
  obtain ⟨s', h1, h2⟩ := key
  have h2' : lpX5_overlap_24 m (nI p) qFU 0 0 = some s' := h2
  rw [h2', h1]
theorem op_overlap {q : Int32} {n : SN} {t : ST} {p : SP} {m : SM} (hI : LI q n t p m) (f : SF) (o : qJ) (x1 : Int32) : ∃ a b, mL_overlap q n t f o x1 = some a ∧ mX5_overlap m x1 = some b ∧ M_thrown b.2 = a.1 ∧ (a.1 = 0 → a.2.2 (Int32.toNatClampNeg 0) = b.1.toInt64) ∧ LI q n t p b.2 := by
  obtain ⟨M, sn, sb, sd, ok, hn, hm, hsd, het, hem, hfr⟩ := hI
  rcases npN (q := q) (x := x1) (m := M_thrown_s m 0) ok hn.1.1 hm.1 with ⟨pl, hpl, rfl, j1, j2⟩ | ⟨j1, j2⟩
  · obtain ⟨f', g1, g2⟩ := mGather ok hn hsd het hpl f
    obtain ⟨g, g3⟩ := GA_FG (GA_300 ok hsd g2)
    have hc : mL_overlap q n t f o (nI pl) = some (0, f', vp_updL o (Int32.toNatClampNeg 0) (nI (gmx M sn sb sd pl 300)).toInt64) := by
      unfold mL_overlap mX4_overlap
      rw [j1, bi_s, zX_r, g1, bi_s, mMost hsd g3, bi_s, Option.map_some, bi_s, zW_r, ck_01]
    have hr' : mX5_overlap m (nI pl) = some (nI (gmx M sn sb sd pl 300), M_thrown_s m 0) := by
      unfold mX5_overlap
      rw [j2, bi_s, ti_0, bi_s, if_0, mOv24 ok (hm.th 0) hsd (hem.th 0) hpl, bi_s]
    exact ⟨_, _, hc, hr', rfl, fun _ => out_0 o _, M, sn, sb, sd, ok, hn, hm.th 0, hsd, het, hem.th 0, hfr⟩
  · have hc : mL_overlap q n t f o x1 = some (1, f, o) := by
      unfold mL_overlap mX4_overlap
      rw [j1, bi_s, zX_l, bi_s, zW_l, if_pos rfl]
    have hr' : mX5_overlap m x1 = some (0, M_thrown_s m 1) := by
      unfold mX5_overlap
      rw [j2, bi_s, ti_1, bi_s, if_1]
    exact ⟨_, _, hc, hr', rfl, fun z => absurd (show (1 : Int32) = 0 from z) (by decide), M, sn, sb, sd, ok, hn, hm, hsd, het, hem, hfr⟩
