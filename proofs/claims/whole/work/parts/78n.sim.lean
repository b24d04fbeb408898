/-! PURE: one place alone, tick by tick -/
/-- the seen steps of place p: when they came, how long they took -/
def HC (M : MN) (sn sb sd c pw : Nat → Nat) (p : Nat) : Prop := (∀ k, k < 300 → gG M sn p k = 1 → gV M k ∧ c k ≤ 10001000 ∧ 1 ≤ pw k ∧ sd k = sb k + pw k ∧ sd k ≤ 10000000) ∧ (∀ k, gV M k → pw k ≤ 10000000) ∧ ∀ k, 300 ≤ k → gG M sn p k ≠ 1
def SV (M : MN) (sn sb sd c pw : Nat → Nat) (p h r : Nat) (R : QS) (u : Nat) : Prop :=
  (∀ k, k < 300 → gG M sn p k = 1 → qcm R k = c k ∧ ((qbg R k = sb k ∧ sb k < u ∧ qdn R k = sd k ∧ qwt R k = 0) ∨ (qbg R k = 2000000000 ∧ qdn R k = 2000000000 ∧ qwt R k = (if c k < u then 1 else 0)))) ∧
  (∀ k, k < 300 → gG M sn p k ≠ 1 → qcm R k = 2000000000 ∧ qbg R k = 2000000000 ∧ qdn R k = 2000000000 ∧ qwt R k = 0) ∧
  GD M sn c pw p h r u (qbg R) (qdn R)
theorem QI_sv {M : MN} {sn sb sd c pw : Nat → Nat} {p h r u : Nat} {R : QS} (hc : HC M sn sb sd c pw p) (hS : SV M sn sb sd c pw p h r R u) : QI M pw R := by
  refine ⟨fun k hk => ?_, fun k hv => by have := hc.2.1 k hv; omega⟩
  by_cases g : gG M sn p k = 1
  · obtain ⟨c1, c2, c3, c4, c5⟩ := hc.1 k hk g
    obtain ⟨s1, s2⟩ := hS.1 k hk g
    rcases s2 with ⟨a1, a2, a3, a4⟩ | ⟨a1, a2, a3⟩
    · rw [s1, a1, a3, a4]
      exact ⟨by omega, by omega, by omega, by omega, fun z => by omega, fun z => absurd c1 z⟩
    · rw [s1, a1, a2]
      refine ⟨by omega, by omega, by omega, ?_, fun _ => ⟨c1, by omega⟩, fun _ => rfl⟩
      rw [a3]
      split <;> omega
  · obtain ⟨a1, a2, a3, a4⟩ := hS.2.1 k hk g
    rw [a1, a2, a3, a4]
    exact ⟨by omega, by omega, by omega, by omega, fun z => by omega, fun _ => rfl⟩
theorem qby_gH {M : MN} {sn : Nat → Nat} {p t : Nat} {R : QS} (ok : gOK M) (h0 : ∀ k, 5 * gna M ≤ k → gG M sn p k ≠ 1) (h : ∀ k, k < 300 → qbg R k ≤ t → gG M sn p k = 1 ∧ (t < qdn R k → qdn R k < 2000000000)) : qby M R p t (5 * gna M) = gH M sn (qbg R) (qdn R) p t := by
  have h60 := ok.2.1
  rw [qby_cg]
  show _ = cg (hfn M sn (qbg R) (qdn R) p t) 300
  rw [cg_300 ok (f := hfn M sn (qbg R) (qdn R) p t) (fun k hk => hfn_0 (fun z => h0 k hk z.1))]
  refine cg_congr (fun k hk => ?_)
  by_cases c : gG M sn p k = 1 ∧ qbg R k ≤ t ∧ t < qdn R k
  · rw [hfn_1 c]
    unfold qbf
    rw [if_pos ⟨(gG_1 c.1).2, c.2.1, c.2.2, (h k (by omega) c.2.1).2 c.2.2⟩]
  · rw [hfn_0 c]
    unfold qbf
    rw [if_neg (fun z => c ⟨(h k (by omega) z.2.1).1, z.2.1, z.2.2.1⟩)]
/-- the waits at tick t are set -/
def qR1 (M : MN) (t : Nat) (R : QS) : QS := (qcm R, qbg R, qdn R, fun k => if k < 5 * gna M ∧ qcm R k = t then 1 else qwt R k)
theorem GD_gap {M : MN} {sn sb sd c pw : Nat → Nat} {p h r u s : Nat} {R : QS} (hS : SV M sn sb sd c pw p h r R u) (hs : u ≤ s) (hs2 : s < 2000000000) : gH M sn (qbg R) (qdn R) p s ≤ h := by
  by_cases h0 : u = 0
  · apply Classical.byContradiction
    intro z
    obtain ⟨k, k1, k2, k3, k4⟩ := gH_pos (M := M) (sn := sn) (B := qbg R) (D := qdn R) (p := p) (s := s) (by omega)
    rcases (hS.1 k k1 k2).2 with y | y
    · omega
    · omega
  · have h1 := hS.2.2.2.1 (u - 1) (by omega)
    refine Nat.le_trans (gH_sub (fun k hk hg a b => ?_)) h1
    rcases (hS.1 k hk hg).2 with y | y
    · omega
    · omega
theorem SV_adv {M : MN} {sn sb sd c pw : Nat → Nat} {p h r u t : Nat} {R : QS} (ok : gOK M) (hc : HC M sn sb sd c pw p) (hS : SV M sn sb sd c pw p h r R u) (ht : qsn R u (5 * gna M) = t) (ht2 : t < 2000000000) :
    u ≤ t ∧ t ≤ 10001000 ∧ QI M pw (qR1 M t R) ∧ qby M (qR1 M t R) p t (5 * gna M) ≤ h ∧
    (∀ k, k < 300 → gG M sn p k = 1 → qcm (qbl M pw p r t (h - qby M (qR1 M t R) p t (5 * gna M)) (qR1 M t R)) k = c k ∧ ((qbg (qbl M pw p r t (h - qby M (qR1 M t R) p t (5 * gna M)) (qR1 M t R)) k = sb k ∧ sb k < u ∧ qdn (qbl M pw p r t (h - qby M (qR1 M t R) p t (5 * gna M)) (qR1 M t R)) k = sd k ∧ qwt (qbl M pw p r t (h - qby M (qR1 M t R) p t (5 * gna M)) (qR1 M t R)) k = 0 ∧ qdn R k = sd k) ∨ (qbg (qbl M pw p r t (h - qby M (qR1 M t R) p t (5 * gna M)) (qR1 M t R)) k = t ∧ qdn (qbl M pw p r t (h - qby M (qR1 M t R) p t (5 * gna M)) (qR1 M t R)) k = t + pw k ∧ qwt (qbl M pw p r t (h - qby M (qR1 M t R) p t (5 * gna M)) (qR1 M t R)) k = 0 ∧ qdn R k = 2000000000) ∨ (qbg (qbl M pw p r t (h - qby M (qR1 M t R) p t (5 * gna M)) (qR1 M t R)) k = 2000000000 ∧ qdn (qbl M pw p r t (h - qby M (qR1 M t R) p t (5 * gna M)) (qR1 M t R)) k = 2000000000 ∧ qwt (qbl M pw p r t (h - qby M (qR1 M t R) p t (5 * gna M)) (qR1 M t R)) k = (if c k < t + 1 then 1 else 0) ∧ qdn R k = 2000000000))) ∧
    (∀ k, k < 300 → gG M sn p k ≠ 1 → qcm (qbl M pw p r t (h - qby M (qR1 M t R) p t (5 * gna M)) (qR1 M t R)) k = 2000000000 ∧ qbg (qbl M pw p r t (h - qby M (qR1 M t R) p t (5 * gna M)) (qR1 M t R)) k = 2000000000 ∧ qdn (qbl M pw p r t (h - qby M (qR1 M t R) p t (5 * gna M)) (qR1 M t R)) k = 2000000000 ∧ qwt (qbl M pw p r t (h - qby M (qR1 M t R) p t (5 * gna M)) (qR1 M t R)) k = 0) ∧
    GD M sn c pw p h r (t + 1) (qbg (qbl M pw p r t (h - qby M (qR1 M t R) p t (5 * gna M)) (qR1 M t R))) (qdn (qbl M pw p r t (h - qby M (qR1 M t R) p t (5 * gna M)) (qR1 M t R))) := by
  have h60 := ok.2.1
  have hN : ∀ k, k < 300 → gG M sn p k = 1 → k < 5 * gna M := fun k hk hg => by
    have := (hc.1 k hk hg).1.1
    omega
  have h0 : ∀ k, 5 * gna M ≤ k → gG M sn p k ≠ 1 := fun k hk hg => by
    by_cases z : k < 300
    · have := hN k z hg; omega
    · exact hc.2.2 k (by omega) hg
  have hmin := fun k hk hg => qsn_min (R := R) (u := u) (5 * gna M) (hN k hk hg)
  rw [ht] at hmin
  have hev : u ≤ t ∧ t ≤ 10001000 := by
    obtain ⟨k, k1, k2⟩ := qsn_hit (R := R) (u := u) (5 * gna M) (by omega)
    rw [ht] at k2
    by_cases g : gG M sn p k = 1
    · obtain ⟨c1, c2, c3, c4, c5⟩ := hc.1 k (by omega) g
      obtain ⟨s1, s2⟩ := hS.1 k (by omega) g
      rcases k2 with ⟨z1, z2⟩ | ⟨z1, z2⟩
      · omega
      · rcases s2 with y | y
        · omega
        · omega
    · obtain ⟨a1, a2, a3, a4⟩ := hS.2.1 k (by omega) g
      omega
  obtain ⟨hut, hT⟩ := hev
  -- rows with their waits set
  have r1 : ∀ k, k < 300 → gG M sn p k = 1 → ((qbg R k = sb k ∧ sb k < u ∧ qdn R k = sd k ∧ qwt (qR1 M t R) k = 0) ∨ (qbg R k = 2000000000 ∧ qdn R k = 2000000000 ∧ qwt (qR1 M t R) k = (if c k < t + 1 then 1 else 0))) := by
    intro k hk hg
    obtain ⟨s1, s2⟩ := hS.1 k hk hg
    have hkN := hN k hk hg
    have hm := (hmin k hk hg).1
    rw [s1] at hm
    have ew : qwt (qR1 M t R) k = if c k = t then 1 else qwt R k := by
      show (if k < 5 * gna M ∧ qcm R k = t then 1 else qwt R k) = _
      rw [s1]
      by_cases z : c k = t
      · rw [if_pos ⟨hkN, z⟩, if_pos z]
      · rw [if_neg (fun y => z y.2), if_neg z]
    rw [ew]
    rcases s2 with ⟨a1, a2, a3, a4⟩ | ⟨a1, a2, a3⟩
    · left
      have := hS.2.2.1 k hk hg (by omega)
      refine ⟨a1, a2, a3, ?_⟩
      rw [if_neg (by omega)]
      exact a4
    · right
      refine ⟨a1, a2, ?_⟩
      rw [a3]
      by_cases z : c k = t
      · rw [if_pos z, if_pos (by omega)]
      · rw [if_neg z]
        by_cases y : c k < u
        · rw [if_pos y, if_pos (by omega)]
        · have := hm (by omega)
          rw [if_neg y, if_neg (by omega)]
  have r0 : ∀ k, k < 300 → gG M sn p k ≠ 1 → qwt (qR1 M t R) k = 0 := by
    intro k hk hg
    obtain ⟨a1, a2, a3, a4⟩ := hS.2.1 k hk hg
    show (if k < 5 * gna M ∧ qcm R k = t then 1 else qwt R k) = 0
    rw [if_neg (fun z => by have := z.2; omega)]
    exact a4
  have hq1 : QI M pw (qR1 M t R) := by
    have hq := QI_sv hc hS
    refine ⟨fun k hk => ?_, hq.2⟩
    obtain ⟨b1, b2, b3, b4, b5, b6⟩ := hq.1 k hk
    refine ⟨b1, b2, b3, ?_, fun z => ?_, b6⟩
    · by_cases g : gG M sn p k = 1
      · rcases r1 k hk g with y | y
        · omega
        · rw [y.2.2]; split <;> omega
      · have := r0 k hk g; omega
    · by_cases g : gG M sn p k = 1
      · have := hc.1 k hk g
        refine ⟨this.1, ?_⟩
        have e := (hS.1 k hk g).1
        show qcm R k ≤ 900000000
        omega
      · have := r0 k hk g; omega
  have hb1 : qby M (qR1 M t R) p t (5 * gna M) = gH M sn (qbg R) (qdn R) p t := qby_gH (R := qR1 M t R) ok h0 (fun k hk z => by
    have z' : qbg R k ≤ t := z
    by_cases g : gG M sn p k = 1
    · refine ⟨g, fun _ => ?_⟩
      have := hc.1 k hk g
      show qdn R k < 2000000000
      rcases r1 k hk g with y | y
      · omega
      · omega
    · have := hS.2.1 k hk g; omega)
  have hby : qby M (qR1 M t R) p t (5 * gna M) ≤ h := by
    rw [hb1]
    exact GD_gap hS hut ht2
  obtain ⟨e1, e2, e3, e4⟩ := qbl_spec (M := M) (pw := pw) (p := p) (r := r) (t := t) (by omega) (h - qby M (qR1 M t R) p t (5 * gna M)) (qR1 M t R) (fun k hk h1 h2 => by
    have hk3 : k < 300 := by omega
    by_cases g : gG M sn p k = 1
    · have := hc.1 k hk3 g
      have := hc.2.1 k this.1
      rcases r1 k hk3 g with y | y
      · omega
      · refine ⟨?_, by omega, by omega⟩
        show t < qbg R k
        omega
    · have := r0 k hk3 g; omega)
  generalize qbl M pw p r t (h - qby M (qR1 M t R) p t (5 * gna M)) (qR1 M t R) = R2 at *
  have n1 : ∀ k, k < 300 → gG M sn p k = 1 → qcm R2 k = c k ∧ ((qbg R2 k = sb k ∧ sb k < u ∧ qdn R2 k = sd k ∧ qwt R2 k = 0 ∧ qdn R k = sd k) ∨ (qbg R2 k = t ∧ qdn R2 k = t + pw k ∧ qwt R2 k = 0 ∧ qdn R k = 2000000000) ∨ (qbg R2 k = 2000000000 ∧ qdn R2 k = 2000000000 ∧ qwt R2 k = (if c k < t + 1 then 1 else 0) ∧ qdn R k = 2000000000)) := by
    intro k hk hg
    refine ⟨(e1 k).trans (hS.1 k hk hg).1, ?_⟩
    rcases e2 k with ⟨z1, z2, z3⟩ | z
    · have z1' : qbg R2 k = qbg R k := z1
      have z2' : qdn R2 k = qdn R k := z2
      rcases r1 k hk hg with ⟨y1, y2, y3, y4⟩ | ⟨y1, y2, y3⟩
      · left
        exact ⟨by omega, y2, by omega, by omega, y3⟩
      · right; right
        exact ⟨by omega, by omega, z3.trans y3, y2⟩
    · obtain ⟨q1, q2, q3, q4, q5, q6⟩ := z
      rcases r1 k hk hg with ⟨y1, y2, y3, y4⟩ | ⟨y1, y2, y3⟩
      · omega
      · right; left
        exact ⟨q4, q5, q6, y2⟩
  have n0 : ∀ k, k < 300 → gG M sn p k ≠ 1 → qcm R2 k = 2000000000 ∧ qbg R2 k = 2000000000 ∧ qdn R2 k = 2000000000 ∧ qwt R2 k = 0 := by
    intro k hk hg
    obtain ⟨a1, a2, a3, a4⟩ := hS.2.1 k hk hg
    have a5 := r0 k hk hg
    rcases e2 k with ⟨z1, z2, z3⟩ | z
    · exact ⟨(e1 k).trans a1, z1.trans a2, z2.trans a3, z3.trans a5⟩
    · have := z.2.1; omega
  have nN : ∀ k, k < 300 → gG M sn p k = 1 → qbg R2 k = t → qdn R k = 2000000000 → QP M pw p t (qR1 M t R) R2 k ∧ c k ≤ t := by
    intro k hk hg hbt hd
    rcases e2 k with ⟨z1, z2, z3⟩ | z
    · have z1' : qbg R2 k = qbg R k := z1
      rcases r1 k hk hg with y | y
      · have := hc.1 k hk hg; omega
      · omega
    · refine ⟨z, ?_⟩
      rcases r1 k hk hg with ⟨y1, y2, y3, y4⟩ | ⟨y1, y2, y3⟩
      · have := z.2.1; omega
      · have z2 := z.2.1
        rw [y3] at z2
        split at z2
        · omega
        · omega
  refine ⟨hut, hT, hq1, hby, n1, n0, ?_⟩
  have hb2 : qby M R2 p t (5 * gna M) = gH M sn (qbg R2) (qdn R2) p t := qby_gH ok h0 (fun k hk z => by
    by_cases g : gG M sn p k = 1
    · refine ⟨g, fun _ => ?_⟩
      have := hc.1 k hk g
      have := hc.2.1 k this.1
      rcases (n1 k hk g).2 with y | y | y
      · omega
      · omega
      · omega
    · have := n0 k hk g; omega)
  have old : ∀ s, s < t → gH M sn (qbg R2) (qdn R2) p s = gH M sn (qbg R) (qdn R) p s := by
    intro s hs
    refine gH_congr (fun k hk hg => ?_)
    rcases (n1 k hk hg).2 with y | y | y
    · rcases r1 k hk hg with x | x
      · rw [y.1, y.2.2.1, x.1, x.2.2.1]
      · have := hc.1 k hk hg; omega
    · rcases r1 k hk hg with x | x
      · have := hc.1 k hk hg; omega
      · constructor
        · intro w; omega
        · intro w; omega
    · rcases r1 k hk hg with x | x
      · have := hc.1 k hk hg; omega
      · constructor
        · intro w; omega
        · intro w; omega
  refine ⟨fun k hk hg hb => ?_, fun s hs => ?_, fun s k hs hk hg ha hb => ?_, fun i j hi hj gi gj hb ha hl => ?_⟩
  · rcases (n1 k hk hg).2 with y | y | y
    · rcases r1 k hk hg with x | x
      · have := hS.2.2.1 k hk hg (by omega)
        omega
      · have := hc.1 k hk hg; omega
    · have := (nN k hk hg y.1 y.2.2.2).2
      omega
    · omega
  · by_cases c1 : s = t
    · rw [c1, ← hb2]
      omega
    · rw [old s (by omega)]
      by_cases c2 : s < u
      · exact hS.2.2.2.1 s c2
      · exact GD_gap hS (by omega) (by omega)
  · by_cases c1 : s = t
    · subst c1
      have hw : qwt R2 k = 1 := by
        rcases (n1 k hk hg).2 with y | y | y
        · omega
        · omega
        · rw [y.2.2.1, if_pos (by omega)]
      obtain ⟨w1, -, -⟩ := e4 k (hN k hk hg) hw (gG_1 hg).2
      rw [← hb2, w1]
      omega
    · rw [old s (by omega)]
      have hB : s < qbg R k := by
        rcases (n1 k hk hg).2 with y | y | y
        · rcases r1 k hk hg with x | x
          · omega
          · omega
        · rcases r1 k hk hg with x | x
          · have := hc.1 k hk hg; omega
          · omega
        · rcases r1 k hk hg with x | x
          · have := hc.1 k hk hg; omega
          · omega
      by_cases c2 : s < u
      · exact hS.2.2.2.2.1 s k c2 hk hg ha hB
      · have hck : c k < u := by
          apply Classical.byContradiction
          intro z
          have hm := (hmin k hk hg).1
          rw [(hS.1 k hk hg).1] at hm
          have := hm (by omega)
          omega
        have h1 := hS.2.2.2.2.1 (u - 1) k (by omega) hk hg (by omega) (by omega)
        refine Nat.le_trans h1 (gH_sub (fun j hj hgj a b => ?_))
        have hm := (hmin j hj hgj).2
        rcases r1 j hj hgj with x | x
        · have := hm (by omega)
          omega
        · omega
  · rcases (n1 i hi gi).2 with y | y | y
    · rcases r1 i hi gi with x | x
      · refine hS.2.2.2.2.2 i j hi hj gi gj (by omega) (by omega) ?_
        rcases (n1 j hj gj).2 with v | v | v
        · rcases r1 j hj gj with w | w
          · omega
          · omega
        · rcases r1 j hj gj with w | w
          · have := hc.1 j hj gj; omega
          · omega
        · rcases r1 j hj gj with w | w
          · have := hc.1 j hj gj; omega
          · omega
      · have := hc.1 i hi gi; omega
    · have hw : qwt R2 j = 1 := by
        rcases (n1 j hj gj).2 with v | v | v
        · omega
        · omega
        · rw [v.2.2.1, if_pos (by omega)]
      obtain ⟨-, -, w3⟩ := e4 j (hN j hj gj) hw (gG_1 gj).2
      have w4 := w3 i (nN i hi gi y.1 y.2.2.2).1
      have f1 : qkk M pw (qR1 M t R) r j = qrk r (c j) (pw j) (gki M (j / 5)) := by
        unfold qkk
        show qrk r (qcm R j) _ _ = _
        rw [(hS.1 j hj gj).1]
      have f2 : qkk M pw (qR1 M t R) r i = qrk r (c i) (pw i) (gki M (i / 5)) := by
        unfold qkk
        show qrk r (qcm R i) _ _ = _
        rw [(hS.1 i hi gi).1]
      rw [f1, f2] at w4
      exact w4
    · omega
theorem SV_end {M : MN} {sn sb sd c pw : Nat → Nat} {p h r u : Nat} {R : QS} (ok : gOK M) (hc : HC M sn sb sd c pw p) (hS : SV M sn sb sd c pw p h r R u) (hh : 1 ≤ h) (hu : u ≤ 2000000000) (ht : qsn R u (5 * gna M) = 2000000000) : gGood M sn sb sd c pw p h r := by
  have h60 := ok.2.1
  have hN : ∀ k, k < 300 → gG M sn p k = 1 → k < 5 * gna M := fun k hk hg => by
    have := (hc.1 k hk hg).1.1
    omega
  have hmin := fun k hk hg => qsn_min (R := R) (u := u) (5 * gna M) (hN k hk hg)
  rw [ht] at hmin
  have all : ∀ k, k < 300 → gG M sn p k = 1 → qbg R k = sb k ∧ sb k < u ∧ qdn R k = sd k ∧ sd k < u := by
    intro k hk hg
    obtain ⟨c1, c2, c3, c4, c5⟩ := hc.1 k hk hg
    obtain ⟨s1, s2⟩ := hS.1 k hk hg
    rcases s2 with ⟨a1, a2, a3, a4⟩ | ⟨a1, a2, a3⟩
    · refine ⟨a1, a2, a3, ?_⟩
      apply Classical.byContradiction
      intro z
      have := (hmin k hk hg).2 (by omega)
      omega
    · exfalso
      have hm := (hmin k hk hg).1
      rw [s1] at hm
      have hck : c k < u := by
        apply Classical.byContradiction
        intro z
        have := hm (by omega)
        omega
      have h1 := hS.2.2.2.2.1 (u - 1) k (by omega) hk hg (by omega) (by omega)
      obtain ⟨j, j1, j2, j3, j4⟩ := gH_pos (M := M) (sn := sn) (B := qbg R) (D := qdn R) (p := p) (s := u - 1) (by omega)
      obtain ⟨d1, d2, d3, d4, d5⟩ := hc.1 j j1 j2
      rcases (hS.1 j j1 j2).2 with y | y
      · have := (hmin j j1 j2).2 (by omega)
        omega
      · omega
  have hgh : ∀ s, gH M sn sb sd p s = gH M sn (qbg R) (qdn R) p s := fun s => gH_congr (fun k hk hg => by
    obtain ⟨a1, a2, a3, a4⟩ := all k hk hg
    rw [a1, a3])
  intro v
  refine ⟨fun k hk hg _ => ?_, fun s _ => ?_, fun s k _ hk hg ha hb => ?_, fun i j hi hj gi gj _ ha hl => ?_⟩
  · obtain ⟨a1, a2, a3, a4⟩ := all k hk hg
    have := hS.2.2.1 k hk hg (by omega)
    omega
  · rw [hgh]
    by_cases z : s < u
    · exact hS.2.2.2.1 s z
    · apply Classical.byContradiction
      intro y
      obtain ⟨j, j1, j2, j3, j4⟩ := gH_pos (M := M) (sn := sn) (B := qbg R) (D := qdn R) (p := p) (s := s) (by omega)
      have := all j j1 j2
      omega
  · obtain ⟨a1, a2, a3, a4⟩ := all k hk hg
    rw [hgh]
    exact hS.2.2.2.2.1 s k (by omega) hk hg ha (by omega)
  · have b1 := all i hi gi
    have b2 := all j hj gj
    exact hS.2.2.2.2.2 i j hi hj gi gj (by omega) (by omega) (by omega)
