/-! PURE: schedules of one place that keep helpers and a rule: there is one at most -/
def ahd (M : MN) (c pw : Nat → Nat) (r j i : Nat) : Prop := qrk r (c j) (pw j) (gki M (j / 5)) < qrk r (c i) (pw i) (gki M (i / 5)) ∨ (qrk r (c j) (pw j) (gki M (j / 5)) = qrk r (c i) (pw i) (gki M (i / 5)) ∧ j < i)
theorem ahd_tot {M : MN} {c pw : Nat → Nat} {r j i : Nat} (h : j ≠ i) : ahd M c pw r j i ∨ ahd M c pw r i j := by
  unfold ahd
  generalize qrk r (c j) (pw j) (gki M (j / 5)) = x
  generalize qrk r (c i) (pw i) (gki M (i / 5)) = y
  omega
/-- what a schedule (B, D) of the seen steps of place p keeps at the ticks ahead of u, with h helpers and rule r -/
def GD (M : MN) (sn c pw : Nat → Nat) (p h r u : Nat) (B D : Nat → Nat) : Prop :=
  (∀ k, k < 300 → gG M sn p k = 1 → B k < u → c k ≤ B k) ∧
  (∀ s, s < u → gH M sn B D p s ≤ h) ∧
  (∀ s k, s < u → k < 300 → gG M sn p k = 1 → c k ≤ s → s < B k → h ≤ gH M sn B D p s) ∧
  (∀ i j, i < 300 → j < 300 → gG M sn p i = 1 → gG M sn p j = 1 → B i < u → c j ≤ B i → B i < B j → ¬ ahd M c pw r j i)
theorem hfn_1 {M : MN} {sn B D : Nat → Nat} {p s k : Nat} (h : gG M sn p k = 1 ∧ B k ≤ s ∧ s < D k) : hfn M sn B D p s k = 1 := by unfold hfn; rw [if_pos h]
theorem hfn_0 {M : MN} {sn B D : Nat → Nat} {p s k : Nat} (h : ¬ (gG M sn p k = 1 ∧ B k ≤ s ∧ s < D k)) : hfn M sn B D p s k = 0 := by unfold hfn; rw [if_neg h]
theorem GD_one {M : MN} {sn c pw B1 D1 B2 D2 : Nat → Nat} {p h r u : Nat} (h1 : GD M sn c pw p h r u B1 D1) (h2 : GD M sn c pw p h r u B2 D2) (d1 : ∀ k, k < 300 → gG M sn p k = 1 → B1 k < u → D1 k = B1 k + pw k) (d2 : ∀ k, k < 300 → gG M sn p k = 1 → B2 k < u → D2 k = B2 k + pw k) (hpw : ∀ k, k < 300 → gG M sn p k = 1 → 1 ≤ pw k) {s : Nat} (hs : s < u) (ih : ∀ k, k < 300 → gG M sn p k = 1 → (B1 k < s ↔ B2 k < s) ∧ (B1 k < s → B1 k = B2 k)) {k : Nat} (hk : k < 300) (hg : gG M sn p k = 1) (hb : B1 k = s) : B2 k = s := by
  apply Classical.byContradiction
  intro hne
  have hk2 : s < B2 k := by
    rcases Nat.lt_trichotomy (B2 k) s with z | z | z
    · have := (ih k hk hg).1.mpr z; omega
    · exact absurd z hne
    · exact z
  have hck := h1.1 k hk hg (by omega)
  have a1 : cg (hfn M sn B1 D1 p s) 300 ≤ h := h1.2.1 s hs
  have a2 : h ≤ cg (hfn M sn B2 D2 p s) 300 := h2.2.2.1 s k hs hk hg (by omega) hk2
  have hex : ∃ j, j < 300 ∧ hfn M sn B1 D1 p s j < hfn M sn B2 D2 p s j := by
    apply Classical.byContradiction
    intro hno
    have hlt : cg (hfn M sn B2 D2 p s) 300 < cg (hfn M sn B1 D1 p s) 300 := cg_lt (i := k) (fun a ha => Nat.not_lt.mp (fun z => hno ⟨a, ha, z⟩)) hk (by
      have e1 : hfn M sn B2 D2 p s k = 0 := hfn_0 (fun z => by have := z.2.1; omega)
      have z1 := d1 k hk hg (by omega)
      have z2 := hpw k hk hg
      have e2 : hfn M sn B1 D1 p s k = 1 := hfn_1 ⟨hg, by omega, by omega⟩
      omega)
    omega
  obtain ⟨j, hj, hlt⟩ := hex
  have hj2 : gG M sn p j = 1 ∧ B2 j ≤ s ∧ s < D2 j := by
    apply Classical.byContradiction
    intro z
    have e := hfn_0 (M := M) (sn := sn) (B := B2) (D := D2) (p := p) (s := s) (k := j) z
    omega
  have hj1 : ¬ (gG M sn p j = 1 ∧ B1 j ≤ s ∧ s < D1 j) := by
    intro z
    have e := hfn_1 (M := M) (sn := sn) (B := B1) (D := D1) (p := p) (s := s) (k := j) z
    have := hfn_le M sn B2 D2 p s j
    omega
  obtain ⟨g1, g2, g3⟩ := hj2
  obtain ⟨i1, i2⟩ := ih j hj g1
  have p1 := hpw j hj g1
  have hB2 : B2 j = s := by
    apply Classical.byContradiction
    intro z
    have z1 : B2 j < s := by omega
    have z2 : B1 j < s := i1.mpr z1
    have z3 := i2 z2
    have z4 := d1 j hj g1 (by omega)
    have z5 := d2 j hj g1 (by omega)
    exact hj1 ⟨g1, by omega, by omega⟩
  have hB1 : s < B1 j := by
    apply Classical.byContradiction
    intro z
    have z0 : ¬ B1 j < s := fun y => by have := i1.mp y; omega
    have z4 := d1 j hj g1 (by omega)
    exact hj1 ⟨g1, by omega, by omega⟩
  have hcj := h2.1 j hj g1 (by omega)
  have q1 := h1.2.2.2 k j hk hj hg g1 (by omega) (by omega) (by omega)
  have q2 := h2.2.2.2 j k hj hk g1 hg (by omega) (by omega) (by omega)
  rcases ahd_tot (M := M) (c := c) (pw := pw) (r := r) (j := j) (i := k) (fun z => by rw [z] at hB2; omega) with z | z
  · exact q1 z
  · exact q2 z
theorem GD_uniq {M : MN} {sn c pw B1 D1 B2 D2 : Nat → Nat} {p h r u : Nat} (h1 : GD M sn c pw p h r u B1 D1) (h2 : GD M sn c pw p h r u B2 D2) (d1 : ∀ k, k < 300 → gG M sn p k = 1 → B1 k < u → D1 k = B1 k + pw k) (d2 : ∀ k, k < 300 → gG M sn p k = 1 → B2 k < u → D2 k = B2 k + pw k) (hpw : ∀ k, k < 300 → gG M sn p k = 1 → 1 ≤ pw k) : ∀ s, s ≤ u → ∀ k, k < 300 → gG M sn p k = 1 → (B1 k < s ↔ B2 k < s) ∧ (B1 k < s → B1 k = B2 k) := by
  intro s
  induction s with
  | zero => intro _ k _ _; exact ⟨⟨fun z => absurd z (Nat.not_lt_zero _), fun z => absurd z (Nat.not_lt_zero _)⟩, fun z => absurd z (Nat.not_lt_zero _)⟩
  | succ s ihs =>
    intro hs k hk hg
    have ih := ihs (by omega)
    have ih' : ∀ k, k < 300 → gG M sn p k = 1 → (B2 k < s ↔ B1 k < s) ∧ (B2 k < s → B2 k = B1 k) := fun k hk hg => ⟨(ih k hk hg).1.symm, fun z => ((ih k hk hg).2 ((ih k hk hg).1.mpr z)).symm⟩
    have f1 : B1 k < s + 1 → B1 k = B2 k := by
      intro z
      by_cases y : B1 k < s
      · exact (ih k hk hg).2 y
      · have e : B1 k = s := by omega
        have := GD_one h1 h2 d1 d2 hpw (by omega) ih hk hg e
        omega
    have f2 : B2 k < s + 1 → B2 k = B1 k := by
      intro z
      by_cases y : B2 k < s
      · exact (ih' k hk hg).2 y
      · have e : B2 k = s := by omega
        have := GD_one h2 h1 d2 d1 hpw (by omega) ih' hk hg e
        omega
    exact ⟨⟨fun z => by have := f1 z; omega, fun z => by have := f2 z; omega⟩, f1⟩
theorem gH_sub {M : MN} {sn B D B' D' : Nat → Nat} {p s s' : Nat} (h : ∀ k, k < 300 → gG M sn p k = 1 → B k ≤ s → s < D k → B' k ≤ s' ∧ s' < D' k) : gH M sn B D p s ≤ gH M sn B' D' p s' := by
  refine cg_mono (fun k hk => ?_)
  by_cases c : gG M sn p k = 1 ∧ B k ≤ s ∧ s < D k
  · rw [hfn_1 c, hfn_1 ⟨c.1, h k hk c.1 c.2.1 c.2.2⟩]
    exact Nat.le_refl _
  · rw [hfn_0 c]
    exact Nat.zero_le _
theorem gH_congr {M : MN} {sn B D B' D' : Nat → Nat} {p s : Nat} (h : ∀ k, k < 300 → gG M sn p k = 1 → ((B k ≤ s ∧ s < D k) ↔ (B' k ≤ s ∧ s < D' k))) : gH M sn B D p s = gH M sn B' D' p s :=
  Nat.le_antisymm (gH_sub (fun k hk hg a b => (h k hk hg).mp ⟨a, b⟩)) (gH_sub (fun k hk hg a b => (h k hk hg).mpr ⟨a, b⟩))
theorem gH_pos {M : MN} {sn B D : Nat → Nat} {p s : Nat} (h : 0 < gH M sn B D p s) : ∃ k, k < 300 ∧ gG M sn p k = 1 ∧ B k ≤ s ∧ s < D k := by
  obtain ⟨k, hk, hp⟩ := cg_pos.mp h
  refine ⟨k, hk, ?_⟩
  apply Classical.byContradiction
  intro z
  rw [hfn_0 z] at hp
  omega
theorem gH_one {M : MN} {sn B D : Nat → Nat} {p s k : Nat} (hk : k < 300) (h : gG M sn p k = 1 ∧ B k ≤ s ∧ s < D k) : 0 < gH M sn B D p s := cg_pos.mpr ⟨k, hk, by rw [hfn_1 h]; omega⟩
theorem gmx_ge {M : MN} {sn sb sd : Nat → Nat} {p : Nat} : ∀ (n : Nat) {r : Nat}, r < n → gG M sn p r = 1 → gH M sn sb sd p (sb r) ≤ gmx M sn sb sd p n
  | 0, r, h, _ => absurd h (Nat.not_lt_zero _)
  | n + 1, r, h, hg => by
    rw [gmx]
    by_cases e : r = n
    · subst e
      rw [if_pos hg]
      split <;> omega
    · have ih := gmx_ge (M := M) (sn := sn) (sb := sb) (sd := sd) (p := p) n (r := r) (by omega) hg
      split
      · split <;> omega
      · exact ih
theorem gmx_lub {M : MN} {sn sb sd : Nat → Nat} {p h : Nat} : ∀ n : Nat, (∀ r, r < n → gG M sn p r = 1 → gH M sn sb sd p (sb r) ≤ h) → gmx M sn sb sd p n ≤ h
  | 0, _ => Nat.zero_le _
  | n + 1, hh => by
    have ih := gmx_lub (M := M) (sn := sn) (sb := sb) (sd := sd) (p := p) (h := h) n (fun r hr => hh r (by omega))
    rw [gmx]
    split
    · rename_i z
      have := hh n (by omega) z
      split <;> omega
    · exact ih
theorem gH_mx {M : MN} {sn sb sd : Nat → Nat} {p : Nat} : ∀ t, gH M sn sb sd p t ≤ gmx M sn sb sd p 300 := by
  intro t
  by_cases hex : ∃ r, r < 300 ∧ gG M sn p r = 1 ∧ sb r = t
  · obtain ⟨r, h1, h2, h3⟩ := hex
    rw [← h3]
    exact gmx_ge 300 h1 h2
  · induction t with
    | zero =>
      apply Classical.byContradiction
      intro z
      obtain ⟨k, h1, h2, h3, -⟩ := gH_pos (M := M) (sn := sn) (B := sb) (D := sd) (p := p) (s := 0) (by omega)
      exact hex ⟨k, h1, h2, by omega⟩
    | succ t ih =>
      have h1 : gH M sn sb sd p (t + 1) ≤ gH M sn sb sd p t := gH_sub (fun k hk hg a b => by
        have : sb k ≠ t + 1 := fun z => hex ⟨k, hk, hg, z⟩
        omega)
      refine Nat.le_trans h1 ?_
      by_cases hex2 : ∃ r, r < 300 ∧ gG M sn p r = 1 ∧ sb r = t
      · obtain ⟨r, g1, g2, g3⟩ := hex2
        rw [← g3]
        exact gmx_ge 300 g1 g2
      · exact ih hex2
def gIdl (M : MN) (sn sb sd c : Nat → Nat) (p t H : Nat) : Prop := (∃ j, j < 300 ∧ gG M sn p j = 1 ∧ c j ≤ t ∧ t < sb j) ∧ gH M sn sb sd p t < H
def gPos (M : MN) (sn sb sd c : Nat → Nat) (p H : Nat) : Prop := ∀ k, k < 300 → gG M sn p k = 1 → c k ≤ sb k ∧ ¬ gIdl M sn sb sd c p (c k) H ∧ ¬ gIdl M sn sb sd c p (sd k) H
def gOrd (M : MN) (sn sb c pw : Nat → Nat) (p r : Nat) : Prop := ∀ i j, i < 300 → j < 300 → gG M sn p i = 1 → gG M sn p j = 1 → c j ≤ sb i → sb i < sb j → ¬ ahd M c pw r j i
def gGood (M : MN) (sn sb sd c pw : Nat → Nat) (p h r : Nat) : Prop := ∀ u, GD M sn c pw p h r u sb sd
theorem pos_left {M : MN} {sn sb sd c : Nat → Nat} {p H : Nat} (h : gPos M sn sb sd c p H) : ∀ t k, k < 300 → gG M sn p k = 1 → c k ≤ t → t < sb k → H ≤ gH M sn sb sd p t := by
  intro t
  induction t with
  | zero =>
    intro k hk hg h1 h2
    apply Classical.byContradiction
    intro z
    have h0 : c k = 0 := by omega
    apply (h k hk hg).2.1
    rw [h0]
    exact ⟨⟨k, hk, hg, by omega, h2⟩, by omega⟩
  | succ t ih =>
    intro k hk hg h1 h2
    apply Classical.byContradiction
    intro z
    have hl : ∃ j, j < 300 ∧ gG M sn p j = 1 ∧ c j ≤ t + 1 ∧ t + 1 < sb j := ⟨k, hk, hg, h1, h2⟩
    have n1 : ∀ j, j < 300 → gG M sn p j = 1 → c j ≠ t + 1 := by
      intro j hj hgj e
      apply (h j hj hgj).2.1
      rw [e]
      exact ⟨hl, by omega⟩
    have n2 : ∀ j, j < 300 → gG M sn p j = 1 → sd j ≠ t + 1 := by
      intro j hj hgj e
      apply (h j hj hgj).2.2
      rw [e]
      exact ⟨hl, by omega⟩
    have h3 := n1 k hk hg
    have h4 := ih k hk hg (by omega) (by omega)
    have h5 : gH M sn sb sd p t ≤ gH M sn sb sd p (t + 1) := gH_sub (fun j hj hgj a b => by
      have := n2 j hj hgj
      omega)
    omega
theorem good_of {M : MN} {sn sb sd c pw : Nat → Nat} {p r : Nat} (h1 : gPos M sn sb sd c p (gmx M sn sb sd p 300)) (h2 : gOrd M sn sb c pw p r) : gGood M sn sb sd c pw p (gmx M sn sb sd p 300) r := by
  intro u
  exact ⟨fun k hk hg _ => (h1 k hk hg).1, fun s _ => gH_mx s, fun s k _ hk hg a b => pos_left h1 s k hk hg a b, fun i j hi hj gi gj _ a b => h2 i j hi hj gi gj a b⟩
theorem pos_of {M : MN} {sn sb sd c pw : Nat → Nat} {p h r : Nat} (hh : gGood M sn sb sd c pw p h r) : gmx M sn sb sd p 300 ≤ h ∧ gPos M sn sb sd c p (gmx M sn sb sd p 300) ∧ gOrd M sn sb c pw p r := by
  have h0 : gmx M sn sb sd p 300 ≤ h := gmx_lub 300 (fun r _ _ => (hh (sb r + 1)).2.1 (sb r) (by omega))
  have hi : ∀ t, ¬ gIdl M sn sb sd c p t (gmx M sn sb sd p 300) := by
    rintro t ⟨⟨j, hj, hg, a, b⟩, z⟩
    have := (hh (t + 1)).2.2.1 t j (by omega) hj hg a b
    omega
  exact ⟨h0, fun k hk hg => ⟨(hh (sb k + 1)).1 k hk hg (by omega), hi _, hi _⟩, fun i j hi hj gi gj a b => (hh (sb i + 1)).2.2.2 i j hi hj gi gj (by omega) a b⟩
