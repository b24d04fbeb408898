/-! PURE: the class's reading of helpers and a rule; found -/
theorem FG.cm {M : MN} {sn sb sd : Nat → Nat} {p : Nat} {f : SF} {g : Nat → Nat} (ok : gOK M) (hsd : SD M sn sb sd) (hf : FG M sn sb sd p f g) (hw : WH M sn sd p) {i : Nat} (hi : i < cg (gG M sn p) 300) : F_came f i = nI (gco M sn sd (g i)) ∧ gco M sn sd (g i) ≤ 10001000 := by
  obtain ⟨a1, a2, a3, a4, a5, a6, a7⟩ := hf.2 i hi
  have hv := (SDb hsd a2).1
  have h2 := (hw (g i) a1 hv (gG_1 a2).2).2
  rw [a4, h2]
  exact ⟨rfl, gcm_b ok hsd hv h2⟩
theorem mLeft {M : MN} {sn sb sd : Nat → Nat} {p : Nat} {f : SF} {g : Nat → Nat} (ok : gOK M) (hsd : SD M sn sb sd) (hf : FG M sn sb sd p f g) (hw : WH M sn sd p) {i t : Nat} (hi : i < cg (gG M sn p) 300) (ht : t ≤ 20000000) : ((gco M sn sd (g i) ≤ t ∧ t < sb (g i)) ∧ mX0_isLeftAt f (nI i) (nI t) = some 1) ∨ (¬ (gco M sn sd (g i) ≤ t ∧ t < sb (g i)) ∧ mX0_isLeftAt f (nI i) (nI t) = some 0) := by
  have hS := gS_le M sn p
  obtain ⟨a1, a2, a3, a4, a5, a6, a7⟩ := hf.2 i hi
  obtain ⟨c1, c2⟩ := hf.cm ok hsd hw hi
  have hb := SDb hsd a2
  unfold mX0_isLeftAt
  rw [ck_nI (by omega) (by omega), ck_nI (by omega) (by omega), cl_n (j := i) (by omega), c1, a5]
  by_cases z1 : t < gco M sn sd (g i)
  · right
    rw [if_pos (by rw [lt_n (by omega) (by omega)]; exact z1)]
    exact ⟨fun y => by omega, rfl⟩
  · rw [if_neg (by rw [lt_n (by omega) (by omega)]; exact z1)]
    by_cases z2 : sb (g i) ≤ t
    · right
      rw [if_pos (by rw [le_n (by omega) (by omega)]; exact z2)]
      exact ⟨fun y => by omega, rfl⟩
    · left
      rw [if_neg (by rw [le_n (by omega) (by omega)]; exact z2)]
      exact ⟨by omega, rfl⟩
theorem mIdle {M : MN} {sn sb sd : Nat → Nat} {p : Nat} {f : SF} {g : Nat → Nat} (ok : gOK M) (hsd : SD M sn sb sd) (hf : FG M sn sb sd p f g) (hw : WH M sn sd p) {t H : Nat} (ht : t ≤ 20000000) (hH : H ≤ 300) : (gIdl M sn sb sd (gco M sn sd) p t H ∧ mX0_isIdleAt f (nI t) (nI H) = some 1) ∨ (¬ gIdl M sn sb sd (gco M sn sd) p t H ∧ mX0_isIdleAt f (nI t) (nI H) = some 0) := by
  have hS := gS_le M sn p
  have hgl := gH_le M sn sb sd p t
  unfold mX0_isIdleAt
  have key := lps (F := fun q i => lpX0_isIdleAt_2 f (nI t) (nI H) q (nI i)) (X := some (Sum.inl (if H ≤ gH M sn sb sd p t then 0 else 1))) (Y := some (Sum.inr ())) (fun i => gco M sn sd (g i) ≤ t ∧ t < sb (g i)) (cg (gG M sn p) 300)
    (fun k => by
      show lpX0_isIdleAt_2 f (nI t) (nI H) (k + 1) (nI (cg (gG M sn p) 300)) = _
      rw [lpX0_isIdleAt_2, hf.1, if_pos (by rw [le_n (by omega) (by omega)]; omega)])
    (fun k i hi => by
      show (_ ∧ lpX0_isIdleAt_2 f (nI t) (nI H) (k + 1) (nI i) = _) ∨ (_ ∧ lpX0_isIdleAt_2 f (nI t) (nI H) (k + 1) (nI i) = lpX0_isIdleAt_2 f (nI t) (nI H) k (nI (i + 1)))
      rw [lpX0_isIdleAt_2, hf.1, if_neg (by rw [le_n (by omega) (by omega)]; omega)]
      rcases mLeft ok hsd hf hw hi ht with ⟨z, e⟩ | ⟨z, e⟩
      · left
        refine ⟨z, ?_⟩
        rw [e, bi_s, if_1, mHelp hsd hf ht, bi_s]
        by_cases y : H ≤ gH M sn sb sd p t
        · rw [if_pos (by rw [le_n (by omega) (by omega)]; exact y), if_pos y]
        · rw [if_neg (by rw [le_n (by omega) (by omega)]; exact y), if_neg y]
      · right
        refine ⟨z, ?_⟩
        rw [e, bi_s, if_0, ad_1])
    (cg (gG M sn p) 300) qFU 0 (by omega) (by unfold qFU; omega)
  rcases key with ⟨⟨i, -, i2, i3⟩, h⟩ | ⟨h1, h⟩
  · have h' : lpX0_isIdleAt_2 f (nI t) (nI H) qFU 0 = some (Sum.inl (if H ≤ gH M sn sb sd p t then 0 else 1)) := h
    rw [h', bi_s, zS_l]
    obtain ⟨a1, a2, -⟩ := hf.2 i i2
    by_cases y : H ≤ gH M sn sb sd p t
    · right
      rw [if_pos y]
      exact ⟨fun z => by have := z.2; omega, rfl⟩
    · left
      rw [if_neg y]
      exact ⟨⟨⟨g i, a1, a2, i3.1, i3.2⟩, by omega⟩, rfl⟩
  · have h' : lpX0_isIdleAt_2 f (nI t) (nI H) qFU 0 = some (Sum.inr ()) := h
    rw [h', bi_s, zS_r]
    right
    refine ⟨fun z => ?_, rfl⟩
    obtain ⟨⟨j, j1, j2, j3, j4⟩, -⟩ := z
    obtain ⟨v1, v2⟩ := hf.inv j1 j2
    exact h1 _ (Nat.zero_le _) v1 (by rw [v2]; exact ⟨j3, j4⟩)
theorem mPoss {M : MN} {sn sb sd : Nat → Nat} {p : Nat} {f : SF} {g : Nat → Nat} (ok : gOK M) (hsd : SD M sn sb sd) (hf : FG M sn sb sd p f g) (hw : WH M sn sd p) {H : Nat} (hH : H ≤ 300) : ((gPos M sn sb sd (gco M sn sd) p H ∧ H ≤ 8) ∧ mX0_isPossible f (nI H) = some 1) ∨ (¬ (gPos M sn sb sd (gco M sn sd) p H ∧ H ≤ 8) ∧ mX0_isPossible f (nI H) = some 0) := by
  have hS := gS_le M sn p
  unfold mX0_isPossible
  by_cases h8 : H ≤ 8
  · rw [if_pos (by rw [show (8 : Int32) = nI 8 from rfl, le_n (by omega) (by omega)]; exact h8)]
    have key := lps (F := fun q i => lpX0_isPossible_10 f (nI H) q (nI i)) (X := some (Sum.inl 0)) (Y := some (Sum.inr ())) (fun i => ¬ (gco M sn sd (g i) ≤ sb (g i) ∧ ¬ gIdl M sn sb sd (gco M sn sd) p (gco M sn sd (g i)) H ∧ ¬ gIdl M sn sb sd (gco M sn sd) p (sd (g i)) H)) (cg (gG M sn p) 300)
      (fun k => by
        show lpX0_isPossible_10 f (nI H) (k + 1) (nI (cg (gG M sn p) 300)) = _
        rw [lpX0_isPossible_10, hf.1, if_pos (by rw [le_n (by omega) (by omega)]; omega)])
      (fun k i hi => by
        show (_ ∧ lpX0_isPossible_10 f (nI H) (k + 1) (nI i) = _) ∨ (_ ∧ lpX0_isPossible_10 f (nI H) (k + 1) (nI i) = lpX0_isPossible_10 f (nI H) k (nI (i + 1)))
        obtain ⟨a1, a2, a3, a4, a5, a6, a7⟩ := hf.2 i hi
        obtain ⟨c1, c2⟩ := hf.cm ok hsd hw hi
        obtain ⟨b1, b2, b3⟩ := SDb hsd a2
        have hi3 : i < 300 := by omega
        rw [lpX0_isPossible_10, hf.1, if_neg (by rw [le_n (by omega) (by omega)]; omega), cl_n (j := i) (by omega), a5, a6, c1]
        simp only [ckr (j := i) (n := 300) hi3 (by omega)]
        by_cases z : sb (g i) < gco M sn sd (g i)
        · left
          rw [if_pos (by rw [lt_n (by omega) (by omega)]; exact z)]
          exact ⟨fun y => by omega, rfl⟩
        · rw [if_neg (by rw [lt_n (by omega) (by omega)]; exact z)]
          rcases mIdle ok hsd hf hw (t := gco M sn sd (g i)) (by omega) hH with ⟨y, e⟩ | ⟨y, e⟩
          · left
            rw [e, bi_s, if_1]
            exact ⟨fun x => x.2.1 y, rfl⟩
          · rw [e, bi_s, if_0]
            rcases mIdle ok hsd hf hw (t := sd (g i)) (by omega) hH with ⟨y2, e2⟩ | ⟨y2, e2⟩
            · left
              rw [e2, bi_s, if_1]
              exact ⟨fun x => x.2.2 y2, rfl⟩
            · right
              rw [e2, bi_s, if_0, ad_1]
              exact ⟨fun x => x ⟨by omega, y, y2⟩, rfl⟩)
      (cg (gG M sn p) 300) qFU 0 (by omega) (by unfold qFU; omega)
    rcases key with ⟨⟨i, -, i2, i3⟩, h⟩ | ⟨h1, h⟩
    · have h' : lpX0_isPossible_10 f (nI H) qFU 0 = some (Sum.inl 0) := h
      rw [h', bi_s, zS_l]
      obtain ⟨a1, a2, -⟩ := hf.2 i i2
      right
      exact ⟨fun z => i3 (z.1 _ a1 a2), rfl⟩
    · have h' : lpX0_isPossible_10 f (nI H) qFU 0 = some (Sum.inr ()) := h
      rw [h', bi_s, zS_r]
      left
      refine ⟨⟨fun k hk hg => ?_, h8⟩, rfl⟩
      obtain ⟨v1, v2⟩ := hf.inv hk hg
      have := h1 _ (Nat.zero_le _) v1
      rw [v2] at this
      exact Classical.byContradiction (fun z => this z)
  · rw [if_neg (by rw [show (8 : Int32) = nI 8 from rfl, le_n (by omega) (by omega)]; exact h8)]
    right
    exact ⟨fun z => h8 z.2, rfl⟩
theorem mRanks {M : MN} {sn sb sd : Nat → Nat} {p : Nat} {f : SF} {g : Nat → Nat} (ok : gOK M) (hsd : SD M sn sb sd) (hf : FG M sn sb sd p f g) (hw : WH M sn sd p) {r : Nat} (hr : r ≤ 3) : ∃ f', lpX0_isOrderedBy_2 (nI r) qFU 0 f = some f' ∧ FG M sn sb sd p f' g ∧ ∀ i, i < cg (gG M sn p) 300 → F_ranks f' i = jI (qrk r (gco M sn sd (g i)) (pwf M sb sd p (g i)) (gki M (g i / 5))) := by
  have hS := gS_le M sn p
  have key := lpx (F := fun k i (z : SF) => lpX0_isOrderedBy_2 (nI r) k (nI i) z) (G := fun z => some z) (fun i z => F_size z = F_size f ∧ F_came z = F_came f ∧ F_begun z = F_begun f ∧ F_done z = F_done f ∧ F_kinds z = F_kinds f ∧ ∀ j, j < i → F_ranks z j = jI (qrk r (gco M sn sd (g j)) (pwf M sb sd p (g j)) (gki M (g j / 5)))) (cg (gG M sn p) 300)
    (fun k s hs => by
      show lpX0_isOrderedBy_2 (nI r) (k + 1) (nI (cg (gG M sn p) 300)) s = some s
      rw [lpX0_isOrderedBy_2, hs.1, hf.1, if_pos (by rw [le_n (by omega) (by omega)]; omega)])
    (fun k i s hi hs => by
      show ∃ s', _ ∧ lpX0_isOrderedBy_2 (nI r) (k + 1) (nI i) s = lpX0_isOrderedBy_2 (nI r) k (nI (i + 1)) s'
      obtain ⟨s1, s2, s3, s4, s5, s6⟩ := hs
      obtain ⟨a1, a2, a3, a4, a5, a6, a7⟩ := hf.2 i hi
      obtain ⟨c1, c2⟩ := hf.cm ok hsd hw hi
      obtain ⟨b1, b2, b3⟩ := SDb hsd a2
      have hi3 : i < 300 := by omega
      have hk := (ok.2.2.2.1 _ b1.1).1
      have ep : pwf M sb sd p (g i) = sd (g i) - sb (g i) := by unfold pwf; rw [if_pos (gG_1 a2).2]
      rw [lpX0_isOrderedBy_2, s1, hf.1, if_neg (by rw [le_n (by omega) (by omega)]; omega), cl_n (j := i) (by omega), s2, s3, s4, s5, a5, a6, a7, c1, su_n (by omega), mRank hr (by omega) (by omega) hk, bi_s, ad_1 i]
      simp only [ckr (j := i) (n := 300) hi3 (by omega)]
      refine ⟨_, ⟨?_, ?_, ?_, ?_, ?_, fun j hj => ?_⟩, rfl⟩
      · exact s1.trans hf.1
      · exact s2
      · exact s3
      · exact s4
      · exact s5
      · show vp_updL (F_ranks s) i _ j = _
        by_cases e : j = i
        · subst e
          rw [pk_uLs, ep]
        · rw [pk_uLn e]
          exact s6 j (by omega))
    (cg (gG M sn p) 300) qFU 0 f (by omega) (by unfold qFU; omega) ⟨rfl, rfl, rfl, rfl, rfl, fun j hj => absurd hj (Nat.not_lt_zero _)⟩
  obtain ⟨s', ⟨s1, s2, s3, s4, s5, s6⟩, h2⟩ := key
  refine ⟨s', h2, ⟨s1.trans hf.1, fun i hi => ?_⟩, s6⟩
  rw [s2, s3, s4, s5]
  exact hf.2 i hi
theorem mAheadC {M : MN} {sn sb sd : Nat → Nat} {p : Nat} {f : SF} {g : Nat → Nat} (ok : gOK M) (hsd : SD M sn sb sd) (hf : FG M sn sb sd p f g) (hw : WH M sn sd p) {r : Nat} (hk : ∀ i, i < cg (gG M sn p) 300 → F_ranks f i = jI (qrk r (gco M sn sd (g i)) (pwf M sb sd p (g i)) (gki M (g i / 5)))) {i j : Nat} (hi : i < cg (gG M sn p) 300) (hj : j < cg (gG M sn p) 300) : (ahd M (gco M sn sd) (pwf M sb sd p) r (g j) (g i) ∧ mX0_isAhead f (nI j) (nI i) = some 1) ∨ (¬ ahd M (gco M sn sd) (pwf M sb sd p) r (g j) (g i) ∧ mX0_isAhead f (nI j) (nI i) = some 0) := by
  have hS := gS_le M sn p
  have hb : ∀ i, i < cg (gG M sn p) 300 → -9000000000000000000 ≤ qrk r (gco M sn sd (g i)) (pwf M sb sd p (g i)) (gki M (g i / 5)) ∧ qrk r (gco M sn sd (g i)) (pwf M sb sd p (g i)) (gki M (g i / 5)) ≤ 9000000000000000000 := by
    intro i hi
    obtain ⟨a1, a2, -⟩ := hf.2 i hi
    obtain ⟨b1, b2, b3⟩ := SDb hsd a2
    have hc := (hf.cm ok hsd hw hi).2
    have hp := (HC_of ok hsd hw).2.1 _ b1
    exact qrk_b (by omega) (by omega) (ok.2.2.2.1 _ b1.1).1
  have hlt : j < i ↔ g j < g i := by
    obtain ⟨-, a2, a3, -⟩ := hf.2 i hi
    obtain ⟨-, d2, d3, -⟩ := hf.2 j hj
    constructor
    · intro z
      apply Classical.byContradiction
      intro y
      have := cg_mn (f := gG M sn p) (a := g i) (b := g j) (by omega)
      omega
    · intro z
      have := cg_up (f := gG M sn p) z (by omega)
      omega
  obtain ⟨p1, p2⟩ := hb i hi
  obtain ⟨p3, p4⟩ := hb j hj
  unfold mX0_isAhead
  rw [ck_nI (j := j) (by omega) (by omega), ck_nI (j := i) (by omega) (by omega), ck_nI (j := j) (by omega) (by omega), ck_nI (j := i) (by omega) (by omega), cl_n (j := j) (by omega), cl_n (j := i) (by omega), hk i hi, hk j hj]
  have l1 : (lg_cmp (jI (qrk r (gco M sn sd (g j)) (pwf M sb sd p (g j)) (gki M (g j / 5)))) (jI (qrk r (gco M sn sd (g i)) (pwf M sb sd p (g i)) (gki M (g i / 5)))) < 0) = (qrk r (gco M sn sd (g j)) (pwf M sb sd p (g j)) (gki M (g j / 5)) < qrk r (gco M sn sd (g i)) (pwf M sb sd p (g i)) (gki M (g i / 5))) := by
    rw [propext (lg_cmp_lt _ _), jI_lt p3 p4 p1 p2]
  have l2 : (lg_cmp (jI (qrk r (gco M sn sd (g j)) (pwf M sb sd p (g j)) (gki M (g j / 5)))) (jI (qrk r (gco M sn sd (g i)) (pwf M sb sd p (g i)) (gki M (g i / 5)))) = 0) = (qrk r (gco M sn sd (g j)) (pwf M sb sd p (g j)) (gki M (g j / 5)) = qrk r (gco M sn sd (g i)) (pwf M sb sd p (g i)) (gki M (g i / 5))) := by
    rw [propext (lg_cmp_eq _ _), jI_eq p3 p4 p1 p2]
  unfold ahd
  generalize qrk r (gco M sn sd (g j)) (pwf M sb sd p (g j)) (gki M (g j / 5)) = x at *
  generalize qrk r (gco M sn sd (g i)) (pwf M sb sd p (g i)) (gki M (g i / 5)) = y at *
  by_cases z1 : x < y
  · left
    rw [if_pos (by rw [l1]; exact z1)]
    exact ⟨Or.inl z1, rfl⟩
  · rw [if_neg (by rw [l1]; exact z1)]
    by_cases z2 : x = y
    · rw [if_pos (by rw [l2]; exact z2)]
      by_cases z3 : i ≤ j
      · right
        rw [if_pos (by rw [le_n (by omega) (by omega)]; exact z3)]
        refine ⟨?_, rfl⟩
        rintro (w | ⟨-, w⟩)
        · exact z1 w
        · have := hlt.mpr w; omega
      · left
        rw [if_neg (by rw [le_n (by omega) (by omega)]; exact z3)]
        exact ⟨Or.inr ⟨z2, hlt.mp (by omega)⟩, rfl⟩
    · right
      rw [if_neg (by rw [l2]; exact z2)]
      refine ⟨?_, rfl⟩
      rintro (w | ⟨w, -⟩)
      · exact z1 w
      · exact z2 w
theorem mOrdered {M : MN} {sn sb sd : Nat → Nat} {p : Nat} {f0 : SF} {g : Nat → Nat} (ok : gOK M) (hsd : SD M sn sb sd) (hf0 : FG M sn sb sd p f0 g) (hw : WH M sn sd p) {r : Nat} (hr : r ≤ 3) : ∃ f, FG M sn sb sd p f g ∧ ((gOrd M sn sb (gco M sn sd) (pwf M sb sd p) p r ∧ mX0_isOrderedBy f0 (nI r) = some (1, f)) ∨ (¬ gOrd M sn sb (gco M sn sd) (pwf M sb sd p) p r ∧ mX0_isOrderedBy f0 (nI r) = some (0, f))) := by
  have hS := gS_le M sn p
  obtain ⟨f, e0, hf, hk⟩ := mRanks ok hsd hf0 hw hr
  have L63 : ∀ i, i < cg (gG M sn p) 300 → ((∃ j, j < cg (gG M sn p) 300 ∧ (gco M sn sd (g j) ≤ sb (g i) ∧ sb (g i) < sb (g j)) ∧ ahd M (gco M sn sd) (pwf M sb sd p) r (g j) (g i)) ∧ lpX0_isOrderedBy_63 f (nI i) qFU 0 = some (Sum.inl (0, f))) ∨ ((∀ j, j < cg (gG M sn p) 300 → ¬ ((gco M sn sd (g j) ≤ sb (g i) ∧ sb (g i) < sb (g j)) ∧ ahd M (gco M sn sd) (pwf M sb sd p) r (g j) (g i))) ∧ lpX0_isOrderedBy_63 f (nI i) qFU 0 = some (Sum.inr ())) := by
    intro i hi
    obtain ⟨a1, a2, a3, a4, a5, a6, a7⟩ := hf.2 i hi
    obtain ⟨b1, b2, b3⟩ := SDb hsd a2
    have key := lps (F := fun q j => lpX0_isOrderedBy_63 f (nI i) q (nI j)) (X := some (Sum.inl (0, f))) (Y := some (Sum.inr ())) (fun j => (gco M sn sd (g j) ≤ sb (g i) ∧ sb (g i) < sb (g j)) ∧ ahd M (gco M sn sd) (pwf M sb sd p) r (g j) (g i)) (cg (gG M sn p) 300)
      (fun k => by
        show lpX0_isOrderedBy_63 f (nI i) (k + 1) (nI (cg (gG M sn p) 300)) = _
        rw [lpX0_isOrderedBy_63, hf.1, if_pos (by rw [le_n (by omega) (by omega)]; omega)])
      (fun k j hj => by
        show (_ ∧ lpX0_isOrderedBy_63 f (nI i) (k + 1) (nI j) = _) ∨ (_ ∧ lpX0_isOrderedBy_63 f (nI i) (k + 1) (nI j) = lpX0_isOrderedBy_63 f (nI i) k (nI (j + 1)))
        rw [lpX0_isOrderedBy_63, hf.1, if_neg (by rw [le_n (by omega) (by omega)]; omega), ck_nI (by omega) (by omega), cl_n (j := i) (by omega), a5]
        rcases mLeft ok hsd hf hw hj (t := sb (g i)) (by omega) with ⟨z, e⟩ | ⟨z, e⟩
        · rw [e, bi_s, if_1]
          rcases mAheadC ok hsd hf hw hk hi hj with ⟨y, e2⟩ | ⟨y, e2⟩
          · left
            rw [e2, bi_s, if_1]
            exact ⟨⟨z, y⟩, rfl⟩
          · right
            rw [e2, bi_s, if_0, ad_1]
            exact ⟨fun x => y x.2, rfl⟩
        · right
          rw [e, bi_s, if_0, ad_1]
          exact ⟨fun x => z x.1, rfl⟩)
      (cg (gG M sn p) 300) qFU 0 (by omega) (by unfold qFU; omega)
    rcases key with ⟨⟨j, -, j2, j3⟩, h⟩ | ⟨h1, h⟩
    · exact Or.inl ⟨⟨j, j2, j3⟩, h⟩
    · exact Or.inr ⟨fun j hj => h1 j (Nat.zero_le _) hj, h⟩
  have key := lps (F := fun q i => lpX0_isOrderedBy_53 f q (nI i)) (X := some (Sum.inl (0, f))) (Y := some (Sum.inr ())) (fun i => ∃ j, j < cg (gG M sn p) 300 ∧ (gco M sn sd (g j) ≤ sb (g i) ∧ sb (g i) < sb (g j)) ∧ ahd M (gco M sn sd) (pwf M sb sd p) r (g j) (g i)) (cg (gG M sn p) 300)
    (fun k => by
      show lpX0_isOrderedBy_53 f (k + 1) (nI (cg (gG M sn p) 300)) = _
      rw [lpX0_isOrderedBy_53, hf.1, if_pos (by rw [le_n (by omega) (by omega)]; omega)])
    (fun k i hi => by
      show (_ ∧ lpX0_isOrderedBy_53 f (k + 1) (nI i) = _) ∨ (_ ∧ lpX0_isOrderedBy_53 f (k + 1) (nI i) = lpX0_isOrderedBy_53 f k (nI (i + 1)))
      rw [lpX0_isOrderedBy_53, hf.1, if_neg (by rw [le_n (by omega) (by omega)]; omega)]
      rcases L63 i hi with ⟨z, e⟩ | ⟨z, e⟩
      · left
        rw [e, bi_s, zS_l]
        exact ⟨z, rfl⟩
      · right
        rw [e, bi_s, zS_r, ad_1]
        exact ⟨fun ⟨j, j1, j2⟩ => z j j1 j2, rfl⟩)
    (cg (gG M sn p) 300) qFU 0 (by omega) (by unfold qFU; omega)
  refine ⟨f, hf, ?_⟩
  unfold mX0_isOrderedBy
  rw [e0, bi_s]
  rcases key with ⟨⟨i, -, i2, j, j1, j2, j3⟩, h⟩ | ⟨h1, h⟩
  · have h' : lpX0_isOrderedBy_53 f qFU 0 = some (Sum.inl (0, f)) := h
    rw [h', bi_s, zS_l]
    obtain ⟨a1, a2, -⟩ := hf.2 i i2
    obtain ⟨d1, d2, -⟩ := hf.2 j j1
    right
    exact ⟨fun z => z _ _ a1 d1 a2 d2 j2.1 j2.2 j3, rfl⟩
  · have h' : lpX0_isOrderedBy_53 f qFU 0 = some (Sum.inr ()) := h
    rw [h', bi_s, zS_r]
    left
    refine ⟨fun i j hi hj gi gj ha hl had => ?_, rfl⟩
    obtain ⟨v1, v2⟩ := hf.inv hi gi
    obtain ⟨w1, w2⟩ := hf.inv hj gj
    exact h1 _ (Nat.zero_le _) v1 ⟨_, w1, by rw [v2, w2]; exact ⟨ha, hl⟩, by rw [v2, w2]; exact had⟩
theorem fr29 {M : MN} {sn sb sd : Nat → Nat} {p : Nat} {g : Nat → Nat} (ok : gOK M) (hsd : SD M sn sb sd) (hw : WH M sn sd p) : ∀ (d k i : Nat) (f : SF), i + d = 4 → d < k → FG M sn sb sd p f g → (∀ r, r < i → ¬ gOrd M sn sb (gco M sn sd) (pwf M sb sd p) p r) →
    ∃ f', FG M sn sb sd p f' g ∧ ((∃ r, r ≤ 3 ∧ gOrd M sn sb (gco M sn sd) (pwf M sb sd p) p r ∧ (∀ r', r' < r → ¬ gOrd M sn sb (gco M sn sd) (pwf M sb sd p) p r') ∧ lpX0_firstRule_29 k (nI i) f = some (Sum.inl (nI r, f'))) ∨ ((∀ r, r ≤ 3 → ¬ gOrd M sn sb (gco M sn sd) (pwf M sb sd p) p r) ∧ lpX0_firstRule_29 k (nI i) f = some (Sum.inr f'))) := by
  intro d
  induction d with
  | zero =>
    intro k i f hi hk hf hb
    obtain ⟨k, rfl⟩ : ∃ j, k = j + 1 := ⟨k - 1, by omega⟩
    have e4 : i = 4 := by omega
    subst e4
    rw [lpX0_firstRule_29, if_pos (by decide)]
    exact ⟨f, hf, Or.inr ⟨fun r hr => hb r (by omega), rfl⟩⟩
  | succ d ih =>
    intro k i f hi hk hf hb
    obtain ⟨k, rfl⟩ : ∃ j, k = j + 1 := ⟨k - 1, by omega⟩
    obtain ⟨f1, a1, a2⟩ := mOrdered ok hsd hf hw (r := i) (by omega)
    rw [lpX0_firstRule_29, if_neg (by rw [show (3 : Int32) = nI 3 from rfl, lt_n (by omega) (by omega)]; omega)]
    rcases a2 with ⟨o, e⟩ | ⟨o, e⟩
    · rw [e, bi_s]
      dsimp only
      rw [if_1]
      exact ⟨f1, a1, Or.inl ⟨i, by omega, o, hb, rfl⟩⟩
    · rw [e, bi_s]
      dsimp only
      rw [if_0, ad_1]
      exact ih k (i + 1) f1 (by omega) (by omega) a1 (fun r hr => by
        by_cases z : r = i
        · subst z; exact o
        · exact hb r (by omega))
/-- what the class asks of rule r -/
def CL (M : MN) (sn sb sd : Nat → Nat) (p r : Nat) : Prop := gwh M sn sd p 300 = 1 ∧ 0 < cg (gG M sn p) 300 ∧ gPos M sn sb sd (gco M sn sd) p (gmx M sn sb sd p 300) ∧ gmx M sn sb sd p 300 ≤ 8 ∧ gOrd M sn sb (gco M sn sd) (pwf M sb sd p) p r
theorem mFirstR {M : MN} {sn sb sd : Nat → Nat} {p : Nat} {f : SF} {g : Nat → Nat} (ok : gOK M) (hsd : SD M sn sb sd) (ha : GA M sn sb sd p 300 f) (hf : FG M sn sb sd p f g) :
    ∃ f', FG M sn sb sd p f' g ∧ ((∃ r, r ≤ 3 ∧ CL M sn sb sd p r ∧ (∀ r', r' < r → ¬ gOrd M sn sb (gco M sn sd) (pwf M sb sd p) p r') ∧ mX0_firstRule f = some (nI r, f')) ∨ ((∀ r, r ≤ 3 → ¬ CL M sn sb sd p r) ∧ mX0_firstRule f = some (-1, f'))) := by
  have hS := gS_le M sn p
  have hmx := gmx_le M sn sb sd p 300
  unfold mX0_firstRule
  rw [ha.2.1, hf.1]
  by_cases c1 : gwh M sn sd p 300 = 1
  · rw [c1, if_neg (show ¬ nI 1 = 0 by decide)]
    by_cases c2 : cg (gG M sn p) 300 = 0
    · rw [c2, if_pos (show nI 0 = 0 from rfl)]
      exact ⟨f, hf, Or.inr ⟨fun r _ z => by have := z.2.1; omega, rfl⟩⟩
    · have hw := WH_of c1
      rw [if_neg (by rw [show (0 : Int32) = nI 0 from rfl, eq_n (by omega) (by omega)]; exact c2), mMost hsd hf, bi_s]
      rcases mPoss ok hsd hf hw hmx with ⟨⟨z1, z2⟩, e⟩ | ⟨z, e⟩
      · rw [e, bi_s, if_1]
        obtain ⟨f', a1, a2⟩ := fr29 ok hsd hw 4 qFU 0 f (by omega) (by unfold qFU; omega) hf (fun r hr => absurd hr (Nat.not_lt_zero _))
        rcases a2 with ⟨r, r1, r2, r3, e2⟩ | ⟨r1, e2⟩
        · have e2' : lpX0_firstRule_29 qFU 0 f = some (Sum.inl (nI r, f')) := e2
          rw [e2', bi_s, zS_l]
          exact ⟨f', a1, Or.inl ⟨r, r1, ⟨c1, by omega, z1, z2, r2⟩, r3, rfl⟩⟩
        · have e2' : lpX0_firstRule_29 qFU 0 f = some (Sum.inr f') := e2
          rw [e2', bi_s, zS_r]
          exact ⟨f', a1, Or.inr ⟨fun r hr z => r1 r hr z.2.2.2.2, rfl⟩⟩
      · rw [e, bi_s, if_0]
        exact ⟨f, hf, Or.inr ⟨fun r _ y => z ⟨y.2.2.1, y.2.2.2.1⟩, rfl⟩⟩
  · rw [show gwh M sn sd p 300 = 0 by have := gwh_le M sn sd p 300; omega, if_pos (show nI 0 = 0 from rfl)]
    exact ⟨f, hf, Or.inr ⟨fun r _ z => c1 z.1, rfl⟩⟩
theorem op_found {q : Int32} {n : SN} {t : ST} {p : SP} {m : SM} (hI : LI q n t p m) (f : SF) (o : qJ) (x1 x2 : Int32) : ∃ a b, mL_found q n t f o x1 x2 = some a ∧ mX5_found m x1 x2 = some b ∧ M_thrown b.2 = a.1 ∧ (a.1 = 0 → a.2.2 (Int32.toNatClampNeg 0) = b.1.toInt64) ∧ LI q n t p b.2 := by
  obtain ⟨M, sn, sb, sd, ok, hn, hm, hsd, het, hem, hfr⟩ := hI
  rcases npN (q := q) (x := x1) (m := M_thrown_s m 0) ok hn.1.1 hm.1 with ⟨pl, hpl, rfl, j1, j2⟩ | ⟨j1, j2⟩
  · obtain ⟨f1, g1, g2⟩ := mGather ok hn hsd het hpl f
    have g2' := GA_300 ok hsd g2
    obtain ⟨g, g3⟩ := GA_FG g2'
    obtain ⟨f2, k1, k2⟩ := mFirstR ok hsd g2' g3
    have hW := mIsW ok (hm.th 0) hsd (hem.th 0) hpl
    have hmx := gmx_le M sn sb sd pl 300
    rcases k2 with ⟨r, r1, r2, r3, e⟩ | ⟨r1, e⟩
    · have hw := WH_of r2.1
      have hex : ∃ k, k < 300 ∧ gG M sn pl k = 1 := by
        obtain ⟨k, k1, k2⟩ := cg_pos.mp r2.2.1
        exact ⟨k, k1, by have := gG_le M sn pl k; omega⟩
      obtain ⟨k0, k01, k02⟩ := hex
      obtain ⟨v1, v2, v3⟩ := SDb hsd k02
      have hsm : gsm M pl 300 = 1 := (gsm_iff 300).mpr ⟨k0, k01, gB_1 v1, (gG_1 k02).2⟩
      have hm1 : 1 ≤ gmx M sn sb sd pl 300 := by
        have h1 := gmx_ge (M := M) (sn := sn) (sb := sb) (sd := sd) (p := pl) 300 k01 k02
        have h2 := gH_one (M := M) (sn := sn) (B := sb) (D := sd) (p := pl) (s := sb k0) k01 ⟨k02, Nat.le_refl _, v2⟩
        omega
      have hgood := good_of r2.2.2.1 r2.2.2.2.2
      rw [if_pos ⟨r2.1, hsm⟩] at hW
      obtain ⟨m2, b1, b2⟩ := fo41 (x2 := x2) ok hsd hpl hw 8 qFU 1 (M_thrown_s m 0) (by omega) (by unfold qFU; omega) (by omega) (hm.th 0) (hem.th 0) (fun h r a b => by omega)
      have hth : M_thrown m2 = 0 := (kp_all b1).1
      rcases b2 with ⟨h', r', w1, w2, w3, w4, w5, e2⟩ | ⟨w, -⟩
      · obtain ⟨y1, y2, y3⟩ := pos_of w4
        have eh : h' = gmx M sn sb sd pl 300 := by
          apply Classical.byContradiction
          intro z
          exact w5 _ r hm1 r1 (Or.inl (by omega)) hgood
        have er : r' = r := by
          rcases Nat.lt_trichotomy r' r with z | z | z
          · exact absurd y3 (r3 r' z)
          · exact z
          · exact absurd hgood (w5 _ r hm1 r1 (Or.inr ⟨eh.symm, z⟩))
        rw [eh, er] at e2
        have e2' : lpX5_found_41 (nI pl) x2 qFU 1 (M_thrown_s m 0) = some (Sum.inl (if x2 = 0 then nI (gmx M sn sb sd pl 300) else nI r, m2)) := e2
        have hr' : mX5_found m (nI pl) x2 = some (if x2 = 0 then nI (gmx M sn sb sd pl 300) else nI r, m2) := by
          unfold mX5_found
          rw [j2, bi_s, ti_0, bi_s, if_0, hW, bi_s, if_1, e2', bi_s, zS_l]
        have hc : mL_found q n t f o (nI pl) x2 = some (0, f2, vp_updL o (Int32.toNatClampNeg 0) (if x2 = 0 then nI (gmx M sn sb sd pl 300) else nI r).toInt64) := by
          unfold mL_found mX4_found mX0_leastHelpers
          rw [j1, bi_s, zX_r, g1, bi_s, e, bi_s]
          by_cases z : x2 = 0
          · rw [if_pos z, if_pos z]
            dsimp only
            rw [if_neg (show ¬ nI r = -1 by rw [ne_n1 (by omega)]; exact not_false), mMost hsd k1, bi_s, bi_s, Option.map_some, bi_s, zW_r, ck_01]
          · rw [if_neg z, if_neg z, bi_s, Option.map_some, bi_s, zW_r, ck_01]
        exact ⟨_, _, hc, hr', hth, fun _ => out_0 o _, M, sn, sb, sd, ok, hn, (hm.th 0).keep b1, hsd, het, (hem.th 0).keep b1, hfr⟩
      · exact absurd hgood (w _ r hm1 r2.2.2.2.1 r1)
    · have hc : mL_found q n t f o (nI pl) x2 = some (0, f2, vp_updL o (Int32.toNatClampNeg 0) (-1 : Int32).toInt64) := by
        unfold mL_found mX4_found mX0_leastHelpers
        rw [j1, bi_s, zX_r, g1, bi_s, e, bi_s]
        by_cases z : x2 = 0
        · rw [if_pos z]
          dsimp only
          rw [if_pos rfl, bi_s, Option.map_some, bi_s, zW_r, ck_01]
        · rw [if_neg z, bi_s, Option.map_some, bi_s, zW_r, ck_01]
      by_cases hww : gwh M sn sd pl 300 = 1 ∧ gsm M pl 300 = 1
      · have hw := WH_of hww.1
        rw [if_pos hww] at hW
        obtain ⟨k0, k01, k02, k03⟩ := (gsm_iff 300).mp hww.2
        have hS0 : 0 < cg (gG M sn pl) 300 := cg_pos.mpr ⟨k0, k01, by have := (hw k0 k01 (gB_v k02) k03).1; omega⟩
        obtain ⟨m2, b1, b2⟩ := fo41 (x2 := x2) ok hsd hpl hw 8 qFU 1 (M_thrown_s m 0) (by omega) (by unfold qFU; omega) (by omega) (hm.th 0) (hem.th 0) (fun h r a b => by omega)
        have hth : M_thrown m2 = 0 := (kp_all b1).1
        rcases b2 with ⟨h', r', w1, w2, w3, w4, w5, e2⟩ | ⟨w, e2⟩
        · exfalso
          obtain ⟨y1, y2, y3⟩ := pos_of w4
          exact r1 r' w3 ⟨hww.1, hS0, y2, by omega, y3⟩
        · have e2' : lpX5_found_41 (nI pl) x2 qFU 1 (M_thrown_s m 0) = some (Sum.inr m2) := e2
          have hr' : mX5_found m (nI pl) x2 = some (-1, m2) := by
            unfold mX5_found
            rw [j2, bi_s, ti_0, bi_s, if_0, hW, bi_s, if_1, e2', bi_s, zS_r]
          exact ⟨_, _, hc, hr', hth, fun _ => out_0 o _, M, sn, sb, sd, ok, hn, (hm.th 0).keep b1, hsd, het, (hem.th 0).keep b1, hfr⟩
      · rw [if_neg hww] at hW
        have hr' : mX5_found m (nI pl) x2 = some (-1, M_thrown_s m 0) := by
          unfold mX5_found
          rw [j2, bi_s, ti_0, bi_s, if_0, hW, bi_s, if_0]
          exact if_pos rfl
        exact ⟨_, _, hc, hr', rfl, fun _ => out_0 o _, M, sn, sb, sd, ok, hn, hm.th 0, hsd, het, hem.th 0, hfr⟩
  · have hc : mL_found q n t f o x1 x2 = some (1, f, o) := by
      unfold mL_found mX4_found
      rw [j1, bi_s, zX_l, bi_s, zW_l, if_pos rfl]
    have hr' : mX5_found m x1 x2 = some (0, M_thrown_s m 1) := by
      unfold mX5_found
      rw [j2, bi_s, ti_1, bi_s, if_1]
      exact if_neg (show ¬ (1 : Int32) = 0 by decide)
    exact ⟨_, _, hc, hr', rfl, fun z => absurd (show (1 : Int32) = 0 from z) (by decide), M, sn, sb, sd, ok, hn, hm, hsd, het, hem, hfr⟩
