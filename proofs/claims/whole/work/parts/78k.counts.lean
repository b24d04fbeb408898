/-! PURE: counts -/
def ov (a c f t : Nat) : Nat := (if t < c then t else c) - (if a < f then f else a)
theorem ov_le (a c f t : Nat) : ov a c f t ≤ t := by
  unfold ov
  split <;> split <;> omega
/-- what one step adds -/
def shr (a b c f t w : Nat) : Nat := if w = 0 then (if f ≤ a ∧ a < t then 1 else 0) else if w = 1 then (if f ≤ c ∧ c < t then 1 else 0) else if w = 2 then ov a c f t else ov b c f t
theorem shr_le {a b c f t w : Nat} (ht : t ≤ 10000000) : shr a b c f t w ≤ 10000000 := by
  have h1 := ov_le a c f t
  have h2 := ov_le b c f t
  unfold shr
  split
  · split <;> omega
  · split
    · split <;> omega
    · split <;> omega
theorem mTicks {a c f t : Nat} (ha : a ≤ 20000000) (hc : c ≤ 20000000) (hf : f ≤ 20000000) (ht : t ≤ 20000000) : mX4_ticksShared (nI a) (nI c) (nI f) (nI t) = some (nI (ov a c f t)) := by
  unfold mX4_ticksShared ov
  rw [mi_n (by omega) (by omega), ma_n (by omega) (by omega)]
  have hu : (if t < c then t else c) ≤ 20000000 := by split <;> omega
  have hv : (if a < f then f else a) ≤ 20000000 := by split <;> omega
  generalize (if t < c then t else c) = u at *
  generalize (if a < f then f else a) = v at *
  congr 1
  by_cases h : v ≤ u
  · rw [su_n h]
    by_cases z : u - v = 0
    · rw [z]; rfl
    · rw [if_pos (by rw [show (0 : Int32) = nI 0 from rfl, lt_n (by omega) (by omega)]; omega)]
  · rw [if_neg (by
      intro z
      rw [Int32.lt_iff_toInt_lt, pk_sub_toInt (by omega) (by omega)] at z
      have : (0 : Int32).toInt = 0 := rfl
      omega), show u - v = 0 by omega]
    rfl
theorem mShare {a b c f t w : Nat} (ha : a ≤ 20000000) (hb : b ≤ 20000000) (hc : c ≤ 20000000) (hf : f ≤ 20000000) (ht : t ≤ 20000000) (hw : w ≤ 3) : mX4_share (nI a) (nI b) (nI c) (nI f) (nI t) (nI w) = some (nI (shr a b c f t w)) := by
  unfold mX4_share shr
  rw [nI_toInt (n := w) (by omega), mTicks ha hc hf ht, mTicks hb hc hf ht, bi_s, bi_s]
  simp only [lt_n (a := a) (b := f) (by omega) (by omega), le_n (a := t) (b := a) (by omega) (by omega), lt_n (a := c) (b := f) (by omega) (by omega), le_n (a := t) (b := c) (by omega) (by omega)]
  obtain h | h | h | h : w = 0 ∨ w = 1 ∨ w = 2 ∨ w = 3 := by omega
  · subst h
    rw [if_neg (by omega), if_pos (show nI 0 = 0 from rfl), if_pos (c := (0 : Nat) = 0) rfl]
    by_cases c1 : a < f
    · rw [if_pos c1, if_neg (c := _ ∧ _) (by omega)]; rfl
    · rw [if_neg c1]
      by_cases c2 : t ≤ a
      · rw [if_pos c2, if_neg (c := _ ∧ _) (by omega)]; rfl
      · rw [if_neg c2, if_pos (c := _ ∧ _) (by omega)]; rfl
  · subst h
    rw [if_neg (by omega), if_neg (show ¬ nI 1 = 0 by decide), if_pos (show nI 1 = 1 from rfl), if_neg (c := (1 : Nat) = 0) (by omega), if_pos (c := (1 : Nat) = 1) rfl]
    by_cases c1 : c < f
    · rw [if_pos c1, if_neg (c := _ ∧ _) (by omega)]; rfl
    · rw [if_neg c1]
      by_cases c2 : t ≤ c
      · rw [if_pos c2, if_neg (c := _ ∧ _) (by omega)]; rfl
      · rw [if_neg c2, if_pos (c := _ ∧ _) (by omega)]; rfl
  · subst h
    rw [if_neg (by omega), if_neg (show ¬ nI 2 = 0 by decide), if_neg (show ¬ nI 2 = 1 by decide), if_pos (show nI 2 = 2 from rfl), if_neg (c := (2 : Nat) = 0) (by omega), if_neg (c := (2 : Nat) = 1) (by omega), if_pos (c := (2 : Nat) = 2) rfl]
  · subst h
    rw [if_pos (by omega), if_neg (c := (3 : Nat) = 0) (by omega), if_neg (c := (3 : Nat) = 1) (by omega), if_neg (c := (3 : Nat) = 2) (by omega)]
theorem mCommon {a c f t : Nat} (ha : a ≤ 20000000) (hc : c ≤ 20000000) (hf : f ≤ 20000000) (ht : t ≤ 20000000) : mX5_common (nI a) (nI c) (nI f) (nI t) = some (jI (ov a c f t : Nat)) := by
  unfold mX5_common ov
  rw [mi_n (by omega) (by omega), ma_n (by omega) (by omega)]
  have hu : (if t < c then t else c) ≤ 20000000 := by split <;> omega
  have hv : (if a < f then f else a) ≤ 20000000 := by split <;> omega
  generalize (if t < c then t else c) = u at *
  generalize (if a < f then f else a) = v at *
  rw [jI_nI (by omega), jI_nI (by omega), jI_sub, show (0 : Int64) = jI 0 from rfl]
  by_cases h : v ≤ u
  · rw [if_neg (by rw [jI_lt (by omega) (by omega) (by omega) (by omega)]; omega)]
    exact congrArg (fun z => some (jI z)) (by omega)
  · rw [if_pos (by rw [jI_lt (by omega) (by omega) (by omega) (by omega)]; omega), show u - v = 0 by omega]
    rfl
theorem tailC {a b c f t w : Nat} {x6 : Int64} {K : Int64 → Option Int64} (ha : a ≤ 20000000) (hb : b ≤ 20000000) (hc : c ≤ 20000000) (hf : f ≤ 20000000) (ht : t ≤ 20000000) (hw : w ≤ 3) :
    (if Int32.toInt (nI w) < 0 ∨ 2 < Int32.toInt (nI w) then ((mX5_common (nI b) (nI c) (nI f) (nI t)).bind fun o => K (x6 + o)) else (if nI w = 0 then (Option.bind (if nI a < nI f then (some 0) else (if nI t ≤ nI a then (some 0) else (some 1))) fun z => K (x6 + z)) else (if nI w = 1 then (Option.bind (if nI c < nI f then (some 0) else (if nI t ≤ nI c then (some 0) else (some 1))) fun z => K (x6 + z)) else (if nI w = 2 then ((mX5_common (nI a) (nI c) (nI f) (nI t)).bind fun o => K (x6 + o)) else none)))) = K (x6 + jI (shr a b c f t w : Nat)) := by
  unfold shr
  rw [nI_toInt (n := w) (by omega), mCommon ha hc hf ht, mCommon hb hc hf ht, bi_s, bi_s]
  simp only [lt_n (a := a) (b := f) (by omega) (by omega), le_n (a := t) (b := a) (by omega) (by omega), lt_n (a := c) (b := f) (by omega) (by omega), le_n (a := t) (b := c) (by omega) (by omega)]
  obtain h | h | h | h : w = 0 ∨ w = 1 ∨ w = 2 ∨ w = 3 := by omega
  · subst h
    rw [if_neg (by omega), if_pos (show nI 0 = 0 from rfl), if_pos (c := (0 : Nat) = 0) rfl]
    by_cases c1 : a < f
    · rw [if_pos c1, if_neg (c := _ ∧ _) (by omega)]; rfl
    · rw [if_neg c1]
      by_cases c2 : t ≤ a
      · rw [if_pos c2, if_neg (c := _ ∧ _) (by omega)]; rfl
      · rw [if_neg c2, if_pos (c := _ ∧ _) (by omega)]; rfl
  · subst h
    rw [if_neg (by omega), if_neg (show ¬ nI 1 = 0 by decide), if_pos (show nI 1 = 1 from rfl), if_neg (c := (1 : Nat) = 0) (by omega), if_pos (c := (1 : Nat) = 1) rfl]
    by_cases c1 : c < f
    · rw [if_pos c1, if_neg (c := _ ∧ _) (by omega)]; rfl
    · rw [if_neg c1]
      by_cases c2 : t ≤ c
      · rw [if_pos c2, if_neg (c := _ ∧ _) (by omega)]; rfl
      · rw [if_neg c2, if_pos (c := _ ∧ _) (by omega)]; rfl
  · subst h
    rw [if_neg (by omega), if_neg (show ¬ nI 2 = 0 by decide), if_neg (show ¬ nI 2 = 1 by decide), if_pos (show nI 2 = 2 from rfl), if_neg (c := (2 : Nat) = 0) (by omega), if_neg (c := (2 : Nat) = 1) (by omega), if_pos (c := (2 : Nat) = 2) rfl]
  · subst h
    rw [if_pos (by omega), if_neg (c := (3 : Nat) = 0) (by omega), if_neg (c := (3 : Nat) = 1) (by omega), if_neg (c := (3 : Nat) = 2) (by omega)]
/-- by play -/
def fcP (M : MN) (p f t w r : Nat) : Nat := if gB M r = 1 ∧ gpa M r = p then shr (ecm M 5 r) (ebg M 5 r) (edn M 5 r) f t w else 0
/-- by tracks -/
def fcT (M : MN) (sn sb sd : Nat → Nat) (p f t w r : Nat) : Nat := if gG M sn p r = 1 then (match gcm M sn sd r with
    | none => 0
    | some c => shr c (sb r) (sd r) f t w) else 0
theorem mCPC {M : MN} {n : SN} {vP : SP} (ok : gOK M) (hn : LN M n) (hp : PE M 5 vP) {p f t w : Nat} (hpl : p < gnp M) (hf : f ≤ t) (ht : t ≤ 10000000) (hw : w ≤ 3) : lpX4_countsByPlay_10 n vP (nI p) (nI f) (nI t) (nI w) qFU 0 0 = some (jI (cg (fcP M p f t w) (5 * gna M) : Nat)) := by
  have h60 := ok.2.1
  have key := lpx (F := fun k i (x : Int64) => lpX4_countsByPlay_10 n vP (nI p) (nI f) (nI t) (nI w) k x (nI i)) (G := fun x => some x) (fun i x => x = jI (cg (fcP M p f t w) i : Nat)) (5 * gna M)
    (fun k s hs => by
      show lpX4_countsByPlay_10 n vP (nI p) (nI f) (nI t) (nI w) (k + 1) s (nI (5 * gna M)) = some s
      rw [lpX4_countsByPlay_10, mEndR hn.1, bi_s, if_pos (by rw [le_n (by omega) (by omega)]; omega)])
    (fun k i s hi hs => by
      show ∃ s', s' = jI (cg (fcP M p f t w) (i + 1) : Nat) ∧ lpX4_countsByPlay_10 n vP (nI p) (nI f) (nI t) (nI w) (k + 1) s (nI i) = lpX4_countsByPlay_10 n vP (nI p) (nI f) (nI t) (nI w) k s' (nI (i + 1))
      have hi3 : i < 300 := by omega
      rw [lpX4_countsByPlay_10, mEndR hn.1, bi_s, if_neg (by rw [le_n (by omega) (by omega)]; omega), cl_n (j := i) (by omega), ad_1 i, ck_nI hi3 (by omega), ck_nI hi3 (by omega), ck_nI hi3 (by omega), ck_nI hi3 (by omega), cg]
      by_cases c : gB M i = 1 ∧ gpa M i = p
      · have hv := gB_v c.1
        obtain ⟨v1, v2, v3⟩ := hp i hv
        have hb := edn_b ok 5 hv
        have hs2 := shr_le (a := ecm M 5 i) (b := ebg M 5 i) (c := edn M 5 i) (f := f) (w := w) ht
        rw [if_pos (by rw [spP ok hn hpl hi3]; exact c), v1, v2, v3, mShare (by omega) (by omega) (by omega) (by omega) (by omega) hw, bi_s]
        refine ⟨_, ?_, rfl⟩
        rw [hs, jI_nI (by omega), jI_add, fcP, if_pos c]
        exact congrArg jI (by omega)
      · rw [if_neg (by rw [spP ok hn hpl hi3]; exact c), fcP, if_neg c]
        exact ⟨s, hs, rfl⟩)
    (5 * gna M) qFU 0 0 (by omega) (by unfold qFU; omega) rfl
  obtain ⟨s', h1, h2⟩ := key
  have h2' : lpX4_countsByPlay_10 n vP (nI p) (nI f) (nI t) (nI w) qFU 0 0 = some s' := h2
  rw [h2', h1]
theorem mCTC {M : MN} {n : SN} {vT : ST} {sn sb sd : Nat → Nat} (ok : gOK M) (hn : LN M n) (hsd : SD M sn sb sd) (het : ET sn sb sd vT) {p f t w : Nat} (hpl : p < gnp M) (hf : f ≤ t) (ht : t ≤ 10000000) (hw : w ≤ 3) : lpX4_countsByTracks_6 n vT (nI p) (nI f) (nI t) (nI w) qFU 0 0 = some (jI (cg (fcT M sn sb sd p f t w) (5 * gna M) : Nat)) := by
  have h60 := ok.2.1
  have key := lpx (F := fun k i (x : Int64) => lpX4_countsByTracks_6 n vT (nI p) (nI f) (nI t) (nI w) k x (nI i)) (G := fun x => some x) (fun i x => x = jI (cg (fcT M sn sb sd p f t w) i : Nat)) (5 * gna M)
    (fun k s hs => by
      show lpX4_countsByTracks_6 n vT (nI p) (nI f) (nI t) (nI w) (k + 1) s (nI (5 * gna M)) = some s
      rw [lpX4_countsByTracks_6, mEndR hn.1, bi_s, if_pos (by rw [le_n (by omega) (by omega)]; omega)])
    (fun k i s hi hs => by
      show ∃ s', s' = jI (cg (fcT M sn sb sd p f t w) (i + 1) : Nat) ∧ lpX4_countsByTracks_6 n vT (nI p) (nI f) (nI t) (nI w) (k + 1) s (nI i) = lpX4_countsByTracks_6 n vT (nI p) (nI f) (nI t) (nI w) k s' (nI (i + 1))
      have hi3 : i < 300 := by omega
      have ez : (if N_stepPlaces n i = nI p then ((mX3_cameOf vT n (nI i)).bind fun o44 => some o44) else (some (-1))) = some (if gG M sn p i = 1 then eo (gcm M sn sd i) else -1) := by
        rw [mCame ok hn.1 hsd het hi3, bi_s]
        by_cases g : gG M sn p i = 1
        · obtain ⟨g1, g2⟩ := gG_1 g
          rw [if_pos (by rw [spP ok hn hpl hi3]; exact ⟨gB_1 (SDb hsd g).1, g2⟩), if_pos g1, if_pos g]
        · rw [if_neg g]
          by_cases c : sn i = 1
          · rw [if_neg (by rw [spP ok hn hpl hi3]; exact fun z => g (gG_i ⟨c, z.2⟩))]
          · rw [if_neg c]
            split <;> rfl
      rw [lpX4_countsByTracks_6, mEndR hn.1, bi_s, if_neg (by rw [le_n (by omega) (by omega)]; omega), cl_n (j := i) (by omega), ad_1 i, ck_nI hi3 (by omega), ez, bi_s, cg]
      simp only [ckr (j := i) (n := 300) hi3 (by omega)]
      by_cases g : gG M sn p i = 1
      · obtain ⟨hv, h2, h3⟩ := SDb hsd g
        obtain ⟨g1, g2⟩ := gG_1 g
        rw [if_pos g, fcT, if_pos g]
        cases hc : gcm M sn sd i with
        | none =>
          rw [if_pos (show eo none = -1 from rfl)]
          exact ⟨s, hs, rfl⟩
        | some c =>
          have hb := gcm_b ok hsd hv hc
          have hs2 := shr_le (a := c) (b := sb i) (c := sd i) (f := f) (w := w) ht
          rw [if_neg (show ¬ eo (some c) = -1 by show ¬ nI c = -1; rw [ne_n1 (by omega)]; exact not_false), ((het i hi3).2 g1).1, ((het i hi3).2 g1).2, show eo (some c) = nI c from rfl, mShare (by omega) (by omega) (by omega) (by omega) (by omega) hw, bi_s]
          refine ⟨_, ?_, rfl⟩
          rw [hs, jI_nI (by omega), jI_add]
          exact congrArg jI (by dsimp only; omega)
      · rw [if_neg g, if_pos (c := (-1 : Int32) = -1) rfl, fcT, if_neg g]
        exact ⟨s, hs, rfl⟩)
    (5 * gna M) qFU 0 0 (by omega) (by unfold qFU; omega) rfl
  obtain ⟨s', h1, h2⟩ := key
  have h2' : lpX4_countsByTracks_6 n vT (nI p) (nI f) (nI t) (nI w) qFU 0 0 = some s' := h2
  rw [h2', h1]
theorem mCPM {M : MN} {m : SM} (ok : gOK M) (hr : RM M m) (hp : PM M 5 m) {p f t w : Nat} (hpl : p < gnp M) (hf : f ≤ t) (ht : t ≤ 10000000) (hw : w ≤ 3) : lpX5_counts_90 m (nI p) 0 (nI f) (nI t) (nI w) qFU 0 0 = some (jI (cg (fcP M p f t w) 300 : Nat)) := by
  have h5 := ok.1
  have key := lpx (F := fun k i (x : Int64) => lpX5_counts_90 m (nI p) 0 (nI f) (nI t) (nI w) k x (nI i)) (G := fun x => some x) (fun i x => x = jI (cg (fcP M p f t w) i : Nat)) 300
    (fun k s hs => by
      show lpX5_counts_90 m (nI p) 0 (nI f) (nI t) (nI w) (k + 1) s (nI 300) = some s
      rw [lpX5_counts_90, if_pos (by decide)])
    (fun k i s hi hs => by
      show ∃ s', s' = jI (cg (fcP M p f t w) (i + 1) : Nat) ∧ lpX5_counts_90 m (nI p) 0 (nI f) (nI t) (nI w) (k + 1) s (nI i) = lpX5_counts_90 m (nI p) 0 (nI f) (nI t) (nI w) k s' (nI (i + 1))
      rw [lpX5_counts_90, if_neg (by rw [show (300 : Int32) = nI 300 from rfl, le_n (by omega) (by omega)]; omega), mIsM ok hr hi, bi_s, cl_n (j := i) (by omega), ad_1 i, ck_nI hi (by omega), cg]
      by_cases hv : gV M i
      · have hpp := (ok.2.2.2.2 i hv).1
        rw [gB_1 hv, if_neg (c := nI 1 = 0) (by decide), (hr.2.2.2.2 i hv).1]
        by_cases c : gpa M i = p
        · obtain ⟨v1, v2, v3⟩ := hp i hv
          have hb := edn_b ok 5 hv
          rw [if_pos (by rw [c]), if_0, if_0, if_0, if_0, ck_nI hi (by omega), bi_s, ck_nI hi (by omega), bi_s, ck_nI hi (by omega), bi_s, v1, v2, v3]
          refine ⟨_, ?_, tailC (K := fun y => lpX5_counts_90 m (nI p) 0 (nI f) (nI t) (nI w) k y (nI (i + 1))) (by omega) (by omega) (by omega) (by omega) (by omega) hw⟩
          rw [hs, jI_add, fcP, if_pos ⟨gB_1 hv, c⟩]
          exact congrArg jI (by omega)
        · rw [if_neg (by rw [eq_n (by omega) (by omega)]; exact c), fcP, if_neg (fun z => c z.2)]
          exact ⟨s, hs, rfl⟩
      · rw [gB_0 hv, if_pos (c := nI 0 = 0) rfl, fcP, if_neg (fun z => hv (gB_v z.1))]
        exact ⟨s, hs, rfl⟩)
    300 qFU 0 0 (by omega) (by unfold qFU; omega) rfl
  obtain ⟨s', h1, h2⟩ := key
  have h2' : lpX5_counts_90 m (nI p) 0 (nI f) (nI t) (nI w) qFU 0 0 = some s' := h2
  rw [h2', h1]
theorem mCTM {M : MN} {m : SM} {sn sb sd : Nat → Nat} (ok : gOK M) (hr : RM M m) (hsd : SD M sn sb sd) (hem : EM sn sb sd m) {p f t w : Nat} {x2 : Int32} (hx : x2 ≠ 0) (hpl : p < gnp M) (hf : f ≤ t) (ht : t ≤ 10000000) (hw : w ≤ 3) : lpX5_counts_90 m (nI p) x2 (nI f) (nI t) (nI w) qFU 0 0 = some (jI (cg (fcT M sn sb sd p f t w) 300 : Nat)) := by
  have h5 := ok.1
  have key := lpx (F := fun k i (x : Int64) => lpX5_counts_90 m (nI p) x2 (nI f) (nI t) (nI w) k x (nI i)) (G := fun x => some x) (fun i x => x = jI (cg (fcT M sn sb sd p f t w) i : Nat)) 300
    (fun k s hs => by
      show lpX5_counts_90 m (nI p) x2 (nI f) (nI t) (nI w) (k + 1) s (nI 300) = some s
      rw [lpX5_counts_90, if_pos (by decide)])
    (fun k i s hi hs => by
      show ∃ s', s' = jI (cg (fcT M sn sb sd p f t w) (i + 1) : Nat) ∧ lpX5_counts_90 m (nI p) x2 (nI f) (nI t) (nI w) (k + 1) s (nI i) = lpX5_counts_90 m (nI p) x2 (nI f) (nI t) (nI w) k s' (nI (i + 1))
      rw [lpX5_counts_90, if_neg (by rw [show (300 : Int32) = nI 300 from rfl, le_n (by omega) (by omega)]; omega), mIsM ok hr hi, bi_s, cl_n (j := i) (by omega), ad_1 i, ck_nI hi (by omega), cg]
      by_cases hv : gV M i
      · have hpp := (ok.2.2.2.2 i hv).1
        rw [gB_1 hv, if_neg (c := nI 1 = 0) (by decide), (hr.2.2.2.2 i hv).1]
        by_cases c : gpa M i = p
        · rw [if_pos (by rw [c]), if_neg hx, ck_nI hi (by omega), (hem i hi).1]
          rcases sn01 hsd i with h | h
          · rw [h, if_pos (c := nI 0 = 0) rfl, fcT, if_neg (fun z => by have := (gG_1 z).1; omega)]
            exact ⟨s, hs, rfl⟩
          · have g := gG_i (M := M) ⟨h, c⟩
            obtain ⟨-, h2, h3⟩ := SDb hsd g
            obtain ⟨e1, e2⟩ := (hem i hi).2 h
            rw [h, if_neg (c := nI 1 = 0) (by decide), mSeenC ok hr hsd hem hv, bi_s, bi_s, if_neg hx, if_neg hx, if_neg hx, ck_nI hi (by omega), ck_nI hi (by omega), fcT, if_pos g]
            cases hc : gcm M sn sd i with
            | none =>
              rw [if_neg (show ¬ 0 ≤ eo none by decide)]
              exact ⟨s, hs, rfl⟩
            | some a =>
              have hb := gcm_b ok hsd hv hc
              rw [show eo (some a) = nI a from rfl, if_pos (show (0 : Int32) ≤ nI a by rw [le_0n (by omega)]; exact trivial), bi_s, bi_s, bi_s, e1, e2]
              refine ⟨_, ?_, tailC (K := fun y => lpX5_counts_90 m (nI p) x2 (nI f) (nI t) (nI w) k y (nI (i + 1))) (by omega) (by omega) (by omega) (by omega) (by omega) hw⟩
              rw [hs, jI_add]
              exact congrArg jI (by dsimp only; omega)
        · rw [if_neg (by rw [eq_n (by omega) (by omega)]; exact c), fcT, if_neg (fun z => c (gG_1 z).2)]
          exact ⟨s, hs, rfl⟩
      · rw [gB_0 hv, if_pos (c := nI 0 = 0) rfl, fcT, if_neg (fun z => hv (SDb hsd z).1)]
        exact ⟨s, hs, rfl⟩)
    300 qFU 0 0 (by omega) (by unfold qFU; omega) rfl
  obtain ⟨s', h1, h2⟩ := key
  have h2' : lpX5_counts_90 m (nI p) x2 (nI f) (nI t) (nI w) qFU 0 0 = some s' := h2
  rw [h2', h1]
theorem z7_1 {x3 x4 : Int32} (h : x3 < 0 ∨ x4 < x3 ∨ ¬ x4 ≤ 10000000) : (if x3 < 0 then (some (1 : Int32)) else (if x4 < x3 then (some 1) else (if x4 ≤ 10000000 then (some 0) else (some 1)))) = some 1 := by
  by_cases h1 : x3 < 0
  · rw [if_pos h1]
  · rw [if_neg h1]
    by_cases h2 : x4 < x3
    · rw [if_pos h2]
    · rw [if_neg h2, if_neg ((h.resolve_left h1).resolve_left h2)]
theorem in_0 {x lo hi : Int32} (h : mX5_in x lo hi = some 0) : x < lo ∨ hi < x := by
  unfold mX5_in at h
  by_cases h1 : x < lo
  · exact Or.inl h1
  · rw [if_neg h1] at h
    by_cases h2 : hi < x
    · exact Or.inr h2
    · rw [if_neg h2] at h
      exact absurd (Option.some.inj h) (by decide)
theorem op_counts {q : Int32} {n : SN} {t : ST} {p : SP} {m : SM} (hI : LI q n t p m) (o : qJ) (x1 x2 x3 x4 x5 : Int32) : ∃ a b, mL_counts q n t p o x1 x2 x3 x4 x5 = some a ∧ mX5_counts m x1 x2 x3 x4 x5 = some b ∧ M_thrown b.2 = a.1 ∧ (a.1 = 0 → a.2.2.2 (Int32.toNatClampNeg 0) = b.1) ∧ LI a.2.1 n t a.2.2.1 b.2 := by
  obtain ⟨M, sn, sb, sd, ok, hn, hm, hsd, het, hem, hfr⟩ := hI
  have bad : ∀ c : Int32, c ≠ 0 → mL_counts q n t p o x1 x2 x3 x4 x5 = some (c, q, p, o) → mX5_counts m x1 x2 x3 x4 x5 = some (0, M_thrown_s m c) → ∃ a b, mL_counts q n t p o x1 x2 x3 x4 x5 = some a ∧ mX5_counts m x1 x2 x3 x4 x5 = some b ∧ M_thrown b.2 = a.1 ∧ (a.1 = 0 → a.2.2.2 (Int32.toNatClampNeg 0) = b.1) ∧ LI a.2.1 n t a.2.2.1 b.2 :=
    fun c hc0 hc hr => ⟨_, _, hc, hr, rfl, fun z => absurd (show c = 0 from z) hc0, M, sn, sb, sd, ok, hn, hm, hsd, het, hem, hfr⟩
  rcases npN (q := q) (x := x1) (m := M_thrown_s m 0) ok hn.1.1 hm.1 with ⟨pl, hpl, rfl, j1, j2⟩ | ⟨j1, j2⟩
  · have bad2 : (mL_counts q n t p o (nI pl) x2 x3 x4 x5 = some (2, q, p, o)) → (x3 < 0 ∨ x4 < x3 ∨ ¬ x4 ≤ 10000000) → ∃ a b, mL_counts q n t p o (nI pl) x2 x3 x4 x5 = some a ∧ mX5_counts m (nI pl) x2 x3 x4 x5 = some b ∧ M_thrown b.2 = a.1 ∧ (a.1 = 0 → a.2.2.2 (Int32.toNatClampNeg 0) = b.1) ∧ LI a.2.1 n t a.2.2.1 b.2 := by
      intro hc h7
      refine bad 2 (by decide) hc ?_
      unfold mX5_counts
      rw [j2, bi_s, ti_0, bi_s, if_0, z7_1 h7, bi_s, ti_1, bi_s, if_1]
    rcases nwN (x := x4) (lo := 0) (hi := 10000000) (by omega) (by omega) with ⟨tt, -, t2, t3, t4, t5⟩ | ⟨t4, t5⟩
    · have e1 : mX4_needWithin x4 0 10000000 = some (Sum.inr ()) := t5
      rcases nwN (x := x3) (lo := 0) (hi := tt) (by omega) (by omega) with ⟨ff, -, f2, f3, f4, f5⟩ | ⟨f4, f5⟩
      · have e2 : mX4_needWithin x3 0 x4 = some (Sum.inr ()) := by rw [t3]; exact f5
        have ez : (if x3 < 0 then (some (1 : Int32)) else (if x4 < x3 then (some 1) else (if x4 ≤ 10000000 then (some 0) else (some 1)))) = some 0 := by
          rw [t3, f3, if_neg (by rw [lt_0n (by omega)]; exact not_false), if_neg (by rw [lt_n (by omega) (by omega)]; omega), if_pos (by rw [show (10000000 : Int32) = nI 10000000 from rfl, le_n (by omega) (by omega)]; exact t2)]
        rcases whN (x := x5) (k := 3) (by omega) with ⟨w, w1, w2, w3, w4⟩ | ⟨w3, w4⟩
        · have e3 : mX4_needWhat x5 3 = some (Sum.inr ()) := w3
          have e4 : mX5_in x5 0 3 = some 1 := w4
          by_cases hx : x2 = 0
          · obtain ⟨p', u1, u2⟩ := mRefresh ok hn.1 hfr
            obtain ⟨m', g1, g2, g3⟩ := mPlaysE ok (hm.th 0) (hx5 ok)
            have hth : M_thrown m' = 0 := (kp_all g2).1
            have hz : cg (fcP M pl ff tt w) 300 = cg (fcP M pl ff tt w) (5 * gna M) := cg_300 ok (fun r hr => by
              unfold fcP
              rw [if_neg (fun z => by have := gB_out (M := M) hr; omega)])
            have hc : mL_counts q n t p o (nI pl) x2 x3 x4 x5 = some (0, 1, p', vp_updL o (Int32.toNatClampNeg 0) (jI (cg (fcP M pl ff tt w) 300 : Nat))) := by
              unfold mL_counts mX4_counts mX4_countsByPlay
              rw [j1, bi_s, zX_r, e1, bi_s, zX_r, e2, bi_s, zX_r, e3, bi_s, zX_r, if_pos hx, u1, bi_s, t3, f3, w2]
              dsimp only
              rw [mCPC ok hn u2 hpl f2 t2 w1, bi_s, bi_s, Option.map_some, bi_s, zW_r, ck_01, hz]
            have hr' : mX5_counts m (nI pl) x2 x3 x4 x5 = some (jI (cg (fcP M pl ff tt w) 300 : Nat), m') := by
              unfold mX5_counts
              rw [j2, bi_s, ti_0, bi_s, if_0, ez, bi_s, ti_0, bi_s, if_0, e4, bi_s, if_1, bi_s, ti_0, bi_s, if_0, if_pos hx, g1, bi_s, t3, f3, w2, hx]
              dsimp only
              rw [mCPM ok ((hm.th 0).keep g2) g3 hpl f2 t2 w1, bi_s]
            exact ⟨_, _, hc, hr', hth, fun _ => out_0 o _, M, sn, sb, sd, ok, hn, (hm.th 0).keep g2, hsd, het, (hem.th 0).keep g2, Or.inr ⟨rfl, u2⟩⟩
          · have hz : cg (fcT M sn sb sd pl ff tt w) 300 = cg (fcT M sn sb sd pl ff tt w) (5 * gna M) := cg_300 ok (fun r hr => by
              unfold fcT
              rw [if_neg (fun z => by have := gG_out (p := pl) hsd hr; omega)])
            have hc : mL_counts q n t p o (nI pl) x2 x3 x4 x5 = some (0, q, p, vp_updL o (Int32.toNatClampNeg 0) (jI (cg (fcT M sn sb sd pl ff tt w) 300 : Nat))) := by
              unfold mL_counts mX4_counts mX4_countsByTracks
              rw [j1, bi_s, zX_r, e1, bi_s, zX_r, e2, bi_s, zX_r, e3, bi_s, zX_r, if_neg hx, t3, f3, w2, mCTC ok hn hsd het hpl f2 t2 w1, bi_s, bi_s, Option.map_some, bi_s, zW_r, ck_01, hz]
            have hr' : mX5_counts m (nI pl) x2 x3 x4 x5 = some (jI (cg (fcT M sn sb sd pl ff tt w) 300 : Nat), M_thrown_s m 0) := by
              unfold mX5_counts
              rw [j2, bi_s, ti_0, bi_s, if_0, ez, bi_s, ti_0, bi_s, if_0, e4, bi_s, if_1, bi_s, ti_0, bi_s, if_0, if_neg hx, t3, f3, w2, mCTM ok (hm.th 0) hsd (hem.th 0) hx hpl f2 t2 w1, bi_s]
            exact ⟨_, _, hc, hr', rfl, fun _ => out_0 o _, M, sn, sb, sd, ok, hn, hm.th 0, hsd, het, hem.th 0, hfr⟩
        · have e3 : mX4_needWhat x5 3 = _ := w3
          have e4 : mX5_in x5 0 3 = some 0 := w4
          refine bad 3 (by decide) ?_ ?_
          · unfold mL_counts mX4_counts
            rw [j1, bi_s, zX_r, e1, bi_s, zX_r, e2, bi_s, zX_r, e3, bi_s, zX_l, bi_s, zW_l, if_neg (by decide), if_neg (by decide), if_pos rfl]
          · unfold mX5_counts
            rw [j2, bi_s, ti_0, bi_s, if_0, ez, bi_s, ti_0, bi_s, if_0, e4, bi_s, if_0, bi_s, ti_1, bi_s, if_1]
      · have e2 : mX4_needWithin x3 0 x4 = some (Sum.inl "java/lang/IllegalArgumentException") := by rw [t3]; exact f5
        refine bad2 ?_ ?_
        · unfold mL_counts mX4_counts
          rw [j1, bi_s, zX_r, e1, bi_s, zX_r, e2, bi_s, zX_l, bi_s, zW_l, if_neg (by decide), if_pos rfl]
        · rcases in_0 f4 with z | z
          · exact Or.inl z
          · rw [t3]; exact Or.inr (Or.inl z)
    · have e1 : mX4_needWithin x4 0 10000000 = some (Sum.inl "java/lang/IllegalArgumentException") := t5
      refine bad2 ?_ ?_
      · unfold mL_counts mX4_counts
        rw [j1, bi_s, zX_r, e1, bi_s, zX_l, bi_s, zW_l, if_neg (by decide), if_pos rfl]
      · by_cases z : x3 < 0
        · exact Or.inl z
        · by_cases y : x4 < x3
          · exact Or.inr (Or.inl y)
          · right; right
            rcases in_0 t4 with v | v
            · exfalso
              have v' : x4 < 0 := v
              rw [Int32.lt_iff_toInt_lt] at z y v'
              omega
            · exact Int32.not_le.mpr v
  · refine bad 1 (by decide) ?_ ?_
    · unfold mL_counts mX4_counts
      rw [j1, bi_s, zX_l, bi_s, zW_l, if_pos rfl]
    · unfold mX5_counts
      rw [j2, bi_s, ti_1, bi_s, if_1]
