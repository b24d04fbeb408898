/-! PURE: the class's play, part d: whom to help next, who is begun with at a place -/
def jI (z : Int) : Int64 := Int64.ofInt z
theorem jI_t {z : Int} (h1 : -9000000000000000000 ≤ z) (h2 : z ≤ 9000000000000000000) : (jI z).toInt = z := by
  unfold jI
  exact Int64.toInt_ofInt_of_le (by omega) (by omega)
theorem jI_le {a b : Int} (h1 : -9000000000000000000 ≤ a) (h2 : a ≤ 9000000000000000000) (h3 : -9000000000000000000 ≤ b) (h4 : b ≤ 9000000000000000000) : (jI a ≤ jI b) = (a ≤ b) := by
  rw [Int64.le_iff_toInt_le, jI_t h1 h2, jI_t h3 h4]
theorem jI_lt {a b : Int} (h1 : -9000000000000000000 ≤ a) (h2 : a ≤ 9000000000000000000) (h3 : -9000000000000000000 ≤ b) (h4 : b ≤ 9000000000000000000) : (jI a < jI b) = (a < b) := by
  rw [Int64.lt_iff_toInt_lt, jI_t h1 h2, jI_t h3 h4]
theorem jI_eq {a b : Int} (h1 : -9000000000000000000 ≤ a) (h2 : a ≤ 9000000000000000000) (h3 : -9000000000000000000 ≤ b) (h4 : b ≤ 9000000000000000000) : (jI a = jI b) = (a = b) := by
  apply propext
  constructor
  · intro h
    have := congrArg Int64.toInt h
    rw [jI_t h1 h2, jI_t h3 h4] at this
    exact this
  · intro h; rw [h]
theorem jI_nI {n : Nat} (h : n < 2000000001) : (nI n).toInt64 = jI n := by
  rw [nI_l (by omega)]
  unfold lN jI
  exact (Int64.ofInt_eq_ofNat).symm
theorem jI_add (a b : Int) : jI a + jI b = jI (a + b) := (Int64.ofInt_add a b).symm
theorem jI_sub (a b : Int) : jI a - jI b = jI (a - b) := (Int64.ofInt_sub a b).symm
theorem jI_mul (a b : Int) : jI a * jI b = jI (a * b) := (Int64.ofInt_mul a b).symm
theorem jI_neg (a : Int) : -(jI a) = jI (-a) := (Int64.ofInt_neg a).symm
theorem cmp_ge {a b : Int} (h1 : -9000000000000000000 ≤ a) (h2 : a ≤ 9000000000000000000) (h3 : -9000000000000000000 ≤ b) (h4 : b ≤ 9000000000000000000) : ((0 : Int32) ≤ lg_cmp (jI a) (jI b)) = (b ≤ a) := by
  rw [← jI_le h3 h4 h1 h2]
  exact propext (lg_cmp_ge _ _)
def qrk (r c w k : Nat) : Int := if r = 1 then -(c : Int) else if r = 2 then (w : Int) * 1000000000 + c else if r = 3 then (k : Int) * 1000000000 + c else (c : Int)
theorem srk_q (M : MN) (S : PS) (p a : Nat) : srk M S p a = qrk (gru M p) (scm S (scu S a)) (gwo M (scu S a)) (gki M a) := rfl
theorem qrk_b {r c w k : Nat} (hc : c ≤ 1000000000) (hw : w ≤ 20000000) (hk : k ≤ 3) : -9000000000000000000 ≤ qrk r c w k ∧ qrk r c w k ≤ 9000000000000000000 := by
  unfold qrk
  split
  · omega
  · split
    · omega
    · split <;> omega
theorem mRank {r c w k : Nat} (hr : r ≤ 3) (hc : c ≤ 1000000000) (hw : w ≤ 20000000) (hk : k ≤ 3) : mX4_rank (nI r) (nI c) (nI w) (nI k) = some (jI (qrk r c w k)) := by
  unfold mX4_rank
  rw [nI_toInt (by omega), jI_nI (by omega), jI_nI (by omega), jI_nI (by omega), show (1000000000 : Int64) = jI 1000000000 from rfl, jI_mul, jI_mul, jI_add, jI_add, jI_neg]
  unfold qrk
  obtain h | h | h | h : r = 0 ∨ r = 1 ∨ r = 2 ∨ r = 3 := by omega
  · subst h
    rw [if_pos (by omega)]
    rfl
  · subst h
    rw [if_neg (by omega)]
    rfl
  · subst h
    rw [if_neg (by omega)]
    rfl
  · subst h
    rw [if_neg (by omega)]
    rfl
def eo : Option Nat → Int32
  | none => -1
  | some b => nI b
theorem spk_some {M : MN} {S : PS} {p : Nat} : ∀ {n b : Nat}, spk M S p n = some b → b < n ∧ sph S b = 1 ∧ gpa M (scu S b) = p
  | 0, b, h => by rw [spk] at h; exact absurd h (by intro z; cases z)
  | n + 1, b, h => by
    rw [spk] at h
    split at h
    · rename_i hc
      split at h
      · cases h
        exact ⟨by omega, hc⟩
      · rename_i b' hb'
        have ih := spk_some hb'
        split at h
        · cases h
          exact ⟨by omega, hc⟩
        · cases h
          exact ⟨by omega, ih.2⟩
    · have ih := spk_some h
      exact ⟨by omega, ih.2⟩
theorem spk_none {M : MN} {S : PS} {p : Nat} : ∀ {n : Nat}, spk M S p n = none ↔ swc M S p n = 0
  | 0 => by rw [spk, swc]; exact ⟨fun _ => rfl, fun _ => rfl⟩
  | n + 1 => by
    have ih := spk_none (M := M) (S := S) (p := p) (n := n)
    rw [spk, swc]
    by_cases hc : sph S n = 1 ∧ gpa M (scu S n) = p
    · rw [if_pos hc, if_pos hc]
      constructor
      · intro h
        split at h
        · cases h
        · split at h <;> cases h
      · intro h; omega
    · rw [if_neg hc, if_neg hc, ih]
      omega
theorem SI.rkb {M : MN} {w : Nat} {S : PS} {B : Nat} (ok : gOK M) (hs : SI M w S B) (hB : B ≤ 1000000000) {p a : Nat} (ha : a < gna M) (h1 : sph S a = 1) : -9000000000000000000 ≤ srk M S p a ∧ srk M S p a ≤ 9000000000000000000 := by
  rw [srk_q]
  obtain ⟨hv, -, -⟩ := hs.row ok ha
  have h5 := (hs.1 a ha).2.2.2.2.1 (by omega)
  exact qrk_b (by omega) (by have := (ok.2.2.2.2 _ hv).2.2; omega) (ok.2.2.2.1 a ha).1
theorem fw_loop {M : MN} {w : Nat} {n : SN} {S : PS} {vP : SP} {B p : Nat} (ok : gOK M) (hn : RN M n) (hs : SI M w S B) (hB : B ≤ 1000000000) (hc : EC M w S vP) (hp : p < gnp M) :
    ∀ (d i k : Nat) (x : Int64), i + d = gna M → d < k → (∀ b, spk M S p i = some b → x = jI (srk M S p b)) → lpX2_firstWaiting_8 vP n (nI p) k (eo (spk M S p i)) x (nI i) = some (eo (spk M S p (gna M))) := by
  have h60 := ok.2.1
  have h5 := ok.1
  intro d
  induction d with
  | zero =>
    intro i k x hi hk hx
    obtain ⟨k, rfl⟩ : ∃ j, k = j + 1 := ⟨k - 1, by omega⟩
    rw [lpX2_firstWaiting_8, hn.2.1, if_pos (by rw [le_n (by omega) (by omega)]; omega), show i = gna M by omega]
  | succ d ih =>
    intro i k x hi hk hx
    obtain ⟨k, rfl⟩ : ∃ j, k = j + 1 := ⟨k - 1, by omega⟩
    have hi2 : i < gna M := by omega
    obtain ⟨hv, hdiv, h300⟩ := hs.row ok hi2
    have hpl := (ok.2.2.2.2 _ hv).1
    have hwo := (ok.2.2.2.2 _ hv).2.2
    have g3 := (hs.1 i hi2).2.2.1
    have ihh := fun x => ih (i + 1) k x (by omega) (by omega)
    rw [lpX2_firstWaiting_8, hn.2.1, if_neg (by rw [le_n (by omega) (by omega)]; omega), ck_nI (by omega) (by omega), ck_nI (by omega) (by omega), cl_n (j := i) (by omega), (hc.1 i hi2).1, (hc.1 i hi2).2.1, cl_n (j := scu S i) (by omega), (hn.2.2.2.2 _ hv).1, (hn.2.2.2.2 _ hv).2, cl_n (j := p) (by omega), (hn.2.2.1 p hp).2.1, (hn.2.2.2.1 i hi2).1, ad_1]
    rw [ck_nI (j := scu S i) (by omega) (by omega), ck_nI (j := scu S i) (by omega) (by omega), ck_nI (j := scu S i) (by omega) (by omega), ck_nI (j := p) (by omega) (by omega), ck_nI (j := i) (by omega) (by omega)]
    rw [spk] at ihh
    by_cases h1 : sph S i = 1
    · rw [if_pos (by rw [show (1 : Int32) = nI 1 from rfl, eq_n (by omega) (by omega)]; exact h1)]
      by_cases h2 : gpa M (scu S i) = p
      · rw [if_pos (by rw [eq_n (by omega) (by omega)]; exact h2)]
        rw [if_pos ⟨h1, h2⟩] at ihh
        have hcb := (hs.1 i hi2).2.2.2.2.1 (by omega)
        rw [(hc.2.2 _ hv).1 (Or.inr (by rw [hdiv]; exact ⟨rfl, by omega⟩)), mRank (ok.2.2.1 p hp).2.2.1 (by omega) (by omega) (ok.2.2.2.1 i hi2).1, bi_s, ← srk_q]
        cases hsp : spk M S p i with
        | none =>
          rw [hsp] at ihh
          rw [if_pos (show eo none = -1 from rfl)]
          exact ihh _ (fun b hb => by cases hb; rfl)
        | some b =>
          rw [hsp] at ihh
          have hb := spk_some hsp
          have hbb := hs.rkb ok hB (p := p) (a := b) (by omega) hb.2.1
          have hib := hs.rkb ok hB (p := p) hi2 h1
          rw [hx b hsp]
          rw [if_neg (by show ¬ nI b = -1; rw [ne_n1 (by omega)]; exact not_false)]
          dsimp only at ihh
          by_cases hlt : srk M S p i < srk M S p b
          · rw [if_neg (by rw [cmp_ge hib.1 hib.2 hbb.1 hbb.2]; omega)]
            rw [if_pos hlt] at ihh
            exact ihh _ (fun b hb => by cases hb; rfl)
          · rw [if_pos (by rw [cmp_ge hib.1 hib.2 hbb.1 hbb.2]; omega)]
            rw [if_neg hlt] at ihh
            exact ihh _ (fun b' hb' => by cases hb'; rfl)
      · rw [if_neg (by rw [eq_n (by omega) (by omega)]; exact h2)]
        rw [if_neg (fun z => h2 z.2)] at ihh
        exact ihh x hx
    · rw [if_neg (by rw [show (1 : Int32) = nI 1 from rfl, eq_n (by omega) (by omega)]; exact h1)]
      rw [if_neg (fun z => h1 z.1)] at ihh
      exact ihh x hx
theorem mFw {M : MN} {w : Nat} {n : SN} {S : PS} {vP : SP} {B p : Nat} (ok : gOK M) (hn : RN M n) (hs : SI M w S B) (hB : B ≤ 1000000000) (hc : EC M w S vP) (hp : p < gnp M) : mX2_firstWaiting vP n (nI p) = some (eo (spk M S p (gna M))) := by
  unfold mX2_firstWaiting
  have := fw_loop ok hn hs hB hc hp (gna M) 0 qFU 0 (by omega) (by have := ok.2.1; unfold qFU; omega) (fun b hb => by cases hb)
  rw [show (-1 : Int32) = eo (spk M S p 0) from rfl, show (0 : Int32) = nI 0 from rfl, this, bi_s]
