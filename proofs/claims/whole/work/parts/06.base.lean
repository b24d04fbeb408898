/-! OWN BASE: states of the blocks, contracts in one form, the frame by permutations, mirrors' words -/
abbrev qA : Type := Nat → Int32
abbrev qJ : Type := Nat → Int64
abbrev qE : Type := va_G × ClassId × ClassId × ClassId
def qFU : Nat := 4000
def qK (E : qE) (U : State) : Prop := va_K E.1 vwCl [(E.2.1, .int), (E.2.2.1, .long), (E.2.2.2, .boolean)] U ∧ va_Nw (.methodLinkNest RX0 88 yX4_rank "QueueReader") U ∧ va_Nw (.methodLinkNest RX2 108 yX4_rank "QueueReader") U
theorem qK.warm {E : qE} {s U : State} (hW : s.WarmedH U.vm) (h : qK E s) : qK E U := ⟨va_K.moved hW.alike h.1, va_Nw.warmM hW h.2.1, va_Nw.warmM hW h.2.2⟩
def qPre (E : qE) (sz : Nat) (ws : va_W) : State → Prop := fun U => U.heap.size = sz ∧ va_P E.1 vwCl ws U.heap ∧ qK E U ∧ va_D (fun _ => True) ws
def qPost (E : qE) (sz : Nat) (ws ws' : va_W) : Unit → State → Prop := fun _ t => va_P E.1 vwCl ws' t.heap ∧ va_D (va_A ws sz) ws'
theorem q_blind {E : qE} {sz : Nat} {ws : va_W} {av : List Value} : FrameBlind (va_Pc av (qPre E sz ws)) := by
  intro a U g mk q
  obtain ⟨q0, q1, qP, ⟨k1, k2, k3⟩, qD⟩ := q
  exact ⟨q0, q1, qP, ⟨va_K.moved (u := U) (U := U.calling g mk a) (Vm.Alike.refl U.vm) k1, va_Nw.same (u := U) (U := U.calling g mk a) rfl rfl k2, va_Nw.same (u := U) (U := U.calling g mk a) rfl rfl k3⟩, qD⟩
/-- contracts: of an int, a long, nothing; no cell is made -/
def MI (l : Launch) (E : qE) (y : MethodName) (wl : List Cond) (rm : Room) (av : List Value) (ws ws' : va_W) (r : Int32) : Prop := ∀ sz : Nat, Met l y wl rm (va_Pc av (qPre E sz ws)) (va_Qi (fun (r' : Int32) (_ : Unit) => r' = r) (qPost E sz ws ws') (va_A ws sz)) 0 0 (va_A ws sz)
def ML (l : Launch) (E : qE) (y : MethodName) (wl : List Cond) (rm : Room) (av : List Value) (ws ws' : va_W) (r : Int64) : Prop := ∀ sz : Nat, Met l y wl rm (va_Pc av (qPre E sz ws)) (va_Ql (fun (r' : Int64) (_ : Unit) => r' = r) (qPost E sz ws ws') (va_A ws sz)) 0 0 (va_A ws sz)
def MV (l : Launch) (E : qE) (y : MethodName) (wl : List Cond) (rm : Room) (av : List Value) (ws ws' : va_W) : Prop := ∀ sz : Nat, Met l y wl rm (va_Pc av (qPre E sz ws)) (va_Qv (fun (_ : Unit) => True) (qPost E sz ws ws') (va_A ws sz)) 0 0 (va_A ws sz)
/-- worlds up to order -/
theorem q_Pm {D : va_G} {cl : List vw_C} {w w' : va_W} {H : Heap} (h : w.Perm w') (hP : va_P D cl w H) : va_P D cl w' H := by
  intro k q hk
  obtain ⟨i, hi⟩ := List.getElem?_of_mem (h.mem_iff.mpr (List.mem_of_getElem? hk))
  exact hP i q hi
theorem q_Dn {A : Nat → Prop} {w : va_W} (hD : va_D A w) : (w.map (fun q => q.1)).Nodup := by
  unfold List.Nodup
  rw [List.pairwise_iff_getElem]
  intro i j hi hj hij he
  rw [List.length_map] at hi hj
  simp only [List.getElem_map] at he
  have := hD.1 i j w[i] w[j] (List.getElem?_eq_getElem hi) (List.getElem?_eq_getElem hj) he
  omega
theorem q_Dm {A : Nat → Prop} {w w' : va_W} (h : w.Perm w') (hD : va_D A w) : va_D A w' := by
  have hn : (w'.map (fun q => q.1)).Nodup := (h.map (fun q => q.1)).nodup_iff.mp (q_Dn hD)
  refine ⟨fun i j p q hi hj e => ?_, fun k q hk => ?_⟩
  · unfold List.Nodup at hn
    rw [List.pairwise_iff_getElem] at hn
    obtain ⟨li, ei⟩ := List.getElem?_eq_some_iff.mp hi
    obtain ⟨lj, ej⟩ := List.getElem?_eq_some_iff.mp hj
    rcases Nat.lt_trichotomy i j with h1 | h1 | h1
    · have h2 := hn i j (by rw [List.length_map]; exact li) (by rw [List.length_map]; exact lj) h1
      simp only [List.getElem_map, ei, ej] at h2
      exact absurd e h2
    · exact h1
    · have h2 := hn j i (by rw [List.length_map]; exact lj) (by rw [List.length_map]; exact li) h1
      simp only [List.getElem_map, ei, ej] at h2
      exact absurd e.symm h2
  · obtain ⟨i, hi⟩ := List.getElem?_of_mem (h.mem_iff.mpr (List.mem_of_getElem? hk))
    exact hD.2 i q hi
theorem q_join {A : Nat → Prop} {D : va_G} {cl : List vw_C} {wc wr w1 : va_W} {H H1 : Heap} (hP : va_P D cl (wc ++ wr) H) (hD : va_D A (wc ++ wr))
    (hk : ∀ q : Nat, q < H.size → ¬ va_A wc H.size q → H1[q]? = H[q]?) (hF : ∀ q, va_A wc H.size q → A q) (hP1 : va_P D cl w1 H1) (hD1 : va_D (va_A wc H.size) w1) : va_P D cl (w1 ++ wr) H1 ∧ va_D A (w1 ++ wr) := by
  have at2 : ∀ (k : Nat) (q : Nat × va_E), wr[k]? = some q → (wc ++ wr)[wc.length + k]? = some q := fun k q hq => by
    rw [List.getElem?_append_right (by omega)]
    rw [show wc.length + k - wc.length = k by omega]; exact hq
  have at1 : ∀ (k : Nat) (q : Nat × va_E), wc[k]? = some q → (wc ++ wr)[k]? = some q := fun k q hq => by
    rw [List.getElem?_append_left (List.getElem?_eq_some_iff.mp hq).1]; exact hq
  have apart : ∀ (k : Nat) (q : Nat × va_E), wr[k]? = some q → q.1 < H.size ∧ ¬ va_A wc H.size q.1 := by
    intro k q hq
    have hl := (hP _ q (at2 k q hq)).lt
    refine ⟨hl, fun h => ?_⟩
    rcases h with ⟨k2, e, h⟩ | h
    · have := hD.1 _ _ _ _ (at1 _ _ h) (at2 _ _ hq) rfl
      have h9 := (List.getElem?_eq_some_iff.mp h).1
      omega
    · omega
  refine ⟨va_P.app hP1 (fun k q hq => (hP _ q (at2 k q hq)).kept (hk q.1 (apart k q hq).1 (apart k q hq).2)), va_D.app (hD1.weaken (fun k q _ h => hF q.1 h)) ⟨fun i j p q hi hj e => ?_, fun k q hq => hD.2 _ q (at2 k q hq)⟩ (fun i j x y hx hy hxy => ?_)⟩
  · have := hD.1 _ _ _ _ (at2 _ _ hi) (at2 _ _ hj) e
    omega
  · exact (apart j y hy).2 (by rw [← hxy]; exact hD1.2 i x hx)
theorem q_free {A : Nat → Prop} {wc wr : va_W} {H0 H : Heap} {locs : List Loc} (hD : va_D A (wc ++ wr)) (hS : va_S A H0 H locs) (hA : ∀ q, H0.size ≤ q → A q) : ∀ q, va_A wc H.size q → A q := by
  intro q h
  rcases h with ⟨k, e, h⟩ | h
  · exact hD.2 k (q, e) (by rw [List.getElem?_append_left (List.getElem?_eq_some_iff.mp h).1]; exact h)
  · exact hA q (Nat.le_trans hS.1 h)
theorem q_idl {w : va_W} : w.Perm (w ++ []) := by rw [List.append_nil]
theorem q_idr {w : va_W} : (w ++ []).Perm w := by rw [List.append_nil]
theorem q_nil {w : va_W} : w.Perm ([] ++ w) := List.Perm.refl _
section QC
variable {p : Program} {l : Launch} {e : Env} {R : Room} {s : State} {m : MethodId} {args : Array Value} {below : List Frame} {meth : Method} {c : Code} {H : Heap} {locs : List Loc} {cells slots : Nat} {Q : State → Prop}
variable {E : qE} {pc : Nat} {ls : Array Slot} {rest st0 : List Value} {av : Array Value} {A : Nat → Prop} {H0 : Heap} {w0 wc wc' wr w1 : va_W}
theorem q_preV {C : String} {T : u_T} {N : Nat} {b : Addr} {As : List Value} {fs : List Value} (hK : qK E s) (hP : va_P E.1 vwCl w0 H) (hD : va_D A w0) (pm : w0.Perm (wc ++ wr)) (ci q0 : Nat) (hc : vwCl[ci]? = some (C, T, N)) (he : w0[q0]? = some (b, .inr (ci, fs))) : PreV s H C b (va_Pc (.ref b :: As) (qPre E H.size wc)) As :=
  ⟨q_blind, va_recv hK.1 hP hc he, fun U hU hW => ⟨rfl, by rw [hU], by
    rw [hU]
    exact fun k q hk => q_Pm pm hP k q (by rw [List.getElem?_append_left (List.getElem?_eq_some_iff.mp hk).1]; exact hk), qK.warm hW hK, by
    have h9 := q_Dm pm hD
    exact ⟨fun i j x y hi hj e => h9.1 i j x y (by rw [List.getElem?_append_left (List.getElem?_eq_some_iff.mp hi).1]; exact hi) (by rw [List.getElem?_append_left (List.getElem?_eq_some_iff.mp hj).1]; exact hj) e, fun _ _ _ => trivial⟩⟩⟩
theorem q_preS {As : List Value} (hK : qK E s) (hP : va_P E.1 vwCl w0 H) (hD : va_D A w0) (pm : w0.Perm (wc ++ wr)) : PreS s H (va_Pc As (qPre E H.size wc)) As :=
  ⟨q_blind, fun U hU hW => ⟨rfl, by rw [hU], by
    rw [hU]
    exact fun k q hk => q_Pm pm hP k q (by rw [List.getElem?_append_left (List.getElem?_eq_some_iff.mp hk).1]; exact hk), qK.warm hW hK, by
    have h9 := q_Dm pm hD
    exact ⟨fun i j x y hi hj e => h9.1 i j x y (by rw [List.getElem?_append_left (List.getElem?_eq_some_iff.mp hi).1]; exact hi) (by rw [List.getElem?_append_left (List.getElem?_eq_some_iff.mp hj).1]; exact hj) e, fun _ _ _ => trivial⟩⟩⟩
theorem q_ci {r : Int32} (hr : va_Run p l e R s m args below meth c H locs cells slots 0 0 (F0 m pc ls st0) rest (va_Qi (fun (r' : Int32) (_ : Unit) => r' = r) (qPost E H.size wc wc') (va_A wc H.size) av) (va_A wc H.size)) (hP : va_P E.1 vwCl w0 H) (hD : va_D A w0) (hS : va_S A H0 H locs) (hA : ∀ q, H0.size ≤ q → A q) (p1 : w0.Perm (wc ++ wr)) (p2 : (wc' ++ wr).Perm w1)
    (kk : ∀ (H1 : Heap) (locs1 : List Loc), va_P E.1 vwCl w1 H1 → va_D A w1 → va_S A H0 H1 locs1 → W p l e R s m args below meth c H1 locs1 cells slots Q (F0 m (pc + 3) ls (.int r :: rest))) : W p l e R s m args below meth c H locs cells slots Q (F0 m pc ls st0) := by
  have hF := q_free (q_Dm p1 hD) hS hA
  refine va_calli hr hS (fun q _ h => hF q h) hF (fun r' u t H1 locs1 ht _ e hB _ hk hS1 => ?_)
  subst e
  obtain ⟨hP1, hD1⟩ := hB
  rw [ht] at hP1
  obtain ⟨g1, g2⟩ := q_join (q_Pm p1 hP) (q_Dm p1 hD) hk hF hP1 hD1
  exact kk H1 locs1 (q_Pm p2 g1) (q_Dm p2 g2) hS1
theorem q_cl {r : Int64} (hr : va_Run p l e R s m args below meth c H locs cells slots 0 0 (F0 m pc ls st0) rest (va_Ql (fun (r' : Int64) (_ : Unit) => r' = r) (qPost E H.size wc wc') (va_A wc H.size) av) (va_A wc H.size)) (hP : va_P E.1 vwCl w0 H) (hD : va_D A w0) (hS : va_S A H0 H locs) (hA : ∀ q, H0.size ≤ q → A q) (p1 : w0.Perm (wc ++ wr)) (p2 : (wc' ++ wr).Perm w1)
    (kk : ∀ (H1 : Heap) (locs1 : List Loc), va_P E.1 vwCl w1 H1 → va_D A w1 → va_S A H0 H1 locs1 → W p l e R s m args below meth c H1 locs1 cells slots Q (F0 m (pc + 3) ls (.long r :: rest))) : W p l e R s m args below meth c H locs cells slots Q (F0 m pc ls st0) := by
  have hF := q_free (q_Dm p1 hD) hS hA
  refine va_calll hr hS (fun q _ h => hF q h) hF (fun r' u t H1 locs1 ht _ e hB _ hk hS1 => ?_)
  subst e
  obtain ⟨hP1, hD1⟩ := hB
  rw [ht] at hP1
  obtain ⟨g1, g2⟩ := q_join (q_Pm p1 hP) (q_Dm p1 hD) hk hF hP1 hD1
  exact kk H1 locs1 (q_Pm p2 g1) (q_Dm p2 g2) hS1
theorem q_cv (hr : va_Run p l e R s m args below meth c H locs cells slots 0 0 (F0 m pc ls st0) rest (va_Qv (fun (_ : Unit) => True) (qPost E H.size wc wc') (va_A wc H.size) av) (va_A wc H.size)) (hP : va_P E.1 vwCl w0 H) (hD : va_D A w0) (hS : va_S A H0 H locs) (hA : ∀ q, H0.size ≤ q → A q) (p1 : w0.Perm (wc ++ wr)) (p2 : (wc' ++ wr).Perm w1)
    (kk : ∀ (H1 : Heap) (locs1 : List Loc), va_P E.1 vwCl w1 H1 → va_D A w1 → va_S A H0 H1 locs1 → W p l e R s m args below meth c H1 locs1 cells slots Q (F0 m (pc + 3) ls rest)) : W p l e R s m args below meth c H locs cells slots Q (F0 m pc ls st0) := by
  have hF := q_free (q_Dm p1 hD) hS hA
  refine va_callv hr hS (fun q _ h => hF q h) hF (fun u t H1 locs1 ht _ _ hB _ hk hS1 => ?_)
  obtain ⟨hP1, hD1⟩ := hB
  rw [ht] at hP1
  obtain ⟨g1, g2⟩ := q_join (q_Pm p1 hP) (q_Dm p1 hD) hk hF hP1 hD1
  exact kk H1 locs1 (q_Pm p2 g1) (q_Dm p2 g2) hS1
end QC
/-- the mirrors' words -/
def ck {α : Type} (i : Int32) (n : Nat) (k : Option α) : Option α := if i < 0 ∨ n ≤ i.toNatClampNeg then none else k
def ckz {α : Type} (x : Int32) (k : Option α) : Option α := if x = 0 ∨ x = 1 then k else none
def qS {ρ ε α : Type} (o : Sum ρ ε) (f : ρ → α) (k : ε → Option α) : Option α := match o with
  | .inl r => some (f r)
  | .inr v => k v
theorem q_ck {α : Type} {i : Int32} {n : Nat} {k : Option α} {o : α} (h : ck i n k = some o) : vp_in i n ∧ k = some o := by
  unfold ck at h
  by_cases c : i < 0 ∨ n ≤ i.toNatClampNeg
  · rw [if_pos c] at h; cases h
  · rw [if_neg c] at h; exact ⟨c, h⟩
theorem q_ckf {α : Type} {x : Int32} {k : Option α} {o : α} (h : ckz x k = some o) : (narrow .boolean (.int x) = .int x ∧ fits .boolean (.int x) = true) ∧ k = some o := by
  unfold ckz at h
  by_cases c : x = 0 ∨ x = 1
  · rw [if_pos c] at h
    refine ⟨?_, h⟩
    rcases c with rfl | rfl
    · exact ⟨by decide, by decide⟩
    · exact ⟨by decide, by decide⟩
  · rw [if_neg c] at h; cases h
theorem q_ckz {α : Type} {x : Int32} {k : Option α} {o : α} (h : ckz x k = some o) : narrow .boolean (.int x) = .int x ∧ k = some o := ⟨(q_ckf h).1.1, (q_ckf h).2⟩
theorem q_pos {α : Type} {c : Prop} {d : Decidable c} {a b : Option α} {o : α} (hc : c) (h : @ite (Option α) c d a b = some o) : a = some o := by rw [if_pos hc] at h; exact h
theorem q_neg {α : Type} {c : Prop} {d : Decidable c} {a b : Option α} {o : α} (hc : ¬ c) (h : @ite (Option α) c d a b = some o) : b = some o := by rw [if_neg hc] at h; exact h
theorem q_bind {α β : Type} {x : Option α} {f : α → Option β} {o : β} (h : x.bind f = some o) : ∃ y, x = some y ∧ f y = some o := by
  cases x with
  | none => cases h
  | some y => exact ⟨y, rfl, h⟩
theorem q_inj {α : Type} {x o : α} (h : some x = some o) : o = x := (Option.some.inj h).symm
theorem q_n0 : narrow .boolean (.int (0 : Int32)) = .int 0 := by decide
theorem q_n1 : narrow .boolean (.int (1 : Int32)) = .int 1 := by decide
abbrev SN : Type := Int32 × Int32 × Int32 × qA × qA × qA × qA × qA × qA × qA × qA
abbrev N_places (x : SN) : Int32 := x.1
abbrev N_asks (x : SN) : Int32 := x.2.1
abbrev N_steps (x : SN) : Int32 := x.2.2.1
abbrev N_helpers (x : SN) : qA := x.2.2.2.1
abbrev N_rules (x : SN) : qA := x.2.2.2.2.1
abbrev N_delays (x : SN) : qA := x.2.2.2.2.2.1
abbrev N_kinds (x : SN) : qA := x.2.2.2.2.2.2.1
abbrev N_starts (x : SN) : qA := x.2.2.2.2.2.2.2.1
abbrev N_lengths (x : SN) : qA := x.2.2.2.2.2.2.2.2.1
abbrev N_stepPlaces (x : SN) : qA := x.2.2.2.2.2.2.2.2.2.1
abbrev N_stepWorks (x : SN) : qA := x.2.2.2.2.2.2.2.2.2.2
abbrev N_places_s (x : SN) (v : Int32) : SN := (v, x.2)
abbrev N_asks_s (x : SN) (v : Int32) : SN := (x.1, v, x.2.2)
abbrev N_steps_s (x : SN) (v : Int32) : SN := (x.1, x.2.1, v, x.2.2.2)
abbrev N_helpers_s (x : SN) (v : qA) : SN := (x.1, x.2.1, x.2.2.1, v, x.2.2.2.2)
abbrev N_rules_s (x : SN) (v : qA) : SN := (x.1, x.2.1, x.2.2.1, x.2.2.2.1, v, x.2.2.2.2.2)
abbrev N_delays_s (x : SN) (v : qA) : SN := (x.1, x.2.1, x.2.2.1, x.2.2.2.1, x.2.2.2.2.1, v, x.2.2.2.2.2.2)
abbrev N_kinds_s (x : SN) (v : qA) : SN := (x.1, x.2.1, x.2.2.1, x.2.2.2.1, x.2.2.2.2.1, x.2.2.2.2.2.1, v, x.2.2.2.2.2.2.2)
abbrev N_starts_s (x : SN) (v : qA) : SN := (x.1, x.2.1, x.2.2.1, x.2.2.2.1, x.2.2.2.2.1, x.2.2.2.2.2.1, x.2.2.2.2.2.2.1, v, x.2.2.2.2.2.2.2.2)
abbrev N_lengths_s (x : SN) (v : qA) : SN := (x.1, x.2.1, x.2.2.1, x.2.2.2.1, x.2.2.2.2.1, x.2.2.2.2.2.1, x.2.2.2.2.2.2.1, x.2.2.2.2.2.2.2.1, v, x.2.2.2.2.2.2.2.2.2)
abbrev N_stepPlaces_s (x : SN) (v : qA) : SN := (x.1, x.2.1, x.2.2.1, x.2.2.2.1, x.2.2.2.2.1, x.2.2.2.2.2.1, x.2.2.2.2.2.2.1, x.2.2.2.2.2.2.2.1, x.2.2.2.2.2.2.2.2.1, v, x.2.2.2.2.2.2.2.2.2.2)
abbrev N_stepWorks_s (x : SN) (v : qA) : SN := (x.1, x.2.1, x.2.2.1, x.2.2.2.1, x.2.2.2.2.1, x.2.2.2.2.2.1, x.2.2.2.2.2.2.1, x.2.2.2.2.2.2.2.1, x.2.2.2.2.2.2.2.2.1, x.2.2.2.2.2.2.2.2.2.1, v)
def WN (E : qE) (a : Nat → Nat) (x : SN) : va_W := [(a 0, .inr (1, [.int (N_places x), .int (N_asks x), .int (N_steps x), .ref (a 1), .ref (a 2), .ref (a 3), .ref (a 4), .ref (a 5), .ref (a 6), .ref (a 7), .ref (a 8)])), (a 1, .inl (E.2.1, 5, .inl (N_helpers x))), (a 2, .inl (E.2.1, 5, .inl (N_rules x))), (a 3, .inl (E.2.1, 5, .inl (N_delays x))), (a 4, .inl (E.2.1, 60, .inl (N_kinds x))), (a 5, .inl (E.2.1, 60, .inl (N_starts x))), (a 6, .inl (E.2.1, 60, .inl (N_lengths x))), (a 7, .inl (E.2.1, 300, .inl (N_stepPlaces x))), (a 8, .inl (E.2.1, 300, .inl (N_stepWorks x)))]
abbrev ST : Type := qA × qA × qA
abbrev T_isSeen (x : ST) : qA := x.1
abbrev T_begun (x : ST) : qA := x.2.1
abbrev T_done (x : ST) : qA := x.2.2
abbrev T_isSeen_s (x : ST) (v : qA) : ST := (v, x.2)
abbrev T_begun_s (x : ST) (v : qA) : ST := (x.1, v, x.2.2)
abbrev T_done_s (x : ST) (v : qA) : ST := (x.1, x.2.1, v)
def WT (E : qE) (a : Nat → Nat) (x : ST) : va_W := [(a 0, .inr (3, [.ref (a 1), .ref (a 2), .ref (a 3)])), (a 1, .inl (E.2.2.2, 300, .inl (T_isSeen x))), (a 2, .inl (E.2.1, 300, .inl (T_begun x))), (a 3, .inl (E.2.1, 300, .inl (T_done x)))]
abbrev SF : Type := Int32 × Int32 × qA × qA × qA × qA × qJ
abbrev F_size (x : SF) : Int32 := x.1
abbrev F_isWhole (x : SF) : Int32 := x.2.1
abbrev F_came (x : SF) : qA := x.2.2.1
abbrev F_begun (x : SF) : qA := x.2.2.2.1
abbrev F_done (x : SF) : qA := x.2.2.2.2.1
abbrev F_kinds (x : SF) : qA := x.2.2.2.2.2.1
abbrev F_ranks (x : SF) : qJ := x.2.2.2.2.2.2
abbrev F_size_s (x : SF) (v : Int32) : SF := (v, x.2)
abbrev F_isWhole_s (x : SF) (v : Int32) : SF := (x.1, v, x.2.2)
abbrev F_came_s (x : SF) (v : qA) : SF := (x.1, x.2.1, v, x.2.2.2)
abbrev F_begun_s (x : SF) (v : qA) : SF := (x.1, x.2.1, x.2.2.1, v, x.2.2.2.2)
abbrev F_done_s (x : SF) (v : qA) : SF := (x.1, x.2.1, x.2.2.1, x.2.2.2.1, v, x.2.2.2.2.2)
abbrev F_kinds_s (x : SF) (v : qA) : SF := (x.1, x.2.1, x.2.2.1, x.2.2.2.1, x.2.2.2.2.1, v, x.2.2.2.2.2.2)
abbrev F_ranks_s (x : SF) (v : qJ) : SF := (x.1, x.2.1, x.2.2.1, x.2.2.2.1, x.2.2.2.2.1, x.2.2.2.2.2.1, v)
def WF (E : qE) (a : Nat → Nat) (x : SF) : va_W := [(a 0, .inr (0, [.int (F_size x), .int (F_isWhole x), .ref (a 1), .ref (a 2), .ref (a 3), .ref (a 4), .ref (a 5)])), (a 1, .inl (E.2.1, 300, .inl (F_came x))), (a 2, .inl (E.2.1, 300, .inl (F_begun x))), (a 3, .inl (E.2.1, 300, .inl (F_done x))), (a 4, .inl (E.2.1, 300, .inl (F_kinds x))), (a 5, .inl (E.2.2.1, 300, .inr (.inl (F_ranks x))))]
abbrev SP : Type := qA × qA × qA × qA × qA × qA × qA × qA
abbrev P_came (x : SP) : qA := x.1
abbrev P_begun (x : SP) : qA := x.2.1
abbrev P_done (x : SP) : qA := x.2.2.1
abbrev P_states (x : SP) : qA := x.2.2.2.1
abbrev P_rows (x : SP) : qA := x.2.2.2.2.1
abbrev P_dues (x : SP) : qA := x.2.2.2.2.2.1
abbrev P_free (x : SP) : qA := x.2.2.2.2.2.2.1
abbrev P_waiting (x : SP) : qA := x.2.2.2.2.2.2.2
abbrev P_came_s (x : SP) (v : qA) : SP := (v, x.2)
abbrev P_begun_s (x : SP) (v : qA) : SP := (x.1, v, x.2.2)
abbrev P_done_s (x : SP) (v : qA) : SP := (x.1, x.2.1, v, x.2.2.2)
abbrev P_states_s (x : SP) (v : qA) : SP := (x.1, x.2.1, x.2.2.1, v, x.2.2.2.2)
abbrev P_rows_s (x : SP) (v : qA) : SP := (x.1, x.2.1, x.2.2.1, x.2.2.2.1, v, x.2.2.2.2.2)
abbrev P_dues_s (x : SP) (v : qA) : SP := (x.1, x.2.1, x.2.2.1, x.2.2.2.1, x.2.2.2.2.1, v, x.2.2.2.2.2.2)
abbrev P_free_s (x : SP) (v : qA) : SP := (x.1, x.2.1, x.2.2.1, x.2.2.2.1, x.2.2.2.2.1, x.2.2.2.2.2.1, v, x.2.2.2.2.2.2.2)
abbrev P_waiting_s (x : SP) (v : qA) : SP := (x.1, x.2.1, x.2.2.1, x.2.2.2.1, x.2.2.2.2.1, x.2.2.2.2.2.1, x.2.2.2.2.2.2.1, v)
def WP (E : qE) (a : Nat → Nat) (x : SP) : va_W := [(a 0, .inr (2, [.ref (a 1), .ref (a 2), .ref (a 3), .ref (a 4), .ref (a 5), .ref (a 6), .ref (a 7), .ref (a 8)])), (a 1, .inl (E.2.1, 300, .inl (P_came x))), (a 2, .inl (E.2.1, 300, .inl (P_begun x))), (a 3, .inl (E.2.1, 300, .inl (P_done x))), (a 4, .inl (E.2.1, 60, .inl (P_states x))), (a 5, .inl (E.2.1, 60, .inl (P_rows x))), (a 6, .inl (E.2.1, 60, .inl (P_dues x))), (a 7, .inl (E.2.1, 5, .inl (P_free x))), (a 8, .inl (E.2.1, 5, .inl (P_waiting x)))]
abbrev SM : Type := Int32 × qA × qA × qA × Int32 × qA × qA × qA × Int32 × qA × qA × qA × qA × qA × qA × qA × qA × qA × qA
abbrev M_thrown (x : SM) : Int32 := x.1
abbrev M_helpers (x : SM) : qA := x.2.1
abbrev M_rule (x : SM) : qA := x.2.2.1
abbrev M_delay (x : SM) : qA := x.2.2.2.1
abbrev M_places (x : SM) : Int32 := x.2.2.2.2.1
abbrev M_kind (x : SM) : qA := x.2.2.2.2.2.1
abbrev M_start (x : SM) : qA := x.2.2.2.2.2.2.1
abbrev M_steps (x : SM) : qA := x.2.2.2.2.2.2.2.1
abbrev M_asks (x : SM) : Int32 := x.2.2.2.2.2.2.2.2.1
abbrev M_at (x : SM) : qA := x.2.2.2.2.2.2.2.2.2.1
abbrev M_work (x : SM) : qA := x.2.2.2.2.2.2.2.2.2.2.1
abbrev M_isSeen (x : SM) : qA := x.2.2.2.2.2.2.2.2.2.2.2.1
abbrev M_seenBegun (x : SM) : qA := x.2.2.2.2.2.2.2.2.2.2.2.2.1
abbrev M_seenDone (x : SM) : qA := x.2.2.2.2.2.2.2.2.2.2.2.2.2.1
abbrev M_came (x : SM) : qA := x.2.2.2.2.2.2.2.2.2.2.2.2.2.2.1
abbrev M_begun (x : SM) : qA := x.2.2.2.2.2.2.2.2.2.2.2.2.2.2.2.1
abbrev M_done (x : SM) : qA := x.2.2.2.2.2.2.2.2.2.2.2.2.2.2.2.2.1
abbrev M_waits (x : SM) : qA := x.2.2.2.2.2.2.2.2.2.2.2.2.2.2.2.2.2.1
abbrev M_pWork (x : SM) : qA := x.2.2.2.2.2.2.2.2.2.2.2.2.2.2.2.2.2.2
abbrev M_thrown_s (x : SM) (v : Int32) : SM := (v, x.2)
abbrev M_helpers_s (x : SM) (v : qA) : SM := (x.1, v, x.2.2)
abbrev M_rule_s (x : SM) (v : qA) : SM := (x.1, x.2.1, v, x.2.2.2)
abbrev M_delay_s (x : SM) (v : qA) : SM := (x.1, x.2.1, x.2.2.1, v, x.2.2.2.2)
abbrev M_places_s (x : SM) (v : Int32) : SM := (x.1, x.2.1, x.2.2.1, x.2.2.2.1, v, x.2.2.2.2.2)
abbrev M_kind_s (x : SM) (v : qA) : SM := (x.1, x.2.1, x.2.2.1, x.2.2.2.1, x.2.2.2.2.1, v, x.2.2.2.2.2.2)
abbrev M_start_s (x : SM) (v : qA) : SM := (x.1, x.2.1, x.2.2.1, x.2.2.2.1, x.2.2.2.2.1, x.2.2.2.2.2.1, v, x.2.2.2.2.2.2.2)
abbrev M_steps_s (x : SM) (v : qA) : SM := (x.1, x.2.1, x.2.2.1, x.2.2.2.1, x.2.2.2.2.1, x.2.2.2.2.2.1, x.2.2.2.2.2.2.1, v, x.2.2.2.2.2.2.2.2)
abbrev M_asks_s (x : SM) (v : Int32) : SM := (x.1, x.2.1, x.2.2.1, x.2.2.2.1, x.2.2.2.2.1, x.2.2.2.2.2.1, x.2.2.2.2.2.2.1, x.2.2.2.2.2.2.2.1, v, x.2.2.2.2.2.2.2.2.2)
abbrev M_at_s (x : SM) (v : qA) : SM := (x.1, x.2.1, x.2.2.1, x.2.2.2.1, x.2.2.2.2.1, x.2.2.2.2.2.1, x.2.2.2.2.2.2.1, x.2.2.2.2.2.2.2.1, x.2.2.2.2.2.2.2.2.1, v, x.2.2.2.2.2.2.2.2.2.2)
abbrev M_work_s (x : SM) (v : qA) : SM := (x.1, x.2.1, x.2.2.1, x.2.2.2.1, x.2.2.2.2.1, x.2.2.2.2.2.1, x.2.2.2.2.2.2.1, x.2.2.2.2.2.2.2.1, x.2.2.2.2.2.2.2.2.1, x.2.2.2.2.2.2.2.2.2.1, v, x.2.2.2.2.2.2.2.2.2.2.2)
abbrev M_isSeen_s (x : SM) (v : qA) : SM := (x.1, x.2.1, x.2.2.1, x.2.2.2.1, x.2.2.2.2.1, x.2.2.2.2.2.1, x.2.2.2.2.2.2.1, x.2.2.2.2.2.2.2.1, x.2.2.2.2.2.2.2.2.1, x.2.2.2.2.2.2.2.2.2.1, x.2.2.2.2.2.2.2.2.2.2.1, v, x.2.2.2.2.2.2.2.2.2.2.2.2)
abbrev M_seenBegun_s (x : SM) (v : qA) : SM := (x.1, x.2.1, x.2.2.1, x.2.2.2.1, x.2.2.2.2.1, x.2.2.2.2.2.1, x.2.2.2.2.2.2.1, x.2.2.2.2.2.2.2.1, x.2.2.2.2.2.2.2.2.1, x.2.2.2.2.2.2.2.2.2.1, x.2.2.2.2.2.2.2.2.2.2.1, x.2.2.2.2.2.2.2.2.2.2.2.1, v, x.2.2.2.2.2.2.2.2.2.2.2.2.2)
abbrev M_seenDone_s (x : SM) (v : qA) : SM := (x.1, x.2.1, x.2.2.1, x.2.2.2.1, x.2.2.2.2.1, x.2.2.2.2.2.1, x.2.2.2.2.2.2.1, x.2.2.2.2.2.2.2.1, x.2.2.2.2.2.2.2.2.1, x.2.2.2.2.2.2.2.2.2.1, x.2.2.2.2.2.2.2.2.2.2.1, x.2.2.2.2.2.2.2.2.2.2.2.1, x.2.2.2.2.2.2.2.2.2.2.2.2.1, v, x.2.2.2.2.2.2.2.2.2.2.2.2.2.2)
abbrev M_came_s (x : SM) (v : qA) : SM := (x.1, x.2.1, x.2.2.1, x.2.2.2.1, x.2.2.2.2.1, x.2.2.2.2.2.1, x.2.2.2.2.2.2.1, x.2.2.2.2.2.2.2.1, x.2.2.2.2.2.2.2.2.1, x.2.2.2.2.2.2.2.2.2.1, x.2.2.2.2.2.2.2.2.2.2.1, x.2.2.2.2.2.2.2.2.2.2.2.1, x.2.2.2.2.2.2.2.2.2.2.2.2.1, x.2.2.2.2.2.2.2.2.2.2.2.2.2.1, v, x.2.2.2.2.2.2.2.2.2.2.2.2.2.2.2)
abbrev M_begun_s (x : SM) (v : qA) : SM := (x.1, x.2.1, x.2.2.1, x.2.2.2.1, x.2.2.2.2.1, x.2.2.2.2.2.1, x.2.2.2.2.2.2.1, x.2.2.2.2.2.2.2.1, x.2.2.2.2.2.2.2.2.1, x.2.2.2.2.2.2.2.2.2.1, x.2.2.2.2.2.2.2.2.2.2.1, x.2.2.2.2.2.2.2.2.2.2.2.1, x.2.2.2.2.2.2.2.2.2.2.2.2.1, x.2.2.2.2.2.2.2.2.2.2.2.2.2.1, x.2.2.2.2.2.2.2.2.2.2.2.2.2.2.1, v, x.2.2.2.2.2.2.2.2.2.2.2.2.2.2.2.2)
abbrev M_done_s (x : SM) (v : qA) : SM := (x.1, x.2.1, x.2.2.1, x.2.2.2.1, x.2.2.2.2.1, x.2.2.2.2.2.1, x.2.2.2.2.2.2.1, x.2.2.2.2.2.2.2.1, x.2.2.2.2.2.2.2.2.1, x.2.2.2.2.2.2.2.2.2.1, x.2.2.2.2.2.2.2.2.2.2.1, x.2.2.2.2.2.2.2.2.2.2.2.1, x.2.2.2.2.2.2.2.2.2.2.2.2.1, x.2.2.2.2.2.2.2.2.2.2.2.2.2.1, x.2.2.2.2.2.2.2.2.2.2.2.2.2.2.1, x.2.2.2.2.2.2.2.2.2.2.2.2.2.2.2.1, v, x.2.2.2.2.2.2.2.2.2.2.2.2.2.2.2.2.2)
abbrev M_waits_s (x : SM) (v : qA) : SM := (x.1, x.2.1, x.2.2.1, x.2.2.2.1, x.2.2.2.2.1, x.2.2.2.2.2.1, x.2.2.2.2.2.2.1, x.2.2.2.2.2.2.2.1, x.2.2.2.2.2.2.2.2.1, x.2.2.2.2.2.2.2.2.2.1, x.2.2.2.2.2.2.2.2.2.2.1, x.2.2.2.2.2.2.2.2.2.2.2.1, x.2.2.2.2.2.2.2.2.2.2.2.2.1, x.2.2.2.2.2.2.2.2.2.2.2.2.2.1, x.2.2.2.2.2.2.2.2.2.2.2.2.2.2.1, x.2.2.2.2.2.2.2.2.2.2.2.2.2.2.2.1, x.2.2.2.2.2.2.2.2.2.2.2.2.2.2.2.2.1, v, x.2.2.2.2.2.2.2.2.2.2.2.2.2.2.2.2.2.2)
abbrev M_pWork_s (x : SM) (v : qA) : SM := (x.1, x.2.1, x.2.2.1, x.2.2.2.1, x.2.2.2.2.1, x.2.2.2.2.2.1, x.2.2.2.2.2.2.1, x.2.2.2.2.2.2.2.1, x.2.2.2.2.2.2.2.2.1, x.2.2.2.2.2.2.2.2.2.1, x.2.2.2.2.2.2.2.2.2.2.1, x.2.2.2.2.2.2.2.2.2.2.2.1, x.2.2.2.2.2.2.2.2.2.2.2.2.1, x.2.2.2.2.2.2.2.2.2.2.2.2.2.1, x.2.2.2.2.2.2.2.2.2.2.2.2.2.2.1, x.2.2.2.2.2.2.2.2.2.2.2.2.2.2.2.1, x.2.2.2.2.2.2.2.2.2.2.2.2.2.2.2.2.1, x.2.2.2.2.2.2.2.2.2.2.2.2.2.2.2.2.2.1, v)
def WM (E : qE) (a : Nat → Nat) (x : SM) : va_W := [(a 0, .inr (5, [.int (M_thrown x), .ref (a 1), .ref (a 2), .ref (a 3), .int (M_places x), .ref (a 4), .ref (a 5), .ref (a 6), .int (M_asks x), .ref (a 7), .ref (a 8), .ref (a 9), .ref (a 10), .ref (a 11), .ref (a 12), .ref (a 13), .ref (a 14), .ref (a 15), .ref (a 16)])), (a 1, .inl (E.2.1, 5, .inl (M_helpers x))), (a 2, .inl (E.2.1, 5, .inl (M_rule x))), (a 3, .inl (E.2.1, 5, .inl (M_delay x))), (a 4, .inl (E.2.1, 60, .inl (M_kind x))), (a 5, .inl (E.2.1, 60, .inl (M_start x))), (a 6, .inl (E.2.1, 60, .inl (M_steps x))), (a 7, .inl (E.2.1, 300, .inl (M_at x))), (a 8, .inl (E.2.1, 300, .inl (M_work x))), (a 9, .inl (E.2.2.2, 300, .inl (M_isSeen x))), (a 10, .inl (E.2.1, 300, .inl (M_seenBegun x))), (a 11, .inl (E.2.1, 300, .inl (M_seenDone x))), (a 12, .inl (E.2.1, 300, .inl (M_came x))), (a 13, .inl (E.2.1, 300, .inl (M_begun x))), (a 14, .inl (E.2.1, 300, .inl (M_done x))), (a 15, .inl (E.2.2.2, 300, .inl (M_waits x))), (a 16, .inl (E.2.1, 300, .inl (M_pWork x)))]
def WQ (aQ : Nat) (aN aT aF aP aR : Nat → Nat) (x : Int32) : va_W := [(aQ, .inr (4, [.ref (aN 0), .ref (aT 0), .ref (aF 0), .ref (aP 0), .ref (aR 0), .int x]))]
def WO (E : qE) (aO : Nat) (x : qJ) : va_W := [(aO, .inl (E.2.2.1, 1, .inr (.inl x)))]
section QST
theorem q_startI {l : Launch} {E : qE} {y : MethodName} {wl wl' : List Cond} {rm : Room} {av : List Value} {ws ws' : va_W} {r : Int32} {cc : ByteArray} {maxL : Nat} (hy : plainName y.cls = true) (hw : wl = Cond.code y cc maxL (some .int) :: wl') (hlen : (lg_sl av).length ≤ maxL)
    (body : ∀ (pr : Program) (e : Env) (s : State) (m : MethodId) (args : Array Value) (below : List Frame) (meth : Method) (c : Code) (A : Nat → Prop) (Q : State → Prop), pr.tables.exec = Jvm.exec → c.code = cc → c.maxLocals = maxL → s.vm.findClass y.cls = some m.cls → (∀ w ∈ wl, w.before args s = true) → qK E s →
      (∀ (pc : Nat) (H : Heap) (locs : List Loc) (ls : Array Slot), decode cc pc = .ok (.ireturn, 1) → va_P E.1 vwCl ws' H → va_D A ws' → va_S A s.heap H locs → W pr l e rm s m args below meth c H locs 0 0 Q (F0 m pc ls [.int r])) →
      va_P E.1 vwCl ws s.heap → va_D A ws → (∀ q, s.heap.size ≤ q → A q) → va_S A s.heap s.heap [] → ∀ ls : Array Slot, lv_has ls maxL (lv_args 0 av) → W pr l e rm s m args below meth c s.heap [] 0 0 Q (F0 m 0 ls [])) : MI l E y wl rm av ws ws' r := by
  intro sz
  refine Met.ofW (cc := cc) (maxL := maxL) (ret := some .int) hy hw ?_
  intro pr e s m args below meth c s₁ B hml hv
  obtain ⟨rfl, hsz, hP, hK, hD0⟩ := hv
  subst hsz
  have hD := hD0.self (sz := s.heap.size)
  have hl := lv_entry av (n := maxL) hlen
  rw [lg_entry_eq]
  exact body pr e s m av.toArray below meth c _ _ B.exec B.bytes hml (findClass_of_methodNamed B.named) (atoms_spec (ws := wl) B.pre) hK (fun pc H locs ls hd hP hD hS => W.iret B.exec B.bytes B.returns (fun t ht hW => ⟨⟨r, (), rfl, rfl, by rw [ht]; exact hP, hD⟩, hS.F ht⟩) hS.2.2 hd B.notSynchronized) hP hD (fun q h => Or.inr h) va_S.rf _ hl
theorem q_startZ {l : Launch} {E : qE} {y : MethodName} {wl wl' : List Cond} {rm : Room} {av : List Value} {ws ws' : va_W} {r : Int32} {cc : ByteArray} {maxL : Nat} (hy : plainName y.cls = true) (hw : wl = Cond.code y cc maxL (some .boolean) :: wl') (hlen : (lg_sl av).length ≤ maxL)
    (body : ∀ (pr : Program) (e : Env) (s : State) (m : MethodId) (args : Array Value) (below : List Frame) (meth : Method) (c : Code) (A : Nat → Prop) (Q : State → Prop), pr.tables.exec = Jvm.exec → c.code = cc → c.maxLocals = maxL → s.vm.findClass y.cls = some m.cls → (∀ w ∈ wl, w.before args s = true) → qK E s →
      (∀ (pc : Nat) (H : Heap) (locs : List Loc) (ls : Array Slot), decode cc pc = .ok (.ireturn, 1) → narrow .boolean (.int r) = .int r → va_P E.1 vwCl ws' H → va_D A ws' → va_S A s.heap H locs → W pr l e rm s m args below meth c H locs 0 0 Q (F0 m pc ls [.int r])) →
      va_P E.1 vwCl ws s.heap → va_D A ws → (∀ q, s.heap.size ≤ q → A q) → va_S A s.heap s.heap [] → ∀ ls : Array Slot, lv_has ls maxL (lv_args 0 av) → W pr l e rm s m args below meth c s.heap [] 0 0 Q (F0 m 0 ls [])) : MI l E y wl rm av ws ws' r := by
  intro sz
  refine Met.ofW (cc := cc) (maxL := maxL) (ret := some .boolean) hy hw ?_
  intro pr e s m args below meth c s₁ B hml hv
  obtain ⟨rfl, hsz, hP, hK, hD0⟩ := hv
  subst hsz
  have hD := hD0.self (sz := s.heap.size)
  have hl := lv_entry av (n := maxL) hlen
  rw [lg_entry_eq]
  exact body pr e s m av.toArray below meth c _ _ B.exec B.bytes hml (findClass_of_methodNamed B.named) (atoms_spec (ws := wl) B.pre) hK (fun pc H locs ls hd hn hP hD hS => W.zret B.exec B.bytes B.returns hn (fun t ht hW => ⟨⟨r, (), rfl, rfl, by rw [ht]; exact hP, hD⟩, hS.F ht⟩) hS.2.2 hd B.notSynchronized) hP hD (fun q h => Or.inr h) va_S.rf _ hl
theorem q_startL {l : Launch} {E : qE} {y : MethodName} {wl wl' : List Cond} {rm : Room} {av : List Value} {ws ws' : va_W} {r : Int64} {cc : ByteArray} {maxL : Nat} (hy : plainName y.cls = true) (hw : wl = Cond.code y cc maxL (some .long) :: wl') (hlen : (lg_sl av).length ≤ maxL)
    (body : ∀ (pr : Program) (e : Env) (s : State) (m : MethodId) (args : Array Value) (below : List Frame) (meth : Method) (c : Code) (A : Nat → Prop) (Q : State → Prop), pr.tables.exec = Jvm.exec → c.code = cc → c.maxLocals = maxL → s.vm.findClass y.cls = some m.cls → (∀ w ∈ wl, w.before args s = true) → qK E s →
      (∀ (pc : Nat) (H : Heap) (locs : List Loc) (ls : Array Slot), decode cc pc = .ok (.lreturn, 1) → va_P E.1 vwCl ws' H → va_D A ws' → va_S A s.heap H locs → W pr l e rm s m args below meth c H locs 0 0 Q (F0 m pc ls [.long r])) →
      va_P E.1 vwCl ws s.heap → va_D A ws → (∀ q, s.heap.size ≤ q → A q) → va_S A s.heap s.heap [] → ∀ ls : Array Slot, lv_has ls maxL (lv_args 0 av) → W pr l e rm s m args below meth c s.heap [] 0 0 Q (F0 m 0 ls [])) : ML l E y wl rm av ws ws' r := by
  intro sz
  refine Met.ofW (cc := cc) (maxL := maxL) (ret := some .long) hy hw ?_
  intro pr e s m args below meth c s₁ B hml hv
  obtain ⟨rfl, hsz, hP, hK, hD0⟩ := hv
  subst hsz
  have hD := hD0.self (sz := s.heap.size)
  have hl := lv_entry av (n := maxL) hlen
  rw [lg_entry_eq]
  exact body pr e s m av.toArray below meth c _ _ B.exec B.bytes hml (findClass_of_methodNamed B.named) (atoms_spec (ws := wl) B.pre) hK (fun pc H locs ls hd hP hD hS => W.lret B.exec B.bytes B.returns (fun t ht hW => ⟨⟨r, (), rfl, rfl, by rw [ht]; exact hP, hD⟩, hS.F ht⟩) hS.2.2 hd B.notSynchronized) hP hD (fun q h => Or.inr h) va_S.rf _ hl
theorem q_startV {l : Launch} {E : qE} {y : MethodName} {wl wl' : List Cond} {rm : Room} {av : List Value} {ws ws' : va_W} {cc : ByteArray} {maxL : Nat} (hy : plainName y.cls = true) (hw : wl = Cond.code y cc maxL none :: wl') (hlen : (lg_sl av).length ≤ maxL)
    (body : ∀ (pr : Program) (e : Env) (s : State) (m : MethodId) (args : Array Value) (below : List Frame) (meth : Method) (c : Code) (A : Nat → Prop) (Q : State → Prop), pr.tables.exec = Jvm.exec → c.code = cc → c.maxLocals = maxL → s.vm.findClass y.cls = some m.cls → (∀ w ∈ wl, w.before args s = true) → qK E s →
      (∀ (pc : Nat) (H : Heap) (locs : List Loc) (ls : Array Slot), decode cc pc = .ok (.return_, 1) → va_P E.1 vwCl ws' H → va_D A ws' → va_S A s.heap H locs → W pr l e rm s m args below meth c H locs 0 0 Q (F0 m pc ls [])) →
      va_P E.1 vwCl ws s.heap → va_D A ws → (∀ q, s.heap.size ≤ q → A q) → va_S A s.heap s.heap [] → ∀ ls : Array Slot, lv_has ls maxL (lv_args 0 av) → W pr l e rm s m args below meth c s.heap [] 0 0 Q (F0 m 0 ls [])) : MV l E y wl rm av ws ws' := by
  intro sz
  refine Met.ofW (cc := cc) (maxL := maxL) (ret := none) hy hw ?_
  intro pr e s m args below meth c s₁ B hml hv
  obtain ⟨rfl, hsz, hP, hK, hD0⟩ := hv
  subst hsz
  have hD := hD0.self (sz := s.heap.size)
  have hl := lv_entry av (n := maxL) hlen
  rw [lg_entry_eq]
  exact body pr e s m av.toArray below meth c _ _ B.exec B.bytes hml (findClass_of_methodNamed B.named) (atoms_spec (ws := wl) B.pre) hK (fun pc H locs ls hd hP hD hS => W.vret B.exec B.bytes B.returns (fun t ht hW => ⟨⟨(), rfl, trivial, by rw [ht]; exact hP, hD⟩, hS.F ht⟩) hS.2.2 hd B.notSynchronized) hP hD (fun q h => Or.inr h) va_S.rf _ hl
end QST
