/-! OWN: methods that throw: what a throw needs, contracts of a throw, its going on to the caller -/
def qIA : String := "java/lang/IllegalArgumentException"
def qUO : String := "java/lang/UnsupportedOperationException"
def qIO : String := "java/lang/IndexOutOfBoundsException"
def qNS : String := "java/util/NoSuchElementException"
abbrev qNm : List String := ["java/lang/RuntimeException", "java/lang/Exception"]
def qXC (U : State) : Prop := va_Nw (.castable "java/lang/IllegalArgumentException" "java/lang/IllegalArgumentException") U ∧ va_Nw (.castable "java/lang/UnsupportedOperationException" "java/lang/UnsupportedOperationException") U ∧ va_Nw (.castable "java/lang/IndexOutOfBoundsException" "java/lang/IndexOutOfBoundsException") U ∧ va_Nw (.castable "java/util/NoSuchElementException" "java/util/NoSuchElementException") U ∧ va_Nw (.declares (Bundle.initS "java/lang/RuntimeException")) U ∧ va_Nw (.declares (Bundle.initS "java/lang/Exception")) U ∧ va_Nw (.declares (Bundle.initS Bundle.tN)) U
def qXS (U : State) : Prop := (∃ sa, vk_R RX4 54 "there are 5 places" sa U) ∧ (∃ sa, vk_R RX4 74 "there are 60 asks" sa U) ∧ (∃ sa, vk_R RX4 100 "done is not later than begun" sa U) ∧ (∃ sa, vk_R RX4 216 "no such place" sa U) ∧ (∃ sa, vk_R RX4 219 "no such ask" sa U) ∧ (∃ sa, vk_R RX4 221 "no such step" sa U) ∧ (∃ sa, vk_R RX4 223 "a number is none" sa U) ∧ (∃ sa, vk_R RX4 227 "no such what" sa U)
def qXZ (A : Nat → Prop) (U : State) (H : Heap) : Prop := vx_Zq Bundle.tN "UNASSIGNED_STACK" Bundle.steD A U H ∧ vx_Zq Bundle.tN "SUPPRESSED_SENTINEL" Bundle.listD A U H
theorem qXC.warm {s U : State} (hW : s.WarmedH U.vm) (h : qXC s) : qXC U := ⟨va_Nw.warmC hW h.1, va_Nw.warmC hW h.2.1, va_Nw.warmC hW h.2.2.1, va_Nw.warmC hW h.2.2.2.1, va_Nw.warmD hW h.2.2.2.2.1, va_Nw.warmD hW h.2.2.2.2.2.1, va_Nw.warmD hW h.2.2.2.2.2.2⟩
theorem qXS.warm {s U : State} (hW : s.WarmedH U.vm) (h : qXS s) : qXS U := by
  obtain ⟨⟨a1, h1⟩, ⟨a2, h2⟩, ⟨a3, h3⟩, ⟨a4, h4⟩, ⟨a5, h5⟩, ⟨a6, h6⟩, ⟨a7, h7⟩, ⟨a8, h8⟩⟩ := h
  exact ⟨⟨a1, vk_R.warm hW h1⟩, ⟨a2, vk_R.warm hW h2⟩, ⟨a3, vk_R.warm hW h3⟩, ⟨a4, vk_R.warm hW h4⟩, ⟨a5, vk_R.warm hW h5⟩, ⟨a6, vk_R.warm hW h6⟩, ⟨a7, vk_R.warm hW h7⟩, ⟨a8, vk_R.warm hW h8⟩⟩
def qPreX (E : qE) (sz : Nat) (ws : va_W) : State → Prop := fun U => qPre E sz ws U ∧ qXC U ∧ qXS U ∧ qXZ (va_A ws sz) U U.heap
theorem qx_blind {E : qE} {sz : Nat} {ws : va_W} {av : List Value} : FrameBlind (va_Pc av (qPreX E sz ws)) := by
  intro a U g mk q
  obtain ⟨q0, ⟨q1, qP, ⟨k1, k2, k3⟩, qD⟩, ⟨c1, c2, c3, c4, c5, c6, c7⟩, ⟨⟨a1, h1⟩, ⟨a2, h2⟩, ⟨a3, h3⟩, ⟨a4, h4⟩, ⟨a5, h5⟩, ⟨a6, h6⟩, ⟨a7, h7⟩, ⟨a8, h8⟩⟩, z1, z2⟩ := q
  refine ⟨q0, ⟨q1, qP, ⟨va_K.moved (u := U) (U := U.calling g mk a) (Vm.Alike.refl U.vm) k1, va_Nw.same (u := U) (U := U.calling g mk a) rfl rfl k2, va_Nw.same (u := U) (U := U.calling g mk a) rfl rfl k3⟩, qD⟩, ⟨va_Nw.same (u := U) (U := U.calling g mk a) rfl rfl c1, va_Nw.same (u := U) (U := U.calling g mk a) rfl rfl c2, va_Nw.same (u := U) (U := U.calling g mk a) rfl rfl c3, va_Nw.same (u := U) (U := U.calling g mk a) rfl rfl c4, va_Nw.same (u := U) (U := U.calling g mk a) rfl rfl c5, va_Nw.same (u := U) (U := U.calling g mk a) rfl rfl c6, va_Nw.same (u := U) (U := U.calling g mk a) rfl rfl c7⟩, ?_, vx_Zq.moved (u := U) (U := U.calling g mk a) (Vm.Alike.refl U.vm) z1, vx_Zq.moved (u := U) (U := U.calling g mk a) (Vm.Alike.refl U.vm) z2⟩
  exact ⟨⟨a1, vk_R.same (u := U) (U := U.calling g mk a) rfl h1⟩, ⟨a2, vk_R.same (u := U) (U := U.calling g mk a) rfl h2⟩, ⟨a3, vk_R.same (u := U) (U := U.calling g mk a) rfl h3⟩, ⟨a4, vk_R.same (u := U) (U := U.calling g mk a) rfl h4⟩, ⟨a5, vk_R.same (u := U) (U := U.calling g mk a) rfl h5⟩, ⟨a6, vk_R.same (u := U) (U := U.calling g mk a) rfl h6⟩, ⟨a7, vk_R.same (u := U) (U := U.calling g mk a) rfl h7⟩, ⟨a8, vk_R.same (u := U) (U := U.calling g mk a) rfl h8⟩⟩
/-- the contract of a throw: it never returns, the world stays, one cell of six slots comes -/
def XT (l : Launch) (E : qE) (y : MethodName) (wl : List Cond) (rm : Room) (av : List Value) (ws : va_W) (Ex : String) : Prop := ∀ sz : Nat, vx_Met l y wl rm (va_Pc av (qPreX E sz ws)) (va_Qv (fun (_ : Unit) => False) (fun _ _ => True) (fun _ => True)) (vx_X (fun (_ : Unit) => True) (fun E' (_ : Unit) t => E' = Ex ∧ va_P E.1 vwCl ws t.heap ∧ va_D (va_A ws sz) ws) (va_A ws sz)) 1 6 (va_A ws sz)
def qX {α β : Type} (o : Sum String α) (k : α → Option (Sum String β)) : Option (Sum String β) := match o with
  | .inl x => some (.inl x)
  | .inr v => k v
theorem qX_r {α β : Type} {v : α} {k : α → Option (Sum String β)} {o : Sum String β} (h : qX (Sum.inr v) k = some o) : k v = some o := h
theorem q_injr {α : Type} {x o : α} (h : (some (Sum.inr x) : Option (Sum String α)) = some (Sum.inr o)) : o = x := (Sum.inr.inj (Option.some.inj h)).symm
theorem q_injl {α : Type} {x o : String} (h : (some (Sum.inl x) : Option (Sum String α)) = some (Sum.inl o)) : o = x := (Sum.inl.inj (Option.some.inj h)).symm
theorem q_mr {α : Type} {t : Option α} {o : α} (h : Option.map (fun z => (Sum.inr z : Sum String α)) t = some (Sum.inr o)) : t = some o := by
  cases t with
  | none => cases h
  | some y => exact congrArg some (Sum.inr.inj (Option.some.inj h))
theorem q_ml {α : Type} {t : Option α} {o : String} (h : Option.map (fun z => (Sum.inr z : Sum String α)) t = some (Sum.inl o)) : False := by
  cases t with
  | none => cases h
  | some y => cases h
section QX
variable {p : Program} {l : Launch} {e : Env} {R : Room} {s : State} {m : MethodId} {args : Array Value} {below : List Frame} {meth : Method} {c : Code} {H : Heap} {locs : List Loc} {cells slots : Nat} {Q : State → Prop}
variable {E : qE} {pc : Nat} {ls : Array Slot} {rest st0 : List Value} {av : Array Value} {A : Nat → Prop} {H0 : Heap} {w0 wc wc' wr w1 : va_W}
theorem qx_preS {As : List Value} {locs0 : List Loc} (hK : qK E s) (hC : qXC s) (hT : qXS s) (hZ : qXZ A s s.heap) (hS : va_S A s.heap H locs0) (hA : ∀ q, s.heap.size ≤ q → A q) (hP : va_P E.1 vwCl w0 H) (hD : va_D A w0) (pm : w0.Perm (wc ++ wr)) : PreS s H (va_Pc As (qPreX E H.size wc)) As :=
  ⟨qx_blind, fun U hU hW => ⟨rfl, ((q_preS (As := As) hK hP hD pm).2 U hU hW).2, qXC.warm hW hC, qXS.warm hW hT, by
    rw [hU]
    exact ⟨vx_Zq.moved hW.alike (vx_Zq.narrow (hZ.1.kept hS.2.1) (q_free (q_Dm pm hD) hS hA)), vx_Zq.moved hW.alike (vx_Zq.narrow (hZ.2.kept hS.2.1) (q_free (q_Dm pm hD) hS hA))⟩⟩⟩
theorem qx_preV {C : String} {T : u_T} {N : Nat} {b : Addr} {As : List Value} {fs : List Value} {locs0 : List Loc} (hK : qK E s) (hC : qXC s) (hT : qXS s) (hZ : qXZ A s s.heap) (hS : va_S A s.heap H locs0) (hA : ∀ q, s.heap.size ≤ q → A q) (hP : va_P E.1 vwCl w0 H) (hD : va_D A w0) (pm : w0.Perm (wc ++ wr)) (ci q0 : Nat) (hc : vwCl[ci]? = some (C, T, N)) (he : w0[q0]? = some (b, .inr (ci, fs))) : PreV s H C b (va_Pc (.ref b :: As) (qPreX E H.size wc)) As :=
  ⟨qx_blind, va_recv hK.1 hP hc he, (qx_preS (As := .ref b :: As) hK hC hT hZ hS hA hP hD pm).2⟩
theorem qx_c {Ex : String} (hr : vx_Run p l e R s m args below meth c H locs 0 0 1 6 (F0 m pc ls st0) rest (va_Qv (fun (_ : Unit) => False) (fun _ _ => True) (fun _ => True) av) (vx_X (fun (_ : Unit) => True) (fun E' (_ : Unit) t => E' = Ex ∧ va_P E.1 vwCl wc t.heap ∧ va_D (va_A wc H.size) wc) (va_A wc H.size)) (va_A wc H.size)) (hP : va_P E.1 vwCl w0 H) (hD : va_D A w0) (hS : va_S A H0 H locs) (hA : ∀ q, H0.size ≤ q → A q) (p1 : w0.Perm (wc ++ wr))
    (hRp : ∀ (H1 : Heap) (locs1 : List Loc) (q9 : Addr) (ce : Cell), va_P E.1 vwCl w0 H1 → va_D A w0 → va_S A H0 H1 locs1 → H1[q9]? = some ce → ce.vm = .none → s.vm.findClass Ex = some ce.cls → vx_W p l e R s m args below meth c H1 locs1 1 6 Q (F0 m pc ls rest) q9) : W p l e R s m args below meth c H locs 0 0 Q (F0 m pc ls st0) := by
  have hF := q_free (q_Dm p1 hD) hS hA
  intro T hT X
  rcases hr T hT X with ⟨v, st₀, t, T', L, h0, X', hL, e1, e2, ⟨⟨u, hv, hp, hb⟩, hz, hk⟩, st⟩ | ⟨q, st₀, t, T', L, E9, ce, h0, X', hL, e1, e2, ⟨u, -, ⟨hE, hP1, hD1⟩, hFr⟩, hce, hcv, hcl, st⟩
  · exact hp.elim
  · subst hE
    obtain ⟨hz, hk⟩ := hFr
    rw [h0] at hz hk
    rw [← e1] at hP1 hce hz hk
    obtain ⟨g1, g2⟩ := q_join (q_Pm p1 hP) (q_Dm p1 hD) hk hF hP1 hD1
    have hS1 : va_S A H0 T'.heap (locs ++ L) := ⟨Nat.le_trans hS.1 hz, fun q h1 h2 => by rw [hk q (Nat.lt_of_lt_of_le h1 hS.1) (fun z => h2 (hF q z))]; exact hS.2.1 q h1 h2, fun q hq => by
      rcases List.mem_append.mp hq with h | h
      · exact hS.2.2 q h
      · exact hF _ (hL q h)⟩
    obtain ⟨t2, a1, b1⟩ := hRp T'.heap (locs ++ L) q ce (q_Pm p1.symm g1) (q_Dm p1.symm g2) hS1 hce hcv hcl T' rfl X'
    exact ⟨t2, st.trans a1, b1⟩
end QX
theorem q_startX {l : Launch} {E : qE} {y : MethodName} {wl wl' : List Cond} {rm : Room} {av : List Value} {ws : va_W} {Ex : String} {cc : ByteArray} {maxL : Nat} {ret : Option FieldType} (hfl : l.stackTraces = false) (hy : plainName y.cls = true) (hw : wl = Cond.code y cc maxL ret :: wl') (hlen : (lg_sl av).length ≤ maxL) (hfr : 5 < rm.frames) (hlo : 90 ≤ rm.locals) (hce : 1 ≤ rm.cells) (hsl : 6 ≤ rm.slots)
    (body : ∀ (pr : Program) (e : Env) (s : State) (m : MethodId) (args : Array Value) (below : List Frame) (meth : Method) (c : Code) (A : Nat → Prop) (Q : State → Prop), pr.tables.exec = Jvm.exec → c.code = cc → c.maxLocals = maxL → s.vm.findClass y.cls = some m.cls → (∀ w ∈ wl, w.before args s = true) → qK E s → qXC s → qXS s → qXZ A s s.heap →
      (∀ (pc : Nat) (ls : Array Slot) (rest : List Value) (H : Heap) (locs : List Loc) (q9 : Addr) (ce : Cell), va_P E.1 vwCl ws H → va_D A ws → va_S A s.heap H locs → H[q9]? = some ce → ce.vm = .none → s.vm.findClass Ex = some ce.cls → vx_W pr l e rm s m args below meth c H locs 1 6 Q (F0 m pc ls rest) q9) →
      (∀ (ik is ic : Nat) (text : String) (pc : Nat) (H : Heap) (locs : List Loc) (ls : Array Slot) (rest : List Value), Bundle.fit Ex = true → (Cond.classLink y.cls ik Ex).before args s = true → (Cond.initialized Ex).before args s = true → (∃ sa, vk_R y.cls is text sa s) → (∀ w ∈ vx_atS y.cls ic Ex qNm, w.before args s = true) → (∀ w ∈ Cond.classLink y.cls ik Ex :: Cond.initialized Ex :: vx_atS y.cls ic Ex qNm, vx_ot w = true) →
        decode cc pc = .ok (.new ik, 3) → decode cc (pc + 3) = .ok (.dup, 1) → decode cc (pc + 4) = .ok (.ldc is, 2) → decode cc (pc + 6) = .ok (.invokespecial ic, 3) → decode cc (pc + 9) = .ok (.athrow, 1) → ls.size = maxL → (rest.map fun v => v.category).sum ≤ 8 → va_P E.1 vwCl ws H → va_D A ws → va_S A s.heap H locs → W pr l e rm s m args below meth c H locs 0 0 Q (F0 m pc ls rest)) →
      (∀ (ik is ic : Nat) (text : String) (pc : Nat) (H : Heap) (locs : List Loc) (ls : Array Slot) (rest : List Value), Ex = "java/util/NoSuchElementException" → (Cond.classLink y.cls ik "java/util/NoSuchElementException").before args s = true → (Cond.initialized "java/util/NoSuchElementException").before args s = true → (∃ sa, vk_R y.cls is text sa s) → (∀ w ∈ vx_atN y.cls ic, w.before args s = true) → (∀ w ∈ Cond.classLink y.cls ik "java/util/NoSuchElementException" :: Cond.initialized "java/util/NoSuchElementException" :: vx_atN y.cls ic, vx_ot w = true) →
        decode cc pc = .ok (.new ik, 3) → decode cc (pc + 3) = .ok (.dup, 1) → decode cc (pc + 4) = .ok (.ldc is, 2) → decode cc (pc + 6) = .ok (.invokespecial ic, 3) → decode cc (pc + 9) = .ok (.athrow, 1) → ls.size = maxL → (rest.map fun v => v.category).sum ≤ 8 → va_P E.1 vwCl ws H → va_D A ws → va_S A s.heap H locs → W pr l e rm s m args below meth c H locs 0 0 Q (F0 m pc ls rest)) →
      va_P E.1 vwCl ws s.heap → va_D A ws → (∀ q, s.heap.size ≤ q → A q) → va_S A s.heap s.heap [] → ∀ ls : Array Slot, lv_has ls maxL (lv_args 0 av) → W pr l e rm s m args below meth c s.heap [] 0 0 Q (F0 m 0 ls [])) : XT l E y wl rm av ws Ex := by
  intro sz
  refine vx_ofW (cc := cc) (maxL := maxL) (ret := ret) hy hw ?_
  intro pr e s m args below meth c s₁ B hml htab hv
  obtain ⟨rfl, ⟨hsz, hP, hK, hD0⟩, hC, hT, hZ⟩ := hv
  subst hsz
  have hD := hD0.self (sz := s.heap.size)
  have hl := lv_entry av (n := maxL) hlen
  rw [lg_entry_eq]
  refine body pr e s m av.toArray below meth c _ _ B.exec B.bytes hml (findClass_of_methodNamed B.named) (atoms_spec (ws := wl) B.pre) hK hC hT hZ ?_ ?_ ?_ hP hD (fun q h => Or.inr h) va_S.rf _ hl
  · intro pc ls rest H locs q9 ce hP hD hS h1 h2 h3
    exact vx_out (fun x hx => (htab x hx).elim) B.notSynchronized h1 h2 h3 (fun t ht _ => ⟨(), trivial, ⟨rfl, by rw [ht]; exact hP, hD⟩, hS.F ht⟩) hS.2.2 (Nat.le_refl _) (Nat.le_refl _)
  · intro ik is ic text pc H locs ls rest hfit hk hini hstr hat hgood d0 d3 d4 d6 d9 hsize hrest hP hD hS
    obtain ⟨sa, hsa⟩ := hstr
    refine vx_throwS B.exec B.bytes hfl (findClass_of_methodNamed B.named) hfit (by decide) hk hini hsa hat hgood hZ.1 hZ.2 hS (hsize.trans hml.symm) d0 d3 d4 d6 d9 (fun x hx => (htab x hx).elim) hfr ?_ hce hsl B.notSynchronized ?_ hS.2.2 (Nat.le_refl _) (Nat.le_refl _)
    · show _ + (13 * (2 + 1) + 43) ≤ rm.locals
      omega
    · intro t ha hle hq
      refine ⟨(), trivial, ⟨rfl, hP.kept (fun k q hk => hq q.1 (hP k q hk).lt), hD⟩, ⟨Nat.le_trans hS.1 hle, fun q h1 h2 => ?_⟩⟩
      rw [hq q (Nat.lt_of_lt_of_le h1 hS.1)]
      exact hS.2.1 q h1 h2
  · intro ik is ic text pc H locs ls rest hEx hk hini hstr hat hgood d0 d3 d4 d6 d9 hsize hrest hP hD hS
    obtain ⟨sa, hsa⟩ := hstr
    subst hEx
    refine qn_throw B.exec B.bytes hfl (findClass_of_methodNamed B.named) hk hini hsa hat hgood hZ.1 hZ.2 hS (hsize.trans hml.symm) d0 d3 d4 d6 d9 (fun x hx => (htab x hx).elim) hfr ?_ hce hsl B.notSynchronized ?_ hS.2.2 (Nat.le_refl _) (Nat.le_refl _)
    · show _ + (13 * (2 + 1) + 43) ≤ rm.locals
      omega
    · intro t ha hle hq
      refine ⟨(), trivial, ⟨rfl, hP.kept (fun k q hk => hq q.1 (hP k q hk).lt), hD⟩, ⟨Nat.le_trans hS.1 hle, fun q h1 h2 => ?_⟩⟩
      rw [hq q (Nat.lt_of_lt_of_le h1 hS.1)]
      exact hS.2.1 q h1 h2
theorem pm_3_01 {b0 b1 b2 : va_W} : (b0 ++ (b1 ++ b2)).Perm ((b0 ++ b1) ++ (b2)) := by
  try simp only [List.append_assoc]
  exact List.Perm.refl _
theorem pm_3_2 {b0 b1 b2 : va_W} : (b0 ++ (b1 ++ b2)).Perm ((b2) ++ (b0 ++ b1)) := by
  try simp only [List.append_assoc]
  refine List.Perm.trans (List.Perm.append_left _ List.perm_append_comm) ?_
  refine List.Perm.trans (List.perm_append_comm_assoc _ _ _) ?_
  exact List.Perm.refl _
theorem pm_4_31 {b0 b1 b2 b3 : va_W} : (b0 ++ (b1 ++ (b2 ++ b3))).Perm ((b3 ++ b1) ++ (b0 ++ b2)) := by
  try simp only [List.append_assoc]
  refine List.Perm.trans (List.Perm.append_left _ (List.Perm.append_left _ List.perm_append_comm)) ?_
  refine List.Perm.trans (List.Perm.append_left _ (List.perm_append_comm_assoc _ _ _)) ?_
  refine List.Perm.trans (List.perm_append_comm_assoc _ _ _) ?_
  refine List.Perm.trans (List.Perm.append_left _ (List.perm_append_comm_assoc _ _ _)) ?_
  exact List.Perm.refl _
theorem pm_4_21 {b0 b1 b2 b3 : va_W} : (b0 ++ (b1 ++ (b2 ++ b3))).Perm ((b2 ++ b1) ++ (b0 ++ b3)) := by
  try simp only [List.append_assoc]
  refine List.Perm.trans (List.Perm.append_left _ (List.perm_append_comm_assoc _ _ _)) ?_
  refine List.Perm.trans (List.perm_append_comm_assoc _ _ _) ?_
  refine List.Perm.trans (List.Perm.append_left _ (List.perm_append_comm_assoc _ _ _)) ?_
  exact List.Perm.refl _
theorem pm_4_013 {b0 b1 b2 b3 : va_W} : (b0 ++ (b1 ++ (b2 ++ b3))).Perm ((b0 ++ (b1 ++ b3)) ++ (b2)) := by
  try simp only [List.append_assoc]
  refine List.Perm.trans (List.Perm.append_left _ (List.Perm.append_left _ List.perm_append_comm)) ?_
  exact List.Perm.refl _
theorem pm_4_1 {b0 b1 b2 b3 : va_W} : (b0 ++ (b1 ++ (b2 ++ b3))).Perm ((b1) ++ (b0 ++ (b2 ++ b3))) := by
  try simp only [List.append_assoc]
  refine List.Perm.trans (List.perm_append_comm_assoc _ _ _) ?_
  exact List.Perm.refl _
theorem pm_4_2 {b0 b1 b2 b3 : va_W} : (b0 ++ (b1 ++ (b2 ++ b3))).Perm ((b2) ++ (b0 ++ (b1 ++ b3))) := by
  try simp only [List.append_assoc]
  refine List.Perm.trans (List.Perm.append_left _ (List.perm_append_comm_assoc _ _ _)) ?_
  refine List.Perm.trans (List.perm_append_comm_assoc _ _ _) ?_
  exact List.Perm.refl _
theorem pm_4_01 {b0 b1 b2 b3 : va_W} : (b0 ++ (b1 ++ (b2 ++ b3))).Perm ((b0 ++ b1) ++ (b2 ++ b3)) := by
  try simp only [List.append_assoc]
  exact List.Perm.refl _
theorem pm_4_312 {b0 b1 b2 b3 : va_W} : (b0 ++ (b1 ++ (b2 ++ b3))).Perm ((b3 ++ (b1 ++ b2)) ++ (b0)) := by
  try simp only [List.append_assoc]
  refine List.Perm.trans (List.Perm.append_left _ (List.Perm.append_left _ List.perm_append_comm)) ?_
  refine List.Perm.trans (List.Perm.append_left _ (List.perm_append_comm_assoc _ _ _)) ?_
  refine List.Perm.trans (List.perm_append_comm_assoc _ _ _) ?_
  refine List.Perm.trans (List.Perm.append_left _ (List.perm_append_comm_assoc _ _ _)) ?_
  refine List.Perm.trans (List.Perm.append_left _ (List.Perm.append_left _ List.perm_append_comm)) ?_
  exact List.Perm.refl _
theorem pm_4_3 {b0 b1 b2 b3 : va_W} : (b0 ++ (b1 ++ (b2 ++ b3))).Perm ((b3) ++ (b0 ++ (b1 ++ b2))) := by
  try simp only [List.append_assoc]
  refine List.Perm.trans (List.Perm.append_left _ (List.Perm.append_left _ List.perm_append_comm)) ?_
  refine List.Perm.trans (List.Perm.append_left _ (List.perm_append_comm_assoc _ _ _)) ?_
  refine List.Perm.trans (List.perm_append_comm_assoc _ _ _) ?_
  exact List.Perm.refl _
theorem pm_4_012 {b0 b1 b2 b3 : va_W} : (b0 ++ (b1 ++ (b2 ++ b3))).Perm ((b0 ++ (b1 ++ b2)) ++ (b3)) := by
  try simp only [List.append_assoc]
  exact List.Perm.refl _
