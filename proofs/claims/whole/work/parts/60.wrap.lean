/-! OWN: the law's wrappers: what is thrown is caught -/
def qXN (U : State) : Prop := va_Nc "java/lang/UnsupportedOperationException" "java/lang/IllegalArgumentException" U ∧ va_Nc "java/lang/IllegalArgumentException" "java/lang/IndexOutOfBoundsException" U ∧ va_Nc "java/lang/UnsupportedOperationException" "java/lang/IndexOutOfBoundsException" U ∧ va_Nc "java/util/NoSuchElementException" "java/lang/IndexOutOfBoundsException" U ∧ va_Nc "java/util/NoSuchElementException" "java/lang/IllegalArgumentException" U
theorem qXN.moved {u U : State} (hvm : u.vm.Alike U.vm) (h : qXN u) : qXN U := ⟨va_Nc.moved hvm h.1, va_Nc.moved hvm h.2.1, va_Nc.moved hvm h.2.2.1, va_Nc.moved hvm h.2.2.2.1, va_Nc.moved hvm h.2.2.2.2⟩
def qPreW (E : qE) (sz : Nat) (ws : va_W) : State → Prop := fun U => qPreX E sz ws U ∧ qXN U
theorem qw_blind {E : qE} {sz : Nat} {ws : va_W} {av : List Value} : FrameBlind (va_Pc av (qPreW E sz ws)) := by
  intro a U g mk q
  obtain ⟨q0, q1, q2⟩ := q
  obtain ⟨r0, r1⟩ := qx_blind (E := E) (sz := sz) (ws := ws) (av := av) a U g mk ⟨q0, q1⟩
  exact ⟨r0, r1, qXN.moved (u := U) (U := U.calling g mk a) (Vm.Alike.refl U.vm) q2⟩
def MW (l : Launch) (E : qE) (y : MethodName) (wl : List Cond) (rm : Room) (av : List Value) (ws ws' : va_W) (r : Int32) : Prop := ∀ sz : Nat, Met l y wl rm (va_Pc av (qPreW E sz ws)) (va_Qi (fun (r' : Int32) (_ : Unit) => r' = r) (qPost E sz ws ws') (va_A ws sz)) 1 6 (va_A ws sz)
def qW {α β : Type} (o : Sum String α) (f : String → Option β) (k : α → Option β) : Option β := match o with
  | .inl x => f x
  | .inr v => k v
theorem qW_l {α β : Type} {x : String} {f : String → Option β} {k : α → Option β} {o : β} (h : qW (Sum.inl x) f k = some o) : f x = some o := h
theorem qW_r {α β : Type} {v : α} {f : String → Option β} {k : α → Option β} {o : β} (h : qW (Sum.inr v) f k = some o) : k v = some o := h
theorem q_startW {l : Launch} {E : qE} {y : MethodName} {wl wl' : List Cond} {rm : Room} {av : List Value} {ws ws' : va_W} {r : Int32} {cc : ByteArray} {maxL : Nat} {hh : List (Nat × Nat × Nat × Nat)} (hy : plainName y.cls = true) (hw : wl = Cond.codeWith y cc maxL (some .int) hh :: wl') (hlen : (lg_sl av).length ≤ maxL)
    (body : ∀ (pr : Program) (e : Env) (s : State) (m : MethodId) (args : Array Value) (below : List Frame) (meth : Method) (c : Code) (A : Nat → Prop) (Q : State → Prop), pr.tables.exec = Jvm.exec → c.code = cc → c.maxLocals = maxL → s.vm.findClass y.cls = some m.cls → (∀ w ∈ wl, w.before args s = true) → qK E s → qXC s → qXS s → qXZ A s s.heap → qXN s → c.exceptionTable.toList = tableOf hh →
      (∀ (pc : Nat) (H : Heap) (locs : List Loc) (ls : Array Slot), decode cc pc = .ok (.ireturn, 1) → va_P E.1 vwCl ws' H → va_D A ws' → va_S A s.heap H locs → W pr l e rm s m args below meth c H locs 1 6 Q (F0 m pc ls [.int r])) →
      va_P E.1 vwCl ws s.heap → va_D A ws → (∀ q, s.heap.size ≤ q → A q) → va_S A s.heap s.heap [] → ∀ ls : Array Slot, lv_has ls maxL (lv_args 0 av) → W pr l e rm s m args below meth c s.heap [] 0 0 Q (F0 m 0 ls [])) : MW l E y wl rm av ws ws' r := by
  intro sz
  refine va_MetW (cc := cc) (maxL := maxL) (ret := some .int) (hh := hh) hy hw ?_
  intro pr e s m args below meth c s₁ B hml hv
  obtain ⟨rfl, ⟨⟨hsz, hP, hK, hD0⟩, hC, hT, hZ⟩, hN⟩ := hv
  subst hsz
  have hD := hD0.self (sz := s.heap.size)
  have hl := lv_entry av (n := maxL) hlen
  have hts := atoms_spec (ws := wl) B.pre
  have htab := vx_table (x := y) B (hts (Cond.codeWith y cc maxL (some .int) hh) (by rw [hw]; exact List.mem_cons_self))
  rw [lg_entry_eq]
  exact body pr e s m av.toArray below meth c _ _ B.exec B.bytes hml (findClass_of_methodNamed B.named) hts hK hC hT hZ hN htab (fun pc H locs ls hd hP hD hS => W.iret B.exec B.bytes B.returns (fun t ht hW => ⟨⟨r, (), rfl, rfl, by rw [ht]; exact hP, hD⟩, hS.F ht⟩) hS.2.2 hd B.notSynchronized) hP hD (fun q h => Or.inr h) va_S.rf _ hl
section QW
variable {p : Program} {l : Launch} {e : Env} {R : Room} {s : State} {m : MethodId} {args : Array Value} {below : List Frame} {meth : Method} {c : Code} {H : Heap} {locs : List Loc} {cells slots : Nat} {Q : State → Prop}
variable {E : qE} {pc : Nat} {ls : Array Slot} {rest st0 : List Value} {av : Array Value} {A : Nat → Prop} {H0 : Heap} {w0 wc wc' wr w1 : va_W}
theorem qw_preS {As : List Value} {locs0 : List Loc} (hK : qK E s) (hC : qXC s) (hT : qXS s) (hZ : qXZ A s s.heap) (hN : qXN s) (hS : va_S A s.heap H locs0) (hA : ∀ q, s.heap.size ≤ q → A q) (hP : va_P E.1 vwCl w0 H) (hD : va_D A w0) (pm : w0.Perm (wc ++ wr)) : PreS s H (va_Pc As (qPreW E H.size wc)) As :=
  ⟨qw_blind, fun U hU hW => ⟨rfl, ((qx_preS (As := As) hK hC hT hZ hS hA hP hD pm).2 U hU hW).2, qXN.moved hW.alike hN⟩⟩
theorem q_ciW {r : Int32} {mc ms : Nat} (hr : va_Run p l e R s m args below meth c H locs cells slots mc ms (F0 m pc ls st0) rest (va_Qi (fun (r' : Int32) (_ : Unit) => r' = r) (qPost E H.size wc wc') (va_A wc H.size) av) (va_A wc H.size)) (hP : va_P E.1 vwCl w0 H) (hD : va_D A w0) (hS : va_S A H0 H locs) (hA : ∀ q, H0.size ≤ q → A q) (p1 : w0.Perm (wc ++ wr)) (p2 : (wc' ++ wr).Perm w1)
    (kk : ∀ (H1 : Heap) (locs1 : List Loc), va_P E.1 vwCl w1 H1 → va_D A w1 → va_S A H0 H1 locs1 → W p l e R s m args below meth c H1 locs1 (cells + mc) (slots + ms) Q (F0 m (pc + 3) ls (.int r :: rest))) : W p l e R s m args below meth c H locs cells slots Q (F0 m pc ls st0) := by
  have hF := q_free (q_Dm p1 hD) hS hA
  refine va_calli hr hS (fun q _ h => hF q h) hF (fun r' u t H1 locs1 ht _ e hB _ hk hS1 => ?_)
  subst e
  obtain ⟨hP1, hD1⟩ := hB
  rw [ht] at hP1
  obtain ⟨g1, g2⟩ := q_join (q_Pm p1 hP) (q_Dm p1 hD) hk hF hP1 hD1
  exact kk H1 locs1 (q_Pm p2 g1) (q_Dm p2 g2) hS1
end QW
theorem pm_5_0123 {b0 b1 b2 b3 b4 : va_W} : (b0 ++ (b1 ++ (b2 ++ (b3 ++ b4)))).Perm ((b0 ++ (b1 ++ (b2 ++ b3))) ++ (b4)) := by
  try simp only [List.append_assoc]
  exact List.Perm.refl _
def mL_place (vQ : Int32) (vN : SN) (vO : qJ) (x1 : Int32) (x2 : Int32) (x3 : Int32) : Option (Int32 × Int32 × SN × qJ) := (mX4_place vQ vN x1 x2 x3).bind fun o1 => qW o1 (fun x => if x = "java/lang/IllegalArgumentException" then some (1, vQ, vN, vO) else (if x = "java/lang/UnsupportedOperationException" then some (2, vQ, vN, vO) else (none))) fun vo1 => ck 0 1 (some (0, vo1.2.1, vo1.2.2, (vp_updL vO (Int32.toNatClampNeg 0) (Int32.toInt64 vo1.1))))
def rmL_place : Room := { frames := 9, cells := 1, slots := 6, locals := 158 }
set_option maxHeartbeats 8000000 in
set_option maxRecDepth 100000 in
theorem wL_place (l : Launch) (hfl : l.stackTraces = false) (E : qE) (aQ : Nat) (aN : Nat → Nat) (aT : Nat → Nat) (aF : Nat → Nat) (aP : Nat → Nat) (aR : Nat → Nat) (aO : Nat) (vQ : Int32) (vN : SN) (vO : qJ) (x1 : Int32) (x2 : Int32) (x3 : Int32) (o : Int32 × Int32 × SN × qJ) (h : mL_place vQ vN vO x1 x2 x3 = some o) : MW l E yL_place wsL_place rmL_place [.ref aQ, .int x1, .int x2, .int x3, .ref aO] (WQ aQ aN aT aF aP aR vQ ++ (WN E aN vN ++ WO E aO vO)) (WQ aQ aN aT aF aP aR o.2.1 ++ (WN E aN o.2.2.1 ++ WO E aO o.2.2.2)) o.1 := by
  refine q_startW (cc := cL_place) (maxL := 6) (hh := [(0, 12, 15, 13), (0, 12, 19, 15)]) (by decide) rfl (Nat.le_of_ble_eq_true rfl) ?_
  intro pr e s m args below meth c A Q hx hb hml hown hts hK hC hT hZ hN htab hRt hP hD hA hS ls hl
  have hl : lv_has ls 6 [(0, .ref aQ), (1, .int x1), (2, .int x2), (3, .int x3), (4, .ref aO)] := hl
  have hw0 := hts (.classLink RL 13 "java/lang/IllegalArgumentException") (by decide +kernel)
  have hw1 := hts (.classLink RL 15 "java/lang/UnsupportedOperationException") (by decide +kernel)
  unfold mL_place at h
  refine lv_aload hx hb dL_place_0 (lv_at hl 4 rfl) ?_
  refine lv_iconst (v := 0) hx hb dL_place_2 (by decide) ?_
  refine lv_aload_n hx hb dL_place_3 rfl (lv_at hl 0 rfl) ?_
  refine lv_iload_n hx hb dL_place_4 rfl (lv_at hl 1 rfl) ?_
  refine lv_iload_n hx hb dL_place_5 rfl (lv_at hl 2 rfl) ?_
  refine lv_iload_n hx hb dL_place_6 rfl (lv_at hl 3 rfl) ?_
  obtain ⟨o1, e2, h⟩ := q_bind h
  rcases o1 with X3 | vo1
  · have h := qW_l h
    by_cases c4 : X3 = "java/lang/IllegalArgumentException"
    · have h := q_pos c4 h
      subst c4
      refine qx_c (vx_runV (As := [.int x1, .int x2, .int x3]) (rest := [.int 0, .ref aO]) ⟨hx, hb, hml, hown, hts⟩ (xX4_place l hfl E aQ aN aT aF aP aR vQ vN x1 x2 x3 _ e2 _) (cwV 3 hts gL_place_X4_place rfl rfl rfl (by decide +kernel) ⟨Nat.le_of_ble_eq_true rfl, Nat.le_of_ble_eq_true rfl⟩) (qx_preV hK hC hT hZ hS hA hP hD pm_3_01 4 0 rfl rfl) rfl rfl hl.1 rfl (lv_room (Nat.le_of_ble_eq_true rfl)) dL_place_7 ⟨Nat.le_of_ble_eq_true rfl, Nat.le_of_ble_eq_true rfl⟩) hP hD hS hA pm_3_01 (fun H locs q9 ce hP hD hS b4 b5 b6 => ?_)
      refine vx_catch (name := "java/lang/IllegalArgumentException") hown [] ⟨0, 12, 15, 13⟩ [⟨0, 12, 19, 15⟩] (htab.trans rfl) (fun z hz => nomatch hz) (by decide) (by decide) hw0 (va_Nw.use rfl hC.1) b4 b5 b6 ?_
      refine lv_astore (lv' := [(5, .ref q9), (0, .ref aQ), (1, .int x1), (2, .int x2), (3, .int x3), (4, .ref aO)]) hx hb dL_place_15 hl (by decide) rfl (fun ls hl => ?_)
      refine lv_iconst (v := 1) hx hb dL_place_17 (by decide) ?_
      obtain rfl := q_inj h
      exact hRt 18 _ _ _ dL_place_18 hP hD hS
    have h := q_neg c4 h
    by_cases c5 : X3 = "java/lang/UnsupportedOperationException"
    · have h := q_pos c5 h
      subst c5
      refine qx_c (vx_runV (As := [.int x1, .int x2, .int x3]) (rest := [.int 0, .ref aO]) ⟨hx, hb, hml, hown, hts⟩ (xX4_place l hfl E aQ aN aT aF aP aR vQ vN x1 x2 x3 _ e2 _) (cwV 3 hts gL_place_X4_place rfl rfl rfl (by decide +kernel) ⟨Nat.le_of_ble_eq_true rfl, Nat.le_of_ble_eq_true rfl⟩) (qx_preV hK hC hT hZ hS hA hP hD pm_3_01 4 0 rfl rfl) rfl rfl hl.1 rfl (lv_room (Nat.le_of_ble_eq_true rfl)) dL_place_7 ⟨Nat.le_of_ble_eq_true rfl, Nat.le_of_ble_eq_true rfl⟩) hP hD hS hA pm_3_01 (fun H locs q9 ce hP hD hS b4 b5 b6 => ?_)
      refine vx_catch (name := "java/lang/UnsupportedOperationException") hown [⟨0, 12, 15, 13⟩] ⟨0, 12, 19, 15⟩ [] (htab.trans rfl) (fun z hz => by rw [List.mem_singleton.mp hz]; exact Or.inr ⟨by decide, "java/lang/IllegalArgumentException", hw0, hN.1⟩) (by decide) (by decide) hw1 (va_Nw.use rfl hC.2.1) b4 b5 b6 ?_
      refine lv_astore (lv' := [(5, .ref q9), (0, .ref aQ), (1, .int x1), (2, .int x2), (3, .int x3), (4, .ref aO)]) hx hb dL_place_19 hl (by decide) rfl (fun ls hl => ?_)
      refine lv_iconst (v := 2) hx hb dL_place_21 (by decide) ?_
      obtain rfl := q_inj h
      exact hRt 22 _ _ _ dL_place_22 hP hD hS
    have h := q_neg c5 h
    cases h
  have h := qW_r h
  refine q_ci (va_runV (As := [.int x1, .int x2, .int x3]) (rest := [.int 0, .ref aO]) ⟨hx, hb, hml, hown, hts⟩ (wX4_place l E aQ aN aT aF aP aR vQ vN x1 x2 x3 vo1 e2 _) (cwV 3 hts gL_place_X4_place rfl rfl rfl (by decide +kernel) ⟨Nat.le_of_ble_eq_true rfl, Nat.le_of_ble_eq_true rfl⟩) (q_preV hK hP hD pm_3_01 4 0 rfl rfl) rfl rfl hl.1 rfl (lv_room (Nat.le_of_ble_eq_true rfl)) dL_place_7 ⟨Nat.zero_le _, Nat.zero_le _⟩) hP hD hS hA pm_3_01 pm_3_01.symm (fun H locs hP hD hS => ?_)
  refine W.widen (k := 1) (n := 6) (Nat.le_of_ble_eq_true rfl) (Nat.le_of_ble_eq_true rfl) ?_
  refine lv_i2l hx hb dL_place_10 rfl ?_
  obtain ⟨i6, h⟩ := q_ck h
  refine va_last (f := vO) hx hb hK.1 hP hD hS 10 1 rfl rfl i6 dL_place_11 (fun H locs hP hD hS => ?_)
  have hP : va_P E.1 vwCl (WQ aQ aN aT aF aP aR vo1.2.1 ++ (WN E aN vo1.2.2 ++ WO E aO (vp_updL vO (Int32.toNatClampNeg 0) (Int32.toInt64 vo1.1)))) H := hP
  have hD : va_D A (WQ aQ aN aT aF aP aR vo1.2.1 ++ (WN E aN vo1.2.2 ++ WO E aO (vp_updL vO (Int32.toNatClampNeg 0) (Int32.toInt64 vo1.1)))) := hD
  refine lv_goto (tgt := 23) hx hb dL_place_12 (by decide) ?_
  refine lv_iconst (v := 0) hx hb dL_place_23 (by decide) ?_
  obtain rfl := q_inj h
  exact hRt 24 _ _ _ dL_place_24 hP hD hS
def mL_change (vQ : Int32) (vN : SN) (x1 : Int32) (x2 : Int32) (x3 : Int32) (x4 : Int32) : Option (Int32 × Int32 × SN) := (mX4_change vQ vN x1 x2 x3 x4).bind fun o1 => qW o1 (fun x => if x = "java/lang/IndexOutOfBoundsException" then some (1, vQ, vN) else (if x = "java/lang/IllegalArgumentException" then some (2, vQ, vN) else (none))) fun vo1 => some (0, vo1.1, vo1.2)
def rmL_change : Room := { frames := 9, cells := 1, slots := 6, locals := 158 }
set_option maxHeartbeats 8000000 in
set_option maxRecDepth 100000 in
theorem wL_change (l : Launch) (hfl : l.stackTraces = false) (E : qE) (aQ : Nat) (aN : Nat → Nat) (aT : Nat → Nat) (aF : Nat → Nat) (aP : Nat → Nat) (aR : Nat → Nat) (vQ : Int32) (vN : SN) (x1 : Int32) (x2 : Int32) (x3 : Int32) (x4 : Int32) (o : Int32 × Int32 × SN) (h : mL_change vQ vN x1 x2 x3 x4 = some o) : MW l E yL_change wsL_change rmL_change [.ref aQ, .int x1, .int x2, .int x3, .int x4] (WQ aQ aN aT aF aP aR vQ ++ WN E aN vN) (WQ aQ aN aT aF aP aR o.2.1 ++ WN E aN o.2.2) o.1 := by
  refine q_startW (cc := cL_change) (maxL := 6) (hh := [(0, 9, 12, 21), (0, 9, 16, 13)]) (by decide) rfl (Nat.le_of_ble_eq_true rfl) ?_
  intro pr e s m args below meth c A Q hx hb hml hown hts hK hC hT hZ hN htab hRt hP hD hA hS ls hl
  have hl : lv_has ls 6 [(0, .ref aQ), (1, .int x1), (2, .int x2), (3, .int x3), (4, .int x4)] := hl
  have hw0 := hts (.classLink RL 21 "java/lang/IndexOutOfBoundsException") (by decide +kernel)
  have hw1 := hts (.classLink RL 13 "java/lang/IllegalArgumentException") (by decide +kernel)
  unfold mL_change at h
  refine lv_aload_n hx hb dL_change_0 rfl (lv_at hl 0 rfl) ?_
  refine lv_iload_n hx hb dL_change_1 rfl (lv_at hl 1 rfl) ?_
  refine lv_iload_n hx hb dL_change_2 rfl (lv_at hl 2 rfl) ?_
  refine lv_iload_n hx hb dL_change_3 rfl (lv_at hl 3 rfl) ?_
  refine lv_iload hx hb dL_change_4 (lv_at hl 4 rfl) ?_
  obtain ⟨o1, e2, h⟩ := q_bind h
  rcases o1 with X3 | vo1
  · have h := qW_l h
    by_cases c4 : X3 = "java/lang/IndexOutOfBoundsException"
    · have h := q_pos c4 h
      subst c4
      refine qx_c (vx_runV (As := [.int x1, .int x2, .int x3, .int x4]) (rest := []) ⟨hx, hb, hml, hown, hts⟩ (xX4_change l hfl E aQ aN aT aF aP aR vQ vN x1 x2 x3 x4 _ e2 _) (cwV 4 hts gL_change_X4_change rfl rfl rfl (by decide +kernel) ⟨Nat.le_of_ble_eq_true rfl, Nat.le_of_ble_eq_true rfl⟩) (qx_preV hK hC hT hZ hS hA hP hD q_idl 4 0 rfl rfl) rfl rfl hl.1 rfl (lv_room (Nat.le_of_ble_eq_true rfl)) dL_change_6 ⟨Nat.le_of_ble_eq_true rfl, Nat.le_of_ble_eq_true rfl⟩) hP hD hS hA q_idl (fun H locs q9 ce hP hD hS b4 b5 b6 => ?_)
      refine vx_catch (name := "java/lang/IndexOutOfBoundsException") hown [] ⟨0, 9, 12, 21⟩ [⟨0, 9, 16, 13⟩] (htab.trans rfl) (fun z hz => nomatch hz) (by decide) (by decide) hw0 (va_Nw.use rfl hC.2.2.1) b4 b5 b6 ?_
      refine lv_astore (lv' := [(5, .ref q9), (0, .ref aQ), (1, .int x1), (2, .int x2), (3, .int x3), (4, .int x4)]) hx hb dL_change_12 hl (by decide) rfl (fun ls hl => ?_)
      refine lv_iconst (v := 1) hx hb dL_change_14 (by decide) ?_
      obtain rfl := q_inj h
      exact hRt 15 _ _ _ dL_change_15 hP hD hS
    have h := q_neg c4 h
    by_cases c5 : X3 = "java/lang/IllegalArgumentException"
    · have h := q_pos c5 h
      subst c5
      refine qx_c (vx_runV (As := [.int x1, .int x2, .int x3, .int x4]) (rest := []) ⟨hx, hb, hml, hown, hts⟩ (xX4_change l hfl E aQ aN aT aF aP aR vQ vN x1 x2 x3 x4 _ e2 _) (cwV 4 hts gL_change_X4_change rfl rfl rfl (by decide +kernel) ⟨Nat.le_of_ble_eq_true rfl, Nat.le_of_ble_eq_true rfl⟩) (qx_preV hK hC hT hZ hS hA hP hD q_idl 4 0 rfl rfl) rfl rfl hl.1 rfl (lv_room (Nat.le_of_ble_eq_true rfl)) dL_change_6 ⟨Nat.le_of_ble_eq_true rfl, Nat.le_of_ble_eq_true rfl⟩) hP hD hS hA q_idl (fun H locs q9 ce hP hD hS b4 b5 b6 => ?_)
      refine vx_catch (name := "java/lang/IllegalArgumentException") hown [⟨0, 9, 12, 21⟩] ⟨0, 9, 16, 13⟩ [] (htab.trans rfl) (fun z hz => by rw [List.mem_singleton.mp hz]; exact Or.inr ⟨by decide, "java/lang/IndexOutOfBoundsException", hw0, hN.2.1⟩) (by decide) (by decide) hw1 (va_Nw.use rfl hC.1) b4 b5 b6 ?_
      refine lv_astore (lv' := [(5, .ref q9), (0, .ref aQ), (1, .int x1), (2, .int x2), (3, .int x3), (4, .int x4)]) hx hb dL_change_16 hl (by decide) rfl (fun ls hl => ?_)
      refine lv_iconst (v := 2) hx hb dL_change_18 (by decide) ?_
      obtain rfl := q_inj h
      exact hRt 19 _ _ _ dL_change_19 hP hD hS
    have h := q_neg c5 h
    cases h
  have h := qW_r h
  refine q_cv (va_runV (As := [.int x1, .int x2, .int x3, .int x4]) (rest := []) ⟨hx, hb, hml, hown, hts⟩ (wX4_change l E aQ aN aT aF aP aR vQ vN x1 x2 x3 x4 vo1 e2 _) (cwV 4 hts gL_change_X4_change rfl rfl rfl (by decide +kernel) ⟨Nat.le_of_ble_eq_true rfl, Nat.le_of_ble_eq_true rfl⟩) (q_preV hK hP hD q_idl 4 0 rfl rfl) rfl rfl hl.1 rfl (lv_room (Nat.le_of_ble_eq_true rfl)) dL_change_6 ⟨Nat.zero_le _, Nat.zero_le _⟩) hP hD hS hA q_idl q_idr (fun H locs hP hD hS => ?_)
  refine W.widen (k := 1) (n := 6) (Nat.le_of_ble_eq_true rfl) (Nat.le_of_ble_eq_true rfl) ?_
  refine lv_goto (tgt := 20) hx hb dL_change_9 (by decide) ?_
  refine lv_iconst (v := 0) hx hb dL_change_20 (by decide) ?_
  obtain rfl := q_inj h
  exact hRt 21 _ _ _ dL_change_21 hP hD hS
def mL_ask (vQ : Int32) (vN : SN) (vO : qJ) (x1 : Int32) (x2 : Int32) (x3 : Int32) (x4 : Int32) : Option (Int32 × Int32 × SN × qJ) := (mX4_ask vQ vN x1 x2 x3 x4).bind fun o1 => qW o1 (fun x => if x = "java/lang/IndexOutOfBoundsException" then some (1, vQ, vN, vO) else (if x = "java/lang/IllegalArgumentException" then some (2, vQ, vN, vO) else (if x = "java/lang/UnsupportedOperationException" then some (3, vQ, vN, vO) else (none)))) fun vo1 => ck 0 1 (some (0, vo1.2.1, vo1.2.2, (vp_updL vO (Int32.toNatClampNeg 0) (Int32.toInt64 vo1.1))))
def rmL_ask : Room := { frames := 8, cells := 1, slots := 6, locals := 137 }
set_option maxHeartbeats 8000000 in
set_option maxRecDepth 100000 in
theorem wL_ask (l : Launch) (hfl : l.stackTraces = false) (E : qE) (aQ : Nat) (aN : Nat → Nat) (aT : Nat → Nat) (aF : Nat → Nat) (aP : Nat → Nat) (aR : Nat → Nat) (aO : Nat) (vQ : Int32) (vN : SN) (vO : qJ) (x1 : Int32) (x2 : Int32) (x3 : Int32) (x4 : Int32) (o : Int32 × Int32 × SN × qJ) (h : mL_ask vQ vN vO x1 x2 x3 x4 = some o) : MW l E yL_ask wsL_ask rmL_ask [.ref aQ, .int x1, .int x2, .int x3, .int x4, .ref aO] (WQ aQ aN aT aF aP aR vQ ++ (WN E aN vN ++ WO E aO vO)) (WQ aQ aN aT aF aP aR o.2.1 ++ (WN E aN o.2.2.1 ++ WO E aO o.2.2.2)) o.1 := by
  refine q_startW (cc := cL_ask) (maxL := 7) (hh := [(0, 14, 17, 21), (0, 14, 21, 13), (0, 14, 25, 15)]) (by decide) rfl (Nat.le_of_ble_eq_true rfl) ?_
  intro pr e s m args below meth c A Q hx hb hml hown hts hK hC hT hZ hN htab hRt hP hD hA hS ls hl
  have hl : lv_has ls 7 [(0, .ref aQ), (1, .int x1), (2, .int x2), (3, .int x3), (4, .int x4), (5, .ref aO)] := hl
  have hw0 := hts (.classLink RL 21 "java/lang/IndexOutOfBoundsException") (by decide +kernel)
  have hw1 := hts (.classLink RL 13 "java/lang/IllegalArgumentException") (by decide +kernel)
  have hw2 := hts (.classLink RL 15 "java/lang/UnsupportedOperationException") (by decide +kernel)
  unfold mL_ask at h
  refine lv_aload hx hb dL_ask_0 (lv_at hl 5 rfl) ?_
  refine lv_iconst (v := 0) hx hb dL_ask_2 (by decide) ?_
  refine lv_aload_n hx hb dL_ask_3 rfl (lv_at hl 0 rfl) ?_
  refine lv_iload_n hx hb dL_ask_4 rfl (lv_at hl 1 rfl) ?_
  refine lv_iload_n hx hb dL_ask_5 rfl (lv_at hl 2 rfl) ?_
  refine lv_iload_n hx hb dL_ask_6 rfl (lv_at hl 3 rfl) ?_
  refine lv_iload hx hb dL_ask_7 (lv_at hl 4 rfl) ?_
  obtain ⟨o1, e2, h⟩ := q_bind h
  rcases o1 with X3 | vo1
  · have h := qW_l h
    by_cases c4 : X3 = "java/lang/IndexOutOfBoundsException"
    · have h := q_pos c4 h
      subst c4
      refine qx_c (vx_runV (As := [.int x1, .int x2, .int x3, .int x4]) (rest := [.int 0, .ref aO]) ⟨hx, hb, hml, hown, hts⟩ (xX4_ask l hfl E aQ aN aT aF aP aR vQ vN x1 x2 x3 x4 _ e2 _) (cwV 4 hts gL_ask_X4_ask rfl rfl rfl (by decide +kernel) ⟨Nat.le_of_ble_eq_true rfl, Nat.le_of_ble_eq_true rfl⟩) (qx_preV hK hC hT hZ hS hA hP hD pm_3_01 4 0 rfl rfl) rfl rfl hl.1 rfl (lv_room (Nat.le_of_ble_eq_true rfl)) dL_ask_9 ⟨Nat.le_of_ble_eq_true rfl, Nat.le_of_ble_eq_true rfl⟩) hP hD hS hA pm_3_01 (fun H locs q9 ce hP hD hS b4 b5 b6 => ?_)
      refine vx_catch (name := "java/lang/IndexOutOfBoundsException") hown [] ⟨0, 14, 17, 21⟩ [⟨0, 14, 21, 13⟩, ⟨0, 14, 25, 15⟩] (htab.trans rfl) (fun z hz => nomatch hz) (by decide) (by decide) hw0 (va_Nw.use rfl hC.2.2.1) b4 b5 b6 ?_
      refine lv_astore (lv' := [(6, .ref q9), (0, .ref aQ), (1, .int x1), (2, .int x2), (3, .int x3), (4, .int x4), (5, .ref aO)]) hx hb dL_ask_17 hl (by decide) rfl (fun ls hl => ?_)
      refine lv_iconst (v := 1) hx hb dL_ask_19 (by decide) ?_
      obtain rfl := q_inj h
      exact hRt 20 _ _ _ dL_ask_20 hP hD hS
    have h := q_neg c4 h
    by_cases c5 : X3 = "java/lang/IllegalArgumentException"
    · have h := q_pos c5 h
      subst c5
      refine qx_c (vx_runV (As := [.int x1, .int x2, .int x3, .int x4]) (rest := [.int 0, .ref aO]) ⟨hx, hb, hml, hown, hts⟩ (xX4_ask l hfl E aQ aN aT aF aP aR vQ vN x1 x2 x3 x4 _ e2 _) (cwV 4 hts gL_ask_X4_ask rfl rfl rfl (by decide +kernel) ⟨Nat.le_of_ble_eq_true rfl, Nat.le_of_ble_eq_true rfl⟩) (qx_preV hK hC hT hZ hS hA hP hD pm_3_01 4 0 rfl rfl) rfl rfl hl.1 rfl (lv_room (Nat.le_of_ble_eq_true rfl)) dL_ask_9 ⟨Nat.le_of_ble_eq_true rfl, Nat.le_of_ble_eq_true rfl⟩) hP hD hS hA pm_3_01 (fun H locs q9 ce hP hD hS b4 b5 b6 => ?_)
      refine vx_catch (name := "java/lang/IllegalArgumentException") hown [⟨0, 14, 17, 21⟩] ⟨0, 14, 21, 13⟩ [⟨0, 14, 25, 15⟩] (htab.trans rfl) (fun z hz => by rw [List.mem_singleton.mp hz]; exact Or.inr ⟨by decide, "java/lang/IndexOutOfBoundsException", hw0, hN.2.1⟩) (by decide) (by decide) hw1 (va_Nw.use rfl hC.1) b4 b5 b6 ?_
      refine lv_astore (lv' := [(6, .ref q9), (0, .ref aQ), (1, .int x1), (2, .int x2), (3, .int x3), (4, .int x4), (5, .ref aO)]) hx hb dL_ask_21 hl (by decide) rfl (fun ls hl => ?_)
      refine lv_iconst (v := 2) hx hb dL_ask_23 (by decide) ?_
      obtain rfl := q_inj h
      exact hRt 24 _ _ _ dL_ask_24 hP hD hS
    have h := q_neg c5 h
    by_cases c6 : X3 = "java/lang/UnsupportedOperationException"
    · have h := q_pos c6 h
      subst c6
      refine qx_c (vx_runV (As := [.int x1, .int x2, .int x3, .int x4]) (rest := [.int 0, .ref aO]) ⟨hx, hb, hml, hown, hts⟩ (xX4_ask l hfl E aQ aN aT aF aP aR vQ vN x1 x2 x3 x4 _ e2 _) (cwV 4 hts gL_ask_X4_ask rfl rfl rfl (by decide +kernel) ⟨Nat.le_of_ble_eq_true rfl, Nat.le_of_ble_eq_true rfl⟩) (qx_preV hK hC hT hZ hS hA hP hD pm_3_01 4 0 rfl rfl) rfl rfl hl.1 rfl (lv_room (Nat.le_of_ble_eq_true rfl)) dL_ask_9 ⟨Nat.le_of_ble_eq_true rfl, Nat.le_of_ble_eq_true rfl⟩) hP hD hS hA pm_3_01 (fun H locs q9 ce hP hD hS b4 b5 b6 => ?_)
      refine vx_catch (name := "java/lang/UnsupportedOperationException") hown [⟨0, 14, 17, 21⟩, ⟨0, 14, 21, 13⟩] ⟨0, 14, 25, 15⟩ [] (htab.trans rfl) (fun z hz => by rcases List.mem_cons.mp hz with hz | hz; rw [hz]; exact Or.inr ⟨by decide, "java/lang/IndexOutOfBoundsException", hw0, hN.2.2.1⟩; rw [List.mem_singleton.mp hz]; exact Or.inr ⟨by decide, "java/lang/IllegalArgumentException", hw1, hN.1⟩) (by decide) (by decide) hw2 (va_Nw.use rfl hC.2.1) b4 b5 b6 ?_
      refine lv_astore (lv' := [(6, .ref q9), (0, .ref aQ), (1, .int x1), (2, .int x2), (3, .int x3), (4, .int x4), (5, .ref aO)]) hx hb dL_ask_25 hl (by decide) rfl (fun ls hl => ?_)
      refine lv_iconst (v := 3) hx hb dL_ask_27 (by decide) ?_
      obtain rfl := q_inj h
      exact hRt 28 _ _ _ dL_ask_28 hP hD hS
    have h := q_neg c6 h
    cases h
  have h := qW_r h
  refine q_ci (va_runV (As := [.int x1, .int x2, .int x3, .int x4]) (rest := [.int 0, .ref aO]) ⟨hx, hb, hml, hown, hts⟩ (wX4_ask l E aQ aN aT aF aP aR vQ vN x1 x2 x3 x4 vo1 e2 _) (cwV 4 hts gL_ask_X4_ask rfl rfl rfl (by decide +kernel) ⟨Nat.le_of_ble_eq_true rfl, Nat.le_of_ble_eq_true rfl⟩) (q_preV hK hP hD pm_3_01 4 0 rfl rfl) rfl rfl hl.1 rfl (lv_room (Nat.le_of_ble_eq_true rfl)) dL_ask_9 ⟨Nat.zero_le _, Nat.zero_le _⟩) hP hD hS hA pm_3_01 pm_3_01.symm (fun H locs hP hD hS => ?_)
  refine W.widen (k := 1) (n := 6) (Nat.le_of_ble_eq_true rfl) (Nat.le_of_ble_eq_true rfl) ?_
  refine lv_i2l hx hb dL_ask_12 rfl ?_
  obtain ⟨i7, h⟩ := q_ck h
  refine va_last (f := vO) hx hb hK.1 hP hD hS 10 1 rfl rfl i7 dL_ask_13 (fun H locs hP hD hS => ?_)
  have hP : va_P E.1 vwCl (WQ aQ aN aT aF aP aR vo1.2.1 ++ (WN E aN vo1.2.2 ++ WO E aO (vp_updL vO (Int32.toNatClampNeg 0) (Int32.toInt64 vo1.1)))) H := hP
  have hD : va_D A (WQ aQ aN aT aF aP aR vo1.2.1 ++ (WN E aN vo1.2.2 ++ WO E aO (vp_updL vO (Int32.toNatClampNeg 0) (Int32.toInt64 vo1.1)))) := hD
  refine lv_goto (tgt := 29) hx hb dL_ask_14 (by decide) ?_
  refine lv_iconst (v := 0) hx hb dL_ask_29 (by decide) ?_
  obtain rfl := q_inj h
  exact hRt 30 _ _ _ dL_ask_30 hP hD hS
def mL_step (vQ : Int32) (vN : SN) (vO : qJ) (x1 : Int32) (x2 : Int32) (x3 : Int32) : Option (Int32 × Int32 × SN × qJ) := (mX4_step vQ vN x1 x2 x3).bind fun o1 => qW o1 (fun x => if x = "java/lang/IndexOutOfBoundsException" then some (1, vQ, vN, vO) else (if x = "java/lang/IllegalArgumentException" then some (2, vQ, vN, vO) else (none))) fun vo1 => ck 0 1 (some (0, vo1.2.1, vo1.2.2, (vp_updL vO (Int32.toNatClampNeg 0) (Int32.toInt64 vo1.1))))
def rmL_step : Room := { frames := 8, cells := 1, slots := 6, locals := 135 }
set_option maxHeartbeats 8000000 in
set_option maxRecDepth 100000 in
theorem wL_step (l : Launch) (hfl : l.stackTraces = false) (E : qE) (aQ : Nat) (aN : Nat → Nat) (aT : Nat → Nat) (aF : Nat → Nat) (aP : Nat → Nat) (aR : Nat → Nat) (aO : Nat) (vQ : Int32) (vN : SN) (vO : qJ) (x1 : Int32) (x2 : Int32) (x3 : Int32) (o : Int32 × Int32 × SN × qJ) (h : mL_step vQ vN vO x1 x2 x3 = some o) : MW l E yL_step wsL_step rmL_step [.ref aQ, .int x1, .int x2, .int x3, .ref aO] (WQ aQ aN aT aF aP aR vQ ++ (WN E aN vN ++ WO E aO vO)) (WQ aQ aN aT aF aP aR o.2.1 ++ (WN E aN o.2.2.1 ++ WO E aO o.2.2.2)) o.1 := by
  refine q_startW (cc := cL_step) (maxL := 6) (hh := [(0, 12, 15, 21), (0, 12, 19, 13)]) (by decide) rfl (Nat.le_of_ble_eq_true rfl) ?_
  intro pr e s m args below meth c A Q hx hb hml hown hts hK hC hT hZ hN htab hRt hP hD hA hS ls hl
  have hl : lv_has ls 6 [(0, .ref aQ), (1, .int x1), (2, .int x2), (3, .int x3), (4, .ref aO)] := hl
  have hw0 := hts (.classLink RL 21 "java/lang/IndexOutOfBoundsException") (by decide +kernel)
  have hw1 := hts (.classLink RL 13 "java/lang/IllegalArgumentException") (by decide +kernel)
  unfold mL_step at h
  refine lv_aload hx hb dL_step_0 (lv_at hl 4 rfl) ?_
  refine lv_iconst (v := 0) hx hb dL_step_2 (by decide) ?_
  refine lv_aload_n hx hb dL_step_3 rfl (lv_at hl 0 rfl) ?_
  refine lv_iload_n hx hb dL_step_4 rfl (lv_at hl 1 rfl) ?_
  refine lv_iload_n hx hb dL_step_5 rfl (lv_at hl 2 rfl) ?_
  refine lv_iload_n hx hb dL_step_6 rfl (lv_at hl 3 rfl) ?_
  obtain ⟨o1, e2, h⟩ := q_bind h
  rcases o1 with X3 | vo1
  · have h := qW_l h
    by_cases c4 : X3 = "java/lang/IndexOutOfBoundsException"
    · have h := q_pos c4 h
      subst c4
      refine qx_c (vx_runV (As := [.int x1, .int x2, .int x3]) (rest := [.int 0, .ref aO]) ⟨hx, hb, hml, hown, hts⟩ (xX4_step l hfl E aQ aN aT aF aP aR vQ vN x1 x2 x3 _ e2 _) (cwV 3 hts gL_step_X4_step rfl rfl rfl (by decide +kernel) ⟨Nat.le_of_ble_eq_true rfl, Nat.le_of_ble_eq_true rfl⟩) (qx_preV hK hC hT hZ hS hA hP hD pm_3_01 4 0 rfl rfl) rfl rfl hl.1 rfl (lv_room (Nat.le_of_ble_eq_true rfl)) dL_step_7 ⟨Nat.le_of_ble_eq_true rfl, Nat.le_of_ble_eq_true rfl⟩) hP hD hS hA pm_3_01 (fun H locs q9 ce hP hD hS b4 b5 b6 => ?_)
      refine vx_catch (name := "java/lang/IndexOutOfBoundsException") hown [] ⟨0, 12, 15, 21⟩ [⟨0, 12, 19, 13⟩] (htab.trans rfl) (fun z hz => nomatch hz) (by decide) (by decide) hw0 (va_Nw.use rfl hC.2.2.1) b4 b5 b6 ?_
      refine lv_astore (lv' := [(5, .ref q9), (0, .ref aQ), (1, .int x1), (2, .int x2), (3, .int x3), (4, .ref aO)]) hx hb dL_step_15 hl (by decide) rfl (fun ls hl => ?_)
      refine lv_iconst (v := 1) hx hb dL_step_17 (by decide) ?_
      obtain rfl := q_inj h
      exact hRt 18 _ _ _ dL_step_18 hP hD hS
    have h := q_neg c4 h
    by_cases c5 : X3 = "java/lang/IllegalArgumentException"
    · have h := q_pos c5 h
      subst c5
      refine qx_c (vx_runV (As := [.int x1, .int x2, .int x3]) (rest := [.int 0, .ref aO]) ⟨hx, hb, hml, hown, hts⟩ (xX4_step l hfl E aQ aN aT aF aP aR vQ vN x1 x2 x3 _ e2 _) (cwV 3 hts gL_step_X4_step rfl rfl rfl (by decide +kernel) ⟨Nat.le_of_ble_eq_true rfl, Nat.le_of_ble_eq_true rfl⟩) (qx_preV hK hC hT hZ hS hA hP hD pm_3_01 4 0 rfl rfl) rfl rfl hl.1 rfl (lv_room (Nat.le_of_ble_eq_true rfl)) dL_step_7 ⟨Nat.le_of_ble_eq_true rfl, Nat.le_of_ble_eq_true rfl⟩) hP hD hS hA pm_3_01 (fun H locs q9 ce hP hD hS b4 b5 b6 => ?_)
      refine vx_catch (name := "java/lang/IllegalArgumentException") hown [⟨0, 12, 15, 21⟩] ⟨0, 12, 19, 13⟩ [] (htab.trans rfl) (fun z hz => by rw [List.mem_singleton.mp hz]; exact Or.inr ⟨by decide, "java/lang/IndexOutOfBoundsException", hw0, hN.2.1⟩) (by decide) (by decide) hw1 (va_Nw.use rfl hC.1) b4 b5 b6 ?_
      refine lv_astore (lv' := [(5, .ref q9), (0, .ref aQ), (1, .int x1), (2, .int x2), (3, .int x3), (4, .ref aO)]) hx hb dL_step_19 hl (by decide) rfl (fun ls hl => ?_)
      refine lv_iconst (v := 2) hx hb dL_step_21 (by decide) ?_
      obtain rfl := q_inj h
      exact hRt 22 _ _ _ dL_step_22 hP hD hS
    have h := q_neg c5 h
    cases h
  have h := qW_r h
  refine q_ci (va_runV (As := [.int x1, .int x2, .int x3]) (rest := [.int 0, .ref aO]) ⟨hx, hb, hml, hown, hts⟩ (wX4_step l E aQ aN aT aF aP aR vQ vN x1 x2 x3 vo1 e2 _) (cwV 3 hts gL_step_X4_step rfl rfl rfl (by decide +kernel) ⟨Nat.le_of_ble_eq_true rfl, Nat.le_of_ble_eq_true rfl⟩) (q_preV hK hP hD pm_3_01 4 0 rfl rfl) rfl rfl hl.1 rfl (lv_room (Nat.le_of_ble_eq_true rfl)) dL_step_7 ⟨Nat.zero_le _, Nat.zero_le _⟩) hP hD hS hA pm_3_01 pm_3_01.symm (fun H locs hP hD hS => ?_)
  refine W.widen (k := 1) (n := 6) (Nat.le_of_ble_eq_true rfl) (Nat.le_of_ble_eq_true rfl) ?_
  refine lv_i2l hx hb dL_step_10 rfl ?_
  obtain ⟨i6, h⟩ := q_ck h
  refine va_last (f := vO) hx hb hK.1 hP hD hS 10 1 rfl rfl i6 dL_step_11 (fun H locs hP hD hS => ?_)
  have hP : va_P E.1 vwCl (WQ aQ aN aT aF aP aR vo1.2.1 ++ (WN E aN vo1.2.2 ++ WO E aO (vp_updL vO (Int32.toNatClampNeg 0) (Int32.toInt64 vo1.1)))) H := hP
  have hD : va_D A (WQ aQ aN aT aF aP aR vo1.2.1 ++ (WN E aN vo1.2.2 ++ WO E aO (vp_updL vO (Int32.toNatClampNeg 0) (Int32.toInt64 vo1.1)))) := hD
  refine lv_goto (tgt := 23) hx hb dL_step_12 (by decide) ?_
  refine lv_iconst (v := 0) hx hb dL_step_23 (by decide) ?_
  obtain rfl := q_inj h
  exact hRt 24 _ _ _ dL_step_24 hP hD hS
def mL_seen (vQ : Int32) (vN : SN) (vT : ST) (x1 : Int32) (x2 : Int32) (x3 : Int32) (x4 : Int32) : Option (Int32 × ST) := (mX4_seen vQ vN vT x1 x2 x3 x4).bind fun o1 => qW o1 (fun x => if x = "java/lang/IndexOutOfBoundsException" then some (1, vT) else (if x = "java/lang/IllegalArgumentException" then some (2, vT) else (none))) fun vo1 => some (0, vo1)
def rmL_seen : Room := { frames := 9, cells := 1, slots := 6, locals := 158 }
set_option maxHeartbeats 8000000 in
set_option maxRecDepth 100000 in
theorem wL_seen (l : Launch) (hfl : l.stackTraces = false) (E : qE) (aQ : Nat) (aN : Nat → Nat) (aT : Nat → Nat) (aF : Nat → Nat) (aP : Nat → Nat) (aR : Nat → Nat) (vQ : Int32) (vN : SN) (vT : ST) (x1 : Int32) (x2 : Int32) (x3 : Int32) (x4 : Int32) (o : Int32 × ST) (h : mL_seen vQ vN vT x1 x2 x3 x4 = some o) : MW l E yL_seen wsL_seen rmL_seen [.ref aQ, .int x1, .int x2, .int x3, .int x4] (WQ aQ aN aT aF aP aR vQ ++ (WN E aN vN ++ WT E aT vT)) (WQ aQ aN aT aF aP aR vQ ++ (WN E aN vN ++ WT E aT o.2)) o.1 := by
  refine q_startW (cc := cL_seen) (maxL := 6) (hh := [(0, 9, 12, 21), (0, 9, 16, 13)]) (by decide) rfl (Nat.le_of_ble_eq_true rfl) ?_
  intro pr e s m args below meth c A Q hx hb hml hown hts hK hC hT hZ hN htab hRt hP hD hA hS ls hl
  have hl : lv_has ls 6 [(0, .ref aQ), (1, .int x1), (2, .int x2), (3, .int x3), (4, .int x4)] := hl
  have hw0 := hts (.classLink RL 21 "java/lang/IndexOutOfBoundsException") (by decide +kernel)
  have hw1 := hts (.classLink RL 13 "java/lang/IllegalArgumentException") (by decide +kernel)
  unfold mL_seen at h
  refine lv_aload_n hx hb dL_seen_0 rfl (lv_at hl 0 rfl) ?_
  refine lv_iload_n hx hb dL_seen_1 rfl (lv_at hl 1 rfl) ?_
  refine lv_iload_n hx hb dL_seen_2 rfl (lv_at hl 2 rfl) ?_
  refine lv_iload_n hx hb dL_seen_3 rfl (lv_at hl 3 rfl) ?_
  refine lv_iload hx hb dL_seen_4 (lv_at hl 4 rfl) ?_
  obtain ⟨o1, e2, h⟩ := q_bind h
  rcases o1 with X3 | vo1
  · have h := qW_l h
    by_cases c4 : X3 = "java/lang/IndexOutOfBoundsException"
    · have h := q_pos c4 h
      subst c4
      refine qx_c (vx_runV (As := [.int x1, .int x2, .int x3, .int x4]) (rest := []) ⟨hx, hb, hml, hown, hts⟩ (xX4_seen l hfl E aQ aN aT aF aP aR vQ vN vT x1 x2 x3 x4 _ e2 _) (cwV 4 hts gL_seen_X4_seen rfl rfl rfl (by decide +kernel) ⟨Nat.le_of_ble_eq_true rfl, Nat.le_of_ble_eq_true rfl⟩) (qx_preV hK hC hT hZ hS hA hP hD q_idl 4 0 rfl rfl) rfl rfl hl.1 rfl (lv_room (Nat.le_of_ble_eq_true rfl)) dL_seen_6 ⟨Nat.le_of_ble_eq_true rfl, Nat.le_of_ble_eq_true rfl⟩) hP hD hS hA q_idl (fun H locs q9 ce hP hD hS b4 b5 b6 => ?_)
      refine vx_catch (name := "java/lang/IndexOutOfBoundsException") hown [] ⟨0, 9, 12, 21⟩ [⟨0, 9, 16, 13⟩] (htab.trans rfl) (fun z hz => nomatch hz) (by decide) (by decide) hw0 (va_Nw.use rfl hC.2.2.1) b4 b5 b6 ?_
      refine lv_astore (lv' := [(5, .ref q9), (0, .ref aQ), (1, .int x1), (2, .int x2), (3, .int x3), (4, .int x4)]) hx hb dL_seen_12 hl (by decide) rfl (fun ls hl => ?_)
      refine lv_iconst (v := 1) hx hb dL_seen_14 (by decide) ?_
      obtain rfl := q_inj h
      exact hRt 15 _ _ _ dL_seen_15 hP hD hS
    have h := q_neg c4 h
    by_cases c5 : X3 = "java/lang/IllegalArgumentException"
    · have h := q_pos c5 h
      subst c5
      refine qx_c (vx_runV (As := [.int x1, .int x2, .int x3, .int x4]) (rest := []) ⟨hx, hb, hml, hown, hts⟩ (xX4_seen l hfl E aQ aN aT aF aP aR vQ vN vT x1 x2 x3 x4 _ e2 _) (cwV 4 hts gL_seen_X4_seen rfl rfl rfl (by decide +kernel) ⟨Nat.le_of_ble_eq_true rfl, Nat.le_of_ble_eq_true rfl⟩) (qx_preV hK hC hT hZ hS hA hP hD q_idl 4 0 rfl rfl) rfl rfl hl.1 rfl (lv_room (Nat.le_of_ble_eq_true rfl)) dL_seen_6 ⟨Nat.le_of_ble_eq_true rfl, Nat.le_of_ble_eq_true rfl⟩) hP hD hS hA q_idl (fun H locs q9 ce hP hD hS b4 b5 b6 => ?_)
      refine vx_catch (name := "java/lang/IllegalArgumentException") hown [⟨0, 9, 12, 21⟩] ⟨0, 9, 16, 13⟩ [] (htab.trans rfl) (fun z hz => by rw [List.mem_singleton.mp hz]; exact Or.inr ⟨by decide, "java/lang/IndexOutOfBoundsException", hw0, hN.2.1⟩) (by decide) (by decide) hw1 (va_Nw.use rfl hC.1) b4 b5 b6 ?_
      refine lv_astore (lv' := [(5, .ref q9), (0, .ref aQ), (1, .int x1), (2, .int x2), (3, .int x3), (4, .int x4)]) hx hb dL_seen_16 hl (by decide) rfl (fun ls hl => ?_)
      refine lv_iconst (v := 2) hx hb dL_seen_18 (by decide) ?_
      obtain rfl := q_inj h
      exact hRt 19 _ _ _ dL_seen_19 hP hD hS
    have h := q_neg c5 h
    cases h
  have h := qW_r h
  refine q_cv (va_runV (As := [.int x1, .int x2, .int x3, .int x4]) (rest := []) ⟨hx, hb, hml, hown, hts⟩ (wX4_seen l E aQ aN aT aF aP aR vQ vN vT x1 x2 x3 x4 vo1 e2 _) (cwV 4 hts gL_seen_X4_seen rfl rfl rfl (by decide +kernel) ⟨Nat.le_of_ble_eq_true rfl, Nat.le_of_ble_eq_true rfl⟩) (q_preV hK hP hD q_idl 4 0 rfl rfl) rfl rfl hl.1 rfl (lv_room (Nat.le_of_ble_eq_true rfl)) dL_seen_6 ⟨Nat.zero_le _, Nat.zero_le _⟩) hP hD hS hA q_idl q_idr (fun H locs hP hD hS => ?_)
  refine W.widen (k := 1) (n := 6) (Nat.le_of_ble_eq_true rfl) (Nat.le_of_ble_eq_true rfl) ?_
  refine lv_goto (tgt := 20) hx hb dL_seen_9 (by decide) ?_
  refine lv_iconst (v := 0) hx hb dL_seen_20 (by decide) ?_
  obtain rfl := q_inj h
  exact hRt 21 _ _ _ dL_seen_21 hP hD hS
def mL_unsee (vQ : Int32) (vN : SN) (vT : ST) (vO : qJ) (x1 : Int32) (x2 : Int32) : Option (Int32 × ST × qJ) := (mX4_unsee vQ vN vT x1 x2).bind fun o1 => qW o1 (fun x => if x = "java/lang/IndexOutOfBoundsException" then some (1, vT, vO) else (none)) fun vo1 => Option.bind (if vo1.1 = 0 then (some 0) else (some 1)) fun z6 => ck 0 1 (some (0, vo1.2, (vp_updL vO (Int32.toNatClampNeg 0) z6)))
def rmL_unsee : Room := { frames := 9, cells := 1, slots := 6, locals := 157 }
set_option maxHeartbeats 8000000 in
set_option maxRecDepth 100000 in
theorem wL_unsee (l : Launch) (hfl : l.stackTraces = false) (E : qE) (aQ : Nat) (aN : Nat → Nat) (aT : Nat → Nat) (aF : Nat → Nat) (aP : Nat → Nat) (aR : Nat → Nat) (aO : Nat) (vQ : Int32) (vN : SN) (vT : ST) (vO : qJ) (x1 : Int32) (x2 : Int32) (o : Int32 × ST × qJ) (h : mL_unsee vQ vN vT vO x1 x2 = some o) : MW l E yL_unsee wsL_unsee rmL_unsee [.ref aQ, .int x1, .int x2, .ref aO] (WQ aQ aN aT aF aP aR vQ ++ (WN E aN vN ++ (WT E aT vT ++ WO E aO vO))) (WQ aQ aN aT aF aP aR vQ ++ (WN E aN vN ++ (WT E aT o.2.1 ++ WO E aO o.2.2))) o.1 := by
  refine q_startW (cc := cL_unsee) (maxL := 5) (hh := [(0, 17, 20, 21)]) (by decide) rfl (Nat.le_of_ble_eq_true rfl) ?_
  intro pr e s m args below meth c A Q hx hb hml hown hts hK hC hT hZ hN htab hRt hP hD hA hS ls hl
  have hl : lv_has ls 5 [(0, .ref aQ), (1, .int x1), (2, .int x2), (3, .ref aO)] := hl
  have hw0 := hts (.classLink RL 21 "java/lang/IndexOutOfBoundsException") (by decide +kernel)
  unfold mL_unsee at h
  refine lv_aload_n hx hb dL_unsee_0 rfl (lv_at hl 3 rfl) ?_
  refine lv_iconst (v := 0) hx hb dL_unsee_1 (by decide) ?_
  refine lv_aload_n hx hb dL_unsee_2 rfl (lv_at hl 0 rfl) ?_
  refine lv_iload_n hx hb dL_unsee_3 rfl (lv_at hl 1 rfl) ?_
  refine lv_iload_n hx hb dL_unsee_4 rfl (lv_at hl 2 rfl) ?_
  obtain ⟨o1, e2, h⟩ := q_bind h
  rcases o1 with X3 | vo1
  · have h := qW_l h
    by_cases c4 : X3 = "java/lang/IndexOutOfBoundsException"
    · have h := q_pos c4 h
      subst c4
      refine qx_c (vx_runV (As := [.int x1, .int x2]) (rest := [.int 0, .ref aO]) ⟨hx, hb, hml, hown, hts⟩ (xX4_unsee l hfl E aQ aN aT aF aP aR vQ vN vT x1 x2 _ e2 _) (cwV 2 hts gL_unsee_X4_unsee rfl rfl rfl (by decide +kernel) ⟨Nat.le_of_ble_eq_true rfl, Nat.le_of_ble_eq_true rfl⟩) (qx_preV hK hC hT hZ hS hA hP hD pm_4_012 4 0 rfl rfl) rfl rfl hl.1 rfl (lv_room (Nat.le_of_ble_eq_true rfl)) dL_unsee_5 ⟨Nat.le_of_ble_eq_true rfl, Nat.le_of_ble_eq_true rfl⟩) hP hD hS hA pm_4_012 (fun H locs q9 ce hP hD hS b4 b5 b6 => ?_)
      refine vx_catch (name := "java/lang/IndexOutOfBoundsException") hown [] ⟨0, 17, 20, 21⟩ [] (htab.trans rfl) (fun z hz => nomatch hz) (by decide) (by decide) hw0 (va_Nw.use rfl hC.2.2.1) b4 b5 b6 ?_
      refine lv_astore (lv' := [(4, .ref q9), (0, .ref aQ), (1, .int x1), (2, .int x2), (3, .ref aO)]) hx hb dL_unsee_20 hl (by decide) rfl (fun ls hl => ?_)
      refine lv_iconst (v := 1) hx hb dL_unsee_22 (by decide) ?_
      obtain rfl := q_inj h
      exact hRt 23 _ _ _ dL_unsee_23 hP hD hS
    have h := q_neg c4 h
    cases h
  have h := qW_r h
  refine q_ci (va_runV (As := [.int x1, .int x2]) (rest := [.int 0, .ref aO]) ⟨hx, hb, hml, hown, hts⟩ (wX4_unsee l E aQ aN aT aF aP aR vQ vN vT x1 x2 vo1 e2 _) (cwV 2 hts gL_unsee_X4_unsee rfl rfl rfl (by decide +kernel) ⟨Nat.le_of_ble_eq_true rfl, Nat.le_of_ble_eq_true rfl⟩) (q_preV hK hP hD pm_4_012 4 0 rfl rfl) rfl rfl hl.1 rfl (lv_room (Nat.le_of_ble_eq_true rfl)) dL_unsee_5 ⟨Nat.zero_le _, Nat.zero_le _⟩) hP hD hS hA pm_4_012 pm_4_012.symm (fun H locs hP hD hS => ?_)
  refine W.widen (k := 1) (n := 6) (Nat.le_of_ble_eq_true rfl) (Nat.le_of_ble_eq_true rfl) ?_
  obtain ⟨z6, e7, h⟩ := q_bind h
  have KJ5 : ∀ (H : Heap) (locs : List Loc), va_P E.1 vwCl (WQ aQ aN aT aF aP aR vQ ++ (WN E aN vN ++ (WT E aT vo1.2 ++ WO E aO vO))) H → va_D A (WQ aQ aN aT aF aP aR vQ ++ (WN E aN vN ++ (WT E aT vo1.2 ++ WO E aO vO))) → va_S A s.heap H locs → W pr l e rmL_unsee s m args below meth c H locs 1 6 Q (F0 m 16 ls [.long z6, .int 0, .ref aO]) := by
    intro H locs hP hD hS
    obtain ⟨i8, h⟩ := q_ck h
    refine va_last (f := vO) hx hb hK.1 hP hD hS 14 1 rfl rfl i8 dL_unsee_16 (fun H locs hP hD hS => ?_)
    have hP : va_P E.1 vwCl (WQ aQ aN aT aF aP aR vQ ++ (WN E aN vN ++ (WT E aT vo1.2 ++ WO E aO (vp_updL vO (Int32.toNatClampNeg 0) z6)))) H := hP
    have hD : va_D A (WQ aQ aN aT aF aP aR vQ ++ (WN E aN vN ++ (WT E aT vo1.2 ++ WO E aO (vp_updL vO (Int32.toNatClampNeg 0) z6)))) := hD
    refine lv_goto (tgt := 24) hx hb dL_unsee_17 (by decide) ?_
    refine lv_iconst (v := 0) hx hb dL_unsee_24 (by decide) ?_
    obtain rfl := q_inj h
    exact hRt 25 _ _ _ dL_unsee_25 hP hD hS
  have h := e7
  refine lv_if_eq (tgt := 15) hx hb dL_unsee_8 (by decide) (fun c9 => ?_) (fun c9 => ?_)
  · have h := q_pos c9 h
    refine lv_lconst (v := 0) hx hb dL_unsee_15 (by decide) ?_
    obtain rfl := q_inj h
    exact KJ5 _ _ hP hD hS
  · have h := q_neg c9 h
    refine lv_lconst (v := 1) hx hb dL_unsee_11 (by decide) ?_
    refine lv_goto (tgt := 16) hx hb dL_unsee_12 (by decide) ?_
    obtain rfl := q_inj h
    exact KJ5 _ _ hP hD hS
def mL_played (vQ : Int32) (vN : SN) (vP : SP) (vO : qJ) (x1 : Int32) (x2 : Int32) (x3 : Int32) : Option (Int32 × Int32 × SP × qJ) := (mX4_played vQ vN vP x1 x2 x3).bind fun o1 => qW o1 (fun x => if x = "java/lang/IndexOutOfBoundsException" then some (1, vQ, vP, vO) else (if x = "java/util/NoSuchElementException" then some (2, vQ, vP, vO) else (none))) fun vo1 => ck 0 1 (some (0, vo1.2.1, vo1.2.2, (vp_updL vO (Int32.toNatClampNeg 0) (Int32.toInt64 vo1.1))))
def rmL_played : Room := { frames := 9, cells := 1, slots := 6, locals := 159 }
set_option maxHeartbeats 8000000 in
set_option maxRecDepth 100000 in
theorem wL_played (l : Launch) (hfl : l.stackTraces = false) (E : qE) (aQ : Nat) (aN : Nat → Nat) (aT : Nat → Nat) (aF : Nat → Nat) (aP : Nat → Nat) (aR : Nat → Nat) (aO : Nat) (vQ : Int32) (vN : SN) (vP : SP) (vO : qJ) (x1 : Int32) (x2 : Int32) (x3 : Int32) (o : Int32 × Int32 × SP × qJ) (h : mL_played vQ vN vP vO x1 x2 x3 = some o) : MW l E yL_played wsL_played rmL_played [.ref aQ, .int x1, .int x2, .int x3, .ref aO] (WQ aQ aN aT aF aP aR vQ ++ (WN E aN vN ++ (WP E aP vP ++ WO E aO vO))) (WQ aQ aN aT aF aP aR o.2.1 ++ (WN E aN vN ++ (WP E aP o.2.2.1 ++ WO E aO o.2.2.2))) o.1 := by
  refine q_startW (cc := cL_played) (maxL := 6) (hh := [(0, 12, 15, 21), (0, 12, 19, 40)]) (by decide) rfl (Nat.le_of_ble_eq_true rfl) ?_
  intro pr e s m args below meth c A Q hx hb hml hown hts hK hC hT hZ hN htab hRt hP hD hA hS ls hl
  have hl : lv_has ls 6 [(0, .ref aQ), (1, .int x1), (2, .int x2), (3, .int x3), (4, .ref aO)] := hl
  have hw0 := hts (.classLink RL 21 "java/lang/IndexOutOfBoundsException") (by decide +kernel)
  have hw1 := hts (.classLink RL 40 "java/util/NoSuchElementException") (by decide +kernel)
  unfold mL_played at h
  refine lv_aload hx hb dL_played_0 (lv_at hl 4 rfl) ?_
  refine lv_iconst (v := 0) hx hb dL_played_2 (by decide) ?_
  refine lv_aload_n hx hb dL_played_3 rfl (lv_at hl 0 rfl) ?_
  refine lv_iload_n hx hb dL_played_4 rfl (lv_at hl 1 rfl) ?_
  refine lv_iload_n hx hb dL_played_5 rfl (lv_at hl 2 rfl) ?_
  refine lv_iload_n hx hb dL_played_6 rfl (lv_at hl 3 rfl) ?_
  obtain ⟨o1, e2, h⟩ := q_bind h
  rcases o1 with X3 | vo1
  · have h := qW_l h
    by_cases c4 : X3 = "java/lang/IndexOutOfBoundsException"
    · have h := q_pos c4 h
      subst c4
      refine qx_c (vx_runV (As := [.int x1, .int x2, .int x3]) (rest := [.int 0, .ref aO]) ⟨hx, hb, hml, hown, hts⟩ (xX4_played l hfl E aQ aN aT aF aP aR vQ vN vP x1 x2 x3 _ e2 _) (cwV 3 hts gL_played_X4_played rfl rfl rfl (by decide +kernel) ⟨Nat.le_of_ble_eq_true rfl, Nat.le_of_ble_eq_true rfl⟩) (qx_preV hK hC hT hZ hS hA hP hD pm_4_012 4 0 rfl rfl) rfl rfl hl.1 rfl (lv_room (Nat.le_of_ble_eq_true rfl)) dL_played_7 ⟨Nat.le_of_ble_eq_true rfl, Nat.le_of_ble_eq_true rfl⟩) hP hD hS hA pm_4_012 (fun H locs q9 ce hP hD hS b4 b5 b6 => ?_)
      refine vx_catch (name := "java/lang/IndexOutOfBoundsException") hown [] ⟨0, 12, 15, 21⟩ [⟨0, 12, 19, 40⟩] (htab.trans rfl) (fun z hz => nomatch hz) (by decide) (by decide) hw0 (va_Nw.use rfl hC.2.2.1) b4 b5 b6 ?_
      refine lv_astore (lv' := [(5, .ref q9), (0, .ref aQ), (1, .int x1), (2, .int x2), (3, .int x3), (4, .ref aO)]) hx hb dL_played_15 hl (by decide) rfl (fun ls hl => ?_)
      refine lv_iconst (v := 1) hx hb dL_played_17 (by decide) ?_
      obtain rfl := q_inj h
      exact hRt 18 _ _ _ dL_played_18 hP hD hS
    have h := q_neg c4 h
    by_cases c5 : X3 = "java/util/NoSuchElementException"
    · have h := q_pos c5 h
      subst c5
      refine qx_c (vx_runV (As := [.int x1, .int x2, .int x3]) (rest := [.int 0, .ref aO]) ⟨hx, hb, hml, hown, hts⟩ (xX4_played l hfl E aQ aN aT aF aP aR vQ vN vP x1 x2 x3 _ e2 _) (cwV 3 hts gL_played_X4_played rfl rfl rfl (by decide +kernel) ⟨Nat.le_of_ble_eq_true rfl, Nat.le_of_ble_eq_true rfl⟩) (qx_preV hK hC hT hZ hS hA hP hD pm_4_012 4 0 rfl rfl) rfl rfl hl.1 rfl (lv_room (Nat.le_of_ble_eq_true rfl)) dL_played_7 ⟨Nat.le_of_ble_eq_true rfl, Nat.le_of_ble_eq_true rfl⟩) hP hD hS hA pm_4_012 (fun H locs q9 ce hP hD hS b4 b5 b6 => ?_)
      refine vx_catch (name := "java/util/NoSuchElementException") hown [⟨0, 12, 15, 21⟩] ⟨0, 12, 19, 40⟩ [] (htab.trans rfl) (fun z hz => by rw [List.mem_singleton.mp hz]; exact Or.inr ⟨by decide, "java/lang/IndexOutOfBoundsException", hw0, hN.2.2.2.1⟩) (by decide) (by decide) hw1 (va_Nw.use rfl hC.2.2.2.1) b4 b5 b6 ?_
      refine lv_astore (lv' := [(5, .ref q9), (0, .ref aQ), (1, .int x1), (2, .int x2), (3, .int x3), (4, .ref aO)]) hx hb dL_played_19 hl (by decide) rfl (fun ls hl => ?_)
      refine lv_iconst (v := 2) hx hb dL_played_21 (by decide) ?_
      obtain rfl := q_inj h
      exact hRt 22 _ _ _ dL_played_22 hP hD hS
    have h := q_neg c5 h
    cases h
  have h := qW_r h
  refine q_ci (va_runV (As := [.int x1, .int x2, .int x3]) (rest := [.int 0, .ref aO]) ⟨hx, hb, hml, hown, hts⟩ (wX4_played l E aQ aN aT aF aP aR vQ vN vP x1 x2 x3 vo1 e2 _) (cwV 3 hts gL_played_X4_played rfl rfl rfl (by decide +kernel) ⟨Nat.le_of_ble_eq_true rfl, Nat.le_of_ble_eq_true rfl⟩) (q_preV hK hP hD pm_4_012 4 0 rfl rfl) rfl rfl hl.1 rfl (lv_room (Nat.le_of_ble_eq_true rfl)) dL_played_7 ⟨Nat.zero_le _, Nat.zero_le _⟩) hP hD hS hA pm_4_012 pm_4_012.symm (fun H locs hP hD hS => ?_)
  refine W.widen (k := 1) (n := 6) (Nat.le_of_ble_eq_true rfl) (Nat.le_of_ble_eq_true rfl) ?_
  refine lv_i2l hx hb dL_played_10 rfl ?_
  obtain ⟨i6, h⟩ := q_ck h
  refine va_last (f := vO) hx hb hK.1 hP hD hS 19 1 rfl rfl i6 dL_played_11 (fun H locs hP hD hS => ?_)
  have hP : va_P E.1 vwCl (WQ aQ aN aT aF aP aR vo1.2.1 ++ (WN E aN vN ++ (WP E aP vo1.2.2 ++ WO E aO (vp_updL vO (Int32.toNatClampNeg 0) (Int32.toInt64 vo1.1))))) H := hP
  have hD : va_D A (WQ aQ aN aT aF aP aR vo1.2.1 ++ (WN E aN vN ++ (WP E aP vo1.2.2 ++ WO E aO (vp_updL vO (Int32.toNatClampNeg 0) (Int32.toInt64 vo1.1))))) := hD
  refine lv_goto (tgt := 23) hx hb dL_played_12 (by decide) ?_
  refine lv_iconst (v := 0) hx hb dL_played_23 (by decide) ?_
  obtain rfl := q_inj h
  exact hRt 24 _ _ _ dL_played_24 hP hD hS
def mL_found (vQ : Int32) (vN : SN) (vT : ST) (vF : SF) (vO : qJ) (x1 : Int32) (x2 : Int32) : Option (Int32 × SF × qJ) := (mX4_found vQ vN vT vF x1 x2).bind fun o1 => qW o1 (fun x => if x = "java/lang/IndexOutOfBoundsException" then some (1, vF, vO) else (none)) fun vo1 => ck 0 1 (some (0, vo1.2, (vp_updL vO (Int32.toNatClampNeg 0) (Int32.toInt64 vo1.1))))
def rmL_found : Room := { frames := 8, cells := 1, slots := 6, locals := 133 }
set_option maxHeartbeats 8000000 in
set_option maxRecDepth 100000 in
theorem wL_found (l : Launch) (hfl : l.stackTraces = false) (E : qE) (aQ : Nat) (aN : Nat → Nat) (aT : Nat → Nat) (aF : Nat → Nat) (aP : Nat → Nat) (aR : Nat → Nat) (aO : Nat) (vQ : Int32) (vN : SN) (vT : ST) (vF : SF) (vO : qJ) (x1 : Int32) (x2 : Int32) (o : Int32 × SF × qJ) (h : mL_found vQ vN vT vF vO x1 x2 = some o) : MW l E yL_found wsL_found rmL_found [.ref aQ, .int x1, .int x2, .ref aO] (WQ aQ aN aT aF aP aR vQ ++ (WN E aN vN ++ (WT E aT vT ++ (WF E aF vF ++ WO E aO vO)))) (WQ aQ aN aT aF aP aR vQ ++ (WN E aN vN ++ (WT E aT vT ++ (WF E aF o.2.1 ++ WO E aO o.2.2)))) o.1 := by
  refine q_startW (cc := cL_found) (maxL := 5) (hh := [(0, 10, 13, 21)]) (by decide) rfl (Nat.le_of_ble_eq_true rfl) ?_
  intro pr e s m args below meth c A Q hx hb hml hown hts hK hC hT hZ hN htab hRt hP hD hA hS ls hl
  have hl : lv_has ls 5 [(0, .ref aQ), (1, .int x1), (2, .int x2), (3, .ref aO)] := hl
  have hw0 := hts (.classLink RL 21 "java/lang/IndexOutOfBoundsException") (by decide +kernel)
  unfold mL_found at h
  refine lv_aload_n hx hb dL_found_0 rfl (lv_at hl 3 rfl) ?_
  refine lv_iconst (v := 0) hx hb dL_found_1 (by decide) ?_
  refine lv_aload_n hx hb dL_found_2 rfl (lv_at hl 0 rfl) ?_
  refine lv_iload_n hx hb dL_found_3 rfl (lv_at hl 1 rfl) ?_
  refine lv_iload_n hx hb dL_found_4 rfl (lv_at hl 2 rfl) ?_
  obtain ⟨o1, e2, h⟩ := q_bind h
  rcases o1 with X3 | vo1
  · have h := qW_l h
    by_cases c4 : X3 = "java/lang/IndexOutOfBoundsException"
    · have h := q_pos c4 h
      subst c4
      refine qx_c (vx_runV (As := [.int x1, .int x2]) (rest := [.int 0, .ref aO]) ⟨hx, hb, hml, hown, hts⟩ (xX4_found l hfl E aQ aN aT aF aP aR vQ vN vT vF x1 x2 _ e2 _) (cwV 2 hts gL_found_X4_found rfl rfl rfl (by decide +kernel) ⟨Nat.le_of_ble_eq_true rfl, Nat.le_of_ble_eq_true rfl⟩) (qx_preV hK hC hT hZ hS hA hP hD pm_5_0123 4 0 rfl rfl) rfl rfl hl.1 rfl (lv_room (Nat.le_of_ble_eq_true rfl)) dL_found_5 ⟨Nat.le_of_ble_eq_true rfl, Nat.le_of_ble_eq_true rfl⟩) hP hD hS hA pm_5_0123 (fun H locs q9 ce hP hD hS b4 b5 b6 => ?_)
      refine vx_catch (name := "java/lang/IndexOutOfBoundsException") hown [] ⟨0, 10, 13, 21⟩ [] (htab.trans rfl) (fun z hz => nomatch hz) (by decide) (by decide) hw0 (va_Nw.use rfl hC.2.2.1) b4 b5 b6 ?_
      refine lv_astore (lv' := [(4, .ref q9), (0, .ref aQ), (1, .int x1), (2, .int x2), (3, .ref aO)]) hx hb dL_found_13 hl (by decide) rfl (fun ls hl => ?_)
      refine lv_iconst (v := 1) hx hb dL_found_15 (by decide) ?_
      obtain rfl := q_inj h
      exact hRt 16 _ _ _ dL_found_16 hP hD hS
    have h := q_neg c4 h
    cases h
  have h := qW_r h
  refine q_ci (va_runV (As := [.int x1, .int x2]) (rest := [.int 0, .ref aO]) ⟨hx, hb, hml, hown, hts⟩ (wX4_found l E aQ aN aT aF aP aR vQ vN vT vF x1 x2 vo1 e2 _) (cwV 2 hts gL_found_X4_found rfl rfl rfl (by decide +kernel) ⟨Nat.le_of_ble_eq_true rfl, Nat.le_of_ble_eq_true rfl⟩) (q_preV hK hP hD pm_5_0123 4 0 rfl rfl) rfl rfl hl.1 rfl (lv_room (Nat.le_of_ble_eq_true rfl)) dL_found_5 ⟨Nat.zero_le _, Nat.zero_le _⟩) hP hD hS hA pm_5_0123 pm_5_0123.symm (fun H locs hP hD hS => ?_)
  refine W.widen (k := 1) (n := 6) (Nat.le_of_ble_eq_true rfl) (Nat.le_of_ble_eq_true rfl) ?_
  refine lv_i2l hx hb dL_found_8 rfl ?_
  obtain ⟨i5, h⟩ := q_ck h
  refine va_last (f := vO) hx hb hK.1 hP hD hS 20 1 rfl rfl i5 dL_found_9 (fun H locs hP hD hS => ?_)
  have hP : va_P E.1 vwCl (WQ aQ aN aT aF aP aR vQ ++ (WN E aN vN ++ (WT E aT vT ++ (WF E aF vo1.2 ++ WO E aO (vp_updL vO (Int32.toNatClampNeg 0) (Int32.toInt64 vo1.1)))))) H := hP
  have hD : va_D A (WQ aQ aN aT aF aP aR vQ ++ (WN E aN vN ++ (WT E aT vT ++ (WF E aF vo1.2 ++ WO E aO (vp_updL vO (Int32.toNatClampNeg 0) (Int32.toInt64 vo1.1)))))) := hD
  refine lv_goto (tgt := 17) hx hb dL_found_10 (by decide) ?_
  refine lv_iconst (v := 0) hx hb dL_found_17 (by decide) ?_
  obtain rfl := q_inj h
  exact hRt 18 _ _ _ dL_found_18 hP hD hS
def mL_overlap (vQ : Int32) (vN : SN) (vT : ST) (vF : SF) (vO : qJ) (x1 : Int32) : Option (Int32 × SF × qJ) := (mX4_overlap vQ vN vT vF x1).bind fun o1 => qW o1 (fun x => if x = "java/lang/IndexOutOfBoundsException" then some (1, vF, vO) else (none)) fun vo1 => ck 0 1 (some (0, vo1.2, (vp_updL vO (Int32.toNatClampNeg 0) (Int32.toInt64 vo1.1))))
def rmL_overlap : Room := { frames := 8, cells := 1, slots := 6, locals := 132 }
set_option maxHeartbeats 8000000 in
set_option maxRecDepth 100000 in
theorem wL_overlap (l : Launch) (hfl : l.stackTraces = false) (E : qE) (aQ : Nat) (aN : Nat → Nat) (aT : Nat → Nat) (aF : Nat → Nat) (aP : Nat → Nat) (aR : Nat → Nat) (aO : Nat) (vQ : Int32) (vN : SN) (vT : ST) (vF : SF) (vO : qJ) (x1 : Int32) (o : Int32 × SF × qJ) (h : mL_overlap vQ vN vT vF vO x1 = some o) : MW l E yL_overlap wsL_overlap rmL_overlap [.ref aQ, .int x1, .ref aO] (WQ aQ aN aT aF aP aR vQ ++ (WN E aN vN ++ (WT E aT vT ++ (WF E aF vF ++ WO E aO vO)))) (WQ aQ aN aT aF aP aR vQ ++ (WN E aN vN ++ (WT E aT vT ++ (WF E aF o.2.1 ++ WO E aO o.2.2)))) o.1 := by
  refine q_startW (cc := cL_overlap) (maxL := 4) (hh := [(0, 9, 12, 21)]) (by decide) rfl (Nat.le_of_ble_eq_true rfl) ?_
  intro pr e s m args below meth c A Q hx hb hml hown hts hK hC hT hZ hN htab hRt hP hD hA hS ls hl
  have hl : lv_has ls 4 [(0, .ref aQ), (1, .int x1), (2, .ref aO)] := hl
  have hw0 := hts (.classLink RL 21 "java/lang/IndexOutOfBoundsException") (by decide +kernel)
  unfold mL_overlap at h
  refine lv_aload_n hx hb dL_overlap_0 rfl (lv_at hl 2 rfl) ?_
  refine lv_iconst (v := 0) hx hb dL_overlap_1 (by decide) ?_
  refine lv_aload_n hx hb dL_overlap_2 rfl (lv_at hl 0 rfl) ?_
  refine lv_iload_n hx hb dL_overlap_3 rfl (lv_at hl 1 rfl) ?_
  obtain ⟨o1, e2, h⟩ := q_bind h
  rcases o1 with X3 | vo1
  · have h := qW_l h
    by_cases c4 : X3 = "java/lang/IndexOutOfBoundsException"
    · have h := q_pos c4 h
      subst c4
      refine qx_c (vx_runV (As := [.int x1]) (rest := [.int 0, .ref aO]) ⟨hx, hb, hml, hown, hts⟩ (xX4_overlap l hfl E aQ aN aT aF aP aR vQ vN vT vF x1 _ e2 _) (cwV 1 hts gL_overlap_X4_overlap rfl rfl rfl (by decide +kernel) ⟨Nat.le_of_ble_eq_true rfl, Nat.le_of_ble_eq_true rfl⟩) (qx_preV hK hC hT hZ hS hA hP hD pm_5_0123 4 0 rfl rfl) rfl rfl hl.1 rfl (lv_room (Nat.le_of_ble_eq_true rfl)) dL_overlap_4 ⟨Nat.le_of_ble_eq_true rfl, Nat.le_of_ble_eq_true rfl⟩) hP hD hS hA pm_5_0123 (fun H locs q9 ce hP hD hS b4 b5 b6 => ?_)
      refine vx_catch (name := "java/lang/IndexOutOfBoundsException") hown [] ⟨0, 9, 12, 21⟩ [] (htab.trans rfl) (fun z hz => nomatch hz) (by decide) (by decide) hw0 (va_Nw.use rfl hC.2.2.1) b4 b5 b6 ?_
      refine lv_astore_n (lv' := [(3, .ref q9), (0, .ref aQ), (1, .int x1), (2, .ref aO)]) hx hb dL_overlap_12 rfl hl (by decide) rfl (fun ls hl => ?_)
      refine lv_iconst (v := 1) hx hb dL_overlap_13 (by decide) ?_
      obtain rfl := q_inj h
      exact hRt 14 _ _ _ dL_overlap_14 hP hD hS
    have h := q_neg c4 h
    cases h
  have h := qW_r h
  refine q_ci (va_runV (As := [.int x1]) (rest := [.int 0, .ref aO]) ⟨hx, hb, hml, hown, hts⟩ (wX4_overlap l E aQ aN aT aF aP aR vQ vN vT vF x1 vo1 e2 _) (cwV 1 hts gL_overlap_X4_overlap rfl rfl rfl (by decide +kernel) ⟨Nat.le_of_ble_eq_true rfl, Nat.le_of_ble_eq_true rfl⟩) (q_preV hK hP hD pm_5_0123 4 0 rfl rfl) rfl rfl hl.1 rfl (lv_room (Nat.le_of_ble_eq_true rfl)) dL_overlap_4 ⟨Nat.zero_le _, Nat.zero_le _⟩) hP hD hS hA pm_5_0123 pm_5_0123.symm (fun H locs hP hD hS => ?_)
  refine W.widen (k := 1) (n := 6) (Nat.le_of_ble_eq_true rfl) (Nat.le_of_ble_eq_true rfl) ?_
  refine lv_i2l hx hb dL_overlap_7 rfl ?_
  obtain ⟨i5, h⟩ := q_ck h
  refine va_last (f := vO) hx hb hK.1 hP hD hS 20 1 rfl rfl i5 dL_overlap_8 (fun H locs hP hD hS => ?_)
  have hP : va_P E.1 vwCl (WQ aQ aN aT aF aP aR vQ ++ (WN E aN vN ++ (WT E aT vT ++ (WF E aF vo1.2 ++ WO E aO (vp_updL vO (Int32.toNatClampNeg 0) (Int32.toInt64 vo1.1)))))) H := hP
  have hD : va_D A (WQ aQ aN aT aF aP aR vQ ++ (WN E aN vN ++ (WT E aT vT ++ (WF E aF vo1.2 ++ WO E aO (vp_updL vO (Int32.toNatClampNeg 0) (Int32.toInt64 vo1.1)))))) := hD
  refine lv_goto (tgt := 15) hx hb dL_overlap_9 (by decide) ?_
  refine lv_iconst (v := 0) hx hb dL_overlap_15 (by decide) ?_
  obtain rfl := q_inj h
  exact hRt 16 _ _ _ dL_overlap_16 hP hD hS
def mL_counts (vQ : Int32) (vN : SN) (vT : ST) (vP : SP) (vO : qJ) (x1 : Int32) (x2 : Int32) (x3 : Int32) (x4 : Int32) (x5 : Int32) : Option (Int32 × Int32 × SP × qJ) := (mX4_counts vQ vN vT vP x1 x2 x3 x4 x5).bind fun o1 => qW o1 (fun x => if x = "java/lang/IndexOutOfBoundsException" then some (1, vQ, vP, vO) else (if x = "java/lang/IllegalArgumentException" then some (2, vQ, vP, vO) else (if x = "java/util/NoSuchElementException" then some (3, vQ, vP, vO) else (none)))) fun vo1 => ck 0 1 (some (0, vo1.2.1, vo1.2.2, (vp_updL vO (Int32.toNatClampNeg 0) vo1.1)))
def rmL_counts : Room := { frames := 8, cells := 1, slots := 6, locals := 187 }
set_option maxHeartbeats 8000000 in
set_option maxRecDepth 100000 in
theorem wL_counts (l : Launch) (hfl : l.stackTraces = false) (E : qE) (aQ : Nat) (aN : Nat → Nat) (aT : Nat → Nat) (aF : Nat → Nat) (aP : Nat → Nat) (aR : Nat → Nat) (aO : Nat) (vQ : Int32) (vN : SN) (vT : ST) (vP : SP) (vO : qJ) (x1 : Int32) (x2 : Int32) (x3 : Int32) (x4 : Int32) (x5 : Int32) (o : Int32 × Int32 × SP × qJ) (h : mL_counts vQ vN vT vP vO x1 x2 x3 x4 x5 = some o) : MW l E yL_counts wsL_counts rmL_counts [.ref aQ, .int x1, .int x2, .int x3, .int x4, .int x5, .ref aO] (WQ aQ aN aT aF aP aR vQ ++ (WN E aN vN ++ (WT E aT vT ++ (WP E aP vP ++ WO E aO vO)))) (WQ aQ aN aT aF aP aR o.2.1 ++ (WN E aN vN ++ (WT E aT vT ++ (WP E aP o.2.2.1 ++ WO E aO o.2.2.2)))) o.1 := by
  refine q_startW (cc := cL_counts) (maxL := 8) (hh := [(0, 15, 18, 21), (0, 15, 22, 13), (0, 15, 26, 40)]) (by decide) rfl (Nat.le_of_ble_eq_true rfl) ?_
  intro pr e s m args below meth c A Q hx hb hml hown hts hK hC hT hZ hN htab hRt hP hD hA hS ls hl
  have hl : lv_has ls 8 [(0, .ref aQ), (1, .int x1), (2, .int x2), (3, .int x3), (4, .int x4), (5, .int x5), (6, .ref aO)] := hl
  have hw0 := hts (.classLink RL 21 "java/lang/IndexOutOfBoundsException") (by decide +kernel)
  have hw1 := hts (.classLink RL 13 "java/lang/IllegalArgumentException") (by decide +kernel)
  have hw2 := hts (.classLink RL 40 "java/util/NoSuchElementException") (by decide +kernel)
  unfold mL_counts at h
  refine lv_aload hx hb dL_counts_0 (lv_at hl 6 rfl) ?_
  refine lv_iconst (v := 0) hx hb dL_counts_2 (by decide) ?_
  refine lv_aload_n hx hb dL_counts_3 rfl (lv_at hl 0 rfl) ?_
  refine lv_iload_n hx hb dL_counts_4 rfl (lv_at hl 1 rfl) ?_
  refine lv_iload_n hx hb dL_counts_5 rfl (lv_at hl 2 rfl) ?_
  refine lv_iload_n hx hb dL_counts_6 rfl (lv_at hl 3 rfl) ?_
  refine lv_iload hx hb dL_counts_7 (lv_at hl 4 rfl) ?_
  refine lv_iload hx hb dL_counts_9 (lv_at hl 5 rfl) ?_
  obtain ⟨o1, e2, h⟩ := q_bind h
  rcases o1 with X3 | vo1
  · have h := qW_l h
    by_cases c4 : X3 = "java/lang/IndexOutOfBoundsException"
    · have h := q_pos c4 h
      subst c4
      refine qx_c (vx_runV (As := [.int x1, .int x2, .int x3, .int x4, .int x5]) (rest := [.int 0, .ref aO]) ⟨hx, hb, hml, hown, hts⟩ (xX4_counts l hfl E aQ aN aT aF aP aR vQ vN vT vP x1 x2 x3 x4 x5 _ e2 _) (cwV 5 hts gL_counts_X4_counts rfl rfl rfl (by decide +kernel) ⟨Nat.le_of_ble_eq_true rfl, Nat.le_of_ble_eq_true rfl⟩) (qx_preV hK hC hT hZ hS hA hP hD pm_5_0123 4 0 rfl rfl) rfl rfl hl.1 rfl (lv_room (Nat.le_of_ble_eq_true rfl)) dL_counts_11 ⟨Nat.le_of_ble_eq_true rfl, Nat.le_of_ble_eq_true rfl⟩) hP hD hS hA pm_5_0123 (fun H locs q9 ce hP hD hS b4 b5 b6 => ?_)
      refine vx_catch (name := "java/lang/IndexOutOfBoundsException") hown [] ⟨0, 15, 18, 21⟩ [⟨0, 15, 22, 13⟩, ⟨0, 15, 26, 40⟩] (htab.trans rfl) (fun z hz => nomatch hz) (by decide) (by decide) hw0 (va_Nw.use rfl hC.2.2.1) b4 b5 b6 ?_
      refine lv_astore (lv' := [(7, .ref q9), (0, .ref aQ), (1, .int x1), (2, .int x2), (3, .int x3), (4, .int x4), (5, .int x5), (6, .ref aO)]) hx hb dL_counts_18 hl (by decide) rfl (fun ls hl => ?_)
      refine lv_iconst (v := 1) hx hb dL_counts_20 (by decide) ?_
      obtain rfl := q_inj h
      exact hRt 21 _ _ _ dL_counts_21 hP hD hS
    have h := q_neg c4 h
    by_cases c5 : X3 = "java/lang/IllegalArgumentException"
    · have h := q_pos c5 h
      subst c5
      refine qx_c (vx_runV (As := [.int x1, .int x2, .int x3, .int x4, .int x5]) (rest := [.int 0, .ref aO]) ⟨hx, hb, hml, hown, hts⟩ (xX4_counts l hfl E aQ aN aT aF aP aR vQ vN vT vP x1 x2 x3 x4 x5 _ e2 _) (cwV 5 hts gL_counts_X4_counts rfl rfl rfl (by decide +kernel) ⟨Nat.le_of_ble_eq_true rfl, Nat.le_of_ble_eq_true rfl⟩) (qx_preV hK hC hT hZ hS hA hP hD pm_5_0123 4 0 rfl rfl) rfl rfl hl.1 rfl (lv_room (Nat.le_of_ble_eq_true rfl)) dL_counts_11 ⟨Nat.le_of_ble_eq_true rfl, Nat.le_of_ble_eq_true rfl⟩) hP hD hS hA pm_5_0123 (fun H locs q9 ce hP hD hS b4 b5 b6 => ?_)
      refine vx_catch (name := "java/lang/IllegalArgumentException") hown [⟨0, 15, 18, 21⟩] ⟨0, 15, 22, 13⟩ [⟨0, 15, 26, 40⟩] (htab.trans rfl) (fun z hz => by rw [List.mem_singleton.mp hz]; exact Or.inr ⟨by decide, "java/lang/IndexOutOfBoundsException", hw0, hN.2.1⟩) (by decide) (by decide) hw1 (va_Nw.use rfl hC.1) b4 b5 b6 ?_
      refine lv_astore (lv' := [(7, .ref q9), (0, .ref aQ), (1, .int x1), (2, .int x2), (3, .int x3), (4, .int x4), (5, .int x5), (6, .ref aO)]) hx hb dL_counts_22 hl (by decide) rfl (fun ls hl => ?_)
      refine lv_iconst (v := 2) hx hb dL_counts_24 (by decide) ?_
      obtain rfl := q_inj h
      exact hRt 25 _ _ _ dL_counts_25 hP hD hS
    have h := q_neg c5 h
    by_cases c6 : X3 = "java/util/NoSuchElementException"
    · have h := q_pos c6 h
      subst c6
      refine qx_c (vx_runV (As := [.int x1, .int x2, .int x3, .int x4, .int x5]) (rest := [.int 0, .ref aO]) ⟨hx, hb, hml, hown, hts⟩ (xX4_counts l hfl E aQ aN aT aF aP aR vQ vN vT vP x1 x2 x3 x4 x5 _ e2 _) (cwV 5 hts gL_counts_X4_counts rfl rfl rfl (by decide +kernel) ⟨Nat.le_of_ble_eq_true rfl, Nat.le_of_ble_eq_true rfl⟩) (qx_preV hK hC hT hZ hS hA hP hD pm_5_0123 4 0 rfl rfl) rfl rfl hl.1 rfl (lv_room (Nat.le_of_ble_eq_true rfl)) dL_counts_11 ⟨Nat.le_of_ble_eq_true rfl, Nat.le_of_ble_eq_true rfl⟩) hP hD hS hA pm_5_0123 (fun H locs q9 ce hP hD hS b4 b5 b6 => ?_)
      refine vx_catch (name := "java/util/NoSuchElementException") hown [⟨0, 15, 18, 21⟩, ⟨0, 15, 22, 13⟩] ⟨0, 15, 26, 40⟩ [] (htab.trans rfl) (fun z hz => by rcases List.mem_cons.mp hz with hz | hz; rw [hz]; exact Or.inr ⟨by decide, "java/lang/IndexOutOfBoundsException", hw0, hN.2.2.2.1⟩; rw [List.mem_singleton.mp hz]; exact Or.inr ⟨by decide, "java/lang/IllegalArgumentException", hw1, hN.2.2.2.2⟩) (by decide) (by decide) hw2 (va_Nw.use rfl hC.2.2.2.1) b4 b5 b6 ?_
      refine lv_astore (lv' := [(7, .ref q9), (0, .ref aQ), (1, .int x1), (2, .int x2), (3, .int x3), (4, .int x4), (5, .int x5), (6, .ref aO)]) hx hb dL_counts_26 hl (by decide) rfl (fun ls hl => ?_)
      refine lv_iconst (v := 3) hx hb dL_counts_28 (by decide) ?_
      obtain rfl := q_inj h
      exact hRt 29 _ _ _ dL_counts_29 hP hD hS
    have h := q_neg c6 h
    cases h
  have h := qW_r h
  refine q_cl (va_runV (As := [.int x1, .int x2, .int x3, .int x4, .int x5]) (rest := [.int 0, .ref aO]) ⟨hx, hb, hml, hown, hts⟩ (wX4_counts l E aQ aN aT aF aP aR vQ vN vT vP x1 x2 x3 x4 x5 vo1 e2 _) (cwV 5 hts gL_counts_X4_counts rfl rfl rfl (by decide +kernel) ⟨Nat.le_of_ble_eq_true rfl, Nat.le_of_ble_eq_true rfl⟩) (q_preV hK hP hD pm_5_0123 4 0 rfl rfl) rfl rfl hl.1 rfl (lv_room (Nat.le_of_ble_eq_true rfl)) dL_counts_11 ⟨Nat.zero_le _, Nat.zero_le _⟩) hP hD hS hA pm_5_0123 pm_5_0123.symm (fun H locs hP hD hS => ?_)
  refine W.widen (k := 1) (n := 6) (Nat.le_of_ble_eq_true rfl) (Nat.le_of_ble_eq_true rfl) ?_
  obtain ⟨i7, h⟩ := q_ck h
  refine va_last (f := vO) hx hb hK.1 hP hD hS 23 1 rfl rfl i7 dL_counts_14 (fun H locs hP hD hS => ?_)
  have hP : va_P E.1 vwCl (WQ aQ aN aT aF aP aR vo1.2.1 ++ (WN E aN vN ++ (WT E aT vT ++ (WP E aP vo1.2.2 ++ WO E aO (vp_updL vO (Int32.toNatClampNeg 0) vo1.1))))) H := hP
  have hD : va_D A (WQ aQ aN aT aF aP aR vo1.2.1 ++ (WN E aN vN ++ (WT E aT vT ++ (WP E aP vo1.2.2 ++ WO E aO (vp_updL vO (Int32.toNatClampNeg 0) vo1.1))))) := hD
  refine lv_goto (tgt := 30) hx hb dL_counts_15 (by decide) ?_
  refine lv_iconst (v := 0) hx hb dL_counts_30 (by decide) ?_
  obtain rfl := q_inj h
  exact hRt 31 _ _ _ dL_counts_31 hP hD hS
def mL_saved (vQ : Int32) (vN : SN) (vP : SP) (vR : SP) (vO : qJ) (x1 : Int32) : Option (Int32 × Int32 × SP × SP × qJ) := (mX4_saved vQ vN vP vR x1).bind fun o1 => qW o1 (fun x => if x = "java/lang/IndexOutOfBoundsException" then some (1, vQ, vP, vR, vO) else (none)) fun vo1 => ck 0 1 (some (0, vo1.2.1, vo1.2.2.1, vo1.2.2.2, (vp_updL vO (Int32.toNatClampNeg 0) vo1.1)))
def rmL_saved : Room := { frames := 8, cells := 1, slots := 6, locals := 157 }
set_option maxHeartbeats 8000000 in
set_option maxRecDepth 100000 in
theorem wL_saved (l : Launch) (hfl : l.stackTraces = false) (E : qE) (aQ : Nat) (aN : Nat → Nat) (aT : Nat → Nat) (aF : Nat → Nat) (aP : Nat → Nat) (aR : Nat → Nat) (aO : Nat) (vQ : Int32) (vN : SN) (vP : SP) (vR : SP) (vO : qJ) (x1 : Int32) (o : Int32 × Int32 × SP × SP × qJ) (h : mL_saved vQ vN vP vR vO x1 = some o) : MW l E yL_saved wsL_saved rmL_saved [.ref aQ, .int x1, .ref aO] (WQ aQ aN aT aF aP aR vQ ++ (WN E aN vN ++ (WP E aP vP ++ (WP E aR vR ++ WO E aO vO)))) (WQ aQ aN aT aF aP aR o.2.1 ++ (WN E aN vN ++ (WP E aP o.2.2.1 ++ (WP E aR o.2.2.2.1 ++ WO E aO o.2.2.2.2)))) o.1 := by
  refine q_startW (cc := cL_saved) (maxL := 4) (hh := [(0, 8, 11, 21)]) (by decide) rfl (Nat.le_of_ble_eq_true rfl) ?_
  intro pr e s m args below meth c A Q hx hb hml hown hts hK hC hT hZ hN htab hRt hP hD hA hS ls hl
  have hl : lv_has ls 4 [(0, .ref aQ), (1, .int x1), (2, .ref aO)] := hl
  have hw0 := hts (.classLink RL 21 "java/lang/IndexOutOfBoundsException") (by decide +kernel)
  unfold mL_saved at h
  refine lv_aload_n hx hb dL_saved_0 rfl (lv_at hl 2 rfl) ?_
  refine lv_iconst (v := 0) hx hb dL_saved_1 (by decide) ?_
  refine lv_aload_n hx hb dL_saved_2 rfl (lv_at hl 0 rfl) ?_
  refine lv_iload_n hx hb dL_saved_3 rfl (lv_at hl 1 rfl) ?_
  obtain ⟨o1, e2, h⟩ := q_bind h
  rcases o1 with X3 | vo1
  · have h := qW_l h
    by_cases c4 : X3 = "java/lang/IndexOutOfBoundsException"
    · have h := q_pos c4 h
      subst c4
      refine qx_c (vx_runV (As := [.int x1]) (rest := [.int 0, .ref aO]) ⟨hx, hb, hml, hown, hts⟩ (xX4_saved l hfl E aQ aN aT aF aP aR vQ vN vP vR x1 _ e2 _) (cwV 1 hts gL_saved_X4_saved rfl rfl rfl (by decide +kernel) ⟨Nat.le_of_ble_eq_true rfl, Nat.le_of_ble_eq_true rfl⟩) (qx_preV hK hC hT hZ hS hA hP hD pm_5_0123 4 0 rfl rfl) rfl rfl hl.1 rfl (lv_room (Nat.le_of_ble_eq_true rfl)) dL_saved_4 ⟨Nat.le_of_ble_eq_true rfl, Nat.le_of_ble_eq_true rfl⟩) hP hD hS hA pm_5_0123 (fun H locs q9 ce hP hD hS b4 b5 b6 => ?_)
      refine vx_catch (name := "java/lang/IndexOutOfBoundsException") hown [] ⟨0, 8, 11, 21⟩ [] (htab.trans rfl) (fun z hz => nomatch hz) (by decide) (by decide) hw0 (va_Nw.use rfl hC.2.2.1) b4 b5 b6 ?_
      refine lv_astore_n (lv' := [(3, .ref q9), (0, .ref aQ), (1, .int x1), (2, .ref aO)]) hx hb dL_saved_11 rfl hl (by decide) rfl (fun ls hl => ?_)
      refine lv_iconst (v := 1) hx hb dL_saved_12 (by decide) ?_
      obtain rfl := q_inj h
      exact hRt 13 _ _ _ dL_saved_13 hP hD hS
    have h := q_neg c4 h
    cases h
  have h := qW_r h
  refine q_cl (va_runV (As := [.int x1]) (rest := [.int 0, .ref aO]) ⟨hx, hb, hml, hown, hts⟩ (wX4_saved l E aQ aN aT aF aP aR vQ vN vP vR x1 vo1 e2 _) (cwV 1 hts gL_saved_X4_saved rfl rfl rfl (by decide +kernel) ⟨Nat.le_of_ble_eq_true rfl, Nat.le_of_ble_eq_true rfl⟩) (q_preV hK hP hD pm_5_0123 4 0 rfl rfl) rfl rfl hl.1 rfl (lv_room (Nat.le_of_ble_eq_true rfl)) dL_saved_4 ⟨Nat.zero_le _, Nat.zero_le _⟩) hP hD hS hA pm_5_0123 pm_5_0123.symm (fun H locs hP hD hS => ?_)
  refine W.widen (k := 1) (n := 6) (Nat.le_of_ble_eq_true rfl) (Nat.le_of_ble_eq_true rfl) ?_
  obtain ⟨i5, h⟩ := q_ck h
  refine va_last (f := vO) hx hb hK.1 hP hD hS 28 1 rfl rfl i5 dL_saved_7 (fun H locs hP hD hS => ?_)
  have hP : va_P E.1 vwCl (WQ aQ aN aT aF aP aR vo1.2.1 ++ (WN E aN vN ++ (WP E aP vo1.2.2.1 ++ (WP E aR vo1.2.2.2 ++ WO E aO (vp_updL vO (Int32.toNatClampNeg 0) vo1.1))))) H := hP
  have hD : va_D A (WQ aQ aN aT aF aP aR vo1.2.1 ++ (WN E aN vN ++ (WP E aP vo1.2.2.1 ++ (WP E aR vo1.2.2.2 ++ WO E aO (vp_updL vO (Int32.toNatClampNeg 0) vo1.1))))) := hD
  refine lv_goto (tgt := 14) hx hb dL_saved_8 (by decide) ?_
  refine lv_iconst (v := 0) hx hb dL_saved_14 (by decide) ?_
  obtain rfl := q_inj h
  exact hRt 15 _ _ _ dL_saved_15 hP hD hS
def mL_alone (vQ : Int32) (vN : SN) (vO : qJ) (x1 : Int32) : Option (Int32 × qJ) := (mX4_alone vQ vN x1).bind fun o1 => qW o1 (fun x => if x = "java/lang/IndexOutOfBoundsException" then some (1, vO) else (none)) fun vo1 => ck 0 1 (some (0, (vp_updL vO (Int32.toNatClampNeg 0) (Int32.toInt64 vo1))))
def rmL_alone : Room := { frames := 8, cells := 1, slots := 6, locals := 134 }
set_option maxHeartbeats 8000000 in
set_option maxRecDepth 100000 in
theorem wL_alone (l : Launch) (hfl : l.stackTraces = false) (E : qE) (aQ : Nat) (aN : Nat → Nat) (aT : Nat → Nat) (aF : Nat → Nat) (aP : Nat → Nat) (aR : Nat → Nat) (aO : Nat) (vQ : Int32) (vN : SN) (vO : qJ) (x1 : Int32) (o : Int32 × qJ) (h : mL_alone vQ vN vO x1 = some o) : MW l E yL_alone wsL_alone rmL_alone [.ref aQ, .int x1, .ref aO] (WQ aQ aN aT aF aP aR vQ ++ (WN E aN vN ++ WO E aO vO)) (WQ aQ aN aT aF aP aR vQ ++ (WN E aN vN ++ WO E aO o.2)) o.1 := by
  refine q_startW (cc := cL_alone) (maxL := 4) (hh := [(0, 9, 12, 21)]) (by decide) rfl (Nat.le_of_ble_eq_true rfl) ?_
  intro pr e s m args below meth c A Q hx hb hml hown hts hK hC hT hZ hN htab hRt hP hD hA hS ls hl
  have hl : lv_has ls 4 [(0, .ref aQ), (1, .int x1), (2, .ref aO)] := hl
  have hw0 := hts (.classLink RL 21 "java/lang/IndexOutOfBoundsException") (by decide +kernel)
  unfold mL_alone at h
  refine lv_aload_n hx hb dL_alone_0 rfl (lv_at hl 2 rfl) ?_
  refine lv_iconst (v := 0) hx hb dL_alone_1 (by decide) ?_
  refine lv_aload_n hx hb dL_alone_2 rfl (lv_at hl 0 rfl) ?_
  refine lv_iload_n hx hb dL_alone_3 rfl (lv_at hl 1 rfl) ?_
  obtain ⟨o1, e2, h⟩ := q_bind h
  rcases o1 with X3 | vo1
  · have h := qW_l h
    by_cases c4 : X3 = "java/lang/IndexOutOfBoundsException"
    · have h := q_pos c4 h
      subst c4
      refine qx_c (vx_runV (As := [.int x1]) (rest := [.int 0, .ref aO]) ⟨hx, hb, hml, hown, hts⟩ (xX4_alone l hfl E aQ aN aT aF aP aR vQ vN x1 _ e2 _) (cwV 1 hts gL_alone_X4_alone rfl rfl rfl (by decide +kernel) ⟨Nat.le_of_ble_eq_true rfl, Nat.le_of_ble_eq_true rfl⟩) (qx_preV hK hC hT hZ hS hA hP hD pm_3_01 4 0 rfl rfl) rfl rfl hl.1 rfl (lv_room (Nat.le_of_ble_eq_true rfl)) dL_alone_4 ⟨Nat.le_of_ble_eq_true rfl, Nat.le_of_ble_eq_true rfl⟩) hP hD hS hA pm_3_01 (fun H locs q9 ce hP hD hS b4 b5 b6 => ?_)
      refine vx_catch (name := "java/lang/IndexOutOfBoundsException") hown [] ⟨0, 9, 12, 21⟩ [] (htab.trans rfl) (fun z hz => nomatch hz) (by decide) (by decide) hw0 (va_Nw.use rfl hC.2.2.1) b4 b5 b6 ?_
      refine lv_astore_n (lv' := [(3, .ref q9), (0, .ref aQ), (1, .int x1), (2, .ref aO)]) hx hb dL_alone_12 rfl hl (by decide) rfl (fun ls hl => ?_)
      refine lv_iconst (v := 1) hx hb dL_alone_13 (by decide) ?_
      obtain rfl := q_inj h
      exact hRt 14 _ _ _ dL_alone_14 hP hD hS
    have h := q_neg c4 h
    cases h
  have h := qW_r h
  refine q_ci (va_runV (As := [.int x1]) (rest := [.int 0, .ref aO]) ⟨hx, hb, hml, hown, hts⟩ (wX4_alone l E aQ aN aT aF aP aR vQ vN x1 vo1 e2 _) (cwV 1 hts gL_alone_X4_alone rfl rfl rfl (by decide +kernel) ⟨Nat.le_of_ble_eq_true rfl, Nat.le_of_ble_eq_true rfl⟩) (q_preV hK hP hD pm_3_01 4 0 rfl rfl) rfl rfl hl.1 rfl (lv_room (Nat.le_of_ble_eq_true rfl)) dL_alone_4 ⟨Nat.zero_le _, Nat.zero_le _⟩) hP hD hS hA pm_3_01 pm_3_01.symm (fun H locs hP hD hS => ?_)
  refine W.widen (k := 1) (n := 6) (Nat.le_of_ble_eq_true rfl) (Nat.le_of_ble_eq_true rfl) ?_
  refine lv_i2l hx hb dL_alone_7 rfl ?_
  obtain ⟨i5, h⟩ := q_ck h
  refine va_last (f := vO) hx hb hK.1 hP hD hS 10 1 rfl rfl i5 dL_alone_8 (fun H locs hP hD hS => ?_)
  have hP : va_P E.1 vwCl (WQ aQ aN aT aF aP aR vQ ++ (WN E aN vN ++ WO E aO (vp_updL vO (Int32.toNatClampNeg 0) (Int32.toInt64 vo1)))) H := hP
  have hD : va_D A (WQ aQ aN aT aF aP aR vQ ++ (WN E aN vN ++ WO E aO (vp_updL vO (Int32.toNatClampNeg 0) (Int32.toInt64 vo1)))) := hD
  refine lv_goto (tgt := 15) hx hb dL_alone_9 (by decide) ?_
  refine lv_iconst (v := 0) hx hb dL_alone_15 (by decide) ?_
  obtain rfl := q_inj h
  exact hRt 16 _ _ _ dL_alone_16 hP hD hS
