/-! THE CLAIM OUT OF ONE WALK OF THE LAW'S BODY. Your part is whole_start (and what it stands on); all else here is the same for every law, but numbers. -/
def R_law : String := "QueueReaderLaw"
def lw_P (b : Addr) (xs : List Int32) (args : Array Value) (s : State) : Prop := args = #[.ref b] ∧ s.IntsAt b xs ∧ xs.length ≤ 3072 ∧ (Jvm.Cond.and given_1 narrow_1).before args s = true
def lw_Q (_ : Array Value) (s : State) (o : Outcome) (t : State) : Prop := o = .returned (some (.int 1)) ∧ Framed s o t [] 1088 16873
def lw_Z (below : List Frame) (a : Array Value) (s : State) : State → Prop := fun t => ∃ o, t.status = .running ∧ Ended t below o ∧ lw_Q a s o t
/-- the law's own end, with 1 on the stack, nothing written that was there before, its room as the claim has it -/
theorem lw_ret {p : Program} {l : Launch} {e : Env} {s : State} {m : MethodId} {below : List Frame} {meth : Method} {c : Code} {b : Nat} (hx : p.tables.exec = Jvm.exec) (hb : c.code = code) (hr : meth.sig.returnType = ret) (hlocks : meth.locks = false) {pc : Nat} {H : Heap} {ls : Array Slot} (hdg : decode code pc = .ok (.ireturn, 1)) : W p l e room_1 s m #[Value.ref b] below meth c H [] 1088 16873 (lw_Z below #[Value.ref b] s) (F0 m pc ls [.int 1]) := by
  intro T hT X
  obtain ⟨fs, hret, hrun, hended, hW, hframe⟩ := X.leave (v := some (.int 1)) (hlocks := hlocks) (fun h => by rw [hr] at h; cases h)
  have hmeth' : T.vm.method? m = some meth := X.method'
  refine ⟨T.setFrames fs, ?_, .returned (some (.int 1)), hrun, hended, rfl, ⟨_, rfl⟩, hW, hframe⟩
  jvm_step X.here [X.here.top, hx, hb, hdg, hmeth', hr, ret, narrow_b1]
  (try refine ⟨rfl, ?_⟩); (try refine ⟨rfl, ?_⟩)
  first | (intro acts; rw [hret _ acts rfl rfl rfl]) | rw [hret _ _ rfl rfl rfl]
  exact Steps.refl _
/-- what holds at the law's entry: the machine, the code, the tables' words (any of lw_tbl by 'hts w (by decide +kernel)'), the script of L ints xs at the cell b, what the Statement gives of the start (any of its parts by flat_of_before) -/
def lw_At (p : Program) (s : State) (m : MethodId) (meth : Method) (c : Code) (b L : Nat) (xs : Nat → Int32) : Prop :=
  p.tables.exec = Jvm.exec ∧ c.code = code ∧ meth.sig.returnType = ret ∧ c.maxLocals = 8 ∧ s.vm.findClass R_law = some m.cls ∧ (∀ w ∈ lw_tbl, w.before #[Value.ref b] s = true) ∧ va_X b L xs s s.heap ∧ b < s.heap.size ∧ meth.locks = false ∧ (Jvm.Cond.and given_1 narrow_1).before #[Value.ref b] s = true
theorem pm_8_017 {b0 b1 b2 b3 b4 b5 b6 b7 : va_W} : (b0 ++ (b1 ++ (b2 ++ (b3 ++ (b4 ++ (b5 ++ (b6 ++ b7))))))).Perm ((b0 ++ (b1 ++ b7)) ++ (b2 ++ (b3 ++ (b4 ++ (b5 ++ b6))))) := by
  try simp only [List.append_assoc]
  refine List.Perm.trans (List.Perm.append_left _ (List.Perm.append_left _ (List.Perm.append_left _ (List.Perm.append_left _ (List.Perm.append_left _ (List.Perm.append_left _ List.perm_append_comm)))))) ?_
  refine List.Perm.trans (List.Perm.append_left _ (List.Perm.append_left _ (List.Perm.append_left _ (List.Perm.append_left _ (List.Perm.append_left _ (List.perm_append_comm_assoc _ _ _)))))) ?_
  refine List.Perm.trans (List.Perm.append_left _ (List.Perm.append_left _ (List.Perm.append_left _ (List.Perm.append_left _ (List.perm_append_comm_assoc _ _ _))))) ?_
  refine List.Perm.trans (List.Perm.append_left _ (List.Perm.append_left _ (List.Perm.append_left _ (List.perm_append_comm_assoc _ _ _)))) ?_
  refine List.Perm.trans (List.Perm.append_left _ (List.Perm.append_left _ (List.perm_append_comm_assoc _ _ _))) ?_
  exact List.Perm.refl _
theorem pm_8_6 {b0 b1 b2 b3 b4 b5 b6 b7 : va_W} : (b0 ++ (b1 ++ (b2 ++ (b3 ++ (b4 ++ (b5 ++ (b6 ++ b7))))))).Perm ((b6) ++ (b0 ++ (b1 ++ (b2 ++ (b3 ++ (b4 ++ (b5 ++ b7))))))) := by
  try simp only [List.append_assoc]
  refine List.Perm.trans (List.Perm.append_left _ (List.Perm.append_left _ (List.Perm.append_left _ (List.Perm.append_left _ (List.Perm.append_left _ (List.perm_append_comm_assoc _ _ _)))))) ?_
  refine List.Perm.trans (List.Perm.append_left _ (List.Perm.append_left _ (List.Perm.append_left _ (List.Perm.append_left _ (List.perm_append_comm_assoc _ _ _))))) ?_
  refine List.Perm.trans (List.Perm.append_left _ (List.Perm.append_left _ (List.Perm.append_left _ (List.perm_append_comm_assoc _ _ _)))) ?_
  refine List.Perm.trans (List.Perm.append_left _ (List.Perm.append_left _ (List.perm_append_comm_assoc _ _ _))) ?_
  refine List.Perm.trans (List.Perm.append_left _ (List.perm_append_comm_assoc _ _ _)) ?_
  refine List.Perm.trans (List.perm_append_comm_assoc _ _ _) ?_
  exact List.Perm.refl _
theorem pm_8_01 {b0 b1 b2 b3 b4 b5 b6 b7 : va_W} : (b0 ++ (b1 ++ (b2 ++ (b3 ++ (b4 ++ (b5 ++ (b6 ++ b7))))))).Perm ((b0 ++ b1) ++ (b2 ++ (b3 ++ (b4 ++ (b5 ++ (b6 ++ b7)))))) := by
  try simp only [List.append_assoc]
  exact List.Perm.refl _
theorem pm_8_012 {b0 b1 b2 b3 b4 b5 b6 b7 : va_W} : (b0 ++ (b1 ++ (b2 ++ (b3 ++ (b4 ++ (b5 ++ (b6 ++ b7))))))).Perm ((b0 ++ (b1 ++ b2)) ++ (b3 ++ (b4 ++ (b5 ++ (b6 ++ b7))))) := by
  try simp only [List.append_assoc]
  exact List.Perm.refl _
theorem pm_8_0127 {b0 b1 b2 b3 b4 b5 b6 b7 : va_W} : (b0 ++ (b1 ++ (b2 ++ (b3 ++ (b4 ++ (b5 ++ (b6 ++ b7))))))).Perm ((b0 ++ (b1 ++ (b2 ++ b7))) ++ (b3 ++ (b4 ++ (b5 ++ b6)))) := by
  try simp only [List.append_assoc]
  refine List.Perm.trans (List.Perm.append_left _ (List.Perm.append_left _ (List.Perm.append_left _ (List.Perm.append_left _ (List.Perm.append_left _ (List.Perm.append_left _ List.perm_append_comm)))))) ?_
  refine List.Perm.trans (List.Perm.append_left _ (List.Perm.append_left _ (List.Perm.append_left _ (List.Perm.append_left _ (List.Perm.append_left _ (List.perm_append_comm_assoc _ _ _)))))) ?_
  refine List.Perm.trans (List.Perm.append_left _ (List.Perm.append_left _ (List.Perm.append_left _ (List.Perm.append_left _ (List.perm_append_comm_assoc _ _ _))))) ?_
  refine List.Perm.trans (List.Perm.append_left _ (List.Perm.append_left _ (List.Perm.append_left _ (List.perm_append_comm_assoc _ _ _)))) ?_
  exact List.Perm.refl _
theorem pm_8_0147 {b0 b1 b2 b3 b4 b5 b6 b7 : va_W} : (b0 ++ (b1 ++ (b2 ++ (b3 ++ (b4 ++ (b5 ++ (b6 ++ b7))))))).Perm ((b0 ++ (b1 ++ (b4 ++ b7))) ++ (b2 ++ (b3 ++ (b5 ++ b6)))) := by
  try simp only [List.append_assoc]
  refine List.Perm.trans (List.Perm.append_left _ (List.Perm.append_left _ (List.Perm.append_left _ (List.perm_append_comm_assoc _ _ _)))) ?_
  refine List.Perm.trans (List.Perm.append_left _ (List.Perm.append_left _ (List.perm_append_comm_assoc _ _ _))) ?_
  refine List.Perm.trans (List.Perm.append_left _ (List.Perm.append_left _ (List.Perm.append_left _ (List.Perm.append_left _ (List.Perm.append_left _ (List.Perm.append_left _ List.perm_append_comm)))))) ?_
  refine List.Perm.trans (List.Perm.append_left _ (List.Perm.append_left _ (List.Perm.append_left _ (List.Perm.append_left _ (List.Perm.append_left _ (List.perm_append_comm_assoc _ _ _)))))) ?_
  refine List.Perm.trans (List.Perm.append_left _ (List.Perm.append_left _ (List.Perm.append_left _ (List.Perm.append_left _ (List.perm_append_comm_assoc _ _ _))))) ?_
  refine List.Perm.trans (List.Perm.append_left _ (List.Perm.append_left _ (List.Perm.append_left _ (List.perm_append_comm_assoc _ _ _)))) ?_
  exact List.Perm.refl _
theorem pm_8_0124 {b0 b1 b2 b3 b4 b5 b6 b7 : va_W} : (b0 ++ (b1 ++ (b2 ++ (b3 ++ (b4 ++ (b5 ++ (b6 ++ b7))))))).Perm ((b0 ++ (b1 ++ (b2 ++ b4))) ++ (b3 ++ (b5 ++ (b6 ++ b7)))) := by
  try simp only [List.append_assoc]
  refine List.Perm.trans (List.Perm.append_left _ (List.Perm.append_left _ (List.Perm.append_left _ (List.perm_append_comm_assoc _ _ _)))) ?_
  exact List.Perm.refl _
theorem pm_8_01237 {b0 b1 b2 b3 b4 b5 b6 b7 : va_W} : (b0 ++ (b1 ++ (b2 ++ (b3 ++ (b4 ++ (b5 ++ (b6 ++ b7))))))).Perm ((b0 ++ (b1 ++ (b2 ++ (b3 ++ b7)))) ++ (b4 ++ (b5 ++ b6))) := by
  try simp only [List.append_assoc]
  refine List.Perm.trans (List.Perm.append_left _ (List.Perm.append_left _ (List.Perm.append_left _ (List.Perm.append_left _ (List.Perm.append_left _ (List.Perm.append_left _ List.perm_append_comm)))))) ?_
  refine List.Perm.trans (List.Perm.append_left _ (List.Perm.append_left _ (List.Perm.append_left _ (List.Perm.append_left _ (List.Perm.append_left _ (List.perm_append_comm_assoc _ _ _)))))) ?_
  refine List.Perm.trans (List.Perm.append_left _ (List.Perm.append_left _ (List.Perm.append_left _ (List.Perm.append_left _ (List.perm_append_comm_assoc _ _ _))))) ?_
  exact List.Perm.refl _
theorem pm_8_01247 {b0 b1 b2 b3 b4 b5 b6 b7 : va_W} : (b0 ++ (b1 ++ (b2 ++ (b3 ++ (b4 ++ (b5 ++ (b6 ++ b7))))))).Perm ((b0 ++ (b1 ++ (b2 ++ (b4 ++ b7)))) ++ (b3 ++ (b5 ++ b6))) := by
  try simp only [List.append_assoc]
  refine List.Perm.trans (List.Perm.append_left _ (List.Perm.append_left _ (List.Perm.append_left _ (List.perm_append_comm_assoc _ _ _)))) ?_
  refine List.Perm.trans (List.Perm.append_left _ (List.Perm.append_left _ (List.Perm.append_left _ (List.Perm.append_left _ (List.Perm.append_left _ (List.Perm.append_left _ List.perm_append_comm)))))) ?_
  refine List.Perm.trans (List.Perm.append_left _ (List.Perm.append_left _ (List.Perm.append_left _ (List.Perm.append_left _ (List.Perm.append_left _ (List.perm_append_comm_assoc _ _ _)))))) ?_
  refine List.Perm.trans (List.Perm.append_left _ (List.Perm.append_left _ (List.Perm.append_left _ (List.Perm.append_left _ (List.perm_append_comm_assoc _ _ _))))) ?_
  exact List.Perm.refl _
theorem pm_8_014 {b0 b1 b2 b3 b4 b5 b6 b7 : va_W} : (b0 ++ (b1 ++ (b2 ++ (b3 ++ (b4 ++ (b5 ++ (b6 ++ b7))))))).Perm ((b0 ++ (b1 ++ b4)) ++ (b2 ++ (b3 ++ (b5 ++ (b6 ++ b7))))) := by
  try simp only [List.append_assoc]
  refine List.Perm.trans (List.Perm.append_left _ (List.Perm.append_left _ (List.Perm.append_left _ (List.perm_append_comm_assoc _ _ _)))) ?_
  refine List.Perm.trans (List.Perm.append_left _ (List.Perm.append_left _ (List.perm_append_comm_assoc _ _ _))) ?_
  exact List.Perm.refl _
theorem pm_8_01457 {b0 b1 b2 b3 b4 b5 b6 b7 : va_W} : (b0 ++ (b1 ++ (b2 ++ (b3 ++ (b4 ++ (b5 ++ (b6 ++ b7))))))).Perm ((b0 ++ (b1 ++ (b4 ++ (b5 ++ b7)))) ++ (b2 ++ (b3 ++ b6))) := by
  try simp only [List.append_assoc]
  refine List.Perm.trans (List.Perm.append_left _ (List.Perm.append_left _ (List.Perm.append_left _ (List.perm_append_comm_assoc _ _ _)))) ?_
  refine List.Perm.trans (List.Perm.append_left _ (List.Perm.append_left _ (List.perm_append_comm_assoc _ _ _))) ?_
  refine List.Perm.trans (List.Perm.append_left _ (List.Perm.append_left _ (List.Perm.append_left _ (List.Perm.append_left _ (List.perm_append_comm_assoc _ _ _))))) ?_
  refine List.Perm.trans (List.Perm.append_left _ (List.Perm.append_left _ (List.Perm.append_left _ (List.perm_append_comm_assoc _ _ _)))) ?_
  refine List.Perm.trans (List.Perm.append_left _ (List.Perm.append_left _ (List.Perm.append_left _ (List.Perm.append_left _ (List.Perm.append_left _ (List.Perm.append_left _ List.perm_append_comm)))))) ?_
  refine List.Perm.trans (List.Perm.append_left _ (List.Perm.append_left _ (List.Perm.append_left _ (List.Perm.append_left _ (List.Perm.append_left _ (List.perm_append_comm_assoc _ _ _)))))) ?_
  refine List.Perm.trans (List.Perm.append_left _ (List.Perm.append_left _ (List.Perm.append_left _ (List.Perm.append_left _ (List.perm_append_comm_assoc _ _ _))))) ?_
  exact List.Perm.refl _
theorem pm_8_0145 {b0 b1 b2 b3 b4 b5 b6 b7 : va_W} : (b0 ++ (b1 ++ (b2 ++ (b3 ++ (b4 ++ (b5 ++ (b6 ++ b7))))))).Perm ((b0 ++ (b1 ++ (b4 ++ b5))) ++ (b2 ++ (b3 ++ (b6 ++ b7)))) := by
  try simp only [List.append_assoc]
  refine List.Perm.trans (List.Perm.append_left _ (List.Perm.append_left _ (List.Perm.append_left _ (List.perm_append_comm_assoc _ _ _)))) ?_
  refine List.Perm.trans (List.Perm.append_left _ (List.Perm.append_left _ (List.perm_append_comm_assoc _ _ _))) ?_
  refine List.Perm.trans (List.Perm.append_left _ (List.Perm.append_left _ (List.Perm.append_left _ (List.Perm.append_left _ (List.perm_append_comm_assoc _ _ _))))) ?_
  refine List.Perm.trans (List.Perm.append_left _ (List.Perm.append_left _ (List.Perm.append_left _ (List.perm_append_comm_assoc _ _ _)))) ?_
  exact List.Perm.refl _
def lpL_law (L : Nat) (xs : Nat → Int32) : Nat → Int32 → Int32 → SN → ST → SF → SP → SP → SM → qJ → Option Int32
  | 0, _, _, _, _, _, _, _, _, _ => none
  | k + 1, x4, vQ, vN, vT, vF, vP, vR, vM, vO => if ((Int32.ofNat L) - 6) < x4 then (some 1) else (ck x4 L (if Int32.toInt ((xs (Int32.toNatClampNeg x4)) &&& 31) < 0 ∨ 16 < Int32.toInt ((xs (Int32.toNatClampNeg x4)) &&& 31) then (lpL_law L xs k (x4 + 6) vQ vN vT vF vP vR vM vO) else (if ((xs (Int32.toNatClampNeg x4)) &&& 31) = 0 then (ck (x4 + 1) L (ck (x4 + 2) L (ck (x4 + 3) L ((mL_place vQ vN vO (xs (Int32.toNatClampNeg (x4 + 1))) (xs (Int32.toNatClampNeg (x4 + 2))) (xs (Int32.toNatClampNeg (x4 + 3)))).bind fun o8 => ck (x4 + 1) L (ck (x4 + 2) L (ck (x4 + 3) L ((mX5_place vM (xs (Int32.toNatClampNeg (x4 + 1))) (xs (Int32.toNatClampNeg (x4 + 2))) (xs (Int32.toNatClampNeg (x4 + 3)))).bind fun o13 => (mX5_thrown o13.2).bind fun o15 => if o15 = o8.1 then (if o8.1 = 0 then (ck 0 1 (if (lg_cmp (o8.2.2.2 (Int32.toNatClampNeg 0)) (Int32.toInt64 o13.1)) = 0 then (lpL_law L xs k (x4 + 6) o8.2.1 o8.2.2.1 vT vF vP vR o13.2 o8.2.2.2) else (some 0))) else (lpL_law L xs k (x4 + 6) o8.2.1 o8.2.2.1 vT vF vP vR o13.2 o8.2.2.2)) else (some 0)))))))) else (if ((xs (Int32.toNatClampNeg x4)) &&& 31) = 1 then (ck (x4 + 1) L (ck (x4 + 2) L (ck (x4 + 3) L (ck (x4 + 4) L ((mL_change vQ vN (xs (Int32.toNatClampNeg (x4 + 1))) (xs (Int32.toNatClampNeg (x4 + 2))) (xs (Int32.toNatClampNeg (x4 + 3))) (xs (Int32.toNatClampNeg (x4 + 4)))).bind fun o26 => ck (x4 + 1) L (ck (x4 + 2) L (ck (x4 + 3) L (ck (x4 + 4) L ((mX5_change vM (xs (Int32.toNatClampNeg (x4 + 1))) (xs (Int32.toNatClampNeg (x4 + 2))) (xs (Int32.toNatClampNeg (x4 + 3))) (xs (Int32.toNatClampNeg (x4 + 4)))).bind fun o32 => (mX5_thrown o32).bind fun o34 => if o34 = o26.1 then (lpL_law L xs k (x4 + 6) o26.2.1 o26.2.2 vT vF vP vR o32 vO) else (some 0)))))))))) else (if ((xs (Int32.toNatClampNeg x4)) &&& 31) = 2 then (ck (x4 + 1) L (ck (x4 + 2) L (ck (x4 + 3) L (ck (x4 + 4) L ((mL_ask vQ vN vO (xs (Int32.toNatClampNeg (x4 + 1))) (xs (Int32.toNatClampNeg (x4 + 2))) (xs (Int32.toNatClampNeg (x4 + 3))) (xs (Int32.toNatClampNeg (x4 + 4)))).bind fun o42 => ck (x4 + 1) L (ck (x4 + 2) L (ck (x4 + 3) L (ck (x4 + 4) L ((mX5_ask vM (xs (Int32.toNatClampNeg (x4 + 1))) (xs (Int32.toNatClampNeg (x4 + 2))) (xs (Int32.toNatClampNeg (x4 + 3))) (xs (Int32.toNatClampNeg (x4 + 4)))).bind fun o48 => (mX5_thrown o48.2).bind fun o50 => if o50 = o42.1 then (if o42.1 = 0 then (ck 0 1 (if (lg_cmp (o42.2.2.2 (Int32.toNatClampNeg 0)) (Int32.toInt64 o48.1)) = 0 then (lpL_law L xs k (x4 + 6) o42.2.1 o42.2.2.1 vT vF vP vR o48.2 o42.2.2.2) else (some 0))) else (lpL_law L xs k (x4 + 6) o42.2.1 o42.2.2.1 vT vF vP vR o48.2 o42.2.2.2)) else (some 0)))))))))) else (if ((xs (Int32.toNatClampNeg x4)) &&& 31) = 3 then (ck (x4 + 1) L (ck (x4 + 2) L (ck (x4 + 3) L ((mL_step vQ vN vO (xs (Int32.toNatClampNeg (x4 + 1))) (xs (Int32.toNatClampNeg (x4 + 2))) (xs (Int32.toNatClampNeg (x4 + 3)))).bind fun o60 => ck (x4 + 1) L (ck (x4 + 2) L (ck (x4 + 3) L ((mX5_step vM (xs (Int32.toNatClampNeg (x4 + 1))) (xs (Int32.toNatClampNeg (x4 + 2))) (xs (Int32.toNatClampNeg (x4 + 3)))).bind fun o65 => (mX5_thrown o65.2).bind fun o67 => if o67 = o60.1 then (if o60.1 = 0 then (ck 0 1 (if (lg_cmp (o60.2.2.2 (Int32.toNatClampNeg 0)) (Int32.toInt64 o65.1)) = 0 then (lpL_law L xs k (x4 + 6) o60.2.1 o60.2.2.1 vT vF vP vR o65.2 o60.2.2.2) else (some 0))) else (lpL_law L xs k (x4 + 6) o60.2.1 o60.2.2.1 vT vF vP vR o65.2 o60.2.2.2)) else (some 0)))))))) else (if ((xs (Int32.toNatClampNeg x4)) &&& 31) = 4 then (ck (x4 + 1) L (ck (x4 + 2) L (ck (x4 + 3) L (ck (x4 + 4) L ((mL_seen vQ vN vT (xs (Int32.toNatClampNeg (x4 + 1))) (xs (Int32.toNatClampNeg (x4 + 2))) (xs (Int32.toNatClampNeg (x4 + 3))) (xs (Int32.toNatClampNeg (x4 + 4)))).bind fun o78 => ck (x4 + 1) L (ck (x4 + 2) L (ck (x4 + 3) L (ck (x4 + 4) L ((mX5_seen vM (xs (Int32.toNatClampNeg (x4 + 1))) (xs (Int32.toNatClampNeg (x4 + 2))) (xs (Int32.toNatClampNeg (x4 + 3))) (xs (Int32.toNatClampNeg (x4 + 4)))).bind fun o84 => (mX5_thrown o84).bind fun o86 => if o86 = o78.1 then (lpL_law L xs k (x4 + 6) vQ vN o78.2 vF vP vR o84 vO) else (some 0)))))))))) else (if ((xs (Int32.toNatClampNeg x4)) &&& 31) = 5 then (ck (x4 + 1) L (ck (x4 + 2) L ((mL_unsee vQ vN vT vO (xs (Int32.toNatClampNeg (x4 + 1))) (xs (Int32.toNatClampNeg (x4 + 2)))).bind fun o92 => ck (x4 + 1) L (ck (x4 + 2) L ((mX5_unsee vM (xs (Int32.toNatClampNeg (x4 + 1))) (xs (Int32.toNatClampNeg (x4 + 2)))).bind fun o96 => (mX5_thrown o96.2).bind fun o98 => if o98 = o92.1 then (if o92.1 = 0 then (ck 0 1 (Option.bind (if o96.1 = 0 then (some 0) else (some 1)) fun z104 => if (lg_cmp (o92.2.2 (Int32.toNatClampNeg 0)) z104) = 0 then (lpL_law L xs k (x4 + 6) vQ vN o92.2.1 vF vP vR o96.2 o92.2.2) else (some 0))) else (lpL_law L xs k (x4 + 6) vQ vN o92.2.1 vF vP vR o96.2 o92.2.2)) else (some 0)))))) else (if ((xs (Int32.toNatClampNeg x4)) &&& 31) = 6 then (ck (x4 + 1) L (ck (x4 + 2) L (ck (x4 + 3) L ((mL_played vQ vN vP vO (xs (Int32.toNatClampNeg (x4 + 1))) (xs (Int32.toNatClampNeg (x4 + 2))) (xs (Int32.toNatClampNeg (x4 + 3)))).bind fun o112 => ck (x4 + 1) L (ck (x4 + 2) L (ck (x4 + 3) L ((mX5_played vM (xs (Int32.toNatClampNeg (x4 + 1))) (xs (Int32.toNatClampNeg (x4 + 2))) (xs (Int32.toNatClampNeg (x4 + 3)))).bind fun o117 => (mX5_thrown o117.2).bind fun o119 => if o119 = o112.1 then (if o112.1 = 0 then (ck 0 1 (if (lg_cmp (o112.2.2.2 (Int32.toNatClampNeg 0)) (Int32.toInt64 o117.1)) = 0 then (lpL_law L xs k (x4 + 6) o112.2.1 vN vT vF o112.2.2.1 vR o117.2 o112.2.2.2) else (some 0))) else (lpL_law L xs k (x4 + 6) o112.2.1 vN vT vF o112.2.2.1 vR o117.2 o112.2.2.2)) else (some 0)))))))) else (if ((xs (Int32.toNatClampNeg x4)) &&& 31) = 7 then ((mX4_trace vQ vN vT vP).bind fun o126 => (mX5_trace vM).bind fun o128 => if o126.1 = o128.1 then (lpL_law L xs k (x4 + 6) o126.2.1 vN o126.2.2.1 vF o126.2.2.2 vR o128.2 vO) else (some 0)) else (if ((xs (Int32.toNatClampNeg x4)) &&& 31) = 8 then ((mX4_unlike vQ vN vT vP).bind fun o132 => (mX5_unlike vM).bind fun o134 => if o132.1 = o134.1 then (lpL_law L xs k (x4 + 6) o132.2.1 vN vT vF o132.2.2 vR o134.2 vO) else (some 0)) else (if ((xs (Int32.toNatClampNeg x4)) &&& 31) = 9 then (ck (x4 + 1) L (ck (x4 + 2) L (Option.bind (if (xs (Int32.toNatClampNeg (x4 + 2))) = 0 then (some 0) else (some 1)) fun z141 => (mL_found vQ vN vT vF vO (xs (Int32.toNatClampNeg (x4 + 1))) z141).bind fun o143 => ck (x4 + 1) L (ck (x4 + 2) L (Option.bind (if (xs (Int32.toNatClampNeg (x4 + 2))) = 0 then (some 0) else (some 1)) fun z148 => (mX5_found vM (xs (Int32.toNatClampNeg (x4 + 1))) z148).bind fun o150 => (mX5_thrown o150.2).bind fun o152 => if o152 = o143.1 then (if o143.1 = 0 then (ck 0 1 (if (lg_cmp (o143.2.2 (Int32.toNatClampNeg 0)) (Int32.toInt64 o150.1)) = 0 then (lpL_law L xs k (x4 + 6) vQ vN vT o143.2.1 vP vR o150.2 o143.2.2) else (some 0))) else (lpL_law L xs k (x4 + 6) vQ vN vT o143.2.1 vP vR o150.2 o143.2.2)) else (some 0)))))) else (if ((xs (Int32.toNatClampNeg x4)) &&& 31) = 10 then (ck (x4 + 1) L ((mL_overlap vQ vN vT vF vO (xs (Int32.toNatClampNeg (x4 + 1)))).bind fun o162 => ck (x4 + 1) L ((mX5_overlap vM (xs (Int32.toNatClampNeg (x4 + 1)))).bind fun o165 => (mX5_thrown o165.2).bind fun o167 => if o167 = o162.1 then (if o162.1 = 0 then (ck 0 1 (if (lg_cmp (o162.2.2 (Int32.toNatClampNeg 0)) (Int32.toInt64 o165.1)) = 0 then (lpL_law L xs k (x4 + 6) vQ vN vT o162.2.1 vP vR o165.2 o162.2.2) else (some 0))) else (lpL_law L xs k (x4 + 6) vQ vN vT o162.2.1 vP vR o165.2 o162.2.2)) else (some 0)))) else (if ((xs (Int32.toNatClampNeg x4)) &&& 31) = 11 then (ck (x4 + 1) L (ck (x4 + 2) L (Option.bind (if (xs (Int32.toNatClampNeg (x4 + 2))) = 0 then (some 0) else (some 1)) fun z177 => ck (x4 + 3) L (ck (x4 + 4) L (ck (x4 + 5) L ((mL_counts vQ vN vT vP vO (xs (Int32.toNatClampNeg (x4 + 1))) z177 (xs (Int32.toNatClampNeg (x4 + 3))) (xs (Int32.toNatClampNeg (x4 + 4))) (xs (Int32.toNatClampNeg (x4 + 5)))).bind fun o182 => ck (x4 + 1) L (ck (x4 + 2) L (Option.bind (if (xs (Int32.toNatClampNeg (x4 + 2))) = 0 then (some 0) else (some 1)) fun z187 => ck (x4 + 3) L (ck (x4 + 4) L (ck (x4 + 5) L ((mX5_counts vM (xs (Int32.toNatClampNeg (x4 + 1))) z187 (xs (Int32.toNatClampNeg (x4 + 3))) (xs (Int32.toNatClampNeg (x4 + 4))) (xs (Int32.toNatClampNeg (x4 + 5)))).bind fun o192 => (mX5_thrown o192.2).bind fun o194 => if o194 = o182.1 then (if o182.1 = 0 then (ck 0 1 (if (lg_cmp (o182.2.2.2 (Int32.toNatClampNeg 0)) o192.1) = 0 then (lpL_law L xs k (x4 + 6) o182.2.1 vN vT vF o182.2.2.1 vR o192.2 o182.2.2.2) else (some 0))) else (lpL_law L xs k (x4 + 6) o182.2.1 vN vT vF o182.2.2.1 vR o192.2 o182.2.2.2)) else (some 0)))))))))))) else (if ((xs (Int32.toNatClampNeg x4)) &&& 31) = 12 then ((mX4_total vQ vN vP).bind fun o203 => (mX5_total vM).bind fun o205 => if (lg_cmp o203.1 o205.1) = 0 then (lpL_law L xs k (x4 + 6) o203.2.1 vN vT vF o203.2.2 vR o205.2 vO) else (some 0)) else (if ((xs (Int32.toNatClampNeg x4)) &&& 31) = 13 then (ck (x4 + 1) L ((mL_saved vQ vN vP vR vO (xs (Int32.toNatClampNeg (x4 + 1)))).bind fun o210 => ck (x4 + 1) L ((mX5_saved vM (xs (Int32.toNatClampNeg (x4 + 1)))).bind fun o213 => (mX5_thrown o213.2).bind fun o215 => if o215 = o210.1 then (if o210.1 = 0 then (ck 0 1 (if (lg_cmp (o210.2.2.2.2 (Int32.toNatClampNeg 0)) o213.1) = 0 then (lpL_law L xs k (x4 + 6) o210.2.1 vN vT vF o210.2.2.1 o210.2.2.2.1 o213.2 o210.2.2.2.2) else (some 0))) else (lpL_law L xs k (x4 + 6) o210.2.1 vN vT vF o210.2.2.1 o210.2.2.2.1 o213.2 o210.2.2.2.2)) else (some 0)))) else (if ((xs (Int32.toNatClampNeg x4)) &&& 31) = 14 then ((mX4_narrow vQ vN vP vR).bind fun o222 => (mX5_narrow vM).bind fun o224 => if o222.1 = o224.1 then (lpL_law L xs k (x4 + 6) o222.2.1 vN vT vF o222.2.2.1 o222.2.2.2 o224.2 vO) else (some 0)) else (if ((xs (Int32.toNatClampNeg x4)) &&& 31) = 15 then (ck (x4 + 1) L ((mL_alone vQ vN vO (xs (Int32.toNatClampNeg (x4 + 1)))).bind fun o229 => ck (x4 + 1) L ((mX5_alone vM (xs (Int32.toNatClampNeg (x4 + 1)))).bind fun o232 => (mX5_thrown o232.2).bind fun o234 => if o234 = o229.1 then (if o229.1 = 0 then (ck 0 1 (if (lg_cmp (o229.2 (Int32.toNatClampNeg 0)) (Int32.toInt64 o232.1)) = 0 then (lpL_law L xs k (x4 + 6) vQ vN vT vF vP vR o232.2 o229.2) else (some 0))) else (lpL_law L xs k (x4 + 6) vQ vN vT vF vP vR o232.2 o229.2)) else (some 0)))) else (if ((xs (Int32.toNatClampNeg x4)) &&& 31) = 16 then (ck (x4 + 1) L ((mX4_count vQ vN vT vP (xs (Int32.toNatClampNeg (x4 + 1)))).bind fun o242 => ck (x4 + 1) L ((mX5_count vM (xs (Int32.toNatClampNeg (x4 + 1)))).bind fun o245 => if o242.1 = o245.1 then (lpL_law L xs k (x4 + 6) o242.2.1 vN vT vF o242.2.2 vR o245.2 vO) else (some 0)))) else (none))))))))))))))))))))
set_option maxHeartbeats 20000000 in
set_option maxRecDepth 100000 in
theorem law_loop {p : Program} {l : Launch} {e : Env} {s : State} {m : MethodId} {below : List Frame} {meth : Method} {c : Code} (hfl : l.stackTraces = false) {b L : Nat} {xs : Nat → Int32} (C0 : lw_At p s m meth c b L xs) (E : qE) (hK : qK E s) (hC : qXC s) (hT : qXS s) (hN : qXN s) (A : Nat → Prop) (hA : ∀ q, s.heap.size ≤ q → A q) (hA2 : ∀ q, A q → s.heap.size ≤ q) (hbA : ¬ A b) (hZ : qXZ A s s.heap) (aQ : Nat) (aN : Nat → Nat) (aT : Nat → Nat) (aF : Nat → Nat) (aP : Nat → Nat) (aR : Nat → Nat) (aM : Nat → Nat) (aO : Nat) :
    ∀ (k cl sl : Nat) (x4 : Int32) (vQ : Int32) (vN : SN) (vT : ST) (vF : SF) (vP : SP) (vR : SP) (vM : SM) (vO : qJ) (H : Heap) (locs : List Loc) (ls : Array Slot), cl + k ≤ 1088 → sl + 6 * k ≤ 16873 → va_P E.1 vwCl (WQ aQ aN aT aF aP aR vQ ++ (WN E aN vN ++ (WT E aT vT ++ (WF E aF vF ++ (WP E aP vP ++ (WP E aR vR ++ (WM E aM vM ++ WO E aO vO))))))) H → va_D A (WQ aQ aN aT aF aP aR vQ ++ (WN E aN vN ++ (WT E aT vT ++ (WF E aF vF ++ (WP E aP vP ++ (WP E aR vR ++ (WM E aM vM ++ WO E aO vO))))))) → va_S A s.heap H locs → lv_has ls 8 [(0, .ref b), (1, .ref aQ), (2, .ref (aM 0)), (3, .ref aO), (4, .int x4)] → lpL_law L xs k x4 vQ vN vT vF vP vR vM vO = some 1 → W p l e room_1 s m #[Value.ref b] below meth c H locs cl sl (lw_Z below #[Value.ref b] s) (F0 m 23 ls []) := by
  obtain ⟨hx, hb, hr, hml, hown, hts0, hX, hbl, hlocks, hgv⟩ := C0
  have hts : ∀ w ∈ wsL_law, w.before #[Value.ref b] s = true := fun w h => hts0 w (wsL_law_in w h)
  intro k
  induction k with
  | zero => intro cl sl x4 vQ vN vT vF vP vR vM vO H locs ls h1 h2 hP hD hS hl h; cases h
  | succ k ih =>
      intro cl sl x4 vQ vN vT vF vP vR vM vO H locs ls hcl hsl hP hD hS hl h
      rw [lpL_law] at h
      refine lv_iload hx hb dL_law_23 (lv_at hl 4 rfl) ?_
      refine lv_aload_n hx hb dL_law_25 rfl (lv_at hl 0 rfl) ?_
      refine va_slen hx hb hX hbl hbA hS dL_law_26 ?_
      refine lv_bipush (v := 6) hx hb dL_law_27 (by decide) ?_
      refine lv_isub hx hb dL_law_29 ?_
      refine lv_icmp_gt (tgt := 1129) hx hb dL_law_30 (by decide) (fun c1 => ?_) (fun c1 => ?_)
      · have h := q_pos c1 h
        refine lv_iconst (v := 1) hx hb dL_law_1129 (by decide) ?_
        refine va_forget (fun q hq => hA2 _ (hS.2.2 q hq)) ?_
        refine W.widen (k := 1088) (n := 16873) (by omega) (by omega) ?_
        exact lw_ret hx hb hr hlocks dL_law_1130
      · have h := q_neg c1 h
        refine lv_aload_n hx hb dL_law_33 rfl (lv_at hl 0 rfl) ?_
        refine lv_iload hx hb dL_law_34 (lv_at hl 4 rfl) ?_
        obtain ⟨i2, h⟩ := q_ck h
        refine va_sld hx hb hX hbl hbA hS i2 dL_law_36 ?_
        refine lv_bipush (v := 31) hx hb dL_law_37 (by decide) ?_
        refine lv_iand hx hb dL_law_39 ?_
        by_cases c3 : Int32.toInt ((xs (Int32.toNatClampNeg x4)) &&& 31) < 0 ∨ 16 < Int32.toInt ((xs (Int32.toNatClampNeg x4)) &&& 31)
        · have h := q_pos c3 h
          refine lv_tableOut (tgt := 1123) hx hb dL_law_40 c3 (by decide) ?_
          refine lv_iinc (v := (x4 + 6)) (lv' := [(4, .int (x4 + 6)), (0, .ref b), (1, .ref aQ), (2, .ref (aM 0)), (3, .ref aO)]) hx hb dL_law_1123 hl (k := 4) rfl rfl (by decide) rfl (fun ls hl => ?_)
          refine lv_goto (tgt := 23) hx hb dL_law_1126 (by decide) ?_
          exact ih cl sl (x4 + 6) vQ vN vT vF vP vR vM vO _ _ _ (by omega) (by omega) hP hD hS (lv_sub hl [1, 2, 3, 4, 0] rfl) h
        · have h := q_neg c3 h
          by_cases e4 : ((xs (Int32.toNatClampNeg x4)) &&& 31) = 0
          · have h := q_pos e4 h
            refine lv_tableIn (tgt := 124) (off := 84) hx hb dL_law_40 (fun z => c3 (Or.inl z)) (fun z => c3 (Or.inr z)) (by rw [e4]; rfl) (by decide) ?_
            refine lv_aload_n hx hb dL_law_124 rfl (lv_at hl 1 rfl) ?_
            refine lv_aload_n hx hb dL_law_125 rfl (lv_at hl 0 rfl) ?_
            refine lv_iload hx hb dL_law_126 (lv_at hl 4 rfl) ?_
            refine lv_iconst (v := 1) hx hb dL_law_128 (by decide) ?_
            refine lv_iadd hx hb dL_law_129 ?_
            obtain ⟨i5, h⟩ := q_ck h
            refine va_sld hx hb hX hbl hbA hS i5 dL_law_130 ?_
            refine lv_aload_n hx hb dL_law_131 rfl (lv_at hl 0 rfl) ?_
            refine lv_iload hx hb dL_law_132 (lv_at hl 4 rfl) ?_
            refine lv_iconst (v := 2) hx hb dL_law_134 (by decide) ?_
            refine lv_iadd hx hb dL_law_135 ?_
            obtain ⟨i6, h⟩ := q_ck h
            refine va_sld hx hb hX hbl hbA hS i6 dL_law_136 ?_
            refine lv_aload_n hx hb dL_law_137 rfl (lv_at hl 0 rfl) ?_
            refine lv_iload hx hb dL_law_138 (lv_at hl 4 rfl) ?_
            refine lv_iconst (v := 3) hx hb dL_law_140 (by decide) ?_
            refine lv_iadd hx hb dL_law_141 ?_
            obtain ⟨i7, h⟩ := q_ck h
            refine va_sld hx hb hX hbl hbA hS i7 dL_law_142 ?_
            refine lv_aload_n hx hb dL_law_143 rfl (lv_at hl 3 rfl) ?_
            obtain ⟨o8, e9, h⟩ := q_bind h
            refine q_ciW (vx_runSW (As := [.ref aQ, .int (xs (Int32.toNatClampNeg (x4 + 1))), .int (xs (Int32.toNatClampNeg (x4 + 2))), .int (xs (Int32.toNatClampNeg (x4 + 3))), .ref aO]) (rest := []) ⟨hx, hb, hml, hown, hts⟩ (wL_place l hfl E aQ aN aT aF aP aR aO vQ vN vO (xs (Int32.toNatClampNeg (x4 + 1))) (xs (Int32.toNatClampNeg (x4 + 2))) (xs (Int32.toNatClampNeg (x4 + 3))) o8 e9 _) (vx_cwSW 5 hts gL_law_L_place rfl rfl rfl (by decide +kernel) ⟨Nat.le_of_ble_eq_true rfl, Nat.le_of_ble_eq_true rfl⟩) (qw_preS hK hC hT hZ hN hS hA hP hD pm_8_017) rfl rfl hl.1 rfl (lv_room (Nat.le_of_ble_eq_true rfl)) dL_law_144 ⟨show cl + 1 ≤ 1088 by omega, show sl + 6 ≤ 16873 by omega⟩) hP hD hS hA pm_8_017 pm_8_017.symm (fun H locs hP hD hS => ?_)
            refine lv_istore (lv' := [(5, .int o8.1), (0, .ref b), (1, .ref aQ), (2, .ref (aM 0)), (3, .ref aO), (4, .int x4)]) hx hb dL_law_147 hl (by decide) rfl (fun ls hl => ?_)
            refine lv_aload_n hx hb dL_law_149 rfl (lv_at hl 3 rfl) ?_
            refine lv_aload_n hx hb dL_law_150 rfl (lv_at hl 1 rfl) ?_
            refine lv_iload hx hb dL_law_151 (lv_at hl 5 rfl) ?_
            refine lv_iconst (v := 1) hx hb dL_law_153 (by decide) ?_
            refine lv_iadd hx hb dL_law_154 ?_
            obtain ⟨i10, h⟩ := q_ck h
            refine va_sld hx hb hX hbl hbA hS i10 dL_law_155 ?_
            refine lv_aload_n hx hb dL_law_156 rfl (lv_at hl 1 rfl) ?_
            refine lv_iload hx hb dL_law_157 (lv_at hl 5 rfl) ?_
            refine lv_iconst (v := 2) hx hb dL_law_159 (by decide) ?_
            refine lv_iadd hx hb dL_law_160 ?_
            obtain ⟨i11, h⟩ := q_ck h
            refine va_sld hx hb hX hbl hbA hS i11 dL_law_161 ?_
            refine lv_aload_n hx hb dL_law_162 rfl (lv_at hl 1 rfl) ?_
            refine lv_iload hx hb dL_law_163 (lv_at hl 5 rfl) ?_
            refine lv_iconst (v := 3) hx hb dL_law_165 (by decide) ?_
            refine lv_iadd hx hb dL_law_166 ?_
            obtain ⟨i12, h⟩ := q_ck h
            refine va_sld hx hb hX hbl hbA hS i12 dL_law_167 ?_
            obtain ⟨o13, e14, h⟩ := q_bind h
            refine q_ci (va_runV (As := [.int (xs (Int32.toNatClampNeg (x4 + 1))), .int (xs (Int32.toNatClampNeg (x4 + 2))), .int (xs (Int32.toNatClampNeg (x4 + 3)))]) (rest := []) ⟨hx, hb, hml, hown, hts⟩ (wX5_place l E aM vM (xs (Int32.toNatClampNeg (x4 + 1))) (xs (Int32.toNatClampNeg (x4 + 2))) (xs (Int32.toNatClampNeg (x4 + 3))) o13 e14 _) (cwV 3 hts gL_law_X5_place rfl rfl rfl (by decide +kernel) ⟨Nat.le_of_ble_eq_true rfl, Nat.le_of_ble_eq_true rfl⟩) (q_preV hK hP hD pm_8_6 5 38 rfl rfl) rfl rfl hl.1 rfl (lv_room (Nat.le_of_ble_eq_true rfl)) dL_law_168 ⟨show (cl + 1) + 0 ≤ 1088 by omega, show (sl + 6) + 0 ≤ 16873 by omega⟩) hP hD hS hA pm_8_6 pm_8_6.symm (fun H locs hP hD hS => ?_)
            refine lv_istore (lv' := [(6, .int o13.1), (5, .int o8.1), (0, .ref b), (1, .ref aQ), (2, .ref (aM 0)), (3, .ref aO), (4, .int x4)]) hx hb dL_law_171 hl (by decide) rfl (fun ls hl => ?_)
            refine lv_aload_n hx hb dL_law_173 rfl (lv_at hl 4 rfl) ?_
            obtain ⟨o15, e16, h⟩ := q_bind h
            refine q_ci (va_runV (As := []) (rest := []) ⟨hx, hb, hml, hown, hts⟩ (wX5_thrown l E aM o13.2 o15 e16 _) (cwV 0 hts gL_law_X5_thrown rfl rfl rfl (by decide +kernel) ⟨Nat.le_of_ble_eq_true rfl, Nat.le_of_ble_eq_true rfl⟩) (q_preV hK hP hD pm_8_6 5 38 rfl rfl) rfl rfl hl.1 rfl (lv_room (Nat.le_of_ble_eq_true rfl)) dL_law_174 ⟨show (cl + 1) + 0 ≤ 1088 by omega, show (sl + 6) + 0 ≤ 16873 by omega⟩) hP hD hS hA pm_8_6 pm_8_6.symm (fun H locs hP hD hS => ?_)
            refine lv_iload hx hb dL_law_177 (lv_at hl 1 rfl) ?_
            refine lv_icmp_eq (tgt := 184) hx hb dL_law_179 (by decide) (fun c17 => ?_) (fun c17 => ?_)
            · have h := q_pos c17 h
              refine lv_iload hx hb dL_law_184 (lv_at hl 1 rfl) ?_
              refine lv_if_ne (tgt := 201) hx hb dL_law_186 (by decide) (fun c18 => ?_) (fun c18 => ?_)
              · have h := q_neg c18 h
                refine lv_goto (tgt := 1123) hx hb dL_law_201 (by decide) ?_
                refine lv_iinc (v := (x4 + 6)) (lv' := [(4, .int (x4 + 6)), (6, .int o13.1), (5, .int o8.1), (0, .ref b), (1, .ref aQ), (2, .ref (aM 0)), (3, .ref aO)]) hx hb dL_law_1123 hl (k := 6) rfl rfl (by decide) rfl (fun ls hl => ?_)
                refine lv_goto (tgt := 23) hx hb dL_law_1126 (by decide) ?_
                exact ih (cl + 1) (sl + 6) (x4 + 6) o8.2.1 o8.2.2.1 vT vF vP vR o13.2 o8.2.2.2 _ _ _ (by omega) (by omega) hP hD hS (lv_sub hl [3, 4, 5, 6, 0] rfl) h
              · have h := q_pos c18 h
                refine lv_aload_n hx hb dL_law_189 rfl (lv_at hl 5 rfl) ?_
                refine lv_iconst (v := 0) hx hb dL_law_190 (by decide) ?_
                obtain ⟨i19, h⟩ := q_ck h
                refine va_lald (f := o8.2.2.2) hx hb hK.1 hP 55 1 rfl rfl i19 dL_law_191 ?_
                refine lv_iload hx hb dL_law_192 (lv_at hl 0 rfl) ?_
                refine lv_i2l hx hb dL_law_194 rfl ?_
                refine W.lcmp hx hb dL_law_195 ?_
                refine lv_if_eq (tgt := 201) hx hb dL_law_196 (by decide) (fun c20 => ?_) (fun c20 => ?_)
                · have h := q_pos c20 h
                  refine lv_goto (tgt := 1123) hx hb dL_law_201 (by decide) ?_
                  refine lv_iinc (v := (x4 + 6)) (lv' := [(4, .int (x4 + 6)), (6, .int o13.1), (5, .int o8.1), (0, .ref b), (1, .ref aQ), (2, .ref (aM 0)), (3, .ref aO)]) hx hb dL_law_1123 hl (k := 6) rfl rfl (by decide) rfl (fun ls hl => ?_)
                  refine lv_goto (tgt := 23) hx hb dL_law_1126 (by decide) ?_
                  exact ih (cl + 1) (sl + 6) (x4 + 6) o8.2.1 o8.2.2.1 vT vF vP vR o13.2 o8.2.2.2 _ _ _ (by omega) (by omega) hP hD hS (lv_sub hl [3, 4, 5, 6, 0] rfl) h
                · have h := q_neg c20 h
                  refine lv_iconst (v := 0) hx hb dL_law_199 (by decide) ?_
                  exact absurd (Option.some.inj h) (by decide)
            · have h := q_neg c17 h
              refine lv_iconst (v := 0) hx hb dL_law_182 (by decide) ?_
              exact absurd (Option.some.inj h) (by decide)
          have h := q_neg e4 h
          by_cases e21 : ((xs (Int32.toNatClampNeg x4)) &&& 31) = 1
          · have h := q_pos e21 h
            refine lv_tableIn (tgt := 204) (off := 164) hx hb dL_law_40 (fun z => c3 (Or.inl z)) (fun z => c3 (Or.inr z)) (by rw [e21]; rfl) (by decide) ?_
            refine lv_aload_n hx hb dL_law_204 rfl (lv_at hl 1 rfl) ?_
            refine lv_aload_n hx hb dL_law_205 rfl (lv_at hl 0 rfl) ?_
            refine lv_iload hx hb dL_law_206 (lv_at hl 4 rfl) ?_
            refine lv_iconst (v := 1) hx hb dL_law_208 (by decide) ?_
            refine lv_iadd hx hb dL_law_209 ?_
            obtain ⟨i22, h⟩ := q_ck h
            refine va_sld hx hb hX hbl hbA hS i22 dL_law_210 ?_
            refine lv_aload_n hx hb dL_law_211 rfl (lv_at hl 0 rfl) ?_
            refine lv_iload hx hb dL_law_212 (lv_at hl 4 rfl) ?_
            refine lv_iconst (v := 2) hx hb dL_law_214 (by decide) ?_
            refine lv_iadd hx hb dL_law_215 ?_
            obtain ⟨i23, h⟩ := q_ck h
            refine va_sld hx hb hX hbl hbA hS i23 dL_law_216 ?_
            refine lv_aload_n hx hb dL_law_217 rfl (lv_at hl 0 rfl) ?_
            refine lv_iload hx hb dL_law_218 (lv_at hl 4 rfl) ?_
            refine lv_iconst (v := 3) hx hb dL_law_220 (by decide) ?_
            refine lv_iadd hx hb dL_law_221 ?_
            obtain ⟨i24, h⟩ := q_ck h
            refine va_sld hx hb hX hbl hbA hS i24 dL_law_222 ?_
            refine lv_aload_n hx hb dL_law_223 rfl (lv_at hl 0 rfl) ?_
            refine lv_iload hx hb dL_law_224 (lv_at hl 4 rfl) ?_
            refine lv_iconst (v := 4) hx hb dL_law_226 (by decide) ?_
            refine lv_iadd hx hb dL_law_227 ?_
            obtain ⟨i25, h⟩ := q_ck h
            refine va_sld hx hb hX hbl hbA hS i25 dL_law_228 ?_
            obtain ⟨o26, e27, h⟩ := q_bind h
            refine q_ciW (vx_runSW (As := [.ref aQ, .int (xs (Int32.toNatClampNeg (x4 + 1))), .int (xs (Int32.toNatClampNeg (x4 + 2))), .int (xs (Int32.toNatClampNeg (x4 + 3))), .int (xs (Int32.toNatClampNeg (x4 + 4)))]) (rest := []) ⟨hx, hb, hml, hown, hts⟩ (wL_change l hfl E aQ aN aT aF aP aR vQ vN (xs (Int32.toNatClampNeg (x4 + 1))) (xs (Int32.toNatClampNeg (x4 + 2))) (xs (Int32.toNatClampNeg (x4 + 3))) (xs (Int32.toNatClampNeg (x4 + 4))) o26 e27 _) (vx_cwSW 5 hts gL_law_L_change rfl rfl rfl (by decide +kernel) ⟨Nat.le_of_ble_eq_true rfl, Nat.le_of_ble_eq_true rfl⟩) (qw_preS hK hC hT hZ hN hS hA hP hD pm_8_01) rfl rfl hl.1 rfl (lv_room (Nat.le_of_ble_eq_true rfl)) dL_law_229 ⟨show cl + 1 ≤ 1088 by omega, show sl + 6 ≤ 16873 by omega⟩) hP hD hS hA pm_8_01 pm_8_01.symm (fun H locs hP hD hS => ?_)
            refine lv_istore (lv' := [(5, .int o26.1), (0, .ref b), (1, .ref aQ), (2, .ref (aM 0)), (3, .ref aO), (4, .int x4)]) hx hb dL_law_232 hl (by decide) rfl (fun ls hl => ?_)
            refine lv_aload_n hx hb dL_law_234 rfl (lv_at hl 3 rfl) ?_
            refine lv_aload_n hx hb dL_law_235 rfl (lv_at hl 1 rfl) ?_
            refine lv_iload hx hb dL_law_236 (lv_at hl 5 rfl) ?_
            refine lv_iconst (v := 1) hx hb dL_law_238 (by decide) ?_
            refine lv_iadd hx hb dL_law_239 ?_
            obtain ⟨i28, h⟩ := q_ck h
            refine va_sld hx hb hX hbl hbA hS i28 dL_law_240 ?_
            refine lv_aload_n hx hb dL_law_241 rfl (lv_at hl 1 rfl) ?_
            refine lv_iload hx hb dL_law_242 (lv_at hl 5 rfl) ?_
            refine lv_iconst (v := 2) hx hb dL_law_244 (by decide) ?_
            refine lv_iadd hx hb dL_law_245 ?_
            obtain ⟨i29, h⟩ := q_ck h
            refine va_sld hx hb hX hbl hbA hS i29 dL_law_246 ?_
            refine lv_aload_n hx hb dL_law_247 rfl (lv_at hl 1 rfl) ?_
            refine lv_iload hx hb dL_law_248 (lv_at hl 5 rfl) ?_
            refine lv_iconst (v := 3) hx hb dL_law_250 (by decide) ?_
            refine lv_iadd hx hb dL_law_251 ?_
            obtain ⟨i30, h⟩ := q_ck h
            refine va_sld hx hb hX hbl hbA hS i30 dL_law_252 ?_
            refine lv_aload_n hx hb dL_law_253 rfl (lv_at hl 1 rfl) ?_
            refine lv_iload hx hb dL_law_254 (lv_at hl 5 rfl) ?_
            refine lv_iconst (v := 4) hx hb dL_law_256 (by decide) ?_
            refine lv_iadd hx hb dL_law_257 ?_
            obtain ⟨i31, h⟩ := q_ck h
            refine va_sld hx hb hX hbl hbA hS i31 dL_law_258 ?_
            obtain ⟨o32, e33, h⟩ := q_bind h
            refine q_cv (va_runV (As := [.int (xs (Int32.toNatClampNeg (x4 + 1))), .int (xs (Int32.toNatClampNeg (x4 + 2))), .int (xs (Int32.toNatClampNeg (x4 + 3))), .int (xs (Int32.toNatClampNeg (x4 + 4)))]) (rest := []) ⟨hx, hb, hml, hown, hts⟩ (wX5_change l E aM vM (xs (Int32.toNatClampNeg (x4 + 1))) (xs (Int32.toNatClampNeg (x4 + 2))) (xs (Int32.toNatClampNeg (x4 + 3))) (xs (Int32.toNatClampNeg (x4 + 4))) o32 e33 _) (cwV 4 hts gL_law_X5_change rfl rfl rfl (by decide +kernel) ⟨Nat.le_of_ble_eq_true rfl, Nat.le_of_ble_eq_true rfl⟩) (q_preV hK hP hD pm_8_6 5 38 rfl rfl) rfl rfl hl.1 rfl (lv_room (Nat.le_of_ble_eq_true rfl)) dL_law_259 ⟨show (cl + 1) + 0 ≤ 1088 by omega, show (sl + 6) + 0 ≤ 16873 by omega⟩) hP hD hS hA pm_8_6 pm_8_6.symm (fun H locs hP hD hS => ?_)
            refine lv_aload_n hx hb dL_law_262 rfl (lv_at hl 3 rfl) ?_
            obtain ⟨o34, e35, h⟩ := q_bind h
            refine q_ci (va_runV (As := []) (rest := []) ⟨hx, hb, hml, hown, hts⟩ (wX5_thrown l E aM o32 o34 e35 _) (cwV 0 hts gL_law_X5_thrown rfl rfl rfl (by decide +kernel) ⟨Nat.le_of_ble_eq_true rfl, Nat.le_of_ble_eq_true rfl⟩) (q_preV hK hP hD pm_8_6 5 38 rfl rfl) rfl rfl hl.1 rfl (lv_room (Nat.le_of_ble_eq_true rfl)) dL_law_263 ⟨show (cl + 1) + 0 ≤ 1088 by omega, show (sl + 6) + 0 ≤ 16873 by omega⟩) hP hD hS hA pm_8_6 pm_8_6.symm (fun H locs hP hD hS => ?_)
            refine lv_iload hx hb dL_law_266 (lv_at hl 0 rfl) ?_
            refine lv_icmp_eq (tgt := 273) hx hb dL_law_268 (by decide) (fun c36 => ?_) (fun c36 => ?_)
            · have h := q_pos c36 h
              refine lv_goto (tgt := 1123) hx hb dL_law_273 (by decide) ?_
              refine lv_iinc (v := (x4 + 6)) (lv' := [(4, .int (x4 + 6)), (5, .int o26.1), (0, .ref b), (1, .ref aQ), (2, .ref (aM 0)), (3, .ref aO)]) hx hb dL_law_1123 hl (k := 5) rfl rfl (by decide) rfl (fun ls hl => ?_)
              refine lv_goto (tgt := 23) hx hb dL_law_1126 (by decide) ?_
              exact ih (cl + 1) (sl + 6) (x4 + 6) o26.2.1 o26.2.2 vT vF vP vR o32 vO _ _ _ (by omega) (by omega) hP hD hS (lv_sub hl [2, 3, 4, 5, 0] rfl) h
            · have h := q_neg c36 h
              refine lv_iconst (v := 0) hx hb dL_law_271 (by decide) ?_
              exact absurd (Option.some.inj h) (by decide)
          have h := q_neg e21 h
          by_cases e37 : ((xs (Int32.toNatClampNeg x4)) &&& 31) = 2
          · have h := q_pos e37 h
            refine lv_tableIn (tgt := 276) (off := 236) hx hb dL_law_40 (fun z => c3 (Or.inl z)) (fun z => c3 (Or.inr z)) (by rw [e37]; rfl) (by decide) ?_
            refine lv_aload_n hx hb dL_law_276 rfl (lv_at hl 1 rfl) ?_
            refine lv_aload_n hx hb dL_law_277 rfl (lv_at hl 0 rfl) ?_
            refine lv_iload hx hb dL_law_278 (lv_at hl 4 rfl) ?_
            refine lv_iconst (v := 1) hx hb dL_law_280 (by decide) ?_
            refine lv_iadd hx hb dL_law_281 ?_
            obtain ⟨i38, h⟩ := q_ck h
            refine va_sld hx hb hX hbl hbA hS i38 dL_law_282 ?_
            refine lv_aload_n hx hb dL_law_283 rfl (lv_at hl 0 rfl) ?_
            refine lv_iload hx hb dL_law_284 (lv_at hl 4 rfl) ?_
            refine lv_iconst (v := 2) hx hb dL_law_286 (by decide) ?_
            refine lv_iadd hx hb dL_law_287 ?_
            obtain ⟨i39, h⟩ := q_ck h
            refine va_sld hx hb hX hbl hbA hS i39 dL_law_288 ?_
            refine lv_aload_n hx hb dL_law_289 rfl (lv_at hl 0 rfl) ?_
            refine lv_iload hx hb dL_law_290 (lv_at hl 4 rfl) ?_
            refine lv_iconst (v := 3) hx hb dL_law_292 (by decide) ?_
            refine lv_iadd hx hb dL_law_293 ?_
            obtain ⟨i40, h⟩ := q_ck h
            refine va_sld hx hb hX hbl hbA hS i40 dL_law_294 ?_
            refine lv_aload_n hx hb dL_law_295 rfl (lv_at hl 0 rfl) ?_
            refine lv_iload hx hb dL_law_296 (lv_at hl 4 rfl) ?_
            refine lv_iconst (v := 4) hx hb dL_law_298 (by decide) ?_
            refine lv_iadd hx hb dL_law_299 ?_
            obtain ⟨i41, h⟩ := q_ck h
            refine va_sld hx hb hX hbl hbA hS i41 dL_law_300 ?_
            refine lv_aload_n hx hb dL_law_301 rfl (lv_at hl 3 rfl) ?_
            obtain ⟨o42, e43, h⟩ := q_bind h
            refine q_ciW (vx_runSW (As := [.ref aQ, .int (xs (Int32.toNatClampNeg (x4 + 1))), .int (xs (Int32.toNatClampNeg (x4 + 2))), .int (xs (Int32.toNatClampNeg (x4 + 3))), .int (xs (Int32.toNatClampNeg (x4 + 4))), .ref aO]) (rest := []) ⟨hx, hb, hml, hown, hts⟩ (wL_ask l hfl E aQ aN aT aF aP aR aO vQ vN vO (xs (Int32.toNatClampNeg (x4 + 1))) (xs (Int32.toNatClampNeg (x4 + 2))) (xs (Int32.toNatClampNeg (x4 + 3))) (xs (Int32.toNatClampNeg (x4 + 4))) o42 e43 _) (vx_cwSW 6 hts gL_law_L_ask rfl rfl rfl (by decide +kernel) ⟨Nat.le_of_ble_eq_true rfl, Nat.le_of_ble_eq_true rfl⟩) (qw_preS hK hC hT hZ hN hS hA hP hD pm_8_017) rfl rfl hl.1 rfl (lv_room (Nat.le_of_ble_eq_true rfl)) dL_law_302 ⟨show cl + 1 ≤ 1088 by omega, show sl + 6 ≤ 16873 by omega⟩) hP hD hS hA pm_8_017 pm_8_017.symm (fun H locs hP hD hS => ?_)
            refine lv_istore (lv' := [(5, .int o42.1), (0, .ref b), (1, .ref aQ), (2, .ref (aM 0)), (3, .ref aO), (4, .int x4)]) hx hb dL_law_305 hl (by decide) rfl (fun ls hl => ?_)
            refine lv_aload_n hx hb dL_law_307 rfl (lv_at hl 3 rfl) ?_
            refine lv_aload_n hx hb dL_law_308 rfl (lv_at hl 1 rfl) ?_
            refine lv_iload hx hb dL_law_309 (lv_at hl 5 rfl) ?_
            refine lv_iconst (v := 1) hx hb dL_law_311 (by decide) ?_
            refine lv_iadd hx hb dL_law_312 ?_
            obtain ⟨i44, h⟩ := q_ck h
            refine va_sld hx hb hX hbl hbA hS i44 dL_law_313 ?_
            refine lv_aload_n hx hb dL_law_314 rfl (lv_at hl 1 rfl) ?_
            refine lv_iload hx hb dL_law_315 (lv_at hl 5 rfl) ?_
            refine lv_iconst (v := 2) hx hb dL_law_317 (by decide) ?_
            refine lv_iadd hx hb dL_law_318 ?_
            obtain ⟨i45, h⟩ := q_ck h
            refine va_sld hx hb hX hbl hbA hS i45 dL_law_319 ?_
            refine lv_aload_n hx hb dL_law_320 rfl (lv_at hl 1 rfl) ?_
            refine lv_iload hx hb dL_law_321 (lv_at hl 5 rfl) ?_
            refine lv_iconst (v := 3) hx hb dL_law_323 (by decide) ?_
            refine lv_iadd hx hb dL_law_324 ?_
            obtain ⟨i46, h⟩ := q_ck h
            refine va_sld hx hb hX hbl hbA hS i46 dL_law_325 ?_
            refine lv_aload_n hx hb dL_law_326 rfl (lv_at hl 1 rfl) ?_
            refine lv_iload hx hb dL_law_327 (lv_at hl 5 rfl) ?_
            refine lv_iconst (v := 4) hx hb dL_law_329 (by decide) ?_
            refine lv_iadd hx hb dL_law_330 ?_
            obtain ⟨i47, h⟩ := q_ck h
            refine va_sld hx hb hX hbl hbA hS i47 dL_law_331 ?_
            obtain ⟨o48, e49, h⟩ := q_bind h
            refine q_ci (va_runV (As := [.int (xs (Int32.toNatClampNeg (x4 + 1))), .int (xs (Int32.toNatClampNeg (x4 + 2))), .int (xs (Int32.toNatClampNeg (x4 + 3))), .int (xs (Int32.toNatClampNeg (x4 + 4)))]) (rest := []) ⟨hx, hb, hml, hown, hts⟩ (wX5_ask l E aM vM (xs (Int32.toNatClampNeg (x4 + 1))) (xs (Int32.toNatClampNeg (x4 + 2))) (xs (Int32.toNatClampNeg (x4 + 3))) (xs (Int32.toNatClampNeg (x4 + 4))) o48 e49 _) (cwV 4 hts gL_law_X5_ask rfl rfl rfl (by decide +kernel) ⟨Nat.le_of_ble_eq_true rfl, Nat.le_of_ble_eq_true rfl⟩) (q_preV hK hP hD pm_8_6 5 38 rfl rfl) rfl rfl hl.1 rfl (lv_room (Nat.le_of_ble_eq_true rfl)) dL_law_332 ⟨show (cl + 1) + 0 ≤ 1088 by omega, show (sl + 6) + 0 ≤ 16873 by omega⟩) hP hD hS hA pm_8_6 pm_8_6.symm (fun H locs hP hD hS => ?_)
            refine lv_istore (lv' := [(6, .int o48.1), (5, .int o42.1), (0, .ref b), (1, .ref aQ), (2, .ref (aM 0)), (3, .ref aO), (4, .int x4)]) hx hb dL_law_335 hl (by decide) rfl (fun ls hl => ?_)
            refine lv_aload_n hx hb dL_law_337 rfl (lv_at hl 4 rfl) ?_
            obtain ⟨o50, e51, h⟩ := q_bind h
            refine q_ci (va_runV (As := []) (rest := []) ⟨hx, hb, hml, hown, hts⟩ (wX5_thrown l E aM o48.2 o50 e51 _) (cwV 0 hts gL_law_X5_thrown rfl rfl rfl (by decide +kernel) ⟨Nat.le_of_ble_eq_true rfl, Nat.le_of_ble_eq_true rfl⟩) (q_preV hK hP hD pm_8_6 5 38 rfl rfl) rfl rfl hl.1 rfl (lv_room (Nat.le_of_ble_eq_true rfl)) dL_law_338 ⟨show (cl + 1) + 0 ≤ 1088 by omega, show (sl + 6) + 0 ≤ 16873 by omega⟩) hP hD hS hA pm_8_6 pm_8_6.symm (fun H locs hP hD hS => ?_)
            refine lv_iload hx hb dL_law_341 (lv_at hl 1 rfl) ?_
            refine lv_icmp_eq (tgt := 348) hx hb dL_law_343 (by decide) (fun c52 => ?_) (fun c52 => ?_)
            · have h := q_pos c52 h
              refine lv_iload hx hb dL_law_348 (lv_at hl 1 rfl) ?_
              refine lv_if_ne (tgt := 365) hx hb dL_law_350 (by decide) (fun c53 => ?_) (fun c53 => ?_)
              · have h := q_neg c53 h
                refine lv_goto (tgt := 1123) hx hb dL_law_365 (by decide) ?_
                refine lv_iinc (v := (x4 + 6)) (lv' := [(4, .int (x4 + 6)), (6, .int o48.1), (5, .int o42.1), (0, .ref b), (1, .ref aQ), (2, .ref (aM 0)), (3, .ref aO)]) hx hb dL_law_1123 hl (k := 6) rfl rfl (by decide) rfl (fun ls hl => ?_)
                refine lv_goto (tgt := 23) hx hb dL_law_1126 (by decide) ?_
                exact ih (cl + 1) (sl + 6) (x4 + 6) o42.2.1 o42.2.2.1 vT vF vP vR o48.2 o42.2.2.2 _ _ _ (by omega) (by omega) hP hD hS (lv_sub hl [3, 4, 5, 6, 0] rfl) h
              · have h := q_pos c53 h
                refine lv_aload_n hx hb dL_law_353 rfl (lv_at hl 5 rfl) ?_
                refine lv_iconst (v := 0) hx hb dL_law_354 (by decide) ?_
                obtain ⟨i54, h⟩ := q_ck h
                refine va_lald (f := o42.2.2.2) hx hb hK.1 hP 55 1 rfl rfl i54 dL_law_355 ?_
                refine lv_iload hx hb dL_law_356 (lv_at hl 0 rfl) ?_
                refine lv_i2l hx hb dL_law_358 rfl ?_
                refine W.lcmp hx hb dL_law_359 ?_
                refine lv_if_eq (tgt := 365) hx hb dL_law_360 (by decide) (fun c55 => ?_) (fun c55 => ?_)
                · have h := q_pos c55 h
                  refine lv_goto (tgt := 1123) hx hb dL_law_365 (by decide) ?_
                  refine lv_iinc (v := (x4 + 6)) (lv' := [(4, .int (x4 + 6)), (6, .int o48.1), (5, .int o42.1), (0, .ref b), (1, .ref aQ), (2, .ref (aM 0)), (3, .ref aO)]) hx hb dL_law_1123 hl (k := 6) rfl rfl (by decide) rfl (fun ls hl => ?_)
                  refine lv_goto (tgt := 23) hx hb dL_law_1126 (by decide) ?_
                  exact ih (cl + 1) (sl + 6) (x4 + 6) o42.2.1 o42.2.2.1 vT vF vP vR o48.2 o42.2.2.2 _ _ _ (by omega) (by omega) hP hD hS (lv_sub hl [3, 4, 5, 6, 0] rfl) h
                · have h := q_neg c55 h
                  refine lv_iconst (v := 0) hx hb dL_law_363 (by decide) ?_
                  exact absurd (Option.some.inj h) (by decide)
            · have h := q_neg c52 h
              refine lv_iconst (v := 0) hx hb dL_law_346 (by decide) ?_
              exact absurd (Option.some.inj h) (by decide)
          have h := q_neg e37 h
          by_cases e56 : ((xs (Int32.toNatClampNeg x4)) &&& 31) = 3
          · have h := q_pos e56 h
            refine lv_tableIn (tgt := 368) (off := 328) hx hb dL_law_40 (fun z => c3 (Or.inl z)) (fun z => c3 (Or.inr z)) (by rw [e56]; rfl) (by decide) ?_
            refine lv_aload_n hx hb dL_law_368 rfl (lv_at hl 1 rfl) ?_
            refine lv_aload_n hx hb dL_law_369 rfl (lv_at hl 0 rfl) ?_
            refine lv_iload hx hb dL_law_370 (lv_at hl 4 rfl) ?_
            refine lv_iconst (v := 1) hx hb dL_law_372 (by decide) ?_
            refine lv_iadd hx hb dL_law_373 ?_
            obtain ⟨i57, h⟩ := q_ck h
            refine va_sld hx hb hX hbl hbA hS i57 dL_law_374 ?_
            refine lv_aload_n hx hb dL_law_375 rfl (lv_at hl 0 rfl) ?_
            refine lv_iload hx hb dL_law_376 (lv_at hl 4 rfl) ?_
            refine lv_iconst (v := 2) hx hb dL_law_378 (by decide) ?_
            refine lv_iadd hx hb dL_law_379 ?_
            obtain ⟨i58, h⟩ := q_ck h
            refine va_sld hx hb hX hbl hbA hS i58 dL_law_380 ?_
            refine lv_aload_n hx hb dL_law_381 rfl (lv_at hl 0 rfl) ?_
            refine lv_iload hx hb dL_law_382 (lv_at hl 4 rfl) ?_
            refine lv_iconst (v := 3) hx hb dL_law_384 (by decide) ?_
            refine lv_iadd hx hb dL_law_385 ?_
            obtain ⟨i59, h⟩ := q_ck h
            refine va_sld hx hb hX hbl hbA hS i59 dL_law_386 ?_
            refine lv_aload_n hx hb dL_law_387 rfl (lv_at hl 3 rfl) ?_
            obtain ⟨o60, e61, h⟩ := q_bind h
            refine q_ciW (vx_runSW (As := [.ref aQ, .int (xs (Int32.toNatClampNeg (x4 + 1))), .int (xs (Int32.toNatClampNeg (x4 + 2))), .int (xs (Int32.toNatClampNeg (x4 + 3))), .ref aO]) (rest := []) ⟨hx, hb, hml, hown, hts⟩ (wL_step l hfl E aQ aN aT aF aP aR aO vQ vN vO (xs (Int32.toNatClampNeg (x4 + 1))) (xs (Int32.toNatClampNeg (x4 + 2))) (xs (Int32.toNatClampNeg (x4 + 3))) o60 e61 _) (vx_cwSW 5 hts gL_law_L_step rfl rfl rfl (by decide +kernel) ⟨Nat.le_of_ble_eq_true rfl, Nat.le_of_ble_eq_true rfl⟩) (qw_preS hK hC hT hZ hN hS hA hP hD pm_8_017) rfl rfl hl.1 rfl (lv_room (Nat.le_of_ble_eq_true rfl)) dL_law_388 ⟨show cl + 1 ≤ 1088 by omega, show sl + 6 ≤ 16873 by omega⟩) hP hD hS hA pm_8_017 pm_8_017.symm (fun H locs hP hD hS => ?_)
            refine lv_istore (lv' := [(5, .int o60.1), (0, .ref b), (1, .ref aQ), (2, .ref (aM 0)), (3, .ref aO), (4, .int x4)]) hx hb dL_law_391 hl (by decide) rfl (fun ls hl => ?_)
            refine lv_aload_n hx hb dL_law_393 rfl (lv_at hl 3 rfl) ?_
            refine lv_aload_n hx hb dL_law_394 rfl (lv_at hl 1 rfl) ?_
            refine lv_iload hx hb dL_law_395 (lv_at hl 5 rfl) ?_
            refine lv_iconst (v := 1) hx hb dL_law_397 (by decide) ?_
            refine lv_iadd hx hb dL_law_398 ?_
            obtain ⟨i62, h⟩ := q_ck h
            refine va_sld hx hb hX hbl hbA hS i62 dL_law_399 ?_
            refine lv_aload_n hx hb dL_law_400 rfl (lv_at hl 1 rfl) ?_
            refine lv_iload hx hb dL_law_401 (lv_at hl 5 rfl) ?_
            refine lv_iconst (v := 2) hx hb dL_law_403 (by decide) ?_
            refine lv_iadd hx hb dL_law_404 ?_
            obtain ⟨i63, h⟩ := q_ck h
            refine va_sld hx hb hX hbl hbA hS i63 dL_law_405 ?_
            refine lv_aload_n hx hb dL_law_406 rfl (lv_at hl 1 rfl) ?_
            refine lv_iload hx hb dL_law_407 (lv_at hl 5 rfl) ?_
            refine lv_iconst (v := 3) hx hb dL_law_409 (by decide) ?_
            refine lv_iadd hx hb dL_law_410 ?_
            obtain ⟨i64, h⟩ := q_ck h
            refine va_sld hx hb hX hbl hbA hS i64 dL_law_411 ?_
            obtain ⟨o65, e66, h⟩ := q_bind h
            refine q_ci (va_runV (As := [.int (xs (Int32.toNatClampNeg (x4 + 1))), .int (xs (Int32.toNatClampNeg (x4 + 2))), .int (xs (Int32.toNatClampNeg (x4 + 3)))]) (rest := []) ⟨hx, hb, hml, hown, hts⟩ (wX5_step l E aM vM (xs (Int32.toNatClampNeg (x4 + 1))) (xs (Int32.toNatClampNeg (x4 + 2))) (xs (Int32.toNatClampNeg (x4 + 3))) o65 e66 _) (cwV 3 hts gL_law_X5_step rfl rfl rfl (by decide +kernel) ⟨Nat.le_of_ble_eq_true rfl, Nat.le_of_ble_eq_true rfl⟩) (q_preV hK hP hD pm_8_6 5 38 rfl rfl) rfl rfl hl.1 rfl (lv_room (Nat.le_of_ble_eq_true rfl)) dL_law_412 ⟨show (cl + 1) + 0 ≤ 1088 by omega, show (sl + 6) + 0 ≤ 16873 by omega⟩) hP hD hS hA pm_8_6 pm_8_6.symm (fun H locs hP hD hS => ?_)
            refine lv_istore (lv' := [(6, .int o65.1), (5, .int o60.1), (0, .ref b), (1, .ref aQ), (2, .ref (aM 0)), (3, .ref aO), (4, .int x4)]) hx hb dL_law_415 hl (by decide) rfl (fun ls hl => ?_)
            refine lv_aload_n hx hb dL_law_417 rfl (lv_at hl 4 rfl) ?_
            obtain ⟨o67, e68, h⟩ := q_bind h
            refine q_ci (va_runV (As := []) (rest := []) ⟨hx, hb, hml, hown, hts⟩ (wX5_thrown l E aM o65.2 o67 e68 _) (cwV 0 hts gL_law_X5_thrown rfl rfl rfl (by decide +kernel) ⟨Nat.le_of_ble_eq_true rfl, Nat.le_of_ble_eq_true rfl⟩) (q_preV hK hP hD pm_8_6 5 38 rfl rfl) rfl rfl hl.1 rfl (lv_room (Nat.le_of_ble_eq_true rfl)) dL_law_418 ⟨show (cl + 1) + 0 ≤ 1088 by omega, show (sl + 6) + 0 ≤ 16873 by omega⟩) hP hD hS hA pm_8_6 pm_8_6.symm (fun H locs hP hD hS => ?_)
            refine lv_iload hx hb dL_law_421 (lv_at hl 1 rfl) ?_
            refine lv_icmp_eq (tgt := 428) hx hb dL_law_423 (by decide) (fun c69 => ?_) (fun c69 => ?_)
            · have h := q_pos c69 h
              refine lv_iload hx hb dL_law_428 (lv_at hl 1 rfl) ?_
              refine lv_if_ne (tgt := 445) hx hb dL_law_430 (by decide) (fun c70 => ?_) (fun c70 => ?_)
              · have h := q_neg c70 h
                refine lv_goto (tgt := 1123) hx hb dL_law_445 (by decide) ?_
                refine lv_iinc (v := (x4 + 6)) (lv' := [(4, .int (x4 + 6)), (6, .int o65.1), (5, .int o60.1), (0, .ref b), (1, .ref aQ), (2, .ref (aM 0)), (3, .ref aO)]) hx hb dL_law_1123 hl (k := 6) rfl rfl (by decide) rfl (fun ls hl => ?_)
                refine lv_goto (tgt := 23) hx hb dL_law_1126 (by decide) ?_
                exact ih (cl + 1) (sl + 6) (x4 + 6) o60.2.1 o60.2.2.1 vT vF vP vR o65.2 o60.2.2.2 _ _ _ (by omega) (by omega) hP hD hS (lv_sub hl [3, 4, 5, 6, 0] rfl) h
              · have h := q_pos c70 h
                refine lv_aload_n hx hb dL_law_433 rfl (lv_at hl 5 rfl) ?_
                refine lv_iconst (v := 0) hx hb dL_law_434 (by decide) ?_
                obtain ⟨i71, h⟩ := q_ck h
                refine va_lald (f := o60.2.2.2) hx hb hK.1 hP 55 1 rfl rfl i71 dL_law_435 ?_
                refine lv_iload hx hb dL_law_436 (lv_at hl 0 rfl) ?_
                refine lv_i2l hx hb dL_law_438 rfl ?_
                refine W.lcmp hx hb dL_law_439 ?_
                refine lv_if_eq (tgt := 445) hx hb dL_law_440 (by decide) (fun c72 => ?_) (fun c72 => ?_)
                · have h := q_pos c72 h
                  refine lv_goto (tgt := 1123) hx hb dL_law_445 (by decide) ?_
                  refine lv_iinc (v := (x4 + 6)) (lv' := [(4, .int (x4 + 6)), (6, .int o65.1), (5, .int o60.1), (0, .ref b), (1, .ref aQ), (2, .ref (aM 0)), (3, .ref aO)]) hx hb dL_law_1123 hl (k := 6) rfl rfl (by decide) rfl (fun ls hl => ?_)
                  refine lv_goto (tgt := 23) hx hb dL_law_1126 (by decide) ?_
                  exact ih (cl + 1) (sl + 6) (x4 + 6) o60.2.1 o60.2.2.1 vT vF vP vR o65.2 o60.2.2.2 _ _ _ (by omega) (by omega) hP hD hS (lv_sub hl [3, 4, 5, 6, 0] rfl) h
                · have h := q_neg c72 h
                  refine lv_iconst (v := 0) hx hb dL_law_443 (by decide) ?_
                  exact absurd (Option.some.inj h) (by decide)
            · have h := q_neg c69 h
              refine lv_iconst (v := 0) hx hb dL_law_426 (by decide) ?_
              exact absurd (Option.some.inj h) (by decide)
          have h := q_neg e56 h
          by_cases e73 : ((xs (Int32.toNatClampNeg x4)) &&& 31) = 4
          · have h := q_pos e73 h
            refine lv_tableIn (tgt := 448) (off := 408) hx hb dL_law_40 (fun z => c3 (Or.inl z)) (fun z => c3 (Or.inr z)) (by rw [e73]; rfl) (by decide) ?_
            refine lv_aload_n hx hb dL_law_448 rfl (lv_at hl 1 rfl) ?_
            refine lv_aload_n hx hb dL_law_449 rfl (lv_at hl 0 rfl) ?_
            refine lv_iload hx hb dL_law_450 (lv_at hl 4 rfl) ?_
            refine lv_iconst (v := 1) hx hb dL_law_452 (by decide) ?_
            refine lv_iadd hx hb dL_law_453 ?_
            obtain ⟨i74, h⟩ := q_ck h
            refine va_sld hx hb hX hbl hbA hS i74 dL_law_454 ?_
            refine lv_aload_n hx hb dL_law_455 rfl (lv_at hl 0 rfl) ?_
            refine lv_iload hx hb dL_law_456 (lv_at hl 4 rfl) ?_
            refine lv_iconst (v := 2) hx hb dL_law_458 (by decide) ?_
            refine lv_iadd hx hb dL_law_459 ?_
            obtain ⟨i75, h⟩ := q_ck h
            refine va_sld hx hb hX hbl hbA hS i75 dL_law_460 ?_
            refine lv_aload_n hx hb dL_law_461 rfl (lv_at hl 0 rfl) ?_
            refine lv_iload hx hb dL_law_462 (lv_at hl 4 rfl) ?_
            refine lv_iconst (v := 3) hx hb dL_law_464 (by decide) ?_
            refine lv_iadd hx hb dL_law_465 ?_
            obtain ⟨i76, h⟩ := q_ck h
            refine va_sld hx hb hX hbl hbA hS i76 dL_law_466 ?_
            refine lv_aload_n hx hb dL_law_467 rfl (lv_at hl 0 rfl) ?_
            refine lv_iload hx hb dL_law_468 (lv_at hl 4 rfl) ?_
            refine lv_iconst (v := 4) hx hb dL_law_470 (by decide) ?_
            refine lv_iadd hx hb dL_law_471 ?_
            obtain ⟨i77, h⟩ := q_ck h
            refine va_sld hx hb hX hbl hbA hS i77 dL_law_472 ?_
            obtain ⟨o78, e79, h⟩ := q_bind h
            refine q_ciW (vx_runSW (As := [.ref aQ, .int (xs (Int32.toNatClampNeg (x4 + 1))), .int (xs (Int32.toNatClampNeg (x4 + 2))), .int (xs (Int32.toNatClampNeg (x4 + 3))), .int (xs (Int32.toNatClampNeg (x4 + 4)))]) (rest := []) ⟨hx, hb, hml, hown, hts⟩ (wL_seen l hfl E aQ aN aT aF aP aR vQ vN vT (xs (Int32.toNatClampNeg (x4 + 1))) (xs (Int32.toNatClampNeg (x4 + 2))) (xs (Int32.toNatClampNeg (x4 + 3))) (xs (Int32.toNatClampNeg (x4 + 4))) o78 e79 _) (vx_cwSW 5 hts gL_law_L_seen rfl rfl rfl (by decide +kernel) ⟨Nat.le_of_ble_eq_true rfl, Nat.le_of_ble_eq_true rfl⟩) (qw_preS hK hC hT hZ hN hS hA hP hD pm_8_012) rfl rfl hl.1 rfl (lv_room (Nat.le_of_ble_eq_true rfl)) dL_law_473 ⟨show cl + 1 ≤ 1088 by omega, show sl + 6 ≤ 16873 by omega⟩) hP hD hS hA pm_8_012 pm_8_012.symm (fun H locs hP hD hS => ?_)
            refine lv_istore (lv' := [(5, .int o78.1), (0, .ref b), (1, .ref aQ), (2, .ref (aM 0)), (3, .ref aO), (4, .int x4)]) hx hb dL_law_476 hl (by decide) rfl (fun ls hl => ?_)
            refine lv_aload_n hx hb dL_law_478 rfl (lv_at hl 3 rfl) ?_
            refine lv_aload_n hx hb dL_law_479 rfl (lv_at hl 1 rfl) ?_
            refine lv_iload hx hb dL_law_480 (lv_at hl 5 rfl) ?_
            refine lv_iconst (v := 1) hx hb dL_law_482 (by decide) ?_
            refine lv_iadd hx hb dL_law_483 ?_
            obtain ⟨i80, h⟩ := q_ck h
            refine va_sld hx hb hX hbl hbA hS i80 dL_law_484 ?_
            refine lv_aload_n hx hb dL_law_485 rfl (lv_at hl 1 rfl) ?_
            refine lv_iload hx hb dL_law_486 (lv_at hl 5 rfl) ?_
            refine lv_iconst (v := 2) hx hb dL_law_488 (by decide) ?_
            refine lv_iadd hx hb dL_law_489 ?_
            obtain ⟨i81, h⟩ := q_ck h
            refine va_sld hx hb hX hbl hbA hS i81 dL_law_490 ?_
            refine lv_aload_n hx hb dL_law_491 rfl (lv_at hl 1 rfl) ?_
            refine lv_iload hx hb dL_law_492 (lv_at hl 5 rfl) ?_
            refine lv_iconst (v := 3) hx hb dL_law_494 (by decide) ?_
            refine lv_iadd hx hb dL_law_495 ?_
            obtain ⟨i82, h⟩ := q_ck h
            refine va_sld hx hb hX hbl hbA hS i82 dL_law_496 ?_
            refine lv_aload_n hx hb dL_law_497 rfl (lv_at hl 1 rfl) ?_
            refine lv_iload hx hb dL_law_498 (lv_at hl 5 rfl) ?_
            refine lv_iconst (v := 4) hx hb dL_law_500 (by decide) ?_
            refine lv_iadd hx hb dL_law_501 ?_
            obtain ⟨i83, h⟩ := q_ck h
            refine va_sld hx hb hX hbl hbA hS i83 dL_law_502 ?_
            obtain ⟨o84, e85, h⟩ := q_bind h
            refine q_cv (va_runV (As := [.int (xs (Int32.toNatClampNeg (x4 + 1))), .int (xs (Int32.toNatClampNeg (x4 + 2))), .int (xs (Int32.toNatClampNeg (x4 + 3))), .int (xs (Int32.toNatClampNeg (x4 + 4)))]) (rest := []) ⟨hx, hb, hml, hown, hts⟩ (wX5_seen l E aM vM (xs (Int32.toNatClampNeg (x4 + 1))) (xs (Int32.toNatClampNeg (x4 + 2))) (xs (Int32.toNatClampNeg (x4 + 3))) (xs (Int32.toNatClampNeg (x4 + 4))) o84 e85 _) (cwV 4 hts gL_law_X5_seen rfl rfl rfl (by decide +kernel) ⟨Nat.le_of_ble_eq_true rfl, Nat.le_of_ble_eq_true rfl⟩) (q_preV hK hP hD pm_8_6 5 38 rfl rfl) rfl rfl hl.1 rfl (lv_room (Nat.le_of_ble_eq_true rfl)) dL_law_503 ⟨show (cl + 1) + 0 ≤ 1088 by omega, show (sl + 6) + 0 ≤ 16873 by omega⟩) hP hD hS hA pm_8_6 pm_8_6.symm (fun H locs hP hD hS => ?_)
            refine lv_aload_n hx hb dL_law_506 rfl (lv_at hl 3 rfl) ?_
            obtain ⟨o86, e87, h⟩ := q_bind h
            refine q_ci (va_runV (As := []) (rest := []) ⟨hx, hb, hml, hown, hts⟩ (wX5_thrown l E aM o84 o86 e87 _) (cwV 0 hts gL_law_X5_thrown rfl rfl rfl (by decide +kernel) ⟨Nat.le_of_ble_eq_true rfl, Nat.le_of_ble_eq_true rfl⟩) (q_preV hK hP hD pm_8_6 5 38 rfl rfl) rfl rfl hl.1 rfl (lv_room (Nat.le_of_ble_eq_true rfl)) dL_law_507 ⟨show (cl + 1) + 0 ≤ 1088 by omega, show (sl + 6) + 0 ≤ 16873 by omega⟩) hP hD hS hA pm_8_6 pm_8_6.symm (fun H locs hP hD hS => ?_)
            refine lv_iload hx hb dL_law_510 (lv_at hl 0 rfl) ?_
            refine lv_icmp_eq (tgt := 517) hx hb dL_law_512 (by decide) (fun c88 => ?_) (fun c88 => ?_)
            · have h := q_pos c88 h
              refine lv_goto (tgt := 1123) hx hb dL_law_517 (by decide) ?_
              refine lv_iinc (v := (x4 + 6)) (lv' := [(4, .int (x4 + 6)), (5, .int o78.1), (0, .ref b), (1, .ref aQ), (2, .ref (aM 0)), (3, .ref aO)]) hx hb dL_law_1123 hl (k := 5) rfl rfl (by decide) rfl (fun ls hl => ?_)
              refine lv_goto (tgt := 23) hx hb dL_law_1126 (by decide) ?_
              exact ih (cl + 1) (sl + 6) (x4 + 6) vQ vN o78.2 vF vP vR o84 vO _ _ _ (by omega) (by omega) hP hD hS (lv_sub hl [2, 3, 4, 5, 0] rfl) h
            · have h := q_neg c88 h
              refine lv_iconst (v := 0) hx hb dL_law_515 (by decide) ?_
              exact absurd (Option.some.inj h) (by decide)
          have h := q_neg e73 h
          by_cases e89 : ((xs (Int32.toNatClampNeg x4)) &&& 31) = 5
          · have h := q_pos e89 h
            refine lv_tableIn (tgt := 520) (off := 480) hx hb dL_law_40 (fun z => c3 (Or.inl z)) (fun z => c3 (Or.inr z)) (by rw [e89]; rfl) (by decide) ?_
            refine lv_aload_n hx hb dL_law_520 rfl (lv_at hl 1 rfl) ?_
            refine lv_aload_n hx hb dL_law_521 rfl (lv_at hl 0 rfl) ?_
            refine lv_iload hx hb dL_law_522 (lv_at hl 4 rfl) ?_
            refine lv_iconst (v := 1) hx hb dL_law_524 (by decide) ?_
            refine lv_iadd hx hb dL_law_525 ?_
            obtain ⟨i90, h⟩ := q_ck h
            refine va_sld hx hb hX hbl hbA hS i90 dL_law_526 ?_
            refine lv_aload_n hx hb dL_law_527 rfl (lv_at hl 0 rfl) ?_
            refine lv_iload hx hb dL_law_528 (lv_at hl 4 rfl) ?_
            refine lv_iconst (v := 2) hx hb dL_law_530 (by decide) ?_
            refine lv_iadd hx hb dL_law_531 ?_
            obtain ⟨i91, h⟩ := q_ck h
            refine va_sld hx hb hX hbl hbA hS i91 dL_law_532 ?_
            refine lv_aload_n hx hb dL_law_533 rfl (lv_at hl 3 rfl) ?_
            obtain ⟨o92, e93, h⟩ := q_bind h
            refine q_ciW (vx_runSW (As := [.ref aQ, .int (xs (Int32.toNatClampNeg (x4 + 1))), .int (xs (Int32.toNatClampNeg (x4 + 2))), .ref aO]) (rest := []) ⟨hx, hb, hml, hown, hts⟩ (wL_unsee l hfl E aQ aN aT aF aP aR aO vQ vN vT vO (xs (Int32.toNatClampNeg (x4 + 1))) (xs (Int32.toNatClampNeg (x4 + 2))) o92 e93 _) (vx_cwSW 4 hts gL_law_L_unsee rfl rfl rfl (by decide +kernel) ⟨Nat.le_of_ble_eq_true rfl, Nat.le_of_ble_eq_true rfl⟩) (qw_preS hK hC hT hZ hN hS hA hP hD pm_8_0127) rfl rfl hl.1 rfl (lv_room (Nat.le_of_ble_eq_true rfl)) dL_law_534 ⟨show cl + 1 ≤ 1088 by omega, show sl + 6 ≤ 16873 by omega⟩) hP hD hS hA pm_8_0127 pm_8_0127.symm (fun H locs hP hD hS => ?_)
            refine lv_istore (lv' := [(5, .int o92.1), (0, .ref b), (1, .ref aQ), (2, .ref (aM 0)), (3, .ref aO), (4, .int x4)]) hx hb dL_law_537 hl (by decide) rfl (fun ls hl => ?_)
            refine lv_aload_n hx hb dL_law_539 rfl (lv_at hl 3 rfl) ?_
            refine lv_aload_n hx hb dL_law_540 rfl (lv_at hl 1 rfl) ?_
            refine lv_iload hx hb dL_law_541 (lv_at hl 5 rfl) ?_
            refine lv_iconst (v := 1) hx hb dL_law_543 (by decide) ?_
            refine lv_iadd hx hb dL_law_544 ?_
            obtain ⟨i94, h⟩ := q_ck h
            refine va_sld hx hb hX hbl hbA hS i94 dL_law_545 ?_
            refine lv_aload_n hx hb dL_law_546 rfl (lv_at hl 1 rfl) ?_
            refine lv_iload hx hb dL_law_547 (lv_at hl 5 rfl) ?_
            refine lv_iconst (v := 2) hx hb dL_law_549 (by decide) ?_
            refine lv_iadd hx hb dL_law_550 ?_
            obtain ⟨i95, h⟩ := q_ck h
            refine va_sld hx hb hX hbl hbA hS i95 dL_law_551 ?_
            obtain ⟨o96, e97, h⟩ := q_bind h
            refine q_ci (va_runV (As := [.int (xs (Int32.toNatClampNeg (x4 + 1))), .int (xs (Int32.toNatClampNeg (x4 + 2)))]) (rest := []) ⟨hx, hb, hml, hown, hts⟩ (wX5_unsee l E aM vM (xs (Int32.toNatClampNeg (x4 + 1))) (xs (Int32.toNatClampNeg (x4 + 2))) o96 e97 _) (cwV 2 hts gL_law_X5_unsee rfl rfl rfl (by decide +kernel) ⟨Nat.le_of_ble_eq_true rfl, Nat.le_of_ble_eq_true rfl⟩) (q_preV hK hP hD pm_8_6 5 38 rfl rfl) rfl rfl hl.1 rfl (lv_room (Nat.le_of_ble_eq_true rfl)) dL_law_552 ⟨show (cl + 1) + 0 ≤ 1088 by omega, show (sl + 6) + 0 ≤ 16873 by omega⟩) hP hD hS hA pm_8_6 pm_8_6.symm (fun H locs hP hD hS => ?_)
            refine lv_istore (lv' := [(6, .int o96.1), (5, .int o92.1), (0, .ref b), (1, .ref aQ), (2, .ref (aM 0)), (3, .ref aO), (4, .int x4)]) hx hb dL_law_555 hl (by decide) rfl (fun ls hl => ?_)
            refine lv_aload_n hx hb dL_law_557 rfl (lv_at hl 4 rfl) ?_
            obtain ⟨o98, e99, h⟩ := q_bind h
            refine q_ci (va_runV (As := []) (rest := []) ⟨hx, hb, hml, hown, hts⟩ (wX5_thrown l E aM o96.2 o98 e99 _) (cwV 0 hts gL_law_X5_thrown rfl rfl rfl (by decide +kernel) ⟨Nat.le_of_ble_eq_true rfl, Nat.le_of_ble_eq_true rfl⟩) (q_preV hK hP hD pm_8_6 5 38 rfl rfl) rfl rfl hl.1 rfl (lv_room (Nat.le_of_ble_eq_true rfl)) dL_law_558 ⟨show (cl + 1) + 0 ≤ 1088 by omega, show (sl + 6) + 0 ≤ 16873 by omega⟩) hP hD hS hA pm_8_6 pm_8_6.symm (fun H locs hP hD hS => ?_)
            refine lv_iload hx hb dL_law_561 (lv_at hl 1 rfl) ?_
            refine lv_icmp_eq (tgt := 568) hx hb dL_law_563 (by decide) (fun c100 => ?_) (fun c100 => ?_)
            · have h := q_pos c100 h
              refine lv_iload hx hb dL_law_568 (lv_at hl 1 rfl) ?_
              refine lv_if_ne (tgt := 592) hx hb dL_law_570 (by decide) (fun c101 => ?_) (fun c101 => ?_)
              · have h := q_neg c101 h
                refine lv_goto (tgt := 1123) hx hb dL_law_592 (by decide) ?_
                refine lv_iinc (v := (x4 + 6)) (lv' := [(4, .int (x4 + 6)), (6, .int o96.1), (5, .int o92.1), (0, .ref b), (1, .ref aQ), (2, .ref (aM 0)), (3, .ref aO)]) hx hb dL_law_1123 hl (k := 6) rfl rfl (by decide) rfl (fun ls hl => ?_)
                refine lv_goto (tgt := 23) hx hb dL_law_1126 (by decide) ?_
                exact ih (cl + 1) (sl + 6) (x4 + 6) vQ vN o92.2.1 vF vP vR o96.2 o92.2.2 _ _ _ (by omega) (by omega) hP hD hS (lv_sub hl [3, 4, 5, 6, 0] rfl) h
              · have h := q_pos c101 h
                refine lv_aload_n hx hb dL_law_573 rfl (lv_at hl 5 rfl) ?_
                refine lv_iconst (v := 0) hx hb dL_law_574 (by decide) ?_
                obtain ⟨i102, h⟩ := q_ck h
                refine va_lald (f := o92.2.2) hx hb hK.1 hP 55 1 rfl rfl i102 dL_law_575 ?_
                refine lv_iload hx hb dL_law_576 (lv_at hl 0 rfl) ?_
                obtain ⟨z104, e105, h⟩ := q_bind h
                have KJ103 : ∀ (H : Heap) (locs : List Loc), va_P E.1 vwCl (WQ aQ aN aT aF aP aR vQ ++ (WN E aN vN ++ (WT E aT o92.2.1 ++ (WF E aF vF ++ (WP E aP vP ++ (WP E aR vR ++ (WM E aM o96.2 ++ WO E aO o92.2.2))))))) H → va_D A (WQ aQ aN aT aF aP aR vQ ++ (WN E aN vN ++ (WT E aT o92.2.1 ++ (WF E aF vF ++ (WP E aP vP ++ (WP E aR vR ++ (WM E aM o96.2 ++ WO E aO o92.2.2))))))) → va_S A s.heap H locs → W p l e room_1 s m #[Value.ref b] below meth c H locs (cl + 1) (sl + 6) (lw_Z below #[Value.ref b] s) (F0 m 586 ls [.long z104, .long (o92.2.2 (Int32.toNatClampNeg 0))]) := by
                  intro H locs hP hD hS
                  refine W.lcmp hx hb dL_law_586 ?_
                  refine lv_if_eq (tgt := 592) hx hb dL_law_587 (by decide) (fun c106 => ?_) (fun c106 => ?_)
                  · have h := q_pos c106 h
                    refine lv_goto (tgt := 1123) hx hb dL_law_592 (by decide) ?_
                    refine lv_iinc (v := (x4 + 6)) (lv' := [(4, .int (x4 + 6)), (6, .int o96.1), (5, .int o92.1), (0, .ref b), (1, .ref aQ), (2, .ref (aM 0)), (3, .ref aO)]) hx hb dL_law_1123 hl (k := 6) rfl rfl (by decide) rfl (fun ls hl => ?_)
                    refine lv_goto (tgt := 23) hx hb dL_law_1126 (by decide) ?_
                    exact ih (cl + 1) (sl + 6) (x4 + 6) vQ vN o92.2.1 vF vP vR o96.2 o92.2.2 _ _ _ (by omega) (by omega) hP hD hS (lv_sub hl [3, 4, 5, 6, 0] rfl) h
                  · have h := q_neg c106 h
                    refine lv_iconst (v := 0) hx hb dL_law_590 (by decide) ?_
                    exact absurd (Option.some.inj h) (by decide)
                have h := e105
                refine lv_if_eq (tgt := 585) hx hb dL_law_578 (by decide) (fun c107 => ?_) (fun c107 => ?_)
                · have h := q_pos c107 h
                  refine lv_lconst (v := 0) hx hb dL_law_585 (by decide) ?_
                  obtain rfl := q_inj h
                  exact KJ103 _ _ hP hD hS
                · have h := q_neg c107 h
                  refine lv_lconst (v := 1) hx hb dL_law_581 (by decide) ?_
                  refine lv_goto (tgt := 586) hx hb dL_law_582 (by decide) ?_
                  obtain rfl := q_inj h
                  exact KJ103 _ _ hP hD hS
            · have h := q_neg c100 h
              refine lv_iconst (v := 0) hx hb dL_law_566 (by decide) ?_
              exact absurd (Option.some.inj h) (by decide)
          have h := q_neg e89 h
          by_cases e108 : ((xs (Int32.toNatClampNeg x4)) &&& 31) = 6
          · have h := q_pos e108 h
            refine lv_tableIn (tgt := 595) (off := 555) hx hb dL_law_40 (fun z => c3 (Or.inl z)) (fun z => c3 (Or.inr z)) (by rw [e108]; rfl) (by decide) ?_
            refine lv_aload_n hx hb dL_law_595 rfl (lv_at hl 1 rfl) ?_
            refine lv_aload_n hx hb dL_law_596 rfl (lv_at hl 0 rfl) ?_
            refine lv_iload hx hb dL_law_597 (lv_at hl 4 rfl) ?_
            refine lv_iconst (v := 1) hx hb dL_law_599 (by decide) ?_
            refine lv_iadd hx hb dL_law_600 ?_
            obtain ⟨i109, h⟩ := q_ck h
            refine va_sld hx hb hX hbl hbA hS i109 dL_law_601 ?_
            refine lv_aload_n hx hb dL_law_602 rfl (lv_at hl 0 rfl) ?_
            refine lv_iload hx hb dL_law_603 (lv_at hl 4 rfl) ?_
            refine lv_iconst (v := 2) hx hb dL_law_605 (by decide) ?_
            refine lv_iadd hx hb dL_law_606 ?_
            obtain ⟨i110, h⟩ := q_ck h
            refine va_sld hx hb hX hbl hbA hS i110 dL_law_607 ?_
            refine lv_aload_n hx hb dL_law_608 rfl (lv_at hl 0 rfl) ?_
            refine lv_iload hx hb dL_law_609 (lv_at hl 4 rfl) ?_
            refine lv_iconst (v := 3) hx hb dL_law_611 (by decide) ?_
            refine lv_iadd hx hb dL_law_612 ?_
            obtain ⟨i111, h⟩ := q_ck h
            refine va_sld hx hb hX hbl hbA hS i111 dL_law_613 ?_
            refine lv_aload_n hx hb dL_law_614 rfl (lv_at hl 3 rfl) ?_
            obtain ⟨o112, e113, h⟩ := q_bind h
            refine q_ciW (vx_runSW (As := [.ref aQ, .int (xs (Int32.toNatClampNeg (x4 + 1))), .int (xs (Int32.toNatClampNeg (x4 + 2))), .int (xs (Int32.toNatClampNeg (x4 + 3))), .ref aO]) (rest := []) ⟨hx, hb, hml, hown, hts⟩ (wL_played l hfl E aQ aN aT aF aP aR aO vQ vN vP vO (xs (Int32.toNatClampNeg (x4 + 1))) (xs (Int32.toNatClampNeg (x4 + 2))) (xs (Int32.toNatClampNeg (x4 + 3))) o112 e113 _) (vx_cwSW 5 hts gL_law_L_played rfl rfl rfl (by decide +kernel) ⟨Nat.le_of_ble_eq_true rfl, Nat.le_of_ble_eq_true rfl⟩) (qw_preS hK hC hT hZ hN hS hA hP hD pm_8_0147) rfl rfl hl.1 rfl (lv_room (Nat.le_of_ble_eq_true rfl)) dL_law_615 ⟨show cl + 1 ≤ 1088 by omega, show sl + 6 ≤ 16873 by omega⟩) hP hD hS hA pm_8_0147 pm_8_0147.symm (fun H locs hP hD hS => ?_)
            refine lv_istore (lv' := [(5, .int o112.1), (0, .ref b), (1, .ref aQ), (2, .ref (aM 0)), (3, .ref aO), (4, .int x4)]) hx hb dL_law_618 hl (by decide) rfl (fun ls hl => ?_)
            refine lv_aload_n hx hb dL_law_620 rfl (lv_at hl 3 rfl) ?_
            refine lv_aload_n hx hb dL_law_621 rfl (lv_at hl 1 rfl) ?_
            refine lv_iload hx hb dL_law_622 (lv_at hl 5 rfl) ?_
            refine lv_iconst (v := 1) hx hb dL_law_624 (by decide) ?_
            refine lv_iadd hx hb dL_law_625 ?_
            obtain ⟨i114, h⟩ := q_ck h
            refine va_sld hx hb hX hbl hbA hS i114 dL_law_626 ?_
            refine lv_aload_n hx hb dL_law_627 rfl (lv_at hl 1 rfl) ?_
            refine lv_iload hx hb dL_law_628 (lv_at hl 5 rfl) ?_
            refine lv_iconst (v := 2) hx hb dL_law_630 (by decide) ?_
            refine lv_iadd hx hb dL_law_631 ?_
            obtain ⟨i115, h⟩ := q_ck h
            refine va_sld hx hb hX hbl hbA hS i115 dL_law_632 ?_
            refine lv_aload_n hx hb dL_law_633 rfl (lv_at hl 1 rfl) ?_
            refine lv_iload hx hb dL_law_634 (lv_at hl 5 rfl) ?_
            refine lv_iconst (v := 3) hx hb dL_law_636 (by decide) ?_
            refine lv_iadd hx hb dL_law_637 ?_
            obtain ⟨i116, h⟩ := q_ck h
            refine va_sld hx hb hX hbl hbA hS i116 dL_law_638 ?_
            obtain ⟨o117, e118, h⟩ := q_bind h
            refine q_ci (va_runV (As := [.int (xs (Int32.toNatClampNeg (x4 + 1))), .int (xs (Int32.toNatClampNeg (x4 + 2))), .int (xs (Int32.toNatClampNeg (x4 + 3)))]) (rest := []) ⟨hx, hb, hml, hown, hts⟩ (wX5_played l E aM vM (xs (Int32.toNatClampNeg (x4 + 1))) (xs (Int32.toNatClampNeg (x4 + 2))) (xs (Int32.toNatClampNeg (x4 + 3))) o117 e118 _) (cwV 3 hts gL_law_X5_played rfl rfl rfl (by decide +kernel) ⟨Nat.le_of_ble_eq_true rfl, Nat.le_of_ble_eq_true rfl⟩) (q_preV hK hP hD pm_8_6 5 38 rfl rfl) rfl rfl hl.1 rfl (lv_room (Nat.le_of_ble_eq_true rfl)) dL_law_639 ⟨show (cl + 1) + 0 ≤ 1088 by omega, show (sl + 6) + 0 ≤ 16873 by omega⟩) hP hD hS hA pm_8_6 pm_8_6.symm (fun H locs hP hD hS => ?_)
            refine lv_istore (lv' := [(6, .int o117.1), (5, .int o112.1), (0, .ref b), (1, .ref aQ), (2, .ref (aM 0)), (3, .ref aO), (4, .int x4)]) hx hb dL_law_642 hl (by decide) rfl (fun ls hl => ?_)
            refine lv_aload_n hx hb dL_law_644 rfl (lv_at hl 4 rfl) ?_
            obtain ⟨o119, e120, h⟩ := q_bind h
            refine q_ci (va_runV (As := []) (rest := []) ⟨hx, hb, hml, hown, hts⟩ (wX5_thrown l E aM o117.2 o119 e120 _) (cwV 0 hts gL_law_X5_thrown rfl rfl rfl (by decide +kernel) ⟨Nat.le_of_ble_eq_true rfl, Nat.le_of_ble_eq_true rfl⟩) (q_preV hK hP hD pm_8_6 5 38 rfl rfl) rfl rfl hl.1 rfl (lv_room (Nat.le_of_ble_eq_true rfl)) dL_law_645 ⟨show (cl + 1) + 0 ≤ 1088 by omega, show (sl + 6) + 0 ≤ 16873 by omega⟩) hP hD hS hA pm_8_6 pm_8_6.symm (fun H locs hP hD hS => ?_)
            refine lv_iload hx hb dL_law_648 (lv_at hl 1 rfl) ?_
            refine lv_icmp_eq (tgt := 655) hx hb dL_law_650 (by decide) (fun c121 => ?_) (fun c121 => ?_)
            · have h := q_pos c121 h
              refine lv_iload hx hb dL_law_655 (lv_at hl 1 rfl) ?_
              refine lv_if_ne (tgt := 672) hx hb dL_law_657 (by decide) (fun c122 => ?_) (fun c122 => ?_)
              · have h := q_neg c122 h
                refine lv_goto (tgt := 1123) hx hb dL_law_672 (by decide) ?_
                refine lv_iinc (v := (x4 + 6)) (lv' := [(4, .int (x4 + 6)), (6, .int o117.1), (5, .int o112.1), (0, .ref b), (1, .ref aQ), (2, .ref (aM 0)), (3, .ref aO)]) hx hb dL_law_1123 hl (k := 6) rfl rfl (by decide) rfl (fun ls hl => ?_)
                refine lv_goto (tgt := 23) hx hb dL_law_1126 (by decide) ?_
                exact ih (cl + 1) (sl + 6) (x4 + 6) o112.2.1 vN vT vF o112.2.2.1 vR o117.2 o112.2.2.2 _ _ _ (by omega) (by omega) hP hD hS (lv_sub hl [3, 4, 5, 6, 0] rfl) h
              · have h := q_pos c122 h
                refine lv_aload_n hx hb dL_law_660 rfl (lv_at hl 5 rfl) ?_
                refine lv_iconst (v := 0) hx hb dL_law_661 (by decide) ?_
                obtain ⟨i123, h⟩ := q_ck h
                refine va_lald (f := o112.2.2.2) hx hb hK.1 hP 55 1 rfl rfl i123 dL_law_662 ?_
                refine lv_iload hx hb dL_law_663 (lv_at hl 0 rfl) ?_
                refine lv_i2l hx hb dL_law_665 rfl ?_
                refine W.lcmp hx hb dL_law_666 ?_
                refine lv_if_eq (tgt := 672) hx hb dL_law_667 (by decide) (fun c124 => ?_) (fun c124 => ?_)
                · have h := q_pos c124 h
                  refine lv_goto (tgt := 1123) hx hb dL_law_672 (by decide) ?_
                  refine lv_iinc (v := (x4 + 6)) (lv' := [(4, .int (x4 + 6)), (6, .int o117.1), (5, .int o112.1), (0, .ref b), (1, .ref aQ), (2, .ref (aM 0)), (3, .ref aO)]) hx hb dL_law_1123 hl (k := 6) rfl rfl (by decide) rfl (fun ls hl => ?_)
                  refine lv_goto (tgt := 23) hx hb dL_law_1126 (by decide) ?_
                  exact ih (cl + 1) (sl + 6) (x4 + 6) o112.2.1 vN vT vF o112.2.2.1 vR o117.2 o112.2.2.2 _ _ _ (by omega) (by omega) hP hD hS (lv_sub hl [3, 4, 5, 6, 0] rfl) h
                · have h := q_neg c124 h
                  refine lv_iconst (v := 0) hx hb dL_law_670 (by decide) ?_
                  exact absurd (Option.some.inj h) (by decide)
            · have h := q_neg c121 h
              refine lv_iconst (v := 0) hx hb dL_law_653 (by decide) ?_
              exact absurd (Option.some.inj h) (by decide)
          have h := q_neg e108 h
          by_cases e125 : ((xs (Int32.toNatClampNeg x4)) &&& 31) = 7
          · have h := q_pos e125 h
            refine lv_tableIn (tgt := 675) (off := 635) hx hb dL_law_40 (fun z => c3 (Or.inl z)) (fun z => c3 (Or.inr z)) (by rw [e125]; rfl) (by decide) ?_
            refine lv_aload_n hx hb dL_law_675 rfl (lv_at hl 1 rfl) ?_
            obtain ⟨o126, e127, h⟩ := q_bind h
            refine q_ci (va_runV (As := []) (rest := []) ⟨hx, hb, hml, hown, hts⟩ (wX4_trace l E aQ aN aT aF aP aR vQ vN vT vP o126 e127 _) (cwV 0 hts gL_law_X4_trace rfl rfl rfl (by decide +kernel) ⟨Nat.le_of_ble_eq_true rfl, Nat.le_of_ble_eq_true rfl⟩) (q_preV hK hP hD pm_8_0124 4 0 rfl rfl) rfl rfl hl.1 rfl (lv_room (Nat.le_of_ble_eq_true rfl)) dL_law_676 ⟨show cl + 0 ≤ 1088 by omega, show sl + 0 ≤ 16873 by omega⟩) hP hD hS hA pm_8_0124 pm_8_0124.symm (fun H locs hP hD hS => ?_)
            refine lv_aload_n hx hb dL_law_679 rfl (lv_at hl 2 rfl) ?_
            obtain ⟨o128, e129, h⟩ := q_bind h
            refine q_ci (va_runV (As := []) (rest := [.int o126.1]) ⟨hx, hb, hml, hown, hts⟩ (wX5_trace l E aM vM o128 e129 _) (cwV 0 hts gL_law_X5_trace rfl rfl rfl (by decide +kernel) ⟨Nat.le_of_ble_eq_true rfl, Nat.le_of_ble_eq_true rfl⟩) (q_preV hK hP hD pm_8_6 5 38 rfl rfl) rfl rfl hl.1 rfl (lv_room (Nat.le_of_ble_eq_true rfl)) dL_law_680 ⟨show cl + 0 ≤ 1088 by omega, show sl + 0 ≤ 16873 by omega⟩) hP hD hS hA pm_8_6 pm_8_6.symm (fun H locs hP hD hS => ?_)
            refine lv_icmp_eq (tgt := 1123) hx hb dL_law_683 (by decide) (fun c130 => ?_) (fun c130 => ?_)
            · have h := q_pos c130 h
              refine lv_iinc (v := (x4 + 6)) (lv' := [(4, .int (x4 + 6)), (0, .ref b), (1, .ref aQ), (2, .ref (aM 0)), (3, .ref aO)]) hx hb dL_law_1123 hl (k := 4) rfl rfl (by decide) rfl (fun ls hl => ?_)
              refine lv_goto (tgt := 23) hx hb dL_law_1126 (by decide) ?_
              exact ih cl sl (x4 + 6) o126.2.1 vN o126.2.2.1 vF o126.2.2.2 vR o128.2 vO _ _ _ (by omega) (by omega) hP hD hS (lv_sub hl [1, 2, 3, 4, 0] rfl) h
            · have h := q_neg c130 h
              refine lv_iconst (v := 0) hx hb dL_law_686 (by decide) ?_
              exact absurd (Option.some.inj h) (by decide)
          have h := q_neg e125 h
          by_cases e131 : ((xs (Int32.toNatClampNeg x4)) &&& 31) = 8
          · have h := q_pos e131 h
            refine lv_tableIn (tgt := 688) (off := 648) hx hb dL_law_40 (fun z => c3 (Or.inl z)) (fun z => c3 (Or.inr z)) (by rw [e131]; rfl) (by decide) ?_
            refine lv_aload_n hx hb dL_law_688 rfl (lv_at hl 1 rfl) ?_
            obtain ⟨o132, e133, h⟩ := q_bind h
            refine q_ci (va_runV (As := []) (rest := []) ⟨hx, hb, hml, hown, hts⟩ (wX4_unlike l E aQ aN aT aF aP aR vQ vN vT vP o132 e133 _) (cwV 0 hts gL_law_X4_unlike rfl rfl rfl (by decide +kernel) ⟨Nat.le_of_ble_eq_true rfl, Nat.le_of_ble_eq_true rfl⟩) (q_preV hK hP hD pm_8_0124 4 0 rfl rfl) rfl rfl hl.1 rfl (lv_room (Nat.le_of_ble_eq_true rfl)) dL_law_689 ⟨show cl + 0 ≤ 1088 by omega, show sl + 0 ≤ 16873 by omega⟩) hP hD hS hA pm_8_0124 pm_8_0124.symm (fun H locs hP hD hS => ?_)
            refine lv_aload_n hx hb dL_law_692 rfl (lv_at hl 2 rfl) ?_
            obtain ⟨o134, e135, h⟩ := q_bind h
            refine q_ci (va_runV (As := []) (rest := [.int o132.1]) ⟨hx, hb, hml, hown, hts⟩ (wX5_unlike l E aM vM o134 e135 _) (cwV 0 hts gL_law_X5_unlike rfl rfl rfl (by decide +kernel) ⟨Nat.le_of_ble_eq_true rfl, Nat.le_of_ble_eq_true rfl⟩) (q_preV hK hP hD pm_8_6 5 38 rfl rfl) rfl rfl hl.1 rfl (lv_room (Nat.le_of_ble_eq_true rfl)) dL_law_693 ⟨show cl + 0 ≤ 1088 by omega, show sl + 0 ≤ 16873 by omega⟩) hP hD hS hA pm_8_6 pm_8_6.symm (fun H locs hP hD hS => ?_)
            refine lv_icmp_eq (tgt := 1123) hx hb dL_law_696 (by decide) (fun c136 => ?_) (fun c136 => ?_)
            · have h := q_pos c136 h
              refine lv_iinc (v := (x4 + 6)) (lv' := [(4, .int (x4 + 6)), (0, .ref b), (1, .ref aQ), (2, .ref (aM 0)), (3, .ref aO)]) hx hb dL_law_1123 hl (k := 4) rfl rfl (by decide) rfl (fun ls hl => ?_)
              refine lv_goto (tgt := 23) hx hb dL_law_1126 (by decide) ?_
              exact ih cl sl (x4 + 6) o132.2.1 vN vT vF o132.2.2 vR o134.2 vO _ _ _ (by omega) (by omega) hP hD hS (lv_sub hl [1, 2, 3, 4, 0] rfl) h
            · have h := q_neg c136 h
              refine lv_iconst (v := 0) hx hb dL_law_699 (by decide) ?_
              exact absurd (Option.some.inj h) (by decide)
          have h := q_neg e131 h
          by_cases e137 : ((xs (Int32.toNatClampNeg x4)) &&& 31) = 9
          · have h := q_pos e137 h
            refine lv_tableIn (tgt := 701) (off := 661) hx hb dL_law_40 (fun z => c3 (Or.inl z)) (fun z => c3 (Or.inr z)) (by rw [e137]; rfl) (by decide) ?_
            refine lv_aload_n hx hb dL_law_701 rfl (lv_at hl 1 rfl) ?_
            refine lv_aload_n hx hb dL_law_702 rfl (lv_at hl 0 rfl) ?_
            refine lv_iload hx hb dL_law_703 (lv_at hl 4 rfl) ?_
            refine lv_iconst (v := 1) hx hb dL_law_705 (by decide) ?_
            refine lv_iadd hx hb dL_law_706 ?_
            obtain ⟨i138, h⟩ := q_ck h
            refine va_sld hx hb hX hbl hbA hS i138 dL_law_707 ?_
            refine lv_aload_n hx hb dL_law_708 rfl (lv_at hl 0 rfl) ?_
            refine lv_iload hx hb dL_law_709 (lv_at hl 4 rfl) ?_
            refine lv_iconst (v := 2) hx hb dL_law_711 (by decide) ?_
            refine lv_iadd hx hb dL_law_712 ?_
            obtain ⟨i139, h⟩ := q_ck h
            refine va_sld hx hb hX hbl hbA hS i139 dL_law_713 ?_
            obtain ⟨z141, e142, h⟩ := q_bind h
            have KJ140 : ∀ (H : Heap) (locs : List Loc), va_P E.1 vwCl (WQ aQ aN aT aF aP aR vQ ++ (WN E aN vN ++ (WT E aT vT ++ (WF E aF vF ++ (WP E aP vP ++ (WP E aR vR ++ (WM E aM vM ++ WO E aO vO))))))) H → va_D A (WQ aQ aN aT aF aP aR vQ ++ (WN E aN vN ++ (WT E aT vT ++ (WF E aF vF ++ (WP E aP vP ++ (WP E aR vR ++ (WM E aM vM ++ WO E aO vO))))))) → va_S A s.heap H locs → W p l e room_1 s m #[Value.ref b] below meth c H locs cl sl (lw_Z below #[Value.ref b] s) (F0 m 722 ls [.int z141, .int (xs (Int32.toNatClampNeg (x4 + 1))), .ref aQ]) := by
              intro H locs hP hD hS
              refine lv_aload_n hx hb dL_law_722 rfl (lv_at hl 3 rfl) ?_
              obtain ⟨o143, e144, h⟩ := q_bind h
              refine q_ciW (vx_runSW (As := [.ref aQ, .int (xs (Int32.toNatClampNeg (x4 + 1))), .int z141, .ref aO]) (rest := []) ⟨hx, hb, hml, hown, hts⟩ (wL_found l hfl E aQ aN aT aF aP aR aO vQ vN vT vF vO (xs (Int32.toNatClampNeg (x4 + 1))) z141 o143 e144 _) (vx_cwSW 4 hts gL_law_L_found rfl rfl rfl (by decide +kernel) ⟨Nat.le_of_ble_eq_true rfl, Nat.le_of_ble_eq_true rfl⟩) (qw_preS hK hC hT hZ hN hS hA hP hD pm_8_01237) rfl rfl hl.1 rfl (lv_room (Nat.le_of_ble_eq_true rfl)) dL_law_723 ⟨show cl + 1 ≤ 1088 by omega, show sl + 6 ≤ 16873 by omega⟩) hP hD hS hA pm_8_01237 pm_8_01237.symm (fun H locs hP hD hS => ?_)
              refine lv_istore (lv' := [(5, .int o143.1), (0, .ref b), (1, .ref aQ), (2, .ref (aM 0)), (3, .ref aO), (4, .int x4)]) hx hb dL_law_726 hl (by decide) rfl (fun ls hl => ?_)
              refine lv_aload_n hx hb dL_law_728 rfl (lv_at hl 3 rfl) ?_
              refine lv_aload_n hx hb dL_law_729 rfl (lv_at hl 1 rfl) ?_
              refine lv_iload hx hb dL_law_730 (lv_at hl 5 rfl) ?_
              refine lv_iconst (v := 1) hx hb dL_law_732 (by decide) ?_
              refine lv_iadd hx hb dL_law_733 ?_
              obtain ⟨i145, h⟩ := q_ck h
              refine va_sld hx hb hX hbl hbA hS i145 dL_law_734 ?_
              refine lv_aload_n hx hb dL_law_735 rfl (lv_at hl 1 rfl) ?_
              refine lv_iload hx hb dL_law_736 (lv_at hl 5 rfl) ?_
              refine lv_iconst (v := 2) hx hb dL_law_738 (by decide) ?_
              refine lv_iadd hx hb dL_law_739 ?_
              obtain ⟨i146, h⟩ := q_ck h
              refine va_sld hx hb hX hbl hbA hS i146 dL_law_740 ?_
              obtain ⟨z148, e149, h⟩ := q_bind h
              have KJ147 : ∀ (H : Heap) (locs : List Loc), va_P E.1 vwCl (WQ aQ aN aT aF aP aR vQ ++ (WN E aN vN ++ (WT E aT vT ++ (WF E aF o143.2.1 ++ (WP E aP vP ++ (WP E aR vR ++ (WM E aM vM ++ WO E aO o143.2.2))))))) H → va_D A (WQ aQ aN aT aF aP aR vQ ++ (WN E aN vN ++ (WT E aT vT ++ (WF E aF o143.2.1 ++ (WP E aP vP ++ (WP E aR vR ++ (WM E aM vM ++ WO E aO o143.2.2))))))) → va_S A s.heap H locs → W p l e room_1 s m #[Value.ref b] below meth c H locs (cl + 1) (sl + 6) (lw_Z below #[Value.ref b] s) (F0 m 749 ls [.int z148, .int (xs (Int32.toNatClampNeg (x4 + 1))), .ref (aM 0)]) := by
                intro H locs hP hD hS
                obtain ⟨o150, e151, h⟩ := q_bind h
                refine q_ci (va_runV (As := [.int (xs (Int32.toNatClampNeg (x4 + 1))), .int z148]) (rest := []) ⟨hx, hb, hml, hown, hts⟩ (wX5_found l E aM vM (xs (Int32.toNatClampNeg (x4 + 1))) z148 o150 e151 _) (cwV 2 hts gL_law_X5_found rfl rfl rfl (by decide +kernel) ⟨Nat.le_of_ble_eq_true rfl, Nat.le_of_ble_eq_true rfl⟩) (q_preV hK hP hD pm_8_6 5 38 rfl rfl) rfl rfl hl.1 rfl (lv_room (Nat.le_of_ble_eq_true rfl)) dL_law_749 ⟨show (cl + 1) + 0 ≤ 1088 by omega, show (sl + 6) + 0 ≤ 16873 by omega⟩) hP hD hS hA pm_8_6 pm_8_6.symm (fun H locs hP hD hS => ?_)
                refine lv_istore (lv' := [(6, .int o150.1), (5, .int o143.1), (0, .ref b), (1, .ref aQ), (2, .ref (aM 0)), (3, .ref aO), (4, .int x4)]) hx hb dL_law_752 hl (by decide) rfl (fun ls hl => ?_)
                refine lv_aload_n hx hb dL_law_754 rfl (lv_at hl 4 rfl) ?_
                obtain ⟨o152, e153, h⟩ := q_bind h
                refine q_ci (va_runV (As := []) (rest := []) ⟨hx, hb, hml, hown, hts⟩ (wX5_thrown l E aM o150.2 o152 e153 _) (cwV 0 hts gL_law_X5_thrown rfl rfl rfl (by decide +kernel) ⟨Nat.le_of_ble_eq_true rfl, Nat.le_of_ble_eq_true rfl⟩) (q_preV hK hP hD pm_8_6 5 38 rfl rfl) rfl rfl hl.1 rfl (lv_room (Nat.le_of_ble_eq_true rfl)) dL_law_755 ⟨show (cl + 1) + 0 ≤ 1088 by omega, show (sl + 6) + 0 ≤ 16873 by omega⟩) hP hD hS hA pm_8_6 pm_8_6.symm (fun H locs hP hD hS => ?_)
                refine lv_iload hx hb dL_law_758 (lv_at hl 1 rfl) ?_
                refine lv_icmp_eq (tgt := 765) hx hb dL_law_760 (by decide) (fun c154 => ?_) (fun c154 => ?_)
                · have h := q_pos c154 h
                  refine lv_iload hx hb dL_law_765 (lv_at hl 1 rfl) ?_
                  refine lv_if_ne (tgt := 782) hx hb dL_law_767 (by decide) (fun c155 => ?_) (fun c155 => ?_)
                  · have h := q_neg c155 h
                    refine lv_goto (tgt := 1123) hx hb dL_law_782 (by decide) ?_
                    refine lv_iinc (v := (x4 + 6)) (lv' := [(4, .int (x4 + 6)), (6, .int o150.1), (5, .int o143.1), (0, .ref b), (1, .ref aQ), (2, .ref (aM 0)), (3, .ref aO)]) hx hb dL_law_1123 hl (k := 6) rfl rfl (by decide) rfl (fun ls hl => ?_)
                    refine lv_goto (tgt := 23) hx hb dL_law_1126 (by decide) ?_
                    exact ih (cl + 1) (sl + 6) (x4 + 6) vQ vN vT o143.2.1 vP vR o150.2 o143.2.2 _ _ _ (by omega) (by omega) hP hD hS (lv_sub hl [3, 4, 5, 6, 0] rfl) h
                  · have h := q_pos c155 h
                    refine lv_aload_n hx hb dL_law_770 rfl (lv_at hl 5 rfl) ?_
                    refine lv_iconst (v := 0) hx hb dL_law_771 (by decide) ?_
                    obtain ⟨i156, h⟩ := q_ck h
                    refine va_lald (f := o143.2.2) hx hb hK.1 hP 55 1 rfl rfl i156 dL_law_772 ?_
                    refine lv_iload hx hb dL_law_773 (lv_at hl 0 rfl) ?_
                    refine lv_i2l hx hb dL_law_775 rfl ?_
                    refine W.lcmp hx hb dL_law_776 ?_
                    refine lv_if_eq (tgt := 782) hx hb dL_law_777 (by decide) (fun c157 => ?_) (fun c157 => ?_)
                    · have h := q_pos c157 h
                      refine lv_goto (tgt := 1123) hx hb dL_law_782 (by decide) ?_
                      refine lv_iinc (v := (x4 + 6)) (lv' := [(4, .int (x4 + 6)), (6, .int o150.1), (5, .int o143.1), (0, .ref b), (1, .ref aQ), (2, .ref (aM 0)), (3, .ref aO)]) hx hb dL_law_1123 hl (k := 6) rfl rfl (by decide) rfl (fun ls hl => ?_)
                      refine lv_goto (tgt := 23) hx hb dL_law_1126 (by decide) ?_
                      exact ih (cl + 1) (sl + 6) (x4 + 6) vQ vN vT o143.2.1 vP vR o150.2 o143.2.2 _ _ _ (by omega) (by omega) hP hD hS (lv_sub hl [3, 4, 5, 6, 0] rfl) h
                    · have h := q_neg c157 h
                      refine lv_iconst (v := 0) hx hb dL_law_780 (by decide) ?_
                      exact absurd (Option.some.inj h) (by decide)
                · have h := q_neg c154 h
                  refine lv_iconst (v := 0) hx hb dL_law_763 (by decide) ?_
                  exact absurd (Option.some.inj h) (by decide)
              have h := e149
              refine lv_if_eq (tgt := 748) hx hb dL_law_741 (by decide) (fun c158 => ?_) (fun c158 => ?_)
              · have h := q_pos c158 h
                refine lv_iconst (v := 0) hx hb dL_law_748 (by decide) ?_
                obtain rfl := q_inj h
                exact KJ147 _ _ hP hD hS
              · have h := q_neg c158 h
                refine lv_iconst (v := 1) hx hb dL_law_744 (by decide) ?_
                refine lv_goto (tgt := 749) hx hb dL_law_745 (by decide) ?_
                obtain rfl := q_inj h
                exact KJ147 _ _ hP hD hS
            have h := e142
            refine lv_if_eq (tgt := 721) hx hb dL_law_714 (by decide) (fun c159 => ?_) (fun c159 => ?_)
            · have h := q_pos c159 h
              refine lv_iconst (v := 0) hx hb dL_law_721 (by decide) ?_
              obtain rfl := q_inj h
              exact KJ140 _ _ hP hD hS
            · have h := q_neg c159 h
              refine lv_iconst (v := 1) hx hb dL_law_717 (by decide) ?_
              refine lv_goto (tgt := 722) hx hb dL_law_718 (by decide) ?_
              obtain rfl := q_inj h
              exact KJ140 _ _ hP hD hS
          have h := q_neg e137 h
          by_cases e160 : ((xs (Int32.toNatClampNeg x4)) &&& 31) = 10
          · have h := q_pos e160 h
            refine lv_tableIn (tgt := 785) (off := 745) hx hb dL_law_40 (fun z => c3 (Or.inl z)) (fun z => c3 (Or.inr z)) (by rw [e160]; rfl) (by decide) ?_
            refine lv_aload_n hx hb dL_law_785 rfl (lv_at hl 1 rfl) ?_
            refine lv_aload_n hx hb dL_law_786 rfl (lv_at hl 0 rfl) ?_
            refine lv_iload hx hb dL_law_787 (lv_at hl 4 rfl) ?_
            refine lv_iconst (v := 1) hx hb dL_law_789 (by decide) ?_
            refine lv_iadd hx hb dL_law_790 ?_
            obtain ⟨i161, h⟩ := q_ck h
            refine va_sld hx hb hX hbl hbA hS i161 dL_law_791 ?_
            refine lv_aload_n hx hb dL_law_792 rfl (lv_at hl 3 rfl) ?_
            obtain ⟨o162, e163, h⟩ := q_bind h
            refine q_ciW (vx_runSW (As := [.ref aQ, .int (xs (Int32.toNatClampNeg (x4 + 1))), .ref aO]) (rest := []) ⟨hx, hb, hml, hown, hts⟩ (wL_overlap l hfl E aQ aN aT aF aP aR aO vQ vN vT vF vO (xs (Int32.toNatClampNeg (x4 + 1))) o162 e163 _) (vx_cwSW 3 hts gL_law_L_overlap rfl rfl rfl (by decide +kernel) ⟨Nat.le_of_ble_eq_true rfl, Nat.le_of_ble_eq_true rfl⟩) (qw_preS hK hC hT hZ hN hS hA hP hD pm_8_01237) rfl rfl hl.1 rfl (lv_room (Nat.le_of_ble_eq_true rfl)) dL_law_793 ⟨show cl + 1 ≤ 1088 by omega, show sl + 6 ≤ 16873 by omega⟩) hP hD hS hA pm_8_01237 pm_8_01237.symm (fun H locs hP hD hS => ?_)
            refine lv_istore (lv' := [(5, .int o162.1), (0, .ref b), (1, .ref aQ), (2, .ref (aM 0)), (3, .ref aO), (4, .int x4)]) hx hb dL_law_796 hl (by decide) rfl (fun ls hl => ?_)
            refine lv_aload_n hx hb dL_law_798 rfl (lv_at hl 3 rfl) ?_
            refine lv_aload_n hx hb dL_law_799 rfl (lv_at hl 1 rfl) ?_
            refine lv_iload hx hb dL_law_800 (lv_at hl 5 rfl) ?_
            refine lv_iconst (v := 1) hx hb dL_law_802 (by decide) ?_
            refine lv_iadd hx hb dL_law_803 ?_
            obtain ⟨i164, h⟩ := q_ck h
            refine va_sld hx hb hX hbl hbA hS i164 dL_law_804 ?_
            obtain ⟨o165, e166, h⟩ := q_bind h
            refine q_ci (va_runV (As := [.int (xs (Int32.toNatClampNeg (x4 + 1)))]) (rest := []) ⟨hx, hb, hml, hown, hts⟩ (wX5_overlap l E aM vM (xs (Int32.toNatClampNeg (x4 + 1))) o165 e166 _) (cwV 1 hts gL_law_X5_overlap rfl rfl rfl (by decide +kernel) ⟨Nat.le_of_ble_eq_true rfl, Nat.le_of_ble_eq_true rfl⟩) (q_preV hK hP hD pm_8_6 5 38 rfl rfl) rfl rfl hl.1 rfl (lv_room (Nat.le_of_ble_eq_true rfl)) dL_law_805 ⟨show (cl + 1) + 0 ≤ 1088 by omega, show (sl + 6) + 0 ≤ 16873 by omega⟩) hP hD hS hA pm_8_6 pm_8_6.symm (fun H locs hP hD hS => ?_)
            refine lv_istore (lv' := [(6, .int o165.1), (5, .int o162.1), (0, .ref b), (1, .ref aQ), (2, .ref (aM 0)), (3, .ref aO), (4, .int x4)]) hx hb dL_law_808 hl (by decide) rfl (fun ls hl => ?_)
            refine lv_aload_n hx hb dL_law_810 rfl (lv_at hl 4 rfl) ?_
            obtain ⟨o167, e168, h⟩ := q_bind h
            refine q_ci (va_runV (As := []) (rest := []) ⟨hx, hb, hml, hown, hts⟩ (wX5_thrown l E aM o165.2 o167 e168 _) (cwV 0 hts gL_law_X5_thrown rfl rfl rfl (by decide +kernel) ⟨Nat.le_of_ble_eq_true rfl, Nat.le_of_ble_eq_true rfl⟩) (q_preV hK hP hD pm_8_6 5 38 rfl rfl) rfl rfl hl.1 rfl (lv_room (Nat.le_of_ble_eq_true rfl)) dL_law_811 ⟨show (cl + 1) + 0 ≤ 1088 by omega, show (sl + 6) + 0 ≤ 16873 by omega⟩) hP hD hS hA pm_8_6 pm_8_6.symm (fun H locs hP hD hS => ?_)
            refine lv_iload hx hb dL_law_814 (lv_at hl 1 rfl) ?_
            refine lv_icmp_eq (tgt := 821) hx hb dL_law_816 (by decide) (fun c169 => ?_) (fun c169 => ?_)
            · have h := q_pos c169 h
              refine lv_iload hx hb dL_law_821 (lv_at hl 1 rfl) ?_
              refine lv_if_ne (tgt := 838) hx hb dL_law_823 (by decide) (fun c170 => ?_) (fun c170 => ?_)
              · have h := q_neg c170 h
                refine lv_goto (tgt := 1123) hx hb dL_law_838 (by decide) ?_
                refine lv_iinc (v := (x4 + 6)) (lv' := [(4, .int (x4 + 6)), (6, .int o165.1), (5, .int o162.1), (0, .ref b), (1, .ref aQ), (2, .ref (aM 0)), (3, .ref aO)]) hx hb dL_law_1123 hl (k := 6) rfl rfl (by decide) rfl (fun ls hl => ?_)
                refine lv_goto (tgt := 23) hx hb dL_law_1126 (by decide) ?_
                exact ih (cl + 1) (sl + 6) (x4 + 6) vQ vN vT o162.2.1 vP vR o165.2 o162.2.2 _ _ _ (by omega) (by omega) hP hD hS (lv_sub hl [3, 4, 5, 6, 0] rfl) h
              · have h := q_pos c170 h
                refine lv_aload_n hx hb dL_law_826 rfl (lv_at hl 5 rfl) ?_
                refine lv_iconst (v := 0) hx hb dL_law_827 (by decide) ?_
                obtain ⟨i171, h⟩ := q_ck h
                refine va_lald (f := o162.2.2) hx hb hK.1 hP 55 1 rfl rfl i171 dL_law_828 ?_
                refine lv_iload hx hb dL_law_829 (lv_at hl 0 rfl) ?_
                refine lv_i2l hx hb dL_law_831 rfl ?_
                refine W.lcmp hx hb dL_law_832 ?_
                refine lv_if_eq (tgt := 838) hx hb dL_law_833 (by decide) (fun c172 => ?_) (fun c172 => ?_)
                · have h := q_pos c172 h
                  refine lv_goto (tgt := 1123) hx hb dL_law_838 (by decide) ?_
                  refine lv_iinc (v := (x4 + 6)) (lv' := [(4, .int (x4 + 6)), (6, .int o165.1), (5, .int o162.1), (0, .ref b), (1, .ref aQ), (2, .ref (aM 0)), (3, .ref aO)]) hx hb dL_law_1123 hl (k := 6) rfl rfl (by decide) rfl (fun ls hl => ?_)
                  refine lv_goto (tgt := 23) hx hb dL_law_1126 (by decide) ?_
                  exact ih (cl + 1) (sl + 6) (x4 + 6) vQ vN vT o162.2.1 vP vR o165.2 o162.2.2 _ _ _ (by omega) (by omega) hP hD hS (lv_sub hl [3, 4, 5, 6, 0] rfl) h
                · have h := q_neg c172 h
                  refine lv_iconst (v := 0) hx hb dL_law_836 (by decide) ?_
                  exact absurd (Option.some.inj h) (by decide)
            · have h := q_neg c169 h
              refine lv_iconst (v := 0) hx hb dL_law_819 (by decide) ?_
              exact absurd (Option.some.inj h) (by decide)
          have h := q_neg e160 h
          by_cases e173 : ((xs (Int32.toNatClampNeg x4)) &&& 31) = 11
          · have h := q_pos e173 h
            refine lv_tableIn (tgt := 841) (off := 801) hx hb dL_law_40 (fun z => c3 (Or.inl z)) (fun z => c3 (Or.inr z)) (by rw [e173]; rfl) (by decide) ?_
            refine lv_aload_n hx hb dL_law_841 rfl (lv_at hl 1 rfl) ?_
            refine lv_aload_n hx hb dL_law_842 rfl (lv_at hl 0 rfl) ?_
            refine lv_iload hx hb dL_law_843 (lv_at hl 4 rfl) ?_
            refine lv_iconst (v := 1) hx hb dL_law_845 (by decide) ?_
            refine lv_iadd hx hb dL_law_846 ?_
            obtain ⟨i174, h⟩ := q_ck h
            refine va_sld hx hb hX hbl hbA hS i174 dL_law_847 ?_
            refine lv_aload_n hx hb dL_law_848 rfl (lv_at hl 0 rfl) ?_
            refine lv_iload hx hb dL_law_849 (lv_at hl 4 rfl) ?_
            refine lv_iconst (v := 2) hx hb dL_law_851 (by decide) ?_
            refine lv_iadd hx hb dL_law_852 ?_
            obtain ⟨i175, h⟩ := q_ck h
            refine va_sld hx hb hX hbl hbA hS i175 dL_law_853 ?_
            obtain ⟨z177, e178, h⟩ := q_bind h
            have KJ176 : ∀ (H : Heap) (locs : List Loc), va_P E.1 vwCl (WQ aQ aN aT aF aP aR vQ ++ (WN E aN vN ++ (WT E aT vT ++ (WF E aF vF ++ (WP E aP vP ++ (WP E aR vR ++ (WM E aM vM ++ WO E aO vO))))))) H → va_D A (WQ aQ aN aT aF aP aR vQ ++ (WN E aN vN ++ (WT E aT vT ++ (WF E aF vF ++ (WP E aP vP ++ (WP E aR vR ++ (WM E aM vM ++ WO E aO vO))))))) → va_S A s.heap H locs → W p l e room_1 s m #[Value.ref b] below meth c H locs cl sl (lw_Z below #[Value.ref b] s) (F0 m 862 ls [.int z177, .int (xs (Int32.toNatClampNeg (x4 + 1))), .ref aQ]) := by
              intro H locs hP hD hS
              refine lv_aload_n hx hb dL_law_862 rfl (lv_at hl 0 rfl) ?_
              refine lv_iload hx hb dL_law_863 (lv_at hl 4 rfl) ?_
              refine lv_iconst (v := 3) hx hb dL_law_865 (by decide) ?_
              refine lv_iadd hx hb dL_law_866 ?_
              obtain ⟨i179, h⟩ := q_ck h
              refine va_sld hx hb hX hbl hbA hS i179 dL_law_867 ?_
              refine lv_aload_n hx hb dL_law_868 rfl (lv_at hl 0 rfl) ?_
              refine lv_iload hx hb dL_law_869 (lv_at hl 4 rfl) ?_
              refine lv_iconst (v := 4) hx hb dL_law_871 (by decide) ?_
              refine lv_iadd hx hb dL_law_872 ?_
              obtain ⟨i180, h⟩ := q_ck h
              refine va_sld hx hb hX hbl hbA hS i180 dL_law_873 ?_
              refine lv_aload_n hx hb dL_law_874 rfl (lv_at hl 0 rfl) ?_
              refine lv_iload hx hb dL_law_875 (lv_at hl 4 rfl) ?_
              refine lv_iconst (v := 5) hx hb dL_law_877 (by decide) ?_
              refine lv_iadd hx hb dL_law_878 ?_
              obtain ⟨i181, h⟩ := q_ck h
              refine va_sld hx hb hX hbl hbA hS i181 dL_law_879 ?_
              refine lv_aload_n hx hb dL_law_880 rfl (lv_at hl 3 rfl) ?_
              obtain ⟨o182, e183, h⟩ := q_bind h
              refine q_ciW (vx_runSW (As := [.ref aQ, .int (xs (Int32.toNatClampNeg (x4 + 1))), .int z177, .int (xs (Int32.toNatClampNeg (x4 + 3))), .int (xs (Int32.toNatClampNeg (x4 + 4))), .int (xs (Int32.toNatClampNeg (x4 + 5))), .ref aO]) (rest := []) ⟨hx, hb, hml, hown, hts⟩ (wL_counts l hfl E aQ aN aT aF aP aR aO vQ vN vT vP vO (xs (Int32.toNatClampNeg (x4 + 1))) z177 (xs (Int32.toNatClampNeg (x4 + 3))) (xs (Int32.toNatClampNeg (x4 + 4))) (xs (Int32.toNatClampNeg (x4 + 5))) o182 e183 _) (vx_cwSW 7 hts gL_law_L_counts rfl rfl rfl (by decide +kernel) ⟨Nat.le_of_ble_eq_true rfl, Nat.le_of_ble_eq_true rfl⟩) (qw_preS hK hC hT hZ hN hS hA hP hD pm_8_01247) rfl rfl hl.1 rfl (lv_room (Nat.le_of_ble_eq_true rfl)) dL_law_881 ⟨show cl + 1 ≤ 1088 by omega, show sl + 6 ≤ 16873 by omega⟩) hP hD hS hA pm_8_01247 pm_8_01247.symm (fun H locs hP hD hS => ?_)
              refine lv_istore (lv' := [(5, .int o182.1), (0, .ref b), (1, .ref aQ), (2, .ref (aM 0)), (3, .ref aO), (4, .int x4)]) hx hb dL_law_884 hl (by decide) rfl (fun ls hl => ?_)
              refine lv_aload_n hx hb dL_law_886 rfl (lv_at hl 3 rfl) ?_
              refine lv_aload_n hx hb dL_law_887 rfl (lv_at hl 1 rfl) ?_
              refine lv_iload hx hb dL_law_888 (lv_at hl 5 rfl) ?_
              refine lv_iconst (v := 1) hx hb dL_law_890 (by decide) ?_
              refine lv_iadd hx hb dL_law_891 ?_
              obtain ⟨i184, h⟩ := q_ck h
              refine va_sld hx hb hX hbl hbA hS i184 dL_law_892 ?_
              refine lv_aload_n hx hb dL_law_893 rfl (lv_at hl 1 rfl) ?_
              refine lv_iload hx hb dL_law_894 (lv_at hl 5 rfl) ?_
              refine lv_iconst (v := 2) hx hb dL_law_896 (by decide) ?_
              refine lv_iadd hx hb dL_law_897 ?_
              obtain ⟨i185, h⟩ := q_ck h
              refine va_sld hx hb hX hbl hbA hS i185 dL_law_898 ?_
              obtain ⟨z187, e188, h⟩ := q_bind h
              have KJ186 : ∀ (H : Heap) (locs : List Loc), va_P E.1 vwCl (WQ aQ aN aT aF aP aR o182.2.1 ++ (WN E aN vN ++ (WT E aT vT ++ (WF E aF vF ++ (WP E aP o182.2.2.1 ++ (WP E aR vR ++ (WM E aM vM ++ WO E aO o182.2.2.2))))))) H → va_D A (WQ aQ aN aT aF aP aR o182.2.1 ++ (WN E aN vN ++ (WT E aT vT ++ (WF E aF vF ++ (WP E aP o182.2.2.1 ++ (WP E aR vR ++ (WM E aM vM ++ WO E aO o182.2.2.2))))))) → va_S A s.heap H locs → W p l e room_1 s m #[Value.ref b] below meth c H locs (cl + 1) (sl + 6) (lw_Z below #[Value.ref b] s) (F0 m 907 ls [.int z187, .int (xs (Int32.toNatClampNeg (x4 + 1))), .ref (aM 0)]) := by
                intro H locs hP hD hS
                refine lv_aload_n hx hb dL_law_907 rfl (lv_at hl 1 rfl) ?_
                refine lv_iload hx hb dL_law_908 (lv_at hl 5 rfl) ?_
                refine lv_iconst (v := 3) hx hb dL_law_910 (by decide) ?_
                refine lv_iadd hx hb dL_law_911 ?_
                obtain ⟨i189, h⟩ := q_ck h
                refine va_sld hx hb hX hbl hbA hS i189 dL_law_912 ?_
                refine lv_aload_n hx hb dL_law_913 rfl (lv_at hl 1 rfl) ?_
                refine lv_iload hx hb dL_law_914 (lv_at hl 5 rfl) ?_
                refine lv_iconst (v := 4) hx hb dL_law_916 (by decide) ?_
                refine lv_iadd hx hb dL_law_917 ?_
                obtain ⟨i190, h⟩ := q_ck h
                refine va_sld hx hb hX hbl hbA hS i190 dL_law_918 ?_
                refine lv_aload_n hx hb dL_law_919 rfl (lv_at hl 1 rfl) ?_
                refine lv_iload hx hb dL_law_920 (lv_at hl 5 rfl) ?_
                refine lv_iconst (v := 5) hx hb dL_law_922 (by decide) ?_
                refine lv_iadd hx hb dL_law_923 ?_
                obtain ⟨i191, h⟩ := q_ck h
                refine va_sld hx hb hX hbl hbA hS i191 dL_law_924 ?_
                obtain ⟨o192, e193, h⟩ := q_bind h
                refine q_cl (va_runV (As := [.int (xs (Int32.toNatClampNeg (x4 + 1))), .int z187, .int (xs (Int32.toNatClampNeg (x4 + 3))), .int (xs (Int32.toNatClampNeg (x4 + 4))), .int (xs (Int32.toNatClampNeg (x4 + 5)))]) (rest := []) ⟨hx, hb, hml, hown, hts⟩ (wX5_counts l E aM vM (xs (Int32.toNatClampNeg (x4 + 1))) z187 (xs (Int32.toNatClampNeg (x4 + 3))) (xs (Int32.toNatClampNeg (x4 + 4))) (xs (Int32.toNatClampNeg (x4 + 5))) o192 e193 _) (cwV 5 hts gL_law_X5_counts rfl rfl rfl (by decide +kernel) ⟨Nat.le_of_ble_eq_true rfl, Nat.le_of_ble_eq_true rfl⟩) (q_preV hK hP hD pm_8_6 5 38 rfl rfl) rfl rfl hl.1 rfl (lv_room (Nat.le_of_ble_eq_true rfl)) dL_law_925 ⟨show (cl + 1) + 0 ≤ 1088 by omega, show (sl + 6) + 0 ≤ 16873 by omega⟩) hP hD hS hA pm_8_6 pm_8_6.symm (fun H locs hP hD hS => ?_)
                refine lv_lstore (lv' := [(6, .long o192.1), (5, .int o182.1), (0, .ref b), (1, .ref aQ), (2, .ref (aM 0)), (3, .ref aO), (4, .int x4)]) hx hb dL_law_928 hl (by decide) rfl (fun ls hl => ?_)
                refine lv_aload_n hx hb dL_law_930 rfl (lv_at hl 4 rfl) ?_
                obtain ⟨o194, e195, h⟩ := q_bind h
                refine q_ci (va_runV (As := []) (rest := []) ⟨hx, hb, hml, hown, hts⟩ (wX5_thrown l E aM o192.2 o194 e195 _) (cwV 0 hts gL_law_X5_thrown rfl rfl rfl (by decide +kernel) ⟨Nat.le_of_ble_eq_true rfl, Nat.le_of_ble_eq_true rfl⟩) (q_preV hK hP hD pm_8_6 5 38 rfl rfl) rfl rfl hl.1 rfl (lv_room (Nat.le_of_ble_eq_true rfl)) dL_law_931 ⟨show (cl + 1) + 0 ≤ 1088 by omega, show (sl + 6) + 0 ≤ 16873 by omega⟩) hP hD hS hA pm_8_6 pm_8_6.symm (fun H locs hP hD hS => ?_)
                refine lv_iload hx hb dL_law_934 (lv_at hl 1 rfl) ?_
                refine lv_icmp_eq (tgt := 941) hx hb dL_law_936 (by decide) (fun c196 => ?_) (fun c196 => ?_)
                · have h := q_pos c196 h
                  refine lv_iload hx hb dL_law_941 (lv_at hl 1 rfl) ?_
                  refine lv_if_ne (tgt := 957) hx hb dL_law_943 (by decide) (fun c197 => ?_) (fun c197 => ?_)
                  · have h := q_neg c197 h
                    refine lv_goto (tgt := 1123) hx hb dL_law_957 (by decide) ?_
                    refine lv_iinc (v := (x4 + 6)) (lv' := [(4, .int (x4 + 6)), (6, .long o192.1), (5, .int o182.1), (0, .ref b), (1, .ref aQ), (2, .ref (aM 0)), (3, .ref aO)]) hx hb dL_law_1123 hl (k := 6) rfl rfl (by decide) rfl (fun ls hl => ?_)
                    refine lv_goto (tgt := 23) hx hb dL_law_1126 (by decide) ?_
                    exact ih (cl + 1) (sl + 6) (x4 + 6) o182.2.1 vN vT vF o182.2.2.1 vR o192.2 o182.2.2.2 _ _ _ (by omega) (by omega) hP hD hS (lv_sub hl [3, 4, 5, 6, 0] rfl) h
                  · have h := q_pos c197 h
                    refine lv_aload_n hx hb dL_law_946 rfl (lv_at hl 5 rfl) ?_
                    refine lv_iconst (v := 0) hx hb dL_law_947 (by decide) ?_
                    obtain ⟨i198, h⟩ := q_ck h
                    refine va_lald (f := o182.2.2.2) hx hb hK.1 hP 55 1 rfl rfl i198 dL_law_948 ?_
                    refine lv_lload hx hb dL_law_949 (lv_at hl 0 rfl) ?_
                    refine W.lcmp hx hb dL_law_951 ?_
                    refine lv_if_eq (tgt := 957) hx hb dL_law_952 (by decide) (fun c199 => ?_) (fun c199 => ?_)
                    · have h := q_pos c199 h
                      refine lv_goto (tgt := 1123) hx hb dL_law_957 (by decide) ?_
                      refine lv_iinc (v := (x4 + 6)) (lv' := [(4, .int (x4 + 6)), (6, .long o192.1), (5, .int o182.1), (0, .ref b), (1, .ref aQ), (2, .ref (aM 0)), (3, .ref aO)]) hx hb dL_law_1123 hl (k := 6) rfl rfl (by decide) rfl (fun ls hl => ?_)
                      refine lv_goto (tgt := 23) hx hb dL_law_1126 (by decide) ?_
                      exact ih (cl + 1) (sl + 6) (x4 + 6) o182.2.1 vN vT vF o182.2.2.1 vR o192.2 o182.2.2.2 _ _ _ (by omega) (by omega) hP hD hS (lv_sub hl [3, 4, 5, 6, 0] rfl) h
                    · have h := q_neg c199 h
                      refine lv_iconst (v := 0) hx hb dL_law_955 (by decide) ?_
                      exact absurd (Option.some.inj h) (by decide)
                · have h := q_neg c196 h
                  refine lv_iconst (v := 0) hx hb dL_law_939 (by decide) ?_
                  exact absurd (Option.some.inj h) (by decide)
              have h := e188
              refine lv_if_eq (tgt := 906) hx hb dL_law_899 (by decide) (fun c200 => ?_) (fun c200 => ?_)
              · have h := q_pos c200 h
                refine lv_iconst (v := 0) hx hb dL_law_906 (by decide) ?_
                obtain rfl := q_inj h
                exact KJ186 _ _ hP hD hS
              · have h := q_neg c200 h
                refine lv_iconst (v := 1) hx hb dL_law_902 (by decide) ?_
                refine lv_goto (tgt := 907) hx hb dL_law_903 (by decide) ?_
                obtain rfl := q_inj h
                exact KJ186 _ _ hP hD hS
            have h := e178
            refine lv_if_eq (tgt := 861) hx hb dL_law_854 (by decide) (fun c201 => ?_) (fun c201 => ?_)
            · have h := q_pos c201 h
              refine lv_iconst (v := 0) hx hb dL_law_861 (by decide) ?_
              obtain rfl := q_inj h
              exact KJ176 _ _ hP hD hS
            · have h := q_neg c201 h
              refine lv_iconst (v := 1) hx hb dL_law_857 (by decide) ?_
              refine lv_goto (tgt := 862) hx hb dL_law_858 (by decide) ?_
              obtain rfl := q_inj h
              exact KJ176 _ _ hP hD hS
          have h := q_neg e173 h
          by_cases e202 : ((xs (Int32.toNatClampNeg x4)) &&& 31) = 12
          · have h := q_pos e202 h
            refine lv_tableIn (tgt := 960) (off := 920) hx hb dL_law_40 (fun z => c3 (Or.inl z)) (fun z => c3 (Or.inr z)) (by rw [e202]; rfl) (by decide) ?_
            refine lv_aload_n hx hb dL_law_960 rfl (lv_at hl 1 rfl) ?_
            obtain ⟨o203, e204, h⟩ := q_bind h
            refine q_cl (va_runV (As := []) (rest := []) ⟨hx, hb, hml, hown, hts⟩ (wX4_total l E aQ aN aT aF aP aR vQ vN vP o203 e204 _) (cwV 0 hts gL_law_X4_total rfl rfl rfl (by decide +kernel) ⟨Nat.le_of_ble_eq_true rfl, Nat.le_of_ble_eq_true rfl⟩) (q_preV hK hP hD pm_8_014 4 0 rfl rfl) rfl rfl hl.1 rfl (lv_room (Nat.le_of_ble_eq_true rfl)) dL_law_961 ⟨show cl + 0 ≤ 1088 by omega, show sl + 0 ≤ 16873 by omega⟩) hP hD hS hA pm_8_014 pm_8_014.symm (fun H locs hP hD hS => ?_)
            refine lv_aload_n hx hb dL_law_964 rfl (lv_at hl 2 rfl) ?_
            obtain ⟨o205, e206, h⟩ := q_bind h
            refine q_cl (va_runV (As := []) (rest := [.long o203.1]) ⟨hx, hb, hml, hown, hts⟩ (wX5_total l E aM vM o205 e206 _) (cwV 0 hts gL_law_X5_total rfl rfl rfl (by decide +kernel) ⟨Nat.le_of_ble_eq_true rfl, Nat.le_of_ble_eq_true rfl⟩) (q_preV hK hP hD pm_8_6 5 38 rfl rfl) rfl rfl hl.1 rfl (lv_room (Nat.le_of_ble_eq_true rfl)) dL_law_965 ⟨show cl + 0 ≤ 1088 by omega, show sl + 0 ≤ 16873 by omega⟩) hP hD hS hA pm_8_6 pm_8_6.symm (fun H locs hP hD hS => ?_)
            refine W.lcmp hx hb dL_law_968 ?_
            refine lv_if_eq (tgt := 1123) hx hb dL_law_969 (by decide) (fun c207 => ?_) (fun c207 => ?_)
            · have h := q_pos c207 h
              refine lv_iinc (v := (x4 + 6)) (lv' := [(4, .int (x4 + 6)), (0, .ref b), (1, .ref aQ), (2, .ref (aM 0)), (3, .ref aO)]) hx hb dL_law_1123 hl (k := 4) rfl rfl (by decide) rfl (fun ls hl => ?_)
              refine lv_goto (tgt := 23) hx hb dL_law_1126 (by decide) ?_
              exact ih cl sl (x4 + 6) o203.2.1 vN vT vF o203.2.2 vR o205.2 vO _ _ _ (by omega) (by omega) hP hD hS (lv_sub hl [1, 2, 3, 4, 0] rfl) h
            · have h := q_neg c207 h
              refine lv_iconst (v := 0) hx hb dL_law_972 (by decide) ?_
              exact absurd (Option.some.inj h) (by decide)
          have h := q_neg e202 h
          by_cases e208 : ((xs (Int32.toNatClampNeg x4)) &&& 31) = 13
          · have h := q_pos e208 h
            refine lv_tableIn (tgt := 974) (off := 934) hx hb dL_law_40 (fun z => c3 (Or.inl z)) (fun z => c3 (Or.inr z)) (by rw [e208]; rfl) (by decide) ?_
            refine lv_aload_n hx hb dL_law_974 rfl (lv_at hl 1 rfl) ?_
            refine lv_aload_n hx hb dL_law_975 rfl (lv_at hl 0 rfl) ?_
            refine lv_iload hx hb dL_law_976 (lv_at hl 4 rfl) ?_
            refine lv_iconst (v := 1) hx hb dL_law_978 (by decide) ?_
            refine lv_iadd hx hb dL_law_979 ?_
            obtain ⟨i209, h⟩ := q_ck h
            refine va_sld hx hb hX hbl hbA hS i209 dL_law_980 ?_
            refine lv_aload_n hx hb dL_law_981 rfl (lv_at hl 3 rfl) ?_
            obtain ⟨o210, e211, h⟩ := q_bind h
            refine q_ciW (vx_runSW (As := [.ref aQ, .int (xs (Int32.toNatClampNeg (x4 + 1))), .ref aO]) (rest := []) ⟨hx, hb, hml, hown, hts⟩ (wL_saved l hfl E aQ aN aT aF aP aR aO vQ vN vP vR vO (xs (Int32.toNatClampNeg (x4 + 1))) o210 e211 _) (vx_cwSW 3 hts gL_law_L_saved rfl rfl rfl (by decide +kernel) ⟨Nat.le_of_ble_eq_true rfl, Nat.le_of_ble_eq_true rfl⟩) (qw_preS hK hC hT hZ hN hS hA hP hD pm_8_01457) rfl rfl hl.1 rfl (lv_room (Nat.le_of_ble_eq_true rfl)) dL_law_982 ⟨show cl + 1 ≤ 1088 by omega, show sl + 6 ≤ 16873 by omega⟩) hP hD hS hA pm_8_01457 pm_8_01457.symm (fun H locs hP hD hS => ?_)
            refine lv_istore (lv' := [(5, .int o210.1), (0, .ref b), (1, .ref aQ), (2, .ref (aM 0)), (3, .ref aO), (4, .int x4)]) hx hb dL_law_985 hl (by decide) rfl (fun ls hl => ?_)
            refine lv_aload_n hx hb dL_law_987 rfl (lv_at hl 3 rfl) ?_
            refine lv_aload_n hx hb dL_law_988 rfl (lv_at hl 1 rfl) ?_
            refine lv_iload hx hb dL_law_989 (lv_at hl 5 rfl) ?_
            refine lv_iconst (v := 1) hx hb dL_law_991 (by decide) ?_
            refine lv_iadd hx hb dL_law_992 ?_
            obtain ⟨i212, h⟩ := q_ck h
            refine va_sld hx hb hX hbl hbA hS i212 dL_law_993 ?_
            obtain ⟨o213, e214, h⟩ := q_bind h
            refine q_cl (va_runV (As := [.int (xs (Int32.toNatClampNeg (x4 + 1)))]) (rest := []) ⟨hx, hb, hml, hown, hts⟩ (wX5_saved l E aM vM (xs (Int32.toNatClampNeg (x4 + 1))) o213 e214 _) (cwV 1 hts gL_law_X5_saved rfl rfl rfl (by decide +kernel) ⟨Nat.le_of_ble_eq_true rfl, Nat.le_of_ble_eq_true rfl⟩) (q_preV hK hP hD pm_8_6 5 38 rfl rfl) rfl rfl hl.1 rfl (lv_room (Nat.le_of_ble_eq_true rfl)) dL_law_994 ⟨show (cl + 1) + 0 ≤ 1088 by omega, show (sl + 6) + 0 ≤ 16873 by omega⟩) hP hD hS hA pm_8_6 pm_8_6.symm (fun H locs hP hD hS => ?_)
            refine lv_lstore (lv' := [(6, .long o213.1), (5, .int o210.1), (0, .ref b), (1, .ref aQ), (2, .ref (aM 0)), (3, .ref aO), (4, .int x4)]) hx hb dL_law_997 hl (by decide) rfl (fun ls hl => ?_)
            refine lv_aload_n hx hb dL_law_999 rfl (lv_at hl 4 rfl) ?_
            obtain ⟨o215, e216, h⟩ := q_bind h
            refine q_ci (va_runV (As := []) (rest := []) ⟨hx, hb, hml, hown, hts⟩ (wX5_thrown l E aM o213.2 o215 e216 _) (cwV 0 hts gL_law_X5_thrown rfl rfl rfl (by decide +kernel) ⟨Nat.le_of_ble_eq_true rfl, Nat.le_of_ble_eq_true rfl⟩) (q_preV hK hP hD pm_8_6 5 38 rfl rfl) rfl rfl hl.1 rfl (lv_room (Nat.le_of_ble_eq_true rfl)) dL_law_1000 ⟨show (cl + 1) + 0 ≤ 1088 by omega, show (sl + 6) + 0 ≤ 16873 by omega⟩) hP hD hS hA pm_8_6 pm_8_6.symm (fun H locs hP hD hS => ?_)
            refine lv_iload hx hb dL_law_1003 (lv_at hl 1 rfl) ?_
            refine lv_icmp_eq (tgt := 1010) hx hb dL_law_1005 (by decide) (fun c217 => ?_) (fun c217 => ?_)
            · have h := q_pos c217 h
              refine lv_iload hx hb dL_law_1010 (lv_at hl 1 rfl) ?_
              refine lv_if_ne (tgt := 1026) hx hb dL_law_1012 (by decide) (fun c218 => ?_) (fun c218 => ?_)
              · have h := q_neg c218 h
                refine lv_goto (tgt := 1123) hx hb dL_law_1026 (by decide) ?_
                refine lv_iinc (v := (x4 + 6)) (lv' := [(4, .int (x4 + 6)), (6, .long o213.1), (5, .int o210.1), (0, .ref b), (1, .ref aQ), (2, .ref (aM 0)), (3, .ref aO)]) hx hb dL_law_1123 hl (k := 6) rfl rfl (by decide) rfl (fun ls hl => ?_)
                refine lv_goto (tgt := 23) hx hb dL_law_1126 (by decide) ?_
                exact ih (cl + 1) (sl + 6) (x4 + 6) o210.2.1 vN vT vF o210.2.2.1 o210.2.2.2.1 o213.2 o210.2.2.2.2 _ _ _ (by omega) (by omega) hP hD hS (lv_sub hl [3, 4, 5, 6, 0] rfl) h
              · have h := q_pos c218 h
                refine lv_aload_n hx hb dL_law_1015 rfl (lv_at hl 5 rfl) ?_
                refine lv_iconst (v := 0) hx hb dL_law_1016 (by decide) ?_
                obtain ⟨i219, h⟩ := q_ck h
                refine va_lald (f := o210.2.2.2.2) hx hb hK.1 hP 55 1 rfl rfl i219 dL_law_1017 ?_
                refine lv_lload hx hb dL_law_1018 (lv_at hl 0 rfl) ?_
                refine W.lcmp hx hb dL_law_1020 ?_
                refine lv_if_eq (tgt := 1026) hx hb dL_law_1021 (by decide) (fun c220 => ?_) (fun c220 => ?_)
                · have h := q_pos c220 h
                  refine lv_goto (tgt := 1123) hx hb dL_law_1026 (by decide) ?_
                  refine lv_iinc (v := (x4 + 6)) (lv' := [(4, .int (x4 + 6)), (6, .long o213.1), (5, .int o210.1), (0, .ref b), (1, .ref aQ), (2, .ref (aM 0)), (3, .ref aO)]) hx hb dL_law_1123 hl (k := 6) rfl rfl (by decide) rfl (fun ls hl => ?_)
                  refine lv_goto (tgt := 23) hx hb dL_law_1126 (by decide) ?_
                  exact ih (cl + 1) (sl + 6) (x4 + 6) o210.2.1 vN vT vF o210.2.2.1 o210.2.2.2.1 o213.2 o210.2.2.2.2 _ _ _ (by omega) (by omega) hP hD hS (lv_sub hl [3, 4, 5, 6, 0] rfl) h
                · have h := q_neg c220 h
                  refine lv_iconst (v := 0) hx hb dL_law_1024 (by decide) ?_
                  exact absurd (Option.some.inj h) (by decide)
            · have h := q_neg c217 h
              refine lv_iconst (v := 0) hx hb dL_law_1008 (by decide) ?_
              exact absurd (Option.some.inj h) (by decide)
          have h := q_neg e208 h
          by_cases e221 : ((xs (Int32.toNatClampNeg x4)) &&& 31) = 14
          · have h := q_pos e221 h
            refine lv_tableIn (tgt := 1029) (off := 989) hx hb dL_law_40 (fun z => c3 (Or.inl z)) (fun z => c3 (Or.inr z)) (by rw [e221]; rfl) (by decide) ?_
            refine lv_aload_n hx hb dL_law_1029 rfl (lv_at hl 1 rfl) ?_
            obtain ⟨o222, e223, h⟩ := q_bind h
            refine q_ci (va_runV (As := []) (rest := []) ⟨hx, hb, hml, hown, hts⟩ (wX4_narrow l E aQ aN aT aF aP aR vQ vN vP vR o222 e223 _) (cwV 0 hts gL_law_X4_narrow rfl rfl rfl (by decide +kernel) ⟨Nat.le_of_ble_eq_true rfl, Nat.le_of_ble_eq_true rfl⟩) (q_preV hK hP hD pm_8_0145 4 0 rfl rfl) rfl rfl hl.1 rfl (lv_room (Nat.le_of_ble_eq_true rfl)) dL_law_1030 ⟨show cl + 0 ≤ 1088 by omega, show sl + 0 ≤ 16873 by omega⟩) hP hD hS hA pm_8_0145 pm_8_0145.symm (fun H locs hP hD hS => ?_)
            refine lv_aload_n hx hb dL_law_1033 rfl (lv_at hl 2 rfl) ?_
            obtain ⟨o224, e225, h⟩ := q_bind h
            refine q_ci (va_runV (As := []) (rest := [.int o222.1]) ⟨hx, hb, hml, hown, hts⟩ (wX5_narrow l E aM vM o224 e225 _) (cwV 0 hts gL_law_X5_narrow rfl rfl rfl (by decide +kernel) ⟨Nat.le_of_ble_eq_true rfl, Nat.le_of_ble_eq_true rfl⟩) (q_preV hK hP hD pm_8_6 5 38 rfl rfl) rfl rfl hl.1 rfl (lv_room (Nat.le_of_ble_eq_true rfl)) dL_law_1034 ⟨show cl + 0 ≤ 1088 by omega, show sl + 0 ≤ 16873 by omega⟩) hP hD hS hA pm_8_6 pm_8_6.symm (fun H locs hP hD hS => ?_)
            refine lv_icmp_eq (tgt := 1123) hx hb dL_law_1037 (by decide) (fun c226 => ?_) (fun c226 => ?_)
            · have h := q_pos c226 h
              refine lv_iinc (v := (x4 + 6)) (lv' := [(4, .int (x4 + 6)), (0, .ref b), (1, .ref aQ), (2, .ref (aM 0)), (3, .ref aO)]) hx hb dL_law_1123 hl (k := 4) rfl rfl (by decide) rfl (fun ls hl => ?_)
              refine lv_goto (tgt := 23) hx hb dL_law_1126 (by decide) ?_
              exact ih cl sl (x4 + 6) o222.2.1 vN vT vF o222.2.2.1 o222.2.2.2 o224.2 vO _ _ _ (by omega) (by omega) hP hD hS (lv_sub hl [1, 2, 3, 4, 0] rfl) h
            · have h := q_neg c226 h
              refine lv_iconst (v := 0) hx hb dL_law_1040 (by decide) ?_
              exact absurd (Option.some.inj h) (by decide)
          have h := q_neg e221 h
          by_cases e227 : ((xs (Int32.toNatClampNeg x4)) &&& 31) = 15
          · have h := q_pos e227 h
            refine lv_tableIn (tgt := 1042) (off := 1002) hx hb dL_law_40 (fun z => c3 (Or.inl z)) (fun z => c3 (Or.inr z)) (by rw [e227]; rfl) (by decide) ?_
            refine lv_aload_n hx hb dL_law_1042 rfl (lv_at hl 1 rfl) ?_
            refine lv_aload_n hx hb dL_law_1043 rfl (lv_at hl 0 rfl) ?_
            refine lv_iload hx hb dL_law_1044 (lv_at hl 4 rfl) ?_
            refine lv_iconst (v := 1) hx hb dL_law_1046 (by decide) ?_
            refine lv_iadd hx hb dL_law_1047 ?_
            obtain ⟨i228, h⟩ := q_ck h
            refine va_sld hx hb hX hbl hbA hS i228 dL_law_1048 ?_
            refine lv_aload_n hx hb dL_law_1049 rfl (lv_at hl 3 rfl) ?_
            obtain ⟨o229, e230, h⟩ := q_bind h
            refine q_ciW (vx_runSW (As := [.ref aQ, .int (xs (Int32.toNatClampNeg (x4 + 1))), .ref aO]) (rest := []) ⟨hx, hb, hml, hown, hts⟩ (wL_alone l hfl E aQ aN aT aF aP aR aO vQ vN vO (xs (Int32.toNatClampNeg (x4 + 1))) o229 e230 _) (vx_cwSW 3 hts gL_law_L_alone rfl rfl rfl (by decide +kernel) ⟨Nat.le_of_ble_eq_true rfl, Nat.le_of_ble_eq_true rfl⟩) (qw_preS hK hC hT hZ hN hS hA hP hD pm_8_017) rfl rfl hl.1 rfl (lv_room (Nat.le_of_ble_eq_true rfl)) dL_law_1050 ⟨show cl + 1 ≤ 1088 by omega, show sl + 6 ≤ 16873 by omega⟩) hP hD hS hA pm_8_017 pm_8_017.symm (fun H locs hP hD hS => ?_)
            refine lv_istore (lv' := [(5, .int o229.1), (0, .ref b), (1, .ref aQ), (2, .ref (aM 0)), (3, .ref aO), (4, .int x4)]) hx hb dL_law_1053 hl (by decide) rfl (fun ls hl => ?_)
            refine lv_aload_n hx hb dL_law_1055 rfl (lv_at hl 3 rfl) ?_
            refine lv_aload_n hx hb dL_law_1056 rfl (lv_at hl 1 rfl) ?_
            refine lv_iload hx hb dL_law_1057 (lv_at hl 5 rfl) ?_
            refine lv_iconst (v := 1) hx hb dL_law_1059 (by decide) ?_
            refine lv_iadd hx hb dL_law_1060 ?_
            obtain ⟨i231, h⟩ := q_ck h
            refine va_sld hx hb hX hbl hbA hS i231 dL_law_1061 ?_
            obtain ⟨o232, e233, h⟩ := q_bind h
            refine q_ci (va_runV (As := [.int (xs (Int32.toNatClampNeg (x4 + 1)))]) (rest := []) ⟨hx, hb, hml, hown, hts⟩ (wX5_alone l E aM vM (xs (Int32.toNatClampNeg (x4 + 1))) o232 e233 _) (cwV 1 hts gL_law_X5_alone rfl rfl rfl (by decide +kernel) ⟨Nat.le_of_ble_eq_true rfl, Nat.le_of_ble_eq_true rfl⟩) (q_preV hK hP hD pm_8_6 5 38 rfl rfl) rfl rfl hl.1 rfl (lv_room (Nat.le_of_ble_eq_true rfl)) dL_law_1062 ⟨show (cl + 1) + 0 ≤ 1088 by omega, show (sl + 6) + 0 ≤ 16873 by omega⟩) hP hD hS hA pm_8_6 pm_8_6.symm (fun H locs hP hD hS => ?_)
            refine lv_istore (lv' := [(6, .int o232.1), (5, .int o229.1), (0, .ref b), (1, .ref aQ), (2, .ref (aM 0)), (3, .ref aO), (4, .int x4)]) hx hb dL_law_1065 hl (by decide) rfl (fun ls hl => ?_)
            refine lv_aload_n hx hb dL_law_1067 rfl (lv_at hl 4 rfl) ?_
            obtain ⟨o234, e235, h⟩ := q_bind h
            refine q_ci (va_runV (As := []) (rest := []) ⟨hx, hb, hml, hown, hts⟩ (wX5_thrown l E aM o232.2 o234 e235 _) (cwV 0 hts gL_law_X5_thrown rfl rfl rfl (by decide +kernel) ⟨Nat.le_of_ble_eq_true rfl, Nat.le_of_ble_eq_true rfl⟩) (q_preV hK hP hD pm_8_6 5 38 rfl rfl) rfl rfl hl.1 rfl (lv_room (Nat.le_of_ble_eq_true rfl)) dL_law_1068 ⟨show (cl + 1) + 0 ≤ 1088 by omega, show (sl + 6) + 0 ≤ 16873 by omega⟩) hP hD hS hA pm_8_6 pm_8_6.symm (fun H locs hP hD hS => ?_)
            refine lv_iload hx hb dL_law_1071 (lv_at hl 1 rfl) ?_
            refine lv_icmp_eq (tgt := 1078) hx hb dL_law_1073 (by decide) (fun c236 => ?_) (fun c236 => ?_)
            · have h := q_pos c236 h
              refine lv_iload hx hb dL_law_1078 (lv_at hl 1 rfl) ?_
              refine lv_if_ne (tgt := 1095) hx hb dL_law_1080 (by decide) (fun c237 => ?_) (fun c237 => ?_)
              · have h := q_neg c237 h
                refine lv_goto (tgt := 1123) hx hb dL_law_1095 (by decide) ?_
                refine lv_iinc (v := (x4 + 6)) (lv' := [(4, .int (x4 + 6)), (6, .int o232.1), (5, .int o229.1), (0, .ref b), (1, .ref aQ), (2, .ref (aM 0)), (3, .ref aO)]) hx hb dL_law_1123 hl (k := 6) rfl rfl (by decide) rfl (fun ls hl => ?_)
                refine lv_goto (tgt := 23) hx hb dL_law_1126 (by decide) ?_
                exact ih (cl + 1) (sl + 6) (x4 + 6) vQ vN vT vF vP vR o232.2 o229.2 _ _ _ (by omega) (by omega) hP hD hS (lv_sub hl [3, 4, 5, 6, 0] rfl) h
              · have h := q_pos c237 h
                refine lv_aload_n hx hb dL_law_1083 rfl (lv_at hl 5 rfl) ?_
                refine lv_iconst (v := 0) hx hb dL_law_1084 (by decide) ?_
                obtain ⟨i238, h⟩ := q_ck h
                refine va_lald (f := o229.2) hx hb hK.1 hP 55 1 rfl rfl i238 dL_law_1085 ?_
                refine lv_iload hx hb dL_law_1086 (lv_at hl 0 rfl) ?_
                refine lv_i2l hx hb dL_law_1088 rfl ?_
                refine W.lcmp hx hb dL_law_1089 ?_
                refine lv_if_eq (tgt := 1095) hx hb dL_law_1090 (by decide) (fun c239 => ?_) (fun c239 => ?_)
                · have h := q_pos c239 h
                  refine lv_goto (tgt := 1123) hx hb dL_law_1095 (by decide) ?_
                  refine lv_iinc (v := (x4 + 6)) (lv' := [(4, .int (x4 + 6)), (6, .int o232.1), (5, .int o229.1), (0, .ref b), (1, .ref aQ), (2, .ref (aM 0)), (3, .ref aO)]) hx hb dL_law_1123 hl (k := 6) rfl rfl (by decide) rfl (fun ls hl => ?_)
                  refine lv_goto (tgt := 23) hx hb dL_law_1126 (by decide) ?_
                  exact ih (cl + 1) (sl + 6) (x4 + 6) vQ vN vT vF vP vR o232.2 o229.2 _ _ _ (by omega) (by omega) hP hD hS (lv_sub hl [3, 4, 5, 6, 0] rfl) h
                · have h := q_neg c239 h
                  refine lv_iconst (v := 0) hx hb dL_law_1093 (by decide) ?_
                  exact absurd (Option.some.inj h) (by decide)
            · have h := q_neg c236 h
              refine lv_iconst (v := 0) hx hb dL_law_1076 (by decide) ?_
              exact absurd (Option.some.inj h) (by decide)
          have h := q_neg e227 h
          by_cases e240 : ((xs (Int32.toNatClampNeg x4)) &&& 31) = 16
          · have h := q_pos e240 h
            refine lv_tableIn (tgt := 1098) (off := 1058) hx hb dL_law_40 (fun z => c3 (Or.inl z)) (fun z => c3 (Or.inr z)) (by rw [e240]; rfl) (by decide) ?_
            refine lv_aload_n hx hb dL_law_1098 rfl (lv_at hl 1 rfl) ?_
            refine lv_aload_n hx hb dL_law_1099 rfl (lv_at hl 0 rfl) ?_
            refine lv_iload hx hb dL_law_1100 (lv_at hl 4 rfl) ?_
            refine lv_iconst (v := 1) hx hb dL_law_1102 (by decide) ?_
            refine lv_iadd hx hb dL_law_1103 ?_
            obtain ⟨i241, h⟩ := q_ck h
            refine va_sld hx hb hX hbl hbA hS i241 dL_law_1104 ?_
            obtain ⟨o242, e243, h⟩ := q_bind h
            refine q_ci (va_runV (As := [.int (xs (Int32.toNatClampNeg (x4 + 1)))]) (rest := []) ⟨hx, hb, hml, hown, hts⟩ (wX4_count l E aQ aN aT aF aP aR vQ vN vT vP (xs (Int32.toNatClampNeg (x4 + 1))) o242 e243 _) (cwV 1 hts gL_law_X4_count rfl rfl rfl (by decide +kernel) ⟨Nat.le_of_ble_eq_true rfl, Nat.le_of_ble_eq_true rfl⟩) (q_preV hK hP hD pm_8_0124 4 0 rfl rfl) rfl rfl hl.1 rfl (lv_room (Nat.le_of_ble_eq_true rfl)) dL_law_1105 ⟨show cl + 0 ≤ 1088 by omega, show sl + 0 ≤ 16873 by omega⟩) hP hD hS hA pm_8_0124 pm_8_0124.symm (fun H locs hP hD hS => ?_)
            refine lv_aload_n hx hb dL_law_1108 rfl (lv_at hl 2 rfl) ?_
            refine lv_aload_n hx hb dL_law_1109 rfl (lv_at hl 0 rfl) ?_
            refine lv_iload hx hb dL_law_1110 (lv_at hl 4 rfl) ?_
            refine lv_iconst (v := 1) hx hb dL_law_1112 (by decide) ?_
            refine lv_iadd hx hb dL_law_1113 ?_
            obtain ⟨i244, h⟩ := q_ck h
            refine va_sld hx hb hX hbl hbA hS i244 dL_law_1114 ?_
            obtain ⟨o245, e246, h⟩ := q_bind h
            refine q_ci (va_runV (As := [.int (xs (Int32.toNatClampNeg (x4 + 1)))]) (rest := [.int o242.1]) ⟨hx, hb, hml, hown, hts⟩ (wX5_count l E aM vM (xs (Int32.toNatClampNeg (x4 + 1))) o245 e246 _) (cwV 1 hts gL_law_X5_count rfl rfl rfl (by decide +kernel) ⟨Nat.le_of_ble_eq_true rfl, Nat.le_of_ble_eq_true rfl⟩) (q_preV hK hP hD pm_8_6 5 38 rfl rfl) rfl rfl hl.1 rfl (lv_room (Nat.le_of_ble_eq_true rfl)) dL_law_1115 ⟨show cl + 0 ≤ 1088 by omega, show sl + 0 ≤ 16873 by omega⟩) hP hD hS hA pm_8_6 pm_8_6.symm (fun H locs hP hD hS => ?_)
            refine lv_icmp_eq (tgt := 1123) hx hb dL_law_1118 (by decide) (fun c247 => ?_) (fun c247 => ?_)
            · have h := q_pos c247 h
              refine lv_iinc (v := (x4 + 6)) (lv' := [(4, .int (x4 + 6)), (0, .ref b), (1, .ref aQ), (2, .ref (aM 0)), (3, .ref aO)]) hx hb dL_law_1123 hl (k := 4) rfl rfl (by decide) rfl (fun ls hl => ?_)
              refine lv_goto (tgt := 23) hx hb dL_law_1126 (by decide) ?_
              exact ih cl sl (x4 + 6) o242.2.1 vN vT vF o242.2.2 vR o245.2 vO _ _ _ (by omega) (by omega) hP hD hS (lv_sub hl [1, 2, 3, 4, 0] rfl) h
            · have h := q_neg c247 h
              refine lv_iconst (v := 0) hx hb dL_law_1121 (by decide) ?_
              exact absurd (Option.some.inj h) (by decide)
          have h := q_neg e240 h
          cases h
