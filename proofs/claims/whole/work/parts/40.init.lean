/-! OWN: constructors -/
def WY (E : qE) (aY : Nat) (x : qA) : va_W := [(aY, .inl (E.2.1, 300, .inl x))]
abbrev qz : qA := fun _ => 0
abbrev qzJ : qJ := fun _ => 0
def qAd (l : List Nat) : Nat → Nat := fun k => l.getD k 0
def MCt {S : Type} (l : Launch) (E : qE) (y : MethodName) (wl : List Cond) (rm : Room) (av : List Value) (ws : va_W) (post : S → Prop) (wp : S → va_W) (mc ms : Nat) : Prop := ∀ sz : Nat, Met l y wl rm (va_Pc av (qPre E sz ws)) (va_Qv post (fun u t => va_P E.1 vwCl (wp u) t.heap ∧ va_D (va_A ws sz) (wp u)) (va_A ws sz)) mc ms (va_A ws sz)
theorem q_startC {l : Launch} {E : qE} {y : MethodName} {wl wl' : List Cond} {rm : Room} {av : List Value} {ws : va_W} {S : Type} {post : S → Prop} {wp : S → va_W} {mc ms : Nat} {cc : ByteArray} {maxL : Nat} (hy : plainName y.cls = true) (hyn : y.name = "<init>") (hw : wl = Cond.code y cc maxL none :: wl') (hlen : (lg_sl av).length ≤ maxL)
    (body : ∀ (pr : Program) (e : Env) (s : State) (m : MethodId) (args : Array Value) (below : List Frame) (meth : Method) (c : Code) (A : Nat → Prop) (Q : State → Prop), pr.tables.exec = Jvm.exec → c.code = cc → c.maxLocals = maxL → s.vm.findClass y.cls = some m.cls → (∀ w ∈ wl, w.before args s = true) → qK E s → meth.name = "<init>" →
      (∀ (u : S) (pc : Nat) (H : Heap) (locs : List Loc) (ls : Array Slot), post u → decode cc pc = .ok (.return_, 1) → va_P E.1 vwCl (wp u) H → va_D A (wp u) → va_S A s.heap H locs → W pr l e rm s m args below meth c H locs mc ms Q (F0 m pc ls [])) →
      va_P E.1 vwCl ws s.heap → va_D A ws → (∀ q, s.heap.size ≤ q → A q) → va_S A s.heap s.heap [] → ∀ ls : Array Slot, lv_has ls maxL (lv_args 0 av) → W pr l e rm s m args below meth c s.heap [] 0 0 Q (F0 m 0 ls [])) : MCt l E y wl rm av ws post wp mc ms := by
  intro sz
  refine Met.ofW (cc := cc) (maxL := maxL) (ret := none) hy hw ?_
  intro pr e s m args below meth c s₁ B hml hv
  obtain ⟨rfl, hsz, hP, hK, hD0⟩ := hv
  subst hsz
  have hD := hD0.self (sz := s.heap.size)
  have hl := lv_entry av (n := maxL) hlen
  rw [lg_entry_eq]
  exact body pr e s m av.toArray below meth c _ _ B.exec B.bytes hml (findClass_of_methodNamed B.named) (atoms_spec (ws := wl) B.pre) hK ((name_of_methodNamed B.named B.method).1.trans hyn) (fun u pc H locs ls hu hd hP hD hS => W.vret B.exec B.bytes B.returns (fun t ht hW => ⟨⟨u, rfl, hu, by rw [ht]; exact hP, hD⟩, hS.F ht⟩) hS.2.2 hd B.notSynchronized) hP hD (fun q h => Or.inr h) va_S.rf _ hl
section QI
variable {p : Program} {l : Launch} {e : Env} {R : Room} {s : State} {m : MethodId} {args : Array Value} {below : List Frame} {meth : Method} {c : Code} {H : Heap} {locs : List Loc} {cells slots : Nat} {Q : State → Prop}
variable {E : qE} {cc : ByteArray} {pc : Nat} {ls : Array Slot} {rest st0 : List Value} {av : Array Value} {A : Nat → Prop} {H0 : Heap} {w0 wc wr w1 : va_W}
theorem q_newi (hexec : p.tables.exec = Jvm.exec) (hb : c.code = cc) (harr : (Cond.arrayClass .int).before args s = true) (hK : qK E s) (hP : va_P E.1 vwCl w0 H) (hD : va_D A w0) (hS : va_S A H0 H locs) (hA : ∀ q, H0.size ≤ q → A q) {n : Int32} (N : Nat) (hn : ¬ n < 0) (hN : n.toNatClampNeg = N) (hbytes : N * componentBytes .int ≤ 536870912) (hcells : cells + 1 ≤ R.cells) (hslots : slots + N ≤ R.slots) (hdg : decode cc pc = .ok (.newarray .int, 2))
    (kk : ∀ (q : Nat) (H1 : Heap), va_P E.1 vwCl (w0 ++ [(q, .inl (E.2.1, N, .inl qz))]) H1 → va_D A (w0 ++ [(q, .inl (E.2.1, N, .inl qz))]) → va_S A H0 H1 locs → W p l e R s m args below meth c H1 locs (cells + 1) (slots + N) Q (F0 m (pc + 2) ls (.ref q :: rest))) : W p l e R s m args below meth c H locs cells slots Q (F0 m pc ls (.int n :: rest)) := by
  refine va_newa (atype := .int) (ty := .int) (a0 := (N, .inl qz)) hexec hb harr rfl hK.1 hP hD hS hA (fun cA => vp_cell_i cA N qz) hn hN hbytes hcells hslots hdg (fun q cA H1 hK1 hP1 hD1 hS1 => ?_)
  have e1 : s.vm.findClass ("[" ++ FieldType.int.toString) = some cA := (hK1.2 3 (cA, .int) rfl).2
  have e2 : s.vm.findClass ("[" ++ FieldType.int.toString) = some E.2.1 := (hK.1.2 0 (E.2.1, .int) rfl).2
  cases Option.some.inj (e1.symm.trans e2)
  exact kk q H1 hP1 hD1 hS1
theorem q_newz (hexec : p.tables.exec = Jvm.exec) (hb : c.code = cc) (harr : (Cond.arrayClass .boolean).before args s = true) (hK : qK E s) (hP : va_P E.1 vwCl w0 H) (hD : va_D A w0) (hS : va_S A H0 H locs) (hA : ∀ q, H0.size ≤ q → A q) {n : Int32} (N : Nat) (hn : ¬ n < 0) (hN : n.toNatClampNeg = N) (hbytes : N * componentBytes .boolean ≤ 536870912) (hcells : cells + 1 ≤ R.cells) (hslots : slots + N ≤ R.slots) (hdg : decode cc pc = .ok (.newarray .boolean, 2))
    (kk : ∀ (q : Nat) (H1 : Heap), va_P E.1 vwCl (w0 ++ [(q, .inl (E.2.2.2, N, .inl qz))]) H1 → va_D A (w0 ++ [(q, .inl (E.2.2.2, N, .inl qz))]) → va_S A H0 H1 locs → W p l e R s m args below meth c H1 locs (cells + 1) (slots + N) Q (F0 m (pc + 2) ls (.ref q :: rest))) : W p l e R s m args below meth c H locs cells slots Q (F0 m pc ls (.int n :: rest)) := by
  refine va_newa (atype := .boolean) (ty := .boolean) (a0 := (N, .inl qz)) hexec hb harr rfl hK.1 hP hD hS hA (fun cA => vp_cell_i cA N qz) hn hN hbytes hcells hslots hdg (fun q cA H1 hK1 hP1 hD1 hS1 => ?_)
  have e1 : s.vm.findClass ("[" ++ FieldType.boolean.toString) = some cA := (hK1.2 3 (cA, .boolean) rfl).2
  have e2 : s.vm.findClass ("[" ++ FieldType.boolean.toString) = some E.2.2.2 := (hK.1.2 2 (E.2.2.2, .boolean) rfl).2
  cases Option.some.inj (e1.symm.trans e2)
  exact kk q H1 hP1 hD1 hS1
theorem q_newl (hexec : p.tables.exec = Jvm.exec) (hb : c.code = cc) (harr : (Cond.arrayClass .long).before args s = true) (hK : qK E s) (hP : va_P E.1 vwCl w0 H) (hD : va_D A w0) (hS : va_S A H0 H locs) (hA : ∀ q, H0.size ≤ q → A q) {n : Int32} (N : Nat) (hn : ¬ n < 0) (hN : n.toNatClampNeg = N) (hbytes : N * componentBytes .long ≤ 536870912) (hcells : cells + 1 ≤ R.cells) (hslots : slots + N ≤ R.slots) (hdg : decode cc pc = .ok (.newarray .long, 2))
    (kk : ∀ (q : Nat) (H1 : Heap), va_P E.1 vwCl (w0 ++ [(q, .inl (E.2.2.1, N, .inr (.inl qzJ)))]) H1 → va_D A (w0 ++ [(q, .inl (E.2.2.1, N, .inr (.inl qzJ)))]) → va_S A H0 H1 locs → W p l e R s m args below meth c H1 locs (cells + 1) (slots + N) Q (F0 m (pc + 2) ls (.ref q :: rest))) : W p l e R s m args below meth c H locs cells slots Q (F0 m pc ls (.int n :: rest)) := by
  refine va_newa (atype := .long) (ty := .long) (a0 := (N, .inr (.inl qzJ))) hexec hb harr rfl hK.1 hP hD hS hA (fun cA => vp_cell_l cA N qzJ) hn hN hbytes hcells hslots hdg (fun q cA H1 hK1 hP1 hD1 hS1 => ?_)
  have e1 : s.vm.findClass ("[" ++ FieldType.long.toString) = some cA := (hK1.2 3 (cA, .long) rfl).2
  have e2 : s.vm.findClass ("[" ++ FieldType.long.toString) = some E.2.2.1 := (hK.1.2 1 (E.2.2.1, .long) rfl).2
  cases Option.some.inj (e1.symm.trans e2)
  exact kk q H1 hP1 hD1 hS1
/-- a constructor's call: what it made stands behind the rest -/
theorem q_cC {S : Type} {post : S → Prop} {wp : S → va_W} {mc ms : Nat} (hr : va_Run p l e R s m args below meth c H locs cells slots mc ms (F0 m pc ls st0) rest (va_Qv post (fun u t => va_P E.1 vwCl (wp u) t.heap ∧ va_D (va_A wc H.size) (wp u)) (va_A wc H.size) av) (va_A wc H.size)) (hP : va_P E.1 vwCl (wr ++ wc) H) (hD : va_D A (wr ++ wc)) (hS : va_S A H0 H locs) (hA : ∀ q, H0.size ≤ q → A q)
    (kk : ∀ (u : S) (H1 : Heap) (locs1 : List Loc), post u → va_P E.1 vwCl (wr ++ wp u) H1 → va_D A (wr ++ wp u) → va_S A H0 H1 locs1 → W p l e R s m args below meth c H1 locs1 (cells + mc) (slots + ms) Q (F0 m (pc + 3) ls rest)) : W p l e R s m args below meth c H locs cells slots Q (F0 m pc ls st0) := by
  have p1 : (wr ++ wc).Perm (wc ++ wr) := List.perm_append_comm
  have hF := q_free (q_Dm p1 hD) hS hA
  refine va_callv hr hS (fun q _ h => hF q h) hF (fun u t H1 locs1 ht _ hu hB _ hk hS1 => ?_)
  obtain ⟨hP1, hD1⟩ := hB
  rw [ht] at hP1
  obtain ⟨g1, g2⟩ := q_join (q_Pm p1 hP) (q_Dm p1 hD) hk hF hP1 hD1
  exact kk u H1 locs1 hu (q_Pm List.perm_append_comm g1) (q_Dm List.perm_append_comm g2) hS1
theorem q_preC {As : List Value} (hK : qK E s) (hP : va_P E.1 vwCl (wr ++ wc) H) (hD : va_D A (wr ++ wc)) : PreS s H (va_Pc As (qPre E H.size wc)) As := q_preS hK hP hD (List.perm_append_comm)
end QI
def lpJ7_fill_53178_5 (x1 : Int32) (x3 : Int32) : Nat → Int32 → qA → Option qA
  | 0, _, _ => none
  | k + 1, x2, vY => if x3 ≤ x2 then (some vY) else (ck x2 300 (lpJ7_fill_53178_5 x1 x3 k (x2 + 1) (upd vY (Int32.toNatClampNeg x2) x1)))
def mJ7_fill_53178 (vY : qA) (x1 : Int32) : Option qA := (lpJ7_fill_53178_5 x1 300 qFU 0 vY).bind fun o7 => some o7
def rmJ7_fill_53178 : Room := { frames := 0, cells := 0, slots := 0, locals := 0 }
set_option maxHeartbeats 8000000 in
set_option maxRecDepth 100000 in
theorem wJ7_fill_53178 (l : Launch) (E : qE) (aY : Nat) (vY : qA) (x1 : Int32) (o : qA) (h : mJ7_fill_53178 vY x1 = some o) : MV l E yJ7_fill_53178 wsJ7_fill_53178 rmJ7_fill_53178 [.ref aY, .int x1] (WY E aY vY) (WY E aY o) := by
  refine q_startV (cc := cJ7_fill_53178) (maxL := 4) (by decide) rfl (Nat.le_of_ble_eq_true rfl) ?_
  intro pr e s m args below meth c A Q hx hb hml hown hts hK hRt hP hD hA hS ls hl
  have hl : lv_has ls 4 [(0, .ref aY), (1, .int x1)] := hl
  have L5 : ∀ (vY : qA) (x1 : Int32) (x2 : Int32) (x3 : Int32) (k : Nat) (H : Heap) (locs : List Loc) (ls : Array Slot), va_P E.1 vwCl (WY E aY vY) H → va_D A (WY E aY vY) → va_S A s.heap H locs → lv_has ls 4 [(0, .ref aY), (1, .int x1), (2, .int x2), (3, .int x3)] → ∀ o, lpJ7_fill_53178_5 x1 x3 k x2 vY = some o → (∀ (H : Heap) (locs : List Loc) (ls : Array Slot), va_P E.1 vwCl (WY E aY o) H → va_D A (WY E aY o) → va_S A s.heap H locs → lv_has ls 4 [] → W pr l e rmJ7_fill_53178 s m args below meth c H locs 0 0 Q (F0 m 20 ls [])) → W pr l e rmJ7_fill_53178 s m args below meth c H locs 0 0 Q (F0 m 5 ls []) := by
    intro vY x1 x2 x3 k
    induction k generalizing x2 vY with
    | zero => intro H locs ls hP hD hS hl o h; cases h
    | succ k ih =>
      intro H locs ls hP hD hS hl o h kk
      rw [lpJ7_fill_53178_5] at h
      refine lv_iload_n hx hb dJ7_fill_53178_5 rfl (lv_at hl 2 rfl) ?_
      refine lv_iload_n hx hb dJ7_fill_53178_6 rfl (lv_at hl 3 rfl) ?_
      refine lv_icmp_ge (tgt := 20) hx hb dJ7_fill_53178_7 (by decide) (fun c5 => ?_) (fun c5 => ?_)
      · have h := q_pos c5 h
        obtain rfl := q_inj h
        exact kk _ _ _ hP hD hS (lv_sub hl [] rfl)
      · have h := q_neg c5 h
        refine lv_aload_n hx hb dJ7_fill_53178_10 rfl (lv_at hl 0 rfl) ?_
        refine lv_iload_n hx hb dJ7_fill_53178_11 rfl (lv_at hl 2 rfl) ?_
        refine lv_iload_n hx hb dJ7_fill_53178_12 rfl (lv_at hl 1 rfl) ?_
        obtain ⟨i6, h⟩ := q_ck h
        refine va_iast (f := vY) hx hb hK.1 hP hD hS 0 0 rfl rfl i6 dJ7_fill_53178_13 (fun H locs hP hD hS => ?_)
        have hP : va_P E.1 vwCl (WY E aY (upd vY (Int32.toNatClampNeg x2) x1)) H := hP
        have hD : va_D A (WY E aY (upd vY (Int32.toNatClampNeg x2) x1)) := hD
        refine lv_iinc (v := (x2 + 1)) (lv' := [(2, .int (x2 + 1)), (0, .ref aY), (1, .int x1), (3, .int x3)]) hx hb dJ7_fill_53178_14 hl (k := 2) rfl rfl (by decide) rfl (fun ls hl => ?_)
        refine lv_goto (tgt := 5) hx hb dJ7_fill_53178_17 (by decide) ?_
        exact ih (upd vY (Int32.toNatClampNeg x2) x1) (x2 + 1) _ _ _ hP hD hS (lv_sub hl [1, 2, 0, 3] rfl) _ h kk
  unfold mJ7_fill_53178 at h
  refine lv_iconst (v := 0) hx hb dJ7_fill_53178_0 (by decide) ?_
  refine lv_istore_n (lv' := [(2, .int 0), (0, .ref aY), (1, .int x1)]) hx hb dJ7_fill_53178_1 rfl hl (by decide) rfl (fun ls hl => ?_)
  refine lv_aload_n hx hb dJ7_fill_53178_2 rfl (lv_at hl 1 rfl) ?_
  refine va_alen (v := 300) hx hb hK.1 hP 0 0 rfl rfl rfl dJ7_fill_53178_3 ?_
  refine lv_istore_n (lv' := [(3, .int 300), (2, .int 0), (0, .ref aY), (1, .int x1)]) hx hb dJ7_fill_53178_4 rfl hl (by decide) rfl (fun ls hl => ?_)
  obtain ⟨o7, e8, h⟩ := q_bind h
  refine L5 vY x1 0 300 qFU _ _ _ hP hD hS (lv_sub hl [2, 3, 1, 0] rfl) o7 e8 (fun H locs ls hP hD hS hl => ?_)
  obtain rfl := q_inj h
  exact hRt 20 _ _ _ dJ7_fill_53178_20 hP hD hS
def rmX1_init : Room := { frames := 1, cells := 8, slots := 795, locals := 23 }
set_option maxHeartbeats 8000000 in
set_option maxRecDepth 100000 in
theorem wX1_init (l : Launch) (E : qE) (a0 : Nat) (o : qA) (hf : mJ7_fill_53178 qz (-1) = some o) : MCt l E yX1_init wsX1_init rmX1_init [.ref a0] [(a0, .inr (1, [.int 0, .int 0, .int 0, .null, .null, .null, .null, .null, .null, .null, .null]))] (fun u : Nat → Nat => u 0 = a0) (fun u => WN E u (0, 0, 0, qz, qz, qz, qz, qz, qz, o, qz)) 8 795 := by
  refine q_startC (cc := cX1_init) (maxL := 1) (by decide) rfl rfl (Nat.le_of_ble_eq_true rfl) ?_
  intro pr e s m args below meth c A Q hx hb hml hown hts hK hin hRt hP hD hA hS ls hl
  have hl : lv_has ls 1 [(0, .ref a0)] := hl
  have hinX1 : ∀ w ∈ wsX10, w ∈ wsX1_init := by decide +kernel
  have hw0 := hts (.methodLink RX1 3 objectInit) (by decide +kernel)
  have hw1 := hts (.instanceMethod objectInit) (by decide +kernel)
  have hw2 := hts (.code objectInit ⟨#[0xb1]⟩ 1 none) (by decide +kernel)
  have hw3 := hts (.fieldLink RX1 9 "QueueReader$Net" "places" "I") (by decide +kernel)
  have hw4 := hts (.fieldLink RX1 15 "QueueReader$Net" "asks" "I") (by decide +kernel)
  have hw5 := hts (.fieldLink RX1 18 "QueueReader$Net" "steps" "I") (by decide +kernel)
  have hw6 := hts (.arrayClass .int) (by decide +kernel)
  have hw7 := hts (.fieldLink RX1 21 "QueueReader$Net" "helpers" "[I") (by decide +kernel)
  have hw8 := hts (.fieldLink RX1 25 "QueueReader$Net" "rules" "[I") (by decide +kernel)
  have hw9 := hts (.fieldLink RX1 28 "QueueReader$Net" "delays" "[I") (by decide +kernel)
  have hw10 := hts (.fieldLink RX1 31 "QueueReader$Net" "kinds" "[I") (by decide +kernel)
  have hw11 := hts (.fieldLink RX1 34 "QueueReader$Net" "starts" "[I") (by decide +kernel)
  have hw12 := hts (.fieldLink RX1 37 "QueueReader$Net" "lengths" "[I") (by decide +kernel)
  have hw13 := hts (.fieldLink RX1 40 "QueueReader$Net" "stepPlaces" "[I") (by decide +kernel)
  have hw14 := hts (.fieldLink RX1 43 "QueueReader$Net" "stepWorks" "[I") (by decide +kernel)
  refine lv_aload_n hx hb dX1_init_0 rfl (lv_at hl 0 rfl) ?_
  refine W.objInit hx hb hown hw0 hw1 hw2 rfl (by rw [hml]; exact hl.1) rfl dX1_init_1 (Nat.le_of_ble_eq_true rfl) (Nat.le_of_ble_eq_true rfl) ?_
  refine W.eq (g2 := F0 m 4 ls []) rfl ?_
  refine lv_aload_n hx hb dX1_init_4 rfl (lv_at hl 0 rfl) ?_
  refine lv_iconst (v := 0) hx hb dX1_init_5 (by decide) ?_
  refine va_put (D := E.1) (ci := 1) (v := .int 0) (ty := .int) (C := RX1) (T := TX1) (N := 11) hx hb hts hinX1 tyX1 tyX1_ok nmX1 hown hK.1 hP hD hS 0 rfl rfl 0 (by decide) hw3 (fun _ h9 => h9) rfl (by decide +kernel) rfl rfl (Nat.le_of_ble_eq_true rfl) dX1_init_6 (fun H locs hP hD hS => ?_)
  have hP : va_P E.1 vwCl [(a0, .inr (1, [.int 0, .int 0, .int 0, .null, .null, .null, .null, .null, .null, .null, .null]))] H := hP
  have hD : va_D A [(a0, .inr (1, [.int 0, .int 0, .int 0, .null, .null, .null, .null, .null, .null, .null, .null]))] := hD
  refine lv_aload_n hx hb dX1_init_9 rfl (lv_at hl 0 rfl) ?_
  refine lv_iconst (v := 0) hx hb dX1_init_10 (by decide) ?_
  refine va_put (D := E.1) (ci := 1) (v := .int 0) (ty := .int) (C := RX1) (T := TX1) (N := 11) hx hb hts hinX1 tyX1 tyX1_ok nmX1 hown hK.1 hP hD hS 0 rfl rfl 1 (by decide) hw4 (fun _ h9 => h9) rfl (by decide +kernel) rfl rfl (Nat.le_of_ble_eq_true rfl) dX1_init_11 (fun H locs hP hD hS => ?_)
  have hP : va_P E.1 vwCl [(a0, .inr (1, [.int 0, .int 0, .int 0, .null, .null, .null, .null, .null, .null, .null, .null]))] H := hP
  have hD : va_D A [(a0, .inr (1, [.int 0, .int 0, .int 0, .null, .null, .null, .null, .null, .null, .null, .null]))] := hD
  refine lv_aload_n hx hb dX1_init_14 rfl (lv_at hl 0 rfl) ?_
  refine lv_iconst (v := 0) hx hb dX1_init_15 (by decide) ?_
  refine va_put (D := E.1) (ci := 1) (v := .int 0) (ty := .int) (C := RX1) (T := TX1) (N := 11) hx hb hts hinX1 tyX1 tyX1_ok nmX1 hown hK.1 hP hD hS 0 rfl rfl 2 (by decide) hw5 (fun _ h9 => h9) rfl (by decide +kernel) rfl rfl (Nat.le_of_ble_eq_true rfl) dX1_init_16 (fun H locs hP hD hS => ?_)
  have hP : va_P E.1 vwCl [(a0, .inr (1, [.int 0, .int 0, .int 0, .null, .null, .null, .null, .null, .null, .null, .null]))] H := hP
  have hD : va_D A [(a0, .inr (1, [.int 0, .int 0, .int 0, .null, .null, .null, .null, .null, .null, .null, .null]))] := hD
  refine lv_aload_n hx hb dX1_init_19 rfl (lv_at hl 0 rfl) ?_
  refine lv_iconst (v := 5) hx hb dX1_init_20 (by decide) ?_
  refine q_newi hx hb hw6 hK hP hD hS hA 5 (by decide) (by decide) (by decide) (Nat.le_of_ble_eq_true rfl) (Nat.le_of_ble_eq_true rfl) dX1_init_21 (fun q1 H hP hD hS => ?_)
  have hP : va_P E.1 vwCl [(a0, .inr (1, [.int 0, .int 0, .int 0, .null, .null, .null, .null, .null, .null, .null, .null])), (q1, .inl (E.2.1, 5, .inl qz))] H := hP
  have hD : va_D A [(a0, .inr (1, [.int 0, .int 0, .int 0, .null, .null, .null, .null, .null, .null, .null, .null])), (q1, .inl (E.2.1, 5, .inl qz))] := hD
  refine W.widen (k := 1) (n := 5) (Nat.le_of_ble_eq_true rfl) (Nat.le_of_ble_eq_true rfl) ?_
  refine va_putF (D := E.1) (ci := 1) (v := .ref q1) (ty := .array .int) (C := RX1) (T := TX1) (N := 11) hx hb hts hinX1 tyX1 tyX1_ok nmX1 hown hK.1 hP hD hS 0 rfl rfl 3 (by decide) hw7 (fun _ h9 => h9) rfl hin rfl (by decide +kernel) rfl rfl (Nat.le_of_ble_eq_true rfl) dX1_init_23 (fun H locs hP hD hS => ?_)
  have hP : va_P E.1 vwCl [(a0, .inr (1, [.int 0, .int 0, .int 0, .ref q1, .null, .null, .null, .null, .null, .null, .null])), (q1, .inl (E.2.1, 5, .inl qz))] H := hP
  have hD : va_D A [(a0, .inr (1, [.int 0, .int 0, .int 0, .ref q1, .null, .null, .null, .null, .null, .null, .null])), (q1, .inl (E.2.1, 5, .inl qz))] := hD
  refine lv_aload_n hx hb dX1_init_26 rfl (lv_at hl 0 rfl) ?_
  refine lv_iconst (v := 5) hx hb dX1_init_27 (by decide) ?_
  refine q_newi hx hb hw6 hK hP hD hS hA 5 (by decide) (by decide) (by decide) (Nat.le_of_ble_eq_true rfl) (Nat.le_of_ble_eq_true rfl) dX1_init_28 (fun q2 H hP hD hS => ?_)
  have hP : va_P E.1 vwCl [(a0, .inr (1, [.int 0, .int 0, .int 0, .ref q1, .null, .null, .null, .null, .null, .null, .null])), (q1, .inl (E.2.1, 5, .inl qz)), (q2, .inl (E.2.1, 5, .inl qz))] H := hP
  have hD : va_D A [(a0, .inr (1, [.int 0, .int 0, .int 0, .ref q1, .null, .null, .null, .null, .null, .null, .null])), (q1, .inl (E.2.1, 5, .inl qz)), (q2, .inl (E.2.1, 5, .inl qz))] := hD
  refine W.widen (k := 2) (n := 10) (Nat.le_of_ble_eq_true rfl) (Nat.le_of_ble_eq_true rfl) ?_
  refine va_putF (D := E.1) (ci := 1) (v := .ref q2) (ty := .array .int) (C := RX1) (T := TX1) (N := 11) hx hb hts hinX1 tyX1 tyX1_ok nmX1 hown hK.1 hP hD hS 0 rfl rfl 4 (by decide) hw8 (fun _ h9 => h9) rfl hin rfl (by decide +kernel) rfl rfl (Nat.le_of_ble_eq_true rfl) dX1_init_30 (fun H locs hP hD hS => ?_)
  have hP : va_P E.1 vwCl [(a0, .inr (1, [.int 0, .int 0, .int 0, .ref q1, .ref q2, .null, .null, .null, .null, .null, .null])), (q1, .inl (E.2.1, 5, .inl qz)), (q2, .inl (E.2.1, 5, .inl qz))] H := hP
  have hD : va_D A [(a0, .inr (1, [.int 0, .int 0, .int 0, .ref q1, .ref q2, .null, .null, .null, .null, .null, .null])), (q1, .inl (E.2.1, 5, .inl qz)), (q2, .inl (E.2.1, 5, .inl qz))] := hD
  refine lv_aload_n hx hb dX1_init_33 rfl (lv_at hl 0 rfl) ?_
  refine lv_iconst (v := 5) hx hb dX1_init_34 (by decide) ?_
  refine q_newi hx hb hw6 hK hP hD hS hA 5 (by decide) (by decide) (by decide) (Nat.le_of_ble_eq_true rfl) (Nat.le_of_ble_eq_true rfl) dX1_init_35 (fun q3 H hP hD hS => ?_)
  have hP : va_P E.1 vwCl [(a0, .inr (1, [.int 0, .int 0, .int 0, .ref q1, .ref q2, .null, .null, .null, .null, .null, .null])), (q1, .inl (E.2.1, 5, .inl qz)), (q2, .inl (E.2.1, 5, .inl qz)), (q3, .inl (E.2.1, 5, .inl qz))] H := hP
  have hD : va_D A [(a0, .inr (1, [.int 0, .int 0, .int 0, .ref q1, .ref q2, .null, .null, .null, .null, .null, .null])), (q1, .inl (E.2.1, 5, .inl qz)), (q2, .inl (E.2.1, 5, .inl qz)), (q3, .inl (E.2.1, 5, .inl qz))] := hD
  refine W.widen (k := 3) (n := 15) (Nat.le_of_ble_eq_true rfl) (Nat.le_of_ble_eq_true rfl) ?_
  refine va_putF (D := E.1) (ci := 1) (v := .ref q3) (ty := .array .int) (C := RX1) (T := TX1) (N := 11) hx hb hts hinX1 tyX1 tyX1_ok nmX1 hown hK.1 hP hD hS 0 rfl rfl 5 (by decide) hw9 (fun _ h9 => h9) rfl hin rfl (by decide +kernel) rfl rfl (Nat.le_of_ble_eq_true rfl) dX1_init_37 (fun H locs hP hD hS => ?_)
  have hP : va_P E.1 vwCl [(a0, .inr (1, [.int 0, .int 0, .int 0, .ref q1, .ref q2, .ref q3, .null, .null, .null, .null, .null])), (q1, .inl (E.2.1, 5, .inl qz)), (q2, .inl (E.2.1, 5, .inl qz)), (q3, .inl (E.2.1, 5, .inl qz))] H := hP
  have hD : va_D A [(a0, .inr (1, [.int 0, .int 0, .int 0, .ref q1, .ref q2, .ref q3, .null, .null, .null, .null, .null])), (q1, .inl (E.2.1, 5, .inl qz)), (q2, .inl (E.2.1, 5, .inl qz)), (q3, .inl (E.2.1, 5, .inl qz))] := hD
  refine lv_aload_n hx hb dX1_init_40 rfl (lv_at hl 0 rfl) ?_
  refine lv_bipush (v := 60) hx hb dX1_init_41 (by decide) ?_
  refine q_newi hx hb hw6 hK hP hD hS hA 60 (by decide) (by decide) (by decide) (Nat.le_of_ble_eq_true rfl) (Nat.le_of_ble_eq_true rfl) dX1_init_43 (fun q4 H hP hD hS => ?_)
  have hP : va_P E.1 vwCl [(a0, .inr (1, [.int 0, .int 0, .int 0, .ref q1, .ref q2, .ref q3, .null, .null, .null, .null, .null])), (q1, .inl (E.2.1, 5, .inl qz)), (q2, .inl (E.2.1, 5, .inl qz)), (q3, .inl (E.2.1, 5, .inl qz)), (q4, .inl (E.2.1, 60, .inl qz))] H := hP
  have hD : va_D A [(a0, .inr (1, [.int 0, .int 0, .int 0, .ref q1, .ref q2, .ref q3, .null, .null, .null, .null, .null])), (q1, .inl (E.2.1, 5, .inl qz)), (q2, .inl (E.2.1, 5, .inl qz)), (q3, .inl (E.2.1, 5, .inl qz)), (q4, .inl (E.2.1, 60, .inl qz))] := hD
  refine W.widen (k := 4) (n := 75) (Nat.le_of_ble_eq_true rfl) (Nat.le_of_ble_eq_true rfl) ?_
  refine va_putF (D := E.1) (ci := 1) (v := .ref q4) (ty := .array .int) (C := RX1) (T := TX1) (N := 11) hx hb hts hinX1 tyX1 tyX1_ok nmX1 hown hK.1 hP hD hS 0 rfl rfl 6 (by decide) hw10 (fun _ h9 => h9) rfl hin rfl (by decide +kernel) rfl rfl (Nat.le_of_ble_eq_true rfl) dX1_init_45 (fun H locs hP hD hS => ?_)
  have hP : va_P E.1 vwCl [(a0, .inr (1, [.int 0, .int 0, .int 0, .ref q1, .ref q2, .ref q3, .ref q4, .null, .null, .null, .null])), (q1, .inl (E.2.1, 5, .inl qz)), (q2, .inl (E.2.1, 5, .inl qz)), (q3, .inl (E.2.1, 5, .inl qz)), (q4, .inl (E.2.1, 60, .inl qz))] H := hP
  have hD : va_D A [(a0, .inr (1, [.int 0, .int 0, .int 0, .ref q1, .ref q2, .ref q3, .ref q4, .null, .null, .null, .null])), (q1, .inl (E.2.1, 5, .inl qz)), (q2, .inl (E.2.1, 5, .inl qz)), (q3, .inl (E.2.1, 5, .inl qz)), (q4, .inl (E.2.1, 60, .inl qz))] := hD
  refine lv_aload_n hx hb dX1_init_48 rfl (lv_at hl 0 rfl) ?_
  refine lv_bipush (v := 60) hx hb dX1_init_49 (by decide) ?_
  refine q_newi hx hb hw6 hK hP hD hS hA 60 (by decide) (by decide) (by decide) (Nat.le_of_ble_eq_true rfl) (Nat.le_of_ble_eq_true rfl) dX1_init_51 (fun q5 H hP hD hS => ?_)
  have hP : va_P E.1 vwCl [(a0, .inr (1, [.int 0, .int 0, .int 0, .ref q1, .ref q2, .ref q3, .ref q4, .null, .null, .null, .null])), (q1, .inl (E.2.1, 5, .inl qz)), (q2, .inl (E.2.1, 5, .inl qz)), (q3, .inl (E.2.1, 5, .inl qz)), (q4, .inl (E.2.1, 60, .inl qz)), (q5, .inl (E.2.1, 60, .inl qz))] H := hP
  have hD : va_D A [(a0, .inr (1, [.int 0, .int 0, .int 0, .ref q1, .ref q2, .ref q3, .ref q4, .null, .null, .null, .null])), (q1, .inl (E.2.1, 5, .inl qz)), (q2, .inl (E.2.1, 5, .inl qz)), (q3, .inl (E.2.1, 5, .inl qz)), (q4, .inl (E.2.1, 60, .inl qz)), (q5, .inl (E.2.1, 60, .inl qz))] := hD
  refine W.widen (k := 5) (n := 135) (Nat.le_of_ble_eq_true rfl) (Nat.le_of_ble_eq_true rfl) ?_
  refine va_putF (D := E.1) (ci := 1) (v := .ref q5) (ty := .array .int) (C := RX1) (T := TX1) (N := 11) hx hb hts hinX1 tyX1 tyX1_ok nmX1 hown hK.1 hP hD hS 0 rfl rfl 7 (by decide) hw11 (fun _ h9 => h9) rfl hin rfl (by decide +kernel) rfl rfl (Nat.le_of_ble_eq_true rfl) dX1_init_53 (fun H locs hP hD hS => ?_)
  have hP : va_P E.1 vwCl [(a0, .inr (1, [.int 0, .int 0, .int 0, .ref q1, .ref q2, .ref q3, .ref q4, .ref q5, .null, .null, .null])), (q1, .inl (E.2.1, 5, .inl qz)), (q2, .inl (E.2.1, 5, .inl qz)), (q3, .inl (E.2.1, 5, .inl qz)), (q4, .inl (E.2.1, 60, .inl qz)), (q5, .inl (E.2.1, 60, .inl qz))] H := hP
  have hD : va_D A [(a0, .inr (1, [.int 0, .int 0, .int 0, .ref q1, .ref q2, .ref q3, .ref q4, .ref q5, .null, .null, .null])), (q1, .inl (E.2.1, 5, .inl qz)), (q2, .inl (E.2.1, 5, .inl qz)), (q3, .inl (E.2.1, 5, .inl qz)), (q4, .inl (E.2.1, 60, .inl qz)), (q5, .inl (E.2.1, 60, .inl qz))] := hD
  refine lv_aload_n hx hb dX1_init_56 rfl (lv_at hl 0 rfl) ?_
  refine lv_bipush (v := 60) hx hb dX1_init_57 (by decide) ?_
  refine q_newi hx hb hw6 hK hP hD hS hA 60 (by decide) (by decide) (by decide) (Nat.le_of_ble_eq_true rfl) (Nat.le_of_ble_eq_true rfl) dX1_init_59 (fun q6 H hP hD hS => ?_)
  have hP : va_P E.1 vwCl [(a0, .inr (1, [.int 0, .int 0, .int 0, .ref q1, .ref q2, .ref q3, .ref q4, .ref q5, .null, .null, .null])), (q1, .inl (E.2.1, 5, .inl qz)), (q2, .inl (E.2.1, 5, .inl qz)), (q3, .inl (E.2.1, 5, .inl qz)), (q4, .inl (E.2.1, 60, .inl qz)), (q5, .inl (E.2.1, 60, .inl qz)), (q6, .inl (E.2.1, 60, .inl qz))] H := hP
  have hD : va_D A [(a0, .inr (1, [.int 0, .int 0, .int 0, .ref q1, .ref q2, .ref q3, .ref q4, .ref q5, .null, .null, .null])), (q1, .inl (E.2.1, 5, .inl qz)), (q2, .inl (E.2.1, 5, .inl qz)), (q3, .inl (E.2.1, 5, .inl qz)), (q4, .inl (E.2.1, 60, .inl qz)), (q5, .inl (E.2.1, 60, .inl qz)), (q6, .inl (E.2.1, 60, .inl qz))] := hD
  refine W.widen (k := 6) (n := 195) (Nat.le_of_ble_eq_true rfl) (Nat.le_of_ble_eq_true rfl) ?_
  refine va_putF (D := E.1) (ci := 1) (v := .ref q6) (ty := .array .int) (C := RX1) (T := TX1) (N := 11) hx hb hts hinX1 tyX1 tyX1_ok nmX1 hown hK.1 hP hD hS 0 rfl rfl 8 (by decide) hw12 (fun _ h9 => h9) rfl hin rfl (by decide +kernel) rfl rfl (Nat.le_of_ble_eq_true rfl) dX1_init_61 (fun H locs hP hD hS => ?_)
  have hP : va_P E.1 vwCl [(a0, .inr (1, [.int 0, .int 0, .int 0, .ref q1, .ref q2, .ref q3, .ref q4, .ref q5, .ref q6, .null, .null])), (q1, .inl (E.2.1, 5, .inl qz)), (q2, .inl (E.2.1, 5, .inl qz)), (q3, .inl (E.2.1, 5, .inl qz)), (q4, .inl (E.2.1, 60, .inl qz)), (q5, .inl (E.2.1, 60, .inl qz)), (q6, .inl (E.2.1, 60, .inl qz))] H := hP
  have hD : va_D A [(a0, .inr (1, [.int 0, .int 0, .int 0, .ref q1, .ref q2, .ref q3, .ref q4, .ref q5, .ref q6, .null, .null])), (q1, .inl (E.2.1, 5, .inl qz)), (q2, .inl (E.2.1, 5, .inl qz)), (q3, .inl (E.2.1, 5, .inl qz)), (q4, .inl (E.2.1, 60, .inl qz)), (q5, .inl (E.2.1, 60, .inl qz)), (q6, .inl (E.2.1, 60, .inl qz))] := hD
  refine lv_aload_n hx hb dX1_init_64 rfl (lv_at hl 0 rfl) ?_
  refine lv_sipush (v := 300) hx hb dX1_init_65 (by decide) ?_
  refine q_newi hx hb hw6 hK hP hD hS hA 300 (by decide) (by decide) (by decide) (Nat.le_of_ble_eq_true rfl) (Nat.le_of_ble_eq_true rfl) dX1_init_68 (fun q7 H hP hD hS => ?_)
  have hP : va_P E.1 vwCl [(a0, .inr (1, [.int 0, .int 0, .int 0, .ref q1, .ref q2, .ref q3, .ref q4, .ref q5, .ref q6, .null, .null])), (q1, .inl (E.2.1, 5, .inl qz)), (q2, .inl (E.2.1, 5, .inl qz)), (q3, .inl (E.2.1, 5, .inl qz)), (q4, .inl (E.2.1, 60, .inl qz)), (q5, .inl (E.2.1, 60, .inl qz)), (q6, .inl (E.2.1, 60, .inl qz)), (q7, .inl (E.2.1, 300, .inl qz))] H := hP
  have hD : va_D A [(a0, .inr (1, [.int 0, .int 0, .int 0, .ref q1, .ref q2, .ref q3, .ref q4, .ref q5, .ref q6, .null, .null])), (q1, .inl (E.2.1, 5, .inl qz)), (q2, .inl (E.2.1, 5, .inl qz)), (q3, .inl (E.2.1, 5, .inl qz)), (q4, .inl (E.2.1, 60, .inl qz)), (q5, .inl (E.2.1, 60, .inl qz)), (q6, .inl (E.2.1, 60, .inl qz)), (q7, .inl (E.2.1, 300, .inl qz))] := hD
  refine W.widen (k := 7) (n := 495) (Nat.le_of_ble_eq_true rfl) (Nat.le_of_ble_eq_true rfl) ?_
  refine va_putF (D := E.1) (ci := 1) (v := .ref q7) (ty := .array .int) (C := RX1) (T := TX1) (N := 11) hx hb hts hinX1 tyX1 tyX1_ok nmX1 hown hK.1 hP hD hS 0 rfl rfl 9 (by decide) hw13 (fun _ h9 => h9) rfl hin rfl (by decide +kernel) rfl rfl (Nat.le_of_ble_eq_true rfl) dX1_init_70 (fun H locs hP hD hS => ?_)
  have hP : va_P E.1 vwCl [(a0, .inr (1, [.int 0, .int 0, .int 0, .ref q1, .ref q2, .ref q3, .ref q4, .ref q5, .ref q6, .ref q7, .null])), (q1, .inl (E.2.1, 5, .inl qz)), (q2, .inl (E.2.1, 5, .inl qz)), (q3, .inl (E.2.1, 5, .inl qz)), (q4, .inl (E.2.1, 60, .inl qz)), (q5, .inl (E.2.1, 60, .inl qz)), (q6, .inl (E.2.1, 60, .inl qz)), (q7, .inl (E.2.1, 300, .inl qz))] H := hP
  have hD : va_D A [(a0, .inr (1, [.int 0, .int 0, .int 0, .ref q1, .ref q2, .ref q3, .ref q4, .ref q5, .ref q6, .ref q7, .null])), (q1, .inl (E.2.1, 5, .inl qz)), (q2, .inl (E.2.1, 5, .inl qz)), (q3, .inl (E.2.1, 5, .inl qz)), (q4, .inl (E.2.1, 60, .inl qz)), (q5, .inl (E.2.1, 60, .inl qz)), (q6, .inl (E.2.1, 60, .inl qz)), (q7, .inl (E.2.1, 300, .inl qz))] := hD
  refine lv_aload_n hx hb dX1_init_73 rfl (lv_at hl 0 rfl) ?_
  refine lv_sipush (v := 300) hx hb dX1_init_74 (by decide) ?_
  refine q_newi hx hb hw6 hK hP hD hS hA 300 (by decide) (by decide) (by decide) (Nat.le_of_ble_eq_true rfl) (Nat.le_of_ble_eq_true rfl) dX1_init_77 (fun q8 H hP hD hS => ?_)
  have hP : va_P E.1 vwCl [(a0, .inr (1, [.int 0, .int 0, .int 0, .ref q1, .ref q2, .ref q3, .ref q4, .ref q5, .ref q6, .ref q7, .null])), (q1, .inl (E.2.1, 5, .inl qz)), (q2, .inl (E.2.1, 5, .inl qz)), (q3, .inl (E.2.1, 5, .inl qz)), (q4, .inl (E.2.1, 60, .inl qz)), (q5, .inl (E.2.1, 60, .inl qz)), (q6, .inl (E.2.1, 60, .inl qz)), (q7, .inl (E.2.1, 300, .inl qz)), (q8, .inl (E.2.1, 300, .inl qz))] H := hP
  have hD : va_D A [(a0, .inr (1, [.int 0, .int 0, .int 0, .ref q1, .ref q2, .ref q3, .ref q4, .ref q5, .ref q6, .ref q7, .null])), (q1, .inl (E.2.1, 5, .inl qz)), (q2, .inl (E.2.1, 5, .inl qz)), (q3, .inl (E.2.1, 5, .inl qz)), (q4, .inl (E.2.1, 60, .inl qz)), (q5, .inl (E.2.1, 60, .inl qz)), (q6, .inl (E.2.1, 60, .inl qz)), (q7, .inl (E.2.1, 300, .inl qz)), (q8, .inl (E.2.1, 300, .inl qz))] := hD
  refine W.widen (k := 8) (n := 795) (Nat.le_of_ble_eq_true rfl) (Nat.le_of_ble_eq_true rfl) ?_
  refine va_putF (D := E.1) (ci := 1) (v := .ref q8) (ty := .array .int) (C := RX1) (T := TX1) (N := 11) hx hb hts hinX1 tyX1 tyX1_ok nmX1 hown hK.1 hP hD hS 0 rfl rfl 10 (by decide) hw14 (fun _ h9 => h9) rfl hin rfl (by decide +kernel) rfl rfl (Nat.le_of_ble_eq_true rfl) dX1_init_79 (fun H locs hP hD hS => ?_)
  have hP : va_P E.1 vwCl [(a0, .inr (1, [.int 0, .int 0, .int 0, .ref q1, .ref q2, .ref q3, .ref q4, .ref q5, .ref q6, .ref q7, .ref q8])), (q1, .inl (E.2.1, 5, .inl qz)), (q2, .inl (E.2.1, 5, .inl qz)), (q3, .inl (E.2.1, 5, .inl qz)), (q4, .inl (E.2.1, 60, .inl qz)), (q5, .inl (E.2.1, 60, .inl qz)), (q6, .inl (E.2.1, 60, .inl qz)), (q7, .inl (E.2.1, 300, .inl qz)), (q8, .inl (E.2.1, 300, .inl qz))] H := hP
  have hD : va_D A [(a0, .inr (1, [.int 0, .int 0, .int 0, .ref q1, .ref q2, .ref q3, .ref q4, .ref q5, .ref q6, .ref q7, .ref q8])), (q1, .inl (E.2.1, 5, .inl qz)), (q2, .inl (E.2.1, 5, .inl qz)), (q3, .inl (E.2.1, 5, .inl qz)), (q4, .inl (E.2.1, 60, .inl qz)), (q5, .inl (E.2.1, 60, .inl qz)), (q6, .inl (E.2.1, 60, .inl qz)), (q7, .inl (E.2.1, 300, .inl qz)), (q8, .inl (E.2.1, 300, .inl qz))] := hD
  refine lv_aload_n hx hb dX1_init_82 rfl (lv_at hl 0 rfl) ?_
  refine va_get (D := E.1) (ci := 1) (v := .ref q7) (C := RX1) (T := TX1) (N := 11) hx hb hts hinX1 hown hK.1 hP 0 rfl rfl 9 (by decide) hw13 (fun _ h9 => h9) rfl dX1_init_83 ?_
  refine lv_iconst (v := (-1)) hx hb dX1_init_86 (by decide) ?_
  have pmf : ([(a0, .inr (1, [.int 0, .int 0, .int 0, .ref q1, .ref q2, .ref q3, .ref q4, .ref q5, .ref q6, .ref q7, .ref q8])), (q1, .inl (E.2.1, 5, .inl qz)), (q2, .inl (E.2.1, 5, .inl qz)), (q3, .inl (E.2.1, 5, .inl qz)), (q4, .inl (E.2.1, 60, .inl qz)), (q5, .inl (E.2.1, 60, .inl qz)), (q6, .inl (E.2.1, 60, .inl qz)), (q7, .inl (E.2.1, 300, .inl qz)), (q8, .inl (E.2.1, 300, .inl qz))] : va_W).Perm (WY E q7 qz ++ ([(a0, .inr (1, [.int 0, .int 0, .int 0, .ref q1, .ref q2, .ref q3, .ref q4, .ref q5, .ref q6, .ref q7, .ref q8])), (q1, .inl (E.2.1, 5, .inl qz)), (q2, .inl (E.2.1, 5, .inl qz)), (q3, .inl (E.2.1, 5, .inl qz)), (q4, .inl (E.2.1, 60, .inl qz)), (q5, .inl (E.2.1, 60, .inl qz)), (q6, .inl (E.2.1, 60, .inl qz)), (q8, .inl (E.2.1, 300, .inl qz))] : va_W)) := List.perm_middle (l₁ := ([(a0, .inr (1, [.int 0, .int 0, .int 0, .ref q1, .ref q2, .ref q3, .ref q4, .ref q5, .ref q6, .ref q7, .ref q8])), (q1, .inl (E.2.1, 5, .inl qz)), (q2, .inl (E.2.1, 5, .inl qz)), (q3, .inl (E.2.1, 5, .inl qz)), (q4, .inl (E.2.1, 60, .inl qz)), (q5, .inl (E.2.1, 60, .inl qz)), (q6, .inl (E.2.1, 60, .inl qz))] : va_W)) (a := ((q7, .inl (E.2.1, 300, .inl qz)) : Nat × va_E)) (l₂ := ([(q8, .inl (E.2.1, 300, .inl qz))] : va_W))
  have pmg : ([(a0, .inr (1, [.int 0, .int 0, .int 0, .ref q1, .ref q2, .ref q3, .ref q4, .ref q5, .ref q6, .ref q7, .ref q8])), (q1, .inl (E.2.1, 5, .inl qz)), (q2, .inl (E.2.1, 5, .inl qz)), (q3, .inl (E.2.1, 5, .inl qz)), (q4, .inl (E.2.1, 60, .inl qz)), (q5, .inl (E.2.1, 60, .inl qz)), (q6, .inl (E.2.1, 60, .inl qz)), (q7, .inl (E.2.1, 300, .inl o)), (q8, .inl (E.2.1, 300, .inl qz))] : va_W).Perm (WY E q7 o ++ ([(a0, .inr (1, [.int 0, .int 0, .int 0, .ref q1, .ref q2, .ref q3, .ref q4, .ref q5, .ref q6, .ref q7, .ref q8])), (q1, .inl (E.2.1, 5, .inl qz)), (q2, .inl (E.2.1, 5, .inl qz)), (q3, .inl (E.2.1, 5, .inl qz)), (q4, .inl (E.2.1, 60, .inl qz)), (q5, .inl (E.2.1, 60, .inl qz)), (q6, .inl (E.2.1, 60, .inl qz)), (q8, .inl (E.2.1, 300, .inl qz))] : va_W)) := List.perm_middle (l₁ := ([(a0, .inr (1, [.int 0, .int 0, .int 0, .ref q1, .ref q2, .ref q3, .ref q4, .ref q5, .ref q6, .ref q7, .ref q8])), (q1, .inl (E.2.1, 5, .inl qz)), (q2, .inl (E.2.1, 5, .inl qz)), (q3, .inl (E.2.1, 5, .inl qz)), (q4, .inl (E.2.1, 60, .inl qz)), (q5, .inl (E.2.1, 60, .inl qz)), (q6, .inl (E.2.1, 60, .inl qz))] : va_W)) (a := ((q7, .inl (E.2.1, 300, .inl o)) : Nat × va_E)) (l₂ := ([(q8, .inl (E.2.1, 300, .inl qz))] : va_W))
  refine q_cv (va_runS (As := [.ref q7, .int (-1)]) (rest := []) ⟨hx, hb, hml, hown, hts⟩ (wJ7_fill_53178 l E q7 qz (-1) o hf _) (va_cwS 2 hts gX1_init_J7_fill_53178 rfl rfl rfl (by decide +kernel) ⟨Nat.le_of_ble_eq_true rfl, Nat.le_of_ble_eq_true rfl⟩) (q_preS hK hP hD pmf) rfl rfl hl.1 rfl (lv_room (Nat.le_of_ble_eq_true rfl)) dX1_init_87 ⟨Nat.le_of_ble_eq_true rfl, Nat.le_of_ble_eq_true rfl⟩) hP hD hS hA pmf pmg.symm (fun H locs hP hD hS => ?_)
  have hP : va_P E.1 vwCl [(a0, .inr (1, [.int 0, .int 0, .int 0, .ref q1, .ref q2, .ref q3, .ref q4, .ref q5, .ref q6, .ref q7, .ref q8])), (q1, .inl (E.2.1, 5, .inl qz)), (q2, .inl (E.2.1, 5, .inl qz)), (q3, .inl (E.2.1, 5, .inl qz)), (q4, .inl (E.2.1, 60, .inl qz)), (q5, .inl (E.2.1, 60, .inl qz)), (q6, .inl (E.2.1, 60, .inl qz)), (q7, .inl (E.2.1, 300, .inl o)), (q8, .inl (E.2.1, 300, .inl qz))] H := hP
  have hD : va_D A [(a0, .inr (1, [.int 0, .int 0, .int 0, .ref q1, .ref q2, .ref q3, .ref q4, .ref q5, .ref q6, .ref q7, .ref q8])), (q1, .inl (E.2.1, 5, .inl qz)), (q2, .inl (E.2.1, 5, .inl qz)), (q3, .inl (E.2.1, 5, .inl qz)), (q4, .inl (E.2.1, 60, .inl qz)), (q5, .inl (E.2.1, 60, .inl qz)), (q6, .inl (E.2.1, 60, .inl qz)), (q7, .inl (E.2.1, 300, .inl o)), (q8, .inl (E.2.1, 300, .inl qz))] := hD
  exact hRt (qAd [a0, q1, q2, q3, q4, q5, q6, q7, q8]) 90 _ _ _ rfl dX1_init_90 hP hD hS
def rmX3_init : Room := { frames := 1, cells := 3, slots := 900, locals := 20 }
set_option maxHeartbeats 8000000 in
set_option maxRecDepth 100000 in
theorem wX3_init (l : Launch) (E : qE) (a0 : Nat) : MCt l E yX3_init wsX3_init rmX3_init [.ref a0] [(a0, .inr (3, [.null, .null, .null]))] (fun u : Nat → Nat => u 0 = a0) (fun u => WT E u (qz, qz, qz)) 3 900 := by
  refine q_startC (cc := cX3_init) (maxL := 1) (by decide) rfl rfl (Nat.le_of_ble_eq_true rfl) ?_
  intro pr e s m args below meth c A Q hx hb hml hown hts hK hin hRt hP hD hA hS ls hl
  have hl : lv_has ls 1 [(0, .ref a0)] := hl
  have hinX3 : ∀ w ∈ wsX30, w ∈ wsX3_init := by decide +kernel
  have hw0 := hts (.methodLink RX3 3 objectInit) (by decide +kernel)
  have hw1 := hts (.instanceMethod objectInit) (by decide +kernel)
  have hw2 := hts (.code objectInit ⟨#[0xb1]⟩ 1 none) (by decide +kernel)
  have hw3 := hts (.arrayClass .boolean) (by decide +kernel)
  have hw4 := hts (.fieldLink RX3 9 "QueueReader$Tracks" "isSeen" "[Z") (by decide +kernel)
  have hw5 := hts (.arrayClass .int) (by decide +kernel)
  have hw6 := hts (.fieldLink RX3 15 "QueueReader$Tracks" "begun" "[I") (by decide +kernel)
  have hw7 := hts (.fieldLink RX3 19 "QueueReader$Tracks" "done" "[I") (by decide +kernel)
  refine lv_aload_n hx hb dX3_init_0 rfl (lv_at hl 0 rfl) ?_
  refine W.objInit hx hb hown hw0 hw1 hw2 rfl (by rw [hml]; exact hl.1) rfl dX3_init_1 (Nat.le_of_ble_eq_true rfl) (Nat.le_of_ble_eq_true rfl) ?_
  refine W.eq (g2 := F0 m 4 ls []) rfl ?_
  refine lv_aload_n hx hb dX3_init_4 rfl (lv_at hl 0 rfl) ?_
  refine lv_sipush (v := 300) hx hb dX3_init_5 (by decide) ?_
  refine q_newz hx hb hw3 hK hP hD hS hA 300 (by decide) (by decide) (by decide) (Nat.le_of_ble_eq_true rfl) (Nat.le_of_ble_eq_true rfl) dX3_init_8 (fun q1 H hP hD hS => ?_)
  have hP : va_P E.1 vwCl [(a0, .inr (3, [.null, .null, .null])), (q1, .inl (E.2.2.2, 300, .inl qz))] H := hP
  have hD : va_D A [(a0, .inr (3, [.null, .null, .null])), (q1, .inl (E.2.2.2, 300, .inl qz))] := hD
  refine W.widen (k := 1) (n := 300) (Nat.le_of_ble_eq_true rfl) (Nat.le_of_ble_eq_true rfl) ?_
  refine va_putF (D := E.1) (ci := 3) (v := .ref q1) (ty := .array .boolean) (C := RX3) (T := TX3) (N := 3) hx hb hts hinX3 tyX3 tyX3_ok nmX3 hown hK.1 hP hD hS 0 rfl rfl 0 (by decide) hw4 (fun _ h9 => h9) rfl hin rfl (by decide +kernel) rfl rfl (Nat.le_of_ble_eq_true rfl) dX3_init_10 (fun H locs hP hD hS => ?_)
  have hP : va_P E.1 vwCl [(a0, .inr (3, [.ref q1, .null, .null])), (q1, .inl (E.2.2.2, 300, .inl qz))] H := hP
  have hD : va_D A [(a0, .inr (3, [.ref q1, .null, .null])), (q1, .inl (E.2.2.2, 300, .inl qz))] := hD
  refine lv_aload_n hx hb dX3_init_13 rfl (lv_at hl 0 rfl) ?_
  refine lv_sipush (v := 300) hx hb dX3_init_14 (by decide) ?_
  refine q_newi hx hb hw5 hK hP hD hS hA 300 (by decide) (by decide) (by decide) (Nat.le_of_ble_eq_true rfl) (Nat.le_of_ble_eq_true rfl) dX3_init_17 (fun q2 H hP hD hS => ?_)
  have hP : va_P E.1 vwCl [(a0, .inr (3, [.ref q1, .null, .null])), (q1, .inl (E.2.2.2, 300, .inl qz)), (q2, .inl (E.2.1, 300, .inl qz))] H := hP
  have hD : va_D A [(a0, .inr (3, [.ref q1, .null, .null])), (q1, .inl (E.2.2.2, 300, .inl qz)), (q2, .inl (E.2.1, 300, .inl qz))] := hD
  refine W.widen (k := 2) (n := 600) (Nat.le_of_ble_eq_true rfl) (Nat.le_of_ble_eq_true rfl) ?_
  refine va_putF (D := E.1) (ci := 3) (v := .ref q2) (ty := .array .int) (C := RX3) (T := TX3) (N := 3) hx hb hts hinX3 tyX3 tyX3_ok nmX3 hown hK.1 hP hD hS 0 rfl rfl 1 (by decide) hw6 (fun _ h9 => h9) rfl hin rfl (by decide +kernel) rfl rfl (Nat.le_of_ble_eq_true rfl) dX3_init_19 (fun H locs hP hD hS => ?_)
  have hP : va_P E.1 vwCl [(a0, .inr (3, [.ref q1, .ref q2, .null])), (q1, .inl (E.2.2.2, 300, .inl qz)), (q2, .inl (E.2.1, 300, .inl qz))] H := hP
  have hD : va_D A [(a0, .inr (3, [.ref q1, .ref q2, .null])), (q1, .inl (E.2.2.2, 300, .inl qz)), (q2, .inl (E.2.1, 300, .inl qz))] := hD
  refine lv_aload_n hx hb dX3_init_22 rfl (lv_at hl 0 rfl) ?_
  refine lv_sipush (v := 300) hx hb dX3_init_23 (by decide) ?_
  refine q_newi hx hb hw5 hK hP hD hS hA 300 (by decide) (by decide) (by decide) (Nat.le_of_ble_eq_true rfl) (Nat.le_of_ble_eq_true rfl) dX3_init_26 (fun q3 H hP hD hS => ?_)
  have hP : va_P E.1 vwCl [(a0, .inr (3, [.ref q1, .ref q2, .null])), (q1, .inl (E.2.2.2, 300, .inl qz)), (q2, .inl (E.2.1, 300, .inl qz)), (q3, .inl (E.2.1, 300, .inl qz))] H := hP
  have hD : va_D A [(a0, .inr (3, [.ref q1, .ref q2, .null])), (q1, .inl (E.2.2.2, 300, .inl qz)), (q2, .inl (E.2.1, 300, .inl qz)), (q3, .inl (E.2.1, 300, .inl qz))] := hD
  refine W.widen (k := 3) (n := 900) (Nat.le_of_ble_eq_true rfl) (Nat.le_of_ble_eq_true rfl) ?_
  refine va_putF (D := E.1) (ci := 3) (v := .ref q3) (ty := .array .int) (C := RX3) (T := TX3) (N := 3) hx hb hts hinX3 tyX3 tyX3_ok nmX3 hown hK.1 hP hD hS 0 rfl rfl 2 (by decide) hw7 (fun _ h9 => h9) rfl hin rfl (by decide +kernel) rfl rfl (Nat.le_of_ble_eq_true rfl) dX3_init_28 (fun H locs hP hD hS => ?_)
  have hP : va_P E.1 vwCl [(a0, .inr (3, [.ref q1, .ref q2, .ref q3])), (q1, .inl (E.2.2.2, 300, .inl qz)), (q2, .inl (E.2.1, 300, .inl qz)), (q3, .inl (E.2.1, 300, .inl qz))] H := hP
  have hD : va_D A [(a0, .inr (3, [.ref q1, .ref q2, .ref q3])), (q1, .inl (E.2.2.2, 300, .inl qz)), (q2, .inl (E.2.1, 300, .inl qz)), (q3, .inl (E.2.1, 300, .inl qz))] := hD
  exact hRt (qAd [a0, q1, q2, q3]) 31 _ _ _ rfl dX3_init_31 hP hD hS
def rmX0_init : Room := { frames := 1, cells := 5, slots := 1500, locals := 20 }
set_option maxHeartbeats 8000000 in
set_option maxRecDepth 100000 in
theorem wX0_init (l : Launch) (E : qE) (a0 : Nat) : MCt l E yX0_init wsX0_init rmX0_init [.ref a0] [(a0, .inr (0, [.int 0, .int 0, .null, .null, .null, .null, .null]))] (fun u : Nat → Nat => u 0 = a0) (fun u => WF E u (0, 0, qz, qz, qz, qz, qzJ)) 5 1500 := by
  refine q_startC (cc := cX0_init) (maxL := 1) (by decide) rfl rfl (Nat.le_of_ble_eq_true rfl) ?_
  intro pr e s m args below meth c A Q hx hb hml hown hts hK hin hRt hP hD hA hS ls hl
  have hl : lv_has ls 1 [(0, .ref a0)] := hl
  have hinX0 : ∀ w ∈ wsX00, w ∈ wsX0_init := by decide +kernel
  have hw0 := hts (.methodLink RX0 3 objectInit) (by decide +kernel)
  have hw1 := hts (.instanceMethod objectInit) (by decide +kernel)
  have hw2 := hts (.code objectInit ⟨#[0xb1]⟩ 1 none) (by decide +kernel)
  have hw3 := hts (.fieldLink RX0 9 "QueueReader$Fit" "size" "I") (by decide +kernel)
  have hw4 := hts (.fieldLink RX0 15 "QueueReader$Fit" "isWhole" "Z") (by decide +kernel)
  have hw5 := hts (.arrayClass .int) (by decide +kernel)
  have hw6 := hts (.fieldLink RX0 19 "QueueReader$Fit" "came" "[I") (by decide +kernel)
  have hw7 := hts (.fieldLink RX0 23 "QueueReader$Fit" "begun" "[I") (by decide +kernel)
  have hw8 := hts (.fieldLink RX0 26 "QueueReader$Fit" "done" "[I") (by decide +kernel)
  have hw9 := hts (.fieldLink RX0 29 "QueueReader$Fit" "kinds" "[I") (by decide +kernel)
  have hw10 := hts (.arrayClass .long) (by decide +kernel)
  have hw11 := hts (.fieldLink RX0 32 "QueueReader$Fit" "ranks" "[J") (by decide +kernel)
  refine lv_aload_n hx hb dX0_init_0 rfl (lv_at hl 0 rfl) ?_
  refine W.objInit hx hb hown hw0 hw1 hw2 rfl (by rw [hml]; exact hl.1) rfl dX0_init_1 (Nat.le_of_ble_eq_true rfl) (Nat.le_of_ble_eq_true rfl) ?_
  refine W.eq (g2 := F0 m 4 ls []) rfl ?_
  refine lv_aload_n hx hb dX0_init_4 rfl (lv_at hl 0 rfl) ?_
  refine lv_iconst (v := 0) hx hb dX0_init_5 (by decide) ?_
  refine va_put (D := E.1) (ci := 0) (v := .int 0) (ty := .int) (C := RX0) (T := TX0) (N := 7) hx hb hts hinX0 tyX0 tyX0_ok nmX0 hown hK.1 hP hD hS 0 rfl rfl 0 (by decide) hw3 (fun _ h9 => h9) rfl (by decide +kernel) rfl rfl (Nat.le_of_ble_eq_true rfl) dX0_init_6 (fun H locs hP hD hS => ?_)
  have hP : va_P E.1 vwCl [(a0, .inr (0, [.int 0, .int 0, .null, .null, .null, .null, .null]))] H := hP
  have hD : va_D A [(a0, .inr (0, [.int 0, .int 0, .null, .null, .null, .null, .null]))] := hD
  refine lv_aload_n hx hb dX0_init_9 rfl (lv_at hl 0 rfl) ?_
  refine lv_iconst (v := 0) hx hb dX0_init_10 (by decide) ?_
  refine va_put (D := E.1) (ci := 0) (v := .int 0) (ty := .boolean) (C := RX0) (T := TX0) (N := 7) hx hb hts hinX0 tyX0 tyX0_ok nmX0 hown hK.1 hP hD hS 0 rfl rfl 1 (by decide) hw4 (fun _ h9 => h9) rfl (by decide +kernel) rfl rfl (Nat.le_of_ble_eq_true rfl) dX0_init_11 (fun H locs hP hD hS => ?_)
  have hP : va_P E.1 vwCl [(a0, .inr (0, [.int 0, .int 0, .null, .null, .null, .null, .null]))] H := hP
  have hD : va_D A [(a0, .inr (0, [.int 0, .int 0, .null, .null, .null, .null, .null]))] := hD
  refine lv_aload_n hx hb dX0_init_14 rfl (lv_at hl 0 rfl) ?_
  refine lv_sipush (v := 300) hx hb dX0_init_15 (by decide) ?_
  refine q_newi hx hb hw5 hK hP hD hS hA 300 (by decide) (by decide) (by decide) (Nat.le_of_ble_eq_true rfl) (Nat.le_of_ble_eq_true rfl) dX0_init_18 (fun q1 H hP hD hS => ?_)
  have hP : va_P E.1 vwCl [(a0, .inr (0, [.int 0, .int 0, .null, .null, .null, .null, .null])), (q1, .inl (E.2.1, 300, .inl qz))] H := hP
  have hD : va_D A [(a0, .inr (0, [.int 0, .int 0, .null, .null, .null, .null, .null])), (q1, .inl (E.2.1, 300, .inl qz))] := hD
  refine W.widen (k := 1) (n := 300) (Nat.le_of_ble_eq_true rfl) (Nat.le_of_ble_eq_true rfl) ?_
  refine va_putF (D := E.1) (ci := 0) (v := .ref q1) (ty := .array .int) (C := RX0) (T := TX0) (N := 7) hx hb hts hinX0 tyX0 tyX0_ok nmX0 hown hK.1 hP hD hS 0 rfl rfl 2 (by decide) hw6 (fun _ h9 => h9) rfl hin rfl (by decide +kernel) rfl rfl (Nat.le_of_ble_eq_true rfl) dX0_init_20 (fun H locs hP hD hS => ?_)
  have hP : va_P E.1 vwCl [(a0, .inr (0, [.int 0, .int 0, .ref q1, .null, .null, .null, .null])), (q1, .inl (E.2.1, 300, .inl qz))] H := hP
  have hD : va_D A [(a0, .inr (0, [.int 0, .int 0, .ref q1, .null, .null, .null, .null])), (q1, .inl (E.2.1, 300, .inl qz))] := hD
  refine lv_aload_n hx hb dX0_init_23 rfl (lv_at hl 0 rfl) ?_
  refine lv_sipush (v := 300) hx hb dX0_init_24 (by decide) ?_
  refine q_newi hx hb hw5 hK hP hD hS hA 300 (by decide) (by decide) (by decide) (Nat.le_of_ble_eq_true rfl) (Nat.le_of_ble_eq_true rfl) dX0_init_27 (fun q2 H hP hD hS => ?_)
  have hP : va_P E.1 vwCl [(a0, .inr (0, [.int 0, .int 0, .ref q1, .null, .null, .null, .null])), (q1, .inl (E.2.1, 300, .inl qz)), (q2, .inl (E.2.1, 300, .inl qz))] H := hP
  have hD : va_D A [(a0, .inr (0, [.int 0, .int 0, .ref q1, .null, .null, .null, .null])), (q1, .inl (E.2.1, 300, .inl qz)), (q2, .inl (E.2.1, 300, .inl qz))] := hD
  refine W.widen (k := 2) (n := 600) (Nat.le_of_ble_eq_true rfl) (Nat.le_of_ble_eq_true rfl) ?_
  refine va_putF (D := E.1) (ci := 0) (v := .ref q2) (ty := .array .int) (C := RX0) (T := TX0) (N := 7) hx hb hts hinX0 tyX0 tyX0_ok nmX0 hown hK.1 hP hD hS 0 rfl rfl 3 (by decide) hw7 (fun _ h9 => h9) rfl hin rfl (by decide +kernel) rfl rfl (Nat.le_of_ble_eq_true rfl) dX0_init_29 (fun H locs hP hD hS => ?_)
  have hP : va_P E.1 vwCl [(a0, .inr (0, [.int 0, .int 0, .ref q1, .ref q2, .null, .null, .null])), (q1, .inl (E.2.1, 300, .inl qz)), (q2, .inl (E.2.1, 300, .inl qz))] H := hP
  have hD : va_D A [(a0, .inr (0, [.int 0, .int 0, .ref q1, .ref q2, .null, .null, .null])), (q1, .inl (E.2.1, 300, .inl qz)), (q2, .inl (E.2.1, 300, .inl qz))] := hD
  refine lv_aload_n hx hb dX0_init_32 rfl (lv_at hl 0 rfl) ?_
  refine lv_sipush (v := 300) hx hb dX0_init_33 (by decide) ?_
  refine q_newi hx hb hw5 hK hP hD hS hA 300 (by decide) (by decide) (by decide) (Nat.le_of_ble_eq_true rfl) (Nat.le_of_ble_eq_true rfl) dX0_init_36 (fun q3 H hP hD hS => ?_)
  have hP : va_P E.1 vwCl [(a0, .inr (0, [.int 0, .int 0, .ref q1, .ref q2, .null, .null, .null])), (q1, .inl (E.2.1, 300, .inl qz)), (q2, .inl (E.2.1, 300, .inl qz)), (q3, .inl (E.2.1, 300, .inl qz))] H := hP
  have hD : va_D A [(a0, .inr (0, [.int 0, .int 0, .ref q1, .ref q2, .null, .null, .null])), (q1, .inl (E.2.1, 300, .inl qz)), (q2, .inl (E.2.1, 300, .inl qz)), (q3, .inl (E.2.1, 300, .inl qz))] := hD
  refine W.widen (k := 3) (n := 900) (Nat.le_of_ble_eq_true rfl) (Nat.le_of_ble_eq_true rfl) ?_
  refine va_putF (D := E.1) (ci := 0) (v := .ref q3) (ty := .array .int) (C := RX0) (T := TX0) (N := 7) hx hb hts hinX0 tyX0 tyX0_ok nmX0 hown hK.1 hP hD hS 0 rfl rfl 4 (by decide) hw8 (fun _ h9 => h9) rfl hin rfl (by decide +kernel) rfl rfl (Nat.le_of_ble_eq_true rfl) dX0_init_38 (fun H locs hP hD hS => ?_)
  have hP : va_P E.1 vwCl [(a0, .inr (0, [.int 0, .int 0, .ref q1, .ref q2, .ref q3, .null, .null])), (q1, .inl (E.2.1, 300, .inl qz)), (q2, .inl (E.2.1, 300, .inl qz)), (q3, .inl (E.2.1, 300, .inl qz))] H := hP
  have hD : va_D A [(a0, .inr (0, [.int 0, .int 0, .ref q1, .ref q2, .ref q3, .null, .null])), (q1, .inl (E.2.1, 300, .inl qz)), (q2, .inl (E.2.1, 300, .inl qz)), (q3, .inl (E.2.1, 300, .inl qz))] := hD
  refine lv_aload_n hx hb dX0_init_41 rfl (lv_at hl 0 rfl) ?_
  refine lv_sipush (v := 300) hx hb dX0_init_42 (by decide) ?_
  refine q_newi hx hb hw5 hK hP hD hS hA 300 (by decide) (by decide) (by decide) (Nat.le_of_ble_eq_true rfl) (Nat.le_of_ble_eq_true rfl) dX0_init_45 (fun q4 H hP hD hS => ?_)
  have hP : va_P E.1 vwCl [(a0, .inr (0, [.int 0, .int 0, .ref q1, .ref q2, .ref q3, .null, .null])), (q1, .inl (E.2.1, 300, .inl qz)), (q2, .inl (E.2.1, 300, .inl qz)), (q3, .inl (E.2.1, 300, .inl qz)), (q4, .inl (E.2.1, 300, .inl qz))] H := hP
  have hD : va_D A [(a0, .inr (0, [.int 0, .int 0, .ref q1, .ref q2, .ref q3, .null, .null])), (q1, .inl (E.2.1, 300, .inl qz)), (q2, .inl (E.2.1, 300, .inl qz)), (q3, .inl (E.2.1, 300, .inl qz)), (q4, .inl (E.2.1, 300, .inl qz))] := hD
  refine W.widen (k := 4) (n := 1200) (Nat.le_of_ble_eq_true rfl) (Nat.le_of_ble_eq_true rfl) ?_
  refine va_putF (D := E.1) (ci := 0) (v := .ref q4) (ty := .array .int) (C := RX0) (T := TX0) (N := 7) hx hb hts hinX0 tyX0 tyX0_ok nmX0 hown hK.1 hP hD hS 0 rfl rfl 5 (by decide) hw9 (fun _ h9 => h9) rfl hin rfl (by decide +kernel) rfl rfl (Nat.le_of_ble_eq_true rfl) dX0_init_47 (fun H locs hP hD hS => ?_)
  have hP : va_P E.1 vwCl [(a0, .inr (0, [.int 0, .int 0, .ref q1, .ref q2, .ref q3, .ref q4, .null])), (q1, .inl (E.2.1, 300, .inl qz)), (q2, .inl (E.2.1, 300, .inl qz)), (q3, .inl (E.2.1, 300, .inl qz)), (q4, .inl (E.2.1, 300, .inl qz))] H := hP
  have hD : va_D A [(a0, .inr (0, [.int 0, .int 0, .ref q1, .ref q2, .ref q3, .ref q4, .null])), (q1, .inl (E.2.1, 300, .inl qz)), (q2, .inl (E.2.1, 300, .inl qz)), (q3, .inl (E.2.1, 300, .inl qz)), (q4, .inl (E.2.1, 300, .inl qz))] := hD
  refine lv_aload_n hx hb dX0_init_50 rfl (lv_at hl 0 rfl) ?_
  refine lv_sipush (v := 300) hx hb dX0_init_51 (by decide) ?_
  refine q_newl hx hb hw10 hK hP hD hS hA 300 (by decide) (by decide) (by decide) (Nat.le_of_ble_eq_true rfl) (Nat.le_of_ble_eq_true rfl) dX0_init_54 (fun q5 H hP hD hS => ?_)
  have hP : va_P E.1 vwCl [(a0, .inr (0, [.int 0, .int 0, .ref q1, .ref q2, .ref q3, .ref q4, .null])), (q1, .inl (E.2.1, 300, .inl qz)), (q2, .inl (E.2.1, 300, .inl qz)), (q3, .inl (E.2.1, 300, .inl qz)), (q4, .inl (E.2.1, 300, .inl qz)), (q5, .inl (E.2.2.1, 300, .inr (.inl qzJ)))] H := hP
  have hD : va_D A [(a0, .inr (0, [.int 0, .int 0, .ref q1, .ref q2, .ref q3, .ref q4, .null])), (q1, .inl (E.2.1, 300, .inl qz)), (q2, .inl (E.2.1, 300, .inl qz)), (q3, .inl (E.2.1, 300, .inl qz)), (q4, .inl (E.2.1, 300, .inl qz)), (q5, .inl (E.2.2.1, 300, .inr (.inl qzJ)))] := hD
  refine W.widen (k := 5) (n := 1500) (Nat.le_of_ble_eq_true rfl) (Nat.le_of_ble_eq_true rfl) ?_
  refine va_putF (D := E.1) (ci := 0) (v := .ref q5) (ty := .array .long) (C := RX0) (T := TX0) (N := 7) hx hb hts hinX0 tyX0 tyX0_ok nmX0 hown hK.1 hP hD hS 0 rfl rfl 6 (by decide) hw11 (fun _ h9 => h9) rfl hin rfl (by decide +kernel) rfl rfl (Nat.le_of_ble_eq_true rfl) dX0_init_56 (fun H locs hP hD hS => ?_)
  have hP : va_P E.1 vwCl [(a0, .inr (0, [.int 0, .int 0, .ref q1, .ref q2, .ref q3, .ref q4, .ref q5])), (q1, .inl (E.2.1, 300, .inl qz)), (q2, .inl (E.2.1, 300, .inl qz)), (q3, .inl (E.2.1, 300, .inl qz)), (q4, .inl (E.2.1, 300, .inl qz)), (q5, .inl (E.2.2.1, 300, .inr (.inl qzJ)))] H := hP
  have hD : va_D A [(a0, .inr (0, [.int 0, .int 0, .ref q1, .ref q2, .ref q3, .ref q4, .ref q5])), (q1, .inl (E.2.1, 300, .inl qz)), (q2, .inl (E.2.1, 300, .inl qz)), (q3, .inl (E.2.1, 300, .inl qz)), (q4, .inl (E.2.1, 300, .inl qz)), (q5, .inl (E.2.2.1, 300, .inr (.inl qzJ)))] := hD
  exact hRt (qAd [a0, q1, q2, q3, q4, q5]) 59 _ _ _ rfl dX0_init_59 hP hD hS
def rmX2_init : Room := { frames := 1, cells := 8, slots := 1090, locals := 20 }
set_option maxHeartbeats 8000000 in
set_option maxRecDepth 100000 in
theorem wX2_init (l : Launch) (E : qE) (a0 : Nat) : MCt l E yX2_init wsX2_init rmX2_init [.ref a0] [(a0, .inr (2, [.null, .null, .null, .null, .null, .null, .null, .null]))] (fun u : Nat → Nat => u 0 = a0) (fun u => WP E u (qz, qz, qz, qz, qz, qz, qz, qz)) 8 1090 := by
  refine q_startC (cc := cX2_init) (maxL := 1) (by decide) rfl rfl (Nat.le_of_ble_eq_true rfl) ?_
  intro pr e s m args below meth c A Q hx hb hml hown hts hK hin hRt hP hD hA hS ls hl
  have hl : lv_has ls 1 [(0, .ref a0)] := hl
  have hinX2 : ∀ w ∈ wsX20, w ∈ wsX2_init := by decide +kernel
  have hw0 := hts (.methodLink RX2 3 objectInit) (by decide +kernel)
  have hw1 := hts (.instanceMethod objectInit) (by decide +kernel)
  have hw2 := hts (.code objectInit ⟨#[0xb1]⟩ 1 none) (by decide +kernel)
  have hw3 := hts (.arrayClass .int) (by decide +kernel)
  have hw4 := hts (.fieldLink RX2 9 "QueueReader$Play" "came" "[I") (by decide +kernel)
  have hw5 := hts (.fieldLink RX2 15 "QueueReader$Play" "begun" "[I") (by decide +kernel)
  have hw6 := hts (.fieldLink RX2 18 "QueueReader$Play" "done" "[I") (by decide +kernel)
  have hw7 := hts (.fieldLink RX2 21 "QueueReader$Play" "states" "[I") (by decide +kernel)
  have hw8 := hts (.fieldLink RX2 24 "QueueReader$Play" "rows" "[I") (by decide +kernel)
  have hw9 := hts (.fieldLink RX2 27 "QueueReader$Play" "dues" "[I") (by decide +kernel)
  have hw10 := hts (.fieldLink RX2 30 "QueueReader$Play" "free" "[I") (by decide +kernel)
  have hw11 := hts (.fieldLink RX2 33 "QueueReader$Play" "waiting" "[I") (by decide +kernel)
  refine lv_aload_n hx hb dX2_init_0 rfl (lv_at hl 0 rfl) ?_
  refine W.objInit hx hb hown hw0 hw1 hw2 rfl (by rw [hml]; exact hl.1) rfl dX2_init_1 (Nat.le_of_ble_eq_true rfl) (Nat.le_of_ble_eq_true rfl) ?_
  refine W.eq (g2 := F0 m 4 ls []) rfl ?_
  refine lv_aload_n hx hb dX2_init_4 rfl (lv_at hl 0 rfl) ?_
  refine lv_sipush (v := 300) hx hb dX2_init_5 (by decide) ?_
  refine q_newi hx hb hw3 hK hP hD hS hA 300 (by decide) (by decide) (by decide) (Nat.le_of_ble_eq_true rfl) (Nat.le_of_ble_eq_true rfl) dX2_init_8 (fun q1 H hP hD hS => ?_)
  have hP : va_P E.1 vwCl [(a0, .inr (2, [.null, .null, .null, .null, .null, .null, .null, .null])), (q1, .inl (E.2.1, 300, .inl qz))] H := hP
  have hD : va_D A [(a0, .inr (2, [.null, .null, .null, .null, .null, .null, .null, .null])), (q1, .inl (E.2.1, 300, .inl qz))] := hD
  refine W.widen (k := 1) (n := 300) (Nat.le_of_ble_eq_true rfl) (Nat.le_of_ble_eq_true rfl) ?_
  refine va_putF (D := E.1) (ci := 2) (v := .ref q1) (ty := .array .int) (C := RX2) (T := TX2) (N := 8) hx hb hts hinX2 tyX2 tyX2_ok nmX2 hown hK.1 hP hD hS 0 rfl rfl 0 (by decide) hw4 (fun _ h9 => h9) rfl hin rfl (by decide +kernel) rfl rfl (Nat.le_of_ble_eq_true rfl) dX2_init_10 (fun H locs hP hD hS => ?_)
  have hP : va_P E.1 vwCl [(a0, .inr (2, [.ref q1, .null, .null, .null, .null, .null, .null, .null])), (q1, .inl (E.2.1, 300, .inl qz))] H := hP
  have hD : va_D A [(a0, .inr (2, [.ref q1, .null, .null, .null, .null, .null, .null, .null])), (q1, .inl (E.2.1, 300, .inl qz))] := hD
  refine lv_aload_n hx hb dX2_init_13 rfl (lv_at hl 0 rfl) ?_
  refine lv_sipush (v := 300) hx hb dX2_init_14 (by decide) ?_
  refine q_newi hx hb hw3 hK hP hD hS hA 300 (by decide) (by decide) (by decide) (Nat.le_of_ble_eq_true rfl) (Nat.le_of_ble_eq_true rfl) dX2_init_17 (fun q2 H hP hD hS => ?_)
  have hP : va_P E.1 vwCl [(a0, .inr (2, [.ref q1, .null, .null, .null, .null, .null, .null, .null])), (q1, .inl (E.2.1, 300, .inl qz)), (q2, .inl (E.2.1, 300, .inl qz))] H := hP
  have hD : va_D A [(a0, .inr (2, [.ref q1, .null, .null, .null, .null, .null, .null, .null])), (q1, .inl (E.2.1, 300, .inl qz)), (q2, .inl (E.2.1, 300, .inl qz))] := hD
  refine W.widen (k := 2) (n := 600) (Nat.le_of_ble_eq_true rfl) (Nat.le_of_ble_eq_true rfl) ?_
  refine va_putF (D := E.1) (ci := 2) (v := .ref q2) (ty := .array .int) (C := RX2) (T := TX2) (N := 8) hx hb hts hinX2 tyX2 tyX2_ok nmX2 hown hK.1 hP hD hS 0 rfl rfl 1 (by decide) hw5 (fun _ h9 => h9) rfl hin rfl (by decide +kernel) rfl rfl (Nat.le_of_ble_eq_true rfl) dX2_init_19 (fun H locs hP hD hS => ?_)
  have hP : va_P E.1 vwCl [(a0, .inr (2, [.ref q1, .ref q2, .null, .null, .null, .null, .null, .null])), (q1, .inl (E.2.1, 300, .inl qz)), (q2, .inl (E.2.1, 300, .inl qz))] H := hP
  have hD : va_D A [(a0, .inr (2, [.ref q1, .ref q2, .null, .null, .null, .null, .null, .null])), (q1, .inl (E.2.1, 300, .inl qz)), (q2, .inl (E.2.1, 300, .inl qz))] := hD
  refine lv_aload_n hx hb dX2_init_22 rfl (lv_at hl 0 rfl) ?_
  refine lv_sipush (v := 300) hx hb dX2_init_23 (by decide) ?_
  refine q_newi hx hb hw3 hK hP hD hS hA 300 (by decide) (by decide) (by decide) (Nat.le_of_ble_eq_true rfl) (Nat.le_of_ble_eq_true rfl) dX2_init_26 (fun q3 H hP hD hS => ?_)
  have hP : va_P E.1 vwCl [(a0, .inr (2, [.ref q1, .ref q2, .null, .null, .null, .null, .null, .null])), (q1, .inl (E.2.1, 300, .inl qz)), (q2, .inl (E.2.1, 300, .inl qz)), (q3, .inl (E.2.1, 300, .inl qz))] H := hP
  have hD : va_D A [(a0, .inr (2, [.ref q1, .ref q2, .null, .null, .null, .null, .null, .null])), (q1, .inl (E.2.1, 300, .inl qz)), (q2, .inl (E.2.1, 300, .inl qz)), (q3, .inl (E.2.1, 300, .inl qz))] := hD
  refine W.widen (k := 3) (n := 900) (Nat.le_of_ble_eq_true rfl) (Nat.le_of_ble_eq_true rfl) ?_
  refine va_putF (D := E.1) (ci := 2) (v := .ref q3) (ty := .array .int) (C := RX2) (T := TX2) (N := 8) hx hb hts hinX2 tyX2 tyX2_ok nmX2 hown hK.1 hP hD hS 0 rfl rfl 2 (by decide) hw6 (fun _ h9 => h9) rfl hin rfl (by decide +kernel) rfl rfl (Nat.le_of_ble_eq_true rfl) dX2_init_28 (fun H locs hP hD hS => ?_)
  have hP : va_P E.1 vwCl [(a0, .inr (2, [.ref q1, .ref q2, .ref q3, .null, .null, .null, .null, .null])), (q1, .inl (E.2.1, 300, .inl qz)), (q2, .inl (E.2.1, 300, .inl qz)), (q3, .inl (E.2.1, 300, .inl qz))] H := hP
  have hD : va_D A [(a0, .inr (2, [.ref q1, .ref q2, .ref q3, .null, .null, .null, .null, .null])), (q1, .inl (E.2.1, 300, .inl qz)), (q2, .inl (E.2.1, 300, .inl qz)), (q3, .inl (E.2.1, 300, .inl qz))] := hD
  refine lv_aload_n hx hb dX2_init_31 rfl (lv_at hl 0 rfl) ?_
  refine lv_bipush (v := 60) hx hb dX2_init_32 (by decide) ?_
  refine q_newi hx hb hw3 hK hP hD hS hA 60 (by decide) (by decide) (by decide) (Nat.le_of_ble_eq_true rfl) (Nat.le_of_ble_eq_true rfl) dX2_init_34 (fun q4 H hP hD hS => ?_)
  have hP : va_P E.1 vwCl [(a0, .inr (2, [.ref q1, .ref q2, .ref q3, .null, .null, .null, .null, .null])), (q1, .inl (E.2.1, 300, .inl qz)), (q2, .inl (E.2.1, 300, .inl qz)), (q3, .inl (E.2.1, 300, .inl qz)), (q4, .inl (E.2.1, 60, .inl qz))] H := hP
  have hD : va_D A [(a0, .inr (2, [.ref q1, .ref q2, .ref q3, .null, .null, .null, .null, .null])), (q1, .inl (E.2.1, 300, .inl qz)), (q2, .inl (E.2.1, 300, .inl qz)), (q3, .inl (E.2.1, 300, .inl qz)), (q4, .inl (E.2.1, 60, .inl qz))] := hD
  refine W.widen (k := 4) (n := 960) (Nat.le_of_ble_eq_true rfl) (Nat.le_of_ble_eq_true rfl) ?_
  refine va_putF (D := E.1) (ci := 2) (v := .ref q4) (ty := .array .int) (C := RX2) (T := TX2) (N := 8) hx hb hts hinX2 tyX2 tyX2_ok nmX2 hown hK.1 hP hD hS 0 rfl rfl 3 (by decide) hw7 (fun _ h9 => h9) rfl hin rfl (by decide +kernel) rfl rfl (Nat.le_of_ble_eq_true rfl) dX2_init_36 (fun H locs hP hD hS => ?_)
  have hP : va_P E.1 vwCl [(a0, .inr (2, [.ref q1, .ref q2, .ref q3, .ref q4, .null, .null, .null, .null])), (q1, .inl (E.2.1, 300, .inl qz)), (q2, .inl (E.2.1, 300, .inl qz)), (q3, .inl (E.2.1, 300, .inl qz)), (q4, .inl (E.2.1, 60, .inl qz))] H := hP
  have hD : va_D A [(a0, .inr (2, [.ref q1, .ref q2, .ref q3, .ref q4, .null, .null, .null, .null])), (q1, .inl (E.2.1, 300, .inl qz)), (q2, .inl (E.2.1, 300, .inl qz)), (q3, .inl (E.2.1, 300, .inl qz)), (q4, .inl (E.2.1, 60, .inl qz))] := hD
  refine lv_aload_n hx hb dX2_init_39 rfl (lv_at hl 0 rfl) ?_
  refine lv_bipush (v := 60) hx hb dX2_init_40 (by decide) ?_
  refine q_newi hx hb hw3 hK hP hD hS hA 60 (by decide) (by decide) (by decide) (Nat.le_of_ble_eq_true rfl) (Nat.le_of_ble_eq_true rfl) dX2_init_42 (fun q5 H hP hD hS => ?_)
  have hP : va_P E.1 vwCl [(a0, .inr (2, [.ref q1, .ref q2, .ref q3, .ref q4, .null, .null, .null, .null])), (q1, .inl (E.2.1, 300, .inl qz)), (q2, .inl (E.2.1, 300, .inl qz)), (q3, .inl (E.2.1, 300, .inl qz)), (q4, .inl (E.2.1, 60, .inl qz)), (q5, .inl (E.2.1, 60, .inl qz))] H := hP
  have hD : va_D A [(a0, .inr (2, [.ref q1, .ref q2, .ref q3, .ref q4, .null, .null, .null, .null])), (q1, .inl (E.2.1, 300, .inl qz)), (q2, .inl (E.2.1, 300, .inl qz)), (q3, .inl (E.2.1, 300, .inl qz)), (q4, .inl (E.2.1, 60, .inl qz)), (q5, .inl (E.2.1, 60, .inl qz))] := hD
  refine W.widen (k := 5) (n := 1020) (Nat.le_of_ble_eq_true rfl) (Nat.le_of_ble_eq_true rfl) ?_
  refine va_putF (D := E.1) (ci := 2) (v := .ref q5) (ty := .array .int) (C := RX2) (T := TX2) (N := 8) hx hb hts hinX2 tyX2 tyX2_ok nmX2 hown hK.1 hP hD hS 0 rfl rfl 4 (by decide) hw8 (fun _ h9 => h9) rfl hin rfl (by decide +kernel) rfl rfl (Nat.le_of_ble_eq_true rfl) dX2_init_44 (fun H locs hP hD hS => ?_)
  have hP : va_P E.1 vwCl [(a0, .inr (2, [.ref q1, .ref q2, .ref q3, .ref q4, .ref q5, .null, .null, .null])), (q1, .inl (E.2.1, 300, .inl qz)), (q2, .inl (E.2.1, 300, .inl qz)), (q3, .inl (E.2.1, 300, .inl qz)), (q4, .inl (E.2.1, 60, .inl qz)), (q5, .inl (E.2.1, 60, .inl qz))] H := hP
  have hD : va_D A [(a0, .inr (2, [.ref q1, .ref q2, .ref q3, .ref q4, .ref q5, .null, .null, .null])), (q1, .inl (E.2.1, 300, .inl qz)), (q2, .inl (E.2.1, 300, .inl qz)), (q3, .inl (E.2.1, 300, .inl qz)), (q4, .inl (E.2.1, 60, .inl qz)), (q5, .inl (E.2.1, 60, .inl qz))] := hD
  refine lv_aload_n hx hb dX2_init_47 rfl (lv_at hl 0 rfl) ?_
  refine lv_bipush (v := 60) hx hb dX2_init_48 (by decide) ?_
  refine q_newi hx hb hw3 hK hP hD hS hA 60 (by decide) (by decide) (by decide) (Nat.le_of_ble_eq_true rfl) (Nat.le_of_ble_eq_true rfl) dX2_init_50 (fun q6 H hP hD hS => ?_)
  have hP : va_P E.1 vwCl [(a0, .inr (2, [.ref q1, .ref q2, .ref q3, .ref q4, .ref q5, .null, .null, .null])), (q1, .inl (E.2.1, 300, .inl qz)), (q2, .inl (E.2.1, 300, .inl qz)), (q3, .inl (E.2.1, 300, .inl qz)), (q4, .inl (E.2.1, 60, .inl qz)), (q5, .inl (E.2.1, 60, .inl qz)), (q6, .inl (E.2.1, 60, .inl qz))] H := hP
  have hD : va_D A [(a0, .inr (2, [.ref q1, .ref q2, .ref q3, .ref q4, .ref q5, .null, .null, .null])), (q1, .inl (E.2.1, 300, .inl qz)), (q2, .inl (E.2.1, 300, .inl qz)), (q3, .inl (E.2.1, 300, .inl qz)), (q4, .inl (E.2.1, 60, .inl qz)), (q5, .inl (E.2.1, 60, .inl qz)), (q6, .inl (E.2.1, 60, .inl qz))] := hD
  refine W.widen (k := 6) (n := 1080) (Nat.le_of_ble_eq_true rfl) (Nat.le_of_ble_eq_true rfl) ?_
  refine va_putF (D := E.1) (ci := 2) (v := .ref q6) (ty := .array .int) (C := RX2) (T := TX2) (N := 8) hx hb hts hinX2 tyX2 tyX2_ok nmX2 hown hK.1 hP hD hS 0 rfl rfl 5 (by decide) hw9 (fun _ h9 => h9) rfl hin rfl (by decide +kernel) rfl rfl (Nat.le_of_ble_eq_true rfl) dX2_init_52 (fun H locs hP hD hS => ?_)
  have hP : va_P E.1 vwCl [(a0, .inr (2, [.ref q1, .ref q2, .ref q3, .ref q4, .ref q5, .ref q6, .null, .null])), (q1, .inl (E.2.1, 300, .inl qz)), (q2, .inl (E.2.1, 300, .inl qz)), (q3, .inl (E.2.1, 300, .inl qz)), (q4, .inl (E.2.1, 60, .inl qz)), (q5, .inl (E.2.1, 60, .inl qz)), (q6, .inl (E.2.1, 60, .inl qz))] H := hP
  have hD : va_D A [(a0, .inr (2, [.ref q1, .ref q2, .ref q3, .ref q4, .ref q5, .ref q6, .null, .null])), (q1, .inl (E.2.1, 300, .inl qz)), (q2, .inl (E.2.1, 300, .inl qz)), (q3, .inl (E.2.1, 300, .inl qz)), (q4, .inl (E.2.1, 60, .inl qz)), (q5, .inl (E.2.1, 60, .inl qz)), (q6, .inl (E.2.1, 60, .inl qz))] := hD
  refine lv_aload_n hx hb dX2_init_55 rfl (lv_at hl 0 rfl) ?_
  refine lv_iconst (v := 5) hx hb dX2_init_56 (by decide) ?_
  refine q_newi hx hb hw3 hK hP hD hS hA 5 (by decide) (by decide) (by decide) (Nat.le_of_ble_eq_true rfl) (Nat.le_of_ble_eq_true rfl) dX2_init_57 (fun q7 H hP hD hS => ?_)
  have hP : va_P E.1 vwCl [(a0, .inr (2, [.ref q1, .ref q2, .ref q3, .ref q4, .ref q5, .ref q6, .null, .null])), (q1, .inl (E.2.1, 300, .inl qz)), (q2, .inl (E.2.1, 300, .inl qz)), (q3, .inl (E.2.1, 300, .inl qz)), (q4, .inl (E.2.1, 60, .inl qz)), (q5, .inl (E.2.1, 60, .inl qz)), (q6, .inl (E.2.1, 60, .inl qz)), (q7, .inl (E.2.1, 5, .inl qz))] H := hP
  have hD : va_D A [(a0, .inr (2, [.ref q1, .ref q2, .ref q3, .ref q4, .ref q5, .ref q6, .null, .null])), (q1, .inl (E.2.1, 300, .inl qz)), (q2, .inl (E.2.1, 300, .inl qz)), (q3, .inl (E.2.1, 300, .inl qz)), (q4, .inl (E.2.1, 60, .inl qz)), (q5, .inl (E.2.1, 60, .inl qz)), (q6, .inl (E.2.1, 60, .inl qz)), (q7, .inl (E.2.1, 5, .inl qz))] := hD
  refine W.widen (k := 7) (n := 1085) (Nat.le_of_ble_eq_true rfl) (Nat.le_of_ble_eq_true rfl) ?_
  refine va_putF (D := E.1) (ci := 2) (v := .ref q7) (ty := .array .int) (C := RX2) (T := TX2) (N := 8) hx hb hts hinX2 tyX2 tyX2_ok nmX2 hown hK.1 hP hD hS 0 rfl rfl 6 (by decide) hw10 (fun _ h9 => h9) rfl hin rfl (by decide +kernel) rfl rfl (Nat.le_of_ble_eq_true rfl) dX2_init_59 (fun H locs hP hD hS => ?_)
  have hP : va_P E.1 vwCl [(a0, .inr (2, [.ref q1, .ref q2, .ref q3, .ref q4, .ref q5, .ref q6, .ref q7, .null])), (q1, .inl (E.2.1, 300, .inl qz)), (q2, .inl (E.2.1, 300, .inl qz)), (q3, .inl (E.2.1, 300, .inl qz)), (q4, .inl (E.2.1, 60, .inl qz)), (q5, .inl (E.2.1, 60, .inl qz)), (q6, .inl (E.2.1, 60, .inl qz)), (q7, .inl (E.2.1, 5, .inl qz))] H := hP
  have hD : va_D A [(a0, .inr (2, [.ref q1, .ref q2, .ref q3, .ref q4, .ref q5, .ref q6, .ref q7, .null])), (q1, .inl (E.2.1, 300, .inl qz)), (q2, .inl (E.2.1, 300, .inl qz)), (q3, .inl (E.2.1, 300, .inl qz)), (q4, .inl (E.2.1, 60, .inl qz)), (q5, .inl (E.2.1, 60, .inl qz)), (q6, .inl (E.2.1, 60, .inl qz)), (q7, .inl (E.2.1, 5, .inl qz))] := hD
  refine lv_aload_n hx hb dX2_init_62 rfl (lv_at hl 0 rfl) ?_
  refine lv_iconst (v := 5) hx hb dX2_init_63 (by decide) ?_
  refine q_newi hx hb hw3 hK hP hD hS hA 5 (by decide) (by decide) (by decide) (Nat.le_of_ble_eq_true rfl) (Nat.le_of_ble_eq_true rfl) dX2_init_64 (fun q8 H hP hD hS => ?_)
  have hP : va_P E.1 vwCl [(a0, .inr (2, [.ref q1, .ref q2, .ref q3, .ref q4, .ref q5, .ref q6, .ref q7, .null])), (q1, .inl (E.2.1, 300, .inl qz)), (q2, .inl (E.2.1, 300, .inl qz)), (q3, .inl (E.2.1, 300, .inl qz)), (q4, .inl (E.2.1, 60, .inl qz)), (q5, .inl (E.2.1, 60, .inl qz)), (q6, .inl (E.2.1, 60, .inl qz)), (q7, .inl (E.2.1, 5, .inl qz)), (q8, .inl (E.2.1, 5, .inl qz))] H := hP
  have hD : va_D A [(a0, .inr (2, [.ref q1, .ref q2, .ref q3, .ref q4, .ref q5, .ref q6, .ref q7, .null])), (q1, .inl (E.2.1, 300, .inl qz)), (q2, .inl (E.2.1, 300, .inl qz)), (q3, .inl (E.2.1, 300, .inl qz)), (q4, .inl (E.2.1, 60, .inl qz)), (q5, .inl (E.2.1, 60, .inl qz)), (q6, .inl (E.2.1, 60, .inl qz)), (q7, .inl (E.2.1, 5, .inl qz)), (q8, .inl (E.2.1, 5, .inl qz))] := hD
  refine W.widen (k := 8) (n := 1090) (Nat.le_of_ble_eq_true rfl) (Nat.le_of_ble_eq_true rfl) ?_
  refine va_putF (D := E.1) (ci := 2) (v := .ref q8) (ty := .array .int) (C := RX2) (T := TX2) (N := 8) hx hb hts hinX2 tyX2 tyX2_ok nmX2 hown hK.1 hP hD hS 0 rfl rfl 7 (by decide) hw11 (fun _ h9 => h9) rfl hin rfl (by decide +kernel) rfl rfl (Nat.le_of_ble_eq_true rfl) dX2_init_66 (fun H locs hP hD hS => ?_)
  have hP : va_P E.1 vwCl [(a0, .inr (2, [.ref q1, .ref q2, .ref q3, .ref q4, .ref q5, .ref q6, .ref q7, .ref q8])), (q1, .inl (E.2.1, 300, .inl qz)), (q2, .inl (E.2.1, 300, .inl qz)), (q3, .inl (E.2.1, 300, .inl qz)), (q4, .inl (E.2.1, 60, .inl qz)), (q5, .inl (E.2.1, 60, .inl qz)), (q6, .inl (E.2.1, 60, .inl qz)), (q7, .inl (E.2.1, 5, .inl qz)), (q8, .inl (E.2.1, 5, .inl qz))] H := hP
  have hD : va_D A [(a0, .inr (2, [.ref q1, .ref q2, .ref q3, .ref q4, .ref q5, .ref q6, .ref q7, .ref q8])), (q1, .inl (E.2.1, 300, .inl qz)), (q2, .inl (E.2.1, 300, .inl qz)), (q3, .inl (E.2.1, 300, .inl qz)), (q4, .inl (E.2.1, 60, .inl qz)), (q5, .inl (E.2.1, 60, .inl qz)), (q6, .inl (E.2.1, 60, .inl qz)), (q7, .inl (E.2.1, 5, .inl qz)), (q8, .inl (E.2.1, 5, .inl qz))] := hD
  exact hRt (qAd [a0, q1, q2, q3, q4, q5, q6, q7, q8]) 69 _ _ _ rfl dX2_init_69 hP hD hS
def rmX5_init : Room := { frames := 1, cells := 16, slots := 3195, locals := 20 }
set_option maxHeartbeats 8000000 in
set_option maxRecDepth 100000 in
theorem wX5_init (l : Launch) (E : qE) (a0 : Nat) : MCt l E yX5_init wsX5_init rmX5_init [.ref a0] [(a0, .inr (5, [.int 0, .null, .null, .null, .int 0, .null, .null, .null, .int 0, .null, .null, .null, .null, .null, .null, .null, .null, .null, .null]))] (fun u : Nat → Nat => u 0 = a0) (fun u => WM E u (0, qz, qz, qz, 0, qz, qz, qz, 0, qz, qz, qz, qz, qz, qz, qz, qz, qz, qz)) 16 3195 := by
  refine q_startC (cc := cX5_init) (maxL := 1) (by decide) rfl rfl (Nat.le_of_ble_eq_true rfl) ?_
  intro pr e s m args below meth c A Q hx hb hml hown hts hK hin hRt hP hD hA hS ls hl
  have hl : lv_has ls 1 [(0, .ref a0)] := hl
  have hinX5 : ∀ w ∈ wsX50, w ∈ wsX5_init := by decide +kernel
  have hw0 := hts (.methodLink RX5 3 objectInit) (by decide +kernel)
  have hw1 := hts (.instanceMethod objectInit) (by decide +kernel)
  have hw2 := hts (.code objectInit ⟨#[0xb1]⟩ 1 none) (by decide +kernel)
  have hw3 := hts (.arrayClass .int) (by decide +kernel)
  have hw4 := hts (.fieldLink RX5 9 "QueueReaderModel" "helpers" "[I") (by decide +kernel)
  have hw5 := hts (.fieldLink RX5 13 "QueueReaderModel" "rule" "[I") (by decide +kernel)
  have hw6 := hts (.fieldLink RX5 16 "QueueReaderModel" "delay" "[I") (by decide +kernel)
  have hw7 := hts (.fieldLink RX5 19 "QueueReaderModel" "kind" "[I") (by decide +kernel)
  have hw8 := hts (.fieldLink RX5 22 "QueueReaderModel" "start" "[I") (by decide +kernel)
  have hw9 := hts (.fieldLink RX5 25 "QueueReaderModel" "steps" "[I") (by decide +kernel)
  have hw10 := hts (.fieldLink RX5 28 "QueueReaderModel" "at" "[I") (by decide +kernel)
  have hw11 := hts (.fieldLink RX5 31 "QueueReaderModel" "work" "[I") (by decide +kernel)
  have hw12 := hts (.arrayClass .boolean) (by decide +kernel)
  have hw13 := hts (.fieldLink RX5 34 "QueueReaderModel" "isSeen" "[Z") (by decide +kernel)
  have hw14 := hts (.fieldLink RX5 38 "QueueReaderModel" "seenBegun" "[I") (by decide +kernel)
  have hw15 := hts (.fieldLink RX5 41 "QueueReaderModel" "seenDone" "[I") (by decide +kernel)
  have hw16 := hts (.fieldLink RX5 44 "QueueReaderModel" "came" "[I") (by decide +kernel)
  have hw17 := hts (.fieldLink RX5 47 "QueueReaderModel" "begun" "[I") (by decide +kernel)
  have hw18 := hts (.fieldLink RX5 50 "QueueReaderModel" "done" "[I") (by decide +kernel)
  have hw19 := hts (.fieldLink RX5 53 "QueueReaderModel" "waits" "[Z") (by decide +kernel)
  have hw20 := hts (.fieldLink RX5 56 "QueueReaderModel" "pWork" "[I") (by decide +kernel)
  refine lv_aload_n hx hb dX5_init_0 rfl (lv_at hl 0 rfl) ?_
  refine W.objInit hx hb hown hw0 hw1 hw2 rfl (by rw [hml]; exact hl.1) rfl dX5_init_1 (Nat.le_of_ble_eq_true rfl) (Nat.le_of_ble_eq_true rfl) ?_
  refine W.eq (g2 := F0 m 4 ls []) rfl ?_
  refine lv_aload_n hx hb dX5_init_4 rfl (lv_at hl 0 rfl) ?_
  refine lv_iconst (v := 5) hx hb dX5_init_5 (by decide) ?_
  refine q_newi hx hb hw3 hK hP hD hS hA 5 (by decide) (by decide) (by decide) (Nat.le_of_ble_eq_true rfl) (Nat.le_of_ble_eq_true rfl) dX5_init_6 (fun q1 H hP hD hS => ?_)
  have hP : va_P E.1 vwCl [(a0, .inr (5, [.int 0, .null, .null, .null, .int 0, .null, .null, .null, .int 0, .null, .null, .null, .null, .null, .null, .null, .null, .null, .null])), (q1, .inl (E.2.1, 5, .inl qz))] H := hP
  have hD : va_D A [(a0, .inr (5, [.int 0, .null, .null, .null, .int 0, .null, .null, .null, .int 0, .null, .null, .null, .null, .null, .null, .null, .null, .null, .null])), (q1, .inl (E.2.1, 5, .inl qz))] := hD
  refine W.widen (k := 1) (n := 5) (Nat.le_of_ble_eq_true rfl) (Nat.le_of_ble_eq_true rfl) ?_
  refine va_putF (D := E.1) (ci := 5) (v := .ref q1) (ty := .array .int) (C := RX5) (T := TX5) (N := 19) hx hb hts hinX5 tyX5 tyX5_ok nmX5 hown hK.1 hP hD hS 0 rfl rfl 1 (by decide) hw4 (fun _ h9 => h9) rfl hin rfl (by decide +kernel) rfl rfl (Nat.le_of_ble_eq_true rfl) dX5_init_8 (fun H locs hP hD hS => ?_)
  have hP : va_P E.1 vwCl [(a0, .inr (5, [.int 0, .ref q1, .null, .null, .int 0, .null, .null, .null, .int 0, .null, .null, .null, .null, .null, .null, .null, .null, .null, .null])), (q1, .inl (E.2.1, 5, .inl qz))] H := hP
  have hD : va_D A [(a0, .inr (5, [.int 0, .ref q1, .null, .null, .int 0, .null, .null, .null, .int 0, .null, .null, .null, .null, .null, .null, .null, .null, .null, .null])), (q1, .inl (E.2.1, 5, .inl qz))] := hD
  refine lv_aload_n hx hb dX5_init_11 rfl (lv_at hl 0 rfl) ?_
  refine lv_iconst (v := 5) hx hb dX5_init_12 (by decide) ?_
  refine q_newi hx hb hw3 hK hP hD hS hA 5 (by decide) (by decide) (by decide) (Nat.le_of_ble_eq_true rfl) (Nat.le_of_ble_eq_true rfl) dX5_init_13 (fun q2 H hP hD hS => ?_)
  have hP : va_P E.1 vwCl [(a0, .inr (5, [.int 0, .ref q1, .null, .null, .int 0, .null, .null, .null, .int 0, .null, .null, .null, .null, .null, .null, .null, .null, .null, .null])), (q1, .inl (E.2.1, 5, .inl qz)), (q2, .inl (E.2.1, 5, .inl qz))] H := hP
  have hD : va_D A [(a0, .inr (5, [.int 0, .ref q1, .null, .null, .int 0, .null, .null, .null, .int 0, .null, .null, .null, .null, .null, .null, .null, .null, .null, .null])), (q1, .inl (E.2.1, 5, .inl qz)), (q2, .inl (E.2.1, 5, .inl qz))] := hD
  refine W.widen (k := 2) (n := 10) (Nat.le_of_ble_eq_true rfl) (Nat.le_of_ble_eq_true rfl) ?_
  refine va_putF (D := E.1) (ci := 5) (v := .ref q2) (ty := .array .int) (C := RX5) (T := TX5) (N := 19) hx hb hts hinX5 tyX5 tyX5_ok nmX5 hown hK.1 hP hD hS 0 rfl rfl 2 (by decide) hw5 (fun _ h9 => h9) rfl hin rfl (by decide +kernel) rfl rfl (Nat.le_of_ble_eq_true rfl) dX5_init_15 (fun H locs hP hD hS => ?_)
  have hP : va_P E.1 vwCl [(a0, .inr (5, [.int 0, .ref q1, .ref q2, .null, .int 0, .null, .null, .null, .int 0, .null, .null, .null, .null, .null, .null, .null, .null, .null, .null])), (q1, .inl (E.2.1, 5, .inl qz)), (q2, .inl (E.2.1, 5, .inl qz))] H := hP
  have hD : va_D A [(a0, .inr (5, [.int 0, .ref q1, .ref q2, .null, .int 0, .null, .null, .null, .int 0, .null, .null, .null, .null, .null, .null, .null, .null, .null, .null])), (q1, .inl (E.2.1, 5, .inl qz)), (q2, .inl (E.2.1, 5, .inl qz))] := hD
  refine lv_aload_n hx hb dX5_init_18 rfl (lv_at hl 0 rfl) ?_
  refine lv_iconst (v := 5) hx hb dX5_init_19 (by decide) ?_
  refine q_newi hx hb hw3 hK hP hD hS hA 5 (by decide) (by decide) (by decide) (Nat.le_of_ble_eq_true rfl) (Nat.le_of_ble_eq_true rfl) dX5_init_20 (fun q3 H hP hD hS => ?_)
  have hP : va_P E.1 vwCl [(a0, .inr (5, [.int 0, .ref q1, .ref q2, .null, .int 0, .null, .null, .null, .int 0, .null, .null, .null, .null, .null, .null, .null, .null, .null, .null])), (q1, .inl (E.2.1, 5, .inl qz)), (q2, .inl (E.2.1, 5, .inl qz)), (q3, .inl (E.2.1, 5, .inl qz))] H := hP
  have hD : va_D A [(a0, .inr (5, [.int 0, .ref q1, .ref q2, .null, .int 0, .null, .null, .null, .int 0, .null, .null, .null, .null, .null, .null, .null, .null, .null, .null])), (q1, .inl (E.2.1, 5, .inl qz)), (q2, .inl (E.2.1, 5, .inl qz)), (q3, .inl (E.2.1, 5, .inl qz))] := hD
  refine W.widen (k := 3) (n := 15) (Nat.le_of_ble_eq_true rfl) (Nat.le_of_ble_eq_true rfl) ?_
  refine va_putF (D := E.1) (ci := 5) (v := .ref q3) (ty := .array .int) (C := RX5) (T := TX5) (N := 19) hx hb hts hinX5 tyX5 tyX5_ok nmX5 hown hK.1 hP hD hS 0 rfl rfl 3 (by decide) hw6 (fun _ h9 => h9) rfl hin rfl (by decide +kernel) rfl rfl (Nat.le_of_ble_eq_true rfl) dX5_init_22 (fun H locs hP hD hS => ?_)
  have hP : va_P E.1 vwCl [(a0, .inr (5, [.int 0, .ref q1, .ref q2, .ref q3, .int 0, .null, .null, .null, .int 0, .null, .null, .null, .null, .null, .null, .null, .null, .null, .null])), (q1, .inl (E.2.1, 5, .inl qz)), (q2, .inl (E.2.1, 5, .inl qz)), (q3, .inl (E.2.1, 5, .inl qz))] H := hP
  have hD : va_D A [(a0, .inr (5, [.int 0, .ref q1, .ref q2, .ref q3, .int 0, .null, .null, .null, .int 0, .null, .null, .null, .null, .null, .null, .null, .null, .null, .null])), (q1, .inl (E.2.1, 5, .inl qz)), (q2, .inl (E.2.1, 5, .inl qz)), (q3, .inl (E.2.1, 5, .inl qz))] := hD
  refine lv_aload_n hx hb dX5_init_25 rfl (lv_at hl 0 rfl) ?_
  refine lv_bipush (v := 60) hx hb dX5_init_26 (by decide) ?_
  refine q_newi hx hb hw3 hK hP hD hS hA 60 (by decide) (by decide) (by decide) (Nat.le_of_ble_eq_true rfl) (Nat.le_of_ble_eq_true rfl) dX5_init_28 (fun q4 H hP hD hS => ?_)
  have hP : va_P E.1 vwCl [(a0, .inr (5, [.int 0, .ref q1, .ref q2, .ref q3, .int 0, .null, .null, .null, .int 0, .null, .null, .null, .null, .null, .null, .null, .null, .null, .null])), (q1, .inl (E.2.1, 5, .inl qz)), (q2, .inl (E.2.1, 5, .inl qz)), (q3, .inl (E.2.1, 5, .inl qz)), (q4, .inl (E.2.1, 60, .inl qz))] H := hP
  have hD : va_D A [(a0, .inr (5, [.int 0, .ref q1, .ref q2, .ref q3, .int 0, .null, .null, .null, .int 0, .null, .null, .null, .null, .null, .null, .null, .null, .null, .null])), (q1, .inl (E.2.1, 5, .inl qz)), (q2, .inl (E.2.1, 5, .inl qz)), (q3, .inl (E.2.1, 5, .inl qz)), (q4, .inl (E.2.1, 60, .inl qz))] := hD
  refine W.widen (k := 4) (n := 75) (Nat.le_of_ble_eq_true rfl) (Nat.le_of_ble_eq_true rfl) ?_
  refine va_putF (D := E.1) (ci := 5) (v := .ref q4) (ty := .array .int) (C := RX5) (T := TX5) (N := 19) hx hb hts hinX5 tyX5 tyX5_ok nmX5 hown hK.1 hP hD hS 0 rfl rfl 5 (by decide) hw7 (fun _ h9 => h9) rfl hin rfl (by decide +kernel) rfl rfl (Nat.le_of_ble_eq_true rfl) dX5_init_30 (fun H locs hP hD hS => ?_)
  have hP : va_P E.1 vwCl [(a0, .inr (5, [.int 0, .ref q1, .ref q2, .ref q3, .int 0, .ref q4, .null, .null, .int 0, .null, .null, .null, .null, .null, .null, .null, .null, .null, .null])), (q1, .inl (E.2.1, 5, .inl qz)), (q2, .inl (E.2.1, 5, .inl qz)), (q3, .inl (E.2.1, 5, .inl qz)), (q4, .inl (E.2.1, 60, .inl qz))] H := hP
  have hD : va_D A [(a0, .inr (5, [.int 0, .ref q1, .ref q2, .ref q3, .int 0, .ref q4, .null, .null, .int 0, .null, .null, .null, .null, .null, .null, .null, .null, .null, .null])), (q1, .inl (E.2.1, 5, .inl qz)), (q2, .inl (E.2.1, 5, .inl qz)), (q3, .inl (E.2.1, 5, .inl qz)), (q4, .inl (E.2.1, 60, .inl qz))] := hD
  refine lv_aload_n hx hb dX5_init_33 rfl (lv_at hl 0 rfl) ?_
  refine lv_bipush (v := 60) hx hb dX5_init_34 (by decide) ?_
  refine q_newi hx hb hw3 hK hP hD hS hA 60 (by decide) (by decide) (by decide) (Nat.le_of_ble_eq_true rfl) (Nat.le_of_ble_eq_true rfl) dX5_init_36 (fun q5 H hP hD hS => ?_)
  have hP : va_P E.1 vwCl [(a0, .inr (5, [.int 0, .ref q1, .ref q2, .ref q3, .int 0, .ref q4, .null, .null, .int 0, .null, .null, .null, .null, .null, .null, .null, .null, .null, .null])), (q1, .inl (E.2.1, 5, .inl qz)), (q2, .inl (E.2.1, 5, .inl qz)), (q3, .inl (E.2.1, 5, .inl qz)), (q4, .inl (E.2.1, 60, .inl qz)), (q5, .inl (E.2.1, 60, .inl qz))] H := hP
  have hD : va_D A [(a0, .inr (5, [.int 0, .ref q1, .ref q2, .ref q3, .int 0, .ref q4, .null, .null, .int 0, .null, .null, .null, .null, .null, .null, .null, .null, .null, .null])), (q1, .inl (E.2.1, 5, .inl qz)), (q2, .inl (E.2.1, 5, .inl qz)), (q3, .inl (E.2.1, 5, .inl qz)), (q4, .inl (E.2.1, 60, .inl qz)), (q5, .inl (E.2.1, 60, .inl qz))] := hD
  refine W.widen (k := 5) (n := 135) (Nat.le_of_ble_eq_true rfl) (Nat.le_of_ble_eq_true rfl) ?_
  refine va_putF (D := E.1) (ci := 5) (v := .ref q5) (ty := .array .int) (C := RX5) (T := TX5) (N := 19) hx hb hts hinX5 tyX5 tyX5_ok nmX5 hown hK.1 hP hD hS 0 rfl rfl 6 (by decide) hw8 (fun _ h9 => h9) rfl hin rfl (by decide +kernel) rfl rfl (Nat.le_of_ble_eq_true rfl) dX5_init_38 (fun H locs hP hD hS => ?_)
  have hP : va_P E.1 vwCl [(a0, .inr (5, [.int 0, .ref q1, .ref q2, .ref q3, .int 0, .ref q4, .ref q5, .null, .int 0, .null, .null, .null, .null, .null, .null, .null, .null, .null, .null])), (q1, .inl (E.2.1, 5, .inl qz)), (q2, .inl (E.2.1, 5, .inl qz)), (q3, .inl (E.2.1, 5, .inl qz)), (q4, .inl (E.2.1, 60, .inl qz)), (q5, .inl (E.2.1, 60, .inl qz))] H := hP
  have hD : va_D A [(a0, .inr (5, [.int 0, .ref q1, .ref q2, .ref q3, .int 0, .ref q4, .ref q5, .null, .int 0, .null, .null, .null, .null, .null, .null, .null, .null, .null, .null])), (q1, .inl (E.2.1, 5, .inl qz)), (q2, .inl (E.2.1, 5, .inl qz)), (q3, .inl (E.2.1, 5, .inl qz)), (q4, .inl (E.2.1, 60, .inl qz)), (q5, .inl (E.2.1, 60, .inl qz))] := hD
  refine lv_aload_n hx hb dX5_init_41 rfl (lv_at hl 0 rfl) ?_
  refine lv_bipush (v := 60) hx hb dX5_init_42 (by decide) ?_
  refine q_newi hx hb hw3 hK hP hD hS hA 60 (by decide) (by decide) (by decide) (Nat.le_of_ble_eq_true rfl) (Nat.le_of_ble_eq_true rfl) dX5_init_44 (fun q6 H hP hD hS => ?_)
  have hP : va_P E.1 vwCl [(a0, .inr (5, [.int 0, .ref q1, .ref q2, .ref q3, .int 0, .ref q4, .ref q5, .null, .int 0, .null, .null, .null, .null, .null, .null, .null, .null, .null, .null])), (q1, .inl (E.2.1, 5, .inl qz)), (q2, .inl (E.2.1, 5, .inl qz)), (q3, .inl (E.2.1, 5, .inl qz)), (q4, .inl (E.2.1, 60, .inl qz)), (q5, .inl (E.2.1, 60, .inl qz)), (q6, .inl (E.2.1, 60, .inl qz))] H := hP
  have hD : va_D A [(a0, .inr (5, [.int 0, .ref q1, .ref q2, .ref q3, .int 0, .ref q4, .ref q5, .null, .int 0, .null, .null, .null, .null, .null, .null, .null, .null, .null, .null])), (q1, .inl (E.2.1, 5, .inl qz)), (q2, .inl (E.2.1, 5, .inl qz)), (q3, .inl (E.2.1, 5, .inl qz)), (q4, .inl (E.2.1, 60, .inl qz)), (q5, .inl (E.2.1, 60, .inl qz)), (q6, .inl (E.2.1, 60, .inl qz))] := hD
  refine W.widen (k := 6) (n := 195) (Nat.le_of_ble_eq_true rfl) (Nat.le_of_ble_eq_true rfl) ?_
  refine va_putF (D := E.1) (ci := 5) (v := .ref q6) (ty := .array .int) (C := RX5) (T := TX5) (N := 19) hx hb hts hinX5 tyX5 tyX5_ok nmX5 hown hK.1 hP hD hS 0 rfl rfl 7 (by decide) hw9 (fun _ h9 => h9) rfl hin rfl (by decide +kernel) rfl rfl (Nat.le_of_ble_eq_true rfl) dX5_init_46 (fun H locs hP hD hS => ?_)
  have hP : va_P E.1 vwCl [(a0, .inr (5, [.int 0, .ref q1, .ref q2, .ref q3, .int 0, .ref q4, .ref q5, .ref q6, .int 0, .null, .null, .null, .null, .null, .null, .null, .null, .null, .null])), (q1, .inl (E.2.1, 5, .inl qz)), (q2, .inl (E.2.1, 5, .inl qz)), (q3, .inl (E.2.1, 5, .inl qz)), (q4, .inl (E.2.1, 60, .inl qz)), (q5, .inl (E.2.1, 60, .inl qz)), (q6, .inl (E.2.1, 60, .inl qz))] H := hP
  have hD : va_D A [(a0, .inr (5, [.int 0, .ref q1, .ref q2, .ref q3, .int 0, .ref q4, .ref q5, .ref q6, .int 0, .null, .null, .null, .null, .null, .null, .null, .null, .null, .null])), (q1, .inl (E.2.1, 5, .inl qz)), (q2, .inl (E.2.1, 5, .inl qz)), (q3, .inl (E.2.1, 5, .inl qz)), (q4, .inl (E.2.1, 60, .inl qz)), (q5, .inl (E.2.1, 60, .inl qz)), (q6, .inl (E.2.1, 60, .inl qz))] := hD
  refine lv_aload_n hx hb dX5_init_49 rfl (lv_at hl 0 rfl) ?_
  refine lv_sipush (v := 300) hx hb dX5_init_50 (by decide) ?_
  refine q_newi hx hb hw3 hK hP hD hS hA 300 (by decide) (by decide) (by decide) (Nat.le_of_ble_eq_true rfl) (Nat.le_of_ble_eq_true rfl) dX5_init_53 (fun q7 H hP hD hS => ?_)
  have hP : va_P E.1 vwCl [(a0, .inr (5, [.int 0, .ref q1, .ref q2, .ref q3, .int 0, .ref q4, .ref q5, .ref q6, .int 0, .null, .null, .null, .null, .null, .null, .null, .null, .null, .null])), (q1, .inl (E.2.1, 5, .inl qz)), (q2, .inl (E.2.1, 5, .inl qz)), (q3, .inl (E.2.1, 5, .inl qz)), (q4, .inl (E.2.1, 60, .inl qz)), (q5, .inl (E.2.1, 60, .inl qz)), (q6, .inl (E.2.1, 60, .inl qz)), (q7, .inl (E.2.1, 300, .inl qz))] H := hP
  have hD : va_D A [(a0, .inr (5, [.int 0, .ref q1, .ref q2, .ref q3, .int 0, .ref q4, .ref q5, .ref q6, .int 0, .null, .null, .null, .null, .null, .null, .null, .null, .null, .null])), (q1, .inl (E.2.1, 5, .inl qz)), (q2, .inl (E.2.1, 5, .inl qz)), (q3, .inl (E.2.1, 5, .inl qz)), (q4, .inl (E.2.1, 60, .inl qz)), (q5, .inl (E.2.1, 60, .inl qz)), (q6, .inl (E.2.1, 60, .inl qz)), (q7, .inl (E.2.1, 300, .inl qz))] := hD
  refine W.widen (k := 7) (n := 495) (Nat.le_of_ble_eq_true rfl) (Nat.le_of_ble_eq_true rfl) ?_
  refine va_putF (D := E.1) (ci := 5) (v := .ref q7) (ty := .array .int) (C := RX5) (T := TX5) (N := 19) hx hb hts hinX5 tyX5 tyX5_ok nmX5 hown hK.1 hP hD hS 0 rfl rfl 9 (by decide) hw10 (fun _ h9 => h9) rfl hin rfl (by decide +kernel) rfl rfl (Nat.le_of_ble_eq_true rfl) dX5_init_55 (fun H locs hP hD hS => ?_)
  have hP : va_P E.1 vwCl [(a0, .inr (5, [.int 0, .ref q1, .ref q2, .ref q3, .int 0, .ref q4, .ref q5, .ref q6, .int 0, .ref q7, .null, .null, .null, .null, .null, .null, .null, .null, .null])), (q1, .inl (E.2.1, 5, .inl qz)), (q2, .inl (E.2.1, 5, .inl qz)), (q3, .inl (E.2.1, 5, .inl qz)), (q4, .inl (E.2.1, 60, .inl qz)), (q5, .inl (E.2.1, 60, .inl qz)), (q6, .inl (E.2.1, 60, .inl qz)), (q7, .inl (E.2.1, 300, .inl qz))] H := hP
  have hD : va_D A [(a0, .inr (5, [.int 0, .ref q1, .ref q2, .ref q3, .int 0, .ref q4, .ref q5, .ref q6, .int 0, .ref q7, .null, .null, .null, .null, .null, .null, .null, .null, .null])), (q1, .inl (E.2.1, 5, .inl qz)), (q2, .inl (E.2.1, 5, .inl qz)), (q3, .inl (E.2.1, 5, .inl qz)), (q4, .inl (E.2.1, 60, .inl qz)), (q5, .inl (E.2.1, 60, .inl qz)), (q6, .inl (E.2.1, 60, .inl qz)), (q7, .inl (E.2.1, 300, .inl qz))] := hD
  refine lv_aload_n hx hb dX5_init_58 rfl (lv_at hl 0 rfl) ?_
  refine lv_sipush (v := 300) hx hb dX5_init_59 (by decide) ?_
  refine q_newi hx hb hw3 hK hP hD hS hA 300 (by decide) (by decide) (by decide) (Nat.le_of_ble_eq_true rfl) (Nat.le_of_ble_eq_true rfl) dX5_init_62 (fun q8 H hP hD hS => ?_)
  have hP : va_P E.1 vwCl [(a0, .inr (5, [.int 0, .ref q1, .ref q2, .ref q3, .int 0, .ref q4, .ref q5, .ref q6, .int 0, .ref q7, .null, .null, .null, .null, .null, .null, .null, .null, .null])), (q1, .inl (E.2.1, 5, .inl qz)), (q2, .inl (E.2.1, 5, .inl qz)), (q3, .inl (E.2.1, 5, .inl qz)), (q4, .inl (E.2.1, 60, .inl qz)), (q5, .inl (E.2.1, 60, .inl qz)), (q6, .inl (E.2.1, 60, .inl qz)), (q7, .inl (E.2.1, 300, .inl qz)), (q8, .inl (E.2.1, 300, .inl qz))] H := hP
  have hD : va_D A [(a0, .inr (5, [.int 0, .ref q1, .ref q2, .ref q3, .int 0, .ref q4, .ref q5, .ref q6, .int 0, .ref q7, .null, .null, .null, .null, .null, .null, .null, .null, .null])), (q1, .inl (E.2.1, 5, .inl qz)), (q2, .inl (E.2.1, 5, .inl qz)), (q3, .inl (E.2.1, 5, .inl qz)), (q4, .inl (E.2.1, 60, .inl qz)), (q5, .inl (E.2.1, 60, .inl qz)), (q6, .inl (E.2.1, 60, .inl qz)), (q7, .inl (E.2.1, 300, .inl qz)), (q8, .inl (E.2.1, 300, .inl qz))] := hD
  refine W.widen (k := 8) (n := 795) (Nat.le_of_ble_eq_true rfl) (Nat.le_of_ble_eq_true rfl) ?_
  refine va_putF (D := E.1) (ci := 5) (v := .ref q8) (ty := .array .int) (C := RX5) (T := TX5) (N := 19) hx hb hts hinX5 tyX5 tyX5_ok nmX5 hown hK.1 hP hD hS 0 rfl rfl 10 (by decide) hw11 (fun _ h9 => h9) rfl hin rfl (by decide +kernel) rfl rfl (Nat.le_of_ble_eq_true rfl) dX5_init_64 (fun H locs hP hD hS => ?_)
  have hP : va_P E.1 vwCl [(a0, .inr (5, [.int 0, .ref q1, .ref q2, .ref q3, .int 0, .ref q4, .ref q5, .ref q6, .int 0, .ref q7, .ref q8, .null, .null, .null, .null, .null, .null, .null, .null])), (q1, .inl (E.2.1, 5, .inl qz)), (q2, .inl (E.2.1, 5, .inl qz)), (q3, .inl (E.2.1, 5, .inl qz)), (q4, .inl (E.2.1, 60, .inl qz)), (q5, .inl (E.2.1, 60, .inl qz)), (q6, .inl (E.2.1, 60, .inl qz)), (q7, .inl (E.2.1, 300, .inl qz)), (q8, .inl (E.2.1, 300, .inl qz))] H := hP
  have hD : va_D A [(a0, .inr (5, [.int 0, .ref q1, .ref q2, .ref q3, .int 0, .ref q4, .ref q5, .ref q6, .int 0, .ref q7, .ref q8, .null, .null, .null, .null, .null, .null, .null, .null])), (q1, .inl (E.2.1, 5, .inl qz)), (q2, .inl (E.2.1, 5, .inl qz)), (q3, .inl (E.2.1, 5, .inl qz)), (q4, .inl (E.2.1, 60, .inl qz)), (q5, .inl (E.2.1, 60, .inl qz)), (q6, .inl (E.2.1, 60, .inl qz)), (q7, .inl (E.2.1, 300, .inl qz)), (q8, .inl (E.2.1, 300, .inl qz))] := hD
  refine lv_aload_n hx hb dX5_init_67 rfl (lv_at hl 0 rfl) ?_
  refine lv_sipush (v := 300) hx hb dX5_init_68 (by decide) ?_
  refine q_newz hx hb hw12 hK hP hD hS hA 300 (by decide) (by decide) (by decide) (Nat.le_of_ble_eq_true rfl) (Nat.le_of_ble_eq_true rfl) dX5_init_71 (fun q9 H hP hD hS => ?_)
  have hP : va_P E.1 vwCl [(a0, .inr (5, [.int 0, .ref q1, .ref q2, .ref q3, .int 0, .ref q4, .ref q5, .ref q6, .int 0, .ref q7, .ref q8, .null, .null, .null, .null, .null, .null, .null, .null])), (q1, .inl (E.2.1, 5, .inl qz)), (q2, .inl (E.2.1, 5, .inl qz)), (q3, .inl (E.2.1, 5, .inl qz)), (q4, .inl (E.2.1, 60, .inl qz)), (q5, .inl (E.2.1, 60, .inl qz)), (q6, .inl (E.2.1, 60, .inl qz)), (q7, .inl (E.2.1, 300, .inl qz)), (q8, .inl (E.2.1, 300, .inl qz)), (q9, .inl (E.2.2.2, 300, .inl qz))] H := hP
  have hD : va_D A [(a0, .inr (5, [.int 0, .ref q1, .ref q2, .ref q3, .int 0, .ref q4, .ref q5, .ref q6, .int 0, .ref q7, .ref q8, .null, .null, .null, .null, .null, .null, .null, .null])), (q1, .inl (E.2.1, 5, .inl qz)), (q2, .inl (E.2.1, 5, .inl qz)), (q3, .inl (E.2.1, 5, .inl qz)), (q4, .inl (E.2.1, 60, .inl qz)), (q5, .inl (E.2.1, 60, .inl qz)), (q6, .inl (E.2.1, 60, .inl qz)), (q7, .inl (E.2.1, 300, .inl qz)), (q8, .inl (E.2.1, 300, .inl qz)), (q9, .inl (E.2.2.2, 300, .inl qz))] := hD
  refine W.widen (k := 9) (n := 1095) (Nat.le_of_ble_eq_true rfl) (Nat.le_of_ble_eq_true rfl) ?_
  refine va_putF (D := E.1) (ci := 5) (v := .ref q9) (ty := .array .boolean) (C := RX5) (T := TX5) (N := 19) hx hb hts hinX5 tyX5 tyX5_ok nmX5 hown hK.1 hP hD hS 0 rfl rfl 11 (by decide) hw13 (fun _ h9 => h9) rfl hin rfl (by decide +kernel) rfl rfl (Nat.le_of_ble_eq_true rfl) dX5_init_73 (fun H locs hP hD hS => ?_)
  have hP : va_P E.1 vwCl [(a0, .inr (5, [.int 0, .ref q1, .ref q2, .ref q3, .int 0, .ref q4, .ref q5, .ref q6, .int 0, .ref q7, .ref q8, .ref q9, .null, .null, .null, .null, .null, .null, .null])), (q1, .inl (E.2.1, 5, .inl qz)), (q2, .inl (E.2.1, 5, .inl qz)), (q3, .inl (E.2.1, 5, .inl qz)), (q4, .inl (E.2.1, 60, .inl qz)), (q5, .inl (E.2.1, 60, .inl qz)), (q6, .inl (E.2.1, 60, .inl qz)), (q7, .inl (E.2.1, 300, .inl qz)), (q8, .inl (E.2.1, 300, .inl qz)), (q9, .inl (E.2.2.2, 300, .inl qz))] H := hP
  have hD : va_D A [(a0, .inr (5, [.int 0, .ref q1, .ref q2, .ref q3, .int 0, .ref q4, .ref q5, .ref q6, .int 0, .ref q7, .ref q8, .ref q9, .null, .null, .null, .null, .null, .null, .null])), (q1, .inl (E.2.1, 5, .inl qz)), (q2, .inl (E.2.1, 5, .inl qz)), (q3, .inl (E.2.1, 5, .inl qz)), (q4, .inl (E.2.1, 60, .inl qz)), (q5, .inl (E.2.1, 60, .inl qz)), (q6, .inl (E.2.1, 60, .inl qz)), (q7, .inl (E.2.1, 300, .inl qz)), (q8, .inl (E.2.1, 300, .inl qz)), (q9, .inl (E.2.2.2, 300, .inl qz))] := hD
  refine lv_aload_n hx hb dX5_init_76 rfl (lv_at hl 0 rfl) ?_
  refine lv_sipush (v := 300) hx hb dX5_init_77 (by decide) ?_
  refine q_newi hx hb hw3 hK hP hD hS hA 300 (by decide) (by decide) (by decide) (Nat.le_of_ble_eq_true rfl) (Nat.le_of_ble_eq_true rfl) dX5_init_80 (fun q10 H hP hD hS => ?_)
  have hP : va_P E.1 vwCl [(a0, .inr (5, [.int 0, .ref q1, .ref q2, .ref q3, .int 0, .ref q4, .ref q5, .ref q6, .int 0, .ref q7, .ref q8, .ref q9, .null, .null, .null, .null, .null, .null, .null])), (q1, .inl (E.2.1, 5, .inl qz)), (q2, .inl (E.2.1, 5, .inl qz)), (q3, .inl (E.2.1, 5, .inl qz)), (q4, .inl (E.2.1, 60, .inl qz)), (q5, .inl (E.2.1, 60, .inl qz)), (q6, .inl (E.2.1, 60, .inl qz)), (q7, .inl (E.2.1, 300, .inl qz)), (q8, .inl (E.2.1, 300, .inl qz)), (q9, .inl (E.2.2.2, 300, .inl qz)), (q10, .inl (E.2.1, 300, .inl qz))] H := hP
  have hD : va_D A [(a0, .inr (5, [.int 0, .ref q1, .ref q2, .ref q3, .int 0, .ref q4, .ref q5, .ref q6, .int 0, .ref q7, .ref q8, .ref q9, .null, .null, .null, .null, .null, .null, .null])), (q1, .inl (E.2.1, 5, .inl qz)), (q2, .inl (E.2.1, 5, .inl qz)), (q3, .inl (E.2.1, 5, .inl qz)), (q4, .inl (E.2.1, 60, .inl qz)), (q5, .inl (E.2.1, 60, .inl qz)), (q6, .inl (E.2.1, 60, .inl qz)), (q7, .inl (E.2.1, 300, .inl qz)), (q8, .inl (E.2.1, 300, .inl qz)), (q9, .inl (E.2.2.2, 300, .inl qz)), (q10, .inl (E.2.1, 300, .inl qz))] := hD
  refine W.widen (k := 10) (n := 1395) (Nat.le_of_ble_eq_true rfl) (Nat.le_of_ble_eq_true rfl) ?_
  refine va_putF (D := E.1) (ci := 5) (v := .ref q10) (ty := .array .int) (C := RX5) (T := TX5) (N := 19) hx hb hts hinX5 tyX5 tyX5_ok nmX5 hown hK.1 hP hD hS 0 rfl rfl 12 (by decide) hw14 (fun _ h9 => h9) rfl hin rfl (by decide +kernel) rfl rfl (Nat.le_of_ble_eq_true rfl) dX5_init_82 (fun H locs hP hD hS => ?_)
  have hP : va_P E.1 vwCl [(a0, .inr (5, [.int 0, .ref q1, .ref q2, .ref q3, .int 0, .ref q4, .ref q5, .ref q6, .int 0, .ref q7, .ref q8, .ref q9, .ref q10, .null, .null, .null, .null, .null, .null])), (q1, .inl (E.2.1, 5, .inl qz)), (q2, .inl (E.2.1, 5, .inl qz)), (q3, .inl (E.2.1, 5, .inl qz)), (q4, .inl (E.2.1, 60, .inl qz)), (q5, .inl (E.2.1, 60, .inl qz)), (q6, .inl (E.2.1, 60, .inl qz)), (q7, .inl (E.2.1, 300, .inl qz)), (q8, .inl (E.2.1, 300, .inl qz)), (q9, .inl (E.2.2.2, 300, .inl qz)), (q10, .inl (E.2.1, 300, .inl qz))] H := hP
  have hD : va_D A [(a0, .inr (5, [.int 0, .ref q1, .ref q2, .ref q3, .int 0, .ref q4, .ref q5, .ref q6, .int 0, .ref q7, .ref q8, .ref q9, .ref q10, .null, .null, .null, .null, .null, .null])), (q1, .inl (E.2.1, 5, .inl qz)), (q2, .inl (E.2.1, 5, .inl qz)), (q3, .inl (E.2.1, 5, .inl qz)), (q4, .inl (E.2.1, 60, .inl qz)), (q5, .inl (E.2.1, 60, .inl qz)), (q6, .inl (E.2.1, 60, .inl qz)), (q7, .inl (E.2.1, 300, .inl qz)), (q8, .inl (E.2.1, 300, .inl qz)), (q9, .inl (E.2.2.2, 300, .inl qz)), (q10, .inl (E.2.1, 300, .inl qz))] := hD
  refine lv_aload_n hx hb dX5_init_85 rfl (lv_at hl 0 rfl) ?_
  refine lv_sipush (v := 300) hx hb dX5_init_86 (by decide) ?_
  refine q_newi hx hb hw3 hK hP hD hS hA 300 (by decide) (by decide) (by decide) (Nat.le_of_ble_eq_true rfl) (Nat.le_of_ble_eq_true rfl) dX5_init_89 (fun q11 H hP hD hS => ?_)
  have hP : va_P E.1 vwCl [(a0, .inr (5, [.int 0, .ref q1, .ref q2, .ref q3, .int 0, .ref q4, .ref q5, .ref q6, .int 0, .ref q7, .ref q8, .ref q9, .ref q10, .null, .null, .null, .null, .null, .null])), (q1, .inl (E.2.1, 5, .inl qz)), (q2, .inl (E.2.1, 5, .inl qz)), (q3, .inl (E.2.1, 5, .inl qz)), (q4, .inl (E.2.1, 60, .inl qz)), (q5, .inl (E.2.1, 60, .inl qz)), (q6, .inl (E.2.1, 60, .inl qz)), (q7, .inl (E.2.1, 300, .inl qz)), (q8, .inl (E.2.1, 300, .inl qz)), (q9, .inl (E.2.2.2, 300, .inl qz)), (q10, .inl (E.2.1, 300, .inl qz)), (q11, .inl (E.2.1, 300, .inl qz))] H := hP
  have hD : va_D A [(a0, .inr (5, [.int 0, .ref q1, .ref q2, .ref q3, .int 0, .ref q4, .ref q5, .ref q6, .int 0, .ref q7, .ref q8, .ref q9, .ref q10, .null, .null, .null, .null, .null, .null])), (q1, .inl (E.2.1, 5, .inl qz)), (q2, .inl (E.2.1, 5, .inl qz)), (q3, .inl (E.2.1, 5, .inl qz)), (q4, .inl (E.2.1, 60, .inl qz)), (q5, .inl (E.2.1, 60, .inl qz)), (q6, .inl (E.2.1, 60, .inl qz)), (q7, .inl (E.2.1, 300, .inl qz)), (q8, .inl (E.2.1, 300, .inl qz)), (q9, .inl (E.2.2.2, 300, .inl qz)), (q10, .inl (E.2.1, 300, .inl qz)), (q11, .inl (E.2.1, 300, .inl qz))] := hD
  refine W.widen (k := 11) (n := 1695) (Nat.le_of_ble_eq_true rfl) (Nat.le_of_ble_eq_true rfl) ?_
  refine va_putF (D := E.1) (ci := 5) (v := .ref q11) (ty := .array .int) (C := RX5) (T := TX5) (N := 19) hx hb hts hinX5 tyX5 tyX5_ok nmX5 hown hK.1 hP hD hS 0 rfl rfl 13 (by decide) hw15 (fun _ h9 => h9) rfl hin rfl (by decide +kernel) rfl rfl (Nat.le_of_ble_eq_true rfl) dX5_init_91 (fun H locs hP hD hS => ?_)
  have hP : va_P E.1 vwCl [(a0, .inr (5, [.int 0, .ref q1, .ref q2, .ref q3, .int 0, .ref q4, .ref q5, .ref q6, .int 0, .ref q7, .ref q8, .ref q9, .ref q10, .ref q11, .null, .null, .null, .null, .null])), (q1, .inl (E.2.1, 5, .inl qz)), (q2, .inl (E.2.1, 5, .inl qz)), (q3, .inl (E.2.1, 5, .inl qz)), (q4, .inl (E.2.1, 60, .inl qz)), (q5, .inl (E.2.1, 60, .inl qz)), (q6, .inl (E.2.1, 60, .inl qz)), (q7, .inl (E.2.1, 300, .inl qz)), (q8, .inl (E.2.1, 300, .inl qz)), (q9, .inl (E.2.2.2, 300, .inl qz)), (q10, .inl (E.2.1, 300, .inl qz)), (q11, .inl (E.2.1, 300, .inl qz))] H := hP
  have hD : va_D A [(a0, .inr (5, [.int 0, .ref q1, .ref q2, .ref q3, .int 0, .ref q4, .ref q5, .ref q6, .int 0, .ref q7, .ref q8, .ref q9, .ref q10, .ref q11, .null, .null, .null, .null, .null])), (q1, .inl (E.2.1, 5, .inl qz)), (q2, .inl (E.2.1, 5, .inl qz)), (q3, .inl (E.2.1, 5, .inl qz)), (q4, .inl (E.2.1, 60, .inl qz)), (q5, .inl (E.2.1, 60, .inl qz)), (q6, .inl (E.2.1, 60, .inl qz)), (q7, .inl (E.2.1, 300, .inl qz)), (q8, .inl (E.2.1, 300, .inl qz)), (q9, .inl (E.2.2.2, 300, .inl qz)), (q10, .inl (E.2.1, 300, .inl qz)), (q11, .inl (E.2.1, 300, .inl qz))] := hD
  refine lv_aload_n hx hb dX5_init_94 rfl (lv_at hl 0 rfl) ?_
  refine lv_sipush (v := 300) hx hb dX5_init_95 (by decide) ?_
  refine q_newi hx hb hw3 hK hP hD hS hA 300 (by decide) (by decide) (by decide) (Nat.le_of_ble_eq_true rfl) (Nat.le_of_ble_eq_true rfl) dX5_init_98 (fun q12 H hP hD hS => ?_)
  have hP : va_P E.1 vwCl [(a0, .inr (5, [.int 0, .ref q1, .ref q2, .ref q3, .int 0, .ref q4, .ref q5, .ref q6, .int 0, .ref q7, .ref q8, .ref q9, .ref q10, .ref q11, .null, .null, .null, .null, .null])), (q1, .inl (E.2.1, 5, .inl qz)), (q2, .inl (E.2.1, 5, .inl qz)), (q3, .inl (E.2.1, 5, .inl qz)), (q4, .inl (E.2.1, 60, .inl qz)), (q5, .inl (E.2.1, 60, .inl qz)), (q6, .inl (E.2.1, 60, .inl qz)), (q7, .inl (E.2.1, 300, .inl qz)), (q8, .inl (E.2.1, 300, .inl qz)), (q9, .inl (E.2.2.2, 300, .inl qz)), (q10, .inl (E.2.1, 300, .inl qz)), (q11, .inl (E.2.1, 300, .inl qz)), (q12, .inl (E.2.1, 300, .inl qz))] H := hP
  have hD : va_D A [(a0, .inr (5, [.int 0, .ref q1, .ref q2, .ref q3, .int 0, .ref q4, .ref q5, .ref q6, .int 0, .ref q7, .ref q8, .ref q9, .ref q10, .ref q11, .null, .null, .null, .null, .null])), (q1, .inl (E.2.1, 5, .inl qz)), (q2, .inl (E.2.1, 5, .inl qz)), (q3, .inl (E.2.1, 5, .inl qz)), (q4, .inl (E.2.1, 60, .inl qz)), (q5, .inl (E.2.1, 60, .inl qz)), (q6, .inl (E.2.1, 60, .inl qz)), (q7, .inl (E.2.1, 300, .inl qz)), (q8, .inl (E.2.1, 300, .inl qz)), (q9, .inl (E.2.2.2, 300, .inl qz)), (q10, .inl (E.2.1, 300, .inl qz)), (q11, .inl (E.2.1, 300, .inl qz)), (q12, .inl (E.2.1, 300, .inl qz))] := hD
  refine W.widen (k := 12) (n := 1995) (Nat.le_of_ble_eq_true rfl) (Nat.le_of_ble_eq_true rfl) ?_
  refine va_putF (D := E.1) (ci := 5) (v := .ref q12) (ty := .array .int) (C := RX5) (T := TX5) (N := 19) hx hb hts hinX5 tyX5 tyX5_ok nmX5 hown hK.1 hP hD hS 0 rfl rfl 14 (by decide) hw16 (fun _ h9 => h9) rfl hin rfl (by decide +kernel) rfl rfl (Nat.le_of_ble_eq_true rfl) dX5_init_100 (fun H locs hP hD hS => ?_)
  have hP : va_P E.1 vwCl [(a0, .inr (5, [.int 0, .ref q1, .ref q2, .ref q3, .int 0, .ref q4, .ref q5, .ref q6, .int 0, .ref q7, .ref q8, .ref q9, .ref q10, .ref q11, .ref q12, .null, .null, .null, .null])), (q1, .inl (E.2.1, 5, .inl qz)), (q2, .inl (E.2.1, 5, .inl qz)), (q3, .inl (E.2.1, 5, .inl qz)), (q4, .inl (E.2.1, 60, .inl qz)), (q5, .inl (E.2.1, 60, .inl qz)), (q6, .inl (E.2.1, 60, .inl qz)), (q7, .inl (E.2.1, 300, .inl qz)), (q8, .inl (E.2.1, 300, .inl qz)), (q9, .inl (E.2.2.2, 300, .inl qz)), (q10, .inl (E.2.1, 300, .inl qz)), (q11, .inl (E.2.1, 300, .inl qz)), (q12, .inl (E.2.1, 300, .inl qz))] H := hP
  have hD : va_D A [(a0, .inr (5, [.int 0, .ref q1, .ref q2, .ref q3, .int 0, .ref q4, .ref q5, .ref q6, .int 0, .ref q7, .ref q8, .ref q9, .ref q10, .ref q11, .ref q12, .null, .null, .null, .null])), (q1, .inl (E.2.1, 5, .inl qz)), (q2, .inl (E.2.1, 5, .inl qz)), (q3, .inl (E.2.1, 5, .inl qz)), (q4, .inl (E.2.1, 60, .inl qz)), (q5, .inl (E.2.1, 60, .inl qz)), (q6, .inl (E.2.1, 60, .inl qz)), (q7, .inl (E.2.1, 300, .inl qz)), (q8, .inl (E.2.1, 300, .inl qz)), (q9, .inl (E.2.2.2, 300, .inl qz)), (q10, .inl (E.2.1, 300, .inl qz)), (q11, .inl (E.2.1, 300, .inl qz)), (q12, .inl (E.2.1, 300, .inl qz))] := hD
  refine lv_aload_n hx hb dX5_init_103 rfl (lv_at hl 0 rfl) ?_
  refine lv_sipush (v := 300) hx hb dX5_init_104 (by decide) ?_
  refine q_newi hx hb hw3 hK hP hD hS hA 300 (by decide) (by decide) (by decide) (Nat.le_of_ble_eq_true rfl) (Nat.le_of_ble_eq_true rfl) dX5_init_107 (fun q13 H hP hD hS => ?_)
  have hP : va_P E.1 vwCl [(a0, .inr (5, [.int 0, .ref q1, .ref q2, .ref q3, .int 0, .ref q4, .ref q5, .ref q6, .int 0, .ref q7, .ref q8, .ref q9, .ref q10, .ref q11, .ref q12, .null, .null, .null, .null])), (q1, .inl (E.2.1, 5, .inl qz)), (q2, .inl (E.2.1, 5, .inl qz)), (q3, .inl (E.2.1, 5, .inl qz)), (q4, .inl (E.2.1, 60, .inl qz)), (q5, .inl (E.2.1, 60, .inl qz)), (q6, .inl (E.2.1, 60, .inl qz)), (q7, .inl (E.2.1, 300, .inl qz)), (q8, .inl (E.2.1, 300, .inl qz)), (q9, .inl (E.2.2.2, 300, .inl qz)), (q10, .inl (E.2.1, 300, .inl qz)), (q11, .inl (E.2.1, 300, .inl qz)), (q12, .inl (E.2.1, 300, .inl qz)), (q13, .inl (E.2.1, 300, .inl qz))] H := hP
  have hD : va_D A [(a0, .inr (5, [.int 0, .ref q1, .ref q2, .ref q3, .int 0, .ref q4, .ref q5, .ref q6, .int 0, .ref q7, .ref q8, .ref q9, .ref q10, .ref q11, .ref q12, .null, .null, .null, .null])), (q1, .inl (E.2.1, 5, .inl qz)), (q2, .inl (E.2.1, 5, .inl qz)), (q3, .inl (E.2.1, 5, .inl qz)), (q4, .inl (E.2.1, 60, .inl qz)), (q5, .inl (E.2.1, 60, .inl qz)), (q6, .inl (E.2.1, 60, .inl qz)), (q7, .inl (E.2.1, 300, .inl qz)), (q8, .inl (E.2.1, 300, .inl qz)), (q9, .inl (E.2.2.2, 300, .inl qz)), (q10, .inl (E.2.1, 300, .inl qz)), (q11, .inl (E.2.1, 300, .inl qz)), (q12, .inl (E.2.1, 300, .inl qz)), (q13, .inl (E.2.1, 300, .inl qz))] := hD
  refine W.widen (k := 13) (n := 2295) (Nat.le_of_ble_eq_true rfl) (Nat.le_of_ble_eq_true rfl) ?_
  refine va_putF (D := E.1) (ci := 5) (v := .ref q13) (ty := .array .int) (C := RX5) (T := TX5) (N := 19) hx hb hts hinX5 tyX5 tyX5_ok nmX5 hown hK.1 hP hD hS 0 rfl rfl 15 (by decide) hw17 (fun _ h9 => h9) rfl hin rfl (by decide +kernel) rfl rfl (Nat.le_of_ble_eq_true rfl) dX5_init_109 (fun H locs hP hD hS => ?_)
  have hP : va_P E.1 vwCl [(a0, .inr (5, [.int 0, .ref q1, .ref q2, .ref q3, .int 0, .ref q4, .ref q5, .ref q6, .int 0, .ref q7, .ref q8, .ref q9, .ref q10, .ref q11, .ref q12, .ref q13, .null, .null, .null])), (q1, .inl (E.2.1, 5, .inl qz)), (q2, .inl (E.2.1, 5, .inl qz)), (q3, .inl (E.2.1, 5, .inl qz)), (q4, .inl (E.2.1, 60, .inl qz)), (q5, .inl (E.2.1, 60, .inl qz)), (q6, .inl (E.2.1, 60, .inl qz)), (q7, .inl (E.2.1, 300, .inl qz)), (q8, .inl (E.2.1, 300, .inl qz)), (q9, .inl (E.2.2.2, 300, .inl qz)), (q10, .inl (E.2.1, 300, .inl qz)), (q11, .inl (E.2.1, 300, .inl qz)), (q12, .inl (E.2.1, 300, .inl qz)), (q13, .inl (E.2.1, 300, .inl qz))] H := hP
  have hD : va_D A [(a0, .inr (5, [.int 0, .ref q1, .ref q2, .ref q3, .int 0, .ref q4, .ref q5, .ref q6, .int 0, .ref q7, .ref q8, .ref q9, .ref q10, .ref q11, .ref q12, .ref q13, .null, .null, .null])), (q1, .inl (E.2.1, 5, .inl qz)), (q2, .inl (E.2.1, 5, .inl qz)), (q3, .inl (E.2.1, 5, .inl qz)), (q4, .inl (E.2.1, 60, .inl qz)), (q5, .inl (E.2.1, 60, .inl qz)), (q6, .inl (E.2.1, 60, .inl qz)), (q7, .inl (E.2.1, 300, .inl qz)), (q8, .inl (E.2.1, 300, .inl qz)), (q9, .inl (E.2.2.2, 300, .inl qz)), (q10, .inl (E.2.1, 300, .inl qz)), (q11, .inl (E.2.1, 300, .inl qz)), (q12, .inl (E.2.1, 300, .inl qz)), (q13, .inl (E.2.1, 300, .inl qz))] := hD
  refine lv_aload_n hx hb dX5_init_112 rfl (lv_at hl 0 rfl) ?_
  refine lv_sipush (v := 300) hx hb dX5_init_113 (by decide) ?_
  refine q_newi hx hb hw3 hK hP hD hS hA 300 (by decide) (by decide) (by decide) (Nat.le_of_ble_eq_true rfl) (Nat.le_of_ble_eq_true rfl) dX5_init_116 (fun q14 H hP hD hS => ?_)
  have hP : va_P E.1 vwCl [(a0, .inr (5, [.int 0, .ref q1, .ref q2, .ref q3, .int 0, .ref q4, .ref q5, .ref q6, .int 0, .ref q7, .ref q8, .ref q9, .ref q10, .ref q11, .ref q12, .ref q13, .null, .null, .null])), (q1, .inl (E.2.1, 5, .inl qz)), (q2, .inl (E.2.1, 5, .inl qz)), (q3, .inl (E.2.1, 5, .inl qz)), (q4, .inl (E.2.1, 60, .inl qz)), (q5, .inl (E.2.1, 60, .inl qz)), (q6, .inl (E.2.1, 60, .inl qz)), (q7, .inl (E.2.1, 300, .inl qz)), (q8, .inl (E.2.1, 300, .inl qz)), (q9, .inl (E.2.2.2, 300, .inl qz)), (q10, .inl (E.2.1, 300, .inl qz)), (q11, .inl (E.2.1, 300, .inl qz)), (q12, .inl (E.2.1, 300, .inl qz)), (q13, .inl (E.2.1, 300, .inl qz)), (q14, .inl (E.2.1, 300, .inl qz))] H := hP
  have hD : va_D A [(a0, .inr (5, [.int 0, .ref q1, .ref q2, .ref q3, .int 0, .ref q4, .ref q5, .ref q6, .int 0, .ref q7, .ref q8, .ref q9, .ref q10, .ref q11, .ref q12, .ref q13, .null, .null, .null])), (q1, .inl (E.2.1, 5, .inl qz)), (q2, .inl (E.2.1, 5, .inl qz)), (q3, .inl (E.2.1, 5, .inl qz)), (q4, .inl (E.2.1, 60, .inl qz)), (q5, .inl (E.2.1, 60, .inl qz)), (q6, .inl (E.2.1, 60, .inl qz)), (q7, .inl (E.2.1, 300, .inl qz)), (q8, .inl (E.2.1, 300, .inl qz)), (q9, .inl (E.2.2.2, 300, .inl qz)), (q10, .inl (E.2.1, 300, .inl qz)), (q11, .inl (E.2.1, 300, .inl qz)), (q12, .inl (E.2.1, 300, .inl qz)), (q13, .inl (E.2.1, 300, .inl qz)), (q14, .inl (E.2.1, 300, .inl qz))] := hD
  refine W.widen (k := 14) (n := 2595) (Nat.le_of_ble_eq_true rfl) (Nat.le_of_ble_eq_true rfl) ?_
  refine va_putF (D := E.1) (ci := 5) (v := .ref q14) (ty := .array .int) (C := RX5) (T := TX5) (N := 19) hx hb hts hinX5 tyX5 tyX5_ok nmX5 hown hK.1 hP hD hS 0 rfl rfl 16 (by decide) hw18 (fun _ h9 => h9) rfl hin rfl (by decide +kernel) rfl rfl (Nat.le_of_ble_eq_true rfl) dX5_init_118 (fun H locs hP hD hS => ?_)
  have hP : va_P E.1 vwCl [(a0, .inr (5, [.int 0, .ref q1, .ref q2, .ref q3, .int 0, .ref q4, .ref q5, .ref q6, .int 0, .ref q7, .ref q8, .ref q9, .ref q10, .ref q11, .ref q12, .ref q13, .ref q14, .null, .null])), (q1, .inl (E.2.1, 5, .inl qz)), (q2, .inl (E.2.1, 5, .inl qz)), (q3, .inl (E.2.1, 5, .inl qz)), (q4, .inl (E.2.1, 60, .inl qz)), (q5, .inl (E.2.1, 60, .inl qz)), (q6, .inl (E.2.1, 60, .inl qz)), (q7, .inl (E.2.1, 300, .inl qz)), (q8, .inl (E.2.1, 300, .inl qz)), (q9, .inl (E.2.2.2, 300, .inl qz)), (q10, .inl (E.2.1, 300, .inl qz)), (q11, .inl (E.2.1, 300, .inl qz)), (q12, .inl (E.2.1, 300, .inl qz)), (q13, .inl (E.2.1, 300, .inl qz)), (q14, .inl (E.2.1, 300, .inl qz))] H := hP
  have hD : va_D A [(a0, .inr (5, [.int 0, .ref q1, .ref q2, .ref q3, .int 0, .ref q4, .ref q5, .ref q6, .int 0, .ref q7, .ref q8, .ref q9, .ref q10, .ref q11, .ref q12, .ref q13, .ref q14, .null, .null])), (q1, .inl (E.2.1, 5, .inl qz)), (q2, .inl (E.2.1, 5, .inl qz)), (q3, .inl (E.2.1, 5, .inl qz)), (q4, .inl (E.2.1, 60, .inl qz)), (q5, .inl (E.2.1, 60, .inl qz)), (q6, .inl (E.2.1, 60, .inl qz)), (q7, .inl (E.2.1, 300, .inl qz)), (q8, .inl (E.2.1, 300, .inl qz)), (q9, .inl (E.2.2.2, 300, .inl qz)), (q10, .inl (E.2.1, 300, .inl qz)), (q11, .inl (E.2.1, 300, .inl qz)), (q12, .inl (E.2.1, 300, .inl qz)), (q13, .inl (E.2.1, 300, .inl qz)), (q14, .inl (E.2.1, 300, .inl qz))] := hD
  refine lv_aload_n hx hb dX5_init_121 rfl (lv_at hl 0 rfl) ?_
  refine lv_sipush (v := 300) hx hb dX5_init_122 (by decide) ?_
  refine q_newz hx hb hw12 hK hP hD hS hA 300 (by decide) (by decide) (by decide) (Nat.le_of_ble_eq_true rfl) (Nat.le_of_ble_eq_true rfl) dX5_init_125 (fun q15 H hP hD hS => ?_)
  have hP : va_P E.1 vwCl [(a0, .inr (5, [.int 0, .ref q1, .ref q2, .ref q3, .int 0, .ref q4, .ref q5, .ref q6, .int 0, .ref q7, .ref q8, .ref q9, .ref q10, .ref q11, .ref q12, .ref q13, .ref q14, .null, .null])), (q1, .inl (E.2.1, 5, .inl qz)), (q2, .inl (E.2.1, 5, .inl qz)), (q3, .inl (E.2.1, 5, .inl qz)), (q4, .inl (E.2.1, 60, .inl qz)), (q5, .inl (E.2.1, 60, .inl qz)), (q6, .inl (E.2.1, 60, .inl qz)), (q7, .inl (E.2.1, 300, .inl qz)), (q8, .inl (E.2.1, 300, .inl qz)), (q9, .inl (E.2.2.2, 300, .inl qz)), (q10, .inl (E.2.1, 300, .inl qz)), (q11, .inl (E.2.1, 300, .inl qz)), (q12, .inl (E.2.1, 300, .inl qz)), (q13, .inl (E.2.1, 300, .inl qz)), (q14, .inl (E.2.1, 300, .inl qz)), (q15, .inl (E.2.2.2, 300, .inl qz))] H := hP
  have hD : va_D A [(a0, .inr (5, [.int 0, .ref q1, .ref q2, .ref q3, .int 0, .ref q4, .ref q5, .ref q6, .int 0, .ref q7, .ref q8, .ref q9, .ref q10, .ref q11, .ref q12, .ref q13, .ref q14, .null, .null])), (q1, .inl (E.2.1, 5, .inl qz)), (q2, .inl (E.2.1, 5, .inl qz)), (q3, .inl (E.2.1, 5, .inl qz)), (q4, .inl (E.2.1, 60, .inl qz)), (q5, .inl (E.2.1, 60, .inl qz)), (q6, .inl (E.2.1, 60, .inl qz)), (q7, .inl (E.2.1, 300, .inl qz)), (q8, .inl (E.2.1, 300, .inl qz)), (q9, .inl (E.2.2.2, 300, .inl qz)), (q10, .inl (E.2.1, 300, .inl qz)), (q11, .inl (E.2.1, 300, .inl qz)), (q12, .inl (E.2.1, 300, .inl qz)), (q13, .inl (E.2.1, 300, .inl qz)), (q14, .inl (E.2.1, 300, .inl qz)), (q15, .inl (E.2.2.2, 300, .inl qz))] := hD
  refine W.widen (k := 15) (n := 2895) (Nat.le_of_ble_eq_true rfl) (Nat.le_of_ble_eq_true rfl) ?_
  refine va_putF (D := E.1) (ci := 5) (v := .ref q15) (ty := .array .boolean) (C := RX5) (T := TX5) (N := 19) hx hb hts hinX5 tyX5 tyX5_ok nmX5 hown hK.1 hP hD hS 0 rfl rfl 17 (by decide) hw19 (fun _ h9 => h9) rfl hin rfl (by decide +kernel) rfl rfl (Nat.le_of_ble_eq_true rfl) dX5_init_127 (fun H locs hP hD hS => ?_)
  have hP : va_P E.1 vwCl [(a0, .inr (5, [.int 0, .ref q1, .ref q2, .ref q3, .int 0, .ref q4, .ref q5, .ref q6, .int 0, .ref q7, .ref q8, .ref q9, .ref q10, .ref q11, .ref q12, .ref q13, .ref q14, .ref q15, .null])), (q1, .inl (E.2.1, 5, .inl qz)), (q2, .inl (E.2.1, 5, .inl qz)), (q3, .inl (E.2.1, 5, .inl qz)), (q4, .inl (E.2.1, 60, .inl qz)), (q5, .inl (E.2.1, 60, .inl qz)), (q6, .inl (E.2.1, 60, .inl qz)), (q7, .inl (E.2.1, 300, .inl qz)), (q8, .inl (E.2.1, 300, .inl qz)), (q9, .inl (E.2.2.2, 300, .inl qz)), (q10, .inl (E.2.1, 300, .inl qz)), (q11, .inl (E.2.1, 300, .inl qz)), (q12, .inl (E.2.1, 300, .inl qz)), (q13, .inl (E.2.1, 300, .inl qz)), (q14, .inl (E.2.1, 300, .inl qz)), (q15, .inl (E.2.2.2, 300, .inl qz))] H := hP
  have hD : va_D A [(a0, .inr (5, [.int 0, .ref q1, .ref q2, .ref q3, .int 0, .ref q4, .ref q5, .ref q6, .int 0, .ref q7, .ref q8, .ref q9, .ref q10, .ref q11, .ref q12, .ref q13, .ref q14, .ref q15, .null])), (q1, .inl (E.2.1, 5, .inl qz)), (q2, .inl (E.2.1, 5, .inl qz)), (q3, .inl (E.2.1, 5, .inl qz)), (q4, .inl (E.2.1, 60, .inl qz)), (q5, .inl (E.2.1, 60, .inl qz)), (q6, .inl (E.2.1, 60, .inl qz)), (q7, .inl (E.2.1, 300, .inl qz)), (q8, .inl (E.2.1, 300, .inl qz)), (q9, .inl (E.2.2.2, 300, .inl qz)), (q10, .inl (E.2.1, 300, .inl qz)), (q11, .inl (E.2.1, 300, .inl qz)), (q12, .inl (E.2.1, 300, .inl qz)), (q13, .inl (E.2.1, 300, .inl qz)), (q14, .inl (E.2.1, 300, .inl qz)), (q15, .inl (E.2.2.2, 300, .inl qz))] := hD
  refine lv_aload_n hx hb dX5_init_130 rfl (lv_at hl 0 rfl) ?_
  refine lv_sipush (v := 300) hx hb dX5_init_131 (by decide) ?_
  refine q_newi hx hb hw3 hK hP hD hS hA 300 (by decide) (by decide) (by decide) (Nat.le_of_ble_eq_true rfl) (Nat.le_of_ble_eq_true rfl) dX5_init_134 (fun q16 H hP hD hS => ?_)
  have hP : va_P E.1 vwCl [(a0, .inr (5, [.int 0, .ref q1, .ref q2, .ref q3, .int 0, .ref q4, .ref q5, .ref q6, .int 0, .ref q7, .ref q8, .ref q9, .ref q10, .ref q11, .ref q12, .ref q13, .ref q14, .ref q15, .null])), (q1, .inl (E.2.1, 5, .inl qz)), (q2, .inl (E.2.1, 5, .inl qz)), (q3, .inl (E.2.1, 5, .inl qz)), (q4, .inl (E.2.1, 60, .inl qz)), (q5, .inl (E.2.1, 60, .inl qz)), (q6, .inl (E.2.1, 60, .inl qz)), (q7, .inl (E.2.1, 300, .inl qz)), (q8, .inl (E.2.1, 300, .inl qz)), (q9, .inl (E.2.2.2, 300, .inl qz)), (q10, .inl (E.2.1, 300, .inl qz)), (q11, .inl (E.2.1, 300, .inl qz)), (q12, .inl (E.2.1, 300, .inl qz)), (q13, .inl (E.2.1, 300, .inl qz)), (q14, .inl (E.2.1, 300, .inl qz)), (q15, .inl (E.2.2.2, 300, .inl qz)), (q16, .inl (E.2.1, 300, .inl qz))] H := hP
  have hD : va_D A [(a0, .inr (5, [.int 0, .ref q1, .ref q2, .ref q3, .int 0, .ref q4, .ref q5, .ref q6, .int 0, .ref q7, .ref q8, .ref q9, .ref q10, .ref q11, .ref q12, .ref q13, .ref q14, .ref q15, .null])), (q1, .inl (E.2.1, 5, .inl qz)), (q2, .inl (E.2.1, 5, .inl qz)), (q3, .inl (E.2.1, 5, .inl qz)), (q4, .inl (E.2.1, 60, .inl qz)), (q5, .inl (E.2.1, 60, .inl qz)), (q6, .inl (E.2.1, 60, .inl qz)), (q7, .inl (E.2.1, 300, .inl qz)), (q8, .inl (E.2.1, 300, .inl qz)), (q9, .inl (E.2.2.2, 300, .inl qz)), (q10, .inl (E.2.1, 300, .inl qz)), (q11, .inl (E.2.1, 300, .inl qz)), (q12, .inl (E.2.1, 300, .inl qz)), (q13, .inl (E.2.1, 300, .inl qz)), (q14, .inl (E.2.1, 300, .inl qz)), (q15, .inl (E.2.2.2, 300, .inl qz)), (q16, .inl (E.2.1, 300, .inl qz))] := hD
  refine W.widen (k := 16) (n := 3195) (Nat.le_of_ble_eq_true rfl) (Nat.le_of_ble_eq_true rfl) ?_
  refine va_putF (D := E.1) (ci := 5) (v := .ref q16) (ty := .array .int) (C := RX5) (T := TX5) (N := 19) hx hb hts hinX5 tyX5 tyX5_ok nmX5 hown hK.1 hP hD hS 0 rfl rfl 18 (by decide) hw20 (fun _ h9 => h9) rfl hin rfl (by decide +kernel) rfl rfl (Nat.le_of_ble_eq_true rfl) dX5_init_136 (fun H locs hP hD hS => ?_)
  have hP : va_P E.1 vwCl [(a0, .inr (5, [.int 0, .ref q1, .ref q2, .ref q3, .int 0, .ref q4, .ref q5, .ref q6, .int 0, .ref q7, .ref q8, .ref q9, .ref q10, .ref q11, .ref q12, .ref q13, .ref q14, .ref q15, .ref q16])), (q1, .inl (E.2.1, 5, .inl qz)), (q2, .inl (E.2.1, 5, .inl qz)), (q3, .inl (E.2.1, 5, .inl qz)), (q4, .inl (E.2.1, 60, .inl qz)), (q5, .inl (E.2.1, 60, .inl qz)), (q6, .inl (E.2.1, 60, .inl qz)), (q7, .inl (E.2.1, 300, .inl qz)), (q8, .inl (E.2.1, 300, .inl qz)), (q9, .inl (E.2.2.2, 300, .inl qz)), (q10, .inl (E.2.1, 300, .inl qz)), (q11, .inl (E.2.1, 300, .inl qz)), (q12, .inl (E.2.1, 300, .inl qz)), (q13, .inl (E.2.1, 300, .inl qz)), (q14, .inl (E.2.1, 300, .inl qz)), (q15, .inl (E.2.2.2, 300, .inl qz)), (q16, .inl (E.2.1, 300, .inl qz))] H := hP
  have hD : va_D A [(a0, .inr (5, [.int 0, .ref q1, .ref q2, .ref q3, .int 0, .ref q4, .ref q5, .ref q6, .int 0, .ref q7, .ref q8, .ref q9, .ref q10, .ref q11, .ref q12, .ref q13, .ref q14, .ref q15, .ref q16])), (q1, .inl (E.2.1, 5, .inl qz)), (q2, .inl (E.2.1, 5, .inl qz)), (q3, .inl (E.2.1, 5, .inl qz)), (q4, .inl (E.2.1, 60, .inl qz)), (q5, .inl (E.2.1, 60, .inl qz)), (q6, .inl (E.2.1, 60, .inl qz)), (q7, .inl (E.2.1, 300, .inl qz)), (q8, .inl (E.2.1, 300, .inl qz)), (q9, .inl (E.2.2.2, 300, .inl qz)), (q10, .inl (E.2.1, 300, .inl qz)), (q11, .inl (E.2.1, 300, .inl qz)), (q12, .inl (E.2.1, 300, .inl qz)), (q13, .inl (E.2.1, 300, .inl qz)), (q14, .inl (E.2.1, 300, .inl qz)), (q15, .inl (E.2.2.2, 300, .inl qz)), (q16, .inl (E.2.1, 300, .inl qz))] := hD
  exact hRt (qAd [a0, q1, q2, q3, q4, q5, q6, q7, q8, q9, q10, q11, q12, q13, q14, q15, q16]) 139 _ _ _ rfl dX5_init_139 hP hD hS
abbrev qU5 : Type := (Nat → Nat) × (Nat → Nat) × (Nat → Nat) × (Nat → Nat) × (Nat → Nat)
def wX4i (E : qE) (a0 : Nat) (o : qA) (u : qU5) : va_W := WQ a0 u.1 u.2.1 u.2.2.1 u.2.2.2.1 u.2.2.2.2 0 ++ (WN E u.1 (0, 0, 0, qz, qz, qz, qz, qz, qz, o, qz) ++ (WT E u.2.1 (qz, qz, qz) ++ (WF E u.2.2.1 (0, 0, qz, qz, qz, qz, qzJ) ++ (WP E u.2.2.2.1 (qz, qz, qz, qz, qz, qz, qz, qz) ++ WP E u.2.2.2.2 (qz, qz, qz, qz, qz, qz, qz, qz)))))
def rmX4_init : Room := { frames := 2, cells := 37, slots := 5412, locals := 43 }
set_option maxHeartbeats 8000000 in
set_option maxRecDepth 100000 in
theorem wX4_init (l : Launch) (E : qE) (a0 : Nat) (o : qA) (hf : mJ7_fill_53178 qz (-1) = some o) : MCt l E yX4_init wsX4_init rmX4_init [.ref a0] [(a0, .inr (4, [.null, .null, .null, .null, .null, .int 0]))] (fun _ : qU5 => True) (wX4i E a0 o) 37 5412 := by
  refine q_startC (cc := cX4_init) (maxL := 1) (by decide) rfl rfl (Nat.le_of_ble_eq_true rfl) ?_
  intro pr e s m args below meth c A Q hx hb hml hown hts hK hin hRt hP hD hA hS ls hl
  have hl : lv_has ls 1 [(0, .ref a0)] := hl
  have hinX0 : ∀ w ∈ wsX00, w ∈ wsX4_init := by decide +kernel
  have hinX1 : ∀ w ∈ wsX10, w ∈ wsX4_init := by decide +kernel
  have hinX2 : ∀ w ∈ wsX20, w ∈ wsX4_init := by decide +kernel
  have hinX3 : ∀ w ∈ wsX30, w ∈ wsX4_init := by decide +kernel
  have hinX4 : ∀ w ∈ wsX40, w ∈ wsX4_init := by decide +kernel
  have hw0 := hts (.methodLink RX4 3 objectInit) (by decide +kernel)
  have hw1 := hts (.instanceMethod objectInit) (by decide +kernel)
  have hw2 := hts (.code objectInit ⟨#[0xb1]⟩ 1 none) (by decide +kernel)
  have hw3 := hts (.classLink RX4 9 RX1) (by decide +kernel)
  have hw4 := hts (.instantiable RX1 11) (by decide +kernel)
  have hw5 := hts (.initialized RX1) (by decide +kernel)
  have hw6 := hts (.methodLink RX4 11 yX1_init) (by decide +kernel)
  have hw7 := hts (.instanceMethod yX1_init) (by decide +kernel)
  have hw8 := hts (.fieldLink RX4 12 "QueueReader" "net" "LQueueReader$Net;") (by decide +kernel)
  have hw9 := hts (.classLink RX4 16 RX3) (by decide +kernel)
  have hw10 := hts (.instantiable RX3 3) (by decide +kernel)
  have hw11 := hts (.initialized RX3) (by decide +kernel)
  have hw12 := hts (.methodLink RX4 18 yX3_init) (by decide +kernel)
  have hw13 := hts (.instanceMethod yX3_init) (by decide +kernel)
  have hw14 := hts (.fieldLink RX4 19 "QueueReader" "told" "LQueueReader$Tracks;") (by decide +kernel)
  have hw15 := hts (.classLink RX4 23 RX0) (by decide +kernel)
  have hw16 := hts (.instantiable RX0 7) (by decide +kernel)
  have hw17 := hts (.initialized RX0) (by decide +kernel)
  have hw18 := hts (.methodLink RX4 25 yX0_init) (by decide +kernel)
  have hw19 := hts (.instanceMethod yX0_init) (by decide +kernel)
  have hw20 := hts (.fieldLink RX4 26 "QueueReader" "fit" "LQueueReader$Fit;") (by decide +kernel)
  have hw21 := hts (.classLink RX4 30 RX2) (by decide +kernel)
  have hw22 := hts (.instantiable RX2 8) (by decide +kernel)
  have hw23 := hts (.initialized RX2) (by decide +kernel)
  have hw24 := hts (.methodLink RX4 32 yX2_init) (by decide +kernel)
  have hw25 := hts (.instanceMethod yX2_init) (by decide +kernel)
  have hw26 := hts (.fieldLink RX4 33 "QueueReader" "play" "LQueueReader$Play;") (by decide +kernel)
  have hw27 := hts (.fieldLink RX4 37 "QueueReader" "trial" "LQueueReader$Play;") (by decide +kernel)
  have hw28 := hts (.fieldLink RX4 40 "QueueReader" "isPlayFresh" "Z") (by decide +kernel)
  refine lv_aload_n hx hb dX4_init_0 rfl (lv_at hl 0 rfl) ?_
  refine W.objInit hx hb hown hw0 hw1 hw2 rfl (by rw [hml]; exact hl.1) rfl dX4_init_1 (Nat.le_of_ble_eq_true rfl) (Nat.le_of_ble_eq_true rfl) ?_
  refine W.eq (g2 := F0 m 4 ls []) rfl ?_
  refine lv_aload_n hx hb dX4_init_4 rfl (lv_at hl 0 rfl) ?_
  refine va_new (ci := 1) (fs := [.int 0, .int 0, .int 0, .null, .null, .null, .null, .null, .null, .null, .null]) (C := RX1) (T := TX1) (N := 11) hx hb hts hinX1 tyX1 tyX1_ok hown hw3 hw4 hw5 hK.1 hP hD hS hA rfl (fun j hj => by rcases (show j = 0 ∨ j = 1 ∨ j = 2 ∨ j = 3 ∨ j = 4 ∨ j = 5 ∨ j = 6 ∨ j = 7 ∨ j = 8 ∨ j = 9 ∨ j = 10 by omega) with rfl | rfl | rfl | rfl | rfl | rfl | rfl | rfl | rfl | rfl | rfl <;> rfl) (Nat.le_of_ble_eq_true rfl) (Nat.le_of_ble_eq_true rfl) dX4_init_5 (fun q1 H hP hD hS => ?_)
  refine W.widen (k := 1) (n := 11) (Nat.le_of_ble_eq_true rfl) (Nat.le_of_ble_eq_true rfl) ?_
  refine lv_dup hx hb dX4_init_8 rfl ?_
  refine q_cC (wr := [(a0, .inr (4, [.null, .null, .null, .null, .null, .int 0]))]) (va_runI (As := []) (rest := [.ref q1, .ref a0]) ⟨hx, hb, hml, hown, hts⟩ (wX1_init l E q1 o hf _) (cwI 0 hts gX4_init_X1_init rfl rfl rfl hw5 hw6 hw7 rfl (by decide +kernel) ⟨Nat.le_of_ble_eq_true rfl, Nat.le_of_ble_eq_true rfl⟩) (q_preC (wr := [(a0, .inr (4, [.null, .null, .null, .null, .null, .int 0]))]) hK hP hD) rfl rfl hl.1 rfl (lv_room (Nat.le_of_ble_eq_true rfl)) dX4_init_9 ⟨Nat.le_of_ble_eq_true rfl, Nat.le_of_ble_eq_true rfl⟩) hP hD hS hA (fun u1 H locs he hPn hDn hS => ?_)
  subst he
  have hP : va_P E.1 vwCl (([(a0, .inr (4, [.null, .null, .null, .null, .null, .int 0]))]) ++ WN E u1 (0, 0, 0, qz, qz, qz, qz, qz, qz, o, qz)) H := hPn
  have hD : va_D A (([(a0, .inr (4, [.null, .null, .null, .null, .null, .int 0]))]) ++ WN E u1 (0, 0, 0, qz, qz, qz, qz, qz, qz, o, qz)) := hDn
  refine W.widen (k := 9) (n := 806) (Nat.le_of_ble_eq_true rfl) (Nat.le_of_ble_eq_true rfl) ?_
  refine va_putF (D := E.1) (ci := 4) (v := .ref (u1 0)) (ty := .object "QueueReader$Net") (C := RX4) (T := TX4) (N := 6) hx hb hts hinX4 tyX4 tyX4_ok nmX4 hown hK.1 hP hD hS 0 rfl rfl 0 (by decide) hw8 (fun _ h9 => h9) rfl hin rfl (by decide +kernel) rfl rfl (Nat.le_of_ble_eq_true rfl) dX4_init_12 (fun H locs hP hD hS => ?_)
  have hP : va_P E.1 vwCl (([(a0, .inr (4, [.ref (u1 0), .null, .null, .null, .null, .int 0]))]) ++ WN E u1 (0, 0, 0, qz, qz, qz, qz, qz, qz, o, qz)) H := hP
  have hD : va_D A (([(a0, .inr (4, [.ref (u1 0), .null, .null, .null, .null, .int 0]))]) ++ WN E u1 (0, 0, 0, qz, qz, qz, qz, qz, qz, o, qz)) := hD
  refine lv_aload_n hx hb dX4_init_15 rfl (lv_at hl 0 rfl) ?_
  refine va_new (ci := 3) (fs := [.null, .null, .null]) (C := RX3) (T := TX3) (N := 3) hx hb hts hinX3 tyX3 tyX3_ok hown hw9 hw10 hw11 hK.1 hP hD hS hA rfl (fun j hj => by rcases (show j = 0 ∨ j = 1 ∨ j = 2 by omega) with rfl | rfl | rfl <;> rfl) (Nat.le_of_ble_eq_true rfl) (Nat.le_of_ble_eq_true rfl) dX4_init_16 (fun q2 H hP hD hS => ?_)
  refine W.widen (k := 10) (n := 809) (Nat.le_of_ble_eq_true rfl) (Nat.le_of_ble_eq_true rfl) ?_
  refine lv_dup hx hb dX4_init_19 rfl ?_
  refine q_cC (wr := ([(a0, .inr (4, [.ref (u1 0), .null, .null, .null, .null, .int 0]))]) ++ WN E u1 (0, 0, 0, qz, qz, qz, qz, qz, qz, o, qz)) (va_runI (As := []) (rest := [.ref q2, .ref a0]) ⟨hx, hb, hml, hown, hts⟩ (wX3_init l E q2 _) (cwI 0 hts gX4_init_X3_init rfl rfl rfl hw11 hw12 hw13 rfl (by decide +kernel) ⟨Nat.le_of_ble_eq_true rfl, Nat.le_of_ble_eq_true rfl⟩) (q_preC (wr := ([(a0, .inr (4, [.ref (u1 0), .null, .null, .null, .null, .int 0]))]) ++ WN E u1 (0, 0, 0, qz, qz, qz, qz, qz, qz, o, qz)) hK hP hD) rfl rfl hl.1 rfl (lv_room (Nat.le_of_ble_eq_true rfl)) dX4_init_20 ⟨Nat.le_of_ble_eq_true rfl, Nat.le_of_ble_eq_true rfl⟩) hP hD hS hA (fun u2 H locs he hPn hDn hS => ?_)
  subst he
  have hP : va_P E.1 vwCl ((([(a0, .inr (4, [.ref (u1 0), .null, .null, .null, .null, .int 0]))]) ++ WN E u1 (0, 0, 0, qz, qz, qz, qz, qz, qz, o, qz)) ++ WT E u2 (qz, qz, qz)) H := hPn
  have hD : va_D A ((([(a0, .inr (4, [.ref (u1 0), .null, .null, .null, .null, .int 0]))]) ++ WN E u1 (0, 0, 0, qz, qz, qz, qz, qz, qz, o, qz)) ++ WT E u2 (qz, qz, qz)) := hDn
  refine W.widen (k := 13) (n := 1709) (Nat.le_of_ble_eq_true rfl) (Nat.le_of_ble_eq_true rfl) ?_
  refine va_putF (D := E.1) (ci := 4) (v := .ref (u2 0)) (ty := .object "QueueReader$Tracks") (C := RX4) (T := TX4) (N := 6) hx hb hts hinX4 tyX4 tyX4_ok nmX4 hown hK.1 hP hD hS 0 rfl rfl 1 (by decide) hw14 (fun _ h9 => h9) rfl hin rfl (by decide +kernel) rfl rfl (Nat.le_of_ble_eq_true rfl) dX4_init_23 (fun H locs hP hD hS => ?_)
  have hP : va_P E.1 vwCl ((([(a0, .inr (4, [.ref (u1 0), .ref (u2 0), .null, .null, .null, .int 0]))]) ++ WN E u1 (0, 0, 0, qz, qz, qz, qz, qz, qz, o, qz)) ++ WT E u2 (qz, qz, qz)) H := hP
  have hD : va_D A ((([(a0, .inr (4, [.ref (u1 0), .ref (u2 0), .null, .null, .null, .int 0]))]) ++ WN E u1 (0, 0, 0, qz, qz, qz, qz, qz, qz, o, qz)) ++ WT E u2 (qz, qz, qz)) := hD
  refine lv_aload_n hx hb dX4_init_26 rfl (lv_at hl 0 rfl) ?_
  refine va_new (ci := 0) (fs := [.int 0, .int 0, .null, .null, .null, .null, .null]) (C := RX0) (T := TX0) (N := 7) hx hb hts hinX0 tyX0 tyX0_ok hown hw15 hw16 hw17 hK.1 hP hD hS hA rfl (fun j hj => by rcases (show j = 0 ∨ j = 1 ∨ j = 2 ∨ j = 3 ∨ j = 4 ∨ j = 5 ∨ j = 6 by omega) with rfl | rfl | rfl | rfl | rfl | rfl | rfl <;> rfl) (Nat.le_of_ble_eq_true rfl) (Nat.le_of_ble_eq_true rfl) dX4_init_27 (fun q3 H hP hD hS => ?_)
  refine W.widen (k := 14) (n := 1716) (Nat.le_of_ble_eq_true rfl) (Nat.le_of_ble_eq_true rfl) ?_
  refine lv_dup hx hb dX4_init_30 rfl ?_
  refine q_cC (wr := (([(a0, .inr (4, [.ref (u1 0), .ref (u2 0), .null, .null, .null, .int 0]))]) ++ WN E u1 (0, 0, 0, qz, qz, qz, qz, qz, qz, o, qz)) ++ WT E u2 (qz, qz, qz)) (va_runI (As := []) (rest := [.ref q3, .ref a0]) ⟨hx, hb, hml, hown, hts⟩ (wX0_init l E q3 _) (cwI 0 hts gX4_init_X0_init rfl rfl rfl hw17 hw18 hw19 rfl (by decide +kernel) ⟨Nat.le_of_ble_eq_true rfl, Nat.le_of_ble_eq_true rfl⟩) (q_preC (wr := (([(a0, .inr (4, [.ref (u1 0), .ref (u2 0), .null, .null, .null, .int 0]))]) ++ WN E u1 (0, 0, 0, qz, qz, qz, qz, qz, qz, o, qz)) ++ WT E u2 (qz, qz, qz)) hK hP hD) rfl rfl hl.1 rfl (lv_room (Nat.le_of_ble_eq_true rfl)) dX4_init_31 ⟨Nat.le_of_ble_eq_true rfl, Nat.le_of_ble_eq_true rfl⟩) hP hD hS hA (fun u3 H locs he hPn hDn hS => ?_)
  subst he
  have hP : va_P E.1 vwCl (((([(a0, .inr (4, [.ref (u1 0), .ref (u2 0), .null, .null, .null, .int 0]))]) ++ WN E u1 (0, 0, 0, qz, qz, qz, qz, qz, qz, o, qz)) ++ WT E u2 (qz, qz, qz)) ++ WF E u3 (0, 0, qz, qz, qz, qz, qzJ)) H := hPn
  have hD : va_D A (((([(a0, .inr (4, [.ref (u1 0), .ref (u2 0), .null, .null, .null, .int 0]))]) ++ WN E u1 (0, 0, 0, qz, qz, qz, qz, qz, qz, o, qz)) ++ WT E u2 (qz, qz, qz)) ++ WF E u3 (0, 0, qz, qz, qz, qz, qzJ)) := hDn
  refine W.widen (k := 19) (n := 3216) (Nat.le_of_ble_eq_true rfl) (Nat.le_of_ble_eq_true rfl) ?_
  refine va_putF (D := E.1) (ci := 4) (v := .ref (u3 0)) (ty := .object "QueueReader$Fit") (C := RX4) (T := TX4) (N := 6) hx hb hts hinX4 tyX4 tyX4_ok nmX4 hown hK.1 hP hD hS 0 rfl rfl 2 (by decide) hw20 (fun _ h9 => h9) rfl hin rfl (by decide +kernel) rfl rfl (Nat.le_of_ble_eq_true rfl) dX4_init_34 (fun H locs hP hD hS => ?_)
  have hP : va_P E.1 vwCl (((([(a0, .inr (4, [.ref (u1 0), .ref (u2 0), .ref (u3 0), .null, .null, .int 0]))]) ++ WN E u1 (0, 0, 0, qz, qz, qz, qz, qz, qz, o, qz)) ++ WT E u2 (qz, qz, qz)) ++ WF E u3 (0, 0, qz, qz, qz, qz, qzJ)) H := hP
  have hD : va_D A (((([(a0, .inr (4, [.ref (u1 0), .ref (u2 0), .ref (u3 0), .null, .null, .int 0]))]) ++ WN E u1 (0, 0, 0, qz, qz, qz, qz, qz, qz, o, qz)) ++ WT E u2 (qz, qz, qz)) ++ WF E u3 (0, 0, qz, qz, qz, qz, qzJ)) := hD
  refine lv_aload_n hx hb dX4_init_37 rfl (lv_at hl 0 rfl) ?_
  refine va_new (ci := 2) (fs := [.null, .null, .null, .null, .null, .null, .null, .null]) (C := RX2) (T := TX2) (N := 8) hx hb hts hinX2 tyX2 tyX2_ok hown hw21 hw22 hw23 hK.1 hP hD hS hA rfl (fun j hj => by rcases (show j = 0 ∨ j = 1 ∨ j = 2 ∨ j = 3 ∨ j = 4 ∨ j = 5 ∨ j = 6 ∨ j = 7 by omega) with rfl | rfl | rfl | rfl | rfl | rfl | rfl | rfl <;> rfl) (Nat.le_of_ble_eq_true rfl) (Nat.le_of_ble_eq_true rfl) dX4_init_38 (fun q4 H hP hD hS => ?_)
  refine W.widen (k := 20) (n := 3224) (Nat.le_of_ble_eq_true rfl) (Nat.le_of_ble_eq_true rfl) ?_
  refine lv_dup hx hb dX4_init_41 rfl ?_
  refine q_cC (wr := ((([(a0, .inr (4, [.ref (u1 0), .ref (u2 0), .ref (u3 0), .null, .null, .int 0]))]) ++ WN E u1 (0, 0, 0, qz, qz, qz, qz, qz, qz, o, qz)) ++ WT E u2 (qz, qz, qz)) ++ WF E u3 (0, 0, qz, qz, qz, qz, qzJ)) (va_runI (As := []) (rest := [.ref q4, .ref a0]) ⟨hx, hb, hml, hown, hts⟩ (wX2_init l E q4 _) (cwI 0 hts gX4_init_X2_init rfl rfl rfl hw23 hw24 hw25 rfl (by decide +kernel) ⟨Nat.le_of_ble_eq_true rfl, Nat.le_of_ble_eq_true rfl⟩) (q_preC (wr := ((([(a0, .inr (4, [.ref (u1 0), .ref (u2 0), .ref (u3 0), .null, .null, .int 0]))]) ++ WN E u1 (0, 0, 0, qz, qz, qz, qz, qz, qz, o, qz)) ++ WT E u2 (qz, qz, qz)) ++ WF E u3 (0, 0, qz, qz, qz, qz, qzJ)) hK hP hD) rfl rfl hl.1 rfl (lv_room (Nat.le_of_ble_eq_true rfl)) dX4_init_42 ⟨Nat.le_of_ble_eq_true rfl, Nat.le_of_ble_eq_true rfl⟩) hP hD hS hA (fun u4 H locs he hPn hDn hS => ?_)
  subst he
  have hP : va_P E.1 vwCl ((((([(a0, .inr (4, [.ref (u1 0), .ref (u2 0), .ref (u3 0), .null, .null, .int 0]))]) ++ WN E u1 (0, 0, 0, qz, qz, qz, qz, qz, qz, o, qz)) ++ WT E u2 (qz, qz, qz)) ++ WF E u3 (0, 0, qz, qz, qz, qz, qzJ)) ++ WP E u4 (qz, qz, qz, qz, qz, qz, qz, qz)) H := hPn
  have hD : va_D A ((((([(a0, .inr (4, [.ref (u1 0), .ref (u2 0), .ref (u3 0), .null, .null, .int 0]))]) ++ WN E u1 (0, 0, 0, qz, qz, qz, qz, qz, qz, o, qz)) ++ WT E u2 (qz, qz, qz)) ++ WF E u3 (0, 0, qz, qz, qz, qz, qzJ)) ++ WP E u4 (qz, qz, qz, qz, qz, qz, qz, qz)) := hDn
  refine W.widen (k := 28) (n := 4314) (Nat.le_of_ble_eq_true rfl) (Nat.le_of_ble_eq_true rfl) ?_
  refine va_putF (D := E.1) (ci := 4) (v := .ref (u4 0)) (ty := .object "QueueReader$Play") (C := RX4) (T := TX4) (N := 6) hx hb hts hinX4 tyX4 tyX4_ok nmX4 hown hK.1 hP hD hS 0 rfl rfl 3 (by decide) hw26 (fun _ h9 => h9) rfl hin rfl (by decide +kernel) rfl rfl (Nat.le_of_ble_eq_true rfl) dX4_init_45 (fun H locs hP hD hS => ?_)
  have hP : va_P E.1 vwCl ((((([(a0, .inr (4, [.ref (u1 0), .ref (u2 0), .ref (u3 0), .ref (u4 0), .null, .int 0]))]) ++ WN E u1 (0, 0, 0, qz, qz, qz, qz, qz, qz, o, qz)) ++ WT E u2 (qz, qz, qz)) ++ WF E u3 (0, 0, qz, qz, qz, qz, qzJ)) ++ WP E u4 (qz, qz, qz, qz, qz, qz, qz, qz)) H := hP
  have hD : va_D A ((((([(a0, .inr (4, [.ref (u1 0), .ref (u2 0), .ref (u3 0), .ref (u4 0), .null, .int 0]))]) ++ WN E u1 (0, 0, 0, qz, qz, qz, qz, qz, qz, o, qz)) ++ WT E u2 (qz, qz, qz)) ++ WF E u3 (0, 0, qz, qz, qz, qz, qzJ)) ++ WP E u4 (qz, qz, qz, qz, qz, qz, qz, qz)) := hD
  refine lv_aload_n hx hb dX4_init_48 rfl (lv_at hl 0 rfl) ?_
  refine va_new (ci := 2) (fs := [.null, .null, .null, .null, .null, .null, .null, .null]) (C := RX2) (T := TX2) (N := 8) hx hb hts hinX2 tyX2 tyX2_ok hown hw21 hw22 hw23 hK.1 hP hD hS hA rfl (fun j hj => by rcases (show j = 0 ∨ j = 1 ∨ j = 2 ∨ j = 3 ∨ j = 4 ∨ j = 5 ∨ j = 6 ∨ j = 7 by omega) with rfl | rfl | rfl | rfl | rfl | rfl | rfl | rfl <;> rfl) (Nat.le_of_ble_eq_true rfl) (Nat.le_of_ble_eq_true rfl) dX4_init_49 (fun q5 H hP hD hS => ?_)
  refine W.widen (k := 29) (n := 4322) (Nat.le_of_ble_eq_true rfl) (Nat.le_of_ble_eq_true rfl) ?_
  refine lv_dup hx hb dX4_init_52 rfl ?_
  refine q_cC (wr := (((([(a0, .inr (4, [.ref (u1 0), .ref (u2 0), .ref (u3 0), .ref (u4 0), .null, .int 0]))]) ++ WN E u1 (0, 0, 0, qz, qz, qz, qz, qz, qz, o, qz)) ++ WT E u2 (qz, qz, qz)) ++ WF E u3 (0, 0, qz, qz, qz, qz, qzJ)) ++ WP E u4 (qz, qz, qz, qz, qz, qz, qz, qz)) (va_runI (As := []) (rest := [.ref q5, .ref a0]) ⟨hx, hb, hml, hown, hts⟩ (wX2_init l E q5 _) (cwI 0 hts gX4_init_X2_init rfl rfl rfl hw23 hw24 hw25 rfl (by decide +kernel) ⟨Nat.le_of_ble_eq_true rfl, Nat.le_of_ble_eq_true rfl⟩) (q_preC (wr := (((([(a0, .inr (4, [.ref (u1 0), .ref (u2 0), .ref (u3 0), .ref (u4 0), .null, .int 0]))]) ++ WN E u1 (0, 0, 0, qz, qz, qz, qz, qz, qz, o, qz)) ++ WT E u2 (qz, qz, qz)) ++ WF E u3 (0, 0, qz, qz, qz, qz, qzJ)) ++ WP E u4 (qz, qz, qz, qz, qz, qz, qz, qz)) hK hP hD) rfl rfl hl.1 rfl (lv_room (Nat.le_of_ble_eq_true rfl)) dX4_init_53 ⟨Nat.le_of_ble_eq_true rfl, Nat.le_of_ble_eq_true rfl⟩) hP hD hS hA (fun u5 H locs he hPn hDn hS => ?_)
  subst he
  have hP : va_P E.1 vwCl (((((([(a0, .inr (4, [.ref (u1 0), .ref (u2 0), .ref (u3 0), .ref (u4 0), .null, .int 0]))]) ++ WN E u1 (0, 0, 0, qz, qz, qz, qz, qz, qz, o, qz)) ++ WT E u2 (qz, qz, qz)) ++ WF E u3 (0, 0, qz, qz, qz, qz, qzJ)) ++ WP E u4 (qz, qz, qz, qz, qz, qz, qz, qz)) ++ WP E u5 (qz, qz, qz, qz, qz, qz, qz, qz)) H := hPn
  have hD : va_D A (((((([(a0, .inr (4, [.ref (u1 0), .ref (u2 0), .ref (u3 0), .ref (u4 0), .null, .int 0]))]) ++ WN E u1 (0, 0, 0, qz, qz, qz, qz, qz, qz, o, qz)) ++ WT E u2 (qz, qz, qz)) ++ WF E u3 (0, 0, qz, qz, qz, qz, qzJ)) ++ WP E u4 (qz, qz, qz, qz, qz, qz, qz, qz)) ++ WP E u5 (qz, qz, qz, qz, qz, qz, qz, qz)) := hDn
  refine W.widen (k := 37) (n := 5412) (Nat.le_of_ble_eq_true rfl) (Nat.le_of_ble_eq_true rfl) ?_
  refine va_putF (D := E.1) (ci := 4) (v := .ref (u5 0)) (ty := .object "QueueReader$Play") (C := RX4) (T := TX4) (N := 6) hx hb hts hinX4 tyX4 tyX4_ok nmX4 hown hK.1 hP hD hS 0 rfl rfl 4 (by decide) hw27 (fun _ h9 => h9) rfl hin rfl (by decide +kernel) rfl rfl (Nat.le_of_ble_eq_true rfl) dX4_init_56 (fun H locs hP hD hS => ?_)
  have hP : va_P E.1 vwCl (((((([(a0, .inr (4, [.ref (u1 0), .ref (u2 0), .ref (u3 0), .ref (u4 0), .ref (u5 0), .int 0]))]) ++ WN E u1 (0, 0, 0, qz, qz, qz, qz, qz, qz, o, qz)) ++ WT E u2 (qz, qz, qz)) ++ WF E u3 (0, 0, qz, qz, qz, qz, qzJ)) ++ WP E u4 (qz, qz, qz, qz, qz, qz, qz, qz)) ++ WP E u5 (qz, qz, qz, qz, qz, qz, qz, qz)) H := hP
  have hD : va_D A (((((([(a0, .inr (4, [.ref (u1 0), .ref (u2 0), .ref (u3 0), .ref (u4 0), .ref (u5 0), .int 0]))]) ++ WN E u1 (0, 0, 0, qz, qz, qz, qz, qz, qz, o, qz)) ++ WT E u2 (qz, qz, qz)) ++ WF E u3 (0, 0, qz, qz, qz, qz, qzJ)) ++ WP E u4 (qz, qz, qz, qz, qz, qz, qz, qz)) ++ WP E u5 (qz, qz, qz, qz, qz, qz, qz, qz)) := hD
  refine lv_aload_n hx hb dX4_init_59 rfl (lv_at hl 0 rfl) ?_
  refine lv_iconst (v := 0) hx hb dX4_init_60 (by decide) ?_
  refine va_put (D := E.1) (ci := 4) (v := .int 0) (ty := .boolean) (C := RX4) (T := TX4) (N := 6) hx hb hts hinX4 tyX4 tyX4_ok nmX4 hown hK.1 hP hD hS 0 rfl rfl 5 (by decide) hw28 (fun _ h9 => h9) rfl (by decide +kernel) rfl rfl (Nat.le_of_ble_eq_true rfl) dX4_init_61 (fun H locs hP hD hS => ?_)
  have hP : va_P E.1 vwCl (((((([(a0, .inr (4, [.ref (u1 0), .ref (u2 0), .ref (u3 0), .ref (u4 0), .ref (u5 0), .int 0]))]) ++ WN E u1 (0, 0, 0, qz, qz, qz, qz, qz, qz, o, qz)) ++ WT E u2 (qz, qz, qz)) ++ WF E u3 (0, 0, qz, qz, qz, qz, qzJ)) ++ WP E u4 (qz, qz, qz, qz, qz, qz, qz, qz)) ++ WP E u5 (qz, qz, qz, qz, qz, qz, qz, qz)) H := hP
  have hD : va_D A (((((([(a0, .inr (4, [.ref (u1 0), .ref (u2 0), .ref (u3 0), .ref (u4 0), .ref (u5 0), .int 0]))]) ++ WN E u1 (0, 0, 0, qz, qz, qz, qz, qz, qz, o, qz)) ++ WT E u2 (qz, qz, qz)) ++ WF E u3 (0, 0, qz, qz, qz, qz, qzJ)) ++ WP E u4 (qz, qz, qz, qz, qz, qz, qz, qz)) ++ WP E u5 (qz, qz, qz, qz, qz, qz, qz, qz)) := hD
  have pm : List.Perm (α := Nat × va_E) (((((([(a0, .inr (4, [.ref (u1 0), .ref (u2 0), .ref (u3 0), .ref (u4 0), .ref (u5 0), .int 0]))]) ++ WN E u1 (0, 0, 0, qz, qz, qz, qz, qz, qz, o, qz)) ++ WT E u2 (qz, qz, qz)) ++ WF E u3 (0, 0, qz, qz, qz, qz, qzJ)) ++ WP E u4 (qz, qz, qz, qz, qz, qz, qz, qz)) ++ WP E u5 (qz, qz, qz, qz, qz, qz, qz, qz)) (wX4i E a0 o (u1, u2, u3, u4, u5)) := by
    show List.Perm _ (([(a0, .inr (4, [.ref (u1 0), .ref (u2 0), .ref (u3 0), .ref (u4 0), .ref (u5 0), .int 0]))] : va_W) ++ (WN E u1 (0, 0, 0, qz, qz, qz, qz, qz, qz, o, qz) ++ (WT E u2 (qz, qz, qz) ++ (WF E u3 (0, 0, qz, qz, qz, qz, qzJ) ++ (WP E u4 (qz, qz, qz, qz, qz, qz, qz, qz) ++ WP E u5 (qz, qz, qz, qz, qz, qz, qz, qz))))))
    simp only [List.append_assoc]; exact List.Perm.refl _
  exact hRt (u1, u2, u3, u4, u5) 64 _ _ _ trivial dX4_init_64 (q_Pm pm hP) (q_Dm pm hD) hS
