def mX0_isAhead (vF : SF) (x1 : Int32) (x2 : Int32) : Option Int32 := ck x1 300 (ck x2 300 (if (lg_cmp ((F_ranks vF) (Int32.toNatClampNeg x1)) ((F_ranks vF) (Int32.toNatClampNeg x2))) < 0 then (some 1) else (ck x1 300 (ck x2 300 (if (lg_cmp ((F_ranks vF) (Int32.toNatClampNeg x1)) ((F_ranks vF) (Int32.toNatClampNeg x2))) = 0 then (if x2 ≤ x1 then (some 0) else (some 1)) else (some 0))))))
def rmX0_isAhead : Room := { frames := 0, cells := 0, slots := 0, locals := 0 }
set_option maxHeartbeats 8000000 in
set_option maxRecDepth 100000 in
theorem wX0_isAhead (l : Launch) (E : qE) (aF : Nat → Nat) (vF : SF) (x1 : Int32) (x2 : Int32) (o : Int32) (h : mX0_isAhead vF x1 x2 = some o) : MI l E yX0_isAhead wsX0_isAhead rmX0_isAhead [.ref (aF 0), .int x1, .int x2] (WF E aF vF) (WF E aF vF) o := by
  refine q_startZ (cc := cX0_isAhead) (maxL := 3) (by decide) rfl (Nat.le_of_ble_eq_true rfl) ?_
  intro pr e s m args below meth c A Q hx hb hml hown hts hK hRt hP hD hA hS ls hl
  have hl : lv_has ls 3 [(0, .ref (aF 0)), (1, .int x1), (2, .int x2)] := hl
  have hinX0 : ∀ w ∈ wsX00, w ∈ wsX0_isAhead := by decide +kernel
  have hw0 := hts (.fieldLink RX0 32 "QueueReader$Fit" "ranks" "[J") (by decide +kernel)
  unfold mX0_isAhead at h
  refine lv_aload_n hx hb dX0_isAhead_0 rfl (lv_at hl 0 rfl) ?_
  refine va_get (D := E.1) (ci := 0) (v := .ref (aF 5)) (C := RX0) (T := TX0) (N := 7) hx hb hts hinX0 hown hK.1 hP 0 rfl rfl 6 (by decide) hw0 (fun _ h9 => h9) rfl dX0_isAhead_1 ?_
  refine lv_iload_n hx hb dX0_isAhead_4 rfl (lv_at hl 1 rfl) ?_
  obtain ⟨i1, h⟩ := q_ck h
  refine va_lald (f := (F_ranks vF)) hx hb hK.1 hP 5 1 rfl rfl i1 dX0_isAhead_5 ?_
  refine lv_aload_n hx hb dX0_isAhead_6 rfl (lv_at hl 0 rfl) ?_
  refine va_get (D := E.1) (ci := 0) (v := .ref (aF 5)) (C := RX0) (T := TX0) (N := 7) hx hb hts hinX0 hown hK.1 hP 0 rfl rfl 6 (by decide) hw0 (fun _ h9 => h9) rfl dX0_isAhead_7 ?_
  refine lv_iload_n hx hb dX0_isAhead_10 rfl (lv_at hl 2 rfl) ?_
  obtain ⟨i2, h⟩ := q_ck h
  refine va_lald (f := (F_ranks vF)) hx hb hK.1 hP 5 1 rfl rfl i2 dX0_isAhead_11 ?_
  refine W.lcmp hx hb dX0_isAhead_12 ?_
  refine lv_if_lt (tgt := 37) hx hb dX0_isAhead_13 (by decide) (fun c3 => ?_) (fun c3 => ?_)
  · have h := q_pos c3 h
    refine lv_iconst (v := 1) hx hb dX0_isAhead_37 (by decide) ?_
    refine lv_goto (tgt := 42) hx hb dX0_isAhead_38 (by decide) ?_
    obtain rfl := q_inj h
    exact hRt 42 _ _ _ dX0_isAhead_42 q_n1 hP hD hS
  · have h := q_neg c3 h
    refine lv_aload_n hx hb dX0_isAhead_16 rfl (lv_at hl 0 rfl) ?_
    refine va_get (D := E.1) (ci := 0) (v := .ref (aF 5)) (C := RX0) (T := TX0) (N := 7) hx hb hts hinX0 hown hK.1 hP 0 rfl rfl 6 (by decide) hw0 (fun _ h9 => h9) rfl dX0_isAhead_17 ?_
    refine lv_iload_n hx hb dX0_isAhead_20 rfl (lv_at hl 1 rfl) ?_
    obtain ⟨i4, h⟩ := q_ck h
    refine va_lald (f := (F_ranks vF)) hx hb hK.1 hP 5 1 rfl rfl i4 dX0_isAhead_21 ?_
    refine lv_aload_n hx hb dX0_isAhead_22 rfl (lv_at hl 0 rfl) ?_
    refine va_get (D := E.1) (ci := 0) (v := .ref (aF 5)) (C := RX0) (T := TX0) (N := 7) hx hb hts hinX0 hown hK.1 hP 0 rfl rfl 6 (by decide) hw0 (fun _ h9 => h9) rfl dX0_isAhead_23 ?_
    refine lv_iload_n hx hb dX0_isAhead_26 rfl (lv_at hl 2 rfl) ?_
    obtain ⟨i5, h⟩ := q_ck h
    refine va_lald (f := (F_ranks vF)) hx hb hK.1 hP 5 1 rfl rfl i5 dX0_isAhead_27 ?_
    refine W.lcmp hx hb dX0_isAhead_28 ?_
    refine lv_if_ne (tgt := 41) hx hb dX0_isAhead_29 (by decide) (fun c6 => ?_) (fun c6 => ?_)
    · have h := q_neg c6 h
      refine lv_iconst (v := 0) hx hb dX0_isAhead_41 (by decide) ?_
      obtain rfl := q_inj h
      exact hRt 42 _ _ _ dX0_isAhead_42 q_n0 hP hD hS
    · have h := q_pos c6 h
      refine lv_iload_n hx hb dX0_isAhead_32 rfl (lv_at hl 1 rfl) ?_
      refine lv_iload_n hx hb dX0_isAhead_33 rfl (lv_at hl 2 rfl) ?_
      refine lv_icmp_ge (tgt := 41) hx hb dX0_isAhead_34 (by decide) (fun c7 => ?_) (fun c7 => ?_)
      · have h := q_pos c7 h
        refine lv_iconst (v := 0) hx hb dX0_isAhead_41 (by decide) ?_
        obtain rfl := q_inj h
        exact hRt 42 _ _ _ dX0_isAhead_42 q_n0 hP hD hS
      · have h := q_neg c7 h
        refine lv_iconst (v := 1) hx hb dX0_isAhead_37 (by decide) ?_
        refine lv_goto (tgt := 42) hx hb dX0_isAhead_38 (by decide) ?_
        obtain rfl := q_inj h
        exact hRt 42 _ _ _ dX0_isAhead_42 q_n1 hP hD hS
def lpX0_isOrderedBy_2 (x1 : Int32) : Nat → Int32 → SF → Option SF
  | 0, _, _ => none
  | k + 1, x2, vF => if (F_size vF) ≤ x2 then (some vF) else (ck x2 300 (ck x2 300 (ck x2 300 (ck x2 300 ((mX4_rank x1 ((F_came vF) (Int32.toNatClampNeg x2)) (((F_done vF) (Int32.toNatClampNeg x2)) - ((F_begun vF) (Int32.toNatClampNeg x2))) ((F_kinds vF) (Int32.toNatClampNeg x2))).bind fun o22 => ck x2 300 (lpX0_isOrderedBy_2 x1 k (x2 + 1) (F_ranks_s vF (vp_updL (F_ranks vF) (Int32.toNatClampNeg x2) o22))))))))
def lpX0_isOrderedBy_63 (vF : SF) (x2 : Int32) : Nat → Int32 → Option (Sum (Int32 × SF) (Unit))
  | 0, _ => none
  | k + 1, x3 => if (F_size vF) ≤ x3 then (some (Sum.inr ())) else (ck x2 300 ((mX0_isLeftAt vF x3 ((F_begun vF) (Int32.toNatClampNeg x2))).bind fun o47 => if o47 = 0 then (lpX0_isOrderedBy_63 vF x2 k (x3 + 1)) else ((mX0_isAhead vF x3 x2).bind fun o50 => if o50 = 0 then (lpX0_isOrderedBy_63 vF x2 k (x3 + 1)) else (some (Sum.inl (0, vF))))))
def lpX0_isOrderedBy_53 (vF : SF) : Nat → Int32 → Option (Sum (Int32 × SF) (Unit))
  | 0, _ => none
  | k + 1, x2 => if (F_size vF) ≤ x2 then (some (Sum.inr ())) else ((lpX0_isOrderedBy_63 vF x2 qFU 0).bind fun o61 => qS o61 (fun z => Sum.inl z) fun vo61 => lpX0_isOrderedBy_53 vF k (x2 + 1))
def mX0_isOrderedBy (vF : SF) (x1 : Int32) : Option (Int32 × SF) := (lpX0_isOrderedBy_2 x1 qFU 0 vF).bind fun o25 => (lpX0_isOrderedBy_53 o25 qFU 0).bind fun o64 => qS o64 (fun z => z) fun vo64 => some (1, o25)
def rmX0_isOrderedBy : Room := { frames := 1, cells := 0, slots := 0, locals := 23 }
set_option maxHeartbeats 8000000 in
set_option maxRecDepth 100000 in
theorem wX0_isOrderedBy (l : Launch) (E : qE) (aF : Nat → Nat) (vF : SF) (x1 : Int32) (o : Int32 × SF) (h : mX0_isOrderedBy vF x1 = some o) : MI l E yX0_isOrderedBy wsX0_isOrderedBy rmX0_isOrderedBy [.ref (aF 0), .int x1] (WF E aF vF) (WF E aF o.2) o.1 := by
  refine q_startZ (cc := cX0_isOrderedBy) (maxL := 4) (by decide) rfl (Nat.le_of_ble_eq_true rfl) ?_
  intro pr e s m args below meth c A Q hx hb hml hown hts hK hRt hP hD hA hS ls hl
  have hl : lv_has ls 4 [(0, .ref (aF 0)), (1, .int x1)] := hl
  have hinX0 : ∀ w ∈ wsX00, w ∈ wsX0_isOrderedBy := by decide +kernel
  have hw0 := hts (.fieldLink RX0 9 "QueueReader$Fit" "size" "I") (by decide +kernel)
  have hw1 := hts (.fieldLink RX0 32 "QueueReader$Fit" "ranks" "[J") (by decide +kernel)
  have hw2 := hts (.fieldLink RX0 19 "QueueReader$Fit" "came" "[I") (by decide +kernel)
  have hw3 := hts (.fieldLink RX0 26 "QueueReader$Fit" "done" "[I") (by decide +kernel)
  have hw4 := hts (.fieldLink RX0 23 "QueueReader$Fit" "begun" "[I") (by decide +kernel)
  have hw5 := hts (.fieldLink RX0 29 "QueueReader$Fit" "kinds" "[I") (by decide +kernel)
  have hw6 := hts (.initialized RX4) (by decide +kernel)
  have hw7 := hts (.static yX4_rank) (by decide +kernel)
  have L2 : ∀ (vF : SF) (x1 : Int32) (x2 : Int32) (k : Nat) (H : Heap) (locs : List Loc) (ls : Array Slot), va_P E.1 vwCl (WF E aF vF) H → va_D A (WF E aF vF) → va_S A s.heap H locs → lv_has ls 4 [(0, .ref (aF 0)), (1, .int x1), (2, .int x2)] → ∀ o, lpX0_isOrderedBy_2 x1 k x2 vF = some o → (∀ (H : Heap) (locs : List Loc) (ls : Array Slot), va_P E.1 vwCl (WF E aF o) H → va_D A (WF E aF o) → va_S A s.heap H locs → lv_has ls 4 [(0, .ref (aF 0))] → W pr l e rmX0_isOrderedBy s m args below meth c H locs 0 0 Q (F0 m 51 ls [])) → W pr l e rmX0_isOrderedBy s m args below meth c H locs 0 0 Q (F0 m 2 ls []) := by
    intro vF x1 x2 k
    induction k generalizing x2 vF with
    | zero => intro H locs ls hP hD hS hl o h; cases h
    | succ k ih =>
      intro H locs ls hP hD hS hl o h kk
      rw [lpX0_isOrderedBy_2] at h
      refine lv_iload_n hx hb dX0_isOrderedBy_2 rfl (lv_at hl 2 rfl) ?_
      refine lv_aload_n hx hb dX0_isOrderedBy_3 rfl (lv_at hl 0 rfl) ?_
      refine va_get (D := E.1) (ci := 0) (v := .int (F_size vF)) (C := RX0) (T := TX0) (N := 7) hx hb hts hinX0 hown hK.1 hP 0 rfl rfl 0 (by decide) hw0 (fun _ h9 => h9) rfl dX0_isOrderedBy_4 ?_
      refine lv_icmp_ge (tgt := 51) hx hb dX0_isOrderedBy_7 (by decide) (fun c17 => ?_) (fun c17 => ?_)
      · have h := q_pos c17 h
        obtain rfl := q_inj h
        exact kk _ _ _ hP hD hS (lv_sub hl [0] rfl)
      · have h := q_neg c17 h
        refine lv_aload_n hx hb dX0_isOrderedBy_10 rfl (lv_at hl 0 rfl) ?_
        refine va_get (D := E.1) (ci := 0) (v := .ref (aF 5)) (C := RX0) (T := TX0) (N := 7) hx hb hts hinX0 hown hK.1 hP 0 rfl rfl 6 (by decide) hw1 (fun _ h9 => h9) rfl dX0_isOrderedBy_11 ?_
        refine lv_iload_n hx hb dX0_isOrderedBy_14 rfl (lv_at hl 2 rfl) ?_
        refine lv_iload_n hx hb dX0_isOrderedBy_15 rfl (lv_at hl 1 rfl) ?_
        refine lv_aload_n hx hb dX0_isOrderedBy_16 rfl (lv_at hl 0 rfl) ?_
        refine va_get (D := E.1) (ci := 0) (v := .ref (aF 1)) (C := RX0) (T := TX0) (N := 7) hx hb hts hinX0 hown hK.1 hP 0 rfl rfl 2 (by decide) hw2 (fun _ h9 => h9) rfl dX0_isOrderedBy_17 ?_
        refine lv_iload_n hx hb dX0_isOrderedBy_20 rfl (lv_at hl 2 rfl) ?_
        obtain ⟨i18, h⟩ := q_ck h
        refine va_iald (f := (F_came vF)) hx hb hK.1 hP 1 0 rfl rfl i18 dX0_isOrderedBy_21 ?_
        refine lv_aload_n hx hb dX0_isOrderedBy_22 rfl (lv_at hl 0 rfl) ?_
        refine va_get (D := E.1) (ci := 0) (v := .ref (aF 3)) (C := RX0) (T := TX0) (N := 7) hx hb hts hinX0 hown hK.1 hP 0 rfl rfl 4 (by decide) hw3 (fun _ h9 => h9) rfl dX0_isOrderedBy_23 ?_
        refine lv_iload_n hx hb dX0_isOrderedBy_26 rfl (lv_at hl 2 rfl) ?_
        obtain ⟨i19, h⟩ := q_ck h
        refine va_iald (f := (F_done vF)) hx hb hK.1 hP 3 0 rfl rfl i19 dX0_isOrderedBy_27 ?_
        refine lv_aload_n hx hb dX0_isOrderedBy_28 rfl (lv_at hl 0 rfl) ?_
        refine va_get (D := E.1) (ci := 0) (v := .ref (aF 2)) (C := RX0) (T := TX0) (N := 7) hx hb hts hinX0 hown hK.1 hP 0 rfl rfl 3 (by decide) hw4 (fun _ h9 => h9) rfl dX0_isOrderedBy_29 ?_
        refine lv_iload_n hx hb dX0_isOrderedBy_32 rfl (lv_at hl 2 rfl) ?_
        obtain ⟨i20, h⟩ := q_ck h
        refine va_iald (f := (F_begun vF)) hx hb hK.1 hP 2 0 rfl rfl i20 dX0_isOrderedBy_33 ?_
        refine lv_isub hx hb dX0_isOrderedBy_34 ?_
        refine lv_aload_n hx hb dX0_isOrderedBy_35 rfl (lv_at hl 0 rfl) ?_
        refine va_get (D := E.1) (ci := 0) (v := .ref (aF 4)) (C := RX0) (T := TX0) (N := 7) hx hb hts hinX0 hown hK.1 hP 0 rfl rfl 5 (by decide) hw5 (fun _ h9 => h9) rfl dX0_isOrderedBy_36 ?_
        refine lv_iload_n hx hb dX0_isOrderedBy_39 rfl (lv_at hl 2 rfl) ?_
        obtain ⟨i21, h⟩ := q_ck h
        refine va_iald (f := (F_kinds vF)) hx hb hK.1 hP 4 0 rfl rfl i21 dX0_isOrderedBy_40 ?_
        obtain ⟨o22, e23, h⟩ := q_bind h
        refine q_cl (va_runSN (As := [.int x1, .int ((F_came vF) (Int32.toNatClampNeg x2)), .int (((F_done vF) (Int32.toNatClampNeg x2)) - ((F_begun vF) (Int32.toNatClampNeg x2))), .int ((F_kinds vF) (Int32.toNatClampNeg x2))]) (rest := [.int x2, .ref (aF 5)]) ⟨hx, hb, hml, hown, hts⟩ (wX4_rank l E  x1 ((F_came vF) (Int32.toNatClampNeg x2)) (((F_done vF) (Int32.toNatClampNeg x2)) - ((F_begun vF) (Int32.toNatClampNeg x2))) ((F_kinds vF) (Int32.toNatClampNeg x2)) o22 e23 _) ⟨va_cnB 4 hts gX0_isOrderedBy_X4_rank_n88 rfl rfl rfl hK.2.1 hw6 (by decide +kernel) ⟨Nat.le_of_ble_eq_true rfl, Nat.le_of_ble_eq_true rfl⟩, hw7, trivial⟩ (q_preS hK hP hD q_nil) rfl rfl hl.1 rfl (lv_room (Nat.le_of_ble_eq_true rfl)) dX0_isOrderedBy_41 ⟨Nat.zero_le _, Nat.zero_le _⟩) hP hD hS hA q_nil q_nil.symm (fun H locs hP hD hS => ?_)
        obtain ⟨i24, h⟩ := q_ck h
        refine va_last (f := (F_ranks vF)) hx hb hK.1 hP hD hS 5 1 rfl rfl i24 dX0_isOrderedBy_44 (fun H locs hP hD hS => ?_)
        have hP : va_P E.1 vwCl (WF E aF (F_ranks_s vF (vp_updL (F_ranks vF) (Int32.toNatClampNeg x2) o22))) H := hP
        have hD : va_D A (WF E aF (F_ranks_s vF (vp_updL (F_ranks vF) (Int32.toNatClampNeg x2) o22))) := hD
        refine lv_iinc (v := (x2 + 1)) (lv' := [(2, .int (x2 + 1)), (0, .ref (aF 0)), (1, .int x1)]) hx hb dX0_isOrderedBy_45 hl (k := 2) rfl rfl (by decide) rfl (fun ls hl => ?_)
        refine lv_goto (tgt := 2) hx hb dX0_isOrderedBy_48 (by decide) ?_
        exact ih (F_ranks_s vF (vp_updL (F_ranks vF) (Int32.toNatClampNeg x2) o22)) (x2 + 1) _ _ _ hP hD hS (lv_sub hl [1, 2, 0] rfl) _ h kk
  have L63 : ∀ (vF : SF) (x2 : Int32) (x3 : Int32) (k : Nat) (H : Heap) (locs : List Loc) (ls : Array Slot), va_P E.1 vwCl (WF E aF vF) H → va_D A (WF E aF vF) → va_S A s.heap H locs → lv_has ls 4 [(0, .ref (aF 0)), (2, .int x2), (3, .int x3)] → ∀ o, lpX0_isOrderedBy_63 vF x2 k x3 = some o → (∀ rr, o = Sum.inl rr → ∀ (pc : Nat) (H : Heap) (locs : List Loc) (ls : Array Slot), decode cX0_isOrderedBy pc = .ok (.ireturn, 1) → narrow .boolean (.int rr.1) = .int rr.1 → va_P E.1 vwCl (WF E aF rr.2) H → va_D A (WF E aF rr.2) → va_S A s.heap H locs → W pr l e rmX0_isOrderedBy s m args below meth c H locs 0 0 Q (F0 m pc ls [.int rr.1])) → (∀ vv, o = Sum.inr vv → ∀ (H : Heap) (locs : List Loc) (ls : Array Slot), va_P E.1 vwCl (WF E aF vF) H → va_D A (WF E aF vF) → va_S A s.heap H locs → lv_has ls 4 [(0, .ref (aF 0)), (2, .int x2)] → W pr l e rmX0_isOrderedBy s m args below meth c H locs 0 0 Q (F0 m 102 ls [])) → W pr l e rmX0_isOrderedBy s m args below meth c H locs 0 0 Q (F0 m 63 ls []) := by
    intro vF x2 x3 k
    induction k generalizing x3 with
    | zero => intro H locs ls hP hD hS hl o h; cases h
    | succ k ih =>
      intro H locs ls hP hD hS hl o h kr kk
      rw [lpX0_isOrderedBy_63] at h
      refine lv_iload_n hx hb dX0_isOrderedBy_63 rfl (lv_at hl 2 rfl) ?_
      refine lv_aload_n hx hb dX0_isOrderedBy_64 rfl (lv_at hl 0 rfl) ?_
      refine va_get (D := E.1) (ci := 0) (v := .int (F_size vF)) (C := RX0) (T := TX0) (N := 7) hx hb hts hinX0 hown hK.1 hP 0 rfl rfl 0 (by decide) hw0 (fun _ h9 => h9) rfl dX0_isOrderedBy_65 ?_
      refine lv_icmp_ge (tgt := 102) hx hb dX0_isOrderedBy_68 (by decide) (fun c45 => ?_) (fun c45 => ?_)
      · have h := q_pos c45 h
        obtain rfl := q_inj h
        exact kk _ rfl _ _ _ hP hD hS (lv_sub hl [0, 1] rfl)
      · have h := q_neg c45 h
        refine lv_aload_n hx hb dX0_isOrderedBy_71 rfl (lv_at hl 0 rfl) ?_
        refine lv_iload_n hx hb dX0_isOrderedBy_72 rfl (lv_at hl 2 rfl) ?_
        refine lv_aload_n hx hb dX0_isOrderedBy_73 rfl (lv_at hl 0 rfl) ?_
        refine va_get (D := E.1) (ci := 0) (v := .ref (aF 2)) (C := RX0) (T := TX0) (N := 7) hx hb hts hinX0 hown hK.1 hP 0 rfl rfl 3 (by decide) hw4 (fun _ h9 => h9) rfl dX0_isOrderedBy_74 ?_
        refine lv_iload_n hx hb dX0_isOrderedBy_77 rfl (lv_at hl 1 rfl) ?_
        obtain ⟨i46, h⟩ := q_ck h
        refine va_iald (f := (F_begun vF)) hx hb hK.1 hP 2 0 rfl rfl i46 dX0_isOrderedBy_78 ?_
        obtain ⟨o47, e48, h⟩ := q_bind h
        refine q_ci (va_runV (As := [.int x3, .int ((F_begun vF) (Int32.toNatClampNeg x2))]) (rest := []) ⟨hx, hb, hml, hown, hts⟩ (wX0_isLeftAt l E aF vF x3 ((F_begun vF) (Int32.toNatClampNeg x2)) o47 e48 _) (cwV 2 hts gX0_isOrderedBy_X0_isLeftAt rfl rfl rfl (by decide +kernel) ⟨Nat.le_of_ble_eq_true rfl, Nat.le_of_ble_eq_true rfl⟩) (q_preV hK hP hD q_idl 0 0 rfl rfl) rfl rfl hl.1 rfl (lv_room (Nat.le_of_ble_eq_true rfl)) dX0_isOrderedBy_79 ⟨Nat.zero_le _, Nat.zero_le _⟩) hP hD hS hA q_idl q_idr (fun H locs hP hD hS => ?_)
        refine lv_if_eq (tgt := 96) hx hb dX0_isOrderedBy_82 (by decide) (fun c49 => ?_) (fun c49 => ?_)
        · have h := q_pos c49 h
          refine lv_iinc (v := (x3 + 1)) (lv' := [(3, .int (x3 + 1)), (0, .ref (aF 0)), (2, .int x2)]) hx hb dX0_isOrderedBy_96 hl (k := 2) rfl rfl (by decide) rfl (fun ls hl => ?_)
          refine lv_goto (tgt := 63) hx hb dX0_isOrderedBy_99 (by decide) ?_
          exact ih (x3 + 1) _ _ _ hP hD hS (lv_sub hl [1, 2, 0] rfl) _ h kr kk
        · have h := q_neg c49 h
          refine lv_aload_n hx hb dX0_isOrderedBy_85 rfl (lv_at hl 0 rfl) ?_
          refine lv_iload_n hx hb dX0_isOrderedBy_86 rfl (lv_at hl 2 rfl) ?_
          refine lv_iload_n hx hb dX0_isOrderedBy_87 rfl (lv_at hl 1 rfl) ?_
          obtain ⟨o50, e51, h⟩ := q_bind h
          refine q_ci (va_runV (As := [.int x3, .int x2]) (rest := []) ⟨hx, hb, hml, hown, hts⟩ (wX0_isAhead l E aF vF x3 x2 o50 e51 _) (cwV 2 hts gX0_isOrderedBy_X0_isAhead rfl rfl rfl (by decide +kernel) ⟨Nat.le_of_ble_eq_true rfl, Nat.le_of_ble_eq_true rfl⟩) (q_preV hK hP hD q_idl 0 0 rfl rfl) rfl rfl hl.1 rfl (lv_room (Nat.le_of_ble_eq_true rfl)) dX0_isOrderedBy_88 ⟨Nat.zero_le _, Nat.zero_le _⟩) hP hD hS hA q_idl q_idr (fun H locs hP hD hS => ?_)
          refine lv_if_eq (tgt := 96) hx hb dX0_isOrderedBy_91 (by decide) (fun c52 => ?_) (fun c52 => ?_)
          · have h := q_pos c52 h
            refine lv_iinc (v := (x3 + 1)) (lv' := [(3, .int (x3 + 1)), (0, .ref (aF 0)), (2, .int x2)]) hx hb dX0_isOrderedBy_96 hl (k := 2) rfl rfl (by decide) rfl (fun ls hl => ?_)
            refine lv_goto (tgt := 63) hx hb dX0_isOrderedBy_99 (by decide) ?_
            exact ih (x3 + 1) _ _ _ hP hD hS (lv_sub hl [1, 2, 0] rfl) _ h kr kk
          · have h := q_neg c52 h
            refine lv_iconst (v := 0) hx hb dX0_isOrderedBy_94 (by decide) ?_
            obtain rfl := q_inj h
            exact kr _ rfl 95 _ _ _ dX0_isOrderedBy_95 q_n0 hP hD hS
  have L53 : ∀ (vF : SF) (x2 : Int32) (k : Nat) (H : Heap) (locs : List Loc) (ls : Array Slot), va_P E.1 vwCl (WF E aF vF) H → va_D A (WF E aF vF) → va_S A s.heap H locs → lv_has ls 4 [(0, .ref (aF 0)), (2, .int x2)] → ∀ o, lpX0_isOrderedBy_53 vF k x2 = some o → (∀ rr, o = Sum.inl rr → ∀ (pc : Nat) (H : Heap) (locs : List Loc) (ls : Array Slot), decode cX0_isOrderedBy pc = .ok (.ireturn, 1) → narrow .boolean (.int rr.1) = .int rr.1 → va_P E.1 vwCl (WF E aF rr.2) H → va_D A (WF E aF rr.2) → va_S A s.heap H locs → W pr l e rmX0_isOrderedBy s m args below meth c H locs 0 0 Q (F0 m pc ls [.int rr.1])) → (∀ vv, o = Sum.inr vv → ∀ (H : Heap) (locs : List Loc) (ls : Array Slot), va_P E.1 vwCl (WF E aF vF) H → va_D A (WF E aF vF) → va_S A s.heap H locs → lv_has ls 4 [] → W pr l e rmX0_isOrderedBy s m args below meth c H locs 0 0 Q (F0 m 108 ls [])) → W pr l e rmX0_isOrderedBy s m args below meth c H locs 0 0 Q (F0 m 53 ls []) := by
    intro vF x2 k
    induction k generalizing x2 with
    | zero => intro H locs ls hP hD hS hl o h; cases h
    | succ k ih =>
      intro H locs ls hP hD hS hl o h kr kk
      rw [lpX0_isOrderedBy_53] at h
      refine lv_iload_n hx hb dX0_isOrderedBy_53 rfl (lv_at hl 1 rfl) ?_
      refine lv_aload_n hx hb dX0_isOrderedBy_54 rfl (lv_at hl 0 rfl) ?_
      refine va_get (D := E.1) (ci := 0) (v := .int (F_size vF)) (C := RX0) (T := TX0) (N := 7) hx hb hts hinX0 hown hK.1 hP 0 rfl rfl 0 (by decide) hw0 (fun _ h9 => h9) rfl dX0_isOrderedBy_55 ?_
      refine lv_icmp_ge (tgt := 108) hx hb dX0_isOrderedBy_58 (by decide) (fun c60 => ?_) (fun c60 => ?_)
      · have h := q_pos c60 h
        obtain rfl := q_inj h
        exact kk _ rfl _ _ _ hP hD hS (lv_sub hl [] rfl)
      · have h := q_neg c60 h
        refine lv_iconst (v := 0) hx hb dX0_isOrderedBy_61 (by decide) ?_
        refine lv_istore_n (lv' := [(3, .int 0), (0, .ref (aF 0)), (2, .int x2)]) hx hb dX0_isOrderedBy_62 rfl hl (by decide) rfl (fun ls hl => ?_)
        obtain ⟨o61, e62, h⟩ := q_bind h
        refine L63 vF x2 0 qFU _ _ _ hP hD hS (lv_sub hl [1, 2, 0] rfl) o61 e62 (fun rr63 e pc H locs ls => by subst e; obtain rfl := q_inj h; exact kr _ rfl pc H locs ls) (fun vo61 e H locs ls hP hD hS hl => ?_)
        subst e
        refine lv_iinc (v := (x2 + 1)) (lv' := [(2, .int (x2 + 1)), (0, .ref (aF 0))]) hx hb dX0_isOrderedBy_102 hl (k := 1) rfl rfl (by decide) rfl (fun ls hl => ?_)
        refine lv_goto (tgt := 53) hx hb dX0_isOrderedBy_105 (by decide) ?_
        exact ih (x2 + 1) _ _ _ hP hD hS (lv_sub hl [1, 0] rfl) _ h kr kk
  unfold mX0_isOrderedBy at h
  refine lv_iconst (v := 0) hx hb dX0_isOrderedBy_0 (by decide) ?_
  refine lv_istore_n (lv' := [(2, .int 0), (0, .ref (aF 0)), (1, .int x1)]) hx hb dX0_isOrderedBy_1 rfl hl (by decide) rfl (fun ls hl => ?_)
  obtain ⟨o25, e26, h⟩ := q_bind h
  refine L2 vF x1 0 qFU _ _ _ hP hD hS (lv_sub hl [1, 2, 0] rfl) o25 e26 (fun H locs ls hP hD hS hl => ?_)
  refine lv_iconst (v := 0) hx hb dX0_isOrderedBy_51 (by decide) ?_
  refine lv_istore_n (lv' := [(2, .int 0), (0, .ref (aF 0))]) hx hb dX0_isOrderedBy_52 rfl hl (by decide) rfl (fun ls hl => ?_)
  obtain ⟨o64, e65, h⟩ := q_bind h
  refine L53 o25 0 qFU _ _ _ hP hD hS (lv_sub hl [1, 0] rfl) o64 e65 (fun rr66 e pc H locs ls => by subst e; obtain rfl := q_inj h; exact hRt pc H locs ls) (fun vo64 e H locs ls hP hD hS hl => ?_)
  subst e
  refine lv_iconst (v := 1) hx hb dX0_isOrderedBy_108 (by decide) ?_
  obtain rfl := q_inj h
  exact hRt 109 _ _ _ dX0_isOrderedBy_109 q_n1 hP hD hS
def lpX0_firstRule_29  : Nat → Int32 → SF → Option (Sum (Int32 × SF) (SF))
  | 0, _, _ => none
  | k + 1, x1, vF => if 3 < x1 then (some (Sum.inr vF)) else ((mX0_isOrderedBy vF x1).bind fun o17 => if o17.1 = 0 then (lpX0_firstRule_29  k (x1 + 1) o17.2) else (some (Sum.inl (x1, o17.2))))
def mX0_firstRule (vF : SF)  : Option (Int32 × SF) := if (F_isWhole vF) = 0 then (some ((-1), vF)) else (if (F_size vF) = 0 then (some ((-1), vF)) else ((mX0_mostAtOnce vF).bind fun o3 => (mX0_isPossible vF o3).bind fun o5 => if o5 = 0 then (some ((-1), vF)) else ((lpX0_firstRule_29  qFU 0 vF).bind fun o20 => qS o20 (fun z => z) fun vo20 => some ((-1), vo20))))
def rmX0_firstRule : Room := { frames := 3, cells := 0, slots := 0, locals := 68 }
set_option maxHeartbeats 8000000 in
set_option maxRecDepth 100000 in
theorem wX0_firstRule (l : Launch) (E : qE) (aF : Nat → Nat) (vF : SF)  (o : Int32 × SF) (h : mX0_firstRule vF = some o) : MI l E yX0_firstRule wsX0_firstRule rmX0_firstRule [.ref (aF 0)] (WF E aF vF) (WF E aF o.2) o.1 := by
  refine q_startI (cc := cX0_firstRule) (maxL := 2) (by decide) rfl (Nat.le_of_ble_eq_true rfl) ?_
  intro pr e s m args below meth c A Q hx hb hml hown hts hK hRt hP hD hA hS ls hl
  have hl : lv_has ls 2 [(0, .ref (aF 0))] := hl
  have hinX0 : ∀ w ∈ wsX00, w ∈ wsX0_firstRule := by decide +kernel
  have hw0 := hts (.fieldLink RX0 15 "QueueReader$Fit" "isWhole" "Z") (by decide +kernel)
  have hw1 := hts (.fieldLink RX0 9 "QueueReader$Fit" "size" "I") (by decide +kernel)
  have L29 : ∀ (vF : SF) (x1 : Int32) (k : Nat) (H : Heap) (locs : List Loc) (ls : Array Slot), va_P E.1 vwCl (WF E aF vF) H → va_D A (WF E aF vF) → va_S A s.heap H locs → lv_has ls 2 [(0, .ref (aF 0)), (1, .int x1)] → ∀ o, lpX0_firstRule_29  k x1 vF = some o → (∀ rr, o = Sum.inl rr → ∀ (pc : Nat) (H : Heap) (locs : List Loc) (ls : Array Slot), decode cX0_firstRule pc = .ok (.ireturn, 1) → va_P E.1 vwCl (WF E aF rr.2) H → va_D A (WF E aF rr.2) → va_S A s.heap H locs → W pr l e rmX0_firstRule s m args below meth c H locs 0 0 Q (F0 m pc ls [.int rr.1])) → (∀ vv, o = Sum.inr vv → ∀ (H : Heap) (locs : List Loc) (ls : Array Slot), va_P E.1 vwCl (WF E aF vv) H → va_D A (WF E aF vv) → va_S A s.heap H locs → lv_has ls 2 [] → W pr l e rmX0_firstRule s m args below meth c H locs 0 0 Q (F0 m 50 ls [])) → W pr l e rmX0_firstRule s m args below meth c H locs 0 0 Q (F0 m 29 ls []) := by
    intro vF x1 k
    induction k generalizing x1 vF with
    | zero => intro H locs ls hP hD hS hl o h; cases h
    | succ k ih =>
      intro H locs ls hP hD hS hl o h kr kk
      rw [lpX0_firstRule_29] at h
      refine lv_iload_n hx hb dX0_firstRule_29 rfl (lv_at hl 1 rfl) ?_
      refine lv_iconst (v := 3) hx hb dX0_firstRule_30 (by decide) ?_
      refine lv_icmp_gt (tgt := 50) hx hb dX0_firstRule_31 (by decide) (fun c16 => ?_) (fun c16 => ?_)
      · have h := q_pos c16 h
        obtain rfl := q_inj h
        exact kk _ rfl _ _ _ hP hD hS (lv_sub hl [] rfl)
      · have h := q_neg c16 h
        refine lv_aload_n hx hb dX0_firstRule_34 rfl (lv_at hl 0 rfl) ?_
        refine lv_iload_n hx hb dX0_firstRule_35 rfl (lv_at hl 1 rfl) ?_
        obtain ⟨o17, e18, h⟩ := q_bind h
        refine q_ci (va_runV (As := [.int x1]) (rest := []) ⟨hx, hb, hml, hown, hts⟩ (wX0_isOrderedBy l E aF vF x1 o17 e18 _) (cwV 1 hts gX0_firstRule_X0_isOrderedBy rfl rfl rfl (by decide +kernel) ⟨Nat.le_of_ble_eq_true rfl, Nat.le_of_ble_eq_true rfl⟩) (q_preV hK hP hD q_idl 0 0 rfl rfl) rfl rfl hl.1 rfl (lv_room (Nat.le_of_ble_eq_true rfl)) dX0_firstRule_36 ⟨Nat.zero_le _, Nat.zero_le _⟩) hP hD hS hA q_idl q_idr (fun H locs hP hD hS => ?_)
        refine lv_if_eq (tgt := 44) hx hb dX0_firstRule_39 (by decide) (fun c19 => ?_) (fun c19 => ?_)
        · have h := q_pos c19 h
          refine lv_iinc (v := (x1 + 1)) (lv' := [(1, .int (x1 + 1)), (0, .ref (aF 0))]) hx hb dX0_firstRule_44 hl (k := 1) rfl rfl (by decide) rfl (fun ls hl => ?_)
          refine lv_goto (tgt := 29) hx hb dX0_firstRule_47 (by decide) ?_
          exact ih o17.2 (x1 + 1) _ _ _ hP hD hS (lv_sub hl [1, 0] rfl) _ h kr kk
        · have h := q_neg c19 h
          refine lv_iload_n hx hb dX0_firstRule_42 rfl (lv_at hl 1 rfl) ?_
          obtain rfl := q_inj h
          exact kr _ rfl 43 _ _ _ dX0_firstRule_43 hP hD hS
  unfold mX0_firstRule at h
  refine lv_aload_n hx hb dX0_firstRule_0 rfl (lv_at hl 0 rfl) ?_
  refine va_get (D := E.1) (ci := 0) (v := .int (F_isWhole vF)) (C := RX0) (T := TX0) (N := 7) hx hb hts hinX0 hown hK.1 hP 0 rfl rfl 1 (by decide) hw0 (fun _ h9 => h9) rfl dX0_firstRule_1 ?_
  refine lv_if_eq (tgt := 25) hx hb dX0_firstRule_4 (by decide) (fun c1 => ?_) (fun c1 => ?_)
  · have h := q_pos c1 h
    refine lv_iconst (v := (-1)) hx hb dX0_firstRule_25 (by decide) ?_
    obtain rfl := q_inj h
    exact hRt 26 _ _ _ dX0_firstRule_26 hP hD hS
  · have h := q_neg c1 h
    refine lv_aload_n hx hb dX0_firstRule_7 rfl (lv_at hl 0 rfl) ?_
    refine va_get (D := E.1) (ci := 0) (v := .int (F_size vF)) (C := RX0) (T := TX0) (N := 7) hx hb hts hinX0 hown hK.1 hP 0 rfl rfl 0 (by decide) hw1 (fun _ h9 => h9) rfl dX0_firstRule_8 ?_
    refine lv_if_eq (tgt := 25) hx hb dX0_firstRule_11 (by decide) (fun c2 => ?_) (fun c2 => ?_)
    · have h := q_pos c2 h
      refine lv_iconst (v := (-1)) hx hb dX0_firstRule_25 (by decide) ?_
      obtain rfl := q_inj h
      exact hRt 26 _ _ _ dX0_firstRule_26 hP hD hS
    · have h := q_neg c2 h
      refine lv_aload_n hx hb dX0_firstRule_14 rfl (lv_at hl 0 rfl) ?_
      refine lv_aload_n hx hb dX0_firstRule_15 rfl (lv_at hl 0 rfl) ?_
      obtain ⟨o3, e4, h⟩ := q_bind h
      refine q_ci (va_runV (As := []) (rest := [.ref (aF 0)]) ⟨hx, hb, hml, hown, hts⟩ (wX0_mostAtOnce l E aF vF o3 e4 _) (cwV 0 hts gX0_firstRule_X0_mostAtOnce rfl rfl rfl (by decide +kernel) ⟨Nat.le_of_ble_eq_true rfl, Nat.le_of_ble_eq_true rfl⟩) (q_preV hK hP hD q_idl 0 0 rfl rfl) rfl rfl hl.1 rfl (lv_room (Nat.le_of_ble_eq_true rfl)) dX0_firstRule_16 ⟨Nat.zero_le _, Nat.zero_le _⟩) hP hD hS hA q_idl q_idr (fun H locs hP hD hS => ?_)
      obtain ⟨o5, e6, h⟩ := q_bind h
      refine q_ci (va_runV (As := [.int o3]) (rest := []) ⟨hx, hb, hml, hown, hts⟩ (wX0_isPossible l E aF vF o3 o5 e6 _) (cwV 1 hts gX0_firstRule_X0_isPossible rfl rfl rfl (by decide +kernel) ⟨Nat.le_of_ble_eq_true rfl, Nat.le_of_ble_eq_true rfl⟩) (q_preV hK hP hD q_idl 0 0 rfl rfl) rfl rfl hl.1 rfl (lv_room (Nat.le_of_ble_eq_true rfl)) dX0_firstRule_19 ⟨Nat.zero_le _, Nat.zero_le _⟩) hP hD hS hA q_idl q_idr (fun H locs hP hD hS => ?_)
      refine lv_if_ne (tgt := 27) hx hb dX0_firstRule_22 (by decide) (fun c7 => ?_) (fun c7 => ?_)
      · have h := q_neg c7 h
        refine lv_iconst (v := 0) hx hb dX0_firstRule_27 (by decide) ?_
        refine lv_istore_n (lv' := [(1, .int 0), (0, .ref (aF 0))]) hx hb dX0_firstRule_28 rfl hl (by decide) rfl (fun ls hl => ?_)
        obtain ⟨o20, e21, h⟩ := q_bind h
        refine L29 vF 0 qFU _ _ _ hP hD hS (lv_sub hl [1, 0] rfl) o20 e21 (fun rr22 e pc H locs ls => by subst e; obtain rfl := q_inj h; exact hRt pc H locs ls) (fun vo20 e H locs ls hP hD hS hl => ?_)
        subst e
        refine lv_iconst (v := (-1)) hx hb dX0_firstRule_50 (by decide) ?_
        obtain rfl := q_inj h
        exact hRt 51 _ _ _ dX0_firstRule_51 hP hD hS
      · have h := q_pos c7 h
        refine lv_iconst (v := (-1)) hx hb dX0_firstRule_25 (by decide) ?_
        obtain rfl := q_inj h
        exact hRt 26 _ _ _ dX0_firstRule_26 hP hD hS
def mX0_leastHelpers (vF : SF)  : Option (Int32 × SF) := (mX0_firstRule vF).bind fun o1 => if o1.1 = (-1) then (some ((-1), o1.2)) else ((mX0_mostAtOnce o1.2).bind fun o4 => some (o4, o1.2))
def rmX0_leastHelpers : Room := { frames := 4, cells := 0, slots := 0, locals := 89 }
set_option maxHeartbeats 8000000 in
set_option maxRecDepth 100000 in
theorem wX0_leastHelpers (l : Launch) (E : qE) (aF : Nat → Nat) (vF : SF)  (o : Int32 × SF) (h : mX0_leastHelpers vF = some o) : MI l E yX0_leastHelpers wsX0_leastHelpers rmX0_leastHelpers [.ref (aF 0)] (WF E aF vF) (WF E aF o.2) o.1 := by
  refine q_startI (cc := cX0_leastHelpers) (maxL := 1) (by decide) rfl (Nat.le_of_ble_eq_true rfl) ?_
  intro pr e s m args below meth c A Q hx hb hml hown hts hK hRt hP hD hA hS ls hl
  have hl : lv_has ls 1 [(0, .ref (aF 0))] := hl
  unfold mX0_leastHelpers at h
  refine lv_aload_n hx hb dX0_leastHelpers_0 rfl (lv_at hl 0 rfl) ?_
  obtain ⟨o1, e2, h⟩ := q_bind h
  refine q_ci (va_runV (As := []) (rest := []) ⟨hx, hb, hml, hown, hts⟩ (wX0_firstRule l E aF vF o1 e2 _) (cwV 0 hts gX0_leastHelpers_X0_firstRule rfl rfl rfl (by decide +kernel) ⟨Nat.le_of_ble_eq_true rfl, Nat.le_of_ble_eq_true rfl⟩) (q_preV hK hP hD q_idl 0 0 rfl rfl) rfl rfl hl.1 rfl (lv_room (Nat.le_of_ble_eq_true rfl)) dX0_leastHelpers_1 ⟨Nat.zero_le _, Nat.zero_le _⟩) hP hD hS hA q_idl q_idr (fun H locs hP hD hS => ?_)
  refine lv_iconst (v := (-1)) hx hb dX0_leastHelpers_4 (by decide) ?_
  refine lv_icmp_ne (tgt := 12) hx hb dX0_leastHelpers_5 (by decide) (fun c3 => ?_) (fun c3 => ?_)
  · have h := q_neg c3 h
    refine lv_aload_n hx hb dX0_leastHelpers_12 rfl (lv_at hl 0 rfl) ?_
    obtain ⟨o4, e5, h⟩ := q_bind h
    refine q_ci (va_runV (As := []) (rest := []) ⟨hx, hb, hml, hown, hts⟩ (wX0_mostAtOnce l E aF o1.2 o4 e5 _) (cwV 0 hts gX0_leastHelpers_X0_mostAtOnce rfl rfl rfl (by decide +kernel) ⟨Nat.le_of_ble_eq_true rfl, Nat.le_of_ble_eq_true rfl⟩) (q_preV hK hP hD q_idl 0 0 rfl rfl) rfl rfl hl.1 rfl (lv_room (Nat.le_of_ble_eq_true rfl)) dX0_leastHelpers_13 ⟨Nat.zero_le _, Nat.zero_le _⟩) hP hD hS hA q_idl q_idr (fun H locs hP hD hS => ?_)
    obtain rfl := q_inj h
    exact hRt 16 _ _ _ dX0_leastHelpers_16 hP hD hS
  · have h := q_pos c3 h
    refine lv_iconst (v := (-1)) hx hb dX0_leastHelpers_8 (by decide) ?_
    refine lv_goto (tgt := 16) hx hb dX0_leastHelpers_9 (by decide) ?_
    obtain rfl := q_inj h
    exact hRt 16 _ _ _ dX0_leastHelpers_16 hP hD hS
