def mX3_tell (vT : ST) (x1 : Int32) (x2 : Int32) (x3 : Int32) : Option ST := ck x1 300 (ck x1 300 (ck x1 300 (some (T_done_s (T_begun_s (T_isSeen_s vT (upd (T_isSeen vT) (Int32.toNatClampNeg x1) (vp_nar .boolean 1))) (upd (T_begun vT) (Int32.toNatClampNeg x1) x2)) (upd (T_done vT) (Int32.toNatClampNeg x1) x3)))))
def rmX3_tell : Room := { frames := 0, cells := 0, slots := 0, locals := 0 }
set_option maxHeartbeats 8000000 in
set_option maxRecDepth 100000 in
theorem wX3_tell (l : Launch) (E : qE) (aT : Nat → Nat) (vT : ST) (x1 : Int32) (x2 : Int32) (x3 : Int32) (o : ST) (h : mX3_tell vT x1 x2 x3 = some o) : MV l E yX3_tell wsX3_tell rmX3_tell [.ref (aT 0), .int x1, .int x2, .int x3] (WT E aT vT) (WT E aT o) := by
  refine q_startV (cc := cX3_tell) (maxL := 4) (by decide) rfl (Nat.le_of_ble_eq_true rfl) ?_
  intro pr e s m args below meth c A Q hx hb hml hown hts hK hRt hP hD hA hS ls hl
  have hl : lv_has ls 4 [(0, .ref (aT 0)), (1, .int x1), (2, .int x2), (3, .int x3)] := hl
  have hinX3 : ∀ w ∈ wsX30, w ∈ wsX3_tell := by decide +kernel
  have hw0 := hts (.fieldLink RX3 9 "QueueReader$Tracks" "isSeen" "[Z") (by decide +kernel)
  have hw1 := hts (.fieldLink RX3 15 "QueueReader$Tracks" "begun" "[I") (by decide +kernel)
  have hw2 := hts (.fieldLink RX3 19 "QueueReader$Tracks" "done" "[I") (by decide +kernel)
  unfold mX3_tell at h
  refine lv_aload_n hx hb dX3_tell_0 rfl (lv_at hl 0 rfl) ?_
  refine va_get (D := E.1) (ci := 3) (v := .ref (aT 1)) (C := RX3) (T := TX3) (N := 3) hx hb hts hinX3 hown hK.1 hP 0 rfl rfl 0 (by decide) hw0 (fun _ h9 => h9) rfl dX3_tell_1 ?_
  refine lv_iload_n hx hb dX3_tell_4 rfl (lv_at hl 1 rfl) ?_
  refine lv_iconst (v := 1) hx hb dX3_tell_5 (by decide) ?_
  obtain ⟨i1, h⟩ := q_ck h
  refine va_zast (f := (T_isSeen vT)) hx hb hK.1 hP hD hS 1 2 rfl rfl i1 dX3_tell_6 (fun H locs hP hD hS => ?_)
  have hP : va_P E.1 vwCl (WT E aT (T_isSeen_s vT (upd (T_isSeen vT) (Int32.toNatClampNeg x1) (vp_nar .boolean 1)))) H := hP
  have hD : va_D A (WT E aT (T_isSeen_s vT (upd (T_isSeen vT) (Int32.toNatClampNeg x1) (vp_nar .boolean 1)))) := hD
  refine lv_aload_n hx hb dX3_tell_7 rfl (lv_at hl 0 rfl) ?_
  refine va_get (D := E.1) (ci := 3) (v := .ref (aT 2)) (C := RX3) (T := TX3) (N := 3) hx hb hts hinX3 hown hK.1 hP 0 rfl rfl 1 (by decide) hw1 (fun _ h9 => h9) rfl dX3_tell_8 ?_
  refine lv_iload_n hx hb dX3_tell_11 rfl (lv_at hl 1 rfl) ?_
  refine lv_iload_n hx hb dX3_tell_12 rfl (lv_at hl 2 rfl) ?_
  obtain ⟨i2, h⟩ := q_ck h
  refine va_iast (f := (T_begun vT)) hx hb hK.1 hP hD hS 2 0 rfl rfl i2 dX3_tell_13 (fun H locs hP hD hS => ?_)
  have hP : va_P E.1 vwCl (WT E aT (T_begun_s (T_isSeen_s vT (upd (T_isSeen vT) (Int32.toNatClampNeg x1) (vp_nar .boolean 1))) (upd (T_begun vT) (Int32.toNatClampNeg x1) x2))) H := hP
  have hD : va_D A (WT E aT (T_begun_s (T_isSeen_s vT (upd (T_isSeen vT) (Int32.toNatClampNeg x1) (vp_nar .boolean 1))) (upd (T_begun vT) (Int32.toNatClampNeg x1) x2))) := hD
  refine lv_aload_n hx hb dX3_tell_14 rfl (lv_at hl 0 rfl) ?_
  refine va_get (D := E.1) (ci := 3) (v := .ref (aT 3)) (C := RX3) (T := TX3) (N := 3) hx hb hts hinX3 hown hK.1 hP 0 rfl rfl 2 (by decide) hw2 (fun _ h9 => h9) rfl dX3_tell_15 ?_
  refine lv_iload_n hx hb dX3_tell_18 rfl (lv_at hl 1 rfl) ?_
  refine lv_iload_n hx hb dX3_tell_19 rfl (lv_at hl 3 rfl) ?_
  obtain ⟨i3, h⟩ := q_ck h
  refine va_iast (f := (T_done vT)) hx hb hK.1 hP hD hS 3 0 rfl rfl i3 dX3_tell_20 (fun H locs hP hD hS => ?_)
  have hP : va_P E.1 vwCl (WT E aT (T_done_s (T_begun_s (T_isSeen_s vT (upd (T_isSeen vT) (Int32.toNatClampNeg x1) (vp_nar .boolean 1))) (upd (T_begun vT) (Int32.toNatClampNeg x1) x2)) (upd (T_done vT) (Int32.toNatClampNeg x1) x3))) H := hP
  have hD : va_D A (WT E aT (T_done_s (T_begun_s (T_isSeen_s vT (upd (T_isSeen vT) (Int32.toNatClampNeg x1) (vp_nar .boolean 1))) (upd (T_begun vT) (Int32.toNatClampNeg x1) x2)) (upd (T_done vT) (Int32.toNatClampNeg x1) x3))) := hD
  obtain rfl := q_inj h
  exact hRt 21 _ _ _ dX3_tell_21 hP hD hS
def lpX3_size_4 (vT : ST) (vN : SN) : Nat → Int32 → Int32 → Option Int32
  | 0, _, _ => none
  | k + 1, x2, x3 => (mX1_rowsEnd vN).bind fun o11 => if o11 ≤ x3 then (some x2) else (ck x3 300 (if ((T_isSeen vT) (Int32.toNatClampNeg x3)) = 0 then (lpX3_size_4 vT vN k x2 (x3 + 1)) else (lpX3_size_4 vT vN k (x2 + 1) (x3 + 1))))
def mX3_size (vT : ST) (vN : SN)  : Option Int32 := (lpX3_size_4 vT vN qFU 0 0).bind fun o16 => some o16
def rmX3_size : Room := { frames := 1, cells := 0, slots := 0, locals := 20 }
set_option maxHeartbeats 8000000 in
set_option maxRecDepth 100000 in
theorem wX3_size (l : Launch) (E : qE) (aT : Nat → Nat) (aN : Nat → Nat) (vT : ST) (vN : SN)  (o : Int32) (h : mX3_size vT vN = some o) : MI l E yX3_size wsX3_size rmX3_size [.ref (aT 0), .ref (aN 0)] (WT E aT vT ++ WN E aN vN) (WT E aT vT ++ WN E aN vN) o := by
  refine q_startI (cc := cX3_size) (maxL := 4) (by decide) rfl (Nat.le_of_ble_eq_true rfl) ?_
  intro pr e s m args below meth c A Q hx hb hml hown hts hK hRt hP hD hA hS ls hl
  have hl : lv_has ls 4 [(0, .ref (aT 0)), (1, .ref (aN 0))] := hl
  have hinX3 : ∀ w ∈ wsX30, w ∈ wsX3_size := by decide +kernel
  have hw0 := hts (.fieldLink RX3 9 "QueueReader$Tracks" "isSeen" "[Z") (by decide +kernel)
  have L4 : ∀ (vT : ST) (vN : SN) (x2 : Int32) (x3 : Int32) (k : Nat) (H : Heap) (locs : List Loc) (ls : Array Slot), va_P E.1 vwCl (WT E aT vT ++ WN E aN vN) H → va_D A (WT E aT vT ++ WN E aN vN) → va_S A s.heap H locs → lv_has ls 4 [(0, .ref (aT 0)), (1, .ref (aN 0)), (2, .int x2), (3, .int x3)] → ∀ o, lpX3_size_4 vT vN k x2 x3 = some o → (∀ (H : Heap) (locs : List Loc) (ls : Array Slot), va_P E.1 vwCl (WT E aT vT ++ WN E aN vN) H → va_D A (WT E aT vT ++ WN E aN vN) → va_S A s.heap H locs → lv_has ls 4 [(2, .int o)] → W pr l e rmX3_size s m args below meth c H locs 0 0 Q (F0 m 30 ls [])) → W pr l e rmX3_size s m args below meth c H locs 0 0 Q (F0 m 4 ls []) := by
    intro vT vN x2 x3 k
    induction k generalizing x2 x3 with
    | zero => intro H locs ls hP hD hS hl o h; cases h
    | succ k ih =>
      intro H locs ls hP hD hS hl o h kk
      rw [lpX3_size_4] at h
      refine lv_iload_n hx hb dX3_size_4 rfl (lv_at hl 3 rfl) ?_
      refine lv_aload_n hx hb dX3_size_5 rfl (lv_at hl 1 rfl) ?_
      obtain ⟨o11, e12, h⟩ := q_bind h
      refine q_ci (va_runV (As := []) (rest := [.int x3]) ⟨hx, hb, hml, hown, hts⟩ (wX1_rowsEnd l E aN vN o11 e12 _) (cwV 0 hts gX3_size_X1_rowsEnd rfl rfl rfl (by decide +kernel) ⟨Nat.le_of_ble_eq_true rfl, Nat.le_of_ble_eq_true rfl⟩) (q_preV hK hP hD pm_2_1 1 4 rfl rfl) rfl rfl hl.1 rfl (lv_room (Nat.le_of_ble_eq_true rfl)) dX3_size_6 ⟨Nat.zero_le _, Nat.zero_le _⟩) hP hD hS hA pm_2_1 pm_2_1.symm (fun H locs hP hD hS => ?_)
      refine lv_icmp_ge (tgt := 30) hx hb dX3_size_9 (by decide) (fun c13 => ?_) (fun c13 => ?_)
      · have h := q_pos c13 h
        obtain rfl := q_inj h
        exact kk _ _ _ hP hD hS (lv_sub hl [2] rfl)
      · have h := q_neg c13 h
        refine lv_aload_n hx hb dX3_size_12 rfl (lv_at hl 0 rfl) ?_
        refine va_get (D := E.1) (ci := 3) (v := .ref (aT 1)) (C := RX3) (T := TX3) (N := 3) hx hb hts hinX3 hown hK.1 hP 0 rfl rfl 0 (by decide) hw0 (fun _ h9 => h9) rfl dX3_size_13 ?_
        refine lv_iload_n hx hb dX3_size_16 rfl (lv_at hl 3 rfl) ?_
        obtain ⟨i14, h⟩ := q_ck h
        refine va_zald (f := (T_isSeen vT)) hx hb hK.1 hP 1 2 rfl rfl i14 dX3_size_17 ?_
        refine lv_if_eq (tgt := 24) hx hb dX3_size_18 (by decide) (fun c15 => ?_) (fun c15 => ?_)
        · have h := q_pos c15 h
          refine lv_iinc (v := (x3 + 1)) (lv' := [(3, .int (x3 + 1)), (0, .ref (aT 0)), (1, .ref (aN 0)), (2, .int x2)]) hx hb dX3_size_24 hl (k := 3) rfl rfl (by decide) rfl (fun ls hl => ?_)
          refine lv_goto (tgt := 4) hx hb dX3_size_27 (by decide) ?_
          exact ih x2 (x3 + 1) _ _ _ hP hD hS (lv_sub hl [1, 2, 3, 0] rfl) _ h kk
        · have h := q_neg c15 h
          refine lv_iinc (v := (x2 + 1)) (lv' := [(2, .int (x2 + 1)), (0, .ref (aT 0)), (1, .ref (aN 0)), (3, .int x3)]) hx hb dX3_size_21 hl (k := 2) rfl rfl (by decide) rfl (fun ls hl => ?_)
          refine lv_iinc (v := (x3 + 1)) (lv' := [(3, .int (x3 + 1)), (2, .int (x2 + 1)), (0, .ref (aT 0)), (1, .ref (aN 0))]) hx hb dX3_size_24 hl (k := 3) rfl rfl (by decide) rfl (fun ls hl => ?_)
          refine lv_goto (tgt := 4) hx hb dX3_size_27 (by decide) ?_
          exact ih (x2 + 1) (x3 + 1) _ _ _ hP hD hS (lv_sub hl [2, 3, 1, 0] rfl) _ h kk
  unfold mX3_size at h
  refine lv_iconst (v := 0) hx hb dX3_size_0 (by decide) ?_
  refine lv_istore_n (lv' := [(2, .int 0), (0, .ref (aT 0)), (1, .ref (aN 0))]) hx hb dX3_size_1 rfl hl (by decide) rfl (fun ls hl => ?_)
  refine lv_iconst (v := 0) hx hb dX3_size_2 (by decide) ?_
  refine lv_istore_n (lv' := [(3, .int 0), (2, .int 0), (0, .ref (aT 0)), (1, .ref (aN 0))]) hx hb dX3_size_3 rfl hl (by decide) rfl (fun ls hl => ?_)
  obtain ⟨o16, e17, h⟩ := q_bind h
  refine L4 vT vN 0 0 qFU _ _ _ hP hD hS (lv_sub hl [2, 3, 1, 0] rfl) o16 e17 (fun H locs ls hP hD hS hl => ?_)
  refine lv_iload_n hx hb dX3_size_30 rfl (lv_at hl 0 rfl) ?_
  obtain rfl := q_inj h
  exact hRt 31 _ _ _ dX3_size_31 hP hD hS
def mX3_cameOf (vT : ST) (vN : SN) (x2 : Int32) : Option Int32 := ck x2 300 (if ((T_isSeen vT) (Int32.toNatClampNeg x2)) = 0 then (some (-1)) else (if (x2 - x2 / 5 * 5) = 0 then (ck (x2 / 5) 60 (some ((N_starts vN) (Int32.toNatClampNeg (x2 / 5))))) else (ck (x2 - 1) 300 (if ((T_isSeen vT) (Int32.toNatClampNeg (x2 - 1))) = 0 then (some (-1)) else (ck (x2 - 1) 300 (ck (x2 - 1) 300 (ck ((N_stepPlaces vN) (Int32.toNatClampNeg (x2 - 1))) 5 (some (((T_done vT) (Int32.toNatClampNeg (x2 - 1))) + ((N_delays vN) (Int32.toNatClampNeg ((N_stepPlaces vN) (Int32.toNatClampNeg (x2 - 1))))))))))))))
def rmX3_cameOf : Room := { frames := 0, cells := 0, slots := 0, locals := 0 }
set_option maxHeartbeats 8000000 in
set_option maxRecDepth 100000 in
theorem wX3_cameOf (l : Launch) (E : qE) (aT : Nat → Nat) (aN : Nat → Nat) (vT : ST) (vN : SN) (x2 : Int32) (o : Int32) (h : mX3_cameOf vT vN x2 = some o) : MI l E yX3_cameOf wsX3_cameOf rmX3_cameOf [.ref (aT 0), .ref (aN 0), .int x2] (WT E aT vT ++ WN E aN vN) (WT E aT vT ++ WN E aN vN) o := by
  refine q_startI (cc := cX3_cameOf) (maxL := 4) (by decide) rfl (Nat.le_of_ble_eq_true rfl) ?_
  intro pr e s m args below meth c A Q hx hb hml hown hts hK hRt hP hD hA hS ls hl
  have hl : lv_has ls 4 [(0, .ref (aT 0)), (1, .ref (aN 0)), (2, .int x2)] := hl
  have hinX1 : ∀ w ∈ wsX10, w ∈ wsX3_cameOf := by decide +kernel
  have hinX3 : ∀ w ∈ wsX30, w ∈ wsX3_cameOf := by decide +kernel
  have hw0 := hts (.fieldLink RX3 9 "QueueReader$Tracks" "isSeen" "[Z") (by decide +kernel)
  have hw1 := hts (.fieldLink RX3 19 "QueueReader$Tracks" "done" "[I") (by decide +kernel)
  have hw2 := hts (.fieldLink RX3 31 "QueueReader$Net" "delays" "[I") (by decide +kernel)
  have hw3 := hts (.fieldLink RX3 34 "QueueReader$Net" "stepPlaces" "[I") (by decide +kernel)
  have hw4 := hts (.fieldLink RX3 28 "QueueReader$Net" "starts" "[I") (by decide +kernel)
  unfold mX3_cameOf at h
  refine lv_aload_n hx hb dX3_cameOf_0 rfl (lv_at hl 0 rfl) ?_
  refine va_get (D := E.1) (ci := 3) (v := .ref (aT 1)) (C := RX3) (T := TX3) (N := 3) hx hb hts hinX3 hown hK.1 hP 0 rfl rfl 0 (by decide) hw0 (fun _ h9 => h9) rfl dX3_cameOf_1 ?_
  refine lv_iload_n hx hb dX3_cameOf_4 rfl (lv_at hl 2 rfl) ?_
  obtain ⟨i1, h⟩ := q_ck h
  refine va_zald (f := (T_isSeen vT)) hx hb hK.1 hP 1 2 rfl rfl i1 dX3_cameOf_5 ?_
  refine lv_if_ne (tgt := 11) hx hb dX3_cameOf_6 (by decide) (fun c2 => ?_) (fun c2 => ?_)
  · have h := q_neg c2 h
    refine lv_iload_n hx hb dX3_cameOf_11 rfl (lv_at hl 2 rfl) ?_
    refine lv_iconst (v := 5) hx hb dX3_cameOf_12 (by decide) ?_
    refine lv_irem hx hb dX3_cameOf_13 (by decide) ?_
    refine lv_if_ne (tgt := 26) hx hb dX3_cameOf_14 (by decide) (fun c3 => ?_) (fun c3 => ?_)
    · have h := q_neg c3 h
      refine lv_iload_n hx hb dX3_cameOf_26 rfl (lv_at hl 2 rfl) ?_
      refine lv_iconst (v := 1) hx hb dX3_cameOf_27 (by decide) ?_
      refine lv_isub hx hb dX3_cameOf_28 ?_
      refine lv_istore_n (lv' := [(3, .int (x2 - 1)), (0, .ref (aT 0)), (1, .ref (aN 0)), (2, .int x2)]) hx hb dX3_cameOf_29 rfl hl (by decide) rfl (fun ls hl => ?_)
      refine lv_aload_n hx hb dX3_cameOf_30 rfl (lv_at hl 1 rfl) ?_
      refine va_get (D := E.1) (ci := 3) (v := .ref (aT 1)) (C := RX3) (T := TX3) (N := 3) hx hb hts hinX3 hown hK.1 hP 0 rfl rfl 0 (by decide) hw0 (fun _ h9 => h9) rfl dX3_cameOf_31 ?_
      refine lv_iload_n hx hb dX3_cameOf_34 rfl (lv_at hl 0 rfl) ?_
      obtain ⟨i4, h⟩ := q_ck h
      refine va_zald (f := (T_isSeen vT)) hx hb hK.1 hP 1 2 rfl rfl i4 dX3_cameOf_35 ?_
      refine lv_if_eq (tgt := 60) hx hb dX3_cameOf_36 (by decide) (fun c5 => ?_) (fun c5 => ?_)
      · have h := q_pos c5 h
        refine lv_iconst (v := (-1)) hx hb dX3_cameOf_60 (by decide) ?_
        obtain rfl := q_inj h
        exact hRt 61 _ _ _ dX3_cameOf_61 hP hD hS
      · have h := q_neg c5 h
        refine lv_aload_n hx hb dX3_cameOf_39 rfl (lv_at hl 1 rfl) ?_
        refine va_get (D := E.1) (ci := 3) (v := .ref (aT 3)) (C := RX3) (T := TX3) (N := 3) hx hb hts hinX3 hown hK.1 hP 0 rfl rfl 2 (by decide) hw1 (fun _ h9 => h9) rfl dX3_cameOf_40 ?_
        refine lv_iload_n hx hb dX3_cameOf_43 rfl (lv_at hl 0 rfl) ?_
        obtain ⟨i6, h⟩ := q_ck h
        refine va_iald (f := (T_done vT)) hx hb hK.1 hP 3 0 rfl rfl i6 dX3_cameOf_44 ?_
        refine lv_aload_n hx hb dX3_cameOf_45 rfl (lv_at hl 2 rfl) ?_
        refine va_get (D := E.1) (ci := 1) (v := .ref (aN 3)) (C := RX1) (T := TX1) (N := 11) hx hb hts hinX1 hown hK.1 hP 4 rfl rfl 5 (by decide) hw2 (fun _ h9 => h9) rfl dX3_cameOf_46 ?_
        refine lv_aload_n hx hb dX3_cameOf_49 rfl (lv_at hl 2 rfl) ?_
        refine va_get (D := E.1) (ci := 1) (v := .ref (aN 7)) (C := RX1) (T := TX1) (N := 11) hx hb hts hinX1 hown hK.1 hP 4 rfl rfl 9 (by decide) hw3 (fun _ h9 => h9) rfl dX3_cameOf_50 ?_
        refine lv_iload_n hx hb dX3_cameOf_53 rfl (lv_at hl 0 rfl) ?_
        obtain ⟨i7, h⟩ := q_ck h
        refine va_iald (f := (N_stepPlaces vN)) hx hb hK.1 hP 11 0 rfl rfl i7 dX3_cameOf_54 ?_
        obtain ⟨i8, h⟩ := q_ck h
        refine va_iald (f := (N_delays vN)) hx hb hK.1 hP 7 0 rfl rfl i8 dX3_cameOf_55 ?_
        refine lv_iadd hx hb dX3_cameOf_56 ?_
        refine lv_goto (tgt := 61) hx hb dX3_cameOf_57 (by decide) ?_
        obtain rfl := q_inj h
        exact hRt 61 _ _ _ dX3_cameOf_61 hP hD hS
    · have h := q_pos c3 h
      refine lv_aload_n hx hb dX3_cameOf_17 rfl (lv_at hl 1 rfl) ?_
      refine va_get (D := E.1) (ci := 1) (v := .ref (aN 5)) (C := RX1) (T := TX1) (N := 11) hx hb hts hinX1 hown hK.1 hP 4 rfl rfl 7 (by decide) hw4 (fun _ h9 => h9) rfl dX3_cameOf_18 ?_
      refine lv_iload_n hx hb dX3_cameOf_21 rfl (lv_at hl 2 rfl) ?_
      refine lv_iconst (v := 5) hx hb dX3_cameOf_22 (by decide) ?_
      refine lv_idiv hx hb dX3_cameOf_23 (by decide) ?_
      obtain ⟨i9, h⟩ := q_ck h
      refine va_iald (f := (N_starts vN)) hx hb hK.1 hP 9 0 rfl rfl i9 dX3_cameOf_24 ?_
      obtain rfl := q_inj h
      exact hRt 25 _ _ _ dX3_cameOf_25 hP hD hS
  · have h := q_pos c2 h
    refine lv_iconst (v := (-1)) hx hb dX3_cameOf_9 (by decide) ?_
    obtain rfl := q_inj h
    exact hRt 10 _ _ _ dX3_cameOf_10 hP hD hS
def mX4_rank  (x0 : Int32) (x1 : Int32) (x2 : Int32) (x3 : Int32) : Option Int64 := if Int32.toInt x0 < 1 ∨ 3 < Int32.toInt x0 then (some (Int32.toInt64 x1)) else (if x0 = 1 then (some (-(Int32.toInt64 x1))) else (if x0 = 2 then (some (((Int32.toInt64 x2) * 1000000000) + (Int32.toInt64 x1))) else (if x0 = 3 then (some (((Int32.toInt64 x3) * 1000000000) + (Int32.toInt64 x1))) else (none))))
def rmX4_rank : Room := { frames := 0, cells := 0, slots := 0, locals := 0 }
set_option maxHeartbeats 8000000 in
set_option maxRecDepth 100000 in
theorem wX4_rank (l : Launch) (E : qE)   (x0 : Int32) (x1 : Int32) (x2 : Int32) (x3 : Int32) (o : Int64) (h : mX4_rank x0 x1 x2 x3 = some o) : ML l E yX4_rank wsX4_rank rmX4_rank [.int x0, .int x1, .int x2, .int x3] ([]) ([]) o := by
  refine q_startL (cc := cX4_rank) (maxL := 4) (by decide) rfl (Nat.le_of_ble_eq_true rfl) ?_
  intro pr e s m args below meth c A Q hx hb hml hown hts hK hRt hP hD hA hS ls hl
  have hl : lv_has ls 4 [(0, .int x0), (1, .int x1), (2, .int x2), (3, .int x3)] := hl
  have hw0 := hts (.constantLong RX4 230 (1000000000)) (by decide +kernel)
  unfold mX4_rank at h
  refine lv_iload_n hx hb dX4_rank_0 rfl (lv_at hl 0 rfl) ?_
  by_cases c1 : Int32.toInt x0 < 1 ∨ 3 < Int32.toInt x0
  · have h := q_pos c1 h
    refine lv_tableOut (tgt := 52) hx hb dX4_rank_1 c1 (by decide) ?_
    refine lv_iload_n hx hb dX4_rank_52 rfl (lv_at hl 1 rfl) ?_
    refine lv_i2l hx hb dX4_rank_53 rfl ?_
    obtain rfl := q_inj h
    exact hRt 54 _ _ _ dX4_rank_54 hP hD hS
  · have h := q_neg c1 h
    by_cases e2 : x0 = 1
    · have h := q_pos e2 h
      refine lv_tableIn (tgt := 28) (off := 27) hx hb dX4_rank_1 (fun z => c1 (Or.inl z)) (fun z => c1 (Or.inr z)) (by rw [e2]; rfl) (by decide) ?_
      refine lv_iload_n hx hb dX4_rank_28 rfl (lv_at hl 1 rfl) ?_
      refine lv_i2l hx hb dX4_rank_29 rfl ?_
      refine lv_lneg hx hb dX4_rank_30 ?_
      obtain rfl := q_inj h
      exact hRt 31 _ _ _ dX4_rank_31 hP hD hS
    have h := q_neg e2 h
    by_cases e3 : x0 = 2
    · have h := q_pos e3 h
      refine lv_tableIn (tgt := 32) (off := 31) hx hb dX4_rank_1 (fun z => c1 (Or.inl z)) (fun z => c1 (Or.inr z)) (by rw [e3]; rfl) (by decide) ?_
      refine lv_iload_n hx hb dX4_rank_32 rfl (lv_at hl 2 rfl) ?_
      refine lv_i2l hx hb dX4_rank_33 rfl ?_
      refine lv_ldc2 (v := 1000000000) hx hb hown hw0 dX4_rank_34 ?_
      refine lv_lmul hx hb dX4_rank_37 ?_
      refine lv_iload_n hx hb dX4_rank_38 rfl (lv_at hl 1 rfl) ?_
      refine lv_i2l hx hb dX4_rank_39 rfl ?_
      refine lv_ladd hx hb dX4_rank_40 ?_
      obtain rfl := q_inj h
      exact hRt 41 _ _ _ dX4_rank_41 hP hD hS
    have h := q_neg e3 h
    by_cases e4 : x0 = 3
    · have h := q_pos e4 h
      refine lv_tableIn (tgt := 42) (off := 41) hx hb dX4_rank_1 (fun z => c1 (Or.inl z)) (fun z => c1 (Or.inr z)) (by rw [e4]; rfl) (by decide) ?_
      refine lv_iload_n hx hb dX4_rank_42 rfl (lv_at hl 3 rfl) ?_
      refine lv_i2l hx hb dX4_rank_43 rfl ?_
      refine lv_ldc2 (v := 1000000000) hx hb hown hw0 dX4_rank_44 ?_
      refine lv_lmul hx hb dX4_rank_47 ?_
      refine lv_iload_n hx hb dX4_rank_48 rfl (lv_at hl 1 rfl) ?_
      refine lv_i2l hx hb dX4_rank_49 rfl ?_
      refine lv_ladd hx hb dX4_rank_50 ?_
      obtain rfl := q_inj h
      exact hRt 51 _ _ _ dX4_rank_51 hP hD hS
    have h := q_neg e4 h
    cases h
def mX4_ticksShared  (x0 : Int32) (x1 : Int32) (x2 : Int32) (x3 : Int32) : Option Int32 := some (if 0 < ((if x3 < x1 then x3 else x1) - (if x0 < x2 then x2 else x0)) then ((if x3 < x1 then x3 else x1) - (if x0 < x2 then x2 else x0)) else 0)
def rmX4_ticksShared : Room := { frames := 1, cells := 0, slots := 0, locals := 21 }
set_option maxHeartbeats 8000000 in
set_option maxRecDepth 100000 in
theorem wX4_ticksShared (l : Launch) (E : qE)   (x0 : Int32) (x1 : Int32) (x2 : Int32) (x3 : Int32) (o : Int32) (h : mX4_ticksShared x0 x1 x2 x3 = some o) : MI l E yX4_ticksShared wsX4_ticksShared rmX4_ticksShared [.int x0, .int x1, .int x2, .int x3] ([]) ([]) o := by
  refine q_startI (cc := cX4_ticksShared) (maxL := 4) (by decide) rfl (Nat.le_of_ble_eq_true rfl) ?_
  intro pr e s m args below meth c A Q hx hb hml hown hts hK hRt hP hD hA hS ls hl
  have hl : lv_has ls 4 [(0, .int x0), (1, .int x1), (2, .int x2), (3, .int x3)] := hl
  have hw0 := hts (.methodLink RX4 202 Lib.Math.min.name) (by decide +kernel)
  have hw1 := hts (.static Lib.Math.min.name) (by decide +kernel)
  have hw2 := hts (.initialized "java/lang/Math") (by decide +kernel)
  have hw3 := hts (.code Lib.Math.min.name Lib.Math.min.code 2 (some .int)) (by decide +kernel)
  have hw4 := hts (.methodLink RX4 207 Lib.Math.max.name) (by decide +kernel)
  have hw5 := hts (.static Lib.Math.max.name) (by decide +kernel)
  have hw6 := hts (.code Lib.Math.max.name Lib.Math.max.code 2 (some .int)) (by decide +kernel)
  unfold mX4_ticksShared at h
  refine lv_iconst (v := 0) hx hb dX4_ticksShared_0 (by decide) ?_
  refine lv_iload_n hx hb dX4_ticksShared_1 rfl (lv_at hl 1 rfl) ?_
  refine lv_iload_n hx hb dX4_ticksShared_2 rfl (lv_at hl 3 rfl) ?_
  refine va_mmin hx hb (hml.trans hl.1.symm) hown hw0 hw1 hw2 hw3 (Nat.le_of_ble_eq_true rfl) (Nat.le_of_ble_eq_true rfl) (Nat.zero_le _) (Nat.zero_le _) dX4_ticksShared_3 ?_
  refine lv_iload_n hx hb dX4_ticksShared_6 rfl (lv_at hl 0 rfl) ?_
  refine lv_iload_n hx hb dX4_ticksShared_7 rfl (lv_at hl 2 rfl) ?_
  refine va_mmax hx hb (hml.trans hl.1.symm) hown hw4 hw5 hw2 hw6 (Nat.le_of_ble_eq_true rfl) (Nat.le_of_ble_eq_true rfl) (Nat.zero_le _) (Nat.zero_le _) dX4_ticksShared_8 ?_
  refine lv_isub hx hb dX4_ticksShared_11 ?_
  refine va_mmax hx hb (hml.trans hl.1.symm) hown hw4 hw5 hw2 hw6 (Nat.le_of_ble_eq_true rfl) (Nat.le_of_ble_eq_true rfl) (Nat.zero_le _) (Nat.zero_le _) dX4_ticksShared_12 ?_
  obtain rfl := q_inj h
  exact hRt 15 _ _ _ dX4_ticksShared_15 hP hD hS
def mX4_share  (x0 : Int32) (x1 : Int32) (x2 : Int32) (x3 : Int32) (x4 : Int32) (x5 : Int32) : Option Int32 := if Int32.toInt x5 < 0 ∨ 2 < Int32.toInt x5 then ((mX4_ticksShared x1 x2 x3 x4).bind fun o2 => some o2) else (if x5 = 0 then (if x0 < x3 then (some 0) else (if x4 ≤ x0 then (some 0) else (some 1))) else (if x5 = 1 then (if x2 < x3 then (some 0) else (if x4 ≤ x2 then (some 0) else (some 1))) else (if x5 = 2 then ((mX4_ticksShared x0 x2 x3 x4).bind fun o11 => some o11) else (none))))
def rmX4_share : Room := { frames := 2, cells := 0, slots := 0, locals := 44 }
set_option maxHeartbeats 8000000 in
set_option maxRecDepth 100000 in
theorem wX4_share (l : Launch) (E : qE)   (x0 : Int32) (x1 : Int32) (x2 : Int32) (x3 : Int32) (x4 : Int32) (x5 : Int32) (o : Int32) (h : mX4_share x0 x1 x2 x3 x4 x5 = some o) : MI l E yX4_share wsX4_share rmX4_share [.int x0, .int x1, .int x2, .int x3, .int x4, .int x5] ([]) ([]) o := by
  refine q_startI (cc := cX4_share) (maxL := 6) (by decide) rfl (Nat.le_of_ble_eq_true rfl) ?_
  intro pr e s m args below meth c A Q hx hb hml hown hts hK hRt hP hD hA hS ls hl
  have hl : lv_has ls 6 [(0, .int x0), (1, .int x1), (2, .int x2), (3, .int x3), (4, .int x4), (5, .int x5)] := hl
  unfold mX4_share at h
  refine lv_iload hx hb dX4_share_0 (lv_at hl 5 rfl) ?_
  by_cases c1 : Int32.toInt x5 < 0 ∨ 2 < Int32.toInt x5
  · have h := q_pos c1 h
    refine lv_tableOut (tgt := 71) hx hb dX4_share_2 c1 (by decide) ?_
    refine lv_iload_n hx hb dX4_share_71 rfl (lv_at hl 1 rfl) ?_
    refine lv_iload_n hx hb dX4_share_72 rfl (lv_at hl 2 rfl) ?_
    refine lv_iload_n hx hb dX4_share_73 rfl (lv_at hl 3 rfl) ?_
    refine lv_iload hx hb dX4_share_74 (lv_at hl 4 rfl) ?_
    obtain ⟨o2, e3, h⟩ := q_bind h
    refine q_ci (va_runS (As := [.int x1, .int x2, .int x3, .int x4]) (rest := []) ⟨hx, hb, hml, hown, hts⟩ (wX4_ticksShared l E  x1 x2 x3 x4 o2 e3 _) (va_cwS 4 hts gX4_share_X4_ticksShared rfl rfl rfl (by decide +kernel) ⟨Nat.le_of_ble_eq_true rfl, Nat.le_of_ble_eq_true rfl⟩) (q_preS hK hP hD q_nil) rfl rfl hl.1 rfl (lv_room (Nat.le_of_ble_eq_true rfl)) dX4_share_76 ⟨Nat.zero_le _, Nat.zero_le _⟩) hP hD hS hA q_nil q_nil.symm (fun H locs hP hD hS => ?_)
    obtain rfl := q_inj h
    exact hRt 79 _ _ _ dX4_share_79 hP hD hS
  · have h := q_neg c1 h
    by_cases e4 : x5 = 0
    · have h := q_pos e4 h
      refine lv_tableIn (tgt := 28) (off := 26) hx hb dX4_share_2 (fun z => c1 (Or.inl z)) (fun z => c1 (Or.inr z)) (by rw [e4]; rfl) (by decide) ?_
      refine lv_iload_n hx hb dX4_share_28 rfl (lv_at hl 0 rfl) ?_
      refine lv_iload_n hx hb dX4_share_29 rfl (lv_at hl 3 rfl) ?_
      refine lv_icmp_lt (tgt := 43) hx hb dX4_share_30 (by decide) (fun c5 => ?_) (fun c5 => ?_)
      · have h := q_pos c5 h
        refine lv_iconst (v := 0) hx hb dX4_share_43 (by decide) ?_
        obtain rfl := q_inj h
        exact hRt 44 _ _ _ dX4_share_44 hP hD hS
      · have h := q_neg c5 h
        refine lv_iload_n hx hb dX4_share_33 rfl (lv_at hl 0 rfl) ?_
        refine lv_iload hx hb dX4_share_34 (lv_at hl 4 rfl) ?_
        refine lv_icmp_ge (tgt := 43) hx hb dX4_share_36 (by decide) (fun c6 => ?_) (fun c6 => ?_)
        · have h := q_pos c6 h
          refine lv_iconst (v := 0) hx hb dX4_share_43 (by decide) ?_
          obtain rfl := q_inj h
          exact hRt 44 _ _ _ dX4_share_44 hP hD hS
        · have h := q_neg c6 h
          refine lv_iconst (v := 1) hx hb dX4_share_39 (by decide) ?_
          refine lv_goto (tgt := 44) hx hb dX4_share_40 (by decide) ?_
          obtain rfl := q_inj h
          exact hRt 44 _ _ _ dX4_share_44 hP hD hS
    have h := q_neg e4 h
    by_cases e7 : x5 = 1
    · have h := q_pos e7 h
      refine lv_tableIn (tgt := 45) (off := 43) hx hb dX4_share_2 (fun z => c1 (Or.inl z)) (fun z => c1 (Or.inr z)) (by rw [e7]; rfl) (by decide) ?_
      refine lv_iload_n hx hb dX4_share_45 rfl (lv_at hl 2 rfl) ?_
      refine lv_iload_n hx hb dX4_share_46 rfl (lv_at hl 3 rfl) ?_
      refine lv_icmp_lt (tgt := 60) hx hb dX4_share_47 (by decide) (fun c8 => ?_) (fun c8 => ?_)
      · have h := q_pos c8 h
        refine lv_iconst (v := 0) hx hb dX4_share_60 (by decide) ?_
        obtain rfl := q_inj h
        exact hRt 61 _ _ _ dX4_share_61 hP hD hS
      · have h := q_neg c8 h
        refine lv_iload_n hx hb dX4_share_50 rfl (lv_at hl 2 rfl) ?_
        refine lv_iload hx hb dX4_share_51 (lv_at hl 4 rfl) ?_
        refine lv_icmp_ge (tgt := 60) hx hb dX4_share_53 (by decide) (fun c9 => ?_) (fun c9 => ?_)
        · have h := q_pos c9 h
          refine lv_iconst (v := 0) hx hb dX4_share_60 (by decide) ?_
          obtain rfl := q_inj h
          exact hRt 61 _ _ _ dX4_share_61 hP hD hS
        · have h := q_neg c9 h
          refine lv_iconst (v := 1) hx hb dX4_share_56 (by decide) ?_
          refine lv_goto (tgt := 61) hx hb dX4_share_57 (by decide) ?_
          obtain rfl := q_inj h
          exact hRt 61 _ _ _ dX4_share_61 hP hD hS
    have h := q_neg e7 h
    by_cases e10 : x5 = 2
    · have h := q_pos e10 h
      refine lv_tableIn (tgt := 62) (off := 60) hx hb dX4_share_2 (fun z => c1 (Or.inl z)) (fun z => c1 (Or.inr z)) (by rw [e10]; rfl) (by decide) ?_
      refine lv_iload_n hx hb dX4_share_62 rfl (lv_at hl 0 rfl) ?_
      refine lv_iload_n hx hb dX4_share_63 rfl (lv_at hl 2 rfl) ?_
      refine lv_iload_n hx hb dX4_share_64 rfl (lv_at hl 3 rfl) ?_
      refine lv_iload hx hb dX4_share_65 (lv_at hl 4 rfl) ?_
      obtain ⟨o11, e12, h⟩ := q_bind h
      refine q_ci (va_runS (As := [.int x0, .int x2, .int x3, .int x4]) (rest := []) ⟨hx, hb, hml, hown, hts⟩ (wX4_ticksShared l E  x0 x2 x3 x4 o11 e12 _) (va_cwS 4 hts gX4_share_X4_ticksShared rfl rfl rfl (by decide +kernel) ⟨Nat.le_of_ble_eq_true rfl, Nat.le_of_ble_eq_true rfl⟩) (q_preS hK hP hD q_nil) rfl rfl hl.1 rfl (lv_room (Nat.le_of_ble_eq_true rfl)) dX4_share_67 ⟨Nat.zero_le _, Nat.zero_le _⟩) hP hD hS hA q_nil q_nil.symm (fun H locs hP hD hS => ?_)
      obtain rfl := q_inj h
      exact hRt 70 _ _ _ dX4_share_70 hP hD hS
    have h := q_neg e10 h
    cases h
