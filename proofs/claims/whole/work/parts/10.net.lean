def mX1_setPlace (vN : SN) (x1 : Int32) (x2 : Int32) (x3 : Int32) (x4 : Int32) : Option SN := ck x1 5 (ck x1 5 (ck x1 5 (some (N_delays_s (N_rules_s (N_helpers_s vN (upd (N_helpers vN) (Int32.toNatClampNeg x1) x2)) (upd (N_rules vN) (Int32.toNatClampNeg x1) x3)) (upd (N_delays vN) (Int32.toNatClampNeg x1) x4)))))
def rmX1_setPlace : Room := { frames := 0, cells := 0, slots := 0, locals := 0 }
set_option maxHeartbeats 8000000 in
set_option maxRecDepth 100000 in
theorem wX1_setPlace (l : Launch) (E : qE) (aN : Nat → Nat) (vN : SN) (x1 : Int32) (x2 : Int32) (x3 : Int32) (x4 : Int32) (o : SN) (h : mX1_setPlace vN x1 x2 x3 x4 = some o) : MV l E yX1_setPlace wsX1_setPlace rmX1_setPlace [.ref (aN 0), .int x1, .int x2, .int x3, .int x4] (WN E aN vN) (WN E aN o) := by
  refine q_startV (cc := cX1_setPlace) (maxL := 5) (by decide) rfl (Nat.le_of_ble_eq_true rfl) ?_
  intro pr e s m args below meth c A Q hx hb hml hown hts hK hRt hP hD hA hS ls hl
  have hl : lv_has ls 5 [(0, .ref (aN 0)), (1, .int x1), (2, .int x2), (3, .int x3), (4, .int x4)] := hl
  have hinX1 : ∀ w ∈ wsX10, w ∈ wsX1_setPlace := by decide +kernel
  have hw0 := hts (.fieldLink RX1 21 "QueueReader$Net" "helpers" "[I") (by decide +kernel)
  have hw1 := hts (.fieldLink RX1 25 "QueueReader$Net" "rules" "[I") (by decide +kernel)
  have hw2 := hts (.fieldLink RX1 28 "QueueReader$Net" "delays" "[I") (by decide +kernel)
  unfold mX1_setPlace at h
  refine lv_aload_n hx hb dX1_setPlace_0 rfl (lv_at hl 0 rfl) ?_
  refine va_get (D := E.1) (ci := 1) (v := .ref (aN 1)) (C := RX1) (T := TX1) (N := 11) hx hb hts hinX1 hown hK.1 hP 0 rfl rfl 3 (by decide) hw0 (fun _ h9 => h9) rfl dX1_setPlace_1 ?_
  refine lv_iload_n hx hb dX1_setPlace_4 rfl (lv_at hl 1 rfl) ?_
  refine lv_iload_n hx hb dX1_setPlace_5 rfl (lv_at hl 2 rfl) ?_
  obtain ⟨i1, h⟩ := q_ck h
  refine va_iast (f := (N_helpers vN)) hx hb hK.1 hP hD hS 1 0 rfl rfl i1 dX1_setPlace_6 (fun H locs hP hD hS => ?_)
  have hP : va_P E.1 vwCl (WN E aN (N_helpers_s vN (upd (N_helpers vN) (Int32.toNatClampNeg x1) x2))) H := hP
  have hD : va_D A (WN E aN (N_helpers_s vN (upd (N_helpers vN) (Int32.toNatClampNeg x1) x2))) := hD
  refine lv_aload_n hx hb dX1_setPlace_7 rfl (lv_at hl 0 rfl) ?_
  refine va_get (D := E.1) (ci := 1) (v := .ref (aN 2)) (C := RX1) (T := TX1) (N := 11) hx hb hts hinX1 hown hK.1 hP 0 rfl rfl 4 (by decide) hw1 (fun _ h9 => h9) rfl dX1_setPlace_8 ?_
  refine lv_iload_n hx hb dX1_setPlace_11 rfl (lv_at hl 1 rfl) ?_
  refine lv_iload_n hx hb dX1_setPlace_12 rfl (lv_at hl 3 rfl) ?_
  obtain ⟨i2, h⟩ := q_ck h
  refine va_iast (f := (N_rules vN)) hx hb hK.1 hP hD hS 2 0 rfl rfl i2 dX1_setPlace_13 (fun H locs hP hD hS => ?_)
  have hP : va_P E.1 vwCl (WN E aN (N_rules_s (N_helpers_s vN (upd (N_helpers vN) (Int32.toNatClampNeg x1) x2)) (upd (N_rules vN) (Int32.toNatClampNeg x1) x3))) H := hP
  have hD : va_D A (WN E aN (N_rules_s (N_helpers_s vN (upd (N_helpers vN) (Int32.toNatClampNeg x1) x2)) (upd (N_rules vN) (Int32.toNatClampNeg x1) x3))) := hD
  refine lv_aload_n hx hb dX1_setPlace_14 rfl (lv_at hl 0 rfl) ?_
  refine va_get (D := E.1) (ci := 1) (v := .ref (aN 3)) (C := RX1) (T := TX1) (N := 11) hx hb hts hinX1 hown hK.1 hP 0 rfl rfl 5 (by decide) hw2 (fun _ h9 => h9) rfl dX1_setPlace_15 ?_
  refine lv_iload_n hx hb dX1_setPlace_18 rfl (lv_at hl 1 rfl) ?_
  refine lv_iload hx hb dX1_setPlace_19 (lv_at hl 4 rfl) ?_
  obtain ⟨i3, h⟩ := q_ck h
  refine va_iast (f := (N_delays vN)) hx hb hK.1 hP hD hS 3 0 rfl rfl i3 dX1_setPlace_21 (fun H locs hP hD hS => ?_)
  have hP : va_P E.1 vwCl (WN E aN (N_delays_s (N_rules_s (N_helpers_s vN (upd (N_helpers vN) (Int32.toNatClampNeg x1) x2)) (upd (N_rules vN) (Int32.toNatClampNeg x1) x3)) (upd (N_delays vN) (Int32.toNatClampNeg x1) x4))) H := hP
  have hD : va_D A (WN E aN (N_delays_s (N_rules_s (N_helpers_s vN (upd (N_helpers vN) (Int32.toNatClampNeg x1) x2)) (upd (N_rules vN) (Int32.toNatClampNeg x1) x3)) (upd (N_delays vN) (Int32.toNatClampNeg x1) x4))) := hD
  obtain rfl := q_inj h
  exact hRt 22 _ _ _ dX1_setPlace_22 hP hD hS
def mX1_firstRow (vN : SN) (x1 : Int32) : Option Int32 := some (x1 * 5)
def rmX1_firstRow : Room := { frames := 0, cells := 0, slots := 0, locals := 0 }
set_option maxHeartbeats 8000000 in
set_option maxRecDepth 100000 in
theorem wX1_firstRow (l : Launch) (E : qE) (aN : Nat → Nat) (vN : SN) (x1 : Int32) (o : Int32) (h : mX1_firstRow vN x1 = some o) : MI l E yX1_firstRow wsX1_firstRow rmX1_firstRow [.ref (aN 0), .int x1] (WN E aN vN) (WN E aN vN) o := by
  refine q_startI (cc := cX1_firstRow) (maxL := 2) (by decide) rfl (Nat.le_of_ble_eq_true rfl) ?_
  intro pr e s m args below meth c A Q hx hb hml hown hts hK hRt hP hD hA hS ls hl
  have hl : lv_has ls 2 [(0, .ref (aN 0)), (1, .int x1)] := hl
  unfold mX1_firstRow at h
  refine lv_iload_n hx hb dX1_firstRow_0 rfl (lv_at hl 1 rfl) ?_
  refine lv_iconst (v := 5) hx hb dX1_firstRow_1 (by decide) ?_
  refine lv_imul hx hb dX1_firstRow_2 ?_
  obtain rfl := q_inj h
  exact hRt 3 _ _ _ dX1_firstRow_3 hP hD hS
def mX1_addStep (vN : SN) (x1 : Int32) (x2 : Int32) (x3 : Int32) : Option (Int32 × SN) := ck x1 60 ((mX1_firstRow vN x1).bind fun o2 => ck (o2 + ((N_lengths vN) (Int32.toNatClampNeg x1))) 300 (ck (o2 + ((N_lengths vN) (Int32.toNatClampNeg x1))) 300 (ck x1 60 (some (((N_lengths vN) (Int32.toNatClampNeg x1)), (N_stepWorks_s (N_stepPlaces_s (N_lengths_s (N_steps_s vN ((N_steps vN) + 1)) (upd (N_lengths vN) (Int32.toNatClampNeg x1) (((N_lengths vN) (Int32.toNatClampNeg x1)) + 1))) (upd (N_stepPlaces vN) (Int32.toNatClampNeg (o2 + ((N_lengths vN) (Int32.toNatClampNeg x1)))) x2)) (upd (N_stepWorks vN) (Int32.toNatClampNeg (o2 + ((N_lengths vN) (Int32.toNatClampNeg x1)))) x3)))))))
def rmX1_addStep : Room := { frames := 1, cells := 0, slots := 0, locals := 21 }
set_option maxHeartbeats 8000000 in
set_option maxRecDepth 100000 in
theorem wX1_addStep (l : Launch) (E : qE) (aN : Nat → Nat) (vN : SN) (x1 : Int32) (x2 : Int32) (x3 : Int32) (o : Int32 × SN) (h : mX1_addStep vN x1 x2 x3 = some o) : MI l E yX1_addStep wsX1_addStep rmX1_addStep [.ref (aN 0), .int x1, .int x2, .int x3] (WN E aN vN) (WN E aN o.2) o.1 := by
  refine q_startI (cc := cX1_addStep) (maxL := 6) (by decide) rfl (Nat.le_of_ble_eq_true rfl) ?_
  intro pr e s m args below meth c A Q hx hb hml hown hts hK hRt hP hD hA hS ls hl
  have hl : lv_has ls 6 [(0, .ref (aN 0)), (1, .int x1), (2, .int x2), (3, .int x3)] := hl
  have hinX1 : ∀ w ∈ wsX10, w ∈ wsX1_addStep := by decide +kernel
  have hw0 := hts (.fieldLink RX1 37 "QueueReader$Net" "lengths" "[I") (by decide +kernel)
  have hw1 := hts (.fieldLink RX1 40 "QueueReader$Net" "stepPlaces" "[I") (by decide +kernel)
  have hw2 := hts (.fieldLink RX1 43 "QueueReader$Net" "stepWorks" "[I") (by decide +kernel)
  have hw3 := hts (.fieldLink RX1 18 "QueueReader$Net" "steps" "I") (by decide +kernel)
  unfold mX1_addStep at h
  refine lv_aload_n hx hb dX1_addStep_0 rfl (lv_at hl 0 rfl) ?_
  refine va_get (D := E.1) (ci := 1) (v := .ref (aN 6)) (C := RX1) (T := TX1) (N := 11) hx hb hts hinX1 hown hK.1 hP 0 rfl rfl 8 (by decide) hw0 (fun _ h9 => h9) rfl dX1_addStep_1 ?_
  refine lv_iload_n hx hb dX1_addStep_4 rfl (lv_at hl 1 rfl) ?_
  obtain ⟨i1, h⟩ := q_ck h
  refine va_iald (f := (N_lengths vN)) hx hb hK.1 hP 6 0 rfl rfl i1 dX1_addStep_5 ?_
  refine lv_istore (lv' := [(4, .int ((N_lengths vN) (Int32.toNatClampNeg x1))), (0, .ref (aN 0)), (1, .int x1), (2, .int x2), (3, .int x3)]) hx hb dX1_addStep_6 hl (by decide) rfl (fun ls hl => ?_)
  refine lv_aload_n hx hb dX1_addStep_8 rfl (lv_at hl 1 rfl) ?_
  refine lv_iload_n hx hb dX1_addStep_9 rfl (lv_at hl 2 rfl) ?_
  obtain ⟨o2, e3, h⟩ := q_bind h
  refine q_ci (va_runV (As := [.int x1]) (rest := []) ⟨hx, hb, hml, hown, hts⟩ (wX1_firstRow l E aN vN x1 o2 e3 _) (cwV 1 hts gX1_addStep_X1_firstRow rfl rfl rfl (by decide +kernel) ⟨Nat.le_of_ble_eq_true rfl, Nat.le_of_ble_eq_true rfl⟩) (q_preV hK hP hD q_idl 1 0 rfl rfl) rfl rfl hl.1 rfl (lv_room (Nat.le_of_ble_eq_true rfl)) dX1_addStep_10 ⟨Nat.zero_le _, Nat.zero_le _⟩) hP hD hS hA q_idl q_idr (fun H locs hP hD hS => ?_)
  refine lv_iload hx hb dX1_addStep_13 (lv_at hl 0 rfl) ?_
  refine lv_iadd hx hb dX1_addStep_15 ?_
  refine lv_istore (lv' := [(5, .int (o2 + ((N_lengths vN) (Int32.toNatClampNeg x1)))), (4, .int ((N_lengths vN) (Int32.toNatClampNeg x1))), (0, .ref (aN 0)), (1, .int x1), (2, .int x2), (3, .int x3)]) hx hb dX1_addStep_16 hl (by decide) rfl (fun ls hl => ?_)
  refine lv_aload_n hx hb dX1_addStep_18 rfl (lv_at hl 2 rfl) ?_
  refine va_get (D := E.1) (ci := 1) (v := .ref (aN 7)) (C := RX1) (T := TX1) (N := 11) hx hb hts hinX1 hown hK.1 hP 0 rfl rfl 9 (by decide) hw1 (fun _ h9 => h9) rfl dX1_addStep_19 ?_
  refine lv_iload hx hb dX1_addStep_22 (lv_at hl 0 rfl) ?_
  refine lv_iload_n hx hb dX1_addStep_24 rfl (lv_at hl 4 rfl) ?_
  obtain ⟨i4, h⟩ := q_ck h
  refine va_iast (f := (N_stepPlaces vN)) hx hb hK.1 hP hD hS 7 0 rfl rfl i4 dX1_addStep_25 (fun H locs hP hD hS => ?_)
  have hP : va_P E.1 vwCl (WN E aN (N_stepPlaces_s vN (upd (N_stepPlaces vN) (Int32.toNatClampNeg (o2 + ((N_lengths vN) (Int32.toNatClampNeg x1)))) x2))) H := hP
  have hD : va_D A (WN E aN (N_stepPlaces_s vN (upd (N_stepPlaces vN) (Int32.toNatClampNeg (o2 + ((N_lengths vN) (Int32.toNatClampNeg x1)))) x2))) := hD
  refine lv_aload_n hx hb dX1_addStep_26 rfl (lv_at hl 2 rfl) ?_
  refine va_get (D := E.1) (ci := 1) (v := .ref (aN 8)) (C := RX1) (T := TX1) (N := 11) hx hb hts hinX1 hown hK.1 hP 0 rfl rfl 10 (by decide) hw2 (fun _ h9 => h9) rfl dX1_addStep_27 ?_
  refine lv_iload hx hb dX1_addStep_30 (lv_at hl 0 rfl) ?_
  refine lv_iload_n hx hb dX1_addStep_32 rfl (lv_at hl 5 rfl) ?_
  obtain ⟨i5, h⟩ := q_ck h
  refine va_iast (f := (N_stepWorks vN)) hx hb hK.1 hP hD hS 8 0 rfl rfl i5 dX1_addStep_33 (fun H locs hP hD hS => ?_)
  have hP : va_P E.1 vwCl (WN E aN (N_stepWorks_s (N_stepPlaces_s vN (upd (N_stepPlaces vN) (Int32.toNatClampNeg (o2 + ((N_lengths vN) (Int32.toNatClampNeg x1)))) x2)) (upd (N_stepWorks vN) (Int32.toNatClampNeg (o2 + ((N_lengths vN) (Int32.toNatClampNeg x1)))) x3))) H := hP
  have hD : va_D A (WN E aN (N_stepWorks_s (N_stepPlaces_s vN (upd (N_stepPlaces vN) (Int32.toNatClampNeg (o2 + ((N_lengths vN) (Int32.toNatClampNeg x1)))) x2)) (upd (N_stepWorks vN) (Int32.toNatClampNeg (o2 + ((N_lengths vN) (Int32.toNatClampNeg x1)))) x3))) := hD
  refine lv_aload_n hx hb dX1_addStep_34 rfl (lv_at hl 2 rfl) ?_
  refine va_get (D := E.1) (ci := 1) (v := .ref (aN 6)) (C := RX1) (T := TX1) (N := 11) hx hb hts hinX1 hown hK.1 hP 0 rfl rfl 8 (by decide) hw0 (fun _ h9 => h9) rfl dX1_addStep_35 ?_
  refine lv_iload_n hx hb dX1_addStep_38 rfl (lv_at hl 3 rfl) ?_
  refine lv_iload hx hb dX1_addStep_39 (lv_at hl 1 rfl) ?_
  refine lv_iconst (v := 1) hx hb dX1_addStep_41 (by decide) ?_
  refine lv_iadd hx hb dX1_addStep_42 ?_
  obtain ⟨i6, h⟩ := q_ck h
  refine va_iast (f := (N_lengths vN)) hx hb hK.1 hP hD hS 6 0 rfl rfl i6 dX1_addStep_43 (fun H locs hP hD hS => ?_)
  have hP : va_P E.1 vwCl (WN E aN (N_stepWorks_s (N_stepPlaces_s (N_lengths_s vN (upd (N_lengths vN) (Int32.toNatClampNeg x1) (((N_lengths vN) (Int32.toNatClampNeg x1)) + 1))) (upd (N_stepPlaces vN) (Int32.toNatClampNeg (o2 + ((N_lengths vN) (Int32.toNatClampNeg x1)))) x2)) (upd (N_stepWorks vN) (Int32.toNatClampNeg (o2 + ((N_lengths vN) (Int32.toNatClampNeg x1)))) x3))) H := hP
  have hD : va_D A (WN E aN (N_stepWorks_s (N_stepPlaces_s (N_lengths_s vN (upd (N_lengths vN) (Int32.toNatClampNeg x1) (((N_lengths vN) (Int32.toNatClampNeg x1)) + 1))) (upd (N_stepPlaces vN) (Int32.toNatClampNeg (o2 + ((N_lengths vN) (Int32.toNatClampNeg x1)))) x2)) (upd (N_stepWorks vN) (Int32.toNatClampNeg (o2 + ((N_lengths vN) (Int32.toNatClampNeg x1)))) x3))) := hD
  refine lv_aload_n hx hb dX1_addStep_44 rfl (lv_at hl 2 rfl) ?_
  refine lv_dup hx hb dX1_addStep_45 rfl ?_
  refine va_get (D := E.1) (ci := 1) (v := .int (N_steps vN)) (C := RX1) (T := TX1) (N := 11) hx hb hts hinX1 hown hK.1 hP 0 rfl rfl 2 (by decide) hw3 (fun _ h9 => h9) rfl dX1_addStep_46 ?_
  refine lv_iconst (v := 1) hx hb dX1_addStep_49 (by decide) ?_
  refine lv_iadd hx hb dX1_addStep_50 ?_
  refine va_put (D := E.1) (ci := 1) (v := .int ((N_steps vN) + 1)) (ty := .int) (C := RX1) (T := TX1) (N := 11) hx hb hts hinX1 tyX1 tyX1_ok nmX1 hown hK.1 hP hD hS 0 rfl rfl 2 (by decide) hw3 (fun _ h9 => h9) rfl (by decide +kernel) rfl rfl (Nat.le_of_ble_eq_true rfl) dX1_addStep_51 (fun H locs hP hD hS => ?_)
  have hP : va_P E.1 vwCl (WN E aN (N_stepWorks_s (N_stepPlaces_s (N_lengths_s (N_steps_s vN ((N_steps vN) + 1)) (upd (N_lengths vN) (Int32.toNatClampNeg x1) (((N_lengths vN) (Int32.toNatClampNeg x1)) + 1))) (upd (N_stepPlaces vN) (Int32.toNatClampNeg (o2 + ((N_lengths vN) (Int32.toNatClampNeg x1)))) x2)) (upd (N_stepWorks vN) (Int32.toNatClampNeg (o2 + ((N_lengths vN) (Int32.toNatClampNeg x1)))) x3))) H := hP
  have hD : va_D A (WN E aN (N_stepWorks_s (N_stepPlaces_s (N_lengths_s (N_steps_s vN ((N_steps vN) + 1)) (upd (N_lengths vN) (Int32.toNatClampNeg x1) (((N_lengths vN) (Int32.toNatClampNeg x1)) + 1))) (upd (N_stepPlaces vN) (Int32.toNatClampNeg (o2 + ((N_lengths vN) (Int32.toNatClampNeg x1)))) x2)) (upd (N_stepWorks vN) (Int32.toNatClampNeg (o2 + ((N_lengths vN) (Int32.toNatClampNeg x1)))) x3))) := hD
  refine lv_iload hx hb dX1_addStep_54 (lv_at hl 1 rfl) ?_
  obtain rfl := q_inj h
  exact hRt 56 _ _ _ dX1_addStep_56 hP hD hS
def mX1_rowsEnd (vN : SN)  : Option Int32 := some ((N_asks vN) * 5)
def rmX1_rowsEnd : Room := { frames := 0, cells := 0, slots := 0, locals := 0 }
set_option maxHeartbeats 8000000 in
set_option maxRecDepth 100000 in
theorem wX1_rowsEnd (l : Launch) (E : qE) (aN : Nat → Nat) (vN : SN)  (o : Int32) (h : mX1_rowsEnd vN = some o) : MI l E yX1_rowsEnd wsX1_rowsEnd rmX1_rowsEnd [.ref (aN 0)] (WN E aN vN) (WN E aN vN) o := by
  refine q_startI (cc := cX1_rowsEnd) (maxL := 1) (by decide) rfl (Nat.le_of_ble_eq_true rfl) ?_
  intro pr e s m args below meth c A Q hx hb hml hown hts hK hRt hP hD hA hS ls hl
  have hl : lv_has ls 1 [(0, .ref (aN 0))] := hl
  have hinX1 : ∀ w ∈ wsX10, w ∈ wsX1_rowsEnd := by decide +kernel
  have hw0 := hts (.fieldLink RX1 15 "QueueReader$Net" "asks" "I") (by decide +kernel)
  unfold mX1_rowsEnd at h
  refine lv_aload_n hx hb dX1_rowsEnd_0 rfl (lv_at hl 0 rfl) ?_
  refine va_get (D := E.1) (ci := 1) (v := .int (N_asks vN)) (C := RX1) (T := TX1) (N := 11) hx hb hts hinX1 hown hK.1 hP 0 rfl rfl 1 (by decide) hw0 (fun _ h9 => h9) rfl dX1_rowsEnd_1 ?_
  refine lv_iconst (v := 5) hx hb dX1_rowsEnd_4 (by decide) ?_
  refine lv_imul hx hb dX1_rowsEnd_5 ?_
  obtain rfl := q_inj h
  exact hRt 6 _ _ _ dX1_rowsEnd_6 hP hD hS
def mX1_lastRow (vN : SN) (x1 : Int32) : Option Int32 := (mX1_firstRow vN x1).bind fun o1 => ck x1 60 (some ((o1 + ((N_lengths vN) (Int32.toNatClampNeg x1))) - 1))
def rmX1_lastRow : Room := { frames := 1, cells := 0, slots := 0, locals := 21 }
set_option maxHeartbeats 8000000 in
set_option maxRecDepth 100000 in
theorem wX1_lastRow (l : Launch) (E : qE) (aN : Nat → Nat) (vN : SN) (x1 : Int32) (o : Int32) (h : mX1_lastRow vN x1 = some o) : MI l E yX1_lastRow wsX1_lastRow rmX1_lastRow [.ref (aN 0), .int x1] (WN E aN vN) (WN E aN vN) o := by
  refine q_startI (cc := cX1_lastRow) (maxL := 2) (by decide) rfl (Nat.le_of_ble_eq_true rfl) ?_
  intro pr e s m args below meth c A Q hx hb hml hown hts hK hRt hP hD hA hS ls hl
  have hl : lv_has ls 2 [(0, .ref (aN 0)), (1, .int x1)] := hl
  have hinX1 : ∀ w ∈ wsX10, w ∈ wsX1_lastRow := by decide +kernel
  have hw0 := hts (.fieldLink RX1 37 "QueueReader$Net" "lengths" "[I") (by decide +kernel)
  unfold mX1_lastRow at h
  refine lv_aload_n hx hb dX1_lastRow_0 rfl (lv_at hl 0 rfl) ?_
  refine lv_iload_n hx hb dX1_lastRow_1 rfl (lv_at hl 1 rfl) ?_
  obtain ⟨o1, e2, h⟩ := q_bind h
  refine q_ci (va_runV (As := [.int x1]) (rest := []) ⟨hx, hb, hml, hown, hts⟩ (wX1_firstRow l E aN vN x1 o1 e2 _) (cwV 1 hts gX1_lastRow_X1_firstRow rfl rfl rfl (by decide +kernel) ⟨Nat.le_of_ble_eq_true rfl, Nat.le_of_ble_eq_true rfl⟩) (q_preV hK hP hD q_idl 1 0 rfl rfl) rfl rfl hl.1 rfl (lv_room (Nat.le_of_ble_eq_true rfl)) dX1_lastRow_2 ⟨Nat.zero_le _, Nat.zero_le _⟩) hP hD hS hA q_idl q_idr (fun H locs hP hD hS => ?_)
  refine lv_aload_n hx hb dX1_lastRow_5 rfl (lv_at hl 0 rfl) ?_
  refine va_get (D := E.1) (ci := 1) (v := .ref (aN 6)) (C := RX1) (T := TX1) (N := 11) hx hb hts hinX1 hown hK.1 hP 0 rfl rfl 8 (by decide) hw0 (fun _ h9 => h9) rfl dX1_lastRow_6 ?_
  refine lv_iload_n hx hb dX1_lastRow_9 rfl (lv_at hl 1 rfl) ?_
  obtain ⟨i3, h⟩ := q_ck h
  refine va_iald (f := (N_lengths vN)) hx hb hK.1 hP 6 0 rfl rfl i3 dX1_lastRow_10 ?_
  refine lv_iadd hx hb dX1_lastRow_11 ?_
  refine lv_iconst (v := 1) hx hb dX1_lastRow_12 (by decide) ?_
  refine lv_isub hx hb dX1_lastRow_13 ?_
  obtain rfl := q_inj h
  exact hRt 14 _ _ _ dX1_lastRow_14 hP hD hS
def mX1_isStep (vN : SN) (x1 : Int32) : Option Int32 := ck x1 300 (if ((N_stepPlaces vN) (Int32.toNatClampNeg x1)) = (-1) then (some 0) else (some 1))
def rmX1_isStep : Room := { frames := 0, cells := 0, slots := 0, locals := 0 }
set_option maxHeartbeats 8000000 in
set_option maxRecDepth 100000 in
theorem wX1_isStep (l : Launch) (E : qE) (aN : Nat → Nat) (vN : SN) (x1 : Int32) (o : Int32) (h : mX1_isStep vN x1 = some o) : MI l E yX1_isStep wsX1_isStep rmX1_isStep [.ref (aN 0), .int x1] (WN E aN vN) (WN E aN vN) o := by
  refine q_startZ (cc := cX1_isStep) (maxL := 2) (by decide) rfl (Nat.le_of_ble_eq_true rfl) ?_
  intro pr e s m args below meth c A Q hx hb hml hown hts hK hRt hP hD hA hS ls hl
  have hl : lv_has ls 2 [(0, .ref (aN 0)), (1, .int x1)] := hl
  have hinX1 : ∀ w ∈ wsX10, w ∈ wsX1_isStep := by decide +kernel
  have hw0 := hts (.fieldLink RX1 40 "QueueReader$Net" "stepPlaces" "[I") (by decide +kernel)
  unfold mX1_isStep at h
  refine lv_aload_n hx hb dX1_isStep_0 rfl (lv_at hl 0 rfl) ?_
  refine va_get (D := E.1) (ci := 1) (v := .ref (aN 7)) (C := RX1) (T := TX1) (N := 11) hx hb hts hinX1 hown hK.1 hP 0 rfl rfl 9 (by decide) hw0 (fun _ h9 => h9) rfl dX1_isStep_1 ?_
  refine lv_iload_n hx hb dX1_isStep_4 rfl (lv_at hl 1 rfl) ?_
  obtain ⟨i1, h⟩ := q_ck h
  refine va_iald (f := (N_stepPlaces vN)) hx hb hK.1 hP 7 0 rfl rfl i1 dX1_isStep_5 ?_
  refine lv_iconst (v := (-1)) hx hb dX1_isStep_6 (by decide) ?_
  refine lv_icmp_eq (tgt := 14) hx hb dX1_isStep_7 (by decide) (fun c2 => ?_) (fun c2 => ?_)
  · have h := q_pos c2 h
    refine lv_iconst (v := 0) hx hb dX1_isStep_14 (by decide) ?_
    obtain rfl := q_inj h
    exact hRt 15 _ _ _ dX1_isStep_15 q_n0 hP hD hS
  · have h := q_neg c2 h
    refine lv_iconst (v := 1) hx hb dX1_isStep_10 (by decide) ?_
    refine lv_goto (tgt := 15) hx hb dX1_isStep_11 (by decide) ?_
    obtain rfl := q_inj h
    exact hRt 15 _ _ _ dX1_isStep_15 q_n1 hP hD hS
