def mX5_thrown (vM : SM)  : Option Int32 := some (M_thrown vM)
def rmX5_thrown : Room := { frames := 0, cells := 0, slots := 0, locals := 0 }
set_option maxHeartbeats 8000000 in
set_option maxRecDepth 100000 in
theorem wX5_thrown (l : Launch) (E : qE) (aM : Nat → Nat) (vM : SM)  (o : Int32) (h : mX5_thrown vM = some o) : MI l E yX5_thrown wsX5_thrown rmX5_thrown [.ref (aM 0)] (WM E aM vM) (WM E aM vM) o := by
  refine q_startI (cc := cX5_thrown) (maxL := 1) (by decide) rfl (Nat.le_of_ble_eq_true rfl) ?_
  intro pr e s m args below meth c A Q hx hb hml hown hts hK hRt hP hD hA hS ls hl
  have hl : lv_has ls 1 [(0, .ref (aM 0))] := hl
  have hinX5 : ∀ w ∈ wsX50, w ∈ wsX5_thrown := by decide +kernel
  have hw0 := hts (.fieldLink RX5 59 "QueueReaderModel" "thrown" "I") (by decide +kernel)
  unfold mX5_thrown at h
  refine lv_aload_n hx hb dX5_thrown_0 rfl (lv_at hl 0 rfl) ?_
  refine va_get (D := E.1) (ci := 5) (v := .int (M_thrown vM)) (C := RX5) (T := TX5) (N := 19) hx hb hts hinX5 hown hK.1 hP 0 rfl rfl 0 (by decide) hw0 (fun _ h9 => h9) rfl dX5_thrown_1 ?_
  obtain rfl := q_inj h
  exact hRt 4 _ _ _ dX5_thrown_4 hP hD hS
def mX5_in  (x0 : Int32) (x1 : Int32) (x2 : Int32) : Option Int32 := if x0 < x1 then (some 0) else (if x2 < x0 then (some 0) else (some 1))
def rmX5_in : Room := { frames := 0, cells := 0, slots := 0, locals := 0 }
set_option maxHeartbeats 8000000 in
set_option maxRecDepth 100000 in
theorem wX5_in (l : Launch) (E : qE)   (x0 : Int32) (x1 : Int32) (x2 : Int32) (o : Int32) (h : mX5_in x0 x1 x2 = some o) : MI l E yX5_in wsX5_in rmX5_in [.int x0, .int x1, .int x2] ([]) ([]) o := by
  refine q_startZ (cc := cX5_in) (maxL := 3) (by decide) rfl (Nat.le_of_ble_eq_true rfl) ?_
  intro pr e s m args below meth c A Q hx hb hml hown hts hK hRt hP hD hA hS ls hl
  have hl : lv_has ls 3 [(0, .int x0), (1, .int x1), (2, .int x2)] := hl
  unfold mX5_in at h
  refine lv_iload_n hx hb dX5_in_0 rfl (lv_at hl 0 rfl) ?_
  refine lv_iload_n hx hb dX5_in_1 rfl (lv_at hl 1 rfl) ?_
  refine lv_icmp_lt (tgt := 14) hx hb dX5_in_2 (by decide) (fun c1 => ?_) (fun c1 => ?_)
  · have h := q_pos c1 h
    refine lv_iconst (v := 0) hx hb dX5_in_14 (by decide) ?_
    obtain rfl := q_inj h
    exact hRt 15 _ _ _ dX5_in_15 q_n0 hP hD hS
  · have h := q_neg c1 h
    refine lv_iload_n hx hb dX5_in_5 rfl (lv_at hl 0 rfl) ?_
    refine lv_iload_n hx hb dX5_in_6 rfl (lv_at hl 2 rfl) ?_
    refine lv_icmp_gt (tgt := 14) hx hb dX5_in_7 (by decide) (fun c2 => ?_) (fun c2 => ?_)
    · have h := q_pos c2 h
      refine lv_iconst (v := 0) hx hb dX5_in_14 (by decide) ?_
      obtain rfl := q_inj h
      exact hRt 15 _ _ _ dX5_in_15 q_n0 hP hD hS
    · have h := q_neg c2 h
      refine lv_iconst (v := 1) hx hb dX5_in_10 (by decide) ?_
      refine lv_goto (tgt := 15) hx hb dX5_in_11 (by decide) ?_
      obtain rfl := q_inj h
      exact hRt 15 _ _ _ dX5_in_15 q_n1 hP hD hS
def mX5_isPlace  (x0 : Int32) (x1 : Int32) (x2 : Int32) : Option Int32 := (mX5_in x0 1 8).bind fun o1 => if o1 = 0 then (some 0) else ((mX5_in x1 0 3).bind fun o4 => if o4 = 0 then (some 0) else ((mX5_in x2 0 1000).bind fun o7 => if o7 = 0 then (some 0) else (some 1)))
def rmX5_isPlace : Room := { frames := 1, cells := 0, slots := 0, locals := 22 }
set_option maxHeartbeats 8000000 in
set_option maxRecDepth 100000 in
theorem wX5_isPlace (l : Launch) (E : qE)   (x0 : Int32) (x1 : Int32) (x2 : Int32) (o : Int32) (h : mX5_isPlace x0 x1 x2 = some o) : MI l E yX5_isPlace wsX5_isPlace rmX5_isPlace [.int x0, .int x1, .int x2] ([]) ([]) o := by
  refine q_startZ (cc := cX5_isPlace) (maxL := 3) (by decide) rfl (Nat.le_of_ble_eq_true rfl) ?_
  intro pr e s m args below meth c A Q hx hb hml hown hts hK hRt hP hD hA hS ls hl
  have hl : lv_has ls 3 [(0, .int x0), (1, .int x1), (2, .int x2)] := hl
  unfold mX5_isPlace at h
  refine lv_iload_n hx hb dX5_isPlace_0 rfl (lv_at hl 0 rfl) ?_
  refine lv_iconst (v := 1) hx hb dX5_isPlace_1 (by decide) ?_
  refine lv_bipush (v := 8) hx hb dX5_isPlace_2 (by decide) ?_
  obtain ⟨o1, e2, h⟩ := q_bind h
  refine q_ci (va_runS (As := [.int x0, .int 1, .int 8]) (rest := []) ⟨hx, hb, hml, hown, hts⟩ (wX5_in l E  x0 1 8 o1 e2 _) (va_cwS 3 hts gX5_isPlace_X5_in rfl rfl rfl (by decide +kernel) ⟨Nat.le_of_ble_eq_true rfl, Nat.le_of_ble_eq_true rfl⟩) (q_preS hK hP hD q_nil) rfl rfl hl.1 rfl (lv_room (Nat.le_of_ble_eq_true rfl)) dX5_isPlace_4 ⟨Nat.zero_le _, Nat.zero_le _⟩) hP hD hS hA q_nil q_nil.symm (fun H locs hP hD hS => ?_)
  refine lv_if_eq (tgt := 34) hx hb dX5_isPlace_7 (by decide) (fun c3 => ?_) (fun c3 => ?_)
  · have h := q_pos c3 h
    refine lv_iconst (v := 0) hx hb dX5_isPlace_34 (by decide) ?_
    obtain rfl := q_inj h
    exact hRt 35 _ _ _ dX5_isPlace_35 q_n0 hP hD hS
  · have h := q_neg c3 h
    refine lv_iload_n hx hb dX5_isPlace_10 rfl (lv_at hl 1 rfl) ?_
    refine lv_iconst (v := 0) hx hb dX5_isPlace_11 (by decide) ?_
    refine lv_iconst (v := 3) hx hb dX5_isPlace_12 (by decide) ?_
    obtain ⟨o4, e5, h⟩ := q_bind h
    refine q_ci (va_runS (As := [.int x1, .int 0, .int 3]) (rest := []) ⟨hx, hb, hml, hown, hts⟩ (wX5_in l E  x1 0 3 o4 e5 _) (va_cwS 3 hts gX5_isPlace_X5_in rfl rfl rfl (by decide +kernel) ⟨Nat.le_of_ble_eq_true rfl, Nat.le_of_ble_eq_true rfl⟩) (q_preS hK hP hD q_nil) rfl rfl hl.1 rfl (lv_room (Nat.le_of_ble_eq_true rfl)) dX5_isPlace_13 ⟨Nat.zero_le _, Nat.zero_le _⟩) hP hD hS hA q_nil q_nil.symm (fun H locs hP hD hS => ?_)
    refine lv_if_eq (tgt := 34) hx hb dX5_isPlace_16 (by decide) (fun c6 => ?_) (fun c6 => ?_)
    · have h := q_pos c6 h
      refine lv_iconst (v := 0) hx hb dX5_isPlace_34 (by decide) ?_
      obtain rfl := q_inj h
      exact hRt 35 _ _ _ dX5_isPlace_35 q_n0 hP hD hS
    · have h := q_neg c6 h
      refine lv_iload_n hx hb dX5_isPlace_19 rfl (lv_at hl 2 rfl) ?_
      refine lv_iconst (v := 0) hx hb dX5_isPlace_20 (by decide) ?_
      refine lv_sipush (v := 1000) hx hb dX5_isPlace_21 (by decide) ?_
      obtain ⟨o7, e8, h⟩ := q_bind h
      refine q_ci (va_runS (As := [.int x2, .int 0, .int 1000]) (rest := []) ⟨hx, hb, hml, hown, hts⟩ (wX5_in l E  x2 0 1000 o7 e8 _) (va_cwS 3 hts gX5_isPlace_X5_in rfl rfl rfl (by decide +kernel) ⟨Nat.le_of_ble_eq_true rfl, Nat.le_of_ble_eq_true rfl⟩) (q_preS hK hP hD q_nil) rfl rfl hl.1 rfl (lv_room (Nat.le_of_ble_eq_true rfl)) dX5_isPlace_24 ⟨Nat.zero_le _, Nat.zero_le _⟩) hP hD hS hA q_nil q_nil.symm (fun H locs hP hD hS => ?_)
      refine lv_if_eq (tgt := 34) hx hb dX5_isPlace_27 (by decide) (fun c9 => ?_) (fun c9 => ?_)
      · have h := q_pos c9 h
        refine lv_iconst (v := 0) hx hb dX5_isPlace_34 (by decide) ?_
        obtain rfl := q_inj h
        exact hRt 35 _ _ _ dX5_isPlace_35 q_n0 hP hD hS
      · have h := q_neg c9 h
        refine lv_iconst (v := 1) hx hb dX5_isPlace_30 (by decide) ?_
        refine lv_goto (tgt := 35) hx hb dX5_isPlace_31 (by decide) ?_
        obtain rfl := q_inj h
        exact hRt 35 _ _ _ dX5_isPlace_35 q_n1 hP hD hS
def mX5_throwsIf (vM : SM) (x1 : Int32) (x2 : Int32) : Option (Int32 × SM) := if x1 = 0 then (ckz x1 (some (x1, vM))) else (ckz x1 (some (x1, (M_thrown_s vM x2))))
def rmX5_throwsIf : Room := { frames := 0, cells := 0, slots := 0, locals := 0 }
set_option maxHeartbeats 8000000 in
set_option maxRecDepth 100000 in
theorem wX5_throwsIf (l : Launch) (E : qE) (aM : Nat → Nat) (vM : SM) (x1 : Int32) (x2 : Int32) (o : Int32 × SM) (h : mX5_throwsIf vM x1 x2 = some o) : MI l E yX5_throwsIf wsX5_throwsIf rmX5_throwsIf [.ref (aM 0), .int x1, .int x2] (WM E aM vM) (WM E aM o.2) o.1 := by
  refine q_startZ (cc := cX5_throwsIf) (maxL := 3) (by decide) rfl (Nat.le_of_ble_eq_true rfl) ?_
  intro pr e s m args below meth c A Q hx hb hml hown hts hK hRt hP hD hA hS ls hl
  have hl : lv_has ls 3 [(0, .ref (aM 0)), (1, .int x1), (2, .int x2)] := hl
  have hinX5 : ∀ w ∈ wsX50, w ∈ wsX5_throwsIf := by decide +kernel
  have hw0 := hts (.fieldLink RX5 59 "QueueReaderModel" "thrown" "I") (by decide +kernel)
  unfold mX5_throwsIf at h
  refine lv_iload_n hx hb dX5_throwsIf_0 rfl (lv_at hl 1 rfl) ?_
  refine lv_if_eq (tgt := 9) hx hb dX5_throwsIf_1 (by decide) (fun c1 => ?_) (fun c1 => ?_)
  · have h := q_pos c1 h
    refine lv_iload_n hx hb dX5_throwsIf_9 rfl (lv_at hl 1 rfl) ?_
    obtain ⟨hz, h⟩ := q_ckz h
    obtain rfl := q_inj h
    exact hRt 10 _ _ _ dX5_throwsIf_10 hz hP hD hS
  · have h := q_neg c1 h
    refine lv_aload_n hx hb dX5_throwsIf_4 rfl (lv_at hl 0 rfl) ?_
    refine lv_iload_n hx hb dX5_throwsIf_5 rfl (lv_at hl 2 rfl) ?_
    refine va_put (D := E.1) (ci := 5) (v := .int x2) (ty := .int) (C := RX5) (T := TX5) (N := 19) hx hb hts hinX5 tyX5 tyX5_ok nmX5 hown hK.1 hP hD hS 0 rfl rfl 0 (by decide) hw0 (fun _ h9 => h9) rfl (by decide +kernel) rfl rfl (Nat.le_of_ble_eq_true rfl) dX5_throwsIf_6 (fun H locs hP hD hS => ?_)
    have hP : va_P E.1 vwCl (WM E aM (M_thrown_s vM x2)) H := hP
    have hD : va_D A (WM E aM (M_thrown_s vM x2)) := hD
    refine lv_iload_n hx hb dX5_throwsIf_9 rfl (lv_at hl 1 rfl) ?_
    obtain ⟨hz, h⟩ := q_ckz h
    obtain rfl := q_inj h
    exact hRt 10 _ _ _ dX5_throwsIf_10 hz hP hD hS
def mX5_noPlace (vM : SM) (x1 : Int32) : Option Int32 := (mX5_in x1 0 ((M_places vM) - 1)).bind fun o1 => if o1 = 0 then (some 1) else (some 0)
def rmX5_noPlace : Room := { frames := 1, cells := 0, slots := 0, locals := 22 }
set_option maxHeartbeats 8000000 in
set_option maxRecDepth 100000 in
theorem wX5_noPlace (l : Launch) (E : qE) (aM : Nat → Nat) (vM : SM) (x1 : Int32) (o : Int32) (h : mX5_noPlace vM x1 = some o) : MI l E yX5_noPlace wsX5_noPlace rmX5_noPlace [.ref (aM 0), .int x1] (WM E aM vM) (WM E aM vM) o := by
  refine q_startZ (cc := cX5_noPlace) (maxL := 2) (by decide) rfl (Nat.le_of_ble_eq_true rfl) ?_
  intro pr e s m args below meth c A Q hx hb hml hown hts hK hRt hP hD hA hS ls hl
  have hl : lv_has ls 2 [(0, .ref (aM 0)), (1, .int x1)] := hl
  have hinX5 : ∀ w ∈ wsX50, w ∈ wsX5_noPlace := by decide +kernel
  have hw0 := hts (.fieldLink RX5 63 "QueueReaderModel" "places" "I") (by decide +kernel)
  unfold mX5_noPlace at h
  refine lv_iload_n hx hb dX5_noPlace_0 rfl (lv_at hl 1 rfl) ?_
  refine lv_iconst (v := 0) hx hb dX5_noPlace_1 (by decide) ?_
  refine lv_aload_n hx hb dX5_noPlace_2 rfl (lv_at hl 0 rfl) ?_
  refine va_get (D := E.1) (ci := 5) (v := .int (M_places vM)) (C := RX5) (T := TX5) (N := 19) hx hb hts hinX5 hown hK.1 hP 0 rfl rfl 4 (by decide) hw0 (fun _ h9 => h9) rfl dX5_noPlace_3 ?_
  refine lv_iconst (v := 1) hx hb dX5_noPlace_6 (by decide) ?_
  refine lv_isub hx hb dX5_noPlace_7 ?_
  obtain ⟨o1, e2, h⟩ := q_bind h
  refine q_ci (va_runS (As := [.int x1, .int 0, .int ((M_places vM) - 1)]) (rest := []) ⟨hx, hb, hml, hown, hts⟩ (wX5_in l E  x1 0 ((M_places vM) - 1) o1 e2 _) (va_cwS 3 hts gX5_noPlace_X5_in rfl rfl rfl (by decide +kernel) ⟨Nat.le_of_ble_eq_true rfl, Nat.le_of_ble_eq_true rfl⟩) (q_preS hK hP hD q_nil) rfl rfl hl.1 rfl (lv_room (Nat.le_of_ble_eq_true rfl)) dX5_noPlace_8 ⟨Nat.zero_le _, Nat.zero_le _⟩) hP hD hS hA q_nil q_nil.symm (fun H locs hP hD hS => ?_)
  refine lv_if_ne (tgt := 18) hx hb dX5_noPlace_11 (by decide) (fun c3 => ?_) (fun c3 => ?_)
  · have h := q_neg c3 h
    refine lv_iconst (v := 0) hx hb dX5_noPlace_18 (by decide) ?_
    obtain rfl := q_inj h
    exact hRt 19 _ _ _ dX5_noPlace_19 q_n0 hP hD hS
  · have h := q_pos c3 h
    refine lv_iconst (v := 1) hx hb dX5_noPlace_14 (by decide) ?_
    refine lv_goto (tgt := 19) hx hb dX5_noPlace_15 (by decide) ?_
    obtain rfl := q_inj h
    exact hRt 19 _ _ _ dX5_noPlace_19 q_n1 hP hD hS
def mX5_noAsk (vM : SM) (x1 : Int32) : Option Int32 := (mX5_in x1 0 ((M_asks vM) - 1)).bind fun o1 => if o1 = 0 then (some 1) else (some 0)
def rmX5_noAsk : Room := { frames := 1, cells := 0, slots := 0, locals := 22 }
set_option maxHeartbeats 8000000 in
set_option maxRecDepth 100000 in
theorem wX5_noAsk (l : Launch) (E : qE) (aM : Nat → Nat) (vM : SM) (x1 : Int32) (o : Int32) (h : mX5_noAsk vM x1 = some o) : MI l E yX5_noAsk wsX5_noAsk rmX5_noAsk [.ref (aM 0), .int x1] (WM E aM vM) (WM E aM vM) o := by
  refine q_startZ (cc := cX5_noAsk) (maxL := 2) (by decide) rfl (Nat.le_of_ble_eq_true rfl) ?_
  intro pr e s m args below meth c A Q hx hb hml hown hts hK hRt hP hD hA hS ls hl
  have hl : lv_has ls 2 [(0, .ref (aM 0)), (1, .int x1)] := hl
  have hinX5 : ∀ w ∈ wsX50, w ∈ wsX5_noAsk := by decide +kernel
  have hw0 := hts (.fieldLink RX5 70 "QueueReaderModel" "asks" "I") (by decide +kernel)
  unfold mX5_noAsk at h
  refine lv_iload_n hx hb dX5_noAsk_0 rfl (lv_at hl 1 rfl) ?_
  refine lv_iconst (v := 0) hx hb dX5_noAsk_1 (by decide) ?_
  refine lv_aload_n hx hb dX5_noAsk_2 rfl (lv_at hl 0 rfl) ?_
  refine va_get (D := E.1) (ci := 5) (v := .int (M_asks vM)) (C := RX5) (T := TX5) (N := 19) hx hb hts hinX5 hown hK.1 hP 0 rfl rfl 8 (by decide) hw0 (fun _ h9 => h9) rfl dX5_noAsk_3 ?_
  refine lv_iconst (v := 1) hx hb dX5_noAsk_6 (by decide) ?_
  refine lv_isub hx hb dX5_noAsk_7 ?_
  obtain ⟨o1, e2, h⟩ := q_bind h
  refine q_ci (va_runS (As := [.int x1, .int 0, .int ((M_asks vM) - 1)]) (rest := []) ⟨hx, hb, hml, hown, hts⟩ (wX5_in l E  x1 0 ((M_asks vM) - 1) o1 e2 _) (va_cwS 3 hts gX5_noAsk_X5_in rfl rfl rfl (by decide +kernel) ⟨Nat.le_of_ble_eq_true rfl, Nat.le_of_ble_eq_true rfl⟩) (q_preS hK hP hD q_nil) rfl rfl hl.1 rfl (lv_room (Nat.le_of_ble_eq_true rfl)) dX5_noAsk_8 ⟨Nat.zero_le _, Nat.zero_le _⟩) hP hD hS hA q_nil q_nil.symm (fun H locs hP hD hS => ?_)
  refine lv_if_ne (tgt := 18) hx hb dX5_noAsk_11 (by decide) (fun c3 => ?_) (fun c3 => ?_)
  · have h := q_neg c3 h
    refine lv_iconst (v := 0) hx hb dX5_noAsk_18 (by decide) ?_
    obtain rfl := q_inj h
    exact hRt 19 _ _ _ dX5_noAsk_19 q_n0 hP hD hS
  · have h := q_pos c3 h
    refine lv_iconst (v := 1) hx hb dX5_noAsk_14 (by decide) ?_
    refine lv_goto (tgt := 19) hx hb dX5_noAsk_15 (by decide) ?_
    obtain rfl := q_inj h
    exact hRt 19 _ _ _ dX5_noAsk_19 q_n1 hP hD hS
def mX5_noStep (vM : SM) (x1 : Int32) (x2 : Int32) : Option Int32 := (mX5_noAsk vM x1).bind fun o1 => if o1 = 0 then (ck x1 60 ((mX5_in x2 0 (((M_steps vM) (Int32.toNatClampNeg x1)) - 1)).bind fun o5 => if o5 = 0 then (some 1) else (some 0))) else (some 1)
def rmX5_noStep : Room := { frames := 2, cells := 0, slots := 0, locals := 43 }
set_option maxHeartbeats 8000000 in
set_option maxRecDepth 100000 in
theorem wX5_noStep (l : Launch) (E : qE) (aM : Nat → Nat) (vM : SM) (x1 : Int32) (x2 : Int32) (o : Int32) (h : mX5_noStep vM x1 x2 = some o) : MI l E yX5_noStep wsX5_noStep rmX5_noStep [.ref (aM 0), .int x1, .int x2] (WM E aM vM) (WM E aM vM) o := by
  refine q_startZ (cc := cX5_noStep) (maxL := 3) (by decide) rfl (Nat.le_of_ble_eq_true rfl) ?_
  intro pr e s m args below meth c A Q hx hb hml hown hts hK hRt hP hD hA hS ls hl
  have hl : lv_has ls 3 [(0, .ref (aM 0)), (1, .int x1), (2, .int x2)] := hl
  have hinX5 : ∀ w ∈ wsX50, w ∈ wsX5_noStep := by decide +kernel
  have hw0 := hts (.fieldLink RX5 25 "QueueReaderModel" "steps" "[I") (by decide +kernel)
  unfold mX5_noStep at h
  refine lv_aload_n hx hb dX5_noStep_0 rfl (lv_at hl 0 rfl) ?_
  refine lv_iload_n hx hb dX5_noStep_1 rfl (lv_at hl 1 rfl) ?_
  obtain ⟨o1, e2, h⟩ := q_bind h
  refine q_ci (va_runV (As := [.int x1]) (rest := []) ⟨hx, hb, hml, hown, hts⟩ (wX5_noAsk l E aM vM x1 o1 e2 _) (cwV 1 hts gX5_noStep_X5_noAsk rfl rfl rfl (by decide +kernel) ⟨Nat.le_of_ble_eq_true rfl, Nat.le_of_ble_eq_true rfl⟩) (q_preV hK hP hD q_idl 5 0 rfl rfl) rfl rfl hl.1 rfl (lv_room (Nat.le_of_ble_eq_true rfl)) dX5_noStep_2 ⟨Nat.zero_le _, Nat.zero_le _⟩) hP hD hS hA q_idl q_idr (fun H locs hP hD hS => ?_)
  refine lv_if_ne (tgt := 24) hx hb dX5_noStep_5 (by decide) (fun c3 => ?_) (fun c3 => ?_)
  · have h := q_neg c3 h
    refine lv_iconst (v := 1) hx hb dX5_noStep_24 (by decide) ?_
    refine lv_goto (tgt := 29) hx hb dX5_noStep_25 (by decide) ?_
    obtain rfl := q_inj h
    exact hRt 29 _ _ _ dX5_noStep_29 q_n1 hP hD hS
  · have h := q_pos c3 h
    refine lv_iload_n hx hb dX5_noStep_8 rfl (lv_at hl 2 rfl) ?_
    refine lv_iconst (v := 0) hx hb dX5_noStep_9 (by decide) ?_
    refine lv_aload_n hx hb dX5_noStep_10 rfl (lv_at hl 0 rfl) ?_
    refine va_get (D := E.1) (ci := 5) (v := .ref (aM 6)) (C := RX5) (T := TX5) (N := 19) hx hb hts hinX5 hown hK.1 hP 0 rfl rfl 7 (by decide) hw0 (fun _ h9 => h9) rfl dX5_noStep_11 ?_
    refine lv_iload_n hx hb dX5_noStep_14 rfl (lv_at hl 1 rfl) ?_
    obtain ⟨i4, h⟩ := q_ck h
    refine va_iald (f := (M_steps vM)) hx hb hK.1 hP 6 0 rfl rfl i4 dX5_noStep_15 ?_
    refine lv_iconst (v := 1) hx hb dX5_noStep_16 (by decide) ?_
    refine lv_isub hx hb dX5_noStep_17 ?_
    obtain ⟨o5, e6, h⟩ := q_bind h
    refine q_ci (va_runS (As := [.int x2, .int 0, .int (((M_steps vM) (Int32.toNatClampNeg x1)) - 1)]) (rest := []) ⟨hx, hb, hml, hown, hts⟩ (wX5_in l E  x2 0 (((M_steps vM) (Int32.toNatClampNeg x1)) - 1) o5 e6 _) (va_cwS 3 hts gX5_noStep_X5_in rfl rfl rfl (by decide +kernel) ⟨Nat.le_of_ble_eq_true rfl, Nat.le_of_ble_eq_true rfl⟩) (q_preS hK hP hD q_nil) rfl rfl hl.1 rfl (lv_room (Nat.le_of_ble_eq_true rfl)) dX5_noStep_18 ⟨Nat.zero_le _, Nat.zero_le _⟩) hP hD hS hA q_nil q_nil.symm (fun H locs hP hD hS => ?_)
    refine lv_if_ne (tgt := 28) hx hb dX5_noStep_21 (by decide) (fun c7 => ?_) (fun c7 => ?_)
    · have h := q_neg c7 h
      refine lv_iconst (v := 0) hx hb dX5_noStep_28 (by decide) ?_
      obtain rfl := q_inj h
      exact hRt 29 _ _ _ dX5_noStep_29 q_n0 hP hD hS
    · have h := q_pos c7 h
      refine lv_iconst (v := 1) hx hb dX5_noStep_24 (by decide) ?_
      refine lv_goto (tgt := 29) hx hb dX5_noStep_25 (by decide) ?_
      obtain rfl := q_inj h
      exact hRt 29 _ _ _ dX5_noStep_29 q_n1 hP hD hS
def mX5_place (vM : SM) (x1 : Int32) (x2 : Int32) (x3 : Int32) : Option (Int32 × SM) := (mX5_isPlace x1 x2 x3).bind fun o1 => Option.bind (if o1 = 0 then (some 1) else (some 0)) fun z4 => (mX5_throwsIf (M_thrown_s vM 0) z4 1).bind fun o6 => if o6.1 = 0 then (Option.bind (if (M_places o6.2) = 5 then (some 1) else (some 0)) fun z10 => (mX5_throwsIf o6.2 z10 2).bind fun o12 => if o12.1 = 0 then (ck (M_places o12.2) 5 (ck (M_places o12.2) 5 (ck (M_places o12.2) 5 (some ((((M_places o12.2) + 1) - 1), (M_places_s (M_delay_s (M_rule_s (M_helpers_s o12.2 (upd (M_helpers o12.2) (Int32.toNatClampNeg (M_places o12.2)) x1)) (upd (M_rule o12.2) (Int32.toNatClampNeg (M_places o12.2)) x2)) (upd (M_delay o12.2) (Int32.toNatClampNeg (M_places o12.2)) x3)) ((M_places o12.2) + 1))))))) else (some (0, o12.2))) else (some (0, o6.2))
def rmX5_place : Room := { frames := 2, cells := 0, slots := 0, locals := 44 }
set_option maxHeartbeats 8000000 in
set_option maxRecDepth 100000 in
theorem wX5_place (l : Launch) (E : qE) (aM : Nat → Nat) (vM : SM) (x1 : Int32) (x2 : Int32) (x3 : Int32) (o : Int32 × SM) (h : mX5_place vM x1 x2 x3 = some o) : MI l E yX5_place wsX5_place rmX5_place [.ref (aM 0), .int x1, .int x2, .int x3] (WM E aM vM) (WM E aM o.2) o.1 := by
  refine q_startI (cc := cX5_place) (maxL := 4) (by decide) rfl (Nat.le_of_ble_eq_true rfl) ?_
  intro pr e s m args below meth c A Q hx hb hml hown hts hK hRt hP hD hA hS ls hl
  have hl : lv_has ls 4 [(0, .ref (aM 0)), (1, .int x1), (2, .int x2), (3, .int x3)] := hl
  have hinX5 : ∀ w ∈ wsX50, w ∈ wsX5_place := by decide +kernel
  have hw0 := hts (.fieldLink RX5 59 "QueueReaderModel" "thrown" "I") (by decide +kernel)
  have hw1 := hts (.fieldLink RX5 63 "QueueReaderModel" "places" "I") (by decide +kernel)
  have hw2 := hts (.fieldLink RX5 9 "QueueReaderModel" "helpers" "[I") (by decide +kernel)
  have hw3 := hts (.fieldLink RX5 13 "QueueReaderModel" "rule" "[I") (by decide +kernel)
  have hw4 := hts (.fieldLink RX5 16 "QueueReaderModel" "delay" "[I") (by decide +kernel)
  unfold mX5_place at h
  refine lv_aload_n hx hb dX5_place_0 rfl (lv_at hl 0 rfl) ?_
  refine lv_iconst (v := 0) hx hb dX5_place_1 (by decide) ?_
  refine va_put (D := E.1) (ci := 5) (v := .int 0) (ty := .int) (C := RX5) (T := TX5) (N := 19) hx hb hts hinX5 tyX5 tyX5_ok nmX5 hown hK.1 hP hD hS 0 rfl rfl 0 (by decide) hw0 (fun _ h9 => h9) rfl (by decide +kernel) rfl rfl (Nat.le_of_ble_eq_true rfl) dX5_place_2 (fun H locs hP hD hS => ?_)
  have hP : va_P E.1 vwCl (WM E aM (M_thrown_s vM 0)) H := hP
  have hD : va_D A (WM E aM (M_thrown_s vM 0)) := hD
  refine lv_aload_n hx hb dX5_place_5 rfl (lv_at hl 0 rfl) ?_
  refine lv_iload_n hx hb dX5_place_6 rfl (lv_at hl 1 rfl) ?_
  refine lv_iload_n hx hb dX5_place_7 rfl (lv_at hl 2 rfl) ?_
  refine lv_iload_n hx hb dX5_place_8 rfl (lv_at hl 3 rfl) ?_
  obtain ⟨o1, e2, h⟩ := q_bind h
  refine q_ci (va_runS (As := [.int x1, .int x2, .int x3]) (rest := [.ref (aM 0)]) ⟨hx, hb, hml, hown, hts⟩ (wX5_isPlace l E  x1 x2 x3 o1 e2 _) (va_cwS 3 hts gX5_place_X5_isPlace rfl rfl rfl (by decide +kernel) ⟨Nat.le_of_ble_eq_true rfl, Nat.le_of_ble_eq_true rfl⟩) (q_preS hK hP hD q_nil) rfl rfl hl.1 rfl (lv_room (Nat.le_of_ble_eq_true rfl)) dX5_place_9 ⟨Nat.zero_le _, Nat.zero_le _⟩) hP hD hS hA q_nil q_nil.symm (fun H locs hP hD hS => ?_)
  obtain ⟨z4, e5, h⟩ := q_bind h
  have KJ3 : ∀ (H : Heap) (locs : List Loc), va_P E.1 vwCl (WM E aM (M_thrown_s vM 0)) H → va_D A (WM E aM (M_thrown_s vM 0)) → va_S A s.heap H locs → W pr l e rmX5_place s m args below meth c H locs 0 0 Q (F0 m 20 ls [.int z4, .ref (aM 0)]) := by
    intro H locs hP hD hS
    refine lv_iconst (v := 1) hx hb dX5_place_20 (by decide) ?_
    obtain ⟨o6, e7, h⟩ := q_bind h
    refine q_ci (va_runV (As := [.int z4, .int 1]) (rest := []) ⟨hx, hb, hml, hown, hts⟩ (wX5_throwsIf l E aM (M_thrown_s vM 0) z4 1 o6 e7 _) (cwV 2 hts gX5_place_X5_throwsIf rfl rfl rfl (by decide +kernel) ⟨Nat.le_of_ble_eq_true rfl, Nat.le_of_ble_eq_true rfl⟩) (q_preV hK hP hD q_idl 5 0 rfl rfl) rfl rfl hl.1 rfl (lv_room (Nat.le_of_ble_eq_true rfl)) dX5_place_21 ⟨Nat.zero_le _, Nat.zero_le _⟩) hP hD hS hA q_idl q_idr (fun H locs hP hD hS => ?_)
    refine lv_if_ne (tgt := 48) hx hb dX5_place_24 (by decide) (fun c8 => ?_) (fun c8 => ?_)
    · have h := q_neg c8 h
      refine lv_iconst (v := 0) hx hb dX5_place_48 (by decide) ?_
      obtain rfl := q_inj h
      exact hRt 49 _ _ _ dX5_place_49 hP hD hS
    · have h := q_pos c8 h
      refine lv_aload_n hx hb dX5_place_27 rfl (lv_at hl 0 rfl) ?_
      refine lv_aload_n hx hb dX5_place_28 rfl (lv_at hl 0 rfl) ?_
      refine va_get (D := E.1) (ci := 5) (v := .int (M_places o6.2)) (C := RX5) (T := TX5) (N := 19) hx hb hts hinX5 hown hK.1 hP 0 rfl rfl 4 (by decide) hw1 (fun _ h9 => h9) rfl dX5_place_29 ?_
      refine lv_iconst (v := 5) hx hb dX5_place_32 (by decide) ?_
      obtain ⟨z10, e11, h⟩ := q_bind h
      have KJ9 : ∀ (H : Heap) (locs : List Loc), va_P E.1 vwCl (WM E aM o6.2) H → va_D A (WM E aM o6.2) → va_S A s.heap H locs → W pr l e rmX5_place s m args below meth c H locs 0 0 Q (F0 m 41 ls [.int z10, .ref (aM 0)]) := by
        intro H locs hP hD hS
        refine lv_iconst (v := 2) hx hb dX5_place_41 (by decide) ?_
        obtain ⟨o12, e13, h⟩ := q_bind h
        refine q_ci (va_runV (As := [.int z10, .int 2]) (rest := []) ⟨hx, hb, hml, hown, hts⟩ (wX5_throwsIf l E aM o6.2 z10 2 o12 e13 _) (cwV 2 hts gX5_place_X5_throwsIf rfl rfl rfl (by decide +kernel) ⟨Nat.le_of_ble_eq_true rfl, Nat.le_of_ble_eq_true rfl⟩) (q_preV hK hP hD q_idl 5 0 rfl rfl) rfl rfl hl.1 rfl (lv_room (Nat.le_of_ble_eq_true rfl)) dX5_place_42 ⟨Nat.zero_le _, Nat.zero_le _⟩) hP hD hS hA q_idl q_idr (fun H locs hP hD hS => ?_)
        refine lv_if_eq (tgt := 50) hx hb dX5_place_45 (by decide) (fun c14 => ?_) (fun c14 => ?_)
        · have h := q_pos c14 h
          refine lv_aload_n hx hb dX5_place_50 rfl (lv_at hl 0 rfl) ?_
          refine va_get (D := E.1) (ci := 5) (v := .ref (aM 1)) (C := RX5) (T := TX5) (N := 19) hx hb hts hinX5 hown hK.1 hP 0 rfl rfl 1 (by decide) hw2 (fun _ h9 => h9) rfl dX5_place_51 ?_
          refine lv_aload_n hx hb dX5_place_54 rfl (lv_at hl 0 rfl) ?_
          refine va_get (D := E.1) (ci := 5) (v := .int (M_places o12.2)) (C := RX5) (T := TX5) (N := 19) hx hb hts hinX5 hown hK.1 hP 0 rfl rfl 4 (by decide) hw1 (fun _ h9 => h9) rfl dX5_place_55 ?_
          refine lv_iload_n hx hb dX5_place_58 rfl (lv_at hl 1 rfl) ?_
          obtain ⟨i15, h⟩ := q_ck h
          refine va_iast (f := (M_helpers o12.2)) hx hb hK.1 hP hD hS 1 0 rfl rfl i15 dX5_place_59 (fun H locs hP hD hS => ?_)
          have hP : va_P E.1 vwCl (WM E aM (M_helpers_s o12.2 (upd (M_helpers o12.2) (Int32.toNatClampNeg (M_places o12.2)) x1))) H := hP
          have hD : va_D A (WM E aM (M_helpers_s o12.2 (upd (M_helpers o12.2) (Int32.toNatClampNeg (M_places o12.2)) x1))) := hD
          refine lv_aload_n hx hb dX5_place_60 rfl (lv_at hl 0 rfl) ?_
          refine va_get (D := E.1) (ci := 5) (v := .ref (aM 2)) (C := RX5) (T := TX5) (N := 19) hx hb hts hinX5 hown hK.1 hP 0 rfl rfl 2 (by decide) hw3 (fun _ h9 => h9) rfl dX5_place_61 ?_
          refine lv_aload_n hx hb dX5_place_64 rfl (lv_at hl 0 rfl) ?_
          refine va_get (D := E.1) (ci := 5) (v := .int (M_places o12.2)) (C := RX5) (T := TX5) (N := 19) hx hb hts hinX5 hown hK.1 hP 0 rfl rfl 4 (by decide) hw1 (fun _ h9 => h9) rfl dX5_place_65 ?_
          refine lv_iload_n hx hb dX5_place_68 rfl (lv_at hl 2 rfl) ?_
          obtain ⟨i16, h⟩ := q_ck h
          refine va_iast (f := (M_rule o12.2)) hx hb hK.1 hP hD hS 2 0 rfl rfl i16 dX5_place_69 (fun H locs hP hD hS => ?_)
          have hP : va_P E.1 vwCl (WM E aM (M_rule_s (M_helpers_s o12.2 (upd (M_helpers o12.2) (Int32.toNatClampNeg (M_places o12.2)) x1)) (upd (M_rule o12.2) (Int32.toNatClampNeg (M_places o12.2)) x2))) H := hP
          have hD : va_D A (WM E aM (M_rule_s (M_helpers_s o12.2 (upd (M_helpers o12.2) (Int32.toNatClampNeg (M_places o12.2)) x1)) (upd (M_rule o12.2) (Int32.toNatClampNeg (M_places o12.2)) x2))) := hD
          refine lv_aload_n hx hb dX5_place_70 rfl (lv_at hl 0 rfl) ?_
          refine va_get (D := E.1) (ci := 5) (v := .ref (aM 3)) (C := RX5) (T := TX5) (N := 19) hx hb hts hinX5 hown hK.1 hP 0 rfl rfl 3 (by decide) hw4 (fun _ h9 => h9) rfl dX5_place_71 ?_
          refine lv_aload_n hx hb dX5_place_74 rfl (lv_at hl 0 rfl) ?_
          refine va_get (D := E.1) (ci := 5) (v := .int (M_places o12.2)) (C := RX5) (T := TX5) (N := 19) hx hb hts hinX5 hown hK.1 hP 0 rfl rfl 4 (by decide) hw1 (fun _ h9 => h9) rfl dX5_place_75 ?_
          refine lv_iload_n hx hb dX5_place_78 rfl (lv_at hl 3 rfl) ?_
          obtain ⟨i17, h⟩ := q_ck h
          refine va_iast (f := (M_delay o12.2)) hx hb hK.1 hP hD hS 3 0 rfl rfl i17 dX5_place_79 (fun H locs hP hD hS => ?_)
          have hP : va_P E.1 vwCl (WM E aM (M_delay_s (M_rule_s (M_helpers_s o12.2 (upd (M_helpers o12.2) (Int32.toNatClampNeg (M_places o12.2)) x1)) (upd (M_rule o12.2) (Int32.toNatClampNeg (M_places o12.2)) x2)) (upd (M_delay o12.2) (Int32.toNatClampNeg (M_places o12.2)) x3))) H := hP
          have hD : va_D A (WM E aM (M_delay_s (M_rule_s (M_helpers_s o12.2 (upd (M_helpers o12.2) (Int32.toNatClampNeg (M_places o12.2)) x1)) (upd (M_rule o12.2) (Int32.toNatClampNeg (M_places o12.2)) x2)) (upd (M_delay o12.2) (Int32.toNatClampNeg (M_places o12.2)) x3))) := hD
          refine lv_aload_n hx hb dX5_place_80 rfl (lv_at hl 0 rfl) ?_
          refine lv_dup hx hb dX5_place_81 rfl ?_
          refine va_get (D := E.1) (ci := 5) (v := .int (M_places o12.2)) (C := RX5) (T := TX5) (N := 19) hx hb hts hinX5 hown hK.1 hP 0 rfl rfl 4 (by decide) hw1 (fun _ h9 => h9) rfl dX5_place_82 ?_
          refine lv_iconst (v := 1) hx hb dX5_place_85 (by decide) ?_
          refine lv_iadd hx hb dX5_place_86 ?_
          refine va_put (D := E.1) (ci := 5) (v := .int ((M_places o12.2) + 1)) (ty := .int) (C := RX5) (T := TX5) (N := 19) hx hb hts hinX5 tyX5 tyX5_ok nmX5 hown hK.1 hP hD hS 0 rfl rfl 4 (by decide) hw1 (fun _ h9 => h9) rfl (by decide +kernel) rfl rfl (Nat.le_of_ble_eq_true rfl) dX5_place_87 (fun H locs hP hD hS => ?_)
          have hP : va_P E.1 vwCl (WM E aM (M_places_s (M_delay_s (M_rule_s (M_helpers_s o12.2 (upd (M_helpers o12.2) (Int32.toNatClampNeg (M_places o12.2)) x1)) (upd (M_rule o12.2) (Int32.toNatClampNeg (M_places o12.2)) x2)) (upd (M_delay o12.2) (Int32.toNatClampNeg (M_places o12.2)) x3)) ((M_places o12.2) + 1))) H := hP
          have hD : va_D A (WM E aM (M_places_s (M_delay_s (M_rule_s (M_helpers_s o12.2 (upd (M_helpers o12.2) (Int32.toNatClampNeg (M_places o12.2)) x1)) (upd (M_rule o12.2) (Int32.toNatClampNeg (M_places o12.2)) x2)) (upd (M_delay o12.2) (Int32.toNatClampNeg (M_places o12.2)) x3)) ((M_places o12.2) + 1))) := hD
          refine lv_aload_n hx hb dX5_place_90 rfl (lv_at hl 0 rfl) ?_
          refine va_get (D := E.1) (ci := 5) (v := .int ((M_places o12.2) + 1)) (C := RX5) (T := TX5) (N := 19) hx hb hts hinX5 hown hK.1 hP 0 rfl rfl 4 (by decide) hw1 (fun _ h9 => h9) rfl dX5_place_91 ?_
          refine lv_iconst (v := 1) hx hb dX5_place_94 (by decide) ?_
          refine lv_isub hx hb dX5_place_95 ?_
          obtain rfl := q_inj h
          exact hRt 96 _ _ _ dX5_place_96 hP hD hS
        · have h := q_neg c14 h
          refine lv_iconst (v := 0) hx hb dX5_place_48 (by decide) ?_
          obtain rfl := q_inj h
          exact hRt 49 _ _ _ dX5_place_49 hP hD hS
      have h := e11
      refine lv_icmp_ne (tgt := 40) hx hb dX5_place_33 (by decide) (fun c18 => ?_) (fun c18 => ?_)
      · have h := q_neg c18 h
        refine lv_iconst (v := 0) hx hb dX5_place_40 (by decide) ?_
        obtain rfl := q_inj h
        exact KJ9 _ _ hP hD hS
      · have h := q_pos c18 h
        refine lv_iconst (v := 1) hx hb dX5_place_36 (by decide) ?_
        refine lv_goto (tgt := 41) hx hb dX5_place_37 (by decide) ?_
        obtain rfl := q_inj h
        exact KJ9 _ _ hP hD hS
  have h := e5
  refine lv_if_ne (tgt := 19) hx hb dX5_place_12 (by decide) (fun c19 => ?_) (fun c19 => ?_)
  · have h := q_neg c19 h
    refine lv_iconst (v := 0) hx hb dX5_place_19 (by decide) ?_
    obtain rfl := q_inj h
    exact KJ3 _ _ hP hD hS
  · have h := q_pos c19 h
    refine lv_iconst (v := 1) hx hb dX5_place_15 (by decide) ?_
    refine lv_goto (tgt := 20) hx hb dX5_place_16 (by decide) ?_
    obtain rfl := q_inj h
    exact KJ3 _ _ hP hD hS
def mX5_change (vM : SM) (x1 : Int32) (x2 : Int32) (x3 : Int32) (x4 : Int32) : Option SM := (mX5_noPlace (M_thrown_s vM 0) x1).bind fun o1 => (mX5_throwsIf (M_thrown_s vM 0) o1 1).bind fun o3 => if o3.1 = 0 then ((mX5_isPlace x2 x3 x4).bind fun o6 => Option.bind (if o6 = 0 then (some 1) else (some 0)) fun z9 => (mX5_throwsIf o3.2 z9 2).bind fun o11 => if o11.1 = 0 then (ck x1 5 (ck x1 5 (ck x1 5 (some (M_delay_s (M_rule_s (M_helpers_s o11.2 (upd (M_helpers o11.2) (Int32.toNatClampNeg x1) x2)) (upd (M_rule o11.2) (Int32.toNatClampNeg x1) x3)) (upd (M_delay o11.2) (Int32.toNatClampNeg x1) x4)))))) else (some o11.2)) else (some o3.2)
def rmX5_change : Room := { frames := 2, cells := 0, slots := 0, locals := 44 }
set_option maxHeartbeats 8000000 in
set_option maxRecDepth 100000 in
theorem wX5_change (l : Launch) (E : qE) (aM : Nat → Nat) (vM : SM) (x1 : Int32) (x2 : Int32) (x3 : Int32) (x4 : Int32) (o : SM) (h : mX5_change vM x1 x2 x3 x4 = some o) : MV l E yX5_change wsX5_change rmX5_change [.ref (aM 0), .int x1, .int x2, .int x3, .int x4] (WM E aM vM) (WM E aM o) := by
  refine q_startV (cc := cX5_change) (maxL := 5) (by decide) rfl (Nat.le_of_ble_eq_true rfl) ?_
  intro pr e s m args below meth c A Q hx hb hml hown hts hK hRt hP hD hA hS ls hl
  have hl : lv_has ls 5 [(0, .ref (aM 0)), (1, .int x1), (2, .int x2), (3, .int x3), (4, .int x4)] := hl
  have hinX5 : ∀ w ∈ wsX50, w ∈ wsX5_change := by decide +kernel
  have hw0 := hts (.fieldLink RX5 59 "QueueReaderModel" "thrown" "I") (by decide +kernel)
  have hw1 := hts (.fieldLink RX5 9 "QueueReaderModel" "helpers" "[I") (by decide +kernel)
  have hw2 := hts (.fieldLink RX5 13 "QueueReaderModel" "rule" "[I") (by decide +kernel)
  have hw3 := hts (.fieldLink RX5 16 "QueueReaderModel" "delay" "[I") (by decide +kernel)
  unfold mX5_change at h
  refine lv_aload_n hx hb dX5_change_0 rfl (lv_at hl 0 rfl) ?_
  refine lv_iconst (v := 0) hx hb dX5_change_1 (by decide) ?_
  refine va_put (D := E.1) (ci := 5) (v := .int 0) (ty := .int) (C := RX5) (T := TX5) (N := 19) hx hb hts hinX5 tyX5 tyX5_ok nmX5 hown hK.1 hP hD hS 0 rfl rfl 0 (by decide) hw0 (fun _ h9 => h9) rfl (by decide +kernel) rfl rfl (Nat.le_of_ble_eq_true rfl) dX5_change_2 (fun H locs hP hD hS => ?_)
  have hP : va_P E.1 vwCl (WM E aM (M_thrown_s vM 0)) H := hP
  have hD : va_D A (WM E aM (M_thrown_s vM 0)) := hD
  refine lv_aload_n hx hb dX5_change_5 rfl (lv_at hl 0 rfl) ?_
  refine lv_aload_n hx hb dX5_change_6 rfl (lv_at hl 0 rfl) ?_
  refine lv_iload_n hx hb dX5_change_7 rfl (lv_at hl 1 rfl) ?_
  obtain ⟨o1, e2, h⟩ := q_bind h
  refine q_ci (va_runV (As := [.int x1]) (rest := [.ref (aM 0)]) ⟨hx, hb, hml, hown, hts⟩ (wX5_noPlace l E aM (M_thrown_s vM 0) x1 o1 e2 _) (cwV 1 hts gX5_change_X5_noPlace rfl rfl rfl (by decide +kernel) ⟨Nat.le_of_ble_eq_true rfl, Nat.le_of_ble_eq_true rfl⟩) (q_preV hK hP hD q_idl 5 0 rfl rfl) rfl rfl hl.1 rfl (lv_room (Nat.le_of_ble_eq_true rfl)) dX5_change_8 ⟨Nat.zero_le _, Nat.zero_le _⟩) hP hD hS hA q_idl q_idr (fun H locs hP hD hS => ?_)
  refine lv_iconst (v := 1) hx hb dX5_change_11 (by decide) ?_
  obtain ⟨o3, e4, h⟩ := q_bind h
  refine q_ci (va_runV (As := [.int o1, .int 1]) (rest := []) ⟨hx, hb, hml, hown, hts⟩ (wX5_throwsIf l E aM (M_thrown_s vM 0) o1 1 o3 e4 _) (cwV 2 hts gX5_change_X5_throwsIf rfl rfl rfl (by decide +kernel) ⟨Nat.le_of_ble_eq_true rfl, Nat.le_of_ble_eq_true rfl⟩) (q_preV hK hP hD q_idl 5 0 rfl rfl) rfl rfl hl.1 rfl (lv_room (Nat.le_of_ble_eq_true rfl)) dX5_change_12 ⟨Nat.zero_le _, Nat.zero_le _⟩) hP hD hS hA q_idl q_idr (fun H locs hP hD hS => ?_)
  refine lv_if_ne (tgt := 41) hx hb dX5_change_15 (by decide) (fun c5 => ?_) (fun c5 => ?_)
  · have h := q_neg c5 h
    obtain rfl := q_inj h
    exact hRt 41 _ _ _ dX5_change_41 hP hD hS
  · have h := q_pos c5 h
    refine lv_aload_n hx hb dX5_change_18 rfl (lv_at hl 0 rfl) ?_
    refine lv_iload_n hx hb dX5_change_19 rfl (lv_at hl 2 rfl) ?_
    refine lv_iload_n hx hb dX5_change_20 rfl (lv_at hl 3 rfl) ?_
    refine lv_iload hx hb dX5_change_21 (lv_at hl 4 rfl) ?_
    obtain ⟨o6, e7, h⟩ := q_bind h
    refine q_ci (va_runS (As := [.int x2, .int x3, .int x4]) (rest := [.ref (aM 0)]) ⟨hx, hb, hml, hown, hts⟩ (wX5_isPlace l E  x2 x3 x4 o6 e7 _) (va_cwS 3 hts gX5_change_X5_isPlace rfl rfl rfl (by decide +kernel) ⟨Nat.le_of_ble_eq_true rfl, Nat.le_of_ble_eq_true rfl⟩) (q_preS hK hP hD q_nil) rfl rfl hl.1 rfl (lv_room (Nat.le_of_ble_eq_true rfl)) dX5_change_23 ⟨Nat.zero_le _, Nat.zero_le _⟩) hP hD hS hA q_nil q_nil.symm (fun H locs hP hD hS => ?_)
    obtain ⟨z9, e10, h⟩ := q_bind h
    have KJ8 : ∀ (H : Heap) (locs : List Loc), va_P E.1 vwCl (WM E aM o3.2) H → va_D A (WM E aM o3.2) → va_S A s.heap H locs → W pr l e rmX5_change s m args below meth c H locs 0 0 Q (F0 m 34 ls [.int z9, .ref (aM 0)]) := by
      intro H locs hP hD hS
      refine lv_iconst (v := 2) hx hb dX5_change_34 (by decide) ?_
      obtain ⟨o11, e12, h⟩ := q_bind h
      refine q_ci (va_runV (As := [.int z9, .int 2]) (rest := []) ⟨hx, hb, hml, hown, hts⟩ (wX5_throwsIf l E aM o3.2 z9 2 o11 e12 _) (cwV 2 hts gX5_change_X5_throwsIf rfl rfl rfl (by decide +kernel) ⟨Nat.le_of_ble_eq_true rfl, Nat.le_of_ble_eq_true rfl⟩) (q_preV hK hP hD q_idl 5 0 rfl rfl) rfl rfl hl.1 rfl (lv_room (Nat.le_of_ble_eq_true rfl)) dX5_change_35 ⟨Nat.zero_le _, Nat.zero_le _⟩) hP hD hS hA q_idl q_idr (fun H locs hP hD hS => ?_)
      refine lv_if_eq (tgt := 42) hx hb dX5_change_38 (by decide) (fun c13 => ?_) (fun c13 => ?_)
      · have h := q_pos c13 h
        refine lv_aload_n hx hb dX5_change_42 rfl (lv_at hl 0 rfl) ?_
        refine va_get (D := E.1) (ci := 5) (v := .ref (aM 1)) (C := RX5) (T := TX5) (N := 19) hx hb hts hinX5 hown hK.1 hP 0 rfl rfl 1 (by decide) hw1 (fun _ h9 => h9) rfl dX5_change_43 ?_
        refine lv_iload_n hx hb dX5_change_46 rfl (lv_at hl 1 rfl) ?_
        refine lv_iload_n hx hb dX5_change_47 rfl (lv_at hl 2 rfl) ?_
        obtain ⟨i14, h⟩ := q_ck h
        refine va_iast (f := (M_helpers o11.2)) hx hb hK.1 hP hD hS 1 0 rfl rfl i14 dX5_change_48 (fun H locs hP hD hS => ?_)
        have hP : va_P E.1 vwCl (WM E aM (M_helpers_s o11.2 (upd (M_helpers o11.2) (Int32.toNatClampNeg x1) x2))) H := hP
        have hD : va_D A (WM E aM (M_helpers_s o11.2 (upd (M_helpers o11.2) (Int32.toNatClampNeg x1) x2))) := hD
        refine lv_aload_n hx hb dX5_change_49 rfl (lv_at hl 0 rfl) ?_
        refine va_get (D := E.1) (ci := 5) (v := .ref (aM 2)) (C := RX5) (T := TX5) (N := 19) hx hb hts hinX5 hown hK.1 hP 0 rfl rfl 2 (by decide) hw2 (fun _ h9 => h9) rfl dX5_change_50 ?_
        refine lv_iload_n hx hb dX5_change_53 rfl (lv_at hl 1 rfl) ?_
        refine lv_iload_n hx hb dX5_change_54 rfl (lv_at hl 3 rfl) ?_
        obtain ⟨i15, h⟩ := q_ck h
        refine va_iast (f := (M_rule o11.2)) hx hb hK.1 hP hD hS 2 0 rfl rfl i15 dX5_change_55 (fun H locs hP hD hS => ?_)
        have hP : va_P E.1 vwCl (WM E aM (M_rule_s (M_helpers_s o11.2 (upd (M_helpers o11.2) (Int32.toNatClampNeg x1) x2)) (upd (M_rule o11.2) (Int32.toNatClampNeg x1) x3))) H := hP
        have hD : va_D A (WM E aM (M_rule_s (M_helpers_s o11.2 (upd (M_helpers o11.2) (Int32.toNatClampNeg x1) x2)) (upd (M_rule o11.2) (Int32.toNatClampNeg x1) x3))) := hD
        refine lv_aload_n hx hb dX5_change_56 rfl (lv_at hl 0 rfl) ?_
        refine va_get (D := E.1) (ci := 5) (v := .ref (aM 3)) (C := RX5) (T := TX5) (N := 19) hx hb hts hinX5 hown hK.1 hP 0 rfl rfl 3 (by decide) hw3 (fun _ h9 => h9) rfl dX5_change_57 ?_
        refine lv_iload_n hx hb dX5_change_60 rfl (lv_at hl 1 rfl) ?_
        refine lv_iload hx hb dX5_change_61 (lv_at hl 4 rfl) ?_
        obtain ⟨i16, h⟩ := q_ck h
        refine va_iast (f := (M_delay o11.2)) hx hb hK.1 hP hD hS 3 0 rfl rfl i16 dX5_change_63 (fun H locs hP hD hS => ?_)
        have hP : va_P E.1 vwCl (WM E aM (M_delay_s (M_rule_s (M_helpers_s o11.2 (upd (M_helpers o11.2) (Int32.toNatClampNeg x1) x2)) (upd (M_rule o11.2) (Int32.toNatClampNeg x1) x3)) (upd (M_delay o11.2) (Int32.toNatClampNeg x1) x4))) H := hP
        have hD : va_D A (WM E aM (M_delay_s (M_rule_s (M_helpers_s o11.2 (upd (M_helpers o11.2) (Int32.toNatClampNeg x1) x2)) (upd (M_rule o11.2) (Int32.toNatClampNeg x1) x3)) (upd (M_delay o11.2) (Int32.toNatClampNeg x1) x4))) := hD
        obtain rfl := q_inj h
        exact hRt 64 _ _ _ dX5_change_64 hP hD hS
      · have h := q_neg c13 h
        obtain rfl := q_inj h
        exact hRt 41 _ _ _ dX5_change_41 hP hD hS
    have h := e10
    refine lv_if_ne (tgt := 33) hx hb dX5_change_26 (by decide) (fun c17 => ?_) (fun c17 => ?_)
    · have h := q_neg c17 h
      refine lv_iconst (v := 0) hx hb dX5_change_33 (by decide) ?_
      obtain rfl := q_inj h
      exact KJ8 _ _ hP hD hS
    · have h := q_pos c17 h
      refine lv_iconst (v := 1) hx hb dX5_change_29 (by decide) ?_
      refine lv_goto (tgt := 34) hx hb dX5_change_30 (by decide) ?_
      obtain rfl := q_inj h
      exact KJ8 _ _ hP hD hS
def mX5_ask (vM : SM) (x1 : Int32) (x2 : Int32) (x3 : Int32) (x4 : Int32) : Option (Int32 × SM) := (mX5_noPlace (M_thrown_s vM 0) x3).bind fun o1 => (mX5_throwsIf (M_thrown_s vM 0) o1 1).bind fun o3 => if o3.1 = 0 then ((mX5_in x1 0 3).bind fun o6 => Option.bind (if o6 = 0 then (some 1) else ((mX5_in x2 0 100000).bind fun o27 => if o27 = 0 then (some 1) else ((mX5_in x4 1 1000).bind fun o30 => if o30 = 0 then (some 1) else (some 0)))) fun z9 => (mX5_throwsIf o3.2 z9 2).bind fun o11 => if o11.1 = 0 then (Option.bind (if (M_asks o11.2) = 60 then (some 1) else (some 0)) fun z15 => (mX5_throwsIf o11.2 z15 3).bind fun o17 => if o17.1 = 0 then (ck (M_asks o17.2) 60 (ck (M_asks o17.2) 60 (ck (5 * (M_asks o17.2)) 300 (ck (5 * (M_asks o17.2)) 300 (ck (M_asks o17.2) 60 (some ((((M_asks o17.2) + 1) - 1), (M_work_s (M_at_s (M_asks_s (M_steps_s (M_start_s (M_kind_s o17.2 (upd (M_kind o17.2) (Int32.toNatClampNeg (M_asks o17.2)) x1)) (upd (M_start o17.2) (Int32.toNatClampNeg (M_asks o17.2)) x2)) (upd (M_steps o17.2) (Int32.toNatClampNeg (M_asks o17.2)) 1)) ((M_asks o17.2) + 1)) (upd (M_at o17.2) (Int32.toNatClampNeg (5 * (M_asks o17.2))) x3)) (upd (M_work o17.2) (Int32.toNatClampNeg (5 * (M_asks o17.2))) x4))))))))) else (some (0, o17.2))) else (some (0, o11.2))) else (some (0, o3.2))
def rmX5_ask : Room := { frames := 2, cells := 0, slots := 0, locals := 43 }
set_option maxHeartbeats 8000000 in
set_option maxRecDepth 100000 in
theorem wX5_ask (l : Launch) (E : qE) (aM : Nat → Nat) (vM : SM) (x1 : Int32) (x2 : Int32) (x3 : Int32) (x4 : Int32) (o : Int32 × SM) (h : mX5_ask vM x1 x2 x3 x4 = some o) : MI l E yX5_ask wsX5_ask rmX5_ask [.ref (aM 0), .int x1, .int x2, .int x3, .int x4] (WM E aM vM) (WM E aM o.2) o.1 := by
  refine q_startI (cc := cX5_ask) (maxL := 5) (by decide) rfl (Nat.le_of_ble_eq_true rfl) ?_
  intro pr e s m args below meth c A Q hx hb hml hown hts hK hRt hP hD hA hS ls hl
  have hl : lv_has ls 5 [(0, .ref (aM 0)), (1, .int x1), (2, .int x2), (3, .int x3), (4, .int x4)] := hl
  have hinX5 : ∀ w ∈ wsX50, w ∈ wsX5_ask := by decide +kernel
  have hw0 := hts (.fieldLink RX5 59 "QueueReaderModel" "thrown" "I") (by decide +kernel)
  have hw1 := hts (.fieldLink RX5 70 "QueueReaderModel" "asks" "I") (by decide +kernel)
  have hw2 := hts (.fieldLink RX5 19 "QueueReaderModel" "kind" "[I") (by decide +kernel)
  have hw3 := hts (.fieldLink RX5 22 "QueueReaderModel" "start" "[I") (by decide +kernel)
  have hw4 := hts (.fieldLink RX5 28 "QueueReaderModel" "at" "[I") (by decide +kernel)
  have hw5 := hts (.fieldLink RX5 31 "QueueReaderModel" "work" "[I") (by decide +kernel)
  have hw6 := hts (.fieldLink RX5 25 "QueueReaderModel" "steps" "[I") (by decide +kernel)
  have hw7 := hts (.constant RX5 87 (100000)) (by decide +kernel)
  unfold mX5_ask at h
  refine lv_aload_n hx hb dX5_ask_0 rfl (lv_at hl 0 rfl) ?_
  refine lv_iconst (v := 0) hx hb dX5_ask_1 (by decide) ?_
  refine va_put (D := E.1) (ci := 5) (v := .int 0) (ty := .int) (C := RX5) (T := TX5) (N := 19) hx hb hts hinX5 tyX5 tyX5_ok nmX5 hown hK.1 hP hD hS 0 rfl rfl 0 (by decide) hw0 (fun _ h9 => h9) rfl (by decide +kernel) rfl rfl (Nat.le_of_ble_eq_true rfl) dX5_ask_2 (fun H locs hP hD hS => ?_)
  have hP : va_P E.1 vwCl (WM E aM (M_thrown_s vM 0)) H := hP
  have hD : va_D A (WM E aM (M_thrown_s vM 0)) := hD
  refine lv_aload_n hx hb dX5_ask_5 rfl (lv_at hl 0 rfl) ?_
  refine lv_aload_n hx hb dX5_ask_6 rfl (lv_at hl 0 rfl) ?_
  refine lv_iload_n hx hb dX5_ask_7 rfl (lv_at hl 3 rfl) ?_
  obtain ⟨o1, e2, h⟩ := q_bind h
  refine q_ci (va_runV (As := [.int x3]) (rest := [.ref (aM 0)]) ⟨hx, hb, hml, hown, hts⟩ (wX5_noPlace l E aM (M_thrown_s vM 0) x3 o1 e2 _) (cwV 1 hts gX5_ask_X5_noPlace rfl rfl rfl (by decide +kernel) ⟨Nat.le_of_ble_eq_true rfl, Nat.le_of_ble_eq_true rfl⟩) (q_preV hK hP hD q_idl 5 0 rfl rfl) rfl rfl hl.1 rfl (lv_room (Nat.le_of_ble_eq_true rfl)) dX5_ask_8 ⟨Nat.zero_le _, Nat.zero_le _⟩) hP hD hS hA q_idl q_idr (fun H locs hP hD hS => ?_)
  refine lv_iconst (v := 1) hx hb dX5_ask_11 (by decide) ?_
  obtain ⟨o3, e4, h⟩ := q_bind h
  refine q_ci (va_runV (As := [.int o1, .int 1]) (rest := []) ⟨hx, hb, hml, hown, hts⟩ (wX5_throwsIf l E aM (M_thrown_s vM 0) o1 1 o3 e4 _) (cwV 2 hts gX5_ask_X5_throwsIf rfl rfl rfl (by decide +kernel) ⟨Nat.le_of_ble_eq_true rfl, Nat.le_of_ble_eq_true rfl⟩) (q_preV hK hP hD q_idl 5 0 rfl rfl) rfl rfl hl.1 rfl (lv_room (Nat.le_of_ble_eq_true rfl)) dX5_ask_12 ⟨Nat.zero_le _, Nat.zero_le _⟩) hP hD hS hA q_idl q_idr (fun H locs hP hD hS => ?_)
  refine lv_if_ne (tgt := 84) hx hb dX5_ask_15 (by decide) (fun c5 => ?_) (fun c5 => ?_)
  · have h := q_neg c5 h
    refine lv_iconst (v := 0) hx hb dX5_ask_84 (by decide) ?_
    obtain rfl := q_inj h
    exact hRt 85 _ _ _ dX5_ask_85 hP hD hS
  · have h := q_pos c5 h
    refine lv_aload_n hx hb dX5_ask_18 rfl (lv_at hl 0 rfl) ?_
    refine lv_iload_n hx hb dX5_ask_19 rfl (lv_at hl 1 rfl) ?_
    refine lv_iconst (v := 0) hx hb dX5_ask_20 (by decide) ?_
    refine lv_iconst (v := 3) hx hb dX5_ask_21 (by decide) ?_
    obtain ⟨o6, e7, h⟩ := q_bind h
    refine q_ci (va_runS (As := [.int x1, .int 0, .int 3]) (rest := [.ref (aM 0)]) ⟨hx, hb, hml, hown, hts⟩ (wX5_in l E  x1 0 3 o6 e7 _) (va_cwS 3 hts gX5_ask_X5_in rfl rfl rfl (by decide +kernel) ⟨Nat.le_of_ble_eq_true rfl, Nat.le_of_ble_eq_true rfl⟩) (q_preS hK hP hD q_nil) rfl rfl hl.1 rfl (lv_room (Nat.le_of_ble_eq_true rfl)) dX5_ask_22 ⟨Nat.zero_le _, Nat.zero_le _⟩) hP hD hS hA q_nil q_nil.symm (fun H locs hP hD hS => ?_)
    obtain ⟨z9, e10, h⟩ := q_bind h
    have KJ8 : ∀ (H : Heap) (locs : List Loc), va_P E.1 vwCl (WM E aM o3.2) H → va_D A (WM E aM o3.2) → va_S A s.heap H locs → W pr l e rmX5_ask s m args below meth c H locs 0 0 Q (F0 m 55 ls [.int z9, .ref (aM 0)]) := by
      intro H locs hP hD hS
      refine lv_iconst (v := 2) hx hb dX5_ask_55 (by decide) ?_
      obtain ⟨o11, e12, h⟩ := q_bind h
      refine q_ci (va_runV (As := [.int z9, .int 2]) (rest := []) ⟨hx, hb, hml, hown, hts⟩ (wX5_throwsIf l E aM o3.2 z9 2 o11 e12 _) (cwV 2 hts gX5_ask_X5_throwsIf rfl rfl rfl (by decide +kernel) ⟨Nat.le_of_ble_eq_true rfl, Nat.le_of_ble_eq_true rfl⟩) (q_preV hK hP hD q_idl 5 0 rfl rfl) rfl rfl hl.1 rfl (lv_room (Nat.le_of_ble_eq_true rfl)) dX5_ask_56 ⟨Nat.zero_le _, Nat.zero_le _⟩) hP hD hS hA q_idl q_idr (fun H locs hP hD hS => ?_)
      refine lv_if_ne (tgt := 84) hx hb dX5_ask_59 (by decide) (fun c13 => ?_) (fun c13 => ?_)
      · have h := q_neg c13 h
        refine lv_iconst (v := 0) hx hb dX5_ask_84 (by decide) ?_
        obtain rfl := q_inj h
        exact hRt 85 _ _ _ dX5_ask_85 hP hD hS
      · have h := q_pos c13 h
        refine lv_aload_n hx hb dX5_ask_62 rfl (lv_at hl 0 rfl) ?_
        refine lv_aload_n hx hb dX5_ask_63 rfl (lv_at hl 0 rfl) ?_
        refine va_get (D := E.1) (ci := 5) (v := .int (M_asks o11.2)) (C := RX5) (T := TX5) (N := 19) hx hb hts hinX5 hown hK.1 hP 0 rfl rfl 8 (by decide) hw1 (fun _ h9 => h9) rfl dX5_ask_64 ?_
        refine lv_bipush (v := 60) hx hb dX5_ask_67 (by decide) ?_
        obtain ⟨z15, e16, h⟩ := q_bind h
        have KJ14 : ∀ (H : Heap) (locs : List Loc), va_P E.1 vwCl (WM E aM o11.2) H → va_D A (WM E aM o11.2) → va_S A s.heap H locs → W pr l e rmX5_ask s m args below meth c H locs 0 0 Q (F0 m 77 ls [.int z15, .ref (aM 0)]) := by
          intro H locs hP hD hS
          refine lv_iconst (v := 3) hx hb dX5_ask_77 (by decide) ?_
          obtain ⟨o17, e18, h⟩ := q_bind h
          refine q_ci (va_runV (As := [.int z15, .int 3]) (rest := []) ⟨hx, hb, hml, hown, hts⟩ (wX5_throwsIf l E aM o11.2 z15 3 o17 e18 _) (cwV 2 hts gX5_ask_X5_throwsIf rfl rfl rfl (by decide +kernel) ⟨Nat.le_of_ble_eq_true rfl, Nat.le_of_ble_eq_true rfl⟩) (q_preV hK hP hD q_idl 5 0 rfl rfl) rfl rfl hl.1 rfl (lv_room (Nat.le_of_ble_eq_true rfl)) dX5_ask_78 ⟨Nat.zero_le _, Nat.zero_le _⟩) hP hD hS hA q_idl q_idr (fun H locs hP hD hS => ?_)
          refine lv_if_eq (tgt := 86) hx hb dX5_ask_81 (by decide) (fun c19 => ?_) (fun c19 => ?_)
          · have h := q_pos c19 h
            refine lv_aload_n hx hb dX5_ask_86 rfl (lv_at hl 0 rfl) ?_
            refine va_get (D := E.1) (ci := 5) (v := .ref (aM 4)) (C := RX5) (T := TX5) (N := 19) hx hb hts hinX5 hown hK.1 hP 0 rfl rfl 5 (by decide) hw2 (fun _ h9 => h9) rfl dX5_ask_87 ?_
            refine lv_aload_n hx hb dX5_ask_90 rfl (lv_at hl 0 rfl) ?_
            refine va_get (D := E.1) (ci := 5) (v := .int (M_asks o17.2)) (C := RX5) (T := TX5) (N := 19) hx hb hts hinX5 hown hK.1 hP 0 rfl rfl 8 (by decide) hw1 (fun _ h9 => h9) rfl dX5_ask_91 ?_
            refine lv_iload_n hx hb dX5_ask_94 rfl (lv_at hl 1 rfl) ?_
            obtain ⟨i20, h⟩ := q_ck h
            refine va_iast (f := (M_kind o17.2)) hx hb hK.1 hP hD hS 4 0 rfl rfl i20 dX5_ask_95 (fun H locs hP hD hS => ?_)
            have hP : va_P E.1 vwCl (WM E aM (M_kind_s o17.2 (upd (M_kind o17.2) (Int32.toNatClampNeg (M_asks o17.2)) x1))) H := hP
            have hD : va_D A (WM E aM (M_kind_s o17.2 (upd (M_kind o17.2) (Int32.toNatClampNeg (M_asks o17.2)) x1))) := hD
            refine lv_aload_n hx hb dX5_ask_96 rfl (lv_at hl 0 rfl) ?_
            refine va_get (D := E.1) (ci := 5) (v := .ref (aM 5)) (C := RX5) (T := TX5) (N := 19) hx hb hts hinX5 hown hK.1 hP 0 rfl rfl 6 (by decide) hw3 (fun _ h9 => h9) rfl dX5_ask_97 ?_
            refine lv_aload_n hx hb dX5_ask_100 rfl (lv_at hl 0 rfl) ?_
            refine va_get (D := E.1) (ci := 5) (v := .int (M_asks o17.2)) (C := RX5) (T := TX5) (N := 19) hx hb hts hinX5 hown hK.1 hP 0 rfl rfl 8 (by decide) hw1 (fun _ h9 => h9) rfl dX5_ask_101 ?_
            refine lv_iload_n hx hb dX5_ask_104 rfl (lv_at hl 2 rfl) ?_
            obtain ⟨i21, h⟩ := q_ck h
            refine va_iast (f := (M_start o17.2)) hx hb hK.1 hP hD hS 5 0 rfl rfl i21 dX5_ask_105 (fun H locs hP hD hS => ?_)
            have hP : va_P E.1 vwCl (WM E aM (M_start_s (M_kind_s o17.2 (upd (M_kind o17.2) (Int32.toNatClampNeg (M_asks o17.2)) x1)) (upd (M_start o17.2) (Int32.toNatClampNeg (M_asks o17.2)) x2))) H := hP
            have hD : va_D A (WM E aM (M_start_s (M_kind_s o17.2 (upd (M_kind o17.2) (Int32.toNatClampNeg (M_asks o17.2)) x1)) (upd (M_start o17.2) (Int32.toNatClampNeg (M_asks o17.2)) x2))) := hD
            refine lv_aload_n hx hb dX5_ask_106 rfl (lv_at hl 0 rfl) ?_
            refine va_get (D := E.1) (ci := 5) (v := .ref (aM 7)) (C := RX5) (T := TX5) (N := 19) hx hb hts hinX5 hown hK.1 hP 0 rfl rfl 9 (by decide) hw4 (fun _ h9 => h9) rfl dX5_ask_107 ?_
            refine lv_iconst (v := 5) hx hb dX5_ask_110 (by decide) ?_
            refine lv_aload_n hx hb dX5_ask_111 rfl (lv_at hl 0 rfl) ?_
            refine va_get (D := E.1) (ci := 5) (v := .int (M_asks o17.2)) (C := RX5) (T := TX5) (N := 19) hx hb hts hinX5 hown hK.1 hP 0 rfl rfl 8 (by decide) hw1 (fun _ h9 => h9) rfl dX5_ask_112 ?_
            refine lv_imul hx hb dX5_ask_115 ?_
            refine lv_iload_n hx hb dX5_ask_116 rfl (lv_at hl 3 rfl) ?_
            obtain ⟨i22, h⟩ := q_ck h
            refine va_iast (f := (M_at o17.2)) hx hb hK.1 hP hD hS 7 0 rfl rfl i22 dX5_ask_117 (fun H locs hP hD hS => ?_)
            have hP : va_P E.1 vwCl (WM E aM (M_at_s (M_start_s (M_kind_s o17.2 (upd (M_kind o17.2) (Int32.toNatClampNeg (M_asks o17.2)) x1)) (upd (M_start o17.2) (Int32.toNatClampNeg (M_asks o17.2)) x2)) (upd (M_at o17.2) (Int32.toNatClampNeg (5 * (M_asks o17.2))) x3))) H := hP
            have hD : va_D A (WM E aM (M_at_s (M_start_s (M_kind_s o17.2 (upd (M_kind o17.2) (Int32.toNatClampNeg (M_asks o17.2)) x1)) (upd (M_start o17.2) (Int32.toNatClampNeg (M_asks o17.2)) x2)) (upd (M_at o17.2) (Int32.toNatClampNeg (5 * (M_asks o17.2))) x3))) := hD
            refine lv_aload_n hx hb dX5_ask_118 rfl (lv_at hl 0 rfl) ?_
            refine va_get (D := E.1) (ci := 5) (v := .ref (aM 8)) (C := RX5) (T := TX5) (N := 19) hx hb hts hinX5 hown hK.1 hP 0 rfl rfl 10 (by decide) hw5 (fun _ h9 => h9) rfl dX5_ask_119 ?_
            refine lv_iconst (v := 5) hx hb dX5_ask_122 (by decide) ?_
            refine lv_aload_n hx hb dX5_ask_123 rfl (lv_at hl 0 rfl) ?_
            refine va_get (D := E.1) (ci := 5) (v := .int (M_asks o17.2)) (C := RX5) (T := TX5) (N := 19) hx hb hts hinX5 hown hK.1 hP 0 rfl rfl 8 (by decide) hw1 (fun _ h9 => h9) rfl dX5_ask_124 ?_
            refine lv_imul hx hb dX5_ask_127 ?_
            refine lv_iload hx hb dX5_ask_128 (lv_at hl 4 rfl) ?_
            obtain ⟨i23, h⟩ := q_ck h
            refine va_iast (f := (M_work o17.2)) hx hb hK.1 hP hD hS 8 0 rfl rfl i23 dX5_ask_130 (fun H locs hP hD hS => ?_)
            have hP : va_P E.1 vwCl (WM E aM (M_work_s (M_at_s (M_start_s (M_kind_s o17.2 (upd (M_kind o17.2) (Int32.toNatClampNeg (M_asks o17.2)) x1)) (upd (M_start o17.2) (Int32.toNatClampNeg (M_asks o17.2)) x2)) (upd (M_at o17.2) (Int32.toNatClampNeg (5 * (M_asks o17.2))) x3)) (upd (M_work o17.2) (Int32.toNatClampNeg (5 * (M_asks o17.2))) x4))) H := hP
            have hD : va_D A (WM E aM (M_work_s (M_at_s (M_start_s (M_kind_s o17.2 (upd (M_kind o17.2) (Int32.toNatClampNeg (M_asks o17.2)) x1)) (upd (M_start o17.2) (Int32.toNatClampNeg (M_asks o17.2)) x2)) (upd (M_at o17.2) (Int32.toNatClampNeg (5 * (M_asks o17.2))) x3)) (upd (M_work o17.2) (Int32.toNatClampNeg (5 * (M_asks o17.2))) x4))) := hD
            refine lv_aload_n hx hb dX5_ask_131 rfl (lv_at hl 0 rfl) ?_
            refine va_get (D := E.1) (ci := 5) (v := .ref (aM 6)) (C := RX5) (T := TX5) (N := 19) hx hb hts hinX5 hown hK.1 hP 0 rfl rfl 7 (by decide) hw6 (fun _ h9 => h9) rfl dX5_ask_132 ?_
            refine lv_aload_n hx hb dX5_ask_135 rfl (lv_at hl 0 rfl) ?_
            refine va_get (D := E.1) (ci := 5) (v := .int (M_asks o17.2)) (C := RX5) (T := TX5) (N := 19) hx hb hts hinX5 hown hK.1 hP 0 rfl rfl 8 (by decide) hw1 (fun _ h9 => h9) rfl dX5_ask_136 ?_
            refine lv_iconst (v := 1) hx hb dX5_ask_139 (by decide) ?_
            obtain ⟨i24, h⟩ := q_ck h
            refine va_iast (f := (M_steps o17.2)) hx hb hK.1 hP hD hS 6 0 rfl rfl i24 dX5_ask_140 (fun H locs hP hD hS => ?_)
            have hP : va_P E.1 vwCl (WM E aM (M_work_s (M_at_s (M_steps_s (M_start_s (M_kind_s o17.2 (upd (M_kind o17.2) (Int32.toNatClampNeg (M_asks o17.2)) x1)) (upd (M_start o17.2) (Int32.toNatClampNeg (M_asks o17.2)) x2)) (upd (M_steps o17.2) (Int32.toNatClampNeg (M_asks o17.2)) 1)) (upd (M_at o17.2) (Int32.toNatClampNeg (5 * (M_asks o17.2))) x3)) (upd (M_work o17.2) (Int32.toNatClampNeg (5 * (M_asks o17.2))) x4))) H := hP
            have hD : va_D A (WM E aM (M_work_s (M_at_s (M_steps_s (M_start_s (M_kind_s o17.2 (upd (M_kind o17.2) (Int32.toNatClampNeg (M_asks o17.2)) x1)) (upd (M_start o17.2) (Int32.toNatClampNeg (M_asks o17.2)) x2)) (upd (M_steps o17.2) (Int32.toNatClampNeg (M_asks o17.2)) 1)) (upd (M_at o17.2) (Int32.toNatClampNeg (5 * (M_asks o17.2))) x3)) (upd (M_work o17.2) (Int32.toNatClampNeg (5 * (M_asks o17.2))) x4))) := hD
            refine lv_aload_n hx hb dX5_ask_141 rfl (lv_at hl 0 rfl) ?_
            refine lv_dup hx hb dX5_ask_142 rfl ?_
            refine va_get (D := E.1) (ci := 5) (v := .int (M_asks o17.2)) (C := RX5) (T := TX5) (N := 19) hx hb hts hinX5 hown hK.1 hP 0 rfl rfl 8 (by decide) hw1 (fun _ h9 => h9) rfl dX5_ask_143 ?_
            refine lv_iconst (v := 1) hx hb dX5_ask_146 (by decide) ?_
            refine lv_iadd hx hb dX5_ask_147 ?_
            refine va_put (D := E.1) (ci := 5) (v := .int ((M_asks o17.2) + 1)) (ty := .int) (C := RX5) (T := TX5) (N := 19) hx hb hts hinX5 tyX5 tyX5_ok nmX5 hown hK.1 hP hD hS 0 rfl rfl 8 (by decide) hw1 (fun _ h9 => h9) rfl (by decide +kernel) rfl rfl (Nat.le_of_ble_eq_true rfl) dX5_ask_148 (fun H locs hP hD hS => ?_)
            have hP : va_P E.1 vwCl (WM E aM (M_work_s (M_at_s (M_asks_s (M_steps_s (M_start_s (M_kind_s o17.2 (upd (M_kind o17.2) (Int32.toNatClampNeg (M_asks o17.2)) x1)) (upd (M_start o17.2) (Int32.toNatClampNeg (M_asks o17.2)) x2)) (upd (M_steps o17.2) (Int32.toNatClampNeg (M_asks o17.2)) 1)) ((M_asks o17.2) + 1)) (upd (M_at o17.2) (Int32.toNatClampNeg (5 * (M_asks o17.2))) x3)) (upd (M_work o17.2) (Int32.toNatClampNeg (5 * (M_asks o17.2))) x4))) H := hP
            have hD : va_D A (WM E aM (M_work_s (M_at_s (M_asks_s (M_steps_s (M_start_s (M_kind_s o17.2 (upd (M_kind o17.2) (Int32.toNatClampNeg (M_asks o17.2)) x1)) (upd (M_start o17.2) (Int32.toNatClampNeg (M_asks o17.2)) x2)) (upd (M_steps o17.2) (Int32.toNatClampNeg (M_asks o17.2)) 1)) ((M_asks o17.2) + 1)) (upd (M_at o17.2) (Int32.toNatClampNeg (5 * (M_asks o17.2))) x3)) (upd (M_work o17.2) (Int32.toNatClampNeg (5 * (M_asks o17.2))) x4))) := hD
            refine lv_aload_n hx hb dX5_ask_151 rfl (lv_at hl 0 rfl) ?_
            refine va_get (D := E.1) (ci := 5) (v := .int ((M_asks o17.2) + 1)) (C := RX5) (T := TX5) (N := 19) hx hb hts hinX5 hown hK.1 hP 0 rfl rfl 8 (by decide) hw1 (fun _ h9 => h9) rfl dX5_ask_152 ?_
            refine lv_iconst (v := 1) hx hb dX5_ask_155 (by decide) ?_
            refine lv_isub hx hb dX5_ask_156 ?_
            obtain rfl := q_inj h
            exact hRt 157 _ _ _ dX5_ask_157 hP hD hS
          · have h := q_neg c19 h
            refine lv_iconst (v := 0) hx hb dX5_ask_84 (by decide) ?_
            obtain rfl := q_inj h
            exact hRt 85 _ _ _ dX5_ask_85 hP hD hS
        have h := e16
        refine lv_icmp_ne (tgt := 76) hx hb dX5_ask_69 (by decide) (fun c25 => ?_) (fun c25 => ?_)
        · have h := q_neg c25 h
          refine lv_iconst (v := 0) hx hb dX5_ask_76 (by decide) ?_
          obtain rfl := q_inj h
          exact KJ14 _ _ hP hD hS
        · have h := q_pos c25 h
          refine lv_iconst (v := 1) hx hb dX5_ask_72 (by decide) ?_
          refine lv_goto (tgt := 77) hx hb dX5_ask_73 (by decide) ?_
          obtain rfl := q_inj h
          exact KJ14 _ _ hP hD hS
    have h := e10
    refine lv_if_eq (tgt := 50) hx hb dX5_ask_25 (by decide) (fun c26 => ?_) (fun c26 => ?_)
    · have h := q_pos c26 h
      refine lv_iconst (v := 1) hx hb dX5_ask_50 (by decide) ?_
      refine lv_goto (tgt := 55) hx hb dX5_ask_51 (by decide) ?_
      obtain rfl := q_inj h
      exact KJ8 _ _ hP hD hS
    · have h := q_neg c26 h
      refine lv_iload_n hx hb dX5_ask_28 rfl (lv_at hl 2 rfl) ?_
      refine lv_iconst (v := 0) hx hb dX5_ask_29 (by decide) ?_
      refine lv_ldc (v := 100000) hx hb hown hw7 dX5_ask_30 ?_
      obtain ⟨o27, e28, h⟩ := q_bind h
      refine q_ci (va_runS (As := [.int x2, .int 0, .int 100000]) (rest := [.ref (aM 0)]) ⟨hx, hb, hml, hown, hts⟩ (wX5_in l E  x2 0 100000 o27 e28 _) (va_cwS 3 hts gX5_ask_X5_in rfl rfl rfl (by decide +kernel) ⟨Nat.le_of_ble_eq_true rfl, Nat.le_of_ble_eq_true rfl⟩) (q_preS hK hP hD q_nil) rfl rfl hl.1 rfl (lv_room (Nat.le_of_ble_eq_true rfl)) dX5_ask_32 ⟨Nat.zero_le _, Nat.zero_le _⟩) hP hD hS hA q_nil q_nil.symm (fun H locs hP hD hS => ?_)
      refine lv_if_eq (tgt := 50) hx hb dX5_ask_35 (by decide) (fun c29 => ?_) (fun c29 => ?_)
      · have h := q_pos c29 h
        refine lv_iconst (v := 1) hx hb dX5_ask_50 (by decide) ?_
        refine lv_goto (tgt := 55) hx hb dX5_ask_51 (by decide) ?_
        obtain rfl := q_inj h
        exact KJ8 _ _ hP hD hS
      · have h := q_neg c29 h
        refine lv_iload hx hb dX5_ask_38 (lv_at hl 4 rfl) ?_
        refine lv_iconst (v := 1) hx hb dX5_ask_40 (by decide) ?_
        refine lv_sipush (v := 1000) hx hb dX5_ask_41 (by decide) ?_
        obtain ⟨o30, e31, h⟩ := q_bind h
        refine q_ci (va_runS (As := [.int x4, .int 1, .int 1000]) (rest := [.ref (aM 0)]) ⟨hx, hb, hml, hown, hts⟩ (wX5_in l E  x4 1 1000 o30 e31 _) (va_cwS 3 hts gX5_ask_X5_in rfl rfl rfl (by decide +kernel) ⟨Nat.le_of_ble_eq_true rfl, Nat.le_of_ble_eq_true rfl⟩) (q_preS hK hP hD q_nil) rfl rfl hl.1 rfl (lv_room (Nat.le_of_ble_eq_true rfl)) dX5_ask_44 ⟨Nat.zero_le _, Nat.zero_le _⟩) hP hD hS hA q_nil q_nil.symm (fun H locs hP hD hS => ?_)
        refine lv_if_ne (tgt := 54) hx hb dX5_ask_47 (by decide) (fun c32 => ?_) (fun c32 => ?_)
        · have h := q_neg c32 h
          refine lv_iconst (v := 0) hx hb dX5_ask_54 (by decide) ?_
          obtain rfl := q_inj h
          exact KJ8 _ _ hP hD hS
        · have h := q_pos c32 h
          refine lv_iconst (v := 1) hx hb dX5_ask_50 (by decide) ?_
          refine lv_goto (tgt := 55) hx hb dX5_ask_51 (by decide) ?_
          obtain rfl := q_inj h
          exact KJ8 _ _ hP hD hS
def mX5_step (vM : SM) (x1 : Int32) (x2 : Int32) (x3 : Int32) : Option (Int32 × SM) := (mX5_noAsk (M_thrown_s vM 0) x1).bind fun o1 => Option.bind (if o1 = 0 then ((mX5_noPlace (M_thrown_s vM 0) x2).bind fun o28 => if o28 = 0 then (some 0) else (some 1)) else (some 1)) fun z4 => (mX5_throwsIf (M_thrown_s vM 0) z4 1).bind fun o6 => if o6.1 = 0 then ((mX5_in x3 1 1000).bind fun o9 => Option.bind (if o9 = 0 then (some 1) else (some 0)) fun z12 => (mX5_throwsIf o6.2 z12 2).bind fun o14 => if o14.1 = 0 then (ck x1 60 (if ((M_steps o14.2) (Int32.toNatClampNeg x1)) = 5 then (some ((-1), o14.2)) else (ck x1 60 (ck ((5 * x1) + ((M_steps o14.2) (Int32.toNatClampNeg x1))) 300 (ck x1 60 (ck ((5 * x1) + ((M_steps o14.2) (Int32.toNatClampNeg x1))) 300 (ck x1 60 (ck x1 60 (ck x1 60 (some ((((upd (M_steps o14.2) (Int32.toNatClampNeg x1) (((M_steps o14.2) (Int32.toNatClampNeg x1)) + 1)) (Int32.toNatClampNeg x1)) - 1), (M_work_s (M_at_s (M_steps_s o14.2 (upd (M_steps o14.2) (Int32.toNatClampNeg x1) (((M_steps o14.2) (Int32.toNatClampNeg x1)) + 1))) (upd (M_at o14.2) (Int32.toNatClampNeg ((5 * x1) + ((M_steps o14.2) (Int32.toNatClampNeg x1)))) x2)) (upd (M_work o14.2) (Int32.toNatClampNeg ((5 * x1) + ((M_steps o14.2) (Int32.toNatClampNeg x1)))) x3))))))))))))) else (some (0, o14.2))) else (some (0, o6.2))
def rmX5_step : Room := { frames := 2, cells := 0, slots := 0, locals := 43 }
set_option maxHeartbeats 8000000 in
set_option maxRecDepth 100000 in
theorem wX5_step (l : Launch) (E : qE) (aM : Nat → Nat) (vM : SM) (x1 : Int32) (x2 : Int32) (x3 : Int32) (o : Int32 × SM) (h : mX5_step vM x1 x2 x3 = some o) : MI l E yX5_step wsX5_step rmX5_step [.ref (aM 0), .int x1, .int x2, .int x3] (WM E aM vM) (WM E aM o.2) o.1 := by
  refine q_startI (cc := cX5_step) (maxL := 4) (by decide) rfl (Nat.le_of_ble_eq_true rfl) ?_
  intro pr e s m args below meth c A Q hx hb hml hown hts hK hRt hP hD hA hS ls hl
  have hl : lv_has ls 4 [(0, .ref (aM 0)), (1, .int x1), (2, .int x2), (3, .int x3)] := hl
  have hinX5 : ∀ w ∈ wsX50, w ∈ wsX5_step := by decide +kernel
  have hw0 := hts (.fieldLink RX5 59 "QueueReaderModel" "thrown" "I") (by decide +kernel)
  have hw1 := hts (.fieldLink RX5 25 "QueueReaderModel" "steps" "[I") (by decide +kernel)
  have hw2 := hts (.fieldLink RX5 28 "QueueReaderModel" "at" "[I") (by decide +kernel)
  have hw3 := hts (.fieldLink RX5 31 "QueueReaderModel" "work" "[I") (by decide +kernel)
  unfold mX5_step at h
  refine lv_aload_n hx hb dX5_step_0 rfl (lv_at hl 0 rfl) ?_
  refine lv_iconst (v := 0) hx hb dX5_step_1 (by decide) ?_
  refine va_put (D := E.1) (ci := 5) (v := .int 0) (ty := .int) (C := RX5) (T := TX5) (N := 19) hx hb hts hinX5 tyX5 tyX5_ok nmX5 hown hK.1 hP hD hS 0 rfl rfl 0 (by decide) hw0 (fun _ h9 => h9) rfl (by decide +kernel) rfl rfl (Nat.le_of_ble_eq_true rfl) dX5_step_2 (fun H locs hP hD hS => ?_)
  have hP : va_P E.1 vwCl (WM E aM (M_thrown_s vM 0)) H := hP
  have hD : va_D A (WM E aM (M_thrown_s vM 0)) := hD
  refine lv_aload_n hx hb dX5_step_5 rfl (lv_at hl 0 rfl) ?_
  refine lv_aload_n hx hb dX5_step_6 rfl (lv_at hl 0 rfl) ?_
  refine lv_iload_n hx hb dX5_step_7 rfl (lv_at hl 1 rfl) ?_
  obtain ⟨o1, e2, h⟩ := q_bind h
  refine q_ci (va_runV (As := [.int x1]) (rest := [.ref (aM 0)]) ⟨hx, hb, hml, hown, hts⟩ (wX5_noAsk l E aM (M_thrown_s vM 0) x1 o1 e2 _) (cwV 1 hts gX5_step_X5_noAsk rfl rfl rfl (by decide +kernel) ⟨Nat.le_of_ble_eq_true rfl, Nat.le_of_ble_eq_true rfl⟩) (q_preV hK hP hD q_idl 5 0 rfl rfl) rfl rfl hl.1 rfl (lv_room (Nat.le_of_ble_eq_true rfl)) dX5_step_8 ⟨Nat.zero_le _, Nat.zero_le _⟩) hP hD hS hA q_idl q_idr (fun H locs hP hD hS => ?_)
  obtain ⟨z4, e5, h⟩ := q_bind h
  have KJ3 : ∀ (H : Heap) (locs : List Loc), va_P E.1 vwCl (WM E aM (M_thrown_s vM 0)) H → va_D A (WM E aM (M_thrown_s vM 0)) → va_S A s.heap H locs → W pr l e rmX5_step s m args below meth c H locs 0 0 Q (F0 m 27 ls [.int z4, .ref (aM 0)]) := by
    intro H locs hP hD hS
    refine lv_iconst (v := 1) hx hb dX5_step_27 (by decide) ?_
    obtain ⟨o6, e7, h⟩ := q_bind h
    refine q_ci (va_runV (As := [.int z4, .int 1]) (rest := []) ⟨hx, hb, hml, hown, hts⟩ (wX5_throwsIf l E aM (M_thrown_s vM 0) z4 1 o6 e7 _) (cwV 2 hts gX5_step_X5_throwsIf rfl rfl rfl (by decide +kernel) ⟨Nat.le_of_ble_eq_true rfl, Nat.le_of_ble_eq_true rfl⟩) (q_preV hK hP hD q_idl 5 0 rfl rfl) rfl rfl hl.1 rfl (lv_room (Nat.le_of_ble_eq_true rfl)) dX5_step_28 ⟨Nat.zero_le _, Nat.zero_le _⟩) hP hD hS hA q_idl q_idr (fun H locs hP hD hS => ?_)
    refine lv_if_ne (tgt := 58) hx hb dX5_step_31 (by decide) (fun c8 => ?_) (fun c8 => ?_)
    · have h := q_neg c8 h
      refine lv_iconst (v := 0) hx hb dX5_step_58 (by decide) ?_
      obtain rfl := q_inj h
      exact hRt 59 _ _ _ dX5_step_59 hP hD hS
    · have h := q_pos c8 h
      refine lv_aload_n hx hb dX5_step_34 rfl (lv_at hl 0 rfl) ?_
      refine lv_iload_n hx hb dX5_step_35 rfl (lv_at hl 3 rfl) ?_
      refine lv_iconst (v := 1) hx hb dX5_step_36 (by decide) ?_
      refine lv_sipush (v := 1000) hx hb dX5_step_37 (by decide) ?_
      obtain ⟨o9, e10, h⟩ := q_bind h
      refine q_ci (va_runS (As := [.int x3, .int 1, .int 1000]) (rest := [.ref (aM 0)]) ⟨hx, hb, hml, hown, hts⟩ (wX5_in l E  x3 1 1000 o9 e10 _) (va_cwS 3 hts gX5_step_X5_in rfl rfl rfl (by decide +kernel) ⟨Nat.le_of_ble_eq_true rfl, Nat.le_of_ble_eq_true rfl⟩) (q_preS hK hP hD q_nil) rfl rfl hl.1 rfl (lv_room (Nat.le_of_ble_eq_true rfl)) dX5_step_40 ⟨Nat.zero_le _, Nat.zero_le _⟩) hP hD hS hA q_nil q_nil.symm (fun H locs hP hD hS => ?_)
      obtain ⟨z12, e13, h⟩ := q_bind h
      have KJ11 : ∀ (H : Heap) (locs : List Loc), va_P E.1 vwCl (WM E aM o6.2) H → va_D A (WM E aM o6.2) → va_S A s.heap H locs → W pr l e rmX5_step s m args below meth c H locs 0 0 Q (F0 m 51 ls [.int z12, .ref (aM 0)]) := by
        intro H locs hP hD hS
        refine lv_iconst (v := 2) hx hb dX5_step_51 (by decide) ?_
        obtain ⟨o14, e15, h⟩ := q_bind h
        refine q_ci (va_runV (As := [.int z12, .int 2]) (rest := []) ⟨hx, hb, hml, hown, hts⟩ (wX5_throwsIf l E aM o6.2 z12 2 o14 e15 _) (cwV 2 hts gX5_step_X5_throwsIf rfl rfl rfl (by decide +kernel) ⟨Nat.le_of_ble_eq_true rfl, Nat.le_of_ble_eq_true rfl⟩) (q_preV hK hP hD q_idl 5 0 rfl rfl) rfl rfl hl.1 rfl (lv_room (Nat.le_of_ble_eq_true rfl)) dX5_step_52 ⟨Nat.zero_le _, Nat.zero_le _⟩) hP hD hS hA q_idl q_idr (fun H locs hP hD hS => ?_)
        refine lv_if_eq (tgt := 60) hx hb dX5_step_55 (by decide) (fun c16 => ?_) (fun c16 => ?_)
        · have h := q_pos c16 h
          refine lv_aload_n hx hb dX5_step_60 rfl (lv_at hl 0 rfl) ?_
          refine va_get (D := E.1) (ci := 5) (v := .ref (aM 6)) (C := RX5) (T := TX5) (N := 19) hx hb hts hinX5 hown hK.1 hP 0 rfl rfl 7 (by decide) hw1 (fun _ h9 => h9) rfl dX5_step_61 ?_
          refine lv_iload_n hx hb dX5_step_64 rfl (lv_at hl 1 rfl) ?_
          obtain ⟨i17, h⟩ := q_ck h
          refine va_iald (f := (M_steps o14.2)) hx hb hK.1 hP 6 0 rfl rfl i17 dX5_step_65 ?_
          refine lv_iconst (v := 5) hx hb dX5_step_66 (by decide) ?_
          refine lv_icmp_ne (tgt := 72) hx hb dX5_step_67 (by decide) (fun c18 => ?_) (fun c18 => ?_)
          · have h := q_neg c18 h
            refine lv_aload_n hx hb dX5_step_72 rfl (lv_at hl 0 rfl) ?_
            refine va_get (D := E.1) (ci := 5) (v := .ref (aM 7)) (C := RX5) (T := TX5) (N := 19) hx hb hts hinX5 hown hK.1 hP 0 rfl rfl 9 (by decide) hw2 (fun _ h9 => h9) rfl dX5_step_73 ?_
            refine lv_iconst (v := 5) hx hb dX5_step_76 (by decide) ?_
            refine lv_iload_n hx hb dX5_step_77 rfl (lv_at hl 1 rfl) ?_
            refine lv_imul hx hb dX5_step_78 ?_
            refine lv_aload_n hx hb dX5_step_79 rfl (lv_at hl 0 rfl) ?_
            refine va_get (D := E.1) (ci := 5) (v := .ref (aM 6)) (C := RX5) (T := TX5) (N := 19) hx hb hts hinX5 hown hK.1 hP 0 rfl rfl 7 (by decide) hw1 (fun _ h9 => h9) rfl dX5_step_80 ?_
            refine lv_iload_n hx hb dX5_step_83 rfl (lv_at hl 1 rfl) ?_
            obtain ⟨i19, h⟩ := q_ck h
            refine va_iald (f := (M_steps o14.2)) hx hb hK.1 hP 6 0 rfl rfl i19 dX5_step_84 ?_
            refine lv_iadd hx hb dX5_step_85 ?_
            refine lv_iload_n hx hb dX5_step_86 rfl (lv_at hl 2 rfl) ?_
            obtain ⟨i20, h⟩ := q_ck h
            refine va_iast (f := (M_at o14.2)) hx hb hK.1 hP hD hS 7 0 rfl rfl i20 dX5_step_87 (fun H locs hP hD hS => ?_)
            have hP : va_P E.1 vwCl (WM E aM (M_at_s o14.2 (upd (M_at o14.2) (Int32.toNatClampNeg ((5 * x1) + ((M_steps o14.2) (Int32.toNatClampNeg x1)))) x2))) H := hP
            have hD : va_D A (WM E aM (M_at_s o14.2 (upd (M_at o14.2) (Int32.toNatClampNeg ((5 * x1) + ((M_steps o14.2) (Int32.toNatClampNeg x1)))) x2))) := hD
            refine lv_aload_n hx hb dX5_step_88 rfl (lv_at hl 0 rfl) ?_
            refine va_get (D := E.1) (ci := 5) (v := .ref (aM 8)) (C := RX5) (T := TX5) (N := 19) hx hb hts hinX5 hown hK.1 hP 0 rfl rfl 10 (by decide) hw3 (fun _ h9 => h9) rfl dX5_step_89 ?_
            refine lv_iconst (v := 5) hx hb dX5_step_92 (by decide) ?_
            refine lv_iload_n hx hb dX5_step_93 rfl (lv_at hl 1 rfl) ?_
            refine lv_imul hx hb dX5_step_94 ?_
            refine lv_aload_n hx hb dX5_step_95 rfl (lv_at hl 0 rfl) ?_
            refine va_get (D := E.1) (ci := 5) (v := .ref (aM 6)) (C := RX5) (T := TX5) (N := 19) hx hb hts hinX5 hown hK.1 hP 0 rfl rfl 7 (by decide) hw1 (fun _ h9 => h9) rfl dX5_step_96 ?_
            refine lv_iload_n hx hb dX5_step_99 rfl (lv_at hl 1 rfl) ?_
            obtain ⟨i21, h⟩ := q_ck h
            refine va_iald (f := (M_steps o14.2)) hx hb hK.1 hP 6 0 rfl rfl i21 dX5_step_100 ?_
            refine lv_iadd hx hb dX5_step_101 ?_
            refine lv_iload_n hx hb dX5_step_102 rfl (lv_at hl 3 rfl) ?_
            obtain ⟨i22, h⟩ := q_ck h
            refine va_iast (f := (M_work o14.2)) hx hb hK.1 hP hD hS 8 0 rfl rfl i22 dX5_step_103 (fun H locs hP hD hS => ?_)
            have hP : va_P E.1 vwCl (WM E aM (M_work_s (M_at_s o14.2 (upd (M_at o14.2) (Int32.toNatClampNeg ((5 * x1) + ((M_steps o14.2) (Int32.toNatClampNeg x1)))) x2)) (upd (M_work o14.2) (Int32.toNatClampNeg ((5 * x1) + ((M_steps o14.2) (Int32.toNatClampNeg x1)))) x3))) H := hP
            have hD : va_D A (WM E aM (M_work_s (M_at_s o14.2 (upd (M_at o14.2) (Int32.toNatClampNeg ((5 * x1) + ((M_steps o14.2) (Int32.toNatClampNeg x1)))) x2)) (upd (M_work o14.2) (Int32.toNatClampNeg ((5 * x1) + ((M_steps o14.2) (Int32.toNatClampNeg x1)))) x3))) := hD
            refine lv_aload_n hx hb dX5_step_104 rfl (lv_at hl 0 rfl) ?_
            refine va_get (D := E.1) (ci := 5) (v := .ref (aM 6)) (C := RX5) (T := TX5) (N := 19) hx hb hts hinX5 hown hK.1 hP 0 rfl rfl 7 (by decide) hw1 (fun _ h9 => h9) rfl dX5_step_105 ?_
            refine lv_iload_n hx hb dX5_step_108 rfl (lv_at hl 1 rfl) ?_
            refine lv_dup2_11 hx hb dX5_step_109 rfl rfl ?_
            obtain ⟨i23, h⟩ := q_ck h
            refine va_iald (f := (M_steps o14.2)) hx hb hK.1 hP 6 0 rfl rfl i23 dX5_step_110 ?_
            refine lv_iconst (v := 1) hx hb dX5_step_111 (by decide) ?_
            refine lv_iadd hx hb dX5_step_112 ?_
            obtain ⟨i24, h⟩ := q_ck h
            refine va_iast (f := (M_steps o14.2)) hx hb hK.1 hP hD hS 6 0 rfl rfl i24 dX5_step_113 (fun H locs hP hD hS => ?_)
            have hP : va_P E.1 vwCl (WM E aM (M_work_s (M_at_s (M_steps_s o14.2 (upd (M_steps o14.2) (Int32.toNatClampNeg x1) (((M_steps o14.2) (Int32.toNatClampNeg x1)) + 1))) (upd (M_at o14.2) (Int32.toNatClampNeg ((5 * x1) + ((M_steps o14.2) (Int32.toNatClampNeg x1)))) x2)) (upd (M_work o14.2) (Int32.toNatClampNeg ((5 * x1) + ((M_steps o14.2) (Int32.toNatClampNeg x1)))) x3))) H := hP
            have hD : va_D A (WM E aM (M_work_s (M_at_s (M_steps_s o14.2 (upd (M_steps o14.2) (Int32.toNatClampNeg x1) (((M_steps o14.2) (Int32.toNatClampNeg x1)) + 1))) (upd (M_at o14.2) (Int32.toNatClampNeg ((5 * x1) + ((M_steps o14.2) (Int32.toNatClampNeg x1)))) x2)) (upd (M_work o14.2) (Int32.toNatClampNeg ((5 * x1) + ((M_steps o14.2) (Int32.toNatClampNeg x1)))) x3))) := hD
            refine lv_aload_n hx hb dX5_step_114 rfl (lv_at hl 0 rfl) ?_
            refine va_get (D := E.1) (ci := 5) (v := .ref (aM 6)) (C := RX5) (T := TX5) (N := 19) hx hb hts hinX5 hown hK.1 hP 0 rfl rfl 7 (by decide) hw1 (fun _ h9 => h9) rfl dX5_step_115 ?_
            refine lv_iload_n hx hb dX5_step_118 rfl (lv_at hl 1 rfl) ?_
            obtain ⟨i25, h⟩ := q_ck h
            refine va_iald (f := (upd (M_steps o14.2) (Int32.toNatClampNeg x1) (((M_steps o14.2) (Int32.toNatClampNeg x1)) + 1))) hx hb hK.1 hP 6 0 rfl rfl i25 dX5_step_119 ?_
            refine lv_iconst (v := 1) hx hb dX5_step_120 (by decide) ?_
            refine lv_isub hx hb dX5_step_121 ?_
            obtain rfl := q_inj h
            exact hRt 122 _ _ _ dX5_step_122 hP hD hS
          · have h := q_pos c18 h
            refine lv_iconst (v := (-1)) hx hb dX5_step_70 (by decide) ?_
            obtain rfl := q_inj h
            exact hRt 71 _ _ _ dX5_step_71 hP hD hS
        · have h := q_neg c16 h
          refine lv_iconst (v := 0) hx hb dX5_step_58 (by decide) ?_
          obtain rfl := q_inj h
          exact hRt 59 _ _ _ dX5_step_59 hP hD hS
      have h := e13
      refine lv_if_ne (tgt := 50) hx hb dX5_step_43 (by decide) (fun c26 => ?_) (fun c26 => ?_)
      · have h := q_neg c26 h
        refine lv_iconst (v := 0) hx hb dX5_step_50 (by decide) ?_
        obtain rfl := q_inj h
        exact KJ11 _ _ hP hD hS
      · have h := q_pos c26 h
        refine lv_iconst (v := 1) hx hb dX5_step_46 (by decide) ?_
        refine lv_goto (tgt := 51) hx hb dX5_step_47 (by decide) ?_
        obtain rfl := q_inj h
        exact KJ11 _ _ hP hD hS
  have h := e5
  refine lv_if_ne (tgt := 22) hx hb dX5_step_11 (by decide) (fun c27 => ?_) (fun c27 => ?_)
  · have h := q_neg c27 h
    refine lv_iconst (v := 1) hx hb dX5_step_22 (by decide) ?_
    refine lv_goto (tgt := 27) hx hb dX5_step_23 (by decide) ?_
    obtain rfl := q_inj h
    exact KJ3 _ _ hP hD hS
  · have h := q_pos c27 h
    refine lv_aload_n hx hb dX5_step_14 rfl (lv_at hl 0 rfl) ?_
    refine lv_iload_n hx hb dX5_step_15 rfl (lv_at hl 2 rfl) ?_
    obtain ⟨o28, e29, h⟩ := q_bind h
    refine q_ci (va_runV (As := [.int x2]) (rest := [.ref (aM 0)]) ⟨hx, hb, hml, hown, hts⟩ (wX5_noPlace l E aM (M_thrown_s vM 0) x2 o28 e29 _) (cwV 1 hts gX5_step_X5_noPlace rfl rfl rfl (by decide +kernel) ⟨Nat.le_of_ble_eq_true rfl, Nat.le_of_ble_eq_true rfl⟩) (q_preV hK hP hD q_idl 5 0 rfl rfl) rfl rfl hl.1 rfl (lv_room (Nat.le_of_ble_eq_true rfl)) dX5_step_16 ⟨Nat.zero_le _, Nat.zero_le _⟩) hP hD hS hA q_idl q_idr (fun H locs hP hD hS => ?_)
    refine lv_if_eq (tgt := 26) hx hb dX5_step_19 (by decide) (fun c30 => ?_) (fun c30 => ?_)
    · have h := q_pos c30 h
      refine lv_iconst (v := 0) hx hb dX5_step_26 (by decide) ?_
      obtain rfl := q_inj h
      exact KJ3 _ _ hP hD hS
    · have h := q_neg c30 h
      refine lv_iconst (v := 1) hx hb dX5_step_22 (by decide) ?_
      refine lv_goto (tgt := 27) hx hb dX5_step_23 (by decide) ?_
      obtain rfl := q_inj h
      exact KJ3 _ _ hP hD hS
def mX5_seen (vM : SM) (x1 : Int32) (x2 : Int32) (x3 : Int32) (x4 : Int32) : Option SM := (mX5_noStep (M_thrown_s vM 0) x1 x2).bind fun o1 => (mX5_throwsIf (M_thrown_s vM 0) o1 1).bind fun o3 => if o3.1 = 0 then ((mX5_in x3 0 10000000).bind fun o6 => Option.bind (if o6 = 0 then (some 1) else ((mX5_in x4 0 10000000).bind fun o18 => if o18 = 0 then (some 1) else (if x3 < x4 then (some 0) else (some 1)))) fun z9 => (mX5_throwsIf o3.2 z9 2).bind fun o11 => if o11.1 = 0 then (ck ((5 * x1) + x2) 300 (ck ((5 * x1) + x2) 300 (ck ((5 * x1) + x2) 300 (some (M_seenDone_s (M_seenBegun_s (M_isSeen_s o11.2 (upd (M_isSeen o11.2) (Int32.toNatClampNeg ((5 * x1) + x2)) (vp_nar .boolean 1))) (upd (M_seenBegun o11.2) (Int32.toNatClampNeg ((5 * x1) + x2)) x3)) (upd (M_seenDone o11.2) (Int32.toNatClampNeg ((5 * x1) + x2)) x4)))))) else (some o11.2)) else (some o3.2)
def rmX5_seen : Room := { frames := 3, cells := 0, slots := 0, locals := 65 }
set_option maxHeartbeats 8000000 in
set_option maxRecDepth 100000 in
theorem wX5_seen (l : Launch) (E : qE) (aM : Nat → Nat) (vM : SM) (x1 : Int32) (x2 : Int32) (x3 : Int32) (x4 : Int32) (o : SM) (h : mX5_seen vM x1 x2 x3 x4 = some o) : MV l E yX5_seen wsX5_seen rmX5_seen [.ref (aM 0), .int x1, .int x2, .int x3, .int x4] (WM E aM vM) (WM E aM o) := by
  refine q_startV (cc := cX5_seen) (maxL := 5) (by decide) rfl (Nat.le_of_ble_eq_true rfl) ?_
  intro pr e s m args below meth c A Q hx hb hml hown hts hK hRt hP hD hA hS ls hl
  have hl : lv_has ls 5 [(0, .ref (aM 0)), (1, .int x1), (2, .int x2), (3, .int x3), (4, .int x4)] := hl
  have hinX5 : ∀ w ∈ wsX50, w ∈ wsX5_seen := by decide +kernel
  have hw0 := hts (.fieldLink RX5 59 "QueueReaderModel" "thrown" "I") (by decide +kernel)
  have hw1 := hts (.constant RX5 92 (10000000)) (by decide +kernel)
  have hw2 := hts (.fieldLink RX5 34 "QueueReaderModel" "isSeen" "[Z") (by decide +kernel)
  have hw3 := hts (.fieldLink RX5 38 "QueueReaderModel" "seenBegun" "[I") (by decide +kernel)
  have hw4 := hts (.fieldLink RX5 41 "QueueReaderModel" "seenDone" "[I") (by decide +kernel)
  unfold mX5_seen at h
  refine lv_aload_n hx hb dX5_seen_0 rfl (lv_at hl 0 rfl) ?_
  refine lv_iconst (v := 0) hx hb dX5_seen_1 (by decide) ?_
  refine va_put (D := E.1) (ci := 5) (v := .int 0) (ty := .int) (C := RX5) (T := TX5) (N := 19) hx hb hts hinX5 tyX5 tyX5_ok nmX5 hown hK.1 hP hD hS 0 rfl rfl 0 (by decide) hw0 (fun _ h9 => h9) rfl (by decide +kernel) rfl rfl (Nat.le_of_ble_eq_true rfl) dX5_seen_2 (fun H locs hP hD hS => ?_)
  have hP : va_P E.1 vwCl (WM E aM (M_thrown_s vM 0)) H := hP
  have hD : va_D A (WM E aM (M_thrown_s vM 0)) := hD
  refine lv_aload_n hx hb dX5_seen_5 rfl (lv_at hl 0 rfl) ?_
  refine lv_aload_n hx hb dX5_seen_6 rfl (lv_at hl 0 rfl) ?_
  refine lv_iload_n hx hb dX5_seen_7 rfl (lv_at hl 1 rfl) ?_
  refine lv_iload_n hx hb dX5_seen_8 rfl (lv_at hl 2 rfl) ?_
  obtain ⟨o1, e2, h⟩ := q_bind h
  refine q_ci (va_runV (As := [.int x1, .int x2]) (rest := [.ref (aM 0)]) ⟨hx, hb, hml, hown, hts⟩ (wX5_noStep l E aM (M_thrown_s vM 0) x1 x2 o1 e2 _) (cwV 2 hts gX5_seen_X5_noStep rfl rfl rfl (by decide +kernel) ⟨Nat.le_of_ble_eq_true rfl, Nat.le_of_ble_eq_true rfl⟩) (q_preV hK hP hD q_idl 5 0 rfl rfl) rfl rfl hl.1 rfl (lv_room (Nat.le_of_ble_eq_true rfl)) dX5_seen_9 ⟨Nat.zero_le _, Nat.zero_le _⟩) hP hD hS hA q_idl q_idr (fun H locs hP hD hS => ?_)
  refine lv_iconst (v := 1) hx hb dX5_seen_12 (by decide) ?_
  obtain ⟨o3, e4, h⟩ := q_bind h
  refine q_ci (va_runV (As := [.int o1, .int 1]) (rest := []) ⟨hx, hb, hml, hown, hts⟩ (wX5_throwsIf l E aM (M_thrown_s vM 0) o1 1 o3 e4 _) (cwV 2 hts gX5_seen_X5_throwsIf rfl rfl rfl (by decide +kernel) ⟨Nat.le_of_ble_eq_true rfl, Nat.le_of_ble_eq_true rfl⟩) (q_preV hK hP hD q_idl 5 0 rfl rfl) rfl rfl hl.1 rfl (lv_room (Nat.le_of_ble_eq_true rfl)) dX5_seen_13 ⟨Nat.zero_le _, Nat.zero_le _⟩) hP hD hS hA q_idl q_idr (fun H locs hP hD hS => ?_)
  refine lv_if_ne (tgt := 59) hx hb dX5_seen_16 (by decide) (fun c5 => ?_) (fun c5 => ?_)
  · have h := q_neg c5 h
    obtain rfl := q_inj h
    exact hRt 59 _ _ _ dX5_seen_59 hP hD hS
  · have h := q_pos c5 h
    refine lv_aload_n hx hb dX5_seen_19 rfl (lv_at hl 0 rfl) ?_
    refine lv_iload_n hx hb dX5_seen_20 rfl (lv_at hl 3 rfl) ?_
    refine lv_iconst (v := 0) hx hb dX5_seen_21 (by decide) ?_
    refine lv_ldc (v := 10000000) hx hb hown hw1 dX5_seen_22 ?_
    obtain ⟨o6, e7, h⟩ := q_bind h
    refine q_ci (va_runS (As := [.int x3, .int 0, .int 10000000]) (rest := [.ref (aM 0)]) ⟨hx, hb, hml, hown, hts⟩ (wX5_in l E  x3 0 10000000 o6 e7 _) (va_cwS 3 hts gX5_seen_X5_in rfl rfl rfl (by decide +kernel) ⟨Nat.le_of_ble_eq_true rfl, Nat.le_of_ble_eq_true rfl⟩) (q_preS hK hP hD q_nil) rfl rfl hl.1 rfl (lv_room (Nat.le_of_ble_eq_true rfl)) dX5_seen_24 ⟨Nat.zero_le _, Nat.zero_le _⟩) hP hD hS hA q_nil q_nil.symm (fun H locs hP hD hS => ?_)
    obtain ⟨z9, e10, h⟩ := q_bind h
    have KJ8 : ∀ (H : Heap) (locs : List Loc), va_P E.1 vwCl (WM E aM o3.2) H → va_D A (WM E aM o3.2) → va_S A s.heap H locs → W pr l e rmX5_seen s m args below meth c H locs 0 0 Q (F0 m 52 ls [.int z9, .ref (aM 0)]) := by
      intro H locs hP hD hS
      refine lv_iconst (v := 2) hx hb dX5_seen_52 (by decide) ?_
      obtain ⟨o11, e12, h⟩ := q_bind h
      refine q_ci (va_runV (As := [.int z9, .int 2]) (rest := []) ⟨hx, hb, hml, hown, hts⟩ (wX5_throwsIf l E aM o3.2 z9 2 o11 e12 _) (cwV 2 hts gX5_seen_X5_throwsIf rfl rfl rfl (by decide +kernel) ⟨Nat.le_of_ble_eq_true rfl, Nat.le_of_ble_eq_true rfl⟩) (q_preV hK hP hD q_idl 5 0 rfl rfl) rfl rfl hl.1 rfl (lv_room (Nat.le_of_ble_eq_true rfl)) dX5_seen_53 ⟨Nat.zero_le _, Nat.zero_le _⟩) hP hD hS hA q_idl q_idr (fun H locs hP hD hS => ?_)
      refine lv_if_eq (tgt := 60) hx hb dX5_seen_56 (by decide) (fun c13 => ?_) (fun c13 => ?_)
      · have h := q_pos c13 h
        refine lv_aload_n hx hb dX5_seen_60 rfl (lv_at hl 0 rfl) ?_
        refine va_get (D := E.1) (ci := 5) (v := .ref (aM 9)) (C := RX5) (T := TX5) (N := 19) hx hb hts hinX5 hown hK.1 hP 0 rfl rfl 11 (by decide) hw2 (fun _ h9 => h9) rfl dX5_seen_61 ?_
        refine lv_iconst (v := 5) hx hb dX5_seen_64 (by decide) ?_
        refine lv_iload_n hx hb dX5_seen_65 rfl (lv_at hl 1 rfl) ?_
        refine lv_imul hx hb dX5_seen_66 ?_
        refine lv_iload_n hx hb dX5_seen_67 rfl (lv_at hl 2 rfl) ?_
        refine lv_iadd hx hb dX5_seen_68 ?_
        refine lv_iconst (v := 1) hx hb dX5_seen_69 (by decide) ?_
        obtain ⟨i14, h⟩ := q_ck h
        refine va_zast (f := (M_isSeen o11.2)) hx hb hK.1 hP hD hS 9 2 rfl rfl i14 dX5_seen_70 (fun H locs hP hD hS => ?_)
        have hP : va_P E.1 vwCl (WM E aM (M_isSeen_s o11.2 (upd (M_isSeen o11.2) (Int32.toNatClampNeg ((5 * x1) + x2)) (vp_nar .boolean 1)))) H := hP
        have hD : va_D A (WM E aM (M_isSeen_s o11.2 (upd (M_isSeen o11.2) (Int32.toNatClampNeg ((5 * x1) + x2)) (vp_nar .boolean 1)))) := hD
        refine lv_aload_n hx hb dX5_seen_71 rfl (lv_at hl 0 rfl) ?_
        refine va_get (D := E.1) (ci := 5) (v := .ref (aM 10)) (C := RX5) (T := TX5) (N := 19) hx hb hts hinX5 hown hK.1 hP 0 rfl rfl 12 (by decide) hw3 (fun _ h9 => h9) rfl dX5_seen_72 ?_
        refine lv_iconst (v := 5) hx hb dX5_seen_75 (by decide) ?_
        refine lv_iload_n hx hb dX5_seen_76 rfl (lv_at hl 1 rfl) ?_
        refine lv_imul hx hb dX5_seen_77 ?_
        refine lv_iload_n hx hb dX5_seen_78 rfl (lv_at hl 2 rfl) ?_
        refine lv_iadd hx hb dX5_seen_79 ?_
        refine lv_iload_n hx hb dX5_seen_80 rfl (lv_at hl 3 rfl) ?_
        obtain ⟨i15, h⟩ := q_ck h
        refine va_iast (f := (M_seenBegun o11.2)) hx hb hK.1 hP hD hS 10 0 rfl rfl i15 dX5_seen_81 (fun H locs hP hD hS => ?_)
        have hP : va_P E.1 vwCl (WM E aM (M_seenBegun_s (M_isSeen_s o11.2 (upd (M_isSeen o11.2) (Int32.toNatClampNeg ((5 * x1) + x2)) (vp_nar .boolean 1))) (upd (M_seenBegun o11.2) (Int32.toNatClampNeg ((5 * x1) + x2)) x3))) H := hP
        have hD : va_D A (WM E aM (M_seenBegun_s (M_isSeen_s o11.2 (upd (M_isSeen o11.2) (Int32.toNatClampNeg ((5 * x1) + x2)) (vp_nar .boolean 1))) (upd (M_seenBegun o11.2) (Int32.toNatClampNeg ((5 * x1) + x2)) x3))) := hD
        refine lv_aload_n hx hb dX5_seen_82 rfl (lv_at hl 0 rfl) ?_
        refine va_get (D := E.1) (ci := 5) (v := .ref (aM 11)) (C := RX5) (T := TX5) (N := 19) hx hb hts hinX5 hown hK.1 hP 0 rfl rfl 13 (by decide) hw4 (fun _ h9 => h9) rfl dX5_seen_83 ?_
        refine lv_iconst (v := 5) hx hb dX5_seen_86 (by decide) ?_
        refine lv_iload_n hx hb dX5_seen_87 rfl (lv_at hl 1 rfl) ?_
        refine lv_imul hx hb dX5_seen_88 ?_
        refine lv_iload_n hx hb dX5_seen_89 rfl (lv_at hl 2 rfl) ?_
        refine lv_iadd hx hb dX5_seen_90 ?_
        refine lv_iload hx hb dX5_seen_91 (lv_at hl 4 rfl) ?_
        obtain ⟨i16, h⟩ := q_ck h
        refine va_iast (f := (M_seenDone o11.2)) hx hb hK.1 hP hD hS 11 0 rfl rfl i16 dX5_seen_93 (fun H locs hP hD hS => ?_)
        have hP : va_P E.1 vwCl (WM E aM (M_seenDone_s (M_seenBegun_s (M_isSeen_s o11.2 (upd (M_isSeen o11.2) (Int32.toNatClampNeg ((5 * x1) + x2)) (vp_nar .boolean 1))) (upd (M_seenBegun o11.2) (Int32.toNatClampNeg ((5 * x1) + x2)) x3)) (upd (M_seenDone o11.2) (Int32.toNatClampNeg ((5 * x1) + x2)) x4))) H := hP
        have hD : va_D A (WM E aM (M_seenDone_s (M_seenBegun_s (M_isSeen_s o11.2 (upd (M_isSeen o11.2) (Int32.toNatClampNeg ((5 * x1) + x2)) (vp_nar .boolean 1))) (upd (M_seenBegun o11.2) (Int32.toNatClampNeg ((5 * x1) + x2)) x3)) (upd (M_seenDone o11.2) (Int32.toNatClampNeg ((5 * x1) + x2)) x4))) := hD
        obtain rfl := q_inj h
        exact hRt 94 _ _ _ dX5_seen_94 hP hD hS
      · have h := q_neg c13 h
        obtain rfl := q_inj h
        exact hRt 59 _ _ _ dX5_seen_59 hP hD hS
    have h := e10
    refine lv_if_eq (tgt := 47) hx hb dX5_seen_27 (by decide) (fun c17 => ?_) (fun c17 => ?_)
    · have h := q_pos c17 h
      refine lv_iconst (v := 1) hx hb dX5_seen_47 (by decide) ?_
      refine lv_goto (tgt := 52) hx hb dX5_seen_48 (by decide) ?_
      obtain rfl := q_inj h
      exact KJ8 _ _ hP hD hS
    · have h := q_neg c17 h
      refine lv_iload hx hb dX5_seen_30 (lv_at hl 4 rfl) ?_
      refine lv_iconst (v := 0) hx hb dX5_seen_32 (by decide) ?_
      refine lv_ldc (v := 10000000) hx hb hown hw1 dX5_seen_33 ?_
      obtain ⟨o18, e19, h⟩ := q_bind h
      refine q_ci (va_runS (As := [.int x4, .int 0, .int 10000000]) (rest := [.ref (aM 0)]) ⟨hx, hb, hml, hown, hts⟩ (wX5_in l E  x4 0 10000000 o18 e19 _) (va_cwS 3 hts gX5_seen_X5_in rfl rfl rfl (by decide +kernel) ⟨Nat.le_of_ble_eq_true rfl, Nat.le_of_ble_eq_true rfl⟩) (q_preS hK hP hD q_nil) rfl rfl hl.1 rfl (lv_room (Nat.le_of_ble_eq_true rfl)) dX5_seen_35 ⟨Nat.zero_le _, Nat.zero_le _⟩) hP hD hS hA q_nil q_nil.symm (fun H locs hP hD hS => ?_)
      refine lv_if_eq (tgt := 47) hx hb dX5_seen_38 (by decide) (fun c20 => ?_) (fun c20 => ?_)
      · have h := q_pos c20 h
        refine lv_iconst (v := 1) hx hb dX5_seen_47 (by decide) ?_
        refine lv_goto (tgt := 52) hx hb dX5_seen_48 (by decide) ?_
        obtain rfl := q_inj h
        exact KJ8 _ _ hP hD hS
      · have h := q_neg c20 h
        refine lv_iload hx hb dX5_seen_41 (lv_at hl 4 rfl) ?_
        refine lv_iload_n hx hb dX5_seen_43 rfl (lv_at hl 3 rfl) ?_
        refine lv_icmp_gt (tgt := 51) hx hb dX5_seen_44 (by decide) (fun c21 => ?_) (fun c21 => ?_)
        · have h := q_pos c21 h
          refine lv_iconst (v := 0) hx hb dX5_seen_51 (by decide) ?_
          obtain rfl := q_inj h
          exact KJ8 _ _ hP hD hS
        · have h := q_neg c21 h
          refine lv_iconst (v := 1) hx hb dX5_seen_47 (by decide) ?_
          refine lv_goto (tgt := 52) hx hb dX5_seen_48 (by decide) ?_
          obtain rfl := q_inj h
          exact KJ8 _ _ hP hD hS
def mX5_unsee (vM : SM) (x1 : Int32) (x2 : Int32) : Option (Int32 × SM) := (mX5_noStep (M_thrown_s vM 0) x1 x2).bind fun o1 => (mX5_throwsIf (M_thrown_s vM 0) o1 1).bind fun o3 => if o3.1 = 0 then (ck ((5 * x1) + x2) 300 (ck ((5 * x1) + x2) 300 (ckz ((M_isSeen o3.2) (Int32.toNatClampNeg ((5 * x1) + x2))) (some (((M_isSeen o3.2) (Int32.toNatClampNeg ((5 * x1) + x2))), (M_isSeen_s o3.2 (upd (M_isSeen o3.2) (Int32.toNatClampNeg ((5 * x1) + x2)) (vp_nar .boolean 0)))))))) else (some (0, o3.2))
def rmX5_unsee : Room := { frames := 3, cells := 0, slots := 0, locals := 65 }
set_option maxHeartbeats 8000000 in
set_option maxRecDepth 100000 in
theorem wX5_unsee (l : Launch) (E : qE) (aM : Nat → Nat) (vM : SM) (x1 : Int32) (x2 : Int32) (o : Int32 × SM) (h : mX5_unsee vM x1 x2 = some o) : MI l E yX5_unsee wsX5_unsee rmX5_unsee [.ref (aM 0), .int x1, .int x2] (WM E aM vM) (WM E aM o.2) o.1 := by
  refine q_startZ (cc := cX5_unsee) (maxL := 4) (by decide) rfl (Nat.le_of_ble_eq_true rfl) ?_
  intro pr e s m args below meth c A Q hx hb hml hown hts hK hRt hP hD hA hS ls hl
  have hl : lv_has ls 4 [(0, .ref (aM 0)), (1, .int x1), (2, .int x2)] := hl
  have hinX5 : ∀ w ∈ wsX50, w ∈ wsX5_unsee := by decide +kernel
  have hw0 := hts (.fieldLink RX5 59 "QueueReaderModel" "thrown" "I") (by decide +kernel)
  have hw1 := hts (.fieldLink RX5 34 "QueueReaderModel" "isSeen" "[Z") (by decide +kernel)
  unfold mX5_unsee at h
  refine lv_aload_n hx hb dX5_unsee_0 rfl (lv_at hl 0 rfl) ?_
  refine lv_iconst (v := 0) hx hb dX5_unsee_1 (by decide) ?_
  refine va_put (D := E.1) (ci := 5) (v := .int 0) (ty := .int) (C := RX5) (T := TX5) (N := 19) hx hb hts hinX5 tyX5 tyX5_ok nmX5 hown hK.1 hP hD hS 0 rfl rfl 0 (by decide) hw0 (fun _ h9 => h9) rfl (by decide +kernel) rfl rfl (Nat.le_of_ble_eq_true rfl) dX5_unsee_2 (fun H locs hP hD hS => ?_)
  have hP : va_P E.1 vwCl (WM E aM (M_thrown_s vM 0)) H := hP
  have hD : va_D A (WM E aM (M_thrown_s vM 0)) := hD
  refine lv_aload_n hx hb dX5_unsee_5 rfl (lv_at hl 0 rfl) ?_
  refine lv_aload_n hx hb dX5_unsee_6 rfl (lv_at hl 0 rfl) ?_
  refine lv_iload_n hx hb dX5_unsee_7 rfl (lv_at hl 1 rfl) ?_
  refine lv_iload_n hx hb dX5_unsee_8 rfl (lv_at hl 2 rfl) ?_
  obtain ⟨o1, e2, h⟩ := q_bind h
  refine q_ci (va_runV (As := [.int x1, .int x2]) (rest := [.ref (aM 0)]) ⟨hx, hb, hml, hown, hts⟩ (wX5_noStep l E aM (M_thrown_s vM 0) x1 x2 o1 e2 _) (cwV 2 hts gX5_unsee_X5_noStep rfl rfl rfl (by decide +kernel) ⟨Nat.le_of_ble_eq_true rfl, Nat.le_of_ble_eq_true rfl⟩) (q_preV hK hP hD q_idl 5 0 rfl rfl) rfl rfl hl.1 rfl (lv_room (Nat.le_of_ble_eq_true rfl)) dX5_unsee_9 ⟨Nat.zero_le _, Nat.zero_le _⟩) hP hD hS hA q_idl q_idr (fun H locs hP hD hS => ?_)
  refine lv_iconst (v := 1) hx hb dX5_unsee_12 (by decide) ?_
  obtain ⟨o3, e4, h⟩ := q_bind h
  refine q_ci (va_runV (As := [.int o1, .int 1]) (rest := []) ⟨hx, hb, hml, hown, hts⟩ (wX5_throwsIf l E aM (M_thrown_s vM 0) o1 1 o3 e4 _) (cwV 2 hts gX5_unsee_X5_throwsIf rfl rfl rfl (by decide +kernel) ⟨Nat.le_of_ble_eq_true rfl, Nat.le_of_ble_eq_true rfl⟩) (q_preV hK hP hD q_idl 5 0 rfl rfl) rfl rfl hl.1 rfl (lv_room (Nat.le_of_ble_eq_true rfl)) dX5_unsee_13 ⟨Nat.zero_le _, Nat.zero_le _⟩) hP hD hS hA q_idl q_idr (fun H locs hP hD hS => ?_)
  refine lv_if_eq (tgt := 21) hx hb dX5_unsee_16 (by decide) (fun c5 => ?_) (fun c5 => ?_)
  · have h := q_pos c5 h
    refine lv_aload_n hx hb dX5_unsee_21 rfl (lv_at hl 0 rfl) ?_
    refine va_get (D := E.1) (ci := 5) (v := .ref (aM 9)) (C := RX5) (T := TX5) (N := 19) hx hb hts hinX5 hown hK.1 hP 0 rfl rfl 11 (by decide) hw1 (fun _ h9 => h9) rfl dX5_unsee_22 ?_
    refine lv_iconst (v := 5) hx hb dX5_unsee_25 (by decide) ?_
    refine lv_iload_n hx hb dX5_unsee_26 rfl (lv_at hl 1 rfl) ?_
    refine lv_imul hx hb dX5_unsee_27 ?_
    refine lv_iload_n hx hb dX5_unsee_28 rfl (lv_at hl 2 rfl) ?_
    refine lv_iadd hx hb dX5_unsee_29 ?_
    obtain ⟨i6, h⟩ := q_ck h
    refine va_zald (f := (M_isSeen o3.2)) hx hb hK.1 hP 9 2 rfl rfl i6 dX5_unsee_30 ?_
    refine lv_istore_n (lv' := [(3, .int ((M_isSeen o3.2) (Int32.toNatClampNeg ((5 * x1) + x2)))), (0, .ref (aM 0)), (1, .int x1), (2, .int x2)]) hx hb dX5_unsee_31 rfl hl (by decide) rfl (fun ls hl => ?_)
    refine lv_aload_n hx hb dX5_unsee_32 rfl (lv_at hl 1 rfl) ?_
    refine va_get (D := E.1) (ci := 5) (v := .ref (aM 9)) (C := RX5) (T := TX5) (N := 19) hx hb hts hinX5 hown hK.1 hP 0 rfl rfl 11 (by decide) hw1 (fun _ h9 => h9) rfl dX5_unsee_33 ?_
    refine lv_iconst (v := 5) hx hb dX5_unsee_36 (by decide) ?_
    refine lv_iload_n hx hb dX5_unsee_37 rfl (lv_at hl 2 rfl) ?_
    refine lv_imul hx hb dX5_unsee_38 ?_
    refine lv_iload_n hx hb dX5_unsee_39 rfl (lv_at hl 3 rfl) ?_
    refine lv_iadd hx hb dX5_unsee_40 ?_
    refine lv_iconst (v := 0) hx hb dX5_unsee_41 (by decide) ?_
    obtain ⟨i7, h⟩ := q_ck h
    refine va_zast (f := (M_isSeen o3.2)) hx hb hK.1 hP hD hS 9 2 rfl rfl i7 dX5_unsee_42 (fun H locs hP hD hS => ?_)
    have hP : va_P E.1 vwCl (WM E aM (M_isSeen_s o3.2 (upd (M_isSeen o3.2) (Int32.toNatClampNeg ((5 * x1) + x2)) (vp_nar .boolean 0)))) H := hP
    have hD : va_D A (WM E aM (M_isSeen_s o3.2 (upd (M_isSeen o3.2) (Int32.toNatClampNeg ((5 * x1) + x2)) (vp_nar .boolean 0)))) := hD
    refine lv_iload_n hx hb dX5_unsee_43 rfl (lv_at hl 0 rfl) ?_
    obtain ⟨hz, h⟩ := q_ckz h
    obtain rfl := q_inj h
    exact hRt 44 _ _ _ dX5_unsee_44 hz hP hD hS
  · have h := q_neg c5 h
    refine lv_iconst (v := 0) hx hb dX5_unsee_19 (by decide) ?_
    obtain rfl := q_inj h
    exact hRt 20 _ _ _ dX5_unsee_20 q_n0 hP hD hS
