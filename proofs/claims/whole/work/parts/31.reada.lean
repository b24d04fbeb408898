def mX4_needWithin  (x0 : Int32) (x1 : Int32) (x2 : Int32) : Option (Sum String (Unit)) := if x0 < x1 then (some (Sum.inl "java/lang/IllegalArgumentException")) else (if x0 ≤ x2 then (Option.map (fun z => Sum.inr z) (some ())) else (some (Sum.inl "java/lang/IllegalArgumentException")))
def rmX4_needWithin : Room := { frames := 0, cells := 0, slots := 0, locals := 0 }
set_option maxHeartbeats 8000000 in
set_option maxRecDepth 100000 in
theorem wX4_needWithin (l : Launch) (E : qE)   (x0 : Int32) (x1 : Int32) (x2 : Int32) (o : Unit) (h : mX4_needWithin x0 x1 x2 = some (Sum.inr o)) : MV l E yX4_needWithin wsX4_needWithin rmX4_needWithin [.int x0, .int x1, .int x2] ([]) ([]) := by
  refine q_startV (cc := cX4_needWithin) (maxL := 3) (by decide) rfl (Nat.le_of_ble_eq_true rfl) ?_
  intro pr e s m args below meth c A Q hx hb hml hown hts hK hRt hP hD hA hS ls hl
  have hl : lv_has ls 3 [(0, .int x0), (1, .int x1), (2, .int x2)] := hl
  unfold mX4_needWithin at h
  refine lv_iload_n hx hb dX4_needWithin_0 rfl (lv_at hl 0 rfl) ?_
  refine lv_iload_n hx hb dX4_needWithin_1 rfl (lv_at hl 1 rfl) ?_
  refine lv_icmp_lt (tgt := 10) hx hb dX4_needWithin_2 (by decide) (fun c1 => ?_) (fun c1 => ?_)
  · have h := q_pos c1 h
    cases h
  · have h := q_neg c1 h
    refine lv_iload_n hx hb dX4_needWithin_5 rfl (lv_at hl 0 rfl) ?_
    refine lv_iload_n hx hb dX4_needWithin_6 rfl (lv_at hl 2 rfl) ?_
    refine lv_icmp_le (tgt := 20) hx hb dX4_needWithin_7 (by decide) (fun c2 => ?_) (fun c2 => ?_)
    · have h := q_pos c2 h
      have h := q_mr h
      obtain rfl := q_inj h
      exact hRt 20 _ _ _ dX4_needWithin_20 hP hD hS
    · have h := q_neg c2 h
      cases h
def rxX4_needWithin : Room := { frames := 6, cells := 1, slots := 6, locals := 90 }
set_option maxHeartbeats 8000000 in
set_option maxRecDepth 100000 in
theorem xX4_needWithin (l : Launch) (hfl : l.stackTraces = false) (E : qE)   (x0 : Int32) (x1 : Int32) (x2 : Int32) (Ex : String) (h : mX4_needWithin x0 x1 x2 = some (Sum.inl Ex)) : XT l E yX4_needWithin wsX4_needWithin rxX4_needWithin [.int x0, .int x1, .int x2] ([]) Ex := by
  refine q_startX (cc := cX4_needWithin) (maxL := 3) hfl (by decide) rfl (Nat.le_of_ble_eq_true rfl) (Nat.le_of_ble_eq_true rfl) (Nat.le_of_ble_eq_true rfl) (Nat.le_of_ble_eq_true rfl) (Nat.le_of_ble_eq_true rfl) ?_
  intro pr e s m args below meth c A Q hx hb hml hown hts hK hC hT hZ hRp hTh hTn hP hD hA hS ls hl
  have hl : lv_has ls 3 [(0, .int x0), (1, .int x1), (2, .int x2)] := hl
  have hw0 := hts (.classLink RX4 98 "java/lang/IllegalArgumentException") (by decide +kernel)
  have hw1 := hts (.initialized "java/lang/IllegalArgumentException") (by decide +kernel)
  unfold mX4_needWithin at h
  refine lv_iload_n hx hb dX4_needWithin_0 rfl (lv_at hl 0 rfl) ?_
  refine lv_iload_n hx hb dX4_needWithin_1 rfl (lv_at hl 1 rfl) ?_
  refine lv_icmp_lt (tgt := 10) hx hb dX4_needWithin_2 (by decide) (fun c1 => ?_) (fun c1 => ?_)
  · have h := q_pos c1 h
    obtain rfl := q_injl h
    have hg1 : ∀ w ∈ (vx_atS RX4 102 "java/lang/IllegalArgumentException" qNm).filter goodWord, w ∈ wsX4_needWithin := by decide +kernel
    have hat := vx_hat (L := (vx_atS RX4 102 "java/lang/IllegalArgumentException" qNm)) (B := [.castable "java/lang/IllegalArgumentException" "java/lang/IllegalArgumentException", .declares (Bundle.initS "java/lang/RuntimeException"), .declares (Bundle.initS "java/lang/Exception"), .declares (Bundle.initS Bundle.tN)]) (fun w hw => hts w (hg1 w hw)) (by decide +kernel) (vx_c (va_Nw.use rfl hC.1) (vx_c (va_Nw.use rfl hC.2.2.2.2.1) (vx_c (va_Nw.use rfl hC.2.2.2.2.2.1) (vx_c (va_Nw.use rfl hC.2.2.2.2.2.2) vx_n))))
    exact hTh 98 223 102 "a number is none" 10 _ _ _ _ (by decide +kernel) hw0 hw1 hT.2.2.2.2.2.2.1 hat (by decide +kernel) dX4_needWithin_10 dX4_needWithin_13 dX4_needWithin_14 dX4_needWithin_16 dX4_needWithin_19 hl.1 (Nat.le_of_ble_eq_true rfl) hP hD hS
  · have h := q_neg c1 h
    refine lv_iload_n hx hb dX4_needWithin_5 rfl (lv_at hl 0 rfl) ?_
    refine lv_iload_n hx hb dX4_needWithin_6 rfl (lv_at hl 2 rfl) ?_
    refine lv_icmp_le (tgt := 20) hx hb dX4_needWithin_7 (by decide) (fun c2 => ?_) (fun c2 => ?_)
    · have h := q_pos c2 h
      exact (q_ml h).elim
    · have h := q_neg c2 h
      obtain rfl := q_injl h
      have hg1 : ∀ w ∈ (vx_atS RX4 102 "java/lang/IllegalArgumentException" qNm).filter goodWord, w ∈ wsX4_needWithin := by decide +kernel
      have hat := vx_hat (L := (vx_atS RX4 102 "java/lang/IllegalArgumentException" qNm)) (B := [.castable "java/lang/IllegalArgumentException" "java/lang/IllegalArgumentException", .declares (Bundle.initS "java/lang/RuntimeException"), .declares (Bundle.initS "java/lang/Exception"), .declares (Bundle.initS Bundle.tN)]) (fun w hw => hts w (hg1 w hw)) (by decide +kernel) (vx_c (va_Nw.use rfl hC.1) (vx_c (va_Nw.use rfl hC.2.2.2.2.1) (vx_c (va_Nw.use rfl hC.2.2.2.2.2.1) (vx_c (va_Nw.use rfl hC.2.2.2.2.2.2) vx_n))))
      exact hTh 98 223 102 "a number is none" 10 _ _ _ _ (by decide +kernel) hw0 hw1 hT.2.2.2.2.2.2.1 hat (by decide +kernel) dX4_needWithin_10 dX4_needWithin_13 dX4_needWithin_14 dX4_needWithin_16 dX4_needWithin_19 hl.1 (Nat.le_of_ble_eq_true rfl) hP hD hS
def mX4_needPlaceNumbers  (x0 : Int32) (x1 : Int32) (x2 : Int32) : Option (Sum String (Unit)) := (mX4_needWithin x0 1 8).bind fun o1 => qX o1 fun vo1 => (mX4_needWithin x1 0 3).bind fun o3 => qX o3 fun vo3 => (mX4_needWithin x2 0 1000).bind fun o5 => qX o5 fun vo5 => Option.map (fun z => Sum.inr z) (some ())
def rmX4_needPlaceNumbers : Room := { frames := 1, cells := 0, slots := 0, locals := 22 }
set_option maxHeartbeats 8000000 in
set_option maxRecDepth 100000 in
theorem wX4_needPlaceNumbers (l : Launch) (E : qE)   (x0 : Int32) (x1 : Int32) (x2 : Int32) (o : Unit) (h : mX4_needPlaceNumbers x0 x1 x2 = some (Sum.inr o)) : MV l E yX4_needPlaceNumbers wsX4_needPlaceNumbers rmX4_needPlaceNumbers [.int x0, .int x1, .int x2] ([]) ([]) := by
  refine q_startV (cc := cX4_needPlaceNumbers) (maxL := 3) (by decide) rfl (Nat.le_of_ble_eq_true rfl) ?_
  intro pr e s m args below meth c A Q hx hb hml hown hts hK hRt hP hD hA hS ls hl
  have hl : lv_has ls 3 [(0, .int x0), (1, .int x1), (2, .int x2)] := hl
  unfold mX4_needPlaceNumbers at h
  refine lv_iload_n hx hb dX4_needPlaceNumbers_0 rfl (lv_at hl 0 rfl) ?_
  refine lv_iconst (v := 1) hx hb dX4_needPlaceNumbers_1 (by decide) ?_
  refine lv_bipush (v := 8) hx hb dX4_needPlaceNumbers_2 (by decide) ?_
  obtain ⟨o1, e2, h⟩ := q_bind h
  rcases o1 with Eo1 | vo1
  · cases h
  have h := qX_r h
  refine q_cv (va_runS (As := [.int x0, .int 1, .int 8]) (rest := []) ⟨hx, hb, hml, hown, hts⟩ (wX4_needWithin l E  x0 1 8 vo1 e2 _) (va_cwS 3 hts gX4_needPlaceNumbers_X4_needWithin rfl rfl rfl (by decide +kernel) ⟨Nat.le_of_ble_eq_true rfl, Nat.le_of_ble_eq_true rfl⟩) (q_preS hK hP hD q_nil) rfl rfl hl.1 rfl (lv_room (Nat.le_of_ble_eq_true rfl)) dX4_needPlaceNumbers_4 ⟨Nat.zero_le _, Nat.zero_le _⟩) hP hD hS hA q_nil q_nil.symm (fun H locs hP hD hS => ?_)
  refine lv_iload_n hx hb dX4_needPlaceNumbers_7 rfl (lv_at hl 1 rfl) ?_
  refine lv_iconst (v := 0) hx hb dX4_needPlaceNumbers_8 (by decide) ?_
  refine lv_iconst (v := 3) hx hb dX4_needPlaceNumbers_9 (by decide) ?_
  obtain ⟨o3, e4, h⟩ := q_bind h
  rcases o3 with Eo3 | vo3
  · cases h
  have h := qX_r h
  refine q_cv (va_runS (As := [.int x1, .int 0, .int 3]) (rest := []) ⟨hx, hb, hml, hown, hts⟩ (wX4_needWithin l E  x1 0 3 vo3 e4 _) (va_cwS 3 hts gX4_needPlaceNumbers_X4_needWithin rfl rfl rfl (by decide +kernel) ⟨Nat.le_of_ble_eq_true rfl, Nat.le_of_ble_eq_true rfl⟩) (q_preS hK hP hD q_nil) rfl rfl hl.1 rfl (lv_room (Nat.le_of_ble_eq_true rfl)) dX4_needPlaceNumbers_10 ⟨Nat.zero_le _, Nat.zero_le _⟩) hP hD hS hA q_nil q_nil.symm (fun H locs hP hD hS => ?_)
  refine lv_iload_n hx hb dX4_needPlaceNumbers_13 rfl (lv_at hl 2 rfl) ?_
  refine lv_iconst (v := 0) hx hb dX4_needPlaceNumbers_14 (by decide) ?_
  refine lv_sipush (v := 1000) hx hb dX4_needPlaceNumbers_15 (by decide) ?_
  obtain ⟨o5, e6, h⟩ := q_bind h
  rcases o5 with Eo5 | vo5
  · cases h
  have h := qX_r h
  refine q_cv (va_runS (As := [.int x2, .int 0, .int 1000]) (rest := []) ⟨hx, hb, hml, hown, hts⟩ (wX4_needWithin l E  x2 0 1000 vo5 e6 _) (va_cwS 3 hts gX4_needPlaceNumbers_X4_needWithin rfl rfl rfl (by decide +kernel) ⟨Nat.le_of_ble_eq_true rfl, Nat.le_of_ble_eq_true rfl⟩) (q_preS hK hP hD q_nil) rfl rfl hl.1 rfl (lv_room (Nat.le_of_ble_eq_true rfl)) dX4_needPlaceNumbers_18 ⟨Nat.zero_le _, Nat.zero_le _⟩) hP hD hS hA q_nil q_nil.symm (fun H locs hP hD hS => ?_)
  have h := q_mr h
  obtain rfl := q_inj h
  exact hRt 21 _ _ _ dX4_needPlaceNumbers_21 hP hD hS
def rxX4_needPlaceNumbers : Room := { frames := 7, cells := 1, slots := 6, locals := 112 }
set_option maxHeartbeats 8000000 in
set_option maxRecDepth 100000 in
theorem xX4_needPlaceNumbers (l : Launch) (hfl : l.stackTraces = false) (E : qE)   (x0 : Int32) (x1 : Int32) (x2 : Int32) (Ex : String) (h : mX4_needPlaceNumbers x0 x1 x2 = some (Sum.inl Ex)) : XT l E yX4_needPlaceNumbers wsX4_needPlaceNumbers rxX4_needPlaceNumbers [.int x0, .int x1, .int x2] ([]) Ex := by
  refine q_startX (cc := cX4_needPlaceNumbers) (maxL := 3) hfl (by decide) rfl (Nat.le_of_ble_eq_true rfl) (Nat.le_of_ble_eq_true rfl) (Nat.le_of_ble_eq_true rfl) (Nat.le_of_ble_eq_true rfl) (Nat.le_of_ble_eq_true rfl) ?_
  intro pr e s m args below meth c A Q hx hb hml hown hts hK hC hT hZ hRp hTh hTn hP hD hA hS ls hl
  have hl : lv_has ls 3 [(0, .int x0), (1, .int x1), (2, .int x2)] := hl
  unfold mX4_needPlaceNumbers at h
  refine lv_iload_n hx hb dX4_needPlaceNumbers_0 rfl (lv_at hl 0 rfl) ?_
  refine lv_iconst (v := 1) hx hb dX4_needPlaceNumbers_1 (by decide) ?_
  refine lv_bipush (v := 8) hx hb dX4_needPlaceNumbers_2 (by decide) ?_
  obtain ⟨o1, e2, h⟩ := q_bind h
  rcases o1 with Eo1 | vo1
  · obtain rfl := q_injl h
    exact qx_c (vx_runS (As := [.int x0, .int 1, .int 8]) (rest := []) ⟨hx, hb, hml, hown, hts⟩ (xX4_needWithin l hfl E  x0 1 8 _ e2 _) (va_cwS 3 hts gX4_needPlaceNumbers_X4_needWithin rfl rfl rfl (by decide +kernel) ⟨Nat.le_of_ble_eq_true rfl, Nat.le_of_ble_eq_true rfl⟩) (qx_preS hK hC hT hZ hS hA hP hD q_nil) rfl rfl hl.1 rfl (lv_room (Nat.le_of_ble_eq_true rfl)) dX4_needPlaceNumbers_4 ⟨Nat.le_of_ble_eq_true rfl, Nat.le_of_ble_eq_true rfl⟩) hP hD hS hA q_nil (fun H1 locs1 q9 ce a1 a2 a3 a4 a5 a6 => hRp _ _ _ _ _ _ _ a1 a2 a3 a4 a5 a6)
  have h := qX_r h
  refine q_cv (va_runS (As := [.int x0, .int 1, .int 8]) (rest := []) ⟨hx, hb, hml, hown, hts⟩ (wX4_needWithin l E  x0 1 8 vo1 e2 _) (va_cwS 3 hts gX4_needPlaceNumbers_X4_needWithin rfl rfl rfl (by decide +kernel) ⟨Nat.le_of_ble_eq_true rfl, Nat.le_of_ble_eq_true rfl⟩) (q_preS hK hP hD q_nil) rfl rfl hl.1 rfl (lv_room (Nat.le_of_ble_eq_true rfl)) dX4_needPlaceNumbers_4 ⟨Nat.zero_le _, Nat.zero_le _⟩) hP hD hS hA q_nil q_nil.symm (fun H locs hP hD hS => ?_)
  refine lv_iload_n hx hb dX4_needPlaceNumbers_7 rfl (lv_at hl 1 rfl) ?_
  refine lv_iconst (v := 0) hx hb dX4_needPlaceNumbers_8 (by decide) ?_
  refine lv_iconst (v := 3) hx hb dX4_needPlaceNumbers_9 (by decide) ?_
  obtain ⟨o3, e4, h⟩ := q_bind h
  rcases o3 with Eo3 | vo3
  · obtain rfl := q_injl h
    exact qx_c (vx_runS (As := [.int x1, .int 0, .int 3]) (rest := []) ⟨hx, hb, hml, hown, hts⟩ (xX4_needWithin l hfl E  x1 0 3 _ e4 _) (va_cwS 3 hts gX4_needPlaceNumbers_X4_needWithin rfl rfl rfl (by decide +kernel) ⟨Nat.le_of_ble_eq_true rfl, Nat.le_of_ble_eq_true rfl⟩) (qx_preS hK hC hT hZ hS hA hP hD q_nil) rfl rfl hl.1 rfl (lv_room (Nat.le_of_ble_eq_true rfl)) dX4_needPlaceNumbers_10 ⟨Nat.le_of_ble_eq_true rfl, Nat.le_of_ble_eq_true rfl⟩) hP hD hS hA q_nil (fun H1 locs1 q9 ce a1 a2 a3 a4 a5 a6 => hRp _ _ _ _ _ _ _ a1 a2 a3 a4 a5 a6)
  have h := qX_r h
  refine q_cv (va_runS (As := [.int x1, .int 0, .int 3]) (rest := []) ⟨hx, hb, hml, hown, hts⟩ (wX4_needWithin l E  x1 0 3 vo3 e4 _) (va_cwS 3 hts gX4_needPlaceNumbers_X4_needWithin rfl rfl rfl (by decide +kernel) ⟨Nat.le_of_ble_eq_true rfl, Nat.le_of_ble_eq_true rfl⟩) (q_preS hK hP hD q_nil) rfl rfl hl.1 rfl (lv_room (Nat.le_of_ble_eq_true rfl)) dX4_needPlaceNumbers_10 ⟨Nat.zero_le _, Nat.zero_le _⟩) hP hD hS hA q_nil q_nil.symm (fun H locs hP hD hS => ?_)
  refine lv_iload_n hx hb dX4_needPlaceNumbers_13 rfl (lv_at hl 2 rfl) ?_
  refine lv_iconst (v := 0) hx hb dX4_needPlaceNumbers_14 (by decide) ?_
  refine lv_sipush (v := 1000) hx hb dX4_needPlaceNumbers_15 (by decide) ?_
  obtain ⟨o5, e6, h⟩ := q_bind h
  rcases o5 with Eo5 | vo5
  · obtain rfl := q_injl h
    exact qx_c (vx_runS (As := [.int x2, .int 0, .int 1000]) (rest := []) ⟨hx, hb, hml, hown, hts⟩ (xX4_needWithin l hfl E  x2 0 1000 _ e6 _) (va_cwS 3 hts gX4_needPlaceNumbers_X4_needWithin rfl rfl rfl (by decide +kernel) ⟨Nat.le_of_ble_eq_true rfl, Nat.le_of_ble_eq_true rfl⟩) (qx_preS hK hC hT hZ hS hA hP hD q_nil) rfl rfl hl.1 rfl (lv_room (Nat.le_of_ble_eq_true rfl)) dX4_needPlaceNumbers_18 ⟨Nat.le_of_ble_eq_true rfl, Nat.le_of_ble_eq_true rfl⟩) hP hD hS hA q_nil (fun H1 locs1 q9 ce a1 a2 a3 a4 a5 a6 => hRp _ _ _ _ _ _ _ a1 a2 a3 a4 a5 a6)
  have h := qX_r h
  refine q_cv (va_runS (As := [.int x2, .int 0, .int 1000]) (rest := []) ⟨hx, hb, hml, hown, hts⟩ (wX4_needWithin l E  x2 0 1000 vo5 e6 _) (va_cwS 3 hts gX4_needPlaceNumbers_X4_needWithin rfl rfl rfl (by decide +kernel) ⟨Nat.le_of_ble_eq_true rfl, Nat.le_of_ble_eq_true rfl⟩) (q_preS hK hP hD q_nil) rfl rfl hl.1 rfl (lv_room (Nat.le_of_ble_eq_true rfl)) dX4_needPlaceNumbers_18 ⟨Nat.zero_le _, Nat.zero_le _⟩) hP hD hS hA q_nil q_nil.symm (fun H locs hP hD hS => ?_)
  exact (q_ml h).elim
def mX4_needWhat  (x0 : Int32) (x1 : Int32) : Option (Sum String (Unit)) := if x0 < 0 then (some (Sum.inl "java/util/NoSuchElementException")) else (if x0 ≤ x1 then (Option.map (fun z => Sum.inr z) (some ())) else (some (Sum.inl "java/util/NoSuchElementException")))
def rmX4_needWhat : Room := { frames := 0, cells := 0, slots := 0, locals := 0 }
set_option maxHeartbeats 8000000 in
set_option maxRecDepth 100000 in
theorem wX4_needWhat (l : Launch) (E : qE)   (x0 : Int32) (x1 : Int32) (o : Unit) (h : mX4_needWhat x0 x1 = some (Sum.inr o)) : MV l E yX4_needWhat wsX4_needWhat rmX4_needWhat [.int x0, .int x1] ([]) ([]) := by
  refine q_startV (cc := cX4_needWhat) (maxL := 2) (by decide) rfl (Nat.le_of_ble_eq_true rfl) ?_
  intro pr e s m args below meth c A Q hx hb hml hown hts hK hRt hP hD hA hS ls hl
  have hl : lv_has ls 2 [(0, .int x0), (1, .int x1)] := hl
  unfold mX4_needWhat at h
  refine lv_iload_n hx hb dX4_needWhat_0 rfl (lv_at hl 0 rfl) ?_
  refine lv_if_lt (tgt := 9) hx hb dX4_needWhat_1 (by decide) (fun c1 => ?_) (fun c1 => ?_)
  · have h := q_pos c1 h
    cases h
  · have h := q_neg c1 h
    refine lv_iload_n hx hb dX4_needWhat_4 rfl (lv_at hl 0 rfl) ?_
    refine lv_iload_n hx hb dX4_needWhat_5 rfl (lv_at hl 1 rfl) ?_
    refine lv_icmp_le (tgt := 19) hx hb dX4_needWhat_6 (by decide) (fun c2 => ?_) (fun c2 => ?_)
    · have h := q_pos c2 h
      have h := q_mr h
      obtain rfl := q_inj h
      exact hRt 19 _ _ _ dX4_needWhat_19 hP hD hS
    · have h := q_neg c2 h
      cases h
def rxX4_needWhat : Room := { frames := 6, cells := 1, slots := 6, locals := 90 }
set_option maxHeartbeats 8000000 in
set_option maxRecDepth 100000 in
theorem xX4_needWhat (l : Launch) (hfl : l.stackTraces = false) (E : qE)   (x0 : Int32) (x1 : Int32) (Ex : String) (h : mX4_needWhat x0 x1 = some (Sum.inl Ex)) : XT l E yX4_needWhat wsX4_needWhat rxX4_needWhat [.int x0, .int x1] ([]) Ex := by
  refine q_startX (cc := cX4_needWhat) (maxL := 2) hfl (by decide) rfl (Nat.le_of_ble_eq_true rfl) (Nat.le_of_ble_eq_true rfl) (Nat.le_of_ble_eq_true rfl) (Nat.le_of_ble_eq_true rfl) (Nat.le_of_ble_eq_true rfl) ?_
  intro pr e s m args below meth c A Q hx hb hml hown hts hK hC hT hZ hRp hTh hTn hP hD hA hS ls hl
  have hl : lv_has ls 2 [(0, .int x0), (1, .int x1)] := hl
  have hw0 := hts (.classLink RX4 225 "java/util/NoSuchElementException") (by decide +kernel)
  have hw1 := hts (.initialized "java/util/NoSuchElementException") (by decide +kernel)
  unfold mX4_needWhat at h
  refine lv_iload_n hx hb dX4_needWhat_0 rfl (lv_at hl 0 rfl) ?_
  refine lv_if_lt (tgt := 9) hx hb dX4_needWhat_1 (by decide) (fun c1 => ?_) (fun c1 => ?_)
  · have h := q_pos c1 h
    obtain rfl := q_injl h
    have hg1 : ∀ w ∈ (vx_atN RX4 229).filter goodWord, w ∈ wsX4_needWhat := by decide +kernel
    have hat := vx_hat (L := (vx_atN RX4 229)) (B := [.castable "java/util/NoSuchElementException" "java/util/NoSuchElementException", .declares (Bundle.initS "java/lang/RuntimeException"), .declares (Bundle.initS "java/lang/Exception"), .declares (Bundle.initS Bundle.tN)]) (fun w hw => hts w (hg1 w hw)) (by decide +kernel) (vx_c (va_Nw.use rfl hC.2.2.2.1) (vx_c (va_Nw.use rfl hC.2.2.2.2.1) (vx_c (va_Nw.use rfl hC.2.2.2.2.2.1) (vx_c (va_Nw.use rfl hC.2.2.2.2.2.2) vx_n))))
    exact hTn 225 227 229 "no such what" 9 _ _ _ _ rfl hw0 hw1 hT.2.2.2.2.2.2.2 hat (by decide +kernel) dX4_needWhat_9 dX4_needWhat_12 dX4_needWhat_13 dX4_needWhat_15 dX4_needWhat_18 hl.1 (Nat.le_of_ble_eq_true rfl) hP hD hS
  · have h := q_neg c1 h
    refine lv_iload_n hx hb dX4_needWhat_4 rfl (lv_at hl 0 rfl) ?_
    refine lv_iload_n hx hb dX4_needWhat_5 rfl (lv_at hl 1 rfl) ?_
    refine lv_icmp_le (tgt := 19) hx hb dX4_needWhat_6 (by decide) (fun c2 => ?_) (fun c2 => ?_)
    · have h := q_pos c2 h
      exact (q_ml h).elim
    · have h := q_neg c2 h
      obtain rfl := q_injl h
      have hg1 : ∀ w ∈ (vx_atN RX4 229).filter goodWord, w ∈ wsX4_needWhat := by decide +kernel
      have hat := vx_hat (L := (vx_atN RX4 229)) (B := [.castable "java/util/NoSuchElementException" "java/util/NoSuchElementException", .declares (Bundle.initS "java/lang/RuntimeException"), .declares (Bundle.initS "java/lang/Exception"), .declares (Bundle.initS Bundle.tN)]) (fun w hw => hts w (hg1 w hw)) (by decide +kernel) (vx_c (va_Nw.use rfl hC.2.2.2.1) (vx_c (va_Nw.use rfl hC.2.2.2.2.1) (vx_c (va_Nw.use rfl hC.2.2.2.2.2.1) (vx_c (va_Nw.use rfl hC.2.2.2.2.2.2) vx_n))))
      exact hTn 225 227 229 "no such what" 9 _ _ _ _ rfl hw0 hw1 hT.2.2.2.2.2.2.2 hat (by decide +kernel) dX4_needWhat_9 dX4_needWhat_12 dX4_needWhat_13 dX4_needWhat_15 dX4_needWhat_18 hl.1 (Nat.le_of_ble_eq_true rfl) hP hD hS
def mX4_needPlace (vQ : Int32) (vN : SN) (x1 : Int32) : Option (Sum String (Unit)) := if x1 < 0 then (some (Sum.inl "java/lang/IndexOutOfBoundsException")) else (if x1 < (N_places vN) then (Option.map (fun z => Sum.inr z) (some ())) else (some (Sum.inl "java/lang/IndexOutOfBoundsException")))
def rmX4_needPlace : Room := { frames := 0, cells := 0, slots := 0, locals := 0 }
set_option maxHeartbeats 8000000 in
set_option maxRecDepth 100000 in
theorem wX4_needPlace (l : Launch) (E : qE) (aQ : Nat) (aN : Nat → Nat) (aT : Nat → Nat) (aF : Nat → Nat) (aP : Nat → Nat) (aR : Nat → Nat) (vQ : Int32) (vN : SN) (x1 : Int32) (o : Unit) (h : mX4_needPlace vQ vN x1 = some (Sum.inr o)) : MV l E yX4_needPlace wsX4_needPlace rmX4_needPlace [.ref aQ, .int x1] (WQ aQ aN aT aF aP aR vQ ++ WN E aN vN) (WQ aQ aN aT aF aP aR vQ ++ WN E aN vN) := by
  refine q_startV (cc := cX4_needPlace) (maxL := 2) (by decide) rfl (Nat.le_of_ble_eq_true rfl) ?_
  intro pr e s m args below meth c A Q hx hb hml hown hts hK hRt hP hD hA hS ls hl
  have hl : lv_has ls 2 [(0, .ref aQ), (1, .int x1)] := hl
  have hinX1 : ∀ w ∈ wsX10, w ∈ wsX4_needPlace := by decide +kernel
  have hinX4 : ∀ w ∈ wsX40, w ∈ wsX4_needPlace := by decide +kernel
  have hw0 := hts (.fieldLink RX4 12 "QueueReader" "net" "LQueueReader$Net;") (by decide +kernel)
  have hw1 := hts (.fieldLink RX4 48 "QueueReader$Net" "places" "I") (by decide +kernel)
  unfold mX4_needPlace at h
  refine lv_iload_n hx hb dX4_needPlace_0 rfl (lv_at hl 1 rfl) ?_
  refine lv_if_lt (tgt := 15) hx hb dX4_needPlace_1 (by decide) (fun c1 => ?_) (fun c1 => ?_)
  · have h := q_pos c1 h
    cases h
  · have h := q_neg c1 h
    refine lv_iload_n hx hb dX4_needPlace_4 rfl (lv_at hl 1 rfl) ?_
    refine lv_aload_n hx hb dX4_needPlace_5 rfl (lv_at hl 0 rfl) ?_
    refine va_get (D := E.1) (ci := 4) (v := .ref (aN 0)) (C := RX4) (T := TX4) (N := 6) hx hb hts hinX4 hown hK.1 hP 0 rfl rfl 0 (by decide) hw0 (fun _ h9 => h9) rfl dX4_needPlace_6 ?_
    refine va_get (D := E.1) (ci := 1) (v := .int (N_places vN)) (C := RX1) (T := TX1) (N := 11) hx hb hts hinX1 hown hK.1 hP 1 rfl rfl 0 (by decide) hw1 (fun _ h9 => h9) rfl dX4_needPlace_9 ?_
    refine lv_icmp_lt (tgt := 25) hx hb dX4_needPlace_12 (by decide) (fun c2 => ?_) (fun c2 => ?_)
    · have h := q_pos c2 h
      have h := q_mr h
      obtain rfl := q_inj h
      exact hRt 25 _ _ _ dX4_needPlace_25 hP hD hS
    · have h := q_neg c2 h
      cases h
def rxX4_needPlace : Room := { frames := 6, cells := 1, slots := 6, locals := 90 }
set_option maxHeartbeats 8000000 in
set_option maxRecDepth 100000 in
theorem xX4_needPlace (l : Launch) (hfl : l.stackTraces = false) (E : qE) (aQ : Nat) (aN : Nat → Nat) (aT : Nat → Nat) (aF : Nat → Nat) (aP : Nat → Nat) (aR : Nat → Nat) (vQ : Int32) (vN : SN) (x1 : Int32) (Ex : String) (h : mX4_needPlace vQ vN x1 = some (Sum.inl Ex)) : XT l E yX4_needPlace wsX4_needPlace rxX4_needPlace [.ref aQ, .int x1] (WQ aQ aN aT aF aP aR vQ ++ WN E aN vN) Ex := by
  refine q_startX (cc := cX4_needPlace) (maxL := 2) hfl (by decide) rfl (Nat.le_of_ble_eq_true rfl) (Nat.le_of_ble_eq_true rfl) (Nat.le_of_ble_eq_true rfl) (Nat.le_of_ble_eq_true rfl) (Nat.le_of_ble_eq_true rfl) ?_
  intro pr e s m args below meth c A Q hx hb hml hown hts hK hC hT hZ hRp hTh hTn hP hD hA hS ls hl
  have hl : lv_has ls 2 [(0, .ref aQ), (1, .int x1)] := hl
  have hinX1 : ∀ w ∈ wsX10, w ∈ wsX4_needPlace := by decide +kernel
  have hinX4 : ∀ w ∈ wsX40, w ∈ wsX4_needPlace := by decide +kernel
  have hw0 := hts (.classLink RX4 214 "java/lang/IndexOutOfBoundsException") (by decide +kernel)
  have hw1 := hts (.initialized "java/lang/IndexOutOfBoundsException") (by decide +kernel)
  have hw2 := hts (.fieldLink RX4 12 "QueueReader" "net" "LQueueReader$Net;") (by decide +kernel)
  have hw3 := hts (.fieldLink RX4 48 "QueueReader$Net" "places" "I") (by decide +kernel)
  unfold mX4_needPlace at h
  refine lv_iload_n hx hb dX4_needPlace_0 rfl (lv_at hl 1 rfl) ?_
  refine lv_if_lt (tgt := 15) hx hb dX4_needPlace_1 (by decide) (fun c1 => ?_) (fun c1 => ?_)
  · have h := q_pos c1 h
    obtain rfl := q_injl h
    have hg1 : ∀ w ∈ (vx_atS RX4 218 "java/lang/IndexOutOfBoundsException" qNm).filter goodWord, w ∈ wsX4_needPlace := by decide +kernel
    have hat := vx_hat (L := (vx_atS RX4 218 "java/lang/IndexOutOfBoundsException" qNm)) (B := [.castable "java/lang/IndexOutOfBoundsException" "java/lang/IndexOutOfBoundsException", .declares (Bundle.initS "java/lang/RuntimeException"), .declares (Bundle.initS "java/lang/Exception"), .declares (Bundle.initS Bundle.tN)]) (fun w hw => hts w (hg1 w hw)) (by decide +kernel) (vx_c (va_Nw.use rfl hC.2.2.1) (vx_c (va_Nw.use rfl hC.2.2.2.2.1) (vx_c (va_Nw.use rfl hC.2.2.2.2.2.1) (vx_c (va_Nw.use rfl hC.2.2.2.2.2.2) vx_n))))
    exact hTh 214 216 218 "no such place" 15 _ _ _ _ (by decide +kernel) hw0 hw1 hT.2.2.2.1 hat (by decide +kernel) dX4_needPlace_15 dX4_needPlace_18 dX4_needPlace_19 dX4_needPlace_21 dX4_needPlace_24 hl.1 (Nat.le_of_ble_eq_true rfl) hP hD hS
  · have h := q_neg c1 h
    refine lv_iload_n hx hb dX4_needPlace_4 rfl (lv_at hl 1 rfl) ?_
    refine lv_aload_n hx hb dX4_needPlace_5 rfl (lv_at hl 0 rfl) ?_
    refine va_get (D := E.1) (ci := 4) (v := .ref (aN 0)) (C := RX4) (T := TX4) (N := 6) hx hb hts hinX4 hown hK.1 hP 0 rfl rfl 0 (by decide) hw2 (fun _ h9 => h9) rfl dX4_needPlace_6 ?_
    refine va_get (D := E.1) (ci := 1) (v := .int (N_places vN)) (C := RX1) (T := TX1) (N := 11) hx hb hts hinX1 hown hK.1 hP 1 rfl rfl 0 (by decide) hw3 (fun _ h9 => h9) rfl dX4_needPlace_9 ?_
    refine lv_icmp_lt (tgt := 25) hx hb dX4_needPlace_12 (by decide) (fun c2 => ?_) (fun c2 => ?_)
    · have h := q_pos c2 h
      exact (q_ml h).elim
    · have h := q_neg c2 h
      obtain rfl := q_injl h
      have hg1 : ∀ w ∈ (vx_atS RX4 218 "java/lang/IndexOutOfBoundsException" qNm).filter goodWord, w ∈ wsX4_needPlace := by decide +kernel
      have hat := vx_hat (L := (vx_atS RX4 218 "java/lang/IndexOutOfBoundsException" qNm)) (B := [.castable "java/lang/IndexOutOfBoundsException" "java/lang/IndexOutOfBoundsException", .declares (Bundle.initS "java/lang/RuntimeException"), .declares (Bundle.initS "java/lang/Exception"), .declares (Bundle.initS Bundle.tN)]) (fun w hw => hts w (hg1 w hw)) (by decide +kernel) (vx_c (va_Nw.use rfl hC.2.2.1) (vx_c (va_Nw.use rfl hC.2.2.2.2.1) (vx_c (va_Nw.use rfl hC.2.2.2.2.2.1) (vx_c (va_Nw.use rfl hC.2.2.2.2.2.2) vx_n))))
      exact hTh 214 216 218 "no such place" 15 _ _ _ _ (by decide +kernel) hw0 hw1 hT.2.2.2.1 hat (by decide +kernel) dX4_needPlace_15 dX4_needPlace_18 dX4_needPlace_19 dX4_needPlace_21 dX4_needPlace_24 hl.1 (Nat.le_of_ble_eq_true rfl) hP hD hS
def mX4_needAsk (vQ : Int32) (vN : SN) (x1 : Int32) : Option (Sum String (Unit)) := if x1 < 0 then (some (Sum.inl "java/lang/IndexOutOfBoundsException")) else (if x1 < (N_asks vN) then (Option.map (fun z => Sum.inr z) (some ())) else (some (Sum.inl "java/lang/IndexOutOfBoundsException")))
def rmX4_needAsk : Room := { frames := 0, cells := 0, slots := 0, locals := 0 }
set_option maxHeartbeats 8000000 in
set_option maxRecDepth 100000 in
theorem wX4_needAsk (l : Launch) (E : qE) (aQ : Nat) (aN : Nat → Nat) (aT : Nat → Nat) (aF : Nat → Nat) (aP : Nat → Nat) (aR : Nat → Nat) (vQ : Int32) (vN : SN) (x1 : Int32) (o : Unit) (h : mX4_needAsk vQ vN x1 = some (Sum.inr o)) : MV l E yX4_needAsk wsX4_needAsk rmX4_needAsk [.ref aQ, .int x1] (WQ aQ aN aT aF aP aR vQ ++ WN E aN vN) (WQ aQ aN aT aF aP aR vQ ++ WN E aN vN) := by
  refine q_startV (cc := cX4_needAsk) (maxL := 2) (by decide) rfl (Nat.le_of_ble_eq_true rfl) ?_
  intro pr e s m args below meth c A Q hx hb hml hown hts hK hRt hP hD hA hS ls hl
  have hl : lv_has ls 2 [(0, .ref aQ), (1, .int x1)] := hl
  have hinX1 : ∀ w ∈ wsX10, w ∈ wsX4_needAsk := by decide +kernel
  have hinX4 : ∀ w ∈ wsX40, w ∈ wsX4_needAsk := by decide +kernel
  have hw0 := hts (.fieldLink RX4 12 "QueueReader" "net" "LQueueReader$Net;") (by decide +kernel)
  have hw1 := hts (.fieldLink RX4 71 "QueueReader$Net" "asks" "I") (by decide +kernel)
  unfold mX4_needAsk at h
  refine lv_iload_n hx hb dX4_needAsk_0 rfl (lv_at hl 1 rfl) ?_
  refine lv_if_lt (tgt := 15) hx hb dX4_needAsk_1 (by decide) (fun c1 => ?_) (fun c1 => ?_)
  · have h := q_pos c1 h
    cases h
  · have h := q_neg c1 h
    refine lv_iload_n hx hb dX4_needAsk_4 rfl (lv_at hl 1 rfl) ?_
    refine lv_aload_n hx hb dX4_needAsk_5 rfl (lv_at hl 0 rfl) ?_
    refine va_get (D := E.1) (ci := 4) (v := .ref (aN 0)) (C := RX4) (T := TX4) (N := 6) hx hb hts hinX4 hown hK.1 hP 0 rfl rfl 0 (by decide) hw0 (fun _ h9 => h9) rfl dX4_needAsk_6 ?_
    refine va_get (D := E.1) (ci := 1) (v := .int (N_asks vN)) (C := RX1) (T := TX1) (N := 11) hx hb hts hinX1 hown hK.1 hP 1 rfl rfl 1 (by decide) hw1 (fun _ h9 => h9) rfl dX4_needAsk_9 ?_
    refine lv_icmp_lt (tgt := 25) hx hb dX4_needAsk_12 (by decide) (fun c2 => ?_) (fun c2 => ?_)
    · have h := q_pos c2 h
      have h := q_mr h
      obtain rfl := q_inj h
      exact hRt 25 _ _ _ dX4_needAsk_25 hP hD hS
    · have h := q_neg c2 h
      cases h
def rxX4_needAsk : Room := { frames := 6, cells := 1, slots := 6, locals := 90 }
set_option maxHeartbeats 8000000 in
set_option maxRecDepth 100000 in
theorem xX4_needAsk (l : Launch) (hfl : l.stackTraces = false) (E : qE) (aQ : Nat) (aN : Nat → Nat) (aT : Nat → Nat) (aF : Nat → Nat) (aP : Nat → Nat) (aR : Nat → Nat) (vQ : Int32) (vN : SN) (x1 : Int32) (Ex : String) (h : mX4_needAsk vQ vN x1 = some (Sum.inl Ex)) : XT l E yX4_needAsk wsX4_needAsk rxX4_needAsk [.ref aQ, .int x1] (WQ aQ aN aT aF aP aR vQ ++ WN E aN vN) Ex := by
  refine q_startX (cc := cX4_needAsk) (maxL := 2) hfl (by decide) rfl (Nat.le_of_ble_eq_true rfl) (Nat.le_of_ble_eq_true rfl) (Nat.le_of_ble_eq_true rfl) (Nat.le_of_ble_eq_true rfl) (Nat.le_of_ble_eq_true rfl) ?_
  intro pr e s m args below meth c A Q hx hb hml hown hts hK hC hT hZ hRp hTh hTn hP hD hA hS ls hl
  have hl : lv_has ls 2 [(0, .ref aQ), (1, .int x1)] := hl
  have hinX1 : ∀ w ∈ wsX10, w ∈ wsX4_needAsk := by decide +kernel
  have hinX4 : ∀ w ∈ wsX40, w ∈ wsX4_needAsk := by decide +kernel
  have hw0 := hts (.classLink RX4 214 "java/lang/IndexOutOfBoundsException") (by decide +kernel)
  have hw1 := hts (.initialized "java/lang/IndexOutOfBoundsException") (by decide +kernel)
  have hw2 := hts (.fieldLink RX4 12 "QueueReader" "net" "LQueueReader$Net;") (by decide +kernel)
  have hw3 := hts (.fieldLink RX4 71 "QueueReader$Net" "asks" "I") (by decide +kernel)
  unfold mX4_needAsk at h
  refine lv_iload_n hx hb dX4_needAsk_0 rfl (lv_at hl 1 rfl) ?_
  refine lv_if_lt (tgt := 15) hx hb dX4_needAsk_1 (by decide) (fun c1 => ?_) (fun c1 => ?_)
  · have h := q_pos c1 h
    obtain rfl := q_injl h
    have hg1 : ∀ w ∈ (vx_atS RX4 218 "java/lang/IndexOutOfBoundsException" qNm).filter goodWord, w ∈ wsX4_needAsk := by decide +kernel
    have hat := vx_hat (L := (vx_atS RX4 218 "java/lang/IndexOutOfBoundsException" qNm)) (B := [.castable "java/lang/IndexOutOfBoundsException" "java/lang/IndexOutOfBoundsException", .declares (Bundle.initS "java/lang/RuntimeException"), .declares (Bundle.initS "java/lang/Exception"), .declares (Bundle.initS Bundle.tN)]) (fun w hw => hts w (hg1 w hw)) (by decide +kernel) (vx_c (va_Nw.use rfl hC.2.2.1) (vx_c (va_Nw.use rfl hC.2.2.2.2.1) (vx_c (va_Nw.use rfl hC.2.2.2.2.2.1) (vx_c (va_Nw.use rfl hC.2.2.2.2.2.2) vx_n))))
    exact hTh 214 219 218 "no such ask" 15 _ _ _ _ (by decide +kernel) hw0 hw1 hT.2.2.2.2.1 hat (by decide +kernel) dX4_needAsk_15 dX4_needAsk_18 dX4_needAsk_19 dX4_needAsk_21 dX4_needAsk_24 hl.1 (Nat.le_of_ble_eq_true rfl) hP hD hS
  · have h := q_neg c1 h
    refine lv_iload_n hx hb dX4_needAsk_4 rfl (lv_at hl 1 rfl) ?_
    refine lv_aload_n hx hb dX4_needAsk_5 rfl (lv_at hl 0 rfl) ?_
    refine va_get (D := E.1) (ci := 4) (v := .ref (aN 0)) (C := RX4) (T := TX4) (N := 6) hx hb hts hinX4 hown hK.1 hP 0 rfl rfl 0 (by decide) hw2 (fun _ h9 => h9) rfl dX4_needAsk_6 ?_
    refine va_get (D := E.1) (ci := 1) (v := .int (N_asks vN)) (C := RX1) (T := TX1) (N := 11) hx hb hts hinX1 hown hK.1 hP 1 rfl rfl 1 (by decide) hw3 (fun _ h9 => h9) rfl dX4_needAsk_9 ?_
    refine lv_icmp_lt (tgt := 25) hx hb dX4_needAsk_12 (by decide) (fun c2 => ?_) (fun c2 => ?_)
    · have h := q_pos c2 h
      exact (q_ml h).elim
    · have h := q_neg c2 h
      obtain rfl := q_injl h
      have hg1 : ∀ w ∈ (vx_atS RX4 218 "java/lang/IndexOutOfBoundsException" qNm).filter goodWord, w ∈ wsX4_needAsk := by decide +kernel
      have hat := vx_hat (L := (vx_atS RX4 218 "java/lang/IndexOutOfBoundsException" qNm)) (B := [.castable "java/lang/IndexOutOfBoundsException" "java/lang/IndexOutOfBoundsException", .declares (Bundle.initS "java/lang/RuntimeException"), .declares (Bundle.initS "java/lang/Exception"), .declares (Bundle.initS Bundle.tN)]) (fun w hw => hts w (hg1 w hw)) (by decide +kernel) (vx_c (va_Nw.use rfl hC.2.2.1) (vx_c (va_Nw.use rfl hC.2.2.2.2.1) (vx_c (va_Nw.use rfl hC.2.2.2.2.2.1) (vx_c (va_Nw.use rfl hC.2.2.2.2.2.2) vx_n))))
      exact hTh 214 219 218 "no such ask" 15 _ _ _ _ (by decide +kernel) hw0 hw1 hT.2.2.2.2.1 hat (by decide +kernel) dX4_needAsk_15 dX4_needAsk_18 dX4_needAsk_19 dX4_needAsk_21 dX4_needAsk_24 hl.1 (Nat.le_of_ble_eq_true rfl) hP hD hS
def mX4_needStep (vQ : Int32) (vN : SN) (x1 : Int32) (x2 : Int32) : Option (Sum String (Int32)) := (mX4_needAsk vQ vN x1).bind fun o1 => qX o1 fun vo1 => if x2 < 0 then (some (Sum.inl "java/lang/IndexOutOfBoundsException")) else (ck x1 60 (if x2 < ((N_lengths vN) (Int32.toNatClampNeg x1)) then (Option.map (fun z => Sum.inr z) ((mX1_firstRow vN x1).bind fun o6 => some (o6 + x2))) else (some (Sum.inl "java/lang/IndexOutOfBoundsException"))))
def rmX4_needStep : Room := { frames := 1, cells := 0, slots := 0, locals := 21 }
set_option maxHeartbeats 8000000 in
set_option maxRecDepth 100000 in
theorem wX4_needStep (l : Launch) (E : qE) (aQ : Nat) (aN : Nat → Nat) (aT : Nat → Nat) (aF : Nat → Nat) (aP : Nat → Nat) (aR : Nat → Nat) (vQ : Int32) (vN : SN) (x1 : Int32) (x2 : Int32) (o : Int32) (h : mX4_needStep vQ vN x1 x2 = some (Sum.inr o)) : MI l E yX4_needStep wsX4_needStep rmX4_needStep [.ref aQ, .int x1, .int x2] (WQ aQ aN aT aF aP aR vQ ++ WN E aN vN) (WQ aQ aN aT aF aP aR vQ ++ WN E aN vN) o := by
  refine q_startI (cc := cX4_needStep) (maxL := 3) (by decide) rfl (Nat.le_of_ble_eq_true rfl) ?_
  intro pr e s m args below meth c A Q hx hb hml hown hts hK hRt hP hD hA hS ls hl
  have hl : lv_has ls 3 [(0, .ref aQ), (1, .int x1), (2, .int x2)] := hl
  have hinX1 : ∀ w ∈ wsX10, w ∈ wsX4_needStep := by decide +kernel
  have hinX4 : ∀ w ∈ wsX40, w ∈ wsX4_needStep := by decide +kernel
  have hw0 := hts (.fieldLink RX4 12 "QueueReader" "net" "LQueueReader$Net;") (by decide +kernel)
  have hw1 := hts (.fieldLink RX4 90 "QueueReader$Net" "lengths" "[I") (by decide +kernel)
  unfold mX4_needStep at h
  refine lv_aload_n hx hb dX4_needStep_0 rfl (lv_at hl 0 rfl) ?_
  refine lv_iload_n hx hb dX4_needStep_1 rfl (lv_at hl 1 rfl) ?_
  obtain ⟨o1, e2, h⟩ := q_bind h
  rcases o1 with Eo1 | vo1
  · cases h
  have h := qX_r h
  refine q_cv (va_runV (As := [.int x1]) (rest := []) ⟨hx, hb, hml, hown, hts⟩ (wX4_needAsk l E aQ aN aT aF aP aR vQ vN x1 vo1 e2 _) (cwV 1 hts gX4_needStep_X4_needAsk rfl rfl rfl (by decide +kernel) ⟨Nat.le_of_ble_eq_true rfl, Nat.le_of_ble_eq_true rfl⟩) (q_preV hK hP hD q_idl 4 0 rfl rfl) rfl rfl hl.1 rfl (lv_room (Nat.le_of_ble_eq_true rfl)) dX4_needStep_2 ⟨Nat.zero_le _, Nat.zero_le _⟩) hP hD hS hA q_idl q_idr (fun H locs hP hD hS => ?_)
  refine lv_iload_n hx hb dX4_needStep_5 rfl (lv_at hl 2 rfl) ?_
  refine lv_if_lt (tgt := 22) hx hb dX4_needStep_6 (by decide) (fun c3 => ?_) (fun c3 => ?_)
  · have h := q_pos c3 h
    cases h
  · have h := q_neg c3 h
    refine lv_iload_n hx hb dX4_needStep_9 rfl (lv_at hl 2 rfl) ?_
    refine lv_aload_n hx hb dX4_needStep_10 rfl (lv_at hl 0 rfl) ?_
    refine va_get (D := E.1) (ci := 4) (v := .ref (aN 0)) (C := RX4) (T := TX4) (N := 6) hx hb hts hinX4 hown hK.1 hP 0 rfl rfl 0 (by decide) hw0 (fun _ h9 => h9) rfl dX4_needStep_11 ?_
    refine va_get (D := E.1) (ci := 1) (v := .ref (aN 6)) (C := RX1) (T := TX1) (N := 11) hx hb hts hinX1 hown hK.1 hP 1 rfl rfl 8 (by decide) hw1 (fun _ h9 => h9) rfl dX4_needStep_14 ?_
    refine lv_iload_n hx hb dX4_needStep_17 rfl (lv_at hl 1 rfl) ?_
    obtain ⟨i4, h⟩ := q_ck h
    refine va_iald (f := (N_lengths vN)) hx hb hK.1 hP 7 0 rfl rfl i4 dX4_needStep_18 ?_
    refine lv_icmp_lt (tgt := 32) hx hb dX4_needStep_19 (by decide) (fun c5 => ?_) (fun c5 => ?_)
    · have h := q_pos c5 h
      have h := q_mr h
      refine lv_aload_n hx hb dX4_needStep_32 rfl (lv_at hl 0 rfl) ?_
      refine va_get (D := E.1) (ci := 4) (v := .ref (aN 0)) (C := RX4) (T := TX4) (N := 6) hx hb hts hinX4 hown hK.1 hP 0 rfl rfl 0 (by decide) hw0 (fun _ h9 => h9) rfl dX4_needStep_33 ?_
      refine lv_iload_n hx hb dX4_needStep_36 rfl (lv_at hl 1 rfl) ?_
      obtain ⟨o6, e7, h⟩ := q_bind h
      refine q_ci (va_runV (As := [.int x1]) (rest := []) ⟨hx, hb, hml, hown, hts⟩ (wX1_firstRow l E aN vN x1 o6 e7 _) (cwV 1 hts gX4_needStep_X1_firstRow rfl rfl rfl (by decide +kernel) ⟨Nat.le_of_ble_eq_true rfl, Nat.le_of_ble_eq_true rfl⟩) (q_preV hK hP hD pm_2_1 1 1 rfl rfl) rfl rfl hl.1 rfl (lv_room (Nat.le_of_ble_eq_true rfl)) dX4_needStep_37 ⟨Nat.zero_le _, Nat.zero_le _⟩) hP hD hS hA pm_2_1 pm_2_1.symm (fun H locs hP hD hS => ?_)
      refine lv_iload_n hx hb dX4_needStep_40 rfl (lv_at hl 2 rfl) ?_
      refine lv_iadd hx hb dX4_needStep_41 ?_
      obtain rfl := q_inj h
      exact hRt 42 _ _ _ dX4_needStep_42 hP hD hS
    · have h := q_neg c5 h
      cases h
def rxX4_needStep : Room := { frames := 7, cells := 1, slots := 6, locals := 111 }
set_option maxHeartbeats 8000000 in
set_option maxRecDepth 100000 in
theorem xX4_needStep (l : Launch) (hfl : l.stackTraces = false) (E : qE) (aQ : Nat) (aN : Nat → Nat) (aT : Nat → Nat) (aF : Nat → Nat) (aP : Nat → Nat) (aR : Nat → Nat) (vQ : Int32) (vN : SN) (x1 : Int32) (x2 : Int32) (Ex : String) (h : mX4_needStep vQ vN x1 x2 = some (Sum.inl Ex)) : XT l E yX4_needStep wsX4_needStep rxX4_needStep [.ref aQ, .int x1, .int x2] (WQ aQ aN aT aF aP aR vQ ++ WN E aN vN) Ex := by
  refine q_startX (cc := cX4_needStep) (maxL := 3) hfl (by decide) rfl (Nat.le_of_ble_eq_true rfl) (Nat.le_of_ble_eq_true rfl) (Nat.le_of_ble_eq_true rfl) (Nat.le_of_ble_eq_true rfl) (Nat.le_of_ble_eq_true rfl) ?_
  intro pr e s m args below meth c A Q hx hb hml hown hts hK hC hT hZ hRp hTh hTn hP hD hA hS ls hl
  have hl : lv_has ls 3 [(0, .ref aQ), (1, .int x1), (2, .int x2)] := hl
  have hinX1 : ∀ w ∈ wsX10, w ∈ wsX4_needStep := by decide +kernel
  have hinX4 : ∀ w ∈ wsX40, w ∈ wsX4_needStep := by decide +kernel
  have hw0 := hts (.classLink RX4 214 "java/lang/IndexOutOfBoundsException") (by decide +kernel)
  have hw1 := hts (.initialized "java/lang/IndexOutOfBoundsException") (by decide +kernel)
  have hw2 := hts (.fieldLink RX4 12 "QueueReader" "net" "LQueueReader$Net;") (by decide +kernel)
  have hw3 := hts (.fieldLink RX4 90 "QueueReader$Net" "lengths" "[I") (by decide +kernel)
  unfold mX4_needStep at h
  refine lv_aload_n hx hb dX4_needStep_0 rfl (lv_at hl 0 rfl) ?_
  refine lv_iload_n hx hb dX4_needStep_1 rfl (lv_at hl 1 rfl) ?_
  obtain ⟨o1, e2, h⟩ := q_bind h
  rcases o1 with Eo1 | vo1
  · obtain rfl := q_injl h
    exact qx_c (vx_runV (As := [.int x1]) (rest := []) ⟨hx, hb, hml, hown, hts⟩ (xX4_needAsk l hfl E aQ aN aT aF aP aR vQ vN x1 _ e2 _) (cwV 1 hts gX4_needStep_X4_needAsk rfl rfl rfl (by decide +kernel) ⟨Nat.le_of_ble_eq_true rfl, Nat.le_of_ble_eq_true rfl⟩) (qx_preV hK hC hT hZ hS hA hP hD q_idl 4 0 rfl rfl) rfl rfl hl.1 rfl (lv_room (Nat.le_of_ble_eq_true rfl)) dX4_needStep_2 ⟨Nat.le_of_ble_eq_true rfl, Nat.le_of_ble_eq_true rfl⟩) hP hD hS hA q_idl (fun H1 locs1 q9 ce a1 a2 a3 a4 a5 a6 => hRp _ _ _ _ _ _ _ a1 a2 a3 a4 a5 a6)
  have h := qX_r h
  refine q_cv (va_runV (As := [.int x1]) (rest := []) ⟨hx, hb, hml, hown, hts⟩ (wX4_needAsk l E aQ aN aT aF aP aR vQ vN x1 vo1 e2 _) (cwV 1 hts gX4_needStep_X4_needAsk rfl rfl rfl (by decide +kernel) ⟨Nat.le_of_ble_eq_true rfl, Nat.le_of_ble_eq_true rfl⟩) (q_preV hK hP hD q_idl 4 0 rfl rfl) rfl rfl hl.1 rfl (lv_room (Nat.le_of_ble_eq_true rfl)) dX4_needStep_2 ⟨Nat.zero_le _, Nat.zero_le _⟩) hP hD hS hA q_idl q_idr (fun H locs hP hD hS => ?_)
  refine lv_iload_n hx hb dX4_needStep_5 rfl (lv_at hl 2 rfl) ?_
  refine lv_if_lt (tgt := 22) hx hb dX4_needStep_6 (by decide) (fun c3 => ?_) (fun c3 => ?_)
  · have h := q_pos c3 h
    obtain rfl := q_injl h
    have hg1 : ∀ w ∈ (vx_atS RX4 218 "java/lang/IndexOutOfBoundsException" qNm).filter goodWord, w ∈ wsX4_needStep := by decide +kernel
    have hat := vx_hat (L := (vx_atS RX4 218 "java/lang/IndexOutOfBoundsException" qNm)) (B := [.castable "java/lang/IndexOutOfBoundsException" "java/lang/IndexOutOfBoundsException", .declares (Bundle.initS "java/lang/RuntimeException"), .declares (Bundle.initS "java/lang/Exception"), .declares (Bundle.initS Bundle.tN)]) (fun w hw => hts w (hg1 w hw)) (by decide +kernel) (vx_c (va_Nw.use rfl hC.2.2.1) (vx_c (va_Nw.use rfl hC.2.2.2.2.1) (vx_c (va_Nw.use rfl hC.2.2.2.2.2.1) (vx_c (va_Nw.use rfl hC.2.2.2.2.2.2) vx_n))))
    exact hTh 214 221 218 "no such step" 22 _ _ _ _ (by decide +kernel) hw0 hw1 hT.2.2.2.2.2.1 hat (by decide +kernel) dX4_needStep_22 dX4_needStep_25 dX4_needStep_26 dX4_needStep_28 dX4_needStep_31 hl.1 (Nat.le_of_ble_eq_true rfl) hP hD hS
  · have h := q_neg c3 h
    refine lv_iload_n hx hb dX4_needStep_9 rfl (lv_at hl 2 rfl) ?_
    refine lv_aload_n hx hb dX4_needStep_10 rfl (lv_at hl 0 rfl) ?_
    refine va_get (D := E.1) (ci := 4) (v := .ref (aN 0)) (C := RX4) (T := TX4) (N := 6) hx hb hts hinX4 hown hK.1 hP 0 rfl rfl 0 (by decide) hw2 (fun _ h9 => h9) rfl dX4_needStep_11 ?_
    refine va_get (D := E.1) (ci := 1) (v := .ref (aN 6)) (C := RX1) (T := TX1) (N := 11) hx hb hts hinX1 hown hK.1 hP 1 rfl rfl 8 (by decide) hw3 (fun _ h9 => h9) rfl dX4_needStep_14 ?_
    refine lv_iload_n hx hb dX4_needStep_17 rfl (lv_at hl 1 rfl) ?_
    obtain ⟨i4, h⟩ := q_ck h
    refine va_iald (f := (N_lengths vN)) hx hb hK.1 hP 7 0 rfl rfl i4 dX4_needStep_18 ?_
    refine lv_icmp_lt (tgt := 32) hx hb dX4_needStep_19 (by decide) (fun c5 => ?_) (fun c5 => ?_)
    · have h := q_pos c5 h
      exact (q_ml h).elim
    · have h := q_neg c5 h
      obtain rfl := q_injl h
      have hg1 : ∀ w ∈ (vx_atS RX4 218 "java/lang/IndexOutOfBoundsException" qNm).filter goodWord, w ∈ wsX4_needStep := by decide +kernel
      have hat := vx_hat (L := (vx_atS RX4 218 "java/lang/IndexOutOfBoundsException" qNm)) (B := [.castable "java/lang/IndexOutOfBoundsException" "java/lang/IndexOutOfBoundsException", .declares (Bundle.initS "java/lang/RuntimeException"), .declares (Bundle.initS "java/lang/Exception"), .declares (Bundle.initS Bundle.tN)]) (fun w hw => hts w (hg1 w hw)) (by decide +kernel) (vx_c (va_Nw.use rfl hC.2.2.1) (vx_c (va_Nw.use rfl hC.2.2.2.2.1) (vx_c (va_Nw.use rfl hC.2.2.2.2.2.1) (vx_c (va_Nw.use rfl hC.2.2.2.2.2.2) vx_n))))
      exact hTh 214 221 218 "no such step" 22 _ _ _ _ (by decide +kernel) hw0 hw1 hT.2.2.2.2.2.1 hat (by decide +kernel) dX4_needStep_22 dX4_needStep_25 dX4_needStep_26 dX4_needStep_28 dX4_needStep_31 hl.1 (Nat.le_of_ble_eq_true rfl) hP hD hS
def mX4_place (vQ : Int32) (vN : SN) (x1 : Int32) (x2 : Int32) (x3 : Int32) : Option (Sum String (Int32 × Int32 × SN)) := (mX4_needPlaceNumbers x1 x2 x3).bind fun o1 => qX o1 fun vo1 => if (N_places vN) < 5 then (Option.map (fun z => Sum.inr z) ((mX1_setPlace (N_places_s vN ((N_places vN) + 1)) (N_places vN) x1 x2 x3).bind fun o4 => some ((N_places vN), 0, o4))) else (some (Sum.inl "java/lang/UnsupportedOperationException"))
def rmX4_place : Room := { frames := 2, cells := 0, slots := 0, locals := 44 }
set_option maxHeartbeats 8000000 in
set_option maxRecDepth 100000 in
theorem wX4_place (l : Launch) (E : qE) (aQ : Nat) (aN : Nat → Nat) (aT : Nat → Nat) (aF : Nat → Nat) (aP : Nat → Nat) (aR : Nat → Nat) (vQ : Int32) (vN : SN) (x1 : Int32) (x2 : Int32) (x3 : Int32) (o : Int32 × Int32 × SN) (h : mX4_place vQ vN x1 x2 x3 = some (Sum.inr o)) : MI l E yX4_place wsX4_place rmX4_place [.ref aQ, .int x1, .int x2, .int x3] (WQ aQ aN aT aF aP aR vQ ++ WN E aN vN) (WQ aQ aN aT aF aP aR o.2.1 ++ WN E aN o.2.2) o.1 := by
  refine q_startI (cc := cX4_place) (maxL := 5) (by decide) rfl (Nat.le_of_ble_eq_true rfl) ?_
  intro pr e s m args below meth c A Q hx hb hml hown hts hK hRt hP hD hA hS ls hl
  have hl : lv_has ls 5 [(0, .ref aQ), (1, .int x1), (2, .int x2), (3, .int x3)] := hl
  have hinX1 : ∀ w ∈ wsX10, w ∈ wsX4_place := by decide +kernel
  have hinX4 : ∀ w ∈ wsX40, w ∈ wsX4_place := by decide +kernel
  have hw0 := hts (.fieldLink RX4 12 "QueueReader" "net" "LQueueReader$Net;") (by decide +kernel)
  have hw1 := hts (.fieldLink RX4 48 "QueueReader$Net" "places" "I") (by decide +kernel)
  have hw2 := hts (.fieldLink RX4 40 "QueueReader" "isPlayFresh" "Z") (by decide +kernel)
  unfold mX4_place at h
  refine lv_iload_n hx hb dX4_place_0 rfl (lv_at hl 1 rfl) ?_
  refine lv_iload_n hx hb dX4_place_1 rfl (lv_at hl 2 rfl) ?_
  refine lv_iload_n hx hb dX4_place_2 rfl (lv_at hl 3 rfl) ?_
  obtain ⟨o1, e2, h⟩ := q_bind h
  rcases o1 with Eo1 | vo1
  · cases h
  have h := qX_r h
  refine q_cv (va_runS (As := [.int x1, .int x2, .int x3]) (rest := []) ⟨hx, hb, hml, hown, hts⟩ (wX4_needPlaceNumbers l E  x1 x2 x3 vo1 e2 _) (va_cwS 3 hts gX4_place_X4_needPlaceNumbers rfl rfl rfl (by decide +kernel) ⟨Nat.le_of_ble_eq_true rfl, Nat.le_of_ble_eq_true rfl⟩) (q_preS hK hP hD q_nil) rfl rfl hl.1 rfl (lv_room (Nat.le_of_ble_eq_true rfl)) dX4_place_3 ⟨Nat.zero_le _, Nat.zero_le _⟩) hP hD hS hA q_nil q_nil.symm (fun H locs hP hD hS => ?_)
  refine lv_aload_n hx hb dX4_place_6 rfl (lv_at hl 0 rfl) ?_
  refine va_get (D := E.1) (ci := 4) (v := .ref (aN 0)) (C := RX4) (T := TX4) (N := 6) hx hb hts hinX4 hown hK.1 hP 0 rfl rfl 0 (by decide) hw0 (fun _ h9 => h9) rfl dX4_place_7 ?_
  refine va_get (D := E.1) (ci := 1) (v := .int (N_places vN)) (C := RX1) (T := TX1) (N := 11) hx hb hts hinX1 hown hK.1 hP 1 rfl rfl 0 (by decide) hw1 (fun _ h9 => h9) rfl dX4_place_10 ?_
  refine lv_iconst (v := 5) hx hb dX4_place_13 (by decide) ?_
  refine lv_icmp_lt (tgt := 27) hx hb dX4_place_14 (by decide) (fun c3 => ?_) (fun c3 => ?_)
  · have h := q_pos c3 h
    have h := q_mr h
    refine lv_aload_n hx hb dX4_place_27 rfl (lv_at hl 0 rfl) ?_
    refine va_get (D := E.1) (ci := 4) (v := .ref (aN 0)) (C := RX4) (T := TX4) (N := 6) hx hb hts hinX4 hown hK.1 hP 0 rfl rfl 0 (by decide) hw0 (fun _ h9 => h9) rfl dX4_place_28 ?_
    refine va_get (D := E.1) (ci := 1) (v := .int (N_places vN)) (C := RX1) (T := TX1) (N := 11) hx hb hts hinX1 hown hK.1 hP 1 rfl rfl 0 (by decide) hw1 (fun _ h9 => h9) rfl dX4_place_31 ?_
    refine lv_istore (lv' := [(4, .int (N_places vN)), (0, .ref aQ), (1, .int x1), (2, .int x2), (3, .int x3)]) hx hb dX4_place_34 hl (by decide) rfl (fun ls hl => ?_)
    refine lv_aload_n hx hb dX4_place_36 rfl (lv_at hl 1 rfl) ?_
    refine va_get (D := E.1) (ci := 4) (v := .ref (aN 0)) (C := RX4) (T := TX4) (N := 6) hx hb hts hinX4 hown hK.1 hP 0 rfl rfl 0 (by decide) hw0 (fun _ h9 => h9) rfl dX4_place_37 ?_
    refine lv_dup hx hb dX4_place_40 rfl ?_
    refine va_get (D := E.1) (ci := 1) (v := .int (N_places vN)) (C := RX1) (T := TX1) (N := 11) hx hb hts hinX1 hown hK.1 hP 1 rfl rfl 0 (by decide) hw1 (fun _ h9 => h9) rfl dX4_place_41 ?_
    refine lv_iconst (v := 1) hx hb dX4_place_44 (by decide) ?_
    refine lv_iadd hx hb dX4_place_45 ?_
    refine va_put (D := E.1) (ci := 1) (v := .int ((N_places vN) + 1)) (ty := .int) (C := RX1) (T := TX1) (N := 11) hx hb hts hinX1 tyX1 tyX1_ok nmX1 hown hK.1 hP hD hS 1 rfl rfl 0 (by decide) hw1 (fun _ h9 => h9) rfl (by decide +kernel) rfl rfl (Nat.le_of_ble_eq_true rfl) dX4_place_46 (fun H locs hP hD hS => ?_)
    have hP : va_P E.1 vwCl (WQ aQ aN aT aF aP aR vQ ++ WN E aN (N_places_s vN ((N_places vN) + 1))) H := hP
    have hD : va_D A (WQ aQ aN aT aF aP aR vQ ++ WN E aN (N_places_s vN ((N_places vN) + 1))) := hD
    refine lv_aload_n hx hb dX4_place_49 rfl (lv_at hl 1 rfl) ?_
    refine va_get (D := E.1) (ci := 4) (v := .ref (aN 0)) (C := RX4) (T := TX4) (N := 6) hx hb hts hinX4 hown hK.1 hP 0 rfl rfl 0 (by decide) hw0 (fun _ h9 => h9) rfl dX4_place_50 ?_
    refine lv_iload hx hb dX4_place_53 (lv_at hl 0 rfl) ?_
    refine lv_iload_n hx hb dX4_place_55 rfl (lv_at hl 2 rfl) ?_
    refine lv_iload_n hx hb dX4_place_56 rfl (lv_at hl 3 rfl) ?_
    refine lv_iload_n hx hb dX4_place_57 rfl (lv_at hl 4 rfl) ?_
    obtain ⟨o4, e5, h⟩ := q_bind h
    refine q_cv (va_runV (As := [.int (N_places vN), .int x1, .int x2, .int x3]) (rest := []) ⟨hx, hb, hml, hown, hts⟩ (wX1_setPlace l E aN (N_places_s vN ((N_places vN) + 1)) (N_places vN) x1 x2 x3 o4 e5 _) (cwV 4 hts gX4_place_X1_setPlace rfl rfl rfl (by decide +kernel) ⟨Nat.le_of_ble_eq_true rfl, Nat.le_of_ble_eq_true rfl⟩) (q_preV hK hP hD pm_2_1 1 1 rfl rfl) rfl rfl hl.1 rfl (lv_room (Nat.le_of_ble_eq_true rfl)) dX4_place_58 ⟨Nat.zero_le _, Nat.zero_le _⟩) hP hD hS hA pm_2_1 pm_2_1.symm (fun H locs hP hD hS => ?_)
    refine lv_aload_n hx hb dX4_place_61 rfl (lv_at hl 1 rfl) ?_
    refine lv_iconst (v := 0) hx hb dX4_place_62 (by decide) ?_
    refine va_put (D := E.1) (ci := 4) (v := .int 0) (ty := .boolean) (C := RX4) (T := TX4) (N := 6) hx hb hts hinX4 tyX4 tyX4_ok nmX4 hown hK.1 hP hD hS 0 rfl rfl 5 (by decide) hw2 (fun _ h9 => h9) rfl (by decide +kernel) rfl rfl (Nat.le_of_ble_eq_true rfl) dX4_place_63 (fun H locs hP hD hS => ?_)
    have hP : va_P E.1 vwCl (WQ aQ aN aT aF aP aR 0 ++ WN E aN o4) H := hP
    have hD : va_D A (WQ aQ aN aT aF aP aR 0 ++ WN E aN o4) := hD
    refine lv_iload hx hb dX4_place_66 (lv_at hl 0 rfl) ?_
    obtain rfl := q_inj h
    exact hRt 68 _ _ _ dX4_place_68 hP hD hS
  · have h := q_neg c3 h
    cases h
def rxX4_place : Room := { frames := 8, cells := 1, slots := 6, locals := 134 }
set_option maxHeartbeats 8000000 in
set_option maxRecDepth 100000 in
theorem xX4_place (l : Launch) (hfl : l.stackTraces = false) (E : qE) (aQ : Nat) (aN : Nat → Nat) (aT : Nat → Nat) (aF : Nat → Nat) (aP : Nat → Nat) (aR : Nat → Nat) (vQ : Int32) (vN : SN) (x1 : Int32) (x2 : Int32) (x3 : Int32) (Ex : String) (h : mX4_place vQ vN x1 x2 x3 = some (Sum.inl Ex)) : XT l E yX4_place wsX4_place rxX4_place [.ref aQ, .int x1, .int x2, .int x3] (WQ aQ aN aT aF aP aR vQ ++ WN E aN vN) Ex := by
  refine q_startX (cc := cX4_place) (maxL := 5) hfl (by decide) rfl (Nat.le_of_ble_eq_true rfl) (Nat.le_of_ble_eq_true rfl) (Nat.le_of_ble_eq_true rfl) (Nat.le_of_ble_eq_true rfl) (Nat.le_of_ble_eq_true rfl) ?_
  intro pr e s m args below meth c A Q hx hb hml hown hts hK hC hT hZ hRp hTh hTn hP hD hA hS ls hl
  have hl : lv_has ls 5 [(0, .ref aQ), (1, .int x1), (2, .int x2), (3, .int x3)] := hl
  have hinX1 : ∀ w ∈ wsX10, w ∈ wsX4_place := by decide +kernel
  have hinX4 : ∀ w ∈ wsX40, w ∈ wsX4_place := by decide +kernel
  have hw0 := hts (.fieldLink RX4 12 "QueueReader" "net" "LQueueReader$Net;") (by decide +kernel)
  have hw1 := hts (.fieldLink RX4 48 "QueueReader$Net" "places" "I") (by decide +kernel)
  have hw2 := hts (.classLink RX4 52 "java/lang/UnsupportedOperationException") (by decide +kernel)
  have hw3 := hts (.initialized "java/lang/UnsupportedOperationException") (by decide +kernel)
  unfold mX4_place at h
  refine lv_iload_n hx hb dX4_place_0 rfl (lv_at hl 1 rfl) ?_
  refine lv_iload_n hx hb dX4_place_1 rfl (lv_at hl 2 rfl) ?_
  refine lv_iload_n hx hb dX4_place_2 rfl (lv_at hl 3 rfl) ?_
  obtain ⟨o1, e2, h⟩ := q_bind h
  rcases o1 with Eo1 | vo1
  · obtain rfl := q_injl h
    exact qx_c (vx_runS (As := [.int x1, .int x2, .int x3]) (rest := []) ⟨hx, hb, hml, hown, hts⟩ (xX4_needPlaceNumbers l hfl E  x1 x2 x3 _ e2 _) (va_cwS 3 hts gX4_place_X4_needPlaceNumbers rfl rfl rfl (by decide +kernel) ⟨Nat.le_of_ble_eq_true rfl, Nat.le_of_ble_eq_true rfl⟩) (qx_preS hK hC hT hZ hS hA hP hD q_nil) rfl rfl hl.1 rfl (lv_room (Nat.le_of_ble_eq_true rfl)) dX4_place_3 ⟨Nat.le_of_ble_eq_true rfl, Nat.le_of_ble_eq_true rfl⟩) hP hD hS hA q_nil (fun H1 locs1 q9 ce a1 a2 a3 a4 a5 a6 => hRp _ _ _ _ _ _ _ a1 a2 a3 a4 a5 a6)
  have h := qX_r h
  refine q_cv (va_runS (As := [.int x1, .int x2, .int x3]) (rest := []) ⟨hx, hb, hml, hown, hts⟩ (wX4_needPlaceNumbers l E  x1 x2 x3 vo1 e2 _) (va_cwS 3 hts gX4_place_X4_needPlaceNumbers rfl rfl rfl (by decide +kernel) ⟨Nat.le_of_ble_eq_true rfl, Nat.le_of_ble_eq_true rfl⟩) (q_preS hK hP hD q_nil) rfl rfl hl.1 rfl (lv_room (Nat.le_of_ble_eq_true rfl)) dX4_place_3 ⟨Nat.zero_le _, Nat.zero_le _⟩) hP hD hS hA q_nil q_nil.symm (fun H locs hP hD hS => ?_)
  refine lv_aload_n hx hb dX4_place_6 rfl (lv_at hl 0 rfl) ?_
  refine va_get (D := E.1) (ci := 4) (v := .ref (aN 0)) (C := RX4) (T := TX4) (N := 6) hx hb hts hinX4 hown hK.1 hP 0 rfl rfl 0 (by decide) hw0 (fun _ h9 => h9) rfl dX4_place_7 ?_
  refine va_get (D := E.1) (ci := 1) (v := .int (N_places vN)) (C := RX1) (T := TX1) (N := 11) hx hb hts hinX1 hown hK.1 hP 1 rfl rfl 0 (by decide) hw1 (fun _ h9 => h9) rfl dX4_place_10 ?_
  refine lv_iconst (v := 5) hx hb dX4_place_13 (by decide) ?_
  refine lv_icmp_lt (tgt := 27) hx hb dX4_place_14 (by decide) (fun c3 => ?_) (fun c3 => ?_)
  · have h := q_pos c3 h
    exact (q_ml h).elim
  · have h := q_neg c3 h
    obtain rfl := q_injl h
    have hg1 : ∀ w ∈ (vx_atS RX4 56 "java/lang/UnsupportedOperationException" qNm).filter goodWord, w ∈ wsX4_place := by decide +kernel
    have hat := vx_hat (L := (vx_atS RX4 56 "java/lang/UnsupportedOperationException" qNm)) (B := [.castable "java/lang/UnsupportedOperationException" "java/lang/UnsupportedOperationException", .declares (Bundle.initS "java/lang/RuntimeException"), .declares (Bundle.initS "java/lang/Exception"), .declares (Bundle.initS Bundle.tN)]) (fun w hw => hts w (hg1 w hw)) (by decide +kernel) (vx_c (va_Nw.use rfl hC.2.1) (vx_c (va_Nw.use rfl hC.2.2.2.2.1) (vx_c (va_Nw.use rfl hC.2.2.2.2.2.1) (vx_c (va_Nw.use rfl hC.2.2.2.2.2.2) vx_n))))
    exact hTh 52 54 56 "there are 5 places" 17 _ _ _ _ (by decide +kernel) hw2 hw3 hT.1 hat (by decide +kernel) dX4_place_17 dX4_place_20 dX4_place_21 dX4_place_23 dX4_place_26 hl.1 (Nat.le_of_ble_eq_true rfl) hP hD hS
def mX4_change (vQ : Int32) (vN : SN) (x1 : Int32) (x2 : Int32) (x3 : Int32) (x4 : Int32) : Option (Sum String (Int32 × SN)) := (mX4_needPlace vQ vN x1).bind fun o1 => qX o1 fun vo1 => (mX4_needPlaceNumbers x2 x3 x4).bind fun o3 => qX o3 fun vo3 => Option.map (fun z => Sum.inr z) ((mX1_setPlace vN x1 x2 x3 x4).bind fun o5 => some (0, o5))
def rmX4_change : Room := { frames := 2, cells := 0, slots := 0, locals := 44 }
set_option maxHeartbeats 8000000 in
set_option maxRecDepth 100000 in
theorem wX4_change (l : Launch) (E : qE) (aQ : Nat) (aN : Nat → Nat) (aT : Nat → Nat) (aF : Nat → Nat) (aP : Nat → Nat) (aR : Nat → Nat) (vQ : Int32) (vN : SN) (x1 : Int32) (x2 : Int32) (x3 : Int32) (x4 : Int32) (o : Int32 × SN) (h : mX4_change vQ vN x1 x2 x3 x4 = some (Sum.inr o)) : MV l E yX4_change wsX4_change rmX4_change [.ref aQ, .int x1, .int x2, .int x3, .int x4] (WQ aQ aN aT aF aP aR vQ ++ WN E aN vN) (WQ aQ aN aT aF aP aR o.1 ++ WN E aN o.2) := by
  refine q_startV (cc := cX4_change) (maxL := 5) (by decide) rfl (Nat.le_of_ble_eq_true rfl) ?_
  intro pr e s m args below meth c A Q hx hb hml hown hts hK hRt hP hD hA hS ls hl
  have hl : lv_has ls 5 [(0, .ref aQ), (1, .int x1), (2, .int x2), (3, .int x3), (4, .int x4)] := hl
  have hinX4 : ∀ w ∈ wsX40, w ∈ wsX4_change := by decide +kernel
  have hw0 := hts (.fieldLink RX4 12 "QueueReader" "net" "LQueueReader$Net;") (by decide +kernel)
  have hw1 := hts (.fieldLink RX4 40 "QueueReader" "isPlayFresh" "Z") (by decide +kernel)
  unfold mX4_change at h
  refine lv_aload_n hx hb dX4_change_0 rfl (lv_at hl 0 rfl) ?_
  refine lv_iload_n hx hb dX4_change_1 rfl (lv_at hl 1 rfl) ?_
  obtain ⟨o1, e2, h⟩ := q_bind h
  rcases o1 with Eo1 | vo1
  · cases h
  have h := qX_r h
  refine q_cv (va_runV (As := [.int x1]) (rest := []) ⟨hx, hb, hml, hown, hts⟩ (wX4_needPlace l E aQ aN aT aF aP aR vQ vN x1 vo1 e2 _) (cwV 1 hts gX4_change_X4_needPlace rfl rfl rfl (by decide +kernel) ⟨Nat.le_of_ble_eq_true rfl, Nat.le_of_ble_eq_true rfl⟩) (q_preV hK hP hD q_idl 4 0 rfl rfl) rfl rfl hl.1 rfl (lv_room (Nat.le_of_ble_eq_true rfl)) dX4_change_2 ⟨Nat.zero_le _, Nat.zero_le _⟩) hP hD hS hA q_idl q_idr (fun H locs hP hD hS => ?_)
  refine lv_iload_n hx hb dX4_change_5 rfl (lv_at hl 2 rfl) ?_
  refine lv_iload_n hx hb dX4_change_6 rfl (lv_at hl 3 rfl) ?_
  refine lv_iload hx hb dX4_change_7 (lv_at hl 4 rfl) ?_
  obtain ⟨o3, e4, h⟩ := q_bind h
  rcases o3 with Eo3 | vo3
  · cases h
  have h := qX_r h
  refine q_cv (va_runS (As := [.int x2, .int x3, .int x4]) (rest := []) ⟨hx, hb, hml, hown, hts⟩ (wX4_needPlaceNumbers l E  x2 x3 x4 vo3 e4 _) (va_cwS 3 hts gX4_change_X4_needPlaceNumbers rfl rfl rfl (by decide +kernel) ⟨Nat.le_of_ble_eq_true rfl, Nat.le_of_ble_eq_true rfl⟩) (q_preS hK hP hD q_nil) rfl rfl hl.1 rfl (lv_room (Nat.le_of_ble_eq_true rfl)) dX4_change_9 ⟨Nat.zero_le _, Nat.zero_le _⟩) hP hD hS hA q_nil q_nil.symm (fun H locs hP hD hS => ?_)
  have h := q_mr h
  refine lv_aload_n hx hb dX4_change_12 rfl (lv_at hl 0 rfl) ?_
  refine va_get (D := E.1) (ci := 4) (v := .ref (aN 0)) (C := RX4) (T := TX4) (N := 6) hx hb hts hinX4 hown hK.1 hP 0 rfl rfl 0 (by decide) hw0 (fun _ h9 => h9) rfl dX4_change_13 ?_
  refine lv_iload_n hx hb dX4_change_16 rfl (lv_at hl 1 rfl) ?_
  refine lv_iload_n hx hb dX4_change_17 rfl (lv_at hl 2 rfl) ?_
  refine lv_iload_n hx hb dX4_change_18 rfl (lv_at hl 3 rfl) ?_
  refine lv_iload hx hb dX4_change_19 (lv_at hl 4 rfl) ?_
  obtain ⟨o5, e6, h⟩ := q_bind h
  refine q_cv (va_runV (As := [.int x1, .int x2, .int x3, .int x4]) (rest := []) ⟨hx, hb, hml, hown, hts⟩ (wX1_setPlace l E aN vN x1 x2 x3 x4 o5 e6 _) (cwV 4 hts gX4_change_X1_setPlace rfl rfl rfl (by decide +kernel) ⟨Nat.le_of_ble_eq_true rfl, Nat.le_of_ble_eq_true rfl⟩) (q_preV hK hP hD pm_2_1 1 1 rfl rfl) rfl rfl hl.1 rfl (lv_room (Nat.le_of_ble_eq_true rfl)) dX4_change_21 ⟨Nat.zero_le _, Nat.zero_le _⟩) hP hD hS hA pm_2_1 pm_2_1.symm (fun H locs hP hD hS => ?_)
  refine lv_aload_n hx hb dX4_change_24 rfl (lv_at hl 0 rfl) ?_
  refine lv_iconst (v := 0) hx hb dX4_change_25 (by decide) ?_
  refine va_put (D := E.1) (ci := 4) (v := .int 0) (ty := .boolean) (C := RX4) (T := TX4) (N := 6) hx hb hts hinX4 tyX4 tyX4_ok nmX4 hown hK.1 hP hD hS 0 rfl rfl 5 (by decide) hw1 (fun _ h9 => h9) rfl (by decide +kernel) rfl rfl (Nat.le_of_ble_eq_true rfl) dX4_change_26 (fun H locs hP hD hS => ?_)
  have hP : va_P E.1 vwCl (WQ aQ aN aT aF aP aR 0 ++ WN E aN o5) H := hP
  have hD : va_D A (WQ aQ aN aT aF aP aR 0 ++ WN E aN o5) := hD
  obtain rfl := q_inj h
  exact hRt 29 _ _ _ dX4_change_29 hP hD hS
def rxX4_change : Room := { frames := 8, cells := 1, slots := 6, locals := 134 }
set_option maxHeartbeats 8000000 in
set_option maxRecDepth 100000 in
theorem xX4_change (l : Launch) (hfl : l.stackTraces = false) (E : qE) (aQ : Nat) (aN : Nat → Nat) (aT : Nat → Nat) (aF : Nat → Nat) (aP : Nat → Nat) (aR : Nat → Nat) (vQ : Int32) (vN : SN) (x1 : Int32) (x2 : Int32) (x3 : Int32) (x4 : Int32) (Ex : String) (h : mX4_change vQ vN x1 x2 x3 x4 = some (Sum.inl Ex)) : XT l E yX4_change wsX4_change rxX4_change [.ref aQ, .int x1, .int x2, .int x3, .int x4] (WQ aQ aN aT aF aP aR vQ ++ WN E aN vN) Ex := by
  refine q_startX (cc := cX4_change) (maxL := 5) hfl (by decide) rfl (Nat.le_of_ble_eq_true rfl) (Nat.le_of_ble_eq_true rfl) (Nat.le_of_ble_eq_true rfl) (Nat.le_of_ble_eq_true rfl) (Nat.le_of_ble_eq_true rfl) ?_
  intro pr e s m args below meth c A Q hx hb hml hown hts hK hC hT hZ hRp hTh hTn hP hD hA hS ls hl
  have hl : lv_has ls 5 [(0, .ref aQ), (1, .int x1), (2, .int x2), (3, .int x3), (4, .int x4)] := hl
  unfold mX4_change at h
  refine lv_aload_n hx hb dX4_change_0 rfl (lv_at hl 0 rfl) ?_
  refine lv_iload_n hx hb dX4_change_1 rfl (lv_at hl 1 rfl) ?_
  obtain ⟨o1, e2, h⟩ := q_bind h
  rcases o1 with Eo1 | vo1
  · obtain rfl := q_injl h
    exact qx_c (vx_runV (As := [.int x1]) (rest := []) ⟨hx, hb, hml, hown, hts⟩ (xX4_needPlace l hfl E aQ aN aT aF aP aR vQ vN x1 _ e2 _) (cwV 1 hts gX4_change_X4_needPlace rfl rfl rfl (by decide +kernel) ⟨Nat.le_of_ble_eq_true rfl, Nat.le_of_ble_eq_true rfl⟩) (qx_preV hK hC hT hZ hS hA hP hD q_idl 4 0 rfl rfl) rfl rfl hl.1 rfl (lv_room (Nat.le_of_ble_eq_true rfl)) dX4_change_2 ⟨Nat.le_of_ble_eq_true rfl, Nat.le_of_ble_eq_true rfl⟩) hP hD hS hA q_idl (fun H1 locs1 q9 ce a1 a2 a3 a4 a5 a6 => hRp _ _ _ _ _ _ _ a1 a2 a3 a4 a5 a6)
  have h := qX_r h
  refine q_cv (va_runV (As := [.int x1]) (rest := []) ⟨hx, hb, hml, hown, hts⟩ (wX4_needPlace l E aQ aN aT aF aP aR vQ vN x1 vo1 e2 _) (cwV 1 hts gX4_change_X4_needPlace rfl rfl rfl (by decide +kernel) ⟨Nat.le_of_ble_eq_true rfl, Nat.le_of_ble_eq_true rfl⟩) (q_preV hK hP hD q_idl 4 0 rfl rfl) rfl rfl hl.1 rfl (lv_room (Nat.le_of_ble_eq_true rfl)) dX4_change_2 ⟨Nat.zero_le _, Nat.zero_le _⟩) hP hD hS hA q_idl q_idr (fun H locs hP hD hS => ?_)
  refine lv_iload_n hx hb dX4_change_5 rfl (lv_at hl 2 rfl) ?_
  refine lv_iload_n hx hb dX4_change_6 rfl (lv_at hl 3 rfl) ?_
  refine lv_iload hx hb dX4_change_7 (lv_at hl 4 rfl) ?_
  obtain ⟨o3, e4, h⟩ := q_bind h
  rcases o3 with Eo3 | vo3
  · obtain rfl := q_injl h
    exact qx_c (vx_runS (As := [.int x2, .int x3, .int x4]) (rest := []) ⟨hx, hb, hml, hown, hts⟩ (xX4_needPlaceNumbers l hfl E  x2 x3 x4 _ e4 _) (va_cwS 3 hts gX4_change_X4_needPlaceNumbers rfl rfl rfl (by decide +kernel) ⟨Nat.le_of_ble_eq_true rfl, Nat.le_of_ble_eq_true rfl⟩) (qx_preS hK hC hT hZ hS hA hP hD q_nil) rfl rfl hl.1 rfl (lv_room (Nat.le_of_ble_eq_true rfl)) dX4_change_9 ⟨Nat.le_of_ble_eq_true rfl, Nat.le_of_ble_eq_true rfl⟩) hP hD hS hA q_nil (fun H1 locs1 q9 ce a1 a2 a3 a4 a5 a6 => hRp _ _ _ _ _ _ _ a1 a2 a3 a4 a5 a6)
  have h := qX_r h
  refine q_cv (va_runS (As := [.int x2, .int x3, .int x4]) (rest := []) ⟨hx, hb, hml, hown, hts⟩ (wX4_needPlaceNumbers l E  x2 x3 x4 vo3 e4 _) (va_cwS 3 hts gX4_change_X4_needPlaceNumbers rfl rfl rfl (by decide +kernel) ⟨Nat.le_of_ble_eq_true rfl, Nat.le_of_ble_eq_true rfl⟩) (q_preS hK hP hD q_nil) rfl rfl hl.1 rfl (lv_room (Nat.le_of_ble_eq_true rfl)) dX4_change_9 ⟨Nat.zero_le _, Nat.zero_le _⟩) hP hD hS hA q_nil q_nil.symm (fun H locs hP hD hS => ?_)
  exact (q_ml h).elim
def mX4_ask (vQ : Int32) (vN : SN) (x1 : Int32) (x2 : Int32) (x3 : Int32) (x4 : Int32) : Option (Sum String (Int32 × Int32 × SN)) := (mX4_needPlace vQ vN x3).bind fun o1 => qX o1 fun vo1 => (mX4_needWithin x1 0 3).bind fun o3 => qX o3 fun vo3 => (mX4_needWithin x2 0 100000).bind fun o5 => qX o5 fun vo5 => (mX4_needWithin x4 1 1000).bind fun o7 => qX o7 fun vo7 => if (N_asks vN) < 60 then (Option.map (fun z => Sum.inr z) (ck (N_asks vN) 60 (ck (N_asks vN) 60 ((mX1_addStep (N_starts_s (N_kinds_s (N_asks_s vN ((N_asks vN) + 1)) (upd (N_kinds vN) (Int32.toNatClampNeg (N_asks vN)) x1)) (upd (N_starts vN) (Int32.toNatClampNeg (N_asks vN)) x2)) (N_asks vN) x3 x4).bind fun o12 => some ((N_asks vN), 0, o12.2))))) else (some (Sum.inl "java/lang/UnsupportedOperationException"))
def rmX4_ask : Room := { frames := 2, cells := 0, slots := 0, locals := 46 }
set_option maxHeartbeats 8000000 in
set_option maxRecDepth 100000 in
theorem wX4_ask (l : Launch) (E : qE) (aQ : Nat) (aN : Nat → Nat) (aT : Nat → Nat) (aF : Nat → Nat) (aP : Nat → Nat) (aR : Nat → Nat) (vQ : Int32) (vN : SN) (x1 : Int32) (x2 : Int32) (x3 : Int32) (x4 : Int32) (o : Int32 × Int32 × SN) (h : mX4_ask vQ vN x1 x2 x3 x4 = some (Sum.inr o)) : MI l E yX4_ask wsX4_ask rmX4_ask [.ref aQ, .int x1, .int x2, .int x3, .int x4] (WQ aQ aN aT aF aP aR vQ ++ WN E aN vN) (WQ aQ aN aT aF aP aR o.2.1 ++ WN E aN o.2.2) o.1 := by
  refine q_startI (cc := cX4_ask) (maxL := 6) (by decide) rfl (Nat.le_of_ble_eq_true rfl) ?_
  intro pr e s m args below meth c A Q hx hb hml hown hts hK hRt hP hD hA hS ls hl
  have hl : lv_has ls 6 [(0, .ref aQ), (1, .int x1), (2, .int x2), (3, .int x3), (4, .int x4)] := hl
  have hinX1 : ∀ w ∈ wsX10, w ∈ wsX4_ask := by decide +kernel
  have hinX4 : ∀ w ∈ wsX40, w ∈ wsX4_ask := by decide +kernel
  have hw0 := hts (.constant RX4 70 (100000)) (by decide +kernel)
  have hw1 := hts (.fieldLink RX4 12 "QueueReader" "net" "LQueueReader$Net;") (by decide +kernel)
  have hw2 := hts (.fieldLink RX4 71 "QueueReader$Net" "asks" "I") (by decide +kernel)
  have hw3 := hts (.fieldLink RX4 76 "QueueReader$Net" "kinds" "[I") (by decide +kernel)
  have hw4 := hts (.fieldLink RX4 80 "QueueReader$Net" "starts" "[I") (by decide +kernel)
  have hw5 := hts (.fieldLink RX4 40 "QueueReader" "isPlayFresh" "Z") (by decide +kernel)
  unfold mX4_ask at h
  refine lv_aload_n hx hb dX4_ask_0 rfl (lv_at hl 0 rfl) ?_
  refine lv_iload_n hx hb dX4_ask_1 rfl (lv_at hl 3 rfl) ?_
  obtain ⟨o1, e2, h⟩ := q_bind h
  rcases o1 with Eo1 | vo1
  · cases h
  have h := qX_r h
  refine q_cv (va_runV (As := [.int x3]) (rest := []) ⟨hx, hb, hml, hown, hts⟩ (wX4_needPlace l E aQ aN aT aF aP aR vQ vN x3 vo1 e2 _) (cwV 1 hts gX4_ask_X4_needPlace rfl rfl rfl (by decide +kernel) ⟨Nat.le_of_ble_eq_true rfl, Nat.le_of_ble_eq_true rfl⟩) (q_preV hK hP hD q_idl 4 0 rfl rfl) rfl rfl hl.1 rfl (lv_room (Nat.le_of_ble_eq_true rfl)) dX4_ask_2 ⟨Nat.zero_le _, Nat.zero_le _⟩) hP hD hS hA q_idl q_idr (fun H locs hP hD hS => ?_)
  refine lv_iload_n hx hb dX4_ask_5 rfl (lv_at hl 1 rfl) ?_
  refine lv_iconst (v := 0) hx hb dX4_ask_6 (by decide) ?_
  refine lv_iconst (v := 3) hx hb dX4_ask_7 (by decide) ?_
  obtain ⟨o3, e4, h⟩ := q_bind h
  rcases o3 with Eo3 | vo3
  · cases h
  have h := qX_r h
  refine q_cv (va_runS (As := [.int x1, .int 0, .int 3]) (rest := []) ⟨hx, hb, hml, hown, hts⟩ (wX4_needWithin l E  x1 0 3 vo3 e4 _) (va_cwS 3 hts gX4_ask_X4_needWithin rfl rfl rfl (by decide +kernel) ⟨Nat.le_of_ble_eq_true rfl, Nat.le_of_ble_eq_true rfl⟩) (q_preS hK hP hD q_nil) rfl rfl hl.1 rfl (lv_room (Nat.le_of_ble_eq_true rfl)) dX4_ask_8 ⟨Nat.zero_le _, Nat.zero_le _⟩) hP hD hS hA q_nil q_nil.symm (fun H locs hP hD hS => ?_)
  refine lv_iload_n hx hb dX4_ask_11 rfl (lv_at hl 2 rfl) ?_
  refine lv_iconst (v := 0) hx hb dX4_ask_12 (by decide) ?_
  refine lv_ldc (v := 100000) hx hb hown hw0 dX4_ask_13 ?_
  obtain ⟨o5, e6, h⟩ := q_bind h
  rcases o5 with Eo5 | vo5
  · cases h
  have h := qX_r h
  refine q_cv (va_runS (As := [.int x2, .int 0, .int 100000]) (rest := []) ⟨hx, hb, hml, hown, hts⟩ (wX4_needWithin l E  x2 0 100000 vo5 e6 _) (va_cwS 3 hts gX4_ask_X4_needWithin rfl rfl rfl (by decide +kernel) ⟨Nat.le_of_ble_eq_true rfl, Nat.le_of_ble_eq_true rfl⟩) (q_preS hK hP hD q_nil) rfl rfl hl.1 rfl (lv_room (Nat.le_of_ble_eq_true rfl)) dX4_ask_15 ⟨Nat.zero_le _, Nat.zero_le _⟩) hP hD hS hA q_nil q_nil.symm (fun H locs hP hD hS => ?_)
  refine lv_iload hx hb dX4_ask_18 (lv_at hl 4 rfl) ?_
  refine lv_iconst (v := 1) hx hb dX4_ask_20 (by decide) ?_
  refine lv_sipush (v := 1000) hx hb dX4_ask_21 (by decide) ?_
  obtain ⟨o7, e8, h⟩ := q_bind h
  rcases o7 with Eo7 | vo7
  · cases h
  have h := qX_r h
  refine q_cv (va_runS (As := [.int x4, .int 1, .int 1000]) (rest := []) ⟨hx, hb, hml, hown, hts⟩ (wX4_needWithin l E  x4 1 1000 vo7 e8 _) (va_cwS 3 hts gX4_ask_X4_needWithin rfl rfl rfl (by decide +kernel) ⟨Nat.le_of_ble_eq_true rfl, Nat.le_of_ble_eq_true rfl⟩) (q_preS hK hP hD q_nil) rfl rfl hl.1 rfl (lv_room (Nat.le_of_ble_eq_true rfl)) dX4_ask_24 ⟨Nat.zero_le _, Nat.zero_le _⟩) hP hD hS hA q_nil q_nil.symm (fun H locs hP hD hS => ?_)
  refine lv_aload_n hx hb dX4_ask_27 rfl (lv_at hl 0 rfl) ?_
  refine va_get (D := E.1) (ci := 4) (v := .ref (aN 0)) (C := RX4) (T := TX4) (N := 6) hx hb hts hinX4 hown hK.1 hP 0 rfl rfl 0 (by decide) hw1 (fun _ h9 => h9) rfl dX4_ask_28 ?_
  refine va_get (D := E.1) (ci := 1) (v := .int (N_asks vN)) (C := RX1) (T := TX1) (N := 11) hx hb hts hinX1 hown hK.1 hP 1 rfl rfl 1 (by decide) hw2 (fun _ h9 => h9) rfl dX4_ask_31 ?_
  refine lv_bipush (v := 60) hx hb dX4_ask_34 (by decide) ?_
  refine lv_icmp_lt (tgt := 49) hx hb dX4_ask_36 (by decide) (fun c9 => ?_) (fun c9 => ?_)
  · have h := q_pos c9 h
    have h := q_mr h
    refine lv_aload_n hx hb dX4_ask_49 rfl (lv_at hl 0 rfl) ?_
    refine va_get (D := E.1) (ci := 4) (v := .ref (aN 0)) (C := RX4) (T := TX4) (N := 6) hx hb hts hinX4 hown hK.1 hP 0 rfl rfl 0 (by decide) hw1 (fun _ h9 => h9) rfl dX4_ask_50 ?_
    refine va_get (D := E.1) (ci := 1) (v := .int (N_asks vN)) (C := RX1) (T := TX1) (N := 11) hx hb hts hinX1 hown hK.1 hP 1 rfl rfl 1 (by decide) hw2 (fun _ h9 => h9) rfl dX4_ask_53 ?_
    refine lv_istore (lv' := [(5, .int (N_asks vN)), (0, .ref aQ), (1, .int x1), (2, .int x2), (3, .int x3), (4, .int x4)]) hx hb dX4_ask_56 hl (by decide) rfl (fun ls hl => ?_)
    refine lv_aload_n hx hb dX4_ask_58 rfl (lv_at hl 1 rfl) ?_
    refine va_get (D := E.1) (ci := 4) (v := .ref (aN 0)) (C := RX4) (T := TX4) (N := 6) hx hb hts hinX4 hown hK.1 hP 0 rfl rfl 0 (by decide) hw1 (fun _ h9 => h9) rfl dX4_ask_59 ?_
    refine lv_dup hx hb dX4_ask_62 rfl ?_
    refine va_get (D := E.1) (ci := 1) (v := .int (N_asks vN)) (C := RX1) (T := TX1) (N := 11) hx hb hts hinX1 hown hK.1 hP 1 rfl rfl 1 (by decide) hw2 (fun _ h9 => h9) rfl dX4_ask_63 ?_
    refine lv_iconst (v := 1) hx hb dX4_ask_66 (by decide) ?_
    refine lv_iadd hx hb dX4_ask_67 ?_
    refine va_put (D := E.1) (ci := 1) (v := .int ((N_asks vN) + 1)) (ty := .int) (C := RX1) (T := TX1) (N := 11) hx hb hts hinX1 tyX1 tyX1_ok nmX1 hown hK.1 hP hD hS 1 rfl rfl 1 (by decide) hw2 (fun _ h9 => h9) rfl (by decide +kernel) rfl rfl (Nat.le_of_ble_eq_true rfl) dX4_ask_68 (fun H locs hP hD hS => ?_)
    have hP : va_P E.1 vwCl (WQ aQ aN aT aF aP aR vQ ++ WN E aN (N_asks_s vN ((N_asks vN) + 1))) H := hP
    have hD : va_D A (WQ aQ aN aT aF aP aR vQ ++ WN E aN (N_asks_s vN ((N_asks vN) + 1))) := hD
    refine lv_aload_n hx hb dX4_ask_71 rfl (lv_at hl 1 rfl) ?_
    refine va_get (D := E.1) (ci := 4) (v := .ref (aN 0)) (C := RX4) (T := TX4) (N := 6) hx hb hts hinX4 hown hK.1 hP 0 rfl rfl 0 (by decide) hw1 (fun _ h9 => h9) rfl dX4_ask_72 ?_
    refine va_get (D := E.1) (ci := 1) (v := .ref (aN 4)) (C := RX1) (T := TX1) (N := 11) hx hb hts hinX1 hown hK.1 hP 1 rfl rfl 6 (by decide) hw3 (fun _ h9 => h9) rfl dX4_ask_75 ?_
    refine lv_iload hx hb dX4_ask_78 (lv_at hl 0 rfl) ?_
    refine lv_iload_n hx hb dX4_ask_80 rfl (lv_at hl 2 rfl) ?_
    obtain ⟨i10, h⟩ := q_ck h
    refine va_iast (f := (N_kinds vN)) hx hb hK.1 hP hD hS 5 0 rfl rfl i10 dX4_ask_81 (fun H locs hP hD hS => ?_)
    have hP : va_P E.1 vwCl (WQ aQ aN aT aF aP aR vQ ++ WN E aN (N_kinds_s (N_asks_s vN ((N_asks vN) + 1)) (upd (N_kinds vN) (Int32.toNatClampNeg (N_asks vN)) x1))) H := hP
    have hD : va_D A (WQ aQ aN aT aF aP aR vQ ++ WN E aN (N_kinds_s (N_asks_s vN ((N_asks vN) + 1)) (upd (N_kinds vN) (Int32.toNatClampNeg (N_asks vN)) x1))) := hD
    refine lv_aload_n hx hb dX4_ask_82 rfl (lv_at hl 1 rfl) ?_
    refine va_get (D := E.1) (ci := 4) (v := .ref (aN 0)) (C := RX4) (T := TX4) (N := 6) hx hb hts hinX4 hown hK.1 hP 0 rfl rfl 0 (by decide) hw1 (fun _ h9 => h9) rfl dX4_ask_83 ?_
    refine va_get (D := E.1) (ci := 1) (v := .ref (aN 5)) (C := RX1) (T := TX1) (N := 11) hx hb hts hinX1 hown hK.1 hP 1 rfl rfl 7 (by decide) hw4 (fun _ h9 => h9) rfl dX4_ask_86 ?_
    refine lv_iload hx hb dX4_ask_89 (lv_at hl 0 rfl) ?_
    refine lv_iload_n hx hb dX4_ask_91 rfl (lv_at hl 3 rfl) ?_
    obtain ⟨i11, h⟩ := q_ck h
    refine va_iast (f := (N_starts vN)) hx hb hK.1 hP hD hS 6 0 rfl rfl i11 dX4_ask_92 (fun H locs hP hD hS => ?_)
    have hP : va_P E.1 vwCl (WQ aQ aN aT aF aP aR vQ ++ WN E aN (N_starts_s (N_kinds_s (N_asks_s vN ((N_asks vN) + 1)) (upd (N_kinds vN) (Int32.toNatClampNeg (N_asks vN)) x1)) (upd (N_starts vN) (Int32.toNatClampNeg (N_asks vN)) x2))) H := hP
    have hD : va_D A (WQ aQ aN aT aF aP aR vQ ++ WN E aN (N_starts_s (N_kinds_s (N_asks_s vN ((N_asks vN) + 1)) (upd (N_kinds vN) (Int32.toNatClampNeg (N_asks vN)) x1)) (upd (N_starts vN) (Int32.toNatClampNeg (N_asks vN)) x2))) := hD
    refine lv_aload_n hx hb dX4_ask_93 rfl (lv_at hl 1 rfl) ?_
    refine va_get (D := E.1) (ci := 4) (v := .ref (aN 0)) (C := RX4) (T := TX4) (N := 6) hx hb hts hinX4 hown hK.1 hP 0 rfl rfl 0 (by decide) hw1 (fun _ h9 => h9) rfl dX4_ask_94 ?_
    refine lv_iload hx hb dX4_ask_97 (lv_at hl 0 rfl) ?_
    refine lv_iload_n hx hb dX4_ask_99 rfl (lv_at hl 4 rfl) ?_
    refine lv_iload hx hb dX4_ask_100 (lv_at hl 5 rfl) ?_
    obtain ⟨o12, e13, h⟩ := q_bind h
    refine q_ci (va_runV (As := [.int (N_asks vN), .int x3, .int x4]) (rest := []) ⟨hx, hb, hml, hown, hts⟩ (wX1_addStep l E aN (N_starts_s (N_kinds_s (N_asks_s vN ((N_asks vN) + 1)) (upd (N_kinds vN) (Int32.toNatClampNeg (N_asks vN)) x1)) (upd (N_starts vN) (Int32.toNatClampNeg (N_asks vN)) x2)) (N_asks vN) x3 x4 o12 e13 _) (cwV 3 hts gX4_ask_X1_addStep rfl rfl rfl (by decide +kernel) ⟨Nat.le_of_ble_eq_true rfl, Nat.le_of_ble_eq_true rfl⟩) (q_preV hK hP hD pm_2_1 1 1 rfl rfl) rfl rfl hl.1 rfl (lv_room (Nat.le_of_ble_eq_true rfl)) dX4_ask_102 ⟨Nat.zero_le _, Nat.zero_le _⟩) hP hD hS hA pm_2_1 pm_2_1.symm (fun H locs hP hD hS => ?_)
    refine lv_pop hx hb dX4_ask_105 rfl ?_
    refine lv_aload_n hx hb dX4_ask_106 rfl (lv_at hl 1 rfl) ?_
    refine lv_iconst (v := 0) hx hb dX4_ask_107 (by decide) ?_
    refine va_put (D := E.1) (ci := 4) (v := .int 0) (ty := .boolean) (C := RX4) (T := TX4) (N := 6) hx hb hts hinX4 tyX4 tyX4_ok nmX4 hown hK.1 hP hD hS 0 rfl rfl 5 (by decide) hw5 (fun _ h9 => h9) rfl (by decide +kernel) rfl rfl (Nat.le_of_ble_eq_true rfl) dX4_ask_108 (fun H locs hP hD hS => ?_)
    have hP : va_P E.1 vwCl (WQ aQ aN aT aF aP aR 0 ++ WN E aN o12.2) H := hP
    have hD : va_D A (WQ aQ aN aT aF aP aR 0 ++ WN E aN o12.2) := hD
    refine lv_iload hx hb dX4_ask_111 (lv_at hl 0 rfl) ?_
    obtain rfl := q_inj h
    exact hRt 113 _ _ _ dX4_ask_113 hP hD hS
  · have h := q_neg c9 h
    cases h
def rxX4_ask : Room := { frames := 7, cells := 1, slots := 6, locals := 112 }
set_option maxHeartbeats 8000000 in
set_option maxRecDepth 100000 in
theorem xX4_ask (l : Launch) (hfl : l.stackTraces = false) (E : qE) (aQ : Nat) (aN : Nat → Nat) (aT : Nat → Nat) (aF : Nat → Nat) (aP : Nat → Nat) (aR : Nat → Nat) (vQ : Int32) (vN : SN) (x1 : Int32) (x2 : Int32) (x3 : Int32) (x4 : Int32) (Ex : String) (h : mX4_ask vQ vN x1 x2 x3 x4 = some (Sum.inl Ex)) : XT l E yX4_ask wsX4_ask rxX4_ask [.ref aQ, .int x1, .int x2, .int x3, .int x4] (WQ aQ aN aT aF aP aR vQ ++ WN E aN vN) Ex := by
  refine q_startX (cc := cX4_ask) (maxL := 6) hfl (by decide) rfl (Nat.le_of_ble_eq_true rfl) (Nat.le_of_ble_eq_true rfl) (Nat.le_of_ble_eq_true rfl) (Nat.le_of_ble_eq_true rfl) (Nat.le_of_ble_eq_true rfl) ?_
  intro pr e s m args below meth c A Q hx hb hml hown hts hK hC hT hZ hRp hTh hTn hP hD hA hS ls hl
  have hl : lv_has ls 6 [(0, .ref aQ), (1, .int x1), (2, .int x2), (3, .int x3), (4, .int x4)] := hl
  have hinX1 : ∀ w ∈ wsX10, w ∈ wsX4_ask := by decide +kernel
  have hinX4 : ∀ w ∈ wsX40, w ∈ wsX4_ask := by decide +kernel
  have hw0 := hts (.constant RX4 70 (100000)) (by decide +kernel)
  have hw1 := hts (.fieldLink RX4 12 "QueueReader" "net" "LQueueReader$Net;") (by decide +kernel)
  have hw2 := hts (.fieldLink RX4 71 "QueueReader$Net" "asks" "I") (by decide +kernel)
  have hw3 := hts (.classLink RX4 52 "java/lang/UnsupportedOperationException") (by decide +kernel)
  have hw4 := hts (.initialized "java/lang/UnsupportedOperationException") (by decide +kernel)
  unfold mX4_ask at h
  refine lv_aload_n hx hb dX4_ask_0 rfl (lv_at hl 0 rfl) ?_
  refine lv_iload_n hx hb dX4_ask_1 rfl (lv_at hl 3 rfl) ?_
  obtain ⟨o1, e2, h⟩ := q_bind h
  rcases o1 with Eo1 | vo1
  · obtain rfl := q_injl h
    exact qx_c (vx_runV (As := [.int x3]) (rest := []) ⟨hx, hb, hml, hown, hts⟩ (xX4_needPlace l hfl E aQ aN aT aF aP aR vQ vN x3 _ e2 _) (cwV 1 hts gX4_ask_X4_needPlace rfl rfl rfl (by decide +kernel) ⟨Nat.le_of_ble_eq_true rfl, Nat.le_of_ble_eq_true rfl⟩) (qx_preV hK hC hT hZ hS hA hP hD q_idl 4 0 rfl rfl) rfl rfl hl.1 rfl (lv_room (Nat.le_of_ble_eq_true rfl)) dX4_ask_2 ⟨Nat.le_of_ble_eq_true rfl, Nat.le_of_ble_eq_true rfl⟩) hP hD hS hA q_idl (fun H1 locs1 q9 ce a1 a2 a3 a4 a5 a6 => hRp _ _ _ _ _ _ _ a1 a2 a3 a4 a5 a6)
  have h := qX_r h
  refine q_cv (va_runV (As := [.int x3]) (rest := []) ⟨hx, hb, hml, hown, hts⟩ (wX4_needPlace l E aQ aN aT aF aP aR vQ vN x3 vo1 e2 _) (cwV 1 hts gX4_ask_X4_needPlace rfl rfl rfl (by decide +kernel) ⟨Nat.le_of_ble_eq_true rfl, Nat.le_of_ble_eq_true rfl⟩) (q_preV hK hP hD q_idl 4 0 rfl rfl) rfl rfl hl.1 rfl (lv_room (Nat.le_of_ble_eq_true rfl)) dX4_ask_2 ⟨Nat.zero_le _, Nat.zero_le _⟩) hP hD hS hA q_idl q_idr (fun H locs hP hD hS => ?_)
  refine lv_iload_n hx hb dX4_ask_5 rfl (lv_at hl 1 rfl) ?_
  refine lv_iconst (v := 0) hx hb dX4_ask_6 (by decide) ?_
  refine lv_iconst (v := 3) hx hb dX4_ask_7 (by decide) ?_
  obtain ⟨o3, e4, h⟩ := q_bind h
  rcases o3 with Eo3 | vo3
  · obtain rfl := q_injl h
    exact qx_c (vx_runS (As := [.int x1, .int 0, .int 3]) (rest := []) ⟨hx, hb, hml, hown, hts⟩ (xX4_needWithin l hfl E  x1 0 3 _ e4 _) (va_cwS 3 hts gX4_ask_X4_needWithin rfl rfl rfl (by decide +kernel) ⟨Nat.le_of_ble_eq_true rfl, Nat.le_of_ble_eq_true rfl⟩) (qx_preS hK hC hT hZ hS hA hP hD q_nil) rfl rfl hl.1 rfl (lv_room (Nat.le_of_ble_eq_true rfl)) dX4_ask_8 ⟨Nat.le_of_ble_eq_true rfl, Nat.le_of_ble_eq_true rfl⟩) hP hD hS hA q_nil (fun H1 locs1 q9 ce a1 a2 a3 a4 a5 a6 => hRp _ _ _ _ _ _ _ a1 a2 a3 a4 a5 a6)
  have h := qX_r h
  refine q_cv (va_runS (As := [.int x1, .int 0, .int 3]) (rest := []) ⟨hx, hb, hml, hown, hts⟩ (wX4_needWithin l E  x1 0 3 vo3 e4 _) (va_cwS 3 hts gX4_ask_X4_needWithin rfl rfl rfl (by decide +kernel) ⟨Nat.le_of_ble_eq_true rfl, Nat.le_of_ble_eq_true rfl⟩) (q_preS hK hP hD q_nil) rfl rfl hl.1 rfl (lv_room (Nat.le_of_ble_eq_true rfl)) dX4_ask_8 ⟨Nat.zero_le _, Nat.zero_le _⟩) hP hD hS hA q_nil q_nil.symm (fun H locs hP hD hS => ?_)
  refine lv_iload_n hx hb dX4_ask_11 rfl (lv_at hl 2 rfl) ?_
  refine lv_iconst (v := 0) hx hb dX4_ask_12 (by decide) ?_
  refine lv_ldc (v := 100000) hx hb hown hw0 dX4_ask_13 ?_
  obtain ⟨o5, e6, h⟩ := q_bind h
  rcases o5 with Eo5 | vo5
  · obtain rfl := q_injl h
    exact qx_c (vx_runS (As := [.int x2, .int 0, .int 100000]) (rest := []) ⟨hx, hb, hml, hown, hts⟩ (xX4_needWithin l hfl E  x2 0 100000 _ e6 _) (va_cwS 3 hts gX4_ask_X4_needWithin rfl rfl rfl (by decide +kernel) ⟨Nat.le_of_ble_eq_true rfl, Nat.le_of_ble_eq_true rfl⟩) (qx_preS hK hC hT hZ hS hA hP hD q_nil) rfl rfl hl.1 rfl (lv_room (Nat.le_of_ble_eq_true rfl)) dX4_ask_15 ⟨Nat.le_of_ble_eq_true rfl, Nat.le_of_ble_eq_true rfl⟩) hP hD hS hA q_nil (fun H1 locs1 q9 ce a1 a2 a3 a4 a5 a6 => hRp _ _ _ _ _ _ _ a1 a2 a3 a4 a5 a6)
  have h := qX_r h
  refine q_cv (va_runS (As := [.int x2, .int 0, .int 100000]) (rest := []) ⟨hx, hb, hml, hown, hts⟩ (wX4_needWithin l E  x2 0 100000 vo5 e6 _) (va_cwS 3 hts gX4_ask_X4_needWithin rfl rfl rfl (by decide +kernel) ⟨Nat.le_of_ble_eq_true rfl, Nat.le_of_ble_eq_true rfl⟩) (q_preS hK hP hD q_nil) rfl rfl hl.1 rfl (lv_room (Nat.le_of_ble_eq_true rfl)) dX4_ask_15 ⟨Nat.zero_le _, Nat.zero_le _⟩) hP hD hS hA q_nil q_nil.symm (fun H locs hP hD hS => ?_)
  refine lv_iload hx hb dX4_ask_18 (lv_at hl 4 rfl) ?_
  refine lv_iconst (v := 1) hx hb dX4_ask_20 (by decide) ?_
  refine lv_sipush (v := 1000) hx hb dX4_ask_21 (by decide) ?_
  obtain ⟨o7, e8, h⟩ := q_bind h
  rcases o7 with Eo7 | vo7
  · obtain rfl := q_injl h
    exact qx_c (vx_runS (As := [.int x4, .int 1, .int 1000]) (rest := []) ⟨hx, hb, hml, hown, hts⟩ (xX4_needWithin l hfl E  x4 1 1000 _ e8 _) (va_cwS 3 hts gX4_ask_X4_needWithin rfl rfl rfl (by decide +kernel) ⟨Nat.le_of_ble_eq_true rfl, Nat.le_of_ble_eq_true rfl⟩) (qx_preS hK hC hT hZ hS hA hP hD q_nil) rfl rfl hl.1 rfl (lv_room (Nat.le_of_ble_eq_true rfl)) dX4_ask_24 ⟨Nat.le_of_ble_eq_true rfl, Nat.le_of_ble_eq_true rfl⟩) hP hD hS hA q_nil (fun H1 locs1 q9 ce a1 a2 a3 a4 a5 a6 => hRp _ _ _ _ _ _ _ a1 a2 a3 a4 a5 a6)
  have h := qX_r h
  refine q_cv (va_runS (As := [.int x4, .int 1, .int 1000]) (rest := []) ⟨hx, hb, hml, hown, hts⟩ (wX4_needWithin l E  x4 1 1000 vo7 e8 _) (va_cwS 3 hts gX4_ask_X4_needWithin rfl rfl rfl (by decide +kernel) ⟨Nat.le_of_ble_eq_true rfl, Nat.le_of_ble_eq_true rfl⟩) (q_preS hK hP hD q_nil) rfl rfl hl.1 rfl (lv_room (Nat.le_of_ble_eq_true rfl)) dX4_ask_24 ⟨Nat.zero_le _, Nat.zero_le _⟩) hP hD hS hA q_nil q_nil.symm (fun H locs hP hD hS => ?_)
  refine lv_aload_n hx hb dX4_ask_27 rfl (lv_at hl 0 rfl) ?_
  refine va_get (D := E.1) (ci := 4) (v := .ref (aN 0)) (C := RX4) (T := TX4) (N := 6) hx hb hts hinX4 hown hK.1 hP 0 rfl rfl 0 (by decide) hw1 (fun _ h9 => h9) rfl dX4_ask_28 ?_
  refine va_get (D := E.1) (ci := 1) (v := .int (N_asks vN)) (C := RX1) (T := TX1) (N := 11) hx hb hts hinX1 hown hK.1 hP 1 rfl rfl 1 (by decide) hw2 (fun _ h9 => h9) rfl dX4_ask_31 ?_
  refine lv_bipush (v := 60) hx hb dX4_ask_34 (by decide) ?_
  refine lv_icmp_lt (tgt := 49) hx hb dX4_ask_36 (by decide) (fun c9 => ?_) (fun c9 => ?_)
  · have h := q_pos c9 h
    exact (q_ml h).elim
  · have h := q_neg c9 h
    obtain rfl := q_injl h
    have hg1 : ∀ w ∈ (vx_atS RX4 56 "java/lang/UnsupportedOperationException" qNm).filter goodWord, w ∈ wsX4_ask := by decide +kernel
    have hat := vx_hat (L := (vx_atS RX4 56 "java/lang/UnsupportedOperationException" qNm)) (B := [.castable "java/lang/UnsupportedOperationException" "java/lang/UnsupportedOperationException", .declares (Bundle.initS "java/lang/RuntimeException"), .declares (Bundle.initS "java/lang/Exception"), .declares (Bundle.initS Bundle.tN)]) (fun w hw => hts w (hg1 w hw)) (by decide +kernel) (vx_c (va_Nw.use rfl hC.2.1) (vx_c (va_Nw.use rfl hC.2.2.2.2.1) (vx_c (va_Nw.use rfl hC.2.2.2.2.2.1) (vx_c (va_Nw.use rfl hC.2.2.2.2.2.2) vx_n))))
    exact hTh 52 74 56 "there are 60 asks" 39 _ _ _ _ (by decide +kernel) hw3 hw4 hT.2.1 hat (by decide +kernel) dX4_ask_39 dX4_ask_42 dX4_ask_43 dX4_ask_45 dX4_ask_48 hl.1 (Nat.le_of_ble_eq_true rfl) hP hD hS
def mX4_step (vQ : Int32) (vN : SN) (x1 : Int32) (x2 : Int32) (x3 : Int32) : Option (Sum String (Int32 × Int32 × SN)) := (mX4_needAsk vQ vN x1).bind fun o1 => qX o1 fun vo1 => (mX4_needPlace vQ vN x2).bind fun o3 => qX o3 fun vo3 => (mX4_needWithin x3 1 1000).bind fun o5 => qX o5 fun vo5 => Option.map (fun z => Sum.inr z) (ck x1 60 (if ((N_lengths vN) (Int32.toNatClampNeg x1)) < 5 then ((mX1_addStep vN x1 x2 x3).bind fun o9 => some (o9.1, 0, o9.2)) else (some ((-1), vQ, vN))))
def rmX4_step : Room := { frames := 2, cells := 0, slots := 0, locals := 46 }
set_option maxHeartbeats 8000000 in
set_option maxRecDepth 100000 in
theorem wX4_step (l : Launch) (E : qE) (aQ : Nat) (aN : Nat → Nat) (aT : Nat → Nat) (aF : Nat → Nat) (aP : Nat → Nat) (aR : Nat → Nat) (vQ : Int32) (vN : SN) (x1 : Int32) (x2 : Int32) (x3 : Int32) (o : Int32 × Int32 × SN) (h : mX4_step vQ vN x1 x2 x3 = some (Sum.inr o)) : MI l E yX4_step wsX4_step rmX4_step [.ref aQ, .int x1, .int x2, .int x3] (WQ aQ aN aT aF aP aR vQ ++ WN E aN vN) (WQ aQ aN aT aF aP aR o.2.1 ++ WN E aN o.2.2) o.1 := by
  refine q_startI (cc := cX4_step) (maxL := 4) (by decide) rfl (Nat.le_of_ble_eq_true rfl) ?_
  intro pr e s m args below meth c A Q hx hb hml hown hts hK hRt hP hD hA hS ls hl
  have hl : lv_has ls 4 [(0, .ref aQ), (1, .int x1), (2, .int x2), (3, .int x3)] := hl
  have hinX1 : ∀ w ∈ wsX10, w ∈ wsX4_step := by decide +kernel
  have hinX4 : ∀ w ∈ wsX40, w ∈ wsX4_step := by decide +kernel
  have hw0 := hts (.fieldLink RX4 12 "QueueReader" "net" "LQueueReader$Net;") (by decide +kernel)
  have hw1 := hts (.fieldLink RX4 90 "QueueReader$Net" "lengths" "[I") (by decide +kernel)
  have hw2 := hts (.fieldLink RX4 40 "QueueReader" "isPlayFresh" "Z") (by decide +kernel)
  unfold mX4_step at h
  refine lv_aload_n hx hb dX4_step_0 rfl (lv_at hl 0 rfl) ?_
  refine lv_iload_n hx hb dX4_step_1 rfl (lv_at hl 1 rfl) ?_
  obtain ⟨o1, e2, h⟩ := q_bind h
  rcases o1 with Eo1 | vo1
  · cases h
  have h := qX_r h
  refine q_cv (va_runV (As := [.int x1]) (rest := []) ⟨hx, hb, hml, hown, hts⟩ (wX4_needAsk l E aQ aN aT aF aP aR vQ vN x1 vo1 e2 _) (cwV 1 hts gX4_step_X4_needAsk rfl rfl rfl (by decide +kernel) ⟨Nat.le_of_ble_eq_true rfl, Nat.le_of_ble_eq_true rfl⟩) (q_preV hK hP hD q_idl 4 0 rfl rfl) rfl rfl hl.1 rfl (lv_room (Nat.le_of_ble_eq_true rfl)) dX4_step_2 ⟨Nat.zero_le _, Nat.zero_le _⟩) hP hD hS hA q_idl q_idr (fun H locs hP hD hS => ?_)
  refine lv_aload_n hx hb dX4_step_5 rfl (lv_at hl 0 rfl) ?_
  refine lv_iload_n hx hb dX4_step_6 rfl (lv_at hl 2 rfl) ?_
  obtain ⟨o3, e4, h⟩ := q_bind h
  rcases o3 with Eo3 | vo3
  · cases h
  have h := qX_r h
  refine q_cv (va_runV (As := [.int x2]) (rest := []) ⟨hx, hb, hml, hown, hts⟩ (wX4_needPlace l E aQ aN aT aF aP aR vQ vN x2 vo3 e4 _) (cwV 1 hts gX4_step_X4_needPlace rfl rfl rfl (by decide +kernel) ⟨Nat.le_of_ble_eq_true rfl, Nat.le_of_ble_eq_true rfl⟩) (q_preV hK hP hD q_idl 4 0 rfl rfl) rfl rfl hl.1 rfl (lv_room (Nat.le_of_ble_eq_true rfl)) dX4_step_7 ⟨Nat.zero_le _, Nat.zero_le _⟩) hP hD hS hA q_idl q_idr (fun H locs hP hD hS => ?_)
  refine lv_iload_n hx hb dX4_step_10 rfl (lv_at hl 3 rfl) ?_
  refine lv_iconst (v := 1) hx hb dX4_step_11 (by decide) ?_
  refine lv_sipush (v := 1000) hx hb dX4_step_12 (by decide) ?_
  obtain ⟨o5, e6, h⟩ := q_bind h
  rcases o5 with Eo5 | vo5
  · cases h
  have h := qX_r h
  refine q_cv (va_runS (As := [.int x3, .int 1, .int 1000]) (rest := []) ⟨hx, hb, hml, hown, hts⟩ (wX4_needWithin l E  x3 1 1000 vo5 e6 _) (va_cwS 3 hts gX4_step_X4_needWithin rfl rfl rfl (by decide +kernel) ⟨Nat.le_of_ble_eq_true rfl, Nat.le_of_ble_eq_true rfl⟩) (q_preS hK hP hD q_nil) rfl rfl hl.1 rfl (lv_room (Nat.le_of_ble_eq_true rfl)) dX4_step_15 ⟨Nat.zero_le _, Nat.zero_le _⟩) hP hD hS hA q_nil q_nil.symm (fun H locs hP hD hS => ?_)
  have h := q_mr h
  refine lv_aload_n hx hb dX4_step_18 rfl (lv_at hl 0 rfl) ?_
  refine va_get (D := E.1) (ci := 4) (v := .ref (aN 0)) (C := RX4) (T := TX4) (N := 6) hx hb hts hinX4 hown hK.1 hP 0 rfl rfl 0 (by decide) hw0 (fun _ h9 => h9) rfl dX4_step_19 ?_
  refine va_get (D := E.1) (ci := 1) (v := .ref (aN 6)) (C := RX1) (T := TX1) (N := 11) hx hb hts hinX1 hown hK.1 hP 1 rfl rfl 8 (by decide) hw1 (fun _ h9 => h9) rfl dX4_step_22 ?_
  refine lv_iload_n hx hb dX4_step_25 rfl (lv_at hl 1 rfl) ?_
  obtain ⟨i7, h⟩ := q_ck h
  refine va_iald (f := (N_lengths vN)) hx hb hK.1 hP 7 0 rfl rfl i7 dX4_step_26 ?_
  refine lv_iconst (v := 5) hx hb dX4_step_27 (by decide) ?_
  refine lv_icmp_lt (tgt := 33) hx hb dX4_step_28 (by decide) (fun c8 => ?_) (fun c8 => ?_)
  · have h := q_pos c8 h
    refine lv_aload_n hx hb dX4_step_33 rfl (lv_at hl 0 rfl) ?_
    refine lv_iconst (v := 0) hx hb dX4_step_34 (by decide) ?_
    refine va_put (D := E.1) (ci := 4) (v := .int 0) (ty := .boolean) (C := RX4) (T := TX4) (N := 6) hx hb hts hinX4 tyX4 tyX4_ok nmX4 hown hK.1 hP hD hS 0 rfl rfl 5 (by decide) hw2 (fun _ h9 => h9) rfl (by decide +kernel) rfl rfl (Nat.le_of_ble_eq_true rfl) dX4_step_35 (fun H locs hP hD hS => ?_)
    have hP : va_P E.1 vwCl (WQ aQ aN aT aF aP aR 0 ++ WN E aN vN) H := hP
    have hD : va_D A (WQ aQ aN aT aF aP aR 0 ++ WN E aN vN) := hD
    refine lv_aload_n hx hb dX4_step_38 rfl (lv_at hl 0 rfl) ?_
    refine va_get (D := E.1) (ci := 4) (v := .ref (aN 0)) (C := RX4) (T := TX4) (N := 6) hx hb hts hinX4 hown hK.1 hP 0 rfl rfl 0 (by decide) hw0 (fun _ h9 => h9) rfl dX4_step_39 ?_
    refine lv_iload_n hx hb dX4_step_42 rfl (lv_at hl 1 rfl) ?_
    refine lv_iload_n hx hb dX4_step_43 rfl (lv_at hl 2 rfl) ?_
    refine lv_iload_n hx hb dX4_step_44 rfl (lv_at hl 3 rfl) ?_
    obtain ⟨o9, e10, h⟩ := q_bind h
    refine q_ci (va_runV (As := [.int x1, .int x2, .int x3]) (rest := []) ⟨hx, hb, hml, hown, hts⟩ (wX1_addStep l E aN vN x1 x2 x3 o9 e10 _) (cwV 3 hts gX4_step_X1_addStep rfl rfl rfl (by decide +kernel) ⟨Nat.le_of_ble_eq_true rfl, Nat.le_of_ble_eq_true rfl⟩) (q_preV hK hP hD pm_2_1 1 1 rfl rfl) rfl rfl hl.1 rfl (lv_room (Nat.le_of_ble_eq_true rfl)) dX4_step_45 ⟨Nat.zero_le _, Nat.zero_le _⟩) hP hD hS hA pm_2_1 pm_2_1.symm (fun H locs hP hD hS => ?_)
    obtain rfl := q_inj h
    exact hRt 48 _ _ _ dX4_step_48 hP hD hS
  · have h := q_neg c8 h
    refine lv_iconst (v := (-1)) hx hb dX4_step_31 (by decide) ?_
    obtain rfl := q_inj h
    exact hRt 32 _ _ _ dX4_step_32 hP hD hS
def rxX4_step : Room := { frames := 7, cells := 1, slots := 6, locals := 112 }
set_option maxHeartbeats 8000000 in
set_option maxRecDepth 100000 in
theorem xX4_step (l : Launch) (hfl : l.stackTraces = false) (E : qE) (aQ : Nat) (aN : Nat → Nat) (aT : Nat → Nat) (aF : Nat → Nat) (aP : Nat → Nat) (aR : Nat → Nat) (vQ : Int32) (vN : SN) (x1 : Int32) (x2 : Int32) (x3 : Int32) (Ex : String) (h : mX4_step vQ vN x1 x2 x3 = some (Sum.inl Ex)) : XT l E yX4_step wsX4_step rxX4_step [.ref aQ, .int x1, .int x2, .int x3] (WQ aQ aN aT aF aP aR vQ ++ WN E aN vN) Ex := by
  refine q_startX (cc := cX4_step) (maxL := 4) hfl (by decide) rfl (Nat.le_of_ble_eq_true rfl) (Nat.le_of_ble_eq_true rfl) (Nat.le_of_ble_eq_true rfl) (Nat.le_of_ble_eq_true rfl) (Nat.le_of_ble_eq_true rfl) ?_
  intro pr e s m args below meth c A Q hx hb hml hown hts hK hC hT hZ hRp hTh hTn hP hD hA hS ls hl
  have hl : lv_has ls 4 [(0, .ref aQ), (1, .int x1), (2, .int x2), (3, .int x3)] := hl
  unfold mX4_step at h
  refine lv_aload_n hx hb dX4_step_0 rfl (lv_at hl 0 rfl) ?_
  refine lv_iload_n hx hb dX4_step_1 rfl (lv_at hl 1 rfl) ?_
  obtain ⟨o1, e2, h⟩ := q_bind h
  rcases o1 with Eo1 | vo1
  · obtain rfl := q_injl h
    exact qx_c (vx_runV (As := [.int x1]) (rest := []) ⟨hx, hb, hml, hown, hts⟩ (xX4_needAsk l hfl E aQ aN aT aF aP aR vQ vN x1 _ e2 _) (cwV 1 hts gX4_step_X4_needAsk rfl rfl rfl (by decide +kernel) ⟨Nat.le_of_ble_eq_true rfl, Nat.le_of_ble_eq_true rfl⟩) (qx_preV hK hC hT hZ hS hA hP hD q_idl 4 0 rfl rfl) rfl rfl hl.1 rfl (lv_room (Nat.le_of_ble_eq_true rfl)) dX4_step_2 ⟨Nat.le_of_ble_eq_true rfl, Nat.le_of_ble_eq_true rfl⟩) hP hD hS hA q_idl (fun H1 locs1 q9 ce a1 a2 a3 a4 a5 a6 => hRp _ _ _ _ _ _ _ a1 a2 a3 a4 a5 a6)
  have h := qX_r h
  refine q_cv (va_runV (As := [.int x1]) (rest := []) ⟨hx, hb, hml, hown, hts⟩ (wX4_needAsk l E aQ aN aT aF aP aR vQ vN x1 vo1 e2 _) (cwV 1 hts gX4_step_X4_needAsk rfl rfl rfl (by decide +kernel) ⟨Nat.le_of_ble_eq_true rfl, Nat.le_of_ble_eq_true rfl⟩) (q_preV hK hP hD q_idl 4 0 rfl rfl) rfl rfl hl.1 rfl (lv_room (Nat.le_of_ble_eq_true rfl)) dX4_step_2 ⟨Nat.zero_le _, Nat.zero_le _⟩) hP hD hS hA q_idl q_idr (fun H locs hP hD hS => ?_)
  refine lv_aload_n hx hb dX4_step_5 rfl (lv_at hl 0 rfl) ?_
  refine lv_iload_n hx hb dX4_step_6 rfl (lv_at hl 2 rfl) ?_
  obtain ⟨o3, e4, h⟩ := q_bind h
  rcases o3 with Eo3 | vo3
  · obtain rfl := q_injl h
    exact qx_c (vx_runV (As := [.int x2]) (rest := []) ⟨hx, hb, hml, hown, hts⟩ (xX4_needPlace l hfl E aQ aN aT aF aP aR vQ vN x2 _ e4 _) (cwV 1 hts gX4_step_X4_needPlace rfl rfl rfl (by decide +kernel) ⟨Nat.le_of_ble_eq_true rfl, Nat.le_of_ble_eq_true rfl⟩) (qx_preV hK hC hT hZ hS hA hP hD q_idl 4 0 rfl rfl) rfl rfl hl.1 rfl (lv_room (Nat.le_of_ble_eq_true rfl)) dX4_step_7 ⟨Nat.le_of_ble_eq_true rfl, Nat.le_of_ble_eq_true rfl⟩) hP hD hS hA q_idl (fun H1 locs1 q9 ce a1 a2 a3 a4 a5 a6 => hRp _ _ _ _ _ _ _ a1 a2 a3 a4 a5 a6)
  have h := qX_r h
  refine q_cv (va_runV (As := [.int x2]) (rest := []) ⟨hx, hb, hml, hown, hts⟩ (wX4_needPlace l E aQ aN aT aF aP aR vQ vN x2 vo3 e4 _) (cwV 1 hts gX4_step_X4_needPlace rfl rfl rfl (by decide +kernel) ⟨Nat.le_of_ble_eq_true rfl, Nat.le_of_ble_eq_true rfl⟩) (q_preV hK hP hD q_idl 4 0 rfl rfl) rfl rfl hl.1 rfl (lv_room (Nat.le_of_ble_eq_true rfl)) dX4_step_7 ⟨Nat.zero_le _, Nat.zero_le _⟩) hP hD hS hA q_idl q_idr (fun H locs hP hD hS => ?_)
  refine lv_iload_n hx hb dX4_step_10 rfl (lv_at hl 3 rfl) ?_
  refine lv_iconst (v := 1) hx hb dX4_step_11 (by decide) ?_
  refine lv_sipush (v := 1000) hx hb dX4_step_12 (by decide) ?_
  obtain ⟨o5, e6, h⟩ := q_bind h
  rcases o5 with Eo5 | vo5
  · obtain rfl := q_injl h
    exact qx_c (vx_runS (As := [.int x3, .int 1, .int 1000]) (rest := []) ⟨hx, hb, hml, hown, hts⟩ (xX4_needWithin l hfl E  x3 1 1000 _ e6 _) (va_cwS 3 hts gX4_step_X4_needWithin rfl rfl rfl (by decide +kernel) ⟨Nat.le_of_ble_eq_true rfl, Nat.le_of_ble_eq_true rfl⟩) (qx_preS hK hC hT hZ hS hA hP hD q_nil) rfl rfl hl.1 rfl (lv_room (Nat.le_of_ble_eq_true rfl)) dX4_step_15 ⟨Nat.le_of_ble_eq_true rfl, Nat.le_of_ble_eq_true rfl⟩) hP hD hS hA q_nil (fun H1 locs1 q9 ce a1 a2 a3 a4 a5 a6 => hRp _ _ _ _ _ _ _ a1 a2 a3 a4 a5 a6)
  have h := qX_r h
  refine q_cv (va_runS (As := [.int x3, .int 1, .int 1000]) (rest := []) ⟨hx, hb, hml, hown, hts⟩ (wX4_needWithin l E  x3 1 1000 vo5 e6 _) (va_cwS 3 hts gX4_step_X4_needWithin rfl rfl rfl (by decide +kernel) ⟨Nat.le_of_ble_eq_true rfl, Nat.le_of_ble_eq_true rfl⟩) (q_preS hK hP hD q_nil) rfl rfl hl.1 rfl (lv_room (Nat.le_of_ble_eq_true rfl)) dX4_step_15 ⟨Nat.zero_le _, Nat.zero_le _⟩) hP hD hS hA q_nil q_nil.symm (fun H locs hP hD hS => ?_)
  exact (q_ml h).elim
def mX4_seen (vQ : Int32) (vN : SN) (vT : ST) (x1 : Int32) (x2 : Int32) (x3 : Int32) (x4 : Int32) : Option (Sum String (ST)) := (mX4_needStep vQ vN x1 x2).bind fun o1 => qX o1 fun vo1 => (mX4_needWithin x3 0 10000000).bind fun o3 => qX o3 fun vo3 => (mX4_needWithin x4 0 10000000).bind fun o5 => qX o5 fun vo5 => if x3 < x4 then (Option.map (fun z => Sum.inr z) ((mX3_tell vT vo1 x3 x4).bind fun o8 => some o8)) else (some (Sum.inl "java/lang/IllegalArgumentException"))
def rmX4_seen : Room := { frames := 2, cells := 0, slots := 0, locals := 43 }
set_option maxHeartbeats 8000000 in
set_option maxRecDepth 100000 in
theorem wX4_seen (l : Launch) (E : qE) (aQ : Nat) (aN : Nat → Nat) (aT : Nat → Nat) (aF : Nat → Nat) (aP : Nat → Nat) (aR : Nat → Nat) (vQ : Int32) (vN : SN) (vT : ST) (x1 : Int32) (x2 : Int32) (x3 : Int32) (x4 : Int32) (o : ST) (h : mX4_seen vQ vN vT x1 x2 x3 x4 = some (Sum.inr o)) : MV l E yX4_seen wsX4_seen rmX4_seen [.ref aQ, .int x1, .int x2, .int x3, .int x4] (WQ aQ aN aT aF aP aR vQ ++ (WN E aN vN ++ WT E aT vT)) (WQ aQ aN aT aF aP aR vQ ++ (WN E aN vN ++ WT E aT o)) := by
  refine q_startV (cc := cX4_seen) (maxL := 6) (by decide) rfl (Nat.le_of_ble_eq_true rfl) ?_
  intro pr e s m args below meth c A Q hx hb hml hown hts hK hRt hP hD hA hS ls hl
  have hl : lv_has ls 6 [(0, .ref aQ), (1, .int x1), (2, .int x2), (3, .int x3), (4, .int x4)] := hl
  have hinX4 : ∀ w ∈ wsX40, w ∈ wsX4_seen := by decide +kernel
  have hw0 := hts (.constant RX4 97 (10000000)) (by decide +kernel)
  have hw1 := hts (.fieldLink RX4 19 "QueueReader" "told" "LQueueReader$Tracks;") (by decide +kernel)
  unfold mX4_seen at h
  refine lv_aload_n hx hb dX4_seen_0 rfl (lv_at hl 0 rfl) ?_
  refine lv_iload_n hx hb dX4_seen_1 rfl (lv_at hl 1 rfl) ?_
  refine lv_iload_n hx hb dX4_seen_2 rfl (lv_at hl 2 rfl) ?_
  obtain ⟨o1, e2, h⟩ := q_bind h
  rcases o1 with Eo1 | vo1
  · cases h
  have h := qX_r h
  refine q_ci (va_runV (As := [.int x1, .int x2]) (rest := []) ⟨hx, hb, hml, hown, hts⟩ (wX4_needStep l E aQ aN aT aF aP aR vQ vN x1 x2 vo1 e2 _) (cwV 2 hts gX4_seen_X4_needStep rfl rfl rfl (by decide +kernel) ⟨Nat.le_of_ble_eq_true rfl, Nat.le_of_ble_eq_true rfl⟩) (q_preV hK hP hD pm_3_01 4 0 rfl rfl) rfl rfl hl.1 rfl (lv_room (Nat.le_of_ble_eq_true rfl)) dX4_seen_3 ⟨Nat.zero_le _, Nat.zero_le _⟩) hP hD hS hA pm_3_01 pm_3_01.symm (fun H locs hP hD hS => ?_)
  refine lv_istore (lv' := [(5, .int vo1), (0, .ref aQ), (1, .int x1), (2, .int x2), (3, .int x3), (4, .int x4)]) hx hb dX4_seen_6 hl (by decide) rfl (fun ls hl => ?_)
  refine lv_iload_n hx hb dX4_seen_8 rfl (lv_at hl 4 rfl) ?_
  refine lv_iconst (v := 0) hx hb dX4_seen_9 (by decide) ?_
  refine lv_ldc (v := 10000000) hx hb hown hw0 dX4_seen_10 ?_
  obtain ⟨o3, e4, h⟩ := q_bind h
  rcases o3 with Eo3 | vo3
  · cases h
  have h := qX_r h
  refine q_cv (va_runS (As := [.int x3, .int 0, .int 10000000]) (rest := []) ⟨hx, hb, hml, hown, hts⟩ (wX4_needWithin l E  x3 0 10000000 vo3 e4 _) (va_cwS 3 hts gX4_seen_X4_needWithin rfl rfl rfl (by decide +kernel) ⟨Nat.le_of_ble_eq_true rfl, Nat.le_of_ble_eq_true rfl⟩) (q_preS hK hP hD q_nil) rfl rfl hl.1 rfl (lv_room (Nat.le_of_ble_eq_true rfl)) dX4_seen_12 ⟨Nat.zero_le _, Nat.zero_le _⟩) hP hD hS hA q_nil q_nil.symm (fun H locs hP hD hS => ?_)
  refine lv_iload hx hb dX4_seen_15 (lv_at hl 5 rfl) ?_
  refine lv_iconst (v := 0) hx hb dX4_seen_17 (by decide) ?_
  refine lv_ldc (v := 10000000) hx hb hown hw0 dX4_seen_18 ?_
  obtain ⟨o5, e6, h⟩ := q_bind h
  rcases o5 with Eo5 | vo5
  · cases h
  have h := qX_r h
  refine q_cv (va_runS (As := [.int x4, .int 0, .int 10000000]) (rest := []) ⟨hx, hb, hml, hown, hts⟩ (wX4_needWithin l E  x4 0 10000000 vo5 e6 _) (va_cwS 3 hts gX4_seen_X4_needWithin rfl rfl rfl (by decide +kernel) ⟨Nat.le_of_ble_eq_true rfl, Nat.le_of_ble_eq_true rfl⟩) (q_preS hK hP hD q_nil) rfl rfl hl.1 rfl (lv_room (Nat.le_of_ble_eq_true rfl)) dX4_seen_20 ⟨Nat.zero_le _, Nat.zero_le _⟩) hP hD hS hA q_nil q_nil.symm (fun H locs hP hD hS => ?_)
  refine lv_iload hx hb dX4_seen_23 (lv_at hl 5 rfl) ?_
  refine lv_iload_n hx hb dX4_seen_25 rfl (lv_at hl 4 rfl) ?_
  refine lv_icmp_gt (tgt := 39) hx hb dX4_seen_26 (by decide) (fun c7 => ?_) (fun c7 => ?_)
  · have h := q_pos c7 h
    have h := q_mr h
    refine lv_aload_n hx hb dX4_seen_39 rfl (lv_at hl 1 rfl) ?_
    refine va_get (D := E.1) (ci := 4) (v := .ref (aT 0)) (C := RX4) (T := TX4) (N := 6) hx hb hts hinX4 hown hK.1 hP 0 rfl rfl 1 (by decide) hw1 (fun _ h9 => h9) rfl dX4_seen_40 ?_
    refine lv_iload hx hb dX4_seen_43 (lv_at hl 0 rfl) ?_
    refine lv_iload_n hx hb dX4_seen_45 rfl (lv_at hl 4 rfl) ?_
    refine lv_iload hx hb dX4_seen_46 (lv_at hl 5 rfl) ?_
    obtain ⟨o8, e9, h⟩ := q_bind h
    refine q_cv (va_runV (As := [.int vo1, .int x3, .int x4]) (rest := []) ⟨hx, hb, hml, hown, hts⟩ (wX3_tell l E aT vT vo1 x3 x4 o8 e9 _) (cwV 3 hts gX4_seen_X3_tell rfl rfl rfl (by decide +kernel) ⟨Nat.le_of_ble_eq_true rfl, Nat.le_of_ble_eq_true rfl⟩) (q_preV hK hP hD pm_3_2 3 10 rfl rfl) rfl rfl hl.1 rfl (lv_room (Nat.le_of_ble_eq_true rfl)) dX4_seen_48 ⟨Nat.zero_le _, Nat.zero_le _⟩) hP hD hS hA pm_3_2 pm_3_2.symm (fun H locs hP hD hS => ?_)
    obtain rfl := q_inj h
    exact hRt 51 _ _ _ dX4_seen_51 hP hD hS
  · have h := q_neg c7 h
    cases h
def rxX4_seen : Room := { frames := 8, cells := 1, slots := 6, locals := 133 }
set_option maxHeartbeats 8000000 in
set_option maxRecDepth 100000 in
theorem xX4_seen (l : Launch) (hfl : l.stackTraces = false) (E : qE) (aQ : Nat) (aN : Nat → Nat) (aT : Nat → Nat) (aF : Nat → Nat) (aP : Nat → Nat) (aR : Nat → Nat) (vQ : Int32) (vN : SN) (vT : ST) (x1 : Int32) (x2 : Int32) (x3 : Int32) (x4 : Int32) (Ex : String) (h : mX4_seen vQ vN vT x1 x2 x3 x4 = some (Sum.inl Ex)) : XT l E yX4_seen wsX4_seen rxX4_seen [.ref aQ, .int x1, .int x2, .int x3, .int x4] (WQ aQ aN aT aF aP aR vQ ++ (WN E aN vN ++ WT E aT vT)) Ex := by
  refine q_startX (cc := cX4_seen) (maxL := 6) hfl (by decide) rfl (Nat.le_of_ble_eq_true rfl) (Nat.le_of_ble_eq_true rfl) (Nat.le_of_ble_eq_true rfl) (Nat.le_of_ble_eq_true rfl) (Nat.le_of_ble_eq_true rfl) ?_
  intro pr e s m args below meth c A Q hx hb hml hown hts hK hC hT hZ hRp hTh hTn hP hD hA hS ls hl
  have hl : lv_has ls 6 [(0, .ref aQ), (1, .int x1), (2, .int x2), (3, .int x3), (4, .int x4)] := hl
  have hw0 := hts (.constant RX4 97 (10000000)) (by decide +kernel)
  have hw1 := hts (.classLink RX4 98 "java/lang/IllegalArgumentException") (by decide +kernel)
  have hw2 := hts (.initialized "java/lang/IllegalArgumentException") (by decide +kernel)
  unfold mX4_seen at h
  refine lv_aload_n hx hb dX4_seen_0 rfl (lv_at hl 0 rfl) ?_
  refine lv_iload_n hx hb dX4_seen_1 rfl (lv_at hl 1 rfl) ?_
  refine lv_iload_n hx hb dX4_seen_2 rfl (lv_at hl 2 rfl) ?_
  obtain ⟨o1, e2, h⟩ := q_bind h
  rcases o1 with Eo1 | vo1
  · obtain rfl := q_injl h
    exact qx_c (vx_runV (As := [.int x1, .int x2]) (rest := []) ⟨hx, hb, hml, hown, hts⟩ (xX4_needStep l hfl E aQ aN aT aF aP aR vQ vN x1 x2 _ e2 _) (cwV 2 hts gX4_seen_X4_needStep rfl rfl rfl (by decide +kernel) ⟨Nat.le_of_ble_eq_true rfl, Nat.le_of_ble_eq_true rfl⟩) (qx_preV hK hC hT hZ hS hA hP hD pm_3_01 4 0 rfl rfl) rfl rfl hl.1 rfl (lv_room (Nat.le_of_ble_eq_true rfl)) dX4_seen_3 ⟨Nat.le_of_ble_eq_true rfl, Nat.le_of_ble_eq_true rfl⟩) hP hD hS hA pm_3_01 (fun H1 locs1 q9 ce a1 a2 a3 a4 a5 a6 => hRp _ _ _ _ _ _ _ a1 a2 a3 a4 a5 a6)
  have h := qX_r h
  refine q_ci (va_runV (As := [.int x1, .int x2]) (rest := []) ⟨hx, hb, hml, hown, hts⟩ (wX4_needStep l E aQ aN aT aF aP aR vQ vN x1 x2 vo1 e2 _) (cwV 2 hts gX4_seen_X4_needStep rfl rfl rfl (by decide +kernel) ⟨Nat.le_of_ble_eq_true rfl, Nat.le_of_ble_eq_true rfl⟩) (q_preV hK hP hD pm_3_01 4 0 rfl rfl) rfl rfl hl.1 rfl (lv_room (Nat.le_of_ble_eq_true rfl)) dX4_seen_3 ⟨Nat.zero_le _, Nat.zero_le _⟩) hP hD hS hA pm_3_01 pm_3_01.symm (fun H locs hP hD hS => ?_)
  refine lv_istore (lv' := [(5, .int vo1), (0, .ref aQ), (1, .int x1), (2, .int x2), (3, .int x3), (4, .int x4)]) hx hb dX4_seen_6 hl (by decide) rfl (fun ls hl => ?_)
  refine lv_iload_n hx hb dX4_seen_8 rfl (lv_at hl 4 rfl) ?_
  refine lv_iconst (v := 0) hx hb dX4_seen_9 (by decide) ?_
  refine lv_ldc (v := 10000000) hx hb hown hw0 dX4_seen_10 ?_
  obtain ⟨o3, e4, h⟩ := q_bind h
  rcases o3 with Eo3 | vo3
  · obtain rfl := q_injl h
    exact qx_c (vx_runS (As := [.int x3, .int 0, .int 10000000]) (rest := []) ⟨hx, hb, hml, hown, hts⟩ (xX4_needWithin l hfl E  x3 0 10000000 _ e4 _) (va_cwS 3 hts gX4_seen_X4_needWithin rfl rfl rfl (by decide +kernel) ⟨Nat.le_of_ble_eq_true rfl, Nat.le_of_ble_eq_true rfl⟩) (qx_preS hK hC hT hZ hS hA hP hD q_nil) rfl rfl hl.1 rfl (lv_room (Nat.le_of_ble_eq_true rfl)) dX4_seen_12 ⟨Nat.le_of_ble_eq_true rfl, Nat.le_of_ble_eq_true rfl⟩) hP hD hS hA q_nil (fun H1 locs1 q9 ce a1 a2 a3 a4 a5 a6 => hRp _ _ _ _ _ _ _ a1 a2 a3 a4 a5 a6)
  have h := qX_r h
  refine q_cv (va_runS (As := [.int x3, .int 0, .int 10000000]) (rest := []) ⟨hx, hb, hml, hown, hts⟩ (wX4_needWithin l E  x3 0 10000000 vo3 e4 _) (va_cwS 3 hts gX4_seen_X4_needWithin rfl rfl rfl (by decide +kernel) ⟨Nat.le_of_ble_eq_true rfl, Nat.le_of_ble_eq_true rfl⟩) (q_preS hK hP hD q_nil) rfl rfl hl.1 rfl (lv_room (Nat.le_of_ble_eq_true rfl)) dX4_seen_12 ⟨Nat.zero_le _, Nat.zero_le _⟩) hP hD hS hA q_nil q_nil.symm (fun H locs hP hD hS => ?_)
  refine lv_iload hx hb dX4_seen_15 (lv_at hl 5 rfl) ?_
  refine lv_iconst (v := 0) hx hb dX4_seen_17 (by decide) ?_
  refine lv_ldc (v := 10000000) hx hb hown hw0 dX4_seen_18 ?_
  obtain ⟨o5, e6, h⟩ := q_bind h
  rcases o5 with Eo5 | vo5
  · obtain rfl := q_injl h
    exact qx_c (vx_runS (As := [.int x4, .int 0, .int 10000000]) (rest := []) ⟨hx, hb, hml, hown, hts⟩ (xX4_needWithin l hfl E  x4 0 10000000 _ e6 _) (va_cwS 3 hts gX4_seen_X4_needWithin rfl rfl rfl (by decide +kernel) ⟨Nat.le_of_ble_eq_true rfl, Nat.le_of_ble_eq_true rfl⟩) (qx_preS hK hC hT hZ hS hA hP hD q_nil) rfl rfl hl.1 rfl (lv_room (Nat.le_of_ble_eq_true rfl)) dX4_seen_20 ⟨Nat.le_of_ble_eq_true rfl, Nat.le_of_ble_eq_true rfl⟩) hP hD hS hA q_nil (fun H1 locs1 q9 ce a1 a2 a3 a4 a5 a6 => hRp _ _ _ _ _ _ _ a1 a2 a3 a4 a5 a6)
  have h := qX_r h
  refine q_cv (va_runS (As := [.int x4, .int 0, .int 10000000]) (rest := []) ⟨hx, hb, hml, hown, hts⟩ (wX4_needWithin l E  x4 0 10000000 vo5 e6 _) (va_cwS 3 hts gX4_seen_X4_needWithin rfl rfl rfl (by decide +kernel) ⟨Nat.le_of_ble_eq_true rfl, Nat.le_of_ble_eq_true rfl⟩) (q_preS hK hP hD q_nil) rfl rfl hl.1 rfl (lv_room (Nat.le_of_ble_eq_true rfl)) dX4_seen_20 ⟨Nat.zero_le _, Nat.zero_le _⟩) hP hD hS hA q_nil q_nil.symm (fun H locs hP hD hS => ?_)
  refine lv_iload hx hb dX4_seen_23 (lv_at hl 5 rfl) ?_
  refine lv_iload_n hx hb dX4_seen_25 rfl (lv_at hl 4 rfl) ?_
  refine lv_icmp_gt (tgt := 39) hx hb dX4_seen_26 (by decide) (fun c7 => ?_) (fun c7 => ?_)
  · have h := q_pos c7 h
    exact (q_ml h).elim
  · have h := q_neg c7 h
    obtain rfl := q_injl h
    have hg1 : ∀ w ∈ (vx_atS RX4 102 "java/lang/IllegalArgumentException" qNm).filter goodWord, w ∈ wsX4_seen := by decide +kernel
    have hat := vx_hat (L := (vx_atS RX4 102 "java/lang/IllegalArgumentException" qNm)) (B := [.castable "java/lang/IllegalArgumentException" "java/lang/IllegalArgumentException", .declares (Bundle.initS "java/lang/RuntimeException"), .declares (Bundle.initS "java/lang/Exception"), .declares (Bundle.initS Bundle.tN)]) (fun w hw => hts w (hg1 w hw)) (by decide +kernel) (vx_c (va_Nw.use rfl hC.1) (vx_c (va_Nw.use rfl hC.2.2.2.2.1) (vx_c (va_Nw.use rfl hC.2.2.2.2.2.1) (vx_c (va_Nw.use rfl hC.2.2.2.2.2.2) vx_n))))
    exact hTh 98 100 102 "done is not later than begun" 29 _ _ _ _ (by decide +kernel) hw1 hw2 hT.2.2.1 hat (by decide +kernel) dX4_seen_29 dX4_seen_32 dX4_seen_33 dX4_seen_35 dX4_seen_38 hl.1 (Nat.le_of_ble_eq_true rfl) hP hD hS
def mX4_unsee (vQ : Int32) (vN : SN) (vT : ST) (x1 : Int32) (x2 : Int32) : Option (Sum String (Int32 × ST)) := (mX4_needStep vQ vN x1 x2).bind fun o1 => qX o1 fun vo1 => Option.map (fun z => Sum.inr z) (ck vo1 300 (ck vo1 300 (ckz ((T_isSeen vT) (Int32.toNatClampNeg vo1)) (some (((T_isSeen vT) (Int32.toNatClampNeg vo1)), (T_isSeen_s vT (upd (T_isSeen vT) (Int32.toNatClampNeg vo1) (vp_nar .boolean 0))))))))
def rmX4_unsee : Room := { frames := 2, cells := 0, slots := 0, locals := 43 }
set_option maxHeartbeats 8000000 in
set_option maxRecDepth 100000 in
theorem wX4_unsee (l : Launch) (E : qE) (aQ : Nat) (aN : Nat → Nat) (aT : Nat → Nat) (aF : Nat → Nat) (aP : Nat → Nat) (aR : Nat → Nat) (vQ : Int32) (vN : SN) (vT : ST) (x1 : Int32) (x2 : Int32) (o : Int32 × ST) (h : mX4_unsee vQ vN vT x1 x2 = some (Sum.inr o)) : MI l E yX4_unsee wsX4_unsee rmX4_unsee [.ref aQ, .int x1, .int x2] (WQ aQ aN aT aF aP aR vQ ++ (WN E aN vN ++ WT E aT vT)) (WQ aQ aN aT aF aP aR vQ ++ (WN E aN vN ++ WT E aT o.2)) o.1 := by
  refine q_startZ (cc := cX4_unsee) (maxL := 5) (by decide) rfl (Nat.le_of_ble_eq_true rfl) ?_
  intro pr e s m args below meth c A Q hx hb hml hown hts hK hRt hP hD hA hS ls hl
  have hl : lv_has ls 5 [(0, .ref aQ), (1, .int x1), (2, .int x2)] := hl
  have hinX3 : ∀ w ∈ wsX30, w ∈ wsX4_unsee := by decide +kernel
  have hinX4 : ∀ w ∈ wsX40, w ∈ wsX4_unsee := by decide +kernel
  have hw0 := hts (.fieldLink RX4 19 "QueueReader" "told" "LQueueReader$Tracks;") (by decide +kernel)
  have hw1 := hts (.fieldLink RX4 106 "QueueReader$Tracks" "isSeen" "[Z") (by decide +kernel)
  unfold mX4_unsee at h
  refine lv_aload_n hx hb dX4_unsee_0 rfl (lv_at hl 0 rfl) ?_
  refine lv_iload_n hx hb dX4_unsee_1 rfl (lv_at hl 1 rfl) ?_
  refine lv_iload_n hx hb dX4_unsee_2 rfl (lv_at hl 2 rfl) ?_
  obtain ⟨o1, e2, h⟩ := q_bind h
  rcases o1 with Eo1 | vo1
  · cases h
  have h := qX_r h
  refine q_ci (va_runV (As := [.int x1, .int x2]) (rest := []) ⟨hx, hb, hml, hown, hts⟩ (wX4_needStep l E aQ aN aT aF aP aR vQ vN x1 x2 vo1 e2 _) (cwV 2 hts gX4_unsee_X4_needStep rfl rfl rfl (by decide +kernel) ⟨Nat.le_of_ble_eq_true rfl, Nat.le_of_ble_eq_true rfl⟩) (q_preV hK hP hD pm_3_01 4 0 rfl rfl) rfl rfl hl.1 rfl (lv_room (Nat.le_of_ble_eq_true rfl)) dX4_unsee_3 ⟨Nat.zero_le _, Nat.zero_le _⟩) hP hD hS hA pm_3_01 pm_3_01.symm (fun H locs hP hD hS => ?_)
  have h := q_mr h
  refine lv_istore_n (lv' := [(3, .int vo1), (0, .ref aQ), (1, .int x1), (2, .int x2)]) hx hb dX4_unsee_6 rfl hl (by decide) rfl (fun ls hl => ?_)
  refine lv_aload_n hx hb dX4_unsee_7 rfl (lv_at hl 1 rfl) ?_
  refine va_get (D := E.1) (ci := 4) (v := .ref (aT 0)) (C := RX4) (T := TX4) (N := 6) hx hb hts hinX4 hown hK.1 hP 0 rfl rfl 1 (by decide) hw0 (fun _ h9 => h9) rfl dX4_unsee_8 ?_
  refine va_get (D := E.1) (ci := 3) (v := .ref (aT 1)) (C := RX3) (T := TX3) (N := 3) hx hb hts hinX3 hown hK.1 hP 10 rfl rfl 0 (by decide) hw1 (fun _ h9 => h9) rfl dX4_unsee_11 ?_
  refine lv_iload_n hx hb dX4_unsee_14 rfl (lv_at hl 0 rfl) ?_
  obtain ⟨i3, h⟩ := q_ck h
  refine va_zald (f := (T_isSeen vT)) hx hb hK.1 hP 11 2 rfl rfl i3 dX4_unsee_15 ?_
  refine lv_istore (lv' := [(4, .int ((T_isSeen vT) (Int32.toNatClampNeg vo1))), (3, .int vo1), (0, .ref aQ), (1, .int x1), (2, .int x2)]) hx hb dX4_unsee_16 hl (by decide) rfl (fun ls hl => ?_)
  refine lv_aload_n hx hb dX4_unsee_18 rfl (lv_at hl 2 rfl) ?_
  refine va_get (D := E.1) (ci := 4) (v := .ref (aT 0)) (C := RX4) (T := TX4) (N := 6) hx hb hts hinX4 hown hK.1 hP 0 rfl rfl 1 (by decide) hw0 (fun _ h9 => h9) rfl dX4_unsee_19 ?_
  refine va_get (D := E.1) (ci := 3) (v := .ref (aT 1)) (C := RX3) (T := TX3) (N := 3) hx hb hts hinX3 hown hK.1 hP 10 rfl rfl 0 (by decide) hw1 (fun _ h9 => h9) rfl dX4_unsee_22 ?_
  refine lv_iload_n hx hb dX4_unsee_25 rfl (lv_at hl 1 rfl) ?_
  refine lv_iconst (v := 0) hx hb dX4_unsee_26 (by decide) ?_
  obtain ⟨i4, h⟩ := q_ck h
  refine va_zast (f := (T_isSeen vT)) hx hb hK.1 hP hD hS 11 2 rfl rfl i4 dX4_unsee_27 (fun H locs hP hD hS => ?_)
  have hP : va_P E.1 vwCl (WQ aQ aN aT aF aP aR vQ ++ (WN E aN vN ++ WT E aT (T_isSeen_s vT (upd (T_isSeen vT) (Int32.toNatClampNeg vo1) (vp_nar .boolean 0))))) H := hP
  have hD : va_D A (WQ aQ aN aT aF aP aR vQ ++ (WN E aN vN ++ WT E aT (T_isSeen_s vT (upd (T_isSeen vT) (Int32.toNatClampNeg vo1) (vp_nar .boolean 0))))) := hD
  refine lv_iload hx hb dX4_unsee_28 (lv_at hl 0 rfl) ?_
  obtain ⟨hz, h⟩ := q_ckz h
  obtain rfl := q_inj h
  exact hRt 30 _ _ _ dX4_unsee_30 hz hP hD hS
def rxX4_unsee : Room := { frames := 8, cells := 1, slots := 6, locals := 133 }
set_option maxHeartbeats 8000000 in
set_option maxRecDepth 100000 in
theorem xX4_unsee (l : Launch) (hfl : l.stackTraces = false) (E : qE) (aQ : Nat) (aN : Nat → Nat) (aT : Nat → Nat) (aF : Nat → Nat) (aP : Nat → Nat) (aR : Nat → Nat) (vQ : Int32) (vN : SN) (vT : ST) (x1 : Int32) (x2 : Int32) (Ex : String) (h : mX4_unsee vQ vN vT x1 x2 = some (Sum.inl Ex)) : XT l E yX4_unsee wsX4_unsee rxX4_unsee [.ref aQ, .int x1, .int x2] (WQ aQ aN aT aF aP aR vQ ++ (WN E aN vN ++ WT E aT vT)) Ex := by
  refine q_startX (cc := cX4_unsee) (maxL := 5) hfl (by decide) rfl (Nat.le_of_ble_eq_true rfl) (Nat.le_of_ble_eq_true rfl) (Nat.le_of_ble_eq_true rfl) (Nat.le_of_ble_eq_true rfl) (Nat.le_of_ble_eq_true rfl) ?_
  intro pr e s m args below meth c A Q hx hb hml hown hts hK hC hT hZ hRp hTh hTn hP hD hA hS ls hl
  have hl : lv_has ls 5 [(0, .ref aQ), (1, .int x1), (2, .int x2)] := hl
  unfold mX4_unsee at h
  refine lv_aload_n hx hb dX4_unsee_0 rfl (lv_at hl 0 rfl) ?_
  refine lv_iload_n hx hb dX4_unsee_1 rfl (lv_at hl 1 rfl) ?_
  refine lv_iload_n hx hb dX4_unsee_2 rfl (lv_at hl 2 rfl) ?_
  obtain ⟨o1, e2, h⟩ := q_bind h
  rcases o1 with Eo1 | vo1
  · obtain rfl := q_injl h
    exact qx_c (vx_runV (As := [.int x1, .int x2]) (rest := []) ⟨hx, hb, hml, hown, hts⟩ (xX4_needStep l hfl E aQ aN aT aF aP aR vQ vN x1 x2 _ e2 _) (cwV 2 hts gX4_unsee_X4_needStep rfl rfl rfl (by decide +kernel) ⟨Nat.le_of_ble_eq_true rfl, Nat.le_of_ble_eq_true rfl⟩) (qx_preV hK hC hT hZ hS hA hP hD pm_3_01 4 0 rfl rfl) rfl rfl hl.1 rfl (lv_room (Nat.le_of_ble_eq_true rfl)) dX4_unsee_3 ⟨Nat.le_of_ble_eq_true rfl, Nat.le_of_ble_eq_true rfl⟩) hP hD hS hA pm_3_01 (fun H1 locs1 q9 ce a1 a2 a3 a4 a5 a6 => hRp _ _ _ _ _ _ _ a1 a2 a3 a4 a5 a6)
  have h := qX_r h
  refine q_ci (va_runV (As := [.int x1, .int x2]) (rest := []) ⟨hx, hb, hml, hown, hts⟩ (wX4_needStep l E aQ aN aT aF aP aR vQ vN x1 x2 vo1 e2 _) (cwV 2 hts gX4_unsee_X4_needStep rfl rfl rfl (by decide +kernel) ⟨Nat.le_of_ble_eq_true rfl, Nat.le_of_ble_eq_true rfl⟩) (q_preV hK hP hD pm_3_01 4 0 rfl rfl) rfl rfl hl.1 rfl (lv_room (Nat.le_of_ble_eq_true rfl)) dX4_unsee_3 ⟨Nat.zero_le _, Nat.zero_le _⟩) hP hD hS hA pm_3_01 pm_3_01.symm (fun H locs hP hD hS => ?_)
  exact (q_ml h).elim
