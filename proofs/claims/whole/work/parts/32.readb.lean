def mX4_refreshPlay (vQ : Int32) (vN : SN) (vP : SP)  : Option (Int32 × SP) := if vQ = 0 then ((mX2_run vP vN (-1)).bind fun o2 => some (1, o2)) else (some (vQ, vP))
def rmX4_refreshPlay : Room := { frames := 5, cells := 0, slots := 0, locals := 115 }
set_option maxHeartbeats 8000000 in
set_option maxRecDepth 100000 in
theorem wX4_refreshPlay (l : Launch) (E : qE) (aQ : Nat) (aN : Nat → Nat) (aT : Nat → Nat) (aF : Nat → Nat) (aP : Nat → Nat) (aR : Nat → Nat) (vQ : Int32) (vN : SN) (vP : SP)  (o : Int32 × SP) (h : mX4_refreshPlay vQ vN vP = some o) : MV l E yX4_refreshPlay wsX4_refreshPlay rmX4_refreshPlay [.ref aQ] (WQ aQ aN aT aF aP aR vQ ++ (WN E aN vN ++ WP E aP vP)) (WQ aQ aN aT aF aP aR o.1 ++ (WN E aN vN ++ WP E aP o.2)) := by
  refine q_startV (cc := cX4_refreshPlay) (maxL := 1) (by decide) rfl (Nat.le_of_ble_eq_true rfl) ?_
  intro pr e s m args below meth c A Q hx hb hml hown hts hK hRt hP hD hA hS ls hl
  have hl : lv_has ls 1 [(0, .ref aQ)] := hl
  have hinX4 : ∀ w ∈ wsX40, w ∈ wsX4_refreshPlay := by decide +kernel
  have hw0 := hts (.fieldLink RX4 40 "QueueReader" "isPlayFresh" "Z") (by decide +kernel)
  have hw1 := hts (.fieldLink RX4 33 "QueueReader" "play" "LQueueReader$Play;") (by decide +kernel)
  have hw2 := hts (.fieldLink RX4 12 "QueueReader" "net" "LQueueReader$Net;") (by decide +kernel)
  unfold mX4_refreshPlay at h
  refine lv_aload_n hx hb dX4_refreshPlay_0 rfl (lv_at hl 0 rfl) ?_
  refine va_get (D := E.1) (ci := 4) (v := .int vQ) (C := RX4) (T := TX4) (N := 6) hx hb hts hinX4 hown hK.1 hP 0 rfl rfl 5 (by decide) hw0 (fun _ h9 => h9) rfl dX4_refreshPlay_1 ?_
  refine lv_if_ne (tgt := 24) hx hb dX4_refreshPlay_4 (by decide) (fun c1 => ?_) (fun c1 => ?_)
  · have h := q_neg c1 h
    obtain rfl := q_inj h
    exact hRt 24 _ _ _ dX4_refreshPlay_24 hP hD hS
  · have h := q_pos c1 h
    refine lv_aload_n hx hb dX4_refreshPlay_7 rfl (lv_at hl 0 rfl) ?_
    refine va_get (D := E.1) (ci := 4) (v := .ref (aP 0)) (C := RX4) (T := TX4) (N := 6) hx hb hts hinX4 hown hK.1 hP 0 rfl rfl 3 (by decide) hw1 (fun _ h9 => h9) rfl dX4_refreshPlay_8 ?_
    refine lv_aload_n hx hb dX4_refreshPlay_11 rfl (lv_at hl 0 rfl) ?_
    refine va_get (D := E.1) (ci := 4) (v := .ref (aN 0)) (C := RX4) (T := TX4) (N := 6) hx hb hts hinX4 hown hK.1 hP 0 rfl rfl 0 (by decide) hw2 (fun _ h9 => h9) rfl dX4_refreshPlay_12 ?_
    refine lv_iconst (v := (-1)) hx hb dX4_refreshPlay_15 (by decide) ?_
    obtain ⟨o2, e3, h⟩ := q_bind h
    refine q_cv (va_runV (As := [.ref (aN 0), .int (-1)]) (rest := []) ⟨hx, hb, hml, hown, hts⟩ (wX2_run l E aP aN vP vN (-1) o2 e3 _) (cwV 2 hts gX4_refreshPlay_X2_run rfl rfl rfl (by decide +kernel) ⟨Nat.le_of_ble_eq_true rfl, Nat.le_of_ble_eq_true rfl⟩) (q_preV hK hP hD pm_3_21 2 10 rfl rfl) rfl rfl hl.1 rfl (lv_room (Nat.le_of_ble_eq_true rfl)) dX4_refreshPlay_16 ⟨Nat.zero_le _, Nat.zero_le _⟩) hP hD hS hA pm_3_21 pm_3_21.symm (fun H locs hP hD hS => ?_)
    refine lv_aload_n hx hb dX4_refreshPlay_19 rfl (lv_at hl 0 rfl) ?_
    refine lv_iconst (v := 1) hx hb dX4_refreshPlay_20 (by decide) ?_
    refine va_put (D := E.1) (ci := 4) (v := .int 1) (ty := .boolean) (C := RX4) (T := TX4) (N := 6) hx hb hts hinX4 tyX4 tyX4_ok nmX4 hown hK.1 hP hD hS 0 rfl rfl 5 (by decide) hw0 (fun _ h9 => h9) rfl (by decide +kernel) rfl rfl (Nat.le_of_ble_eq_true rfl) dX4_refreshPlay_21 (fun H locs hP hD hS => ?_)
    have hP : va_P E.1 vwCl (WQ aQ aN aT aF aP aR 1 ++ (WN E aN vN ++ WP E aP o2)) H := hP
    have hD : va_D A (WQ aQ aN aT aF aP aR 1 ++ (WN E aN vN ++ WP E aP o2)) := hD
    obtain rfl := q_inj h
    exact hRt 24 _ _ _ dX4_refreshPlay_24 hP hD hS
def mX4_gainAt (vQ : Int32) (vN : SN) (vP : SP) (vR : SP) (x1 : Int32) : Option (Int64 × SP) := (mX2_run vR vN x1).bind fun o1 => (mX2_sumOfTimes vP vN).bind fun o3 => (mX2_sumOfTimes o1 vN).bind fun o5 => some ((o3 - o5), o1)
def rmX4_gainAt : Room := { frames := 5, cells := 0, slots := 0, locals := 115 }
set_option maxHeartbeats 8000000 in
set_option maxRecDepth 100000 in
theorem wX4_gainAt (l : Launch) (E : qE) (aQ : Nat) (aN : Nat → Nat) (aT : Nat → Nat) (aF : Nat → Nat) (aP : Nat → Nat) (aR : Nat → Nat) (vQ : Int32) (vN : SN) (vP : SP) (vR : SP) (x1 : Int32) (o : Int64 × SP) (h : mX4_gainAt vQ vN vP vR x1 = some o) : ML l E yX4_gainAt wsX4_gainAt rmX4_gainAt [.ref aQ, .int x1] (WQ aQ aN aT aF aP aR vQ ++ (WN E aN vN ++ (WP E aP vP ++ WP E aR vR))) (WQ aQ aN aT aF aP aR vQ ++ (WN E aN vN ++ (WP E aP vP ++ WP E aR o.2))) o.1 := by
  refine q_startL (cc := cX4_gainAt) (maxL := 2) (by decide) rfl (Nat.le_of_ble_eq_true rfl) ?_
  intro pr e s m args below meth c A Q hx hb hml hown hts hK hRt hP hD hA hS ls hl
  have hl : lv_has ls 2 [(0, .ref aQ), (1, .int x1)] := hl
  have hinX4 : ∀ w ∈ wsX40, w ∈ wsX4_gainAt := by decide +kernel
  have hw0 := hts (.fieldLink RX4 37 "QueueReader" "trial" "LQueueReader$Play;") (by decide +kernel)
  have hw1 := hts (.fieldLink RX4 12 "QueueReader" "net" "LQueueReader$Net;") (by decide +kernel)
  have hw2 := hts (.fieldLink RX4 33 "QueueReader" "play" "LQueueReader$Play;") (by decide +kernel)
  unfold mX4_gainAt at h
  refine lv_aload_n hx hb dX4_gainAt_0 rfl (lv_at hl 0 rfl) ?_
  refine va_get (D := E.1) (ci := 4) (v := .ref (aR 0)) (C := RX4) (T := TX4) (N := 6) hx hb hts hinX4 hown hK.1 hP 0 rfl rfl 4 (by decide) hw0 (fun _ h9 => h9) rfl dX4_gainAt_1 ?_
  refine lv_aload_n hx hb dX4_gainAt_4 rfl (lv_at hl 0 rfl) ?_
  refine va_get (D := E.1) (ci := 4) (v := .ref (aN 0)) (C := RX4) (T := TX4) (N := 6) hx hb hts hinX4 hown hK.1 hP 0 rfl rfl 0 (by decide) hw1 (fun _ h9 => h9) rfl dX4_gainAt_5 ?_
  refine lv_iload_n hx hb dX4_gainAt_8 rfl (lv_at hl 1 rfl) ?_
  obtain ⟨o1, e2, h⟩ := q_bind h
  refine q_cv (va_runV (As := [.ref (aN 0), .int x1]) (rest := []) ⟨hx, hb, hml, hown, hts⟩ (wX2_run l E aR aN vR vN x1 o1 e2 _) (cwV 2 hts gX4_gainAt_X2_run rfl rfl rfl (by decide +kernel) ⟨Nat.le_of_ble_eq_true rfl, Nat.le_of_ble_eq_true rfl⟩) (q_preV hK hP hD pm_4_31 2 19 rfl rfl) rfl rfl hl.1 rfl (lv_room (Nat.le_of_ble_eq_true rfl)) dX4_gainAt_9 ⟨Nat.zero_le _, Nat.zero_le _⟩) hP hD hS hA pm_4_31 pm_4_31.symm (fun H locs hP hD hS => ?_)
  refine lv_aload_n hx hb dX4_gainAt_12 rfl (lv_at hl 0 rfl) ?_
  refine va_get (D := E.1) (ci := 4) (v := .ref (aP 0)) (C := RX4) (T := TX4) (N := 6) hx hb hts hinX4 hown hK.1 hP 0 rfl rfl 3 (by decide) hw2 (fun _ h9 => h9) rfl dX4_gainAt_13 ?_
  refine lv_aload_n hx hb dX4_gainAt_16 rfl (lv_at hl 0 rfl) ?_
  refine va_get (D := E.1) (ci := 4) (v := .ref (aN 0)) (C := RX4) (T := TX4) (N := 6) hx hb hts hinX4 hown hK.1 hP 0 rfl rfl 0 (by decide) hw1 (fun _ h9 => h9) rfl dX4_gainAt_17 ?_
  obtain ⟨o3, e4, h⟩ := q_bind h
  refine q_cl (va_runV (As := [.ref (aN 0)]) (rest := []) ⟨hx, hb, hml, hown, hts⟩ (wX2_sumOfTimes l E aP aN vP vN o3 e4 _) (cwV 1 hts gX4_gainAt_X2_sumOfTimes rfl rfl rfl (by decide +kernel) ⟨Nat.le_of_ble_eq_true rfl, Nat.le_of_ble_eq_true rfl⟩) (q_preV hK hP hD pm_4_21 2 10 rfl rfl) rfl rfl hl.1 rfl (lv_room (Nat.le_of_ble_eq_true rfl)) dX4_gainAt_20 ⟨Nat.zero_le _, Nat.zero_le _⟩) hP hD hS hA pm_4_21 pm_4_21.symm (fun H locs hP hD hS => ?_)
  refine lv_aload_n hx hb dX4_gainAt_23 rfl (lv_at hl 0 rfl) ?_
  refine va_get (D := E.1) (ci := 4) (v := .ref (aR 0)) (C := RX4) (T := TX4) (N := 6) hx hb hts hinX4 hown hK.1 hP 0 rfl rfl 4 (by decide) hw0 (fun _ h9 => h9) rfl dX4_gainAt_24 ?_
  refine lv_aload_n hx hb dX4_gainAt_27 rfl (lv_at hl 0 rfl) ?_
  refine va_get (D := E.1) (ci := 4) (v := .ref (aN 0)) (C := RX4) (T := TX4) (N := 6) hx hb hts hinX4 hown hK.1 hP 0 rfl rfl 0 (by decide) hw1 (fun _ h9 => h9) rfl dX4_gainAt_28 ?_
  obtain ⟨o5, e6, h⟩ := q_bind h
  refine q_cl (va_runV (As := [.ref (aN 0)]) (rest := [.long o3]) ⟨hx, hb, hml, hown, hts⟩ (wX2_sumOfTimes l E aR aN o1 vN o5 e6 _) (cwV 1 hts gX4_gainAt_X2_sumOfTimes rfl rfl rfl (by decide +kernel) ⟨Nat.le_of_ble_eq_true rfl, Nat.le_of_ble_eq_true rfl⟩) (q_preV hK hP hD pm_4_31 2 19 rfl rfl) rfl rfl hl.1 rfl (lv_room (Nat.le_of_ble_eq_true rfl)) dX4_gainAt_31 ⟨Nat.zero_le _, Nat.zero_le _⟩) hP hD hS hA pm_4_31 pm_4_31.symm (fun H locs hP hD hS => ?_)
  refine lv_lsub hx hb dX4_gainAt_34 ?_
  obtain rfl := q_inj h
  exact hRt 35 _ _ _ dX4_gainAt_35 hP hD hS
def mX4_played (vQ : Int32) (vN : SN) (vP : SP) (x1 : Int32) (x2 : Int32) (x3 : Int32) : Option (Sum String (Int32 × Int32 × SP)) := (mX4_needStep vQ vN x1 x2).bind fun o1 => qX o1 fun vo1 => (mX4_needWhat x3 2).bind fun o3 => qX o3 fun vo3 => Option.map (fun z => Sum.inr z) ((mX4_refreshPlay vQ vN vP).bind fun o5 => if x3 = 0 then (ck vo1 300 (some (((P_came o5.2) (Int32.toNatClampNeg vo1)), o5.1, o5.2))) else (if x3 = 1 then (ck vo1 300 (some (((P_begun o5.2) (Int32.toNatClampNeg vo1)), o5.1, o5.2))) else (ck vo1 300 (some (((P_done o5.2) (Int32.toNatClampNeg vo1)), o5.1, o5.2)))))
def rmX4_played : Room := { frames := 6, cells := 0, slots := 0, locals := 135 }
set_option maxHeartbeats 8000000 in
set_option maxRecDepth 100000 in
theorem wX4_played (l : Launch) (E : qE) (aQ : Nat) (aN : Nat → Nat) (aT : Nat → Nat) (aF : Nat → Nat) (aP : Nat → Nat) (aR : Nat → Nat) (vQ : Int32) (vN : SN) (vP : SP) (x1 : Int32) (x2 : Int32) (x3 : Int32) (o : Int32 × Int32 × SP) (h : mX4_played vQ vN vP x1 x2 x3 = some (Sum.inr o)) : MI l E yX4_played wsX4_played rmX4_played [.ref aQ, .int x1, .int x2, .int x3] (WQ aQ aN aT aF aP aR vQ ++ (WN E aN vN ++ WP E aP vP)) (WQ aQ aN aT aF aP aR o.2.1 ++ (WN E aN vN ++ WP E aP o.2.2)) o.1 := by
  refine q_startI (cc := cX4_played) (maxL := 5) (by decide) rfl (Nat.le_of_ble_eq_true rfl) ?_
  intro pr e s m args below meth c A Q hx hb hml hown hts hK hRt hP hD hA hS ls hl
  have hl : lv_has ls 5 [(0, .ref aQ), (1, .int x1), (2, .int x2), (3, .int x3)] := hl
  have hinX2 : ∀ w ∈ wsX20, w ∈ wsX4_played := by decide +kernel
  have hinX4 : ∀ w ∈ wsX40, w ∈ wsX4_played := by decide +kernel
  have hw0 := hts (.fieldLink RX4 33 "QueueReader" "play" "LQueueReader$Play;") (by decide +kernel)
  have hw1 := hts (.fieldLink RX4 123 "QueueReader$Play" "done" "[I") (by decide +kernel)
  have hw2 := hts (.fieldLink RX4 120 "QueueReader$Play" "begun" "[I") (by decide +kernel)
  have hw3 := hts (.fieldLink RX4 117 "QueueReader$Play" "came" "[I") (by decide +kernel)
  unfold mX4_played at h
  refine lv_aload_n hx hb dX4_played_0 rfl (lv_at hl 0 rfl) ?_
  refine lv_iload_n hx hb dX4_played_1 rfl (lv_at hl 1 rfl) ?_
  refine lv_iload_n hx hb dX4_played_2 rfl (lv_at hl 2 rfl) ?_
  obtain ⟨o1, e2, h⟩ := q_bind h
  rcases o1 with Eo1 | vo1
  · cases h
  have h := qX_r h
  refine q_ci (va_runV (As := [.int x1, .int x2]) (rest := []) ⟨hx, hb, hml, hown, hts⟩ (wX4_needStep l E aQ aN aT aF aP aR vQ vN x1 x2 vo1 e2 _) (cwV 2 hts gX4_played_X4_needStep rfl rfl rfl (by decide +kernel) ⟨Nat.le_of_ble_eq_true rfl, Nat.le_of_ble_eq_true rfl⟩) (q_preV hK hP hD pm_3_01 4 0 rfl rfl) rfl rfl hl.1 rfl (lv_room (Nat.le_of_ble_eq_true rfl)) dX4_played_3 ⟨Nat.zero_le _, Nat.zero_le _⟩) hP hD hS hA pm_3_01 pm_3_01.symm (fun H locs hP hD hS => ?_)
  refine lv_istore (lv' := [(4, .int vo1), (0, .ref aQ), (1, .int x1), (2, .int x2), (3, .int x3)]) hx hb dX4_played_6 hl (by decide) rfl (fun ls hl => ?_)
  refine lv_iload_n hx hb dX4_played_8 rfl (lv_at hl 4 rfl) ?_
  refine lv_iconst (v := 2) hx hb dX4_played_9 (by decide) ?_
  obtain ⟨o3, e4, h⟩ := q_bind h
  rcases o3 with Eo3 | vo3
  · cases h
  have h := qX_r h
  refine q_cv (va_runS (As := [.int x3, .int 2]) (rest := []) ⟨hx, hb, hml, hown, hts⟩ (wX4_needWhat l E  x3 2 vo3 e4 _) (va_cwS 2 hts gX4_played_X4_needWhat rfl rfl rfl (by decide +kernel) ⟨Nat.le_of_ble_eq_true rfl, Nat.le_of_ble_eq_true rfl⟩) (q_preS hK hP hD q_nil) rfl rfl hl.1 rfl (lv_room (Nat.le_of_ble_eq_true rfl)) dX4_played_10 ⟨Nat.zero_le _, Nat.zero_le _⟩) hP hD hS hA q_nil q_nil.symm (fun H locs hP hD hS => ?_)
  have h := q_mr h
  refine lv_aload_n hx hb dX4_played_13 rfl (lv_at hl 1 rfl) ?_
  obtain ⟨o5, e6, h⟩ := q_bind h
  refine q_cv (va_runV (As := []) (rest := []) ⟨hx, hb, hml, hown, hts⟩ (wX4_refreshPlay l E aQ aN aT aF aP aR vQ vN vP o5 e6 _) (cwV 0 hts gX4_played_X4_refreshPlay rfl rfl rfl (by decide +kernel) ⟨Nat.le_of_ble_eq_true rfl, Nat.le_of_ble_eq_true rfl⟩) (q_preV hK hP hD q_idl 4 0 rfl rfl) rfl rfl hl.1 rfl (lv_room (Nat.le_of_ble_eq_true rfl)) dX4_played_14 ⟨Nat.zero_le _, Nat.zero_le _⟩) hP hD hS hA q_idl q_idr (fun H locs hP hD hS => ?_)
  refine lv_iload_n hx hb dX4_played_17 rfl (lv_at hl 4 rfl) ?_
  refine lv_if_ne (tgt := 32) hx hb dX4_played_18 (by decide) (fun c7 => ?_) (fun c7 => ?_)
  · have h := q_neg c7 h
    refine lv_iload_n hx hb dX4_played_32 rfl (lv_at hl 4 rfl) ?_
    refine lv_iconst (v := 1) hx hb dX4_played_33 (by decide) ?_
    refine lv_icmp_ne (tgt := 50) hx hb dX4_played_34 (by decide) (fun c8 => ?_) (fun c8 => ?_)
    · have h := q_neg c8 h
      refine lv_aload_n hx hb dX4_played_50 rfl (lv_at hl 1 rfl) ?_
      refine va_get (D := E.1) (ci := 4) (v := .ref (aP 0)) (C := RX4) (T := TX4) (N := 6) hx hb hts hinX4 hown hK.1 hP 0 rfl rfl 3 (by decide) hw0 (fun _ h9 => h9) rfl dX4_played_51 ?_
      refine va_get (D := E.1) (ci := 2) (v := .ref (aP 3)) (C := RX2) (T := TX2) (N := 8) hx hb hts hinX2 hown hK.1 hP 10 rfl rfl 2 (by decide) hw1 (fun _ h9 => h9) rfl dX4_played_54 ?_
      refine lv_iload hx hb dX4_played_57 (lv_at hl 0 rfl) ?_
      obtain ⟨i9, h⟩ := q_ck h
      refine va_iald (f := (P_done o5.2)) hx hb hK.1 hP 13 0 rfl rfl i9 dX4_played_59 ?_
      obtain rfl := q_inj h
      exact hRt 60 _ _ _ dX4_played_60 hP hD hS
    · have h := q_pos c8 h
      refine lv_aload_n hx hb dX4_played_37 rfl (lv_at hl 1 rfl) ?_
      refine va_get (D := E.1) (ci := 4) (v := .ref (aP 0)) (C := RX4) (T := TX4) (N := 6) hx hb hts hinX4 hown hK.1 hP 0 rfl rfl 3 (by decide) hw0 (fun _ h9 => h9) rfl dX4_played_38 ?_
      refine va_get (D := E.1) (ci := 2) (v := .ref (aP 2)) (C := RX2) (T := TX2) (N := 8) hx hb hts hinX2 hown hK.1 hP 10 rfl rfl 1 (by decide) hw2 (fun _ h9 => h9) rfl dX4_played_41 ?_
      refine lv_iload hx hb dX4_played_44 (lv_at hl 0 rfl) ?_
      obtain ⟨i10, h⟩ := q_ck h
      refine va_iald (f := (P_begun o5.2)) hx hb hK.1 hP 12 0 rfl rfl i10 dX4_played_46 ?_
      refine lv_goto (tgt := 60) hx hb dX4_played_47 (by decide) ?_
      obtain rfl := q_inj h
      exact hRt 60 _ _ _ dX4_played_60 hP hD hS
  · have h := q_pos c7 h
    refine lv_aload_n hx hb dX4_played_21 rfl (lv_at hl 1 rfl) ?_
    refine va_get (D := E.1) (ci := 4) (v := .ref (aP 0)) (C := RX4) (T := TX4) (N := 6) hx hb hts hinX4 hown hK.1 hP 0 rfl rfl 3 (by decide) hw0 (fun _ h9 => h9) rfl dX4_played_22 ?_
    refine va_get (D := E.1) (ci := 2) (v := .ref (aP 1)) (C := RX2) (T := TX2) (N := 8) hx hb hts hinX2 hown hK.1 hP 10 rfl rfl 0 (by decide) hw3 (fun _ h9 => h9) rfl dX4_played_25 ?_
    refine lv_iload hx hb dX4_played_28 (lv_at hl 0 rfl) ?_
    obtain ⟨i11, h⟩ := q_ck h
    refine va_iald (f := (P_came o5.2)) hx hb hK.1 hP 11 0 rfl rfl i11 dX4_played_30 ?_
    obtain rfl := q_inj h
    exact hRt 31 _ _ _ dX4_played_31 hP hD hS
def rxX4_played : Room := { frames := 8, cells := 1, slots := 6, locals := 135 }
set_option maxHeartbeats 8000000 in
set_option maxRecDepth 100000 in
theorem xX4_played (l : Launch) (hfl : l.stackTraces = false) (E : qE) (aQ : Nat) (aN : Nat → Nat) (aT : Nat → Nat) (aF : Nat → Nat) (aP : Nat → Nat) (aR : Nat → Nat) (vQ : Int32) (vN : SN) (vP : SP) (x1 : Int32) (x2 : Int32) (x3 : Int32) (Ex : String) (h : mX4_played vQ vN vP x1 x2 x3 = some (Sum.inl Ex)) : XT l E yX4_played wsX4_played rxX4_played [.ref aQ, .int x1, .int x2, .int x3] (WQ aQ aN aT aF aP aR vQ ++ (WN E aN vN ++ WP E aP vP)) Ex := by
  refine q_startX (cc := cX4_played) (maxL := 5) hfl (by decide) rfl (Nat.le_of_ble_eq_true rfl) (Nat.le_of_ble_eq_true rfl) (Nat.le_of_ble_eq_true rfl) (Nat.le_of_ble_eq_true rfl) (Nat.le_of_ble_eq_true rfl) ?_
  intro pr e s m args below meth c A Q hx hb hml hown hts hK hC hT hZ hRp hTh hTn hP hD hA hS ls hl
  have hl : lv_has ls 5 [(0, .ref aQ), (1, .int x1), (2, .int x2), (3, .int x3)] := hl
  unfold mX4_played at h
  refine lv_aload_n hx hb dX4_played_0 rfl (lv_at hl 0 rfl) ?_
  refine lv_iload_n hx hb dX4_played_1 rfl (lv_at hl 1 rfl) ?_
  refine lv_iload_n hx hb dX4_played_2 rfl (lv_at hl 2 rfl) ?_
  obtain ⟨o1, e2, h⟩ := q_bind h
  rcases o1 with Eo1 | vo1
  · obtain rfl := q_injl h
    exact qx_c (vx_runV (As := [.int x1, .int x2]) (rest := []) ⟨hx, hb, hml, hown, hts⟩ (xX4_needStep l hfl E aQ aN aT aF aP aR vQ vN x1 x2 _ e2 _) (cwV 2 hts gX4_played_X4_needStep rfl rfl rfl (by decide +kernel) ⟨Nat.le_of_ble_eq_true rfl, Nat.le_of_ble_eq_true rfl⟩) (qx_preV hK hC hT hZ hS hA hP hD pm_3_01 4 0 rfl rfl) rfl rfl hl.1 rfl (lv_room (Nat.le_of_ble_eq_true rfl)) dX4_played_3 ⟨Nat.le_of_ble_eq_true rfl, Nat.le_of_ble_eq_true rfl⟩) hP hD hS hA pm_3_01 (fun H1 locs1 q9 ce a1 a2 a3 a4 a5 a6 => hRp _ _ _ _ _ _ _ a1 a2 a3 a4 a5 a6)
  have h := qX_r h
  refine q_ci (va_runV (As := [.int x1, .int x2]) (rest := []) ⟨hx, hb, hml, hown, hts⟩ (wX4_needStep l E aQ aN aT aF aP aR vQ vN x1 x2 vo1 e2 _) (cwV 2 hts gX4_played_X4_needStep rfl rfl rfl (by decide +kernel) ⟨Nat.le_of_ble_eq_true rfl, Nat.le_of_ble_eq_true rfl⟩) (q_preV hK hP hD pm_3_01 4 0 rfl rfl) rfl rfl hl.1 rfl (lv_room (Nat.le_of_ble_eq_true rfl)) dX4_played_3 ⟨Nat.zero_le _, Nat.zero_le _⟩) hP hD hS hA pm_3_01 pm_3_01.symm (fun H locs hP hD hS => ?_)
  refine lv_istore (lv' := [(4, .int vo1), (0, .ref aQ), (1, .int x1), (2, .int x2), (3, .int x3)]) hx hb dX4_played_6 hl (by decide) rfl (fun ls hl => ?_)
  refine lv_iload_n hx hb dX4_played_8 rfl (lv_at hl 4 rfl) ?_
  refine lv_iconst (v := 2) hx hb dX4_played_9 (by decide) ?_
  obtain ⟨o3, e4, h⟩ := q_bind h
  rcases o3 with Eo3 | vo3
  · obtain rfl := q_injl h
    exact qx_c (vx_runS (As := [.int x3, .int 2]) (rest := []) ⟨hx, hb, hml, hown, hts⟩ (xX4_needWhat l hfl E  x3 2 _ e4 _) (va_cwS 2 hts gX4_played_X4_needWhat rfl rfl rfl (by decide +kernel) ⟨Nat.le_of_ble_eq_true rfl, Nat.le_of_ble_eq_true rfl⟩) (qx_preS hK hC hT hZ hS hA hP hD q_nil) rfl rfl hl.1 rfl (lv_room (Nat.le_of_ble_eq_true rfl)) dX4_played_10 ⟨Nat.le_of_ble_eq_true rfl, Nat.le_of_ble_eq_true rfl⟩) hP hD hS hA q_nil (fun H1 locs1 q9 ce a1 a2 a3 a4 a5 a6 => hRp _ _ _ _ _ _ _ a1 a2 a3 a4 a5 a6)
  have h := qX_r h
  refine q_cv (va_runS (As := [.int x3, .int 2]) (rest := []) ⟨hx, hb, hml, hown, hts⟩ (wX4_needWhat l E  x3 2 vo3 e4 _) (va_cwS 2 hts gX4_played_X4_needWhat rfl rfl rfl (by decide +kernel) ⟨Nat.le_of_ble_eq_true rfl, Nat.le_of_ble_eq_true rfl⟩) (q_preS hK hP hD q_nil) rfl rfl hl.1 rfl (lv_room (Nat.le_of_ble_eq_true rfl)) dX4_played_10 ⟨Nat.zero_le _, Nat.zero_le _⟩) hP hD hS hA q_nil q_nil.symm (fun H locs hP hD hS => ?_)
  exact (q_ml h).elim
def lpX4_trace_6 (vN : SN) (vP : SP) : Nat → Int32 → ST → Option ST
  | 0, _, _ => none
  | k + 1, x1, vT => (mX1_rowsEnd vN).bind fun o23 => if o23 ≤ x1 then (some vT) else ((mX1_isStep vN x1).bind fun o26 => if o26 = 0 then (lpX4_trace_6 vN vP k (x1 + 1) vT) else (ck x1 300 (ck x1 300 ((mX3_tell vT x1 ((P_begun vP) (Int32.toNatClampNeg x1)) ((P_done vP) (Int32.toNatClampNeg x1))).bind fun o31 => lpX4_trace_6 vN vP k (x1 + 1) o31))))
def mX4_trace (vQ : Int32) (vN : SN) (vT : ST) (vP : SP)  : Option (Int32 × Int32 × ST × SP) := (mX4_refreshPlay vQ vN vP).bind fun o1 => (lpX4_trace_6 vN o1.2 qFU 0 vT).bind fun o33 => some ((N_steps vN), o1.1, o33, o1.2)
def rmX4_trace : Room := { frames := 6, cells := 0, slots := 0, locals := 135 }
set_option maxHeartbeats 8000000 in
set_option maxRecDepth 100000 in
theorem wX4_trace (l : Launch) (E : qE) (aQ : Nat) (aN : Nat → Nat) (aT : Nat → Nat) (aF : Nat → Nat) (aP : Nat → Nat) (aR : Nat → Nat) (vQ : Int32) (vN : SN) (vT : ST) (vP : SP)  (o : Int32 × Int32 × ST × SP) (h : mX4_trace vQ vN vT vP = some o) : MI l E yX4_trace wsX4_trace rmX4_trace [.ref aQ] (WQ aQ aN aT aF aP aR vQ ++ (WN E aN vN ++ (WT E aT vT ++ WP E aP vP))) (WQ aQ aN aT aF aP aR o.2.1 ++ (WN E aN vN ++ (WT E aT o.2.2.1 ++ WP E aP o.2.2.2))) o.1 := by
  refine q_startI (cc := cX4_trace) (maxL := 2) (by decide) rfl (Nat.le_of_ble_eq_true rfl) ?_
  intro pr e s m args below meth c A Q hx hb hml hown hts hK hRt hP hD hA hS ls hl
  have hl : lv_has ls 2 [(0, .ref aQ)] := hl
  have hinX1 : ∀ w ∈ wsX10, w ∈ wsX4_trace := by decide +kernel
  have hinX2 : ∀ w ∈ wsX20, w ∈ wsX4_trace := by decide +kernel
  have hinX4 : ∀ w ∈ wsX40, w ∈ wsX4_trace := by decide +kernel
  have hw0 := hts (.fieldLink RX4 12 "QueueReader" "net" "LQueueReader$Net;") (by decide +kernel)
  have hw1 := hts (.fieldLink RX4 19 "QueueReader" "told" "LQueueReader$Tracks;") (by decide +kernel)
  have hw2 := hts (.fieldLink RX4 33 "QueueReader" "play" "LQueueReader$Play;") (by decide +kernel)
  have hw3 := hts (.fieldLink RX4 120 "QueueReader$Play" "begun" "[I") (by decide +kernel)
  have hw4 := hts (.fieldLink RX4 123 "QueueReader$Play" "done" "[I") (by decide +kernel)
  have hw5 := hts (.fieldLink RX4 134 "QueueReader$Net" "steps" "I") (by decide +kernel)
  have L6 : ∀ (vQ : Int32) (vN : SN) (vT : ST) (vP : SP) (x1 : Int32) (k : Nat) (H : Heap) (locs : List Loc) (ls : Array Slot), va_P E.1 vwCl (WQ aQ aN aT aF aP aR vQ ++ (WN E aN vN ++ (WT E aT vT ++ WP E aP vP))) H → va_D A (WQ aQ aN aT aF aP aR vQ ++ (WN E aN vN ++ (WT E aT vT ++ WP E aP vP))) → va_S A s.heap H locs → lv_has ls 2 [(0, .ref aQ), (1, .int x1)] → ∀ o, lpX4_trace_6 vN vP k x1 vT = some o → (∀ (H : Heap) (locs : List Loc) (ls : Array Slot), va_P E.1 vwCl (WQ aQ aN aT aF aP aR vQ ++ (WN E aN vN ++ (WT E aT o ++ WP E aP vP))) H → va_D A (WQ aQ aN aT aF aP aR vQ ++ (WN E aN vN ++ (WT E aT o ++ WP E aP vP))) → va_S A s.heap H locs → lv_has ls 2 [(0, .ref aQ)] → W pr l e rmX4_trace s m args below meth c H locs 0 0 Q (F0 m 60 ls [])) → W pr l e rmX4_trace s m args below meth c H locs 0 0 Q (F0 m 6 ls []) := by
    intro vQ vN vT vP x1 k
    induction k generalizing x1 vT with
    | zero => intro H locs ls hP hD hS hl o h; cases h
    | succ k ih =>
      intro H locs ls hP hD hS hl o h kk
      rw [lpX4_trace_6] at h
      refine lv_iload_n hx hb dX4_trace_6 rfl (lv_at hl 1 rfl) ?_
      refine lv_aload_n hx hb dX4_trace_7 rfl (lv_at hl 0 rfl) ?_
      refine va_get (D := E.1) (ci := 4) (v := .ref (aN 0)) (C := RX4) (T := TX4) (N := 6) hx hb hts hinX4 hown hK.1 hP 0 rfl rfl 0 (by decide) hw0 (fun _ h9 => h9) rfl dX4_trace_8 ?_
      obtain ⟨o23, e24, h⟩ := q_bind h
      refine q_ci (va_runV (As := []) (rest := [.int x1]) ⟨hx, hb, hml, hown, hts⟩ (wX1_rowsEnd l E aN vN o23 e24 _) (cwV 0 hts gX4_trace_X1_rowsEnd rfl rfl rfl (by decide +kernel) ⟨Nat.le_of_ble_eq_true rfl, Nat.le_of_ble_eq_true rfl⟩) (q_preV hK hP hD pm_4_1 1 1 rfl rfl) rfl rfl hl.1 rfl (lv_room (Nat.le_of_ble_eq_true rfl)) dX4_trace_11 ⟨Nat.zero_le _, Nat.zero_le _⟩) hP hD hS hA pm_4_1 pm_4_1.symm (fun H locs hP hD hS => ?_)
      refine lv_icmp_ge (tgt := 60) hx hb dX4_trace_14 (by decide) (fun c25 => ?_) (fun c25 => ?_)
      · have h := q_pos c25 h
        obtain rfl := q_inj h
        exact kk _ _ _ hP hD hS (lv_sub hl [0] rfl)
      · have h := q_neg c25 h
        refine lv_aload_n hx hb dX4_trace_17 rfl (lv_at hl 0 rfl) ?_
        refine va_get (D := E.1) (ci := 4) (v := .ref (aN 0)) (C := RX4) (T := TX4) (N := 6) hx hb hts hinX4 hown hK.1 hP 0 rfl rfl 0 (by decide) hw0 (fun _ h9 => h9) rfl dX4_trace_18 ?_
        refine lv_iload_n hx hb dX4_trace_21 rfl (lv_at hl 1 rfl) ?_
        obtain ⟨o26, e27, h⟩ := q_bind h
        refine q_ci (va_runV (As := [.int x1]) (rest := []) ⟨hx, hb, hml, hown, hts⟩ (wX1_isStep l E aN vN x1 o26 e27 _) (cwV 1 hts gX4_trace_X1_isStep rfl rfl rfl (by decide +kernel) ⟨Nat.le_of_ble_eq_true rfl, Nat.le_of_ble_eq_true rfl⟩) (q_preV hK hP hD pm_4_1 1 1 rfl rfl) rfl rfl hl.1 rfl (lv_room (Nat.le_of_ble_eq_true rfl)) dX4_trace_22 ⟨Nat.zero_le _, Nat.zero_le _⟩) hP hD hS hA pm_4_1 pm_4_1.symm (fun H locs hP hD hS => ?_)
        refine lv_if_eq (tgt := 54) hx hb dX4_trace_25 (by decide) (fun c28 => ?_) (fun c28 => ?_)
        · have h := q_pos c28 h
          refine lv_iinc (v := (x1 + 1)) (lv' := [(1, .int (x1 + 1)), (0, .ref aQ)]) hx hb dX4_trace_54 hl (k := 1) rfl rfl (by decide) rfl (fun ls hl => ?_)
          refine lv_goto (tgt := 6) hx hb dX4_trace_57 (by decide) ?_
          exact ih vT (x1 + 1) _ _ _ hP hD hS (lv_sub hl [1, 0] rfl) _ h kk
        · have h := q_neg c28 h
          refine lv_aload_n hx hb dX4_trace_28 rfl (lv_at hl 0 rfl) ?_
          refine va_get (D := E.1) (ci := 4) (v := .ref (aT 0)) (C := RX4) (T := TX4) (N := 6) hx hb hts hinX4 hown hK.1 hP 0 rfl rfl 1 (by decide) hw1 (fun _ h9 => h9) rfl dX4_trace_29 ?_
          refine lv_iload_n hx hb dX4_trace_32 rfl (lv_at hl 1 rfl) ?_
          refine lv_aload_n hx hb dX4_trace_33 rfl (lv_at hl 0 rfl) ?_
          refine va_get (D := E.1) (ci := 4) (v := .ref (aP 0)) (C := RX4) (T := TX4) (N := 6) hx hb hts hinX4 hown hK.1 hP 0 rfl rfl 3 (by decide) hw2 (fun _ h9 => h9) rfl dX4_trace_34 ?_
          refine va_get (D := E.1) (ci := 2) (v := .ref (aP 2)) (C := RX2) (T := TX2) (N := 8) hx hb hts hinX2 hown hK.1 hP 14 rfl rfl 1 (by decide) hw3 (fun _ h9 => h9) rfl dX4_trace_37 ?_
          refine lv_iload_n hx hb dX4_trace_40 rfl (lv_at hl 1 rfl) ?_
          obtain ⟨i29, h⟩ := q_ck h
          refine va_iald (f := (P_begun vP)) hx hb hK.1 hP 16 0 rfl rfl i29 dX4_trace_41 ?_
          refine lv_aload_n hx hb dX4_trace_42 rfl (lv_at hl 0 rfl) ?_
          refine va_get (D := E.1) (ci := 4) (v := .ref (aP 0)) (C := RX4) (T := TX4) (N := 6) hx hb hts hinX4 hown hK.1 hP 0 rfl rfl 3 (by decide) hw2 (fun _ h9 => h9) rfl dX4_trace_43 ?_
          refine va_get (D := E.1) (ci := 2) (v := .ref (aP 3)) (C := RX2) (T := TX2) (N := 8) hx hb hts hinX2 hown hK.1 hP 14 rfl rfl 2 (by decide) hw4 (fun _ h9 => h9) rfl dX4_trace_46 ?_
          refine lv_iload_n hx hb dX4_trace_49 rfl (lv_at hl 1 rfl) ?_
          obtain ⟨i30, h⟩ := q_ck h
          refine va_iald (f := (P_done vP)) hx hb hK.1 hP 17 0 rfl rfl i30 dX4_trace_50 ?_
          obtain ⟨o31, e32, h⟩ := q_bind h
          refine q_cv (va_runV (As := [.int x1, .int ((P_begun vP) (Int32.toNatClampNeg x1)), .int ((P_done vP) (Int32.toNatClampNeg x1))]) (rest := []) ⟨hx, hb, hml, hown, hts⟩ (wX3_tell l E aT vT x1 ((P_begun vP) (Int32.toNatClampNeg x1)) ((P_done vP) (Int32.toNatClampNeg x1)) o31 e32 _) (cwV 3 hts gX4_trace_X3_tell rfl rfl rfl (by decide +kernel) ⟨Nat.le_of_ble_eq_true rfl, Nat.le_of_ble_eq_true rfl⟩) (q_preV hK hP hD pm_4_2 3 10 rfl rfl) rfl rfl hl.1 rfl (lv_room (Nat.le_of_ble_eq_true rfl)) dX4_trace_51 ⟨Nat.zero_le _, Nat.zero_le _⟩) hP hD hS hA pm_4_2 pm_4_2.symm (fun H locs hP hD hS => ?_)
          refine lv_iinc (v := (x1 + 1)) (lv' := [(1, .int (x1 + 1)), (0, .ref aQ)]) hx hb dX4_trace_54 hl (k := 1) rfl rfl (by decide) rfl (fun ls hl => ?_)
          refine lv_goto (tgt := 6) hx hb dX4_trace_57 (by decide) ?_
          exact ih o31 (x1 + 1) _ _ _ hP hD hS (lv_sub hl [1, 0] rfl) _ h kk
  unfold mX4_trace at h
  refine lv_aload_n hx hb dX4_trace_0 rfl (lv_at hl 0 rfl) ?_
  obtain ⟨o1, e2, h⟩ := q_bind h
  refine q_cv (va_runV (As := []) (rest := []) ⟨hx, hb, hml, hown, hts⟩ (wX4_refreshPlay l E aQ aN aT aF aP aR vQ vN vP o1 e2 _) (cwV 0 hts gX4_trace_X4_refreshPlay rfl rfl rfl (by decide +kernel) ⟨Nat.le_of_ble_eq_true rfl, Nat.le_of_ble_eq_true rfl⟩) (q_preV hK hP hD pm_4_013 4 0 rfl rfl) rfl rfl hl.1 rfl (lv_room (Nat.le_of_ble_eq_true rfl)) dX4_trace_1 ⟨Nat.zero_le _, Nat.zero_le _⟩) hP hD hS hA pm_4_013 pm_4_013.symm (fun H locs hP hD hS => ?_)
  refine lv_iconst (v := 0) hx hb dX4_trace_4 (by decide) ?_
  refine lv_istore_n (lv' := [(1, .int 0), (0, .ref aQ)]) hx hb dX4_trace_5 rfl hl (by decide) rfl (fun ls hl => ?_)
  obtain ⟨o33, e34, h⟩ := q_bind h
  refine L6 o1.1 vN vT o1.2 0 qFU _ _ _ hP hD hS (lv_sub hl [1, 0] rfl) o33 e34 (fun H locs ls hP hD hS hl => ?_)
  refine lv_aload_n hx hb dX4_trace_60 rfl (lv_at hl 0 rfl) ?_
  refine va_get (D := E.1) (ci := 4) (v := .ref (aN 0)) (C := RX4) (T := TX4) (N := 6) hx hb hts hinX4 hown hK.1 hP 0 rfl rfl 0 (by decide) hw0 (fun _ h9 => h9) rfl dX4_trace_61 ?_
  refine va_get (D := E.1) (ci := 1) (v := .int (N_steps vN)) (C := RX1) (T := TX1) (N := 11) hx hb hts hinX1 hown hK.1 hP 1 rfl rfl 2 (by decide) hw5 (fun _ h9 => h9) rfl dX4_trace_64 ?_
  obtain rfl := q_inj h
  exact hRt 67 _ _ _ dX4_trace_67 hP hD hS
def lpX4_unlike_8 (vN : SN) (vT : ST) (vP : SP) : Nat → Int32 → Int32 → Option Int32
  | 0, _, _ => none
  | k + 1, x1, x2 => (mX1_rowsEnd vN).bind fun o25 => if o25 ≤ x2 then (some x1) else (ck x2 300 (if ((T_isSeen vT) (Int32.toNatClampNeg x2)) = 0 then (lpX4_unlike_8 vN vT vP k x1 (x2 + 1)) else (ck x2 300 (ck x2 300 (if ((T_begun vT) (Int32.toNatClampNeg x2)) = ((P_begun vP) (Int32.toNatClampNeg x2)) then (ck x2 300 (ck x2 300 (if ((T_done vT) (Int32.toNatClampNeg x2)) = ((P_done vP) (Int32.toNatClampNeg x2)) then (lpX4_unlike_8 vN vT vP k x1 (x2 + 1)) else (lpX4_unlike_8 vN vT vP k (x1 + 1) (x2 + 1))))) else (lpX4_unlike_8 vN vT vP k (x1 + 1) (x2 + 1)))))))
def mX4_unlike (vQ : Int32) (vN : SN) (vT : ST) (vP : SP)  : Option (Int32 × Int32 × SP) := (mX4_refreshPlay vQ vN vP).bind fun o1 => (lpX4_unlike_8 vN vT o1.2 qFU 0 0).bind fun o36 => some (o36, o1.1, o1.2)
def rmX4_unlike : Room := { frames := 6, cells := 0, slots := 0, locals := 135 }
set_option maxHeartbeats 8000000 in
set_option maxRecDepth 100000 in
theorem wX4_unlike (l : Launch) (E : qE) (aQ : Nat) (aN : Nat → Nat) (aT : Nat → Nat) (aF : Nat → Nat) (aP : Nat → Nat) (aR : Nat → Nat) (vQ : Int32) (vN : SN) (vT : ST) (vP : SP)  (o : Int32 × Int32 × SP) (h : mX4_unlike vQ vN vT vP = some o) : MI l E yX4_unlike wsX4_unlike rmX4_unlike [.ref aQ] (WQ aQ aN aT aF aP aR vQ ++ (WN E aN vN ++ (WT E aT vT ++ WP E aP vP))) (WQ aQ aN aT aF aP aR o.2.1 ++ (WN E aN vN ++ (WT E aT vT ++ WP E aP o.2.2))) o.1 := by
  refine q_startI (cc := cX4_unlike) (maxL := 3) (by decide) rfl (Nat.le_of_ble_eq_true rfl) ?_
  intro pr e s m args below meth c A Q hx hb hml hown hts hK hRt hP hD hA hS ls hl
  have hl : lv_has ls 3 [(0, .ref aQ)] := hl
  have hinX2 : ∀ w ∈ wsX20, w ∈ wsX4_unlike := by decide +kernel
  have hinX3 : ∀ w ∈ wsX30, w ∈ wsX4_unlike := by decide +kernel
  have hinX4 : ∀ w ∈ wsX40, w ∈ wsX4_unlike := by decide +kernel
  have hw0 := hts (.fieldLink RX4 12 "QueueReader" "net" "LQueueReader$Net;") (by decide +kernel)
  have hw1 := hts (.fieldLink RX4 19 "QueueReader" "told" "LQueueReader$Tracks;") (by decide +kernel)
  have hw2 := hts (.fieldLink RX4 106 "QueueReader$Tracks" "isSeen" "[Z") (by decide +kernel)
  have hw3 := hts (.fieldLink RX4 137 "QueueReader$Tracks" "begun" "[I") (by decide +kernel)
  have hw4 := hts (.fieldLink RX4 33 "QueueReader" "play" "LQueueReader$Play;") (by decide +kernel)
  have hw5 := hts (.fieldLink RX4 120 "QueueReader$Play" "begun" "[I") (by decide +kernel)
  have hw6 := hts (.fieldLink RX4 138 "QueueReader$Tracks" "done" "[I") (by decide +kernel)
  have hw7 := hts (.fieldLink RX4 123 "QueueReader$Play" "done" "[I") (by decide +kernel)
  have L8 : ∀ (vQ : Int32) (vN : SN) (vT : ST) (vP : SP) (x1 : Int32) (x2 : Int32) (k : Nat) (H : Heap) (locs : List Loc) (ls : Array Slot), va_P E.1 vwCl (WQ aQ aN aT aF aP aR vQ ++ (WN E aN vN ++ (WT E aT vT ++ WP E aP vP))) H → va_D A (WQ aQ aN aT aF aP aR vQ ++ (WN E aN vN ++ (WT E aT vT ++ WP E aP vP))) → va_S A s.heap H locs → lv_has ls 3 [(0, .ref aQ), (1, .int x1), (2, .int x2)] → ∀ o, lpX4_unlike_8 vN vT vP k x1 x2 = some o → (∀ (H : Heap) (locs : List Loc) (ls : Array Slot), va_P E.1 vwCl (WQ aQ aN aT aF aP aR vQ ++ (WN E aN vN ++ (WT E aT vT ++ WP E aP vP))) H → va_D A (WQ aQ aN aT aF aP aR vQ ++ (WN E aN vN ++ (WT E aT vT ++ WP E aP vP))) → va_S A s.heap H locs → lv_has ls 3 [(1, .int o)] → W pr l e rmX4_unlike s m args below meth c H locs 0 0 Q (F0 m 82 ls [])) → W pr l e rmX4_unlike s m args below meth c H locs 0 0 Q (F0 m 8 ls []) := by
    intro vQ vN vT vP x1 x2 k
    induction k generalizing x1 x2 with
    | zero => intro H locs ls hP hD hS hl o h; cases h
    | succ k ih =>
      intro H locs ls hP hD hS hl o h kk
      rw [lpX4_unlike_8] at h
      refine lv_iload_n hx hb dX4_unlike_8 rfl (lv_at hl 2 rfl) ?_
      refine lv_aload_n hx hb dX4_unlike_9 rfl (lv_at hl 0 rfl) ?_
      refine va_get (D := E.1) (ci := 4) (v := .ref (aN 0)) (C := RX4) (T := TX4) (N := 6) hx hb hts hinX4 hown hK.1 hP 0 rfl rfl 0 (by decide) hw0 (fun _ h9 => h9) rfl dX4_unlike_10 ?_
      obtain ⟨o25, e26, h⟩ := q_bind h
      refine q_ci (va_runV (As := []) (rest := [.int x2]) ⟨hx, hb, hml, hown, hts⟩ (wX1_rowsEnd l E aN vN o25 e26 _) (cwV 0 hts gX4_unlike_X1_rowsEnd rfl rfl rfl (by decide +kernel) ⟨Nat.le_of_ble_eq_true rfl, Nat.le_of_ble_eq_true rfl⟩) (q_preV hK hP hD pm_4_1 1 1 rfl rfl) rfl rfl hl.1 rfl (lv_room (Nat.le_of_ble_eq_true rfl)) dX4_unlike_13 ⟨Nat.zero_le _, Nat.zero_le _⟩) hP hD hS hA pm_4_1 pm_4_1.symm (fun H locs hP hD hS => ?_)
      refine lv_icmp_ge (tgt := 82) hx hb dX4_unlike_16 (by decide) (fun c27 => ?_) (fun c27 => ?_)
      · have h := q_pos c27 h
        obtain rfl := q_inj h
        exact kk _ _ _ hP hD hS (lv_sub hl [1] rfl)
      · have h := q_neg c27 h
        refine lv_aload_n hx hb dX4_unlike_19 rfl (lv_at hl 0 rfl) ?_
        refine va_get (D := E.1) (ci := 4) (v := .ref (aT 0)) (C := RX4) (T := TX4) (N := 6) hx hb hts hinX4 hown hK.1 hP 0 rfl rfl 1 (by decide) hw1 (fun _ h9 => h9) rfl dX4_unlike_20 ?_
        refine va_get (D := E.1) (ci := 3) (v := .ref (aT 1)) (C := RX3) (T := TX3) (N := 3) hx hb hts hinX3 hown hK.1 hP 10 rfl rfl 0 (by decide) hw2 (fun _ h9 => h9) rfl dX4_unlike_23 ?_
        refine lv_iload_n hx hb dX4_unlike_26 rfl (lv_at hl 2 rfl) ?_
        obtain ⟨i28, h⟩ := q_ck h
        refine va_zald (f := (T_isSeen vT)) hx hb hK.1 hP 11 2 rfl rfl i28 dX4_unlike_27 ?_
        refine lv_if_eq (tgt := 76) hx hb dX4_unlike_28 (by decide) (fun c29 => ?_) (fun c29 => ?_)
        · have h := q_pos c29 h
          refine lv_iinc (v := (x2 + 1)) (lv' := [(2, .int (x2 + 1)), (0, .ref aQ), (1, .int x1)]) hx hb dX4_unlike_76 hl (k := 2) rfl rfl (by decide) rfl (fun ls hl => ?_)
          refine lv_goto (tgt := 8) hx hb dX4_unlike_79 (by decide) ?_
          exact ih x1 (x2 + 1) _ _ _ hP hD hS (lv_sub hl [1, 2, 0] rfl) _ h kk
        · have h := q_neg c29 h
          refine lv_aload_n hx hb dX4_unlike_31 rfl (lv_at hl 0 rfl) ?_
          refine va_get (D := E.1) (ci := 4) (v := .ref (aT 0)) (C := RX4) (T := TX4) (N := 6) hx hb hts hinX4 hown hK.1 hP 0 rfl rfl 1 (by decide) hw1 (fun _ h9 => h9) rfl dX4_unlike_32 ?_
          refine va_get (D := E.1) (ci := 3) (v := .ref (aT 2)) (C := RX3) (T := TX3) (N := 3) hx hb hts hinX3 hown hK.1 hP 10 rfl rfl 1 (by decide) hw3 (fun _ h9 => h9) rfl dX4_unlike_35 ?_
          refine lv_iload_n hx hb dX4_unlike_38 rfl (lv_at hl 2 rfl) ?_
          obtain ⟨i30, h⟩ := q_ck h
          refine va_iald (f := (T_begun vT)) hx hb hK.1 hP 12 0 rfl rfl i30 dX4_unlike_39 ?_
          refine lv_aload_n hx hb dX4_unlike_40 rfl (lv_at hl 0 rfl) ?_
          refine va_get (D := E.1) (ci := 4) (v := .ref (aP 0)) (C := RX4) (T := TX4) (N := 6) hx hb hts hinX4 hown hK.1 hP 0 rfl rfl 3 (by decide) hw4 (fun _ h9 => h9) rfl dX4_unlike_41 ?_
          refine va_get (D := E.1) (ci := 2) (v := .ref (aP 2)) (C := RX2) (T := TX2) (N := 8) hx hb hts hinX2 hown hK.1 hP 14 rfl rfl 1 (by decide) hw5 (fun _ h9 => h9) rfl dX4_unlike_44 ?_
          refine lv_iload_n hx hb dX4_unlike_47 rfl (lv_at hl 2 rfl) ?_
          obtain ⟨i31, h⟩ := q_ck h
          refine va_iald (f := (P_begun vP)) hx hb hK.1 hP 16 0 rfl rfl i31 dX4_unlike_48 ?_
          refine lv_icmp_ne (tgt := 73) hx hb dX4_unlike_49 (by decide) (fun c32 => ?_) (fun c32 => ?_)
          · have h := q_neg c32 h
            refine lv_iinc (v := (x1 + 1)) (lv' := [(1, .int (x1 + 1)), (0, .ref aQ), (2, .int x2)]) hx hb dX4_unlike_73 hl (k := 1) rfl rfl (by decide) rfl (fun ls hl => ?_)
            refine lv_iinc (v := (x2 + 1)) (lv' := [(2, .int (x2 + 1)), (1, .int (x1 + 1)), (0, .ref aQ)]) hx hb dX4_unlike_76 hl (k := 2) rfl rfl (by decide) rfl (fun ls hl => ?_)
            refine lv_goto (tgt := 8) hx hb dX4_unlike_79 (by decide) ?_
            exact ih (x1 + 1) (x2 + 1) _ _ _ hP hD hS (lv_sub hl [2, 1, 0] rfl) _ h kk
          · have h := q_pos c32 h
            refine lv_aload_n hx hb dX4_unlike_52 rfl (lv_at hl 0 rfl) ?_
            refine va_get (D := E.1) (ci := 4) (v := .ref (aT 0)) (C := RX4) (T := TX4) (N := 6) hx hb hts hinX4 hown hK.1 hP 0 rfl rfl 1 (by decide) hw1 (fun _ h9 => h9) rfl dX4_unlike_53 ?_
            refine va_get (D := E.1) (ci := 3) (v := .ref (aT 3)) (C := RX3) (T := TX3) (N := 3) hx hb hts hinX3 hown hK.1 hP 10 rfl rfl 2 (by decide) hw6 (fun _ h9 => h9) rfl dX4_unlike_56 ?_
            refine lv_iload_n hx hb dX4_unlike_59 rfl (lv_at hl 2 rfl) ?_
            obtain ⟨i33, h⟩ := q_ck h
            refine va_iald (f := (T_done vT)) hx hb hK.1 hP 13 0 rfl rfl i33 dX4_unlike_60 ?_
            refine lv_aload_n hx hb dX4_unlike_61 rfl (lv_at hl 0 rfl) ?_
            refine va_get (D := E.1) (ci := 4) (v := .ref (aP 0)) (C := RX4) (T := TX4) (N := 6) hx hb hts hinX4 hown hK.1 hP 0 rfl rfl 3 (by decide) hw4 (fun _ h9 => h9) rfl dX4_unlike_62 ?_
            refine va_get (D := E.1) (ci := 2) (v := .ref (aP 3)) (C := RX2) (T := TX2) (N := 8) hx hb hts hinX2 hown hK.1 hP 14 rfl rfl 2 (by decide) hw7 (fun _ h9 => h9) rfl dX4_unlike_65 ?_
            refine lv_iload_n hx hb dX4_unlike_68 rfl (lv_at hl 2 rfl) ?_
            obtain ⟨i34, h⟩ := q_ck h
            refine va_iald (f := (P_done vP)) hx hb hK.1 hP 17 0 rfl rfl i34 dX4_unlike_69 ?_
            refine lv_icmp_eq (tgt := 76) hx hb dX4_unlike_70 (by decide) (fun c35 => ?_) (fun c35 => ?_)
            · have h := q_pos c35 h
              refine lv_iinc (v := (x2 + 1)) (lv' := [(2, .int (x2 + 1)), (0, .ref aQ), (1, .int x1)]) hx hb dX4_unlike_76 hl (k := 2) rfl rfl (by decide) rfl (fun ls hl => ?_)
              refine lv_goto (tgt := 8) hx hb dX4_unlike_79 (by decide) ?_
              exact ih x1 (x2 + 1) _ _ _ hP hD hS (lv_sub hl [1, 2, 0] rfl) _ h kk
            · have h := q_neg c35 h
              refine lv_iinc (v := (x1 + 1)) (lv' := [(1, .int (x1 + 1)), (0, .ref aQ), (2, .int x2)]) hx hb dX4_unlike_73 hl (k := 1) rfl rfl (by decide) rfl (fun ls hl => ?_)
              refine lv_iinc (v := (x2 + 1)) (lv' := [(2, .int (x2 + 1)), (1, .int (x1 + 1)), (0, .ref aQ)]) hx hb dX4_unlike_76 hl (k := 2) rfl rfl (by decide) rfl (fun ls hl => ?_)
              refine lv_goto (tgt := 8) hx hb dX4_unlike_79 (by decide) ?_
              exact ih (x1 + 1) (x2 + 1) _ _ _ hP hD hS (lv_sub hl [2, 1, 0] rfl) _ h kk
  unfold mX4_unlike at h
  refine lv_aload_n hx hb dX4_unlike_0 rfl (lv_at hl 0 rfl) ?_
  obtain ⟨o1, e2, h⟩ := q_bind h
  refine q_cv (va_runV (As := []) (rest := []) ⟨hx, hb, hml, hown, hts⟩ (wX4_refreshPlay l E aQ aN aT aF aP aR vQ vN vP o1 e2 _) (cwV 0 hts gX4_unlike_X4_refreshPlay rfl rfl rfl (by decide +kernel) ⟨Nat.le_of_ble_eq_true rfl, Nat.le_of_ble_eq_true rfl⟩) (q_preV hK hP hD pm_4_013 4 0 rfl rfl) rfl rfl hl.1 rfl (lv_room (Nat.le_of_ble_eq_true rfl)) dX4_unlike_1 ⟨Nat.zero_le _, Nat.zero_le _⟩) hP hD hS hA pm_4_013 pm_4_013.symm (fun H locs hP hD hS => ?_)
  refine lv_iconst (v := 0) hx hb dX4_unlike_4 (by decide) ?_
  refine lv_istore_n (lv' := [(1, .int 0), (0, .ref aQ)]) hx hb dX4_unlike_5 rfl hl (by decide) rfl (fun ls hl => ?_)
  refine lv_iconst (v := 0) hx hb dX4_unlike_6 (by decide) ?_
  refine lv_istore_n (lv' := [(2, .int 0), (1, .int 0), (0, .ref aQ)]) hx hb dX4_unlike_7 rfl hl (by decide) rfl (fun ls hl => ?_)
  obtain ⟨o36, e37, h⟩ := q_bind h
  refine L8 o1.1 vN vT o1.2 0 0 qFU _ _ _ hP hD hS (lv_sub hl [2, 1, 0] rfl) o36 e37 (fun H locs ls hP hD hS hl => ?_)
  refine lv_iload_n hx hb dX4_unlike_82 rfl (lv_at hl 0 rfl) ?_
  obtain rfl := q_inj h
  exact hRt 83 _ _ _ dX4_unlike_83 hP hD hS
def mX4_found (vQ : Int32) (vN : SN) (vT : ST) (vF : SF) (x1 : Int32) (x2 : Int32) : Option (Sum String (Int32 × SF)) := (mX4_needPlace vQ vN x1).bind fun o1 => qX o1 fun vo1 => Option.map (fun z => Sum.inr z) ((mX0_gather vF vN vT x1).bind fun o3 => if x2 = 0 then ((mX0_leastHelpers o3).bind fun o6 => some (o6.1, o6.2)) else ((mX0_firstRule o3).bind fun o8 => some (o8.1, o8.2)))
def rmX4_found : Room := { frames := 5, cells := 0, slots := 0, locals := 109 }
set_option maxHeartbeats 8000000 in
set_option maxRecDepth 100000 in
theorem wX4_found (l : Launch) (E : qE) (aQ : Nat) (aN : Nat → Nat) (aT : Nat → Nat) (aF : Nat → Nat) (aP : Nat → Nat) (aR : Nat → Nat) (vQ : Int32) (vN : SN) (vT : ST) (vF : SF) (x1 : Int32) (x2 : Int32) (o : Int32 × SF) (h : mX4_found vQ vN vT vF x1 x2 = some (Sum.inr o)) : MI l E yX4_found wsX4_found rmX4_found [.ref aQ, .int x1, .int x2] (WQ aQ aN aT aF aP aR vQ ++ (WN E aN vN ++ (WT E aT vT ++ WF E aF vF))) (WQ aQ aN aT aF aP aR vQ ++ (WN E aN vN ++ (WT E aT vT ++ WF E aF o.2))) o.1 := by
  refine q_startI (cc := cX4_found) (maxL := 3) (by decide) rfl (Nat.le_of_ble_eq_true rfl) ?_
  intro pr e s m args below meth c A Q hx hb hml hown hts hK hRt hP hD hA hS ls hl
  have hl : lv_has ls 3 [(0, .ref aQ), (1, .int x1), (2, .int x2)] := hl
  have hinX4 : ∀ w ∈ wsX40, w ∈ wsX4_found := by decide +kernel
  have hw0 := hts (.fieldLink RX4 26 "QueueReader" "fit" "LQueueReader$Fit;") (by decide +kernel)
  have hw1 := hts (.fieldLink RX4 12 "QueueReader" "net" "LQueueReader$Net;") (by decide +kernel)
  have hw2 := hts (.fieldLink RX4 19 "QueueReader" "told" "LQueueReader$Tracks;") (by decide +kernel)
  unfold mX4_found at h
  refine lv_aload_n hx hb dX4_found_0 rfl (lv_at hl 0 rfl) ?_
  refine lv_iload_n hx hb dX4_found_1 rfl (lv_at hl 1 rfl) ?_
  obtain ⟨o1, e2, h⟩ := q_bind h
  rcases o1 with Eo1 | vo1
  · cases h
  have h := qX_r h
  refine q_cv (va_runV (As := [.int x1]) (rest := []) ⟨hx, hb, hml, hown, hts⟩ (wX4_needPlace l E aQ aN aT aF aP aR vQ vN x1 vo1 e2 _) (cwV 1 hts gX4_found_X4_needPlace rfl rfl rfl (by decide +kernel) ⟨Nat.le_of_ble_eq_true rfl, Nat.le_of_ble_eq_true rfl⟩) (q_preV hK hP hD pm_4_01 4 0 rfl rfl) rfl rfl hl.1 rfl (lv_room (Nat.le_of_ble_eq_true rfl)) dX4_found_2 ⟨Nat.zero_le _, Nat.zero_le _⟩) hP hD hS hA pm_4_01 pm_4_01.symm (fun H locs hP hD hS => ?_)
  have h := q_mr h
  refine lv_aload_n hx hb dX4_found_5 rfl (lv_at hl 0 rfl) ?_
  refine va_get (D := E.1) (ci := 4) (v := .ref (aF 0)) (C := RX4) (T := TX4) (N := 6) hx hb hts hinX4 hown hK.1 hP 0 rfl rfl 2 (by decide) hw0 (fun _ h9 => h9) rfl dX4_found_6 ?_
  refine lv_aload_n hx hb dX4_found_9 rfl (lv_at hl 0 rfl) ?_
  refine va_get (D := E.1) (ci := 4) (v := .ref (aN 0)) (C := RX4) (T := TX4) (N := 6) hx hb hts hinX4 hown hK.1 hP 0 rfl rfl 0 (by decide) hw1 (fun _ h9 => h9) rfl dX4_found_10 ?_
  refine lv_aload_n hx hb dX4_found_13 rfl (lv_at hl 0 rfl) ?_
  refine va_get (D := E.1) (ci := 4) (v := .ref (aT 0)) (C := RX4) (T := TX4) (N := 6) hx hb hts hinX4 hown hK.1 hP 0 rfl rfl 1 (by decide) hw2 (fun _ h9 => h9) rfl dX4_found_14 ?_
  refine lv_iload_n hx hb dX4_found_17 rfl (lv_at hl 1 rfl) ?_
  obtain ⟨o3, e4, h⟩ := q_bind h
  refine q_cv (va_runV (As := [.ref (aN 0), .ref (aT 0), .int x1]) (rest := []) ⟨hx, hb, hml, hown, hts⟩ (wX0_gather l E aF aN aT vF vN vT x1 o3 e4 _) (cwV 3 hts gX4_found_X0_gather rfl rfl rfl (by decide +kernel) ⟨Nat.le_of_ble_eq_true rfl, Nat.le_of_ble_eq_true rfl⟩) (q_preV hK hP hD pm_4_312 0 14 rfl rfl) rfl rfl hl.1 rfl (lv_room (Nat.le_of_ble_eq_true rfl)) dX4_found_18 ⟨Nat.zero_le _, Nat.zero_le _⟩) hP hD hS hA pm_4_312 pm_4_312.symm (fun H locs hP hD hS => ?_)
  refine lv_iload_n hx hb dX4_found_21 rfl (lv_at hl 2 rfl) ?_
  refine lv_if_eq (tgt := 35) hx hb dX4_found_22 (by decide) (fun c5 => ?_) (fun c5 => ?_)
  · have h := q_pos c5 h
    refine lv_aload_n hx hb dX4_found_35 rfl (lv_at hl 0 rfl) ?_
    refine va_get (D := E.1) (ci := 4) (v := .ref (aF 0)) (C := RX4) (T := TX4) (N := 6) hx hb hts hinX4 hown hK.1 hP 0 rfl rfl 2 (by decide) hw0 (fun _ h9 => h9) rfl dX4_found_36 ?_
    obtain ⟨o6, e7, h⟩ := q_bind h
    refine q_ci (va_runV (As := []) (rest := []) ⟨hx, hb, hml, hown, hts⟩ (wX0_leastHelpers l E aF o3 o6 e7 _) (cwV 0 hts gX4_found_X0_leastHelpers rfl rfl rfl (by decide +kernel) ⟨Nat.le_of_ble_eq_true rfl, Nat.le_of_ble_eq_true rfl⟩) (q_preV hK hP hD pm_4_3 0 14 rfl rfl) rfl rfl hl.1 rfl (lv_room (Nat.le_of_ble_eq_true rfl)) dX4_found_39 ⟨Nat.zero_le _, Nat.zero_le _⟩) hP hD hS hA pm_4_3 pm_4_3.symm (fun H locs hP hD hS => ?_)
    obtain rfl := q_inj h
    exact hRt 42 _ _ _ dX4_found_42 hP hD hS
  · have h := q_neg c5 h
    refine lv_aload_n hx hb dX4_found_25 rfl (lv_at hl 0 rfl) ?_
    refine va_get (D := E.1) (ci := 4) (v := .ref (aF 0)) (C := RX4) (T := TX4) (N := 6) hx hb hts hinX4 hown hK.1 hP 0 rfl rfl 2 (by decide) hw0 (fun _ h9 => h9) rfl dX4_found_26 ?_
    obtain ⟨o8, e9, h⟩ := q_bind h
    refine q_ci (va_runV (As := []) (rest := []) ⟨hx, hb, hml, hown, hts⟩ (wX0_firstRule l E aF o3 o8 e9 _) (cwV 0 hts gX4_found_X0_firstRule rfl rfl rfl (by decide +kernel) ⟨Nat.le_of_ble_eq_true rfl, Nat.le_of_ble_eq_true rfl⟩) (q_preV hK hP hD pm_4_3 0 14 rfl rfl) rfl rfl hl.1 rfl (lv_room (Nat.le_of_ble_eq_true rfl)) dX4_found_29 ⟨Nat.zero_le _, Nat.zero_le _⟩) hP hD hS hA pm_4_3 pm_4_3.symm (fun H locs hP hD hS => ?_)
    refine lv_goto (tgt := 42) hx hb dX4_found_32 (by decide) ?_
    obtain rfl := q_inj h
    exact hRt 42 _ _ _ dX4_found_42 hP hD hS
def rxX4_found : Room := { frames := 7, cells := 1, slots := 6, locals := 111 }
set_option maxHeartbeats 8000000 in
set_option maxRecDepth 100000 in
theorem xX4_found (l : Launch) (hfl : l.stackTraces = false) (E : qE) (aQ : Nat) (aN : Nat → Nat) (aT : Nat → Nat) (aF : Nat → Nat) (aP : Nat → Nat) (aR : Nat → Nat) (vQ : Int32) (vN : SN) (vT : ST) (vF : SF) (x1 : Int32) (x2 : Int32) (Ex : String) (h : mX4_found vQ vN vT vF x1 x2 = some (Sum.inl Ex)) : XT l E yX4_found wsX4_found rxX4_found [.ref aQ, .int x1, .int x2] (WQ aQ aN aT aF aP aR vQ ++ (WN E aN vN ++ (WT E aT vT ++ WF E aF vF))) Ex := by
  refine q_startX (cc := cX4_found) (maxL := 3) hfl (by decide) rfl (Nat.le_of_ble_eq_true rfl) (Nat.le_of_ble_eq_true rfl) (Nat.le_of_ble_eq_true rfl) (Nat.le_of_ble_eq_true rfl) (Nat.le_of_ble_eq_true rfl) ?_
  intro pr e s m args below meth c A Q hx hb hml hown hts hK hC hT hZ hRp hTh hTn hP hD hA hS ls hl
  have hl : lv_has ls 3 [(0, .ref aQ), (1, .int x1), (2, .int x2)] := hl
  unfold mX4_found at h
  refine lv_aload_n hx hb dX4_found_0 rfl (lv_at hl 0 rfl) ?_
  refine lv_iload_n hx hb dX4_found_1 rfl (lv_at hl 1 rfl) ?_
  obtain ⟨o1, e2, h⟩ := q_bind h
  rcases o1 with Eo1 | vo1
  · obtain rfl := q_injl h
    exact qx_c (vx_runV (As := [.int x1]) (rest := []) ⟨hx, hb, hml, hown, hts⟩ (xX4_needPlace l hfl E aQ aN aT aF aP aR vQ vN x1 _ e2 _) (cwV 1 hts gX4_found_X4_needPlace rfl rfl rfl (by decide +kernel) ⟨Nat.le_of_ble_eq_true rfl, Nat.le_of_ble_eq_true rfl⟩) (qx_preV hK hC hT hZ hS hA hP hD pm_4_01 4 0 rfl rfl) rfl rfl hl.1 rfl (lv_room (Nat.le_of_ble_eq_true rfl)) dX4_found_2 ⟨Nat.le_of_ble_eq_true rfl, Nat.le_of_ble_eq_true rfl⟩) hP hD hS hA pm_4_01 (fun H1 locs1 q9 ce a1 a2 a3 a4 a5 a6 => hRp _ _ _ _ _ _ _ a1 a2 a3 a4 a5 a6)
  have h := qX_r h
  refine q_cv (va_runV (As := [.int x1]) (rest := []) ⟨hx, hb, hml, hown, hts⟩ (wX4_needPlace l E aQ aN aT aF aP aR vQ vN x1 vo1 e2 _) (cwV 1 hts gX4_found_X4_needPlace rfl rfl rfl (by decide +kernel) ⟨Nat.le_of_ble_eq_true rfl, Nat.le_of_ble_eq_true rfl⟩) (q_preV hK hP hD pm_4_01 4 0 rfl rfl) rfl rfl hl.1 rfl (lv_room (Nat.le_of_ble_eq_true rfl)) dX4_found_2 ⟨Nat.zero_le _, Nat.zero_le _⟩) hP hD hS hA pm_4_01 pm_4_01.symm (fun H locs hP hD hS => ?_)
  exact (q_ml h).elim
def mX4_overlap (vQ : Int32) (vN : SN) (vT : ST) (vF : SF) (x1 : Int32) : Option (Sum String (Int32 × SF)) := (mX4_needPlace vQ vN x1).bind fun o1 => qX o1 fun vo1 => Option.map (fun z => Sum.inr z) ((mX0_gather vF vN vT x1).bind fun o3 => (mX0_mostAtOnce o3).bind fun o5 => some (o5, o3))
def rmX4_overlap : Room := { frames := 2, cells := 0, slots := 0, locals := 48 }
set_option maxHeartbeats 8000000 in
set_option maxRecDepth 100000 in
theorem wX4_overlap (l : Launch) (E : qE) (aQ : Nat) (aN : Nat → Nat) (aT : Nat → Nat) (aF : Nat → Nat) (aP : Nat → Nat) (aR : Nat → Nat) (vQ : Int32) (vN : SN) (vT : ST) (vF : SF) (x1 : Int32) (o : Int32 × SF) (h : mX4_overlap vQ vN vT vF x1 = some (Sum.inr o)) : MI l E yX4_overlap wsX4_overlap rmX4_overlap [.ref aQ, .int x1] (WQ aQ aN aT aF aP aR vQ ++ (WN E aN vN ++ (WT E aT vT ++ WF E aF vF))) (WQ aQ aN aT aF aP aR vQ ++ (WN E aN vN ++ (WT E aT vT ++ WF E aF o.2))) o.1 := by
  refine q_startI (cc := cX4_overlap) (maxL := 2) (by decide) rfl (Nat.le_of_ble_eq_true rfl) ?_
  intro pr e s m args below meth c A Q hx hb hml hown hts hK hRt hP hD hA hS ls hl
  have hl : lv_has ls 2 [(0, .ref aQ), (1, .int x1)] := hl
  have hinX4 : ∀ w ∈ wsX40, w ∈ wsX4_overlap := by decide +kernel
  have hw0 := hts (.fieldLink RX4 26 "QueueReader" "fit" "LQueueReader$Fit;") (by decide +kernel)
  have hw1 := hts (.fieldLink RX4 12 "QueueReader" "net" "LQueueReader$Net;") (by decide +kernel)
  have hw2 := hts (.fieldLink RX4 19 "QueueReader" "told" "LQueueReader$Tracks;") (by decide +kernel)
  unfold mX4_overlap at h
  refine lv_aload_n hx hb dX4_overlap_0 rfl (lv_at hl 0 rfl) ?_
  refine lv_iload_n hx hb dX4_overlap_1 rfl (lv_at hl 1 rfl) ?_
  obtain ⟨o1, e2, h⟩ := q_bind h
  rcases o1 with Eo1 | vo1
  · cases h
  have h := qX_r h
  refine q_cv (va_runV (As := [.int x1]) (rest := []) ⟨hx, hb, hml, hown, hts⟩ (wX4_needPlace l E aQ aN aT aF aP aR vQ vN x1 vo1 e2 _) (cwV 1 hts gX4_overlap_X4_needPlace rfl rfl rfl (by decide +kernel) ⟨Nat.le_of_ble_eq_true rfl, Nat.le_of_ble_eq_true rfl⟩) (q_preV hK hP hD pm_4_01 4 0 rfl rfl) rfl rfl hl.1 rfl (lv_room (Nat.le_of_ble_eq_true rfl)) dX4_overlap_2 ⟨Nat.zero_le _, Nat.zero_le _⟩) hP hD hS hA pm_4_01 pm_4_01.symm (fun H locs hP hD hS => ?_)
  have h := q_mr h
  refine lv_aload_n hx hb dX4_overlap_5 rfl (lv_at hl 0 rfl) ?_
  refine va_get (D := E.1) (ci := 4) (v := .ref (aF 0)) (C := RX4) (T := TX4) (N := 6) hx hb hts hinX4 hown hK.1 hP 0 rfl rfl 2 (by decide) hw0 (fun _ h9 => h9) rfl dX4_overlap_6 ?_
  refine lv_aload_n hx hb dX4_overlap_9 rfl (lv_at hl 0 rfl) ?_
  refine va_get (D := E.1) (ci := 4) (v := .ref (aN 0)) (C := RX4) (T := TX4) (N := 6) hx hb hts hinX4 hown hK.1 hP 0 rfl rfl 0 (by decide) hw1 (fun _ h9 => h9) rfl dX4_overlap_10 ?_
  refine lv_aload_n hx hb dX4_overlap_13 rfl (lv_at hl 0 rfl) ?_
  refine va_get (D := E.1) (ci := 4) (v := .ref (aT 0)) (C := RX4) (T := TX4) (N := 6) hx hb hts hinX4 hown hK.1 hP 0 rfl rfl 1 (by decide) hw2 (fun _ h9 => h9) rfl dX4_overlap_14 ?_
  refine lv_iload_n hx hb dX4_overlap_17 rfl (lv_at hl 1 rfl) ?_
  obtain ⟨o3, e4, h⟩ := q_bind h
  refine q_cv (va_runV (As := [.ref (aN 0), .ref (aT 0), .int x1]) (rest := []) ⟨hx, hb, hml, hown, hts⟩ (wX0_gather l E aF aN aT vF vN vT x1 o3 e4 _) (cwV 3 hts gX4_overlap_X0_gather rfl rfl rfl (by decide +kernel) ⟨Nat.le_of_ble_eq_true rfl, Nat.le_of_ble_eq_true rfl⟩) (q_preV hK hP hD pm_4_312 0 14 rfl rfl) rfl rfl hl.1 rfl (lv_room (Nat.le_of_ble_eq_true rfl)) dX4_overlap_18 ⟨Nat.zero_le _, Nat.zero_le _⟩) hP hD hS hA pm_4_312 pm_4_312.symm (fun H locs hP hD hS => ?_)
  refine lv_aload_n hx hb dX4_overlap_21 rfl (lv_at hl 0 rfl) ?_
  refine va_get (D := E.1) (ci := 4) (v := .ref (aF 0)) (C := RX4) (T := TX4) (N := 6) hx hb hts hinX4 hown hK.1 hP 0 rfl rfl 2 (by decide) hw0 (fun _ h9 => h9) rfl dX4_overlap_22 ?_
  obtain ⟨o5, e6, h⟩ := q_bind h
  refine q_ci (va_runV (As := []) (rest := []) ⟨hx, hb, hml, hown, hts⟩ (wX0_mostAtOnce l E aF o3 o5 e6 _) (cwV 0 hts gX4_overlap_X0_mostAtOnce rfl rfl rfl (by decide +kernel) ⟨Nat.le_of_ble_eq_true rfl, Nat.le_of_ble_eq_true rfl⟩) (q_preV hK hP hD pm_4_3 0 14 rfl rfl) rfl rfl hl.1 rfl (lv_room (Nat.le_of_ble_eq_true rfl)) dX4_overlap_25 ⟨Nat.zero_le _, Nat.zero_le _⟩) hP hD hS hA pm_4_3 pm_4_3.symm (fun H locs hP hD hS => ?_)
  obtain rfl := q_inj h
  exact hRt 28 _ _ _ dX4_overlap_28 hP hD hS
def rxX4_overlap : Room := { frames := 7, cells := 1, slots := 6, locals := 111 }
set_option maxHeartbeats 8000000 in
set_option maxRecDepth 100000 in
theorem xX4_overlap (l : Launch) (hfl : l.stackTraces = false) (E : qE) (aQ : Nat) (aN : Nat → Nat) (aT : Nat → Nat) (aF : Nat → Nat) (aP : Nat → Nat) (aR : Nat → Nat) (vQ : Int32) (vN : SN) (vT : ST) (vF : SF) (x1 : Int32) (Ex : String) (h : mX4_overlap vQ vN vT vF x1 = some (Sum.inl Ex)) : XT l E yX4_overlap wsX4_overlap rxX4_overlap [.ref aQ, .int x1] (WQ aQ aN aT aF aP aR vQ ++ (WN E aN vN ++ (WT E aT vT ++ WF E aF vF))) Ex := by
  refine q_startX (cc := cX4_overlap) (maxL := 2) hfl (by decide) rfl (Nat.le_of_ble_eq_true rfl) (Nat.le_of_ble_eq_true rfl) (Nat.le_of_ble_eq_true rfl) (Nat.le_of_ble_eq_true rfl) (Nat.le_of_ble_eq_true rfl) ?_
  intro pr e s m args below meth c A Q hx hb hml hown hts hK hC hT hZ hRp hTh hTn hP hD hA hS ls hl
  have hl : lv_has ls 2 [(0, .ref aQ), (1, .int x1)] := hl
  unfold mX4_overlap at h
  refine lv_aload_n hx hb dX4_overlap_0 rfl (lv_at hl 0 rfl) ?_
  refine lv_iload_n hx hb dX4_overlap_1 rfl (lv_at hl 1 rfl) ?_
  obtain ⟨o1, e2, h⟩ := q_bind h
  rcases o1 with Eo1 | vo1
  · obtain rfl := q_injl h
    exact qx_c (vx_runV (As := [.int x1]) (rest := []) ⟨hx, hb, hml, hown, hts⟩ (xX4_needPlace l hfl E aQ aN aT aF aP aR vQ vN x1 _ e2 _) (cwV 1 hts gX4_overlap_X4_needPlace rfl rfl rfl (by decide +kernel) ⟨Nat.le_of_ble_eq_true rfl, Nat.le_of_ble_eq_true rfl⟩) (qx_preV hK hC hT hZ hS hA hP hD pm_4_01 4 0 rfl rfl) rfl rfl hl.1 rfl (lv_room (Nat.le_of_ble_eq_true rfl)) dX4_overlap_2 ⟨Nat.le_of_ble_eq_true rfl, Nat.le_of_ble_eq_true rfl⟩) hP hD hS hA pm_4_01 (fun H1 locs1 q9 ce a1 a2 a3 a4 a5 a6 => hRp _ _ _ _ _ _ _ a1 a2 a3 a4 a5 a6)
  have h := qX_r h
  refine q_cv (va_runV (As := [.int x1]) (rest := []) ⟨hx, hb, hml, hown, hts⟩ (wX4_needPlace l E aQ aN aT aF aP aR vQ vN x1 vo1 e2 _) (cwV 1 hts gX4_overlap_X4_needPlace rfl rfl rfl (by decide +kernel) ⟨Nat.le_of_ble_eq_true rfl, Nat.le_of_ble_eq_true rfl⟩) (q_preV hK hP hD pm_4_01 4 0 rfl rfl) rfl rfl hl.1 rfl (lv_room (Nat.le_of_ble_eq_true rfl)) dX4_overlap_2 ⟨Nat.zero_le _, Nat.zero_le _⟩) hP hD hS hA pm_4_01 pm_4_01.symm (fun H locs hP hD hS => ?_)
  exact (q_ml h).elim
