def lpX4_countsByPlay_10 (vN : SN) (vP : SP) (x1 : Int32) (x2 : Int32) (x3 : Int32) (x4 : Int32) : Nat → Int64 → Int32 → Option Int64
  | 0, _, _ => none
  | k + 1, x5, x7 => (mX1_rowsEnd vN).bind fun o23 => if o23 ≤ x7 then (some x5) else (ck x7 300 (if ((N_stepPlaces vN) (Int32.toNatClampNeg x7)) = x1 then (ck x7 300 (ck x7 300 (ck x7 300 ((mX4_share ((P_came vP) (Int32.toNatClampNeg x7)) ((P_begun vP) (Int32.toNatClampNeg x7)) ((P_done vP) (Int32.toNatClampNeg x7)) x2 x3 x4).bind fun o31 => lpX4_countsByPlay_10 vN vP x1 x2 x3 x4 k (x5 + (Int32.toInt64 o31)) (x7 + 1))))) else (lpX4_countsByPlay_10 vN vP x1 x2 x3 x4 k x5 (x7 + 1))))
def mX4_countsByPlay (vQ : Int32) (vN : SN) (vP : SP) (x1 : Int32) (x2 : Int32) (x3 : Int32) (x4 : Int32) : Option (Int64 × Int32 × SP) := (mX4_refreshPlay vQ vN vP).bind fun o1 => (lpX4_countsByPlay_10 vN o1.2 x1 x2 x3 x4 qFU 0 0).bind fun o33 => some (o33, o1.1, o1.2)
def rmX4_countsByPlay : Room := { frames := 6, cells := 0, slots := 0, locals := 135 }
set_option maxHeartbeats 8000000 in
set_option maxRecDepth 100000 in
theorem wX4_countsByPlay (l : Launch) (E : qE) (aQ : Nat) (aN : Nat → Nat) (aT : Nat → Nat) (aF : Nat → Nat) (aP : Nat → Nat) (aR : Nat → Nat) (vQ : Int32) (vN : SN) (vP : SP) (x1 : Int32) (x2 : Int32) (x3 : Int32) (x4 : Int32) (o : Int64 × Int32 × SP) (h : mX4_countsByPlay vQ vN vP x1 x2 x3 x4 = some o) : ML l E yX4_countsByPlay wsX4_countsByPlay rmX4_countsByPlay [.ref aQ, .int x1, .int x2, .int x3, .int x4] (WQ aQ aN aT aF aP aR vQ ++ (WN E aN vN ++ WP E aP vP)) (WQ aQ aN aT aF aP aR o.2.1 ++ (WN E aN vN ++ WP E aP o.2.2)) o.1 := by
  refine q_startL (cc := cX4_countsByPlay) (maxL := 8) (by decide) rfl (Nat.le_of_ble_eq_true rfl) ?_
  intro pr e s m args below meth c A Q hx hb hml hown hts hK hRt hP hD hA hS ls hl
  have hl : lv_has ls 8 [(0, .ref aQ), (1, .int x1), (2, .int x2), (3, .int x3), (4, .int x4)] := hl
  have hinX1 : ∀ w ∈ wsX10, w ∈ wsX4_countsByPlay := by decide +kernel
  have hinX2 : ∀ w ∈ wsX20, w ∈ wsX4_countsByPlay := by decide +kernel
  have hinX4 : ∀ w ∈ wsX40, w ∈ wsX4_countsByPlay := by decide +kernel
  have hw0 := hts (.fieldLink RX4 12 "QueueReader" "net" "LQueueReader$Net;") (by decide +kernel)
  have hw1 := hts (.fieldLink RX4 180 "QueueReader$Net" "stepPlaces" "[I") (by decide +kernel)
  have hw2 := hts (.fieldLink RX4 33 "QueueReader" "play" "LQueueReader$Play;") (by decide +kernel)
  have hw3 := hts (.fieldLink RX4 117 "QueueReader$Play" "came" "[I") (by decide +kernel)
  have hw4 := hts (.fieldLink RX4 120 "QueueReader$Play" "begun" "[I") (by decide +kernel)
  have hw5 := hts (.fieldLink RX4 123 "QueueReader$Play" "done" "[I") (by decide +kernel)
  have L10 : ∀ (vQ : Int32) (vN : SN) (vP : SP) (x1 : Int32) (x2 : Int32) (x3 : Int32) (x4 : Int32) (x5 : Int64) (x7 : Int32) (k : Nat) (H : Heap) (locs : List Loc) (ls : Array Slot), va_P E.1 vwCl (WQ aQ aN aT aF aP aR vQ ++ (WN E aN vN ++ WP E aP vP)) H → va_D A (WQ aQ aN aT aF aP aR vQ ++ (WN E aN vN ++ WP E aP vP)) → va_S A s.heap H locs → lv_has ls 8 [(0, .ref aQ), (1, .int x1), (2, .int x2), (3, .int x3), (4, .int x4), (5, .long x5), (7, .int x7)] → ∀ o, lpX4_countsByPlay_10 vN vP x1 x2 x3 x4 k x5 x7 = some o → (∀ (H : Heap) (locs : List Loc) (ls : Array Slot), va_P E.1 vwCl (WQ aQ aN aT aF aP aR vQ ++ (WN E aN vN ++ WP E aP vP)) H → va_D A (WQ aQ aN aT aF aP aR vQ ++ (WN E aN vN ++ WP E aP vP)) → va_S A s.heap H locs → lv_has ls 8 [(5, .long o)] → W pr l e rmX4_countsByPlay s m args below meth c H locs 0 0 Q (F0 m 85 ls [])) → W pr l e rmX4_countsByPlay s m args below meth c H locs 0 0 Q (F0 m 10 ls []) := by
    intro vQ vN vP x1 x2 x3 x4 x5 x7 k
    induction k generalizing x5 x7 with
    | zero => intro H locs ls hP hD hS hl o h; cases h
    | succ k ih =>
      intro H locs ls hP hD hS hl o h kk
      rw [lpX4_countsByPlay_10] at h
      refine lv_iload hx hb dX4_countsByPlay_10 (lv_at hl 6 rfl) ?_
      refine lv_aload_n hx hb dX4_countsByPlay_12 rfl (lv_at hl 0 rfl) ?_
      refine va_get (D := E.1) (ci := 4) (v := .ref (aN 0)) (C := RX4) (T := TX4) (N := 6) hx hb hts hinX4 hown hK.1 hP 0 rfl rfl 0 (by decide) hw0 (fun _ h9 => h9) rfl dX4_countsByPlay_13 ?_
      obtain ⟨o23, e24, h⟩ := q_bind h
      refine q_ci (va_runV (As := []) (rest := [.int x7]) ⟨hx, hb, hml, hown, hts⟩ (wX1_rowsEnd l E aN vN o23 e24 _) (cwV 0 hts gX4_countsByPlay_X1_rowsEnd rfl rfl rfl (by decide +kernel) ⟨Nat.le_of_ble_eq_true rfl, Nat.le_of_ble_eq_true rfl⟩) (q_preV hK hP hD pm_3_1 1 1 rfl rfl) rfl rfl hl.1 rfl (lv_room (Nat.le_of_ble_eq_true rfl)) dX4_countsByPlay_16 ⟨Nat.zero_le _, Nat.zero_le _⟩) hP hD hS hA pm_3_1 pm_3_1.symm (fun H locs hP hD hS => ?_)
      refine lv_icmp_ge (tgt := 85) hx hb dX4_countsByPlay_19 (by decide) (fun c25 => ?_) (fun c25 => ?_)
      · have h := q_pos c25 h
        obtain rfl := q_inj h
        exact kk _ _ _ hP hD hS (lv_sub hl [5] rfl)
      · have h := q_neg c25 h
        refine lv_aload_n hx hb dX4_countsByPlay_22 rfl (lv_at hl 0 rfl) ?_
        refine va_get (D := E.1) (ci := 4) (v := .ref (aN 0)) (C := RX4) (T := TX4) (N := 6) hx hb hts hinX4 hown hK.1 hP 0 rfl rfl 0 (by decide) hw0 (fun _ h9 => h9) rfl dX4_countsByPlay_23 ?_
        refine va_get (D := E.1) (ci := 1) (v := .ref (aN 7)) (C := RX1) (T := TX1) (N := 11) hx hb hts hinX1 hown hK.1 hP 1 rfl rfl 9 (by decide) hw1 (fun _ h9 => h9) rfl dX4_countsByPlay_26 ?_
        refine lv_iload hx hb dX4_countsByPlay_29 (lv_at hl 6 rfl) ?_
        obtain ⟨i26, h⟩ := q_ck h
        refine va_iald (f := (N_stepPlaces vN)) hx hb hK.1 hP 8 0 rfl rfl i26 dX4_countsByPlay_31 ?_
        refine lv_iload_n hx hb dX4_countsByPlay_32 rfl (lv_at hl 1 rfl) ?_
        refine lv_icmp_ne (tgt := 79) hx hb dX4_countsByPlay_33 (by decide) (fun c27 => ?_) (fun c27 => ?_)
        · have h := q_neg c27 h
          refine lv_iinc (v := (x7 + 1)) (lv' := [(7, .int (x7 + 1)), (0, .ref aQ), (1, .int x1), (2, .int x2), (3, .int x3), (4, .int x4), (5, .long x5)]) hx hb dX4_countsByPlay_79 hl (k := 6) rfl rfl (by decide) rfl (fun ls hl => ?_)
          refine lv_goto (tgt := 10) hx hb dX4_countsByPlay_82 (by decide) ?_
          exact ih x5 (x7 + 1) _ _ _ hP hD hS (lv_sub hl [1, 2, 3, 4, 5, 6, 0] rfl) _ h kk
        · have h := q_pos c27 h
          refine lv_lload hx hb dX4_countsByPlay_36 (lv_at hl 5 rfl) ?_
          refine lv_aload_n hx hb dX4_countsByPlay_38 rfl (lv_at hl 0 rfl) ?_
          refine va_get (D := E.1) (ci := 4) (v := .ref (aP 0)) (C := RX4) (T := TX4) (N := 6) hx hb hts hinX4 hown hK.1 hP 0 rfl rfl 3 (by decide) hw2 (fun _ h9 => h9) rfl dX4_countsByPlay_39 ?_
          refine va_get (D := E.1) (ci := 2) (v := .ref (aP 1)) (C := RX2) (T := TX2) (N := 8) hx hb hts hinX2 hown hK.1 hP 10 rfl rfl 0 (by decide) hw3 (fun _ h9 => h9) rfl dX4_countsByPlay_42 ?_
          refine lv_iload hx hb dX4_countsByPlay_45 (lv_at hl 6 rfl) ?_
          obtain ⟨i28, h⟩ := q_ck h
          refine va_iald (f := (P_came vP)) hx hb hK.1 hP 11 0 rfl rfl i28 dX4_countsByPlay_47 ?_
          refine lv_aload_n hx hb dX4_countsByPlay_48 rfl (lv_at hl 0 rfl) ?_
          refine va_get (D := E.1) (ci := 4) (v := .ref (aP 0)) (C := RX4) (T := TX4) (N := 6) hx hb hts hinX4 hown hK.1 hP 0 rfl rfl 3 (by decide) hw2 (fun _ h9 => h9) rfl dX4_countsByPlay_49 ?_
          refine va_get (D := E.1) (ci := 2) (v := .ref (aP 2)) (C := RX2) (T := TX2) (N := 8) hx hb hts hinX2 hown hK.1 hP 10 rfl rfl 1 (by decide) hw4 (fun _ h9 => h9) rfl dX4_countsByPlay_52 ?_
          refine lv_iload hx hb dX4_countsByPlay_55 (lv_at hl 6 rfl) ?_
          obtain ⟨i29, h⟩ := q_ck h
          refine va_iald (f := (P_begun vP)) hx hb hK.1 hP 12 0 rfl rfl i29 dX4_countsByPlay_57 ?_
          refine lv_aload_n hx hb dX4_countsByPlay_58 rfl (lv_at hl 0 rfl) ?_
          refine va_get (D := E.1) (ci := 4) (v := .ref (aP 0)) (C := RX4) (T := TX4) (N := 6) hx hb hts hinX4 hown hK.1 hP 0 rfl rfl 3 (by decide) hw2 (fun _ h9 => h9) rfl dX4_countsByPlay_59 ?_
          refine va_get (D := E.1) (ci := 2) (v := .ref (aP 3)) (C := RX2) (T := TX2) (N := 8) hx hb hts hinX2 hown hK.1 hP 10 rfl rfl 2 (by decide) hw5 (fun _ h9 => h9) rfl dX4_countsByPlay_62 ?_
          refine lv_iload hx hb dX4_countsByPlay_65 (lv_at hl 6 rfl) ?_
          obtain ⟨i30, h⟩ := q_ck h
          refine va_iald (f := (P_done vP)) hx hb hK.1 hP 13 0 rfl rfl i30 dX4_countsByPlay_67 ?_
          refine lv_iload_n hx hb dX4_countsByPlay_68 rfl (lv_at hl 2 rfl) ?_
          refine lv_iload_n hx hb dX4_countsByPlay_69 rfl (lv_at hl 3 rfl) ?_
          refine lv_iload hx hb dX4_countsByPlay_70 (lv_at hl 4 rfl) ?_
          obtain ⟨o31, e32, h⟩ := q_bind h
          refine q_ci (va_runS (As := [.int ((P_came vP) (Int32.toNatClampNeg x7)), .int ((P_begun vP) (Int32.toNatClampNeg x7)), .int ((P_done vP) (Int32.toNatClampNeg x7)), .int x2, .int x3, .int x4]) (rest := [.long x5]) ⟨hx, hb, hml, hown, hts⟩ (wX4_share l E  ((P_came vP) (Int32.toNatClampNeg x7)) ((P_begun vP) (Int32.toNatClampNeg x7)) ((P_done vP) (Int32.toNatClampNeg x7)) x2 x3 x4 o31 e32 _) (va_cwS 6 hts gX4_countsByPlay_X4_share rfl rfl rfl (by decide +kernel) ⟨Nat.le_of_ble_eq_true rfl, Nat.le_of_ble_eq_true rfl⟩) (q_preS hK hP hD q_nil) rfl rfl hl.1 rfl (lv_room (Nat.le_of_ble_eq_true rfl)) dX4_countsByPlay_72 ⟨Nat.zero_le _, Nat.zero_le _⟩) hP hD hS hA q_nil q_nil.symm (fun H locs hP hD hS => ?_)
          refine lv_i2l hx hb dX4_countsByPlay_75 rfl ?_
          refine lv_ladd hx hb dX4_countsByPlay_76 ?_
          refine lv_lstore (lv' := [(5, .long (x5 + (Int32.toInt64 o31))), (0, .ref aQ), (1, .int x1), (2, .int x2), (3, .int x3), (4, .int x4), (7, .int x7)]) hx hb dX4_countsByPlay_77 hl (by decide) rfl (fun ls hl => ?_)
          refine lv_iinc (v := (x7 + 1)) (lv' := [(7, .int (x7 + 1)), (5, .long (x5 + (Int32.toInt64 o31))), (0, .ref aQ), (1, .int x1), (2, .int x2), (3, .int x3), (4, .int x4)]) hx hb dX4_countsByPlay_79 hl (k := 6) rfl rfl (by decide) rfl (fun ls hl => ?_)
          refine lv_goto (tgt := 10) hx hb dX4_countsByPlay_82 (by decide) ?_
          exact ih (x5 + (Int32.toInt64 o31)) (x7 + 1) _ _ _ hP hD hS (lv_sub hl [2, 3, 4, 5, 6, 1, 0] rfl) _ h kk
  unfold mX4_countsByPlay at h
  refine lv_aload_n hx hb dX4_countsByPlay_0 rfl (lv_at hl 0 rfl) ?_
  obtain ⟨o1, e2, h⟩ := q_bind h
  refine q_cv (va_runV (As := []) (rest := []) ⟨hx, hb, hml, hown, hts⟩ (wX4_refreshPlay l E aQ aN aT aF aP aR vQ vN vP o1 e2 _) (cwV 0 hts gX4_countsByPlay_X4_refreshPlay rfl rfl rfl (by decide +kernel) ⟨Nat.le_of_ble_eq_true rfl, Nat.le_of_ble_eq_true rfl⟩) (q_preV hK hP hD q_idl 4 0 rfl rfl) rfl rfl hl.1 rfl (lv_room (Nat.le_of_ble_eq_true rfl)) dX4_countsByPlay_1 ⟨Nat.zero_le _, Nat.zero_le _⟩) hP hD hS hA q_idl q_idr (fun H locs hP hD hS => ?_)
  refine lv_lconst (v := 0) hx hb dX4_countsByPlay_4 (by decide) ?_
  refine lv_lstore (lv' := [(5, .long 0), (0, .ref aQ), (1, .int x1), (2, .int x2), (3, .int x3), (4, .int x4)]) hx hb dX4_countsByPlay_5 hl (by decide) rfl (fun ls hl => ?_)
  refine lv_iconst (v := 0) hx hb dX4_countsByPlay_7 (by decide) ?_
  refine lv_istore (lv' := [(7, .int 0), (5, .long 0), (0, .ref aQ), (1, .int x1), (2, .int x2), (3, .int x3), (4, .int x4)]) hx hb dX4_countsByPlay_8 hl (by decide) rfl (fun ls hl => ?_)
  obtain ⟨o33, e34, h⟩ := q_bind h
  refine L10 o1.1 vN o1.2 x1 x2 x3 x4 0 0 qFU _ _ _ hP hD hS (lv_sub hl [2, 3, 4, 5, 6, 1, 0] rfl) o33 e34 (fun H locs ls hP hD hS hl => ?_)
  refine lv_lload hx hb dX4_countsByPlay_85 (lv_at hl 0 rfl) ?_
  obtain rfl := q_inj h
  exact hRt 87 _ _ _ dX4_countsByPlay_87 hP hD hS
def lpX4_countsByTracks_6 (vN : SN) (vT : ST) (x1 : Int32) (x2 : Int32) (x3 : Int32) (x4 : Int32) : Nat → Int64 → Int32 → Option Int64
  | 0, _, _ => none
  | k + 1, x5, x7 => (mX1_rowsEnd vN).bind fun o31 => if o31 ≤ x7 then (some x5) else (ck x7 300 (Option.bind (if ((N_stepPlaces vN) (Int32.toNatClampNeg x7)) = x1 then ((mX3_cameOf vT vN x7).bind fun o44 => some o44) else (some (-1))) fun z36 => if z36 = (-1) then (lpX4_countsByTracks_6 vN vT x1 x2 x3 x4 k x5 (x7 + 1)) else (ck x7 300 (ck x7 300 ((mX4_share z36 ((T_begun vT) (Int32.toNatClampNeg x7)) ((T_done vT) (Int32.toNatClampNeg x7)) x2 x3 x4).bind fun o41 => lpX4_countsByTracks_6 vN vT x1 x2 x3 x4 k (x5 + (Int32.toInt64 o41)) (x7 + 1))))))
def mX4_countsByTracks (vQ : Int32) (vN : SN) (vT : ST) (x1 : Int32) (x2 : Int32) (x3 : Int32) (x4 : Int32) : Option Int64 := (lpX4_countsByTracks_6 vN vT x1 x2 x3 x4 qFU 0 0).bind fun o46 => some o46
def rmX4_countsByTracks : Room := { frames := 3, cells := 0, slots := 0, locals := 69 }
set_option maxHeartbeats 8000000 in
set_option maxRecDepth 100000 in
theorem wX4_countsByTracks (l : Launch) (E : qE) (aQ : Nat) (aN : Nat → Nat) (aT : Nat → Nat) (aF : Nat → Nat) (aP : Nat → Nat) (aR : Nat → Nat) (vQ : Int32) (vN : SN) (vT : ST) (x1 : Int32) (x2 : Int32) (x3 : Int32) (x4 : Int32) (o : Int64) (h : mX4_countsByTracks vQ vN vT x1 x2 x3 x4 = some o) : ML l E yX4_countsByTracks wsX4_countsByTracks rmX4_countsByTracks [.ref aQ, .int x1, .int x2, .int x3, .int x4] (WQ aQ aN aT aF aP aR vQ ++ (WN E aN vN ++ WT E aT vT)) (WQ aQ aN aT aF aP aR vQ ++ (WN E aN vN ++ WT E aT vT)) o := by
  refine q_startL (cc := cX4_countsByTracks) (maxL := 9) (by decide) rfl (Nat.le_of_ble_eq_true rfl) ?_
  intro pr e s m args below meth c A Q hx hb hml hown hts hK hRt hP hD hA hS ls hl
  have hl : lv_has ls 9 [(0, .ref aQ), (1, .int x1), (2, .int x2), (3, .int x3), (4, .int x4)] := hl
  have hinX1 : ∀ w ∈ wsX10, w ∈ wsX4_countsByTracks := by decide +kernel
  have hinX3 : ∀ w ∈ wsX30, w ∈ wsX4_countsByTracks := by decide +kernel
  have hinX4 : ∀ w ∈ wsX40, w ∈ wsX4_countsByTracks := by decide +kernel
  have hw0 := hts (.fieldLink RX4 12 "QueueReader" "net" "LQueueReader$Net;") (by decide +kernel)
  have hw1 := hts (.fieldLink RX4 180 "QueueReader$Net" "stepPlaces" "[I") (by decide +kernel)
  have hw2 := hts (.fieldLink RX4 19 "QueueReader" "told" "LQueueReader$Tracks;") (by decide +kernel)
  have hw3 := hts (.fieldLink RX4 137 "QueueReader$Tracks" "begun" "[I") (by decide +kernel)
  have hw4 := hts (.fieldLink RX4 138 "QueueReader$Tracks" "done" "[I") (by decide +kernel)
  have L6 : ∀ (vQ : Int32) (vN : SN) (vT : ST) (x1 : Int32) (x2 : Int32) (x3 : Int32) (x4 : Int32) (x5 : Int64) (x7 : Int32) (k : Nat) (H : Heap) (locs : List Loc) (ls : Array Slot), va_P E.1 vwCl (WQ aQ aN aT aF aP aR vQ ++ (WN E aN vN ++ WT E aT vT)) H → va_D A (WQ aQ aN aT aF aP aR vQ ++ (WN E aN vN ++ WT E aT vT)) → va_S A s.heap H locs → lv_has ls 9 [(0, .ref aQ), (1, .int x1), (2, .int x2), (3, .int x3), (4, .int x4), (5, .long x5), (7, .int x7)] → ∀ o, lpX4_countsByTracks_6 vN vT x1 x2 x3 x4 k x5 x7 = some o → (∀ (H : Heap) (locs : List Loc) (ls : Array Slot), va_P E.1 vwCl (WQ aQ aN aT aF aP aR vQ ++ (WN E aN vN ++ WT E aT vT)) H → va_D A (WQ aQ aN aT aF aP aR vQ ++ (WN E aN vN ++ WT E aT vT)) → va_S A s.heap H locs → lv_has ls 9 [(5, .long o)] → W pr l e rmX4_countsByTracks s m args below meth c H locs 0 0 Q (F0 m 98 ls [])) → W pr l e rmX4_countsByTracks s m args below meth c H locs 0 0 Q (F0 m 6 ls []) := by
    intro vQ vN vT x1 x2 x3 x4 x5 x7 k
    induction k generalizing x5 x7 with
    | zero => intro H locs ls hP hD hS hl o h; cases h
    | succ k ih =>
      intro H locs ls hP hD hS hl o h kk
      rw [lpX4_countsByTracks_6] at h
      refine lv_iload hx hb dX4_countsByTracks_6 (lv_at hl 6 rfl) ?_
      refine lv_aload_n hx hb dX4_countsByTracks_8 rfl (lv_at hl 0 rfl) ?_
      refine va_get (D := E.1) (ci := 4) (v := .ref (aN 0)) (C := RX4) (T := TX4) (N := 6) hx hb hts hinX4 hown hK.1 hP 0 rfl rfl 0 (by decide) hw0 (fun _ h9 => h9) rfl dX4_countsByTracks_9 ?_
      obtain ⟨o31, e32, h⟩ := q_bind h
      refine q_ci (va_runV (As := []) (rest := [.int x7]) ⟨hx, hb, hml, hown, hts⟩ (wX1_rowsEnd l E aN vN o31 e32 _) (cwV 0 hts gX4_countsByTracks_X1_rowsEnd rfl rfl rfl (by decide +kernel) ⟨Nat.le_of_ble_eq_true rfl, Nat.le_of_ble_eq_true rfl⟩) (q_preV hK hP hD pm_3_1 1 1 rfl rfl) rfl rfl hl.1 rfl (lv_room (Nat.le_of_ble_eq_true rfl)) dX4_countsByTracks_12 ⟨Nat.zero_le _, Nat.zero_le _⟩) hP hD hS hA pm_3_1 pm_3_1.symm (fun H locs hP hD hS => ?_)
      refine lv_icmp_ge (tgt := 98) hx hb dX4_countsByTracks_15 (by decide) (fun c33 => ?_) (fun c33 => ?_)
      · have h := q_pos c33 h
        obtain rfl := q_inj h
        exact kk _ _ _ hP hD hS (lv_sub hl [5] rfl)
      · have h := q_neg c33 h
        refine lv_aload_n hx hb dX4_countsByTracks_18 rfl (lv_at hl 0 rfl) ?_
        refine va_get (D := E.1) (ci := 4) (v := .ref (aN 0)) (C := RX4) (T := TX4) (N := 6) hx hb hts hinX4 hown hK.1 hP 0 rfl rfl 0 (by decide) hw0 (fun _ h9 => h9) rfl dX4_countsByTracks_19 ?_
        refine va_get (D := E.1) (ci := 1) (v := .ref (aN 7)) (C := RX1) (T := TX1) (N := 11) hx hb hts hinX1 hown hK.1 hP 1 rfl rfl 9 (by decide) hw1 (fun _ h9 => h9) rfl dX4_countsByTracks_22 ?_
        refine lv_iload hx hb dX4_countsByTracks_25 (lv_at hl 6 rfl) ?_
        obtain ⟨i34, h⟩ := q_ck h
        refine va_iald (f := (N_stepPlaces vN)) hx hb hK.1 hP 8 0 rfl rfl i34 dX4_countsByTracks_27 ?_
        refine lv_iload_n hx hb dX4_countsByTracks_28 rfl (lv_at hl 1 rfl) ?_
        obtain ⟨z36, e37, h⟩ := q_bind h
        have KJ35 : ∀ (H : Heap) (locs : List Loc), va_P E.1 vwCl (WQ aQ aN aT aF aP aR vQ ++ (WN E aN vN ++ WT E aT vT)) H → va_D A (WQ aQ aN aT aF aP aR vQ ++ (WN E aN vN ++ WT E aT vT)) → va_S A s.heap H locs → W pr l e rmX4_countsByTracks s m args below meth c H locs 0 0 Q (F0 m 49 ls [.int z36]) := by
          intro H locs hP hD hS
          refine lv_istore (lv' := [(8, .int z36), (0, .ref aQ), (1, .int x1), (2, .int x2), (3, .int x3), (4, .int x4), (5, .long x5), (7, .int x7)]) hx hb dX4_countsByTracks_49 hl (by decide) rfl (fun ls hl => ?_)
          refine lv_iload hx hb dX4_countsByTracks_51 (lv_at hl 0 rfl) ?_
          refine lv_iconst (v := (-1)) hx hb dX4_countsByTracks_53 (by decide) ?_
          refine lv_icmp_eq (tgt := 92) hx hb dX4_countsByTracks_54 (by decide) (fun c38 => ?_) (fun c38 => ?_)
          · have h := q_pos c38 h
            refine lv_iinc (v := (x7 + 1)) (lv' := [(7, .int (x7 + 1)), (8, .int z36), (0, .ref aQ), (1, .int x1), (2, .int x2), (3, .int x3), (4, .int x4), (5, .long x5)]) hx hb dX4_countsByTracks_92 hl (k := 7) rfl rfl (by decide) rfl (fun ls hl => ?_)
            refine lv_goto (tgt := 6) hx hb dX4_countsByTracks_95 (by decide) ?_
            exact ih x5 (x7 + 1) _ _ _ hP hD hS (lv_sub hl [2, 3, 4, 5, 6, 7, 0] rfl) _ h kk
          · have h := q_neg c38 h
            refine lv_lload hx hb dX4_countsByTracks_57 (lv_at hl 6 rfl) ?_
            refine lv_iload hx hb dX4_countsByTracks_59 (lv_at hl 0 rfl) ?_
            refine lv_aload_n hx hb dX4_countsByTracks_61 rfl (lv_at hl 1 rfl) ?_
            refine va_get (D := E.1) (ci := 4) (v := .ref (aT 0)) (C := RX4) (T := TX4) (N := 6) hx hb hts hinX4 hown hK.1 hP 0 rfl rfl 1 (by decide) hw2 (fun _ h9 => h9) rfl dX4_countsByTracks_62 ?_
            refine va_get (D := E.1) (ci := 3) (v := .ref (aT 2)) (C := RX3) (T := TX3) (N := 3) hx hb hts hinX3 hown hK.1 hP 10 rfl rfl 1 (by decide) hw3 (fun _ h9 => h9) rfl dX4_countsByTracks_65 ?_
            refine lv_iload hx hb dX4_countsByTracks_68 (lv_at hl 7 rfl) ?_
            obtain ⟨i39, h⟩ := q_ck h
            refine va_iald (f := (T_begun vT)) hx hb hK.1 hP 12 0 rfl rfl i39 dX4_countsByTracks_70 ?_
            refine lv_aload_n hx hb dX4_countsByTracks_71 rfl (lv_at hl 1 rfl) ?_
            refine va_get (D := E.1) (ci := 4) (v := .ref (aT 0)) (C := RX4) (T := TX4) (N := 6) hx hb hts hinX4 hown hK.1 hP 0 rfl rfl 1 (by decide) hw2 (fun _ h9 => h9) rfl dX4_countsByTracks_72 ?_
            refine va_get (D := E.1) (ci := 3) (v := .ref (aT 3)) (C := RX3) (T := TX3) (N := 3) hx hb hts hinX3 hown hK.1 hP 10 rfl rfl 2 (by decide) hw4 (fun _ h9 => h9) rfl dX4_countsByTracks_75 ?_
            refine lv_iload hx hb dX4_countsByTracks_78 (lv_at hl 7 rfl) ?_
            obtain ⟨i40, h⟩ := q_ck h
            refine va_iald (f := (T_done vT)) hx hb hK.1 hP 13 0 rfl rfl i40 dX4_countsByTracks_80 ?_
            refine lv_iload_n hx hb dX4_countsByTracks_81 rfl (lv_at hl 3 rfl) ?_
            refine lv_iload_n hx hb dX4_countsByTracks_82 rfl (lv_at hl 4 rfl) ?_
            refine lv_iload hx hb dX4_countsByTracks_83 (lv_at hl 5 rfl) ?_
            obtain ⟨o41, e42, h⟩ := q_bind h
            refine q_ci (va_runS (As := [.int z36, .int ((T_begun vT) (Int32.toNatClampNeg x7)), .int ((T_done vT) (Int32.toNatClampNeg x7)), .int x2, .int x3, .int x4]) (rest := [.long x5]) ⟨hx, hb, hml, hown, hts⟩ (wX4_share l E  z36 ((T_begun vT) (Int32.toNatClampNeg x7)) ((T_done vT) (Int32.toNatClampNeg x7)) x2 x3 x4 o41 e42 _) (va_cwS 6 hts gX4_countsByTracks_X4_share rfl rfl rfl (by decide +kernel) ⟨Nat.le_of_ble_eq_true rfl, Nat.le_of_ble_eq_true rfl⟩) (q_preS hK hP hD q_nil) rfl rfl hl.1 rfl (lv_room (Nat.le_of_ble_eq_true rfl)) dX4_countsByTracks_85 ⟨Nat.zero_le _, Nat.zero_le _⟩) hP hD hS hA q_nil q_nil.symm (fun H locs hP hD hS => ?_)
            refine lv_i2l hx hb dX4_countsByTracks_88 rfl ?_
            refine lv_ladd hx hb dX4_countsByTracks_89 ?_
            refine lv_lstore (lv' := [(5, .long (x5 + (Int32.toInt64 o41))), (8, .int z36), (0, .ref aQ), (1, .int x1), (2, .int x2), (3, .int x3), (4, .int x4), (7, .int x7)]) hx hb dX4_countsByTracks_90 hl (by decide) rfl (fun ls hl => ?_)
            refine lv_iinc (v := (x7 + 1)) (lv' := [(7, .int (x7 + 1)), (5, .long (x5 + (Int32.toInt64 o41))), (8, .int z36), (0, .ref aQ), (1, .int x1), (2, .int x2), (3, .int x3), (4, .int x4)]) hx hb dX4_countsByTracks_92 hl (k := 7) rfl rfl (by decide) rfl (fun ls hl => ?_)
            refine lv_goto (tgt := 6) hx hb dX4_countsByTracks_95 (by decide) ?_
            exact ih (x5 + (Int32.toInt64 o41)) (x7 + 1) _ _ _ hP hD hS (lv_sub hl [3, 4, 5, 6, 7, 1, 0] rfl) _ h kk
        have h := e37
        refine lv_icmp_ne (tgt := 48) hx hb dX4_countsByTracks_29 (by decide) (fun c43 => ?_) (fun c43 => ?_)
        · have h := q_neg c43 h
          refine lv_iconst (v := (-1)) hx hb dX4_countsByTracks_48 (by decide) ?_
          obtain rfl := q_inj h
          exact KJ35 _ _ hP hD hS
        · have h := q_pos c43 h
          refine lv_aload_n hx hb dX4_countsByTracks_32 rfl (lv_at hl 0 rfl) ?_
          refine va_get (D := E.1) (ci := 4) (v := .ref (aT 0)) (C := RX4) (T := TX4) (N := 6) hx hb hts hinX4 hown hK.1 hP 0 rfl rfl 1 (by decide) hw2 (fun _ h9 => h9) rfl dX4_countsByTracks_33 ?_
          refine lv_aload_n hx hb dX4_countsByTracks_36 rfl (lv_at hl 0 rfl) ?_
          refine va_get (D := E.1) (ci := 4) (v := .ref (aN 0)) (C := RX4) (T := TX4) (N := 6) hx hb hts hinX4 hown hK.1 hP 0 rfl rfl 0 (by decide) hw0 (fun _ h9 => h9) rfl dX4_countsByTracks_37 ?_
          refine lv_iload hx hb dX4_countsByTracks_40 (lv_at hl 6 rfl) ?_
          obtain ⟨o44, e45, h⟩ := q_bind h
          refine q_ci (va_runV (As := [.ref (aN 0), .int x7]) (rest := []) ⟨hx, hb, hml, hown, hts⟩ (wX3_cameOf l E aT aN vT vN x7 o44 e45 _) (cwV 2 hts gX4_countsByTracks_X3_cameOf rfl rfl rfl (by decide +kernel) ⟨Nat.le_of_ble_eq_true rfl, Nat.le_of_ble_eq_true rfl⟩) (q_preV hK hP hD pm_3_21 3 10 rfl rfl) rfl rfl hl.1 rfl (lv_room (Nat.le_of_ble_eq_true rfl)) dX4_countsByTracks_42 ⟨Nat.zero_le _, Nat.zero_le _⟩) hP hD hS hA pm_3_21 pm_3_21.symm (fun H locs hP hD hS => ?_)
          refine lv_goto (tgt := 49) hx hb dX4_countsByTracks_45 (by decide) ?_
          obtain rfl := q_inj h
          exact KJ35 _ _ hP hD hS
  unfold mX4_countsByTracks at h
  refine lv_lconst (v := 0) hx hb dX4_countsByTracks_0 (by decide) ?_
  refine lv_lstore (lv' := [(5, .long 0), (0, .ref aQ), (1, .int x1), (2, .int x2), (3, .int x3), (4, .int x4)]) hx hb dX4_countsByTracks_1 hl (by decide) rfl (fun ls hl => ?_)
  refine lv_iconst (v := 0) hx hb dX4_countsByTracks_3 (by decide) ?_
  refine lv_istore (lv' := [(7, .int 0), (5, .long 0), (0, .ref aQ), (1, .int x1), (2, .int x2), (3, .int x3), (4, .int x4)]) hx hb dX4_countsByTracks_4 hl (by decide) rfl (fun ls hl => ?_)
  obtain ⟨o46, e47, h⟩ := q_bind h
  refine L6 vQ vN vT x1 x2 x3 x4 0 0 qFU _ _ _ hP hD hS (lv_sub hl [2, 3, 4, 5, 6, 1, 0] rfl) o46 e47 (fun H locs ls hP hD hS hl => ?_)
  refine lv_lload hx hb dX4_countsByTracks_98 (lv_at hl 0 rfl) ?_
  obtain rfl := q_inj h
  exact hRt 100 _ _ _ dX4_countsByTracks_100 hP hD hS
def mX4_counts (vQ : Int32) (vN : SN) (vT : ST) (vP : SP) (x1 : Int32) (x2 : Int32) (x3 : Int32) (x4 : Int32) (x5 : Int32) : Option (Sum String (Int64 × Int32 × SP)) := (mX4_needPlace vQ vN x1).bind fun o1 => qX o1 fun vo1 => (mX4_needWithin x4 0 10000000).bind fun o3 => qX o3 fun vo3 => (mX4_needWithin x3 0 x4).bind fun o5 => qX o5 fun vo5 => (mX4_needWhat x5 3).bind fun o7 => qX o7 fun vo7 => Option.map (fun z => Sum.inr z) (if x2 = 0 then ((mX4_countsByPlay vQ vN vP x1 x3 x4 x5).bind fun o10 => some (o10.1, o10.2.1, o10.2.2)) else ((mX4_countsByTracks vQ vN vT x1 x3 x4 x5).bind fun o12 => some (o12, vQ, vP)))
def rmX4_counts : Room := { frames := 7, cells := 0, slots := 0, locals := 162 }
set_option maxHeartbeats 8000000 in
set_option maxRecDepth 100000 in
theorem wX4_counts (l : Launch) (E : qE) (aQ : Nat) (aN : Nat → Nat) (aT : Nat → Nat) (aF : Nat → Nat) (aP : Nat → Nat) (aR : Nat → Nat) (vQ : Int32) (vN : SN) (vT : ST) (vP : SP) (x1 : Int32) (x2 : Int32) (x3 : Int32) (x4 : Int32) (x5 : Int32) (o : Int64 × Int32 × SP) (h : mX4_counts vQ vN vT vP x1 x2 x3 x4 x5 = some (Sum.inr o)) : ML l E yX4_counts wsX4_counts rmX4_counts [.ref aQ, .int x1, .int x2, .int x3, .int x4, .int x5] (WQ aQ aN aT aF aP aR vQ ++ (WN E aN vN ++ (WT E aT vT ++ WP E aP vP))) (WQ aQ aN aT aF aP aR o.2.1 ++ (WN E aN vN ++ (WT E aT vT ++ WP E aP o.2.2))) o.1 := by
  refine q_startL (cc := cX4_counts) (maxL := 6) (by decide) rfl (Nat.le_of_ble_eq_true rfl) ?_
  intro pr e s m args below meth c A Q hx hb hml hown hts hK hRt hP hD hA hS ls hl
  have hl : lv_has ls 6 [(0, .ref aQ), (1, .int x1), (2, .int x2), (3, .int x3), (4, .int x4), (5, .int x5)] := hl
  have hw0 := hts (.constant RX4 97 (10000000)) (by decide +kernel)
  unfold mX4_counts at h
  refine lv_aload_n hx hb dX4_counts_0 rfl (lv_at hl 0 rfl) ?_
  refine lv_iload_n hx hb dX4_counts_1 rfl (lv_at hl 1 rfl) ?_
  obtain ⟨o1, e2, h⟩ := q_bind h
  rcases o1 with Eo1 | vo1
  · cases h
  have h := qX_r h
  refine q_cv (va_runV (As := [.int x1]) (rest := []) ⟨hx, hb, hml, hown, hts⟩ (wX4_needPlace l E aQ aN aT aF aP aR vQ vN x1 vo1 e2 _) (cwV 1 hts gX4_counts_X4_needPlace rfl rfl rfl (by decide +kernel) ⟨Nat.le_of_ble_eq_true rfl, Nat.le_of_ble_eq_true rfl⟩) (q_preV hK hP hD pm_4_01 4 0 rfl rfl) rfl rfl hl.1 rfl (lv_room (Nat.le_of_ble_eq_true rfl)) dX4_counts_2 ⟨Nat.zero_le _, Nat.zero_le _⟩) hP hD hS hA pm_4_01 pm_4_01.symm (fun H locs hP hD hS => ?_)
  refine lv_iload hx hb dX4_counts_5 (lv_at hl 4 rfl) ?_
  refine lv_iconst (v := 0) hx hb dX4_counts_7 (by decide) ?_
  refine lv_ldc (v := 10000000) hx hb hown hw0 dX4_counts_8 ?_
  obtain ⟨o3, e4, h⟩ := q_bind h
  rcases o3 with Eo3 | vo3
  · cases h
  have h := qX_r h
  refine q_cv (va_runS (As := [.int x4, .int 0, .int 10000000]) (rest := []) ⟨hx, hb, hml, hown, hts⟩ (wX4_needWithin l E  x4 0 10000000 vo3 e4 _) (va_cwS 3 hts gX4_counts_X4_needWithin rfl rfl rfl (by decide +kernel) ⟨Nat.le_of_ble_eq_true rfl, Nat.le_of_ble_eq_true rfl⟩) (q_preS hK hP hD q_nil) rfl rfl hl.1 rfl (lv_room (Nat.le_of_ble_eq_true rfl)) dX4_counts_10 ⟨Nat.zero_le _, Nat.zero_le _⟩) hP hD hS hA q_nil q_nil.symm (fun H locs hP hD hS => ?_)
  refine lv_iload_n hx hb dX4_counts_13 rfl (lv_at hl 3 rfl) ?_
  refine lv_iconst (v := 0) hx hb dX4_counts_14 (by decide) ?_
  refine lv_iload hx hb dX4_counts_15 (lv_at hl 4 rfl) ?_
  obtain ⟨o5, e6, h⟩ := q_bind h
  rcases o5 with Eo5 | vo5
  · cases h
  have h := qX_r h
  refine q_cv (va_runS (As := [.int x3, .int 0, .int x4]) (rest := []) ⟨hx, hb, hml, hown, hts⟩ (wX4_needWithin l E  x3 0 x4 vo5 e6 _) (va_cwS 3 hts gX4_counts_X4_needWithin rfl rfl rfl (by decide +kernel) ⟨Nat.le_of_ble_eq_true rfl, Nat.le_of_ble_eq_true rfl⟩) (q_preS hK hP hD q_nil) rfl rfl hl.1 rfl (lv_room (Nat.le_of_ble_eq_true rfl)) dX4_counts_17 ⟨Nat.zero_le _, Nat.zero_le _⟩) hP hD hS hA q_nil q_nil.symm (fun H locs hP hD hS => ?_)
  refine lv_iload hx hb dX4_counts_20 (lv_at hl 5 rfl) ?_
  refine lv_iconst (v := 3) hx hb dX4_counts_22 (by decide) ?_
  obtain ⟨o7, e8, h⟩ := q_bind h
  rcases o7 with Eo7 | vo7
  · cases h
  have h := qX_r h
  refine q_cv (va_runS (As := [.int x5, .int 3]) (rest := []) ⟨hx, hb, hml, hown, hts⟩ (wX4_needWhat l E  x5 3 vo7 e8 _) (va_cwS 2 hts gX4_counts_X4_needWhat rfl rfl rfl (by decide +kernel) ⟨Nat.le_of_ble_eq_true rfl, Nat.le_of_ble_eq_true rfl⟩) (q_preS hK hP hD q_nil) rfl rfl hl.1 rfl (lv_room (Nat.le_of_ble_eq_true rfl)) dX4_counts_23 ⟨Nat.zero_le _, Nat.zero_le _⟩) hP hD hS hA q_nil q_nil.symm (fun H locs hP hD hS => ?_)
  have h := q_mr h
  refine lv_iload_n hx hb dX4_counts_26 rfl (lv_at hl 2 rfl) ?_
  refine lv_if_eq (tgt := 41) hx hb dX4_counts_27 (by decide) (fun c9 => ?_) (fun c9 => ?_)
  · have h := q_pos c9 h
    refine lv_aload_n hx hb dX4_counts_41 rfl (lv_at hl 0 rfl) ?_
    refine lv_iload_n hx hb dX4_counts_42 rfl (lv_at hl 1 rfl) ?_
    refine lv_iload_n hx hb dX4_counts_43 rfl (lv_at hl 3 rfl) ?_
    refine lv_iload hx hb dX4_counts_44 (lv_at hl 4 rfl) ?_
    refine lv_iload hx hb dX4_counts_46 (lv_at hl 5 rfl) ?_
    obtain ⟨o10, e11, h⟩ := q_bind h
    refine q_cl (va_runV (As := [.int x1, .int x3, .int x4, .int x5]) (rest := []) ⟨hx, hb, hml, hown, hts⟩ (wX4_countsByPlay l E aQ aN aT aF aP aR vQ vN vP x1 x3 x4 x5 o10 e11 _) (cwV 4 hts gX4_counts_X4_countsByPlay rfl rfl rfl (by decide +kernel) ⟨Nat.le_of_ble_eq_true rfl, Nat.le_of_ble_eq_true rfl⟩) (q_preV hK hP hD pm_4_013 4 0 rfl rfl) rfl rfl hl.1 rfl (lv_room (Nat.le_of_ble_eq_true rfl)) dX4_counts_48 ⟨Nat.zero_le _, Nat.zero_le _⟩) hP hD hS hA pm_4_013 pm_4_013.symm (fun H locs hP hD hS => ?_)
    obtain rfl := q_inj h
    exact hRt 51 _ _ _ dX4_counts_51 hP hD hS
  · have h := q_neg c9 h
    refine lv_aload_n hx hb dX4_counts_30 rfl (lv_at hl 0 rfl) ?_
    refine lv_iload_n hx hb dX4_counts_31 rfl (lv_at hl 1 rfl) ?_
    refine lv_iload_n hx hb dX4_counts_32 rfl (lv_at hl 3 rfl) ?_
    refine lv_iload hx hb dX4_counts_33 (lv_at hl 4 rfl) ?_
    refine lv_iload hx hb dX4_counts_35 (lv_at hl 5 rfl) ?_
    obtain ⟨o12, e13, h⟩ := q_bind h
    refine q_cl (va_runV (As := [.int x1, .int x3, .int x4, .int x5]) (rest := []) ⟨hx, hb, hml, hown, hts⟩ (wX4_countsByTracks l E aQ aN aT aF aP aR vQ vN vT x1 x3 x4 x5 o12 e13 _) (cwV 4 hts gX4_counts_X4_countsByTracks rfl rfl rfl (by decide +kernel) ⟨Nat.le_of_ble_eq_true rfl, Nat.le_of_ble_eq_true rfl⟩) (q_preV hK hP hD pm_4_012 4 0 rfl rfl) rfl rfl hl.1 rfl (lv_room (Nat.le_of_ble_eq_true rfl)) dX4_counts_37 ⟨Nat.zero_le _, Nat.zero_le _⟩) hP hD hS hA pm_4_012 pm_4_012.symm (fun H locs hP hD hS => ?_)
    obtain rfl := q_inj h
    exact hRt 40 _ _ _ dX4_counts_40 hP hD hS
def rxX4_counts : Room := { frames := 7, cells := 1, slots := 6, locals := 162 }
set_option maxHeartbeats 8000000 in
set_option maxRecDepth 100000 in
theorem xX4_counts (l : Launch) (hfl : l.stackTraces = false) (E : qE) (aQ : Nat) (aN : Nat → Nat) (aT : Nat → Nat) (aF : Nat → Nat) (aP : Nat → Nat) (aR : Nat → Nat) (vQ : Int32) (vN : SN) (vT : ST) (vP : SP) (x1 : Int32) (x2 : Int32) (x3 : Int32) (x4 : Int32) (x5 : Int32) (Ex : String) (h : mX4_counts vQ vN vT vP x1 x2 x3 x4 x5 = some (Sum.inl Ex)) : XT l E yX4_counts wsX4_counts rxX4_counts [.ref aQ, .int x1, .int x2, .int x3, .int x4, .int x5] (WQ aQ aN aT aF aP aR vQ ++ (WN E aN vN ++ (WT E aT vT ++ WP E aP vP))) Ex := by
  refine q_startX (cc := cX4_counts) (maxL := 6) hfl (by decide) rfl (Nat.le_of_ble_eq_true rfl) (Nat.le_of_ble_eq_true rfl) (Nat.le_of_ble_eq_true rfl) (Nat.le_of_ble_eq_true rfl) (Nat.le_of_ble_eq_true rfl) ?_
  intro pr e s m args below meth c A Q hx hb hml hown hts hK hC hT hZ hRp hTh hTn hP hD hA hS ls hl
  have hl : lv_has ls 6 [(0, .ref aQ), (1, .int x1), (2, .int x2), (3, .int x3), (4, .int x4), (5, .int x5)] := hl
  have hw0 := hts (.constant RX4 97 (10000000)) (by decide +kernel)
  unfold mX4_counts at h
  refine lv_aload_n hx hb dX4_counts_0 rfl (lv_at hl 0 rfl) ?_
  refine lv_iload_n hx hb dX4_counts_1 rfl (lv_at hl 1 rfl) ?_
  obtain ⟨o1, e2, h⟩ := q_bind h
  rcases o1 with Eo1 | vo1
  · obtain rfl := q_injl h
    exact qx_c (vx_runV (As := [.int x1]) (rest := []) ⟨hx, hb, hml, hown, hts⟩ (xX4_needPlace l hfl E aQ aN aT aF aP aR vQ vN x1 _ e2 _) (cwV 1 hts gX4_counts_X4_needPlace rfl rfl rfl (by decide +kernel) ⟨Nat.le_of_ble_eq_true rfl, Nat.le_of_ble_eq_true rfl⟩) (qx_preV hK hC hT hZ hS hA hP hD pm_4_01 4 0 rfl rfl) rfl rfl hl.1 rfl (lv_room (Nat.le_of_ble_eq_true rfl)) dX4_counts_2 ⟨Nat.le_of_ble_eq_true rfl, Nat.le_of_ble_eq_true rfl⟩) hP hD hS hA pm_4_01 (fun H1 locs1 q9 ce a1 a2 a3 a4 a5 a6 => hRp _ _ _ _ _ _ _ a1 a2 a3 a4 a5 a6)
  have h := qX_r h
  refine q_cv (va_runV (As := [.int x1]) (rest := []) ⟨hx, hb, hml, hown, hts⟩ (wX4_needPlace l E aQ aN aT aF aP aR vQ vN x1 vo1 e2 _) (cwV 1 hts gX4_counts_X4_needPlace rfl rfl rfl (by decide +kernel) ⟨Nat.le_of_ble_eq_true rfl, Nat.le_of_ble_eq_true rfl⟩) (q_preV hK hP hD pm_4_01 4 0 rfl rfl) rfl rfl hl.1 rfl (lv_room (Nat.le_of_ble_eq_true rfl)) dX4_counts_2 ⟨Nat.zero_le _, Nat.zero_le _⟩) hP hD hS hA pm_4_01 pm_4_01.symm (fun H locs hP hD hS => ?_)
  refine lv_iload hx hb dX4_counts_5 (lv_at hl 4 rfl) ?_
  refine lv_iconst (v := 0) hx hb dX4_counts_7 (by decide) ?_
  refine lv_ldc (v := 10000000) hx hb hown hw0 dX4_counts_8 ?_
  obtain ⟨o3, e4, h⟩ := q_bind h
  rcases o3 with Eo3 | vo3
  · obtain rfl := q_injl h
    exact qx_c (vx_runS (As := [.int x4, .int 0, .int 10000000]) (rest := []) ⟨hx, hb, hml, hown, hts⟩ (xX4_needWithin l hfl E  x4 0 10000000 _ e4 _) (va_cwS 3 hts gX4_counts_X4_needWithin rfl rfl rfl (by decide +kernel) ⟨Nat.le_of_ble_eq_true rfl, Nat.le_of_ble_eq_true rfl⟩) (qx_preS hK hC hT hZ hS hA hP hD q_nil) rfl rfl hl.1 rfl (lv_room (Nat.le_of_ble_eq_true rfl)) dX4_counts_10 ⟨Nat.le_of_ble_eq_true rfl, Nat.le_of_ble_eq_true rfl⟩) hP hD hS hA q_nil (fun H1 locs1 q9 ce a1 a2 a3 a4 a5 a6 => hRp _ _ _ _ _ _ _ a1 a2 a3 a4 a5 a6)
  have h := qX_r h
  refine q_cv (va_runS (As := [.int x4, .int 0, .int 10000000]) (rest := []) ⟨hx, hb, hml, hown, hts⟩ (wX4_needWithin l E  x4 0 10000000 vo3 e4 _) (va_cwS 3 hts gX4_counts_X4_needWithin rfl rfl rfl (by decide +kernel) ⟨Nat.le_of_ble_eq_true rfl, Nat.le_of_ble_eq_true rfl⟩) (q_preS hK hP hD q_nil) rfl rfl hl.1 rfl (lv_room (Nat.le_of_ble_eq_true rfl)) dX4_counts_10 ⟨Nat.zero_le _, Nat.zero_le _⟩) hP hD hS hA q_nil q_nil.symm (fun H locs hP hD hS => ?_)
  refine lv_iload_n hx hb dX4_counts_13 rfl (lv_at hl 3 rfl) ?_
  refine lv_iconst (v := 0) hx hb dX4_counts_14 (by decide) ?_
  refine lv_iload hx hb dX4_counts_15 (lv_at hl 4 rfl) ?_
  obtain ⟨o5, e6, h⟩ := q_bind h
  rcases o5 with Eo5 | vo5
  · obtain rfl := q_injl h
    exact qx_c (vx_runS (As := [.int x3, .int 0, .int x4]) (rest := []) ⟨hx, hb, hml, hown, hts⟩ (xX4_needWithin l hfl E  x3 0 x4 _ e6 _) (va_cwS 3 hts gX4_counts_X4_needWithin rfl rfl rfl (by decide +kernel) ⟨Nat.le_of_ble_eq_true rfl, Nat.le_of_ble_eq_true rfl⟩) (qx_preS hK hC hT hZ hS hA hP hD q_nil) rfl rfl hl.1 rfl (lv_room (Nat.le_of_ble_eq_true rfl)) dX4_counts_17 ⟨Nat.le_of_ble_eq_true rfl, Nat.le_of_ble_eq_true rfl⟩) hP hD hS hA q_nil (fun H1 locs1 q9 ce a1 a2 a3 a4 a5 a6 => hRp _ _ _ _ _ _ _ a1 a2 a3 a4 a5 a6)
  have h := qX_r h
  refine q_cv (va_runS (As := [.int x3, .int 0, .int x4]) (rest := []) ⟨hx, hb, hml, hown, hts⟩ (wX4_needWithin l E  x3 0 x4 vo5 e6 _) (va_cwS 3 hts gX4_counts_X4_needWithin rfl rfl rfl (by decide +kernel) ⟨Nat.le_of_ble_eq_true rfl, Nat.le_of_ble_eq_true rfl⟩) (q_preS hK hP hD q_nil) rfl rfl hl.1 rfl (lv_room (Nat.le_of_ble_eq_true rfl)) dX4_counts_17 ⟨Nat.zero_le _, Nat.zero_le _⟩) hP hD hS hA q_nil q_nil.symm (fun H locs hP hD hS => ?_)
  refine lv_iload hx hb dX4_counts_20 (lv_at hl 5 rfl) ?_
  refine lv_iconst (v := 3) hx hb dX4_counts_22 (by decide) ?_
  obtain ⟨o7, e8, h⟩ := q_bind h
  rcases o7 with Eo7 | vo7
  · obtain rfl := q_injl h
    exact qx_c (vx_runS (As := [.int x5, .int 3]) (rest := []) ⟨hx, hb, hml, hown, hts⟩ (xX4_needWhat l hfl E  x5 3 _ e8 _) (va_cwS 2 hts gX4_counts_X4_needWhat rfl rfl rfl (by decide +kernel) ⟨Nat.le_of_ble_eq_true rfl, Nat.le_of_ble_eq_true rfl⟩) (qx_preS hK hC hT hZ hS hA hP hD q_nil) rfl rfl hl.1 rfl (lv_room (Nat.le_of_ble_eq_true rfl)) dX4_counts_23 ⟨Nat.le_of_ble_eq_true rfl, Nat.le_of_ble_eq_true rfl⟩) hP hD hS hA q_nil (fun H1 locs1 q9 ce a1 a2 a3 a4 a5 a6 => hRp _ _ _ _ _ _ _ a1 a2 a3 a4 a5 a6)
  have h := qX_r h
  refine q_cv (va_runS (As := [.int x5, .int 3]) (rest := []) ⟨hx, hb, hml, hown, hts⟩ (wX4_needWhat l E  x5 3 vo7 e8 _) (va_cwS 2 hts gX4_counts_X4_needWhat rfl rfl rfl (by decide +kernel) ⟨Nat.le_of_ble_eq_true rfl, Nat.le_of_ble_eq_true rfl⟩) (q_preS hK hP hD q_nil) rfl rfl hl.1 rfl (lv_room (Nat.le_of_ble_eq_true rfl)) dX4_counts_23 ⟨Nat.zero_le _, Nat.zero_le _⟩) hP hD hS hA q_nil q_nil.symm (fun H locs hP hD hS => ?_)
  exact (q_ml h).elim
def mX4_total (vQ : Int32) (vN : SN) (vP : SP)  : Option (Int64 × Int32 × SP) := (mX4_refreshPlay vQ vN vP).bind fun o1 => (mX2_sumOfTimes o1.2 vN).bind fun o3 => some (o3, o1.1, o1.2)
def rmX4_total : Room := { frames := 6, cells := 0, slots := 0, locals := 135 }
set_option maxHeartbeats 8000000 in
set_option maxRecDepth 100000 in
theorem wX4_total (l : Launch) (E : qE) (aQ : Nat) (aN : Nat → Nat) (aT : Nat → Nat) (aF : Nat → Nat) (aP : Nat → Nat) (aR : Nat → Nat) (vQ : Int32) (vN : SN) (vP : SP)  (o : Int64 × Int32 × SP) (h : mX4_total vQ vN vP = some o) : ML l E yX4_total wsX4_total rmX4_total [.ref aQ] (WQ aQ aN aT aF aP aR vQ ++ (WN E aN vN ++ WP E aP vP)) (WQ aQ aN aT aF aP aR o.2.1 ++ (WN E aN vN ++ WP E aP o.2.2)) o.1 := by
  refine q_startL (cc := cX4_total) (maxL := 1) (by decide) rfl (Nat.le_of_ble_eq_true rfl) ?_
  intro pr e s m args below meth c A Q hx hb hml hown hts hK hRt hP hD hA hS ls hl
  have hl : lv_has ls 1 [(0, .ref aQ)] := hl
  have hinX4 : ∀ w ∈ wsX40, w ∈ wsX4_total := by decide +kernel
  have hw0 := hts (.fieldLink RX4 33 "QueueReader" "play" "LQueueReader$Play;") (by decide +kernel)
  have hw1 := hts (.fieldLink RX4 12 "QueueReader" "net" "LQueueReader$Net;") (by decide +kernel)
  unfold mX4_total at h
  refine lv_aload_n hx hb dX4_total_0 rfl (lv_at hl 0 rfl) ?_
  obtain ⟨o1, e2, h⟩ := q_bind h
  refine q_cv (va_runV (As := []) (rest := []) ⟨hx, hb, hml, hown, hts⟩ (wX4_refreshPlay l E aQ aN aT aF aP aR vQ vN vP o1 e2 _) (cwV 0 hts gX4_total_X4_refreshPlay rfl rfl rfl (by decide +kernel) ⟨Nat.le_of_ble_eq_true rfl, Nat.le_of_ble_eq_true rfl⟩) (q_preV hK hP hD q_idl 4 0 rfl rfl) rfl rfl hl.1 rfl (lv_room (Nat.le_of_ble_eq_true rfl)) dX4_total_1 ⟨Nat.zero_le _, Nat.zero_le _⟩) hP hD hS hA q_idl q_idr (fun H locs hP hD hS => ?_)
  refine lv_aload_n hx hb dX4_total_4 rfl (lv_at hl 0 rfl) ?_
  refine va_get (D := E.1) (ci := 4) (v := .ref (aP 0)) (C := RX4) (T := TX4) (N := 6) hx hb hts hinX4 hown hK.1 hP 0 rfl rfl 3 (by decide) hw0 (fun _ h9 => h9) rfl dX4_total_5 ?_
  refine lv_aload_n hx hb dX4_total_8 rfl (lv_at hl 0 rfl) ?_
  refine va_get (D := E.1) (ci := 4) (v := .ref (aN 0)) (C := RX4) (T := TX4) (N := 6) hx hb hts hinX4 hown hK.1 hP 0 rfl rfl 0 (by decide) hw1 (fun _ h9 => h9) rfl dX4_total_9 ?_
  obtain ⟨o3, e4, h⟩ := q_bind h
  refine q_cl (va_runV (As := [.ref (aN 0)]) (rest := []) ⟨hx, hb, hml, hown, hts⟩ (wX2_sumOfTimes l E aP aN o1.2 vN o3 e4 _) (cwV 1 hts gX4_total_X2_sumOfTimes rfl rfl rfl (by decide +kernel) ⟨Nat.le_of_ble_eq_true rfl, Nat.le_of_ble_eq_true rfl⟩) (q_preV hK hP hD pm_3_21 2 10 rfl rfl) rfl rfl hl.1 rfl (lv_room (Nat.le_of_ble_eq_true rfl)) dX4_total_12 ⟨Nat.zero_le _, Nat.zero_le _⟩) hP hD hS hA pm_3_21 pm_3_21.symm (fun H locs hP hD hS => ?_)
  obtain rfl := q_inj h
  exact hRt 15 _ _ _ dX4_total_15 hP hD hS
def mX4_saved (vQ : Int32) (vN : SN) (vP : SP) (vR : SP) (x1 : Int32) : Option (Sum String (Int64 × Int32 × SP × SP)) := (mX4_needPlace vQ vN x1).bind fun o1 => qX o1 fun vo1 => Option.map (fun z => Sum.inr z) ((mX4_refreshPlay vQ vN vP).bind fun o3 => (mX4_gainAt o3.1 vN o3.2 vR x1).bind fun o5 => some (o5.1, o3.1, o3.2, o5.2))
def rmX4_saved : Room := { frames := 6, cells := 0, slots := 0, locals := 136 }
set_option maxHeartbeats 8000000 in
set_option maxRecDepth 100000 in
theorem wX4_saved (l : Launch) (E : qE) (aQ : Nat) (aN : Nat → Nat) (aT : Nat → Nat) (aF : Nat → Nat) (aP : Nat → Nat) (aR : Nat → Nat) (vQ : Int32) (vN : SN) (vP : SP) (vR : SP) (x1 : Int32) (o : Int64 × Int32 × SP × SP) (h : mX4_saved vQ vN vP vR x1 = some (Sum.inr o)) : ML l E yX4_saved wsX4_saved rmX4_saved [.ref aQ, .int x1] (WQ aQ aN aT aF aP aR vQ ++ (WN E aN vN ++ (WP E aP vP ++ WP E aR vR))) (WQ aQ aN aT aF aP aR o.2.1 ++ (WN E aN vN ++ (WP E aP o.2.2.1 ++ WP E aR o.2.2.2))) o.1 := by
  refine q_startL (cc := cX4_saved) (maxL := 2) (by decide) rfl (Nat.le_of_ble_eq_true rfl) ?_
  intro pr e s m args below meth c A Q hx hb hml hown hts hK hRt hP hD hA hS ls hl
  have hl : lv_has ls 2 [(0, .ref aQ), (1, .int x1)] := hl
  unfold mX4_saved at h
  refine lv_aload_n hx hb dX4_saved_0 rfl (lv_at hl 0 rfl) ?_
  refine lv_iload_n hx hb dX4_saved_1 rfl (lv_at hl 1 rfl) ?_
  obtain ⟨o1, e2, h⟩ := q_bind h
  rcases o1 with Eo1 | vo1
  · cases h
  have h := qX_r h
  refine q_cv (va_runV (As := [.int x1]) (rest := []) ⟨hx, hb, hml, hown, hts⟩ (wX4_needPlace l E aQ aN aT aF aP aR vQ vN x1 vo1 e2 _) (cwV 1 hts gX4_saved_X4_needPlace rfl rfl rfl (by decide +kernel) ⟨Nat.le_of_ble_eq_true rfl, Nat.le_of_ble_eq_true rfl⟩) (q_preV hK hP hD pm_4_01 4 0 rfl rfl) rfl rfl hl.1 rfl (lv_room (Nat.le_of_ble_eq_true rfl)) dX4_saved_2 ⟨Nat.zero_le _, Nat.zero_le _⟩) hP hD hS hA pm_4_01 pm_4_01.symm (fun H locs hP hD hS => ?_)
  have h := q_mr h
  refine lv_aload_n hx hb dX4_saved_5 rfl (lv_at hl 0 rfl) ?_
  obtain ⟨o3, e4, h⟩ := q_bind h
  refine q_cv (va_runV (As := []) (rest := []) ⟨hx, hb, hml, hown, hts⟩ (wX4_refreshPlay l E aQ aN aT aF aP aR vQ vN vP o3 e4 _) (cwV 0 hts gX4_saved_X4_refreshPlay rfl rfl rfl (by decide +kernel) ⟨Nat.le_of_ble_eq_true rfl, Nat.le_of_ble_eq_true rfl⟩) (q_preV hK hP hD pm_4_012 4 0 rfl rfl) rfl rfl hl.1 rfl (lv_room (Nat.le_of_ble_eq_true rfl)) dX4_saved_6 ⟨Nat.zero_le _, Nat.zero_le _⟩) hP hD hS hA pm_4_012 pm_4_012.symm (fun H locs hP hD hS => ?_)
  refine lv_aload_n hx hb dX4_saved_9 rfl (lv_at hl 0 rfl) ?_
  refine lv_iload_n hx hb dX4_saved_10 rfl (lv_at hl 1 rfl) ?_
  obtain ⟨o5, e6, h⟩ := q_bind h
  refine q_cl (va_runV (As := [.int x1]) (rest := []) ⟨hx, hb, hml, hown, hts⟩ (wX4_gainAt l E aQ aN aT aF aP aR o3.1 vN o3.2 vR x1 o5 e6 _) (cwV 1 hts gX4_saved_X4_gainAt rfl rfl rfl (by decide +kernel) ⟨Nat.le_of_ble_eq_true rfl, Nat.le_of_ble_eq_true rfl⟩) (q_preV hK hP hD q_idl 4 0 rfl rfl) rfl rfl hl.1 rfl (lv_room (Nat.le_of_ble_eq_true rfl)) dX4_saved_11 ⟨Nat.zero_le _, Nat.zero_le _⟩) hP hD hS hA q_idl q_idr (fun H locs hP hD hS => ?_)
  obtain rfl := q_inj h
  exact hRt 14 _ _ _ dX4_saved_14 hP hD hS
def rxX4_saved : Room := { frames := 7, cells := 1, slots := 6, locals := 136 }
set_option maxHeartbeats 8000000 in
set_option maxRecDepth 100000 in
theorem xX4_saved (l : Launch) (hfl : l.stackTraces = false) (E : qE) (aQ : Nat) (aN : Nat → Nat) (aT : Nat → Nat) (aF : Nat → Nat) (aP : Nat → Nat) (aR : Nat → Nat) (vQ : Int32) (vN : SN) (vP : SP) (vR : SP) (x1 : Int32) (Ex : String) (h : mX4_saved vQ vN vP vR x1 = some (Sum.inl Ex)) : XT l E yX4_saved wsX4_saved rxX4_saved [.ref aQ, .int x1] (WQ aQ aN aT aF aP aR vQ ++ (WN E aN vN ++ (WP E aP vP ++ WP E aR vR))) Ex := by
  refine q_startX (cc := cX4_saved) (maxL := 2) hfl (by decide) rfl (Nat.le_of_ble_eq_true rfl) (Nat.le_of_ble_eq_true rfl) (Nat.le_of_ble_eq_true rfl) (Nat.le_of_ble_eq_true rfl) (Nat.le_of_ble_eq_true rfl) ?_
  intro pr e s m args below meth c A Q hx hb hml hown hts hK hC hT hZ hRp hTh hTn hP hD hA hS ls hl
  have hl : lv_has ls 2 [(0, .ref aQ), (1, .int x1)] := hl
  unfold mX4_saved at h
  refine lv_aload_n hx hb dX4_saved_0 rfl (lv_at hl 0 rfl) ?_
  refine lv_iload_n hx hb dX4_saved_1 rfl (lv_at hl 1 rfl) ?_
  obtain ⟨o1, e2, h⟩ := q_bind h
  rcases o1 with Eo1 | vo1
  · obtain rfl := q_injl h
    exact qx_c (vx_runV (As := [.int x1]) (rest := []) ⟨hx, hb, hml, hown, hts⟩ (xX4_needPlace l hfl E aQ aN aT aF aP aR vQ vN x1 _ e2 _) (cwV 1 hts gX4_saved_X4_needPlace rfl rfl rfl (by decide +kernel) ⟨Nat.le_of_ble_eq_true rfl, Nat.le_of_ble_eq_true rfl⟩) (qx_preV hK hC hT hZ hS hA hP hD pm_4_01 4 0 rfl rfl) rfl rfl hl.1 rfl (lv_room (Nat.le_of_ble_eq_true rfl)) dX4_saved_2 ⟨Nat.le_of_ble_eq_true rfl, Nat.le_of_ble_eq_true rfl⟩) hP hD hS hA pm_4_01 (fun H1 locs1 q9 ce a1 a2 a3 a4 a5 a6 => hRp _ _ _ _ _ _ _ a1 a2 a3 a4 a5 a6)
  have h := qX_r h
  refine q_cv (va_runV (As := [.int x1]) (rest := []) ⟨hx, hb, hml, hown, hts⟩ (wX4_needPlace l E aQ aN aT aF aP aR vQ vN x1 vo1 e2 _) (cwV 1 hts gX4_saved_X4_needPlace rfl rfl rfl (by decide +kernel) ⟨Nat.le_of_ble_eq_true rfl, Nat.le_of_ble_eq_true rfl⟩) (q_preV hK hP hD pm_4_01 4 0 rfl rfl) rfl rfl hl.1 rfl (lv_room (Nat.le_of_ble_eq_true rfl)) dX4_saved_2 ⟨Nat.zero_le _, Nat.zero_le _⟩) hP hD hS hA pm_4_01 pm_4_01.symm (fun H locs hP hD hS => ?_)
  exact (q_ml h).elim
def lpX4_narrow_11 (vQ : Int32) (vN : SN) (vP : SP) : Nat → Int32 → Int64 → Int32 → SP → Option (Int32 × SP)
  | 0, _, _, _, _ => none
  | k + 1, x1, x2, x4, vR => if (N_places vN) ≤ x4 then (some (x1, vR)) else ((mX4_gainAt vQ vN vP vR x4).bind fun o14 => if x1 = (-1) then (lpX4_narrow_11 vQ vN vP k x4 o14.1 (x4 + 1) o14.2) else (if (lg_cmp o14.1 x2) ≤ 0 then (lpX4_narrow_11 vQ vN vP k x1 x2 (x4 + 1) o14.2) else (lpX4_narrow_11 vQ vN vP k x4 o14.1 (x4 + 1) o14.2)))
def mX4_narrow (vQ : Int32) (vN : SN) (vP : SP) (vR : SP)  : Option (Int32 × Int32 × SP × SP) := (mX4_refreshPlay vQ vN vP).bind fun o1 => (lpX4_narrow_11 o1.1 vN o1.2 qFU (-1) 0 0 vR).bind fun o18 => some (o18.1, o1.1, o1.2, o18.2)
def rmX4_narrow : Room := { frames := 6, cells := 0, slots := 0, locals := 136 }
set_option maxHeartbeats 8000000 in
set_option maxRecDepth 100000 in
theorem wX4_narrow (l : Launch) (E : qE) (aQ : Nat) (aN : Nat → Nat) (aT : Nat → Nat) (aF : Nat → Nat) (aP : Nat → Nat) (aR : Nat → Nat) (vQ : Int32) (vN : SN) (vP : SP) (vR : SP)  (o : Int32 × Int32 × SP × SP) (h : mX4_narrow vQ vN vP vR = some o) : MI l E yX4_narrow wsX4_narrow rmX4_narrow [.ref aQ] (WQ aQ aN aT aF aP aR vQ ++ (WN E aN vN ++ (WP E aP vP ++ WP E aR vR))) (WQ aQ aN aT aF aP aR o.2.1 ++ (WN E aN vN ++ (WP E aP o.2.2.1 ++ WP E aR o.2.2.2))) o.1 := by
  refine q_startI (cc := cX4_narrow) (maxL := 7) (by decide) rfl (Nat.le_of_ble_eq_true rfl) ?_
  intro pr e s m args below meth c A Q hx hb hml hown hts hK hRt hP hD hA hS ls hl
  have hl : lv_has ls 7 [(0, .ref aQ)] := hl
  have hinX1 : ∀ w ∈ wsX10, w ∈ wsX4_narrow := by decide +kernel
  have hinX4 : ∀ w ∈ wsX40, w ∈ wsX4_narrow := by decide +kernel
  have hw0 := hts (.fieldLink RX4 12 "QueueReader" "net" "LQueueReader$Net;") (by decide +kernel)
  have hw1 := hts (.fieldLink RX4 48 "QueueReader$Net" "places" "I") (by decide +kernel)
  have L11 : ∀ (vQ : Int32) (vN : SN) (vP : SP) (vR : SP) (x1 : Int32) (x2 : Int64) (x4 : Int32) (k : Nat) (H : Heap) (locs : List Loc) (ls : Array Slot), va_P E.1 vwCl (WQ aQ aN aT aF aP aR vQ ++ (WN E aN vN ++ (WP E aP vP ++ WP E aR vR))) H → va_D A (WQ aQ aN aT aF aP aR vQ ++ (WN E aN vN ++ (WP E aP vP ++ WP E aR vR))) → va_S A s.heap H locs → lv_has ls 7 [(0, .ref aQ), (1, .int x1), (2, .long x2), (4, .int x4)] → ∀ o, lpX4_narrow_11 vQ vN vP k x1 x2 x4 vR = some o → (∀ (H : Heap) (locs : List Loc) (ls : Array Slot), va_P E.1 vwCl (WQ aQ aN aT aF aP aR vQ ++ (WN E aN vN ++ (WP E aP vP ++ WP E aR o.2))) H → va_D A (WQ aQ aN aT aF aP aR vQ ++ (WN E aN vN ++ (WP E aP vP ++ WP E aR o.2))) → va_S A s.heap H locs → lv_has ls 7 [(1, .int o.1)] → W pr l e rmX4_narrow s m args below meth c H locs 0 0 Q (F0 m 55 ls [])) → W pr l e rmX4_narrow s m args below meth c H locs 0 0 Q (F0 m 11 ls []) := by
    intro vQ vN vP vR x1 x2 x4 k
    induction k generalizing x1 x2 x4 vR with
    | zero => intro H locs ls hP hD hS hl o h; cases h
    | succ k ih =>
      intro H locs ls hP hD hS hl o h kk
      rw [lpX4_narrow_11] at h
      refine lv_iload hx hb dX4_narrow_11 (lv_at hl 3 rfl) ?_
      refine lv_aload_n hx hb dX4_narrow_13 rfl (lv_at hl 0 rfl) ?_
      refine va_get (D := E.1) (ci := 4) (v := .ref (aN 0)) (C := RX4) (T := TX4) (N := 6) hx hb hts hinX4 hown hK.1 hP 0 rfl rfl 0 (by decide) hw0 (fun _ h9 => h9) rfl dX4_narrow_14 ?_
      refine va_get (D := E.1) (ci := 1) (v := .int (N_places vN)) (C := RX1) (T := TX1) (N := 11) hx hb hts hinX1 hown hK.1 hP 1 rfl rfl 0 (by decide) hw1 (fun _ h9 => h9) rfl dX4_narrow_17 ?_
      refine lv_icmp_ge (tgt := 55) hx hb dX4_narrow_20 (by decide) (fun c13 => ?_) (fun c13 => ?_)
      · have h := q_pos c13 h
        obtain rfl := q_inj h
        exact kk _ _ _ hP hD hS (lv_sub hl [1] rfl)
      · have h := q_neg c13 h
        refine lv_aload_n hx hb dX4_narrow_23 rfl (lv_at hl 0 rfl) ?_
        refine lv_iload hx hb dX4_narrow_24 (lv_at hl 3 rfl) ?_
        obtain ⟨o14, e15, h⟩ := q_bind h
        refine q_cl (va_runV (As := [.int x4]) (rest := []) ⟨hx, hb, hml, hown, hts⟩ (wX4_gainAt l E aQ aN aT aF aP aR vQ vN vP vR x4 o14 e15 _) (cwV 1 hts gX4_narrow_X4_gainAt rfl rfl rfl (by decide +kernel) ⟨Nat.le_of_ble_eq_true rfl, Nat.le_of_ble_eq_true rfl⟩) (q_preV hK hP hD q_idl 4 0 rfl rfl) rfl rfl hl.1 rfl (lv_room (Nat.le_of_ble_eq_true rfl)) dX4_narrow_26 ⟨Nat.zero_le _, Nat.zero_le _⟩) hP hD hS hA q_idl q_idr (fun H locs hP hD hS => ?_)
        refine lv_lstore (lv' := [(5, .long o14.1), (0, .ref aQ), (1, .int x1), (2, .long x2), (4, .int x4)]) hx hb dX4_narrow_29 hl (by decide) rfl (fun ls hl => ?_)
        refine lv_iload_n hx hb dX4_narrow_31 rfl (lv_at hl 2 rfl) ?_
        refine lv_iconst (v := (-1)) hx hb dX4_narrow_32 (by decide) ?_
        refine lv_icmp_eq (tgt := 43) hx hb dX4_narrow_33 (by decide) (fun c16 => ?_) (fun c16 => ?_)
        · have h := q_pos c16 h
          refine lv_iload hx hb dX4_narrow_43 (lv_at hl 4 rfl) ?_
          refine lv_istore_n (lv' := [(1, .int x4), (5, .long o14.1), (0, .ref aQ), (2, .long x2), (4, .int x4)]) hx hb dX4_narrow_45 rfl hl (by decide) rfl (fun ls hl => ?_)
          refine lv_lload hx hb dX4_narrow_46 (lv_at hl 1 rfl) ?_
          refine lv_lstore_n (lv' := [(2, .long o14.1), (1, .int x4), (5, .long o14.1), (0, .ref aQ), (4, .int x4)]) hx hb dX4_narrow_48 rfl hl (by decide) rfl (fun ls hl => ?_)
          refine lv_iinc (v := (x4 + 1)) (lv' := [(4, .int (x4 + 1)), (2, .long o14.1), (1, .int x4), (5, .long o14.1), (0, .ref aQ)]) hx hb dX4_narrow_49 hl (k := 4) rfl rfl (by decide) rfl (fun ls hl => ?_)
          refine lv_goto (tgt := 11) hx hb dX4_narrow_52 (by decide) ?_
          exact ih o14.2 x4 o14.1 (x4 + 1) _ _ _ hP hD hS (lv_sub hl [4, 2, 1, 0] rfl) _ h kk
        · have h := q_neg c16 h
          refine lv_lload hx hb dX4_narrow_36 (lv_at hl 0 rfl) ?_
          refine lv_lload_n hx hb dX4_narrow_38 rfl (lv_at hl 3 rfl) ?_
          refine W.lcmp hx hb dX4_narrow_39 ?_
          refine lv_if_le (tgt := 49) hx hb dX4_narrow_40 (by decide) (fun c17 => ?_) (fun c17 => ?_)
          · have h := q_pos c17 h
            refine lv_iinc (v := (x4 + 1)) (lv' := [(4, .int (x4 + 1)), (5, .long o14.1), (0, .ref aQ), (1, .int x1), (2, .long x2)]) hx hb dX4_narrow_49 hl (k := 4) rfl rfl (by decide) rfl (fun ls hl => ?_)
            refine lv_goto (tgt := 11) hx hb dX4_narrow_52 (by decide) ?_
            exact ih o14.2 x1 x2 (x4 + 1) _ _ _ hP hD hS (lv_sub hl [2, 3, 4, 0] rfl) _ h kk
          · have h := q_neg c17 h
            refine lv_iload hx hb dX4_narrow_43 (lv_at hl 4 rfl) ?_
            refine lv_istore_n (lv' := [(1, .int x4), (5, .long o14.1), (0, .ref aQ), (2, .long x2), (4, .int x4)]) hx hb dX4_narrow_45 rfl hl (by decide) rfl (fun ls hl => ?_)
            refine lv_lload hx hb dX4_narrow_46 (lv_at hl 1 rfl) ?_
            refine lv_lstore_n (lv' := [(2, .long o14.1), (1, .int x4), (5, .long o14.1), (0, .ref aQ), (4, .int x4)]) hx hb dX4_narrow_48 rfl hl (by decide) rfl (fun ls hl => ?_)
            refine lv_iinc (v := (x4 + 1)) (lv' := [(4, .int (x4 + 1)), (2, .long o14.1), (1, .int x4), (5, .long o14.1), (0, .ref aQ)]) hx hb dX4_narrow_49 hl (k := 4) rfl rfl (by decide) rfl (fun ls hl => ?_)
            refine lv_goto (tgt := 11) hx hb dX4_narrow_52 (by decide) ?_
            exact ih o14.2 x4 o14.1 (x4 + 1) _ _ _ hP hD hS (lv_sub hl [4, 2, 1, 0] rfl) _ h kk
  unfold mX4_narrow at h
  refine lv_aload_n hx hb dX4_narrow_0 rfl (lv_at hl 0 rfl) ?_
  obtain ⟨o1, e2, h⟩ := q_bind h
  refine q_cv (va_runV (As := []) (rest := []) ⟨hx, hb, hml, hown, hts⟩ (wX4_refreshPlay l E aQ aN aT aF aP aR vQ vN vP o1 e2 _) (cwV 0 hts gX4_narrow_X4_refreshPlay rfl rfl rfl (by decide +kernel) ⟨Nat.le_of_ble_eq_true rfl, Nat.le_of_ble_eq_true rfl⟩) (q_preV hK hP hD pm_4_012 4 0 rfl rfl) rfl rfl hl.1 rfl (lv_room (Nat.le_of_ble_eq_true rfl)) dX4_narrow_1 ⟨Nat.zero_le _, Nat.zero_le _⟩) hP hD hS hA pm_4_012 pm_4_012.symm (fun H locs hP hD hS => ?_)
  refine lv_iconst (v := (-1)) hx hb dX4_narrow_4 (by decide) ?_
  refine lv_istore_n (lv' := [(1, .int (-1)), (0, .ref aQ)]) hx hb dX4_narrow_5 rfl hl (by decide) rfl (fun ls hl => ?_)
  refine lv_lconst (v := 0) hx hb dX4_narrow_6 (by decide) ?_
  refine lv_lstore_n (lv' := [(2, .long 0), (1, .int (-1)), (0, .ref aQ)]) hx hb dX4_narrow_7 rfl hl (by decide) rfl (fun ls hl => ?_)
  refine lv_iconst (v := 0) hx hb dX4_narrow_8 (by decide) ?_
  refine lv_istore (lv' := [(4, .int 0), (2, .long 0), (1, .int (-1)), (0, .ref aQ)]) hx hb dX4_narrow_9 hl (by decide) rfl (fun ls hl => ?_)
  obtain ⟨o18, e19, h⟩ := q_bind h
  refine L11 o1.1 vN o1.2 vR (-1) 0 0 qFU _ _ _ hP hD hS (lv_sub hl [3, 2, 1, 0] rfl) o18 e19 (fun H locs ls hP hD hS hl => ?_)
  refine lv_iload_n hx hb dX4_narrow_55 rfl (lv_at hl 0 rfl) ?_
  obtain rfl := q_inj h
  exact hRt 56 _ _ _ dX4_narrow_56 hP hD hS
def lpX4_alone_24 (vN : SN) (x1 : Int32) : Nat → Int32 → Int32 → Option Int32
  | 0, _, _ => none
  | k + 1, x2, x3 => (mX1_lastRow vN x1).bind fun o24 => if o24 < x3 then (some x2) else (ck x3 300 ((mX1_lastRow vN x1).bind fun o28 => if o28 ≤ x3 then (lpX4_alone_24 vN x1 k (x2 + ((N_stepWorks vN) (Int32.toNatClampNeg x3))) (x3 + 1)) else (ck x3 300 (ck ((N_stepPlaces vN) (Int32.toNatClampNeg x3)) 5 (lpX4_alone_24 vN x1 k ((x2 + ((N_stepWorks vN) (Int32.toNatClampNeg x3))) + ((N_delays vN) (Int32.toNatClampNeg ((N_stepPlaces vN) (Int32.toNatClampNeg x3))))) (x3 + 1))))))
def mX4_alone (vQ : Int32) (vN : SN) (x1 : Int32) : Option (Sum String (Int32)) := (mX4_needAsk vQ vN x1).bind fun o1 => qX o1 fun vo1 => Option.map (fun z => Sum.inr z) (ck x1 60 ((mX1_firstRow vN x1).bind fun o4 => (lpX4_alone_24 vN x1 qFU ((N_starts vN) (Int32.toNatClampNeg x1)) o4).bind fun o33 => some o33))
def rmX4_alone : Room := { frames := 2, cells := 0, slots := 0, locals := 42 }
set_option maxHeartbeats 8000000 in
set_option maxRecDepth 100000 in
theorem wX4_alone (l : Launch) (E : qE) (aQ : Nat) (aN : Nat → Nat) (aT : Nat → Nat) (aF : Nat → Nat) (aP : Nat → Nat) (aR : Nat → Nat) (vQ : Int32) (vN : SN) (x1 : Int32) (o : Int32) (h : mX4_alone vQ vN x1 = some (Sum.inr o)) : MI l E yX4_alone wsX4_alone rmX4_alone [.ref aQ, .int x1] (WQ aQ aN aT aF aP aR vQ ++ WN E aN vN) (WQ aQ aN aT aF aP aR vQ ++ WN E aN vN) o := by
  refine q_startI (cc := cX4_alone) (maxL := 4) (by decide) rfl (Nat.le_of_ble_eq_true rfl) ?_
  intro pr e s m args below meth c A Q hx hb hml hown hts hK hRt hP hD hA hS ls hl
  have hl : lv_has ls 4 [(0, .ref aQ), (1, .int x1)] := hl
  have hinX1 : ∀ w ∈ wsX10, w ∈ wsX4_alone := by decide +kernel
  have hinX4 : ∀ w ∈ wsX40, w ∈ wsX4_alone := by decide +kernel
  have hw0 := hts (.fieldLink RX4 12 "QueueReader" "net" "LQueueReader$Net;") (by decide +kernel)
  have hw1 := hts (.fieldLink RX4 80 "QueueReader$Net" "starts" "[I") (by decide +kernel)
  have hw2 := hts (.fieldLink RX4 174 "QueueReader$Net" "stepWorks" "[I") (by decide +kernel)
  have hw3 := hts (.fieldLink RX4 177 "QueueReader$Net" "delays" "[I") (by decide +kernel)
  have hw4 := hts (.fieldLink RX4 180 "QueueReader$Net" "stepPlaces" "[I") (by decide +kernel)
  have L24 : ∀ (vQ : Int32) (vN : SN) (x1 : Int32) (x2 : Int32) (x3 : Int32) (k : Nat) (H : Heap) (locs : List Loc) (ls : Array Slot), va_P E.1 vwCl (WQ aQ aN aT aF aP aR vQ ++ WN E aN vN) H → va_D A (WQ aQ aN aT aF aP aR vQ ++ WN E aN vN) → va_S A s.heap H locs → lv_has ls 4 [(0, .ref aQ), (1, .int x1), (2, .int x2), (3, .int x3)] → ∀ o, lpX4_alone_24 vN x1 k x2 x3 = some o → (∀ (H : Heap) (locs : List Loc) (ls : Array Slot), va_P E.1 vwCl (WQ aQ aN aT aF aP aR vQ ++ WN E aN vN) H → va_D A (WQ aQ aN aT aF aP aR vQ ++ WN E aN vN) → va_S A s.heap H locs → lv_has ls 4 [(2, .int o)] → W pr l e rmX4_alone s m args below meth c H locs 0 0 Q (F0 m 86 ls [])) → W pr l e rmX4_alone s m args below meth c H locs 0 0 Q (F0 m 24 ls []) := by
    intro vQ vN x1 x2 x3 k
    induction k generalizing x2 x3 with
    | zero => intro H locs ls hP hD hS hl o h; cases h
    | succ k ih =>
      intro H locs ls hP hD hS hl o h kk
      rw [lpX4_alone_24] at h
      refine lv_iload_n hx hb dX4_alone_24 rfl (lv_at hl 3 rfl) ?_
      refine lv_aload_n hx hb dX4_alone_25 rfl (lv_at hl 0 rfl) ?_
      refine va_get (D := E.1) (ci := 4) (v := .ref (aN 0)) (C := RX4) (T := TX4) (N := 6) hx hb hts hinX4 hown hK.1 hP 0 rfl rfl 0 (by decide) hw0 (fun _ h9 => h9) rfl dX4_alone_26 ?_
      refine lv_iload_n hx hb dX4_alone_29 rfl (lv_at hl 1 rfl) ?_
      obtain ⟨o24, e25, h⟩ := q_bind h
      refine q_ci (va_runV (As := [.int x1]) (rest := [.int x3]) ⟨hx, hb, hml, hown, hts⟩ (wX1_lastRow l E aN vN x1 o24 e25 _) (cwV 1 hts gX4_alone_X1_lastRow rfl rfl rfl (by decide +kernel) ⟨Nat.le_of_ble_eq_true rfl, Nat.le_of_ble_eq_true rfl⟩) (q_preV hK hP hD pm_2_1 1 1 rfl rfl) rfl rfl hl.1 rfl (lv_room (Nat.le_of_ble_eq_true rfl)) dX4_alone_30 ⟨Nat.zero_le _, Nat.zero_le _⟩) hP hD hS hA pm_2_1 pm_2_1.symm (fun H locs hP hD hS => ?_)
      refine lv_icmp_gt (tgt := 86) hx hb dX4_alone_33 (by decide) (fun c26 => ?_) (fun c26 => ?_)
      · have h := q_pos c26 h
        obtain rfl := q_inj h
        exact kk _ _ _ hP hD hS (lv_sub hl [2] rfl)
      · have h := q_neg c26 h
        refine lv_iload_n hx hb dX4_alone_36 rfl (lv_at hl 2 rfl) ?_
        refine lv_aload_n hx hb dX4_alone_37 rfl (lv_at hl 0 rfl) ?_
        refine va_get (D := E.1) (ci := 4) (v := .ref (aN 0)) (C := RX4) (T := TX4) (N := 6) hx hb hts hinX4 hown hK.1 hP 0 rfl rfl 0 (by decide) hw0 (fun _ h9 => h9) rfl dX4_alone_38 ?_
        refine va_get (D := E.1) (ci := 1) (v := .ref (aN 8)) (C := RX1) (T := TX1) (N := 11) hx hb hts hinX1 hown hK.1 hP 1 rfl rfl 10 (by decide) hw2 (fun _ h9 => h9) rfl dX4_alone_41 ?_
        refine lv_iload_n hx hb dX4_alone_44 rfl (lv_at hl 3 rfl) ?_
        obtain ⟨i27, h⟩ := q_ck h
        refine va_iald (f := (N_stepWorks vN)) hx hb hK.1 hP 9 0 rfl rfl i27 dX4_alone_45 ?_
        refine lv_iadd hx hb dX4_alone_46 ?_
        refine lv_istore_n (lv' := [(2, .int (x2 + ((N_stepWorks vN) (Int32.toNatClampNeg x3)))), (0, .ref aQ), (1, .int x1), (3, .int x3)]) hx hb dX4_alone_47 rfl hl (by decide) rfl (fun ls hl => ?_)
        refine lv_iload_n hx hb dX4_alone_48 rfl (lv_at hl 3 rfl) ?_
        refine lv_aload_n hx hb dX4_alone_49 rfl (lv_at hl 1 rfl) ?_
        refine va_get (D := E.1) (ci := 4) (v := .ref (aN 0)) (C := RX4) (T := TX4) (N := 6) hx hb hts hinX4 hown hK.1 hP 0 rfl rfl 0 (by decide) hw0 (fun _ h9 => h9) rfl dX4_alone_50 ?_
        refine lv_iload_n hx hb dX4_alone_53 rfl (lv_at hl 2 rfl) ?_
        obtain ⟨o28, e29, h⟩ := q_bind h
        refine q_ci (va_runV (As := [.int x1]) (rest := [.int x3]) ⟨hx, hb, hml, hown, hts⟩ (wX1_lastRow l E aN vN x1 o28 e29 _) (cwV 1 hts gX4_alone_X1_lastRow rfl rfl rfl (by decide +kernel) ⟨Nat.le_of_ble_eq_true rfl, Nat.le_of_ble_eq_true rfl⟩) (q_preV hK hP hD pm_2_1 1 1 rfl rfl) rfl rfl hl.1 rfl (lv_room (Nat.le_of_ble_eq_true rfl)) dX4_alone_54 ⟨Nat.zero_le _, Nat.zero_le _⟩) hP hD hS hA pm_2_1 pm_2_1.symm (fun H locs hP hD hS => ?_)
        refine lv_icmp_ge (tgt := 80) hx hb dX4_alone_57 (by decide) (fun c30 => ?_) (fun c30 => ?_)
        · have h := q_pos c30 h
          refine lv_iinc (v := (x3 + 1)) (lv' := [(3, .int (x3 + 1)), (2, .int (x2 + ((N_stepWorks vN) (Int32.toNatClampNeg x3)))), (0, .ref aQ), (1, .int x1)]) hx hb dX4_alone_80 hl (k := 3) rfl rfl (by decide) rfl (fun ls hl => ?_)
          refine lv_goto (tgt := 24) hx hb dX4_alone_83 (by decide) ?_
          exact ih (x2 + ((N_stepWorks vN) (Int32.toNatClampNeg x3))) (x3 + 1) _ _ _ hP hD hS (lv_sub hl [2, 3, 1, 0] rfl) _ h kk
        · have h := q_neg c30 h
          refine lv_iload_n hx hb dX4_alone_60 rfl (lv_at hl 0 rfl) ?_
          refine lv_aload_n hx hb dX4_alone_61 rfl (lv_at hl 1 rfl) ?_
          refine va_get (D := E.1) (ci := 4) (v := .ref (aN 0)) (C := RX4) (T := TX4) (N := 6) hx hb hts hinX4 hown hK.1 hP 0 rfl rfl 0 (by decide) hw0 (fun _ h9 => h9) rfl dX4_alone_62 ?_
          refine va_get (D := E.1) (ci := 1) (v := .ref (aN 3)) (C := RX1) (T := TX1) (N := 11) hx hb hts hinX1 hown hK.1 hP 1 rfl rfl 5 (by decide) hw3 (fun _ h9 => h9) rfl dX4_alone_65 ?_
          refine lv_aload_n hx hb dX4_alone_68 rfl (lv_at hl 1 rfl) ?_
          refine va_get (D := E.1) (ci := 4) (v := .ref (aN 0)) (C := RX4) (T := TX4) (N := 6) hx hb hts hinX4 hown hK.1 hP 0 rfl rfl 0 (by decide) hw0 (fun _ h9 => h9) rfl dX4_alone_69 ?_
          refine va_get (D := E.1) (ci := 1) (v := .ref (aN 7)) (C := RX1) (T := TX1) (N := 11) hx hb hts hinX1 hown hK.1 hP 1 rfl rfl 9 (by decide) hw4 (fun _ h9 => h9) rfl dX4_alone_72 ?_
          refine lv_iload_n hx hb dX4_alone_75 rfl (lv_at hl 3 rfl) ?_
          obtain ⟨i31, h⟩ := q_ck h
          refine va_iald (f := (N_stepPlaces vN)) hx hb hK.1 hP 8 0 rfl rfl i31 dX4_alone_76 ?_
          obtain ⟨i32, h⟩ := q_ck h
          refine va_iald (f := (N_delays vN)) hx hb hK.1 hP 4 0 rfl rfl i32 dX4_alone_77 ?_
          refine lv_iadd hx hb dX4_alone_78 ?_
          refine lv_istore_n (lv' := [(2, .int ((x2 + ((N_stepWorks vN) (Int32.toNatClampNeg x3))) + ((N_delays vN) (Int32.toNatClampNeg ((N_stepPlaces vN) (Int32.toNatClampNeg x3)))))), (0, .ref aQ), (1, .int x1), (3, .int x3)]) hx hb dX4_alone_79 rfl hl (by decide) rfl (fun ls hl => ?_)
          refine lv_iinc (v := (x3 + 1)) (lv' := [(3, .int (x3 + 1)), (2, .int ((x2 + ((N_stepWorks vN) (Int32.toNatClampNeg x3))) + ((N_delays vN) (Int32.toNatClampNeg ((N_stepPlaces vN) (Int32.toNatClampNeg x3)))))), (0, .ref aQ), (1, .int x1)]) hx hb dX4_alone_80 hl (k := 3) rfl rfl (by decide) rfl (fun ls hl => ?_)
          refine lv_goto (tgt := 24) hx hb dX4_alone_83 (by decide) ?_
          exact ih ((x2 + ((N_stepWorks vN) (Int32.toNatClampNeg x3))) + ((N_delays vN) (Int32.toNatClampNeg ((N_stepPlaces vN) (Int32.toNatClampNeg x3))))) (x3 + 1) _ _ _ hP hD hS (lv_sub hl [2, 3, 1, 0] rfl) _ h kk
  unfold mX4_alone at h
  refine lv_aload_n hx hb dX4_alone_0 rfl (lv_at hl 0 rfl) ?_
  refine lv_iload_n hx hb dX4_alone_1 rfl (lv_at hl 1 rfl) ?_
  obtain ⟨o1, e2, h⟩ := q_bind h
  rcases o1 with Eo1 | vo1
  · cases h
  have h := qX_r h
  refine q_cv (va_runV (As := [.int x1]) (rest := []) ⟨hx, hb, hml, hown, hts⟩ (wX4_needAsk l E aQ aN aT aF aP aR vQ vN x1 vo1 e2 _) (cwV 1 hts gX4_alone_X4_needAsk rfl rfl rfl (by decide +kernel) ⟨Nat.le_of_ble_eq_true rfl, Nat.le_of_ble_eq_true rfl⟩) (q_preV hK hP hD q_idl 4 0 rfl rfl) rfl rfl hl.1 rfl (lv_room (Nat.le_of_ble_eq_true rfl)) dX4_alone_2 ⟨Nat.zero_le _, Nat.zero_le _⟩) hP hD hS hA q_idl q_idr (fun H locs hP hD hS => ?_)
  have h := q_mr h
  refine lv_aload_n hx hb dX4_alone_5 rfl (lv_at hl 0 rfl) ?_
  refine va_get (D := E.1) (ci := 4) (v := .ref (aN 0)) (C := RX4) (T := TX4) (N := 6) hx hb hts hinX4 hown hK.1 hP 0 rfl rfl 0 (by decide) hw0 (fun _ h9 => h9) rfl dX4_alone_6 ?_
  refine va_get (D := E.1) (ci := 1) (v := .ref (aN 5)) (C := RX1) (T := TX1) (N := 11) hx hb hts hinX1 hown hK.1 hP 1 rfl rfl 7 (by decide) hw1 (fun _ h9 => h9) rfl dX4_alone_9 ?_
  refine lv_iload_n hx hb dX4_alone_12 rfl (lv_at hl 1 rfl) ?_
  obtain ⟨i3, h⟩ := q_ck h
  refine va_iald (f := (N_starts vN)) hx hb hK.1 hP 6 0 rfl rfl i3 dX4_alone_13 ?_
  refine lv_istore_n (lv' := [(2, .int ((N_starts vN) (Int32.toNatClampNeg x1))), (0, .ref aQ), (1, .int x1)]) hx hb dX4_alone_14 rfl hl (by decide) rfl (fun ls hl => ?_)
  refine lv_aload_n hx hb dX4_alone_15 rfl (lv_at hl 1 rfl) ?_
  refine va_get (D := E.1) (ci := 4) (v := .ref (aN 0)) (C := RX4) (T := TX4) (N := 6) hx hb hts hinX4 hown hK.1 hP 0 rfl rfl 0 (by decide) hw0 (fun _ h9 => h9) rfl dX4_alone_16 ?_
  refine lv_iload_n hx hb dX4_alone_19 rfl (lv_at hl 2 rfl) ?_
  obtain ⟨o4, e5, h⟩ := q_bind h
  refine q_ci (va_runV (As := [.int x1]) (rest := []) ⟨hx, hb, hml, hown, hts⟩ (wX1_firstRow l E aN vN x1 o4 e5 _) (cwV 1 hts gX4_alone_X1_firstRow rfl rfl rfl (by decide +kernel) ⟨Nat.le_of_ble_eq_true rfl, Nat.le_of_ble_eq_true rfl⟩) (q_preV hK hP hD pm_2_1 1 1 rfl rfl) rfl rfl hl.1 rfl (lv_room (Nat.le_of_ble_eq_true rfl)) dX4_alone_20 ⟨Nat.zero_le _, Nat.zero_le _⟩) hP hD hS hA pm_2_1 pm_2_1.symm (fun H locs hP hD hS => ?_)
  refine lv_istore_n (lv' := [(3, .int o4), (2, .int ((N_starts vN) (Int32.toNatClampNeg x1))), (0, .ref aQ), (1, .int x1)]) hx hb dX4_alone_23 rfl hl (by decide) rfl (fun ls hl => ?_)
  obtain ⟨o33, e34, h⟩ := q_bind h
  refine L24 vQ vN x1 ((N_starts vN) (Int32.toNatClampNeg x1)) o4 qFU _ _ _ hP hD hS (lv_sub hl [2, 3, 1, 0] rfl) o33 e34 (fun H locs ls hP hD hS hl => ?_)
  refine lv_iload_n hx hb dX4_alone_86 rfl (lv_at hl 0 rfl) ?_
  obtain rfl := q_inj h
  exact hRt 87 _ _ _ dX4_alone_87 hP hD hS
def rxX4_alone : Room := { frames := 7, cells := 1, slots := 6, locals := 111 }
set_option maxHeartbeats 8000000 in
set_option maxRecDepth 100000 in
theorem xX4_alone (l : Launch) (hfl : l.stackTraces = false) (E : qE) (aQ : Nat) (aN : Nat → Nat) (aT : Nat → Nat) (aF : Nat → Nat) (aP : Nat → Nat) (aR : Nat → Nat) (vQ : Int32) (vN : SN) (x1 : Int32) (Ex : String) (h : mX4_alone vQ vN x1 = some (Sum.inl Ex)) : XT l E yX4_alone wsX4_alone rxX4_alone [.ref aQ, .int x1] (WQ aQ aN aT aF aP aR vQ ++ WN E aN vN) Ex := by
  refine q_startX (cc := cX4_alone) (maxL := 4) hfl (by decide) rfl (Nat.le_of_ble_eq_true rfl) (Nat.le_of_ble_eq_true rfl) (Nat.le_of_ble_eq_true rfl) (Nat.le_of_ble_eq_true rfl) (Nat.le_of_ble_eq_true rfl) ?_
  intro pr e s m args below meth c A Q hx hb hml hown hts hK hC hT hZ hRp hTh hTn hP hD hA hS ls hl
  have hl : lv_has ls 4 [(0, .ref aQ), (1, .int x1)] := hl
  unfold mX4_alone at h
  refine lv_aload_n hx hb dX4_alone_0 rfl (lv_at hl 0 rfl) ?_
  refine lv_iload_n hx hb dX4_alone_1 rfl (lv_at hl 1 rfl) ?_
  obtain ⟨o1, e2, h⟩ := q_bind h
  rcases o1 with Eo1 | vo1
  · obtain rfl := q_injl h
    exact qx_c (vx_runV (As := [.int x1]) (rest := []) ⟨hx, hb, hml, hown, hts⟩ (xX4_needAsk l hfl E aQ aN aT aF aP aR vQ vN x1 _ e2 _) (cwV 1 hts gX4_alone_X4_needAsk rfl rfl rfl (by decide +kernel) ⟨Nat.le_of_ble_eq_true rfl, Nat.le_of_ble_eq_true rfl⟩) (qx_preV hK hC hT hZ hS hA hP hD q_idl 4 0 rfl rfl) rfl rfl hl.1 rfl (lv_room (Nat.le_of_ble_eq_true rfl)) dX4_alone_2 ⟨Nat.le_of_ble_eq_true rfl, Nat.le_of_ble_eq_true rfl⟩) hP hD hS hA q_idl (fun H1 locs1 q9 ce a1 a2 a3 a4 a5 a6 => hRp _ _ _ _ _ _ _ a1 a2 a3 a4 a5 a6)
  have h := qX_r h
  refine q_cv (va_runV (As := [.int x1]) (rest := []) ⟨hx, hb, hml, hown, hts⟩ (wX4_needAsk l E aQ aN aT aF aP aR vQ vN x1 vo1 e2 _) (cwV 1 hts gX4_alone_X4_needAsk rfl rfl rfl (by decide +kernel) ⟨Nat.le_of_ble_eq_true rfl, Nat.le_of_ble_eq_true rfl⟩) (q_preV hK hP hD q_idl 4 0 rfl rfl) rfl rfl hl.1 rfl (lv_room (Nat.le_of_ble_eq_true rfl)) dX4_alone_2 ⟨Nat.zero_le _, Nat.zero_le _⟩) hP hD hS hA q_idl q_idr (fun H locs hP hD hS => ?_)
  exact (q_ml h).elim
def mX4_count (vQ : Int32) (vN : SN) (vT : ST) (vP : SP) (x1 : Int32) : Option (Int32 × Int32 × SP) := if Int32.toInt x1 < 0 ∨ 4 < Int32.toInt x1 then (some ((-1), vQ, vP)) else (if x1 = 0 then (some ((N_places vN), vQ, vP)) else (if x1 = 1 then (some ((N_asks vN), vQ, vP)) else (if x1 = 2 then (some ((N_steps vN), vQ, vP)) else (if x1 = 3 then ((mX3_size vT vN).bind fun o6 => some (o6, vQ, vP)) else (if x1 = 4 then ((mX4_refreshPlay vQ vN vP).bind fun o9 => (mX2_end o9.2 vN).bind fun o11 => some (o11, o9.1, o9.2)) else (none))))))
def rmX4_count : Room := { frames := 6, cells := 0, slots := 0, locals := 135 }
set_option maxHeartbeats 8000000 in
set_option maxRecDepth 100000 in
theorem wX4_count (l : Launch) (E : qE) (aQ : Nat) (aN : Nat → Nat) (aT : Nat → Nat) (aF : Nat → Nat) (aP : Nat → Nat) (aR : Nat → Nat) (vQ : Int32) (vN : SN) (vT : ST) (vP : SP) (x1 : Int32) (o : Int32 × Int32 × SP) (h : mX4_count vQ vN vT vP x1 = some o) : MI l E yX4_count wsX4_count rmX4_count [.ref aQ, .int x1] (WQ aQ aN aT aF aP aR vQ ++ (WN E aN vN ++ (WT E aT vT ++ WP E aP vP))) (WQ aQ aN aT aF aP aR o.2.1 ++ (WN E aN vN ++ (WT E aT vT ++ WP E aP o.2.2))) o.1 := by
  refine q_startI (cc := cX4_count) (maxL := 2) (by decide) rfl (Nat.le_of_ble_eq_true rfl) ?_
  intro pr e s m args below meth c A Q hx hb hml hown hts hK hRt hP hD hA hS ls hl
  have hl : lv_has ls 2 [(0, .ref aQ), (1, .int x1)] := hl
  have hinX1 : ∀ w ∈ wsX10, w ∈ wsX4_count := by decide +kernel
  have hinX4 : ∀ w ∈ wsX40, w ∈ wsX4_count := by decide +kernel
  have hw0 := hts (.fieldLink RX4 12 "QueueReader" "net" "LQueueReader$Net;") (by decide +kernel)
  have hw1 := hts (.fieldLink RX4 48 "QueueReader$Net" "places" "I") (by decide +kernel)
  have hw2 := hts (.fieldLink RX4 71 "QueueReader$Net" "asks" "I") (by decide +kernel)
  have hw3 := hts (.fieldLink RX4 134 "QueueReader$Net" "steps" "I") (by decide +kernel)
  have hw4 := hts (.fieldLink RX4 19 "QueueReader" "told" "LQueueReader$Tracks;") (by decide +kernel)
  have hw5 := hts (.fieldLink RX4 33 "QueueReader" "play" "LQueueReader$Play;") (by decide +kernel)
  unfold mX4_count at h
  refine lv_iload_n hx hb dX4_count_0 rfl (lv_at hl 1 rfl) ?_
  by_cases c1 : Int32.toInt x1 < 0 ∨ 4 < Int32.toInt x1
  · have h := q_pos c1 h
    refine lv_tableOut (tgt := 88) hx hb dX4_count_1 c1 (by decide) ?_
    refine lv_iconst (v := (-1)) hx hb dX4_count_88 (by decide) ?_
    obtain rfl := q_inj h
    exact hRt 89 _ _ _ dX4_count_89 hP hD hS
  · have h := q_neg c1 h
    by_cases e2 : x1 = 0
    · have h := q_pos e2 h
      refine lv_tableIn (tgt := 36) (off := 35) hx hb dX4_count_1 (fun z => c1 (Or.inl z)) (fun z => c1 (Or.inr z)) (by rw [e2]; rfl) (by decide) ?_
      refine lv_aload_n hx hb dX4_count_36 rfl (lv_at hl 0 rfl) ?_
      refine va_get (D := E.1) (ci := 4) (v := .ref (aN 0)) (C := RX4) (T := TX4) (N := 6) hx hb hts hinX4 hown hK.1 hP 0 rfl rfl 0 (by decide) hw0 (fun _ h9 => h9) rfl dX4_count_37 ?_
      refine va_get (D := E.1) (ci := 1) (v := .int (N_places vN)) (C := RX1) (T := TX1) (N := 11) hx hb hts hinX1 hown hK.1 hP 1 rfl rfl 0 (by decide) hw1 (fun _ h9 => h9) rfl dX4_count_40 ?_
      obtain rfl := q_inj h
      exact hRt 43 _ _ _ dX4_count_43 hP hD hS
    have h := q_neg e2 h
    by_cases e3 : x1 = 1
    · have h := q_pos e3 h
      refine lv_tableIn (tgt := 44) (off := 43) hx hb dX4_count_1 (fun z => c1 (Or.inl z)) (fun z => c1 (Or.inr z)) (by rw [e3]; rfl) (by decide) ?_
      refine lv_aload_n hx hb dX4_count_44 rfl (lv_at hl 0 rfl) ?_
      refine va_get (D := E.1) (ci := 4) (v := .ref (aN 0)) (C := RX4) (T := TX4) (N := 6) hx hb hts hinX4 hown hK.1 hP 0 rfl rfl 0 (by decide) hw0 (fun _ h9 => h9) rfl dX4_count_45 ?_
      refine va_get (D := E.1) (ci := 1) (v := .int (N_asks vN)) (C := RX1) (T := TX1) (N := 11) hx hb hts hinX1 hown hK.1 hP 1 rfl rfl 1 (by decide) hw2 (fun _ h9 => h9) rfl dX4_count_48 ?_
      obtain rfl := q_inj h
      exact hRt 51 _ _ _ dX4_count_51 hP hD hS
    have h := q_neg e3 h
    by_cases e4 : x1 = 2
    · have h := q_pos e4 h
      refine lv_tableIn (tgt := 52) (off := 51) hx hb dX4_count_1 (fun z => c1 (Or.inl z)) (fun z => c1 (Or.inr z)) (by rw [e4]; rfl) (by decide) ?_
      refine lv_aload_n hx hb dX4_count_52 rfl (lv_at hl 0 rfl) ?_
      refine va_get (D := E.1) (ci := 4) (v := .ref (aN 0)) (C := RX4) (T := TX4) (N := 6) hx hb hts hinX4 hown hK.1 hP 0 rfl rfl 0 (by decide) hw0 (fun _ h9 => h9) rfl dX4_count_53 ?_
      refine va_get (D := E.1) (ci := 1) (v := .int (N_steps vN)) (C := RX1) (T := TX1) (N := 11) hx hb hts hinX1 hown hK.1 hP 1 rfl rfl 2 (by decide) hw3 (fun _ h9 => h9) rfl dX4_count_56 ?_
      obtain rfl := q_inj h
      exact hRt 59 _ _ _ dX4_count_59 hP hD hS
    have h := q_neg e4 h
    by_cases e5 : x1 = 3
    · have h := q_pos e5 h
      refine lv_tableIn (tgt := 60) (off := 59) hx hb dX4_count_1 (fun z => c1 (Or.inl z)) (fun z => c1 (Or.inr z)) (by rw [e5]; rfl) (by decide) ?_
      refine lv_aload_n hx hb dX4_count_60 rfl (lv_at hl 0 rfl) ?_
      refine va_get (D := E.1) (ci := 4) (v := .ref (aT 0)) (C := RX4) (T := TX4) (N := 6) hx hb hts hinX4 hown hK.1 hP 0 rfl rfl 1 (by decide) hw4 (fun _ h9 => h9) rfl dX4_count_61 ?_
      refine lv_aload_n hx hb dX4_count_64 rfl (lv_at hl 0 rfl) ?_
      refine va_get (D := E.1) (ci := 4) (v := .ref (aN 0)) (C := RX4) (T := TX4) (N := 6) hx hb hts hinX4 hown hK.1 hP 0 rfl rfl 0 (by decide) hw0 (fun _ h9 => h9) rfl dX4_count_65 ?_
      obtain ⟨o6, e7, h⟩ := q_bind h
      refine q_ci (va_runV (As := [.ref (aN 0)]) (rest := []) ⟨hx, hb, hml, hown, hts⟩ (wX3_size l E aT aN vT vN o6 e7 _) (cwV 1 hts gX4_count_X3_size rfl rfl rfl (by decide +kernel) ⟨Nat.le_of_ble_eq_true rfl, Nat.le_of_ble_eq_true rfl⟩) (q_preV hK hP hD pm_4_21 3 10 rfl rfl) rfl rfl hl.1 rfl (lv_room (Nat.le_of_ble_eq_true rfl)) dX4_count_68 ⟨Nat.zero_le _, Nat.zero_le _⟩) hP hD hS hA pm_4_21 pm_4_21.symm (fun H locs hP hD hS => ?_)
      obtain rfl := q_inj h
      exact hRt 71 _ _ _ dX4_count_71 hP hD hS
    have h := q_neg e5 h
    by_cases e8 : x1 = 4
    · have h := q_pos e8 h
      refine lv_tableIn (tgt := 72) (off := 71) hx hb dX4_count_1 (fun z => c1 (Or.inl z)) (fun z => c1 (Or.inr z)) (by rw [e8]; rfl) (by decide) ?_
      refine lv_aload_n hx hb dX4_count_72 rfl (lv_at hl 0 rfl) ?_
      obtain ⟨o9, e10, h⟩ := q_bind h
      refine q_cv (va_runV (As := []) (rest := []) ⟨hx, hb, hml, hown, hts⟩ (wX4_refreshPlay l E aQ aN aT aF aP aR vQ vN vP o9 e10 _) (cwV 0 hts gX4_count_X4_refreshPlay rfl rfl rfl (by decide +kernel) ⟨Nat.le_of_ble_eq_true rfl, Nat.le_of_ble_eq_true rfl⟩) (q_preV hK hP hD pm_4_013 4 0 rfl rfl) rfl rfl hl.1 rfl (lv_room (Nat.le_of_ble_eq_true rfl)) dX4_count_73 ⟨Nat.zero_le _, Nat.zero_le _⟩) hP hD hS hA pm_4_013 pm_4_013.symm (fun H locs hP hD hS => ?_)
      refine lv_aload_n hx hb dX4_count_76 rfl (lv_at hl 0 rfl) ?_
      refine va_get (D := E.1) (ci := 4) (v := .ref (aP 0)) (C := RX4) (T := TX4) (N := 6) hx hb hts hinX4 hown hK.1 hP 0 rfl rfl 3 (by decide) hw5 (fun _ h9 => h9) rfl dX4_count_77 ?_
      refine lv_aload_n hx hb dX4_count_80 rfl (lv_at hl 0 rfl) ?_
      refine va_get (D := E.1) (ci := 4) (v := .ref (aN 0)) (C := RX4) (T := TX4) (N := 6) hx hb hts hinX4 hown hK.1 hP 0 rfl rfl 0 (by decide) hw0 (fun _ h9 => h9) rfl dX4_count_81 ?_
      obtain ⟨o11, e12, h⟩ := q_bind h
      refine q_ci (va_runV (As := [.ref (aN 0)]) (rest := []) ⟨hx, hb, hml, hown, hts⟩ (wX2_end l E aP aN o9.2 vN o11 e12 _) (cwV 1 hts gX4_count_X2_end rfl rfl rfl (by decide +kernel) ⟨Nat.le_of_ble_eq_true rfl, Nat.le_of_ble_eq_true rfl⟩) (q_preV hK hP hD pm_4_31 2 14 rfl rfl) rfl rfl hl.1 rfl (lv_room (Nat.le_of_ble_eq_true rfl)) dX4_count_84 ⟨Nat.zero_le _, Nat.zero_le _⟩) hP hD hS hA pm_4_31 pm_4_31.symm (fun H locs hP hD hS => ?_)
      obtain rfl := q_inj h
      exact hRt 87 _ _ _ dX4_count_87 hP hD hS
    have h := q_neg e8 h
    cases h
