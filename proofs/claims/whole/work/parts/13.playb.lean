def lpX2_firstWaiting_8 (vP : SP) (vN : SN) (x2 : Int32) : Nat → Int32 → Int64 → Int32 → Option Int32
  | 0, _, _, _ => none
  | k + 1, x3, x4, x6 => if (N_asks vN) ≤ x6 then (some x3) else (ck x6 60 (ck x6 60 (if ((P_states vP) (Int32.toNatClampNeg x6)) = 1 then (ck ((P_rows vP) (Int32.toNatClampNeg x6)) 300 (if ((N_stepPlaces vN) (Int32.toNatClampNeg ((P_rows vP) (Int32.toNatClampNeg x6)))) = x2 then (ck x2 5 (ck ((P_rows vP) (Int32.toNatClampNeg x6)) 300 (ck ((P_rows vP) (Int32.toNatClampNeg x6)) 300 (ck x6 60 ((mX4_rank ((N_rules vN) (Int32.toNatClampNeg x2)) ((P_came vP) (Int32.toNatClampNeg ((P_rows vP) (Int32.toNatClampNeg x6)))) ((N_stepWorks vN) (Int32.toNatClampNeg ((P_rows vP) (Int32.toNatClampNeg x6)))) ((N_kinds vN) (Int32.toNatClampNeg x6))).bind fun o39 => if x3 = (-1) then (lpX2_firstWaiting_8 vP vN x2 k x6 o39 (x6 + 1)) else (if 0 ≤ (lg_cmp o39 x4) then (lpX2_firstWaiting_8 vP vN x2 k x3 x4 (x6 + 1)) else (lpX2_firstWaiting_8 vP vN x2 k x6 o39 (x6 + 1)))))))) else (lpX2_firstWaiting_8 vP vN x2 k x3 x4 (x6 + 1)))) else (lpX2_firstWaiting_8 vP vN x2 k x3 x4 (x6 + 1)))))
def mX2_firstWaiting (vP : SP) (vN : SN) (x2 : Int32) : Option Int32 := (lpX2_firstWaiting_8 vP vN x2 qFU (-1) 0 0).bind fun o43 => some o43
def rmX2_firstWaiting : Room := { frames := 1, cells := 0, slots := 0, locals := 23 }
set_option maxHeartbeats 8000000 in
set_option maxRecDepth 100000 in
theorem wX2_firstWaiting (l : Launch) (E : qE) (aP : Nat → Nat) (aN : Nat → Nat) (vP : SP) (vN : SN) (x2 : Int32) (o : Int32) (h : mX2_firstWaiting vP vN x2 = some o) : MI l E yX2_firstWaiting wsX2_firstWaiting rmX2_firstWaiting [.ref (aP 0), .ref (aN 0), .int x2] (WP E aP vP ++ WN E aN vN) (WP E aP vP ++ WN E aN vN) o := by
  refine q_startI (cc := cX2_firstWaiting) (maxL := 10) (by decide) rfl (Nat.le_of_ble_eq_true rfl) ?_
  intro pr e s m args below meth c A Q hx hb hml hown hts hK hRt hP hD hA hS ls hl
  have hl : lv_has ls 10 [(0, .ref (aP 0)), (1, .ref (aN 0)), (2, .int x2)] := hl
  have hinX1 : ∀ w ∈ wsX10, w ∈ wsX2_firstWaiting := by decide +kernel
  have hinX2 : ∀ w ∈ wsX20, w ∈ wsX2_firstWaiting := by decide +kernel
  have hw0 := hts (.fieldLink RX2 58 "QueueReader$Net" "asks" "I") (by decide +kernel)
  have hw1 := hts (.fieldLink RX2 24 "QueueReader$Play" "rows" "[I") (by decide +kernel)
  have hw2 := hts (.fieldLink RX2 21 "QueueReader$Play" "states" "[I") (by decide +kernel)
  have hw3 := hts (.fieldLink RX2 89 "QueueReader$Net" "stepPlaces" "[I") (by decide +kernel)
  have hw4 := hts (.fieldLink RX2 102 "QueueReader$Net" "rules" "[I") (by decide +kernel)
  have hw5 := hts (.fieldLink RX2 9 "QueueReader$Play" "came" "[I") (by decide +kernel)
  have hw6 := hts (.fieldLink RX2 99 "QueueReader$Net" "stepWorks" "[I") (by decide +kernel)
  have hw7 := hts (.fieldLink RX2 105 "QueueReader$Net" "kinds" "[I") (by decide +kernel)
  have hw8 := hts (.initialized RX4) (by decide +kernel)
  have hw9 := hts (.static yX4_rank) (by decide +kernel)
  have L8 : ∀ (vP : SP) (vN : SN) (x2 : Int32) (x3 : Int32) (x4 : Int64) (x6 : Int32) (k : Nat) (H : Heap) (locs : List Loc) (ls : Array Slot), va_P E.1 vwCl (WP E aP vP ++ WN E aN vN) H → va_D A (WP E aP vP ++ WN E aN vN) → va_S A s.heap H locs → lv_has ls 10 [(0, .ref (aP 0)), (1, .ref (aN 0)), (2, .int x2), (3, .int x3), (4, .long x4), (6, .int x6)] → ∀ o, lpX2_firstWaiting_8 vP vN x2 k x3 x4 x6 = some o → (∀ (H : Heap) (locs : List Loc) (ls : Array Slot), va_P E.1 vwCl (WP E aP vP ++ WN E aN vN) H → va_D A (WP E aP vP ++ WN E aN vN) → va_S A s.heap H locs → lv_has ls 10 [(3, .int o)] → W pr l e rmX2_firstWaiting s m args below meth c H locs 0 0 Q (F0 m 106 ls [])) → W pr l e rmX2_firstWaiting s m args below meth c H locs 0 0 Q (F0 m 8 ls []) := by
    intro vP vN x2 x3 x4 x6 k
    induction k generalizing x3 x4 x6 with
    | zero => intro H locs ls hP hD hS hl o h; cases h
    | succ k ih =>
      intro H locs ls hP hD hS hl o h kk
      rw [lpX2_firstWaiting_8] at h
      refine lv_iload hx hb dX2_firstWaiting_8 (lv_at hl 5 rfl) ?_
      refine lv_aload_n hx hb dX2_firstWaiting_10 rfl (lv_at hl 1 rfl) ?_
      refine va_get (D := E.1) (ci := 1) (v := .int (N_asks vN)) (C := RX1) (T := TX1) (N := 11) hx hb hts hinX1 hown hK.1 hP 9 rfl rfl 1 (by decide) hw0 (fun _ h9 => h9) rfl dX2_firstWaiting_11 ?_
      refine lv_icmp_ge (tgt := 106) hx hb dX2_firstWaiting_14 (by decide) (fun c29 => ?_) (fun c29 => ?_)
      · have h := q_pos c29 h
        obtain rfl := q_inj h
        exact kk _ _ _ hP hD hS (lv_sub hl [3] rfl)
      · have h := q_neg c29 h
        refine lv_aload_n hx hb dX2_firstWaiting_17 rfl (lv_at hl 0 rfl) ?_
        refine va_get (D := E.1) (ci := 2) (v := .ref (aP 5)) (C := RX2) (T := TX2) (N := 8) hx hb hts hinX2 hown hK.1 hP 0 rfl rfl 4 (by decide) hw1 (fun _ h9 => h9) rfl dX2_firstWaiting_18 ?_
        refine lv_iload hx hb dX2_firstWaiting_21 (lv_at hl 5 rfl) ?_
        obtain ⟨i30, h⟩ := q_ck h
        refine va_iald (f := (P_rows vP)) hx hb hK.1 hP 5 0 rfl rfl i30 dX2_firstWaiting_23 ?_
        refine lv_istore (lv' := [(7, .int ((P_rows vP) (Int32.toNatClampNeg x6))), (0, .ref (aP 0)), (1, .ref (aN 0)), (2, .int x2), (3, .int x3), (4, .long x4), (6, .int x6)]) hx hb dX2_firstWaiting_24 hl (by decide) rfl (fun ls hl => ?_)
        refine lv_aload_n hx hb dX2_firstWaiting_26 rfl (lv_at hl 1 rfl) ?_
        refine va_get (D := E.1) (ci := 2) (v := .ref (aP 4)) (C := RX2) (T := TX2) (N := 8) hx hb hts hinX2 hown hK.1 hP 0 rfl rfl 3 (by decide) hw2 (fun _ h9 => h9) rfl dX2_firstWaiting_27 ?_
        refine lv_iload hx hb dX2_firstWaiting_30 (lv_at hl 6 rfl) ?_
        obtain ⟨i31, h⟩ := q_ck h
        refine va_iald (f := (P_states vP)) hx hb hK.1 hP 4 0 rfl rfl i31 dX2_firstWaiting_32 ?_
        refine lv_iconst (v := 1) hx hb dX2_firstWaiting_33 (by decide) ?_
        refine lv_icmp_ne (tgt := 100) hx hb dX2_firstWaiting_34 (by decide) (fun c32 => ?_) (fun c32 => ?_)
        · have h := q_neg c32 h
          refine lv_iinc (v := (x6 + 1)) (lv' := [(6, .int (x6 + 1)), (7, .int ((P_rows vP) (Int32.toNatClampNeg x6))), (0, .ref (aP 0)), (1, .ref (aN 0)), (2, .int x2), (3, .int x3), (4, .long x4)]) hx hb dX2_firstWaiting_100 hl (k := 6) rfl rfl (by decide) rfl (fun ls hl => ?_)
          refine lv_goto (tgt := 8) hx hb dX2_firstWaiting_103 (by decide) ?_
          exact ih x3 x4 (x6 + 1) _ _ _ hP hD hS (lv_sub hl [2, 3, 4, 5, 6, 0] rfl) _ h kk
        · have h := q_pos c32 h
          refine lv_aload_n hx hb dX2_firstWaiting_37 rfl (lv_at hl 2 rfl) ?_
          refine va_get (D := E.1) (ci := 1) (v := .ref (aN 7)) (C := RX1) (T := TX1) (N := 11) hx hb hts hinX1 hown hK.1 hP 9 rfl rfl 9 (by decide) hw3 (fun _ h9 => h9) rfl dX2_firstWaiting_38 ?_
          refine lv_iload hx hb dX2_firstWaiting_41 (lv_at hl 0 rfl) ?_
          obtain ⟨i33, h⟩ := q_ck h
          refine va_iald (f := (N_stepPlaces vN)) hx hb hK.1 hP 16 0 rfl rfl i33 dX2_firstWaiting_43 ?_
          refine lv_iload_n hx hb dX2_firstWaiting_44 rfl (lv_at hl 3 rfl) ?_
          refine lv_icmp_ne (tgt := 100) hx hb dX2_firstWaiting_45 (by decide) (fun c34 => ?_) (fun c34 => ?_)
          · have h := q_neg c34 h
            refine lv_iinc (v := (x6 + 1)) (lv' := [(6, .int (x6 + 1)), (7, .int ((P_rows vP) (Int32.toNatClampNeg x6))), (0, .ref (aP 0)), (1, .ref (aN 0)), (2, .int x2), (3, .int x3), (4, .long x4)]) hx hb dX2_firstWaiting_100 hl (k := 6) rfl rfl (by decide) rfl (fun ls hl => ?_)
            refine lv_goto (tgt := 8) hx hb dX2_firstWaiting_103 (by decide) ?_
            exact ih x3 x4 (x6 + 1) _ _ _ hP hD hS (lv_sub hl [2, 3, 4, 5, 6, 0] rfl) _ h kk
          · have h := q_pos c34 h
            refine lv_aload_n hx hb dX2_firstWaiting_48 rfl (lv_at hl 2 rfl) ?_
            refine va_get (D := E.1) (ci := 1) (v := .ref (aN 2)) (C := RX1) (T := TX1) (N := 11) hx hb hts hinX1 hown hK.1 hP 9 rfl rfl 4 (by decide) hw4 (fun _ h9 => h9) rfl dX2_firstWaiting_49 ?_
            refine lv_iload_n hx hb dX2_firstWaiting_52 rfl (lv_at hl 3 rfl) ?_
            obtain ⟨i35, h⟩ := q_ck h
            refine va_iald (f := (N_rules vN)) hx hb hK.1 hP 11 0 rfl rfl i35 dX2_firstWaiting_53 ?_
            refine lv_aload_n hx hb dX2_firstWaiting_54 rfl (lv_at hl 1 rfl) ?_
            refine va_get (D := E.1) (ci := 2) (v := .ref (aP 1)) (C := RX2) (T := TX2) (N := 8) hx hb hts hinX2 hown hK.1 hP 0 rfl rfl 0 (by decide) hw5 (fun _ h9 => h9) rfl dX2_firstWaiting_55 ?_
            refine lv_iload hx hb dX2_firstWaiting_58 (lv_at hl 0 rfl) ?_
            obtain ⟨i36, h⟩ := q_ck h
            refine va_iald (f := (P_came vP)) hx hb hK.1 hP 1 0 rfl rfl i36 dX2_firstWaiting_60 ?_
            refine lv_aload_n hx hb dX2_firstWaiting_61 rfl (lv_at hl 2 rfl) ?_
            refine va_get (D := E.1) (ci := 1) (v := .ref (aN 8)) (C := RX1) (T := TX1) (N := 11) hx hb hts hinX1 hown hK.1 hP 9 rfl rfl 10 (by decide) hw6 (fun _ h9 => h9) rfl dX2_firstWaiting_62 ?_
            refine lv_iload hx hb dX2_firstWaiting_65 (lv_at hl 0 rfl) ?_
            obtain ⟨i37, h⟩ := q_ck h
            refine va_iald (f := (N_stepWorks vN)) hx hb hK.1 hP 17 0 rfl rfl i37 dX2_firstWaiting_67 ?_
            refine lv_aload_n hx hb dX2_firstWaiting_68 rfl (lv_at hl 2 rfl) ?_
            refine va_get (D := E.1) (ci := 1) (v := .ref (aN 4)) (C := RX1) (T := TX1) (N := 11) hx hb hts hinX1 hown hK.1 hP 9 rfl rfl 6 (by decide) hw7 (fun _ h9 => h9) rfl dX2_firstWaiting_69 ?_
            refine lv_iload hx hb dX2_firstWaiting_72 (lv_at hl 6 rfl) ?_
            obtain ⟨i38, h⟩ := q_ck h
            refine va_iald (f := (N_kinds vN)) hx hb hK.1 hP 13 0 rfl rfl i38 dX2_firstWaiting_74 ?_
            obtain ⟨o39, e40, h⟩ := q_bind h
            refine q_cl (va_runSN (As := [.int ((N_rules vN) (Int32.toNatClampNeg x2)), .int ((P_came vP) (Int32.toNatClampNeg ((P_rows vP) (Int32.toNatClampNeg x6)))), .int ((N_stepWorks vN) (Int32.toNatClampNeg ((P_rows vP) (Int32.toNatClampNeg x6)))), .int ((N_kinds vN) (Int32.toNatClampNeg x6))]) (rest := []) ⟨hx, hb, hml, hown, hts⟩ (wX4_rank l E  ((N_rules vN) (Int32.toNatClampNeg x2)) ((P_came vP) (Int32.toNatClampNeg ((P_rows vP) (Int32.toNatClampNeg x6)))) ((N_stepWorks vN) (Int32.toNatClampNeg ((P_rows vP) (Int32.toNatClampNeg x6)))) ((N_kinds vN) (Int32.toNatClampNeg x6)) o39 e40 _) ⟨va_cnB 4 hts gX2_firstWaiting_X4_rank_n108 rfl rfl rfl hK.2.2 hw8 (by decide +kernel) ⟨Nat.le_of_ble_eq_true rfl, Nat.le_of_ble_eq_true rfl⟩, hw9, trivial⟩ (q_preS hK hP hD q_nil) rfl rfl hl.1 rfl (lv_room (Nat.le_of_ble_eq_true rfl)) dX2_firstWaiting_75 ⟨Nat.zero_le _, Nat.zero_le _⟩) hP hD hS hA q_nil q_nil.symm (fun H locs hP hD hS => ?_)
            refine lv_lstore (lv' := [(8, .long o39), (7, .int ((P_rows vP) (Int32.toNatClampNeg x6))), (0, .ref (aP 0)), (1, .ref (aN 0)), (2, .int x2), (3, .int x3), (4, .long x4), (6, .int x6)]) hx hb dX2_firstWaiting_78 hl (by decide) rfl (fun ls hl => ?_)
            refine lv_iload_n hx hb dX2_firstWaiting_80 rfl (lv_at hl 5 rfl) ?_
            refine lv_iconst (v := (-1)) hx hb dX2_firstWaiting_81 (by decide) ?_
            refine lv_icmp_eq (tgt := 93) hx hb dX2_firstWaiting_82 (by decide) (fun c41 => ?_) (fun c41 => ?_)
            · have h := q_pos c41 h
              refine lv_iload hx hb dX2_firstWaiting_93 (lv_at hl 7 rfl) ?_
              refine lv_istore_n (lv' := [(3, .int x6), (8, .long o39), (7, .int ((P_rows vP) (Int32.toNatClampNeg x6))), (0, .ref (aP 0)), (1, .ref (aN 0)), (2, .int x2), (4, .long x4), (6, .int x6)]) hx hb dX2_firstWaiting_95 rfl hl (by decide) rfl (fun ls hl => ?_)
              refine lv_lload hx hb dX2_firstWaiting_96 (lv_at hl 1 rfl) ?_
              refine lv_lstore (lv' := [(4, .long o39), (3, .int x6), (8, .long o39), (7, .int ((P_rows vP) (Int32.toNatClampNeg x6))), (0, .ref (aP 0)), (1, .ref (aN 0)), (2, .int x2), (6, .int x6)]) hx hb dX2_firstWaiting_98 hl (by decide) rfl (fun ls hl => ?_)
              refine lv_iinc (v := (x6 + 1)) (lv' := [(6, .int (x6 + 1)), (4, .long o39), (3, .int x6), (8, .long o39), (7, .int ((P_rows vP) (Int32.toNatClampNeg x6))), (0, .ref (aP 0)), (1, .ref (aN 0)), (2, .int x2)]) hx hb dX2_firstWaiting_100 hl (k := 7) rfl rfl (by decide) rfl (fun ls hl => ?_)
              refine lv_goto (tgt := 8) hx hb dX2_firstWaiting_103 (by decide) ?_
              exact ih x6 o39 (x6 + 1) _ _ _ hP hD hS (lv_sub hl [5, 6, 7, 2, 1, 0] rfl) _ h kk
            · have h := q_neg c41 h
              refine lv_lload hx hb dX2_firstWaiting_85 (lv_at hl 0 rfl) ?_
              refine lv_lload hx hb dX2_firstWaiting_87 (lv_at hl 6 rfl) ?_
              refine W.lcmp hx hb dX2_firstWaiting_89 ?_
              refine lv_if_ge (tgt := 100) hx hb dX2_firstWaiting_90 (by decide) (fun c42 => ?_) (fun c42 => ?_)
              · have h := q_pos c42 h
                refine lv_iinc (v := (x6 + 1)) (lv' := [(6, .int (x6 + 1)), (8, .long o39), (7, .int ((P_rows vP) (Int32.toNatClampNeg x6))), (0, .ref (aP 0)), (1, .ref (aN 0)), (2, .int x2), (3, .int x3), (4, .long x4)]) hx hb dX2_firstWaiting_100 hl (k := 7) rfl rfl (by decide) rfl (fun ls hl => ?_)
                refine lv_goto (tgt := 8) hx hb dX2_firstWaiting_103 (by decide) ?_
                exact ih x3 x4 (x6 + 1) _ _ _ hP hD hS (lv_sub hl [3, 4, 5, 6, 7, 0] rfl) _ h kk
              · have h := q_neg c42 h
                refine lv_iload hx hb dX2_firstWaiting_93 (lv_at hl 7 rfl) ?_
                refine lv_istore_n (lv' := [(3, .int x6), (8, .long o39), (7, .int ((P_rows vP) (Int32.toNatClampNeg x6))), (0, .ref (aP 0)), (1, .ref (aN 0)), (2, .int x2), (4, .long x4), (6, .int x6)]) hx hb dX2_firstWaiting_95 rfl hl (by decide) rfl (fun ls hl => ?_)
                refine lv_lload hx hb dX2_firstWaiting_96 (lv_at hl 1 rfl) ?_
                refine lv_lstore (lv' := [(4, .long o39), (3, .int x6), (8, .long o39), (7, .int ((P_rows vP) (Int32.toNatClampNeg x6))), (0, .ref (aP 0)), (1, .ref (aN 0)), (2, .int x2), (6, .int x6)]) hx hb dX2_firstWaiting_98 hl (by decide) rfl (fun ls hl => ?_)
                refine lv_iinc (v := (x6 + 1)) (lv' := [(6, .int (x6 + 1)), (4, .long o39), (3, .int x6), (8, .long o39), (7, .int ((P_rows vP) (Int32.toNatClampNeg x6))), (0, .ref (aP 0)), (1, .ref (aN 0)), (2, .int x2)]) hx hb dX2_firstWaiting_100 hl (k := 7) rfl rfl (by decide) rfl (fun ls hl => ?_)
                refine lv_goto (tgt := 8) hx hb dX2_firstWaiting_103 (by decide) ?_
                exact ih x6 o39 (x6 + 1) _ _ _ hP hD hS (lv_sub hl [5, 6, 7, 2, 1, 0] rfl) _ h kk
  unfold mX2_firstWaiting at h
  refine lv_iconst (v := (-1)) hx hb dX2_firstWaiting_0 (by decide) ?_
  refine lv_istore_n (lv' := [(3, .int (-1)), (0, .ref (aP 0)), (1, .ref (aN 0)), (2, .int x2)]) hx hb dX2_firstWaiting_1 rfl hl (by decide) rfl (fun ls hl => ?_)
  refine lv_lconst (v := 0) hx hb dX2_firstWaiting_2 (by decide) ?_
  refine lv_lstore (lv' := [(4, .long 0), (3, .int (-1)), (0, .ref (aP 0)), (1, .ref (aN 0)), (2, .int x2)]) hx hb dX2_firstWaiting_3 hl (by decide) rfl (fun ls hl => ?_)
  refine lv_iconst (v := 0) hx hb dX2_firstWaiting_5 (by decide) ?_
  refine lv_istore (lv' := [(6, .int 0), (4, .long 0), (3, .int (-1)), (0, .ref (aP 0)), (1, .ref (aN 0)), (2, .int x2)]) hx hb dX2_firstWaiting_6 hl (by decide) rfl (fun ls hl => ?_)
  obtain ⟨o43, e44, h⟩ := q_bind h
  refine L8 vP vN x2 (-1) 0 0 qFU _ _ _ hP hD hS (lv_sub hl [3, 4, 5, 2, 1, 0] rfl) o43 e44 (fun H locs ls hP hD hS hl => ?_)
  refine lv_iload_n hx hb dX2_firstWaiting_106 rfl (lv_at hl 0 rfl) ?_
  obtain rfl := q_inj h
  exact hRt 107 _ _ _ dX2_firstWaiting_107 hP hD hS
def lpX2_beginAt_3 (vN : SN) (x2 : Int32) (x3 : Int32) : Nat → Int32 → SP → Option (Sum (SP) (SP))
  | 0, _, _ => none
  | k + 1, x4, vP => if 60 ≤ x4 then (some (Sum.inr vP)) else (ck x2 5 (if ((P_free vP) (Int32.toNatClampNeg x2)) ≤ 0 then (some (Sum.inr vP)) else (ck x2 5 (if ((P_waiting vP) (Int32.toNatClampNeg x2)) ≤ 0 then (some (Sum.inr vP)) else ((mX2_firstWaiting vP vN x2).bind fun o44 => if o44 = (-1) then (some (Sum.inl vP)) else (ck o44 60 (ck ((P_rows vP) (Int32.toNatClampNeg o44)) 300 (ck ((P_rows vP) (Int32.toNatClampNeg o44)) 300 (ck ((P_rows vP) (Int32.toNatClampNeg o44)) 300 (ck o44 60 (ck ((P_rows vP) (Int32.toNatClampNeg o44)) 300 (ck o44 60 (ck x2 5 (ck x2 5 (ck x2 5 (ck x2 5 (lpX2_beginAt_3 vN x2 x3 k (x4 + 1) (P_waiting_s (P_free_s (P_dues_s (P_states_s (P_done_s (P_begun_s vP (upd (P_begun vP) (Int32.toNatClampNeg ((P_rows vP) (Int32.toNatClampNeg o44))) x3)) (upd (P_done vP) (Int32.toNatClampNeg ((P_rows vP) (Int32.toNatClampNeg o44))) (x3 + ((N_stepWorks vN) (Int32.toNatClampNeg ((P_rows vP) (Int32.toNatClampNeg o44))))))) (upd (P_states vP) (Int32.toNatClampNeg o44) 2)) (upd (P_dues vP) (Int32.toNatClampNeg o44) ((upd (P_done vP) (Int32.toNatClampNeg ((P_rows vP) (Int32.toNatClampNeg o44))) (x3 + ((N_stepWorks vN) (Int32.toNatClampNeg ((P_rows vP) (Int32.toNatClampNeg o44)))))) (Int32.toNatClampNeg ((P_rows vP) (Int32.toNatClampNeg o44)))))) (upd (P_free vP) (Int32.toNatClampNeg x2) (((P_free vP) (Int32.toNatClampNeg x2)) - 1))) (upd (P_waiting vP) (Int32.toNatClampNeg x2) (((P_waiting vP) (Int32.toNatClampNeg x2)) - 1))))))))))))))))))))
def mX2_beginAt (vP : SP) (vN : SN) (x2 : Int32) (x3 : Int32) : Option SP := (lpX2_beginAt_3 vN x2 x3 qFU 0 vP).bind fun o58 => qS o58 (fun z => z) fun vo58 => some vo58
def rmX2_beginAt : Room := { frames := 2, cells := 0, slots := 0, locals := 52 }
set_option maxHeartbeats 8000000 in
set_option maxRecDepth 100000 in
theorem wX2_beginAt (l : Launch) (E : qE) (aP : Nat → Nat) (aN : Nat → Nat) (vP : SP) (vN : SN) (x2 : Int32) (x3 : Int32) (o : SP) (h : mX2_beginAt vP vN x2 x3 = some o) : MV l E yX2_beginAt wsX2_beginAt rmX2_beginAt [.ref (aP 0), .ref (aN 0), .int x2, .int x3] (WP E aP vP ++ WN E aN vN) (WP E aP o ++ WN E aN vN) := by
  refine q_startV (cc := cX2_beginAt) (maxL := 7) (by decide) rfl (Nat.le_of_ble_eq_true rfl) ?_
  intro pr e s m args below meth c A Q hx hb hml hown hts hK hRt hP hD hA hS ls hl
  have hl : lv_has ls 7 [(0, .ref (aP 0)), (1, .ref (aN 0)), (2, .int x2), (3, .int x3)] := hl
  have hinX1 : ∀ w ∈ wsX10, w ∈ wsX2_beginAt := by decide +kernel
  have hinX2 : ∀ w ∈ wsX20, w ∈ wsX2_beginAt := by decide +kernel
  have hw0 := hts (.fieldLink RX2 30 "QueueReader$Play" "free" "[I") (by decide +kernel)
  have hw1 := hts (.fieldLink RX2 33 "QueueReader$Play" "waiting" "[I") (by decide +kernel)
  have hw2 := hts (.fieldLink RX2 24 "QueueReader$Play" "rows" "[I") (by decide +kernel)
  have hw3 := hts (.fieldLink RX2 15 "QueueReader$Play" "begun" "[I") (by decide +kernel)
  have hw4 := hts (.fieldLink RX2 18 "QueueReader$Play" "done" "[I") (by decide +kernel)
  have hw5 := hts (.fieldLink RX2 99 "QueueReader$Net" "stepWorks" "[I") (by decide +kernel)
  have hw6 := hts (.fieldLink RX2 21 "QueueReader$Play" "states" "[I") (by decide +kernel)
  have hw7 := hts (.fieldLink RX2 27 "QueueReader$Play" "dues" "[I") (by decide +kernel)
  have L3 : ∀ (vP : SP) (vN : SN) (x2 : Int32) (x3 : Int32) (x4 : Int32) (k : Nat) (H : Heap) (locs : List Loc) (ls : Array Slot), va_P E.1 vwCl (WP E aP vP ++ WN E aN vN) H → va_D A (WP E aP vP ++ WN E aN vN) → va_S A s.heap H locs → lv_has ls 7 [(0, .ref (aP 0)), (1, .ref (aN 0)), (2, .int x2), (3, .int x3), (4, .int x4)] → ∀ o, lpX2_beginAt_3 vN x2 x3 k x4 vP = some o → (∀ rr, o = Sum.inl rr → ∀ (pc : Nat) (H : Heap) (locs : List Loc) (ls : Array Slot), decode cX2_beginAt pc = .ok (.return_, 1) → va_P E.1 vwCl (WP E aP rr ++ WN E aN vN) H → va_D A (WP E aP rr ++ WN E aN vN) → va_S A s.heap H locs → W pr l e rmX2_beginAt s m args below meth c H locs 0 0 Q (F0 m pc ls [])) → (∀ vv, o = Sum.inr vv → ∀ (H : Heap) (locs : List Loc) (ls : Array Slot), va_P E.1 vwCl (WP E aP vv ++ WN E aN vN) H → va_D A (WP E aP vv ++ WN E aN vN) → va_S A s.heap H locs → lv_has ls 7 [] → W pr l e rmX2_beginAt s m args below meth c H locs 0 0 Q (F0 m 124 ls [])) → W pr l e rmX2_beginAt s m args below meth c H locs 0 0 Q (F0 m 3 ls []) := by
    intro vP vN x2 x3 x4 k
    induction k generalizing x4 vP with
    | zero => intro H locs ls hP hD hS hl o h; cases h
    | succ k ih =>
      intro H locs ls hP hD hS hl o h kr kk
      rw [lpX2_beginAt_3] at h
      refine lv_iload hx hb dX2_beginAt_3 (lv_at hl 4 rfl) ?_
      refine lv_bipush (v := 60) hx hb dX2_beginAt_5 (by decide) ?_
      refine lv_icmp_ge (tgt := 124) hx hb dX2_beginAt_7 (by decide) (fun c39 => ?_) (fun c39 => ?_)
      · have h := q_pos c39 h
        obtain rfl := q_inj h
        exact kk _ rfl _ _ _ hP hD hS (lv_sub hl [] rfl)
      · have h := q_neg c39 h
        refine lv_aload_n hx hb dX2_beginAt_10 rfl (lv_at hl 0 rfl) ?_
        refine va_get (D := E.1) (ci := 2) (v := .ref (aP 7)) (C := RX2) (T := TX2) (N := 8) hx hb hts hinX2 hown hK.1 hP 0 rfl rfl 6 (by decide) hw0 (fun _ h9 => h9) rfl dX2_beginAt_11 ?_
        refine lv_iload_n hx hb dX2_beginAt_14 rfl (lv_at hl 2 rfl) ?_
        obtain ⟨i40, h⟩ := q_ck h
        refine va_iald (f := (P_free vP)) hx hb hK.1 hP 7 0 rfl rfl i40 dX2_beginAt_15 ?_
        refine lv_if_le (tgt := 124) hx hb dX2_beginAt_16 (by decide) (fun c41 => ?_) (fun c41 => ?_)
        · have h := q_pos c41 h
          obtain rfl := q_inj h
          exact kk _ rfl _ _ _ hP hD hS (lv_sub hl [] rfl)
        · have h := q_neg c41 h
          refine lv_aload_n hx hb dX2_beginAt_19 rfl (lv_at hl 0 rfl) ?_
          refine va_get (D := E.1) (ci := 2) (v := .ref (aP 8)) (C := RX2) (T := TX2) (N := 8) hx hb hts hinX2 hown hK.1 hP 0 rfl rfl 7 (by decide) hw1 (fun _ h9 => h9) rfl dX2_beginAt_20 ?_
          refine lv_iload_n hx hb dX2_beginAt_23 rfl (lv_at hl 2 rfl) ?_
          obtain ⟨i42, h⟩ := q_ck h
          refine va_iald (f := (P_waiting vP)) hx hb hK.1 hP 8 0 rfl rfl i42 dX2_beginAt_24 ?_
          refine lv_if_le (tgt := 124) hx hb dX2_beginAt_25 (by decide) (fun c43 => ?_) (fun c43 => ?_)
          · have h := q_pos c43 h
            obtain rfl := q_inj h
            exact kk _ rfl _ _ _ hP hD hS (lv_sub hl [] rfl)
          · have h := q_neg c43 h
            refine lv_aload_n hx hb dX2_beginAt_28 rfl (lv_at hl 0 rfl) ?_
            refine lv_aload_n hx hb dX2_beginAt_29 rfl (lv_at hl 1 rfl) ?_
            refine lv_iload_n hx hb dX2_beginAt_30 rfl (lv_at hl 2 rfl) ?_
            obtain ⟨o44, e45, h⟩ := q_bind h
            refine q_ci (va_runV (As := [.ref (aN 0), .int x2]) (rest := []) ⟨hx, hb, hml, hown, hts⟩ (wX2_firstWaiting l E aP aN vP vN x2 o44 e45 _) (cwV 2 hts gX2_beginAt_X2_firstWaiting rfl rfl rfl (by decide +kernel) ⟨Nat.le_of_ble_eq_true rfl, Nat.le_of_ble_eq_true rfl⟩) (q_preV hK hP hD q_idl 2 0 rfl rfl) rfl rfl hl.1 rfl (lv_room (Nat.le_of_ble_eq_true rfl)) dX2_beginAt_31 ⟨Nat.zero_le _, Nat.zero_le _⟩) hP hD hS hA q_idl q_idr (fun H locs hP hD hS => ?_)
            refine lv_istore (lv' := [(5, .int o44), (0, .ref (aP 0)), (1, .ref (aN 0)), (2, .int x2), (3, .int x3), (4, .int x4)]) hx hb dX2_beginAt_34 hl (by decide) rfl (fun ls hl => ?_)
            refine lv_iload hx hb dX2_beginAt_36 (lv_at hl 0 rfl) ?_
            refine lv_iconst (v := (-1)) hx hb dX2_beginAt_38 (by decide) ?_
            refine lv_icmp_ne (tgt := 43) hx hb dX2_beginAt_39 (by decide) (fun c46 => ?_) (fun c46 => ?_)
            · have h := q_neg c46 h
              refine lv_aload_n hx hb dX2_beginAt_43 rfl (lv_at hl 1 rfl) ?_
              refine va_get (D := E.1) (ci := 2) (v := .ref (aP 5)) (C := RX2) (T := TX2) (N := 8) hx hb hts hinX2 hown hK.1 hP 0 rfl rfl 4 (by decide) hw2 (fun _ h9 => h9) rfl dX2_beginAt_44 ?_
              refine lv_iload hx hb dX2_beginAt_47 (lv_at hl 0 rfl) ?_
              obtain ⟨i47, h⟩ := q_ck h
              refine va_iald (f := (P_rows vP)) hx hb hK.1 hP 5 0 rfl rfl i47 dX2_beginAt_49 ?_
              refine lv_istore (lv' := [(6, .int ((P_rows vP) (Int32.toNatClampNeg o44))), (5, .int o44), (0, .ref (aP 0)), (1, .ref (aN 0)), (2, .int x2), (3, .int x3), (4, .int x4)]) hx hb dX2_beginAt_50 hl (by decide) rfl (fun ls hl => ?_)
              refine lv_aload_n hx hb dX2_beginAt_52 rfl (lv_at hl 2 rfl) ?_
              refine va_get (D := E.1) (ci := 2) (v := .ref (aP 2)) (C := RX2) (T := TX2) (N := 8) hx hb hts hinX2 hown hK.1 hP 0 rfl rfl 1 (by decide) hw3 (fun _ h9 => h9) rfl dX2_beginAt_53 ?_
              refine lv_iload hx hb dX2_beginAt_56 (lv_at hl 0 rfl) ?_
              refine lv_iload_n hx hb dX2_beginAt_58 rfl (lv_at hl 5 rfl) ?_
              obtain ⟨i48, h⟩ := q_ck h
              refine va_iast (f := (P_begun vP)) hx hb hK.1 hP hD hS 2 0 rfl rfl i48 dX2_beginAt_59 (fun H locs hP hD hS => ?_)
              have hP : va_P E.1 vwCl (WP E aP (P_begun_s vP (upd (P_begun vP) (Int32.toNatClampNeg ((P_rows vP) (Int32.toNatClampNeg o44))) x3)) ++ WN E aN vN) H := hP
              have hD : va_D A (WP E aP (P_begun_s vP (upd (P_begun vP) (Int32.toNatClampNeg ((P_rows vP) (Int32.toNatClampNeg o44))) x3)) ++ WN E aN vN) := hD
              refine lv_aload_n hx hb dX2_beginAt_60 rfl (lv_at hl 2 rfl) ?_
              refine va_get (D := E.1) (ci := 2) (v := .ref (aP 3)) (C := RX2) (T := TX2) (N := 8) hx hb hts hinX2 hown hK.1 hP 0 rfl rfl 2 (by decide) hw4 (fun _ h9 => h9) rfl dX2_beginAt_61 ?_
              refine lv_iload hx hb dX2_beginAt_64 (lv_at hl 0 rfl) ?_
              refine lv_iload_n hx hb dX2_beginAt_66 rfl (lv_at hl 5 rfl) ?_
              refine lv_aload_n hx hb dX2_beginAt_67 rfl (lv_at hl 3 rfl) ?_
              refine va_get (D := E.1) (ci := 1) (v := .ref (aN 8)) (C := RX1) (T := TX1) (N := 11) hx hb hts hinX1 hown hK.1 hP 9 rfl rfl 10 (by decide) hw5 (fun _ h9 => h9) rfl dX2_beginAt_68 ?_
              refine lv_iload hx hb dX2_beginAt_71 (lv_at hl 0 rfl) ?_
              obtain ⟨i49, h⟩ := q_ck h
              refine va_iald (f := (N_stepWorks vN)) hx hb hK.1 hP 17 0 rfl rfl i49 dX2_beginAt_73 ?_
              refine lv_iadd hx hb dX2_beginAt_74 ?_
              obtain ⟨i50, h⟩ := q_ck h
              refine va_iast (f := (P_done vP)) hx hb hK.1 hP hD hS 3 0 rfl rfl i50 dX2_beginAt_75 (fun H locs hP hD hS => ?_)
              have hP : va_P E.1 vwCl (WP E aP (P_done_s (P_begun_s vP (upd (P_begun vP) (Int32.toNatClampNeg ((P_rows vP) (Int32.toNatClampNeg o44))) x3)) (upd (P_done vP) (Int32.toNatClampNeg ((P_rows vP) (Int32.toNatClampNeg o44))) (x3 + ((N_stepWorks vN) (Int32.toNatClampNeg ((P_rows vP) (Int32.toNatClampNeg o44))))))) ++ WN E aN vN) H := hP
              have hD : va_D A (WP E aP (P_done_s (P_begun_s vP (upd (P_begun vP) (Int32.toNatClampNeg ((P_rows vP) (Int32.toNatClampNeg o44))) x3)) (upd (P_done vP) (Int32.toNatClampNeg ((P_rows vP) (Int32.toNatClampNeg o44))) (x3 + ((N_stepWorks vN) (Int32.toNatClampNeg ((P_rows vP) (Int32.toNatClampNeg o44))))))) ++ WN E aN vN) := hD
              refine lv_aload_n hx hb dX2_beginAt_76 rfl (lv_at hl 2 rfl) ?_
              refine va_get (D := E.1) (ci := 2) (v := .ref (aP 4)) (C := RX2) (T := TX2) (N := 8) hx hb hts hinX2 hown hK.1 hP 0 rfl rfl 3 (by decide) hw6 (fun _ h9 => h9) rfl dX2_beginAt_77 ?_
              refine lv_iload hx hb dX2_beginAt_80 (lv_at hl 1 rfl) ?_
              refine lv_iconst (v := 2) hx hb dX2_beginAt_82 (by decide) ?_
              obtain ⟨i51, h⟩ := q_ck h
              refine va_iast (f := (P_states vP)) hx hb hK.1 hP hD hS 4 0 rfl rfl i51 dX2_beginAt_83 (fun H locs hP hD hS => ?_)
              have hP : va_P E.1 vwCl (WP E aP (P_states_s (P_done_s (P_begun_s vP (upd (P_begun vP) (Int32.toNatClampNeg ((P_rows vP) (Int32.toNatClampNeg o44))) x3)) (upd (P_done vP) (Int32.toNatClampNeg ((P_rows vP) (Int32.toNatClampNeg o44))) (x3 + ((N_stepWorks vN) (Int32.toNatClampNeg ((P_rows vP) (Int32.toNatClampNeg o44))))))) (upd (P_states vP) (Int32.toNatClampNeg o44) 2)) ++ WN E aN vN) H := hP
              have hD : va_D A (WP E aP (P_states_s (P_done_s (P_begun_s vP (upd (P_begun vP) (Int32.toNatClampNeg ((P_rows vP) (Int32.toNatClampNeg o44))) x3)) (upd (P_done vP) (Int32.toNatClampNeg ((P_rows vP) (Int32.toNatClampNeg o44))) (x3 + ((N_stepWorks vN) (Int32.toNatClampNeg ((P_rows vP) (Int32.toNatClampNeg o44))))))) (upd (P_states vP) (Int32.toNatClampNeg o44) 2)) ++ WN E aN vN) := hD
              refine lv_aload_n hx hb dX2_beginAt_84 rfl (lv_at hl 2 rfl) ?_
              refine va_get (D := E.1) (ci := 2) (v := .ref (aP 6)) (C := RX2) (T := TX2) (N := 8) hx hb hts hinX2 hown hK.1 hP 0 rfl rfl 5 (by decide) hw7 (fun _ h9 => h9) rfl dX2_beginAt_85 ?_
              refine lv_iload hx hb dX2_beginAt_88 (lv_at hl 1 rfl) ?_
              refine lv_aload_n hx hb dX2_beginAt_90 rfl (lv_at hl 2 rfl) ?_
              refine va_get (D := E.1) (ci := 2) (v := .ref (aP 3)) (C := RX2) (T := TX2) (N := 8) hx hb hts hinX2 hown hK.1 hP 0 rfl rfl 2 (by decide) hw4 (fun _ h9 => h9) rfl dX2_beginAt_91 ?_
              refine lv_iload hx hb dX2_beginAt_94 (lv_at hl 0 rfl) ?_
              obtain ⟨i52, h⟩ := q_ck h
              refine va_iald (f := (upd (P_done vP) (Int32.toNatClampNeg ((P_rows vP) (Int32.toNatClampNeg o44))) (x3 + ((N_stepWorks vN) (Int32.toNatClampNeg ((P_rows vP) (Int32.toNatClampNeg o44))))))) hx hb hK.1 hP 3 0 rfl rfl i52 dX2_beginAt_96 ?_
              obtain ⟨i53, h⟩ := q_ck h
              refine va_iast (f := (P_dues vP)) hx hb hK.1 hP hD hS 6 0 rfl rfl i53 dX2_beginAt_97 (fun H locs hP hD hS => ?_)
              have hP : va_P E.1 vwCl (WP E aP (P_dues_s (P_states_s (P_done_s (P_begun_s vP (upd (P_begun vP) (Int32.toNatClampNeg ((P_rows vP) (Int32.toNatClampNeg o44))) x3)) (upd (P_done vP) (Int32.toNatClampNeg ((P_rows vP) (Int32.toNatClampNeg o44))) (x3 + ((N_stepWorks vN) (Int32.toNatClampNeg ((P_rows vP) (Int32.toNatClampNeg o44))))))) (upd (P_states vP) (Int32.toNatClampNeg o44) 2)) (upd (P_dues vP) (Int32.toNatClampNeg o44) ((upd (P_done vP) (Int32.toNatClampNeg ((P_rows vP) (Int32.toNatClampNeg o44))) (x3 + ((N_stepWorks vN) (Int32.toNatClampNeg ((P_rows vP) (Int32.toNatClampNeg o44)))))) (Int32.toNatClampNeg ((P_rows vP) (Int32.toNatClampNeg o44)))))) ++ WN E aN vN) H := hP
              have hD : va_D A (WP E aP (P_dues_s (P_states_s (P_done_s (P_begun_s vP (upd (P_begun vP) (Int32.toNatClampNeg ((P_rows vP) (Int32.toNatClampNeg o44))) x3)) (upd (P_done vP) (Int32.toNatClampNeg ((P_rows vP) (Int32.toNatClampNeg o44))) (x3 + ((N_stepWorks vN) (Int32.toNatClampNeg ((P_rows vP) (Int32.toNatClampNeg o44))))))) (upd (P_states vP) (Int32.toNatClampNeg o44) 2)) (upd (P_dues vP) (Int32.toNatClampNeg o44) ((upd (P_done vP) (Int32.toNatClampNeg ((P_rows vP) (Int32.toNatClampNeg o44))) (x3 + ((N_stepWorks vN) (Int32.toNatClampNeg ((P_rows vP) (Int32.toNatClampNeg o44)))))) (Int32.toNatClampNeg ((P_rows vP) (Int32.toNatClampNeg o44)))))) ++ WN E aN vN) := hD
              refine lv_aload_n hx hb dX2_beginAt_98 rfl (lv_at hl 2 rfl) ?_
              refine va_get (D := E.1) (ci := 2) (v := .ref (aP 7)) (C := RX2) (T := TX2) (N := 8) hx hb hts hinX2 hown hK.1 hP 0 rfl rfl 6 (by decide) hw0 (fun _ h9 => h9) rfl dX2_beginAt_99 ?_
              refine lv_iload_n hx hb dX2_beginAt_102 rfl (lv_at hl 4 rfl) ?_
              refine lv_dup2_11 hx hb dX2_beginAt_103 rfl rfl ?_
              obtain ⟨i54, h⟩ := q_ck h
              refine va_iald (f := (P_free vP)) hx hb hK.1 hP 7 0 rfl rfl i54 dX2_beginAt_104 ?_
              refine lv_iconst (v := 1) hx hb dX2_beginAt_105 (by decide) ?_
              refine lv_isub hx hb dX2_beginAt_106 ?_
              obtain ⟨i55, h⟩ := q_ck h
              refine va_iast (f := (P_free vP)) hx hb hK.1 hP hD hS 7 0 rfl rfl i55 dX2_beginAt_107 (fun H locs hP hD hS => ?_)
              have hP : va_P E.1 vwCl (WP E aP (P_free_s (P_dues_s (P_states_s (P_done_s (P_begun_s vP (upd (P_begun vP) (Int32.toNatClampNeg ((P_rows vP) (Int32.toNatClampNeg o44))) x3)) (upd (P_done vP) (Int32.toNatClampNeg ((P_rows vP) (Int32.toNatClampNeg o44))) (x3 + ((N_stepWorks vN) (Int32.toNatClampNeg ((P_rows vP) (Int32.toNatClampNeg o44))))))) (upd (P_states vP) (Int32.toNatClampNeg o44) 2)) (upd (P_dues vP) (Int32.toNatClampNeg o44) ((upd (P_done vP) (Int32.toNatClampNeg ((P_rows vP) (Int32.toNatClampNeg o44))) (x3 + ((N_stepWorks vN) (Int32.toNatClampNeg ((P_rows vP) (Int32.toNatClampNeg o44)))))) (Int32.toNatClampNeg ((P_rows vP) (Int32.toNatClampNeg o44)))))) (upd (P_free vP) (Int32.toNatClampNeg x2) (((P_free vP) (Int32.toNatClampNeg x2)) - 1))) ++ WN E aN vN) H := hP
              have hD : va_D A (WP E aP (P_free_s (P_dues_s (P_states_s (P_done_s (P_begun_s vP (upd (P_begun vP) (Int32.toNatClampNeg ((P_rows vP) (Int32.toNatClampNeg o44))) x3)) (upd (P_done vP) (Int32.toNatClampNeg ((P_rows vP) (Int32.toNatClampNeg o44))) (x3 + ((N_stepWorks vN) (Int32.toNatClampNeg ((P_rows vP) (Int32.toNatClampNeg o44))))))) (upd (P_states vP) (Int32.toNatClampNeg o44) 2)) (upd (P_dues vP) (Int32.toNatClampNeg o44) ((upd (P_done vP) (Int32.toNatClampNeg ((P_rows vP) (Int32.toNatClampNeg o44))) (x3 + ((N_stepWorks vN) (Int32.toNatClampNeg ((P_rows vP) (Int32.toNatClampNeg o44)))))) (Int32.toNatClampNeg ((P_rows vP) (Int32.toNatClampNeg o44)))))) (upd (P_free vP) (Int32.toNatClampNeg x2) (((P_free vP) (Int32.toNatClampNeg x2)) - 1))) ++ WN E aN vN) := hD
              refine lv_aload_n hx hb dX2_beginAt_108 rfl (lv_at hl 2 rfl) ?_
              refine va_get (D := E.1) (ci := 2) (v := .ref (aP 8)) (C := RX2) (T := TX2) (N := 8) hx hb hts hinX2 hown hK.1 hP 0 rfl rfl 7 (by decide) hw1 (fun _ h9 => h9) rfl dX2_beginAt_109 ?_
              refine lv_iload_n hx hb dX2_beginAt_112 rfl (lv_at hl 4 rfl) ?_
              refine lv_dup2_11 hx hb dX2_beginAt_113 rfl rfl ?_
              obtain ⟨i56, h⟩ := q_ck h
              refine va_iald (f := (P_waiting vP)) hx hb hK.1 hP 8 0 rfl rfl i56 dX2_beginAt_114 ?_
              refine lv_iconst (v := 1) hx hb dX2_beginAt_115 (by decide) ?_
              refine lv_isub hx hb dX2_beginAt_116 ?_
              obtain ⟨i57, h⟩ := q_ck h
              refine va_iast (f := (P_waiting vP)) hx hb hK.1 hP hD hS 8 0 rfl rfl i57 dX2_beginAt_117 (fun H locs hP hD hS => ?_)
              have hP : va_P E.1 vwCl (WP E aP (P_waiting_s (P_free_s (P_dues_s (P_states_s (P_done_s (P_begun_s vP (upd (P_begun vP) (Int32.toNatClampNeg ((P_rows vP) (Int32.toNatClampNeg o44))) x3)) (upd (P_done vP) (Int32.toNatClampNeg ((P_rows vP) (Int32.toNatClampNeg o44))) (x3 + ((N_stepWorks vN) (Int32.toNatClampNeg ((P_rows vP) (Int32.toNatClampNeg o44))))))) (upd (P_states vP) (Int32.toNatClampNeg o44) 2)) (upd (P_dues vP) (Int32.toNatClampNeg o44) ((upd (P_done vP) (Int32.toNatClampNeg ((P_rows vP) (Int32.toNatClampNeg o44))) (x3 + ((N_stepWorks vN) (Int32.toNatClampNeg ((P_rows vP) (Int32.toNatClampNeg o44)))))) (Int32.toNatClampNeg ((P_rows vP) (Int32.toNatClampNeg o44)))))) (upd (P_free vP) (Int32.toNatClampNeg x2) (((P_free vP) (Int32.toNatClampNeg x2)) - 1))) (upd (P_waiting vP) (Int32.toNatClampNeg x2) (((P_waiting vP) (Int32.toNatClampNeg x2)) - 1))) ++ WN E aN vN) H := hP
              have hD : va_D A (WP E aP (P_waiting_s (P_free_s (P_dues_s (P_states_s (P_done_s (P_begun_s vP (upd (P_begun vP) (Int32.toNatClampNeg ((P_rows vP) (Int32.toNatClampNeg o44))) x3)) (upd (P_done vP) (Int32.toNatClampNeg ((P_rows vP) (Int32.toNatClampNeg o44))) (x3 + ((N_stepWorks vN) (Int32.toNatClampNeg ((P_rows vP) (Int32.toNatClampNeg o44))))))) (upd (P_states vP) (Int32.toNatClampNeg o44) 2)) (upd (P_dues vP) (Int32.toNatClampNeg o44) ((upd (P_done vP) (Int32.toNatClampNeg ((P_rows vP) (Int32.toNatClampNeg o44))) (x3 + ((N_stepWorks vN) (Int32.toNatClampNeg ((P_rows vP) (Int32.toNatClampNeg o44)))))) (Int32.toNatClampNeg ((P_rows vP) (Int32.toNatClampNeg o44)))))) (upd (P_free vP) (Int32.toNatClampNeg x2) (((P_free vP) (Int32.toNatClampNeg x2)) - 1))) (upd (P_waiting vP) (Int32.toNatClampNeg x2) (((P_waiting vP) (Int32.toNatClampNeg x2)) - 1))) ++ WN E aN vN) := hD
              refine lv_iinc (v := (x4 + 1)) (lv' := [(4, .int (x4 + 1)), (6, .int ((P_rows vP) (Int32.toNatClampNeg o44))), (5, .int o44), (0, .ref (aP 0)), (1, .ref (aN 0)), (2, .int x2), (3, .int x3)]) hx hb dX2_beginAt_118 hl (k := 6) rfl rfl (by decide) rfl (fun ls hl => ?_)
              refine lv_goto (tgt := 3) hx hb dX2_beginAt_121 (by decide) ?_
              exact ih (P_waiting_s (P_free_s (P_dues_s (P_states_s (P_done_s (P_begun_s vP (upd (P_begun vP) (Int32.toNatClampNeg ((P_rows vP) (Int32.toNatClampNeg o44))) x3)) (upd (P_done vP) (Int32.toNatClampNeg ((P_rows vP) (Int32.toNatClampNeg o44))) (x3 + ((N_stepWorks vN) (Int32.toNatClampNeg ((P_rows vP) (Int32.toNatClampNeg o44))))))) (upd (P_states vP) (Int32.toNatClampNeg o44) 2)) (upd (P_dues vP) (Int32.toNatClampNeg o44) ((upd (P_done vP) (Int32.toNatClampNeg ((P_rows vP) (Int32.toNatClampNeg o44))) (x3 + ((N_stepWorks vN) (Int32.toNatClampNeg ((P_rows vP) (Int32.toNatClampNeg o44)))))) (Int32.toNatClampNeg ((P_rows vP) (Int32.toNatClampNeg o44)))))) (upd (P_free vP) (Int32.toNatClampNeg x2) (((P_free vP) (Int32.toNatClampNeg x2)) - 1))) (upd (P_waiting vP) (Int32.toNatClampNeg x2) (((P_waiting vP) (Int32.toNatClampNeg x2)) - 1))) (x4 + 1) _ _ _ hP hD hS (lv_sub hl [3, 4, 5, 6, 0] rfl) _ h kr kk
            · have h := q_pos c46 h
              obtain rfl := q_inj h
              exact kr _ rfl 42 _ _ _ dX2_beginAt_42 hP hD hS
  unfold mX2_beginAt at h
  refine lv_iconst (v := 0) hx hb dX2_beginAt_0 (by decide) ?_
  refine lv_istore (lv' := [(4, .int 0), (0, .ref (aP 0)), (1, .ref (aN 0)), (2, .int x2), (3, .int x3)]) hx hb dX2_beginAt_1 hl (by decide) rfl (fun ls hl => ?_)
  obtain ⟨o58, e59, h⟩ := q_bind h
  refine L3 vP vN x2 x3 0 qFU _ _ _ hP hD hS (lv_sub hl [1, 2, 3, 4, 0] rfl) o58 e59 (fun rr60 e pc H locs ls => by subst e; obtain rfl := q_inj h; exact hRt pc H locs ls) (fun vo58 e H locs ls hP hD hS hl => ?_)
  subst e
  obtain rfl := q_inj h
  exact hRt 124 _ _ _ dX2_beginAt_124 hP hD hS
def lpX2_run_40 (vN : SN) (x4 : Int32) : Nat → Int32 → SP → Option SP
  | 0, _, _ => none
  | k + 1, x5, vP => if (N_places vN) ≤ x5 then (some vP) else ((mX2_beginAt vP vN x5 x4).bind fun o16 => lpX2_run_40 vN x4 k (x5 + 1) o16)
def lpX2_run_8 (vN : SN) : Nat → Int32 → SP → Option (Sum (SP) (SP))
  | 0, _, _ => none
  | k + 1, x3, vP => if 600 ≤ x3 then (some (Sum.inr vP)) else ((mX2_nextTick vP vN).bind fun o31 => if o31 = 1000000000 then (some (Sum.inl vP)) else ((mX2_advance vP vN o31).bind fun o34 => (lpX2_run_40 vN o31 qFU 0 o34).bind fun o36 => lpX2_run_8 vN k (x3 + 1) o36))
def mX2_run (vP : SP) (vN : SN) (x2 : Int32) : Option SP := (mX2_open vP vN x2).bind fun o1 => (lpX2_run_8 vN qFU 0 o1).bind fun o39 => qS o39 (fun z => z) fun vo39 => some vo39
def rmX2_run : Room := { frames := 4, cells := 0, slots := 0, locals := 90 }
set_option maxHeartbeats 8000000 in
set_option maxRecDepth 100000 in
theorem wX2_run (l : Launch) (E : qE) (aP : Nat → Nat) (aN : Nat → Nat) (vP : SP) (vN : SN) (x2 : Int32) (o : SP) (h : mX2_run vP vN x2 = some o) : MV l E yX2_run wsX2_run rmX2_run [.ref (aP 0), .ref (aN 0), .int x2] (WP E aP vP ++ WN E aN vN) (WP E aP o ++ WN E aN vN) := by
  refine q_startV (cc := cX2_run) (maxL := 6) (by decide) rfl (Nat.le_of_ble_eq_true rfl) ?_
  intro pr e s m args below meth c A Q hx hb hml hown hts hK hRt hP hD hA hS ls hl
  have hl : lv_has ls 6 [(0, .ref (aP 0)), (1, .ref (aN 0)), (2, .int x2)] := hl
  have hinX1 : ∀ w ∈ wsX10, w ∈ wsX2_run := by decide +kernel
  have hw0 := hts (.constant RX2 44 (1000000000)) (by decide +kernel)
  have hw1 := hts (.fieldLink RX2 48 "QueueReader$Net" "places" "I") (by decide +kernel)
  have L40 : ∀ (vP : SP) (vN : SN) (x3 : Int32) (x4 : Int32) (x5 : Int32) (k : Nat) (H : Heap) (locs : List Loc) (ls : Array Slot), va_P E.1 vwCl (WP E aP vP ++ WN E aN vN) H → va_D A (WP E aP vP ++ WN E aN vN) → va_S A s.heap H locs → lv_has ls 6 [(0, .ref (aP 0)), (1, .ref (aN 0)), (3, .int x3), (4, .int x4), (5, .int x5)] → ∀ o, lpX2_run_40 vN x4 k x5 vP = some o → (∀ (H : Heap) (locs : List Loc) (ls : Array Slot), va_P E.1 vwCl (WP E aP o ++ WN E aN vN) H → va_D A (WP E aP o ++ WN E aN vN) → va_S A s.heap H locs → lv_has ls 6 [(0, .ref (aP 0)), (1, .ref (aN 0)), (3, .int x3)] → W pr l e rmX2_run s m args below meth c H locs 0 0 Q (F0 m 64 ls [])) → W pr l e rmX2_run s m args below meth c H locs 0 0 Q (F0 m 40 ls []) := by
    intro vP vN x3 x4 x5 k
    induction k generalizing x5 vP with
    | zero => intro H locs ls hP hD hS hl o h; cases h
    | succ k ih =>
      intro H locs ls hP hD hS hl o h kk
      rw [lpX2_run_40] at h
      refine lv_iload hx hb dX2_run_40 (lv_at hl 4 rfl) ?_
      refine lv_aload_n hx hb dX2_run_42 rfl (lv_at hl 1 rfl) ?_
      refine va_get (D := E.1) (ci := 1) (v := .int (N_places vN)) (C := RX1) (T := TX1) (N := 11) hx hb hts hinX1 hown hK.1 hP 9 rfl rfl 0 (by decide) hw1 (fun _ h9 => h9) rfl dX2_run_43 ?_
      refine lv_icmp_ge (tgt := 64) hx hb dX2_run_46 (by decide) (fun c15 => ?_) (fun c15 => ?_)
      · have h := q_pos c15 h
        obtain rfl := q_inj h
        exact kk _ _ _ hP hD hS (lv_sub hl [0, 1, 2] rfl)
      · have h := q_neg c15 h
        refine lv_aload_n hx hb dX2_run_49 rfl (lv_at hl 0 rfl) ?_
        refine lv_aload_n hx hb dX2_run_50 rfl (lv_at hl 1 rfl) ?_
        refine lv_iload hx hb dX2_run_51 (lv_at hl 4 rfl) ?_
        refine lv_iload hx hb dX2_run_53 (lv_at hl 3 rfl) ?_
        obtain ⟨o16, e17, h⟩ := q_bind h
        refine q_cv (va_runV (As := [.ref (aN 0), .int x5, .int x4]) (rest := []) ⟨hx, hb, hml, hown, hts⟩ (wX2_beginAt l E aP aN vP vN x5 x4 o16 e17 _) (cwV 3 hts gX2_run_X2_beginAt rfl rfl rfl (by decide +kernel) ⟨Nat.le_of_ble_eq_true rfl, Nat.le_of_ble_eq_true rfl⟩) (q_preV hK hP hD q_idl 2 0 rfl rfl) rfl rfl hl.1 rfl (lv_room (Nat.le_of_ble_eq_true rfl)) dX2_run_55 ⟨Nat.zero_le _, Nat.zero_le _⟩) hP hD hS hA q_idl q_idr (fun H locs hP hD hS => ?_)
        refine lv_iinc (v := (x5 + 1)) (lv' := [(5, .int (x5 + 1)), (0, .ref (aP 0)), (1, .ref (aN 0)), (3, .int x3), (4, .int x4)]) hx hb dX2_run_58 hl (k := 4) rfl rfl (by decide) rfl (fun ls hl => ?_)
        refine lv_goto (tgt := 40) hx hb dX2_run_61 (by decide) ?_
        exact ih o16 (x5 + 1) _ _ _ hP hD hS (lv_sub hl [1, 2, 3, 4, 0] rfl) _ h kk
  have L8 : ∀ (vP : SP) (vN : SN) (x3 : Int32) (k : Nat) (H : Heap) (locs : List Loc) (ls : Array Slot), va_P E.1 vwCl (WP E aP vP ++ WN E aN vN) H → va_D A (WP E aP vP ++ WN E aN vN) → va_S A s.heap H locs → lv_has ls 6 [(0, .ref (aP 0)), (1, .ref (aN 0)), (3, .int x3)] → ∀ o, lpX2_run_8 vN k x3 vP = some o → (∀ rr, o = Sum.inl rr → ∀ (pc : Nat) (H : Heap) (locs : List Loc) (ls : Array Slot), decode cX2_run pc = .ok (.return_, 1) → va_P E.1 vwCl (WP E aP rr ++ WN E aN vN) H → va_D A (WP E aP rr ++ WN E aN vN) → va_S A s.heap H locs → W pr l e rmX2_run s m args below meth c H locs 0 0 Q (F0 m pc ls [])) → (∀ vv, o = Sum.inr vv → ∀ (H : Heap) (locs : List Loc) (ls : Array Slot), va_P E.1 vwCl (WP E aP vv ++ WN E aN vN) H → va_D A (WP E aP vv ++ WN E aN vN) → va_S A s.heap H locs → lv_has ls 6 [] → W pr l e rmX2_run s m args below meth c H locs 0 0 Q (F0 m 70 ls [])) → W pr l e rmX2_run s m args below meth c H locs 0 0 Q (F0 m 8 ls []) := by
    intro vP vN x3 k
    induction k generalizing x3 vP with
    | zero => intro H locs ls hP hD hS hl o h; cases h
    | succ k ih =>
      intro H locs ls hP hD hS hl o h kr kk
      rw [lpX2_run_8] at h
      refine lv_iload_n hx hb dX2_run_8 rfl (lv_at hl 2 rfl) ?_
      refine lv_sipush (v := 600) hx hb dX2_run_9 (by decide) ?_
      refine lv_icmp_ge (tgt := 70) hx hb dX2_run_12 (by decide) (fun c30 => ?_) (fun c30 => ?_)
      · have h := q_pos c30 h
        obtain rfl := q_inj h
        exact kk _ rfl _ _ _ hP hD hS (lv_sub hl [] rfl)
      · have h := q_neg c30 h
        refine lv_aload_n hx hb dX2_run_15 rfl (lv_at hl 0 rfl) ?_
        refine lv_aload_n hx hb dX2_run_16 rfl (lv_at hl 1 rfl) ?_
        obtain ⟨o31, e32, h⟩ := q_bind h
        refine q_ci (va_runV (As := [.ref (aN 0)]) (rest := []) ⟨hx, hb, hml, hown, hts⟩ (wX2_nextTick l E aP aN vP vN o31 e32 _) (cwV 1 hts gX2_run_X2_nextTick rfl rfl rfl (by decide +kernel) ⟨Nat.le_of_ble_eq_true rfl, Nat.le_of_ble_eq_true rfl⟩) (q_preV hK hP hD q_idl 2 0 rfl rfl) rfl rfl hl.1 rfl (lv_room (Nat.le_of_ble_eq_true rfl)) dX2_run_17 ⟨Nat.zero_le _, Nat.zero_le _⟩) hP hD hS hA q_idl q_idr (fun H locs hP hD hS => ?_)
        refine lv_istore (lv' := [(4, .int o31), (0, .ref (aP 0)), (1, .ref (aN 0)), (3, .int x3)]) hx hb dX2_run_20 hl (by decide) rfl (fun ls hl => ?_)
        refine lv_iload hx hb dX2_run_22 (lv_at hl 0 rfl) ?_
        refine lv_ldc (v := 1000000000) hx hb hown hw0 dX2_run_24 ?_
        refine lv_icmp_ne (tgt := 30) hx hb dX2_run_26 (by decide) (fun c33 => ?_) (fun c33 => ?_)
        · have h := q_neg c33 h
          refine lv_aload_n hx hb dX2_run_30 rfl (lv_at hl 1 rfl) ?_
          refine lv_aload_n hx hb dX2_run_31 rfl (lv_at hl 2 rfl) ?_
          refine lv_iload hx hb dX2_run_32 (lv_at hl 0 rfl) ?_
          obtain ⟨o34, e35, h⟩ := q_bind h
          refine q_cv (va_runV (As := [.ref (aN 0), .int o31]) (rest := []) ⟨hx, hb, hml, hown, hts⟩ (wX2_advance l E aP aN vP vN o31 o34 e35 _) (cwV 2 hts gX2_run_X2_advance rfl rfl rfl (by decide +kernel) ⟨Nat.le_of_ble_eq_true rfl, Nat.le_of_ble_eq_true rfl⟩) (q_preV hK hP hD q_idl 2 0 rfl rfl) rfl rfl hl.1 rfl (lv_room (Nat.le_of_ble_eq_true rfl)) dX2_run_34 ⟨Nat.zero_le _, Nat.zero_le _⟩) hP hD hS hA q_idl q_idr (fun H locs hP hD hS => ?_)
          refine lv_iconst (v := 0) hx hb dX2_run_37 (by decide) ?_
          refine lv_istore (lv' := [(5, .int 0), (4, .int o31), (0, .ref (aP 0)), (1, .ref (aN 0)), (3, .int x3)]) hx hb dX2_run_38 hl (by decide) rfl (fun ls hl => ?_)
          obtain ⟨o36, e37, h⟩ := q_bind h
          refine L40 o34 vN x3 o31 0 qFU _ _ _ hP hD hS (lv_sub hl [2, 3, 4, 1, 0] rfl) o36 e37 (fun H locs ls hP hD hS hl => ?_)
          refine lv_iinc (v := (x3 + 1)) (lv' := [(3, .int (x3 + 1)), (0, .ref (aP 0)), (1, .ref (aN 0))]) hx hb dX2_run_64 hl (k := 2) rfl rfl (by decide) rfl (fun ls hl => ?_)
          refine lv_goto (tgt := 8) hx hb dX2_run_67 (by decide) ?_
          exact ih o36 (x3 + 1) _ _ _ hP hD hS (lv_sub hl [1, 2, 0] rfl) _ h kr kk
        · have h := q_pos c33 h
          obtain rfl := q_inj h
          exact kr _ rfl 29 _ _ _ dX2_run_29 hP hD hS
  unfold mX2_run at h
  refine lv_aload_n hx hb dX2_run_0 rfl (lv_at hl 0 rfl) ?_
  refine lv_aload_n hx hb dX2_run_1 rfl (lv_at hl 1 rfl) ?_
  refine lv_iload_n hx hb dX2_run_2 rfl (lv_at hl 2 rfl) ?_
  obtain ⟨o1, e2, h⟩ := q_bind h
  refine q_cv (va_runV (As := [.ref (aN 0), .int x2]) (rest := []) ⟨hx, hb, hml, hown, hts⟩ (wX2_open l E aP aN vP vN x2 o1 e2 _) (cwV 2 hts gX2_run_X2_open rfl rfl rfl (by decide +kernel) ⟨Nat.le_of_ble_eq_true rfl, Nat.le_of_ble_eq_true rfl⟩) (q_preV hK hP hD q_idl 2 0 rfl rfl) rfl rfl hl.1 rfl (lv_room (Nat.le_of_ble_eq_true rfl)) dX2_run_3 ⟨Nat.zero_le _, Nat.zero_le _⟩) hP hD hS hA q_idl q_idr (fun H locs hP hD hS => ?_)
  refine lv_iconst (v := 0) hx hb dX2_run_6 (by decide) ?_
  refine lv_istore_n (lv' := [(3, .int 0), (0, .ref (aP 0)), (1, .ref (aN 0)), (2, .int x2)]) hx hb dX2_run_7 rfl hl (by decide) rfl (fun ls hl => ?_)
  obtain ⟨o39, e40, h⟩ := q_bind h
  refine L8 o1 vN 0 qFU _ _ _ hP hD hS (lv_sub hl [1, 2, 0] rfl) o39 e40 (fun rr41 e pc H locs ls => by subst e; obtain rfl := q_inj h; exact hRt pc H locs ls) (fun vo39 e H locs ls hP hD hS hl => ?_)
  subst e
  obtain rfl := q_inj h
  exact hRt 70 _ _ _ dX2_run_70 hP hD hS
def lpX2_sumOfTimes_5 (vP : SP) (vN : SN) : Nat → Int64 → Int32 → Option Int64
  | 0, _, _ => none
  | k + 1, x2, x4 => if (N_asks vN) ≤ x4 then (some x2) else ((mX1_lastRow vN x4).bind fun o12 => ck o12 300 (ck x4 60 (lpX2_sumOfTimes_5 vP vN k (x2 + (Int32.toInt64 (((P_done vP) (Int32.toNatClampNeg o12)) - ((N_starts vN) (Int32.toNatClampNeg x4))))) (x4 + 1))))
def mX2_sumOfTimes (vP : SP) (vN : SN)  : Option Int64 := (lpX2_sumOfTimes_5 vP vN qFU 0 0).bind fun o16 => some o16
def rmX2_sumOfTimes : Room := { frames := 2, cells := 0, slots := 0, locals := 42 }
set_option maxHeartbeats 8000000 in
set_option maxRecDepth 100000 in
theorem wX2_sumOfTimes (l : Launch) (E : qE) (aP : Nat → Nat) (aN : Nat → Nat) (vP : SP) (vN : SN)  (o : Int64) (h : mX2_sumOfTimes vP vN = some o) : ML l E yX2_sumOfTimes wsX2_sumOfTimes rmX2_sumOfTimes [.ref (aP 0), .ref (aN 0)] (WP E aP vP ++ WN E aN vN) (WP E aP vP ++ WN E aN vN) o := by
  refine q_startL (cc := cX2_sumOfTimes) (maxL := 5) (by decide) rfl (Nat.le_of_ble_eq_true rfl) ?_
  intro pr e s m args below meth c A Q hx hb hml hown hts hK hRt hP hD hA hS ls hl
  have hl : lv_has ls 5 [(0, .ref (aP 0)), (1, .ref (aN 0))] := hl
  have hinX1 : ∀ w ∈ wsX10, w ∈ wsX2_sumOfTimes := by decide +kernel
  have hinX2 : ∀ w ∈ wsX20, w ∈ wsX2_sumOfTimes := by decide +kernel
  have hw0 := hts (.fieldLink RX2 58 "QueueReader$Net" "asks" "I") (by decide +kernel)
  have hw1 := hts (.fieldLink RX2 18 "QueueReader$Play" "done" "[I") (by decide +kernel)
  have hw2 := hts (.fieldLink RX2 65 "QueueReader$Net" "starts" "[I") (by decide +kernel)
  have L5 : ∀ (vP : SP) (vN : SN) (x2 : Int64) (x4 : Int32) (k : Nat) (H : Heap) (locs : List Loc) (ls : Array Slot), va_P E.1 vwCl (WP E aP vP ++ WN E aN vN) H → va_D A (WP E aP vP ++ WN E aN vN) → va_S A s.heap H locs → lv_has ls 5 [(0, .ref (aP 0)), (1, .ref (aN 0)), (2, .long x2), (4, .int x4)] → ∀ o, lpX2_sumOfTimes_5 vP vN k x2 x4 = some o → (∀ (H : Heap) (locs : List Loc) (ls : Array Slot), va_P E.1 vwCl (WP E aP vP ++ WN E aN vN) H → va_D A (WP E aP vP ++ WN E aN vN) → va_S A s.heap H locs → lv_has ls 5 [(2, .long o)] → W pr l e rmX2_sumOfTimes s m args below meth c H locs 0 0 Q (F0 m 43 ls [])) → W pr l e rmX2_sumOfTimes s m args below meth c H locs 0 0 Q (F0 m 5 ls []) := by
    intro vP vN x2 x4 k
    induction k generalizing x2 x4 with
    | zero => intro H locs ls hP hD hS hl o h; cases h
    | succ k ih =>
      intro H locs ls hP hD hS hl o h kk
      rw [lpX2_sumOfTimes_5] at h
      refine lv_iload hx hb dX2_sumOfTimes_5 (lv_at hl 3 rfl) ?_
      refine lv_aload_n hx hb dX2_sumOfTimes_7 rfl (lv_at hl 1 rfl) ?_
      refine va_get (D := E.1) (ci := 1) (v := .int (N_asks vN)) (C := RX1) (T := TX1) (N := 11) hx hb hts hinX1 hown hK.1 hP 9 rfl rfl 1 (by decide) hw0 (fun _ h9 => h9) rfl dX2_sumOfTimes_8 ?_
      refine lv_icmp_ge (tgt := 43) hx hb dX2_sumOfTimes_11 (by decide) (fun c11 => ?_) (fun c11 => ?_)
      · have h := q_pos c11 h
        obtain rfl := q_inj h
        exact kk _ _ _ hP hD hS (lv_sub hl [2] rfl)
      · have h := q_neg c11 h
        refine lv_lload_n hx hb dX2_sumOfTimes_14 rfl (lv_at hl 2 rfl) ?_
        refine lv_aload_n hx hb dX2_sumOfTimes_15 rfl (lv_at hl 0 rfl) ?_
        refine va_get (D := E.1) (ci := 2) (v := .ref (aP 3)) (C := RX2) (T := TX2) (N := 8) hx hb hts hinX2 hown hK.1 hP 0 rfl rfl 2 (by decide) hw1 (fun _ h9 => h9) rfl dX2_sumOfTimes_16 ?_
        refine lv_aload_n hx hb dX2_sumOfTimes_19 rfl (lv_at hl 1 rfl) ?_
        refine lv_iload hx hb dX2_sumOfTimes_20 (lv_at hl 3 rfl) ?_
        obtain ⟨o12, e13, h⟩ := q_bind h
        refine q_ci (va_runV (As := [.int x4]) (rest := [.ref (aP 3), .long x2]) ⟨hx, hb, hml, hown, hts⟩ (wX1_lastRow l E aN vN x4 o12 e13 _) (cwV 1 hts gX2_sumOfTimes_X1_lastRow rfl rfl rfl (by decide +kernel) ⟨Nat.le_of_ble_eq_true rfl, Nat.le_of_ble_eq_true rfl⟩) (q_preV hK hP hD pm_2_1 1 9 rfl rfl) rfl rfl hl.1 rfl (lv_room (Nat.le_of_ble_eq_true rfl)) dX2_sumOfTimes_22 ⟨Nat.zero_le _, Nat.zero_le _⟩) hP hD hS hA pm_2_1 pm_2_1.symm (fun H locs hP hD hS => ?_)
        obtain ⟨i14, h⟩ := q_ck h
        refine va_iald (f := (P_done vP)) hx hb hK.1 hP 3 0 rfl rfl i14 dX2_sumOfTimes_25 ?_
        refine lv_aload_n hx hb dX2_sumOfTimes_26 rfl (lv_at hl 1 rfl) ?_
        refine va_get (D := E.1) (ci := 1) (v := .ref (aN 5)) (C := RX1) (T := TX1) (N := 11) hx hb hts hinX1 hown hK.1 hP 9 rfl rfl 7 (by decide) hw2 (fun _ h9 => h9) rfl dX2_sumOfTimes_27 ?_
        refine lv_iload hx hb dX2_sumOfTimes_30 (lv_at hl 3 rfl) ?_
        obtain ⟨i15, h⟩ := q_ck h
        refine va_iald (f := (N_starts vN)) hx hb hK.1 hP 14 0 rfl rfl i15 dX2_sumOfTimes_32 ?_
        refine lv_isub hx hb dX2_sumOfTimes_33 ?_
        refine lv_i2l hx hb dX2_sumOfTimes_34 rfl ?_
        refine lv_ladd hx hb dX2_sumOfTimes_35 ?_
        refine lv_lstore_n (lv' := [(2, .long (x2 + (Int32.toInt64 (((P_done vP) (Int32.toNatClampNeg o12)) - ((N_starts vN) (Int32.toNatClampNeg x4)))))), (0, .ref (aP 0)), (1, .ref (aN 0)), (4, .int x4)]) hx hb dX2_sumOfTimes_36 rfl hl (by decide) rfl (fun ls hl => ?_)
        refine lv_iinc (v := (x4 + 1)) (lv' := [(4, .int (x4 + 1)), (2, .long (x2 + (Int32.toInt64 (((P_done vP) (Int32.toNatClampNeg o12)) - ((N_starts vN) (Int32.toNatClampNeg x4)))))), (0, .ref (aP 0)), (1, .ref (aN 0))]) hx hb dX2_sumOfTimes_37 hl (k := 3) rfl rfl (by decide) rfl (fun ls hl => ?_)
        refine lv_goto (tgt := 5) hx hb dX2_sumOfTimes_40 (by decide) ?_
        exact ih (x2 + (Int32.toInt64 (((P_done vP) (Int32.toNatClampNeg o12)) - ((N_starts vN) (Int32.toNatClampNeg x4))))) (x4 + 1) _ _ _ hP hD hS (lv_sub hl [2, 3, 1, 0] rfl) _ h kk
  unfold mX2_sumOfTimes at h
  refine lv_lconst (v := 0) hx hb dX2_sumOfTimes_0 (by decide) ?_
  refine lv_lstore_n (lv' := [(2, .long 0), (0, .ref (aP 0)), (1, .ref (aN 0))]) hx hb dX2_sumOfTimes_1 rfl hl (by decide) rfl (fun ls hl => ?_)
  refine lv_iconst (v := 0) hx hb dX2_sumOfTimes_2 (by decide) ?_
  refine lv_istore (lv' := [(4, .int 0), (2, .long 0), (0, .ref (aP 0)), (1, .ref (aN 0))]) hx hb dX2_sumOfTimes_3 hl (by decide) rfl (fun ls hl => ?_)
  obtain ⟨o16, e17, h⟩ := q_bind h
  refine L5 vP vN 0 0 qFU _ _ _ hP hD hS (lv_sub hl [2, 3, 1, 0] rfl) o16 e17 (fun H locs ls hP hD hS hl => ?_)
  refine lv_lload_n hx hb dX2_sumOfTimes_43 rfl (lv_at hl 0 rfl) ?_
  obtain rfl := q_inj h
  exact hRt 44 _ _ _ dX2_sumOfTimes_44 hP hD hS
def lpX2_end_4 (vP : SP) (vN : SN) : Nat → Int32 → Int32 → Option Int32
  | 0, _, _ => none
  | k + 1, x2, x3 => if (N_asks vN) ≤ x3 then (some x2) else ((mX1_lastRow vN x3).bind fun o10 => ck o10 300 (lpX2_end_4 vP vN k (if x2 < ((P_done vP) (Int32.toNatClampNeg o10)) then ((P_done vP) (Int32.toNatClampNeg o10)) else x2) (x3 + 1)))
def mX2_end (vP : SP) (vN : SN)  : Option Int32 := (lpX2_end_4 vP vN qFU 0 0).bind fun o13 => some o13
def rmX2_end : Room := { frames := 2, cells := 0, slots := 0, locals := 42 }
set_option maxHeartbeats 8000000 in
set_option maxRecDepth 100000 in
theorem wX2_end (l : Launch) (E : qE) (aP : Nat → Nat) (aN : Nat → Nat) (vP : SP) (vN : SN)  (o : Int32) (h : mX2_end vP vN = some o) : MI l E yX2_end wsX2_end rmX2_end [.ref (aP 0), .ref (aN 0)] (WP E aP vP ++ WN E aN vN) (WP E aP vP ++ WN E aN vN) o := by
  refine q_startI (cc := cX2_end) (maxL := 4) (by decide) rfl (Nat.le_of_ble_eq_true rfl) ?_
  intro pr e s m args below meth c A Q hx hb hml hown hts hK hRt hP hD hA hS ls hl
  have hl : lv_has ls 4 [(0, .ref (aP 0)), (1, .ref (aN 0))] := hl
  have hinX1 : ∀ w ∈ wsX10, w ∈ wsX2_end := by decide +kernel
  have hinX2 : ∀ w ∈ wsX20, w ∈ wsX2_end := by decide +kernel
  have hw0 := hts (.fieldLink RX2 58 "QueueReader$Net" "asks" "I") (by decide +kernel)
  have hw1 := hts (.fieldLink RX2 18 "QueueReader$Play" "done" "[I") (by decide +kernel)
  have hw2 := hts (.methodLink RX2 68 Lib.Math.max.name) (by decide +kernel)
  have hw3 := hts (.static Lib.Math.max.name) (by decide +kernel)
  have hw4 := hts (.initialized "java/lang/Math") (by decide +kernel)
  have hw5 := hts (.code Lib.Math.max.name Lib.Math.max.code 2 (some .int)) (by decide +kernel)
  have L4 : ∀ (vP : SP) (vN : SN) (x2 : Int32) (x3 : Int32) (k : Nat) (H : Heap) (locs : List Loc) (ls : Array Slot), va_P E.1 vwCl (WP E aP vP ++ WN E aN vN) H → va_D A (WP E aP vP ++ WN E aN vN) → va_S A s.heap H locs → lv_has ls 4 [(0, .ref (aP 0)), (1, .ref (aN 0)), (2, .int x2), (3, .int x3)] → ∀ o, lpX2_end_4 vP vN k x2 x3 = some o → (∀ (H : Heap) (locs : List Loc) (ls : Array Slot), va_P E.1 vwCl (WP E aP vP ++ WN E aN vN) H → va_D A (WP E aP vP ++ WN E aN vN) → va_S A s.heap H locs → lv_has ls 4 [(2, .int o)] → W pr l e rmX2_end s m args below meth c H locs 0 0 Q (F0 m 33 ls [])) → W pr l e rmX2_end s m args below meth c H locs 0 0 Q (F0 m 4 ls []) := by
    intro vP vN x2 x3 k
    induction k generalizing x2 x3 with
    | zero => intro H locs ls hP hD hS hl o h; cases h
    | succ k ih =>
      intro H locs ls hP hD hS hl o h kk
      rw [lpX2_end_4] at h
      refine lv_iload_n hx hb dX2_end_4 rfl (lv_at hl 3 rfl) ?_
      refine lv_aload_n hx hb dX2_end_5 rfl (lv_at hl 1 rfl) ?_
      refine va_get (D := E.1) (ci := 1) (v := .int (N_asks vN)) (C := RX1) (T := TX1) (N := 11) hx hb hts hinX1 hown hK.1 hP 9 rfl rfl 1 (by decide) hw0 (fun _ h9 => h9) rfl dX2_end_6 ?_
      refine lv_icmp_ge (tgt := 33) hx hb dX2_end_9 (by decide) (fun c9 => ?_) (fun c9 => ?_)
      · have h := q_pos c9 h
        obtain rfl := q_inj h
        exact kk _ _ _ hP hD hS (lv_sub hl [2] rfl)
      · have h := q_neg c9 h
        refine lv_iload_n hx hb dX2_end_12 rfl (lv_at hl 2 rfl) ?_
        refine lv_aload_n hx hb dX2_end_13 rfl (lv_at hl 0 rfl) ?_
        refine va_get (D := E.1) (ci := 2) (v := .ref (aP 3)) (C := RX2) (T := TX2) (N := 8) hx hb hts hinX2 hown hK.1 hP 0 rfl rfl 2 (by decide) hw1 (fun _ h9 => h9) rfl dX2_end_14 ?_
        refine lv_aload_n hx hb dX2_end_17 rfl (lv_at hl 1 rfl) ?_
        refine lv_iload_n hx hb dX2_end_18 rfl (lv_at hl 3 rfl) ?_
        obtain ⟨o10, e11, h⟩ := q_bind h
        refine q_ci (va_runV (As := [.int x3]) (rest := [.ref (aP 3), .int x2]) ⟨hx, hb, hml, hown, hts⟩ (wX1_lastRow l E aN vN x3 o10 e11 _) (cwV 1 hts gX2_end_X1_lastRow rfl rfl rfl (by decide +kernel) ⟨Nat.le_of_ble_eq_true rfl, Nat.le_of_ble_eq_true rfl⟩) (q_preV hK hP hD pm_2_1 1 9 rfl rfl) rfl rfl hl.1 rfl (lv_room (Nat.le_of_ble_eq_true rfl)) dX2_end_19 ⟨Nat.zero_le _, Nat.zero_le _⟩) hP hD hS hA pm_2_1 pm_2_1.symm (fun H locs hP hD hS => ?_)
        obtain ⟨i12, h⟩ := q_ck h
        refine va_iald (f := (P_done vP)) hx hb hK.1 hP 3 0 rfl rfl i12 dX2_end_22 ?_
        refine va_mmax hx hb (hml.trans hl.1.symm) hown hw2 hw3 hw4 hw5 (Nat.le_of_ble_eq_true rfl) (Nat.le_of_ble_eq_true rfl) (Nat.zero_le _) (Nat.zero_le _) dX2_end_23 ?_
        refine lv_istore_n (lv' := [(2, .int (if x2 < ((P_done vP) (Int32.toNatClampNeg o10)) then ((P_done vP) (Int32.toNatClampNeg o10)) else x2)), (0, .ref (aP 0)), (1, .ref (aN 0)), (3, .int x3)]) hx hb dX2_end_26 rfl hl (by decide) rfl (fun ls hl => ?_)
        refine lv_iinc (v := (x3 + 1)) (lv' := [(3, .int (x3 + 1)), (2, .int (if x2 < ((P_done vP) (Int32.toNatClampNeg o10)) then ((P_done vP) (Int32.toNatClampNeg o10)) else x2)), (0, .ref (aP 0)), (1, .ref (aN 0))]) hx hb dX2_end_27 hl (k := 3) rfl rfl (by decide) rfl (fun ls hl => ?_)
        refine lv_goto (tgt := 4) hx hb dX2_end_30 (by decide) ?_
        exact ih (if x2 < ((P_done vP) (Int32.toNatClampNeg o10)) then ((P_done vP) (Int32.toNatClampNeg o10)) else x2) (x3 + 1) _ _ _ hP hD hS (lv_sub hl [2, 3, 1, 0] rfl) _ h kk
  unfold mX2_end at h
  refine lv_iconst (v := 0) hx hb dX2_end_0 (by decide) ?_
  refine lv_istore_n (lv' := [(2, .int 0), (0, .ref (aP 0)), (1, .ref (aN 0))]) hx hb dX2_end_1 rfl hl (by decide) rfl (fun ls hl => ?_)
  refine lv_iconst (v := 0) hx hb dX2_end_2 (by decide) ?_
  refine lv_istore_n (lv' := [(3, .int 0), (2, .int 0), (0, .ref (aP 0)), (1, .ref (aN 0))]) hx hb dX2_end_3 rfl hl (by decide) rfl (fun ls hl => ?_)
  obtain ⟨o13, e14, h⟩ := q_bind h
  refine L4 vP vN 0 0 qFU _ _ _ hP hD hS (lv_sub hl [2, 3, 1, 0] rfl) o13 e14 (fun H locs ls hP hD hS hl => ?_)
  refine lv_iload_n hx hb dX2_end_33 rfl (lv_at hl 0 rfl) ?_
  obtain rfl := q_inj h
  exact hRt 34 _ _ _ dX2_end_34 hP hD hS
