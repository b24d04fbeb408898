def lpX0_gather_13 (vN : SN) (vT : ST) (x3 : Int32) : Nat → Int32 → SF → Option SF
  | 0, _, _ => none
  | k + 1, x4, vF => (mX1_rowsEnd vN).bind fun o45 => if o45 ≤ x4 then (some vF) else (ck x4 300 (if ((N_stepPlaces vN) (Int32.toNatClampNeg x4)) = x3 then ((mX3_cameOf vT vN x4).bind fun o50 => Option.bind (if (F_isWhole vF) = 0 then (some 0) else (if o50 = (-1) then (some 0) else (some 1))) fun z53 => ckz z53 (ck x4 300 (if ((T_isSeen vT) (Int32.toNatClampNeg x4)) = 0 then (lpX0_gather_13 vN vT x3 k (x4 + 1) (F_isWhole_s vF z53)) else (ck (F_size vF) 300 (ck x4 300 (ck (F_size vF) 300 (ck x4 300 (ck (F_size vF) 300 (ck (x4 / 5) 60 (ck (F_size vF) 300 (lpX0_gather_13 vN vT x3 k (x4 + 1) (F_kinds_s (F_done_s (F_begun_s (F_came_s (F_isWhole_s (F_size_s vF ((F_size vF) + 1)) z53) (upd (F_came vF) (Int32.toNatClampNeg (F_size vF)) o50)) (upd (F_begun vF) (Int32.toNatClampNeg (F_size vF)) ((T_begun vT) (Int32.toNatClampNeg x4)))) (upd (F_done vF) (Int32.toNatClampNeg (F_size vF)) ((T_done vT) (Int32.toNatClampNeg x4)))) (upd (F_kinds vF) (Int32.toNatClampNeg (F_size vF)) ((N_kinds vN) (Int32.toNatClampNeg (x4 / 5)))))))))))))))) else (lpX0_gather_13 vN vT x3 k (x4 + 1) vF)))
def mX0_gather (vF : SF) (vN : SN) (vT : ST) (x3 : Int32) : Option SF := (lpX0_gather_13 vN vT x3 qFU 0 (F_isWhole_s (F_size_s vF 0) 1)).bind fun o67 => some o67
def rmX0_gather : Room := { frames := 1, cells := 0, slots := 0, locals := 23 }
set_option maxHeartbeats 8000000 in
set_option maxRecDepth 100000 in
theorem wX0_gather (l : Launch) (E : qE) (aF : Nat → Nat) (aN : Nat → Nat) (aT : Nat → Nat) (vF : SF) (vN : SN) (vT : ST) (x3 : Int32) (o : SF) (h : mX0_gather vF vN vT x3 = some o) : MV l E yX0_gather wsX0_gather rmX0_gather [.ref (aF 0), .ref (aN 0), .ref (aT 0), .int x3] (WF E aF vF ++ (WN E aN vN ++ WT E aT vT)) (WF E aF o ++ (WN E aN vN ++ WT E aT vT)) := by
  refine q_startV (cc := cX0_gather) (maxL := 6) (by decide) rfl (Nat.le_of_ble_eq_true rfl) ?_
  intro pr e s m args below meth c A Q hx hb hml hown hts hK hRt hP hD hA hS ls hl
  have hl : lv_has ls 6 [(0, .ref (aF 0)), (1, .ref (aN 0)), (2, .ref (aT 0)), (3, .int x3)] := hl
  have hinX0 : ∀ w ∈ wsX00, w ∈ wsX0_gather := by decide +kernel
  have hinX1 : ∀ w ∈ wsX10, w ∈ wsX0_gather := by decide +kernel
  have hinX3 : ∀ w ∈ wsX30, w ∈ wsX0_gather := by decide +kernel
  have hw0 := hts (.fieldLink RX0 9 "QueueReader$Fit" "size" "I") (by decide +kernel)
  have hw1 := hts (.fieldLink RX0 15 "QueueReader$Fit" "isWhole" "Z") (by decide +kernel)
  have hw2 := hts (.fieldLink RX0 42 "QueueReader$Net" "stepPlaces" "[I") (by decide +kernel)
  have hw3 := hts (.fieldLink RX0 51 "QueueReader$Tracks" "isSeen" "[Z") (by decide +kernel)
  have hw4 := hts (.fieldLink RX0 19 "QueueReader$Fit" "came" "[I") (by decide +kernel)
  have hw5 := hts (.fieldLink RX0 23 "QueueReader$Fit" "begun" "[I") (by decide +kernel)
  have hw6 := hts (.fieldLink RX0 55 "QueueReader$Tracks" "begun" "[I") (by decide +kernel)
  have hw7 := hts (.fieldLink RX0 26 "QueueReader$Fit" "done" "[I") (by decide +kernel)
  have hw8 := hts (.fieldLink RX0 56 "QueueReader$Tracks" "done" "[I") (by decide +kernel)
  have hw9 := hts (.fieldLink RX0 29 "QueueReader$Fit" "kinds" "[I") (by decide +kernel)
  have hw10 := hts (.fieldLink RX0 57 "QueueReader$Net" "kinds" "[I") (by decide +kernel)
  have L13 : ∀ (vF : SF) (vN : SN) (vT : ST) (x3 : Int32) (x4 : Int32) (k : Nat) (H : Heap) (locs : List Loc) (ls : Array Slot), va_P E.1 vwCl (WF E aF vF ++ (WN E aN vN ++ WT E aT vT)) H → va_D A (WF E aF vF ++ (WN E aN vN ++ WT E aT vT)) → va_S A s.heap H locs → lv_has ls 6 [(0, .ref (aF 0)), (1, .ref (aN 0)), (2, .ref (aT 0)), (3, .int x3), (4, .int x4)] → ∀ o, lpX0_gather_13 vN vT x3 k x4 vF = some o → (∀ (H : Heap) (locs : List Loc) (ls : Array Slot), va_P E.1 vwCl (WF E aF o ++ (WN E aN vN ++ WT E aT vT)) H → va_D A (WF E aF o ++ (WN E aN vN ++ WT E aT vT)) → va_S A s.heap H locs → lv_has ls 6 [] → W pr l e rmX0_gather s m args below meth c H locs 0 0 Q (F0 m 151 ls [])) → W pr l e rmX0_gather s m args below meth c H locs 0 0 Q (F0 m 13 ls []) := by
    intro vF vN vT x3 x4 k
    induction k generalizing x4 vF with
    | zero => intro H locs ls hP hD hS hl o h; cases h
    | succ k ih =>
      intro H locs ls hP hD hS hl o h kk
      rw [lpX0_gather_13] at h
      refine lv_iload hx hb dX0_gather_13 (lv_at hl 4 rfl) ?_
      refine lv_aload_n hx hb dX0_gather_15 rfl (lv_at hl 1 rfl) ?_
      obtain ⟨o45, e46, h⟩ := q_bind h
      refine q_ci (va_runV (As := []) (rest := [.int x4]) ⟨hx, hb, hml, hown, hts⟩ (wX1_rowsEnd l E aN vN o45 e46 _) (cwV 0 hts gX0_gather_X1_rowsEnd rfl rfl rfl (by decide +kernel) ⟨Nat.le_of_ble_eq_true rfl, Nat.le_of_ble_eq_true rfl⟩) (q_preV hK hP hD pm_3_1 1 6 rfl rfl) rfl rfl hl.1 rfl (lv_room (Nat.le_of_ble_eq_true rfl)) dX0_gather_16 ⟨Nat.zero_le _, Nat.zero_le _⟩) hP hD hS hA pm_3_1 pm_3_1.symm (fun H locs hP hD hS => ?_)
      refine lv_icmp_ge (tgt := 151) hx hb dX0_gather_19 (by decide) (fun c47 => ?_) (fun c47 => ?_)
      · have h := q_pos c47 h
        obtain rfl := q_inj h
        exact kk _ _ _ hP hD hS (lv_sub hl [] rfl)
      · have h := q_neg c47 h
        refine lv_aload_n hx hb dX0_gather_22 rfl (lv_at hl 1 rfl) ?_
        refine va_get (D := E.1) (ci := 1) (v := .ref (aN 7)) (C := RX1) (T := TX1) (N := 11) hx hb hts hinX1 hown hK.1 hP 6 rfl rfl 9 (by decide) hw2 (fun _ h9 => h9) rfl dX0_gather_23 ?_
        refine lv_iload hx hb dX0_gather_26 (lv_at hl 4 rfl) ?_
        obtain ⟨i48, h⟩ := q_ck h
        refine va_iald (f := (N_stepPlaces vN)) hx hb hK.1 hP 13 0 rfl rfl i48 dX0_gather_28 ?_
        refine lv_iload_n hx hb dX0_gather_29 rfl (lv_at hl 3 rfl) ?_
        refine lv_icmp_ne (tgt := 145) hx hb dX0_gather_30 (by decide) (fun c49 => ?_) (fun c49 => ?_)
        · have h := q_neg c49 h
          refine lv_iinc (v := (x4 + 1)) (lv' := [(4, .int (x4 + 1)), (0, .ref (aF 0)), (1, .ref (aN 0)), (2, .ref (aT 0)), (3, .int x3)]) hx hb dX0_gather_145 hl (k := 4) rfl rfl (by decide) rfl (fun ls hl => ?_)
          refine lv_goto (tgt := 13) hx hb dX0_gather_148 (by decide) ?_
          exact ih vF (x4 + 1) _ _ _ hP hD hS (lv_sub hl [1, 2, 3, 4, 0] rfl) _ h kk
        · have h := q_pos c49 h
          refine lv_aload_n hx hb dX0_gather_33 rfl (lv_at hl 2 rfl) ?_
          refine lv_aload_n hx hb dX0_gather_34 rfl (lv_at hl 1 rfl) ?_
          refine lv_iload hx hb dX0_gather_35 (lv_at hl 4 rfl) ?_
          obtain ⟨o50, e51, h⟩ := q_bind h
          refine q_ci (va_runV (As := [.ref (aN 0), .int x4]) (rest := []) ⟨hx, hb, hml, hown, hts⟩ (wX3_cameOf l E aT aN vT vN x4 o50 e51 _) (cwV 2 hts gX0_gather_X3_cameOf rfl rfl rfl (by decide +kernel) ⟨Nat.le_of_ble_eq_true rfl, Nat.le_of_ble_eq_true rfl⟩) (q_preV hK hP hD pm_3_21 3 15 rfl rfl) rfl rfl hl.1 rfl (lv_room (Nat.le_of_ble_eq_true rfl)) dX0_gather_37 ⟨Nat.zero_le _, Nat.zero_le _⟩) hP hD hS hA pm_3_21 pm_3_21.symm (fun H locs hP hD hS => ?_)
          refine lv_istore (lv' := [(5, .int o50), (0, .ref (aF 0)), (1, .ref (aN 0)), (2, .ref (aT 0)), (3, .int x3), (4, .int x4)]) hx hb dX0_gather_40 hl (by decide) rfl (fun ls hl => ?_)
          refine lv_aload_n hx hb dX0_gather_42 rfl (lv_at hl 1 rfl) ?_
          refine lv_aload_n hx hb dX0_gather_43 rfl (lv_at hl 1 rfl) ?_
          refine va_get (D := E.1) (ci := 0) (v := .int (F_isWhole vF)) (C := RX0) (T := TX0) (N := 7) hx hb hts hinX0 hown hK.1 hP 0 rfl rfl 1 (by decide) hw1 (fun _ h9 => h9) rfl dX0_gather_44 ?_
          obtain ⟨z53, e54, h⟩ := q_bind h
          have KJ52 : ∀ (H : Heap) (locs : List Loc), va_P E.1 vwCl (WF E aF vF ++ (WN E aN vN ++ WT E aT vT)) H → va_D A (WF E aF vF ++ (WN E aN vN ++ WT E aT vT)) → va_S A s.heap H locs → W pr l e rmX0_gather s m args below meth c H locs 0 0 Q (F0 m 61 ls [.int z53, .ref (aF 0)]) := by
            intro H locs hP hD hS
            obtain ⟨hz55, h⟩ := q_ckf h
            refine va_put (D := E.1) (ci := 0) (v := .int z53) (ty := .boolean) (C := RX0) (T := TX0) (N := 7) hx hb hts hinX0 tyX0 tyX0_ok nmX0 hown hK.1 hP hD hS 0 rfl rfl 1 (by decide) hw1 (fun _ h9 => h9) rfl (by decide +kernel) hz55.1 hz55.2 (Nat.le_of_ble_eq_true rfl) dX0_gather_61 (fun H locs hP hD hS => ?_)
            have hP : va_P E.1 vwCl (WF E aF (F_isWhole_s vF z53) ++ (WN E aN vN ++ WT E aT vT)) H := hP
            have hD : va_D A (WF E aF (F_isWhole_s vF z53) ++ (WN E aN vN ++ WT E aT vT)) := hD
            refine lv_aload_n hx hb dX0_gather_64 rfl (lv_at hl 3 rfl) ?_
            refine va_get (D := E.1) (ci := 3) (v := .ref (aT 1)) (C := RX3) (T := TX3) (N := 3) hx hb hts hinX3 hown hK.1 hP 15 rfl rfl 0 (by decide) hw3 (fun _ h9 => h9) rfl dX0_gather_65 ?_
            refine lv_iload hx hb dX0_gather_68 (lv_at hl 5 rfl) ?_
            obtain ⟨i56, h⟩ := q_ck h
            refine va_zald (f := (T_isSeen vT)) hx hb hK.1 hP 16 2 rfl rfl i56 dX0_gather_70 ?_
            refine lv_if_eq (tgt := 145) hx hb dX0_gather_71 (by decide) (fun c57 => ?_) (fun c57 => ?_)
            · have h := q_pos c57 h
              refine lv_iinc (v := (x4 + 1)) (lv' := [(4, .int (x4 + 1)), (5, .int o50), (0, .ref (aF 0)), (1, .ref (aN 0)), (2, .ref (aT 0)), (3, .int x3)]) hx hb dX0_gather_145 hl (k := 5) rfl rfl (by decide) rfl (fun ls hl => ?_)
              refine lv_goto (tgt := 13) hx hb dX0_gather_148 (by decide) ?_
              exact ih (F_isWhole_s vF z53) (x4 + 1) _ _ _ hP hD hS (lv_sub hl [2, 3, 4, 5, 0] rfl) _ h kk
            · have h := q_neg c57 h
              refine lv_aload_n hx hb dX0_gather_74 rfl (lv_at hl 1 rfl) ?_
              refine va_get (D := E.1) (ci := 0) (v := .ref (aF 1)) (C := RX0) (T := TX0) (N := 7) hx hb hts hinX0 hown hK.1 hP 0 rfl rfl 2 (by decide) hw4 (fun _ h9 => h9) rfl dX0_gather_75 ?_
              refine lv_aload_n hx hb dX0_gather_78 rfl (lv_at hl 1 rfl) ?_
              refine va_get (D := E.1) (ci := 0) (v := .int (F_size vF)) (C := RX0) (T := TX0) (N := 7) hx hb hts hinX0 hown hK.1 hP 0 rfl rfl 0 (by decide) hw0 (fun _ h9 => h9) rfl dX0_gather_79 ?_
              refine lv_iload hx hb dX0_gather_82 (lv_at hl 0 rfl) ?_
              obtain ⟨i58, h⟩ := q_ck h
              refine va_iast (f := (F_came vF)) hx hb hK.1 hP hD hS 1 0 rfl rfl i58 dX0_gather_84 (fun H locs hP hD hS => ?_)
              have hP : va_P E.1 vwCl (WF E aF (F_came_s (F_isWhole_s vF z53) (upd (F_came vF) (Int32.toNatClampNeg (F_size vF)) o50)) ++ (WN E aN vN ++ WT E aT vT)) H := hP
              have hD : va_D A (WF E aF (F_came_s (F_isWhole_s vF z53) (upd (F_came vF) (Int32.toNatClampNeg (F_size vF)) o50)) ++ (WN E aN vN ++ WT E aT vT)) := hD
              refine lv_aload_n hx hb dX0_gather_85 rfl (lv_at hl 1 rfl) ?_
              refine va_get (D := E.1) (ci := 0) (v := .ref (aF 2)) (C := RX0) (T := TX0) (N := 7) hx hb hts hinX0 hown hK.1 hP 0 rfl rfl 3 (by decide) hw5 (fun _ h9 => h9) rfl dX0_gather_86 ?_
              refine lv_aload_n hx hb dX0_gather_89 rfl (lv_at hl 1 rfl) ?_
              refine va_get (D := E.1) (ci := 0) (v := .int (F_size vF)) (C := RX0) (T := TX0) (N := 7) hx hb hts hinX0 hown hK.1 hP 0 rfl rfl 0 (by decide) hw0 (fun _ h9 => h9) rfl dX0_gather_90 ?_
              refine lv_aload_n hx hb dX0_gather_93 rfl (lv_at hl 3 rfl) ?_
              refine va_get (D := E.1) (ci := 3) (v := .ref (aT 2)) (C := RX3) (T := TX3) (N := 3) hx hb hts hinX3 hown hK.1 hP 15 rfl rfl 1 (by decide) hw6 (fun _ h9 => h9) rfl dX0_gather_94 ?_
              refine lv_iload hx hb dX0_gather_97 (lv_at hl 5 rfl) ?_
              obtain ⟨i59, h⟩ := q_ck h
              refine va_iald (f := (T_begun vT)) hx hb hK.1 hP 17 0 rfl rfl i59 dX0_gather_99 ?_
              obtain ⟨i60, h⟩ := q_ck h
              refine va_iast (f := (F_begun vF)) hx hb hK.1 hP hD hS 2 0 rfl rfl i60 dX0_gather_100 (fun H locs hP hD hS => ?_)
              have hP : va_P E.1 vwCl (WF E aF (F_begun_s (F_came_s (F_isWhole_s vF z53) (upd (F_came vF) (Int32.toNatClampNeg (F_size vF)) o50)) (upd (F_begun vF) (Int32.toNatClampNeg (F_size vF)) ((T_begun vT) (Int32.toNatClampNeg x4)))) ++ (WN E aN vN ++ WT E aT vT)) H := hP
              have hD : va_D A (WF E aF (F_begun_s (F_came_s (F_isWhole_s vF z53) (upd (F_came vF) (Int32.toNatClampNeg (F_size vF)) o50)) (upd (F_begun vF) (Int32.toNatClampNeg (F_size vF)) ((T_begun vT) (Int32.toNatClampNeg x4)))) ++ (WN E aN vN ++ WT E aT vT)) := hD
              refine lv_aload_n hx hb dX0_gather_101 rfl (lv_at hl 1 rfl) ?_
              refine va_get (D := E.1) (ci := 0) (v := .ref (aF 3)) (C := RX0) (T := TX0) (N := 7) hx hb hts hinX0 hown hK.1 hP 0 rfl rfl 4 (by decide) hw7 (fun _ h9 => h9) rfl dX0_gather_102 ?_
              refine lv_aload_n hx hb dX0_gather_105 rfl (lv_at hl 1 rfl) ?_
              refine va_get (D := E.1) (ci := 0) (v := .int (F_size vF)) (C := RX0) (T := TX0) (N := 7) hx hb hts hinX0 hown hK.1 hP 0 rfl rfl 0 (by decide) hw0 (fun _ h9 => h9) rfl dX0_gather_106 ?_
              refine lv_aload_n hx hb dX0_gather_109 rfl (lv_at hl 3 rfl) ?_
              refine va_get (D := E.1) (ci := 3) (v := .ref (aT 3)) (C := RX3) (T := TX3) (N := 3) hx hb hts hinX3 hown hK.1 hP 15 rfl rfl 2 (by decide) hw8 (fun _ h9 => h9) rfl dX0_gather_110 ?_
              refine lv_iload hx hb dX0_gather_113 (lv_at hl 5 rfl) ?_
              obtain ⟨i61, h⟩ := q_ck h
              refine va_iald (f := (T_done vT)) hx hb hK.1 hP 18 0 rfl rfl i61 dX0_gather_115 ?_
              obtain ⟨i62, h⟩ := q_ck h
              refine va_iast (f := (F_done vF)) hx hb hK.1 hP hD hS 3 0 rfl rfl i62 dX0_gather_116 (fun H locs hP hD hS => ?_)
              have hP : va_P E.1 vwCl (WF E aF (F_done_s (F_begun_s (F_came_s (F_isWhole_s vF z53) (upd (F_came vF) (Int32.toNatClampNeg (F_size vF)) o50)) (upd (F_begun vF) (Int32.toNatClampNeg (F_size vF)) ((T_begun vT) (Int32.toNatClampNeg x4)))) (upd (F_done vF) (Int32.toNatClampNeg (F_size vF)) ((T_done vT) (Int32.toNatClampNeg x4)))) ++ (WN E aN vN ++ WT E aT vT)) H := hP
              have hD : va_D A (WF E aF (F_done_s (F_begun_s (F_came_s (F_isWhole_s vF z53) (upd (F_came vF) (Int32.toNatClampNeg (F_size vF)) o50)) (upd (F_begun vF) (Int32.toNatClampNeg (F_size vF)) ((T_begun vT) (Int32.toNatClampNeg x4)))) (upd (F_done vF) (Int32.toNatClampNeg (F_size vF)) ((T_done vT) (Int32.toNatClampNeg x4)))) ++ (WN E aN vN ++ WT E aT vT)) := hD
              refine lv_aload_n hx hb dX0_gather_117 rfl (lv_at hl 1 rfl) ?_
              refine va_get (D := E.1) (ci := 0) (v := .ref (aF 4)) (C := RX0) (T := TX0) (N := 7) hx hb hts hinX0 hown hK.1 hP 0 rfl rfl 5 (by decide) hw9 (fun _ h9 => h9) rfl dX0_gather_118 ?_
              refine lv_aload_n hx hb dX0_gather_121 rfl (lv_at hl 1 rfl) ?_
              refine va_get (D := E.1) (ci := 0) (v := .int (F_size vF)) (C := RX0) (T := TX0) (N := 7) hx hb hts hinX0 hown hK.1 hP 0 rfl rfl 0 (by decide) hw0 (fun _ h9 => h9) rfl dX0_gather_122 ?_
              refine lv_aload_n hx hb dX0_gather_125 rfl (lv_at hl 2 rfl) ?_
              refine va_get (D := E.1) (ci := 1) (v := .ref (aN 4)) (C := RX1) (T := TX1) (N := 11) hx hb hts hinX1 hown hK.1 hP 6 rfl rfl 6 (by decide) hw10 (fun _ h9 => h9) rfl dX0_gather_126 ?_
              refine lv_iload hx hb dX0_gather_129 (lv_at hl 5 rfl) ?_
              refine lv_iconst (v := 5) hx hb dX0_gather_131 (by decide) ?_
              refine lv_idiv hx hb dX0_gather_132 (by decide) ?_
              obtain ⟨i63, h⟩ := q_ck h
              refine va_iald (f := (N_kinds vN)) hx hb hK.1 hP 10 0 rfl rfl i63 dX0_gather_133 ?_
              obtain ⟨i64, h⟩ := q_ck h
              refine va_iast (f := (F_kinds vF)) hx hb hK.1 hP hD hS 4 0 rfl rfl i64 dX0_gather_134 (fun H locs hP hD hS => ?_)
              have hP : va_P E.1 vwCl (WF E aF (F_kinds_s (F_done_s (F_begun_s (F_came_s (F_isWhole_s vF z53) (upd (F_came vF) (Int32.toNatClampNeg (F_size vF)) o50)) (upd (F_begun vF) (Int32.toNatClampNeg (F_size vF)) ((T_begun vT) (Int32.toNatClampNeg x4)))) (upd (F_done vF) (Int32.toNatClampNeg (F_size vF)) ((T_done vT) (Int32.toNatClampNeg x4)))) (upd (F_kinds vF) (Int32.toNatClampNeg (F_size vF)) ((N_kinds vN) (Int32.toNatClampNeg (x4 / 5))))) ++ (WN E aN vN ++ WT E aT vT)) H := hP
              have hD : va_D A (WF E aF (F_kinds_s (F_done_s (F_begun_s (F_came_s (F_isWhole_s vF z53) (upd (F_came vF) (Int32.toNatClampNeg (F_size vF)) o50)) (upd (F_begun vF) (Int32.toNatClampNeg (F_size vF)) ((T_begun vT) (Int32.toNatClampNeg x4)))) (upd (F_done vF) (Int32.toNatClampNeg (F_size vF)) ((T_done vT) (Int32.toNatClampNeg x4)))) (upd (F_kinds vF) (Int32.toNatClampNeg (F_size vF)) ((N_kinds vN) (Int32.toNatClampNeg (x4 / 5))))) ++ (WN E aN vN ++ WT E aT vT)) := hD
              refine lv_aload_n hx hb dX0_gather_135 rfl (lv_at hl 1 rfl) ?_
              refine lv_dup hx hb dX0_gather_136 rfl ?_
              refine va_get (D := E.1) (ci := 0) (v := .int (F_size vF)) (C := RX0) (T := TX0) (N := 7) hx hb hts hinX0 hown hK.1 hP 0 rfl rfl 0 (by decide) hw0 (fun _ h9 => h9) rfl dX0_gather_137 ?_
              refine lv_iconst (v := 1) hx hb dX0_gather_140 (by decide) ?_
              refine lv_iadd hx hb dX0_gather_141 ?_
              refine va_put (D := E.1) (ci := 0) (v := .int ((F_size vF) + 1)) (ty := .int) (C := RX0) (T := TX0) (N := 7) hx hb hts hinX0 tyX0 tyX0_ok nmX0 hown hK.1 hP hD hS 0 rfl rfl 0 (by decide) hw0 (fun _ h9 => h9) rfl (by decide +kernel) rfl rfl (Nat.le_of_ble_eq_true rfl) dX0_gather_142 (fun H locs hP hD hS => ?_)
              have hP : va_P E.1 vwCl (WF E aF (F_kinds_s (F_done_s (F_begun_s (F_came_s (F_isWhole_s (F_size_s vF ((F_size vF) + 1)) z53) (upd (F_came vF) (Int32.toNatClampNeg (F_size vF)) o50)) (upd (F_begun vF) (Int32.toNatClampNeg (F_size vF)) ((T_begun vT) (Int32.toNatClampNeg x4)))) (upd (F_done vF) (Int32.toNatClampNeg (F_size vF)) ((T_done vT) (Int32.toNatClampNeg x4)))) (upd (F_kinds vF) (Int32.toNatClampNeg (F_size vF)) ((N_kinds vN) (Int32.toNatClampNeg (x4 / 5))))) ++ (WN E aN vN ++ WT E aT vT)) H := hP
              have hD : va_D A (WF E aF (F_kinds_s (F_done_s (F_begun_s (F_came_s (F_isWhole_s (F_size_s vF ((F_size vF) + 1)) z53) (upd (F_came vF) (Int32.toNatClampNeg (F_size vF)) o50)) (upd (F_begun vF) (Int32.toNatClampNeg (F_size vF)) ((T_begun vT) (Int32.toNatClampNeg x4)))) (upd (F_done vF) (Int32.toNatClampNeg (F_size vF)) ((T_done vT) (Int32.toNatClampNeg x4)))) (upd (F_kinds vF) (Int32.toNatClampNeg (F_size vF)) ((N_kinds vN) (Int32.toNatClampNeg (x4 / 5))))) ++ (WN E aN vN ++ WT E aT vT)) := hD
              refine lv_iinc (v := (x4 + 1)) (lv' := [(4, .int (x4 + 1)), (5, .int o50), (0, .ref (aF 0)), (1, .ref (aN 0)), (2, .ref (aT 0)), (3, .int x3)]) hx hb dX0_gather_145 hl (k := 5) rfl rfl (by decide) rfl (fun ls hl => ?_)
              refine lv_goto (tgt := 13) hx hb dX0_gather_148 (by decide) ?_
              exact ih (F_kinds_s (F_done_s (F_begun_s (F_came_s (F_isWhole_s (F_size_s vF ((F_size vF) + 1)) z53) (upd (F_came vF) (Int32.toNatClampNeg (F_size vF)) o50)) (upd (F_begun vF) (Int32.toNatClampNeg (F_size vF)) ((T_begun vT) (Int32.toNatClampNeg x4)))) (upd (F_done vF) (Int32.toNatClampNeg (F_size vF)) ((T_done vT) (Int32.toNatClampNeg x4)))) (upd (F_kinds vF) (Int32.toNatClampNeg (F_size vF)) ((N_kinds vN) (Int32.toNatClampNeg (x4 / 5))))) (x4 + 1) _ _ _ hP hD hS (lv_sub hl [2, 3, 4, 5, 0] rfl) _ h kk
          have h := e54
          refine lv_if_eq (tgt := 60) hx hb dX0_gather_47 (by decide) (fun c65 => ?_) (fun c65 => ?_)
          · have h := q_pos c65 h
            refine lv_iconst (v := 0) hx hb dX0_gather_60 (by decide) ?_
            obtain rfl := q_inj h
            exact KJ52 _ _ hP hD hS
          · have h := q_neg c65 h
            refine lv_iload hx hb dX0_gather_50 (lv_at hl 0 rfl) ?_
            refine lv_iconst (v := (-1)) hx hb dX0_gather_52 (by decide) ?_
            refine lv_icmp_eq (tgt := 60) hx hb dX0_gather_53 (by decide) (fun c66 => ?_) (fun c66 => ?_)
            · have h := q_pos c66 h
              refine lv_iconst (v := 0) hx hb dX0_gather_60 (by decide) ?_
              obtain rfl := q_inj h
              exact KJ52 _ _ hP hD hS
            · have h := q_neg c66 h
              refine lv_iconst (v := 1) hx hb dX0_gather_56 (by decide) ?_
              refine lv_goto (tgt := 61) hx hb dX0_gather_57 (by decide) ?_
              obtain rfl := q_inj h
              exact KJ52 _ _ hP hD hS
  unfold mX0_gather at h
  refine lv_aload_n hx hb dX0_gather_0 rfl (lv_at hl 0 rfl) ?_
  refine lv_iconst (v := 0) hx hb dX0_gather_1 (by decide) ?_
  refine va_put (D := E.1) (ci := 0) (v := .int 0) (ty := .int) (C := RX0) (T := TX0) (N := 7) hx hb hts hinX0 tyX0 tyX0_ok nmX0 hown hK.1 hP hD hS 0 rfl rfl 0 (by decide) hw0 (fun _ h9 => h9) rfl (by decide +kernel) rfl rfl (Nat.le_of_ble_eq_true rfl) dX0_gather_2 (fun H locs hP hD hS => ?_)
  have hP : va_P E.1 vwCl (WF E aF (F_size_s vF 0) ++ (WN E aN vN ++ WT E aT vT)) H := hP
  have hD : va_D A (WF E aF (F_size_s vF 0) ++ (WN E aN vN ++ WT E aT vT)) := hD
  refine lv_aload_n hx hb dX0_gather_5 rfl (lv_at hl 0 rfl) ?_
  refine lv_iconst (v := 1) hx hb dX0_gather_6 (by decide) ?_
  refine va_put (D := E.1) (ci := 0) (v := .int 1) (ty := .boolean) (C := RX0) (T := TX0) (N := 7) hx hb hts hinX0 tyX0 tyX0_ok nmX0 hown hK.1 hP hD hS 0 rfl rfl 1 (by decide) hw1 (fun _ h9 => h9) rfl (by decide +kernel) rfl rfl (Nat.le_of_ble_eq_true rfl) dX0_gather_7 (fun H locs hP hD hS => ?_)
  have hP : va_P E.1 vwCl (WF E aF (F_isWhole_s (F_size_s vF 0) 1) ++ (WN E aN vN ++ WT E aT vT)) H := hP
  have hD : va_D A (WF E aF (F_isWhole_s (F_size_s vF 0) 1) ++ (WN E aN vN ++ WT E aT vT)) := hD
  refine lv_iconst (v := 0) hx hb dX0_gather_10 (by decide) ?_
  refine lv_istore (lv' := [(4, .int 0), (0, .ref (aF 0)), (1, .ref (aN 0)), (2, .ref (aT 0)), (3, .int x3)]) hx hb dX0_gather_11 hl (by decide) rfl (fun ls hl => ?_)
  obtain ⟨o67, e68, h⟩ := q_bind h
  refine L13 (F_isWhole_s (F_size_s vF 0) 1) vN vT x3 0 qFU _ _ _ hP hD hS (lv_sub hl [1, 2, 3, 4, 0] rfl) o67 e68 (fun H locs ls hP hD hS hl => ?_)
  obtain rfl := q_inj h
  exact hRt 151 _ _ _ dX0_gather_151 hP hD hS
def lpX0_helpedAt_4 (vF : SF) (x1 : Int32) : Nat → Int32 → Int32 → Option Int32
  | 0, _, _ => none
  | k + 1, x2, x3 => if (F_size vF) ≤ x3 then (some x2) else (ck x3 300 (if x1 < ((F_begun vF) (Int32.toNatClampNeg x3)) then (lpX0_helpedAt_4 vF x1 k x2 (x3 + 1)) else (ck x3 300 (if ((F_done vF) (Int32.toNatClampNeg x3)) ≤ x1 then (lpX0_helpedAt_4 vF x1 k x2 (x3 + 1)) else (lpX0_helpedAt_4 vF x1 k (x2 + 1) (x3 + 1))))))
def mX0_helpedAt (vF : SF) (x1 : Int32) : Option Int32 := (lpX0_helpedAt_4 vF x1 qFU 0 0).bind fun o16 => some o16
def rmX0_helpedAt : Room := { frames := 0, cells := 0, slots := 0, locals := 0 }
set_option maxHeartbeats 8000000 in
set_option maxRecDepth 100000 in
theorem wX0_helpedAt (l : Launch) (E : qE) (aF : Nat → Nat) (vF : SF) (x1 : Int32) (o : Int32) (h : mX0_helpedAt vF x1 = some o) : MI l E yX0_helpedAt wsX0_helpedAt rmX0_helpedAt [.ref (aF 0), .int x1] (WF E aF vF) (WF E aF vF) o := by
  refine q_startI (cc := cX0_helpedAt) (maxL := 4) (by decide) rfl (Nat.le_of_ble_eq_true rfl) ?_
  intro pr e s m args below meth c A Q hx hb hml hown hts hK hRt hP hD hA hS ls hl
  have hl : lv_has ls 4 [(0, .ref (aF 0)), (1, .int x1)] := hl
  have hinX0 : ∀ w ∈ wsX00, w ∈ wsX0_helpedAt := by decide +kernel
  have hw0 := hts (.fieldLink RX0 9 "QueueReader$Fit" "size" "I") (by decide +kernel)
  have hw1 := hts (.fieldLink RX0 23 "QueueReader$Fit" "begun" "[I") (by decide +kernel)
  have hw2 := hts (.fieldLink RX0 26 "QueueReader$Fit" "done" "[I") (by decide +kernel)
  have L4 : ∀ (vF : SF) (x1 : Int32) (x2 : Int32) (x3 : Int32) (k : Nat) (H : Heap) (locs : List Loc) (ls : Array Slot), va_P E.1 vwCl (WF E aF vF) H → va_D A (WF E aF vF) → va_S A s.heap H locs → lv_has ls 4 [(0, .ref (aF 0)), (1, .int x1), (2, .int x2), (3, .int x3)] → ∀ o, lpX0_helpedAt_4 vF x1 k x2 x3 = some o → (∀ (H : Heap) (locs : List Loc) (ls : Array Slot), va_P E.1 vwCl (WF E aF vF) H → va_D A (WF E aF vF) → va_S A s.heap H locs → lv_has ls 4 [(2, .int o)] → W pr l e rmX0_helpedAt s m args below meth c H locs 0 0 Q (F0 m 41 ls [])) → W pr l e rmX0_helpedAt s m args below meth c H locs 0 0 Q (F0 m 4 ls []) := by
    intro vF x1 x2 x3 k
    induction k generalizing x2 x3 with
    | zero => intro H locs ls hP hD hS hl o h; cases h
    | succ k ih =>
      intro H locs ls hP hD hS hl o h kk
      rw [lpX0_helpedAt_4] at h
      refine lv_iload_n hx hb dX0_helpedAt_4 rfl (lv_at hl 3 rfl) ?_
      refine lv_aload_n hx hb dX0_helpedAt_5 rfl (lv_at hl 0 rfl) ?_
      refine va_get (D := E.1) (ci := 0) (v := .int (F_size vF)) (C := RX0) (T := TX0) (N := 7) hx hb hts hinX0 hown hK.1 hP 0 rfl rfl 0 (by decide) hw0 (fun _ h9 => h9) rfl dX0_helpedAt_6 ?_
      refine lv_icmp_ge (tgt := 41) hx hb dX0_helpedAt_9 (by decide) (fun c11 => ?_) (fun c11 => ?_)
      · have h := q_pos c11 h
        obtain rfl := q_inj h
        exact kk _ _ _ hP hD hS (lv_sub hl [2] rfl)
      · have h := q_neg c11 h
        refine lv_aload_n hx hb dX0_helpedAt_12 rfl (lv_at hl 0 rfl) ?_
        refine va_get (D := E.1) (ci := 0) (v := .ref (aF 2)) (C := RX0) (T := TX0) (N := 7) hx hb hts hinX0 hown hK.1 hP 0 rfl rfl 3 (by decide) hw1 (fun _ h9 => h9) rfl dX0_helpedAt_13 ?_
        refine lv_iload_n hx hb dX0_helpedAt_16 rfl (lv_at hl 3 rfl) ?_
        obtain ⟨i12, h⟩ := q_ck h
        refine va_iald (f := (F_begun vF)) hx hb hK.1 hP 2 0 rfl rfl i12 dX0_helpedAt_17 ?_
        refine lv_iload_n hx hb dX0_helpedAt_18 rfl (lv_at hl 1 rfl) ?_
        refine lv_icmp_gt (tgt := 35) hx hb dX0_helpedAt_19 (by decide) (fun c13 => ?_) (fun c13 => ?_)
        · have h := q_pos c13 h
          refine lv_iinc (v := (x3 + 1)) (lv' := [(3, .int (x3 + 1)), (0, .ref (aF 0)), (1, .int x1), (2, .int x2)]) hx hb dX0_helpedAt_35 hl (k := 3) rfl rfl (by decide) rfl (fun ls hl => ?_)
          refine lv_goto (tgt := 4) hx hb dX0_helpedAt_38 (by decide) ?_
          exact ih x2 (x3 + 1) _ _ _ hP hD hS (lv_sub hl [1, 2, 3, 0] rfl) _ h kk
        · have h := q_neg c13 h
          refine lv_aload_n hx hb dX0_helpedAt_22 rfl (lv_at hl 0 rfl) ?_
          refine va_get (D := E.1) (ci := 0) (v := .ref (aF 3)) (C := RX0) (T := TX0) (N := 7) hx hb hts hinX0 hown hK.1 hP 0 rfl rfl 4 (by decide) hw2 (fun _ h9 => h9) rfl dX0_helpedAt_23 ?_
          refine lv_iload_n hx hb dX0_helpedAt_26 rfl (lv_at hl 3 rfl) ?_
          obtain ⟨i14, h⟩ := q_ck h
          refine va_iald (f := (F_done vF)) hx hb hK.1 hP 3 0 rfl rfl i14 dX0_helpedAt_27 ?_
          refine lv_iload_n hx hb dX0_helpedAt_28 rfl (lv_at hl 1 rfl) ?_
          refine lv_icmp_le (tgt := 35) hx hb dX0_helpedAt_29 (by decide) (fun c15 => ?_) (fun c15 => ?_)
          · have h := q_pos c15 h
            refine lv_iinc (v := (x3 + 1)) (lv' := [(3, .int (x3 + 1)), (0, .ref (aF 0)), (1, .int x1), (2, .int x2)]) hx hb dX0_helpedAt_35 hl (k := 3) rfl rfl (by decide) rfl (fun ls hl => ?_)
            refine lv_goto (tgt := 4) hx hb dX0_helpedAt_38 (by decide) ?_
            exact ih x2 (x3 + 1) _ _ _ hP hD hS (lv_sub hl [1, 2, 3, 0] rfl) _ h kk
          · have h := q_neg c15 h
            refine lv_iinc (v := (x2 + 1)) (lv' := [(2, .int (x2 + 1)), (0, .ref (aF 0)), (1, .int x1), (3, .int x3)]) hx hb dX0_helpedAt_32 hl (k := 2) rfl rfl (by decide) rfl (fun ls hl => ?_)
            refine lv_iinc (v := (x3 + 1)) (lv' := [(3, .int (x3 + 1)), (2, .int (x2 + 1)), (0, .ref (aF 0)), (1, .int x1)]) hx hb dX0_helpedAt_35 hl (k := 3) rfl rfl (by decide) rfl (fun ls hl => ?_)
            refine lv_goto (tgt := 4) hx hb dX0_helpedAt_38 (by decide) ?_
            exact ih (x2 + 1) (x3 + 1) _ _ _ hP hD hS (lv_sub hl [2, 3, 1, 0] rfl) _ h kk
  unfold mX0_helpedAt at h
  refine lv_iconst (v := 0) hx hb dX0_helpedAt_0 (by decide) ?_
  refine lv_istore_n (lv' := [(2, .int 0), (0, .ref (aF 0)), (1, .int x1)]) hx hb dX0_helpedAt_1 rfl hl (by decide) rfl (fun ls hl => ?_)
  refine lv_iconst (v := 0) hx hb dX0_helpedAt_2 (by decide) ?_
  refine lv_istore_n (lv' := [(3, .int 0), (2, .int 0), (0, .ref (aF 0)), (1, .int x1)]) hx hb dX0_helpedAt_3 rfl hl (by decide) rfl (fun ls hl => ?_)
  obtain ⟨o16, e17, h⟩ := q_bind h
  refine L4 vF x1 0 0 qFU _ _ _ hP hD hS (lv_sub hl [2, 3, 1, 0] rfl) o16 e17 (fun H locs ls hP hD hS hl => ?_)
  refine lv_iload_n hx hb dX0_helpedAt_41 rfl (lv_at hl 0 rfl) ?_
  obtain rfl := q_inj h
  exact hRt 42 _ _ _ dX0_helpedAt_42 hP hD hS
def lpX0_mostAtOnce_4 (vF : SF) : Nat → Int32 → Int32 → Option Int32
  | 0, _, _ => none
  | k + 1, x1, x2 => if (F_size vF) ≤ x2 then (some x1) else (ck x2 300 ((mX0_helpedAt vF ((F_begun vF) (Int32.toNatClampNeg x2))).bind fun o11 => lpX0_mostAtOnce_4 vF k (if x1 < o11 then o11 else x1) (x2 + 1)))
def mX0_mostAtOnce (vF : SF)  : Option Int32 := (lpX0_mostAtOnce_4 vF qFU 0 0).bind fun o13 => some o13
def rmX0_mostAtOnce : Room := { frames := 1, cells := 0, slots := 0, locals := 23 }
set_option maxHeartbeats 8000000 in
set_option maxRecDepth 100000 in
theorem wX0_mostAtOnce (l : Launch) (E : qE) (aF : Nat → Nat) (vF : SF)  (o : Int32) (h : mX0_mostAtOnce vF = some o) : MI l E yX0_mostAtOnce wsX0_mostAtOnce rmX0_mostAtOnce [.ref (aF 0)] (WF E aF vF) (WF E aF vF) o := by
  refine q_startI (cc := cX0_mostAtOnce) (maxL := 3) (by decide) rfl (Nat.le_of_ble_eq_true rfl) ?_
  intro pr e s m args below meth c A Q hx hb hml hown hts hK hRt hP hD hA hS ls hl
  have hl : lv_has ls 3 [(0, .ref (aF 0))] := hl
  have hinX0 : ∀ w ∈ wsX00, w ∈ wsX0_mostAtOnce := by decide +kernel
  have hw0 := hts (.fieldLink RX0 9 "QueueReader$Fit" "size" "I") (by decide +kernel)
  have hw1 := hts (.fieldLink RX0 23 "QueueReader$Fit" "begun" "[I") (by decide +kernel)
  have hw2 := hts (.methodLink RX0 62 Lib.Math.max.name) (by decide +kernel)
  have hw3 := hts (.static Lib.Math.max.name) (by decide +kernel)
  have hw4 := hts (.initialized "java/lang/Math") (by decide +kernel)
  have hw5 := hts (.code Lib.Math.max.name Lib.Math.max.code 2 (some .int)) (by decide +kernel)
  have L4 : ∀ (vF : SF) (x1 : Int32) (x2 : Int32) (k : Nat) (H : Heap) (locs : List Loc) (ls : Array Slot), va_P E.1 vwCl (WF E aF vF) H → va_D A (WF E aF vF) → va_S A s.heap H locs → lv_has ls 3 [(0, .ref (aF 0)), (1, .int x1), (2, .int x2)] → ∀ o, lpX0_mostAtOnce_4 vF k x1 x2 = some o → (∀ (H : Heap) (locs : List Loc) (ls : Array Slot), va_P E.1 vwCl (WF E aF vF) H → va_D A (WF E aF vF) → va_S A s.heap H locs → lv_has ls 3 [(1, .int o)] → W pr l e rmX0_mostAtOnce s m args below meth c H locs 0 0 Q (F0 m 33 ls [])) → W pr l e rmX0_mostAtOnce s m args below meth c H locs 0 0 Q (F0 m 4 ls []) := by
    intro vF x1 x2 k
    induction k generalizing x1 x2 with
    | zero => intro H locs ls hP hD hS hl o h; cases h
    | succ k ih =>
      intro H locs ls hP hD hS hl o h kk
      rw [lpX0_mostAtOnce_4] at h
      refine lv_iload_n hx hb dX0_mostAtOnce_4 rfl (lv_at hl 2 rfl) ?_
      refine lv_aload_n hx hb dX0_mostAtOnce_5 rfl (lv_at hl 0 rfl) ?_
      refine va_get (D := E.1) (ci := 0) (v := .int (F_size vF)) (C := RX0) (T := TX0) (N := 7) hx hb hts hinX0 hown hK.1 hP 0 rfl rfl 0 (by decide) hw0 (fun _ h9 => h9) rfl dX0_mostAtOnce_6 ?_
      refine lv_icmp_ge (tgt := 33) hx hb dX0_mostAtOnce_9 (by decide) (fun c9 => ?_) (fun c9 => ?_)
      · have h := q_pos c9 h
        obtain rfl := q_inj h
        exact kk _ _ _ hP hD hS (lv_sub hl [1] rfl)
      · have h := q_neg c9 h
        refine lv_iload_n hx hb dX0_mostAtOnce_12 rfl (lv_at hl 1 rfl) ?_
        refine lv_aload_n hx hb dX0_mostAtOnce_13 rfl (lv_at hl 0 rfl) ?_
        refine lv_aload_n hx hb dX0_mostAtOnce_14 rfl (lv_at hl 0 rfl) ?_
        refine va_get (D := E.1) (ci := 0) (v := .ref (aF 2)) (C := RX0) (T := TX0) (N := 7) hx hb hts hinX0 hown hK.1 hP 0 rfl rfl 3 (by decide) hw1 (fun _ h9 => h9) rfl dX0_mostAtOnce_15 ?_
        refine lv_iload_n hx hb dX0_mostAtOnce_18 rfl (lv_at hl 2 rfl) ?_
        obtain ⟨i10, h⟩ := q_ck h
        refine va_iald (f := (F_begun vF)) hx hb hK.1 hP 2 0 rfl rfl i10 dX0_mostAtOnce_19 ?_
        obtain ⟨o11, e12, h⟩ := q_bind h
        refine q_ci (va_runV (As := [.int ((F_begun vF) (Int32.toNatClampNeg x2))]) (rest := [.int x1]) ⟨hx, hb, hml, hown, hts⟩ (wX0_helpedAt l E aF vF ((F_begun vF) (Int32.toNatClampNeg x2)) o11 e12 _) (cwV 1 hts gX0_mostAtOnce_X0_helpedAt rfl rfl rfl (by decide +kernel) ⟨Nat.le_of_ble_eq_true rfl, Nat.le_of_ble_eq_true rfl⟩) (q_preV hK hP hD q_idl 0 0 rfl rfl) rfl rfl hl.1 rfl (lv_room (Nat.le_of_ble_eq_true rfl)) dX0_mostAtOnce_20 ⟨Nat.zero_le _, Nat.zero_le _⟩) hP hD hS hA q_idl q_idr (fun H locs hP hD hS => ?_)
        refine va_mmax hx hb (hml.trans hl.1.symm) hown hw2 hw3 hw4 hw5 (Nat.le_of_ble_eq_true rfl) (Nat.le_of_ble_eq_true rfl) (Nat.zero_le _) (Nat.zero_le _) dX0_mostAtOnce_23 ?_
        refine lv_istore_n (lv' := [(1, .int (if x1 < o11 then o11 else x1)), (0, .ref (aF 0)), (2, .int x2)]) hx hb dX0_mostAtOnce_26 rfl hl (by decide) rfl (fun ls hl => ?_)
        refine lv_iinc (v := (x2 + 1)) (lv' := [(2, .int (x2 + 1)), (1, .int (if x1 < o11 then o11 else x1)), (0, .ref (aF 0))]) hx hb dX0_mostAtOnce_27 hl (k := 2) rfl rfl (by decide) rfl (fun ls hl => ?_)
        refine lv_goto (tgt := 4) hx hb dX0_mostAtOnce_30 (by decide) ?_
        exact ih (if x1 < o11 then o11 else x1) (x2 + 1) _ _ _ hP hD hS (lv_sub hl [2, 1, 0] rfl) _ h kk
  unfold mX0_mostAtOnce at h
  refine lv_iconst (v := 0) hx hb dX0_mostAtOnce_0 (by decide) ?_
  refine lv_istore_n (lv' := [(1, .int 0), (0, .ref (aF 0))]) hx hb dX0_mostAtOnce_1 rfl hl (by decide) rfl (fun ls hl => ?_)
  refine lv_iconst (v := 0) hx hb dX0_mostAtOnce_2 (by decide) ?_
  refine lv_istore_n (lv' := [(2, .int 0), (1, .int 0), (0, .ref (aF 0))]) hx hb dX0_mostAtOnce_3 rfl hl (by decide) rfl (fun ls hl => ?_)
  obtain ⟨o13, e14, h⟩ := q_bind h
  refine L4 vF 0 0 qFU _ _ _ hP hD hS (lv_sub hl [2, 1, 0] rfl) o13 e14 (fun H locs ls hP hD hS hl => ?_)
  refine lv_iload_n hx hb dX0_mostAtOnce_33 rfl (lv_at hl 0 rfl) ?_
  obtain rfl := q_inj h
  exact hRt 34 _ _ _ dX0_mostAtOnce_34 hP hD hS
def mX0_isLeftAt (vF : SF) (x1 : Int32) (x2 : Int32) : Option Int32 := ck x1 300 (if x2 < ((F_came vF) (Int32.toNatClampNeg x1)) then (some 0) else (ck x1 300 (if ((F_begun vF) (Int32.toNatClampNeg x1)) ≤ x2 then (some 0) else (some 1))))
def rmX0_isLeftAt : Room := { frames := 0, cells := 0, slots := 0, locals := 0 }
set_option maxHeartbeats 8000000 in
set_option maxRecDepth 100000 in
theorem wX0_isLeftAt (l : Launch) (E : qE) (aF : Nat → Nat) (vF : SF) (x1 : Int32) (x2 : Int32) (o : Int32) (h : mX0_isLeftAt vF x1 x2 = some o) : MI l E yX0_isLeftAt wsX0_isLeftAt rmX0_isLeftAt [.ref (aF 0), .int x1, .int x2] (WF E aF vF) (WF E aF vF) o := by
  refine q_startZ (cc := cX0_isLeftAt) (maxL := 3) (by decide) rfl (Nat.le_of_ble_eq_true rfl) ?_
  intro pr e s m args below meth c A Q hx hb hml hown hts hK hRt hP hD hA hS ls hl
  have hl : lv_has ls 3 [(0, .ref (aF 0)), (1, .int x1), (2, .int x2)] := hl
  have hinX0 : ∀ w ∈ wsX00, w ∈ wsX0_isLeftAt := by decide +kernel
  have hw0 := hts (.fieldLink RX0 19 "QueueReader$Fit" "came" "[I") (by decide +kernel)
  have hw1 := hts (.fieldLink RX0 23 "QueueReader$Fit" "begun" "[I") (by decide +kernel)
  unfold mX0_isLeftAt at h
  refine lv_aload_n hx hb dX0_isLeftAt_0 rfl (lv_at hl 0 rfl) ?_
  refine va_get (D := E.1) (ci := 0) (v := .ref (aF 1)) (C := RX0) (T := TX0) (N := 7) hx hb hts hinX0 hown hK.1 hP 0 rfl rfl 2 (by decide) hw0 (fun _ h9 => h9) rfl dX0_isLeftAt_1 ?_
  refine lv_iload_n hx hb dX0_isLeftAt_4 rfl (lv_at hl 1 rfl) ?_
  obtain ⟨i1, h⟩ := q_ck h
  refine va_iald (f := (F_came vF)) hx hb hK.1 hP 1 0 rfl rfl i1 dX0_isLeftAt_5 ?_
  refine lv_iload_n hx hb dX0_isLeftAt_6 rfl (lv_at hl 2 rfl) ?_
  refine lv_icmp_gt (tgt := 24) hx hb dX0_isLeftAt_7 (by decide) (fun c2 => ?_) (fun c2 => ?_)
  · have h := q_pos c2 h
    refine lv_iconst (v := 0) hx hb dX0_isLeftAt_24 (by decide) ?_
    obtain rfl := q_inj h
    exact hRt 25 _ _ _ dX0_isLeftAt_25 q_n0 hP hD hS
  · have h := q_neg c2 h
    refine lv_aload_n hx hb dX0_isLeftAt_10 rfl (lv_at hl 0 rfl) ?_
    refine va_get (D := E.1) (ci := 0) (v := .ref (aF 2)) (C := RX0) (T := TX0) (N := 7) hx hb hts hinX0 hown hK.1 hP 0 rfl rfl 3 (by decide) hw1 (fun _ h9 => h9) rfl dX0_isLeftAt_11 ?_
    refine lv_iload_n hx hb dX0_isLeftAt_14 rfl (lv_at hl 1 rfl) ?_
    obtain ⟨i3, h⟩ := q_ck h
    refine va_iald (f := (F_begun vF)) hx hb hK.1 hP 2 0 rfl rfl i3 dX0_isLeftAt_15 ?_
    refine lv_iload_n hx hb dX0_isLeftAt_16 rfl (lv_at hl 2 rfl) ?_
    refine lv_icmp_le (tgt := 24) hx hb dX0_isLeftAt_17 (by decide) (fun c4 => ?_) (fun c4 => ?_)
    · have h := q_pos c4 h
      refine lv_iconst (v := 0) hx hb dX0_isLeftAt_24 (by decide) ?_
      obtain rfl := q_inj h
      exact hRt 25 _ _ _ dX0_isLeftAt_25 q_n0 hP hD hS
    · have h := q_neg c4 h
      refine lv_iconst (v := 1) hx hb dX0_isLeftAt_20 (by decide) ?_
      refine lv_goto (tgt := 25) hx hb dX0_isLeftAt_21 (by decide) ?_
      obtain rfl := q_inj h
      exact hRt 25 _ _ _ dX0_isLeftAt_25 q_n1 hP hD hS
def lpX0_isIdleAt_2 (vF : SF) (x1 : Int32) (x2 : Int32) : Nat → Int32 → Option (Sum (Int32) (Unit))
  | 0, _ => none
  | k + 1, x3 => if (F_size vF) ≤ x3 then (some (Sum.inr ())) else ((mX0_isLeftAt vF x3 x1).bind fun o16 => if o16 = 0 then (lpX0_isIdleAt_2 vF x1 x2 k (x3 + 1)) else ((mX0_helpedAt vF x1).bind fun o19 => if x2 ≤ o19 then (some (Sum.inl 0)) else (some (Sum.inl 1))))
def mX0_isIdleAt (vF : SF) (x1 : Int32) (x2 : Int32) : Option Int32 := (lpX0_isIdleAt_2 vF x1 x2 qFU 0).bind fun o22 => qS o22 (fun z => z) fun vo22 => some 0
def rmX0_isIdleAt : Room := { frames := 1, cells := 0, slots := 0, locals := 23 }
set_option maxHeartbeats 8000000 in
set_option maxRecDepth 100000 in
theorem wX0_isIdleAt (l : Launch) (E : qE) (aF : Nat → Nat) (vF : SF) (x1 : Int32) (x2 : Int32) (o : Int32) (h : mX0_isIdleAt vF x1 x2 = some o) : MI l E yX0_isIdleAt wsX0_isIdleAt rmX0_isIdleAt [.ref (aF 0), .int x1, .int x2] (WF E aF vF) (WF E aF vF) o := by
  refine q_startZ (cc := cX0_isIdleAt) (maxL := 4) (by decide) rfl (Nat.le_of_ble_eq_true rfl) ?_
  intro pr e s m args below meth c A Q hx hb hml hown hts hK hRt hP hD hA hS ls hl
  have hl : lv_has ls 4 [(0, .ref (aF 0)), (1, .int x1), (2, .int x2)] := hl
  have hinX0 : ∀ w ∈ wsX00, w ∈ wsX0_isIdleAt := by decide +kernel
  have hw0 := hts (.fieldLink RX0 9 "QueueReader$Fit" "size" "I") (by decide +kernel)
  have L2 : ∀ (vF : SF) (x1 : Int32) (x2 : Int32) (x3 : Int32) (k : Nat) (H : Heap) (locs : List Loc) (ls : Array Slot), va_P E.1 vwCl (WF E aF vF) H → va_D A (WF E aF vF) → va_S A s.heap H locs → lv_has ls 4 [(0, .ref (aF 0)), (1, .int x1), (2, .int x2), (3, .int x3)] → ∀ o, lpX0_isIdleAt_2 vF x1 x2 k x3 = some o → (∀ rr, o = Sum.inl rr → ∀ (pc : Nat) (H : Heap) (locs : List Loc) (ls : Array Slot), decode cX0_isIdleAt pc = .ok (.ireturn, 1) → narrow .boolean (.int rr) = .int rr → va_P E.1 vwCl (WF E aF vF) H → va_D A (WF E aF vF) → va_S A s.heap H locs → W pr l e rmX0_isIdleAt s m args below meth c H locs 0 0 Q (F0 m pc ls [.int rr])) → (∀ vv, o = Sum.inr vv → ∀ (H : Heap) (locs : List Loc) (ls : Array Slot), va_P E.1 vwCl (WF E aF vF) H → va_D A (WF E aF vF) → va_S A s.heap H locs → lv_has ls 4 [] → W pr l e rmX0_isIdleAt s m args below meth c H locs 0 0 Q (F0 m 40 ls [])) → W pr l e rmX0_isIdleAt s m args below meth c H locs 0 0 Q (F0 m 2 ls []) := by
    intro vF x1 x2 x3 k
    induction k generalizing x3 with
    | zero => intro H locs ls hP hD hS hl o h; cases h
    | succ k ih =>
      intro H locs ls hP hD hS hl o h kr kk
      rw [lpX0_isIdleAt_2] at h
      refine lv_iload_n hx hb dX0_isIdleAt_2 rfl (lv_at hl 3 rfl) ?_
      refine lv_aload_n hx hb dX0_isIdleAt_3 rfl (lv_at hl 0 rfl) ?_
      refine va_get (D := E.1) (ci := 0) (v := .int (F_size vF)) (C := RX0) (T := TX0) (N := 7) hx hb hts hinX0 hown hK.1 hP 0 rfl rfl 0 (by decide) hw0 (fun _ h9 => h9) rfl dX0_isIdleAt_4 ?_
      refine lv_icmp_ge (tgt := 40) hx hb dX0_isIdleAt_7 (by decide) (fun c15 => ?_) (fun c15 => ?_)
      · have h := q_pos c15 h
        obtain rfl := q_inj h
        exact kk _ rfl _ _ _ hP hD hS (lv_sub hl [] rfl)
      · have h := q_neg c15 h
        refine lv_aload_n hx hb dX0_isIdleAt_10 rfl (lv_at hl 0 rfl) ?_
        refine lv_iload_n hx hb dX0_isIdleAt_11 rfl (lv_at hl 3 rfl) ?_
        refine lv_iload_n hx hb dX0_isIdleAt_12 rfl (lv_at hl 1 rfl) ?_
        obtain ⟨o16, e17, h⟩ := q_bind h
        refine q_ci (va_runV (As := [.int x3, .int x1]) (rest := []) ⟨hx, hb, hml, hown, hts⟩ (wX0_isLeftAt l E aF vF x3 x1 o16 e17 _) (cwV 2 hts gX0_isIdleAt_X0_isLeftAt rfl rfl rfl (by decide +kernel) ⟨Nat.le_of_ble_eq_true rfl, Nat.le_of_ble_eq_true rfl⟩) (q_preV hK hP hD q_idl 0 0 rfl rfl) rfl rfl hl.1 rfl (lv_room (Nat.le_of_ble_eq_true rfl)) dX0_isIdleAt_13 ⟨Nat.zero_le _, Nat.zero_le _⟩) hP hD hS hA q_idl q_idr (fun H locs hP hD hS => ?_)
        refine lv_if_eq (tgt := 34) hx hb dX0_isIdleAt_16 (by decide) (fun c18 => ?_) (fun c18 => ?_)
        · have h := q_pos c18 h
          refine lv_iinc (v := (x3 + 1)) (lv' := [(3, .int (x3 + 1)), (0, .ref (aF 0)), (1, .int x1), (2, .int x2)]) hx hb dX0_isIdleAt_34 hl (k := 3) rfl rfl (by decide) rfl (fun ls hl => ?_)
          refine lv_goto (tgt := 2) hx hb dX0_isIdleAt_37 (by decide) ?_
          exact ih (x3 + 1) _ _ _ hP hD hS (lv_sub hl [1, 2, 3, 0] rfl) _ h kr kk
        · have h := q_neg c18 h
          refine lv_aload_n hx hb dX0_isIdleAt_19 rfl (lv_at hl 0 rfl) ?_
          refine lv_iload_n hx hb dX0_isIdleAt_20 rfl (lv_at hl 1 rfl) ?_
          obtain ⟨o19, e20, h⟩ := q_bind h
          refine q_ci (va_runV (As := [.int x1]) (rest := []) ⟨hx, hb, hml, hown, hts⟩ (wX0_helpedAt l E aF vF x1 o19 e20 _) (cwV 1 hts gX0_isIdleAt_X0_helpedAt rfl rfl rfl (by decide +kernel) ⟨Nat.le_of_ble_eq_true rfl, Nat.le_of_ble_eq_true rfl⟩) (q_preV hK hP hD q_idl 0 0 rfl rfl) rfl rfl hl.1 rfl (lv_room (Nat.le_of_ble_eq_true rfl)) dX0_isIdleAt_21 ⟨Nat.zero_le _, Nat.zero_le _⟩) hP hD hS hA q_idl q_idr (fun H locs hP hD hS => ?_)
          refine lv_iload_n hx hb dX0_isIdleAt_24 rfl (lv_at hl 2 rfl) ?_
          refine lv_icmp_ge (tgt := 32) hx hb dX0_isIdleAt_25 (by decide) (fun c21 => ?_) (fun c21 => ?_)
          · have h := q_pos c21 h
            refine lv_iconst (v := 0) hx hb dX0_isIdleAt_32 (by decide) ?_
            obtain rfl := q_inj h
            exact kr _ rfl 33 _ _ _ dX0_isIdleAt_33 q_n0 hP hD hS
          · have h := q_neg c21 h
            refine lv_iconst (v := 1) hx hb dX0_isIdleAt_28 (by decide) ?_
            refine lv_goto (tgt := 33) hx hb dX0_isIdleAt_29 (by decide) ?_
            obtain rfl := q_inj h
            exact kr _ rfl 33 _ _ _ dX0_isIdleAt_33 q_n1 hP hD hS
  unfold mX0_isIdleAt at h
  refine lv_iconst (v := 0) hx hb dX0_isIdleAt_0 (by decide) ?_
  refine lv_istore_n (lv' := [(3, .int 0), (0, .ref (aF 0)), (1, .int x1), (2, .int x2)]) hx hb dX0_isIdleAt_1 rfl hl (by decide) rfl (fun ls hl => ?_)
  obtain ⟨o22, e23, h⟩ := q_bind h
  refine L2 vF x1 x2 0 qFU _ _ _ hP hD hS (lv_sub hl [1, 2, 3, 0] rfl) o22 e23 (fun rr24 e pc H locs ls => by subst e; obtain rfl := q_inj h; exact hRt pc H locs ls) (fun vo22 e H locs ls hP hD hS hl => ?_)
  subst e
  refine lv_iconst (v := 0) hx hb dX0_isIdleAt_40 (by decide) ?_
  obtain rfl := q_inj h
  exact hRt 41 _ _ _ dX0_isIdleAt_41 q_n0 hP hD hS
def lpX0_isPossible_10 (vF : SF) (x1 : Int32) : Nat → Int32 → Option (Sum (Int32) (Unit))
  | 0, _ => none
  | k + 1, x2 => if (F_size vF) ≤ x2 then (some (Sum.inr ())) else (ck x2 300 (ck x2 300 (if ((F_begun vF) (Int32.toNatClampNeg x2)) < ((F_came vF) (Int32.toNatClampNeg x2)) then (some (Sum.inl 0)) else (ck x2 300 ((mX0_isIdleAt vF ((F_came vF) (Int32.toNatClampNeg x2)) x1).bind fun o31 => if o31 = 0 then (ck x2 300 ((mX0_isIdleAt vF ((F_done vF) (Int32.toNatClampNeg x2)) x1).bind fun o35 => if o35 = 0 then (lpX0_isPossible_10 vF x1 k (x2 + 1)) else (some (Sum.inl 0)))) else (some (Sum.inl 0)))))))
def mX0_isPossible (vF : SF) (x1 : Int32) : Option Int32 := if x1 ≤ 8 then ((lpX0_isPossible_10 vF x1 qFU 0).bind fun o38 => qS o38 (fun z => z) fun vo38 => some 1) else (some 0)
def rmX0_isPossible : Room := { frames := 2, cells := 0, slots := 0, locals := 46 }
set_option maxHeartbeats 8000000 in
set_option maxRecDepth 100000 in
theorem wX0_isPossible (l : Launch) (E : qE) (aF : Nat → Nat) (vF : SF) (x1 : Int32) (o : Int32) (h : mX0_isPossible vF x1 = some o) : MI l E yX0_isPossible wsX0_isPossible rmX0_isPossible [.ref (aF 0), .int x1] (WF E aF vF) (WF E aF vF) o := by
  refine q_startZ (cc := cX0_isPossible) (maxL := 3) (by decide) rfl (Nat.le_of_ble_eq_true rfl) ?_
  intro pr e s m args below meth c A Q hx hb hml hown hts hK hRt hP hD hA hS ls hl
  have hl : lv_has ls 3 [(0, .ref (aF 0)), (1, .int x1)] := hl
  have hinX0 : ∀ w ∈ wsX00, w ∈ wsX0_isPossible := by decide +kernel
  have hw0 := hts (.fieldLink RX0 9 "QueueReader$Fit" "size" "I") (by decide +kernel)
  have hw1 := hts (.fieldLink RX0 23 "QueueReader$Fit" "begun" "[I") (by decide +kernel)
  have hw2 := hts (.fieldLink RX0 19 "QueueReader$Fit" "came" "[I") (by decide +kernel)
  have hw3 := hts (.fieldLink RX0 26 "QueueReader$Fit" "done" "[I") (by decide +kernel)
  have L10 : ∀ (vF : SF) (x1 : Int32) (x2 : Int32) (k : Nat) (H : Heap) (locs : List Loc) (ls : Array Slot), va_P E.1 vwCl (WF E aF vF) H → va_D A (WF E aF vF) → va_S A s.heap H locs → lv_has ls 3 [(0, .ref (aF 0)), (1, .int x1), (2, .int x2)] → ∀ o, lpX0_isPossible_10 vF x1 k x2 = some o → (∀ rr, o = Sum.inl rr → ∀ (pc : Nat) (H : Heap) (locs : List Loc) (ls : Array Slot), decode cX0_isPossible pc = .ok (.ireturn, 1) → narrow .boolean (.int rr) = .int rr → va_P E.1 vwCl (WF E aF vF) H → va_D A (WF E aF vF) → va_S A s.heap H locs → W pr l e rmX0_isPossible s m args below meth c H locs 0 0 Q (F0 m pc ls [.int rr])) → (∀ vv, o = Sum.inr vv → ∀ (H : Heap) (locs : List Loc) (ls : Array Slot), va_P E.1 vwCl (WF E aF vF) H → va_D A (WF E aF vF) → va_S A s.heap H locs → lv_has ls 3 [] → W pr l e rmX0_isPossible s m args below meth c H locs 0 0 Q (F0 m 69 ls [])) → W pr l e rmX0_isPossible s m args below meth c H locs 0 0 Q (F0 m 10 ls []) := by
    intro vF x1 x2 k
    induction k generalizing x2 with
    | zero => intro H locs ls hP hD hS hl o h; cases h
    | succ k ih =>
      intro H locs ls hP hD hS hl o h kr kk
      rw [lpX0_isPossible_10] at h
      refine lv_iload_n hx hb dX0_isPossible_10 rfl (lv_at hl 2 rfl) ?_
      refine lv_aload_n hx hb dX0_isPossible_11 rfl (lv_at hl 0 rfl) ?_
      refine va_get (D := E.1) (ci := 0) (v := .int (F_size vF)) (C := RX0) (T := TX0) (N := 7) hx hb hts hinX0 hown hK.1 hP 0 rfl rfl 0 (by decide) hw0 (fun _ h9 => h9) rfl dX0_isPossible_12 ?_
      refine lv_icmp_ge (tgt := 69) hx hb dX0_isPossible_15 (by decide) (fun c26 => ?_) (fun c26 => ?_)
      · have h := q_pos c26 h
        obtain rfl := q_inj h
        exact kk _ rfl _ _ _ hP hD hS (lv_sub hl [] rfl)
      · have h := q_neg c26 h
        refine lv_aload_n hx hb dX0_isPossible_18 rfl (lv_at hl 0 rfl) ?_
        refine va_get (D := E.1) (ci := 0) (v := .ref (aF 2)) (C := RX0) (T := TX0) (N := 7) hx hb hts hinX0 hown hK.1 hP 0 rfl rfl 3 (by decide) hw1 (fun _ h9 => h9) rfl dX0_isPossible_19 ?_
        refine lv_iload_n hx hb dX0_isPossible_22 rfl (lv_at hl 2 rfl) ?_
        obtain ⟨i27, h⟩ := q_ck h
        refine va_iald (f := (F_begun vF)) hx hb hK.1 hP 2 0 rfl rfl i27 dX0_isPossible_23 ?_
        refine lv_aload_n hx hb dX0_isPossible_24 rfl (lv_at hl 0 rfl) ?_
        refine va_get (D := E.1) (ci := 0) (v := .ref (aF 1)) (C := RX0) (T := TX0) (N := 7) hx hb hts hinX0 hown hK.1 hP 0 rfl rfl 2 (by decide) hw2 (fun _ h9 => h9) rfl dX0_isPossible_25 ?_
        refine lv_iload_n hx hb dX0_isPossible_28 rfl (lv_at hl 2 rfl) ?_
        obtain ⟨i28, h⟩ := q_ck h
        refine va_iald (f := (F_came vF)) hx hb hK.1 hP 1 0 rfl rfl i28 dX0_isPossible_29 ?_
        refine lv_icmp_lt (tgt := 61) hx hb dX0_isPossible_30 (by decide) (fun c29 => ?_) (fun c29 => ?_)
        · have h := q_pos c29 h
          refine lv_iconst (v := 0) hx hb dX0_isPossible_61 (by decide) ?_
          obtain rfl := q_inj h
          exact kr _ rfl 62 _ _ _ dX0_isPossible_62 q_n0 hP hD hS
        · have h := q_neg c29 h
          refine lv_aload_n hx hb dX0_isPossible_33 rfl (lv_at hl 0 rfl) ?_
          refine lv_aload_n hx hb dX0_isPossible_34 rfl (lv_at hl 0 rfl) ?_
          refine va_get (D := E.1) (ci := 0) (v := .ref (aF 1)) (C := RX0) (T := TX0) (N := 7) hx hb hts hinX0 hown hK.1 hP 0 rfl rfl 2 (by decide) hw2 (fun _ h9 => h9) rfl dX0_isPossible_35 ?_
          refine lv_iload_n hx hb dX0_isPossible_38 rfl (lv_at hl 2 rfl) ?_
          obtain ⟨i30, h⟩ := q_ck h
          refine va_iald (f := (F_came vF)) hx hb hK.1 hP 1 0 rfl rfl i30 dX0_isPossible_39 ?_
          refine lv_iload_n hx hb dX0_isPossible_40 rfl (lv_at hl 1 rfl) ?_
          obtain ⟨o31, e32, h⟩ := q_bind h
          refine q_ci (va_runV (As := [.int ((F_came vF) (Int32.toNatClampNeg x2)), .int x1]) (rest := []) ⟨hx, hb, hml, hown, hts⟩ (wX0_isIdleAt l E aF vF ((F_came vF) (Int32.toNatClampNeg x2)) x1 o31 e32 _) (cwV 2 hts gX0_isPossible_X0_isIdleAt rfl rfl rfl (by decide +kernel) ⟨Nat.le_of_ble_eq_true rfl, Nat.le_of_ble_eq_true rfl⟩) (q_preV hK hP hD q_idl 0 0 rfl rfl) rfl rfl hl.1 rfl (lv_room (Nat.le_of_ble_eq_true rfl)) dX0_isPossible_41 ⟨Nat.zero_le _, Nat.zero_le _⟩) hP hD hS hA q_idl q_idr (fun H locs hP hD hS => ?_)
          refine lv_if_ne (tgt := 61) hx hb dX0_isPossible_44 (by decide) (fun c33 => ?_) (fun c33 => ?_)
          · have h := q_neg c33 h
            refine lv_iconst (v := 0) hx hb dX0_isPossible_61 (by decide) ?_
            obtain rfl := q_inj h
            exact kr _ rfl 62 _ _ _ dX0_isPossible_62 q_n0 hP hD hS
          · have h := q_pos c33 h
            refine lv_aload_n hx hb dX0_isPossible_47 rfl (lv_at hl 0 rfl) ?_
            refine lv_aload_n hx hb dX0_isPossible_48 rfl (lv_at hl 0 rfl) ?_
            refine va_get (D := E.1) (ci := 0) (v := .ref (aF 3)) (C := RX0) (T := TX0) (N := 7) hx hb hts hinX0 hown hK.1 hP 0 rfl rfl 4 (by decide) hw3 (fun _ h9 => h9) rfl dX0_isPossible_49 ?_
            refine lv_iload_n hx hb dX0_isPossible_52 rfl (lv_at hl 2 rfl) ?_
            obtain ⟨i34, h⟩ := q_ck h
            refine va_iald (f := (F_done vF)) hx hb hK.1 hP 3 0 rfl rfl i34 dX0_isPossible_53 ?_
            refine lv_iload_n hx hb dX0_isPossible_54 rfl (lv_at hl 1 rfl) ?_
            obtain ⟨o35, e36, h⟩ := q_bind h
            refine q_ci (va_runV (As := [.int ((F_done vF) (Int32.toNatClampNeg x2)), .int x1]) (rest := []) ⟨hx, hb, hml, hown, hts⟩ (wX0_isIdleAt l E aF vF ((F_done vF) (Int32.toNatClampNeg x2)) x1 o35 e36 _) (cwV 2 hts gX0_isPossible_X0_isIdleAt rfl rfl rfl (by decide +kernel) ⟨Nat.le_of_ble_eq_true rfl, Nat.le_of_ble_eq_true rfl⟩) (q_preV hK hP hD q_idl 0 0 rfl rfl) rfl rfl hl.1 rfl (lv_room (Nat.le_of_ble_eq_true rfl)) dX0_isPossible_55 ⟨Nat.zero_le _, Nat.zero_le _⟩) hP hD hS hA q_idl q_idr (fun H locs hP hD hS => ?_)
            refine lv_if_eq (tgt := 63) hx hb dX0_isPossible_58 (by decide) (fun c37 => ?_) (fun c37 => ?_)
            · have h := q_pos c37 h
              refine lv_iinc (v := (x2 + 1)) (lv' := [(2, .int (x2 + 1)), (0, .ref (aF 0)), (1, .int x1)]) hx hb dX0_isPossible_63 hl (k := 2) rfl rfl (by decide) rfl (fun ls hl => ?_)
              refine lv_goto (tgt := 10) hx hb dX0_isPossible_66 (by decide) ?_
              exact ih (x2 + 1) _ _ _ hP hD hS (lv_sub hl [1, 2, 0] rfl) _ h kr kk
            · have h := q_neg c37 h
              refine lv_iconst (v := 0) hx hb dX0_isPossible_61 (by decide) ?_
              obtain rfl := q_inj h
              exact kr _ rfl 62 _ _ _ dX0_isPossible_62 q_n0 hP hD hS
  unfold mX0_isPossible at h
  refine lv_iload_n hx hb dX0_isPossible_0 rfl (lv_at hl 1 rfl) ?_
  refine lv_bipush (v := 8) hx hb dX0_isPossible_1 (by decide) ?_
  refine lv_icmp_le (tgt := 8) hx hb dX0_isPossible_3 (by decide) (fun c1 => ?_) (fun c1 => ?_)
  · have h := q_pos c1 h
    refine lv_iconst (v := 0) hx hb dX0_isPossible_8 (by decide) ?_
    refine lv_istore_n (lv' := [(2, .int 0), (0, .ref (aF 0)), (1, .int x1)]) hx hb dX0_isPossible_9 rfl hl (by decide) rfl (fun ls hl => ?_)
    obtain ⟨o38, e39, h⟩ := q_bind h
    refine L10 vF x1 0 qFU _ _ _ hP hD hS (lv_sub hl [1, 2, 0] rfl) o38 e39 (fun rr40 e pc H locs ls => by subst e; obtain rfl := q_inj h; exact hRt pc H locs ls) (fun vo38 e H locs ls hP hD hS hl => ?_)
    subst e
    refine lv_iconst (v := 1) hx hb dX0_isPossible_69 (by decide) ?_
    obtain rfl := q_inj h
    exact hRt 70 _ _ _ dX0_isPossible_70 q_n1 hP hD hS
  · have h := q_neg c1 h
    refine lv_iconst (v := 0) hx hb dX0_isPossible_6 (by decide) ?_
    obtain rfl := q_inj h
    exact hRt 7 _ _ _ dX0_isPossible_7 q_n0 hP hD hS
