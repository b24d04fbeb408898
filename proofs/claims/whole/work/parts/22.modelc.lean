def mX5_played (vM : SM) (x1 : Int32) (x2 : Int32) (x3 : Int32) : Option (Int32 × SM) := (mX5_noStep (M_thrown_s vM 0) x1 x2).bind fun o1 => (mX5_throwsIf (M_thrown_s vM 0) o1 1).bind fun o3 => if o3.1 = 0 then ((mX5_in x3 0 2).bind fun o6 => Option.bind (if o6 = 0 then (some 1) else (some 0)) fun z9 => (mX5_throwsIf o3.2 z9 2).bind fun o11 => if o11.1 = 0 then ((mX5_plays o11.2 (-1)).bind fun o14 => if x3 = 0 then (ck ((5 * x1) + x2) 300 (some (((M_came o14.2) (Int32.toNatClampNeg ((5 * x1) + x2))), o14.2))) else (if x3 = 1 then (ck ((5 * x1) + x2) 300 (some (((M_begun o14.2) (Int32.toNatClampNeg ((5 * x1) + x2))), o14.2))) else (ck ((5 * x1) + x2) 300 (some (((M_done o14.2) (Int32.toNatClampNeg ((5 * x1) + x2))), o14.2))))) else (some (0, o11.2))) else (some (0, o3.2))
def rmX5_played : Room := { frames := 4, cells := 0, slots := 0, locals := 97 }
set_option maxHeartbeats 8000000 in
set_option maxRecDepth 100000 in
theorem wX5_played (l : Launch) (E : qE) (aM : Nat → Nat) (vM : SM) (x1 : Int32) (x2 : Int32) (x3 : Int32) (o : Int32 × SM) (h : mX5_played vM x1 x2 x3 = some o) : MI l E yX5_played wsX5_played rmX5_played [.ref (aM 0), .int x1, .int x2, .int x3] (WM E aM vM) (WM E aM o.2) o.1 := by
  refine q_startI (cc := cX5_played) (maxL := 6) (by decide) rfl (Nat.le_of_ble_eq_true rfl) ?_
  intro pr e s m args below meth c A Q hx hb hml hown hts hK hRt hP hD hA hS ls hl
  have hl : lv_has ls 6 [(0, .ref (aM 0)), (1, .int x1), (2, .int x2), (3, .int x3)] := hl
  have hinX5 : ∀ w ∈ wsX50, w ∈ wsX5_played := by decide +kernel
  have hw0 := hts (.fieldLink RX5 59 "QueueReaderModel" "thrown" "I") (by decide +kernel)
  have hw1 := hts (.fieldLink RX5 50 "QueueReaderModel" "done" "[I") (by decide +kernel)
  have hw2 := hts (.fieldLink RX5 47 "QueueReaderModel" "begun" "[I") (by decide +kernel)
  have hw3 := hts (.fieldLink RX5 44 "QueueReaderModel" "came" "[I") (by decide +kernel)
  unfold mX5_played at h
  refine lv_aload_n hx hb dX5_played_0 rfl (lv_at hl 0 rfl) ?_
  refine lv_iconst (v := 0) hx hb dX5_played_1 (by decide) ?_
  refine va_put (D := E.1) (ci := 5) (v := .int 0) (ty := .int) (C := RX5) (T := TX5) (N := 19) hx hb hts hinX5 tyX5 tyX5_ok nmX5 hown hK.1 hP hD hS 0 rfl rfl 0 (by decide) hw0 (fun _ h9 => h9) rfl (by decide +kernel) rfl rfl (Nat.le_of_ble_eq_true rfl) dX5_played_2 (fun H locs hP hD hS => ?_)
  have hP : va_P E.1 vwCl (WM E aM (M_thrown_s vM 0)) H := hP
  have hD : va_D A (WM E aM (M_thrown_s vM 0)) := hD
  refine lv_aload_n hx hb dX5_played_5 rfl (lv_at hl 0 rfl) ?_
  refine lv_aload_n hx hb dX5_played_6 rfl (lv_at hl 0 rfl) ?_
  refine lv_iload_n hx hb dX5_played_7 rfl (lv_at hl 1 rfl) ?_
  refine lv_iload_n hx hb dX5_played_8 rfl (lv_at hl 2 rfl) ?_
  obtain ⟨o1, e2, h⟩ := q_bind h
  refine q_ci (va_runV (As := [.int x1, .int x2]) (rest := [.ref (aM 0)]) ⟨hx, hb, hml, hown, hts⟩ (wX5_noStep l E aM (M_thrown_s vM 0) x1 x2 o1 e2 _) (cwV 2 hts gX5_played_X5_noStep rfl rfl rfl (by decide +kernel) ⟨Nat.le_of_ble_eq_true rfl, Nat.le_of_ble_eq_true rfl⟩) (q_preV hK hP hD q_idl 5 0 rfl rfl) rfl rfl hl.1 rfl (lv_room (Nat.le_of_ble_eq_true rfl)) dX5_played_9 ⟨Nat.zero_le _, Nat.zero_le _⟩) hP hD hS hA q_idl q_idr (fun H locs hP hD hS => ?_)
  refine lv_iconst (v := 1) hx hb dX5_played_12 (by decide) ?_
  obtain ⟨o3, e4, h⟩ := q_bind h
  refine q_ci (va_runV (As := [.int o1, .int 1]) (rest := []) ⟨hx, hb, hml, hown, hts⟩ (wX5_throwsIf l E aM (M_thrown_s vM 0) o1 1 o3 e4 _) (cwV 2 hts gX5_played_X5_throwsIf rfl rfl rfl (by decide +kernel) ⟨Nat.le_of_ble_eq_true rfl, Nat.le_of_ble_eq_true rfl⟩) (q_preV hK hP hD q_idl 5 0 rfl rfl) rfl rfl hl.1 rfl (lv_room (Nat.le_of_ble_eq_true rfl)) dX5_played_13 ⟨Nat.zero_le _, Nat.zero_le _⟩) hP hD hS hA q_idl q_idr (fun H locs hP hD hS => ?_)
  refine lv_if_ne (tgt := 41) hx hb dX5_played_16 (by decide) (fun c5 => ?_) (fun c5 => ?_)
  · have h := q_neg c5 h
    refine lv_iconst (v := 0) hx hb dX5_played_41 (by decide) ?_
    obtain rfl := q_inj h
    exact hRt 42 _ _ _ dX5_played_42 hP hD hS
  · have h := q_pos c5 h
    refine lv_aload_n hx hb dX5_played_19 rfl (lv_at hl 0 rfl) ?_
    refine lv_iload_n hx hb dX5_played_20 rfl (lv_at hl 3 rfl) ?_
    refine lv_iconst (v := 0) hx hb dX5_played_21 (by decide) ?_
    refine lv_iconst (v := 2) hx hb dX5_played_22 (by decide) ?_
    obtain ⟨o6, e7, h⟩ := q_bind h
    refine q_ci (va_runS (As := [.int x3, .int 0, .int 2]) (rest := [.ref (aM 0)]) ⟨hx, hb, hml, hown, hts⟩ (wX5_in l E  x3 0 2 o6 e7 _) (va_cwS 3 hts gX5_played_X5_in rfl rfl rfl (by decide +kernel) ⟨Nat.le_of_ble_eq_true rfl, Nat.le_of_ble_eq_true rfl⟩) (q_preS hK hP hD q_nil) rfl rfl hl.1 rfl (lv_room (Nat.le_of_ble_eq_true rfl)) dX5_played_23 ⟨Nat.zero_le _, Nat.zero_le _⟩) hP hD hS hA q_nil q_nil.symm (fun H locs hP hD hS => ?_)
    obtain ⟨z9, e10, h⟩ := q_bind h
    have KJ8 : ∀ (H : Heap) (locs : List Loc), va_P E.1 vwCl (WM E aM o3.2) H → va_D A (WM E aM o3.2) → va_S A s.heap H locs → W pr l e rmX5_played s m args below meth c H locs 0 0 Q (F0 m 34 ls [.int z9, .ref (aM 0)]) := by
      intro H locs hP hD hS
      refine lv_iconst (v := 2) hx hb dX5_played_34 (by decide) ?_
      obtain ⟨o11, e12, h⟩ := q_bind h
      refine q_ci (va_runV (As := [.int z9, .int 2]) (rest := []) ⟨hx, hb, hml, hown, hts⟩ (wX5_throwsIf l E aM o3.2 z9 2 o11 e12 _) (cwV 2 hts gX5_played_X5_throwsIf rfl rfl rfl (by decide +kernel) ⟨Nat.le_of_ble_eq_true rfl, Nat.le_of_ble_eq_true rfl⟩) (q_preV hK hP hD q_idl 5 0 rfl rfl) rfl rfl hl.1 rfl (lv_room (Nat.le_of_ble_eq_true rfl)) dX5_played_35 ⟨Nat.zero_le _, Nat.zero_le _⟩) hP hD hS hA q_idl q_idr (fun H locs hP hD hS => ?_)
      refine lv_if_eq (tgt := 43) hx hb dX5_played_38 (by decide) (fun c13 => ?_) (fun c13 => ?_)
      · have h := q_pos c13 h
        refine lv_aload_n hx hb dX5_played_43 rfl (lv_at hl 0 rfl) ?_
        refine lv_iconst (v := (-1)) hx hb dX5_played_44 (by decide) ?_
        obtain ⟨o14, e15, h⟩ := q_bind h
        refine q_ci (va_runV (As := [.int (-1)]) (rest := []) ⟨hx, hb, hml, hown, hts⟩ (wX5_plays l E aM o11.2 (-1) o14 e15 _) (cwV 1 hts gX5_played_X5_plays rfl rfl rfl (by decide +kernel) ⟨Nat.le_of_ble_eq_true rfl, Nat.le_of_ble_eq_true rfl⟩) (q_preV hK hP hD q_idl 5 0 rfl rfl) rfl rfl hl.1 rfl (lv_room (Nat.le_of_ble_eq_true rfl)) dX5_played_45 ⟨Nat.zero_le _, Nat.zero_le _⟩) hP hD hS hA q_idl q_idr (fun H locs hP hD hS => ?_)
        refine lv_istore (lv' := [(4, .int o14.1), (0, .ref (aM 0)), (1, .int x1), (2, .int x2), (3, .int x3)]) hx hb dX5_played_48 hl (by decide) rfl (fun ls hl => ?_)
        refine lv_iconst (v := 5) hx hb dX5_played_50 (by decide) ?_
        refine lv_iload_n hx hb dX5_played_51 rfl (lv_at hl 2 rfl) ?_
        refine lv_imul hx hb dX5_played_52 ?_
        refine lv_iload_n hx hb dX5_played_53 rfl (lv_at hl 3 rfl) ?_
        refine lv_iadd hx hb dX5_played_54 ?_
        refine lv_istore (lv' := [(5, .int ((5 * x1) + x2)), (4, .int o14.1), (0, .ref (aM 0)), (1, .int x1), (2, .int x2), (3, .int x3)]) hx hb dX5_played_55 hl (by decide) rfl (fun ls hl => ?_)
        refine lv_iload_n hx hb dX5_played_57 rfl (lv_at hl 5 rfl) ?_
        refine lv_if_ne (tgt := 71) hx hb dX5_played_58 (by decide) (fun c16 => ?_) (fun c16 => ?_)
        · have h := q_neg c16 h
          refine lv_iload_n hx hb dX5_played_71 rfl (lv_at hl 5 rfl) ?_
          refine lv_iconst (v := 1) hx hb dX5_played_72 (by decide) ?_
          refine lv_icmp_ne (tgt := 86) hx hb dX5_played_73 (by decide) (fun c17 => ?_) (fun c17 => ?_)
          · have h := q_neg c17 h
            refine lv_aload_n hx hb dX5_played_86 rfl (lv_at hl 2 rfl) ?_
            refine va_get (D := E.1) (ci := 5) (v := .ref (aM 14)) (C := RX5) (T := TX5) (N := 19) hx hb hts hinX5 hown hK.1 hP 0 rfl rfl 16 (by decide) hw1 (fun _ h9 => h9) rfl dX5_played_87 ?_
            refine lv_iload hx hb dX5_played_90 (lv_at hl 0 rfl) ?_
            obtain ⟨i18, h⟩ := q_ck h
            refine va_iald (f := (M_done o14.2)) hx hb hK.1 hP 14 0 rfl rfl i18 dX5_played_92 ?_
            obtain rfl := q_inj h
            exact hRt 93 _ _ _ dX5_played_93 hP hD hS
          · have h := q_pos c17 h
            refine lv_aload_n hx hb dX5_played_76 rfl (lv_at hl 2 rfl) ?_
            refine va_get (D := E.1) (ci := 5) (v := .ref (aM 13)) (C := RX5) (T := TX5) (N := 19) hx hb hts hinX5 hown hK.1 hP 0 rfl rfl 15 (by decide) hw2 (fun _ h9 => h9) rfl dX5_played_77 ?_
            refine lv_iload hx hb dX5_played_80 (lv_at hl 0 rfl) ?_
            obtain ⟨i19, h⟩ := q_ck h
            refine va_iald (f := (M_begun o14.2)) hx hb hK.1 hP 13 0 rfl rfl i19 dX5_played_82 ?_
            refine lv_goto (tgt := 93) hx hb dX5_played_83 (by decide) ?_
            obtain rfl := q_inj h
            exact hRt 93 _ _ _ dX5_played_93 hP hD hS
        · have h := q_pos c16 h
          refine lv_aload_n hx hb dX5_played_61 rfl (lv_at hl 2 rfl) ?_
          refine va_get (D := E.1) (ci := 5) (v := .ref (aM 12)) (C := RX5) (T := TX5) (N := 19) hx hb hts hinX5 hown hK.1 hP 0 rfl rfl 14 (by decide) hw3 (fun _ h9 => h9) rfl dX5_played_62 ?_
          refine lv_iload hx hb dX5_played_65 (lv_at hl 0 rfl) ?_
          obtain ⟨i20, h⟩ := q_ck h
          refine va_iald (f := (M_came o14.2)) hx hb hK.1 hP 12 0 rfl rfl i20 dX5_played_67 ?_
          refine lv_goto (tgt := 93) hx hb dX5_played_68 (by decide) ?_
          obtain rfl := q_inj h
          exact hRt 93 _ _ _ dX5_played_93 hP hD hS
      · have h := q_neg c13 h
        refine lv_iconst (v := 0) hx hb dX5_played_41 (by decide) ?_
        obtain rfl := q_inj h
        exact hRt 42 _ _ _ dX5_played_42 hP hD hS
    have h := e10
    refine lv_if_ne (tgt := 33) hx hb dX5_played_26 (by decide) (fun c21 => ?_) (fun c21 => ?_)
    · have h := q_neg c21 h
      refine lv_iconst (v := 0) hx hb dX5_played_33 (by decide) ?_
      obtain rfl := q_inj h
      exact KJ8 _ _ hP hD hS
    · have h := q_pos c21 h
      refine lv_iconst (v := 1) hx hb dX5_played_29 (by decide) ?_
      refine lv_goto (tgt := 34) hx hb dX5_played_30 (by decide) ?_
      obtain rfl := q_inj h
      exact KJ8 _ _ hP hD hS
def lpX5_stepsOfAll_4 (vM : SM) : Nat → Int32 → Int32 → Option Int32
  | 0, _, _ => none
  | k + 1, x1, x2 => if (M_asks vM) ≤ x2 then (some x1) else (ck x2 60 (lpX5_stepsOfAll_4 vM k (x1 + ((M_steps vM) (Int32.toNatClampNeg x2))) (x2 + 1)))
def mX5_stepsOfAll (vM : SM)  : Option Int32 := (lpX5_stepsOfAll_4 vM qFU 0 0).bind fun o7 => some o7
def rmX5_stepsOfAll : Room := { frames := 0, cells := 0, slots := 0, locals := 0 }
set_option maxHeartbeats 8000000 in
set_option maxRecDepth 100000 in
theorem wX5_stepsOfAll (l : Launch) (E : qE) (aM : Nat → Nat) (vM : SM)  (o : Int32) (h : mX5_stepsOfAll vM = some o) : MI l E yX5_stepsOfAll wsX5_stepsOfAll rmX5_stepsOfAll [.ref (aM 0)] (WM E aM vM) (WM E aM vM) o := by
  refine q_startI (cc := cX5_stepsOfAll) (maxL := 3) (by decide) rfl (Nat.le_of_ble_eq_true rfl) ?_
  intro pr e s m args below meth c A Q hx hb hml hown hts hK hRt hP hD hA hS ls hl
  have hl : lv_has ls 3 [(0, .ref (aM 0))] := hl
  have hinX5 : ∀ w ∈ wsX50, w ∈ wsX5_stepsOfAll := by decide +kernel
  have hw0 := hts (.fieldLink RX5 70 "QueueReaderModel" "asks" "I") (by decide +kernel)
  have hw1 := hts (.fieldLink RX5 25 "QueueReaderModel" "steps" "[I") (by decide +kernel)
  have L4 : ∀ (vM : SM) (x1 : Int32) (x2 : Int32) (k : Nat) (H : Heap) (locs : List Loc) (ls : Array Slot), va_P E.1 vwCl (WM E aM vM) H → va_D A (WM E aM vM) → va_S A s.heap H locs → lv_has ls 3 [(0, .ref (aM 0)), (1, .int x1), (2, .int x2)] → ∀ o, lpX5_stepsOfAll_4 vM k x1 x2 = some o → (∀ (H : Heap) (locs : List Loc) (ls : Array Slot), va_P E.1 vwCl (WM E aM vM) H → va_D A (WM E aM vM) → va_S A s.heap H locs → lv_has ls 3 [(1, .int o)] → W pr l e rmX5_stepsOfAll s m args below meth c H locs 0 0 Q (F0 m 27 ls [])) → W pr l e rmX5_stepsOfAll s m args below meth c H locs 0 0 Q (F0 m 4 ls []) := by
    intro vM x1 x2 k
    induction k generalizing x1 x2 with
    | zero => intro H locs ls hP hD hS hl o h; cases h
    | succ k ih =>
      intro H locs ls hP hD hS hl o h kk
      rw [lpX5_stepsOfAll_4] at h
      refine lv_iload_n hx hb dX5_stepsOfAll_4 rfl (lv_at hl 2 rfl) ?_
      refine lv_aload_n hx hb dX5_stepsOfAll_5 rfl (lv_at hl 0 rfl) ?_
      refine va_get (D := E.1) (ci := 5) (v := .int (M_asks vM)) (C := RX5) (T := TX5) (N := 19) hx hb hts hinX5 hown hK.1 hP 0 rfl rfl 8 (by decide) hw0 (fun _ h9 => h9) rfl dX5_stepsOfAll_6 ?_
      refine lv_icmp_ge (tgt := 27) hx hb dX5_stepsOfAll_9 (by decide) (fun c5 => ?_) (fun c5 => ?_)
      · have h := q_pos c5 h
        obtain rfl := q_inj h
        exact kk _ _ _ hP hD hS (lv_sub hl [1] rfl)
      · have h := q_neg c5 h
        refine lv_iload_n hx hb dX5_stepsOfAll_12 rfl (lv_at hl 1 rfl) ?_
        refine lv_aload_n hx hb dX5_stepsOfAll_13 rfl (lv_at hl 0 rfl) ?_
        refine va_get (D := E.1) (ci := 5) (v := .ref (aM 6)) (C := RX5) (T := TX5) (N := 19) hx hb hts hinX5 hown hK.1 hP 0 rfl rfl 7 (by decide) hw1 (fun _ h9 => h9) rfl dX5_stepsOfAll_14 ?_
        refine lv_iload_n hx hb dX5_stepsOfAll_17 rfl (lv_at hl 2 rfl) ?_
        obtain ⟨i6, h⟩ := q_ck h
        refine va_iald (f := (M_steps vM)) hx hb hK.1 hP 6 0 rfl rfl i6 dX5_stepsOfAll_18 ?_
        refine lv_iadd hx hb dX5_stepsOfAll_19 ?_
        refine lv_istore_n (lv' := [(1, .int (x1 + ((M_steps vM) (Int32.toNatClampNeg x2)))), (0, .ref (aM 0)), (2, .int x2)]) hx hb dX5_stepsOfAll_20 rfl hl (by decide) rfl (fun ls hl => ?_)
        refine lv_iinc (v := (x2 + 1)) (lv' := [(2, .int (x2 + 1)), (1, .int (x1 + ((M_steps vM) (Int32.toNatClampNeg x2)))), (0, .ref (aM 0))]) hx hb dX5_stepsOfAll_21 hl (k := 2) rfl rfl (by decide) rfl (fun ls hl => ?_)
        refine lv_goto (tgt := 4) hx hb dX5_stepsOfAll_24 (by decide) ?_
        exact ih (x1 + ((M_steps vM) (Int32.toNatClampNeg x2))) (x2 + 1) _ _ _ hP hD hS (lv_sub hl [2, 1, 0] rfl) _ h kk
  unfold mX5_stepsOfAll at h
  refine lv_iconst (v := 0) hx hb dX5_stepsOfAll_0 (by decide) ?_
  refine lv_istore_n (lv' := [(1, .int 0), (0, .ref (aM 0))]) hx hb dX5_stepsOfAll_1 rfl hl (by decide) rfl (fun ls hl => ?_)
  refine lv_iconst (v := 0) hx hb dX5_stepsOfAll_2 (by decide) ?_
  refine lv_istore_n (lv' := [(2, .int 0), (1, .int 0), (0, .ref (aM 0))]) hx hb dX5_stepsOfAll_3 rfl hl (by decide) rfl (fun ls hl => ?_)
  obtain ⟨o7, e8, h⟩ := q_bind h
  refine L4 vM 0 0 qFU _ _ _ hP hD hS (lv_sub hl [2, 1, 0] rfl) o7 e8 (fun H locs ls hP hD hS hl => ?_)
  refine lv_iload_n hx hb dX5_stepsOfAll_27 rfl (lv_at hl 0 rfl) ?_
  obtain rfl := q_inj h
  exact hRt 28 _ _ _ dX5_stepsOfAll_28 hP hD hS
def mX5_isStep (vM : SM) (x1 : Int32) : Option Int32 := if (M_asks vM) ≤ (x1 / 5) then (some 0) else (ck (x1 / 5) 60 (if ((M_steps vM) (Int32.toNatClampNeg (x1 / 5))) ≤ (x1 - x1 / 5 * 5) then (some 0) else (some 1)))
def rmX5_isStep : Room := { frames := 0, cells := 0, slots := 0, locals := 0 }
set_option maxHeartbeats 8000000 in
set_option maxRecDepth 100000 in
theorem wX5_isStep (l : Launch) (E : qE) (aM : Nat → Nat) (vM : SM) (x1 : Int32) (o : Int32) (h : mX5_isStep vM x1 = some o) : MI l E yX5_isStep wsX5_isStep rmX5_isStep [.ref (aM 0), .int x1] (WM E aM vM) (WM E aM vM) o := by
  refine q_startZ (cc := cX5_isStep) (maxL := 2) (by decide) rfl (Nat.le_of_ble_eq_true rfl) ?_
  intro pr e s m args below meth c A Q hx hb hml hown hts hK hRt hP hD hA hS ls hl
  have hl : lv_has ls 2 [(0, .ref (aM 0)), (1, .int x1)] := hl
  have hinX5 : ∀ w ∈ wsX50, w ∈ wsX5_isStep := by decide +kernel
  have hw0 := hts (.fieldLink RX5 70 "QueueReaderModel" "asks" "I") (by decide +kernel)
  have hw1 := hts (.fieldLink RX5 25 "QueueReaderModel" "steps" "[I") (by decide +kernel)
  unfold mX5_isStep at h
  refine lv_iload_n hx hb dX5_isStep_0 rfl (lv_at hl 1 rfl) ?_
  refine lv_iconst (v := 5) hx hb dX5_isStep_1 (by decide) ?_
  refine lv_idiv hx hb dX5_isStep_2 (by decide) ?_
  refine lv_aload_n hx hb dX5_isStep_3 rfl (lv_at hl 0 rfl) ?_
  refine va_get (D := E.1) (ci := 5) (v := .int (M_asks vM)) (C := RX5) (T := TX5) (N := 19) hx hb hts hinX5 hown hK.1 hP 0 rfl rfl 8 (by decide) hw0 (fun _ h9 => h9) rfl dX5_isStep_4 ?_
  refine lv_icmp_ge (tgt := 28) hx hb dX5_isStep_7 (by decide) (fun c1 => ?_) (fun c1 => ?_)
  · have h := q_pos c1 h
    refine lv_iconst (v := 0) hx hb dX5_isStep_28 (by decide) ?_
    obtain rfl := q_inj h
    exact hRt 29 _ _ _ dX5_isStep_29 q_n0 hP hD hS
  · have h := q_neg c1 h
    refine lv_iload_n hx hb dX5_isStep_10 rfl (lv_at hl 1 rfl) ?_
    refine lv_iconst (v := 5) hx hb dX5_isStep_11 (by decide) ?_
    refine lv_irem hx hb dX5_isStep_12 (by decide) ?_
    refine lv_aload_n hx hb dX5_isStep_13 rfl (lv_at hl 0 rfl) ?_
    refine va_get (D := E.1) (ci := 5) (v := .ref (aM 6)) (C := RX5) (T := TX5) (N := 19) hx hb hts hinX5 hown hK.1 hP 0 rfl rfl 7 (by decide) hw1 (fun _ h9 => h9) rfl dX5_isStep_14 ?_
    refine lv_iload_n hx hb dX5_isStep_17 rfl (lv_at hl 1 rfl) ?_
    refine lv_iconst (v := 5) hx hb dX5_isStep_18 (by decide) ?_
    refine lv_idiv hx hb dX5_isStep_19 (by decide) ?_
    obtain ⟨i2, h⟩ := q_ck h
    refine va_iald (f := (M_steps vM)) hx hb hK.1 hP 6 0 rfl rfl i2 dX5_isStep_20 ?_
    refine lv_icmp_ge (tgt := 28) hx hb dX5_isStep_21 (by decide) (fun c3 => ?_) (fun c3 => ?_)
    · have h := q_pos c3 h
      refine lv_iconst (v := 0) hx hb dX5_isStep_28 (by decide) ?_
      obtain rfl := q_inj h
      exact hRt 29 _ _ _ dX5_isStep_29 q_n0 hP hD hS
    · have h := q_neg c3 h
      refine lv_iconst (v := 1) hx hb dX5_isStep_24 (by decide) ?_
      refine lv_goto (tgt := 29) hx hb dX5_isStep_25 (by decide) ?_
      obtain rfl := q_inj h
      exact hRt 29 _ _ _ dX5_isStep_29 q_n1 hP hD hS
def lpX5_trace_13  : Nat → Int32 → SM → Option SM
  | 0, _, _ => none
  | k + 1, x2, vM => if 300 ≤ x2 then (some vM) else ((mX5_isStep vM x2).bind fun o22 => if o22 = 0 then (lpX5_trace_13  k (x2 + 1) vM) else (ck x2 300 (ck x2 300 (ck x2 300 (ck x2 300 (ck x2 300 (lpX5_trace_13  k (x2 + 1) (M_seenDone_s (M_seenBegun_s (M_isSeen_s vM (upd (M_isSeen vM) (Int32.toNatClampNeg x2) (vp_nar .boolean 1))) (upd (M_seenBegun vM) (Int32.toNatClampNeg x2) ((M_begun vM) (Int32.toNatClampNeg x2)))) (upd (M_seenDone vM) (Int32.toNatClampNeg x2) ((M_done vM) (Int32.toNatClampNeg x2)))))))))))
def mX5_trace (vM : SM)  : Option (Int32 × SM) := (mX5_plays (M_thrown_s vM 0) (-1)).bind fun o1 => (lpX5_trace_13  qFU 0 o1.2).bind fun o30 => (mX5_stepsOfAll o30).bind fun o33 => some (o33, o30)
def rmX5_trace : Room := { frames := 4, cells := 0, slots := 0, locals := 97 }
set_option maxHeartbeats 8000000 in
set_option maxRecDepth 100000 in
theorem wX5_trace (l : Launch) (E : qE) (aM : Nat → Nat) (vM : SM)  (o : Int32 × SM) (h : mX5_trace vM = some o) : MI l E yX5_trace wsX5_trace rmX5_trace [.ref (aM 0)] (WM E aM vM) (WM E aM o.2) o.1 := by
  refine q_startI (cc := cX5_trace) (maxL := 3) (by decide) rfl (Nat.le_of_ble_eq_true rfl) ?_
  intro pr e s m args below meth c A Q hx hb hml hown hts hK hRt hP hD hA hS ls hl
  have hl : lv_has ls 3 [(0, .ref (aM 0))] := hl
  have hinX5 : ∀ w ∈ wsX50, w ∈ wsX5_trace := by decide +kernel
  have hw0 := hts (.fieldLink RX5 59 "QueueReaderModel" "thrown" "I") (by decide +kernel)
  have hw1 := hts (.fieldLink RX5 34 "QueueReaderModel" "isSeen" "[Z") (by decide +kernel)
  have hw2 := hts (.fieldLink RX5 38 "QueueReaderModel" "seenBegun" "[I") (by decide +kernel)
  have hw3 := hts (.fieldLink RX5 47 "QueueReaderModel" "begun" "[I") (by decide +kernel)
  have hw4 := hts (.fieldLink RX5 41 "QueueReaderModel" "seenDone" "[I") (by decide +kernel)
  have hw5 := hts (.fieldLink RX5 50 "QueueReaderModel" "done" "[I") (by decide +kernel)
  have L13 : ∀ (vM : SM) (x2 : Int32) (k : Nat) (H : Heap) (locs : List Loc) (ls : Array Slot), va_P E.1 vwCl (WM E aM vM) H → va_D A (WM E aM vM) → va_S A s.heap H locs → lv_has ls 3 [(0, .ref (aM 0)), (2, .int x2)] → ∀ o, lpX5_trace_13  k x2 vM = some o → (∀ (H : Heap) (locs : List Loc) (ls : Array Slot), va_P E.1 vwCl (WM E aM o) H → va_D A (WM E aM o) → va_S A s.heap H locs → lv_has ls 3 [(0, .ref (aM 0))] → W pr l e rmX5_trace s m args below meth c H locs 0 0 Q (F0 m 68 ls [])) → W pr l e rmX5_trace s m args below meth c H locs 0 0 Q (F0 m 13 ls []) := by
    intro vM x2 k
    induction k generalizing x2 vM with
    | zero => intro H locs ls hP hD hS hl o h; cases h
    | succ k ih =>
      intro H locs ls hP hD hS hl o h kk
      rw [lpX5_trace_13] at h
      refine lv_iload_n hx hb dX5_trace_13 rfl (lv_at hl 1 rfl) ?_
      refine lv_sipush (v := 300) hx hb dX5_trace_14 (by decide) ?_
      refine lv_icmp_ge (tgt := 68) hx hb dX5_trace_17 (by decide) (fun c21 => ?_) (fun c21 => ?_)
      · have h := q_pos c21 h
        obtain rfl := q_inj h
        exact kk _ _ _ hP hD hS (lv_sub hl [0] rfl)
      · have h := q_neg c21 h
        refine lv_aload_n hx hb dX5_trace_20 rfl (lv_at hl 0 rfl) ?_
        refine lv_iload_n hx hb dX5_trace_21 rfl (lv_at hl 1 rfl) ?_
        obtain ⟨o22, e23, h⟩ := q_bind h
        refine q_ci (va_runV (As := [.int x2]) (rest := []) ⟨hx, hb, hml, hown, hts⟩ (wX5_isStep l E aM vM x2 o22 e23 _) (cwV 1 hts gX5_trace_X5_isStep rfl rfl rfl (by decide +kernel) ⟨Nat.le_of_ble_eq_true rfl, Nat.le_of_ble_eq_true rfl⟩) (q_preV hK hP hD q_idl 5 0 rfl rfl) rfl rfl hl.1 rfl (lv_room (Nat.le_of_ble_eq_true rfl)) dX5_trace_22 ⟨Nat.zero_le _, Nat.zero_le _⟩) hP hD hS hA q_idl q_idr (fun H locs hP hD hS => ?_)
        refine lv_if_ne (tgt := 31) hx hb dX5_trace_25 (by decide) (fun c24 => ?_) (fun c24 => ?_)
        · have h := q_neg c24 h
          refine lv_aload_n hx hb dX5_trace_31 rfl (lv_at hl 0 rfl) ?_
          refine va_get (D := E.1) (ci := 5) (v := .ref (aM 9)) (C := RX5) (T := TX5) (N := 19) hx hb hts hinX5 hown hK.1 hP 0 rfl rfl 11 (by decide) hw1 (fun _ h9 => h9) rfl dX5_trace_32 ?_
          refine lv_iload_n hx hb dX5_trace_35 rfl (lv_at hl 1 rfl) ?_
          refine lv_iconst (v := 1) hx hb dX5_trace_36 (by decide) ?_
          obtain ⟨i25, h⟩ := q_ck h
          refine va_zast (f := (M_isSeen vM)) hx hb hK.1 hP hD hS 9 2 rfl rfl i25 dX5_trace_37 (fun H locs hP hD hS => ?_)
          have hP : va_P E.1 vwCl (WM E aM (M_isSeen_s vM (upd (M_isSeen vM) (Int32.toNatClampNeg x2) (vp_nar .boolean 1)))) H := hP
          have hD : va_D A (WM E aM (M_isSeen_s vM (upd (M_isSeen vM) (Int32.toNatClampNeg x2) (vp_nar .boolean 1)))) := hD
          refine lv_aload_n hx hb dX5_trace_38 rfl (lv_at hl 0 rfl) ?_
          refine va_get (D := E.1) (ci := 5) (v := .ref (aM 10)) (C := RX5) (T := TX5) (N := 19) hx hb hts hinX5 hown hK.1 hP 0 rfl rfl 12 (by decide) hw2 (fun _ h9 => h9) rfl dX5_trace_39 ?_
          refine lv_iload_n hx hb dX5_trace_42 rfl (lv_at hl 1 rfl) ?_
          refine lv_aload_n hx hb dX5_trace_43 rfl (lv_at hl 0 rfl) ?_
          refine va_get (D := E.1) (ci := 5) (v := .ref (aM 13)) (C := RX5) (T := TX5) (N := 19) hx hb hts hinX5 hown hK.1 hP 0 rfl rfl 15 (by decide) hw3 (fun _ h9 => h9) rfl dX5_trace_44 ?_
          refine lv_iload_n hx hb dX5_trace_47 rfl (lv_at hl 1 rfl) ?_
          obtain ⟨i26, h⟩ := q_ck h
          refine va_iald (f := (M_begun vM)) hx hb hK.1 hP 13 0 rfl rfl i26 dX5_trace_48 ?_
          obtain ⟨i27, h⟩ := q_ck h
          refine va_iast (f := (M_seenBegun vM)) hx hb hK.1 hP hD hS 10 0 rfl rfl i27 dX5_trace_49 (fun H locs hP hD hS => ?_)
          have hP : va_P E.1 vwCl (WM E aM (M_seenBegun_s (M_isSeen_s vM (upd (M_isSeen vM) (Int32.toNatClampNeg x2) (vp_nar .boolean 1))) (upd (M_seenBegun vM) (Int32.toNatClampNeg x2) ((M_begun vM) (Int32.toNatClampNeg x2))))) H := hP
          have hD : va_D A (WM E aM (M_seenBegun_s (M_isSeen_s vM (upd (M_isSeen vM) (Int32.toNatClampNeg x2) (vp_nar .boolean 1))) (upd (M_seenBegun vM) (Int32.toNatClampNeg x2) ((M_begun vM) (Int32.toNatClampNeg x2))))) := hD
          refine lv_aload_n hx hb dX5_trace_50 rfl (lv_at hl 0 rfl) ?_
          refine va_get (D := E.1) (ci := 5) (v := .ref (aM 11)) (C := RX5) (T := TX5) (N := 19) hx hb hts hinX5 hown hK.1 hP 0 rfl rfl 13 (by decide) hw4 (fun _ h9 => h9) rfl dX5_trace_51 ?_
          refine lv_iload_n hx hb dX5_trace_54 rfl (lv_at hl 1 rfl) ?_
          refine lv_aload_n hx hb dX5_trace_55 rfl (lv_at hl 0 rfl) ?_
          refine va_get (D := E.1) (ci := 5) (v := .ref (aM 14)) (C := RX5) (T := TX5) (N := 19) hx hb hts hinX5 hown hK.1 hP 0 rfl rfl 16 (by decide) hw5 (fun _ h9 => h9) rfl dX5_trace_56 ?_
          refine lv_iload_n hx hb dX5_trace_59 rfl (lv_at hl 1 rfl) ?_
          obtain ⟨i28, h⟩ := q_ck h
          refine va_iald (f := (M_done vM)) hx hb hK.1 hP 14 0 rfl rfl i28 dX5_trace_60 ?_
          obtain ⟨i29, h⟩ := q_ck h
          refine va_iast (f := (M_seenDone vM)) hx hb hK.1 hP hD hS 11 0 rfl rfl i29 dX5_trace_61 (fun H locs hP hD hS => ?_)
          have hP : va_P E.1 vwCl (WM E aM (M_seenDone_s (M_seenBegun_s (M_isSeen_s vM (upd (M_isSeen vM) (Int32.toNatClampNeg x2) (vp_nar .boolean 1))) (upd (M_seenBegun vM) (Int32.toNatClampNeg x2) ((M_begun vM) (Int32.toNatClampNeg x2)))) (upd (M_seenDone vM) (Int32.toNatClampNeg x2) ((M_done vM) (Int32.toNatClampNeg x2))))) H := hP
          have hD : va_D A (WM E aM (M_seenDone_s (M_seenBegun_s (M_isSeen_s vM (upd (M_isSeen vM) (Int32.toNatClampNeg x2) (vp_nar .boolean 1))) (upd (M_seenBegun vM) (Int32.toNatClampNeg x2) ((M_begun vM) (Int32.toNatClampNeg x2)))) (upd (M_seenDone vM) (Int32.toNatClampNeg x2) ((M_done vM) (Int32.toNatClampNeg x2))))) := hD
          refine lv_iinc (v := (x2 + 1)) (lv' := [(2, .int (x2 + 1)), (0, .ref (aM 0))]) hx hb dX5_trace_62 hl (k := 1) rfl rfl (by decide) rfl (fun ls hl => ?_)
          refine lv_goto (tgt := 13) hx hb dX5_trace_65 (by decide) ?_
          exact ih (M_seenDone_s (M_seenBegun_s (M_isSeen_s vM (upd (M_isSeen vM) (Int32.toNatClampNeg x2) (vp_nar .boolean 1))) (upd (M_seenBegun vM) (Int32.toNatClampNeg x2) ((M_begun vM) (Int32.toNatClampNeg x2)))) (upd (M_seenDone vM) (Int32.toNatClampNeg x2) ((M_done vM) (Int32.toNatClampNeg x2)))) (x2 + 1) _ _ _ hP hD hS (lv_sub hl [1, 0] rfl) _ h kk
        · have h := q_pos c24 h
          refine lv_goto (tgt := 62) hx hb dX5_trace_28 (by decide) ?_
          refine lv_iinc (v := (x2 + 1)) (lv' := [(2, .int (x2 + 1)), (0, .ref (aM 0))]) hx hb dX5_trace_62 hl (k := 1) rfl rfl (by decide) rfl (fun ls hl => ?_)
          refine lv_goto (tgt := 13) hx hb dX5_trace_65 (by decide) ?_
          exact ih vM (x2 + 1) _ _ _ hP hD hS (lv_sub hl [1, 0] rfl) _ h kk
  unfold mX5_trace at h
  refine lv_aload_n hx hb dX5_trace_0 rfl (lv_at hl 0 rfl) ?_
  refine lv_iconst (v := 0) hx hb dX5_trace_1 (by decide) ?_
  refine va_put (D := E.1) (ci := 5) (v := .int 0) (ty := .int) (C := RX5) (T := TX5) (N := 19) hx hb hts hinX5 tyX5 tyX5_ok nmX5 hown hK.1 hP hD hS 0 rfl rfl 0 (by decide) hw0 (fun _ h9 => h9) rfl (by decide +kernel) rfl rfl (Nat.le_of_ble_eq_true rfl) dX5_trace_2 (fun H locs hP hD hS => ?_)
  have hP : va_P E.1 vwCl (WM E aM (M_thrown_s vM 0)) H := hP
  have hD : va_D A (WM E aM (M_thrown_s vM 0)) := hD
  refine lv_aload_n hx hb dX5_trace_5 rfl (lv_at hl 0 rfl) ?_
  refine lv_iconst (v := (-1)) hx hb dX5_trace_6 (by decide) ?_
  obtain ⟨o1, e2, h⟩ := q_bind h
  refine q_ci (va_runV (As := [.int (-1)]) (rest := []) ⟨hx, hb, hml, hown, hts⟩ (wX5_plays l E aM (M_thrown_s vM 0) (-1) o1 e2 _) (cwV 1 hts gX5_trace_X5_plays rfl rfl rfl (by decide +kernel) ⟨Nat.le_of_ble_eq_true rfl, Nat.le_of_ble_eq_true rfl⟩) (q_preV hK hP hD q_idl 5 0 rfl rfl) rfl rfl hl.1 rfl (lv_room (Nat.le_of_ble_eq_true rfl)) dX5_trace_7 ⟨Nat.zero_le _, Nat.zero_le _⟩) hP hD hS hA q_idl q_idr (fun H locs hP hD hS => ?_)
  refine lv_istore_n (lv' := [(1, .int o1.1), (0, .ref (aM 0))]) hx hb dX5_trace_10 rfl hl (by decide) rfl (fun ls hl => ?_)
  refine lv_iconst (v := 0) hx hb dX5_trace_11 (by decide) ?_
  refine lv_istore_n (lv' := [(2, .int 0), (1, .int o1.1), (0, .ref (aM 0))]) hx hb dX5_trace_12 rfl hl (by decide) rfl (fun ls hl => ?_)
  obtain ⟨o30, e31, h⟩ := q_bind h
  refine L13 o1.2 0 qFU _ _ _ hP hD hS (lv_sub hl [2, 0] rfl) o30 e31 (fun H locs ls hP hD hS hl => ?_)
  refine lv_aload_n hx hb dX5_trace_68 rfl (lv_at hl 0 rfl) ?_
  obtain ⟨o33, e34, h⟩ := q_bind h
  refine q_ci (va_runV (As := []) (rest := []) ⟨hx, hb, hml, hown, hts⟩ (wX5_stepsOfAll l E aM o30 o33 e34 _) (cwV 0 hts gX5_trace_X5_stepsOfAll rfl rfl rfl (by decide +kernel) ⟨Nat.le_of_ble_eq_true rfl, Nat.le_of_ble_eq_true rfl⟩) (q_preV hK hP hD q_idl 5 0 rfl rfl) rfl rfl hl.1 rfl (lv_room (Nat.le_of_ble_eq_true rfl)) dX5_trace_69 ⟨Nat.zero_le _, Nat.zero_le _⟩) hP hD hS hA q_idl q_idr (fun H locs hP hD hS => ?_)
  obtain rfl := q_inj h
  exact hRt 72 _ _ _ dX5_trace_72 hP hD hS
def lpX5_unlike_15 (vM : SM) : Nat → Int32 → Int32 → Option Int32
  | 0, _, _ => none
  | k + 1, x2, x3 => if 300 ≤ x3 then (some x2) else ((mX5_isStep vM x3).bind fun o34 => Option.bind (if o34 = 0 then (some 0) else (ck x3 300 (if ((M_isSeen vM) (Int32.toNatClampNeg x3)) = 0 then (some 0) else (ck x3 300 (ck x3 300 (if ((M_seenBegun vM) (Int32.toNatClampNeg x3)) = ((M_begun vM) (Int32.toNatClampNeg x3)) then (ck x3 300 (ck x3 300 (if ((M_seenDone vM) (Int32.toNatClampNeg x3)) = ((M_done vM) (Int32.toNatClampNeg x3)) then (some 0) else (some 1)))) else (some 1))))))) fun z37 => lpX5_unlike_15 vM k (x2 + z37) (x3 + 1))
def mX5_unlike (vM : SM)  : Option (Int32 × SM) := (mX5_plays (M_thrown_s vM 0) (-1)).bind fun o1 => (lpX5_unlike_15 o1.2 qFU 0 0).bind fun o48 => some (o48, o1.2)
def rmX5_unlike : Room := { frames := 4, cells := 0, slots := 0, locals := 97 }
set_option maxHeartbeats 8000000 in
set_option maxRecDepth 100000 in
theorem wX5_unlike (l : Launch) (E : qE) (aM : Nat → Nat) (vM : SM)  (o : Int32 × SM) (h : mX5_unlike vM = some o) : MI l E yX5_unlike wsX5_unlike rmX5_unlike [.ref (aM 0)] (WM E aM vM) (WM E aM o.2) o.1 := by
  refine q_startI (cc := cX5_unlike) (maxL := 4) (by decide) rfl (Nat.le_of_ble_eq_true rfl) ?_
  intro pr e s m args below meth c A Q hx hb hml hown hts hK hRt hP hD hA hS ls hl
  have hl : lv_has ls 4 [(0, .ref (aM 0))] := hl
  have hinX5 : ∀ w ∈ wsX50, w ∈ wsX5_unlike := by decide +kernel
  have hw0 := hts (.fieldLink RX5 59 "QueueReaderModel" "thrown" "I") (by decide +kernel)
  have hw1 := hts (.fieldLink RX5 34 "QueueReaderModel" "isSeen" "[Z") (by decide +kernel)
  have hw2 := hts (.fieldLink RX5 38 "QueueReaderModel" "seenBegun" "[I") (by decide +kernel)
  have hw3 := hts (.fieldLink RX5 47 "QueueReaderModel" "begun" "[I") (by decide +kernel)
  have hw4 := hts (.fieldLink RX5 41 "QueueReaderModel" "seenDone" "[I") (by decide +kernel)
  have hw5 := hts (.fieldLink RX5 50 "QueueReaderModel" "done" "[I") (by decide +kernel)
  have L15 : ∀ (vM : SM) (x2 : Int32) (x3 : Int32) (k : Nat) (H : Heap) (locs : List Loc) (ls : Array Slot), va_P E.1 vwCl (WM E aM vM) H → va_D A (WM E aM vM) → va_S A s.heap H locs → lv_has ls 4 [(0, .ref (aM 0)), (2, .int x2), (3, .int x3)] → ∀ o, lpX5_unlike_15 vM k x2 x3 = some o → (∀ (H : Heap) (locs : List Loc) (ls : Array Slot), va_P E.1 vwCl (WM E aM vM) H → va_D A (WM E aM vM) → va_S A s.heap H locs → lv_has ls 4 [(2, .int o)] → W pr l e rmX5_unlike s m args below meth c H locs 0 0 Q (F0 m 83 ls [])) → W pr l e rmX5_unlike s m args below meth c H locs 0 0 Q (F0 m 15 ls []) := by
    intro vM x2 x3 k
    induction k generalizing x2 x3 with
    | zero => intro H locs ls hP hD hS hl o h; cases h
    | succ k ih =>
      intro H locs ls hP hD hS hl o h kk
      rw [lpX5_unlike_15] at h
      refine lv_iload_n hx hb dX5_unlike_15 rfl (lv_at hl 2 rfl) ?_
      refine lv_sipush (v := 300) hx hb dX5_unlike_16 (by decide) ?_
      refine lv_icmp_ge (tgt := 83) hx hb dX5_unlike_19 (by decide) (fun c33 => ?_) (fun c33 => ?_)
      · have h := q_pos c33 h
        obtain rfl := q_inj h
        exact kk _ _ _ hP hD hS (lv_sub hl [1] rfl)
      · have h := q_neg c33 h
        refine lv_iload_n hx hb dX5_unlike_22 rfl (lv_at hl 1 rfl) ?_
        refine lv_aload_n hx hb dX5_unlike_23 rfl (lv_at hl 0 rfl) ?_
        refine lv_iload_n hx hb dX5_unlike_24 rfl (lv_at hl 2 rfl) ?_
        obtain ⟨o34, e35, h⟩ := q_bind h
        refine q_ci (va_runV (As := [.int x3]) (rest := [.int x2]) ⟨hx, hb, hml, hown, hts⟩ (wX5_isStep l E aM vM x3 o34 e35 _) (cwV 1 hts gX5_unlike_X5_isStep rfl rfl rfl (by decide +kernel) ⟨Nat.le_of_ble_eq_true rfl, Nat.le_of_ble_eq_true rfl⟩) (q_preV hK hP hD q_idl 5 0 rfl rfl) rfl rfl hl.1 rfl (lv_room (Nat.le_of_ble_eq_true rfl)) dX5_unlike_25 ⟨Nat.zero_le _, Nat.zero_le _⟩) hP hD hS hA q_idl q_idr (fun H locs hP hD hS => ?_)
        obtain ⟨z37, e38, h⟩ := q_bind h
        have KJ36 : ∀ (H : Heap) (locs : List Loc), va_P E.1 vwCl (WM E aM vM) H → va_D A (WM E aM vM) → va_S A s.heap H locs → W pr l e rmX5_unlike s m args below meth c H locs 0 0 Q (F0 m 75 ls [.int z37, .int x2]) := by
          intro H locs hP hD hS
          refine lv_iadd hx hb dX5_unlike_75 ?_
          refine lv_istore_n (lv' := [(2, .int (x2 + z37)), (0, .ref (aM 0)), (3, .int x3)]) hx hb dX5_unlike_76 rfl hl (by decide) rfl (fun ls hl => ?_)
          refine lv_iinc (v := (x3 + 1)) (lv' := [(3, .int (x3 + 1)), (2, .int (x2 + z37)), (0, .ref (aM 0))]) hx hb dX5_unlike_77 hl (k := 2) rfl rfl (by decide) rfl (fun ls hl => ?_)
          refine lv_goto (tgt := 15) hx hb dX5_unlike_80 (by decide) ?_
          exact ih (x2 + z37) (x3 + 1) _ _ _ hP hD hS (lv_sub hl [2, 1, 0] rfl) _ h kk
        have h := e38
        refine lv_if_eq (tgt := 74) hx hb dX5_unlike_28 (by decide) (fun c39 => ?_) (fun c39 => ?_)
        · have h := q_pos c39 h
          refine lv_iconst (v := 0) hx hb dX5_unlike_74 (by decide) ?_
          obtain rfl := q_inj h
          exact KJ36 _ _ hP hD hS
        · have h := q_neg c39 h
          refine lv_aload_n hx hb dX5_unlike_31 rfl (lv_at hl 0 rfl) ?_
          refine va_get (D := E.1) (ci := 5) (v := .ref (aM 9)) (C := RX5) (T := TX5) (N := 19) hx hb hts hinX5 hown hK.1 hP 0 rfl rfl 11 (by decide) hw1 (fun _ h9 => h9) rfl dX5_unlike_32 ?_
          refine lv_iload_n hx hb dX5_unlike_35 rfl (lv_at hl 2 rfl) ?_
          obtain ⟨i40, h⟩ := q_ck h
          refine va_zald (f := (M_isSeen vM)) hx hb hK.1 hP 9 2 rfl rfl i40 dX5_unlike_36 ?_
          refine lv_if_eq (tgt := 74) hx hb dX5_unlike_37 (by decide) (fun c41 => ?_) (fun c41 => ?_)
          · have h := q_pos c41 h
            refine lv_iconst (v := 0) hx hb dX5_unlike_74 (by decide) ?_
            obtain rfl := q_inj h
            exact KJ36 _ _ hP hD hS
          · have h := q_neg c41 h
            refine lv_aload_n hx hb dX5_unlike_40 rfl (lv_at hl 0 rfl) ?_
            refine va_get (D := E.1) (ci := 5) (v := .ref (aM 10)) (C := RX5) (T := TX5) (N := 19) hx hb hts hinX5 hown hK.1 hP 0 rfl rfl 12 (by decide) hw2 (fun _ h9 => h9) rfl dX5_unlike_41 ?_
            refine lv_iload_n hx hb dX5_unlike_44 rfl (lv_at hl 2 rfl) ?_
            obtain ⟨i42, h⟩ := q_ck h
            refine va_iald (f := (M_seenBegun vM)) hx hb hK.1 hP 10 0 rfl rfl i42 dX5_unlike_45 ?_
            refine lv_aload_n hx hb dX5_unlike_46 rfl (lv_at hl 0 rfl) ?_
            refine va_get (D := E.1) (ci := 5) (v := .ref (aM 13)) (C := RX5) (T := TX5) (N := 19) hx hb hts hinX5 hown hK.1 hP 0 rfl rfl 15 (by decide) hw3 (fun _ h9 => h9) rfl dX5_unlike_47 ?_
            refine lv_iload_n hx hb dX5_unlike_50 rfl (lv_at hl 2 rfl) ?_
            obtain ⟨i43, h⟩ := q_ck h
            refine va_iald (f := (M_begun vM)) hx hb hK.1 hP 13 0 rfl rfl i43 dX5_unlike_51 ?_
            refine lv_icmp_ne (tgt := 70) hx hb dX5_unlike_52 (by decide) (fun c44 => ?_) (fun c44 => ?_)
            · have h := q_neg c44 h
              refine lv_iconst (v := 1) hx hb dX5_unlike_70 (by decide) ?_
              refine lv_goto (tgt := 75) hx hb dX5_unlike_71 (by decide) ?_
              obtain rfl := q_inj h
              exact KJ36 _ _ hP hD hS
            · have h := q_pos c44 h
              refine lv_aload_n hx hb dX5_unlike_55 rfl (lv_at hl 0 rfl) ?_
              refine va_get (D := E.1) (ci := 5) (v := .ref (aM 11)) (C := RX5) (T := TX5) (N := 19) hx hb hts hinX5 hown hK.1 hP 0 rfl rfl 13 (by decide) hw4 (fun _ h9 => h9) rfl dX5_unlike_56 ?_
              refine lv_iload_n hx hb dX5_unlike_59 rfl (lv_at hl 2 rfl) ?_
              obtain ⟨i45, h⟩ := q_ck h
              refine va_iald (f := (M_seenDone vM)) hx hb hK.1 hP 11 0 rfl rfl i45 dX5_unlike_60 ?_
              refine lv_aload_n hx hb dX5_unlike_61 rfl (lv_at hl 0 rfl) ?_
              refine va_get (D := E.1) (ci := 5) (v := .ref (aM 14)) (C := RX5) (T := TX5) (N := 19) hx hb hts hinX5 hown hK.1 hP 0 rfl rfl 16 (by decide) hw5 (fun _ h9 => h9) rfl dX5_unlike_62 ?_
              refine lv_iload_n hx hb dX5_unlike_65 rfl (lv_at hl 2 rfl) ?_
              obtain ⟨i46, h⟩ := q_ck h
              refine va_iald (f := (M_done vM)) hx hb hK.1 hP 14 0 rfl rfl i46 dX5_unlike_66 ?_
              refine lv_icmp_eq (tgt := 74) hx hb dX5_unlike_67 (by decide) (fun c47 => ?_) (fun c47 => ?_)
              · have h := q_pos c47 h
                refine lv_iconst (v := 0) hx hb dX5_unlike_74 (by decide) ?_
                obtain rfl := q_inj h
                exact KJ36 _ _ hP hD hS
              · have h := q_neg c47 h
                refine lv_iconst (v := 1) hx hb dX5_unlike_70 (by decide) ?_
                refine lv_goto (tgt := 75) hx hb dX5_unlike_71 (by decide) ?_
                obtain rfl := q_inj h
                exact KJ36 _ _ hP hD hS
  unfold mX5_unlike at h
  refine lv_aload_n hx hb dX5_unlike_0 rfl (lv_at hl 0 rfl) ?_
  refine lv_iconst (v := 0) hx hb dX5_unlike_1 (by decide) ?_
  refine va_put (D := E.1) (ci := 5) (v := .int 0) (ty := .int) (C := RX5) (T := TX5) (N := 19) hx hb hts hinX5 tyX5 tyX5_ok nmX5 hown hK.1 hP hD hS 0 rfl rfl 0 (by decide) hw0 (fun _ h9 => h9) rfl (by decide +kernel) rfl rfl (Nat.le_of_ble_eq_true rfl) dX5_unlike_2 (fun H locs hP hD hS => ?_)
  have hP : va_P E.1 vwCl (WM E aM (M_thrown_s vM 0)) H := hP
  have hD : va_D A (WM E aM (M_thrown_s vM 0)) := hD
  refine lv_aload_n hx hb dX5_unlike_5 rfl (lv_at hl 0 rfl) ?_
  refine lv_iconst (v := (-1)) hx hb dX5_unlike_6 (by decide) ?_
  obtain ⟨o1, e2, h⟩ := q_bind h
  refine q_ci (va_runV (As := [.int (-1)]) (rest := []) ⟨hx, hb, hml, hown, hts⟩ (wX5_plays l E aM (M_thrown_s vM 0) (-1) o1 e2 _) (cwV 1 hts gX5_unlike_X5_plays rfl rfl rfl (by decide +kernel) ⟨Nat.le_of_ble_eq_true rfl, Nat.le_of_ble_eq_true rfl⟩) (q_preV hK hP hD q_idl 5 0 rfl rfl) rfl rfl hl.1 rfl (lv_room (Nat.le_of_ble_eq_true rfl)) dX5_unlike_7 ⟨Nat.zero_le _, Nat.zero_le _⟩) hP hD hS hA q_idl q_idr (fun H locs hP hD hS => ?_)
  refine lv_istore_n (lv' := [(1, .int o1.1), (0, .ref (aM 0))]) hx hb dX5_unlike_10 rfl hl (by decide) rfl (fun ls hl => ?_)
  refine lv_iconst (v := 0) hx hb dX5_unlike_11 (by decide) ?_
  refine lv_istore_n (lv' := [(2, .int 0), (1, .int o1.1), (0, .ref (aM 0))]) hx hb dX5_unlike_12 rfl hl (by decide) rfl (fun ls hl => ?_)
  refine lv_iconst (v := 0) hx hb dX5_unlike_13 (by decide) ?_
  refine lv_istore_n (lv' := [(3, .int 0), (2, .int 0), (1, .int o1.1), (0, .ref (aM 0))]) hx hb dX5_unlike_14 rfl hl (by decide) rfl (fun ls hl => ?_)
  obtain ⟨o48, e49, h⟩ := q_bind h
  refine L15 o1.2 0 0 qFU _ _ _ hP hD hS (lv_sub hl [3, 1, 0] rfl) o48 e49 (fun H locs ls hP hD hS hl => ?_)
  refine lv_iload_n hx hb dX5_unlike_83 rfl (lv_at hl 0 rfl) ?_
  obtain rfl := q_inj h
  exact hRt 84 _ _ _ dX5_unlike_84 hP hD hS
def mX5_seenCame (vM : SM) (x1 : Int32) : Option Int32 := if (x1 - x1 / 5 * 5) = 0 then (ck (x1 / 5) 60 (some ((M_start vM) (Int32.toNatClampNeg (x1 / 5))))) else (ck (x1 - 1) 300 (if ((M_isSeen vM) (Int32.toNatClampNeg (x1 - 1))) = 0 then (some (-1)) else (ck (x1 - 1) 300 (ck (x1 - 1) 300 (ck ((M_at vM) (Int32.toNatClampNeg (x1 - 1))) 5 (some (((M_seenDone vM) (Int32.toNatClampNeg (x1 - 1))) + ((M_delay vM) (Int32.toNatClampNeg ((M_at vM) (Int32.toNatClampNeg (x1 - 1))))))))))))
def rmX5_seenCame : Room := { frames := 0, cells := 0, slots := 0, locals := 0 }
set_option maxHeartbeats 8000000 in
set_option maxRecDepth 100000 in
theorem wX5_seenCame (l : Launch) (E : qE) (aM : Nat → Nat) (vM : SM) (x1 : Int32) (o : Int32) (h : mX5_seenCame vM x1 = some o) : MI l E yX5_seenCame wsX5_seenCame rmX5_seenCame [.ref (aM 0), .int x1] (WM E aM vM) (WM E aM vM) o := by
  refine q_startI (cc := cX5_seenCame) (maxL := 2) (by decide) rfl (Nat.le_of_ble_eq_true rfl) ?_
  intro pr e s m args below meth c A Q hx hb hml hown hts hK hRt hP hD hA hS ls hl
  have hl : lv_has ls 2 [(0, .ref (aM 0)), (1, .int x1)] := hl
  have hinX5 : ∀ w ∈ wsX50, w ∈ wsX5_seenCame := by decide +kernel
  have hw0 := hts (.fieldLink RX5 34 "QueueReaderModel" "isSeen" "[Z") (by decide +kernel)
  have hw1 := hts (.fieldLink RX5 41 "QueueReaderModel" "seenDone" "[I") (by decide +kernel)
  have hw2 := hts (.fieldLink RX5 16 "QueueReaderModel" "delay" "[I") (by decide +kernel)
  have hw3 := hts (.fieldLink RX5 28 "QueueReaderModel" "at" "[I") (by decide +kernel)
  have hw4 := hts (.fieldLink RX5 22 "QueueReaderModel" "start" "[I") (by decide +kernel)
  unfold mX5_seenCame at h
  refine lv_iload_n hx hb dX5_seenCame_0 rfl (lv_at hl 1 rfl) ?_
  refine lv_iconst (v := 5) hx hb dX5_seenCame_1 (by decide) ?_
  refine lv_irem hx hb dX5_seenCame_2 (by decide) ?_
  refine lv_if_ne (tgt := 17) hx hb dX5_seenCame_3 (by decide) (fun c1 => ?_) (fun c1 => ?_)
  · have h := q_neg c1 h
    refine lv_aload_n hx hb dX5_seenCame_17 rfl (lv_at hl 0 rfl) ?_
    refine va_get (D := E.1) (ci := 5) (v := .ref (aM 9)) (C := RX5) (T := TX5) (N := 19) hx hb hts hinX5 hown hK.1 hP 0 rfl rfl 11 (by decide) hw0 (fun _ h9 => h9) rfl dX5_seenCame_18 ?_
    refine lv_iload_n hx hb dX5_seenCame_21 rfl (lv_at hl 1 rfl) ?_
    refine lv_iconst (v := 1) hx hb dX5_seenCame_22 (by decide) ?_
    refine lv_isub hx hb dX5_seenCame_23 ?_
    obtain ⟨i2, h⟩ := q_ck h
    refine va_zald (f := (M_isSeen vM)) hx hb hK.1 hP 9 2 rfl rfl i2 dX5_seenCame_24 ?_
    refine lv_if_eq (tgt := 53) hx hb dX5_seenCame_25 (by decide) (fun c3 => ?_) (fun c3 => ?_)
    · have h := q_pos c3 h
      refine lv_iconst (v := (-1)) hx hb dX5_seenCame_53 (by decide) ?_
      obtain rfl := q_inj h
      exact hRt 54 _ _ _ dX5_seenCame_54 hP hD hS
    · have h := q_neg c3 h
      refine lv_aload_n hx hb dX5_seenCame_28 rfl (lv_at hl 0 rfl) ?_
      refine va_get (D := E.1) (ci := 5) (v := .ref (aM 11)) (C := RX5) (T := TX5) (N := 19) hx hb hts hinX5 hown hK.1 hP 0 rfl rfl 13 (by decide) hw1 (fun _ h9 => h9) rfl dX5_seenCame_29 ?_
      refine lv_iload_n hx hb dX5_seenCame_32 rfl (lv_at hl 1 rfl) ?_
      refine lv_iconst (v := 1) hx hb dX5_seenCame_33 (by decide) ?_
      refine lv_isub hx hb dX5_seenCame_34 ?_
      obtain ⟨i4, h⟩ := q_ck h
      refine va_iald (f := (M_seenDone vM)) hx hb hK.1 hP 11 0 rfl rfl i4 dX5_seenCame_35 ?_
      refine lv_aload_n hx hb dX5_seenCame_36 rfl (lv_at hl 0 rfl) ?_
      refine va_get (D := E.1) (ci := 5) (v := .ref (aM 3)) (C := RX5) (T := TX5) (N := 19) hx hb hts hinX5 hown hK.1 hP 0 rfl rfl 3 (by decide) hw2 (fun _ h9 => h9) rfl dX5_seenCame_37 ?_
      refine lv_aload_n hx hb dX5_seenCame_40 rfl (lv_at hl 0 rfl) ?_
      refine va_get (D := E.1) (ci := 5) (v := .ref (aM 7)) (C := RX5) (T := TX5) (N := 19) hx hb hts hinX5 hown hK.1 hP 0 rfl rfl 9 (by decide) hw3 (fun _ h9 => h9) rfl dX5_seenCame_41 ?_
      refine lv_iload_n hx hb dX5_seenCame_44 rfl (lv_at hl 1 rfl) ?_
      refine lv_iconst (v := 1) hx hb dX5_seenCame_45 (by decide) ?_
      refine lv_isub hx hb dX5_seenCame_46 ?_
      obtain ⟨i5, h⟩ := q_ck h
      refine va_iald (f := (M_at vM)) hx hb hK.1 hP 7 0 rfl rfl i5 dX5_seenCame_47 ?_
      obtain ⟨i6, h⟩ := q_ck h
      refine va_iald (f := (M_delay vM)) hx hb hK.1 hP 3 0 rfl rfl i6 dX5_seenCame_48 ?_
      refine lv_iadd hx hb dX5_seenCame_49 ?_
      refine lv_goto (tgt := 54) hx hb dX5_seenCame_50 (by decide) ?_
      obtain rfl := q_inj h
      exact hRt 54 _ _ _ dX5_seenCame_54 hP hD hS
  · have h := q_pos c1 h
    refine lv_aload_n hx hb dX5_seenCame_6 rfl (lv_at hl 0 rfl) ?_
    refine va_get (D := E.1) (ci := 5) (v := .ref (aM 5)) (C := RX5) (T := TX5) (N := 19) hx hb hts hinX5 hown hK.1 hP 0 rfl rfl 6 (by decide) hw4 (fun _ h9 => h9) rfl dX5_seenCame_7 ?_
    refine lv_iload_n hx hb dX5_seenCame_10 rfl (lv_at hl 1 rfl) ?_
    refine lv_iconst (v := 5) hx hb dX5_seenCame_11 (by decide) ?_
    refine lv_idiv hx hb dX5_seenCame_12 (by decide) ?_
    obtain ⟨i7, h⟩ := q_ck h
    refine va_iald (f := (M_start vM)) hx hb hK.1 hP 5 0 rfl rfl i7 dX5_seenCame_13 ?_
    refine lv_goto (tgt := 54) hx hb dX5_seenCame_14 (by decide) ?_
    obtain rfl := q_inj h
    exact hRt 54 _ _ _ dX5_seenCame_54 hP hD hS
def lpX5_isWhole_7 (vM : SM) (x1 : Int32) : Nat → Int32 → Int32 → Int32 → Option (Int32 × Int32)
  | 0, _, _, _ => none
  | k + 1, x2, x3, x4 => if 300 ≤ x4 then (some (x2, x3)) else ((mX5_isStep vM x4).bind fun o32 => if o32 = 0 then (lpX5_isWhole_7 vM x1 k x2 x3 (x4 + 1)) else (ck x4 300 (if ((M_at vM) (Int32.toNatClampNeg x4)) = x1 then (Option.bind (if x2 = 0 then (some 0) else (ck x4 300 (if ((M_isSeen vM) (Int32.toNatClampNeg x4)) = 0 then (some 0) else ((mX5_seenCame vM x4).bind fun o43 => if o43 < 0 then (some 0) else (some 1))))) fun z38 => lpX5_isWhole_7 vM x1 k z38 1 (x4 + 1)) else (lpX5_isWhole_7 vM x1 k x2 x3 (x4 + 1)))))
def mX5_isWhole (vM : SM) (x1 : Int32) : Option Int32 := (lpX5_isWhole_7 vM x1 qFU 1 0 0).bind fun o46 => if o46.1 = 0 then (some 0) else (if o46.2 = 0 then (some 0) else (some 1))
def rmX5_isWhole : Room := { frames := 1, cells := 0, slots := 0, locals := 21 }
set_option maxHeartbeats 8000000 in
set_option maxRecDepth 100000 in
theorem wX5_isWhole (l : Launch) (E : qE) (aM : Nat → Nat) (vM : SM) (x1 : Int32) (o : Int32) (h : mX5_isWhole vM x1 = some o) : MI l E yX5_isWhole wsX5_isWhole rmX5_isWhole [.ref (aM 0), .int x1] (WM E aM vM) (WM E aM vM) o := by
  refine q_startZ (cc := cX5_isWhole) (maxL := 5) (by decide) rfl (Nat.le_of_ble_eq_true rfl) ?_
  intro pr e s m args below meth c A Q hx hb hml hown hts hK hRt hP hD hA hS ls hl
  have hl : lv_has ls 5 [(0, .ref (aM 0)), (1, .int x1)] := hl
  have hinX5 : ∀ w ∈ wsX50, w ∈ wsX5_isWhole := by decide +kernel
  have hw0 := hts (.fieldLink RX5 28 "QueueReaderModel" "at" "[I") (by decide +kernel)
  have hw1 := hts (.fieldLink RX5 34 "QueueReaderModel" "isSeen" "[Z") (by decide +kernel)
  have L7 : ∀ (vM : SM) (x1 : Int32) (x2 : Int32) (x3 : Int32) (x4 : Int32) (k : Nat) (H : Heap) (locs : List Loc) (ls : Array Slot), va_P E.1 vwCl (WM E aM vM) H → va_D A (WM E aM vM) → va_S A s.heap H locs → lv_has ls 5 [(0, .ref (aM 0)), (1, .int x1), (2, .int x2), (3, .int x3), (4, .int x4)] → ∀ o, lpX5_isWhole_7 vM x1 k x2 x3 x4 = some o → (∀ (H : Heap) (locs : List Loc) (ls : Array Slot), va_P E.1 vwCl (WM E aM vM) H → va_D A (WM E aM vM) → va_S A s.heap H locs → lv_has ls 5 [(2, .int o.1), (3, .int o.2)] → W pr l e rmX5_isWhole s m args below meth c H locs 0 0 Q (F0 m 75 ls [])) → W pr l e rmX5_isWhole s m args below meth c H locs 0 0 Q (F0 m 7 ls []) := by
    intro vM x1 x2 x3 x4 k
    induction k generalizing x2 x3 x4 with
    | zero => intro H locs ls hP hD hS hl o h; cases h
    | succ k ih =>
      intro H locs ls hP hD hS hl o h kk
      rw [lpX5_isWhole_7] at h
      refine lv_iload hx hb dX5_isWhole_7 (lv_at hl 4 rfl) ?_
      refine lv_sipush (v := 300) hx hb dX5_isWhole_9 (by decide) ?_
      refine lv_icmp_ge (tgt := 75) hx hb dX5_isWhole_12 (by decide) (fun c31 => ?_) (fun c31 => ?_)
      · have h := q_pos c31 h
        obtain rfl := q_inj h
        exact kk _ _ _ hP hD hS (lv_sub hl [2, 3] rfl)
      · have h := q_neg c31 h
        refine lv_aload_n hx hb dX5_isWhole_15 rfl (lv_at hl 0 rfl) ?_
        refine lv_iload hx hb dX5_isWhole_16 (lv_at hl 4 rfl) ?_
        obtain ⟨o32, e33, h⟩ := q_bind h
        refine q_ci (va_runV (As := [.int x4]) (rest := []) ⟨hx, hb, hml, hown, hts⟩ (wX5_isStep l E aM vM x4 o32 e33 _) (cwV 1 hts gX5_isWhole_X5_isStep rfl rfl rfl (by decide +kernel) ⟨Nat.le_of_ble_eq_true rfl, Nat.le_of_ble_eq_true rfl⟩) (q_preV hK hP hD q_idl 5 0 rfl rfl) rfl rfl hl.1 rfl (lv_room (Nat.le_of_ble_eq_true rfl)) dX5_isWhole_18 ⟨Nat.zero_le _, Nat.zero_le _⟩) hP hD hS hA q_idl q_idr (fun H locs hP hD hS => ?_)
        refine lv_if_eq (tgt := 69) hx hb dX5_isWhole_21 (by decide) (fun c34 => ?_) (fun c34 => ?_)
        · have h := q_pos c34 h
          refine lv_iinc (v := (x4 + 1)) (lv' := [(4, .int (x4 + 1)), (0, .ref (aM 0)), (1, .int x1), (2, .int x2), (3, .int x3)]) hx hb dX5_isWhole_69 hl (k := 4) rfl rfl (by decide) rfl (fun ls hl => ?_)
          refine lv_goto (tgt := 7) hx hb dX5_isWhole_72 (by decide) ?_
          exact ih x2 x3 (x4 + 1) _ _ _ hP hD hS (lv_sub hl [1, 2, 3, 4, 0] rfl) _ h kk
        · have h := q_neg c34 h
          refine lv_aload_n hx hb dX5_isWhole_24 rfl (lv_at hl 0 rfl) ?_
          refine va_get (D := E.1) (ci := 5) (v := .ref (aM 7)) (C := RX5) (T := TX5) (N := 19) hx hb hts hinX5 hown hK.1 hP 0 rfl rfl 9 (by decide) hw0 (fun _ h9 => h9) rfl dX5_isWhole_25 ?_
          refine lv_iload hx hb dX5_isWhole_28 (lv_at hl 4 rfl) ?_
          obtain ⟨i35, h⟩ := q_ck h
          refine va_iald (f := (M_at vM)) hx hb hK.1 hP 7 0 rfl rfl i35 dX5_isWhole_30 ?_
          refine lv_iload_n hx hb dX5_isWhole_31 rfl (lv_at hl 1 rfl) ?_
          refine lv_icmp_eq (tgt := 38) hx hb dX5_isWhole_32 (by decide) (fun c36 => ?_) (fun c36 => ?_)
          · have h := q_pos c36 h
            refine lv_iconst (v := 1) hx hb dX5_isWhole_38 (by decide) ?_
            refine lv_istore_n (lv' := [(3, .int 1), (0, .ref (aM 0)), (1, .int x1), (2, .int x2), (4, .int x4)]) hx hb dX5_isWhole_39 rfl hl (by decide) rfl (fun ls hl => ?_)
            refine lv_iload_n hx hb dX5_isWhole_40 rfl (lv_at hl 3 rfl) ?_
            obtain ⟨z38, e39, h⟩ := q_bind h
            have KJ37 : ∀ (H : Heap) (locs : List Loc), va_P E.1 vwCl (WM E aM vM) H → va_D A (WM E aM vM) → va_S A s.heap H locs → W pr l e rmX5_isWhole s m args below meth c H locs 0 0 Q (F0 m 68 ls [.int z38]) := by
              intro H locs hP hD hS
              refine lv_istore_n (lv' := [(2, .int z38), (3, .int 1), (0, .ref (aM 0)), (1, .int x1), (4, .int x4)]) hx hb dX5_isWhole_68 rfl hl (by decide) rfl (fun ls hl => ?_)
              refine lv_iinc (v := (x4 + 1)) (lv' := [(4, .int (x4 + 1)), (2, .int z38), (3, .int 1), (0, .ref (aM 0)), (1, .int x1)]) hx hb dX5_isWhole_69 hl (k := 4) rfl rfl (by decide) rfl (fun ls hl => ?_)
              refine lv_goto (tgt := 7) hx hb dX5_isWhole_72 (by decide) ?_
              exact ih z38 1 (x4 + 1) _ _ _ hP hD hS (lv_sub hl [3, 4, 1, 2, 0] rfl) _ h kk
            have h := e39
            refine lv_if_eq (tgt := 67) hx hb dX5_isWhole_41 (by decide) (fun c40 => ?_) (fun c40 => ?_)
            · have h := q_pos c40 h
              refine lv_iconst (v := 0) hx hb dX5_isWhole_67 (by decide) ?_
              obtain rfl := q_inj h
              exact KJ37 _ _ hP hD hS
            · have h := q_neg c40 h
              refine lv_aload_n hx hb dX5_isWhole_44 rfl (lv_at hl 1 rfl) ?_
              refine va_get (D := E.1) (ci := 5) (v := .ref (aM 9)) (C := RX5) (T := TX5) (N := 19) hx hb hts hinX5 hown hK.1 hP 0 rfl rfl 11 (by decide) hw1 (fun _ h9 => h9) rfl dX5_isWhole_45 ?_
              refine lv_iload hx hb dX5_isWhole_48 (lv_at hl 4 rfl) ?_
              obtain ⟨i41, h⟩ := q_ck h
              refine va_zald (f := (M_isSeen vM)) hx hb hK.1 hP 9 2 rfl rfl i41 dX5_isWhole_50 ?_
              refine lv_if_eq (tgt := 67) hx hb dX5_isWhole_51 (by decide) (fun c42 => ?_) (fun c42 => ?_)
              · have h := q_pos c42 h
                refine lv_iconst (v := 0) hx hb dX5_isWhole_67 (by decide) ?_
                obtain rfl := q_inj h
                exact KJ37 _ _ hP hD hS
              · have h := q_neg c42 h
                refine lv_aload_n hx hb dX5_isWhole_54 rfl (lv_at hl 1 rfl) ?_
                refine lv_iload hx hb dX5_isWhole_55 (lv_at hl 4 rfl) ?_
                obtain ⟨o43, e44, h⟩ := q_bind h
                refine q_ci (va_runV (As := [.int x4]) (rest := []) ⟨hx, hb, hml, hown, hts⟩ (wX5_seenCame l E aM vM x4 o43 e44 _) (cwV 1 hts gX5_isWhole_X5_seenCame rfl rfl rfl (by decide +kernel) ⟨Nat.le_of_ble_eq_true rfl, Nat.le_of_ble_eq_true rfl⟩) (q_preV hK hP hD q_idl 5 0 rfl rfl) rfl rfl hl.1 rfl (lv_room (Nat.le_of_ble_eq_true rfl)) dX5_isWhole_57 ⟨Nat.zero_le _, Nat.zero_le _⟩) hP hD hS hA q_idl q_idr (fun H locs hP hD hS => ?_)
                refine lv_if_lt (tgt := 67) hx hb dX5_isWhole_60 (by decide) (fun c45 => ?_) (fun c45 => ?_)
                · have h := q_pos c45 h
                  refine lv_iconst (v := 0) hx hb dX5_isWhole_67 (by decide) ?_
                  obtain rfl := q_inj h
                  exact KJ37 _ _ hP hD hS
                · have h := q_neg c45 h
                  refine lv_iconst (v := 1) hx hb dX5_isWhole_63 (by decide) ?_
                  refine lv_goto (tgt := 68) hx hb dX5_isWhole_64 (by decide) ?_
                  obtain rfl := q_inj h
                  exact KJ37 _ _ hP hD hS
          · have h := q_neg c36 h
            refine lv_goto (tgt := 69) hx hb dX5_isWhole_35 (by decide) ?_
            refine lv_iinc (v := (x4 + 1)) (lv' := [(4, .int (x4 + 1)), (0, .ref (aM 0)), (1, .int x1), (2, .int x2), (3, .int x3)]) hx hb dX5_isWhole_69 hl (k := 4) rfl rfl (by decide) rfl (fun ls hl => ?_)
            refine lv_goto (tgt := 7) hx hb dX5_isWhole_72 (by decide) ?_
            exact ih x2 x3 (x4 + 1) _ _ _ hP hD hS (lv_sub hl [1, 2, 3, 4, 0] rfl) _ h kk
  unfold mX5_isWhole at h
  refine lv_iconst (v := 1) hx hb dX5_isWhole_0 (by decide) ?_
  refine lv_istore_n (lv' := [(2, .int 1), (0, .ref (aM 0)), (1, .int x1)]) hx hb dX5_isWhole_1 rfl hl (by decide) rfl (fun ls hl => ?_)
  refine lv_iconst (v := 0) hx hb dX5_isWhole_2 (by decide) ?_
  refine lv_istore_n (lv' := [(3, .int 0), (2, .int 1), (0, .ref (aM 0)), (1, .int x1)]) hx hb dX5_isWhole_3 rfl hl (by decide) rfl (fun ls hl => ?_)
  refine lv_iconst (v := 0) hx hb dX5_isWhole_4 (by decide) ?_
  refine lv_istore (lv' := [(4, .int 0), (3, .int 0), (2, .int 1), (0, .ref (aM 0)), (1, .int x1)]) hx hb dX5_isWhole_5 hl (by decide) rfl (fun ls hl => ?_)
  obtain ⟨o46, e47, h⟩ := q_bind h
  refine L7 vM x1 1 0 0 qFU _ _ _ hP hD hS (lv_sub hl [3, 4, 2, 1, 0] rfl) o46 e47 (fun H locs ls hP hD hS hl => ?_)
  refine lv_iload_n hx hb dX5_isWhole_75 rfl (lv_at hl 0 rfl) ?_
  refine lv_if_eq (tgt := 87) hx hb dX5_isWhole_76 (by decide) (fun c49 => ?_) (fun c49 => ?_)
  · have h := q_pos c49 h
    refine lv_iconst (v := 0) hx hb dX5_isWhole_87 (by decide) ?_
    obtain rfl := q_inj h
    exact hRt 88 _ _ _ dX5_isWhole_88 q_n0 hP hD hS
  · have h := q_neg c49 h
    refine lv_iload_n hx hb dX5_isWhole_79 rfl (lv_at hl 1 rfl) ?_
    refine lv_if_eq (tgt := 87) hx hb dX5_isWhole_80 (by decide) (fun c50 => ?_) (fun c50 => ?_)
    · have h := q_pos c50 h
      refine lv_iconst (v := 0) hx hb dX5_isWhole_87 (by decide) ?_
      obtain rfl := q_inj h
      exact hRt 88 _ _ _ dX5_isWhole_88 q_n0 hP hD hS
    · have h := q_neg c50 h
      refine lv_iconst (v := 1) hx hb dX5_isWhole_83 (by decide) ?_
      refine lv_goto (tgt := 88) hx hb dX5_isWhole_84 (by decide) ?_
      obtain rfl := q_inj h
      exact hRt 88 _ _ _ dX5_isWhole_88 q_n1 hP hD hS
def lpX5_agrees_7 (x1 : Int32) : Nat → Int32 → SM → Option SM
  | 0, _, _ => none
  | k + 1, x4, vM => if 300 ≤ x4 then (some vM) else ((mX5_isStep vM x4).bind fun o28 => if o28 = 0 then (lpX5_agrees_7 x1 k (x4 + 1) vM) else (ck x4 300 (if ((M_at vM) (Int32.toNatClampNeg x4)) = x1 then ((mX5_seenCame vM x4).bind fun o33 => ck x4 300 (ck x4 300 (ck x4 300 (ck x4 300 (lpX5_agrees_7 x1 k (x4 + 1) (M_pWork_s (M_came_s vM (upd (M_came vM) (Int32.toNatClampNeg x4) o33)) (upd (M_pWork vM) (Int32.toNatClampNeg x4) (((M_seenDone vM) (Int32.toNatClampNeg x4)) - ((M_seenBegun vM) (Int32.toNatClampNeg x4)))))))))) else (lpX5_agrees_7 x1 k (x4 + 1) vM))))
def lpX5_agrees_89 (vM : SM) (x4 : Int32) : Nat → Int32 → Int32 → Option Int32
  | 0, _, _ => none
  | k + 1, x5, x6 => if (5 * (M_asks vM)) ≤ x6 then (some x5) else (ck x6 300 (if ((M_came vM) (Int32.toNatClampNeg x6)) ≤ x4 then (ck x6 300 (if ((M_done vM) (Int32.toNatClampNeg x6)) ≤ x4 then (lpX5_agrees_89 vM x4 k x5 (x6 + 1)) else (ck x6 300 (lpX5_agrees_89 vM x4 k (if ((M_done vM) (Int32.toNatClampNeg x6)) < x5 then ((M_done vM) (Int32.toNatClampNeg x6)) else x5) (x6 + 1))))) else (ck x6 300 (ck x6 300 (if ((M_done vM) (Int32.toNatClampNeg x6)) ≤ x4 then (lpX5_agrees_89 vM x4 k (if ((M_came vM) (Int32.toNatClampNeg x6)) < x5 then ((M_came vM) (Int32.toNatClampNeg x6)) else x5) (x6 + 1)) else (ck x6 300 (lpX5_agrees_89 vM x4 k (if ((M_done vM) (Int32.toNatClampNeg x6)) < (if ((M_came vM) (Int32.toNatClampNeg x6)) < x5 then ((M_came vM) (Int32.toNatClampNeg x6)) else x5) then ((M_done vM) (Int32.toNatClampNeg x6)) else (if ((M_came vM) (Int32.toNatClampNeg x6)) < x5 then ((M_came vM) (Int32.toNatClampNeg x6)) else x5)) (x6 + 1))))))))
def lpX5_agrees_174 (x4 : Int32) : Nat → Int32 → SM → Option SM
  | 0, _, _ => none
  | k + 1, x6, vM => if (5 * (M_asks vM)) ≤ x6 then (some vM) else (ck x6 300 (if ((M_came vM) (Int32.toNatClampNeg x6)) = x4 then (ck x6 300 (lpX5_agrees_174 x4 k (x6 + 1) (M_waits_s vM (upd (M_waits vM) (Int32.toNatClampNeg x6) (vp_nar .boolean 1))))) else (lpX5_agrees_174 x4 k (x6 + 1) vM)))
def lpX5_agrees_223 (vM : SM) (x4 : Int32) : Nat → Int32 → Option (Sum (Int32 × SM) (Unit))
  | 0, _ => none
  | k + 1, x6 => if (5 * (M_asks vM)) ≤ x6 then (some (Sum.inr ())) else (ck x6 300 (if ((M_begun vM) (Int32.toNatClampNeg x6)) = x4 then (ck x6 300 (if ((M_seenBegun vM) (Int32.toNatClampNeg x6)) = x4 then (lpX5_agrees_223 vM x4 k (x6 + 1)) else (some (Sum.inl (0, vM))))) else (lpX5_agrees_223 vM x4 k (x6 + 1))))
def lpX5_agrees_82 (x1 : Int32) (x2 : Int32) (x3 : Int32) : Nat → Int32 → SM → Option (Int32 × SM)
  | 0, _, _ => none
  | k + 1, x4, vM => (lpX5_agrees_89 vM x4 qFU 2000000000 0).bind fun o123 => if o123 = 2000000000 then (some ((1, vM))) else ((lpX5_agrees_174 o123 qFU 0 vM).bind fun o127 => (mX5_begins o127 x1 x2 x3 o123).bind fun o130 => (lpX5_agrees_223 o130 o123 qFU 0).bind fun o132 => qS o132 (fun z => z) fun vo132 => lpX5_agrees_82 x1 x2 x3 k o123 o130)
def mX5_agrees (vM : SM) (x1 : Int32) (x2 : Int32) (x3 : Int32) : Option (Int32 × SM) := (mX5_forgets vM).bind fun o1 => (lpX5_agrees_7 x1 qFU 0 o1).bind fun o39 => (lpX5_agrees_82 x1 x2 x3 qFU (-1) o39).bind fun o135 => some o135
def rmX5_agrees : Room := { frames := 3, cells := 0, slots := 0, locals := 73 }
set_option maxHeartbeats 8000000 in
set_option maxRecDepth 100000 in
theorem wX5_agrees (l : Launch) (E : qE) (aM : Nat → Nat) (vM : SM) (x1 : Int32) (x2 : Int32) (x3 : Int32) (o : Int32 × SM) (h : mX5_agrees vM x1 x2 x3 = some o) : MI l E yX5_agrees wsX5_agrees rmX5_agrees [.ref (aM 0), .int x1, .int x2, .int x3] (WM E aM vM) (WM E aM o.2) o.1 := by
  refine q_startZ (cc := cX5_agrees) (maxL := 7) (by decide) rfl (Nat.le_of_ble_eq_true rfl) ?_
  intro pr e s m args below meth c A Q hx hb hml hown hts hK hRt hP hD hA hS ls hl
  have hl : lv_has ls 7 [(0, .ref (aM 0)), (1, .int x1), (2, .int x2), (3, .int x3)] := hl
  have hinX5 : ∀ w ∈ wsX50, w ∈ wsX5_agrees := by decide +kernel
  have hw0 := hts (.fieldLink RX5 28 "QueueReaderModel" "at" "[I") (by decide +kernel)
  have hw1 := hts (.fieldLink RX5 44 "QueueReaderModel" "came" "[I") (by decide +kernel)
  have hw2 := hts (.fieldLink RX5 56 "QueueReaderModel" "pWork" "[I") (by decide +kernel)
  have hw3 := hts (.fieldLink RX5 41 "QueueReaderModel" "seenDone" "[I") (by decide +kernel)
  have hw4 := hts (.fieldLink RX5 38 "QueueReaderModel" "seenBegun" "[I") (by decide +kernel)
  have hw5 := hts (.constant RX5 96 (2000000000)) (by decide +kernel)
  have hw6 := hts (.fieldLink RX5 70 "QueueReaderModel" "asks" "I") (by decide +kernel)
  have hw7 := hts (.fieldLink RX5 50 "QueueReaderModel" "done" "[I") (by decide +kernel)
  have hw8 := hts (.methodLink RX5 107 Lib.Math.min.name) (by decide +kernel)
  have hw9 := hts (.static Lib.Math.min.name) (by decide +kernel)
  have hw10 := hts (.initialized "java/lang/Math") (by decide +kernel)
  have hw11 := hts (.code Lib.Math.min.name Lib.Math.min.code 2 (some .int)) (by decide +kernel)
  have hw12 := hts (.fieldLink RX5 53 "QueueReaderModel" "waits" "[Z") (by decide +kernel)
  have hw13 := hts (.fieldLink RX5 47 "QueueReaderModel" "begun" "[I") (by decide +kernel)
  have L7 : ∀ (vM : SM) (x1 : Int32) (x2 : Int32) (x3 : Int32) (x4 : Int32) (k : Nat) (H : Heap) (locs : List Loc) (ls : Array Slot), va_P E.1 vwCl (WM E aM vM) H → va_D A (WM E aM vM) → va_S A s.heap H locs → lv_has ls 7 [(0, .ref (aM 0)), (1, .int x1), (2, .int x2), (3, .int x3), (4, .int x4)] → ∀ o, lpX5_agrees_7 x1 k x4 vM = some o → (∀ (H : Heap) (locs : List Loc) (ls : Array Slot), va_P E.1 vwCl (WM E aM o) H → va_D A (WM E aM o) → va_S A s.heap H locs → lv_has ls 7 [(0, .ref (aM 0)), (1, .int x1), (2, .int x2), (3, .int x3)] → W pr l e rmX5_agrees s m args below meth c H locs 0 0 Q (F0 m 79 ls [])) → W pr l e rmX5_agrees s m args below meth c H locs 0 0 Q (F0 m 7 ls []) := by
    intro vM x1 x2 x3 x4 k
    induction k generalizing x4 vM with
    | zero => intro H locs ls hP hD hS hl o h; cases h
    | succ k ih =>
      intro H locs ls hP hD hS hl o h kk
      rw [lpX5_agrees_7] at h
      refine lv_iload hx hb dX5_agrees_7 (lv_at hl 4 rfl) ?_
      refine lv_sipush (v := 300) hx hb dX5_agrees_9 (by decide) ?_
      refine lv_icmp_ge (tgt := 79) hx hb dX5_agrees_12 (by decide) (fun c27 => ?_) (fun c27 => ?_)
      · have h := q_pos c27 h
        obtain rfl := q_inj h
        exact kk _ _ _ hP hD hS (lv_sub hl [0, 1, 2, 3] rfl)
      · have h := q_neg c27 h
        refine lv_aload_n hx hb dX5_agrees_15 rfl (lv_at hl 0 rfl) ?_
        refine lv_iload hx hb dX5_agrees_16 (lv_at hl 4 rfl) ?_
        obtain ⟨o28, e29, h⟩ := q_bind h
        refine q_ci (va_runV (As := [.int x4]) (rest := []) ⟨hx, hb, hml, hown, hts⟩ (wX5_isStep l E aM vM x4 o28 e29 _) (cwV 1 hts gX5_agrees_X5_isStep rfl rfl rfl (by decide +kernel) ⟨Nat.le_of_ble_eq_true rfl, Nat.le_of_ble_eq_true rfl⟩) (q_preV hK hP hD q_idl 5 0 rfl rfl) rfl rfl hl.1 rfl (lv_room (Nat.le_of_ble_eq_true rfl)) dX5_agrees_18 ⟨Nat.zero_le _, Nat.zero_le _⟩) hP hD hS hA q_idl q_idr (fun H locs hP hD hS => ?_)
        refine lv_if_eq (tgt := 73) hx hb dX5_agrees_21 (by decide) (fun c30 => ?_) (fun c30 => ?_)
        · have h := q_pos c30 h
          refine lv_iinc (v := (x4 + 1)) (lv' := [(4, .int (x4 + 1)), (0, .ref (aM 0)), (1, .int x1), (2, .int x2), (3, .int x3)]) hx hb dX5_agrees_73 hl (k := 4) rfl rfl (by decide) rfl (fun ls hl => ?_)
          refine lv_goto (tgt := 7) hx hb dX5_agrees_76 (by decide) ?_
          exact ih vM (x4 + 1) _ _ _ hP hD hS (lv_sub hl [1, 2, 3, 4, 0] rfl) _ h kk
        · have h := q_neg c30 h
          refine lv_aload_n hx hb dX5_agrees_24 rfl (lv_at hl 0 rfl) ?_
          refine va_get (D := E.1) (ci := 5) (v := .ref (aM 7)) (C := RX5) (T := TX5) (N := 19) hx hb hts hinX5 hown hK.1 hP 0 rfl rfl 9 (by decide) hw0 (fun _ h9 => h9) rfl dX5_agrees_25 ?_
          refine lv_iload hx hb dX5_agrees_28 (lv_at hl 4 rfl) ?_
          obtain ⟨i31, h⟩ := q_ck h
          refine va_iald (f := (M_at vM)) hx hb hK.1 hP 7 0 rfl rfl i31 dX5_agrees_30 ?_
          refine lv_iload_n hx hb dX5_agrees_31 rfl (lv_at hl 1 rfl) ?_
          refine lv_icmp_eq (tgt := 38) hx hb dX5_agrees_32 (by decide) (fun c32 => ?_) (fun c32 => ?_)
          · have h := q_pos c32 h
            refine lv_aload_n hx hb dX5_agrees_38 rfl (lv_at hl 0 rfl) ?_
            refine va_get (D := E.1) (ci := 5) (v := .ref (aM 12)) (C := RX5) (T := TX5) (N := 19) hx hb hts hinX5 hown hK.1 hP 0 rfl rfl 14 (by decide) hw1 (fun _ h9 => h9) rfl dX5_agrees_39 ?_
            refine lv_iload hx hb dX5_agrees_42 (lv_at hl 4 rfl) ?_
            refine lv_aload_n hx hb dX5_agrees_44 rfl (lv_at hl 0 rfl) ?_
            refine lv_iload hx hb dX5_agrees_45 (lv_at hl 4 rfl) ?_
            obtain ⟨o33, e34, h⟩ := q_bind h
            refine q_ci (va_runV (As := [.int x4]) (rest := [.int x4, .ref (aM 12)]) ⟨hx, hb, hml, hown, hts⟩ (wX5_seenCame l E aM vM x4 o33 e34 _) (cwV 1 hts gX5_agrees_X5_seenCame rfl rfl rfl (by decide +kernel) ⟨Nat.le_of_ble_eq_true rfl, Nat.le_of_ble_eq_true rfl⟩) (q_preV hK hP hD q_idl 5 0 rfl rfl) rfl rfl hl.1 rfl (lv_room (Nat.le_of_ble_eq_true rfl)) dX5_agrees_47 ⟨Nat.zero_le _, Nat.zero_le _⟩) hP hD hS hA q_idl q_idr (fun H locs hP hD hS => ?_)
            obtain ⟨i35, h⟩ := q_ck h
            refine va_iast (f := (M_came vM)) hx hb hK.1 hP hD hS 12 0 rfl rfl i35 dX5_agrees_50 (fun H locs hP hD hS => ?_)
            have hP : va_P E.1 vwCl (WM E aM (M_came_s vM (upd (M_came vM) (Int32.toNatClampNeg x4) o33))) H := hP
            have hD : va_D A (WM E aM (M_came_s vM (upd (M_came vM) (Int32.toNatClampNeg x4) o33))) := hD
            refine lv_aload_n hx hb dX5_agrees_51 rfl (lv_at hl 0 rfl) ?_
            refine va_get (D := E.1) (ci := 5) (v := .ref (aM 16)) (C := RX5) (T := TX5) (N := 19) hx hb hts hinX5 hown hK.1 hP 0 rfl rfl 18 (by decide) hw2 (fun _ h9 => h9) rfl dX5_agrees_52 ?_
            refine lv_iload hx hb dX5_agrees_55 (lv_at hl 4 rfl) ?_
            refine lv_aload_n hx hb dX5_agrees_57 rfl (lv_at hl 0 rfl) ?_
            refine va_get (D := E.1) (ci := 5) (v := .ref (aM 11)) (C := RX5) (T := TX5) (N := 19) hx hb hts hinX5 hown hK.1 hP 0 rfl rfl 13 (by decide) hw3 (fun _ h9 => h9) rfl dX5_agrees_58 ?_
            refine lv_iload hx hb dX5_agrees_61 (lv_at hl 4 rfl) ?_
            obtain ⟨i36, h⟩ := q_ck h
            refine va_iald (f := (M_seenDone vM)) hx hb hK.1 hP 11 0 rfl rfl i36 dX5_agrees_63 ?_
            refine lv_aload_n hx hb dX5_agrees_64 rfl (lv_at hl 0 rfl) ?_
            refine va_get (D := E.1) (ci := 5) (v := .ref (aM 10)) (C := RX5) (T := TX5) (N := 19) hx hb hts hinX5 hown hK.1 hP 0 rfl rfl 12 (by decide) hw4 (fun _ h9 => h9) rfl dX5_agrees_65 ?_
            refine lv_iload hx hb dX5_agrees_68 (lv_at hl 4 rfl) ?_
            obtain ⟨i37, h⟩ := q_ck h
            refine va_iald (f := (M_seenBegun vM)) hx hb hK.1 hP 10 0 rfl rfl i37 dX5_agrees_70 ?_
            refine lv_isub hx hb dX5_agrees_71 ?_
            obtain ⟨i38, h⟩ := q_ck h
            refine va_iast (f := (M_pWork vM)) hx hb hK.1 hP hD hS 16 0 rfl rfl i38 dX5_agrees_72 (fun H locs hP hD hS => ?_)
            have hP : va_P E.1 vwCl (WM E aM (M_pWork_s (M_came_s vM (upd (M_came vM) (Int32.toNatClampNeg x4) o33)) (upd (M_pWork vM) (Int32.toNatClampNeg x4) (((M_seenDone vM) (Int32.toNatClampNeg x4)) - ((M_seenBegun vM) (Int32.toNatClampNeg x4)))))) H := hP
            have hD : va_D A (WM E aM (M_pWork_s (M_came_s vM (upd (M_came vM) (Int32.toNatClampNeg x4) o33)) (upd (M_pWork vM) (Int32.toNatClampNeg x4) (((M_seenDone vM) (Int32.toNatClampNeg x4)) - ((M_seenBegun vM) (Int32.toNatClampNeg x4)))))) := hD
            refine lv_iinc (v := (x4 + 1)) (lv' := [(4, .int (x4 + 1)), (0, .ref (aM 0)), (1, .int x1), (2, .int x2), (3, .int x3)]) hx hb dX5_agrees_73 hl (k := 4) rfl rfl (by decide) rfl (fun ls hl => ?_)
            refine lv_goto (tgt := 7) hx hb dX5_agrees_76 (by decide) ?_
            exact ih (M_pWork_s (M_came_s vM (upd (M_came vM) (Int32.toNatClampNeg x4) o33)) (upd (M_pWork vM) (Int32.toNatClampNeg x4) (((M_seenDone vM) (Int32.toNatClampNeg x4)) - ((M_seenBegun vM) (Int32.toNatClampNeg x4))))) (x4 + 1) _ _ _ hP hD hS (lv_sub hl [1, 2, 3, 4, 0] rfl) _ h kk
          · have h := q_neg c32 h
            refine lv_goto (tgt := 73) hx hb dX5_agrees_35 (by decide) ?_
            refine lv_iinc (v := (x4 + 1)) (lv' := [(4, .int (x4 + 1)), (0, .ref (aM 0)), (1, .int x1), (2, .int x2), (3, .int x3)]) hx hb dX5_agrees_73 hl (k := 4) rfl rfl (by decide) rfl (fun ls hl => ?_)
            refine lv_goto (tgt := 7) hx hb dX5_agrees_76 (by decide) ?_
            exact ih vM (x4 + 1) _ _ _ hP hD hS (lv_sub hl [1, 2, 3, 4, 0] rfl) _ h kk
  have L89 : ∀ (vM : SM) (x1 : Int32) (x2 : Int32) (x3 : Int32) (x4 : Int32) (x5 : Int32) (x6 : Int32) (k : Nat) (H : Heap) (locs : List Loc) (ls : Array Slot), va_P E.1 vwCl (WM E aM vM) H → va_D A (WM E aM vM) → va_S A s.heap H locs → lv_has ls 7 [(0, .ref (aM 0)), (1, .int x1), (2, .int x2), (3, .int x3), (4, .int x4), (5, .int x5), (6, .int x6)] → ∀ o, lpX5_agrees_89 vM x4 k x5 x6 = some o → (∀ (H : Heap) (locs : List Loc) (ls : Array Slot), va_P E.1 vwCl (WM E aM vM) H → va_D A (WM E aM vM) → va_S A s.heap H locs → lv_has ls 7 [(0, .ref (aM 0)), (1, .int x1), (2, .int x2), (3, .int x3), (5, .int o)] → W pr l e rmX5_agrees s m args below meth c H locs 0 0 Q (F0 m 158 ls [])) → W pr l e rmX5_agrees s m args below meth c H locs 0 0 Q (F0 m 89 ls []) := by
    intro vM x1 x2 x3 x4 x5 x6 k
    induction k generalizing x5 x6 with
    | zero => intro H locs ls hP hD hS hl o h; cases h
    | succ k ih =>
      intro H locs ls hP hD hS hl o h kk
      rw [lpX5_agrees_89] at h
      refine lv_iload hx hb dX5_agrees_89 (lv_at hl 6 rfl) ?_
      refine lv_iconst (v := 5) hx hb dX5_agrees_91 (by decide) ?_
      refine lv_aload_n hx hb dX5_agrees_92 rfl (lv_at hl 0 rfl) ?_
      refine va_get (D := E.1) (ci := 5) (v := .int (M_asks vM)) (C := RX5) (T := TX5) (N := 19) hx hb hts hinX5 hown hK.1 hP 0 rfl rfl 8 (by decide) hw6 (fun _ h9 => h9) rfl dX5_agrees_93 ?_
      refine lv_imul hx hb dX5_agrees_96 ?_
      refine lv_icmp_ge (tgt := 158) hx hb dX5_agrees_97 (by decide) (fun c62 => ?_) (fun c62 => ?_)
      · have h := q_pos c62 h
        obtain rfl := q_inj h
        exact kk _ _ _ hP hD hS (lv_sub hl [0, 1, 2, 3, 5] rfl)
      · have h := q_neg c62 h
        refine lv_aload_n hx hb dX5_agrees_100 rfl (lv_at hl 0 rfl) ?_
        refine va_get (D := E.1) (ci := 5) (v := .ref (aM 12)) (C := RX5) (T := TX5) (N := 19) hx hb hts hinX5 hown hK.1 hP 0 rfl rfl 14 (by decide) hw1 (fun _ h9 => h9) rfl dX5_agrees_101 ?_
        refine lv_iload hx hb dX5_agrees_104 (lv_at hl 6 rfl) ?_
        obtain ⟨i63, h⟩ := q_ck h
        refine va_iald (f := (M_came vM)) hx hb hK.1 hP 12 0 rfl rfl i63 dX5_agrees_106 ?_
        refine lv_iload hx hb dX5_agrees_107 (lv_at hl 4 rfl) ?_
        refine lv_icmp_le (tgt := 126) hx hb dX5_agrees_109 (by decide) (fun c64 => ?_) (fun c64 => ?_)
        · have h := q_pos c64 h
          refine lv_aload_n hx hb dX5_agrees_126 rfl (lv_at hl 0 rfl) ?_
          refine va_get (D := E.1) (ci := 5) (v := .ref (aM 14)) (C := RX5) (T := TX5) (N := 19) hx hb hts hinX5 hown hK.1 hP 0 rfl rfl 16 (by decide) hw7 (fun _ h9 => h9) rfl dX5_agrees_127 ?_
          refine lv_iload hx hb dX5_agrees_130 (lv_at hl 6 rfl) ?_
          obtain ⟨i65, h⟩ := q_ck h
          refine va_iald (f := (M_done vM)) hx hb hK.1 hP 14 0 rfl rfl i65 dX5_agrees_132 ?_
          refine lv_iload hx hb dX5_agrees_133 (lv_at hl 4 rfl) ?_
          refine lv_icmp_le (tgt := 152) hx hb dX5_agrees_135 (by decide) (fun c66 => ?_) (fun c66 => ?_)
          · have h := q_pos c66 h
            refine lv_iinc (v := (x6 + 1)) (lv' := [(6, .int (x6 + 1)), (0, .ref (aM 0)), (1, .int x1), (2, .int x2), (3, .int x3), (4, .int x4), (5, .int x5)]) hx hb dX5_agrees_152 hl (k := 6) rfl rfl (by decide) rfl (fun ls hl => ?_)
            refine lv_goto (tgt := 89) hx hb dX5_agrees_155 (by decide) ?_
            exact ih x5 (x6 + 1) _ _ _ hP hD hS (lv_sub hl [1, 2, 3, 4, 5, 6, 0] rfl) _ h kk
          · have h := q_neg c66 h
            refine lv_iload hx hb dX5_agrees_138 (lv_at hl 5 rfl) ?_
            refine lv_aload_n hx hb dX5_agrees_140 rfl (lv_at hl 0 rfl) ?_
            refine va_get (D := E.1) (ci := 5) (v := .ref (aM 14)) (C := RX5) (T := TX5) (N := 19) hx hb hts hinX5 hown hK.1 hP 0 rfl rfl 16 (by decide) hw7 (fun _ h9 => h9) rfl dX5_agrees_141 ?_
            refine lv_iload hx hb dX5_agrees_144 (lv_at hl 6 rfl) ?_
            obtain ⟨i67, h⟩ := q_ck h
            refine va_iald (f := (M_done vM)) hx hb hK.1 hP 14 0 rfl rfl i67 dX5_agrees_146 ?_
            refine va_mmin hx hb (hml.trans hl.1.symm) hown hw8 hw9 hw10 hw11 (Nat.le_of_ble_eq_true rfl) (Nat.le_of_ble_eq_true rfl) (Nat.zero_le _) (Nat.zero_le _) dX5_agrees_147 ?_
            refine lv_istore (lv' := [(5, .int (if ((M_done vM) (Int32.toNatClampNeg x6)) < x5 then ((M_done vM) (Int32.toNatClampNeg x6)) else x5)), (0, .ref (aM 0)), (1, .int x1), (2, .int x2), (3, .int x3), (4, .int x4), (6, .int x6)]) hx hb dX5_agrees_150 hl (by decide) rfl (fun ls hl => ?_)
            refine lv_iinc (v := (x6 + 1)) (lv' := [(6, .int (x6 + 1)), (5, .int (if ((M_done vM) (Int32.toNatClampNeg x6)) < x5 then ((M_done vM) (Int32.toNatClampNeg x6)) else x5)), (0, .ref (aM 0)), (1, .int x1), (2, .int x2), (3, .int x3), (4, .int x4)]) hx hb dX5_agrees_152 hl (k := 6) rfl rfl (by decide) rfl (fun ls hl => ?_)
            refine lv_goto (tgt := 89) hx hb dX5_agrees_155 (by decide) ?_
            exact ih (if ((M_done vM) (Int32.toNatClampNeg x6)) < x5 then ((M_done vM) (Int32.toNatClampNeg x6)) else x5) (x6 + 1) _ _ _ hP hD hS (lv_sub hl [2, 3, 4, 5, 6, 1, 0] rfl) _ h kk
        · have h := q_neg c64 h
          refine lv_iload hx hb dX5_agrees_112 (lv_at hl 5 rfl) ?_
          refine lv_aload_n hx hb dX5_agrees_114 rfl (lv_at hl 0 rfl) ?_
          refine va_get (D := E.1) (ci := 5) (v := .ref (aM 12)) (C := RX5) (T := TX5) (N := 19) hx hb hts hinX5 hown hK.1 hP 0 rfl rfl 14 (by decide) hw1 (fun _ h9 => h9) rfl dX5_agrees_115 ?_
          refine lv_iload hx hb dX5_agrees_118 (lv_at hl 6 rfl) ?_
          obtain ⟨i68, h⟩ := q_ck h
          refine va_iald (f := (M_came vM)) hx hb hK.1 hP 12 0 rfl rfl i68 dX5_agrees_120 ?_
          refine va_mmin hx hb (hml.trans hl.1.symm) hown hw8 hw9 hw10 hw11 (Nat.le_of_ble_eq_true rfl) (Nat.le_of_ble_eq_true rfl) (Nat.zero_le _) (Nat.zero_le _) dX5_agrees_121 ?_
          refine lv_istore (lv' := [(5, .int (if ((M_came vM) (Int32.toNatClampNeg x6)) < x5 then ((M_came vM) (Int32.toNatClampNeg x6)) else x5)), (0, .ref (aM 0)), (1, .int x1), (2, .int x2), (3, .int x3), (4, .int x4), (6, .int x6)]) hx hb dX5_agrees_124 hl (by decide) rfl (fun ls hl => ?_)
          refine lv_aload_n hx hb dX5_agrees_126 rfl (lv_at hl 1 rfl) ?_
          refine va_get (D := E.1) (ci := 5) (v := .ref (aM 14)) (C := RX5) (T := TX5) (N := 19) hx hb hts hinX5 hown hK.1 hP 0 rfl rfl 16 (by decide) hw7 (fun _ h9 => h9) rfl dX5_agrees_127 ?_
          refine lv_iload hx hb dX5_agrees_130 (lv_at hl 6 rfl) ?_
          obtain ⟨i69, h⟩ := q_ck h
          refine va_iald (f := (M_done vM)) hx hb hK.1 hP 14 0 rfl rfl i69 dX5_agrees_132 ?_
          refine lv_iload hx hb dX5_agrees_133 (lv_at hl 5 rfl) ?_
          refine lv_icmp_le (tgt := 152) hx hb dX5_agrees_135 (by decide) (fun c70 => ?_) (fun c70 => ?_)
          · have h := q_pos c70 h
            refine lv_iinc (v := (x6 + 1)) (lv' := [(6, .int (x6 + 1)), (5, .int (if ((M_came vM) (Int32.toNatClampNeg x6)) < x5 then ((M_came vM) (Int32.toNatClampNeg x6)) else x5)), (0, .ref (aM 0)), (1, .int x1), (2, .int x2), (3, .int x3), (4, .int x4)]) hx hb dX5_agrees_152 hl (k := 6) rfl rfl (by decide) rfl (fun ls hl => ?_)
            refine lv_goto (tgt := 89) hx hb dX5_agrees_155 (by decide) ?_
            exact ih (if ((M_came vM) (Int32.toNatClampNeg x6)) < x5 then ((M_came vM) (Int32.toNatClampNeg x6)) else x5) (x6 + 1) _ _ _ hP hD hS (lv_sub hl [2, 3, 4, 5, 6, 1, 0] rfl) _ h kk
          · have h := q_neg c70 h
            refine lv_iload hx hb dX5_agrees_138 (lv_at hl 0 rfl) ?_
            refine lv_aload_n hx hb dX5_agrees_140 rfl (lv_at hl 1 rfl) ?_
            refine va_get (D := E.1) (ci := 5) (v := .ref (aM 14)) (C := RX5) (T := TX5) (N := 19) hx hb hts hinX5 hown hK.1 hP 0 rfl rfl 16 (by decide) hw7 (fun _ h9 => h9) rfl dX5_agrees_141 ?_
            refine lv_iload hx hb dX5_agrees_144 (lv_at hl 6 rfl) ?_
            obtain ⟨i71, h⟩ := q_ck h
            refine va_iald (f := (M_done vM)) hx hb hK.1 hP 14 0 rfl rfl i71 dX5_agrees_146 ?_
            refine va_mmin hx hb (hml.trans hl.1.symm) hown hw8 hw9 hw10 hw11 (Nat.le_of_ble_eq_true rfl) (Nat.le_of_ble_eq_true rfl) (Nat.zero_le _) (Nat.zero_le _) dX5_agrees_147 ?_
            refine lv_istore (lv' := [(5, .int (if ((M_done vM) (Int32.toNatClampNeg x6)) < (if ((M_came vM) (Int32.toNatClampNeg x6)) < x5 then ((M_came vM) (Int32.toNatClampNeg x6)) else x5) then ((M_done vM) (Int32.toNatClampNeg x6)) else (if ((M_came vM) (Int32.toNatClampNeg x6)) < x5 then ((M_came vM) (Int32.toNatClampNeg x6)) else x5))), (0, .ref (aM 0)), (1, .int x1), (2, .int x2), (3, .int x3), (4, .int x4), (6, .int x6)]) hx hb dX5_agrees_150 hl (by decide) rfl (fun ls hl => ?_)
            refine lv_iinc (v := (x6 + 1)) (lv' := [(6, .int (x6 + 1)), (5, .int (if ((M_done vM) (Int32.toNatClampNeg x6)) < (if ((M_came vM) (Int32.toNatClampNeg x6)) < x5 then ((M_came vM) (Int32.toNatClampNeg x6)) else x5) then ((M_done vM) (Int32.toNatClampNeg x6)) else (if ((M_came vM) (Int32.toNatClampNeg x6)) < x5 then ((M_came vM) (Int32.toNatClampNeg x6)) else x5))), (0, .ref (aM 0)), (1, .int x1), (2, .int x2), (3, .int x3), (4, .int x4)]) hx hb dX5_agrees_152 hl (k := 6) rfl rfl (by decide) rfl (fun ls hl => ?_)
            refine lv_goto (tgt := 89) hx hb dX5_agrees_155 (by decide) ?_
            exact ih (if ((M_done vM) (Int32.toNatClampNeg x6)) < (if ((M_came vM) (Int32.toNatClampNeg x6)) < x5 then ((M_came vM) (Int32.toNatClampNeg x6)) else x5) then ((M_done vM) (Int32.toNatClampNeg x6)) else (if ((M_came vM) (Int32.toNatClampNeg x6)) < x5 then ((M_came vM) (Int32.toNatClampNeg x6)) else x5)) (x6 + 1) _ _ _ hP hD hS (lv_sub hl [2, 3, 4, 5, 6, 1, 0] rfl) _ h kk
  have L174 : ∀ (vM : SM) (x1 : Int32) (x2 : Int32) (x3 : Int32) (x4 : Int32) (x6 : Int32) (k : Nat) (H : Heap) (locs : List Loc) (ls : Array Slot), va_P E.1 vwCl (WM E aM vM) H → va_D A (WM E aM vM) → va_S A s.heap H locs → lv_has ls 7 [(0, .ref (aM 0)), (1, .int x1), (2, .int x2), (3, .int x3), (4, .int x4), (6, .int x6)] → ∀ o, lpX5_agrees_174 x4 k x6 vM = some o → (∀ (H : Heap) (locs : List Loc) (ls : Array Slot), va_P E.1 vwCl (WM E aM o) H → va_D A (WM E aM o) → va_S A s.heap H locs → lv_has ls 7 [(0, .ref (aM 0)), (1, .int x1), (2, .int x2), (3, .int x3), (4, .int x4)] → W pr l e rmX5_agrees s m args below meth c H locs 0 0 Q (F0 m 211 ls [])) → W pr l e rmX5_agrees s m args below meth c H locs 0 0 Q (F0 m 174 ls []) := by
    intro vM x1 x2 x3 x4 x6 k
    induction k generalizing x6 vM with
    | zero => intro H locs ls hP hD hS hl o h; cases h
    | succ k ih =>
      intro H locs ls hP hD hS hl o h kk
      rw [lpX5_agrees_174] at h
      refine lv_iload hx hb dX5_agrees_174 (lv_at hl 5 rfl) ?_
      refine lv_iconst (v := 5) hx hb dX5_agrees_176 (by decide) ?_
      refine lv_aload_n hx hb dX5_agrees_177 rfl (lv_at hl 0 rfl) ?_
      refine va_get (D := E.1) (ci := 5) (v := .int (M_asks vM)) (C := RX5) (T := TX5) (N := 19) hx hb hts hinX5 hown hK.1 hP 0 rfl rfl 8 (by decide) hw6 (fun _ h9 => h9) rfl dX5_agrees_178 ?_
      refine lv_imul hx hb dX5_agrees_181 ?_
      refine lv_icmp_ge (tgt := 211) hx hb dX5_agrees_182 (by decide) (fun c84 => ?_) (fun c84 => ?_)
      · have h := q_pos c84 h
        obtain rfl := q_inj h
        exact kk _ _ _ hP hD hS (lv_sub hl [0, 1, 2, 3, 4] rfl)
      · have h := q_neg c84 h
        refine lv_aload_n hx hb dX5_agrees_185 rfl (lv_at hl 0 rfl) ?_
        refine va_get (D := E.1) (ci := 5) (v := .ref (aM 12)) (C := RX5) (T := TX5) (N := 19) hx hb hts hinX5 hown hK.1 hP 0 rfl rfl 14 (by decide) hw1 (fun _ h9 => h9) rfl dX5_agrees_186 ?_
        refine lv_iload hx hb dX5_agrees_189 (lv_at hl 5 rfl) ?_
        obtain ⟨i85, h⟩ := q_ck h
        refine va_iald (f := (M_came vM)) hx hb hK.1 hP 12 0 rfl rfl i85 dX5_agrees_191 ?_
        refine lv_iload hx hb dX5_agrees_192 (lv_at hl 4 rfl) ?_
        refine lv_icmp_ne (tgt := 205) hx hb dX5_agrees_194 (by decide) (fun c86 => ?_) (fun c86 => ?_)
        · have h := q_neg c86 h
          refine lv_iinc (v := (x6 + 1)) (lv' := [(6, .int (x6 + 1)), (0, .ref (aM 0)), (1, .int x1), (2, .int x2), (3, .int x3), (4, .int x4)]) hx hb dX5_agrees_205 hl (k := 5) rfl rfl (by decide) rfl (fun ls hl => ?_)
          refine lv_goto (tgt := 174) hx hb dX5_agrees_208 (by decide) ?_
          exact ih vM (x6 + 1) _ _ _ hP hD hS (lv_sub hl [1, 2, 3, 4, 5, 0] rfl) _ h kk
        · have h := q_pos c86 h
          refine lv_aload_n hx hb dX5_agrees_197 rfl (lv_at hl 0 rfl) ?_
          refine va_get (D := E.1) (ci := 5) (v := .ref (aM 15)) (C := RX5) (T := TX5) (N := 19) hx hb hts hinX5 hown hK.1 hP 0 rfl rfl 17 (by decide) hw12 (fun _ h9 => h9) rfl dX5_agrees_198 ?_
          refine lv_iload hx hb dX5_agrees_201 (lv_at hl 5 rfl) ?_
          refine lv_iconst (v := 1) hx hb dX5_agrees_203 (by decide) ?_
          obtain ⟨i87, h⟩ := q_ck h
          refine va_zast (f := (M_waits vM)) hx hb hK.1 hP hD hS 15 2 rfl rfl i87 dX5_agrees_204 (fun H locs hP hD hS => ?_)
          have hP : va_P E.1 vwCl (WM E aM (M_waits_s vM (upd (M_waits vM) (Int32.toNatClampNeg x6) (vp_nar .boolean 1)))) H := hP
          have hD : va_D A (WM E aM (M_waits_s vM (upd (M_waits vM) (Int32.toNatClampNeg x6) (vp_nar .boolean 1)))) := hD
          refine lv_iinc (v := (x6 + 1)) (lv' := [(6, .int (x6 + 1)), (0, .ref (aM 0)), (1, .int x1), (2, .int x2), (3, .int x3), (4, .int x4)]) hx hb dX5_agrees_205 hl (k := 5) rfl rfl (by decide) rfl (fun ls hl => ?_)
          refine lv_goto (tgt := 174) hx hb dX5_agrees_208 (by decide) ?_
          exact ih (M_waits_s vM (upd (M_waits vM) (Int32.toNatClampNeg x6) (vp_nar .boolean 1))) (x6 + 1) _ _ _ hP hD hS (lv_sub hl [1, 2, 3, 4, 5, 0] rfl) _ h kk
  have L223 : ∀ (vM : SM) (x1 : Int32) (x2 : Int32) (x3 : Int32) (x4 : Int32) (x6 : Int32) (k : Nat) (H : Heap) (locs : List Loc) (ls : Array Slot), va_P E.1 vwCl (WM E aM vM) H → va_D A (WM E aM vM) → va_S A s.heap H locs → lv_has ls 7 [(0, .ref (aM 0)), (1, .int x1), (2, .int x2), (3, .int x3), (4, .int x4), (6, .int x6)] → ∀ o, lpX5_agrees_223 vM x4 k x6 = some o → (∀ rr, o = Sum.inl rr → ∀ (pc : Nat) (H : Heap) (locs : List Loc) (ls : Array Slot), decode cX5_agrees pc = .ok (.ireturn, 1) → narrow .boolean (.int rr.1) = .int rr.1 → va_P E.1 vwCl (WM E aM rr.2) H → va_D A (WM E aM rr.2) → va_S A s.heap H locs → W pr l e rmX5_agrees s m args below meth c H locs 0 0 Q (F0 m pc ls [.int rr.1])) → (∀ vv, o = Sum.inr vv → ∀ (H : Heap) (locs : List Loc) (ls : Array Slot), va_P E.1 vwCl (WM E aM vM) H → va_D A (WM E aM vM) → va_S A s.heap H locs → lv_has ls 7 [(0, .ref (aM 0)), (1, .int x1), (2, .int x2), (3, .int x3), (4, .int x4)] → W pr l e rmX5_agrees s m args below meth c H locs 0 0 Q (F0 m 266 ls [])) → W pr l e rmX5_agrees s m args below meth c H locs 0 0 Q (F0 m 223 ls []) := by
    intro vM x1 x2 x3 x4 x6 k
    induction k generalizing x6 with
    | zero => intro H locs ls hP hD hS hl o h; cases h
    | succ k ih =>
      intro H locs ls hP hD hS hl o h kr kk
      rw [lpX5_agrees_223] at h
      refine lv_iload hx hb dX5_agrees_223 (lv_at hl 5 rfl) ?_
      refine lv_iconst (v := 5) hx hb dX5_agrees_225 (by decide) ?_
      refine lv_aload_n hx hb dX5_agrees_226 rfl (lv_at hl 0 rfl) ?_
      refine va_get (D := E.1) (ci := 5) (v := .int (M_asks vM)) (C := RX5) (T := TX5) (N := 19) hx hb hts hinX5 hown hK.1 hP 0 rfl rfl 8 (by decide) hw6 (fun _ h9 => h9) rfl dX5_agrees_227 ?_
      refine lv_imul hx hb dX5_agrees_230 ?_
      refine lv_icmp_ge (tgt := 266) hx hb dX5_agrees_231 (by decide) (fun c103 => ?_) (fun c103 => ?_)
      · have h := q_pos c103 h
        obtain rfl := q_inj h
        exact kk _ rfl _ _ _ hP hD hS (lv_sub hl [0, 1, 2, 3, 4] rfl)
      · have h := q_neg c103 h
        refine lv_aload_n hx hb dX5_agrees_234 rfl (lv_at hl 0 rfl) ?_
        refine va_get (D := E.1) (ci := 5) (v := .ref (aM 13)) (C := RX5) (T := TX5) (N := 19) hx hb hts hinX5 hown hK.1 hP 0 rfl rfl 15 (by decide) hw13 (fun _ h9 => h9) rfl dX5_agrees_235 ?_
        refine lv_iload hx hb dX5_agrees_238 (lv_at hl 5 rfl) ?_
        obtain ⟨i104, h⟩ := q_ck h
        refine va_iald (f := (M_begun vM)) hx hb hK.1 hP 13 0 rfl rfl i104 dX5_agrees_240 ?_
        refine lv_iload hx hb dX5_agrees_241 (lv_at hl 4 rfl) ?_
        refine lv_icmp_ne (tgt := 260) hx hb dX5_agrees_243 (by decide) (fun c105 => ?_) (fun c105 => ?_)
        · have h := q_neg c105 h
          refine lv_iinc (v := (x6 + 1)) (lv' := [(6, .int (x6 + 1)), (0, .ref (aM 0)), (1, .int x1), (2, .int x2), (3, .int x3), (4, .int x4)]) hx hb dX5_agrees_260 hl (k := 5) rfl rfl (by decide) rfl (fun ls hl => ?_)
          refine lv_goto (tgt := 223) hx hb dX5_agrees_263 (by decide) ?_
          exact ih (x6 + 1) _ _ _ hP hD hS (lv_sub hl [1, 2, 3, 4, 5, 0] rfl) _ h kr kk
        · have h := q_pos c105 h
          refine lv_aload_n hx hb dX5_agrees_246 rfl (lv_at hl 0 rfl) ?_
          refine va_get (D := E.1) (ci := 5) (v := .ref (aM 10)) (C := RX5) (T := TX5) (N := 19) hx hb hts hinX5 hown hK.1 hP 0 rfl rfl 12 (by decide) hw4 (fun _ h9 => h9) rfl dX5_agrees_247 ?_
          refine lv_iload hx hb dX5_agrees_250 (lv_at hl 5 rfl) ?_
          obtain ⟨i106, h⟩ := q_ck h
          refine va_iald (f := (M_seenBegun vM)) hx hb hK.1 hP 10 0 rfl rfl i106 dX5_agrees_252 ?_
          refine lv_iload hx hb dX5_agrees_253 (lv_at hl 4 rfl) ?_
          refine lv_icmp_eq (tgt := 260) hx hb dX5_agrees_255 (by decide) (fun c107 => ?_) (fun c107 => ?_)
          · have h := q_pos c107 h
            refine lv_iinc (v := (x6 + 1)) (lv' := [(6, .int (x6 + 1)), (0, .ref (aM 0)), (1, .int x1), (2, .int x2), (3, .int x3), (4, .int x4)]) hx hb dX5_agrees_260 hl (k := 5) rfl rfl (by decide) rfl (fun ls hl => ?_)
            refine lv_goto (tgt := 223) hx hb dX5_agrees_263 (by decide) ?_
            exact ih (x6 + 1) _ _ _ hP hD hS (lv_sub hl [1, 2, 3, 4, 5, 0] rfl) _ h kr kk
          · have h := q_neg c107 h
            refine lv_iconst (v := 0) hx hb dX5_agrees_258 (by decide) ?_
            obtain rfl := q_inj h
            exact kr _ rfl 259 _ _ _ dX5_agrees_259 q_n0 hP hD hS
  have L82 : ∀ (vM : SM) (x1 : Int32) (x2 : Int32) (x3 : Int32) (x4 : Int32) (k : Nat) (H : Heap) (locs : List Loc) (ls : Array Slot), va_P E.1 vwCl (WM E aM vM) H → va_D A (WM E aM vM) → va_S A s.heap H locs → lv_has ls 7 [(0, .ref (aM 0)), (1, .int x1), (2, .int x2), (3, .int x3), (4, .int x4)] → ∀ o, lpX5_agrees_82 x1 x2 x3 k x4 vM = some o → (∀ rr, o = rr → ∀ (pc : Nat) (H : Heap) (locs : List Loc) (ls : Array Slot), decode cX5_agrees pc = .ok (.ireturn, 1) → narrow .boolean (.int rr.1) = .int rr.1 → va_P E.1 vwCl (WM E aM rr.2) H → va_D A (WM E aM rr.2) → va_S A s.heap H locs → W pr l e rmX5_agrees s m args below meth c H locs 0 0 Q (F0 m pc ls [.int rr.1])) → W pr l e rmX5_agrees s m args below meth c H locs 0 0 Q (F0 m 82 ls []) := by
    intro vM x1 x2 x3 x4 k
    induction k generalizing x4 vM with
    | zero => intro H locs ls hP hD hS hl o h; cases h
    | succ k ih =>
      intro H locs ls hP hD hS hl o h kr 
      rw [lpX5_agrees_82] at h
      refine lv_ldc (v := 2000000000) hx hb hown hw5 dX5_agrees_82 ?_
      refine lv_istore (lv' := [(5, .int 2000000000), (0, .ref (aM 0)), (1, .int x1), (2, .int x2), (3, .int x3), (4, .int x4)]) hx hb dX5_agrees_84 hl (by decide) rfl (fun ls hl => ?_)
      refine lv_iconst (v := 0) hx hb dX5_agrees_86 (by decide) ?_
      refine lv_istore (lv' := [(6, .int 0), (5, .int 2000000000), (0, .ref (aM 0)), (1, .int x1), (2, .int x2), (3, .int x3), (4, .int x4)]) hx hb dX5_agrees_87 hl (by decide) rfl (fun ls hl => ?_)
      obtain ⟨o123, e124, h⟩ := q_bind h
      refine L89 vM x1 x2 x3 x4 2000000000 0 qFU _ _ _ hP hD hS (lv_sub hl [2, 3, 4, 5, 6, 1, 0] rfl) o123 e124 (fun H locs ls hP hD hS hl => ?_)
      refine lv_iload hx hb dX5_agrees_158 (lv_at hl 4 rfl) ?_
      refine lv_ldc (v := 2000000000) hx hb hown hw5 dX5_agrees_160 ?_
      refine lv_icmp_ne (tgt := 167) hx hb dX5_agrees_162 (by decide) (fun c126 => ?_) (fun c126 => ?_)
      · have h := q_neg c126 h
        refine lv_iload hx hb dX5_agrees_167 (lv_at hl 4 rfl) ?_
        refine lv_istore (lv' := [(4, .int o123), (0, .ref (aM 0)), (1, .int x1), (2, .int x2), (3, .int x3), (5, .int o123)]) hx hb dX5_agrees_169 hl (by decide) rfl (fun ls hl => ?_)
        refine lv_iconst (v := 0) hx hb dX5_agrees_171 (by decide) ?_
        refine lv_istore (lv' := [(6, .int 0), (4, .int o123), (0, .ref (aM 0)), (1, .int x1), (2, .int x2), (3, .int x3), (5, .int o123)]) hx hb dX5_agrees_172 hl (by decide) rfl (fun ls hl => ?_)
        obtain ⟨o127, e128, h⟩ := q_bind h
        refine L174 vM x1 x2 x3 o123 0 qFU _ _ _ hP hD hS (lv_sub hl [2, 3, 4, 5, 1, 0] rfl) o127 e128 (fun H locs ls hP hD hS hl => ?_)
        refine lv_aload_n hx hb dX5_agrees_211 rfl (lv_at hl 0 rfl) ?_
        refine lv_iload_n hx hb dX5_agrees_212 rfl (lv_at hl 1 rfl) ?_
        refine lv_iload_n hx hb dX5_agrees_213 rfl (lv_at hl 2 rfl) ?_
        refine lv_iload_n hx hb dX5_agrees_214 rfl (lv_at hl 3 rfl) ?_
        refine lv_iload hx hb dX5_agrees_215 (lv_at hl 4 rfl) ?_
        obtain ⟨o130, e131, h⟩ := q_bind h
        refine q_cv (va_runV (As := [.int x1, .int x2, .int x3, .int o123]) (rest := []) ⟨hx, hb, hml, hown, hts⟩ (wX5_begins l E aM o127 x1 x2 x3 o123 o130 e131 _) (cwV 4 hts gX5_agrees_X5_begins rfl rfl rfl (by decide +kernel) ⟨Nat.le_of_ble_eq_true rfl, Nat.le_of_ble_eq_true rfl⟩) (q_preV hK hP hD q_idl 5 0 rfl rfl) rfl rfl hl.1 rfl (lv_room (Nat.le_of_ble_eq_true rfl)) dX5_agrees_217 ⟨Nat.zero_le _, Nat.zero_le _⟩) hP hD hS hA q_idl q_idr (fun H locs hP hD hS => ?_)
        refine lv_iconst (v := 0) hx hb dX5_agrees_220 (by decide) ?_
        refine lv_istore (lv' := [(6, .int 0), (0, .ref (aM 0)), (1, .int x1), (2, .int x2), (3, .int x3), (4, .int o123)]) hx hb dX5_agrees_221 hl (by decide) rfl (fun ls hl => ?_)
        obtain ⟨o132, e133, h⟩ := q_bind h
        refine L223 o130 x1 x2 x3 o123 0 qFU _ _ _ hP hD hS (lv_sub hl [1, 2, 3, 4, 5, 0] rfl) o132 e133 (fun rr134 e pc H locs ls => by subst e; obtain rfl := q_inj h; exact kr _ rfl pc H locs ls) (fun vo132 e H locs ls hP hD hS hl => ?_)
        subst e
        refine lv_goto (tgt := 82) hx hb dX5_agrees_266 (by decide) ?_
        exact ih o130 o123 _ _ _ hP hD hS (lv_sub hl [0, 1, 2, 3, 4] rfl) _ h kr 
      · have h := q_pos c126 h
        refine lv_iconst (v := 1) hx hb dX5_agrees_165 (by decide) ?_
        obtain rfl := q_inj h
        exact kr _ rfl 166 _ _ _ dX5_agrees_166 q_n1 hP hD hS
  unfold mX5_agrees at h
  refine lv_aload_n hx hb dX5_agrees_0 rfl (lv_at hl 0 rfl) ?_
  obtain ⟨o1, e2, h⟩ := q_bind h
  refine q_cv (va_runV (As := []) (rest := []) ⟨hx, hb, hml, hown, hts⟩ (wX5_forgets l E aM vM o1 e2 _) (cwV 0 hts gX5_agrees_X5_forgets rfl rfl rfl (by decide +kernel) ⟨Nat.le_of_ble_eq_true rfl, Nat.le_of_ble_eq_true rfl⟩) (q_preV hK hP hD q_idl 5 0 rfl rfl) rfl rfl hl.1 rfl (lv_room (Nat.le_of_ble_eq_true rfl)) dX5_agrees_1 ⟨Nat.zero_le _, Nat.zero_le _⟩) hP hD hS hA q_idl q_idr (fun H locs hP hD hS => ?_)
  refine lv_iconst (v := 0) hx hb dX5_agrees_4 (by decide) ?_
  refine lv_istore (lv' := [(4, .int 0), (0, .ref (aM 0)), (1, .int x1), (2, .int x2), (3, .int x3)]) hx hb dX5_agrees_5 hl (by decide) rfl (fun ls hl => ?_)
  obtain ⟨o39, e40, h⟩ := q_bind h
  refine L7 o1 x1 x2 x3 0 qFU _ _ _ hP hD hS (lv_sub hl [1, 2, 3, 4, 0] rfl) o39 e40 (fun H locs ls hP hD hS hl => ?_)
  refine lv_iconst (v := (-1)) hx hb dX5_agrees_79 (by decide) ?_
  refine lv_istore (lv' := [(4, .int (-1)), (0, .ref (aM 0)), (1, .int x1), (2, .int x2), (3, .int x3)]) hx hb dX5_agrees_80 hl (by decide) rfl (fun ls hl => ?_)
  obtain ⟨o135, e136, h⟩ := q_bind h
  exact L82 o39 x1 x2 x3 (-1) qFU _ _ _ hP hD hS (lv_sub hl [1, 2, 3, 4, 0] rfl) o135 e136 (fun rr137 e pc H locs ls => by subst e; obtain rfl := q_inj h; exact hRt pc H locs ls)
def lpX5_found_50 (x1 : Int32) (x2 : Int32) (x3 : Int32) : Nat → Int32 → SM → Option (Sum (Int32 × SM) (SM))
  | 0, _, _ => none
  | k + 1, x4, vM => if 4 ≤ x4 then (some (Sum.inr vM)) else ((mX5_agrees vM x1 x3 x4).bind fun o22 => if o22.1 = 0 then (lpX5_found_50 x1 x2 x3 k (x4 + 1) o22.2) else (if x2 = 0 then (some (Sum.inl (x3, o22.2))) else (some (Sum.inl (x4, o22.2)))))
def lpX5_found_41 (x1 : Int32) (x2 : Int32) : Nat → Int32 → SM → Option (Sum (Int32 × SM) (SM))
  | 0, _, _ => none
  | k + 1, x3, vM => if 9 ≤ x3 then (some (Sum.inr vM)) else ((lpX5_found_50 x1 x2 x3 qFU 0 vM).bind fun o34 => qS o34 (fun z => Sum.inl z) fun vo34 => lpX5_found_41 x1 x2 k (x3 + 1) vo34)
def mX5_found (vM : SM) (x1 : Int32) (x2 : Int32) : Option (Int32 × SM) := (mX5_noPlace (M_thrown_s vM 0) x1).bind fun o1 => (mX5_throwsIf (M_thrown_s vM 0) o1 1).bind fun o3 => if o3.1 = 0 then ((mX5_isWhole o3.2 x1).bind fun o7 => if o7 = 0 then (if (M_thrown o3.2) = 0 then (some ((-1), o3.2)) else (some (0, o3.2))) else ((lpX5_found_41 x1 x2 qFU 1 o3.2).bind fun o37 => qS o37 (fun z => z) fun vo37 => some ((-1), vo37))) else (if (M_thrown o3.2) = 0 then (some ((-1), o3.2)) else (some (0, o3.2)))
def rmX5_found : Room := { frames := 4, cells := 0, slots := 0, locals := 99 }
set_option maxHeartbeats 8000000 in
set_option maxRecDepth 100000 in
theorem wX5_found (l : Launch) (E : qE) (aM : Nat → Nat) (vM : SM) (x1 : Int32) (x2 : Int32) (o : Int32 × SM) (h : mX5_found vM x1 x2 = some o) : MI l E yX5_found wsX5_found rmX5_found [.ref (aM 0), .int x1, .int x2] (WM E aM vM) (WM E aM o.2) o.1 := by
  refine q_startI (cc := cX5_found) (maxL := 5) (by decide) rfl (Nat.le_of_ble_eq_true rfl) ?_
  intro pr e s m args below meth c A Q hx hb hml hown hts hK hRt hP hD hA hS ls hl
  have hl : lv_has ls 5 [(0, .ref (aM 0)), (1, .int x1), (2, .int x2)] := hl
  have hinX5 : ∀ w ∈ wsX50, w ∈ wsX5_found := by decide +kernel
  have hw0 := hts (.fieldLink RX5 59 "QueueReaderModel" "thrown" "I") (by decide +kernel)
  have L50 : ∀ (vM : SM) (x1 : Int32) (x2 : Int32) (x3 : Int32) (x4 : Int32) (k : Nat) (H : Heap) (locs : List Loc) (ls : Array Slot), va_P E.1 vwCl (WM E aM vM) H → va_D A (WM E aM vM) → va_S A s.heap H locs → lv_has ls 5 [(0, .ref (aM 0)), (1, .int x1), (2, .int x2), (3, .int x3), (4, .int x4)] → ∀ o, lpX5_found_50 x1 x2 x3 k x4 vM = some o → (∀ rr, o = Sum.inl rr → ∀ (pc : Nat) (H : Heap) (locs : List Loc) (ls : Array Slot), decode cX5_found pc = .ok (.ireturn, 1) → va_P E.1 vwCl (WM E aM rr.2) H → va_D A (WM E aM rr.2) → va_S A s.heap H locs → W pr l e rmX5_found s m args below meth c H locs 0 0 Q (F0 m pc ls [.int rr.1])) → (∀ vv, o = Sum.inr vv → ∀ (H : Heap) (locs : List Loc) (ls : Array Slot), va_P E.1 vwCl (WM E aM vv) H → va_D A (WM E aM vv) → va_S A s.heap H locs → lv_has ls 5 [(0, .ref (aM 0)), (1, .int x1), (2, .int x2), (3, .int x3)] → W pr l e rmX5_found s m args below meth c H locs 0 0 Q (F0 m 84 ls [])) → W pr l e rmX5_found s m args below meth c H locs 0 0 Q (F0 m 50 ls []) := by
    intro vM x1 x2 x3 x4 k
    induction k generalizing x4 vM with
    | zero => intro H locs ls hP hD hS hl o h; cases h
    | succ k ih =>
      intro H locs ls hP hD hS hl o h kr kk
      rw [lpX5_found_50] at h
      refine lv_iload hx hb dX5_found_50 (lv_at hl 4 rfl) ?_
      refine lv_iconst (v := 4) hx hb dX5_found_52 (by decide) ?_
      refine lv_icmp_ge (tgt := 84) hx hb dX5_found_53 (by decide) (fun c21 => ?_) (fun c21 => ?_)
      · have h := q_pos c21 h
        obtain rfl := q_inj h
        exact kk _ rfl _ _ _ hP hD hS (lv_sub hl [0, 1, 2, 3] rfl)
      · have h := q_neg c21 h
        refine lv_aload_n hx hb dX5_found_56 rfl (lv_at hl 0 rfl) ?_
        refine lv_iload_n hx hb dX5_found_57 rfl (lv_at hl 1 rfl) ?_
        refine lv_iload_n hx hb dX5_found_58 rfl (lv_at hl 3 rfl) ?_
        refine lv_iload hx hb dX5_found_59 (lv_at hl 4 rfl) ?_
        obtain ⟨o22, e23, h⟩ := q_bind h
        refine q_ci (va_runV (As := [.int x1, .int x3, .int x4]) (rest := []) ⟨hx, hb, hml, hown, hts⟩ (wX5_agrees l E aM vM x1 x3 x4 o22 e23 _) (cwV 3 hts gX5_found_X5_agrees rfl rfl rfl (by decide +kernel) ⟨Nat.le_of_ble_eq_true rfl, Nat.le_of_ble_eq_true rfl⟩) (q_preV hK hP hD q_idl 5 0 rfl rfl) rfl rfl hl.1 rfl (lv_room (Nat.le_of_ble_eq_true rfl)) dX5_found_61 ⟨Nat.zero_le _, Nat.zero_le _⟩) hP hD hS hA q_idl q_idr (fun H locs hP hD hS => ?_)
        refine lv_if_eq (tgt := 78) hx hb dX5_found_64 (by decide) (fun c24 => ?_) (fun c24 => ?_)
        · have h := q_pos c24 h
          refine lv_iinc (v := (x4 + 1)) (lv' := [(4, .int (x4 + 1)), (0, .ref (aM 0)), (1, .int x1), (2, .int x2), (3, .int x3)]) hx hb dX5_found_78 hl (k := 4) rfl rfl (by decide) rfl (fun ls hl => ?_)
          refine lv_goto (tgt := 50) hx hb dX5_found_81 (by decide) ?_
          exact ih o22.2 (x4 + 1) _ _ _ hP hD hS (lv_sub hl [1, 2, 3, 4, 0] rfl) _ h kr kk
        · have h := q_neg c24 h
          refine lv_iload_n hx hb dX5_found_67 rfl (lv_at hl 2 rfl) ?_
          refine lv_if_eq (tgt := 76) hx hb dX5_found_68 (by decide) (fun c25 => ?_) (fun c25 => ?_)
          · have h := q_pos c25 h
            refine lv_iload_n hx hb dX5_found_76 rfl (lv_at hl 3 rfl) ?_
            obtain rfl := q_inj h
            exact kr _ rfl 77 _ _ _ dX5_found_77 hP hD hS
          · have h := q_neg c25 h
            refine lv_iload hx hb dX5_found_71 (lv_at hl 4 rfl) ?_
            refine lv_goto (tgt := 77) hx hb dX5_found_73 (by decide) ?_
            obtain rfl := q_inj h
            exact kr _ rfl 77 _ _ _ dX5_found_77 hP hD hS
  have L41 : ∀ (vM : SM) (x1 : Int32) (x2 : Int32) (x3 : Int32) (k : Nat) (H : Heap) (locs : List Loc) (ls : Array Slot), va_P E.1 vwCl (WM E aM vM) H → va_D A (WM E aM vM) → va_S A s.heap H locs → lv_has ls 5 [(0, .ref (aM 0)), (1, .int x1), (2, .int x2), (3, .int x3)] → ∀ o, lpX5_found_41 x1 x2 k x3 vM = some o → (∀ rr, o = Sum.inl rr → ∀ (pc : Nat) (H : Heap) (locs : List Loc) (ls : Array Slot), decode cX5_found pc = .ok (.ireturn, 1) → va_P E.1 vwCl (WM E aM rr.2) H → va_D A (WM E aM rr.2) → va_S A s.heap H locs → W pr l e rmX5_found s m args below meth c H locs 0 0 Q (F0 m pc ls [.int rr.1])) → (∀ vv, o = Sum.inr vv → ∀ (H : Heap) (locs : List Loc) (ls : Array Slot), va_P E.1 vwCl (WM E aM vv) H → va_D A (WM E aM vv) → va_S A s.heap H locs → lv_has ls 5 [] → W pr l e rmX5_found s m args below meth c H locs 0 0 Q (F0 m 90 ls [])) → W pr l e rmX5_found s m args below meth c H locs 0 0 Q (F0 m 41 ls []) := by
    intro vM x1 x2 x3 k
    induction k generalizing x3 vM with
    | zero => intro H locs ls hP hD hS hl o h; cases h
    | succ k ih =>
      intro H locs ls hP hD hS hl o h kr kk
      rw [lpX5_found_41] at h
      refine lv_iload_n hx hb dX5_found_41 rfl (lv_at hl 3 rfl) ?_
      refine lv_bipush (v := 9) hx hb dX5_found_42 (by decide) ?_
      refine lv_icmp_ge (tgt := 90) hx hb dX5_found_44 (by decide) (fun c33 => ?_) (fun c33 => ?_)
      · have h := q_pos c33 h
        obtain rfl := q_inj h
        exact kk _ rfl _ _ _ hP hD hS (lv_sub hl [] rfl)
      · have h := q_neg c33 h
        refine lv_iconst (v := 0) hx hb dX5_found_47 (by decide) ?_
        refine lv_istore (lv' := [(4, .int 0), (0, .ref (aM 0)), (1, .int x1), (2, .int x2), (3, .int x3)]) hx hb dX5_found_48 hl (by decide) rfl (fun ls hl => ?_)
        obtain ⟨o34, e35, h⟩ := q_bind h
        refine L50 vM x1 x2 x3 0 qFU _ _ _ hP hD hS (lv_sub hl [1, 2, 3, 4, 0] rfl) o34 e35 (fun rr36 e pc H locs ls => by subst e; obtain rfl := q_inj h; exact kr _ rfl pc H locs ls) (fun vo34 e H locs ls hP hD hS hl => ?_)
        subst e
        refine lv_iinc (v := (x3 + 1)) (lv' := [(3, .int (x3 + 1)), (0, .ref (aM 0)), (1, .int x1), (2, .int x2)]) hx hb dX5_found_84 hl (k := 3) rfl rfl (by decide) rfl (fun ls hl => ?_)
        refine lv_goto (tgt := 41) hx hb dX5_found_87 (by decide) ?_
        exact ih vo34 (x3 + 1) _ _ _ hP hD hS (lv_sub hl [1, 2, 3, 0] rfl) _ h kr kk
  unfold mX5_found at h
  refine lv_aload_n hx hb dX5_found_0 rfl (lv_at hl 0 rfl) ?_
  refine lv_iconst (v := 0) hx hb dX5_found_1 (by decide) ?_
  refine va_put (D := E.1) (ci := 5) (v := .int 0) (ty := .int) (C := RX5) (T := TX5) (N := 19) hx hb hts hinX5 tyX5 tyX5_ok nmX5 hown hK.1 hP hD hS 0 rfl rfl 0 (by decide) hw0 (fun _ h9 => h9) rfl (by decide +kernel) rfl rfl (Nat.le_of_ble_eq_true rfl) dX5_found_2 (fun H locs hP hD hS => ?_)
  have hP : va_P E.1 vwCl (WM E aM (M_thrown_s vM 0)) H := hP
  have hD : va_D A (WM E aM (M_thrown_s vM 0)) := hD
  refine lv_aload_n hx hb dX5_found_5 rfl (lv_at hl 0 rfl) ?_
  refine lv_aload_n hx hb dX5_found_6 rfl (lv_at hl 0 rfl) ?_
  refine lv_iload_n hx hb dX5_found_7 rfl (lv_at hl 1 rfl) ?_
  obtain ⟨o1, e2, h⟩ := q_bind h
  refine q_ci (va_runV (As := [.int x1]) (rest := [.ref (aM 0)]) ⟨hx, hb, hml, hown, hts⟩ (wX5_noPlace l E aM (M_thrown_s vM 0) x1 o1 e2 _) (cwV 1 hts gX5_found_X5_noPlace rfl rfl rfl (by decide +kernel) ⟨Nat.le_of_ble_eq_true rfl, Nat.le_of_ble_eq_true rfl⟩) (q_preV hK hP hD q_idl 5 0 rfl rfl) rfl rfl hl.1 rfl (lv_room (Nat.le_of_ble_eq_true rfl)) dX5_found_8 ⟨Nat.zero_le _, Nat.zero_le _⟩) hP hD hS hA q_idl q_idr (fun H locs hP hD hS => ?_)
  refine lv_iconst (v := 1) hx hb dX5_found_11 (by decide) ?_
  obtain ⟨o3, e4, h⟩ := q_bind h
  refine q_ci (va_runV (As := [.int o1, .int 1]) (rest := []) ⟨hx, hb, hml, hown, hts⟩ (wX5_throwsIf l E aM (M_thrown_s vM 0) o1 1 o3 e4 _) (cwV 2 hts gX5_found_X5_throwsIf rfl rfl rfl (by decide +kernel) ⟨Nat.le_of_ble_eq_true rfl, Nat.le_of_ble_eq_true rfl⟩) (q_preV hK hP hD q_idl 5 0 rfl rfl) rfl rfl hl.1 rfl (lv_room (Nat.le_of_ble_eq_true rfl)) dX5_found_12 ⟨Nat.zero_le _, Nat.zero_le _⟩) hP hD hS hA q_idl q_idr (fun H locs hP hD hS => ?_)
  refine lv_if_ne (tgt := 26) hx hb dX5_found_15 (by decide) (fun c5 => ?_) (fun c5 => ?_)
  · have h := q_neg c5 h
    refine lv_aload_n hx hb dX5_found_26 rfl (lv_at hl 0 rfl) ?_
    refine va_get (D := E.1) (ci := 5) (v := .int (M_thrown o3.2)) (C := RX5) (T := TX5) (N := 19) hx hb hts hinX5 hown hK.1 hP 0 rfl rfl 0 (by decide) hw0 (fun _ h9 => h9) rfl dX5_found_27 ?_
    refine lv_if_eq (tgt := 37) hx hb dX5_found_30 (by decide) (fun c6 => ?_) (fun c6 => ?_)
    · have h := q_pos c6 h
      refine lv_iconst (v := (-1)) hx hb dX5_found_37 (by decide) ?_
      obtain rfl := q_inj h
      exact hRt 38 _ _ _ dX5_found_38 hP hD hS
    · have h := q_neg c6 h
      refine lv_iconst (v := 0) hx hb dX5_found_33 (by decide) ?_
      refine lv_goto (tgt := 38) hx hb dX5_found_34 (by decide) ?_
      obtain rfl := q_inj h
      exact hRt 38 _ _ _ dX5_found_38 hP hD hS
  · have h := q_pos c5 h
    refine lv_aload_n hx hb dX5_found_18 rfl (lv_at hl 0 rfl) ?_
    refine lv_iload_n hx hb dX5_found_19 rfl (lv_at hl 1 rfl) ?_
    obtain ⟨o7, e8, h⟩ := q_bind h
    refine q_ci (va_runV (As := [.int x1]) (rest := []) ⟨hx, hb, hml, hown, hts⟩ (wX5_isWhole l E aM o3.2 x1 o7 e8 _) (cwV 1 hts gX5_found_X5_isWhole rfl rfl rfl (by decide +kernel) ⟨Nat.le_of_ble_eq_true rfl, Nat.le_of_ble_eq_true rfl⟩) (q_preV hK hP hD q_idl 5 0 rfl rfl) rfl rfl hl.1 rfl (lv_room (Nat.le_of_ble_eq_true rfl)) dX5_found_20 ⟨Nat.zero_le _, Nat.zero_le _⟩) hP hD hS hA q_idl q_idr (fun H locs hP hD hS => ?_)
    refine lv_if_ne (tgt := 39) hx hb dX5_found_23 (by decide) (fun c9 => ?_) (fun c9 => ?_)
    · have h := q_neg c9 h
      refine lv_iconst (v := 1) hx hb dX5_found_39 (by decide) ?_
      refine lv_istore_n (lv' := [(3, .int 1), (0, .ref (aM 0)), (1, .int x1), (2, .int x2)]) hx hb dX5_found_40 rfl hl (by decide) rfl (fun ls hl => ?_)
      obtain ⟨o37, e38, h⟩ := q_bind h
      refine L41 o3.2 x1 x2 1 qFU _ _ _ hP hD hS (lv_sub hl [1, 2, 3, 0] rfl) o37 e38 (fun rr39 e pc H locs ls => by subst e; obtain rfl := q_inj h; exact hRt pc H locs ls) (fun vo37 e H locs ls hP hD hS hl => ?_)
      subst e
      refine lv_iconst (v := (-1)) hx hb dX5_found_90 (by decide) ?_
      obtain rfl := q_inj h
      exact hRt 91 _ _ _ dX5_found_91 hP hD hS
    · have h := q_pos c9 h
      refine lv_aload_n hx hb dX5_found_26 rfl (lv_at hl 0 rfl) ?_
      refine va_get (D := E.1) (ci := 5) (v := .int (M_thrown o3.2)) (C := RX5) (T := TX5) (N := 19) hx hb hts hinX5 hown hK.1 hP 0 rfl rfl 0 (by decide) hw0 (fun _ h9 => h9) rfl dX5_found_27 ?_
      refine lv_if_eq (tgt := 37) hx hb dX5_found_30 (by decide) (fun c40 => ?_) (fun c40 => ?_)
      · have h := q_pos c40 h
        refine lv_iconst (v := (-1)) hx hb dX5_found_37 (by decide) ?_
        obtain rfl := q_inj h
        exact hRt 38 _ _ _ dX5_found_38 hP hD hS
      · have h := q_neg c40 h
        refine lv_iconst (v := 0) hx hb dX5_found_33 (by decide) ?_
        refine lv_goto (tgt := 38) hx hb dX5_found_34 (by decide) ?_
        obtain rfl := q_inj h
        exact hRt 38 _ _ _ dX5_found_38 hP hD hS
