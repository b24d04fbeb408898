def lpX2_open_2 (vN : SN) (x2 : Int32) : Nat → Int32 → SP → Option SP
  | 0, _, _ => none
  | k + 1, x3, vP => if (N_places vN) ≤ x3 then (some vP) else (Option.bind (if x3 = x2 then (ck x3 5 (some (((N_helpers vN) (Int32.toNatClampNeg x3)) + 1))) else (ck x3 5 (some ((N_helpers vN) (Int32.toNatClampNeg x3))))) fun z21 => ck x3 5 (ck x3 5 (lpX2_open_2 vN x2 k (x3 + 1) (P_waiting_s (P_free_s vP (upd (P_free vP) (Int32.toNatClampNeg x3) z21)) (upd (P_waiting vP) (Int32.toNatClampNeg x3) 0)))))
def lpX2_open_53 (vN : SN) : Nat → Int32 → SP → Option SP
  | 0, _, _ => none
  | k + 1, x3, vP => if (N_asks vN) ≤ x3 then (some vP) else (ck x3 60 ((mX1_firstRow vN x3).bind fun o47 => ck x3 60 (ck x3 60 (ck x3 60 (lpX2_open_53 vN k (x3 + 1) (P_dues_s (P_rows_s (P_states_s vP (upd (P_states vP) (Int32.toNatClampNeg x3) 0)) (upd (P_rows vP) (Int32.toNatClampNeg x3) o47)) (upd (P_dues vP) (Int32.toNatClampNeg x3) ((N_starts vN) (Int32.toNatClampNeg x3)))))))))
def mX2_open (vP : SP) (vN : SN) (x2 : Int32) : Option SP := (lpX2_open_2 vN x2 qFU 0 vP).bind fun o28 => (lpX2_open_53 vN qFU 0 o28).bind fun o52 => some o52
def rmX2_open : Room := { frames := 1, cells := 0, slots := 0, locals := 21 }
set_option maxHeartbeats 8000000 in
set_option maxRecDepth 100000 in
theorem wX2_open (l : Launch) (E : qE) (aP : Nat → Nat) (aN : Nat → Nat) (vP : SP) (vN : SN) (x2 : Int32) (o : SP) (h : mX2_open vP vN x2 = some o) : MV l E yX2_open wsX2_open rmX2_open [.ref (aP 0), .ref (aN 0), .int x2] (WP E aP vP ++ WN E aN vN) (WP E aP o ++ WN E aN vN) := by
  refine q_startV (cc := cX2_open) (maxL := 4) (by decide) rfl (Nat.le_of_ble_eq_true rfl) ?_
  intro pr e s m args below meth c A Q hx hb hml hown hts hK hRt hP hD hA hS ls hl
  have hl : lv_has ls 4 [(0, .ref (aP 0)), (1, .ref (aN 0)), (2, .int x2)] := hl
  have hinX1 : ∀ w ∈ wsX10, w ∈ wsX2_open := by decide +kernel
  have hinX2 : ∀ w ∈ wsX20, w ∈ wsX2_open := by decide +kernel
  have hw0 := hts (.fieldLink RX2 48 "QueueReader$Net" "places" "I") (by decide +kernel)
  have hw1 := hts (.fieldLink RX2 30 "QueueReader$Play" "free" "[I") (by decide +kernel)
  have hw2 := hts (.fieldLink RX2 33 "QueueReader$Play" "waiting" "[I") (by decide +kernel)
  have hw3 := hts (.fieldLink RX2 74 "QueueReader$Net" "helpers" "[I") (by decide +kernel)
  have hw4 := hts (.fieldLink RX2 58 "QueueReader$Net" "asks" "I") (by decide +kernel)
  have hw5 := hts (.fieldLink RX2 21 "QueueReader$Play" "states" "[I") (by decide +kernel)
  have hw6 := hts (.fieldLink RX2 24 "QueueReader$Play" "rows" "[I") (by decide +kernel)
  have hw7 := hts (.fieldLink RX2 27 "QueueReader$Play" "dues" "[I") (by decide +kernel)
  have hw8 := hts (.fieldLink RX2 65 "QueueReader$Net" "starts" "[I") (by decide +kernel)
  have L2 : ∀ (vP : SP) (vN : SN) (x2 : Int32) (x3 : Int32) (k : Nat) (H : Heap) (locs : List Loc) (ls : Array Slot), va_P E.1 vwCl (WP E aP vP ++ WN E aN vN) H → va_D A (WP E aP vP ++ WN E aN vN) → va_S A s.heap H locs → lv_has ls 4 [(0, .ref (aP 0)), (1, .ref (aN 0)), (2, .int x2), (3, .int x3)] → ∀ o, lpX2_open_2 vN x2 k x3 vP = some o → (∀ (H : Heap) (locs : List Loc) (ls : Array Slot), va_P E.1 vwCl (WP E aP o ++ WN E aN vN) H → va_D A (WP E aP o ++ WN E aN vN) → va_S A s.heap H locs → lv_has ls 4 [(0, .ref (aP 0)), (1, .ref (aN 0))] → W pr l e rmX2_open s m args below meth c H locs 0 0 Q (F0 m 51 ls [])) → W pr l e rmX2_open s m args below meth c H locs 0 0 Q (F0 m 2 ls []) := by
    intro vP vN x2 x3 k
    induction k generalizing x3 vP with
    | zero => intro H locs ls hP hD hS hl o h; cases h
    | succ k ih =>
      intro H locs ls hP hD hS hl o h kk
      rw [lpX2_open_2] at h
      refine lv_iload_n hx hb dX2_open_2 rfl (lv_at hl 3 rfl) ?_
      refine lv_aload_n hx hb dX2_open_3 rfl (lv_at hl 1 rfl) ?_
      refine va_get (D := E.1) (ci := 1) (v := .int (N_places vN)) (C := RX1) (T := TX1) (N := 11) hx hb hts hinX1 hown hK.1 hP 9 rfl rfl 0 (by decide) hw0 (fun _ h9 => h9) rfl dX2_open_4 ?_
      refine lv_icmp_ge (tgt := 51) hx hb dX2_open_7 (by decide) (fun c19 => ?_) (fun c19 => ?_)
      · have h := q_pos c19 h
        obtain rfl := q_inj h
        exact kk _ _ _ hP hD hS (lv_sub hl [0, 1] rfl)
      · have h := q_neg c19 h
        refine lv_aload_n hx hb dX2_open_10 rfl (lv_at hl 0 rfl) ?_
        refine va_get (D := E.1) (ci := 2) (v := .ref (aP 7)) (C := RX2) (T := TX2) (N := 8) hx hb hts hinX2 hown hK.1 hP 0 rfl rfl 6 (by decide) hw1 (fun _ h9 => h9) rfl dX2_open_11 ?_
        refine lv_iload_n hx hb dX2_open_14 rfl (lv_at hl 3 rfl) ?_
        refine lv_iload_n hx hb dX2_open_15 rfl (lv_at hl 3 rfl) ?_
        refine lv_iload_n hx hb dX2_open_16 rfl (lv_at hl 2 rfl) ?_
        obtain ⟨z21, e22, h⟩ := q_bind h
        have KJ20 : ∀ (H : Heap) (locs : List Loc), va_P E.1 vwCl (WP E aP vP ++ WN E aN vN) H → va_D A (WP E aP vP ++ WN E aN vN) → va_S A s.heap H locs → W pr l e rmX2_open s m args below meth c H locs 0 0 Q (F0 m 37 ls [.int z21, .int x3, .ref (aP 7)]) := by
          intro H locs hP hD hS
          obtain ⟨i23, h⟩ := q_ck h
          refine va_iast (f := (P_free vP)) hx hb hK.1 hP hD hS 7 0 rfl rfl i23 dX2_open_37 (fun H locs hP hD hS => ?_)
          have hP : va_P E.1 vwCl (WP E aP (P_free_s vP (upd (P_free vP) (Int32.toNatClampNeg x3) z21)) ++ WN E aN vN) H := hP
          have hD : va_D A (WP E aP (P_free_s vP (upd (P_free vP) (Int32.toNatClampNeg x3) z21)) ++ WN E aN vN) := hD
          refine lv_aload_n hx hb dX2_open_38 rfl (lv_at hl 0 rfl) ?_
          refine va_get (D := E.1) (ci := 2) (v := .ref (aP 8)) (C := RX2) (T := TX2) (N := 8) hx hb hts hinX2 hown hK.1 hP 0 rfl rfl 7 (by decide) hw2 (fun _ h9 => h9) rfl dX2_open_39 ?_
          refine lv_iload_n hx hb dX2_open_42 rfl (lv_at hl 3 rfl) ?_
          refine lv_iconst (v := 0) hx hb dX2_open_43 (by decide) ?_
          obtain ⟨i24, h⟩ := q_ck h
          refine va_iast (f := (P_waiting vP)) hx hb hK.1 hP hD hS 8 0 rfl rfl i24 dX2_open_44 (fun H locs hP hD hS => ?_)
          have hP : va_P E.1 vwCl (WP E aP (P_waiting_s (P_free_s vP (upd (P_free vP) (Int32.toNatClampNeg x3) z21)) (upd (P_waiting vP) (Int32.toNatClampNeg x3) 0)) ++ WN E aN vN) H := hP
          have hD : va_D A (WP E aP (P_waiting_s (P_free_s vP (upd (P_free vP) (Int32.toNatClampNeg x3) z21)) (upd (P_waiting vP) (Int32.toNatClampNeg x3) 0)) ++ WN E aN vN) := hD
          refine lv_iinc (v := (x3 + 1)) (lv' := [(3, .int (x3 + 1)), (0, .ref (aP 0)), (1, .ref (aN 0)), (2, .int x2)]) hx hb dX2_open_45 hl (k := 3) rfl rfl (by decide) rfl (fun ls hl => ?_)
          refine lv_goto (tgt := 2) hx hb dX2_open_48 (by decide) ?_
          exact ih (P_waiting_s (P_free_s vP (upd (P_free vP) (Int32.toNatClampNeg x3) z21)) (upd (P_waiting vP) (Int32.toNatClampNeg x3) 0)) (x3 + 1) _ _ _ hP hD hS (lv_sub hl [1, 2, 3, 0] rfl) _ h kk
        have h := e22
        refine lv_icmp_ne (tgt := 31) hx hb dX2_open_17 (by decide) (fun c25 => ?_) (fun c25 => ?_)
        · have h := q_neg c25 h
          refine lv_aload_n hx hb dX2_open_31 rfl (lv_at hl 1 rfl) ?_
          refine va_get (D := E.1) (ci := 1) (v := .ref (aN 1)) (C := RX1) (T := TX1) (N := 11) hx hb hts hinX1 hown hK.1 hP 9 rfl rfl 3 (by decide) hw3 (fun _ h9 => h9) rfl dX2_open_32 ?_
          refine lv_iload_n hx hb dX2_open_35 rfl (lv_at hl 3 rfl) ?_
          obtain ⟨i26, h⟩ := q_ck h
          refine va_iald (f := (N_helpers vN)) hx hb hK.1 hP 10 0 rfl rfl i26 dX2_open_36 ?_
          obtain rfl := q_inj h
          exact KJ20 _ _ hP hD hS
        · have h := q_pos c25 h
          refine lv_aload_n hx hb dX2_open_20 rfl (lv_at hl 1 rfl) ?_
          refine va_get (D := E.1) (ci := 1) (v := .ref (aN 1)) (C := RX1) (T := TX1) (N := 11) hx hb hts hinX1 hown hK.1 hP 9 rfl rfl 3 (by decide) hw3 (fun _ h9 => h9) rfl dX2_open_21 ?_
          refine lv_iload_n hx hb dX2_open_24 rfl (lv_at hl 3 rfl) ?_
          obtain ⟨i27, h⟩ := q_ck h
          refine va_iald (f := (N_helpers vN)) hx hb hK.1 hP 10 0 rfl rfl i27 dX2_open_25 ?_
          refine lv_iconst (v := 1) hx hb dX2_open_26 (by decide) ?_
          refine lv_iadd hx hb dX2_open_27 ?_
          refine lv_goto (tgt := 37) hx hb dX2_open_28 (by decide) ?_
          obtain rfl := q_inj h
          exact KJ20 _ _ hP hD hS
  have L53 : ∀ (vP : SP) (vN : SN) (x3 : Int32) (k : Nat) (H : Heap) (locs : List Loc) (ls : Array Slot), va_P E.1 vwCl (WP E aP vP ++ WN E aN vN) H → va_D A (WP E aP vP ++ WN E aN vN) → va_S A s.heap H locs → lv_has ls 4 [(0, .ref (aP 0)), (1, .ref (aN 0)), (3, .int x3)] → ∀ o, lpX2_open_53 vN k x3 vP = some o → (∀ (H : Heap) (locs : List Loc) (ls : Array Slot), va_P E.1 vwCl (WP E aP o ++ WN E aN vN) H → va_D A (WP E aP o ++ WN E aN vN) → va_S A s.heap H locs → lv_has ls 4 [] → W pr l e rmX2_open s m args below meth c H locs 0 0 Q (F0 m 97 ls [])) → W pr l e rmX2_open s m args below meth c H locs 0 0 Q (F0 m 53 ls []) := by
    intro vP vN x3 k
    induction k generalizing x3 vP with
    | zero => intro H locs ls hP hD hS hl o h; cases h
    | succ k ih =>
      intro H locs ls hP hD hS hl o h kk
      rw [lpX2_open_53] at h
      refine lv_iload_n hx hb dX2_open_53 rfl (lv_at hl 2 rfl) ?_
      refine lv_aload_n hx hb dX2_open_54 rfl (lv_at hl 1 rfl) ?_
      refine va_get (D := E.1) (ci := 1) (v := .int (N_asks vN)) (C := RX1) (T := TX1) (N := 11) hx hb hts hinX1 hown hK.1 hP 9 rfl rfl 1 (by decide) hw4 (fun _ h9 => h9) rfl dX2_open_55 ?_
      refine lv_icmp_ge (tgt := 97) hx hb dX2_open_58 (by decide) (fun c45 => ?_) (fun c45 => ?_)
      · have h := q_pos c45 h
        obtain rfl := q_inj h
        exact kk _ _ _ hP hD hS (lv_sub hl [] rfl)
      · have h := q_neg c45 h
        refine lv_aload_n hx hb dX2_open_61 rfl (lv_at hl 0 rfl) ?_
        refine va_get (D := E.1) (ci := 2) (v := .ref (aP 4)) (C := RX2) (T := TX2) (N := 8) hx hb hts hinX2 hown hK.1 hP 0 rfl rfl 3 (by decide) hw5 (fun _ h9 => h9) rfl dX2_open_62 ?_
        refine lv_iload_n hx hb dX2_open_65 rfl (lv_at hl 2 rfl) ?_
        refine lv_iconst (v := 0) hx hb dX2_open_66 (by decide) ?_
        obtain ⟨i46, h⟩ := q_ck h
        refine va_iast (f := (P_states vP)) hx hb hK.1 hP hD hS 4 0 rfl rfl i46 dX2_open_67 (fun H locs hP hD hS => ?_)
        have hP : va_P E.1 vwCl (WP E aP (P_states_s vP (upd (P_states vP) (Int32.toNatClampNeg x3) 0)) ++ WN E aN vN) H := hP
        have hD : va_D A (WP E aP (P_states_s vP (upd (P_states vP) (Int32.toNatClampNeg x3) 0)) ++ WN E aN vN) := hD
        refine lv_aload_n hx hb dX2_open_68 rfl (lv_at hl 0 rfl) ?_
        refine va_get (D := E.1) (ci := 2) (v := .ref (aP 5)) (C := RX2) (T := TX2) (N := 8) hx hb hts hinX2 hown hK.1 hP 0 rfl rfl 4 (by decide) hw6 (fun _ h9 => h9) rfl dX2_open_69 ?_
        refine lv_iload_n hx hb dX2_open_72 rfl (lv_at hl 2 rfl) ?_
        refine lv_aload_n hx hb dX2_open_73 rfl (lv_at hl 1 rfl) ?_
        refine lv_iload_n hx hb dX2_open_74 rfl (lv_at hl 2 rfl) ?_
        obtain ⟨o47, e48, h⟩ := q_bind h
        refine q_ci (va_runV (As := [.int x3]) (rest := [.int x3, .ref (aP 5)]) ⟨hx, hb, hml, hown, hts⟩ (wX1_firstRow l E aN vN x3 o47 e48 _) (cwV 1 hts gX2_open_X1_firstRow rfl rfl rfl (by decide +kernel) ⟨Nat.le_of_ble_eq_true rfl, Nat.le_of_ble_eq_true rfl⟩) (q_preV hK hP hD pm_2_1 1 9 rfl rfl) rfl rfl hl.1 rfl (lv_room (Nat.le_of_ble_eq_true rfl)) dX2_open_75 ⟨Nat.zero_le _, Nat.zero_le _⟩) hP hD hS hA pm_2_1 pm_2_1.symm (fun H locs hP hD hS => ?_)
        obtain ⟨i49, h⟩ := q_ck h
        refine va_iast (f := (P_rows vP)) hx hb hK.1 hP hD hS 5 0 rfl rfl i49 dX2_open_78 (fun H locs hP hD hS => ?_)
        have hP : va_P E.1 vwCl (WP E aP (P_rows_s (P_states_s vP (upd (P_states vP) (Int32.toNatClampNeg x3) 0)) (upd (P_rows vP) (Int32.toNatClampNeg x3) o47)) ++ WN E aN vN) H := hP
        have hD : va_D A (WP E aP (P_rows_s (P_states_s vP (upd (P_states vP) (Int32.toNatClampNeg x3) 0)) (upd (P_rows vP) (Int32.toNatClampNeg x3) o47)) ++ WN E aN vN) := hD
        refine lv_aload_n hx hb dX2_open_79 rfl (lv_at hl 0 rfl) ?_
        refine va_get (D := E.1) (ci := 2) (v := .ref (aP 6)) (C := RX2) (T := TX2) (N := 8) hx hb hts hinX2 hown hK.1 hP 0 rfl rfl 5 (by decide) hw7 (fun _ h9 => h9) rfl dX2_open_80 ?_
        refine lv_iload_n hx hb dX2_open_83 rfl (lv_at hl 2 rfl) ?_
        refine lv_aload_n hx hb dX2_open_84 rfl (lv_at hl 1 rfl) ?_
        refine va_get (D := E.1) (ci := 1) (v := .ref (aN 5)) (C := RX1) (T := TX1) (N := 11) hx hb hts hinX1 hown hK.1 hP 9 rfl rfl 7 (by decide) hw8 (fun _ h9 => h9) rfl dX2_open_85 ?_
        refine lv_iload_n hx hb dX2_open_88 rfl (lv_at hl 2 rfl) ?_
        obtain ⟨i50, h⟩ := q_ck h
        refine va_iald (f := (N_starts vN)) hx hb hK.1 hP 14 0 rfl rfl i50 dX2_open_89 ?_
        obtain ⟨i51, h⟩ := q_ck h
        refine va_iast (f := (P_dues vP)) hx hb hK.1 hP hD hS 6 0 rfl rfl i51 dX2_open_90 (fun H locs hP hD hS => ?_)
        have hP : va_P E.1 vwCl (WP E aP (P_dues_s (P_rows_s (P_states_s vP (upd (P_states vP) (Int32.toNatClampNeg x3) 0)) (upd (P_rows vP) (Int32.toNatClampNeg x3) o47)) (upd (P_dues vP) (Int32.toNatClampNeg x3) ((N_starts vN) (Int32.toNatClampNeg x3)))) ++ WN E aN vN) H := hP
        have hD : va_D A (WP E aP (P_dues_s (P_rows_s (P_states_s vP (upd (P_states vP) (Int32.toNatClampNeg x3) 0)) (upd (P_rows vP) (Int32.toNatClampNeg x3) o47)) (upd (P_dues vP) (Int32.toNatClampNeg x3) ((N_starts vN) (Int32.toNatClampNeg x3)))) ++ WN E aN vN) := hD
        refine lv_iinc (v := (x3 + 1)) (lv' := [(3, .int (x3 + 1)), (0, .ref (aP 0)), (1, .ref (aN 0))]) hx hb dX2_open_91 hl (k := 2) rfl rfl (by decide) rfl (fun ls hl => ?_)
        refine lv_goto (tgt := 53) hx hb dX2_open_94 (by decide) ?_
        exact ih (P_dues_s (P_rows_s (P_states_s vP (upd (P_states vP) (Int32.toNatClampNeg x3) 0)) (upd (P_rows vP) (Int32.toNatClampNeg x3) o47)) (upd (P_dues vP) (Int32.toNatClampNeg x3) ((N_starts vN) (Int32.toNatClampNeg x3)))) (x3 + 1) _ _ _ hP hD hS (lv_sub hl [1, 2, 0] rfl) _ h kk
  unfold mX2_open at h
  refine lv_iconst (v := 0) hx hb dX2_open_0 (by decide) ?_
  refine lv_istore_n (lv' := [(3, .int 0), (0, .ref (aP 0)), (1, .ref (aN 0)), (2, .int x2)]) hx hb dX2_open_1 rfl hl (by decide) rfl (fun ls hl => ?_)
  obtain ⟨o28, e29, h⟩ := q_bind h
  refine L2 vP vN x2 0 qFU _ _ _ hP hD hS (lv_sub hl [1, 2, 3, 0] rfl) o28 e29 (fun H locs ls hP hD hS hl => ?_)
  refine lv_iconst (v := 0) hx hb dX2_open_51 (by decide) ?_
  refine lv_istore_n (lv' := [(3, .int 0), (0, .ref (aP 0)), (1, .ref (aN 0))]) hx hb dX2_open_52 rfl hl (by decide) rfl (fun ls hl => ?_)
  obtain ⟨o52, e53, h⟩ := q_bind h
  refine L53 o28 vN 0 qFU _ _ _ hP hD hS (lv_sub hl [1, 2, 0] rfl) o52 e53 (fun H locs ls hP hD hS hl => ?_)
  obtain rfl := q_inj h
  exact hRt 97 _ _ _ dX2_open_97 hP hD hS
def lpX2_nextTick_5 (vP : SP) (vN : SN) : Nat → Int32 → Int32 → Option Int32
  | 0, _, _ => none
  | k + 1, x2, x3 => if (N_asks vN) ≤ x3 then (some x2) else (ck x3 60 (lpX2_nextTick_5 vP vN k (if ((P_dues vP) (Int32.toNatClampNeg x3)) < x2 then ((P_dues vP) (Int32.toNatClampNeg x3)) else x2) (x3 + 1)))
def mX2_nextTick (vP : SP) (vN : SN)  : Option Int32 := (lpX2_nextTick_5 vP vN qFU 1000000000 0).bind fun o7 => some o7
def rmX2_nextTick : Room := { frames := 1, cells := 0, slots := 0, locals := 21 }
set_option maxHeartbeats 8000000 in
set_option maxRecDepth 100000 in
theorem wX2_nextTick (l : Launch) (E : qE) (aP : Nat → Nat) (aN : Nat → Nat) (vP : SP) (vN : SN)  (o : Int32) (h : mX2_nextTick vP vN = some o) : MI l E yX2_nextTick wsX2_nextTick rmX2_nextTick [.ref (aP 0), .ref (aN 0)] (WP E aP vP ++ WN E aN vN) (WP E aP vP ++ WN E aN vN) o := by
  refine q_startI (cc := cX2_nextTick) (maxL := 4) (by decide) rfl (Nat.le_of_ble_eq_true rfl) ?_
  intro pr e s m args below meth c A Q hx hb hml hown hts hK hRt hP hD hA hS ls hl
  have hl : lv_has ls 4 [(0, .ref (aP 0)), (1, .ref (aN 0))] := hl
  have hinX1 : ∀ w ∈ wsX10, w ∈ wsX2_nextTick := by decide +kernel
  have hinX2 : ∀ w ∈ wsX20, w ∈ wsX2_nextTick := by decide +kernel
  have hw0 := hts (.constant RX2 44 (1000000000)) (by decide +kernel)
  have hw1 := hts (.fieldLink RX2 58 "QueueReader$Net" "asks" "I") (by decide +kernel)
  have hw2 := hts (.fieldLink RX2 27 "QueueReader$Play" "dues" "[I") (by decide +kernel)
  have hw3 := hts (.methodLink RX2 80 Lib.Math.min.name) (by decide +kernel)
  have hw4 := hts (.static Lib.Math.min.name) (by decide +kernel)
  have hw5 := hts (.initialized "java/lang/Math") (by decide +kernel)
  have hw6 := hts (.code Lib.Math.min.name Lib.Math.min.code 2 (some .int)) (by decide +kernel)
  have L5 : ∀ (vP : SP) (vN : SN) (x2 : Int32) (x3 : Int32) (k : Nat) (H : Heap) (locs : List Loc) (ls : Array Slot), va_P E.1 vwCl (WP E aP vP ++ WN E aN vN) H → va_D A (WP E aP vP ++ WN E aN vN) → va_S A s.heap H locs → lv_has ls 4 [(0, .ref (aP 0)), (1, .ref (aN 0)), (2, .int x2), (3, .int x3)] → ∀ o, lpX2_nextTick_5 vP vN k x2 x3 = some o → (∀ (H : Heap) (locs : List Loc) (ls : Array Slot), va_P E.1 vwCl (WP E aP vP ++ WN E aN vN) H → va_D A (WP E aP vP ++ WN E aN vN) → va_S A s.heap H locs → lv_has ls 4 [(2, .int o)] → W pr l e rmX2_nextTick s m args below meth c H locs 0 0 Q (F0 m 30 ls [])) → W pr l e rmX2_nextTick s m args below meth c H locs 0 0 Q (F0 m 5 ls []) := by
    intro vP vN x2 x3 k
    induction k generalizing x2 x3 with
    | zero => intro H locs ls hP hD hS hl o h; cases h
    | succ k ih =>
      intro H locs ls hP hD hS hl o h kk
      rw [lpX2_nextTick_5] at h
      refine lv_iload_n hx hb dX2_nextTick_5 rfl (lv_at hl 3 rfl) ?_
      refine lv_aload_n hx hb dX2_nextTick_6 rfl (lv_at hl 1 rfl) ?_
      refine va_get (D := E.1) (ci := 1) (v := .int (N_asks vN)) (C := RX1) (T := TX1) (N := 11) hx hb hts hinX1 hown hK.1 hP 9 rfl rfl 1 (by decide) hw1 (fun _ h9 => h9) rfl dX2_nextTick_7 ?_
      refine lv_icmp_ge (tgt := 30) hx hb dX2_nextTick_10 (by decide) (fun c5 => ?_) (fun c5 => ?_)
      · have h := q_pos c5 h
        obtain rfl := q_inj h
        exact kk _ _ _ hP hD hS (lv_sub hl [2] rfl)
      · have h := q_neg c5 h
        refine lv_iload_n hx hb dX2_nextTick_13 rfl (lv_at hl 2 rfl) ?_
        refine lv_aload_n hx hb dX2_nextTick_14 rfl (lv_at hl 0 rfl) ?_
        refine va_get (D := E.1) (ci := 2) (v := .ref (aP 6)) (C := RX2) (T := TX2) (N := 8) hx hb hts hinX2 hown hK.1 hP 0 rfl rfl 5 (by decide) hw2 (fun _ h9 => h9) rfl dX2_nextTick_15 ?_
        refine lv_iload_n hx hb dX2_nextTick_18 rfl (lv_at hl 3 rfl) ?_
        obtain ⟨i6, h⟩ := q_ck h
        refine va_iald (f := (P_dues vP)) hx hb hK.1 hP 6 0 rfl rfl i6 dX2_nextTick_19 ?_
        refine va_mmin hx hb (hml.trans hl.1.symm) hown hw3 hw4 hw5 hw6 (Nat.le_of_ble_eq_true rfl) (Nat.le_of_ble_eq_true rfl) (Nat.zero_le _) (Nat.zero_le _) dX2_nextTick_20 ?_
        refine lv_istore_n (lv' := [(2, .int (if ((P_dues vP) (Int32.toNatClampNeg x3)) < x2 then ((P_dues vP) (Int32.toNatClampNeg x3)) else x2)), (0, .ref (aP 0)), (1, .ref (aN 0)), (3, .int x3)]) hx hb dX2_nextTick_23 rfl hl (by decide) rfl (fun ls hl => ?_)
        refine lv_iinc (v := (x3 + 1)) (lv' := [(3, .int (x3 + 1)), (2, .int (if ((P_dues vP) (Int32.toNatClampNeg x3)) < x2 then ((P_dues vP) (Int32.toNatClampNeg x3)) else x2)), (0, .ref (aP 0)), (1, .ref (aN 0))]) hx hb dX2_nextTick_24 hl (k := 3) rfl rfl (by decide) rfl (fun ls hl => ?_)
        refine lv_goto (tgt := 5) hx hb dX2_nextTick_27 (by decide) ?_
        exact ih (if ((P_dues vP) (Int32.toNatClampNeg x3)) < x2 then ((P_dues vP) (Int32.toNatClampNeg x3)) else x2) (x3 + 1) _ _ _ hP hD hS (lv_sub hl [2, 3, 1, 0] rfl) _ h kk
  unfold mX2_nextTick at h
  refine lv_ldc (v := 1000000000) hx hb hown hw0 dX2_nextTick_0 ?_
  refine lv_istore_n (lv' := [(2, .int 1000000000), (0, .ref (aP 0)), (1, .ref (aN 0))]) hx hb dX2_nextTick_2 rfl hl (by decide) rfl (fun ls hl => ?_)
  refine lv_iconst (v := 0) hx hb dX2_nextTick_3 (by decide) ?_
  refine lv_istore_n (lv' := [(3, .int 0), (2, .int 1000000000), (0, .ref (aP 0)), (1, .ref (aN 0))]) hx hb dX2_nextTick_4 rfl hl (by decide) rfl (fun ls hl => ?_)
  obtain ⟨o7, e8, h⟩ := q_bind h
  refine L5 vP vN 1000000000 0 qFU _ _ _ hP hD hS (lv_sub hl [2, 3, 1, 0] rfl) o7 e8 (fun H locs ls hP hD hS hl => ?_)
  refine lv_iload_n hx hb dX2_nextTick_30 rfl (lv_at hl 0 rfl) ?_
  obtain rfl := q_inj h
  exact hRt 31 _ _ _ dX2_nextTick_31 hP hD hS
def mX2_arrive (vP : SP) (vN : SN) (x2 : Int32) (x3 : Int32) : Option SP := ck x2 60 (ck ((P_rows vP) (Int32.toNatClampNeg x2)) 300 (ck x2 60 (ck x2 60 (ck ((P_rows vP) (Int32.toNatClampNeg x2)) 300 (ck ((N_stepPlaces vN) (Int32.toNatClampNeg ((P_rows vP) (Int32.toNatClampNeg x2)))) 5 (ck ((N_stepPlaces vN) (Int32.toNatClampNeg ((P_rows vP) (Int32.toNatClampNeg x2)))) 5 (some (P_waiting_s (P_dues_s (P_states_s (P_came_s vP (upd (P_came vP) (Int32.toNatClampNeg ((P_rows vP) (Int32.toNatClampNeg x2))) x3)) (upd (P_states vP) (Int32.toNatClampNeg x2) 1)) (upd (P_dues vP) (Int32.toNatClampNeg x2) 1000000000)) (upd (P_waiting vP) (Int32.toNatClampNeg ((N_stepPlaces vN) (Int32.toNatClampNeg ((P_rows vP) (Int32.toNatClampNeg x2))))) (((P_waiting vP) (Int32.toNatClampNeg ((N_stepPlaces vN) (Int32.toNatClampNeg ((P_rows vP) (Int32.toNatClampNeg x2)))))) + 1))))))))))
def rmX2_arrive : Room := { frames := 0, cells := 0, slots := 0, locals := 0 }
set_option maxHeartbeats 8000000 in
set_option maxRecDepth 100000 in
theorem wX2_arrive (l : Launch) (E : qE) (aP : Nat → Nat) (aN : Nat → Nat) (vP : SP) (vN : SN) (x2 : Int32) (x3 : Int32) (o : SP) (h : mX2_arrive vP vN x2 x3 = some o) : MV l E yX2_arrive wsX2_arrive rmX2_arrive [.ref (aP 0), .ref (aN 0), .int x2, .int x3] (WP E aP vP ++ WN E aN vN) (WP E aP o ++ WN E aN vN) := by
  refine q_startV (cc := cX2_arrive) (maxL := 5) (by decide) rfl (Nat.le_of_ble_eq_true rfl) ?_
  intro pr e s m args below meth c A Q hx hb hml hown hts hK hRt hP hD hA hS ls hl
  have hl : lv_has ls 5 [(0, .ref (aP 0)), (1, .ref (aN 0)), (2, .int x2), (3, .int x3)] := hl
  have hinX1 : ∀ w ∈ wsX10, w ∈ wsX2_arrive := by decide +kernel
  have hinX2 : ∀ w ∈ wsX20, w ∈ wsX2_arrive := by decide +kernel
  have hw0 := hts (.fieldLink RX2 24 "QueueReader$Play" "rows" "[I") (by decide +kernel)
  have hw1 := hts (.fieldLink RX2 9 "QueueReader$Play" "came" "[I") (by decide +kernel)
  have hw2 := hts (.fieldLink RX2 21 "QueueReader$Play" "states" "[I") (by decide +kernel)
  have hw3 := hts (.fieldLink RX2 27 "QueueReader$Play" "dues" "[I") (by decide +kernel)
  have hw4 := hts (.constant RX2 44 (1000000000)) (by decide +kernel)
  have hw5 := hts (.fieldLink RX2 33 "QueueReader$Play" "waiting" "[I") (by decide +kernel)
  have hw6 := hts (.fieldLink RX2 89 "QueueReader$Net" "stepPlaces" "[I") (by decide +kernel)
  unfold mX2_arrive at h
  refine lv_aload_n hx hb dX2_arrive_0 rfl (lv_at hl 0 rfl) ?_
  refine va_get (D := E.1) (ci := 2) (v := .ref (aP 5)) (C := RX2) (T := TX2) (N := 8) hx hb hts hinX2 hown hK.1 hP 0 rfl rfl 4 (by decide) hw0 (fun _ h9 => h9) rfl dX2_arrive_1 ?_
  refine lv_iload_n hx hb dX2_arrive_4 rfl (lv_at hl 2 rfl) ?_
  obtain ⟨i1, h⟩ := q_ck h
  refine va_iald (f := (P_rows vP)) hx hb hK.1 hP 5 0 rfl rfl i1 dX2_arrive_5 ?_
  refine lv_istore (lv' := [(4, .int ((P_rows vP) (Int32.toNatClampNeg x2))), (0, .ref (aP 0)), (1, .ref (aN 0)), (2, .int x2), (3, .int x3)]) hx hb dX2_arrive_6 hl (by decide) rfl (fun ls hl => ?_)
  refine lv_aload_n hx hb dX2_arrive_8 rfl (lv_at hl 1 rfl) ?_
  refine va_get (D := E.1) (ci := 2) (v := .ref (aP 1)) (C := RX2) (T := TX2) (N := 8) hx hb hts hinX2 hown hK.1 hP 0 rfl rfl 0 (by decide) hw1 (fun _ h9 => h9) rfl dX2_arrive_9 ?_
  refine lv_iload hx hb dX2_arrive_12 (lv_at hl 0 rfl) ?_
  refine lv_iload_n hx hb dX2_arrive_14 rfl (lv_at hl 4 rfl) ?_
  obtain ⟨i2, h⟩ := q_ck h
  refine va_iast (f := (P_came vP)) hx hb hK.1 hP hD hS 1 0 rfl rfl i2 dX2_arrive_15 (fun H locs hP hD hS => ?_)
  have hP : va_P E.1 vwCl (WP E aP (P_came_s vP (upd (P_came vP) (Int32.toNatClampNeg ((P_rows vP) (Int32.toNatClampNeg x2))) x3)) ++ WN E aN vN) H := hP
  have hD : va_D A (WP E aP (P_came_s vP (upd (P_came vP) (Int32.toNatClampNeg ((P_rows vP) (Int32.toNatClampNeg x2))) x3)) ++ WN E aN vN) := hD
  refine lv_aload_n hx hb dX2_arrive_16 rfl (lv_at hl 1 rfl) ?_
  refine va_get (D := E.1) (ci := 2) (v := .ref (aP 4)) (C := RX2) (T := TX2) (N := 8) hx hb hts hinX2 hown hK.1 hP 0 rfl rfl 3 (by decide) hw2 (fun _ h9 => h9) rfl dX2_arrive_17 ?_
  refine lv_iload_n hx hb dX2_arrive_20 rfl (lv_at hl 3 rfl) ?_
  refine lv_iconst (v := 1) hx hb dX2_arrive_21 (by decide) ?_
  obtain ⟨i3, h⟩ := q_ck h
  refine va_iast (f := (P_states vP)) hx hb hK.1 hP hD hS 4 0 rfl rfl i3 dX2_arrive_22 (fun H locs hP hD hS => ?_)
  have hP : va_P E.1 vwCl (WP E aP (P_states_s (P_came_s vP (upd (P_came vP) (Int32.toNatClampNeg ((P_rows vP) (Int32.toNatClampNeg x2))) x3)) (upd (P_states vP) (Int32.toNatClampNeg x2) 1)) ++ WN E aN vN) H := hP
  have hD : va_D A (WP E aP (P_states_s (P_came_s vP (upd (P_came vP) (Int32.toNatClampNeg ((P_rows vP) (Int32.toNatClampNeg x2))) x3)) (upd (P_states vP) (Int32.toNatClampNeg x2) 1)) ++ WN E aN vN) := hD
  refine lv_aload_n hx hb dX2_arrive_23 rfl (lv_at hl 1 rfl) ?_
  refine va_get (D := E.1) (ci := 2) (v := .ref (aP 6)) (C := RX2) (T := TX2) (N := 8) hx hb hts hinX2 hown hK.1 hP 0 rfl rfl 5 (by decide) hw3 (fun _ h9 => h9) rfl dX2_arrive_24 ?_
  refine lv_iload_n hx hb dX2_arrive_27 rfl (lv_at hl 3 rfl) ?_
  refine lv_ldc (v := 1000000000) hx hb hown hw4 dX2_arrive_28 ?_
  obtain ⟨i4, h⟩ := q_ck h
  refine va_iast (f := (P_dues vP)) hx hb hK.1 hP hD hS 6 0 rfl rfl i4 dX2_arrive_30 (fun H locs hP hD hS => ?_)
  have hP : va_P E.1 vwCl (WP E aP (P_dues_s (P_states_s (P_came_s vP (upd (P_came vP) (Int32.toNatClampNeg ((P_rows vP) (Int32.toNatClampNeg x2))) x3)) (upd (P_states vP) (Int32.toNatClampNeg x2) 1)) (upd (P_dues vP) (Int32.toNatClampNeg x2) 1000000000)) ++ WN E aN vN) H := hP
  have hD : va_D A (WP E aP (P_dues_s (P_states_s (P_came_s vP (upd (P_came vP) (Int32.toNatClampNeg ((P_rows vP) (Int32.toNatClampNeg x2))) x3)) (upd (P_states vP) (Int32.toNatClampNeg x2) 1)) (upd (P_dues vP) (Int32.toNatClampNeg x2) 1000000000)) ++ WN E aN vN) := hD
  refine lv_aload_n hx hb dX2_arrive_31 rfl (lv_at hl 1 rfl) ?_
  refine va_get (D := E.1) (ci := 2) (v := .ref (aP 8)) (C := RX2) (T := TX2) (N := 8) hx hb hts hinX2 hown hK.1 hP 0 rfl rfl 7 (by decide) hw5 (fun _ h9 => h9) rfl dX2_arrive_32 ?_
  refine lv_aload_n hx hb dX2_arrive_35 rfl (lv_at hl 2 rfl) ?_
  refine va_get (D := E.1) (ci := 1) (v := .ref (aN 7)) (C := RX1) (T := TX1) (N := 11) hx hb hts hinX1 hown hK.1 hP 9 rfl rfl 9 (by decide) hw6 (fun _ h9 => h9) rfl dX2_arrive_36 ?_
  refine lv_iload hx hb dX2_arrive_39 (lv_at hl 0 rfl) ?_
  obtain ⟨i5, h⟩ := q_ck h
  refine va_iald (f := (N_stepPlaces vN)) hx hb hK.1 hP 16 0 rfl rfl i5 dX2_arrive_41 ?_
  refine lv_dup2_11 hx hb dX2_arrive_42 rfl rfl ?_
  obtain ⟨i6, h⟩ := q_ck h
  refine va_iald (f := (P_waiting vP)) hx hb hK.1 hP 8 0 rfl rfl i6 dX2_arrive_43 ?_
  refine lv_iconst (v := 1) hx hb dX2_arrive_44 (by decide) ?_
  refine lv_iadd hx hb dX2_arrive_45 ?_
  obtain ⟨i7, h⟩ := q_ck h
  refine va_iast (f := (P_waiting vP)) hx hb hK.1 hP hD hS 8 0 rfl rfl i7 dX2_arrive_46 (fun H locs hP hD hS => ?_)
  have hP : va_P E.1 vwCl (WP E aP (P_waiting_s (P_dues_s (P_states_s (P_came_s vP (upd (P_came vP) (Int32.toNatClampNeg ((P_rows vP) (Int32.toNatClampNeg x2))) x3)) (upd (P_states vP) (Int32.toNatClampNeg x2) 1)) (upd (P_dues vP) (Int32.toNatClampNeg x2) 1000000000)) (upd (P_waiting vP) (Int32.toNatClampNeg ((N_stepPlaces vN) (Int32.toNatClampNeg ((P_rows vP) (Int32.toNatClampNeg x2))))) (((P_waiting vP) (Int32.toNatClampNeg ((N_stepPlaces vN) (Int32.toNatClampNeg ((P_rows vP) (Int32.toNatClampNeg x2)))))) + 1))) ++ WN E aN vN) H := hP
  have hD : va_D A (WP E aP (P_waiting_s (P_dues_s (P_states_s (P_came_s vP (upd (P_came vP) (Int32.toNatClampNeg ((P_rows vP) (Int32.toNatClampNeg x2))) x3)) (upd (P_states vP) (Int32.toNatClampNeg x2) 1)) (upd (P_dues vP) (Int32.toNatClampNeg x2) 1000000000)) (upd (P_waiting vP) (Int32.toNatClampNeg ((N_stepPlaces vN) (Int32.toNatClampNeg ((P_rows vP) (Int32.toNatClampNeg x2))))) (((P_waiting vP) (Int32.toNatClampNeg ((N_stepPlaces vN) (Int32.toNatClampNeg ((P_rows vP) (Int32.toNatClampNeg x2)))))) + 1))) ++ WN E aN vN) := hD
  obtain rfl := q_inj h
  exact hRt 47 _ _ _ dX2_arrive_47 hP hD hS
def mX2_finish (vP : SP) (vN : SN) (x2 : Int32) (x3 : Int32) : Option SP := ck x2 60 (ck ((P_rows vP) (Int32.toNatClampNeg x2)) 300 (ck ((N_stepPlaces vN) (Int32.toNatClampNeg ((P_rows vP) (Int32.toNatClampNeg x2)))) 5 (ck ((N_stepPlaces vN) (Int32.toNatClampNeg ((P_rows vP) (Int32.toNatClampNeg x2)))) 5 ((mX1_lastRow vN x2).bind fun o5 => if ((P_rows vP) (Int32.toNatClampNeg x2)) = o5 then (ck x2 60 (ck x2 60 (some (P_free_s (P_dues_s (P_states_s vP (upd (P_states vP) (Int32.toNatClampNeg x2) 3)) (upd (P_dues vP) (Int32.toNatClampNeg x2) 1000000000)) (upd (P_free vP) (Int32.toNatClampNeg ((N_stepPlaces vN) (Int32.toNatClampNeg ((P_rows vP) (Int32.toNatClampNeg x2))))) (((P_free vP) (Int32.toNatClampNeg ((N_stepPlaces vN) (Int32.toNatClampNeg ((P_rows vP) (Int32.toNatClampNeg x2)))))) + 1)))))) else (ck x2 60 (ck x2 60 (ck ((N_stepPlaces vN) (Int32.toNatClampNeg ((P_rows vP) (Int32.toNatClampNeg x2)))) 5 (ck x2 60 (ck ((N_stepPlaces vN) (Int32.toNatClampNeg ((P_rows vP) (Int32.toNatClampNeg x2)))) 5 (if ((N_delays vN) (Int32.toNatClampNeg ((N_stepPlaces vN) (Int32.toNatClampNeg ((P_rows vP) (Int32.toNatClampNeg x2)))))) = 0 then ((mX2_arrive (P_free_s (P_dues_s (P_rows_s (P_states_s vP (upd (P_states vP) (Int32.toNatClampNeg x2) 0)) (upd (P_rows vP) (Int32.toNatClampNeg x2) (((P_rows vP) (Int32.toNatClampNeg x2)) + 1))) (upd (P_dues vP) (Int32.toNatClampNeg x2) (x3 + ((N_delays vN) (Int32.toNatClampNeg ((N_stepPlaces vN) (Int32.toNatClampNeg ((P_rows vP) (Int32.toNatClampNeg x2))))))))) (upd (P_free vP) (Int32.toNatClampNeg ((N_stepPlaces vN) (Int32.toNatClampNeg ((P_rows vP) (Int32.toNatClampNeg x2))))) (((P_free vP) (Int32.toNatClampNeg ((N_stepPlaces vN) (Int32.toNatClampNeg ((P_rows vP) (Int32.toNatClampNeg x2)))))) + 1))) vN x2 x3).bind fun o14 => some o14) else (some (P_free_s (P_dues_s (P_rows_s (P_states_s vP (upd (P_states vP) (Int32.toNatClampNeg x2) 0)) (upd (P_rows vP) (Int32.toNatClampNeg x2) (((P_rows vP) (Int32.toNatClampNeg x2)) + 1))) (upd (P_dues vP) (Int32.toNatClampNeg x2) (x3 + ((N_delays vN) (Int32.toNatClampNeg ((N_stepPlaces vN) (Int32.toNatClampNeg ((P_rows vP) (Int32.toNatClampNeg x2))))))))) (upd (P_free vP) (Int32.toNatClampNeg ((N_stepPlaces vN) (Int32.toNatClampNeg ((P_rows vP) (Int32.toNatClampNeg x2))))) (((P_free vP) (Int32.toNatClampNeg ((N_stepPlaces vN) (Int32.toNatClampNeg ((P_rows vP) (Int32.toNatClampNeg x2)))))) + 1))))))))))))))
def rmX2_finish : Room := { frames := 2, cells := 0, slots := 0, locals := 42 }
set_option maxHeartbeats 8000000 in
set_option maxRecDepth 100000 in
theorem wX2_finish (l : Launch) (E : qE) (aP : Nat → Nat) (aN : Nat → Nat) (vP : SP) (vN : SN) (x2 : Int32) (x3 : Int32) (o : SP) (h : mX2_finish vP vN x2 x3 = some o) : MV l E yX2_finish wsX2_finish rmX2_finish [.ref (aP 0), .ref (aN 0), .int x2, .int x3] (WP E aP vP ++ WN E aN vN) (WP E aP o ++ WN E aN vN) := by
  refine q_startV (cc := cX2_finish) (maxL := 6) (by decide) rfl (Nat.le_of_ble_eq_true rfl) ?_
  intro pr e s m args below meth c A Q hx hb hml hown hts hK hRt hP hD hA hS ls hl
  have hl : lv_has ls 6 [(0, .ref (aP 0)), (1, .ref (aN 0)), (2, .int x2), (3, .int x3)] := hl
  have hinX1 : ∀ w ∈ wsX10, w ∈ wsX2_finish := by decide +kernel
  have hinX2 : ∀ w ∈ wsX20, w ∈ wsX2_finish := by decide +kernel
  have hw0 := hts (.fieldLink RX2 24 "QueueReader$Play" "rows" "[I") (by decide +kernel)
  have hw1 := hts (.fieldLink RX2 89 "QueueReader$Net" "stepPlaces" "[I") (by decide +kernel)
  have hw2 := hts (.fieldLink RX2 30 "QueueReader$Play" "free" "[I") (by decide +kernel)
  have hw3 := hts (.fieldLink RX2 21 "QueueReader$Play" "states" "[I") (by decide +kernel)
  have hw4 := hts (.fieldLink RX2 27 "QueueReader$Play" "dues" "[I") (by decide +kernel)
  have hw5 := hts (.fieldLink RX2 92 "QueueReader$Net" "delays" "[I") (by decide +kernel)
  have hw6 := hts (.constant RX2 44 (1000000000)) (by decide +kernel)
  unfold mX2_finish at h
  refine lv_aload_n hx hb dX2_finish_0 rfl (lv_at hl 0 rfl) ?_
  refine va_get (D := E.1) (ci := 2) (v := .ref (aP 5)) (C := RX2) (T := TX2) (N := 8) hx hb hts hinX2 hown hK.1 hP 0 rfl rfl 4 (by decide) hw0 (fun _ h9 => h9) rfl dX2_finish_1 ?_
  refine lv_iload_n hx hb dX2_finish_4 rfl (lv_at hl 2 rfl) ?_
  obtain ⟨i1, h⟩ := q_ck h
  refine va_iald (f := (P_rows vP)) hx hb hK.1 hP 5 0 rfl rfl i1 dX2_finish_5 ?_
  refine lv_istore (lv' := [(4, .int ((P_rows vP) (Int32.toNatClampNeg x2))), (0, .ref (aP 0)), (1, .ref (aN 0)), (2, .int x2), (3, .int x3)]) hx hb dX2_finish_6 hl (by decide) rfl (fun ls hl => ?_)
  refine lv_aload_n hx hb dX2_finish_8 rfl (lv_at hl 2 rfl) ?_
  refine va_get (D := E.1) (ci := 1) (v := .ref (aN 7)) (C := RX1) (T := TX1) (N := 11) hx hb hts hinX1 hown hK.1 hP 9 rfl rfl 9 (by decide) hw1 (fun _ h9 => h9) rfl dX2_finish_9 ?_
  refine lv_iload hx hb dX2_finish_12 (lv_at hl 0 rfl) ?_
  obtain ⟨i2, h⟩ := q_ck h
  refine va_iald (f := (N_stepPlaces vN)) hx hb hK.1 hP 16 0 rfl rfl i2 dX2_finish_14 ?_
  refine lv_istore (lv' := [(5, .int ((N_stepPlaces vN) (Int32.toNatClampNeg ((P_rows vP) (Int32.toNatClampNeg x2))))), (4, .int ((P_rows vP) (Int32.toNatClampNeg x2))), (0, .ref (aP 0)), (1, .ref (aN 0)), (2, .int x2), (3, .int x3)]) hx hb dX2_finish_15 hl (by decide) rfl (fun ls hl => ?_)
  refine lv_aload_n hx hb dX2_finish_17 rfl (lv_at hl 2 rfl) ?_
  refine va_get (D := E.1) (ci := 2) (v := .ref (aP 7)) (C := RX2) (T := TX2) (N := 8) hx hb hts hinX2 hown hK.1 hP 0 rfl rfl 6 (by decide) hw2 (fun _ h9 => h9) rfl dX2_finish_18 ?_
  refine lv_iload hx hb dX2_finish_21 (lv_at hl 0 rfl) ?_
  refine lv_dup2_11 hx hb dX2_finish_23 rfl rfl ?_
  obtain ⟨i3, h⟩ := q_ck h
  refine va_iald (f := (P_free vP)) hx hb hK.1 hP 7 0 rfl rfl i3 dX2_finish_24 ?_
  refine lv_iconst (v := 1) hx hb dX2_finish_25 (by decide) ?_
  refine lv_iadd hx hb dX2_finish_26 ?_
  obtain ⟨i4, h⟩ := q_ck h
  refine va_iast (f := (P_free vP)) hx hb hK.1 hP hD hS 7 0 rfl rfl i4 dX2_finish_27 (fun H locs hP hD hS => ?_)
  have hP : va_P E.1 vwCl (WP E aP (P_free_s vP (upd (P_free vP) (Int32.toNatClampNeg ((N_stepPlaces vN) (Int32.toNatClampNeg ((P_rows vP) (Int32.toNatClampNeg x2))))) (((P_free vP) (Int32.toNatClampNeg ((N_stepPlaces vN) (Int32.toNatClampNeg ((P_rows vP) (Int32.toNatClampNeg x2)))))) + 1))) ++ WN E aN vN) H := hP
  have hD : va_D A (WP E aP (P_free_s vP (upd (P_free vP) (Int32.toNatClampNeg ((N_stepPlaces vN) (Int32.toNatClampNeg ((P_rows vP) (Int32.toNatClampNeg x2))))) (((P_free vP) (Int32.toNatClampNeg ((N_stepPlaces vN) (Int32.toNatClampNeg ((P_rows vP) (Int32.toNatClampNeg x2)))))) + 1))) ++ WN E aN vN) := hD
  refine lv_iload hx hb dX2_finish_28 (lv_at hl 1 rfl) ?_
  refine lv_aload_n hx hb dX2_finish_30 rfl (lv_at hl 3 rfl) ?_
  refine lv_iload_n hx hb dX2_finish_31 rfl (lv_at hl 4 rfl) ?_
  obtain ⟨o5, e6, h⟩ := q_bind h
  refine q_ci (va_runV (As := [.int x2]) (rest := [.int ((P_rows vP) (Int32.toNatClampNeg x2))]) ⟨hx, hb, hml, hown, hts⟩ (wX1_lastRow l E aN vN x2 o5 e6 _) (cwV 1 hts gX2_finish_X1_lastRow rfl rfl rfl (by decide +kernel) ⟨Nat.le_of_ble_eq_true rfl, Nat.le_of_ble_eq_true rfl⟩) (q_preV hK hP hD pm_2_1 1 9 rfl rfl) rfl rfl hl.1 rfl (lv_room (Nat.le_of_ble_eq_true rfl)) dX2_finish_32 ⟨Nat.zero_le _, Nat.zero_le _⟩) hP hD hS hA pm_2_1 pm_2_1.symm (fun H locs hP hD hS => ?_)
  refine lv_icmp_ne (tgt := 54) hx hb dX2_finish_35 (by decide) (fun c7 => ?_) (fun c7 => ?_)
  · have h := q_neg c7 h
    refine lv_aload_n hx hb dX2_finish_54 rfl (lv_at hl 2 rfl) ?_
    refine va_get (D := E.1) (ci := 2) (v := .ref (aP 5)) (C := RX2) (T := TX2) (N := 8) hx hb hts hinX2 hown hK.1 hP 0 rfl rfl 4 (by decide) hw0 (fun _ h9 => h9) rfl dX2_finish_55 ?_
    refine lv_iload_n hx hb dX2_finish_58 rfl (lv_at hl 4 rfl) ?_
    refine lv_iload hx hb dX2_finish_59 (lv_at hl 1 rfl) ?_
    refine lv_iconst (v := 1) hx hb dX2_finish_61 (by decide) ?_
    refine lv_iadd hx hb dX2_finish_62 ?_
    obtain ⟨i8, h⟩ := q_ck h
    refine va_iast (f := (P_rows vP)) hx hb hK.1 hP hD hS 5 0 rfl rfl i8 dX2_finish_63 (fun H locs hP hD hS => ?_)
    have hP : va_P E.1 vwCl (WP E aP (P_free_s (P_rows_s vP (upd (P_rows vP) (Int32.toNatClampNeg x2) (((P_rows vP) (Int32.toNatClampNeg x2)) + 1))) (upd (P_free vP) (Int32.toNatClampNeg ((N_stepPlaces vN) (Int32.toNatClampNeg ((P_rows vP) (Int32.toNatClampNeg x2))))) (((P_free vP) (Int32.toNatClampNeg ((N_stepPlaces vN) (Int32.toNatClampNeg ((P_rows vP) (Int32.toNatClampNeg x2)))))) + 1))) ++ WN E aN vN) H := hP
    have hD : va_D A (WP E aP (P_free_s (P_rows_s vP (upd (P_rows vP) (Int32.toNatClampNeg x2) (((P_rows vP) (Int32.toNatClampNeg x2)) + 1))) (upd (P_free vP) (Int32.toNatClampNeg ((N_stepPlaces vN) (Int32.toNatClampNeg ((P_rows vP) (Int32.toNatClampNeg x2))))) (((P_free vP) (Int32.toNatClampNeg ((N_stepPlaces vN) (Int32.toNatClampNeg ((P_rows vP) (Int32.toNatClampNeg x2)))))) + 1))) ++ WN E aN vN) := hD
    refine lv_aload_n hx hb dX2_finish_64 rfl (lv_at hl 2 rfl) ?_
    refine va_get (D := E.1) (ci := 2) (v := .ref (aP 4)) (C := RX2) (T := TX2) (N := 8) hx hb hts hinX2 hown hK.1 hP 0 rfl rfl 3 (by decide) hw3 (fun _ h9 => h9) rfl dX2_finish_65 ?_
    refine lv_iload_n hx hb dX2_finish_68 rfl (lv_at hl 4 rfl) ?_
    refine lv_iconst (v := 0) hx hb dX2_finish_69 (by decide) ?_
    obtain ⟨i9, h⟩ := q_ck h
    refine va_iast (f := (P_states vP)) hx hb hK.1 hP hD hS 4 0 rfl rfl i9 dX2_finish_70 (fun H locs hP hD hS => ?_)
    have hP : va_P E.1 vwCl (WP E aP (P_free_s (P_rows_s (P_states_s vP (upd (P_states vP) (Int32.toNatClampNeg x2) 0)) (upd (P_rows vP) (Int32.toNatClampNeg x2) (((P_rows vP) (Int32.toNatClampNeg x2)) + 1))) (upd (P_free vP) (Int32.toNatClampNeg ((N_stepPlaces vN) (Int32.toNatClampNeg ((P_rows vP) (Int32.toNatClampNeg x2))))) (((P_free vP) (Int32.toNatClampNeg ((N_stepPlaces vN) (Int32.toNatClampNeg ((P_rows vP) (Int32.toNatClampNeg x2)))))) + 1))) ++ WN E aN vN) H := hP
    have hD : va_D A (WP E aP (P_free_s (P_rows_s (P_states_s vP (upd (P_states vP) (Int32.toNatClampNeg x2) 0)) (upd (P_rows vP) (Int32.toNatClampNeg x2) (((P_rows vP) (Int32.toNatClampNeg x2)) + 1))) (upd (P_free vP) (Int32.toNatClampNeg ((N_stepPlaces vN) (Int32.toNatClampNeg ((P_rows vP) (Int32.toNatClampNeg x2))))) (((P_free vP) (Int32.toNatClampNeg ((N_stepPlaces vN) (Int32.toNatClampNeg ((P_rows vP) (Int32.toNatClampNeg x2)))))) + 1))) ++ WN E aN vN) := hD
    refine lv_aload_n hx hb dX2_finish_71 rfl (lv_at hl 2 rfl) ?_
    refine va_get (D := E.1) (ci := 2) (v := .ref (aP 6)) (C := RX2) (T := TX2) (N := 8) hx hb hts hinX2 hown hK.1 hP 0 rfl rfl 5 (by decide) hw4 (fun _ h9 => h9) rfl dX2_finish_72 ?_
    refine lv_iload_n hx hb dX2_finish_75 rfl (lv_at hl 4 rfl) ?_
    refine lv_iload_n hx hb dX2_finish_76 rfl (lv_at hl 5 rfl) ?_
    refine lv_aload_n hx hb dX2_finish_77 rfl (lv_at hl 3 rfl) ?_
    refine va_get (D := E.1) (ci := 1) (v := .ref (aN 3)) (C := RX1) (T := TX1) (N := 11) hx hb hts hinX1 hown hK.1 hP 9 rfl rfl 5 (by decide) hw5 (fun _ h9 => h9) rfl dX2_finish_78 ?_
    refine lv_iload hx hb dX2_finish_81 (lv_at hl 0 rfl) ?_
    obtain ⟨i10, h⟩ := q_ck h
    refine va_iald (f := (N_delays vN)) hx hb hK.1 hP 12 0 rfl rfl i10 dX2_finish_83 ?_
    refine lv_iadd hx hb dX2_finish_84 ?_
    obtain ⟨i11, h⟩ := q_ck h
    refine va_iast (f := (P_dues vP)) hx hb hK.1 hP hD hS 6 0 rfl rfl i11 dX2_finish_85 (fun H locs hP hD hS => ?_)
    have hP : va_P E.1 vwCl (WP E aP (P_free_s (P_dues_s (P_rows_s (P_states_s vP (upd (P_states vP) (Int32.toNatClampNeg x2) 0)) (upd (P_rows vP) (Int32.toNatClampNeg x2) (((P_rows vP) (Int32.toNatClampNeg x2)) + 1))) (upd (P_dues vP) (Int32.toNatClampNeg x2) (x3 + ((N_delays vN) (Int32.toNatClampNeg ((N_stepPlaces vN) (Int32.toNatClampNeg ((P_rows vP) (Int32.toNatClampNeg x2))))))))) (upd (P_free vP) (Int32.toNatClampNeg ((N_stepPlaces vN) (Int32.toNatClampNeg ((P_rows vP) (Int32.toNatClampNeg x2))))) (((P_free vP) (Int32.toNatClampNeg ((N_stepPlaces vN) (Int32.toNatClampNeg ((P_rows vP) (Int32.toNatClampNeg x2)))))) + 1))) ++ WN E aN vN) H := hP
    have hD : va_D A (WP E aP (P_free_s (P_dues_s (P_rows_s (P_states_s vP (upd (P_states vP) (Int32.toNatClampNeg x2) 0)) (upd (P_rows vP) (Int32.toNatClampNeg x2) (((P_rows vP) (Int32.toNatClampNeg x2)) + 1))) (upd (P_dues vP) (Int32.toNatClampNeg x2) (x3 + ((N_delays vN) (Int32.toNatClampNeg ((N_stepPlaces vN) (Int32.toNatClampNeg ((P_rows vP) (Int32.toNatClampNeg x2))))))))) (upd (P_free vP) (Int32.toNatClampNeg ((N_stepPlaces vN) (Int32.toNatClampNeg ((P_rows vP) (Int32.toNatClampNeg x2))))) (((P_free vP) (Int32.toNatClampNeg ((N_stepPlaces vN) (Int32.toNatClampNeg ((P_rows vP) (Int32.toNatClampNeg x2)))))) + 1))) ++ WN E aN vN) := hD
    refine lv_aload_n hx hb dX2_finish_86 rfl (lv_at hl 3 rfl) ?_
    refine va_get (D := E.1) (ci := 1) (v := .ref (aN 3)) (C := RX1) (T := TX1) (N := 11) hx hb hts hinX1 hown hK.1 hP 9 rfl rfl 5 (by decide) hw5 (fun _ h9 => h9) rfl dX2_finish_87 ?_
    refine lv_iload hx hb dX2_finish_90 (lv_at hl 0 rfl) ?_
    obtain ⟨i12, h⟩ := q_ck h
    refine va_iald (f := (N_delays vN)) hx hb hK.1 hP 12 0 rfl rfl i12 dX2_finish_92 ?_
    refine lv_if_ne (tgt := 103) hx hb dX2_finish_93 (by decide) (fun c13 => ?_) (fun c13 => ?_)
    · have h := q_neg c13 h
      obtain rfl := q_inj h
      exact hRt 103 _ _ _ dX2_finish_103 hP hD hS
    · have h := q_pos c13 h
      refine lv_aload_n hx hb dX2_finish_96 rfl (lv_at hl 2 rfl) ?_
      refine lv_aload_n hx hb dX2_finish_97 rfl (lv_at hl 3 rfl) ?_
      refine lv_iload_n hx hb dX2_finish_98 rfl (lv_at hl 4 rfl) ?_
      refine lv_iload_n hx hb dX2_finish_99 rfl (lv_at hl 5 rfl) ?_
      obtain ⟨o14, e15, h⟩ := q_bind h
      refine q_cv (va_runV (As := [.ref (aN 0), .int x2, .int x3]) (rest := []) ⟨hx, hb, hml, hown, hts⟩ (wX2_arrive l E aP aN (P_free_s (P_dues_s (P_rows_s (P_states_s vP (upd (P_states vP) (Int32.toNatClampNeg x2) 0)) (upd (P_rows vP) (Int32.toNatClampNeg x2) (((P_rows vP) (Int32.toNatClampNeg x2)) + 1))) (upd (P_dues vP) (Int32.toNatClampNeg x2) (x3 + ((N_delays vN) (Int32.toNatClampNeg ((N_stepPlaces vN) (Int32.toNatClampNeg ((P_rows vP) (Int32.toNatClampNeg x2))))))))) (upd (P_free vP) (Int32.toNatClampNeg ((N_stepPlaces vN) (Int32.toNatClampNeg ((P_rows vP) (Int32.toNatClampNeg x2))))) (((P_free vP) (Int32.toNatClampNeg ((N_stepPlaces vN) (Int32.toNatClampNeg ((P_rows vP) (Int32.toNatClampNeg x2)))))) + 1))) vN x2 x3 o14 e15 _) (cwV 3 hts gX2_finish_X2_arrive rfl rfl rfl (by decide +kernel) ⟨Nat.le_of_ble_eq_true rfl, Nat.le_of_ble_eq_true rfl⟩) (q_preV hK hP hD q_idl 2 0 rfl rfl) rfl rfl hl.1 rfl (lv_room (Nat.le_of_ble_eq_true rfl)) dX2_finish_100 ⟨Nat.zero_le _, Nat.zero_le _⟩) hP hD hS hA q_idl q_idr (fun H locs hP hD hS => ?_)
      obtain rfl := q_inj h
      exact hRt 103 _ _ _ dX2_finish_103 hP hD hS
  · have h := q_pos c7 h
    refine lv_aload_n hx hb dX2_finish_38 rfl (lv_at hl 2 rfl) ?_
    refine va_get (D := E.1) (ci := 2) (v := .ref (aP 4)) (C := RX2) (T := TX2) (N := 8) hx hb hts hinX2 hown hK.1 hP 0 rfl rfl 3 (by decide) hw3 (fun _ h9 => h9) rfl dX2_finish_39 ?_
    refine lv_iload_n hx hb dX2_finish_42 rfl (lv_at hl 4 rfl) ?_
    refine lv_iconst (v := 3) hx hb dX2_finish_43 (by decide) ?_
    obtain ⟨i16, h⟩ := q_ck h
    refine va_iast (f := (P_states vP)) hx hb hK.1 hP hD hS 4 0 rfl rfl i16 dX2_finish_44 (fun H locs hP hD hS => ?_)
    have hP : va_P E.1 vwCl (WP E aP (P_free_s (P_states_s vP (upd (P_states vP) (Int32.toNatClampNeg x2) 3)) (upd (P_free vP) (Int32.toNatClampNeg ((N_stepPlaces vN) (Int32.toNatClampNeg ((P_rows vP) (Int32.toNatClampNeg x2))))) (((P_free vP) (Int32.toNatClampNeg ((N_stepPlaces vN) (Int32.toNatClampNeg ((P_rows vP) (Int32.toNatClampNeg x2)))))) + 1))) ++ WN E aN vN) H := hP
    have hD : va_D A (WP E aP (P_free_s (P_states_s vP (upd (P_states vP) (Int32.toNatClampNeg x2) 3)) (upd (P_free vP) (Int32.toNatClampNeg ((N_stepPlaces vN) (Int32.toNatClampNeg ((P_rows vP) (Int32.toNatClampNeg x2))))) (((P_free vP) (Int32.toNatClampNeg ((N_stepPlaces vN) (Int32.toNatClampNeg ((P_rows vP) (Int32.toNatClampNeg x2)))))) + 1))) ++ WN E aN vN) := hD
    refine lv_aload_n hx hb dX2_finish_45 rfl (lv_at hl 2 rfl) ?_
    refine va_get (D := E.1) (ci := 2) (v := .ref (aP 6)) (C := RX2) (T := TX2) (N := 8) hx hb hts hinX2 hown hK.1 hP 0 rfl rfl 5 (by decide) hw4 (fun _ h9 => h9) rfl dX2_finish_46 ?_
    refine lv_iload_n hx hb dX2_finish_49 rfl (lv_at hl 4 rfl) ?_
    refine lv_ldc (v := 1000000000) hx hb hown hw6 dX2_finish_50 ?_
    obtain ⟨i17, h⟩ := q_ck h
    refine va_iast (f := (P_dues vP)) hx hb hK.1 hP hD hS 6 0 rfl rfl i17 dX2_finish_52 (fun H locs hP hD hS => ?_)
    have hP : va_P E.1 vwCl (WP E aP (P_free_s (P_dues_s (P_states_s vP (upd (P_states vP) (Int32.toNatClampNeg x2) 3)) (upd (P_dues vP) (Int32.toNatClampNeg x2) 1000000000)) (upd (P_free vP) (Int32.toNatClampNeg ((N_stepPlaces vN) (Int32.toNatClampNeg ((P_rows vP) (Int32.toNatClampNeg x2))))) (((P_free vP) (Int32.toNatClampNeg ((N_stepPlaces vN) (Int32.toNatClampNeg ((P_rows vP) (Int32.toNatClampNeg x2)))))) + 1))) ++ WN E aN vN) H := hP
    have hD : va_D A (WP E aP (P_free_s (P_dues_s (P_states_s vP (upd (P_states vP) (Int32.toNatClampNeg x2) 3)) (upd (P_dues vP) (Int32.toNatClampNeg x2) 1000000000)) (upd (P_free vP) (Int32.toNatClampNeg ((N_stepPlaces vN) (Int32.toNatClampNeg ((P_rows vP) (Int32.toNatClampNeg x2))))) (((P_free vP) (Int32.toNatClampNeg ((N_stepPlaces vN) (Int32.toNatClampNeg ((P_rows vP) (Int32.toNatClampNeg x2)))))) + 1))) ++ WN E aN vN) := hD
    obtain rfl := q_inj h
    exact hRt 53 _ _ _ dX2_finish_53 hP hD hS
def lpX2_advance_2 (vN : SN) (x2 : Int32) : Nat → Int32 → SP → Option SP
  | 0, _, _ => none
  | k + 1, x3, vP => if (N_asks vN) ≤ x3 then (some vP) else (ck x3 60 (if ((P_dues vP) (Int32.toNatClampNeg x3)) = x2 then (ck x3 60 (if ((P_states vP) (Int32.toNatClampNeg x3)) = 2 then ((mX2_finish vP vN x3 x2).bind fun o26 => lpX2_advance_2 vN x2 k (x3 + 1) o26) else ((mX2_arrive vP vN x3 x2).bind fun o24 => lpX2_advance_2 vN x2 k (x3 + 1) o24))) else (lpX2_advance_2 vN x2 k (x3 + 1) vP)))
def mX2_advance (vP : SP) (vN : SN) (x2 : Int32) : Option SP := (lpX2_advance_2 vN x2 qFU 0 vP).bind fun o28 => some o28
def rmX2_advance : Room := { frames := 3, cells := 0, slots := 0, locals := 67 }
set_option maxHeartbeats 8000000 in
set_option maxRecDepth 100000 in
theorem wX2_advance (l : Launch) (E : qE) (aP : Nat → Nat) (aN : Nat → Nat) (vP : SP) (vN : SN) (x2 : Int32) (o : SP) (h : mX2_advance vP vN x2 = some o) : MV l E yX2_advance wsX2_advance rmX2_advance [.ref (aP 0), .ref (aN 0), .int x2] (WP E aP vP ++ WN E aN vN) (WP E aP o ++ WN E aN vN) := by
  refine q_startV (cc := cX2_advance) (maxL := 4) (by decide) rfl (Nat.le_of_ble_eq_true rfl) ?_
  intro pr e s m args below meth c A Q hx hb hml hown hts hK hRt hP hD hA hS ls hl
  have hl : lv_has ls 4 [(0, .ref (aP 0)), (1, .ref (aN 0)), (2, .int x2)] := hl
  have hinX1 : ∀ w ∈ wsX10, w ∈ wsX2_advance := by decide +kernel
  have hinX2 : ∀ w ∈ wsX20, w ∈ wsX2_advance := by decide +kernel
  have hw0 := hts (.fieldLink RX2 58 "QueueReader$Net" "asks" "I") (by decide +kernel)
  have hw1 := hts (.fieldLink RX2 27 "QueueReader$Play" "dues" "[I") (by decide +kernel)
  have hw2 := hts (.fieldLink RX2 21 "QueueReader$Play" "states" "[I") (by decide +kernel)
  have L2 : ∀ (vP : SP) (vN : SN) (x2 : Int32) (x3 : Int32) (k : Nat) (H : Heap) (locs : List Loc) (ls : Array Slot), va_P E.1 vwCl (WP E aP vP ++ WN E aN vN) H → va_D A (WP E aP vP ++ WN E aN vN) → va_S A s.heap H locs → lv_has ls 4 [(0, .ref (aP 0)), (1, .ref (aN 0)), (2, .int x2), (3, .int x3)] → ∀ o, lpX2_advance_2 vN x2 k x3 vP = some o → (∀ (H : Heap) (locs : List Loc) (ls : Array Slot), va_P E.1 vwCl (WP E aP o ++ WN E aN vN) H → va_D A (WP E aP o ++ WN E aN vN) → va_S A s.heap H locs → lv_has ls 4 [] → W pr l e rmX2_advance s m args below meth c H locs 0 0 Q (F0 m 53 ls [])) → W pr l e rmX2_advance s m args below meth c H locs 0 0 Q (F0 m 2 ls []) := by
    intro vP vN x2 x3 k
    induction k generalizing x3 vP with
    | zero => intro H locs ls hP hD hS hl o h; cases h
    | succ k ih =>
      intro H locs ls hP hD hS hl o h kk
      rw [lpX2_advance_2] at h
      refine lv_iload_n hx hb dX2_advance_2 rfl (lv_at hl 3 rfl) ?_
      refine lv_aload_n hx hb dX2_advance_3 rfl (lv_at hl 1 rfl) ?_
      refine va_get (D := E.1) (ci := 1) (v := .int (N_asks vN)) (C := RX1) (T := TX1) (N := 11) hx hb hts hinX1 hown hK.1 hP 9 rfl rfl 1 (by decide) hw0 (fun _ h9 => h9) rfl dX2_advance_4 ?_
      refine lv_icmp_ge (tgt := 53) hx hb dX2_advance_7 (by decide) (fun c19 => ?_) (fun c19 => ?_)
      · have h := q_pos c19 h
        obtain rfl := q_inj h
        exact kk _ _ _ hP hD hS (lv_sub hl [] rfl)
      · have h := q_neg c19 h
        refine lv_aload_n hx hb dX2_advance_10 rfl (lv_at hl 0 rfl) ?_
        refine va_get (D := E.1) (ci := 2) (v := .ref (aP 6)) (C := RX2) (T := TX2) (N := 8) hx hb hts hinX2 hown hK.1 hP 0 rfl rfl 5 (by decide) hw1 (fun _ h9 => h9) rfl dX2_advance_11 ?_
        refine lv_iload_n hx hb dX2_advance_14 rfl (lv_at hl 3 rfl) ?_
        obtain ⟨i20, h⟩ := q_ck h
        refine va_iald (f := (P_dues vP)) hx hb hK.1 hP 6 0 rfl rfl i20 dX2_advance_15 ?_
        refine lv_iload_n hx hb dX2_advance_16 rfl (lv_at hl 2 rfl) ?_
        refine lv_icmp_ne (tgt := 47) hx hb dX2_advance_17 (by decide) (fun c21 => ?_) (fun c21 => ?_)
        · have h := q_neg c21 h
          refine lv_iinc (v := (x3 + 1)) (lv' := [(3, .int (x3 + 1)), (0, .ref (aP 0)), (1, .ref (aN 0)), (2, .int x2)]) hx hb dX2_advance_47 hl (k := 3) rfl rfl (by decide) rfl (fun ls hl => ?_)
          refine lv_goto (tgt := 2) hx hb dX2_advance_50 (by decide) ?_
          exact ih vP (x3 + 1) _ _ _ hP hD hS (lv_sub hl [1, 2, 3, 0] rfl) _ h kk
        · have h := q_pos c21 h
          refine lv_aload_n hx hb dX2_advance_20 rfl (lv_at hl 0 rfl) ?_
          refine va_get (D := E.1) (ci := 2) (v := .ref (aP 4)) (C := RX2) (T := TX2) (N := 8) hx hb hts hinX2 hown hK.1 hP 0 rfl rfl 3 (by decide) hw2 (fun _ h9 => h9) rfl dX2_advance_21 ?_
          refine lv_iload_n hx hb dX2_advance_24 rfl (lv_at hl 3 rfl) ?_
          obtain ⟨i22, h⟩ := q_ck h
          refine va_iald (f := (P_states vP)) hx hb hK.1 hP 4 0 rfl rfl i22 dX2_advance_25 ?_
          refine lv_iconst (v := 2) hx hb dX2_advance_26 (by decide) ?_
          refine lv_icmp_ne (tgt := 40) hx hb dX2_advance_27 (by decide) (fun c23 => ?_) (fun c23 => ?_)
          · have h := q_neg c23 h
            refine lv_aload_n hx hb dX2_advance_40 rfl (lv_at hl 0 rfl) ?_
            refine lv_aload_n hx hb dX2_advance_41 rfl (lv_at hl 1 rfl) ?_
            refine lv_iload_n hx hb dX2_advance_42 rfl (lv_at hl 3 rfl) ?_
            refine lv_iload_n hx hb dX2_advance_43 rfl (lv_at hl 2 rfl) ?_
            obtain ⟨o24, e25, h⟩ := q_bind h
            refine q_cv (va_runV (As := [.ref (aN 0), .int x3, .int x2]) (rest := []) ⟨hx, hb, hml, hown, hts⟩ (wX2_arrive l E aP aN vP vN x3 x2 o24 e25 _) (cwV 3 hts gX2_advance_X2_arrive rfl rfl rfl (by decide +kernel) ⟨Nat.le_of_ble_eq_true rfl, Nat.le_of_ble_eq_true rfl⟩) (q_preV hK hP hD q_idl 2 0 rfl rfl) rfl rfl hl.1 rfl (lv_room (Nat.le_of_ble_eq_true rfl)) dX2_advance_44 ⟨Nat.zero_le _, Nat.zero_le _⟩) hP hD hS hA q_idl q_idr (fun H locs hP hD hS => ?_)
            refine lv_iinc (v := (x3 + 1)) (lv' := [(3, .int (x3 + 1)), (0, .ref (aP 0)), (1, .ref (aN 0)), (2, .int x2)]) hx hb dX2_advance_47 hl (k := 3) rfl rfl (by decide) rfl (fun ls hl => ?_)
            refine lv_goto (tgt := 2) hx hb dX2_advance_50 (by decide) ?_
            exact ih o24 (x3 + 1) _ _ _ hP hD hS (lv_sub hl [1, 2, 3, 0] rfl) _ h kk
          · have h := q_pos c23 h
            refine lv_aload_n hx hb dX2_advance_30 rfl (lv_at hl 0 rfl) ?_
            refine lv_aload_n hx hb dX2_advance_31 rfl (lv_at hl 1 rfl) ?_
            refine lv_iload_n hx hb dX2_advance_32 rfl (lv_at hl 3 rfl) ?_
            refine lv_iload_n hx hb dX2_advance_33 rfl (lv_at hl 2 rfl) ?_
            obtain ⟨o26, e27, h⟩ := q_bind h
            refine q_cv (va_runV (As := [.ref (aN 0), .int x3, .int x2]) (rest := []) ⟨hx, hb, hml, hown, hts⟩ (wX2_finish l E aP aN vP vN x3 x2 o26 e27 _) (cwV 3 hts gX2_advance_X2_finish rfl rfl rfl (by decide +kernel) ⟨Nat.le_of_ble_eq_true rfl, Nat.le_of_ble_eq_true rfl⟩) (q_preV hK hP hD q_idl 2 0 rfl rfl) rfl rfl hl.1 rfl (lv_room (Nat.le_of_ble_eq_true rfl)) dX2_advance_34 ⟨Nat.zero_le _, Nat.zero_le _⟩) hP hD hS hA q_idl q_idr (fun H locs hP hD hS => ?_)
            refine lv_goto (tgt := 47) hx hb dX2_advance_37 (by decide) ?_
            refine lv_iinc (v := (x3 + 1)) (lv' := [(3, .int (x3 + 1)), (0, .ref (aP 0)), (1, .ref (aN 0)), (2, .int x2)]) hx hb dX2_advance_47 hl (k := 3) rfl rfl (by decide) rfl (fun ls hl => ?_)
            refine lv_goto (tgt := 2) hx hb dX2_advance_50 (by decide) ?_
            exact ih o26 (x3 + 1) _ _ _ hP hD hS (lv_sub hl [1, 2, 3, 0] rfl) _ h kk
  unfold mX2_advance at h
  refine lv_iconst (v := 0) hx hb dX2_advance_0 (by decide) ?_
  refine lv_istore_n (lv' := [(3, .int 0), (0, .ref (aP 0)), (1, .ref (aN 0)), (2, .int x2)]) hx hb dX2_advance_1 rfl hl (by decide) rfl (fun ls hl => ?_)
  obtain ⟨o28, e29, h⟩ := q_bind h
  refine L2 vP vN x2 0 qFU _ _ _ hP hD hS (lv_sub hl [1, 2, 3, 0] rfl) o28 e29 (fun H locs ls hP hD hS hl => ?_)
  obtain rfl := q_inj h
  exact hRt 53 _ _ _ dX2_advance_53 hP hD hS
