def lpX5_overlap_67 (vM : SM) (x1 : Int32) (x3 : Int32) : Nat → Int32 → Int32 → Option Int32
  | 0, _, _ => none
  | k + 1, x4, x5 => if 300 ≤ x5 then (some x4) else ((mX5_isStep vM x5).bind fun o49 => Option.bind (if o49 = 0 then (some 0) else (ck x5 300 (if ((M_at vM) (Int32.toNatClampNeg x5)) = x1 then (ck x5 300 (if ((M_isSeen vM) (Int32.toNatClampNeg x5)) = 0 then (some 0) else (ck x5 300 (ck x3 300 (if ((M_seenBegun vM) (Int32.toNatClampNeg x3)) < ((M_seenBegun vM) (Int32.toNatClampNeg x5)) then (some 0) else (ck x5 300 (ck x3 300 (if ((M_seenDone vM) (Int32.toNatClampNeg x5)) ≤ ((M_seenBegun vM) (Int32.toNatClampNeg x3)) then (some 0) else (some 1))))))))) else (some 0)))) fun z52 => lpX5_overlap_67 vM x1 x3 k (x4 + z52) (x5 + 1))
def lpX5_overlap_24 (vM : SM) (x1 : Int32) : Nat → Int32 → Int32 → Option Int32
  | 0, _, _ => none
  | k + 1, x2, x3 => if 300 ≤ x3 then (some x2) else ((mX5_isStep vM x3).bind fun o80 => if o80 = 0 then (lpX5_overlap_24 vM x1 k x2 (x3 + 1)) else (ck x3 300 (if ((M_at vM) (Int32.toNatClampNeg x3)) = x1 then (ck x3 300 (if ((M_isSeen vM) (Int32.toNatClampNeg x3)) = 0 then (lpX5_overlap_24 vM x1 k x2 (x3 + 1)) else ((lpX5_overlap_67 vM x1 x3 qFU 0 0).bind fun o87 => lpX5_overlap_24 vM x1 k (if x2 < o87 then o87 else x2) (x3 + 1)))) else (lpX5_overlap_24 vM x1 k x2 (x3 + 1)))))
def mX5_overlap (vM : SM) (x1 : Int32) : Option (Int32 × SM) := (mX5_noPlace (M_thrown_s vM 0) x1).bind fun o1 => (mX5_throwsIf (M_thrown_s vM 0) o1 1).bind fun o3 => if o3.1 = 0 then ((lpX5_overlap_24 o3.2 x1 qFU 0 0).bind fun o90 => some (o90, o3.2)) else (some (0, o3.2))
def rmX5_overlap : Room := { frames := 2, cells := 0, slots := 0, locals := 43 }
set_option maxHeartbeats 8000000 in
set_option maxRecDepth 100000 in
theorem wX5_overlap (l : Launch) (E : qE) (aM : Nat → Nat) (vM : SM) (x1 : Int32) (o : Int32 × SM) (h : mX5_overlap vM x1 = some o) : MI l E yX5_overlap wsX5_overlap rmX5_overlap [.ref (aM 0), .int x1] (WM E aM vM) (WM E aM o.2) o.1 := by
  refine q_startI (cc := cX5_overlap) (maxL := 6) (by decide) rfl (Nat.le_of_ble_eq_true rfl) ?_
  intro pr e s m args below meth c A Q hx hb hml hown hts hK hRt hP hD hA hS ls hl
  have hl : lv_has ls 6 [(0, .ref (aM 0)), (1, .int x1)] := hl
  have hinX5 : ∀ w ∈ wsX50, w ∈ wsX5_overlap := by decide +kernel
  have hw0 := hts (.fieldLink RX5 59 "QueueReaderModel" "thrown" "I") (by decide +kernel)
  have hw1 := hts (.fieldLink RX5 28 "QueueReaderModel" "at" "[I") (by decide +kernel)
  have hw2 := hts (.fieldLink RX5 34 "QueueReaderModel" "isSeen" "[Z") (by decide +kernel)
  have hw3 := hts (.fieldLink RX5 38 "QueueReaderModel" "seenBegun" "[I") (by decide +kernel)
  have hw4 := hts (.fieldLink RX5 41 "QueueReaderModel" "seenDone" "[I") (by decide +kernel)
  have hw5 := hts (.methodLink RX5 112 Lib.Math.max.name) (by decide +kernel)
  have hw6 := hts (.static Lib.Math.max.name) (by decide +kernel)
  have hw7 := hts (.initialized "java/lang/Math") (by decide +kernel)
  have hw8 := hts (.code Lib.Math.max.name Lib.Math.max.code 2 (some .int)) (by decide +kernel)
  have L67 : ∀ (vM : SM) (x1 : Int32) (x2 : Int32) (x3 : Int32) (x4 : Int32) (x5 : Int32) (k : Nat) (H : Heap) (locs : List Loc) (ls : Array Slot), va_P E.1 vwCl (WM E aM vM) H → va_D A (WM E aM vM) → va_S A s.heap H locs → lv_has ls 6 [(0, .ref (aM 0)), (1, .int x1), (2, .int x2), (3, .int x3), (4, .int x4), (5, .int x5)] → ∀ o, lpX5_overlap_67 vM x1 x3 k x4 x5 = some o → (∀ (H : Heap) (locs : List Loc) (ls : Array Slot), va_P E.1 vwCl (WM E aM vM) H → va_D A (WM E aM vM) → va_S A s.heap H locs → lv_has ls 6 [(0, .ref (aM 0)), (1, .int x1), (2, .int x2), (3, .int x3), (4, .int o)] → W pr l e rmX5_overlap s m args below meth c H locs 0 0 Q (F0 m 153 ls [])) → W pr l e rmX5_overlap s m args below meth c H locs 0 0 Q (F0 m 67 ls []) := by
    intro vM x1 x2 x3 x4 x5 k
    induction k generalizing x4 x5 with
    | zero => intro H locs ls hP hD hS hl o h; cases h
    | succ k ih =>
      intro H locs ls hP hD hS hl o h kk
      rw [lpX5_overlap_67] at h
      refine lv_iload hx hb dX5_overlap_67 (lv_at hl 5 rfl) ?_
      refine lv_sipush (v := 300) hx hb dX5_overlap_69 (by decide) ?_
      refine lv_icmp_ge (tgt := 153) hx hb dX5_overlap_72 (by decide) (fun c48 => ?_) (fun c48 => ?_)
      · have h := q_pos c48 h
        obtain rfl := q_inj h
        exact kk _ _ _ hP hD hS (lv_sub hl [0, 1, 2, 3, 4] rfl)
      · have h := q_neg c48 h
        refine lv_iload hx hb dX5_overlap_75 (lv_at hl 4 rfl) ?_
        refine lv_aload_n hx hb dX5_overlap_77 rfl (lv_at hl 0 rfl) ?_
        refine lv_iload hx hb dX5_overlap_78 (lv_at hl 5 rfl) ?_
        obtain ⟨o49, e50, h⟩ := q_bind h
        refine q_ci (va_runV (As := [.int x5]) (rest := [.int x4]) ⟨hx, hb, hml, hown, hts⟩ (wX5_isStep l E aM vM x5 o49 e50 _) (cwV 1 hts gX5_overlap_X5_isStep rfl rfl rfl (by decide +kernel) ⟨Nat.le_of_ble_eq_true rfl, Nat.le_of_ble_eq_true rfl⟩) (q_preV hK hP hD q_idl 5 0 rfl rfl) rfl rfl hl.1 rfl (lv_room (Nat.le_of_ble_eq_true rfl)) dX5_overlap_80 ⟨Nat.zero_le _, Nat.zero_le _⟩) hP hD hS hA q_idl q_idr (fun H locs hP hD hS => ?_)
        obtain ⟨z52, e53, h⟩ := q_bind h
        have KJ51 : ∀ (H : Heap) (locs : List Loc), va_P E.1 vwCl (WM E aM vM) H → va_D A (WM E aM vM) → va_S A s.heap H locs → W pr l e rmX5_overlap s m args below meth c H locs 0 0 Q (F0 m 144 ls [.int z52, .int x4]) := by
          intro H locs hP hD hS
          refine lv_iadd hx hb dX5_overlap_144 ?_
          refine lv_istore (lv' := [(4, .int (x4 + z52)), (0, .ref (aM 0)), (1, .int x1), (2, .int x2), (3, .int x3), (5, .int x5)]) hx hb dX5_overlap_145 hl (by decide) rfl (fun ls hl => ?_)
          refine lv_iinc (v := (x5 + 1)) (lv' := [(5, .int (x5 + 1)), (4, .int (x4 + z52)), (0, .ref (aM 0)), (1, .int x1), (2, .int x2), (3, .int x3)]) hx hb dX5_overlap_147 hl (k := 5) rfl rfl (by decide) rfl (fun ls hl => ?_)
          refine lv_goto (tgt := 67) hx hb dX5_overlap_150 (by decide) ?_
          exact ih (x4 + z52) (x5 + 1) _ _ _ hP hD hS (lv_sub hl [2, 3, 4, 5, 1, 0] rfl) _ h kk
        have h := e53
        refine lv_if_eq (tgt := 143) hx hb dX5_overlap_83 (by decide) (fun c54 => ?_) (fun c54 => ?_)
        · have h := q_pos c54 h
          refine lv_iconst (v := 0) hx hb dX5_overlap_143 (by decide) ?_
          obtain rfl := q_inj h
          exact KJ51 _ _ hP hD hS
        · have h := q_neg c54 h
          refine lv_aload_n hx hb dX5_overlap_86 rfl (lv_at hl 0 rfl) ?_
          refine va_get (D := E.1) (ci := 5) (v := .ref (aM 7)) (C := RX5) (T := TX5) (N := 19) hx hb hts hinX5 hown hK.1 hP 0 rfl rfl 9 (by decide) hw1 (fun _ h9 => h9) rfl dX5_overlap_87 ?_
          refine lv_iload hx hb dX5_overlap_90 (lv_at hl 5 rfl) ?_
          obtain ⟨i55, h⟩ := q_ck h
          refine va_iald (f := (M_at vM)) hx hb hK.1 hP 7 0 rfl rfl i55 dX5_overlap_92 ?_
          refine lv_iload_n hx hb dX5_overlap_93 rfl (lv_at hl 1 rfl) ?_
          refine lv_icmp_ne (tgt := 143) hx hb dX5_overlap_94 (by decide) (fun c56 => ?_) (fun c56 => ?_)
          · have h := q_neg c56 h
            refine lv_iconst (v := 0) hx hb dX5_overlap_143 (by decide) ?_
            obtain rfl := q_inj h
            exact KJ51 _ _ hP hD hS
          · have h := q_pos c56 h
            refine lv_aload_n hx hb dX5_overlap_97 rfl (lv_at hl 0 rfl) ?_
            refine va_get (D := E.1) (ci := 5) (v := .ref (aM 9)) (C := RX5) (T := TX5) (N := 19) hx hb hts hinX5 hown hK.1 hP 0 rfl rfl 11 (by decide) hw2 (fun _ h9 => h9) rfl dX5_overlap_98 ?_
            refine lv_iload hx hb dX5_overlap_101 (lv_at hl 5 rfl) ?_
            obtain ⟨i57, h⟩ := q_ck h
            refine va_zald (f := (M_isSeen vM)) hx hb hK.1 hP 9 2 rfl rfl i57 dX5_overlap_103 ?_
            refine lv_if_eq (tgt := 143) hx hb dX5_overlap_104 (by decide) (fun c58 => ?_) (fun c58 => ?_)
            · have h := q_pos c58 h
              refine lv_iconst (v := 0) hx hb dX5_overlap_143 (by decide) ?_
              obtain rfl := q_inj h
              exact KJ51 _ _ hP hD hS
            · have h := q_neg c58 h
              refine lv_aload_n hx hb dX5_overlap_107 rfl (lv_at hl 0 rfl) ?_
              refine va_get (D := E.1) (ci := 5) (v := .ref (aM 10)) (C := RX5) (T := TX5) (N := 19) hx hb hts hinX5 hown hK.1 hP 0 rfl rfl 12 (by decide) hw3 (fun _ h9 => h9) rfl dX5_overlap_108 ?_
              refine lv_iload hx hb dX5_overlap_111 (lv_at hl 5 rfl) ?_
              obtain ⟨i59, h⟩ := q_ck h
              refine va_iald (f := (M_seenBegun vM)) hx hb hK.1 hP 10 0 rfl rfl i59 dX5_overlap_113 ?_
              refine lv_aload_n hx hb dX5_overlap_114 rfl (lv_at hl 0 rfl) ?_
              refine va_get (D := E.1) (ci := 5) (v := .ref (aM 10)) (C := RX5) (T := TX5) (N := 19) hx hb hts hinX5 hown hK.1 hP 0 rfl rfl 12 (by decide) hw3 (fun _ h9 => h9) rfl dX5_overlap_115 ?_
              refine lv_iload_n hx hb dX5_overlap_118 rfl (lv_at hl 3 rfl) ?_
              obtain ⟨i60, h⟩ := q_ck h
              refine va_iald (f := (M_seenBegun vM)) hx hb hK.1 hP 10 0 rfl rfl i60 dX5_overlap_119 ?_
              refine lv_icmp_gt (tgt := 143) hx hb dX5_overlap_120 (by decide) (fun c61 => ?_) (fun c61 => ?_)
              · have h := q_pos c61 h
                refine lv_iconst (v := 0) hx hb dX5_overlap_143 (by decide) ?_
                obtain rfl := q_inj h
                exact KJ51 _ _ hP hD hS
              · have h := q_neg c61 h
                refine lv_aload_n hx hb dX5_overlap_123 rfl (lv_at hl 0 rfl) ?_
                refine va_get (D := E.1) (ci := 5) (v := .ref (aM 11)) (C := RX5) (T := TX5) (N := 19) hx hb hts hinX5 hown hK.1 hP 0 rfl rfl 13 (by decide) hw4 (fun _ h9 => h9) rfl dX5_overlap_124 ?_
                refine lv_iload hx hb dX5_overlap_127 (lv_at hl 5 rfl) ?_
                obtain ⟨i62, h⟩ := q_ck h
                refine va_iald (f := (M_seenDone vM)) hx hb hK.1 hP 11 0 rfl rfl i62 dX5_overlap_129 ?_
                refine lv_aload_n hx hb dX5_overlap_130 rfl (lv_at hl 0 rfl) ?_
                refine va_get (D := E.1) (ci := 5) (v := .ref (aM 10)) (C := RX5) (T := TX5) (N := 19) hx hb hts hinX5 hown hK.1 hP 0 rfl rfl 12 (by decide) hw3 (fun _ h9 => h9) rfl dX5_overlap_131 ?_
                refine lv_iload_n hx hb dX5_overlap_134 rfl (lv_at hl 3 rfl) ?_
                obtain ⟨i63, h⟩ := q_ck h
                refine va_iald (f := (M_seenBegun vM)) hx hb hK.1 hP 10 0 rfl rfl i63 dX5_overlap_135 ?_
                refine lv_icmp_le (tgt := 143) hx hb dX5_overlap_136 (by decide) (fun c64 => ?_) (fun c64 => ?_)
                · have h := q_pos c64 h
                  refine lv_iconst (v := 0) hx hb dX5_overlap_143 (by decide) ?_
                  obtain rfl := q_inj h
                  exact KJ51 _ _ hP hD hS
                · have h := q_neg c64 h
                  refine lv_iconst (v := 1) hx hb dX5_overlap_139 (by decide) ?_
                  refine lv_goto (tgt := 144) hx hb dX5_overlap_140 (by decide) ?_
                  obtain rfl := q_inj h
                  exact KJ51 _ _ hP hD hS
  have L24 : ∀ (vM : SM) (x1 : Int32) (x2 : Int32) (x3 : Int32) (k : Nat) (H : Heap) (locs : List Loc) (ls : Array Slot), va_P E.1 vwCl (WM E aM vM) H → va_D A (WM E aM vM) → va_S A s.heap H locs → lv_has ls 6 [(0, .ref (aM 0)), (1, .int x1), (2, .int x2), (3, .int x3)] → ∀ o, lpX5_overlap_24 vM x1 k x2 x3 = some o → (∀ (H : Heap) (locs : List Loc) (ls : Array Slot), va_P E.1 vwCl (WM E aM vM) H → va_D A (WM E aM vM) → va_S A s.heap H locs → lv_has ls 6 [(2, .int o)] → W pr l e rmX5_overlap s m args below meth c H locs 0 0 Q (F0 m 166 ls [])) → W pr l e rmX5_overlap s m args below meth c H locs 0 0 Q (F0 m 24 ls []) := by
    intro vM x1 x2 x3 k
    induction k generalizing x2 x3 with
    | zero => intro H locs ls hP hD hS hl o h; cases h
    | succ k ih =>
      intro H locs ls hP hD hS hl o h kk
      rw [lpX5_overlap_24] at h
      refine lv_iload_n hx hb dX5_overlap_24 rfl (lv_at hl 3 rfl) ?_
      refine lv_sipush (v := 300) hx hb dX5_overlap_25 (by decide) ?_
      refine lv_icmp_ge (tgt := 166) hx hb dX5_overlap_28 (by decide) (fun c79 => ?_) (fun c79 => ?_)
      · have h := q_pos c79 h
        obtain rfl := q_inj h
        exact kk _ _ _ hP hD hS (lv_sub hl [2] rfl)
      · have h := q_neg c79 h
        refine lv_aload_n hx hb dX5_overlap_31 rfl (lv_at hl 0 rfl) ?_
        refine lv_iload_n hx hb dX5_overlap_32 rfl (lv_at hl 3 rfl) ?_
        obtain ⟨o80, e81, h⟩ := q_bind h
        refine q_ci (va_runV (As := [.int x3]) (rest := []) ⟨hx, hb, hml, hown, hts⟩ (wX5_isStep l E aM vM x3 o80 e81 _) (cwV 1 hts gX5_overlap_X5_isStep rfl rfl rfl (by decide +kernel) ⟨Nat.le_of_ble_eq_true rfl, Nat.le_of_ble_eq_true rfl⟩) (q_preV hK hP hD q_idl 5 0 rfl rfl) rfl rfl hl.1 rfl (lv_room (Nat.le_of_ble_eq_true rfl)) dX5_overlap_33 ⟨Nat.zero_le _, Nat.zero_le _⟩) hP hD hS hA q_idl q_idr (fun H locs hP hD hS => ?_)
        refine lv_if_eq (tgt := 160) hx hb dX5_overlap_36 (by decide) (fun c82 => ?_) (fun c82 => ?_)
        · have h := q_pos c82 h
          refine lv_iinc (v := (x3 + 1)) (lv' := [(3, .int (x3 + 1)), (0, .ref (aM 0)), (1, .int x1), (2, .int x2)]) hx hb dX5_overlap_160 hl (k := 3) rfl rfl (by decide) rfl (fun ls hl => ?_)
          refine lv_goto (tgt := 24) hx hb dX5_overlap_163 (by decide) ?_
          exact ih x2 (x3 + 1) _ _ _ hP hD hS (lv_sub hl [1, 2, 3, 0] rfl) _ h kk
        · have h := q_neg c82 h
          refine lv_aload_n hx hb dX5_overlap_39 rfl (lv_at hl 0 rfl) ?_
          refine va_get (D := E.1) (ci := 5) (v := .ref (aM 7)) (C := RX5) (T := TX5) (N := 19) hx hb hts hinX5 hown hK.1 hP 0 rfl rfl 9 (by decide) hw1 (fun _ h9 => h9) rfl dX5_overlap_40 ?_
          refine lv_iload_n hx hb dX5_overlap_43 rfl (lv_at hl 3 rfl) ?_
          obtain ⟨i83, h⟩ := q_ck h
          refine va_iald (f := (M_at vM)) hx hb hK.1 hP 7 0 rfl rfl i83 dX5_overlap_44 ?_
          refine lv_iload_n hx hb dX5_overlap_45 rfl (lv_at hl 1 rfl) ?_
          refine lv_icmp_ne (tgt := 160) hx hb dX5_overlap_46 (by decide) (fun c84 => ?_) (fun c84 => ?_)
          · have h := q_neg c84 h
            refine lv_iinc (v := (x3 + 1)) (lv' := [(3, .int (x3 + 1)), (0, .ref (aM 0)), (1, .int x1), (2, .int x2)]) hx hb dX5_overlap_160 hl (k := 3) rfl rfl (by decide) rfl (fun ls hl => ?_)
            refine lv_goto (tgt := 24) hx hb dX5_overlap_163 (by decide) ?_
            exact ih x2 (x3 + 1) _ _ _ hP hD hS (lv_sub hl [1, 2, 3, 0] rfl) _ h kk
          · have h := q_pos c84 h
            refine lv_aload_n hx hb dX5_overlap_49 rfl (lv_at hl 0 rfl) ?_
            refine va_get (D := E.1) (ci := 5) (v := .ref (aM 9)) (C := RX5) (T := TX5) (N := 19) hx hb hts hinX5 hown hK.1 hP 0 rfl rfl 11 (by decide) hw2 (fun _ h9 => h9) rfl dX5_overlap_50 ?_
            refine lv_iload_n hx hb dX5_overlap_53 rfl (lv_at hl 3 rfl) ?_
            obtain ⟨i85, h⟩ := q_ck h
            refine va_zald (f := (M_isSeen vM)) hx hb hK.1 hP 9 2 rfl rfl i85 dX5_overlap_54 ?_
            refine lv_if_ne (tgt := 61) hx hb dX5_overlap_55 (by decide) (fun c86 => ?_) (fun c86 => ?_)
            · have h := q_neg c86 h
              refine lv_iconst (v := 0) hx hb dX5_overlap_61 (by decide) ?_
              refine lv_istore (lv' := [(4, .int 0), (0, .ref (aM 0)), (1, .int x1), (2, .int x2), (3, .int x3)]) hx hb dX5_overlap_62 hl (by decide) rfl (fun ls hl => ?_)
              refine lv_iconst (v := 0) hx hb dX5_overlap_64 (by decide) ?_
              refine lv_istore (lv' := [(5, .int 0), (4, .int 0), (0, .ref (aM 0)), (1, .int x1), (2, .int x2), (3, .int x3)]) hx hb dX5_overlap_65 hl (by decide) rfl (fun ls hl => ?_)
              obtain ⟨o87, e88, h⟩ := q_bind h
              refine L67 vM x1 x2 x3 0 0 qFU _ _ _ hP hD hS (lv_sub hl [2, 3, 4, 5, 1, 0] rfl) o87 e88 (fun H locs ls hP hD hS hl => ?_)
              refine lv_iload_n hx hb dX5_overlap_153 rfl (lv_at hl 2 rfl) ?_
              refine lv_iload hx hb dX5_overlap_154 (lv_at hl 4 rfl) ?_
              refine va_mmax hx hb (hml.trans hl.1.symm) hown hw5 hw6 hw7 hw8 (Nat.le_of_ble_eq_true rfl) (Nat.le_of_ble_eq_true rfl) (Nat.zero_le _) (Nat.zero_le _) dX5_overlap_156 ?_
              refine lv_istore_n (lv' := [(2, .int (if x2 < o87 then o87 else x2)), (0, .ref (aM 0)), (1, .int x1), (3, .int x3), (4, .int o87)]) hx hb dX5_overlap_159 rfl hl (by decide) rfl (fun ls hl => ?_)
              refine lv_iinc (v := (x3 + 1)) (lv' := [(3, .int (x3 + 1)), (2, .int (if x2 < o87 then o87 else x2)), (0, .ref (aM 0)), (1, .int x1), (4, .int o87)]) hx hb dX5_overlap_160 hl (k := 3) rfl rfl (by decide) rfl (fun ls hl => ?_)
              refine lv_goto (tgt := 24) hx hb dX5_overlap_163 (by decide) ?_
              exact ih (if x2 < o87 then o87 else x2) (x3 + 1) _ _ _ hP hD hS (lv_sub hl [2, 3, 1, 0] rfl) _ h kk
            · have h := q_pos c86 h
              refine lv_goto (tgt := 160) hx hb dX5_overlap_58 (by decide) ?_
              refine lv_iinc (v := (x3 + 1)) (lv' := [(3, .int (x3 + 1)), (0, .ref (aM 0)), (1, .int x1), (2, .int x2)]) hx hb dX5_overlap_160 hl (k := 3) rfl rfl (by decide) rfl (fun ls hl => ?_)
              refine lv_goto (tgt := 24) hx hb dX5_overlap_163 (by decide) ?_
              exact ih x2 (x3 + 1) _ _ _ hP hD hS (lv_sub hl [1, 2, 3, 0] rfl) _ h kk
  unfold mX5_overlap at h
  refine lv_aload_n hx hb dX5_overlap_0 rfl (lv_at hl 0 rfl) ?_
  refine lv_iconst (v := 0) hx hb dX5_overlap_1 (by decide) ?_
  refine va_put (D := E.1) (ci := 5) (v := .int 0) (ty := .int) (C := RX5) (T := TX5) (N := 19) hx hb hts hinX5 tyX5 tyX5_ok nmX5 hown hK.1 hP hD hS 0 rfl rfl 0 (by decide) hw0 (fun _ h9 => h9) rfl (by decide +kernel) rfl rfl (Nat.le_of_ble_eq_true rfl) dX5_overlap_2 (fun H locs hP hD hS => ?_)
  have hP : va_P E.1 vwCl (WM E aM (M_thrown_s vM 0)) H := hP
  have hD : va_D A (WM E aM (M_thrown_s vM 0)) := hD
  refine lv_aload_n hx hb dX5_overlap_5 rfl (lv_at hl 0 rfl) ?_
  refine lv_aload_n hx hb dX5_overlap_6 rfl (lv_at hl 0 rfl) ?_
  refine lv_iload_n hx hb dX5_overlap_7 rfl (lv_at hl 1 rfl) ?_
  obtain ⟨o1, e2, h⟩ := q_bind h
  refine q_ci (va_runV (As := [.int x1]) (rest := [.ref (aM 0)]) ⟨hx, hb, hml, hown, hts⟩ (wX5_noPlace l E aM (M_thrown_s vM 0) x1 o1 e2 _) (cwV 1 hts gX5_overlap_X5_noPlace rfl rfl rfl (by decide +kernel) ⟨Nat.le_of_ble_eq_true rfl, Nat.le_of_ble_eq_true rfl⟩) (q_preV hK hP hD q_idl 5 0 rfl rfl) rfl rfl hl.1 rfl (lv_room (Nat.le_of_ble_eq_true rfl)) dX5_overlap_8 ⟨Nat.zero_le _, Nat.zero_le _⟩) hP hD hS hA q_idl q_idr (fun H locs hP hD hS => ?_)
  refine lv_iconst (v := 1) hx hb dX5_overlap_11 (by decide) ?_
  obtain ⟨o3, e4, h⟩ := q_bind h
  refine q_ci (va_runV (As := [.int o1, .int 1]) (rest := []) ⟨hx, hb, hml, hown, hts⟩ (wX5_throwsIf l E aM (M_thrown_s vM 0) o1 1 o3 e4 _) (cwV 2 hts gX5_overlap_X5_throwsIf rfl rfl rfl (by decide +kernel) ⟨Nat.le_of_ble_eq_true rfl, Nat.le_of_ble_eq_true rfl⟩) (q_preV hK hP hD q_idl 5 0 rfl rfl) rfl rfl hl.1 rfl (lv_room (Nat.le_of_ble_eq_true rfl)) dX5_overlap_12 ⟨Nat.zero_le _, Nat.zero_le _⟩) hP hD hS hA q_idl q_idr (fun H locs hP hD hS => ?_)
  refine lv_if_eq (tgt := 20) hx hb dX5_overlap_15 (by decide) (fun c5 => ?_) (fun c5 => ?_)
  · have h := q_pos c5 h
    refine lv_iconst (v := 0) hx hb dX5_overlap_20 (by decide) ?_
    refine lv_istore_n (lv' := [(2, .int 0), (0, .ref (aM 0)), (1, .int x1)]) hx hb dX5_overlap_21 rfl hl (by decide) rfl (fun ls hl => ?_)
    refine lv_iconst (v := 0) hx hb dX5_overlap_22 (by decide) ?_
    refine lv_istore_n (lv' := [(3, .int 0), (2, .int 0), (0, .ref (aM 0)), (1, .int x1)]) hx hb dX5_overlap_23 rfl hl (by decide) rfl (fun ls hl => ?_)
    obtain ⟨o90, e91, h⟩ := q_bind h
    refine L24 o3.2 x1 0 0 qFU _ _ _ hP hD hS (lv_sub hl [2, 3, 1, 0] rfl) o90 e91 (fun H locs ls hP hD hS hl => ?_)
    refine lv_iload_n hx hb dX5_overlap_166 rfl (lv_at hl 0 rfl) ?_
    obtain rfl := q_inj h
    exact hRt 167 _ _ _ dX5_overlap_167 hP hD hS
  · have h := q_neg c5 h
    refine lv_iconst (v := 0) hx hb dX5_overlap_18 (by decide) ?_
    obtain rfl := q_inj h
    exact hRt 19 _ _ _ dX5_overlap_19 hP hD hS
def mX5_common  (x0 : Int32) (x1 : Int32) (x2 : Int32) (x3 : Int32) : Option Int64 := some (if ((Int32.toInt64 (if x3 < x1 then x3 else x1)) - (Int32.toInt64 (if x0 < x2 then x2 else x0))) < 0 then 0 else ((Int32.toInt64 (if x3 < x1 then x3 else x1)) - (Int32.toInt64 (if x0 < x2 then x2 else x0))))
def rmX5_common : Room := { frames := 1, cells := 0, slots := 0, locals := 23 }
set_option maxHeartbeats 8000000 in
set_option maxRecDepth 100000 in
theorem wX5_common (l : Launch) (E : qE)   (x0 : Int32) (x1 : Int32) (x2 : Int32) (x3 : Int32) (o : Int64) (h : mX5_common x0 x1 x2 x3 = some o) : ML l E yX5_common wsX5_common rmX5_common [.int x0, .int x1, .int x2, .int x3] ([]) ([]) o := by
  refine q_startL (cc := cX5_common) (maxL := 4) (by decide) rfl (Nat.le_of_ble_eq_true rfl) ?_
  intro pr e s m args below meth c A Q hx hb hml hown hts hK hRt hP hD hA hS ls hl
  have hl : lv_has ls 4 [(0, .int x0), (1, .int x1), (2, .int x2), (3, .int x3)] := hl
  have hw0 := hts (.methodLink RX5 107 Lib.Math.min.name) (by decide +kernel)
  have hw1 := hts (.static Lib.Math.min.name) (by decide +kernel)
  have hw2 := hts (.initialized "java/lang/Math") (by decide +kernel)
  have hw3 := hts (.code Lib.Math.min.name Lib.Math.min.code 2 (some .int)) (by decide +kernel)
  have hw4 := hts (.methodLink RX5 112 Lib.Math.max.name) (by decide +kernel)
  have hw5 := hts (.static Lib.Math.max.name) (by decide +kernel)
  have hw6 := hts (.code Lib.Math.max.name Lib.Math.max.code 2 (some .int)) (by decide +kernel)
  have hw7 := hts (.methodLink RX5 139 Lib.MathLoose.max_long.x) (by decide +kernel)
  have hw8 := hts (.static Lib.MathLoose.max_long.x) (by decide +kernel)
  have hw9 := hts (.code Lib.MathLoose.max_long.x Lib.MathLoose.max_long.code 4 (some .long)) (by decide +kernel)
  unfold mX5_common at h
  refine lv_lconst (v := 0) hx hb dX5_common_0 (by decide) ?_
  refine lv_iload_n hx hb dX5_common_1 rfl (lv_at hl 1 rfl) ?_
  refine lv_iload_n hx hb dX5_common_2 rfl (lv_at hl 3 rfl) ?_
  refine va_mmin hx hb (hml.trans hl.1.symm) hown hw0 hw1 hw2 hw3 (Nat.le_of_ble_eq_true rfl) (Nat.le_of_ble_eq_true rfl) (Nat.zero_le _) (Nat.zero_le _) dX5_common_3 ?_
  refine lv_i2l hx hb dX5_common_6 rfl ?_
  refine lv_iload_n hx hb dX5_common_7 rfl (lv_at hl 0 rfl) ?_
  refine lv_iload_n hx hb dX5_common_8 rfl (lv_at hl 2 rfl) ?_
  refine va_mmax hx hb (hml.trans hl.1.symm) hown hw4 hw5 hw2 hw6 (Nat.le_of_ble_eq_true rfl) (Nat.le_of_ble_eq_true rfl) (Nat.zero_le _) (Nat.zero_le _) dX5_common_9 ?_
  refine lv_i2l hx hb dX5_common_12 rfl ?_
  refine lv_lsub hx hb dX5_common_13 ?_
  refine va_mmax_long hx hb (hml.trans hl.1.symm) hown hw7 hw8 hw2 hw9 (Nat.le_of_ble_eq_true rfl) (Nat.le_of_ble_eq_true rfl) (Nat.zero_le _) (Nat.zero_le _) dX5_common_14 ?_
  obtain rfl := q_inj h
  exact hRt 17 _ _ _ dX5_common_17 hP hD hS
def lpX5_counts_90 (vM : SM) (x1 : Int32) (x2 : Int32) (x3 : Int32) (x4 : Int32) (x5 : Int32) : Nat → Int64 → Int32 → Option Int64
  | 0, _, _ => none
  | k + 1, x6, x8 => if 300 ≤ x8 then (some x6) else ((mX5_isStep vM x8).bind fun o194 => if o194 = 0 then (lpX5_counts_90 vM x1 x2 x3 x4 x5 k x6 (x8 + 1)) else (ck x8 300 (if ((M_at vM) (Int32.toNatClampNeg x8)) = x1 then (if x2 = 0 then (Option.bind (if x2 = 0 then (ck x8 300 (some ((M_came vM) (Int32.toNatClampNeg x8)))) else ((mX5_seenCame vM x8).bind fun o235 => some o235)) fun z201 => Option.bind (if x2 = 0 then (ck x8 300 (some ((M_begun vM) (Int32.toNatClampNeg x8)))) else (ck x8 300 (some ((M_seenBegun vM) (Int32.toNatClampNeg x8))))) fun z204 => Option.bind (if x2 = 0 then (ck x8 300 (some ((M_done vM) (Int32.toNatClampNeg x8)))) else (ck x8 300 (some ((M_seenDone vM) (Int32.toNatClampNeg x8))))) fun z207 => if Int32.toInt x5 < 0 ∨ 2 < Int32.toInt x5 then ((mX5_common z204 z207 x3 x4).bind fun o210 => lpX5_counts_90 vM x1 x2 x3 x4 x5 k (x6 + o210) (x8 + 1)) else (if x5 = 0 then (Option.bind (if z201 < x3 then (some 0) else (if x4 ≤ z201 then (some 0) else (some 1))) fun z214 => lpX5_counts_90 vM x1 x2 x3 x4 x5 k (x6 + z214) (x8 + 1)) else (if x5 = 1 then (Option.bind (if z207 < x3 then (some 0) else (if x4 ≤ z207 then (some 0) else (some 1))) fun z220 => lpX5_counts_90 vM x1 x2 x3 x4 x5 k (x6 + z220) (x8 + 1)) else (if x5 = 2 then ((mX5_common z201 z207 x3 x4).bind fun o225 => lpX5_counts_90 vM x1 x2 x3 x4 x5 k (x6 + o225) (x8 + 1)) else (none))))) else (ck x8 300 (if ((M_isSeen vM) (Int32.toNatClampNeg x8)) = 0 then (lpX5_counts_90 vM x1 x2 x3 x4 x5 k x6 (x8 + 1)) else ((mX5_seenCame vM x8).bind fun o239 => if 0 ≤ o239 then (Option.bind (if x2 = 0 then (ck x8 300 (some ((M_came vM) (Int32.toNatClampNeg x8)))) else ((mX5_seenCame vM x8).bind fun o277 => some o277)) fun z243 => Option.bind (if x2 = 0 then (ck x8 300 (some ((M_begun vM) (Int32.toNatClampNeg x8)))) else (ck x8 300 (some ((M_seenBegun vM) (Int32.toNatClampNeg x8))))) fun z246 => Option.bind (if x2 = 0 then (ck x8 300 (some ((M_done vM) (Int32.toNatClampNeg x8)))) else (ck x8 300 (some ((M_seenDone vM) (Int32.toNatClampNeg x8))))) fun z249 => if Int32.toInt x5 < 0 ∨ 2 < Int32.toInt x5 then ((mX5_common z246 z249 x3 x4).bind fun o252 => lpX5_counts_90 vM x1 x2 x3 x4 x5 k (x6 + o252) (x8 + 1)) else (if x5 = 0 then (Option.bind (if z243 < x3 then (some 0) else (if x4 ≤ z243 then (some 0) else (some 1))) fun z256 => lpX5_counts_90 vM x1 x2 x3 x4 x5 k (x6 + z256) (x8 + 1)) else (if x5 = 1 then (Option.bind (if z249 < x3 then (some 0) else (if x4 ≤ z249 then (some 0) else (some 1))) fun z262 => lpX5_counts_90 vM x1 x2 x3 x4 x5 k (x6 + z262) (x8 + 1)) else (if x5 = 2 then ((mX5_common z243 z249 x3 x4).bind fun o267 => lpX5_counts_90 vM x1 x2 x3 x4 x5 k (x6 + o267) (x8 + 1)) else (none))))) else (lpX5_counts_90 vM x1 x2 x3 x4 x5 k x6 (x8 + 1)))))) else (lpX5_counts_90 vM x1 x2 x3 x4 x5 k x6 (x8 + 1)))))
def mX5_counts (vM : SM) (x1 : Int32) (x2 : Int32) (x3 : Int32) (x4 : Int32) (x5 : Int32) : Option (Int64 × SM) := (mX5_noPlace (M_thrown_s vM 0) x1).bind fun o1 => (mX5_throwsIf (M_thrown_s vM 0) o1 1).bind fun o3 => if o3.1 = 0 then (Option.bind (if x3 < 0 then (some 1) else (if x4 < x3 then (some 1) else (if x4 ≤ 10000000 then (some 0) else (some 1)))) fun z7 => (mX5_throwsIf o3.2 z7 2).bind fun o9 => if o9.1 = 0 then ((mX5_in x5 0 3).bind fun o12 => Option.bind (if o12 = 0 then (some 1) else (some 0)) fun z15 => (mX5_throwsIf o9.2 z15 3).bind fun o17 => if o17.1 = 0 then (if x2 = 0 then ((mX5_plays o17.2 (-1)).bind fun o282 => (lpX5_counts_90 o282.2 x1 x2 x3 x4 x5 qFU 0 0).bind fun o284 => some (o284, o282.2)) else ((lpX5_counts_90 o17.2 x1 x2 x3 x4 x5 qFU 0 0).bind fun o279 => some (o279, o17.2))) else (some (0, o17.2))) else (some (0, o9.2))) else (some (0, o3.2))
def rmX5_counts : Room := { frames := 4, cells := 0, slots := 0, locals := 97 }
set_option maxHeartbeats 8000000 in
set_option maxRecDepth 100000 in
theorem wX5_counts (l : Launch) (E : qE) (aM : Nat → Nat) (vM : SM) (x1 : Int32) (x2 : Int32) (x3 : Int32) (x4 : Int32) (x5 : Int32) (o : Int64 × SM) (h : mX5_counts vM x1 x2 x3 x4 x5 = some o) : ML l E yX5_counts wsX5_counts rmX5_counts [.ref (aM 0), .int x1, .int x2, .int x3, .int x4, .int x5] (WM E aM vM) (WM E aM o.2) o.1 := by
  refine q_startL (cc := cX5_counts) (maxL := 12) (by decide) rfl (Nat.le_of_ble_eq_true rfl) ?_
  intro pr e s m args below meth c A Q hx hb hml hown hts hK hRt hP hD hA hS ls hl
  have hl : lv_has ls 12 [(0, .ref (aM 0)), (1, .int x1), (2, .int x2), (3, .int x3), (4, .int x4), (5, .int x5)] := hl
  have hinX5 : ∀ w ∈ wsX50, w ∈ wsX5_counts := by decide +kernel
  have hw0 := hts (.fieldLink RX5 59 "QueueReaderModel" "thrown" "I") (by decide +kernel)
  have hw1 := hts (.fieldLink RX5 28 "QueueReaderModel" "at" "[I") (by decide +kernel)
  have hw2 := hts (.fieldLink RX5 50 "QueueReaderModel" "done" "[I") (by decide +kernel)
  have hw3 := hts (.fieldLink RX5 41 "QueueReaderModel" "seenDone" "[I") (by decide +kernel)
  have hw4 := hts (.fieldLink RX5 47 "QueueReaderModel" "begun" "[I") (by decide +kernel)
  have hw5 := hts (.fieldLink RX5 38 "QueueReaderModel" "seenBegun" "[I") (by decide +kernel)
  have hw6 := hts (.fieldLink RX5 44 "QueueReaderModel" "came" "[I") (by decide +kernel)
  have hw7 := hts (.fieldLink RX5 34 "QueueReaderModel" "isSeen" "[Z") (by decide +kernel)
  have hw8 := hts (.constant RX5 92 (10000000)) (by decide +kernel)
  have L90 : ∀ (vM : SM) (x1 : Int32) (x2 : Int32) (x3 : Int32) (x4 : Int32) (x5 : Int32) (x6 : Int64) (x8 : Int32) (k : Nat) (H : Heap) (locs : List Loc) (ls : Array Slot), va_P E.1 vwCl (WM E aM vM) H → va_D A (WM E aM vM) → va_S A s.heap H locs → lv_has ls 12 [(0, .ref (aM 0)), (1, .int x1), (2, .int x2), (3, .int x3), (4, .int x4), (5, .int x5), (6, .long x6), (8, .int x8)] → ∀ o, lpX5_counts_90 vM x1 x2 x3 x4 x5 k x6 x8 = some o → (∀ (H : Heap) (locs : List Loc) (ls : Array Slot), va_P E.1 vwCl (WM E aM vM) H → va_D A (WM E aM vM) → va_S A s.heap H locs → lv_has ls 12 [(6, .long o)] → W pr l e rmX5_counts s m args below meth c H locs 0 0 Q (F0 m 331 ls [])) → W pr l e rmX5_counts s m args below meth c H locs 0 0 Q (F0 m 90 ls []) := by
    intro vM x1 x2 x3 x4 x5 x6 x8 k
    induction k generalizing x6 x8 with
    | zero => intro H locs ls hP hD hS hl o h; cases h
    | succ k ih =>
      intro H locs ls hP hD hS hl o h kk
      rw [lpX5_counts_90] at h
      refine lv_iload hx hb dX5_counts_90 (lv_at hl 7 rfl) ?_
      refine lv_sipush (v := 300) hx hb dX5_counts_92 (by decide) ?_
      refine lv_icmp_ge (tgt := 331) hx hb dX5_counts_95 (by decide) (fun c193 => ?_) (fun c193 => ?_)
      · have h := q_pos c193 h
        obtain rfl := q_inj h
        exact kk _ _ _ hP hD hS (lv_sub hl [6] rfl)
      · have h := q_neg c193 h
        refine lv_aload_n hx hb dX5_counts_98 rfl (lv_at hl 0 rfl) ?_
        refine lv_iload hx hb dX5_counts_99 (lv_at hl 7 rfl) ?_
        obtain ⟨o194, e195, h⟩ := q_bind h
        refine q_ci (va_runV (As := [.int x8]) (rest := []) ⟨hx, hb, hml, hown, hts⟩ (wX5_isStep l E aM vM x8 o194 e195 _) (cwV 1 hts gX5_counts_X5_isStep rfl rfl rfl (by decide +kernel) ⟨Nat.le_of_ble_eq_true rfl, Nat.le_of_ble_eq_true rfl⟩) (q_preV hK hP hD q_idl 5 0 rfl rfl) rfl rfl hl.1 rfl (lv_room (Nat.le_of_ble_eq_true rfl)) dX5_counts_101 ⟨Nat.zero_le _, Nat.zero_le _⟩) hP hD hS hA q_idl q_idr (fun H locs hP hD hS => ?_)
        refine lv_if_eq (tgt := 325) hx hb dX5_counts_104 (by decide) (fun c196 => ?_) (fun c196 => ?_)
        · have h := q_pos c196 h
          refine lv_iinc (v := (x8 + 1)) (lv' := [(8, .int (x8 + 1)), (0, .ref (aM 0)), (1, .int x1), (2, .int x2), (3, .int x3), (4, .int x4), (5, .int x5), (6, .long x6)]) hx hb dX5_counts_325 hl (k := 7) rfl rfl (by decide) rfl (fun ls hl => ?_)
          refine lv_goto (tgt := 90) hx hb dX5_counts_328 (by decide) ?_
          exact ih x6 (x8 + 1) _ _ _ hP hD hS (lv_sub hl [1, 2, 3, 4, 5, 6, 7, 0] rfl) _ h kk
        · have h := q_neg c196 h
          refine lv_aload_n hx hb dX5_counts_107 rfl (lv_at hl 0 rfl) ?_
          refine va_get (D := E.1) (ci := 5) (v := .ref (aM 7)) (C := RX5) (T := TX5) (N := 19) hx hb hts hinX5 hown hK.1 hP 0 rfl rfl 9 (by decide) hw1 (fun _ h9 => h9) rfl dX5_counts_108 ?_
          refine lv_iload hx hb dX5_counts_111 (lv_at hl 7 rfl) ?_
          obtain ⟨i197, h⟩ := q_ck h
          refine va_iald (f := (M_at vM)) hx hb hK.1 hP 7 0 rfl rfl i197 dX5_counts_113 ?_
          refine lv_iload_n hx hb dX5_counts_114 rfl (lv_at hl 1 rfl) ?_
          refine lv_icmp_ne (tgt := 325) hx hb dX5_counts_115 (by decide) (fun c198 => ?_) (fun c198 => ?_)
          · have h := q_neg c198 h
            refine lv_iinc (v := (x8 + 1)) (lv' := [(8, .int (x8 + 1)), (0, .ref (aM 0)), (1, .int x1), (2, .int x2), (3, .int x3), (4, .int x4), (5, .int x5), (6, .long x6)]) hx hb dX5_counts_325 hl (k := 7) rfl rfl (by decide) rfl (fun ls hl => ?_)
            refine lv_goto (tgt := 90) hx hb dX5_counts_328 (by decide) ?_
            exact ih x6 (x8 + 1) _ _ _ hP hD hS (lv_sub hl [1, 2, 3, 4, 5, 6, 7, 0] rfl) _ h kk
          · have h := q_pos c198 h
            refine lv_iload_n hx hb dX5_counts_118 rfl (lv_at hl 2 rfl) ?_
            refine lv_if_eq (tgt := 144) hx hb dX5_counts_119 (by decide) (fun c199 => ?_) (fun c199 => ?_)
            · have h := q_pos c199 h
              refine lv_iload_n hx hb dX5_counts_144 rfl (lv_at hl 2 rfl) ?_
              obtain ⟨z201, e202, h⟩ := q_bind h
              have KJ200 : ∀ (H : Heap) (locs : List Loc), va_P E.1 vwCl (WM E aM vM) H → va_D A (WM E aM vM) → va_S A s.heap H locs → W pr l e rmX5_counts s m args below meth c H locs 0 0 Q (F0 m 164 ls [.int z201]) := by
                intro H locs hP hD hS
                refine lv_istore (lv' := [(9, .int z201), (0, .ref (aM 0)), (1, .int x1), (2, .int x2), (3, .int x3), (4, .int x4), (5, .int x5), (6, .long x6), (8, .int x8)]) hx hb dX5_counts_164 hl (by decide) rfl (fun ls hl => ?_)
                refine lv_iload_n hx hb dX5_counts_166 rfl (lv_at hl 3 rfl) ?_
                obtain ⟨z204, e205, h⟩ := q_bind h
                have KJ203 : ∀ (H : Heap) (locs : List Loc), va_P E.1 vwCl (WM E aM vM) H → va_D A (WM E aM vM) → va_S A s.heap H locs → W pr l e rmX5_counts s m args below meth c H locs 0 0 Q (F0 m 187 ls [.int z204]) := by
                  intro H locs hP hD hS
                  refine lv_istore (lv' := [(10, .int z204), (9, .int z201), (0, .ref (aM 0)), (1, .int x1), (2, .int x2), (3, .int x3), (4, .int x4), (5, .int x5), (6, .long x6), (8, .int x8)]) hx hb dX5_counts_187 hl (by decide) rfl (fun ls hl => ?_)
                  refine lv_iload_n hx hb dX5_counts_189 rfl (lv_at hl 4 rfl) ?_
                  obtain ⟨z207, e208, h⟩ := q_bind h
                  have KJ206 : ∀ (H : Heap) (locs : List Loc), va_P E.1 vwCl (WM E aM vM) H → va_D A (WM E aM vM) → va_S A s.heap H locs → W pr l e rmX5_counts s m args below meth c H locs 0 0 Q (F0 m 210 ls [.int z207]) := by
                    intro H locs hP hD hS
                    refine lv_istore (lv' := [(11, .int z207), (10, .int z204), (9, .int z201), (0, .ref (aM 0)), (1, .int x1), (2, .int x2), (3, .int x3), (4, .int x4), (5, .int x5), (6, .long x6), (8, .int x8)]) hx hb dX5_counts_210 hl (by decide) rfl (fun ls hl => ?_)
                    refine lv_iload hx hb dX5_counts_212 (lv_at hl 8 rfl) ?_
                    by_cases c209 : Int32.toInt x5 < 0 ∨ 2 < Int32.toInt x5
                    · have h := q_pos c209 h
                      refine lv_tableOut (tgt := 310) hx hb dX5_counts_214 c209 (by decide) ?_
                      refine lv_lload hx hb dX5_counts_310 (lv_at hl 9 rfl) ?_
                      refine lv_iload hx hb dX5_counts_312 (lv_at hl 1 rfl) ?_
                      refine lv_iload hx hb dX5_counts_314 (lv_at hl 0 rfl) ?_
                      refine lv_iload_n hx hb dX5_counts_316 rfl (lv_at hl 6 rfl) ?_
                      refine lv_iload hx hb dX5_counts_317 (lv_at hl 7 rfl) ?_
                      obtain ⟨o210, e211, h⟩ := q_bind h
                      refine q_cl (va_runS (As := [.int z204, .int z207, .int x3, .int x4]) (rest := [.long x6]) ⟨hx, hb, hml, hown, hts⟩ (wX5_common l E  z204 z207 x3 x4 o210 e211 _) (va_cwS 4 hts gX5_counts_X5_common rfl rfl rfl (by decide +kernel) ⟨Nat.le_of_ble_eq_true rfl, Nat.le_of_ble_eq_true rfl⟩) (q_preS hK hP hD q_nil) rfl rfl hl.1 rfl (lv_room (Nat.le_of_ble_eq_true rfl)) dX5_counts_319 ⟨Nat.zero_le _, Nat.zero_le _⟩) hP hD hS hA q_nil q_nil.symm (fun H locs hP hD hS => ?_)
                      refine lv_ladd hx hb dX5_counts_322 ?_
                      refine lv_lstore (lv' := [(6, .long (x6 + o210)), (11, .int z207), (10, .int z204), (9, .int z201), (0, .ref (aM 0)), (1, .int x1), (2, .int x2), (3, .int x3), (4, .int x4), (5, .int x5), (8, .int x8)]) hx hb dX5_counts_323 hl (by decide) rfl (fun ls hl => ?_)
                      refine lv_iinc (v := (x8 + 1)) (lv' := [(8, .int (x8 + 1)), (6, .long (x6 + o210)), (11, .int z207), (10, .int z204), (9, .int z201), (0, .ref (aM 0)), (1, .int x1), (2, .int x2), (3, .int x3), (4, .int x4), (5, .int x5)]) hx hb dX5_counts_325 hl (k := 10) rfl rfl (by decide) rfl (fun ls hl => ?_)
                      refine lv_goto (tgt := 90) hx hb dX5_counts_328 (by decide) ?_
                      exact ih (x6 + o210) (x8 + 1) _ _ _ hP hD hS (lv_sub hl [5, 6, 7, 8, 9, 10, 1, 0] rfl) _ h kk
                    · have h := q_neg c209 h
                      by_cases e212 : x5 = 0
                      · have h := q_pos e212 h
                        refine lv_tableIn (tgt := 240) (off := 26) hx hb dX5_counts_214 (fun z => c209 (Or.inl z)) (fun z => c209 (Or.inr z)) (by rw [e212]; rfl) (by decide) ?_
                        refine lv_lload hx hb dX5_counts_240 (lv_at hl 9 rfl) ?_
                        refine lv_iload hx hb dX5_counts_242 (lv_at hl 2 rfl) ?_
                        refine lv_iload_n hx hb dX5_counts_244 rfl (lv_at hl 6 rfl) ?_
                        obtain ⟨z214, e215, h⟩ := q_bind h
                        have KJ213 : ∀ (H : Heap) (locs : List Loc), va_P E.1 vwCl (WM E aM vM) H → va_D A (WM E aM vM) → va_S A s.heap H locs → W pr l e rmX5_counts s m args below meth c H locs 0 0 Q (F0 m 260 ls [.long z214, .long x6]) := by
                          intro H locs hP hD hS
                          refine lv_ladd hx hb dX5_counts_260 ?_
                          refine lv_lstore (lv' := [(6, .long (x6 + z214)), (11, .int z207), (10, .int z204), (9, .int z201), (0, .ref (aM 0)), (1, .int x1), (2, .int x2), (3, .int x3), (4, .int x4), (5, .int x5), (8, .int x8)]) hx hb dX5_counts_261 hl (by decide) rfl (fun ls hl => ?_)
                          refine lv_goto (tgt := 325) hx hb dX5_counts_263 (by decide) ?_
                          refine lv_iinc (v := (x8 + 1)) (lv' := [(8, .int (x8 + 1)), (6, .long (x6 + z214)), (11, .int z207), (10, .int z204), (9, .int z201), (0, .ref (aM 0)), (1, .int x1), (2, .int x2), (3, .int x3), (4, .int x4), (5, .int x5)]) hx hb dX5_counts_325 hl (k := 10) rfl rfl (by decide) rfl (fun ls hl => ?_)
                          refine lv_goto (tgt := 90) hx hb dX5_counts_328 (by decide) ?_
                          exact ih (x6 + z214) (x8 + 1) _ _ _ hP hD hS (lv_sub hl [5, 6, 7, 8, 9, 10, 1, 0] rfl) _ h kk
                        have h := e215
                        refine lv_icmp_lt (tgt := 259) hx hb dX5_counts_245 (by decide) (fun c216 => ?_) (fun c216 => ?_)
                        · have h := q_pos c216 h
                          refine lv_lconst (v := 0) hx hb dX5_counts_259 (by decide) ?_
                          obtain rfl := q_inj h
                          exact KJ213 _ _ hP hD hS
                        · have h := q_neg c216 h
                          refine lv_iload hx hb dX5_counts_248 (lv_at hl 2 rfl) ?_
                          refine lv_iload hx hb dX5_counts_250 (lv_at hl 7 rfl) ?_
                          refine lv_icmp_ge (tgt := 259) hx hb dX5_counts_252 (by decide) (fun c217 => ?_) (fun c217 => ?_)
                          · have h := q_pos c217 h
                            refine lv_lconst (v := 0) hx hb dX5_counts_259 (by decide) ?_
                            obtain rfl := q_inj h
                            exact KJ213 _ _ hP hD hS
                          · have h := q_neg c217 h
                            refine lv_lconst (v := 1) hx hb dX5_counts_255 (by decide) ?_
                            refine lv_goto (tgt := 260) hx hb dX5_counts_256 (by decide) ?_
                            obtain rfl := q_inj h
                            exact KJ213 _ _ hP hD hS
                      have h := q_neg e212 h
                      by_cases e218 : x5 = 1
                      · have h := q_pos e218 h
                        refine lv_tableIn (tgt := 266) (off := 52) hx hb dX5_counts_214 (fun z => c209 (Or.inl z)) (fun z => c209 (Or.inr z)) (by rw [e218]; rfl) (by decide) ?_
                        refine lv_lload hx hb dX5_counts_266 (lv_at hl 9 rfl) ?_
                        refine lv_iload hx hb dX5_counts_268 (lv_at hl 0 rfl) ?_
                        refine lv_iload_n hx hb dX5_counts_270 rfl (lv_at hl 6 rfl) ?_
                        obtain ⟨z220, e221, h⟩ := q_bind h
                        have KJ219 : ∀ (H : Heap) (locs : List Loc), va_P E.1 vwCl (WM E aM vM) H → va_D A (WM E aM vM) → va_S A s.heap H locs → W pr l e rmX5_counts s m args below meth c H locs 0 0 Q (F0 m 286 ls [.long z220, .long x6]) := by
                          intro H locs hP hD hS
                          refine lv_ladd hx hb dX5_counts_286 ?_
                          refine lv_lstore (lv' := [(6, .long (x6 + z220)), (11, .int z207), (10, .int z204), (9, .int z201), (0, .ref (aM 0)), (1, .int x1), (2, .int x2), (3, .int x3), (4, .int x4), (5, .int x5), (8, .int x8)]) hx hb dX5_counts_287 hl (by decide) rfl (fun ls hl => ?_)
                          refine lv_goto (tgt := 325) hx hb dX5_counts_289 (by decide) ?_
                          refine lv_iinc (v := (x8 + 1)) (lv' := [(8, .int (x8 + 1)), (6, .long (x6 + z220)), (11, .int z207), (10, .int z204), (9, .int z201), (0, .ref (aM 0)), (1, .int x1), (2, .int x2), (3, .int x3), (4, .int x4), (5, .int x5)]) hx hb dX5_counts_325 hl (k := 10) rfl rfl (by decide) rfl (fun ls hl => ?_)
                          refine lv_goto (tgt := 90) hx hb dX5_counts_328 (by decide) ?_
                          exact ih (x6 + z220) (x8 + 1) _ _ _ hP hD hS (lv_sub hl [5, 6, 7, 8, 9, 10, 1, 0] rfl) _ h kk
                        have h := e221
                        refine lv_icmp_lt (tgt := 285) hx hb dX5_counts_271 (by decide) (fun c222 => ?_) (fun c222 => ?_)
                        · have h := q_pos c222 h
                          refine lv_lconst (v := 0) hx hb dX5_counts_285 (by decide) ?_
                          obtain rfl := q_inj h
                          exact KJ219 _ _ hP hD hS
                        · have h := q_neg c222 h
                          refine lv_iload hx hb dX5_counts_274 (lv_at hl 0 rfl) ?_
                          refine lv_iload hx hb dX5_counts_276 (lv_at hl 7 rfl) ?_
                          refine lv_icmp_ge (tgt := 285) hx hb dX5_counts_278 (by decide) (fun c223 => ?_) (fun c223 => ?_)
                          · have h := q_pos c223 h
                            refine lv_lconst (v := 0) hx hb dX5_counts_285 (by decide) ?_
                            obtain rfl := q_inj h
                            exact KJ219 _ _ hP hD hS
                          · have h := q_neg c223 h
                            refine lv_lconst (v := 1) hx hb dX5_counts_281 (by decide) ?_
                            refine lv_goto (tgt := 286) hx hb dX5_counts_282 (by decide) ?_
                            obtain rfl := q_inj h
                            exact KJ219 _ _ hP hD hS
                      have h := q_neg e218 h
                      by_cases e224 : x5 = 2
                      · have h := q_pos e224 h
                        refine lv_tableIn (tgt := 292) (off := 78) hx hb dX5_counts_214 (fun z => c209 (Or.inl z)) (fun z => c209 (Or.inr z)) (by rw [e224]; rfl) (by decide) ?_
                        refine lv_lload hx hb dX5_counts_292 (lv_at hl 9 rfl) ?_
                        refine lv_iload hx hb dX5_counts_294 (lv_at hl 2 rfl) ?_
                        refine lv_iload hx hb dX5_counts_296 (lv_at hl 0 rfl) ?_
                        refine lv_iload_n hx hb dX5_counts_298 rfl (lv_at hl 6 rfl) ?_
                        refine lv_iload hx hb dX5_counts_299 (lv_at hl 7 rfl) ?_
                        obtain ⟨o225, e226, h⟩ := q_bind h
                        refine q_cl (va_runS (As := [.int z201, .int z207, .int x3, .int x4]) (rest := [.long x6]) ⟨hx, hb, hml, hown, hts⟩ (wX5_common l E  z201 z207 x3 x4 o225 e226 _) (va_cwS 4 hts gX5_counts_X5_common rfl rfl rfl (by decide +kernel) ⟨Nat.le_of_ble_eq_true rfl, Nat.le_of_ble_eq_true rfl⟩) (q_preS hK hP hD q_nil) rfl rfl hl.1 rfl (lv_room (Nat.le_of_ble_eq_true rfl)) dX5_counts_301 ⟨Nat.zero_le _, Nat.zero_le _⟩) hP hD hS hA q_nil q_nil.symm (fun H locs hP hD hS => ?_)
                        refine lv_ladd hx hb dX5_counts_304 ?_
                        refine lv_lstore (lv' := [(6, .long (x6 + o225)), (11, .int z207), (10, .int z204), (9, .int z201), (0, .ref (aM 0)), (1, .int x1), (2, .int x2), (3, .int x3), (4, .int x4), (5, .int x5), (8, .int x8)]) hx hb dX5_counts_305 hl (by decide) rfl (fun ls hl => ?_)
                        refine lv_goto (tgt := 325) hx hb dX5_counts_307 (by decide) ?_
                        refine lv_iinc (v := (x8 + 1)) (lv' := [(8, .int (x8 + 1)), (6, .long (x6 + o225)), (11, .int z207), (10, .int z204), (9, .int z201), (0, .ref (aM 0)), (1, .int x1), (2, .int x2), (3, .int x3), (4, .int x4), (5, .int x5)]) hx hb dX5_counts_325 hl (k := 10) rfl rfl (by decide) rfl (fun ls hl => ?_)
                        refine lv_goto (tgt := 90) hx hb dX5_counts_328 (by decide) ?_
                        exact ih (x6 + o225) (x8 + 1) _ _ _ hP hD hS (lv_sub hl [5, 6, 7, 8, 9, 10, 1, 0] rfl) _ h kk
                      have h := q_neg e224 h
                      cases h
                  have h := e208
                  refine lv_if_eq (tgt := 203) hx hb dX5_counts_190 (by decide) (fun c227 => ?_) (fun c227 => ?_)
                  · have h := q_pos c227 h
                    refine lv_aload_n hx hb dX5_counts_203 rfl (lv_at hl 2 rfl) ?_
                    refine va_get (D := E.1) (ci := 5) (v := .ref (aM 14)) (C := RX5) (T := TX5) (N := 19) hx hb hts hinX5 hown hK.1 hP 0 rfl rfl 16 (by decide) hw2 (fun _ h9 => h9) rfl dX5_counts_204 ?_
                    refine lv_iload hx hb dX5_counts_207 (lv_at hl 9 rfl) ?_
                    obtain ⟨i228, h⟩ := q_ck h
                    refine va_iald (f := (M_done vM)) hx hb hK.1 hP 14 0 rfl rfl i228 dX5_counts_209 ?_
                    obtain rfl := q_inj h
                    exact KJ206 _ _ hP hD hS
                  · have h := q_neg c227 h
                    refine lv_aload_n hx hb dX5_counts_193 rfl (lv_at hl 2 rfl) ?_
                    refine va_get (D := E.1) (ci := 5) (v := .ref (aM 11)) (C := RX5) (T := TX5) (N := 19) hx hb hts hinX5 hown hK.1 hP 0 rfl rfl 13 (by decide) hw3 (fun _ h9 => h9) rfl dX5_counts_194 ?_
                    refine lv_iload hx hb dX5_counts_197 (lv_at hl 9 rfl) ?_
                    obtain ⟨i229, h⟩ := q_ck h
                    refine va_iald (f := (M_seenDone vM)) hx hb hK.1 hP 11 0 rfl rfl i229 dX5_counts_199 ?_
                    refine lv_goto (tgt := 210) hx hb dX5_counts_200 (by decide) ?_
                    obtain rfl := q_inj h
                    exact KJ206 _ _ hP hD hS
                have h := e205
                refine lv_if_eq (tgt := 180) hx hb dX5_counts_167 (by decide) (fun c230 => ?_) (fun c230 => ?_)
                · have h := q_pos c230 h
                  refine lv_aload_n hx hb dX5_counts_180 rfl (lv_at hl 1 rfl) ?_
                  refine va_get (D := E.1) (ci := 5) (v := .ref (aM 13)) (C := RX5) (T := TX5) (N := 19) hx hb hts hinX5 hown hK.1 hP 0 rfl rfl 15 (by decide) hw4 (fun _ h9 => h9) rfl dX5_counts_181 ?_
                  refine lv_iload hx hb dX5_counts_184 (lv_at hl 8 rfl) ?_
                  obtain ⟨i231, h⟩ := q_ck h
                  refine va_iald (f := (M_begun vM)) hx hb hK.1 hP 13 0 rfl rfl i231 dX5_counts_186 ?_
                  obtain rfl := q_inj h
                  exact KJ203 _ _ hP hD hS
                · have h := q_neg c230 h
                  refine lv_aload_n hx hb dX5_counts_170 rfl (lv_at hl 1 rfl) ?_
                  refine va_get (D := E.1) (ci := 5) (v := .ref (aM 10)) (C := RX5) (T := TX5) (N := 19) hx hb hts hinX5 hown hK.1 hP 0 rfl rfl 12 (by decide) hw5 (fun _ h9 => h9) rfl dX5_counts_171 ?_
                  refine lv_iload hx hb dX5_counts_174 (lv_at hl 8 rfl) ?_
                  obtain ⟨i232, h⟩ := q_ck h
                  refine va_iald (f := (M_seenBegun vM)) hx hb hK.1 hP 10 0 rfl rfl i232 dX5_counts_176 ?_
                  refine lv_goto (tgt := 187) hx hb dX5_counts_177 (by decide) ?_
                  obtain rfl := q_inj h
                  exact KJ203 _ _ hP hD hS
              have h := e202
              refine lv_if_eq (tgt := 157) hx hb dX5_counts_145 (by decide) (fun c233 => ?_) (fun c233 => ?_)
              · have h := q_pos c233 h
                refine lv_aload_n hx hb dX5_counts_157 rfl (lv_at hl 0 rfl) ?_
                refine va_get (D := E.1) (ci := 5) (v := .ref (aM 12)) (C := RX5) (T := TX5) (N := 19) hx hb hts hinX5 hown hK.1 hP 0 rfl rfl 14 (by decide) hw6 (fun _ h9 => h9) rfl dX5_counts_158 ?_
                refine lv_iload hx hb dX5_counts_161 (lv_at hl 7 rfl) ?_
                obtain ⟨i234, h⟩ := q_ck h
                refine va_iald (f := (M_came vM)) hx hb hK.1 hP 12 0 rfl rfl i234 dX5_counts_163 ?_
                obtain rfl := q_inj h
                exact KJ200 _ _ hP hD hS
              · have h := q_neg c233 h
                refine lv_aload_n hx hb dX5_counts_148 rfl (lv_at hl 0 rfl) ?_
                refine lv_iload hx hb dX5_counts_149 (lv_at hl 7 rfl) ?_
                obtain ⟨o235, e236, h⟩ := q_bind h
                refine q_ci (va_runV (As := [.int x8]) (rest := []) ⟨hx, hb, hml, hown, hts⟩ (wX5_seenCame l E aM vM x8 o235 e236 _) (cwV 1 hts gX5_counts_X5_seenCame rfl rfl rfl (by decide +kernel) ⟨Nat.le_of_ble_eq_true rfl, Nat.le_of_ble_eq_true rfl⟩) (q_preV hK hP hD q_idl 5 0 rfl rfl) rfl rfl hl.1 rfl (lv_room (Nat.le_of_ble_eq_true rfl)) dX5_counts_151 ⟨Nat.zero_le _, Nat.zero_le _⟩) hP hD hS hA q_idl q_idr (fun H locs hP hD hS => ?_)
                refine lv_goto (tgt := 164) hx hb dX5_counts_154 (by decide) ?_
                obtain rfl := q_inj h
                exact KJ200 _ _ hP hD hS
            · have h := q_neg c199 h
              refine lv_aload_n hx hb dX5_counts_122 rfl (lv_at hl 0 rfl) ?_
              refine va_get (D := E.1) (ci := 5) (v := .ref (aM 9)) (C := RX5) (T := TX5) (N := 19) hx hb hts hinX5 hown hK.1 hP 0 rfl rfl 11 (by decide) hw7 (fun _ h9 => h9) rfl dX5_counts_123 ?_
              refine lv_iload hx hb dX5_counts_126 (lv_at hl 7 rfl) ?_
              obtain ⟨i237, h⟩ := q_ck h
              refine va_zald (f := (M_isSeen vM)) hx hb hK.1 hP 9 2 rfl rfl i237 dX5_counts_128 ?_
              refine lv_if_eq (tgt := 325) hx hb dX5_counts_129 (by decide) (fun c238 => ?_) (fun c238 => ?_)
              · have h := q_pos c238 h
                refine lv_iinc (v := (x8 + 1)) (lv' := [(8, .int (x8 + 1)), (0, .ref (aM 0)), (1, .int x1), (2, .int x2), (3, .int x3), (4, .int x4), (5, .int x5), (6, .long x6)]) hx hb dX5_counts_325 hl (k := 7) rfl rfl (by decide) rfl (fun ls hl => ?_)
                refine lv_goto (tgt := 90) hx hb dX5_counts_328 (by decide) ?_
                exact ih x6 (x8 + 1) _ _ _ hP hD hS (lv_sub hl [1, 2, 3, 4, 5, 6, 7, 0] rfl) _ h kk
              · have h := q_neg c238 h
                refine lv_aload_n hx hb dX5_counts_132 rfl (lv_at hl 0 rfl) ?_
                refine lv_iload hx hb dX5_counts_133 (lv_at hl 7 rfl) ?_
                obtain ⟨o239, e240, h⟩ := q_bind h
                refine q_ci (va_runV (As := [.int x8]) (rest := []) ⟨hx, hb, hml, hown, hts⟩ (wX5_seenCame l E aM vM x8 o239 e240 _) (cwV 1 hts gX5_counts_X5_seenCame rfl rfl rfl (by decide +kernel) ⟨Nat.le_of_ble_eq_true rfl, Nat.le_of_ble_eq_true rfl⟩) (q_preV hK hP hD q_idl 5 0 rfl rfl) rfl rfl hl.1 rfl (lv_room (Nat.le_of_ble_eq_true rfl)) dX5_counts_135 ⟨Nat.zero_le _, Nat.zero_le _⟩) hP hD hS hA q_idl q_idr (fun H locs hP hD hS => ?_)
                refine lv_if_ge (tgt := 144) hx hb dX5_counts_138 (by decide) (fun c241 => ?_) (fun c241 => ?_)
                · have h := q_pos c241 h
                  refine lv_iload_n hx hb dX5_counts_144 rfl (lv_at hl 2 rfl) ?_
                  obtain ⟨z243, e244, h⟩ := q_bind h
                  have KJ242 : ∀ (H : Heap) (locs : List Loc), va_P E.1 vwCl (WM E aM vM) H → va_D A (WM E aM vM) → va_S A s.heap H locs → W pr l e rmX5_counts s m args below meth c H locs 0 0 Q (F0 m 164 ls [.int z243]) := by
                    intro H locs hP hD hS
                    refine lv_istore (lv' := [(9, .int z243), (0, .ref (aM 0)), (1, .int x1), (2, .int x2), (3, .int x3), (4, .int x4), (5, .int x5), (6, .long x6), (8, .int x8)]) hx hb dX5_counts_164 hl (by decide) rfl (fun ls hl => ?_)
                    refine lv_iload_n hx hb dX5_counts_166 rfl (lv_at hl 3 rfl) ?_
                    obtain ⟨z246, e247, h⟩ := q_bind h
                    have KJ245 : ∀ (H : Heap) (locs : List Loc), va_P E.1 vwCl (WM E aM vM) H → va_D A (WM E aM vM) → va_S A s.heap H locs → W pr l e rmX5_counts s m args below meth c H locs 0 0 Q (F0 m 187 ls [.int z246]) := by
                      intro H locs hP hD hS
                      refine lv_istore (lv' := [(10, .int z246), (9, .int z243), (0, .ref (aM 0)), (1, .int x1), (2, .int x2), (3, .int x3), (4, .int x4), (5, .int x5), (6, .long x6), (8, .int x8)]) hx hb dX5_counts_187 hl (by decide) rfl (fun ls hl => ?_)
                      refine lv_iload_n hx hb dX5_counts_189 rfl (lv_at hl 4 rfl) ?_
                      obtain ⟨z249, e250, h⟩ := q_bind h
                      have KJ248 : ∀ (H : Heap) (locs : List Loc), va_P E.1 vwCl (WM E aM vM) H → va_D A (WM E aM vM) → va_S A s.heap H locs → W pr l e rmX5_counts s m args below meth c H locs 0 0 Q (F0 m 210 ls [.int z249]) := by
                        intro H locs hP hD hS
                        refine lv_istore (lv' := [(11, .int z249), (10, .int z246), (9, .int z243), (0, .ref (aM 0)), (1, .int x1), (2, .int x2), (3, .int x3), (4, .int x4), (5, .int x5), (6, .long x6), (8, .int x8)]) hx hb dX5_counts_210 hl (by decide) rfl (fun ls hl => ?_)
                        refine lv_iload hx hb dX5_counts_212 (lv_at hl 8 rfl) ?_
                        by_cases c251 : Int32.toInt x5 < 0 ∨ 2 < Int32.toInt x5
                        · have h := q_pos c251 h
                          refine lv_tableOut (tgt := 310) hx hb dX5_counts_214 c251 (by decide) ?_
                          refine lv_lload hx hb dX5_counts_310 (lv_at hl 9 rfl) ?_
                          refine lv_iload hx hb dX5_counts_312 (lv_at hl 1 rfl) ?_
                          refine lv_iload hx hb dX5_counts_314 (lv_at hl 0 rfl) ?_
                          refine lv_iload_n hx hb dX5_counts_316 rfl (lv_at hl 6 rfl) ?_
                          refine lv_iload hx hb dX5_counts_317 (lv_at hl 7 rfl) ?_
                          obtain ⟨o252, e253, h⟩ := q_bind h
                          refine q_cl (va_runS (As := [.int z246, .int z249, .int x3, .int x4]) (rest := [.long x6]) ⟨hx, hb, hml, hown, hts⟩ (wX5_common l E  z246 z249 x3 x4 o252 e253 _) (va_cwS 4 hts gX5_counts_X5_common rfl rfl rfl (by decide +kernel) ⟨Nat.le_of_ble_eq_true rfl, Nat.le_of_ble_eq_true rfl⟩) (q_preS hK hP hD q_nil) rfl rfl hl.1 rfl (lv_room (Nat.le_of_ble_eq_true rfl)) dX5_counts_319 ⟨Nat.zero_le _, Nat.zero_le _⟩) hP hD hS hA q_nil q_nil.symm (fun H locs hP hD hS => ?_)
                          refine lv_ladd hx hb dX5_counts_322 ?_
                          refine lv_lstore (lv' := [(6, .long (x6 + o252)), (11, .int z249), (10, .int z246), (9, .int z243), (0, .ref (aM 0)), (1, .int x1), (2, .int x2), (3, .int x3), (4, .int x4), (5, .int x5), (8, .int x8)]) hx hb dX5_counts_323 hl (by decide) rfl (fun ls hl => ?_)
                          refine lv_iinc (v := (x8 + 1)) (lv' := [(8, .int (x8 + 1)), (6, .long (x6 + o252)), (11, .int z249), (10, .int z246), (9, .int z243), (0, .ref (aM 0)), (1, .int x1), (2, .int x2), (3, .int x3), (4, .int x4), (5, .int x5)]) hx hb dX5_counts_325 hl (k := 10) rfl rfl (by decide) rfl (fun ls hl => ?_)
                          refine lv_goto (tgt := 90) hx hb dX5_counts_328 (by decide) ?_
                          exact ih (x6 + o252) (x8 + 1) _ _ _ hP hD hS (lv_sub hl [5, 6, 7, 8, 9, 10, 1, 0] rfl) _ h kk
                        · have h := q_neg c251 h
                          by_cases e254 : x5 = 0
                          · have h := q_pos e254 h
                            refine lv_tableIn (tgt := 240) (off := 26) hx hb dX5_counts_214 (fun z => c251 (Or.inl z)) (fun z => c251 (Or.inr z)) (by rw [e254]; rfl) (by decide) ?_
                            refine lv_lload hx hb dX5_counts_240 (lv_at hl 9 rfl) ?_
                            refine lv_iload hx hb dX5_counts_242 (lv_at hl 2 rfl) ?_
                            refine lv_iload_n hx hb dX5_counts_244 rfl (lv_at hl 6 rfl) ?_
                            obtain ⟨z256, e257, h⟩ := q_bind h
                            have KJ255 : ∀ (H : Heap) (locs : List Loc), va_P E.1 vwCl (WM E aM vM) H → va_D A (WM E aM vM) → va_S A s.heap H locs → W pr l e rmX5_counts s m args below meth c H locs 0 0 Q (F0 m 260 ls [.long z256, .long x6]) := by
                              intro H locs hP hD hS
                              refine lv_ladd hx hb dX5_counts_260 ?_
                              refine lv_lstore (lv' := [(6, .long (x6 + z256)), (11, .int z249), (10, .int z246), (9, .int z243), (0, .ref (aM 0)), (1, .int x1), (2, .int x2), (3, .int x3), (4, .int x4), (5, .int x5), (8, .int x8)]) hx hb dX5_counts_261 hl (by decide) rfl (fun ls hl => ?_)
                              refine lv_goto (tgt := 325) hx hb dX5_counts_263 (by decide) ?_
                              refine lv_iinc (v := (x8 + 1)) (lv' := [(8, .int (x8 + 1)), (6, .long (x6 + z256)), (11, .int z249), (10, .int z246), (9, .int z243), (0, .ref (aM 0)), (1, .int x1), (2, .int x2), (3, .int x3), (4, .int x4), (5, .int x5)]) hx hb dX5_counts_325 hl (k := 10) rfl rfl (by decide) rfl (fun ls hl => ?_)
                              refine lv_goto (tgt := 90) hx hb dX5_counts_328 (by decide) ?_
                              exact ih (x6 + z256) (x8 + 1) _ _ _ hP hD hS (lv_sub hl [5, 6, 7, 8, 9, 10, 1, 0] rfl) _ h kk
                            have h := e257
                            refine lv_icmp_lt (tgt := 259) hx hb dX5_counts_245 (by decide) (fun c258 => ?_) (fun c258 => ?_)
                            · have h := q_pos c258 h
                              refine lv_lconst (v := 0) hx hb dX5_counts_259 (by decide) ?_
                              obtain rfl := q_inj h
                              exact KJ255 _ _ hP hD hS
                            · have h := q_neg c258 h
                              refine lv_iload hx hb dX5_counts_248 (lv_at hl 2 rfl) ?_
                              refine lv_iload hx hb dX5_counts_250 (lv_at hl 7 rfl) ?_
                              refine lv_icmp_ge (tgt := 259) hx hb dX5_counts_252 (by decide) (fun c259 => ?_) (fun c259 => ?_)
                              · have h := q_pos c259 h
                                refine lv_lconst (v := 0) hx hb dX5_counts_259 (by decide) ?_
                                obtain rfl := q_inj h
                                exact KJ255 _ _ hP hD hS
                              · have h := q_neg c259 h
                                refine lv_lconst (v := 1) hx hb dX5_counts_255 (by decide) ?_
                                refine lv_goto (tgt := 260) hx hb dX5_counts_256 (by decide) ?_
                                obtain rfl := q_inj h
                                exact KJ255 _ _ hP hD hS
                          have h := q_neg e254 h
                          by_cases e260 : x5 = 1
                          · have h := q_pos e260 h
                            refine lv_tableIn (tgt := 266) (off := 52) hx hb dX5_counts_214 (fun z => c251 (Or.inl z)) (fun z => c251 (Or.inr z)) (by rw [e260]; rfl) (by decide) ?_
                            refine lv_lload hx hb dX5_counts_266 (lv_at hl 9 rfl) ?_
                            refine lv_iload hx hb dX5_counts_268 (lv_at hl 0 rfl) ?_
                            refine lv_iload_n hx hb dX5_counts_270 rfl (lv_at hl 6 rfl) ?_
                            obtain ⟨z262, e263, h⟩ := q_bind h
                            have KJ261 : ∀ (H : Heap) (locs : List Loc), va_P E.1 vwCl (WM E aM vM) H → va_D A (WM E aM vM) → va_S A s.heap H locs → W pr l e rmX5_counts s m args below meth c H locs 0 0 Q (F0 m 286 ls [.long z262, .long x6]) := by
                              intro H locs hP hD hS
                              refine lv_ladd hx hb dX5_counts_286 ?_
                              refine lv_lstore (lv' := [(6, .long (x6 + z262)), (11, .int z249), (10, .int z246), (9, .int z243), (0, .ref (aM 0)), (1, .int x1), (2, .int x2), (3, .int x3), (4, .int x4), (5, .int x5), (8, .int x8)]) hx hb dX5_counts_287 hl (by decide) rfl (fun ls hl => ?_)
                              refine lv_goto (tgt := 325) hx hb dX5_counts_289 (by decide) ?_
                              refine lv_iinc (v := (x8 + 1)) (lv' := [(8, .int (x8 + 1)), (6, .long (x6 + z262)), (11, .int z249), (10, .int z246), (9, .int z243), (0, .ref (aM 0)), (1, .int x1), (2, .int x2), (3, .int x3), (4, .int x4), (5, .int x5)]) hx hb dX5_counts_325 hl (k := 10) rfl rfl (by decide) rfl (fun ls hl => ?_)
                              refine lv_goto (tgt := 90) hx hb dX5_counts_328 (by decide) ?_
                              exact ih (x6 + z262) (x8 + 1) _ _ _ hP hD hS (lv_sub hl [5, 6, 7, 8, 9, 10, 1, 0] rfl) _ h kk
                            have h := e263
                            refine lv_icmp_lt (tgt := 285) hx hb dX5_counts_271 (by decide) (fun c264 => ?_) (fun c264 => ?_)
                            · have h := q_pos c264 h
                              refine lv_lconst (v := 0) hx hb dX5_counts_285 (by decide) ?_
                              obtain rfl := q_inj h
                              exact KJ261 _ _ hP hD hS
                            · have h := q_neg c264 h
                              refine lv_iload hx hb dX5_counts_274 (lv_at hl 0 rfl) ?_
                              refine lv_iload hx hb dX5_counts_276 (lv_at hl 7 rfl) ?_
                              refine lv_icmp_ge (tgt := 285) hx hb dX5_counts_278 (by decide) (fun c265 => ?_) (fun c265 => ?_)
                              · have h := q_pos c265 h
                                refine lv_lconst (v := 0) hx hb dX5_counts_285 (by decide) ?_
                                obtain rfl := q_inj h
                                exact KJ261 _ _ hP hD hS
                              · have h := q_neg c265 h
                                refine lv_lconst (v := 1) hx hb dX5_counts_281 (by decide) ?_
                                refine lv_goto (tgt := 286) hx hb dX5_counts_282 (by decide) ?_
                                obtain rfl := q_inj h
                                exact KJ261 _ _ hP hD hS
                          have h := q_neg e260 h
                          by_cases e266 : x5 = 2
                          · have h := q_pos e266 h
                            refine lv_tableIn (tgt := 292) (off := 78) hx hb dX5_counts_214 (fun z => c251 (Or.inl z)) (fun z => c251 (Or.inr z)) (by rw [e266]; rfl) (by decide) ?_
                            refine lv_lload hx hb dX5_counts_292 (lv_at hl 9 rfl) ?_
                            refine lv_iload hx hb dX5_counts_294 (lv_at hl 2 rfl) ?_
                            refine lv_iload hx hb dX5_counts_296 (lv_at hl 0 rfl) ?_
                            refine lv_iload_n hx hb dX5_counts_298 rfl (lv_at hl 6 rfl) ?_
                            refine lv_iload hx hb dX5_counts_299 (lv_at hl 7 rfl) ?_
                            obtain ⟨o267, e268, h⟩ := q_bind h
                            refine q_cl (va_runS (As := [.int z243, .int z249, .int x3, .int x4]) (rest := [.long x6]) ⟨hx, hb, hml, hown, hts⟩ (wX5_common l E  z243 z249 x3 x4 o267 e268 _) (va_cwS 4 hts gX5_counts_X5_common rfl rfl rfl (by decide +kernel) ⟨Nat.le_of_ble_eq_true rfl, Nat.le_of_ble_eq_true rfl⟩) (q_preS hK hP hD q_nil) rfl rfl hl.1 rfl (lv_room (Nat.le_of_ble_eq_true rfl)) dX5_counts_301 ⟨Nat.zero_le _, Nat.zero_le _⟩) hP hD hS hA q_nil q_nil.symm (fun H locs hP hD hS => ?_)
                            refine lv_ladd hx hb dX5_counts_304 ?_
                            refine lv_lstore (lv' := [(6, .long (x6 + o267)), (11, .int z249), (10, .int z246), (9, .int z243), (0, .ref (aM 0)), (1, .int x1), (2, .int x2), (3, .int x3), (4, .int x4), (5, .int x5), (8, .int x8)]) hx hb dX5_counts_305 hl (by decide) rfl (fun ls hl => ?_)
                            refine lv_goto (tgt := 325) hx hb dX5_counts_307 (by decide) ?_
                            refine lv_iinc (v := (x8 + 1)) (lv' := [(8, .int (x8 + 1)), (6, .long (x6 + o267)), (11, .int z249), (10, .int z246), (9, .int z243), (0, .ref (aM 0)), (1, .int x1), (2, .int x2), (3, .int x3), (4, .int x4), (5, .int x5)]) hx hb dX5_counts_325 hl (k := 10) rfl rfl (by decide) rfl (fun ls hl => ?_)
                            refine lv_goto (tgt := 90) hx hb dX5_counts_328 (by decide) ?_
                            exact ih (x6 + o267) (x8 + 1) _ _ _ hP hD hS (lv_sub hl [5, 6, 7, 8, 9, 10, 1, 0] rfl) _ h kk
                          have h := q_neg e266 h
                          cases h
                      have h := e250
                      refine lv_if_eq (tgt := 203) hx hb dX5_counts_190 (by decide) (fun c269 => ?_) (fun c269 => ?_)
                      · have h := q_pos c269 h
                        refine lv_aload_n hx hb dX5_counts_203 rfl (lv_at hl 2 rfl) ?_
                        refine va_get (D := E.1) (ci := 5) (v := .ref (aM 14)) (C := RX5) (T := TX5) (N := 19) hx hb hts hinX5 hown hK.1 hP 0 rfl rfl 16 (by decide) hw2 (fun _ h9 => h9) rfl dX5_counts_204 ?_
                        refine lv_iload hx hb dX5_counts_207 (lv_at hl 9 rfl) ?_
                        obtain ⟨i270, h⟩ := q_ck h
                        refine va_iald (f := (M_done vM)) hx hb hK.1 hP 14 0 rfl rfl i270 dX5_counts_209 ?_
                        obtain rfl := q_inj h
                        exact KJ248 _ _ hP hD hS
                      · have h := q_neg c269 h
                        refine lv_aload_n hx hb dX5_counts_193 rfl (lv_at hl 2 rfl) ?_
                        refine va_get (D := E.1) (ci := 5) (v := .ref (aM 11)) (C := RX5) (T := TX5) (N := 19) hx hb hts hinX5 hown hK.1 hP 0 rfl rfl 13 (by decide) hw3 (fun _ h9 => h9) rfl dX5_counts_194 ?_
                        refine lv_iload hx hb dX5_counts_197 (lv_at hl 9 rfl) ?_
                        obtain ⟨i271, h⟩ := q_ck h
                        refine va_iald (f := (M_seenDone vM)) hx hb hK.1 hP 11 0 rfl rfl i271 dX5_counts_199 ?_
                        refine lv_goto (tgt := 210) hx hb dX5_counts_200 (by decide) ?_
                        obtain rfl := q_inj h
                        exact KJ248 _ _ hP hD hS
                    have h := e247
                    refine lv_if_eq (tgt := 180) hx hb dX5_counts_167 (by decide) (fun c272 => ?_) (fun c272 => ?_)
                    · have h := q_pos c272 h
                      refine lv_aload_n hx hb dX5_counts_180 rfl (lv_at hl 1 rfl) ?_
                      refine va_get (D := E.1) (ci := 5) (v := .ref (aM 13)) (C := RX5) (T := TX5) (N := 19) hx hb hts hinX5 hown hK.1 hP 0 rfl rfl 15 (by decide) hw4 (fun _ h9 => h9) rfl dX5_counts_181 ?_
                      refine lv_iload hx hb dX5_counts_184 (lv_at hl 8 rfl) ?_
                      obtain ⟨i273, h⟩ := q_ck h
                      refine va_iald (f := (M_begun vM)) hx hb hK.1 hP 13 0 rfl rfl i273 dX5_counts_186 ?_
                      obtain rfl := q_inj h
                      exact KJ245 _ _ hP hD hS
                    · have h := q_neg c272 h
                      refine lv_aload_n hx hb dX5_counts_170 rfl (lv_at hl 1 rfl) ?_
                      refine va_get (D := E.1) (ci := 5) (v := .ref (aM 10)) (C := RX5) (T := TX5) (N := 19) hx hb hts hinX5 hown hK.1 hP 0 rfl rfl 12 (by decide) hw5 (fun _ h9 => h9) rfl dX5_counts_171 ?_
                      refine lv_iload hx hb dX5_counts_174 (lv_at hl 8 rfl) ?_
                      obtain ⟨i274, h⟩ := q_ck h
                      refine va_iald (f := (M_seenBegun vM)) hx hb hK.1 hP 10 0 rfl rfl i274 dX5_counts_176 ?_
                      refine lv_goto (tgt := 187) hx hb dX5_counts_177 (by decide) ?_
                      obtain rfl := q_inj h
                      exact KJ245 _ _ hP hD hS
                  have h := e244
                  refine lv_if_eq (tgt := 157) hx hb dX5_counts_145 (by decide) (fun c275 => ?_) (fun c275 => ?_)
                  · have h := q_pos c275 h
                    refine lv_aload_n hx hb dX5_counts_157 rfl (lv_at hl 0 rfl) ?_
                    refine va_get (D := E.1) (ci := 5) (v := .ref (aM 12)) (C := RX5) (T := TX5) (N := 19) hx hb hts hinX5 hown hK.1 hP 0 rfl rfl 14 (by decide) hw6 (fun _ h9 => h9) rfl dX5_counts_158 ?_
                    refine lv_iload hx hb dX5_counts_161 (lv_at hl 7 rfl) ?_
                    obtain ⟨i276, h⟩ := q_ck h
                    refine va_iald (f := (M_came vM)) hx hb hK.1 hP 12 0 rfl rfl i276 dX5_counts_163 ?_
                    obtain rfl := q_inj h
                    exact KJ242 _ _ hP hD hS
                  · have h := q_neg c275 h
                    refine lv_aload_n hx hb dX5_counts_148 rfl (lv_at hl 0 rfl) ?_
                    refine lv_iload hx hb dX5_counts_149 (lv_at hl 7 rfl) ?_
                    obtain ⟨o277, e278, h⟩ := q_bind h
                    refine q_ci (va_runV (As := [.int x8]) (rest := []) ⟨hx, hb, hml, hown, hts⟩ (wX5_seenCame l E aM vM x8 o277 e278 _) (cwV 1 hts gX5_counts_X5_seenCame rfl rfl rfl (by decide +kernel) ⟨Nat.le_of_ble_eq_true rfl, Nat.le_of_ble_eq_true rfl⟩) (q_preV hK hP hD q_idl 5 0 rfl rfl) rfl rfl hl.1 rfl (lv_room (Nat.le_of_ble_eq_true rfl)) dX5_counts_151 ⟨Nat.zero_le _, Nat.zero_le _⟩) hP hD hS hA q_idl q_idr (fun H locs hP hD hS => ?_)
                    refine lv_goto (tgt := 164) hx hb dX5_counts_154 (by decide) ?_
                    obtain rfl := q_inj h
                    exact KJ242 _ _ hP hD hS
                · have h := q_neg c241 h
                  refine lv_goto (tgt := 325) hx hb dX5_counts_141 (by decide) ?_
                  refine lv_iinc (v := (x8 + 1)) (lv' := [(8, .int (x8 + 1)), (0, .ref (aM 0)), (1, .int x1), (2, .int x2), (3, .int x3), (4, .int x4), (5, .int x5), (6, .long x6)]) hx hb dX5_counts_325 hl (k := 7) rfl rfl (by decide) rfl (fun ls hl => ?_)
                  refine lv_goto (tgt := 90) hx hb dX5_counts_328 (by decide) ?_
                  exact ih x6 (x8 + 1) _ _ _ hP hD hS (lv_sub hl [1, 2, 3, 4, 5, 6, 7, 0] rfl) _ h kk
  unfold mX5_counts at h
  refine lv_aload_n hx hb dX5_counts_0 rfl (lv_at hl 0 rfl) ?_
  refine lv_iconst (v := 0) hx hb dX5_counts_1 (by decide) ?_
  refine va_put (D := E.1) (ci := 5) (v := .int 0) (ty := .int) (C := RX5) (T := TX5) (N := 19) hx hb hts hinX5 tyX5 tyX5_ok nmX5 hown hK.1 hP hD hS 0 rfl rfl 0 (by decide) hw0 (fun _ h9 => h9) rfl (by decide +kernel) rfl rfl (Nat.le_of_ble_eq_true rfl) dX5_counts_2 (fun H locs hP hD hS => ?_)
  have hP : va_P E.1 vwCl (WM E aM (M_thrown_s vM 0)) H := hP
  have hD : va_D A (WM E aM (M_thrown_s vM 0)) := hD
  refine lv_aload_n hx hb dX5_counts_5 rfl (lv_at hl 0 rfl) ?_
  refine lv_aload_n hx hb dX5_counts_6 rfl (lv_at hl 0 rfl) ?_
  refine lv_iload_n hx hb dX5_counts_7 rfl (lv_at hl 1 rfl) ?_
  obtain ⟨o1, e2, h⟩ := q_bind h
  refine q_ci (va_runV (As := [.int x1]) (rest := [.ref (aM 0)]) ⟨hx, hb, hml, hown, hts⟩ (wX5_noPlace l E aM (M_thrown_s vM 0) x1 o1 e2 _) (cwV 1 hts gX5_counts_X5_noPlace rfl rfl rfl (by decide +kernel) ⟨Nat.le_of_ble_eq_true rfl, Nat.le_of_ble_eq_true rfl⟩) (q_preV hK hP hD q_idl 5 0 rfl rfl) rfl rfl hl.1 rfl (lv_room (Nat.le_of_ble_eq_true rfl)) dX5_counts_8 ⟨Nat.zero_le _, Nat.zero_le _⟩) hP hD hS hA q_idl q_idr (fun H locs hP hD hS => ?_)
  refine lv_iconst (v := 1) hx hb dX5_counts_11 (by decide) ?_
  obtain ⟨o3, e4, h⟩ := q_bind h
  refine q_ci (va_runV (As := [.int o1, .int 1]) (rest := []) ⟨hx, hb, hml, hown, hts⟩ (wX5_throwsIf l E aM (M_thrown_s vM 0) o1 1 o3 e4 _) (cwV 2 hts gX5_counts_X5_throwsIf rfl rfl rfl (by decide +kernel) ⟨Nat.le_of_ble_eq_true rfl, Nat.le_of_ble_eq_true rfl⟩) (q_preV hK hP hD q_idl 5 0 rfl rfl) rfl rfl hl.1 rfl (lv_room (Nat.le_of_ble_eq_true rfl)) dX5_counts_12 ⟨Nat.zero_le _, Nat.zero_le _⟩) hP hD hS hA q_idl q_idr (fun H locs hP hD hS => ?_)
  refine lv_if_ne (tgt := 71) hx hb dX5_counts_15 (by decide) (fun c5 => ?_) (fun c5 => ?_)
  · have h := q_neg c5 h
    refine lv_lconst (v := 0) hx hb dX5_counts_71 (by decide) ?_
    obtain rfl := q_inj h
    exact hRt 72 _ _ _ dX5_counts_72 hP hD hS
  · have h := q_pos c5 h
    refine lv_aload_n hx hb dX5_counts_18 rfl (lv_at hl 0 rfl) ?_
    refine lv_iload_n hx hb dX5_counts_19 rfl (lv_at hl 3 rfl) ?_
    obtain ⟨z7, e8, h⟩ := q_bind h
    have KJ6 : ∀ (H : Heap) (locs : List Loc), va_P E.1 vwCl (WM E aM o3.2) H → va_D A (WM E aM o3.2) → va_S A s.heap H locs → W pr l e rmX5_counts s m args below meth c H locs 0 0 Q (F0 m 41 ls [.int z7, .ref (aM 0)]) := by
      intro H locs hP hD hS
      refine lv_iconst (v := 2) hx hb dX5_counts_41 (by decide) ?_
      obtain ⟨o9, e10, h⟩ := q_bind h
      refine q_ci (va_runV (As := [.int z7, .int 2]) (rest := []) ⟨hx, hb, hml, hown, hts⟩ (wX5_throwsIf l E aM o3.2 z7 2 o9 e10 _) (cwV 2 hts gX5_counts_X5_throwsIf rfl rfl rfl (by decide +kernel) ⟨Nat.le_of_ble_eq_true rfl, Nat.le_of_ble_eq_true rfl⟩) (q_preV hK hP hD q_idl 5 0 rfl rfl) rfl rfl hl.1 rfl (lv_room (Nat.le_of_ble_eq_true rfl)) dX5_counts_42 ⟨Nat.zero_le _, Nat.zero_le _⟩) hP hD hS hA q_idl q_idr (fun H locs hP hD hS => ?_)
      refine lv_if_ne (tgt := 71) hx hb dX5_counts_45 (by decide) (fun c11 => ?_) (fun c11 => ?_)
      · have h := q_neg c11 h
        refine lv_lconst (v := 0) hx hb dX5_counts_71 (by decide) ?_
        obtain rfl := q_inj h
        exact hRt 72 _ _ _ dX5_counts_72 hP hD hS
      · have h := q_pos c11 h
        refine lv_aload_n hx hb dX5_counts_48 rfl (lv_at hl 0 rfl) ?_
        refine lv_iload hx hb dX5_counts_49 (lv_at hl 5 rfl) ?_
        refine lv_iconst (v := 0) hx hb dX5_counts_51 (by decide) ?_
        refine lv_iconst (v := 3) hx hb dX5_counts_52 (by decide) ?_
        obtain ⟨o12, e13, h⟩ := q_bind h
        refine q_ci (va_runS (As := [.int x5, .int 0, .int 3]) (rest := [.ref (aM 0)]) ⟨hx, hb, hml, hown, hts⟩ (wX5_in l E  x5 0 3 o12 e13 _) (va_cwS 3 hts gX5_counts_X5_in rfl rfl rfl (by decide +kernel) ⟨Nat.le_of_ble_eq_true rfl, Nat.le_of_ble_eq_true rfl⟩) (q_preS hK hP hD q_nil) rfl rfl hl.1 rfl (lv_room (Nat.le_of_ble_eq_true rfl)) dX5_counts_53 ⟨Nat.zero_le _, Nat.zero_le _⟩) hP hD hS hA q_nil q_nil.symm (fun H locs hP hD hS => ?_)
        obtain ⟨z15, e16, h⟩ := q_bind h
        have KJ14 : ∀ (H : Heap) (locs : List Loc), va_P E.1 vwCl (WM E aM o9.2) H → va_D A (WM E aM o9.2) → va_S A s.heap H locs → W pr l e rmX5_counts s m args below meth c H locs 0 0 Q (F0 m 64 ls [.int z15, .ref (aM 0)]) := by
          intro H locs hP hD hS
          refine lv_iconst (v := 3) hx hb dX5_counts_64 (by decide) ?_
          obtain ⟨o17, e18, h⟩ := q_bind h
          refine q_ci (va_runV (As := [.int z15, .int 3]) (rest := []) ⟨hx, hb, hml, hown, hts⟩ (wX5_throwsIf l E aM o9.2 z15 3 o17 e18 _) (cwV 2 hts gX5_counts_X5_throwsIf rfl rfl rfl (by decide +kernel) ⟨Nat.le_of_ble_eq_true rfl, Nat.le_of_ble_eq_true rfl⟩) (q_preV hK hP hD q_idl 5 0 rfl rfl) rfl rfl hl.1 rfl (lv_room (Nat.le_of_ble_eq_true rfl)) dX5_counts_65 ⟨Nat.zero_le _, Nat.zero_le _⟩) hP hD hS hA q_idl q_idr (fun H locs hP hD hS => ?_)
          refine lv_if_eq (tgt := 73) hx hb dX5_counts_68 (by decide) (fun c19 => ?_) (fun c19 => ?_)
          · have h := q_pos c19 h
            refine lv_iload_n hx hb dX5_counts_73 rfl (lv_at hl 2 rfl) ?_
            refine lv_if_ne (tgt := 84) hx hb dX5_counts_74 (by decide) (fun c20 => ?_) (fun c20 => ?_)
            · have h := q_neg c20 h
              refine lv_lconst (v := 0) hx hb dX5_counts_84 (by decide) ?_
              refine lv_lstore (lv' := [(6, .long 0), (0, .ref (aM 0)), (1, .int x1), (2, .int x2), (3, .int x3), (4, .int x4), (5, .int x5)]) hx hb dX5_counts_85 hl (by decide) rfl (fun ls hl => ?_)
              refine lv_iconst (v := 0) hx hb dX5_counts_87 (by decide) ?_
              refine lv_istore (lv' := [(8, .int 0), (6, .long 0), (0, .ref (aM 0)), (1, .int x1), (2, .int x2), (3, .int x3), (4, .int x4), (5, .int x5)]) hx hb dX5_counts_88 hl (by decide) rfl (fun ls hl => ?_)
              obtain ⟨o279, e280, h⟩ := q_bind h
              refine L90 o17.2 x1 x2 x3 x4 x5 0 0 qFU _ _ _ hP hD hS (lv_sub hl [2, 3, 4, 5, 6, 7, 1, 0] rfl) o279 e280 (fun H locs ls hP hD hS hl => ?_)
              refine lv_lload hx hb dX5_counts_331 (lv_at hl 0 rfl) ?_
              obtain rfl := q_inj h
              exact hRt 333 _ _ _ dX5_counts_333 hP hD hS
            · have h := q_pos c20 h
              refine lv_aload_n hx hb dX5_counts_77 rfl (lv_at hl 0 rfl) ?_
              refine lv_iconst (v := (-1)) hx hb dX5_counts_78 (by decide) ?_
              obtain ⟨o282, e283, h⟩ := q_bind h
              refine q_ci (va_runV (As := [.int (-1)]) (rest := []) ⟨hx, hb, hml, hown, hts⟩ (wX5_plays l E aM o17.2 (-1) o282 e283 _) (cwV 1 hts gX5_counts_X5_plays rfl rfl rfl (by decide +kernel) ⟨Nat.le_of_ble_eq_true rfl, Nat.le_of_ble_eq_true rfl⟩) (q_preV hK hP hD q_idl 5 0 rfl rfl) rfl rfl hl.1 rfl (lv_room (Nat.le_of_ble_eq_true rfl)) dX5_counts_79 ⟨Nat.zero_le _, Nat.zero_le _⟩) hP hD hS hA q_idl q_idr (fun H locs hP hD hS => ?_)
              refine lv_istore (lv' := [(6, .int o282.1), (0, .ref (aM 0)), (1, .int x1), (2, .int x2), (3, .int x3), (4, .int x4), (5, .int x5)]) hx hb dX5_counts_82 hl (by decide) rfl (fun ls hl => ?_)
              refine lv_lconst (v := 0) hx hb dX5_counts_84 (by decide) ?_
              refine lv_lstore (lv' := [(6, .long 0), (0, .ref (aM 0)), (1, .int x1), (2, .int x2), (3, .int x3), (4, .int x4), (5, .int x5)]) hx hb dX5_counts_85 hl (by decide) rfl (fun ls hl => ?_)
              refine lv_iconst (v := 0) hx hb dX5_counts_87 (by decide) ?_
              refine lv_istore (lv' := [(8, .int 0), (6, .long 0), (0, .ref (aM 0)), (1, .int x1), (2, .int x2), (3, .int x3), (4, .int x4), (5, .int x5)]) hx hb dX5_counts_88 hl (by decide) rfl (fun ls hl => ?_)
              obtain ⟨o284, e285, h⟩ := q_bind h
              refine L90 o282.2 x1 x2 x3 x4 x5 0 0 qFU _ _ _ hP hD hS (lv_sub hl [2, 3, 4, 5, 6, 7, 1, 0] rfl) o284 e285 (fun H locs ls hP hD hS hl => ?_)
              refine lv_lload hx hb dX5_counts_331 (lv_at hl 0 rfl) ?_
              obtain rfl := q_inj h
              exact hRt 333 _ _ _ dX5_counts_333 hP hD hS
          · have h := q_neg c19 h
            refine lv_lconst (v := 0) hx hb dX5_counts_71 (by decide) ?_
            obtain rfl := q_inj h
            exact hRt 72 _ _ _ dX5_counts_72 hP hD hS
        have h := e16
        refine lv_if_ne (tgt := 63) hx hb dX5_counts_56 (by decide) (fun c287 => ?_) (fun c287 => ?_)
        · have h := q_neg c287 h
          refine lv_iconst (v := 0) hx hb dX5_counts_63 (by decide) ?_
          obtain rfl := q_inj h
          exact KJ14 _ _ hP hD hS
        · have h := q_pos c287 h
          refine lv_iconst (v := 1) hx hb dX5_counts_59 (by decide) ?_
          refine lv_goto (tgt := 64) hx hb dX5_counts_60 (by decide) ?_
          obtain rfl := q_inj h
          exact KJ14 _ _ hP hD hS
    have h := e8
    refine lv_if_lt (tgt := 36) hx hb dX5_counts_20 (by decide) (fun c288 => ?_) (fun c288 => ?_)
    · have h := q_pos c288 h
      refine lv_iconst (v := 1) hx hb dX5_counts_36 (by decide) ?_
      refine lv_goto (tgt := 41) hx hb dX5_counts_37 (by decide) ?_
      obtain rfl := q_inj h
      exact KJ6 _ _ hP hD hS
    · have h := q_neg c288 h
      refine lv_iload hx hb dX5_counts_23 (lv_at hl 4 rfl) ?_
      refine lv_iload_n hx hb dX5_counts_25 rfl (lv_at hl 3 rfl) ?_
      refine lv_icmp_lt (tgt := 36) hx hb dX5_counts_26 (by decide) (fun c289 => ?_) (fun c289 => ?_)
      · have h := q_pos c289 h
        refine lv_iconst (v := 1) hx hb dX5_counts_36 (by decide) ?_
        refine lv_goto (tgt := 41) hx hb dX5_counts_37 (by decide) ?_
        obtain rfl := q_inj h
        exact KJ6 _ _ hP hD hS
      · have h := q_neg c289 h
        refine lv_iload hx hb dX5_counts_29 (lv_at hl 4 rfl) ?_
        refine lv_ldc (v := 10000000) hx hb hown hw8 dX5_counts_31 ?_
        refine lv_icmp_le (tgt := 40) hx hb dX5_counts_33 (by decide) (fun c290 => ?_) (fun c290 => ?_)
        · have h := q_pos c290 h
          refine lv_iconst (v := 0) hx hb dX5_counts_40 (by decide) ?_
          obtain rfl := q_inj h
          exact KJ6 _ _ hP hD hS
        · have h := q_neg c290 h
          refine lv_iconst (v := 1) hx hb dX5_counts_36 (by decide) ?_
          refine lv_goto (tgt := 41) hx hb dX5_counts_37 (by decide) ?_
          obtain rfl := q_inj h
          exact KJ6 _ _ hP hD hS
def lpX5_totalWith_11 (vM : SM) : Nat → Int64 → Int32 → Option Int64
  | 0, _, _ => none
  | k + 1, x3, x5 => if (M_asks vM) ≤ x5 then (some x3) else (ck x5 60 (ck (((5 * x5) + ((M_steps vM) (Int32.toNatClampNeg x5))) - 1) 300 (ck x5 60 (lpX5_totalWith_11 vM k (x3 + (Int32.toInt64 (((M_done vM) (Int32.toNatClampNeg (((5 * x5) + ((M_steps vM) (Int32.toNatClampNeg x5))) - 1))) - ((M_start vM) (Int32.toNatClampNeg x5))))) (x5 + 1)))))
def mX5_totalWith (vM : SM) (x1 : Int32) : Option (Int64 × SM) := (mX5_plays vM x1).bind fun o1 => (lpX5_totalWith_11 o1.2 qFU 0 0).bind fun o15 => some (o15, o1.2)
def rmX5_totalWith : Room := { frames := 4, cells := 0, slots := 0, locals := 97 }
set_option maxHeartbeats 8000000 in
set_option maxRecDepth 100000 in
theorem wX5_totalWith (l : Launch) (E : qE) (aM : Nat → Nat) (vM : SM) (x1 : Int32) (o : Int64 × SM) (h : mX5_totalWith vM x1 = some o) : ML l E yX5_totalWith wsX5_totalWith rmX5_totalWith [.ref (aM 0), .int x1] (WM E aM vM) (WM E aM o.2) o.1 := by
  refine q_startL (cc := cX5_totalWith) (maxL := 6) (by decide) rfl (Nat.le_of_ble_eq_true rfl) ?_
  intro pr e s m args below meth c A Q hx hb hml hown hts hK hRt hP hD hA hS ls hl
  have hl : lv_has ls 6 [(0, .ref (aM 0)), (1, .int x1)] := hl
  have hinX5 : ∀ w ∈ wsX50, w ∈ wsX5_totalWith := by decide +kernel
  have hw0 := hts (.fieldLink RX5 70 "QueueReaderModel" "asks" "I") (by decide +kernel)
  have hw1 := hts (.fieldLink RX5 50 "QueueReaderModel" "done" "[I") (by decide +kernel)
  have hw2 := hts (.fieldLink RX5 25 "QueueReaderModel" "steps" "[I") (by decide +kernel)
  have hw3 := hts (.fieldLink RX5 22 "QueueReaderModel" "start" "[I") (by decide +kernel)
  have L11 : ∀ (vM : SM) (x3 : Int64) (x5 : Int32) (k : Nat) (H : Heap) (locs : List Loc) (ls : Array Slot), va_P E.1 vwCl (WM E aM vM) H → va_D A (WM E aM vM) → va_S A s.heap H locs → lv_has ls 6 [(0, .ref (aM 0)), (3, .long x3), (5, .int x5)] → ∀ o, lpX5_totalWith_11 vM k x3 x5 = some o → (∀ (H : Heap) (locs : List Loc) (ls : Array Slot), va_P E.1 vwCl (WM E aM vM) H → va_D A (WM E aM vM) → va_S A s.heap H locs → lv_has ls 6 [(3, .long o)] → W pr l e rmX5_totalWith s m args below meth c H locs 0 0 Q (F0 m 57 ls [])) → W pr l e rmX5_totalWith s m args below meth c H locs 0 0 Q (F0 m 11 ls []) := by
    intro vM x3 x5 k
    induction k generalizing x3 x5 with
    | zero => intro H locs ls hP hD hS hl o h; cases h
    | succ k ih =>
      intro H locs ls hP hD hS hl o h kk
      rw [lpX5_totalWith_11] at h
      refine lv_iload hx hb dX5_totalWith_11 (lv_at hl 2 rfl) ?_
      refine lv_aload_n hx hb dX5_totalWith_13 rfl (lv_at hl 0 rfl) ?_
      refine va_get (D := E.1) (ci := 5) (v := .int (M_asks vM)) (C := RX5) (T := TX5) (N := 19) hx hb hts hinX5 hown hK.1 hP 0 rfl rfl 8 (by decide) hw0 (fun _ h9 => h9) rfl dX5_totalWith_14 ?_
      refine lv_icmp_ge (tgt := 57) hx hb dX5_totalWith_17 (by decide) (fun c11 => ?_) (fun c11 => ?_)
      · have h := q_pos c11 h
        obtain rfl := q_inj h
        exact kk _ _ _ hP hD hS (lv_sub hl [1] rfl)
      · have h := q_neg c11 h
        refine lv_lload_n hx hb dX5_totalWith_20 rfl (lv_at hl 1 rfl) ?_
        refine lv_aload_n hx hb dX5_totalWith_21 rfl (lv_at hl 0 rfl) ?_
        refine va_get (D := E.1) (ci := 5) (v := .ref (aM 14)) (C := RX5) (T := TX5) (N := 19) hx hb hts hinX5 hown hK.1 hP 0 rfl rfl 16 (by decide) hw1 (fun _ h9 => h9) rfl dX5_totalWith_22 ?_
        refine lv_iconst (v := 5) hx hb dX5_totalWith_25 (by decide) ?_
        refine lv_iload hx hb dX5_totalWith_26 (lv_at hl 2 rfl) ?_
        refine lv_imul hx hb dX5_totalWith_28 ?_
        refine lv_aload_n hx hb dX5_totalWith_29 rfl (lv_at hl 0 rfl) ?_
        refine va_get (D := E.1) (ci := 5) (v := .ref (aM 6)) (C := RX5) (T := TX5) (N := 19) hx hb hts hinX5 hown hK.1 hP 0 rfl rfl 7 (by decide) hw2 (fun _ h9 => h9) rfl dX5_totalWith_30 ?_
        refine lv_iload hx hb dX5_totalWith_33 (lv_at hl 2 rfl) ?_
        obtain ⟨i12, h⟩ := q_ck h
        refine va_iald (f := (M_steps vM)) hx hb hK.1 hP 6 0 rfl rfl i12 dX5_totalWith_35 ?_
        refine lv_iadd hx hb dX5_totalWith_36 ?_
        refine lv_iconst (v := 1) hx hb dX5_totalWith_37 (by decide) ?_
        refine lv_isub hx hb dX5_totalWith_38 ?_
        obtain ⟨i13, h⟩ := q_ck h
        refine va_iald (f := (M_done vM)) hx hb hK.1 hP 14 0 rfl rfl i13 dX5_totalWith_39 ?_
        refine lv_aload_n hx hb dX5_totalWith_40 rfl (lv_at hl 0 rfl) ?_
        refine va_get (D := E.1) (ci := 5) (v := .ref (aM 5)) (C := RX5) (T := TX5) (N := 19) hx hb hts hinX5 hown hK.1 hP 0 rfl rfl 6 (by decide) hw3 (fun _ h9 => h9) rfl dX5_totalWith_41 ?_
        refine lv_iload hx hb dX5_totalWith_44 (lv_at hl 2 rfl) ?_
        obtain ⟨i14, h⟩ := q_ck h
        refine va_iald (f := (M_start vM)) hx hb hK.1 hP 5 0 rfl rfl i14 dX5_totalWith_46 ?_
        refine lv_isub hx hb dX5_totalWith_47 ?_
        refine lv_i2l hx hb dX5_totalWith_48 rfl ?_
        refine lv_ladd hx hb dX5_totalWith_49 ?_
        refine lv_lstore_n (lv' := [(3, .long (x3 + (Int32.toInt64 (((M_done vM) (Int32.toNatClampNeg (((5 * x5) + ((M_steps vM) (Int32.toNatClampNeg x5))) - 1))) - ((M_start vM) (Int32.toNatClampNeg x5)))))), (0, .ref (aM 0)), (5, .int x5)]) hx hb dX5_totalWith_50 rfl hl (by decide) rfl (fun ls hl => ?_)
        refine lv_iinc (v := (x5 + 1)) (lv' := [(5, .int (x5 + 1)), (3, .long (x3 + (Int32.toInt64 (((M_done vM) (Int32.toNatClampNeg (((5 * x5) + ((M_steps vM) (Int32.toNatClampNeg x5))) - 1))) - ((M_start vM) (Int32.toNatClampNeg x5)))))), (0, .ref (aM 0))]) hx hb dX5_totalWith_51 hl (k := 2) rfl rfl (by decide) rfl (fun ls hl => ?_)
        refine lv_goto (tgt := 11) hx hb dX5_totalWith_54 (by decide) ?_
        exact ih (x3 + (Int32.toInt64 (((M_done vM) (Int32.toNatClampNeg (((5 * x5) + ((M_steps vM) (Int32.toNatClampNeg x5))) - 1))) - ((M_start vM) (Int32.toNatClampNeg x5))))) (x5 + 1) _ _ _ hP hD hS (lv_sub hl [2, 1, 0] rfl) _ h kk
  unfold mX5_totalWith at h
  refine lv_aload_n hx hb dX5_totalWith_0 rfl (lv_at hl 0 rfl) ?_
  refine lv_iload_n hx hb dX5_totalWith_1 rfl (lv_at hl 1 rfl) ?_
  obtain ⟨o1, e2, h⟩ := q_bind h
  refine q_ci (va_runV (As := [.int x1]) (rest := []) ⟨hx, hb, hml, hown, hts⟩ (wX5_plays l E aM vM x1 o1 e2 _) (cwV 1 hts gX5_totalWith_X5_plays rfl rfl rfl (by decide +kernel) ⟨Nat.le_of_ble_eq_true rfl, Nat.le_of_ble_eq_true rfl⟩) (q_preV hK hP hD q_idl 5 0 rfl rfl) rfl rfl hl.1 rfl (lv_room (Nat.le_of_ble_eq_true rfl)) dX5_totalWith_2 ⟨Nat.zero_le _, Nat.zero_le _⟩) hP hD hS hA q_idl q_idr (fun H locs hP hD hS => ?_)
  refine lv_istore_n (lv' := [(2, .int o1.1), (0, .ref (aM 0)), (1, .int x1)]) hx hb dX5_totalWith_5 rfl hl (by decide) rfl (fun ls hl => ?_)
  refine lv_lconst (v := 0) hx hb dX5_totalWith_6 (by decide) ?_
  refine lv_lstore_n (lv' := [(3, .long 0), (2, .int o1.1), (0, .ref (aM 0)), (1, .int x1)]) hx hb dX5_totalWith_7 rfl hl (by decide) rfl (fun ls hl => ?_)
  refine lv_iconst (v := 0) hx hb dX5_totalWith_8 (by decide) ?_
  refine lv_istore (lv' := [(5, .int 0), (3, .long 0), (2, .int o1.1), (0, .ref (aM 0)), (1, .int x1)]) hx hb dX5_totalWith_9 hl (by decide) rfl (fun ls hl => ?_)
  obtain ⟨o15, e16, h⟩ := q_bind h
  refine L11 o1.2 0 0 qFU _ _ _ hP hD hS (lv_sub hl [3, 1, 0] rfl) o15 e16 (fun H locs ls hP hD hS hl => ?_)
  refine lv_lload_n hx hb dX5_totalWith_57 rfl (lv_at hl 0 rfl) ?_
  obtain rfl := q_inj h
  exact hRt 58 _ _ _ dX5_totalWith_58 hP hD hS
def mX5_total (vM : SM)  : Option (Int64 × SM) := (mX5_totalWith (M_thrown_s vM 0) (-1)).bind fun o1 => some (o1.1, o1.2)
def rmX5_total : Room := { frames := 5, cells := 0, slots := 0, locals := 122 }
set_option maxHeartbeats 8000000 in
set_option maxRecDepth 100000 in
theorem wX5_total (l : Launch) (E : qE) (aM : Nat → Nat) (vM : SM)  (o : Int64 × SM) (h : mX5_total vM = some o) : ML l E yX5_total wsX5_total rmX5_total [.ref (aM 0)] (WM E aM vM) (WM E aM o.2) o.1 := by
  refine q_startL (cc := cX5_total) (maxL := 1) (by decide) rfl (Nat.le_of_ble_eq_true rfl) ?_
  intro pr e s m args below meth c A Q hx hb hml hown hts hK hRt hP hD hA hS ls hl
  have hl : lv_has ls 1 [(0, .ref (aM 0))] := hl
  have hinX5 : ∀ w ∈ wsX50, w ∈ wsX5_total := by decide +kernel
  have hw0 := hts (.fieldLink RX5 59 "QueueReaderModel" "thrown" "I") (by decide +kernel)
  unfold mX5_total at h
  refine lv_aload_n hx hb dX5_total_0 rfl (lv_at hl 0 rfl) ?_
  refine lv_iconst (v := 0) hx hb dX5_total_1 (by decide) ?_
  refine va_put (D := E.1) (ci := 5) (v := .int 0) (ty := .int) (C := RX5) (T := TX5) (N := 19) hx hb hts hinX5 tyX5 tyX5_ok nmX5 hown hK.1 hP hD hS 0 rfl rfl 0 (by decide) hw0 (fun _ h9 => h9) rfl (by decide +kernel) rfl rfl (Nat.le_of_ble_eq_true rfl) dX5_total_2 (fun H locs hP hD hS => ?_)
  have hP : va_P E.1 vwCl (WM E aM (M_thrown_s vM 0)) H := hP
  have hD : va_D A (WM E aM (M_thrown_s vM 0)) := hD
  refine lv_aload_n hx hb dX5_total_5 rfl (lv_at hl 0 rfl) ?_
  refine lv_iconst (v := (-1)) hx hb dX5_total_6 (by decide) ?_
  obtain ⟨o1, e2, h⟩ := q_bind h
  refine q_cl (va_runV (As := [.int (-1)]) (rest := []) ⟨hx, hb, hml, hown, hts⟩ (wX5_totalWith l E aM (M_thrown_s vM 0) (-1) o1 e2 _) (cwV 1 hts gX5_total_X5_totalWith rfl rfl rfl (by decide +kernel) ⟨Nat.le_of_ble_eq_true rfl, Nat.le_of_ble_eq_true rfl⟩) (q_preV hK hP hD q_idl 5 0 rfl rfl) rfl rfl hl.1 rfl (lv_room (Nat.le_of_ble_eq_true rfl)) dX5_total_7 ⟨Nat.zero_le _, Nat.zero_le _⟩) hP hD hS hA q_idl q_idr (fun H locs hP hD hS => ?_)
  obtain rfl := q_inj h
  exact hRt 10 _ _ _ dX5_total_10 hP hD hS
def mX5_saved (vM : SM) (x1 : Int32) : Option (Int64 × SM) := (mX5_noPlace (M_thrown_s vM 0) x1).bind fun o1 => (mX5_throwsIf (M_thrown_s vM 0) o1 1).bind fun o3 => if o3.1 = 0 then ((mX5_totalWith o3.2 (-1)).bind fun o6 => (mX5_totalWith o6.2 x1).bind fun o8 => some ((o6.1 - o8.1), o8.2)) else (some (0, o3.2))
def rmX5_saved : Room := { frames := 5, cells := 0, slots := 0, locals := 122 }
set_option maxHeartbeats 8000000 in
set_option maxRecDepth 100000 in
theorem wX5_saved (l : Launch) (E : qE) (aM : Nat → Nat) (vM : SM) (x1 : Int32) (o : Int64 × SM) (h : mX5_saved vM x1 = some o) : ML l E yX5_saved wsX5_saved rmX5_saved [.ref (aM 0), .int x1] (WM E aM vM) (WM E aM o.2) o.1 := by
  refine q_startL (cc := cX5_saved) (maxL := 2) (by decide) rfl (Nat.le_of_ble_eq_true rfl) ?_
  intro pr e s m args below meth c A Q hx hb hml hown hts hK hRt hP hD hA hS ls hl
  have hl : lv_has ls 2 [(0, .ref (aM 0)), (1, .int x1)] := hl
  have hinX5 : ∀ w ∈ wsX50, w ∈ wsX5_saved := by decide +kernel
  have hw0 := hts (.fieldLink RX5 59 "QueueReaderModel" "thrown" "I") (by decide +kernel)
  unfold mX5_saved at h
  refine lv_aload_n hx hb dX5_saved_0 rfl (lv_at hl 0 rfl) ?_
  refine lv_iconst (v := 0) hx hb dX5_saved_1 (by decide) ?_
  refine va_put (D := E.1) (ci := 5) (v := .int 0) (ty := .int) (C := RX5) (T := TX5) (N := 19) hx hb hts hinX5 tyX5 tyX5_ok nmX5 hown hK.1 hP hD hS 0 rfl rfl 0 (by decide) hw0 (fun _ h9 => h9) rfl (by decide +kernel) rfl rfl (Nat.le_of_ble_eq_true rfl) dX5_saved_2 (fun H locs hP hD hS => ?_)
  have hP : va_P E.1 vwCl (WM E aM (M_thrown_s vM 0)) H := hP
  have hD : va_D A (WM E aM (M_thrown_s vM 0)) := hD
  refine lv_aload_n hx hb dX5_saved_5 rfl (lv_at hl 0 rfl) ?_
  refine lv_aload_n hx hb dX5_saved_6 rfl (lv_at hl 0 rfl) ?_
  refine lv_iload_n hx hb dX5_saved_7 rfl (lv_at hl 1 rfl) ?_
  obtain ⟨o1, e2, h⟩ := q_bind h
  refine q_ci (va_runV (As := [.int x1]) (rest := [.ref (aM 0)]) ⟨hx, hb, hml, hown, hts⟩ (wX5_noPlace l E aM (M_thrown_s vM 0) x1 o1 e2 _) (cwV 1 hts gX5_saved_X5_noPlace rfl rfl rfl (by decide +kernel) ⟨Nat.le_of_ble_eq_true rfl, Nat.le_of_ble_eq_true rfl⟩) (q_preV hK hP hD q_idl 5 0 rfl rfl) rfl rfl hl.1 rfl (lv_room (Nat.le_of_ble_eq_true rfl)) dX5_saved_8 ⟨Nat.zero_le _, Nat.zero_le _⟩) hP hD hS hA q_idl q_idr (fun H locs hP hD hS => ?_)
  refine lv_iconst (v := 1) hx hb dX5_saved_11 (by decide) ?_
  obtain ⟨o3, e4, h⟩ := q_bind h
  refine q_ci (va_runV (As := [.int o1, .int 1]) (rest := []) ⟨hx, hb, hml, hown, hts⟩ (wX5_throwsIf l E aM (M_thrown_s vM 0) o1 1 o3 e4 _) (cwV 2 hts gX5_saved_X5_throwsIf rfl rfl rfl (by decide +kernel) ⟨Nat.le_of_ble_eq_true rfl, Nat.le_of_ble_eq_true rfl⟩) (q_preV hK hP hD q_idl 5 0 rfl rfl) rfl rfl hl.1 rfl (lv_room (Nat.le_of_ble_eq_true rfl)) dX5_saved_12 ⟨Nat.zero_le _, Nat.zero_le _⟩) hP hD hS hA q_idl q_idr (fun H locs hP hD hS => ?_)
  refine lv_if_eq (tgt := 22) hx hb dX5_saved_15 (by decide) (fun c5 => ?_) (fun c5 => ?_)
  · have h := q_pos c5 h
    refine lv_aload_n hx hb dX5_saved_22 rfl (lv_at hl 0 rfl) ?_
    refine lv_iconst (v := (-1)) hx hb dX5_saved_23 (by decide) ?_
    obtain ⟨o6, e7, h⟩ := q_bind h
    refine q_cl (va_runV (As := [.int (-1)]) (rest := []) ⟨hx, hb, hml, hown, hts⟩ (wX5_totalWith l E aM o3.2 (-1) o6 e7 _) (cwV 1 hts gX5_saved_X5_totalWith rfl rfl rfl (by decide +kernel) ⟨Nat.le_of_ble_eq_true rfl, Nat.le_of_ble_eq_true rfl⟩) (q_preV hK hP hD q_idl 5 0 rfl rfl) rfl rfl hl.1 rfl (lv_room (Nat.le_of_ble_eq_true rfl)) dX5_saved_24 ⟨Nat.zero_le _, Nat.zero_le _⟩) hP hD hS hA q_idl q_idr (fun H locs hP hD hS => ?_)
    refine lv_aload_n hx hb dX5_saved_27 rfl (lv_at hl 0 rfl) ?_
    refine lv_iload_n hx hb dX5_saved_28 rfl (lv_at hl 1 rfl) ?_
    obtain ⟨o8, e9, h⟩ := q_bind h
    refine q_cl (va_runV (As := [.int x1]) (rest := [.long o6.1]) ⟨hx, hb, hml, hown, hts⟩ (wX5_totalWith l E aM o6.2 x1 o8 e9 _) (cwV 1 hts gX5_saved_X5_totalWith rfl rfl rfl (by decide +kernel) ⟨Nat.le_of_ble_eq_true rfl, Nat.le_of_ble_eq_true rfl⟩) (q_preV hK hP hD q_idl 5 0 rfl rfl) rfl rfl hl.1 rfl (lv_room (Nat.le_of_ble_eq_true rfl)) dX5_saved_29 ⟨Nat.zero_le _, Nat.zero_le _⟩) hP hD hS hA q_idl q_idr (fun H locs hP hD hS => ?_)
    refine lv_lsub hx hb dX5_saved_32 ?_
    obtain rfl := q_inj h
    exact hRt 33 _ _ _ dX5_saved_33 hP hD hS
  · have h := q_neg c5 h
    refine lv_lconst (v := 0) hx hb dX5_saved_18 (by decide) ?_
    refine lv_goto (tgt := 33) hx hb dX5_saved_19 (by decide) ?_
    obtain rfl := q_inj h
    exact hRt 33 _ _ _ dX5_saved_33 hP hD hS
def lpX5_narrow_12  : Nat → Int32 → Int64 → Int32 → SM → Option (Int32 × SM)
  | 0, _, _, _, _ => none
  | k + 1, x1, x2, x4, vM => if (M_places vM) ≤ x4 then (some (x1, vM)) else ((mX5_totalWith vM x4).bind fun o12 => if x1 < 0 then (lpX5_narrow_12  k x4 o12.1 (x4 + 1) o12.2) else (if (lg_cmp o12.1 x2) < 0 then (lpX5_narrow_12  k x4 o12.1 (x4 + 1) o12.2) else (lpX5_narrow_12  k x1 x2 (x4 + 1) o12.2)))
def mX5_narrow (vM : SM)  : Option (Int32 × SM) := (lpX5_narrow_12  qFU (-1) 0 0 (M_thrown_s vM 0)).bind fun o16 => some (o16.1, o16.2)
def rmX5_narrow : Room := { frames := 5, cells := 0, slots := 0, locals := 122 }
set_option maxHeartbeats 8000000 in
set_option maxRecDepth 100000 in
theorem wX5_narrow (l : Launch) (E : qE) (aM : Nat → Nat) (vM : SM)  (o : Int32 × SM) (h : mX5_narrow vM = some o) : MI l E yX5_narrow wsX5_narrow rmX5_narrow [.ref (aM 0)] (WM E aM vM) (WM E aM o.2) o.1 := by
  refine q_startI (cc := cX5_narrow) (maxL := 7) (by decide) rfl (Nat.le_of_ble_eq_true rfl) ?_
  intro pr e s m args below meth c A Q hx hb hml hown hts hK hRt hP hD hA hS ls hl
  have hl : lv_has ls 7 [(0, .ref (aM 0))] := hl
  have hinX5 : ∀ w ∈ wsX50, w ∈ wsX5_narrow := by decide +kernel
  have hw0 := hts (.fieldLink RX5 59 "QueueReaderModel" "thrown" "I") (by decide +kernel)
  have hw1 := hts (.fieldLink RX5 63 "QueueReaderModel" "places" "I") (by decide +kernel)
  have L12 : ∀ (vM : SM) (x1 : Int32) (x2 : Int64) (x4 : Int32) (k : Nat) (H : Heap) (locs : List Loc) (ls : Array Slot), va_P E.1 vwCl (WM E aM vM) H → va_D A (WM E aM vM) → va_S A s.heap H locs → lv_has ls 7 [(0, .ref (aM 0)), (1, .int x1), (2, .long x2), (4, .int x4)] → ∀ o, lpX5_narrow_12  k x1 x2 x4 vM = some o → (∀ (H : Heap) (locs : List Loc) (ls : Array Slot), va_P E.1 vwCl (WM E aM o.2) H → va_D A (WM E aM o.2) → va_S A s.heap H locs → lv_has ls 7 [(1, .int o.1)] → W pr l e rmX5_narrow s m args below meth c H locs 0 0 Q (F0 m 55 ls [])) → W pr l e rmX5_narrow s m args below meth c H locs 0 0 Q (F0 m 12 ls []) := by
    intro vM x1 x2 x4 k
    induction k generalizing x1 x2 x4 vM with
    | zero => intro H locs ls hP hD hS hl o h; cases h
    | succ k ih =>
      intro H locs ls hP hD hS hl o h kk
      rw [lpX5_narrow_12] at h
      refine lv_iload hx hb dX5_narrow_12 (lv_at hl 3 rfl) ?_
      refine lv_aload_n hx hb dX5_narrow_14 rfl (lv_at hl 0 rfl) ?_
      refine va_get (D := E.1) (ci := 5) (v := .int (M_places vM)) (C := RX5) (T := TX5) (N := 19) hx hb hts hinX5 hown hK.1 hP 0 rfl rfl 4 (by decide) hw1 (fun _ h9 => h9) rfl dX5_narrow_15 ?_
      refine lv_icmp_ge (tgt := 55) hx hb dX5_narrow_18 (by decide) (fun c11 => ?_) (fun c11 => ?_)
      · have h := q_pos c11 h
        obtain rfl := q_inj h
        exact kk _ _ _ hP hD hS (lv_sub hl [1] rfl)
      · have h := q_neg c11 h
        refine lv_aload_n hx hb dX5_narrow_21 rfl (lv_at hl 0 rfl) ?_
        refine lv_iload hx hb dX5_narrow_22 (lv_at hl 3 rfl) ?_
        obtain ⟨o12, e13, h⟩ := q_bind h
        refine q_cl (va_runV (As := [.int x4]) (rest := []) ⟨hx, hb, hml, hown, hts⟩ (wX5_totalWith l E aM vM x4 o12 e13 _) (cwV 1 hts gX5_narrow_X5_totalWith rfl rfl rfl (by decide +kernel) ⟨Nat.le_of_ble_eq_true rfl, Nat.le_of_ble_eq_true rfl⟩) (q_preV hK hP hD q_idl 5 0 rfl rfl) rfl rfl hl.1 rfl (lv_room (Nat.le_of_ble_eq_true rfl)) dX5_narrow_24 ⟨Nat.zero_le _, Nat.zero_le _⟩) hP hD hS hA q_idl q_idr (fun H locs hP hD hS => ?_)
        refine lv_lstore (lv' := [(5, .long o12.1), (0, .ref (aM 0)), (1, .int x1), (2, .long x2), (4, .int x4)]) hx hb dX5_narrow_27 hl (by decide) rfl (fun ls hl => ?_)
        refine lv_iload_n hx hb dX5_narrow_29 rfl (lv_at hl 2 rfl) ?_
        refine lv_if_lt (tgt := 43) hx hb dX5_narrow_30 (by decide) (fun c14 => ?_) (fun c14 => ?_)
        · have h := q_pos c14 h
          refine lv_iload hx hb dX5_narrow_43 (lv_at hl 4 rfl) ?_
          refine lv_istore_n (lv' := [(1, .int x4), (5, .long o12.1), (0, .ref (aM 0)), (2, .long x2), (4, .int x4)]) hx hb dX5_narrow_45 rfl hl (by decide) rfl (fun ls hl => ?_)
          refine lv_lload hx hb dX5_narrow_46 (lv_at hl 1 rfl) ?_
          refine lv_lstore_n (lv' := [(2, .long o12.1), (1, .int x4), (5, .long o12.1), (0, .ref (aM 0)), (4, .int x4)]) hx hb dX5_narrow_48 rfl hl (by decide) rfl (fun ls hl => ?_)
          refine lv_iinc (v := (x4 + 1)) (lv' := [(4, .int (x4 + 1)), (2, .long o12.1), (1, .int x4), (5, .long o12.1), (0, .ref (aM 0))]) hx hb dX5_narrow_49 hl (k := 4) rfl rfl (by decide) rfl (fun ls hl => ?_)
          refine lv_goto (tgt := 12) hx hb dX5_narrow_52 (by decide) ?_
          exact ih o12.2 x4 o12.1 (x4 + 1) _ _ _ hP hD hS (lv_sub hl [4, 2, 1, 0] rfl) _ h kk
        · have h := q_neg c14 h
          refine lv_lload hx hb dX5_narrow_33 (lv_at hl 0 rfl) ?_
          refine lv_lload_n hx hb dX5_narrow_35 rfl (lv_at hl 3 rfl) ?_
          refine W.lcmp hx hb dX5_narrow_36 ?_
          refine lv_if_lt (tgt := 43) hx hb dX5_narrow_37 (by decide) (fun c15 => ?_) (fun c15 => ?_)
          · have h := q_pos c15 h
            refine lv_iload hx hb dX5_narrow_43 (lv_at hl 4 rfl) ?_
            refine lv_istore_n (lv' := [(1, .int x4), (5, .long o12.1), (0, .ref (aM 0)), (2, .long x2), (4, .int x4)]) hx hb dX5_narrow_45 rfl hl (by decide) rfl (fun ls hl => ?_)
            refine lv_lload hx hb dX5_narrow_46 (lv_at hl 1 rfl) ?_
            refine lv_lstore_n (lv' := [(2, .long o12.1), (1, .int x4), (5, .long o12.1), (0, .ref (aM 0)), (4, .int x4)]) hx hb dX5_narrow_48 rfl hl (by decide) rfl (fun ls hl => ?_)
            refine lv_iinc (v := (x4 + 1)) (lv' := [(4, .int (x4 + 1)), (2, .long o12.1), (1, .int x4), (5, .long o12.1), (0, .ref (aM 0))]) hx hb dX5_narrow_49 hl (k := 4) rfl rfl (by decide) rfl (fun ls hl => ?_)
            refine lv_goto (tgt := 12) hx hb dX5_narrow_52 (by decide) ?_
            exact ih o12.2 x4 o12.1 (x4 + 1) _ _ _ hP hD hS (lv_sub hl [4, 2, 1, 0] rfl) _ h kk
          · have h := q_neg c15 h
            refine lv_goto (tgt := 49) hx hb dX5_narrow_40 (by decide) ?_
            refine lv_iinc (v := (x4 + 1)) (lv' := [(4, .int (x4 + 1)), (5, .long o12.1), (0, .ref (aM 0)), (1, .int x1), (2, .long x2)]) hx hb dX5_narrow_49 hl (k := 4) rfl rfl (by decide) rfl (fun ls hl => ?_)
            refine lv_goto (tgt := 12) hx hb dX5_narrow_52 (by decide) ?_
            exact ih o12.2 x1 x2 (x4 + 1) _ _ _ hP hD hS (lv_sub hl [2, 3, 4, 0] rfl) _ h kk
  unfold mX5_narrow at h
  refine lv_aload_n hx hb dX5_narrow_0 rfl (lv_at hl 0 rfl) ?_
  refine lv_iconst (v := 0) hx hb dX5_narrow_1 (by decide) ?_
  refine va_put (D := E.1) (ci := 5) (v := .int 0) (ty := .int) (C := RX5) (T := TX5) (N := 19) hx hb hts hinX5 tyX5 tyX5_ok nmX5 hown hK.1 hP hD hS 0 rfl rfl 0 (by decide) hw0 (fun _ h9 => h9) rfl (by decide +kernel) rfl rfl (Nat.le_of_ble_eq_true rfl) dX5_narrow_2 (fun H locs hP hD hS => ?_)
  have hP : va_P E.1 vwCl (WM E aM (M_thrown_s vM 0)) H := hP
  have hD : va_D A (WM E aM (M_thrown_s vM 0)) := hD
  refine lv_iconst (v := (-1)) hx hb dX5_narrow_5 (by decide) ?_
  refine lv_istore_n (lv' := [(1, .int (-1)), (0, .ref (aM 0))]) hx hb dX5_narrow_6 rfl hl (by decide) rfl (fun ls hl => ?_)
  refine lv_lconst (v := 0) hx hb dX5_narrow_7 (by decide) ?_
  refine lv_lstore_n (lv' := [(2, .long 0), (1, .int (-1)), (0, .ref (aM 0))]) hx hb dX5_narrow_8 rfl hl (by decide) rfl (fun ls hl => ?_)
  refine lv_iconst (v := 0) hx hb dX5_narrow_9 (by decide) ?_
  refine lv_istore (lv' := [(4, .int 0), (2, .long 0), (1, .int (-1)), (0, .ref (aM 0))]) hx hb dX5_narrow_10 hl (by decide) rfl (fun ls hl => ?_)
  obtain ⟨o16, e17, h⟩ := q_bind h
  refine L12 (M_thrown_s vM 0) (-1) 0 0 qFU _ _ _ hP hD hS (lv_sub hl [3, 2, 1, 0] rfl) o16 e17 (fun H locs ls hP hD hS hl => ?_)
  refine lv_iload_n hx hb dX5_narrow_55 rfl (lv_at hl 0 rfl) ?_
  obtain rfl := q_inj h
  exact hRt 56 _ _ _ dX5_narrow_56 hP hD hS
def lpX5_alone_31 (vM : SM) (x1 : Int32) : Nat → Int32 → Int32 → Option Int32
  | 0, _, _ => none
  | k + 1, x2, x3 => ck x1 60 (if ((5 * x1) + ((M_steps vM) (Int32.toNatClampNeg x1))) ≤ x3 then (some x2) else (ck x3 300 (ck x1 60 (Option.bind (if ((M_steps vM) (Int32.toNatClampNeg x1)) ≤ ((x3 - x3 / 5 * 5) + 1) then (some 0) else (ck x3 300 (ck ((M_at vM) (Int32.toNatClampNeg x3)) 5 (some ((M_delay vM) (Int32.toNatClampNeg ((M_at vM) (Int32.toNatClampNeg x3)))))))) fun z32 => lpX5_alone_31 vM x1 k (x2 + (((M_work vM) (Int32.toNatClampNeg x3)) + z32)) (x3 + 1)))))
def mX5_alone (vM : SM) (x1 : Int32) : Option (Int32 × SM) := (mX5_noAsk (M_thrown_s vM 0) x1).bind fun o1 => (mX5_throwsIf (M_thrown_s vM 0) o1 1).bind fun o3 => if o3.1 = 0 then (ck x1 60 ((lpX5_alone_31 o3.2 x1 qFU ((M_start o3.2) (Int32.toNatClampNeg x1)) (5 * x1)).bind fun o37 => some (o37, o3.2))) else (some (0, o3.2))
def rmX5_alone : Room := { frames := 2, cells := 0, slots := 0, locals := 43 }
set_option maxHeartbeats 8000000 in
set_option maxRecDepth 100000 in
theorem wX5_alone (l : Launch) (E : qE) (aM : Nat → Nat) (vM : SM) (x1 : Int32) (o : Int32 × SM) (h : mX5_alone vM x1 = some o) : MI l E yX5_alone wsX5_alone rmX5_alone [.ref (aM 0), .int x1] (WM E aM vM) (WM E aM o.2) o.1 := by
  refine q_startI (cc := cX5_alone) (maxL := 4) (by decide) rfl (Nat.le_of_ble_eq_true rfl) ?_
  intro pr e s m args below meth c A Q hx hb hml hown hts hK hRt hP hD hA hS ls hl
  have hl : lv_has ls 4 [(0, .ref (aM 0)), (1, .int x1)] := hl
  have hinX5 : ∀ w ∈ wsX50, w ∈ wsX5_alone := by decide +kernel
  have hw0 := hts (.fieldLink RX5 59 "QueueReaderModel" "thrown" "I") (by decide +kernel)
  have hw1 := hts (.fieldLink RX5 22 "QueueReaderModel" "start" "[I") (by decide +kernel)
  have hw2 := hts (.fieldLink RX5 25 "QueueReaderModel" "steps" "[I") (by decide +kernel)
  have hw3 := hts (.fieldLink RX5 31 "QueueReaderModel" "work" "[I") (by decide +kernel)
  have hw4 := hts (.fieldLink RX5 16 "QueueReaderModel" "delay" "[I") (by decide +kernel)
  have hw5 := hts (.fieldLink RX5 28 "QueueReaderModel" "at" "[I") (by decide +kernel)
  have L31 : ∀ (vM : SM) (x1 : Int32) (x2 : Int32) (x3 : Int32) (k : Nat) (H : Heap) (locs : List Loc) (ls : Array Slot), va_P E.1 vwCl (WM E aM vM) H → va_D A (WM E aM vM) → va_S A s.heap H locs → lv_has ls 4 [(0, .ref (aM 0)), (1, .int x1), (2, .int x2), (3, .int x3)] → ∀ o, lpX5_alone_31 vM x1 k x2 x3 = some o → (∀ (H : Heap) (locs : List Loc) (ls : Array Slot), va_P E.1 vwCl (WM E aM vM) H → va_D A (WM E aM vM) → va_S A s.heap H locs → lv_has ls 4 [(2, .int o)] → W pr l e rmX5_alone s m args below meth c H locs 0 0 Q (F0 m 90 ls [])) → W pr l e rmX5_alone s m args below meth c H locs 0 0 Q (F0 m 31 ls []) := by
    intro vM x1 x2 x3 k
    induction k generalizing x2 x3 with
    | zero => intro H locs ls hP hD hS hl o h; cases h
    | succ k ih =>
      intro H locs ls hP hD hS hl o h kk
      rw [lpX5_alone_31] at h
      refine lv_iload_n hx hb dX5_alone_31 rfl (lv_at hl 3 rfl) ?_
      refine lv_iconst (v := 5) hx hb dX5_alone_32 (by decide) ?_
      refine lv_iload_n hx hb dX5_alone_33 rfl (lv_at hl 1 rfl) ?_
      refine lv_imul hx hb dX5_alone_34 ?_
      refine lv_aload_n hx hb dX5_alone_35 rfl (lv_at hl 0 rfl) ?_
      refine va_get (D := E.1) (ci := 5) (v := .ref (aM 6)) (C := RX5) (T := TX5) (N := 19) hx hb hts hinX5 hown hK.1 hP 0 rfl rfl 7 (by decide) hw2 (fun _ h9 => h9) rfl dX5_alone_36 ?_
      refine lv_iload_n hx hb dX5_alone_39 rfl (lv_at hl 1 rfl) ?_
      obtain ⟨i27, h⟩ := q_ck h
      refine va_iald (f := (M_steps vM)) hx hb hK.1 hP 6 0 rfl rfl i27 dX5_alone_40 ?_
      refine lv_iadd hx hb dX5_alone_41 ?_
      refine lv_icmp_ge (tgt := 90) hx hb dX5_alone_42 (by decide) (fun c28 => ?_) (fun c28 => ?_)
      · have h := q_pos c28 h
        obtain rfl := q_inj h
        exact kk _ _ _ hP hD hS (lv_sub hl [2] rfl)
      · have h := q_neg c28 h
        refine lv_iload_n hx hb dX5_alone_45 rfl (lv_at hl 2 rfl) ?_
        refine lv_aload_n hx hb dX5_alone_46 rfl (lv_at hl 0 rfl) ?_
        refine va_get (D := E.1) (ci := 5) (v := .ref (aM 8)) (C := RX5) (T := TX5) (N := 19) hx hb hts hinX5 hown hK.1 hP 0 rfl rfl 10 (by decide) hw3 (fun _ h9 => h9) rfl dX5_alone_47 ?_
        refine lv_iload_n hx hb dX5_alone_50 rfl (lv_at hl 3 rfl) ?_
        obtain ⟨i29, h⟩ := q_ck h
        refine va_iald (f := (M_work vM)) hx hb hK.1 hP 8 0 rfl rfl i29 dX5_alone_51 ?_
        refine lv_iload_n hx hb dX5_alone_52 rfl (lv_at hl 3 rfl) ?_
        refine lv_iconst (v := 5) hx hb dX5_alone_53 (by decide) ?_
        refine lv_irem hx hb dX5_alone_54 (by decide) ?_
        refine lv_iconst (v := 1) hx hb dX5_alone_55 (by decide) ?_
        refine lv_iadd hx hb dX5_alone_56 ?_
        refine lv_aload_n hx hb dX5_alone_57 rfl (lv_at hl 0 rfl) ?_
        refine va_get (D := E.1) (ci := 5) (v := .ref (aM 6)) (C := RX5) (T := TX5) (N := 19) hx hb hts hinX5 hown hK.1 hP 0 rfl rfl 7 (by decide) hw2 (fun _ h9 => h9) rfl dX5_alone_58 ?_
        refine lv_iload_n hx hb dX5_alone_61 rfl (lv_at hl 1 rfl) ?_
        obtain ⟨i30, h⟩ := q_ck h
        refine va_iald (f := (M_steps vM)) hx hb hK.1 hP 6 0 rfl rfl i30 dX5_alone_62 ?_
        obtain ⟨z32, e33, h⟩ := q_bind h
        have KJ31 : ∀ (H : Heap) (locs : List Loc), va_P E.1 vwCl (WM E aM vM) H → va_D A (WM E aM vM) → va_S A s.heap H locs → W pr l e rmX5_alone s m args below meth c H locs 0 0 Q (F0 m 81 ls [.int z32, .int ((M_work vM) (Int32.toNatClampNeg x3)), .int x2]) := by
          intro H locs hP hD hS
          refine lv_iadd hx hb dX5_alone_81 ?_
          refine lv_iadd hx hb dX5_alone_82 ?_
          refine lv_istore_n (lv' := [(2, .int (x2 + (((M_work vM) (Int32.toNatClampNeg x3)) + z32))), (0, .ref (aM 0)), (1, .int x1), (3, .int x3)]) hx hb dX5_alone_83 rfl hl (by decide) rfl (fun ls hl => ?_)
          refine lv_iinc (v := (x3 + 1)) (lv' := [(3, .int (x3 + 1)), (2, .int (x2 + (((M_work vM) (Int32.toNatClampNeg x3)) + z32))), (0, .ref (aM 0)), (1, .int x1)]) hx hb dX5_alone_84 hl (k := 3) rfl rfl (by decide) rfl (fun ls hl => ?_)
          refine lv_goto (tgt := 31) hx hb dX5_alone_87 (by decide) ?_
          exact ih (x2 + (((M_work vM) (Int32.toNatClampNeg x3)) + z32)) (x3 + 1) _ _ _ hP hD hS (lv_sub hl [2, 3, 1, 0] rfl) _ h kk
        have h := e33
        refine lv_icmp_ge (tgt := 80) hx hb dX5_alone_63 (by decide) (fun c34 => ?_) (fun c34 => ?_)
        · have h := q_pos c34 h
          refine lv_iconst (v := 0) hx hb dX5_alone_80 (by decide) ?_
          obtain rfl := q_inj h
          exact KJ31 _ _ hP hD hS
        · have h := q_neg c34 h
          refine lv_aload_n hx hb dX5_alone_66 rfl (lv_at hl 0 rfl) ?_
          refine va_get (D := E.1) (ci := 5) (v := .ref (aM 3)) (C := RX5) (T := TX5) (N := 19) hx hb hts hinX5 hown hK.1 hP 0 rfl rfl 3 (by decide) hw4 (fun _ h9 => h9) rfl dX5_alone_67 ?_
          refine lv_aload_n hx hb dX5_alone_70 rfl (lv_at hl 0 rfl) ?_
          refine va_get (D := E.1) (ci := 5) (v := .ref (aM 7)) (C := RX5) (T := TX5) (N := 19) hx hb hts hinX5 hown hK.1 hP 0 rfl rfl 9 (by decide) hw5 (fun _ h9 => h9) rfl dX5_alone_71 ?_
          refine lv_iload_n hx hb dX5_alone_74 rfl (lv_at hl 3 rfl) ?_
          obtain ⟨i35, h⟩ := q_ck h
          refine va_iald (f := (M_at vM)) hx hb hK.1 hP 7 0 rfl rfl i35 dX5_alone_75 ?_
          obtain ⟨i36, h⟩ := q_ck h
          refine va_iald (f := (M_delay vM)) hx hb hK.1 hP 3 0 rfl rfl i36 dX5_alone_76 ?_
          refine lv_goto (tgt := 81) hx hb dX5_alone_77 (by decide) ?_
          obtain rfl := q_inj h
          exact KJ31 _ _ hP hD hS
  unfold mX5_alone at h
  refine lv_aload_n hx hb dX5_alone_0 rfl (lv_at hl 0 rfl) ?_
  refine lv_iconst (v := 0) hx hb dX5_alone_1 (by decide) ?_
  refine va_put (D := E.1) (ci := 5) (v := .int 0) (ty := .int) (C := RX5) (T := TX5) (N := 19) hx hb hts hinX5 tyX5 tyX5_ok nmX5 hown hK.1 hP hD hS 0 rfl rfl 0 (by decide) hw0 (fun _ h9 => h9) rfl (by decide +kernel) rfl rfl (Nat.le_of_ble_eq_true rfl) dX5_alone_2 (fun H locs hP hD hS => ?_)
  have hP : va_P E.1 vwCl (WM E aM (M_thrown_s vM 0)) H := hP
  have hD : va_D A (WM E aM (M_thrown_s vM 0)) := hD
  refine lv_aload_n hx hb dX5_alone_5 rfl (lv_at hl 0 rfl) ?_
  refine lv_aload_n hx hb dX5_alone_6 rfl (lv_at hl 0 rfl) ?_
  refine lv_iload_n hx hb dX5_alone_7 rfl (lv_at hl 1 rfl) ?_
  obtain ⟨o1, e2, h⟩ := q_bind h
  refine q_ci (va_runV (As := [.int x1]) (rest := [.ref (aM 0)]) ⟨hx, hb, hml, hown, hts⟩ (wX5_noAsk l E aM (M_thrown_s vM 0) x1 o1 e2 _) (cwV 1 hts gX5_alone_X5_noAsk rfl rfl rfl (by decide +kernel) ⟨Nat.le_of_ble_eq_true rfl, Nat.le_of_ble_eq_true rfl⟩) (q_preV hK hP hD q_idl 5 0 rfl rfl) rfl rfl hl.1 rfl (lv_room (Nat.le_of_ble_eq_true rfl)) dX5_alone_8 ⟨Nat.zero_le _, Nat.zero_le _⟩) hP hD hS hA q_idl q_idr (fun H locs hP hD hS => ?_)
  refine lv_iconst (v := 1) hx hb dX5_alone_11 (by decide) ?_
  obtain ⟨o3, e4, h⟩ := q_bind h
  refine q_ci (va_runV (As := [.int o1, .int 1]) (rest := []) ⟨hx, hb, hml, hown, hts⟩ (wX5_throwsIf l E aM (M_thrown_s vM 0) o1 1 o3 e4 _) (cwV 2 hts gX5_alone_X5_throwsIf rfl rfl rfl (by decide +kernel) ⟨Nat.le_of_ble_eq_true rfl, Nat.le_of_ble_eq_true rfl⟩) (q_preV hK hP hD q_idl 5 0 rfl rfl) rfl rfl hl.1 rfl (lv_room (Nat.le_of_ble_eq_true rfl)) dX5_alone_12 ⟨Nat.zero_le _, Nat.zero_le _⟩) hP hD hS hA q_idl q_idr (fun H locs hP hD hS => ?_)
  refine lv_if_eq (tgt := 20) hx hb dX5_alone_15 (by decide) (fun c5 => ?_) (fun c5 => ?_)
  · have h := q_pos c5 h
    refine lv_aload_n hx hb dX5_alone_20 rfl (lv_at hl 0 rfl) ?_
    refine va_get (D := E.1) (ci := 5) (v := .ref (aM 5)) (C := RX5) (T := TX5) (N := 19) hx hb hts hinX5 hown hK.1 hP 0 rfl rfl 6 (by decide) hw1 (fun _ h9 => h9) rfl dX5_alone_21 ?_
    refine lv_iload_n hx hb dX5_alone_24 rfl (lv_at hl 1 rfl) ?_
    obtain ⟨i6, h⟩ := q_ck h
    refine va_iald (f := (M_start o3.2)) hx hb hK.1 hP 5 0 rfl rfl i6 dX5_alone_25 ?_
    refine lv_istore_n (lv' := [(2, .int ((M_start o3.2) (Int32.toNatClampNeg x1))), (0, .ref (aM 0)), (1, .int x1)]) hx hb dX5_alone_26 rfl hl (by decide) rfl (fun ls hl => ?_)
    refine lv_iconst (v := 5) hx hb dX5_alone_27 (by decide) ?_
    refine lv_iload_n hx hb dX5_alone_28 rfl (lv_at hl 2 rfl) ?_
    refine lv_imul hx hb dX5_alone_29 ?_
    refine lv_istore_n (lv' := [(3, .int (5 * x1)), (2, .int ((M_start o3.2) (Int32.toNatClampNeg x1))), (0, .ref (aM 0)), (1, .int x1)]) hx hb dX5_alone_30 rfl hl (by decide) rfl (fun ls hl => ?_)
    obtain ⟨o37, e38, h⟩ := q_bind h
    refine L31 o3.2 x1 ((M_start o3.2) (Int32.toNatClampNeg x1)) (5 * x1) qFU _ _ _ hP hD hS (lv_sub hl [2, 3, 1, 0] rfl) o37 e38 (fun H locs ls hP hD hS hl => ?_)
    refine lv_iload_n hx hb dX5_alone_90 rfl (lv_at hl 0 rfl) ?_
    obtain rfl := q_inj h
    exact hRt 91 _ _ _ dX5_alone_91 hP hD hS
  · have h := q_neg c5 h
    refine lv_iconst (v := 0) hx hb dX5_alone_18 (by decide) ?_
    obtain rfl := q_inj h
    exact hRt 19 _ _ _ dX5_alone_19 hP hD hS
def lpX5_count_61 (vM : SM) : Nat → Int32 → Int32 → Option Int32
  | 0, _, _ => none
  | k + 1, x2, x3 => if 300 ≤ x3 then (some x2) else ((mX5_isStep vM x3).bind fun o27 => Option.bind (if o27 = 0 then (some 0) else (ck x3 300 (if ((M_isSeen vM) (Int32.toNatClampNeg x3)) = 0 then (some 0) else (some 1)))) fun z30 => lpX5_count_61 vM k (x2 + z30) (x3 + 1))
def mX5_count (vM : SM) (x1 : Int32) : Option (Int32 × SM) := if Int32.toInt x1 < 0 ∨ 4 < Int32.toInt x1 then (some ((-1), (M_thrown_s vM 0))) else (if x1 = 0 then (some ((M_places vM), (M_thrown_s vM 0))) else (if x1 = 1 then (some ((M_asks vM), (M_thrown_s vM 0))) else (if x1 = 2 then ((mX5_stepsOfAll (M_thrown_s vM 0)).bind fun o5 => some (o5, (M_thrown_s vM 0))) else (if x1 = 3 then ((lpX5_count_61 (M_thrown_s vM 0) qFU 0 0).bind fun o35 => some (o35, (M_thrown_s vM 0))) else (if x1 = 4 then ((mX5_plays (M_thrown_s vM 0) (-1)).bind fun o39 => some (o39.1, o39.2)) else (none))))))
def rmX5_count : Room := { frames := 4, cells := 0, slots := 0, locals := 97 }
set_option maxHeartbeats 8000000 in
set_option maxRecDepth 100000 in
theorem wX5_count (l : Launch) (E : qE) (aM : Nat → Nat) (vM : SM) (x1 : Int32) (o : Int32 × SM) (h : mX5_count vM x1 = some o) : MI l E yX5_count wsX5_count rmX5_count [.ref (aM 0), .int x1] (WM E aM vM) (WM E aM o.2) o.1 := by
  refine q_startI (cc := cX5_count) (maxL := 4) (by decide) rfl (Nat.le_of_ble_eq_true rfl) ?_
  intro pr e s m args below meth c A Q hx hb hml hown hts hK hRt hP hD hA hS ls hl
  have hl : lv_has ls 4 [(0, .ref (aM 0)), (1, .int x1)] := hl
  have hinX5 : ∀ w ∈ wsX50, w ∈ wsX5_count := by decide +kernel
  have hw0 := hts (.fieldLink RX5 59 "QueueReaderModel" "thrown" "I") (by decide +kernel)
  have hw1 := hts (.fieldLink RX5 63 "QueueReaderModel" "places" "I") (by decide +kernel)
  have hw2 := hts (.fieldLink RX5 70 "QueueReaderModel" "asks" "I") (by decide +kernel)
  have hw3 := hts (.fieldLink RX5 34 "QueueReaderModel" "isSeen" "[Z") (by decide +kernel)
  have L61 : ∀ (vM : SM) (x2 : Int32) (x3 : Int32) (k : Nat) (H : Heap) (locs : List Loc) (ls : Array Slot), va_P E.1 vwCl (WM E aM vM) H → va_D A (WM E aM vM) → va_S A s.heap H locs → lv_has ls 4 [(0, .ref (aM 0)), (2, .int x2), (3, .int x3)] → ∀ o, lpX5_count_61 vM k x2 x3 = some o → (∀ (H : Heap) (locs : List Loc) (ls : Array Slot), va_P E.1 vwCl (WM E aM vM) H → va_D A (WM E aM vM) → va_S A s.heap H locs → lv_has ls 4 [(2, .int o)] → W pr l e rmX5_count s m args below meth c H locs 0 0 Q (F0 m 99 ls [])) → W pr l e rmX5_count s m args below meth c H locs 0 0 Q (F0 m 61 ls []) := by
    intro vM x2 x3 k
    induction k generalizing x2 x3 with
    | zero => intro H locs ls hP hD hS hl o h; cases h
    | succ k ih =>
      intro H locs ls hP hD hS hl o h kk
      rw [lpX5_count_61] at h
      refine lv_iload_n hx hb dX5_count_61 rfl (lv_at hl 2 rfl) ?_
      refine lv_sipush (v := 300) hx hb dX5_count_62 (by decide) ?_
      refine lv_icmp_ge (tgt := 99) hx hb dX5_count_65 (by decide) (fun c26 => ?_) (fun c26 => ?_)
      · have h := q_pos c26 h
        obtain rfl := q_inj h
        exact kk _ _ _ hP hD hS (lv_sub hl [1] rfl)
      · have h := q_neg c26 h
        refine lv_iload_n hx hb dX5_count_68 rfl (lv_at hl 1 rfl) ?_
        refine lv_aload_n hx hb dX5_count_69 rfl (lv_at hl 0 rfl) ?_
        refine lv_iload_n hx hb dX5_count_70 rfl (lv_at hl 2 rfl) ?_
        obtain ⟨o27, e28, h⟩ := q_bind h
        refine q_ci (va_runV (As := [.int x3]) (rest := [.int x2]) ⟨hx, hb, hml, hown, hts⟩ (wX5_isStep l E aM vM x3 o27 e28 _) (cwV 1 hts gX5_count_X5_isStep rfl rfl rfl (by decide +kernel) ⟨Nat.le_of_ble_eq_true rfl, Nat.le_of_ble_eq_true rfl⟩) (q_preV hK hP hD q_idl 5 0 rfl rfl) rfl rfl hl.1 rfl (lv_room (Nat.le_of_ble_eq_true rfl)) dX5_count_71 ⟨Nat.zero_le _, Nat.zero_le _⟩) hP hD hS hA q_idl q_idr (fun H locs hP hD hS => ?_)
        obtain ⟨z30, e31, h⟩ := q_bind h
        have KJ29 : ∀ (H : Heap) (locs : List Loc), va_P E.1 vwCl (WM E aM vM) H → va_D A (WM E aM vM) → va_S A s.heap H locs → W pr l e rmX5_count s m args below meth c H locs 0 0 Q (F0 m 91 ls [.int z30, .int x2]) := by
          intro H locs hP hD hS
          refine lv_iadd hx hb dX5_count_91 ?_
          refine lv_istore_n (lv' := [(2, .int (x2 + z30)), (0, .ref (aM 0)), (3, .int x3)]) hx hb dX5_count_92 rfl hl (by decide) rfl (fun ls hl => ?_)
          refine lv_iinc (v := (x3 + 1)) (lv' := [(3, .int (x3 + 1)), (2, .int (x2 + z30)), (0, .ref (aM 0))]) hx hb dX5_count_93 hl (k := 2) rfl rfl (by decide) rfl (fun ls hl => ?_)
          refine lv_goto (tgt := 61) hx hb dX5_count_96 (by decide) ?_
          exact ih (x2 + z30) (x3 + 1) _ _ _ hP hD hS (lv_sub hl [2, 1, 0] rfl) _ h kk
        have h := e31
        refine lv_if_eq (tgt := 90) hx hb dX5_count_74 (by decide) (fun c32 => ?_) (fun c32 => ?_)
        · have h := q_pos c32 h
          refine lv_iconst (v := 0) hx hb dX5_count_90 (by decide) ?_
          obtain rfl := q_inj h
          exact KJ29 _ _ hP hD hS
        · have h := q_neg c32 h
          refine lv_aload_n hx hb dX5_count_77 rfl (lv_at hl 0 rfl) ?_
          refine va_get (D := E.1) (ci := 5) (v := .ref (aM 9)) (C := RX5) (T := TX5) (N := 19) hx hb hts hinX5 hown hK.1 hP 0 rfl rfl 11 (by decide) hw3 (fun _ h9 => h9) rfl dX5_count_78 ?_
          refine lv_iload_n hx hb dX5_count_81 rfl (lv_at hl 2 rfl) ?_
          obtain ⟨i33, h⟩ := q_ck h
          refine va_zald (f := (M_isSeen vM)) hx hb hK.1 hP 9 2 rfl rfl i33 dX5_count_82 ?_
          refine lv_if_eq (tgt := 90) hx hb dX5_count_83 (by decide) (fun c34 => ?_) (fun c34 => ?_)
          · have h := q_pos c34 h
            refine lv_iconst (v := 0) hx hb dX5_count_90 (by decide) ?_
            obtain rfl := q_inj h
            exact KJ29 _ _ hP hD hS
          · have h := q_neg c34 h
            refine lv_iconst (v := 1) hx hb dX5_count_86 (by decide) ?_
            refine lv_goto (tgt := 91) hx hb dX5_count_87 (by decide) ?_
            obtain rfl := q_inj h
            exact KJ29 _ _ hP hD hS
  unfold mX5_count at h
  refine lv_aload_n hx hb dX5_count_0 rfl (lv_at hl 0 rfl) ?_
  refine lv_iconst (v := 0) hx hb dX5_count_1 (by decide) ?_
  refine va_put (D := E.1) (ci := 5) (v := .int 0) (ty := .int) (C := RX5) (T := TX5) (N := 19) hx hb hts hinX5 tyX5 tyX5_ok nmX5 hown hK.1 hP hD hS 0 rfl rfl 0 (by decide) hw0 (fun _ h9 => h9) rfl (by decide +kernel) rfl rfl (Nat.le_of_ble_eq_true rfl) dX5_count_2 (fun H locs hP hD hS => ?_)
  have hP : va_P E.1 vwCl (WM E aM (M_thrown_s vM 0)) H := hP
  have hD : va_D A (WM E aM (M_thrown_s vM 0)) := hD
  refine lv_iconst (v := 0) hx hb dX5_count_5 (by decide) ?_
  refine lv_istore_n (lv' := [(2, .int 0), (0, .ref (aM 0)), (1, .int x1)]) hx hb dX5_count_6 rfl hl (by decide) rfl (fun ls hl => ?_)
  refine lv_iload_n hx hb dX5_count_7 rfl (lv_at hl 2 rfl) ?_
  by_cases c1 : Int32.toInt x1 < 0 ∨ 4 < Int32.toInt x1
  · have h := q_pos c1 h
    refine lv_tableOut (tgt := 107) hx hb dX5_count_8 c1 (by decide) ?_
    refine lv_iconst (v := (-1)) hx hb dX5_count_107 (by decide) ?_
    obtain rfl := q_inj h
    exact hRt 108 _ _ _ dX5_count_108 hP hD hS
  · have h := q_neg c1 h
    by_cases e2 : x1 = 0
    · have h := q_pos e2 h
      refine lv_tableIn (tgt := 44) (off := 36) hx hb dX5_count_8 (fun z => c1 (Or.inl z)) (fun z => c1 (Or.inr z)) (by rw [e2]; rfl) (by decide) ?_
      refine lv_aload_n hx hb dX5_count_44 rfl (lv_at hl 1 rfl) ?_
      refine va_get (D := E.1) (ci := 5) (v := .int (M_places vM)) (C := RX5) (T := TX5) (N := 19) hx hb hts hinX5 hown hK.1 hP 0 rfl rfl 4 (by decide) hw1 (fun _ h9 => h9) rfl dX5_count_45 ?_
      obtain rfl := q_inj h
      exact hRt 48 _ _ _ dX5_count_48 hP hD hS
    have h := q_neg e2 h
    by_cases e3 : x1 = 1
    · have h := q_pos e3 h
      refine lv_tableIn (tgt := 49) (off := 41) hx hb dX5_count_8 (fun z => c1 (Or.inl z)) (fun z => c1 (Or.inr z)) (by rw [e3]; rfl) (by decide) ?_
      refine lv_aload_n hx hb dX5_count_49 rfl (lv_at hl 1 rfl) ?_
      refine va_get (D := E.1) (ci := 5) (v := .int (M_asks vM)) (C := RX5) (T := TX5) (N := 19) hx hb hts hinX5 hown hK.1 hP 0 rfl rfl 8 (by decide) hw2 (fun _ h9 => h9) rfl dX5_count_50 ?_
      obtain rfl := q_inj h
      exact hRt 53 _ _ _ dX5_count_53 hP hD hS
    have h := q_neg e3 h
    by_cases e4 : x1 = 2
    · have h := q_pos e4 h
      refine lv_tableIn (tgt := 54) (off := 46) hx hb dX5_count_8 (fun z => c1 (Or.inl z)) (fun z => c1 (Or.inr z)) (by rw [e4]; rfl) (by decide) ?_
      refine lv_aload_n hx hb dX5_count_54 rfl (lv_at hl 1 rfl) ?_
      obtain ⟨o5, e6, h⟩ := q_bind h
      refine q_ci (va_runV (As := []) (rest := []) ⟨hx, hb, hml, hown, hts⟩ (wX5_stepsOfAll l E aM (M_thrown_s vM 0) o5 e6 _) (cwV 0 hts gX5_count_X5_stepsOfAll rfl rfl rfl (by decide +kernel) ⟨Nat.le_of_ble_eq_true rfl, Nat.le_of_ble_eq_true rfl⟩) (q_preV hK hP hD q_idl 5 0 rfl rfl) rfl rfl hl.1 rfl (lv_room (Nat.le_of_ble_eq_true rfl)) dX5_count_55 ⟨Nat.zero_le _, Nat.zero_le _⟩) hP hD hS hA q_idl q_idr (fun H locs hP hD hS => ?_)
      obtain rfl := q_inj h
      exact hRt 58 _ _ _ dX5_count_58 hP hD hS
    have h := q_neg e4 h
    by_cases e7 : x1 = 3
    · have h := q_pos e7 h
      refine lv_tableIn (tgt := 59) (off := 51) hx hb dX5_count_8 (fun z => c1 (Or.inl z)) (fun z => c1 (Or.inr z)) (by rw [e7]; rfl) (by decide) ?_
      refine lv_iconst (v := 0) hx hb dX5_count_59 (by decide) ?_
      refine lv_istore_n (lv' := [(3, .int 0), (2, .int 0), (0, .ref (aM 0)), (1, .int x1)]) hx hb dX5_count_60 rfl hl (by decide) rfl (fun ls hl => ?_)
      obtain ⟨o35, e36, h⟩ := q_bind h
      refine L61 (M_thrown_s vM 0) 0 0 qFU _ _ _ hP hD hS (lv_sub hl [2, 1, 0] rfl) o35 e36 (fun H locs ls hP hD hS hl => ?_)
      refine lv_iload_n hx hb dX5_count_99 rfl (lv_at hl 0 rfl) ?_
      obtain rfl := q_inj h
      exact hRt 100 _ _ _ dX5_count_100 hP hD hS
    have h := q_neg e7 h
    by_cases e38 : x1 = 4
    · have h := q_pos e38 h
      refine lv_tableIn (tgt := 101) (off := 93) hx hb dX5_count_8 (fun z => c1 (Or.inl z)) (fun z => c1 (Or.inr z)) (by rw [e38]; rfl) (by decide) ?_
      refine lv_aload_n hx hb dX5_count_101 rfl (lv_at hl 1 rfl) ?_
      refine lv_iconst (v := (-1)) hx hb dX5_count_102 (by decide) ?_
      obtain ⟨o39, e40, h⟩ := q_bind h
      refine q_ci (va_runV (As := [.int (-1)]) (rest := []) ⟨hx, hb, hml, hown, hts⟩ (wX5_plays l E aM (M_thrown_s vM 0) (-1) o39 e40 _) (cwV 1 hts gX5_count_X5_plays rfl rfl rfl (by decide +kernel) ⟨Nat.le_of_ble_eq_true rfl, Nat.le_of_ble_eq_true rfl⟩) (q_preV hK hP hD q_idl 5 0 rfl rfl) rfl rfl hl.1 rfl (lv_room (Nat.le_of_ble_eq_true rfl)) dX5_count_103 ⟨Nat.zero_le _, Nat.zero_le _⟩) hP hD hS hA q_idl q_idr (fun H locs hP hD hS => ?_)
      obtain rfl := q_inj h
      exact hRt 106 _ _ _ dX5_count_106 hP hD hS
    have h := q_neg e38 h
    cases h
