def mX5_isAhead (vM : SM) (x1 : Int32) (x2 : Int32) (x3 : Int32) : Option Int32 := if x3 = 1 then (ck x1 300 (ck x2 300 (if ((M_came vM) (Int32.toNatClampNeg x1)) = ((M_came vM) (Int32.toNatClampNeg x2)) then (if x3 = 2 then (ck x1 300 (ck x2 300 (if ((M_pWork vM) (Int32.toNatClampNeg x1)) = ((M_pWork vM) (Int32.toNatClampNeg x2)) then (if x3 = 3 then (ck (x1 / 5) 60 (ck (x2 / 5) 60 (if ((M_kind vM) (Int32.toNatClampNeg (x1 / 5))) = ((M_kind vM) (Int32.toNatClampNeg (x2 / 5))) then (ck x1 300 (ck x2 300 (if ((M_came vM) (Int32.toNatClampNeg x1)) = ((M_came vM) (Int32.toNatClampNeg x2)) then (if x2 ≤ x1 then (some 0) else (some 1)) else (ck x1 300 (ck x2 300 (if ((M_came vM) (Int32.toNatClampNeg x2)) ≤ ((M_came vM) (Int32.toNatClampNeg x1)) then (some 0) else (some 1))))))) else (ck (x1 / 5) 60 (ck (x2 / 5) 60 (if ((M_kind vM) (Int32.toNatClampNeg (x2 / 5))) ≤ ((M_kind vM) (Int32.toNatClampNeg (x1 / 5))) then (some 0) else (some 1))))))) else (ck x1 300 (ck x2 300 (if ((M_came vM) (Int32.toNatClampNeg x1)) = ((M_came vM) (Int32.toNatClampNeg x2)) then (if x2 ≤ x1 then (some 0) else (some 1)) else (ck x1 300 (ck x2 300 (if ((M_came vM) (Int32.toNatClampNeg x2)) ≤ ((M_came vM) (Int32.toNatClampNeg x1)) then (some 0) else (some 1)))))))) else (ck x1 300 (ck x2 300 (if ((M_pWork vM) (Int32.toNatClampNeg x2)) ≤ ((M_pWork vM) (Int32.toNatClampNeg x1)) then (some 0) else (some 1))))))) else (if x3 = 3 then (ck (x1 / 5) 60 (ck (x2 / 5) 60 (if ((M_kind vM) (Int32.toNatClampNeg (x1 / 5))) = ((M_kind vM) (Int32.toNatClampNeg (x2 / 5))) then (ck x1 300 (ck x2 300 (if ((M_came vM) (Int32.toNatClampNeg x1)) = ((M_came vM) (Int32.toNatClampNeg x2)) then (if x2 ≤ x1 then (some 0) else (some 1)) else (ck x1 300 (ck x2 300 (if ((M_came vM) (Int32.toNatClampNeg x2)) ≤ ((M_came vM) (Int32.toNatClampNeg x1)) then (some 0) else (some 1))))))) else (ck (x1 / 5) 60 (ck (x2 / 5) 60 (if ((M_kind vM) (Int32.toNatClampNeg (x2 / 5))) ≤ ((M_kind vM) (Int32.toNatClampNeg (x1 / 5))) then (some 0) else (some 1))))))) else (ck x1 300 (ck x2 300 (if ((M_came vM) (Int32.toNatClampNeg x1)) = ((M_came vM) (Int32.toNatClampNeg x2)) then (if x2 ≤ x1 then (some 0) else (some 1)) else (ck x1 300 (ck x2 300 (if ((M_came vM) (Int32.toNatClampNeg x2)) ≤ ((M_came vM) (Int32.toNatClampNeg x1)) then (some 0) else (some 1))))))))) else (ck x1 300 (ck x2 300 (if ((M_came vM) (Int32.toNatClampNeg x1)) ≤ ((M_came vM) (Int32.toNatClampNeg x2)) then (some 0) else (some 1))))))) else (if x3 = 2 then (ck x1 300 (ck x2 300 (if ((M_pWork vM) (Int32.toNatClampNeg x1)) = ((M_pWork vM) (Int32.toNatClampNeg x2)) then (if x3 = 3 then (ck (x1 / 5) 60 (ck (x2 / 5) 60 (if ((M_kind vM) (Int32.toNatClampNeg (x1 / 5))) = ((M_kind vM) (Int32.toNatClampNeg (x2 / 5))) then (ck x1 300 (ck x2 300 (if ((M_came vM) (Int32.toNatClampNeg x1)) = ((M_came vM) (Int32.toNatClampNeg x2)) then (if x2 ≤ x1 then (some 0) else (some 1)) else (ck x1 300 (ck x2 300 (if ((M_came vM) (Int32.toNatClampNeg x2)) ≤ ((M_came vM) (Int32.toNatClampNeg x1)) then (some 0) else (some 1))))))) else (ck (x1 / 5) 60 (ck (x2 / 5) 60 (if ((M_kind vM) (Int32.toNatClampNeg (x2 / 5))) ≤ ((M_kind vM) (Int32.toNatClampNeg (x1 / 5))) then (some 0) else (some 1))))))) else (ck x1 300 (ck x2 300 (if ((M_came vM) (Int32.toNatClampNeg x1)) = ((M_came vM) (Int32.toNatClampNeg x2)) then (if x2 ≤ x1 then (some 0) else (some 1)) else (ck x1 300 (ck x2 300 (if ((M_came vM) (Int32.toNatClampNeg x2)) ≤ ((M_came vM) (Int32.toNatClampNeg x1)) then (some 0) else (some 1)))))))) else (ck x1 300 (ck x2 300 (if ((M_pWork vM) (Int32.toNatClampNeg x2)) ≤ ((M_pWork vM) (Int32.toNatClampNeg x1)) then (some 0) else (some 1))))))) else (if x3 = 3 then (ck (x1 / 5) 60 (ck (x2 / 5) 60 (if ((M_kind vM) (Int32.toNatClampNeg (x1 / 5))) = ((M_kind vM) (Int32.toNatClampNeg (x2 / 5))) then (ck x1 300 (ck x2 300 (if ((M_came vM) (Int32.toNatClampNeg x1)) = ((M_came vM) (Int32.toNatClampNeg x2)) then (if x2 ≤ x1 then (some 0) else (some 1)) else (ck x1 300 (ck x2 300 (if ((M_came vM) (Int32.toNatClampNeg x2)) ≤ ((M_came vM) (Int32.toNatClampNeg x1)) then (some 0) else (some 1))))))) else (ck (x1 / 5) 60 (ck (x2 / 5) 60 (if ((M_kind vM) (Int32.toNatClampNeg (x2 / 5))) ≤ ((M_kind vM) (Int32.toNatClampNeg (x1 / 5))) then (some 0) else (some 1))))))) else (ck x1 300 (ck x2 300 (if ((M_came vM) (Int32.toNatClampNeg x1)) = ((M_came vM) (Int32.toNatClampNeg x2)) then (if x2 ≤ x1 then (some 0) else (some 1)) else (ck x1 300 (ck x2 300 (if ((M_came vM) (Int32.toNatClampNeg x2)) ≤ ((M_came vM) (Int32.toNatClampNeg x1)) then (some 0) else (some 1)))))))))
def rmX5_isAhead : Room := { frames := 0, cells := 0, slots := 0, locals := 0 }
set_option maxHeartbeats 8000000 in
set_option maxRecDepth 100000 in
theorem wX5_isAhead (l : Launch) (E : qE) (aM : Nat → Nat) (vM : SM) (x1 : Int32) (x2 : Int32) (x3 : Int32) (o : Int32) (h : mX5_isAhead vM x1 x2 x3 = some o) : MI l E yX5_isAhead wsX5_isAhead rmX5_isAhead [.ref (aM 0), .int x1, .int x2, .int x3] (WM E aM vM) (WM E aM vM) o := by
  refine q_startZ (cc := cX5_isAhead) (maxL := 4) (by decide) rfl (Nat.le_of_ble_eq_true rfl) ?_
  intro pr e s m args below meth c A Q hx hb hml hown hts hK hRt hP hD hA hS ls hl
  have hl : lv_has ls 4 [(0, .ref (aM 0)), (1, .int x1), (2, .int x2), (3, .int x3)] := hl
  have hinX5 : ∀ w ∈ wsX50, w ∈ wsX5_isAhead := by decide +kernel
  have hw0 := hts (.fieldLink RX5 44 "QueueReaderModel" "came" "[I") (by decide +kernel)
  have hw1 := hts (.fieldLink RX5 19 "QueueReaderModel" "kind" "[I") (by decide +kernel)
  have hw2 := hts (.fieldLink RX5 56 "QueueReaderModel" "pWork" "[I") (by decide +kernel)
  unfold mX5_isAhead at h
  refine lv_iload_n hx hb dX5_isAhead_0 rfl (lv_at hl 3 rfl) ?_
  refine lv_iconst (v := 1) hx hb dX5_isAhead_1 (by decide) ?_
  refine lv_icmp_ne (tgt := 41) hx hb dX5_isAhead_2 (by decide) (fun c1 => ?_) (fun c1 => ?_)
  · have h := q_neg c1 h
    refine lv_iload_n hx hb dX5_isAhead_41 rfl (lv_at hl 3 rfl) ?_
    refine lv_iconst (v := 2) hx hb dX5_isAhead_42 (by decide) ?_
    refine lv_icmp_ne (tgt := 82) hx hb dX5_isAhead_43 (by decide) (fun c2 => ?_) (fun c2 => ?_)
    · have h := q_neg c2 h
      refine lv_iload_n hx hb dX5_isAhead_82 rfl (lv_at hl 3 rfl) ?_
      refine lv_iconst (v := 3) hx hb dX5_isAhead_83 (by decide) ?_
      refine lv_icmp_ne (tgt := 131) hx hb dX5_isAhead_84 (by decide) (fun c3 => ?_) (fun c3 => ?_)
      · have h := q_neg c3 h
        refine lv_aload_n hx hb dX5_isAhead_131 rfl (lv_at hl 0 rfl) ?_
        refine va_get (D := E.1) (ci := 5) (v := .ref (aM 12)) (C := RX5) (T := TX5) (N := 19) hx hb hts hinX5 hown hK.1 hP 0 rfl rfl 14 (by decide) hw0 (fun _ h9 => h9) rfl dX5_isAhead_132 ?_
        refine lv_iload_n hx hb dX5_isAhead_135 rfl (lv_at hl 1 rfl) ?_
        obtain ⟨i4, h⟩ := q_ck h
        refine va_iald (f := (M_came vM)) hx hb hK.1 hP 12 0 rfl rfl i4 dX5_isAhead_136 ?_
        refine lv_aload_n hx hb dX5_isAhead_137 rfl (lv_at hl 0 rfl) ?_
        refine va_get (D := E.1) (ci := 5) (v := .ref (aM 12)) (C := RX5) (T := TX5) (N := 19) hx hb hts hinX5 hown hK.1 hP 0 rfl rfl 14 (by decide) hw0 (fun _ h9 => h9) rfl dX5_isAhead_138 ?_
        refine lv_iload_n hx hb dX5_isAhead_141 rfl (lv_at hl 2 rfl) ?_
        obtain ⟨i5, h⟩ := q_ck h
        refine va_iald (f := (M_came vM)) hx hb hK.1 hP 12 0 rfl rfl i5 dX5_isAhead_142 ?_
        refine lv_icmp_eq (tgt := 169) hx hb dX5_isAhead_143 (by decide) (fun c6 => ?_) (fun c6 => ?_)
        · have h := q_pos c6 h
          refine lv_iload_n hx hb dX5_isAhead_169 rfl (lv_at hl 1 rfl) ?_
          refine lv_iload_n hx hb dX5_isAhead_170 rfl (lv_at hl 2 rfl) ?_
          refine lv_icmp_ge (tgt := 178) hx hb dX5_isAhead_171 (by decide) (fun c7 => ?_) (fun c7 => ?_)
          · have h := q_pos c7 h
            refine lv_iconst (v := 0) hx hb dX5_isAhead_178 (by decide) ?_
            obtain rfl := q_inj h
            exact hRt 179 _ _ _ dX5_isAhead_179 q_n0 hP hD hS
          · have h := q_neg c7 h
            refine lv_iconst (v := 1) hx hb dX5_isAhead_174 (by decide) ?_
            refine lv_goto (tgt := 179) hx hb dX5_isAhead_175 (by decide) ?_
            obtain rfl := q_inj h
            exact hRt 179 _ _ _ dX5_isAhead_179 q_n1 hP hD hS
        · have h := q_neg c6 h
          refine lv_aload_n hx hb dX5_isAhead_146 rfl (lv_at hl 0 rfl) ?_
          refine va_get (D := E.1) (ci := 5) (v := .ref (aM 12)) (C := RX5) (T := TX5) (N := 19) hx hb hts hinX5 hown hK.1 hP 0 rfl rfl 14 (by decide) hw0 (fun _ h9 => h9) rfl dX5_isAhead_147 ?_
          refine lv_iload_n hx hb dX5_isAhead_150 rfl (lv_at hl 1 rfl) ?_
          obtain ⟨i8, h⟩ := q_ck h
          refine va_iald (f := (M_came vM)) hx hb hK.1 hP 12 0 rfl rfl i8 dX5_isAhead_151 ?_
          refine lv_aload_n hx hb dX5_isAhead_152 rfl (lv_at hl 0 rfl) ?_
          refine va_get (D := E.1) (ci := 5) (v := .ref (aM 12)) (C := RX5) (T := TX5) (N := 19) hx hb hts hinX5 hown hK.1 hP 0 rfl rfl 14 (by decide) hw0 (fun _ h9 => h9) rfl dX5_isAhead_153 ?_
          refine lv_iload_n hx hb dX5_isAhead_156 rfl (lv_at hl 2 rfl) ?_
          obtain ⟨i9, h⟩ := q_ck h
          refine va_iald (f := (M_came vM)) hx hb hK.1 hP 12 0 rfl rfl i9 dX5_isAhead_157 ?_
          refine lv_icmp_ge (tgt := 165) hx hb dX5_isAhead_158 (by decide) (fun c10 => ?_) (fun c10 => ?_)
          · have h := q_pos c10 h
            refine lv_iconst (v := 0) hx hb dX5_isAhead_165 (by decide) ?_
            refine lv_goto (tgt := 179) hx hb dX5_isAhead_166 (by decide) ?_
            obtain rfl := q_inj h
            exact hRt 179 _ _ _ dX5_isAhead_179 q_n0 hP hD hS
          · have h := q_neg c10 h
            refine lv_iconst (v := 1) hx hb dX5_isAhead_161 (by decide) ?_
            refine lv_goto (tgt := 179) hx hb dX5_isAhead_162 (by decide) ?_
            obtain rfl := q_inj h
            exact hRt 179 _ _ _ dX5_isAhead_179 q_n1 hP hD hS
      · have h := q_pos c3 h
        refine lv_aload_n hx hb dX5_isAhead_87 rfl (lv_at hl 0 rfl) ?_
        refine va_get (D := E.1) (ci := 5) (v := .ref (aM 4)) (C := RX5) (T := TX5) (N := 19) hx hb hts hinX5 hown hK.1 hP 0 rfl rfl 5 (by decide) hw1 (fun _ h9 => h9) rfl dX5_isAhead_88 ?_
        refine lv_iload_n hx hb dX5_isAhead_91 rfl (lv_at hl 1 rfl) ?_
        refine lv_iconst (v := 5) hx hb dX5_isAhead_92 (by decide) ?_
        refine lv_idiv hx hb dX5_isAhead_93 (by decide) ?_
        obtain ⟨i11, h⟩ := q_ck h
        refine va_iald (f := (M_kind vM)) hx hb hK.1 hP 4 0 rfl rfl i11 dX5_isAhead_94 ?_
        refine lv_aload_n hx hb dX5_isAhead_95 rfl (lv_at hl 0 rfl) ?_
        refine va_get (D := E.1) (ci := 5) (v := .ref (aM 4)) (C := RX5) (T := TX5) (N := 19) hx hb hts hinX5 hown hK.1 hP 0 rfl rfl 5 (by decide) hw1 (fun _ h9 => h9) rfl dX5_isAhead_96 ?_
        refine lv_iload_n hx hb dX5_isAhead_99 rfl (lv_at hl 2 rfl) ?_
        refine lv_iconst (v := 5) hx hb dX5_isAhead_100 (by decide) ?_
        refine lv_idiv hx hb dX5_isAhead_101 (by decide) ?_
        obtain ⟨i12, h⟩ := q_ck h
        refine va_iald (f := (M_kind vM)) hx hb hK.1 hP 4 0 rfl rfl i12 dX5_isAhead_102 ?_
        refine lv_icmp_eq (tgt := 131) hx hb dX5_isAhead_103 (by decide) (fun c13 => ?_) (fun c13 => ?_)
        · have h := q_pos c13 h
          refine lv_aload_n hx hb dX5_isAhead_131 rfl (lv_at hl 0 rfl) ?_
          refine va_get (D := E.1) (ci := 5) (v := .ref (aM 12)) (C := RX5) (T := TX5) (N := 19) hx hb hts hinX5 hown hK.1 hP 0 rfl rfl 14 (by decide) hw0 (fun _ h9 => h9) rfl dX5_isAhead_132 ?_
          refine lv_iload_n hx hb dX5_isAhead_135 rfl (lv_at hl 1 rfl) ?_
          obtain ⟨i14, h⟩ := q_ck h
          refine va_iald (f := (M_came vM)) hx hb hK.1 hP 12 0 rfl rfl i14 dX5_isAhead_136 ?_
          refine lv_aload_n hx hb dX5_isAhead_137 rfl (lv_at hl 0 rfl) ?_
          refine va_get (D := E.1) (ci := 5) (v := .ref (aM 12)) (C := RX5) (T := TX5) (N := 19) hx hb hts hinX5 hown hK.1 hP 0 rfl rfl 14 (by decide) hw0 (fun _ h9 => h9) rfl dX5_isAhead_138 ?_
          refine lv_iload_n hx hb dX5_isAhead_141 rfl (lv_at hl 2 rfl) ?_
          obtain ⟨i15, h⟩ := q_ck h
          refine va_iald (f := (M_came vM)) hx hb hK.1 hP 12 0 rfl rfl i15 dX5_isAhead_142 ?_
          refine lv_icmp_eq (tgt := 169) hx hb dX5_isAhead_143 (by decide) (fun c16 => ?_) (fun c16 => ?_)
          · have h := q_pos c16 h
            refine lv_iload_n hx hb dX5_isAhead_169 rfl (lv_at hl 1 rfl) ?_
            refine lv_iload_n hx hb dX5_isAhead_170 rfl (lv_at hl 2 rfl) ?_
            refine lv_icmp_ge (tgt := 178) hx hb dX5_isAhead_171 (by decide) (fun c17 => ?_) (fun c17 => ?_)
            · have h := q_pos c17 h
              refine lv_iconst (v := 0) hx hb dX5_isAhead_178 (by decide) ?_
              obtain rfl := q_inj h
              exact hRt 179 _ _ _ dX5_isAhead_179 q_n0 hP hD hS
            · have h := q_neg c17 h
              refine lv_iconst (v := 1) hx hb dX5_isAhead_174 (by decide) ?_
              refine lv_goto (tgt := 179) hx hb dX5_isAhead_175 (by decide) ?_
              obtain rfl := q_inj h
              exact hRt 179 _ _ _ dX5_isAhead_179 q_n1 hP hD hS
          · have h := q_neg c16 h
            refine lv_aload_n hx hb dX5_isAhead_146 rfl (lv_at hl 0 rfl) ?_
            refine va_get (D := E.1) (ci := 5) (v := .ref (aM 12)) (C := RX5) (T := TX5) (N := 19) hx hb hts hinX5 hown hK.1 hP 0 rfl rfl 14 (by decide) hw0 (fun _ h9 => h9) rfl dX5_isAhead_147 ?_
            refine lv_iload_n hx hb dX5_isAhead_150 rfl (lv_at hl 1 rfl) ?_
            obtain ⟨i18, h⟩ := q_ck h
            refine va_iald (f := (M_came vM)) hx hb hK.1 hP 12 0 rfl rfl i18 dX5_isAhead_151 ?_
            refine lv_aload_n hx hb dX5_isAhead_152 rfl (lv_at hl 0 rfl) ?_
            refine va_get (D := E.1) (ci := 5) (v := .ref (aM 12)) (C := RX5) (T := TX5) (N := 19) hx hb hts hinX5 hown hK.1 hP 0 rfl rfl 14 (by decide) hw0 (fun _ h9 => h9) rfl dX5_isAhead_153 ?_
            refine lv_iload_n hx hb dX5_isAhead_156 rfl (lv_at hl 2 rfl) ?_
            obtain ⟨i19, h⟩ := q_ck h
            refine va_iald (f := (M_came vM)) hx hb hK.1 hP 12 0 rfl rfl i19 dX5_isAhead_157 ?_
            refine lv_icmp_ge (tgt := 165) hx hb dX5_isAhead_158 (by decide) (fun c20 => ?_) (fun c20 => ?_)
            · have h := q_pos c20 h
              refine lv_iconst (v := 0) hx hb dX5_isAhead_165 (by decide) ?_
              refine lv_goto (tgt := 179) hx hb dX5_isAhead_166 (by decide) ?_
              obtain rfl := q_inj h
              exact hRt 179 _ _ _ dX5_isAhead_179 q_n0 hP hD hS
            · have h := q_neg c20 h
              refine lv_iconst (v := 1) hx hb dX5_isAhead_161 (by decide) ?_
              refine lv_goto (tgt := 179) hx hb dX5_isAhead_162 (by decide) ?_
              obtain rfl := q_inj h
              exact hRt 179 _ _ _ dX5_isAhead_179 q_n1 hP hD hS
        · have h := q_neg c13 h
          refine lv_aload_n hx hb dX5_isAhead_106 rfl (lv_at hl 0 rfl) ?_
          refine va_get (D := E.1) (ci := 5) (v := .ref (aM 4)) (C := RX5) (T := TX5) (N := 19) hx hb hts hinX5 hown hK.1 hP 0 rfl rfl 5 (by decide) hw1 (fun _ h9 => h9) rfl dX5_isAhead_107 ?_
          refine lv_iload_n hx hb dX5_isAhead_110 rfl (lv_at hl 1 rfl) ?_
          refine lv_iconst (v := 5) hx hb dX5_isAhead_111 (by decide) ?_
          refine lv_idiv hx hb dX5_isAhead_112 (by decide) ?_
          obtain ⟨i21, h⟩ := q_ck h
          refine va_iald (f := (M_kind vM)) hx hb hK.1 hP 4 0 rfl rfl i21 dX5_isAhead_113 ?_
          refine lv_aload_n hx hb dX5_isAhead_114 rfl (lv_at hl 0 rfl) ?_
          refine va_get (D := E.1) (ci := 5) (v := .ref (aM 4)) (C := RX5) (T := TX5) (N := 19) hx hb hts hinX5 hown hK.1 hP 0 rfl rfl 5 (by decide) hw1 (fun _ h9 => h9) rfl dX5_isAhead_115 ?_
          refine lv_iload_n hx hb dX5_isAhead_118 rfl (lv_at hl 2 rfl) ?_
          refine lv_iconst (v := 5) hx hb dX5_isAhead_119 (by decide) ?_
          refine lv_idiv hx hb dX5_isAhead_120 (by decide) ?_
          obtain ⟨i22, h⟩ := q_ck h
          refine va_iald (f := (M_kind vM)) hx hb hK.1 hP 4 0 rfl rfl i22 dX5_isAhead_121 ?_
          refine lv_icmp_ge (tgt := 129) hx hb dX5_isAhead_122 (by decide) (fun c23 => ?_) (fun c23 => ?_)
          · have h := q_pos c23 h
            refine lv_iconst (v := 0) hx hb dX5_isAhead_129 (by decide) ?_
            obtain rfl := q_inj h
            exact hRt 130 _ _ _ dX5_isAhead_130 q_n0 hP hD hS
          · have h := q_neg c23 h
            refine lv_iconst (v := 1) hx hb dX5_isAhead_125 (by decide) ?_
            refine lv_goto (tgt := 130) hx hb dX5_isAhead_126 (by decide) ?_
            obtain rfl := q_inj h
            exact hRt 130 _ _ _ dX5_isAhead_130 q_n1 hP hD hS
    · have h := q_pos c2 h
      refine lv_aload_n hx hb dX5_isAhead_46 rfl (lv_at hl 0 rfl) ?_
      refine va_get (D := E.1) (ci := 5) (v := .ref (aM 16)) (C := RX5) (T := TX5) (N := 19) hx hb hts hinX5 hown hK.1 hP 0 rfl rfl 18 (by decide) hw2 (fun _ h9 => h9) rfl dX5_isAhead_47 ?_
      refine lv_iload_n hx hb dX5_isAhead_50 rfl (lv_at hl 1 rfl) ?_
      obtain ⟨i24, h⟩ := q_ck h
      refine va_iald (f := (M_pWork vM)) hx hb hK.1 hP 16 0 rfl rfl i24 dX5_isAhead_51 ?_
      refine lv_aload_n hx hb dX5_isAhead_52 rfl (lv_at hl 0 rfl) ?_
      refine va_get (D := E.1) (ci := 5) (v := .ref (aM 16)) (C := RX5) (T := TX5) (N := 19) hx hb hts hinX5 hown hK.1 hP 0 rfl rfl 18 (by decide) hw2 (fun _ h9 => h9) rfl dX5_isAhead_53 ?_
      refine lv_iload_n hx hb dX5_isAhead_56 rfl (lv_at hl 2 rfl) ?_
      obtain ⟨i25, h⟩ := q_ck h
      refine va_iald (f := (M_pWork vM)) hx hb hK.1 hP 16 0 rfl rfl i25 dX5_isAhead_57 ?_
      refine lv_icmp_eq (tgt := 82) hx hb dX5_isAhead_58 (by decide) (fun c26 => ?_) (fun c26 => ?_)
      · have h := q_pos c26 h
        refine lv_iload_n hx hb dX5_isAhead_82 rfl (lv_at hl 3 rfl) ?_
        refine lv_iconst (v := 3) hx hb dX5_isAhead_83 (by decide) ?_
        refine lv_icmp_ne (tgt := 131) hx hb dX5_isAhead_84 (by decide) (fun c27 => ?_) (fun c27 => ?_)
        · have h := q_neg c27 h
          refine lv_aload_n hx hb dX5_isAhead_131 rfl (lv_at hl 0 rfl) ?_
          refine va_get (D := E.1) (ci := 5) (v := .ref (aM 12)) (C := RX5) (T := TX5) (N := 19) hx hb hts hinX5 hown hK.1 hP 0 rfl rfl 14 (by decide) hw0 (fun _ h9 => h9) rfl dX5_isAhead_132 ?_
          refine lv_iload_n hx hb dX5_isAhead_135 rfl (lv_at hl 1 rfl) ?_
          obtain ⟨i28, h⟩ := q_ck h
          refine va_iald (f := (M_came vM)) hx hb hK.1 hP 12 0 rfl rfl i28 dX5_isAhead_136 ?_
          refine lv_aload_n hx hb dX5_isAhead_137 rfl (lv_at hl 0 rfl) ?_
          refine va_get (D := E.1) (ci := 5) (v := .ref (aM 12)) (C := RX5) (T := TX5) (N := 19) hx hb hts hinX5 hown hK.1 hP 0 rfl rfl 14 (by decide) hw0 (fun _ h9 => h9) rfl dX5_isAhead_138 ?_
          refine lv_iload_n hx hb dX5_isAhead_141 rfl (lv_at hl 2 rfl) ?_
          obtain ⟨i29, h⟩ := q_ck h
          refine va_iald (f := (M_came vM)) hx hb hK.1 hP 12 0 rfl rfl i29 dX5_isAhead_142 ?_
          refine lv_icmp_eq (tgt := 169) hx hb dX5_isAhead_143 (by decide) (fun c30 => ?_) (fun c30 => ?_)
          · have h := q_pos c30 h
            refine lv_iload_n hx hb dX5_isAhead_169 rfl (lv_at hl 1 rfl) ?_
            refine lv_iload_n hx hb dX5_isAhead_170 rfl (lv_at hl 2 rfl) ?_
            refine lv_icmp_ge (tgt := 178) hx hb dX5_isAhead_171 (by decide) (fun c31 => ?_) (fun c31 => ?_)
            · have h := q_pos c31 h
              refine lv_iconst (v := 0) hx hb dX5_isAhead_178 (by decide) ?_
              obtain rfl := q_inj h
              exact hRt 179 _ _ _ dX5_isAhead_179 q_n0 hP hD hS
            · have h := q_neg c31 h
              refine lv_iconst (v := 1) hx hb dX5_isAhead_174 (by decide) ?_
              refine lv_goto (tgt := 179) hx hb dX5_isAhead_175 (by decide) ?_
              obtain rfl := q_inj h
              exact hRt 179 _ _ _ dX5_isAhead_179 q_n1 hP hD hS
          · have h := q_neg c30 h
            refine lv_aload_n hx hb dX5_isAhead_146 rfl (lv_at hl 0 rfl) ?_
            refine va_get (D := E.1) (ci := 5) (v := .ref (aM 12)) (C := RX5) (T := TX5) (N := 19) hx hb hts hinX5 hown hK.1 hP 0 rfl rfl 14 (by decide) hw0 (fun _ h9 => h9) rfl dX5_isAhead_147 ?_
            refine lv_iload_n hx hb dX5_isAhead_150 rfl (lv_at hl 1 rfl) ?_
            obtain ⟨i32, h⟩ := q_ck h
            refine va_iald (f := (M_came vM)) hx hb hK.1 hP 12 0 rfl rfl i32 dX5_isAhead_151 ?_
            refine lv_aload_n hx hb dX5_isAhead_152 rfl (lv_at hl 0 rfl) ?_
            refine va_get (D := E.1) (ci := 5) (v := .ref (aM 12)) (C := RX5) (T := TX5) (N := 19) hx hb hts hinX5 hown hK.1 hP 0 rfl rfl 14 (by decide) hw0 (fun _ h9 => h9) rfl dX5_isAhead_153 ?_
            refine lv_iload_n hx hb dX5_isAhead_156 rfl (lv_at hl 2 rfl) ?_
            obtain ⟨i33, h⟩ := q_ck h
            refine va_iald (f := (M_came vM)) hx hb hK.1 hP 12 0 rfl rfl i33 dX5_isAhead_157 ?_
            refine lv_icmp_ge (tgt := 165) hx hb dX5_isAhead_158 (by decide) (fun c34 => ?_) (fun c34 => ?_)
            · have h := q_pos c34 h
              refine lv_iconst (v := 0) hx hb dX5_isAhead_165 (by decide) ?_
              refine lv_goto (tgt := 179) hx hb dX5_isAhead_166 (by decide) ?_
              obtain rfl := q_inj h
              exact hRt 179 _ _ _ dX5_isAhead_179 q_n0 hP hD hS
            · have h := q_neg c34 h
              refine lv_iconst (v := 1) hx hb dX5_isAhead_161 (by decide) ?_
              refine lv_goto (tgt := 179) hx hb dX5_isAhead_162 (by decide) ?_
              obtain rfl := q_inj h
              exact hRt 179 _ _ _ dX5_isAhead_179 q_n1 hP hD hS
        · have h := q_pos c27 h
          refine lv_aload_n hx hb dX5_isAhead_87 rfl (lv_at hl 0 rfl) ?_
          refine va_get (D := E.1) (ci := 5) (v := .ref (aM 4)) (C := RX5) (T := TX5) (N := 19) hx hb hts hinX5 hown hK.1 hP 0 rfl rfl 5 (by decide) hw1 (fun _ h9 => h9) rfl dX5_isAhead_88 ?_
          refine lv_iload_n hx hb dX5_isAhead_91 rfl (lv_at hl 1 rfl) ?_
          refine lv_iconst (v := 5) hx hb dX5_isAhead_92 (by decide) ?_
          refine lv_idiv hx hb dX5_isAhead_93 (by decide) ?_
          obtain ⟨i35, h⟩ := q_ck h
          refine va_iald (f := (M_kind vM)) hx hb hK.1 hP 4 0 rfl rfl i35 dX5_isAhead_94 ?_
          refine lv_aload_n hx hb dX5_isAhead_95 rfl (lv_at hl 0 rfl) ?_
          refine va_get (D := E.1) (ci := 5) (v := .ref (aM 4)) (C := RX5) (T := TX5) (N := 19) hx hb hts hinX5 hown hK.1 hP 0 rfl rfl 5 (by decide) hw1 (fun _ h9 => h9) rfl dX5_isAhead_96 ?_
          refine lv_iload_n hx hb dX5_isAhead_99 rfl (lv_at hl 2 rfl) ?_
          refine lv_iconst (v := 5) hx hb dX5_isAhead_100 (by decide) ?_
          refine lv_idiv hx hb dX5_isAhead_101 (by decide) ?_
          obtain ⟨i36, h⟩ := q_ck h
          refine va_iald (f := (M_kind vM)) hx hb hK.1 hP 4 0 rfl rfl i36 dX5_isAhead_102 ?_
          refine lv_icmp_eq (tgt := 131) hx hb dX5_isAhead_103 (by decide) (fun c37 => ?_) (fun c37 => ?_)
          · have h := q_pos c37 h
            refine lv_aload_n hx hb dX5_isAhead_131 rfl (lv_at hl 0 rfl) ?_
            refine va_get (D := E.1) (ci := 5) (v := .ref (aM 12)) (C := RX5) (T := TX5) (N := 19) hx hb hts hinX5 hown hK.1 hP 0 rfl rfl 14 (by decide) hw0 (fun _ h9 => h9) rfl dX5_isAhead_132 ?_
            refine lv_iload_n hx hb dX5_isAhead_135 rfl (lv_at hl 1 rfl) ?_
            obtain ⟨i38, h⟩ := q_ck h
            refine va_iald (f := (M_came vM)) hx hb hK.1 hP 12 0 rfl rfl i38 dX5_isAhead_136 ?_
            refine lv_aload_n hx hb dX5_isAhead_137 rfl (lv_at hl 0 rfl) ?_
            refine va_get (D := E.1) (ci := 5) (v := .ref (aM 12)) (C := RX5) (T := TX5) (N := 19) hx hb hts hinX5 hown hK.1 hP 0 rfl rfl 14 (by decide) hw0 (fun _ h9 => h9) rfl dX5_isAhead_138 ?_
            refine lv_iload_n hx hb dX5_isAhead_141 rfl (lv_at hl 2 rfl) ?_
            obtain ⟨i39, h⟩ := q_ck h
            refine va_iald (f := (M_came vM)) hx hb hK.1 hP 12 0 rfl rfl i39 dX5_isAhead_142 ?_
            refine lv_icmp_eq (tgt := 169) hx hb dX5_isAhead_143 (by decide) (fun c40 => ?_) (fun c40 => ?_)
            · have h := q_pos c40 h
              refine lv_iload_n hx hb dX5_isAhead_169 rfl (lv_at hl 1 rfl) ?_
              refine lv_iload_n hx hb dX5_isAhead_170 rfl (lv_at hl 2 rfl) ?_
              refine lv_icmp_ge (tgt := 178) hx hb dX5_isAhead_171 (by decide) (fun c41 => ?_) (fun c41 => ?_)
              · have h := q_pos c41 h
                refine lv_iconst (v := 0) hx hb dX5_isAhead_178 (by decide) ?_
                obtain rfl := q_inj h
                exact hRt 179 _ _ _ dX5_isAhead_179 q_n0 hP hD hS
              · have h := q_neg c41 h
                refine lv_iconst (v := 1) hx hb dX5_isAhead_174 (by decide) ?_
                refine lv_goto (tgt := 179) hx hb dX5_isAhead_175 (by decide) ?_
                obtain rfl := q_inj h
                exact hRt 179 _ _ _ dX5_isAhead_179 q_n1 hP hD hS
            · have h := q_neg c40 h
              refine lv_aload_n hx hb dX5_isAhead_146 rfl (lv_at hl 0 rfl) ?_
              refine va_get (D := E.1) (ci := 5) (v := .ref (aM 12)) (C := RX5) (T := TX5) (N := 19) hx hb hts hinX5 hown hK.1 hP 0 rfl rfl 14 (by decide) hw0 (fun _ h9 => h9) rfl dX5_isAhead_147 ?_
              refine lv_iload_n hx hb dX5_isAhead_150 rfl (lv_at hl 1 rfl) ?_
              obtain ⟨i42, h⟩ := q_ck h
              refine va_iald (f := (M_came vM)) hx hb hK.1 hP 12 0 rfl rfl i42 dX5_isAhead_151 ?_
              refine lv_aload_n hx hb dX5_isAhead_152 rfl (lv_at hl 0 rfl) ?_
              refine va_get (D := E.1) (ci := 5) (v := .ref (aM 12)) (C := RX5) (T := TX5) (N := 19) hx hb hts hinX5 hown hK.1 hP 0 rfl rfl 14 (by decide) hw0 (fun _ h9 => h9) rfl dX5_isAhead_153 ?_
              refine lv_iload_n hx hb dX5_isAhead_156 rfl (lv_at hl 2 rfl) ?_
              obtain ⟨i43, h⟩ := q_ck h
              refine va_iald (f := (M_came vM)) hx hb hK.1 hP 12 0 rfl rfl i43 dX5_isAhead_157 ?_
              refine lv_icmp_ge (tgt := 165) hx hb dX5_isAhead_158 (by decide) (fun c44 => ?_) (fun c44 => ?_)
              · have h := q_pos c44 h
                refine lv_iconst (v := 0) hx hb dX5_isAhead_165 (by decide) ?_
                refine lv_goto (tgt := 179) hx hb dX5_isAhead_166 (by decide) ?_
                obtain rfl := q_inj h
                exact hRt 179 _ _ _ dX5_isAhead_179 q_n0 hP hD hS
              · have h := q_neg c44 h
                refine lv_iconst (v := 1) hx hb dX5_isAhead_161 (by decide) ?_
                refine lv_goto (tgt := 179) hx hb dX5_isAhead_162 (by decide) ?_
                obtain rfl := q_inj h
                exact hRt 179 _ _ _ dX5_isAhead_179 q_n1 hP hD hS
          · have h := q_neg c37 h
            refine lv_aload_n hx hb dX5_isAhead_106 rfl (lv_at hl 0 rfl) ?_
            refine va_get (D := E.1) (ci := 5) (v := .ref (aM 4)) (C := RX5) (T := TX5) (N := 19) hx hb hts hinX5 hown hK.1 hP 0 rfl rfl 5 (by decide) hw1 (fun _ h9 => h9) rfl dX5_isAhead_107 ?_
            refine lv_iload_n hx hb dX5_isAhead_110 rfl (lv_at hl 1 rfl) ?_
            refine lv_iconst (v := 5) hx hb dX5_isAhead_111 (by decide) ?_
            refine lv_idiv hx hb dX5_isAhead_112 (by decide) ?_
            obtain ⟨i45, h⟩ := q_ck h
            refine va_iald (f := (M_kind vM)) hx hb hK.1 hP 4 0 rfl rfl i45 dX5_isAhead_113 ?_
            refine lv_aload_n hx hb dX5_isAhead_114 rfl (lv_at hl 0 rfl) ?_
            refine va_get (D := E.1) (ci := 5) (v := .ref (aM 4)) (C := RX5) (T := TX5) (N := 19) hx hb hts hinX5 hown hK.1 hP 0 rfl rfl 5 (by decide) hw1 (fun _ h9 => h9) rfl dX5_isAhead_115 ?_
            refine lv_iload_n hx hb dX5_isAhead_118 rfl (lv_at hl 2 rfl) ?_
            refine lv_iconst (v := 5) hx hb dX5_isAhead_119 (by decide) ?_
            refine lv_idiv hx hb dX5_isAhead_120 (by decide) ?_
            obtain ⟨i46, h⟩ := q_ck h
            refine va_iald (f := (M_kind vM)) hx hb hK.1 hP 4 0 rfl rfl i46 dX5_isAhead_121 ?_
            refine lv_icmp_ge (tgt := 129) hx hb dX5_isAhead_122 (by decide) (fun c47 => ?_) (fun c47 => ?_)
            · have h := q_pos c47 h
              refine lv_iconst (v := 0) hx hb dX5_isAhead_129 (by decide) ?_
              obtain rfl := q_inj h
              exact hRt 130 _ _ _ dX5_isAhead_130 q_n0 hP hD hS
            · have h := q_neg c47 h
              refine lv_iconst (v := 1) hx hb dX5_isAhead_125 (by decide) ?_
              refine lv_goto (tgt := 130) hx hb dX5_isAhead_126 (by decide) ?_
              obtain rfl := q_inj h
              exact hRt 130 _ _ _ dX5_isAhead_130 q_n1 hP hD hS
      · have h := q_neg c26 h
        refine lv_aload_n hx hb dX5_isAhead_61 rfl (lv_at hl 0 rfl) ?_
        refine va_get (D := E.1) (ci := 5) (v := .ref (aM 16)) (C := RX5) (T := TX5) (N := 19) hx hb hts hinX5 hown hK.1 hP 0 rfl rfl 18 (by decide) hw2 (fun _ h9 => h9) rfl dX5_isAhead_62 ?_
        refine lv_iload_n hx hb dX5_isAhead_65 rfl (lv_at hl 1 rfl) ?_
        obtain ⟨i48, h⟩ := q_ck h
        refine va_iald (f := (M_pWork vM)) hx hb hK.1 hP 16 0 rfl rfl i48 dX5_isAhead_66 ?_
        refine lv_aload_n hx hb dX5_isAhead_67 rfl (lv_at hl 0 rfl) ?_
        refine va_get (D := E.1) (ci := 5) (v := .ref (aM 16)) (C := RX5) (T := TX5) (N := 19) hx hb hts hinX5 hown hK.1 hP 0 rfl rfl 18 (by decide) hw2 (fun _ h9 => h9) rfl dX5_isAhead_68 ?_
        refine lv_iload_n hx hb dX5_isAhead_71 rfl (lv_at hl 2 rfl) ?_
        obtain ⟨i49, h⟩ := q_ck h
        refine va_iald (f := (M_pWork vM)) hx hb hK.1 hP 16 0 rfl rfl i49 dX5_isAhead_72 ?_
        refine lv_icmp_ge (tgt := 80) hx hb dX5_isAhead_73 (by decide) (fun c50 => ?_) (fun c50 => ?_)
        · have h := q_pos c50 h
          refine lv_iconst (v := 0) hx hb dX5_isAhead_80 (by decide) ?_
          obtain rfl := q_inj h
          exact hRt 81 _ _ _ dX5_isAhead_81 q_n0 hP hD hS
        · have h := q_neg c50 h
          refine lv_iconst (v := 1) hx hb dX5_isAhead_76 (by decide) ?_
          refine lv_goto (tgt := 81) hx hb dX5_isAhead_77 (by decide) ?_
          obtain rfl := q_inj h
          exact hRt 81 _ _ _ dX5_isAhead_81 q_n1 hP hD hS
  · have h := q_pos c1 h
    refine lv_aload_n hx hb dX5_isAhead_5 rfl (lv_at hl 0 rfl) ?_
    refine va_get (D := E.1) (ci := 5) (v := .ref (aM 12)) (C := RX5) (T := TX5) (N := 19) hx hb hts hinX5 hown hK.1 hP 0 rfl rfl 14 (by decide) hw0 (fun _ h9 => h9) rfl dX5_isAhead_6 ?_
    refine lv_iload_n hx hb dX5_isAhead_9 rfl (lv_at hl 1 rfl) ?_
    obtain ⟨i51, h⟩ := q_ck h
    refine va_iald (f := (M_came vM)) hx hb hK.1 hP 12 0 rfl rfl i51 dX5_isAhead_10 ?_
    refine lv_aload_n hx hb dX5_isAhead_11 rfl (lv_at hl 0 rfl) ?_
    refine va_get (D := E.1) (ci := 5) (v := .ref (aM 12)) (C := RX5) (T := TX5) (N := 19) hx hb hts hinX5 hown hK.1 hP 0 rfl rfl 14 (by decide) hw0 (fun _ h9 => h9) rfl dX5_isAhead_12 ?_
    refine lv_iload_n hx hb dX5_isAhead_15 rfl (lv_at hl 2 rfl) ?_
    obtain ⟨i52, h⟩ := q_ck h
    refine va_iald (f := (M_came vM)) hx hb hK.1 hP 12 0 rfl rfl i52 dX5_isAhead_16 ?_
    refine lv_icmp_eq (tgt := 41) hx hb dX5_isAhead_17 (by decide) (fun c53 => ?_) (fun c53 => ?_)
    · have h := q_pos c53 h
      refine lv_iload_n hx hb dX5_isAhead_41 rfl (lv_at hl 3 rfl) ?_
      refine lv_iconst (v := 2) hx hb dX5_isAhead_42 (by decide) ?_
      refine lv_icmp_ne (tgt := 82) hx hb dX5_isAhead_43 (by decide) (fun c54 => ?_) (fun c54 => ?_)
      · have h := q_neg c54 h
        refine lv_iload_n hx hb dX5_isAhead_82 rfl (lv_at hl 3 rfl) ?_
        refine lv_iconst (v := 3) hx hb dX5_isAhead_83 (by decide) ?_
        refine lv_icmp_ne (tgt := 131) hx hb dX5_isAhead_84 (by decide) (fun c55 => ?_) (fun c55 => ?_)
        · have h := q_neg c55 h
          refine lv_aload_n hx hb dX5_isAhead_131 rfl (lv_at hl 0 rfl) ?_
          refine va_get (D := E.1) (ci := 5) (v := .ref (aM 12)) (C := RX5) (T := TX5) (N := 19) hx hb hts hinX5 hown hK.1 hP 0 rfl rfl 14 (by decide) hw0 (fun _ h9 => h9) rfl dX5_isAhead_132 ?_
          refine lv_iload_n hx hb dX5_isAhead_135 rfl (lv_at hl 1 rfl) ?_
          obtain ⟨i56, h⟩ := q_ck h
          refine va_iald (f := (M_came vM)) hx hb hK.1 hP 12 0 rfl rfl i56 dX5_isAhead_136 ?_
          refine lv_aload_n hx hb dX5_isAhead_137 rfl (lv_at hl 0 rfl) ?_
          refine va_get (D := E.1) (ci := 5) (v := .ref (aM 12)) (C := RX5) (T := TX5) (N := 19) hx hb hts hinX5 hown hK.1 hP 0 rfl rfl 14 (by decide) hw0 (fun _ h9 => h9) rfl dX5_isAhead_138 ?_
          refine lv_iload_n hx hb dX5_isAhead_141 rfl (lv_at hl 2 rfl) ?_
          obtain ⟨i57, h⟩ := q_ck h
          refine va_iald (f := (M_came vM)) hx hb hK.1 hP 12 0 rfl rfl i57 dX5_isAhead_142 ?_
          refine lv_icmp_eq (tgt := 169) hx hb dX5_isAhead_143 (by decide) (fun c58 => ?_) (fun c58 => ?_)
          · have h := q_pos c58 h
            refine lv_iload_n hx hb dX5_isAhead_169 rfl (lv_at hl 1 rfl) ?_
            refine lv_iload_n hx hb dX5_isAhead_170 rfl (lv_at hl 2 rfl) ?_
            refine lv_icmp_ge (tgt := 178) hx hb dX5_isAhead_171 (by decide) (fun c59 => ?_) (fun c59 => ?_)
            · have h := q_pos c59 h
              refine lv_iconst (v := 0) hx hb dX5_isAhead_178 (by decide) ?_
              obtain rfl := q_inj h
              exact hRt 179 _ _ _ dX5_isAhead_179 q_n0 hP hD hS
            · have h := q_neg c59 h
              refine lv_iconst (v := 1) hx hb dX5_isAhead_174 (by decide) ?_
              refine lv_goto (tgt := 179) hx hb dX5_isAhead_175 (by decide) ?_
              obtain rfl := q_inj h
              exact hRt 179 _ _ _ dX5_isAhead_179 q_n1 hP hD hS
          · have h := q_neg c58 h
            refine lv_aload_n hx hb dX5_isAhead_146 rfl (lv_at hl 0 rfl) ?_
            refine va_get (D := E.1) (ci := 5) (v := .ref (aM 12)) (C := RX5) (T := TX5) (N := 19) hx hb hts hinX5 hown hK.1 hP 0 rfl rfl 14 (by decide) hw0 (fun _ h9 => h9) rfl dX5_isAhead_147 ?_
            refine lv_iload_n hx hb dX5_isAhead_150 rfl (lv_at hl 1 rfl) ?_
            obtain ⟨i60, h⟩ := q_ck h
            refine va_iald (f := (M_came vM)) hx hb hK.1 hP 12 0 rfl rfl i60 dX5_isAhead_151 ?_
            refine lv_aload_n hx hb dX5_isAhead_152 rfl (lv_at hl 0 rfl) ?_
            refine va_get (D := E.1) (ci := 5) (v := .ref (aM 12)) (C := RX5) (T := TX5) (N := 19) hx hb hts hinX5 hown hK.1 hP 0 rfl rfl 14 (by decide) hw0 (fun _ h9 => h9) rfl dX5_isAhead_153 ?_
            refine lv_iload_n hx hb dX5_isAhead_156 rfl (lv_at hl 2 rfl) ?_
            obtain ⟨i61, h⟩ := q_ck h
            refine va_iald (f := (M_came vM)) hx hb hK.1 hP 12 0 rfl rfl i61 dX5_isAhead_157 ?_
            refine lv_icmp_ge (tgt := 165) hx hb dX5_isAhead_158 (by decide) (fun c62 => ?_) (fun c62 => ?_)
            · have h := q_pos c62 h
              refine lv_iconst (v := 0) hx hb dX5_isAhead_165 (by decide) ?_
              refine lv_goto (tgt := 179) hx hb dX5_isAhead_166 (by decide) ?_
              obtain rfl := q_inj h
              exact hRt 179 _ _ _ dX5_isAhead_179 q_n0 hP hD hS
            · have h := q_neg c62 h
              refine lv_iconst (v := 1) hx hb dX5_isAhead_161 (by decide) ?_
              refine lv_goto (tgt := 179) hx hb dX5_isAhead_162 (by decide) ?_
              obtain rfl := q_inj h
              exact hRt 179 _ _ _ dX5_isAhead_179 q_n1 hP hD hS
        · have h := q_pos c55 h
          refine lv_aload_n hx hb dX5_isAhead_87 rfl (lv_at hl 0 rfl) ?_
          refine va_get (D := E.1) (ci := 5) (v := .ref (aM 4)) (C := RX5) (T := TX5) (N := 19) hx hb hts hinX5 hown hK.1 hP 0 rfl rfl 5 (by decide) hw1 (fun _ h9 => h9) rfl dX5_isAhead_88 ?_
          refine lv_iload_n hx hb dX5_isAhead_91 rfl (lv_at hl 1 rfl) ?_
          refine lv_iconst (v := 5) hx hb dX5_isAhead_92 (by decide) ?_
          refine lv_idiv hx hb dX5_isAhead_93 (by decide) ?_
          obtain ⟨i63, h⟩ := q_ck h
          refine va_iald (f := (M_kind vM)) hx hb hK.1 hP 4 0 rfl rfl i63 dX5_isAhead_94 ?_
          refine lv_aload_n hx hb dX5_isAhead_95 rfl (lv_at hl 0 rfl) ?_
          refine va_get (D := E.1) (ci := 5) (v := .ref (aM 4)) (C := RX5) (T := TX5) (N := 19) hx hb hts hinX5 hown hK.1 hP 0 rfl rfl 5 (by decide) hw1 (fun _ h9 => h9) rfl dX5_isAhead_96 ?_
          refine lv_iload_n hx hb dX5_isAhead_99 rfl (lv_at hl 2 rfl) ?_
          refine lv_iconst (v := 5) hx hb dX5_isAhead_100 (by decide) ?_
          refine lv_idiv hx hb dX5_isAhead_101 (by decide) ?_
          obtain ⟨i64, h⟩ := q_ck h
          refine va_iald (f := (M_kind vM)) hx hb hK.1 hP 4 0 rfl rfl i64 dX5_isAhead_102 ?_
          refine lv_icmp_eq (tgt := 131) hx hb dX5_isAhead_103 (by decide) (fun c65 => ?_) (fun c65 => ?_)
          · have h := q_pos c65 h
            refine lv_aload_n hx hb dX5_isAhead_131 rfl (lv_at hl 0 rfl) ?_
            refine va_get (D := E.1) (ci := 5) (v := .ref (aM 12)) (C := RX5) (T := TX5) (N := 19) hx hb hts hinX5 hown hK.1 hP 0 rfl rfl 14 (by decide) hw0 (fun _ h9 => h9) rfl dX5_isAhead_132 ?_
            refine lv_iload_n hx hb dX5_isAhead_135 rfl (lv_at hl 1 rfl) ?_
            obtain ⟨i66, h⟩ := q_ck h
            refine va_iald (f := (M_came vM)) hx hb hK.1 hP 12 0 rfl rfl i66 dX5_isAhead_136 ?_
            refine lv_aload_n hx hb dX5_isAhead_137 rfl (lv_at hl 0 rfl) ?_
            refine va_get (D := E.1) (ci := 5) (v := .ref (aM 12)) (C := RX5) (T := TX5) (N := 19) hx hb hts hinX5 hown hK.1 hP 0 rfl rfl 14 (by decide) hw0 (fun _ h9 => h9) rfl dX5_isAhead_138 ?_
            refine lv_iload_n hx hb dX5_isAhead_141 rfl (lv_at hl 2 rfl) ?_
            obtain ⟨i67, h⟩ := q_ck h
            refine va_iald (f := (M_came vM)) hx hb hK.1 hP 12 0 rfl rfl i67 dX5_isAhead_142 ?_
            refine lv_icmp_eq (tgt := 169) hx hb dX5_isAhead_143 (by decide) (fun c68 => ?_) (fun c68 => ?_)
            · have h := q_pos c68 h
              refine lv_iload_n hx hb dX5_isAhead_169 rfl (lv_at hl 1 rfl) ?_
              refine lv_iload_n hx hb dX5_isAhead_170 rfl (lv_at hl 2 rfl) ?_
              refine lv_icmp_ge (tgt := 178) hx hb dX5_isAhead_171 (by decide) (fun c69 => ?_) (fun c69 => ?_)
              · have h := q_pos c69 h
                refine lv_iconst (v := 0) hx hb dX5_isAhead_178 (by decide) ?_
                obtain rfl := q_inj h
                exact hRt 179 _ _ _ dX5_isAhead_179 q_n0 hP hD hS
              · have h := q_neg c69 h
                refine lv_iconst (v := 1) hx hb dX5_isAhead_174 (by decide) ?_
                refine lv_goto (tgt := 179) hx hb dX5_isAhead_175 (by decide) ?_
                obtain rfl := q_inj h
                exact hRt 179 _ _ _ dX5_isAhead_179 q_n1 hP hD hS
            · have h := q_neg c68 h
              refine lv_aload_n hx hb dX5_isAhead_146 rfl (lv_at hl 0 rfl) ?_
              refine va_get (D := E.1) (ci := 5) (v := .ref (aM 12)) (C := RX5) (T := TX5) (N := 19) hx hb hts hinX5 hown hK.1 hP 0 rfl rfl 14 (by decide) hw0 (fun _ h9 => h9) rfl dX5_isAhead_147 ?_
              refine lv_iload_n hx hb dX5_isAhead_150 rfl (lv_at hl 1 rfl) ?_
              obtain ⟨i70, h⟩ := q_ck h
              refine va_iald (f := (M_came vM)) hx hb hK.1 hP 12 0 rfl rfl i70 dX5_isAhead_151 ?_
              refine lv_aload_n hx hb dX5_isAhead_152 rfl (lv_at hl 0 rfl) ?_
              refine va_get (D := E.1) (ci := 5) (v := .ref (aM 12)) (C := RX5) (T := TX5) (N := 19) hx hb hts hinX5 hown hK.1 hP 0 rfl rfl 14 (by decide) hw0 (fun _ h9 => h9) rfl dX5_isAhead_153 ?_
              refine lv_iload_n hx hb dX5_isAhead_156 rfl (lv_at hl 2 rfl) ?_
              obtain ⟨i71, h⟩ := q_ck h
              refine va_iald (f := (M_came vM)) hx hb hK.1 hP 12 0 rfl rfl i71 dX5_isAhead_157 ?_
              refine lv_icmp_ge (tgt := 165) hx hb dX5_isAhead_158 (by decide) (fun c72 => ?_) (fun c72 => ?_)
              · have h := q_pos c72 h
                refine lv_iconst (v := 0) hx hb dX5_isAhead_165 (by decide) ?_
                refine lv_goto (tgt := 179) hx hb dX5_isAhead_166 (by decide) ?_
                obtain rfl := q_inj h
                exact hRt 179 _ _ _ dX5_isAhead_179 q_n0 hP hD hS
              · have h := q_neg c72 h
                refine lv_iconst (v := 1) hx hb dX5_isAhead_161 (by decide) ?_
                refine lv_goto (tgt := 179) hx hb dX5_isAhead_162 (by decide) ?_
                obtain rfl := q_inj h
                exact hRt 179 _ _ _ dX5_isAhead_179 q_n1 hP hD hS
          · have h := q_neg c65 h
            refine lv_aload_n hx hb dX5_isAhead_106 rfl (lv_at hl 0 rfl) ?_
            refine va_get (D := E.1) (ci := 5) (v := .ref (aM 4)) (C := RX5) (T := TX5) (N := 19) hx hb hts hinX5 hown hK.1 hP 0 rfl rfl 5 (by decide) hw1 (fun _ h9 => h9) rfl dX5_isAhead_107 ?_
            refine lv_iload_n hx hb dX5_isAhead_110 rfl (lv_at hl 1 rfl) ?_
            refine lv_iconst (v := 5) hx hb dX5_isAhead_111 (by decide) ?_
            refine lv_idiv hx hb dX5_isAhead_112 (by decide) ?_
            obtain ⟨i73, h⟩ := q_ck h
            refine va_iald (f := (M_kind vM)) hx hb hK.1 hP 4 0 rfl rfl i73 dX5_isAhead_113 ?_
            refine lv_aload_n hx hb dX5_isAhead_114 rfl (lv_at hl 0 rfl) ?_
            refine va_get (D := E.1) (ci := 5) (v := .ref (aM 4)) (C := RX5) (T := TX5) (N := 19) hx hb hts hinX5 hown hK.1 hP 0 rfl rfl 5 (by decide) hw1 (fun _ h9 => h9) rfl dX5_isAhead_115 ?_
            refine lv_iload_n hx hb dX5_isAhead_118 rfl (lv_at hl 2 rfl) ?_
            refine lv_iconst (v := 5) hx hb dX5_isAhead_119 (by decide) ?_
            refine lv_idiv hx hb dX5_isAhead_120 (by decide) ?_
            obtain ⟨i74, h⟩ := q_ck h
            refine va_iald (f := (M_kind vM)) hx hb hK.1 hP 4 0 rfl rfl i74 dX5_isAhead_121 ?_
            refine lv_icmp_ge (tgt := 129) hx hb dX5_isAhead_122 (by decide) (fun c75 => ?_) (fun c75 => ?_)
            · have h := q_pos c75 h
              refine lv_iconst (v := 0) hx hb dX5_isAhead_129 (by decide) ?_
              obtain rfl := q_inj h
              exact hRt 130 _ _ _ dX5_isAhead_130 q_n0 hP hD hS
            · have h := q_neg c75 h
              refine lv_iconst (v := 1) hx hb dX5_isAhead_125 (by decide) ?_
              refine lv_goto (tgt := 130) hx hb dX5_isAhead_126 (by decide) ?_
              obtain rfl := q_inj h
              exact hRt 130 _ _ _ dX5_isAhead_130 q_n1 hP hD hS
      · have h := q_pos c54 h
        refine lv_aload_n hx hb dX5_isAhead_46 rfl (lv_at hl 0 rfl) ?_
        refine va_get (D := E.1) (ci := 5) (v := .ref (aM 16)) (C := RX5) (T := TX5) (N := 19) hx hb hts hinX5 hown hK.1 hP 0 rfl rfl 18 (by decide) hw2 (fun _ h9 => h9) rfl dX5_isAhead_47 ?_
        refine lv_iload_n hx hb dX5_isAhead_50 rfl (lv_at hl 1 rfl) ?_
        obtain ⟨i76, h⟩ := q_ck h
        refine va_iald (f := (M_pWork vM)) hx hb hK.1 hP 16 0 rfl rfl i76 dX5_isAhead_51 ?_
        refine lv_aload_n hx hb dX5_isAhead_52 rfl (lv_at hl 0 rfl) ?_
        refine va_get (D := E.1) (ci := 5) (v := .ref (aM 16)) (C := RX5) (T := TX5) (N := 19) hx hb hts hinX5 hown hK.1 hP 0 rfl rfl 18 (by decide) hw2 (fun _ h9 => h9) rfl dX5_isAhead_53 ?_
        refine lv_iload_n hx hb dX5_isAhead_56 rfl (lv_at hl 2 rfl) ?_
        obtain ⟨i77, h⟩ := q_ck h
        refine va_iald (f := (M_pWork vM)) hx hb hK.1 hP 16 0 rfl rfl i77 dX5_isAhead_57 ?_
        refine lv_icmp_eq (tgt := 82) hx hb dX5_isAhead_58 (by decide) (fun c78 => ?_) (fun c78 => ?_)
        · have h := q_pos c78 h
          refine lv_iload_n hx hb dX5_isAhead_82 rfl (lv_at hl 3 rfl) ?_
          refine lv_iconst (v := 3) hx hb dX5_isAhead_83 (by decide) ?_
          refine lv_icmp_ne (tgt := 131) hx hb dX5_isAhead_84 (by decide) (fun c79 => ?_) (fun c79 => ?_)
          · have h := q_neg c79 h
            refine lv_aload_n hx hb dX5_isAhead_131 rfl (lv_at hl 0 rfl) ?_
            refine va_get (D := E.1) (ci := 5) (v := .ref (aM 12)) (C := RX5) (T := TX5) (N := 19) hx hb hts hinX5 hown hK.1 hP 0 rfl rfl 14 (by decide) hw0 (fun _ h9 => h9) rfl dX5_isAhead_132 ?_
            refine lv_iload_n hx hb dX5_isAhead_135 rfl (lv_at hl 1 rfl) ?_
            obtain ⟨i80, h⟩ := q_ck h
            refine va_iald (f := (M_came vM)) hx hb hK.1 hP 12 0 rfl rfl i80 dX5_isAhead_136 ?_
            refine lv_aload_n hx hb dX5_isAhead_137 rfl (lv_at hl 0 rfl) ?_
            refine va_get (D := E.1) (ci := 5) (v := .ref (aM 12)) (C := RX5) (T := TX5) (N := 19) hx hb hts hinX5 hown hK.1 hP 0 rfl rfl 14 (by decide) hw0 (fun _ h9 => h9) rfl dX5_isAhead_138 ?_
            refine lv_iload_n hx hb dX5_isAhead_141 rfl (lv_at hl 2 rfl) ?_
            obtain ⟨i81, h⟩ := q_ck h
            refine va_iald (f := (M_came vM)) hx hb hK.1 hP 12 0 rfl rfl i81 dX5_isAhead_142 ?_
            refine lv_icmp_eq (tgt := 169) hx hb dX5_isAhead_143 (by decide) (fun c82 => ?_) (fun c82 => ?_)
            · have h := q_pos c82 h
              refine lv_iload_n hx hb dX5_isAhead_169 rfl (lv_at hl 1 rfl) ?_
              refine lv_iload_n hx hb dX5_isAhead_170 rfl (lv_at hl 2 rfl) ?_
              refine lv_icmp_ge (tgt := 178) hx hb dX5_isAhead_171 (by decide) (fun c83 => ?_) (fun c83 => ?_)
              · have h := q_pos c83 h
                refine lv_iconst (v := 0) hx hb dX5_isAhead_178 (by decide) ?_
                obtain rfl := q_inj h
                exact hRt 179 _ _ _ dX5_isAhead_179 q_n0 hP hD hS
              · have h := q_neg c83 h
                refine lv_iconst (v := 1) hx hb dX5_isAhead_174 (by decide) ?_
                refine lv_goto (tgt := 179) hx hb dX5_isAhead_175 (by decide) ?_
                obtain rfl := q_inj h
                exact hRt 179 _ _ _ dX5_isAhead_179 q_n1 hP hD hS
            · have h := q_neg c82 h
              refine lv_aload_n hx hb dX5_isAhead_146 rfl (lv_at hl 0 rfl) ?_
              refine va_get (D := E.1) (ci := 5) (v := .ref (aM 12)) (C := RX5) (T := TX5) (N := 19) hx hb hts hinX5 hown hK.1 hP 0 rfl rfl 14 (by decide) hw0 (fun _ h9 => h9) rfl dX5_isAhead_147 ?_
              refine lv_iload_n hx hb dX5_isAhead_150 rfl (lv_at hl 1 rfl) ?_
              obtain ⟨i84, h⟩ := q_ck h
              refine va_iald (f := (M_came vM)) hx hb hK.1 hP 12 0 rfl rfl i84 dX5_isAhead_151 ?_
              refine lv_aload_n hx hb dX5_isAhead_152 rfl (lv_at hl 0 rfl) ?_
              refine va_get (D := E.1) (ci := 5) (v := .ref (aM 12)) (C := RX5) (T := TX5) (N := 19) hx hb hts hinX5 hown hK.1 hP 0 rfl rfl 14 (by decide) hw0 (fun _ h9 => h9) rfl dX5_isAhead_153 ?_
              refine lv_iload_n hx hb dX5_isAhead_156 rfl (lv_at hl 2 rfl) ?_
              obtain ⟨i85, h⟩ := q_ck h
              refine va_iald (f := (M_came vM)) hx hb hK.1 hP 12 0 rfl rfl i85 dX5_isAhead_157 ?_
              refine lv_icmp_ge (tgt := 165) hx hb dX5_isAhead_158 (by decide) (fun c86 => ?_) (fun c86 => ?_)
              · have h := q_pos c86 h
                refine lv_iconst (v := 0) hx hb dX5_isAhead_165 (by decide) ?_
                refine lv_goto (tgt := 179) hx hb dX5_isAhead_166 (by decide) ?_
                obtain rfl := q_inj h
                exact hRt 179 _ _ _ dX5_isAhead_179 q_n0 hP hD hS
              · have h := q_neg c86 h
                refine lv_iconst (v := 1) hx hb dX5_isAhead_161 (by decide) ?_
                refine lv_goto (tgt := 179) hx hb dX5_isAhead_162 (by decide) ?_
                obtain rfl := q_inj h
                exact hRt 179 _ _ _ dX5_isAhead_179 q_n1 hP hD hS
          · have h := q_pos c79 h
            refine lv_aload_n hx hb dX5_isAhead_87 rfl (lv_at hl 0 rfl) ?_
            refine va_get (D := E.1) (ci := 5) (v := .ref (aM 4)) (C := RX5) (T := TX5) (N := 19) hx hb hts hinX5 hown hK.1 hP 0 rfl rfl 5 (by decide) hw1 (fun _ h9 => h9) rfl dX5_isAhead_88 ?_
            refine lv_iload_n hx hb dX5_isAhead_91 rfl (lv_at hl 1 rfl) ?_
            refine lv_iconst (v := 5) hx hb dX5_isAhead_92 (by decide) ?_
            refine lv_idiv hx hb dX5_isAhead_93 (by decide) ?_
            obtain ⟨i87, h⟩ := q_ck h
            refine va_iald (f := (M_kind vM)) hx hb hK.1 hP 4 0 rfl rfl i87 dX5_isAhead_94 ?_
            refine lv_aload_n hx hb dX5_isAhead_95 rfl (lv_at hl 0 rfl) ?_
            refine va_get (D := E.1) (ci := 5) (v := .ref (aM 4)) (C := RX5) (T := TX5) (N := 19) hx hb hts hinX5 hown hK.1 hP 0 rfl rfl 5 (by decide) hw1 (fun _ h9 => h9) rfl dX5_isAhead_96 ?_
            refine lv_iload_n hx hb dX5_isAhead_99 rfl (lv_at hl 2 rfl) ?_
            refine lv_iconst (v := 5) hx hb dX5_isAhead_100 (by decide) ?_
            refine lv_idiv hx hb dX5_isAhead_101 (by decide) ?_
            obtain ⟨i88, h⟩ := q_ck h
            refine va_iald (f := (M_kind vM)) hx hb hK.1 hP 4 0 rfl rfl i88 dX5_isAhead_102 ?_
            refine lv_icmp_eq (tgt := 131) hx hb dX5_isAhead_103 (by decide) (fun c89 => ?_) (fun c89 => ?_)
            · have h := q_pos c89 h
              refine lv_aload_n hx hb dX5_isAhead_131 rfl (lv_at hl 0 rfl) ?_
              refine va_get (D := E.1) (ci := 5) (v := .ref (aM 12)) (C := RX5) (T := TX5) (N := 19) hx hb hts hinX5 hown hK.1 hP 0 rfl rfl 14 (by decide) hw0 (fun _ h9 => h9) rfl dX5_isAhead_132 ?_
              refine lv_iload_n hx hb dX5_isAhead_135 rfl (lv_at hl 1 rfl) ?_
              obtain ⟨i90, h⟩ := q_ck h
              refine va_iald (f := (M_came vM)) hx hb hK.1 hP 12 0 rfl rfl i90 dX5_isAhead_136 ?_
              refine lv_aload_n hx hb dX5_isAhead_137 rfl (lv_at hl 0 rfl) ?_
              refine va_get (D := E.1) (ci := 5) (v := .ref (aM 12)) (C := RX5) (T := TX5) (N := 19) hx hb hts hinX5 hown hK.1 hP 0 rfl rfl 14 (by decide) hw0 (fun _ h9 => h9) rfl dX5_isAhead_138 ?_
              refine lv_iload_n hx hb dX5_isAhead_141 rfl (lv_at hl 2 rfl) ?_
              obtain ⟨i91, h⟩ := q_ck h
              refine va_iald (f := (M_came vM)) hx hb hK.1 hP 12 0 rfl rfl i91 dX5_isAhead_142 ?_
              refine lv_icmp_eq (tgt := 169) hx hb dX5_isAhead_143 (by decide) (fun c92 => ?_) (fun c92 => ?_)
              · have h := q_pos c92 h
                refine lv_iload_n hx hb dX5_isAhead_169 rfl (lv_at hl 1 rfl) ?_
                refine lv_iload_n hx hb dX5_isAhead_170 rfl (lv_at hl 2 rfl) ?_
                refine lv_icmp_ge (tgt := 178) hx hb dX5_isAhead_171 (by decide) (fun c93 => ?_) (fun c93 => ?_)
                · have h := q_pos c93 h
                  refine lv_iconst (v := 0) hx hb dX5_isAhead_178 (by decide) ?_
                  obtain rfl := q_inj h
                  exact hRt 179 _ _ _ dX5_isAhead_179 q_n0 hP hD hS
                · have h := q_neg c93 h
                  refine lv_iconst (v := 1) hx hb dX5_isAhead_174 (by decide) ?_
                  refine lv_goto (tgt := 179) hx hb dX5_isAhead_175 (by decide) ?_
                  obtain rfl := q_inj h
                  exact hRt 179 _ _ _ dX5_isAhead_179 q_n1 hP hD hS
              · have h := q_neg c92 h
                refine lv_aload_n hx hb dX5_isAhead_146 rfl (lv_at hl 0 rfl) ?_
                refine va_get (D := E.1) (ci := 5) (v := .ref (aM 12)) (C := RX5) (T := TX5) (N := 19) hx hb hts hinX5 hown hK.1 hP 0 rfl rfl 14 (by decide) hw0 (fun _ h9 => h9) rfl dX5_isAhead_147 ?_
                refine lv_iload_n hx hb dX5_isAhead_150 rfl (lv_at hl 1 rfl) ?_
                obtain ⟨i94, h⟩ := q_ck h
                refine va_iald (f := (M_came vM)) hx hb hK.1 hP 12 0 rfl rfl i94 dX5_isAhead_151 ?_
                refine lv_aload_n hx hb dX5_isAhead_152 rfl (lv_at hl 0 rfl) ?_
                refine va_get (D := E.1) (ci := 5) (v := .ref (aM 12)) (C := RX5) (T := TX5) (N := 19) hx hb hts hinX5 hown hK.1 hP 0 rfl rfl 14 (by decide) hw0 (fun _ h9 => h9) rfl dX5_isAhead_153 ?_
                refine lv_iload_n hx hb dX5_isAhead_156 rfl (lv_at hl 2 rfl) ?_
                obtain ⟨i95, h⟩ := q_ck h
                refine va_iald (f := (M_came vM)) hx hb hK.1 hP 12 0 rfl rfl i95 dX5_isAhead_157 ?_
                refine lv_icmp_ge (tgt := 165) hx hb dX5_isAhead_158 (by decide) (fun c96 => ?_) (fun c96 => ?_)
                · have h := q_pos c96 h
                  refine lv_iconst (v := 0) hx hb dX5_isAhead_165 (by decide) ?_
                  refine lv_goto (tgt := 179) hx hb dX5_isAhead_166 (by decide) ?_
                  obtain rfl := q_inj h
                  exact hRt 179 _ _ _ dX5_isAhead_179 q_n0 hP hD hS
                · have h := q_neg c96 h
                  refine lv_iconst (v := 1) hx hb dX5_isAhead_161 (by decide) ?_
                  refine lv_goto (tgt := 179) hx hb dX5_isAhead_162 (by decide) ?_
                  obtain rfl := q_inj h
                  exact hRt 179 _ _ _ dX5_isAhead_179 q_n1 hP hD hS
            · have h := q_neg c89 h
              refine lv_aload_n hx hb dX5_isAhead_106 rfl (lv_at hl 0 rfl) ?_
              refine va_get (D := E.1) (ci := 5) (v := .ref (aM 4)) (C := RX5) (T := TX5) (N := 19) hx hb hts hinX5 hown hK.1 hP 0 rfl rfl 5 (by decide) hw1 (fun _ h9 => h9) rfl dX5_isAhead_107 ?_
              refine lv_iload_n hx hb dX5_isAhead_110 rfl (lv_at hl 1 rfl) ?_
              refine lv_iconst (v := 5) hx hb dX5_isAhead_111 (by decide) ?_
              refine lv_idiv hx hb dX5_isAhead_112 (by decide) ?_
              obtain ⟨i97, h⟩ := q_ck h
              refine va_iald (f := (M_kind vM)) hx hb hK.1 hP 4 0 rfl rfl i97 dX5_isAhead_113 ?_
              refine lv_aload_n hx hb dX5_isAhead_114 rfl (lv_at hl 0 rfl) ?_
              refine va_get (D := E.1) (ci := 5) (v := .ref (aM 4)) (C := RX5) (T := TX5) (N := 19) hx hb hts hinX5 hown hK.1 hP 0 rfl rfl 5 (by decide) hw1 (fun _ h9 => h9) rfl dX5_isAhead_115 ?_
              refine lv_iload_n hx hb dX5_isAhead_118 rfl (lv_at hl 2 rfl) ?_
              refine lv_iconst (v := 5) hx hb dX5_isAhead_119 (by decide) ?_
              refine lv_idiv hx hb dX5_isAhead_120 (by decide) ?_
              obtain ⟨i98, h⟩ := q_ck h
              refine va_iald (f := (M_kind vM)) hx hb hK.1 hP 4 0 rfl rfl i98 dX5_isAhead_121 ?_
              refine lv_icmp_ge (tgt := 129) hx hb dX5_isAhead_122 (by decide) (fun c99 => ?_) (fun c99 => ?_)
              · have h := q_pos c99 h
                refine lv_iconst (v := 0) hx hb dX5_isAhead_129 (by decide) ?_
                obtain rfl := q_inj h
                exact hRt 130 _ _ _ dX5_isAhead_130 q_n0 hP hD hS
              · have h := q_neg c99 h
                refine lv_iconst (v := 1) hx hb dX5_isAhead_125 (by decide) ?_
                refine lv_goto (tgt := 130) hx hb dX5_isAhead_126 (by decide) ?_
                obtain rfl := q_inj h
                exact hRt 130 _ _ _ dX5_isAhead_130 q_n1 hP hD hS
        · have h := q_neg c78 h
          refine lv_aload_n hx hb dX5_isAhead_61 rfl (lv_at hl 0 rfl) ?_
          refine va_get (D := E.1) (ci := 5) (v := .ref (aM 16)) (C := RX5) (T := TX5) (N := 19) hx hb hts hinX5 hown hK.1 hP 0 rfl rfl 18 (by decide) hw2 (fun _ h9 => h9) rfl dX5_isAhead_62 ?_
          refine lv_iload_n hx hb dX5_isAhead_65 rfl (lv_at hl 1 rfl) ?_
          obtain ⟨i100, h⟩ := q_ck h
          refine va_iald (f := (M_pWork vM)) hx hb hK.1 hP 16 0 rfl rfl i100 dX5_isAhead_66 ?_
          refine lv_aload_n hx hb dX5_isAhead_67 rfl (lv_at hl 0 rfl) ?_
          refine va_get (D := E.1) (ci := 5) (v := .ref (aM 16)) (C := RX5) (T := TX5) (N := 19) hx hb hts hinX5 hown hK.1 hP 0 rfl rfl 18 (by decide) hw2 (fun _ h9 => h9) rfl dX5_isAhead_68 ?_
          refine lv_iload_n hx hb dX5_isAhead_71 rfl (lv_at hl 2 rfl) ?_
          obtain ⟨i101, h⟩ := q_ck h
          refine va_iald (f := (M_pWork vM)) hx hb hK.1 hP 16 0 rfl rfl i101 dX5_isAhead_72 ?_
          refine lv_icmp_ge (tgt := 80) hx hb dX5_isAhead_73 (by decide) (fun c102 => ?_) (fun c102 => ?_)
          · have h := q_pos c102 h
            refine lv_iconst (v := 0) hx hb dX5_isAhead_80 (by decide) ?_
            obtain rfl := q_inj h
            exact hRt 81 _ _ _ dX5_isAhead_81 q_n0 hP hD hS
          · have h := q_neg c102 h
            refine lv_iconst (v := 1) hx hb dX5_isAhead_76 (by decide) ?_
            refine lv_goto (tgt := 81) hx hb dX5_isAhead_77 (by decide) ?_
            obtain rfl := q_inj h
            exact hRt 81 _ _ _ dX5_isAhead_81 q_n1 hP hD hS
    · have h := q_neg c53 h
      refine lv_aload_n hx hb dX5_isAhead_20 rfl (lv_at hl 0 rfl) ?_
      refine va_get (D := E.1) (ci := 5) (v := .ref (aM 12)) (C := RX5) (T := TX5) (N := 19) hx hb hts hinX5 hown hK.1 hP 0 rfl rfl 14 (by decide) hw0 (fun _ h9 => h9) rfl dX5_isAhead_21 ?_
      refine lv_iload_n hx hb dX5_isAhead_24 rfl (lv_at hl 1 rfl) ?_
      obtain ⟨i103, h⟩ := q_ck h
      refine va_iald (f := (M_came vM)) hx hb hK.1 hP 12 0 rfl rfl i103 dX5_isAhead_25 ?_
      refine lv_aload_n hx hb dX5_isAhead_26 rfl (lv_at hl 0 rfl) ?_
      refine va_get (D := E.1) (ci := 5) (v := .ref (aM 12)) (C := RX5) (T := TX5) (N := 19) hx hb hts hinX5 hown hK.1 hP 0 rfl rfl 14 (by decide) hw0 (fun _ h9 => h9) rfl dX5_isAhead_27 ?_
      refine lv_iload_n hx hb dX5_isAhead_30 rfl (lv_at hl 2 rfl) ?_
      obtain ⟨i104, h⟩ := q_ck h
      refine va_iald (f := (M_came vM)) hx hb hK.1 hP 12 0 rfl rfl i104 dX5_isAhead_31 ?_
      refine lv_icmp_le (tgt := 39) hx hb dX5_isAhead_32 (by decide) (fun c105 => ?_) (fun c105 => ?_)
      · have h := q_pos c105 h
        refine lv_iconst (v := 0) hx hb dX5_isAhead_39 (by decide) ?_
        obtain rfl := q_inj h
        exact hRt 40 _ _ _ dX5_isAhead_40 q_n0 hP hD hS
      · have h := q_neg c105 h
        refine lv_iconst (v := 1) hx hb dX5_isAhead_35 (by decide) ?_
        refine lv_goto (tgt := 40) hx hb dX5_isAhead_36 (by decide) ?_
        obtain rfl := q_inj h
        exact hRt 40 _ _ _ dX5_isAhead_40 q_n1 hP hD hS
def lpX5_next_5 (vM : SM) (x1 : Int32) (x2 : Int32) : Nat → Int32 → Int32 → Option Int32
  | 0, _, _ => none
  | k + 1, x3, x4 => if (5 * (M_asks vM)) ≤ x4 then (some x3) else (ck x4 300 (if ((M_waits vM) (Int32.toNatClampNeg x4)) = 0 then (lpX5_next_5 vM x1 x2 k x3 (x4 + 1)) else (ck x4 300 (if ((M_at vM) (Int32.toNatClampNeg x4)) = x1 then (if x3 < 0 then (lpX5_next_5 vM x1 x2 k x4 (x4 + 1)) else ((mX5_isAhead vM x4 x3 x2).bind fun o25 => if o25 = 0 then (lpX5_next_5 vM x1 x2 k x3 (x4 + 1)) else (lpX5_next_5 vM x1 x2 k x4 (x4 + 1)))) else (lpX5_next_5 vM x1 x2 k x3 (x4 + 1))))))
def mX5_next (vM : SM) (x1 : Int32) (x2 : Int32) : Option Int32 := (lpX5_next_5 vM x1 x2 qFU (-1) 0).bind fun o28 => some o28
def rmX5_next : Room := { frames := 1, cells := 0, slots := 0, locals := 23 }
set_option maxHeartbeats 8000000 in
set_option maxRecDepth 100000 in
theorem wX5_next (l : Launch) (E : qE) (aM : Nat → Nat) (vM : SM) (x1 : Int32) (x2 : Int32) (o : Int32) (h : mX5_next vM x1 x2 = some o) : MI l E yX5_next wsX5_next rmX5_next [.ref (aM 0), .int x1, .int x2] (WM E aM vM) (WM E aM vM) o := by
  refine q_startI (cc := cX5_next) (maxL := 5) (by decide) rfl (Nat.le_of_ble_eq_true rfl) ?_
  intro pr e s m args below meth c A Q hx hb hml hown hts hK hRt hP hD hA hS ls hl
  have hl : lv_has ls 5 [(0, .ref (aM 0)), (1, .int x1), (2, .int x2)] := hl
  have hinX5 : ∀ w ∈ wsX50, w ∈ wsX5_next := by decide +kernel
  have hw0 := hts (.fieldLink RX5 70 "QueueReaderModel" "asks" "I") (by decide +kernel)
  have hw1 := hts (.fieldLink RX5 53 "QueueReaderModel" "waits" "[Z") (by decide +kernel)
  have hw2 := hts (.fieldLink RX5 28 "QueueReaderModel" "at" "[I") (by decide +kernel)
  have L5 : ∀ (vM : SM) (x1 : Int32) (x2 : Int32) (x3 : Int32) (x4 : Int32) (k : Nat) (H : Heap) (locs : List Loc) (ls : Array Slot), va_P E.1 vwCl (WM E aM vM) H → va_D A (WM E aM vM) → va_S A s.heap H locs → lv_has ls 5 [(0, .ref (aM 0)), (1, .int x1), (2, .int x2), (3, .int x3), (4, .int x4)] → ∀ o, lpX5_next_5 vM x1 x2 k x3 x4 = some o → (∀ (H : Heap) (locs : List Loc) (ls : Array Slot), va_P E.1 vwCl (WM E aM vM) H → va_D A (WM E aM vM) → va_S A s.heap H locs → lv_has ls 5 [(3, .int o)] → W pr l e rmX5_next s m args below meth c H locs 0 0 Q (F0 m 61 ls [])) → W pr l e rmX5_next s m args below meth c H locs 0 0 Q (F0 m 5 ls []) := by
    intro vM x1 x2 x3 x4 k
    induction k generalizing x3 x4 with
    | zero => intro H locs ls hP hD hS hl o h; cases h
    | succ k ih =>
      intro H locs ls hP hD hS hl o h kk
      rw [lpX5_next_5] at h
      refine lv_iload hx hb dX5_next_5 (lv_at hl 4 rfl) ?_
      refine lv_iconst (v := 5) hx hb dX5_next_7 (by decide) ?_
      refine lv_aload_n hx hb dX5_next_8 rfl (lv_at hl 0 rfl) ?_
      refine va_get (D := E.1) (ci := 5) (v := .int (M_asks vM)) (C := RX5) (T := TX5) (N := 19) hx hb hts hinX5 hown hK.1 hP 0 rfl rfl 8 (by decide) hw0 (fun _ h9 => h9) rfl dX5_next_9 ?_
      refine lv_imul hx hb dX5_next_12 ?_
      refine lv_icmp_ge (tgt := 61) hx hb dX5_next_13 (by decide) (fun c19 => ?_) (fun c19 => ?_)
      · have h := q_pos c19 h
        obtain rfl := q_inj h
        exact kk _ _ _ hP hD hS (lv_sub hl [3] rfl)
      · have h := q_neg c19 h
        refine lv_aload_n hx hb dX5_next_16 rfl (lv_at hl 0 rfl) ?_
        refine va_get (D := E.1) (ci := 5) (v := .ref (aM 15)) (C := RX5) (T := TX5) (N := 19) hx hb hts hinX5 hown hK.1 hP 0 rfl rfl 17 (by decide) hw1 (fun _ h9 => h9) rfl dX5_next_17 ?_
        refine lv_iload hx hb dX5_next_20 (lv_at hl 4 rfl) ?_
        obtain ⟨i20, h⟩ := q_ck h
        refine va_zald (f := (M_waits vM)) hx hb hK.1 hP 15 2 rfl rfl i20 dX5_next_22 ?_
        refine lv_if_eq (tgt := 55) hx hb dX5_next_23 (by decide) (fun c21 => ?_) (fun c21 => ?_)
        · have h := q_pos c21 h
          refine lv_iinc (v := (x4 + 1)) (lv' := [(4, .int (x4 + 1)), (0, .ref (aM 0)), (1, .int x1), (2, .int x2), (3, .int x3)]) hx hb dX5_next_55 hl (k := 4) rfl rfl (by decide) rfl (fun ls hl => ?_)
          refine lv_goto (tgt := 5) hx hb dX5_next_58 (by decide) ?_
          exact ih x3 (x4 + 1) _ _ _ hP hD hS (lv_sub hl [1, 2, 3, 4, 0] rfl) _ h kk
        · have h := q_neg c21 h
          refine lv_aload_n hx hb dX5_next_26 rfl (lv_at hl 0 rfl) ?_
          refine va_get (D := E.1) (ci := 5) (v := .ref (aM 7)) (C := RX5) (T := TX5) (N := 19) hx hb hts hinX5 hown hK.1 hP 0 rfl rfl 9 (by decide) hw2 (fun _ h9 => h9) rfl dX5_next_27 ?_
          refine lv_iload hx hb dX5_next_30 (lv_at hl 4 rfl) ?_
          obtain ⟨i22, h⟩ := q_ck h
          refine va_iald (f := (M_at vM)) hx hb hK.1 hP 7 0 rfl rfl i22 dX5_next_32 ?_
          refine lv_iload_n hx hb dX5_next_33 rfl (lv_at hl 1 rfl) ?_
          refine lv_icmp_ne (tgt := 55) hx hb dX5_next_34 (by decide) (fun c23 => ?_) (fun c23 => ?_)
          · have h := q_neg c23 h
            refine lv_iinc (v := (x4 + 1)) (lv' := [(4, .int (x4 + 1)), (0, .ref (aM 0)), (1, .int x1), (2, .int x2), (3, .int x3)]) hx hb dX5_next_55 hl (k := 4) rfl rfl (by decide) rfl (fun ls hl => ?_)
            refine lv_goto (tgt := 5) hx hb dX5_next_58 (by decide) ?_
            exact ih x3 (x4 + 1) _ _ _ hP hD hS (lv_sub hl [1, 2, 3, 4, 0] rfl) _ h kk
          · have h := q_pos c23 h
            refine lv_iload_n hx hb dX5_next_37 rfl (lv_at hl 3 rfl) ?_
            refine lv_if_lt (tgt := 52) hx hb dX5_next_38 (by decide) (fun c24 => ?_) (fun c24 => ?_)
            · have h := q_pos c24 h
              refine lv_iload hx hb dX5_next_52 (lv_at hl 4 rfl) ?_
              refine lv_istore_n (lv' := [(3, .int x4), (0, .ref (aM 0)), (1, .int x1), (2, .int x2), (4, .int x4)]) hx hb dX5_next_54 rfl hl (by decide) rfl (fun ls hl => ?_)
              refine lv_iinc (v := (x4 + 1)) (lv' := [(4, .int (x4 + 1)), (3, .int x4), (0, .ref (aM 0)), (1, .int x1), (2, .int x2)]) hx hb dX5_next_55 hl (k := 4) rfl rfl (by decide) rfl (fun ls hl => ?_)
              refine lv_goto (tgt := 5) hx hb dX5_next_58 (by decide) ?_
              exact ih x4 (x4 + 1) _ _ _ hP hD hS (lv_sub hl [2, 3, 4, 1, 0] rfl) _ h kk
            · have h := q_neg c24 h
              refine lv_aload_n hx hb dX5_next_41 rfl (lv_at hl 0 rfl) ?_
              refine lv_iload hx hb dX5_next_42 (lv_at hl 4 rfl) ?_
              refine lv_iload_n hx hb dX5_next_44 rfl (lv_at hl 3 rfl) ?_
              refine lv_iload_n hx hb dX5_next_45 rfl (lv_at hl 2 rfl) ?_
              obtain ⟨o25, e26, h⟩ := q_bind h
              refine q_ci (va_runV (As := [.int x4, .int x3, .int x2]) (rest := []) ⟨hx, hb, hml, hown, hts⟩ (wX5_isAhead l E aM vM x4 x3 x2 o25 e26 _) (cwV 3 hts gX5_next_X5_isAhead rfl rfl rfl (by decide +kernel) ⟨Nat.le_of_ble_eq_true rfl, Nat.le_of_ble_eq_true rfl⟩) (q_preV hK hP hD q_idl 5 0 rfl rfl) rfl rfl hl.1 rfl (lv_room (Nat.le_of_ble_eq_true rfl)) dX5_next_46 ⟨Nat.zero_le _, Nat.zero_le _⟩) hP hD hS hA q_idl q_idr (fun H locs hP hD hS => ?_)
              refine lv_if_eq (tgt := 55) hx hb dX5_next_49 (by decide) (fun c27 => ?_) (fun c27 => ?_)
              · have h := q_pos c27 h
                refine lv_iinc (v := (x4 + 1)) (lv' := [(4, .int (x4 + 1)), (0, .ref (aM 0)), (1, .int x1), (2, .int x2), (3, .int x3)]) hx hb dX5_next_55 hl (k := 4) rfl rfl (by decide) rfl (fun ls hl => ?_)
                refine lv_goto (tgt := 5) hx hb dX5_next_58 (by decide) ?_
                exact ih x3 (x4 + 1) _ _ _ hP hD hS (lv_sub hl [1, 2, 3, 4, 0] rfl) _ h kk
              · have h := q_neg c27 h
                refine lv_iload hx hb dX5_next_52 (lv_at hl 4 rfl) ?_
                refine lv_istore_n (lv' := [(3, .int x4), (0, .ref (aM 0)), (1, .int x1), (2, .int x2), (4, .int x4)]) hx hb dX5_next_54 rfl hl (by decide) rfl (fun ls hl => ?_)
                refine lv_iinc (v := (x4 + 1)) (lv' := [(4, .int (x4 + 1)), (3, .int x4), (0, .ref (aM 0)), (1, .int x1), (2, .int x2)]) hx hb dX5_next_55 hl (k := 4) rfl rfl (by decide) rfl (fun ls hl => ?_)
                refine lv_goto (tgt := 5) hx hb dX5_next_58 (by decide) ?_
                exact ih x4 (x4 + 1) _ _ _ hP hD hS (lv_sub hl [2, 3, 4, 1, 0] rfl) _ h kk
  unfold mX5_next at h
  refine lv_iconst (v := (-1)) hx hb dX5_next_0 (by decide) ?_
  refine lv_istore_n (lv' := [(3, .int (-1)), (0, .ref (aM 0)), (1, .int x1), (2, .int x2)]) hx hb dX5_next_1 rfl hl (by decide) rfl (fun ls hl => ?_)
  refine lv_iconst (v := 0) hx hb dX5_next_2 (by decide) ?_
  refine lv_istore (lv' := [(4, .int 0), (3, .int (-1)), (0, .ref (aM 0)), (1, .int x1), (2, .int x2)]) hx hb dX5_next_3 hl (by decide) rfl (fun ls hl => ?_)
  obtain ⟨o28, e29, h⟩ := q_bind h
  refine L5 vM x1 x2 (-1) 0 qFU _ _ _ hP hD hS (lv_sub hl [2, 3, 4, 1, 0] rfl) o28 e29 (fun H locs ls hP hD hS hl => ?_)
  refine lv_iload_n hx hb dX5_next_61 rfl (lv_at hl 0 rfl) ?_
  obtain rfl := q_inj h
  exact hRt 62 _ _ _ dX5_next_62 hP hD hS
def lpX5_busy_5 (vM : SM) (x1 : Int32) (x2 : Int32) : Nat → Int32 → Int32 → Option Int32
  | 0, _, _ => none
  | k + 1, x3, x4 => if (5 * (M_asks vM)) ≤ x4 then (some x3) else (ck x4 300 (Option.bind (if ((M_at vM) (Int32.toNatClampNeg x4)) = x1 then (ck x4 300 (if x2 < ((M_begun vM) (Int32.toNatClampNeg x4)) then (some 0) else (ck x4 300 (if ((M_done vM) (Int32.toNatClampNeg x4)) ≤ x2 then (some 0) else (ck x4 300 (if 2000000000 ≤ ((M_done vM) (Int32.toNatClampNeg x4)) then (some 0) else (some 1))))))) else (some 0)) fun z28 => lpX5_busy_5 vM x1 x2 k (x3 + z28) (x4 + 1)))
def mX5_busy (vM : SM) (x1 : Int32) (x2 : Int32) : Option Int32 := (lpX5_busy_5 vM x1 x2 qFU 0 0).bind fun o37 => some o37
def rmX5_busy : Room := { frames := 0, cells := 0, slots := 0, locals := 0 }
set_option maxHeartbeats 8000000 in
set_option maxRecDepth 100000 in
theorem wX5_busy (l : Launch) (E : qE) (aM : Nat → Nat) (vM : SM) (x1 : Int32) (x2 : Int32) (o : Int32) (h : mX5_busy vM x1 x2 = some o) : MI l E yX5_busy wsX5_busy rmX5_busy [.ref (aM 0), .int x1, .int x2] (WM E aM vM) (WM E aM vM) o := by
  refine q_startI (cc := cX5_busy) (maxL := 5) (by decide) rfl (Nat.le_of_ble_eq_true rfl) ?_
  intro pr e s m args below meth c A Q hx hb hml hown hts hK hRt hP hD hA hS ls hl
  have hl : lv_has ls 5 [(0, .ref (aM 0)), (1, .int x1), (2, .int x2)] := hl
  have hinX5 : ∀ w ∈ wsX50, w ∈ wsX5_busy := by decide +kernel
  have hw0 := hts (.fieldLink RX5 70 "QueueReaderModel" "asks" "I") (by decide +kernel)
  have hw1 := hts (.fieldLink RX5 28 "QueueReaderModel" "at" "[I") (by decide +kernel)
  have hw2 := hts (.fieldLink RX5 47 "QueueReaderModel" "begun" "[I") (by decide +kernel)
  have hw3 := hts (.fieldLink RX5 50 "QueueReaderModel" "done" "[I") (by decide +kernel)
  have hw4 := hts (.constant RX5 96 (2000000000)) (by decide +kernel)
  have L5 : ∀ (vM : SM) (x1 : Int32) (x2 : Int32) (x3 : Int32) (x4 : Int32) (k : Nat) (H : Heap) (locs : List Loc) (ls : Array Slot), va_P E.1 vwCl (WM E aM vM) H → va_D A (WM E aM vM) → va_S A s.heap H locs → lv_has ls 5 [(0, .ref (aM 0)), (1, .int x1), (2, .int x2), (3, .int x3), (4, .int x4)] → ∀ o, lpX5_busy_5 vM x1 x2 k x3 x4 = some o → (∀ (H : Heap) (locs : List Loc) (ls : Array Slot), va_P E.1 vwCl (WM E aM vM) H → va_D A (WM E aM vM) → va_S A s.heap H locs → lv_has ls 5 [(3, .int o)] → W pr l e rmX5_busy s m args below meth c H locs 0 0 Q (F0 m 75 ls [])) → W pr l e rmX5_busy s m args below meth c H locs 0 0 Q (F0 m 5 ls []) := by
    intro vM x1 x2 x3 x4 k
    induction k generalizing x3 x4 with
    | zero => intro H locs ls hP hD hS hl o h; cases h
    | succ k ih =>
      intro H locs ls hP hD hS hl o h kk
      rw [lpX5_busy_5] at h
      refine lv_iload hx hb dX5_busy_5 (lv_at hl 4 rfl) ?_
      refine lv_iconst (v := 5) hx hb dX5_busy_7 (by decide) ?_
      refine lv_aload_n hx hb dX5_busy_8 rfl (lv_at hl 0 rfl) ?_
      refine va_get (D := E.1) (ci := 5) (v := .int (M_asks vM)) (C := RX5) (T := TX5) (N := 19) hx hb hts hinX5 hown hK.1 hP 0 rfl rfl 8 (by decide) hw0 (fun _ h9 => h9) rfl dX5_busy_9 ?_
      refine lv_imul hx hb dX5_busy_12 ?_
      refine lv_icmp_ge (tgt := 75) hx hb dX5_busy_13 (by decide) (fun c25 => ?_) (fun c25 => ?_)
      · have h := q_pos c25 h
        obtain rfl := q_inj h
        exact kk _ _ _ hP hD hS (lv_sub hl [3] rfl)
      · have h := q_neg c25 h
        refine lv_iload_n hx hb dX5_busy_16 rfl (lv_at hl 3 rfl) ?_
        refine lv_aload_n hx hb dX5_busy_17 rfl (lv_at hl 0 rfl) ?_
        refine va_get (D := E.1) (ci := 5) (v := .ref (aM 7)) (C := RX5) (T := TX5) (N := 19) hx hb hts hinX5 hown hK.1 hP 0 rfl rfl 9 (by decide) hw1 (fun _ h9 => h9) rfl dX5_busy_18 ?_
        refine lv_iload hx hb dX5_busy_21 (lv_at hl 4 rfl) ?_
        obtain ⟨i26, h⟩ := q_ck h
        refine va_iald (f := (M_at vM)) hx hb hK.1 hP 7 0 rfl rfl i26 dX5_busy_23 ?_
        refine lv_iload_n hx hb dX5_busy_24 rfl (lv_at hl 1 rfl) ?_
        obtain ⟨z28, e29, h⟩ := q_bind h
        have KJ27 : ∀ (H : Heap) (locs : List Loc), va_P E.1 vwCl (WM E aM vM) H → va_D A (WM E aM vM) → va_S A s.heap H locs → W pr l e rmX5_busy s m args below meth c H locs 0 0 Q (F0 m 67 ls [.int z28, .int x3]) := by
          intro H locs hP hD hS
          refine lv_iadd hx hb dX5_busy_67 ?_
          refine lv_istore_n (lv' := [(3, .int (x3 + z28)), (0, .ref (aM 0)), (1, .int x1), (2, .int x2), (4, .int x4)]) hx hb dX5_busy_68 rfl hl (by decide) rfl (fun ls hl => ?_)
          refine lv_iinc (v := (x4 + 1)) (lv' := [(4, .int (x4 + 1)), (3, .int (x3 + z28)), (0, .ref (aM 0)), (1, .int x1), (2, .int x2)]) hx hb dX5_busy_69 hl (k := 4) rfl rfl (by decide) rfl (fun ls hl => ?_)
          refine lv_goto (tgt := 5) hx hb dX5_busy_72 (by decide) ?_
          exact ih (x3 + z28) (x4 + 1) _ _ _ hP hD hS (lv_sub hl [2, 3, 4, 1, 0] rfl) _ h kk
        have h := e29
        refine lv_icmp_ne (tgt := 66) hx hb dX5_busy_25 (by decide) (fun c30 => ?_) (fun c30 => ?_)
        · have h := q_neg c30 h
          refine lv_iconst (v := 0) hx hb dX5_busy_66 (by decide) ?_
          obtain rfl := q_inj h
          exact KJ27 _ _ hP hD hS
        · have h := q_pos c30 h
          refine lv_aload_n hx hb dX5_busy_28 rfl (lv_at hl 0 rfl) ?_
          refine va_get (D := E.1) (ci := 5) (v := .ref (aM 13)) (C := RX5) (T := TX5) (N := 19) hx hb hts hinX5 hown hK.1 hP 0 rfl rfl 15 (by decide) hw2 (fun _ h9 => h9) rfl dX5_busy_29 ?_
          refine lv_iload hx hb dX5_busy_32 (lv_at hl 4 rfl) ?_
          obtain ⟨i31, h⟩ := q_ck h
          refine va_iald (f := (M_begun vM)) hx hb hK.1 hP 13 0 rfl rfl i31 dX5_busy_34 ?_
          refine lv_iload_n hx hb dX5_busy_35 rfl (lv_at hl 2 rfl) ?_
          refine lv_icmp_gt (tgt := 66) hx hb dX5_busy_36 (by decide) (fun c32 => ?_) (fun c32 => ?_)
          · have h := q_pos c32 h
            refine lv_iconst (v := 0) hx hb dX5_busy_66 (by decide) ?_
            obtain rfl := q_inj h
            exact KJ27 _ _ hP hD hS
          · have h := q_neg c32 h
            refine lv_aload_n hx hb dX5_busy_39 rfl (lv_at hl 0 rfl) ?_
            refine va_get (D := E.1) (ci := 5) (v := .ref (aM 14)) (C := RX5) (T := TX5) (N := 19) hx hb hts hinX5 hown hK.1 hP 0 rfl rfl 16 (by decide) hw3 (fun _ h9 => h9) rfl dX5_busy_40 ?_
            refine lv_iload hx hb dX5_busy_43 (lv_at hl 4 rfl) ?_
            obtain ⟨i33, h⟩ := q_ck h
            refine va_iald (f := (M_done vM)) hx hb hK.1 hP 14 0 rfl rfl i33 dX5_busy_45 ?_
            refine lv_iload_n hx hb dX5_busy_46 rfl (lv_at hl 2 rfl) ?_
            refine lv_icmp_le (tgt := 66) hx hb dX5_busy_47 (by decide) (fun c34 => ?_) (fun c34 => ?_)
            · have h := q_pos c34 h
              refine lv_iconst (v := 0) hx hb dX5_busy_66 (by decide) ?_
              obtain rfl := q_inj h
              exact KJ27 _ _ hP hD hS
            · have h := q_neg c34 h
              refine lv_aload_n hx hb dX5_busy_50 rfl (lv_at hl 0 rfl) ?_
              refine va_get (D := E.1) (ci := 5) (v := .ref (aM 14)) (C := RX5) (T := TX5) (N := 19) hx hb hts hinX5 hown hK.1 hP 0 rfl rfl 16 (by decide) hw3 (fun _ h9 => h9) rfl dX5_busy_51 ?_
              refine lv_iload hx hb dX5_busy_54 (lv_at hl 4 rfl) ?_
              obtain ⟨i35, h⟩ := q_ck h
              refine va_iald (f := (M_done vM)) hx hb hK.1 hP 14 0 rfl rfl i35 dX5_busy_56 ?_
              refine lv_ldc (v := 2000000000) hx hb hown hw4 dX5_busy_57 ?_
              refine lv_icmp_ge (tgt := 66) hx hb dX5_busy_59 (by decide) (fun c36 => ?_) (fun c36 => ?_)
              · have h := q_pos c36 h
                refine lv_iconst (v := 0) hx hb dX5_busy_66 (by decide) ?_
                obtain rfl := q_inj h
                exact KJ27 _ _ hP hD hS
              · have h := q_neg c36 h
                refine lv_iconst (v := 1) hx hb dX5_busy_62 (by decide) ?_
                refine lv_goto (tgt := 67) hx hb dX5_busy_63 (by decide) ?_
                obtain rfl := q_inj h
                exact KJ27 _ _ hP hD hS
  unfold mX5_busy at h
  refine lv_iconst (v := 0) hx hb dX5_busy_0 (by decide) ?_
  refine lv_istore_n (lv' := [(3, .int 0), (0, .ref (aM 0)), (1, .int x1), (2, .int x2)]) hx hb dX5_busy_1 rfl hl (by decide) rfl (fun ls hl => ?_)
  refine lv_iconst (v := 0) hx hb dX5_busy_2 (by decide) ?_
  refine lv_istore (lv' := [(4, .int 0), (3, .int 0), (0, .ref (aM 0)), (1, .int x1), (2, .int x2)]) hx hb dX5_busy_3 hl (by decide) rfl (fun ls hl => ?_)
  obtain ⟨o37, e38, h⟩ := q_bind h
  refine L5 vM x1 x2 0 0 qFU _ _ _ hP hD hS (lv_sub hl [2, 3, 4, 1, 0] rfl) o37 e38 (fun H locs ls hP hD hS hl => ?_)
  refine lv_iload_n hx hb dX5_busy_75 rfl (lv_at hl 0 rfl) ?_
  obtain rfl := q_inj h
  exact hRt 76 _ _ _ dX5_busy_76 hP hD hS
def lpX5_begins_19 (x1 : Int32) (x3 : Int32) (x4 : Int32) : Nat → Int32 → Int32 → SM → Option SM
  | 0, _, _, _ => none
  | k + 1, x5, x6, vM => if x5 ≤ 0 then (some vM) else (if x6 < 0 then (some vM) else (ck x6 300 (ck x6 300 (ck x6 300 (ck x6 300 ((mX5_next (M_waits_s (M_done_s (M_begun_s vM (upd (M_begun vM) (Int32.toNatClampNeg x6) x4)) (upd (M_done vM) (Int32.toNatClampNeg x6) (x4 + ((M_pWork vM) (Int32.toNatClampNeg x6))))) (upd (M_waits vM) (Int32.toNatClampNeg x6) (vp_nar .boolean 0))) x1 x3).bind fun o27 => lpX5_begins_19 x1 x3 x4 k (x5 + (-1)) o27 (M_waits_s (M_done_s (M_begun_s vM (upd (M_begun vM) (Int32.toNatClampNeg x6) x4)) (upd (M_done vM) (Int32.toNatClampNeg x6) (x4 + ((M_pWork vM) (Int32.toNatClampNeg x6))))) (upd (M_waits vM) (Int32.toNatClampNeg x6) (vp_nar .boolean 0)))))))))
def mX5_begins (vM : SM) (x1 : Int32) (x2 : Int32) (x3 : Int32) (x4 : Int32) : Option SM := (mX5_busy vM x1 x4).bind fun o1 => (mX5_next vM x1 x3).bind fun o3 => (lpX5_begins_19 x1 x3 x4 qFU (x2 - o1) o3 vM).bind fun o29 => some o29
def rmX5_begins : Room := { frames := 2, cells := 0, slots := 0, locals := 47 }
set_option maxHeartbeats 8000000 in
set_option maxRecDepth 100000 in
theorem wX5_begins (l : Launch) (E : qE) (aM : Nat → Nat) (vM : SM) (x1 : Int32) (x2 : Int32) (x3 : Int32) (x4 : Int32) (o : SM) (h : mX5_begins vM x1 x2 x3 x4 = some o) : MV l E yX5_begins wsX5_begins rmX5_begins [.ref (aM 0), .int x1, .int x2, .int x3, .int x4] (WM E aM vM) (WM E aM o) := by
  refine q_startV (cc := cX5_begins) (maxL := 7) (by decide) rfl (Nat.le_of_ble_eq_true rfl) ?_
  intro pr e s m args below meth c A Q hx hb hml hown hts hK hRt hP hD hA hS ls hl
  have hl : lv_has ls 7 [(0, .ref (aM 0)), (1, .int x1), (2, .int x2), (3, .int x3), (4, .int x4)] := hl
  have hinX5 : ∀ w ∈ wsX50, w ∈ wsX5_begins := by decide +kernel
  have hw0 := hts (.fieldLink RX5 53 "QueueReaderModel" "waits" "[Z") (by decide +kernel)
  have hw1 := hts (.fieldLink RX5 47 "QueueReaderModel" "begun" "[I") (by decide +kernel)
  have hw2 := hts (.fieldLink RX5 50 "QueueReaderModel" "done" "[I") (by decide +kernel)
  have hw3 := hts (.fieldLink RX5 56 "QueueReaderModel" "pWork" "[I") (by decide +kernel)
  have L19 : ∀ (vM : SM) (x1 : Int32) (x3 : Int32) (x4 : Int32) (x5 : Int32) (x6 : Int32) (k : Nat) (H : Heap) (locs : List Loc) (ls : Array Slot), va_P E.1 vwCl (WM E aM vM) H → va_D A (WM E aM vM) → va_S A s.heap H locs → lv_has ls 7 [(0, .ref (aM 0)), (1, .int x1), (3, .int x3), (4, .int x4), (5, .int x5), (6, .int x6)] → ∀ o, lpX5_begins_19 x1 x3 x4 k x5 x6 vM = some o → (∀ (H : Heap) (locs : List Loc) (ls : Array Slot), va_P E.1 vwCl (WM E aM o) H → va_D A (WM E aM o) → va_S A s.heap H locs → lv_has ls 7 [] → W pr l e rmX5_begins s m args below meth c H locs 0 0 Q (F0 m 77 ls [])) → W pr l e rmX5_begins s m args below meth c H locs 0 0 Q (F0 m 19 ls []) := by
    intro vM x1 x3 x4 x5 x6 k
    induction k generalizing x5 x6 vM with
    | zero => intro H locs ls hP hD hS hl o h; cases h
    | succ k ih =>
      intro H locs ls hP hD hS hl o h kk
      rw [lpX5_begins_19] at h
      refine lv_iload hx hb dX5_begins_19 (lv_at hl 4 rfl) ?_
      refine lv_if_le (tgt := 77) hx hb dX5_begins_21 (by decide) (fun c21 => ?_) (fun c21 => ?_)
      · have h := q_pos c21 h
        obtain rfl := q_inj h
        exact kk _ _ _ hP hD hS (lv_sub hl [] rfl)
      · have h := q_neg c21 h
        refine lv_iload hx hb dX5_begins_24 (lv_at hl 5 rfl) ?_
        refine lv_if_lt (tgt := 77) hx hb dX5_begins_26 (by decide) (fun c22 => ?_) (fun c22 => ?_)
        · have h := q_pos c22 h
          obtain rfl := q_inj h
          exact kk _ _ _ hP hD hS (lv_sub hl [] rfl)
        · have h := q_neg c22 h
          refine lv_aload_n hx hb dX5_begins_29 rfl (lv_at hl 0 rfl) ?_
          refine va_get (D := E.1) (ci := 5) (v := .ref (aM 15)) (C := RX5) (T := TX5) (N := 19) hx hb hts hinX5 hown hK.1 hP 0 rfl rfl 17 (by decide) hw0 (fun _ h9 => h9) rfl dX5_begins_30 ?_
          refine lv_iload hx hb dX5_begins_33 (lv_at hl 5 rfl) ?_
          refine lv_iconst (v := 0) hx hb dX5_begins_35 (by decide) ?_
          obtain ⟨i23, h⟩ := q_ck h
          refine va_zast (f := (M_waits vM)) hx hb hK.1 hP hD hS 15 2 rfl rfl i23 dX5_begins_36 (fun H locs hP hD hS => ?_)
          have hP : va_P E.1 vwCl (WM E aM (M_waits_s vM (upd (M_waits vM) (Int32.toNatClampNeg x6) (vp_nar .boolean 0)))) H := hP
          have hD : va_D A (WM E aM (M_waits_s vM (upd (M_waits vM) (Int32.toNatClampNeg x6) (vp_nar .boolean 0)))) := hD
          refine lv_aload_n hx hb dX5_begins_37 rfl (lv_at hl 0 rfl) ?_
          refine va_get (D := E.1) (ci := 5) (v := .ref (aM 13)) (C := RX5) (T := TX5) (N := 19) hx hb hts hinX5 hown hK.1 hP 0 rfl rfl 15 (by decide) hw1 (fun _ h9 => h9) rfl dX5_begins_38 ?_
          refine lv_iload hx hb dX5_begins_41 (lv_at hl 5 rfl) ?_
          refine lv_iload hx hb dX5_begins_43 (lv_at hl 3 rfl) ?_
          obtain ⟨i24, h⟩ := q_ck h
          refine va_iast (f := (M_begun vM)) hx hb hK.1 hP hD hS 13 0 rfl rfl i24 dX5_begins_45 (fun H locs hP hD hS => ?_)
          have hP : va_P E.1 vwCl (WM E aM (M_waits_s (M_begun_s vM (upd (M_begun vM) (Int32.toNatClampNeg x6) x4)) (upd (M_waits vM) (Int32.toNatClampNeg x6) (vp_nar .boolean 0)))) H := hP
          have hD : va_D A (WM E aM (M_waits_s (M_begun_s vM (upd (M_begun vM) (Int32.toNatClampNeg x6) x4)) (upd (M_waits vM) (Int32.toNatClampNeg x6) (vp_nar .boolean 0)))) := hD
          refine lv_aload_n hx hb dX5_begins_46 rfl (lv_at hl 0 rfl) ?_
          refine va_get (D := E.1) (ci := 5) (v := .ref (aM 14)) (C := RX5) (T := TX5) (N := 19) hx hb hts hinX5 hown hK.1 hP 0 rfl rfl 16 (by decide) hw2 (fun _ h9 => h9) rfl dX5_begins_47 ?_
          refine lv_iload hx hb dX5_begins_50 (lv_at hl 5 rfl) ?_
          refine lv_iload hx hb dX5_begins_52 (lv_at hl 3 rfl) ?_
          refine lv_aload_n hx hb dX5_begins_54 rfl (lv_at hl 0 rfl) ?_
          refine va_get (D := E.1) (ci := 5) (v := .ref (aM 16)) (C := RX5) (T := TX5) (N := 19) hx hb hts hinX5 hown hK.1 hP 0 rfl rfl 18 (by decide) hw3 (fun _ h9 => h9) rfl dX5_begins_55 ?_
          refine lv_iload hx hb dX5_begins_58 (lv_at hl 5 rfl) ?_
          obtain ⟨i25, h⟩ := q_ck h
          refine va_iald (f := (M_pWork vM)) hx hb hK.1 hP 16 0 rfl rfl i25 dX5_begins_60 ?_
          refine lv_iadd hx hb dX5_begins_61 ?_
          obtain ⟨i26, h⟩ := q_ck h
          refine va_iast (f := (M_done vM)) hx hb hK.1 hP hD hS 14 0 rfl rfl i26 dX5_begins_62 (fun H locs hP hD hS => ?_)
          have hP : va_P E.1 vwCl (WM E aM (M_waits_s (M_done_s (M_begun_s vM (upd (M_begun vM) (Int32.toNatClampNeg x6) x4)) (upd (M_done vM) (Int32.toNatClampNeg x6) (x4 + ((M_pWork vM) (Int32.toNatClampNeg x6))))) (upd (M_waits vM) (Int32.toNatClampNeg x6) (vp_nar .boolean 0)))) H := hP
          have hD : va_D A (WM E aM (M_waits_s (M_done_s (M_begun_s vM (upd (M_begun vM) (Int32.toNatClampNeg x6) x4)) (upd (M_done vM) (Int32.toNatClampNeg x6) (x4 + ((M_pWork vM) (Int32.toNatClampNeg x6))))) (upd (M_waits vM) (Int32.toNatClampNeg x6) (vp_nar .boolean 0)))) := hD
          refine lv_iinc (v := (x5 + (-1))) (lv' := [(5, .int (x5 + (-1))), (0, .ref (aM 0)), (1, .int x1), (3, .int x3), (4, .int x4), (6, .int x6)]) hx hb dX5_begins_63 hl (k := 4) rfl rfl (by decide) rfl (fun ls hl => ?_)
          refine lv_aload_n hx hb dX5_begins_66 rfl (lv_at hl 1 rfl) ?_
          refine lv_iload_n hx hb dX5_begins_67 rfl (lv_at hl 2 rfl) ?_
          refine lv_iload_n hx hb dX5_begins_68 rfl (lv_at hl 3 rfl) ?_
          obtain ⟨o27, e28, h⟩ := q_bind h
          refine q_ci (va_runV (As := [.int x1, .int x3]) (rest := []) ⟨hx, hb, hml, hown, hts⟩ (wX5_next l E aM (M_waits_s (M_done_s (M_begun_s vM (upd (M_begun vM) (Int32.toNatClampNeg x6) x4)) (upd (M_done vM) (Int32.toNatClampNeg x6) (x4 + ((M_pWork vM) (Int32.toNatClampNeg x6))))) (upd (M_waits vM) (Int32.toNatClampNeg x6) (vp_nar .boolean 0))) x1 x3 o27 e28 _) (cwV 2 hts gX5_begins_X5_next rfl rfl rfl (by decide +kernel) ⟨Nat.le_of_ble_eq_true rfl, Nat.le_of_ble_eq_true rfl⟩) (q_preV hK hP hD q_idl 5 0 rfl rfl) rfl rfl hl.1 rfl (lv_room (Nat.le_of_ble_eq_true rfl)) dX5_begins_69 ⟨Nat.zero_le _, Nat.zero_le _⟩) hP hD hS hA q_idl q_idr (fun H locs hP hD hS => ?_)
          refine lv_istore (lv' := [(6, .int o27), (5, .int (x5 + (-1))), (0, .ref (aM 0)), (1, .int x1), (3, .int x3), (4, .int x4)]) hx hb dX5_begins_72 hl (by decide) rfl (fun ls hl => ?_)
          refine lv_goto (tgt := 19) hx hb dX5_begins_74 (by decide) ?_
          exact ih (M_waits_s (M_done_s (M_begun_s vM (upd (M_begun vM) (Int32.toNatClampNeg x6) x4)) (upd (M_done vM) (Int32.toNatClampNeg x6) (x4 + ((M_pWork vM) (Int32.toNatClampNeg x6))))) (upd (M_waits vM) (Int32.toNatClampNeg x6) (vp_nar .boolean 0))) (x5 + (-1)) o27 _ _ _ hP hD hS (lv_sub hl [2, 3, 4, 5, 1, 0] rfl) _ h kk
  unfold mX5_begins at h
  refine lv_iload_n hx hb dX5_begins_0 rfl (lv_at hl 2 rfl) ?_
  refine lv_aload_n hx hb dX5_begins_1 rfl (lv_at hl 0 rfl) ?_
  refine lv_iload_n hx hb dX5_begins_2 rfl (lv_at hl 1 rfl) ?_
  refine lv_iload hx hb dX5_begins_3 (lv_at hl 4 rfl) ?_
  obtain ⟨o1, e2, h⟩ := q_bind h
  refine q_ci (va_runV (As := [.int x1, .int x4]) (rest := [.int x2]) ⟨hx, hb, hml, hown, hts⟩ (wX5_busy l E aM vM x1 x4 o1 e2 _) (cwV 2 hts gX5_begins_X5_busy rfl rfl rfl (by decide +kernel) ⟨Nat.le_of_ble_eq_true rfl, Nat.le_of_ble_eq_true rfl⟩) (q_preV hK hP hD q_idl 5 0 rfl rfl) rfl rfl hl.1 rfl (lv_room (Nat.le_of_ble_eq_true rfl)) dX5_begins_5 ⟨Nat.zero_le _, Nat.zero_le _⟩) hP hD hS hA q_idl q_idr (fun H locs hP hD hS => ?_)
  refine lv_isub hx hb dX5_begins_8 ?_
  refine lv_istore (lv' := [(5, .int (x2 - o1)), (0, .ref (aM 0)), (1, .int x1), (2, .int x2), (3, .int x3), (4, .int x4)]) hx hb dX5_begins_9 hl (by decide) rfl (fun ls hl => ?_)
  refine lv_aload_n hx hb dX5_begins_11 rfl (lv_at hl 1 rfl) ?_
  refine lv_iload_n hx hb dX5_begins_12 rfl (lv_at hl 2 rfl) ?_
  refine lv_iload_n hx hb dX5_begins_13 rfl (lv_at hl 4 rfl) ?_
  obtain ⟨o3, e4, h⟩ := q_bind h
  refine q_ci (va_runV (As := [.int x1, .int x3]) (rest := []) ⟨hx, hb, hml, hown, hts⟩ (wX5_next l E aM vM x1 x3 o3 e4 _) (cwV 2 hts gX5_begins_X5_next rfl rfl rfl (by decide +kernel) ⟨Nat.le_of_ble_eq_true rfl, Nat.le_of_ble_eq_true rfl⟩) (q_preV hK hP hD q_idl 5 0 rfl rfl) rfl rfl hl.1 rfl (lv_room (Nat.le_of_ble_eq_true rfl)) dX5_begins_14 ⟨Nat.zero_le _, Nat.zero_le _⟩) hP hD hS hA q_idl q_idr (fun H locs hP hD hS => ?_)
  refine lv_istore (lv' := [(6, .int o3), (5, .int (x2 - o1)), (0, .ref (aM 0)), (1, .int x1), (2, .int x2), (3, .int x3), (4, .int x4)]) hx hb dX5_begins_17 hl (by decide) rfl (fun ls hl => ?_)
  obtain ⟨o29, e30, h⟩ := q_bind h
  refine L19 vM x1 x3 x4 (x2 - o1) o3 qFU _ _ _ hP hD hS (lv_sub hl [2, 3, 5, 6, 1, 0] rfl) o29 e30 (fun H locs ls hP hD hS hl => ?_)
  obtain rfl := q_inj h
  exact hRt 77 _ _ _ dX5_begins_77 hP hD hS
def lpX5_forgets_2  : Nat → Int32 → SM → Option SM
  | 0, _, _ => none
  | k + 1, x1, vM => if 300 ≤ x1 then (some vM) else (ck x1 300 (ck x1 300 (ck x1 300 (ck x1 300 (lpX5_forgets_2  k (x1 + 1) (M_waits_s (M_done_s (M_begun_s (M_came_s vM (upd (M_came vM) (Int32.toNatClampNeg x1) 2000000000)) (upd (M_begun vM) (Int32.toNatClampNeg x1) 2000000000)) (upd (M_done vM) (Int32.toNatClampNeg x1) 2000000000)) (upd (M_waits vM) (Int32.toNatClampNeg x1) (vp_nar .boolean 0))))))))
def mX5_forgets (vM : SM)  : Option SM := (lpX5_forgets_2  qFU 0 vM).bind fun o16 => some o16
def rmX5_forgets : Room := { frames := 0, cells := 0, slots := 0, locals := 0 }
set_option maxHeartbeats 8000000 in
set_option maxRecDepth 100000 in
theorem wX5_forgets (l : Launch) (E : qE) (aM : Nat → Nat) (vM : SM)  (o : SM) (h : mX5_forgets vM = some o) : MV l E yX5_forgets wsX5_forgets rmX5_forgets [.ref (aM 0)] (WM E aM vM) (WM E aM o) := by
  refine q_startV (cc := cX5_forgets) (maxL := 2) (by decide) rfl (Nat.le_of_ble_eq_true rfl) ?_
  intro pr e s m args below meth c A Q hx hb hml hown hts hK hRt hP hD hA hS ls hl
  have hl : lv_has ls 2 [(0, .ref (aM 0))] := hl
  have hinX5 : ∀ w ∈ wsX50, w ∈ wsX5_forgets := by decide +kernel
  have hw0 := hts (.fieldLink RX5 44 "QueueReaderModel" "came" "[I") (by decide +kernel)
  have hw1 := hts (.constant RX5 96 (2000000000)) (by decide +kernel)
  have hw2 := hts (.fieldLink RX5 47 "QueueReaderModel" "begun" "[I") (by decide +kernel)
  have hw3 := hts (.fieldLink RX5 50 "QueueReaderModel" "done" "[I") (by decide +kernel)
  have hw4 := hts (.fieldLink RX5 53 "QueueReaderModel" "waits" "[Z") (by decide +kernel)
  have L2 : ∀ (vM : SM) (x1 : Int32) (k : Nat) (H : Heap) (locs : List Loc) (ls : Array Slot), va_P E.1 vwCl (WM E aM vM) H → va_D A (WM E aM vM) → va_S A s.heap H locs → lv_has ls 2 [(0, .ref (aM 0)), (1, .int x1)] → ∀ o, lpX5_forgets_2  k x1 vM = some o → (∀ (H : Heap) (locs : List Loc) (ls : Array Slot), va_P E.1 vwCl (WM E aM o) H → va_D A (WM E aM o) → va_S A s.heap H locs → lv_has ls 2 [] → W pr l e rmX5_forgets s m args below meth c H locs 0 0 Q (F0 m 46 ls [])) → W pr l e rmX5_forgets s m args below meth c H locs 0 0 Q (F0 m 2 ls []) := by
    intro vM x1 k
    induction k generalizing x1 vM with
    | zero => intro H locs ls hP hD hS hl o h; cases h
    | succ k ih =>
      intro H locs ls hP hD hS hl o h kk
      rw [lpX5_forgets_2] at h
      refine lv_iload_n hx hb dX5_forgets_2 rfl (lv_at hl 1 rfl) ?_
      refine lv_sipush (v := 300) hx hb dX5_forgets_3 (by decide) ?_
      refine lv_icmp_ge (tgt := 46) hx hb dX5_forgets_6 (by decide) (fun c11 => ?_) (fun c11 => ?_)
      · have h := q_pos c11 h
        obtain rfl := q_inj h
        exact kk _ _ _ hP hD hS (lv_sub hl [] rfl)
      · have h := q_neg c11 h
        refine lv_aload_n hx hb dX5_forgets_9 rfl (lv_at hl 0 rfl) ?_
        refine va_get (D := E.1) (ci := 5) (v := .ref (aM 12)) (C := RX5) (T := TX5) (N := 19) hx hb hts hinX5 hown hK.1 hP 0 rfl rfl 14 (by decide) hw0 (fun _ h9 => h9) rfl dX5_forgets_10 ?_
        refine lv_iload_n hx hb dX5_forgets_13 rfl (lv_at hl 1 rfl) ?_
        refine lv_ldc (v := 2000000000) hx hb hown hw1 dX5_forgets_14 ?_
        obtain ⟨i12, h⟩ := q_ck h
        refine va_iast (f := (M_came vM)) hx hb hK.1 hP hD hS 12 0 rfl rfl i12 dX5_forgets_16 (fun H locs hP hD hS => ?_)
        have hP : va_P E.1 vwCl (WM E aM (M_came_s vM (upd (M_came vM) (Int32.toNatClampNeg x1) 2000000000))) H := hP
        have hD : va_D A (WM E aM (M_came_s vM (upd (M_came vM) (Int32.toNatClampNeg x1) 2000000000))) := hD
        refine lv_aload_n hx hb dX5_forgets_17 rfl (lv_at hl 0 rfl) ?_
        refine va_get (D := E.1) (ci := 5) (v := .ref (aM 13)) (C := RX5) (T := TX5) (N := 19) hx hb hts hinX5 hown hK.1 hP 0 rfl rfl 15 (by decide) hw2 (fun _ h9 => h9) rfl dX5_forgets_18 ?_
        refine lv_iload_n hx hb dX5_forgets_21 rfl (lv_at hl 1 rfl) ?_
        refine lv_ldc (v := 2000000000) hx hb hown hw1 dX5_forgets_22 ?_
        obtain ⟨i13, h⟩ := q_ck h
        refine va_iast (f := (M_begun vM)) hx hb hK.1 hP hD hS 13 0 rfl rfl i13 dX5_forgets_24 (fun H locs hP hD hS => ?_)
        have hP : va_P E.1 vwCl (WM E aM (M_begun_s (M_came_s vM (upd (M_came vM) (Int32.toNatClampNeg x1) 2000000000)) (upd (M_begun vM) (Int32.toNatClampNeg x1) 2000000000))) H := hP
        have hD : va_D A (WM E aM (M_begun_s (M_came_s vM (upd (M_came vM) (Int32.toNatClampNeg x1) 2000000000)) (upd (M_begun vM) (Int32.toNatClampNeg x1) 2000000000))) := hD
        refine lv_aload_n hx hb dX5_forgets_25 rfl (lv_at hl 0 rfl) ?_
        refine va_get (D := E.1) (ci := 5) (v := .ref (aM 14)) (C := RX5) (T := TX5) (N := 19) hx hb hts hinX5 hown hK.1 hP 0 rfl rfl 16 (by decide) hw3 (fun _ h9 => h9) rfl dX5_forgets_26 ?_
        refine lv_iload_n hx hb dX5_forgets_29 rfl (lv_at hl 1 rfl) ?_
        refine lv_ldc (v := 2000000000) hx hb hown hw1 dX5_forgets_30 ?_
        obtain ⟨i14, h⟩ := q_ck h
        refine va_iast (f := (M_done vM)) hx hb hK.1 hP hD hS 14 0 rfl rfl i14 dX5_forgets_32 (fun H locs hP hD hS => ?_)
        have hP : va_P E.1 vwCl (WM E aM (M_done_s (M_begun_s (M_came_s vM (upd (M_came vM) (Int32.toNatClampNeg x1) 2000000000)) (upd (M_begun vM) (Int32.toNatClampNeg x1) 2000000000)) (upd (M_done vM) (Int32.toNatClampNeg x1) 2000000000))) H := hP
        have hD : va_D A (WM E aM (M_done_s (M_begun_s (M_came_s vM (upd (M_came vM) (Int32.toNatClampNeg x1) 2000000000)) (upd (M_begun vM) (Int32.toNatClampNeg x1) 2000000000)) (upd (M_done vM) (Int32.toNatClampNeg x1) 2000000000))) := hD
        refine lv_aload_n hx hb dX5_forgets_33 rfl (lv_at hl 0 rfl) ?_
        refine va_get (D := E.1) (ci := 5) (v := .ref (aM 15)) (C := RX5) (T := TX5) (N := 19) hx hb hts hinX5 hown hK.1 hP 0 rfl rfl 17 (by decide) hw4 (fun _ h9 => h9) rfl dX5_forgets_34 ?_
        refine lv_iload_n hx hb dX5_forgets_37 rfl (lv_at hl 1 rfl) ?_
        refine lv_iconst (v := 0) hx hb dX5_forgets_38 (by decide) ?_
        obtain ⟨i15, h⟩ := q_ck h
        refine va_zast (f := (M_waits vM)) hx hb hK.1 hP hD hS 15 2 rfl rfl i15 dX5_forgets_39 (fun H locs hP hD hS => ?_)
        have hP : va_P E.1 vwCl (WM E aM (M_waits_s (M_done_s (M_begun_s (M_came_s vM (upd (M_came vM) (Int32.toNatClampNeg x1) 2000000000)) (upd (M_begun vM) (Int32.toNatClampNeg x1) 2000000000)) (upd (M_done vM) (Int32.toNatClampNeg x1) 2000000000)) (upd (M_waits vM) (Int32.toNatClampNeg x1) (vp_nar .boolean 0)))) H := hP
        have hD : va_D A (WM E aM (M_waits_s (M_done_s (M_begun_s (M_came_s vM (upd (M_came vM) (Int32.toNatClampNeg x1) 2000000000)) (upd (M_begun vM) (Int32.toNatClampNeg x1) 2000000000)) (upd (M_done vM) (Int32.toNatClampNeg x1) 2000000000)) (upd (M_waits vM) (Int32.toNatClampNeg x1) (vp_nar .boolean 0)))) := hD
        refine lv_iinc (v := (x1 + 1)) (lv' := [(1, .int (x1 + 1)), (0, .ref (aM 0))]) hx hb dX5_forgets_40 hl (k := 1) rfl rfl (by decide) rfl (fun ls hl => ?_)
        refine lv_goto (tgt := 2) hx hb dX5_forgets_43 (by decide) ?_
        exact ih (M_waits_s (M_done_s (M_begun_s (M_came_s vM (upd (M_came vM) (Int32.toNatClampNeg x1) 2000000000)) (upd (M_begun vM) (Int32.toNatClampNeg x1) 2000000000)) (upd (M_done vM) (Int32.toNatClampNeg x1) 2000000000)) (upd (M_waits vM) (Int32.toNatClampNeg x1) (vp_nar .boolean 0))) (x1 + 1) _ _ _ hP hD hS (lv_sub hl [1, 0] rfl) _ h kk
  unfold mX5_forgets at h
  refine lv_iconst (v := 0) hx hb dX5_forgets_0 (by decide) ?_
  refine lv_istore_n (lv' := [(1, .int 0), (0, .ref (aM 0))]) hx hb dX5_forgets_1 rfl hl (by decide) rfl (fun ls hl => ?_)
  obtain ⟨o16, e17, h⟩ := q_bind h
  refine L2 vM 0 qFU _ _ _ hP hD hS (lv_sub hl [1, 0] rfl) o16 e17 (fun H locs ls hP hD hS hl => ?_)
  obtain rfl := q_inj h
  exact hRt 46 _ _ _ dX5_forgets_46 hP hD hS
def lpX5_plays_6  : Nat → Int32 → SM → Option SM
  | 0, _, _ => none
  | k + 1, x2, vM => if 300 ≤ x2 then (some vM) else (ck x2 300 (ck x2 300 (lpX5_plays_6  k (x2 + 1) (M_pWork_s vM (upd (M_pWork vM) (Int32.toNatClampNeg x2) ((M_work vM) (Int32.toNatClampNeg x2)))))))
def lpX5_plays_33  : Nat → Int32 → SM → Option SM
  | 0, _, _ => none
  | k + 1, x2, vM => if (M_asks vM) ≤ x2 then (some vM) else (ck x2 60 (ck (5 * x2) 300 (lpX5_plays_33  k (x2 + 1) (M_came_s vM (upd (M_came vM) (Int32.toNatClampNeg (5 * x2)) ((M_start vM) (Int32.toNatClampNeg x2)))))))
def lpX5_plays_69 (vM : SM) (x2 : Int32) : Nat → Int32 → Int32 → Option Int32
  | 0, _, _ => none
  | k + 1, x3, x4 => if (5 * (M_asks vM)) ≤ x4 then (some x3) else (ck x4 300 (if ((M_came vM) (Int32.toNatClampNeg x4)) ≤ x2 then (ck x4 300 (if ((M_done vM) (Int32.toNatClampNeg x4)) ≤ x2 then (lpX5_plays_69 vM x2 k x3 (x4 + 1)) else (ck x4 300 (lpX5_plays_69 vM x2 k (if ((M_done vM) (Int32.toNatClampNeg x4)) < x3 then ((M_done vM) (Int32.toNatClampNeg x4)) else x3) (x4 + 1))))) else (ck x4 300 (ck x4 300 (if ((M_done vM) (Int32.toNatClampNeg x4)) ≤ x2 then (lpX5_plays_69 vM x2 k (if ((M_came vM) (Int32.toNatClampNeg x4)) < x3 then ((M_came vM) (Int32.toNatClampNeg x4)) else x3) (x4 + 1)) else (ck x4 300 (lpX5_plays_69 vM x2 k (if ((M_done vM) (Int32.toNatClampNeg x4)) < (if ((M_came vM) (Int32.toNatClampNeg x4)) < x3 then ((M_came vM) (Int32.toNatClampNeg x4)) else x3) then ((M_done vM) (Int32.toNatClampNeg x4)) else (if ((M_came vM) (Int32.toNatClampNeg x4)) < x3 then ((M_came vM) (Int32.toNatClampNeg x4)) else x3)) (x4 + 1))))))))
def lpX5_plays_149 (x2 : Int32) : Nat → Int32 → SM → Option SM
  | 0, _, _ => none
  | k + 1, x4, vM => if (5 * (M_asks vM)) ≤ x4 then (some vM) else (ck x4 300 (if ((M_done vM) (Int32.toNatClampNeg x4)) = x2 then (ck (x4 / 5) 60 (if ((M_steps vM) (Int32.toNatClampNeg (x4 / 5))) ≤ ((x4 - x4 / 5 * 5) + 1) then (lpX5_plays_149 x2 k (x4 + 1) vM) else (ck x4 300 (ck ((M_at vM) (Int32.toNatClampNeg x4)) 5 (ck (x4 + 1) 300 (lpX5_plays_149 x2 k (x4 + 1) (M_came_s vM (upd (M_came vM) (Int32.toNatClampNeg (x4 + 1)) (x2 + ((M_delay vM) (Int32.toNatClampNeg ((M_at vM) (Int32.toNatClampNeg x4))))))))))))) else (lpX5_plays_149 x2 k (x4 + 1) vM)))
def lpX5_plays_221 (x2 : Int32) : Nat → Int32 → SM → Option SM
  | 0, _, _ => none
  | k + 1, x4, vM => if (5 * (M_asks vM)) ≤ x4 then (some vM) else (ck x4 300 (if ((M_came vM) (Int32.toNatClampNeg x4)) = x2 then (ck x4 300 (if ((M_begun vM) (Int32.toNatClampNeg x4)) = 2000000000 then (ck x4 300 (lpX5_plays_221 x2 k (x4 + 1) (M_waits_s vM (upd (M_waits vM) (Int32.toNatClampNeg x4) (vp_nar .boolean 1))))) else (lpX5_plays_221 x2 k (x4 + 1) vM))) else (lpX5_plays_221 x2 k (x4 + 1) vM)))
def lpX5_plays_272 (x1 : Int32) (x2 : Int32) : Nat → Int32 → SM → Option SM
  | 0, _, _ => none
  | k + 1, x4, vM => if (M_places vM) ≤ x4 then (some vM) else (ck x4 5 (Option.bind (if x4 = x1 then (some 1) else (some 0)) fun z130 => ck x4 5 ((mX5_begins vM x4 (((M_helpers vM) (Int32.toNatClampNeg x4)) + z130) ((M_rule vM) (Int32.toNatClampNeg x4)) x2).bind fun o133 => lpX5_plays_272 x1 x2 k (x4 + 1) o133)))
def lpX5_plays_63 (x1 : Int32) : Nat → Int32 → SM → Option (Int32 × SM)
  | 0, _, _ => none
  | k + 1, x2, vM => (lpX5_plays_69 vM x2 qFU 2000000000 0).bind fun o152 => if o152 = 2000000000 then (some (((if 0 < x2 then x2 else 0), vM))) else ((lpX5_plays_149 o152 qFU 0 vM).bind fun o156 => (lpX5_plays_221 o152 qFU 0 o156).bind fun o159 => (lpX5_plays_272 x1 o152 qFU 0 o159).bind fun o162 => lpX5_plays_63 x1 k o152 o162)
def mX5_plays (vM : SM) (x1 : Int32) : Option (Int32 × SM) := (mX5_forgets vM).bind fun o1 => (lpX5_plays_6  qFU 0 o1).bind fun o12 => (lpX5_plays_33  qFU 0 o12).bind fun o24 => (lpX5_plays_63 x1 qFU (-1) o24).bind fun o165 => some o165
def rmX5_plays : Room := { frames := 3, cells := 0, slots := 0, locals := 73 }
set_option maxHeartbeats 8000000 in
set_option maxRecDepth 100000 in
theorem wX5_plays (l : Launch) (E : qE) (aM : Nat → Nat) (vM : SM) (x1 : Int32) (o : Int32 × SM) (h : mX5_plays vM x1 = some o) : MI l E yX5_plays wsX5_plays rmX5_plays [.ref (aM 0), .int x1] (WM E aM vM) (WM E aM o.2) o.1 := by
  refine q_startI (cc := cX5_plays) (maxL := 5) (by decide) rfl (Nat.le_of_ble_eq_true rfl) ?_
  intro pr e s m args below meth c A Q hx hb hml hown hts hK hRt hP hD hA hS ls hl
  have hl : lv_has ls 5 [(0, .ref (aM 0)), (1, .int x1)] := hl
  have hinX5 : ∀ w ∈ wsX50, w ∈ wsX5_plays := by decide +kernel
  have hw0 := hts (.fieldLink RX5 56 "QueueReaderModel" "pWork" "[I") (by decide +kernel)
  have hw1 := hts (.fieldLink RX5 31 "QueueReaderModel" "work" "[I") (by decide +kernel)
  have hw2 := hts (.fieldLink RX5 70 "QueueReaderModel" "asks" "I") (by decide +kernel)
  have hw3 := hts (.fieldLink RX5 44 "QueueReaderModel" "came" "[I") (by decide +kernel)
  have hw4 := hts (.fieldLink RX5 22 "QueueReaderModel" "start" "[I") (by decide +kernel)
  have hw5 := hts (.constant RX5 96 (2000000000)) (by decide +kernel)
  have hw6 := hts (.fieldLink RX5 50 "QueueReaderModel" "done" "[I") (by decide +kernel)
  have hw7 := hts (.methodLink RX5 107 Lib.Math.min.name) (by decide +kernel)
  have hw8 := hts (.static Lib.Math.min.name) (by decide +kernel)
  have hw9 := hts (.initialized "java/lang/Math") (by decide +kernel)
  have hw10 := hts (.code Lib.Math.min.name Lib.Math.min.code 2 (some .int)) (by decide +kernel)
  have hw11 := hts (.fieldLink RX5 25 "QueueReaderModel" "steps" "[I") (by decide +kernel)
  have hw12 := hts (.fieldLink RX5 16 "QueueReaderModel" "delay" "[I") (by decide +kernel)
  have hw13 := hts (.fieldLink RX5 28 "QueueReaderModel" "at" "[I") (by decide +kernel)
  have hw14 := hts (.fieldLink RX5 47 "QueueReaderModel" "begun" "[I") (by decide +kernel)
  have hw15 := hts (.fieldLink RX5 53 "QueueReaderModel" "waits" "[Z") (by decide +kernel)
  have hw16 := hts (.fieldLink RX5 63 "QueueReaderModel" "places" "I") (by decide +kernel)
  have hw17 := hts (.fieldLink RX5 9 "QueueReaderModel" "helpers" "[I") (by decide +kernel)
  have hw18 := hts (.fieldLink RX5 13 "QueueReaderModel" "rule" "[I") (by decide +kernel)
  have hw19 := hts (.methodLink RX5 112 Lib.Math.max.name) (by decide +kernel)
  have hw20 := hts (.static Lib.Math.max.name) (by decide +kernel)
  have hw21 := hts (.code Lib.Math.max.name Lib.Math.max.code 2 (some .int)) (by decide +kernel)
  have L6 : ∀ (vM : SM) (x1 : Int32) (x2 : Int32) (k : Nat) (H : Heap) (locs : List Loc) (ls : Array Slot), va_P E.1 vwCl (WM E aM vM) H → va_D A (WM E aM vM) → va_S A s.heap H locs → lv_has ls 5 [(0, .ref (aM 0)), (1, .int x1), (2, .int x2)] → ∀ o, lpX5_plays_6  k x2 vM = some o → (∀ (H : Heap) (locs : List Loc) (ls : Array Slot), va_P E.1 vwCl (WM E aM o) H → va_D A (WM E aM o) → va_S A s.heap H locs → lv_has ls 5 [(0, .ref (aM 0)), (1, .int x1)] → W pr l e rmX5_plays s m args below meth c H locs 0 0 Q (F0 m 31 ls [])) → W pr l e rmX5_plays s m args below meth c H locs 0 0 Q (F0 m 6 ls []) := by
    intro vM x1 x2 k
    induction k generalizing x2 vM with
    | zero => intro H locs ls hP hD hS hl o h; cases h
    | succ k ih =>
      intro H locs ls hP hD hS hl o h kk
      rw [lpX5_plays_6] at h
      refine lv_iload_n hx hb dX5_plays_6 rfl (lv_at hl 2 rfl) ?_
      refine lv_sipush (v := 300) hx hb dX5_plays_7 (by decide) ?_
      refine lv_icmp_ge (tgt := 31) hx hb dX5_plays_10 (by decide) (fun c9 => ?_) (fun c9 => ?_)
      · have h := q_pos c9 h
        obtain rfl := q_inj h
        exact kk _ _ _ hP hD hS (lv_sub hl [0, 1] rfl)
      · have h := q_neg c9 h
        refine lv_aload_n hx hb dX5_plays_13 rfl (lv_at hl 0 rfl) ?_
        refine va_get (D := E.1) (ci := 5) (v := .ref (aM 16)) (C := RX5) (T := TX5) (N := 19) hx hb hts hinX5 hown hK.1 hP 0 rfl rfl 18 (by decide) hw0 (fun _ h9 => h9) rfl dX5_plays_14 ?_
        refine lv_iload_n hx hb dX5_plays_17 rfl (lv_at hl 2 rfl) ?_
        refine lv_aload_n hx hb dX5_plays_18 rfl (lv_at hl 0 rfl) ?_
        refine va_get (D := E.1) (ci := 5) (v := .ref (aM 8)) (C := RX5) (T := TX5) (N := 19) hx hb hts hinX5 hown hK.1 hP 0 rfl rfl 10 (by decide) hw1 (fun _ h9 => h9) rfl dX5_plays_19 ?_
        refine lv_iload_n hx hb dX5_plays_22 rfl (lv_at hl 2 rfl) ?_
        obtain ⟨i10, h⟩ := q_ck h
        refine va_iald (f := (M_work vM)) hx hb hK.1 hP 8 0 rfl rfl i10 dX5_plays_23 ?_
        obtain ⟨i11, h⟩ := q_ck h
        refine va_iast (f := (M_pWork vM)) hx hb hK.1 hP hD hS 16 0 rfl rfl i11 dX5_plays_24 (fun H locs hP hD hS => ?_)
        have hP : va_P E.1 vwCl (WM E aM (M_pWork_s vM (upd (M_pWork vM) (Int32.toNatClampNeg x2) ((M_work vM) (Int32.toNatClampNeg x2))))) H := hP
        have hD : va_D A (WM E aM (M_pWork_s vM (upd (M_pWork vM) (Int32.toNatClampNeg x2) ((M_work vM) (Int32.toNatClampNeg x2))))) := hD
        refine lv_iinc (v := (x2 + 1)) (lv' := [(2, .int (x2 + 1)), (0, .ref (aM 0)), (1, .int x1)]) hx hb dX5_plays_25 hl (k := 2) rfl rfl (by decide) rfl (fun ls hl => ?_)
        refine lv_goto (tgt := 6) hx hb dX5_plays_28 (by decide) ?_
        exact ih (M_pWork_s vM (upd (M_pWork vM) (Int32.toNatClampNeg x2) ((M_work vM) (Int32.toNatClampNeg x2)))) (x2 + 1) _ _ _ hP hD hS (lv_sub hl [1, 2, 0] rfl) _ h kk
  have L33 : ∀ (vM : SM) (x1 : Int32) (x2 : Int32) (k : Nat) (H : Heap) (locs : List Loc) (ls : Array Slot), va_P E.1 vwCl (WM E aM vM) H → va_D A (WM E aM vM) → va_S A s.heap H locs → lv_has ls 5 [(0, .ref (aM 0)), (1, .int x1), (2, .int x2)] → ∀ o, lpX5_plays_33  k x2 vM = some o → (∀ (H : Heap) (locs : List Loc) (ls : Array Slot), va_P E.1 vwCl (WM E aM o) H → va_D A (WM E aM o) → va_S A s.heap H locs → lv_has ls 5 [(0, .ref (aM 0)), (1, .int x1)] → W pr l e rmX5_plays s m args below meth c H locs 0 0 Q (F0 m 61 ls [])) → W pr l e rmX5_plays s m args below meth c H locs 0 0 Q (F0 m 33 ls []) := by
    intro vM x1 x2 k
    induction k generalizing x2 vM with
    | zero => intro H locs ls hP hD hS hl o h; cases h
    | succ k ih =>
      intro H locs ls hP hD hS hl o h kk
      rw [lpX5_plays_33] at h
      refine lv_iload_n hx hb dX5_plays_33 rfl (lv_at hl 2 rfl) ?_
      refine lv_aload_n hx hb dX5_plays_34 rfl (lv_at hl 0 rfl) ?_
      refine va_get (D := E.1) (ci := 5) (v := .int (M_asks vM)) (C := RX5) (T := TX5) (N := 19) hx hb hts hinX5 hown hK.1 hP 0 rfl rfl 8 (by decide) hw2 (fun _ h9 => h9) rfl dX5_plays_35 ?_
      refine lv_icmp_ge (tgt := 61) hx hb dX5_plays_38 (by decide) (fun c21 => ?_) (fun c21 => ?_)
      · have h := q_pos c21 h
        obtain rfl := q_inj h
        exact kk _ _ _ hP hD hS (lv_sub hl [0, 1] rfl)
      · have h := q_neg c21 h
        refine lv_aload_n hx hb dX5_plays_41 rfl (lv_at hl 0 rfl) ?_
        refine va_get (D := E.1) (ci := 5) (v := .ref (aM 12)) (C := RX5) (T := TX5) (N := 19) hx hb hts hinX5 hown hK.1 hP 0 rfl rfl 14 (by decide) hw3 (fun _ h9 => h9) rfl dX5_plays_42 ?_
        refine lv_iconst (v := 5) hx hb dX5_plays_45 (by decide) ?_
        refine lv_iload_n hx hb dX5_plays_46 rfl (lv_at hl 2 rfl) ?_
        refine lv_imul hx hb dX5_plays_47 ?_
        refine lv_aload_n hx hb dX5_plays_48 rfl (lv_at hl 0 rfl) ?_
        refine va_get (D := E.1) (ci := 5) (v := .ref (aM 5)) (C := RX5) (T := TX5) (N := 19) hx hb hts hinX5 hown hK.1 hP 0 rfl rfl 6 (by decide) hw4 (fun _ h9 => h9) rfl dX5_plays_49 ?_
        refine lv_iload_n hx hb dX5_plays_52 rfl (lv_at hl 2 rfl) ?_
        obtain ⟨i22, h⟩ := q_ck h
        refine va_iald (f := (M_start vM)) hx hb hK.1 hP 5 0 rfl rfl i22 dX5_plays_53 ?_
        obtain ⟨i23, h⟩ := q_ck h
        refine va_iast (f := (M_came vM)) hx hb hK.1 hP hD hS 12 0 rfl rfl i23 dX5_plays_54 (fun H locs hP hD hS => ?_)
        have hP : va_P E.1 vwCl (WM E aM (M_came_s vM (upd (M_came vM) (Int32.toNatClampNeg (5 * x2)) ((M_start vM) (Int32.toNatClampNeg x2))))) H := hP
        have hD : va_D A (WM E aM (M_came_s vM (upd (M_came vM) (Int32.toNatClampNeg (5 * x2)) ((M_start vM) (Int32.toNatClampNeg x2))))) := hD
        refine lv_iinc (v := (x2 + 1)) (lv' := [(2, .int (x2 + 1)), (0, .ref (aM 0)), (1, .int x1)]) hx hb dX5_plays_55 hl (k := 2) rfl rfl (by decide) rfl (fun ls hl => ?_)
        refine lv_goto (tgt := 33) hx hb dX5_plays_58 (by decide) ?_
        exact ih (M_came_s vM (upd (M_came vM) (Int32.toNatClampNeg (5 * x2)) ((M_start vM) (Int32.toNatClampNeg x2)))) (x2 + 1) _ _ _ hP hD hS (lv_sub hl [1, 2, 0] rfl) _ h kk
  have L69 : ∀ (vM : SM) (x1 : Int32) (x2 : Int32) (x3 : Int32) (x4 : Int32) (k : Nat) (H : Heap) (locs : List Loc) (ls : Array Slot), va_P E.1 vwCl (WM E aM vM) H → va_D A (WM E aM vM) → va_S A s.heap H locs → lv_has ls 5 [(0, .ref (aM 0)), (1, .int x1), (2, .int x2), (3, .int x3), (4, .int x4)] → ∀ o, lpX5_plays_69 vM x2 k x3 x4 = some o → (∀ (H : Heap) (locs : List Loc) (ls : Array Slot), va_P E.1 vwCl (WM E aM vM) H → va_D A (WM E aM vM) → va_S A s.heap H locs → lv_has ls 5 [(0, .ref (aM 0)), (1, .int x1), (2, .int x2), (3, .int o)] → W pr l e rmX5_plays s m args below meth c H locs 0 0 Q (F0 m 132 ls [])) → W pr l e rmX5_plays s m args below meth c H locs 0 0 Q (F0 m 69 ls []) := by
    intro vM x1 x2 x3 x4 k
    induction k generalizing x3 x4 with
    | zero => intro H locs ls hP hD hS hl o h; cases h
    | succ k ih =>
      intro H locs ls hP hD hS hl o h kk
      rw [lpX5_plays_69] at h
      refine lv_iload hx hb dX5_plays_69 (lv_at hl 4 rfl) ?_
      refine lv_iconst (v := 5) hx hb dX5_plays_71 (by decide) ?_
      refine lv_aload_n hx hb dX5_plays_72 rfl (lv_at hl 0 rfl) ?_
      refine va_get (D := E.1) (ci := 5) (v := .int (M_asks vM)) (C := RX5) (T := TX5) (N := 19) hx hb hts hinX5 hown hK.1 hP 0 rfl rfl 8 (by decide) hw2 (fun _ h9 => h9) rfl dX5_plays_73 ?_
      refine lv_imul hx hb dX5_plays_76 ?_
      refine lv_icmp_ge (tgt := 132) hx hb dX5_plays_77 (by decide) (fun c47 => ?_) (fun c47 => ?_)
      · have h := q_pos c47 h
        obtain rfl := q_inj h
        exact kk _ _ _ hP hD hS (lv_sub hl [0, 1, 2, 3] rfl)
      · have h := q_neg c47 h
        refine lv_aload_n hx hb dX5_plays_80 rfl (lv_at hl 0 rfl) ?_
        refine va_get (D := E.1) (ci := 5) (v := .ref (aM 12)) (C := RX5) (T := TX5) (N := 19) hx hb hts hinX5 hown hK.1 hP 0 rfl rfl 14 (by decide) hw3 (fun _ h9 => h9) rfl dX5_plays_81 ?_
        refine lv_iload hx hb dX5_plays_84 (lv_at hl 4 rfl) ?_
        obtain ⟨i48, h⟩ := q_ck h
        refine va_iald (f := (M_came vM)) hx hb hK.1 hP 12 0 rfl rfl i48 dX5_plays_86 ?_
        refine lv_iload_n hx hb dX5_plays_87 rfl (lv_at hl 2 rfl) ?_
        refine lv_icmp_le (tgt := 103) hx hb dX5_plays_88 (by decide) (fun c49 => ?_) (fun c49 => ?_)
        · have h := q_pos c49 h
          refine lv_aload_n hx hb dX5_plays_103 rfl (lv_at hl 0 rfl) ?_
          refine va_get (D := E.1) (ci := 5) (v := .ref (aM 14)) (C := RX5) (T := TX5) (N := 19) hx hb hts hinX5 hown hK.1 hP 0 rfl rfl 16 (by decide) hw6 (fun _ h9 => h9) rfl dX5_plays_104 ?_
          refine lv_iload hx hb dX5_plays_107 (lv_at hl 4 rfl) ?_
          obtain ⟨i50, h⟩ := q_ck h
          refine va_iald (f := (M_done vM)) hx hb hK.1 hP 14 0 rfl rfl i50 dX5_plays_109 ?_
          refine lv_iload_n hx hb dX5_plays_110 rfl (lv_at hl 2 rfl) ?_
          refine lv_icmp_le (tgt := 126) hx hb dX5_plays_111 (by decide) (fun c51 => ?_) (fun c51 => ?_)
          · have h := q_pos c51 h
            refine lv_iinc (v := (x4 + 1)) (lv' := [(4, .int (x4 + 1)), (0, .ref (aM 0)), (1, .int x1), (2, .int x2), (3, .int x3)]) hx hb dX5_plays_126 hl (k := 4) rfl rfl (by decide) rfl (fun ls hl => ?_)
            refine lv_goto (tgt := 69) hx hb dX5_plays_129 (by decide) ?_
            exact ih x3 (x4 + 1) _ _ _ hP hD hS (lv_sub hl [1, 2, 3, 4, 0] rfl) _ h kk
          · have h := q_neg c51 h
            refine lv_iload_n hx hb dX5_plays_114 rfl (lv_at hl 3 rfl) ?_
            refine lv_aload_n hx hb dX5_plays_115 rfl (lv_at hl 0 rfl) ?_
            refine va_get (D := E.1) (ci := 5) (v := .ref (aM 14)) (C := RX5) (T := TX5) (N := 19) hx hb hts hinX5 hown hK.1 hP 0 rfl rfl 16 (by decide) hw6 (fun _ h9 => h9) rfl dX5_plays_116 ?_
            refine lv_iload hx hb dX5_plays_119 (lv_at hl 4 rfl) ?_
            obtain ⟨i52, h⟩ := q_ck h
            refine va_iald (f := (M_done vM)) hx hb hK.1 hP 14 0 rfl rfl i52 dX5_plays_121 ?_
            refine va_mmin hx hb (hml.trans hl.1.symm) hown hw7 hw8 hw9 hw10 (Nat.le_of_ble_eq_true rfl) (Nat.le_of_ble_eq_true rfl) (Nat.zero_le _) (Nat.zero_le _) dX5_plays_122 ?_
            refine lv_istore_n (lv' := [(3, .int (if ((M_done vM) (Int32.toNatClampNeg x4)) < x3 then ((M_done vM) (Int32.toNatClampNeg x4)) else x3)), (0, .ref (aM 0)), (1, .int x1), (2, .int x2), (4, .int x4)]) hx hb dX5_plays_125 rfl hl (by decide) rfl (fun ls hl => ?_)
            refine lv_iinc (v := (x4 + 1)) (lv' := [(4, .int (x4 + 1)), (3, .int (if ((M_done vM) (Int32.toNatClampNeg x4)) < x3 then ((M_done vM) (Int32.toNatClampNeg x4)) else x3)), (0, .ref (aM 0)), (1, .int x1), (2, .int x2)]) hx hb dX5_plays_126 hl (k := 4) rfl rfl (by decide) rfl (fun ls hl => ?_)
            refine lv_goto (tgt := 69) hx hb dX5_plays_129 (by decide) ?_
            exact ih (if ((M_done vM) (Int32.toNatClampNeg x4)) < x3 then ((M_done vM) (Int32.toNatClampNeg x4)) else x3) (x4 + 1) _ _ _ hP hD hS (lv_sub hl [2, 3, 4, 1, 0] rfl) _ h kk
        · have h := q_neg c49 h
          refine lv_iload_n hx hb dX5_plays_91 rfl (lv_at hl 3 rfl) ?_
          refine lv_aload_n hx hb dX5_plays_92 rfl (lv_at hl 0 rfl) ?_
          refine va_get (D := E.1) (ci := 5) (v := .ref (aM 12)) (C := RX5) (T := TX5) (N := 19) hx hb hts hinX5 hown hK.1 hP 0 rfl rfl 14 (by decide) hw3 (fun _ h9 => h9) rfl dX5_plays_93 ?_
          refine lv_iload hx hb dX5_plays_96 (lv_at hl 4 rfl) ?_
          obtain ⟨i53, h⟩ := q_ck h
          refine va_iald (f := (M_came vM)) hx hb hK.1 hP 12 0 rfl rfl i53 dX5_plays_98 ?_
          refine va_mmin hx hb (hml.trans hl.1.symm) hown hw7 hw8 hw9 hw10 (Nat.le_of_ble_eq_true rfl) (Nat.le_of_ble_eq_true rfl) (Nat.zero_le _) (Nat.zero_le _) dX5_plays_99 ?_
          refine lv_istore_n (lv' := [(3, .int (if ((M_came vM) (Int32.toNatClampNeg x4)) < x3 then ((M_came vM) (Int32.toNatClampNeg x4)) else x3)), (0, .ref (aM 0)), (1, .int x1), (2, .int x2), (4, .int x4)]) hx hb dX5_plays_102 rfl hl (by decide) rfl (fun ls hl => ?_)
          refine lv_aload_n hx hb dX5_plays_103 rfl (lv_at hl 1 rfl) ?_
          refine va_get (D := E.1) (ci := 5) (v := .ref (aM 14)) (C := RX5) (T := TX5) (N := 19) hx hb hts hinX5 hown hK.1 hP 0 rfl rfl 16 (by decide) hw6 (fun _ h9 => h9) rfl dX5_plays_104 ?_
          refine lv_iload hx hb dX5_plays_107 (lv_at hl 4 rfl) ?_
          obtain ⟨i54, h⟩ := q_ck h
          refine va_iald (f := (M_done vM)) hx hb hK.1 hP 14 0 rfl rfl i54 dX5_plays_109 ?_
          refine lv_iload_n hx hb dX5_plays_110 rfl (lv_at hl 3 rfl) ?_
          refine lv_icmp_le (tgt := 126) hx hb dX5_plays_111 (by decide) (fun c55 => ?_) (fun c55 => ?_)
          · have h := q_pos c55 h
            refine lv_iinc (v := (x4 + 1)) (lv' := [(4, .int (x4 + 1)), (3, .int (if ((M_came vM) (Int32.toNatClampNeg x4)) < x3 then ((M_came vM) (Int32.toNatClampNeg x4)) else x3)), (0, .ref (aM 0)), (1, .int x1), (2, .int x2)]) hx hb dX5_plays_126 hl (k := 4) rfl rfl (by decide) rfl (fun ls hl => ?_)
            refine lv_goto (tgt := 69) hx hb dX5_plays_129 (by decide) ?_
            exact ih (if ((M_came vM) (Int32.toNatClampNeg x4)) < x3 then ((M_came vM) (Int32.toNatClampNeg x4)) else x3) (x4 + 1) _ _ _ hP hD hS (lv_sub hl [2, 3, 4, 1, 0] rfl) _ h kk
          · have h := q_neg c55 h
            refine lv_iload_n hx hb dX5_plays_114 rfl (lv_at hl 0 rfl) ?_
            refine lv_aload_n hx hb dX5_plays_115 rfl (lv_at hl 1 rfl) ?_
            refine va_get (D := E.1) (ci := 5) (v := .ref (aM 14)) (C := RX5) (T := TX5) (N := 19) hx hb hts hinX5 hown hK.1 hP 0 rfl rfl 16 (by decide) hw6 (fun _ h9 => h9) rfl dX5_plays_116 ?_
            refine lv_iload hx hb dX5_plays_119 (lv_at hl 4 rfl) ?_
            obtain ⟨i56, h⟩ := q_ck h
            refine va_iald (f := (M_done vM)) hx hb hK.1 hP 14 0 rfl rfl i56 dX5_plays_121 ?_
            refine va_mmin hx hb (hml.trans hl.1.symm) hown hw7 hw8 hw9 hw10 (Nat.le_of_ble_eq_true rfl) (Nat.le_of_ble_eq_true rfl) (Nat.zero_le _) (Nat.zero_le _) dX5_plays_122 ?_
            refine lv_istore_n (lv' := [(3, .int (if ((M_done vM) (Int32.toNatClampNeg x4)) < (if ((M_came vM) (Int32.toNatClampNeg x4)) < x3 then ((M_came vM) (Int32.toNatClampNeg x4)) else x3) then ((M_done vM) (Int32.toNatClampNeg x4)) else (if ((M_came vM) (Int32.toNatClampNeg x4)) < x3 then ((M_came vM) (Int32.toNatClampNeg x4)) else x3))), (0, .ref (aM 0)), (1, .int x1), (2, .int x2), (4, .int x4)]) hx hb dX5_plays_125 rfl hl (by decide) rfl (fun ls hl => ?_)
            refine lv_iinc (v := (x4 + 1)) (lv' := [(4, .int (x4 + 1)), (3, .int (if ((M_done vM) (Int32.toNatClampNeg x4)) < (if ((M_came vM) (Int32.toNatClampNeg x4)) < x3 then ((M_came vM) (Int32.toNatClampNeg x4)) else x3) then ((M_done vM) (Int32.toNatClampNeg x4)) else (if ((M_came vM) (Int32.toNatClampNeg x4)) < x3 then ((M_came vM) (Int32.toNatClampNeg x4)) else x3))), (0, .ref (aM 0)), (1, .int x1), (2, .int x2)]) hx hb dX5_plays_126 hl (k := 4) rfl rfl (by decide) rfl (fun ls hl => ?_)
            refine lv_goto (tgt := 69) hx hb dX5_plays_129 (by decide) ?_
            exact ih (if ((M_done vM) (Int32.toNatClampNeg x4)) < (if ((M_came vM) (Int32.toNatClampNeg x4)) < x3 then ((M_came vM) (Int32.toNatClampNeg x4)) else x3) then ((M_done vM) (Int32.toNatClampNeg x4)) else (if ((M_came vM) (Int32.toNatClampNeg x4)) < x3 then ((M_came vM) (Int32.toNatClampNeg x4)) else x3)) (x4 + 1) _ _ _ hP hD hS (lv_sub hl [2, 3, 4, 1, 0] rfl) _ h kk
  have L149 : ∀ (vM : SM) (x1 : Int32) (x2 : Int32) (x4 : Int32) (k : Nat) (H : Heap) (locs : List Loc) (ls : Array Slot), va_P E.1 vwCl (WM E aM vM) H → va_D A (WM E aM vM) → va_S A s.heap H locs → lv_has ls 5 [(0, .ref (aM 0)), (1, .int x1), (2, .int x2), (4, .int x4)] → ∀ o, lpX5_plays_149 x2 k x4 vM = some o → (∀ (H : Heap) (locs : List Loc) (ls : Array Slot), va_P E.1 vwCl (WM E aM o) H → va_D A (WM E aM o) → va_S A s.heap H locs → lv_has ls 5 [(0, .ref (aM 0)), (1, .int x1), (2, .int x2)] → W pr l e rmX5_plays s m args below meth c H locs 0 0 Q (F0 m 218 ls [])) → W pr l e rmX5_plays s m args below meth c H locs 0 0 Q (F0 m 149 ls []) := by
    intro vM x1 x2 x4 k
    induction k generalizing x4 vM with
    | zero => intro H locs ls hP hD hS hl o h; cases h
    | succ k ih =>
      intro H locs ls hP hD hS hl o h kk
      rw [lpX5_plays_149] at h
      refine lv_iload hx hb dX5_plays_149 (lv_at hl 3 rfl) ?_
      refine lv_iconst (v := 5) hx hb dX5_plays_151 (by decide) ?_
      refine lv_aload_n hx hb dX5_plays_152 rfl (lv_at hl 0 rfl) ?_
      refine va_get (D := E.1) (ci := 5) (v := .int (M_asks vM)) (C := RX5) (T := TX5) (N := 19) hx hb hts hinX5 hown hK.1 hP 0 rfl rfl 8 (by decide) hw2 (fun _ h9 => h9) rfl dX5_plays_153 ?_
      refine lv_imul hx hb dX5_plays_156 ?_
      refine lv_icmp_ge (tgt := 218) hx hb dX5_plays_157 (by decide) (fun c77 => ?_) (fun c77 => ?_)
      · have h := q_pos c77 h
        obtain rfl := q_inj h
        exact kk _ _ _ hP hD hS (lv_sub hl [0, 1, 2] rfl)
      · have h := q_neg c77 h
        refine lv_aload_n hx hb dX5_plays_160 rfl (lv_at hl 0 rfl) ?_
        refine va_get (D := E.1) (ci := 5) (v := .ref (aM 14)) (C := RX5) (T := TX5) (N := 19) hx hb hts hinX5 hown hK.1 hP 0 rfl rfl 16 (by decide) hw6 (fun _ h9 => h9) rfl dX5_plays_161 ?_
        refine lv_iload hx hb dX5_plays_164 (lv_at hl 3 rfl) ?_
        obtain ⟨i78, h⟩ := q_ck h
        refine va_iald (f := (M_done vM)) hx hb hK.1 hP 14 0 rfl rfl i78 dX5_plays_166 ?_
        refine lv_iload_n hx hb dX5_plays_167 rfl (lv_at hl 2 rfl) ?_
        refine lv_icmp_ne (tgt := 212) hx hb dX5_plays_168 (by decide) (fun c79 => ?_) (fun c79 => ?_)
        · have h := q_neg c79 h
          refine lv_iinc (v := (x4 + 1)) (lv' := [(4, .int (x4 + 1)), (0, .ref (aM 0)), (1, .int x1), (2, .int x2)]) hx hb dX5_plays_212 hl (k := 3) rfl rfl (by decide) rfl (fun ls hl => ?_)
          refine lv_goto (tgt := 149) hx hb dX5_plays_215 (by decide) ?_
          exact ih vM (x4 + 1) _ _ _ hP hD hS (lv_sub hl [1, 2, 3, 0] rfl) _ h kk
        · have h := q_pos c79 h
          refine lv_iload hx hb dX5_plays_171 (lv_at hl 3 rfl) ?_
          refine lv_iconst (v := 5) hx hb dX5_plays_173 (by decide) ?_
          refine lv_irem hx hb dX5_plays_174 (by decide) ?_
          refine lv_iconst (v := 1) hx hb dX5_plays_175 (by decide) ?_
          refine lv_iadd hx hb dX5_plays_176 ?_
          refine lv_aload_n hx hb dX5_plays_177 rfl (lv_at hl 0 rfl) ?_
          refine va_get (D := E.1) (ci := 5) (v := .ref (aM 6)) (C := RX5) (T := TX5) (N := 19) hx hb hts hinX5 hown hK.1 hP 0 rfl rfl 7 (by decide) hw11 (fun _ h9 => h9) rfl dX5_plays_178 ?_
          refine lv_iload hx hb dX5_plays_181 (lv_at hl 3 rfl) ?_
          refine lv_iconst (v := 5) hx hb dX5_plays_183 (by decide) ?_
          refine lv_idiv hx hb dX5_plays_184 (by decide) ?_
          obtain ⟨i80, h⟩ := q_ck h
          refine va_iald (f := (M_steps vM)) hx hb hK.1 hP 6 0 rfl rfl i80 dX5_plays_185 ?_
          refine lv_icmp_ge (tgt := 212) hx hb dX5_plays_186 (by decide) (fun c81 => ?_) (fun c81 => ?_)
          · have h := q_pos c81 h
            refine lv_iinc (v := (x4 + 1)) (lv' := [(4, .int (x4 + 1)), (0, .ref (aM 0)), (1, .int x1), (2, .int x2)]) hx hb dX5_plays_212 hl (k := 3) rfl rfl (by decide) rfl (fun ls hl => ?_)
            refine lv_goto (tgt := 149) hx hb dX5_plays_215 (by decide) ?_
            exact ih vM (x4 + 1) _ _ _ hP hD hS (lv_sub hl [1, 2, 3, 0] rfl) _ h kk
          · have h := q_neg c81 h
            refine lv_aload_n hx hb dX5_plays_189 rfl (lv_at hl 0 rfl) ?_
            refine va_get (D := E.1) (ci := 5) (v := .ref (aM 12)) (C := RX5) (T := TX5) (N := 19) hx hb hts hinX5 hown hK.1 hP 0 rfl rfl 14 (by decide) hw3 (fun _ h9 => h9) rfl dX5_plays_190 ?_
            refine lv_iload hx hb dX5_plays_193 (lv_at hl 3 rfl) ?_
            refine lv_iconst (v := 1) hx hb dX5_plays_195 (by decide) ?_
            refine lv_iadd hx hb dX5_plays_196 ?_
            refine lv_iload_n hx hb dX5_plays_197 rfl (lv_at hl 2 rfl) ?_
            refine lv_aload_n hx hb dX5_plays_198 rfl (lv_at hl 0 rfl) ?_
            refine va_get (D := E.1) (ci := 5) (v := .ref (aM 3)) (C := RX5) (T := TX5) (N := 19) hx hb hts hinX5 hown hK.1 hP 0 rfl rfl 3 (by decide) hw12 (fun _ h9 => h9) rfl dX5_plays_199 ?_
            refine lv_aload_n hx hb dX5_plays_202 rfl (lv_at hl 0 rfl) ?_
            refine va_get (D := E.1) (ci := 5) (v := .ref (aM 7)) (C := RX5) (T := TX5) (N := 19) hx hb hts hinX5 hown hK.1 hP 0 rfl rfl 9 (by decide) hw13 (fun _ h9 => h9) rfl dX5_plays_203 ?_
            refine lv_iload hx hb dX5_plays_206 (lv_at hl 3 rfl) ?_
            obtain ⟨i82, h⟩ := q_ck h
            refine va_iald (f := (M_at vM)) hx hb hK.1 hP 7 0 rfl rfl i82 dX5_plays_208 ?_
            obtain ⟨i83, h⟩ := q_ck h
            refine va_iald (f := (M_delay vM)) hx hb hK.1 hP 3 0 rfl rfl i83 dX5_plays_209 ?_
            refine lv_iadd hx hb dX5_plays_210 ?_
            obtain ⟨i84, h⟩ := q_ck h
            refine va_iast (f := (M_came vM)) hx hb hK.1 hP hD hS 12 0 rfl rfl i84 dX5_plays_211 (fun H locs hP hD hS => ?_)
            have hP : va_P E.1 vwCl (WM E aM (M_came_s vM (upd (M_came vM) (Int32.toNatClampNeg (x4 + 1)) (x2 + ((M_delay vM) (Int32.toNatClampNeg ((M_at vM) (Int32.toNatClampNeg x4)))))))) H := hP
            have hD : va_D A (WM E aM (M_came_s vM (upd (M_came vM) (Int32.toNatClampNeg (x4 + 1)) (x2 + ((M_delay vM) (Int32.toNatClampNeg ((M_at vM) (Int32.toNatClampNeg x4)))))))) := hD
            refine lv_iinc (v := (x4 + 1)) (lv' := [(4, .int (x4 + 1)), (0, .ref (aM 0)), (1, .int x1), (2, .int x2)]) hx hb dX5_plays_212 hl (k := 3) rfl rfl (by decide) rfl (fun ls hl => ?_)
            refine lv_goto (tgt := 149) hx hb dX5_plays_215 (by decide) ?_
            exact ih (M_came_s vM (upd (M_came vM) (Int32.toNatClampNeg (x4 + 1)) (x2 + ((M_delay vM) (Int32.toNatClampNeg ((M_at vM) (Int32.toNatClampNeg x4))))))) (x4 + 1) _ _ _ hP hD hS (lv_sub hl [1, 2, 3, 0] rfl) _ h kk
  have L221 : ∀ (vM : SM) (x1 : Int32) (x2 : Int32) (x4 : Int32) (k : Nat) (H : Heap) (locs : List Loc) (ls : Array Slot), va_P E.1 vwCl (WM E aM vM) H → va_D A (WM E aM vM) → va_S A s.heap H locs → lv_has ls 5 [(0, .ref (aM 0)), (1, .int x1), (2, .int x2), (4, .int x4)] → ∀ o, lpX5_plays_221 x2 k x4 vM = some o → (∀ (H : Heap) (locs : List Loc) (ls : Array Slot), va_P E.1 vwCl (WM E aM o) H → va_D A (WM E aM o) → va_S A s.heap H locs → lv_has ls 5 [(0, .ref (aM 0)), (1, .int x1), (2, .int x2)] → W pr l e rmX5_plays s m args below meth c H locs 0 0 Q (F0 m 269 ls [])) → W pr l e rmX5_plays s m args below meth c H locs 0 0 Q (F0 m 221 ls []) := by
    intro vM x1 x2 x4 k
    induction k generalizing x4 vM with
    | zero => intro H locs ls hP hD hS hl o h; cases h
    | succ k ih =>
      intro H locs ls hP hD hS hl o h kk
      rw [lpX5_plays_221] at h
      refine lv_iload hx hb dX5_plays_221 (lv_at hl 3 rfl) ?_
      refine lv_iconst (v := 5) hx hb dX5_plays_223 (by decide) ?_
      refine lv_aload_n hx hb dX5_plays_224 rfl (lv_at hl 0 rfl) ?_
      refine va_get (D := E.1) (ci := 5) (v := .int (M_asks vM)) (C := RX5) (T := TX5) (N := 19) hx hb hts hinX5 hown hK.1 hP 0 rfl rfl 8 (by decide) hw2 (fun _ h9 => h9) rfl dX5_plays_225 ?_
      refine lv_imul hx hb dX5_plays_228 ?_
      refine lv_icmp_ge (tgt := 269) hx hb dX5_plays_229 (by decide) (fun c100 => ?_) (fun c100 => ?_)
      · have h := q_pos c100 h
        obtain rfl := q_inj h
        exact kk _ _ _ hP hD hS (lv_sub hl [0, 1, 2] rfl)
      · have h := q_neg c100 h
        refine lv_aload_n hx hb dX5_plays_232 rfl (lv_at hl 0 rfl) ?_
        refine va_get (D := E.1) (ci := 5) (v := .ref (aM 12)) (C := RX5) (T := TX5) (N := 19) hx hb hts hinX5 hown hK.1 hP 0 rfl rfl 14 (by decide) hw3 (fun _ h9 => h9) rfl dX5_plays_233 ?_
        refine lv_iload hx hb dX5_plays_236 (lv_at hl 3 rfl) ?_
        obtain ⟨i101, h⟩ := q_ck h
        refine va_iald (f := (M_came vM)) hx hb hK.1 hP 12 0 rfl rfl i101 dX5_plays_238 ?_
        refine lv_iload_n hx hb dX5_plays_239 rfl (lv_at hl 2 rfl) ?_
        refine lv_icmp_ne (tgt := 263) hx hb dX5_plays_240 (by decide) (fun c102 => ?_) (fun c102 => ?_)
        · have h := q_neg c102 h
          refine lv_iinc (v := (x4 + 1)) (lv' := [(4, .int (x4 + 1)), (0, .ref (aM 0)), (1, .int x1), (2, .int x2)]) hx hb dX5_plays_263 hl (k := 3) rfl rfl (by decide) rfl (fun ls hl => ?_)
          refine lv_goto (tgt := 221) hx hb dX5_plays_266 (by decide) ?_
          exact ih vM (x4 + 1) _ _ _ hP hD hS (lv_sub hl [1, 2, 3, 0] rfl) _ h kk
        · have h := q_pos c102 h
          refine lv_aload_n hx hb dX5_plays_243 rfl (lv_at hl 0 rfl) ?_
          refine va_get (D := E.1) (ci := 5) (v := .ref (aM 13)) (C := RX5) (T := TX5) (N := 19) hx hb hts hinX5 hown hK.1 hP 0 rfl rfl 15 (by decide) hw14 (fun _ h9 => h9) rfl dX5_plays_244 ?_
          refine lv_iload hx hb dX5_plays_247 (lv_at hl 3 rfl) ?_
          obtain ⟨i103, h⟩ := q_ck h
          refine va_iald (f := (M_begun vM)) hx hb hK.1 hP 13 0 rfl rfl i103 dX5_plays_249 ?_
          refine lv_ldc (v := 2000000000) hx hb hown hw5 dX5_plays_250 ?_
          refine lv_icmp_ne (tgt := 263) hx hb dX5_plays_252 (by decide) (fun c104 => ?_) (fun c104 => ?_)
          · have h := q_neg c104 h
            refine lv_iinc (v := (x4 + 1)) (lv' := [(4, .int (x4 + 1)), (0, .ref (aM 0)), (1, .int x1), (2, .int x2)]) hx hb dX5_plays_263 hl (k := 3) rfl rfl (by decide) rfl (fun ls hl => ?_)
            refine lv_goto (tgt := 221) hx hb dX5_plays_266 (by decide) ?_
            exact ih vM (x4 + 1) _ _ _ hP hD hS (lv_sub hl [1, 2, 3, 0] rfl) _ h kk
          · have h := q_pos c104 h
            refine lv_aload_n hx hb dX5_plays_255 rfl (lv_at hl 0 rfl) ?_
            refine va_get (D := E.1) (ci := 5) (v := .ref (aM 15)) (C := RX5) (T := TX5) (N := 19) hx hb hts hinX5 hown hK.1 hP 0 rfl rfl 17 (by decide) hw15 (fun _ h9 => h9) rfl dX5_plays_256 ?_
            refine lv_iload hx hb dX5_plays_259 (lv_at hl 3 rfl) ?_
            refine lv_iconst (v := 1) hx hb dX5_plays_261 (by decide) ?_
            obtain ⟨i105, h⟩ := q_ck h
            refine va_zast (f := (M_waits vM)) hx hb hK.1 hP hD hS 15 2 rfl rfl i105 dX5_plays_262 (fun H locs hP hD hS => ?_)
            have hP : va_P E.1 vwCl (WM E aM (M_waits_s vM (upd (M_waits vM) (Int32.toNatClampNeg x4) (vp_nar .boolean 1)))) H := hP
            have hD : va_D A (WM E aM (M_waits_s vM (upd (M_waits vM) (Int32.toNatClampNeg x4) (vp_nar .boolean 1)))) := hD
            refine lv_iinc (v := (x4 + 1)) (lv' := [(4, .int (x4 + 1)), (0, .ref (aM 0)), (1, .int x1), (2, .int x2)]) hx hb dX5_plays_263 hl (k := 3) rfl rfl (by decide) rfl (fun ls hl => ?_)
            refine lv_goto (tgt := 221) hx hb dX5_plays_266 (by decide) ?_
            exact ih (M_waits_s vM (upd (M_waits vM) (Int32.toNatClampNeg x4) (vp_nar .boolean 1))) (x4 + 1) _ _ _ hP hD hS (lv_sub hl [1, 2, 3, 0] rfl) _ h kk
  have L272 : ∀ (vM : SM) (x1 : Int32) (x2 : Int32) (x4 : Int32) (k : Nat) (H : Heap) (locs : List Loc) (ls : Array Slot), va_P E.1 vwCl (WM E aM vM) H → va_D A (WM E aM vM) → va_S A s.heap H locs → lv_has ls 5 [(0, .ref (aM 0)), (1, .int x1), (2, .int x2), (4, .int x4)] → ∀ o, lpX5_plays_272 x1 x2 k x4 vM = some o → (∀ (H : Heap) (locs : List Loc) (ls : Array Slot), va_P E.1 vwCl (WM E aM o) H → va_D A (WM E aM o) → va_S A s.heap H locs → lv_has ls 5 [(0, .ref (aM 0)), (1, .int x1), (2, .int x2)] → W pr l e rmX5_plays s m args below meth c H locs 0 0 Q (F0 m 320 ls [])) → W pr l e rmX5_plays s m args below meth c H locs 0 0 Q (F0 m 272 ls []) := by
    intro vM x1 x2 x4 k
    induction k generalizing x4 vM with
    | zero => intro H locs ls hP hD hS hl o h; cases h
    | succ k ih =>
      intro H locs ls hP hD hS hl o h kk
      rw [lpX5_plays_272] at h
      refine lv_iload hx hb dX5_plays_272 (lv_at hl 3 rfl) ?_
      refine lv_aload_n hx hb dX5_plays_274 rfl (lv_at hl 0 rfl) ?_
      refine va_get (D := E.1) (ci := 5) (v := .int (M_places vM)) (C := RX5) (T := TX5) (N := 19) hx hb hts hinX5 hown hK.1 hP 0 rfl rfl 4 (by decide) hw16 (fun _ h9 => h9) rfl dX5_plays_275 ?_
      refine lv_icmp_ge (tgt := 320) hx hb dX5_plays_278 (by decide) (fun c127 => ?_) (fun c127 => ?_)
      · have h := q_pos c127 h
        obtain rfl := q_inj h
        exact kk _ _ _ hP hD hS (lv_sub hl [0, 1, 2] rfl)
      · have h := q_neg c127 h
        refine lv_aload_n hx hb dX5_plays_281 rfl (lv_at hl 0 rfl) ?_
        refine lv_iload hx hb dX5_plays_282 (lv_at hl 3 rfl) ?_
        refine lv_aload_n hx hb dX5_plays_284 rfl (lv_at hl 0 rfl) ?_
        refine va_get (D := E.1) (ci := 5) (v := .ref (aM 1)) (C := RX5) (T := TX5) (N := 19) hx hb hts hinX5 hown hK.1 hP 0 rfl rfl 1 (by decide) hw17 (fun _ h9 => h9) rfl dX5_plays_285 ?_
        refine lv_iload hx hb dX5_plays_288 (lv_at hl 3 rfl) ?_
        obtain ⟨i128, h⟩ := q_ck h
        refine va_iald (f := (M_helpers vM)) hx hb hK.1 hP 1 0 rfl rfl i128 dX5_plays_290 ?_
        refine lv_iload hx hb dX5_plays_291 (lv_at hl 3 rfl) ?_
        refine lv_iload_n hx hb dX5_plays_293 rfl (lv_at hl 1 rfl) ?_
        obtain ⟨z130, e131, h⟩ := q_bind h
        have KJ129 : ∀ (H : Heap) (locs : List Loc), va_P E.1 vwCl (WM E aM vM) H → va_D A (WM E aM vM) → va_S A s.heap H locs → W pr l e rmX5_plays s m args below meth c H locs 0 0 Q (F0 m 302 ls [.int z130, .int ((M_helpers vM) (Int32.toNatClampNeg x4)), .int x4, .ref (aM 0)]) := by
          intro H locs hP hD hS
          refine lv_iadd hx hb dX5_plays_302 ?_
          refine lv_aload_n hx hb dX5_plays_303 rfl (lv_at hl 0 rfl) ?_
          refine va_get (D := E.1) (ci := 5) (v := .ref (aM 2)) (C := RX5) (T := TX5) (N := 19) hx hb hts hinX5 hown hK.1 hP 0 rfl rfl 2 (by decide) hw18 (fun _ h9 => h9) rfl dX5_plays_304 ?_
          refine lv_iload hx hb dX5_plays_307 (lv_at hl 3 rfl) ?_
          obtain ⟨i132, h⟩ := q_ck h
          refine va_iald (f := (M_rule vM)) hx hb hK.1 hP 2 0 rfl rfl i132 dX5_plays_309 ?_
          refine lv_iload_n hx hb dX5_plays_310 rfl (lv_at hl 2 rfl) ?_
          obtain ⟨o133, e134, h⟩ := q_bind h
          refine q_cv (va_runV (As := [.int x4, .int (((M_helpers vM) (Int32.toNatClampNeg x4)) + z130), .int ((M_rule vM) (Int32.toNatClampNeg x4)), .int x2]) (rest := []) ⟨hx, hb, hml, hown, hts⟩ (wX5_begins l E aM vM x4 (((M_helpers vM) (Int32.toNatClampNeg x4)) + z130) ((M_rule vM) (Int32.toNatClampNeg x4)) x2 o133 e134 _) (cwV 4 hts gX5_plays_X5_begins rfl rfl rfl (by decide +kernel) ⟨Nat.le_of_ble_eq_true rfl, Nat.le_of_ble_eq_true rfl⟩) (q_preV hK hP hD q_idl 5 0 rfl rfl) rfl rfl hl.1 rfl (lv_room (Nat.le_of_ble_eq_true rfl)) dX5_plays_311 ⟨Nat.zero_le _, Nat.zero_le _⟩) hP hD hS hA q_idl q_idr (fun H locs hP hD hS => ?_)
          refine lv_iinc (v := (x4 + 1)) (lv' := [(4, .int (x4 + 1)), (0, .ref (aM 0)), (1, .int x1), (2, .int x2)]) hx hb dX5_plays_314 hl (k := 3) rfl rfl (by decide) rfl (fun ls hl => ?_)
          refine lv_goto (tgt := 272) hx hb dX5_plays_317 (by decide) ?_
          exact ih o133 (x4 + 1) _ _ _ hP hD hS (lv_sub hl [1, 2, 3, 0] rfl) _ h kk
        have h := e131
        refine lv_icmp_ne (tgt := 301) hx hb dX5_plays_294 (by decide) (fun c135 => ?_) (fun c135 => ?_)
        · have h := q_neg c135 h
          refine lv_iconst (v := 0) hx hb dX5_plays_301 (by decide) ?_
          obtain rfl := q_inj h
          exact KJ129 _ _ hP hD hS
        · have h := q_pos c135 h
          refine lv_iconst (v := 1) hx hb dX5_plays_297 (by decide) ?_
          refine lv_goto (tgt := 302) hx hb dX5_plays_298 (by decide) ?_
          obtain rfl := q_inj h
          exact KJ129 _ _ hP hD hS
  have L63 : ∀ (vM : SM) (x1 : Int32) (x2 : Int32) (k : Nat) (H : Heap) (locs : List Loc) (ls : Array Slot), va_P E.1 vwCl (WM E aM vM) H → va_D A (WM E aM vM) → va_S A s.heap H locs → lv_has ls 5 [(0, .ref (aM 0)), (1, .int x1), (2, .int x2)] → ∀ o, lpX5_plays_63 x1 k x2 vM = some o → (∀ rr, o = rr → ∀ (pc : Nat) (H : Heap) (locs : List Loc) (ls : Array Slot), decode cX5_plays pc = .ok (.ireturn, 1) → va_P E.1 vwCl (WM E aM rr.2) H → va_D A (WM E aM rr.2) → va_S A s.heap H locs → W pr l e rmX5_plays s m args below meth c H locs 0 0 Q (F0 m pc ls [.int rr.1])) → W pr l e rmX5_plays s m args below meth c H locs 0 0 Q (F0 m 63 ls []) := by
    intro vM x1 x2 k
    induction k generalizing x2 vM with
    | zero => intro H locs ls hP hD hS hl o h; cases h
    | succ k ih =>
      intro H locs ls hP hD hS hl o h kr 
      rw [lpX5_plays_63] at h
      refine lv_ldc (v := 2000000000) hx hb hown hw5 dX5_plays_63 ?_
      refine lv_istore_n (lv' := [(3, .int 2000000000), (0, .ref (aM 0)), (1, .int x1), (2, .int x2)]) hx hb dX5_plays_65 rfl hl (by decide) rfl (fun ls hl => ?_)
      refine lv_iconst (v := 0) hx hb dX5_plays_66 (by decide) ?_
      refine lv_istore (lv' := [(4, .int 0), (3, .int 2000000000), (0, .ref (aM 0)), (1, .int x1), (2, .int x2)]) hx hb dX5_plays_67 hl (by decide) rfl (fun ls hl => ?_)
      obtain ⟨o152, e153, h⟩ := q_bind h
      refine L69 vM x1 x2 2000000000 0 qFU _ _ _ hP hD hS (lv_sub hl [2, 3, 4, 1, 0] rfl) o152 e153 (fun H locs ls hP hD hS hl => ?_)
      refine lv_iload_n hx hb dX5_plays_132 rfl (lv_at hl 3 rfl) ?_
      refine lv_ldc (v := 2000000000) hx hb hown hw5 dX5_plays_133 ?_
      refine lv_icmp_ne (tgt := 144) hx hb dX5_plays_135 (by decide) (fun c155 => ?_) (fun c155 => ?_)
      · have h := q_neg c155 h
        refine lv_iload_n hx hb dX5_plays_144 rfl (lv_at hl 3 rfl) ?_
        refine lv_istore_n (lv' := [(2, .int o152), (0, .ref (aM 0)), (1, .int x1), (3, .int o152)]) hx hb dX5_plays_145 rfl hl (by decide) rfl (fun ls hl => ?_)
        refine lv_iconst (v := 0) hx hb dX5_plays_146 (by decide) ?_
        refine lv_istore (lv' := [(4, .int 0), (2, .int o152), (0, .ref (aM 0)), (1, .int x1), (3, .int o152)]) hx hb dX5_plays_147 hl (by decide) rfl (fun ls hl => ?_)
        obtain ⟨o156, e157, h⟩ := q_bind h
        refine L149 vM x1 o152 0 qFU _ _ _ hP hD hS (lv_sub hl [2, 3, 1, 0] rfl) o156 e157 (fun H locs ls hP hD hS hl => ?_)
        refine lv_iconst (v := 0) hx hb dX5_plays_218 (by decide) ?_
        refine lv_istore (lv' := [(4, .int 0), (0, .ref (aM 0)), (1, .int x1), (2, .int o152)]) hx hb dX5_plays_219 hl (by decide) rfl (fun ls hl => ?_)
        obtain ⟨o159, e160, h⟩ := q_bind h
        refine L221 o156 x1 o152 0 qFU _ _ _ hP hD hS (lv_sub hl [1, 2, 3, 0] rfl) o159 e160 (fun H locs ls hP hD hS hl => ?_)
        refine lv_iconst (v := 0) hx hb dX5_plays_269 (by decide) ?_
        refine lv_istore (lv' := [(4, .int 0), (0, .ref (aM 0)), (1, .int x1), (2, .int o152)]) hx hb dX5_plays_270 hl (by decide) rfl (fun ls hl => ?_)
        obtain ⟨o162, e163, h⟩ := q_bind h
        refine L272 o159 x1 o152 0 qFU _ _ _ hP hD hS (lv_sub hl [1, 2, 3, 0] rfl) o162 e163 (fun H locs ls hP hD hS hl => ?_)
        refine lv_goto (tgt := 63) hx hb dX5_plays_320 (by decide) ?_
        exact ih o162 o152 _ _ _ hP hD hS (lv_sub hl [0, 1, 2] rfl) _ h kr 
      · have h := q_pos c155 h
        refine lv_iconst (v := 0) hx hb dX5_plays_138 (by decide) ?_
        refine lv_iload_n hx hb dX5_plays_139 rfl (lv_at hl 2 rfl) ?_
        refine va_mmax hx hb (hml.trans hl.1.symm) hown hw19 hw20 hw9 hw21 (Nat.le_of_ble_eq_true rfl) (Nat.le_of_ble_eq_true rfl) (Nat.zero_le _) (Nat.zero_le _) dX5_plays_140 ?_
        obtain rfl := q_inj h
        exact kr _ rfl 143 _ _ _ dX5_plays_143 hP hD hS
  unfold mX5_plays at h
  refine lv_aload_n hx hb dX5_plays_0 rfl (lv_at hl 0 rfl) ?_
  obtain ⟨o1, e2, h⟩ := q_bind h
  refine q_cv (va_runV (As := []) (rest := []) ⟨hx, hb, hml, hown, hts⟩ (wX5_forgets l E aM vM o1 e2 _) (cwV 0 hts gX5_plays_X5_forgets rfl rfl rfl (by decide +kernel) ⟨Nat.le_of_ble_eq_true rfl, Nat.le_of_ble_eq_true rfl⟩) (q_preV hK hP hD q_idl 5 0 rfl rfl) rfl rfl hl.1 rfl (lv_room (Nat.le_of_ble_eq_true rfl)) dX5_plays_1 ⟨Nat.zero_le _, Nat.zero_le _⟩) hP hD hS hA q_idl q_idr (fun H locs hP hD hS => ?_)
  refine lv_iconst (v := 0) hx hb dX5_plays_4 (by decide) ?_
  refine lv_istore_n (lv' := [(2, .int 0), (0, .ref (aM 0)), (1, .int x1)]) hx hb dX5_plays_5 rfl hl (by decide) rfl (fun ls hl => ?_)
  obtain ⟨o12, e13, h⟩ := q_bind h
  refine L6 o1 x1 0 qFU _ _ _ hP hD hS (lv_sub hl [1, 2, 0] rfl) o12 e13 (fun H locs ls hP hD hS hl => ?_)
  refine lv_iconst (v := 0) hx hb dX5_plays_31 (by decide) ?_
  refine lv_istore_n (lv' := [(2, .int 0), (0, .ref (aM 0)), (1, .int x1)]) hx hb dX5_plays_32 rfl hl (by decide) rfl (fun ls hl => ?_)
  obtain ⟨o24, e25, h⟩ := q_bind h
  refine L33 o12 x1 0 qFU _ _ _ hP hD hS (lv_sub hl [1, 2, 0] rfl) o24 e25 (fun H locs ls hP hD hS hl => ?_)
  refine lv_iconst (v := (-1)) hx hb dX5_plays_61 (by decide) ?_
  refine lv_istore_n (lv' := [(2, .int (-1)), (0, .ref (aM 0)), (1, .int x1)]) hx hb dX5_plays_62 rfl hl (by decide) rfl (fun ls hl => ?_)
  obtain ⟨o165, e166, h⟩ := q_bind h
  exact L63 o24 x1 (-1) qFU _ _ _ hP hD hS (lv_sub hl [1, 2, 0] rfl) o165 e166 (fun rr167 e pc H locs ls => by subst e; obtain rfl := q_inj h; exact hRt pc H locs ls)
