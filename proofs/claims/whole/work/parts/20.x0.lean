theorem wd_kJ6_bitCount_0f7a4_c265 : Cond.constant RJ6 265 (1431655765) ∈ wsJ6_bitCount_0f7a4 := by decide +kernel
theorem wd_kJ6_bitCount_0f7a4_c266 : Cond.constant RJ6 266 (858993459) ∈ wsJ6_bitCount_0f7a4 := by decide +kernel
theorem wd_kJ6_bitCount_0f7a4_c267 : Cond.constant RJ6 267 (252645135) ∈ wsJ6_bitCount_0f7a4 := by decide +kernel
abbrev rmJ6_bitCount_0f7a4 : Room := { frames := 0, cells := 0, slots := 0, locals := 0 }
set_option maxRecDepth 100000 in
set_option maxHeartbeats 4000000 in
theorem kJ6_bitCount_0f7a4 (l : Launch) (G : va_G) (cI cZ cJ cD : ClassId) (x : Int32) : Ci l G (kTy cI cZ cJ cD) yJ6_bitCount_0f7a4 wsJ6_bitCount_0f7a4 rmJ6_bitCount_0f7a4 [.int x] [] (popc x) [] := by
  refine Ci.of .int rfl rfl rfl (cc := cJ6_bitCount_0f7a4) (maxL := 1) (by decide +kernel) rfl (Nat.le_of_ble_eq_true rfl) rfl ?_
  intro p e s m args below meth c A Q hx hb hml hts hown hA hK hP hD hS hend ls hl
  refine lv_iload_n hx hb dJ6_bitCount_0f7a4_0 rfl (lv_at hl 0 rfl) ?_
  refine lv_iload_n hx hb dJ6_bitCount_0f7a4_1 rfl (lv_at hl 0 rfl) ?_
  refine lv_iconst (v := 1) hx hb dJ6_bitCount_0f7a4_2 (by decide) ?_
  refine lv_iushr (v := sUshr x 1) hx hb dJ6_bitCount_0f7a4_3 rfl ?_
  refine lv_ldcw (v := 1431655765) hx hb hown (hts _ wd_kJ6_bitCount_0f7a4_c265) dJ6_bitCount_0f7a4_4 ?_
  refine lv_iand hx hb dJ6_bitCount_0f7a4_7 ?_
  refine lv_isub hx hb dJ6_bitCount_0f7a4_8 ?_
  refine kTopI (z := pc1 x) rfl ?_
  refine lv_istore_n (lv' := [(0, .int (pc1 x))]) hx hb dJ6_bitCount_0f7a4_9 rfl hl (by decide) rfl (fun ls hl => ?_)
  refine lv_iload_n hx hb dJ6_bitCount_0f7a4_10 rfl (lv_at hl 0 rfl) ?_
  refine lv_ldcw (v := 858993459) hx hb hown (hts _ wd_kJ6_bitCount_0f7a4_c266) dJ6_bitCount_0f7a4_11 ?_
  refine lv_iand hx hb dJ6_bitCount_0f7a4_14 ?_
  refine lv_iload_n hx hb dJ6_bitCount_0f7a4_15 rfl (lv_at hl 0 rfl) ?_
  refine lv_iconst (v := 2) hx hb dJ6_bitCount_0f7a4_16 (by decide) ?_
  refine lv_iushr (v := sUshr (pc1 x) 2) hx hb dJ6_bitCount_0f7a4_17 rfl ?_
  refine lv_ldcw (v := 858993459) hx hb hown (hts _ wd_kJ6_bitCount_0f7a4_c266) dJ6_bitCount_0f7a4_18 ?_
  refine lv_iand hx hb dJ6_bitCount_0f7a4_21 ?_
  refine lv_iadd hx hb dJ6_bitCount_0f7a4_22 ?_
  refine kTopI (z := pc2 (pc1 x)) rfl ?_
  refine lv_istore_n (lv' := [(0, .int (pc2 (pc1 x)))]) hx hb dJ6_bitCount_0f7a4_23 rfl hl (by decide) rfl (fun ls hl => ?_)
  refine lv_iload_n hx hb dJ6_bitCount_0f7a4_24 rfl (lv_at hl 0 rfl) ?_
  refine lv_iload_n hx hb dJ6_bitCount_0f7a4_25 rfl (lv_at hl 0 rfl) ?_
  refine lv_iconst (v := 4) hx hb dJ6_bitCount_0f7a4_26 (by decide) ?_
  refine lv_iushr (v := sUshr (pc2 (pc1 x)) 4) hx hb dJ6_bitCount_0f7a4_27 rfl ?_
  refine lv_iadd hx hb dJ6_bitCount_0f7a4_28 ?_
  refine lv_ldcw (v := 252645135) hx hb hown (hts _ wd_kJ6_bitCount_0f7a4_c267) dJ6_bitCount_0f7a4_29 ?_
  refine lv_iand hx hb dJ6_bitCount_0f7a4_32 ?_
  refine kTopI (z := pc3 (pc2 (pc1 x))) rfl ?_
  refine lv_istore_n (lv' := [(0, .int (pc3 (pc2 (pc1 x))))]) hx hb dJ6_bitCount_0f7a4_33 rfl hl (by decide) rfl (fun ls hl => ?_)
  refine lv_iload_n hx hb dJ6_bitCount_0f7a4_34 rfl (lv_at hl 0 rfl) ?_
  refine lv_iload_n hx hb dJ6_bitCount_0f7a4_35 rfl (lv_at hl 0 rfl) ?_
  refine lv_bipush (v := 8) hx hb dJ6_bitCount_0f7a4_36 (by decide) ?_
  refine lv_iushr (v := sUshr (pc3 (pc2 (pc1 x))) 8) hx hb dJ6_bitCount_0f7a4_38 rfl ?_
  refine lv_iadd hx hb dJ6_bitCount_0f7a4_39 ?_
  refine kTopI (z := pc4 (pc3 (pc2 (pc1 x)))) rfl ?_
  refine lv_istore_n (lv' := [(0, .int (pc4 (pc3 (pc2 (pc1 x)))))]) hx hb dJ6_bitCount_0f7a4_40 rfl hl (by decide) rfl (fun ls hl => ?_)
  refine lv_iload_n hx hb dJ6_bitCount_0f7a4_41 rfl (lv_at hl 0 rfl) ?_
  refine lv_iload_n hx hb dJ6_bitCount_0f7a4_42 rfl (lv_at hl 0 rfl) ?_
  refine lv_bipush (v := 16) hx hb dJ6_bitCount_0f7a4_43 (by decide) ?_
  refine lv_iushr (v := sUshr (pc4 (pc3 (pc2 (pc1 x)))) 16) hx hb dJ6_bitCount_0f7a4_45 rfl ?_
  refine lv_iadd hx hb dJ6_bitCount_0f7a4_46 ?_
  refine kTopI (z := pc5 (pc4 (pc3 (pc2 (pc1 x))))) rfl ?_
  refine lv_istore_n (lv' := [(0, .int (pc5 (pc4 (pc3 (pc2 (pc1 x))))))]) hx hb dJ6_bitCount_0f7a4_47 rfl hl (by decide) rfl (fun ls hl => ?_)
  refine lv_iload_n hx hb dJ6_bitCount_0f7a4_48 rfl (lv_at hl 0 rfl) ?_
  refine lv_bipush (v := 63) hx hb dJ6_bitCount_0f7a4_49 (by decide) ?_
  refine lv_iand hx hb dJ6_bitCount_0f7a4_51 ?_
  exact hend _ _ _ _ _ _ dJ6_bitCount_0f7a4_52 hP hD hS rfl rfl
abbrev rmJ9_floorMod_7cf53 : Room := { frames := 0, cells := 0, slots := 0, locals := 0 }
set_option maxRecDepth 100000 in
set_option maxHeartbeats 4000000 in
theorem kJ9_floorMod_7cf53 (l : Launch) (G : va_G) (cI cZ cJ cD : ClassId) (x y : Int32) (hy : ¬ y = 0) : Ci l G (kTy cI cZ cJ cD) yJ9_floorMod_7cf53 wsJ9_floorMod_7cf53 rmJ9_floorMod_7cf53 [.int x, .int y] [] (floorF x y) [] := by
  refine Ci.of .int rfl rfl rfl (cc := cJ9_floorMod_7cf53) (maxL := 3) (by decide +kernel) rfl (Nat.le_of_ble_eq_true rfl) rfl ?_
  intro p e s m args below meth c A Q hx hb hml hts hown hA hK hP hD hS hend ls hl
  refine lv_iload_n hx hb dJ9_floorMod_7cf53_0 rfl (lv_at hl 0 rfl) ?_
  refine lv_iload_n hx hb dJ9_floorMod_7cf53_1 rfl (lv_at hl 1 rfl) ?_
  refine lv_irem hx hb dJ9_floorMod_7cf53_2 hy ?_
  refine lv_istore_n (lv' := [(2, .int (x - x / y * y)), (0, .int x), (1, .int y)]) hx hb dJ9_floorMod_7cf53_3 rfl hl (by decide) rfl (fun ls hl => ?_)
  refine lv_iload_n hx hb dJ9_floorMod_7cf53_4 rfl (lv_at hl 1 rfl) ?_
  refine lv_iload_n hx hb dJ9_floorMod_7cf53_5 rfl (lv_at hl 2 rfl) ?_
  refine lv_ixor hx hb dJ9_floorMod_7cf53_6 ?_
  refine lv_if_ge (tgt := 18) hx hb dJ9_floorMod_7cf53_7 (by decide) (fun c_7 => ?_) (fun c_7 => ?_)
  · refine lv_iload_n hx hb dJ9_floorMod_7cf53_18 rfl (lv_at hl 0 rfl) ?_
    exact hend _ _ _ _ _ _ dJ9_floorMod_7cf53_19 hP hD hS (by first | rfl | (simp only [floorF, c_7, ↓reduceIte]; done) | (simp [floorF, c_7]; done)) rfl
  · refine lv_iload_n hx hb dJ9_floorMod_7cf53_10 rfl (lv_at hl 0 rfl) ?_
    refine lv_if_eq (tgt := 18) hx hb dJ9_floorMod_7cf53_11 (by decide) (fun c_11 => ?_) (fun c_11 => ?_)
    · refine lv_iload_n hx hb dJ9_floorMod_7cf53_18 rfl (lv_at hl 0 rfl) ?_
      exact hend _ _ _ _ _ _ dJ9_floorMod_7cf53_19 hP hD hS (by first | rfl | (simp only [floorF, c_7, c_11, ↓reduceIte]; done) | (simp [floorF, c_7, c_11]; done)) rfl
    · refine lv_iload_n hx hb dJ9_floorMod_7cf53_14 rfl (lv_at hl 0 rfl) ?_
      refine lv_iload_n hx hb dJ9_floorMod_7cf53_15 rfl (lv_at hl 2 rfl) ?_
      refine lv_iadd hx hb dJ9_floorMod_7cf53_16 ?_
      exact hend _ _ _ _ _ _ dJ9_floorMod_7cf53_17 hP hD hS (by first | rfl | (simp only [floorF, c_7, c_11, ↓reduceIte]; done) | (simp [floorF, c_7, c_11]; done)) rfl
abbrev rmX1_wrapped : Room := { frames := 1, cells := 0, slots := 0, locals := 22 }
set_option maxRecDepth 100000 in
set_option maxHeartbeats 4000000 in
theorem kX1_wrapped (l : Launch) (G : va_G) (cI cZ cJ cD : ClassId) (x y : Int32) : Ci l G (kTy cI cZ cJ cD) yX1_wrapped wsX1_wrapped rmX1_wrapped [.int x, .int y] [] (wrapF x y) [] := by
  refine Ci.of .int rfl rfl rfl (cc := cX1_wrapped) (maxL := 2) (plainFor_of_name (by decide)) rfl (Nat.le_of_ble_eq_true rfl) rfl ?_
  intro p e s m args below meth c A Q hx hb hml hts hown hA hK hP hD hS hend ls hl
  refine lv_iload_n hx hb dX1_wrapped_0 rfl (lv_at hl 1 rfl) ?_
  refine lv_iconst (v := 1) hx hb dX1_wrapped_1 (by decide) ?_
  refine lv_icmp_ge (tgt := 9) hx hb dX1_wrapped_2 (by decide) (fun c_2 => ?_) (fun c_2 => ?_)
  · refine lv_iload_n hx hb dX1_wrapped_9 rfl (lv_at hl 0 rfl) ?_
    refine lv_iload_n hx hb dX1_wrapped_10 rfl (lv_at hl 1 rfl) ?_
    refine kSi (rest := []) (kJ9_floorMod_7cf53 l G cI cZ cJ cD x y (by rintro rfl; exact absurd c_2 (by decide))) ⟨hx, hb, hml, hown, hts⟩ (va_cwS 2 hts gX1_wrapped_J9_floorMod_7cf53 rfl rfl rfl hs_J9_floorMod_7cf53 ⟨Nat.le_of_ble_eq_true rfl, Nat.le_of_ble_eq_true rfl⟩) hK hP hD hS hA rfl hl.1 rfl (Nat.le_of_ble_eq_true rfl) dX1_wrapped_11 ⟨Nat.le_of_ble_eq_true rfl, Nat.le_of_ble_eq_true rfl⟩ rfl rfl (fun H locs hP hD hS => ?_)
    exact hend _ _ _ _ _ _ dX1_wrapped_14 hP hD hS (by first | rfl | (simp only [wrapF, c_2, ↓reduceIte]; done) | (simp [wrapF, c_2]; done)) rfl
  · refine lv_iconst (v := 0) hx hb dX1_wrapped_5 (by decide) ?_
    refine lv_goto (tgt := 14) hx hb dX1_wrapped_6 (by decide) ?_
    exact hend _ _ _ _ _ _ dX1_wrapped_14 hP hD hS (by first | rfl | (simp only [wrapF, c_2, ↓reduceIte]; done) | (simp [wrapF, c_2]; done)) rfl
abbrev rmX0_bitsOf : Room := { frames := 0, cells := 0, slots := 0, locals := 0 }
set_option maxRecDepth 100000 in
set_option maxHeartbeats 4000000 in
theorem kX0_bitsOf (l : Launch) (G : va_G) (cI cZ cJ cD : ClassId) (x : Int32) : Ci l G (kTy cI cZ cJ cD) yX0_bitsOf wsX0_bitsOf rmX0_bitsOf [.int x] [] (bitsOfF x) [] := by
  refine Ci.of .int rfl rfl rfl (cc := cX0_bitsOf) (maxL := 1) (plainFor_of_name (by decide)) rfl (Nat.le_of_ble_eq_true rfl) rfl ?_
  intro p e s m args below meth c A Q hx hb hml hts hown hA hK hP hD hS hend ls hl
  refine lv_iconst (v := 1) hx hb dX0_bitsOf_0 (by decide) ?_
  refine lv_iload_n hx hb dX0_bitsOf_1 rfl (lv_at hl 0 rfl) ?_
  refine lv_ishl hx hb dX0_bitsOf_2 ?_
  refine lv_iconst (v := 1) hx hb dX0_bitsOf_3 (by decide) ?_
  refine lv_isub hx hb dX0_bitsOf_4 ?_
  exact hend _ _ _ _ _ _ dX0_bitsOf_5 hP hD hS rfl rfl
theorem in_kX0_has_X0 : ∀ w ∈ u_ws RX0 TX0 6, w ∈ wsX0_has := by decide +kernel
theorem fl_kX0_has_9 : Cond.fieldLink RX0 9 "SkewFind$Picture" "width" "I" ∈ wsX0_has := by decide +kernel
theorem fl_kX0_has_15 : Cond.fieldLink RX0 15 "SkewFind$Picture" "height" "I" ∈ wsX0_has := by decide +kernel
abbrev rmX0_has : Room := { frames := 0, cells := 0, slots := 0, locals := 0 }
set_option maxRecDepth 100000 in
set_option maxHeartbeats 4000000 in
theorem kX0_has (l : Launch) (G : va_G) (cI cZ cJ cD : ClassId) (h0 q1 q2 w h : Nat) (hw : w ≤ 24) (hh : h ≤ 24) (B O : Nat → Int32) (x y : Int32) : Ci l G (kTy cI cZ cJ cD) yX0_has wsX0_has rmX0_has [.ref h0, .int x, .int y] [(h0, .inr (0, [.int (nI w), .int (nI h), .double (midF w), .double (midF h), .ref q1, .ref q2])), (q1, .inl (cI, 24, .inl B)), (q2, .inl (cI, 24, .inl O))] (b2i (hasB w h x y)) [(h0, .inr (0, [.int (nI w), .int (nI h), .double (midF w), .double (midF h), .ref q1, .ref q2])), (q1, .inl (cI, 24, .inl B)), (q2, .inl (cI, 24, .inl O))] := by
  refine Ci.of .boolean (nar_b2i _) rfl rfl (cc := cX0_has) (maxL := 3) (plainFor_of_name (by decide)) rfl (Nat.le_of_ble_eq_true rfl) rfl ?_
  intro p e s m args below meth c A Q hx hb hml hts hown hA hK hP hD hS hend ls hl
  refine lv_iload_n hx hb dX0_has_0 rfl (lv_at hl 1 rfl) ?_
  refine lv_if_lt (tgt := 28) hx hb dX0_has_1 (by decide) (fun c_1 => ?_) (fun c_1 => ?_)
  · refine lv_iconst (v := 0) hx hb dX0_has_28 (by decide) ?_
    exact hend _ _ _ _ _ _ dX0_has_29 hP hD hS (by first | rfl | (simp only [hasB, b2i_t, b2i_f, c_1, ↓reduceIte]; done) | (simp [hasB, b2i_t, b2i_f, c_1]; done)) rfl
  · refine lv_iload_n hx hb dX0_has_4 rfl (lv_at hl 1 rfl) ?_
    refine lv_aload_n hx hb dX0_has_5 rfl (lv_at hl 0 rfl) ?_
    refine va_get (D := G) (ci := 0) (v := .int (nI w)) (C := RX0) (T := TX0) (N := 6) hx hb hts in_kX0_has_X0 hown hK hP 0 rfl rfl 0 (by decide) (hts _ fl_kX0_has_9) (fun _ h9 => h9) rfl dX0_has_6 ?_
    refine lv_icmp_ge (tgt := 28) hx hb dX0_has_9 (by decide) (fun c_9 => ?_) (fun c_9 => ?_)
    · refine lv_iconst (v := 0) hx hb dX0_has_28 (by decide) ?_
      exact hend _ _ _ _ _ _ dX0_has_29 hP hD hS (by first | rfl | (simp only [hasB, b2i_t, b2i_f, c_1, c_9, ↓reduceIte]; done) | (simp [hasB, b2i_t, b2i_f, c_1, c_9]; done)) rfl
    · refine lv_iload_n hx hb dX0_has_12 rfl (lv_at hl 2 rfl) ?_
      refine lv_if_lt (tgt := 28) hx hb dX0_has_13 (by decide) (fun c_13 => ?_) (fun c_13 => ?_)
      · refine lv_iconst (v := 0) hx hb dX0_has_28 (by decide) ?_
        exact hend _ _ _ _ _ _ dX0_has_29 hP hD hS (by first | rfl | (simp only [hasB, b2i_t, b2i_f, c_1, c_9, c_13, ↓reduceIte]; done) | (simp [hasB, b2i_t, b2i_f, c_1, c_9, c_13]; done)) rfl
      · refine lv_iload_n hx hb dX0_has_16 rfl (lv_at hl 2 rfl) ?_
        refine lv_aload_n hx hb dX0_has_17 rfl (lv_at hl 0 rfl) ?_
        refine va_get (D := G) (ci := 0) (v := .int (nI h)) (C := RX0) (T := TX0) (N := 6) hx hb hts in_kX0_has_X0 hown hK hP 0 rfl rfl 1 (by decide) (hts _ fl_kX0_has_15) (fun _ h9 => h9) rfl dX0_has_18 ?_
        refine lv_icmp_ge (tgt := 28) hx hb dX0_has_21 (by decide) (fun c_21 => ?_) (fun c_21 => ?_)
        · refine lv_iconst (v := 0) hx hb dX0_has_28 (by decide) ?_
          exact hend _ _ _ _ _ _ dX0_has_29 hP hD hS (by first | rfl | (simp only [hasB, b2i_t, b2i_f, c_1, c_9, c_13, c_21, ↓reduceIte]; done) | (simp [hasB, b2i_t, b2i_f, c_1, c_9, c_13, c_21]; done)) rfl
        · refine lv_iconst (v := 1) hx hb dX0_has_24 (by decide) ?_
          refine lv_goto (tgt := 29) hx hb dX0_has_25 (by decide) ?_
          exact hend _ _ _ _ _ _ dX0_has_29 hP hD hS (by first | rfl | (simp only [hasB, b2i_t, b2i_f, c_1, c_9, c_13, c_21, ↓reduceIte]; done) | (simp [hasB, b2i_t, b2i_f, c_1, c_9, c_13, c_21]; done)) rfl
theorem in_kX0_rowBits_X0 : ∀ w ∈ u_ws RX0 TX0 6, w ∈ wsX0_rowBits := by decide +kernel
theorem fl_kX0_rowBits_27 : Cond.fieldLink RX0 27 "SkewFind$Picture" "bits" "[I" ∈ wsX0_rowBits := by decide +kernel
abbrev rmX0_rowBits : Room := { frames := 0, cells := 0, slots := 0, locals := 0 }
set_option maxRecDepth 100000 in
set_option maxHeartbeats 4000000 in
theorem kX0_rowBits (l : Launch) (G : va_G) (cI cZ cJ cD : ClassId) (h0 q1 q2 w h : Nat) (hw : w ≤ 24) (hh : h ≤ 24) (B O : Nat → Int32) (y : Int32) : Ci l G (kTy cI cZ cJ cD) yX0_rowBits wsX0_rowBits rmX0_rowBits [.ref h0, .int y] [(h0, .inr (0, [.int (nI w), .int (nI h), .double (midF w), .double (midF h), .ref q1, .ref q2])), (q1, .inl (cI, 24, .inl B)), (q2, .inl (cI, 24, .inl O))] (rowF B y) [(h0, .inr (0, [.int (nI w), .int (nI h), .double (midF w), .double (midF h), .ref q1, .ref q2])), (q1, .inl (cI, 24, .inl B)), (q2, .inl (cI, 24, .inl O))] := by
  refine Ci.of .int rfl rfl rfl (cc := cX0_rowBits) (maxL := 2) (plainFor_of_name (by decide)) rfl (Nat.le_of_ble_eq_true rfl) rfl ?_
  intro p e s m args below meth c A Q hx hb hml hts hown hA hK hP hD hS hend ls hl
  refine lv_iload_n hx hb dX0_rowBits_0 rfl (lv_at hl 1 rfl) ?_
  refine lv_if_lt (tgt := 22) hx hb dX0_rowBits_1 (by decide) (fun c_1 => ?_) (fun c_1 => ?_)
  · refine lv_iconst (v := 0) hx hb dX0_rowBits_22 (by decide) ?_
    exact hend _ _ _ _ _ _ dX0_rowBits_23 hP hD hS (by first | rfl | (simp only [rowF, c_1, ↓reduceIte]; done) | (simp [rowF, c_1]; done)) rfl
  · refine lv_iload_n hx hb dX0_rowBits_4 rfl (lv_at hl 1 rfl) ?_
    refine lv_aload_n hx hb dX0_rowBits_5 rfl (lv_at hl 0 rfl) ?_
    refine va_get (D := G) (ci := 0) (v := .ref q1) (C := RX0) (T := TX0) (N := 6) hx hb hts in_kX0_rowBits_X0 hown hK hP 0 rfl rfl 4 (by decide) (hts _ fl_kX0_rowBits_27) (fun _ h9 => h9) rfl dX0_rowBits_6 ?_
    refine va_alen (v := nI 24) hx hb hK hP 1 0 rfl rfl rfl dX0_rowBits_9 ?_
    refine lv_icmp_ge (tgt := 22) hx hb dX0_rowBits_10 (by decide) (fun c_10 => ?_) (fun c_10 => ?_)
    · refine lv_iconst (v := 0) hx hb dX0_rowBits_22 (by decide) ?_
      exact hend _ _ _ _ _ _ dX0_rowBits_23 hP hD hS (by first | rfl | (simp only [rowF, c_1, c_10, ↓reduceIte]; done) | (simp [rowF, c_1, c_10]; done)) rfl
    · refine lv_aload_n hx hb dX0_rowBits_13 rfl (lv_at hl 0 rfl) ?_
      refine va_get (D := G) (ci := 0) (v := .ref q1) (C := RX0) (T := TX0) (N := 6) hx hb hts in_kX0_rowBits_X0 hown hK hP 0 rfl rfl 4 (by decide) (hts _ fl_kX0_rowBits_27) (fun _ h9 => h9) rfl dX0_rowBits_14 ?_
      refine lv_iload_n hx hb dX0_rowBits_17 rfl (lv_at hl 1 rfl) ?_
      refine va_iald hx hb hK hP 1 0 rfl rfl (vp_in_24 c_1 c_10) dX0_rowBits_18 ?_
      refine lv_goto (tgt := 23) hx hb dX0_rowBits_19 (by decide) ?_
      exact hend _ _ _ _ _ _ dX0_rowBits_23 hP hD hS (by first | rfl | (simp only [rowF, c_1, c_10, ↓reduceIte]; done) | (simp [rowF, c_1, c_10]; done)) rfl
theorem in_kX0_oldRowBits_X0 : ∀ w ∈ u_ws RX0 TX0 6, w ∈ wsX0_oldRowBits := by decide +kernel
theorem fl_kX0_oldRowBits_31 : Cond.fieldLink RX0 31 "SkewFind$Picture" "oldBits" "[I" ∈ wsX0_oldRowBits := by decide +kernel
abbrev rmX0_oldRowBits : Room := { frames := 0, cells := 0, slots := 0, locals := 0 }
set_option maxRecDepth 100000 in
set_option maxHeartbeats 4000000 in
theorem kX0_oldRowBits (l : Launch) (G : va_G) (cI cZ cJ cD : ClassId) (h0 q1 q2 w h : Nat) (hw : w ≤ 24) (hh : h ≤ 24) (B O : Nat → Int32) (y : Int32) : Ci l G (kTy cI cZ cJ cD) yX0_oldRowBits wsX0_oldRowBits rmX0_oldRowBits [.ref h0, .int y] [(h0, .inr (0, [.int (nI w), .int (nI h), .double (midF w), .double (midF h), .ref q1, .ref q2])), (q1, .inl (cI, 24, .inl B)), (q2, .inl (cI, 24, .inl O))] (rowF O y) [(h0, .inr (0, [.int (nI w), .int (nI h), .double (midF w), .double (midF h), .ref q1, .ref q2])), (q1, .inl (cI, 24, .inl B)), (q2, .inl (cI, 24, .inl O))] := by
  refine Ci.of .int rfl rfl rfl (cc := cX0_oldRowBits) (maxL := 2) (plainFor_of_name (by decide)) rfl (Nat.le_of_ble_eq_true rfl) rfl ?_
  intro p e s m args below meth c A Q hx hb hml hts hown hA hK hP hD hS hend ls hl
  refine lv_iload_n hx hb dX0_oldRowBits_0 rfl (lv_at hl 1 rfl) ?_
  refine lv_if_lt (tgt := 22) hx hb dX0_oldRowBits_1 (by decide) (fun c_1 => ?_) (fun c_1 => ?_)
  · refine lv_iconst (v := 0) hx hb dX0_oldRowBits_22 (by decide) ?_
    exact hend _ _ _ _ _ _ dX0_oldRowBits_23 hP hD hS (by first | rfl | (simp only [rowF, c_1, ↓reduceIte]; done) | (simp [rowF, c_1]; done)) rfl
  · refine lv_iload_n hx hb dX0_oldRowBits_4 rfl (lv_at hl 1 rfl) ?_
    refine lv_aload_n hx hb dX0_oldRowBits_5 rfl (lv_at hl 0 rfl) ?_
    refine va_get (D := G) (ci := 0) (v := .ref q2) (C := RX0) (T := TX0) (N := 6) hx hb hts in_kX0_oldRowBits_X0 hown hK hP 0 rfl rfl 5 (by decide) (hts _ fl_kX0_oldRowBits_31) (fun _ h9 => h9) rfl dX0_oldRowBits_6 ?_
    refine va_alen (v := nI 24) hx hb hK hP 2 0 rfl rfl rfl dX0_oldRowBits_9 ?_
    refine lv_icmp_ge (tgt := 22) hx hb dX0_oldRowBits_10 (by decide) (fun c_10 => ?_) (fun c_10 => ?_)
    · refine lv_iconst (v := 0) hx hb dX0_oldRowBits_22 (by decide) ?_
      exact hend _ _ _ _ _ _ dX0_oldRowBits_23 hP hD hS (by first | rfl | (simp only [rowF, c_1, c_10, ↓reduceIte]; done) | (simp [rowF, c_1, c_10]; done)) rfl
    · refine lv_aload_n hx hb dX0_oldRowBits_13 rfl (lv_at hl 0 rfl) ?_
      refine va_get (D := G) (ci := 0) (v := .ref q2) (C := RX0) (T := TX0) (N := 6) hx hb hts in_kX0_oldRowBits_X0 hown hK hP 0 rfl rfl 5 (by decide) (hts _ fl_kX0_oldRowBits_31) (fun _ h9 => h9) rfl dX0_oldRowBits_14 ?_
      refine lv_iload_n hx hb dX0_oldRowBits_17 rfl (lv_at hl 1 rfl) ?_
      refine va_iald hx hb hK hP 2 0 rfl rfl (vp_in_24 c_1 c_10) dX0_oldRowBits_18 ?_
      refine lv_goto (tgt := 23) hx hb dX0_oldRowBits_19 (by decide) ?_
      exact hend _ _ _ _ _ _ dX0_oldRowBits_23 hP hD hS (by first | rfl | (simp only [rowF, c_1, c_10, ↓reduceIte]; done) | (simp [rowF, c_1, c_10]; done)) rfl
theorem in_kX0_setRowBits_X0 : ∀ w ∈ u_ws RX0 TX0 6, w ∈ wsX0_setRowBits := by decide +kernel
theorem fl_kX0_setRowBits_27 : Cond.fieldLink RX0 27 "SkewFind$Picture" "bits" "[I" ∈ wsX0_setRowBits := by decide +kernel
abbrev rmX0_setRowBits : Room := { frames := 0, cells := 0, slots := 0, locals := 0 }
set_option maxRecDepth 100000 in
set_option maxHeartbeats 4000000 in
theorem kX0_setRowBits (l : Launch) (G : va_G) (cI cZ cJ cD : ClassId) (h0 q1 q2 w h : Nat) (hw : w ≤ 24) (hh : h ≤ 24) (B O : Nat → Int32) (y v : Int32) : Cv l G (kTy cI cZ cJ cD) yX0_setRowBits wsX0_setRowBits rmX0_setRowBits [.ref h0, .int y, .int v] [(h0, .inr (0, [.int (nI w), .int (nI h), .double (midF w), .double (midF h), .ref q1, .ref q2])), (q1, .inl (cI, 24, .inl B)), (q2, .inl (cI, 24, .inl O))] [(h0, .inr (0, [.int (nI w), .int (nI h), .double (midF w), .double (midF h), .ref q1, .ref q2])), (q1, .inl (cI, 24, .inl (setF B y v))), (q2, .inl (cI, 24, .inl O))] := by
  refine Cv.of rfl rfl (cc := cX0_setRowBits) (maxL := 3) (plainFor_of_name (by decide)) rfl (Nat.le_of_ble_eq_true rfl) rfl ?_
  intro p e s m args below meth c A Q hx hb hml hts hown hA hK hP hD hS hend ls hl
  refine lv_iload_n hx hb dX0_setRowBits_0 rfl (lv_at hl 1 rfl) ?_
  refine lv_if_lt (tgt := 20) hx hb dX0_setRowBits_1 (by decide) (fun c_1 => ?_) (fun c_1 => ?_)
  · exact hend _ _ _ _ _ dX0_setRowBits_20 hP hD hS (by first | rfl | (simp only [setF, c_1, ↓reduceIte]; done) | (simp [setF, c_1]; done))
  · refine lv_iload_n hx hb dX0_setRowBits_4 rfl (lv_at hl 1 rfl) ?_
    refine lv_aload_n hx hb dX0_setRowBits_5 rfl (lv_at hl 0 rfl) ?_
    refine va_get (D := G) (ci := 0) (v := .ref q1) (C := RX0) (T := TX0) (N := 6) hx hb hts in_kX0_setRowBits_X0 hown hK hP 0 rfl rfl 4 (by decide) (hts _ fl_kX0_setRowBits_27) (fun _ h9 => h9) rfl dX0_setRowBits_6 ?_
    refine va_alen (v := nI 24) hx hb hK hP 1 0 rfl rfl rfl dX0_setRowBits_9 ?_
    refine lv_icmp_ge (tgt := 20) hx hb dX0_setRowBits_10 (by decide) (fun c_10 => ?_) (fun c_10 => ?_)
    · exact hend _ _ _ _ _ dX0_setRowBits_20 hP hD hS (by first | rfl | (simp only [setF, c_1, c_10, ↓reduceIte]; done) | (simp [setF, c_1, c_10]; done))
    · refine lv_aload_n hx hb dX0_setRowBits_13 rfl (lv_at hl 0 rfl) ?_
      refine va_get (D := G) (ci := 0) (v := .ref q1) (C := RX0) (T := TX0) (N := 6) hx hb hts in_kX0_setRowBits_X0 hown hK hP 0 rfl rfl 4 (by decide) (hts _ fl_kX0_setRowBits_27) (fun _ h9 => h9) rfl dX0_setRowBits_14 ?_
      refine lv_iload_n hx hb dX0_setRowBits_17 rfl (lv_at hl 1 rfl) ?_
      refine lv_iload_n hx hb dX0_setRowBits_18 rfl (lv_at hl 2 rfl) ?_
      refine va_iast hx hb hK hP hD hS 1 0 rfl rfl (vp_in_24 c_1 c_10) dX0_setRowBits_19 (fun H locs (hP : va_P G vwCl [(h0, .inr (0, [.int (nI w), .int (nI h), .double (midF w), .double (midF h), .ref q1, .ref q2])), (q1, .inl (cI, 24, .inl (upd B y.toNatClampNeg v))), (q2, .inl (cI, 24, .inl O))] H) (hD : va_D A [(h0, .inr (0, [.int (nI w), .int (nI h), .double (midF w), .double (midF h), .ref q1, .ref q2])), (q1, .inl (cI, 24, .inl (upd B y.toNatClampNeg v))), (q2, .inl (cI, 24, .inl O))]) hS => ?_)
      exact hend _ _ _ _ _ dX0_setRowBits_20 hP hD hS (by first | rfl | (simp only [setF, c_1, c_10, ↓reduceIte]; done) | (simp [setF, c_1, c_10]; done))
abbrev rmX0_isOn : Room := { frames := 1, cells := 0, slots := 0, locals := 22 }
set_option maxRecDepth 100000 in
set_option maxHeartbeats 4000000 in
theorem kX0_isOn (l : Launch) (G : va_G) (cI cZ cJ cD : ClassId) (h0 q1 q2 w h : Nat) (hw : w ≤ 24) (hh : h ≤ 24) (B O : Nat → Int32) (x y : Int32) : Ci l G (kTy cI cZ cJ cD) yX0_isOn wsX0_isOn rmX0_isOn [.ref h0, .int x, .int y] [(h0, .inr (0, [.int (nI w), .int (nI h), .double (midF w), .double (midF h), .ref q1, .ref q2])), (q1, .inl (cI, 24, .inl B)), (q2, .inl (cI, 24, .inl O))] (b2i (isOnB w h B x y)) [(h0, .inr (0, [.int (nI w), .int (nI h), .double (midF w), .double (midF h), .ref q1, .ref q2])), (q1, .inl (cI, 24, .inl B)), (q2, .inl (cI, 24, .inl O))] := by
  refine Ci.of .boolean (nar_b2i _) rfl rfl (cc := cX0_isOn) (maxL := 3) (plainFor_of_name (by decide)) rfl (Nat.le_of_ble_eq_true rfl) rfl ?_
  intro p e s m args below meth c A Q hx hb hml hts hown hA hK hP hD hS hend ls hl
  refine lv_aload_n hx hb dX0_isOn_0 rfl (lv_at hl 0 rfl) ?_
  refine lv_iload_n hx hb dX0_isOn_1 rfl (lv_at hl 1 rfl) ?_
  refine lv_iload_n hx hb dX0_isOn_2 rfl (lv_at hl 2 rfl) ?_
  refine kVi (w' := [(h0, .inr (0, [.int (nI w), .int (nI h), .double (midF w), .double (midF h), .ref q1, .ref q2])), (q1, .inl (cI, 24, .inl B)), (q2, .inl (cI, 24, .inl O))]) (wr := []) (isC := [0, 1, 2]) (isR := []) (pm := [0, 1, 2]) (rest := []) (kX0_has l G cI cZ cJ cD h0 q1 q2 w h hw hh B O x y) ⟨hx, hb, hml, hown, hts⟩ (cwV 2 hts gX0_isOn_X0_has rfl rfl rfl hd_X0_has ⟨Nat.le_of_ble_eq_true rfl, Nat.le_of_ble_eq_true rfl⟩) hK hP hD hS hA ⟨rfl, rfl, rfl, by decide, rfl, rfl, rfl⟩ 0 0 rfl rfl rfl hl.1 rfl (Nat.le_of_ble_eq_true rfl) dX0_isOn_3 ⟨Nat.le_of_ble_eq_true rfl, Nat.le_of_ble_eq_true rfl⟩ rfl rfl (fun H locs hP hD hS => ?_)
  refine kIfEqB (tgt := 25) hx hb dX0_isOn_6 (by decide) (fun c_6 => ?_) (fun c_6 => ?_)
  · refine lv_iconst (v := 0) hx hb dX0_isOn_25 (by decide) ?_
    exact hend _ _ _ _ _ _ dX0_isOn_26 hP hD hS (by first | rfl | (simp only [isOnB, b2i_t, b2i_f, c_6, ↓reduceIte]; done) | (simp [isOnB, b2i_t, b2i_f, c_6]; done)) rfl
  · refine lv_aload_n hx hb dX0_isOn_9 rfl (lv_at hl 0 rfl) ?_
    refine lv_iload_n hx hb dX0_isOn_10 rfl (lv_at hl 2 rfl) ?_
    refine kVi (w' := [(h0, .inr (0, [.int (nI w), .int (nI h), .double (midF w), .double (midF h), .ref q1, .ref q2])), (q1, .inl (cI, 24, .inl B)), (q2, .inl (cI, 24, .inl O))]) (wr := []) (isC := [0, 1, 2]) (isR := []) (pm := [0, 1, 2]) (rest := []) (kX0_rowBits l G cI cZ cJ cD h0 q1 q2 w h hw hh B O y) ⟨hx, hb, hml, hown, hts⟩ (cwV 1 hts gX0_isOn_X0_rowBits rfl rfl rfl hd_X0_rowBits ⟨Nat.le_of_ble_eq_true rfl, Nat.le_of_ble_eq_true rfl⟩) hK hP hD hS hA ⟨rfl, rfl, rfl, by decide, rfl, rfl, rfl⟩ 0 0 rfl rfl rfl hl.1 rfl (Nat.le_of_ble_eq_true rfl) dX0_isOn_11 ⟨Nat.le_of_ble_eq_true rfl, Nat.le_of_ble_eq_true rfl⟩ rfl rfl (fun H locs hP hD hS => ?_)
    refine lv_iload_n hx hb dX0_isOn_14 rfl (lv_at hl 1 rfl) ?_
    refine lv_iushr (v := sUshr (rowF B y) x) hx hb dX0_isOn_15 rfl ?_
    refine lv_iconst (v := 1) hx hb dX0_isOn_16 (by decide) ?_
    refine lv_iand hx hb dX0_isOn_17 ?_
    refine lv_if_eq (tgt := 25) hx hb dX0_isOn_18 (by decide) (fun c_18 => ?_) (fun c_18 => ?_)
    · refine lv_iconst (v := 0) hx hb dX0_isOn_25 (by decide) ?_
      exact hend _ _ _ _ _ _ dX0_isOn_26 hP hD hS (by first | rfl | (simp only [isOnB, b2i_t, b2i_f, c_6, c_18, ↓reduceIte]; done) | (simp [isOnB, b2i_t, b2i_f, c_6, c_18]; done)) rfl
    · refine lv_iconst (v := 1) hx hb dX0_isOn_21 (by decide) ?_
      refine lv_goto (tgt := 26) hx hb dX0_isOn_22 (by decide) ?_
      exact hend _ _ _ _ _ _ dX0_isOn_26 hP hD hS (by first | rfl | (simp only [isOnB, b2i_t, b2i_f, c_6, c_18, ↓reduceIte]; done) | (simp [isOnB, b2i_t, b2i_f, c_6, c_18]; done)) rfl
theorem in_kX0_wipe_X0 : ∀ w ∈ u_ws RX0 TX0 6, w ∈ wsX0_wipe := by decide +kernel
theorem fl_kX0_wipe_15 : Cond.fieldLink RX0 15 "SkewFind$Picture" "height" "I" ∈ wsX0_wipe := by decide +kernel
abbrev rmX0_wipe : Room := { frames := 1, cells := 0, slots := 0, locals := 22 }
set_option maxRecDepth 100000 in
set_option maxHeartbeats 4000000 in
theorem kX0_wipe (l : Launch) (G : va_G) (cI cZ cJ cD : ClassId) (h0 q1 q2 w h : Nat) (hw : w ≤ 24) (hh : h ≤ 24) (B O : Nat → Int32)  : Cv l G (kTy cI cZ cJ cD) yX0_wipe wsX0_wipe rmX0_wipe [.ref h0] [(h0, .inr (0, [.int (nI w), .int (nI h), .double (midF w), .double (midF h), .ref q1, .ref q2])), (q1, .inl (cI, 24, .inl B)), (q2, .inl (cI, 24, .inl O))] [(h0, .inr (0, [.int (nI w), .int (nI h), .double (midF w), .double (midF h), .ref q1, .ref q2])), (q1, .inl (cI, 24, .inl (mapN (fun _ _ => 0) B h))), (q2, .inl (cI, 24, .inl O))] := by
  refine Cv.of rfl rfl (cc := cX0_wipe) (maxL := 2) (plainFor_of_name (by decide)) rfl (Nat.le_of_ble_eq_true rfl) rfl ?_
  intro p e s m args below meth c A Q hx hb hml hts hown hA hK hP hD hS hend ls hl
  refine lv_iconst (v := 0) hx hb dX0_wipe_0 (by decide) ?_
  refine lv_istore_n (lv' := [(1, .int 0), (0, .ref h0)]) hx hb dX0_wipe_1 rfl hl (by decide) rfl (fun ls hl => ?_)
  have K2 : ∀ (n2 : Nat) (i : Nat), h - i < n2 → (i ≤ h) → ∀ (H : Heap) (locs : List Loc), va_P G vwCl [(h0, .inr (0, [.int (nI w), .int (nI h), .double (midF w), .double (midF h), .ref q1, .ref q2])), (q1, .inl (cI, 24, .inl (mapN (fun _ _ => 0) B i))), (q2, .inl (cI, 24, .inl O))] H → va_D A [(h0, .inr (0, [.int (nI w), .int (nI h), .double (midF w), .double (midF h), .ref q1, .ref q2])), (q1, .inl (cI, 24, .inl (mapN (fun _ _ => 0) B i))), (q2, .inl (cI, 24, .inl O))] → va_S A s.heap H locs → ∀ ls : Array Slot, lv_has ls 2 [(0, .ref h0), (1, .int (nI i))] → W p l e rmX0_wipe s m args below meth c H locs 0 0 Q (F0 m 2 ls []) := by
    intro n2
    induction n2 with
    | zero => intro i hn; exact absurd hn (by omega)
    | succ n2 ih2 =>
      intro i hn2 hi H locs hP hD hS ls hl
      refine lv_iload_n hx hb dX0_wipe_2 rfl (lv_at hl 1 rfl) ?_
      refine lv_aload_n hx hb dX0_wipe_3 rfl (lv_at hl 0 rfl) ?_
      refine va_get (D := G) (ci := 0) (v := .int (nI h)) (C := RX0) (T := TX0) (N := 6) hx hb hts in_kX0_wipe_X0 hown hK hP 0 rfl rfl 1 (by decide) (hts _ fl_kX0_wipe_15) (fun _ h9 => h9) rfl dX0_wipe_4 ?_
      refine kGe (by omega) (by omega) (tgt := 22) hx hb dX0_wipe_7 (by decide) (fun c_7 => ?_) (fun c_7 => ?_)
      · have e9 : h = i := by omega
        subst e9
        exact hend _ _ _ _ _ dX0_wipe_22 hP hD hS rfl
      · refine lv_aload_n hx hb dX0_wipe_10 rfl (lv_at hl 0 rfl) ?_
        refine lv_iload_n hx hb dX0_wipe_11 rfl (lv_at hl 1 rfl) ?_
        refine lv_iconst (v := 0) hx hb dX0_wipe_12 (by decide) ?_
        refine kVv (w' := [(h0, .inr (0, [.int (nI w), .int (nI h), .double (midF w), .double (midF h), .ref q1, .ref q2])), (q1, .inl (cI, 24, .inl (setF (mapN (fun _ _ => 0) B i) (nI i) 0))), (q2, .inl (cI, 24, .inl O))]) (wr := []) (isC := [0, 1, 2]) (isR := []) (pm := [0, 1, 2]) (rest := []) (kX0_setRowBits l G cI cZ cJ cD h0 q1 q2 w h hw hh (mapN (fun _ _ => 0) B i) O (nI i) 0) ⟨hx, hb, hml, hown, hts⟩ (cwV 2 hts gX0_wipe_X0_setRowBits rfl rfl rfl hd_X0_setRowBits ⟨Nat.le_of_ble_eq_true rfl, Nat.le_of_ble_eq_true rfl⟩) hK hP hD hS hA ⟨rfl, rfl, rfl, by decide, rfl, rfl, rfl⟩ 0 0 rfl rfl rfl hl.1 rfl (Nat.le_of_ble_eq_true rfl) dX0_wipe_13 ⟨Nat.le_of_ble_eq_true rfl, Nat.le_of_ble_eq_true rfl⟩ rfl rfl (fun H locs hP hD hS => ?_)
        have hE : setF (mapN (fun _ _ => 0) B i) (nI i) 0 = upd (mapN (fun _ _ => 0) B i) i 0 := setF_nI _ _ (by omega)
        rw [hE] at hP hD
        have hE : upd (mapN (fun _ _ => 0) B i) i 0 = mapN (fun _ _ => 0) B (i + 1) := mapN_s (fun _ _ => 0) B i
        rw [hE] at hP hD
        refine lv_iinc (v := nI (i + 1)) (lv' := [(1, .int (nI (i + 1))), (0, .ref h0)]) hx hb dX0_wipe_16 hl (k := 1) rfl (nI_1 _) (by decide) rfl (fun ls hl => ?_)
        refine lv_goto (tgt := 2) hx hb dX0_wipe_19 (by decide) ?_
        exact ih2 (i + 1) (by omega) (by omega) _ _ hP hD hS _ (lv_sub hl [1, 0] rfl)
  rw [← mapN_0 (fun _ _ => 0) B] at hP hD
  exact K2 (h - 0 + 1) 0 (by omega) (by omega) _ _ hP hD hS _ (lv_sub hl [1, 0] rfl)
theorem in_kX0_samplesOn_X0 : ∀ w ∈ u_ws RX0 TX0 6, w ∈ wsX0_samplesOn := by decide +kernel
theorem fl_kX0_samplesOn_15 : Cond.fieldLink RX0 15 "SkewFind$Picture" "height" "I" ∈ wsX0_samplesOn := by decide +kernel
abbrev rmX0_samplesOn : Room := { frames := 1, cells := 0, slots := 0, locals := 21 }
set_option maxRecDepth 100000 in
set_option maxHeartbeats 4000000 in
theorem kX0_samplesOn (l : Launch) (G : va_G) (cI cZ cJ cD : ClassId) (h0 q1 q2 w h : Nat) (hw : w ≤ 24) (hh : h ≤ 24) (B O : Nat → Int32)  : Ci l G (kTy cI cZ cJ cD) yX0_samplesOn wsX0_samplesOn rmX0_samplesOn [.ref h0] [(h0, .inr (0, [.int (nI w), .int (nI h), .double (midF w), .double (midF h), .ref q1, .ref q2])), (q1, .inl (cI, 24, .inl B)), (q2, .inl (cI, 24, .inl O))] (cntOn B h) [(h0, .inr (0, [.int (nI w), .int (nI h), .double (midF w), .double (midF h), .ref q1, .ref q2])), (q1, .inl (cI, 24, .inl B)), (q2, .inl (cI, 24, .inl O))] := by
  refine Ci.of .int rfl rfl rfl (cc := cX0_samplesOn) (maxL := 3) (plainFor_of_name (by decide)) rfl (Nat.le_of_ble_eq_true rfl) rfl ?_
  intro p e s m args below meth c A Q hx hb hml hts hown hA hK hP hD hS hend ls hl
  refine lv_iconst (v := 0) hx hb dX0_samplesOn_0 (by decide) ?_
  refine lv_istore_n (lv' := [(1, .int 0), (0, .ref h0)]) hx hb dX0_samplesOn_1 rfl hl (by decide) rfl (fun ls hl => ?_)
  refine lv_iconst (v := 0) hx hb dX0_samplesOn_2 (by decide) ?_
  refine lv_istore_n (lv' := [(2, .int 0), (1, .int 0), (0, .ref h0)]) hx hb dX0_samplesOn_3 rfl hl (by decide) rfl (fun ls hl => ?_)
  have K4 : ∀ (n4 : Nat) (i : Nat), h - i < n4 → (i ≤ h) → ∀ (H : Heap) (locs : List Loc), va_P G vwCl [(h0, .inr (0, [.int (nI w), .int (nI h), .double (midF w), .double (midF h), .ref q1, .ref q2])), (q1, .inl (cI, 24, .inl B)), (q2, .inl (cI, 24, .inl O))] H → va_D A [(h0, .inr (0, [.int (nI w), .int (nI h), .double (midF w), .double (midF h), .ref q1, .ref q2])), (q1, .inl (cI, 24, .inl B)), (q2, .inl (cI, 24, .inl O))] → va_S A s.heap H locs → ∀ ls : Array Slot, lv_has ls 3 [(0, .ref h0), (1, .int (sumI (fun y => popc (B y)) i)), (2, .int (nI i))] → W p l e rmX0_samplesOn s m args below meth c H locs 0 0 Q (F0 m 4 ls []) := by
    intro n4
    induction n4 with
    | zero => intro i hn; exact absurd hn (by omega)
    | succ n4 ih4 =>
      intro i hn4 hi H locs hP hD hS ls hl
      refine lv_iload_n hx hb dX0_samplesOn_4 rfl (lv_at hl 2 rfl) ?_
      refine lv_aload_n hx hb dX0_samplesOn_5 rfl (lv_at hl 0 rfl) ?_
      refine va_get (D := G) (ci := 0) (v := .int (nI h)) (C := RX0) (T := TX0) (N := 6) hx hb hts in_kX0_samplesOn_X0 hown hK hP 0 rfl rfl 1 (by decide) (hts _ fl_kX0_samplesOn_15) (fun _ h9 => h9) rfl dX0_samplesOn_6 ?_
      refine kGe (by omega) (by omega) (tgt := 29) hx hb dX0_samplesOn_9 (by decide) (fun c_9 => ?_) (fun c_9 => ?_)
      · have e9 : h = i := by omega
        subst e9
        refine lv_iload_n hx hb dX0_samplesOn_29 rfl (lv_at hl 1 rfl) ?_
        exact hend _ _ _ _ _ _ dX0_samplesOn_30 hP hD hS rfl rfl
      · refine lv_iload_n hx hb dX0_samplesOn_12 rfl (lv_at hl 1 rfl) ?_
        refine lv_aload_n hx hb dX0_samplesOn_13 rfl (lv_at hl 0 rfl) ?_
        refine lv_iload_n hx hb dX0_samplesOn_14 rfl (lv_at hl 2 rfl) ?_
        refine kVi (w' := [(h0, .inr (0, [.int (nI w), .int (nI h), .double (midF w), .double (midF h), .ref q1, .ref q2])), (q1, .inl (cI, 24, .inl B)), (q2, .inl (cI, 24, .inl O))]) (wr := []) (isC := [0, 1, 2]) (isR := []) (pm := [0, 1, 2]) (rest := [.int (sumI (fun y => popc (B y)) i)]) (kX0_rowBits l G cI cZ cJ cD h0 q1 q2 w h hw hh B O (nI i)) ⟨hx, hb, hml, hown, hts⟩ (cwV 1 hts gX0_samplesOn_X0_rowBits rfl rfl rfl hd_X0_rowBits ⟨Nat.le_of_ble_eq_true rfl, Nat.le_of_ble_eq_true rfl⟩) hK hP hD hS hA ⟨rfl, rfl, rfl, by decide, rfl, rfl, rfl⟩ 0 0 rfl rfl rfl hl.1 rfl (Nat.le_of_ble_eq_true rfl) dX0_samplesOn_15 ⟨Nat.le_of_ble_eq_true rfl, Nat.le_of_ble_eq_true rfl⟩ rfl rfl (fun H locs hP hD hS => ?_)
        refine kTopI (z := B i) (rowF_nI _ (by omega)) ?_
        refine kSi (rest := [.int (sumI (fun y => popc (B y)) i)]) (kJ6_bitCount_0f7a4 l G cI cZ cJ cD (B i)) ⟨hx, hb, hml, hown, hts⟩ (va_cwS 1 hts gX0_samplesOn_J6_bitCount_0f7a4 rfl rfl rfl hs_J6_bitCount_0f7a4 ⟨Nat.le_of_ble_eq_true rfl, Nat.le_of_ble_eq_true rfl⟩) hK hP hD hS hA rfl hl.1 rfl (Nat.le_of_ble_eq_true rfl) dX0_samplesOn_18 ⟨Nat.le_of_ble_eq_true rfl, Nat.le_of_ble_eq_true rfl⟩ rfl rfl (fun H locs hP hD hS => ?_)
        refine lv_iadd hx hb dX0_samplesOn_21 ?_
        refine lv_istore_n (lv' := [(1, .int ((sumI (fun y => popc (B y)) i) + (popc (B i)))), (0, .ref h0), (2, .int (nI i))]) hx hb dX0_samplesOn_22 rfl hl (by decide) rfl (fun ls hl => ?_)
        refine lv_iinc (v := nI (i + 1)) (lv' := [(2, .int (nI (i + 1))), (1, .int ((sumI (fun y => popc (B y)) i) + (popc (B i)))), (0, .ref h0)]) hx hb dX0_samplesOn_23 hl (k := 2) rfl (nI_1 _) (by decide) rfl (fun ls hl => ?_)
        refine lv_goto (tgt := 4) hx hb dX0_samplesOn_26 (by decide) ?_
        exact ih4 (i + 1) (by omega) (by omega) _ _ hP hD hS _ (lv_sub hl [2, 1, 0] rfl)
  exact K4 (h - 0 + 1) 0 (by omega) (by omega) _ _ hP hD hS _ (lv_sub hl [2, 1, 0] rfl)
abbrev rmX0_runEndBits : Room := { frames := 1, cells := 0, slots := 0, locals := 21 }
set_option maxRecDepth 100000 in
set_option maxHeartbeats 4000000 in
theorem kX0_runEndBits (l : Launch) (G : va_G) (cI cZ cJ cD : ClassId) (h0 q1 q2 w h : Nat) (hw : w ≤ 24) (hh : h ≤ 24) (B O : Nat → Int32) (y : Int32) : Ci l G (kTy cI cZ cJ cD) yX0_runEndBits wsX0_runEndBits rmX0_runEndBits [.ref h0, .int y] [(h0, .inr (0, [.int (nI w), .int (nI h), .double (midF w), .double (midF h), .ref q1, .ref q2])), (q1, .inl (cI, 24, .inl B)), (q2, .inl (cI, 24, .inl O))] (endsF (rowF B y)) [(h0, .inr (0, [.int (nI w), .int (nI h), .double (midF w), .double (midF h), .ref q1, .ref q2])), (q1, .inl (cI, 24, .inl B)), (q2, .inl (cI, 24, .inl O))] := by
  refine Ci.of .int rfl rfl rfl (cc := cX0_runEndBits) (maxL := 3) (plainFor_of_name (by decide)) rfl (Nat.le_of_ble_eq_true rfl) rfl ?_
  intro p e s m args below meth c A Q hx hb hml hts hown hA hK hP hD hS hend ls hl
  refine lv_aload_n hx hb dX0_runEndBits_0 rfl (lv_at hl 0 rfl) ?_
  refine lv_iload_n hx hb dX0_runEndBits_1 rfl (lv_at hl 1 rfl) ?_
  refine kVi (w' := [(h0, .inr (0, [.int (nI w), .int (nI h), .double (midF w), .double (midF h), .ref q1, .ref q2])), (q1, .inl (cI, 24, .inl B)), (q2, .inl (cI, 24, .inl O))]) (wr := []) (isC := [0, 1, 2]) (isR := []) (pm := [0, 1, 2]) (rest := []) (kX0_rowBits l G cI cZ cJ cD h0 q1 q2 w h hw hh B O y) ⟨hx, hb, hml, hown, hts⟩ (cwV 1 hts gX0_runEndBits_X0_rowBits rfl rfl rfl hd_X0_rowBits ⟨Nat.le_of_ble_eq_true rfl, Nat.le_of_ble_eq_true rfl⟩) hK hP hD hS hA ⟨rfl, rfl, rfl, by decide, rfl, rfl, rfl⟩ 0 0 rfl rfl rfl hl.1 rfl (Nat.le_of_ble_eq_true rfl) dX0_runEndBits_2 ⟨Nat.le_of_ble_eq_true rfl, Nat.le_of_ble_eq_true rfl⟩ rfl rfl (fun H locs hP hD hS => ?_)
  refine lv_istore_n (lv' := [(2, .int (rowF B y)), (0, .ref h0), (1, .int y)]) hx hb dX0_runEndBits_5 rfl hl (by decide) rfl (fun ls hl => ?_)
  refine lv_iload_n hx hb dX0_runEndBits_6 rfl (lv_at hl 0 rfl) ?_
  refine lv_iload_n hx hb dX0_runEndBits_7 rfl (lv_at hl 0 rfl) ?_
  refine lv_iconst (v := 1) hx hb dX0_runEndBits_8 (by decide) ?_
  refine lv_iushr (v := sUshr (rowF B y) 1) hx hb dX0_runEndBits_9 rfl ?_
  refine lv_iconst (v := (-1)) hx hb dX0_runEndBits_10 (by decide) ?_
  refine lv_ixor hx hb dX0_runEndBits_11 ?_
  refine lv_iand hx hb dX0_runEndBits_12 ?_
  exact hend _ _ _ _ _ _ dX0_runEndBits_13 hP hD hS rfl rfl
theorem in_kX0_runEnds_X0 : ∀ w ∈ u_ws RX0 TX0 6, w ∈ wsX0_runEnds := by decide +kernel
theorem fl_kX0_runEnds_15 : Cond.fieldLink RX0 15 "SkewFind$Picture" "height" "I" ∈ wsX0_runEnds := by decide +kernel
abbrev rmX0_runEnds : Room := { frames := 2, cells := 0, slots := 0, locals := 43 }
set_option maxRecDepth 100000 in
set_option maxHeartbeats 4000000 in
theorem kX0_runEnds (l : Launch) (G : va_G) (cI cZ cJ cD : ClassId) (h0 q1 q2 w h : Nat) (hw : w ≤ 24) (hh : h ≤ 24) (B O : Nat → Int32)  : Ci l G (kTy cI cZ cJ cD) yX0_runEnds wsX0_runEnds rmX0_runEnds [.ref h0] [(h0, .inr (0, [.int (nI w), .int (nI h), .double (midF w), .double (midF h), .ref q1, .ref q2])), (q1, .inl (cI, 24, .inl B)), (q2, .inl (cI, 24, .inl O))] (cntEnds B h) [(h0, .inr (0, [.int (nI w), .int (nI h), .double (midF w), .double (midF h), .ref q1, .ref q2])), (q1, .inl (cI, 24, .inl B)), (q2, .inl (cI, 24, .inl O))] := by
  refine Ci.of .int rfl rfl rfl (cc := cX0_runEnds) (maxL := 3) (plainFor_of_name (by decide)) rfl (Nat.le_of_ble_eq_true rfl) rfl ?_
  intro p e s m args below meth c A Q hx hb hml hts hown hA hK hP hD hS hend ls hl
  refine lv_iconst (v := 0) hx hb dX0_runEnds_0 (by decide) ?_
  refine lv_istore_n (lv' := [(1, .int 0), (0, .ref h0)]) hx hb dX0_runEnds_1 rfl hl (by decide) rfl (fun ls hl => ?_)
  refine lv_iconst (v := 0) hx hb dX0_runEnds_2 (by decide) ?_
  refine lv_istore_n (lv' := [(2, .int 0), (1, .int 0), (0, .ref h0)]) hx hb dX0_runEnds_3 rfl hl (by decide) rfl (fun ls hl => ?_)
  have K4 : ∀ (n4 : Nat) (i : Nat), h - i < n4 → (i ≤ h) → ∀ (H : Heap) (locs : List Loc), va_P G vwCl [(h0, .inr (0, [.int (nI w), .int (nI h), .double (midF w), .double (midF h), .ref q1, .ref q2])), (q1, .inl (cI, 24, .inl B)), (q2, .inl (cI, 24, .inl O))] H → va_D A [(h0, .inr (0, [.int (nI w), .int (nI h), .double (midF w), .double (midF h), .ref q1, .ref q2])), (q1, .inl (cI, 24, .inl B)), (q2, .inl (cI, 24, .inl O))] → va_S A s.heap H locs → ∀ ls : Array Slot, lv_has ls 3 [(0, .ref h0), (1, .int (sumI (fun y => popc (endsF (B y))) i)), (2, .int (nI i))] → W p l e rmX0_runEnds s m args below meth c H locs 0 0 Q (F0 m 4 ls []) := by
    intro n4
    induction n4 with
    | zero => intro i hn; exact absurd hn (by omega)
    | succ n4 ih4 =>
      intro i hn4 hi H locs hP hD hS ls hl
      refine lv_iload_n hx hb dX0_runEnds_4 rfl (lv_at hl 2 rfl) ?_
      refine lv_aload_n hx hb dX0_runEnds_5 rfl (lv_at hl 0 rfl) ?_
      refine va_get (D := G) (ci := 0) (v := .int (nI h)) (C := RX0) (T := TX0) (N := 6) hx hb hts in_kX0_runEnds_X0 hown hK hP 0 rfl rfl 1 (by decide) (hts _ fl_kX0_runEnds_15) (fun _ h9 => h9) rfl dX0_runEnds_6 ?_
      refine kGe (by omega) (by omega) (tgt := 29) hx hb dX0_runEnds_9 (by decide) (fun c_9 => ?_) (fun c_9 => ?_)
      · have e9 : h = i := by omega
        subst e9
        refine lv_iload_n hx hb dX0_runEnds_29 rfl (lv_at hl 1 rfl) ?_
        exact hend _ _ _ _ _ _ dX0_runEnds_30 hP hD hS rfl rfl
      · refine lv_iload_n hx hb dX0_runEnds_12 rfl (lv_at hl 1 rfl) ?_
        refine lv_aload_n hx hb dX0_runEnds_13 rfl (lv_at hl 0 rfl) ?_
        refine lv_iload_n hx hb dX0_runEnds_14 rfl (lv_at hl 2 rfl) ?_
        refine kVi (w' := [(h0, .inr (0, [.int (nI w), .int (nI h), .double (midF w), .double (midF h), .ref q1, .ref q2])), (q1, .inl (cI, 24, .inl B)), (q2, .inl (cI, 24, .inl O))]) (wr := []) (isC := [0, 1, 2]) (isR := []) (pm := [0, 1, 2]) (rest := [.int (sumI (fun y => popc (endsF (B y))) i)]) (kX0_runEndBits l G cI cZ cJ cD h0 q1 q2 w h hw hh B O (nI i)) ⟨hx, hb, hml, hown, hts⟩ (cwV 1 hts gX0_runEnds_X0_runEndBits rfl rfl rfl hd_X0_runEndBits ⟨Nat.le_of_ble_eq_true rfl, Nat.le_of_ble_eq_true rfl⟩) hK hP hD hS hA ⟨rfl, rfl, rfl, by decide, rfl, rfl, rfl⟩ 0 0 rfl rfl rfl hl.1 rfl (Nat.le_of_ble_eq_true rfl) dX0_runEnds_15 ⟨Nat.le_of_ble_eq_true rfl, Nat.le_of_ble_eq_true rfl⟩ rfl rfl (fun H locs hP hD hS => ?_)
        refine kTopI (z := endsF (B i)) (congrArg endsF (rowF_nI B (by omega))) ?_
        refine kSi (rest := [.int (sumI (fun y => popc (endsF (B y))) i)]) (kJ6_bitCount_0f7a4 l G cI cZ cJ cD (endsF (B i))) ⟨hx, hb, hml, hown, hts⟩ (va_cwS 1 hts gX0_runEnds_J6_bitCount_0f7a4 rfl rfl rfl hs_J6_bitCount_0f7a4 ⟨Nat.le_of_ble_eq_true rfl, Nat.le_of_ble_eq_true rfl⟩) hK hP hD hS hA rfl hl.1 rfl (Nat.le_of_ble_eq_true rfl) dX0_runEnds_18 ⟨Nat.le_of_ble_eq_true rfl, Nat.le_of_ble_eq_true rfl⟩ rfl rfl (fun H locs hP hD hS => ?_)
        refine lv_iadd hx hb dX0_runEnds_21 ?_
        refine lv_istore_n (lv' := [(1, .int ((sumI (fun y => popc (endsF (B y))) i) + (popc (endsF (B i))))), (0, .ref h0), (2, .int (nI i))]) hx hb dX0_runEnds_22 rfl hl (by decide) rfl (fun ls hl => ?_)
        refine lv_iinc (v := nI (i + 1)) (lv' := [(2, .int (nI (i + 1))), (1, .int ((sumI (fun y => popc (endsF (B y))) i) + (popc (endsF (B i))))), (0, .ref h0)]) hx hb dX0_runEnds_23 hl (k := 2) rfl (nI_1 _) (by decide) rfl (fun ls hl => ?_)
        refine lv_goto (tgt := 4) hx hb dX0_runEnds_26 (by decide) ?_
        exact ih4 (i + 1) (by omega) (by omega) _ _ hP hD hS _ (lv_sub hl [2, 1, 0] rfl)
  exact K4 (h - 0 + 1) 0 (by omega) (by omega) _ _ hP hD hS _ (lv_sub hl [2, 1, 0] rfl)
theorem in_kX0_movedRight_X0 : ∀ w ∈ u_ws RX0 TX0 6, w ∈ wsX0_movedRight := by decide +kernel
theorem fl_kX0_movedRight_9 : Cond.fieldLink RX0 9 "SkewFind$Picture" "width" "I" ∈ wsX0_movedRight := by decide +kernel
abbrev rmX0_movedRight : Room := { frames := 2, cells := 0, slots := 0, locals := 43 }
set_option maxRecDepth 100000 in
set_option maxHeartbeats 4000000 in
theorem kX0_movedRight (l : Launch) (G : va_G) (cI cZ cJ cD : ClassId) (h0 q1 q2 w h : Nat) (hw : w ≤ 24) (hh : h ≤ 24) (B O : Nat → Int32) (r b : Int32) : Ci l G (kTy cI cZ cJ cD) yX0_movedRight wsX0_movedRight rmX0_movedRight [.ref h0, .int r, .int b] [(h0, .inr (0, [.int (nI w), .int (nI h), .double (midF w), .double (midF h), .ref q1, .ref q2])), (q1, .inl (cI, 24, .inl B)), (q2, .inl (cI, 24, .inl O))] (movF w r b) [(h0, .inr (0, [.int (nI w), .int (nI h), .double (midF w), .double (midF h), .ref q1, .ref q2])), (q1, .inl (cI, 24, .inl B)), (q2, .inl (cI, 24, .inl O))] := by
  refine Ci.of .int rfl rfl rfl (cc := cX0_movedRight) (maxL := 4) (plainFor_of_name (by decide)) rfl (Nat.le_of_ble_eq_true rfl) rfl ?_
  intro p e s m args below meth c A Q hx hb hml hts hown hA hK hP hD hS hend ls hl
  refine lv_iload_n hx hb dX0_movedRight_0 rfl (lv_at hl 2 rfl) ?_
  refine lv_aload_n hx hb dX0_movedRight_1 rfl (lv_at hl 0 rfl) ?_
  refine va_get (D := G) (ci := 0) (v := .int (nI w)) (C := RX0) (T := TX0) (N := 6) hx hb hts in_kX0_movedRight_X0 hown hK hP 0 rfl rfl 0 (by decide) (hts _ fl_kX0_movedRight_9) (fun _ h9 => h9) rfl dX0_movedRight_2 ?_
  refine kSi (rest := []) (kX1_wrapped l G cI cZ cJ cD b (nI w)) ⟨hx, hb, hml, hown, hts⟩ (va_cwS 2 hts gX0_movedRight_X1_wrapped rfl rfl rfl hs_X1_wrapped ⟨Nat.le_of_ble_eq_true rfl, Nat.le_of_ble_eq_true rfl⟩) hK hP hD hS hA rfl hl.1 rfl (Nat.le_of_ble_eq_true rfl) dX0_movedRight_5 ⟨Nat.le_of_ble_eq_true rfl, Nat.le_of_ble_eq_true rfl⟩ rfl rfl (fun H locs hP hD hS => ?_)
  refine lv_istore_n (lv' := [(3, .int (wrapF b (nI w))), (0, .ref h0), (1, .int r), (2, .int b)]) hx hb dX0_movedRight_8 rfl hl (by decide) rfl (fun ls hl => ?_)
  refine lv_iload_n hx hb dX0_movedRight_9 rfl (lv_at hl 2 rfl) ?_
  refine lv_iload_n hx hb dX0_movedRight_10 rfl (lv_at hl 0 rfl) ?_
  refine lv_ishl hx hb dX0_movedRight_11 ?_
  refine lv_iload_n hx hb dX0_movedRight_12 rfl (lv_at hl 2 rfl) ?_
  refine lv_aload_n hx hb dX0_movedRight_13 rfl (lv_at hl 1 rfl) ?_
  refine va_get (D := G) (ci := 0) (v := .int (nI w)) (C := RX0) (T := TX0) (N := 6) hx hb hts in_kX0_movedRight_X0 hown hK hP 0 rfl rfl 0 (by decide) (hts _ fl_kX0_movedRight_9) (fun _ h9 => h9) rfl dX0_movedRight_14 ?_
  refine lv_iload_n hx hb dX0_movedRight_17 rfl (lv_at hl 0 rfl) ?_
  refine lv_isub hx hb dX0_movedRight_18 ?_
  refine lv_iushr (v := sUshr r ((nI w) - (wrapF b (nI w)))) hx hb dX0_movedRight_19 rfl ?_
  refine lv_ior hx hb dX0_movedRight_20 ?_
  refine lv_aload_n hx hb dX0_movedRight_21 rfl (lv_at hl 1 rfl) ?_
  refine va_get (D := G) (ci := 0) (v := .int (nI w)) (C := RX0) (T := TX0) (N := 6) hx hb hts in_kX0_movedRight_X0 hown hK hP 0 rfl rfl 0 (by decide) (hts _ fl_kX0_movedRight_9) (fun _ h9 => h9) rfl dX0_movedRight_22 ?_
  refine kSi (rest := [.int ((r <<< ((wrapF b (nI w)) &&& 31)) ||| (sUshr r ((nI w) - (wrapF b (nI w)))))]) (kX0_bitsOf l G cI cZ cJ cD (nI w)) ⟨hx, hb, hml, hown, hts⟩ (va_cwS 1 hts gX0_movedRight_X0_bitsOf rfl rfl rfl hs_X0_bitsOf ⟨Nat.le_of_ble_eq_true rfl, Nat.le_of_ble_eq_true rfl⟩) hK hP hD hS hA rfl hl.1 rfl (Nat.le_of_ble_eq_true rfl) dX0_movedRight_25 ⟨Nat.le_of_ble_eq_true rfl, Nat.le_of_ble_eq_true rfl⟩ rfl rfl (fun H locs hP hD hS => ?_)
  refine lv_iand hx hb dX0_movedRight_28 ?_
  exact hend _ _ _ _ _ _ dX0_movedRight_29 hP hD hS rfl rfl
theorem in_kX0_fill_X0 : ∀ w ∈ u_ws RX0 TX0 6, w ∈ wsX0_fill := by decide +kernel
theorem fl_kX0_fill_9 : Cond.fieldLink RX0 9 "SkewFind$Picture" "width" "I" ∈ wsX0_fill := by decide +kernel
theorem wd_kX0_fill_mmin42 : Cond.methodLink RX0 42 Lib.Math.min.name ∈ wsX0_fill := by decide +kernel
theorem wd_kX0_fill_msmin : Cond.static Lib.Math.min.name ∈ wsX0_fill := by decide +kernel
theorem wd_kX0_fill_mi : Cond.initialized "java/lang/Math" ∈ wsX0_fill := by decide +kernel
theorem wd_kX0_fill_mcmin : Cond.code Lib.Math.min.name Lib.Math.min.code 2 (some .int) ∈ wsX0_fill := by decide +kernel
abbrev rmX0_fill : Room := { frames := 1, cells := 0, slots := 0, locals := 24 }
set_option maxRecDepth 100000 in
set_option maxHeartbeats 4000000 in
theorem kX0_fill (l : Launch) (G : va_G) (cI cZ cJ cD : ClassId) (h0 q1 q2 w h : Nat) (hw : w ≤ 24) (hh : h ≤ 24) (B O : Nat → Int32) (x y n on : Int32) : Ci l G (kTy cI cZ cJ cD) yX0_fill wsX0_fill rmX0_fill [.ref h0, .int x, .int y, .int n, .int on] [(h0, .inr (0, [.int (nI w), .int (nI h), .double (midF w), .double (midF h), .ref q1, .ref q2])), (q1, .inl (cI, 24, .inl B)), (q2, .inl (cI, 24, .inl O))] (fillN w h B x y n on) [(h0, .inr (0, [.int (nI w), .int (nI h), .double (midF w), .double (midF h), .ref q1, .ref q2])), (q1, .inl (cI, 24, .inl (fillB w h B x y n on))), (q2, .inl (cI, 24, .inl O))] := by
  refine Ci.of .int rfl rfl rfl (cc := cX0_fill) (maxL := 8) (plainFor_of_name (by decide)) rfl (Nat.le_of_ble_eq_true rfl) rfl ?_
  intro p e s m args below meth c A Q hx hb hml hts hown hA hK hP hD hS hend ls hl
  refine lv_aload_n hx hb dX0_fill_0 rfl (lv_at hl 0 rfl) ?_
  refine lv_iload_n hx hb dX0_fill_1 rfl (lv_at hl 1 rfl) ?_
  refine lv_iload_n hx hb dX0_fill_2 rfl (lv_at hl 2 rfl) ?_
  refine kVi (w' := [(h0, .inr (0, [.int (nI w), .int (nI h), .double (midF w), .double (midF h), .ref q1, .ref q2])), (q1, .inl (cI, 24, .inl B)), (q2, .inl (cI, 24, .inl O))]) (wr := []) (isC := [0, 1, 2]) (isR := []) (pm := [0, 1, 2]) (rest := []) (kX0_has l G cI cZ cJ cD h0 q1 q2 w h hw hh B O x y) ⟨hx, hb, hml, hown, hts⟩ (cwV 2 hts gX0_fill_X0_has rfl rfl rfl hd_X0_has ⟨Nat.le_of_ble_eq_true rfl, Nat.le_of_ble_eq_true rfl⟩) hK hP hD hS hA ⟨rfl, rfl, rfl, by decide, rfl, rfl, rfl⟩ 0 0 rfl rfl rfl hl.1 rfl (Nat.le_of_ble_eq_true rfl) dX0_fill_3 ⟨Nat.le_of_ble_eq_true rfl, Nat.le_of_ble_eq_true rfl⟩ rfl rfl (fun H locs hP hD hS => ?_)
  refine kIfEqB (tgt := 14) hx hb dX0_fill_6 (by decide) (fun c_6 => ?_) (fun c_6 => ?_)
  · refine lv_iconst (v := 0) hx hb dX0_fill_14 (by decide) ?_
    exact hend _ _ _ _ _ _ dX0_fill_15 hP hD hS (by first | rfl | (simp only [fillN, fillB, fillOk, reachF, paintF, minF, c_6, ↓reduceIte]; done) | (simp [fillN, fillB, fillOk, reachF, paintF, minF, c_6]; done)) (by first | rfl | (simp only [fillN, fillB, fillOk, reachF, paintF, minF, c_6, ↓reduceIte]; done) | (simp [fillN, fillB, fillOk, reachF, paintF, minF, c_6]; done))
  · refine lv_iload_n hx hb dX0_fill_9 rfl (lv_at hl 3 rfl) ?_
    refine lv_iconst (v := 1) hx hb dX0_fill_10 (by decide) ?_
    refine lv_icmp_ge (tgt := 16) hx hb dX0_fill_11 (by decide) (fun c_11 => ?_) (fun c_11 => ?_)
    · refine lv_iload_n hx hb dX0_fill_16 rfl (lv_at hl 3 rfl) ?_
      refine lv_aload_n hx hb dX0_fill_17 rfl (lv_at hl 0 rfl) ?_
      refine va_get (D := G) (ci := 0) (v := .int (nI w)) (C := RX0) (T := TX0) (N := 6) hx hb hts in_kX0_fill_X0 hown hK hP 0 rfl rfl 0 (by decide) (hts _ fl_kX0_fill_9) (fun _ h9 => h9) rfl dX0_fill_18 ?_
      refine lv_iload_n hx hb dX0_fill_21 rfl (lv_at hl 1 rfl) ?_
      refine lv_isub hx hb dX0_fill_22 ?_
      refine va_mmin hx hb (hml.trans hl.1.symm) hown (hts _ wd_kX0_fill_mmin42) (hts _ wd_kX0_fill_msmin) (hts _ wd_kX0_fill_mi) (hts _ wd_kX0_fill_mcmin) (Nat.le_of_ble_eq_true rfl) (Nat.le_of_ble_eq_true rfl) (Nat.le_of_ble_eq_true rfl) (Nat.le_of_ble_eq_true rfl) dX0_fill_23 ?_
      refine kSi (rest := []) (kX0_bitsOf l G cI cZ cJ cD (if (nI w) - x < n then (nI w) - x else n)) ⟨hx, hb, hml, hown, hts⟩ (va_cwS 1 hts gX0_fill_X0_bitsOf rfl rfl rfl hs_X0_bitsOf ⟨Nat.le_of_ble_eq_true rfl, Nat.le_of_ble_eq_true rfl⟩) hK hP hD hS hA rfl hl.1 rfl (Nat.le_of_ble_eq_true rfl) dX0_fill_26 ⟨Nat.le_of_ble_eq_true rfl, Nat.le_of_ble_eq_true rfl⟩ rfl rfl (fun H locs hP hD hS => ?_)
      refine lv_iload_n hx hb dX0_fill_29 rfl (lv_at hl 1 rfl) ?_
      refine lv_ishl hx hb dX0_fill_30 ?_
      refine lv_istore (lv' := [(5, .int ((bitsOfF (if (nI w) - x < n then (nI w) - x else n)) <<< (x &&& 31))), (0, .ref h0), (1, .int x), (2, .int y), (3, .int n), (4, .int on)]) hx hb dX0_fill_31 hl (by decide) rfl (fun ls hl => ?_)
      refine lv_aload_n hx hb dX0_fill_33 rfl (lv_at hl 1 rfl) ?_
      refine lv_iload_n hx hb dX0_fill_34 rfl (lv_at hl 3 rfl) ?_
      refine kVi (w' := [(h0, .inr (0, [.int (nI w), .int (nI h), .double (midF w), .double (midF h), .ref q1, .ref q2])), (q1, .inl (cI, 24, .inl B)), (q2, .inl (cI, 24, .inl O))]) (wr := []) (isC := [0, 1, 2]) (isR := []) (pm := [0, 1, 2]) (rest := []) (kX0_rowBits l G cI cZ cJ cD h0 q1 q2 w h hw hh B O y) ⟨hx, hb, hml, hown, hts⟩ (cwV 1 hts gX0_fill_X0_rowBits rfl rfl rfl hd_X0_rowBits ⟨Nat.le_of_ble_eq_true rfl, Nat.le_of_ble_eq_true rfl⟩) hK hP hD hS hA ⟨rfl, rfl, rfl, by decide, rfl, rfl, rfl⟩ 0 0 rfl rfl rfl hl.1 rfl (Nat.le_of_ble_eq_true rfl) dX0_fill_35 ⟨Nat.le_of_ble_eq_true rfl, Nat.le_of_ble_eq_true rfl⟩ rfl rfl (fun H locs hP hD hS => ?_)
      refine lv_istore (lv' := [(6, .int (rowF B y)), (5, .int ((bitsOfF (if (nI w) - x < n then (nI w) - x else n)) <<< (x &&& 31))), (0, .ref h0), (1, .int x), (2, .int y), (3, .int n), (4, .int on)]) hx hb dX0_fill_38 hl (by decide) rfl (fun ls hl => ?_)
      refine lv_iload hx hb dX0_fill_40 (lv_at hl 6 rfl) ?_
      refine lv_if_eq (tgt := 53) hx hb dX0_fill_42 (by decide) (fun c_42 => ?_) (fun c_42 => ?_)
      · refine lv_iload hx hb dX0_fill_53 (lv_at hl 0 rfl) ?_
        refine lv_iload hx hb dX0_fill_55 (lv_at hl 1 rfl) ?_
        refine lv_iconst (v := (-1)) hx hb dX0_fill_57 (by decide) ?_
        refine lv_ixor hx hb dX0_fill_58 ?_
        refine lv_iand hx hb dX0_fill_59 ?_
        refine lv_istore (lv' := [(7, .int ((rowF B y) &&& (((bitsOfF (if (nI w) - x < n then (nI w) - x else n)) <<< (x &&& 31)) ^^^ ((-1))))), (6, .int (rowF B y)), (5, .int ((bitsOfF (if (nI w) - x < n then (nI w) - x else n)) <<< (x &&& 31))), (0, .ref h0), (1, .int x), (2, .int y), (3, .int n), (4, .int on)]) hx hb dX0_fill_60 hl (by decide) rfl (fun ls hl => ?_)
        refine lv_aload_n hx hb dX0_fill_62 rfl (lv_at hl 3 rfl) ?_
        refine lv_iload_n hx hb dX0_fill_63 rfl (lv_at hl 5 rfl) ?_
        refine lv_iload hx hb dX0_fill_64 (lv_at hl 0 rfl) ?_
        refine kVv (w' := [(h0, .inr (0, [.int (nI w), .int (nI h), .double (midF w), .double (midF h), .ref q1, .ref q2])), (q1, .inl (cI, 24, .inl (setF B y ((rowF B y) &&& (((bitsOfF (if (nI w) - x < n then (nI w) - x else n)) <<< (x &&& 31)) ^^^ ((-1))))))), (q2, .inl (cI, 24, .inl O))]) (wr := []) (isC := [0, 1, 2]) (isR := []) (pm := [0, 1, 2]) (rest := []) (kX0_setRowBits l G cI cZ cJ cD h0 q1 q2 w h hw hh B O y ((rowF B y) &&& (((bitsOfF (if (nI w) - x < n then (nI w) - x else n)) <<< (x &&& 31)) ^^^ ((-1))))) ⟨hx, hb, hml, hown, hts⟩ (cwV 2 hts gX0_fill_X0_setRowBits rfl rfl rfl hd_X0_setRowBits ⟨Nat.le_of_ble_eq_true rfl, Nat.le_of_ble_eq_true rfl⟩) hK hP hD hS hA ⟨rfl, rfl, rfl, by decide, rfl, rfl, rfl⟩ 0 0 rfl rfl rfl hl.1 rfl (Nat.le_of_ble_eq_true rfl) dX0_fill_66 ⟨Nat.le_of_ble_eq_true rfl, Nat.le_of_ble_eq_true rfl⟩ rfl rfl (fun H locs hP hD hS => ?_)
        refine lv_iload hx hb dX0_fill_69 (lv_at hl 1 rfl) ?_
        refine lv_iload hx hb dX0_fill_71 (lv_at hl 0 rfl) ?_
        refine lv_ixor hx hb dX0_fill_73 ?_
        refine kSi (rest := []) (kJ6_bitCount_0f7a4 l G cI cZ cJ cD ((rowF B y) ^^^ ((rowF B y) &&& (((bitsOfF (if (nI w) - x < n then (nI w) - x else n)) <<< (x &&& 31)) ^^^ ((-1)))))) ⟨hx, hb, hml, hown, hts⟩ (va_cwS 1 hts gX0_fill_J6_bitCount_0f7a4 rfl rfl rfl hs_J6_bitCount_0f7a4 ⟨Nat.le_of_ble_eq_true rfl, Nat.le_of_ble_eq_true rfl⟩) hK hP hD hS hA rfl hl.1 rfl (Nat.le_of_ble_eq_true rfl) dX0_fill_74 ⟨Nat.le_of_ble_eq_true rfl, Nat.le_of_ble_eq_true rfl⟩ rfl rfl (fun H locs hP hD hS => ?_)
        exact hend _ _ _ _ _ _ dX0_fill_77 hP hD hS (by first | rfl | (simp only [fillN, fillB, fillOk, reachF, paintF, minF, c_6, c_11, c_42, ↓reduceIte]; done) | (simp [fillN, fillB, fillOk, reachF, paintF, minF, c_6, c_11, c_42]; done)) (by first | rfl | (simp only [fillN, fillB, fillOk, reachF, paintF, minF, c_6, c_11, c_42, ↓reduceIte]; done) | (simp [fillN, fillB, fillOk, reachF, paintF, minF, c_6, c_11, c_42]; done))
      · refine lv_iload hx hb dX0_fill_45 (lv_at hl 0 rfl) ?_
        refine lv_iload hx hb dX0_fill_47 (lv_at hl 1 rfl) ?_
        refine lv_ior hx hb dX0_fill_49 ?_
        refine lv_goto (tgt := 60) hx hb dX0_fill_50 (by decide) ?_
        refine lv_istore (lv' := [(7, .int ((rowF B y) ||| ((bitsOfF (if (nI w) - x < n then (nI w) - x else n)) <<< (x &&& 31)))), (6, .int (rowF B y)), (5, .int ((bitsOfF (if (nI w) - x < n then (nI w) - x else n)) <<< (x &&& 31))), (0, .ref h0), (1, .int x), (2, .int y), (3, .int n), (4, .int on)]) hx hb dX0_fill_60 hl (by decide) rfl (fun ls hl => ?_)
        refine lv_aload_n hx hb dX0_fill_62 rfl (lv_at hl 3 rfl) ?_
        refine lv_iload_n hx hb dX0_fill_63 rfl (lv_at hl 5 rfl) ?_
        refine lv_iload hx hb dX0_fill_64 (lv_at hl 0 rfl) ?_
        refine kVv (w' := [(h0, .inr (0, [.int (nI w), .int (nI h), .double (midF w), .double (midF h), .ref q1, .ref q2])), (q1, .inl (cI, 24, .inl (setF B y ((rowF B y) ||| ((bitsOfF (if (nI w) - x < n then (nI w) - x else n)) <<< (x &&& 31)))))), (q2, .inl (cI, 24, .inl O))]) (wr := []) (isC := [0, 1, 2]) (isR := []) (pm := [0, 1, 2]) (rest := []) (kX0_setRowBits l G cI cZ cJ cD h0 q1 q2 w h hw hh B O y ((rowF B y) ||| ((bitsOfF (if (nI w) - x < n then (nI w) - x else n)) <<< (x &&& 31)))) ⟨hx, hb, hml, hown, hts⟩ (cwV 2 hts gX0_fill_X0_setRowBits rfl rfl rfl hd_X0_setRowBits ⟨Nat.le_of_ble_eq_true rfl, Nat.le_of_ble_eq_true rfl⟩) hK hP hD hS hA ⟨rfl, rfl, rfl, by decide, rfl, rfl, rfl⟩ 0 0 rfl rfl rfl hl.1 rfl (Nat.le_of_ble_eq_true rfl) dX0_fill_66 ⟨Nat.le_of_ble_eq_true rfl, Nat.le_of_ble_eq_true rfl⟩ rfl rfl (fun H locs hP hD hS => ?_)
        refine lv_iload hx hb dX0_fill_69 (lv_at hl 1 rfl) ?_
        refine lv_iload hx hb dX0_fill_71 (lv_at hl 0 rfl) ?_
        refine lv_ixor hx hb dX0_fill_73 ?_
        refine kSi (rest := []) (kJ6_bitCount_0f7a4 l G cI cZ cJ cD ((rowF B y) ^^^ ((rowF B y) ||| ((bitsOfF (if (nI w) - x < n then (nI w) - x else n)) <<< (x &&& 31))))) ⟨hx, hb, hml, hown, hts⟩ (va_cwS 1 hts gX0_fill_J6_bitCount_0f7a4 rfl rfl rfl hs_J6_bitCount_0f7a4 ⟨Nat.le_of_ble_eq_true rfl, Nat.le_of_ble_eq_true rfl⟩) hK hP hD hS hA rfl hl.1 rfl (Nat.le_of_ble_eq_true rfl) dX0_fill_74 ⟨Nat.le_of_ble_eq_true rfl, Nat.le_of_ble_eq_true rfl⟩ rfl rfl (fun H locs hP hD hS => ?_)
        exact hend _ _ _ _ _ _ dX0_fill_77 hP hD hS (by first | rfl | (simp only [fillN, fillB, fillOk, reachF, paintF, minF, c_6, c_11, c_42, ↓reduceIte]; done) | (simp [fillN, fillB, fillOk, reachF, paintF, minF, c_6, c_11, c_42]; done)) (by first | rfl | (simp only [fillN, fillB, fillOk, reachF, paintF, minF, c_6, c_11, c_42, ↓reduceIte]; done) | (simp [fillN, fillB, fillOk, reachF, paintF, minF, c_6, c_11, c_42]; done))
    · refine lv_iconst (v := 0) hx hb dX0_fill_14 (by decide) ?_
      exact hend _ _ _ _ _ _ dX0_fill_15 hP hD hS (by first | rfl | (simp only [fillN, fillB, fillOk, reachF, paintF, minF, c_6, c_11, ↓reduceIte]; done) | (simp [fillN, fillB, fillOk, reachF, paintF, minF, c_6, c_11]; done)) (by first | rfl | (simp only [fillN, fillB, fillOk, reachF, paintF, minF, c_6, c_11, ↓reduceIte]; done) | (simp [fillN, fillB, fillOk, reachF, paintF, minF, c_6, c_11]; done))
theorem in_kX0_keepOldBits_X0 : ∀ w ∈ u_ws RX0 TX0 6, w ∈ wsX0_keepOldBits := by decide +kernel
theorem fl_kX0_keepOldBits_31 : Cond.fieldLink RX0 31 "SkewFind$Picture" "oldBits" "[I" ∈ wsX0_keepOldBits := by decide +kernel
abbrev rmX0_keepOldBits : Room := { frames := 1, cells := 0, slots := 0, locals := 21 }
set_option maxRecDepth 100000 in
set_option maxHeartbeats 4000000 in
theorem kX0_keepOldBits (l : Launch) (G : va_G) (cI cZ cJ cD : ClassId) (h0 q1 q2 w h : Nat) (hw : w ≤ 24) (hh : h ≤ 24) (B O : Nat → Int32)  : Cv l G (kTy cI cZ cJ cD) yX0_keepOldBits wsX0_keepOldBits rmX0_keepOldBits [.ref h0] [(h0, .inr (0, [.int (nI w), .int (nI h), .double (midF w), .double (midF h), .ref q1, .ref q2])), (q1, .inl (cI, 24, .inl B)), (q2, .inl (cI, 24, .inl O))] [(h0, .inr (0, [.int (nI w), .int (nI h), .double (midF w), .double (midF h), .ref q1, .ref q2])), (q1, .inl (cI, 24, .inl B)), (q2, .inl (cI, 24, .inl (mapN (fun k _ => B k) O 24)))] := by
  refine Cv.of rfl rfl (cc := cX0_keepOldBits) (maxL := 2) (plainFor_of_name (by decide)) rfl (Nat.le_of_ble_eq_true rfl) rfl ?_
  intro p e s m args below meth c A Q hx hb hml hts hown hA hK hP hD hS hend ls hl
  refine lv_iconst (v := 0) hx hb dX0_keepOldBits_0 (by decide) ?_
  refine lv_istore_n (lv' := [(1, .int 0), (0, .ref h0)]) hx hb dX0_keepOldBits_1 rfl hl (by decide) rfl (fun ls hl => ?_)
  have K2 : ∀ (n2 : Nat) (i : Nat), 24 - i < n2 → (i ≤ 24) → ∀ (H : Heap) (locs : List Loc), va_P G vwCl [(h0, .inr (0, [.int (nI w), .int (nI h), .double (midF w), .double (midF h), .ref q1, .ref q2])), (q1, .inl (cI, 24, .inl B)), (q2, .inl (cI, 24, .inl (mapN (fun k _ => B k) O i)))] H → va_D A [(h0, .inr (0, [.int (nI w), .int (nI h), .double (midF w), .double (midF h), .ref q1, .ref q2])), (q1, .inl (cI, 24, .inl B)), (q2, .inl (cI, 24, .inl (mapN (fun k _ => B k) O i)))] → va_S A s.heap H locs → ∀ ls : Array Slot, lv_has ls 2 [(0, .ref h0), (1, .int (nI i))] → W p l e rmX0_keepOldBits s m args below meth c H locs 0 0 Q (F0 m 2 ls []) := by
    intro n2
    induction n2 with
    | zero => intro i hn; exact absurd hn (by omega)
    | succ n2 ih2 =>
      intro i hn2 hi H locs hP hD hS ls hl
      refine lv_iload_n hx hb dX0_keepOldBits_2 rfl (lv_at hl 1 rfl) ?_
      refine lv_aload_n hx hb dX0_keepOldBits_3 rfl (lv_at hl 0 rfl) ?_
      refine va_get (D := G) (ci := 0) (v := .ref q2) (C := RX0) (T := TX0) (N := 6) hx hb hts in_kX0_keepOldBits_X0 hown hK hP 0 rfl rfl 5 (by decide) (hts _ fl_kX0_keepOldBits_31) (fun _ h9 => h9) rfl dX0_keepOldBits_4 ?_
      refine va_alen (v := nI 24) hx hb hK hP 2 0 rfl rfl rfl dX0_keepOldBits_7 ?_
      refine kGe (by omega) (by omega) (tgt := 28) hx hb dX0_keepOldBits_8 (by decide) (fun c_8 => ?_) (fun c_8 => ?_)
      · have e9 : 24 = i := by omega
        subst e9
        exact hend _ _ _ _ _ dX0_keepOldBits_28 hP hD hS rfl
      · refine lv_aload_n hx hb dX0_keepOldBits_11 rfl (lv_at hl 0 rfl) ?_
        refine va_get (D := G) (ci := 0) (v := .ref q2) (C := RX0) (T := TX0) (N := 6) hx hb hts in_kX0_keepOldBits_X0 hown hK hP 0 rfl rfl 5 (by decide) (hts _ fl_kX0_keepOldBits_31) (fun _ h9 => h9) rfl dX0_keepOldBits_12 ?_
        refine lv_iload_n hx hb dX0_keepOldBits_15 rfl (lv_at hl 1 rfl) ?_
        refine lv_aload_n hx hb dX0_keepOldBits_16 rfl (lv_at hl 0 rfl) ?_
        refine lv_iload_n hx hb dX0_keepOldBits_17 rfl (lv_at hl 1 rfl) ?_
        refine kVi (w' := [(h0, .inr (0, [.int (nI w), .int (nI h), .double (midF w), .double (midF h), .ref q1, .ref q2])), (q1, .inl (cI, 24, .inl B)), (q2, .inl (cI, 24, .inl (mapN (fun k _ => B k) O i)))]) (wr := []) (isC := [0, 1, 2]) (isR := []) (pm := [0, 1, 2]) (rest := [.int (nI i), .ref q2]) (kX0_rowBits l G cI cZ cJ cD h0 q1 q2 w h hw hh B (mapN (fun k _ => B k) O i) (nI i)) ⟨hx, hb, hml, hown, hts⟩ (cwV 1 hts gX0_keepOldBits_X0_rowBits rfl rfl rfl hd_X0_rowBits ⟨Nat.le_of_ble_eq_true rfl, Nat.le_of_ble_eq_true rfl⟩) hK hP hD hS hA ⟨rfl, rfl, rfl, by decide, rfl, rfl, rfl⟩ 0 0 rfl rfl rfl hl.1 rfl (Nat.le_of_ble_eq_true rfl) dX0_keepOldBits_18 ⟨Nat.le_of_ble_eq_true rfl, Nat.le_of_ble_eq_true rfl⟩ rfl rfl (fun H locs hP hD hS => ?_)
        refine kTopI (z := B i) (rowF_nI _ (by omega)) ?_
        refine va_iast hx hb hK hP hD hS 2 0 rfl rfl (vp_in_nI (by omega) (by omega)) dX0_keepOldBits_21 (fun H locs (hP : va_P G vwCl [(h0, .inr (0, [.int (nI w), .int (nI h), .double (midF w), .double (midF h), .ref q1, .ref q2])), (q1, .inl (cI, 24, .inl B)), (q2, .inl (cI, 24, .inl (upd (mapN (fun k _ => B k) O i) (nI i).toNatClampNeg (B i))))] H) (hD : va_D A [(h0, .inr (0, [.int (nI w), .int (nI h), .double (midF w), .double (midF h), .ref q1, .ref q2])), (q1, .inl (cI, 24, .inl B)), (q2, .inl (cI, 24, .inl (upd (mapN (fun k _ => B k) O i) (nI i).toNatClampNeg (B i))))]) hS => ?_)
        rw [nI_clamp (n := i) (by omega)] at hP hD
        have hE : upd (mapN (fun k _ => B k) O i) i (B i) = mapN (fun k _ => B k) O (i + 1) := mapN_s (fun k _ => B k) O i
        rw [hE] at hP hD
        refine lv_iinc (v := nI (i + 1)) (lv' := [(1, .int (nI (i + 1))), (0, .ref h0)]) hx hb dX0_keepOldBits_22 hl (k := 1) rfl (nI_1 _) (by decide) rfl (fun ls hl => ?_)
        refine lv_goto (tgt := 2) hx hb dX0_keepOldBits_25 (by decide) ?_
        exact ih2 (i + 1) (by omega) (by omega) _ _ hP hD hS _ (lv_sub hl [1, 0] rfl)
  rw [← mapN_0 (fun k _ => B k) O] at hP hD
  exact K2 (24 - 0 + 1) 0 (by omega) (by omega) _ _ hP hD hS _ (lv_sub hl [1, 0] rfl)
