theorem smpN_t (w h : Nat) (O : Nat → Int32) (s c : UInt64) (y x : Nat) (e : smpB w h O s c x y = true) : smpN w h O s c y (x + 1) = smpN w h O s c y x ||| (1 <<< (nI x &&& 31)) := by simp only [smpN, e, if_true]
theorem smpN_f (w h : Nat) (O : Nat → Int32) (s c : UInt64) (y x : Nat) (e : smpB w h O s c x y = false) : smpN w h O s c y (x + 1) = smpN w h O s c y x := by simp only [smpN, e, Bool.false_eq_true, if_false]
theorem smpB_t {w h : Nat} {O : Nat → Int32} {s c : UInt64} {x y : Nat} (h1 : hasB w h (frX w h s c x y) (frY w h s c x y) = true) (h2 : ¬ sUshr (rowF O (frY w h s c x y)) (frX w h s c x y) &&& 1 = 0) : smpB w h O s c x y = true := by simp [smpB, h1, h2]
theorem smpB_f1 {w h : Nat} {O : Nat → Int32} {s c : UInt64} {x y : Nat} (h1 : hasB w h (frX w h s c x y) (frY w h s c x y) = false) : smpB w h O s c x y = false := by simp [smpB, h1]
theorem smpB_f2 {w h : Nat} {O : Nat → Int32} {s c : UInt64} {x y : Nat} (h1 : hasB w h (frX w h s c x y) (frY w h s c x y) = true) (h2 : sUshr (rowF O (frY w h s c x y)) (frX w h s c x y) &&& 1 = 0) : smpB w h O s c x y = false := by simp [smpB, h1, h2]
theorem fc_4611686018427387904 : fIv (131072) (131072) 4611686018427387904 := by unfold fIv; decide +kernel
theorem in_kX0_shearRows_X0 : ∀ w ∈ u_ws RX0 TX0 6, w ∈ wsX0_shearRows := by decide +kernel
theorem fl_kX0_shearRows_15 : Cond.fieldLink RX0 15 "SkewFind$Picture" "height" "I" ∈ wsX0_shearRows := by decide +kernel
theorem fl_kX0_shearRows_24 : Cond.fieldLink RX0 24 "SkewFind$Picture" "middleY" "D" ∈ wsX0_shearRows := by decide +kernel
abbrev rmX0_shearRows : Room := { frames := 3, cells := 0, slots := 0, locals := 66 }
set_option maxRecDepth 100000 in
set_option maxHeartbeats 4000000 in
theorem kX0_shearRows (l : Launch) (G : va_G) (cI cZ cJ cD : ClassId) (h0 q1 q2 w h : Nat) (hw : w ≤ 24) (hh : h ≤ 24) (B O : Nat → Int32) (t : UInt64) (ht : fIv (-23855) 23855 t) (dir : Int32) : Cv l G (kTy cI cZ cJ cD) yX0_shearRows wsX0_shearRows rmX0_shearRows [.ref h0, .double t, .int dir] [(h0, .inr (0, [.int (nI w), .int (nI h), .double (midF w), .double (midF h), .ref q1, .ref q2])), (q1, .inl (cI, 24, .inl B)), (q2, .inl (cI, 24, .inl O))] [(h0, .inr (0, [.int (nI w), .int (nI h), .double (midF w), .double (midF h), .ref q1, .ref q2])), (q1, .inl (cI, 24, .inl (shrR w h t dir B))), (q2, .inl (cI, 24, .inl O))] := by
  refine Cv.of rfl rfl (cc := cX0_shearRows) (maxL := 6) (plainFor_of_name (by decide)) rfl (Nat.le_of_ble_eq_true rfl) rfl ?_
  intro p e s m args below meth c A Q hx hb hml hts hown hA hK hP hD hS hend ls hl
  refine lv_iconst (v := 0) hx hb dX0_shearRows_0 (by decide) ?_
  refine lv_istore (lv' := [(4, .int 0), (0, .ref h0), (1, .double t), (3, .int dir)]) hx hb dX0_shearRows_1 hl (by decide) rfl (fun ls hl => ?_)
  have K3 : ∀ (n3 : Nat) (i : Nat), h - i < n3 → (i ≤ h) → ∀ (H : Heap) (locs : List Loc), va_P G vwCl [(h0, .inr (0, [.int (nI w), .int (nI h), .double (midF w), .double (midF h), .ref q1, .ref q2])), (q1, .inl (cI, 24, .inl (mapN (shrF w h t dir) B i))), (q2, .inl (cI, 24, .inl O))] H → va_D A [(h0, .inr (0, [.int (nI w), .int (nI h), .double (midF w), .double (midF h), .ref q1, .ref q2])), (q1, .inl (cI, 24, .inl (mapN (shrF w h t dir) B i))), (q2, .inl (cI, 24, .inl O))] → va_S A s.heap H locs → ∀ ls : Array Slot, lv_has ls 6 [(0, .ref h0), (1, .double t), (3, .int dir), (4, .int (nI i))] → W p l e rmX0_shearRows s m args below meth c H locs 0 0 Q (F0 m 3 ls []) := by
    intro n3
    induction n3 with
    | zero => intro i hn; exact absurd hn (by omega)
    | succ n3 ih3 =>
      intro i hn3 hi H locs hP hD hS ls hl
      refine lv_iload hx hb dX0_shearRows_3 (lv_at hl 3 rfl) ?_
      refine lv_aload_n hx hb dX0_shearRows_5 rfl (lv_at hl 0 rfl) ?_
      refine va_get (D := G) (ci := 0) (v := .int (nI h)) (C := RX0) (T := TX0) (N := 6) hx hb hts in_kX0_shearRows_X0 hown hK hP 0 rfl rfl 1 (by decide) (hts _ fl_kX0_shearRows_15) (fun _ h9 => h9) rfl dX0_shearRows_6 ?_
      refine kGe (by omega) (by omega) (tgt := 53) hx hb dX0_shearRows_9 (by decide) (fun c_9 => ?_) (fun c_9 => ?_)
      · have e9 : h = i := by omega
        subst e9
        exact hend _ _ _ _ _ dX0_shearRows_53 hP hD hS rfl
      · refine lv_iload_n hx hb dX0_shearRows_12 rfl (lv_at hl 2 rfl) ?_
        refine lv_aload_n hx hb dX0_shearRows_13 rfl (lv_at hl 0 rfl) ?_
        refine va_get (D := G) (ci := 0) (v := .double (midF h)) (C := RX0) (T := TX0) (N := 6) hx hb hts in_kX0_shearRows_X0 hown hK hP 0 rfl rfl 3 (by decide) (hts _ fl_kX0_shearRows_24) (fun _ h9 => h9) rfl dX0_shearRows_14 ?_
        refine lv_iload hx hb dX0_shearRows_17 (lv_at hl 3 rfl) ?_
        refine lv_i2d hx hb dX0_shearRows_19 ?_
        have b1 : fIv (-32768) (753664) (midF h) := fMid h (by omega)
        have b2 : fIv (0) (1572864) (FP.i2d (nI i)) := fIvN (k := 24) (by omega) (by omega)
        have b3 : fIv (-1605632) (753664) (FP.dsub (midF h) (FP.i2d (nI i))) := fSub b1 b2 (by decide +kernel) (by decide +kernel) (by decide +kernel) (by decide +kernel)
        refine lv_dsub hx hb dX0_shearRows_20 b3.n64 ?_
        refine lv_dload_n hx hb dX0_shearRows_21 rfl (lv_at hl 1 rfl) ?_
        have b4 : fIv (-584448) (584448) (FP.dmul (FP.dsub (midF h) (FP.i2d (nI i))) t) := fIv.mul (n := 1605632) (m := 23855) (k := 584448) (b3.weak (by decide +kernel) (by decide +kernel) (by decide +kernel) (by decide +kernel)) ht (by decide +kernel) (by decide +kernel)
        refine lv_dmul hx hb dX0_shearRows_22 b4.n64 ?_
        have b5 : fIv (-551680) (617216) (FP.dadd (FP.dmul (FP.dsub (midF h) (FP.i2d (nI i))) t) 4602678819172646912) := fAdd b4 fHalf (by decide +kernel) (by decide +kernel) (by decide +kernel) (by decide +kernel)
        refine kSi (rest := [.int dir]) (kX1_whole l G cI cZ cJ cD (FP.dmul (FP.dsub (midF h) (FP.i2d (nI i))) t) (-551680) (617216) b5) ⟨hx, hb, hml, hown, hts⟩ (va_cwS 1 hts gX0_shearRows_X1_whole rfl rfl rfl hs_X1_whole ⟨Nat.le_of_ble_eq_true rfl, Nat.le_of_ble_eq_true rfl⟩) hK hP hD hS hA rfl hl.1 rfl (Nat.le_of_ble_eq_true rfl) dX0_shearRows_23 ⟨Nat.le_of_ble_eq_true rfl, Nat.le_of_ble_eq_true rfl⟩ rfl rfl (fun H locs hP hD hS => ?_)
        refine lv_imul hx hb dX0_shearRows_26 ?_
        refine lv_istore (lv' := [(5, .int (dir * (wholeF (FP.dmul (FP.dsub (midF h) (FP.i2d (nI i))) t)))), (0, .ref h0), (1, .double t), (3, .int dir), (4, .int (nI i))]) hx hb dX0_shearRows_27 hl (by decide) rfl (fun ls hl => ?_)
        refine lv_aload_n hx hb dX0_shearRows_29 rfl (lv_at hl 1 rfl) ?_
        refine lv_iload hx hb dX0_shearRows_30 (lv_at hl 4 rfl) ?_
        refine lv_aload_n hx hb dX0_shearRows_32 rfl (lv_at hl 1 rfl) ?_
        refine lv_aload_n hx hb dX0_shearRows_33 rfl (lv_at hl 1 rfl) ?_
        refine lv_iload hx hb dX0_shearRows_34 (lv_at hl 4 rfl) ?_
        refine kVi (w' := [(h0, .inr (0, [.int (nI w), .int (nI h), .double (midF w), .double (midF h), .ref q1, .ref q2])), (q1, .inl (cI, 24, .inl (mapN (shrF w h t dir) B i))), (q2, .inl (cI, 24, .inl O))]) (wr := []) (isC := [0, 1, 2]) (isR := []) (pm := [0, 1, 2]) (rest := [.ref h0, .int (nI i), .ref h0]) (kX0_rowBits l G cI cZ cJ cD h0 q1 q2 w h hw hh (mapN (shrF w h t dir) B i) O (nI i)) ⟨hx, hb, hml, hown, hts⟩ (cwV 1 hts gX0_shearRows_X0_rowBits rfl rfl rfl hd_X0_rowBits ⟨Nat.le_of_ble_eq_true rfl, Nat.le_of_ble_eq_true rfl⟩) hK hP hD hS hA ⟨rfl, rfl, rfl, by decide, rfl, rfl, rfl⟩ 0 0 rfl rfl rfl hl.1 rfl (Nat.le_of_ble_eq_true rfl) dX0_shearRows_36 ⟨Nat.le_of_ble_eq_true rfl, Nat.le_of_ble_eq_true rfl⟩ rfl rfl (fun H locs hP hD hS => ?_)
        refine kTopI (z := B i) ((rowF_nI _ (by omega)).trans (mapN_at _ _ _)) ?_
        refine lv_iload hx hb dX0_shearRows_39 (lv_at hl 0 rfl) ?_
        refine kVi (w' := [(h0, .inr (0, [.int (nI w), .int (nI h), .double (midF w), .double (midF h), .ref q1, .ref q2])), (q1, .inl (cI, 24, .inl (mapN (shrF w h t dir) B i))), (q2, .inl (cI, 24, .inl O))]) (wr := []) (isC := [0, 1, 2]) (isR := []) (pm := [0, 1, 2]) (rest := [.int (nI i), .ref h0]) (kX0_movedRight l G cI cZ cJ cD h0 q1 q2 w h hw hh (mapN (shrF w h t dir) B i) O (B i) (dir * (wholeF (FP.dmul (FP.dsub (midF h) (FP.i2d (nI i))) t)))) ⟨hx, hb, hml, hown, hts⟩ (cwV 2 hts gX0_shearRows_X0_movedRight rfl rfl rfl hd_X0_movedRight ⟨Nat.le_of_ble_eq_true rfl, Nat.le_of_ble_eq_true rfl⟩) hK hP hD hS hA ⟨rfl, rfl, rfl, by decide, rfl, rfl, rfl⟩ 0 0 rfl rfl rfl hl.1 rfl (Nat.le_of_ble_eq_true rfl) dX0_shearRows_41 ⟨Nat.le_of_ble_eq_true rfl, Nat.le_of_ble_eq_true rfl⟩ rfl rfl (fun H locs hP hD hS => ?_)
        refine kVv (w' := [(h0, .inr (0, [.int (nI w), .int (nI h), .double (midF w), .double (midF h), .ref q1, .ref q2])), (q1, .inl (cI, 24, .inl (setF (mapN (shrF w h t dir) B i) (nI i) (movF w (B i) (dir * (wholeF (FP.dmul (FP.dsub (midF h) (FP.i2d (nI i))) t))))))), (q2, .inl (cI, 24, .inl O))]) (wr := []) (isC := [0, 1, 2]) (isR := []) (pm := [0, 1, 2]) (rest := []) (kX0_setRowBits l G cI cZ cJ cD h0 q1 q2 w h hw hh (mapN (shrF w h t dir) B i) O (nI i) (movF w (B i) (dir * (wholeF (FP.dmul (FP.dsub (midF h) (FP.i2d (nI i))) t))))) ⟨hx, hb, hml, hown, hts⟩ (cwV 2 hts gX0_shearRows_X0_setRowBits rfl rfl rfl hd_X0_setRowBits ⟨Nat.le_of_ble_eq_true rfl, Nat.le_of_ble_eq_true rfl⟩) hK hP hD hS hA ⟨rfl, rfl, rfl, by decide, rfl, rfl, rfl⟩ 0 0 rfl rfl rfl hl.1 rfl (Nat.le_of_ble_eq_true rfl) dX0_shearRows_44 ⟨Nat.le_of_ble_eq_true rfl, Nat.le_of_ble_eq_true rfl⟩ rfl rfl (fun H locs hP hD hS => ?_)
        have hE : setF (mapN (shrF w h t dir) B i) (nI i) (movF w (B i) (dir * (wholeF (FP.dmul (FP.dsub (midF h) (FP.i2d (nI i))) t)))) = upd (mapN (shrF w h t dir) B i) i (shrF w h t dir i (B i)) := setF_nI _ _ (by omega)
        rw [hE] at hP hD
        have hE : upd (mapN (shrF w h t dir) B i) i (shrF w h t dir i (B i)) = mapN (shrF w h t dir) B (i + 1) := mapN_s _ _ _
        rw [hE] at hP hD
        refine lv_iinc (v := nI (i + 1)) (lv' := [(4, .int (nI (i + 1))), (5, .int (dir * (wholeF (FP.dmul (FP.dsub (midF h) (FP.i2d (nI i))) t)))), (0, .ref h0), (1, .double t), (3, .int dir)]) hx hb dX0_shearRows_47 hl (k := 4) rfl (nI_1 _) (by decide) rfl (fun ls hl => ?_)
        refine lv_goto (tgt := 3) hx hb dX0_shearRows_50 (by decide) ?_
        exact ih3 (i + 1) (by omega) (by omega) _ _ hP hD hS _ (lv_sub hl [2, 3, 4, 0] rfl)
  rw [← mapN_0 (shrF w h t dir) B] at hP hD
  exact K3 (h - 0 + 1) 0 (by omega) (by omega) _ _ hP hD hS _ (lv_sub hl [1, 2, 3, 0] rfl)
theorem in_kX0_shearColumns_X0 : ∀ w ∈ u_ws RX0 TX0 6, w ∈ wsX0_shearColumns := by decide +kernel
theorem fl_kX0_shearColumns_9 : Cond.fieldLink RX0 9 "SkewFind$Picture" "width" "I" ∈ wsX0_shearColumns := by decide +kernel
theorem fl_kX0_shearColumns_20 : Cond.fieldLink RX0 20 "SkewFind$Picture" "middleX" "D" ∈ wsX0_shearColumns := by decide +kernel
theorem fl_kX0_shearColumns_15 : Cond.fieldLink RX0 15 "SkewFind$Picture" "height" "I" ∈ wsX0_shearColumns := by decide +kernel
abbrev rmX0_shearColumns : Room := { frames := 2, cells := 0, slots := 0, locals := 43 }
set_option maxRecDepth 100000 in
set_option maxHeartbeats 4000000 in
theorem kX0_shearColumns (l : Launch) (G : va_G) (cI cZ cJ cD : ClassId) (h0 q1 q2 w h : Nat) (hw : w ≤ 24) (hh : h ≤ 24) (B O : Nat → Int32) (s0 : UInt64) (hs : fIv (-23855) 23855 s0) (dir : Int32) : Cv l G (kTy cI cZ cJ cD) yX0_shearColumns wsX0_shearColumns rmX0_shearColumns [.ref h0, .double s0, .int dir] [(h0, .inr (0, [.int (nI w), .int (nI h), .double (midF w), .double (midF h), .ref q1, .ref q2])), (q1, .inl (cI, 24, .inl B)), (q2, .inl (cI, 24, .inl O))] [(h0, .inr (0, [.int (nI w), .int (nI h), .double (midF w), .double (midF h), .ref q1, .ref q2])), (q1, .inl (cI, 24, .inl (shrC w h s0 dir B O))), (q2, .inl (cI, 24, .inl (keepN B O)))] := by
  refine Cv.of rfl rfl (cc := cX0_shearColumns) (maxL := 8) (plainFor_of_name (by decide)) rfl (Nat.le_of_ble_eq_true rfl) rfl ?_
  intro p e s m args below meth c A Q hx hb hml hts hown hA hK hP hD hS hend ls hl
  refine lv_aload_n hx hb dX0_shearColumns_0 rfl (lv_at hl 0 rfl) ?_
  refine kVv (w' := [(h0, .inr (0, [.int (nI w), .int (nI h), .double (midF w), .double (midF h), .ref q1, .ref q2])), (q1, .inl (cI, 24, .inl B)), (q2, .inl (cI, 24, .inl (mapN (fun k _ => B k) O 24)))]) (wr := []) (isC := [0, 1, 2]) (isR := []) (pm := [0, 1, 2]) (rest := []) (kX0_keepOldBits l G cI cZ cJ cD h0 q1 q2 w h hw hh B O ) ⟨hx, hb, hml, hown, hts⟩ (cwV 0 hts gX0_shearColumns_X0_keepOldBits rfl rfl rfl hd_X0_keepOldBits ⟨Nat.le_of_ble_eq_true rfl, Nat.le_of_ble_eq_true rfl⟩) hK hP hD hS hA ⟨rfl, rfl, rfl, by decide, rfl, rfl, rfl⟩ 0 0 rfl rfl rfl hl.1 rfl (Nat.le_of_ble_eq_true rfl) dX0_shearColumns_1 ⟨Nat.le_of_ble_eq_true rfl, Nat.le_of_ble_eq_true rfl⟩ rfl rfl (fun H locs hP hD hS => ?_)
  refine lv_aload_n hx hb dX0_shearColumns_4 rfl (lv_at hl 0 rfl) ?_
  refine kVv (w' := [(h0, .inr (0, [.int (nI w), .int (nI h), .double (midF w), .double (midF h), .ref q1, .ref q2])), (q1, .inl (cI, 24, .inl (mapN (fun _ _ => 0) B h))), (q2, .inl (cI, 24, .inl (mapN (fun k _ => B k) O 24)))]) (wr := []) (isC := [0, 1, 2]) (isR := []) (pm := [0, 1, 2]) (rest := []) (kX0_wipe l G cI cZ cJ cD h0 q1 q2 w h hw hh B (mapN (fun k _ => B k) O 24) ) ⟨hx, hb, hml, hown, hts⟩ (cwV 0 hts gX0_shearColumns_X0_wipe rfl rfl rfl hd_X0_wipe ⟨Nat.le_of_ble_eq_true rfl, Nat.le_of_ble_eq_true rfl⟩) hK hP hD hS hA ⟨rfl, rfl, rfl, by decide, rfl, rfl, rfl⟩ 0 0 rfl rfl rfl hl.1 rfl (Nat.le_of_ble_eq_true rfl) dX0_shearColumns_5 ⟨Nat.le_of_ble_eq_true rfl, Nat.le_of_ble_eq_true rfl⟩ rfl rfl (fun H locs hP hD hS => ?_)
  refine lv_iconst (v := 0) hx hb dX0_shearColumns_8 (by decide) ?_
  refine lv_istore (lv' := [(4, .int 0), (0, .ref h0), (1, .double s0), (3, .int dir)]) hx hb dX0_shearColumns_9 hl (by decide) rfl (fun ls hl => ?_)
  have K11 : ∀ (n11 : Nat) (i : Nat), w - i < n11 → (i ≤ w) → ∀ (H : Heap) (locs : List Loc), va_P G vwCl [(h0, .inr (0, [.int (nI w), .int (nI h), .double (midF w), .double (midF h), .ref q1, .ref q2])), (q1, .inl (cI, 24, .inl (colsN w h (keepN B O) s0 dir (wipeN B h) i))), (q2, .inl (cI, 24, .inl (keepN B O)))] H → va_D A [(h0, .inr (0, [.int (nI w), .int (nI h), .double (midF w), .double (midF h), .ref q1, .ref q2])), (q1, .inl (cI, 24, .inl (colsN w h (keepN B O) s0 dir (wipeN B h) i))), (q2, .inl (cI, 24, .inl (keepN B O)))] → va_S A s.heap H locs → ∀ ls : Array Slot, lv_has ls 8 [(0, .ref h0), (1, .double s0), (3, .int dir), (4, .int (nI i))] → W p l e rmX0_shearColumns s m args below meth c H locs 0 0 Q (F0 m 11 ls []) := by
    intro n11
    induction n11 with
    | zero => intro i hn; exact absurd hn (by omega)
    | succ n11 ih11 =>
      intro i hn11 hi H locs hP hD hS ls hl
      refine lv_iload hx hb dX0_shearColumns_11 (lv_at hl 3 rfl) ?_
      refine lv_aload_n hx hb dX0_shearColumns_13 rfl (lv_at hl 0 rfl) ?_
      refine va_get (D := G) (ci := 0) (v := .int (nI w)) (C := RX0) (T := TX0) (N := 6) hx hb hts in_kX0_shearColumns_X0 hown hK hP 0 rfl rfl 0 (by decide) (hts _ fl_kX0_shearColumns_9) (fun _ h9 => h9) rfl dX0_shearColumns_14 ?_
      refine kGe (by omega) (by omega) (tgt := 99) hx hb dX0_shearColumns_17 (by decide) (fun c_17 => ?_) (fun c_17 => ?_)
      · have e9 : w = i := by omega
        subst e9
        exact hend _ _ _ _ _ dX0_shearColumns_99 hP hD hS rfl
      · refine lv_iload_n hx hb dX0_shearColumns_20 rfl (lv_at hl 2 rfl) ?_
        refine lv_iload hx hb dX0_shearColumns_21 (lv_at hl 3 rfl) ?_
        refine lv_i2d hx hb dX0_shearColumns_23 ?_
        refine lv_aload_n hx hb dX0_shearColumns_24 rfl (lv_at hl 0 rfl) ?_
        refine va_get (D := G) (ci := 0) (v := .double (midF w)) (C := RX0) (T := TX0) (N := 6) hx hb hts in_kX0_shearColumns_X0 hown hK hP 0 rfl rfl 2 (by decide) (hts _ fl_kX0_shearColumns_20) (fun _ h9 => h9) rfl dX0_shearColumns_25 ?_
        have b1 : fIv (0) (1572864) (FP.i2d (nI i)) := fIvN (k := 24) (by omega) (by omega)
        have b2 : fIv (-32768) (753664) (midF w) := fMid w (by omega)
        have b3 : fIv (-753664) (1605632) (FP.dsub (FP.i2d (nI i)) (midF w)) := fSub b1 b2 (by decide +kernel) (by decide +kernel) (by decide +kernel) (by decide +kernel)
        refine lv_dsub hx hb dX0_shearColumns_28 b3.n64 ?_
        refine lv_dload_n hx hb dX0_shearColumns_29 rfl (lv_at hl 1 rfl) ?_
        have b4 : fIv (-584448) (584448) (FP.dmul (FP.dsub (FP.i2d (nI i)) (midF w)) s0) := fIv.mul (n := 1605632) (m := 23855) (k := 584448) (b3.weak (by decide +kernel) (by decide +kernel) (by decide +kernel) (by decide +kernel)) hs (by decide +kernel) (by decide +kernel)
        refine lv_dmul hx hb dX0_shearColumns_30 b4.n64 ?_
        have b5 : fIv (-551680) (617216) (FP.dadd (FP.dmul (FP.dsub (FP.i2d (nI i)) (midF w)) s0) 4602678819172646912) := fAdd b4 fHalf (by decide +kernel) (by decide +kernel) (by decide +kernel) (by decide +kernel)
        refine kSi (rest := [.int dir]) (kX1_whole l G cI cZ cJ cD (FP.dmul (FP.dsub (FP.i2d (nI i)) (midF w)) s0) (-551680) (617216) b5) ⟨hx, hb, hml, hown, hts⟩ (va_cwS 1 hts gX0_shearColumns_X1_whole rfl rfl rfl hs_X1_whole ⟨Nat.le_of_ble_eq_true rfl, Nat.le_of_ble_eq_true rfl⟩) hK hP hD hS hA rfl hl.1 rfl (Nat.le_of_ble_eq_true rfl) dX0_shearColumns_31 ⟨Nat.le_of_ble_eq_true rfl, Nat.le_of_ble_eq_true rfl⟩ rfl rfl (fun H locs hP hD hS => ?_)
        refine lv_imul hx hb dX0_shearColumns_34 ?_
        refine lv_istore (lv' := [(5, .int (dir * (wholeF (FP.dmul (FP.dsub (FP.i2d (nI i)) (midF w)) s0)))), (0, .ref h0), (1, .double s0), (3, .int dir), (4, .int (nI i))]) hx hb dX0_shearColumns_35 hl (by decide) rfl (fun ls hl => ?_)
        refine lv_iconst (v := 0) hx hb dX0_shearColumns_37 (by decide) ?_
        refine lv_istore (lv' := [(6, .int 0), (5, .int (dir * (wholeF (FP.dmul (FP.dsub (FP.i2d (nI i)) (midF w)) s0)))), (0, .ref h0), (1, .double s0), (3, .int dir), (4, .int (nI i))]) hx hb dX0_shearColumns_38 hl (by decide) rfl (fun ls hl => ?_)
        have K40 : ∀ (n40 : Nat) (j : Nat), h - j < n40 → (j ≤ h) → ∀ (H : Heap) (locs : List Loc), va_P G vwCl [(h0, .inr (0, [.int (nI w), .int (nI h), .double (midF w), .double (midF h), .ref q1, .ref q2])), (q1, .inl (cI, 24, .inl (colN h (keepN B O) i (dir * wholeF (FP.dmul (FP.dsub (FP.i2d (nI i)) (midF w)) s0)) (colsN w h (keepN B O) s0 dir (wipeN B h) i) j))), (q2, .inl (cI, 24, .inl (keepN B O)))] H → va_D A [(h0, .inr (0, [.int (nI w), .int (nI h), .double (midF w), .double (midF h), .ref q1, .ref q2])), (q1, .inl (cI, 24, .inl (colN h (keepN B O) i (dir * wholeF (FP.dmul (FP.dsub (FP.i2d (nI i)) (midF w)) s0)) (colsN w h (keepN B O) s0 dir (wipeN B h) i) j))), (q2, .inl (cI, 24, .inl (keepN B O)))] → va_S A s.heap H locs → ∀ ls : Array Slot, lv_has ls 8 [(0, .ref h0), (1, .double s0), (3, .int dir), (4, .int (nI i)), (5, .int (dir * wholeF (FP.dmul (FP.dsub (FP.i2d (nI i)) (midF w)) s0))), (6, .int (nI j))] → W p l e rmX0_shearColumns s m args below meth c H locs 0 0 Q (F0 m 40 ls []) := by
          intro n40
          induction n40 with
          | zero => intro j hn; exact absurd hn (by omega)
          | succ n40 ih40 =>
            intro j hn40 hj H locs hP hD hS ls hl
            refine lv_iload hx hb dX0_shearColumns_40 (lv_at hl 5 rfl) ?_
            refine lv_aload_n hx hb dX0_shearColumns_42 rfl (lv_at hl 0 rfl) ?_
            refine va_get (D := G) (ci := 0) (v := .int (nI h)) (C := RX0) (T := TX0) (N := 6) hx hb hts in_kX0_shearColumns_X0 hown hK hP 0 rfl rfl 1 (by decide) (hts _ fl_kX0_shearColumns_15) (fun _ h9 => h9) rfl dX0_shearColumns_43 ?_
            refine kGe (by omega) (by omega) (tgt := 93) hx hb dX0_shearColumns_46 (by decide) (fun c_46 => ?_) (fun c_46 => ?_)
            · have e9 : h = j := by omega
              subst e9
              refine lv_iinc (v := nI (i + 1)) (lv' := [(4, .int (nI (i + 1))), (0, .ref h0), (1, .double s0), (3, .int dir), (5, .int (dir * wholeF (FP.dmul (FP.dsub (FP.i2d (nI i)) (midF w)) s0))), (6, .int (nI h))]) hx hb dX0_shearColumns_93 hl (k := 3) rfl (nI_1 _) (by decide) rfl (fun ls hl => ?_)
              refine lv_goto (tgt := 11) hx hb dX0_shearColumns_96 (by decide) ?_
              exact ih11 (i + 1) (by omega) (by omega) _ _ hP hD hS _ (lv_sub hl [1, 2, 3, 0] rfl)
            · refine lv_iload hx hb dX0_shearColumns_49 (lv_at hl 5 rfl) ?_
              refine lv_iload hx hb dX0_shearColumns_51 (lv_at hl 4 rfl) ?_
              refine lv_iadd hx hb dX0_shearColumns_53 ?_
              refine lv_aload_n hx hb dX0_shearColumns_54 rfl (lv_at hl 0 rfl) ?_
              refine va_get (D := G) (ci := 0) (v := .int (nI h)) (C := RX0) (T := TX0) (N := 6) hx hb hts in_kX0_shearColumns_X0 hown hK hP 0 rfl rfl 1 (by decide) (hts _ fl_kX0_shearColumns_15) (fun _ h9 => h9) rfl dX0_shearColumns_55 ?_
              refine kSi (rest := []) (kX1_wrapped l G cI cZ cJ cD ((nI j) + (dir * wholeF (FP.dmul (FP.dsub (FP.i2d (nI i)) (midF w)) s0))) (nI h)) ⟨hx, hb, hml, hown, hts⟩ (va_cwS 2 hts gX0_shearColumns_X1_wrapped rfl rfl rfl hs_X1_wrapped ⟨Nat.le_of_ble_eq_true rfl, Nat.le_of_ble_eq_true rfl⟩) hK hP hD hS hA rfl hl.1 rfl (Nat.le_of_ble_eq_true rfl) dX0_shearColumns_58 ⟨Nat.le_of_ble_eq_true rfl, Nat.le_of_ble_eq_true rfl⟩ rfl rfl (fun H locs hP hD hS => ?_)
              refine lv_istore (lv' := [(7, .int (wrapF ((nI j) + (dir * wholeF (FP.dmul (FP.dsub (FP.i2d (nI i)) (midF w)) s0))) (nI h))), (0, .ref h0), (1, .double s0), (3, .int dir), (4, .int (nI i)), (5, .int (dir * wholeF (FP.dmul (FP.dsub (FP.i2d (nI i)) (midF w)) s0))), (6, .int (nI j))]) hx hb dX0_shearColumns_61 hl (by decide) rfl (fun ls hl => ?_)
              refine lv_aload_n hx hb dX0_shearColumns_63 rfl (lv_at hl 1 rfl) ?_
              refine lv_iload hx hb dX0_shearColumns_64 (lv_at hl 0 rfl) ?_
              refine lv_aload_n hx hb dX0_shearColumns_66 rfl (lv_at hl 1 rfl) ?_
              refine lv_iload hx hb dX0_shearColumns_67 (lv_at hl 0 rfl) ?_
              refine kVi (w' := [(h0, .inr (0, [.int (nI w), .int (nI h), .double (midF w), .double (midF h), .ref q1, .ref q2])), (q1, .inl (cI, 24, .inl (colN h (keepN B O) i (dir * wholeF (FP.dmul (FP.dsub (FP.i2d (nI i)) (midF w)) s0)) (colsN w h (keepN B O) s0 dir (wipeN B h) i) j))), (q2, .inl (cI, 24, .inl (keepN B O)))]) (wr := []) (isC := [0, 1, 2]) (isR := []) (pm := [0, 1, 2]) (rest := [.int (wrapF ((nI j) + (dir * wholeF (FP.dmul (FP.dsub (FP.i2d (nI i)) (midF w)) s0))) (nI h)), .ref h0]) (kX0_rowBits l G cI cZ cJ cD h0 q1 q2 w h hw hh (colN h (keepN B O) i (dir * wholeF (FP.dmul (FP.dsub (FP.i2d (nI i)) (midF w)) s0)) (colsN w h (keepN B O) s0 dir (wipeN B h) i) j) (keepN B O) (wrapF ((nI j) + (dir * wholeF (FP.dmul (FP.dsub (FP.i2d (nI i)) (midF w)) s0))) (nI h))) ⟨hx, hb, hml, hown, hts⟩ (cwV 1 hts gX0_shearColumns_X0_rowBits rfl rfl rfl hd_X0_rowBits ⟨Nat.le_of_ble_eq_true rfl, Nat.le_of_ble_eq_true rfl⟩) hK hP hD hS hA ⟨rfl, rfl, rfl, by decide, rfl, rfl, rfl⟩ 0 0 rfl rfl rfl hl.1 rfl (Nat.le_of_ble_eq_true rfl) dX0_shearColumns_69 ⟨Nat.le_of_ble_eq_true rfl, Nat.le_of_ble_eq_true rfl⟩ rfl rfl (fun H locs hP hD hS => ?_)
              refine lv_aload_n hx hb dX0_shearColumns_72 rfl (lv_at hl 1 rfl) ?_
              refine lv_iload hx hb dX0_shearColumns_73 (lv_at hl 6 rfl) ?_
              refine kVi (w' := [(h0, .inr (0, [.int (nI w), .int (nI h), .double (midF w), .double (midF h), .ref q1, .ref q2])), (q1, .inl (cI, 24, .inl (colN h (keepN B O) i (dir * wholeF (FP.dmul (FP.dsub (FP.i2d (nI i)) (midF w)) s0)) (colsN w h (keepN B O) s0 dir (wipeN B h) i) j))), (q2, .inl (cI, 24, .inl (keepN B O)))]) (wr := []) (isC := [0, 1, 2]) (isR := []) (pm := [0, 1, 2]) (rest := [.int (rowF (colN h (keepN B O) i (dir * wholeF (FP.dmul (FP.dsub (FP.i2d (nI i)) (midF w)) s0)) (colsN w h (keepN B O) s0 dir (wipeN B h) i) j) (wrapF ((nI j) + (dir * wholeF (FP.dmul (FP.dsub (FP.i2d (nI i)) (midF w)) s0))) (nI h))), .int (wrapF ((nI j) + (dir * wholeF (FP.dmul (FP.dsub (FP.i2d (nI i)) (midF w)) s0))) (nI h)), .ref h0]) (kX0_oldRowBits l G cI cZ cJ cD h0 q1 q2 w h hw hh (colN h (keepN B O) i (dir * wholeF (FP.dmul (FP.dsub (FP.i2d (nI i)) (midF w)) s0)) (colsN w h (keepN B O) s0 dir (wipeN B h) i) j) (keepN B O) (nI j)) ⟨hx, hb, hml, hown, hts⟩ (cwV 1 hts gX0_shearColumns_X0_oldRowBits rfl rfl rfl hd_X0_oldRowBits ⟨Nat.le_of_ble_eq_true rfl, Nat.le_of_ble_eq_true rfl⟩) hK hP hD hS hA ⟨rfl, rfl, rfl, by decide, rfl, rfl, rfl⟩ 0 0 rfl rfl rfl hl.1 rfl (Nat.le_of_ble_eq_true rfl) dX0_shearColumns_75 ⟨Nat.le_of_ble_eq_true rfl, Nat.le_of_ble_eq_true rfl⟩ rfl rfl (fun H locs hP hD hS => ?_)
              refine lv_iconst (v := 1) hx hb dX0_shearColumns_78 (by decide) ?_
              refine lv_iload hx hb dX0_shearColumns_79 (lv_at hl 4 rfl) ?_
              refine lv_ishl hx hb dX0_shearColumns_81 ?_
              refine lv_iand hx hb dX0_shearColumns_82 ?_
              refine lv_ior hx hb dX0_shearColumns_83 ?_
              refine kVv (w' := [(h0, .inr (0, [.int (nI w), .int (nI h), .double (midF w), .double (midF h), .ref q1, .ref q2])), (q1, .inl (cI, 24, .inl (setF (colN h (keepN B O) i (dir * wholeF (FP.dmul (FP.dsub (FP.i2d (nI i)) (midF w)) s0)) (colsN w h (keepN B O) s0 dir (wipeN B h) i) j) (wrapF ((nI j) + (dir * wholeF (FP.dmul (FP.dsub (FP.i2d (nI i)) (midF w)) s0))) (nI h)) ((rowF (colN h (keepN B O) i (dir * wholeF (FP.dmul (FP.dsub (FP.i2d (nI i)) (midF w)) s0)) (colsN w h (keepN B O) s0 dir (wipeN B h) i) j) (wrapF ((nI j) + (dir * wholeF (FP.dmul (FP.dsub (FP.i2d (nI i)) (midF w)) s0))) (nI h))) ||| ((rowF (keepN B O) (nI j)) &&& (1 <<< ((nI i) &&& 31))))))), (q2, .inl (cI, 24, .inl (keepN B O)))]) (wr := []) (isC := [0, 1, 2]) (isR := []) (pm := [0, 1, 2]) (rest := []) (kX0_setRowBits l G cI cZ cJ cD h0 q1 q2 w h hw hh (colN h (keepN B O) i (dir * wholeF (FP.dmul (FP.dsub (FP.i2d (nI i)) (midF w)) s0)) (colsN w h (keepN B O) s0 dir (wipeN B h) i) j) (keepN B O) (wrapF ((nI j) + (dir * wholeF (FP.dmul (FP.dsub (FP.i2d (nI i)) (midF w)) s0))) (nI h)) ((rowF (colN h (keepN B O) i (dir * wholeF (FP.dmul (FP.dsub (FP.i2d (nI i)) (midF w)) s0)) (colsN w h (keepN B O) s0 dir (wipeN B h) i) j) (wrapF ((nI j) + (dir * wholeF (FP.dmul (FP.dsub (FP.i2d (nI i)) (midF w)) s0))) (nI h))) ||| ((rowF (keepN B O) (nI j)) &&& (1 <<< ((nI i) &&& 31))))) ⟨hx, hb, hml, hown, hts⟩ (cwV 2 hts gX0_shearColumns_X0_setRowBits rfl rfl rfl hd_X0_setRowBits ⟨Nat.le_of_ble_eq_true rfl, Nat.le_of_ble_eq_true rfl⟩) hK hP hD hS hA ⟨rfl, rfl, rfl, by decide, rfl, rfl, rfl⟩ 0 0 rfl rfl rfl hl.1 rfl (Nat.le_of_ble_eq_true rfl) dX0_shearColumns_84 ⟨Nat.le_of_ble_eq_true rfl, Nat.le_of_ble_eq_true rfl⟩ rfl rfl (fun H locs hP hD hS => ?_)
              refine lv_iinc (v := nI (j + 1)) (lv' := [(6, .int (nI (j + 1))), (7, .int (wrapF ((nI j) + (dir * wholeF (FP.dmul (FP.dsub (FP.i2d (nI i)) (midF w)) s0))) (nI h))), (0, .ref h0), (1, .double s0), (3, .int dir), (4, .int (nI i)), (5, .int (dir * wholeF (FP.dmul (FP.dsub (FP.i2d (nI i)) (midF w)) s0)))]) hx hb dX0_shearColumns_87 hl (k := 6) rfl (nI_1 _) (by decide) rfl (fun ls hl => ?_)
              refine lv_goto (tgt := 40) hx hb dX0_shearColumns_90 (by decide) ?_
              exact ih40 (j + 1) (by omega) (by omega) _ _ hP hD hS _ (lv_sub hl [2, 3, 4, 5, 6, 0] rfl)
        exact K40 (h - 0 + 1) 0 (by omega) (by omega) _ _ hP hD hS _ (lv_sub hl [2, 3, 4, 5, 1, 0] rfl)
  exact K11 (w - 0 + 1) 0 (by omega) (by omega) _ _ hP hD hS _ (lv_sub hl [1, 2, 3, 0] rfl)
theorem in_kX0_sampledRow_X0 : ∀ w ∈ u_ws RX0 TX0 6, w ∈ wsX0_sampledRow := by decide +kernel
theorem fl_kX0_sampledRow_9 : Cond.fieldLink RX0 9 "SkewFind$Picture" "width" "I" ∈ wsX0_sampledRow := by decide +kernel
theorem fl_kX0_sampledRow_20 : Cond.fieldLink RX0 20 "SkewFind$Picture" "middleX" "D" ∈ wsX0_sampledRow := by decide +kernel
theorem fl_kX0_sampledRow_24 : Cond.fieldLink RX0 24 "SkewFind$Picture" "middleY" "D" ∈ wsX0_sampledRow := by decide +kernel
abbrev rmX0_sampledRow : Room := { frames := 1, cells := 0, slots := 0, locals := 24 }
set_option maxRecDepth 100000 in
set_option maxHeartbeats 4000000 in
theorem kX0_sampledRow (l : Launch) (G : va_G) (cI cZ cJ cD : ClassId) (h0 q1 q2 w h : Nat) (hw : w ≤ 24) (hh : h ≤ 24) (B O : Nat → Int32) (y : Nat) (hy : y ≤ 24) (s0 : UInt64) (hs : fIv (-23855) 23855 s0) (c0 : UInt64) (hc : fIv (61502) 69570 c0) : Ci l G (kTy cI cZ cJ cD) yX0_sampledRow wsX0_sampledRow rmX0_sampledRow [.ref h0, .int (nI y), .double s0, .double c0] [(h0, .inr (0, [.int (nI w), .int (nI h), .double (midF w), .double (midF h), .ref q1, .ref q2])), (q1, .inl (cI, 24, .inl B)), (q2, .inl (cI, 24, .inl O))] (smpN w h O s0 c0 y w) [(h0, .inr (0, [.int (nI w), .int (nI h), .double (midF w), .double (midF h), .ref q1, .ref q2])), (q1, .inl (cI, 24, .inl B)), (q2, .inl (cI, 24, .inl O))] := by
  refine Ci.of .int rfl rfl rfl (cc := cX0_sampledRow) (maxL := 10) (plainFor_of_name (by decide)) rfl (Nat.le_of_ble_eq_true rfl) rfl ?_
  intro p e s m args below meth c A Q hx hb hml hts hown hA hK hP hD hS hend ls hl
  refine lv_iconst (v := 0) hx hb dX0_sampledRow_0 (by decide) ?_
  refine lv_istore (lv' := [(6, .int 0), (0, .ref h0), (1, .int (nI y)), (2, .double s0), (4, .double c0)]) hx hb dX0_sampledRow_1 hl (by decide) rfl (fun ls hl => ?_)
  refine lv_iconst (v := 0) hx hb dX0_sampledRow_3 (by decide) ?_
  refine lv_istore (lv' := [(7, .int 0), (6, .int 0), (0, .ref h0), (1, .int (nI y)), (2, .double s0), (4, .double c0)]) hx hb dX0_sampledRow_4 hl (by decide) rfl (fun ls hl => ?_)
  have K6 : ∀ (n6 : Nat) (x : Nat), w - x < n6 → (x ≤ w) → ∀ (H : Heap) (locs : List Loc), va_P G vwCl [(h0, .inr (0, [.int (nI w), .int (nI h), .double (midF w), .double (midF h), .ref q1, .ref q2])), (q1, .inl (cI, 24, .inl B)), (q2, .inl (cI, 24, .inl O))] H → va_D A [(h0, .inr (0, [.int (nI w), .int (nI h), .double (midF w), .double (midF h), .ref q1, .ref q2])), (q1, .inl (cI, 24, .inl B)), (q2, .inl (cI, 24, .inl O))] → va_S A s.heap H locs → ∀ ls : Array Slot, lv_has ls 10 [(0, .ref h0), (1, .int (nI y)), (2, .double s0), (4, .double c0), (6, .int (smpN w h O s0 c0 y x)), (7, .int (nI x))] → W p l e rmX0_sampledRow s m args below meth c H locs 0 0 Q (F0 m 6 ls []) := by
    intro n6
    induction n6 with
    | zero => intro x hn; exact absurd hn (by omega)
    | succ n6 ih6 =>
      intro x hn6 hx2 H locs hP hD hS ls hl
      refine lv_iload hx hb dX0_sampledRow_6 (lv_at hl 5 rfl) ?_
      refine lv_aload_n hx hb dX0_sampledRow_8 rfl (lv_at hl 0 rfl) ?_
      refine va_get (D := G) (ci := 0) (v := .int (nI w)) (C := RX0) (T := TX0) (N := 6) hx hb hts in_kX0_sampledRow_X0 hown hK hP 0 rfl rfl 0 (by decide) (hts _ fl_kX0_sampledRow_9) (fun _ h9 => h9) rfl dX0_sampledRow_9 ?_
      refine kGe (by omega) (by omega) (tgt := 117) hx hb dX0_sampledRow_12 (by decide) (fun c_12 => ?_) (fun c_12 => ?_)
      · have e9 : w = x := by omega
        subst e9
        refine lv_iload hx hb dX0_sampledRow_117 (lv_at hl 4 rfl) ?_
        exact hend _ _ _ _ _ _ dX0_sampledRow_119 hP hD hS rfl rfl
      · refine lv_aload_n hx hb dX0_sampledRow_15 rfl (lv_at hl 0 rfl) ?_
        refine va_get (D := G) (ci := 0) (v := .double (midF w)) (C := RX0) (T := TX0) (N := 6) hx hb hts in_kX0_sampledRow_X0 hown hK hP 0 rfl rfl 2 (by decide) (hts _ fl_kX0_sampledRow_20) (fun _ h9 => h9) rfl dX0_sampledRow_16 ?_
        refine lv_iload hx hb dX0_sampledRow_19 (lv_at hl 5 rfl) ?_
        refine lv_i2d hx hb dX0_sampledRow_21 ?_
        refine lv_aload_n hx hb dX0_sampledRow_22 rfl (lv_at hl 0 rfl) ?_
        refine va_get (D := G) (ci := 0) (v := .double (midF w)) (C := RX0) (T := TX0) (N := 6) hx hb hts in_kX0_sampledRow_X0 hown hK hP 0 rfl rfl 2 (by decide) (hts _ fl_kX0_sampledRow_20) (fun _ h9 => h9) rfl dX0_sampledRow_23 ?_
        have b1 : fIv (0) (1572864) (FP.i2d (nI x)) := fIvN (k := 24) (by omega) (by omega)
        have b2 : fIv (-32768) (753664) (midF w) := fMid w (by omega)
        have b3 : fIv (-753664) (1605632) (FP.dsub (FP.i2d (nI x)) (midF w)) := fSub b1 b2 (by decide +kernel) (by decide +kernel) (by decide +kernel) (by decide +kernel)
        refine lv_dsub hx hb dX0_sampledRow_26 b3.n64 ?_
        refine lv_dload hx hb dX0_sampledRow_27 (lv_at hl 3 rfl) ?_
        have b4 : fIv (-1704465) (1704465) (FP.dmul (FP.dsub (FP.i2d (nI x)) (midF w)) c0) := fIv.mul (n := 1605632) (m := 69570) (k := 1704465) (b3.weak (by decide +kernel) (by decide +kernel) (by decide +kernel) (by decide +kernel)) (hc.weak (by decide +kernel) (by decide +kernel) (by decide +kernel) (by decide +kernel)) (by decide +kernel) (by decide +kernel)
        refine lv_dmul hx hb dX0_sampledRow_29 b4.n64 ?_
        have b5 : fIv (-1737233) (2458129) (FP.dadd (midF w) (FP.dmul (FP.dsub (FP.i2d (nI x)) (midF w)) c0)) := fAdd b2 b4 (by decide +kernel) (by decide +kernel) (by decide +kernel) (by decide +kernel)
        refine lv_dadd hx hb dX0_sampledRow_30 b5.n64 ?_
        refine lv_iload_n hx hb dX0_sampledRow_31 rfl (lv_at hl 1 rfl) ?_
        refine lv_i2d hx hb dX0_sampledRow_32 ?_
        refine lv_aload_n hx hb dX0_sampledRow_33 rfl (lv_at hl 0 rfl) ?_
        refine va_get (D := G) (ci := 0) (v := .double (midF h)) (C := RX0) (T := TX0) (N := 6) hx hb hts in_kX0_sampledRow_X0 hown hK hP 0 rfl rfl 3 (by decide) (hts _ fl_kX0_sampledRow_24) (fun _ h9 => h9) rfl dX0_sampledRow_34 ?_
        have b6 : fIv (0) (1572864) (FP.i2d (nI y)) := fIvN (k := 24) (by omega) (by omega)
        have b7 : fIv (-32768) (753664) (midF h) := fMid h (by omega)
        have b8 : fIv (-753664) (1605632) (FP.dsub (FP.i2d (nI y)) (midF h)) := fSub b6 b7 (by decide +kernel) (by decide +kernel) (by decide +kernel) (by decide +kernel)
        refine lv_dsub hx hb dX0_sampledRow_37 b8.n64 ?_
        refine lv_dload_n hx hb dX0_sampledRow_38 rfl (lv_at hl 2 rfl) ?_
        have b9 : fIv (-584448) (584448) (FP.dmul (FP.dsub (FP.i2d (nI y)) (midF h)) s0) := fIv.mul (n := 1605632) (m := 23855) (k := 584448) (b8.weak (by decide +kernel) (by decide +kernel) (by decide +kernel) (by decide +kernel)) hs (by decide +kernel) (by decide +kernel)
        refine lv_dmul hx hb dX0_sampledRow_39 b9.n64 ?_
        have b10 : fIv (-2321681) (3042577) (FP.dadd (FP.dadd (midF w) (FP.dmul (FP.dsub (FP.i2d (nI x)) (midF w)) c0)) (FP.dmul (FP.dsub (FP.i2d (nI y)) (midF h)) s0)) := fAdd b5 b9 (by decide +kernel) (by decide +kernel) (by decide +kernel) (by decide +kernel)
        refine lv_dadd hx hb dX0_sampledRow_40 b10.n64 ?_
        have b11 : fIv (-2288913) (3075345) (FP.dadd (FP.dadd (FP.dadd (midF w) (FP.dmul (FP.dsub (FP.i2d (nI x)) (midF w)) c0)) (FP.dmul (FP.dsub (FP.i2d (nI y)) (midF h)) s0)) 4602678819172646912) := fAdd b10 fHalf (by decide +kernel) (by decide +kernel) (by decide +kernel) (by decide +kernel)
        refine kSi (rest := []) (kX1_whole l G cI cZ cJ cD (FP.dadd (FP.dadd (midF w) (FP.dmul (FP.dsub (FP.i2d (nI x)) (midF w)) c0)) (FP.dmul (FP.dsub (FP.i2d (nI y)) (midF h)) s0)) (-2288913) (3075345) b11) ⟨hx, hb, hml, hown, hts⟩ (va_cwS 1 hts gX0_sampledRow_X1_whole rfl rfl rfl hs_X1_whole ⟨Nat.le_of_ble_eq_true rfl, Nat.le_of_ble_eq_true rfl⟩) hK hP hD hS hA rfl hl.1 rfl (Nat.le_of_ble_eq_true rfl) dX0_sampledRow_41 ⟨Nat.le_of_ble_eq_true rfl, Nat.le_of_ble_eq_true rfl⟩ rfl rfl (fun H locs hP hD hS => ?_)
        refine lv_istore (lv' := [(8, .int (wholeF (FP.dadd (FP.dadd (midF w) (FP.dmul (FP.dsub (FP.i2d (nI x)) (midF w)) c0)) (FP.dmul (FP.dsub (FP.i2d (nI y)) (midF h)) s0)))), (0, .ref h0), (1, .int (nI y)), (2, .double s0), (4, .double c0), (6, .int (smpN w h O s0 c0 y x)), (7, .int (nI x))]) hx hb dX0_sampledRow_44 hl (by decide) rfl (fun ls hl => ?_)
        refine lv_aload_n hx hb dX0_sampledRow_46 rfl (lv_at hl 1 rfl) ?_
        refine va_get (D := G) (ci := 0) (v := .double (midF h)) (C := RX0) (T := TX0) (N := 6) hx hb hts in_kX0_sampledRow_X0 hown hK hP 0 rfl rfl 3 (by decide) (hts _ fl_kX0_sampledRow_24) (fun _ h9 => h9) rfl dX0_sampledRow_47 ?_
        refine lv_iload hx hb dX0_sampledRow_50 (lv_at hl 6 rfl) ?_
        refine lv_i2d hx hb dX0_sampledRow_52 ?_
        refine lv_aload_n hx hb dX0_sampledRow_53 rfl (lv_at hl 1 rfl) ?_
        refine va_get (D := G) (ci := 0) (v := .double (midF w)) (C := RX0) (T := TX0) (N := 6) hx hb hts in_kX0_sampledRow_X0 hown hK hP 0 rfl rfl 2 (by decide) (hts _ fl_kX0_sampledRow_20) (fun _ h9 => h9) rfl dX0_sampledRow_54 ?_
        refine lv_dsub hx hb dX0_sampledRow_57 b3.n64 ?_
        refine lv_dload_n hx hb dX0_sampledRow_58 rfl (lv_at hl 3 rfl) ?_
        have b12 : fIv (-584448) (584448) (FP.dmul (FP.dsub (FP.i2d (nI x)) (midF w)) s0) := fIv.mul (n := 1605632) (m := 23855) (k := 584448) (b3.weak (by decide +kernel) (by decide +kernel) (by decide +kernel) (by decide +kernel)) hs (by decide +kernel) (by decide +kernel)
        refine lv_dmul hx hb dX0_sampledRow_59 b12.n64 ?_
        have b13 : fIv (-617216) (1338112) (FP.dsub (midF h) (FP.dmul (FP.dsub (FP.i2d (nI x)) (midF w)) s0)) := fSub b7 b12 (by decide +kernel) (by decide +kernel) (by decide +kernel) (by decide +kernel)
        refine lv_dsub hx hb dX0_sampledRow_60 b13.n64 ?_
        refine lv_iload_n hx hb dX0_sampledRow_61 rfl (lv_at hl 2 rfl) ?_
        refine lv_i2d hx hb dX0_sampledRow_62 ?_
        refine lv_aload_n hx hb dX0_sampledRow_63 rfl (lv_at hl 1 rfl) ?_
        refine va_get (D := G) (ci := 0) (v := .double (midF h)) (C := RX0) (T := TX0) (N := 6) hx hb hts in_kX0_sampledRow_X0 hown hK hP 0 rfl rfl 3 (by decide) (hts _ fl_kX0_sampledRow_24) (fun _ h9 => h9) rfl dX0_sampledRow_64 ?_
        refine lv_dsub hx hb dX0_sampledRow_67 b8.n64 ?_
        refine lv_dload hx hb dX0_sampledRow_68 (lv_at hl 4 rfl) ?_
        have b14 : fIv (-1704465) (1704465) (FP.dmul (FP.dsub (FP.i2d (nI y)) (midF h)) c0) := fIv.mul (n := 1605632) (m := 69570) (k := 1704465) (b8.weak (by decide +kernel) (by decide +kernel) (by decide +kernel) (by decide +kernel)) (hc.weak (by decide +kernel) (by decide +kernel) (by decide +kernel) (by decide +kernel)) (by decide +kernel) (by decide +kernel)
        refine lv_dmul hx hb dX0_sampledRow_70 b14.n64 ?_
        have b15 : fIv (-2321681) (3042577) (FP.dadd (FP.dsub (midF h) (FP.dmul (FP.dsub (FP.i2d (nI x)) (midF w)) s0)) (FP.dmul (FP.dsub (FP.i2d (nI y)) (midF h)) c0)) := fAdd b13 b14 (by decide +kernel) (by decide +kernel) (by decide +kernel) (by decide +kernel)
        refine lv_dadd hx hb dX0_sampledRow_71 b15.n64 ?_
        have b16 : fIv (-2288913) (3075345) (FP.dadd (FP.dadd (FP.dsub (midF h) (FP.dmul (FP.dsub (FP.i2d (nI x)) (midF w)) s0)) (FP.dmul (FP.dsub (FP.i2d (nI y)) (midF h)) c0)) 4602678819172646912) := fAdd b15 fHalf (by decide +kernel) (by decide +kernel) (by decide +kernel) (by decide +kernel)
        refine kSi (rest := []) (kX1_whole l G cI cZ cJ cD (FP.dadd (FP.dsub (midF h) (FP.dmul (FP.dsub (FP.i2d (nI x)) (midF w)) s0)) (FP.dmul (FP.dsub (FP.i2d (nI y)) (midF h)) c0)) (-2288913) (3075345) b16) ⟨hx, hb, hml, hown, hts⟩ (va_cwS 1 hts gX0_sampledRow_X1_whole rfl rfl rfl hs_X1_whole ⟨Nat.le_of_ble_eq_true rfl, Nat.le_of_ble_eq_true rfl⟩) hK hP hD hS hA rfl hl.1 rfl (Nat.le_of_ble_eq_true rfl) dX0_sampledRow_72 ⟨Nat.le_of_ble_eq_true rfl, Nat.le_of_ble_eq_true rfl⟩ rfl rfl (fun H locs hP hD hS => ?_)
        refine lv_istore (lv' := [(9, .int (wholeF (FP.dadd (FP.dsub (midF h) (FP.dmul (FP.dsub (FP.i2d (nI x)) (midF w)) s0)) (FP.dmul (FP.dsub (FP.i2d (nI y)) (midF h)) c0)))), (8, .int (wholeF (FP.dadd (FP.dadd (midF w) (FP.dmul (FP.dsub (FP.i2d (nI x)) (midF w)) c0)) (FP.dmul (FP.dsub (FP.i2d (nI y)) (midF h)) s0)))), (0, .ref h0), (1, .int (nI y)), (2, .double s0), (4, .double c0), (6, .int (smpN w h O s0 c0 y x)), (7, .int (nI x))]) hx hb dX0_sampledRow_75 hl (by decide) rfl (fun ls hl => ?_)
        refine lv_aload_n hx hb dX0_sampledRow_77 rfl (lv_at hl 2 rfl) ?_
        refine lv_iload hx hb dX0_sampledRow_78 (lv_at hl 1 rfl) ?_
        refine lv_iload hx hb dX0_sampledRow_80 (lv_at hl 0 rfl) ?_
        refine kVi (w' := [(h0, .inr (0, [.int (nI w), .int (nI h), .double (midF w), .double (midF h), .ref q1, .ref q2])), (q1, .inl (cI, 24, .inl B)), (q2, .inl (cI, 24, .inl O))]) (wr := []) (isC := [0, 1, 2]) (isR := []) (pm := [0, 1, 2]) (rest := []) (kX0_has l G cI cZ cJ cD h0 q1 q2 w h hw hh B O (wholeF (FP.dadd (FP.dadd (midF w) (FP.dmul (FP.dsub (FP.i2d (nI x)) (midF w)) c0)) (FP.dmul (FP.dsub (FP.i2d (nI y)) (midF h)) s0))) (wholeF (FP.dadd (FP.dsub (midF h) (FP.dmul (FP.dsub (FP.i2d (nI x)) (midF w)) s0)) (FP.dmul (FP.dsub (FP.i2d (nI y)) (midF h)) c0)))) ⟨hx, hb, hml, hown, hts⟩ (cwV 2 hts gX0_sampledRow_X0_has rfl rfl rfl hd_X0_has ⟨Nat.le_of_ble_eq_true rfl, Nat.le_of_ble_eq_true rfl⟩) hK hP hD hS hA ⟨rfl, rfl, rfl, by decide, rfl, rfl, rfl⟩ 0 0 rfl rfl rfl hl.1 rfl (Nat.le_of_ble_eq_true rfl) dX0_sampledRow_82 ⟨Nat.le_of_ble_eq_true rfl, Nat.le_of_ble_eq_true rfl⟩ rfl rfl (fun H locs hP hD hS => ?_)
        refine kIfEqB (tgt := 111) hx hb dX0_sampledRow_85 (by decide) (fun c_85 => ?_) (fun c_85 => ?_)
        · have hE : smpN w h O s0 c0 y x = smpN w h O s0 c0 y (x + 1) := (smpN_f w h O s0 c0 y x (smpB_f1 c_85)).symm
          rw [hE] at hl
          refine lv_iinc (v := nI (x + 1)) (lv' := [(7, .int (nI (x + 1))), (9, .int (wholeF (FP.dadd (FP.dsub (midF h) (FP.dmul (FP.dsub (FP.i2d (nI x)) (midF w)) s0)) (FP.dmul (FP.dsub (FP.i2d (nI y)) (midF h)) c0)))), (8, .int (wholeF (FP.dadd (FP.dadd (midF w) (FP.dmul (FP.dsub (FP.i2d (nI x)) (midF w)) c0)) (FP.dmul (FP.dsub (FP.i2d (nI y)) (midF h)) s0)))), (0, .ref h0), (1, .int (nI y)), (2, .double s0), (4, .double c0), (6, .int (smpN w h O s0 c0 y (x + 1)))]) hx hb dX0_sampledRow_111 hl (k := 7) rfl (nI_1 _) (by decide) rfl (fun ls hl => ?_)
          refine lv_goto (tgt := 6) hx hb dX0_sampledRow_114 (by decide) ?_
          exact ih6 (x + 1) (by omega) (by omega) _ _ hP hD hS _ (lv_sub hl [3, 4, 5, 6, 7, 0] rfl)
        · refine lv_aload_n hx hb dX0_sampledRow_88 rfl (lv_at hl 2 rfl) ?_
          refine lv_iload hx hb dX0_sampledRow_89 (lv_at hl 0 rfl) ?_
          refine kVi (w' := [(h0, .inr (0, [.int (nI w), .int (nI h), .double (midF w), .double (midF h), .ref q1, .ref q2])), (q1, .inl (cI, 24, .inl B)), (q2, .inl (cI, 24, .inl O))]) (wr := []) (isC := [0, 1, 2]) (isR := []) (pm := [0, 1, 2]) (rest := []) (kX0_oldRowBits l G cI cZ cJ cD h0 q1 q2 w h hw hh B O (wholeF (FP.dadd (FP.dsub (midF h) (FP.dmul (FP.dsub (FP.i2d (nI x)) (midF w)) s0)) (FP.dmul (FP.dsub (FP.i2d (nI y)) (midF h)) c0)))) ⟨hx, hb, hml, hown, hts⟩ (cwV 1 hts gX0_sampledRow_X0_oldRowBits rfl rfl rfl hd_X0_oldRowBits ⟨Nat.le_of_ble_eq_true rfl, Nat.le_of_ble_eq_true rfl⟩) hK hP hD hS hA ⟨rfl, rfl, rfl, by decide, rfl, rfl, rfl⟩ 0 0 rfl rfl rfl hl.1 rfl (Nat.le_of_ble_eq_true rfl) dX0_sampledRow_91 ⟨Nat.le_of_ble_eq_true rfl, Nat.le_of_ble_eq_true rfl⟩ rfl rfl (fun H locs hP hD hS => ?_)
          refine lv_iload hx hb dX0_sampledRow_94 (lv_at hl 1 rfl) ?_
          refine lv_iushr (v := sUshr (rowF O (wholeF (FP.dadd (FP.dsub (midF h) (FP.dmul (FP.dsub (FP.i2d (nI x)) (midF w)) s0)) (FP.dmul (FP.dsub (FP.i2d (nI y)) (midF h)) c0)))) (wholeF (FP.dadd (FP.dadd (midF w) (FP.dmul (FP.dsub (FP.i2d (nI x)) (midF w)) c0)) (FP.dmul (FP.dsub (FP.i2d (nI y)) (midF h)) s0)))) hx hb dX0_sampledRow_96 rfl ?_
          refine lv_iconst (v := 1) hx hb dX0_sampledRow_97 (by decide) ?_
          refine lv_iand hx hb dX0_sampledRow_98 ?_
          refine lv_if_eq (tgt := 111) hx hb dX0_sampledRow_99 (by decide) (fun c_99 => ?_) (fun c_99 => ?_)
          · have hE : smpN w h O s0 c0 y x = smpN w h O s0 c0 y (x + 1) := (smpN_f w h O s0 c0 y x (smpB_f2 c_85 c_99)).symm
            rw [hE] at hl
            refine lv_iinc (v := nI (x + 1)) (lv' := [(7, .int (nI (x + 1))), (9, .int (wholeF (FP.dadd (FP.dsub (midF h) (FP.dmul (FP.dsub (FP.i2d (nI x)) (midF w)) s0)) (FP.dmul (FP.dsub (FP.i2d (nI y)) (midF h)) c0)))), (8, .int (wholeF (FP.dadd (FP.dadd (midF w) (FP.dmul (FP.dsub (FP.i2d (nI x)) (midF w)) c0)) (FP.dmul (FP.dsub (FP.i2d (nI y)) (midF h)) s0)))), (0, .ref h0), (1, .int (nI y)), (2, .double s0), (4, .double c0), (6, .int (smpN w h O s0 c0 y (x + 1)))]) hx hb dX0_sampledRow_111 hl (k := 7) rfl (nI_1 _) (by decide) rfl (fun ls hl => ?_)
            refine lv_goto (tgt := 6) hx hb dX0_sampledRow_114 (by decide) ?_
            exact ih6 (x + 1) (by omega) (by omega) _ _ hP hD hS _ (lv_sub hl [3, 4, 5, 6, 7, 0] rfl)
          · refine lv_iload hx hb dX0_sampledRow_102 (lv_at hl 6 rfl) ?_
            refine lv_iconst (v := 1) hx hb dX0_sampledRow_104 (by decide) ?_
            refine lv_iload hx hb dX0_sampledRow_105 (lv_at hl 7 rfl) ?_
            refine lv_ishl hx hb dX0_sampledRow_107 ?_
            refine lv_ior hx hb dX0_sampledRow_108 ?_
            refine lv_istore (lv' := [(6, .int ((smpN w h O s0 c0 y x) ||| (1 <<< ((nI x) &&& 31)))), (9, .int (wholeF (FP.dadd (FP.dsub (midF h) (FP.dmul (FP.dsub (FP.i2d (nI x)) (midF w)) s0)) (FP.dmul (FP.dsub (FP.i2d (nI y)) (midF h)) c0)))), (8, .int (wholeF (FP.dadd (FP.dadd (midF w) (FP.dmul (FP.dsub (FP.i2d (nI x)) (midF w)) c0)) (FP.dmul (FP.dsub (FP.i2d (nI y)) (midF h)) s0)))), (0, .ref h0), (1, .int (nI y)), (2, .double s0), (4, .double c0), (7, .int (nI x))]) hx hb dX0_sampledRow_109 hl (by decide) rfl (fun ls hl => ?_)
            have hE : (smpN w h O s0 c0 y x) ||| (1 <<< ((nI x) &&& 31)) = smpN w h O s0 c0 y (x + 1) := (smpN_t w h O s0 c0 y x (smpB_t c_85 c_99)).symm
            rw [hE] at hl
            refine lv_iinc (v := nI (x + 1)) (lv' := [(7, .int (nI (x + 1))), (6, .int (smpN w h O s0 c0 y (x + 1))), (9, .int (wholeF (FP.dadd (FP.dsub (midF h) (FP.dmul (FP.dsub (FP.i2d (nI x)) (midF w)) s0)) (FP.dmul (FP.dsub (FP.i2d (nI y)) (midF h)) c0)))), (8, .int (wholeF (FP.dadd (FP.dadd (midF w) (FP.dmul (FP.dsub (FP.i2d (nI x)) (midF w)) c0)) (FP.dmul (FP.dsub (FP.i2d (nI y)) (midF h)) s0)))), (0, .ref h0), (1, .int (nI y)), (2, .double s0), (4, .double c0)]) hx hb dX0_sampledRow_111 hl (k := 7) rfl (nI_1 _) (by decide) rfl (fun ls hl => ?_)
            refine lv_goto (tgt := 6) hx hb dX0_sampledRow_114 (by decide) ?_
            exact ih6 (x + 1) (by omega) (by omega) _ _ hP hD hS _ (lv_sub hl [4, 5, 6, 7, 1, 0] rfl)
  exact K6 (w - 0 + 1) 0 (by omega) (by omega) _ _ hP hD hS _ (lv_sub hl [2, 3, 4, 5, 1, 0] rfl)
theorem in_kX0_turnBySampling_X0 : ∀ w ∈ u_ws RX0 TX0 6, w ∈ wsX0_turnBySampling := by decide +kernel
theorem fl_kX0_turnBySampling_15 : Cond.fieldLink RX0 15 "SkewFind$Picture" "height" "I" ∈ wsX0_turnBySampling := by decide +kernel
abbrev rmX0_turnBySampling : Room := { frames := 2, cells := 0, slots := 0, locals := 53 }
set_option maxRecDepth 100000 in
set_option maxHeartbeats 4000000 in
theorem kX0_turnBySampling (l : Launch) (G : va_G) (cI cZ cJ cD : ClassId) (h0 q1 q2 w h : Nat) (hw : w ≤ 24) (hh : h ≤ 24) (B O : Nat → Int32) (a : Int32) (ha1 : -2000 ≤ a.toInt) (ha2 : a.toInt ≤ 2000) : Cv l G (kTy cI cZ cJ cD) yX0_turnBySampling wsX0_turnBySampling rmX0_turnBySampling [.ref h0, .int a] [(h0, .inr (0, [.int (nI w), .int (nI h), .double (midF w), .double (midF h), .ref q1, .ref q2])), (q1, .inl (cI, 24, .inl B)), (q2, .inl (cI, 24, .inl O))] [(h0, .inr (0, [.int (nI w), .int (nI h), .double (midF w), .double (midF h), .ref q1, .ref q2])), (q1, .inl (cI, 24, .inl (smpR w h a B O))), (q2, .inl (cI, 24, .inl (keepN B O)))] := by
  refine Cv.of rfl rfl (cc := cX0_turnBySampling) (maxL := 7) (plainFor_of_name (by decide)) rfl (Nat.le_of_ble_eq_true rfl) rfl ?_
  intro p e s m args below meth c A Q hx hb hml hts hown hA hK hP hD hS hend ls hl
  refine lv_iload_n hx hb dX0_turnBySampling_0 rfl (lv_at hl 1 rfl) ?_
  refine lv_i2d hx hb dX0_turnBySampling_1 ?_
  have b1 : fIv (-131072000) (131072000) (FP.i2d a) := fIv.i2d_in (k := 2000) ha1 ha2 (by decide)
  refine kSd (rest := []) (kX1_sine l G cI cZ cJ cD (FP.i2d a) b1) ⟨hx, hb, hml, hown, hts⟩ (va_cwS 1 hts gX0_turnBySampling_X1_sine rfl rfl rfl hs_X1_sine ⟨Nat.le_of_ble_eq_true rfl, Nat.le_of_ble_eq_true rfl⟩) hK hP hD hS hA rfl hl.1 rfl (Nat.le_of_ble_eq_true rfl) dX0_turnBySampling_2 ⟨Nat.le_of_ble_eq_true rfl, Nat.le_of_ble_eq_true rfl⟩ rfl rfl (fun H locs hP hD hS => ?_)
  have b2 : fIv (-23345) (23345) (sineF (FP.i2d a)) := fSine b1
  refine lv_dstore_n (lv' := [(2, .double (sineF (FP.i2d a))), (0, .ref h0), (1, .int a)]) hx hb dX0_turnBySampling_5 rfl hl (by decide) rfl (fun ls hl => ?_)
  refine lv_iload_n hx hb dX0_turnBySampling_6 rfl (lv_at hl 2 rfl) ?_
  refine lv_i2d hx hb dX0_turnBySampling_7 ?_
  refine kSd (rest := []) (kX1_cosine l G cI cZ cJ cD (FP.i2d a) b1) ⟨hx, hb, hml, hown, hts⟩ (va_cwS 1 hts gX0_turnBySampling_X1_cosine rfl rfl rfl hs_X1_cosine ⟨Nat.le_of_ble_eq_true rfl, Nat.le_of_ble_eq_true rfl⟩) hK hP hD hS hA rfl hl.1 rfl (Nat.le_of_ble_eq_true rfl) dX0_turnBySampling_8 ⟨Nat.le_of_ble_eq_true rfl, Nat.le_of_ble_eq_true rfl⟩ rfl rfl (fun H locs hP hD hS => ?_)
  have b3 : fIv (61502) (69570) (cosF (FP.i2d a)) := fCos b1
  refine lv_dstore (lv' := [(4, .double (cosF (FP.i2d a))), (2, .double (sineF (FP.i2d a))), (0, .ref h0), (1, .int a)]) hx hb dX0_turnBySampling_11 hl (by decide) rfl (fun ls hl => ?_)
  refine lv_aload_n hx hb dX0_turnBySampling_13 rfl (lv_at hl 2 rfl) ?_
  refine kVv (w' := [(h0, .inr (0, [.int (nI w), .int (nI h), .double (midF w), .double (midF h), .ref q1, .ref q2])), (q1, .inl (cI, 24, .inl B)), (q2, .inl (cI, 24, .inl (mapN (fun k _ => B k) O 24)))]) (wr := []) (isC := [0, 1, 2]) (isR := []) (pm := [0, 1, 2]) (rest := []) (kX0_keepOldBits l G cI cZ cJ cD h0 q1 q2 w h hw hh B O ) ⟨hx, hb, hml, hown, hts⟩ (cwV 0 hts gX0_turnBySampling_X0_keepOldBits rfl rfl rfl hd_X0_keepOldBits ⟨Nat.le_of_ble_eq_true rfl, Nat.le_of_ble_eq_true rfl⟩) hK hP hD hS hA ⟨rfl, rfl, rfl, by decide, rfl, rfl, rfl⟩ 0 0 rfl rfl rfl hl.1 rfl (Nat.le_of_ble_eq_true rfl) dX0_turnBySampling_14 ⟨Nat.le_of_ble_eq_true rfl, Nat.le_of_ble_eq_true rfl⟩ rfl rfl (fun H locs hP hD hS => ?_)
  refine lv_iconst (v := 0) hx hb dX0_turnBySampling_17 (by decide) ?_
  refine lv_istore (lv' := [(6, .int 0), (4, .double (cosF (FP.i2d a))), (2, .double (sineF (FP.i2d a))), (0, .ref h0), (1, .int a)]) hx hb dX0_turnBySampling_18 hl (by decide) rfl (fun ls hl => ?_)
  have K20 : ∀ (n20 : Nat) (i : Nat), h - i < n20 → (i ≤ h) → ∀ (H : Heap) (locs : List Loc), va_P G vwCl [(h0, .inr (0, [.int (nI w), .int (nI h), .double (midF w), .double (midF h), .ref q1, .ref q2])), (q1, .inl (cI, 24, .inl (mapN (fun k _ => smpN w h (keepN B O) (angS a) (angC a) k w) B i))), (q2, .inl (cI, 24, .inl (keepN B O)))] H → va_D A [(h0, .inr (0, [.int (nI w), .int (nI h), .double (midF w), .double (midF h), .ref q1, .ref q2])), (q1, .inl (cI, 24, .inl (mapN (fun k _ => smpN w h (keepN B O) (angS a) (angC a) k w) B i))), (q2, .inl (cI, 24, .inl (keepN B O)))] → va_S A s.heap H locs → ∀ ls : Array Slot, lv_has ls 7 [(0, .ref h0), (1, .int a), (2, .double (sineF (FP.i2d a))), (4, .double (cosF (FP.i2d a))), (6, .int (nI i))] → W p l e rmX0_turnBySampling s m args below meth c H locs 0 0 Q (F0 m 20 ls []) := by
    intro n20
    induction n20 with
    | zero => intro i hn; exact absurd hn (by omega)
    | succ n20 ih20 =>
      intro i hn20 hi H locs hP hD hS ls hl
      refine lv_iload hx hb dX0_turnBySampling_20 (lv_at hl 4 rfl) ?_
      refine lv_aload_n hx hb dX0_turnBySampling_22 rfl (lv_at hl 0 rfl) ?_
      refine va_get (D := G) (ci := 0) (v := .int (nI h)) (C := RX0) (T := TX0) (N := 6) hx hb hts in_kX0_turnBySampling_X0 hown hK hP 0 rfl rfl 1 (by decide) (hts _ fl_kX0_turnBySampling_15) (fun _ h9 => h9) rfl dX0_turnBySampling_23 ?_
      refine kGe (by omega) (by omega) (tgt := 50) hx hb dX0_turnBySampling_26 (by decide) (fun c_26 => ?_) (fun c_26 => ?_)
      · have e9 : h = i := by omega
        subst e9
        exact hend _ _ _ _ _ dX0_turnBySampling_50 hP hD hS rfl
      · refine lv_aload_n hx hb dX0_turnBySampling_29 rfl (lv_at hl 0 rfl) ?_
        refine lv_iload hx hb dX0_turnBySampling_30 (lv_at hl 4 rfl) ?_
        refine lv_aload_n hx hb dX0_turnBySampling_32 rfl (lv_at hl 0 rfl) ?_
        refine lv_iload hx hb dX0_turnBySampling_33 (lv_at hl 4 rfl) ?_
        refine lv_dload_n hx hb dX0_turnBySampling_35 rfl (lv_at hl 2 rfl) ?_
        refine lv_dload hx hb dX0_turnBySampling_36 (lv_at hl 3 rfl) ?_
        refine kVi (w' := [(h0, .inr (0, [.int (nI w), .int (nI h), .double (midF w), .double (midF h), .ref q1, .ref q2])), (q1, .inl (cI, 24, .inl (mapN (fun k _ => smpN w h (keepN B O) (angS a) (angC a) k w) B i))), (q2, .inl (cI, 24, .inl (keepN B O)))]) (wr := []) (isC := [0, 1, 2]) (isR := []) (pm := [0, 1, 2]) (rest := [.int (nI i), .ref h0]) (kX0_sampledRow l G cI cZ cJ cD h0 q1 q2 w h hw hh (mapN (fun k _ => smpN w h (keepN B O) (angS a) (angC a) k w) B i) (keepN B O) i (by omega) (sineF (FP.i2d a)) ((b2.weak (by decide +kernel) (by decide +kernel) (by decide +kernel) (by decide +kernel))) (cosF (FP.i2d a)) b3) ⟨hx, hb, hml, hown, hts⟩ (cwV 3 hts gX0_turnBySampling_X0_sampledRow rfl rfl rfl hd_X0_sampledRow ⟨Nat.le_of_ble_eq_true rfl, Nat.le_of_ble_eq_true rfl⟩) hK hP hD hS hA ⟨rfl, rfl, rfl, by decide, rfl, rfl, rfl⟩ 0 0 rfl rfl rfl hl.1 rfl (Nat.le_of_ble_eq_true rfl) dX0_turnBySampling_38 ⟨Nat.le_of_ble_eq_true rfl, Nat.le_of_ble_eq_true rfl⟩ rfl rfl (fun H locs hP hD hS => ?_)
        refine kVv (w' := [(h0, .inr (0, [.int (nI w), .int (nI h), .double (midF w), .double (midF h), .ref q1, .ref q2])), (q1, .inl (cI, 24, .inl (setF (mapN (fun k _ => smpN w h (keepN B O) (angS a) (angC a) k w) B i) (nI i) (smpN w h (keepN B O) (sineF (FP.i2d a)) (cosF (FP.i2d a)) i w)))), (q2, .inl (cI, 24, .inl (keepN B O)))]) (wr := []) (isC := [0, 1, 2]) (isR := []) (pm := [0, 1, 2]) (rest := []) (kX0_setRowBits l G cI cZ cJ cD h0 q1 q2 w h hw hh (mapN (fun k _ => smpN w h (keepN B O) (angS a) (angC a) k w) B i) (keepN B O) (nI i) (smpN w h (keepN B O) (sineF (FP.i2d a)) (cosF (FP.i2d a)) i w)) ⟨hx, hb, hml, hown, hts⟩ (cwV 2 hts gX0_turnBySampling_X0_setRowBits rfl rfl rfl hd_X0_setRowBits ⟨Nat.le_of_ble_eq_true rfl, Nat.le_of_ble_eq_true rfl⟩) hK hP hD hS hA ⟨rfl, rfl, rfl, by decide, rfl, rfl, rfl⟩ 0 0 rfl rfl rfl hl.1 rfl (Nat.le_of_ble_eq_true rfl) dX0_turnBySampling_41 ⟨Nat.le_of_ble_eq_true rfl, Nat.le_of_ble_eq_true rfl⟩ rfl rfl (fun H locs hP hD hS => ?_)
        have hE : setF (mapN (fun k _ => smpN w h (keepN B O) (angS a) (angC a) k w) B i) (nI i) (smpN w h (keepN B O) (sineF (FP.i2d a)) (cosF (FP.i2d a)) i w) = upd (mapN (fun k _ => smpN w h (keepN B O) (angS a) (angC a) k w) B i) i (smpN w h (keepN B O) (angS a) (angC a) i w) := setF_nI _ _ (by omega)
        rw [hE] at hP hD
        have hE : upd (mapN (fun k _ => smpN w h (keepN B O) (angS a) (angC a) k w) B i) i (smpN w h (keepN B O) (angS a) (angC a) i w) = mapN (fun k _ => smpN w h (keepN B O) (angS a) (angC a) k w) B (i + 1) := mapN_s (fun k _ => smpN w h (keepN B O) (angS a) (angC a) k w) B i
        rw [hE] at hP hD
        refine lv_iinc (v := nI (i + 1)) (lv' := [(6, .int (nI (i + 1))), (0, .ref h0), (1, .int a), (2, .double (sineF (FP.i2d a))), (4, .double (cosF (FP.i2d a)))]) hx hb dX0_turnBySampling_44 hl (k := 4) rfl (nI_1 _) (by decide) rfl (fun ls hl => ?_)
        refine lv_goto (tgt := 20) hx hb dX0_turnBySampling_47 (by decide) ?_
        exact ih20 (i + 1) (by omega) (by omega) _ _ hP hD hS _ (lv_sub hl [1, 2, 3, 4, 0] rfl)
  exact K20 (h - 0 + 1) 0 (by omega) (by omega) _ _ (by rw [mapN_0]; exact hP) (by rw [mapN_0]; exact hD) hS _ (lv_sub hl [3, 4, 2, 1, 0] rfl)
theorem wd_kX0_shearAll_c18 : Cond.constantDouble RX0 18 (4611686018427387904) ∈ wsX0_shearAll := by decide +kernel
abbrev rmX0_shearAll : Room := { frames := 4, cells := 0, slots := 0, locals := 91 }
set_option maxRecDepth 100000 in
set_option maxHeartbeats 4000000 in
theorem kX0_shearAll (l : Launch) (G : va_G) (cI cZ cJ cD : ClassId) (h0 q1 q2 w h : Nat) (hw : w ≤ 24) (hh : h ≤ 24) (B O : Nat → Int32) (a : Int32) (ha1 : -2000 ≤ a.toInt) (ha2 : a.toInt ≤ 2000) (dir : Int32) : Cv l G (kTy cI cZ cJ cD) yX0_shearAll wsX0_shearAll rmX0_shearAll [.ref h0, .int a, .int dir] [(h0, .inr (0, [.int (nI w), .int (nI h), .double (midF w), .double (midF h), .ref q1, .ref q2])), (q1, .inl (cI, 24, .inl B)), (q2, .inl (cI, 24, .inl O))] [(h0, .inr (0, [.int (nI w), .int (nI h), .double (midF w), .double (midF h), .ref q1, .ref q2])), (q1, .inl (cI, 24, .inl (shrAB w h a dir B O))), (q2, .inl (cI, 24, .inl (shrAO w h a dir B O)))] := by
  refine Cv.of rfl rfl (cc := cX0_shearAll) (maxL := 7) (plainFor_of_name (by decide)) rfl (Nat.le_of_ble_eq_true rfl) rfl ?_
  intro p e s m args below meth c A Q hx hb hml hts hown hA hK hP hD hS hend ls hl
  refine lv_iload_n hx hb dX0_shearAll_0 rfl (lv_at hl 1 rfl) ?_
  refine lv_i2d hx hb dX0_shearAll_1 ?_
  refine lv_ldc2d (v := 4611686018427387904) hx hb hown (hts _ wd_kX0_shearAll_c18) dX0_shearAll_2 ?_
  have b1 : fIv (-131072000) (131072000) (FP.i2d a) := fIv.i2d_in (k := 2000) ha1 ha2 (by decide)
  have b2 : fIv (-65536000) (65536000) (FP.ddiv (FP.i2d a) 4611686018427387904) := fIv.div (n := 131072000) (L := 131072) (k := 65536000) b1 fc_4611686018427387904 (by decide +kernel) (by decide +kernel) (by decide +kernel)
  refine lv_ddiv hx hb dX0_shearAll_5 b2.n64 ?_
  refine kSd (rest := []) (kX1_slope l G cI cZ cJ cD (FP.ddiv (FP.i2d a) 4611686018427387904) ((b2.weak (by decide +kernel) (by decide +kernel) (by decide +kernel) (by decide +kernel)))) ⟨hx, hb, hml, hown, hts⟩ (va_cwS 1 hts gX0_shearAll_X1_slope rfl rfl rfl hs_X1_slope ⟨Nat.le_of_ble_eq_true rfl, Nat.le_of_ble_eq_true rfl⟩) hK hP hD hS hA rfl hl.1 rfl (Nat.le_of_ble_eq_true rfl) dX0_shearAll_6 ⟨Nat.le_of_ble_eq_true rfl, Nat.le_of_ble_eq_true rfl⟩ rfl rfl (fun H locs hP hD hS => ?_)
  have b3 : fIv (-23855) (23855) (slopeF (FP.ddiv (FP.i2d a) 4611686018427387904)) := fSlope ((b2.weak (by decide +kernel) (by decide +kernel) (by decide +kernel) (by decide +kernel)))
  refine lv_dstore_n (lv' := [(3, .double (slopeF (FP.ddiv (FP.i2d a) 4611686018427387904))), (0, .ref h0), (1, .int a), (2, .int dir)]) hx hb dX0_shearAll_9 rfl hl (by decide) rfl (fun ls hl => ?_)
  refine lv_iload_n hx hb dX0_shearAll_10 rfl (lv_at hl 2 rfl) ?_
  refine lv_i2d hx hb dX0_shearAll_11 ?_
  refine kSd (rest := []) (kX1_sine l G cI cZ cJ cD (FP.i2d a) b1) ⟨hx, hb, hml, hown, hts⟩ (va_cwS 1 hts gX0_shearAll_X1_sine rfl rfl rfl hs_X1_sine ⟨Nat.le_of_ble_eq_true rfl, Nat.le_of_ble_eq_true rfl⟩) hK hP hD hS hA rfl hl.1 rfl (Nat.le_of_ble_eq_true rfl) dX0_shearAll_12 ⟨Nat.le_of_ble_eq_true rfl, Nat.le_of_ble_eq_true rfl⟩ rfl rfl (fun H locs hP hD hS => ?_)
  have b4 : fIv (-23345) (23345) (sineF (FP.i2d a)) := fSine b1
  refine lv_dstore (lv' := [(5, .double (sineF (FP.i2d a))), (3, .double (slopeF (FP.ddiv (FP.i2d a) 4611686018427387904))), (0, .ref h0), (1, .int a), (2, .int dir)]) hx hb dX0_shearAll_15 hl (by decide) rfl (fun ls hl => ?_)
  refine lv_aload_n hx hb dX0_shearAll_17 rfl (lv_at hl 2 rfl) ?_
  refine lv_dload_n hx hb dX0_shearAll_18 rfl (lv_at hl 1 rfl) ?_
  refine lv_iload_n hx hb dX0_shearAll_19 rfl (lv_at hl 4 rfl) ?_
  refine kVv (w' := [(h0, .inr (0, [.int (nI w), .int (nI h), .double (midF w), .double (midF h), .ref q1, .ref q2])), (q1, .inl (cI, 24, .inl (shrR w h (slopeF (FP.ddiv (FP.i2d a) 4611686018427387904)) dir B))), (q2, .inl (cI, 24, .inl O))]) (wr := []) (isC := [0, 1, 2]) (isR := []) (pm := [0, 1, 2]) (rest := []) (kX0_shearRows l G cI cZ cJ cD h0 q1 q2 w h hw hh B O (slopeF (FP.ddiv (FP.i2d a) 4611686018427387904)) b3 dir) ⟨hx, hb, hml, hown, hts⟩ (cwV 2 hts gX0_shearAll_X0_shearRows rfl rfl rfl hd_X0_shearRows ⟨Nat.le_of_ble_eq_true rfl, Nat.le_of_ble_eq_true rfl⟩) hK hP hD hS hA ⟨rfl, rfl, rfl, by decide, rfl, rfl, rfl⟩ 0 0 rfl rfl rfl hl.1 rfl (Nat.le_of_ble_eq_true rfl) dX0_shearAll_20 ⟨Nat.le_of_ble_eq_true rfl, Nat.le_of_ble_eq_true rfl⟩ rfl rfl (fun H locs hP hD hS => ?_)
  refine lv_aload_n hx hb dX0_shearAll_23 rfl (lv_at hl 2 rfl) ?_
  refine lv_dload hx hb dX0_shearAll_24 (lv_at hl 0 rfl) ?_
  refine lv_iload_n hx hb dX0_shearAll_26 rfl (lv_at hl 4 rfl) ?_
  refine kVv (w' := [(h0, .inr (0, [.int (nI w), .int (nI h), .double (midF w), .double (midF h), .ref q1, .ref q2])), (q1, .inl (cI, 24, .inl (shrC w h (sineF (FP.i2d a)) dir (shrR w h (slopeF (FP.ddiv (FP.i2d a) 4611686018427387904)) dir B) O))), (q2, .inl (cI, 24, .inl (keepN (shrR w h (slopeF (FP.ddiv (FP.i2d a) 4611686018427387904)) dir B) O)))]) (wr := []) (isC := [0, 1, 2]) (isR := []) (pm := [0, 1, 2]) (rest := []) (kX0_shearColumns l G cI cZ cJ cD h0 q1 q2 w h hw hh (shrR w h (slopeF (FP.ddiv (FP.i2d a) 4611686018427387904)) dir B) O (sineF (FP.i2d a)) ((b4.weak (by decide +kernel) (by decide +kernel) (by decide +kernel) (by decide +kernel))) dir) ⟨hx, hb, hml, hown, hts⟩ (cwV 2 hts gX0_shearAll_X0_shearColumns rfl rfl rfl hd_X0_shearColumns ⟨Nat.le_of_ble_eq_true rfl, Nat.le_of_ble_eq_true rfl⟩) hK hP hD hS hA ⟨rfl, rfl, rfl, by decide, rfl, rfl, rfl⟩ 0 0 rfl rfl rfl hl.1 rfl (Nat.le_of_ble_eq_true rfl) dX0_shearAll_27 ⟨Nat.le_of_ble_eq_true rfl, Nat.le_of_ble_eq_true rfl⟩ rfl rfl (fun H locs hP hD hS => ?_)
  refine lv_aload_n hx hb dX0_shearAll_30 rfl (lv_at hl 2 rfl) ?_
  refine lv_dload_n hx hb dX0_shearAll_31 rfl (lv_at hl 1 rfl) ?_
  refine lv_iload_n hx hb dX0_shearAll_32 rfl (lv_at hl 4 rfl) ?_
  refine kVv (w' := [(h0, .inr (0, [.int (nI w), .int (nI h), .double (midF w), .double (midF h), .ref q1, .ref q2])), (q1, .inl (cI, 24, .inl (shrR w h (slopeF (FP.ddiv (FP.i2d a) 4611686018427387904)) dir (shrC w h (sineF (FP.i2d a)) dir (shrR w h (slopeF (FP.ddiv (FP.i2d a) 4611686018427387904)) dir B) O)))), (q2, .inl (cI, 24, .inl (keepN (shrR w h (slopeF (FP.ddiv (FP.i2d a) 4611686018427387904)) dir B) O)))]) (wr := []) (isC := [0, 1, 2]) (isR := []) (pm := [0, 1, 2]) (rest := []) (kX0_shearRows l G cI cZ cJ cD h0 q1 q2 w h hw hh (shrC w h (sineF (FP.i2d a)) dir (shrR w h (slopeF (FP.ddiv (FP.i2d a) 4611686018427387904)) dir B) O) (keepN (shrR w h (slopeF (FP.ddiv (FP.i2d a) 4611686018427387904)) dir B) O) (slopeF (FP.ddiv (FP.i2d a) 4611686018427387904)) b3 dir) ⟨hx, hb, hml, hown, hts⟩ (cwV 2 hts gX0_shearAll_X0_shearRows rfl rfl rfl hd_X0_shearRows ⟨Nat.le_of_ble_eq_true rfl, Nat.le_of_ble_eq_true rfl⟩) hK hP hD hS hA ⟨rfl, rfl, rfl, by decide, rfl, rfl, rfl⟩ 0 0 rfl rfl rfl hl.1 rfl (Nat.le_of_ble_eq_true rfl) dX0_shearAll_33 ⟨Nat.le_of_ble_eq_true rfl, Nat.le_of_ble_eq_true rfl⟩ rfl rfl (fun H locs hP hD hS => ?_)
  exact hend _ _ _ _ _ dX0_shearAll_36 hP hD hS rfl
abbrev rmX0_turnByShears : Room := { frames := 5, cells := 0, slots := 0, locals := 117 }
set_option maxRecDepth 100000 in
set_option maxHeartbeats 4000000 in
theorem kX0_turnByShears (l : Launch) (G : va_G) (cI cZ cJ cD : ClassId) (h0 q1 q2 w h : Nat) (hw : w ≤ 24) (hh : h ≤ 24) (B O : Nat → Int32) (a : Int32) (ha1 : -2000 ≤ a.toInt) (ha2 : a.toInt ≤ 2000) : Cv l G (kTy cI cZ cJ cD) yX0_turnByShears wsX0_turnByShears rmX0_turnByShears [.ref h0, .int a] [(h0, .inr (0, [.int (nI w), .int (nI h), .double (midF w), .double (midF h), .ref q1, .ref q2])), (q1, .inl (cI, 24, .inl B)), (q2, .inl (cI, 24, .inl O))] [(h0, .inr (0, [.int (nI w), .int (nI h), .double (midF w), .double (midF h), .ref q1, .ref q2])), (q1, .inl (cI, 24, .inl (shrAB w h a 1 B O))), (q2, .inl (cI, 24, .inl (shrAO w h a 1 B O)))] := by
  refine Cv.of rfl rfl (cc := cX0_turnByShears) (maxL := 2) (plainFor_of_name (by decide)) rfl (Nat.le_of_ble_eq_true rfl) rfl ?_
  intro p e s m args below meth c A Q hx hb hml hts hown hA hK hP hD hS hend ls hl
  refine lv_aload_n hx hb dX0_turnByShears_0 rfl (lv_at hl 0 rfl) ?_
  refine lv_iload_n hx hb dX0_turnByShears_1 rfl (lv_at hl 1 rfl) ?_
  refine lv_iconst (v := 1) hx hb dX0_turnByShears_2 (by decide) ?_
  refine kVv (w' := [(h0, .inr (0, [.int (nI w), .int (nI h), .double (midF w), .double (midF h), .ref q1, .ref q2])), (q1, .inl (cI, 24, .inl (shrAB w h a 1 B O))), (q2, .inl (cI, 24, .inl (shrAO w h a 1 B O)))]) (wr := []) (isC := [0, 1, 2]) (isR := []) (pm := [0, 1, 2]) (rest := []) (kX0_shearAll l G cI cZ cJ cD h0 q1 q2 w h hw hh B O a ha1 ha2 1) ⟨hx, hb, hml, hown, hts⟩ (cwV 2 hts gX0_turnByShears_X0_shearAll rfl rfl rfl hd_X0_shearAll ⟨Nat.le_of_ble_eq_true rfl, Nat.le_of_ble_eq_true rfl⟩) hK hP hD hS hA ⟨rfl, rfl, rfl, by decide, rfl, rfl, rfl⟩ 0 0 rfl rfl rfl hl.1 rfl (Nat.le_of_ble_eq_true rfl) dX0_turnByShears_3 ⟨Nat.le_of_ble_eq_true rfl, Nat.le_of_ble_eq_true rfl⟩ rfl rfl (fun H locs hP hD hS => ?_)
  exact hend _ _ _ _ _ dX0_turnByShears_6 hP hD hS rfl
abbrev rmX0_turnBackByShears : Room := { frames := 5, cells := 0, slots := 0, locals := 117 }
set_option maxRecDepth 100000 in
set_option maxHeartbeats 4000000 in
theorem kX0_turnBackByShears (l : Launch) (G : va_G) (cI cZ cJ cD : ClassId) (h0 q1 q2 w h : Nat) (hw : w ≤ 24) (hh : h ≤ 24) (B O : Nat → Int32) (a : Int32) (ha1 : -2000 ≤ a.toInt) (ha2 : a.toInt ≤ 2000) : Cv l G (kTy cI cZ cJ cD) yX0_turnBackByShears wsX0_turnBackByShears rmX0_turnBackByShears [.ref h0, .int a] [(h0, .inr (0, [.int (nI w), .int (nI h), .double (midF w), .double (midF h), .ref q1, .ref q2])), (q1, .inl (cI, 24, .inl B)), (q2, .inl (cI, 24, .inl O))] [(h0, .inr (0, [.int (nI w), .int (nI h), .double (midF w), .double (midF h), .ref q1, .ref q2])), (q1, .inl (cI, 24, .inl (shrAB w h a (-1) B O))), (q2, .inl (cI, 24, .inl (shrAO w h a (-1) B O)))] := by
  refine Cv.of rfl rfl (cc := cX0_turnBackByShears) (maxL := 2) (plainFor_of_name (by decide)) rfl (Nat.le_of_ble_eq_true rfl) rfl ?_
  intro p e s m args below meth c A Q hx hb hml hts hown hA hK hP hD hS hend ls hl
  refine lv_aload_n hx hb dX0_turnBackByShears_0 rfl (lv_at hl 0 rfl) ?_
  refine lv_iload_n hx hb dX0_turnBackByShears_1 rfl (lv_at hl 1 rfl) ?_
  refine lv_iconst (v := (-1)) hx hb dX0_turnBackByShears_2 (by decide) ?_
  refine kVv (w' := [(h0, .inr (0, [.int (nI w), .int (nI h), .double (midF w), .double (midF h), .ref q1, .ref q2])), (q1, .inl (cI, 24, .inl (shrAB w h a ((-1)) B O))), (q2, .inl (cI, 24, .inl (shrAO w h a ((-1)) B O)))]) (wr := []) (isC := [0, 1, 2]) (isR := []) (pm := [0, 1, 2]) (rest := []) (kX0_shearAll l G cI cZ cJ cD h0 q1 q2 w h hw hh B O a ha1 ha2 ((-1))) ⟨hx, hb, hml, hown, hts⟩ (cwV 2 hts gX0_turnBackByShears_X0_shearAll rfl rfl rfl hd_X0_shearAll ⟨Nat.le_of_ble_eq_true rfl, Nat.le_of_ble_eq_true rfl⟩) hK hP hD hS hA ⟨rfl, rfl, rfl, by decide, rfl, rfl, rfl⟩ 0 0 rfl rfl rfl hl.1 rfl (Nat.le_of_ble_eq_true rfl) dX0_turnBackByShears_3 ⟨Nat.le_of_ble_eq_true rfl, Nat.le_of_ble_eq_true rfl⟩ rfl rfl (fun H locs hP hD hS => ?_)
  exact hend _ _ _ _ _ dX0_turnBackByShears_6 hP hD hS rfl
