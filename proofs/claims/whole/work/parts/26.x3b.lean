theorem fc_4608308318706860032 : fIv (81920) (81920) 4608308318706860032 := by unfold fIv; decide +kernel
theorem in_kX3_tryGrid_X3 : ∀ w ∈ u_ws RX3 TX3 7, w ∈ wsX3_tryGrid := by decide +kernel
theorem fl_kX3_tryGrid_22 : Cond.fieldLink RX3 22 "SkewFind$Search" "gridMean" "D" ∈ wsX3_tryGrid := by decide +kernel
theorem fl_kX3_tryGrid_30 : Cond.fieldLink RX3 30 "SkewFind$Search" "bestSum" "D" ∈ wsX3_tryGrid := by decide +kernel
abbrev rmX3_tryGrid : Room := { frames := 4, cells := 0, slots := 0, locals := 90 }
set_option maxRecDepth 100000 in
set_option maxHeartbeats 4000000 in
theorem kX3_tryGrid (l : Launch) (G : va_G) (cI cZ cJ cD : ClassId) (a0 e0 : Nat) (h0 q1 q2 w h : Nat) (hw : w ≤ 24) (hh : h ≤ 24) (B O : Nat → Int32) (E : Nat → Int32) (ak su : Bool) (gm : UInt64) (be : Int32) (bs : UInt64) (m0 : Nat) (hm : m0 ≤ 2000) : Cv l G (kTy cI cZ cJ cD) yX3_tryGrid wsX3_tryGrid rmX3_tryGrid [.ref a0, .int (nI m0)] [(a0, .inr (2, [.ref h0, .ref e0, .int (b2i ak), .int (b2i su), .double gm, .int be, .double bs])), (e0, .inl (cI, 48, .inl E)), (h0, .inr (0, [.int (nI w), .int (nI h), .double (midF w), .double (midF h), .ref q1, .ref q2])), (q1, .inl (cI, 24, .inl B)), (q2, .inl (cI, 24, .inl O))] [(a0, .inr (2, [.ref h0, .ref e0, .int (b2i ak), .int (b2i su), .double (gM w h B m0), .int (gB w h B m0 be bs (gN m0)), .double (gS w h B m0 bs (gN m0))])), (e0, .inl (cI, 48, .inl (gE w h B m0 E (gN m0)))), (h0, .inr (0, [.int (nI w), .int (nI h), .double (midF w), .double (midF h), .ref q1, .ref q2])), (q1, .inl (cI, 24, .inl B)), (q2, .inl (cI, 24, .inl O))] := by
  refine Cv.of rfl rfl (cc := cX3_tryGrid) (maxL := 8) (plainFor_of_name (by decide)) rfl (Nat.le_of_ble_eq_true rfl) rfl ?_
  intro p e s m args below meth c A Q hx hb hml hts hown hA hK hP hD hS hend ls hl
  refine lv_dconst0 hx hb dX3_tryGrid_0 ?_
  refine lv_dstore_n (lv' := [(2, .double FP.dconst0), (0, .ref a0), (1, .int (nI m0))]) hx hb dX3_tryGrid_1 rfl hl (by decide) rfl (fun ls hl => ?_)
  refine lv_iconst (v := 0) hx hb dX3_tryGrid_2 (by decide) ?_
  refine lv_istore (lv' := [(4, .int 0), (2, .double FP.dconst0), (0, .ref a0), (1, .int (nI m0))]) hx hb dX3_tryGrid_3 hl (by decide) rfl (fun ls hl => ?_)
  refine lv_iload_n hx hb dX3_tryGrid_5 rfl (lv_at hl 3 rfl) ?_
  refine lv_ineg hx hb dX3_tryGrid_6 ?_
  refine kTopI (z := angI m0 0) (angI_0 hm) ?_
  refine lv_istore (lv' := [(5, .int (angI m0 0)), (4, .int 0), (2, .double FP.dconst0), (0, .ref a0), (1, .int (nI m0))]) hx hb dX3_tryGrid_7 hl (by decide) rfl (fun ls hl => ?_)
  have K9 : ∀ (n9 : Nat) (i : Nat), 2 * m0 + 200 - 100 * i < n9 → (100 * i ≤ 2 * m0 + 100) → ∀ (H : Heap) (locs : List Loc), va_P G vwCl [(a0, .inr (2, [.ref h0, .ref e0, .int (b2i ak), .int (b2i su), .double gm, .int (gB w h B m0 be bs i), .double (gS w h B m0 bs i)])), (e0, .inl (cI, 48, .inl (gE w h B m0 E i))), (h0, .inr (0, [.int (nI w), .int (nI h), .double (midF w), .double (midF h), .ref q1, .ref q2])), (q1, .inl (cI, 24, .inl B)), (q2, .inl (cI, 24, .inl O))] H → va_D A [(a0, .inr (2, [.ref h0, .ref e0, .int (b2i ak), .int (b2i su), .double gm, .int (gB w h B m0 be bs i), .double (gS w h B m0 bs i)])), (e0, .inl (cI, 48, .inl (gE w h B m0 E i))), (h0, .inr (0, [.int (nI w), .int (nI h), .double (midF w), .double (midF h), .ref q1, .ref q2])), (q1, .inl (cI, 24, .inl B)), (q2, .inl (cI, 24, .inl O))] → va_S A s.heap H locs → ∀ ls : Array Slot, lv_has ls 8 [(0, .ref a0), (1, .int (nI m0)), (2, .double (gT w h B m0 i)), (4, .int (nI i)), (5, .int (angI m0 i))] → W p l e rmX3_tryGrid s m args below meth c H locs 0 0 Q (F0 m 9 ls []) := by
    intro n9
    induction n9 with
    | zero => intro i hn; exact absurd hn (by omega)
    | succ n9 ih9 =>
      intro i hn9 hi H locs hP hD hS ls hl
      refine lv_iload hx hb dX3_tryGrid_9 (lv_at hl 4 rfl) ?_
      refine lv_iload_n hx hb dX3_tryGrid_11 rfl (lv_at hl 1 rfl) ?_
      refine lv_icmp_gt (tgt := 60) hx hb dX3_tryGrid_12 (by decide) (fun c_12 => ?_) (fun c_12 => ?_)
      · have c_12 := (angI_gt hm (by omega)).mp c_12
        have e9 : (gN m0) = i := by unfold gN; omega
        subst e9
        refine lv_aload_n hx hb dX3_tryGrid_60 rfl (lv_at hl 0 rfl) ?_
        refine lv_iload hx hb dX3_tryGrid_61 (lv_at hl 3 rfl) ?_
        refine lv_if_le (tgt := 74) hx hb dX3_tryGrid_63 (by decide) (fun h9 => absurd h9 (nI_nle (gN_le hm).1 (by have := (gN_le hm).2; omega))) (fun c_63 => ?_)
        refine lv_dload_n hx hb dX3_tryGrid_66 rfl (lv_at hl 2 rfl) ?_
        refine lv_iload hx hb dX3_tryGrid_67 (lv_at hl 3 rfl) ?_
        refine lv_i2d hx hb dX3_tryGrid_69 ?_
        have b1 : fIv (-5770237022568448) (5770237022568448) (FP.ddiv (gT w h B m0 (gN m0)) (FP.i2d (nI (gN m0)))) := fDivI (fGT w h B m0 (gN_le hm).2) _ (nI_ne0 (gN_le hm).1 (by have := (gN_le hm).2; omega)) (by decide +kernel)
        refine lv_ddiv hx hb dX3_tryGrid_70 b1.n64 ?_
        refine lv_goto (tgt := 75) hx hb dX3_tryGrid_71 (by decide) ?_
        refine va_put (D := G) (ci := 2) (v := .double (FP.ddiv (gT w h B m0 (gN m0)) (FP.i2d (nI (gN m0))))) (ty := .double) (C := RX3) (T := TX3) (N := 7) hx hb hts in_kX3_tryGrid_X3 tyX3 tyX3_ok nmX3 hown hK hP hD hS 0 rfl rfl 4 (by decide) (hts _ fl_kX3_tryGrid_22) (fun _ h9 => h9) rfl (by decide +kernel) rfl rfl (Nat.le_of_ble_eq_true rfl) dX3_tryGrid_75 (fun H locs (hP : va_P G vwCl [(a0, .inr (2, [.ref h0, .ref e0, .int (b2i ak), .int (b2i su), .double (FP.ddiv (gT w h B m0 (gN m0)) (FP.i2d (nI (gN m0)))), .int (gB w h B m0 be bs (gN m0)), .double (gS w h B m0 bs (gN m0))])), (e0, .inl (cI, 48, .inl (gE w h B m0 E (gN m0)))), (h0, .inr (0, [.int (nI w), .int (nI h), .double (midF w), .double (midF h), .ref q1, .ref q2])), (q1, .inl (cI, 24, .inl B)), (q2, .inl (cI, 24, .inl O))] H) (hD : va_D A [(a0, .inr (2, [.ref h0, .ref e0, .int (b2i ak), .int (b2i su), .double (FP.ddiv (gT w h B m0 (gN m0)) (FP.i2d (nI (gN m0)))), .int (gB w h B m0 be bs (gN m0)), .double (gS w h B m0 bs (gN m0))])), (e0, .inl (cI, 48, .inl (gE w h B m0 E (gN m0)))), (h0, .inr (0, [.int (nI w), .int (nI h), .double (midF w), .double (midF h), .ref q1, .ref q2])), (q1, .inl (cI, 24, .inl B)), (q2, .inl (cI, 24, .inl O))]) hS => ?_)
        exact hend _ _ _ _ _ dX3_tryGrid_78 hP hD hS rfl
      · have c_12 : ¬ 2 * m0 < 100 * i := fun q => c_12 ((angI_gt hm (by omega)).mpr q)
        refine lv_aload_n hx hb dX3_tryGrid_15 rfl (lv_at hl 0 rfl) ?_
        refine lv_iload hx hb dX3_tryGrid_16 (lv_at hl 4 rfl) ?_
        refine kVd (w' := [(a0, .inr (2, [.ref h0, .ref e0, .int (b2i ak), .int (b2i su), .double gm, .int (gB w h B m0 be bs i), .double (gS w h B m0 bs i)])), (e0, .inl (cI, 48, .inl (sumE w h B (gE w h B m0 E i) (angI m0 i)))), (h0, .inr (0, [.int (nI w), .int (nI h), .double (midF w), .double (midF h), .ref q1, .ref q2])), (q1, .inl (cI, 24, .inl B)), (q2, .inl (cI, 24, .inl O))]) (wr := []) (isC := [0, 1, 2, 3, 4]) (isR := []) (pm := [0, 1, 2, 3, 4]) (rest := []) (kX3_sumAt l G cI cZ cJ cD a0 e0 h0 q1 q2 w h hw hh B O (gE w h B m0 E i) ak su gm (gB w h B m0 be bs i) (gS w h B m0 bs i) (angI m0 i) (by rw [angI_toInt hm (by omega)]; omega) (by rw [angI_toInt hm (by omega)]; omega)) ⟨hx, hb, hml, hown, hts⟩ (cwV 1 hts gX3_tryGrid_X3_sumAt rfl rfl rfl hd_X3_sumAt ⟨Nat.le_of_ble_eq_true rfl, Nat.le_of_ble_eq_true rfl⟩) hK hP hD hS hA ⟨rfl, rfl, rfl, by decide, rfl, rfl, rfl⟩ 2 0 rfl rfl rfl hl.1 rfl (Nat.le_of_ble_eq_true rfl) dX3_tryGrid_18 ⟨Nat.le_of_ble_eq_true rfl, Nat.le_of_ble_eq_true rfl⟩ rfl rfl (fun H locs hP hD hS => ?_)
        have b2 : fIv (-140737488355328) (140737488355328) (sumF w h B (angI m0 i)) := fSumF _ _ _ _
        refine lv_dstore (lv' := [(6, .double (sumF w h B (angI m0 i))), (0, .ref a0), (1, .int (nI m0)), (2, .double (gT w h B m0 i)), (4, .int (nI i)), (5, .int (angI m0 i))]) hx hb dX3_tryGrid_21 hl (by decide) rfl (fun ls hl => ?_)
        refine lv_iload hx hb dX3_tryGrid_23 (lv_at hl 4 rfl) ?_
        refine lv_if_eq (tgt := 38) hx hb dX3_tryGrid_25 (by decide) (fun c_25 => ?_) (fun c_25 => ?_)
        · refine lv_aload_n hx hb dX3_tryGrid_38 rfl (lv_at hl 1 rfl) ?_
          refine lv_iload hx hb dX3_tryGrid_39 (lv_at hl 5 rfl) ?_
          refine lv_dload hx hb dX3_tryGrid_41 (lv_at hl 0 rfl) ?_
          refine kVv (w' := [(a0, .inr (2, [.ref h0, .ref e0, .int (b2i ak), .int (b2i su), .double gm, .int (angI m0 i), .double (sumF w h B (angI m0 i))])), (e0, .inl (cI, 48, .inl (sumE w h B (gE w h B m0 E i) (angI m0 i)))), (h0, .inr (0, [.int (nI w), .int (nI h), .double (midF w), .double (midF h), .ref q1, .ref q2])), (q1, .inl (cI, 24, .inl B)), (q2, .inl (cI, 24, .inl O))]) (wr := []) (isC := [0, 1, 2, 3, 4]) (isR := []) (pm := [0, 1, 2, 3, 4]) (rest := []) (kX3_take l G cI cZ cJ cD a0 e0 h0 q1 q2 w h hw hh B O (sumE w h B (gE w h B m0 E i) (angI m0 i)) ak su gm (gB w h B m0 be bs i) (gS w h B m0 bs i) (angI m0 i) (sumF w h B (angI m0 i))) ⟨hx, hb, hml, hown, hts⟩ (cwV 2 hts gX3_tryGrid_X3_take rfl rfl rfl hd_X3_take ⟨Nat.le_of_ble_eq_true rfl, Nat.le_of_ble_eq_true rfl⟩) hK hP hD hS hA ⟨rfl, rfl, rfl, by decide, rfl, rfl, rfl⟩ 2 0 rfl rfl rfl hl.1 rfl (Nat.le_of_ble_eq_true rfl) dX3_tryGrid_43 ⟨Nat.le_of_ble_eq_true rfl, Nat.le_of_ble_eq_true rfl⟩ rfl rfl (fun H locs hP hD hS => ?_)
          refine lv_dload_n hx hb dX3_tryGrid_46 rfl (lv_at hl 3 rfl) ?_
          refine lv_dload hx hb dX3_tryGrid_47 (lv_at hl 0 rfl) ?_
          have b3 : fIv (-5910974510923776) (5910974510923776) (FP.dadd (gT w h B m0 i) (sumF w h B (angI m0 i))) := fAdd (fGT w h B m0 (i := i) (by omega)) b2 (by decide +kernel) (by decide +kernel) (by decide +kernel) (by decide +kernel)
          refine lv_dadd hx hb dX3_tryGrid_49 b3.n64 ?_
          refine lv_dstore_n (lv' := [(2, .double (FP.dadd (gT w h B m0 i) (sumF w h B (angI m0 i)))), (6, .double (sumF w h B (angI m0 i))), (0, .ref a0), (1, .int (nI m0)), (4, .int (nI i)), (5, .int (angI m0 i))]) hx hb dX3_tryGrid_50 rfl hl (by decide) rfl (fun ls hl => ?_)
          refine lv_iinc (v := nI (i + 1)) (lv' := [(4, .int (nI (i + 1))), (2, .double (FP.dadd (gT w h B m0 i) (sumF w h B (angI m0 i)))), (6, .double (sumF w h B (angI m0 i))), (0, .ref a0), (1, .int (nI m0)), (5, .int (angI m0 i))]) hx hb dX3_tryGrid_51 hl (k := 4) rfl (nI_1 _) (by decide) rfl (fun ls hl => ?_)
          refine lv_iinc (v := (angI m0 i) + 100) (lv' := [(5, .int ((angI m0 i) + 100)), (4, .int (nI (i + 1))), (2, .double (FP.dadd (gT w h B m0 i) (sumF w h B (angI m0 i)))), (6, .double (sumF w h B (angI m0 i))), (0, .ref a0), (1, .int (nI m0))]) hx hb dX3_tryGrid_54 hl (k := 5) rfl rfl (by decide) rfl (fun ls hl => ?_)
          have hE : (angI m0 i) + 100 = angI m0 (i + 1) := angI_s hm (by omega)
          rw [hE] at hl
          refine lv_goto (tgt := 9) hx hb dX3_tryGrid_57 (by decide) ?_
          exact ih9 (i + 1) (by omega) (by omega) _ _ (by rw [show gB w h B m0 be bs (i + 1) = angI m0 i from by simp only [gB, gV, c_25, ↓reduceIte], show gS w h B m0 bs (i + 1) = sumF w h B (angI m0 i) from by simp only [gS, gV, c_25, ↓reduceIte]]; exact hP) (by rw [show gB w h B m0 be bs (i + 1) = angI m0 i from by simp only [gB, gV, c_25, ↓reduceIte], show gS w h B m0 bs (i + 1) = sumF w h B (angI m0 i) from by simp only [gS, gV, c_25, ↓reduceIte]]; exact hD) hS _ (lv_sub hl [4, 5, 2, 1, 0] rfl)
        · refine lv_dload hx hb dX3_tryGrid_28 (lv_at hl 0 rfl) ?_
          refine lv_aload_n hx hb dX3_tryGrid_30 rfl (lv_at hl 1 rfl) ?_
          refine va_get (D := G) (ci := 2) (v := .double (gS w h B m0 bs i)) (C := RX3) (T := TX3) (N := 7) hx hb hts in_kX3_tryGrid_X3 hown hK hP 0 rfl rfl 6 (by decide) (hts _ fl_kX3_tryGrid_30) (fun _ h9 => h9) rfl dX3_tryGrid_31 ?_
          refine lv_dcmp hx hb dX3_tryGrid_34 ?_
          refine lv_if_le (tgt := 46) hx hb dX3_tryGrid_35 (by decide) (fun c_35 => ?_) (fun c_35 => ?_)
          · refine lv_dload_n hx hb dX3_tryGrid_46 rfl (lv_at hl 3 rfl) ?_
            refine lv_dload hx hb dX3_tryGrid_47 (lv_at hl 0 rfl) ?_
            have b4 : fIv (-5910974510923776) (5910974510923776) (FP.dadd (gT w h B m0 i) (sumF w h B (angI m0 i))) := fAdd (fGT w h B m0 (i := i) (by omega)) b2 (by decide +kernel) (by decide +kernel) (by decide +kernel) (by decide +kernel)
            refine lv_dadd hx hb dX3_tryGrid_49 b4.n64 ?_
            refine lv_dstore_n (lv' := [(2, .double (FP.dadd (gT w h B m0 i) (sumF w h B (angI m0 i)))), (6, .double (sumF w h B (angI m0 i))), (0, .ref a0), (1, .int (nI m0)), (4, .int (nI i)), (5, .int (angI m0 i))]) hx hb dX3_tryGrid_50 rfl hl (by decide) rfl (fun ls hl => ?_)
            refine lv_iinc (v := nI (i + 1)) (lv' := [(4, .int (nI (i + 1))), (2, .double (FP.dadd (gT w h B m0 i) (sumF w h B (angI m0 i)))), (6, .double (sumF w h B (angI m0 i))), (0, .ref a0), (1, .int (nI m0)), (5, .int (angI m0 i))]) hx hb dX3_tryGrid_51 hl (k := 4) rfl (nI_1 _) (by decide) rfl (fun ls hl => ?_)
            refine lv_iinc (v := (angI m0 i) + 100) (lv' := [(5, .int ((angI m0 i) + 100)), (4, .int (nI (i + 1))), (2, .double (FP.dadd (gT w h B m0 i) (sumF w h B (angI m0 i)))), (6, .double (sumF w h B (angI m0 i))), (0, .ref a0), (1, .int (nI m0))]) hx hb dX3_tryGrid_54 hl (k := 5) rfl rfl (by decide) rfl (fun ls hl => ?_)
            have hE : (angI m0 i) + 100 = angI m0 (i + 1) := angI_s hm (by omega)
            rw [hE] at hl
            refine lv_goto (tgt := 9) hx hb dX3_tryGrid_57 (by decide) ?_
            exact ih9 (i + 1) (by omega) (by omega) _ _ (by rw [show gB w h B m0 be bs (i + 1) = gB w h B m0 be bs i from by simp only [gB, gV, c_25, c_35, ↓reduceIte], show gS w h B m0 bs (i + 1) = gS w h B m0 bs i from by simp only [gS, gV, c_25, c_35, ↓reduceIte]]; exact hP) (by rw [show gB w h B m0 be bs (i + 1) = gB w h B m0 be bs i from by simp only [gB, gV, c_25, c_35, ↓reduceIte], show gS w h B m0 bs (i + 1) = gS w h B m0 bs i from by simp only [gS, gV, c_25, c_35, ↓reduceIte]]; exact hD) hS _ (lv_sub hl [4, 5, 2, 1, 0] rfl)
          · refine lv_aload_n hx hb dX3_tryGrid_38 rfl (lv_at hl 1 rfl) ?_
            refine lv_iload hx hb dX3_tryGrid_39 (lv_at hl 5 rfl) ?_
            refine lv_dload hx hb dX3_tryGrid_41 (lv_at hl 0 rfl) ?_
            refine kVv (w' := [(a0, .inr (2, [.ref h0, .ref e0, .int (b2i ak), .int (b2i su), .double gm, .int (angI m0 i), .double (sumF w h B (angI m0 i))])), (e0, .inl (cI, 48, .inl (sumE w h B (gE w h B m0 E i) (angI m0 i)))), (h0, .inr (0, [.int (nI w), .int (nI h), .double (midF w), .double (midF h), .ref q1, .ref q2])), (q1, .inl (cI, 24, .inl B)), (q2, .inl (cI, 24, .inl O))]) (wr := []) (isC := [0, 1, 2, 3, 4]) (isR := []) (pm := [0, 1, 2, 3, 4]) (rest := []) (kX3_take l G cI cZ cJ cD a0 e0 h0 q1 q2 w h hw hh B O (sumE w h B (gE w h B m0 E i) (angI m0 i)) ak su gm (gB w h B m0 be bs i) (gS w h B m0 bs i) (angI m0 i) (sumF w h B (angI m0 i))) ⟨hx, hb, hml, hown, hts⟩ (cwV 2 hts gX3_tryGrid_X3_take rfl rfl rfl hd_X3_take ⟨Nat.le_of_ble_eq_true rfl, Nat.le_of_ble_eq_true rfl⟩) hK hP hD hS hA ⟨rfl, rfl, rfl, by decide, rfl, rfl, rfl⟩ 2 0 rfl rfl rfl hl.1 rfl (Nat.le_of_ble_eq_true rfl) dX3_tryGrid_43 ⟨Nat.le_of_ble_eq_true rfl, Nat.le_of_ble_eq_true rfl⟩ rfl rfl (fun H locs hP hD hS => ?_)
            refine lv_dload_n hx hb dX3_tryGrid_46 rfl (lv_at hl 3 rfl) ?_
            refine lv_dload hx hb dX3_tryGrid_47 (lv_at hl 0 rfl) ?_
            have b5 : fIv (-5910974510923776) (5910974510923776) (FP.dadd (gT w h B m0 i) (sumF w h B (angI m0 i))) := fAdd (fGT w h B m0 (i := i) (by omega)) b2 (by decide +kernel) (by decide +kernel) (by decide +kernel) (by decide +kernel)
            refine lv_dadd hx hb dX3_tryGrid_49 b5.n64 ?_
            refine lv_dstore_n (lv' := [(2, .double (FP.dadd (gT w h B m0 i) (sumF w h B (angI m0 i)))), (6, .double (sumF w h B (angI m0 i))), (0, .ref a0), (1, .int (nI m0)), (4, .int (nI i)), (5, .int (angI m0 i))]) hx hb dX3_tryGrid_50 rfl hl (by decide) rfl (fun ls hl => ?_)
            refine lv_iinc (v := nI (i + 1)) (lv' := [(4, .int (nI (i + 1))), (2, .double (FP.dadd (gT w h B m0 i) (sumF w h B (angI m0 i)))), (6, .double (sumF w h B (angI m0 i))), (0, .ref a0), (1, .int (nI m0)), (5, .int (angI m0 i))]) hx hb dX3_tryGrid_51 hl (k := 4) rfl (nI_1 _) (by decide) rfl (fun ls hl => ?_)
            refine lv_iinc (v := (angI m0 i) + 100) (lv' := [(5, .int ((angI m0 i) + 100)), (4, .int (nI (i + 1))), (2, .double (FP.dadd (gT w h B m0 i) (sumF w h B (angI m0 i)))), (6, .double (sumF w h B (angI m0 i))), (0, .ref a0), (1, .int (nI m0))]) hx hb dX3_tryGrid_54 hl (k := 5) rfl rfl (by decide) rfl (fun ls hl => ?_)
            have hE : (angI m0 i) + 100 = angI m0 (i + 1) := angI_s hm (by omega)
            rw [hE] at hl
            refine lv_goto (tgt := 9) hx hb dX3_tryGrid_57 (by decide) ?_
            exact ih9 (i + 1) (by omega) (by omega) _ _ (by rw [show gB w h B m0 be bs (i + 1) = angI m0 i from by simp only [gB, gV, c_25, c_35, ↓reduceIte], show gS w h B m0 bs (i + 1) = sumF w h B (angI m0 i) from by simp only [gS, gV, c_25, c_35, ↓reduceIte]]; exact hP) (by rw [show gB w h B m0 be bs (i + 1) = angI m0 i from by simp only [gB, gV, c_25, c_35, ↓reduceIte], show gS w h B m0 bs (i + 1) = sumF w h B (angI m0 i) from by simp only [gS, gV, c_25, c_35, ↓reduceIte]]; exact hD) hS _ (lv_sub hl [4, 5, 2, 1, 0] rfl)
  exact K9 (2 * m0 + 200 - 100 * 0 + 1) 0 (by omega) (by omega) _ _ hP hD hS _ (lv_sub hl [3, 4, 2, 1, 0] rfl)
theorem in_kX3_tryBeside_X3 : ∀ w ∈ u_ws RX3 TX3 7, w ∈ wsX3_tryBeside := by decide +kernel
theorem fl_kX3_tryBeside_26 : Cond.fieldLink RX3 26 "SkewFind$Search" "best" "I" ∈ wsX3_tryBeside := by decide +kernel
theorem fl_kX3_tryBeside_30 : Cond.fieldLink RX3 30 "SkewFind$Search" "bestSum" "D" ∈ wsX3_tryBeside := by decide +kernel
abbrev rmX3_tryBeside : Room := { frames := 4, cells := 0, slots := 0, locals := 90 }
set_option maxRecDepth 100000 in
set_option maxHeartbeats 4000000 in
theorem kX3_tryBeside (l : Launch) (G : va_G) (cI cZ cJ cD : ClassId) (a0 e0 : Nat) (h0 q1 q2 w h : Nat) (hw : w ≤ 24) (hh : h ≤ 24) (B O : Nat → Int32) (E : Nat → Int32) (ak su : Bool) (gm : UInt64) (be : Int32) (bs : UInt64) (sp : Int32) (m0 : Nat) (hm : m0 ≤ 2000) (hb1 : -(m0 : Int) ≤ be.toInt) (hb2 : be.toInt ≤ m0) (hs1 : 1 ≤ sp.toInt) (hs2 : sp.toInt ≤ 50) : Cv l G (kTy cI cZ cJ cD) yX3_tryBeside wsX3_tryBeside rmX3_tryBeside [.ref a0, .int sp, .int (nI m0)] [(a0, .inr (2, [.ref h0, .ref e0, .int (b2i ak), .int (b2i su), .double gm, .int be, .double bs])), (e0, .inl (cI, 48, .inl E)), (h0, .inr (0, [.int (nI w), .int (nI h), .double (midF w), .double (midF h), .ref q1, .ref q2])), (q1, .inl (cI, 24, .inl B)), (q2, .inl (cI, 24, .inl O))] [(a0, .inr (2, [.ref h0, .ref e0, .int (b2i ak), .int (b2i su), .double gm, .int (tbB w h B m0 be sp bs), .double (tbS w h B m0 be sp bs)])), (e0, .inl (cI, 48, .inl (tbE w h B m0 be sp E))), (h0, .inr (0, [.int (nI w), .int (nI h), .double (midF w), .double (midF h), .ref q1, .ref q2])), (q1, .inl (cI, 24, .inl B)), (q2, .inl (cI, 24, .inl O))] := by
  refine Cv.of rfl rfl (cc := cX3_tryBeside) (maxL := 7) (plainFor_of_name (by decide)) rfl (Nat.le_of_ble_eq_true rfl) rfl ?_
  intro p e s m args below meth c A Q hx hb hml hts hown hA hK hP hD hS hend ls hl
  refine lv_aload_n hx hb dX3_tryBeside_0 rfl (lv_at hl 0 rfl) ?_
  refine va_get (D := G) (ci := 2) (v := .int be) (C := RX3) (T := TX3) (N := 7) hx hb hts in_kX3_tryBeside_X3 hown hK hP 0 rfl rfl 5 (by decide) (hts _ fl_kX3_tryBeside_26) (fun _ h9 => h9) rfl dX3_tryBeside_1 ?_
  refine lv_iload_n hx hb dX3_tryBeside_4 rfl (lv_at hl 1 rfl) ?_
  refine lv_isub hx hb dX3_tryBeside_5 ?_
  refine lv_istore_n (lv' := [(3, .int (be - sp)), (0, .ref a0), (1, .int sp), (2, .int (nI m0))]) hx hb dX3_tryBeside_6 rfl hl (by decide) rfl (fun ls hl => ?_)
  refine lv_aload_n hx hb dX3_tryBeside_7 rfl (lv_at hl 1 rfl) ?_
  refine va_get (D := G) (ci := 2) (v := .int be) (C := RX3) (T := TX3) (N := 7) hx hb hts in_kX3_tryBeside_X3 hown hK hP 0 rfl rfl 5 (by decide) (hts _ fl_kX3_tryBeside_26) (fun _ h9 => h9) rfl dX3_tryBeside_8 ?_
  refine lv_iload_n hx hb dX3_tryBeside_11 rfl (lv_at hl 2 rfl) ?_
  refine lv_iadd hx hb dX3_tryBeside_12 ?_
  refine lv_istore (lv' := [(4, .int (be + sp)), (3, .int (be - sp)), (0, .ref a0), (1, .int sp), (2, .int (nI m0))]) hx hb dX3_tryBeside_13 hl (by decide) rfl (fun ls hl => ?_)
  refine lv_iload_n hx hb dX3_tryBeside_15 rfl (lv_at hl 1 rfl) ?_
  refine lv_iload_n hx hb dX3_tryBeside_16 rfl (lv_at hl 4 rfl) ?_
  refine lv_ineg hx hb dX3_tryBeside_17 ?_
  refine lv_icmp_lt (tgt := 45) hx hb dX3_tryBeside_18 (by decide) (fun c_18 => ?_) (fun c_18 => ?_)
  · refine lv_iload hx hb dX3_tryBeside_45 (lv_at hl 0 rfl) ?_
    refine lv_iload_n hx hb dX3_tryBeside_47 rfl (lv_at hl 4 rfl) ?_
    refine lv_icmp_gt (tgt := 77) hx hb dX3_tryBeside_48 (by decide) (fun c_48 => ?_) (fun c_48 => ?_)
    · exact hend _ _ _ _ _ dX3_tryBeside_77 hP hD hS (by first | (simp only [tbE, tbE1, tbB, tbS, tbM, tbL, tbS1, Bool.false_eq_true, c_18, c_48, ↓reduceIte]; done) | (simp [tbE, tbE1, tbB, tbS, tbM, tbL, tbS1, Bool.false_eq_true, c_18, c_48]; done) | rfl)
    · refine lv_aload_n hx hb dX3_tryBeside_51 rfl (lv_at hl 2 rfl) ?_
      refine lv_iload hx hb dX3_tryBeside_52 (lv_at hl 0 rfl) ?_
      refine kVd (w' := [(a0, .inr (2, [.ref h0, .ref e0, .int (b2i ak), .int (b2i su), .double gm, .int be, .double bs])), (e0, .inl (cI, 48, .inl (sumE w h B E (be + sp)))), (h0, .inr (0, [.int (nI w), .int (nI h), .double (midF w), .double (midF h), .ref q1, .ref q2])), (q1, .inl (cI, 24, .inl B)), (q2, .inl (cI, 24, .inl O))]) (wr := []) (isC := [0, 1, 2, 3, 4]) (isR := []) (pm := [0, 1, 2, 3, 4]) (rest := []) (kX3_sumAt l G cI cZ cJ cD a0 e0 h0 q1 q2 w h hw hh B O E ak su gm be bs (be + sp) (by have := tb_hi hm hb1 hb2 hs1 hs2 c_48; omega) (by have := tb_hi hm hb1 hb2 hs1 hs2 c_48; omega)) ⟨hx, hb, hml, hown, hts⟩ (cwV 1 hts gX3_tryBeside_X3_sumAt rfl rfl rfl hd_X3_sumAt ⟨Nat.le_of_ble_eq_true rfl, Nat.le_of_ble_eq_true rfl⟩) hK hP hD hS hA ⟨rfl, rfl, rfl, by decide, rfl, rfl, rfl⟩ 2 0 rfl rfl rfl hl.1 rfl (Nat.le_of_ble_eq_true rfl) dX3_tryBeside_54 ⟨Nat.le_of_ble_eq_true rfl, Nat.le_of_ble_eq_true rfl⟩ rfl rfl (fun H locs hP hD hS => ?_)
      have b1 : fIv (-140737488355328) (140737488355328) (sumF w h B (be + sp)) := fSumF _ _ _ _
      refine lv_dstore (lv' := [(5, .double (sumF w h B (be + sp))), (4, .int (be + sp)), (3, .int (be - sp)), (0, .ref a0), (1, .int sp), (2, .int (nI m0))]) hx hb dX3_tryBeside_57 hl (by decide) rfl (fun ls hl => ?_)
      refine lv_dload hx hb dX3_tryBeside_59 (lv_at hl 0 rfl) ?_
      refine lv_aload_n hx hb dX3_tryBeside_61 rfl (lv_at hl 3 rfl) ?_
      refine va_get (D := G) (ci := 2) (v := .double bs) (C := RX3) (T := TX3) (N := 7) hx hb hts in_kX3_tryBeside_X3 hown hK hP 0 rfl rfl 6 (by decide) (hts _ fl_kX3_tryBeside_30) (fun _ h9 => h9) rfl dX3_tryBeside_62 ?_
      refine lv_dcmp hx hb dX3_tryBeside_65 ?_
      refine lv_if_le (tgt := 77) hx hb dX3_tryBeside_66 (by decide) (fun c_66 => ?_) (fun c_66 => ?_)
      · exact hend _ _ _ _ _ dX3_tryBeside_77 hP hD hS (by first | (simp only [tbE, tbE1, tbB, tbS, tbM, tbL, tbS1, Bool.false_eq_true, c_18, c_48, c_66, ↓reduceIte]; done) | (simp [tbE, tbE1, tbB, tbS, tbM, tbL, tbS1, Bool.false_eq_true, c_18, c_48, c_66]; done) | rfl)
      · refine lv_aload_n hx hb dX3_tryBeside_69 rfl (lv_at hl 3 rfl) ?_
        refine lv_iload hx hb dX3_tryBeside_70 (lv_at hl 1 rfl) ?_
        refine lv_dload hx hb dX3_tryBeside_72 (lv_at hl 0 rfl) ?_
        refine kVv (w' := [(a0, .inr (2, [.ref h0, .ref e0, .int (b2i ak), .int (b2i su), .double gm, .int (be + sp), .double (sumF w h B (be + sp))])), (e0, .inl (cI, 48, .inl (sumE w h B E (be + sp)))), (h0, .inr (0, [.int (nI w), .int (nI h), .double (midF w), .double (midF h), .ref q1, .ref q2])), (q1, .inl (cI, 24, .inl B)), (q2, .inl (cI, 24, .inl O))]) (wr := []) (isC := [0, 1, 2, 3, 4]) (isR := []) (pm := [0, 1, 2, 3, 4]) (rest := []) (kX3_take l G cI cZ cJ cD a0 e0 h0 q1 q2 w h hw hh B O (sumE w h B E (be + sp)) ak su gm be bs (be + sp) (sumF w h B (be + sp))) ⟨hx, hb, hml, hown, hts⟩ (cwV 2 hts gX3_tryBeside_X3_take rfl rfl rfl hd_X3_take ⟨Nat.le_of_ble_eq_true rfl, Nat.le_of_ble_eq_true rfl⟩) hK hP hD hS hA ⟨rfl, rfl, rfl, by decide, rfl, rfl, rfl⟩ 2 0 rfl rfl rfl hl.1 rfl (Nat.le_of_ble_eq_true rfl) dX3_tryBeside_74 ⟨Nat.le_of_ble_eq_true rfl, Nat.le_of_ble_eq_true rfl⟩ rfl rfl (fun H locs hP hD hS => ?_)
        exact hend _ _ _ _ _ dX3_tryBeside_77 hP hD hS (by first | (simp only [tbE, tbE1, tbB, tbS, tbM, tbL, tbS1, Bool.false_eq_true, c_18, c_48, c_66, ↓reduceIte]; done) | (simp [tbE, tbE1, tbB, tbS, tbM, tbL, tbS1, Bool.false_eq_true, c_18, c_48, c_66]; done) | rfl)
  · refine lv_aload_n hx hb dX3_tryBeside_21 rfl (lv_at hl 2 rfl) ?_
    refine lv_iload_n hx hb dX3_tryBeside_22 rfl (lv_at hl 1 rfl) ?_
    refine kVd (w' := [(a0, .inr (2, [.ref h0, .ref e0, .int (b2i ak), .int (b2i su), .double gm, .int be, .double bs])), (e0, .inl (cI, 48, .inl (sumE w h B E (be - sp)))), (h0, .inr (0, [.int (nI w), .int (nI h), .double (midF w), .double (midF h), .ref q1, .ref q2])), (q1, .inl (cI, 24, .inl B)), (q2, .inl (cI, 24, .inl O))]) (wr := []) (isC := [0, 1, 2, 3, 4]) (isR := []) (pm := [0, 1, 2, 3, 4]) (rest := []) (kX3_sumAt l G cI cZ cJ cD a0 e0 h0 q1 q2 w h hw hh B O E ak su gm be bs (be - sp) (by have := tb_lo hm hb1 hb2 hs1 hs2 c_18; omega) (by have := tb_lo hm hb1 hb2 hs1 hs2 c_18; omega)) ⟨hx, hb, hml, hown, hts⟩ (cwV 1 hts gX3_tryBeside_X3_sumAt rfl rfl rfl hd_X3_sumAt ⟨Nat.le_of_ble_eq_true rfl, Nat.le_of_ble_eq_true rfl⟩) hK hP hD hS hA ⟨rfl, rfl, rfl, by decide, rfl, rfl, rfl⟩ 2 0 rfl rfl rfl hl.1 rfl (Nat.le_of_ble_eq_true rfl) dX3_tryBeside_23 ⟨Nat.le_of_ble_eq_true rfl, Nat.le_of_ble_eq_true rfl⟩ rfl rfl (fun H locs hP hD hS => ?_)
    have b2 : fIv (-140737488355328) (140737488355328) (sumF w h B (be - sp)) := fSumF _ _ _ _
    refine lv_dstore (lv' := [(5, .double (sumF w h B (be - sp))), (4, .int (be + sp)), (3, .int (be - sp)), (0, .ref a0), (1, .int sp), (2, .int (nI m0))]) hx hb dX3_tryBeside_26 hl (by decide) rfl (fun ls hl => ?_)
    refine lv_dload hx hb dX3_tryBeside_28 (lv_at hl 0 rfl) ?_
    refine lv_aload_n hx hb dX3_tryBeside_30 rfl (lv_at hl 3 rfl) ?_
    refine va_get (D := G) (ci := 2) (v := .double bs) (C := RX3) (T := TX3) (N := 7) hx hb hts in_kX3_tryBeside_X3 hown hK hP 0 rfl rfl 6 (by decide) (hts _ fl_kX3_tryBeside_30) (fun _ h9 => h9) rfl dX3_tryBeside_31 ?_
    refine lv_dcmp hx hb dX3_tryBeside_34 ?_
    refine lv_if_lt (tgt := 45) hx hb dX3_tryBeside_35 (by decide) (fun c_35 => ?_) (fun c_35 => ?_)
    · refine lv_iload hx hb dX3_tryBeside_45 (lv_at hl 1 rfl) ?_
      refine lv_iload_n hx hb dX3_tryBeside_47 rfl (lv_at hl 5 rfl) ?_
      refine lv_icmp_gt (tgt := 77) hx hb dX3_tryBeside_48 (by decide) (fun c_48 => ?_) (fun c_48 => ?_)
      · exact hend _ _ _ _ _ dX3_tryBeside_77 hP hD hS (by first | (simp only [tbE, tbE1, tbB, tbS, tbM, tbL, tbS1, Bool.false_eq_true, c_18, c_35, c_48, ↓reduceIte]; done) | (simp [tbE, tbE1, tbB, tbS, tbM, tbL, tbS1, Bool.false_eq_true, c_18, c_35, c_48]; done) | rfl)
      · refine lv_aload_n hx hb dX3_tryBeside_51 rfl (lv_at hl 3 rfl) ?_
        refine lv_iload hx hb dX3_tryBeside_52 (lv_at hl 1 rfl) ?_
        refine kVd (w' := [(a0, .inr (2, [.ref h0, .ref e0, .int (b2i ak), .int (b2i su), .double gm, .int be, .double bs])), (e0, .inl (cI, 48, .inl (sumE w h B (sumE w h B E (be - sp)) (be + sp)))), (h0, .inr (0, [.int (nI w), .int (nI h), .double (midF w), .double (midF h), .ref q1, .ref q2])), (q1, .inl (cI, 24, .inl B)), (q2, .inl (cI, 24, .inl O))]) (wr := []) (isC := [0, 1, 2, 3, 4]) (isR := []) (pm := [0, 1, 2, 3, 4]) (rest := []) (kX3_sumAt l G cI cZ cJ cD a0 e0 h0 q1 q2 w h hw hh B O (sumE w h B E (be - sp)) ak su gm be bs (be + sp) (by have := tb_hi hm hb1 hb2 hs1 hs2 c_48; omega) (by have := tb_hi hm hb1 hb2 hs1 hs2 c_48; omega)) ⟨hx, hb, hml, hown, hts⟩ (cwV 1 hts gX3_tryBeside_X3_sumAt rfl rfl rfl hd_X3_sumAt ⟨Nat.le_of_ble_eq_true rfl, Nat.le_of_ble_eq_true rfl⟩) hK hP hD hS hA ⟨rfl, rfl, rfl, by decide, rfl, rfl, rfl⟩ 2 0 rfl rfl rfl hl.1 rfl (Nat.le_of_ble_eq_true rfl) dX3_tryBeside_54 ⟨Nat.le_of_ble_eq_true rfl, Nat.le_of_ble_eq_true rfl⟩ rfl rfl (fun H locs hP hD hS => ?_)
        have b3 : fIv (-140737488355328) (140737488355328) (sumF w h B (be + sp)) := fSumF _ _ _ _
        refine lv_dstore (lv' := [(5, .double (sumF w h B (be + sp))), (4, .int (be + sp)), (3, .int (be - sp)), (0, .ref a0), (1, .int sp), (2, .int (nI m0))]) hx hb dX3_tryBeside_57 hl (by decide) rfl (fun ls hl => ?_)
        refine lv_dload hx hb dX3_tryBeside_59 (lv_at hl 0 rfl) ?_
        refine lv_aload_n hx hb dX3_tryBeside_61 rfl (lv_at hl 3 rfl) ?_
        refine va_get (D := G) (ci := 2) (v := .double bs) (C := RX3) (T := TX3) (N := 7) hx hb hts in_kX3_tryBeside_X3 hown hK hP 0 rfl rfl 6 (by decide) (hts _ fl_kX3_tryBeside_30) (fun _ h9 => h9) rfl dX3_tryBeside_62 ?_
        refine lv_dcmp hx hb dX3_tryBeside_65 ?_
        refine lv_if_le (tgt := 77) hx hb dX3_tryBeside_66 (by decide) (fun c_66 => ?_) (fun c_66 => ?_)
        · exact hend _ _ _ _ _ dX3_tryBeside_77 hP hD hS (by first | (simp only [tbE, tbE1, tbB, tbS, tbM, tbL, tbS1, Bool.false_eq_true, c_18, c_35, c_48, c_66, ↓reduceIte]; done) | (simp [tbE, tbE1, tbB, tbS, tbM, tbL, tbS1, Bool.false_eq_true, c_18, c_35, c_48, c_66]; done) | rfl)
        · refine lv_aload_n hx hb dX3_tryBeside_69 rfl (lv_at hl 3 rfl) ?_
          refine lv_iload hx hb dX3_tryBeside_70 (lv_at hl 1 rfl) ?_
          refine lv_dload hx hb dX3_tryBeside_72 (lv_at hl 0 rfl) ?_
          refine kVv (w' := [(a0, .inr (2, [.ref h0, .ref e0, .int (b2i ak), .int (b2i su), .double gm, .int (be + sp), .double (sumF w h B (be + sp))])), (e0, .inl (cI, 48, .inl (sumE w h B (sumE w h B E (be - sp)) (be + sp)))), (h0, .inr (0, [.int (nI w), .int (nI h), .double (midF w), .double (midF h), .ref q1, .ref q2])), (q1, .inl (cI, 24, .inl B)), (q2, .inl (cI, 24, .inl O))]) (wr := []) (isC := [0, 1, 2, 3, 4]) (isR := []) (pm := [0, 1, 2, 3, 4]) (rest := []) (kX3_take l G cI cZ cJ cD a0 e0 h0 q1 q2 w h hw hh B O (sumE w h B (sumE w h B E (be - sp)) (be + sp)) ak su gm be bs (be + sp) (sumF w h B (be + sp))) ⟨hx, hb, hml, hown, hts⟩ (cwV 2 hts gX3_tryBeside_X3_take rfl rfl rfl hd_X3_take ⟨Nat.le_of_ble_eq_true rfl, Nat.le_of_ble_eq_true rfl⟩) hK hP hD hS hA ⟨rfl, rfl, rfl, by decide, rfl, rfl, rfl⟩ 2 0 rfl rfl rfl hl.1 rfl (Nat.le_of_ble_eq_true rfl) dX3_tryBeside_74 ⟨Nat.le_of_ble_eq_true rfl, Nat.le_of_ble_eq_true rfl⟩ rfl rfl (fun H locs hP hD hS => ?_)
          exact hend _ _ _ _ _ dX3_tryBeside_77 hP hD hS (by first | (simp only [tbE, tbE1, tbB, tbS, tbM, tbL, tbS1, Bool.false_eq_true, c_18, c_35, c_48, c_66, ↓reduceIte]; done) | (simp [tbE, tbE1, tbB, tbS, tbM, tbL, tbS1, Bool.false_eq_true, c_18, c_35, c_48, c_66]; done) | rfl)
    · refine lv_aload_n hx hb dX3_tryBeside_38 rfl (lv_at hl 3 rfl) ?_
      refine lv_iload_n hx hb dX3_tryBeside_39 rfl (lv_at hl 2 rfl) ?_
      refine lv_dload hx hb dX3_tryBeside_40 (lv_at hl 0 rfl) ?_
      refine kVv (w' := [(a0, .inr (2, [.ref h0, .ref e0, .int (b2i ak), .int (b2i su), .double gm, .int (be - sp), .double (sumF w h B (be - sp))])), (e0, .inl (cI, 48, .inl (sumE w h B E (be - sp)))), (h0, .inr (0, [.int (nI w), .int (nI h), .double (midF w), .double (midF h), .ref q1, .ref q2])), (q1, .inl (cI, 24, .inl B)), (q2, .inl (cI, 24, .inl O))]) (wr := []) (isC := [0, 1, 2, 3, 4]) (isR := []) (pm := [0, 1, 2, 3, 4]) (rest := []) (kX3_take l G cI cZ cJ cD a0 e0 h0 q1 q2 w h hw hh B O (sumE w h B E (be - sp)) ak su gm be bs (be - sp) (sumF w h B (be - sp))) ⟨hx, hb, hml, hown, hts⟩ (cwV 2 hts gX3_tryBeside_X3_take rfl rfl rfl hd_X3_take ⟨Nat.le_of_ble_eq_true rfl, Nat.le_of_ble_eq_true rfl⟩) hK hP hD hS hA ⟨rfl, rfl, rfl, by decide, rfl, rfl, rfl⟩ 2 0 rfl rfl rfl hl.1 rfl (Nat.le_of_ble_eq_true rfl) dX3_tryBeside_42 ⟨Nat.le_of_ble_eq_true rfl, Nat.le_of_ble_eq_true rfl⟩ rfl rfl (fun H locs hP hD hS => ?_)
      refine lv_iload hx hb dX3_tryBeside_45 (lv_at hl 1 rfl) ?_
      refine lv_iload_n hx hb dX3_tryBeside_47 rfl (lv_at hl 5 rfl) ?_
      refine lv_icmp_gt (tgt := 77) hx hb dX3_tryBeside_48 (by decide) (fun c_48 => ?_) (fun c_48 => ?_)
      · exact hend _ _ _ _ _ dX3_tryBeside_77 hP hD hS (by first | (simp only [tbE, tbE1, tbB, tbS, tbM, tbL, tbS1, Bool.false_eq_true, c_18, c_35, c_48, ↓reduceIte]; done) | (simp [tbE, tbE1, tbB, tbS, tbM, tbL, tbS1, Bool.false_eq_true, c_18, c_35, c_48]; done) | rfl)
      · refine lv_aload_n hx hb dX3_tryBeside_51 rfl (lv_at hl 3 rfl) ?_
        refine lv_iload hx hb dX3_tryBeside_52 (lv_at hl 1 rfl) ?_
        refine kVd (w' := [(a0, .inr (2, [.ref h0, .ref e0, .int (b2i ak), .int (b2i su), .double gm, .int (be - sp), .double (sumF w h B (be - sp))])), (e0, .inl (cI, 48, .inl (sumE w h B (sumE w h B E (be - sp)) (be + sp)))), (h0, .inr (0, [.int (nI w), .int (nI h), .double (midF w), .double (midF h), .ref q1, .ref q2])), (q1, .inl (cI, 24, .inl B)), (q2, .inl (cI, 24, .inl O))]) (wr := []) (isC := [0, 1, 2, 3, 4]) (isR := []) (pm := [0, 1, 2, 3, 4]) (rest := []) (kX3_sumAt l G cI cZ cJ cD a0 e0 h0 q1 q2 w h hw hh B O (sumE w h B E (be - sp)) ak su gm (be - sp) (sumF w h B (be - sp)) (be + sp) (by have := tb_hi hm hb1 hb2 hs1 hs2 c_48; omega) (by have := tb_hi hm hb1 hb2 hs1 hs2 c_48; omega)) ⟨hx, hb, hml, hown, hts⟩ (cwV 1 hts gX3_tryBeside_X3_sumAt rfl rfl rfl hd_X3_sumAt ⟨Nat.le_of_ble_eq_true rfl, Nat.le_of_ble_eq_true rfl⟩) hK hP hD hS hA ⟨rfl, rfl, rfl, by decide, rfl, rfl, rfl⟩ 2 0 rfl rfl rfl hl.1 rfl (Nat.le_of_ble_eq_true rfl) dX3_tryBeside_54 ⟨Nat.le_of_ble_eq_true rfl, Nat.le_of_ble_eq_true rfl⟩ rfl rfl (fun H locs hP hD hS => ?_)
        have b4 : fIv (-140737488355328) (140737488355328) (sumF w h B (be + sp)) := fSumF _ _ _ _
        refine lv_dstore (lv' := [(5, .double (sumF w h B (be + sp))), (4, .int (be + sp)), (3, .int (be - sp)), (0, .ref a0), (1, .int sp), (2, .int (nI m0))]) hx hb dX3_tryBeside_57 hl (by decide) rfl (fun ls hl => ?_)
        refine lv_dload hx hb dX3_tryBeside_59 (lv_at hl 0 rfl) ?_
        refine lv_aload_n hx hb dX3_tryBeside_61 rfl (lv_at hl 3 rfl) ?_
        refine va_get (D := G) (ci := 2) (v := .double (sumF w h B (be - sp))) (C := RX3) (T := TX3) (N := 7) hx hb hts in_kX3_tryBeside_X3 hown hK hP 0 rfl rfl 6 (by decide) (hts _ fl_kX3_tryBeside_30) (fun _ h9 => h9) rfl dX3_tryBeside_62 ?_
        refine lv_dcmp hx hb dX3_tryBeside_65 ?_
        refine lv_if_le (tgt := 77) hx hb dX3_tryBeside_66 (by decide) (fun c_66 => ?_) (fun c_66 => ?_)
        · exact hend _ _ _ _ _ dX3_tryBeside_77 hP hD hS (by first | (simp only [tbE, tbE1, tbB, tbS, tbM, tbL, tbS1, Bool.false_eq_true, c_18, c_35, c_48, c_66, ↓reduceIte]; done) | (simp [tbE, tbE1, tbB, tbS, tbM, tbL, tbS1, Bool.false_eq_true, c_18, c_35, c_48, c_66]; done) | rfl)
        · refine lv_aload_n hx hb dX3_tryBeside_69 rfl (lv_at hl 3 rfl) ?_
          refine lv_iload hx hb dX3_tryBeside_70 (lv_at hl 1 rfl) ?_
          refine lv_dload hx hb dX3_tryBeside_72 (lv_at hl 0 rfl) ?_
          refine kVv (w' := [(a0, .inr (2, [.ref h0, .ref e0, .int (b2i ak), .int (b2i su), .double gm, .int (be + sp), .double (sumF w h B (be + sp))])), (e0, .inl (cI, 48, .inl (sumE w h B (sumE w h B E (be - sp)) (be + sp)))), (h0, .inr (0, [.int (nI w), .int (nI h), .double (midF w), .double (midF h), .ref q1, .ref q2])), (q1, .inl (cI, 24, .inl B)), (q2, .inl (cI, 24, .inl O))]) (wr := []) (isC := [0, 1, 2, 3, 4]) (isR := []) (pm := [0, 1, 2, 3, 4]) (rest := []) (kX3_take l G cI cZ cJ cD a0 e0 h0 q1 q2 w h hw hh B O (sumE w h B (sumE w h B E (be - sp)) (be + sp)) ak su gm (be - sp) (sumF w h B (be - sp)) (be + sp) (sumF w h B (be + sp))) ⟨hx, hb, hml, hown, hts⟩ (cwV 2 hts gX3_tryBeside_X3_take rfl rfl rfl hd_X3_take ⟨Nat.le_of_ble_eq_true rfl, Nat.le_of_ble_eq_true rfl⟩) hK hP hD hS hA ⟨rfl, rfl, rfl, by decide, rfl, rfl, rfl⟩ 2 0 rfl rfl rfl hl.1 rfl (Nat.le_of_ble_eq_true rfl) dX3_tryBeside_74 ⟨Nat.le_of_ble_eq_true rfl, Nat.le_of_ble_eq_true rfl⟩ rfl rfl (fun H locs hP hD hS => ?_)
          exact hend _ _ _ _ _ dX3_tryBeside_77 hP hD hS (by first | (simp only [tbE, tbE1, tbB, tbS, tbM, tbL, tbS1, Bool.false_eq_true, c_18, c_35, c_48, c_66, ↓reduceIte]; done) | (simp [tbE, tbE1, tbB, tbS, tbM, tbL, tbS1, Bool.false_eq_true, c_18, c_35, c_48, c_66]; done) | rfl)
theorem in_kX3_find_X3 : ∀ w ∈ u_ws RX3 TX3 7, w ∈ wsX3_find := by decide +kernel
theorem fl_kX3_find_15 : Cond.fieldLink RX3 15 "SkewFind$Search" "asked" "Z" ∈ wsX3_find := by decide +kernel
theorem fl_kX3_find_33 : Cond.fieldLink RX3 33 "SkewFind$Search" "picture" "LSkewFind$Picture;" ∈ wsX3_find := by decide +kernel
theorem fl_kX3_find_48 : Cond.fieldLink RX3 48 "SkewFind$Search" "STEPS" "[I" ∈ wsX3_find := by decide +kernel
theorem fl_kX3_find_30 : Cond.fieldLink RX3 30 "SkewFind$Search" "bestSum" "D" ∈ wsX3_find := by decide +kernel
theorem wd_kX3_find_c55 : Cond.constantDouble RX3 55 (4608308318706860032) ∈ wsX3_find := by decide +kernel
theorem fl_kX3_find_22 : Cond.fieldLink RX3 22 "SkewFind$Search" "gridMean" "D" ∈ wsX3_find := by decide +kernel
theorem fl_kX3_find_19 : Cond.fieldLink RX3 19 "SkewFind$Search" "sureOfBest" "Z" ∈ wsX3_find := by decide +kernel
theorem fl_kX3_find_26 : Cond.fieldLink RX3 26 "SkewFind$Search" "best" "I" ∈ wsX3_find := by decide +kernel
theorem wd_kX3_find_c43 : Cond.constant RX3 43 (100000) ∈ wsX3_find := by decide +kernel
abbrev rmX3_find : Room := { frames := 5, cells := 0, slots := 0, locals := 117 }
set_option maxRecDepth 100000 in
set_option maxHeartbeats 4000000 in
theorem kX3_find (l : Launch) (G : va_G) (cI cZ cJ cD : ClassId) (t0 : Nat) (a0 e0 : Nat) (h0 q1 q2 w h : Nat) (hw : w ≤ 24) (hh : h ≤ 24) (B O : Nat → Int32) (E : Nat → Int32) (ak su : Bool) (gm : UInt64) (be : Int32) (bs : UInt64) (m0 : Nat) (hm : m0 ≤ 2000) : CiX l G (kTy cI cZ cJ cD) yX3_find wsX3_find rmX3_find [.ref a0, .int (nI m0)] [(a0, .inr (2, [.ref h0, .ref e0, .int (b2i ak), .int (b2i su), .double gm, .int be, .double bs])), (e0, .inl (cI, 48, .inl E)), (h0, .inr (0, [.int (nI w), .int (nI h), .double (midF w), .double (midF h), .ref q1, .ref q2])), (q1, .inl (cI, 24, .inl B)), (q2, .inl (cI, 24, .inl O))] t0 (fdR w h B m0 be bs) [(a0, .inr (2, [.ref h0, .ref e0, .int (b2i true), .int (b2i (fdSu w h B m0 be bs)), .double (fdGm w h B m0), .int (fdBe w h B m0 be bs), .double (fdBs w h B m0 be bs)])), (e0, .inl (cI, 48, .inl (fdE w h B m0 be bs E))), (h0, .inr (0, [.int (nI w), .int (nI h), .double (midF w), .double (midF h), .ref q1, .ref q2])), (q1, .inl (cI, 24, .inl B)), (q2, .inl (cI, 24, .inl O))] := by
  refine CiX.of .int rfl rfl rfl (cc := cX3_find) (maxL := 3) (plainFor_of_name (by decide)) rfl (Nat.le_of_ble_eq_true rfl) rfl ?_
  intro p e s m args below meth c A Q hx hb hml hts hown hA hK hP hD hS hX hend ls hl
  refine lv_aload_n hx hb dX3_find_0 rfl (lv_at hl 0 rfl) ?_
  refine lv_iconst (v := 1) hx hb dX3_find_1 (by decide) ?_
  refine va_put (D := G) (ci := 2) (v := .int 1) (ty := .boolean) (C := RX3) (T := TX3) (N := 7) hx hb hts in_kX3_find_X3 tyX3 tyX3_ok nmX3 hown hK hP hD hS 0 rfl rfl 2 (by decide) (hts _ fl_kX3_find_15) (fun _ h9 => h9) rfl (by decide +kernel) rfl rfl (Nat.le_of_ble_eq_true rfl) dX3_find_2 (fun H locs (hP : va_P G vwCl [(a0, .inr (2, [.ref h0, .ref e0, .int 1, .int (b2i su), .double gm, .int be, .double bs])), (e0, .inl (cI, 48, .inl E)), (h0, .inr (0, [.int (nI w), .int (nI h), .double (midF w), .double (midF h), .ref q1, .ref q2])), (q1, .inl (cI, 24, .inl B)), (q2, .inl (cI, 24, .inl O))] H) (hD : va_D A [(a0, .inr (2, [.ref h0, .ref e0, .int 1, .int (b2i su), .double gm, .int be, .double bs])), (e0, .inl (cI, 48, .inl E)), (h0, .inr (0, [.int (nI w), .int (nI h), .double (midF w), .double (midF h), .ref q1, .ref q2])), (q1, .inl (cI, 24, .inl B)), (q2, .inl (cI, 24, .inl O))]) hS => ?_)
  refine lv_aload_n hx hb dX3_find_5 rfl (lv_at hl 0 rfl) ?_
  refine va_get (D := G) (ci := 2) (v := .ref h0) (C := RX3) (T := TX3) (N := 7) hx hb hts in_kX3_find_X3 hown hK hP 0 rfl rfl 0 (by decide) (hts _ fl_kX3_find_33) (fun _ h9 => h9) rfl dX3_find_6 ?_
  refine kVi (w' := [(a0, .inr (2, [.ref h0, .ref e0, .int 1, .int (b2i su), .double gm, .int be, .double bs])), (e0, .inl (cI, 48, .inl E)), (h0, .inr (0, [.int (nI w), .int (nI h), .double (midF w), .double (midF h), .ref q1, .ref q2])), (q1, .inl (cI, 24, .inl B)), (q2, .inl (cI, 24, .inl O))]) (wr := [(a0, .inr (2, [.ref h0, .ref e0, .int 1, .int (b2i su), .double gm, .int be, .double bs])), (e0, .inl (cI, 48, .inl E))]) (isC := [2, 3, 4]) (isR := [0, 1]) (pm := [0, 1, 2, 3, 4]) (rest := []) (kX0_samplesOn l G cI cZ cJ cD h0 q1 q2 w h hw hh B O ) ⟨hx, hb, hml, hown, hts⟩ (cwV 0 hts gX3_find_X0_samplesOn rfl rfl rfl hd_X0_samplesOn ⟨Nat.le_of_ble_eq_true rfl, Nat.le_of_ble_eq_true rfl⟩) hK hP hD hS hA ⟨rfl, rfl, rfl, by decide, rfl, rfl, rfl⟩ 0 2 rfl rfl rfl hl.1 rfl (Nat.le_of_ble_eq_true rfl) dX3_find_9 ⟨Nat.le_of_ble_eq_true rfl, Nat.le_of_ble_eq_true rfl⟩ rfl rfl (fun H locs hP hD hS => ?_)
  refine lv_if_ne (tgt := 28) hx hb dX3_find_12 (by decide) (fun c_12 => ?_) (fun c_12 => ?_)
  · refine lv_aload_n hx hb dX3_find_28 rfl (lv_at hl 0 rfl) ?_
    refine lv_iload_n hx hb dX3_find_29 rfl (lv_at hl 1 rfl) ?_
    refine kVv (w' := [(a0, .inr (2, [.ref h0, .ref e0, .int (b2i true), .int (b2i su), .double (gM w h B m0), .int (gB w h B m0 be bs (gN m0)), .double (gS w h B m0 bs (gN m0))])), (e0, .inl (cI, 48, .inl (gE w h B m0 E (gN m0)))), (h0, .inr (0, [.int (nI w), .int (nI h), .double (midF w), .double (midF h), .ref q1, .ref q2])), (q1, .inl (cI, 24, .inl B)), (q2, .inl (cI, 24, .inl O))]) (wr := []) (isC := [0, 1, 2, 3, 4]) (isR := []) (pm := [0, 1, 2, 3, 4]) (rest := []) (kX3_tryGrid l G cI cZ cJ cD a0 e0 h0 q1 q2 w h hw hh B O E true su gm be bs m0 hm) ⟨hx, hb, hml, hown, hts⟩ (cwV 1 hts gX3_find_X3_tryGrid rfl rfl rfl hd_X3_tryGrid ⟨Nat.le_of_ble_eq_true rfl, Nat.le_of_ble_eq_true rfl⟩) hK hP hD hS hA ⟨rfl, rfl, rfl, by decide, rfl, rfl, rfl⟩ 2 0 rfl rfl rfl hl.1 rfl (Nat.le_of_ble_eq_true rfl) dX3_find_30 ⟨Nat.le_of_ble_eq_true rfl, Nat.le_of_ble_eq_true rfl⟩ rfl rfl (fun H locs hP hD hS => ?_)
    refine lv_iconst (v := 0) hx hb dX3_find_33 (by decide) ?_
    refine lv_istore_n (lv' := [(2, .int 0), (0, .ref a0), (1, .int (nI m0))]) hx hb dX3_find_34 rfl hl (by decide) rfl (fun ls hl => ?_)
    have K35 : ∀ (n35 : Nat) (i : Nat), 6 - i < n35 → (i ≤ 6) → ∀ (H : Heap) (locs : List Loc), va_P G vwCl [(a0, .inr (2, [.ref h0, .ref e0, .int (b2i true), .int (b2i su), .double (gM w h B m0), .int ((fS w h B m0 be bs i).1), .double ((fS w h B m0 be bs i).2)])), (e0, .inl (cI, 48, .inl (fE w h B m0 be bs E i))), (h0, .inr (0, [.int (nI w), .int (nI h), .double (midF w), .double (midF h), .ref q1, .ref q2])), (q1, .inl (cI, 24, .inl B)), (q2, .inl (cI, 24, .inl O))] H → va_D A [(a0, .inr (2, [.ref h0, .ref e0, .int (b2i true), .int (b2i su), .double (gM w h B m0), .int ((fS w h B m0 be bs i).1), .double ((fS w h B m0 be bs i).2)])), (e0, .inl (cI, 48, .inl (fE w h B m0 be bs E i))), (h0, .inr (0, [.int (nI w), .int (nI h), .double (midF w), .double (midF h), .ref q1, .ref q2])), (q1, .inl (cI, 24, .inl B)), (q2, .inl (cI, 24, .inl O))] → va_S A s.heap H locs → ∀ ls : Array Slot, lv_has ls 3 [(0, .ref a0), (1, .int (nI m0)), (2, .int (nI i))] → W p l e rmX3_find s m args below meth c H locs 0 0 Q (F0 m 35 ls []) := by
      intro n35
      induction n35 with
      | zero => intro i hn; exact absurd hn (by omega)
      | succ n35 ih35 =>
        intro i hn35 hi H locs hP hD hS ls hl
        refine lv_iload_n hx hb dX3_find_35 rfl (lv_at hl 2 rfl) ?_
        refine va_gets hx hb hX.1 hS hown (hts _ fl_kX3_find_48) (fun _ h9 => h9) dX3_find_36 ?_
        refine va_tlen (v := nI 6) hx hb hX.2 hS rfl dX3_find_39 ?_
        refine kGe (by omega) (by omega) (tgt := 59) hx hb dX3_find_40 (by decide) (fun c_40 => ?_) (fun c_40 => ?_)
        · have e9 : 6 = i := by omega
          subst e9
          refine lv_aload_n hx hb dX3_find_59 rfl (lv_at hl 0 rfl) ?_
          refine lv_aload_n hx hb dX3_find_60 rfl (lv_at hl 0 rfl) ?_
          refine va_get (D := G) (ci := 2) (v := .double ((fS w h B m0 be bs 6).2)) (C := RX3) (T := TX3) (N := 7) hx hb hts in_kX3_find_X3 hown hK hP 0 rfl rfl 6 (by decide) (hts _ fl_kX3_find_30) (fun _ h9 => h9) rfl dX3_find_61 ?_
          refine lv_ldc2d (v := 4608308318706860032) hx hb hown (hts _ wd_kX3_find_c55) dX3_find_64 ?_
          refine lv_aload_n hx hb dX3_find_67 rfl (lv_at hl 0 rfl) ?_
          refine va_get (D := G) (ci := 2) (v := .double (gM w h B m0)) (C := RX3) (T := TX3) (N := 7) hx hb hts in_kX3_find_X3 hown hK hP 0 rfl rfl 4 (by decide) (hts _ fl_kX3_find_22) (fun _ h9 => h9) rfl dX3_find_68 ?_
          have b1 : fIv (-7212796278210560) (7212796278210560) (FP.dmul 4608308318706860032 (gM w h B m0)) := fIv.mul (n := 81920) (m := 5770237022568448) (k := 7212796278210560) (fc_4608308318706860032.weak (by decide) (by decide) (by decide) (by decide)) (fGM w h B hm) (by decide +kernel) (by decide +kernel)
          refine lv_dmul hx hb dX3_find_71 b1.n64 ?_
          refine lv_dcmp hx hb dX3_find_72 ?_
          refine lv_if_lt (tgt := 80) hx hb dX3_find_73 (by decide) (fun c_73 => ?_) (fun c_73 => ?_)
          · refine lv_iconst (v := 0) hx hb dX3_find_80 (by decide) ?_
            refine va_put (D := G) (ci := 2) (v := .int 0) (ty := .boolean) (C := RX3) (T := TX3) (N := 7) hx hb hts in_kX3_find_X3 tyX3 tyX3_ok nmX3 hown hK hP hD hS 0 rfl rfl 3 (by decide) (hts _ fl_kX3_find_19) (fun _ h9 => h9) rfl (by decide +kernel) rfl rfl (Nat.le_of_ble_eq_true rfl) dX3_find_81 (fun H locs (hP : va_P G vwCl [(a0, .inr (2, [.ref h0, .ref e0, .int (b2i true), .int 0, .double (gM w h B m0), .int ((fS w h B m0 be bs 6).1), .double ((fS w h B m0 be bs 6).2)])), (e0, .inl (cI, 48, .inl (fE w h B m0 be bs E 6))), (h0, .inr (0, [.int (nI w), .int (nI h), .double (midF w), .double (midF h), .ref q1, .ref q2])), (q1, .inl (cI, 24, .inl B)), (q2, .inl (cI, 24, .inl O))] H) (hD : va_D A [(a0, .inr (2, [.ref h0, .ref e0, .int (b2i true), .int 0, .double (gM w h B m0), .int ((fS w h B m0 be bs 6).1), .double ((fS w h B m0 be bs 6).2)])), (e0, .inl (cI, 48, .inl (fE w h B m0 be bs E 6))), (h0, .inr (0, [.int (nI w), .int (nI h), .double (midF w), .double (midF h), .ref q1, .ref q2])), (q1, .inl (cI, 24, .inl B)), (q2, .inl (cI, 24, .inl O))]) hS => ?_)
            refine lv_aload_n hx hb dX3_find_84 rfl (lv_at hl 0 rfl) ?_
            refine va_get (D := G) (ci := 2) (v := .int ((fS w h B m0 be bs 6).1)) (C := RX3) (T := TX3) (N := 7) hx hb hts in_kX3_find_X3 hown hK hP 0 rfl rfl 5 (by decide) (hts _ fl_kX3_find_26) (fun _ h9 => h9) rfl dX3_find_85 ?_
            exact hend _ _ _ _ _ _ dX3_find_88 hP hD hS (by first | (simp only [fdR, fdSu, fdGm, fdBe, fdBs, fdE, sureF, b2i_t, b2i_f, c_12, c_40, c_73, ↓reduceIte]; done) | (simp [fdR, fdSu, fdGm, fdBe, fdBs, fdE, sureF, b2i_t, b2i_f, c_12, c_40, c_73]; done) | rfl) (by first | (simp only [fdR, fdSu, fdGm, fdBe, fdBs, fdE, sureF, b2i_t, b2i_f, c_12, c_40, c_73, ↓reduceIte]; done) | (simp [fdR, fdSu, fdGm, fdBe, fdBs, fdE, sureF, b2i_t, b2i_f, c_12, c_40, c_73]; done) | rfl)
          · refine lv_iconst (v := 1) hx hb dX3_find_76 (by decide) ?_
            refine lv_goto (tgt := 81) hx hb dX3_find_77 (by decide) ?_
            refine va_put (D := G) (ci := 2) (v := .int 1) (ty := .boolean) (C := RX3) (T := TX3) (N := 7) hx hb hts in_kX3_find_X3 tyX3 tyX3_ok nmX3 hown hK hP hD hS 0 rfl rfl 3 (by decide) (hts _ fl_kX3_find_19) (fun _ h9 => h9) rfl (by decide +kernel) rfl rfl (Nat.le_of_ble_eq_true rfl) dX3_find_81 (fun H locs (hP : va_P G vwCl [(a0, .inr (2, [.ref h0, .ref e0, .int (b2i true), .int 1, .double (gM w h B m0), .int ((fS w h B m0 be bs 6).1), .double ((fS w h B m0 be bs 6).2)])), (e0, .inl (cI, 48, .inl (fE w h B m0 be bs E 6))), (h0, .inr (0, [.int (nI w), .int (nI h), .double (midF w), .double (midF h), .ref q1, .ref q2])), (q1, .inl (cI, 24, .inl B)), (q2, .inl (cI, 24, .inl O))] H) (hD : va_D A [(a0, .inr (2, [.ref h0, .ref e0, .int (b2i true), .int 1, .double (gM w h B m0), .int ((fS w h B m0 be bs 6).1), .double ((fS w h B m0 be bs 6).2)])), (e0, .inl (cI, 48, .inl (fE w h B m0 be bs E 6))), (h0, .inr (0, [.int (nI w), .int (nI h), .double (midF w), .double (midF h), .ref q1, .ref q2])), (q1, .inl (cI, 24, .inl B)), (q2, .inl (cI, 24, .inl O))]) hS => ?_)
            refine lv_aload_n hx hb dX3_find_84 rfl (lv_at hl 0 rfl) ?_
            refine va_get (D := G) (ci := 2) (v := .int ((fS w h B m0 be bs 6).1)) (C := RX3) (T := TX3) (N := 7) hx hb hts in_kX3_find_X3 hown hK hP 0 rfl rfl 5 (by decide) (hts _ fl_kX3_find_26) (fun _ h9 => h9) rfl dX3_find_85 ?_
            exact hend _ _ _ _ _ _ dX3_find_88 hP hD hS (by first | (simp only [fdR, fdSu, fdGm, fdBe, fdBs, fdE, sureF, b2i_t, b2i_f, c_12, c_40, c_73, ↓reduceIte]; done) | (simp [fdR, fdSu, fdGm, fdBe, fdBs, fdE, sureF, b2i_t, b2i_f, c_12, c_40, c_73]; done) | rfl) (by first | (simp only [fdR, fdSu, fdGm, fdBe, fdBs, fdE, sureF, b2i_t, b2i_f, c_12, c_40, c_73, ↓reduceIte]; done) | (simp [fdR, fdSu, fdGm, fdBe, fdBs, fdE, sureF, b2i_t, b2i_f, c_12, c_40, c_73]; done) | rfl)
        · refine lv_aload_n hx hb dX3_find_43 rfl (lv_at hl 0 rfl) ?_
          refine va_gets hx hb hX.1 hS hown (hts _ fl_kX3_find_48) (fun _ h9 => h9) dX3_find_44 ?_
          refine lv_iload_n hx hb dX3_find_47 rfl (lv_at hl 2 rfl) ?_
          refine va_ti (v := .int (stpN i)) hx hb hX.2 hS (vp_in_nI (by omega) (by omega)) (by rw [nI_clamp (by omega)]) dX3_find_48 ?_
          have hbe := fS_in w h B hm be bs i (by omega)
          have hsp := stpN_in i (by omega)
          refine lv_iload_n hx hb dX3_find_49 rfl (lv_at hl 1 rfl) ?_
          refine kVv (w' := [(a0, .inr (2, [.ref h0, .ref e0, .int (b2i true), .int (b2i su), .double (gM w h B m0), .int (tbB w h B m0 ((fS w h B m0 be bs i).1) (stpN i) ((fS w h B m0 be bs i).2)), .double (tbS w h B m0 ((fS w h B m0 be bs i).1) (stpN i) ((fS w h B m0 be bs i).2))])), (e0, .inl (cI, 48, .inl (tbE w h B m0 ((fS w h B m0 be bs i).1) (stpN i) (fE w h B m0 be bs E i)))), (h0, .inr (0, [.int (nI w), .int (nI h), .double (midF w), .double (midF h), .ref q1, .ref q2])), (q1, .inl (cI, 24, .inl B)), (q2, .inl (cI, 24, .inl O))]) (wr := []) (isC := [0, 1, 2, 3, 4]) (isR := []) (pm := [0, 1, 2, 3, 4]) (rest := []) (kX3_tryBeside l G cI cZ cJ cD a0 e0 h0 q1 q2 w h hw hh B O (fE w h B m0 be bs E i) true su (gM w h B m0) ((fS w h B m0 be bs i).1) ((fS w h B m0 be bs i).2) (stpN i) m0 hm hbe.1 hbe.2 hsp.1 hsp.2) ⟨hx, hb, hml, hown, hts⟩ (cwV 2 hts gX3_find_X3_tryBeside rfl rfl rfl hd_X3_tryBeside ⟨Nat.le_of_ble_eq_true rfl, Nat.le_of_ble_eq_true rfl⟩) hK hP hD hS hA ⟨rfl, rfl, rfl, by decide, rfl, rfl, rfl⟩ 2 0 rfl rfl rfl hl.1 rfl (Nat.le_of_ble_eq_true rfl) dX3_find_50 ⟨Nat.le_of_ble_eq_true rfl, Nat.le_of_ble_eq_true rfl⟩ rfl rfl (fun H locs hP hD hS => ?_)
          refine lv_iinc (v := nI (i + 1)) (lv' := [(2, .int (nI (i + 1))), (0, .ref a0), (1, .int (nI m0))]) hx hb dX3_find_53 hl (k := 2) rfl (nI_1 _) (by decide) rfl (fun ls hl => ?_)
          refine lv_goto (tgt := 35) hx hb dX3_find_56 (by decide) ?_
          exact ih35 (i + 1) (by omega) (by omega) _ _ hP hD hS _ (lv_sub hl [1, 2, 0] rfl)
    exact K35 (6 - 0 + 1) 0 (by omega) (by omega) _ _ hP hD hS _ (lv_sub hl [1, 2, 0] rfl)
  · refine lv_aload_n hx hb dX3_find_15 rfl (lv_at hl 0 rfl) ?_
    refine lv_iconst (v := 0) hx hb dX3_find_16 (by decide) ?_
    refine va_put (D := G) (ci := 2) (v := .int 0) (ty := .boolean) (C := RX3) (T := TX3) (N := 7) hx hb hts in_kX3_find_X3 tyX3 tyX3_ok nmX3 hown hK hP hD hS 0 rfl rfl 3 (by decide) (hts _ fl_kX3_find_19) (fun _ h9 => h9) rfl (by decide +kernel) rfl rfl (Nat.le_of_ble_eq_true rfl) dX3_find_17 (fun H locs (hP : va_P G vwCl [(a0, .inr (2, [.ref h0, .ref e0, .int 1, .int 0, .double gm, .int be, .double bs])), (e0, .inl (cI, 48, .inl E)), (h0, .inr (0, [.int (nI w), .int (nI h), .double (midF w), .double (midF h), .ref q1, .ref q2])), (q1, .inl (cI, 24, .inl B)), (q2, .inl (cI, 24, .inl O))] H) (hD : va_D A [(a0, .inr (2, [.ref h0, .ref e0, .int 1, .int 0, .double gm, .int be, .double bs])), (e0, .inl (cI, 48, .inl E)), (h0, .inr (0, [.int (nI w), .int (nI h), .double (midF w), .double (midF h), .ref q1, .ref q2])), (q1, .inl (cI, 24, .inl B)), (q2, .inl (cI, 24, .inl O))]) hS => ?_)
    refine lv_aload_n hx hb dX3_find_20 rfl (lv_at hl 0 rfl) ?_
    refine lv_dconst0 hx hb dX3_find_21 ?_
    refine va_put (D := G) (ci := 2) (v := .double FP.dconst0) (ty := .double) (C := RX3) (T := TX3) (N := 7) hx hb hts in_kX3_find_X3 tyX3 tyX3_ok nmX3 hown hK hP hD hS 0 rfl rfl 4 (by decide) (hts _ fl_kX3_find_22) (fun _ h9 => h9) rfl (by decide +kernel) rfl rfl (Nat.le_of_ble_eq_true rfl) dX3_find_22 (fun H locs (hP : va_P G vwCl [(a0, .inr (2, [.ref h0, .ref e0, .int 1, .int 0, .double FP.dconst0, .int be, .double bs])), (e0, .inl (cI, 48, .inl E)), (h0, .inr (0, [.int (nI w), .int (nI h), .double (midF w), .double (midF h), .ref q1, .ref q2])), (q1, .inl (cI, 24, .inl B)), (q2, .inl (cI, 24, .inl O))] H) (hD : va_D A [(a0, .inr (2, [.ref h0, .ref e0, .int 1, .int 0, .double FP.dconst0, .int be, .double bs])), (e0, .inl (cI, 48, .inl E)), (h0, .inr (0, [.int (nI w), .int (nI h), .double (midF w), .double (midF h), .ref q1, .ref q2])), (q1, .inl (cI, 24, .inl B)), (q2, .inl (cI, 24, .inl O))]) hS => ?_)
    refine lv_ldc (v := 100000) hx hb hown (hts _ wd_kX3_find_c43) dX3_find_25 ?_
    exact hend _ _ _ _ _ _ dX3_find_27 hP hD hS (by first | (simp only [fdR, fdSu, fdGm, fdBe, fdBs, fdE, sureF, b2i_t, b2i_f, c_12, ↓reduceIte]; done) | (simp [fdR, fdSu, fdGm, fdBe, fdBs, fdE, sureF, b2i_t, b2i_f, c_12]; done) | rfl) (by first | (simp only [fdR, fdSu, fdGm, fdBe, fdBs, fdE, sureF, b2i_t, b2i_f, c_12, ↓reduceIte]; done) | (simp [fdR, fdSu, fdGm, fdBe, fdBs, fdE, sureF, b2i_t, b2i_f, c_12]; done) | rfl)
