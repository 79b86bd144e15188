/-! the reference: the best angle -/
def jV (w h : Nat) (P : Nat → Bool) (m i : Nat) : UInt64 := mSum w h P (angI m i)
def jS (w h : Nat) (P : Nat → Bool) (m : Nat) : Nat → UInt64
  | 0 => 13830554455654793216
  | i + 1 => if Op.cmpValue (FP.dcmp (jV w h P m i) (jS w h P m i)) CmpOp.l ≤ 0 then jS w h P m i else jV w h P m i
def jB (w h : Nat) (P : Nat → Bool) (m : Nat) : Nat → Int32
  | 0 => angI m 0
  | i + 1 => if Op.cmpValue (FP.dcmp (jV w h P m i) (jS w h P m i)) CmpOp.l ≤ 0 then jB w h P m i else angI m i
def jT (w h : Nat) (P : Nat → Bool) (m : Nat) : Nat → UInt64
  | 0 => FP.dconst0
  | i + 1 => FP.dadd (jT w h P m i) (jV w h P m i)
def jL (w h : Nat) (P : Nat → Bool) (m : Nat) (LN : Nat → Int32) : Nat → Nat → Int32
  | 0 => LN
  | i + 1 => mLn w h P (jL w h P m LN i) (angI m i)
theorem jT_in (w h : Nat) (P : Nat → Bool) (m : Nat) : ∀ i : Nat, i ≤ 41 → fIv (-((i : Int) * 140737488355328)) ((i : Int) * 140737488355328) (jT w h P m i)
  | 0, _ => fc_dconst0.weak (by omega) (by omega) (by decide +kernel) (by decide +kernel)
  | i + 1, hi => by
    have ih := jT_in w h P m i (by omega)
    exact fAdd ih (fMSum w h P (angI m i)) (by omega) (by omega) (by omega) (by omega)
theorem fJT (w h : Nat) (P : Nat → Bool) (m : Nat) {i : Nat} (hi : i ≤ 41) : fIv (-5770237022568448) 5770237022568448 (jT w h P m i) :=
  (jT_in w h P m i hi).weak (by omega) (by omega) (by decide +kernel) (by decide +kernel)
def jM (w h : Nat) (P : Nat → Bool) (m : Nat) : UInt64 := FP.ddiv (jT w h P m (gN m)) (FP.i2d (nI (gN m)))
theorem fJM (w h : Nat) (P : Nat → Bool) {m : Nat} (hm : m ≤ 2000) : fIv (-5770237022568448) 5770237022568448 (jM w h P m) :=
  fDivI (fJT w h P m (gN_le hm).2) _ (nI_ne0 (gN_le hm).1 (by have := (gN_le hm).2; omega)) (by decide +kernel)
theorem jB_in (w h : Nat) (P : Nat → Bool) {m : Nat} (hm : m ≤ 2000) : ∀ i, 100 * i ≤ 2 * m + 100 → -(m : Int) ≤ (jB w h P m i).toInt ∧ (jB w h P m i).toInt ≤ m
  | 0, _ => by
    rw [show jB w h P m 0 = angI m 0 from rfl, angI_toInt hm (by omega)]
    omega
  | i + 1, hi => by
    have ih := jB_in w h P hm i (by omega)
    have ha := angI_toInt hm (i := i) (by omega)
    have e : jB w h P m (i + 1) = if Op.cmpValue (FP.dcmp (jV w h P m i) (jS w h P m i)) CmpOp.l ≤ 0 then jB w h P m i else angI m i := rfl
    rw [e]
    split
    · exact ih
    · rw [ha]; omega
def rL (w h : Nat) (P : Nat → Bool) (m : Nat) (be sp : Int32) : UInt64 := if be - sp < -nI m then 13830554455654793216 else mSum w h P (be - sp)
def rM (w h : Nat) (P : Nat → Bool) (m : Nat) (be sp : Int32) : UInt64 := if nI m < be + sp then 13830554455654793216 else mSum w h P (be + sp)
def rE1 (w h : Nat) (P : Nat → Bool) (m : Nat) (be sp : Int32) (LN : Nat → Int32) : Nat → Int32 := if be - sp < -nI m then LN else mLn w h P LN (be - sp)
def rE2 (w h : Nat) (P : Nat → Bool) (m : Nat) (be sp : Int32) (LN : Nat → Int32) : Nat → Int32 := if nI m < be + sp then LN else mLn w h P LN (be + sp)
def rB1 (w h : Nat) (P : Nat → Bool) (m : Nat) (be sp : Int32) (gr : UInt64) : Int32 := if Op.cmpValue (FP.dcmp (rL w h P m be sp) gr) CmpOp.l < 0 then be else be - sp
def rS1 (w h : Nat) (P : Nat → Bool) (m : Nat) (be sp : Int32) (gr : UInt64) : UInt64 := if Op.cmpValue (FP.dcmp (rL w h P m be sp) gr) CmpOp.l < 0 then gr else rL w h P m be sp
def rB2 (w h : Nat) (P : Nat → Bool) (m : Nat) (be sp : Int32) (gr : UInt64) : Int32 := if Op.cmpValue (FP.dcmp (rM w h P m be sp) (rS1 w h P m be sp gr)) CmpOp.l ≤ 0 then rB1 w h P m be sp gr else be + sp
def rS2 (w h : Nat) (P : Nat → Bool) (m : Nat) (be sp : Int32) (gr : UInt64) : UInt64 := if Op.cmpValue (FP.dcmp (rM w h P m be sp) (rS1 w h P m be sp gr)) CmpOp.l ≤ 0 then rS1 w h P m be sp gr else rM w h P m be sp
def r6 (w h : Nat) (P : Nat → Bool) (m : Nat) : Nat → Int32 × UInt64
  | 0 => (jB w h P m (gN m), jS w h P m (gN m))
  | i + 1 => (rB2 w h P m (r6 w h P m i).1 (stpN i) (r6 w h P m i).2, rS2 w h P m (r6 w h P m i).1 (stpN i) (r6 w h P m i).2)
def r6E (w h : Nat) (P : Nat → Bool) (m : Nat) (LN : Nat → Int32) : Nat → Nat → Int32
  | 0 => jL w h P m LN (gN m)
  | i + 1 => rE2 w h P m (r6 w h P m i).1 (stpN i) (rE1 w h P m (r6 w h P m i).1 (stpN i) (r6E w h P m LN i))
/-- the best stays within the bound as long as no sum is below -1.0 -/
def hOk (w h : Nat) (P : Nat → Bool) (m : Nat) : Prop := ∀ i, i ≤ 6 → -(m : Int) ≤ (r6 w h P m i).1.toInt ∧ (r6 w h P m i).1.toInt ≤ m
def mSu (w h : Nat) (P : Nat → Bool) (m : Nat) : Bool := if Op.cmpValue (FP.dcmp (r6 w h P m 6).2 (FP.dmul 4608308318706860032 (jM w h P m))) CmpOp.l < 0 then false else true
def maR (w h : Nat) (P : Nat → Bool) (m : Nat) : Int32 := if mCnt P = 0 then 100000 else (r6 w h P m 6).1
def maSu (w h : Nat) (P : Nat → Bool) (m : Nat) : Bool := if mCnt P = 0 then false else mSu w h P m
def maMn (w h : Nat) (P : Nat → Bool) (m : Nat) : UInt64 := if mCnt P = 0 then FP.dconst0 else jM w h P m
def maLN (w h : Nat) (P : Nat → Bool) (m : Nat) (LN : Nat → Int32) : Nat → Int32 := if mCnt P = 0 then LN else r6E w h P m LN 6
abbrev rmX6_angle1 : Room := { frames := 1, cells := 0, slots := 0, locals := 21 }
set_option maxRecDepth 100000 in
set_option maxHeartbeats 4000000 in
theorem kX6_angle1 (l : Launch) (G : va_G) (cI cZ cJ cD : ClassId) (z0 z1 z2 z3 z4 z5 w h : Nat) (hw : w ≤ 24) (hh : h ≤ 24) (cd : Int32) (P N : Nat → Bool) (ze : Nat → Int32) (le ue re de : Int32) (mk ms : Bool) (mn : UInt64) (tc : Nat) (TM LN : Nat → Int32) (ba br : Int32) (x : Int32) (hx1 : x < 0) : Ci l G (kTy cI cZ cJ cD) yX6_angle wsX6_angle rmX6_angle1 [.ref z0, .int x] [(z0, .inr (5, [.int cd, .int (nI w), .int (nI h), .ref z1, .ref z2, .ref z3, .int (b2i mk), .int (b2i ms), .double mn, .ref z4, .int (nI tc), .ref z5, .int ba, .int br])), (z1, .inl (cZ, 576, .inl (bA P))), (z2, .inl (cZ, 576, .inl (bA N))), (z3, .inl (cI, 4, .inl (e4 ze le ue re de))), (z4, .inl (cI, 16, .inl TM)), (z5, .inl (cI, 104, .inl LN))] 0 [(z0, .inr (5, [.int 1, .int (nI w), .int (nI h), .ref z1, .ref z2, .ref z3, .int (b2i mk), .int (b2i ms), .double mn, .ref z4, .int (nI tc), .ref z5, .int ba, .int br])), (z1, .inl (cZ, 576, .inl (bA P))), (z2, .inl (cZ, 576, .inl (bA N))), (z3, .inl (cI, 4, .inl (e4 ze le ue re de))), (z4, .inl (cI, 16, .inl TM)), (z5, .inl (cI, 104, .inl LN))] := by
  refine Ci.of .int rfl rfl rfl (cc := cX6_angle) (maxL := 15) (plainFor_of_name (by decide)) rfl (Nat.le_of_ble_eq_true rfl) rfl ?_
  intro p e s m args below meth c A Q hx hb hml hts hown hA hK hP hD hS hend ls hl
  refine lv_aload_n hx hb dX6_angle_0 rfl (lv_at hl 0 rfl) ?_
  refine lv_iload_n hx hb dX6_angle_1 rfl (lv_at hl 1 rfl) ?_
  refine lv_if_lt (tgt := 12) hx hb dX6_angle_2 (by decide) (fun c_2 => ?_) (fun h9 => absurd hx1 h9)
  refine lv_iconst (v := 1) hx hb dX6_angle_12 (by decide) ?_
  refine lv_goto (tgt := 17) hx hb dX6_angle_13 (by decide) ?_
  refine kVi (w' := [(z0, .inr (5, [.int 1, .int (nI w), .int (nI h), .ref z1, .ref z2, .ref z3, .int (b2i mk), .int (b2i ms), .double mn, .ref z4, .int (nI tc), .ref z5, .int ba, .int br])), (z1, .inl (cZ, 576, .inl (bA P))), (z2, .inl (cZ, 576, .inl (bA N))), (z3, .inl (cI, 4, .inl (e4 ze le ue re de))), (z4, .inl (cI, 16, .inl TM)), (z5, .inl (cI, 104, .inl LN))]) (wr := []) (isC := [0, 1, 2, 3, 4, 5]) (isR := []) (pm := [0, 1, 2, 3, 4, 5]) (rest := []) (kX6_refuses l G cI cZ cJ cD z0 z1 z2 z3 z4 z5 w h hw hh cd P N ze le ue re de mk ms mn tc TM LN ba br 1) ⟨hx, hb, hml, hown, hts⟩ (cwV 1 hts gX6_angle_X6_refuses rfl rfl rfl hd_X6_refuses ⟨Nat.le_of_ble_eq_true rfl, Nat.le_of_ble_eq_true rfl⟩) hK hP hD hS hA ⟨rfl, rfl, rfl, by decide, rfl, rfl, rfl⟩ 5 0 rfl rfl rfl hl.1 rfl (Nat.le_of_ble_eq_true rfl) dX6_angle_17 ⟨Nat.le_of_ble_eq_true rfl, Nat.le_of_ble_eq_true rfl⟩ rfl rfl (fun H locs hP hD hS => ?_)
  refine kIfEqB (tgt := 25) hx hb dX6_angle_20 (by decide) (fun h9 => (absurd h9 (by decide))) (fun c_20 => ?_)
  refine lv_iconst (v := 0) hx hb dX6_angle_23 (by decide) ?_
  exact hend _ _ _ _ _ _ dX6_angle_24 hP hD hS rfl rfl
abbrev rmX6_angle2 : Room := { frames := 1, cells := 0, slots := 0, locals := 21 }
set_option maxRecDepth 100000 in
set_option maxHeartbeats 4000000 in
theorem kX6_angle2 (l : Launch) (G : va_G) (cI cZ cJ cD : ClassId) (z0 z1 z2 z3 z4 z5 w h : Nat) (hw : w ≤ 24) (hh : h ≤ 24) (cd : Int32) (P N : Nat → Bool) (ze : Nat → Int32) (le ue re de : Int32) (mk ms : Bool) (mn : UInt64) (tc : Nat) (TM LN : Nat → Int32) (ba br : Int32) (x : Int32) (hx1 : ¬ x < 0) (hx2 : ¬ x ≤ 2000) : Ci l G (kTy cI cZ cJ cD) yX6_angle wsX6_angle rmX6_angle2 [.ref z0, .int x] [(z0, .inr (5, [.int cd, .int (nI w), .int (nI h), .ref z1, .ref z2, .ref z3, .int (b2i mk), .int (b2i ms), .double mn, .ref z4, .int (nI tc), .ref z5, .int ba, .int br])), (z1, .inl (cZ, 576, .inl (bA P))), (z2, .inl (cZ, 576, .inl (bA N))), (z3, .inl (cI, 4, .inl (e4 ze le ue re de))), (z4, .inl (cI, 16, .inl TM)), (z5, .inl (cI, 104, .inl LN))] 0 [(z0, .inr (5, [.int 1, .int (nI w), .int (nI h), .ref z1, .ref z2, .ref z3, .int (b2i mk), .int (b2i ms), .double mn, .ref z4, .int (nI tc), .ref z5, .int ba, .int br])), (z1, .inl (cZ, 576, .inl (bA P))), (z2, .inl (cZ, 576, .inl (bA N))), (z3, .inl (cI, 4, .inl (e4 ze le ue re de))), (z4, .inl (cI, 16, .inl TM)), (z5, .inl (cI, 104, .inl LN))] := by
  refine Ci.of .int rfl rfl rfl (cc := cX6_angle) (maxL := 15) (plainFor_of_name (by decide)) rfl (Nat.le_of_ble_eq_true rfl) rfl ?_
  intro p e s m args below meth c A Q hx hb hml hts hown hA hK hP hD hS hend ls hl
  refine lv_aload_n hx hb dX6_angle_0 rfl (lv_at hl 0 rfl) ?_
  refine lv_iload_n hx hb dX6_angle_1 rfl (lv_at hl 1 rfl) ?_
  refine lv_if_lt (tgt := 12) hx hb dX6_angle_2 (by decide) (fun h9 => absurd h9 hx1) (fun c_2 => ?_)
  refine lv_iload_n hx hb dX6_angle_5 rfl (lv_at hl 1 rfl) ?_
  refine lv_sipush (v := 2000) hx hb dX6_angle_6 (by decide) ?_
  refine lv_icmp_le (tgt := 16) hx hb dX6_angle_9 (by decide) (fun h9 => absurd h9 hx2) (fun c_9 => ?_)
  refine lv_iconst (v := 1) hx hb dX6_angle_12 (by decide) ?_
  refine lv_goto (tgt := 17) hx hb dX6_angle_13 (by decide) ?_
  refine kVi (w' := [(z0, .inr (5, [.int 1, .int (nI w), .int (nI h), .ref z1, .ref z2, .ref z3, .int (b2i mk), .int (b2i ms), .double mn, .ref z4, .int (nI tc), .ref z5, .int ba, .int br])), (z1, .inl (cZ, 576, .inl (bA P))), (z2, .inl (cZ, 576, .inl (bA N))), (z3, .inl (cI, 4, .inl (e4 ze le ue re de))), (z4, .inl (cI, 16, .inl TM)), (z5, .inl (cI, 104, .inl LN))]) (wr := []) (isC := [0, 1, 2, 3, 4, 5]) (isR := []) (pm := [0, 1, 2, 3, 4, 5]) (rest := []) (kX6_refuses l G cI cZ cJ cD z0 z1 z2 z3 z4 z5 w h hw hh cd P N ze le ue re de mk ms mn tc TM LN ba br 1) ⟨hx, hb, hml, hown, hts⟩ (cwV 1 hts gX6_angle_X6_refuses rfl rfl rfl hd_X6_refuses ⟨Nat.le_of_ble_eq_true rfl, Nat.le_of_ble_eq_true rfl⟩) hK hP hD hS hA ⟨rfl, rfl, rfl, by decide, rfl, rfl, rfl⟩ 5 0 rfl rfl rfl hl.1 rfl (Nat.le_of_ble_eq_true rfl) dX6_angle_17 ⟨Nat.le_of_ble_eq_true rfl, Nat.le_of_ble_eq_true rfl⟩ rfl rfl (fun H locs hP hD hS => ?_)
  refine kIfEqB (tgt := 25) hx hb dX6_angle_20 (by decide) (fun h9 => (absurd h9 (by decide))) (fun c_20 => ?_)
  refine lv_iconst (v := 0) hx hb dX6_angle_23 (by decide) ?_
  exact hend _ _ _ _ _ _ dX6_angle_24 hP hD hS rfl rfl
theorem in_kX6_angleV_X6 : ∀ w ∈ u_ws RX6 TX6 14, w ∈ wsX6_angle := by decide +kernel
theorem fl_kX6_angleV_39 : Cond.fieldLink RX6 39 "SkewFindModel" "isAsked" "Z" ∈ wsX6_angle := by decide +kernel
theorem fl_kX6_angleV_100 : Cond.fieldLink RX6 100 "SkewFindModel" "isSure" "Z" ∈ wsX6_angle := by decide +kernel
theorem fl_kX6_angleV_103 : Cond.fieldLink RX6 103 "SkewFindModel" "meanOf" "D" ∈ wsX6_angle := by decide +kernel
theorem wd_kX6_angleV_c111 : Cond.constantDouble RX6 111 (13830554455654793216) ∈ wsX6_angle := by decide +kernel
theorem wd_kX6_angleV_c117 : Cond.constantDouble RX6 117 (4608308318706860032) ∈ wsX6_angle := by decide +kernel
theorem wd_kX6_angleV_c110 : Cond.constant RX6 110 (100000) ∈ wsX6_angle := by decide +kernel
abbrev rmX6_angleV : Room := { frames := 4, cells := 0, slots := 0, locals := 93 }
set_option maxRecDepth 100000 in
set_option maxHeartbeats 4000000 in
theorem kX6_angleV (l : Launch) (G : va_G) (cI cZ cJ cD : ClassId) (z0 z1 z2 z3 z4 z5 w h : Nat) (hw : w ≤ 24) (hh : h ≤ 24) (cd : Int32) (P N : Nat → Bool) (ze : Nat → Int32) (le ue re de : Int32) (mk ms : Bool) (mn : UInt64) (tc : Nat) (TM LN : Nat → Int32) (ba br : Int32) (m0 : Nat) (hm : m0 ≤ 2000) (hok : hOk w h P m0) : Ci l G (kTy cI cZ cJ cD) yX6_angle wsX6_angle rmX6_angleV [.ref z0, .int (nI m0)] [(z0, .inr (5, [.int cd, .int (nI w), .int (nI h), .ref z1, .ref z2, .ref z3, .int (b2i mk), .int (b2i ms), .double mn, .ref z4, .int (nI tc), .ref z5, .int ba, .int br])), (z1, .inl (cZ, 576, .inl (bA P))), (z2, .inl (cZ, 576, .inl (bA N))), (z3, .inl (cI, 4, .inl (e4 ze le ue re de))), (z4, .inl (cI, 16, .inl TM)), (z5, .inl (cI, 104, .inl LN))] (maR w h P m0) [(z0, .inr (5, [.int 0, .int (nI w), .int (nI h), .ref z1, .ref z2, .ref z3, .int (b2i true), .int (b2i (maSu w h P m0)), .double (maMn w h P m0), .ref z4, .int (nI tc), .ref z5, .int ba, .int br])), (z1, .inl (cZ, 576, .inl (bA P))), (z2, .inl (cZ, 576, .inl (bA N))), (z3, .inl (cI, 4, .inl (e4 ze le ue re de))), (z4, .inl (cI, 16, .inl TM)), (z5, .inl (cI, 104, .inl (maLN w h P m0 LN)))] := by
  refine Ci.of .int rfl rfl rfl (cc := cX6_angle) (maxL := 15) (plainFor_of_name (by decide)) rfl (Nat.le_of_ble_eq_true rfl) rfl ?_
  intro p e s m args below meth c A Q hx hb hml hts hown hA hK hP hD hS hend ls hl
  refine lv_aload_n hx hb dX6_angle_0 rfl (lv_at hl 0 rfl) ?_
  refine lv_iload_n hx hb dX6_angle_1 rfl (lv_at hl 1 rfl) ?_
  refine lv_if_lt (tgt := 12) hx hb dX6_angle_2 (by decide) (fun h9 => absurd h9 (nI_pos (by omega))) (fun c_2 => ?_)
  refine lv_iload_n hx hb dX6_angle_5 rfl (lv_at hl 1 rfl) ?_
  refine lv_sipush (v := 2000) hx hb dX6_angle_6 (by decide) ?_
  refine lv_icmp_le (tgt := 16) hx hb dX6_angle_9 (by decide) (fun c_9 => ?_) (fun h9 => absurd (nI_le (b := 2000) hm (by decide)) h9)
  refine lv_iconst (v := 0) hx hb dX6_angle_16 (by decide) ?_
  refine kVi (w' := [(z0, .inr (5, [.int 0, .int (nI w), .int (nI h), .ref z1, .ref z2, .ref z3, .int (b2i mk), .int (b2i ms), .double mn, .ref z4, .int (nI tc), .ref z5, .int ba, .int br])), (z1, .inl (cZ, 576, .inl (bA P))), (z2, .inl (cZ, 576, .inl (bA N))), (z3, .inl (cI, 4, .inl (e4 ze le ue re de))), (z4, .inl (cI, 16, .inl TM)), (z5, .inl (cI, 104, .inl LN))]) (wr := []) (isC := [0, 1, 2, 3, 4, 5]) (isR := []) (pm := [0, 1, 2, 3, 4, 5]) (rest := []) (kX6_refuses l G cI cZ cJ cD z0 z1 z2 z3 z4 z5 w h hw hh cd P N ze le ue re de mk ms mn tc TM LN ba br 0) ⟨hx, hb, hml, hown, hts⟩ (cwV 1 hts gX6_angle_X6_refuses rfl rfl rfl hd_X6_refuses ⟨Nat.le_of_ble_eq_true rfl, Nat.le_of_ble_eq_true rfl⟩) hK hP hD hS hA ⟨rfl, rfl, rfl, by decide, rfl, rfl, rfl⟩ 5 0 rfl rfl rfl hl.1 rfl (Nat.le_of_ble_eq_true rfl) dX6_angle_17 ⟨Nat.le_of_ble_eq_true rfl, Nat.le_of_ble_eq_true rfl⟩ rfl rfl (fun H locs hP hD hS => ?_)
  refine kIfEqB (tgt := 25) hx hb dX6_angle_20 (by decide) (fun c_20 => ?_) (fun h9 => (absurd h9 (by decide)))
  refine lv_aload_n hx hb dX6_angle_25 rfl (lv_at hl 0 rfl) ?_
  refine lv_iconst (v := 1) hx hb dX6_angle_26 (by decide) ?_
  refine va_put (D := G) (ci := 5) (v := .int 1) (ty := .boolean) (C := RX6) (T := TX6) (N := 14) hx hb hts in_kX6_angleV_X6 tyX6 tyX6_ok nmX6 hown hK hP hD hS 0 rfl rfl 6 (by decide) (hts _ fl_kX6_angleV_39) (fun _ h9 => h9) rfl (by decide +kernel) rfl rfl (Nat.le_of_ble_eq_true rfl) dX6_angle_27 (fun H locs (hP : va_P G vwCl [(z0, .inr (5, [.int 0, .int (nI w), .int (nI h), .ref z1, .ref z2, .ref z3, .int 1, .int (b2i ms), .double mn, .ref z4, .int (nI tc), .ref z5, .int ba, .int br])), (z1, .inl (cZ, 576, .inl (bA P))), (z2, .inl (cZ, 576, .inl (bA N))), (z3, .inl (cI, 4, .inl (e4 ze le ue re de))), (z4, .inl (cI, 16, .inl TM)), (z5, .inl (cI, 104, .inl LN))] H) (hD : va_D A [(z0, .inr (5, [.int 0, .int (nI w), .int (nI h), .ref z1, .ref z2, .ref z3, .int 1, .int (b2i ms), .double mn, .ref z4, .int (nI tc), .ref z5, .int ba, .int br])), (z1, .inl (cZ, 576, .inl (bA P))), (z2, .inl (cZ, 576, .inl (bA N))), (z3, .inl (cI, 4, .inl (e4 ze le ue re de))), (z4, .inl (cI, 16, .inl TM)), (z5, .inl (cI, 104, .inl LN))]) hS => ?_)
  refine lv_aload_n hx hb dX6_angle_30 rfl (lv_at hl 0 rfl) ?_
  refine lv_iconst (v := 0) hx hb dX6_angle_31 (by decide) ?_
  refine va_put (D := G) (ci := 5) (v := .int 0) (ty := .boolean) (C := RX6) (T := TX6) (N := 14) hx hb hts in_kX6_angleV_X6 tyX6 tyX6_ok nmX6 hown hK hP hD hS 0 rfl rfl 7 (by decide) (hts _ fl_kX6_angleV_100) (fun _ h9 => h9) rfl (by decide +kernel) rfl rfl (Nat.le_of_ble_eq_true rfl) dX6_angle_32 (fun H locs (hP : va_P G vwCl [(z0, .inr (5, [.int 0, .int (nI w), .int (nI h), .ref z1, .ref z2, .ref z3, .int 1, .int 0, .double mn, .ref z4, .int (nI tc), .ref z5, .int ba, .int br])), (z1, .inl (cZ, 576, .inl (bA P))), (z2, .inl (cZ, 576, .inl (bA N))), (z3, .inl (cI, 4, .inl (e4 ze le ue re de))), (z4, .inl (cI, 16, .inl TM)), (z5, .inl (cI, 104, .inl LN))] H) (hD : va_D A [(z0, .inr (5, [.int 0, .int (nI w), .int (nI h), .ref z1, .ref z2, .ref z3, .int 1, .int 0, .double mn, .ref z4, .int (nI tc), .ref z5, .int ba, .int br])), (z1, .inl (cZ, 576, .inl (bA P))), (z2, .inl (cZ, 576, .inl (bA N))), (z3, .inl (cI, 4, .inl (e4 ze le ue re de))), (z4, .inl (cI, 16, .inl TM)), (z5, .inl (cI, 104, .inl LN))]) hS => ?_)
  refine lv_aload_n hx hb dX6_angle_35 rfl (lv_at hl 0 rfl) ?_
  refine lv_dconst0 hx hb dX6_angle_36 ?_
  refine va_put (D := G) (ci := 5) (v := .double FP.dconst0) (ty := .double) (C := RX6) (T := TX6) (N := 14) hx hb hts in_kX6_angleV_X6 tyX6 tyX6_ok nmX6 hown hK hP hD hS 0 rfl rfl 8 (by decide) (hts _ fl_kX6_angleV_103) (fun _ h9 => h9) rfl (by decide +kernel) rfl rfl (Nat.le_of_ble_eq_true rfl) dX6_angle_37 (fun H locs (hP : va_P G vwCl [(z0, .inr (5, [.int 0, .int (nI w), .int (nI h), .ref z1, .ref z2, .ref z3, .int 1, .int 0, .double FP.dconst0, .ref z4, .int (nI tc), .ref z5, .int ba, .int br])), (z1, .inl (cZ, 576, .inl (bA P))), (z2, .inl (cZ, 576, .inl (bA N))), (z3, .inl (cI, 4, .inl (e4 ze le ue re de))), (z4, .inl (cI, 16, .inl TM)), (z5, .inl (cI, 104, .inl LN))] H) (hD : va_D A [(z0, .inr (5, [.int 0, .int (nI w), .int (nI h), .ref z1, .ref z2, .ref z3, .int 1, .int 0, .double FP.dconst0, .ref z4, .int (nI tc), .ref z5, .int ba, .int br])), (z1, .inl (cZ, 576, .inl (bA P))), (z2, .inl (cZ, 576, .inl (bA N))), (z3, .inl (cI, 4, .inl (e4 ze le ue re de))), (z4, .inl (cI, 16, .inl TM)), (z5, .inl (cI, 104, .inl LN))]) hS => ?_)
  refine lv_aload_n hx hb dX6_angle_40 rfl (lv_at hl 0 rfl) ?_
  refine kVi (w' := [(z0, .inr (5, [.int 0, .int (nI w), .int (nI h), .ref z1, .ref z2, .ref z3, .int (b2i true), .int (b2i false), .double FP.dconst0, .ref z4, .int (nI tc), .ref z5, .int ba, .int br])), (z1, .inl (cZ, 576, .inl (bA P))), (z2, .inl (cZ, 576, .inl (bA N))), (z3, .inl (cI, 4, .inl (e4 ze le ue re de))), (z4, .inl (cI, 16, .inl TM)), (z5, .inl (cI, 104, .inl LN))]) (wr := []) (isC := [0, 1, 2, 3, 4, 5]) (isR := []) (pm := [0, 1, 2, 3, 4, 5]) (rest := []) (kX6_countOn l G cI cZ cJ cD z0 z1 z2 z3 z4 z5 w h hw hh 0 P N ze le ue re de true false FP.dconst0 tc TM LN ba br ) ⟨hx, hb, hml, hown, hts⟩ (cwV 0 hts gX6_angle_X6_countOn rfl rfl rfl hd_X6_countOn ⟨Nat.le_of_ble_eq_true rfl, Nat.le_of_ble_eq_true rfl⟩) hK hP hD hS hA ⟨rfl, rfl, rfl, by decide, rfl, rfl, rfl⟩ 5 0 rfl rfl rfl hl.1 rfl (Nat.le_of_ble_eq_true rfl) dX6_angle_41 ⟨Nat.le_of_ble_eq_true rfl, Nat.le_of_ble_eq_true rfl⟩ rfl rfl (fun H locs hP hD hS => ?_)
  refine lv_if_ne (tgt := 50) hx hb dX6_angle_44 (by decide) (fun c_44 => ?_) (fun c_44 => ?_)
  · refine lv_iload_n hx hb dX6_angle_50 rfl (lv_at hl 1 rfl) ?_
    refine lv_ineg hx hb dX6_angle_51 ?_
    refine kTopI (z := angI m0 0) (angI_0 hm) ?_
    refine lv_istore_n (lv' := [(2, .int (angI m0 0)), (0, .ref z0), (1, .int (nI m0))]) hx hb dX6_angle_52 rfl hl (by decide) rfl (fun ls hl => ?_)
    refine lv_ldc2d (v := 13830554455654793216) hx hb hown (hts _ wd_kX6_angleV_c111) dX6_angle_53 ?_
    refine lv_dstore_n (lv' := [(3, .double 13830554455654793216), (2, .int (angI m0 0)), (0, .ref z0), (1, .int (nI m0))]) hx hb dX6_angle_56 rfl hl (by decide) rfl (fun ls hl => ?_)
    refine lv_dconst0 hx hb dX6_angle_57 ?_
    refine lv_dstore (lv' := [(5, .double FP.dconst0), (3, .double 13830554455654793216), (2, .int (angI m0 0)), (0, .ref z0), (1, .int (nI m0))]) hx hb dX6_angle_58 hl (by decide) rfl (fun ls hl => ?_)
    refine lv_iconst (v := 0) hx hb dX6_angle_60 (by decide) ?_
    refine lv_istore (lv' := [(7, .int 0), (5, .double FP.dconst0), (3, .double 13830554455654793216), (2, .int (angI m0 0)), (0, .ref z0), (1, .int (nI m0))]) hx hb dX6_angle_61 hl (by decide) rfl (fun ls hl => ?_)
    refine lv_iload_n hx hb dX6_angle_63 rfl (lv_at hl 5 rfl) ?_
    refine lv_ineg hx hb dX6_angle_64 ?_
    refine kTopI (z := angI m0 0) (angI_0 hm) ?_
    refine lv_istore (lv' := [(8, .int (angI m0 0)), (7, .int 0), (5, .double FP.dconst0), (3, .double 13830554455654793216), (2, .int (angI m0 0)), (0, .ref z0), (1, .int (nI m0))]) hx hb dX6_angle_65 hl (by decide) rfl (fun ls hl => ?_)
    have K67 : ∀ (n67 : Nat) (i : Nat), 2 * m0 + 200 - 100 * i < n67 → (100 * i ≤ 2 * m0 + 100) → ∀ (H : Heap) (locs : List Loc), va_P G vwCl [(z0, .inr (5, [.int 0, .int (nI w), .int (nI h), .ref z1, .ref z2, .ref z3, .int (b2i true), .int (b2i false), .double FP.dconst0, .ref z4, .int (nI tc), .ref z5, .int ba, .int br])), (z1, .inl (cZ, 576, .inl (bA P))), (z2, .inl (cZ, 576, .inl (bA N))), (z3, .inl (cI, 4, .inl (e4 ze le ue re de))), (z4, .inl (cI, 16, .inl TM)), (z5, .inl (cI, 104, .inl (jL w h P m0 LN i)))] H → va_D A [(z0, .inr (5, [.int 0, .int (nI w), .int (nI h), .ref z1, .ref z2, .ref z3, .int (b2i true), .int (b2i false), .double FP.dconst0, .ref z4, .int (nI tc), .ref z5, .int ba, .int br])), (z1, .inl (cZ, 576, .inl (bA P))), (z2, .inl (cZ, 576, .inl (bA N))), (z3, .inl (cI, 4, .inl (e4 ze le ue re de))), (z4, .inl (cI, 16, .inl TM)), (z5, .inl (cI, 104, .inl (jL w h P m0 LN i)))] → va_S A s.heap H locs → ∀ ls : Array Slot, lv_has ls 15 [(0, .ref z0), (1, .int (nI m0)), (2, .int (jB w h P m0 i)), (3, .double (jS w h P m0 i)), (5, .double (jT w h P m0 i)), (7, .int (nI i)), (8, .int (angI m0 i))] → W p l e rmX6_angleV s m args below meth c H locs 0 0 Q (F0 m 67 ls []) := by
      intro n67
      induction n67 with
      | zero => intro i hn; exact absurd hn (by omega)
      | succ n67 ih67 =>
        intro i hn67 hi H locs hP hD hS ls hl
        refine lv_iload hx hb dX6_angle_67 (lv_at hl 6 rfl) ?_
        refine lv_iload_n hx hb dX6_angle_69 rfl (lv_at hl 1 rfl) ?_
        refine lv_icmp_gt (tgt := 110) hx hb dX6_angle_70 (by decide) (fun c_70 => ?_) (fun c_70 => ?_)
        · have c_70 := (angI_gt hm (by omega)).mp c_70
          have e9 : (gN m0) = i := by unfold gN; omega
          subst e9
          refine lv_aload_n hx hb dX6_angle_110 rfl (lv_at hl 0 rfl) ?_
          refine lv_dload hx hb dX6_angle_111 (lv_at hl 4 rfl) ?_
          refine lv_iload hx hb dX6_angle_113 (lv_at hl 5 rfl) ?_
          refine lv_i2d hx hb dX6_angle_115 ?_
          have b1 : fIv (-5770237022568448) (5770237022568448) (FP.ddiv (jT w h P m0 (gN m0)) (FP.i2d (nI (gN m0)))) := fDivI (fJT w h P m0 (gN_le hm).2) _ (nI_ne0 (gN_le hm).1 (by have := (gN_le hm).2; omega)) (by decide +kernel)
          refine lv_ddiv hx hb dX6_angle_116 b1.n64 ?_
          refine va_put (D := G) (ci := 5) (v := .double (FP.ddiv (jT w h P m0 (gN m0)) (FP.i2d (nI (gN m0))))) (ty := .double) (C := RX6) (T := TX6) (N := 14) hx hb hts in_kX6_angleV_X6 tyX6 tyX6_ok nmX6 hown hK hP hD hS 0 rfl rfl 8 (by decide) (hts _ fl_kX6_angleV_103) (fun _ h9 => h9) rfl (by decide +kernel) rfl rfl (Nat.le_of_ble_eq_true rfl) dX6_angle_117 (fun H locs (hP : va_P G vwCl [(z0, .inr (5, [.int 0, .int (nI w), .int (nI h), .ref z1, .ref z2, .ref z3, .int (b2i true), .int (b2i false), .double (FP.ddiv (jT w h P m0 (gN m0)) (FP.i2d (nI (gN m0)))), .ref z4, .int (nI tc), .ref z5, .int ba, .int br])), (z1, .inl (cZ, 576, .inl (bA P))), (z2, .inl (cZ, 576, .inl (bA N))), (z3, .inl (cI, 4, .inl (e4 ze le ue re de))), (z4, .inl (cI, 16, .inl TM)), (z5, .inl (cI, 104, .inl (jL w h P m0 LN (gN m0))))] H) (hD : va_D A [(z0, .inr (5, [.int 0, .int (nI w), .int (nI h), .ref z1, .ref z2, .ref z3, .int (b2i true), .int (b2i false), .double (FP.ddiv (jT w h P m0 (gN m0)) (FP.i2d (nI (gN m0)))), .ref z4, .int (nI tc), .ref z5, .int ba, .int br])), (z1, .inl (cZ, 576, .inl (bA P))), (z2, .inl (cZ, 576, .inl (bA N))), (z3, .inl (cI, 4, .inl (e4 ze le ue re de))), (z4, .inl (cI, 16, .inl TM)), (z5, .inl (cI, 104, .inl (jL w h P m0 LN (gN m0))))]) hS => ?_)
          refine lv_iconst (v := 0) hx hb dX6_angle_120 (by decide) ?_
          refine lv_istore (lv' := [(8, .int 0), (0, .ref z0), (1, .int (nI m0)), (2, .int (jB w h P m0 (gN m0))), (3, .double (jS w h P m0 (gN m0))), (5, .double (jT w h P m0 (gN m0))), (7, .int (nI (gN m0)))]) hx hb dX6_angle_121 hl (by decide) rfl (fun ls hl => ?_)
          have K123 : ∀ (n123 : Nat) (i : Nat), 6 - i < n123 → (i ≤ 6) → ∀ (H : Heap) (locs : List Loc), va_P G vwCl [(z0, .inr (5, [.int 0, .int (nI w), .int (nI h), .ref z1, .ref z2, .ref z3, .int (b2i true), .int (b2i false), .double (jM w h P m0), .ref z4, .int (nI tc), .ref z5, .int ba, .int br])), (z1, .inl (cZ, 576, .inl (bA P))), (z2, .inl (cZ, 576, .inl (bA N))), (z3, .inl (cI, 4, .inl (e4 ze le ue re de))), (z4, .inl (cI, 16, .inl TM)), (z5, .inl (cI, 104, .inl (r6E w h P m0 LN i)))] H → va_D A [(z0, .inr (5, [.int 0, .int (nI w), .int (nI h), .ref z1, .ref z2, .ref z3, .int (b2i true), .int (b2i false), .double (jM w h P m0), .ref z4, .int (nI tc), .ref z5, .int ba, .int br])), (z1, .inl (cZ, 576, .inl (bA P))), (z2, .inl (cZ, 576, .inl (bA N))), (z3, .inl (cI, 4, .inl (e4 ze le ue re de))), (z4, .inl (cI, 16, .inl TM)), (z5, .inl (cI, 104, .inl (r6E w h P m0 LN i)))] → va_S A s.heap H locs → ∀ ls : Array Slot, lv_has ls 15 [(0, .ref z0), (1, .int (nI m0)), (2, .int ((r6 w h P m0 i).1)), (3, .double ((r6 w h P m0 i).2)), (8, .int (nI i))] → W p l e rmX6_angleV s m args below meth c H locs 0 0 Q (F0 m 123 ls []) := by
            intro n123
            induction n123 with
            | zero => intro i hn; exact absurd hn (by omega)
            | succ n123 ih123 =>
              intro i hn123 hi H locs hP hD hS ls hl
              have hbe := hok i hi
              refine lv_iload hx hb dX6_angle_123 (lv_at hl 4 rfl) ?_
              refine lv_bipush (v := 6) hx hb dX6_angle_125 (by decide) ?_
              refine kGe (n := 6) (by omega) (by omega) (tgt := 231) hx hb dX6_angle_127 (by decide) (fun c_127 => ?_) (fun c_127 => ?_)
              · have e9 : 6 = i := by omega
                subst e9
                refine lv_aload_n hx hb dX6_angle_231 rfl (lv_at hl 0 rfl) ?_
                refine lv_dload_n hx hb dX6_angle_232 rfl (lv_at hl 3 rfl) ?_
                refine lv_ldc2d (v := 4608308318706860032) hx hb hown (hts _ wd_kX6_angleV_c117) dX6_angle_233 ?_
                refine lv_aload_n hx hb dX6_angle_236 rfl (lv_at hl 0 rfl) ?_
                refine va_get (D := G) (ci := 5) (v := .double (jM w h P m0)) (C := RX6) (T := TX6) (N := 14) hx hb hts in_kX6_angleV_X6 hown hK hP 0 rfl rfl 8 (by decide) (hts _ fl_kX6_angleV_103) (fun _ h9 => h9) rfl dX6_angle_237 ?_
                have b2 : fIv (-7212796278210560) (7212796278210560) (FP.dmul 4608308318706860032 (jM w h P m0)) := fIv.mul (n := 81920) (m := 5770237022568448) (k := 7212796278210560) (fc_4608308318706860032.weak (by decide) (by decide) (by decide) (by decide)) (fJM w h P hm) (by decide +kernel) (by decide +kernel)
                refine lv_dmul hx hb dX6_angle_240 b2.n64 ?_
                refine lv_dcmp hx hb dX6_angle_241 ?_
                refine lv_if_lt (tgt := 249) hx hb dX6_angle_242 (by decide) (fun c_242 => ?_) (fun c_242 => ?_)
                · refine lv_iconst (v := 0) hx hb dX6_angle_249 (by decide) ?_
                  refine va_put (D := G) (ci := 5) (v := .int 0) (ty := .boolean) (C := RX6) (T := TX6) (N := 14) hx hb hts in_kX6_angleV_X6 tyX6 tyX6_ok nmX6 hown hK hP hD hS 0 rfl rfl 7 (by decide) (hts _ fl_kX6_angleV_100) (fun _ h9 => h9) rfl (by decide +kernel) rfl rfl (Nat.le_of_ble_eq_true rfl) dX6_angle_250 (fun H locs (hP : va_P G vwCl [(z0, .inr (5, [.int 0, .int (nI w), .int (nI h), .ref z1, .ref z2, .ref z3, .int (b2i true), .int 0, .double (jM w h P m0), .ref z4, .int (nI tc), .ref z5, .int ba, .int br])), (z1, .inl (cZ, 576, .inl (bA P))), (z2, .inl (cZ, 576, .inl (bA N))), (z3, .inl (cI, 4, .inl (e4 ze le ue re de))), (z4, .inl (cI, 16, .inl TM)), (z5, .inl (cI, 104, .inl (r6E w h P m0 LN 6)))] H) (hD : va_D A [(z0, .inr (5, [.int 0, .int (nI w), .int (nI h), .ref z1, .ref z2, .ref z3, .int (b2i true), .int 0, .double (jM w h P m0), .ref z4, .int (nI tc), .ref z5, .int ba, .int br])), (z1, .inl (cZ, 576, .inl (bA P))), (z2, .inl (cZ, 576, .inl (bA N))), (z3, .inl (cI, 4, .inl (e4 ze le ue re de))), (z4, .inl (cI, 16, .inl TM)), (z5, .inl (cI, 104, .inl (r6E w h P m0 LN 6)))]) hS => ?_)
                  refine lv_iload_n hx hb dX6_angle_253 rfl (lv_at hl 2 rfl) ?_
                  exact hend _ _ _ _ _ _ dX6_angle_254 hP hD hS (by first | (simp only [maR, maSu, maMn, maLN, mSu, b2i_t, b2i_f, c_2, c_9, c_20, c_44, c_70, c_127, c_242, ↓reduceIte]; done) | (simp [maR, maSu, maMn, maLN, mSu, b2i_t, b2i_f, c_2, c_9, c_20, c_44, c_70, c_127, c_242]; done) | rfl) (by first | (simp only [maR, maSu, maMn, maLN, mSu, b2i_t, b2i_f, c_2, c_9, c_20, c_44, c_70, c_127, c_242, ↓reduceIte]; done) | (simp [maR, maSu, maMn, maLN, mSu, b2i_t, b2i_f, c_2, c_9, c_20, c_44, c_70, c_127, c_242]; done) | rfl)
                · refine lv_iconst (v := 1) hx hb dX6_angle_245 (by decide) ?_
                  refine lv_goto (tgt := 250) hx hb dX6_angle_246 (by decide) ?_
                  refine va_put (D := G) (ci := 5) (v := .int 1) (ty := .boolean) (C := RX6) (T := TX6) (N := 14) hx hb hts in_kX6_angleV_X6 tyX6 tyX6_ok nmX6 hown hK hP hD hS 0 rfl rfl 7 (by decide) (hts _ fl_kX6_angleV_100) (fun _ h9 => h9) rfl (by decide +kernel) rfl rfl (Nat.le_of_ble_eq_true rfl) dX6_angle_250 (fun H locs (hP : va_P G vwCl [(z0, .inr (5, [.int 0, .int (nI w), .int (nI h), .ref z1, .ref z2, .ref z3, .int (b2i true), .int 1, .double (jM w h P m0), .ref z4, .int (nI tc), .ref z5, .int ba, .int br])), (z1, .inl (cZ, 576, .inl (bA P))), (z2, .inl (cZ, 576, .inl (bA N))), (z3, .inl (cI, 4, .inl (e4 ze le ue re de))), (z4, .inl (cI, 16, .inl TM)), (z5, .inl (cI, 104, .inl (r6E w h P m0 LN 6)))] H) (hD : va_D A [(z0, .inr (5, [.int 0, .int (nI w), .int (nI h), .ref z1, .ref z2, .ref z3, .int (b2i true), .int 1, .double (jM w h P m0), .ref z4, .int (nI tc), .ref z5, .int ba, .int br])), (z1, .inl (cZ, 576, .inl (bA P))), (z2, .inl (cZ, 576, .inl (bA N))), (z3, .inl (cI, 4, .inl (e4 ze le ue re de))), (z4, .inl (cI, 16, .inl TM)), (z5, .inl (cI, 104, .inl (r6E w h P m0 LN 6)))]) hS => ?_)
                  refine lv_iload_n hx hb dX6_angle_253 rfl (lv_at hl 2 rfl) ?_
                  exact hend _ _ _ _ _ _ dX6_angle_254 hP hD hS (by first | (simp only [maR, maSu, maMn, maLN, mSu, b2i_t, b2i_f, c_2, c_9, c_20, c_44, c_70, c_127, c_242, ↓reduceIte]; done) | (simp [maR, maSu, maMn, maLN, mSu, b2i_t, b2i_f, c_2, c_9, c_20, c_44, c_70, c_127, c_242]; done) | rfl) (by first | (simp only [maR, maSu, maMn, maLN, mSu, b2i_t, b2i_f, c_2, c_9, c_20, c_44, c_70, c_127, c_242, ↓reduceIte]; done) | (simp [maR, maSu, maMn, maLN, mSu, b2i_t, b2i_f, c_2, c_9, c_20, c_44, c_70, c_127, c_242]; done) | rfl)
              · refine lv_iload hx hb dX6_angle_130 (lv_at hl 4 rfl) ?_
                refine kSi (rest := []) (kX6_stepOf l G cI cZ cJ cD i (by omega)) ⟨hx, hb, hml, hown, hts⟩ (va_cwS 1 hts gX6_angle_X6_stepOf rfl rfl rfl hs_X6_stepOf ⟨Nat.le_of_ble_eq_true rfl, Nat.le_of_ble_eq_true rfl⟩) hK hP hD hS hA rfl hl.1 rfl (Nat.le_of_ble_eq_true rfl) dX6_angle_132 ⟨Nat.le_of_ble_eq_true rfl, Nat.le_of_ble_eq_true rfl⟩ rfl rfl (fun H locs hP hD hS => ?_)
                have hsp := stpN_in i (by omega)
                refine lv_istore (lv' := [(9, .int (stpN i)), (0, .ref z0), (1, .int (nI m0)), (2, .int ((r6 w h P m0 i).1)), (3, .double ((r6 w h P m0 i).2)), (8, .int (nI i))]) hx hb dX6_angle_135 hl (by decide) rfl (fun ls hl => ?_)
                refine lv_iload_n hx hb dX6_angle_137 rfl (lv_at hl 3 rfl) ?_
                refine lv_istore (lv' := [(10, .int ((r6 w h P m0 i).1)), (9, .int (stpN i)), (0, .ref z0), (1, .int (nI m0)), (2, .int ((r6 w h P m0 i).1)), (3, .double ((r6 w h P m0 i).2)), (8, .int (nI i))]) hx hb dX6_angle_138 hl (by decide) rfl (fun ls hl => ?_)
                refine lv_iload hx hb dX6_angle_140 (lv_at hl 0 rfl) ?_
                refine lv_iload hx hb dX6_angle_142 (lv_at hl 1 rfl) ?_
                refine lv_isub hx hb dX6_angle_144 ?_
                refine lv_iload_n hx hb dX6_angle_145 rfl (lv_at hl 3 rfl) ?_
                refine lv_ineg hx hb dX6_angle_146 ?_
                refine lv_icmp_lt (tgt := 162) hx hb dX6_angle_147 (by decide) (fun c_147 => ?_) (fun c_147 => ?_)
                · refine lv_ldc2d (v := 13830554455654793216) hx hb hown (hts _ wd_kX6_angleV_c111) dX6_angle_162 ?_
                  refine kTopD (z := rL w h P m0 ((r6 w h P m0 i).1) (stpN i)) ((if_pos c_147).symm) ?_
                  have hE : r6E w h P m0 LN i = rE1 w h P m0 ((r6 w h P m0 i).1) (stpN i) (r6E w h P m0 LN i) := (if_pos c_147).symm
                  rw [hE] at hP hD
                  refine lv_dstore (lv' := [(11, .double (rL w h P m0 ((r6 w h P m0 i).1) (stpN i))), (10, .int ((r6 w h P m0 i).1)), (9, .int (stpN i)), (0, .ref z0), (1, .int (nI m0)), (2, .int ((r6 w h P m0 i).1)), (3, .double ((r6 w h P m0 i).2)), (8, .int (nI i))]) hx hb dX6_angle_165 hl (by decide) rfl (fun ls hl => ?_)
                  refine lv_iload hx hb dX6_angle_167 (lv_at hl 1 rfl) ?_
                  refine lv_iload hx hb dX6_angle_169 (lv_at hl 2 rfl) ?_
                  refine lv_iadd hx hb dX6_angle_171 ?_
                  refine lv_iload_n hx hb dX6_angle_172 rfl (lv_at hl 4 rfl) ?_
                  refine lv_icmp_gt (tgt := 188) hx hb dX6_angle_173 (by decide) (fun c_173 => ?_) (fun c_173 => ?_)
                  · refine lv_ldc2d (v := 13830554455654793216) hx hb hown (hts _ wd_kX6_angleV_c111) dX6_angle_188 ?_
                    refine kTopD (z := rM w h P m0 ((r6 w h P m0 i).1) (stpN i)) ((if_pos c_173).symm) ?_
                    have hE : rE1 w h P m0 ((r6 w h P m0 i).1) (stpN i) (r6E w h P m0 LN i) = rE2 w h P m0 ((r6 w h P m0 i).1) (stpN i) (rE1 w h P m0 ((r6 w h P m0 i).1) (stpN i) (r6E w h P m0 LN i)) := (if_pos c_173).symm
                    rw [hE] at hP hD
                    refine lv_dstore (lv' := [(13, .double (rM w h P m0 ((r6 w h P m0 i).1) (stpN i))), (11, .double (rL w h P m0 ((r6 w h P m0 i).1) (stpN i))), (10, .int ((r6 w h P m0 i).1)), (9, .int (stpN i)), (0, .ref z0), (1, .int (nI m0)), (2, .int ((r6 w h P m0 i).1)), (3, .double ((r6 w h P m0 i).2)), (8, .int (nI i))]) hx hb dX6_angle_191 hl (by decide) rfl (fun ls hl => ?_)
                    refine lv_dload hx hb dX6_angle_193 (lv_at hl 1 rfl) ?_
                    refine lv_dload_n hx hb dX6_angle_195 rfl (lv_at hl 7 rfl) ?_
                    refine lv_dcmp hx hb dX6_angle_196 ?_
                    refine lv_if_lt (tgt := 209) hx hb dX6_angle_197 (by decide) (fun c_197 => ?_) (fun c_197 => ?_)
                    · have hl : lv_has ls 15 [(13, .double (rM w h P m0 ((r6 w h P m0 i).1) (stpN i))), (11, .double (rL w h P m0 ((r6 w h P m0 i).1) (stpN i))), (10, .int ((r6 w h P m0 i).1)), (9, .int (stpN i)), (0, .ref z0), (1, .int (nI m0)), (2, .int (rB1 w h P m0 ((r6 w h P m0 i).1) (stpN i) ((r6 w h P m0 i).2))), (3, .double ((r6 w h P m0 i).2)), (8, .int (nI i))] := by rw [show rB1 w h P m0 ((r6 w h P m0 i).1) (stpN i) ((r6 w h P m0 i).2) = (r6 w h P m0 i).1 from ((if_pos c_197).symm).symm]; exact hl
                      have hl : lv_has ls 15 [(13, .double (rM w h P m0 ((r6 w h P m0 i).1) (stpN i))), (11, .double (rL w h P m0 ((r6 w h P m0 i).1) (stpN i))), (10, .int ((r6 w h P m0 i).1)), (9, .int (stpN i)), (0, .ref z0), (1, .int (nI m0)), (2, .int (rB1 w h P m0 ((r6 w h P m0 i).1) (stpN i) ((r6 w h P m0 i).2))), (3, .double (rS1 w h P m0 ((r6 w h P m0 i).1) (stpN i) ((r6 w h P m0 i).2))), (8, .int (nI i))] := by rw [show rS1 w h P m0 ((r6 w h P m0 i).1) (stpN i) ((r6 w h P m0 i).2) = (r6 w h P m0 i).2 from ((if_pos c_197).symm).symm]; exact hl
                      refine lv_dload hx hb dX6_angle_209 (lv_at hl 0 rfl) ?_
                      refine lv_dload_n hx hb dX6_angle_211 rfl (lv_at hl 7 rfl) ?_
                      refine lv_dcmp hx hb dX6_angle_212 ?_
                      refine lv_if_le (tgt := 225) hx hb dX6_angle_213 (by decide) (fun c_213 => ?_) (fun c_213 => ?_)
                      · have hl : lv_has ls 15 [(13, .double (rM w h P m0 ((r6 w h P m0 i).1) (stpN i))), (11, .double (rL w h P m0 ((r6 w h P m0 i).1) (stpN i))), (10, .int ((r6 w h P m0 i).1)), (9, .int (stpN i)), (0, .ref z0), (1, .int (nI m0)), (2, .int (rB2 w h P m0 ((r6 w h P m0 i).1) (stpN i) ((r6 w h P m0 i).2))), (3, .double (rS1 w h P m0 ((r6 w h P m0 i).1) (stpN i) ((r6 w h P m0 i).2))), (8, .int (nI i))] := by rw [show rB2 w h P m0 ((r6 w h P m0 i).1) (stpN i) ((r6 w h P m0 i).2) = rB1 w h P m0 ((r6 w h P m0 i).1) (stpN i) ((r6 w h P m0 i).2) from ((if_pos c_213).symm).symm]; exact hl
                        have hl : lv_has ls 15 [(13, .double (rM w h P m0 ((r6 w h P m0 i).1) (stpN i))), (11, .double (rL w h P m0 ((r6 w h P m0 i).1) (stpN i))), (10, .int ((r6 w h P m0 i).1)), (9, .int (stpN i)), (0, .ref z0), (1, .int (nI m0)), (2, .int (rB2 w h P m0 ((r6 w h P m0 i).1) (stpN i) ((r6 w h P m0 i).2))), (3, .double (rS2 w h P m0 ((r6 w h P m0 i).1) (stpN i) ((r6 w h P m0 i).2))), (8, .int (nI i))] := by rw [show rS2 w h P m0 ((r6 w h P m0 i).1) (stpN i) ((r6 w h P m0 i).2) = rS1 w h P m0 ((r6 w h P m0 i).1) (stpN i) ((r6 w h P m0 i).2) from ((if_pos c_213).symm).symm]; exact hl
                        refine lv_iinc (v := nI (i + 1)) (lv' := [(8, .int (nI (i + 1))), (13, .double (rM w h P m0 ((r6 w h P m0 i).1) (stpN i))), (11, .double (rL w h P m0 ((r6 w h P m0 i).1) (stpN i))), (10, .int ((r6 w h P m0 i).1)), (9, .int (stpN i)), (0, .ref z0), (1, .int (nI m0)), (2, .int (rB2 w h P m0 ((r6 w h P m0 i).1) (stpN i) ((r6 w h P m0 i).2))), (3, .double (rS2 w h P m0 ((r6 w h P m0 i).1) (stpN i) ((r6 w h P m0 i).2)))]) hx hb dX6_angle_225 hl (k := 8) rfl (nI_1 _) (by decide) rfl (fun ls hl => ?_)
                        refine lv_goto (tgt := 123) hx hb dX6_angle_228 (by decide) ?_
                        exact ih123 (i + 1) (by omega) (by omega) _ _ hP hD hS _ (lv_sub hl [5, 6, 7, 8, 0] rfl)
                      · refine lv_iload hx hb dX6_angle_216 (lv_at hl 2 rfl) ?_
                        refine lv_iload hx hb dX6_angle_218 (lv_at hl 3 rfl) ?_
                        refine lv_iadd hx hb dX6_angle_220 ?_
                        refine kTopI (z := rB2 w h P m0 ((r6 w h P m0 i).1) (stpN i) ((r6 w h P m0 i).2)) ((if_neg c_213).symm) ?_
                        refine lv_istore_n (lv' := [(2, .int (rB2 w h P m0 ((r6 w h P m0 i).1) (stpN i) ((r6 w h P m0 i).2))), (13, .double (rM w h P m0 ((r6 w h P m0 i).1) (stpN i))), (11, .double (rL w h P m0 ((r6 w h P m0 i).1) (stpN i))), (10, .int ((r6 w h P m0 i).1)), (9, .int (stpN i)), (0, .ref z0), (1, .int (nI m0)), (3, .double (rS1 w h P m0 ((r6 w h P m0 i).1) (stpN i) ((r6 w h P m0 i).2))), (8, .int (nI i))]) hx hb dX6_angle_221 rfl hl (by decide) rfl (fun ls hl => ?_)
                        refine lv_dload hx hb dX6_angle_222 (lv_at hl 1 rfl) ?_
                        refine kTopD (z := rS2 w h P m0 ((r6 w h P m0 i).1) (stpN i) ((r6 w h P m0 i).2)) ((if_neg c_213).symm) ?_
                        refine lv_dstore_n (lv' := [(3, .double (rS2 w h P m0 ((r6 w h P m0 i).1) (stpN i) ((r6 w h P m0 i).2))), (2, .int (rB2 w h P m0 ((r6 w h P m0 i).1) (stpN i) ((r6 w h P m0 i).2))), (13, .double (rM w h P m0 ((r6 w h P m0 i).1) (stpN i))), (11, .double (rL w h P m0 ((r6 w h P m0 i).1) (stpN i))), (10, .int ((r6 w h P m0 i).1)), (9, .int (stpN i)), (0, .ref z0), (1, .int (nI m0)), (8, .int (nI i))]) hx hb dX6_angle_224 rfl hl (by decide) rfl (fun ls hl => ?_)
                        refine lv_iinc (v := nI (i + 1)) (lv' := [(8, .int (nI (i + 1))), (3, .double (rS2 w h P m0 ((r6 w h P m0 i).1) (stpN i) ((r6 w h P m0 i).2))), (2, .int (rB2 w h P m0 ((r6 w h P m0 i).1) (stpN i) ((r6 w h P m0 i).2))), (13, .double (rM w h P m0 ((r6 w h P m0 i).1) (stpN i))), (11, .double (rL w h P m0 ((r6 w h P m0 i).1) (stpN i))), (10, .int ((r6 w h P m0 i).1)), (9, .int (stpN i)), (0, .ref z0), (1, .int (nI m0))]) hx hb dX6_angle_225 hl (k := 8) rfl (nI_1 _) (by decide) rfl (fun ls hl => ?_)
                        refine lv_goto (tgt := 123) hx hb dX6_angle_228 (by decide) ?_
                        exact ih123 (i + 1) (by omega) (by omega) _ _ hP hD hS _ (lv_sub hl [7, 8, 2, 1, 0] rfl)
                    · refine lv_iload hx hb dX6_angle_200 (lv_at hl 2 rfl) ?_
                      refine lv_iload hx hb dX6_angle_202 (lv_at hl 3 rfl) ?_
                      refine lv_isub hx hb dX6_angle_204 ?_
                      refine kTopI (z := rB1 w h P m0 ((r6 w h P m0 i).1) (stpN i) ((r6 w h P m0 i).2)) ((if_neg c_197).symm) ?_
                      refine lv_istore_n (lv' := [(2, .int (rB1 w h P m0 ((r6 w h P m0 i).1) (stpN i) ((r6 w h P m0 i).2))), (13, .double (rM w h P m0 ((r6 w h P m0 i).1) (stpN i))), (11, .double (rL w h P m0 ((r6 w h P m0 i).1) (stpN i))), (10, .int ((r6 w h P m0 i).1)), (9, .int (stpN i)), (0, .ref z0), (1, .int (nI m0)), (3, .double ((r6 w h P m0 i).2)), (8, .int (nI i))]) hx hb dX6_angle_205 rfl hl (by decide) rfl (fun ls hl => ?_)
                      refine lv_dload hx hb dX6_angle_206 (lv_at hl 2 rfl) ?_
                      refine kTopD (z := rS1 w h P m0 ((r6 w h P m0 i).1) (stpN i) ((r6 w h P m0 i).2)) ((if_neg c_197).symm) ?_
                      refine lv_dstore_n (lv' := [(3, .double (rS1 w h P m0 ((r6 w h P m0 i).1) (stpN i) ((r6 w h P m0 i).2))), (2, .int (rB1 w h P m0 ((r6 w h P m0 i).1) (stpN i) ((r6 w h P m0 i).2))), (13, .double (rM w h P m0 ((r6 w h P m0 i).1) (stpN i))), (11, .double (rL w h P m0 ((r6 w h P m0 i).1) (stpN i))), (10, .int ((r6 w h P m0 i).1)), (9, .int (stpN i)), (0, .ref z0), (1, .int (nI m0)), (8, .int (nI i))]) hx hb dX6_angle_208 rfl hl (by decide) rfl (fun ls hl => ?_)
                      refine lv_dload hx hb dX6_angle_209 (lv_at hl 2 rfl) ?_
                      refine lv_dload_n hx hb dX6_angle_211 rfl (lv_at hl 0 rfl) ?_
                      refine lv_dcmp hx hb dX6_angle_212 ?_
                      refine lv_if_le (tgt := 225) hx hb dX6_angle_213 (by decide) (fun c_213 => ?_) (fun c_213 => ?_)
                      · have hl : lv_has ls 15 [(3, .double (rS1 w h P m0 ((r6 w h P m0 i).1) (stpN i) ((r6 w h P m0 i).2))), (2, .int (rB2 w h P m0 ((r6 w h P m0 i).1) (stpN i) ((r6 w h P m0 i).2))), (13, .double (rM w h P m0 ((r6 w h P m0 i).1) (stpN i))), (11, .double (rL w h P m0 ((r6 w h P m0 i).1) (stpN i))), (10, .int ((r6 w h P m0 i).1)), (9, .int (stpN i)), (0, .ref z0), (1, .int (nI m0)), (8, .int (nI i))] := by rw [show rB2 w h P m0 ((r6 w h P m0 i).1) (stpN i) ((r6 w h P m0 i).2) = rB1 w h P m0 ((r6 w h P m0 i).1) (stpN i) ((r6 w h P m0 i).2) from ((if_pos c_213).symm).symm]; exact hl
                        have hl : lv_has ls 15 [(3, .double (rS2 w h P m0 ((r6 w h P m0 i).1) (stpN i) ((r6 w h P m0 i).2))), (2, .int (rB2 w h P m0 ((r6 w h P m0 i).1) (stpN i) ((r6 w h P m0 i).2))), (13, .double (rM w h P m0 ((r6 w h P m0 i).1) (stpN i))), (11, .double (rL w h P m0 ((r6 w h P m0 i).1) (stpN i))), (10, .int ((r6 w h P m0 i).1)), (9, .int (stpN i)), (0, .ref z0), (1, .int (nI m0)), (8, .int (nI i))] := by rw [show rS2 w h P m0 ((r6 w h P m0 i).1) (stpN i) ((r6 w h P m0 i).2) = rS1 w h P m0 ((r6 w h P m0 i).1) (stpN i) ((r6 w h P m0 i).2) from ((if_pos c_213).symm).symm]; exact hl
                        refine lv_iinc (v := nI (i + 1)) (lv' := [(8, .int (nI (i + 1))), (3, .double (rS2 w h P m0 ((r6 w h P m0 i).1) (stpN i) ((r6 w h P m0 i).2))), (2, .int (rB2 w h P m0 ((r6 w h P m0 i).1) (stpN i) ((r6 w h P m0 i).2))), (13, .double (rM w h P m0 ((r6 w h P m0 i).1) (stpN i))), (11, .double (rL w h P m0 ((r6 w h P m0 i).1) (stpN i))), (10, .int ((r6 w h P m0 i).1)), (9, .int (stpN i)), (0, .ref z0), (1, .int (nI m0))]) hx hb dX6_angle_225 hl (k := 8) rfl (nI_1 _) (by decide) rfl (fun ls hl => ?_)
                        refine lv_goto (tgt := 123) hx hb dX6_angle_228 (by decide) ?_
                        exact ih123 (i + 1) (by omega) (by omega) _ _ hP hD hS _ (lv_sub hl [7, 8, 2, 1, 0] rfl)
                      · refine lv_iload hx hb dX6_angle_216 (lv_at hl 4 rfl) ?_
                        refine lv_iload hx hb dX6_angle_218 (lv_at hl 5 rfl) ?_
                        refine lv_iadd hx hb dX6_angle_220 ?_
                        refine kTopI (z := rB2 w h P m0 ((r6 w h P m0 i).1) (stpN i) ((r6 w h P m0 i).2)) ((if_neg c_213).symm) ?_
                        refine lv_istore_n (lv' := [(2, .int (rB2 w h P m0 ((r6 w h P m0 i).1) (stpN i) ((r6 w h P m0 i).2))), (3, .double (rS1 w h P m0 ((r6 w h P m0 i).1) (stpN i) ((r6 w h P m0 i).2))), (13, .double (rM w h P m0 ((r6 w h P m0 i).1) (stpN i))), (11, .double (rL w h P m0 ((r6 w h P m0 i).1) (stpN i))), (10, .int ((r6 w h P m0 i).1)), (9, .int (stpN i)), (0, .ref z0), (1, .int (nI m0)), (8, .int (nI i))]) hx hb dX6_angle_221 rfl hl (by decide) rfl (fun ls hl => ?_)
                        refine lv_dload hx hb dX6_angle_222 (lv_at hl 2 rfl) ?_
                        refine kTopD (z := rS2 w h P m0 ((r6 w h P m0 i).1) (stpN i) ((r6 w h P m0 i).2)) ((if_neg c_213).symm) ?_
                        refine lv_dstore_n (lv' := [(3, .double (rS2 w h P m0 ((r6 w h P m0 i).1) (stpN i) ((r6 w h P m0 i).2))), (2, .int (rB2 w h P m0 ((r6 w h P m0 i).1) (stpN i) ((r6 w h P m0 i).2))), (13, .double (rM w h P m0 ((r6 w h P m0 i).1) (stpN i))), (11, .double (rL w h P m0 ((r6 w h P m0 i).1) (stpN i))), (10, .int ((r6 w h P m0 i).1)), (9, .int (stpN i)), (0, .ref z0), (1, .int (nI m0)), (8, .int (nI i))]) hx hb dX6_angle_224 rfl hl (by decide) rfl (fun ls hl => ?_)
                        refine lv_iinc (v := nI (i + 1)) (lv' := [(8, .int (nI (i + 1))), (3, .double (rS2 w h P m0 ((r6 w h P m0 i).1) (stpN i) ((r6 w h P m0 i).2))), (2, .int (rB2 w h P m0 ((r6 w h P m0 i).1) (stpN i) ((r6 w h P m0 i).2))), (13, .double (rM w h P m0 ((r6 w h P m0 i).1) (stpN i))), (11, .double (rL w h P m0 ((r6 w h P m0 i).1) (stpN i))), (10, .int ((r6 w h P m0 i).1)), (9, .int (stpN i)), (0, .ref z0), (1, .int (nI m0))]) hx hb dX6_angle_225 hl (k := 8) rfl (nI_1 _) (by decide) rfl (fun ls hl => ?_)
                        refine lv_goto (tgt := 123) hx hb dX6_angle_228 (by decide) ?_
                        exact ih123 (i + 1) (by omega) (by omega) _ _ hP hD hS _ (lv_sub hl [7, 8, 2, 1, 0] rfl)
                  · refine lv_aload_n hx hb dX6_angle_176 rfl (lv_at hl 3 rfl) ?_
                    refine lv_iload hx hb dX6_angle_177 (lv_at hl 1 rfl) ?_
                    refine lv_iload hx hb dX6_angle_179 (lv_at hl 2 rfl) ?_
                    refine lv_iadd hx hb dX6_angle_181 ?_
                    refine kVd (w' := [(z0, .inr (5, [.int 0, .int (nI w), .int (nI h), .ref z1, .ref z2, .ref z3, .int (b2i true), .int (b2i false), .double (jM w h P m0), .ref z4, .int (nI tc), .ref z5, .int ba, .int br])), (z1, .inl (cZ, 576, .inl (bA P))), (z2, .inl (cZ, 576, .inl (bA N))), (z3, .inl (cI, 4, .inl (e4 ze le ue re de))), (z4, .inl (cI, 16, .inl TM)), (z5, .inl (cI, 104, .inl (mLn w h P (rE1 w h P m0 ((r6 w h P m0 i).1) (stpN i) (r6E w h P m0 LN i)) (((r6 w h P m0 i).1) + (stpN i)))))]) (wr := []) (isC := [0, 1, 2, 3, 4, 5]) (isR := []) (pm := [0, 1, 2, 3, 4, 5]) (rest := []) (kX6_sumOf l G cI cZ cJ cD z0 z1 z2 z3 z4 z5 w h hw hh 0 P N ze le ue re de true false (jM w h P m0) tc TM (rE1 w h P m0 ((r6 w h P m0 i).1) (stpN i) (r6E w h P m0 LN i)) ba br (((r6 w h P m0 i).1) + (stpN i)) (by have := tb_hi hm hbe.1 hbe.2 hsp.1 hsp.2 c_173; omega) (by have := tb_hi hm hbe.1 hbe.2 hsp.1 hsp.2 c_173; omega)) ⟨hx, hb, hml, hown, hts⟩ (cwV 1 hts gX6_angle_X6_sumOf rfl rfl rfl hd_X6_sumOf ⟨Nat.le_of_ble_eq_true rfl, Nat.le_of_ble_eq_true rfl⟩) hK hP hD hS hA ⟨rfl, rfl, rfl, by decide, rfl, rfl, rfl⟩ 5 0 rfl rfl rfl hl.1 rfl (Nat.le_of_ble_eq_true rfl) dX6_angle_182 ⟨Nat.le_of_ble_eq_true rfl, Nat.le_of_ble_eq_true rfl⟩ rfl rfl (fun H locs hP hD hS => ?_)
                    have b3 : fIv (-140737488355328) (140737488355328) (mSum w h P (((r6 w h P m0 i).1) + (stpN i))) := fMSum _ _ _ _
                    refine kTopD (z := rM w h P m0 ((r6 w h P m0 i).1) (stpN i)) ((if_neg c_173).symm) ?_
                    have hE : mLn w h P (rE1 w h P m0 ((r6 w h P m0 i).1) (stpN i) (r6E w h P m0 LN i)) (((r6 w h P m0 i).1) + (stpN i)) = rE2 w h P m0 ((r6 w h P m0 i).1) (stpN i) (rE1 w h P m0 ((r6 w h P m0 i).1) (stpN i) (r6E w h P m0 LN i)) := (if_neg c_173).symm
                    rw [hE] at hP hD
                    refine lv_goto (tgt := 191) hx hb dX6_angle_185 (by decide) ?_
                    refine lv_dstore (lv' := [(13, .double (rM w h P m0 ((r6 w h P m0 i).1) (stpN i))), (11, .double (rL w h P m0 ((r6 w h P m0 i).1) (stpN i))), (10, .int ((r6 w h P m0 i).1)), (9, .int (stpN i)), (0, .ref z0), (1, .int (nI m0)), (2, .int ((r6 w h P m0 i).1)), (3, .double ((r6 w h P m0 i).2)), (8, .int (nI i))]) hx hb dX6_angle_191 hl (by decide) rfl (fun ls hl => ?_)
                    refine lv_dload hx hb dX6_angle_193 (lv_at hl 1 rfl) ?_
                    refine lv_dload_n hx hb dX6_angle_195 rfl (lv_at hl 7 rfl) ?_
                    refine lv_dcmp hx hb dX6_angle_196 ?_
                    refine lv_if_lt (tgt := 209) hx hb dX6_angle_197 (by decide) (fun c_197 => ?_) (fun c_197 => ?_)
                    · have hl : lv_has ls 15 [(13, .double (rM w h P m0 ((r6 w h P m0 i).1) (stpN i))), (11, .double (rL w h P m0 ((r6 w h P m0 i).1) (stpN i))), (10, .int ((r6 w h P m0 i).1)), (9, .int (stpN i)), (0, .ref z0), (1, .int (nI m0)), (2, .int (rB1 w h P m0 ((r6 w h P m0 i).1) (stpN i) ((r6 w h P m0 i).2))), (3, .double ((r6 w h P m0 i).2)), (8, .int (nI i))] := by rw [show rB1 w h P m0 ((r6 w h P m0 i).1) (stpN i) ((r6 w h P m0 i).2) = (r6 w h P m0 i).1 from ((if_pos c_197).symm).symm]; exact hl
                      have hl : lv_has ls 15 [(13, .double (rM w h P m0 ((r6 w h P m0 i).1) (stpN i))), (11, .double (rL w h P m0 ((r6 w h P m0 i).1) (stpN i))), (10, .int ((r6 w h P m0 i).1)), (9, .int (stpN i)), (0, .ref z0), (1, .int (nI m0)), (2, .int (rB1 w h P m0 ((r6 w h P m0 i).1) (stpN i) ((r6 w h P m0 i).2))), (3, .double (rS1 w h P m0 ((r6 w h P m0 i).1) (stpN i) ((r6 w h P m0 i).2))), (8, .int (nI i))] := by rw [show rS1 w h P m0 ((r6 w h P m0 i).1) (stpN i) ((r6 w h P m0 i).2) = (r6 w h P m0 i).2 from ((if_pos c_197).symm).symm]; exact hl
                      refine lv_dload hx hb dX6_angle_209 (lv_at hl 0 rfl) ?_
                      refine lv_dload_n hx hb dX6_angle_211 rfl (lv_at hl 7 rfl) ?_
                      refine lv_dcmp hx hb dX6_angle_212 ?_
                      refine lv_if_le (tgt := 225) hx hb dX6_angle_213 (by decide) (fun c_213 => ?_) (fun c_213 => ?_)
                      · have hl : lv_has ls 15 [(13, .double (rM w h P m0 ((r6 w h P m0 i).1) (stpN i))), (11, .double (rL w h P m0 ((r6 w h P m0 i).1) (stpN i))), (10, .int ((r6 w h P m0 i).1)), (9, .int (stpN i)), (0, .ref z0), (1, .int (nI m0)), (2, .int (rB2 w h P m0 ((r6 w h P m0 i).1) (stpN i) ((r6 w h P m0 i).2))), (3, .double (rS1 w h P m0 ((r6 w h P m0 i).1) (stpN i) ((r6 w h P m0 i).2))), (8, .int (nI i))] := by rw [show rB2 w h P m0 ((r6 w h P m0 i).1) (stpN i) ((r6 w h P m0 i).2) = rB1 w h P m0 ((r6 w h P m0 i).1) (stpN i) ((r6 w h P m0 i).2) from ((if_pos c_213).symm).symm]; exact hl
                        have hl : lv_has ls 15 [(13, .double (rM w h P m0 ((r6 w h P m0 i).1) (stpN i))), (11, .double (rL w h P m0 ((r6 w h P m0 i).1) (stpN i))), (10, .int ((r6 w h P m0 i).1)), (9, .int (stpN i)), (0, .ref z0), (1, .int (nI m0)), (2, .int (rB2 w h P m0 ((r6 w h P m0 i).1) (stpN i) ((r6 w h P m0 i).2))), (3, .double (rS2 w h P m0 ((r6 w h P m0 i).1) (stpN i) ((r6 w h P m0 i).2))), (8, .int (nI i))] := by rw [show rS2 w h P m0 ((r6 w h P m0 i).1) (stpN i) ((r6 w h P m0 i).2) = rS1 w h P m0 ((r6 w h P m0 i).1) (stpN i) ((r6 w h P m0 i).2) from ((if_pos c_213).symm).symm]; exact hl
                        refine lv_iinc (v := nI (i + 1)) (lv' := [(8, .int (nI (i + 1))), (13, .double (rM w h P m0 ((r6 w h P m0 i).1) (stpN i))), (11, .double (rL w h P m0 ((r6 w h P m0 i).1) (stpN i))), (10, .int ((r6 w h P m0 i).1)), (9, .int (stpN i)), (0, .ref z0), (1, .int (nI m0)), (2, .int (rB2 w h P m0 ((r6 w h P m0 i).1) (stpN i) ((r6 w h P m0 i).2))), (3, .double (rS2 w h P m0 ((r6 w h P m0 i).1) (stpN i) ((r6 w h P m0 i).2)))]) hx hb dX6_angle_225 hl (k := 8) rfl (nI_1 _) (by decide) rfl (fun ls hl => ?_)
                        refine lv_goto (tgt := 123) hx hb dX6_angle_228 (by decide) ?_
                        exact ih123 (i + 1) (by omega) (by omega) _ _ hP hD hS _ (lv_sub hl [5, 6, 7, 8, 0] rfl)
                      · refine lv_iload hx hb dX6_angle_216 (lv_at hl 2 rfl) ?_
                        refine lv_iload hx hb dX6_angle_218 (lv_at hl 3 rfl) ?_
                        refine lv_iadd hx hb dX6_angle_220 ?_
                        refine kTopI (z := rB2 w h P m0 ((r6 w h P m0 i).1) (stpN i) ((r6 w h P m0 i).2)) ((if_neg c_213).symm) ?_
                        refine lv_istore_n (lv' := [(2, .int (rB2 w h P m0 ((r6 w h P m0 i).1) (stpN i) ((r6 w h P m0 i).2))), (13, .double (rM w h P m0 ((r6 w h P m0 i).1) (stpN i))), (11, .double (rL w h P m0 ((r6 w h P m0 i).1) (stpN i))), (10, .int ((r6 w h P m0 i).1)), (9, .int (stpN i)), (0, .ref z0), (1, .int (nI m0)), (3, .double (rS1 w h P m0 ((r6 w h P m0 i).1) (stpN i) ((r6 w h P m0 i).2))), (8, .int (nI i))]) hx hb dX6_angle_221 rfl hl (by decide) rfl (fun ls hl => ?_)
                        refine lv_dload hx hb dX6_angle_222 (lv_at hl 1 rfl) ?_
                        refine kTopD (z := rS2 w h P m0 ((r6 w h P m0 i).1) (stpN i) ((r6 w h P m0 i).2)) ((if_neg c_213).symm) ?_
                        refine lv_dstore_n (lv' := [(3, .double (rS2 w h P m0 ((r6 w h P m0 i).1) (stpN i) ((r6 w h P m0 i).2))), (2, .int (rB2 w h P m0 ((r6 w h P m0 i).1) (stpN i) ((r6 w h P m0 i).2))), (13, .double (rM w h P m0 ((r6 w h P m0 i).1) (stpN i))), (11, .double (rL w h P m0 ((r6 w h P m0 i).1) (stpN i))), (10, .int ((r6 w h P m0 i).1)), (9, .int (stpN i)), (0, .ref z0), (1, .int (nI m0)), (8, .int (nI i))]) hx hb dX6_angle_224 rfl hl (by decide) rfl (fun ls hl => ?_)
                        refine lv_iinc (v := nI (i + 1)) (lv' := [(8, .int (nI (i + 1))), (3, .double (rS2 w h P m0 ((r6 w h P m0 i).1) (stpN i) ((r6 w h P m0 i).2))), (2, .int (rB2 w h P m0 ((r6 w h P m0 i).1) (stpN i) ((r6 w h P m0 i).2))), (13, .double (rM w h P m0 ((r6 w h P m0 i).1) (stpN i))), (11, .double (rL w h P m0 ((r6 w h P m0 i).1) (stpN i))), (10, .int ((r6 w h P m0 i).1)), (9, .int (stpN i)), (0, .ref z0), (1, .int (nI m0))]) hx hb dX6_angle_225 hl (k := 8) rfl (nI_1 _) (by decide) rfl (fun ls hl => ?_)
                        refine lv_goto (tgt := 123) hx hb dX6_angle_228 (by decide) ?_
                        exact ih123 (i + 1) (by omega) (by omega) _ _ hP hD hS _ (lv_sub hl [7, 8, 2, 1, 0] rfl)
                    · refine lv_iload hx hb dX6_angle_200 (lv_at hl 2 rfl) ?_
                      refine lv_iload hx hb dX6_angle_202 (lv_at hl 3 rfl) ?_
                      refine lv_isub hx hb dX6_angle_204 ?_
                      refine kTopI (z := rB1 w h P m0 ((r6 w h P m0 i).1) (stpN i) ((r6 w h P m0 i).2)) ((if_neg c_197).symm) ?_
                      refine lv_istore_n (lv' := [(2, .int (rB1 w h P m0 ((r6 w h P m0 i).1) (stpN i) ((r6 w h P m0 i).2))), (13, .double (rM w h P m0 ((r6 w h P m0 i).1) (stpN i))), (11, .double (rL w h P m0 ((r6 w h P m0 i).1) (stpN i))), (10, .int ((r6 w h P m0 i).1)), (9, .int (stpN i)), (0, .ref z0), (1, .int (nI m0)), (3, .double ((r6 w h P m0 i).2)), (8, .int (nI i))]) hx hb dX6_angle_205 rfl hl (by decide) rfl (fun ls hl => ?_)
                      refine lv_dload hx hb dX6_angle_206 (lv_at hl 2 rfl) ?_
                      refine kTopD (z := rS1 w h P m0 ((r6 w h P m0 i).1) (stpN i) ((r6 w h P m0 i).2)) ((if_neg c_197).symm) ?_
                      refine lv_dstore_n (lv' := [(3, .double (rS1 w h P m0 ((r6 w h P m0 i).1) (stpN i) ((r6 w h P m0 i).2))), (2, .int (rB1 w h P m0 ((r6 w h P m0 i).1) (stpN i) ((r6 w h P m0 i).2))), (13, .double (rM w h P m0 ((r6 w h P m0 i).1) (stpN i))), (11, .double (rL w h P m0 ((r6 w h P m0 i).1) (stpN i))), (10, .int ((r6 w h P m0 i).1)), (9, .int (stpN i)), (0, .ref z0), (1, .int (nI m0)), (8, .int (nI i))]) hx hb dX6_angle_208 rfl hl (by decide) rfl (fun ls hl => ?_)
                      refine lv_dload hx hb dX6_angle_209 (lv_at hl 2 rfl) ?_
                      refine lv_dload_n hx hb dX6_angle_211 rfl (lv_at hl 0 rfl) ?_
                      refine lv_dcmp hx hb dX6_angle_212 ?_
                      refine lv_if_le (tgt := 225) hx hb dX6_angle_213 (by decide) (fun c_213 => ?_) (fun c_213 => ?_)
                      · have hl : lv_has ls 15 [(3, .double (rS1 w h P m0 ((r6 w h P m0 i).1) (stpN i) ((r6 w h P m0 i).2))), (2, .int (rB2 w h P m0 ((r6 w h P m0 i).1) (stpN i) ((r6 w h P m0 i).2))), (13, .double (rM w h P m0 ((r6 w h P m0 i).1) (stpN i))), (11, .double (rL w h P m0 ((r6 w h P m0 i).1) (stpN i))), (10, .int ((r6 w h P m0 i).1)), (9, .int (stpN i)), (0, .ref z0), (1, .int (nI m0)), (8, .int (nI i))] := by rw [show rB2 w h P m0 ((r6 w h P m0 i).1) (stpN i) ((r6 w h P m0 i).2) = rB1 w h P m0 ((r6 w h P m0 i).1) (stpN i) ((r6 w h P m0 i).2) from ((if_pos c_213).symm).symm]; exact hl
                        have hl : lv_has ls 15 [(3, .double (rS2 w h P m0 ((r6 w h P m0 i).1) (stpN i) ((r6 w h P m0 i).2))), (2, .int (rB2 w h P m0 ((r6 w h P m0 i).1) (stpN i) ((r6 w h P m0 i).2))), (13, .double (rM w h P m0 ((r6 w h P m0 i).1) (stpN i))), (11, .double (rL w h P m0 ((r6 w h P m0 i).1) (stpN i))), (10, .int ((r6 w h P m0 i).1)), (9, .int (stpN i)), (0, .ref z0), (1, .int (nI m0)), (8, .int (nI i))] := by rw [show rS2 w h P m0 ((r6 w h P m0 i).1) (stpN i) ((r6 w h P m0 i).2) = rS1 w h P m0 ((r6 w h P m0 i).1) (stpN i) ((r6 w h P m0 i).2) from ((if_pos c_213).symm).symm]; exact hl
                        refine lv_iinc (v := nI (i + 1)) (lv' := [(8, .int (nI (i + 1))), (3, .double (rS2 w h P m0 ((r6 w h P m0 i).1) (stpN i) ((r6 w h P m0 i).2))), (2, .int (rB2 w h P m0 ((r6 w h P m0 i).1) (stpN i) ((r6 w h P m0 i).2))), (13, .double (rM w h P m0 ((r6 w h P m0 i).1) (stpN i))), (11, .double (rL w h P m0 ((r6 w h P m0 i).1) (stpN i))), (10, .int ((r6 w h P m0 i).1)), (9, .int (stpN i)), (0, .ref z0), (1, .int (nI m0))]) hx hb dX6_angle_225 hl (k := 8) rfl (nI_1 _) (by decide) rfl (fun ls hl => ?_)
                        refine lv_goto (tgt := 123) hx hb dX6_angle_228 (by decide) ?_
                        exact ih123 (i + 1) (by omega) (by omega) _ _ hP hD hS _ (lv_sub hl [7, 8, 2, 1, 0] rfl)
                      · refine lv_iload hx hb dX6_angle_216 (lv_at hl 4 rfl) ?_
                        refine lv_iload hx hb dX6_angle_218 (lv_at hl 5 rfl) ?_
                        refine lv_iadd hx hb dX6_angle_220 ?_
                        refine kTopI (z := rB2 w h P m0 ((r6 w h P m0 i).1) (stpN i) ((r6 w h P m0 i).2)) ((if_neg c_213).symm) ?_
                        refine lv_istore_n (lv' := [(2, .int (rB2 w h P m0 ((r6 w h P m0 i).1) (stpN i) ((r6 w h P m0 i).2))), (3, .double (rS1 w h P m0 ((r6 w h P m0 i).1) (stpN i) ((r6 w h P m0 i).2))), (13, .double (rM w h P m0 ((r6 w h P m0 i).1) (stpN i))), (11, .double (rL w h P m0 ((r6 w h P m0 i).1) (stpN i))), (10, .int ((r6 w h P m0 i).1)), (9, .int (stpN i)), (0, .ref z0), (1, .int (nI m0)), (8, .int (nI i))]) hx hb dX6_angle_221 rfl hl (by decide) rfl (fun ls hl => ?_)
                        refine lv_dload hx hb dX6_angle_222 (lv_at hl 2 rfl) ?_
                        refine kTopD (z := rS2 w h P m0 ((r6 w h P m0 i).1) (stpN i) ((r6 w h P m0 i).2)) ((if_neg c_213).symm) ?_
                        refine lv_dstore_n (lv' := [(3, .double (rS2 w h P m0 ((r6 w h P m0 i).1) (stpN i) ((r6 w h P m0 i).2))), (2, .int (rB2 w h P m0 ((r6 w h P m0 i).1) (stpN i) ((r6 w h P m0 i).2))), (13, .double (rM w h P m0 ((r6 w h P m0 i).1) (stpN i))), (11, .double (rL w h P m0 ((r6 w h P m0 i).1) (stpN i))), (10, .int ((r6 w h P m0 i).1)), (9, .int (stpN i)), (0, .ref z0), (1, .int (nI m0)), (8, .int (nI i))]) hx hb dX6_angle_224 rfl hl (by decide) rfl (fun ls hl => ?_)
                        refine lv_iinc (v := nI (i + 1)) (lv' := [(8, .int (nI (i + 1))), (3, .double (rS2 w h P m0 ((r6 w h P m0 i).1) (stpN i) ((r6 w h P m0 i).2))), (2, .int (rB2 w h P m0 ((r6 w h P m0 i).1) (stpN i) ((r6 w h P m0 i).2))), (13, .double (rM w h P m0 ((r6 w h P m0 i).1) (stpN i))), (11, .double (rL w h P m0 ((r6 w h P m0 i).1) (stpN i))), (10, .int ((r6 w h P m0 i).1)), (9, .int (stpN i)), (0, .ref z0), (1, .int (nI m0))]) hx hb dX6_angle_225 hl (k := 8) rfl (nI_1 _) (by decide) rfl (fun ls hl => ?_)
                        refine lv_goto (tgt := 123) hx hb dX6_angle_228 (by decide) ?_
                        exact ih123 (i + 1) (by omega) (by omega) _ _ hP hD hS _ (lv_sub hl [7, 8, 2, 1, 0] rfl)
                · refine lv_aload_n hx hb dX6_angle_150 rfl (lv_at hl 2 rfl) ?_
                  refine lv_iload hx hb dX6_angle_151 (lv_at hl 0 rfl) ?_
                  refine lv_iload hx hb dX6_angle_153 (lv_at hl 1 rfl) ?_
                  refine lv_isub hx hb dX6_angle_155 ?_
                  refine kVd (w' := [(z0, .inr (5, [.int 0, .int (nI w), .int (nI h), .ref z1, .ref z2, .ref z3, .int (b2i true), .int (b2i false), .double (jM w h P m0), .ref z4, .int (nI tc), .ref z5, .int ba, .int br])), (z1, .inl (cZ, 576, .inl (bA P))), (z2, .inl (cZ, 576, .inl (bA N))), (z3, .inl (cI, 4, .inl (e4 ze le ue re de))), (z4, .inl (cI, 16, .inl TM)), (z5, .inl (cI, 104, .inl (mLn w h P (r6E w h P m0 LN i) (((r6 w h P m0 i).1) - (stpN i)))))]) (wr := []) (isC := [0, 1, 2, 3, 4, 5]) (isR := []) (pm := [0, 1, 2, 3, 4, 5]) (rest := []) (kX6_sumOf l G cI cZ cJ cD z0 z1 z2 z3 z4 z5 w h hw hh 0 P N ze le ue re de true false (jM w h P m0) tc TM (r6E w h P m0 LN i) ba br (((r6 w h P m0 i).1) - (stpN i)) (by have := tb_lo hm hbe.1 hbe.2 hsp.1 hsp.2 c_147; omega) (by have := tb_lo hm hbe.1 hbe.2 hsp.1 hsp.2 c_147; omega)) ⟨hx, hb, hml, hown, hts⟩ (cwV 1 hts gX6_angle_X6_sumOf rfl rfl rfl hd_X6_sumOf ⟨Nat.le_of_ble_eq_true rfl, Nat.le_of_ble_eq_true rfl⟩) hK hP hD hS hA ⟨rfl, rfl, rfl, by decide, rfl, rfl, rfl⟩ 5 0 rfl rfl rfl hl.1 rfl (Nat.le_of_ble_eq_true rfl) dX6_angle_156 ⟨Nat.le_of_ble_eq_true rfl, Nat.le_of_ble_eq_true rfl⟩ rfl rfl (fun H locs hP hD hS => ?_)
                  have b4 : fIv (-140737488355328) (140737488355328) (mSum w h P (((r6 w h P m0 i).1) - (stpN i))) := fMSum _ _ _ _
                  refine kTopD (z := rL w h P m0 ((r6 w h P m0 i).1) (stpN i)) ((if_neg c_147).symm) ?_
                  have hE : mLn w h P (r6E w h P m0 LN i) (((r6 w h P m0 i).1) - (stpN i)) = rE1 w h P m0 ((r6 w h P m0 i).1) (stpN i) (r6E w h P m0 LN i) := (if_neg c_147).symm
                  rw [hE] at hP hD
                  refine lv_goto (tgt := 165) hx hb dX6_angle_159 (by decide) ?_
                  refine lv_dstore (lv' := [(11, .double (rL w h P m0 ((r6 w h P m0 i).1) (stpN i))), (10, .int ((r6 w h P m0 i).1)), (9, .int (stpN i)), (0, .ref z0), (1, .int (nI m0)), (2, .int ((r6 w h P m0 i).1)), (3, .double ((r6 w h P m0 i).2)), (8, .int (nI i))]) hx hb dX6_angle_165 hl (by decide) rfl (fun ls hl => ?_)
                  refine lv_iload hx hb dX6_angle_167 (lv_at hl 1 rfl) ?_
                  refine lv_iload hx hb dX6_angle_169 (lv_at hl 2 rfl) ?_
                  refine lv_iadd hx hb dX6_angle_171 ?_
                  refine lv_iload_n hx hb dX6_angle_172 rfl (lv_at hl 4 rfl) ?_
                  refine lv_icmp_gt (tgt := 188) hx hb dX6_angle_173 (by decide) (fun c_173 => ?_) (fun c_173 => ?_)
                  · refine lv_ldc2d (v := 13830554455654793216) hx hb hown (hts _ wd_kX6_angleV_c111) dX6_angle_188 ?_
                    refine kTopD (z := rM w h P m0 ((r6 w h P m0 i).1) (stpN i)) ((if_pos c_173).symm) ?_
                    have hE : rE1 w h P m0 ((r6 w h P m0 i).1) (stpN i) (r6E w h P m0 LN i) = rE2 w h P m0 ((r6 w h P m0 i).1) (stpN i) (rE1 w h P m0 ((r6 w h P m0 i).1) (stpN i) (r6E w h P m0 LN i)) := (if_pos c_173).symm
                    rw [hE] at hP hD
                    refine lv_dstore (lv' := [(13, .double (rM w h P m0 ((r6 w h P m0 i).1) (stpN i))), (11, .double (rL w h P m0 ((r6 w h P m0 i).1) (stpN i))), (10, .int ((r6 w h P m0 i).1)), (9, .int (stpN i)), (0, .ref z0), (1, .int (nI m0)), (2, .int ((r6 w h P m0 i).1)), (3, .double ((r6 w h P m0 i).2)), (8, .int (nI i))]) hx hb dX6_angle_191 hl (by decide) rfl (fun ls hl => ?_)
                    refine lv_dload hx hb dX6_angle_193 (lv_at hl 1 rfl) ?_
                    refine lv_dload_n hx hb dX6_angle_195 rfl (lv_at hl 7 rfl) ?_
                    refine lv_dcmp hx hb dX6_angle_196 ?_
                    refine lv_if_lt (tgt := 209) hx hb dX6_angle_197 (by decide) (fun c_197 => ?_) (fun c_197 => ?_)
                    · have hl : lv_has ls 15 [(13, .double (rM w h P m0 ((r6 w h P m0 i).1) (stpN i))), (11, .double (rL w h P m0 ((r6 w h P m0 i).1) (stpN i))), (10, .int ((r6 w h P m0 i).1)), (9, .int (stpN i)), (0, .ref z0), (1, .int (nI m0)), (2, .int (rB1 w h P m0 ((r6 w h P m0 i).1) (stpN i) ((r6 w h P m0 i).2))), (3, .double ((r6 w h P m0 i).2)), (8, .int (nI i))] := by rw [show rB1 w h P m0 ((r6 w h P m0 i).1) (stpN i) ((r6 w h P m0 i).2) = (r6 w h P m0 i).1 from ((if_pos c_197).symm).symm]; exact hl
                      have hl : lv_has ls 15 [(13, .double (rM w h P m0 ((r6 w h P m0 i).1) (stpN i))), (11, .double (rL w h P m0 ((r6 w h P m0 i).1) (stpN i))), (10, .int ((r6 w h P m0 i).1)), (9, .int (stpN i)), (0, .ref z0), (1, .int (nI m0)), (2, .int (rB1 w h P m0 ((r6 w h P m0 i).1) (stpN i) ((r6 w h P m0 i).2))), (3, .double (rS1 w h P m0 ((r6 w h P m0 i).1) (stpN i) ((r6 w h P m0 i).2))), (8, .int (nI i))] := by rw [show rS1 w h P m0 ((r6 w h P m0 i).1) (stpN i) ((r6 w h P m0 i).2) = (r6 w h P m0 i).2 from ((if_pos c_197).symm).symm]; exact hl
                      refine lv_dload hx hb dX6_angle_209 (lv_at hl 0 rfl) ?_
                      refine lv_dload_n hx hb dX6_angle_211 rfl (lv_at hl 7 rfl) ?_
                      refine lv_dcmp hx hb dX6_angle_212 ?_
                      refine lv_if_le (tgt := 225) hx hb dX6_angle_213 (by decide) (fun c_213 => ?_) (fun c_213 => ?_)
                      · have hl : lv_has ls 15 [(13, .double (rM w h P m0 ((r6 w h P m0 i).1) (stpN i))), (11, .double (rL w h P m0 ((r6 w h P m0 i).1) (stpN i))), (10, .int ((r6 w h P m0 i).1)), (9, .int (stpN i)), (0, .ref z0), (1, .int (nI m0)), (2, .int (rB2 w h P m0 ((r6 w h P m0 i).1) (stpN i) ((r6 w h P m0 i).2))), (3, .double (rS1 w h P m0 ((r6 w h P m0 i).1) (stpN i) ((r6 w h P m0 i).2))), (8, .int (nI i))] := by rw [show rB2 w h P m0 ((r6 w h P m0 i).1) (stpN i) ((r6 w h P m0 i).2) = rB1 w h P m0 ((r6 w h P m0 i).1) (stpN i) ((r6 w h P m0 i).2) from ((if_pos c_213).symm).symm]; exact hl
                        have hl : lv_has ls 15 [(13, .double (rM w h P m0 ((r6 w h P m0 i).1) (stpN i))), (11, .double (rL w h P m0 ((r6 w h P m0 i).1) (stpN i))), (10, .int ((r6 w h P m0 i).1)), (9, .int (stpN i)), (0, .ref z0), (1, .int (nI m0)), (2, .int (rB2 w h P m0 ((r6 w h P m0 i).1) (stpN i) ((r6 w h P m0 i).2))), (3, .double (rS2 w h P m0 ((r6 w h P m0 i).1) (stpN i) ((r6 w h P m0 i).2))), (8, .int (nI i))] := by rw [show rS2 w h P m0 ((r6 w h P m0 i).1) (stpN i) ((r6 w h P m0 i).2) = rS1 w h P m0 ((r6 w h P m0 i).1) (stpN i) ((r6 w h P m0 i).2) from ((if_pos c_213).symm).symm]; exact hl
                        refine lv_iinc (v := nI (i + 1)) (lv' := [(8, .int (nI (i + 1))), (13, .double (rM w h P m0 ((r6 w h P m0 i).1) (stpN i))), (11, .double (rL w h P m0 ((r6 w h P m0 i).1) (stpN i))), (10, .int ((r6 w h P m0 i).1)), (9, .int (stpN i)), (0, .ref z0), (1, .int (nI m0)), (2, .int (rB2 w h P m0 ((r6 w h P m0 i).1) (stpN i) ((r6 w h P m0 i).2))), (3, .double (rS2 w h P m0 ((r6 w h P m0 i).1) (stpN i) ((r6 w h P m0 i).2)))]) hx hb dX6_angle_225 hl (k := 8) rfl (nI_1 _) (by decide) rfl (fun ls hl => ?_)
                        refine lv_goto (tgt := 123) hx hb dX6_angle_228 (by decide) ?_
                        exact ih123 (i + 1) (by omega) (by omega) _ _ hP hD hS _ (lv_sub hl [5, 6, 7, 8, 0] rfl)
                      · refine lv_iload hx hb dX6_angle_216 (lv_at hl 2 rfl) ?_
                        refine lv_iload hx hb dX6_angle_218 (lv_at hl 3 rfl) ?_
                        refine lv_iadd hx hb dX6_angle_220 ?_
                        refine kTopI (z := rB2 w h P m0 ((r6 w h P m0 i).1) (stpN i) ((r6 w h P m0 i).2)) ((if_neg c_213).symm) ?_
                        refine lv_istore_n (lv' := [(2, .int (rB2 w h P m0 ((r6 w h P m0 i).1) (stpN i) ((r6 w h P m0 i).2))), (13, .double (rM w h P m0 ((r6 w h P m0 i).1) (stpN i))), (11, .double (rL w h P m0 ((r6 w h P m0 i).1) (stpN i))), (10, .int ((r6 w h P m0 i).1)), (9, .int (stpN i)), (0, .ref z0), (1, .int (nI m0)), (3, .double (rS1 w h P m0 ((r6 w h P m0 i).1) (stpN i) ((r6 w h P m0 i).2))), (8, .int (nI i))]) hx hb dX6_angle_221 rfl hl (by decide) rfl (fun ls hl => ?_)
                        refine lv_dload hx hb dX6_angle_222 (lv_at hl 1 rfl) ?_
                        refine kTopD (z := rS2 w h P m0 ((r6 w h P m0 i).1) (stpN i) ((r6 w h P m0 i).2)) ((if_neg c_213).symm) ?_
                        refine lv_dstore_n (lv' := [(3, .double (rS2 w h P m0 ((r6 w h P m0 i).1) (stpN i) ((r6 w h P m0 i).2))), (2, .int (rB2 w h P m0 ((r6 w h P m0 i).1) (stpN i) ((r6 w h P m0 i).2))), (13, .double (rM w h P m0 ((r6 w h P m0 i).1) (stpN i))), (11, .double (rL w h P m0 ((r6 w h P m0 i).1) (stpN i))), (10, .int ((r6 w h P m0 i).1)), (9, .int (stpN i)), (0, .ref z0), (1, .int (nI m0)), (8, .int (nI i))]) hx hb dX6_angle_224 rfl hl (by decide) rfl (fun ls hl => ?_)
                        refine lv_iinc (v := nI (i + 1)) (lv' := [(8, .int (nI (i + 1))), (3, .double (rS2 w h P m0 ((r6 w h P m0 i).1) (stpN i) ((r6 w h P m0 i).2))), (2, .int (rB2 w h P m0 ((r6 w h P m0 i).1) (stpN i) ((r6 w h P m0 i).2))), (13, .double (rM w h P m0 ((r6 w h P m0 i).1) (stpN i))), (11, .double (rL w h P m0 ((r6 w h P m0 i).1) (stpN i))), (10, .int ((r6 w h P m0 i).1)), (9, .int (stpN i)), (0, .ref z0), (1, .int (nI m0))]) hx hb dX6_angle_225 hl (k := 8) rfl (nI_1 _) (by decide) rfl (fun ls hl => ?_)
                        refine lv_goto (tgt := 123) hx hb dX6_angle_228 (by decide) ?_
                        exact ih123 (i + 1) (by omega) (by omega) _ _ hP hD hS _ (lv_sub hl [7, 8, 2, 1, 0] rfl)
                    · refine lv_iload hx hb dX6_angle_200 (lv_at hl 2 rfl) ?_
                      refine lv_iload hx hb dX6_angle_202 (lv_at hl 3 rfl) ?_
                      refine lv_isub hx hb dX6_angle_204 ?_
                      refine kTopI (z := rB1 w h P m0 ((r6 w h P m0 i).1) (stpN i) ((r6 w h P m0 i).2)) ((if_neg c_197).symm) ?_
                      refine lv_istore_n (lv' := [(2, .int (rB1 w h P m0 ((r6 w h P m0 i).1) (stpN i) ((r6 w h P m0 i).2))), (13, .double (rM w h P m0 ((r6 w h P m0 i).1) (stpN i))), (11, .double (rL w h P m0 ((r6 w h P m0 i).1) (stpN i))), (10, .int ((r6 w h P m0 i).1)), (9, .int (stpN i)), (0, .ref z0), (1, .int (nI m0)), (3, .double ((r6 w h P m0 i).2)), (8, .int (nI i))]) hx hb dX6_angle_205 rfl hl (by decide) rfl (fun ls hl => ?_)
                      refine lv_dload hx hb dX6_angle_206 (lv_at hl 2 rfl) ?_
                      refine kTopD (z := rS1 w h P m0 ((r6 w h P m0 i).1) (stpN i) ((r6 w h P m0 i).2)) ((if_neg c_197).symm) ?_
                      refine lv_dstore_n (lv' := [(3, .double (rS1 w h P m0 ((r6 w h P m0 i).1) (stpN i) ((r6 w h P m0 i).2))), (2, .int (rB1 w h P m0 ((r6 w h P m0 i).1) (stpN i) ((r6 w h P m0 i).2))), (13, .double (rM w h P m0 ((r6 w h P m0 i).1) (stpN i))), (11, .double (rL w h P m0 ((r6 w h P m0 i).1) (stpN i))), (10, .int ((r6 w h P m0 i).1)), (9, .int (stpN i)), (0, .ref z0), (1, .int (nI m0)), (8, .int (nI i))]) hx hb dX6_angle_208 rfl hl (by decide) rfl (fun ls hl => ?_)
                      refine lv_dload hx hb dX6_angle_209 (lv_at hl 2 rfl) ?_
                      refine lv_dload_n hx hb dX6_angle_211 rfl (lv_at hl 0 rfl) ?_
                      refine lv_dcmp hx hb dX6_angle_212 ?_
                      refine lv_if_le (tgt := 225) hx hb dX6_angle_213 (by decide) (fun c_213 => ?_) (fun c_213 => ?_)
                      · have hl : lv_has ls 15 [(3, .double (rS1 w h P m0 ((r6 w h P m0 i).1) (stpN i) ((r6 w h P m0 i).2))), (2, .int (rB2 w h P m0 ((r6 w h P m0 i).1) (stpN i) ((r6 w h P m0 i).2))), (13, .double (rM w h P m0 ((r6 w h P m0 i).1) (stpN i))), (11, .double (rL w h P m0 ((r6 w h P m0 i).1) (stpN i))), (10, .int ((r6 w h P m0 i).1)), (9, .int (stpN i)), (0, .ref z0), (1, .int (nI m0)), (8, .int (nI i))] := by rw [show rB2 w h P m0 ((r6 w h P m0 i).1) (stpN i) ((r6 w h P m0 i).2) = rB1 w h P m0 ((r6 w h P m0 i).1) (stpN i) ((r6 w h P m0 i).2) from ((if_pos c_213).symm).symm]; exact hl
                        have hl : lv_has ls 15 [(3, .double (rS2 w h P m0 ((r6 w h P m0 i).1) (stpN i) ((r6 w h P m0 i).2))), (2, .int (rB2 w h P m0 ((r6 w h P m0 i).1) (stpN i) ((r6 w h P m0 i).2))), (13, .double (rM w h P m0 ((r6 w h P m0 i).1) (stpN i))), (11, .double (rL w h P m0 ((r6 w h P m0 i).1) (stpN i))), (10, .int ((r6 w h P m0 i).1)), (9, .int (stpN i)), (0, .ref z0), (1, .int (nI m0)), (8, .int (nI i))] := by rw [show rS2 w h P m0 ((r6 w h P m0 i).1) (stpN i) ((r6 w h P m0 i).2) = rS1 w h P m0 ((r6 w h P m0 i).1) (stpN i) ((r6 w h P m0 i).2) from ((if_pos c_213).symm).symm]; exact hl
                        refine lv_iinc (v := nI (i + 1)) (lv' := [(8, .int (nI (i + 1))), (3, .double (rS2 w h P m0 ((r6 w h P m0 i).1) (stpN i) ((r6 w h P m0 i).2))), (2, .int (rB2 w h P m0 ((r6 w h P m0 i).1) (stpN i) ((r6 w h P m0 i).2))), (13, .double (rM w h P m0 ((r6 w h P m0 i).1) (stpN i))), (11, .double (rL w h P m0 ((r6 w h P m0 i).1) (stpN i))), (10, .int ((r6 w h P m0 i).1)), (9, .int (stpN i)), (0, .ref z0), (1, .int (nI m0))]) hx hb dX6_angle_225 hl (k := 8) rfl (nI_1 _) (by decide) rfl (fun ls hl => ?_)
                        refine lv_goto (tgt := 123) hx hb dX6_angle_228 (by decide) ?_
                        exact ih123 (i + 1) (by omega) (by omega) _ _ hP hD hS _ (lv_sub hl [7, 8, 2, 1, 0] rfl)
                      · refine lv_iload hx hb dX6_angle_216 (lv_at hl 4 rfl) ?_
                        refine lv_iload hx hb dX6_angle_218 (lv_at hl 5 rfl) ?_
                        refine lv_iadd hx hb dX6_angle_220 ?_
                        refine kTopI (z := rB2 w h P m0 ((r6 w h P m0 i).1) (stpN i) ((r6 w h P m0 i).2)) ((if_neg c_213).symm) ?_
                        refine lv_istore_n (lv' := [(2, .int (rB2 w h P m0 ((r6 w h P m0 i).1) (stpN i) ((r6 w h P m0 i).2))), (3, .double (rS1 w h P m0 ((r6 w h P m0 i).1) (stpN i) ((r6 w h P m0 i).2))), (13, .double (rM w h P m0 ((r6 w h P m0 i).1) (stpN i))), (11, .double (rL w h P m0 ((r6 w h P m0 i).1) (stpN i))), (10, .int ((r6 w h P m0 i).1)), (9, .int (stpN i)), (0, .ref z0), (1, .int (nI m0)), (8, .int (nI i))]) hx hb dX6_angle_221 rfl hl (by decide) rfl (fun ls hl => ?_)
                        refine lv_dload hx hb dX6_angle_222 (lv_at hl 2 rfl) ?_
                        refine kTopD (z := rS2 w h P m0 ((r6 w h P m0 i).1) (stpN i) ((r6 w h P m0 i).2)) ((if_neg c_213).symm) ?_
                        refine lv_dstore_n (lv' := [(3, .double (rS2 w h P m0 ((r6 w h P m0 i).1) (stpN i) ((r6 w h P m0 i).2))), (2, .int (rB2 w h P m0 ((r6 w h P m0 i).1) (stpN i) ((r6 w h P m0 i).2))), (13, .double (rM w h P m0 ((r6 w h P m0 i).1) (stpN i))), (11, .double (rL w h P m0 ((r6 w h P m0 i).1) (stpN i))), (10, .int ((r6 w h P m0 i).1)), (9, .int (stpN i)), (0, .ref z0), (1, .int (nI m0)), (8, .int (nI i))]) hx hb dX6_angle_224 rfl hl (by decide) rfl (fun ls hl => ?_)
                        refine lv_iinc (v := nI (i + 1)) (lv' := [(8, .int (nI (i + 1))), (3, .double (rS2 w h P m0 ((r6 w h P m0 i).1) (stpN i) ((r6 w h P m0 i).2))), (2, .int (rB2 w h P m0 ((r6 w h P m0 i).1) (stpN i) ((r6 w h P m0 i).2))), (13, .double (rM w h P m0 ((r6 w h P m0 i).1) (stpN i))), (11, .double (rL w h P m0 ((r6 w h P m0 i).1) (stpN i))), (10, .int ((r6 w h P m0 i).1)), (9, .int (stpN i)), (0, .ref z0), (1, .int (nI m0))]) hx hb dX6_angle_225 hl (k := 8) rfl (nI_1 _) (by decide) rfl (fun ls hl => ?_)
                        refine lv_goto (tgt := 123) hx hb dX6_angle_228 (by decide) ?_
                        exact ih123 (i + 1) (by omega) (by omega) _ _ hP hD hS _ (lv_sub hl [7, 8, 2, 1, 0] rfl)
                  · refine lv_aload_n hx hb dX6_angle_176 rfl (lv_at hl 3 rfl) ?_
                    refine lv_iload hx hb dX6_angle_177 (lv_at hl 1 rfl) ?_
                    refine lv_iload hx hb dX6_angle_179 (lv_at hl 2 rfl) ?_
                    refine lv_iadd hx hb dX6_angle_181 ?_
                    refine kVd (w' := [(z0, .inr (5, [.int 0, .int (nI w), .int (nI h), .ref z1, .ref z2, .ref z3, .int (b2i true), .int (b2i false), .double (jM w h P m0), .ref z4, .int (nI tc), .ref z5, .int ba, .int br])), (z1, .inl (cZ, 576, .inl (bA P))), (z2, .inl (cZ, 576, .inl (bA N))), (z3, .inl (cI, 4, .inl (e4 ze le ue re de))), (z4, .inl (cI, 16, .inl TM)), (z5, .inl (cI, 104, .inl (mLn w h P (rE1 w h P m0 ((r6 w h P m0 i).1) (stpN i) (r6E w h P m0 LN i)) (((r6 w h P m0 i).1) + (stpN i)))))]) (wr := []) (isC := [0, 1, 2, 3, 4, 5]) (isR := []) (pm := [0, 1, 2, 3, 4, 5]) (rest := []) (kX6_sumOf l G cI cZ cJ cD z0 z1 z2 z3 z4 z5 w h hw hh 0 P N ze le ue re de true false (jM w h P m0) tc TM (rE1 w h P m0 ((r6 w h P m0 i).1) (stpN i) (r6E w h P m0 LN i)) ba br (((r6 w h P m0 i).1) + (stpN i)) (by have := tb_hi hm hbe.1 hbe.2 hsp.1 hsp.2 c_173; omega) (by have := tb_hi hm hbe.1 hbe.2 hsp.1 hsp.2 c_173; omega)) ⟨hx, hb, hml, hown, hts⟩ (cwV 1 hts gX6_angle_X6_sumOf rfl rfl rfl hd_X6_sumOf ⟨Nat.le_of_ble_eq_true rfl, Nat.le_of_ble_eq_true rfl⟩) hK hP hD hS hA ⟨rfl, rfl, rfl, by decide, rfl, rfl, rfl⟩ 5 0 rfl rfl rfl hl.1 rfl (Nat.le_of_ble_eq_true rfl) dX6_angle_182 ⟨Nat.le_of_ble_eq_true rfl, Nat.le_of_ble_eq_true rfl⟩ rfl rfl (fun H locs hP hD hS => ?_)
                    have b5 : fIv (-140737488355328) (140737488355328) (mSum w h P (((r6 w h P m0 i).1) + (stpN i))) := fMSum _ _ _ _
                    refine kTopD (z := rM w h P m0 ((r6 w h P m0 i).1) (stpN i)) ((if_neg c_173).symm) ?_
                    have hE : mLn w h P (rE1 w h P m0 ((r6 w h P m0 i).1) (stpN i) (r6E w h P m0 LN i)) (((r6 w h P m0 i).1) + (stpN i)) = rE2 w h P m0 ((r6 w h P m0 i).1) (stpN i) (rE1 w h P m0 ((r6 w h P m0 i).1) (stpN i) (r6E w h P m0 LN i)) := (if_neg c_173).symm
                    rw [hE] at hP hD
                    refine lv_goto (tgt := 191) hx hb dX6_angle_185 (by decide) ?_
                    refine lv_dstore (lv' := [(13, .double (rM w h P m0 ((r6 w h P m0 i).1) (stpN i))), (11, .double (rL w h P m0 ((r6 w h P m0 i).1) (stpN i))), (10, .int ((r6 w h P m0 i).1)), (9, .int (stpN i)), (0, .ref z0), (1, .int (nI m0)), (2, .int ((r6 w h P m0 i).1)), (3, .double ((r6 w h P m0 i).2)), (8, .int (nI i))]) hx hb dX6_angle_191 hl (by decide) rfl (fun ls hl => ?_)
                    refine lv_dload hx hb dX6_angle_193 (lv_at hl 1 rfl) ?_
                    refine lv_dload_n hx hb dX6_angle_195 rfl (lv_at hl 7 rfl) ?_
                    refine lv_dcmp hx hb dX6_angle_196 ?_
                    refine lv_if_lt (tgt := 209) hx hb dX6_angle_197 (by decide) (fun c_197 => ?_) (fun c_197 => ?_)
                    · have hl : lv_has ls 15 [(13, .double (rM w h P m0 ((r6 w h P m0 i).1) (stpN i))), (11, .double (rL w h P m0 ((r6 w h P m0 i).1) (stpN i))), (10, .int ((r6 w h P m0 i).1)), (9, .int (stpN i)), (0, .ref z0), (1, .int (nI m0)), (2, .int (rB1 w h P m0 ((r6 w h P m0 i).1) (stpN i) ((r6 w h P m0 i).2))), (3, .double ((r6 w h P m0 i).2)), (8, .int (nI i))] := by rw [show rB1 w h P m0 ((r6 w h P m0 i).1) (stpN i) ((r6 w h P m0 i).2) = (r6 w h P m0 i).1 from ((if_pos c_197).symm).symm]; exact hl
                      have hl : lv_has ls 15 [(13, .double (rM w h P m0 ((r6 w h P m0 i).1) (stpN i))), (11, .double (rL w h P m0 ((r6 w h P m0 i).1) (stpN i))), (10, .int ((r6 w h P m0 i).1)), (9, .int (stpN i)), (0, .ref z0), (1, .int (nI m0)), (2, .int (rB1 w h P m0 ((r6 w h P m0 i).1) (stpN i) ((r6 w h P m0 i).2))), (3, .double (rS1 w h P m0 ((r6 w h P m0 i).1) (stpN i) ((r6 w h P m0 i).2))), (8, .int (nI i))] := by rw [show rS1 w h P m0 ((r6 w h P m0 i).1) (stpN i) ((r6 w h P m0 i).2) = (r6 w h P m0 i).2 from ((if_pos c_197).symm).symm]; exact hl
                      refine lv_dload hx hb dX6_angle_209 (lv_at hl 0 rfl) ?_
                      refine lv_dload_n hx hb dX6_angle_211 rfl (lv_at hl 7 rfl) ?_
                      refine lv_dcmp hx hb dX6_angle_212 ?_
                      refine lv_if_le (tgt := 225) hx hb dX6_angle_213 (by decide) (fun c_213 => ?_) (fun c_213 => ?_)
                      · have hl : lv_has ls 15 [(13, .double (rM w h P m0 ((r6 w h P m0 i).1) (stpN i))), (11, .double (rL w h P m0 ((r6 w h P m0 i).1) (stpN i))), (10, .int ((r6 w h P m0 i).1)), (9, .int (stpN i)), (0, .ref z0), (1, .int (nI m0)), (2, .int (rB2 w h P m0 ((r6 w h P m0 i).1) (stpN i) ((r6 w h P m0 i).2))), (3, .double (rS1 w h P m0 ((r6 w h P m0 i).1) (stpN i) ((r6 w h P m0 i).2))), (8, .int (nI i))] := by rw [show rB2 w h P m0 ((r6 w h P m0 i).1) (stpN i) ((r6 w h P m0 i).2) = rB1 w h P m0 ((r6 w h P m0 i).1) (stpN i) ((r6 w h P m0 i).2) from ((if_pos c_213).symm).symm]; exact hl
                        have hl : lv_has ls 15 [(13, .double (rM w h P m0 ((r6 w h P m0 i).1) (stpN i))), (11, .double (rL w h P m0 ((r6 w h P m0 i).1) (stpN i))), (10, .int ((r6 w h P m0 i).1)), (9, .int (stpN i)), (0, .ref z0), (1, .int (nI m0)), (2, .int (rB2 w h P m0 ((r6 w h P m0 i).1) (stpN i) ((r6 w h P m0 i).2))), (3, .double (rS2 w h P m0 ((r6 w h P m0 i).1) (stpN i) ((r6 w h P m0 i).2))), (8, .int (nI i))] := by rw [show rS2 w h P m0 ((r6 w h P m0 i).1) (stpN i) ((r6 w h P m0 i).2) = rS1 w h P m0 ((r6 w h P m0 i).1) (stpN i) ((r6 w h P m0 i).2) from ((if_pos c_213).symm).symm]; exact hl
                        refine lv_iinc (v := nI (i + 1)) (lv' := [(8, .int (nI (i + 1))), (13, .double (rM w h P m0 ((r6 w h P m0 i).1) (stpN i))), (11, .double (rL w h P m0 ((r6 w h P m0 i).1) (stpN i))), (10, .int ((r6 w h P m0 i).1)), (9, .int (stpN i)), (0, .ref z0), (1, .int (nI m0)), (2, .int (rB2 w h P m0 ((r6 w h P m0 i).1) (stpN i) ((r6 w h P m0 i).2))), (3, .double (rS2 w h P m0 ((r6 w h P m0 i).1) (stpN i) ((r6 w h P m0 i).2)))]) hx hb dX6_angle_225 hl (k := 8) rfl (nI_1 _) (by decide) rfl (fun ls hl => ?_)
                        refine lv_goto (tgt := 123) hx hb dX6_angle_228 (by decide) ?_
                        exact ih123 (i + 1) (by omega) (by omega) _ _ hP hD hS _ (lv_sub hl [5, 6, 7, 8, 0] rfl)
                      · refine lv_iload hx hb dX6_angle_216 (lv_at hl 2 rfl) ?_
                        refine lv_iload hx hb dX6_angle_218 (lv_at hl 3 rfl) ?_
                        refine lv_iadd hx hb dX6_angle_220 ?_
                        refine kTopI (z := rB2 w h P m0 ((r6 w h P m0 i).1) (stpN i) ((r6 w h P m0 i).2)) ((if_neg c_213).symm) ?_
                        refine lv_istore_n (lv' := [(2, .int (rB2 w h P m0 ((r6 w h P m0 i).1) (stpN i) ((r6 w h P m0 i).2))), (13, .double (rM w h P m0 ((r6 w h P m0 i).1) (stpN i))), (11, .double (rL w h P m0 ((r6 w h P m0 i).1) (stpN i))), (10, .int ((r6 w h P m0 i).1)), (9, .int (stpN i)), (0, .ref z0), (1, .int (nI m0)), (3, .double (rS1 w h P m0 ((r6 w h P m0 i).1) (stpN i) ((r6 w h P m0 i).2))), (8, .int (nI i))]) hx hb dX6_angle_221 rfl hl (by decide) rfl (fun ls hl => ?_)
                        refine lv_dload hx hb dX6_angle_222 (lv_at hl 1 rfl) ?_
                        refine kTopD (z := rS2 w h P m0 ((r6 w h P m0 i).1) (stpN i) ((r6 w h P m0 i).2)) ((if_neg c_213).symm) ?_
                        refine lv_dstore_n (lv' := [(3, .double (rS2 w h P m0 ((r6 w h P m0 i).1) (stpN i) ((r6 w h P m0 i).2))), (2, .int (rB2 w h P m0 ((r6 w h P m0 i).1) (stpN i) ((r6 w h P m0 i).2))), (13, .double (rM w h P m0 ((r6 w h P m0 i).1) (stpN i))), (11, .double (rL w h P m0 ((r6 w h P m0 i).1) (stpN i))), (10, .int ((r6 w h P m0 i).1)), (9, .int (stpN i)), (0, .ref z0), (1, .int (nI m0)), (8, .int (nI i))]) hx hb dX6_angle_224 rfl hl (by decide) rfl (fun ls hl => ?_)
                        refine lv_iinc (v := nI (i + 1)) (lv' := [(8, .int (nI (i + 1))), (3, .double (rS2 w h P m0 ((r6 w h P m0 i).1) (stpN i) ((r6 w h P m0 i).2))), (2, .int (rB2 w h P m0 ((r6 w h P m0 i).1) (stpN i) ((r6 w h P m0 i).2))), (13, .double (rM w h P m0 ((r6 w h P m0 i).1) (stpN i))), (11, .double (rL w h P m0 ((r6 w h P m0 i).1) (stpN i))), (10, .int ((r6 w h P m0 i).1)), (9, .int (stpN i)), (0, .ref z0), (1, .int (nI m0))]) hx hb dX6_angle_225 hl (k := 8) rfl (nI_1 _) (by decide) rfl (fun ls hl => ?_)
                        refine lv_goto (tgt := 123) hx hb dX6_angle_228 (by decide) ?_
                        exact ih123 (i + 1) (by omega) (by omega) _ _ hP hD hS _ (lv_sub hl [7, 8, 2, 1, 0] rfl)
                    · refine lv_iload hx hb dX6_angle_200 (lv_at hl 2 rfl) ?_
                      refine lv_iload hx hb dX6_angle_202 (lv_at hl 3 rfl) ?_
                      refine lv_isub hx hb dX6_angle_204 ?_
                      refine kTopI (z := rB1 w h P m0 ((r6 w h P m0 i).1) (stpN i) ((r6 w h P m0 i).2)) ((if_neg c_197).symm) ?_
                      refine lv_istore_n (lv' := [(2, .int (rB1 w h P m0 ((r6 w h P m0 i).1) (stpN i) ((r6 w h P m0 i).2))), (13, .double (rM w h P m0 ((r6 w h P m0 i).1) (stpN i))), (11, .double (rL w h P m0 ((r6 w h P m0 i).1) (stpN i))), (10, .int ((r6 w h P m0 i).1)), (9, .int (stpN i)), (0, .ref z0), (1, .int (nI m0)), (3, .double ((r6 w h P m0 i).2)), (8, .int (nI i))]) hx hb dX6_angle_205 rfl hl (by decide) rfl (fun ls hl => ?_)
                      refine lv_dload hx hb dX6_angle_206 (lv_at hl 2 rfl) ?_
                      refine kTopD (z := rS1 w h P m0 ((r6 w h P m0 i).1) (stpN i) ((r6 w h P m0 i).2)) ((if_neg c_197).symm) ?_
                      refine lv_dstore_n (lv' := [(3, .double (rS1 w h P m0 ((r6 w h P m0 i).1) (stpN i) ((r6 w h P m0 i).2))), (2, .int (rB1 w h P m0 ((r6 w h P m0 i).1) (stpN i) ((r6 w h P m0 i).2))), (13, .double (rM w h P m0 ((r6 w h P m0 i).1) (stpN i))), (11, .double (rL w h P m0 ((r6 w h P m0 i).1) (stpN i))), (10, .int ((r6 w h P m0 i).1)), (9, .int (stpN i)), (0, .ref z0), (1, .int (nI m0)), (8, .int (nI i))]) hx hb dX6_angle_208 rfl hl (by decide) rfl (fun ls hl => ?_)
                      refine lv_dload hx hb dX6_angle_209 (lv_at hl 2 rfl) ?_
                      refine lv_dload_n hx hb dX6_angle_211 rfl (lv_at hl 0 rfl) ?_
                      refine lv_dcmp hx hb dX6_angle_212 ?_
                      refine lv_if_le (tgt := 225) hx hb dX6_angle_213 (by decide) (fun c_213 => ?_) (fun c_213 => ?_)
                      · have hl : lv_has ls 15 [(3, .double (rS1 w h P m0 ((r6 w h P m0 i).1) (stpN i) ((r6 w h P m0 i).2))), (2, .int (rB2 w h P m0 ((r6 w h P m0 i).1) (stpN i) ((r6 w h P m0 i).2))), (13, .double (rM w h P m0 ((r6 w h P m0 i).1) (stpN i))), (11, .double (rL w h P m0 ((r6 w h P m0 i).1) (stpN i))), (10, .int ((r6 w h P m0 i).1)), (9, .int (stpN i)), (0, .ref z0), (1, .int (nI m0)), (8, .int (nI i))] := by rw [show rB2 w h P m0 ((r6 w h P m0 i).1) (stpN i) ((r6 w h P m0 i).2) = rB1 w h P m0 ((r6 w h P m0 i).1) (stpN i) ((r6 w h P m0 i).2) from ((if_pos c_213).symm).symm]; exact hl
                        have hl : lv_has ls 15 [(3, .double (rS2 w h P m0 ((r6 w h P m0 i).1) (stpN i) ((r6 w h P m0 i).2))), (2, .int (rB2 w h P m0 ((r6 w h P m0 i).1) (stpN i) ((r6 w h P m0 i).2))), (13, .double (rM w h P m0 ((r6 w h P m0 i).1) (stpN i))), (11, .double (rL w h P m0 ((r6 w h P m0 i).1) (stpN i))), (10, .int ((r6 w h P m0 i).1)), (9, .int (stpN i)), (0, .ref z0), (1, .int (nI m0)), (8, .int (nI i))] := by rw [show rS2 w h P m0 ((r6 w h P m0 i).1) (stpN i) ((r6 w h P m0 i).2) = rS1 w h P m0 ((r6 w h P m0 i).1) (stpN i) ((r6 w h P m0 i).2) from ((if_pos c_213).symm).symm]; exact hl
                        refine lv_iinc (v := nI (i + 1)) (lv' := [(8, .int (nI (i + 1))), (3, .double (rS2 w h P m0 ((r6 w h P m0 i).1) (stpN i) ((r6 w h P m0 i).2))), (2, .int (rB2 w h P m0 ((r6 w h P m0 i).1) (stpN i) ((r6 w h P m0 i).2))), (13, .double (rM w h P m0 ((r6 w h P m0 i).1) (stpN i))), (11, .double (rL w h P m0 ((r6 w h P m0 i).1) (stpN i))), (10, .int ((r6 w h P m0 i).1)), (9, .int (stpN i)), (0, .ref z0), (1, .int (nI m0))]) hx hb dX6_angle_225 hl (k := 8) rfl (nI_1 _) (by decide) rfl (fun ls hl => ?_)
                        refine lv_goto (tgt := 123) hx hb dX6_angle_228 (by decide) ?_
                        exact ih123 (i + 1) (by omega) (by omega) _ _ hP hD hS _ (lv_sub hl [7, 8, 2, 1, 0] rfl)
                      · refine lv_iload hx hb dX6_angle_216 (lv_at hl 4 rfl) ?_
                        refine lv_iload hx hb dX6_angle_218 (lv_at hl 5 rfl) ?_
                        refine lv_iadd hx hb dX6_angle_220 ?_
                        refine kTopI (z := rB2 w h P m0 ((r6 w h P m0 i).1) (stpN i) ((r6 w h P m0 i).2)) ((if_neg c_213).symm) ?_
                        refine lv_istore_n (lv' := [(2, .int (rB2 w h P m0 ((r6 w h P m0 i).1) (stpN i) ((r6 w h P m0 i).2))), (3, .double (rS1 w h P m0 ((r6 w h P m0 i).1) (stpN i) ((r6 w h P m0 i).2))), (13, .double (rM w h P m0 ((r6 w h P m0 i).1) (stpN i))), (11, .double (rL w h P m0 ((r6 w h P m0 i).1) (stpN i))), (10, .int ((r6 w h P m0 i).1)), (9, .int (stpN i)), (0, .ref z0), (1, .int (nI m0)), (8, .int (nI i))]) hx hb dX6_angle_221 rfl hl (by decide) rfl (fun ls hl => ?_)
                        refine lv_dload hx hb dX6_angle_222 (lv_at hl 2 rfl) ?_
                        refine kTopD (z := rS2 w h P m0 ((r6 w h P m0 i).1) (stpN i) ((r6 w h P m0 i).2)) ((if_neg c_213).symm) ?_
                        refine lv_dstore_n (lv' := [(3, .double (rS2 w h P m0 ((r6 w h P m0 i).1) (stpN i) ((r6 w h P m0 i).2))), (2, .int (rB2 w h P m0 ((r6 w h P m0 i).1) (stpN i) ((r6 w h P m0 i).2))), (13, .double (rM w h P m0 ((r6 w h P m0 i).1) (stpN i))), (11, .double (rL w h P m0 ((r6 w h P m0 i).1) (stpN i))), (10, .int ((r6 w h P m0 i).1)), (9, .int (stpN i)), (0, .ref z0), (1, .int (nI m0)), (8, .int (nI i))]) hx hb dX6_angle_224 rfl hl (by decide) rfl (fun ls hl => ?_)
                        refine lv_iinc (v := nI (i + 1)) (lv' := [(8, .int (nI (i + 1))), (3, .double (rS2 w h P m0 ((r6 w h P m0 i).1) (stpN i) ((r6 w h P m0 i).2))), (2, .int (rB2 w h P m0 ((r6 w h P m0 i).1) (stpN i) ((r6 w h P m0 i).2))), (13, .double (rM w h P m0 ((r6 w h P m0 i).1) (stpN i))), (11, .double (rL w h P m0 ((r6 w h P m0 i).1) (stpN i))), (10, .int ((r6 w h P m0 i).1)), (9, .int (stpN i)), (0, .ref z0), (1, .int (nI m0))]) hx hb dX6_angle_225 hl (k := 8) rfl (nI_1 _) (by decide) rfl (fun ls hl => ?_)
                        refine lv_goto (tgt := 123) hx hb dX6_angle_228 (by decide) ?_
                        exact ih123 (i + 1) (by omega) (by omega) _ _ hP hD hS _ (lv_sub hl [7, 8, 2, 1, 0] rfl)
          exact K123 (6 - 0 + 1) 0 (by omega) (by omega) _ _ hP hD hS _ (lv_sub hl [1, 2, 3, 4, 0] rfl)
        · have c_70 : ¬ 2 * m0 < 100 * i := fun q => c_70 ((angI_gt hm (by omega)).mpr q)
          refine lv_aload_n hx hb dX6_angle_73 rfl (lv_at hl 0 rfl) ?_
          refine lv_iload hx hb dX6_angle_74 (lv_at hl 6 rfl) ?_
          refine kVd (w' := [(z0, .inr (5, [.int 0, .int (nI w), .int (nI h), .ref z1, .ref z2, .ref z3, .int (b2i true), .int (b2i false), .double FP.dconst0, .ref z4, .int (nI tc), .ref z5, .int ba, .int br])), (z1, .inl (cZ, 576, .inl (bA P))), (z2, .inl (cZ, 576, .inl (bA N))), (z3, .inl (cI, 4, .inl (e4 ze le ue re de))), (z4, .inl (cI, 16, .inl TM)), (z5, .inl (cI, 104, .inl (mLn w h P (jL w h P m0 LN i) (angI m0 i))))]) (wr := []) (isC := [0, 1, 2, 3, 4, 5]) (isR := []) (pm := [0, 1, 2, 3, 4, 5]) (rest := []) (kX6_sumOf l G cI cZ cJ cD z0 z1 z2 z3 z4 z5 w h hw hh 0 P N ze le ue re de true false FP.dconst0 tc TM (jL w h P m0 LN i) ba br (angI m0 i) (by rw [angI_toInt hm (by omega)]; omega) (by rw [angI_toInt hm (by omega)]; omega)) ⟨hx, hb, hml, hown, hts⟩ (cwV 1 hts gX6_angle_X6_sumOf rfl rfl rfl hd_X6_sumOf ⟨Nat.le_of_ble_eq_true rfl, Nat.le_of_ble_eq_true rfl⟩) hK hP hD hS hA ⟨rfl, rfl, rfl, by decide, rfl, rfl, rfl⟩ 5 0 rfl rfl rfl hl.1 rfl (Nat.le_of_ble_eq_true rfl) dX6_angle_76 ⟨Nat.le_of_ble_eq_true rfl, Nat.le_of_ble_eq_true rfl⟩ rfl rfl (fun H locs hP hD hS => ?_)
          have b6 : fIv (-140737488355328) (140737488355328) (mSum w h P (angI m0 i)) := fMSum _ _ _ _
          refine lv_dstore (lv' := [(9, .double (mSum w h P (angI m0 i))), (0, .ref z0), (1, .int (nI m0)), (2, .int (jB w h P m0 i)), (3, .double (jS w h P m0 i)), (5, .double (jT w h P m0 i)), (7, .int (nI i)), (8, .int (angI m0 i))]) hx hb dX6_angle_79 hl (by decide) rfl (fun ls hl => ?_)
          refine lv_dload hx hb dX6_angle_81 (lv_at hl 5 rfl) ?_
          refine lv_dload hx hb dX6_angle_83 (lv_at hl 0 rfl) ?_
          have b7 : fIv (-5910974510923776) (5910974510923776) (FP.dadd (jT w h P m0 i) (mSum w h P (angI m0 i))) := fAdd (fJT w h P m0 (i := i) (by omega)) b6 (by decide +kernel) (by decide +kernel) (by decide +kernel) (by decide +kernel)
          refine lv_dadd hx hb dX6_angle_85 b7.n64 ?_
          refine lv_dstore (lv' := [(5, .double (FP.dadd (jT w h P m0 i) (mSum w h P (angI m0 i)))), (9, .double (mSum w h P (angI m0 i))), (0, .ref z0), (1, .int (nI m0)), (2, .int (jB w h P m0 i)), (3, .double (jS w h P m0 i)), (7, .int (nI i)), (8, .int (angI m0 i))]) hx hb dX6_angle_86 hl (by decide) rfl (fun ls hl => ?_)
          refine lv_iinc (v := nI (i + 1)) (lv' := [(7, .int (nI (i + 1))), (5, .double (FP.dadd (jT w h P m0 i) (mSum w h P (angI m0 i)))), (9, .double (mSum w h P (angI m0 i))), (0, .ref z0), (1, .int (nI m0)), (2, .int (jB w h P m0 i)), (3, .double (jS w h P m0 i)), (8, .int (angI m0 i))]) hx hb dX6_angle_88 hl (k := 6) rfl (nI_1 _) (by decide) rfl (fun ls hl => ?_)
          refine lv_dload hx hb dX6_angle_91 (lv_at hl 2 rfl) ?_
          refine lv_dload_n hx hb dX6_angle_93 rfl (lv_at hl 6 rfl) ?_
          refine lv_dcmp hx hb dX6_angle_94 ?_
          refine lv_if_le (tgt := 104) hx hb dX6_angle_95 (by decide) (fun c_95 => ?_) (fun c_95 => ?_)
          · have hl : lv_has ls 15 [(7, .int (nI (i + 1))), (5, .double (FP.dadd (jT w h P m0 i) (mSum w h P (angI m0 i)))), (9, .double (mSum w h P (angI m0 i))), (0, .ref z0), (1, .int (nI m0)), (2, .int (jB w h P m0 (i + 1))), (3, .double (jS w h P m0 i)), (8, .int (angI m0 i))] := by rw [show jB w h P m0 (i + 1) = jB w h P m0 i from ((if_pos c_95).symm).symm]; exact hl
            have hl : lv_has ls 15 [(7, .int (nI (i + 1))), (5, .double (FP.dadd (jT w h P m0 i) (mSum w h P (angI m0 i)))), (9, .double (mSum w h P (angI m0 i))), (0, .ref z0), (1, .int (nI m0)), (2, .int (jB w h P m0 (i + 1))), (3, .double (jS w h P m0 (i + 1))), (8, .int (angI m0 i))] := by rw [show jS w h P m0 (i + 1) = jS w h P m0 i from ((if_pos c_95).symm).symm]; exact hl
            refine lv_iinc (v := (angI m0 i) + 100) (lv' := [(8, .int ((angI m0 i) + 100)), (7, .int (nI (i + 1))), (5, .double (FP.dadd (jT w h P m0 i) (mSum w h P (angI m0 i)))), (9, .double (mSum w h P (angI m0 i))), (0, .ref z0), (1, .int (nI m0)), (2, .int (jB w h P m0 (i + 1))), (3, .double (jS w h P m0 (i + 1)))]) hx hb dX6_angle_104 hl (k := 7) rfl rfl (by decide) rfl (fun ls hl => ?_)
            have hl : lv_has ls 15 [(8, .int (angI m0 (i + 1))), (7, .int (nI (i + 1))), (5, .double (FP.dadd (jT w h P m0 i) (mSum w h P (angI m0 i)))), (9, .double (mSum w h P (angI m0 i))), (0, .ref z0), (1, .int (nI m0)), (2, .int (jB w h P m0 (i + 1))), (3, .double (jS w h P m0 (i + 1)))] := by rw [show angI m0 (i + 1) = (angI m0 i) + 100 from (angI_s hm (by omega)).symm]; exact hl
            refine lv_goto (tgt := 67) hx hb dX6_angle_107 (by decide) ?_
            exact ih67 (i + 1) (by omega) (by omega) _ _ hP hD hS _ (lv_sub hl [4, 5, 6, 7, 2, 1, 0] rfl)
          · refine lv_dload hx hb dX6_angle_98 (lv_at hl 2 rfl) ?_
            refine kTopD (z := jS w h P m0 (i + 1)) ((if_neg c_95).symm) ?_
            refine lv_dstore_n (lv' := [(3, .double (jS w h P m0 (i + 1))), (7, .int (nI (i + 1))), (5, .double (FP.dadd (jT w h P m0 i) (mSum w h P (angI m0 i)))), (9, .double (mSum w h P (angI m0 i))), (0, .ref z0), (1, .int (nI m0)), (2, .int (jB w h P m0 i)), (8, .int (angI m0 i))]) hx hb dX6_angle_100 rfl hl (by decide) rfl (fun ls hl => ?_)
            refine lv_iload hx hb dX6_angle_101 (lv_at hl 7 rfl) ?_
            refine kTopI (z := jB w h P m0 (i + 1)) ((if_neg c_95).symm) ?_
            refine lv_istore_n (lv' := [(2, .int (jB w h P m0 (i + 1))), (3, .double (jS w h P m0 (i + 1))), (7, .int (nI (i + 1))), (5, .double (FP.dadd (jT w h P m0 i) (mSum w h P (angI m0 i)))), (9, .double (mSum w h P (angI m0 i))), (0, .ref z0), (1, .int (nI m0)), (8, .int (angI m0 i))]) hx hb dX6_angle_103 rfl hl (by decide) rfl (fun ls hl => ?_)
            refine lv_iinc (v := (angI m0 i) + 100) (lv' := [(8, .int ((angI m0 i) + 100)), (2, .int (jB w h P m0 (i + 1))), (3, .double (jS w h P m0 (i + 1))), (7, .int (nI (i + 1))), (5, .double (FP.dadd (jT w h P m0 i) (mSum w h P (angI m0 i)))), (9, .double (mSum w h P (angI m0 i))), (0, .ref z0), (1, .int (nI m0))]) hx hb dX6_angle_104 hl (k := 7) rfl rfl (by decide) rfl (fun ls hl => ?_)
            have hl : lv_has ls 15 [(8, .int (angI m0 (i + 1))), (2, .int (jB w h P m0 (i + 1))), (3, .double (jS w h P m0 (i + 1))), (7, .int (nI (i + 1))), (5, .double (FP.dadd (jT w h P m0 i) (mSum w h P (angI m0 i)))), (9, .double (mSum w h P (angI m0 i))), (0, .ref z0), (1, .int (nI m0))] := by rw [show angI m0 (i + 1) = (angI m0 i) + 100 from (angI_s hm (by omega)).symm]; exact hl
            refine lv_goto (tgt := 67) hx hb dX6_angle_107 (by decide) ?_
            exact ih67 (i + 1) (by omega) (by omega) _ _ hP hD hS _ (lv_sub hl [6, 7, 1, 2, 4, 3, 0] rfl)
    exact K67 (2 * m0 + 200 - 100 * 0 + 1) 0 (by omega) (by omega) _ _ hP hD hS _ (lv_sub hl [5, 6, 4, 3, 2, 1, 0] rfl)
  · refine lv_ldc (v := 100000) hx hb hown (hts _ wd_kX6_angleV_c110) dX6_angle_47 ?_
    exact hend _ _ _ _ _ _ dX6_angle_49 hP hD hS (by first | (simp only [maR, maSu, maMn, maLN, mSu, b2i_t, b2i_f, c_2, c_9, c_20, c_44, ↓reduceIte]; done) | (simp [maR, maSu, maMn, maLN, mSu, b2i_t, b2i_f, c_2, c_9, c_20, c_44]; done) | rfl) (by first | (simp only [maR, maSu, maMn, maLN, mSu, b2i_t, b2i_f, c_2, c_9, c_20, c_44, ↓reduceIte]; done) | (simp [maR, maSu, maMn, maLN, mSu, b2i_t, b2i_f, c_2, c_9, c_20, c_44]; done) | rfl)
