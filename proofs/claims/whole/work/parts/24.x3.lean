/-! the sums and the search -/
def colnF (E : Nat → Int32) (ln : Int32) : Nat → Int32 := if ln + 12 < 0 then E else if nI 48 ≤ ln + 12 then E else upd E (ln + 12).toNatClampNeg (E (ln + 12).toNatClampNeg + 1)
def lineF (y x : Nat) (t : UInt64) : Int32 := wholeF (FP.dsub (FP.i2d (nI y)) (FP.dmul (FP.i2d (nI x)) t))
def lnX (r : Int32) (y : Nat) (t : UInt64) (E : Nat → Int32) : Nat → Nat → Int32
  | 0 => E
  | x + 1 => if sUshr r (nI x) &&& 1 = 0 then lnX r y t E x else colnF (lnX r y t E x) (lineF y x t)
def lnY (w : Nat) (B : Nat → Int32) (t : UInt64) (E : Nat → Int32) : Nat → Nat → Int32
  | 0 => E
  | y + 1 => lnX (endsF (B y)) y t (lnY w B t E y) w
def sqF (E : Nat → Int32) : Int32 := sumI (fun i => E i * E i) 48
def zerE (E : Nat → Int32) : Nat → Int32 := mapN (fun _ _ => 0) E 48
def cntE (w h : Nat) (B : Nat → Int32) (t : UInt64) (E : Nat → Int32) : Nat → Int32 := lnY w B t (zerE E) h
theorem ush_hs : ∀ n, n < 32 → (((nI n).toUInt32 &&& Int32.toUInt32 31).toBitVec % 32).toNat = n := by decide +kernel
theorem ush_nat (r : Int32) {x : Nat} (h : x < 32) : (sUshr r (nI x)).toBitVec.toNat = r.toBitVec.toNat / 2 ^ x := pk_ushr r (nI x) x (ush_hs x h)
theorem bv0 {a : Int32} (h : a.toBitVec.toNat = 0) : a = 0 := by
  apply Int32.toBitVec_inj.mp
  exact BitVec.eq_of_toNat_eq (by rw [h]; rfl)
theorem ush_0 {r : Int32} {x z : Nat} (hx : x ≤ z) (hz : z < 32) (h : sUshr r (nI x) = 0) : sUshr r (nI z) = 0 := by
  have h1 := ush_nat r (x := x) (by omega)
  rw [h] at h1
  have h2 : r.toBitVec.toNat < 2 ^ x := by
    rcases Nat.lt_or_ge r.toBitVec.toNat (2 ^ x) with q | q
    · exact q
    · have := Nat.div_pos q (Nat.two_pow_pos x)
      have h3 : (0 : Int32).toBitVec.toNat = 0 := rfl
      omega
  refine bv0 ?_
  rw [ush_nat r hz]
  exact Nat.div_eq_of_lt (Nat.lt_of_lt_of_le h2 (Nat.pow_le_pow_right (by decide) hx))
theorem lnX_tail {r : Int32} (y : Nat) (t : UInt64) (E : Nat → Int32) {x : Nat} (h : sUshr r (nI x) = 0) : ∀ n, x + n ≤ 32 → lnX r y t E (x + n) = lnX r y t E x
  | 0, _ => rfl
  | n + 1, hn => by
    have e := ush_0 (z := x + n) (by omega) (by omega) h
    have : lnX r y t E (x + n + 1) = lnX r y t E (x + n) := by
      show (if sUshr r (nI (x + n)) &&& 1 = 0 then _ else _) = _
      rw [e]; rfl
    exact this.trans (lnX_tail y t E h n (by omega))
def eqE (E F : Nat → Int32) : Prop := ∀ i, i < 48 → E i = F i
theorem colnF_eq {E F : Nat → Int32} (h : eqE E F) (ln : Int32) : eqE (colnF E ln) (colnF F ln) := by
  intro i hi
  unfold colnF
  by_cases h0 : ln + 12 < 0
  · rw [if_pos h0, if_pos h0]; exact h i hi
  · by_cases h1 : nI 48 ≤ ln + 12
    · rw [if_neg h0, if_pos h1, if_neg h0, if_pos h1]; exact h i hi
    · rw [if_neg h0, if_neg h1, if_neg h0, if_neg h1]
      have h2 := vp_inN (n := 48) (by decide) h0 h1
      have h3 : (ln + 12).toNatClampNeg < 48 := Nat.not_le.mp fun q => h2 (Or.inr q)
      unfold upd
      by_cases e : i = (ln + 12).toNatClampNeg
      · rw [if_pos e, if_pos e, h _ h3]
      · rw [if_neg e, if_neg e]; exact h i hi
theorem lnX_eq (r : Int32) (y : Nat) (t : UInt64) {E F : Nat → Int32} (h : eqE E F) : ∀ x, eqE (lnX r y t E x) (lnX r y t F x)
  | 0 => h
  | x + 1 => by
    have ih := lnX_eq r y t h x
    unfold lnX
    split
    · exact ih
    · exact colnF_eq ih _
theorem lnY_eq (w : Nat) (B : Nat → Int32) (t : UInt64) {E F : Nat → Int32} (h : eqE E F) : ∀ y, eqE (lnY w B t E y) (lnY w B t F y)
  | 0 => h
  | y + 1 => lnX_eq _ _ _ (lnY_eq w B t h y) w
theorem sumI_eq {f g : Nat → Int32} : ∀ n, (∀ i, i < n → f i = g i) → sumI f n = sumI g n
  | 0, _ => rfl
  | n + 1, h => by
    show sumI f n + f n = sumI g n + g n
    rw [sumI_eq n (fun i hi => h i (by omega)), h n (by omega)]
theorem sqF_eq {E F : Nat → Int32} (h : eqE E F) : sqF E = sqF F := sumI_eq 48 (fun i hi => by rw [h i hi])
def sqZ (w h : Nat) (B : Nat → Int32) (t : UInt64) : Int32 := sqF (lnY w B t (fun _ => 0) h)
theorem sqZ_of (w h : Nat) (B : Nat → Int32) (t : UInt64) (E : Nat → Int32) : sqF (cntE w h B t E) = sqZ w h B t :=
  sqF_eq (lnY_eq w B t (fun i hi => by simp [zerE, mapN, hi]) h)
def sumF (w h : Nat) (B : Nat → Int32) (a : Int32) : UInt64 := if cntEnds B h = 0 then FP.dconst0 else FP.ddiv (FP.i2d (sqZ w h B (slopeF (FP.i2d a)))) (FP.i2d (cntEnds B h))
def sumE (w h : Nat) (B : Nat → Int32) (E : Nat → Int32) (a : Int32) : Nat → Int32 := if cntEnds B h = 0 then E else cntE w h B (slopeF (FP.i2d a)) E
theorem fAny (v : Int32) : fIv (-140737488355328) 140737488355328 (FP.i2d v) := by
  have := Jvm.FP.Core.int32_abs v
  exact (fIv.i2d v).weak (by omega) (by omega) (by decide +kernel) (by decide +kernel)
theorem fSumF (w h : Nat) (B : Nat → Int32) (a : Int32) : fIv (-140737488355328) 140737488355328 (sumF w h B a) := by
  unfold sumF
  split
  · exact fc_dconst0.weak (by decide) (by decide) (by decide +kernel) (by decide +kernel)
  · rename_i hne
    exact fDivI (fAny _) _ hne (by decide +kernel)
theorem in_kX3_forget_X3 : ∀ w ∈ u_ws RX3 TX3 7, w ∈ wsX3_forget := by decide +kernel
theorem fl_kX3_forget_15 : Cond.fieldLink RX3 15 "SkewFind$Search" "asked" "Z" ∈ wsX3_forget := by decide +kernel
abbrev rmX3_forget : Room := { frames := 0, cells := 0, slots := 0, locals := 0 }
set_option maxRecDepth 100000 in
set_option maxHeartbeats 4000000 in
theorem kX3_forget (l : Launch) (G : va_G) (cI cZ cJ cD : ClassId) (a0 e0 : Nat) (h0 q1 q2 w h : Nat) (hw : w ≤ 24) (hh : h ≤ 24) (B O : Nat → Int32) (E : Nat → Int32) (ak su : Bool) (gm : UInt64) (be : Int32) (bs : UInt64)  : Cv l G (kTy cI cZ cJ cD) yX3_forget wsX3_forget rmX3_forget [.ref a0] [(a0, .inr (2, [.ref h0, .ref e0, .int (b2i ak), .int (b2i su), .double gm, .int be, .double bs])), (e0, .inl (cI, 48, .inl E)), (h0, .inr (0, [.int (nI w), .int (nI h), .double (midF w), .double (midF h), .ref q1, .ref q2])), (q1, .inl (cI, 24, .inl B)), (q2, .inl (cI, 24, .inl O))] [(a0, .inr (2, [.ref h0, .ref e0, .int (b2i false), .int (b2i su), .double gm, .int be, .double bs])), (e0, .inl (cI, 48, .inl E)), (h0, .inr (0, [.int (nI w), .int (nI h), .double (midF w), .double (midF h), .ref q1, .ref q2])), (q1, .inl (cI, 24, .inl B)), (q2, .inl (cI, 24, .inl O))] := by
  refine Cv.of rfl rfl (cc := cX3_forget) (maxL := 1) (plainFor_of_name (by decide)) rfl (Nat.le_of_ble_eq_true rfl) rfl ?_
  intro p e s m args below meth c A Q hx hb hml hts hown hA hK hP hD hS hend ls hl
  refine lv_aload_n hx hb dX3_forget_0 rfl (lv_at hl 0 rfl) ?_
  refine lv_iconst (v := 0) hx hb dX3_forget_1 (by decide) ?_
  refine va_put (D := G) (ci := 2) (v := .int 0) (ty := .boolean) (C := RX3) (T := TX3) (N := 7) hx hb hts in_kX3_forget_X3 tyX3 tyX3_ok nmX3 hown hK hP hD hS 0 rfl rfl 2 (by decide) (hts _ fl_kX3_forget_15) (fun _ h9 => h9) rfl (by decide +kernel) rfl rfl (Nat.le_of_ble_eq_true rfl) dX3_forget_2 (fun H locs (hP : va_P G vwCl [(a0, .inr (2, [.ref h0, .ref e0, .int 0, .int (b2i su), .double gm, .int be, .double bs])), (e0, .inl (cI, 48, .inl E)), (h0, .inr (0, [.int (nI w), .int (nI h), .double (midF w), .double (midF h), .ref q1, .ref q2])), (q1, .inl (cI, 24, .inl B)), (q2, .inl (cI, 24, .inl O))] H) (hD : va_D A [(a0, .inr (2, [.ref h0, .ref e0, .int 0, .int (b2i su), .double gm, .int be, .double bs])), (e0, .inl (cI, 48, .inl E)), (h0, .inr (0, [.int (nI w), .int (nI h), .double (midF w), .double (midF h), .ref q1, .ref q2])), (q1, .inl (cI, 24, .inl B)), (q2, .inl (cI, 24, .inl O))]) hS => ?_)
  exact hend _ _ _ _ _ dX3_forget_5 hP hD hS rfl
theorem in_kX3_isAsked_X3 : ∀ w ∈ u_ws RX3 TX3 7, w ∈ wsX3_isAsked := by decide +kernel
theorem fl_kX3_isAsked_15 : Cond.fieldLink RX3 15 "SkewFind$Search" "asked" "Z" ∈ wsX3_isAsked := by decide +kernel
abbrev rmX3_isAsked : Room := { frames := 0, cells := 0, slots := 0, locals := 0 }
set_option maxRecDepth 100000 in
set_option maxHeartbeats 4000000 in
theorem kX3_isAsked (l : Launch) (G : va_G) (cI cZ cJ cD : ClassId) (a0 e0 : Nat) (h0 q1 q2 w h : Nat) (hw : w ≤ 24) (hh : h ≤ 24) (B O : Nat → Int32) (E : Nat → Int32) (ak su : Bool) (gm : UInt64) (be : Int32) (bs : UInt64)  : Ci l G (kTy cI cZ cJ cD) yX3_isAsked wsX3_isAsked rmX3_isAsked [.ref a0] [(a0, .inr (2, [.ref h0, .ref e0, .int (b2i ak), .int (b2i su), .double gm, .int be, .double bs])), (e0, .inl (cI, 48, .inl E)), (h0, .inr (0, [.int (nI w), .int (nI h), .double (midF w), .double (midF h), .ref q1, .ref q2])), (q1, .inl (cI, 24, .inl B)), (q2, .inl (cI, 24, .inl O))] (b2i ak) [(a0, .inr (2, [.ref h0, .ref e0, .int (b2i ak), .int (b2i su), .double gm, .int be, .double bs])), (e0, .inl (cI, 48, .inl E)), (h0, .inr (0, [.int (nI w), .int (nI h), .double (midF w), .double (midF h), .ref q1, .ref q2])), (q1, .inl (cI, 24, .inl B)), (q2, .inl (cI, 24, .inl O))] := by
  refine Ci.of .boolean (nar_b2i _) rfl rfl (cc := cX3_isAsked) (maxL := 1) (plainFor_of_name (by decide)) rfl (Nat.le_of_ble_eq_true rfl) rfl ?_
  intro p e s m args below meth c A Q hx hb hml hts hown hA hK hP hD hS hend ls hl
  refine lv_aload_n hx hb dX3_isAsked_0 rfl (lv_at hl 0 rfl) ?_
  refine va_get (D := G) (ci := 2) (v := .int (b2i ak)) (C := RX3) (T := TX3) (N := 7) hx hb hts in_kX3_isAsked_X3 hown hK hP 0 rfl rfl 2 (by decide) (hts _ fl_kX3_isAsked_15) (fun _ h9 => h9) rfl dX3_isAsked_1 ?_
  exact hend _ _ _ _ _ _ dX3_isAsked_4 hP hD hS rfl rfl
theorem in_kX3_isSure_X3 : ∀ w ∈ u_ws RX3 TX3 7, w ∈ wsX3_isSure := by decide +kernel
theorem fl_kX3_isSure_19 : Cond.fieldLink RX3 19 "SkewFind$Search" "sureOfBest" "Z" ∈ wsX3_isSure := by decide +kernel
abbrev rmX3_isSure : Room := { frames := 0, cells := 0, slots := 0, locals := 0 }
set_option maxRecDepth 100000 in
set_option maxHeartbeats 4000000 in
theorem kX3_isSure (l : Launch) (G : va_G) (cI cZ cJ cD : ClassId) (a0 e0 : Nat) (h0 q1 q2 w h : Nat) (hw : w ≤ 24) (hh : h ≤ 24) (B O : Nat → Int32) (E : Nat → Int32) (ak su : Bool) (gm : UInt64) (be : Int32) (bs : UInt64)  : Ci l G (kTy cI cZ cJ cD) yX3_isSure wsX3_isSure rmX3_isSure [.ref a0] [(a0, .inr (2, [.ref h0, .ref e0, .int (b2i ak), .int (b2i su), .double gm, .int be, .double bs])), (e0, .inl (cI, 48, .inl E)), (h0, .inr (0, [.int (nI w), .int (nI h), .double (midF w), .double (midF h), .ref q1, .ref q2])), (q1, .inl (cI, 24, .inl B)), (q2, .inl (cI, 24, .inl O))] (b2i su) [(a0, .inr (2, [.ref h0, .ref e0, .int (b2i ak), .int (b2i su), .double gm, .int be, .double bs])), (e0, .inl (cI, 48, .inl E)), (h0, .inr (0, [.int (nI w), .int (nI h), .double (midF w), .double (midF h), .ref q1, .ref q2])), (q1, .inl (cI, 24, .inl B)), (q2, .inl (cI, 24, .inl O))] := by
  refine Ci.of .boolean (nar_b2i _) rfl rfl (cc := cX3_isSure) (maxL := 1) (plainFor_of_name (by decide)) rfl (Nat.le_of_ble_eq_true rfl) rfl ?_
  intro p e s m args below meth c A Q hx hb hml hts hown hA hK hP hD hS hend ls hl
  refine lv_aload_n hx hb dX3_isSure_0 rfl (lv_at hl 0 rfl) ?_
  refine va_get (D := G) (ci := 2) (v := .int (b2i su)) (C := RX3) (T := TX3) (N := 7) hx hb hts in_kX3_isSure_X3 hown hK hP 0 rfl rfl 3 (by decide) (hts _ fl_kX3_isSure_19) (fun _ h9 => h9) rfl dX3_isSure_1 ?_
  exact hend _ _ _ _ _ _ dX3_isSure_4 hP hD hS rfl rfl
theorem in_kX3_meanOfGrid_X3 : ∀ w ∈ u_ws RX3 TX3 7, w ∈ wsX3_meanOfGrid := by decide +kernel
theorem fl_kX3_meanOfGrid_22 : Cond.fieldLink RX3 22 "SkewFind$Search" "gridMean" "D" ∈ wsX3_meanOfGrid := by decide +kernel
abbrev rmX3_meanOfGrid : Room := { frames := 0, cells := 0, slots := 0, locals := 0 }
set_option maxRecDepth 100000 in
set_option maxHeartbeats 4000000 in
theorem kX3_meanOfGrid (l : Launch) (G : va_G) (cI cZ cJ cD : ClassId) (a0 e0 : Nat) (h0 q1 q2 w h : Nat) (hw : w ≤ 24) (hh : h ≤ 24) (B O : Nat → Int32) (E : Nat → Int32) (ak su : Bool) (gm : UInt64) (be : Int32) (bs : UInt64)  : Cd l G (kTy cI cZ cJ cD) yX3_meanOfGrid wsX3_meanOfGrid rmX3_meanOfGrid [.ref a0] [(a0, .inr (2, [.ref h0, .ref e0, .int (b2i ak), .int (b2i su), .double gm, .int be, .double bs])), (e0, .inl (cI, 48, .inl E)), (h0, .inr (0, [.int (nI w), .int (nI h), .double (midF w), .double (midF h), .ref q1, .ref q2])), (q1, .inl (cI, 24, .inl B)), (q2, .inl (cI, 24, .inl O))] gm [(a0, .inr (2, [.ref h0, .ref e0, .int (b2i ak), .int (b2i su), .double gm, .int be, .double bs])), (e0, .inl (cI, 48, .inl E)), (h0, .inr (0, [.int (nI w), .int (nI h), .double (midF w), .double (midF h), .ref q1, .ref q2])), (q1, .inl (cI, 24, .inl B)), (q2, .inl (cI, 24, .inl O))] := by
  refine Cd.of rfl rfl (cc := cX3_meanOfGrid) (maxL := 1) (plainFor_of_name (by decide)) rfl (Nat.le_of_ble_eq_true rfl) rfl ?_
  intro p e s m args below meth c A Q hx hb hml hts hown hA hK hP hD hS hend ls hl
  refine lv_aload_n hx hb dX3_meanOfGrid_0 rfl (lv_at hl 0 rfl) ?_
  refine va_get (D := G) (ci := 2) (v := .double gm) (C := RX3) (T := TX3) (N := 7) hx hb hts in_kX3_meanOfGrid_X3 hown hK hP 0 rfl rfl 4 (by decide) (hts _ fl_kX3_meanOfGrid_22) (fun _ h9 => h9) rfl dX3_meanOfGrid_1 ?_
  exact hend _ _ _ _ _ _ dX3_meanOfGrid_4 hP hD hS rfl rfl
theorem in_kX3_take_X3 : ∀ w ∈ u_ws RX3 TX3 7, w ∈ wsX3_take := by decide +kernel
theorem fl_kX3_take_26 : Cond.fieldLink RX3 26 "SkewFind$Search" "best" "I" ∈ wsX3_take := by decide +kernel
theorem fl_kX3_take_30 : Cond.fieldLink RX3 30 "SkewFind$Search" "bestSum" "D" ∈ wsX3_take := by decide +kernel
abbrev rmX3_take : Room := { frames := 0, cells := 0, slots := 0, locals := 0 }
set_option maxRecDepth 100000 in
set_option maxHeartbeats 4000000 in
theorem kX3_take (l : Launch) (G : va_G) (cI cZ cJ cD : ClassId) (a0 e0 : Nat) (h0 q1 q2 w h : Nat) (hw : w ≤ 24) (hh : h ≤ 24) (B O : Nat → Int32) (E : Nat → Int32) (ak su : Bool) (gm : UInt64) (be : Int32) (bs : UInt64) (a : Int32) (v : UInt64) : Cv l G (kTy cI cZ cJ cD) yX3_take wsX3_take rmX3_take [.ref a0, .int a, .double v] [(a0, .inr (2, [.ref h0, .ref e0, .int (b2i ak), .int (b2i su), .double gm, .int be, .double bs])), (e0, .inl (cI, 48, .inl E)), (h0, .inr (0, [.int (nI w), .int (nI h), .double (midF w), .double (midF h), .ref q1, .ref q2])), (q1, .inl (cI, 24, .inl B)), (q2, .inl (cI, 24, .inl O))] [(a0, .inr (2, [.ref h0, .ref e0, .int (b2i ak), .int (b2i su), .double gm, .int a, .double v])), (e0, .inl (cI, 48, .inl E)), (h0, .inr (0, [.int (nI w), .int (nI h), .double (midF w), .double (midF h), .ref q1, .ref q2])), (q1, .inl (cI, 24, .inl B)), (q2, .inl (cI, 24, .inl O))] := by
  refine Cv.of rfl rfl (cc := cX3_take) (maxL := 4) (plainFor_of_name (by decide)) rfl (Nat.le_of_ble_eq_true rfl) rfl ?_
  intro p e s m args below meth c A Q hx hb hml hts hown hA hK hP hD hS hend ls hl
  refine lv_aload_n hx hb dX3_take_0 rfl (lv_at hl 0 rfl) ?_
  refine lv_iload_n hx hb dX3_take_1 rfl (lv_at hl 1 rfl) ?_
  refine va_put (D := G) (ci := 2) (v := .int a) (ty := .int) (C := RX3) (T := TX3) (N := 7) hx hb hts in_kX3_take_X3 tyX3 tyX3_ok nmX3 hown hK hP hD hS 0 rfl rfl 5 (by decide) (hts _ fl_kX3_take_26) (fun _ h9 => h9) rfl (by decide +kernel) rfl rfl (Nat.le_of_ble_eq_true rfl) dX3_take_2 (fun H locs (hP : va_P G vwCl [(a0, .inr (2, [.ref h0, .ref e0, .int (b2i ak), .int (b2i su), .double gm, .int a, .double bs])), (e0, .inl (cI, 48, .inl E)), (h0, .inr (0, [.int (nI w), .int (nI h), .double (midF w), .double (midF h), .ref q1, .ref q2])), (q1, .inl (cI, 24, .inl B)), (q2, .inl (cI, 24, .inl O))] H) (hD : va_D A [(a0, .inr (2, [.ref h0, .ref e0, .int (b2i ak), .int (b2i su), .double gm, .int a, .double bs])), (e0, .inl (cI, 48, .inl E)), (h0, .inr (0, [.int (nI w), .int (nI h), .double (midF w), .double (midF h), .ref q1, .ref q2])), (q1, .inl (cI, 24, .inl B)), (q2, .inl (cI, 24, .inl O))]) hS => ?_)
  refine lv_aload_n hx hb dX3_take_5 rfl (lv_at hl 0 rfl) ?_
  refine lv_dload_n hx hb dX3_take_6 rfl (lv_at hl 2 rfl) ?_
  refine va_put (D := G) (ci := 2) (v := .double v) (ty := .double) (C := RX3) (T := TX3) (N := 7) hx hb hts in_kX3_take_X3 tyX3 tyX3_ok nmX3 hown hK hP hD hS 0 rfl rfl 6 (by decide) (hts _ fl_kX3_take_30) (fun _ h9 => h9) rfl (by decide +kernel) rfl rfl (Nat.le_of_ble_eq_true rfl) dX3_take_7 (fun H locs (hP : va_P G vwCl [(a0, .inr (2, [.ref h0, .ref e0, .int (b2i ak), .int (b2i su), .double gm, .int a, .double v])), (e0, .inl (cI, 48, .inl E)), (h0, .inr (0, [.int (nI w), .int (nI h), .double (midF w), .double (midF h), .ref q1, .ref q2])), (q1, .inl (cI, 24, .inl B)), (q2, .inl (cI, 24, .inl O))] H) (hD : va_D A [(a0, .inr (2, [.ref h0, .ref e0, .int (b2i ak), .int (b2i su), .double gm, .int a, .double v])), (e0, .inl (cI, 48, .inl E)), (h0, .inr (0, [.int (nI w), .int (nI h), .double (midF w), .double (midF h), .ref q1, .ref q2])), (q1, .inl (cI, 24, .inl B)), (q2, .inl (cI, 24, .inl O))]) hS => ?_)
  exact hend _ _ _ _ _ dX3_take_10 hP hD hS rfl
theorem in_kX3_countOnLine_X3 : ∀ w ∈ u_ws RX3 TX3 7, w ∈ wsX3_countOnLine := by decide +kernel
theorem fl_kX3_countOnLine_11 : Cond.fieldLink RX3 11 "SkewFind$Search" "endsOnLine" "[I" ∈ wsX3_countOnLine := by decide +kernel
abbrev rmX3_countOnLine : Room := { frames := 0, cells := 0, slots := 0, locals := 0 }
set_option maxRecDepth 100000 in
set_option maxHeartbeats 4000000 in
theorem kX3_countOnLine (l : Launch) (G : va_G) (cI cZ cJ cD : ClassId) (a0 e0 : Nat) (h0 q1 q2 w h : Nat) (hw : w ≤ 24) (hh : h ≤ 24) (B O : Nat → Int32) (E : Nat → Int32) (ak su : Bool) (gm : UInt64) (be : Int32) (bs : UInt64) (ln : Int32) : Cv l G (kTy cI cZ cJ cD) yX3_countOnLine wsX3_countOnLine rmX3_countOnLine [.ref a0, .int ln] [(a0, .inr (2, [.ref h0, .ref e0, .int (b2i ak), .int (b2i su), .double gm, .int be, .double bs])), (e0, .inl (cI, 48, .inl E)), (h0, .inr (0, [.int (nI w), .int (nI h), .double (midF w), .double (midF h), .ref q1, .ref q2])), (q1, .inl (cI, 24, .inl B)), (q2, .inl (cI, 24, .inl O))] [(a0, .inr (2, [.ref h0, .ref e0, .int (b2i ak), .int (b2i su), .double gm, .int be, .double bs])), (e0, .inl (cI, 48, .inl (colnF E ln))), (h0, .inr (0, [.int (nI w), .int (nI h), .double (midF w), .double (midF h), .ref q1, .ref q2])), (q1, .inl (cI, 24, .inl B)), (q2, .inl (cI, 24, .inl O))] := by
  refine Cv.of rfl rfl (cc := cX3_countOnLine) (maxL := 3) (plainFor_of_name (by decide)) rfl (Nat.le_of_ble_eq_true rfl) rfl ?_
  intro p e s m args below meth c A Q hx hb hml hts hown hA hK hP hD hS hend ls hl
  refine lv_iload_n hx hb dX3_countOnLine_0 rfl (lv_at hl 1 rfl) ?_
  refine lv_bipush (v := 12) hx hb dX3_countOnLine_1 (by decide) ?_
  refine lv_iadd hx hb dX3_countOnLine_3 ?_
  refine lv_istore_n (lv' := [(2, .int (ln + 12)), (0, .ref a0), (1, .int ln)]) hx hb dX3_countOnLine_4 rfl hl (by decide) rfl (fun ls hl => ?_)
  refine lv_iload_n hx hb dX3_countOnLine_5 rfl (lv_at hl 0 rfl) ?_
  refine lv_if_lt (tgt := 28) hx hb dX3_countOnLine_6 (by decide) (fun c_6 => ?_) (fun c_6 => ?_)
  · exact hend _ _ _ _ _ dX3_countOnLine_28 hP hD hS (by first | rfl | (simp only [colnF, c_6, ↓reduceIte]; done) | (simp [colnF, c_6]; done))
  · refine lv_iload_n hx hb dX3_countOnLine_9 rfl (lv_at hl 0 rfl) ?_
    refine lv_aload_n hx hb dX3_countOnLine_10 rfl (lv_at hl 1 rfl) ?_
    refine va_get (D := G) (ci := 2) (v := .ref e0) (C := RX3) (T := TX3) (N := 7) hx hb hts in_kX3_countOnLine_X3 hown hK hP 0 rfl rfl 1 (by decide) (hts _ fl_kX3_countOnLine_11) (fun _ h9 => h9) rfl dX3_countOnLine_11 ?_
    refine va_alen (v := nI 48) hx hb hK hP 1 0 rfl rfl rfl dX3_countOnLine_14 ?_
    refine lv_icmp_ge (tgt := 28) hx hb dX3_countOnLine_15 (by decide) (fun c_15 => ?_) (fun c_15 => ?_)
    · exact hend _ _ _ _ _ dX3_countOnLine_28 hP hD hS (by first | rfl | (simp only [colnF, c_6, c_15, ↓reduceIte]; done) | (simp [colnF, c_6, c_15]; done))
    · refine lv_aload_n hx hb dX3_countOnLine_18 rfl (lv_at hl 1 rfl) ?_
      refine va_get (D := G) (ci := 2) (v := .ref e0) (C := RX3) (T := TX3) (N := 7) hx hb hts in_kX3_countOnLine_X3 hown hK hP 0 rfl rfl 1 (by decide) (hts _ fl_kX3_countOnLine_11) (fun _ h9 => h9) rfl dX3_countOnLine_19 ?_
      refine lv_iload_n hx hb dX3_countOnLine_22 rfl (lv_at hl 0 rfl) ?_
      refine lv_dup2_11 hx hb dX3_countOnLine_23 rfl rfl ?_
      refine va_iald hx hb hK hP 1 0 rfl rfl (vp_inN (by decide) c_6 c_15) dX3_countOnLine_24 ?_
      refine lv_iconst (v := 1) hx hb dX3_countOnLine_25 (by decide) ?_
      refine lv_iadd hx hb dX3_countOnLine_26 ?_
      refine va_iast hx hb hK hP hD hS 1 0 rfl rfl (vp_inN (by decide) c_6 c_15) dX3_countOnLine_27 (fun H locs (hP : va_P G vwCl [(a0, .inr (2, [.ref h0, .ref e0, .int (b2i ak), .int (b2i su), .double gm, .int be, .double bs])), (e0, .inl (cI, 48, .inl (upd E (ln + 12).toNatClampNeg ((E (ln + 12).toNatClampNeg) + 1)))), (h0, .inr (0, [.int (nI w), .int (nI h), .double (midF w), .double (midF h), .ref q1, .ref q2])), (q1, .inl (cI, 24, .inl B)), (q2, .inl (cI, 24, .inl O))] H) (hD : va_D A [(a0, .inr (2, [.ref h0, .ref e0, .int (b2i ak), .int (b2i su), .double gm, .int be, .double bs])), (e0, .inl (cI, 48, .inl (upd E (ln + 12).toNatClampNeg ((E (ln + 12).toNatClampNeg) + 1)))), (h0, .inr (0, [.int (nI w), .int (nI h), .double (midF w), .double (midF h), .ref q1, .ref q2])), (q1, .inl (cI, 24, .inl B)), (q2, .inl (cI, 24, .inl O))]) hS => ?_)
      exact hend _ _ _ _ _ dX3_countOnLine_28 hP hD hS (by first | rfl | (simp only [colnF, c_6, c_15, ↓reduceIte]; done) | (simp [colnF, c_6, c_15]; done))
theorem in_kX3_squaresOfCounts_X3 : ∀ w ∈ u_ws RX3 TX3 7, w ∈ wsX3_squaresOfCounts := by decide +kernel
theorem fl_kX3_squaresOfCounts_11 : Cond.fieldLink RX3 11 "SkewFind$Search" "endsOnLine" "[I" ∈ wsX3_squaresOfCounts := by decide +kernel
abbrev rmX3_squaresOfCounts : Room := { frames := 0, cells := 0, slots := 0, locals := 0 }
set_option maxRecDepth 100000 in
set_option maxHeartbeats 4000000 in
theorem kX3_squaresOfCounts (l : Launch) (G : va_G) (cI cZ cJ cD : ClassId) (a0 e0 : Nat) (h0 q1 q2 w h : Nat) (hw : w ≤ 24) (hh : h ≤ 24) (B O : Nat → Int32) (E : Nat → Int32) (ak su : Bool) (gm : UInt64) (be : Int32) (bs : UInt64)  : Ci l G (kTy cI cZ cJ cD) yX3_squaresOfCounts wsX3_squaresOfCounts rmX3_squaresOfCounts [.ref a0] [(a0, .inr (2, [.ref h0, .ref e0, .int (b2i ak), .int (b2i su), .double gm, .int be, .double bs])), (e0, .inl (cI, 48, .inl E)), (h0, .inr (0, [.int (nI w), .int (nI h), .double (midF w), .double (midF h), .ref q1, .ref q2])), (q1, .inl (cI, 24, .inl B)), (q2, .inl (cI, 24, .inl O))] (sqF E) [(a0, .inr (2, [.ref h0, .ref e0, .int (b2i ak), .int (b2i su), .double gm, .int be, .double bs])), (e0, .inl (cI, 48, .inl E)), (h0, .inr (0, [.int (nI w), .int (nI h), .double (midF w), .double (midF h), .ref q1, .ref q2])), (q1, .inl (cI, 24, .inl B)), (q2, .inl (cI, 24, .inl O))] := by
  refine Ci.of .int rfl rfl rfl (cc := cX3_squaresOfCounts) (maxL := 3) (plainFor_of_name (by decide)) rfl (Nat.le_of_ble_eq_true rfl) rfl ?_
  intro p e s m args below meth c A Q hx hb hml hts hown hA hK hP hD hS hend ls hl
  refine lv_iconst (v := 0) hx hb dX3_squaresOfCounts_0 (by decide) ?_
  refine lv_istore_n (lv' := [(1, .int 0), (0, .ref a0)]) hx hb dX3_squaresOfCounts_1 rfl hl (by decide) rfl (fun ls hl => ?_)
  refine lv_iconst (v := 0) hx hb dX3_squaresOfCounts_2 (by decide) ?_
  refine lv_istore_n (lv' := [(2, .int 0), (1, .int 0), (0, .ref a0)]) hx hb dX3_squaresOfCounts_3 rfl hl (by decide) rfl (fun ls hl => ?_)
  have K4 : ∀ (n4 : Nat) (i : Nat), 48 - i < n4 → (i ≤ 48) → ∀ (H : Heap) (locs : List Loc), va_P G vwCl [(a0, .inr (2, [.ref h0, .ref e0, .int (b2i ak), .int (b2i su), .double gm, .int be, .double bs])), (e0, .inl (cI, 48, .inl E)), (h0, .inr (0, [.int (nI w), .int (nI h), .double (midF w), .double (midF h), .ref q1, .ref q2])), (q1, .inl (cI, 24, .inl B)), (q2, .inl (cI, 24, .inl O))] H → va_D A [(a0, .inr (2, [.ref h0, .ref e0, .int (b2i ak), .int (b2i su), .double gm, .int be, .double bs])), (e0, .inl (cI, 48, .inl E)), (h0, .inr (0, [.int (nI w), .int (nI h), .double (midF w), .double (midF h), .ref q1, .ref q2])), (q1, .inl (cI, 24, .inl B)), (q2, .inl (cI, 24, .inl O))] → va_S A s.heap H locs → ∀ ls : Array Slot, lv_has ls 3 [(0, .ref a0), (1, .int (sumI (fun i => E i * E i) i)), (2, .int (nI i))] → W p l e rmX3_squaresOfCounts s m args below meth c H locs 0 0 Q (F0 m 4 ls []) := by
    intro n4
    induction n4 with
    | zero => intro i hn; exact absurd hn (by omega)
    | succ n4 ih4 =>
      intro i hn4 hi H locs hP hD hS ls hl
      refine lv_iload_n hx hb dX3_squaresOfCounts_4 rfl (lv_at hl 2 rfl) ?_
      refine lv_aload_n hx hb dX3_squaresOfCounts_5 rfl (lv_at hl 0 rfl) ?_
      refine va_get (D := G) (ci := 2) (v := .ref e0) (C := RX3) (T := TX3) (N := 7) hx hb hts in_kX3_squaresOfCounts_X3 hown hK hP 0 rfl rfl 1 (by decide) (hts _ fl_kX3_squaresOfCounts_11) (fun _ h9 => h9) rfl dX3_squaresOfCounts_6 ?_
      refine va_alen (v := nI 48) hx hb hK hP 1 0 rfl rfl rfl dX3_squaresOfCounts_9 ?_
      refine kGe (by omega) (by omega) (tgt := 35) hx hb dX3_squaresOfCounts_10 (by decide) (fun c_10 => ?_) (fun c_10 => ?_)
      · have e9 : 48 = i := by omega
        subst e9
        refine lv_iload_n hx hb dX3_squaresOfCounts_35 rfl (lv_at hl 1 rfl) ?_
        exact hend _ _ _ _ _ _ dX3_squaresOfCounts_36 hP hD hS rfl rfl
      · refine lv_iload_n hx hb dX3_squaresOfCounts_13 rfl (lv_at hl 1 rfl) ?_
        refine lv_aload_n hx hb dX3_squaresOfCounts_14 rfl (lv_at hl 0 rfl) ?_
        refine va_get (D := G) (ci := 2) (v := .ref e0) (C := RX3) (T := TX3) (N := 7) hx hb hts in_kX3_squaresOfCounts_X3 hown hK hP 0 rfl rfl 1 (by decide) (hts _ fl_kX3_squaresOfCounts_11) (fun _ h9 => h9) rfl dX3_squaresOfCounts_15 ?_
        refine lv_iload_n hx hb dX3_squaresOfCounts_18 rfl (lv_at hl 2 rfl) ?_
        refine va_iald hx hb hK hP 1 0 rfl rfl (vp_in_nI (by omega) (by omega)) dX3_squaresOfCounts_19 ?_
        rw [nI_clamp (n := i) (by omega)]
        refine lv_aload_n hx hb dX3_squaresOfCounts_20 rfl (lv_at hl 0 rfl) ?_
        refine va_get (D := G) (ci := 2) (v := .ref e0) (C := RX3) (T := TX3) (N := 7) hx hb hts in_kX3_squaresOfCounts_X3 hown hK hP 0 rfl rfl 1 (by decide) (hts _ fl_kX3_squaresOfCounts_11) (fun _ h9 => h9) rfl dX3_squaresOfCounts_21 ?_
        refine lv_iload_n hx hb dX3_squaresOfCounts_24 rfl (lv_at hl 2 rfl) ?_
        refine va_iald hx hb hK hP 1 0 rfl rfl (vp_in_nI (by omega) (by omega)) dX3_squaresOfCounts_25 ?_
        rw [nI_clamp (n := i) (by omega)]
        refine lv_imul hx hb dX3_squaresOfCounts_26 ?_
        refine lv_iadd hx hb dX3_squaresOfCounts_27 ?_
        refine lv_istore_n (lv' := [(1, .int ((sumI (fun i => E i * E i) i) + ((E i) * (E i)))), (0, .ref a0), (2, .int (nI i))]) hx hb dX3_squaresOfCounts_28 rfl hl (by decide) rfl (fun ls hl => ?_)
        refine lv_iinc (v := nI (i + 1)) (lv' := [(2, .int (nI (i + 1))), (1, .int ((sumI (fun i => E i * E i) i) + ((E i) * (E i)))), (0, .ref a0)]) hx hb dX3_squaresOfCounts_29 hl (k := 2) rfl (nI_1 _) (by decide) rfl (fun ls hl => ?_)
        refine lv_goto (tgt := 4) hx hb dX3_squaresOfCounts_32 (by decide) ?_
        exact ih4 (i + 1) (by omega) (by omega) _ _ hP hD hS _ (lv_sub hl [2, 1, 0] rfl)
  exact K4 (48 - 0 + 1) 0 (by omega) (by omega) _ _ hP hD hS _ (lv_sub hl [2, 1, 0] rfl)
theorem in_kX3_countEnds_X3 : ∀ w ∈ u_ws RX3 TX3 7, w ∈ wsX3_countEnds := by decide +kernel
theorem fl_kX3_countEnds_11 : Cond.fieldLink RX3 11 "SkewFind$Search" "endsOnLine" "[I" ∈ wsX3_countEnds := by decide +kernel
theorem fl_kX3_countEnds_33 : Cond.fieldLink RX3 33 "SkewFind$Search" "picture" "LSkewFind$Picture;" ∈ wsX3_countEnds := by decide +kernel
theorem in_kX3_countEnds_X0 : ∀ w ∈ u_ws RX0 TX0 6, w ∈ wsX3_countEnds := by decide +kernel
theorem fl_kX3_countEnds_81 : Cond.fieldLink RX3 81 "SkewFind$Picture" "height" "I" ∈ wsX3_countEnds := by decide +kernel
theorem fl_kX3_countEnds_88 : Cond.fieldLink RX3 88 "SkewFind$Picture" "width" "I" ∈ wsX3_countEnds := by decide +kernel
abbrev rmX3_countEnds : Room := { frames := 2, cells := 0, slots := 0, locals := 43 }
set_option maxRecDepth 100000 in
set_option maxHeartbeats 4000000 in
theorem kX3_countEnds (l : Launch) (G : va_G) (cI cZ cJ cD : ClassId) (a0 e0 : Nat) (h0 q1 q2 w h : Nat) (hw : w ≤ 24) (hh : h ≤ 24) (B O : Nat → Int32) (E : Nat → Int32) (ak su : Bool) (gm : UInt64) (be : Int32) (bs : UInt64) (t : UInt64) (ht : fIv (-23855) 23855 t) : Cv l G (kTy cI cZ cJ cD) yX3_countEnds wsX3_countEnds rmX3_countEnds [.ref a0, .double t] [(a0, .inr (2, [.ref h0, .ref e0, .int (b2i ak), .int (b2i su), .double gm, .int be, .double bs])), (e0, .inl (cI, 48, .inl E)), (h0, .inr (0, [.int (nI w), .int (nI h), .double (midF w), .double (midF h), .ref q1, .ref q2])), (q1, .inl (cI, 24, .inl B)), (q2, .inl (cI, 24, .inl O))] [(a0, .inr (2, [.ref h0, .ref e0, .int (b2i ak), .int (b2i su), .double gm, .int be, .double bs])), (e0, .inl (cI, 48, .inl (cntE w h B t E))), (h0, .inr (0, [.int (nI w), .int (nI h), .double (midF w), .double (midF h), .ref q1, .ref q2])), (q1, .inl (cI, 24, .inl B)), (q2, .inl (cI, 24, .inl O))] := by
  refine Cv.of rfl rfl (cc := cX3_countEnds) (maxL := 6) (plainFor_of_name (by decide)) rfl (Nat.le_of_ble_eq_true rfl) rfl ?_
  intro p e s m args below meth c A Q hx hb hml hts hown hA hK hP hD hS hend ls hl
  refine lv_iconst (v := 0) hx hb dX3_countEnds_0 (by decide) ?_
  refine lv_istore_n (lv' := [(3, .int 0), (0, .ref a0), (1, .double t)]) hx hb dX3_countEnds_1 rfl hl (by decide) rfl (fun ls hl => ?_)
  have K2 : ∀ (n2 : Nat) (i : Nat), 48 - i < n2 → (i ≤ 48) → ∀ (H : Heap) (locs : List Loc), va_P G vwCl [(a0, .inr (2, [.ref h0, .ref e0, .int (b2i ak), .int (b2i su), .double gm, .int be, .double bs])), (e0, .inl (cI, 48, .inl (mapN (fun _ _ => 0) E i))), (h0, .inr (0, [.int (nI w), .int (nI h), .double (midF w), .double (midF h), .ref q1, .ref q2])), (q1, .inl (cI, 24, .inl B)), (q2, .inl (cI, 24, .inl O))] H → va_D A [(a0, .inr (2, [.ref h0, .ref e0, .int (b2i ak), .int (b2i su), .double gm, .int be, .double bs])), (e0, .inl (cI, 48, .inl (mapN (fun _ _ => 0) E i))), (h0, .inr (0, [.int (nI w), .int (nI h), .double (midF w), .double (midF h), .ref q1, .ref q2])), (q1, .inl (cI, 24, .inl B)), (q2, .inl (cI, 24, .inl O))] → va_S A s.heap H locs → ∀ ls : Array Slot, lv_has ls 6 [(0, .ref a0), (1, .double t), (3, .int (nI i))] → W p l e rmX3_countEnds s m args below meth c H locs 0 0 Q (F0 m 2 ls []) := by
    intro n2
    induction n2 with
    | zero => intro i hn; exact absurd hn (by omega)
    | succ n2 ih2 =>
      intro i hn2 hi H locs hP hD hS ls hl
      refine lv_iload_n hx hb dX3_countEnds_2 rfl (lv_at hl 2 rfl) ?_
      refine lv_aload_n hx hb dX3_countEnds_3 rfl (lv_at hl 0 rfl) ?_
      refine va_get (D := G) (ci := 2) (v := .ref e0) (C := RX3) (T := TX3) (N := 7) hx hb hts in_kX3_countEnds_X3 hown hK hP 0 rfl rfl 1 (by decide) (hts _ fl_kX3_countEnds_11) (fun _ h9 => h9) rfl dX3_countEnds_4 ?_
      refine va_alen (v := nI 48) hx hb hK hP 1 0 rfl rfl rfl dX3_countEnds_7 ?_
      refine kGe (by omega) (by omega) (tgt := 24) hx hb dX3_countEnds_8 (by decide) (fun c_8 => ?_) (fun c_8 => ?_)
      · have e9 : 48 = i := by omega
        subst e9
        refine lv_iconst (v := 0) hx hb dX3_countEnds_24 (by decide) ?_
        refine lv_istore_n (lv' := [(3, .int 0), (0, .ref a0), (1, .double t)]) hx hb dX3_countEnds_25 rfl hl (by decide) rfl (fun ls hl => ?_)
        have K26 : ∀ (n26 : Nat) (y : Nat), h - y < n26 → (y ≤ h) → ∀ (H : Heap) (locs : List Loc), va_P G vwCl [(a0, .inr (2, [.ref h0, .ref e0, .int (b2i ak), .int (b2i su), .double gm, .int be, .double bs])), (e0, .inl (cI, 48, .inl (lnY w B t (zerE E) y))), (h0, .inr (0, [.int (nI w), .int (nI h), .double (midF w), .double (midF h), .ref q1, .ref q2])), (q1, .inl (cI, 24, .inl B)), (q2, .inl (cI, 24, .inl O))] H → va_D A [(a0, .inr (2, [.ref h0, .ref e0, .int (b2i ak), .int (b2i su), .double gm, .int be, .double bs])), (e0, .inl (cI, 48, .inl (lnY w B t (zerE E) y))), (h0, .inr (0, [.int (nI w), .int (nI h), .double (midF w), .double (midF h), .ref q1, .ref q2])), (q1, .inl (cI, 24, .inl B)), (q2, .inl (cI, 24, .inl O))] → va_S A s.heap H locs → ∀ ls : Array Slot, lv_has ls 6 [(0, .ref a0), (1, .double t), (3, .int (nI y))] → W p l e rmX3_countEnds s m args below meth c H locs 0 0 Q (F0 m 26 ls []) := by
          intro n26
          induction n26 with
          | zero => intro y hn; exact absurd hn (by omega)
          | succ n26 ih26 =>
            intro y hn26 hy H locs hP hD hS ls hl
            refine lv_iload_n hx hb dX3_countEnds_26 rfl (lv_at hl 2 rfl) ?_
            refine lv_aload_n hx hb dX3_countEnds_27 rfl (lv_at hl 0 rfl) ?_
            refine va_get (D := G) (ci := 2) (v := .ref h0) (C := RX3) (T := TX3) (N := 7) hx hb hts in_kX3_countEnds_X3 hown hK hP 0 rfl rfl 0 (by decide) (hts _ fl_kX3_countEnds_33) (fun _ h9 => h9) rfl dX3_countEnds_28 ?_
            refine va_get (D := G) (ci := 0) (v := .int (nI h)) (C := RX0) (T := TX0) (N := 6) hx hb hts in_kX3_countEnds_X0 hown hK hP 2 rfl rfl 1 (by decide) (hts _ fl_kX3_countEnds_81) (fun _ h9 => h9) rfl dX3_countEnds_31 ?_
            refine kGe (by omega) (by omega) (tgt := 107) hx hb dX3_countEnds_34 (by decide) (fun c_34 => ?_) (fun c_34 => ?_)
            · have e9 : h = y := by omega
              subst e9
              exact hend _ _ _ _ _ dX3_countEnds_107 hP hD hS rfl
            · refine lv_aload_n hx hb dX3_countEnds_37 rfl (lv_at hl 0 rfl) ?_
              refine va_get (D := G) (ci := 2) (v := .ref h0) (C := RX3) (T := TX3) (N := 7) hx hb hts in_kX3_countEnds_X3 hown hK hP 0 rfl rfl 0 (by decide) (hts _ fl_kX3_countEnds_33) (fun _ h9 => h9) rfl dX3_countEnds_38 ?_
              refine lv_iload_n hx hb dX3_countEnds_41 rfl (lv_at hl 2 rfl) ?_
              refine kVi (w' := [(a0, .inr (2, [.ref h0, .ref e0, .int (b2i ak), .int (b2i su), .double gm, .int be, .double bs])), (e0, .inl (cI, 48, .inl (lnY w B t (zerE E) y))), (h0, .inr (0, [.int (nI w), .int (nI h), .double (midF w), .double (midF h), .ref q1, .ref q2])), (q1, .inl (cI, 24, .inl B)), (q2, .inl (cI, 24, .inl O))]) (wr := [(a0, .inr (2, [.ref h0, .ref e0, .int (b2i ak), .int (b2i su), .double gm, .int be, .double bs])), (e0, .inl (cI, 48, .inl (lnY w B t (zerE E) y)))]) (isC := [2, 3, 4]) (isR := [0, 1]) (pm := [0, 1, 2, 3, 4]) (rest := []) (kX0_runEndBits l G cI cZ cJ cD h0 q1 q2 w h hw hh B O (nI y)) ⟨hx, hb, hml, hown, hts⟩ (cwV 1 hts gX3_countEnds_X0_runEndBits rfl rfl rfl hd_X0_runEndBits ⟨Nat.le_of_ble_eq_true rfl, Nat.le_of_ble_eq_true rfl⟩) hK hP hD hS hA ⟨rfl, rfl, rfl, by decide, rfl, rfl, rfl⟩ 0 2 rfl rfl rfl hl.1 rfl (Nat.le_of_ble_eq_true rfl) dX3_countEnds_42 ⟨Nat.le_of_ble_eq_true rfl, Nat.le_of_ble_eq_true rfl⟩ rfl rfl (fun H locs hP hD hS => ?_)
              refine kTopI (z := endsF (B y)) (congrArg endsF (rowF_nI B (by omega))) ?_
              refine lv_istore (lv' := [(4, .int (endsF (B y))), (0, .ref a0), (1, .double t), (3, .int (nI y))]) hx hb dX3_countEnds_45 hl (by decide) rfl (fun ls hl => ?_)
              refine lv_iconst (v := 0) hx hb dX3_countEnds_47 (by decide) ?_
              refine lv_istore (lv' := [(5, .int 0), (4, .int (endsF (B y))), (0, .ref a0), (1, .double t), (3, .int (nI y))]) hx hb dX3_countEnds_48 hl (by decide) rfl (fun ls hl => ?_)
              have K50 : ∀ (n50 : Nat) (x : Nat), w - x < n50 → (x ≤ w) → ∀ (H : Heap) (locs : List Loc), va_P G vwCl [(a0, .inr (2, [.ref h0, .ref e0, .int (b2i ak), .int (b2i su), .double gm, .int be, .double bs])), (e0, .inl (cI, 48, .inl (lnX (endsF (B y)) y t (lnY w B t (zerE E) y) x))), (h0, .inr (0, [.int (nI w), .int (nI h), .double (midF w), .double (midF h), .ref q1, .ref q2])), (q1, .inl (cI, 24, .inl B)), (q2, .inl (cI, 24, .inl O))] H → va_D A [(a0, .inr (2, [.ref h0, .ref e0, .int (b2i ak), .int (b2i su), .double gm, .int be, .double bs])), (e0, .inl (cI, 48, .inl (lnX (endsF (B y)) y t (lnY w B t (zerE E) y) x))), (h0, .inr (0, [.int (nI w), .int (nI h), .double (midF w), .double (midF h), .ref q1, .ref q2])), (q1, .inl (cI, 24, .inl B)), (q2, .inl (cI, 24, .inl O))] → va_S A s.heap H locs → ∀ ls : Array Slot, lv_has ls 6 [(0, .ref a0), (1, .double t), (3, .int (nI y)), (4, .int (endsF (B y))), (5, .int (nI x))] → W p l e rmX3_countEnds s m args below meth c H locs 0 0 Q (F0 m 50 ls []) := by
                intro n50
                induction n50 with
                | zero => intro x hn; exact absurd hn (by omega)
                | succ n50 ih50 =>
                  intro x hn50 hx2 H locs hP hD hS ls hl
                  refine lv_iload hx hb dX3_countEnds_50 (lv_at hl 4 rfl) ?_
                  refine lv_aload_n hx hb dX3_countEnds_52 rfl (lv_at hl 0 rfl) ?_
                  refine va_get (D := G) (ci := 2) (v := .ref h0) (C := RX3) (T := TX3) (N := 7) hx hb hts in_kX3_countEnds_X3 hown hK hP 0 rfl rfl 0 (by decide) (hts _ fl_kX3_countEnds_33) (fun _ h9 => h9) rfl dX3_countEnds_53 ?_
                  refine va_get (D := G) (ci := 0) (v := .int (nI w)) (C := RX0) (T := TX0) (N := 6) hx hb hts in_kX3_countEnds_X0 hown hK hP 2 rfl rfl 0 (by decide) (hts _ fl_kX3_countEnds_88) (fun _ h9 => h9) rfl dX3_countEnds_56 ?_
                  refine kGe (by omega) (by omega) (tgt := 101) hx hb dX3_countEnds_59 (by decide) (fun c_59 => ?_) (fun c_59 => ?_)
                  · have e9 : w = x := by omega
                    subst e9
                    refine lv_iinc (v := nI (y + 1)) (lv' := [(3, .int (nI (y + 1))), (0, .ref a0), (1, .double t), (4, .int (endsF (B y))), (5, .int (nI w))]) hx hb dX3_countEnds_101 hl (k := 2) rfl (nI_1 _) (by decide) rfl (fun ls hl => ?_)
                    refine lv_goto (tgt := 26) hx hb dX3_countEnds_104 (by decide) ?_
                    exact ih26 (y + 1) (by omega) (by omega) _ _ hP hD hS _ (lv_sub hl [1, 2, 0] rfl)
                  · refine lv_iload hx hb dX3_countEnds_62 (lv_at hl 3 rfl) ?_
                    refine lv_iload hx hb dX3_countEnds_64 (lv_at hl 4 rfl) ?_
                    refine lv_iushr (v := sUshr (endsF (B y)) (nI x)) hx hb dX3_countEnds_66 rfl ?_
                    refine lv_if_eq (tgt := 101) hx hb dX3_countEnds_67 (by decide) (fun c_67 => ?_) (fun c_67 => ?_)
                    · have hE : lnX (endsF (B y)) y t (lnY w B t (zerE E) y) x = lnX (endsF (B y)) y t (lnY w B t (zerE E) y) w := (by have q := lnX_tail y t (lnY w B t (zerE E) y) c_67 (w - x) (by omega); rw [show x + (w - x) = w by omega] at q; exact q.symm)
                      rw [hE] at hP hD
                      refine lv_iinc (v := nI (y + 1)) (lv' := [(3, .int (nI (y + 1))), (0, .ref a0), (1, .double t), (4, .int (endsF (B y))), (5, .int (nI x))]) hx hb dX3_countEnds_101 hl (k := 2) rfl (nI_1 _) (by decide) rfl (fun ls hl => ?_)
                      refine lv_goto (tgt := 26) hx hb dX3_countEnds_104 (by decide) ?_
                      exact ih26 (y + 1) (by omega) (by omega) _ _ hP hD hS _ (lv_sub hl [1, 2, 0] rfl)
                    · refine lv_iload hx hb dX3_countEnds_70 (lv_at hl 3 rfl) ?_
                      refine lv_iload hx hb dX3_countEnds_72 (lv_at hl 4 rfl) ?_
                      refine lv_iushr (v := sUshr (endsF (B y)) (nI x)) hx hb dX3_countEnds_74 rfl ?_
                      refine lv_iconst (v := 1) hx hb dX3_countEnds_75 (by decide) ?_
                      refine lv_iand hx hb dX3_countEnds_76 ?_
                      refine lv_if_eq (tgt := 95) hx hb dX3_countEnds_77 (by decide) (fun c_77 => ?_) (fun c_77 => ?_)
                      · have hE : lnX (endsF (B y)) y t (lnY w B t (zerE E) y) x = lnX (endsF (B y)) y t (lnY w B t (zerE E) y) (x + 1) := (if_pos c_77).symm
                        rw [hE] at hP hD
                        refine lv_iinc (v := nI (x + 1)) (lv' := [(5, .int (nI (x + 1))), (0, .ref a0), (1, .double t), (3, .int (nI y)), (4, .int (endsF (B y)))]) hx hb dX3_countEnds_95 hl (k := 4) rfl (nI_1 _) (by decide) rfl (fun ls hl => ?_)
                        refine lv_goto (tgt := 50) hx hb dX3_countEnds_98 (by decide) ?_
                        exact ih50 (x + 1) (by omega) (by omega) _ _ hP hD hS _ (lv_sub hl [1, 2, 3, 4, 0] rfl)
                      · refine lv_aload_n hx hb dX3_countEnds_80 rfl (lv_at hl 0 rfl) ?_
                        refine lv_iload_n hx hb dX3_countEnds_81 rfl (lv_at hl 2 rfl) ?_
                        refine lv_i2d hx hb dX3_countEnds_82 ?_
                        refine lv_iload hx hb dX3_countEnds_83 (lv_at hl 4 rfl) ?_
                        refine lv_i2d hx hb dX3_countEnds_85 ?_
                        refine lv_dload_n hx hb dX3_countEnds_86 rfl (lv_at hl 1 rfl) ?_
                        have b1 : fIv (0) (1507328) (FP.i2d (nI x)) := fIvN (k := 23) (by omega) (by omega)
                        have b2 : fIv (-548665) (548665) (FP.dmul (FP.i2d (nI x)) t) := fIv.mul (n := 1507328) (m := 23855) (k := 548665) (b1.weak (by decide +kernel) (by decide +kernel) (by decide +kernel) (by decide +kernel)) ht (by decide +kernel) (by decide +kernel)
                        refine lv_dmul hx hb dX3_countEnds_87 b2.n64 ?_
                        have b3 : fIv (0) (1507328) (FP.i2d (nI y)) := fIvN (k := 23) (by omega) (by omega)
                        have b4 : fIv (-548665) (2055993) (FP.dsub (FP.i2d (nI y)) (FP.dmul (FP.i2d (nI x)) t)) := fSub b3 b2 (by decide +kernel) (by decide +kernel) (by decide +kernel) (by decide +kernel)
                        refine lv_dsub hx hb dX3_countEnds_88 b4.n64 ?_
                        have b5 : fIv (-515897) (2088761) (FP.dadd (FP.dsub (FP.i2d (nI y)) (FP.dmul (FP.i2d (nI x)) t)) 4602678819172646912) := fAdd b4 fHalf (by decide +kernel) (by decide +kernel) (by decide +kernel) (by decide +kernel)
                        refine kSi (rest := [.ref a0]) (kX1_whole l G cI cZ cJ cD (FP.dsub (FP.i2d (nI y)) (FP.dmul (FP.i2d (nI x)) t)) (-515897) (2088761) b5) ⟨hx, hb, hml, hown, hts⟩ (va_cwS 1 hts gX3_countEnds_X1_whole rfl rfl rfl hs_X1_whole ⟨Nat.le_of_ble_eq_true rfl, Nat.le_of_ble_eq_true rfl⟩) hK hP hD hS hA rfl hl.1 rfl (Nat.le_of_ble_eq_true rfl) dX3_countEnds_89 ⟨Nat.le_of_ble_eq_true rfl, Nat.le_of_ble_eq_true rfl⟩ rfl rfl (fun H locs hP hD hS => ?_)
                        refine kVv (w' := [(a0, .inr (2, [.ref h0, .ref e0, .int (b2i ak), .int (b2i su), .double gm, .int be, .double bs])), (e0, .inl (cI, 48, .inl (colnF (lnX (endsF (B y)) y t (lnY w B t (zerE E) y) x) (wholeF (FP.dsub (FP.i2d (nI y)) (FP.dmul (FP.i2d (nI x)) t)))))), (h0, .inr (0, [.int (nI w), .int (nI h), .double (midF w), .double (midF h), .ref q1, .ref q2])), (q1, .inl (cI, 24, .inl B)), (q2, .inl (cI, 24, .inl O))]) (wr := []) (isC := [0, 1, 2, 3, 4]) (isR := []) (pm := [0, 1, 2, 3, 4]) (rest := []) (kX3_countOnLine l G cI cZ cJ cD a0 e0 h0 q1 q2 w h hw hh B O (lnX (endsF (B y)) y t (lnY w B t (zerE E) y) x) ak su gm be bs (wholeF (FP.dsub (FP.i2d (nI y)) (FP.dmul (FP.i2d (nI x)) t)))) ⟨hx, hb, hml, hown, hts⟩ (cwV 1 hts gX3_countEnds_X3_countOnLine rfl rfl rfl hd_X3_countOnLine ⟨Nat.le_of_ble_eq_true rfl, Nat.le_of_ble_eq_true rfl⟩) hK hP hD hS hA ⟨rfl, rfl, rfl, by decide, rfl, rfl, rfl⟩ 2 0 rfl rfl rfl hl.1 rfl (Nat.le_of_ble_eq_true rfl) dX3_countEnds_92 ⟨Nat.le_of_ble_eq_true rfl, Nat.le_of_ble_eq_true rfl⟩ rfl rfl (fun H locs hP hD hS => ?_)
                        have hE : colnF (lnX (endsF (B y)) y t (lnY w B t (zerE E) y) x) (wholeF (FP.dsub (FP.i2d (nI y)) (FP.dmul (FP.i2d (nI x)) t))) = lnX (endsF (B y)) y t (lnY w B t (zerE E) y) (x + 1) := (if_neg c_77).symm
                        rw [hE] at hP hD
                        refine lv_iinc (v := nI (x + 1)) (lv' := [(5, .int (nI (x + 1))), (0, .ref a0), (1, .double t), (3, .int (nI y)), (4, .int (endsF (B y)))]) hx hb dX3_countEnds_95 hl (k := 4) rfl (nI_1 _) (by decide) rfl (fun ls hl => ?_)
                        refine lv_goto (tgt := 50) hx hb dX3_countEnds_98 (by decide) ?_
                        exact ih50 (x + 1) (by omega) (by omega) _ _ hP hD hS _ (lv_sub hl [1, 2, 3, 4, 0] rfl)
              exact K50 (w - 0 + 1) 0 (by omega) (by omega) _ _ hP hD hS _ (lv_sub hl [2, 3, 4, 1, 0] rfl)
        exact K26 (h - 0 + 1) 0 (by omega) (by omega) _ _ hP hD hS _ (lv_sub hl [1, 2, 0] rfl)
      · refine lv_aload_n hx hb dX3_countEnds_11 rfl (lv_at hl 0 rfl) ?_
        refine va_get (D := G) (ci := 2) (v := .ref e0) (C := RX3) (T := TX3) (N := 7) hx hb hts in_kX3_countEnds_X3 hown hK hP 0 rfl rfl 1 (by decide) (hts _ fl_kX3_countEnds_11) (fun _ h9 => h9) rfl dX3_countEnds_12 ?_
        refine lv_iload_n hx hb dX3_countEnds_15 rfl (lv_at hl 2 rfl) ?_
        refine lv_iconst (v := 0) hx hb dX3_countEnds_16 (by decide) ?_
        refine va_iast hx hb hK hP hD hS 1 0 rfl rfl (vp_in_nI (by omega) (by omega)) dX3_countEnds_17 (fun H locs (hP : va_P G vwCl [(a0, .inr (2, [.ref h0, .ref e0, .int (b2i ak), .int (b2i su), .double gm, .int be, .double bs])), (e0, .inl (cI, 48, .inl (upd (mapN (fun _ _ => 0) E i) (nI i).toNatClampNeg 0))), (h0, .inr (0, [.int (nI w), .int (nI h), .double (midF w), .double (midF h), .ref q1, .ref q2])), (q1, .inl (cI, 24, .inl B)), (q2, .inl (cI, 24, .inl O))] H) (hD : va_D A [(a0, .inr (2, [.ref h0, .ref e0, .int (b2i ak), .int (b2i su), .double gm, .int be, .double bs])), (e0, .inl (cI, 48, .inl (upd (mapN (fun _ _ => 0) E i) (nI i).toNatClampNeg 0))), (h0, .inr (0, [.int (nI w), .int (nI h), .double (midF w), .double (midF h), .ref q1, .ref q2])), (q1, .inl (cI, 24, .inl B)), (q2, .inl (cI, 24, .inl O))]) hS => ?_)
        rw [nI_clamp (n := i) (by omega)] at hP hD
        have hE : upd (mapN (fun _ _ => 0) E i) i 0 = mapN (fun _ _ => 0) E (i + 1) := mapN_s _ _ _
        rw [hE] at hP hD
        refine lv_iinc (v := nI (i + 1)) (lv' := [(3, .int (nI (i + 1))), (0, .ref a0), (1, .double t)]) hx hb dX3_countEnds_18 hl (k := 2) rfl (nI_1 _) (by decide) rfl (fun ls hl => ?_)
        refine lv_goto (tgt := 2) hx hb dX3_countEnds_21 (by decide) ?_
        exact ih2 (i + 1) (by omega) (by omega) _ _ hP hD hS _ (lv_sub hl [1, 2, 0] rfl)
  exact K2 (48 - 0 + 1) 0 (by omega) (by omega) _ _ (by rw [mapN_0]; exact hP) (by rw [mapN_0]; exact hD) hS _ (lv_sub hl [1, 2, 0] rfl)
theorem in_kX3_sumAt_X3 : ∀ w ∈ u_ws RX3 TX3 7, w ∈ wsX3_sumAt := by decide +kernel
theorem fl_kX3_sumAt_33 : Cond.fieldLink RX3 33 "SkewFind$Search" "picture" "LSkewFind$Picture;" ∈ wsX3_sumAt := by decide +kernel
abbrev rmX3_sumAt : Room := { frames := 3, cells := 0, slots := 0, locals := 68 }
set_option maxRecDepth 100000 in
set_option maxHeartbeats 4000000 in
theorem kX3_sumAt (l : Launch) (G : va_G) (cI cZ cJ cD : ClassId) (a0 e0 : Nat) (h0 q1 q2 w h : Nat) (hw : w ≤ 24) (hh : h ≤ 24) (B O : Nat → Int32) (E : Nat → Int32) (ak su : Bool) (gm : UInt64) (be : Int32) (bs : UInt64) (a : Int32) (ha1 : -2000 ≤ a.toInt) (ha2 : a.toInt ≤ 2000) : Cd l G (kTy cI cZ cJ cD) yX3_sumAt wsX3_sumAt rmX3_sumAt [.ref a0, .int a] [(a0, .inr (2, [.ref h0, .ref e0, .int (b2i ak), .int (b2i su), .double gm, .int be, .double bs])), (e0, .inl (cI, 48, .inl E)), (h0, .inr (0, [.int (nI w), .int (nI h), .double (midF w), .double (midF h), .ref q1, .ref q2])), (q1, .inl (cI, 24, .inl B)), (q2, .inl (cI, 24, .inl O))] (sumF w h B a) [(a0, .inr (2, [.ref h0, .ref e0, .int (b2i ak), .int (b2i su), .double gm, .int be, .double bs])), (e0, .inl (cI, 48, .inl (sumE w h B E a))), (h0, .inr (0, [.int (nI w), .int (nI h), .double (midF w), .double (midF h), .ref q1, .ref q2])), (q1, .inl (cI, 24, .inl B)), (q2, .inl (cI, 24, .inl O))] := by
  refine Cd.of rfl rfl (cc := cX3_sumAt) (maxL := 3) (plainFor_of_name (by decide)) rfl (Nat.le_of_ble_eq_true rfl) rfl ?_
  intro p e s m args below meth c A Q hx hb hml hts hown hA hK hP hD hS hend ls hl
  refine lv_aload_n hx hb dX3_sumAt_0 rfl (lv_at hl 0 rfl) ?_
  refine va_get (D := G) (ci := 2) (v := .ref h0) (C := RX3) (T := TX3) (N := 7) hx hb hts in_kX3_sumAt_X3 hown hK hP 0 rfl rfl 0 (by decide) (hts _ fl_kX3_sumAt_33) (fun _ h9 => h9) rfl dX3_sumAt_1 ?_
  refine kVi (w' := [(a0, .inr (2, [.ref h0, .ref e0, .int (b2i ak), .int (b2i su), .double gm, .int be, .double bs])), (e0, .inl (cI, 48, .inl E)), (h0, .inr (0, [.int (nI w), .int (nI h), .double (midF w), .double (midF h), .ref q1, .ref q2])), (q1, .inl (cI, 24, .inl B)), (q2, .inl (cI, 24, .inl O))]) (wr := [(a0, .inr (2, [.ref h0, .ref e0, .int (b2i ak), .int (b2i su), .double gm, .int be, .double bs])), (e0, .inl (cI, 48, .inl E))]) (isC := [2, 3, 4]) (isR := [0, 1]) (pm := [0, 1, 2, 3, 4]) (rest := []) (kX0_runEnds l G cI cZ cJ cD h0 q1 q2 w h hw hh B O ) ⟨hx, hb, hml, hown, hts⟩ (cwV 0 hts gX3_sumAt_X0_runEnds rfl rfl rfl hd_X0_runEnds ⟨Nat.le_of_ble_eq_true rfl, Nat.le_of_ble_eq_true rfl⟩) hK hP hD hS hA ⟨rfl, rfl, rfl, by decide, rfl, rfl, rfl⟩ 0 2 rfl rfl rfl hl.1 rfl (Nat.le_of_ble_eq_true rfl) dX3_sumAt_4 ⟨Nat.le_of_ble_eq_true rfl, Nat.le_of_ble_eq_true rfl⟩ rfl rfl (fun H locs hP hD hS => ?_)
  refine lv_istore_n (lv' := [(2, .int (cntEnds B h)), (0, .ref a0), (1, .int a)]) hx hb dX3_sumAt_7 rfl hl (by decide) rfl (fun ls hl => ?_)
  refine lv_iload_n hx hb dX3_sumAt_8 rfl (lv_at hl 0 rfl) ?_
  refine lv_if_ne (tgt := 14) hx hb dX3_sumAt_9 (by decide) (fun c_9 => ?_) (fun c_9 => ?_)
  · refine lv_aload_n hx hb dX3_sumAt_14 rfl (lv_at hl 1 rfl) ?_
    refine lv_iload_n hx hb dX3_sumAt_15 rfl (lv_at hl 2 rfl) ?_
    refine lv_i2d hx hb dX3_sumAt_16 ?_
    have b1 : fIv (-131072000) (131072000) (FP.i2d a) := fIv.i2d_in (k := 2000) ha1 ha2 (by decide)
    refine kSd (rest := [.ref a0]) (kX1_slope l G cI cZ cJ cD (FP.i2d a) b1) ⟨hx, hb, hml, hown, hts⟩ (va_cwS 1 hts gX3_sumAt_X1_slope rfl rfl rfl hs_X1_slope ⟨Nat.le_of_ble_eq_true rfl, Nat.le_of_ble_eq_true rfl⟩) hK hP hD hS hA rfl hl.1 rfl (Nat.le_of_ble_eq_true rfl) dX3_sumAt_17 ⟨Nat.le_of_ble_eq_true rfl, Nat.le_of_ble_eq_true rfl⟩ rfl rfl (fun H locs hP hD hS => ?_)
    have b2 : fIv (-23855) (23855) (slopeF (FP.i2d a)) := fSlope b1
    refine kVv (w' := [(a0, .inr (2, [.ref h0, .ref e0, .int (b2i ak), .int (b2i su), .double gm, .int be, .double bs])), (e0, .inl (cI, 48, .inl (cntE w h B (slopeF (FP.i2d a)) E))), (h0, .inr (0, [.int (nI w), .int (nI h), .double (midF w), .double (midF h), .ref q1, .ref q2])), (q1, .inl (cI, 24, .inl B)), (q2, .inl (cI, 24, .inl O))]) (wr := []) (isC := [0, 1, 2, 3, 4]) (isR := []) (pm := [0, 1, 2, 3, 4]) (rest := []) (kX3_countEnds l G cI cZ cJ cD a0 e0 h0 q1 q2 w h hw hh B O E ak su gm be bs (slopeF (FP.i2d a)) b2) ⟨hx, hb, hml, hown, hts⟩ (cwV 1 hts gX3_sumAt_X3_countEnds rfl rfl rfl hd_X3_countEnds ⟨Nat.le_of_ble_eq_true rfl, Nat.le_of_ble_eq_true rfl⟩) hK hP hD hS hA ⟨rfl, rfl, rfl, by decide, rfl, rfl, rfl⟩ 2 0 rfl rfl rfl hl.1 rfl (Nat.le_of_ble_eq_true rfl) dX3_sumAt_20 ⟨Nat.le_of_ble_eq_true rfl, Nat.le_of_ble_eq_true rfl⟩ rfl rfl (fun H locs hP hD hS => ?_)
    refine lv_aload_n hx hb dX3_sumAt_23 rfl (lv_at hl 1 rfl) ?_
    refine kVi (w' := [(a0, .inr (2, [.ref h0, .ref e0, .int (b2i ak), .int (b2i su), .double gm, .int be, .double bs])), (e0, .inl (cI, 48, .inl (cntE w h B (slopeF (FP.i2d a)) E))), (h0, .inr (0, [.int (nI w), .int (nI h), .double (midF w), .double (midF h), .ref q1, .ref q2])), (q1, .inl (cI, 24, .inl B)), (q2, .inl (cI, 24, .inl O))]) (wr := []) (isC := [0, 1, 2, 3, 4]) (isR := []) (pm := [0, 1, 2, 3, 4]) (rest := []) (kX3_squaresOfCounts l G cI cZ cJ cD a0 e0 h0 q1 q2 w h hw hh B O (cntE w h B (slopeF (FP.i2d a)) E) ak su gm be bs ) ⟨hx, hb, hml, hown, hts⟩ (cwV 0 hts gX3_sumAt_X3_squaresOfCounts rfl rfl rfl hd_X3_squaresOfCounts ⟨Nat.le_of_ble_eq_true rfl, Nat.le_of_ble_eq_true rfl⟩) hK hP hD hS hA ⟨rfl, rfl, rfl, by decide, rfl, rfl, rfl⟩ 2 0 rfl rfl rfl hl.1 rfl (Nat.le_of_ble_eq_true rfl) dX3_sumAt_24 ⟨Nat.le_of_ble_eq_true rfl, Nat.le_of_ble_eq_true rfl⟩ rfl rfl (fun H locs hP hD hS => ?_)
    refine kTopI (z := sqZ w h B (slopeF (FP.i2d a))) (sqZ_of _ _ _ _ _) ?_
    refine lv_i2d hx hb dX3_sumAt_27 ?_
    refine lv_iload_n hx hb dX3_sumAt_28 rfl (lv_at hl 0 rfl) ?_
    refine lv_i2d hx hb dX3_sumAt_29 ?_
    have b3 : fIv (-140737488355328) (140737488355328) (FP.ddiv (FP.i2d (sqZ w h B (slopeF (FP.i2d a)))) (FP.i2d (cntEnds B h))) := fDivI (fAny _) _ c_9 (by decide +kernel)
    refine lv_ddiv hx hb dX3_sumAt_30 b3.n64 ?_
    exact hend _ _ _ _ _ _ dX3_sumAt_31 hP hD hS (by first | rfl | (simp only [sumF, sumE, c_9, ↓reduceIte]; done) | (simp [sumF, sumE, c_9]; done)) (by first | rfl | (simp only [sumF, sumE, c_9, ↓reduceIte]; done) | (simp [sumF, sumE, c_9]; done))
  · refine lv_dconst0 hx hb dX3_sumAt_12 ?_
    exact hend _ _ _ _ _ _ dX3_sumAt_13 hP hD hS (by first | rfl | (simp only [sumF, sumE, c_9, ↓reduceIte]; done) | (simp [sumF, sumE, c_9]; done)) (by first | rfl | (simp only [sumF, sumE, c_9, ↓reduceIte]; done) | (simp [sumF, sumE, c_9]; done))
