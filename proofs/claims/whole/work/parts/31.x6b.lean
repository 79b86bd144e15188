/-! the reference: shears, sampling, put .. -/
def mAtB (w h : Nat) (P : Nat → Bool) (x y : Int32) : Bool := if hasB w h x y = true then mOnB w h P x y else false
def cdAt (w h : Nat) (x y : Int32) : Int32 := if hasB w h x y = true then 0 else 1
def pkI (c : Bool) (a b : Int32) : Int32 := if c = true then a else b
def dfB (P : Nat → Bool) (ib : Bool) (i : Nat) : Bool := if b2i (P i) = b2i ib then false else true
def pP (P : Nat → Bool) (ib : Bool) (a j : Nat) : Nat → Bool := fun i => if a ≤ i ∧ i < a + j then ib else P i
theorem pP_0 (P : Nat → Bool) (ib : Bool) (a : Nat) : pP P ib a 0 = P := by
  funext i; unfold pP; rw [if_neg (by omega)]
theorem pP_at (P : Nat → Bool) (ib : Bool) (a j : Nat) : pP P ib a j (a + j) = P (a + j) := by
  unfold pP; rw [if_neg (by omega)]
theorem pP_s (P : Nat → Bool) (ib : Bool) (a j : Nat) : uB (pP P ib a j) (a + j) ib = pP P ib a (j + 1) := by
  funext i
  unfold uB pP
  by_cases e : i = a + j
  · rw [if_pos e, if_pos (by omega)]
  · rw [if_neg e]
    by_cases g : a ≤ i ∧ i < a + j
    · rw [if_pos g, if_pos (by omega)]
    · rw [if_neg g, if_neg (by omega)]
def putC (P : Nat → Bool) (ib : Bool) (a n : Nat) : Int32 := sumI (fun j => b2i (dfB P ib (a + j))) n
def putG (P : Nat → Bool) (ib : Bool) (a n : Nat) : Bool := if putC P ib a n ≤ 0 then false else true
def wiN (z : Int32) (w : Nat) : Nat := (withF z (nI w)).toNatClampNeg
theorem remE (x y : Int32) : x - x / y * y = x % y := by
  apply Int32.toInt_inj.mp
  have h1 := Int32.le_toInt (x % y)
  have h2 := Int32.toInt_lt (x % y)
  rw [Int32.toInt_sub, Int32.toInt_mul, Int32.toInt_div, Int.bmod_mul_bmod, Int.sub_bmod_bmod, Int.mul_comm (x.toInt.tdiv y.toInt), ← Int.tmod_def, ← Int32.toInt_mod]
  exact Int.bmod_eq_of_le (by omega) (by omega)
theorem remR {z : Int32} {w : Nat} (h0 : 0 < w) (hw : w ≤ 24) : -(w : Int) < (z % nI w).toInt ∧ (z % nI w).toInt < w := by
  rw [Int32.toInt_mod, nI_toInt (by omega)]
  exact ⟨Int.lt_tmod_of_pos _ (by omega), Int.tmod_lt_of_pos _ (by omega)⟩
theorem wiN_eq (z : Int32) {w : Nat} (h0 : 0 < w) (hw : w ≤ 24) : withF z (nI w) = nI (wiN z w) ∧ wiN z w < w := by
  have hr := remR (z := z) h0 hw
  have hwi : (nI w).toInt = (w : Int) := nI_toInt (by omega)
  have key : ∃ j, j < w ∧ withF z (nI w) = nI j := by
    unfold withF
    rw [remE]
    by_cases c : (0 : Int32) ≤ z % nI w
    · rw [if_pos c]
      rw [Int32.le_iff_toInt_le, show (0 : Int32).toInt = 0 from rfl] at c
      refine ⟨(z % nI w).toInt.toNat, by omega, Int32.toInt.inj ?_⟩
      rw [nI_toInt (by omega)]; omega
    · rw [if_neg c]
      rw [Int32.le_iff_toInt_le, show (0 : Int32).toInt = 0 from rfl] at c
      refine ⟨((z % nI w).toInt + w).toNat, by omega, Int32.toInt.inj ?_⟩
      rw [nI_toInt (by omega), Int32.toInt_add, hwi, Int.bmod_eq_of_le (by omega) (by omega)]; omega
  obtain ⟨j, hj, e⟩ := key
  unfold wiN
  rw [e, nI_clamp (by omega)]
  exact ⟨rfl, hj⟩
def byR (h : Nat) (t : UInt64) (sg : Int32) (y : Nat) : Int32 := sg * wholeF (FP.dmul (FP.dsub (midF h) (FP.i2d (nI y))) t)
def byC (w : Nat) (t : UInt64) (sg : Int32) (x : Nat) : Int32 := sg * wholeF (FP.dmul (FP.dsub (FP.i2d (nI x)) (midF w)) t)
def srX (w : Nat) (P : Nat → Bool) (by_ : Int32) (y : Nat) (N : Nat → Bool) : Nat → Nat → Bool
  | 0 => N
  | x + 1 => uB (srX w P by_ y N x) (24 * y + wiN (nI x + by_) w) (P (24 * y + x))
def srY (w h : Nat) (P : Nat → Bool) (t : UInt64) (sg : Int32) (N : Nat → Bool) : Nat → Nat → Bool
  | 0 => N
  | y + 1 => srX w P (byR h t sg y) y (srY w h P t sg N y) w
def scY (h : Nat) (P : Nat → Bool) (by_ : Int32) (x : Nat) (N : Nat → Bool) : Nat → Nat → Bool
  | 0 => N
  | y + 1 => uB (scY h P by_ x N y) (24 * wiN (nI y + by_) h + x) (P (24 * y + x))
def scX (w h : Nat) (P : Nat → Bool) (t : UInt64) (sg : Int32) (N : Nat → Bool) : Nat → Nat → Bool
  | 0 => N
  | x + 1 => scY h P (byC w t sg x) x (scX w h P t sg N x) h
def fgN (N : Nat → Bool) : Nat → Bool := cpB (fun _ => false) N 576
def srN (w h : Nat) (t : UInt64) (sg : Int32) (P N : Nat → Bool) : Nat → Bool := srY w h P t sg (fgN N) h
def srP (w h : Nat) (t : UInt64) (sg : Int32) (P N : Nat → Bool) : Nat → Bool := cpB (srN w h t sg P N) P 576
def scN (w h : Nat) (t : UInt64) (sg : Int32) (P N : Nat → Bool) : Nat → Bool := scX w h P t sg (fgN N) w
def scP (w h : Nat) (t : UInt64) (sg : Int32) (P N : Nat → Bool) : Nat → Bool := cpB (scN w h t sg P N) P 576
def shP1 (w h : Nat) (a sg : Int32) (P N : Nat → Bool) : Nat → Bool := srP w h (angT a) sg P N
def shN1 (w h : Nat) (a sg : Int32) (P N : Nat → Bool) : Nat → Bool := srN w h (angT a) sg P N
def shP2 (w h : Nat) (a sg : Int32) (P N : Nat → Bool) : Nat → Bool := scP w h (angS a) sg (shP1 w h a sg P N) (shN1 w h a sg P N)
def shN2 (w h : Nat) (a sg : Int32) (P N : Nat → Bool) : Nat → Bool := scN w h (angS a) sg (shP1 w h a sg P N) (shN1 w h a sg P N)
def shP (w h : Nat) (a sg : Int32) (P N : Nat → Bool) : Nat → Bool := srP w h (angT a) sg (shP2 w h a sg P N) (shN2 w h a sg P N)
def shN (w h : Nat) (a sg : Int32) (P N : Nat → Bool) : Nat → Bool := srN w h (angT a) sg (shP2 w h a sg P N) (shN2 w h a sg P N)
def saX (w h : Nat) (P : Nat → Bool) (s c : UInt64) (y : Nat) (N : Nat → Bool) : Nat → Nat → Bool
  | 0 => N
  | x + 1 => uB (saX w h P s c y N x) (24 * y + x) (mOnB w h P (frX w h s c x y) (frY w h s c x y))
def saY (w h : Nat) (P : Nat → Bool) (s c : UInt64) (N : Nat → Bool) : Nat → Nat → Bool
  | 0 => N
  | y + 1 => saX w h P s c y (saY w h P s c N y) w
def saN (w h : Nat) (a : Int32) (P N : Nat → Bool) : Nat → Bool := saY w h P (angS a) (angC a) (fgN N) h
def saP (w h : Nat) (a : Int32) (P N : Nat → Bool) : Nat → Bool := cpB (saN w h a P N) P 576
theorem e4_end (z : Nat → Int32) (l u r d : Int32) {s : Int32} (h0 : ¬ s < 0) (h3 : s ≤ 3) : e4 z l u r d s.toNatClampNeg = endF s l u r d := by
  obtain ⟨j, hj, rfl⟩ := nI_of2 (n := 3) (M := 3) rfl h0 h3
  rw [nI_clamp (by omega)]
  rcases (show j = 0 ∨ j = 1 ∨ j = 2 ∨ j = 3 by omega) with rfl | rfl | rfl | rfl <;> rfl
theorem vp_in_s {s : Int32} (h0 : ¬ s < 0) (h3 : s ≤ 3) : vp_in s 4 := by
  obtain ⟨j, hj, rfl⟩ := nI_of2 (n := 3) (M := 3) rfl h0 h3
  exact vp_in_nI (by omega) (by omega)
def mTld (w h : Nat) (P : Nat → Bool) (tc : Nat) (q : Int32) : Int32 := if q = 0 then nI w else if q = 1 then nI h else if q = 2 then mCnt P else if q = 3 then mEnds w h P else if q = 4 then nI tc else -1
abbrev rmX6_at : Room := { frames := 1, cells := 0, slots := 0, locals := 22 }
set_option maxRecDepth 100000 in
set_option maxHeartbeats 4000000 in
theorem kX6_at (l : Launch) (G : va_G) (cI cZ cJ cD : ClassId) (z0 z1 z2 z3 z4 z5 w h : Nat) (hw : w ≤ 24) (hh : h ≤ 24) (cd : Int32) (P N : Nat → Bool) (ze : Nat → Int32) (le ue re de : Int32) (mk ms : Bool) (mn : UInt64) (tc : Nat) (TM LN : Nat → Int32) (ba br : Int32) (x y : Int32) : Ci l G (kTy cI cZ cJ cD) yX6_at wsX6_at rmX6_at [.ref z0, .int x, .int y] [(z0, .inr (5, [.int cd, .int (nI w), .int (nI h), .ref z1, .ref z2, .ref z3, .int (b2i mk), .int (b2i ms), .double mn, .ref z4, .int (nI tc), .ref z5, .int ba, .int br])), (z1, .inl (cZ, 576, .inl (bA P))), (z2, .inl (cZ, 576, .inl (bA N))), (z3, .inl (cI, 4, .inl (e4 ze le ue re de))), (z4, .inl (cI, 16, .inl TM)), (z5, .inl (cI, 104, .inl LN))] (b2i (mAtB w h P x y)) [(z0, .inr (5, [.int (cdAt w h x y), .int (nI w), .int (nI h), .ref z1, .ref z2, .ref z3, .int (b2i mk), .int (b2i ms), .double mn, .ref z4, .int (nI tc), .ref z5, .int ba, .int br])), (z1, .inl (cZ, 576, .inl (bA P))), (z2, .inl (cZ, 576, .inl (bA N))), (z3, .inl (cI, 4, .inl (e4 ze le ue re de))), (z4, .inl (cI, 16, .inl TM)), (z5, .inl (cI, 104, .inl LN))] := by
  refine Ci.of .boolean (nar_b2i _) rfl rfl (cc := cX6_at) (maxL := 3) (plainFor_of_name (by decide)) rfl (Nat.le_of_ble_eq_true rfl) rfl ?_
  intro p e s m args below meth c A Q hx hb hml hts hown hA hK hP hD hS hend ls hl
  refine lv_aload_n hx hb dX6_at_0 rfl (lv_at hl 0 rfl) ?_
  refine lv_aload_n hx hb dX6_at_1 rfl (lv_at hl 0 rfl) ?_
  refine lv_iload_n hx hb dX6_at_2 rfl (lv_at hl 1 rfl) ?_
  refine lv_iload_n hx hb dX6_at_3 rfl (lv_at hl 2 rfl) ?_
  refine kVi (w' := [(z0, .inr (5, [.int cd, .int (nI w), .int (nI h), .ref z1, .ref z2, .ref z3, .int (b2i mk), .int (b2i ms), .double mn, .ref z4, .int (nI tc), .ref z5, .int ba, .int br])), (z1, .inl (cZ, 576, .inl (bA P))), (z2, .inl (cZ, 576, .inl (bA N))), (z3, .inl (cI, 4, .inl (e4 ze le ue re de))), (z4, .inl (cI, 16, .inl TM)), (z5, .inl (cI, 104, .inl LN))]) (wr := []) (isC := [0, 1, 2, 3, 4, 5]) (isR := []) (pm := [0, 1, 2, 3, 4, 5]) (rest := [.ref z0]) (kX6_isSample l G cI cZ cJ cD z0 z1 z2 z3 z4 z5 w h hw hh cd P N ze le ue re de mk ms mn tc TM LN ba br x y) ⟨hx, hb, hml, hown, hts⟩ (cwV 2 hts gX6_at_X6_isSample rfl rfl rfl hd_X6_isSample ⟨Nat.le_of_ble_eq_true rfl, Nat.le_of_ble_eq_true rfl⟩) hK hP hD hS hA ⟨rfl, rfl, rfl, by decide, rfl, rfl, rfl⟩ 5 0 rfl rfl rfl hl.1 rfl (Nat.le_of_ble_eq_true rfl) dX6_at_4 ⟨Nat.le_of_ble_eq_true rfl, Nat.le_of_ble_eq_true rfl⟩ rfl rfl (fun H locs hP hD hS => ?_)
  refine kIfEqB (tgt := 14) hx hb dX6_at_7 (by decide) (fun c_7 => ?_) (fun c_7 => ?_)
  · refine lv_iconst (v := 1) hx hb dX6_at_14 (by decide) ?_
    refine kVi (w' := [(z0, .inr (5, [.int 1, .int (nI w), .int (nI h), .ref z1, .ref z2, .ref z3, .int (b2i mk), .int (b2i ms), .double mn, .ref z4, .int (nI tc), .ref z5, .int ba, .int br])), (z1, .inl (cZ, 576, .inl (bA P))), (z2, .inl (cZ, 576, .inl (bA N))), (z3, .inl (cI, 4, .inl (e4 ze le ue re de))), (z4, .inl (cI, 16, .inl TM)), (z5, .inl (cI, 104, .inl LN))]) (wr := []) (isC := [0, 1, 2, 3, 4, 5]) (isR := []) (pm := [0, 1, 2, 3, 4, 5]) (rest := []) (kX6_refuses l G cI cZ cJ cD z0 z1 z2 z3 z4 z5 w h hw hh cd P N ze le ue re de mk ms mn tc TM LN ba br 1) ⟨hx, hb, hml, hown, hts⟩ (cwV 1 hts gX6_at_X6_refuses rfl rfl rfl hd_X6_refuses ⟨Nat.le_of_ble_eq_true rfl, Nat.le_of_ble_eq_true rfl⟩) hK hP hD hS hA ⟨rfl, rfl, rfl, by decide, rfl, rfl, rfl⟩ 5 0 rfl rfl rfl hl.1 rfl (Nat.le_of_ble_eq_true rfl) dX6_at_15 ⟨Nat.le_of_ble_eq_true rfl, Nat.le_of_ble_eq_true rfl⟩ rfl rfl (fun H locs hP hD hS => ?_)
    refine kIfNeB (tgt := 34) hx hb dX6_at_18 (by decide) (fun c_18 => ?_) (fun h9 => (absurd h9 (by decide)))
    refine lv_iconst (v := 0) hx hb dX6_at_34 (by decide) ?_
    exact hend _ _ _ _ _ _ dX6_at_35 hP hD hS (by first | (simp only [mAtB, cdAt, b2i_t, b2i_f, Bool.false_eq_true, c_7, c_18, ↓reduceIte]; done) | (simp [mAtB, cdAt, b2i_t, b2i_f, Bool.false_eq_true, c_7, c_18]; done) | rfl) (by first | (simp only [mAtB, cdAt, b2i_t, b2i_f, Bool.false_eq_true, c_7, c_18, ↓reduceIte]; done) | (simp [mAtB, cdAt, b2i_t, b2i_f, Bool.false_eq_true, c_7, c_18]; done) | rfl)
  · refine lv_iconst (v := 0) hx hb dX6_at_10 (by decide) ?_
    refine lv_goto (tgt := 15) hx hb dX6_at_11 (by decide) ?_
    refine kVi (w' := [(z0, .inr (5, [.int 0, .int (nI w), .int (nI h), .ref z1, .ref z2, .ref z3, .int (b2i mk), .int (b2i ms), .double mn, .ref z4, .int (nI tc), .ref z5, .int ba, .int br])), (z1, .inl (cZ, 576, .inl (bA P))), (z2, .inl (cZ, 576, .inl (bA N))), (z3, .inl (cI, 4, .inl (e4 ze le ue re de))), (z4, .inl (cI, 16, .inl TM)), (z5, .inl (cI, 104, .inl LN))]) (wr := []) (isC := [0, 1, 2, 3, 4, 5]) (isR := []) (pm := [0, 1, 2, 3, 4, 5]) (rest := []) (kX6_refuses l G cI cZ cJ cD z0 z1 z2 z3 z4 z5 w h hw hh cd P N ze le ue re de mk ms mn tc TM LN ba br 0) ⟨hx, hb, hml, hown, hts⟩ (cwV 1 hts gX6_at_X6_refuses rfl rfl rfl hd_X6_refuses ⟨Nat.le_of_ble_eq_true rfl, Nat.le_of_ble_eq_true rfl⟩) hK hP hD hS hA ⟨rfl, rfl, rfl, by decide, rfl, rfl, rfl⟩ 5 0 rfl rfl rfl hl.1 rfl (Nat.le_of_ble_eq_true rfl) dX6_at_15 ⟨Nat.le_of_ble_eq_true rfl, Nat.le_of_ble_eq_true rfl⟩ rfl rfl (fun H locs hP hD hS => ?_)
    refine kIfNeB (tgt := 34) hx hb dX6_at_18 (by decide) (fun h9 => (absurd h9 (by decide))) (fun c_18 => ?_)
    refine lv_aload_n hx hb dX6_at_21 rfl (lv_at hl 0 rfl) ?_
    refine lv_iload_n hx hb dX6_at_22 rfl (lv_at hl 1 rfl) ?_
    refine lv_iload_n hx hb dX6_at_23 rfl (lv_at hl 2 rfl) ?_
    refine kVi (w' := [(z0, .inr (5, [.int 0, .int (nI w), .int (nI h), .ref z1, .ref z2, .ref z3, .int (b2i mk), .int (b2i ms), .double mn, .ref z4, .int (nI tc), .ref z5, .int ba, .int br])), (z1, .inl (cZ, 576, .inl (bA P))), (z2, .inl (cZ, 576, .inl (bA N))), (z3, .inl (cI, 4, .inl (e4 ze le ue re de))), (z4, .inl (cI, 16, .inl TM)), (z5, .inl (cI, 104, .inl LN))]) (wr := []) (isC := [0, 1, 2, 3, 4, 5]) (isR := []) (pm := [0, 1, 2, 3, 4, 5]) (rest := []) (kX6_isOn l G cI cZ cJ cD z0 z1 z2 z3 z4 z5 w h hw hh 0 P N ze le ue re de mk ms mn tc TM LN ba br x y) ⟨hx, hb, hml, hown, hts⟩ (cwV 2 hts gX6_at_X6_isOn rfl rfl rfl hd_X6_isOn ⟨Nat.le_of_ble_eq_true rfl, Nat.le_of_ble_eq_true rfl⟩) hK hP hD hS hA ⟨rfl, rfl, rfl, by decide, rfl, rfl, rfl⟩ 5 0 rfl rfl rfl hl.1 rfl (Nat.le_of_ble_eq_true rfl) dX6_at_24 ⟨Nat.le_of_ble_eq_true rfl, Nat.le_of_ble_eq_true rfl⟩ rfl rfl (fun H locs hP hD hS => ?_)
    refine kIfEqB (tgt := 34) hx hb dX6_at_27 (by decide) (fun c_27 => ?_) (fun c_27 => ?_)
    · refine lv_iconst (v := 0) hx hb dX6_at_34 (by decide) ?_
      exact hend _ _ _ _ _ _ dX6_at_35 hP hD hS (by first | (simp only [mAtB, cdAt, b2i_t, b2i_f, Bool.false_eq_true, c_7, c_18, c_27, ↓reduceIte]; done) | (simp [mAtB, cdAt, b2i_t, b2i_f, Bool.false_eq_true, c_7, c_18, c_27]; done) | rfl) (by first | (simp only [mAtB, cdAt, b2i_t, b2i_f, Bool.false_eq_true, c_7, c_18, c_27, ↓reduceIte]; done) | (simp [mAtB, cdAt, b2i_t, b2i_f, Bool.false_eq_true, c_7, c_18, c_27]; done) | rfl)
    · refine lv_iconst (v := 1) hx hb dX6_at_30 (by decide) ?_
      refine lv_goto (tgt := 35) hx hb dX6_at_31 (by decide) ?_
      exact hend _ _ _ _ _ _ dX6_at_35 hP hD hS (by first | (simp only [mAtB, cdAt, b2i_t, b2i_f, Bool.false_eq_true, c_7, c_18, c_27, ↓reduceIte]; done) | (simp [mAtB, cdAt, b2i_t, b2i_f, Bool.false_eq_true, c_7, c_18, c_27]; done) | rfl) (by first | (simp only [mAtB, cdAt, b2i_t, b2i_f, Bool.false_eq_true, c_7, c_18, c_27, ↓reduceIte]; done) | (simp [mAtB, cdAt, b2i_t, b2i_f, Bool.false_eq_true, c_7, c_18, c_27]; done) | rfl)
abbrev rmX6_put1 : Room := { frames := 1, cells := 0, slots := 0, locals := 22 }
set_option maxRecDepth 100000 in
set_option maxHeartbeats 4000000 in
theorem kX6_put1 (l : Launch) (G : va_G) (cI cZ cJ cD : ClassId) (z0 z1 z2 z3 z4 z5 w h : Nat) (hw : w ≤ 24) (hh : h ≤ 24) (cd : Int32) (P N : Nat → Bool) (ze : Nat → Int32) (le ue re de : Int32) (mk ms : Bool) (mn : UInt64) (tc : Nat) (TM LN : Nat → Int32) (ba br : Int32) (x y n : Int32) (ib : Bool) (hv : hasB w h x y = false) : Ci l G (kTy cI cZ cJ cD) yX6_put wsX6_put rmX6_put1 [.ref z0, .int x, .int y, .int n, .int (b2i ib)] [(z0, .inr (5, [.int cd, .int (nI w), .int (nI h), .ref z1, .ref z2, .ref z3, .int (b2i mk), .int (b2i ms), .double mn, .ref z4, .int (nI tc), .ref z5, .int ba, .int br])), (z1, .inl (cZ, 576, .inl (bA P))), (z2, .inl (cZ, 576, .inl (bA N))), (z3, .inl (cI, 4, .inl (e4 ze le ue re de))), (z4, .inl (cI, 16, .inl TM)), (z5, .inl (cI, 104, .inl LN))] 0 [(z0, .inr (5, [.int 1, .int (nI w), .int (nI h), .ref z1, .ref z2, .ref z3, .int (b2i mk), .int (b2i ms), .double mn, .ref z4, .int (nI tc), .ref z5, .int ba, .int br])), (z1, .inl (cZ, 576, .inl (bA P))), (z2, .inl (cZ, 576, .inl (bA N))), (z3, .inl (cI, 4, .inl (e4 ze le ue re de))), (z4, .inl (cI, 16, .inl TM)), (z5, .inl (cI, 104, .inl LN))] := by
  refine Ci.of .int rfl rfl rfl (cc := cX6_put) (maxL := 7) (plainFor_of_name (by decide)) rfl (Nat.le_of_ble_eq_true rfl) rfl ?_
  intro p e s m args below meth c A Q hx hb hml hts hown hA hK hP hD hS hend ls hl
  refine lv_aload_n hx hb dX6_put_0 rfl (lv_at hl 0 rfl) ?_
  refine lv_aload_n hx hb dX6_put_1 rfl (lv_at hl 0 rfl) ?_
  refine lv_iload_n hx hb dX6_put_2 rfl (lv_at hl 1 rfl) ?_
  refine lv_iload_n hx hb dX6_put_3 rfl (lv_at hl 2 rfl) ?_
  refine kVi (w' := [(z0, .inr (5, [.int cd, .int (nI w), .int (nI h), .ref z1, .ref z2, .ref z3, .int (b2i mk), .int (b2i ms), .double mn, .ref z4, .int (nI tc), .ref z5, .int ba, .int br])), (z1, .inl (cZ, 576, .inl (bA P))), (z2, .inl (cZ, 576, .inl (bA N))), (z3, .inl (cI, 4, .inl (e4 ze le ue re de))), (z4, .inl (cI, 16, .inl TM)), (z5, .inl (cI, 104, .inl LN))]) (wr := []) (isC := [0, 1, 2, 3, 4, 5]) (isR := []) (pm := [0, 1, 2, 3, 4, 5]) (rest := [.ref z0]) (kX6_isSample l G cI cZ cJ cD z0 z1 z2 z3 z4 z5 w h hw hh cd P N ze le ue re de mk ms mn tc TM LN ba br x y) ⟨hx, hb, hml, hown, hts⟩ (cwV 2 hts gX6_put_X6_isSample rfl rfl rfl hd_X6_isSample ⟨Nat.le_of_ble_eq_true rfl, Nat.le_of_ble_eq_true rfl⟩) hK hP hD hS hA ⟨rfl, rfl, rfl, by decide, rfl, rfl, rfl⟩ 5 0 rfl rfl rfl hl.1 rfl (Nat.le_of_ble_eq_true rfl) dX6_put_4 ⟨Nat.le_of_ble_eq_true rfl, Nat.le_of_ble_eq_true rfl⟩ rfl rfl (fun H locs hP hD hS => ?_)
  refine kIfNeB (tgt := 14) hx hb dX6_put_7 (by decide) (fun h9 => (by rw [hv] at h9; cases h9)) (fun c_7 => ?_)
  refine lv_iconst (v := 1) hx hb dX6_put_10 (by decide) ?_
  refine lv_goto (tgt := 24) hx hb dX6_put_11 (by decide) ?_
  refine kVi (w' := [(z0, .inr (5, [.int 1, .int (nI w), .int (nI h), .ref z1, .ref z2, .ref z3, .int (b2i mk), .int (b2i ms), .double mn, .ref z4, .int (nI tc), .ref z5, .int ba, .int br])), (z1, .inl (cZ, 576, .inl (bA P))), (z2, .inl (cZ, 576, .inl (bA N))), (z3, .inl (cI, 4, .inl (e4 ze le ue re de))), (z4, .inl (cI, 16, .inl TM)), (z5, .inl (cI, 104, .inl LN))]) (wr := []) (isC := [0, 1, 2, 3, 4, 5]) (isR := []) (pm := [0, 1, 2, 3, 4, 5]) (rest := []) (kX6_refuses l G cI cZ cJ cD z0 z1 z2 z3 z4 z5 w h hw hh cd P N ze le ue re de mk ms mn tc TM LN ba br 1) ⟨hx, hb, hml, hown, hts⟩ (cwV 1 hts gX6_put_X6_refuses rfl rfl rfl hd_X6_refuses ⟨Nat.le_of_ble_eq_true rfl, Nat.le_of_ble_eq_true rfl⟩) hK hP hD hS hA ⟨rfl, rfl, rfl, by decide, rfl, rfl, rfl⟩ 5 0 rfl rfl rfl hl.1 rfl (Nat.le_of_ble_eq_true rfl) dX6_put_24 ⟨Nat.le_of_ble_eq_true rfl, Nat.le_of_ble_eq_true rfl⟩ rfl rfl (fun H locs hP hD hS => ?_)
  refine kIfEqB (tgt := 32) hx hb dX6_put_27 (by decide) (fun h9 => (absurd h9 (by decide))) (fun c_27 => ?_)
  refine lv_iconst (v := 0) hx hb dX6_put_30 (by decide) ?_
  exact hend _ _ _ _ _ _ dX6_put_31 hP hD hS rfl rfl
abbrev rmX6_put2 : Room := { frames := 1, cells := 0, slots := 0, locals := 22 }
set_option maxRecDepth 100000 in
set_option maxHeartbeats 4000000 in
theorem kX6_put2 (l : Launch) (G : va_G) (cI cZ cJ cD : ClassId) (z0 z1 z2 z3 z4 z5 w h : Nat) (hw : w ≤ 24) (hh : h ≤ 24) (cd : Int32) (P N : Nat → Bool) (ze : Nat → Int32) (le ue re de : Int32) (mk ms : Bool) (mn : UInt64) (tc : Nat) (TM LN : Nat → Int32) (ba br : Int32) (x y n : Int32) (ib : Bool) (hv : hasB w h x y = true) (hn : ¬ 1 ≤ n) : Ci l G (kTy cI cZ cJ cD) yX6_put wsX6_put rmX6_put2 [.ref z0, .int x, .int y, .int n, .int (b2i ib)] [(z0, .inr (5, [.int cd, .int (nI w), .int (nI h), .ref z1, .ref z2, .ref z3, .int (b2i mk), .int (b2i ms), .double mn, .ref z4, .int (nI tc), .ref z5, .int ba, .int br])), (z1, .inl (cZ, 576, .inl (bA P))), (z2, .inl (cZ, 576, .inl (bA N))), (z3, .inl (cI, 4, .inl (e4 ze le ue re de))), (z4, .inl (cI, 16, .inl TM)), (z5, .inl (cI, 104, .inl LN))] 0 [(z0, .inr (5, [.int 2, .int (nI w), .int (nI h), .ref z1, .ref z2, .ref z3, .int (b2i mk), .int (b2i ms), .double mn, .ref z4, .int (nI tc), .ref z5, .int ba, .int br])), (z1, .inl (cZ, 576, .inl (bA P))), (z2, .inl (cZ, 576, .inl (bA N))), (z3, .inl (cI, 4, .inl (e4 ze le ue re de))), (z4, .inl (cI, 16, .inl TM)), (z5, .inl (cI, 104, .inl LN))] := by
  refine Ci.of .int rfl rfl rfl (cc := cX6_put) (maxL := 7) (plainFor_of_name (by decide)) rfl (Nat.le_of_ble_eq_true rfl) rfl ?_
  intro p e s m args below meth c A Q hx hb hml hts hown hA hK hP hD hS hend ls hl
  refine lv_aload_n hx hb dX6_put_0 rfl (lv_at hl 0 rfl) ?_
  refine lv_aload_n hx hb dX6_put_1 rfl (lv_at hl 0 rfl) ?_
  refine lv_iload_n hx hb dX6_put_2 rfl (lv_at hl 1 rfl) ?_
  refine lv_iload_n hx hb dX6_put_3 rfl (lv_at hl 2 rfl) ?_
  refine kVi (w' := [(z0, .inr (5, [.int cd, .int (nI w), .int (nI h), .ref z1, .ref z2, .ref z3, .int (b2i mk), .int (b2i ms), .double mn, .ref z4, .int (nI tc), .ref z5, .int ba, .int br])), (z1, .inl (cZ, 576, .inl (bA P))), (z2, .inl (cZ, 576, .inl (bA N))), (z3, .inl (cI, 4, .inl (e4 ze le ue re de))), (z4, .inl (cI, 16, .inl TM)), (z5, .inl (cI, 104, .inl LN))]) (wr := []) (isC := [0, 1, 2, 3, 4, 5]) (isR := []) (pm := [0, 1, 2, 3, 4, 5]) (rest := [.ref z0]) (kX6_isSample l G cI cZ cJ cD z0 z1 z2 z3 z4 z5 w h hw hh cd P N ze le ue re de mk ms mn tc TM LN ba br x y) ⟨hx, hb, hml, hown, hts⟩ (cwV 2 hts gX6_put_X6_isSample rfl rfl rfl hd_X6_isSample ⟨Nat.le_of_ble_eq_true rfl, Nat.le_of_ble_eq_true rfl⟩) hK hP hD hS hA ⟨rfl, rfl, rfl, by decide, rfl, rfl, rfl⟩ 5 0 rfl rfl rfl hl.1 rfl (Nat.le_of_ble_eq_true rfl) dX6_put_4 ⟨Nat.le_of_ble_eq_true rfl, Nat.le_of_ble_eq_true rfl⟩ rfl rfl (fun H locs hP hD hS => ?_)
  refine kIfNeB (tgt := 14) hx hb dX6_put_7 (by decide) (fun c_7 => ?_) (fun h9 => (by rw [hv] at h9; cases h9))
  refine lv_iload_n hx hb dX6_put_14 rfl (lv_at hl 3 rfl) ?_
  refine lv_iconst (v := 1) hx hb dX6_put_15 (by decide) ?_
  refine lv_icmp_ge (tgt := 23) hx hb dX6_put_16 (by decide) (fun h9 => absurd h9 hn) (fun c_16 => ?_)
  refine lv_iconst (v := 2) hx hb dX6_put_19 (by decide) ?_
  refine lv_goto (tgt := 24) hx hb dX6_put_20 (by decide) ?_
  refine kVi (w' := [(z0, .inr (5, [.int 2, .int (nI w), .int (nI h), .ref z1, .ref z2, .ref z3, .int (b2i mk), .int (b2i ms), .double mn, .ref z4, .int (nI tc), .ref z5, .int ba, .int br])), (z1, .inl (cZ, 576, .inl (bA P))), (z2, .inl (cZ, 576, .inl (bA N))), (z3, .inl (cI, 4, .inl (e4 ze le ue re de))), (z4, .inl (cI, 16, .inl TM)), (z5, .inl (cI, 104, .inl LN))]) (wr := []) (isC := [0, 1, 2, 3, 4, 5]) (isR := []) (pm := [0, 1, 2, 3, 4, 5]) (rest := []) (kX6_refuses l G cI cZ cJ cD z0 z1 z2 z3 z4 z5 w h hw hh cd P N ze le ue re de mk ms mn tc TM LN ba br 2) ⟨hx, hb, hml, hown, hts⟩ (cwV 1 hts gX6_put_X6_refuses rfl rfl rfl hd_X6_refuses ⟨Nat.le_of_ble_eq_true rfl, Nat.le_of_ble_eq_true rfl⟩) hK hP hD hS hA ⟨rfl, rfl, rfl, by decide, rfl, rfl, rfl⟩ 5 0 rfl rfl rfl hl.1 rfl (Nat.le_of_ble_eq_true rfl) dX6_put_24 ⟨Nat.le_of_ble_eq_true rfl, Nat.le_of_ble_eq_true rfl⟩ rfl rfl (fun H locs hP hD hS => ?_)
  refine kIfEqB (tgt := 32) hx hb dX6_put_27 (by decide) (fun h9 => (absurd h9 (by decide))) (fun c_27 => ?_)
  refine lv_iconst (v := 0) hx hb dX6_put_30 (by decide) ?_
  exact hend _ _ _ _ _ _ dX6_put_31 hP hD hS rfl rfl
theorem in_kX6_putV_X6 : ∀ w ∈ u_ws RX6 TX6 14, w ∈ wsX6_put := by decide +kernel
theorem fl_kX6_putV_26 : Cond.fieldLink RX6 26 "SkewFindModel" "width" "I" ∈ wsX6_put := by decide +kernel
theorem fl_kX6_putV_7 : Cond.fieldLink RX6 7 "SkewFindModel" "on" "[Z" ∈ wsX6_put := by decide +kernel
abbrev rmX6_putV : Room := { frames := 1, cells := 0, slots := 0, locals := 22 }
set_option maxRecDepth 100000 in
set_option maxHeartbeats 4000000 in
theorem kX6_putV (l : Launch) (G : va_G) (cI cZ cJ cD : ClassId) (z0 z1 z2 z3 z4 z5 w h : Nat) (hw : w ≤ 24) (hh : h ≤ 24) (cd : Int32) (P N : Nat → Bool) (ze : Nat → Int32) (le ue re de : Int32) (mk ms : Bool) (mn : UInt64) (tc : Nat) (TM LN : Nat → Int32) (ba br : Int32) (x1 y1 n1 : Nat) (ib : Bool) (hx1 : x1 < w) (hy1 : y1 < h) (hn1 : 1 ≤ n1) (hn2 : n1 < 2 ^ 31) (hv : hasB w h (nI x1) (nI y1) = true) : Ci l G (kTy cI cZ cJ cD) yX6_put wsX6_put rmX6_putV [.ref z0, .int (nI x1), .int (nI y1), .int (nI n1), .int (b2i ib)] [(z0, .inr (5, [.int cd, .int (nI w), .int (nI h), .ref z1, .ref z2, .ref z3, .int (b2i mk), .int (b2i ms), .double mn, .ref z4, .int (nI tc), .ref z5, .int ba, .int br])), (z1, .inl (cZ, 576, .inl (bA P))), (z2, .inl (cZ, 576, .inl (bA N))), (z3, .inl (cI, 4, .inl (e4 ze le ue re de))), (z4, .inl (cI, 16, .inl TM)), (z5, .inl (cI, 104, .inl LN))] (putC P ib (24 * y1 + x1) (min (w - x1) n1)) [(z0, .inr (5, [.int 0, .int (nI w), .int (nI h), .ref z1, .ref z2, .ref z3, .int (b2i (pkB (putG P ib (24 * y1 + x1) (min (w - x1) n1)) false mk)), .int (b2i ms), .double mn, .ref z4, .int (nI tc), .ref z5, .int ba, .int br])), (z1, .inl (cZ, 576, .inl (bA (pP P ib (24 * y1 + x1) (min (w - x1) n1))))), (z2, .inl (cZ, 576, .inl (bA N))), (z3, .inl (cI, 4, .inl (e4 ze (pkI (putG P ib (24 * y1 + x1) (min (w - x1) n1)) 0 le) (pkI (putG P ib (24 * y1 + x1) (min (w - x1) n1)) 0 ue) (pkI (putG P ib (24 * y1 + x1) (min (w - x1) n1)) (nI w) re) (pkI (putG P ib (24 * y1 + x1) (min (w - x1) n1)) (nI h) de)))), (z4, .inl (cI, 16, .inl TM)), (z5, .inl (cI, 104, .inl LN))] := by
  refine Ci.of .int rfl rfl rfl (cc := cX6_put) (maxL := 7) (plainFor_of_name (by decide)) rfl (Nat.le_of_ble_eq_true rfl) rfl ?_
  intro p e s m args below meth c A Q hx hb hml hts hown hA hK hP hD hS hend ls hl
  refine lv_aload_n hx hb dX6_put_0 rfl (lv_at hl 0 rfl) ?_
  refine lv_aload_n hx hb dX6_put_1 rfl (lv_at hl 0 rfl) ?_
  refine lv_iload_n hx hb dX6_put_2 rfl (lv_at hl 1 rfl) ?_
  refine lv_iload_n hx hb dX6_put_3 rfl (lv_at hl 2 rfl) ?_
  refine kVi (w' := [(z0, .inr (5, [.int cd, .int (nI w), .int (nI h), .ref z1, .ref z2, .ref z3, .int (b2i mk), .int (b2i ms), .double mn, .ref z4, .int (nI tc), .ref z5, .int ba, .int br])), (z1, .inl (cZ, 576, .inl (bA P))), (z2, .inl (cZ, 576, .inl (bA N))), (z3, .inl (cI, 4, .inl (e4 ze le ue re de))), (z4, .inl (cI, 16, .inl TM)), (z5, .inl (cI, 104, .inl LN))]) (wr := []) (isC := [0, 1, 2, 3, 4, 5]) (isR := []) (pm := [0, 1, 2, 3, 4, 5]) (rest := [.ref z0]) (kX6_isSample l G cI cZ cJ cD z0 z1 z2 z3 z4 z5 w h hw hh cd P N ze le ue re de mk ms mn tc TM LN ba br (nI x1) (nI y1)) ⟨hx, hb, hml, hown, hts⟩ (cwV 2 hts gX6_put_X6_isSample rfl rfl rfl hd_X6_isSample ⟨Nat.le_of_ble_eq_true rfl, Nat.le_of_ble_eq_true rfl⟩) hK hP hD hS hA ⟨rfl, rfl, rfl, by decide, rfl, rfl, rfl⟩ 5 0 rfl rfl rfl hl.1 rfl (Nat.le_of_ble_eq_true rfl) dX6_put_4 ⟨Nat.le_of_ble_eq_true rfl, Nat.le_of_ble_eq_true rfl⟩ rfl rfl (fun H locs hP hD hS => ?_)
  refine kIfNeB (tgt := 14) hx hb dX6_put_7 (by decide) (fun c_7 => ?_) (fun h9 => (by rw [hv] at h9; cases h9))
  refine lv_iload_n hx hb dX6_put_14 rfl (lv_at hl 3 rfl) ?_
  refine lv_iconst (v := 1) hx hb dX6_put_15 (by decide) ?_
  refine kGe (n := 1) (by omega) (by omega) (tgt := 23) hx hb dX6_put_16 (by decide) (fun c_16 => ?_) (fun h9 => (absurd hn1 (by omega)))
  refine lv_iconst (v := 0) hx hb dX6_put_23 (by decide) ?_
  refine kVi (w' := [(z0, .inr (5, [.int 0, .int (nI w), .int (nI h), .ref z1, .ref z2, .ref z3, .int (b2i mk), .int (b2i ms), .double mn, .ref z4, .int (nI tc), .ref z5, .int ba, .int br])), (z1, .inl (cZ, 576, .inl (bA P))), (z2, .inl (cZ, 576, .inl (bA N))), (z3, .inl (cI, 4, .inl (e4 ze le ue re de))), (z4, .inl (cI, 16, .inl TM)), (z5, .inl (cI, 104, .inl LN))]) (wr := []) (isC := [0, 1, 2, 3, 4, 5]) (isR := []) (pm := [0, 1, 2, 3, 4, 5]) (rest := []) (kX6_refuses l G cI cZ cJ cD z0 z1 z2 z3 z4 z5 w h hw hh cd P N ze le ue re de mk ms mn tc TM LN ba br 0) ⟨hx, hb, hml, hown, hts⟩ (cwV 1 hts gX6_put_X6_refuses rfl rfl rfl hd_X6_refuses ⟨Nat.le_of_ble_eq_true rfl, Nat.le_of_ble_eq_true rfl⟩) hK hP hD hS hA ⟨rfl, rfl, rfl, by decide, rfl, rfl, rfl⟩ 5 0 rfl rfl rfl hl.1 rfl (Nat.le_of_ble_eq_true rfl) dX6_put_24 ⟨Nat.le_of_ble_eq_true rfl, Nat.le_of_ble_eq_true rfl⟩ rfl rfl (fun H locs hP hD hS => ?_)
  refine kIfEqB (tgt := 32) hx hb dX6_put_27 (by decide) (fun c_27 => ?_) (fun h9 => (absurd h9 (by decide)))
  refine lv_iconst (v := 0) hx hb dX6_put_32 (by decide) ?_
  refine lv_istore (lv' := [(5, .int 0), (0, .ref z0), (1, .int (nI x1)), (2, .int (nI y1)), (3, .int (nI n1)), (4, .int (b2i ib))]) hx hb dX6_put_33 hl (by decide) rfl (fun ls hl => ?_)
  refine lv_iload_n hx hb dX6_put_35 rfl (lv_at hl 2 rfl) ?_
  refine lv_istore (lv' := [(6, .int (nI x1)), (5, .int 0), (0, .ref z0), (1, .int (nI x1)), (2, .int (nI y1)), (3, .int (nI n1)), (4, .int (b2i ib))]) hx hb dX6_put_36 hl (by decide) rfl (fun ls hl => ?_)
  have K38 : ∀ (n38 : Nat) (j : Nat), w - (x1 + j) < n38 → (x1 + j ≤ w) → (j ≤ n1) → ∀ (H : Heap) (locs : List Loc), va_P G vwCl [(z0, .inr (5, [.int 0, .int (nI w), .int (nI h), .ref z1, .ref z2, .ref z3, .int (b2i mk), .int (b2i ms), .double mn, .ref z4, .int (nI tc), .ref z5, .int ba, .int br])), (z1, .inl (cZ, 576, .inl (bA (pP P ib (24 * y1 + x1) j)))), (z2, .inl (cZ, 576, .inl (bA N))), (z3, .inl (cI, 4, .inl (e4 ze le ue re de))), (z4, .inl (cI, 16, .inl TM)), (z5, .inl (cI, 104, .inl LN))] H → va_D A [(z0, .inr (5, [.int 0, .int (nI w), .int (nI h), .ref z1, .ref z2, .ref z3, .int (b2i mk), .int (b2i ms), .double mn, .ref z4, .int (nI tc), .ref z5, .int ba, .int br])), (z1, .inl (cZ, 576, .inl (bA (pP P ib (24 * y1 + x1) j)))), (z2, .inl (cZ, 576, .inl (bA N))), (z3, .inl (cI, 4, .inl (e4 ze le ue re de))), (z4, .inl (cI, 16, .inl TM)), (z5, .inl (cI, 104, .inl LN))] → va_S A s.heap H locs → ∀ ls : Array Slot, lv_has ls 7 [(0, .ref z0), (1, .int (nI x1)), (2, .int (nI y1)), (3, .int (nI n1)), (4, .int (b2i ib)), (5, .int (putC P ib (24 * y1 + x1) j)), (6, .int (nI (x1 + j)))] → W p l e rmX6_putV s m args below meth c H locs 0 0 Q (F0 m 38 ls []) := by
    intro n38
    induction n38 with
    | zero => intro j hn; exact absurd hn (by omega)
    | succ n38 ih38 =>
      intro j hn38 hj1 hj2 H locs hP hD hS ls hl
      refine lv_iload hx hb dX6_put_38 (lv_at hl 6 rfl) ?_
      refine lv_aload_n hx hb dX6_put_40 rfl (lv_at hl 0 rfl) ?_
      refine va_get (D := G) (ci := 5) (v := .int (nI w)) (C := RX6) (T := TX6) (N := 14) hx hb hts in_kX6_putV_X6 hown hK hP 0 rfl rfl 1 (by decide) (hts _ fl_kX6_putV_26) (fun _ h9 => h9) rfl dX6_put_41 ?_
      refine kGe (by omega) (by omega) (tgt := 102) hx hb dX6_put_44 (by decide) (fun c_44 => ?_) (fun c_44 => ?_)
      · have e9 : (min (w - x1) n1) = j := by omega
        subst e9
        refine lv_iload hx hb dX6_put_102 (lv_at hl 5 rfl) ?_
        refine lv_if_le (tgt := 111) hx hb dX6_put_104 (by decide) (fun c_104 => ?_) (fun c_104 => ?_)
        · refine lv_iload hx hb dX6_put_111 (lv_at hl 5 rfl) ?_
          exact hend _ _ _ _ _ _ dX6_put_113 hP hD hS rfl (by first | (simp only [pkI, pkB, putG, Bool.false_eq_true, c_7, c_16, c_27, c_44, c_104, ↓reduceIte]; done) | (simp [pkI, pkB, putG, Bool.false_eq_true, c_7, c_16, c_27, c_44, c_104]; done) | rfl)
        · refine lv_aload_n hx hb dX6_put_107 rfl (lv_at hl 0 rfl) ?_
          refine kVv (w' := [(z0, .inr (5, [.int 0, .int (nI w), .int (nI h), .ref z1, .ref z2, .ref z3, .int (b2i false), .int (b2i ms), .double mn, .ref z4, .int (nI tc), .ref z5, .int ba, .int br])), (z1, .inl (cZ, 576, .inl (bA ((pP P ib (24 * y1 + x1) (min (w - x1) n1)))))), (z2, .inl (cZ, 576, .inl (bA N))), (z3, .inl (cI, 4, .inl (e4 ze 0 0 (nI w) (nI h)))), (z4, .inl (cI, 16, .inl TM)), (z5, .inl (cI, 104, .inl LN))]) (wr := []) (isC := [0, 1, 2, 3, 4, 5]) (isR := []) (pm := [0, 1, 2, 3, 4, 5]) (rest := []) (kX6_whole l G cI cZ cJ cD z0 z1 z2 z3 z4 z5 w h hw hh 0 ((pP P ib (24 * y1 + x1) (min (w - x1) n1))) N ze le ue re de mk ms mn tc TM LN ba br ) ⟨hx, hb, hml, hown, hts⟩ (cwV 0 hts gX6_put_X6_whole rfl rfl rfl hd_X6_whole ⟨Nat.le_of_ble_eq_true rfl, Nat.le_of_ble_eq_true rfl⟩) hK hP hD hS hA ⟨rfl, rfl, rfl, by decide, rfl, rfl, rfl⟩ 5 0 rfl rfl rfl hl.1 rfl (Nat.le_of_ble_eq_true rfl) dX6_put_108 ⟨Nat.le_of_ble_eq_true rfl, Nat.le_of_ble_eq_true rfl⟩ rfl rfl (fun H locs hP hD hS => ?_)
          refine lv_iload hx hb dX6_put_111 (lv_at hl 5 rfl) ?_
          exact hend _ _ _ _ _ _ dX6_put_113 hP hD hS rfl (by first | (simp only [pkI, pkB, putG, Bool.false_eq_true, c_7, c_16, c_27, c_44, c_104, ↓reduceIte]; done) | (simp [pkI, pkB, putG, Bool.false_eq_true, c_7, c_16, c_27, c_44, c_104]; done) | rfl)
      · refine lv_iload hx hb dX6_put_47 (lv_at hl 6 rfl) ?_
        refine lv_iload_n hx hb dX6_put_49 rfl (lv_at hl 1 rfl) ?_
        refine lv_isub hx hb dX6_put_50 ?_
        refine kTopI (z := nI ((x1 + j) - x1)) (pk_sub (a := (x1 + j)) (b := x1) (by omega)) ?_
        refine lv_iload_n hx hb dX6_put_51 rfl (lv_at hl 3 rfl) ?_
        refine kGe (by omega) (by omega) (tgt := 102) hx hb dX6_put_52 (by decide) (fun c_52 => ?_) (fun c_52 => ?_)
        · have e9 : (min (w - x1) n1) = j := by omega
          subst e9
          refine lv_iload hx hb dX6_put_102 (lv_at hl 5 rfl) ?_
          refine lv_if_le (tgt := 111) hx hb dX6_put_104 (by decide) (fun c_104 => ?_) (fun c_104 => ?_)
          · refine lv_iload hx hb dX6_put_111 (lv_at hl 5 rfl) ?_
            exact hend _ _ _ _ _ _ dX6_put_113 hP hD hS rfl (by first | (simp only [pkI, pkB, putG, Bool.false_eq_true, c_7, c_16, c_27, c_44, c_52, c_104, ↓reduceIte]; done) | (simp [pkI, pkB, putG, Bool.false_eq_true, c_7, c_16, c_27, c_44, c_52, c_104]; done) | rfl)
          · refine lv_aload_n hx hb dX6_put_107 rfl (lv_at hl 0 rfl) ?_
            refine kVv (w' := [(z0, .inr (5, [.int 0, .int (nI w), .int (nI h), .ref z1, .ref z2, .ref z3, .int (b2i false), .int (b2i ms), .double mn, .ref z4, .int (nI tc), .ref z5, .int ba, .int br])), (z1, .inl (cZ, 576, .inl (bA ((pP P ib (24 * y1 + x1) (min (w - x1) n1)))))), (z2, .inl (cZ, 576, .inl (bA N))), (z3, .inl (cI, 4, .inl (e4 ze 0 0 (nI w) (nI h)))), (z4, .inl (cI, 16, .inl TM)), (z5, .inl (cI, 104, .inl LN))]) (wr := []) (isC := [0, 1, 2, 3, 4, 5]) (isR := []) (pm := [0, 1, 2, 3, 4, 5]) (rest := []) (kX6_whole l G cI cZ cJ cD z0 z1 z2 z3 z4 z5 w h hw hh 0 ((pP P ib (24 * y1 + x1) (min (w - x1) n1))) N ze le ue re de mk ms mn tc TM LN ba br ) ⟨hx, hb, hml, hown, hts⟩ (cwV 0 hts gX6_put_X6_whole rfl rfl rfl hd_X6_whole ⟨Nat.le_of_ble_eq_true rfl, Nat.le_of_ble_eq_true rfl⟩) hK hP hD hS hA ⟨rfl, rfl, rfl, by decide, rfl, rfl, rfl⟩ 5 0 rfl rfl rfl hl.1 rfl (Nat.le_of_ble_eq_true rfl) dX6_put_108 ⟨Nat.le_of_ble_eq_true rfl, Nat.le_of_ble_eq_true rfl⟩ rfl rfl (fun H locs hP hD hS => ?_)
            refine lv_iload hx hb dX6_put_111 (lv_at hl 5 rfl) ?_
            exact hend _ _ _ _ _ _ dX6_put_113 hP hD hS rfl (by first | (simp only [pkI, pkB, putG, Bool.false_eq_true, c_7, c_16, c_27, c_44, c_52, c_104, ↓reduceIte]; done) | (simp [pkI, pkB, putG, Bool.false_eq_true, c_7, c_16, c_27, c_44, c_52, c_104]; done) | rfl)
        · refine lv_iload hx hb dX6_put_55 (lv_at hl 5 rfl) ?_
          refine lv_aload_n hx hb dX6_put_57 rfl (lv_at hl 0 rfl) ?_
          refine va_get (D := G) (ci := 5) (v := .ref z1) (C := RX6) (T := TX6) (N := 14) hx hb hts in_kX6_putV_X6 hown hK hP 0 rfl rfl 3 (by decide) (hts _ fl_kX6_putV_7) (fun _ h9 => h9) rfl dX6_put_58 ?_
          refine lv_bipush (v := 24) hx hb dX6_put_61 (by decide) ?_
          refine lv_iload_n hx hb dX6_put_63 rfl (lv_at hl 2 rfl) ?_
          refine lv_imul hx hb dX6_put_64 ?_
          refine kTopI (z := nI (24 * y1)) (pk_mul 24 y1) ?_
          refine lv_iload hx hb dX6_put_65 (lv_at hl 6 rfl) ?_
          refine lv_iadd hx hb dX6_put_67 ?_
          refine kTopI (z := nI ((24 * y1) + (x1 + j))) (nI_add ((24 * y1)) ((x1 + j))) ?_
          refine va_zald hx hb hK hP 1 1 rfl rfl (vp_in_nI (by omega) (by omega)) dX6_put_68 ?_
          rw [nI_clamp (n := ((24 * y1) + (x1 + j))) (by omega)]
          refine kTopI (z := b2i ((pP P ib (24 * y1 + x1) j) (((24 * y1) + (x1 + j))))) rfl ?_
          refine kTopI (z := b2i (P ((24 * y1 + x1) + j))) (by rw [show 24 * y1 + (x1 + j) = 24 * y1 + x1 + j by omega, pP_at]) ?_
          refine lv_iload hx hb dX6_put_69 (lv_at hl 4 rfl) ?_
          refine lv_icmp_eq (tgt := 78) hx hb dX6_put_71 (by decide) (fun c_71 => ?_) (fun c_71 => ?_)
          · refine lv_iconst (v := 0) hx hb dX6_put_78 (by decide) ?_
            refine kTopI (z := b2i (dfB P ib ((24 * y1 + x1) + j))) (by simp only [dfB, c_71, ↓reduceIte]; rfl) ?_
            refine lv_iadd hx hb dX6_put_79 ?_
            refine lv_istore (lv' := [(5, .int ((putC P ib (24 * y1 + x1) j) + (b2i (dfB P ib ((24 * y1 + x1) + j))))), (0, .ref z0), (1, .int (nI x1)), (2, .int (nI y1)), (3, .int (nI n1)), (4, .int (b2i ib)), (6, .int (nI (x1 + j)))]) hx hb dX6_put_80 hl (by decide) rfl (fun ls hl => ?_)
            refine lv_aload_n hx hb dX6_put_82 rfl (lv_at hl 1 rfl) ?_
            refine va_get (D := G) (ci := 5) (v := .ref z1) (C := RX6) (T := TX6) (N := 14) hx hb hts in_kX6_putV_X6 hown hK hP 0 rfl rfl 3 (by decide) (hts _ fl_kX6_putV_7) (fun _ h9 => h9) rfl dX6_put_83 ?_
            refine lv_bipush (v := 24) hx hb dX6_put_86 (by decide) ?_
            refine lv_iload_n hx hb dX6_put_88 rfl (lv_at hl 3 rfl) ?_
            refine lv_imul hx hb dX6_put_89 ?_
            refine kTopI (z := nI (24 * y1)) (pk_mul 24 y1) ?_
            refine lv_iload hx hb dX6_put_90 (lv_at hl 6 rfl) ?_
            refine lv_iadd hx hb dX6_put_92 ?_
            refine kTopI (z := nI ((24 * y1) + (x1 + j))) (nI_add ((24 * y1)) ((x1 + j))) ?_
            refine lv_iload hx hb dX6_put_93 (lv_at hl 5 rfl) ?_
            refine va_zast hx hb hK hP hD hS 1 1 rfl rfl (vp_in_nI (by omega) (by omega)) dX6_put_95 (fun H locs (hP : va_P G vwCl [(z0, .inr (5, [.int 0, .int (nI w), .int (nI h), .ref z1, .ref z2, .ref z3, .int (b2i mk), .int (b2i ms), .double mn, .ref z4, .int (nI tc), .ref z5, .int ba, .int br])), (z1, .inl (cZ, 576, .inl (upd (bA (pP P ib (24 * y1 + x1) j)) (nI ((24 * y1) + (x1 + j))).toNatClampNeg (vp_nar .boolean (b2i ib))))), (z2, .inl (cZ, 576, .inl (bA N))), (z3, .inl (cI, 4, .inl (e4 ze le ue re de))), (z4, .inl (cI, 16, .inl TM)), (z5, .inl (cI, 104, .inl LN))] H) (hD : va_D A [(z0, .inr (5, [.int 0, .int (nI w), .int (nI h), .ref z1, .ref z2, .ref z3, .int (b2i mk), .int (b2i ms), .double mn, .ref z4, .int (nI tc), .ref z5, .int ba, .int br])), (z1, .inl (cZ, 576, .inl (upd (bA (pP P ib (24 * y1 + x1) j)) (nI ((24 * y1) + (x1 + j))).toNatClampNeg (vp_nar .boolean (b2i ib))))), (z2, .inl (cZ, 576, .inl (bA N))), (z3, .inl (cI, 4, .inl (e4 ze le ue re de))), (z4, .inl (cI, 16, .inl TM)), (z5, .inl (cI, 104, .inl LN))]) hS => ?_)
            rw [nI_clamp (n := ((24 * y1) + (x1 + j))) (by omega)] at hP hD
            rw [show upd (bA (pP P ib (24 * y1 + x1) j)) (((24 * y1) + (x1 + j))) (vp_nar .boolean (b2i ib)) = bA (uB (pP P ib (24 * y1 + x1) j) (((24 * y1) + (x1 + j))) ib) from bA_u _ _ ib] at hP hD
            rw [show 24 * y1 + (x1 + j) = 24 * y1 + x1 + j by omega, pP_s] at hP hD
            refine lv_iinc (v := nI ((x1 + j) + 1)) (lv' := [(6, .int (nI ((x1 + j) + 1))), (5, .int ((putC P ib (24 * y1 + x1) j) + (b2i (dfB P ib ((24 * y1 + x1) + j))))), (0, .ref z0), (1, .int (nI x1)), (2, .int (nI y1)), (3, .int (nI n1)), (4, .int (b2i ib))]) hx hb dX6_put_96 hl (k := 6) rfl (nI_1 _) (by decide) rfl (fun ls hl => ?_)
            refine lv_goto (tgt := 38) hx hb dX6_put_99 (by decide) ?_
            exact ih38 (j + 1) (by omega) (by omega) (by omega) _ _ hP hD hS _ (lv_sub hl [2, 3, 4, 5, 6, 1, 0] rfl)
          · refine lv_iconst (v := 1) hx hb dX6_put_74 (by decide) ?_
            refine kTopI (z := b2i (dfB P ib ((24 * y1 + x1) + j))) (by simp only [dfB, c_71, ↓reduceIte]; rfl) ?_
            refine lv_goto (tgt := 79) hx hb dX6_put_75 (by decide) ?_
            refine lv_iadd hx hb dX6_put_79 ?_
            refine lv_istore (lv' := [(5, .int ((putC P ib (24 * y1 + x1) j) + (b2i (dfB P ib ((24 * y1 + x1) + j))))), (0, .ref z0), (1, .int (nI x1)), (2, .int (nI y1)), (3, .int (nI n1)), (4, .int (b2i ib)), (6, .int (nI (x1 + j)))]) hx hb dX6_put_80 hl (by decide) rfl (fun ls hl => ?_)
            refine lv_aload_n hx hb dX6_put_82 rfl (lv_at hl 1 rfl) ?_
            refine va_get (D := G) (ci := 5) (v := .ref z1) (C := RX6) (T := TX6) (N := 14) hx hb hts in_kX6_putV_X6 hown hK hP 0 rfl rfl 3 (by decide) (hts _ fl_kX6_putV_7) (fun _ h9 => h9) rfl dX6_put_83 ?_
            refine lv_bipush (v := 24) hx hb dX6_put_86 (by decide) ?_
            refine lv_iload_n hx hb dX6_put_88 rfl (lv_at hl 3 rfl) ?_
            refine lv_imul hx hb dX6_put_89 ?_
            refine kTopI (z := nI (24 * y1)) (pk_mul 24 y1) ?_
            refine lv_iload hx hb dX6_put_90 (lv_at hl 6 rfl) ?_
            refine lv_iadd hx hb dX6_put_92 ?_
            refine kTopI (z := nI ((24 * y1) + (x1 + j))) (nI_add ((24 * y1)) ((x1 + j))) ?_
            refine lv_iload hx hb dX6_put_93 (lv_at hl 5 rfl) ?_
            refine va_zast hx hb hK hP hD hS 1 1 rfl rfl (vp_in_nI (by omega) (by omega)) dX6_put_95 (fun H locs (hP : va_P G vwCl [(z0, .inr (5, [.int 0, .int (nI w), .int (nI h), .ref z1, .ref z2, .ref z3, .int (b2i mk), .int (b2i ms), .double mn, .ref z4, .int (nI tc), .ref z5, .int ba, .int br])), (z1, .inl (cZ, 576, .inl (upd (bA (pP P ib (24 * y1 + x1) j)) (nI ((24 * y1) + (x1 + j))).toNatClampNeg (vp_nar .boolean (b2i ib))))), (z2, .inl (cZ, 576, .inl (bA N))), (z3, .inl (cI, 4, .inl (e4 ze le ue re de))), (z4, .inl (cI, 16, .inl TM)), (z5, .inl (cI, 104, .inl LN))] H) (hD : va_D A [(z0, .inr (5, [.int 0, .int (nI w), .int (nI h), .ref z1, .ref z2, .ref z3, .int (b2i mk), .int (b2i ms), .double mn, .ref z4, .int (nI tc), .ref z5, .int ba, .int br])), (z1, .inl (cZ, 576, .inl (upd (bA (pP P ib (24 * y1 + x1) j)) (nI ((24 * y1) + (x1 + j))).toNatClampNeg (vp_nar .boolean (b2i ib))))), (z2, .inl (cZ, 576, .inl (bA N))), (z3, .inl (cI, 4, .inl (e4 ze le ue re de))), (z4, .inl (cI, 16, .inl TM)), (z5, .inl (cI, 104, .inl LN))]) hS => ?_)
            rw [nI_clamp (n := ((24 * y1) + (x1 + j))) (by omega)] at hP hD
            rw [show upd (bA (pP P ib (24 * y1 + x1) j)) (((24 * y1) + (x1 + j))) (vp_nar .boolean (b2i ib)) = bA (uB (pP P ib (24 * y1 + x1) j) (((24 * y1) + (x1 + j))) ib) from bA_u _ _ ib] at hP hD
            rw [show 24 * y1 + (x1 + j) = 24 * y1 + x1 + j by omega, pP_s] at hP hD
            refine lv_iinc (v := nI ((x1 + j) + 1)) (lv' := [(6, .int (nI ((x1 + j) + 1))), (5, .int ((putC P ib (24 * y1 + x1) j) + (b2i (dfB P ib ((24 * y1 + x1) + j))))), (0, .ref z0), (1, .int (nI x1)), (2, .int (nI y1)), (3, .int (nI n1)), (4, .int (b2i ib))]) hx hb dX6_put_96 hl (k := 6) rfl (nI_1 _) (by decide) rfl (fun ls hl => ?_)
            refine lv_goto (tgt := 38) hx hb dX6_put_99 (by decide) ?_
            exact ih38 (j + 1) (by omega) (by omega) (by omega) _ _ hP hD hS _ (lv_sub hl [2, 3, 4, 5, 6, 1, 0] rfl)
  exact K38 (w - (x1 + 0) + 1) 0 (by omega) (by omega) (by omega) _ _ (by rw [pP_0]; exact hP) (by rw [pP_0]; exact hD) hS _ (lv_sub hl [2, 3, 4, 5, 6, 1, 0] rfl)
abbrev rmX6_sum1 : Room := { frames := 1, cells := 0, slots := 0, locals := 21 }
set_option maxRecDepth 100000 in
set_option maxHeartbeats 4000000 in
theorem kX6_sum1 (l : Launch) (G : va_G) (cI cZ cJ cD : ClassId) (z0 z1 z2 z3 z4 z5 w h : Nat) (hw : w ≤ 24) (hh : h ≤ 24) (cd : Int32) (P N : Nat → Bool) (ze : Nat → Int32) (le ue re de : Int32) (mk ms : Bool) (mn : UInt64) (tc : Nat) (TM LN : Nat → Int32) (ba br : Int32) (a : Int32) (hbad : a < -2000) : Cd l G (kTy cI cZ cJ cD) yX6_sum wsX6_sum rmX6_sum1 [.ref z0, .int a] [(z0, .inr (5, [.int cd, .int (nI w), .int (nI h), .ref z1, .ref z2, .ref z3, .int (b2i mk), .int (b2i ms), .double mn, .ref z4, .int (nI tc), .ref z5, .int ba, .int br])), (z1, .inl (cZ, 576, .inl (bA P))), (z2, .inl (cZ, 576, .inl (bA N))), (z3, .inl (cI, 4, .inl (e4 ze le ue re de))), (z4, .inl (cI, 16, .inl TM)), (z5, .inl (cI, 104, .inl LN))] FP.dconst0 [(z0, .inr (5, [.int 1, .int (nI w), .int (nI h), .ref z1, .ref z2, .ref z3, .int (b2i mk), .int (b2i ms), .double mn, .ref z4, .int (nI tc), .ref z5, .int ba, .int br])), (z1, .inl (cZ, 576, .inl (bA P))), (z2, .inl (cZ, 576, .inl (bA N))), (z3, .inl (cI, 4, .inl (e4 ze le ue re de))), (z4, .inl (cI, 16, .inl TM)), (z5, .inl (cI, 104, .inl LN))] := by
  refine Cd.of rfl rfl (cc := cX6_sum) (maxL := 2) (plainFor_of_name (by decide)) rfl (Nat.le_of_ble_eq_true rfl) rfl ?_
  intro p e s m args below meth c A Q hx hb hml hts hown hA hK hP hD hS hend ls hl
  refine lv_aload_n hx hb dX6_sum_0 rfl (lv_at hl 0 rfl) ?_
  refine lv_iload_n hx hb dX6_sum_1 rfl (lv_at hl 1 rfl) ?_
  refine lv_sipush (v := (-2000)) hx hb dX6_sum_2 (by decide) ?_
  refine lv_icmp_lt (tgt := 15) hx hb dX6_sum_5 (by decide) (fun c_5 => ?_) (fun h9 => absurd hbad h9)
  refine lv_iconst (v := 1) hx hb dX6_sum_15 (by decide) ?_
  refine lv_goto (tgt := 20) hx hb dX6_sum_16 (by decide) ?_
  refine kVi (w' := [(z0, .inr (5, [.int 1, .int (nI w), .int (nI h), .ref z1, .ref z2, .ref z3, .int (b2i mk), .int (b2i ms), .double mn, .ref z4, .int (nI tc), .ref z5, .int ba, .int br])), (z1, .inl (cZ, 576, .inl (bA P))), (z2, .inl (cZ, 576, .inl (bA N))), (z3, .inl (cI, 4, .inl (e4 ze le ue re de))), (z4, .inl (cI, 16, .inl TM)), (z5, .inl (cI, 104, .inl LN))]) (wr := []) (isC := [0, 1, 2, 3, 4, 5]) (isR := []) (pm := [0, 1, 2, 3, 4, 5]) (rest := []) (kX6_refuses l G cI cZ cJ cD z0 z1 z2 z3 z4 z5 w h hw hh cd P N ze le ue re de mk ms mn tc TM LN ba br 1) ⟨hx, hb, hml, hown, hts⟩ (cwV 1 hts gX6_sum_X6_refuses rfl rfl rfl hd_X6_refuses ⟨Nat.le_of_ble_eq_true rfl, Nat.le_of_ble_eq_true rfl⟩) hK hP hD hS hA ⟨rfl, rfl, rfl, by decide, rfl, rfl, rfl⟩ 5 0 rfl rfl rfl hl.1 rfl (Nat.le_of_ble_eq_true rfl) dX6_sum_20 ⟨Nat.le_of_ble_eq_true rfl, Nat.le_of_ble_eq_true rfl⟩ rfl rfl (fun H locs hP hD hS => ?_)
  refine kIfEqB (tgt := 30) hx hb dX6_sum_23 (by decide) (fun h9 => (absurd h9 (by decide))) (fun c_23 => ?_)
  refine lv_dconst0 hx hb dX6_sum_26 ?_
  refine lv_goto (tgt := 35) hx hb dX6_sum_27 (by decide) ?_
  exact hend _ _ _ _ _ _ dX6_sum_35 hP hD hS rfl rfl
abbrev rmX6_sum2 : Room := { frames := 1, cells := 0, slots := 0, locals := 21 }
set_option maxRecDepth 100000 in
set_option maxHeartbeats 4000000 in
theorem kX6_sum2 (l : Launch) (G : va_G) (cI cZ cJ cD : ClassId) (z0 z1 z2 z3 z4 z5 w h : Nat) (hw : w ≤ 24) (hh : h ≤ 24) (cd : Int32) (P N : Nat → Bool) (ze : Nat → Int32) (le ue re de : Int32) (mk ms : Bool) (mn : UInt64) (tc : Nat) (TM LN : Nat → Int32) (ba br : Int32) (a : Int32) (hbad : ¬ a < -2000) (hb2 : ¬ a ≤ 2000) : Cd l G (kTy cI cZ cJ cD) yX6_sum wsX6_sum rmX6_sum2 [.ref z0, .int a] [(z0, .inr (5, [.int cd, .int (nI w), .int (nI h), .ref z1, .ref z2, .ref z3, .int (b2i mk), .int (b2i ms), .double mn, .ref z4, .int (nI tc), .ref z5, .int ba, .int br])), (z1, .inl (cZ, 576, .inl (bA P))), (z2, .inl (cZ, 576, .inl (bA N))), (z3, .inl (cI, 4, .inl (e4 ze le ue re de))), (z4, .inl (cI, 16, .inl TM)), (z5, .inl (cI, 104, .inl LN))] FP.dconst0 [(z0, .inr (5, [.int 1, .int (nI w), .int (nI h), .ref z1, .ref z2, .ref z3, .int (b2i mk), .int (b2i ms), .double mn, .ref z4, .int (nI tc), .ref z5, .int ba, .int br])), (z1, .inl (cZ, 576, .inl (bA P))), (z2, .inl (cZ, 576, .inl (bA N))), (z3, .inl (cI, 4, .inl (e4 ze le ue re de))), (z4, .inl (cI, 16, .inl TM)), (z5, .inl (cI, 104, .inl LN))] := by
  refine Cd.of rfl rfl (cc := cX6_sum) (maxL := 2) (plainFor_of_name (by decide)) rfl (Nat.le_of_ble_eq_true rfl) rfl ?_
  intro p e s m args below meth c A Q hx hb hml hts hown hA hK hP hD hS hend ls hl
  refine lv_aload_n hx hb dX6_sum_0 rfl (lv_at hl 0 rfl) ?_
  refine lv_iload_n hx hb dX6_sum_1 rfl (lv_at hl 1 rfl) ?_
  refine lv_sipush (v := (-2000)) hx hb dX6_sum_2 (by decide) ?_
  refine lv_icmp_lt (tgt := 15) hx hb dX6_sum_5 (by decide) (fun h9 => absurd h9 hbad) (fun c_5 => ?_)
  refine lv_iload_n hx hb dX6_sum_8 rfl (lv_at hl 1 rfl) ?_
  refine lv_sipush (v := 2000) hx hb dX6_sum_9 (by decide) ?_
  refine lv_icmp_le (tgt := 19) hx hb dX6_sum_12 (by decide) (fun h9 => absurd h9 hb2) (fun c_12 => ?_)
  refine lv_iconst (v := 1) hx hb dX6_sum_15 (by decide) ?_
  refine lv_goto (tgt := 20) hx hb dX6_sum_16 (by decide) ?_
  refine kVi (w' := [(z0, .inr (5, [.int 1, .int (nI w), .int (nI h), .ref z1, .ref z2, .ref z3, .int (b2i mk), .int (b2i ms), .double mn, .ref z4, .int (nI tc), .ref z5, .int ba, .int br])), (z1, .inl (cZ, 576, .inl (bA P))), (z2, .inl (cZ, 576, .inl (bA N))), (z3, .inl (cI, 4, .inl (e4 ze le ue re de))), (z4, .inl (cI, 16, .inl TM)), (z5, .inl (cI, 104, .inl LN))]) (wr := []) (isC := [0, 1, 2, 3, 4, 5]) (isR := []) (pm := [0, 1, 2, 3, 4, 5]) (rest := []) (kX6_refuses l G cI cZ cJ cD z0 z1 z2 z3 z4 z5 w h hw hh cd P N ze le ue re de mk ms mn tc TM LN ba br 1) ⟨hx, hb, hml, hown, hts⟩ (cwV 1 hts gX6_sum_X6_refuses rfl rfl rfl hd_X6_refuses ⟨Nat.le_of_ble_eq_true rfl, Nat.le_of_ble_eq_true rfl⟩) hK hP hD hS hA ⟨rfl, rfl, rfl, by decide, rfl, rfl, rfl⟩ 5 0 rfl rfl rfl hl.1 rfl (Nat.le_of_ble_eq_true rfl) dX6_sum_20 ⟨Nat.le_of_ble_eq_true rfl, Nat.le_of_ble_eq_true rfl⟩ rfl rfl (fun H locs hP hD hS => ?_)
  refine kIfEqB (tgt := 30) hx hb dX6_sum_23 (by decide) (fun h9 => (absurd h9 (by decide))) (fun c_23 => ?_)
  refine lv_dconst0 hx hb dX6_sum_26 ?_
  refine lv_goto (tgt := 35) hx hb dX6_sum_27 (by decide) ?_
  exact hend _ _ _ _ _ _ dX6_sum_35 hP hD hS rfl rfl
abbrev rmX6_sumV : Room := { frames := 4, cells := 0, slots := 0, locals := 93 }
set_option maxRecDepth 100000 in
set_option maxHeartbeats 4000000 in
theorem kX6_sumV (l : Launch) (G : va_G) (cI cZ cJ cD : ClassId) (z0 z1 z2 z3 z4 z5 w h : Nat) (hw : w ≤ 24) (hh : h ≤ 24) (cd : Int32) (P N : Nat → Bool) (ze : Nat → Int32) (le ue re de : Int32) (mk ms : Bool) (mn : UInt64) (tc : Nat) (TM LN : Nat → Int32) (ba br : Int32) (a : Int32) (hg1 : ¬ a < -2000) (hg2 : a ≤ 2000) : Cd l G (kTy cI cZ cJ cD) yX6_sum wsX6_sum rmX6_sumV [.ref z0, .int a] [(z0, .inr (5, [.int cd, .int (nI w), .int (nI h), .ref z1, .ref z2, .ref z3, .int (b2i mk), .int (b2i ms), .double mn, .ref z4, .int (nI tc), .ref z5, .int ba, .int br])), (z1, .inl (cZ, 576, .inl (bA P))), (z2, .inl (cZ, 576, .inl (bA N))), (z3, .inl (cI, 4, .inl (e4 ze le ue re de))), (z4, .inl (cI, 16, .inl TM)), (z5, .inl (cI, 104, .inl LN))] (mSum w h P a) [(z0, .inr (5, [.int 0, .int (nI w), .int (nI h), .ref z1, .ref z2, .ref z3, .int (b2i mk), .int (b2i ms), .double mn, .ref z4, .int (nI tc), .ref z5, .int ba, .int br])), (z1, .inl (cZ, 576, .inl (bA P))), (z2, .inl (cZ, 576, .inl (bA N))), (z3, .inl (cI, 4, .inl (e4 ze le ue re de))), (z4, .inl (cI, 16, .inl TM)), (z5, .inl (cI, 104, .inl (mLn w h P LN a)))] := by
  refine Cd.of rfl rfl (cc := cX6_sum) (maxL := 2) (plainFor_of_name (by decide)) rfl (Nat.le_of_ble_eq_true rfl) rfl ?_
  intro p e s m args below meth c A Q hx hb hml hts hown hA hK hP hD hS hend ls hl
  have ha1 := ang_lo hg1
  have ha2 := ang_hi hg2
  refine lv_aload_n hx hb dX6_sum_0 rfl (lv_at hl 0 rfl) ?_
  refine lv_iload_n hx hb dX6_sum_1 rfl (lv_at hl 1 rfl) ?_
  refine lv_sipush (v := (-2000)) hx hb dX6_sum_2 (by decide) ?_
  refine lv_icmp_lt (tgt := 15) hx hb dX6_sum_5 (by decide) (fun h9 => absurd h9 hg1) (fun c_5 => ?_)
  refine lv_iload_n hx hb dX6_sum_8 rfl (lv_at hl 1 rfl) ?_
  refine lv_sipush (v := 2000) hx hb dX6_sum_9 (by decide) ?_
  refine lv_icmp_le (tgt := 19) hx hb dX6_sum_12 (by decide) (fun c_12 => ?_) (fun h9 => absurd hg2 h9)
  refine lv_iconst (v := 0) hx hb dX6_sum_19 (by decide) ?_
  refine kVi (w' := [(z0, .inr (5, [.int 0, .int (nI w), .int (nI h), .ref z1, .ref z2, .ref z3, .int (b2i mk), .int (b2i ms), .double mn, .ref z4, .int (nI tc), .ref z5, .int ba, .int br])), (z1, .inl (cZ, 576, .inl (bA P))), (z2, .inl (cZ, 576, .inl (bA N))), (z3, .inl (cI, 4, .inl (e4 ze le ue re de))), (z4, .inl (cI, 16, .inl TM)), (z5, .inl (cI, 104, .inl LN))]) (wr := []) (isC := [0, 1, 2, 3, 4, 5]) (isR := []) (pm := [0, 1, 2, 3, 4, 5]) (rest := []) (kX6_refuses l G cI cZ cJ cD z0 z1 z2 z3 z4 z5 w h hw hh cd P N ze le ue re de mk ms mn tc TM LN ba br 0) ⟨hx, hb, hml, hown, hts⟩ (cwV 1 hts gX6_sum_X6_refuses rfl rfl rfl hd_X6_refuses ⟨Nat.le_of_ble_eq_true rfl, Nat.le_of_ble_eq_true rfl⟩) hK hP hD hS hA ⟨rfl, rfl, rfl, by decide, rfl, rfl, rfl⟩ 5 0 rfl rfl rfl hl.1 rfl (Nat.le_of_ble_eq_true rfl) dX6_sum_20 ⟨Nat.le_of_ble_eq_true rfl, Nat.le_of_ble_eq_true rfl⟩ rfl rfl (fun H locs hP hD hS => ?_)
  refine kIfEqB (tgt := 30) hx hb dX6_sum_23 (by decide) (fun c_23 => ?_) (fun h9 => (absurd h9 (by decide)))
  refine lv_aload_n hx hb dX6_sum_30 rfl (lv_at hl 0 rfl) ?_
  refine lv_iload_n hx hb dX6_sum_31 rfl (lv_at hl 1 rfl) ?_
  refine kVd (w' := [(z0, .inr (5, [.int 0, .int (nI w), .int (nI h), .ref z1, .ref z2, .ref z3, .int (b2i mk), .int (b2i ms), .double mn, .ref z4, .int (nI tc), .ref z5, .int ba, .int br])), (z1, .inl (cZ, 576, .inl (bA P))), (z2, .inl (cZ, 576, .inl (bA N))), (z3, .inl (cI, 4, .inl (e4 ze le ue re de))), (z4, .inl (cI, 16, .inl TM)), (z5, .inl (cI, 104, .inl (mLn w h P LN a)))]) (wr := []) (isC := [0, 1, 2, 3, 4, 5]) (isR := []) (pm := [0, 1, 2, 3, 4, 5]) (rest := []) (kX6_sumOf l G cI cZ cJ cD z0 z1 z2 z3 z4 z5 w h hw hh 0 P N ze le ue re de mk ms mn tc TM LN ba br a ha1 ha2) ⟨hx, hb, hml, hown, hts⟩ (cwV 1 hts gX6_sum_X6_sumOf rfl rfl rfl hd_X6_sumOf ⟨Nat.le_of_ble_eq_true rfl, Nat.le_of_ble_eq_true rfl⟩) hK hP hD hS hA ⟨rfl, rfl, rfl, by decide, rfl, rfl, rfl⟩ 5 0 rfl rfl rfl hl.1 rfl (Nat.le_of_ble_eq_true rfl) dX6_sum_32 ⟨Nat.le_of_ble_eq_true rfl, Nat.le_of_ble_eq_true rfl⟩ rfl rfl (fun H locs hP hD hS => ?_)
  have b1 : fIv (-140737488355328) (140737488355328) (mSum w h P a) := fMSum _ _ _ _
  exact hend _ _ _ _ _ _ dX6_sum_35 hP hD hS rfl rfl
theorem in_kX6_sureV_X6 : ∀ w ∈ u_ws RX6 TX6 14, w ∈ wsX6_sure := by decide +kernel
theorem fl_kX6_sureV_39 : Cond.fieldLink RX6 39 "SkewFindModel" "isAsked" "Z" ∈ wsX6_sure := by decide +kernel
theorem fl_kX6_sureV_100 : Cond.fieldLink RX6 100 "SkewFindModel" "isSure" "Z" ∈ wsX6_sure := by decide +kernel
abbrev rmX6_sureV : Room := { frames := 1, cells := 0, slots := 0, locals := 21 }
set_option maxRecDepth 100000 in
set_option maxHeartbeats 4000000 in
theorem kX6_sureV (l : Launch) (G : va_G) (cI cZ cJ cD : ClassId) (z0 z1 z2 z3 z4 z5 w h : Nat) (hw : w ≤ 24) (hh : h ≤ 24) (cd : Int32) (P N : Nat → Bool) (ze : Nat → Int32) (le ue re de : Int32) (ms : Bool) (mn : UInt64) (tc : Nat) (TM LN : Nat → Int32) (ba br : Int32)  : Ci l G (kTy cI cZ cJ cD) yX6_sure wsX6_sure rmX6_sureV [.ref z0] [(z0, .inr (5, [.int cd, .int (nI w), .int (nI h), .ref z1, .ref z2, .ref z3, .int (b2i true), .int (b2i ms), .double mn, .ref z4, .int (nI tc), .ref z5, .int ba, .int br])), (z1, .inl (cZ, 576, .inl (bA P))), (z2, .inl (cZ, 576, .inl (bA N))), (z3, .inl (cI, 4, .inl (e4 ze le ue re de))), (z4, .inl (cI, 16, .inl TM)), (z5, .inl (cI, 104, .inl LN))] (b2i ms) [(z0, .inr (5, [.int 0, .int (nI w), .int (nI h), .ref z1, .ref z2, .ref z3, .int (b2i true), .int (b2i ms), .double mn, .ref z4, .int (nI tc), .ref z5, .int ba, .int br])), (z1, .inl (cZ, 576, .inl (bA P))), (z2, .inl (cZ, 576, .inl (bA N))), (z3, .inl (cI, 4, .inl (e4 ze le ue re de))), (z4, .inl (cI, 16, .inl TM)), (z5, .inl (cI, 104, .inl LN))] := by
  refine Ci.of .boolean (nar_b2i _) rfl rfl (cc := cX6_sure) (maxL := 1) (plainFor_of_name (by decide)) rfl (Nat.le_of_ble_eq_true rfl) rfl ?_
  intro p e s m args below meth c A Q hx hb hml hts hown hA hK hP hD hS hend ls hl
  refine lv_aload_n hx hb dX6_sure_0 rfl (lv_at hl 0 rfl) ?_
  refine lv_aload_n hx hb dX6_sure_1 rfl (lv_at hl 0 rfl) ?_
  refine va_get (D := G) (ci := 5) (v := .int (b2i true)) (C := RX6) (T := TX6) (N := 14) hx hb hts in_kX6_sureV_X6 hown hK hP 0 rfl rfl 6 (by decide) (hts _ fl_kX6_sureV_39) (fun _ h9 => h9) rfl dX6_sure_2 ?_
  refine kIfEqB (tgt := 12) hx hb dX6_sure_5 (by decide) (fun h9 => (absurd h9 (by decide))) (fun c_5 => ?_)
  refine lv_iconst (v := 0) hx hb dX6_sure_8 (by decide) ?_
  refine lv_goto (tgt := 13) hx hb dX6_sure_9 (by decide) ?_
  refine kVi (w' := [(z0, .inr (5, [.int 0, .int (nI w), .int (nI h), .ref z1, .ref z2, .ref z3, .int (b2i true), .int (b2i ms), .double mn, .ref z4, .int (nI tc), .ref z5, .int ba, .int br])), (z1, .inl (cZ, 576, .inl (bA P))), (z2, .inl (cZ, 576, .inl (bA N))), (z3, .inl (cI, 4, .inl (e4 ze le ue re de))), (z4, .inl (cI, 16, .inl TM)), (z5, .inl (cI, 104, .inl LN))]) (wr := []) (isC := [0, 1, 2, 3, 4, 5]) (isR := []) (pm := [0, 1, 2, 3, 4, 5]) (rest := []) (kX6_refuses l G cI cZ cJ cD z0 z1 z2 z3 z4 z5 w h hw hh cd P N ze le ue re de true ms mn tc TM LN ba br 0) ⟨hx, hb, hml, hown, hts⟩ (cwV 1 hts gX6_sure_X6_refuses rfl rfl rfl hd_X6_refuses ⟨Nat.le_of_ble_eq_true rfl, Nat.le_of_ble_eq_true rfl⟩) hK hP hD hS hA ⟨rfl, rfl, rfl, by decide, rfl, rfl, rfl⟩ 5 0 rfl rfl rfl hl.1 rfl (Nat.le_of_ble_eq_true rfl) dX6_sure_13 ⟨Nat.le_of_ble_eq_true rfl, Nat.le_of_ble_eq_true rfl⟩ rfl rfl (fun H locs hP hD hS => ?_)
  refine kIfNeB (tgt := 30) hx hb dX6_sure_16 (by decide) (fun h9 => (absurd h9 (by decide))) (fun c_16 => ?_)
  refine lv_aload_n hx hb dX6_sure_19 rfl (lv_at hl 0 rfl) ?_
  refine va_get (D := G) (ci := 5) (v := .int (b2i ms)) (C := RX6) (T := TX6) (N := 14) hx hb hts in_kX6_sureV_X6 hown hK hP 0 rfl rfl 7 (by decide) (hts _ fl_kX6_sureV_100) (fun _ h9 => h9) rfl dX6_sure_20 ?_
  refine kIfEqB (tgt := 30) hx hb dX6_sure_23 (by decide) (fun c_23 => ?_) (fun c_23 => ?_)
  · refine lv_iconst (v := 0) hx hb dX6_sure_30 (by decide) ?_
    exact hend _ _ _ _ _ _ dX6_sure_31 hP hD hS (by rw [c_23]; rfl) rfl
  · refine lv_iconst (v := 1) hx hb dX6_sure_26 (by decide) ?_
    refine lv_goto (tgt := 31) hx hb dX6_sure_27 (by decide) ?_
    exact hend _ _ _ _ _ _ dX6_sure_31 hP hD hS (by rw [c_23]; rfl) rfl
theorem in_kX6_sureX_X6 : ∀ w ∈ u_ws RX6 TX6 14, w ∈ wsX6_sure := by decide +kernel
theorem fl_kX6_sureX_39 : Cond.fieldLink RX6 39 "SkewFindModel" "isAsked" "Z" ∈ wsX6_sure := by decide +kernel
abbrev rmX6_sureX : Room := { frames := 1, cells := 0, slots := 0, locals := 21 }
set_option maxRecDepth 100000 in
set_option maxHeartbeats 4000000 in
theorem kX6_sureX (l : Launch) (G : va_G) (cI cZ cJ cD : ClassId) (z0 z1 z2 z3 z4 z5 w h : Nat) (hw : w ≤ 24) (hh : h ≤ 24) (cd : Int32) (P N : Nat → Bool) (ze : Nat → Int32) (le ue re de : Int32) (ms : Bool) (mn : UInt64) (tc : Nat) (TM LN : Nat → Int32) (ba br : Int32)  : Ci l G (kTy cI cZ cJ cD) yX6_sure wsX6_sure rmX6_sureX [.ref z0] [(z0, .inr (5, [.int cd, .int (nI w), .int (nI h), .ref z1, .ref z2, .ref z3, .int (b2i false), .int (b2i ms), .double mn, .ref z4, .int (nI tc), .ref z5, .int ba, .int br])), (z1, .inl (cZ, 576, .inl (bA P))), (z2, .inl (cZ, 576, .inl (bA N))), (z3, .inl (cI, 4, .inl (e4 ze le ue re de))), (z4, .inl (cI, 16, .inl TM)), (z5, .inl (cI, 104, .inl LN))] (b2i false) [(z0, .inr (5, [.int 1, .int (nI w), .int (nI h), .ref z1, .ref z2, .ref z3, .int (b2i false), .int (b2i ms), .double mn, .ref z4, .int (nI tc), .ref z5, .int ba, .int br])), (z1, .inl (cZ, 576, .inl (bA P))), (z2, .inl (cZ, 576, .inl (bA N))), (z3, .inl (cI, 4, .inl (e4 ze le ue re de))), (z4, .inl (cI, 16, .inl TM)), (z5, .inl (cI, 104, .inl LN))] := by
  refine Ci.of .boolean (nar_b2i _) rfl rfl (cc := cX6_sure) (maxL := 1) (plainFor_of_name (by decide)) rfl (Nat.le_of_ble_eq_true rfl) rfl ?_
  intro p e s m args below meth c A Q hx hb hml hts hown hA hK hP hD hS hend ls hl
  refine lv_aload_n hx hb dX6_sure_0 rfl (lv_at hl 0 rfl) ?_
  refine lv_aload_n hx hb dX6_sure_1 rfl (lv_at hl 0 rfl) ?_
  refine va_get (D := G) (ci := 5) (v := .int (b2i false)) (C := RX6) (T := TX6) (N := 14) hx hb hts in_kX6_sureX_X6 hown hK hP 0 rfl rfl 6 (by decide) (hts _ fl_kX6_sureX_39) (fun _ h9 => h9) rfl dX6_sure_2 ?_
  refine kIfEqB (tgt := 12) hx hb dX6_sure_5 (by decide) (fun c_5 => ?_) (fun h9 => (absurd h9 (by decide)))
  refine lv_iconst (v := 1) hx hb dX6_sure_12 (by decide) ?_
  refine kVi (w' := [(z0, .inr (5, [.int 1, .int (nI w), .int (nI h), .ref z1, .ref z2, .ref z3, .int (b2i false), .int (b2i ms), .double mn, .ref z4, .int (nI tc), .ref z5, .int ba, .int br])), (z1, .inl (cZ, 576, .inl (bA P))), (z2, .inl (cZ, 576, .inl (bA N))), (z3, .inl (cI, 4, .inl (e4 ze le ue re de))), (z4, .inl (cI, 16, .inl TM)), (z5, .inl (cI, 104, .inl LN))]) (wr := []) (isC := [0, 1, 2, 3, 4, 5]) (isR := []) (pm := [0, 1, 2, 3, 4, 5]) (rest := []) (kX6_refuses l G cI cZ cJ cD z0 z1 z2 z3 z4 z5 w h hw hh cd P N ze le ue re de false ms mn tc TM LN ba br 1) ⟨hx, hb, hml, hown, hts⟩ (cwV 1 hts gX6_sure_X6_refuses rfl rfl rfl hd_X6_refuses ⟨Nat.le_of_ble_eq_true rfl, Nat.le_of_ble_eq_true rfl⟩) hK hP hD hS hA ⟨rfl, rfl, rfl, by decide, rfl, rfl, rfl⟩ 5 0 rfl rfl rfl hl.1 rfl (Nat.le_of_ble_eq_true rfl) dX6_sure_13 ⟨Nat.le_of_ble_eq_true rfl, Nat.le_of_ble_eq_true rfl⟩ rfl rfl (fun H locs hP hD hS => ?_)
  refine kIfNeB (tgt := 30) hx hb dX6_sure_16 (by decide) (fun c_16 => ?_) (fun h9 => (absurd h9 (by decide)))
  refine lv_iconst (v := 0) hx hb dX6_sure_30 (by decide) ?_
  exact hend _ _ _ _ _ _ dX6_sure_31 hP hD hS rfl rfl
theorem in_kX6_meanV_X6 : ∀ w ∈ u_ws RX6 TX6 14, w ∈ wsX6_mean := by decide +kernel
theorem fl_kX6_meanV_39 : Cond.fieldLink RX6 39 "SkewFindModel" "isAsked" "Z" ∈ wsX6_mean := by decide +kernel
theorem fl_kX6_meanV_103 : Cond.fieldLink RX6 103 "SkewFindModel" "meanOf" "D" ∈ wsX6_mean := by decide +kernel
abbrev rmX6_meanV : Room := { frames := 1, cells := 0, slots := 0, locals := 21 }
set_option maxRecDepth 100000 in
set_option maxHeartbeats 4000000 in
theorem kX6_meanV (l : Launch) (G : va_G) (cI cZ cJ cD : ClassId) (z0 z1 z2 z3 z4 z5 w h : Nat) (hw : w ≤ 24) (hh : h ≤ 24) (cd : Int32) (P N : Nat → Bool) (ze : Nat → Int32) (le ue re de : Int32) (ms : Bool) (mn : UInt64) (tc : Nat) (TM LN : Nat → Int32) (ba br : Int32)  : Cd l G (kTy cI cZ cJ cD) yX6_mean wsX6_mean rmX6_meanV [.ref z0] [(z0, .inr (5, [.int cd, .int (nI w), .int (nI h), .ref z1, .ref z2, .ref z3, .int (b2i true), .int (b2i ms), .double mn, .ref z4, .int (nI tc), .ref z5, .int ba, .int br])), (z1, .inl (cZ, 576, .inl (bA P))), (z2, .inl (cZ, 576, .inl (bA N))), (z3, .inl (cI, 4, .inl (e4 ze le ue re de))), (z4, .inl (cI, 16, .inl TM)), (z5, .inl (cI, 104, .inl LN))] mn [(z0, .inr (5, [.int 0, .int (nI w), .int (nI h), .ref z1, .ref z2, .ref z3, .int (b2i true), .int (b2i ms), .double mn, .ref z4, .int (nI tc), .ref z5, .int ba, .int br])), (z1, .inl (cZ, 576, .inl (bA P))), (z2, .inl (cZ, 576, .inl (bA N))), (z3, .inl (cI, 4, .inl (e4 ze le ue re de))), (z4, .inl (cI, 16, .inl TM)), (z5, .inl (cI, 104, .inl LN))] := by
  refine Cd.of rfl rfl (cc := cX6_mean) (maxL := 1) (plainFor_of_name (by decide)) rfl (Nat.le_of_ble_eq_true rfl) rfl ?_
  intro p e s m args below meth c A Q hx hb hml hts hown hA hK hP hD hS hend ls hl
  refine lv_aload_n hx hb dX6_mean_0 rfl (lv_at hl 0 rfl) ?_
  refine lv_aload_n hx hb dX6_mean_1 rfl (lv_at hl 0 rfl) ?_
  refine va_get (D := G) (ci := 5) (v := .int (b2i true)) (C := RX6) (T := TX6) (N := 14) hx hb hts in_kX6_meanV_X6 hown hK hP 0 rfl rfl 6 (by decide) (hts _ fl_kX6_meanV_39) (fun _ h9 => h9) rfl dX6_mean_2 ?_
  refine kIfEqB (tgt := 12) hx hb dX6_mean_5 (by decide) (fun h9 => (absurd h9 (by decide))) (fun c_5 => ?_)
  refine lv_iconst (v := 0) hx hb dX6_mean_8 (by decide) ?_
  refine lv_goto (tgt := 13) hx hb dX6_mean_9 (by decide) ?_
  refine kVi (w' := [(z0, .inr (5, [.int 0, .int (nI w), .int (nI h), .ref z1, .ref z2, .ref z3, .int (b2i true), .int (b2i ms), .double mn, .ref z4, .int (nI tc), .ref z5, .int ba, .int br])), (z1, .inl (cZ, 576, .inl (bA P))), (z2, .inl (cZ, 576, .inl (bA N))), (z3, .inl (cI, 4, .inl (e4 ze le ue re de))), (z4, .inl (cI, 16, .inl TM)), (z5, .inl (cI, 104, .inl LN))]) (wr := []) (isC := [0, 1, 2, 3, 4, 5]) (isR := []) (pm := [0, 1, 2, 3, 4, 5]) (rest := []) (kX6_refuses l G cI cZ cJ cD z0 z1 z2 z3 z4 z5 w h hw hh cd P N ze le ue re de true ms mn tc TM LN ba br 0) ⟨hx, hb, hml, hown, hts⟩ (cwV 1 hts gX6_mean_X6_refuses rfl rfl rfl hd_X6_refuses ⟨Nat.le_of_ble_eq_true rfl, Nat.le_of_ble_eq_true rfl⟩) hK hP hD hS hA ⟨rfl, rfl, rfl, by decide, rfl, rfl, rfl⟩ 5 0 rfl rfl rfl hl.1 rfl (Nat.le_of_ble_eq_true rfl) dX6_mean_13 ⟨Nat.le_of_ble_eq_true rfl, Nat.le_of_ble_eq_true rfl⟩ rfl rfl (fun H locs hP hD hS => ?_)
  refine kIfEqB (tgt := 23) hx hb dX6_mean_16 (by decide) (fun c_16 => ?_) (fun h9 => (absurd h9 (by decide)))
  refine lv_aload_n hx hb dX6_mean_23 rfl (lv_at hl 0 rfl) ?_
  refine va_get (D := G) (ci := 5) (v := .double mn) (C := RX6) (T := TX6) (N := 14) hx hb hts in_kX6_meanV_X6 hown hK hP 0 rfl rfl 8 (by decide) (hts _ fl_kX6_meanV_103) (fun _ h9 => h9) rfl dX6_mean_24 ?_
  exact hend _ _ _ _ _ _ dX6_mean_27 hP hD hS rfl rfl
theorem in_kX6_meanX_X6 : ∀ w ∈ u_ws RX6 TX6 14, w ∈ wsX6_mean := by decide +kernel
theorem fl_kX6_meanX_39 : Cond.fieldLink RX6 39 "SkewFindModel" "isAsked" "Z" ∈ wsX6_mean := by decide +kernel
abbrev rmX6_meanX : Room := { frames := 1, cells := 0, slots := 0, locals := 21 }
set_option maxRecDepth 100000 in
set_option maxHeartbeats 4000000 in
theorem kX6_meanX (l : Launch) (G : va_G) (cI cZ cJ cD : ClassId) (z0 z1 z2 z3 z4 z5 w h : Nat) (hw : w ≤ 24) (hh : h ≤ 24) (cd : Int32) (P N : Nat → Bool) (ze : Nat → Int32) (le ue re de : Int32) (ms : Bool) (mn : UInt64) (tc : Nat) (TM LN : Nat → Int32) (ba br : Int32)  : Cd l G (kTy cI cZ cJ cD) yX6_mean wsX6_mean rmX6_meanX [.ref z0] [(z0, .inr (5, [.int cd, .int (nI w), .int (nI h), .ref z1, .ref z2, .ref z3, .int (b2i false), .int (b2i ms), .double mn, .ref z4, .int (nI tc), .ref z5, .int ba, .int br])), (z1, .inl (cZ, 576, .inl (bA P))), (z2, .inl (cZ, 576, .inl (bA N))), (z3, .inl (cI, 4, .inl (e4 ze le ue re de))), (z4, .inl (cI, 16, .inl TM)), (z5, .inl (cI, 104, .inl LN))] FP.dconst0 [(z0, .inr (5, [.int 1, .int (nI w), .int (nI h), .ref z1, .ref z2, .ref z3, .int (b2i false), .int (b2i ms), .double mn, .ref z4, .int (nI tc), .ref z5, .int ba, .int br])), (z1, .inl (cZ, 576, .inl (bA P))), (z2, .inl (cZ, 576, .inl (bA N))), (z3, .inl (cI, 4, .inl (e4 ze le ue re de))), (z4, .inl (cI, 16, .inl TM)), (z5, .inl (cI, 104, .inl LN))] := by
  refine Cd.of rfl rfl (cc := cX6_mean) (maxL := 1) (plainFor_of_name (by decide)) rfl (Nat.le_of_ble_eq_true rfl) rfl ?_
  intro p e s m args below meth c A Q hx hb hml hts hown hA hK hP hD hS hend ls hl
  refine lv_aload_n hx hb dX6_mean_0 rfl (lv_at hl 0 rfl) ?_
  refine lv_aload_n hx hb dX6_mean_1 rfl (lv_at hl 0 rfl) ?_
  refine va_get (D := G) (ci := 5) (v := .int (b2i false)) (C := RX6) (T := TX6) (N := 14) hx hb hts in_kX6_meanX_X6 hown hK hP 0 rfl rfl 6 (by decide) (hts _ fl_kX6_meanX_39) (fun _ h9 => h9) rfl dX6_mean_2 ?_
  refine kIfEqB (tgt := 12) hx hb dX6_mean_5 (by decide) (fun c_5 => ?_) (fun h9 => (absurd h9 (by decide)))
  refine lv_iconst (v := 1) hx hb dX6_mean_12 (by decide) ?_
  refine kVi (w' := [(z0, .inr (5, [.int 1, .int (nI w), .int (nI h), .ref z1, .ref z2, .ref z3, .int (b2i false), .int (b2i ms), .double mn, .ref z4, .int (nI tc), .ref z5, .int ba, .int br])), (z1, .inl (cZ, 576, .inl (bA P))), (z2, .inl (cZ, 576, .inl (bA N))), (z3, .inl (cI, 4, .inl (e4 ze le ue re de))), (z4, .inl (cI, 16, .inl TM)), (z5, .inl (cI, 104, .inl LN))]) (wr := []) (isC := [0, 1, 2, 3, 4, 5]) (isR := []) (pm := [0, 1, 2, 3, 4, 5]) (rest := []) (kX6_refuses l G cI cZ cJ cD z0 z1 z2 z3 z4 z5 w h hw hh cd P N ze le ue re de false ms mn tc TM LN ba br 1) ⟨hx, hb, hml, hown, hts⟩ (cwV 1 hts gX6_mean_X6_refuses rfl rfl rfl hd_X6_refuses ⟨Nat.le_of_ble_eq_true rfl, Nat.le_of_ble_eq_true rfl⟩) hK hP hD hS hA ⟨rfl, rfl, rfl, by decide, rfl, rfl, rfl⟩ 5 0 rfl rfl rfl hl.1 rfl (Nat.le_of_ble_eq_true rfl) dX6_mean_13 ⟨Nat.le_of_ble_eq_true rfl, Nat.le_of_ble_eq_true rfl⟩ rfl rfl (fun H locs hP hD hS => ?_)
  refine kIfEqB (tgt := 23) hx hb dX6_mean_16 (by decide) (fun h9 => (absurd h9 (by decide))) (fun c_16 => ?_)
  refine lv_dconst0 hx hb dX6_mean_19 ?_
  refine lv_goto (tgt := 27) hx hb dX6_mean_20 (by decide) ?_
  exact hend _ _ _ _ _ _ dX6_mean_27 hP hD hS rfl rfl
theorem in_kX6_sizeV_X6 : ∀ w ∈ u_ws RX6 TX6 14, w ∈ wsX6_size := by decide +kernel
theorem fl_kX6_sizeV_16 : Cond.fieldLink RX6 16 "SkewFindModel" "ends" "[I" ∈ wsX6_size := by decide +kernel
abbrev rmX6_sizeV : Room := { frames := 1, cells := 0, slots := 0, locals := 21 }
set_option maxRecDepth 100000 in
set_option maxHeartbeats 4000000 in
theorem kX6_sizeV (l : Launch) (G : va_G) (cI cZ cJ cD : ClassId) (z0 z1 z2 z3 z4 z5 w h : Nat) (hw : w ≤ 24) (hh : h ≤ 24) (cd : Int32) (P N : Nat → Bool) (ze : Nat → Int32) (le ue re de : Int32) (mk ms : Bool) (mn : UInt64) (tc : Nat) (TM LN : Nat → Int32) (ba br : Int32) (s0 : Int32) (hs1 : ¬ s0 < 0) (hs2 : s0 ≤ 3) : Ci l G (kTy cI cZ cJ cD) yX6_size wsX6_size rmX6_sizeV [.ref z0, .int s0] [(z0, .inr (5, [.int cd, .int (nI w), .int (nI h), .ref z1, .ref z2, .ref z3, .int (b2i mk), .int (b2i ms), .double mn, .ref z4, .int (nI tc), .ref z5, .int ba, .int br])), (z1, .inl (cZ, 576, .inl (bA P))), (z2, .inl (cZ, 576, .inl (bA N))), (z3, .inl (cI, 4, .inl (e4 ze le ue re de))), (z4, .inl (cI, 16, .inl TM)), (z5, .inl (cI, 104, .inl LN))] (endF s0 le ue re de) [(z0, .inr (5, [.int 0, .int (nI w), .int (nI h), .ref z1, .ref z2, .ref z3, .int (b2i mk), .int (b2i ms), .double mn, .ref z4, .int (nI tc), .ref z5, .int ba, .int br])), (z1, .inl (cZ, 576, .inl (bA P))), (z2, .inl (cZ, 576, .inl (bA N))), (z3, .inl (cI, 4, .inl (e4 ze le ue re de))), (z4, .inl (cI, 16, .inl TM)), (z5, .inl (cI, 104, .inl LN))] := by
  refine Ci.of .int rfl rfl rfl (cc := cX6_size) (maxL := 2) (plainFor_of_name (by decide)) rfl (Nat.le_of_ble_eq_true rfl) rfl ?_
  intro p e s m args below meth c A Q hx hb hml hts hown hA hK hP hD hS hend ls hl
  refine lv_aload_n hx hb dX6_size_0 rfl (lv_at hl 0 rfl) ?_
  refine lv_iload_n hx hb dX6_size_1 rfl (lv_at hl 1 rfl) ?_
  refine lv_if_lt (tgt := 10) hx hb dX6_size_2 (by decide) (fun h9 => absurd h9 hs1) (fun c_2 => ?_)
  refine lv_iload_n hx hb dX6_size_5 rfl (lv_at hl 1 rfl) ?_
  refine lv_iconst (v := 3) hx hb dX6_size_6 (by decide) ?_
  refine lv_icmp_le (tgt := 14) hx hb dX6_size_7 (by decide) (fun c_7 => ?_) (fun h9 => absurd hs2 h9)
  refine lv_iconst (v := 0) hx hb dX6_size_14 (by decide) ?_
  refine kVi (w' := [(z0, .inr (5, [.int 0, .int (nI w), .int (nI h), .ref z1, .ref z2, .ref z3, .int (b2i mk), .int (b2i ms), .double mn, .ref z4, .int (nI tc), .ref z5, .int ba, .int br])), (z1, .inl (cZ, 576, .inl (bA P))), (z2, .inl (cZ, 576, .inl (bA N))), (z3, .inl (cI, 4, .inl (e4 ze le ue re de))), (z4, .inl (cI, 16, .inl TM)), (z5, .inl (cI, 104, .inl LN))]) (wr := []) (isC := [0, 1, 2, 3, 4, 5]) (isR := []) (pm := [0, 1, 2, 3, 4, 5]) (rest := []) (kX6_refuses l G cI cZ cJ cD z0 z1 z2 z3 z4 z5 w h hw hh cd P N ze le ue re de mk ms mn tc TM LN ba br 0) ⟨hx, hb, hml, hown, hts⟩ (cwV 1 hts gX6_size_X6_refuses rfl rfl rfl hd_X6_refuses ⟨Nat.le_of_ble_eq_true rfl, Nat.le_of_ble_eq_true rfl⟩) hK hP hD hS hA ⟨rfl, rfl, rfl, by decide, rfl, rfl, rfl⟩ 5 0 rfl rfl rfl hl.1 rfl (Nat.le_of_ble_eq_true rfl) dX6_size_15 ⟨Nat.le_of_ble_eq_true rfl, Nat.le_of_ble_eq_true rfl⟩ rfl rfl (fun H locs hP hD hS => ?_)
  refine kIfEqB (tgt := 25) hx hb dX6_size_18 (by decide) (fun c_18 => ?_) (fun h9 => (absurd h9 (by decide)))
  refine lv_aload_n hx hb dX6_size_25 rfl (lv_at hl 0 rfl) ?_
  refine va_get (D := G) (ci := 5) (v := .ref z3) (C := RX6) (T := TX6) (N := 14) hx hb hts in_kX6_sizeV_X6 hown hK hP 0 rfl rfl 5 (by decide) (hts _ fl_kX6_sizeV_16) (fun _ h9 => h9) rfl dX6_size_26 ?_
  refine lv_iload_n hx hb dX6_size_29 rfl (lv_at hl 1 rfl) ?_
  refine va_iald hx hb hK hP 3 0 rfl rfl (vp_in_s hs1 hs2) dX6_size_30 ?_
  exact hend _ _ _ _ _ _ dX6_size_31 hP hD hS (e4_end _ _ _ _ _ hs1 hs2) rfl
abbrev rmX6_size1 : Room := { frames := 1, cells := 0, slots := 0, locals := 21 }
set_option maxRecDepth 100000 in
set_option maxHeartbeats 4000000 in
theorem kX6_size1 (l : Launch) (G : va_G) (cI cZ cJ cD : ClassId) (z0 z1 z2 z3 z4 z5 w h : Nat) (hw : w ≤ 24) (hh : h ≤ 24) (cd : Int32) (P N : Nat → Bool) (ze : Nat → Int32) (le ue re de : Int32) (mk ms : Bool) (mn : UInt64) (tc : Nat) (TM LN : Nat → Int32) (ba br : Int32) (s0 : Int32) (hs1 : s0 < 0) : Ci l G (kTy cI cZ cJ cD) yX6_size wsX6_size rmX6_size1 [.ref z0, .int s0] [(z0, .inr (5, [.int cd, .int (nI w), .int (nI h), .ref z1, .ref z2, .ref z3, .int (b2i mk), .int (b2i ms), .double mn, .ref z4, .int (nI tc), .ref z5, .int ba, .int br])), (z1, .inl (cZ, 576, .inl (bA P))), (z2, .inl (cZ, 576, .inl (bA N))), (z3, .inl (cI, 4, .inl (e4 ze le ue re de))), (z4, .inl (cI, 16, .inl TM)), (z5, .inl (cI, 104, .inl LN))] 0 [(z0, .inr (5, [.int 1, .int (nI w), .int (nI h), .ref z1, .ref z2, .ref z3, .int (b2i mk), .int (b2i ms), .double mn, .ref z4, .int (nI tc), .ref z5, .int ba, .int br])), (z1, .inl (cZ, 576, .inl (bA P))), (z2, .inl (cZ, 576, .inl (bA N))), (z3, .inl (cI, 4, .inl (e4 ze le ue re de))), (z4, .inl (cI, 16, .inl TM)), (z5, .inl (cI, 104, .inl LN))] := by
  refine Ci.of .int rfl rfl rfl (cc := cX6_size) (maxL := 2) (plainFor_of_name (by decide)) rfl (Nat.le_of_ble_eq_true rfl) rfl ?_
  intro p e s m args below meth c A Q hx hb hml hts hown hA hK hP hD hS hend ls hl
  refine lv_aload_n hx hb dX6_size_0 rfl (lv_at hl 0 rfl) ?_
  refine lv_iload_n hx hb dX6_size_1 rfl (lv_at hl 1 rfl) ?_
  refine lv_if_lt (tgt := 10) hx hb dX6_size_2 (by decide) (fun c_2 => ?_) (fun h9 => absurd hs1 h9)
  refine lv_iconst (v := 1) hx hb dX6_size_10 (by decide) ?_
  refine lv_goto (tgt := 15) hx hb dX6_size_11 (by decide) ?_
  refine kVi (w' := [(z0, .inr (5, [.int 1, .int (nI w), .int (nI h), .ref z1, .ref z2, .ref z3, .int (b2i mk), .int (b2i ms), .double mn, .ref z4, .int (nI tc), .ref z5, .int ba, .int br])), (z1, .inl (cZ, 576, .inl (bA P))), (z2, .inl (cZ, 576, .inl (bA N))), (z3, .inl (cI, 4, .inl (e4 ze le ue re de))), (z4, .inl (cI, 16, .inl TM)), (z5, .inl (cI, 104, .inl LN))]) (wr := []) (isC := [0, 1, 2, 3, 4, 5]) (isR := []) (pm := [0, 1, 2, 3, 4, 5]) (rest := []) (kX6_refuses l G cI cZ cJ cD z0 z1 z2 z3 z4 z5 w h hw hh cd P N ze le ue re de mk ms mn tc TM LN ba br 1) ⟨hx, hb, hml, hown, hts⟩ (cwV 1 hts gX6_size_X6_refuses rfl rfl rfl hd_X6_refuses ⟨Nat.le_of_ble_eq_true rfl, Nat.le_of_ble_eq_true rfl⟩) hK hP hD hS hA ⟨rfl, rfl, rfl, by decide, rfl, rfl, rfl⟩ 5 0 rfl rfl rfl hl.1 rfl (Nat.le_of_ble_eq_true rfl) dX6_size_15 ⟨Nat.le_of_ble_eq_true rfl, Nat.le_of_ble_eq_true rfl⟩ rfl rfl (fun H locs hP hD hS => ?_)
  refine kIfEqB (tgt := 25) hx hb dX6_size_18 (by decide) (fun h9 => (absurd h9 (by decide))) (fun c_18 => ?_)
  refine lv_iconst (v := 0) hx hb dX6_size_21 (by decide) ?_
  refine lv_goto (tgt := 31) hx hb dX6_size_22 (by decide) ?_
  exact hend _ _ _ _ _ _ dX6_size_31 hP hD hS rfl rfl
abbrev rmX6_size2 : Room := { frames := 1, cells := 0, slots := 0, locals := 21 }
set_option maxRecDepth 100000 in
set_option maxHeartbeats 4000000 in
theorem kX6_size2 (l : Launch) (G : va_G) (cI cZ cJ cD : ClassId) (z0 z1 z2 z3 z4 z5 w h : Nat) (hw : w ≤ 24) (hh : h ≤ 24) (cd : Int32) (P N : Nat → Bool) (ze : Nat → Int32) (le ue re de : Int32) (mk ms : Bool) (mn : UInt64) (tc : Nat) (TM LN : Nat → Int32) (ba br : Int32) (s0 : Int32) (hs1 : ¬ s0 < 0) (hs2 : ¬ s0 ≤ 3) : Ci l G (kTy cI cZ cJ cD) yX6_size wsX6_size rmX6_size2 [.ref z0, .int s0] [(z0, .inr (5, [.int cd, .int (nI w), .int (nI h), .ref z1, .ref z2, .ref z3, .int (b2i mk), .int (b2i ms), .double mn, .ref z4, .int (nI tc), .ref z5, .int ba, .int br])), (z1, .inl (cZ, 576, .inl (bA P))), (z2, .inl (cZ, 576, .inl (bA N))), (z3, .inl (cI, 4, .inl (e4 ze le ue re de))), (z4, .inl (cI, 16, .inl TM)), (z5, .inl (cI, 104, .inl LN))] 0 [(z0, .inr (5, [.int 1, .int (nI w), .int (nI h), .ref z1, .ref z2, .ref z3, .int (b2i mk), .int (b2i ms), .double mn, .ref z4, .int (nI tc), .ref z5, .int ba, .int br])), (z1, .inl (cZ, 576, .inl (bA P))), (z2, .inl (cZ, 576, .inl (bA N))), (z3, .inl (cI, 4, .inl (e4 ze le ue re de))), (z4, .inl (cI, 16, .inl TM)), (z5, .inl (cI, 104, .inl LN))] := by
  refine Ci.of .int rfl rfl rfl (cc := cX6_size) (maxL := 2) (plainFor_of_name (by decide)) rfl (Nat.le_of_ble_eq_true rfl) rfl ?_
  intro p e s m args below meth c A Q hx hb hml hts hown hA hK hP hD hS hend ls hl
  refine lv_aload_n hx hb dX6_size_0 rfl (lv_at hl 0 rfl) ?_
  refine lv_iload_n hx hb dX6_size_1 rfl (lv_at hl 1 rfl) ?_
  refine lv_if_lt (tgt := 10) hx hb dX6_size_2 (by decide) (fun h9 => absurd h9 hs1) (fun c_2 => ?_)
  refine lv_iload_n hx hb dX6_size_5 rfl (lv_at hl 1 rfl) ?_
  refine lv_iconst (v := 3) hx hb dX6_size_6 (by decide) ?_
  refine lv_icmp_le (tgt := 14) hx hb dX6_size_7 (by decide) (fun h9 => absurd h9 hs2) (fun c_7 => ?_)
  refine lv_iconst (v := 1) hx hb dX6_size_10 (by decide) ?_
  refine lv_goto (tgt := 15) hx hb dX6_size_11 (by decide) ?_
  refine kVi (w' := [(z0, .inr (5, [.int 1, .int (nI w), .int (nI h), .ref z1, .ref z2, .ref z3, .int (b2i mk), .int (b2i ms), .double mn, .ref z4, .int (nI tc), .ref z5, .int ba, .int br])), (z1, .inl (cZ, 576, .inl (bA P))), (z2, .inl (cZ, 576, .inl (bA N))), (z3, .inl (cI, 4, .inl (e4 ze le ue re de))), (z4, .inl (cI, 16, .inl TM)), (z5, .inl (cI, 104, .inl LN))]) (wr := []) (isC := [0, 1, 2, 3, 4, 5]) (isR := []) (pm := [0, 1, 2, 3, 4, 5]) (rest := []) (kX6_refuses l G cI cZ cJ cD z0 z1 z2 z3 z4 z5 w h hw hh cd P N ze le ue re de mk ms mn tc TM LN ba br 1) ⟨hx, hb, hml, hown, hts⟩ (cwV 1 hts gX6_size_X6_refuses rfl rfl rfl hd_X6_refuses ⟨Nat.le_of_ble_eq_true rfl, Nat.le_of_ble_eq_true rfl⟩) hK hP hD hS hA ⟨rfl, rfl, rfl, by decide, rfl, rfl, rfl⟩ 5 0 rfl rfl rfl hl.1 rfl (Nat.le_of_ble_eq_true rfl) dX6_size_15 ⟨Nat.le_of_ble_eq_true rfl, Nat.le_of_ble_eq_true rfl⟩ rfl rfl (fun H locs hP hD hS => ?_)
  refine kIfEqB (tgt := 25) hx hb dX6_size_18 (by decide) (fun h9 => (absurd h9 (by decide))) (fun c_18 => ?_)
  refine lv_iconst (v := 0) hx hb dX6_size_21 (by decide) ?_
  refine lv_goto (tgt := 31) hx hb dX6_size_22 (by decide) ?_
  exact hend _ _ _ _ _ _ dX6_size_31 hP hD hS rfl rfl
theorem in_kX6_shearRows_X6 : ∀ w ∈ u_ws RX6 TX6 14, w ∈ wsX6_shearRows := by decide +kernel
theorem fl_kX6_shearRows_30 : Cond.fieldLink RX6 30 "SkewFindModel" "height" "I" ∈ wsX6_shearRows := by decide +kernel
theorem wd_kX6_shearRows_c119 : Cond.constantDouble RX6 119 (4611686018427387904) ∈ wsX6_shearRows := by decide +kernel
theorem fl_kX6_shearRows_26 : Cond.fieldLink RX6 26 "SkewFindModel" "width" "I" ∈ wsX6_shearRows := by decide +kernel
theorem fl_kX6_shearRows_13 : Cond.fieldLink RX6 13 "SkewFindModel" "next" "[Z" ∈ wsX6_shearRows := by decide +kernel
theorem fl_kX6_shearRows_7 : Cond.fieldLink RX6 7 "SkewFindModel" "on" "[Z" ∈ wsX6_shearRows := by decide +kernel
abbrev rmX6_shearRows : Room := { frames := 1, cells := 0, slots := 0, locals := 24 }
set_option maxRecDepth 100000 in
set_option maxHeartbeats 4000000 in
theorem kX6_shearRows (l : Launch) (G : va_G) (cI cZ cJ cD : ClassId) (z0 z1 z2 z3 z4 z5 w h : Nat) (hw : w ≤ 24) (hh : h ≤ 24) (cd : Int32) (P N : Nat → Bool) (ze : Nat → Int32) (le ue re de : Int32) (mk ms : Bool) (mn : UInt64) (tc : Nat) (TM LN : Nat → Int32) (ba br : Int32) (hw0 : 0 < w) (hh0 : 0 < h) (t : UInt64) (ht : fIv (-23855) 23855 t) (sg : Int32) : Cv l G (kTy cI cZ cJ cD) yX6_shearRows wsX6_shearRows rmX6_shearRows [.ref z0, .double t, .int sg] [(z0, .inr (5, [.int cd, .int (nI w), .int (nI h), .ref z1, .ref z2, .ref z3, .int (b2i mk), .int (b2i ms), .double mn, .ref z4, .int (nI tc), .ref z5, .int ba, .int br])), (z1, .inl (cZ, 576, .inl (bA P))), (z2, .inl (cZ, 576, .inl (bA N))), (z3, .inl (cI, 4, .inl (e4 ze le ue re de))), (z4, .inl (cI, 16, .inl TM)), (z5, .inl (cI, 104, .inl LN))] [(z0, .inr (5, [.int cd, .int (nI w), .int (nI h), .ref z1, .ref z2, .ref z3, .int (b2i mk), .int (b2i ms), .double mn, .ref z4, .int (nI tc), .ref z5, .int ba, .int br])), (z1, .inl (cZ, 576, .inl (bA (srP w h t sg P N)))), (z2, .inl (cZ, 576, .inl (bA (srN w h t sg P N)))), (z3, .inl (cI, 4, .inl (e4 ze le ue re de))), (z4, .inl (cI, 16, .inl TM)), (z5, .inl (cI, 104, .inl LN))] := by
  refine Cv.of rfl rfl (cc := cX6_shearRows) (maxL := 9) (plainFor_of_name (by decide)) rfl (Nat.le_of_ble_eq_true rfl) rfl ?_
  intro p e s m args below meth c A Q hx hb hml hts hown hA hK hP hD hS hend ls hl
  refine lv_aload_n hx hb dX6_shearRows_0 rfl (lv_at hl 0 rfl) ?_
  refine va_get (D := G) (ci := 5) (v := .int (nI h)) (C := RX6) (T := TX6) (N := 14) hx hb hts in_kX6_shearRows_X6 hown hK hP 0 rfl rfl 2 (by decide) (hts _ fl_kX6_shearRows_30) (fun _ h9 => h9) rfl dX6_shearRows_1 ?_
  refine lv_iconst (v := 1) hx hb dX6_shearRows_4 (by decide) ?_
  refine lv_isub hx hb dX6_shearRows_5 ?_
  refine lv_i2d hx hb dX6_shearRows_6 ?_
  refine lv_ldc2d (v := 4611686018427387904) hx hb hown (hts _ wd_kX6_shearRows_c119) dX6_shearRows_7 ?_
  have b1 : fIv (-32768) (753664) (FP.ddiv (FP.i2d ((nI h) - 1)) 4611686018427387904) := fMid h (by omega)
  refine lv_ddiv hx hb dX6_shearRows_10 b1.n64 ?_
  refine kTopD (z := midF h) rfl ?_
  refine lv_dstore (lv' := [(4, .double (midF h)), (0, .ref z0), (1, .double t), (3, .int sg)]) hx hb dX6_shearRows_11 hl (by decide) rfl (fun ls hl => ?_)
  refine lv_aload_n hx hb dX6_shearRows_13 rfl (lv_at hl 1 rfl) ?_
  refine kVv (w' := [(z0, .inr (5, [.int cd, .int (nI w), .int (nI h), .ref z1, .ref z2, .ref z3, .int (b2i mk), .int (b2i ms), .double mn, .ref z4, .int (nI tc), .ref z5, .int ba, .int br])), (z1, .inl (cZ, 576, .inl (bA P))), (z2, .inl (cZ, 576, .inl (bA (cpB (fun _ => false) N 576)))), (z3, .inl (cI, 4, .inl (e4 ze le ue re de))), (z4, .inl (cI, 16, .inl TM)), (z5, .inl (cI, 104, .inl LN))]) (wr := []) (isC := [0, 1, 2, 3, 4, 5]) (isR := []) (pm := [0, 1, 2, 3, 4, 5]) (rest := []) (kX6_forget l G cI cZ cJ cD z0 z1 z2 z3 z4 z5 w h hw hh cd P N ze le ue re de mk ms mn tc TM LN ba br ) ⟨hx, hb, hml, hown, hts⟩ (cwV 0 hts gX6_shearRows_X6_forget rfl rfl rfl hd_X6_forget ⟨Nat.le_of_ble_eq_true rfl, Nat.le_of_ble_eq_true rfl⟩) hK hP hD hS hA ⟨rfl, rfl, rfl, by decide, rfl, rfl, rfl⟩ 5 0 rfl rfl rfl hl.1 rfl (Nat.le_of_ble_eq_true rfl) dX6_shearRows_14 ⟨Nat.le_of_ble_eq_true rfl, Nat.le_of_ble_eq_true rfl⟩ rfl rfl (fun H locs hP hD hS => ?_)
  refine lv_iconst (v := 0) hx hb dX6_shearRows_17 (by decide) ?_
  refine lv_istore (lv' := [(6, .int 0), (4, .double (midF h)), (0, .ref z0), (1, .double t), (3, .int sg)]) hx hb dX6_shearRows_18 hl (by decide) rfl (fun ls hl => ?_)
  have K20 : ∀ (n20 : Nat) (y : Nat), h - y < n20 → (y ≤ h) → ∀ (H : Heap) (locs : List Loc), va_P G vwCl [(z0, .inr (5, [.int cd, .int (nI w), .int (nI h), .ref z1, .ref z2, .ref z3, .int (b2i mk), .int (b2i ms), .double mn, .ref z4, .int (nI tc), .ref z5, .int ba, .int br])), (z1, .inl (cZ, 576, .inl (bA P))), (z2, .inl (cZ, 576, .inl (bA (srY w h P t sg (fgN N) y)))), (z3, .inl (cI, 4, .inl (e4 ze le ue re de))), (z4, .inl (cI, 16, .inl TM)), (z5, .inl (cI, 104, .inl LN))] H → va_D A [(z0, .inr (5, [.int cd, .int (nI w), .int (nI h), .ref z1, .ref z2, .ref z3, .int (b2i mk), .int (b2i ms), .double mn, .ref z4, .int (nI tc), .ref z5, .int ba, .int br])), (z1, .inl (cZ, 576, .inl (bA P))), (z2, .inl (cZ, 576, .inl (bA (srY w h P t sg (fgN N) y)))), (z3, .inl (cI, 4, .inl (e4 ze le ue re de))), (z4, .inl (cI, 16, .inl TM)), (z5, .inl (cI, 104, .inl LN))] → va_S A s.heap H locs → ∀ ls : Array Slot, lv_has ls 9 [(0, .ref z0), (1, .double t), (3, .int sg), (4, .double (midF h)), (6, .int (nI y))] → W p l e rmX6_shearRows s m args below meth c H locs 0 0 Q (F0 m 20 ls []) := by
    intro n20
    induction n20 with
    | zero => intro y hn; exact absurd hn (by omega)
    | succ n20 ih20 =>
      intro y hn20 h_y H locs hP hD hS ls hl
      refine lv_iload hx hb dX6_shearRows_20 (lv_at hl 4 rfl) ?_
      refine lv_aload_n hx hb dX6_shearRows_22 rfl (lv_at hl 0 rfl) ?_
      refine va_get (D := G) (ci := 5) (v := .int (nI h)) (C := RX6) (T := TX6) (N := 14) hx hb hts in_kX6_shearRows_X6 hown hK hP 0 rfl rfl 2 (by decide) (hts _ fl_kX6_shearRows_30) (fun _ h9 => h9) rfl dX6_shearRows_23 ?_
      refine kGe (by omega) (by omega) (tgt := 104) hx hb dX6_shearRows_26 (by decide) (fun c_26 => ?_) (fun c_26 => ?_)
      · have e9 : h = y := by omega
        subst e9
        refine lv_aload_n hx hb dX6_shearRows_104 rfl (lv_at hl 0 rfl) ?_
        refine kVv (w' := [(z0, .inr (5, [.int cd, .int (nI w), .int (nI h), .ref z1, .ref z2, .ref z3, .int (b2i mk), .int (b2i ms), .double mn, .ref z4, .int (nI tc), .ref z5, .int ba, .int br])), (z1, .inl (cZ, 576, .inl (bA (cpB ((srY w h P t sg (fgN N) h)) P 576)))), (z2, .inl (cZ, 576, .inl (bA ((srY w h P t sg (fgN N) h))))), (z3, .inl (cI, 4, .inl (e4 ze le ue re de))), (z4, .inl (cI, 16, .inl TM)), (z5, .inl (cI, 104, .inl LN))]) (wr := []) (isC := [0, 1, 2, 3, 4, 5]) (isR := []) (pm := [0, 1, 2, 3, 4, 5]) (rest := []) (kX6_change l G cI cZ cJ cD z0 z1 z2 z3 z4 z5 w h hw hh cd P ((srY w h P t sg (fgN N) h)) ze le ue re de mk ms mn tc TM LN ba br ) ⟨hx, hb, hml, hown, hts⟩ (cwV 0 hts gX6_shearRows_X6_change rfl rfl rfl hd_X6_change ⟨Nat.le_of_ble_eq_true rfl, Nat.le_of_ble_eq_true rfl⟩) hK hP hD hS hA ⟨rfl, rfl, rfl, by decide, rfl, rfl, rfl⟩ 5 0 rfl rfl rfl hl.1 rfl (Nat.le_of_ble_eq_true rfl) dX6_shearRows_105 ⟨Nat.le_of_ble_eq_true rfl, Nat.le_of_ble_eq_true rfl⟩ rfl rfl (fun H locs hP hD hS => ?_)
        exact hend _ _ _ _ _ dX6_shearRows_108 hP hD hS rfl
      · refine lv_iload_n hx hb dX6_shearRows_29 rfl (lv_at hl 2 rfl) ?_
        refine lv_dload hx hb dX6_shearRows_30 (lv_at hl 3 rfl) ?_
        refine lv_iload hx hb dX6_shearRows_32 (lv_at hl 4 rfl) ?_
        refine lv_i2d hx hb dX6_shearRows_34 ?_
        have b2 : fIv (-32768) (753664) (midF h) := fMid h (by omega)
        have b3 : fIv (0) (1572864) (FP.i2d (nI y)) := fIvN (k := 24) (by omega) (by omega)
        have b4 : fIv (-1605632) (753664) (FP.dsub (midF h) (FP.i2d (nI y))) := fSub b2 b3 (by decide +kernel) (by decide +kernel) (by decide +kernel) (by decide +kernel)
        refine lv_dsub hx hb dX6_shearRows_35 b4.n64 ?_
        refine lv_dload_n hx hb dX6_shearRows_36 rfl (lv_at hl 1 rfl) ?_
        have b5 : fIv (-584448) (584448) (FP.dmul (FP.dsub (midF h) (FP.i2d (nI y))) t) := fIv.mul (n := 1605632) (m := 23855) (k := 584448) (b4.weak (by decide +kernel) (by decide +kernel) (by decide +kernel) (by decide +kernel)) ht (by decide +kernel) (by decide +kernel)
        refine lv_dmul hx hb dX6_shearRows_37 b5.n64 ?_
        have b6 : fIv (-551680) (617216) (FP.dadd (FP.dmul (FP.dsub (midF h) (FP.i2d (nI y))) t) 4602678819172646912) := fAdd b5 fHalf (by decide +kernel) (by decide +kernel) (by decide +kernel) (by decide +kernel)
        refine kSi (rest := [.int sg]) (kX6_wholeOf l G cI cZ cJ cD (FP.dmul (FP.dsub (midF h) (FP.i2d (nI y))) t) (-551680) (617216) b6) ⟨hx, hb, hml, hown, hts⟩ (va_cwS 1 hts gX6_shearRows_X6_wholeOf rfl rfl rfl hs_X6_wholeOf ⟨Nat.le_of_ble_eq_true rfl, Nat.le_of_ble_eq_true rfl⟩) hK hP hD hS hA rfl hl.1 rfl (Nat.le_of_ble_eq_true rfl) dX6_shearRows_38 ⟨Nat.le_of_ble_eq_true rfl, Nat.le_of_ble_eq_true rfl⟩ rfl rfl (fun H locs hP hD hS => ?_)
        refine lv_imul hx hb dX6_shearRows_41 ?_
        refine kTopI (z := byR h t sg y) rfl ?_
        refine lv_istore (lv' := [(7, .int (byR h t sg y)), (0, .ref z0), (1, .double t), (3, .int sg), (4, .double (midF h)), (6, .int (nI y))]) hx hb dX6_shearRows_42 hl (by decide) rfl (fun ls hl => ?_)
        refine lv_iconst (v := 0) hx hb dX6_shearRows_44 (by decide) ?_
        refine lv_istore (lv' := [(8, .int 0), (7, .int (byR h t sg y)), (0, .ref z0), (1, .double t), (3, .int sg), (4, .double (midF h)), (6, .int (nI y))]) hx hb dX6_shearRows_45 hl (by decide) rfl (fun ls hl => ?_)
        have K47 : ∀ (n47 : Nat) (x : Nat), w - x < n47 → (x ≤ w) → ∀ (H : Heap) (locs : List Loc), va_P G vwCl [(z0, .inr (5, [.int cd, .int (nI w), .int (nI h), .ref z1, .ref z2, .ref z3, .int (b2i mk), .int (b2i ms), .double mn, .ref z4, .int (nI tc), .ref z5, .int ba, .int br])), (z1, .inl (cZ, 576, .inl (bA P))), (z2, .inl (cZ, 576, .inl (bA (srX w P (byR h t sg y) y (srY w h P t sg (fgN N) y) x)))), (z3, .inl (cI, 4, .inl (e4 ze le ue re de))), (z4, .inl (cI, 16, .inl TM)), (z5, .inl (cI, 104, .inl LN))] H → va_D A [(z0, .inr (5, [.int cd, .int (nI w), .int (nI h), .ref z1, .ref z2, .ref z3, .int (b2i mk), .int (b2i ms), .double mn, .ref z4, .int (nI tc), .ref z5, .int ba, .int br])), (z1, .inl (cZ, 576, .inl (bA P))), (z2, .inl (cZ, 576, .inl (bA (srX w P (byR h t sg y) y (srY w h P t sg (fgN N) y) x)))), (z3, .inl (cI, 4, .inl (e4 ze le ue re de))), (z4, .inl (cI, 16, .inl TM)), (z5, .inl (cI, 104, .inl LN))] → va_S A s.heap H locs → ∀ ls : Array Slot, lv_has ls 9 [(0, .ref z0), (1, .double t), (3, .int sg), (4, .double (midF h)), (6, .int (nI y)), (7, .int (byR h t sg y)), (8, .int (nI x))] → W p l e rmX6_shearRows s m args below meth c H locs 0 0 Q (F0 m 47 ls []) := by
          intro n47
          induction n47 with
          | zero => intro x hn; exact absurd hn (by omega)
          | succ n47 ih47 =>
            intro x hn47 h_x H locs hP hD hS ls hl
            refine lv_iload hx hb dX6_shearRows_47 (lv_at hl 6 rfl) ?_
            refine lv_aload_n hx hb dX6_shearRows_49 rfl (lv_at hl 0 rfl) ?_
            refine va_get (D := G) (ci := 5) (v := .int (nI w)) (C := RX6) (T := TX6) (N := 14) hx hb hts in_kX6_shearRows_X6 hown hK hP 0 rfl rfl 1 (by decide) (hts _ fl_kX6_shearRows_26) (fun _ h9 => h9) rfl dX6_shearRows_50 ?_
            refine kGe (by omega) (by omega) (tgt := 98) hx hb dX6_shearRows_53 (by decide) (fun c_53 => ?_) (fun c_53 => ?_)
            · have e9 : w = x := by omega
              subst e9
              refine lv_iinc (v := nI (y + 1)) (lv' := [(6, .int (nI (y + 1))), (0, .ref z0), (1, .double t), (3, .int sg), (4, .double (midF h)), (7, .int (byR h t sg y)), (8, .int (nI w))]) hx hb dX6_shearRows_98 hl (k := 4) rfl (nI_1 _) (by decide) rfl (fun ls hl => ?_)
              refine lv_goto (tgt := 20) hx hb dX6_shearRows_101 (by decide) ?_
              exact ih20 (y + 1) (by omega) (by omega) _ _ hP hD hS _ (lv_sub hl [1, 2, 3, 4, 0] rfl)
            · refine lv_aload_n hx hb dX6_shearRows_56 rfl (lv_at hl 0 rfl) ?_
              refine va_get (D := G) (ci := 5) (v := .ref z2) (C := RX6) (T := TX6) (N := 14) hx hb hts in_kX6_shearRows_X6 hown hK hP 0 rfl rfl 4 (by decide) (hts _ fl_kX6_shearRows_13) (fun _ h9 => h9) rfl dX6_shearRows_57 ?_
              refine lv_bipush (v := 24) hx hb dX6_shearRows_60 (by decide) ?_
              refine lv_iload hx hb dX6_shearRows_62 (lv_at hl 4 rfl) ?_
              refine lv_imul hx hb dX6_shearRows_64 ?_
              refine kTopI (z := nI (24 * y)) (pk_mul 24 y) ?_
              refine lv_iload hx hb dX6_shearRows_65 (lv_at hl 6 rfl) ?_
              refine lv_iload hx hb dX6_shearRows_67 (lv_at hl 5 rfl) ?_
              refine lv_iadd hx hb dX6_shearRows_69 ?_
              refine lv_aload_n hx hb dX6_shearRows_70 rfl (lv_at hl 0 rfl) ?_
              refine va_get (D := G) (ci := 5) (v := .int (nI w)) (C := RX6) (T := TX6) (N := 14) hx hb hts in_kX6_shearRows_X6 hown hK hP 0 rfl rfl 1 (by decide) (hts _ fl_kX6_shearRows_26) (fun _ h9 => h9) rfl dX6_shearRows_71 ?_
              refine kSi (rest := [.int (nI (24 * y)), .ref z2]) (kX6_within l G cI cZ cJ cD ((nI x) + (byR h t sg y)) (nI w) (nI_ne0 (by omega) (by omega))) ⟨hx, hb, hml, hown, hts⟩ (va_cwS 2 hts gX6_shearRows_X6_within rfl rfl rfl hs_X6_within ⟨Nat.le_of_ble_eq_true rfl, Nat.le_of_ble_eq_true rfl⟩) hK hP hD hS hA rfl hl.1 rfl (Nat.le_of_ble_eq_true rfl) dX6_shearRows_74 ⟨Nat.le_of_ble_eq_true rfl, Nat.le_of_ble_eq_true rfl⟩ rfl rfl (fun H locs hP hD hS => ?_)
              have hwi := wiN_eq (nI x + byR h t sg y) hw0 hw
              refine kTopI (z := nI (wiN (nI x + byR h t sg y) w)) hwi.1 ?_
              refine lv_iadd hx hb dX6_shearRows_77 ?_
              refine kTopI (z := nI ((24 * y) + (wiN (nI x + byR h t sg y) w))) (nI_add ((24 * y)) ((wiN (nI x + byR h t sg y) w))) ?_
              refine lv_aload_n hx hb dX6_shearRows_78 rfl (lv_at hl 0 rfl) ?_
              refine va_get (D := G) (ci := 5) (v := .ref z1) (C := RX6) (T := TX6) (N := 14) hx hb hts in_kX6_shearRows_X6 hown hK hP 0 rfl rfl 3 (by decide) (hts _ fl_kX6_shearRows_7) (fun _ h9 => h9) rfl dX6_shearRows_79 ?_
              refine lv_bipush (v := 24) hx hb dX6_shearRows_82 (by decide) ?_
              refine lv_iload hx hb dX6_shearRows_84 (lv_at hl 4 rfl) ?_
              refine lv_imul hx hb dX6_shearRows_86 ?_
              refine kTopI (z := nI (24 * y)) (pk_mul 24 y) ?_
              refine lv_iload hx hb dX6_shearRows_87 (lv_at hl 6 rfl) ?_
              refine lv_iadd hx hb dX6_shearRows_89 ?_
              refine kTopI (z := nI ((24 * y) + x)) (nI_add ((24 * y)) x) ?_
              refine va_zald hx hb hK hP 1 1 rfl rfl (vp_in_nI (by omega) (by omega)) dX6_shearRows_90 ?_
              rw [nI_clamp (n := ((24 * y) + x)) (by omega)]
              refine kTopI (z := b2i (P (((24 * y) + x)))) rfl ?_
              refine va_zast hx hb hK hP hD hS 2 1 rfl rfl (vp_in_nI (by omega) (by omega)) dX6_shearRows_91 (fun H locs (hP : va_P G vwCl [(z0, .inr (5, [.int cd, .int (nI w), .int (nI h), .ref z1, .ref z2, .ref z3, .int (b2i mk), .int (b2i ms), .double mn, .ref z4, .int (nI tc), .ref z5, .int ba, .int br])), (z1, .inl (cZ, 576, .inl (bA P))), (z2, .inl (cZ, 576, .inl (upd (bA (srX w P (byR h t sg y) y (srY w h P t sg (fgN N) y) x)) (nI ((24 * y) + (wiN (nI x + byR h t sg y) w))).toNatClampNeg (vp_nar .boolean (b2i (P (((24 * y) + x)))))))), (z3, .inl (cI, 4, .inl (e4 ze le ue re de))), (z4, .inl (cI, 16, .inl TM)), (z5, .inl (cI, 104, .inl LN))] H) (hD : va_D A [(z0, .inr (5, [.int cd, .int (nI w), .int (nI h), .ref z1, .ref z2, .ref z3, .int (b2i mk), .int (b2i ms), .double mn, .ref z4, .int (nI tc), .ref z5, .int ba, .int br])), (z1, .inl (cZ, 576, .inl (bA P))), (z2, .inl (cZ, 576, .inl (upd (bA (srX w P (byR h t sg y) y (srY w h P t sg (fgN N) y) x)) (nI ((24 * y) + (wiN (nI x + byR h t sg y) w))).toNatClampNeg (vp_nar .boolean (b2i (P (((24 * y) + x)))))))), (z3, .inl (cI, 4, .inl (e4 ze le ue re de))), (z4, .inl (cI, 16, .inl TM)), (z5, .inl (cI, 104, .inl LN))]) hS => ?_)
              rw [nI_clamp (n := ((24 * y) + (wiN (nI x + byR h t sg y) w))) (by omega)] at hP hD
              rw [show upd (bA (srX w P (byR h t sg y) y (srY w h P t sg (fgN N) y) x)) (((24 * y) + (wiN (nI x + byR h t sg y) w))) (vp_nar .boolean (b2i (P (((24 * y) + x))))) = bA (uB (srX w P (byR h t sg y) y (srY w h P t sg (fgN N) y) x) (((24 * y) + (wiN (nI x + byR h t sg y) w))) ((P (((24 * y) + x))))) from bA_u _ _ ((P (((24 * y) + x))))] at hP hD
              refine lv_iinc (v := nI (x + 1)) (lv' := [(8, .int (nI (x + 1))), (0, .ref z0), (1, .double t), (3, .int sg), (4, .double (midF h)), (6, .int (nI y)), (7, .int (byR h t sg y))]) hx hb dX6_shearRows_92 hl (k := 6) rfl (nI_1 _) (by decide) rfl (fun ls hl => ?_)
              refine lv_goto (tgt := 47) hx hb dX6_shearRows_95 (by decide) ?_
              exact ih47 (x + 1) (by omega) (by omega) _ _ hP hD hS _ (lv_sub hl [1, 2, 3, 4, 5, 6, 0] rfl)
        exact K47 (w - 0 + 1) 0 (by omega) (by omega) _ _ hP hD hS _ (lv_sub hl [2, 3, 4, 5, 6, 1, 0] rfl)
  exact K20 (h - 0 + 1) 0 (by omega) (by omega) _ _ hP hD hS _ (lv_sub hl [2, 3, 4, 1, 0] rfl)
theorem in_kX6_shearColumns_X6 : ∀ w ∈ u_ws RX6 TX6 14, w ∈ wsX6_shearColumns := by decide +kernel
theorem fl_kX6_shearColumns_26 : Cond.fieldLink RX6 26 "SkewFindModel" "width" "I" ∈ wsX6_shearColumns := by decide +kernel
theorem wd_kX6_shearColumns_c119 : Cond.constantDouble RX6 119 (4611686018427387904) ∈ wsX6_shearColumns := by decide +kernel
theorem fl_kX6_shearColumns_30 : Cond.fieldLink RX6 30 "SkewFindModel" "height" "I" ∈ wsX6_shearColumns := by decide +kernel
theorem fl_kX6_shearColumns_13 : Cond.fieldLink RX6 13 "SkewFindModel" "next" "[Z" ∈ wsX6_shearColumns := by decide +kernel
theorem fl_kX6_shearColumns_7 : Cond.fieldLink RX6 7 "SkewFindModel" "on" "[Z" ∈ wsX6_shearColumns := by decide +kernel
abbrev rmX6_shearColumns : Room := { frames := 1, cells := 0, slots := 0, locals := 24 }
set_option maxRecDepth 100000 in
set_option maxHeartbeats 4000000 in
theorem kX6_shearColumns (l : Launch) (G : va_G) (cI cZ cJ cD : ClassId) (z0 z1 z2 z3 z4 z5 w h : Nat) (hw : w ≤ 24) (hh : h ≤ 24) (cd : Int32) (P N : Nat → Bool) (ze : Nat → Int32) (le ue re de : Int32) (mk ms : Bool) (mn : UInt64) (tc : Nat) (TM LN : Nat → Int32) (ba br : Int32) (hw0 : 0 < w) (hh0 : 0 < h) (t : UInt64) (ht : fIv (-23855) 23855 t) (sg : Int32) : Cv l G (kTy cI cZ cJ cD) yX6_shearColumns wsX6_shearColumns rmX6_shearColumns [.ref z0, .double t, .int sg] [(z0, .inr (5, [.int cd, .int (nI w), .int (nI h), .ref z1, .ref z2, .ref z3, .int (b2i mk), .int (b2i ms), .double mn, .ref z4, .int (nI tc), .ref z5, .int ba, .int br])), (z1, .inl (cZ, 576, .inl (bA P))), (z2, .inl (cZ, 576, .inl (bA N))), (z3, .inl (cI, 4, .inl (e4 ze le ue re de))), (z4, .inl (cI, 16, .inl TM)), (z5, .inl (cI, 104, .inl LN))] [(z0, .inr (5, [.int cd, .int (nI w), .int (nI h), .ref z1, .ref z2, .ref z3, .int (b2i mk), .int (b2i ms), .double mn, .ref z4, .int (nI tc), .ref z5, .int ba, .int br])), (z1, .inl (cZ, 576, .inl (bA (scP w h t sg P N)))), (z2, .inl (cZ, 576, .inl (bA (scN w h t sg P N)))), (z3, .inl (cI, 4, .inl (e4 ze le ue re de))), (z4, .inl (cI, 16, .inl TM)), (z5, .inl (cI, 104, .inl LN))] := by
  refine Cv.of rfl rfl (cc := cX6_shearColumns) (maxL := 9) (plainFor_of_name (by decide)) rfl (Nat.le_of_ble_eq_true rfl) rfl ?_
  intro p e s m args below meth c A Q hx hb hml hts hown hA hK hP hD hS hend ls hl
  refine lv_aload_n hx hb dX6_shearColumns_0 rfl (lv_at hl 0 rfl) ?_
  refine va_get (D := G) (ci := 5) (v := .int (nI w)) (C := RX6) (T := TX6) (N := 14) hx hb hts in_kX6_shearColumns_X6 hown hK hP 0 rfl rfl 1 (by decide) (hts _ fl_kX6_shearColumns_26) (fun _ h9 => h9) rfl dX6_shearColumns_1 ?_
  refine lv_iconst (v := 1) hx hb dX6_shearColumns_4 (by decide) ?_
  refine lv_isub hx hb dX6_shearColumns_5 ?_
  refine lv_i2d hx hb dX6_shearColumns_6 ?_
  refine lv_ldc2d (v := 4611686018427387904) hx hb hown (hts _ wd_kX6_shearColumns_c119) dX6_shearColumns_7 ?_
  have b1 : fIv (-32768) (753664) (FP.ddiv (FP.i2d ((nI w) - 1)) 4611686018427387904) := fMid w (by omega)
  refine lv_ddiv hx hb dX6_shearColumns_10 b1.n64 ?_
  refine kTopD (z := midF w) rfl ?_
  refine lv_dstore (lv' := [(4, .double (midF w)), (0, .ref z0), (1, .double t), (3, .int sg)]) hx hb dX6_shearColumns_11 hl (by decide) rfl (fun ls hl => ?_)
  refine lv_aload_n hx hb dX6_shearColumns_13 rfl (lv_at hl 1 rfl) ?_
  refine kVv (w' := [(z0, .inr (5, [.int cd, .int (nI w), .int (nI h), .ref z1, .ref z2, .ref z3, .int (b2i mk), .int (b2i ms), .double mn, .ref z4, .int (nI tc), .ref z5, .int ba, .int br])), (z1, .inl (cZ, 576, .inl (bA P))), (z2, .inl (cZ, 576, .inl (bA (cpB (fun _ => false) N 576)))), (z3, .inl (cI, 4, .inl (e4 ze le ue re de))), (z4, .inl (cI, 16, .inl TM)), (z5, .inl (cI, 104, .inl LN))]) (wr := []) (isC := [0, 1, 2, 3, 4, 5]) (isR := []) (pm := [0, 1, 2, 3, 4, 5]) (rest := []) (kX6_forget l G cI cZ cJ cD z0 z1 z2 z3 z4 z5 w h hw hh cd P N ze le ue re de mk ms mn tc TM LN ba br ) ⟨hx, hb, hml, hown, hts⟩ (cwV 0 hts gX6_shearColumns_X6_forget rfl rfl rfl hd_X6_forget ⟨Nat.le_of_ble_eq_true rfl, Nat.le_of_ble_eq_true rfl⟩) hK hP hD hS hA ⟨rfl, rfl, rfl, by decide, rfl, rfl, rfl⟩ 5 0 rfl rfl rfl hl.1 rfl (Nat.le_of_ble_eq_true rfl) dX6_shearColumns_14 ⟨Nat.le_of_ble_eq_true rfl, Nat.le_of_ble_eq_true rfl⟩ rfl rfl (fun H locs hP hD hS => ?_)
  refine lv_iconst (v := 0) hx hb dX6_shearColumns_17 (by decide) ?_
  refine lv_istore (lv' := [(6, .int 0), (4, .double (midF w)), (0, .ref z0), (1, .double t), (3, .int sg)]) hx hb dX6_shearColumns_18 hl (by decide) rfl (fun ls hl => ?_)
  have K20 : ∀ (n20 : Nat) (x : Nat), w - x < n20 → (x ≤ w) → ∀ (H : Heap) (locs : List Loc), va_P G vwCl [(z0, .inr (5, [.int cd, .int (nI w), .int (nI h), .ref z1, .ref z2, .ref z3, .int (b2i mk), .int (b2i ms), .double mn, .ref z4, .int (nI tc), .ref z5, .int ba, .int br])), (z1, .inl (cZ, 576, .inl (bA P))), (z2, .inl (cZ, 576, .inl (bA (scX w h P t sg (fgN N) x)))), (z3, .inl (cI, 4, .inl (e4 ze le ue re de))), (z4, .inl (cI, 16, .inl TM)), (z5, .inl (cI, 104, .inl LN))] H → va_D A [(z0, .inr (5, [.int cd, .int (nI w), .int (nI h), .ref z1, .ref z2, .ref z3, .int (b2i mk), .int (b2i ms), .double mn, .ref z4, .int (nI tc), .ref z5, .int ba, .int br])), (z1, .inl (cZ, 576, .inl (bA P))), (z2, .inl (cZ, 576, .inl (bA (scX w h P t sg (fgN N) x)))), (z3, .inl (cI, 4, .inl (e4 ze le ue re de))), (z4, .inl (cI, 16, .inl TM)), (z5, .inl (cI, 104, .inl LN))] → va_S A s.heap H locs → ∀ ls : Array Slot, lv_has ls 9 [(0, .ref z0), (1, .double t), (3, .int sg), (4, .double (midF w)), (6, .int (nI x))] → W p l e rmX6_shearColumns s m args below meth c H locs 0 0 Q (F0 m 20 ls []) := by
    intro n20
    induction n20 with
    | zero => intro x hn; exact absurd hn (by omega)
    | succ n20 ih20 =>
      intro x hn20 h_x H locs hP hD hS ls hl
      refine lv_iload hx hb dX6_shearColumns_20 (lv_at hl 4 rfl) ?_
      refine lv_aload_n hx hb dX6_shearColumns_22 rfl (lv_at hl 0 rfl) ?_
      refine va_get (D := G) (ci := 5) (v := .int (nI w)) (C := RX6) (T := TX6) (N := 14) hx hb hts in_kX6_shearColumns_X6 hown hK hP 0 rfl rfl 1 (by decide) (hts _ fl_kX6_shearColumns_26) (fun _ h9 => h9) rfl dX6_shearColumns_23 ?_
      refine kGe (by omega) (by omega) (tgt := 104) hx hb dX6_shearColumns_26 (by decide) (fun c_26 => ?_) (fun c_26 => ?_)
      · have e9 : w = x := by omega
        subst e9
        refine lv_aload_n hx hb dX6_shearColumns_104 rfl (lv_at hl 0 rfl) ?_
        refine kVv (w' := [(z0, .inr (5, [.int cd, .int (nI w), .int (nI h), .ref z1, .ref z2, .ref z3, .int (b2i mk), .int (b2i ms), .double mn, .ref z4, .int (nI tc), .ref z5, .int ba, .int br])), (z1, .inl (cZ, 576, .inl (bA (cpB ((scX w h P t sg (fgN N) w)) P 576)))), (z2, .inl (cZ, 576, .inl (bA ((scX w h P t sg (fgN N) w))))), (z3, .inl (cI, 4, .inl (e4 ze le ue re de))), (z4, .inl (cI, 16, .inl TM)), (z5, .inl (cI, 104, .inl LN))]) (wr := []) (isC := [0, 1, 2, 3, 4, 5]) (isR := []) (pm := [0, 1, 2, 3, 4, 5]) (rest := []) (kX6_change l G cI cZ cJ cD z0 z1 z2 z3 z4 z5 w h hw hh cd P ((scX w h P t sg (fgN N) w)) ze le ue re de mk ms mn tc TM LN ba br ) ⟨hx, hb, hml, hown, hts⟩ (cwV 0 hts gX6_shearColumns_X6_change rfl rfl rfl hd_X6_change ⟨Nat.le_of_ble_eq_true rfl, Nat.le_of_ble_eq_true rfl⟩) hK hP hD hS hA ⟨rfl, rfl, rfl, by decide, rfl, rfl, rfl⟩ 5 0 rfl rfl rfl hl.1 rfl (Nat.le_of_ble_eq_true rfl) dX6_shearColumns_105 ⟨Nat.le_of_ble_eq_true rfl, Nat.le_of_ble_eq_true rfl⟩ rfl rfl (fun H locs hP hD hS => ?_)
        exact hend _ _ _ _ _ dX6_shearColumns_108 hP hD hS rfl
      · refine lv_iload_n hx hb dX6_shearColumns_29 rfl (lv_at hl 2 rfl) ?_
        refine lv_iload hx hb dX6_shearColumns_30 (lv_at hl 4 rfl) ?_
        refine lv_i2d hx hb dX6_shearColumns_32 ?_
        refine lv_dload hx hb dX6_shearColumns_33 (lv_at hl 3 rfl) ?_
        have b2 : fIv (0) (1572864) (FP.i2d (nI x)) := fIvN (k := 24) (by omega) (by omega)
        have b3 : fIv (-32768) (753664) (midF w) := fMid w (by omega)
        have b4 : fIv (-753664) (1605632) (FP.dsub (FP.i2d (nI x)) (midF w)) := fSub b2 b3 (by decide +kernel) (by decide +kernel) (by decide +kernel) (by decide +kernel)
        refine lv_dsub hx hb dX6_shearColumns_35 b4.n64 ?_
        refine lv_dload_n hx hb dX6_shearColumns_36 rfl (lv_at hl 1 rfl) ?_
        have b5 : fIv (-584448) (584448) (FP.dmul (FP.dsub (FP.i2d (nI x)) (midF w)) t) := fIv.mul (n := 1605632) (m := 23855) (k := 584448) (b4.weak (by decide +kernel) (by decide +kernel) (by decide +kernel) (by decide +kernel)) ht (by decide +kernel) (by decide +kernel)
        refine lv_dmul hx hb dX6_shearColumns_37 b5.n64 ?_
        have b6 : fIv (-551680) (617216) (FP.dadd (FP.dmul (FP.dsub (FP.i2d (nI x)) (midF w)) t) 4602678819172646912) := fAdd b5 fHalf (by decide +kernel) (by decide +kernel) (by decide +kernel) (by decide +kernel)
        refine kSi (rest := [.int sg]) (kX6_wholeOf l G cI cZ cJ cD (FP.dmul (FP.dsub (FP.i2d (nI x)) (midF w)) t) (-551680) (617216) b6) ⟨hx, hb, hml, hown, hts⟩ (va_cwS 1 hts gX6_shearColumns_X6_wholeOf rfl rfl rfl hs_X6_wholeOf ⟨Nat.le_of_ble_eq_true rfl, Nat.le_of_ble_eq_true rfl⟩) hK hP hD hS hA rfl hl.1 rfl (Nat.le_of_ble_eq_true rfl) dX6_shearColumns_38 ⟨Nat.le_of_ble_eq_true rfl, Nat.le_of_ble_eq_true rfl⟩ rfl rfl (fun H locs hP hD hS => ?_)
        refine lv_imul hx hb dX6_shearColumns_41 ?_
        refine kTopI (z := byC w t sg x) rfl ?_
        refine lv_istore (lv' := [(7, .int (byC w t sg x)), (0, .ref z0), (1, .double t), (3, .int sg), (4, .double (midF w)), (6, .int (nI x))]) hx hb dX6_shearColumns_42 hl (by decide) rfl (fun ls hl => ?_)
        refine lv_iconst (v := 0) hx hb dX6_shearColumns_44 (by decide) ?_
        refine lv_istore (lv' := [(8, .int 0), (7, .int (byC w t sg x)), (0, .ref z0), (1, .double t), (3, .int sg), (4, .double (midF w)), (6, .int (nI x))]) hx hb dX6_shearColumns_45 hl (by decide) rfl (fun ls hl => ?_)
        have K47 : ∀ (n47 : Nat) (y : Nat), h - y < n47 → (y ≤ h) → ∀ (H : Heap) (locs : List Loc), va_P G vwCl [(z0, .inr (5, [.int cd, .int (nI w), .int (nI h), .ref z1, .ref z2, .ref z3, .int (b2i mk), .int (b2i ms), .double mn, .ref z4, .int (nI tc), .ref z5, .int ba, .int br])), (z1, .inl (cZ, 576, .inl (bA P))), (z2, .inl (cZ, 576, .inl (bA (scY h P (byC w t sg x) x (scX w h P t sg (fgN N) x) y)))), (z3, .inl (cI, 4, .inl (e4 ze le ue re de))), (z4, .inl (cI, 16, .inl TM)), (z5, .inl (cI, 104, .inl LN))] H → va_D A [(z0, .inr (5, [.int cd, .int (nI w), .int (nI h), .ref z1, .ref z2, .ref z3, .int (b2i mk), .int (b2i ms), .double mn, .ref z4, .int (nI tc), .ref z5, .int ba, .int br])), (z1, .inl (cZ, 576, .inl (bA P))), (z2, .inl (cZ, 576, .inl (bA (scY h P (byC w t sg x) x (scX w h P t sg (fgN N) x) y)))), (z3, .inl (cI, 4, .inl (e4 ze le ue re de))), (z4, .inl (cI, 16, .inl TM)), (z5, .inl (cI, 104, .inl LN))] → va_S A s.heap H locs → ∀ ls : Array Slot, lv_has ls 9 [(0, .ref z0), (1, .double t), (3, .int sg), (4, .double (midF w)), (6, .int (nI x)), (7, .int (byC w t sg x)), (8, .int (nI y))] → W p l e rmX6_shearColumns s m args below meth c H locs 0 0 Q (F0 m 47 ls []) := by
          intro n47
          induction n47 with
          | zero => intro y hn; exact absurd hn (by omega)
          | succ n47 ih47 =>
            intro y hn47 h_y H locs hP hD hS ls hl
            refine lv_iload hx hb dX6_shearColumns_47 (lv_at hl 6 rfl) ?_
            refine lv_aload_n hx hb dX6_shearColumns_49 rfl (lv_at hl 0 rfl) ?_
            refine va_get (D := G) (ci := 5) (v := .int (nI h)) (C := RX6) (T := TX6) (N := 14) hx hb hts in_kX6_shearColumns_X6 hown hK hP 0 rfl rfl 2 (by decide) (hts _ fl_kX6_shearColumns_30) (fun _ h9 => h9) rfl dX6_shearColumns_50 ?_
            refine kGe (by omega) (by omega) (tgt := 98) hx hb dX6_shearColumns_53 (by decide) (fun c_53 => ?_) (fun c_53 => ?_)
            · have e9 : h = y := by omega
              subst e9
              refine lv_iinc (v := nI (x + 1)) (lv' := [(6, .int (nI (x + 1))), (0, .ref z0), (1, .double t), (3, .int sg), (4, .double (midF w)), (7, .int (byC w t sg x)), (8, .int (nI h))]) hx hb dX6_shearColumns_98 hl (k := 4) rfl (nI_1 _) (by decide) rfl (fun ls hl => ?_)
              refine lv_goto (tgt := 20) hx hb dX6_shearColumns_101 (by decide) ?_
              exact ih20 (x + 1) (by omega) (by omega) _ _ hP hD hS _ (lv_sub hl [1, 2, 3, 4, 0] rfl)
            · refine lv_aload_n hx hb dX6_shearColumns_56 rfl (lv_at hl 0 rfl) ?_
              refine va_get (D := G) (ci := 5) (v := .ref z2) (C := RX6) (T := TX6) (N := 14) hx hb hts in_kX6_shearColumns_X6 hown hK hP 0 rfl rfl 4 (by decide) (hts _ fl_kX6_shearColumns_13) (fun _ h9 => h9) rfl dX6_shearColumns_57 ?_
              refine lv_bipush (v := 24) hx hb dX6_shearColumns_60 (by decide) ?_
              refine lv_iload hx hb dX6_shearColumns_62 (lv_at hl 6 rfl) ?_
              refine lv_iload hx hb dX6_shearColumns_64 (lv_at hl 5 rfl) ?_
              refine lv_iadd hx hb dX6_shearColumns_66 ?_
              refine lv_aload_n hx hb dX6_shearColumns_67 rfl (lv_at hl 0 rfl) ?_
              refine va_get (D := G) (ci := 5) (v := .int (nI h)) (C := RX6) (T := TX6) (N := 14) hx hb hts in_kX6_shearColumns_X6 hown hK hP 0 rfl rfl 2 (by decide) (hts _ fl_kX6_shearColumns_30) (fun _ h9 => h9) rfl dX6_shearColumns_68 ?_
              refine kSi (rest := [.int 24, .ref z2]) (kX6_within l G cI cZ cJ cD ((nI y) + (byC w t sg x)) (nI h) (nI_ne0 (by omega) (by omega))) ⟨hx, hb, hml, hown, hts⟩ (va_cwS 2 hts gX6_shearColumns_X6_within rfl rfl rfl hs_X6_within ⟨Nat.le_of_ble_eq_true rfl, Nat.le_of_ble_eq_true rfl⟩) hK hP hD hS hA rfl hl.1 rfl (Nat.le_of_ble_eq_true rfl) dX6_shearColumns_71 ⟨Nat.le_of_ble_eq_true rfl, Nat.le_of_ble_eq_true rfl⟩ rfl rfl (fun H locs hP hD hS => ?_)
              have hwi := wiN_eq (nI y + byC w t sg x) hh0 hh
              refine kTopI (z := nI (wiN (nI y + byC w t sg x) h)) hwi.1 ?_
              refine lv_imul hx hb dX6_shearColumns_74 ?_
              refine kTopI (z := nI (24 * (wiN (nI y + byC w t sg x) h))) (pk_mul 24 ((wiN (nI y + byC w t sg x) h))) ?_
              refine lv_iload hx hb dX6_shearColumns_75 (lv_at hl 4 rfl) ?_
              refine lv_iadd hx hb dX6_shearColumns_77 ?_
              refine kTopI (z := nI ((24 * (wiN (nI y + byC w t sg x) h)) + x)) (nI_add ((24 * (wiN (nI y + byC w t sg x) h))) x) ?_
              refine lv_aload_n hx hb dX6_shearColumns_78 rfl (lv_at hl 0 rfl) ?_
              refine va_get (D := G) (ci := 5) (v := .ref z1) (C := RX6) (T := TX6) (N := 14) hx hb hts in_kX6_shearColumns_X6 hown hK hP 0 rfl rfl 3 (by decide) (hts _ fl_kX6_shearColumns_7) (fun _ h9 => h9) rfl dX6_shearColumns_79 ?_
              refine lv_bipush (v := 24) hx hb dX6_shearColumns_82 (by decide) ?_
              refine lv_iload hx hb dX6_shearColumns_84 (lv_at hl 6 rfl) ?_
              refine lv_imul hx hb dX6_shearColumns_86 ?_
              refine kTopI (z := nI (24 * y)) (pk_mul 24 y) ?_
              refine lv_iload hx hb dX6_shearColumns_87 (lv_at hl 4 rfl) ?_
              refine lv_iadd hx hb dX6_shearColumns_89 ?_
              refine kTopI (z := nI ((24 * y) + x)) (nI_add ((24 * y)) x) ?_
              refine va_zald hx hb hK hP 1 1 rfl rfl (vp_in_nI (by omega) (by omega)) dX6_shearColumns_90 ?_
              rw [nI_clamp (n := ((24 * y) + x)) (by omega)]
              refine kTopI (z := b2i (P (((24 * y) + x)))) rfl ?_
              refine va_zast hx hb hK hP hD hS 2 1 rfl rfl (vp_in_nI (by omega) (by omega)) dX6_shearColumns_91 (fun H locs (hP : va_P G vwCl [(z0, .inr (5, [.int cd, .int (nI w), .int (nI h), .ref z1, .ref z2, .ref z3, .int (b2i mk), .int (b2i ms), .double mn, .ref z4, .int (nI tc), .ref z5, .int ba, .int br])), (z1, .inl (cZ, 576, .inl (bA P))), (z2, .inl (cZ, 576, .inl (upd (bA (scY h P (byC w t sg x) x (scX w h P t sg (fgN N) x) y)) (nI ((24 * (wiN (nI y + byC w t sg x) h)) + x)).toNatClampNeg (vp_nar .boolean (b2i (P (((24 * y) + x)))))))), (z3, .inl (cI, 4, .inl (e4 ze le ue re de))), (z4, .inl (cI, 16, .inl TM)), (z5, .inl (cI, 104, .inl LN))] H) (hD : va_D A [(z0, .inr (5, [.int cd, .int (nI w), .int (nI h), .ref z1, .ref z2, .ref z3, .int (b2i mk), .int (b2i ms), .double mn, .ref z4, .int (nI tc), .ref z5, .int ba, .int br])), (z1, .inl (cZ, 576, .inl (bA P))), (z2, .inl (cZ, 576, .inl (upd (bA (scY h P (byC w t sg x) x (scX w h P t sg (fgN N) x) y)) (nI ((24 * (wiN (nI y + byC w t sg x) h)) + x)).toNatClampNeg (vp_nar .boolean (b2i (P (((24 * y) + x)))))))), (z3, .inl (cI, 4, .inl (e4 ze le ue re de))), (z4, .inl (cI, 16, .inl TM)), (z5, .inl (cI, 104, .inl LN))]) hS => ?_)
              rw [nI_clamp (n := ((24 * (wiN (nI y + byC w t sg x) h)) + x)) (by omega)] at hP hD
              rw [show upd (bA (scY h P (byC w t sg x) x (scX w h P t sg (fgN N) x) y)) (((24 * (wiN (nI y + byC w t sg x) h)) + x)) (vp_nar .boolean (b2i (P (((24 * y) + x))))) = bA (uB (scY h P (byC w t sg x) x (scX w h P t sg (fgN N) x) y) (((24 * (wiN (nI y + byC w t sg x) h)) + x)) ((P (((24 * y) + x))))) from bA_u _ _ ((P (((24 * y) + x))))] at hP hD
              refine lv_iinc (v := nI (y + 1)) (lv' := [(8, .int (nI (y + 1))), (0, .ref z0), (1, .double t), (3, .int sg), (4, .double (midF w)), (6, .int (nI x)), (7, .int (byC w t sg x))]) hx hb dX6_shearColumns_92 hl (k := 6) rfl (nI_1 _) (by decide) rfl (fun ls hl => ?_)
              refine lv_goto (tgt := 47) hx hb dX6_shearColumns_95 (by decide) ?_
              exact ih47 (y + 1) (by omega) (by omega) _ _ hP hD hS _ (lv_sub hl [1, 2, 3, 4, 5, 6, 0] rfl)
        exact K47 (h - 0 + 1) 0 (by omega) (by omega) _ _ hP hD hS _ (lv_sub hl [2, 3, 4, 5, 6, 1, 0] rfl)
  exact K20 (w - 0 + 1) 0 (by omega) (by omega) _ _ hP hD hS _ (lv_sub hl [2, 3, 4, 1, 0] rfl)
theorem wd_kX6_shear_c119 : Cond.constantDouble RX6 119 (4611686018427387904) ∈ wsX6_shear := by decide +kernel
abbrev rmX6_shear : Room := { frames := 2, cells := 0, slots := 0, locals := 52 }
set_option maxRecDepth 100000 in
set_option maxHeartbeats 4000000 in
theorem kX6_shear (l : Launch) (G : va_G) (cI cZ cJ cD : ClassId) (z0 z1 z2 z3 z4 z5 w h : Nat) (hw : w ≤ 24) (hh : h ≤ 24) (cd : Int32) (P N : Nat → Bool) (ze : Nat → Int32) (le ue re de : Int32) (mk ms : Bool) (mn : UInt64) (tc : Nat) (TM LN : Nat → Int32) (ba br : Int32) (hw0 : 0 < w) (hh0 : 0 < h) (a : Int32) (ha1 : -2000 ≤ a.toInt) (ha2 : a.toInt ≤ 2000) (sg : Int32) : Cv l G (kTy cI cZ cJ cD) yX6_shear wsX6_shear rmX6_shear [.ref z0, .int a, .int sg] [(z0, .inr (5, [.int cd, .int (nI w), .int (nI h), .ref z1, .ref z2, .ref z3, .int (b2i mk), .int (b2i ms), .double mn, .ref z4, .int (nI tc), .ref z5, .int ba, .int br])), (z1, .inl (cZ, 576, .inl (bA P))), (z2, .inl (cZ, 576, .inl (bA N))), (z3, .inl (cI, 4, .inl (e4 ze le ue re de))), (z4, .inl (cI, 16, .inl TM)), (z5, .inl (cI, 104, .inl LN))] [(z0, .inr (5, [.int cd, .int (nI w), .int (nI h), .ref z1, .ref z2, .ref z3, .int (b2i mk), .int (b2i ms), .double mn, .ref z4, .int (nI tc), .ref z5, .int ba, .int br])), (z1, .inl (cZ, 576, .inl (bA (shP w h a sg P N)))), (z2, .inl (cZ, 576, .inl (bA (shN w h a sg P N)))), (z3, .inl (cI, 4, .inl (e4 ze le ue re de))), (z4, .inl (cI, 16, .inl TM)), (z5, .inl (cI, 104, .inl LN))] := by
  refine Cv.of rfl rfl (cc := cX6_shear) (maxL := 5) (plainFor_of_name (by decide)) rfl (Nat.le_of_ble_eq_true rfl) rfl ?_
  intro p e s m args below meth c A Q hx hb hml hts hown hA hK hP hD hS hend ls hl
  refine lv_iload_n hx hb dX6_shear_0 rfl (lv_at hl 1 rfl) ?_
  refine lv_i2d hx hb dX6_shear_1 ?_
  refine lv_ldc2d (v := 4611686018427387904) hx hb hown (hts _ wd_kX6_shear_c119) dX6_shear_2 ?_
  have b1 : fIv (-131072000) (131072000) (FP.i2d a) := fIv.i2d_in (k := 2000) ha1 ha2 (by decide)
  have b2 : fIv (-65536000) (65536000) (FP.ddiv (FP.i2d a) 4611686018427387904) := fIv.div (n := 131072000) (L := 131072) (k := 65536000) b1 fc_4611686018427387904 (by decide +kernel) (by decide +kernel) (by decide +kernel)
  refine lv_ddiv hx hb dX6_shear_5 b2.n64 ?_
  refine kSd (rest := []) (kX6_slope l G cI cZ cJ cD (FP.ddiv (FP.i2d a) 4611686018427387904) ((b2.weak (by decide +kernel) (by decide +kernel) (by decide +kernel) (by decide +kernel)))) ⟨hx, hb, hml, hown, hts⟩ (va_cwS 1 hts gX6_shear_X6_slope rfl rfl rfl hs_X6_slope ⟨Nat.le_of_ble_eq_true rfl, Nat.le_of_ble_eq_true rfl⟩) hK hP hD hS hA rfl hl.1 rfl (Nat.le_of_ble_eq_true rfl) dX6_shear_6 ⟨Nat.le_of_ble_eq_true rfl, Nat.le_of_ble_eq_true rfl⟩ rfl rfl (fun H locs hP hD hS => ?_)
  have b3 : fIv (-23855) (23855) (slopeF (FP.ddiv (FP.i2d a) 4611686018427387904)) := fSlope ((b2.weak (by decide +kernel) (by decide +kernel) (by decide +kernel) (by decide +kernel)))
  refine lv_dstore_n (lv' := [(3, .double (slopeF (FP.ddiv (FP.i2d a) 4611686018427387904))), (0, .ref z0), (1, .int a), (2, .int sg)]) hx hb dX6_shear_9 rfl hl (by decide) rfl (fun ls hl => ?_)
  refine lv_aload_n hx hb dX6_shear_10 rfl (lv_at hl 1 rfl) ?_
  refine lv_dload_n hx hb dX6_shear_11 rfl (lv_at hl 0 rfl) ?_
  refine lv_iload_n hx hb dX6_shear_12 rfl (lv_at hl 3 rfl) ?_
  refine kVv (w' := [(z0, .inr (5, [.int cd, .int (nI w), .int (nI h), .ref z1, .ref z2, .ref z3, .int (b2i mk), .int (b2i ms), .double mn, .ref z4, .int (nI tc), .ref z5, .int ba, .int br])), (z1, .inl (cZ, 576, .inl (bA (srP w h (slopeF (FP.ddiv (FP.i2d a) 4611686018427387904)) sg P N)))), (z2, .inl (cZ, 576, .inl (bA (srN w h (slopeF (FP.ddiv (FP.i2d a) 4611686018427387904)) sg P N)))), (z3, .inl (cI, 4, .inl (e4 ze le ue re de))), (z4, .inl (cI, 16, .inl TM)), (z5, .inl (cI, 104, .inl LN))]) (wr := []) (isC := [0, 1, 2, 3, 4, 5]) (isR := []) (pm := [0, 1, 2, 3, 4, 5]) (rest := []) (kX6_shearRows l G cI cZ cJ cD z0 z1 z2 z3 z4 z5 w h hw hh cd P N ze le ue re de mk ms mn tc TM LN ba br hw0 hh0 (slopeF (FP.ddiv (FP.i2d a) 4611686018427387904)) b3 sg) ⟨hx, hb, hml, hown, hts⟩ (cwV 2 hts gX6_shear_X6_shearRows rfl rfl rfl hd_X6_shearRows ⟨Nat.le_of_ble_eq_true rfl, Nat.le_of_ble_eq_true rfl⟩) hK hP hD hS hA ⟨rfl, rfl, rfl, by decide, rfl, rfl, rfl⟩ 5 0 rfl rfl rfl hl.1 rfl (Nat.le_of_ble_eq_true rfl) dX6_shear_13 ⟨Nat.le_of_ble_eq_true rfl, Nat.le_of_ble_eq_true rfl⟩ rfl rfl (fun H locs hP hD hS => ?_)
  refine lv_aload_n hx hb dX6_shear_16 rfl (lv_at hl 1 rfl) ?_
  refine lv_iload_n hx hb dX6_shear_17 rfl (lv_at hl 2 rfl) ?_
  refine lv_i2d hx hb dX6_shear_18 ?_
  refine kSd (rest := [.ref z0]) (kX6_sine l G cI cZ cJ cD (FP.i2d a) b1) ⟨hx, hb, hml, hown, hts⟩ (va_cwS 1 hts gX6_shear_X6_sine rfl rfl rfl hs_X6_sine ⟨Nat.le_of_ble_eq_true rfl, Nat.le_of_ble_eq_true rfl⟩) hK hP hD hS hA rfl hl.1 rfl (Nat.le_of_ble_eq_true rfl) dX6_shear_19 ⟨Nat.le_of_ble_eq_true rfl, Nat.le_of_ble_eq_true rfl⟩ rfl rfl (fun H locs hP hD hS => ?_)
  have b4 : fIv (-23345) (23345) (sineF (FP.i2d a)) := fSine b1
  refine lv_iload_n hx hb dX6_shear_22 rfl (lv_at hl 3 rfl) ?_
  refine kVv (w' := [(z0, .inr (5, [.int cd, .int (nI w), .int (nI h), .ref z1, .ref z2, .ref z3, .int (b2i mk), .int (b2i ms), .double mn, .ref z4, .int (nI tc), .ref z5, .int ba, .int br])), (z1, .inl (cZ, 576, .inl (bA (scP w h (sineF (FP.i2d a)) sg ((srP w h (slopeF (FP.ddiv (FP.i2d a) 4611686018427387904)) sg P N)) ((srN w h (slopeF (FP.ddiv (FP.i2d a) 4611686018427387904)) sg P N)))))), (z2, .inl (cZ, 576, .inl (bA (scN w h (sineF (FP.i2d a)) sg ((srP w h (slopeF (FP.ddiv (FP.i2d a) 4611686018427387904)) sg P N)) ((srN w h (slopeF (FP.ddiv (FP.i2d a) 4611686018427387904)) sg P N)))))), (z3, .inl (cI, 4, .inl (e4 ze le ue re de))), (z4, .inl (cI, 16, .inl TM)), (z5, .inl (cI, 104, .inl LN))]) (wr := []) (isC := [0, 1, 2, 3, 4, 5]) (isR := []) (pm := [0, 1, 2, 3, 4, 5]) (rest := []) (kX6_shearColumns l G cI cZ cJ cD z0 z1 z2 z3 z4 z5 w h hw hh cd ((srP w h (slopeF (FP.ddiv (FP.i2d a) 4611686018427387904)) sg P N)) ((srN w h (slopeF (FP.ddiv (FP.i2d a) 4611686018427387904)) sg P N)) ze le ue re de mk ms mn tc TM LN ba br hw0 hh0 (sineF (FP.i2d a)) ((b4.weak (by decide +kernel) (by decide +kernel) (by decide +kernel) (by decide +kernel))) sg) ⟨hx, hb, hml, hown, hts⟩ (cwV 2 hts gX6_shear_X6_shearColumns rfl rfl rfl hd_X6_shearColumns ⟨Nat.le_of_ble_eq_true rfl, Nat.le_of_ble_eq_true rfl⟩) hK hP hD hS hA ⟨rfl, rfl, rfl, by decide, rfl, rfl, rfl⟩ 5 0 rfl rfl rfl hl.1 rfl (Nat.le_of_ble_eq_true rfl) dX6_shear_23 ⟨Nat.le_of_ble_eq_true rfl, Nat.le_of_ble_eq_true rfl⟩ rfl rfl (fun H locs hP hD hS => ?_)
  refine lv_aload_n hx hb dX6_shear_26 rfl (lv_at hl 1 rfl) ?_
  refine lv_dload_n hx hb dX6_shear_27 rfl (lv_at hl 0 rfl) ?_
  refine lv_iload_n hx hb dX6_shear_28 rfl (lv_at hl 3 rfl) ?_
  refine kVv (w' := [(z0, .inr (5, [.int cd, .int (nI w), .int (nI h), .ref z1, .ref z2, .ref z3, .int (b2i mk), .int (b2i ms), .double mn, .ref z4, .int (nI tc), .ref z5, .int ba, .int br])), (z1, .inl (cZ, 576, .inl (bA (srP w h (slopeF (FP.ddiv (FP.i2d a) 4611686018427387904)) sg ((scP w h (sineF (FP.i2d a)) sg ((srP w h (slopeF (FP.ddiv (FP.i2d a) 4611686018427387904)) sg P N)) ((srN w h (slopeF (FP.ddiv (FP.i2d a) 4611686018427387904)) sg P N)))) ((scN w h (sineF (FP.i2d a)) sg ((srP w h (slopeF (FP.ddiv (FP.i2d a) 4611686018427387904)) sg P N)) ((srN w h (slopeF (FP.ddiv (FP.i2d a) 4611686018427387904)) sg P N)))))))), (z2, .inl (cZ, 576, .inl (bA (srN w h (slopeF (FP.ddiv (FP.i2d a) 4611686018427387904)) sg ((scP w h (sineF (FP.i2d a)) sg ((srP w h (slopeF (FP.ddiv (FP.i2d a) 4611686018427387904)) sg P N)) ((srN w h (slopeF (FP.ddiv (FP.i2d a) 4611686018427387904)) sg P N)))) ((scN w h (sineF (FP.i2d a)) sg ((srP w h (slopeF (FP.ddiv (FP.i2d a) 4611686018427387904)) sg P N)) ((srN w h (slopeF (FP.ddiv (FP.i2d a) 4611686018427387904)) sg P N)))))))), (z3, .inl (cI, 4, .inl (e4 ze le ue re de))), (z4, .inl (cI, 16, .inl TM)), (z5, .inl (cI, 104, .inl LN))]) (wr := []) (isC := [0, 1, 2, 3, 4, 5]) (isR := []) (pm := [0, 1, 2, 3, 4, 5]) (rest := []) (kX6_shearRows l G cI cZ cJ cD z0 z1 z2 z3 z4 z5 w h hw hh cd ((scP w h (sineF (FP.i2d a)) sg ((srP w h (slopeF (FP.ddiv (FP.i2d a) 4611686018427387904)) sg P N)) ((srN w h (slopeF (FP.ddiv (FP.i2d a) 4611686018427387904)) sg P N)))) ((scN w h (sineF (FP.i2d a)) sg ((srP w h (slopeF (FP.ddiv (FP.i2d a) 4611686018427387904)) sg P N)) ((srN w h (slopeF (FP.ddiv (FP.i2d a) 4611686018427387904)) sg P N)))) ze le ue re de mk ms mn tc TM LN ba br hw0 hh0 (slopeF (FP.ddiv (FP.i2d a) 4611686018427387904)) b3 sg) ⟨hx, hb, hml, hown, hts⟩ (cwV 2 hts gX6_shear_X6_shearRows rfl rfl rfl hd_X6_shearRows ⟨Nat.le_of_ble_eq_true rfl, Nat.le_of_ble_eq_true rfl⟩) hK hP hD hS hA ⟨rfl, rfl, rfl, by decide, rfl, rfl, rfl⟩ 5 0 rfl rfl rfl hl.1 rfl (Nat.le_of_ble_eq_true rfl) dX6_shear_29 ⟨Nat.le_of_ble_eq_true rfl, Nat.le_of_ble_eq_true rfl⟩ rfl rfl (fun H locs hP hD hS => ?_)
  exact hend _ _ _ _ _ dX6_shear_32 hP hD hS rfl
theorem in_kX6_sample_X6 : ∀ w ∈ u_ws RX6 TX6 14, w ∈ wsX6_sample := by decide +kernel
theorem fl_kX6_sample_26 : Cond.fieldLink RX6 26 "SkewFindModel" "width" "I" ∈ wsX6_sample := by decide +kernel
theorem wd_kX6_sample_c119 : Cond.constantDouble RX6 119 (4611686018427387904) ∈ wsX6_sample := by decide +kernel
theorem fl_kX6_sample_30 : Cond.fieldLink RX6 30 "SkewFindModel" "height" "I" ∈ wsX6_sample := by decide +kernel
theorem fl_kX6_sample_13 : Cond.fieldLink RX6 13 "SkewFindModel" "next" "[Z" ∈ wsX6_sample := by decide +kernel
abbrev rmX6_sample : Room := { frames := 2, cells := 0, slots := 0, locals := 46 }
set_option maxRecDepth 100000 in
set_option maxHeartbeats 4000000 in
theorem kX6_sample (l : Launch) (G : va_G) (cI cZ cJ cD : ClassId) (z0 z1 z2 z3 z4 z5 w h : Nat) (hw : w ≤ 24) (hh : h ≤ 24) (cd : Int32) (P N : Nat → Bool) (ze : Nat → Int32) (le ue re de : Int32) (mk ms : Bool) (mn : UInt64) (tc : Nat) (TM LN : Nat → Int32) (ba br : Int32) (a : Int32) (ha1 : -2000 ≤ a.toInt) (ha2 : a.toInt ≤ 2000) : Cv l G (kTy cI cZ cJ cD) yX6_sample wsX6_sample rmX6_sample [.ref z0, .int a] [(z0, .inr (5, [.int cd, .int (nI w), .int (nI h), .ref z1, .ref z2, .ref z3, .int (b2i mk), .int (b2i ms), .double mn, .ref z4, .int (nI tc), .ref z5, .int ba, .int br])), (z1, .inl (cZ, 576, .inl (bA P))), (z2, .inl (cZ, 576, .inl (bA N))), (z3, .inl (cI, 4, .inl (e4 ze le ue re de))), (z4, .inl (cI, 16, .inl TM)), (z5, .inl (cI, 104, .inl LN))] [(z0, .inr (5, [.int cd, .int (nI w), .int (nI h), .ref z1, .ref z2, .ref z3, .int (b2i mk), .int (b2i ms), .double mn, .ref z4, .int (nI tc), .ref z5, .int ba, .int br])), (z1, .inl (cZ, 576, .inl (bA (saP w h a P N)))), (z2, .inl (cZ, 576, .inl (bA (saN w h a P N)))), (z3, .inl (cI, 4, .inl (e4 ze le ue re de))), (z4, .inl (cI, 16, .inl TM)), (z5, .inl (cI, 104, .inl LN))] := by
  refine Cv.of rfl rfl (cc := cX6_sample) (maxL := 14) (plainFor_of_name (by decide)) rfl (Nat.le_of_ble_eq_true rfl) rfl ?_
  intro p e s m args below meth c A Q hx hb hml hts hown hA hK hP hD hS hend ls hl
  refine lv_aload_n hx hb dX6_sample_0 rfl (lv_at hl 0 rfl) ?_
  refine va_get (D := G) (ci := 5) (v := .int (nI w)) (C := RX6) (T := TX6) (N := 14) hx hb hts in_kX6_sample_X6 hown hK hP 0 rfl rfl 1 (by decide) (hts _ fl_kX6_sample_26) (fun _ h9 => h9) rfl dX6_sample_1 ?_
  refine lv_iconst (v := 1) hx hb dX6_sample_4 (by decide) ?_
  refine lv_isub hx hb dX6_sample_5 ?_
  refine lv_i2d hx hb dX6_sample_6 ?_
  refine lv_ldc2d (v := 4611686018427387904) hx hb hown (hts _ wd_kX6_sample_c119) dX6_sample_7 ?_
  have b1 : fIv (-32768) (753664) (FP.ddiv (FP.i2d ((nI w) - 1)) 4611686018427387904) := fMid w (by omega)
  refine lv_ddiv hx hb dX6_sample_10 b1.n64 ?_
  refine kTopD (z := midF w) rfl ?_
  refine lv_dstore_n (lv' := [(2, .double (midF w)), (0, .ref z0), (1, .int a)]) hx hb dX6_sample_11 rfl hl (by decide) rfl (fun ls hl => ?_)
  refine lv_aload_n hx hb dX6_sample_12 rfl (lv_at hl 1 rfl) ?_
  refine va_get (D := G) (ci := 5) (v := .int (nI h)) (C := RX6) (T := TX6) (N := 14) hx hb hts in_kX6_sample_X6 hown hK hP 0 rfl rfl 2 (by decide) (hts _ fl_kX6_sample_30) (fun _ h9 => h9) rfl dX6_sample_13 ?_
  refine lv_iconst (v := 1) hx hb dX6_sample_16 (by decide) ?_
  refine lv_isub hx hb dX6_sample_17 ?_
  refine lv_i2d hx hb dX6_sample_18 ?_
  refine lv_ldc2d (v := 4611686018427387904) hx hb hown (hts _ wd_kX6_sample_c119) dX6_sample_19 ?_
  have b2 : fIv (-32768) (753664) (FP.ddiv (FP.i2d ((nI h) - 1)) 4611686018427387904) := fMid h (by omega)
  refine lv_ddiv hx hb dX6_sample_22 b2.n64 ?_
  refine kTopD (z := midF h) rfl ?_
  refine lv_dstore (lv' := [(4, .double (midF h)), (2, .double (midF w)), (0, .ref z0), (1, .int a)]) hx hb dX6_sample_23 hl (by decide) rfl (fun ls hl => ?_)
  refine lv_iload_n hx hb dX6_sample_25 rfl (lv_at hl 3 rfl) ?_
  refine lv_i2d hx hb dX6_sample_26 ?_
  have b3 : fIv (-131072000) (131072000) (FP.i2d a) := fIv.i2d_in (k := 2000) ha1 ha2 (by decide)
  refine kSd (rest := []) (kX6_sine l G cI cZ cJ cD (FP.i2d a) b3) ⟨hx, hb, hml, hown, hts⟩ (va_cwS 1 hts gX6_sample_X6_sine rfl rfl rfl hs_X6_sine ⟨Nat.le_of_ble_eq_true rfl, Nat.le_of_ble_eq_true rfl⟩) hK hP hD hS hA rfl hl.1 rfl (Nat.le_of_ble_eq_true rfl) dX6_sample_27 ⟨Nat.le_of_ble_eq_true rfl, Nat.le_of_ble_eq_true rfl⟩ rfl rfl (fun H locs hP hD hS => ?_)
  have b4 : fIv (-23345) (23345) (sineF (FP.i2d a)) := fSine b3
  refine kTopD (z := angS a) rfl ?_
  refine lv_dstore (lv' := [(6, .double (angS a)), (4, .double (midF h)), (2, .double (midF w)), (0, .ref z0), (1, .int a)]) hx hb dX6_sample_30 hl (by decide) rfl (fun ls hl => ?_)
  refine lv_iload_n hx hb dX6_sample_32 rfl (lv_at hl 4 rfl) ?_
  refine lv_i2d hx hb dX6_sample_33 ?_
  refine kSd (rest := []) (kX6_cosine l G cI cZ cJ cD (FP.i2d a) b3) ⟨hx, hb, hml, hown, hts⟩ (va_cwS 1 hts gX6_sample_X6_cosine rfl rfl rfl hs_X6_cosine ⟨Nat.le_of_ble_eq_true rfl, Nat.le_of_ble_eq_true rfl⟩) hK hP hD hS hA rfl hl.1 rfl (Nat.le_of_ble_eq_true rfl) dX6_sample_34 ⟨Nat.le_of_ble_eq_true rfl, Nat.le_of_ble_eq_true rfl⟩ rfl rfl (fun H locs hP hD hS => ?_)
  have b5 : fIv (61502) (69570) (cosF (FP.i2d a)) := fCos b3
  refine kTopD (z := angC a) rfl ?_
  refine lv_dstore (lv' := [(8, .double (angC a)), (6, .double (angS a)), (4, .double (midF h)), (2, .double (midF w)), (0, .ref z0), (1, .int a)]) hx hb dX6_sample_37 hl (by decide) rfl (fun ls hl => ?_)
  refine lv_aload_n hx hb dX6_sample_39 rfl (lv_at hl 4 rfl) ?_
  refine kVv (w' := [(z0, .inr (5, [.int cd, .int (nI w), .int (nI h), .ref z1, .ref z2, .ref z3, .int (b2i mk), .int (b2i ms), .double mn, .ref z4, .int (nI tc), .ref z5, .int ba, .int br])), (z1, .inl (cZ, 576, .inl (bA P))), (z2, .inl (cZ, 576, .inl (bA (cpB (fun _ => false) N 576)))), (z3, .inl (cI, 4, .inl (e4 ze le ue re de))), (z4, .inl (cI, 16, .inl TM)), (z5, .inl (cI, 104, .inl LN))]) (wr := []) (isC := [0, 1, 2, 3, 4, 5]) (isR := []) (pm := [0, 1, 2, 3, 4, 5]) (rest := []) (kX6_forget l G cI cZ cJ cD z0 z1 z2 z3 z4 z5 w h hw hh cd P N ze le ue re de mk ms mn tc TM LN ba br ) ⟨hx, hb, hml, hown, hts⟩ (cwV 0 hts gX6_sample_X6_forget rfl rfl rfl hd_X6_forget ⟨Nat.le_of_ble_eq_true rfl, Nat.le_of_ble_eq_true rfl⟩) hK hP hD hS hA ⟨rfl, rfl, rfl, by decide, rfl, rfl, rfl⟩ 5 0 rfl rfl rfl hl.1 rfl (Nat.le_of_ble_eq_true rfl) dX6_sample_40 ⟨Nat.le_of_ble_eq_true rfl, Nat.le_of_ble_eq_true rfl⟩ rfl rfl (fun H locs hP hD hS => ?_)
  refine lv_iconst (v := 0) hx hb dX6_sample_43 (by decide) ?_
  refine lv_istore (lv' := [(10, .int 0), (8, .double (angC a)), (6, .double (angS a)), (4, .double (midF h)), (2, .double (midF w)), (0, .ref z0), (1, .int a)]) hx hb dX6_sample_44 hl (by decide) rfl (fun ls hl => ?_)
  have K46 : ∀ (n46 : Nat) (y : Nat), h - y < n46 → (y ≤ h) → ∀ (H : Heap) (locs : List Loc), va_P G vwCl [(z0, .inr (5, [.int cd, .int (nI w), .int (nI h), .ref z1, .ref z2, .ref z3, .int (b2i mk), .int (b2i ms), .double mn, .ref z4, .int (nI tc), .ref z5, .int ba, .int br])), (z1, .inl (cZ, 576, .inl (bA P))), (z2, .inl (cZ, 576, .inl (bA (saY w h P (angS a) (angC a) (fgN N) y)))), (z3, .inl (cI, 4, .inl (e4 ze le ue re de))), (z4, .inl (cI, 16, .inl TM)), (z5, .inl (cI, 104, .inl LN))] H → va_D A [(z0, .inr (5, [.int cd, .int (nI w), .int (nI h), .ref z1, .ref z2, .ref z3, .int (b2i mk), .int (b2i ms), .double mn, .ref z4, .int (nI tc), .ref z5, .int ba, .int br])), (z1, .inl (cZ, 576, .inl (bA P))), (z2, .inl (cZ, 576, .inl (bA (saY w h P (angS a) (angC a) (fgN N) y)))), (z3, .inl (cI, 4, .inl (e4 ze le ue re de))), (z4, .inl (cI, 16, .inl TM)), (z5, .inl (cI, 104, .inl LN))] → va_S A s.heap H locs → ∀ ls : Array Slot, lv_has ls 14 [(0, .ref z0), (2, .double (midF w)), (4, .double (midF h)), (6, .double (angS a)), (8, .double (angC a)), (10, .int (nI y))] → W p l e rmX6_sample s m args below meth c H locs 0 0 Q (F0 m 46 ls []) := by
    intro n46
    induction n46 with
    | zero => intro y hn; exact absurd hn (by omega)
    | succ n46 ih46 =>
      intro y hn46 h_y H locs hP hD hS ls hl
      refine lv_iload hx hb dX6_sample_46 (lv_at hl 5 rfl) ?_
      refine lv_aload_n hx hb dX6_sample_48 rfl (lv_at hl 0 rfl) ?_
      refine va_get (D := G) (ci := 5) (v := .int (nI h)) (C := RX6) (T := TX6) (N := 14) hx hb hts in_kX6_sample_X6 hown hK hP 0 rfl rfl 2 (by decide) (hts _ fl_kX6_sample_30) (fun _ h9 => h9) rfl dX6_sample_49 ?_
      refine kGe (by omega) (by omega) (tgt := 151) hx hb dX6_sample_52 (by decide) (fun c_52 => ?_) (fun c_52 => ?_)
      · have e9 : h = y := by omega
        subst e9
        refine lv_aload_n hx hb dX6_sample_151 rfl (lv_at hl 0 rfl) ?_
        refine kVv (w' := [(z0, .inr (5, [.int cd, .int (nI w), .int (nI h), .ref z1, .ref z2, .ref z3, .int (b2i mk), .int (b2i ms), .double mn, .ref z4, .int (nI tc), .ref z5, .int ba, .int br])), (z1, .inl (cZ, 576, .inl (bA (cpB ((saY w h P (angS a) (angC a) (fgN N) h)) P 576)))), (z2, .inl (cZ, 576, .inl (bA ((saY w h P (angS a) (angC a) (fgN N) h))))), (z3, .inl (cI, 4, .inl (e4 ze le ue re de))), (z4, .inl (cI, 16, .inl TM)), (z5, .inl (cI, 104, .inl LN))]) (wr := []) (isC := [0, 1, 2, 3, 4, 5]) (isR := []) (pm := [0, 1, 2, 3, 4, 5]) (rest := []) (kX6_change l G cI cZ cJ cD z0 z1 z2 z3 z4 z5 w h hw hh cd P ((saY w h P (angS a) (angC a) (fgN N) h)) ze le ue re de mk ms mn tc TM LN ba br ) ⟨hx, hb, hml, hown, hts⟩ (cwV 0 hts gX6_sample_X6_change rfl rfl rfl hd_X6_change ⟨Nat.le_of_ble_eq_true rfl, Nat.le_of_ble_eq_true rfl⟩) hK hP hD hS hA ⟨rfl, rfl, rfl, by decide, rfl, rfl, rfl⟩ 5 0 rfl rfl rfl hl.1 rfl (Nat.le_of_ble_eq_true rfl) dX6_sample_152 ⟨Nat.le_of_ble_eq_true rfl, Nat.le_of_ble_eq_true rfl⟩ rfl rfl (fun H locs hP hD hS => ?_)
        exact hend _ _ _ _ _ dX6_sample_155 hP hD hS rfl
      · refine lv_iconst (v := 0) hx hb dX6_sample_55 (by decide) ?_
        refine lv_istore (lv' := [(11, .int 0), (0, .ref z0), (2, .double (midF w)), (4, .double (midF h)), (6, .double (angS a)), (8, .double (angC a)), (10, .int (nI y))]) hx hb dX6_sample_56 hl (by decide) rfl (fun ls hl => ?_)
        have K58 : ∀ (n58 : Nat) (x : Nat), w - x < n58 → (x ≤ w) → ∀ (H : Heap) (locs : List Loc), va_P G vwCl [(z0, .inr (5, [.int cd, .int (nI w), .int (nI h), .ref z1, .ref z2, .ref z3, .int (b2i mk), .int (b2i ms), .double mn, .ref z4, .int (nI tc), .ref z5, .int ba, .int br])), (z1, .inl (cZ, 576, .inl (bA P))), (z2, .inl (cZ, 576, .inl (bA (saX w h P (angS a) (angC a) y (saY w h P (angS a) (angC a) (fgN N) y) x)))), (z3, .inl (cI, 4, .inl (e4 ze le ue re de))), (z4, .inl (cI, 16, .inl TM)), (z5, .inl (cI, 104, .inl LN))] H → va_D A [(z0, .inr (5, [.int cd, .int (nI w), .int (nI h), .ref z1, .ref z2, .ref z3, .int (b2i mk), .int (b2i ms), .double mn, .ref z4, .int (nI tc), .ref z5, .int ba, .int br])), (z1, .inl (cZ, 576, .inl (bA P))), (z2, .inl (cZ, 576, .inl (bA (saX w h P (angS a) (angC a) y (saY w h P (angS a) (angC a) (fgN N) y) x)))), (z3, .inl (cI, 4, .inl (e4 ze le ue re de))), (z4, .inl (cI, 16, .inl TM)), (z5, .inl (cI, 104, .inl LN))] → va_S A s.heap H locs → ∀ ls : Array Slot, lv_has ls 14 [(0, .ref z0), (2, .double (midF w)), (4, .double (midF h)), (6, .double (angS a)), (8, .double (angC a)), (10, .int (nI y)), (11, .int (nI x))] → W p l e rmX6_sample s m args below meth c H locs 0 0 Q (F0 m 58 ls []) := by
          intro n58
          induction n58 with
          | zero => intro x hn; exact absurd hn (by omega)
          | succ n58 ih58 =>
            intro x hn58 h_x H locs hP hD hS ls hl
            refine lv_iload hx hb dX6_sample_58 (lv_at hl 6 rfl) ?_
            refine lv_aload_n hx hb dX6_sample_60 rfl (lv_at hl 0 rfl) ?_
            refine va_get (D := G) (ci := 5) (v := .int (nI w)) (C := RX6) (T := TX6) (N := 14) hx hb hts in_kX6_sample_X6 hown hK hP 0 rfl rfl 1 (by decide) (hts _ fl_kX6_sample_26) (fun _ h9 => h9) rfl dX6_sample_61 ?_
            refine kGe (by omega) (by omega) (tgt := 145) hx hb dX6_sample_64 (by decide) (fun c_64 => ?_) (fun c_64 => ?_)
            · have e9 : w = x := by omega
              subst e9
              refine lv_iinc (v := nI (y + 1)) (lv' := [(10, .int (nI (y + 1))), (0, .ref z0), (2, .double (midF w)), (4, .double (midF h)), (6, .double (angS a)), (8, .double (angC a)), (11, .int (nI w))]) hx hb dX6_sample_145 hl (k := 5) rfl (nI_1 _) (by decide) rfl (fun ls hl => ?_)
              refine lv_goto (tgt := 46) hx hb dX6_sample_148 (by decide) ?_
              exact ih46 (y + 1) (by omega) (by omega) _ _ hP hD hS _ (lv_sub hl [1, 2, 3, 4, 5, 0] rfl)
            · refine lv_dload_n hx hb dX6_sample_67 rfl (lv_at hl 1 rfl) ?_
              refine lv_iload hx hb dX6_sample_68 (lv_at hl 6 rfl) ?_
              refine lv_i2d hx hb dX6_sample_70 ?_
              refine lv_dload_n hx hb dX6_sample_71 rfl (lv_at hl 1 rfl) ?_
              have b6 : fIv (0) (1572864) (FP.i2d (nI x)) := fIvN (k := 24) (by omega) (by omega)
              have b7 : fIv (-32768) (753664) (midF w) := fMid w (by omega)
              have b8 : fIv (-753664) (1605632) (FP.dsub (FP.i2d (nI x)) (midF w)) := fSub b6 b7 (by decide +kernel) (by decide +kernel) (by decide +kernel) (by decide +kernel)
              refine lv_dsub hx hb dX6_sample_72 b8.n64 ?_
              refine lv_dload hx hb dX6_sample_73 (lv_at hl 4 rfl) ?_
              have b9 : fIv (61502) (69570) (angC a) := fCos (fIv.i2d_in (k := 2000) ha1 ha2 (by decide))
              have b10 : fIv (-1704465) (1704465) (FP.dmul (FP.dsub (FP.i2d (nI x)) (midF w)) (angC a)) := fIv.mul (n := 1605632) (m := 69570) (k := 1704465) (b8.weak (by decide +kernel) (by decide +kernel) (by decide +kernel) (by decide +kernel)) (b9.weak (by decide +kernel) (by decide +kernel) (by decide +kernel) (by decide +kernel)) (by decide +kernel) (by decide +kernel)
              refine lv_dmul hx hb dX6_sample_75 b10.n64 ?_
              have b11 : fIv (-1737233) (2458129) (FP.dadd (midF w) (FP.dmul (FP.dsub (FP.i2d (nI x)) (midF w)) (angC a))) := fAdd b7 b10 (by decide +kernel) (by decide +kernel) (by decide +kernel) (by decide +kernel)
              refine lv_dadd hx hb dX6_sample_76 b11.n64 ?_
              refine lv_iload hx hb dX6_sample_77 (lv_at hl 5 rfl) ?_
              refine lv_i2d hx hb dX6_sample_79 ?_
              refine lv_dload hx hb dX6_sample_80 (lv_at hl 2 rfl) ?_
              have b12 : fIv (0) (1572864) (FP.i2d (nI y)) := fIvN (k := 24) (by omega) (by omega)
              have b13 : fIv (-32768) (753664) (midF h) := fMid h (by omega)
              have b14 : fIv (-753664) (1605632) (FP.dsub (FP.i2d (nI y)) (midF h)) := fSub b12 b13 (by decide +kernel) (by decide +kernel) (by decide +kernel) (by decide +kernel)
              refine lv_dsub hx hb dX6_sample_82 b14.n64 ?_
              refine lv_dload hx hb dX6_sample_83 (lv_at hl 3 rfl) ?_
              have b15 : fIv (-23345) (23345) (angS a) := fSine (fIv.i2d_in (k := 2000) ha1 ha2 (by decide))
              have b16 : fIv (-571953) (571953) (FP.dmul (FP.dsub (FP.i2d (nI y)) (midF h)) (angS a)) := fIv.mul (n := 1605632) (m := 23345) (k := 571953) (b14.weak (by decide +kernel) (by decide +kernel) (by decide +kernel) (by decide +kernel)) b15 (by decide +kernel) (by decide +kernel)
              refine lv_dmul hx hb dX6_sample_85 b16.n64 ?_
              have b17 : fIv (-2309186) (3030082) (FP.dadd (FP.dadd (midF w) (FP.dmul (FP.dsub (FP.i2d (nI x)) (midF w)) (angC a))) (FP.dmul (FP.dsub (FP.i2d (nI y)) (midF h)) (angS a))) := fAdd b11 b16 (by decide +kernel) (by decide +kernel) (by decide +kernel) (by decide +kernel)
              refine lv_dadd hx hb dX6_sample_86 b17.n64 ?_
              have b18 : fIv (-2276418) (3062850) (FP.dadd (FP.dadd (FP.dadd (midF w) (FP.dmul (FP.dsub (FP.i2d (nI x)) (midF w)) (angC a))) (FP.dmul (FP.dsub (FP.i2d (nI y)) (midF h)) (angS a))) 4602678819172646912) := fAdd b17 fHalf (by decide +kernel) (by decide +kernel) (by decide +kernel) (by decide +kernel)
              refine kSi (rest := []) (kX6_wholeOf l G cI cZ cJ cD (FP.dadd (FP.dadd (midF w) (FP.dmul (FP.dsub (FP.i2d (nI x)) (midF w)) (angC a))) (FP.dmul (FP.dsub (FP.i2d (nI y)) (midF h)) (angS a))) (-2276418) (3062850) b18) ⟨hx, hb, hml, hown, hts⟩ (va_cwS 1 hts gX6_sample_X6_wholeOf rfl rfl rfl hs_X6_wholeOf ⟨Nat.le_of_ble_eq_true rfl, Nat.le_of_ble_eq_true rfl⟩) hK hP hD hS hA rfl hl.1 rfl (Nat.le_of_ble_eq_true rfl) dX6_sample_87 ⟨Nat.le_of_ble_eq_true rfl, Nat.le_of_ble_eq_true rfl⟩ rfl rfl (fun H locs hP hD hS => ?_)
              refine kTopI (z := frX w h (angS a) (angC a) x y) rfl ?_
              refine lv_istore (lv' := [(12, .int (frX w h (angS a) (angC a) x y)), (0, .ref z0), (2, .double (midF w)), (4, .double (midF h)), (6, .double (angS a)), (8, .double (angC a)), (10, .int (nI y)), (11, .int (nI x))]) hx hb dX6_sample_90 hl (by decide) rfl (fun ls hl => ?_)
              refine lv_dload hx hb dX6_sample_92 (lv_at hl 3 rfl) ?_
              refine lv_iload hx hb dX6_sample_94 (lv_at hl 7 rfl) ?_
              refine lv_i2d hx hb dX6_sample_96 ?_
              refine lv_dload_n hx hb dX6_sample_97 rfl (lv_at hl 2 rfl) ?_
              refine lv_dsub hx hb dX6_sample_98 b8.n64 ?_
              refine lv_dload hx hb dX6_sample_99 (lv_at hl 4 rfl) ?_
              have b19 : fIv (-571953) (571953) (FP.dmul (FP.dsub (FP.i2d (nI x)) (midF w)) (angS a)) := fIv.mul (n := 1605632) (m := 23345) (k := 571953) (b8.weak (by decide +kernel) (by decide +kernel) (by decide +kernel) (by decide +kernel)) b15 (by decide +kernel) (by decide +kernel)
              refine lv_dmul hx hb dX6_sample_101 b19.n64 ?_
              have b20 : fIv (-604721) (1325617) (FP.dsub (midF h) (FP.dmul (FP.dsub (FP.i2d (nI x)) (midF w)) (angS a))) := fSub b13 b19 (by decide +kernel) (by decide +kernel) (by decide +kernel) (by decide +kernel)
              refine lv_dsub hx hb dX6_sample_102 b20.n64 ?_
              refine lv_iload hx hb dX6_sample_103 (lv_at hl 6 rfl) ?_
              refine lv_i2d hx hb dX6_sample_105 ?_
              refine lv_dload hx hb dX6_sample_106 (lv_at hl 3 rfl) ?_
              refine lv_dsub hx hb dX6_sample_108 b14.n64 ?_
              refine lv_dload hx hb dX6_sample_109 (lv_at hl 5 rfl) ?_
              have b21 : fIv (-1704465) (1704465) (FP.dmul (FP.dsub (FP.i2d (nI y)) (midF h)) (angC a)) := fIv.mul (n := 1605632) (m := 69570) (k := 1704465) (b14.weak (by decide +kernel) (by decide +kernel) (by decide +kernel) (by decide +kernel)) (b9.weak (by decide +kernel) (by decide +kernel) (by decide +kernel) (by decide +kernel)) (by decide +kernel) (by decide +kernel)
              refine lv_dmul hx hb dX6_sample_111 b21.n64 ?_
              have b22 : fIv (-2309186) (3030082) (FP.dadd (FP.dsub (midF h) (FP.dmul (FP.dsub (FP.i2d (nI x)) (midF w)) (angS a))) (FP.dmul (FP.dsub (FP.i2d (nI y)) (midF h)) (angC a))) := fAdd b20 b21 (by decide +kernel) (by decide +kernel) (by decide +kernel) (by decide +kernel)
              refine lv_dadd hx hb dX6_sample_112 b22.n64 ?_
              have b23 : fIv (-2276418) (3062850) (FP.dadd (FP.dadd (FP.dsub (midF h) (FP.dmul (FP.dsub (FP.i2d (nI x)) (midF w)) (angS a))) (FP.dmul (FP.dsub (FP.i2d (nI y)) (midF h)) (angC a))) 4602678819172646912) := fAdd b22 fHalf (by decide +kernel) (by decide +kernel) (by decide +kernel) (by decide +kernel)
              refine kSi (rest := []) (kX6_wholeOf l G cI cZ cJ cD (FP.dadd (FP.dsub (midF h) (FP.dmul (FP.dsub (FP.i2d (nI x)) (midF w)) (angS a))) (FP.dmul (FP.dsub (FP.i2d (nI y)) (midF h)) (angC a))) (-2276418) (3062850) b23) ⟨hx, hb, hml, hown, hts⟩ (va_cwS 1 hts gX6_sample_X6_wholeOf rfl rfl rfl hs_X6_wholeOf ⟨Nat.le_of_ble_eq_true rfl, Nat.le_of_ble_eq_true rfl⟩) hK hP hD hS hA rfl hl.1 rfl (Nat.le_of_ble_eq_true rfl) dX6_sample_113 ⟨Nat.le_of_ble_eq_true rfl, Nat.le_of_ble_eq_true rfl⟩ rfl rfl (fun H locs hP hD hS => ?_)
              refine kTopI (z := frY w h (angS a) (angC a) x y) rfl ?_
              refine lv_istore (lv' := [(13, .int (frY w h (angS a) (angC a) x y)), (12, .int (frX w h (angS a) (angC a) x y)), (0, .ref z0), (2, .double (midF w)), (4, .double (midF h)), (6, .double (angS a)), (8, .double (angC a)), (10, .int (nI y)), (11, .int (nI x))]) hx hb dX6_sample_116 hl (by decide) rfl (fun ls hl => ?_)
              refine lv_aload_n hx hb dX6_sample_118 rfl (lv_at hl 2 rfl) ?_
              refine va_get (D := G) (ci := 5) (v := .ref z2) (C := RX6) (T := TX6) (N := 14) hx hb hts in_kX6_sample_X6 hown hK hP 0 rfl rfl 4 (by decide) (hts _ fl_kX6_sample_13) (fun _ h9 => h9) rfl dX6_sample_119 ?_
              refine lv_bipush (v := 24) hx hb dX6_sample_122 (by decide) ?_
              refine lv_iload hx hb dX6_sample_124 (lv_at hl 7 rfl) ?_
              refine lv_imul hx hb dX6_sample_126 ?_
              refine kTopI (z := nI (24 * y)) (pk_mul 24 y) ?_
              refine lv_iload hx hb dX6_sample_127 (lv_at hl 8 rfl) ?_
              refine lv_iadd hx hb dX6_sample_129 ?_
              refine kTopI (z := nI ((24 * y) + x)) (nI_add ((24 * y)) x) ?_
              refine lv_aload_n hx hb dX6_sample_130 rfl (lv_at hl 2 rfl) ?_
              refine lv_iload hx hb dX6_sample_131 (lv_at hl 1 rfl) ?_
              refine lv_iload hx hb dX6_sample_133 (lv_at hl 0 rfl) ?_
              refine kVi (w' := [(z0, .inr (5, [.int cd, .int (nI w), .int (nI h), .ref z1, .ref z2, .ref z3, .int (b2i mk), .int (b2i ms), .double mn, .ref z4, .int (nI tc), .ref z5, .int ba, .int br])), (z1, .inl (cZ, 576, .inl (bA P))), (z2, .inl (cZ, 576, .inl (bA ((saX w h P (angS a) (angC a) y (saY w h P (angS a) (angC a) (fgN N) y) x))))), (z3, .inl (cI, 4, .inl (e4 ze le ue re de))), (z4, .inl (cI, 16, .inl TM)), (z5, .inl (cI, 104, .inl LN))]) (wr := []) (isC := [0, 1, 2, 3, 4, 5]) (isR := []) (pm := [0, 1, 2, 3, 4, 5]) (rest := [.int (nI ((24 * y) + x)), .ref z2]) (kX6_isOn l G cI cZ cJ cD z0 z1 z2 z3 z4 z5 w h hw hh cd P ((saX w h P (angS a) (angC a) y (saY w h P (angS a) (angC a) (fgN N) y) x)) ze le ue re de mk ms mn tc TM LN ba br (frX w h (angS a) (angC a) x y) (frY w h (angS a) (angC a) x y)) ⟨hx, hb, hml, hown, hts⟩ (cwV 2 hts gX6_sample_X6_isOn rfl rfl rfl hd_X6_isOn ⟨Nat.le_of_ble_eq_true rfl, Nat.le_of_ble_eq_true rfl⟩) hK hP hD hS hA ⟨rfl, rfl, rfl, by decide, rfl, rfl, rfl⟩ 5 0 rfl rfl rfl hl.1 rfl (Nat.le_of_ble_eq_true rfl) dX6_sample_135 ⟨Nat.le_of_ble_eq_true rfl, Nat.le_of_ble_eq_true rfl⟩ rfl rfl (fun H locs hP hD hS => ?_)
              refine va_zast hx hb hK hP hD hS 2 1 rfl rfl (vp_in_nI (by omega) (by omega)) dX6_sample_138 (fun H locs (hP : va_P G vwCl [(z0, .inr (5, [.int cd, .int (nI w), .int (nI h), .ref z1, .ref z2, .ref z3, .int (b2i mk), .int (b2i ms), .double mn, .ref z4, .int (nI tc), .ref z5, .int ba, .int br])), (z1, .inl (cZ, 576, .inl (bA P))), (z2, .inl (cZ, 576, .inl (upd (bA ((saX w h P (angS a) (angC a) y (saY w h P (angS a) (angC a) (fgN N) y) x))) (nI ((24 * y) + x)).toNatClampNeg (vp_nar .boolean (b2i (mOnB w h P (frX w h (angS a) (angC a) x y) (frY w h (angS a) (angC a) x y))))))), (z3, .inl (cI, 4, .inl (e4 ze le ue re de))), (z4, .inl (cI, 16, .inl TM)), (z5, .inl (cI, 104, .inl LN))] H) (hD : va_D A [(z0, .inr (5, [.int cd, .int (nI w), .int (nI h), .ref z1, .ref z2, .ref z3, .int (b2i mk), .int (b2i ms), .double mn, .ref z4, .int (nI tc), .ref z5, .int ba, .int br])), (z1, .inl (cZ, 576, .inl (bA P))), (z2, .inl (cZ, 576, .inl (upd (bA ((saX w h P (angS a) (angC a) y (saY w h P (angS a) (angC a) (fgN N) y) x))) (nI ((24 * y) + x)).toNatClampNeg (vp_nar .boolean (b2i (mOnB w h P (frX w h (angS a) (angC a) x y) (frY w h (angS a) (angC a) x y))))))), (z3, .inl (cI, 4, .inl (e4 ze le ue re de))), (z4, .inl (cI, 16, .inl TM)), (z5, .inl (cI, 104, .inl LN))]) hS => ?_)
              rw [nI_clamp (n := ((24 * y) + x)) (by omega)] at hP hD
              rw [show upd (bA ((saX w h P (angS a) (angC a) y (saY w h P (angS a) (angC a) (fgN N) y) x))) (((24 * y) + x)) (vp_nar .boolean (b2i (mOnB w h P (frX w h (angS a) (angC a) x y) (frY w h (angS a) (angC a) x y)))) = bA (uB ((saX w h P (angS a) (angC a) y (saY w h P (angS a) (angC a) (fgN N) y) x)) (((24 * y) + x)) ((mOnB w h P (frX w h (angS a) (angC a) x y) (frY w h (angS a) (angC a) x y)))) from bA_u _ _ ((mOnB w h P (frX w h (angS a) (angC a) x y) (frY w h (angS a) (angC a) x y)))] at hP hD
              refine lv_iinc (v := nI (x + 1)) (lv' := [(11, .int (nI (x + 1))), (13, .int (frY w h (angS a) (angC a) x y)), (12, .int (frX w h (angS a) (angC a) x y)), (0, .ref z0), (2, .double (midF w)), (4, .double (midF h)), (6, .double (angS a)), (8, .double (angC a)), (10, .int (nI y))]) hx hb dX6_sample_139 hl (k := 8) rfl (nI_1 _) (by decide) rfl (fun ls hl => ?_)
              refine lv_goto (tgt := 58) hx hb dX6_sample_142 (by decide) ?_
              exact ih58 (x + 1) (by omega) (by omega) _ _ hP hD hS _ (lv_sub hl [3, 4, 5, 6, 7, 8, 0] rfl)
        exact K58 (w - 0 + 1) 0 (by omega) (by omega) _ _ hP hD hS _ (lv_sub hl [1, 2, 3, 4, 5, 6, 0] rfl)
  exact K46 (h - 0 + 1) 0 (by omega) (by omega) _ _ hP hD hS _ (lv_sub hl [5, 4, 3, 2, 1, 0] rfl)
theorem in_kX6_turnS_X6 : ∀ w ∈ u_ws RX6 TX6 14, w ∈ wsX6_turn := by decide +kernel
theorem fl_kX6_turnS_144 : Cond.fieldLink RX6 144 "SkewFindModel" "turnCount" "I" ∈ wsX6_turn := by decide +kernel
abbrev rmX6_turnS : Room := { frames := 3, cells := 0, slots := 0, locals := 79 }
set_option maxRecDepth 100000 in
set_option maxHeartbeats 4000000 in
theorem kX6_turnS (l : Launch) (G : va_G) (cI cZ cJ cD : ClassId) (z0 z1 z2 z3 z4 z5 w h : Nat) (hw : w ≤ 24) (hh : h ≤ 24) (cd : Int32) (P N : Nat → Bool) (ze : Nat → Int32) (le ue re de : Int32) (mk ms : Bool) (mn : UInt64) (tc : Nat) (TM LN : Nat → Int32) (ba br : Int32) (a : Int32) (hg1 : ¬ a < -2000) (hg2 : a ≤ 2000) : Ci l G (kTy cI cZ cJ cD) yX6_turn wsX6_turn rmX6_turnS [.ref z0, .int a, .int 0] [(z0, .inr (5, [.int cd, .int (nI w), .int (nI h), .ref z1, .ref z2, .ref z3, .int (b2i mk), .int (b2i ms), .double mn, .ref z4, .int (nI tc), .ref z5, .int ba, .int br])), (z1, .inl (cZ, 576, .inl (bA P))), (z2, .inl (cZ, 576, .inl (bA N))), (z3, .inl (cI, 4, .inl (e4 ze le ue re de))), (z4, .inl (cI, 16, .inl TM)), (z5, .inl (cI, 104, .inl LN))] (mCnt (saP w h a P N)) [(z0, .inr (5, [.int 0, .int (nI w), .int (nI h), .ref z1, .ref z2, .ref z3, .int (b2i false), .int (b2i ms), .double mn, .ref z4, .int (nI 0), .ref z5, .int ba, .int br])), (z1, .inl (cZ, 576, .inl (bA (saP w h a P N)))), (z2, .inl (cZ, 576, .inl (bA (saN w h a P N)))), (z3, .inl (cI, 4, .inl (e4 ze 0 0 (nI w) (nI h)))), (z4, .inl (cI, 16, .inl TM)), (z5, .inl (cI, 104, .inl LN))] := by
  refine Ci.of .int rfl rfl rfl (cc := cX6_turn) (maxL := 3) (plainFor_of_name (by decide)) rfl (Nat.le_of_ble_eq_true rfl) rfl ?_
  intro p e s m args below meth c A Q hx hb hml hts hown hA hK hP hD hS hend ls hl
  have ha1 := ang_lo hg1
  have ha2 := ang_hi hg2
  refine lv_aload_n hx hb dX6_turn_0 rfl (lv_at hl 0 rfl) ?_
  refine lv_iload_n hx hb dX6_turn_1 rfl (lv_at hl 1 rfl) ?_
  refine lv_sipush (v := (-2000)) hx hb dX6_turn_2 (by decide) ?_
  refine lv_icmp_lt (tgt := 15) hx hb dX6_turn_5 (by decide) (fun h9 => absurd h9 hg1) (fun c_5 => ?_)
  refine lv_iload_n hx hb dX6_turn_8 rfl (lv_at hl 1 rfl) ?_
  refine lv_sipush (v := 2000) hx hb dX6_turn_9 (by decide) ?_
  refine lv_icmp_le (tgt := 19) hx hb dX6_turn_12 (by decide) (fun c_12 => ?_) (fun h9 => absurd hg2 h9)
  refine lv_iload_n hx hb dX6_turn_19 rfl (lv_at hl 2 rfl) ?_
  refine lv_if_eq (tgt := 36) hx hb dX6_turn_20 (by decide) (fun c_20 => ?_) (fun h9 => absurd rfl h9)
  refine lv_iconst (v := 0) hx hb dX6_turn_36 (by decide) ?_
  refine kVi (w' := [(z0, .inr (5, [.int 0, .int (nI w), .int (nI h), .ref z1, .ref z2, .ref z3, .int (b2i mk), .int (b2i ms), .double mn, .ref z4, .int (nI tc), .ref z5, .int ba, .int br])), (z1, .inl (cZ, 576, .inl (bA P))), (z2, .inl (cZ, 576, .inl (bA N))), (z3, .inl (cI, 4, .inl (e4 ze le ue re de))), (z4, .inl (cI, 16, .inl TM)), (z5, .inl (cI, 104, .inl LN))]) (wr := []) (isC := [0, 1, 2, 3, 4, 5]) (isR := []) (pm := [0, 1, 2, 3, 4, 5]) (rest := []) (kX6_refuses l G cI cZ cJ cD z0 z1 z2 z3 z4 z5 w h hw hh cd P N ze le ue re de mk ms mn tc TM LN ba br 0) ⟨hx, hb, hml, hown, hts⟩ (cwV 1 hts gX6_turn_X6_refuses rfl rfl rfl hd_X6_refuses ⟨Nat.le_of_ble_eq_true rfl, Nat.le_of_ble_eq_true rfl⟩) hK hP hD hS hA ⟨rfl, rfl, rfl, by decide, rfl, rfl, rfl⟩ 5 0 rfl rfl rfl hl.1 rfl (Nat.le_of_ble_eq_true rfl) dX6_turn_37 ⟨Nat.le_of_ble_eq_true rfl, Nat.le_of_ble_eq_true rfl⟩ rfl rfl (fun H locs hP hD hS => ?_)
  refine kIfEqB (tgt := 45) hx hb dX6_turn_40 (by decide) (fun c_40 => ?_) (fun h9 => (absurd h9 (by decide)))
  refine lv_iload_n hx hb dX6_turn_45 rfl (lv_at hl 2 rfl) ?_
  refine lv_if_eq (tgt := 78) hx hb dX6_turn_46 (by decide) (fun c_46 => ?_) (fun h9 => absurd rfl h9)
  refine lv_aload_n hx hb dX6_turn_78 rfl (lv_at hl 0 rfl) ?_
  refine lv_iload_n hx hb dX6_turn_79 rfl (lv_at hl 1 rfl) ?_
  refine kVv (w' := [(z0, .inr (5, [.int 0, .int (nI w), .int (nI h), .ref z1, .ref z2, .ref z3, .int (b2i mk), .int (b2i ms), .double mn, .ref z4, .int (nI tc), .ref z5, .int ba, .int br])), (z1, .inl (cZ, 576, .inl (bA (saP w h a P N)))), (z2, .inl (cZ, 576, .inl (bA (saN w h a P N)))), (z3, .inl (cI, 4, .inl (e4 ze le ue re de))), (z4, .inl (cI, 16, .inl TM)), (z5, .inl (cI, 104, .inl LN))]) (wr := []) (isC := [0, 1, 2, 3, 4, 5]) (isR := []) (pm := [0, 1, 2, 3, 4, 5]) (rest := []) (kX6_sample l G cI cZ cJ cD z0 z1 z2 z3 z4 z5 w h hw hh 0 P N ze le ue re de mk ms mn tc TM LN ba br a ha1 ha2) ⟨hx, hb, hml, hown, hts⟩ (cwV 1 hts gX6_turn_X6_sample rfl rfl rfl hd_X6_sample ⟨Nat.le_of_ble_eq_true rfl, Nat.le_of_ble_eq_true rfl⟩) hK hP hD hS hA ⟨rfl, rfl, rfl, by decide, rfl, rfl, rfl⟩ 5 0 rfl rfl rfl hl.1 rfl (Nat.le_of_ble_eq_true rfl) dX6_turn_80 ⟨Nat.le_of_ble_eq_true rfl, Nat.le_of_ble_eq_true rfl⟩ rfl rfl (fun H locs hP hD hS => ?_)
  refine lv_aload_n hx hb dX6_turn_83 rfl (lv_at hl 0 rfl) ?_
  refine lv_iconst (v := 0) hx hb dX6_turn_84 (by decide) ?_
  refine va_put (D := G) (ci := 5) (v := .int 0) (ty := .int) (C := RX6) (T := TX6) (N := 14) hx hb hts in_kX6_turnS_X6 tyX6 tyX6_ok nmX6 hown hK hP hD hS 0 rfl rfl 10 (by decide) (hts _ fl_kX6_turnS_144) (fun _ h9 => h9) rfl (by decide +kernel) rfl rfl (Nat.le_of_ble_eq_true rfl) dX6_turn_85 (fun H locs (hP : va_P G vwCl [(z0, .inr (5, [.int 0, .int (nI w), .int (nI h), .ref z1, .ref z2, .ref z3, .int (b2i mk), .int (b2i ms), .double mn, .ref z4, .int 0, .ref z5, .int ba, .int br])), (z1, .inl (cZ, 576, .inl (bA (saP w h a P N)))), (z2, .inl (cZ, 576, .inl (bA (saN w h a P N)))), (z3, .inl (cI, 4, .inl (e4 ze le ue re de))), (z4, .inl (cI, 16, .inl TM)), (z5, .inl (cI, 104, .inl LN))] H) (hD : va_D A [(z0, .inr (5, [.int 0, .int (nI w), .int (nI h), .ref z1, .ref z2, .ref z3, .int (b2i mk), .int (b2i ms), .double mn, .ref z4, .int 0, .ref z5, .int ba, .int br])), (z1, .inl (cZ, 576, .inl (bA (saP w h a P N)))), (z2, .inl (cZ, 576, .inl (bA (saN w h a P N)))), (z3, .inl (cI, 4, .inl (e4 ze le ue re de))), (z4, .inl (cI, 16, .inl TM)), (z5, .inl (cI, 104, .inl LN))]) hS => ?_)
  refine lv_aload_n hx hb dX6_turn_88 rfl (lv_at hl 0 rfl) ?_
  refine kVv (w' := [(z0, .inr (5, [.int 0, .int (nI w), .int (nI h), .ref z1, .ref z2, .ref z3, .int (b2i false), .int (b2i ms), .double mn, .ref z4, .int 0, .ref z5, .int ba, .int br])), (z1, .inl (cZ, 576, .inl (bA ((saP w h a P N))))), (z2, .inl (cZ, 576, .inl (bA ((saN w h a P N))))), (z3, .inl (cI, 4, .inl (e4 ze 0 0 (nI w) (nI h)))), (z4, .inl (cI, 16, .inl TM)), (z5, .inl (cI, 104, .inl LN))]) (wr := []) (isC := [0, 1, 2, 3, 4, 5]) (isR := []) (pm := [0, 1, 2, 3, 4, 5]) (rest := []) (kX6_whole l G cI cZ cJ cD z0 z1 z2 z3 z4 z5 w h hw hh 0 ((saP w h a P N)) ((saN w h a P N)) ze le ue re de mk ms mn 0 TM LN ba br ) ⟨hx, hb, hml, hown, hts⟩ (cwV 0 hts gX6_turn_X6_whole rfl rfl rfl hd_X6_whole ⟨Nat.le_of_ble_eq_true rfl, Nat.le_of_ble_eq_true rfl⟩) hK hP hD hS hA ⟨rfl, rfl, rfl, by decide, rfl, rfl, rfl⟩ 5 0 rfl rfl rfl hl.1 rfl (Nat.le_of_ble_eq_true rfl) dX6_turn_89 ⟨Nat.le_of_ble_eq_true rfl, Nat.le_of_ble_eq_true rfl⟩ rfl rfl (fun H locs hP hD hS => ?_)
  refine lv_aload_n hx hb dX6_turn_92 rfl (lv_at hl 0 rfl) ?_
  refine kVi (w' := [(z0, .inr (5, [.int 0, .int (nI w), .int (nI h), .ref z1, .ref z2, .ref z3, .int (b2i false), .int (b2i ms), .double mn, .ref z4, .int 0, .ref z5, .int ba, .int br])), (z1, .inl (cZ, 576, .inl (bA (((saP w h a P N)))))), (z2, .inl (cZ, 576, .inl (bA (((saN w h a P N)))))), (z3, .inl (cI, 4, .inl (e4 ze 0 0 (nI w) (nI h)))), (z4, .inl (cI, 16, .inl TM)), (z5, .inl (cI, 104, .inl LN))]) (wr := []) (isC := [0, 1, 2, 3, 4, 5]) (isR := []) (pm := [0, 1, 2, 3, 4, 5]) (rest := []) (kX6_countOn l G cI cZ cJ cD z0 z1 z2 z3 z4 z5 w h hw hh 0 (((saP w h a P N))) (((saN w h a P N))) ze 0 0 (nI w) (nI h) false ms mn 0 TM LN ba br ) ⟨hx, hb, hml, hown, hts⟩ (cwV 0 hts gX6_turn_X6_countOn rfl rfl rfl hd_X6_countOn ⟨Nat.le_of_ble_eq_true rfl, Nat.le_of_ble_eq_true rfl⟩) hK hP hD hS hA ⟨rfl, rfl, rfl, by decide, rfl, rfl, rfl⟩ 5 0 rfl rfl rfl hl.1 rfl (Nat.le_of_ble_eq_true rfl) dX6_turn_93 ⟨Nat.le_of_ble_eq_true rfl, Nat.le_of_ble_eq_true rfl⟩ rfl rfl (fun H locs hP hD hS => ?_)
  exact hend _ _ _ _ _ _ dX6_turn_96 hP hD hS rfl rfl
theorem in_kX6_turnE_X6 : ∀ w ∈ u_ws RX6 TX6 14, w ∈ wsX6_turn := by decide +kernel
theorem fl_kX6_turnE_144 : Cond.fieldLink RX6 144 "SkewFindModel" "turnCount" "I" ∈ wsX6_turn := by decide +kernel
theorem fl_kX6_turnE_20 : Cond.fieldLink RX6 20 "SkewFindModel" "turns" "[I" ∈ wsX6_turn := by decide +kernel
abbrev rmX6_turnE : Room := { frames := 3, cells := 0, slots := 0, locals := 76 }
set_option maxRecDepth 100000 in
set_option maxHeartbeats 4000000 in
theorem kX6_turnE (l : Launch) (G : va_G) (cI cZ cJ cD : ClassId) (z0 z1 z2 z3 z4 z5 w h : Nat) (hw : w ≤ 24) (hh : h ≤ 24) (cd : Int32) (P N : Nat → Bool) (ze : Nat → Int32) (le ue re de : Int32) (mk ms : Bool) (mn : UInt64) (tc : Nat) (TM LN : Nat → Int32) (ba br : Int32) (hw0 : 0 < w) (hh0 : 0 < h) (a : Int32) (hg1 : ¬ a < -2000) (hg2 : a ≤ 2000) (htc : tc < 16) : Ci l G (kTy cI cZ cJ cD) yX6_turn wsX6_turn rmX6_turnE [.ref z0, .int a, .int 1] [(z0, .inr (5, [.int cd, .int (nI w), .int (nI h), .ref z1, .ref z2, .ref z3, .int (b2i mk), .int (b2i ms), .double mn, .ref z4, .int (nI tc), .ref z5, .int ba, .int br])), (z1, .inl (cZ, 576, .inl (bA P))), (z2, .inl (cZ, 576, .inl (bA N))), (z3, .inl (cI, 4, .inl (e4 ze le ue re de))), (z4, .inl (cI, 16, .inl TM)), (z5, .inl (cI, 104, .inl LN))] (mCnt (shP w h a 1 P N)) [(z0, .inr (5, [.int 0, .int (nI w), .int (nI h), .ref z1, .ref z2, .ref z3, .int (b2i false), .int (b2i ms), .double mn, .ref z4, .int (nI (tc + 1)), .ref z5, .int ba, .int br])), (z1, .inl (cZ, 576, .inl (bA (shP w h a 1 P N)))), (z2, .inl (cZ, 576, .inl (bA (shN w h a 1 P N)))), (z3, .inl (cI, 4, .inl (e4 ze 0 0 (nI w) (nI h)))), (z4, .inl (cI, 16, .inl (upd TM tc a))), (z5, .inl (cI, 104, .inl LN))] := by
  refine Ci.of .int rfl rfl rfl (cc := cX6_turn) (maxL := 3) (plainFor_of_name (by decide)) rfl (Nat.le_of_ble_eq_true rfl) rfl ?_
  intro p e s m args below meth c A Q hx hb hml hts hown hA hK hP hD hS hend ls hl
  have ha1 := ang_lo hg1
  have ha2 := ang_hi hg2
  refine lv_aload_n hx hb dX6_turn_0 rfl (lv_at hl 0 rfl) ?_
  refine lv_iload_n hx hb dX6_turn_1 rfl (lv_at hl 1 rfl) ?_
  refine lv_sipush (v := (-2000)) hx hb dX6_turn_2 (by decide) ?_
  refine lv_icmp_lt (tgt := 15) hx hb dX6_turn_5 (by decide) (fun h9 => absurd h9 hg1) (fun c_5 => ?_)
  refine lv_iload_n hx hb dX6_turn_8 rfl (lv_at hl 1 rfl) ?_
  refine lv_sipush (v := 2000) hx hb dX6_turn_9 (by decide) ?_
  refine lv_icmp_le (tgt := 19) hx hb dX6_turn_12 (by decide) (fun c_12 => ?_) (fun h9 => absurd hg2 h9)
  refine lv_iload_n hx hb dX6_turn_19 rfl (lv_at hl 2 rfl) ?_
  refine lv_if_eq (tgt := 36) hx hb dX6_turn_20 (by decide) (fun h9 => (absurd h9 (by decide))) (fun c_20 => ?_)
  refine lv_aload_n hx hb dX6_turn_23 rfl (lv_at hl 0 rfl) ?_
  refine va_get (D := G) (ci := 5) (v := .int (nI tc)) (C := RX6) (T := TX6) (N := 14) hx hb hts in_kX6_turnE_X6 hown hK hP 0 rfl rfl 10 (by decide) (hts _ fl_kX6_turnE_144) (fun _ h9 => h9) rfl dX6_turn_24 ?_
  refine lv_bipush (v := 16) hx hb dX6_turn_27 (by decide) ?_
  refine lv_icmp_ne (tgt := 36) hx hb dX6_turn_29 (by decide) (fun c_29 => ?_) (fun h9 => (absurd ((nI_eq (a := tc) (b := 16) (by omega) (by decide)).mp h9) (by omega)))
  refine lv_iconst (v := 0) hx hb dX6_turn_36 (by decide) ?_
  refine kVi (w' := [(z0, .inr (5, [.int 0, .int (nI w), .int (nI h), .ref z1, .ref z2, .ref z3, .int (b2i mk), .int (b2i ms), .double mn, .ref z4, .int (nI tc), .ref z5, .int ba, .int br])), (z1, .inl (cZ, 576, .inl (bA P))), (z2, .inl (cZ, 576, .inl (bA N))), (z3, .inl (cI, 4, .inl (e4 ze le ue re de))), (z4, .inl (cI, 16, .inl TM)), (z5, .inl (cI, 104, .inl LN))]) (wr := []) (isC := [0, 1, 2, 3, 4, 5]) (isR := []) (pm := [0, 1, 2, 3, 4, 5]) (rest := []) (kX6_refuses l G cI cZ cJ cD z0 z1 z2 z3 z4 z5 w h hw hh cd P N ze le ue re de mk ms mn tc TM LN ba br 0) ⟨hx, hb, hml, hown, hts⟩ (cwV 1 hts gX6_turn_X6_refuses rfl rfl rfl hd_X6_refuses ⟨Nat.le_of_ble_eq_true rfl, Nat.le_of_ble_eq_true rfl⟩) hK hP hD hS hA ⟨rfl, rfl, rfl, by decide, rfl, rfl, rfl⟩ 5 0 rfl rfl rfl hl.1 rfl (Nat.le_of_ble_eq_true rfl) dX6_turn_37 ⟨Nat.le_of_ble_eq_true rfl, Nat.le_of_ble_eq_true rfl⟩ rfl rfl (fun H locs hP hD hS => ?_)
  refine kIfEqB (tgt := 45) hx hb dX6_turn_40 (by decide) (fun c_40 => ?_) (fun h9 => (absurd h9 (by decide)))
  refine lv_iload_n hx hb dX6_turn_45 rfl (lv_at hl 2 rfl) ?_
  refine lv_if_eq (tgt := 78) hx hb dX6_turn_46 (by decide) (fun h9 => (absurd h9 (by decide))) (fun c_46 => ?_)
  refine lv_aload_n hx hb dX6_turn_49 rfl (lv_at hl 0 rfl) ?_
  refine lv_iload_n hx hb dX6_turn_50 rfl (lv_at hl 1 rfl) ?_
  refine lv_iconst (v := 1) hx hb dX6_turn_51 (by decide) ?_
  refine kVv (w' := [(z0, .inr (5, [.int 0, .int (nI w), .int (nI h), .ref z1, .ref z2, .ref z3, .int (b2i mk), .int (b2i ms), .double mn, .ref z4, .int (nI tc), .ref z5, .int ba, .int br])), (z1, .inl (cZ, 576, .inl (bA (shP w h a 1 P N)))), (z2, .inl (cZ, 576, .inl (bA (shN w h a 1 P N)))), (z3, .inl (cI, 4, .inl (e4 ze le ue re de))), (z4, .inl (cI, 16, .inl TM)), (z5, .inl (cI, 104, .inl LN))]) (wr := []) (isC := [0, 1, 2, 3, 4, 5]) (isR := []) (pm := [0, 1, 2, 3, 4, 5]) (rest := []) (kX6_shear l G cI cZ cJ cD z0 z1 z2 z3 z4 z5 w h hw hh 0 P N ze le ue re de mk ms mn tc TM LN ba br hw0 hh0 a ha1 ha2 1) ⟨hx, hb, hml, hown, hts⟩ (cwV 2 hts gX6_turn_X6_shear rfl rfl rfl hd_X6_shear ⟨Nat.le_of_ble_eq_true rfl, Nat.le_of_ble_eq_true rfl⟩) hK hP hD hS hA ⟨rfl, rfl, rfl, by decide, rfl, rfl, rfl⟩ 5 0 rfl rfl rfl hl.1 rfl (Nat.le_of_ble_eq_true rfl) dX6_turn_52 ⟨Nat.le_of_ble_eq_true rfl, Nat.le_of_ble_eq_true rfl⟩ rfl rfl (fun H locs hP hD hS => ?_)
  refine lv_aload_n hx hb dX6_turn_55 rfl (lv_at hl 0 rfl) ?_
  refine va_get (D := G) (ci := 5) (v := .ref z4) (C := RX6) (T := TX6) (N := 14) hx hb hts in_kX6_turnE_X6 hown hK hP 0 rfl rfl 9 (by decide) (hts _ fl_kX6_turnE_20) (fun _ h9 => h9) rfl dX6_turn_56 ?_
  refine lv_aload_n hx hb dX6_turn_59 rfl (lv_at hl 0 rfl) ?_
  refine va_get (D := G) (ci := 5) (v := .int (nI tc)) (C := RX6) (T := TX6) (N := 14) hx hb hts in_kX6_turnE_X6 hown hK hP 0 rfl rfl 10 (by decide) (hts _ fl_kX6_turnE_144) (fun _ h9 => h9) rfl dX6_turn_60 ?_
  refine lv_iload_n hx hb dX6_turn_63 rfl (lv_at hl 1 rfl) ?_
  refine va_iast hx hb hK hP hD hS 4 0 rfl rfl (vp_in_nI (by omega) (by omega)) dX6_turn_64 (fun H locs (hP : va_P G vwCl [(z0, .inr (5, [.int 0, .int (nI w), .int (nI h), .ref z1, .ref z2, .ref z3, .int (b2i mk), .int (b2i ms), .double mn, .ref z4, .int (nI tc), .ref z5, .int ba, .int br])), (z1, .inl (cZ, 576, .inl (bA (shP w h a 1 P N)))), (z2, .inl (cZ, 576, .inl (bA (shN w h a 1 P N)))), (z3, .inl (cI, 4, .inl (e4 ze le ue re de))), (z4, .inl (cI, 16, .inl (upd TM (nI tc).toNatClampNeg a))), (z5, .inl (cI, 104, .inl LN))] H) (hD : va_D A [(z0, .inr (5, [.int 0, .int (nI w), .int (nI h), .ref z1, .ref z2, .ref z3, .int (b2i mk), .int (b2i ms), .double mn, .ref z4, .int (nI tc), .ref z5, .int ba, .int br])), (z1, .inl (cZ, 576, .inl (bA (shP w h a 1 P N)))), (z2, .inl (cZ, 576, .inl (bA (shN w h a 1 P N)))), (z3, .inl (cI, 4, .inl (e4 ze le ue re de))), (z4, .inl (cI, 16, .inl (upd TM (nI tc).toNatClampNeg a))), (z5, .inl (cI, 104, .inl LN))]) hS => ?_)
  rw [nI_clamp (n := tc) (by omega)] at hP hD
  refine lv_aload_n hx hb dX6_turn_65 rfl (lv_at hl 0 rfl) ?_
  refine lv_dup hx hb dX6_turn_66 rfl ?_
  refine va_get (D := G) (ci := 5) (v := .int (nI tc)) (C := RX6) (T := TX6) (N := 14) hx hb hts in_kX6_turnE_X6 hown hK hP 0 rfl rfl 10 (by decide) (hts _ fl_kX6_turnE_144) (fun _ h9 => h9) rfl dX6_turn_67 ?_
  refine lv_iconst (v := 1) hx hb dX6_turn_70 (by decide) ?_
  refine lv_iadd hx hb dX6_turn_71 ?_
  refine kTopI (z := nI (tc + 1)) (nI_1 _) ?_
  refine va_put (D := G) (ci := 5) (v := .int (nI (tc + 1))) (ty := .int) (C := RX6) (T := TX6) (N := 14) hx hb hts in_kX6_turnE_X6 tyX6 tyX6_ok nmX6 hown hK hP hD hS 0 rfl rfl 10 (by decide) (hts _ fl_kX6_turnE_144) (fun _ h9 => h9) rfl (by decide +kernel) rfl rfl (Nat.le_of_ble_eq_true rfl) dX6_turn_72 (fun H locs (hP : va_P G vwCl [(z0, .inr (5, [.int 0, .int (nI w), .int (nI h), .ref z1, .ref z2, .ref z3, .int (b2i mk), .int (b2i ms), .double mn, .ref z4, .int (nI (tc + 1)), .ref z5, .int ba, .int br])), (z1, .inl (cZ, 576, .inl (bA (shP w h a 1 P N)))), (z2, .inl (cZ, 576, .inl (bA (shN w h a 1 P N)))), (z3, .inl (cI, 4, .inl (e4 ze le ue re de))), (z4, .inl (cI, 16, .inl (upd TM tc a))), (z5, .inl (cI, 104, .inl LN))] H) (hD : va_D A [(z0, .inr (5, [.int 0, .int (nI w), .int (nI h), .ref z1, .ref z2, .ref z3, .int (b2i mk), .int (b2i ms), .double mn, .ref z4, .int (nI (tc + 1)), .ref z5, .int ba, .int br])), (z1, .inl (cZ, 576, .inl (bA (shP w h a 1 P N)))), (z2, .inl (cZ, 576, .inl (bA (shN w h a 1 P N)))), (z3, .inl (cI, 4, .inl (e4 ze le ue re de))), (z4, .inl (cI, 16, .inl (upd TM tc a))), (z5, .inl (cI, 104, .inl LN))]) hS => ?_)
  refine lv_goto (tgt := 88) hx hb dX6_turn_75 (by decide) ?_
  refine lv_aload_n hx hb dX6_turn_88 rfl (lv_at hl 0 rfl) ?_
  refine kVv (w' := [(z0, .inr (5, [.int 0, .int (nI w), .int (nI h), .ref z1, .ref z2, .ref z3, .int (b2i false), .int (b2i ms), .double mn, .ref z4, .int (nI (tc + 1)), .ref z5, .int ba, .int br])), (z1, .inl (cZ, 576, .inl (bA ((shP w h a 1 P N))))), (z2, .inl (cZ, 576, .inl (bA ((shN w h a 1 P N))))), (z3, .inl (cI, 4, .inl (e4 ze 0 0 (nI w) (nI h)))), (z4, .inl (cI, 16, .inl (upd TM tc a))), (z5, .inl (cI, 104, .inl LN))]) (wr := []) (isC := [0, 1, 2, 3, 4, 5]) (isR := []) (pm := [0, 1, 2, 3, 4, 5]) (rest := []) (kX6_whole l G cI cZ cJ cD z0 z1 z2 z3 z4 z5 w h hw hh 0 ((shP w h a 1 P N)) ((shN w h a 1 P N)) ze le ue re de mk ms mn ((tc + 1)) (upd TM tc a) LN ba br ) ⟨hx, hb, hml, hown, hts⟩ (cwV 0 hts gX6_turn_X6_whole rfl rfl rfl hd_X6_whole ⟨Nat.le_of_ble_eq_true rfl, Nat.le_of_ble_eq_true rfl⟩) hK hP hD hS hA ⟨rfl, rfl, rfl, by decide, rfl, rfl, rfl⟩ 5 0 rfl rfl rfl hl.1 rfl (Nat.le_of_ble_eq_true rfl) dX6_turn_89 ⟨Nat.le_of_ble_eq_true rfl, Nat.le_of_ble_eq_true rfl⟩ rfl rfl (fun H locs hP hD hS => ?_)
  refine lv_aload_n hx hb dX6_turn_92 rfl (lv_at hl 0 rfl) ?_
  refine kVi (w' := [(z0, .inr (5, [.int 0, .int (nI w), .int (nI h), .ref z1, .ref z2, .ref z3, .int (b2i false), .int (b2i ms), .double mn, .ref z4, .int (nI (tc + 1)), .ref z5, .int ba, .int br])), (z1, .inl (cZ, 576, .inl (bA (((shP w h a 1 P N)))))), (z2, .inl (cZ, 576, .inl (bA (((shN w h a 1 P N)))))), (z3, .inl (cI, 4, .inl (e4 ze 0 0 (nI w) (nI h)))), (z4, .inl (cI, 16, .inl (upd TM tc a))), (z5, .inl (cI, 104, .inl LN))]) (wr := []) (isC := [0, 1, 2, 3, 4, 5]) (isR := []) (pm := [0, 1, 2, 3, 4, 5]) (rest := []) (kX6_countOn l G cI cZ cJ cD z0 z1 z2 z3 z4 z5 w h hw hh 0 (((shP w h a 1 P N))) (((shN w h a 1 P N))) ze 0 0 (nI w) (nI h) false ms mn ((tc + 1)) (upd TM tc a) LN ba br ) ⟨hx, hb, hml, hown, hts⟩ (cwV 0 hts gX6_turn_X6_countOn rfl rfl rfl hd_X6_countOn ⟨Nat.le_of_ble_eq_true rfl, Nat.le_of_ble_eq_true rfl⟩) hK hP hD hS hA ⟨rfl, rfl, rfl, by decide, rfl, rfl, rfl⟩ 5 0 rfl rfl rfl hl.1 rfl (Nat.le_of_ble_eq_true rfl) dX6_turn_93 ⟨Nat.le_of_ble_eq_true rfl, Nat.le_of_ble_eq_true rfl⟩ rfl rfl (fun H locs hP hD hS => ?_)
  exact hend _ _ _ _ _ _ dX6_turn_96 hP hD hS rfl rfl
abbrev rmX6_turn1 : Room := { frames := 1, cells := 0, slots := 0, locals := 21 }
set_option maxRecDepth 100000 in
set_option maxHeartbeats 4000000 in
theorem kX6_turn1 (l : Launch) (G : va_G) (cI cZ cJ cD : ClassId) (z0 z1 z2 z3 z4 z5 w h : Nat) (hw : w ≤ 24) (hh : h ≤ 24) (cd : Int32) (P N : Nat → Bool) (ze : Nat → Int32) (le ue re de : Int32) (mk ms : Bool) (mn : UInt64) (tc : Nat) (TM LN : Nat → Int32) (ba br : Int32) (a ex : Int32) (hbad : a < -2000) : Ci l G (kTy cI cZ cJ cD) yX6_turn wsX6_turn rmX6_turn1 [.ref z0, .int a, .int ex] [(z0, .inr (5, [.int cd, .int (nI w), .int (nI h), .ref z1, .ref z2, .ref z3, .int (b2i mk), .int (b2i ms), .double mn, .ref z4, .int (nI tc), .ref z5, .int ba, .int br])), (z1, .inl (cZ, 576, .inl (bA P))), (z2, .inl (cZ, 576, .inl (bA N))), (z3, .inl (cI, 4, .inl (e4 ze le ue re de))), (z4, .inl (cI, 16, .inl TM)), (z5, .inl (cI, 104, .inl LN))] 0 [(z0, .inr (5, [.int 1, .int (nI w), .int (nI h), .ref z1, .ref z2, .ref z3, .int (b2i mk), .int (b2i ms), .double mn, .ref z4, .int (nI tc), .ref z5, .int ba, .int br])), (z1, .inl (cZ, 576, .inl (bA P))), (z2, .inl (cZ, 576, .inl (bA N))), (z3, .inl (cI, 4, .inl (e4 ze le ue re de))), (z4, .inl (cI, 16, .inl TM)), (z5, .inl (cI, 104, .inl LN))] := by
  refine Ci.of .int rfl rfl rfl (cc := cX6_turn) (maxL := 3) (plainFor_of_name (by decide)) rfl (Nat.le_of_ble_eq_true rfl) rfl ?_
  intro p e s m args below meth c A Q hx hb hml hts hown hA hK hP hD hS hend ls hl
  refine lv_aload_n hx hb dX6_turn_0 rfl (lv_at hl 0 rfl) ?_
  refine lv_iload_n hx hb dX6_turn_1 rfl (lv_at hl 1 rfl) ?_
  refine lv_sipush (v := (-2000)) hx hb dX6_turn_2 (by decide) ?_
  refine lv_icmp_lt (tgt := 15) hx hb dX6_turn_5 (by decide) (fun c_5 => ?_) (fun h9 => absurd hbad h9)
  refine lv_iconst (v := 1) hx hb dX6_turn_15 (by decide) ?_
  refine lv_goto (tgt := 37) hx hb dX6_turn_16 (by decide) ?_
  refine kVi (w' := [(z0, .inr (5, [.int 1, .int (nI w), .int (nI h), .ref z1, .ref z2, .ref z3, .int (b2i mk), .int (b2i ms), .double mn, .ref z4, .int (nI tc), .ref z5, .int ba, .int br])), (z1, .inl (cZ, 576, .inl (bA P))), (z2, .inl (cZ, 576, .inl (bA N))), (z3, .inl (cI, 4, .inl (e4 ze le ue re de))), (z4, .inl (cI, 16, .inl TM)), (z5, .inl (cI, 104, .inl LN))]) (wr := []) (isC := [0, 1, 2, 3, 4, 5]) (isR := []) (pm := [0, 1, 2, 3, 4, 5]) (rest := []) (kX6_refuses l G cI cZ cJ cD z0 z1 z2 z3 z4 z5 w h hw hh cd P N ze le ue re de mk ms mn tc TM LN ba br 1) ⟨hx, hb, hml, hown, hts⟩ (cwV 1 hts gX6_turn_X6_refuses rfl rfl rfl hd_X6_refuses ⟨Nat.le_of_ble_eq_true rfl, Nat.le_of_ble_eq_true rfl⟩) hK hP hD hS hA ⟨rfl, rfl, rfl, by decide, rfl, rfl, rfl⟩ 5 0 rfl rfl rfl hl.1 rfl (Nat.le_of_ble_eq_true rfl) dX6_turn_37 ⟨Nat.le_of_ble_eq_true rfl, Nat.le_of_ble_eq_true rfl⟩ rfl rfl (fun H locs hP hD hS => ?_)
  refine kIfEqB (tgt := 45) hx hb dX6_turn_40 (by decide) (fun h9 => (absurd h9 (by decide))) (fun c_40 => ?_)
  refine lv_iconst (v := 0) hx hb dX6_turn_43 (by decide) ?_
  exact hend _ _ _ _ _ _ dX6_turn_44 hP hD hS rfl rfl
abbrev rmX6_turn2 : Room := { frames := 1, cells := 0, slots := 0, locals := 21 }
set_option maxRecDepth 100000 in
set_option maxHeartbeats 4000000 in
theorem kX6_turn2 (l : Launch) (G : va_G) (cI cZ cJ cD : ClassId) (z0 z1 z2 z3 z4 z5 w h : Nat) (hw : w ≤ 24) (hh : h ≤ 24) (cd : Int32) (P N : Nat → Bool) (ze : Nat → Int32) (le ue re de : Int32) (mk ms : Bool) (mn : UInt64) (tc : Nat) (TM LN : Nat → Int32) (ba br : Int32) (a ex : Int32) (hbad : ¬ a < -2000) (hb2 : ¬ a ≤ 2000) : Ci l G (kTy cI cZ cJ cD) yX6_turn wsX6_turn rmX6_turn2 [.ref z0, .int a, .int ex] [(z0, .inr (5, [.int cd, .int (nI w), .int (nI h), .ref z1, .ref z2, .ref z3, .int (b2i mk), .int (b2i ms), .double mn, .ref z4, .int (nI tc), .ref z5, .int ba, .int br])), (z1, .inl (cZ, 576, .inl (bA P))), (z2, .inl (cZ, 576, .inl (bA N))), (z3, .inl (cI, 4, .inl (e4 ze le ue re de))), (z4, .inl (cI, 16, .inl TM)), (z5, .inl (cI, 104, .inl LN))] 0 [(z0, .inr (5, [.int 1, .int (nI w), .int (nI h), .ref z1, .ref z2, .ref z3, .int (b2i mk), .int (b2i ms), .double mn, .ref z4, .int (nI tc), .ref z5, .int ba, .int br])), (z1, .inl (cZ, 576, .inl (bA P))), (z2, .inl (cZ, 576, .inl (bA N))), (z3, .inl (cI, 4, .inl (e4 ze le ue re de))), (z4, .inl (cI, 16, .inl TM)), (z5, .inl (cI, 104, .inl LN))] := by
  refine Ci.of .int rfl rfl rfl (cc := cX6_turn) (maxL := 3) (plainFor_of_name (by decide)) rfl (Nat.le_of_ble_eq_true rfl) rfl ?_
  intro p e s m args below meth c A Q hx hb hml hts hown hA hK hP hD hS hend ls hl
  refine lv_aload_n hx hb dX6_turn_0 rfl (lv_at hl 0 rfl) ?_
  refine lv_iload_n hx hb dX6_turn_1 rfl (lv_at hl 1 rfl) ?_
  refine lv_sipush (v := (-2000)) hx hb dX6_turn_2 (by decide) ?_
  refine lv_icmp_lt (tgt := 15) hx hb dX6_turn_5 (by decide) (fun h9 => absurd h9 hbad) (fun c_5 => ?_)
  refine lv_iload_n hx hb dX6_turn_8 rfl (lv_at hl 1 rfl) ?_
  refine lv_sipush (v := 2000) hx hb dX6_turn_9 (by decide) ?_
  refine lv_icmp_le (tgt := 19) hx hb dX6_turn_12 (by decide) (fun h9 => absurd h9 hb2) (fun c_12 => ?_)
  refine lv_iconst (v := 1) hx hb dX6_turn_15 (by decide) ?_
  refine lv_goto (tgt := 37) hx hb dX6_turn_16 (by decide) ?_
  refine kVi (w' := [(z0, .inr (5, [.int 1, .int (nI w), .int (nI h), .ref z1, .ref z2, .ref z3, .int (b2i mk), .int (b2i ms), .double mn, .ref z4, .int (nI tc), .ref z5, .int ba, .int br])), (z1, .inl (cZ, 576, .inl (bA P))), (z2, .inl (cZ, 576, .inl (bA N))), (z3, .inl (cI, 4, .inl (e4 ze le ue re de))), (z4, .inl (cI, 16, .inl TM)), (z5, .inl (cI, 104, .inl LN))]) (wr := []) (isC := [0, 1, 2, 3, 4, 5]) (isR := []) (pm := [0, 1, 2, 3, 4, 5]) (rest := []) (kX6_refuses l G cI cZ cJ cD z0 z1 z2 z3 z4 z5 w h hw hh cd P N ze le ue re de mk ms mn tc TM LN ba br 1) ⟨hx, hb, hml, hown, hts⟩ (cwV 1 hts gX6_turn_X6_refuses rfl rfl rfl hd_X6_refuses ⟨Nat.le_of_ble_eq_true rfl, Nat.le_of_ble_eq_true rfl⟩) hK hP hD hS hA ⟨rfl, rfl, rfl, by decide, rfl, rfl, rfl⟩ 5 0 rfl rfl rfl hl.1 rfl (Nat.le_of_ble_eq_true rfl) dX6_turn_37 ⟨Nat.le_of_ble_eq_true rfl, Nat.le_of_ble_eq_true rfl⟩ rfl rfl (fun H locs hP hD hS => ?_)
  refine kIfEqB (tgt := 45) hx hb dX6_turn_40 (by decide) (fun h9 => (absurd h9 (by decide))) (fun c_40 => ?_)
  refine lv_iconst (v := 0) hx hb dX6_turn_43 (by decide) ?_
  exact hend _ _ _ _ _ _ dX6_turn_44 hP hD hS rfl rfl
theorem in_kX6_turn3_X6 : ∀ w ∈ u_ws RX6 TX6 14, w ∈ wsX6_turn := by decide +kernel
theorem fl_kX6_turn3_144 : Cond.fieldLink RX6 144 "SkewFindModel" "turnCount" "I" ∈ wsX6_turn := by decide +kernel
abbrev rmX6_turn3 : Room := { frames := 1, cells := 0, slots := 0, locals := 21 }
set_option maxRecDepth 100000 in
set_option maxHeartbeats 4000000 in
theorem kX6_turn3 (l : Launch) (G : va_G) (cI cZ cJ cD : ClassId) (z0 z1 z2 z3 z4 z5 w h : Nat) (hw : w ≤ 24) (hh : h ≤ 24) (cd : Int32) (P N : Nat → Bool) (ze : Nat → Int32) (le ue re de : Int32) (mk ms : Bool) (mn : UInt64) (tc : Nat) (TM LN : Nat → Int32) (ba br : Int32) (a : Int32) (hg1 : ¬ a < -2000) (hg2 : a ≤ 2000) (htc : tc = 16) : Ci l G (kTy cI cZ cJ cD) yX6_turn wsX6_turn rmX6_turn3 [.ref z0, .int a, .int 1] [(z0, .inr (5, [.int cd, .int (nI w), .int (nI h), .ref z1, .ref z2, .ref z3, .int (b2i mk), .int (b2i ms), .double mn, .ref z4, .int (nI tc), .ref z5, .int ba, .int br])), (z1, .inl (cZ, 576, .inl (bA P))), (z2, .inl (cZ, 576, .inl (bA N))), (z3, .inl (cI, 4, .inl (e4 ze le ue re de))), (z4, .inl (cI, 16, .inl TM)), (z5, .inl (cI, 104, .inl LN))] 0 [(z0, .inr (5, [.int 2, .int (nI w), .int (nI h), .ref z1, .ref z2, .ref z3, .int (b2i mk), .int (b2i ms), .double mn, .ref z4, .int (nI tc), .ref z5, .int ba, .int br])), (z1, .inl (cZ, 576, .inl (bA P))), (z2, .inl (cZ, 576, .inl (bA N))), (z3, .inl (cI, 4, .inl (e4 ze le ue re de))), (z4, .inl (cI, 16, .inl TM)), (z5, .inl (cI, 104, .inl LN))] := by
  refine Ci.of .int rfl rfl rfl (cc := cX6_turn) (maxL := 3) (plainFor_of_name (by decide)) rfl (Nat.le_of_ble_eq_true rfl) rfl ?_
  intro p e s m args below meth c A Q hx hb hml hts hown hA hK hP hD hS hend ls hl
  refine lv_aload_n hx hb dX6_turn_0 rfl (lv_at hl 0 rfl) ?_
  refine lv_iload_n hx hb dX6_turn_1 rfl (lv_at hl 1 rfl) ?_
  refine lv_sipush (v := (-2000)) hx hb dX6_turn_2 (by decide) ?_
  refine lv_icmp_lt (tgt := 15) hx hb dX6_turn_5 (by decide) (fun h9 => absurd h9 hg1) (fun c_5 => ?_)
  refine lv_iload_n hx hb dX6_turn_8 rfl (lv_at hl 1 rfl) ?_
  refine lv_sipush (v := 2000) hx hb dX6_turn_9 (by decide) ?_
  refine lv_icmp_le (tgt := 19) hx hb dX6_turn_12 (by decide) (fun c_12 => ?_) (fun h9 => absurd hg2 h9)
  refine lv_iload_n hx hb dX6_turn_19 rfl (lv_at hl 2 rfl) ?_
  refine lv_if_eq (tgt := 36) hx hb dX6_turn_20 (by decide) (fun h9 => (absurd h9 (by decide))) (fun c_20 => ?_)
  refine lv_aload_n hx hb dX6_turn_23 rfl (lv_at hl 0 rfl) ?_
  refine va_get (D := G) (ci := 5) (v := .int (nI tc)) (C := RX6) (T := TX6) (N := 14) hx hb hts in_kX6_turn3_X6 hown hK hP 0 rfl rfl 10 (by decide) (hts _ fl_kX6_turn3_144) (fun _ h9 => h9) rfl dX6_turn_24 ?_
  refine lv_bipush (v := 16) hx hb dX6_turn_27 (by decide) ?_
  refine lv_icmp_ne (tgt := 36) hx hb dX6_turn_29 (by decide) (fun h9 => (absurd (by rw [htc]; rfl) h9)) (fun c_29 => ?_)
  refine lv_iconst (v := 2) hx hb dX6_turn_32 (by decide) ?_
  refine lv_goto (tgt := 37) hx hb dX6_turn_33 (by decide) ?_
  refine kVi (w' := [(z0, .inr (5, [.int 2, .int (nI w), .int (nI h), .ref z1, .ref z2, .ref z3, .int (b2i mk), .int (b2i ms), .double mn, .ref z4, .int (nI tc), .ref z5, .int ba, .int br])), (z1, .inl (cZ, 576, .inl (bA P))), (z2, .inl (cZ, 576, .inl (bA N))), (z3, .inl (cI, 4, .inl (e4 ze le ue re de))), (z4, .inl (cI, 16, .inl TM)), (z5, .inl (cI, 104, .inl LN))]) (wr := []) (isC := [0, 1, 2, 3, 4, 5]) (isR := []) (pm := [0, 1, 2, 3, 4, 5]) (rest := []) (kX6_refuses l G cI cZ cJ cD z0 z1 z2 z3 z4 z5 w h hw hh cd P N ze le ue re de mk ms mn tc TM LN ba br 2) ⟨hx, hb, hml, hown, hts⟩ (cwV 1 hts gX6_turn_X6_refuses rfl rfl rfl hd_X6_refuses ⟨Nat.le_of_ble_eq_true rfl, Nat.le_of_ble_eq_true rfl⟩) hK hP hD hS hA ⟨rfl, rfl, rfl, by decide, rfl, rfl, rfl⟩ 5 0 rfl rfl rfl hl.1 rfl (Nat.le_of_ble_eq_true rfl) dX6_turn_37 ⟨Nat.le_of_ble_eq_true rfl, Nat.le_of_ble_eq_true rfl⟩ rfl rfl (fun H locs hP hD hS => ?_)
  refine kIfEqB (tgt := 45) hx hb dX6_turn_40 (by decide) (fun h9 => (absurd h9 (by decide))) (fun c_40 => ?_)
  refine lv_iconst (v := 0) hx hb dX6_turn_43 (by decide) ?_
  exact hend _ _ _ _ _ _ dX6_turn_44 hP hD hS rfl rfl
theorem in_kX6_back0_X6 : ∀ w ∈ u_ws RX6 TX6 14, w ∈ wsX6_back := by decide +kernel
theorem fl_kX6_back0_36 : Cond.fieldLink RX6 36 "SkewFindModel" "code" "I" ∈ wsX6_back := by decide +kernel
theorem fl_kX6_back0_144 : Cond.fieldLink RX6 144 "SkewFindModel" "turnCount" "I" ∈ wsX6_back := by decide +kernel
abbrev rmX6_back0 : Room := { frames := 0, cells := 0, slots := 0, locals := 0 }
set_option maxRecDepth 100000 in
set_option maxHeartbeats 4000000 in
theorem kX6_back0 (l : Launch) (G : va_G) (cI cZ cJ cD : ClassId) (z0 z1 z2 z3 z4 z5 w h : Nat) (hw : w ≤ 24) (hh : h ≤ 24) (cd : Int32) (P N : Nat → Bool) (ze : Nat → Int32) (le ue re de : Int32) (mk ms : Bool) (mn : UInt64) (TM LN : Nat → Int32) (ba br : Int32)  : Ci l G (kTy cI cZ cJ cD) yX6_back wsX6_back rmX6_back0 [.ref z0] [(z0, .inr (5, [.int cd, .int (nI w), .int (nI h), .ref z1, .ref z2, .ref z3, .int (b2i mk), .int (b2i ms), .double mn, .ref z4, .int (nI 0), .ref z5, .int ba, .int br])), (z1, .inl (cZ, 576, .inl (bA P))), (z2, .inl (cZ, 576, .inl (bA N))), (z3, .inl (cI, 4, .inl (e4 ze le ue re de))), (z4, .inl (cI, 16, .inl TM)), (z5, .inl (cI, 104, .inl LN))] ((-1)) [(z0, .inr (5, [.int 0, .int (nI w), .int (nI h), .ref z1, .ref z2, .ref z3, .int (b2i mk), .int (b2i ms), .double mn, .ref z4, .int (nI 0), .ref z5, .int ba, .int br])), (z1, .inl (cZ, 576, .inl (bA P))), (z2, .inl (cZ, 576, .inl (bA N))), (z3, .inl (cI, 4, .inl (e4 ze le ue re de))), (z4, .inl (cI, 16, .inl TM)), (z5, .inl (cI, 104, .inl LN))] := by
  refine Ci.of .int rfl rfl rfl (cc := cX6_back) (maxL := 1) (plainFor_of_name (by decide)) rfl (Nat.le_of_ble_eq_true rfl) rfl ?_
  intro p e s m args below meth c A Q hx hb hml hts hown hA hK hP hD hS hend ls hl
  refine lv_aload_n hx hb dX6_back_0 rfl (lv_at hl 0 rfl) ?_
  refine lv_iconst (v := 0) hx hb dX6_back_1 (by decide) ?_
  refine va_put (D := G) (ci := 5) (v := .int 0) (ty := .int) (C := RX6) (T := TX6) (N := 14) hx hb hts in_kX6_back0_X6 tyX6 tyX6_ok nmX6 hown hK hP hD hS 0 rfl rfl 0 (by decide) (hts _ fl_kX6_back0_36) (fun _ h9 => h9) rfl (by decide +kernel) rfl rfl (Nat.le_of_ble_eq_true rfl) dX6_back_2 (fun H locs (hP : va_P G vwCl [(z0, .inr (5, [.int 0, .int (nI w), .int (nI h), .ref z1, .ref z2, .ref z3, .int (b2i mk), .int (b2i ms), .double mn, .ref z4, .int (nI 0), .ref z5, .int ba, .int br])), (z1, .inl (cZ, 576, .inl (bA P))), (z2, .inl (cZ, 576, .inl (bA N))), (z3, .inl (cI, 4, .inl (e4 ze le ue re de))), (z4, .inl (cI, 16, .inl TM)), (z5, .inl (cI, 104, .inl LN))] H) (hD : va_D A [(z0, .inr (5, [.int 0, .int (nI w), .int (nI h), .ref z1, .ref z2, .ref z3, .int (b2i mk), .int (b2i ms), .double mn, .ref z4, .int (nI 0), .ref z5, .int ba, .int br])), (z1, .inl (cZ, 576, .inl (bA P))), (z2, .inl (cZ, 576, .inl (bA N))), (z3, .inl (cI, 4, .inl (e4 ze le ue re de))), (z4, .inl (cI, 16, .inl TM)), (z5, .inl (cI, 104, .inl LN))]) hS => ?_)
  refine lv_aload_n hx hb dX6_back_5 rfl (lv_at hl 0 rfl) ?_
  refine va_get (D := G) (ci := 5) (v := .int (nI 0)) (C := RX6) (T := TX6) (N := 14) hx hb hts in_kX6_back0_X6 hown hK hP 0 rfl rfl 10 (by decide) (hts _ fl_kX6_back0_144) (fun _ h9 => h9) rfl dX6_back_6 ?_
  refine lv_if_ne (tgt := 14) hx hb dX6_back_9 (by decide) (fun h9 => (absurd rfl h9)) (fun c_9 => ?_)
  refine lv_iconst (v := (-1)) hx hb dX6_back_12 (by decide) ?_
  exact hend _ _ _ _ _ _ dX6_back_13 hP hD hS rfl rfl
theorem in_kX6_backN_X6 : ∀ w ∈ u_ws RX6 TX6 14, w ∈ wsX6_back := by decide +kernel
theorem fl_kX6_backN_36 : Cond.fieldLink RX6 36 "SkewFindModel" "code" "I" ∈ wsX6_back := by decide +kernel
theorem fl_kX6_backN_144 : Cond.fieldLink RX6 144 "SkewFindModel" "turnCount" "I" ∈ wsX6_back := by decide +kernel
theorem fl_kX6_backN_20 : Cond.fieldLink RX6 20 "SkewFindModel" "turns" "[I" ∈ wsX6_back := by decide +kernel
abbrev rmX6_backN : Room := { frames := 3, cells := 0, slots := 0, locals := 76 }
set_option maxRecDepth 100000 in
set_option maxHeartbeats 4000000 in
theorem kX6_backN (l : Launch) (G : va_G) (cI cZ cJ cD : ClassId) (z0 z1 z2 z3 z4 z5 w h : Nat) (hw : w ≤ 24) (hh : h ≤ 24) (cd : Int32) (P N : Nat → Bool) (ze : Nat → Int32) (le ue re de : Int32) (mk ms : Bool) (mn : UInt64) (TM LN : Nat → Int32) (ba br : Int32) (hw0 : 0 < w) (hh0 : 0 < h) (k0 : Nat) (hk0 : k0 < 16) (ha1 : -2000 ≤ (TM k0).toInt) (ha2 : (TM k0).toInt ≤ 2000) : Ci l G (kTy cI cZ cJ cD) yX6_back wsX6_back rmX6_backN [.ref z0] [(z0, .inr (5, [.int cd, .int (nI w), .int (nI h), .ref z1, .ref z2, .ref z3, .int (b2i mk), .int (b2i ms), .double mn, .ref z4, .int (nI (k0 + 1)), .ref z5, .int ba, .int br])), (z1, .inl (cZ, 576, .inl (bA P))), (z2, .inl (cZ, 576, .inl (bA N))), (z3, .inl (cI, 4, .inl (e4 ze le ue re de))), (z4, .inl (cI, 16, .inl TM)), (z5, .inl (cI, 104, .inl LN))] (nI k0) [(z0, .inr (5, [.int 0, .int (nI w), .int (nI h), .ref z1, .ref z2, .ref z3, .int (b2i false), .int (b2i ms), .double mn, .ref z4, .int (nI k0), .ref z5, .int ba, .int br])), (z1, .inl (cZ, 576, .inl (bA (shP w h (TM k0) (-1) P N)))), (z2, .inl (cZ, 576, .inl (bA (shN w h (TM k0) (-1) P N)))), (z3, .inl (cI, 4, .inl (e4 ze 0 0 (nI w) (nI h)))), (z4, .inl (cI, 16, .inl TM)), (z5, .inl (cI, 104, .inl LN))] := by
  refine Ci.of .int rfl rfl rfl (cc := cX6_back) (maxL := 1) (plainFor_of_name (by decide)) rfl (Nat.le_of_ble_eq_true rfl) rfl ?_
  intro p e s m args below meth c A Q hx hb hml hts hown hA hK hP hD hS hend ls hl
  refine lv_aload_n hx hb dX6_back_0 rfl (lv_at hl 0 rfl) ?_
  refine lv_iconst (v := 0) hx hb dX6_back_1 (by decide) ?_
  refine va_put (D := G) (ci := 5) (v := .int 0) (ty := .int) (C := RX6) (T := TX6) (N := 14) hx hb hts in_kX6_backN_X6 tyX6 tyX6_ok nmX6 hown hK hP hD hS 0 rfl rfl 0 (by decide) (hts _ fl_kX6_backN_36) (fun _ h9 => h9) rfl (by decide +kernel) rfl rfl (Nat.le_of_ble_eq_true rfl) dX6_back_2 (fun H locs (hP : va_P G vwCl [(z0, .inr (5, [.int 0, .int (nI w), .int (nI h), .ref z1, .ref z2, .ref z3, .int (b2i mk), .int (b2i ms), .double mn, .ref z4, .int (nI (k0 + 1)), .ref z5, .int ba, .int br])), (z1, .inl (cZ, 576, .inl (bA P))), (z2, .inl (cZ, 576, .inl (bA N))), (z3, .inl (cI, 4, .inl (e4 ze le ue re de))), (z4, .inl (cI, 16, .inl TM)), (z5, .inl (cI, 104, .inl LN))] H) (hD : va_D A [(z0, .inr (5, [.int 0, .int (nI w), .int (nI h), .ref z1, .ref z2, .ref z3, .int (b2i mk), .int (b2i ms), .double mn, .ref z4, .int (nI (k0 + 1)), .ref z5, .int ba, .int br])), (z1, .inl (cZ, 576, .inl (bA P))), (z2, .inl (cZ, 576, .inl (bA N))), (z3, .inl (cI, 4, .inl (e4 ze le ue re de))), (z4, .inl (cI, 16, .inl TM)), (z5, .inl (cI, 104, .inl LN))]) hS => ?_)
  refine lv_aload_n hx hb dX6_back_5 rfl (lv_at hl 0 rfl) ?_
  refine va_get (D := G) (ci := 5) (v := .int (nI (k0 + 1))) (C := RX6) (T := TX6) (N := 14) hx hb hts in_kX6_backN_X6 hown hK hP 0 rfl rfl 10 (by decide) (hts _ fl_kX6_backN_144) (fun _ h9 => h9) rfl dX6_back_6 ?_
  refine lv_if_ne (tgt := 14) hx hb dX6_back_9 (by decide) (fun c_9 => ?_) (fun h9 => (absurd h9 (nI_ne0 (by omega) (by omega))))
  refine lv_aload_n hx hb dX6_back_14 rfl (lv_at hl 0 rfl) ?_
  refine lv_dup hx hb dX6_back_15 rfl ?_
  refine va_get (D := G) (ci := 5) (v := .int (nI (k0 + 1))) (C := RX6) (T := TX6) (N := 14) hx hb hts in_kX6_backN_X6 hown hK hP 0 rfl rfl 10 (by decide) (hts _ fl_kX6_backN_144) (fun _ h9 => h9) rfl dX6_back_16 ?_
  refine lv_iconst (v := 1) hx hb dX6_back_19 (by decide) ?_
  refine lv_isub hx hb dX6_back_20 ?_
  refine kTopI (z := nI k0) (nI_pred _) ?_
  refine va_put (D := G) (ci := 5) (v := .int (nI k0)) (ty := .int) (C := RX6) (T := TX6) (N := 14) hx hb hts in_kX6_backN_X6 tyX6 tyX6_ok nmX6 hown hK hP hD hS 0 rfl rfl 10 (by decide) (hts _ fl_kX6_backN_144) (fun _ h9 => h9) rfl (by decide +kernel) rfl rfl (Nat.le_of_ble_eq_true rfl) dX6_back_21 (fun H locs (hP : va_P G vwCl [(z0, .inr (5, [.int 0, .int (nI w), .int (nI h), .ref z1, .ref z2, .ref z3, .int (b2i mk), .int (b2i ms), .double mn, .ref z4, .int (nI k0), .ref z5, .int ba, .int br])), (z1, .inl (cZ, 576, .inl (bA P))), (z2, .inl (cZ, 576, .inl (bA N))), (z3, .inl (cI, 4, .inl (e4 ze le ue re de))), (z4, .inl (cI, 16, .inl TM)), (z5, .inl (cI, 104, .inl LN))] H) (hD : va_D A [(z0, .inr (5, [.int 0, .int (nI w), .int (nI h), .ref z1, .ref z2, .ref z3, .int (b2i mk), .int (b2i ms), .double mn, .ref z4, .int (nI k0), .ref z5, .int ba, .int br])), (z1, .inl (cZ, 576, .inl (bA P))), (z2, .inl (cZ, 576, .inl (bA N))), (z3, .inl (cI, 4, .inl (e4 ze le ue re de))), (z4, .inl (cI, 16, .inl TM)), (z5, .inl (cI, 104, .inl LN))]) hS => ?_)
  refine lv_aload_n hx hb dX6_back_24 rfl (lv_at hl 0 rfl) ?_
  refine lv_aload_n hx hb dX6_back_25 rfl (lv_at hl 0 rfl) ?_
  refine va_get (D := G) (ci := 5) (v := .ref z4) (C := RX6) (T := TX6) (N := 14) hx hb hts in_kX6_backN_X6 hown hK hP 0 rfl rfl 9 (by decide) (hts _ fl_kX6_backN_20) (fun _ h9 => h9) rfl dX6_back_26 ?_
  refine lv_aload_n hx hb dX6_back_29 rfl (lv_at hl 0 rfl) ?_
  refine va_get (D := G) (ci := 5) (v := .int (nI k0)) (C := RX6) (T := TX6) (N := 14) hx hb hts in_kX6_backN_X6 hown hK hP 0 rfl rfl 10 (by decide) (hts _ fl_kX6_backN_144) (fun _ h9 => h9) rfl dX6_back_30 ?_
  refine va_iald hx hb hK hP 4 0 rfl rfl (vp_in_nI (by omega) (by omega)) dX6_back_33 ?_
  rw [nI_clamp (n := k0) (by omega)]
  refine lv_iconst (v := (-1)) hx hb dX6_back_34 (by decide) ?_
  refine kVv (w' := [(z0, .inr (5, [.int 0, .int (nI w), .int (nI h), .ref z1, .ref z2, .ref z3, .int (b2i mk), .int (b2i ms), .double mn, .ref z4, .int (nI k0), .ref z5, .int ba, .int br])), (z1, .inl (cZ, 576, .inl (bA (shP w h (TM k0) ((-1)) P N)))), (z2, .inl (cZ, 576, .inl (bA (shN w h (TM k0) ((-1)) P N)))), (z3, .inl (cI, 4, .inl (e4 ze le ue re de))), (z4, .inl (cI, 16, .inl TM)), (z5, .inl (cI, 104, .inl LN))]) (wr := []) (isC := [0, 1, 2, 3, 4, 5]) (isR := []) (pm := [0, 1, 2, 3, 4, 5]) (rest := []) (kX6_shear l G cI cZ cJ cD z0 z1 z2 z3 z4 z5 w h hw hh 0 P N ze le ue re de mk ms mn k0 TM LN ba br hw0 hh0 (TM k0) ha1 ha2 ((-1))) ⟨hx, hb, hml, hown, hts⟩ (cwV 2 hts gX6_back_X6_shear rfl rfl rfl hd_X6_shear ⟨Nat.le_of_ble_eq_true rfl, Nat.le_of_ble_eq_true rfl⟩) hK hP hD hS hA ⟨rfl, rfl, rfl, by decide, rfl, rfl, rfl⟩ 5 0 rfl rfl rfl hl.1 rfl (Nat.le_of_ble_eq_true rfl) dX6_back_35 ⟨Nat.le_of_ble_eq_true rfl, Nat.le_of_ble_eq_true rfl⟩ rfl rfl (fun H locs hP hD hS => ?_)
  refine lv_aload_n hx hb dX6_back_38 rfl (lv_at hl 0 rfl) ?_
  refine kVv (w' := [(z0, .inr (5, [.int 0, .int (nI w), .int (nI h), .ref z1, .ref z2, .ref z3, .int (b2i false), .int (b2i ms), .double mn, .ref z4, .int (nI k0), .ref z5, .int ba, .int br])), (z1, .inl (cZ, 576, .inl (bA ((shP w h (TM k0) ((-1)) P N))))), (z2, .inl (cZ, 576, .inl (bA ((shN w h (TM k0) ((-1)) P N))))), (z3, .inl (cI, 4, .inl (e4 ze 0 0 (nI w) (nI h)))), (z4, .inl (cI, 16, .inl TM)), (z5, .inl (cI, 104, .inl LN))]) (wr := []) (isC := [0, 1, 2, 3, 4, 5]) (isR := []) (pm := [0, 1, 2, 3, 4, 5]) (rest := []) (kX6_whole l G cI cZ cJ cD z0 z1 z2 z3 z4 z5 w h hw hh 0 ((shP w h (TM k0) ((-1)) P N)) ((shN w h (TM k0) ((-1)) P N)) ze le ue re de mk ms mn k0 TM LN ba br ) ⟨hx, hb, hml, hown, hts⟩ (cwV 0 hts gX6_back_X6_whole rfl rfl rfl hd_X6_whole ⟨Nat.le_of_ble_eq_true rfl, Nat.le_of_ble_eq_true rfl⟩) hK hP hD hS hA ⟨rfl, rfl, rfl, by decide, rfl, rfl, rfl⟩ 5 0 rfl rfl rfl hl.1 rfl (Nat.le_of_ble_eq_true rfl) dX6_back_39 ⟨Nat.le_of_ble_eq_true rfl, Nat.le_of_ble_eq_true rfl⟩ rfl rfl (fun H locs hP hD hS => ?_)
  refine lv_aload_n hx hb dX6_back_42 rfl (lv_at hl 0 rfl) ?_
  refine va_get (D := G) (ci := 5) (v := .int (nI k0)) (C := RX6) (T := TX6) (N := 14) hx hb hts in_kX6_backN_X6 hown hK hP 0 rfl rfl 10 (by decide) (hts _ fl_kX6_backN_144) (fun _ h9 => h9) rfl dX6_back_43 ?_
  exact hend _ _ _ _ _ _ dX6_back_46 hP hD hS rfl rfl
theorem in_kX6_told_X6 : ∀ w ∈ u_ws RX6 TX6 14, w ∈ wsX6_told := by decide +kernel
theorem fl_kX6_told_36 : Cond.fieldLink RX6 36 "SkewFindModel" "code" "I" ∈ wsX6_told := by decide +kernel
theorem fl_kX6_told_26 : Cond.fieldLink RX6 26 "SkewFindModel" "width" "I" ∈ wsX6_told := by decide +kernel
theorem fl_kX6_told_30 : Cond.fieldLink RX6 30 "SkewFindModel" "height" "I" ∈ wsX6_told := by decide +kernel
theorem fl_kX6_told_144 : Cond.fieldLink RX6 144 "SkewFindModel" "turnCount" "I" ∈ wsX6_told := by decide +kernel
abbrev rmX6_told : Room := { frames := 3, cells := 0, slots := 0, locals := 67 }
set_option maxRecDepth 100000 in
set_option maxHeartbeats 4000000 in
theorem kX6_told (l : Launch) (G : va_G) (cI cZ cJ cD : ClassId) (z0 z1 z2 z3 z4 z5 w h : Nat) (hw : w ≤ 24) (hh : h ≤ 24) (cd : Int32) (P N : Nat → Bool) (ze : Nat → Int32) (le ue re de : Int32) (mk ms : Bool) (mn : UInt64) (tc : Nat) (TM LN : Nat → Int32) (ba br : Int32) (q : Int32) : Ci l G (kTy cI cZ cJ cD) yX6_told wsX6_told rmX6_told [.ref z0, .int q] [(z0, .inr (5, [.int cd, .int (nI w), .int (nI h), .ref z1, .ref z2, .ref z3, .int (b2i mk), .int (b2i ms), .double mn, .ref z4, .int (nI tc), .ref z5, .int ba, .int br])), (z1, .inl (cZ, 576, .inl (bA P))), (z2, .inl (cZ, 576, .inl (bA N))), (z3, .inl (cI, 4, .inl (e4 ze le ue re de))), (z4, .inl (cI, 16, .inl TM)), (z5, .inl (cI, 104, .inl LN))] (mTld w h P tc q) [(z0, .inr (5, [.int 0, .int (nI w), .int (nI h), .ref z1, .ref z2, .ref z3, .int (b2i mk), .int (b2i ms), .double mn, .ref z4, .int (nI tc), .ref z5, .int ba, .int br])), (z1, .inl (cZ, 576, .inl (bA P))), (z2, .inl (cZ, 576, .inl (bA N))), (z3, .inl (cI, 4, .inl (e4 ze le ue re de))), (z4, .inl (cI, 16, .inl TM)), (z5, .inl (cI, 104, .inl LN))] := by
  refine Ci.of .int rfl rfl rfl (cc := cX6_told) (maxL := 2) (plainFor_of_name (by decide)) rfl (Nat.le_of_ble_eq_true rfl) rfl ?_
  intro p e s m args below meth c A Q hx hb hml hts hown hA hK hP hD hS hend ls hl
  refine lv_aload_n hx hb dX6_told_0 rfl (lv_at hl 0 rfl) ?_
  refine lv_iconst (v := 0) hx hb dX6_told_1 (by decide) ?_
  refine va_put (D := G) (ci := 5) (v := .int 0) (ty := .int) (C := RX6) (T := TX6) (N := 14) hx hb hts in_kX6_told_X6 tyX6 tyX6_ok nmX6 hown hK hP hD hS 0 rfl rfl 0 (by decide) (hts _ fl_kX6_told_36) (fun _ h9 => h9) rfl (by decide +kernel) rfl rfl (Nat.le_of_ble_eq_true rfl) dX6_told_2 (fun H locs (hP : va_P G vwCl [(z0, .inr (5, [.int 0, .int (nI w), .int (nI h), .ref z1, .ref z2, .ref z3, .int (b2i mk), .int (b2i ms), .double mn, .ref z4, .int (nI tc), .ref z5, .int ba, .int br])), (z1, .inl (cZ, 576, .inl (bA P))), (z2, .inl (cZ, 576, .inl (bA N))), (z3, .inl (cI, 4, .inl (e4 ze le ue re de))), (z4, .inl (cI, 16, .inl TM)), (z5, .inl (cI, 104, .inl LN))] H) (hD : va_D A [(z0, .inr (5, [.int 0, .int (nI w), .int (nI h), .ref z1, .ref z2, .ref z3, .int (b2i mk), .int (b2i ms), .double mn, .ref z4, .int (nI tc), .ref z5, .int ba, .int br])), (z1, .inl (cZ, 576, .inl (bA P))), (z2, .inl (cZ, 576, .inl (bA N))), (z3, .inl (cI, 4, .inl (e4 ze le ue re de))), (z4, .inl (cI, 16, .inl TM)), (z5, .inl (cI, 104, .inl LN))]) hS => ?_)
  refine lv_iload_n hx hb dX6_told_5 rfl (lv_at hl 1 rfl) ?_
  by_cases c_6_0 : q = 0
  · refine lv_tableIn (off := 34) (tgt := 40) hx hb dX6_told_6 (by rw [c_6_0]; decide) (by rw [c_6_0]; decide) (by rw [c_6_0]; rfl) (by decide) ?_
    refine lv_aload_n hx hb dX6_told_40 rfl (lv_at hl 0 rfl) ?_
    refine va_get (D := G) (ci := 5) (v := .int (nI w)) (C := RX6) (T := TX6) (N := 14) hx hb hts in_kX6_told_X6 hown hK hP 0 rfl rfl 1 (by decide) (hts _ fl_kX6_told_26) (fun _ h9 => h9) rfl dX6_told_41 ?_
    exact hend _ _ _ _ _ _ dX6_told_44 hP hD hS (by first | (simp only [mTld, c_6_0, ↓reduceIte]; done) | (simp [mTld, c_6_0]; done) | rfl) rfl
  by_cases c_6_1 : q = 1
  · refine lv_tableIn (off := 39) (tgt := 45) hx hb dX6_told_6 (by rw [c_6_1]; decide) (by rw [c_6_1]; decide) (by rw [c_6_1]; rfl) (by decide) ?_
    refine lv_aload_n hx hb dX6_told_45 rfl (lv_at hl 0 rfl) ?_
    refine va_get (D := G) (ci := 5) (v := .int (nI h)) (C := RX6) (T := TX6) (N := 14) hx hb hts in_kX6_told_X6 hown hK hP 0 rfl rfl 2 (by decide) (hts _ fl_kX6_told_30) (fun _ h9 => h9) rfl dX6_told_46 ?_
    exact hend _ _ _ _ _ _ dX6_told_49 hP hD hS (by first | (simp only [mTld, c_6_0, c_6_1, ↓reduceIte]; done) | (simp [mTld, c_6_0, c_6_1]; done) | rfl) rfl
  by_cases c_6_2 : q = 2
  · refine lv_tableIn (off := 44) (tgt := 50) hx hb dX6_told_6 (by rw [c_6_2]; decide) (by rw [c_6_2]; decide) (by rw [c_6_2]; rfl) (by decide) ?_
    refine lv_aload_n hx hb dX6_told_50 rfl (lv_at hl 0 rfl) ?_
    refine kVi (w' := [(z0, .inr (5, [.int 0, .int (nI w), .int (nI h), .ref z1, .ref z2, .ref z3, .int (b2i mk), .int (b2i ms), .double mn, .ref z4, .int (nI tc), .ref z5, .int ba, .int br])), (z1, .inl (cZ, 576, .inl (bA P))), (z2, .inl (cZ, 576, .inl (bA N))), (z3, .inl (cI, 4, .inl (e4 ze le ue re de))), (z4, .inl (cI, 16, .inl TM)), (z5, .inl (cI, 104, .inl LN))]) (wr := []) (isC := [0, 1, 2, 3, 4, 5]) (isR := []) (pm := [0, 1, 2, 3, 4, 5]) (rest := []) (kX6_countOn l G cI cZ cJ cD z0 z1 z2 z3 z4 z5 w h hw hh 0 P N ze le ue re de mk ms mn tc TM LN ba br ) ⟨hx, hb, hml, hown, hts⟩ (cwV 0 hts gX6_told_X6_countOn rfl rfl rfl hd_X6_countOn ⟨Nat.le_of_ble_eq_true rfl, Nat.le_of_ble_eq_true rfl⟩) hK hP hD hS hA ⟨rfl, rfl, rfl, by decide, rfl, rfl, rfl⟩ 5 0 rfl rfl rfl hl.1 rfl (Nat.le_of_ble_eq_true rfl) dX6_told_51 ⟨Nat.le_of_ble_eq_true rfl, Nat.le_of_ble_eq_true rfl⟩ rfl rfl (fun H locs hP hD hS => ?_)
    exact hend _ _ _ _ _ _ dX6_told_54 hP hD hS (by first | (simp only [mTld, c_6_0, c_6_1, c_6_2, ↓reduceIte]; done) | (simp [mTld, c_6_0, c_6_1, c_6_2]; done) | rfl) rfl
  by_cases c_6_3 : q = 3
  · refine lv_tableIn (off := 49) (tgt := 55) hx hb dX6_told_6 (by rw [c_6_3]; decide) (by rw [c_6_3]; decide) (by rw [c_6_3]; rfl) (by decide) ?_
    refine lv_aload_n hx hb dX6_told_55 rfl (lv_at hl 0 rfl) ?_
    refine kVi (w' := [(z0, .inr (5, [.int 0, .int (nI w), .int (nI h), .ref z1, .ref z2, .ref z3, .int (b2i mk), .int (b2i ms), .double mn, .ref z4, .int (nI tc), .ref z5, .int ba, .int br])), (z1, .inl (cZ, 576, .inl (bA P))), (z2, .inl (cZ, 576, .inl (bA N))), (z3, .inl (cI, 4, .inl (e4 ze le ue re de))), (z4, .inl (cI, 16, .inl TM)), (z5, .inl (cI, 104, .inl LN))]) (wr := []) (isC := [0, 1, 2, 3, 4, 5]) (isR := []) (pm := [0, 1, 2, 3, 4, 5]) (rest := []) (kX6_countEnds l G cI cZ cJ cD z0 z1 z2 z3 z4 z5 w h hw hh 0 P N ze le ue re de mk ms mn tc TM LN ba br ) ⟨hx, hb, hml, hown, hts⟩ (cwV 0 hts gX6_told_X6_countEnds rfl rfl rfl hd_X6_countEnds ⟨Nat.le_of_ble_eq_true rfl, Nat.le_of_ble_eq_true rfl⟩) hK hP hD hS hA ⟨rfl, rfl, rfl, by decide, rfl, rfl, rfl⟩ 5 0 rfl rfl rfl hl.1 rfl (Nat.le_of_ble_eq_true rfl) dX6_told_56 ⟨Nat.le_of_ble_eq_true rfl, Nat.le_of_ble_eq_true rfl⟩ rfl rfl (fun H locs hP hD hS => ?_)
    exact hend _ _ _ _ _ _ dX6_told_59 hP hD hS (by first | (simp only [mTld, c_6_0, c_6_1, c_6_2, c_6_3, ↓reduceIte]; done) | (simp [mTld, c_6_0, c_6_1, c_6_2, c_6_3]; done) | rfl) rfl
  by_cases c_6_4 : q = 4
  · refine lv_tableIn (off := 54) (tgt := 60) hx hb dX6_told_6 (by rw [c_6_4]; decide) (by rw [c_6_4]; decide) (by rw [c_6_4]; rfl) (by decide) ?_
    refine lv_aload_n hx hb dX6_told_60 rfl (lv_at hl 0 rfl) ?_
    refine va_get (D := G) (ci := 5) (v := .int (nI tc)) (C := RX6) (T := TX6) (N := 14) hx hb hts in_kX6_told_X6 hown hK hP 0 rfl rfl 10 (by decide) (hts _ fl_kX6_told_144) (fun _ h9 => h9) rfl dX6_told_61 ?_
    exact hend _ _ _ _ _ _ dX6_told_64 hP hD hS (by first | (simp only [mTld, c_6_0, c_6_1, c_6_2, c_6_3, c_6_4, ↓reduceIte]; done) | (simp [mTld, c_6_0, c_6_1, c_6_2, c_6_3, c_6_4]; done) | rfl) rfl
  refine lv_tableOut (tgt := 65) hx hb dX6_told_6 (kSw5 c_6_0 c_6_1 c_6_2 c_6_3 c_6_4) (by decide) ?_
  refine lv_iconst (v := (-1)) hx hb dX6_told_65 (by decide) ?_
  exact hend _ _ _ _ _ _ dX6_told_66 hP hD hS (by first | (simp only [mTld, c_6_0, c_6_1, c_6_2, c_6_3, c_6_4, ↓reduceIte]; done) | (simp [mTld, c_6_0, c_6_1, c_6_2, c_6_3, c_6_4]; done) | rfl) rfl
theorem in_kX6_clear_X6 : ∀ w ∈ u_ws RX6 TX6 14, w ∈ wsX6_clear := by decide +kernel
theorem fl_kX6_clear_36 : Cond.fieldLink RX6 36 "SkewFindModel" "code" "I" ∈ wsX6_clear := by decide +kernel
theorem fl_kX6_clear_144 : Cond.fieldLink RX6 144 "SkewFindModel" "turnCount" "I" ∈ wsX6_clear := by decide +kernel
theorem fl_kX6_clear_7 : Cond.fieldLink RX6 7 "SkewFindModel" "on" "[Z" ∈ wsX6_clear := by decide +kernel
abbrev rmX6_clear : Room := { frames := 1, cells := 0, slots := 0, locals := 20 }
set_option maxRecDepth 100000 in
set_option maxHeartbeats 4000000 in
theorem kX6_clear (l : Launch) (G : va_G) (cI cZ cJ cD : ClassId) (z0 z1 z2 z3 z4 z5 w h : Nat) (hw : w ≤ 24) (hh : h ≤ 24) (cd : Int32) (P N : Nat → Bool) (ze : Nat → Int32) (le ue re de : Int32) (mk ms : Bool) (mn : UInt64) (tc : Nat) (TM LN : Nat → Int32) (ba br : Int32)  : Cv l G (kTy cI cZ cJ cD) yX6_clear wsX6_clear rmX6_clear [.ref z0] [(z0, .inr (5, [.int cd, .int (nI w), .int (nI h), .ref z1, .ref z2, .ref z3, .int (b2i mk), .int (b2i ms), .double mn, .ref z4, .int (nI tc), .ref z5, .int ba, .int br])), (z1, .inl (cZ, 576, .inl (bA P))), (z2, .inl (cZ, 576, .inl (bA N))), (z3, .inl (cI, 4, .inl (e4 ze le ue re de))), (z4, .inl (cI, 16, .inl TM)), (z5, .inl (cI, 104, .inl LN))] [(z0, .inr (5, [.int 0, .int (nI w), .int (nI h), .ref z1, .ref z2, .ref z3, .int (b2i false), .int (b2i ms), .double mn, .ref z4, .int (nI 0), .ref z5, .int ba, .int br])), (z1, .inl (cZ, 576, .inl (bA (cpB (fun _ => false) P 576)))), (z2, .inl (cZ, 576, .inl (bA N))), (z3, .inl (cI, 4, .inl (e4 ze 0 0 (nI w) (nI h)))), (z4, .inl (cI, 16, .inl TM)), (z5, .inl (cI, 104, .inl LN))] := by
  refine Cv.of rfl rfl (cc := cX6_clear) (maxL := 2) (plainFor_of_name (by decide)) rfl (Nat.le_of_ble_eq_true rfl) rfl ?_
  intro p e s m args below meth c A Q hx hb hml hts hown hA hK hP hD hS hend ls hl
  refine lv_aload_n hx hb dX6_clear_0 rfl (lv_at hl 0 rfl) ?_
  refine lv_iconst (v := 0) hx hb dX6_clear_1 (by decide) ?_
  refine va_put (D := G) (ci := 5) (v := .int 0) (ty := .int) (C := RX6) (T := TX6) (N := 14) hx hb hts in_kX6_clear_X6 tyX6 tyX6_ok nmX6 hown hK hP hD hS 0 rfl rfl 0 (by decide) (hts _ fl_kX6_clear_36) (fun _ h9 => h9) rfl (by decide +kernel) rfl rfl (Nat.le_of_ble_eq_true rfl) dX6_clear_2 (fun H locs (hP : va_P G vwCl [(z0, .inr (5, [.int 0, .int (nI w), .int (nI h), .ref z1, .ref z2, .ref z3, .int (b2i mk), .int (b2i ms), .double mn, .ref z4, .int (nI tc), .ref z5, .int ba, .int br])), (z1, .inl (cZ, 576, .inl (bA P))), (z2, .inl (cZ, 576, .inl (bA N))), (z3, .inl (cI, 4, .inl (e4 ze le ue re de))), (z4, .inl (cI, 16, .inl TM)), (z5, .inl (cI, 104, .inl LN))] H) (hD : va_D A [(z0, .inr (5, [.int 0, .int (nI w), .int (nI h), .ref z1, .ref z2, .ref z3, .int (b2i mk), .int (b2i ms), .double mn, .ref z4, .int (nI tc), .ref z5, .int ba, .int br])), (z1, .inl (cZ, 576, .inl (bA P))), (z2, .inl (cZ, 576, .inl (bA N))), (z3, .inl (cI, 4, .inl (e4 ze le ue re de))), (z4, .inl (cI, 16, .inl TM)), (z5, .inl (cI, 104, .inl LN))]) hS => ?_)
  refine lv_iconst (v := 0) hx hb dX6_clear_5 (by decide) ?_
  refine lv_istore_n (lv' := [(1, .int 0), (0, .ref z0)]) hx hb dX6_clear_6 rfl hl (by decide) rfl (fun ls hl => ?_)
  have K7 : ∀ (n7 : Nat) (i : Nat), 576 - i < n7 → (i ≤ 576) → ∀ (H : Heap) (locs : List Loc), va_P G vwCl [(z0, .inr (5, [.int 0, .int (nI w), .int (nI h), .ref z1, .ref z2, .ref z3, .int (b2i mk), .int (b2i ms), .double mn, .ref z4, .int (nI tc), .ref z5, .int ba, .int br])), (z1, .inl (cZ, 576, .inl (bA (cpB (fun _ => false) P i)))), (z2, .inl (cZ, 576, .inl (bA N))), (z3, .inl (cI, 4, .inl (e4 ze le ue re de))), (z4, .inl (cI, 16, .inl TM)), (z5, .inl (cI, 104, .inl LN))] H → va_D A [(z0, .inr (5, [.int 0, .int (nI w), .int (nI h), .ref z1, .ref z2, .ref z3, .int (b2i mk), .int (b2i ms), .double mn, .ref z4, .int (nI tc), .ref z5, .int ba, .int br])), (z1, .inl (cZ, 576, .inl (bA (cpB (fun _ => false) P i)))), (z2, .inl (cZ, 576, .inl (bA N))), (z3, .inl (cI, 4, .inl (e4 ze le ue re de))), (z4, .inl (cI, 16, .inl TM)), (z5, .inl (cI, 104, .inl LN))] → va_S A s.heap H locs → ∀ ls : Array Slot, lv_has ls 2 [(0, .ref z0), (1, .int (nI i))] → W p l e rmX6_clear s m args below meth c H locs 0 0 Q (F0 m 7 ls []) := by
    intro n7
    induction n7 with
    | zero => intro i hn; exact absurd hn (by omega)
    | succ n7 ih7 =>
      intro i hn7 h_i H locs hP hD hS ls hl
      refine lv_iload_n hx hb dX6_clear_7 rfl (lv_at hl 1 rfl) ?_
      refine lv_sipush (v := 576) hx hb dX6_clear_8 (by decide) ?_
      refine kGe (n := 576) (by omega) (by omega) (tgt := 27) hx hb dX6_clear_11 (by decide) (fun c_11 => ?_) (fun c_11 => ?_)
      · have e9 : 576 = i := by omega
        subst e9
        refine lv_aload_n hx hb dX6_clear_27 rfl (lv_at hl 0 rfl) ?_
        refine lv_iconst (v := 0) hx hb dX6_clear_28 (by decide) ?_
        refine va_put (D := G) (ci := 5) (v := .int 0) (ty := .int) (C := RX6) (T := TX6) (N := 14) hx hb hts in_kX6_clear_X6 tyX6 tyX6_ok nmX6 hown hK hP hD hS 0 rfl rfl 10 (by decide) (hts _ fl_kX6_clear_144) (fun _ h9 => h9) rfl (by decide +kernel) rfl rfl (Nat.le_of_ble_eq_true rfl) dX6_clear_29 (fun H locs (hP : va_P G vwCl [(z0, .inr (5, [.int 0, .int (nI w), .int (nI h), .ref z1, .ref z2, .ref z3, .int (b2i mk), .int (b2i ms), .double mn, .ref z4, .int 0, .ref z5, .int ba, .int br])), (z1, .inl (cZ, 576, .inl (bA (cpB (fun _ => false) P 576)))), (z2, .inl (cZ, 576, .inl (bA N))), (z3, .inl (cI, 4, .inl (e4 ze le ue re de))), (z4, .inl (cI, 16, .inl TM)), (z5, .inl (cI, 104, .inl LN))] H) (hD : va_D A [(z0, .inr (5, [.int 0, .int (nI w), .int (nI h), .ref z1, .ref z2, .ref z3, .int (b2i mk), .int (b2i ms), .double mn, .ref z4, .int 0, .ref z5, .int ba, .int br])), (z1, .inl (cZ, 576, .inl (bA (cpB (fun _ => false) P 576)))), (z2, .inl (cZ, 576, .inl (bA N))), (z3, .inl (cI, 4, .inl (e4 ze le ue re de))), (z4, .inl (cI, 16, .inl TM)), (z5, .inl (cI, 104, .inl LN))]) hS => ?_)
        refine lv_aload_n hx hb dX6_clear_32 rfl (lv_at hl 0 rfl) ?_
        refine kVv (w' := [(z0, .inr (5, [.int 0, .int (nI w), .int (nI h), .ref z1, .ref z2, .ref z3, .int (b2i false), .int (b2i ms), .double mn, .ref z4, .int 0, .ref z5, .int ba, .int br])), (z1, .inl (cZ, 576, .inl (bA ((cpB (fun _ => false) P 576))))), (z2, .inl (cZ, 576, .inl (bA N))), (z3, .inl (cI, 4, .inl (e4 ze 0 0 (nI w) (nI h)))), (z4, .inl (cI, 16, .inl TM)), (z5, .inl (cI, 104, .inl LN))]) (wr := []) (isC := [0, 1, 2, 3, 4, 5]) (isR := []) (pm := [0, 1, 2, 3, 4, 5]) (rest := []) (kX6_whole l G cI cZ cJ cD z0 z1 z2 z3 z4 z5 w h hw hh 0 ((cpB (fun _ => false) P 576)) N ze le ue re de mk ms mn 0 TM LN ba br ) ⟨hx, hb, hml, hown, hts⟩ (cwV 0 hts gX6_clear_X6_whole rfl rfl rfl hd_X6_whole ⟨Nat.le_of_ble_eq_true rfl, Nat.le_of_ble_eq_true rfl⟩) hK hP hD hS hA ⟨rfl, rfl, rfl, by decide, rfl, rfl, rfl⟩ 5 0 rfl rfl rfl hl.1 rfl (Nat.le_of_ble_eq_true rfl) dX6_clear_33 ⟨Nat.le_of_ble_eq_true rfl, Nat.le_of_ble_eq_true rfl⟩ rfl rfl (fun H locs hP hD hS => ?_)
        exact hend _ _ _ _ _ dX6_clear_36 hP hD hS rfl
      · refine lv_aload_n hx hb dX6_clear_14 rfl (lv_at hl 0 rfl) ?_
        refine va_get (D := G) (ci := 5) (v := .ref z1) (C := RX6) (T := TX6) (N := 14) hx hb hts in_kX6_clear_X6 hown hK hP 0 rfl rfl 3 (by decide) (hts _ fl_kX6_clear_7) (fun _ h9 => h9) rfl dX6_clear_15 ?_
        refine lv_iload_n hx hb dX6_clear_18 rfl (lv_at hl 1 rfl) ?_
        refine lv_iconst (v := 0) hx hb dX6_clear_19 (by decide) ?_
        refine va_zast hx hb hK hP hD hS 1 1 rfl rfl (vp_in_nI (by omega) (by omega)) dX6_clear_20 (fun H locs (hP : va_P G vwCl [(z0, .inr (5, [.int 0, .int (nI w), .int (nI h), .ref z1, .ref z2, .ref z3, .int (b2i mk), .int (b2i ms), .double mn, .ref z4, .int (nI tc), .ref z5, .int ba, .int br])), (z1, .inl (cZ, 576, .inl (upd (bA (cpB (fun _ => false) P i)) (nI i).toNatClampNeg (vp_nar .boolean 0)))), (z2, .inl (cZ, 576, .inl (bA N))), (z3, .inl (cI, 4, .inl (e4 ze le ue re de))), (z4, .inl (cI, 16, .inl TM)), (z5, .inl (cI, 104, .inl LN))] H) (hD : va_D A [(z0, .inr (5, [.int 0, .int (nI w), .int (nI h), .ref z1, .ref z2, .ref z3, .int (b2i mk), .int (b2i ms), .double mn, .ref z4, .int (nI tc), .ref z5, .int ba, .int br])), (z1, .inl (cZ, 576, .inl (upd (bA (cpB (fun _ => false) P i)) (nI i).toNatClampNeg (vp_nar .boolean 0)))), (z2, .inl (cZ, 576, .inl (bA N))), (z3, .inl (cI, 4, .inl (e4 ze le ue re de))), (z4, .inl (cI, 16, .inl TM)), (z5, .inl (cI, 104, .inl LN))]) hS => ?_)
        rw [nI_clamp (n := i) (by omega)] at hP hD
        rw [show upd (bA (cpB (fun _ => false) P i)) i (vp_nar .boolean 0) = bA (uB (cpB (fun _ => false) P i) i false) from bA_u _ _ false] at hP hD
        rw [show uB (cpB (fun _ => false) P i) i false = cpB (fun _ => false) P (i + 1) from cpB_s (fun _ => false) P i] at hP hD
        refine lv_iinc (v := nI (i + 1)) (lv' := [(1, .int (nI (i + 1))), (0, .ref z0)]) hx hb dX6_clear_21 hl (k := 1) rfl (nI_1 _) (by decide) rfl (fun ls hl => ?_)
        refine lv_goto (tgt := 7) hx hb dX6_clear_24 (by decide) ?_
        exact ih7 (i + 1) (by omega) (by omega) _ _ hP hD hS _ (lv_sub hl [1, 0] rfl)
  exact K7 (576 - 0 + 1) 0 (by omega) (by omega) _ _ (by rw [cpB_0]; exact hP) (by rw [cpB_0]; exact hD) hS _ (lv_sub hl [1, 0] rfl)
