/-! bands of rows -/
def begB (B : Nat → Int32) (y : Int32) : Bool := if rowF B y = 0 then false else if rowF B (y - 1) = 0 then true else false
def bandsN (B : Nat → Int32) : Nat → Int32
  | 0 => 0
  | i + 1 => if begB B (nI i) = true then bandsN B i + 1 else bandsN B i
def fndN (B : Nat → Int32) (k : Int32) : Nat → Nat → Int32 → Option Nat
  | 0, _, _ => none
  | n + 1, i, b => if begB B (nI i) = true then (if b = k then some i else fndN B k n (i + 1) (b + 1)) else fndN B k n (i + 1) b
theorem fndN_s (B : Nat → Int32) (k : Int32) {h i : Nat} (hi : i < h) (b : Int32) : fndN B k (h - i) i b = if begB B (nI i) = true then (if b = k then some i else fndN B k (h - (i + 1)) (i + 1) (b + 1)) else fndN B k (h - (i + 1)) (i + 1) b := by
  rw [show h - i = (h - (i + 1)) + 1 by omega]; rfl
def fndF (B : Nat → Int32) (h : Nat) (k : Int32) : Option Nat := fndN B k h 0 0
def optI : Option Nat → Int32
  | none => -1
  | some i => nI i
def behN (B : Nat → Int32) : Nat → Nat → Nat
  | 0, i => i
  | n + 1, i => if B i = 0 then i else behN B n (i + 1)
theorem behN_s (B : Nat → Int32) {h i : Nat} (hi : i < h) : behN B (h - i) i = if B i = 0 then i else behN B (h - (i + 1)) (i + 1) := by
  rw [show h - i = (h - (i + 1)) + 1 by omega]; rfl
theorem behN_in (B : Nat → Int32) : ∀ n i : Nat, i ≤ behN B n i ∧ behN B n i ≤ i + n
  | 0, i => ⟨Nat.le_refl i, Nat.le_refl i⟩
  | n + 1, i => by
    have h := behN_in B n (i + 1)
    unfold behN
    split
    · exact ⟨Nat.le_refl i, by omega⟩
    · exact ⟨by omega, by omega⟩
def behF (B : Nat → Int32) (h f : Nat) : Nat := behN B (h - f) f
theorem behF_in (B : Nat → Int32) {h f : Nat} (hf : f ≤ h) : f ≤ behF B h f ∧ behF B h f ≤ h := by
  have := behN_in B (h - f) f
  unfold behF; omega
def sumFT (B : Nat → Int32) (f n : Nat) : Int32 := sumI (fun j => popc (B (f + j))) n
def halfN (B : Nat → Int32) (h i : Nat) : Nat := (behF B h i - i) / 2
def lmuN (B : Nat → Int32) (h : Nat) : Nat → Int32
  | 0 => 0
  | i + 1 => if begB B (nI i) = true then lmuN B h i + sumFT B (behF B h i - (behF B h i - i) / 2) (behF B h i - (behF B h i - (behF B h i - i) / 2)) - sumFT B i (i + (behF B h i - i) / 2 - i) else lmuN B h i
theorem lowC {f n : Nat} (h : f + n < 2 ^ 31) : nI (f + n) - 1 < nI f ↔ n = 0 := by
  cases n with
  | zero => exact ⟨fun _ => rfl, fun _ => by
      rw [Int32.lt_iff_toInt_lt]
      cases f with
      | zero => decide
      | succ f => rw [Nat.add_zero, nI_pred, nI_toInt (by omega), nI_toInt (by omega)]; omega⟩
  | succ n =>
    rw [← Nat.add_assoc, nI_pred]
    exact ⟨fun q => absurd q (nI_nlt (by omega) (by omega)), fun q => absurd q (by omega)⟩
theorem kdec (a : Nat) : nI a + (-1) = nI a - 1 := by rw [Int32.sub_eq_add_neg]
def lowO (w h : Nat) (B : Nat → Int32) (x f : Nat) : Nat → Option Nat
  | 0 => none
  | n + 1 => if isOnB w h B (nI x) (nI (f + n)) = true then some (f + n) else lowO w h B x f n
theorem lowO_lt (w h : Nat) (B : Nat → Int32) (x f : Nat) : ∀ n y : Nat, lowO w h B x f n = some y → f ≤ y ∧ y < f + n
  | 0, y, e => by cases e
  | n + 1, y, e => by
    unfold lowO at e
    split at e
    · cases e; omega
    · have := lowO_lt w h B x f n y e; omega
def bS (F : Nat → Nat → Nat) (lo : Nat → Option Nat) : Nat → Nat
  | 0 => 0
  | x + 1 => match lo x with
    | none => bS F lo x
    | some y => bS F lo x + F x y
theorem bS_t {F : Nat → Nat → Nat} {lo : Nat → Option Nat} {x y : Nat} (h : lo x = some y) : bS F lo (x + 1) = bS F lo x + F x y := by simp [bS, h]
theorem bS_f {F : Nat → Nat → Nat} {lo : Nat → Option Nat} {x : Nat} (h : lo x = none) : bS F lo (x + 1) = bS F lo x := by simp [bS, h]
theorem bS_le {F : Nat → Nat → Nat} {lo : Nat → Option Nat} {M N : Nat} (hF : ∀ x y, x < N → y < 24 → F x y ≤ M) (hl : ∀ x y, lo x = some y → y < 24) : ∀ x, x ≤ N → bS F lo x ≤ x * M
  | 0, _ => by simp [bS]
  | x + 1, h => by
    have ih := bS_le hF hl x (by omega)
    rw [Nat.succ_mul]
    cases e : lo x with
    | none => rw [bS_f e]; omega
    | some y => rw [bS_t e]; have := hF x y (by omega) (hl x y e); omega
theorem optI_none {o : Option Nat} (h : optI o = -1) (hs : ∀ y, o = some y → y < 24) : o = none := by
  cases o with
  | none => rfl
  | some y =>
    exfalso
    have hy := hs y rfl
    have e1 : (nI y).toInt = -1 := by rw [show nI y = -1 from h]; rfl
    rw [nI_toInt (by omega)] at e1
    omega
theorem optI_some {o : Option Nat} (h : ¬ optI o = -1) : ∃ y, o = some y := by
  cases o with
  | none => exact absurd rfl h
  | some y => exact ⟨y, rfl⟩
def blF (n sX sY sXX sXY : Int32) (v : UInt64) : UInt64 := if n = 0 then FP.dconst0 else if n * sXX - sX * sX = 0 then FP.ddiv (FP.i2d sY) (FP.i2d n) else FP.dadd (FP.dmul (FP.ddiv (FP.i2d (n * sXY - sX * sY)) (FP.i2d (n * sXX - sX * sX))) v) (FP.ddiv (FP.dsub (FP.i2d sY) (FP.dmul (FP.ddiv (FP.i2d (n * sXY - sX * sY)) (FP.i2d (n * sXX - sX * sX))) (FP.i2d sX))) (FP.i2d n))
theorem fNum {a b c d : Nat} (ha : a ≤ 24) (hb : b ≤ 12696) (hc : c ≤ 552) (hd : d ≤ 552) : fIv (-(65536 * 609408)) (65536 * 609408) (FP.i2d (nI a * nI b - nI c * nI d)) := by
  have h1 : a * b ≤ 24 * 12696 := Nat.mul_le_mul ha hb
  have h2 : c * d ≤ 552 * 552 := Nat.mul_le_mul hc hd
  rw [pk_mul, pk_mul]
  have e := pk_sub_toInt (a := a * b) (b := c * d) (by omega) (by omega)
  exact fIv.i2d_in (by rw [e]; omega) (by rw [e]; omega) (by decide)
theorem in_kX2_beginsBand_X2 : ∀ w ∈ u_ws RX2 TX2 1, w ∈ wsX2_beginsBand := by decide +kernel
theorem fl_kX2_beginsBand_9 : Cond.fieldLink RX2 9 "SkewFind$Rows" "picture" "LSkewFind$Picture;" ∈ wsX2_beginsBand := by decide +kernel
abbrev rmX2_beginsBand : Room := { frames := 1, cells := 0, slots := 0, locals := 21 }
set_option maxRecDepth 100000 in
set_option maxHeartbeats 4000000 in
theorem kX2_beginsBand (l : Launch) (G : va_G) (cI cZ cJ cD : ClassId) (r0 : Nat) (h0 q1 q2 w h : Nat) (hw : w ≤ 24) (hh : h ≤ 24) (B O : Nat → Int32) (y : Int32) : Ci l G (kTy cI cZ cJ cD) yX2_beginsBand wsX2_beginsBand rmX2_beginsBand [.ref r0, .int y] [(r0, .inr (1, [.ref h0])), (h0, .inr (0, [.int (nI w), .int (nI h), .double (midF w), .double (midF h), .ref q1, .ref q2])), (q1, .inl (cI, 24, .inl B)), (q2, .inl (cI, 24, .inl O))] (b2i (begB B y)) [(r0, .inr (1, [.ref h0])), (h0, .inr (0, [.int (nI w), .int (nI h), .double (midF w), .double (midF h), .ref q1, .ref q2])), (q1, .inl (cI, 24, .inl B)), (q2, .inl (cI, 24, .inl O))] := by
  refine Ci.of .boolean (nar_b2i _) rfl rfl (cc := cX2_beginsBand) (maxL := 2) (plainFor_of_name (by decide)) rfl (Nat.le_of_ble_eq_true rfl) rfl ?_
  intro p e s m args below meth c A Q hx hb hml hts hown hA hK hP hD hS hend ls hl
  refine lv_aload_n hx hb dX2_beginsBand_0 rfl (lv_at hl 0 rfl) ?_
  refine va_get (D := G) (ci := 1) (v := .ref h0) (C := RX2) (T := TX2) (N := 1) hx hb hts in_kX2_beginsBand_X2 hown hK hP 0 rfl rfl 0 (by decide) (hts _ fl_kX2_beginsBand_9) (fun _ h9 => h9) rfl dX2_beginsBand_1 ?_
  refine lv_iload_n hx hb dX2_beginsBand_4 rfl (lv_at hl 1 rfl) ?_
  refine kVi (w' := [(r0, .inr (1, [.ref h0])), (h0, .inr (0, [.int (nI w), .int (nI h), .double (midF w), .double (midF h), .ref q1, .ref q2])), (q1, .inl (cI, 24, .inl B)), (q2, .inl (cI, 24, .inl O))]) (wr := [(r0, .inr (1, [.ref h0]))]) (isC := [1, 2, 3]) (isR := [0]) (pm := [0, 1, 2, 3]) (rest := []) (kX0_rowBits l G cI cZ cJ cD h0 q1 q2 w h hw hh B O y) ⟨hx, hb, hml, hown, hts⟩ (cwV 1 hts gX2_beginsBand_X0_rowBits rfl rfl rfl hd_X0_rowBits ⟨Nat.le_of_ble_eq_true rfl, Nat.le_of_ble_eq_true rfl⟩) hK hP hD hS hA ⟨rfl, rfl, rfl, by decide, rfl, rfl, rfl⟩ 0 1 rfl rfl rfl hl.1 rfl (Nat.le_of_ble_eq_true rfl) dX2_beginsBand_5 ⟨Nat.le_of_ble_eq_true rfl, Nat.le_of_ble_eq_true rfl⟩ rfl rfl (fun H locs hP hD hS => ?_)
  refine lv_if_eq (tgt := 28) hx hb dX2_beginsBand_8 (by decide) (fun c_8 => ?_) (fun c_8 => ?_)
  · refine lv_iconst (v := 0) hx hb dX2_beginsBand_28 (by decide) ?_
    exact hend _ _ _ _ _ _ dX2_beginsBand_29 hP hD hS (by first | rfl | (simp only [begB, b2i_t, b2i_f, c_8, ↓reduceIte]; done) | (simp [begB, b2i_t, b2i_f, c_8]; done)) rfl
  · refine lv_aload_n hx hb dX2_beginsBand_11 rfl (lv_at hl 0 rfl) ?_
    refine va_get (D := G) (ci := 1) (v := .ref h0) (C := RX2) (T := TX2) (N := 1) hx hb hts in_kX2_beginsBand_X2 hown hK hP 0 rfl rfl 0 (by decide) (hts _ fl_kX2_beginsBand_9) (fun _ h9 => h9) rfl dX2_beginsBand_12 ?_
    refine lv_iload_n hx hb dX2_beginsBand_15 rfl (lv_at hl 1 rfl) ?_
    refine lv_iconst (v := 1) hx hb dX2_beginsBand_16 (by decide) ?_
    refine lv_isub hx hb dX2_beginsBand_17 ?_
    refine kVi (w' := [(r0, .inr (1, [.ref h0])), (h0, .inr (0, [.int (nI w), .int (nI h), .double (midF w), .double (midF h), .ref q1, .ref q2])), (q1, .inl (cI, 24, .inl B)), (q2, .inl (cI, 24, .inl O))]) (wr := [(r0, .inr (1, [.ref h0]))]) (isC := [1, 2, 3]) (isR := [0]) (pm := [0, 1, 2, 3]) (rest := []) (kX0_rowBits l G cI cZ cJ cD h0 q1 q2 w h hw hh B O (y - 1)) ⟨hx, hb, hml, hown, hts⟩ (cwV 1 hts gX2_beginsBand_X0_rowBits rfl rfl rfl hd_X0_rowBits ⟨Nat.le_of_ble_eq_true rfl, Nat.le_of_ble_eq_true rfl⟩) hK hP hD hS hA ⟨rfl, rfl, rfl, by decide, rfl, rfl, rfl⟩ 0 1 rfl rfl rfl hl.1 rfl (Nat.le_of_ble_eq_true rfl) dX2_beginsBand_18 ⟨Nat.le_of_ble_eq_true rfl, Nat.le_of_ble_eq_true rfl⟩ rfl rfl (fun H locs hP hD hS => ?_)
    refine lv_if_ne (tgt := 28) hx hb dX2_beginsBand_21 (by decide) (fun c_21 => ?_) (fun c_21 => ?_)
    · refine lv_iconst (v := 0) hx hb dX2_beginsBand_28 (by decide) ?_
      exact hend _ _ _ _ _ _ dX2_beginsBand_29 hP hD hS (by first | rfl | (simp only [begB, b2i_t, b2i_f, c_8, c_21, ↓reduceIte]; done) | (simp [begB, b2i_t, b2i_f, c_8, c_21]; done)) rfl
    · refine lv_iconst (v := 1) hx hb dX2_beginsBand_24 (by decide) ?_
      refine lv_goto (tgt := 29) hx hb dX2_beginsBand_25 (by decide) ?_
      exact hend _ _ _ _ _ _ dX2_beginsBand_29 hP hD hS (by first | rfl | (simp only [begB, b2i_t, b2i_f, c_8, c_21, ↓reduceIte]; done) | (simp [begB, b2i_t, b2i_f, c_8, c_21]; done)) rfl
theorem in_kX2_bandCount_X2 : ∀ w ∈ u_ws RX2 TX2 1, w ∈ wsX2_bandCount := by decide +kernel
theorem fl_kX2_bandCount_9 : Cond.fieldLink RX2 9 "SkewFind$Rows" "picture" "LSkewFind$Picture;" ∈ wsX2_bandCount := by decide +kernel
theorem in_kX2_bandCount_X0 : ∀ w ∈ u_ws RX0 TX0 6, w ∈ wsX2_bandCount := by decide +kernel
theorem fl_kX2_bandCount_21 : Cond.fieldLink RX2 21 "SkewFind$Picture" "height" "I" ∈ wsX2_bandCount := by decide +kernel
abbrev rmX2_bandCount : Room := { frames := 2, cells := 0, slots := 0, locals := 42 }
set_option maxRecDepth 100000 in
set_option maxHeartbeats 4000000 in
theorem kX2_bandCount (l : Launch) (G : va_G) (cI cZ cJ cD : ClassId) (r0 : Nat) (h0 q1 q2 w h : Nat) (hw : w ≤ 24) (hh : h ≤ 24) (B O : Nat → Int32)  : Ci l G (kTy cI cZ cJ cD) yX2_bandCount wsX2_bandCount rmX2_bandCount [.ref r0] [(r0, .inr (1, [.ref h0])), (h0, .inr (0, [.int (nI w), .int (nI h), .double (midF w), .double (midF h), .ref q1, .ref q2])), (q1, .inl (cI, 24, .inl B)), (q2, .inl (cI, 24, .inl O))] (bandsN B h) [(r0, .inr (1, [.ref h0])), (h0, .inr (0, [.int (nI w), .int (nI h), .double (midF w), .double (midF h), .ref q1, .ref q2])), (q1, .inl (cI, 24, .inl B)), (q2, .inl (cI, 24, .inl O))] := by
  refine Ci.of .int rfl rfl rfl (cc := cX2_bandCount) (maxL := 3) (plainFor_of_name (by decide)) rfl (Nat.le_of_ble_eq_true rfl) rfl ?_
  intro p e s m args below meth c A Q hx hb hml hts hown hA hK hP hD hS hend ls hl
  refine lv_iconst (v := 0) hx hb dX2_bandCount_0 (by decide) ?_
  refine lv_istore_n (lv' := [(1, .int 0), (0, .ref r0)]) hx hb dX2_bandCount_1 rfl hl (by decide) rfl (fun ls hl => ?_)
  refine lv_iconst (v := 0) hx hb dX2_bandCount_2 (by decide) ?_
  refine lv_istore_n (lv' := [(2, .int 0), (1, .int 0), (0, .ref r0)]) hx hb dX2_bandCount_3 rfl hl (by decide) rfl (fun ls hl => ?_)
  have K4 : ∀ (n4 : Nat) (i : Nat), h - i < n4 → (i ≤ h) → ∀ (H : Heap) (locs : List Loc), va_P G vwCl [(r0, .inr (1, [.ref h0])), (h0, .inr (0, [.int (nI w), .int (nI h), .double (midF w), .double (midF h), .ref q1, .ref q2])), (q1, .inl (cI, 24, .inl B)), (q2, .inl (cI, 24, .inl O))] H → va_D A [(r0, .inr (1, [.ref h0])), (h0, .inr (0, [.int (nI w), .int (nI h), .double (midF w), .double (midF h), .ref q1, .ref q2])), (q1, .inl (cI, 24, .inl B)), (q2, .inl (cI, 24, .inl O))] → va_S A s.heap H locs → ∀ ls : Array Slot, lv_has ls 3 [(0, .ref r0), (1, .int (bandsN B i)), (2, .int (nI i))] → W p l e rmX2_bandCount s m args below meth c H locs 0 0 Q (F0 m 4 ls []) := by
    intro n4
    induction n4 with
    | zero => intro i hn; exact absurd hn (by omega)
    | succ n4 ih4 =>
      intro i hn4 hi H locs hP hD hS ls hl
      refine lv_iload_n hx hb dX2_bandCount_4 rfl (lv_at hl 2 rfl) ?_
      refine lv_aload_n hx hb dX2_bandCount_5 rfl (lv_at hl 0 rfl) ?_
      refine va_get (D := G) (ci := 1) (v := .ref h0) (C := RX2) (T := TX2) (N := 1) hx hb hts in_kX2_bandCount_X2 hown hK hP 0 rfl rfl 0 (by decide) (hts _ fl_kX2_bandCount_9) (fun _ h9 => h9) rfl dX2_bandCount_6 ?_
      refine va_get (D := G) (ci := 0) (v := .int (nI h)) (C := RX0) (T := TX0) (N := 6) hx hb hts in_kX2_bandCount_X0 hown hK hP 1 rfl rfl 1 (by decide) (hts _ fl_kX2_bandCount_21) (fun _ h9 => h9) rfl dX2_bandCount_9 ?_
      refine kGe (by omega) (by omega) (tgt := 32) hx hb dX2_bandCount_12 (by decide) (fun c_12 => ?_) (fun c_12 => ?_)
      · have e9 : h = i := by omega
        subst e9
        refine lv_iload_n hx hb dX2_bandCount_32 rfl (lv_at hl 1 rfl) ?_
        exact hend _ _ _ _ _ _ dX2_bandCount_33 hP hD hS rfl rfl
      · refine lv_aload_n hx hb dX2_bandCount_15 rfl (lv_at hl 0 rfl) ?_
        refine lv_iload_n hx hb dX2_bandCount_16 rfl (lv_at hl 2 rfl) ?_
        refine kVi (w' := [(r0, .inr (1, [.ref h0])), (h0, .inr (0, [.int (nI w), .int (nI h), .double (midF w), .double (midF h), .ref q1, .ref q2])), (q1, .inl (cI, 24, .inl B)), (q2, .inl (cI, 24, .inl O))]) (wr := []) (isC := [0, 1, 2, 3]) (isR := []) (pm := [0, 1, 2, 3]) (rest := []) (kX2_beginsBand l G cI cZ cJ cD r0 h0 q1 q2 w h hw hh B O (nI i)) ⟨hx, hb, hml, hown, hts⟩ (cwV 1 hts gX2_bandCount_X2_beginsBand rfl rfl rfl hd_X2_beginsBand ⟨Nat.le_of_ble_eq_true rfl, Nat.le_of_ble_eq_true rfl⟩) hK hP hD hS hA ⟨rfl, rfl, rfl, by decide, rfl, rfl, rfl⟩ 1 0 rfl rfl rfl hl.1 rfl (Nat.le_of_ble_eq_true rfl) dX2_bandCount_17 ⟨Nat.le_of_ble_eq_true rfl, Nat.le_of_ble_eq_true rfl⟩ rfl rfl (fun H locs hP hD hS => ?_)
        refine kIfEqB (tgt := 26) hx hb dX2_bandCount_20 (by decide) (fun c_20 => ?_) (fun c_20 => ?_)
        · have hE : bandsN B i = bandsN B (i + 1) := (if_neg (Bool.eq_false_iff.mp c_20)).symm
          rw [hE] at hl
          refine lv_iinc (v := nI (i + 1)) (lv' := [(2, .int (nI (i + 1))), (0, .ref r0), (1, .int (bandsN B (i + 1)))]) hx hb dX2_bandCount_26 hl (k := 2) rfl (nI_1 _) (by decide) rfl (fun ls hl => ?_)
          refine lv_goto (tgt := 4) hx hb dX2_bandCount_29 (by decide) ?_
          exact ih4 (i + 1) (by omega) (by omega) _ _ hP hD hS _ (lv_sub hl [1, 2, 0] rfl)
        · refine lv_iinc (v := (bandsN B i) + 1) (lv' := [(1, .int ((bandsN B i) + 1)), (0, .ref r0), (2, .int (nI i))]) hx hb dX2_bandCount_23 hl (k := 1) rfl rfl (by decide) rfl (fun ls hl => ?_)
          have hE : (bandsN B i) + 1 = bandsN B (i + 1) := (if_pos c_20).symm
          rw [hE] at hl
          refine lv_iinc (v := nI (i + 1)) (lv' := [(2, .int (nI (i + 1))), (1, .int (bandsN B (i + 1))), (0, .ref r0)]) hx hb dX2_bandCount_26 hl (k := 2) rfl (nI_1 _) (by decide) rfl (fun ls hl => ?_)
          refine lv_goto (tgt := 4) hx hb dX2_bandCount_29 (by decide) ?_
          exact ih4 (i + 1) (by omega) (by omega) _ _ hP hD hS _ (lv_sub hl [2, 1, 0] rfl)
  exact K4 (h - 0 + 1) 0 (by omega) (by omega) _ _ hP hD hS _ (lv_sub hl [2, 1, 0] rfl)
theorem in_kX2_firstOfBand_X2 : ∀ w ∈ u_ws RX2 TX2 1, w ∈ wsX2_firstOfBand := by decide +kernel
theorem fl_kX2_firstOfBand_9 : Cond.fieldLink RX2 9 "SkewFind$Rows" "picture" "LSkewFind$Picture;" ∈ wsX2_firstOfBand := by decide +kernel
theorem in_kX2_firstOfBand_X0 : ∀ w ∈ u_ws RX0 TX0 6, w ∈ wsX2_firstOfBand := by decide +kernel
theorem fl_kX2_firstOfBand_21 : Cond.fieldLink RX2 21 "SkewFind$Picture" "height" "I" ∈ wsX2_firstOfBand := by decide +kernel
abbrev rmX2_firstOfBand : Room := { frames := 2, cells := 0, slots := 0, locals := 42 }
set_option maxRecDepth 100000 in
set_option maxHeartbeats 4000000 in
theorem kX2_firstOfBand (l : Launch) (G : va_G) (cI cZ cJ cD : ClassId) (r0 : Nat) (h0 q1 q2 w h : Nat) (hw : w ≤ 24) (hh : h ≤ 24) (B O : Nat → Int32) (k : Int32) : Ci l G (kTy cI cZ cJ cD) yX2_firstOfBand wsX2_firstOfBand rmX2_firstOfBand [.ref r0, .int k] [(r0, .inr (1, [.ref h0])), (h0, .inr (0, [.int (nI w), .int (nI h), .double (midF w), .double (midF h), .ref q1, .ref q2])), (q1, .inl (cI, 24, .inl B)), (q2, .inl (cI, 24, .inl O))] (optI (fndF B h k)) [(r0, .inr (1, [.ref h0])), (h0, .inr (0, [.int (nI w), .int (nI h), .double (midF w), .double (midF h), .ref q1, .ref q2])), (q1, .inl (cI, 24, .inl B)), (q2, .inl (cI, 24, .inl O))] := by
  refine Ci.of .int rfl rfl rfl (cc := cX2_firstOfBand) (maxL := 4) (plainFor_of_name (by decide)) rfl (Nat.le_of_ble_eq_true rfl) rfl ?_
  intro p e s m args below meth c A Q hx hb hml hts hown hA hK hP hD hS hend ls hl
  refine lv_iconst (v := 0) hx hb dX2_firstOfBand_0 (by decide) ?_
  refine lv_istore_n (lv' := [(2, .int 0), (0, .ref r0), (1, .int k)]) hx hb dX2_firstOfBand_1 rfl hl (by decide) rfl (fun ls hl => ?_)
  refine lv_iconst (v := 0) hx hb dX2_firstOfBand_2 (by decide) ?_
  refine lv_istore_n (lv' := [(3, .int 0), (2, .int 0), (0, .ref r0), (1, .int k)]) hx hb dX2_firstOfBand_3 rfl hl (by decide) rfl (fun ls hl => ?_)
  have K4 : ∀ (n4 : Nat) (i : Nat) (b : Int32), h - i < n4 → (i ≤ h) → (fndF B h k = fndN B k (h - i) i b) → ∀ (H : Heap) (locs : List Loc), va_P G vwCl [(r0, .inr (1, [.ref h0])), (h0, .inr (0, [.int (nI w), .int (nI h), .double (midF w), .double (midF h), .ref q1, .ref q2])), (q1, .inl (cI, 24, .inl B)), (q2, .inl (cI, 24, .inl O))] H → va_D A [(r0, .inr (1, [.ref h0])), (h0, .inr (0, [.int (nI w), .int (nI h), .double (midF w), .double (midF h), .ref q1, .ref q2])), (q1, .inl (cI, 24, .inl B)), (q2, .inl (cI, 24, .inl O))] → va_S A s.heap H locs → ∀ ls : Array Slot, lv_has ls 4 [(0, .ref r0), (1, .int k), (2, .int b), (3, .int (nI i))] → W p l e rmX2_firstOfBand s m args below meth c H locs 0 0 Q (F0 m 4 ls []) := by
    intro n4
    induction n4 with
    | zero => intro i b hn; exact absurd hn (by omega)
    | succ n4 ih4 =>
      intro i b hn4 hi hF H locs hP hD hS ls hl
      refine lv_iload_n hx hb dX2_firstOfBand_4 rfl (lv_at hl 3 rfl) ?_
      refine lv_aload_n hx hb dX2_firstOfBand_5 rfl (lv_at hl 0 rfl) ?_
      refine va_get (D := G) (ci := 1) (v := .ref h0) (C := RX2) (T := TX2) (N := 1) hx hb hts in_kX2_firstOfBand_X2 hown hK hP 0 rfl rfl 0 (by decide) (hts _ fl_kX2_firstOfBand_9) (fun _ h9 => h9) rfl dX2_firstOfBand_6 ?_
      refine va_get (D := G) (ci := 0) (v := .int (nI h)) (C := RX0) (T := TX0) (N := 6) hx hb hts in_kX2_firstOfBand_X0 hown hK hP 1 rfl rfl 1 (by decide) (hts _ fl_kX2_firstOfBand_21) (fun _ h9 => h9) rfl dX2_firstOfBand_9 ?_
      refine kGe (by omega) (by omega) (tgt := 39) hx hb dX2_firstOfBand_12 (by decide) (fun c_12 => ?_) (fun c_12 => ?_)
      · have e9 : h = i := by omega
        subst e9
        refine lv_iconst (v := (-1)) hx hb dX2_firstOfBand_39 (by decide) ?_
        exact hend _ _ _ _ _ _ dX2_firstOfBand_40 hP hD hS (by rw [hF, Nat.sub_self]; rfl) rfl
      · refine lv_aload_n hx hb dX2_firstOfBand_15 rfl (lv_at hl 0 rfl) ?_
        refine lv_iload_n hx hb dX2_firstOfBand_16 rfl (lv_at hl 3 rfl) ?_
        refine kVi (w' := [(r0, .inr (1, [.ref h0])), (h0, .inr (0, [.int (nI w), .int (nI h), .double (midF w), .double (midF h), .ref q1, .ref q2])), (q1, .inl (cI, 24, .inl B)), (q2, .inl (cI, 24, .inl O))]) (wr := []) (isC := [0, 1, 2, 3]) (isR := []) (pm := [0, 1, 2, 3]) (rest := []) (kX2_beginsBand l G cI cZ cJ cD r0 h0 q1 q2 w h hw hh B O (nI i)) ⟨hx, hb, hml, hown, hts⟩ (cwV 1 hts gX2_firstOfBand_X2_beginsBand rfl rfl rfl hd_X2_beginsBand ⟨Nat.le_of_ble_eq_true rfl, Nat.le_of_ble_eq_true rfl⟩) hK hP hD hS hA ⟨rfl, rfl, rfl, by decide, rfl, rfl, rfl⟩ 1 0 rfl rfl rfl hl.1 rfl (Nat.le_of_ble_eq_true rfl) dX2_firstOfBand_17 ⟨Nat.le_of_ble_eq_true rfl, Nat.le_of_ble_eq_true rfl⟩ rfl rfl (fun H locs hP hD hS => ?_)
        refine kIfEqB (tgt := 33) hx hb dX2_firstOfBand_20 (by decide) (fun c_20 => ?_) (fun c_20 => ?_)
        · refine lv_iinc (v := nI (i + 1)) (lv' := [(3, .int (nI (i + 1))), (0, .ref r0), (1, .int k), (2, .int b)]) hx hb dX2_firstOfBand_33 hl (k := 3) rfl (nI_1 _) (by decide) rfl (fun ls hl => ?_)
          refine lv_goto (tgt := 4) hx hb dX2_firstOfBand_36 (by decide) ?_
          exact ih4 (i + 1) b (by omega) (by omega) (hF.trans ((fndN_s B k (by omega) b).trans (if_neg (Bool.eq_false_iff.mp c_20)))) _ _ hP hD hS _ (lv_sub hl [1, 2, 3, 0] rfl)
        · refine lv_iload_n hx hb dX2_firstOfBand_23 rfl (lv_at hl 2 rfl) ?_
          refine lv_iload_n hx hb dX2_firstOfBand_24 rfl (lv_at hl 1 rfl) ?_
          refine lv_icmp_ne (tgt := 30) hx hb dX2_firstOfBand_25 (by decide) (fun c_25 => ?_) (fun c_25 => ?_)
          · refine lv_iinc (v := b + 1) (lv' := [(2, .int (b + 1)), (0, .ref r0), (1, .int k), (3, .int (nI i))]) hx hb dX2_firstOfBand_30 hl (k := 2) rfl rfl (by decide) rfl (fun ls hl => ?_)
            refine lv_iinc (v := nI (i + 1)) (lv' := [(3, .int (nI (i + 1))), (2, .int (b + 1)), (0, .ref r0), (1, .int k)]) hx hb dX2_firstOfBand_33 hl (k := 3) rfl (nI_1 _) (by decide) rfl (fun ls hl => ?_)
            refine lv_goto (tgt := 4) hx hb dX2_firstOfBand_36 (by decide) ?_
            exact ih4 (i + 1) (b + 1) (by omega) (by omega) (hF.trans ((fndN_s B k (by omega) b).trans ((if_pos c_20).trans (if_neg c_25)))) _ _ hP hD hS _ (lv_sub hl [2, 3, 1, 0] rfl)
          · refine lv_iload_n hx hb dX2_firstOfBand_28 rfl (lv_at hl 3 rfl) ?_
            exact hend _ _ _ _ _ _ dX2_firstOfBand_29 hP hD hS (by rw [hF, fndN_s B k (by omega) b, if_pos c_20, if_pos c_25]; rfl) rfl
  exact K4 (h - 0 + 1) 0 0 (by omega) (by omega) rfl _ _ hP hD hS _ (lv_sub hl [2, 3, 1, 0] rfl)
theorem in_kX2_behindBand_X2 : ∀ w ∈ u_ws RX2 TX2 1, w ∈ wsX2_behindBand := by decide +kernel
theorem fl_kX2_behindBand_9 : Cond.fieldLink RX2 9 "SkewFind$Rows" "picture" "LSkewFind$Picture;" ∈ wsX2_behindBand := by decide +kernel
theorem in_kX2_behindBand_X0 : ∀ w ∈ u_ws RX0 TX0 6, w ∈ wsX2_behindBand := by decide +kernel
theorem fl_kX2_behindBand_21 : Cond.fieldLink RX2 21 "SkewFind$Picture" "height" "I" ∈ wsX2_behindBand := by decide +kernel
abbrev rmX2_behindBand : Room := { frames := 1, cells := 0, slots := 0, locals := 21 }
set_option maxRecDepth 100000 in
set_option maxHeartbeats 4000000 in
theorem kX2_behindBand (l : Launch) (G : va_G) (cI cZ cJ cD : ClassId) (r0 : Nat) (h0 q1 q2 w h : Nat) (hw : w ≤ 24) (hh : h ≤ 24) (B O : Nat → Int32) (f : Nat) (hf : f ≤ h) : Ci l G (kTy cI cZ cJ cD) yX2_behindBand wsX2_behindBand rmX2_behindBand [.ref r0, .int (nI f)] [(r0, .inr (1, [.ref h0])), (h0, .inr (0, [.int (nI w), .int (nI h), .double (midF w), .double (midF h), .ref q1, .ref q2])), (q1, .inl (cI, 24, .inl B)), (q2, .inl (cI, 24, .inl O))] (nI (behF B h f)) [(r0, .inr (1, [.ref h0])), (h0, .inr (0, [.int (nI w), .int (nI h), .double (midF w), .double (midF h), .ref q1, .ref q2])), (q1, .inl (cI, 24, .inl B)), (q2, .inl (cI, 24, .inl O))] := by
  refine Ci.of .int rfl rfl rfl (cc := cX2_behindBand) (maxL := 3) (plainFor_of_name (by decide)) rfl (Nat.le_of_ble_eq_true rfl) rfl ?_
  intro p e s m args below meth c A Q hx hb hml hts hown hA hK hP hD hS hend ls hl
  refine lv_iload_n hx hb dX2_behindBand_0 rfl (lv_at hl 1 rfl) ?_
  refine lv_istore_n (lv' := [(2, .int (nI f)), (0, .ref r0), (1, .int (nI f))]) hx hb dX2_behindBand_1 rfl hl (by decide) rfl (fun ls hl => ?_)
  have K2 : ∀ (n2 : Nat) (i : Nat), h - i < n2 → (i ≤ h) → (behF B h f = behN B (h - i) i) → ∀ (H : Heap) (locs : List Loc), va_P G vwCl [(r0, .inr (1, [.ref h0])), (h0, .inr (0, [.int (nI w), .int (nI h), .double (midF w), .double (midF h), .ref q1, .ref q2])), (q1, .inl (cI, 24, .inl B)), (q2, .inl (cI, 24, .inl O))] H → va_D A [(r0, .inr (1, [.ref h0])), (h0, .inr (0, [.int (nI w), .int (nI h), .double (midF w), .double (midF h), .ref q1, .ref q2])), (q1, .inl (cI, 24, .inl B)), (q2, .inl (cI, 24, .inl O))] → va_S A s.heap H locs → ∀ ls : Array Slot, lv_has ls 3 [(0, .ref r0), (2, .int (nI i))] → W p l e rmX2_behindBand s m args below meth c H locs 0 0 Q (F0 m 2 ls []) := by
    intro n2
    induction n2 with
    | zero => intro i hn; exact absurd hn (by omega)
    | succ n2 ih2 =>
      intro i hn2 hi hF H locs hP hD hS ls hl
      refine lv_iload_n hx hb dX2_behindBand_2 rfl (lv_at hl 1 rfl) ?_
      refine lv_aload_n hx hb dX2_behindBand_3 rfl (lv_at hl 0 rfl) ?_
      refine va_get (D := G) (ci := 1) (v := .ref h0) (C := RX2) (T := TX2) (N := 1) hx hb hts in_kX2_behindBand_X2 hown hK hP 0 rfl rfl 0 (by decide) (hts _ fl_kX2_behindBand_9) (fun _ h9 => h9) rfl dX2_behindBand_4 ?_
      refine va_get (D := G) (ci := 0) (v := .int (nI h)) (C := RX0) (T := TX0) (N := 6) hx hb hts in_kX2_behindBand_X0 hown hK hP 1 rfl rfl 1 (by decide) (hts _ fl_kX2_behindBand_21) (fun _ h9 => h9) rfl dX2_behindBand_7 ?_
      refine kGe (by omega) (by omega) (tgt := 30) hx hb dX2_behindBand_10 (by decide) (fun c_10 => ?_) (fun c_10 => ?_)
      · have e9 : h = i := by omega
        subst e9
        refine lv_iload_n hx hb dX2_behindBand_30 rfl (lv_at hl 1 rfl) ?_
        exact hend _ _ _ _ _ _ dX2_behindBand_31 hP hD hS (by rw [hF, Nat.sub_self]; rfl) rfl
      · refine lv_aload_n hx hb dX2_behindBand_13 rfl (lv_at hl 0 rfl) ?_
        refine va_get (D := G) (ci := 1) (v := .ref h0) (C := RX2) (T := TX2) (N := 1) hx hb hts in_kX2_behindBand_X2 hown hK hP 0 rfl rfl 0 (by decide) (hts _ fl_kX2_behindBand_9) (fun _ h9 => h9) rfl dX2_behindBand_14 ?_
        refine lv_iload_n hx hb dX2_behindBand_17 rfl (lv_at hl 1 rfl) ?_
        refine kVi (w' := [(r0, .inr (1, [.ref h0])), (h0, .inr (0, [.int (nI w), .int (nI h), .double (midF w), .double (midF h), .ref q1, .ref q2])), (q1, .inl (cI, 24, .inl B)), (q2, .inl (cI, 24, .inl O))]) (wr := [(r0, .inr (1, [.ref h0]))]) (isC := [1, 2, 3]) (isR := [0]) (pm := [0, 1, 2, 3]) (rest := []) (kX0_rowBits l G cI cZ cJ cD h0 q1 q2 w h hw hh B O (nI i)) ⟨hx, hb, hml, hown, hts⟩ (cwV 1 hts gX2_behindBand_X0_rowBits rfl rfl rfl hd_X0_rowBits ⟨Nat.le_of_ble_eq_true rfl, Nat.le_of_ble_eq_true rfl⟩) hK hP hD hS hA ⟨rfl, rfl, rfl, by decide, rfl, rfl, rfl⟩ 0 1 rfl rfl rfl hl.1 rfl (Nat.le_of_ble_eq_true rfl) dX2_behindBand_18 ⟨Nat.le_of_ble_eq_true rfl, Nat.le_of_ble_eq_true rfl⟩ rfl rfl (fun H locs hP hD hS => ?_)
        refine kTopI (z := B i) (rowF_nI _ (by omega)) ?_
        refine lv_if_eq (tgt := 30) hx hb dX2_behindBand_21 (by decide) (fun c_21 => ?_) (fun c_21 => ?_)
        · refine lv_iload_n hx hb dX2_behindBand_30 rfl (lv_at hl 1 rfl) ?_
          exact hend _ _ _ _ _ _ dX2_behindBand_31 hP hD hS (by rw [hF, behN_s B (by omega), if_pos c_21]) rfl
        · refine lv_iinc (v := nI (i + 1)) (lv' := [(2, .int (nI (i + 1))), (0, .ref r0)]) hx hb dX2_behindBand_24 hl (k := 1) rfl (nI_1 _) (by decide) rfl (fun ls hl => ?_)
          refine lv_goto (tgt := 2) hx hb dX2_behindBand_27 (by decide) ?_
          exact ih2 (i + 1) (by omega) (by omega) (hF.trans ((behN_s B (by omega)).trans (if_neg c_21))) _ _ hP hD hS _ (lv_sub hl [1, 0] rfl)
  exact K2 (h - f + 1) f (by omega) hf rfl _ _ hP hD hS _ (lv_sub hl [1, 0] rfl)
theorem in_kX2_samplesBetween_X2 : ∀ w ∈ u_ws RX2 TX2 1, w ∈ wsX2_samplesBetween := by decide +kernel
theorem fl_kX2_samplesBetween_9 : Cond.fieldLink RX2 9 "SkewFind$Rows" "picture" "LSkewFind$Picture;" ∈ wsX2_samplesBetween := by decide +kernel
abbrev rmX2_samplesBetween : Room := { frames := 1, cells := 0, slots := 0, locals := 21 }
set_option maxRecDepth 100000 in
set_option maxHeartbeats 4000000 in
theorem kX2_samplesBetween (l : Launch) (G : va_G) (cI cZ cJ cD : ClassId) (r0 : Nat) (h0 q1 q2 w h : Nat) (hw : w ≤ 24) (hh : h ≤ 24) (B O : Nat → Int32) (f g : Nat) (hfg : f ≤ g) (hg : g ≤ 24) : Ci l G (kTy cI cZ cJ cD) yX2_samplesBetween wsX2_samplesBetween rmX2_samplesBetween [.ref r0, .int (nI f), .int (nI g)] [(r0, .inr (1, [.ref h0])), (h0, .inr (0, [.int (nI w), .int (nI h), .double (midF w), .double (midF h), .ref q1, .ref q2])), (q1, .inl (cI, 24, .inl B)), (q2, .inl (cI, 24, .inl O))] (sumFT B f (g - f)) [(r0, .inr (1, [.ref h0])), (h0, .inr (0, [.int (nI w), .int (nI h), .double (midF w), .double (midF h), .ref q1, .ref q2])), (q1, .inl (cI, 24, .inl B)), (q2, .inl (cI, 24, .inl O))] := by
  refine Ci.of .int rfl rfl rfl (cc := cX2_samplesBetween) (maxL := 5) (plainFor_of_name (by decide)) rfl (Nat.le_of_ble_eq_true rfl) rfl ?_
  intro p e s m args below meth c A Q hx hb hml hts hown hA hK hP hD hS hend ls hl
  refine lv_iconst (v := 0) hx hb dX2_samplesBetween_0 (by decide) ?_
  refine lv_istore_n (lv' := [(3, .int 0), (0, .ref r0), (1, .int (nI f)), (2, .int (nI g))]) hx hb dX2_samplesBetween_1 rfl hl (by decide) rfl (fun ls hl => ?_)
  refine lv_iload_n hx hb dX2_samplesBetween_2 rfl (lv_at hl 2 rfl) ?_
  refine lv_istore (lv' := [(4, .int (nI f)), (3, .int 0), (0, .ref r0), (1, .int (nI f)), (2, .int (nI g))]) hx hb dX2_samplesBetween_3 hl (by decide) rfl (fun ls hl => ?_)
  have K5 : ∀ (n5 : Nat) (j : Nat), g - f - j < n5 → (f + j ≤ g) → ∀ (H : Heap) (locs : List Loc), va_P G vwCl [(r0, .inr (1, [.ref h0])), (h0, .inr (0, [.int (nI w), .int (nI h), .double (midF w), .double (midF h), .ref q1, .ref q2])), (q1, .inl (cI, 24, .inl B)), (q2, .inl (cI, 24, .inl O))] H → va_D A [(r0, .inr (1, [.ref h0])), (h0, .inr (0, [.int (nI w), .int (nI h), .double (midF w), .double (midF h), .ref q1, .ref q2])), (q1, .inl (cI, 24, .inl B)), (q2, .inl (cI, 24, .inl O))] → va_S A s.heap H locs → ∀ ls : Array Slot, lv_has ls 5 [(0, .ref r0), (2, .int (nI g)), (3, .int (sumFT B f j)), (4, .int (nI (f + j)))] → W p l e rmX2_samplesBetween s m args below meth c H locs 0 0 Q (F0 m 5 ls []) := by
    intro n5
    induction n5 with
    | zero => intro j hn; exact absurd hn (by omega)
    | succ n5 ih5 =>
      intro j hn5 hj H locs hP hD hS ls hl
      refine lv_iload hx hb dX2_samplesBetween_5 (lv_at hl 3 rfl) ?_
      refine lv_iload_n hx hb dX2_samplesBetween_7 rfl (lv_at hl 1 rfl) ?_
      refine kGe (by omega) (by omega) (tgt := 32) hx hb dX2_samplesBetween_8 (by decide) (fun c_8 => ?_) (fun c_8 => ?_)
      · have e9 : (g - f) = j := by omega
        subst e9
        refine lv_iload_n hx hb dX2_samplesBetween_32 rfl (lv_at hl 2 rfl) ?_
        exact hend _ _ _ _ _ _ dX2_samplesBetween_33 hP hD hS rfl rfl
      · refine lv_iload_n hx hb dX2_samplesBetween_11 rfl (lv_at hl 2 rfl) ?_
        refine lv_aload_n hx hb dX2_samplesBetween_12 rfl (lv_at hl 0 rfl) ?_
        refine va_get (D := G) (ci := 1) (v := .ref h0) (C := RX2) (T := TX2) (N := 1) hx hb hts in_kX2_samplesBetween_X2 hown hK hP 0 rfl rfl 0 (by decide) (hts _ fl_kX2_samplesBetween_9) (fun _ h9 => h9) rfl dX2_samplesBetween_13 ?_
        refine lv_iload hx hb dX2_samplesBetween_16 (lv_at hl 3 rfl) ?_
        refine kVi (w' := [(r0, .inr (1, [.ref h0])), (h0, .inr (0, [.int (nI w), .int (nI h), .double (midF w), .double (midF h), .ref q1, .ref q2])), (q1, .inl (cI, 24, .inl B)), (q2, .inl (cI, 24, .inl O))]) (wr := [(r0, .inr (1, [.ref h0]))]) (isC := [1, 2, 3]) (isR := [0]) (pm := [0, 1, 2, 3]) (rest := [.int (sumFT B f j)]) (kX0_rowBits l G cI cZ cJ cD h0 q1 q2 w h hw hh B O (nI (f + j))) ⟨hx, hb, hml, hown, hts⟩ (cwV 1 hts gX2_samplesBetween_X0_rowBits rfl rfl rfl hd_X0_rowBits ⟨Nat.le_of_ble_eq_true rfl, Nat.le_of_ble_eq_true rfl⟩) hK hP hD hS hA ⟨rfl, rfl, rfl, by decide, rfl, rfl, rfl⟩ 0 1 rfl rfl rfl hl.1 rfl (Nat.le_of_ble_eq_true rfl) dX2_samplesBetween_18 ⟨Nat.le_of_ble_eq_true rfl, Nat.le_of_ble_eq_true rfl⟩ rfl rfl (fun H locs hP hD hS => ?_)
        refine kTopI (z := B (f + j)) (rowF_nI _ (by omega)) ?_
        refine kSi (rest := [.int (sumFT B f j)]) (kJ6_bitCount_0f7a4 l G cI cZ cJ cD (B (f + j))) ⟨hx, hb, hml, hown, hts⟩ (va_cwS 1 hts gX2_samplesBetween_J6_bitCount_0f7a4 rfl rfl rfl hs_J6_bitCount_0f7a4 ⟨Nat.le_of_ble_eq_true rfl, Nat.le_of_ble_eq_true rfl⟩) hK hP hD hS hA rfl hl.1 rfl (Nat.le_of_ble_eq_true rfl) dX2_samplesBetween_21 ⟨Nat.le_of_ble_eq_true rfl, Nat.le_of_ble_eq_true rfl⟩ rfl rfl (fun H locs hP hD hS => ?_)
        refine lv_iadd hx hb dX2_samplesBetween_24 ?_
        refine lv_istore_n (lv' := [(3, .int ((sumFT B f j) + (popc (B (f + j))))), (0, .ref r0), (2, .int (nI g)), (4, .int (nI (f + j)))]) hx hb dX2_samplesBetween_25 rfl hl (by decide) rfl (fun ls hl => ?_)
        refine lv_iinc (v := nI ((f + j) + 1)) (lv' := [(4, .int (nI ((f + j) + 1))), (3, .int ((sumFT B f j) + (popc (B (f + j))))), (0, .ref r0), (2, .int (nI g))]) hx hb dX2_samplesBetween_26 hl (k := 3) rfl (nI_1 _) (by decide) rfl (fun ls hl => ?_)
        refine lv_goto (tgt := 5) hx hb dX2_samplesBetween_29 (by decide) ?_
        exact ih5 (j + 1) (by omega) (by omega) _ _ hP hD hS _ (lv_sub hl [2, 3, 1, 0] rfl)
  exact K5 (g - f - 0 + 1) 0 (by omega) (by omega) _ _ hP hD hS _ (lv_sub hl [2, 4, 1, 0] rfl)
theorem in_kX2_lowerMinusUpper_X2 : ∀ w ∈ u_ws RX2 TX2 1, w ∈ wsX2_lowerMinusUpper := by decide +kernel
theorem fl_kX2_lowerMinusUpper_9 : Cond.fieldLink RX2 9 "SkewFind$Rows" "picture" "LSkewFind$Picture;" ∈ wsX2_lowerMinusUpper := by decide +kernel
theorem in_kX2_lowerMinusUpper_X0 : ∀ w ∈ u_ws RX0 TX0 6, w ∈ wsX2_lowerMinusUpper := by decide +kernel
theorem fl_kX2_lowerMinusUpper_21 : Cond.fieldLink RX2 21 "SkewFind$Picture" "height" "I" ∈ wsX2_lowerMinusUpper := by decide +kernel
abbrev rmX2_lowerMinusUpper : Room := { frames := 2, cells := 0, slots := 0, locals := 45 }
set_option maxRecDepth 100000 in
set_option maxHeartbeats 4000000 in
theorem kX2_lowerMinusUpper (l : Launch) (G : va_G) (cI cZ cJ cD : ClassId) (r0 : Nat) (h0 q1 q2 w h : Nat) (hw : w ≤ 24) (hh : h ≤ 24) (B O : Nat → Int32)  : Ci l G (kTy cI cZ cJ cD) yX2_lowerMinusUpper wsX2_lowerMinusUpper rmX2_lowerMinusUpper [.ref r0] [(r0, .inr (1, [.ref h0])), (h0, .inr (0, [.int (nI w), .int (nI h), .double (midF w), .double (midF h), .ref q1, .ref q2])), (q1, .inl (cI, 24, .inl B)), (q2, .inl (cI, 24, .inl O))] (lmuN B h h) [(r0, .inr (1, [.ref h0])), (h0, .inr (0, [.int (nI w), .int (nI h), .double (midF w), .double (midF h), .ref q1, .ref q2])), (q1, .inl (cI, 24, .inl B)), (q2, .inl (cI, 24, .inl O))] := by
  refine Ci.of .int rfl rfl rfl (cc := cX2_lowerMinusUpper) (maxL := 5) (plainFor_of_name (by decide)) rfl (Nat.le_of_ble_eq_true rfl) rfl ?_
  intro p e s m args below meth c A Q hx hb hml hts hown hA hK hP hD hS hend ls hl
  refine lv_iconst (v := 0) hx hb dX2_lowerMinusUpper_0 (by decide) ?_
  refine lv_istore_n (lv' := [(1, .int 0), (0, .ref r0)]) hx hb dX2_lowerMinusUpper_1 rfl hl (by decide) rfl (fun ls hl => ?_)
  refine lv_iconst (v := 0) hx hb dX2_lowerMinusUpper_2 (by decide) ?_
  refine lv_istore_n (lv' := [(2, .int 0), (1, .int 0), (0, .ref r0)]) hx hb dX2_lowerMinusUpper_3 rfl hl (by decide) rfl (fun ls hl => ?_)
  have K4 : ∀ (n4 : Nat) (i : Nat), h - i < n4 → (i ≤ h) → ∀ (H : Heap) (locs : List Loc), va_P G vwCl [(r0, .inr (1, [.ref h0])), (h0, .inr (0, [.int (nI w), .int (nI h), .double (midF w), .double (midF h), .ref q1, .ref q2])), (q1, .inl (cI, 24, .inl B)), (q2, .inl (cI, 24, .inl O))] H → va_D A [(r0, .inr (1, [.ref h0])), (h0, .inr (0, [.int (nI w), .int (nI h), .double (midF w), .double (midF h), .ref q1, .ref q2])), (q1, .inl (cI, 24, .inl B)), (q2, .inl (cI, 24, .inl O))] → va_S A s.heap H locs → ∀ ls : Array Slot, lv_has ls 5 [(0, .ref r0), (1, .int (lmuN B h i)), (2, .int (nI i))] → W p l e rmX2_lowerMinusUpper s m args below meth c H locs 0 0 Q (F0 m 4 ls []) := by
    intro n4
    induction n4 with
    | zero => intro i hn; exact absurd hn (by omega)
    | succ n4 ih4 =>
      intro i hn4 hi H locs hP hD hS ls hl
      refine lv_iload_n hx hb dX2_lowerMinusUpper_4 rfl (lv_at hl 2 rfl) ?_
      refine lv_aload_n hx hb dX2_lowerMinusUpper_5 rfl (lv_at hl 0 rfl) ?_
      refine va_get (D := G) (ci := 1) (v := .ref h0) (C := RX2) (T := TX2) (N := 1) hx hb hts in_kX2_lowerMinusUpper_X2 hown hK hP 0 rfl rfl 0 (by decide) (hts _ fl_kX2_lowerMinusUpper_9) (fun _ h9 => h9) rfl dX2_lowerMinusUpper_6 ?_
      refine va_get (D := G) (ci := 0) (v := .int (nI h)) (C := RX0) (T := TX0) (N := 6) hx hb hts in_kX2_lowerMinusUpper_X0 hown hK hP 1 rfl rfl 1 (by decide) (hts _ fl_kX2_lowerMinusUpper_21) (fun _ h9 => h9) rfl dX2_lowerMinusUpper_9 ?_
      refine kGe (by omega) (by omega) (tgt := 66) hx hb dX2_lowerMinusUpper_12 (by decide) (fun c_12 => ?_) (fun c_12 => ?_)
      · have e9 : h = i := by omega
        subst e9
        refine lv_iload_n hx hb dX2_lowerMinusUpper_66 rfl (lv_at hl 1 rfl) ?_
        exact hend _ _ _ _ _ _ dX2_lowerMinusUpper_67 hP hD hS rfl rfl
      · refine lv_aload_n hx hb dX2_lowerMinusUpper_15 rfl (lv_at hl 0 rfl) ?_
        refine lv_iload_n hx hb dX2_lowerMinusUpper_16 rfl (lv_at hl 2 rfl) ?_
        refine kVi (w' := [(r0, .inr (1, [.ref h0])), (h0, .inr (0, [.int (nI w), .int (nI h), .double (midF w), .double (midF h), .ref q1, .ref q2])), (q1, .inl (cI, 24, .inl B)), (q2, .inl (cI, 24, .inl O))]) (wr := []) (isC := [0, 1, 2, 3]) (isR := []) (pm := [0, 1, 2, 3]) (rest := []) (kX2_beginsBand l G cI cZ cJ cD r0 h0 q1 q2 w h hw hh B O (nI i)) ⟨hx, hb, hml, hown, hts⟩ (cwV 1 hts gX2_lowerMinusUpper_X2_beginsBand rfl rfl rfl hd_X2_beginsBand ⟨Nat.le_of_ble_eq_true rfl, Nat.le_of_ble_eq_true rfl⟩) hK hP hD hS hA ⟨rfl, rfl, rfl, by decide, rfl, rfl, rfl⟩ 1 0 rfl rfl rfl hl.1 rfl (Nat.le_of_ble_eq_true rfl) dX2_lowerMinusUpper_17 ⟨Nat.le_of_ble_eq_true rfl, Nat.le_of_ble_eq_true rfl⟩ rfl rfl (fun H locs hP hD hS => ?_)
        refine kIfEqB (tgt := 60) hx hb dX2_lowerMinusUpper_20 (by decide) (fun c_20 => ?_) (fun c_20 => ?_)
        · have hE : lmuN B h i = lmuN B h (i + 1) := (if_neg (Bool.eq_false_iff.mp c_20)).symm
          rw [hE] at hl
          refine lv_iinc (v := nI (i + 1)) (lv' := [(2, .int (nI (i + 1))), (0, .ref r0), (1, .int (lmuN B h (i + 1)))]) hx hb dX2_lowerMinusUpper_60 hl (k := 2) rfl (nI_1 _) (by decide) rfl (fun ls hl => ?_)
          refine lv_goto (tgt := 4) hx hb dX2_lowerMinusUpper_63 (by decide) ?_
          exact ih4 (i + 1) (by omega) (by omega) _ _ hP hD hS _ (lv_sub hl [1, 2, 0] rfl)
        · refine lv_aload_n hx hb dX2_lowerMinusUpper_23 rfl (lv_at hl 0 rfl) ?_
          refine lv_iload_n hx hb dX2_lowerMinusUpper_24 rfl (lv_at hl 2 rfl) ?_
          refine kVi (w' := [(r0, .inr (1, [.ref h0])), (h0, .inr (0, [.int (nI w), .int (nI h), .double (midF w), .double (midF h), .ref q1, .ref q2])), (q1, .inl (cI, 24, .inl B)), (q2, .inl (cI, 24, .inl O))]) (wr := []) (isC := [0, 1, 2, 3]) (isR := []) (pm := [0, 1, 2, 3]) (rest := []) (kX2_behindBand l G cI cZ cJ cD r0 h0 q1 q2 w h hw hh B O i (by omega)) ⟨hx, hb, hml, hown, hts⟩ (cwV 1 hts gX2_lowerMinusUpper_X2_behindBand rfl rfl rfl hd_X2_behindBand ⟨Nat.le_of_ble_eq_true rfl, Nat.le_of_ble_eq_true rfl⟩) hK hP hD hS hA ⟨rfl, rfl, rfl, by decide, rfl, rfl, rfl⟩ 1 0 rfl rfl rfl hl.1 rfl (Nat.le_of_ble_eq_true rfl) dX2_lowerMinusUpper_25 ⟨Nat.le_of_ble_eq_true rfl, Nat.le_of_ble_eq_true rfl⟩ rfl rfl (fun H locs hP hD hS => ?_)
          have hg := behF_in B (f := i) (h := h) (by omega)
          refine lv_istore_n (lv' := [(3, .int (nI (behF B h i))), (0, .ref r0), (1, .int (lmuN B h i)), (2, .int (nI i))]) hx hb dX2_lowerMinusUpper_28 rfl hl (by decide) rfl (fun ls hl => ?_)
          refine lv_iload_n hx hb dX2_lowerMinusUpper_29 rfl (lv_at hl 0 rfl) ?_
          refine lv_iload_n hx hb dX2_lowerMinusUpper_30 rfl (lv_at hl 3 rfl) ?_
          refine lv_isub hx hb dX2_lowerMinusUpper_31 ?_
          refine kTopI (z := nI (behF B h i - i)) (pk_sub hg.1) ?_
          refine lv_iconst (v := 2) hx hb dX2_lowerMinusUpper_32 (by decide) ?_
          refine lv_idiv hx hb dX2_lowerMinusUpper_33 (by decide) ?_
          refine kTopI (z := nI ((behF B h i - i) / 2)) (pk_div (d := 2) (by omega) (by decide) (by decide)) ?_
          refine lv_istore (lv' := [(4, .int (nI ((behF B h i - i) / 2))), (3, .int (nI (behF B h i))), (0, .ref r0), (1, .int (lmuN B h i)), (2, .int (nI i))]) hx hb dX2_lowerMinusUpper_34 hl (by decide) rfl (fun ls hl => ?_)
          refine lv_iload_n hx hb dX2_lowerMinusUpper_36 rfl (lv_at hl 3 rfl) ?_
          refine lv_aload_n hx hb dX2_lowerMinusUpper_37 rfl (lv_at hl 2 rfl) ?_
          refine lv_iload_n hx hb dX2_lowerMinusUpper_38 rfl (lv_at hl 1 rfl) ?_
          refine lv_iload hx hb dX2_lowerMinusUpper_39 (lv_at hl 0 rfl) ?_
          refine lv_isub hx hb dX2_lowerMinusUpper_41 ?_
          refine kTopI (z := nI (behF B h i - (behF B h i - i) / 2)) (pk_sub (by omega)) ?_
          refine lv_iload_n hx hb dX2_lowerMinusUpper_42 rfl (lv_at hl 1 rfl) ?_
          refine kVi (w' := [(r0, .inr (1, [.ref h0])), (h0, .inr (0, [.int (nI w), .int (nI h), .double (midF w), .double (midF h), .ref q1, .ref q2])), (q1, .inl (cI, 24, .inl B)), (q2, .inl (cI, 24, .inl O))]) (wr := []) (isC := [0, 1, 2, 3]) (isR := []) (pm := [0, 1, 2, 3]) (rest := [.int (lmuN B h i)]) (kX2_samplesBetween l G cI cZ cJ cD r0 h0 q1 q2 w h hw hh B O ((behF B h i - (behF B h i - i) / 2)) ((behF B h i)) (by omega) (by omega)) ⟨hx, hb, hml, hown, hts⟩ (cwV 2 hts gX2_lowerMinusUpper_X2_samplesBetween rfl rfl rfl hd_X2_samplesBetween ⟨Nat.le_of_ble_eq_true rfl, Nat.le_of_ble_eq_true rfl⟩) hK hP hD hS hA ⟨rfl, rfl, rfl, by decide, rfl, rfl, rfl⟩ 1 0 rfl rfl rfl hl.1 rfl (Nat.le_of_ble_eq_true rfl) dX2_lowerMinusUpper_43 ⟨Nat.le_of_ble_eq_true rfl, Nat.le_of_ble_eq_true rfl⟩ rfl rfl (fun H locs hP hD hS => ?_)
          refine lv_iadd hx hb dX2_lowerMinusUpper_46 ?_
          refine lv_istore_n (lv' := [(1, .int ((lmuN B h i) + (sumFT B ((behF B h i - (behF B h i - i) / 2)) ((behF B h i) - ((behF B h i - (behF B h i - i) / 2)))))), (4, .int (nI ((behF B h i - i) / 2))), (3, .int (nI (behF B h i))), (0, .ref r0), (2, .int (nI i))]) hx hb dX2_lowerMinusUpper_47 rfl hl (by decide) rfl (fun ls hl => ?_)
          refine lv_iload_n hx hb dX2_lowerMinusUpper_48 rfl (lv_at hl 0 rfl) ?_
          refine lv_aload_n hx hb dX2_lowerMinusUpper_49 rfl (lv_at hl 3 rfl) ?_
          refine lv_iload_n hx hb dX2_lowerMinusUpper_50 rfl (lv_at hl 4 rfl) ?_
          refine lv_iload_n hx hb dX2_lowerMinusUpper_51 rfl (lv_at hl 4 rfl) ?_
          refine lv_iload hx hb dX2_lowerMinusUpper_52 (lv_at hl 1 rfl) ?_
          refine lv_iadd hx hb dX2_lowerMinusUpper_54 ?_
          refine kTopI (z := nI (i + (behF B h i - i) / 2)) (nI_add _ _) ?_
          refine kVi (w' := [(r0, .inr (1, [.ref h0])), (h0, .inr (0, [.int (nI w), .int (nI h), .double (midF w), .double (midF h), .ref q1, .ref q2])), (q1, .inl (cI, 24, .inl B)), (q2, .inl (cI, 24, .inl O))]) (wr := []) (isC := [0, 1, 2, 3]) (isR := []) (pm := [0, 1, 2, 3]) (rest := [.int ((lmuN B h i) + (sumFT B ((behF B h i - (behF B h i - i) / 2)) ((behF B h i) - ((behF B h i - (behF B h i - i) / 2)))))]) (kX2_samplesBetween l G cI cZ cJ cD r0 h0 q1 q2 w h hw hh B O i ((i + (behF B h i - i) / 2)) (by omega) (by omega)) ⟨hx, hb, hml, hown, hts⟩ (cwV 2 hts gX2_lowerMinusUpper_X2_samplesBetween rfl rfl rfl hd_X2_samplesBetween ⟨Nat.le_of_ble_eq_true rfl, Nat.le_of_ble_eq_true rfl⟩) hK hP hD hS hA ⟨rfl, rfl, rfl, by decide, rfl, rfl, rfl⟩ 1 0 rfl rfl rfl hl.1 rfl (Nat.le_of_ble_eq_true rfl) dX2_lowerMinusUpper_55 ⟨Nat.le_of_ble_eq_true rfl, Nat.le_of_ble_eq_true rfl⟩ rfl rfl (fun H locs hP hD hS => ?_)
          refine lv_isub hx hb dX2_lowerMinusUpper_58 ?_
          refine lv_istore_n (lv' := [(1, .int (((lmuN B h i) + (sumFT B ((behF B h i - (behF B h i - i) / 2)) ((behF B h i) - ((behF B h i - (behF B h i - i) / 2))))) - (sumFT B i ((i + (behF B h i - i) / 2) - i)))), (4, .int (nI ((behF B h i - i) / 2))), (3, .int (nI (behF B h i))), (0, .ref r0), (2, .int (nI i))]) hx hb dX2_lowerMinusUpper_59 rfl hl (by decide) rfl (fun ls hl => ?_)
          have hE : ((lmuN B h i) + (sumFT B ((behF B h i - (behF B h i - i) / 2)) ((behF B h i) - ((behF B h i - (behF B h i - i) / 2))))) - (sumFT B i ((i + (behF B h i - i) / 2) - i)) = lmuN B h (i + 1) := (if_pos c_20).symm
          rw [hE] at hl
          refine lv_iinc (v := nI (i + 1)) (lv' := [(2, .int (nI (i + 1))), (1, .int (lmuN B h (i + 1))), (4, .int (nI ((behF B h i - i) / 2))), (3, .int (nI (behF B h i))), (0, .ref r0)]) hx hb dX2_lowerMinusUpper_60 hl (k := 4) rfl (nI_1 _) (by decide) rfl (fun ls hl => ?_)
          refine lv_goto (tgt := 4) hx hb dX2_lowerMinusUpper_63 (by decide) ?_
          exact ih4 (i + 1) (by omega) (by omega) _ _ hP hD hS _ (lv_sub hl [4, 1, 0] rfl)
  exact K4 (h - 0 + 1) 0 (by omega) (by omega) _ _ hP hD hS _ (lv_sub hl [2, 1, 0] rfl)
theorem in_kX2_lowestOn_X2 : ∀ w ∈ u_ws RX2 TX2 1, w ∈ wsX2_lowestOn := by decide +kernel
theorem fl_kX2_lowestOn_9 : Cond.fieldLink RX2 9 "SkewFind$Rows" "picture" "LSkewFind$Picture;" ∈ wsX2_lowestOn := by decide +kernel
abbrev rmX2_lowestOn : Room := { frames := 2, cells := 0, slots := 0, locals := 44 }
set_option maxRecDepth 100000 in
set_option maxHeartbeats 4000000 in
theorem kX2_lowestOn (l : Launch) (G : va_G) (cI cZ cJ cD : ClassId) (r0 : Nat) (h0 q1 q2 w h : Nat) (hw : w ≤ 24) (hh : h ≤ 24) (B O : Nat → Int32) (x f g : Nat) (hfg : f ≤ g) (hg : g ≤ 24) : Ci l G (kTy cI cZ cJ cD) yX2_lowestOn wsX2_lowestOn rmX2_lowestOn [.ref r0, .int (nI x), .int (nI f), .int (nI g)] [(r0, .inr (1, [.ref h0])), (h0, .inr (0, [.int (nI w), .int (nI h), .double (midF w), .double (midF h), .ref q1, .ref q2])), (q1, .inl (cI, 24, .inl B)), (q2, .inl (cI, 24, .inl O))] (optI (lowO w h B x f (g - f))) [(r0, .inr (1, [.ref h0])), (h0, .inr (0, [.int (nI w), .int (nI h), .double (midF w), .double (midF h), .ref q1, .ref q2])), (q1, .inl (cI, 24, .inl B)), (q2, .inl (cI, 24, .inl O))] := by
  refine Ci.of .int rfl rfl rfl (cc := cX2_lowestOn) (maxL := 5) (plainFor_of_name (by decide)) rfl (Nat.le_of_ble_eq_true rfl) rfl ?_
  intro p e s m args below meth c A Q hx hb hml hts hown hA hK hP hD hS hend ls hl
  refine lv_iload_n hx hb dX2_lowestOn_0 rfl (lv_at hl 3 rfl) ?_
  refine lv_iconst (v := 1) hx hb dX2_lowestOn_1 (by decide) ?_
  refine lv_isub hx hb dX2_lowestOn_2 ?_
  refine lv_istore (lv' := [(4, .int ((nI g) - 1)), (0, .ref r0), (1, .int (nI x)), (2, .int (nI f)), (3, .int (nI g))]) hx hb dX2_lowestOn_3 hl (by decide) rfl (fun ls hl => ?_)
  have K5 : ∀ (n5 : Nat) (n : Nat), n < n5 → (f + n ≤ 24) → (lowO w h B x f (g - f) = lowO w h B x f n) → ∀ (H : Heap) (locs : List Loc), va_P G vwCl [(r0, .inr (1, [.ref h0])), (h0, .inr (0, [.int (nI w), .int (nI h), .double (midF w), .double (midF h), .ref q1, .ref q2])), (q1, .inl (cI, 24, .inl B)), (q2, .inl (cI, 24, .inl O))] H → va_D A [(r0, .inr (1, [.ref h0])), (h0, .inr (0, [.int (nI w), .int (nI h), .double (midF w), .double (midF h), .ref q1, .ref q2])), (q1, .inl (cI, 24, .inl B)), (q2, .inl (cI, 24, .inl O))] → va_S A s.heap H locs → ∀ ls : Array Slot, lv_has ls 5 [(0, .ref r0), (1, .int (nI x)), (2, .int (nI f)), (4, .int (nI (f + n) - 1))] → W p l e rmX2_lowestOn s m args below meth c H locs 0 0 Q (F0 m 5 ls []) := by
    intro n5
    induction n5 with
    | zero => intro n hn; exact absurd hn (by omega)
    | succ n5 ih5 =>
      intro n hn5 hn2 hF H locs hP hD hS ls hl
      refine lv_iload hx hb dX2_lowestOn_5 (lv_at hl 3 rfl) ?_
      refine lv_iload_n hx hb dX2_lowestOn_7 rfl (lv_at hl 2 rfl) ?_
      refine lv_icmp_lt (tgt := 33) hx hb dX2_lowestOn_8 (by decide) (fun c_8 => ?_) (fun c_8 => ?_)
      · refine lv_iconst (v := (-1)) hx hb dX2_lowestOn_33 (by decide) ?_
        exact hend _ _ _ _ _ _ dX2_lowestOn_34 hP hD hS (by rw [hF, (lowC (by omega)).mp c_8]; rfl) rfl
      · obtain ⟨n1, rfl⟩ : ∃ n1, n = n1 + 1 := Nat.exists_eq_succ_of_ne_zero (fun z => c_8 ((lowC (by omega)).mpr z))
        have hE : nI (f + (n1 + 1)) - 1 = nI (f + n1) := nI_pred _
        rw [hE] at hl
        refine lv_aload_n hx hb dX2_lowestOn_11 rfl (lv_at hl 0 rfl) ?_
        refine va_get (D := G) (ci := 1) (v := .ref h0) (C := RX2) (T := TX2) (N := 1) hx hb hts in_kX2_lowestOn_X2 hown hK hP 0 rfl rfl 0 (by decide) (hts _ fl_kX2_lowestOn_9) (fun _ h9 => h9) rfl dX2_lowestOn_12 ?_
        refine lv_iload_n hx hb dX2_lowestOn_15 rfl (lv_at hl 1 rfl) ?_
        refine lv_iload hx hb dX2_lowestOn_16 (lv_at hl 3 rfl) ?_
        refine kVi (w' := [(r0, .inr (1, [.ref h0])), (h0, .inr (0, [.int (nI w), .int (nI h), .double (midF w), .double (midF h), .ref q1, .ref q2])), (q1, .inl (cI, 24, .inl B)), (q2, .inl (cI, 24, .inl O))]) (wr := [(r0, .inr (1, [.ref h0]))]) (isC := [1, 2, 3]) (isR := [0]) (pm := [0, 1, 2, 3]) (rest := []) (kX0_isOn l G cI cZ cJ cD h0 q1 q2 w h hw hh B O (nI x) (nI (f + n1))) ⟨hx, hb, hml, hown, hts⟩ (cwV 2 hts gX2_lowestOn_X0_isOn rfl rfl rfl hd_X0_isOn ⟨Nat.le_of_ble_eq_true rfl, Nat.le_of_ble_eq_true rfl⟩) hK hP hD hS hA ⟨rfl, rfl, rfl, by decide, rfl, rfl, rfl⟩ 0 1 rfl rfl rfl hl.1 rfl (Nat.le_of_ble_eq_true rfl) dX2_lowestOn_18 ⟨Nat.le_of_ble_eq_true rfl, Nat.le_of_ble_eq_true rfl⟩ rfl rfl (fun H locs hP hD hS => ?_)
        refine kIfEqB (tgt := 27) hx hb dX2_lowestOn_21 (by decide) (fun c_21 => ?_) (fun c_21 => ?_)
        · refine lv_iinc (v := (nI (f + n1)) + (-1)) (lv' := [(4, .int ((nI (f + n1)) + (-1))), (0, .ref r0), (1, .int (nI x)), (2, .int (nI f))]) hx hb dX2_lowestOn_27 hl (k := 3) rfl rfl (by decide) rfl (fun ls hl => ?_)
          have hE : (nI (f + n1)) + (-1) = nI (f + n1) - 1 := kdec _
          rw [hE] at hl
          refine lv_goto (tgt := 5) hx hb dX2_lowestOn_30 (by decide) ?_
          exact ih5 n1 (by omega) (by omega) (hF.trans (if_neg (Bool.eq_false_iff.mp c_21))) _ _ hP hD hS _ (lv_sub hl [1, 2, 3, 0] rfl)
        · refine lv_iload hx hb dX2_lowestOn_24 (lv_at hl 3 rfl) ?_
          exact hend _ _ _ _ _ _ dX2_lowestOn_26 hP hD hS (by rw [hF]; exact (congrArg optI (show lowO w h B x f (n1 + 1) = some (f + n1) from if_pos c_21)).symm) rfl
  rw [show nI g = nI (f + (g - f)) from congrArg nI (by omega)] at hl
  exact K5 (g - f + 1) (g - f) (by omega) (by omega) rfl _ _ hP hD hS _ (lv_sub hl [1, 2, 3, 0] rfl)
theorem in_kX2_baseLineAt_X2 : ∀ w ∈ u_ws RX2 TX2 1, w ∈ wsX2_baseLineAt := by decide +kernel
theorem fl_kX2_baseLineAt_9 : Cond.fieldLink RX2 9 "SkewFind$Rows" "picture" "LSkewFind$Picture;" ∈ wsX2_baseLineAt := by decide +kernel
theorem in_kX2_baseLineAt_X0 : ∀ w ∈ u_ws RX0 TX0 6, w ∈ wsX2_baseLineAt := by decide +kernel
theorem fl_kX2_baseLineAt_41 : Cond.fieldLink RX2 41 "SkewFind$Picture" "width" "I" ∈ wsX2_baseLineAt := by decide +kernel
abbrev rmX2_baseLineAt : Room := { frames := 3, cells := 0, slots := 0, locals := 68 }
set_option maxRecDepth 100000 in
set_option maxHeartbeats 4000000 in
theorem kX2_baseLineAt (l : Launch) (G : va_G) (cI cZ cJ cD : ClassId) (r0 : Nat) (h0 q1 q2 w h : Nat) (hw : w ≤ 24) (hh : h ≤ 24) (B O : Nat → Int32) (f : Nat) (hf : f ≤ h) (v : UInt64) (hv : fIv (-65536000) 65536000 v) : Cd l G (kTy cI cZ cJ cD) yX2_baseLineAt wsX2_baseLineAt rmX2_baseLineAt [.ref r0, .int (nI f), .double v] [(r0, .inr (1, [.ref h0])), (h0, .inr (0, [.int (nI w), .int (nI h), .double (midF w), .double (midF h), .ref q1, .ref q2])), (q1, .inl (cI, 24, .inl B)), (q2, .inl (cI, 24, .inl O))] (blF (nI (bS (fun _ _ => 1) (fun x => lowO w h B x f (behF B h f - f)) w)) (nI (bS (fun u _ => u) (fun x => lowO w h B x f (behF B h f - f)) w)) (nI (bS (fun _ z => z) (fun x => lowO w h B x f (behF B h f - f)) w)) (nI (bS (fun u _ => u * u) (fun x => lowO w h B x f (behF B h f - f)) w)) (nI (bS (fun u z => u * z) (fun x => lowO w h B x f (behF B h f - f)) w)) v) [(r0, .inr (1, [.ref h0])), (h0, .inr (0, [.int (nI w), .int (nI h), .double (midF w), .double (midF h), .ref q1, .ref q2])), (q1, .inl (cI, 24, .inl B)), (q2, .inl (cI, 24, .inl O))] := by
  refine Cd.of rfl rfl (cc := cX2_baseLineAt) (maxL := 13) (plainFor_of_name (by decide)) rfl (Nat.le_of_ble_eq_true rfl) rfl ?_
  intro p e s m args below meth c A Q hx hb hml hts hown hA hK hP hD hS hend ls hl
  obtain ⟨lo, hlo⟩ : ∃ lo, lo = (fun x => lowO w h B x f (behF B h f - f)) := ⟨_, rfl⟩
  have hl24 : ∀ x y, lo x = some y → y < 24 := by
    intro x y e
    rw [hlo] at e
    have := lowO_lt _ _ _ _ _ _ _ e
    have := behF_in B hf
    omega
  have bn : bS (fun _ _ => 1) lo w ≤ 24 := Nat.le_trans (bS_le (M := 1) (N := w) (fun _ _ _ _ => Nat.le_refl 1) hl24 w (Nat.le_refl w)) (by omega)
  have bX : bS (fun x _ => x) lo w ≤ 552 := Nat.le_trans (bS_le (M := 23) (N := w) (fun _ _ _ _ => by omega) hl24 w (Nat.le_refl w)) (by omega)
  have bY : bS (fun _ y => y) lo w ≤ 552 := Nat.le_trans (bS_le (M := 23) (N := w) (fun _ _ _ _ => by omega) hl24 w (Nat.le_refl w)) (by omega)
  have bXY : bS (fun x y => x * y) lo w ≤ 12696 := Nat.le_trans (bS_le (M := 23 * 23) (N := w) (fun _ _ _ _ => Nat.mul_le_mul (by omega) (by omega)) hl24 w (Nat.le_refl w)) (by omega)
  rw [← hlo] at hend
  refine lv_aload_n hx hb dX2_baseLineAt_0 rfl (lv_at hl 0 rfl) ?_
  refine lv_iload_n hx hb dX2_baseLineAt_1 rfl (lv_at hl 1 rfl) ?_
  refine kVi (w' := [(r0, .inr (1, [.ref h0])), (h0, .inr (0, [.int (nI w), .int (nI h), .double (midF w), .double (midF h), .ref q1, .ref q2])), (q1, .inl (cI, 24, .inl B)), (q2, .inl (cI, 24, .inl O))]) (wr := []) (isC := [0, 1, 2, 3]) (isR := []) (pm := [0, 1, 2, 3]) (rest := []) (kX2_behindBand l G cI cZ cJ cD r0 h0 q1 q2 w h hw hh B O f (by omega)) ⟨hx, hb, hml, hown, hts⟩ (cwV 1 hts gX2_baseLineAt_X2_behindBand rfl rfl rfl hd_X2_behindBand ⟨Nat.le_of_ble_eq_true rfl, Nat.le_of_ble_eq_true rfl⟩) hK hP hD hS hA ⟨rfl, rfl, rfl, by decide, rfl, rfl, rfl⟩ 1 0 rfl rfl rfl hl.1 rfl (Nat.le_of_ble_eq_true rfl) dX2_baseLineAt_2 ⟨Nat.le_of_ble_eq_true rfl, Nat.le_of_ble_eq_true rfl⟩ rfl rfl (fun H locs hP hD hS => ?_)
  have hg := behF_in B hf
  refine lv_istore (lv' := [(4, .int (nI (behF B h f))), (0, .ref r0), (1, .int (nI f)), (2, .double v)]) hx hb dX2_baseLineAt_5 hl (by decide) rfl (fun ls hl => ?_)
  refine lv_iconst (v := 0) hx hb dX2_baseLineAt_7 (by decide) ?_
  refine lv_istore (lv' := [(5, .int 0), (4, .int (nI (behF B h f))), (0, .ref r0), (1, .int (nI f)), (2, .double v)]) hx hb dX2_baseLineAt_8 hl (by decide) rfl (fun ls hl => ?_)
  refine lv_iconst (v := 0) hx hb dX2_baseLineAt_10 (by decide) ?_
  refine lv_istore (lv' := [(6, .int 0), (5, .int 0), (4, .int (nI (behF B h f))), (0, .ref r0), (1, .int (nI f)), (2, .double v)]) hx hb dX2_baseLineAt_11 hl (by decide) rfl (fun ls hl => ?_)
  refine lv_iconst (v := 0) hx hb dX2_baseLineAt_13 (by decide) ?_
  refine lv_istore (lv' := [(7, .int 0), (6, .int 0), (5, .int 0), (4, .int (nI (behF B h f))), (0, .ref r0), (1, .int (nI f)), (2, .double v)]) hx hb dX2_baseLineAt_14 hl (by decide) rfl (fun ls hl => ?_)
  refine lv_iconst (v := 0) hx hb dX2_baseLineAt_16 (by decide) ?_
  refine lv_istore (lv' := [(8, .int 0), (7, .int 0), (6, .int 0), (5, .int 0), (4, .int (nI (behF B h f))), (0, .ref r0), (1, .int (nI f)), (2, .double v)]) hx hb dX2_baseLineAt_17 hl (by decide) rfl (fun ls hl => ?_)
  refine lv_iconst (v := 0) hx hb dX2_baseLineAt_19 (by decide) ?_
  refine lv_istore (lv' := [(9, .int 0), (8, .int 0), (7, .int 0), (6, .int 0), (5, .int 0), (4, .int (nI (behF B h f))), (0, .ref r0), (1, .int (nI f)), (2, .double v)]) hx hb dX2_baseLineAt_20 hl (by decide) rfl (fun ls hl => ?_)
  refine lv_iconst (v := 0) hx hb dX2_baseLineAt_22 (by decide) ?_
  refine lv_istore (lv' := [(10, .int 0), (9, .int 0), (8, .int 0), (7, .int 0), (6, .int 0), (5, .int 0), (4, .int (nI (behF B h f))), (0, .ref r0), (1, .int (nI f)), (2, .double v)]) hx hb dX2_baseLineAt_23 hl (by decide) rfl (fun ls hl => ?_)
  have K25 : ∀ (n25 : Nat) (x : Nat), w - x < n25 → (x ≤ w) → ∀ (H : Heap) (locs : List Loc), va_P G vwCl [(r0, .inr (1, [.ref h0])), (h0, .inr (0, [.int (nI w), .int (nI h), .double (midF w), .double (midF h), .ref q1, .ref q2])), (q1, .inl (cI, 24, .inl B)), (q2, .inl (cI, 24, .inl O))] H → va_D A [(r0, .inr (1, [.ref h0])), (h0, .inr (0, [.int (nI w), .int (nI h), .double (midF w), .double (midF h), .ref q1, .ref q2])), (q1, .inl (cI, 24, .inl B)), (q2, .inl (cI, 24, .inl O))] → va_S A s.heap H locs → ∀ ls : Array Slot, lv_has ls 13 [(0, .ref r0), (1, .int (nI f)), (2, .double v), (4, .int (nI (behF B h f))), (5, .int (nI (bS (fun _ _ => 1) lo x))), (6, .int (nI (bS (fun u _ => u) lo x))), (7, .int (nI (bS (fun _ z => z) lo x))), (8, .int (nI (bS (fun u _ => u * u) lo x))), (9, .int (nI (bS (fun u z => u * z) lo x))), (10, .int (nI x))] → W p l e rmX2_baseLineAt s m args below meth c H locs 0 0 Q (F0 m 25 ls []) := by
    intro n25
    induction n25 with
    | zero => intro x hn; exact absurd hn (by omega)
    | succ n25 ih25 =>
      intro x hn25 hi H locs hP hD hS ls hl
      refine lv_iload hx hb dX2_baseLineAt_25 (lv_at hl 9 rfl) ?_
      refine lv_aload_n hx hb dX2_baseLineAt_27 rfl (lv_at hl 0 rfl) ?_
      refine va_get (D := G) (ci := 1) (v := .ref h0) (C := RX2) (T := TX2) (N := 1) hx hb hts in_kX2_baseLineAt_X2 hown hK hP 0 rfl rfl 0 (by decide) (hts _ fl_kX2_baseLineAt_9) (fun _ h9 => h9) rfl dX2_baseLineAt_28 ?_
      refine va_get (D := G) (ci := 0) (v := .int (nI w)) (C := RX0) (T := TX0) (N := 6) hx hb hts in_kX2_baseLineAt_X0 hown hK hP 1 rfl rfl 0 (by decide) (hts _ fl_kX2_baseLineAt_41) (fun _ h9 => h9) rfl dX2_baseLineAt_31 ?_
      refine kGe (by omega) (by omega) (tgt := 97) hx hb dX2_baseLineAt_34 (by decide) (fun c_34 => ?_) (fun c_34 => ?_)
      · have e9 : w = x := by omega
        subst e9
        refine lv_iload hx hb dX2_baseLineAt_97 (lv_at hl 4 rfl) ?_
        refine lv_if_ne (tgt := 104) hx hb dX2_baseLineAt_99 (by decide) (fun c_99 => ?_) (fun c_99 => ?_)
        · refine lv_iload hx hb dX2_baseLineAt_104 (lv_at hl 4 rfl) ?_
          refine lv_iload hx hb dX2_baseLineAt_106 (lv_at hl 7 rfl) ?_
          refine lv_imul hx hb dX2_baseLineAt_108 ?_
          refine lv_iload hx hb dX2_baseLineAt_109 (lv_at hl 5 rfl) ?_
          refine lv_iload hx hb dX2_baseLineAt_111 (lv_at hl 5 rfl) ?_
          refine lv_imul hx hb dX2_baseLineAt_113 ?_
          refine lv_isub hx hb dX2_baseLineAt_114 ?_
          refine lv_istore (lv' := [(10, .int (((nI (bS (fun _ _ => 1) lo w)) * (nI (bS (fun u _ => u * u) lo w))) - ((nI (bS (fun u _ => u) lo w)) * (nI (bS (fun u _ => u) lo w))))), (0, .ref r0), (1, .int (nI f)), (2, .double v), (4, .int (nI (behF B h f))), (5, .int (nI (bS (fun _ _ => 1) lo w))), (6, .int (nI (bS (fun u _ => u) lo w))), (7, .int (nI (bS (fun _ z => z) lo w))), (8, .int (nI (bS (fun u _ => u * u) lo w))), (9, .int (nI (bS (fun u z => u * z) lo w)))]) hx hb dX2_baseLineAt_115 hl (by decide) rfl (fun ls hl => ?_)
          refine lv_iload hx hb dX2_baseLineAt_117 (lv_at hl 0 rfl) ?_
          refine lv_if_ne (tgt := 130) hx hb dX2_baseLineAt_119 (by decide) (fun c_119 => ?_) (fun c_119 => ?_)
          · refine lv_iload hx hb dX2_baseLineAt_130 (lv_at hl 5 rfl) ?_
            refine lv_iload hx hb dX2_baseLineAt_132 (lv_at hl 9 rfl) ?_
            refine lv_imul hx hb dX2_baseLineAt_134 ?_
            refine lv_iload hx hb dX2_baseLineAt_135 (lv_at hl 6 rfl) ?_
            refine lv_iload hx hb dX2_baseLineAt_137 (lv_at hl 7 rfl) ?_
            refine lv_imul hx hb dX2_baseLineAt_139 ?_
            refine lv_isub hx hb dX2_baseLineAt_140 ?_
            refine lv_i2d hx hb dX2_baseLineAt_141 ?_
            refine lv_iload hx hb dX2_baseLineAt_142 (lv_at hl 0 rfl) ?_
            refine lv_i2d hx hb dX2_baseLineAt_144 ?_
            have b1 : fIv (-39938162688) (39938162688) (FP.i2d (((nI (bS (fun _ _ => 1) lo w)) * (nI (bS (fun u z => u * z) lo w))) - ((nI (bS (fun u _ => u) lo w)) * (nI (bS (fun _ z => z) lo w))))) := fNum bn bXY bX bY
            have b2 : fIv (-39938162688) (39938162688) (FP.ddiv (FP.i2d (((nI (bS (fun _ _ => 1) lo w)) * (nI (bS (fun u z => u * z) lo w))) - ((nI (bS (fun u _ => u) lo w)) * (nI (bS (fun _ z => z) lo w))))) (FP.i2d (((nI (bS (fun _ _ => 1) lo w)) * (nI (bS (fun u _ => u * u) lo w))) - ((nI (bS (fun u _ => u) lo w)) * (nI (bS (fun u _ => u) lo w)))))) := fDivI b1 _ c_119 (by decide +kernel)
            refine lv_ddiv hx hb dX2_baseLineAt_145 b2.n64 ?_
            refine lv_dstore (lv' := [(11, .double (FP.ddiv (FP.i2d (((nI (bS (fun _ _ => 1) lo w)) * (nI (bS (fun u z => u * z) lo w))) - ((nI (bS (fun u _ => u) lo w)) * (nI (bS (fun _ z => z) lo w))))) (FP.i2d (((nI (bS (fun _ _ => 1) lo w)) * (nI (bS (fun u _ => u * u) lo w))) - ((nI (bS (fun u _ => u) lo w)) * (nI (bS (fun u _ => u) lo w))))))), (10, .int (((nI (bS (fun _ _ => 1) lo w)) * (nI (bS (fun u _ => u * u) lo w))) - ((nI (bS (fun u _ => u) lo w)) * (nI (bS (fun u _ => u) lo w))))), (0, .ref r0), (1, .int (nI f)), (2, .double v), (4, .int (nI (behF B h f))), (5, .int (nI (bS (fun _ _ => 1) lo w))), (6, .int (nI (bS (fun u _ => u) lo w))), (7, .int (nI (bS (fun _ z => z) lo w))), (8, .int (nI (bS (fun u _ => u * u) lo w))), (9, .int (nI (bS (fun u z => u * z) lo w)))]) hx hb dX2_baseLineAt_146 hl (by decide) rfl (fun ls hl => ?_)
            refine lv_dload hx hb dX2_baseLineAt_148 (lv_at hl 0 rfl) ?_
            refine lv_dload_n hx hb dX2_baseLineAt_150 rfl (lv_at hl 4 rfl) ?_
            have b3 : fIv (-39938162688000) (39938162688000) (FP.dmul (FP.ddiv (FP.i2d (((nI (bS (fun _ _ => 1) lo w)) * (nI (bS (fun u z => u * z) lo w))) - ((nI (bS (fun u _ => u) lo w)) * (nI (bS (fun _ z => z) lo w))))) (FP.i2d (((nI (bS (fun _ _ => 1) lo w)) * (nI (bS (fun u _ => u * u) lo w))) - ((nI (bS (fun u _ => u) lo w)) * (nI (bS (fun u _ => u) lo w)))))) v) := fIv.mul (n := 39938162688) (m := 65536000) (k := 39938162688000) b2 hv (by decide +kernel) (by decide +kernel)
            refine lv_dmul hx hb dX2_baseLineAt_151 b3.n64 ?_
            refine lv_iload hx hb dX2_baseLineAt_152 (lv_at hl 8 rfl) ?_
            refine lv_i2d hx hb dX2_baseLineAt_154 ?_
            refine lv_dload hx hb dX2_baseLineAt_155 (lv_at hl 0 rfl) ?_
            refine lv_iload hx hb dX2_baseLineAt_157 (lv_at hl 7 rfl) ?_
            refine lv_i2d hx hb dX2_baseLineAt_159 ?_
            have b4 : fIv (0) (36175872) (FP.i2d (nI (bS (fun u _ => u) lo w))) := fIvN (k := 552) bX (by omega)
            have b5 : fIv (-22045865803776) (22045865803776) (FP.dmul (FP.ddiv (FP.i2d (((nI (bS (fun _ _ => 1) lo w)) * (nI (bS (fun u z => u * z) lo w))) - ((nI (bS (fun u _ => u) lo w)) * (nI (bS (fun _ z => z) lo w))))) (FP.i2d (((nI (bS (fun _ _ => 1) lo w)) * (nI (bS (fun u _ => u * u) lo w))) - ((nI (bS (fun u _ => u) lo w)) * (nI (bS (fun u _ => u) lo w)))))) (FP.i2d (nI (bS (fun u _ => u) lo w)))) := fIv.mul (n := 39938162688) (m := 36175872) (k := 22045865803776) b2 (b4.weak (by decide +kernel) (by decide +kernel) (by decide +kernel) (by decide +kernel)) (by decide +kernel) (by decide +kernel)
            refine lv_dmul hx hb dX2_baseLineAt_160 b5.n64 ?_
            have b6 : fIv (0) (36175872) (FP.i2d (nI (bS (fun _ z => z) lo w))) := fIvN (k := 552) bY (by omega)
            have b7 : fIv (-22045865803776) (22045901979648) (FP.dsub (FP.i2d (nI (bS (fun _ z => z) lo w))) (FP.dmul (FP.ddiv (FP.i2d (((nI (bS (fun _ _ => 1) lo w)) * (nI (bS (fun u z => u * z) lo w))) - ((nI (bS (fun u _ => u) lo w)) * (nI (bS (fun _ z => z) lo w))))) (FP.i2d (((nI (bS (fun _ _ => 1) lo w)) * (nI (bS (fun u _ => u * u) lo w))) - ((nI (bS (fun u _ => u) lo w)) * (nI (bS (fun u _ => u) lo w)))))) (FP.i2d (nI (bS (fun u _ => u) lo w))))) := fSub b6 b5 (by decide +kernel) (by decide +kernel) (by decide +kernel) (by decide +kernel)
            refine lv_dsub hx hb dX2_baseLineAt_161 b7.n64 ?_
            refine lv_iload hx hb dX2_baseLineAt_162 (lv_at hl 6 rfl) ?_
            refine lv_i2d hx hb dX2_baseLineAt_164 ?_
            have b8 : fIv (-22045901979648) (22045901979648) (FP.ddiv (FP.dsub (FP.i2d (nI (bS (fun _ z => z) lo w))) (FP.dmul (FP.ddiv (FP.i2d (((nI (bS (fun _ _ => 1) lo w)) * (nI (bS (fun u z => u * z) lo w))) - ((nI (bS (fun u _ => u) lo w)) * (nI (bS (fun _ z => z) lo w))))) (FP.i2d (((nI (bS (fun _ _ => 1) lo w)) * (nI (bS (fun u _ => u * u) lo w))) - ((nI (bS (fun u _ => u) lo w)) * (nI (bS (fun u _ => u) lo w)))))) (FP.i2d (nI (bS (fun u _ => u) lo w))))) (FP.i2d (nI (bS (fun _ _ => 1) lo w)))) := fDivI (b7.weak (by decide +kernel) (by decide +kernel) (by decide +kernel) (by decide +kernel)) _ c_99 (by decide +kernel)
            refine lv_ddiv hx hb dX2_baseLineAt_165 b8.n64 ?_
            have b9 : fIv (-61984064667648) (61984064667648) (FP.dadd (FP.dmul (FP.ddiv (FP.i2d (((nI (bS (fun _ _ => 1) lo w)) * (nI (bS (fun u z => u * z) lo w))) - ((nI (bS (fun u _ => u) lo w)) * (nI (bS (fun _ z => z) lo w))))) (FP.i2d (((nI (bS (fun _ _ => 1) lo w)) * (nI (bS (fun u _ => u * u) lo w))) - ((nI (bS (fun u _ => u) lo w)) * (nI (bS (fun u _ => u) lo w)))))) v) (FP.ddiv (FP.dsub (FP.i2d (nI (bS (fun _ z => z) lo w))) (FP.dmul (FP.ddiv (FP.i2d (((nI (bS (fun _ _ => 1) lo w)) * (nI (bS (fun u z => u * z) lo w))) - ((nI (bS (fun u _ => u) lo w)) * (nI (bS (fun _ z => z) lo w))))) (FP.i2d (((nI (bS (fun _ _ => 1) lo w)) * (nI (bS (fun u _ => u * u) lo w))) - ((nI (bS (fun u _ => u) lo w)) * (nI (bS (fun u _ => u) lo w)))))) (FP.i2d (nI (bS (fun u _ => u) lo w))))) (FP.i2d (nI (bS (fun _ _ => 1) lo w))))) := fAdd b3 b8 (by decide +kernel) (by decide +kernel) (by decide +kernel) (by decide +kernel)
            refine lv_dadd hx hb dX2_baseLineAt_166 b9.n64 ?_
            exact hend _ _ _ _ _ _ dX2_baseLineAt_167 hP hD hS (by first | rfl | (simp only [blF, c_34, c_99, c_119, ↓reduceIte]; done) | (simp [blF, c_34, c_99, c_119]; done)) rfl
          · refine lv_iload hx hb dX2_baseLineAt_122 (lv_at hl 7 rfl) ?_
            refine lv_i2d hx hb dX2_baseLineAt_124 ?_
            refine lv_iload hx hb dX2_baseLineAt_125 (lv_at hl 5 rfl) ?_
            refine lv_i2d hx hb dX2_baseLineAt_127 ?_
            have b10 : fIv (0) (36175872) (FP.i2d (nI (bS (fun _ z => z) lo w))) := fIvN (k := 552) bY (by omega)
            have b11 : fIv (-36175872) (36175872) (FP.ddiv (FP.i2d (nI (bS (fun _ z => z) lo w))) (FP.i2d (nI (bS (fun _ _ => 1) lo w)))) := fDivI (b10.weak (by decide +kernel) (by decide +kernel) (by decide +kernel) (by decide +kernel)) _ c_99 (by decide +kernel)
            refine lv_ddiv hx hb dX2_baseLineAt_128 b11.n64 ?_
            exact hend _ _ _ _ _ _ dX2_baseLineAt_129 hP hD hS (by first | rfl | (simp only [blF, c_34, c_99, c_119, ↓reduceIte]; done) | (simp [blF, c_34, c_99, c_119]; done)) rfl
        · refine lv_dconst0 hx hb dX2_baseLineAt_102 ?_
          exact hend _ _ _ _ _ _ dX2_baseLineAt_103 hP hD hS (by first | rfl | (simp only [blF, c_34, c_99, ↓reduceIte]; done) | (simp [blF, c_34, c_99]; done)) rfl
      · refine lv_aload_n hx hb dX2_baseLineAt_37 rfl (lv_at hl 0 rfl) ?_
        refine lv_iload hx hb dX2_baseLineAt_38 (lv_at hl 9 rfl) ?_
        refine lv_iload_n hx hb dX2_baseLineAt_40 rfl (lv_at hl 1 rfl) ?_
        refine lv_iload hx hb dX2_baseLineAt_41 (lv_at hl 3 rfl) ?_
        refine kVi (w' := [(r0, .inr (1, [.ref h0])), (h0, .inr (0, [.int (nI w), .int (nI h), .double (midF w), .double (midF h), .ref q1, .ref q2])), (q1, .inl (cI, 24, .inl B)), (q2, .inl (cI, 24, .inl O))]) (wr := []) (isC := [0, 1, 2, 3]) (isR := []) (pm := [0, 1, 2, 3]) (rest := []) (kX2_lowestOn l G cI cZ cJ cD r0 h0 q1 q2 w h hw hh B O x f ((behF B h f)) (by omega) (by omega)) ⟨hx, hb, hml, hown, hts⟩ (cwV 3 hts gX2_baseLineAt_X2_lowestOn rfl rfl rfl hd_X2_lowestOn ⟨Nat.le_of_ble_eq_true rfl, Nat.le_of_ble_eq_true rfl⟩) hK hP hD hS hA ⟨rfl, rfl, rfl, by decide, rfl, rfl, rfl⟩ 1 0 rfl rfl rfl hl.1 rfl (Nat.le_of_ble_eq_true rfl) dX2_baseLineAt_43 ⟨Nat.le_of_ble_eq_true rfl, Nat.le_of_ble_eq_true rfl⟩ rfl rfl (fun H locs hP hD hS => ?_)
        rw [show lowO w h B x f (behF B h f - f) = lo x from by rw [hlo]]
        refine lv_istore (lv' := [(11, .int (optI (lo x))), (0, .ref r0), (1, .int (nI f)), (2, .double v), (4, .int (nI (behF B h f))), (5, .int (nI (bS (fun _ _ => 1) lo x))), (6, .int (nI (bS (fun u _ => u) lo x))), (7, .int (nI (bS (fun _ z => z) lo x))), (8, .int (nI (bS (fun u _ => u * u) lo x))), (9, .int (nI (bS (fun u z => u * z) lo x))), (10, .int (nI x))]) hx hb dX2_baseLineAt_46 hl (by decide) rfl (fun ls hl => ?_)
        refine lv_iload hx hb dX2_baseLineAt_48 (lv_at hl 0 rfl) ?_
        refine lv_iconst (v := (-1)) hx hb dX2_baseLineAt_50 (by decide) ?_
        refine lv_icmp_eq (tgt := 91) hx hb dX2_baseLineAt_51 (by decide) (fun c_51 => ?_) (fun c_51 => ?_)
        · have hy := optI_none c_51 (fun y e => hl24 x y e)
          have hE : nI (bS (fun _ _ => 1) lo x) = nI (bS (fun _ _ => 1) lo (x + 1)) := congrArg nI (bS_f hy).symm
          rw [hE] at hl
          have hE : nI (bS (fun u _ => u) lo x) = nI (bS (fun u _ => u) lo (x + 1)) := congrArg nI (bS_f hy).symm
          rw [hE] at hl
          have hE : nI (bS (fun _ z => z) lo x) = nI (bS (fun _ z => z) lo (x + 1)) := congrArg nI (bS_f hy).symm
          rw [hE] at hl
          have hE : nI (bS (fun u _ => u * u) lo x) = nI (bS (fun u _ => u * u) lo (x + 1)) := congrArg nI (bS_f hy).symm
          rw [hE] at hl
          have hE : nI (bS (fun u z => u * z) lo x) = nI (bS (fun u z => u * z) lo (x + 1)) := congrArg nI (bS_f hy).symm
          rw [hE] at hl
          refine lv_iinc (v := nI (x + 1)) (lv' := [(10, .int (nI (x + 1))), (11, .int (optI (lo x))), (0, .ref r0), (1, .int (nI f)), (2, .double v), (4, .int (nI (behF B h f))), (5, .int (nI (bS (fun _ _ => 1) lo (x + 1)))), (6, .int (nI (bS (fun u _ => u) lo (x + 1)))), (7, .int (nI (bS (fun _ z => z) lo (x + 1)))), (8, .int (nI (bS (fun u _ => u * u) lo (x + 1)))), (9, .int (nI (bS (fun u z => u * z) lo (x + 1))))]) hx hb dX2_baseLineAt_91 hl (k := 10) rfl (nI_1 _) (by decide) rfl (fun ls hl => ?_)
          refine lv_goto (tgt := 25) hx hb dX2_baseLineAt_94 (by decide) ?_
          exact ih25 (x + 1) (by omega) (by omega) _ _ hP hD hS _ (lv_sub hl [2, 3, 4, 5, 6, 7, 8, 9, 10, 0] rfl)
        · obtain ⟨y, hy⟩ := optI_some c_51
          have hy24 := hl24 x y hy
          rw [hy] at hl
          refine lv_iinc (v := nI ((bS (fun _ _ => 1) lo x) + 1)) (lv' := [(5, .int (nI ((bS (fun _ _ => 1) lo x) + 1))), (11, .int (nI y)), (0, .ref r0), (1, .int (nI f)), (2, .double v), (4, .int (nI (behF B h f))), (6, .int (nI (bS (fun u _ => u) lo x))), (7, .int (nI (bS (fun _ z => z) lo x))), (8, .int (nI (bS (fun u _ => u * u) lo x))), (9, .int (nI (bS (fun u z => u * z) lo x))), (10, .int (nI x))]) hx hb dX2_baseLineAt_54 hl (k := 5) rfl (nI_1 _) (by decide) rfl (fun ls hl => ?_)
          refine lv_iload hx hb dX2_baseLineAt_57 (lv_at hl 6 rfl) ?_
          refine lv_iload hx hb dX2_baseLineAt_59 (lv_at hl 10 rfl) ?_
          refine lv_iadd hx hb dX2_baseLineAt_61 ?_
          refine kTopI (z := nI (bS (fun u _ => u) lo x + x)) (nI_add _ _) ?_
          refine lv_istore (lv' := [(6, .int (nI (bS (fun u _ => u) lo x + x))), (5, .int (nI ((bS (fun _ _ => 1) lo x) + 1))), (11, .int (nI y)), (0, .ref r0), (1, .int (nI f)), (2, .double v), (4, .int (nI (behF B h f))), (7, .int (nI (bS (fun _ z => z) lo x))), (8, .int (nI (bS (fun u _ => u * u) lo x))), (9, .int (nI (bS (fun u z => u * z) lo x))), (10, .int (nI x))]) hx hb dX2_baseLineAt_62 hl (by decide) rfl (fun ls hl => ?_)
          refine lv_iload hx hb dX2_baseLineAt_64 (lv_at hl 7 rfl) ?_
          refine lv_iload hx hb dX2_baseLineAt_66 (lv_at hl 2 rfl) ?_
          refine lv_iadd hx hb dX2_baseLineAt_68 ?_
          refine kTopI (z := nI (bS (fun _ z => z) lo x + y)) (nI_add _ _) ?_
          refine lv_istore (lv' := [(7, .int (nI (bS (fun _ z => z) lo x + y))), (6, .int (nI (bS (fun u _ => u) lo x + x))), (5, .int (nI ((bS (fun _ _ => 1) lo x) + 1))), (11, .int (nI y)), (0, .ref r0), (1, .int (nI f)), (2, .double v), (4, .int (nI (behF B h f))), (8, .int (nI (bS (fun u _ => u * u) lo x))), (9, .int (nI (bS (fun u z => u * z) lo x))), (10, .int (nI x))]) hx hb dX2_baseLineAt_69 hl (by decide) rfl (fun ls hl => ?_)
          refine lv_iload hx hb dX2_baseLineAt_71 (lv_at hl 8 rfl) ?_
          refine lv_iload hx hb dX2_baseLineAt_73 (lv_at hl 10 rfl) ?_
          refine lv_iload hx hb dX2_baseLineAt_75 (lv_at hl 10 rfl) ?_
          refine lv_imul hx hb dX2_baseLineAt_77 ?_
          refine kTopI (z := nI (x * x)) (pk_mul _ _) ?_
          refine lv_iadd hx hb dX2_baseLineAt_78 ?_
          refine kTopI (z := nI (bS (fun u _ => u * u) lo x + x * x)) (nI_add _ _) ?_
          refine lv_istore (lv' := [(8, .int (nI (bS (fun u _ => u * u) lo x + x * x))), (7, .int (nI (bS (fun _ z => z) lo x + y))), (6, .int (nI (bS (fun u _ => u) lo x + x))), (5, .int (nI ((bS (fun _ _ => 1) lo x) + 1))), (11, .int (nI y)), (0, .ref r0), (1, .int (nI f)), (2, .double v), (4, .int (nI (behF B h f))), (9, .int (nI (bS (fun u z => u * z) lo x))), (10, .int (nI x))]) hx hb dX2_baseLineAt_79 hl (by decide) rfl (fun ls hl => ?_)
          refine lv_iload hx hb dX2_baseLineAt_81 (lv_at hl 9 rfl) ?_
          refine lv_iload hx hb dX2_baseLineAt_83 (lv_at hl 10 rfl) ?_
          refine lv_iload hx hb dX2_baseLineAt_85 (lv_at hl 4 rfl) ?_
          refine lv_imul hx hb dX2_baseLineAt_87 ?_
          refine kTopI (z := nI (x * y)) (pk_mul _ _) ?_
          refine lv_iadd hx hb dX2_baseLineAt_88 ?_
          refine kTopI (z := nI (bS (fun u z => u * z) lo x + x * y)) (nI_add _ _) ?_
          refine lv_istore (lv' := [(9, .int (nI (bS (fun u z => u * z) lo x + x * y))), (8, .int (nI (bS (fun u _ => u * u) lo x + x * x))), (7, .int (nI (bS (fun _ z => z) lo x + y))), (6, .int (nI (bS (fun u _ => u) lo x + x))), (5, .int (nI ((bS (fun _ _ => 1) lo x) + 1))), (11, .int (nI y)), (0, .ref r0), (1, .int (nI f)), (2, .double v), (4, .int (nI (behF B h f))), (10, .int (nI x))]) hx hb dX2_baseLineAt_89 hl (by decide) rfl (fun ls hl => ?_)
          have hE : nI ((bS (fun _ _ => 1) lo x) + 1) = nI (bS (fun _ _ => 1) lo (x + 1)) := congrArg nI (bS_t hy).symm
          rw [hE] at hl
          have hE : nI (bS (fun u _ => u) lo x + x) = nI (bS (fun u _ => u) lo (x + 1)) := congrArg nI (bS_t hy).symm
          rw [hE] at hl
          have hE : nI (bS (fun _ z => z) lo x + y) = nI (bS (fun _ z => z) lo (x + 1)) := congrArg nI (bS_t hy).symm
          rw [hE] at hl
          have hE : nI (bS (fun u _ => u * u) lo x + x * x) = nI (bS (fun u _ => u * u) lo (x + 1)) := congrArg nI (bS_t hy).symm
          rw [hE] at hl
          have hE : nI (bS (fun u z => u * z) lo x + x * y) = nI (bS (fun u z => u * z) lo (x + 1)) := congrArg nI (bS_t hy).symm
          rw [hE] at hl
          refine lv_iinc (v := nI (x + 1)) (lv' := [(10, .int (nI (x + 1))), (9, .int (nI (bS (fun u z => u * z) lo (x + 1)))), (8, .int (nI (bS (fun u _ => u * u) lo (x + 1)))), (7, .int (nI (bS (fun _ z => z) lo (x + 1)))), (6, .int (nI (bS (fun u _ => u) lo (x + 1)))), (5, .int (nI (bS (fun _ _ => 1) lo (x + 1)))), (11, .int (nI y)), (0, .ref r0), (1, .int (nI f)), (2, .double v), (4, .int (nI (behF B h f)))]) hx hb dX2_baseLineAt_91 hl (k := 10) rfl (nI_1 _) (by decide) rfl (fun ls hl => ?_)
          refine lv_goto (tgt := 25) hx hb dX2_baseLineAt_94 (by decide) ?_
          exact ih25 (x + 1) (by omega) (by omega) _ _ hP hD hS _ (lv_sub hl [7, 8, 9, 10, 5, 4, 3, 2, 1, 0] rfl)
  exact K25 (w - 0 + 1) 0 (by omega) (by omega) _ _ hP hD hS _ (lv_sub hl [7, 8, 9, 6, 5, 4, 3, 2, 1, 0] rfl)
