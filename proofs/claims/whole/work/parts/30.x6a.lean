/-! the reference's words -/
def bA (P : Nat → Bool) : Nat → Int32 := fun k => b2i (P k)
def uB (P : Nat → Bool) (i : Nat) (v : Bool) : Nat → Bool := fun k => if k = i then v else P k
theorem bA_u (P : Nat → Bool) (i : Nat) (v : Bool) : upd (bA P) i (vp_nar .boolean (b2i v)) = bA (uB P i v) := by
  funext k
  unfold upd bA uB
  split
  · cases v <;> decide +kernel
  · rfl
def cpB (N P : Nat → Bool) (i : Nat) : Nat → Bool := fun k => if k < i then N k else P k
theorem cpB_0 (N P : Nat → Bool) : cpB N P 0 = P := by funext k; simp [cpB]
theorem cpB_s (N P : Nat → Bool) (i : Nat) : uB (cpB N P i) i (N i) = cpB N P (i + 1) := by
  funext k
  unfold uB cpB
  by_cases h : k = i
  · subst h; simp
  · have h2 : k < i + 1 ↔ k < i := by omega
    simp [h, h2]
def e4 (z : Nat → Int32) (l u r d : Int32) : Nat → Int32 := fun k => if k = 0 then l else if k = 1 then u else if k = 2 then r else if k = 3 then d else z k
theorem e4_0 (z : Nat → Int32) (l u r d v : Int32) : upd (e4 z l u r d) (0 : Int32).toNatClampNeg v = e4 z v u r d := by
  rw [show (0 : Int32).toNatClampNeg = 0 from rfl]; funext k; unfold upd e4; by_cases h : k = 0 <;> simp [h]
theorem e4_1 (z : Nat → Int32) (l u r d v : Int32) : upd (e4 z l u r d) (1 : Int32).toNatClampNeg v = e4 z l v r d := by
  rw [show (1 : Int32).toNatClampNeg = 1 from rfl]; funext k; unfold upd e4; by_cases h : k = 1 <;> simp [h]
theorem e4_2 (z : Nat → Int32) (l u r d v : Int32) : upd (e4 z l u r d) (2 : Int32).toNatClampNeg v = e4 z l u v d := by
  rw [show (2 : Int32).toNatClampNeg = 2 from rfl]; funext k; unfold upd e4; by_cases h : k = 2 <;> simp [h]
theorem e4_3 (z : Nat → Int32) (l u r d v : Int32) : upd (e4 z l u r d) (3 : Int32).toNatClampNeg v = e4 z l u r v := by
  rw [show (3 : Int32).toNatClampNeg = 3 from rfl]; funext k; unfold upd e4; by_cases h : k = 3 <;> simp [h]
theorem vp_in_lit : vp_in 0 4 ∧ vp_in 1 4 ∧ vp_in 2 4 ∧ vp_in 3 4 := by unfold vp_in; decide +kernel
def refB (q : Int32) : Bool := if q ≤ 0 then false else true
def mOnB (w h : Nat) (P : Nat → Bool) (x y : Int32) : Bool := if x < 0 then false else if nI w ≤ x then false else if y < 0 then false else if nI h ≤ y then false else P (24 * y.toNatClampNeg + x.toNatClampNeg)
theorem inR {n : Nat} {x : Int32} (hn : n < 2 ^ 31) (h0 : ¬ x < 0) (h1 : ¬ nI n ≤ x) : ∃ j, j < n ∧ x = nI j := by
  rcases pk_ix x (n := n) hn with h | h | ⟨j, hj, rfl⟩
  · exact absurd h h0
  · exact absurd h h1
  · exact ⟨j, hj, rfl⟩
def mCnt (P : Nat → Bool) : Int32 := sumI (fun k => b2i (P k)) 576
def mEndB (w h : Nat) (P : Nat → Bool) (x y : Nat) : Bool := if mOnB w h P (nI x) (nI y) = true then (if mOnB w h P (nI x + 1) (nI y) = true then false else true) else false
def mEx (w h : Nat) (P : Nat → Bool) (y : Nat) (acc : Int32) : Nat → Int32
  | 0 => acc
  | x + 1 => mEx w h P y acc x + b2i (mEndB w h P x y)
def mEy (w h : Nat) (P : Nat → Bool) : Nat → Int32
  | 0 => 0
  | y + 1 => mEx w h P y (mEy w h P y) w
def mEnds (w h : Nat) (P : Nat → Bool) : Int32 := mEy w h P h
def mcol (LN : Nat → Int32) (ln : Int32) : Nat → Int32 := upd LN (ln + 40).toNatClampNeg (LN (ln + 40).toNatClampNeg + 1)
def mlX (w h : Nat) (P : Nat → Bool) (t : UInt64) (y : Nat) (LN : Nat → Int32) : Nat → Nat → Int32
  | 0 => LN
  | x + 1 => if mEndB w h P x y = true then mcol (mlX w h P t y LN x) (lineF y x t) else mlX w h P t y LN x
def mlY (w h : Nat) (P : Nat → Bool) (t : UInt64) (LN : Nat → Int32) : Nat → Nat → Int32
  | 0 => LN
  | y + 1 => mlX w h P t y (mlY w h P t LN y) w
def zerL (LN : Nat → Int32) : Nat → Int32 := mapN (fun _ _ => 0) LN 104
def sqM (LN : Nat → Int32) : Int32 := sumI (fun i => LN i * LN i) 104
def mLn (w h : Nat) (P : Nat → Bool) (LN : Nat → Int32) (a : Int32) : Nat → Int32 := if mEnds w h P = 0 then LN else mlY w h P (slopeF (FP.i2d a)) (zerL LN) h
theorem lineR {x y : Nat} {t : UInt64} (hx : x ≤ 23) (hy : y ≤ 23) (ht : fIv (-23855) 23855 t) : -9 ≤ (lineF y x t).toInt ∧ (lineF y x t).toInt ≤ 32 := by
  have b1 := fIvN (i := x) (k := 23) hx (by omega)
  have b2 := fIvN (i := y) (k := 23) hy (by omega)
  have m1 : fIv (-548665) (548665) _ := fIv.mul (n := 1507328) (m := 23855) (k := 548665) (b1.weak (by decide +kernel) (by decide +kernel) (by decide +kernel) (by decide +kernel)) ht (by decide +kernel) (by decide +kernel)
  have m2 : fIv (-548665) (2055993) _ := fSub b2 m1 (by decide +kernel) (by decide +kernel) (by decide +kernel) (by decide +kernel)
  have m3 : fIv (-515897) (2088761) _ := fAdd m2 fHalf (by decide +kernel) (by decide +kernel) (by decide +kernel) (by decide +kernel)
  have q := fWhole m3 (by decide) (by decide)
  unfold lineF
  omega
theorem lineV {x y : Nat} {t : UInt64} (hx : x ≤ 23) (hy : y ≤ 23) (ht : fIv (-23855) 23855 t) : vp_in (lineF y x t + 40) 104 := by
  have h := lineR hx hy ht
  rw [vp_in_iff, Int32.toInt_add, show (40 : Int32).toInt = 40 from rfl, Int.bmod_eq_of_le (by omega) (by omega)]
  omega
def eqL (E F : Nat → Int32) : Prop := ∀ i, i < 104 → E i = F i
theorem mcol_eq {E F : Nat → Int32} (h : eqL E F) {ln : Int32} (hv : vp_in (ln + 40) 104) : eqL (mcol E ln) (mcol F ln) := by
  intro i hi
  have h3 : (ln + 40).toNatClampNeg < 104 := Nat.not_le.mp fun q => hv (Or.inr q)
  unfold mcol upd
  by_cases e : i = (ln + 40).toNatClampNeg
  · rw [if_pos e, if_pos e, h _ h3]
  · rw [if_neg e, if_neg e]; exact h i hi
theorem mlX_eq (w h : Nat) (P : Nat → Bool) {t : UInt64} (ht : fIv (-23855) 23855 t) {y : Nat} (hy : y ≤ 23) {E F : Nat → Int32} (he : eqL E F) : ∀ x, x ≤ 24 → eqL (mlX w h P t y E x) (mlX w h P t y F x)
  | 0, _ => he
  | x + 1, hx => by
    have ih := mlX_eq w h P ht hy he x (by omega)
    unfold mlX
    split
    · exact mcol_eq ih (lineV (by omega) hy ht)
    · exact ih
theorem mlY_eq (w h : Nat) (hw : w ≤ 24) (P : Nat → Bool) {t : UInt64} (ht : fIv (-23855) 23855 t) {E F : Nat → Int32} (he : eqL E F) : ∀ y, y ≤ 24 → eqL (mlY w h P t E y) (mlY w h P t F y)
  | 0, _ => he
  | y + 1, hy => mlX_eq w h P ht (by omega) (mlY_eq w h hw P ht he y (by omega)) w hw
def sqMZ (w h : Nat) (P : Nat → Bool) (t : UInt64) : Int32 := sqM (mlY w h P t (fun _ => 0) h)
theorem sqMZ_of (w h : Nat) (hw : w ≤ 24) (hh : h ≤ 24) (P : Nat → Bool) {t : UInt64} (ht : fIv (-23855) 23855 t) (LN : Nat → Int32) : sqM (mlY w h P t (zerL LN) h) = sqMZ w h P t :=
  sumI_eq 104 (fun i hi => by have := mlY_eq w h hw P ht (E := zerL LN) (F := fun _ => 0) (fun i hi => by simp [zerL, mapN, hi]) h hh i hi; rw [this])
def mSum (w h : Nat) (P : Nat → Bool) (a : Int32) : UInt64 := if mEnds w h P = 0 then FP.dconst0 else FP.ddiv (FP.i2d (sqMZ w h P (slopeF (FP.i2d a)))) (FP.i2d (mEnds w h P))
theorem fMSum (w h : Nat) (P : Nat → Bool) (a : Int32) : fIv (-140737488355328) 140737488355328 (mSum w h P a) := by
  unfold mSum
  split
  · exact fc_dconst0.weak (by decide) (by decide) (by decide +kernel) (by decide +kernel)
  · rename_i hne
    exact fDivI (fAny _) _ hne (by decide +kernel)
def withF (x y : Int32) : Int32 := if 0 ≤ x - x / y * y then x - x / y * y else (x - x / y * y) + y
theorem stp_c0 : ∀ r, r < 6 → (nI r = 0 → stpN r = 50) ∧ (nI r = 1 → stpN r = 25) ∧ (nI r = 2 → stpN r = 12) ∧ (nI r = 3 → stpN r = 6) ∧ (nI r = 4 → stpN r = 3) ∧ (¬ nI r = 0 → ¬ nI r = 1 → ¬ nI r = 2 → ¬ nI r = 3 → ¬ nI r = 4 → stpN r = 1) := by
  intro r hr
  rcases (show r = 0 ∨ r = 1 ∨ r = 2 ∨ r = 3 ∨ r = 4 ∨ r = 5 by omega) with rfl | rfl | rfl | rfl | rfl | rfl
  all_goals
    refine ⟨fun q => ?_, fun q => ?_, fun q => ?_, fun q => ?_, fun q => ?_, fun q0 q1 q2 q3 q4 => ?_⟩
    all_goals first | rfl | exact absurd q (by decide) | exact absurd rfl q0 | exact absurd rfl q1 | exact absurd rfl q2 | exact absurd rfl q3 | exact absurd rfl q4
theorem wd_kX6_radians_c45 : Cond.constantDouble RX6 45 (4614256656552045848) ∈ wsX6_radians := by decide +kernel
theorem wd_kX6_radians_c47 : Cond.constantDouble RX6 47 (4670677016280825856) ∈ wsX6_radians := by decide +kernel
abbrev rmX6_radians : Room := { frames := 0, cells := 0, slots := 0, locals := 0 }
set_option maxRecDepth 100000 in
set_option maxHeartbeats 4000000 in
theorem kX6_radians (l : Launch) (G : va_G) (cI cZ cJ cD : ClassId) (a : UInt64) (ha : fIv (-131072000) 131072000 a) : Cd l G (kTy cI cZ cJ cD) yX6_radians wsX6_radians rmX6_radians [.double a] [] (radF a) [] := by
  refine Cd.of rfl rfl (cc := cX6_radians) (maxL := 2) (plainFor_of_name (by decide)) rfl (Nat.le_of_ble_eq_true rfl) rfl ?_
  intro p e s m args below meth c A Q hx hb hml hts hown hA hK hP hD hS hend ls hl
  refine lv_dload_n hx hb dX6_radians_0 rfl (lv_at hl 0 rfl) ?_
  refine lv_ldc2d (v := 4614256656552045848) hx hb hown (hts _ wd_kX6_radians_c45) dX6_radians_1 ?_
  have b1 : fIv (-411776000) (411776000) (FP.dmul a 4614256656552045848) := fIv.mul (n := 131072000) (m := 205888) (k := 411776000) ha (fc_4614256656552045848.weak (by decide +kernel) (by decide +kernel) (by decide +kernel) (by decide +kernel)) (by decide +kernel) (by decide +kernel)
  refine lv_dmul hx hb dX6_radians_4 b1.n64 ?_
  refine lv_ldc2d (v := 4670677016280825856) hx hb hown (hts _ wd_kX6_radians_c47) dX6_radians_5 ?_
  have b2 : fIv (-22877) (22877) (FP.ddiv (FP.dmul a 4614256656552045848) 4670677016280825856) := fIv.div (n := 411776000) (L := 1179648000) (k := 22877) b1 fc_4670677016280825856 (by decide +kernel) (by decide +kernel) (by decide +kernel)
  refine lv_ddiv hx hb dX6_radians_8 b2.n64 ?_
  exact hend _ _ _ _ _ _ dX6_radians_9 hP hD hS rfl rfl
theorem wd_kX6_slope_c53 : Cond.constantDouble RX6 53 (4599676419421066581) ∈ wsX6_slope := by decide +kernel
theorem wd_kX6_slope_c55 : Cond.constantDouble RX6 55 (4593971859893063953) ∈ wsX6_slope := by decide +kernel
theorem wd_kX6_slope_c57 : Cond.constantDouble RX6 57 (4587938466106554908) ∈ wsX6_slope := by decide +kernel
abbrev rmX6_slope : Room := { frames := 1, cells := 0, slots := 0, locals := 21 }
set_option maxRecDepth 100000 in
set_option maxHeartbeats 4000000 in
theorem kX6_slope (l : Launch) (G : va_G) (cI cZ cJ cD : ClassId) (a : UInt64) (ha : fIv (-131072000) 131072000 a) : Cd l G (kTy cI cZ cJ cD) yX6_slope wsX6_slope rmX6_slope [.double a] [] (slopeF a) [] := by
  refine Cd.of rfl rfl (cc := cX6_slope) (maxL := 6) (plainFor_of_name (by decide)) rfl (Nat.le_of_ble_eq_true rfl) rfl ?_
  intro p e s m args below meth c A Q hx hb hml hts hown hA hK hP hD hS hend ls hl
  refine lv_dload_n hx hb dX6_slope_0 rfl (lv_at hl 0 rfl) ?_
  refine kSd (rest := []) (kX6_radians l G cI cZ cJ cD a ha) ⟨hx, hb, hml, hown, hts⟩ (va_cwS 1 hts gX6_slope_X6_radians rfl rfl rfl hs_X6_radians ⟨Nat.le_of_ble_eq_true rfl, Nat.le_of_ble_eq_true rfl⟩) hK hP hD hS hA rfl hl.1 rfl (Nat.le_of_ble_eq_true rfl) dX6_slope_1 ⟨Nat.le_of_ble_eq_true rfl, Nat.le_of_ble_eq_true rfl⟩ rfl rfl (fun H locs hP hD hS => ?_)
  have b1 : fIv (-22877) (22877) (radF a) := fRad ha
  refine lv_dstore_n (lv' := [(2, .double (radF a)), (0, .double a)]) hx hb dX6_slope_4 rfl hl (by decide) rfl (fun ls hl => ?_)
  refine lv_dload_n hx hb dX6_slope_5 rfl (lv_at hl 0 rfl) ?_
  refine lv_dload_n hx hb dX6_slope_6 rfl (lv_at hl 0 rfl) ?_
  have b2 : fIv (-7986) (7986) (FP.dmul (radF a) (radF a)) := fIv.mul (n := 22877) (m := 22877) (k := 7986) b1 b1 (by decide +kernel) (by decide +kernel)
  refine lv_dmul hx hb dX6_slope_7 b2.n64 ?_
  refine lv_dstore (lv' := [(4, .double (FP.dmul (radF a) (radF a))), (2, .double (radF a)), (0, .double a)]) hx hb dX6_slope_8 hl (by decide) rfl (fun ls hl => ?_)
  refine lv_dload_n hx hb dX6_slope_10 rfl (lv_at hl 1 rfl) ?_
  refine lv_dconst1 hx hb dX6_slope_11 ?_
  refine lv_dload hx hb dX6_slope_12 (lv_at hl 0 rfl) ?_
  refine lv_ldc2d (v := 4599676419421066581) hx hb hown (hts _ wd_kX6_slope_c53) dX6_slope_14 ?_
  refine lv_dload hx hb dX6_slope_17 (lv_at hl 0 rfl) ?_
  refine lv_ldc2d (v := 4593971859893063953) hx hb hown (hts _ wd_kX6_slope_c55) dX6_slope_19 ?_
  refine lv_dload hx hb dX6_slope_22 (lv_at hl 0 rfl) ?_
  refine lv_ldc2d (v := 4587938466106554908) hx hb hown (hts _ wd_kX6_slope_c57) dX6_slope_24 ?_
  have b3 : fIv (-432) (432) (FP.dmul (FP.dmul (radF a) (radF a)) 4587938466106554908) := fIv.mul (n := 7986) (m := 3537) (k := 432) b2 (fc_4587938466106554908.weak (by decide +kernel) (by decide +kernel) (by decide +kernel) (by decide +kernel)) (by decide +kernel) (by decide +kernel)
  refine lv_dmul hx hb dX6_slope_27 b3.n64 ?_
  have b4 : fIv (8306) (9171) (FP.dadd 4593971859893063953 (FP.dmul (FP.dmul (radF a) (radF a)) 4587938466106554908)) := fAdd fc_4593971859893063953 b3 (by decide +kernel) (by decide +kernel) (by decide +kernel) (by decide +kernel)
  refine lv_dadd hx hb dX6_slope_28 b4.n64 ?_
  have b5 : fIv (-1118) (1118) (FP.dmul (FP.dmul (radF a) (radF a)) (FP.dadd 4593971859893063953 (FP.dmul (FP.dmul (radF a) (radF a)) 4587938466106554908))) := fIv.mul (n := 7986) (m := 9171) (k := 1118) b2 (b4.weak (by decide +kernel) (by decide +kernel) (by decide +kernel) (by decide +kernel)) (by decide +kernel) (by decide +kernel)
  refine lv_dmul hx hb dX6_slope_29 b5.n64 ?_
  have b6 : fIv (20727) (22964) (FP.dadd 4599676419421066581 (FP.dmul (FP.dmul (radF a) (radF a)) (FP.dadd 4593971859893063953 (FP.dmul (FP.dmul (radF a) (radF a)) 4587938466106554908)))) := fAdd fc_4599676419421066581 b5 (by decide +kernel) (by decide +kernel) (by decide +kernel) (by decide +kernel)
  refine lv_dadd hx hb dX6_slope_30 b6.n64 ?_
  have b7 : fIv (-2799) (2799) (FP.dmul (FP.dmul (radF a) (radF a)) (FP.dadd 4599676419421066581 (FP.dmul (FP.dmul (radF a) (radF a)) (FP.dadd 4593971859893063953 (FP.dmul (FP.dmul (radF a) (radF a)) 4587938466106554908))))) := fIv.mul (n := 7986) (m := 22964) (k := 2799) b2 (b6.weak (by decide +kernel) (by decide +kernel) (by decide +kernel) (by decide +kernel)) (by decide +kernel) (by decide +kernel)
  refine lv_dmul hx hb dX6_slope_31 b7.n64 ?_
  have b8 : fIv (62737) (68335) (FP.dadd FP.dconst1 (FP.dmul (FP.dmul (radF a) (radF a)) (FP.dadd 4599676419421066581 (FP.dmul (FP.dmul (radF a) (radF a)) (FP.dadd 4593971859893063953 (FP.dmul (FP.dmul (radF a) (radF a)) 4587938466106554908)))))) := fAdd fc_dconst1 b7 (by decide +kernel) (by decide +kernel) (by decide +kernel) (by decide +kernel)
  refine lv_dadd hx hb dX6_slope_32 b8.n64 ?_
  have b9 : fIv (-23855) (23855) (FP.dmul (radF a) (FP.dadd FP.dconst1 (FP.dmul (FP.dmul (radF a) (radF a)) (FP.dadd 4599676419421066581 (FP.dmul (FP.dmul (radF a) (radF a)) (FP.dadd 4593971859893063953 (FP.dmul (FP.dmul (radF a) (radF a)) 4587938466106554908))))))) := fIv.mul (n := 22877) (m := 68335) (k := 23855) b1 (b8.weak (by decide +kernel) (by decide +kernel) (by decide +kernel) (by decide +kernel)) (by decide +kernel) (by decide +kernel)
  refine lv_dmul hx hb dX6_slope_33 b9.n64 ?_
  exact hend _ _ _ _ _ _ dX6_slope_34 hP hD hS rfl rfl
theorem wd_kX6_sine_c59 : Cond.constantDouble RX6 59 (13818544856648471893) ∈ wsX6_sine := by decide +kernel
theorem wd_kX6_sine_c61 : Cond.constantDouble RX6 61 (4575957461383581969) ∈ wsX6_sine := by decide +kernel
theorem wd_kX6_sine_c63 : Cond.constantDouble RX6 63 (13774824197408792602) ∈ wsX6_sine := by decide +kernel
abbrev rmX6_sine : Room := { frames := 1, cells := 0, slots := 0, locals := 21 }
set_option maxRecDepth 100000 in
set_option maxHeartbeats 4000000 in
theorem kX6_sine (l : Launch) (G : va_G) (cI cZ cJ cD : ClassId) (a : UInt64) (ha : fIv (-131072000) 131072000 a) : Cd l G (kTy cI cZ cJ cD) yX6_sine wsX6_sine rmX6_sine [.double a] [] (sineF a) [] := by
  refine Cd.of rfl rfl (cc := cX6_sine) (maxL := 6) (plainFor_of_name (by decide)) rfl (Nat.le_of_ble_eq_true rfl) rfl ?_
  intro p e s m args below meth c A Q hx hb hml hts hown hA hK hP hD hS hend ls hl
  refine lv_dload_n hx hb dX6_sine_0 rfl (lv_at hl 0 rfl) ?_
  refine kSd (rest := []) (kX6_radians l G cI cZ cJ cD a ha) ⟨hx, hb, hml, hown, hts⟩ (va_cwS 1 hts gX6_sine_X6_radians rfl rfl rfl hs_X6_radians ⟨Nat.le_of_ble_eq_true rfl, Nat.le_of_ble_eq_true rfl⟩) hK hP hD hS hA rfl hl.1 rfl (Nat.le_of_ble_eq_true rfl) dX6_sine_1 ⟨Nat.le_of_ble_eq_true rfl, Nat.le_of_ble_eq_true rfl⟩ rfl rfl (fun H locs hP hD hS => ?_)
  have b1 : fIv (-22877) (22877) (radF a) := fRad ha
  refine lv_dstore_n (lv' := [(2, .double (radF a)), (0, .double a)]) hx hb dX6_sine_4 rfl hl (by decide) rfl (fun ls hl => ?_)
  refine lv_dload_n hx hb dX6_sine_5 rfl (lv_at hl 0 rfl) ?_
  refine lv_dload_n hx hb dX6_sine_6 rfl (lv_at hl 0 rfl) ?_
  have b2 : fIv (-7986) (7986) (FP.dmul (radF a) (radF a)) := fIv.mul (n := 22877) (m := 22877) (k := 7986) b1 b1 (by decide +kernel) (by decide +kernel)
  refine lv_dmul hx hb dX6_sine_7 b2.n64 ?_
  refine lv_dstore (lv' := [(4, .double (FP.dmul (radF a) (radF a))), (2, .double (radF a)), (0, .double a)]) hx hb dX6_sine_8 hl (by decide) rfl (fun ls hl => ?_)
  refine lv_dload_n hx hb dX6_sine_10 rfl (lv_at hl 1 rfl) ?_
  refine lv_dconst1 hx hb dX6_sine_11 ?_
  refine lv_dload hx hb dX6_sine_12 (lv_at hl 0 rfl) ?_
  refine lv_ldc2d (v := 13818544856648471893) hx hb hown (hts _ wd_kX6_sine_c59) dX6_sine_14 ?_
  refine lv_dload hx hb dX6_sine_17 (lv_at hl 0 rfl) ?_
  refine lv_ldc2d (v := 4575957461383581969) hx hb hown (hts _ wd_kX6_sine_c61) dX6_sine_19 ?_
  refine lv_dload hx hb dX6_sine_22 (lv_at hl 0 rfl) ?_
  refine lv_ldc2d (v := 13774824197408792602) hx hb hown (hts _ wd_kX6_sine_c63) dX6_sine_24 ?_
  have b3 : fIv (-2) (2) (FP.dmul (FP.dmul (radF a) (radF a)) 13774824197408792602) := fIv.mul (n := 7986) (m := 14) (k := 2) b2 (fc_13774824197408792602.weak (by decide +kernel) (by decide +kernel) (by decide +kernel) (by decide +kernel)) (by decide +kernel) (by decide +kernel)
  refine lv_dmul hx hb dX6_sine_27 b3.n64 ?_
  have b4 : fIv (544) (549) (FP.dadd 4575957461383581969 (FP.dmul (FP.dmul (radF a) (radF a)) 13774824197408792602)) := fAdd fc_4575957461383581969 b3 (by decide +kernel) (by decide +kernel) (by decide +kernel) (by decide +kernel)
  refine lv_dadd hx hb dX6_sine_28 b4.n64 ?_
  have b5 : fIv (-67) (67) (FP.dmul (FP.dmul (radF a) (radF a)) (FP.dadd 4575957461383581969 (FP.dmul (FP.dmul (radF a) (radF a)) 13774824197408792602))) := fIv.mul (n := 7986) (m := 549) (k := 67) b2 (b4.weak (by decide +kernel) (by decide +kernel) (by decide +kernel) (by decide +kernel)) (by decide +kernel) (by decide +kernel)
  refine lv_dmul hx hb dX6_sine_29 b5.n64 ?_
  have b6 : fIv (-10990) (-10855) (FP.dadd 13818544856648471893 (FP.dmul (FP.dmul (radF a) (radF a)) (FP.dadd 4575957461383581969 (FP.dmul (FP.dmul (radF a) (radF a)) 13774824197408792602)))) := fAdd fc_13818544856648471893 b5 (by decide +kernel) (by decide +kernel) (by decide +kernel) (by decide +kernel)
  refine lv_dadd hx hb dX6_sine_30 b6.n64 ?_
  have b7 : fIv (-1340) (1340) (FP.dmul (FP.dmul (radF a) (radF a)) (FP.dadd 13818544856648471893 (FP.dmul (FP.dmul (radF a) (radF a)) (FP.dadd 4575957461383581969 (FP.dmul (FP.dmul (radF a) (radF a)) 13774824197408792602))))) := fIv.mul (n := 7986) (m := 10990) (k := 1340) b2 (b6.weak (by decide +kernel) (by decide +kernel) (by decide +kernel) (by decide +kernel)) (by decide +kernel) (by decide +kernel)
  refine lv_dmul hx hb dX6_sine_31 b7.n64 ?_
  have b8 : fIv (64196) (66876) (FP.dadd FP.dconst1 (FP.dmul (FP.dmul (radF a) (radF a)) (FP.dadd 13818544856648471893 (FP.dmul (FP.dmul (radF a) (radF a)) (FP.dadd 4575957461383581969 (FP.dmul (FP.dmul (radF a) (radF a)) 13774824197408792602)))))) := fAdd fc_dconst1 b7 (by decide +kernel) (by decide +kernel) (by decide +kernel) (by decide +kernel)
  refine lv_dadd hx hb dX6_sine_32 b8.n64 ?_
  have b9 : fIv (-23345) (23345) (FP.dmul (radF a) (FP.dadd FP.dconst1 (FP.dmul (FP.dmul (radF a) (radF a)) (FP.dadd 13818544856648471893 (FP.dmul (FP.dmul (radF a) (radF a)) (FP.dadd 4575957461383581969 (FP.dmul (FP.dmul (radF a) (radF a)) 13774824197408792602))))))) := fIv.mul (n := 22877) (m := 66876) (k := 23345) b1 (b8.weak (by decide +kernel) (by decide +kernel) (by decide +kernel) (by decide +kernel)) (by decide +kernel) (by decide +kernel)
  refine lv_dmul hx hb dX6_sine_33 b9.n64 ?_
  exact hend _ _ _ _ _ _ dX6_sine_34 hP hD hS rfl rfl
theorem wd_kX6_cosine_c65 : Cond.constantDouble RX6 65 (13826050856027422720) ∈ wsX6_cosine := by decide +kernel
theorem wd_kX6_cosine_c67 : Cond.constantDouble RX6 67 (4586165620538955093) ∈ wsX6_cosine := by decide +kernel
theorem wd_kX6_cosine_c69 : Cond.constantDouble RX6 69 (13787419979223755799) ∈ wsX6_cosine := by decide +kernel
abbrev rmX6_cosine : Room := { frames := 1, cells := 0, slots := 0, locals := 21 }
set_option maxRecDepth 100000 in
set_option maxHeartbeats 4000000 in
theorem kX6_cosine (l : Launch) (G : va_G) (cI cZ cJ cD : ClassId) (a : UInt64) (ha : fIv (-131072000) 131072000 a) : Cd l G (kTy cI cZ cJ cD) yX6_cosine wsX6_cosine rmX6_cosine [.double a] [] (cosF a) [] := by
  refine Cd.of rfl rfl (cc := cX6_cosine) (maxL := 6) (plainFor_of_name (by decide)) rfl (Nat.le_of_ble_eq_true rfl) rfl ?_
  intro p e s m args below meth c A Q hx hb hml hts hown hA hK hP hD hS hend ls hl
  refine lv_dload_n hx hb dX6_cosine_0 rfl (lv_at hl 0 rfl) ?_
  refine kSd (rest := []) (kX6_radians l G cI cZ cJ cD a ha) ⟨hx, hb, hml, hown, hts⟩ (va_cwS 1 hts gX6_cosine_X6_radians rfl rfl rfl hs_X6_radians ⟨Nat.le_of_ble_eq_true rfl, Nat.le_of_ble_eq_true rfl⟩) hK hP hD hS hA rfl hl.1 rfl (Nat.le_of_ble_eq_true rfl) dX6_cosine_1 ⟨Nat.le_of_ble_eq_true rfl, Nat.le_of_ble_eq_true rfl⟩ rfl rfl (fun H locs hP hD hS => ?_)
  have b1 : fIv (-22877) (22877) (radF a) := fRad ha
  refine lv_dstore_n (lv' := [(2, .double (radF a)), (0, .double a)]) hx hb dX6_cosine_4 rfl hl (by decide) rfl (fun ls hl => ?_)
  refine lv_dload_n hx hb dX6_cosine_5 rfl (lv_at hl 0 rfl) ?_
  refine lv_dload_n hx hb dX6_cosine_6 rfl (lv_at hl 0 rfl) ?_
  have b2 : fIv (-7986) (7986) (FP.dmul (radF a) (radF a)) := fIv.mul (n := 22877) (m := 22877) (k := 7986) b1 b1 (by decide +kernel) (by decide +kernel)
  refine lv_dmul hx hb dX6_cosine_7 b2.n64 ?_
  refine lv_dstore (lv' := [(4, .double (FP.dmul (radF a) (radF a))), (2, .double (radF a)), (0, .double a)]) hx hb dX6_cosine_8 hl (by decide) rfl (fun ls hl => ?_)
  refine lv_dconst1 hx hb dX6_cosine_10 ?_
  refine lv_dload hx hb dX6_cosine_11 (lv_at hl 0 rfl) ?_
  refine lv_ldc2d (v := 13826050856027422720) hx hb hown (hts _ wd_kX6_cosine_c65) dX6_cosine_13 ?_
  refine lv_dload hx hb dX6_cosine_16 (lv_at hl 0 rfl) ?_
  refine lv_ldc2d (v := 4586165620538955093) hx hb hown (hts _ wd_kX6_cosine_c67) dX6_cosine_18 ?_
  refine lv_dload hx hb dX6_cosine_21 (lv_at hl 0 rfl) ?_
  refine lv_ldc2d (v := 13787419979223755799) hx hb hown (hts _ wd_kX6_cosine_c69) dX6_cosine_23 ?_
  have b3 : fIv (-12) (12) (FP.dmul (FP.dmul (radF a) (radF a)) 13787419979223755799) := fIv.mul (n := 7986) (m := 92) (k := 12) b2 (fc_13787419979223755799.weak (by decide +kernel) (by decide +kernel) (by decide +kernel) (by decide +kernel)) (by decide +kernel) (by decide +kernel)
  refine lv_dmul hx hb dX6_cosine_26 b3.n64 ?_
  have b4 : fIv (2718) (2743) (FP.dadd 4586165620538955093 (FP.dmul (FP.dmul (radF a) (radF a)) 13787419979223755799)) := fAdd fc_4586165620538955093 b3 (by decide +kernel) (by decide +kernel) (by decide +kernel) (by decide +kernel)
  refine lv_dadd hx hb dX6_cosine_27 b4.n64 ?_
  have b5 : fIv (-335) (335) (FP.dmul (FP.dmul (radF a) (radF a)) (FP.dadd 4586165620538955093 (FP.dmul (FP.dmul (radF a) (radF a)) 13787419979223755799))) := fIv.mul (n := 7986) (m := 2743) (k := 335) b2 (b4.weak (by decide +kernel) (by decide +kernel) (by decide +kernel) (by decide +kernel)) (by decide +kernel) (by decide +kernel)
  refine lv_dmul hx hb dX6_cosine_28 b5.n64 ?_
  have b6 : fIv (-33103) (-32433) (FP.dadd 13826050856027422720 (FP.dmul (FP.dmul (radF a) (radF a)) (FP.dadd 4586165620538955093 (FP.dmul (FP.dmul (radF a) (radF a)) 13787419979223755799)))) := fAdd fc_13826050856027422720 b5 (by decide +kernel) (by decide +kernel) (by decide +kernel) (by decide +kernel)
  refine lv_dadd hx hb dX6_cosine_29 b6.n64 ?_
  have b7 : fIv (-4034) (4034) (FP.dmul (FP.dmul (radF a) (radF a)) (FP.dadd 13826050856027422720 (FP.dmul (FP.dmul (radF a) (radF a)) (FP.dadd 4586165620538955093 (FP.dmul (FP.dmul (radF a) (radF a)) 13787419979223755799))))) := fIv.mul (n := 7986) (m := 33103) (k := 4034) b2 (b6.weak (by decide +kernel) (by decide +kernel) (by decide +kernel) (by decide +kernel)) (by decide +kernel) (by decide +kernel)
  refine lv_dmul hx hb dX6_cosine_30 b7.n64 ?_
  have b8 : fIv (61502) (69570) (FP.dadd FP.dconst1 (FP.dmul (FP.dmul (radF a) (radF a)) (FP.dadd 13826050856027422720 (FP.dmul (FP.dmul (radF a) (radF a)) (FP.dadd 4586165620538955093 (FP.dmul (FP.dmul (radF a) (radF a)) 13787419979223755799)))))) := fAdd fc_dconst1 b7 (by decide +kernel) (by decide +kernel) (by decide +kernel) (by decide +kernel)
  refine lv_dadd hx hb dX6_cosine_31 b8.n64 ?_
  exact hend _ _ _ _ _ _ dX6_cosine_32 hP hD hS rfl rfl
theorem wd_kX6_wholeOf_c43 : Cond.constantDouble RX6 43 (4602678819172646912) ∈ wsX6_wholeOf := by decide +kernel
abbrev rmX6_wholeOf : Room := { frames := 0, cells := 0, slots := 0, locals := 0 }
set_option maxRecDepth 100000 in
set_option maxHeartbeats 4000000 in
theorem kX6_wholeOf (l : Launch) (G : va_G) (cI cZ cJ cD : ClassId) (v : UInt64) (lo hi : Int) (hr : fIv lo hi (FP.dadd v 4602678819172646912)) : Ci l G (kTy cI cZ cJ cD) yX6_wholeOf wsX6_wholeOf rmX6_wholeOf [.double v] [] (wholeF v) [] := by
  refine Ci.of .int rfl rfl rfl (cc := cX6_wholeOf) (maxL := 5) (plainFor_of_name (by decide)) rfl (Nat.le_of_ble_eq_true rfl) rfl ?_
  intro p e s m args below meth c A Q hx hb hml hts hown hA hK hP hD hS hend ls hl
  refine lv_dload_n hx hb dX6_wholeOf_0 rfl (lv_at hl 0 rfl) ?_
  refine lv_ldc2d (v := 4602678819172646912) hx hb hown (hts _ wd_kX6_wholeOf_c43) dX6_wholeOf_1 ?_
  refine lv_dadd hx hb dX6_wholeOf_4 hr.n64 ?_
  refine lv_dstore_n (lv' := [(2, .double (FP.dadd v 4602678819172646912)), (0, .double v)]) hx hb dX6_wholeOf_5 rfl hl (by decide) rfl (fun ls hl => ?_)
  refine lv_dload_n hx hb dX6_wholeOf_6 rfl (lv_at hl 0 rfl) ?_
  refine lv_d2i hx hb dX6_wholeOf_7 ?_
  refine lv_istore (lv' := [(4, .int (FP.d2i (FP.dadd v 4602678819172646912))), (2, .double (FP.dadd v 4602678819172646912)), (0, .double v)]) hx hb dX6_wholeOf_8 hl (by decide) rfl (fun ls hl => ?_)
  refine lv_iload hx hb dX6_wholeOf_10 (lv_at hl 0 rfl) ?_
  refine lv_i2d hx hb dX6_wholeOf_12 ?_
  refine lv_dload_n hx hb dX6_wholeOf_13 rfl (lv_at hl 1 rfl) ?_
  refine lv_dcmp hx hb dX6_wholeOf_14 ?_
  refine lv_if_le (tgt := 25) hx hb dX6_wholeOf_15 (by decide) (fun c_15 => ?_) (fun c_15 => ?_)
  · refine lv_iload hx hb dX6_wholeOf_25 (lv_at hl 0 rfl) ?_
    exact hend _ _ _ _ _ _ dX6_wholeOf_27 hP hD hS (by first | (simp only [wholeF, c_15, ↓reduceIte]; done) | (simp [wholeF, c_15]; done) | rfl) rfl
  · refine lv_iload hx hb dX6_wholeOf_18 (lv_at hl 0 rfl) ?_
    refine lv_iconst (v := 1) hx hb dX6_wholeOf_20 (by decide) ?_
    refine lv_isub hx hb dX6_wholeOf_21 ?_
    refine lv_goto (tgt := 27) hx hb dX6_wholeOf_22 (by decide) ?_
    exact hend _ _ _ _ _ _ dX6_wholeOf_27 hP hD hS (by first | (simp only [wholeF, c_15, ↓reduceIte]; done) | (simp [wholeF, c_15]; done) | rfl) rfl
theorem in_kX6_thrown_X6 : ∀ w ∈ u_ws RX6 TX6 14, w ∈ wsX6_thrown := by decide +kernel
theorem fl_kX6_thrown_36 : Cond.fieldLink RX6 36 "SkewFindModel" "code" "I" ∈ wsX6_thrown := by decide +kernel
abbrev rmX6_thrown : Room := { frames := 0, cells := 0, slots := 0, locals := 0 }
set_option maxRecDepth 100000 in
set_option maxHeartbeats 4000000 in
theorem kX6_thrown (l : Launch) (G : va_G) (cI cZ cJ cD : ClassId) (z0 z1 z2 z3 z4 z5 w h : Nat) (hw : w ≤ 24) (hh : h ≤ 24) (cd : Int32) (P N : Nat → Bool) (ze : Nat → Int32) (le ue re de : Int32) (mk ms : Bool) (mn : UInt64) (tc : Nat) (TM LN : Nat → Int32) (ba br : Int32)  : Ci l G (kTy cI cZ cJ cD) yX6_thrown wsX6_thrown rmX6_thrown [.ref z0] [(z0, .inr (5, [.int cd, .int (nI w), .int (nI h), .ref z1, .ref z2, .ref z3, .int (b2i mk), .int (b2i ms), .double mn, .ref z4, .int (nI tc), .ref z5, .int ba, .int br])), (z1, .inl (cZ, 576, .inl (bA P))), (z2, .inl (cZ, 576, .inl (bA N))), (z3, .inl (cI, 4, .inl (e4 ze le ue re de))), (z4, .inl (cI, 16, .inl TM)), (z5, .inl (cI, 104, .inl LN))] cd [(z0, .inr (5, [.int cd, .int (nI w), .int (nI h), .ref z1, .ref z2, .ref z3, .int (b2i mk), .int (b2i ms), .double mn, .ref z4, .int (nI tc), .ref z5, .int ba, .int br])), (z1, .inl (cZ, 576, .inl (bA P))), (z2, .inl (cZ, 576, .inl (bA N))), (z3, .inl (cI, 4, .inl (e4 ze le ue re de))), (z4, .inl (cI, 16, .inl TM)), (z5, .inl (cI, 104, .inl LN))] := by
  refine Ci.of .int rfl rfl rfl (cc := cX6_thrown) (maxL := 1) (plainFor_of_name (by decide)) rfl (Nat.le_of_ble_eq_true rfl) rfl ?_
  intro p e s m args below meth c A Q hx hb hml hts hown hA hK hP hD hS hend ls hl
  refine lv_aload_n hx hb dX6_thrown_0 rfl (lv_at hl 0 rfl) ?_
  refine va_get (D := G) (ci := 5) (v := .int cd) (C := RX6) (T := TX6) (N := 14) hx hb hts in_kX6_thrown_X6 hown hK hP 0 rfl rfl 0 (by decide) (hts _ fl_kX6_thrown_36) (fun _ h9 => h9) rfl dX6_thrown_1 ?_
  exact hend _ _ _ _ _ _ dX6_thrown_4 hP hD hS rfl rfl
theorem in_kX6_refuses_X6 : ∀ w ∈ u_ws RX6 TX6 14, w ∈ wsX6_refuses := by decide +kernel
theorem fl_kX6_refuses_36 : Cond.fieldLink RX6 36 "SkewFindModel" "code" "I" ∈ wsX6_refuses := by decide +kernel
abbrev rmX6_refuses : Room := { frames := 0, cells := 0, slots := 0, locals := 0 }
set_option maxRecDepth 100000 in
set_option maxHeartbeats 4000000 in
theorem kX6_refuses (l : Launch) (G : va_G) (cI cZ cJ cD : ClassId) (z0 z1 z2 z3 z4 z5 w h : Nat) (hw : w ≤ 24) (hh : h ≤ 24) (cd : Int32) (P N : Nat → Bool) (ze : Nat → Int32) (le ue re de : Int32) (mk ms : Bool) (mn : UInt64) (tc : Nat) (TM LN : Nat → Int32) (ba br : Int32) (q : Int32) : Ci l G (kTy cI cZ cJ cD) yX6_refuses wsX6_refuses rmX6_refuses [.ref z0, .int q] [(z0, .inr (5, [.int cd, .int (nI w), .int (nI h), .ref z1, .ref z2, .ref z3, .int (b2i mk), .int (b2i ms), .double mn, .ref z4, .int (nI tc), .ref z5, .int ba, .int br])), (z1, .inl (cZ, 576, .inl (bA P))), (z2, .inl (cZ, 576, .inl (bA N))), (z3, .inl (cI, 4, .inl (e4 ze le ue re de))), (z4, .inl (cI, 16, .inl TM)), (z5, .inl (cI, 104, .inl LN))] (b2i (refB q)) [(z0, .inr (5, [.int q, .int (nI w), .int (nI h), .ref z1, .ref z2, .ref z3, .int (b2i mk), .int (b2i ms), .double mn, .ref z4, .int (nI tc), .ref z5, .int ba, .int br])), (z1, .inl (cZ, 576, .inl (bA P))), (z2, .inl (cZ, 576, .inl (bA N))), (z3, .inl (cI, 4, .inl (e4 ze le ue re de))), (z4, .inl (cI, 16, .inl TM)), (z5, .inl (cI, 104, .inl LN))] := by
  refine Ci.of .boolean (nar_b2i _) rfl rfl (cc := cX6_refuses) (maxL := 2) (plainFor_of_name (by decide)) rfl (Nat.le_of_ble_eq_true rfl) rfl ?_
  intro p e s m args below meth c A Q hx hb hml hts hown hA hK hP hD hS hend ls hl
  refine lv_aload_n hx hb dX6_refuses_0 rfl (lv_at hl 0 rfl) ?_
  refine lv_iload_n hx hb dX6_refuses_1 rfl (lv_at hl 1 rfl) ?_
  refine va_put (D := G) (ci := 5) (v := .int q) (ty := .int) (C := RX6) (T := TX6) (N := 14) hx hb hts in_kX6_refuses_X6 tyX6 tyX6_ok nmX6 hown hK hP hD hS 0 rfl rfl 0 (by decide) (hts _ fl_kX6_refuses_36) (fun _ h9 => h9) rfl (by decide +kernel) rfl rfl (Nat.le_of_ble_eq_true rfl) dX6_refuses_2 (fun H locs (hP : va_P G vwCl [(z0, .inr (5, [.int q, .int (nI w), .int (nI h), .ref z1, .ref z2, .ref z3, .int (b2i mk), .int (b2i ms), .double mn, .ref z4, .int (nI tc), .ref z5, .int ba, .int br])), (z1, .inl (cZ, 576, .inl (bA P))), (z2, .inl (cZ, 576, .inl (bA N))), (z3, .inl (cI, 4, .inl (e4 ze le ue re de))), (z4, .inl (cI, 16, .inl TM)), (z5, .inl (cI, 104, .inl LN))] H) (hD : va_D A [(z0, .inr (5, [.int q, .int (nI w), .int (nI h), .ref z1, .ref z2, .ref z3, .int (b2i mk), .int (b2i ms), .double mn, .ref z4, .int (nI tc), .ref z5, .int ba, .int br])), (z1, .inl (cZ, 576, .inl (bA P))), (z2, .inl (cZ, 576, .inl (bA N))), (z3, .inl (cI, 4, .inl (e4 ze le ue re de))), (z4, .inl (cI, 16, .inl TM)), (z5, .inl (cI, 104, .inl LN))]) hS => ?_)
  refine lv_iload_n hx hb dX6_refuses_5 rfl (lv_at hl 1 rfl) ?_
  refine lv_if_le (tgt := 13) hx hb dX6_refuses_6 (by decide) (fun c_6 => ?_) (fun c_6 => ?_)
  · refine lv_iconst (v := 0) hx hb dX6_refuses_13 (by decide) ?_
    exact hend _ _ _ _ _ _ dX6_refuses_14 hP hD hS (by first | (simp only [refB, b2i_t, b2i_f, c_6, ↓reduceIte]; done) | (simp [refB, b2i_t, b2i_f, c_6]; done) | rfl) rfl
  · refine lv_iconst (v := 1) hx hb dX6_refuses_9 (by decide) ?_
    refine lv_goto (tgt := 14) hx hb dX6_refuses_10 (by decide) ?_
    exact hend _ _ _ _ _ _ dX6_refuses_14 hP hD hS (by first | (simp only [refB, b2i_t, b2i_f, c_6, ↓reduceIte]; done) | (simp [refB, b2i_t, b2i_f, c_6]; done) | rfl) rfl
theorem in_kX6_whole_X6 : ∀ w ∈ u_ws RX6 TX6 14, w ∈ wsX6_whole := by decide +kernel
theorem fl_kX6_whole_16 : Cond.fieldLink RX6 16 "SkewFindModel" "ends" "[I" ∈ wsX6_whole := by decide +kernel
theorem fl_kX6_whole_26 : Cond.fieldLink RX6 26 "SkewFindModel" "width" "I" ∈ wsX6_whole := by decide +kernel
theorem fl_kX6_whole_30 : Cond.fieldLink RX6 30 "SkewFindModel" "height" "I" ∈ wsX6_whole := by decide +kernel
theorem fl_kX6_whole_39 : Cond.fieldLink RX6 39 "SkewFindModel" "isAsked" "Z" ∈ wsX6_whole := by decide +kernel
abbrev rmX6_whole : Room := { frames := 0, cells := 0, slots := 0, locals := 0 }
set_option maxRecDepth 100000 in
set_option maxHeartbeats 4000000 in
theorem kX6_whole (l : Launch) (G : va_G) (cI cZ cJ cD : ClassId) (z0 z1 z2 z3 z4 z5 w h : Nat) (hw : w ≤ 24) (hh : h ≤ 24) (cd : Int32) (P N : Nat → Bool) (ze : Nat → Int32) (le ue re de : Int32) (mk ms : Bool) (mn : UInt64) (tc : Nat) (TM LN : Nat → Int32) (ba br : Int32)  : Cv l G (kTy cI cZ cJ cD) yX6_whole wsX6_whole rmX6_whole [.ref z0] [(z0, .inr (5, [.int cd, .int (nI w), .int (nI h), .ref z1, .ref z2, .ref z3, .int (b2i mk), .int (b2i ms), .double mn, .ref z4, .int (nI tc), .ref z5, .int ba, .int br])), (z1, .inl (cZ, 576, .inl (bA P))), (z2, .inl (cZ, 576, .inl (bA N))), (z3, .inl (cI, 4, .inl (e4 ze le ue re de))), (z4, .inl (cI, 16, .inl TM)), (z5, .inl (cI, 104, .inl LN))] [(z0, .inr (5, [.int cd, .int (nI w), .int (nI h), .ref z1, .ref z2, .ref z3, .int (b2i false), .int (b2i ms), .double mn, .ref z4, .int (nI tc), .ref z5, .int ba, .int br])), (z1, .inl (cZ, 576, .inl (bA P))), (z2, .inl (cZ, 576, .inl (bA N))), (z3, .inl (cI, 4, .inl (e4 ze 0 0 (nI w) (nI h)))), (z4, .inl (cI, 16, .inl TM)), (z5, .inl (cI, 104, .inl LN))] := by
  refine Cv.of rfl rfl (cc := cX6_whole) (maxL := 1) (plainFor_of_name (by decide)) rfl (Nat.le_of_ble_eq_true rfl) rfl ?_
  intro p e s m args below meth c A Q hx hb hml hts hown hA hK hP hD hS hend ls hl
  refine lv_aload_n hx hb dX6_whole_0 rfl (lv_at hl 0 rfl) ?_
  refine va_get (D := G) (ci := 5) (v := .ref z3) (C := RX6) (T := TX6) (N := 14) hx hb hts in_kX6_whole_X6 hown hK hP 0 rfl rfl 5 (by decide) (hts _ fl_kX6_whole_16) (fun _ h9 => h9) rfl dX6_whole_1 ?_
  refine lv_iconst (v := 0) hx hb dX6_whole_4 (by decide) ?_
  refine lv_iconst (v := 0) hx hb dX6_whole_5 (by decide) ?_
  refine va_iast hx hb hK hP hD hS 3 0 rfl rfl vp_in_lit.1 dX6_whole_6 (fun H locs (hP : va_P G vwCl [(z0, .inr (5, [.int cd, .int (nI w), .int (nI h), .ref z1, .ref z2, .ref z3, .int (b2i mk), .int (b2i ms), .double mn, .ref z4, .int (nI tc), .ref z5, .int ba, .int br])), (z1, .inl (cZ, 576, .inl (bA P))), (z2, .inl (cZ, 576, .inl (bA N))), (z3, .inl (cI, 4, .inl (upd (e4 ze le ue re de) (0 : Int32).toNatClampNeg 0))), (z4, .inl (cI, 16, .inl TM)), (z5, .inl (cI, 104, .inl LN))] H) (hD : va_D A [(z0, .inr (5, [.int cd, .int (nI w), .int (nI h), .ref z1, .ref z2, .ref z3, .int (b2i mk), .int (b2i ms), .double mn, .ref z4, .int (nI tc), .ref z5, .int ba, .int br])), (z1, .inl (cZ, 576, .inl (bA P))), (z2, .inl (cZ, 576, .inl (bA N))), (z3, .inl (cI, 4, .inl (upd (e4 ze le ue re de) (0 : Int32).toNatClampNeg 0))), (z4, .inl (cI, 16, .inl TM)), (z5, .inl (cI, 104, .inl LN))]) hS => ?_)
  have hE : upd (e4 ze le ue re de) (0 : Int32).toNatClampNeg 0 = e4 ze 0 ue re de := e4_0 _ _ _ _ _ _
  rw [hE] at hP hD
  refine lv_aload_n hx hb dX6_whole_7 rfl (lv_at hl 0 rfl) ?_
  refine va_get (D := G) (ci := 5) (v := .ref z3) (C := RX6) (T := TX6) (N := 14) hx hb hts in_kX6_whole_X6 hown hK hP 0 rfl rfl 5 (by decide) (hts _ fl_kX6_whole_16) (fun _ h9 => h9) rfl dX6_whole_8 ?_
  refine lv_iconst (v := 1) hx hb dX6_whole_11 (by decide) ?_
  refine lv_iconst (v := 0) hx hb dX6_whole_12 (by decide) ?_
  refine va_iast hx hb hK hP hD hS 3 0 rfl rfl vp_in_lit.2.1 dX6_whole_13 (fun H locs (hP : va_P G vwCl [(z0, .inr (5, [.int cd, .int (nI w), .int (nI h), .ref z1, .ref z2, .ref z3, .int (b2i mk), .int (b2i ms), .double mn, .ref z4, .int (nI tc), .ref z5, .int ba, .int br])), (z1, .inl (cZ, 576, .inl (bA P))), (z2, .inl (cZ, 576, .inl (bA N))), (z3, .inl (cI, 4, .inl (upd (e4 ze 0 ue re de) (1 : Int32).toNatClampNeg 0))), (z4, .inl (cI, 16, .inl TM)), (z5, .inl (cI, 104, .inl LN))] H) (hD : va_D A [(z0, .inr (5, [.int cd, .int (nI w), .int (nI h), .ref z1, .ref z2, .ref z3, .int (b2i mk), .int (b2i ms), .double mn, .ref z4, .int (nI tc), .ref z5, .int ba, .int br])), (z1, .inl (cZ, 576, .inl (bA P))), (z2, .inl (cZ, 576, .inl (bA N))), (z3, .inl (cI, 4, .inl (upd (e4 ze 0 ue re de) (1 : Int32).toNatClampNeg 0))), (z4, .inl (cI, 16, .inl TM)), (z5, .inl (cI, 104, .inl LN))]) hS => ?_)
  have hE : upd (e4 ze 0 ue re de) (1 : Int32).toNatClampNeg 0 = e4 ze 0 0 re de := e4_1 _ _ _ _ _ _
  rw [hE] at hP hD
  refine lv_aload_n hx hb dX6_whole_14 rfl (lv_at hl 0 rfl) ?_
  refine va_get (D := G) (ci := 5) (v := .ref z3) (C := RX6) (T := TX6) (N := 14) hx hb hts in_kX6_whole_X6 hown hK hP 0 rfl rfl 5 (by decide) (hts _ fl_kX6_whole_16) (fun _ h9 => h9) rfl dX6_whole_15 ?_
  refine lv_iconst (v := 2) hx hb dX6_whole_18 (by decide) ?_
  refine lv_aload_n hx hb dX6_whole_19 rfl (lv_at hl 0 rfl) ?_
  refine va_get (D := G) (ci := 5) (v := .int (nI w)) (C := RX6) (T := TX6) (N := 14) hx hb hts in_kX6_whole_X6 hown hK hP 0 rfl rfl 1 (by decide) (hts _ fl_kX6_whole_26) (fun _ h9 => h9) rfl dX6_whole_20 ?_
  refine va_iast hx hb hK hP hD hS 3 0 rfl rfl vp_in_lit.2.2.1 dX6_whole_23 (fun H locs (hP : va_P G vwCl [(z0, .inr (5, [.int cd, .int (nI w), .int (nI h), .ref z1, .ref z2, .ref z3, .int (b2i mk), .int (b2i ms), .double mn, .ref z4, .int (nI tc), .ref z5, .int ba, .int br])), (z1, .inl (cZ, 576, .inl (bA P))), (z2, .inl (cZ, 576, .inl (bA N))), (z3, .inl (cI, 4, .inl (upd (e4 ze 0 0 re de) (2 : Int32).toNatClampNeg (nI w)))), (z4, .inl (cI, 16, .inl TM)), (z5, .inl (cI, 104, .inl LN))] H) (hD : va_D A [(z0, .inr (5, [.int cd, .int (nI w), .int (nI h), .ref z1, .ref z2, .ref z3, .int (b2i mk), .int (b2i ms), .double mn, .ref z4, .int (nI tc), .ref z5, .int ba, .int br])), (z1, .inl (cZ, 576, .inl (bA P))), (z2, .inl (cZ, 576, .inl (bA N))), (z3, .inl (cI, 4, .inl (upd (e4 ze 0 0 re de) (2 : Int32).toNatClampNeg (nI w)))), (z4, .inl (cI, 16, .inl TM)), (z5, .inl (cI, 104, .inl LN))]) hS => ?_)
  have hE : upd (e4 ze 0 0 re de) (2 : Int32).toNatClampNeg (nI w) = e4 ze 0 0 (nI w) de := e4_2 _ _ _ _ _ _
  rw [hE] at hP hD
  refine lv_aload_n hx hb dX6_whole_24 rfl (lv_at hl 0 rfl) ?_
  refine va_get (D := G) (ci := 5) (v := .ref z3) (C := RX6) (T := TX6) (N := 14) hx hb hts in_kX6_whole_X6 hown hK hP 0 rfl rfl 5 (by decide) (hts _ fl_kX6_whole_16) (fun _ h9 => h9) rfl dX6_whole_25 ?_
  refine lv_iconst (v := 3) hx hb dX6_whole_28 (by decide) ?_
  refine lv_aload_n hx hb dX6_whole_29 rfl (lv_at hl 0 rfl) ?_
  refine va_get (D := G) (ci := 5) (v := .int (nI h)) (C := RX6) (T := TX6) (N := 14) hx hb hts in_kX6_whole_X6 hown hK hP 0 rfl rfl 2 (by decide) (hts _ fl_kX6_whole_30) (fun _ h9 => h9) rfl dX6_whole_30 ?_
  refine va_iast hx hb hK hP hD hS 3 0 rfl rfl vp_in_lit.2.2.2 dX6_whole_33 (fun H locs (hP : va_P G vwCl [(z0, .inr (5, [.int cd, .int (nI w), .int (nI h), .ref z1, .ref z2, .ref z3, .int (b2i mk), .int (b2i ms), .double mn, .ref z4, .int (nI tc), .ref z5, .int ba, .int br])), (z1, .inl (cZ, 576, .inl (bA P))), (z2, .inl (cZ, 576, .inl (bA N))), (z3, .inl (cI, 4, .inl (upd (e4 ze 0 0 (nI w) de) (3 : Int32).toNatClampNeg (nI h)))), (z4, .inl (cI, 16, .inl TM)), (z5, .inl (cI, 104, .inl LN))] H) (hD : va_D A [(z0, .inr (5, [.int cd, .int (nI w), .int (nI h), .ref z1, .ref z2, .ref z3, .int (b2i mk), .int (b2i ms), .double mn, .ref z4, .int (nI tc), .ref z5, .int ba, .int br])), (z1, .inl (cZ, 576, .inl (bA P))), (z2, .inl (cZ, 576, .inl (bA N))), (z3, .inl (cI, 4, .inl (upd (e4 ze 0 0 (nI w) de) (3 : Int32).toNatClampNeg (nI h)))), (z4, .inl (cI, 16, .inl TM)), (z5, .inl (cI, 104, .inl LN))]) hS => ?_)
  have hE : upd (e4 ze 0 0 (nI w) de) (3 : Int32).toNatClampNeg (nI h) = e4 ze 0 0 (nI w) (nI h) := e4_3 _ _ _ _ _ _
  rw [hE] at hP hD
  refine lv_aload_n hx hb dX6_whole_34 rfl (lv_at hl 0 rfl) ?_
  refine lv_iconst (v := 0) hx hb dX6_whole_35 (by decide) ?_
  refine va_put (D := G) (ci := 5) (v := .int 0) (ty := .boolean) (C := RX6) (T := TX6) (N := 14) hx hb hts in_kX6_whole_X6 tyX6 tyX6_ok nmX6 hown hK hP hD hS 0 rfl rfl 6 (by decide) (hts _ fl_kX6_whole_39) (fun _ h9 => h9) rfl (by decide +kernel) rfl rfl (Nat.le_of_ble_eq_true rfl) dX6_whole_36 (fun H locs (hP : va_P G vwCl [(z0, .inr (5, [.int cd, .int (nI w), .int (nI h), .ref z1, .ref z2, .ref z3, .int 0, .int (b2i ms), .double mn, .ref z4, .int (nI tc), .ref z5, .int ba, .int br])), (z1, .inl (cZ, 576, .inl (bA P))), (z2, .inl (cZ, 576, .inl (bA N))), (z3, .inl (cI, 4, .inl (e4 ze 0 0 (nI w) (nI h)))), (z4, .inl (cI, 16, .inl TM)), (z5, .inl (cI, 104, .inl LN))] H) (hD : va_D A [(z0, .inr (5, [.int cd, .int (nI w), .int (nI h), .ref z1, .ref z2, .ref z3, .int 0, .int (b2i ms), .double mn, .ref z4, .int (nI tc), .ref z5, .int ba, .int br])), (z1, .inl (cZ, 576, .inl (bA P))), (z2, .inl (cZ, 576, .inl (bA N))), (z3, .inl (cI, 4, .inl (e4 ze 0 0 (nI w) (nI h)))), (z4, .inl (cI, 16, .inl TM)), (z5, .inl (cI, 104, .inl LN))]) hS => ?_)
  exact hend _ _ _ _ _ dX6_whole_39 hP hD hS rfl
theorem in_kX6_isSample_X6 : ∀ w ∈ u_ws RX6 TX6 14, w ∈ wsX6_isSample := by decide +kernel
theorem fl_kX6_isSample_26 : Cond.fieldLink RX6 26 "SkewFindModel" "width" "I" ∈ wsX6_isSample := by decide +kernel
theorem fl_kX6_isSample_30 : Cond.fieldLink RX6 30 "SkewFindModel" "height" "I" ∈ wsX6_isSample := by decide +kernel
abbrev rmX6_isSample : Room := { frames := 0, cells := 0, slots := 0, locals := 0 }
set_option maxRecDepth 100000 in
set_option maxHeartbeats 4000000 in
theorem kX6_isSample (l : Launch) (G : va_G) (cI cZ cJ cD : ClassId) (z0 z1 z2 z3 z4 z5 w h : Nat) (hw : w ≤ 24) (hh : h ≤ 24) (cd : Int32) (P N : Nat → Bool) (ze : Nat → Int32) (le ue re de : Int32) (mk ms : Bool) (mn : UInt64) (tc : Nat) (TM LN : Nat → Int32) (ba br : Int32) (x y : Int32) : Ci l G (kTy cI cZ cJ cD) yX6_isSample wsX6_isSample rmX6_isSample [.ref z0, .int x, .int y] [(z0, .inr (5, [.int cd, .int (nI w), .int (nI h), .ref z1, .ref z2, .ref z3, .int (b2i mk), .int (b2i ms), .double mn, .ref z4, .int (nI tc), .ref z5, .int ba, .int br])), (z1, .inl (cZ, 576, .inl (bA P))), (z2, .inl (cZ, 576, .inl (bA N))), (z3, .inl (cI, 4, .inl (e4 ze le ue re de))), (z4, .inl (cI, 16, .inl TM)), (z5, .inl (cI, 104, .inl LN))] (b2i (hasB w h x y)) [(z0, .inr (5, [.int cd, .int (nI w), .int (nI h), .ref z1, .ref z2, .ref z3, .int (b2i mk), .int (b2i ms), .double mn, .ref z4, .int (nI tc), .ref z5, .int ba, .int br])), (z1, .inl (cZ, 576, .inl (bA P))), (z2, .inl (cZ, 576, .inl (bA N))), (z3, .inl (cI, 4, .inl (e4 ze le ue re de))), (z4, .inl (cI, 16, .inl TM)), (z5, .inl (cI, 104, .inl LN))] := by
  refine Ci.of .boolean (nar_b2i _) rfl rfl (cc := cX6_isSample) (maxL := 3) (plainFor_of_name (by decide)) rfl (Nat.le_of_ble_eq_true rfl) rfl ?_
  intro p e s m args below meth c A Q hx hb hml hts hown hA hK hP hD hS hend ls hl
  refine lv_iload_n hx hb dX6_isSample_0 rfl (lv_at hl 1 rfl) ?_
  refine lv_if_lt (tgt := 28) hx hb dX6_isSample_1 (by decide) (fun c_1 => ?_) (fun c_1 => ?_)
  · refine lv_iconst (v := 0) hx hb dX6_isSample_28 (by decide) ?_
    exact hend _ _ _ _ _ _ dX6_isSample_29 hP hD hS (by first | (simp only [hasB, b2i_t, b2i_f, c_1, ↓reduceIte]; done) | (simp [hasB, b2i_t, b2i_f, c_1]; done) | rfl) rfl
  · refine lv_iload_n hx hb dX6_isSample_4 rfl (lv_at hl 1 rfl) ?_
    refine lv_aload_n hx hb dX6_isSample_5 rfl (lv_at hl 0 rfl) ?_
    refine va_get (D := G) (ci := 5) (v := .int (nI w)) (C := RX6) (T := TX6) (N := 14) hx hb hts in_kX6_isSample_X6 hown hK hP 0 rfl rfl 1 (by decide) (hts _ fl_kX6_isSample_26) (fun _ h9 => h9) rfl dX6_isSample_6 ?_
    refine lv_icmp_ge (tgt := 28) hx hb dX6_isSample_9 (by decide) (fun c_9 => ?_) (fun c_9 => ?_)
    · refine lv_iconst (v := 0) hx hb dX6_isSample_28 (by decide) ?_
      exact hend _ _ _ _ _ _ dX6_isSample_29 hP hD hS (by first | (simp only [hasB, b2i_t, b2i_f, c_1, c_9, ↓reduceIte]; done) | (simp [hasB, b2i_t, b2i_f, c_1, c_9]; done) | rfl) rfl
    · refine lv_iload_n hx hb dX6_isSample_12 rfl (lv_at hl 2 rfl) ?_
      refine lv_if_lt (tgt := 28) hx hb dX6_isSample_13 (by decide) (fun c_13 => ?_) (fun c_13 => ?_)
      · refine lv_iconst (v := 0) hx hb dX6_isSample_28 (by decide) ?_
        exact hend _ _ _ _ _ _ dX6_isSample_29 hP hD hS (by first | (simp only [hasB, b2i_t, b2i_f, c_1, c_9, c_13, ↓reduceIte]; done) | (simp [hasB, b2i_t, b2i_f, c_1, c_9, c_13]; done) | rfl) rfl
      · refine lv_iload_n hx hb dX6_isSample_16 rfl (lv_at hl 2 rfl) ?_
        refine lv_aload_n hx hb dX6_isSample_17 rfl (lv_at hl 0 rfl) ?_
        refine va_get (D := G) (ci := 5) (v := .int (nI h)) (C := RX6) (T := TX6) (N := 14) hx hb hts in_kX6_isSample_X6 hown hK hP 0 rfl rfl 2 (by decide) (hts _ fl_kX6_isSample_30) (fun _ h9 => h9) rfl dX6_isSample_18 ?_
        refine lv_icmp_ge (tgt := 28) hx hb dX6_isSample_21 (by decide) (fun c_21 => ?_) (fun c_21 => ?_)
        · refine lv_iconst (v := 0) hx hb dX6_isSample_28 (by decide) ?_
          exact hend _ _ _ _ _ _ dX6_isSample_29 hP hD hS (by first | (simp only [hasB, b2i_t, b2i_f, c_1, c_9, c_13, c_21, ↓reduceIte]; done) | (simp [hasB, b2i_t, b2i_f, c_1, c_9, c_13, c_21]; done) | rfl) rfl
        · refine lv_iconst (v := 1) hx hb dX6_isSample_24 (by decide) ?_
          refine lv_goto (tgt := 29) hx hb dX6_isSample_25 (by decide) ?_
          exact hend _ _ _ _ _ _ dX6_isSample_29 hP hD hS (by first | (simp only [hasB, b2i_t, b2i_f, c_1, c_9, c_13, c_21, ↓reduceIte]; done) | (simp [hasB, b2i_t, b2i_f, c_1, c_9, c_13, c_21]; done) | rfl) rfl
theorem in_kX6_isOn_X6 : ∀ w ∈ u_ws RX6 TX6 14, w ∈ wsX6_isOn := by decide +kernel
theorem fl_kX6_isOn_26 : Cond.fieldLink RX6 26 "SkewFindModel" "width" "I" ∈ wsX6_isOn := by decide +kernel
theorem fl_kX6_isOn_30 : Cond.fieldLink RX6 30 "SkewFindModel" "height" "I" ∈ wsX6_isOn := by decide +kernel
theorem fl_kX6_isOn_7 : Cond.fieldLink RX6 7 "SkewFindModel" "on" "[Z" ∈ wsX6_isOn := by decide +kernel
abbrev rmX6_isOn : Room := { frames := 0, cells := 0, slots := 0, locals := 0 }
set_option maxRecDepth 100000 in
set_option maxHeartbeats 4000000 in
theorem kX6_isOn (l : Launch) (G : va_G) (cI cZ cJ cD : ClassId) (z0 z1 z2 z3 z4 z5 w h : Nat) (hw : w ≤ 24) (hh : h ≤ 24) (cd : Int32) (P N : Nat → Bool) (ze : Nat → Int32) (le ue re de : Int32) (mk ms : Bool) (mn : UInt64) (tc : Nat) (TM LN : Nat → Int32) (ba br : Int32) (x y : Int32) : Ci l G (kTy cI cZ cJ cD) yX6_isOn wsX6_isOn rmX6_isOn [.ref z0, .int x, .int y] [(z0, .inr (5, [.int cd, .int (nI w), .int (nI h), .ref z1, .ref z2, .ref z3, .int (b2i mk), .int (b2i ms), .double mn, .ref z4, .int (nI tc), .ref z5, .int ba, .int br])), (z1, .inl (cZ, 576, .inl (bA P))), (z2, .inl (cZ, 576, .inl (bA N))), (z3, .inl (cI, 4, .inl (e4 ze le ue re de))), (z4, .inl (cI, 16, .inl TM)), (z5, .inl (cI, 104, .inl LN))] (b2i (mOnB w h P x y)) [(z0, .inr (5, [.int cd, .int (nI w), .int (nI h), .ref z1, .ref z2, .ref z3, .int (b2i mk), .int (b2i ms), .double mn, .ref z4, .int (nI tc), .ref z5, .int ba, .int br])), (z1, .inl (cZ, 576, .inl (bA P))), (z2, .inl (cZ, 576, .inl (bA N))), (z3, .inl (cI, 4, .inl (e4 ze le ue re de))), (z4, .inl (cI, 16, .inl TM)), (z5, .inl (cI, 104, .inl LN))] := by
  refine Ci.of .boolean (nar_b2i _) rfl rfl (cc := cX6_isOn) (maxL := 3) (plainFor_of_name (by decide)) rfl (Nat.le_of_ble_eq_true rfl) rfl ?_
  intro p e s m args below meth c A Q hx hb hml hts hown hA hK hP hD hS hend ls hl
  refine lv_iload_n hx hb dX6_isOn_0 rfl (lv_at hl 1 rfl) ?_
  refine lv_if_lt (tgt := 42) hx hb dX6_isOn_1 (by decide) (fun c_1 => ?_) (fun c_1 => ?_)
  · refine lv_iconst (v := 0) hx hb dX6_isOn_42 (by decide) ?_
    exact hend _ _ _ _ _ _ dX6_isOn_43 hP hD hS (by first | (simp only [mOnB, b2i_t, b2i_f, c_1, ↓reduceIte]; done) | (simp [mOnB, b2i_t, b2i_f, c_1]; done) | rfl) rfl
  · refine lv_iload_n hx hb dX6_isOn_4 rfl (lv_at hl 1 rfl) ?_
    refine lv_aload_n hx hb dX6_isOn_5 rfl (lv_at hl 0 rfl) ?_
    refine va_get (D := G) (ci := 5) (v := .int (nI w)) (C := RX6) (T := TX6) (N := 14) hx hb hts in_kX6_isOn_X6 hown hK hP 0 rfl rfl 1 (by decide) (hts _ fl_kX6_isOn_26) (fun _ h9 => h9) rfl dX6_isOn_6 ?_
    refine lv_icmp_ge (tgt := 42) hx hb dX6_isOn_9 (by decide) (fun c_9 => ?_) (fun c_9 => ?_)
    · refine lv_iconst (v := 0) hx hb dX6_isOn_42 (by decide) ?_
      exact hend _ _ _ _ _ _ dX6_isOn_43 hP hD hS (by first | (simp only [mOnB, b2i_t, b2i_f, c_1, c_9, ↓reduceIte]; done) | (simp [mOnB, b2i_t, b2i_f, c_1, c_9]; done) | rfl) rfl
    · refine lv_iload_n hx hb dX6_isOn_12 rfl (lv_at hl 2 rfl) ?_
      refine lv_if_lt (tgt := 42) hx hb dX6_isOn_13 (by decide) (fun c_13 => ?_) (fun c_13 => ?_)
      · refine lv_iconst (v := 0) hx hb dX6_isOn_42 (by decide) ?_
        exact hend _ _ _ _ _ _ dX6_isOn_43 hP hD hS (by first | (simp only [mOnB, b2i_t, b2i_f, c_1, c_9, c_13, ↓reduceIte]; done) | (simp [mOnB, b2i_t, b2i_f, c_1, c_9, c_13]; done) | rfl) rfl
      · refine lv_iload_n hx hb dX6_isOn_16 rfl (lv_at hl 2 rfl) ?_
        refine lv_aload_n hx hb dX6_isOn_17 rfl (lv_at hl 0 rfl) ?_
        refine va_get (D := G) (ci := 5) (v := .int (nI h)) (C := RX6) (T := TX6) (N := 14) hx hb hts in_kX6_isOn_X6 hown hK hP 0 rfl rfl 2 (by decide) (hts _ fl_kX6_isOn_30) (fun _ h9 => h9) rfl dX6_isOn_18 ?_
        refine lv_icmp_ge (tgt := 42) hx hb dX6_isOn_21 (by decide) (fun c_21 => ?_) (fun c_21 => ?_)
        · refine lv_iconst (v := 0) hx hb dX6_isOn_42 (by decide) ?_
          exact hend _ _ _ _ _ _ dX6_isOn_43 hP hD hS (by first | (simp only [mOnB, b2i_t, b2i_f, c_1, c_9, c_13, c_21, ↓reduceIte]; done) | (simp [mOnB, b2i_t, b2i_f, c_1, c_9, c_13, c_21]; done) | rfl) rfl
        · obtain ⟨x1, hx1, rfl⟩ := inR (by omega) c_1 c_9
          obtain ⟨y1, hy1, rfl⟩ := inR (by omega) c_13 c_21
          have hcx := nI_clamp (n := x1) (by omega)
          have hcy := nI_clamp (n := y1) (by omega)
          refine lv_aload_n hx hb dX6_isOn_24 rfl (lv_at hl 0 rfl) ?_
          refine va_get (D := G) (ci := 5) (v := .ref z1) (C := RX6) (T := TX6) (N := 14) hx hb hts in_kX6_isOn_X6 hown hK hP 0 rfl rfl 3 (by decide) (hts _ fl_kX6_isOn_7) (fun _ h9 => h9) rfl dX6_isOn_25 ?_
          refine lv_bipush (v := 24) hx hb dX6_isOn_28 (by decide) ?_
          refine lv_iload_n hx hb dX6_isOn_30 rfl (lv_at hl 2 rfl) ?_
          refine lv_imul hx hb dX6_isOn_31 ?_
          refine kTopI (z := nI (24 * y1)) (pk_mul 24 y1) ?_
          refine lv_iload_n hx hb dX6_isOn_32 rfl (lv_at hl 1 rfl) ?_
          refine lv_iadd hx hb dX6_isOn_33 ?_
          refine kTopI (z := nI ((24 * y1) + x1)) (nI_add ((24 * y1)) x1) ?_
          refine va_zald hx hb hK hP 1 1 rfl rfl (vp_in_nI (by omega) (by omega)) dX6_isOn_34 ?_
          rw [nI_clamp (n := ((24 * y1) + x1)) (by omega)]
          refine kTopI (z := b2i (P (((24 * y1) + x1)))) rfl ?_
          refine kIfEqB (tgt := 42) hx hb dX6_isOn_35 (by decide) (fun c_35 => ?_) (fun c_35 => ?_)
          · refine lv_iconst (v := 0) hx hb dX6_isOn_42 (by decide) ?_
            exact hend _ _ _ _ _ _ dX6_isOn_43 hP hD hS (by first | (simp only [mOnB, b2i_t, b2i_f, c_1, c_9, c_13, c_21, hcx, hcy, c_35, ↓reduceIte]; done) | (simp [mOnB, b2i_t, b2i_f, c_1, c_9, c_13, c_21, hcx, hcy, c_35]; done) | rfl) rfl
          · refine lv_iconst (v := 1) hx hb dX6_isOn_38 (by decide) ?_
            refine lv_goto (tgt := 43) hx hb dX6_isOn_39 (by decide) ?_
            exact hend _ _ _ _ _ _ dX6_isOn_43 hP hD hS (by first | (simp only [mOnB, b2i_t, b2i_f, c_1, c_9, c_13, c_21, hcx, hcy, c_35, ↓reduceIte]; done) | (simp [mOnB, b2i_t, b2i_f, c_1, c_9, c_13, c_21, hcx, hcy, c_35]; done) | rfl) rfl
theorem in_kX6_countOn_X6 : ∀ w ∈ u_ws RX6 TX6 14, w ∈ wsX6_countOn := by decide +kernel
theorem fl_kX6_countOn_7 : Cond.fieldLink RX6 7 "SkewFindModel" "on" "[Z" ∈ wsX6_countOn := by decide +kernel
abbrev rmX6_countOn : Room := { frames := 0, cells := 0, slots := 0, locals := 0 }
set_option maxRecDepth 100000 in
set_option maxHeartbeats 4000000 in
theorem kX6_countOn (l : Launch) (G : va_G) (cI cZ cJ cD : ClassId) (z0 z1 z2 z3 z4 z5 w h : Nat) (hw : w ≤ 24) (hh : h ≤ 24) (cd : Int32) (P N : Nat → Bool) (ze : Nat → Int32) (le ue re de : Int32) (mk ms : Bool) (mn : UInt64) (tc : Nat) (TM LN : Nat → Int32) (ba br : Int32)  : Ci l G (kTy cI cZ cJ cD) yX6_countOn wsX6_countOn rmX6_countOn [.ref z0] [(z0, .inr (5, [.int cd, .int (nI w), .int (nI h), .ref z1, .ref z2, .ref z3, .int (b2i mk), .int (b2i ms), .double mn, .ref z4, .int (nI tc), .ref z5, .int ba, .int br])), (z1, .inl (cZ, 576, .inl (bA P))), (z2, .inl (cZ, 576, .inl (bA N))), (z3, .inl (cI, 4, .inl (e4 ze le ue re de))), (z4, .inl (cI, 16, .inl TM)), (z5, .inl (cI, 104, .inl LN))] (mCnt P) [(z0, .inr (5, [.int cd, .int (nI w), .int (nI h), .ref z1, .ref z2, .ref z3, .int (b2i mk), .int (b2i ms), .double mn, .ref z4, .int (nI tc), .ref z5, .int ba, .int br])), (z1, .inl (cZ, 576, .inl (bA P))), (z2, .inl (cZ, 576, .inl (bA N))), (z3, .inl (cI, 4, .inl (e4 ze le ue re de))), (z4, .inl (cI, 16, .inl TM)), (z5, .inl (cI, 104, .inl LN))] := by
  refine Ci.of .int rfl rfl rfl (cc := cX6_countOn) (maxL := 3) (plainFor_of_name (by decide)) rfl (Nat.le_of_ble_eq_true rfl) rfl ?_
  intro p e s m args below meth c A Q hx hb hml hts hown hA hK hP hD hS hend ls hl
  refine lv_iconst (v := 0) hx hb dX6_countOn_0 (by decide) ?_
  refine lv_istore_n (lv' := [(1, .int 0), (0, .ref z0)]) hx hb dX6_countOn_1 rfl hl (by decide) rfl (fun ls hl => ?_)
  refine lv_iconst (v := 0) hx hb dX6_countOn_2 (by decide) ?_
  refine lv_istore_n (lv' := [(2, .int 0), (1, .int 0), (0, .ref z0)]) hx hb dX6_countOn_3 rfl hl (by decide) rfl (fun ls hl => ?_)
  have K4 : ∀ (n4 : Nat) (i : Nat), 576 - i < n4 → (i ≤ 576) → ∀ (H : Heap) (locs : List Loc), va_P G vwCl [(z0, .inr (5, [.int cd, .int (nI w), .int (nI h), .ref z1, .ref z2, .ref z3, .int (b2i mk), .int (b2i ms), .double mn, .ref z4, .int (nI tc), .ref z5, .int ba, .int br])), (z1, .inl (cZ, 576, .inl (bA P))), (z2, .inl (cZ, 576, .inl (bA N))), (z3, .inl (cI, 4, .inl (e4 ze le ue re de))), (z4, .inl (cI, 16, .inl TM)), (z5, .inl (cI, 104, .inl LN))] H → va_D A [(z0, .inr (5, [.int cd, .int (nI w), .int (nI h), .ref z1, .ref z2, .ref z3, .int (b2i mk), .int (b2i ms), .double mn, .ref z4, .int (nI tc), .ref z5, .int ba, .int br])), (z1, .inl (cZ, 576, .inl (bA P))), (z2, .inl (cZ, 576, .inl (bA N))), (z3, .inl (cI, 4, .inl (e4 ze le ue re de))), (z4, .inl (cI, 16, .inl TM)), (z5, .inl (cI, 104, .inl LN))] → va_S A s.heap H locs → ∀ ls : Array Slot, lv_has ls 3 [(0, .ref z0), (1, .int (sumI (fun k => b2i (P k)) i)), (2, .int (nI i))] → W p l e rmX6_countOn s m args below meth c H locs 0 0 Q (F0 m 4 ls []) := by
    intro n4
    induction n4 with
    | zero => intro i hn; exact absurd hn (by omega)
    | succ n4 ih4 =>
      intro i hn4 h_i H locs hP hD hS ls hl
      refine lv_iload_n hx hb dX6_countOn_4 rfl (lv_at hl 2 rfl) ?_
      refine lv_sipush (v := 576) hx hb dX6_countOn_5 (by decide) ?_
      refine kGe (n := 576) (by omega) (by omega) (tgt := 34) hx hb dX6_countOn_8 (by decide) (fun c_8 => ?_) (fun c_8 => ?_)
      · have e9 : 576 = i := by omega
        subst e9
        refine lv_iload_n hx hb dX6_countOn_34 rfl (lv_at hl 1 rfl) ?_
        exact hend _ _ _ _ _ _ dX6_countOn_35 hP hD hS rfl rfl
      · refine lv_iload_n hx hb dX6_countOn_11 rfl (lv_at hl 1 rfl) ?_
        refine lv_aload_n hx hb dX6_countOn_12 rfl (lv_at hl 0 rfl) ?_
        refine va_get (D := G) (ci := 5) (v := .ref z1) (C := RX6) (T := TX6) (N := 14) hx hb hts in_kX6_countOn_X6 hown hK hP 0 rfl rfl 3 (by decide) (hts _ fl_kX6_countOn_7) (fun _ h9 => h9) rfl dX6_countOn_13 ?_
        refine lv_iload_n hx hb dX6_countOn_16 rfl (lv_at hl 2 rfl) ?_
        refine va_zald hx hb hK hP 1 1 rfl rfl (vp_in_nI (by omega) (by omega)) dX6_countOn_17 ?_
        rw [nI_clamp (n := i) (by omega)]
        refine kTopI (z := b2i (P i)) rfl ?_
        refine kIfEqB (tgt := 25) hx hb dX6_countOn_18 (by decide) (fun c_18 => ?_) (fun c_18 => ?_)
        · refine lv_iconst (v := 0) hx hb dX6_countOn_25 (by decide) ?_
          refine kTopI (z := b2i (P i)) (by rw [c_18]; rfl) ?_
          refine lv_iadd hx hb dX6_countOn_26 ?_
          refine lv_istore_n (lv' := [(1, .int ((sumI (fun k => b2i (P k)) i) + (b2i (P i)))), (0, .ref z0), (2, .int (nI i))]) hx hb dX6_countOn_27 rfl hl (by decide) rfl (fun ls hl => ?_)
          refine lv_iinc (v := nI (i + 1)) (lv' := [(2, .int (nI (i + 1))), (1, .int ((sumI (fun k => b2i (P k)) i) + (b2i (P i)))), (0, .ref z0)]) hx hb dX6_countOn_28 hl (k := 2) rfl (nI_1 _) (by decide) rfl (fun ls hl => ?_)
          refine lv_goto (tgt := 4) hx hb dX6_countOn_31 (by decide) ?_
          exact ih4 (i + 1) (by omega) (by omega) _ _ hP hD hS _ (lv_sub hl [2, 1, 0] rfl)
        · refine lv_iconst (v := 1) hx hb dX6_countOn_21 (by decide) ?_
          refine kTopI (z := b2i (P i)) (by rw [c_18]; rfl) ?_
          refine lv_goto (tgt := 26) hx hb dX6_countOn_22 (by decide) ?_
          refine lv_iadd hx hb dX6_countOn_26 ?_
          refine lv_istore_n (lv' := [(1, .int ((sumI (fun k => b2i (P k)) i) + (b2i (P i)))), (0, .ref z0), (2, .int (nI i))]) hx hb dX6_countOn_27 rfl hl (by decide) rfl (fun ls hl => ?_)
          refine lv_iinc (v := nI (i + 1)) (lv' := [(2, .int (nI (i + 1))), (1, .int ((sumI (fun k => b2i (P k)) i) + (b2i (P i)))), (0, .ref z0)]) hx hb dX6_countOn_28 hl (k := 2) rfl (nI_1 _) (by decide) rfl (fun ls hl => ?_)
          refine lv_goto (tgt := 4) hx hb dX6_countOn_31 (by decide) ?_
          exact ih4 (i + 1) (by omega) (by omega) _ _ hP hD hS _ (lv_sub hl [2, 1, 0] rfl)
  exact K4 (576 - 0 + 1) 0 (by omega) (by omega) _ _ hP hD hS _ (lv_sub hl [2, 1, 0] rfl)
abbrev rmX6_within : Room := { frames := 0, cells := 0, slots := 0, locals := 0 }
set_option maxRecDepth 100000 in
set_option maxHeartbeats 4000000 in
theorem kX6_within (l : Launch) (G : va_G) (cI cZ cJ cD : ClassId) (x y : Int32) (hy : ¬ y = 0) : Ci l G (kTy cI cZ cJ cD) yX6_within wsX6_within rmX6_within [.int x, .int y] [] (withF x y) [] := by
  refine Ci.of .int rfl rfl rfl (cc := cX6_within) (maxL := 3) (plainFor_of_name (by decide)) rfl (Nat.le_of_ble_eq_true rfl) rfl ?_
  intro p e s m args below meth c A Q hx hb hml hts hown hA hK hP hD hS hend ls hl
  refine lv_iload_n hx hb dX6_within_0 rfl (lv_at hl 0 rfl) ?_
  refine lv_iload_n hx hb dX6_within_1 rfl (lv_at hl 1 rfl) ?_
  refine lv_irem hx hb dX6_within_2 hy ?_
  refine lv_istore_n (lv' := [(2, .int (x - x / y * y)), (0, .int x), (1, .int y)]) hx hb dX6_within_3 rfl hl (by decide) rfl (fun ls hl => ?_)
  refine lv_iload_n hx hb dX6_within_4 rfl (lv_at hl 0 rfl) ?_
  refine lv_if_ge (tgt := 14) hx hb dX6_within_5 (by decide) (fun c_5 => ?_) (fun c_5 => ?_)
  · refine lv_iload_n hx hb dX6_within_14 rfl (lv_at hl 0 rfl) ?_
    exact hend _ _ _ _ _ _ dX6_within_15 hP hD hS (by first | (simp only [withF, c_5, ↓reduceIte]; done) | (simp [withF, c_5]; done) | rfl) rfl
  · refine lv_iload_n hx hb dX6_within_8 rfl (lv_at hl 0 rfl) ?_
    refine lv_iload_n hx hb dX6_within_9 rfl (lv_at hl 2 rfl) ?_
    refine lv_iadd hx hb dX6_within_10 ?_
    refine lv_goto (tgt := 15) hx hb dX6_within_11 (by decide) ?_
    exact hend _ _ _ _ _ _ dX6_within_15 hP hD hS (by first | (simp only [withF, c_5, ↓reduceIte]; done) | (simp [withF, c_5]; done) | rfl) rfl
abbrev rmX6_stepOf : Room := { frames := 0, cells := 0, slots := 0, locals := 0 }
set_option maxRecDepth 100000 in
set_option maxHeartbeats 4000000 in
theorem kX6_stepOf (l : Launch) (G : va_G) (cI cZ cJ cD : ClassId) (r0 : Nat) (hr : r0 < 6) : Ci l G (kTy cI cZ cJ cD) yX6_stepOf wsX6_stepOf rmX6_stepOf [.int (nI r0)] [] (stpN r0) [] := by
  refine Ci.of .int rfl rfl rfl (cc := cX6_stepOf) (maxL := 1) (plainFor_of_name (by decide)) rfl (Nat.le_of_ble_eq_true rfl) rfl ?_
  intro p e s m args below meth c A Q hx hb hml hts hown hA hK hP hD hS hend ls hl
  refine lv_iload_n hx hb dX6_stepOf_0 rfl (lv_at hl 0 rfl) ?_
  by_cases c_1_0 : nI r0 = 0
  · refine lv_tableIn (off := 35) (tgt := 36) hx hb dX6_stepOf_1 (by rw [c_1_0]; decide) (by rw [c_1_0]; decide) (by rw [c_1_0]; rfl) (by decide) ?_
    refine lv_bipush (v := 50) hx hb dX6_stepOf_36 (by decide) ?_
    exact hend _ _ _ _ _ _ dX6_stepOf_38 hP hD hS (((stp_c0 r0 hr).1 c_1_0).symm) rfl
  by_cases c_1_1 : nI r0 = 1
  · refine lv_tableIn (off := 38) (tgt := 39) hx hb dX6_stepOf_1 (by rw [c_1_1]; decide) (by rw [c_1_1]; decide) (by rw [c_1_1]; rfl) (by decide) ?_
    refine lv_bipush (v := 25) hx hb dX6_stepOf_39 (by decide) ?_
    exact hend _ _ _ _ _ _ dX6_stepOf_41 hP hD hS (((stp_c0 r0 hr).2.1 c_1_1).symm) rfl
  by_cases c_1_2 : nI r0 = 2
  · refine lv_tableIn (off := 41) (tgt := 42) hx hb dX6_stepOf_1 (by rw [c_1_2]; decide) (by rw [c_1_2]; decide) (by rw [c_1_2]; rfl) (by decide) ?_
    refine lv_bipush (v := 12) hx hb dX6_stepOf_42 (by decide) ?_
    exact hend _ _ _ _ _ _ dX6_stepOf_44 hP hD hS (((stp_c0 r0 hr).2.2.1 c_1_2).symm) rfl
  by_cases c_1_3 : nI r0 = 3
  · refine lv_tableIn (off := 44) (tgt := 45) hx hb dX6_stepOf_1 (by rw [c_1_3]; decide) (by rw [c_1_3]; decide) (by rw [c_1_3]; rfl) (by decide) ?_
    refine lv_bipush (v := 6) hx hb dX6_stepOf_45 (by decide) ?_
    exact hend _ _ _ _ _ _ dX6_stepOf_47 hP hD hS (((stp_c0 r0 hr).2.2.2.1 c_1_3).symm) rfl
  by_cases c_1_4 : nI r0 = 4
  · refine lv_tableIn (off := 47) (tgt := 48) hx hb dX6_stepOf_1 (by rw [c_1_4]; decide) (by rw [c_1_4]; decide) (by rw [c_1_4]; rfl) (by decide) ?_
    refine lv_iconst (v := 3) hx hb dX6_stepOf_48 (by decide) ?_
    exact hend _ _ _ _ _ _ dX6_stepOf_49 hP hD hS (((stp_c0 r0 hr).2.2.2.2.1 c_1_4).symm) rfl
  refine lv_tableOut (tgt := 50) hx hb dX6_stepOf_1 (kSw5 c_1_0 c_1_1 c_1_2 c_1_3 c_1_4) (by decide) ?_
  refine lv_iconst (v := 1) hx hb dX6_stepOf_50 (by decide) ?_
  exact hend _ _ _ _ _ _ dX6_stepOf_51 hP hD hS (((stp_c0 r0 hr).2.2.2.2.2 c_1_0 c_1_1 c_1_2 c_1_3 c_1_4).symm) rfl
theorem in_kX6_change_X6 : ∀ w ∈ u_ws RX6 TX6 14, w ∈ wsX6_change := by decide +kernel
theorem fl_kX6_change_7 : Cond.fieldLink RX6 7 "SkewFindModel" "on" "[Z" ∈ wsX6_change := by decide +kernel
theorem fl_kX6_change_13 : Cond.fieldLink RX6 13 "SkewFindModel" "next" "[Z" ∈ wsX6_change := by decide +kernel
abbrev rmX6_change : Room := { frames := 0, cells := 0, slots := 0, locals := 0 }
set_option maxRecDepth 100000 in
set_option maxHeartbeats 4000000 in
theorem kX6_change (l : Launch) (G : va_G) (cI cZ cJ cD : ClassId) (z0 z1 z2 z3 z4 z5 w h : Nat) (hw : w ≤ 24) (hh : h ≤ 24) (cd : Int32) (P N : Nat → Bool) (ze : Nat → Int32) (le ue re de : Int32) (mk ms : Bool) (mn : UInt64) (tc : Nat) (TM LN : Nat → Int32) (ba br : Int32)  : Cv l G (kTy cI cZ cJ cD) yX6_change wsX6_change rmX6_change [.ref z0] [(z0, .inr (5, [.int cd, .int (nI w), .int (nI h), .ref z1, .ref z2, .ref z3, .int (b2i mk), .int (b2i ms), .double mn, .ref z4, .int (nI tc), .ref z5, .int ba, .int br])), (z1, .inl (cZ, 576, .inl (bA P))), (z2, .inl (cZ, 576, .inl (bA N))), (z3, .inl (cI, 4, .inl (e4 ze le ue re de))), (z4, .inl (cI, 16, .inl TM)), (z5, .inl (cI, 104, .inl LN))] [(z0, .inr (5, [.int cd, .int (nI w), .int (nI h), .ref z1, .ref z2, .ref z3, .int (b2i mk), .int (b2i ms), .double mn, .ref z4, .int (nI tc), .ref z5, .int ba, .int br])), (z1, .inl (cZ, 576, .inl (bA (cpB N P 576)))), (z2, .inl (cZ, 576, .inl (bA N))), (z3, .inl (cI, 4, .inl (e4 ze le ue re de))), (z4, .inl (cI, 16, .inl TM)), (z5, .inl (cI, 104, .inl LN))] := by
  refine Cv.of rfl rfl (cc := cX6_change) (maxL := 2) (plainFor_of_name (by decide)) rfl (Nat.le_of_ble_eq_true rfl) rfl ?_
  intro p e s m args below meth c A Q hx hb hml hts hown hA hK hP hD hS hend ls hl
  refine lv_iconst (v := 0) hx hb dX6_change_0 (by decide) ?_
  refine lv_istore_n (lv' := [(1, .int 0), (0, .ref z0)]) hx hb dX6_change_1 rfl hl (by decide) rfl (fun ls hl => ?_)
  have K2 : ∀ (n2 : Nat) (i : Nat), 576 - i < n2 → (i ≤ 576) → ∀ (H : Heap) (locs : List Loc), va_P G vwCl [(z0, .inr (5, [.int cd, .int (nI w), .int (nI h), .ref z1, .ref z2, .ref z3, .int (b2i mk), .int (b2i ms), .double mn, .ref z4, .int (nI tc), .ref z5, .int ba, .int br])), (z1, .inl (cZ, 576, .inl (bA (cpB N P i)))), (z2, .inl (cZ, 576, .inl (bA N))), (z3, .inl (cI, 4, .inl (e4 ze le ue re de))), (z4, .inl (cI, 16, .inl TM)), (z5, .inl (cI, 104, .inl LN))] H → va_D A [(z0, .inr (5, [.int cd, .int (nI w), .int (nI h), .ref z1, .ref z2, .ref z3, .int (b2i mk), .int (b2i ms), .double mn, .ref z4, .int (nI tc), .ref z5, .int ba, .int br])), (z1, .inl (cZ, 576, .inl (bA (cpB N P i)))), (z2, .inl (cZ, 576, .inl (bA N))), (z3, .inl (cI, 4, .inl (e4 ze le ue re de))), (z4, .inl (cI, 16, .inl TM)), (z5, .inl (cI, 104, .inl LN))] → va_S A s.heap H locs → ∀ ls : Array Slot, lv_has ls 2 [(0, .ref z0), (1, .int (nI i))] → W p l e rmX6_change s m args below meth c H locs 0 0 Q (F0 m 2 ls []) := by
    intro n2
    induction n2 with
    | zero => intro i hn; exact absurd hn (by omega)
    | succ n2 ih2 =>
      intro i hn2 h_i H locs hP hD hS ls hl
      refine lv_iload_n hx hb dX6_change_2 rfl (lv_at hl 1 rfl) ?_
      refine lv_sipush (v := 576) hx hb dX6_change_3 (by decide) ?_
      refine kGe (n := 576) (by omega) (by omega) (tgt := 27) hx hb dX6_change_6 (by decide) (fun c_6 => ?_) (fun c_6 => ?_)
      · have e9 : 576 = i := by omega
        subst e9
        exact hend _ _ _ _ _ dX6_change_27 hP hD hS rfl
      · refine lv_aload_n hx hb dX6_change_9 rfl (lv_at hl 0 rfl) ?_
        refine va_get (D := G) (ci := 5) (v := .ref z1) (C := RX6) (T := TX6) (N := 14) hx hb hts in_kX6_change_X6 hown hK hP 0 rfl rfl 3 (by decide) (hts _ fl_kX6_change_7) (fun _ h9 => h9) rfl dX6_change_10 ?_
        refine lv_iload_n hx hb dX6_change_13 rfl (lv_at hl 1 rfl) ?_
        refine lv_aload_n hx hb dX6_change_14 rfl (lv_at hl 0 rfl) ?_
        refine va_get (D := G) (ci := 5) (v := .ref z2) (C := RX6) (T := TX6) (N := 14) hx hb hts in_kX6_change_X6 hown hK hP 0 rfl rfl 4 (by decide) (hts _ fl_kX6_change_13) (fun _ h9 => h9) rfl dX6_change_15 ?_
        refine lv_iload_n hx hb dX6_change_18 rfl (lv_at hl 1 rfl) ?_
        refine va_zald hx hb hK hP 2 1 rfl rfl (vp_in_nI (by omega) (by omega)) dX6_change_19 ?_
        rw [nI_clamp (n := i) (by omega)]
        refine kTopI (z := b2i (N i)) rfl ?_
        refine va_zast hx hb hK hP hD hS 1 1 rfl rfl (vp_in_nI (by omega) (by omega)) dX6_change_20 (fun H locs (hP : va_P G vwCl [(z0, .inr (5, [.int cd, .int (nI w), .int (nI h), .ref z1, .ref z2, .ref z3, .int (b2i mk), .int (b2i ms), .double mn, .ref z4, .int (nI tc), .ref z5, .int ba, .int br])), (z1, .inl (cZ, 576, .inl (upd (bA (cpB N P i)) (nI i).toNatClampNeg (vp_nar .boolean (b2i (N i)))))), (z2, .inl (cZ, 576, .inl (bA N))), (z3, .inl (cI, 4, .inl (e4 ze le ue re de))), (z4, .inl (cI, 16, .inl TM)), (z5, .inl (cI, 104, .inl LN))] H) (hD : va_D A [(z0, .inr (5, [.int cd, .int (nI w), .int (nI h), .ref z1, .ref z2, .ref z3, .int (b2i mk), .int (b2i ms), .double mn, .ref z4, .int (nI tc), .ref z5, .int ba, .int br])), (z1, .inl (cZ, 576, .inl (upd (bA (cpB N P i)) (nI i).toNatClampNeg (vp_nar .boolean (b2i (N i)))))), (z2, .inl (cZ, 576, .inl (bA N))), (z3, .inl (cI, 4, .inl (e4 ze le ue re de))), (z4, .inl (cI, 16, .inl TM)), (z5, .inl (cI, 104, .inl LN))]) hS => ?_)
        rw [nI_clamp (n := i) (by omega)] at hP hD
        rw [show upd (bA (cpB N P i)) i (vp_nar .boolean (b2i (N i))) = bA (uB (cpB N P i) i ((N i))) from bA_u _ _ ((N i))] at hP hD
        rw [cpB_s] at hP hD
        refine lv_iinc (v := nI (i + 1)) (lv' := [(1, .int (nI (i + 1))), (0, .ref z0)]) hx hb dX6_change_21 hl (k := 1) rfl (nI_1 _) (by decide) rfl (fun ls hl => ?_)
        refine lv_goto (tgt := 2) hx hb dX6_change_24 (by decide) ?_
        exact ih2 (i + 1) (by omega) (by omega) _ _ hP hD hS _ (lv_sub hl [1, 0] rfl)
  exact K2 (576 - 0 + 1) 0 (by omega) (by omega) _ _ (by rw [cpB_0]; exact hP) (by rw [cpB_0]; exact hD) hS _ (lv_sub hl [1, 0] rfl)
theorem in_kX6_forget_X6 : ∀ w ∈ u_ws RX6 TX6 14, w ∈ wsX6_forget := by decide +kernel
theorem fl_kX6_forget_13 : Cond.fieldLink RX6 13 "SkewFindModel" "next" "[Z" ∈ wsX6_forget := by decide +kernel
abbrev rmX6_forget : Room := { frames := 0, cells := 0, slots := 0, locals := 0 }
set_option maxRecDepth 100000 in
set_option maxHeartbeats 4000000 in
theorem kX6_forget (l : Launch) (G : va_G) (cI cZ cJ cD : ClassId) (z0 z1 z2 z3 z4 z5 w h : Nat) (hw : w ≤ 24) (hh : h ≤ 24) (cd : Int32) (P N : Nat → Bool) (ze : Nat → Int32) (le ue re de : Int32) (mk ms : Bool) (mn : UInt64) (tc : Nat) (TM LN : Nat → Int32) (ba br : Int32)  : Cv l G (kTy cI cZ cJ cD) yX6_forget wsX6_forget rmX6_forget [.ref z0] [(z0, .inr (5, [.int cd, .int (nI w), .int (nI h), .ref z1, .ref z2, .ref z3, .int (b2i mk), .int (b2i ms), .double mn, .ref z4, .int (nI tc), .ref z5, .int ba, .int br])), (z1, .inl (cZ, 576, .inl (bA P))), (z2, .inl (cZ, 576, .inl (bA N))), (z3, .inl (cI, 4, .inl (e4 ze le ue re de))), (z4, .inl (cI, 16, .inl TM)), (z5, .inl (cI, 104, .inl LN))] [(z0, .inr (5, [.int cd, .int (nI w), .int (nI h), .ref z1, .ref z2, .ref z3, .int (b2i mk), .int (b2i ms), .double mn, .ref z4, .int (nI tc), .ref z5, .int ba, .int br])), (z1, .inl (cZ, 576, .inl (bA P))), (z2, .inl (cZ, 576, .inl (bA (cpB (fun _ => false) N 576)))), (z3, .inl (cI, 4, .inl (e4 ze le ue re de))), (z4, .inl (cI, 16, .inl TM)), (z5, .inl (cI, 104, .inl LN))] := by
  refine Cv.of rfl rfl (cc := cX6_forget) (maxL := 2) (plainFor_of_name (by decide)) rfl (Nat.le_of_ble_eq_true rfl) rfl ?_
  intro p e s m args below meth c A Q hx hb hml hts hown hA hK hP hD hS hend ls hl
  refine lv_iconst (v := 0) hx hb dX6_forget_0 (by decide) ?_
  refine lv_istore_n (lv' := [(1, .int 0), (0, .ref z0)]) hx hb dX6_forget_1 rfl hl (by decide) rfl (fun ls hl => ?_)
  have K2 : ∀ (n2 : Nat) (i : Nat), 576 - i < n2 → (i ≤ 576) → ∀ (H : Heap) (locs : List Loc), va_P G vwCl [(z0, .inr (5, [.int cd, .int (nI w), .int (nI h), .ref z1, .ref z2, .ref z3, .int (b2i mk), .int (b2i ms), .double mn, .ref z4, .int (nI tc), .ref z5, .int ba, .int br])), (z1, .inl (cZ, 576, .inl (bA P))), (z2, .inl (cZ, 576, .inl (bA (cpB (fun _ => false) N i)))), (z3, .inl (cI, 4, .inl (e4 ze le ue re de))), (z4, .inl (cI, 16, .inl TM)), (z5, .inl (cI, 104, .inl LN))] H → va_D A [(z0, .inr (5, [.int cd, .int (nI w), .int (nI h), .ref z1, .ref z2, .ref z3, .int (b2i mk), .int (b2i ms), .double mn, .ref z4, .int (nI tc), .ref z5, .int ba, .int br])), (z1, .inl (cZ, 576, .inl (bA P))), (z2, .inl (cZ, 576, .inl (bA (cpB (fun _ => false) N i)))), (z3, .inl (cI, 4, .inl (e4 ze le ue re de))), (z4, .inl (cI, 16, .inl TM)), (z5, .inl (cI, 104, .inl LN))] → va_S A s.heap H locs → ∀ ls : Array Slot, lv_has ls 2 [(0, .ref z0), (1, .int (nI i))] → W p l e rmX6_forget s m args below meth c H locs 0 0 Q (F0 m 2 ls []) := by
    intro n2
    induction n2 with
    | zero => intro i hn; exact absurd hn (by omega)
    | succ n2 ih2 =>
      intro i hn2 h_i H locs hP hD hS ls hl
      refine lv_iload_n hx hb dX6_forget_2 rfl (lv_at hl 1 rfl) ?_
      refine lv_sipush (v := 576) hx hb dX6_forget_3 (by decide) ?_
      refine kGe (n := 576) (by omega) (by omega) (tgt := 22) hx hb dX6_forget_6 (by decide) (fun c_6 => ?_) (fun c_6 => ?_)
      · have e9 : 576 = i := by omega
        subst e9
        exact hend _ _ _ _ _ dX6_forget_22 hP hD hS rfl
      · refine lv_aload_n hx hb dX6_forget_9 rfl (lv_at hl 0 rfl) ?_
        refine va_get (D := G) (ci := 5) (v := .ref z2) (C := RX6) (T := TX6) (N := 14) hx hb hts in_kX6_forget_X6 hown hK hP 0 rfl rfl 4 (by decide) (hts _ fl_kX6_forget_13) (fun _ h9 => h9) rfl dX6_forget_10 ?_
        refine lv_iload_n hx hb dX6_forget_13 rfl (lv_at hl 1 rfl) ?_
        refine lv_iconst (v := 0) hx hb dX6_forget_14 (by decide) ?_
        refine va_zast hx hb hK hP hD hS 2 1 rfl rfl (vp_in_nI (by omega) (by omega)) dX6_forget_15 (fun H locs (hP : va_P G vwCl [(z0, .inr (5, [.int cd, .int (nI w), .int (nI h), .ref z1, .ref z2, .ref z3, .int (b2i mk), .int (b2i ms), .double mn, .ref z4, .int (nI tc), .ref z5, .int ba, .int br])), (z1, .inl (cZ, 576, .inl (bA P))), (z2, .inl (cZ, 576, .inl (upd (bA (cpB (fun _ => false) N i)) (nI i).toNatClampNeg (vp_nar .boolean 0)))), (z3, .inl (cI, 4, .inl (e4 ze le ue re de))), (z4, .inl (cI, 16, .inl TM)), (z5, .inl (cI, 104, .inl LN))] H) (hD : va_D A [(z0, .inr (5, [.int cd, .int (nI w), .int (nI h), .ref z1, .ref z2, .ref z3, .int (b2i mk), .int (b2i ms), .double mn, .ref z4, .int (nI tc), .ref z5, .int ba, .int br])), (z1, .inl (cZ, 576, .inl (bA P))), (z2, .inl (cZ, 576, .inl (upd (bA (cpB (fun _ => false) N i)) (nI i).toNatClampNeg (vp_nar .boolean 0)))), (z3, .inl (cI, 4, .inl (e4 ze le ue re de))), (z4, .inl (cI, 16, .inl TM)), (z5, .inl (cI, 104, .inl LN))]) hS => ?_)
        rw [nI_clamp (n := i) (by omega)] at hP hD
        rw [show upd (bA (cpB (fun _ => false) N i)) i (vp_nar .boolean 0) = bA (uB (cpB (fun _ => false) N i) i false) from bA_u _ _ false] at hP hD
        rw [show uB (cpB (fun _ => false) N i) i false = cpB (fun _ => false) N (i + 1) from cpB_s (fun _ => false) N i] at hP hD
        refine lv_iinc (v := nI (i + 1)) (lv' := [(1, .int (nI (i + 1))), (0, .ref z0)]) hx hb dX6_forget_16 hl (k := 1) rfl (nI_1 _) (by decide) rfl (fun ls hl => ?_)
        refine lv_goto (tgt := 2) hx hb dX6_forget_19 (by decide) ?_
        exact ih2 (i + 1) (by omega) (by omega) _ _ hP hD hS _ (lv_sub hl [1, 0] rfl)
  exact K2 (576 - 0 + 1) 0 (by omega) (by omega) _ _ (by rw [cpB_0]; exact hP) (by rw [cpB_0]; exact hD) hS _ (lv_sub hl [1, 0] rfl)
abbrev rmX6_isEnd : Room := { frames := 1, cells := 0, slots := 0, locals := 22 }
set_option maxRecDepth 100000 in
set_option maxHeartbeats 4000000 in
theorem kX6_isEnd (l : Launch) (G : va_G) (cI cZ cJ cD : ClassId) (z0 z1 z2 z3 z4 z5 w h : Nat) (hw : w ≤ 24) (hh : h ≤ 24) (cd : Int32) (P N : Nat → Bool) (ze : Nat → Int32) (le ue re de : Int32) (mk ms : Bool) (mn : UInt64) (tc : Nat) (TM LN : Nat → Int32) (ba br : Int32) (x y : Nat) : Ci l G (kTy cI cZ cJ cD) yX6_isEnd wsX6_isEnd rmX6_isEnd [.ref z0, .int (nI x), .int (nI y)] [(z0, .inr (5, [.int cd, .int (nI w), .int (nI h), .ref z1, .ref z2, .ref z3, .int (b2i mk), .int (b2i ms), .double mn, .ref z4, .int (nI tc), .ref z5, .int ba, .int br])), (z1, .inl (cZ, 576, .inl (bA P))), (z2, .inl (cZ, 576, .inl (bA N))), (z3, .inl (cI, 4, .inl (e4 ze le ue re de))), (z4, .inl (cI, 16, .inl TM)), (z5, .inl (cI, 104, .inl LN))] (b2i (mEndB w h P x y)) [(z0, .inr (5, [.int cd, .int (nI w), .int (nI h), .ref z1, .ref z2, .ref z3, .int (b2i mk), .int (b2i ms), .double mn, .ref z4, .int (nI tc), .ref z5, .int ba, .int br])), (z1, .inl (cZ, 576, .inl (bA P))), (z2, .inl (cZ, 576, .inl (bA N))), (z3, .inl (cI, 4, .inl (e4 ze le ue re de))), (z4, .inl (cI, 16, .inl TM)), (z5, .inl (cI, 104, .inl LN))] := by
  refine Ci.of .boolean (nar_b2i _) rfl rfl (cc := cX6_isEnd) (maxL := 3) (plainFor_of_name (by decide)) rfl (Nat.le_of_ble_eq_true rfl) rfl ?_
  intro p e s m args below meth c A Q hx hb hml hts hown hA hK hP hD hS hend ls hl
  refine lv_aload_n hx hb dX6_isEnd_0 rfl (lv_at hl 0 rfl) ?_
  refine lv_iload_n hx hb dX6_isEnd_1 rfl (lv_at hl 1 rfl) ?_
  refine lv_iload_n hx hb dX6_isEnd_2 rfl (lv_at hl 2 rfl) ?_
  refine kVi (w' := [(z0, .inr (5, [.int cd, .int (nI w), .int (nI h), .ref z1, .ref z2, .ref z3, .int (b2i mk), .int (b2i ms), .double mn, .ref z4, .int (nI tc), .ref z5, .int ba, .int br])), (z1, .inl (cZ, 576, .inl (bA P))), (z2, .inl (cZ, 576, .inl (bA N))), (z3, .inl (cI, 4, .inl (e4 ze le ue re de))), (z4, .inl (cI, 16, .inl TM)), (z5, .inl (cI, 104, .inl LN))]) (wr := []) (isC := [0, 1, 2, 3, 4, 5]) (isR := []) (pm := [0, 1, 2, 3, 4, 5]) (rest := []) (kX6_isOn l G cI cZ cJ cD z0 z1 z2 z3 z4 z5 w h hw hh cd P N ze le ue re de mk ms mn tc TM LN ba br (nI x) (nI y)) ⟨hx, hb, hml, hown, hts⟩ (cwV 2 hts gX6_isEnd_X6_isOn rfl rfl rfl hd_X6_isOn ⟨Nat.le_of_ble_eq_true rfl, Nat.le_of_ble_eq_true rfl⟩) hK hP hD hS hA ⟨rfl, rfl, rfl, by decide, rfl, rfl, rfl⟩ 5 0 rfl rfl rfl hl.1 rfl (Nat.le_of_ble_eq_true rfl) dX6_isEnd_3 ⟨Nat.le_of_ble_eq_true rfl, Nat.le_of_ble_eq_true rfl⟩ rfl rfl (fun H locs hP hD hS => ?_)
  refine kIfEqB (tgt := 24) hx hb dX6_isEnd_6 (by decide) (fun c_6 => ?_) (fun c_6 => ?_)
  · refine lv_iconst (v := 0) hx hb dX6_isEnd_24 (by decide) ?_
    exact hend _ _ _ _ _ _ dX6_isEnd_25 hP hD hS (by first | (simp only [mEndB, b2i_t, b2i_f, c_6, ↓reduceIte]; done) | (simp [mEndB, b2i_t, b2i_f, c_6]; done) | rfl) rfl
  · refine lv_aload_n hx hb dX6_isEnd_9 rfl (lv_at hl 0 rfl) ?_
    refine lv_iload_n hx hb dX6_isEnd_10 rfl (lv_at hl 1 rfl) ?_
    refine lv_iconst (v := 1) hx hb dX6_isEnd_11 (by decide) ?_
    refine lv_iadd hx hb dX6_isEnd_12 ?_
    refine lv_iload_n hx hb dX6_isEnd_13 rfl (lv_at hl 2 rfl) ?_
    refine kVi (w' := [(z0, .inr (5, [.int cd, .int (nI w), .int (nI h), .ref z1, .ref z2, .ref z3, .int (b2i mk), .int (b2i ms), .double mn, .ref z4, .int (nI tc), .ref z5, .int ba, .int br])), (z1, .inl (cZ, 576, .inl (bA P))), (z2, .inl (cZ, 576, .inl (bA N))), (z3, .inl (cI, 4, .inl (e4 ze le ue re de))), (z4, .inl (cI, 16, .inl TM)), (z5, .inl (cI, 104, .inl LN))]) (wr := []) (isC := [0, 1, 2, 3, 4, 5]) (isR := []) (pm := [0, 1, 2, 3, 4, 5]) (rest := []) (kX6_isOn l G cI cZ cJ cD z0 z1 z2 z3 z4 z5 w h hw hh cd P N ze le ue re de mk ms mn tc TM LN ba br ((nI x) + 1) (nI y)) ⟨hx, hb, hml, hown, hts⟩ (cwV 2 hts gX6_isEnd_X6_isOn rfl rfl rfl hd_X6_isOn ⟨Nat.le_of_ble_eq_true rfl, Nat.le_of_ble_eq_true rfl⟩) hK hP hD hS hA ⟨rfl, rfl, rfl, by decide, rfl, rfl, rfl⟩ 5 0 rfl rfl rfl hl.1 rfl (Nat.le_of_ble_eq_true rfl) dX6_isEnd_14 ⟨Nat.le_of_ble_eq_true rfl, Nat.le_of_ble_eq_true rfl⟩ rfl rfl (fun H locs hP hD hS => ?_)
    refine kIfNeB (tgt := 24) hx hb dX6_isEnd_17 (by decide) (fun c_17 => ?_) (fun c_17 => ?_)
    · refine lv_iconst (v := 0) hx hb dX6_isEnd_24 (by decide) ?_
      exact hend _ _ _ _ _ _ dX6_isEnd_25 hP hD hS (by first | (simp only [mEndB, b2i_t, b2i_f, c_6, c_17, ↓reduceIte]; done) | (simp [mEndB, b2i_t, b2i_f, c_6, c_17]; done) | rfl) rfl
    · refine lv_iconst (v := 1) hx hb dX6_isEnd_20 (by decide) ?_
      refine lv_goto (tgt := 25) hx hb dX6_isEnd_21 (by decide) ?_
      exact hend _ _ _ _ _ _ dX6_isEnd_25 hP hD hS (by first | (simp only [mEndB, b2i_t, b2i_f, c_6, c_17, ↓reduceIte]; done) | (simp [mEndB, b2i_t, b2i_f, c_6, c_17]; done) | rfl) rfl
theorem in_kX6_countEnds_X6 : ∀ w ∈ u_ws RX6 TX6 14, w ∈ wsX6_countEnds := by decide +kernel
theorem fl_kX6_countEnds_30 : Cond.fieldLink RX6 30 "SkewFindModel" "height" "I" ∈ wsX6_countEnds := by decide +kernel
theorem fl_kX6_countEnds_26 : Cond.fieldLink RX6 26 "SkewFindModel" "width" "I" ∈ wsX6_countEnds := by decide +kernel
abbrev rmX6_countEnds : Room := { frames := 2, cells := 0, slots := 0, locals := 44 }
set_option maxRecDepth 100000 in
set_option maxHeartbeats 4000000 in
theorem kX6_countEnds (l : Launch) (G : va_G) (cI cZ cJ cD : ClassId) (z0 z1 z2 z3 z4 z5 w h : Nat) (hw : w ≤ 24) (hh : h ≤ 24) (cd : Int32) (P N : Nat → Bool) (ze : Nat → Int32) (le ue re de : Int32) (mk ms : Bool) (mn : UInt64) (tc : Nat) (TM LN : Nat → Int32) (ba br : Int32)  : Ci l G (kTy cI cZ cJ cD) yX6_countEnds wsX6_countEnds rmX6_countEnds [.ref z0] [(z0, .inr (5, [.int cd, .int (nI w), .int (nI h), .ref z1, .ref z2, .ref z3, .int (b2i mk), .int (b2i ms), .double mn, .ref z4, .int (nI tc), .ref z5, .int ba, .int br])), (z1, .inl (cZ, 576, .inl (bA P))), (z2, .inl (cZ, 576, .inl (bA N))), (z3, .inl (cI, 4, .inl (e4 ze le ue re de))), (z4, .inl (cI, 16, .inl TM)), (z5, .inl (cI, 104, .inl LN))] (mEnds w h P) [(z0, .inr (5, [.int cd, .int (nI w), .int (nI h), .ref z1, .ref z2, .ref z3, .int (b2i mk), .int (b2i ms), .double mn, .ref z4, .int (nI tc), .ref z5, .int ba, .int br])), (z1, .inl (cZ, 576, .inl (bA P))), (z2, .inl (cZ, 576, .inl (bA N))), (z3, .inl (cI, 4, .inl (e4 ze le ue re de))), (z4, .inl (cI, 16, .inl TM)), (z5, .inl (cI, 104, .inl LN))] := by
  refine Ci.of .int rfl rfl rfl (cc := cX6_countEnds) (maxL := 4) (plainFor_of_name (by decide)) rfl (Nat.le_of_ble_eq_true rfl) rfl ?_
  intro p e s m args below meth c A Q hx hb hml hts hown hA hK hP hD hS hend ls hl
  refine lv_iconst (v := 0) hx hb dX6_countEnds_0 (by decide) ?_
  refine lv_istore_n (lv' := [(1, .int 0), (0, .ref z0)]) hx hb dX6_countEnds_1 rfl hl (by decide) rfl (fun ls hl => ?_)
  refine lv_iconst (v := 0) hx hb dX6_countEnds_2 (by decide) ?_
  refine lv_istore_n (lv' := [(2, .int 0), (1, .int 0), (0, .ref z0)]) hx hb dX6_countEnds_3 rfl hl (by decide) rfl (fun ls hl => ?_)
  have K4 : ∀ (n4 : Nat) (y : Nat), h - y < n4 → (y ≤ h) → ∀ (H : Heap) (locs : List Loc), va_P G vwCl [(z0, .inr (5, [.int cd, .int (nI w), .int (nI h), .ref z1, .ref z2, .ref z3, .int (b2i mk), .int (b2i ms), .double mn, .ref z4, .int (nI tc), .ref z5, .int ba, .int br])), (z1, .inl (cZ, 576, .inl (bA P))), (z2, .inl (cZ, 576, .inl (bA N))), (z3, .inl (cI, 4, .inl (e4 ze le ue re de))), (z4, .inl (cI, 16, .inl TM)), (z5, .inl (cI, 104, .inl LN))] H → va_D A [(z0, .inr (5, [.int cd, .int (nI w), .int (nI h), .ref z1, .ref z2, .ref z3, .int (b2i mk), .int (b2i ms), .double mn, .ref z4, .int (nI tc), .ref z5, .int ba, .int br])), (z1, .inl (cZ, 576, .inl (bA P))), (z2, .inl (cZ, 576, .inl (bA N))), (z3, .inl (cI, 4, .inl (e4 ze le ue re de))), (z4, .inl (cI, 16, .inl TM)), (z5, .inl (cI, 104, .inl LN))] → va_S A s.heap H locs → ∀ ls : Array Slot, lv_has ls 4 [(0, .ref z0), (1, .int (mEy w h P y)), (2, .int (nI y))] → W p l e rmX6_countEnds s m args below meth c H locs 0 0 Q (F0 m 4 ls []) := by
    intro n4
    induction n4 with
    | zero => intro y hn; exact absurd hn (by omega)
    | succ n4 ih4 =>
      intro y hn4 h_y H locs hP hD hS ls hl
      refine lv_iload_n hx hb dX6_countEnds_4 rfl (lv_at hl 2 rfl) ?_
      refine lv_aload_n hx hb dX6_countEnds_5 rfl (lv_at hl 0 rfl) ?_
      refine va_get (D := G) (ci := 5) (v := .int (nI h)) (C := RX6) (T := TX6) (N := 14) hx hb hts in_kX6_countEnds_X6 hown hK hP 0 rfl rfl 2 (by decide) (hts _ fl_kX6_countEnds_30) (fun _ h9 => h9) rfl dX6_countEnds_6 ?_
      refine kGe (by omega) (by omega) (tgt := 51) hx hb dX6_countEnds_9 (by decide) (fun c_9 => ?_) (fun c_9 => ?_)
      · have e9 : h = y := by omega
        subst e9
        refine lv_iload_n hx hb dX6_countEnds_51 rfl (lv_at hl 1 rfl) ?_
        exact hend _ _ _ _ _ _ dX6_countEnds_52 hP hD hS rfl rfl
      · refine lv_iconst (v := 0) hx hb dX6_countEnds_12 (by decide) ?_
        refine lv_istore_n (lv' := [(3, .int 0), (0, .ref z0), (1, .int (mEy w h P y)), (2, .int (nI y))]) hx hb dX6_countEnds_13 rfl hl (by decide) rfl (fun ls hl => ?_)
        have K14 : ∀ (n14 : Nat) (x : Nat), w - x < n14 → (x ≤ w) → ∀ (H : Heap) (locs : List Loc), va_P G vwCl [(z0, .inr (5, [.int cd, .int (nI w), .int (nI h), .ref z1, .ref z2, .ref z3, .int (b2i mk), .int (b2i ms), .double mn, .ref z4, .int (nI tc), .ref z5, .int ba, .int br])), (z1, .inl (cZ, 576, .inl (bA P))), (z2, .inl (cZ, 576, .inl (bA N))), (z3, .inl (cI, 4, .inl (e4 ze le ue re de))), (z4, .inl (cI, 16, .inl TM)), (z5, .inl (cI, 104, .inl LN))] H → va_D A [(z0, .inr (5, [.int cd, .int (nI w), .int (nI h), .ref z1, .ref z2, .ref z3, .int (b2i mk), .int (b2i ms), .double mn, .ref z4, .int (nI tc), .ref z5, .int ba, .int br])), (z1, .inl (cZ, 576, .inl (bA P))), (z2, .inl (cZ, 576, .inl (bA N))), (z3, .inl (cI, 4, .inl (e4 ze le ue re de))), (z4, .inl (cI, 16, .inl TM)), (z5, .inl (cI, 104, .inl LN))] → va_S A s.heap H locs → ∀ ls : Array Slot, lv_has ls 4 [(0, .ref z0), (1, .int (mEx w h P y (mEy w h P y) x)), (2, .int (nI y)), (3, .int (nI x))] → W p l e rmX6_countEnds s m args below meth c H locs 0 0 Q (F0 m 14 ls []) := by
          intro n14
          induction n14 with
          | zero => intro x hn; exact absurd hn (by omega)
          | succ n14 ih14 =>
            intro x hn14 h_x H locs hP hD hS ls hl
            refine lv_iload_n hx hb dX6_countEnds_14 rfl (lv_at hl 3 rfl) ?_
            refine lv_aload_n hx hb dX6_countEnds_15 rfl (lv_at hl 0 rfl) ?_
            refine va_get (D := G) (ci := 5) (v := .int (nI w)) (C := RX6) (T := TX6) (N := 14) hx hb hts in_kX6_countEnds_X6 hown hK hP 0 rfl rfl 1 (by decide) (hts _ fl_kX6_countEnds_26) (fun _ h9 => h9) rfl dX6_countEnds_16 ?_
            refine kGe (by omega) (by omega) (tgt := 45) hx hb dX6_countEnds_19 (by decide) (fun c_19 => ?_) (fun c_19 => ?_)
            · have e9 : w = x := by omega
              subst e9
              refine lv_iinc (v := nI (y + 1)) (lv' := [(2, .int (nI (y + 1))), (0, .ref z0), (1, .int (mEx w h P y (mEy w h P y) w)), (3, .int (nI w))]) hx hb dX6_countEnds_45 hl (k := 2) rfl (nI_1 _) (by decide) rfl (fun ls hl => ?_)
              refine lv_goto (tgt := 4) hx hb dX6_countEnds_48 (by decide) ?_
              exact ih4 (y + 1) (by omega) (by omega) _ _ hP hD hS _ (lv_sub hl [1, 2, 0] rfl)
            · refine lv_iload_n hx hb dX6_countEnds_22 rfl (lv_at hl 1 rfl) ?_
              refine lv_aload_n hx hb dX6_countEnds_23 rfl (lv_at hl 0 rfl) ?_
              refine lv_iload_n hx hb dX6_countEnds_24 rfl (lv_at hl 3 rfl) ?_
              refine lv_iload_n hx hb dX6_countEnds_25 rfl (lv_at hl 2 rfl) ?_
              refine kVi (w' := [(z0, .inr (5, [.int cd, .int (nI w), .int (nI h), .ref z1, .ref z2, .ref z3, .int (b2i mk), .int (b2i ms), .double mn, .ref z4, .int (nI tc), .ref z5, .int ba, .int br])), (z1, .inl (cZ, 576, .inl (bA P))), (z2, .inl (cZ, 576, .inl (bA N))), (z3, .inl (cI, 4, .inl (e4 ze le ue re de))), (z4, .inl (cI, 16, .inl TM)), (z5, .inl (cI, 104, .inl LN))]) (wr := []) (isC := [0, 1, 2, 3, 4, 5]) (isR := []) (pm := [0, 1, 2, 3, 4, 5]) (rest := [.int (mEx w h P y (mEy w h P y) x)]) (kX6_isEnd l G cI cZ cJ cD z0 z1 z2 z3 z4 z5 w h hw hh cd P N ze le ue re de mk ms mn tc TM LN ba br x y) ⟨hx, hb, hml, hown, hts⟩ (cwV 2 hts gX6_countEnds_X6_isEnd rfl rfl rfl hd_X6_isEnd ⟨Nat.le_of_ble_eq_true rfl, Nat.le_of_ble_eq_true rfl⟩) hK hP hD hS hA ⟨rfl, rfl, rfl, by decide, rfl, rfl, rfl⟩ 5 0 rfl rfl rfl hl.1 rfl (Nat.le_of_ble_eq_true rfl) dX6_countEnds_26 ⟨Nat.le_of_ble_eq_true rfl, Nat.le_of_ble_eq_true rfl⟩ rfl rfl (fun H locs hP hD hS => ?_)
              refine kIfEqB (tgt := 36) hx hb dX6_countEnds_29 (by decide) (fun c_29 => ?_) (fun c_29 => ?_)
              · refine lv_iconst (v := 0) hx hb dX6_countEnds_36 (by decide) ?_
                refine kTopI (z := b2i (mEndB w h P x y)) (by rw [c_29]; rfl) ?_
                refine lv_iadd hx hb dX6_countEnds_37 ?_
                refine lv_istore_n (lv' := [(1, .int ((mEx w h P y (mEy w h P y) x) + (b2i (mEndB w h P x y)))), (0, .ref z0), (2, .int (nI y)), (3, .int (nI x))]) hx hb dX6_countEnds_38 rfl hl (by decide) rfl (fun ls hl => ?_)
                refine lv_iinc (v := nI (x + 1)) (lv' := [(3, .int (nI (x + 1))), (1, .int ((mEx w h P y (mEy w h P y) x) + (b2i (mEndB w h P x y)))), (0, .ref z0), (2, .int (nI y))]) hx hb dX6_countEnds_39 hl (k := 3) rfl (nI_1 _) (by decide) rfl (fun ls hl => ?_)
                refine lv_goto (tgt := 14) hx hb dX6_countEnds_42 (by decide) ?_
                exact ih14 (x + 1) (by omega) (by omega) _ _ hP hD hS _ (lv_sub hl [2, 1, 3, 0] rfl)
              · refine lv_iconst (v := 1) hx hb dX6_countEnds_32 (by decide) ?_
                refine kTopI (z := b2i (mEndB w h P x y)) (by rw [c_29]; rfl) ?_
                refine lv_goto (tgt := 37) hx hb dX6_countEnds_33 (by decide) ?_
                refine lv_iadd hx hb dX6_countEnds_37 ?_
                refine lv_istore_n (lv' := [(1, .int ((mEx w h P y (mEy w h P y) x) + (b2i (mEndB w h P x y)))), (0, .ref z0), (2, .int (nI y)), (3, .int (nI x))]) hx hb dX6_countEnds_38 rfl hl (by decide) rfl (fun ls hl => ?_)
                refine lv_iinc (v := nI (x + 1)) (lv' := [(3, .int (nI (x + 1))), (1, .int ((mEx w h P y (mEy w h P y) x) + (b2i (mEndB w h P x y)))), (0, .ref z0), (2, .int (nI y))]) hx hb dX6_countEnds_39 hl (k := 3) rfl (nI_1 _) (by decide) rfl (fun ls hl => ?_)
                refine lv_goto (tgt := 14) hx hb dX6_countEnds_42 (by decide) ?_
                exact ih14 (x + 1) (by omega) (by omega) _ _ hP hD hS _ (lv_sub hl [2, 1, 3, 0] rfl)
        exact K14 (w - 0 + 1) 0 (by omega) (by omega) _ _ hP hD hS _ (lv_sub hl [1, 2, 3, 0] rfl)
  exact K4 (h - 0 + 1) 0 (by omega) (by omega) _ _ hP hD hS _ (lv_sub hl [2, 1, 0] rfl)
theorem in_kX6_sumOf_X6 : ∀ w ∈ u_ws RX6 TX6 14, w ∈ wsX6_sumOf := by decide +kernel
theorem fl_kX6_sumOf_30 : Cond.fieldLink RX6 30 "SkewFindModel" "height" "I" ∈ wsX6_sumOf := by decide +kernel
theorem fl_kX6_sumOf_23 : Cond.fieldLink RX6 23 "SkewFindModel" "lines" "[I" ∈ wsX6_sumOf := by decide +kernel
theorem fl_kX6_sumOf_26 : Cond.fieldLink RX6 26 "SkewFindModel" "width" "I" ∈ wsX6_sumOf := by decide +kernel
abbrev rmX6_sumOf : Room := { frames := 3, cells := 0, slots := 0, locals := 67 }
set_option maxRecDepth 100000 in
set_option maxHeartbeats 4000000 in
theorem kX6_sumOf (l : Launch) (G : va_G) (cI cZ cJ cD : ClassId) (z0 z1 z2 z3 z4 z5 w h : Nat) (hw : w ≤ 24) (hh : h ≤ 24) (cd : Int32) (P N : Nat → Bool) (ze : Nat → Int32) (le ue re de : Int32) (mk ms : Bool) (mn : UInt64) (tc : Nat) (TM LN : Nat → Int32) (ba br : Int32) (a : Int32) (ha1 : -2000 ≤ a.toInt) (ha2 : a.toInt ≤ 2000) : Cd l G (kTy cI cZ cJ cD) yX6_sumOf wsX6_sumOf rmX6_sumOf [.ref z0, .int a] [(z0, .inr (5, [.int cd, .int (nI w), .int (nI h), .ref z1, .ref z2, .ref z3, .int (b2i mk), .int (b2i ms), .double mn, .ref z4, .int (nI tc), .ref z5, .int ba, .int br])), (z1, .inl (cZ, 576, .inl (bA P))), (z2, .inl (cZ, 576, .inl (bA N))), (z3, .inl (cI, 4, .inl (e4 ze le ue re de))), (z4, .inl (cI, 16, .inl TM)), (z5, .inl (cI, 104, .inl LN))] (mSum w h P a) [(z0, .inr (5, [.int cd, .int (nI w), .int (nI h), .ref z1, .ref z2, .ref z3, .int (b2i mk), .int (b2i ms), .double mn, .ref z4, .int (nI tc), .ref z5, .int ba, .int br])), (z1, .inl (cZ, 576, .inl (bA P))), (z2, .inl (cZ, 576, .inl (bA N))), (z3, .inl (cI, 4, .inl (e4 ze le ue re de))), (z4, .inl (cI, 16, .inl TM)), (z5, .inl (cI, 104, .inl (mLn w h P LN a)))] := by
  refine Cd.of rfl rfl (cc := cX6_sumOf) (maxL := 7) (plainFor_of_name (by decide)) rfl (Nat.le_of_ble_eq_true rfl) rfl ?_
  intro p e s m args below meth c A Q hx hb hml hts hown hA hK hP hD hS hend ls hl
  refine lv_iload_n hx hb dX6_sumOf_0 rfl (lv_at hl 1 rfl) ?_
  refine lv_i2d hx hb dX6_sumOf_1 ?_
  have b1 : fIv (-131072000) (131072000) (FP.i2d a) := fIv.i2d_in (k := 2000) ha1 ha2 (by decide)
  refine kSd (rest := []) (kX6_slope l G cI cZ cJ cD (FP.i2d a) b1) ⟨hx, hb, hml, hown, hts⟩ (va_cwS 1 hts gX6_sumOf_X6_slope rfl rfl rfl hs_X6_slope ⟨Nat.le_of_ble_eq_true rfl, Nat.le_of_ble_eq_true rfl⟩) hK hP hD hS hA rfl hl.1 rfl (Nat.le_of_ble_eq_true rfl) dX6_sumOf_2 ⟨Nat.le_of_ble_eq_true rfl, Nat.le_of_ble_eq_true rfl⟩ rfl rfl (fun H locs hP hD hS => ?_)
  have b2 : fIv (-23855) (23855) (slopeF (FP.i2d a)) := fSlope b1
  refine lv_dstore_n (lv' := [(2, .double (slopeF (FP.i2d a))), (0, .ref z0), (1, .int a)]) hx hb dX6_sumOf_5 rfl hl (by decide) rfl (fun ls hl => ?_)
  refine lv_aload_n hx hb dX6_sumOf_6 rfl (lv_at hl 1 rfl) ?_
  refine kVi (w' := [(z0, .inr (5, [.int cd, .int (nI w), .int (nI h), .ref z1, .ref z2, .ref z3, .int (b2i mk), .int (b2i ms), .double mn, .ref z4, .int (nI tc), .ref z5, .int ba, .int br])), (z1, .inl (cZ, 576, .inl (bA P))), (z2, .inl (cZ, 576, .inl (bA N))), (z3, .inl (cI, 4, .inl (e4 ze le ue re de))), (z4, .inl (cI, 16, .inl TM)), (z5, .inl (cI, 104, .inl LN))]) (wr := []) (isC := [0, 1, 2, 3, 4, 5]) (isR := []) (pm := [0, 1, 2, 3, 4, 5]) (rest := []) (kX6_countEnds l G cI cZ cJ cD z0 z1 z2 z3 z4 z5 w h hw hh cd P N ze le ue re de mk ms mn tc TM LN ba br ) ⟨hx, hb, hml, hown, hts⟩ (cwV 0 hts gX6_sumOf_X6_countEnds rfl rfl rfl hd_X6_countEnds ⟨Nat.le_of_ble_eq_true rfl, Nat.le_of_ble_eq_true rfl⟩) hK hP hD hS hA ⟨rfl, rfl, rfl, by decide, rfl, rfl, rfl⟩ 5 0 rfl rfl rfl hl.1 rfl (Nat.le_of_ble_eq_true rfl) dX6_sumOf_7 ⟨Nat.le_of_ble_eq_true rfl, Nat.le_of_ble_eq_true rfl⟩ rfl rfl (fun H locs hP hD hS => ?_)
  refine lv_istore (lv' := [(4, .int (mEnds w h P)), (2, .double (slopeF (FP.i2d a))), (0, .ref z0), (1, .int a)]) hx hb dX6_sumOf_10 hl (by decide) rfl (fun ls hl => ?_)
  refine lv_iload hx hb dX6_sumOf_12 (lv_at hl 0 rfl) ?_
  refine lv_if_ne (tgt := 19) hx hb dX6_sumOf_14 (by decide) (fun c_14 => ?_) (fun c_14 => ?_)
  · refine lv_iconst (v := 0) hx hb dX6_sumOf_19 (by decide) ?_
    refine lv_istore (lv' := [(5, .int 0), (4, .int (mEnds w h P)), (2, .double (slopeF (FP.i2d a))), (0, .ref z0), (1, .int a)]) hx hb dX6_sumOf_20 hl (by decide) rfl (fun ls hl => ?_)
    have K22 : ∀ (n22 : Nat) (i : Nat), 104 - i < n22 → (i ≤ 104) → ∀ (H : Heap) (locs : List Loc), va_P G vwCl [(z0, .inr (5, [.int cd, .int (nI w), .int (nI h), .ref z1, .ref z2, .ref z3, .int (b2i mk), .int (b2i ms), .double mn, .ref z4, .int (nI tc), .ref z5, .int ba, .int br])), (z1, .inl (cZ, 576, .inl (bA P))), (z2, .inl (cZ, 576, .inl (bA N))), (z3, .inl (cI, 4, .inl (e4 ze le ue re de))), (z4, .inl (cI, 16, .inl TM)), (z5, .inl (cI, 104, .inl (mapN (fun _ _ => 0) LN i)))] H → va_D A [(z0, .inr (5, [.int cd, .int (nI w), .int (nI h), .ref z1, .ref z2, .ref z3, .int (b2i mk), .int (b2i ms), .double mn, .ref z4, .int (nI tc), .ref z5, .int ba, .int br])), (z1, .inl (cZ, 576, .inl (bA P))), (z2, .inl (cZ, 576, .inl (bA N))), (z3, .inl (cI, 4, .inl (e4 ze le ue re de))), (z4, .inl (cI, 16, .inl TM)), (z5, .inl (cI, 104, .inl (mapN (fun _ _ => 0) LN i)))] → va_S A s.heap H locs → ∀ ls : Array Slot, lv_has ls 7 [(0, .ref z0), (2, .double (slopeF (FP.i2d a))), (4, .int (mEnds w h P)), (5, .int (nI i))] → W p l e rmX6_sumOf s m args below meth c H locs 0 0 Q (F0 m 22 ls []) := by
      intro n22
      induction n22 with
      | zero => intro i hn; exact absurd hn (by omega)
      | succ n22 ih22 =>
        intro i hn22 h_i H locs hP hD hS ls hl
        refine lv_iload hx hb dX6_sumOf_22 (lv_at hl 3 rfl) ?_
        refine lv_bipush (v := 104) hx hb dX6_sumOf_24 (by decide) ?_
        refine kGe (n := 104) (by omega) (by omega) (tgt := 43) hx hb dX6_sumOf_26 (by decide) (fun c_26 => ?_) (fun c_26 => ?_)
        · have e9 : 104 = i := by omega
          subst e9
          refine lv_iconst (v := 0) hx hb dX6_sumOf_43 (by decide) ?_
          refine lv_istore (lv' := [(5, .int 0), (0, .ref z0), (2, .double (slopeF (FP.i2d a))), (4, .int (mEnds w h P))]) hx hb dX6_sumOf_44 hl (by decide) rfl (fun ls hl => ?_)
          have K46 : ∀ (n46 : Nat) (y : Nat), h - y < n46 → (y ≤ h) → ∀ (H : Heap) (locs : List Loc), va_P G vwCl [(z0, .inr (5, [.int cd, .int (nI w), .int (nI h), .ref z1, .ref z2, .ref z3, .int (b2i mk), .int (b2i ms), .double mn, .ref z4, .int (nI tc), .ref z5, .int ba, .int br])), (z1, .inl (cZ, 576, .inl (bA P))), (z2, .inl (cZ, 576, .inl (bA N))), (z3, .inl (cI, 4, .inl (e4 ze le ue re de))), (z4, .inl (cI, 16, .inl TM)), (z5, .inl (cI, 104, .inl (mlY w h P (slopeF (FP.i2d a)) (zerL LN) y)))] H → va_D A [(z0, .inr (5, [.int cd, .int (nI w), .int (nI h), .ref z1, .ref z2, .ref z3, .int (b2i mk), .int (b2i ms), .double mn, .ref z4, .int (nI tc), .ref z5, .int ba, .int br])), (z1, .inl (cZ, 576, .inl (bA P))), (z2, .inl (cZ, 576, .inl (bA N))), (z3, .inl (cI, 4, .inl (e4 ze le ue re de))), (z4, .inl (cI, 16, .inl TM)), (z5, .inl (cI, 104, .inl (mlY w h P (slopeF (FP.i2d a)) (zerL LN) y)))] → va_S A s.heap H locs → ∀ ls : Array Slot, lv_has ls 7 [(0, .ref z0), (2, .double (slopeF (FP.i2d a))), (4, .int (mEnds w h P)), (5, .int (nI y))] → W p l e rmX6_sumOf s m args below meth c H locs 0 0 Q (F0 m 46 ls []) := by
            intro n46
            induction n46 with
            | zero => intro y hn; exact absurd hn (by omega)
            | succ n46 ih46 =>
              intro y hn46 h_y H locs hP hD hS ls hl
              refine lv_iload hx hb dX6_sumOf_46 (lv_at hl 3 rfl) ?_
              refine lv_aload_n hx hb dX6_sumOf_48 rfl (lv_at hl 0 rfl) ?_
              refine va_get (D := G) (ci := 5) (v := .int (nI h)) (C := RX6) (T := TX6) (N := 14) hx hb hts in_kX6_sumOf_X6 hown hK hP 0 rfl rfl 2 (by decide) (hts _ fl_kX6_sumOf_30) (fun _ h9 => h9) rfl dX6_sumOf_49 ?_
              refine kGe (by omega) (by omega) (tgt := 114) hx hb dX6_sumOf_52 (by decide) (fun c_52 => ?_) (fun c_52 => ?_)
              · have e9 : h = y := by omega
                subst e9
                refine lv_iconst (v := 0) hx hb dX6_sumOf_114 (by decide) ?_
                refine lv_istore (lv' := [(5, .int 0), (0, .ref z0), (2, .double (slopeF (FP.i2d a))), (4, .int (mEnds w h P))]) hx hb dX6_sumOf_115 hl (by decide) rfl (fun ls hl => ?_)
                refine lv_iconst (v := 0) hx hb dX6_sumOf_117 (by decide) ?_
                refine lv_istore (lv' := [(6, .int 0), (5, .int 0), (0, .ref z0), (2, .double (slopeF (FP.i2d a))), (4, .int (mEnds w h P))]) hx hb dX6_sumOf_118 hl (by decide) rfl (fun ls hl => ?_)
                have K120 : ∀ (n120 : Nat) (i : Nat), 104 - i < n120 → (i ≤ 104) → ∀ (H : Heap) (locs : List Loc), va_P G vwCl [(z0, .inr (5, [.int cd, .int (nI w), .int (nI h), .ref z1, .ref z2, .ref z3, .int (b2i mk), .int (b2i ms), .double mn, .ref z4, .int (nI tc), .ref z5, .int ba, .int br])), (z1, .inl (cZ, 576, .inl (bA P))), (z2, .inl (cZ, 576, .inl (bA N))), (z3, .inl (cI, 4, .inl (e4 ze le ue re de))), (z4, .inl (cI, 16, .inl TM)), (z5, .inl (cI, 104, .inl (mlY w h P (slopeF (FP.i2d a)) (zerL LN) h)))] H → va_D A [(z0, .inr (5, [.int cd, .int (nI w), .int (nI h), .ref z1, .ref z2, .ref z3, .int (b2i mk), .int (b2i ms), .double mn, .ref z4, .int (nI tc), .ref z5, .int ba, .int br])), (z1, .inl (cZ, 576, .inl (bA P))), (z2, .inl (cZ, 576, .inl (bA N))), (z3, .inl (cI, 4, .inl (e4 ze le ue re de))), (z4, .inl (cI, 16, .inl TM)), (z5, .inl (cI, 104, .inl (mlY w h P (slopeF (FP.i2d a)) (zerL LN) h)))] → va_S A s.heap H locs → ∀ ls : Array Slot, lv_has ls 7 [(0, .ref z0), (4, .int (mEnds w h P)), (5, .int (sumI (fun i => (mlY w h P (slopeF (FP.i2d a)) (zerL LN) h) i * (mlY w h P (slopeF (FP.i2d a)) (zerL LN) h) i) i)), (6, .int (nI i))] → W p l e rmX6_sumOf s m args below meth c H locs 0 0 Q (F0 m 120 ls []) := by
                  intro n120
                  induction n120 with
                  | zero => intro i hn; exact absurd hn (by omega)
                  | succ n120 ih120 =>
                    intro i hn120 h_i H locs hP hD hS ls hl
                    refine lv_iload hx hb dX6_sumOf_120 (lv_at hl 3 rfl) ?_
                    refine lv_bipush (v := 104) hx hb dX6_sumOf_122 (by decide) ?_
                    refine kGe (n := 104) (by omega) (by omega) (tgt := 153) hx hb dX6_sumOf_124 (by decide) (fun c_124 => ?_) (fun c_124 => ?_)
                    · have e9 : 104 = i := by omega
                      subst e9
                      refine lv_iload hx hb dX6_sumOf_153 (lv_at hl 2 rfl) ?_
                      refine kTopI (z := sqMZ w h P (slopeF (FP.i2d a))) (sqMZ_of w h hw hh P (fSlope (fIv.i2d_in (k := 2000) ha1 ha2 (by decide))) LN) ?_
                      refine lv_i2d hx hb dX6_sumOf_155 ?_
                      refine lv_iload hx hb dX6_sumOf_156 (lv_at hl 1 rfl) ?_
                      refine lv_i2d hx hb dX6_sumOf_158 ?_
                      have b3 : fIv (-140737488355328) (140737488355328) (FP.ddiv (FP.i2d (sqMZ w h P (slopeF (FP.i2d a)))) (FP.i2d (mEnds w h P))) := fDivI (fAny _) _ c_14 (by decide +kernel)
                      refine lv_ddiv hx hb dX6_sumOf_159 b3.n64 ?_
                      exact hend _ _ _ _ _ _ dX6_sumOf_160 hP hD hS (by first | (simp only [mSum, mLn, c_14, c_26, c_52, c_124, ↓reduceIte]; done) | (simp [mSum, mLn, c_14, c_26, c_52, c_124]; done) | rfl) (by first | (simp only [mSum, mLn, c_14, c_26, c_52, c_124, ↓reduceIte]; done) | (simp [mSum, mLn, c_14, c_26, c_52, c_124]; done) | rfl)
                    · refine lv_iload hx hb dX6_sumOf_127 (lv_at hl 2 rfl) ?_
                      refine lv_aload_n hx hb dX6_sumOf_129 rfl (lv_at hl 0 rfl) ?_
                      refine va_get (D := G) (ci := 5) (v := .ref z5) (C := RX6) (T := TX6) (N := 14) hx hb hts in_kX6_sumOf_X6 hown hK hP 0 rfl rfl 11 (by decide) (hts _ fl_kX6_sumOf_23) (fun _ h9 => h9) rfl dX6_sumOf_130 ?_
                      refine lv_iload hx hb dX6_sumOf_133 (lv_at hl 3 rfl) ?_
                      refine va_iald hx hb hK hP 5 0 rfl rfl (vp_in_nI (by omega) (by omega)) dX6_sumOf_135 ?_
                      rw [nI_clamp (n := i) (by omega)]
                      refine lv_aload_n hx hb dX6_sumOf_136 rfl (lv_at hl 0 rfl) ?_
                      refine va_get (D := G) (ci := 5) (v := .ref z5) (C := RX6) (T := TX6) (N := 14) hx hb hts in_kX6_sumOf_X6 hown hK hP 0 rfl rfl 11 (by decide) (hts _ fl_kX6_sumOf_23) (fun _ h9 => h9) rfl dX6_sumOf_137 ?_
                      refine lv_iload hx hb dX6_sumOf_140 (lv_at hl 3 rfl) ?_
                      refine va_iald hx hb hK hP 5 0 rfl rfl (vp_in_nI (by omega) (by omega)) dX6_sumOf_142 ?_
                      rw [nI_clamp (n := i) (by omega)]
                      refine lv_imul hx hb dX6_sumOf_143 ?_
                      refine lv_iadd hx hb dX6_sumOf_144 ?_
                      refine lv_istore (lv' := [(5, .int ((sumI (fun i => (mlY w h P (slopeF (FP.i2d a)) (zerL LN) h) i * (mlY w h P (slopeF (FP.i2d a)) (zerL LN) h) i) i) + (((mlY w h P (slopeF (FP.i2d a)) (zerL LN) h) i) * ((mlY w h P (slopeF (FP.i2d a)) (zerL LN) h) i)))), (0, .ref z0), (4, .int (mEnds w h P)), (6, .int (nI i))]) hx hb dX6_sumOf_145 hl (by decide) rfl (fun ls hl => ?_)
                      refine lv_iinc (v := nI (i + 1)) (lv' := [(6, .int (nI (i + 1))), (5, .int ((sumI (fun i => (mlY w h P (slopeF (FP.i2d a)) (zerL LN) h) i * (mlY w h P (slopeF (FP.i2d a)) (zerL LN) h) i) i) + (((mlY w h P (slopeF (FP.i2d a)) (zerL LN) h) i) * ((mlY w h P (slopeF (FP.i2d a)) (zerL LN) h) i)))), (0, .ref z0), (4, .int (mEnds w h P))]) hx hb dX6_sumOf_147 hl (k := 3) rfl (nI_1 _) (by decide) rfl (fun ls hl => ?_)
                      refine lv_goto (tgt := 120) hx hb dX6_sumOf_150 (by decide) ?_
                      exact ih120 (i + 1) (by omega) (by omega) _ _ hP hD hS _ (lv_sub hl [2, 3, 1, 0] rfl)
                exact K120 (104 - 0 + 1) 0 (by omega) (by omega) _ _ hP hD hS _ (lv_sub hl [2, 4, 1, 0] rfl)
              · refine lv_iconst (v := 0) hx hb dX6_sumOf_55 (by decide) ?_
                refine lv_istore (lv' := [(6, .int 0), (0, .ref z0), (2, .double (slopeF (FP.i2d a))), (4, .int (mEnds w h P)), (5, .int (nI y))]) hx hb dX6_sumOf_56 hl (by decide) rfl (fun ls hl => ?_)
                have K58 : ∀ (n58 : Nat) (x : Nat), w - x < n58 → (x ≤ w) → ∀ (H : Heap) (locs : List Loc), va_P G vwCl [(z0, .inr (5, [.int cd, .int (nI w), .int (nI h), .ref z1, .ref z2, .ref z3, .int (b2i mk), .int (b2i ms), .double mn, .ref z4, .int (nI tc), .ref z5, .int ba, .int br])), (z1, .inl (cZ, 576, .inl (bA P))), (z2, .inl (cZ, 576, .inl (bA N))), (z3, .inl (cI, 4, .inl (e4 ze le ue re de))), (z4, .inl (cI, 16, .inl TM)), (z5, .inl (cI, 104, .inl (mlX w h P (slopeF (FP.i2d a)) y (mlY w h P (slopeF (FP.i2d a)) (zerL LN) y) x)))] H → va_D A [(z0, .inr (5, [.int cd, .int (nI w), .int (nI h), .ref z1, .ref z2, .ref z3, .int (b2i mk), .int (b2i ms), .double mn, .ref z4, .int (nI tc), .ref z5, .int ba, .int br])), (z1, .inl (cZ, 576, .inl (bA P))), (z2, .inl (cZ, 576, .inl (bA N))), (z3, .inl (cI, 4, .inl (e4 ze le ue re de))), (z4, .inl (cI, 16, .inl TM)), (z5, .inl (cI, 104, .inl (mlX w h P (slopeF (FP.i2d a)) y (mlY w h P (slopeF (FP.i2d a)) (zerL LN) y) x)))] → va_S A s.heap H locs → ∀ ls : Array Slot, lv_has ls 7 [(0, .ref z0), (2, .double (slopeF (FP.i2d a))), (4, .int (mEnds w h P)), (5, .int (nI y)), (6, .int (nI x))] → W p l e rmX6_sumOf s m args below meth c H locs 0 0 Q (F0 m 58 ls []) := by
                  intro n58
                  induction n58 with
                  | zero => intro x hn; exact absurd hn (by omega)
                  | succ n58 ih58 =>
                    intro x hn58 h_x H locs hP hD hS ls hl
                    refine lv_iload hx hb dX6_sumOf_58 (lv_at hl 4 rfl) ?_
                    refine lv_aload_n hx hb dX6_sumOf_60 rfl (lv_at hl 0 rfl) ?_
                    refine va_get (D := G) (ci := 5) (v := .int (nI w)) (C := RX6) (T := TX6) (N := 14) hx hb hts in_kX6_sumOf_X6 hown hK hP 0 rfl rfl 1 (by decide) (hts _ fl_kX6_sumOf_26) (fun _ h9 => h9) rfl dX6_sumOf_61 ?_
                    refine kGe (by omega) (by omega) (tgt := 108) hx hb dX6_sumOf_64 (by decide) (fun c_64 => ?_) (fun c_64 => ?_)
                    · have e9 : w = x := by omega
                      subst e9
                      refine lv_iinc (v := nI (y + 1)) (lv' := [(5, .int (nI (y + 1))), (0, .ref z0), (2, .double (slopeF (FP.i2d a))), (4, .int (mEnds w h P)), (6, .int (nI w))]) hx hb dX6_sumOf_108 hl (k := 3) rfl (nI_1 _) (by decide) rfl (fun ls hl => ?_)
                      refine lv_goto (tgt := 46) hx hb dX6_sumOf_111 (by decide) ?_
                      exact ih46 (y + 1) (by omega) (by omega) _ _ hP hD hS _ (lv_sub hl [1, 2, 3, 0] rfl)
                    · refine lv_aload_n hx hb dX6_sumOf_67 rfl (lv_at hl 0 rfl) ?_
                      refine lv_iload hx hb dX6_sumOf_68 (lv_at hl 4 rfl) ?_
                      refine lv_iload hx hb dX6_sumOf_70 (lv_at hl 3 rfl) ?_
                      refine kVi (w' := [(z0, .inr (5, [.int cd, .int (nI w), .int (nI h), .ref z1, .ref z2, .ref z3, .int (b2i mk), .int (b2i ms), .double mn, .ref z4, .int (nI tc), .ref z5, .int ba, .int br])), (z1, .inl (cZ, 576, .inl (bA P))), (z2, .inl (cZ, 576, .inl (bA N))), (z3, .inl (cI, 4, .inl (e4 ze le ue re de))), (z4, .inl (cI, 16, .inl TM)), (z5, .inl (cI, 104, .inl (mlX w h P (slopeF (FP.i2d a)) y (mlY w h P (slopeF (FP.i2d a)) (zerL LN) y) x)))]) (wr := []) (isC := [0, 1, 2, 3, 4, 5]) (isR := []) (pm := [0, 1, 2, 3, 4, 5]) (rest := []) (kX6_isEnd l G cI cZ cJ cD z0 z1 z2 z3 z4 z5 w h hw hh cd P N ze le ue re de mk ms mn tc TM (mlX w h P (slopeF (FP.i2d a)) y (mlY w h P (slopeF (FP.i2d a)) (zerL LN) y) x) ba br x y) ⟨hx, hb, hml, hown, hts⟩ (cwV 2 hts gX6_sumOf_X6_isEnd rfl rfl rfl hd_X6_isEnd ⟨Nat.le_of_ble_eq_true rfl, Nat.le_of_ble_eq_true rfl⟩) hK hP hD hS hA ⟨rfl, rfl, rfl, by decide, rfl, rfl, rfl⟩ 5 0 rfl rfl rfl hl.1 rfl (Nat.le_of_ble_eq_true rfl) dX6_sumOf_72 ⟨Nat.le_of_ble_eq_true rfl, Nat.le_of_ble_eq_true rfl⟩ rfl rfl (fun H locs hP hD hS => ?_)
                      refine kIfEqB (tgt := 102) hx hb dX6_sumOf_75 (by decide) (fun c_75 => ?_) (fun c_75 => ?_)
                      · have hE : mlX w h P (slopeF (FP.i2d a)) y (mlY w h P (slopeF (FP.i2d a)) (zerL LN) y) x = mlX w h P (slopeF (FP.i2d a)) y (mlY w h P (slopeF (FP.i2d a)) (zerL LN) y) (x + 1) := (if_neg (Bool.eq_false_iff.mp c_75)).symm
                        rw [hE] at hP hD
                        refine lv_iinc (v := nI (x + 1)) (lv' := [(6, .int (nI (x + 1))), (0, .ref z0), (2, .double (slopeF (FP.i2d a))), (4, .int (mEnds w h P)), (5, .int (nI y))]) hx hb dX6_sumOf_102 hl (k := 4) rfl (nI_1 _) (by decide) rfl (fun ls hl => ?_)
                        refine lv_goto (tgt := 58) hx hb dX6_sumOf_105 (by decide) ?_
                        exact ih58 (x + 1) (by omega) (by omega) _ _ hP hD hS _ (lv_sub hl [1, 2, 3, 4, 0] rfl)
                      · refine lv_aload_n hx hb dX6_sumOf_78 rfl (lv_at hl 0 rfl) ?_
                        refine va_get (D := G) (ci := 5) (v := .ref z5) (C := RX6) (T := TX6) (N := 14) hx hb hts in_kX6_sumOf_X6 hown hK hP 0 rfl rfl 11 (by decide) (hts _ fl_kX6_sumOf_23) (fun _ h9 => h9) rfl dX6_sumOf_79 ?_
                        refine lv_iload hx hb dX6_sumOf_82 (lv_at hl 3 rfl) ?_
                        refine lv_i2d hx hb dX6_sumOf_84 ?_
                        refine lv_iload hx hb dX6_sumOf_85 (lv_at hl 4 rfl) ?_
                        refine lv_i2d hx hb dX6_sumOf_87 ?_
                        refine lv_dload_n hx hb dX6_sumOf_88 rfl (lv_at hl 1 rfl) ?_
                        have b4 : fIv (0) (1507328) (FP.i2d (nI x)) := fIvN (k := 23) (by omega) (by omega)
                        have b5 : fIv (-548665) (548665) (FP.dmul (FP.i2d (nI x)) (slopeF (FP.i2d a))) := fIv.mul (n := 1507328) (m := 23855) (k := 548665) (b4.weak (by decide +kernel) (by decide +kernel) (by decide +kernel) (by decide +kernel)) b2 (by decide +kernel) (by decide +kernel)
                        refine lv_dmul hx hb dX6_sumOf_89 b5.n64 ?_
                        have b6 : fIv (0) (1507328) (FP.i2d (nI y)) := fIvN (k := 23) (by omega) (by omega)
                        have b7 : fIv (-548665) (2055993) (FP.dsub (FP.i2d (nI y)) (FP.dmul (FP.i2d (nI x)) (slopeF (FP.i2d a)))) := fSub b6 b5 (by decide +kernel) (by decide +kernel) (by decide +kernel) (by decide +kernel)
                        refine lv_dsub hx hb dX6_sumOf_90 b7.n64 ?_
                        have b8 : fIv (-515897) (2088761) (FP.dadd (FP.dsub (FP.i2d (nI y)) (FP.dmul (FP.i2d (nI x)) (slopeF (FP.i2d a)))) 4602678819172646912) := fAdd b7 fHalf (by decide +kernel) (by decide +kernel) (by decide +kernel) (by decide +kernel)
                        refine kSi (rest := [.ref z5]) (kX6_wholeOf l G cI cZ cJ cD (FP.dsub (FP.i2d (nI y)) (FP.dmul (FP.i2d (nI x)) (slopeF (FP.i2d a)))) (-515897) (2088761) b8) ⟨hx, hb, hml, hown, hts⟩ (va_cwS 1 hts gX6_sumOf_X6_wholeOf rfl rfl rfl hs_X6_wholeOf ⟨Nat.le_of_ble_eq_true rfl, Nat.le_of_ble_eq_true rfl⟩) hK hP hD hS hA rfl hl.1 rfl (Nat.le_of_ble_eq_true rfl) dX6_sumOf_91 ⟨Nat.le_of_ble_eq_true rfl, Nat.le_of_ble_eq_true rfl⟩ rfl rfl (fun H locs hP hD hS => ?_)
                        refine lv_bipush (v := 40) hx hb dX6_sumOf_94 (by decide) ?_
                        refine lv_iadd hx hb dX6_sumOf_96 ?_
                        refine lv_dup2_11 hx hb dX6_sumOf_97 rfl rfl ?_
                        refine va_iald hx hb hK hP 5 0 rfl rfl (lineV (by omega) (by omega) (fSlope (fIv.i2d_in (k := 2000) ha1 ha2 (by decide)))) dX6_sumOf_98 ?_
                        refine lv_iconst (v := 1) hx hb dX6_sumOf_99 (by decide) ?_
                        refine lv_iadd hx hb dX6_sumOf_100 ?_
                        refine va_iast hx hb hK hP hD hS 5 0 rfl rfl (lineV (by omega) (by omega) (fSlope (fIv.i2d_in (k := 2000) ha1 ha2 (by decide)))) dX6_sumOf_101 (fun H locs (hP : va_P G vwCl [(z0, .inr (5, [.int cd, .int (nI w), .int (nI h), .ref z1, .ref z2, .ref z3, .int (b2i mk), .int (b2i ms), .double mn, .ref z4, .int (nI tc), .ref z5, .int ba, .int br])), (z1, .inl (cZ, 576, .inl (bA P))), (z2, .inl (cZ, 576, .inl (bA N))), (z3, .inl (cI, 4, .inl (e4 ze le ue re de))), (z4, .inl (cI, 16, .inl TM)), (z5, .inl (cI, 104, .inl (upd (mlX w h P (slopeF (FP.i2d a)) y (mlY w h P (slopeF (FP.i2d a)) (zerL LN) y) x) ((wholeF (FP.dsub (FP.i2d (nI y)) (FP.dmul (FP.i2d (nI x)) (slopeF (FP.i2d a))))) + 40).toNatClampNeg (((mlX w h P (slopeF (FP.i2d a)) y (mlY w h P (slopeF (FP.i2d a)) (zerL LN) y) x) ((wholeF (FP.dsub (FP.i2d (nI y)) (FP.dmul (FP.i2d (nI x)) (slopeF (FP.i2d a))))) + 40).toNatClampNeg) + 1))))] H) (hD : va_D A [(z0, .inr (5, [.int cd, .int (nI w), .int (nI h), .ref z1, .ref z2, .ref z3, .int (b2i mk), .int (b2i ms), .double mn, .ref z4, .int (nI tc), .ref z5, .int ba, .int br])), (z1, .inl (cZ, 576, .inl (bA P))), (z2, .inl (cZ, 576, .inl (bA N))), (z3, .inl (cI, 4, .inl (e4 ze le ue re de))), (z4, .inl (cI, 16, .inl TM)), (z5, .inl (cI, 104, .inl (upd (mlX w h P (slopeF (FP.i2d a)) y (mlY w h P (slopeF (FP.i2d a)) (zerL LN) y) x) ((wholeF (FP.dsub (FP.i2d (nI y)) (FP.dmul (FP.i2d (nI x)) (slopeF (FP.i2d a))))) + 40).toNatClampNeg (((mlX w h P (slopeF (FP.i2d a)) y (mlY w h P (slopeF (FP.i2d a)) (zerL LN) y) x) ((wholeF (FP.dsub (FP.i2d (nI y)) (FP.dmul (FP.i2d (nI x)) (slopeF (FP.i2d a))))) + 40).toNatClampNeg) + 1))))]) hS => ?_)
                        have hE : upd (mlX w h P (slopeF (FP.i2d a)) y (mlY w h P (slopeF (FP.i2d a)) (zerL LN) y) x) ((wholeF (FP.dsub (FP.i2d (nI y)) (FP.dmul (FP.i2d (nI x)) (slopeF (FP.i2d a))))) + 40).toNatClampNeg (((mlX w h P (slopeF (FP.i2d a)) y (mlY w h P (slopeF (FP.i2d a)) (zerL LN) y) x) ((wholeF (FP.dsub (FP.i2d (nI y)) (FP.dmul (FP.i2d (nI x)) (slopeF (FP.i2d a))))) + 40).toNatClampNeg) + 1) = mlX w h P (slopeF (FP.i2d a)) y (mlY w h P (slopeF (FP.i2d a)) (zerL LN) y) (x + 1) := (if_pos c_75).symm
                        rw [hE] at hP hD
                        refine lv_iinc (v := nI (x + 1)) (lv' := [(6, .int (nI (x + 1))), (0, .ref z0), (2, .double (slopeF (FP.i2d a))), (4, .int (mEnds w h P)), (5, .int (nI y))]) hx hb dX6_sumOf_102 hl (k := 4) rfl (nI_1 _) (by decide) rfl (fun ls hl => ?_)
                        refine lv_goto (tgt := 58) hx hb dX6_sumOf_105 (by decide) ?_
                        exact ih58 (x + 1) (by omega) (by omega) _ _ hP hD hS _ (lv_sub hl [1, 2, 3, 4, 0] rfl)
                exact K58 (w - 0 + 1) 0 (by omega) (by omega) _ _ hP hD hS _ (lv_sub hl [1, 2, 3, 4, 0] rfl)
          exact K46 (h - 0 + 1) 0 (by omega) (by omega) _ _ hP hD hS _ (lv_sub hl [1, 2, 3, 0] rfl)
        · refine lv_aload_n hx hb dX6_sumOf_29 rfl (lv_at hl 0 rfl) ?_
          refine va_get (D := G) (ci := 5) (v := .ref z5) (C := RX6) (T := TX6) (N := 14) hx hb hts in_kX6_sumOf_X6 hown hK hP 0 rfl rfl 11 (by decide) (hts _ fl_kX6_sumOf_23) (fun _ h9 => h9) rfl dX6_sumOf_30 ?_
          refine lv_iload hx hb dX6_sumOf_33 (lv_at hl 3 rfl) ?_
          refine lv_iconst (v := 0) hx hb dX6_sumOf_35 (by decide) ?_
          refine va_iast hx hb hK hP hD hS 5 0 rfl rfl (vp_in_nI (by omega) (by omega)) dX6_sumOf_36 (fun H locs (hP : va_P G vwCl [(z0, .inr (5, [.int cd, .int (nI w), .int (nI h), .ref z1, .ref z2, .ref z3, .int (b2i mk), .int (b2i ms), .double mn, .ref z4, .int (nI tc), .ref z5, .int ba, .int br])), (z1, .inl (cZ, 576, .inl (bA P))), (z2, .inl (cZ, 576, .inl (bA N))), (z3, .inl (cI, 4, .inl (e4 ze le ue re de))), (z4, .inl (cI, 16, .inl TM)), (z5, .inl (cI, 104, .inl (upd (mapN (fun _ _ => 0) LN i) (nI i).toNatClampNeg 0)))] H) (hD : va_D A [(z0, .inr (5, [.int cd, .int (nI w), .int (nI h), .ref z1, .ref z2, .ref z3, .int (b2i mk), .int (b2i ms), .double mn, .ref z4, .int (nI tc), .ref z5, .int ba, .int br])), (z1, .inl (cZ, 576, .inl (bA P))), (z2, .inl (cZ, 576, .inl (bA N))), (z3, .inl (cI, 4, .inl (e4 ze le ue re de))), (z4, .inl (cI, 16, .inl TM)), (z5, .inl (cI, 104, .inl (upd (mapN (fun _ _ => 0) LN i) (nI i).toNatClampNeg 0)))]) hS => ?_)
          rw [nI_clamp (n := i) (by omega)] at hP hD
          have hE : upd (mapN (fun _ _ => 0) LN i) i 0 = mapN (fun _ _ => 0) LN (i + 1) := mapN_s _ _ _
          rw [hE] at hP hD
          refine lv_iinc (v := nI (i + 1)) (lv' := [(5, .int (nI (i + 1))), (0, .ref z0), (2, .double (slopeF (FP.i2d a))), (4, .int (mEnds w h P))]) hx hb dX6_sumOf_37 hl (k := 3) rfl (nI_1 _) (by decide) rfl (fun ls hl => ?_)
          refine lv_goto (tgt := 22) hx hb dX6_sumOf_40 (by decide) ?_
          exact ih22 (i + 1) (by omega) (by omega) _ _ hP hD hS _ (lv_sub hl [1, 2, 3, 0] rfl)
    exact K22 (104 - 0 + 1) 0 (by omega) (by omega) _ _ (by rw [mapN_0]; exact hP) (by rw [mapN_0]; exact hD) hS _ (lv_sub hl [3, 2, 1, 0] rfl)
  · refine lv_dconst0 hx hb dX6_sumOf_17 ?_
    exact hend _ _ _ _ _ _ dX6_sumOf_18 hP hD hS (by first | (simp only [mSum, mLn, c_14, ↓reduceIte]; done) | (simp [mSum, mLn, c_14]; done) | rfl) (by first | (simp only [mSum, mLn, c_14, ↓reduceIte]; done) | (simp [mSum, mLn, c_14]; done) | rfl)
