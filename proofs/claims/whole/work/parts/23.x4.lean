/-! the window -/
theorem vp_inN {n : Nat} {y : Int32} (hn : n < 2 ^ 31) (h0 : ¬ y < 0) (h1 : ¬ nI n ≤ y) : vp_in y n := by
  rcases pk_ix y (n := n) hn with h | h | ⟨j, hj, rfl⟩
  · exact absurd h h0
  · exact absurd h h1
  · exact vp_in_nI hj hn
theorem kpred1 {i : Nat} (h : 0 < i) : nI i - 1 = nI (i - 1) := by
  obtain ⟨j, rfl⟩ : ∃ j, i = j + 1 := ⟨i - 1, by omega⟩
  exact nI_pred j
def endF (s l u r d : Int32) : Int32 := if s = 0 then l else if s = 1 then u else if s = 2 then r else d
def colN2 (w h : Nat) (B : Nat → Int32) (x : Int32) : Nat → Nat → Bool
  | 0, _ => true
  | n + 1, y => if isOnB w h B x (nI y) = true then false else colN2 w h B x n (y + 1)
theorem colN2_s (w h : Nat) (B : Nat → Int32) (x : Int32) {y : Nat} (hy : y < h) : colN2 w h B x (h - y) y = if isOnB w h B x (nI y) = true then false else colN2 w h B x (h - (y + 1)) (y + 1) := by
  rw [show h - y = (h - (y + 1)) + 1 by omega]; rfl
def colE (w h : Nat) (B : Nat → Int32) (x : Int32) : Bool := colN2 w h B x h 0
def rowZ (B : Nat → Int32) (i : Nat) : Bool := if B i = 0 then true else false
def colZ (w h : Nat) (B : Nat → Int32) (i : Nat) : Bool := colE w h B (nI i)
def incN (emp : Nat → Bool) : Nat → Nat → Nat
  | 0, i => i
  | n + 1, i => if emp i = true then incN emp n (i + 1) else i
theorem incN_s (emp : Nat → Bool) {r i : Nat} (hi : i < r) : incN emp (r - i) i = if emp i = true then incN emp (r - (i + 1)) (i + 1) else i := by
  rw [show r - i = (r - (i + 1)) + 1 by omega]; rfl
theorem incN_in (emp : Nat → Bool) : ∀ n i : Nat, i ≤ incN emp n i ∧ incN emp n i ≤ i + n
  | 0, i => ⟨Nat.le_refl i, Nat.le_refl i⟩
  | n + 1, i => by
    have h := incN_in emp n (i + 1)
    unfold incN
    split
    · exact ⟨by omega, by omega⟩
    · exact ⟨Nat.le_refl i, by omega⟩
def decN (emp : Nat → Bool) : Nat → Nat → Nat
  | 0, i => i
  | n + 1, i => if emp (i - 1) = true then decN emp n (i - 1) else i
theorem decN_s (emp : Nat → Bool) {l i : Nat} (hi : l < i) : decN emp (i - l) i = if emp (i - 1) = true then decN emp (i - 1 - l) (i - 1) else i := by
  rw [show i - l = (i - 1 - l) + 1 by omega]; rfl
theorem decN_in (emp : Nat → Bool) : ∀ n i : Nat, n ≤ i → i - n ≤ decN emp n i ∧ decN emp n i ≤ i
  | 0, i, _ => ⟨Nat.le_refl _, Nat.le_refl i⟩
  | n + 1, i, hn => by
    have h := decN_in emp n (i - 1) (by omega)
    unfold decN
    split
    · exact ⟨by omega, by omega⟩
    · exact ⟨by omega, Nat.le_refl i⟩
def crL (w h : Nat) (B : Nat → Int32) (la ra : Nat) : Nat := incN (colZ w h B) (ra - la) la
def crU (B : Nat → Int32) (ua da : Nat) : Nat := incN (rowZ B) (da - ua) ua
def crR (w h : Nat) (B : Nat → Int32) (la ra : Nat) : Nat := decN (colZ w h B) (ra - la) ra
def crD (B : Nat → Int32) (ua da : Nat) : Nat := decN (rowZ B) (da - ua) da
def nwL (w h : Nat) (B : Nat → Int32) (s : Int32) (la ra : Nat) : Nat := if cntOn B h = 0 then la else if s = 0 then crL w h B la ra else la
def nwU (h : Nat) (B : Nat → Int32) (s : Int32) (ua da : Nat) : Nat := if cntOn B h = 0 then ua else if s = 0 then ua else if s = 1 then crU B ua da else ua
def nwR (w h : Nat) (B : Nat → Int32) (s : Int32) (la ra : Nat) : Nat := if cntOn B h = 0 then ra else if s = 0 then ra else if s = 1 then ra else if s = 2 then crR w h B la ra else ra
def nwD (h : Nat) (B : Nat → Int32) (s : Int32) (ua da : Nat) : Nat := if cntOn B h = 0 then da else if s = 0 then da else if s = 1 then da else if s = 2 then da else crD B ua da
def absI (x : Int32) : Int32 := if 0 ≤ x then x else 0 - x
def cropF (w h : Nat) (B : Nat → Int32) (s : Int32) (la ua ra da : Nat) : Int32 := if cntOn B h = 0 then 0 else absI (endF s (nI (nwL w h B s la ra)) (nI (nwU h B s ua da)) (nI (nwR w h B s la ra)) (nI (nwD h B s ua da)) - endF s (nI la) (nI ua) (nI ra) (nI da))
theorem in_kX4_open_X4 : ∀ w ∈ u_ws RX4 TX4 5, w ∈ wsX4_open := by decide +kernel
theorem fl_kX4_open_18 : Cond.fieldLink RX4 18 "SkewFind$Window" "left" "I" ∈ wsX4_open := by decide +kernel
theorem fl_kX4_open_22 : Cond.fieldLink RX4 22 "SkewFind$Window" "upper" "I" ∈ wsX4_open := by decide +kernel
theorem fl_kX4_open_9 : Cond.fieldLink RX4 9 "SkewFind$Window" "picture" "LSkewFind$Picture;" ∈ wsX4_open := by decide +kernel
theorem in_kX4_open_X0 : ∀ w ∈ u_ws RX0 TX0 6, w ∈ wsX4_open := by decide +kernel
theorem fl_kX4_open_25 : Cond.fieldLink RX4 25 "SkewFind$Picture" "width" "I" ∈ wsX4_open := by decide +kernel
theorem fl_kX4_open_30 : Cond.fieldLink RX4 30 "SkewFind$Window" "right" "I" ∈ wsX4_open := by decide +kernel
theorem fl_kX4_open_33 : Cond.fieldLink RX4 33 "SkewFind$Picture" "height" "I" ∈ wsX4_open := by decide +kernel
theorem fl_kX4_open_36 : Cond.fieldLink RX4 36 "SkewFind$Window" "lower" "I" ∈ wsX4_open := by decide +kernel
abbrev rmX4_open : Room := { frames := 0, cells := 0, slots := 0, locals := 0 }
set_option maxRecDepth 100000 in
set_option maxHeartbeats 4000000 in
theorem kX4_open (l : Launch) (G : va_G) (cI cZ cJ cD : ClassId) (v0 : Nat) (h0 q1 q2 w h : Nat) (hw : w ≤ 24) (hh : h ≤ 24) (B O : Nat → Int32) (fl fu fr fd : Int32) : Cv l G (kTy cI cZ cJ cD) yX4_open wsX4_open rmX4_open [.ref v0] [(v0, .inr (3, [.ref h0, .int fl, .int fu, .int fr, .int fd])), (h0, .inr (0, [.int (nI w), .int (nI h), .double (midF w), .double (midF h), .ref q1, .ref q2])), (q1, .inl (cI, 24, .inl B)), (q2, .inl (cI, 24, .inl O))] [(v0, .inr (3, [.ref h0, .int (nI 0), .int (nI 0), .int (nI w), .int (nI h)])), (h0, .inr (0, [.int (nI w), .int (nI h), .double (midF w), .double (midF h), .ref q1, .ref q2])), (q1, .inl (cI, 24, .inl B)), (q2, .inl (cI, 24, .inl O))] := by
  refine Cv.of rfl rfl (cc := cX4_open) (maxL := 1) (plainFor_of_name (by decide)) rfl (Nat.le_of_ble_eq_true rfl) rfl ?_
  intro p e s m args below meth c A Q hx hb hml hts hown hA hK hP hD hS hend ls hl
  refine lv_aload_n hx hb dX4_open_0 rfl (lv_at hl 0 rfl) ?_
  refine lv_iconst (v := 0) hx hb dX4_open_1 (by decide) ?_
  refine va_put (D := G) (ci := 3) (v := .int 0) (ty := .int) (C := RX4) (T := TX4) (N := 5) hx hb hts in_kX4_open_X4 tyX4 tyX4_ok nmX4 hown hK hP hD hS 0 rfl rfl 1 (by decide) (hts _ fl_kX4_open_18) (fun _ h9 => h9) rfl (by decide +kernel) rfl rfl (Nat.le_of_ble_eq_true rfl) dX4_open_2 (fun H locs (hP : va_P G vwCl [(v0, .inr (3, [.ref h0, .int 0, .int fu, .int fr, .int fd])), (h0, .inr (0, [.int (nI w), .int (nI h), .double (midF w), .double (midF h), .ref q1, .ref q2])), (q1, .inl (cI, 24, .inl B)), (q2, .inl (cI, 24, .inl O))] H) (hD : va_D A [(v0, .inr (3, [.ref h0, .int 0, .int fu, .int fr, .int fd])), (h0, .inr (0, [.int (nI w), .int (nI h), .double (midF w), .double (midF h), .ref q1, .ref q2])), (q1, .inl (cI, 24, .inl B)), (q2, .inl (cI, 24, .inl O))]) hS => ?_)
  refine lv_aload_n hx hb dX4_open_5 rfl (lv_at hl 0 rfl) ?_
  refine lv_iconst (v := 0) hx hb dX4_open_6 (by decide) ?_
  refine va_put (D := G) (ci := 3) (v := .int 0) (ty := .int) (C := RX4) (T := TX4) (N := 5) hx hb hts in_kX4_open_X4 tyX4 tyX4_ok nmX4 hown hK hP hD hS 0 rfl rfl 2 (by decide) (hts _ fl_kX4_open_22) (fun _ h9 => h9) rfl (by decide +kernel) rfl rfl (Nat.le_of_ble_eq_true rfl) dX4_open_7 (fun H locs (hP : va_P G vwCl [(v0, .inr (3, [.ref h0, .int 0, .int 0, .int fr, .int fd])), (h0, .inr (0, [.int (nI w), .int (nI h), .double (midF w), .double (midF h), .ref q1, .ref q2])), (q1, .inl (cI, 24, .inl B)), (q2, .inl (cI, 24, .inl O))] H) (hD : va_D A [(v0, .inr (3, [.ref h0, .int 0, .int 0, .int fr, .int fd])), (h0, .inr (0, [.int (nI w), .int (nI h), .double (midF w), .double (midF h), .ref q1, .ref q2])), (q1, .inl (cI, 24, .inl B)), (q2, .inl (cI, 24, .inl O))]) hS => ?_)
  refine lv_aload_n hx hb dX4_open_10 rfl (lv_at hl 0 rfl) ?_
  refine lv_aload_n hx hb dX4_open_11 rfl (lv_at hl 0 rfl) ?_
  refine va_get (D := G) (ci := 3) (v := .ref h0) (C := RX4) (T := TX4) (N := 5) hx hb hts in_kX4_open_X4 hown hK hP 0 rfl rfl 0 (by decide) (hts _ fl_kX4_open_9) (fun _ h9 => h9) rfl dX4_open_12 ?_
  refine va_get (D := G) (ci := 0) (v := .int (nI w)) (C := RX0) (T := TX0) (N := 6) hx hb hts in_kX4_open_X0 hown hK hP 1 rfl rfl 0 (by decide) (hts _ fl_kX4_open_25) (fun _ h9 => h9) rfl dX4_open_15 ?_
  refine va_put (D := G) (ci := 3) (v := .int (nI w)) (ty := .int) (C := RX4) (T := TX4) (N := 5) hx hb hts in_kX4_open_X4 tyX4 tyX4_ok nmX4 hown hK hP hD hS 0 rfl rfl 3 (by decide) (hts _ fl_kX4_open_30) (fun _ h9 => h9) rfl (by decide +kernel) rfl rfl (Nat.le_of_ble_eq_true rfl) dX4_open_18 (fun H locs (hP : va_P G vwCl [(v0, .inr (3, [.ref h0, .int 0, .int 0, .int (nI w), .int fd])), (h0, .inr (0, [.int (nI w), .int (nI h), .double (midF w), .double (midF h), .ref q1, .ref q2])), (q1, .inl (cI, 24, .inl B)), (q2, .inl (cI, 24, .inl O))] H) (hD : va_D A [(v0, .inr (3, [.ref h0, .int 0, .int 0, .int (nI w), .int fd])), (h0, .inr (0, [.int (nI w), .int (nI h), .double (midF w), .double (midF h), .ref q1, .ref q2])), (q1, .inl (cI, 24, .inl B)), (q2, .inl (cI, 24, .inl O))]) hS => ?_)
  refine lv_aload_n hx hb dX4_open_21 rfl (lv_at hl 0 rfl) ?_
  refine lv_aload_n hx hb dX4_open_22 rfl (lv_at hl 0 rfl) ?_
  refine va_get (D := G) (ci := 3) (v := .ref h0) (C := RX4) (T := TX4) (N := 5) hx hb hts in_kX4_open_X4 hown hK hP 0 rfl rfl 0 (by decide) (hts _ fl_kX4_open_9) (fun _ h9 => h9) rfl dX4_open_23 ?_
  refine va_get (D := G) (ci := 0) (v := .int (nI h)) (C := RX0) (T := TX0) (N := 6) hx hb hts in_kX4_open_X0 hown hK hP 1 rfl rfl 1 (by decide) (hts _ fl_kX4_open_33) (fun _ h9 => h9) rfl dX4_open_26 ?_
  refine va_put (D := G) (ci := 3) (v := .int (nI h)) (ty := .int) (C := RX4) (T := TX4) (N := 5) hx hb hts in_kX4_open_X4 tyX4 tyX4_ok nmX4 hown hK hP hD hS 0 rfl rfl 4 (by decide) (hts _ fl_kX4_open_36) (fun _ h9 => h9) rfl (by decide +kernel) rfl rfl (Nat.le_of_ble_eq_true rfl) dX4_open_29 (fun H locs (hP : va_P G vwCl [(v0, .inr (3, [.ref h0, .int 0, .int 0, .int (nI w), .int (nI h)])), (h0, .inr (0, [.int (nI w), .int (nI h), .double (midF w), .double (midF h), .ref q1, .ref q2])), (q1, .inl (cI, 24, .inl B)), (q2, .inl (cI, 24, .inl O))] H) (hD : va_D A [(v0, .inr (3, [.ref h0, .int 0, .int 0, .int (nI w), .int (nI h)])), (h0, .inr (0, [.int (nI w), .int (nI h), .double (midF w), .double (midF h), .ref q1, .ref q2])), (q1, .inl (cI, 24, .inl B)), (q2, .inl (cI, 24, .inl O))]) hS => ?_)
  exact hend _ _ _ _ _ dX4_open_32 hP hD hS rfl
theorem in_kX4_end_X4 : ∀ w ∈ u_ws RX4 TX4 5, w ∈ wsX4_end := by decide +kernel
theorem fl_kX4_end_18 : Cond.fieldLink RX4 18 "SkewFind$Window" "left" "I" ∈ wsX4_end := by decide +kernel
theorem fl_kX4_end_22 : Cond.fieldLink RX4 22 "SkewFind$Window" "upper" "I" ∈ wsX4_end := by decide +kernel
theorem fl_kX4_end_30 : Cond.fieldLink RX4 30 "SkewFind$Window" "right" "I" ∈ wsX4_end := by decide +kernel
theorem fl_kX4_end_36 : Cond.fieldLink RX4 36 "SkewFind$Window" "lower" "I" ∈ wsX4_end := by decide +kernel
abbrev rmX4_end : Room := { frames := 0, cells := 0, slots := 0, locals := 0 }
set_option maxRecDepth 100000 in
set_option maxHeartbeats 4000000 in
theorem kX4_end (l : Launch) (G : va_G) (cI cZ cJ cD : ClassId) (v0 : Nat) (h0 q1 q2 w h : Nat) (hw : w ≤ 24) (hh : h ≤ 24) (B O : Nat → Int32) (la ua ra da : Nat) (s0 : Int32) : Ci l G (kTy cI cZ cJ cD) yX4_end wsX4_end rmX4_end [.ref v0, .int s0] [(v0, .inr (3, [.ref h0, .int (nI la), .int (nI ua), .int (nI ra), .int (nI da)])), (h0, .inr (0, [.int (nI w), .int (nI h), .double (midF w), .double (midF h), .ref q1, .ref q2])), (q1, .inl (cI, 24, .inl B)), (q2, .inl (cI, 24, .inl O))] (endF s0 (nI la) (nI ua) (nI ra) (nI da)) [(v0, .inr (3, [.ref h0, .int (nI la), .int (nI ua), .int (nI ra), .int (nI da)])), (h0, .inr (0, [.int (nI w), .int (nI h), .double (midF w), .double (midF h), .ref q1, .ref q2])), (q1, .inl (cI, 24, .inl B)), (q2, .inl (cI, 24, .inl O))] := by
  refine Ci.of .int rfl rfl rfl (cc := cX4_end) (maxL := 2) (plainFor_of_name (by decide)) rfl (Nat.le_of_ble_eq_true rfl) rfl ?_
  intro p e s m args below meth c A Q hx hb hml hts hown hA hK hP hD hS hend ls hl
  refine lv_iload_n hx hb dX4_end_0 rfl (lv_at hl 1 rfl) ?_
  by_cases c_1_0 : s0 = 0
  · refine lv_tableIn (off := 27) (tgt := 28) hx hb dX4_end_1 (by rw [c_1_0]; decide) (by rw [c_1_0]; decide) (by rw [c_1_0]; rfl) (by decide) ?_
    refine lv_aload_n hx hb dX4_end_28 rfl (lv_at hl 0 rfl) ?_
    refine va_get (D := G) (ci := 3) (v := .int (nI la)) (C := RX4) (T := TX4) (N := 5) hx hb hts in_kX4_end_X4 hown hK hP 0 rfl rfl 1 (by decide) (hts _ fl_kX4_end_18) (fun _ h9 => h9) rfl dX4_end_29 ?_
    exact hend _ _ _ _ _ _ dX4_end_32 hP hD hS (by first | rfl | (simp only [endF, c_1_0, ↓reduceIte]; done) | (simp [endF, c_1_0]; done)) rfl
  by_cases c_1_1 : s0 = 1
  · refine lv_tableIn (off := 32) (tgt := 33) hx hb dX4_end_1 (by rw [c_1_1]; decide) (by rw [c_1_1]; decide) (by rw [c_1_1]; rfl) (by decide) ?_
    refine lv_aload_n hx hb dX4_end_33 rfl (lv_at hl 0 rfl) ?_
    refine va_get (D := G) (ci := 3) (v := .int (nI ua)) (C := RX4) (T := TX4) (N := 5) hx hb hts in_kX4_end_X4 hown hK hP 0 rfl rfl 2 (by decide) (hts _ fl_kX4_end_22) (fun _ h9 => h9) rfl dX4_end_34 ?_
    exact hend _ _ _ _ _ _ dX4_end_37 hP hD hS (by first | rfl | (simp only [endF, c_1_0, c_1_1, ↓reduceIte]; done) | (simp [endF, c_1_0, c_1_1]; done)) rfl
  by_cases c_1_2 : s0 = 2
  · refine lv_tableIn (off := 37) (tgt := 38) hx hb dX4_end_1 (by rw [c_1_2]; decide) (by rw [c_1_2]; decide) (by rw [c_1_2]; rfl) (by decide) ?_
    refine lv_aload_n hx hb dX4_end_38 rfl (lv_at hl 0 rfl) ?_
    refine va_get (D := G) (ci := 3) (v := .int (nI ra)) (C := RX4) (T := TX4) (N := 5) hx hb hts in_kX4_end_X4 hown hK hP 0 rfl rfl 3 (by decide) (hts _ fl_kX4_end_30) (fun _ h9 => h9) rfl dX4_end_39 ?_
    exact hend _ _ _ _ _ _ dX4_end_42 hP hD hS (by first | rfl | (simp only [endF, c_1_0, c_1_1, c_1_2, ↓reduceIte]; done) | (simp [endF, c_1_0, c_1_1, c_1_2]; done)) rfl
  refine lv_tableOut (tgt := 43) hx hb dX4_end_1 (kSw3 c_1_0 c_1_1 c_1_2) (by decide) ?_
  refine lv_aload_n hx hb dX4_end_43 rfl (lv_at hl 0 rfl) ?_
  refine va_get (D := G) (ci := 3) (v := .int (nI da)) (C := RX4) (T := TX4) (N := 5) hx hb hts in_kX4_end_X4 hown hK hP 0 rfl rfl 4 (by decide) (hts _ fl_kX4_end_36) (fun _ h9 => h9) rfl dX4_end_44 ?_
  exact hend _ _ _ _ _ _ dX4_end_47 hP hD hS (by first | rfl | (simp only [endF, c_1_0, c_1_1, c_1_2, ↓reduceIte]; done) | (simp [endF, c_1_0, c_1_1, c_1_2]; done)) rfl
theorem in_kX4_columnIsEmpty_X4 : ∀ w ∈ u_ws RX4 TX4 5, w ∈ wsX4_columnIsEmpty := by decide +kernel
theorem fl_kX4_columnIsEmpty_9 : Cond.fieldLink RX4 9 "SkewFind$Window" "picture" "LSkewFind$Picture;" ∈ wsX4_columnIsEmpty := by decide +kernel
theorem in_kX4_columnIsEmpty_X0 : ∀ w ∈ u_ws RX0 TX0 6, w ∈ wsX4_columnIsEmpty := by decide +kernel
theorem fl_kX4_columnIsEmpty_33 : Cond.fieldLink RX4 33 "SkewFind$Picture" "height" "I" ∈ wsX4_columnIsEmpty := by decide +kernel
abbrev rmX4_columnIsEmpty : Room := { frames := 2, cells := 0, slots := 0, locals := 44 }
set_option maxRecDepth 100000 in
set_option maxHeartbeats 4000000 in
theorem kX4_columnIsEmpty (l : Launch) (G : va_G) (cI cZ cJ cD : ClassId) (v0 : Nat) (h0 q1 q2 w h : Nat) (hw : w ≤ 24) (hh : h ≤ 24) (B O : Nat → Int32) (la ua ra da : Nat) (x : Int32) : Ci l G (kTy cI cZ cJ cD) yX4_columnIsEmpty wsX4_columnIsEmpty rmX4_columnIsEmpty [.ref v0, .int x] [(v0, .inr (3, [.ref h0, .int (nI la), .int (nI ua), .int (nI ra), .int (nI da)])), (h0, .inr (0, [.int (nI w), .int (nI h), .double (midF w), .double (midF h), .ref q1, .ref q2])), (q1, .inl (cI, 24, .inl B)), (q2, .inl (cI, 24, .inl O))] (b2i (colE w h B x)) [(v0, .inr (3, [.ref h0, .int (nI la), .int (nI ua), .int (nI ra), .int (nI da)])), (h0, .inr (0, [.int (nI w), .int (nI h), .double (midF w), .double (midF h), .ref q1, .ref q2])), (q1, .inl (cI, 24, .inl B)), (q2, .inl (cI, 24, .inl O))] := by
  refine Ci.of .boolean (nar_b2i _) rfl rfl (cc := cX4_columnIsEmpty) (maxL := 3) (plainFor_of_name (by decide)) rfl (Nat.le_of_ble_eq_true rfl) rfl ?_
  intro p e s m args below meth c A Q hx hb hml hts hown hA hK hP hD hS hend ls hl
  refine lv_iconst (v := 0) hx hb dX4_columnIsEmpty_0 (by decide) ?_
  refine lv_istore_n (lv' := [(2, .int 0), (0, .ref v0), (1, .int x)]) hx hb dX4_columnIsEmpty_1 rfl hl (by decide) rfl (fun ls hl => ?_)
  have K2 : ∀ (n2 : Nat) (y : Nat), h - y < n2 → (y ≤ h) → (colE w h B x = colN2 w h B x (h - y) y) → ∀ (H : Heap) (locs : List Loc), va_P G vwCl [(v0, .inr (3, [.ref h0, .int (nI la), .int (nI ua), .int (nI ra), .int (nI da)])), (h0, .inr (0, [.int (nI w), .int (nI h), .double (midF w), .double (midF h), .ref q1, .ref q2])), (q1, .inl (cI, 24, .inl B)), (q2, .inl (cI, 24, .inl O))] H → va_D A [(v0, .inr (3, [.ref h0, .int (nI la), .int (nI ua), .int (nI ra), .int (nI da)])), (h0, .inr (0, [.int (nI w), .int (nI h), .double (midF w), .double (midF h), .ref q1, .ref q2])), (q1, .inl (cI, 24, .inl B)), (q2, .inl (cI, 24, .inl O))] → va_S A s.heap H locs → ∀ ls : Array Slot, lv_has ls 3 [(0, .ref v0), (1, .int x), (2, .int (nI y))] → W p l e rmX4_columnIsEmpty s m args below meth c H locs 0 0 Q (F0 m 2 ls []) := by
    intro n2
    induction n2 with
    | zero => intro y hn; exact absurd hn (by omega)
    | succ n2 ih2 =>
      intro y hn2 hy hF H locs hP hD hS ls hl
      refine lv_iload_n hx hb dX4_columnIsEmpty_2 rfl (lv_at hl 2 rfl) ?_
      refine lv_aload_n hx hb dX4_columnIsEmpty_3 rfl (lv_at hl 0 rfl) ?_
      refine va_get (D := G) (ci := 3) (v := .ref h0) (C := RX4) (T := TX4) (N := 5) hx hb hts in_kX4_columnIsEmpty_X4 hown hK hP 0 rfl rfl 0 (by decide) (hts _ fl_kX4_columnIsEmpty_9) (fun _ h9 => h9) rfl dX4_columnIsEmpty_4 ?_
      refine va_get (D := G) (ci := 0) (v := .int (nI h)) (C := RX0) (T := TX0) (N := 6) hx hb hts in_kX4_columnIsEmpty_X0 hown hK hP 1 rfl rfl 1 (by decide) (hts _ fl_kX4_columnIsEmpty_33) (fun _ h9 => h9) rfl dX4_columnIsEmpty_7 ?_
      refine kGe (by omega) (by omega) (tgt := 33) hx hb dX4_columnIsEmpty_10 (by decide) (fun c_10 => ?_) (fun c_10 => ?_)
      · have e9 : h = y := by omega
        subst e9
        refine lv_iconst (v := 1) hx hb dX4_columnIsEmpty_33 (by decide) ?_
        exact hend _ _ _ _ _ _ dX4_columnIsEmpty_34 hP hD hS (by rw [hF, Nat.sub_self]; rfl) rfl
      · refine lv_aload_n hx hb dX4_columnIsEmpty_13 rfl (lv_at hl 0 rfl) ?_
        refine va_get (D := G) (ci := 3) (v := .ref h0) (C := RX4) (T := TX4) (N := 5) hx hb hts in_kX4_columnIsEmpty_X4 hown hK hP 0 rfl rfl 0 (by decide) (hts _ fl_kX4_columnIsEmpty_9) (fun _ h9 => h9) rfl dX4_columnIsEmpty_14 ?_
        refine lv_iload_n hx hb dX4_columnIsEmpty_17 rfl (lv_at hl 1 rfl) ?_
        refine lv_iload_n hx hb dX4_columnIsEmpty_18 rfl (lv_at hl 2 rfl) ?_
        refine kVi (w' := [(v0, .inr (3, [.ref h0, .int (nI la), .int (nI ua), .int (nI ra), .int (nI da)])), (h0, .inr (0, [.int (nI w), .int (nI h), .double (midF w), .double (midF h), .ref q1, .ref q2])), (q1, .inl (cI, 24, .inl B)), (q2, .inl (cI, 24, .inl O))]) (wr := [(v0, .inr (3, [.ref h0, .int (nI la), .int (nI ua), .int (nI ra), .int (nI da)]))]) (isC := [1, 2, 3]) (isR := [0]) (pm := [0, 1, 2, 3]) (rest := []) (kX0_isOn l G cI cZ cJ cD h0 q1 q2 w h hw hh B O x (nI y)) ⟨hx, hb, hml, hown, hts⟩ (cwV 2 hts gX4_columnIsEmpty_X0_isOn rfl rfl rfl hd_X0_isOn ⟨Nat.le_of_ble_eq_true rfl, Nat.le_of_ble_eq_true rfl⟩) hK hP hD hS hA ⟨rfl, rfl, rfl, by decide, rfl, rfl, rfl⟩ 0 1 rfl rfl rfl hl.1 rfl (Nat.le_of_ble_eq_true rfl) dX4_columnIsEmpty_19 ⟨Nat.le_of_ble_eq_true rfl, Nat.le_of_ble_eq_true rfl⟩ rfl rfl (fun H locs hP hD hS => ?_)
        refine kIfEqB (tgt := 27) hx hb dX4_columnIsEmpty_22 (by decide) (fun c_22 => ?_) (fun c_22 => ?_)
        · refine lv_iinc (v := nI (y + 1)) (lv' := [(2, .int (nI (y + 1))), (0, .ref v0), (1, .int x)]) hx hb dX4_columnIsEmpty_27 hl (k := 2) rfl (nI_1 _) (by decide) rfl (fun ls hl => ?_)
          refine lv_goto (tgt := 2) hx hb dX4_columnIsEmpty_30 (by decide) ?_
          exact ih2 (y + 1) (by omega) (by omega) (hF.trans ((colN2_s w h B x (by omega)).trans (if_neg (Bool.eq_false_iff.mp c_22)))) _ _ hP hD hS _ (lv_sub hl [1, 2, 0] rfl)
        · refine lv_iconst (v := 0) hx hb dX4_columnIsEmpty_25 (by decide) ?_
          exact hend _ _ _ _ _ _ dX4_columnIsEmpty_26 hP hD hS (by rw [hF, colN2_s w h B x (by omega), if_pos c_22]; rfl) rfl
  exact K2 (h - 0 + 1) 0 (by omega) (by omega) rfl _ _ hP hD hS _ (lv_sub hl [1, 2, 0] rfl)
theorem in_kX4_cropLeft_X4 : ∀ w ∈ u_ws RX4 TX4 5, w ∈ wsX4_cropLeft := by decide +kernel
theorem fl_kX4_cropLeft_18 : Cond.fieldLink RX4 18 "SkewFind$Window" "left" "I" ∈ wsX4_cropLeft := by decide +kernel
theorem fl_kX4_cropLeft_30 : Cond.fieldLink RX4 30 "SkewFind$Window" "right" "I" ∈ wsX4_cropLeft := by decide +kernel
abbrev rmX4_cropLeft : Room := { frames := 3, cells := 0, slots := 0, locals := 66 }
set_option maxRecDepth 100000 in
set_option maxHeartbeats 4000000 in
theorem kX4_cropLeft (l : Launch) (G : va_G) (cI cZ cJ cD : ClassId) (v0 : Nat) (h0 q1 q2 w h : Nat) (hw : w ≤ 24) (hh : h ≤ 24) (B O : Nat → Int32) (la ua ra da : Nat) (hlr : la ≤ ra) (hra : ra ≤ w) (hud : ua ≤ da) (hda : da ≤ h)  : Cv l G (kTy cI cZ cJ cD) yX4_cropLeft wsX4_cropLeft rmX4_cropLeft [.ref v0] [(v0, .inr (3, [.ref h0, .int (nI la), .int (nI ua), .int (nI ra), .int (nI da)])), (h0, .inr (0, [.int (nI w), .int (nI h), .double (midF w), .double (midF h), .ref q1, .ref q2])), (q1, .inl (cI, 24, .inl B)), (q2, .inl (cI, 24, .inl O))] [(v0, .inr (3, [.ref h0, .int (nI (crL w h B la ra)), .int (nI ua), .int (nI ra), .int (nI da)])), (h0, .inr (0, [.int (nI w), .int (nI h), .double (midF w), .double (midF h), .ref q1, .ref q2])), (q1, .inl (cI, 24, .inl B)), (q2, .inl (cI, 24, .inl O))] := by
  refine Cv.of rfl rfl (cc := cX4_cropLeft) (maxL := 1) (plainFor_of_name (by decide)) rfl (Nat.le_of_ble_eq_true rfl) rfl ?_
  intro p e s m args below meth c A Q hx hb hml hts hown hA hK hP hD hS hend ls hl
  have K0 : ∀ (n0 : Nat) (i : Nat), ra - i < n0 → (la ≤ i) → (i ≤ ra) → (crL w h B la ra = incN (colZ w h B) (ra - i) i) → ∀ (H : Heap) (locs : List Loc), va_P G vwCl [(v0, .inr (3, [.ref h0, .int (nI i), .int (nI ua), .int (nI ra), .int (nI da)])), (h0, .inr (0, [.int (nI w), .int (nI h), .double (midF w), .double (midF h), .ref q1, .ref q2])), (q1, .inl (cI, 24, .inl B)), (q2, .inl (cI, 24, .inl O))] H → va_D A [(v0, .inr (3, [.ref h0, .int (nI i), .int (nI ua), .int (nI ra), .int (nI da)])), (h0, .inr (0, [.int (nI w), .int (nI h), .double (midF w), .double (midF h), .ref q1, .ref q2])), (q1, .inl (cI, 24, .inl B)), (q2, .inl (cI, 24, .inl O))] → va_S A s.heap H locs → ∀ ls : Array Slot, lv_has ls 1 [(0, .ref v0)] → W p l e rmX4_cropLeft s m args below meth c H locs 0 0 Q (F0 m 0 ls []) := by
    intro n0
    induction n0 with
    | zero => intro i hn; exact absurd hn (by omega)
    | succ n0 ih0 =>
      intro i hn0 hi0 hi hF H locs hP hD hS ls hl
      refine lv_aload_n hx hb dX4_cropLeft_0 rfl (lv_at hl 0 rfl) ?_
      refine va_get (D := G) (ci := 3) (v := .int (nI i)) (C := RX4) (T := TX4) (N := 5) hx hb hts in_kX4_cropLeft_X4 hown hK hP 0 rfl rfl 1 (by decide) (hts _ fl_kX4_cropLeft_18) (fun _ h9 => h9) rfl dX4_cropLeft_1 ?_
      refine lv_aload_n hx hb dX4_cropLeft_4 rfl (lv_at hl 0 rfl) ?_
      refine va_get (D := G) (ci := 3) (v := .int (nI ra)) (C := RX4) (T := TX4) (N := 5) hx hb hts in_kX4_cropLeft_X4 hown hK hP 0 rfl rfl 3 (by decide) (hts _ fl_kX4_cropLeft_30) (fun _ h9 => h9) rfl dX4_cropLeft_5 ?_
      refine kGe (by omega) (by omega) (tgt := 35) hx hb dX4_cropLeft_8 (by decide) (fun c_8 => ?_) (fun c_8 => ?_)
      · exact hend _ _ _ _ _ dX4_cropLeft_35 hP hD hS (by rw [hF, show ra - i = 0 by omega]; rfl)
      · refine lv_aload_n hx hb dX4_cropLeft_11 rfl (lv_at hl 0 rfl) ?_
        refine lv_aload_n hx hb dX4_cropLeft_12 rfl (lv_at hl 0 rfl) ?_
        refine va_get (D := G) (ci := 3) (v := .int (nI i)) (C := RX4) (T := TX4) (N := 5) hx hb hts in_kX4_cropLeft_X4 hown hK hP 0 rfl rfl 1 (by decide) (hts _ fl_kX4_cropLeft_18) (fun _ h9 => h9) rfl dX4_cropLeft_13 ?_
        refine kVi (w' := [(v0, .inr (3, [.ref h0, .int (nI i), .int (nI ua), .int (nI ra), .int (nI da)])), (h0, .inr (0, [.int (nI w), .int (nI h), .double (midF w), .double (midF h), .ref q1, .ref q2])), (q1, .inl (cI, 24, .inl B)), (q2, .inl (cI, 24, .inl O))]) (wr := []) (isC := [0, 1, 2, 3]) (isR := []) (pm := [0, 1, 2, 3]) (rest := []) (kX4_columnIsEmpty l G cI cZ cJ cD v0 h0 q1 q2 w h hw hh B O i ua ra da (nI i)) ⟨hx, hb, hml, hown, hts⟩ (cwV 1 hts gX4_cropLeft_X4_columnIsEmpty rfl rfl rfl hd_X4_columnIsEmpty ⟨Nat.le_of_ble_eq_true rfl, Nat.le_of_ble_eq_true rfl⟩) hK hP hD hS hA ⟨rfl, rfl, rfl, by decide, rfl, rfl, rfl⟩ 3 0 rfl rfl rfl hl.1 rfl (Nat.le_of_ble_eq_true rfl) dX4_cropLeft_16 ⟨Nat.le_of_ble_eq_true rfl, Nat.le_of_ble_eq_true rfl⟩ rfl rfl (fun H locs hP hD hS => ?_)
        refine kIfEqB (tgt := 35) hx hb dX4_cropLeft_19 (by decide) (fun c_19 => ?_) (fun c_19 => ?_)
        · exact hend _ _ _ _ _ dX4_cropLeft_35 hP hD hS (by rw [hF, incN_s _ (by omega), if_neg (show ¬ colZ w h B i = true from Bool.eq_false_iff.mp c_19)])
        · refine lv_aload_n hx hb dX4_cropLeft_22 rfl (lv_at hl 0 rfl) ?_
          refine lv_dup hx hb dX4_cropLeft_23 rfl ?_
          refine va_get (D := G) (ci := 3) (v := .int (nI i)) (C := RX4) (T := TX4) (N := 5) hx hb hts in_kX4_cropLeft_X4 hown hK hP 0 rfl rfl 1 (by decide) (hts _ fl_kX4_cropLeft_18) (fun _ h9 => h9) rfl dX4_cropLeft_24 ?_
          refine lv_iconst (v := 1) hx hb dX4_cropLeft_27 (by decide) ?_
          refine lv_iadd hx hb dX4_cropLeft_28 ?_
          refine kTopI (z := nI (i + 1)) (nI_1 _) ?_
          refine va_put (D := G) (ci := 3) (v := .int (nI (i + 1))) (ty := .int) (C := RX4) (T := TX4) (N := 5) hx hb hts in_kX4_cropLeft_X4 tyX4 tyX4_ok nmX4 hown hK hP hD hS 0 rfl rfl 1 (by decide) (hts _ fl_kX4_cropLeft_18) (fun _ h9 => h9) rfl (by decide +kernel) rfl rfl (Nat.le_of_ble_eq_true rfl) dX4_cropLeft_29 (fun H locs (hP : va_P G vwCl [(v0, .inr (3, [.ref h0, .int (nI (i + 1)), .int (nI ua), .int (nI ra), .int (nI da)])), (h0, .inr (0, [.int (nI w), .int (nI h), .double (midF w), .double (midF h), .ref q1, .ref q2])), (q1, .inl (cI, 24, .inl B)), (q2, .inl (cI, 24, .inl O))] H) (hD : va_D A [(v0, .inr (3, [.ref h0, .int (nI (i + 1)), .int (nI ua), .int (nI ra), .int (nI da)])), (h0, .inr (0, [.int (nI w), .int (nI h), .double (midF w), .double (midF h), .ref q1, .ref q2])), (q1, .inl (cI, 24, .inl B)), (q2, .inl (cI, 24, .inl O))]) hS => ?_)
          refine lv_goto (tgt := 0) hx hb dX4_cropLeft_32 (by decide) ?_
          exact ih0 (i + 1) (by omega) (by omega) (by omega) (hF.trans ((incN_s _ (by omega)).trans (if_pos c_19))) _ _ hP hD hS _ (lv_sub hl [0] rfl)
  exact K0 (ra - la + 1) la (by omega) (by omega) (by omega) rfl _ _ hP hD hS _ (lv_sub hl [0] rfl)
theorem in_kX4_cropUpper_X4 : ∀ w ∈ u_ws RX4 TX4 5, w ∈ wsX4_cropUpper := by decide +kernel
theorem fl_kX4_cropUpper_22 : Cond.fieldLink RX4 22 "SkewFind$Window" "upper" "I" ∈ wsX4_cropUpper := by decide +kernel
theorem fl_kX4_cropUpper_36 : Cond.fieldLink RX4 36 "SkewFind$Window" "lower" "I" ∈ wsX4_cropUpper := by decide +kernel
theorem fl_kX4_cropUpper_9 : Cond.fieldLink RX4 9 "SkewFind$Window" "picture" "LSkewFind$Picture;" ∈ wsX4_cropUpper := by decide +kernel
abbrev rmX4_cropUpper : Room := { frames := 1, cells := 0, slots := 0, locals := 21 }
set_option maxRecDepth 100000 in
set_option maxHeartbeats 4000000 in
theorem kX4_cropUpper (l : Launch) (G : va_G) (cI cZ cJ cD : ClassId) (v0 : Nat) (h0 q1 q2 w h : Nat) (hw : w ≤ 24) (hh : h ≤ 24) (B O : Nat → Int32) (la ua ra da : Nat) (hlr : la ≤ ra) (hra : ra ≤ w) (hud : ua ≤ da) (hda : da ≤ h)  : Cv l G (kTy cI cZ cJ cD) yX4_cropUpper wsX4_cropUpper rmX4_cropUpper [.ref v0] [(v0, .inr (3, [.ref h0, .int (nI la), .int (nI ua), .int (nI ra), .int (nI da)])), (h0, .inr (0, [.int (nI w), .int (nI h), .double (midF w), .double (midF h), .ref q1, .ref q2])), (q1, .inl (cI, 24, .inl B)), (q2, .inl (cI, 24, .inl O))] [(v0, .inr (3, [.ref h0, .int (nI la), .int (nI (crU B ua da)), .int (nI ra), .int (nI da)])), (h0, .inr (0, [.int (nI w), .int (nI h), .double (midF w), .double (midF h), .ref q1, .ref q2])), (q1, .inl (cI, 24, .inl B)), (q2, .inl (cI, 24, .inl O))] := by
  refine Cv.of rfl rfl (cc := cX4_cropUpper) (maxL := 1) (plainFor_of_name (by decide)) rfl (Nat.le_of_ble_eq_true rfl) rfl ?_
  intro p e s m args below meth c A Q hx hb hml hts hown hA hK hP hD hS hend ls hl
  have K0 : ∀ (n0 : Nat) (i : Nat), da - i < n0 → (ua ≤ i) → (i ≤ da) → (crU B ua da = incN (rowZ B) (da - i) i) → ∀ (H : Heap) (locs : List Loc), va_P G vwCl [(v0, .inr (3, [.ref h0, .int (nI la), .int (nI i), .int (nI ra), .int (nI da)])), (h0, .inr (0, [.int (nI w), .int (nI h), .double (midF w), .double (midF h), .ref q1, .ref q2])), (q1, .inl (cI, 24, .inl B)), (q2, .inl (cI, 24, .inl O))] H → va_D A [(v0, .inr (3, [.ref h0, .int (nI la), .int (nI i), .int (nI ra), .int (nI da)])), (h0, .inr (0, [.int (nI w), .int (nI h), .double (midF w), .double (midF h), .ref q1, .ref q2])), (q1, .inl (cI, 24, .inl B)), (q2, .inl (cI, 24, .inl O))] → va_S A s.heap H locs → ∀ ls : Array Slot, lv_has ls 1 [(0, .ref v0)] → W p l e rmX4_cropUpper s m args below meth c H locs 0 0 Q (F0 m 0 ls []) := by
    intro n0
    induction n0 with
    | zero => intro i hn; exact absurd hn (by omega)
    | succ n0 ih0 =>
      intro i hn0 hi0 hi hF H locs hP hD hS ls hl
      refine lv_aload_n hx hb dX4_cropUpper_0 rfl (lv_at hl 0 rfl) ?_
      refine va_get (D := G) (ci := 3) (v := .int (nI i)) (C := RX4) (T := TX4) (N := 5) hx hb hts in_kX4_cropUpper_X4 hown hK hP 0 rfl rfl 2 (by decide) (hts _ fl_kX4_cropUpper_22) (fun _ h9 => h9) rfl dX4_cropUpper_1 ?_
      refine lv_aload_n hx hb dX4_cropUpper_4 rfl (lv_at hl 0 rfl) ?_
      refine va_get (D := G) (ci := 3) (v := .int (nI da)) (C := RX4) (T := TX4) (N := 5) hx hb hts in_kX4_cropUpper_X4 hown hK hP 0 rfl rfl 4 (by decide) (hts _ fl_kX4_cropUpper_36) (fun _ h9 => h9) rfl dX4_cropUpper_5 ?_
      refine kGe (by omega) (by omega) (tgt := 38) hx hb dX4_cropUpper_8 (by decide) (fun c_8 => ?_) (fun c_8 => ?_)
      · exact hend _ _ _ _ _ dX4_cropUpper_38 hP hD hS (by rw [hF, show da - i = 0 by omega]; rfl)
      · refine lv_aload_n hx hb dX4_cropUpper_11 rfl (lv_at hl 0 rfl) ?_
        refine va_get (D := G) (ci := 3) (v := .ref h0) (C := RX4) (T := TX4) (N := 5) hx hb hts in_kX4_cropUpper_X4 hown hK hP 0 rfl rfl 0 (by decide) (hts _ fl_kX4_cropUpper_9) (fun _ h9 => h9) rfl dX4_cropUpper_12 ?_
        refine lv_aload_n hx hb dX4_cropUpper_15 rfl (lv_at hl 0 rfl) ?_
        refine va_get (D := G) (ci := 3) (v := .int (nI i)) (C := RX4) (T := TX4) (N := 5) hx hb hts in_kX4_cropUpper_X4 hown hK hP 0 rfl rfl 2 (by decide) (hts _ fl_kX4_cropUpper_22) (fun _ h9 => h9) rfl dX4_cropUpper_16 ?_
        refine kVi (w' := [(v0, .inr (3, [.ref h0, .int (nI la), .int (nI i), .int (nI ra), .int (nI da)])), (h0, .inr (0, [.int (nI w), .int (nI h), .double (midF w), .double (midF h), .ref q1, .ref q2])), (q1, .inl (cI, 24, .inl B)), (q2, .inl (cI, 24, .inl O))]) (wr := [(v0, .inr (3, [.ref h0, .int (nI la), .int (nI i), .int (nI ra), .int (nI da)]))]) (isC := [1, 2, 3]) (isR := [0]) (pm := [0, 1, 2, 3]) (rest := []) (kX0_rowBits l G cI cZ cJ cD h0 q1 q2 w h hw hh B O (nI i)) ⟨hx, hb, hml, hown, hts⟩ (cwV 1 hts gX4_cropUpper_X0_rowBits rfl rfl rfl hd_X0_rowBits ⟨Nat.le_of_ble_eq_true rfl, Nat.le_of_ble_eq_true rfl⟩) hK hP hD hS hA ⟨rfl, rfl, rfl, by decide, rfl, rfl, rfl⟩ 0 1 rfl rfl rfl hl.1 rfl (Nat.le_of_ble_eq_true rfl) dX4_cropUpper_19 ⟨Nat.le_of_ble_eq_true rfl, Nat.le_of_ble_eq_true rfl⟩ rfl rfl (fun H locs hP hD hS => ?_)
        refine kTopI (z := B i) (rowF_nI _ (by omega)) ?_
        refine lv_if_ne (tgt := 38) hx hb dX4_cropUpper_22 (by decide) (fun c_22 => ?_) (fun c_22 => ?_)
        · exact hend _ _ _ _ _ dX4_cropUpper_38 hP hD hS (by rw [hF, incN_s _ (by omega), if_neg (by simp [rowZ, c_22])])
        · refine lv_aload_n hx hb dX4_cropUpper_25 rfl (lv_at hl 0 rfl) ?_
          refine lv_dup hx hb dX4_cropUpper_26 rfl ?_
          refine va_get (D := G) (ci := 3) (v := .int (nI i)) (C := RX4) (T := TX4) (N := 5) hx hb hts in_kX4_cropUpper_X4 hown hK hP 0 rfl rfl 2 (by decide) (hts _ fl_kX4_cropUpper_22) (fun _ h9 => h9) rfl dX4_cropUpper_27 ?_
          refine lv_iconst (v := 1) hx hb dX4_cropUpper_30 (by decide) ?_
          refine lv_iadd hx hb dX4_cropUpper_31 ?_
          refine kTopI (z := nI (i + 1)) (nI_1 _) ?_
          refine va_put (D := G) (ci := 3) (v := .int (nI (i + 1))) (ty := .int) (C := RX4) (T := TX4) (N := 5) hx hb hts in_kX4_cropUpper_X4 tyX4 tyX4_ok nmX4 hown hK hP hD hS 0 rfl rfl 2 (by decide) (hts _ fl_kX4_cropUpper_22) (fun _ h9 => h9) rfl (by decide +kernel) rfl rfl (Nat.le_of_ble_eq_true rfl) dX4_cropUpper_32 (fun H locs (hP : va_P G vwCl [(v0, .inr (3, [.ref h0, .int (nI la), .int (nI (i + 1)), .int (nI ra), .int (nI da)])), (h0, .inr (0, [.int (nI w), .int (nI h), .double (midF w), .double (midF h), .ref q1, .ref q2])), (q1, .inl (cI, 24, .inl B)), (q2, .inl (cI, 24, .inl O))] H) (hD : va_D A [(v0, .inr (3, [.ref h0, .int (nI la), .int (nI (i + 1)), .int (nI ra), .int (nI da)])), (h0, .inr (0, [.int (nI w), .int (nI h), .double (midF w), .double (midF h), .ref q1, .ref q2])), (q1, .inl (cI, 24, .inl B)), (q2, .inl (cI, 24, .inl O))]) hS => ?_)
          refine lv_goto (tgt := 0) hx hb dX4_cropUpper_35 (by decide) ?_
          exact ih0 (i + 1) (by omega) (by omega) (by omega) (hF.trans ((incN_s _ (by omega)).trans (if_pos (by simp [rowZ, c_22])))) _ _ hP hD hS _ (lv_sub hl [0] rfl)
  exact K0 (da - ua + 1) ua (by omega) (by omega) (by omega) rfl _ _ hP hD hS _ (lv_sub hl [0] rfl)
theorem in_kX4_cropRight_X4 : ∀ w ∈ u_ws RX4 TX4 5, w ∈ wsX4_cropRight := by decide +kernel
theorem fl_kX4_cropRight_30 : Cond.fieldLink RX4 30 "SkewFind$Window" "right" "I" ∈ wsX4_cropRight := by decide +kernel
theorem fl_kX4_cropRight_18 : Cond.fieldLink RX4 18 "SkewFind$Window" "left" "I" ∈ wsX4_cropRight := by decide +kernel
abbrev rmX4_cropRight : Room := { frames := 3, cells := 0, slots := 0, locals := 66 }
set_option maxRecDepth 100000 in
set_option maxHeartbeats 4000000 in
theorem kX4_cropRight (l : Launch) (G : va_G) (cI cZ cJ cD : ClassId) (v0 : Nat) (h0 q1 q2 w h : Nat) (hw : w ≤ 24) (hh : h ≤ 24) (B O : Nat → Int32) (la ua ra da : Nat) (hlr : la ≤ ra) (hra : ra ≤ w) (hud : ua ≤ da) (hda : da ≤ h)  : Cv l G (kTy cI cZ cJ cD) yX4_cropRight wsX4_cropRight rmX4_cropRight [.ref v0] [(v0, .inr (3, [.ref h0, .int (nI la), .int (nI ua), .int (nI ra), .int (nI da)])), (h0, .inr (0, [.int (nI w), .int (nI h), .double (midF w), .double (midF h), .ref q1, .ref q2])), (q1, .inl (cI, 24, .inl B)), (q2, .inl (cI, 24, .inl O))] [(v0, .inr (3, [.ref h0, .int (nI la), .int (nI ua), .int (nI (crR w h B la ra)), .int (nI da)])), (h0, .inr (0, [.int (nI w), .int (nI h), .double (midF w), .double (midF h), .ref q1, .ref q2])), (q1, .inl (cI, 24, .inl B)), (q2, .inl (cI, 24, .inl O))] := by
  refine Cv.of rfl rfl (cc := cX4_cropRight) (maxL := 1) (plainFor_of_name (by decide)) rfl (Nat.le_of_ble_eq_true rfl) rfl ?_
  intro p e s m args below meth c A Q hx hb hml hts hown hA hK hP hD hS hend ls hl
  have K0 : ∀ (n0 : Nat) (i : Nat), i - la < n0 → (la ≤ i) → (i ≤ ra) → (crR w h B la ra = decN (colZ w h B) (i - la) i) → ∀ (H : Heap) (locs : List Loc), va_P G vwCl [(v0, .inr (3, [.ref h0, .int (nI la), .int (nI ua), .int (nI i), .int (nI da)])), (h0, .inr (0, [.int (nI w), .int (nI h), .double (midF w), .double (midF h), .ref q1, .ref q2])), (q1, .inl (cI, 24, .inl B)), (q2, .inl (cI, 24, .inl O))] H → va_D A [(v0, .inr (3, [.ref h0, .int (nI la), .int (nI ua), .int (nI i), .int (nI da)])), (h0, .inr (0, [.int (nI w), .int (nI h), .double (midF w), .double (midF h), .ref q1, .ref q2])), (q1, .inl (cI, 24, .inl B)), (q2, .inl (cI, 24, .inl O))] → va_S A s.heap H locs → ∀ ls : Array Slot, lv_has ls 1 [(0, .ref v0)] → W p l e rmX4_cropRight s m args below meth c H locs 0 0 Q (F0 m 0 ls []) := by
    intro n0
    induction n0 with
    | zero => intro i hn; exact absurd hn (by omega)
    | succ n0 ih0 =>
      intro i hn0 hi0 hi hF H locs hP hD hS ls hl
      refine lv_aload_n hx hb dX4_cropRight_0 rfl (lv_at hl 0 rfl) ?_
      refine va_get (D := G) (ci := 3) (v := .int (nI i)) (C := RX4) (T := TX4) (N := 5) hx hb hts in_kX4_cropRight_X4 hown hK hP 0 rfl rfl 3 (by decide) (hts _ fl_kX4_cropRight_30) (fun _ h9 => h9) rfl dX4_cropRight_1 ?_
      refine lv_aload_n hx hb dX4_cropRight_4 rfl (lv_at hl 0 rfl) ?_
      refine va_get (D := G) (ci := 3) (v := .int (nI la)) (C := RX4) (T := TX4) (N := 5) hx hb hts in_kX4_cropRight_X4 hown hK hP 0 rfl rfl 1 (by decide) (hts _ fl_kX4_cropRight_18) (fun _ h9 => h9) rfl dX4_cropRight_5 ?_
      refine lv_icmp_le (tgt := 37) hx hb dX4_cropRight_8 (by decide) (fun c_8 => ?_) (fun c_8 => ?_)
      · have c_8 := (nI_leI (by omega) (by omega)).mp c_8
        exact hend _ _ _ _ _ dX4_cropRight_37 hP hD hS (by rw [hF, show i - la = 0 by omega]; rfl)
      · have c_8 : la < i := Nat.lt_of_not_le fun q => c_8 ((nI_leI (by omega) (by omega)).mpr q)
        refine lv_aload_n hx hb dX4_cropRight_11 rfl (lv_at hl 0 rfl) ?_
        refine lv_aload_n hx hb dX4_cropRight_12 rfl (lv_at hl 0 rfl) ?_
        refine va_get (D := G) (ci := 3) (v := .int (nI i)) (C := RX4) (T := TX4) (N := 5) hx hb hts in_kX4_cropRight_X4 hown hK hP 0 rfl rfl 3 (by decide) (hts _ fl_kX4_cropRight_30) (fun _ h9 => h9) rfl dX4_cropRight_13 ?_
        refine lv_iconst (v := 1) hx hb dX4_cropRight_16 (by decide) ?_
        refine lv_isub hx hb dX4_cropRight_17 ?_
        refine kTopI (z := nI (i - 1)) (kpred1 (by omega)) ?_
        refine kVi (w' := [(v0, .inr (3, [.ref h0, .int (nI la), .int (nI ua), .int (nI i), .int (nI da)])), (h0, .inr (0, [.int (nI w), .int (nI h), .double (midF w), .double (midF h), .ref q1, .ref q2])), (q1, .inl (cI, 24, .inl B)), (q2, .inl (cI, 24, .inl O))]) (wr := []) (isC := [0, 1, 2, 3]) (isR := []) (pm := [0, 1, 2, 3]) (rest := []) (kX4_columnIsEmpty l G cI cZ cJ cD v0 h0 q1 q2 w h hw hh B O la ua i da (nI (i - 1))) ⟨hx, hb, hml, hown, hts⟩ (cwV 1 hts gX4_cropRight_X4_columnIsEmpty rfl rfl rfl hd_X4_columnIsEmpty ⟨Nat.le_of_ble_eq_true rfl, Nat.le_of_ble_eq_true rfl⟩) hK hP hD hS hA ⟨rfl, rfl, rfl, by decide, rfl, rfl, rfl⟩ 3 0 rfl rfl rfl hl.1 rfl (Nat.le_of_ble_eq_true rfl) dX4_cropRight_18 ⟨Nat.le_of_ble_eq_true rfl, Nat.le_of_ble_eq_true rfl⟩ rfl rfl (fun H locs hP hD hS => ?_)
        refine kIfEqB (tgt := 37) hx hb dX4_cropRight_21 (by decide) (fun c_21 => ?_) (fun c_21 => ?_)
        · exact hend _ _ _ _ _ dX4_cropRight_37 hP hD hS (by rw [hF, decN_s _ (by omega), if_neg (show ¬ colZ w h B (i - 1) = true from Bool.eq_false_iff.mp c_21)])
        · refine lv_aload_n hx hb dX4_cropRight_24 rfl (lv_at hl 0 rfl) ?_
          refine lv_dup hx hb dX4_cropRight_25 rfl ?_
          refine va_get (D := G) (ci := 3) (v := .int (nI i)) (C := RX4) (T := TX4) (N := 5) hx hb hts in_kX4_cropRight_X4 hown hK hP 0 rfl rfl 3 (by decide) (hts _ fl_kX4_cropRight_30) (fun _ h9 => h9) rfl dX4_cropRight_26 ?_
          refine lv_iconst (v := 1) hx hb dX4_cropRight_29 (by decide) ?_
          refine lv_isub hx hb dX4_cropRight_30 ?_
          refine kTopI (z := nI (i - 1)) (kpred1 (by omega)) ?_
          refine va_put (D := G) (ci := 3) (v := .int (nI (i - 1))) (ty := .int) (C := RX4) (T := TX4) (N := 5) hx hb hts in_kX4_cropRight_X4 tyX4 tyX4_ok nmX4 hown hK hP hD hS 0 rfl rfl 3 (by decide) (hts _ fl_kX4_cropRight_30) (fun _ h9 => h9) rfl (by decide +kernel) rfl rfl (Nat.le_of_ble_eq_true rfl) dX4_cropRight_31 (fun H locs (hP : va_P G vwCl [(v0, .inr (3, [.ref h0, .int (nI la), .int (nI ua), .int (nI (i - 1)), .int (nI da)])), (h0, .inr (0, [.int (nI w), .int (nI h), .double (midF w), .double (midF h), .ref q1, .ref q2])), (q1, .inl (cI, 24, .inl B)), (q2, .inl (cI, 24, .inl O))] H) (hD : va_D A [(v0, .inr (3, [.ref h0, .int (nI la), .int (nI ua), .int (nI (i - 1)), .int (nI da)])), (h0, .inr (0, [.int (nI w), .int (nI h), .double (midF w), .double (midF h), .ref q1, .ref q2])), (q1, .inl (cI, 24, .inl B)), (q2, .inl (cI, 24, .inl O))]) hS => ?_)
          refine lv_goto (tgt := 0) hx hb dX4_cropRight_34 (by decide) ?_
          exact ih0 (i - 1) (by omega) (by omega) (by omega) (hF.trans ((decN_s _ (by omega)).trans (if_pos c_21))) _ _ hP hD hS _ (lv_sub hl [0] rfl)
  exact K0 (ra - la + 1) ra (by omega) (by omega) (by omega) rfl _ _ hP hD hS _ (lv_sub hl [0] rfl)
theorem in_kX4_cropLower_X4 : ∀ w ∈ u_ws RX4 TX4 5, w ∈ wsX4_cropLower := by decide +kernel
theorem fl_kX4_cropLower_36 : Cond.fieldLink RX4 36 "SkewFind$Window" "lower" "I" ∈ wsX4_cropLower := by decide +kernel
theorem fl_kX4_cropLower_22 : Cond.fieldLink RX4 22 "SkewFind$Window" "upper" "I" ∈ wsX4_cropLower := by decide +kernel
theorem fl_kX4_cropLower_9 : Cond.fieldLink RX4 9 "SkewFind$Window" "picture" "LSkewFind$Picture;" ∈ wsX4_cropLower := by decide +kernel
abbrev rmX4_cropLower : Room := { frames := 1, cells := 0, slots := 0, locals := 21 }
set_option maxRecDepth 100000 in
set_option maxHeartbeats 4000000 in
theorem kX4_cropLower (l : Launch) (G : va_G) (cI cZ cJ cD : ClassId) (v0 : Nat) (h0 q1 q2 w h : Nat) (hw : w ≤ 24) (hh : h ≤ 24) (B O : Nat → Int32) (la ua ra da : Nat) (hlr : la ≤ ra) (hra : ra ≤ w) (hud : ua ≤ da) (hda : da ≤ h)  : Cv l G (kTy cI cZ cJ cD) yX4_cropLower wsX4_cropLower rmX4_cropLower [.ref v0] [(v0, .inr (3, [.ref h0, .int (nI la), .int (nI ua), .int (nI ra), .int (nI da)])), (h0, .inr (0, [.int (nI w), .int (nI h), .double (midF w), .double (midF h), .ref q1, .ref q2])), (q1, .inl (cI, 24, .inl B)), (q2, .inl (cI, 24, .inl O))] [(v0, .inr (3, [.ref h0, .int (nI la), .int (nI ua), .int (nI ra), .int (nI (crD B ua da))])), (h0, .inr (0, [.int (nI w), .int (nI h), .double (midF w), .double (midF h), .ref q1, .ref q2])), (q1, .inl (cI, 24, .inl B)), (q2, .inl (cI, 24, .inl O))] := by
  refine Cv.of rfl rfl (cc := cX4_cropLower) (maxL := 1) (plainFor_of_name (by decide)) rfl (Nat.le_of_ble_eq_true rfl) rfl ?_
  intro p e s m args below meth c A Q hx hb hml hts hown hA hK hP hD hS hend ls hl
  have K0 : ∀ (n0 : Nat) (i : Nat), i - ua < n0 → (ua ≤ i) → (i ≤ da) → (crD B ua da = decN (rowZ B) (i - ua) i) → ∀ (H : Heap) (locs : List Loc), va_P G vwCl [(v0, .inr (3, [.ref h0, .int (nI la), .int (nI ua), .int (nI ra), .int (nI i)])), (h0, .inr (0, [.int (nI w), .int (nI h), .double (midF w), .double (midF h), .ref q1, .ref q2])), (q1, .inl (cI, 24, .inl B)), (q2, .inl (cI, 24, .inl O))] H → va_D A [(v0, .inr (3, [.ref h0, .int (nI la), .int (nI ua), .int (nI ra), .int (nI i)])), (h0, .inr (0, [.int (nI w), .int (nI h), .double (midF w), .double (midF h), .ref q1, .ref q2])), (q1, .inl (cI, 24, .inl B)), (q2, .inl (cI, 24, .inl O))] → va_S A s.heap H locs → ∀ ls : Array Slot, lv_has ls 1 [(0, .ref v0)] → W p l e rmX4_cropLower s m args below meth c H locs 0 0 Q (F0 m 0 ls []) := by
    intro n0
    induction n0 with
    | zero => intro i hn; exact absurd hn (by omega)
    | succ n0 ih0 =>
      intro i hn0 hi0 hi hF H locs hP hD hS ls hl
      refine lv_aload_n hx hb dX4_cropLower_0 rfl (lv_at hl 0 rfl) ?_
      refine va_get (D := G) (ci := 3) (v := .int (nI i)) (C := RX4) (T := TX4) (N := 5) hx hb hts in_kX4_cropLower_X4 hown hK hP 0 rfl rfl 4 (by decide) (hts _ fl_kX4_cropLower_36) (fun _ h9 => h9) rfl dX4_cropLower_1 ?_
      refine lv_aload_n hx hb dX4_cropLower_4 rfl (lv_at hl 0 rfl) ?_
      refine va_get (D := G) (ci := 3) (v := .int (nI ua)) (C := RX4) (T := TX4) (N := 5) hx hb hts in_kX4_cropLower_X4 hown hK hP 0 rfl rfl 2 (by decide) (hts _ fl_kX4_cropLower_22) (fun _ h9 => h9) rfl dX4_cropLower_5 ?_
      refine lv_icmp_le (tgt := 40) hx hb dX4_cropLower_8 (by decide) (fun c_8 => ?_) (fun c_8 => ?_)
      · have c_8 := (nI_leI (by omega) (by omega)).mp c_8
        exact hend _ _ _ _ _ dX4_cropLower_40 hP hD hS (by rw [hF, show i - ua = 0 by omega]; rfl)
      · have c_8 : ua < i := Nat.lt_of_not_le fun q => c_8 ((nI_leI (by omega) (by omega)).mpr q)
        refine lv_aload_n hx hb dX4_cropLower_11 rfl (lv_at hl 0 rfl) ?_
        refine va_get (D := G) (ci := 3) (v := .ref h0) (C := RX4) (T := TX4) (N := 5) hx hb hts in_kX4_cropLower_X4 hown hK hP 0 rfl rfl 0 (by decide) (hts _ fl_kX4_cropLower_9) (fun _ h9 => h9) rfl dX4_cropLower_12 ?_
        refine lv_aload_n hx hb dX4_cropLower_15 rfl (lv_at hl 0 rfl) ?_
        refine va_get (D := G) (ci := 3) (v := .int (nI i)) (C := RX4) (T := TX4) (N := 5) hx hb hts in_kX4_cropLower_X4 hown hK hP 0 rfl rfl 4 (by decide) (hts _ fl_kX4_cropLower_36) (fun _ h9 => h9) rfl dX4_cropLower_16 ?_
        refine lv_iconst (v := 1) hx hb dX4_cropLower_19 (by decide) ?_
        refine lv_isub hx hb dX4_cropLower_20 ?_
        refine kTopI (z := nI (i - 1)) (kpred1 (by omega)) ?_
        refine kVi (w' := [(v0, .inr (3, [.ref h0, .int (nI la), .int (nI ua), .int (nI ra), .int (nI i)])), (h0, .inr (0, [.int (nI w), .int (nI h), .double (midF w), .double (midF h), .ref q1, .ref q2])), (q1, .inl (cI, 24, .inl B)), (q2, .inl (cI, 24, .inl O))]) (wr := [(v0, .inr (3, [.ref h0, .int (nI la), .int (nI ua), .int (nI ra), .int (nI i)]))]) (isC := [1, 2, 3]) (isR := [0]) (pm := [0, 1, 2, 3]) (rest := []) (kX0_rowBits l G cI cZ cJ cD h0 q1 q2 w h hw hh B O (nI (i - 1))) ⟨hx, hb, hml, hown, hts⟩ (cwV 1 hts gX4_cropLower_X0_rowBits rfl rfl rfl hd_X0_rowBits ⟨Nat.le_of_ble_eq_true rfl, Nat.le_of_ble_eq_true rfl⟩) hK hP hD hS hA ⟨rfl, rfl, rfl, by decide, rfl, rfl, rfl⟩ 0 1 rfl rfl rfl hl.1 rfl (Nat.le_of_ble_eq_true rfl) dX4_cropLower_21 ⟨Nat.le_of_ble_eq_true rfl, Nat.le_of_ble_eq_true rfl⟩ rfl rfl (fun H locs hP hD hS => ?_)
        refine kTopI (z := B (i - 1)) (rowF_nI _ (by omega)) ?_
        refine lv_if_ne (tgt := 40) hx hb dX4_cropLower_24 (by decide) (fun c_24 => ?_) (fun c_24 => ?_)
        · exact hend _ _ _ _ _ dX4_cropLower_40 hP hD hS (by rw [hF, decN_s _ (by omega), if_neg (by simp [rowZ, c_24])])
        · refine lv_aload_n hx hb dX4_cropLower_27 rfl (lv_at hl 0 rfl) ?_
          refine lv_dup hx hb dX4_cropLower_28 rfl ?_
          refine va_get (D := G) (ci := 3) (v := .int (nI i)) (C := RX4) (T := TX4) (N := 5) hx hb hts in_kX4_cropLower_X4 hown hK hP 0 rfl rfl 4 (by decide) (hts _ fl_kX4_cropLower_36) (fun _ h9 => h9) rfl dX4_cropLower_29 ?_
          refine lv_iconst (v := 1) hx hb dX4_cropLower_32 (by decide) ?_
          refine lv_isub hx hb dX4_cropLower_33 ?_
          refine kTopI (z := nI (i - 1)) (kpred1 (by omega)) ?_
          refine va_put (D := G) (ci := 3) (v := .int (nI (i - 1))) (ty := .int) (C := RX4) (T := TX4) (N := 5) hx hb hts in_kX4_cropLower_X4 tyX4 tyX4_ok nmX4 hown hK hP hD hS 0 rfl rfl 4 (by decide) (hts _ fl_kX4_cropLower_36) (fun _ h9 => h9) rfl (by decide +kernel) rfl rfl (Nat.le_of_ble_eq_true rfl) dX4_cropLower_34 (fun H locs (hP : va_P G vwCl [(v0, .inr (3, [.ref h0, .int (nI la), .int (nI ua), .int (nI ra), .int (nI (i - 1))])), (h0, .inr (0, [.int (nI w), .int (nI h), .double (midF w), .double (midF h), .ref q1, .ref q2])), (q1, .inl (cI, 24, .inl B)), (q2, .inl (cI, 24, .inl O))] H) (hD : va_D A [(v0, .inr (3, [.ref h0, .int (nI la), .int (nI ua), .int (nI ra), .int (nI (i - 1))])), (h0, .inr (0, [.int (nI w), .int (nI h), .double (midF w), .double (midF h), .ref q1, .ref q2])), (q1, .inl (cI, 24, .inl B)), (q2, .inl (cI, 24, .inl O))]) hS => ?_)
          refine lv_goto (tgt := 0) hx hb dX4_cropLower_37 (by decide) ?_
          exact ih0 (i - 1) (by omega) (by omega) (by omega) (hF.trans ((decN_s _ (by omega)).trans (if_pos (by simp [rowZ, c_24])))) _ _ hP hD hS _ (lv_sub hl [0] rfl)
  exact K0 (da - ua + 1) da (by omega) (by omega) (by omega) rfl _ _ hP hD hS _ (lv_sub hl [0] rfl)
theorem in_kX4_cropAt_X4 : ∀ w ∈ u_ws RX4 TX4 5, w ∈ wsX4_cropAt := by decide +kernel
theorem fl_kX4_cropAt_9 : Cond.fieldLink RX4 9 "SkewFind$Window" "picture" "LSkewFind$Picture;" ∈ wsX4_cropAt := by decide +kernel
theorem wd_kX4_cropAt_mabs59 : Cond.methodLink RX4 59 Lib.Math.abs.name ∈ wsX4_cropAt := by decide +kernel
theorem wd_kX4_cropAt_msabs : Cond.static Lib.Math.abs.name ∈ wsX4_cropAt := by decide +kernel
theorem wd_kX4_cropAt_mi : Cond.initialized "java/lang/Math" ∈ wsX4_cropAt := by decide +kernel
theorem wd_kX4_cropAt_mcabs : Cond.code Lib.Math.abs.name Lib.Math.abs.code 1 (some .int) ∈ wsX4_cropAt := by decide +kernel
abbrev rmX4_cropAt : Room := { frames := 4, cells := 0, slots := 0, locals := 86 }
set_option maxRecDepth 100000 in
set_option maxHeartbeats 4000000 in
theorem kX4_cropAt (l : Launch) (G : va_G) (cI cZ cJ cD : ClassId) (v0 : Nat) (h0 q1 q2 w h : Nat) (hw : w ≤ 24) (hh : h ≤ 24) (B O : Nat → Int32) (la ua ra da : Nat) (hlr : la ≤ ra) (hra : ra ≤ w) (hud : ua ≤ da) (hda : da ≤ h) (s0 : Int32) : Ci l G (kTy cI cZ cJ cD) yX4_cropAt wsX4_cropAt rmX4_cropAt [.ref v0, .int s0] [(v0, .inr (3, [.ref h0, .int (nI la), .int (nI ua), .int (nI ra), .int (nI da)])), (h0, .inr (0, [.int (nI w), .int (nI h), .double (midF w), .double (midF h), .ref q1, .ref q2])), (q1, .inl (cI, 24, .inl B)), (q2, .inl (cI, 24, .inl O))] (cropF w h B s0 la ua ra da) [(v0, .inr (3, [.ref h0, .int (nI (nwL w h B s0 la ra)), .int (nI (nwU h B s0 ua da)), .int (nI (nwR w h B s0 la ra)), .int (nI (nwD h B s0 ua da))])), (h0, .inr (0, [.int (nI w), .int (nI h), .double (midF w), .double (midF h), .ref q1, .ref q2])), (q1, .inl (cI, 24, .inl B)), (q2, .inl (cI, 24, .inl O))] := by
  refine Ci.of .int rfl rfl rfl (cc := cX4_cropAt) (maxL := 3) (plainFor_of_name (by decide)) rfl (Nat.le_of_ble_eq_true rfl) rfl ?_
  intro p e s m args below meth c A Q hx hb hml hts hown hA hK hP hD hS hend ls hl
  refine lv_aload_n hx hb dX4_cropAt_0 rfl (lv_at hl 0 rfl) ?_
  refine va_get (D := G) (ci := 3) (v := .ref h0) (C := RX4) (T := TX4) (N := 5) hx hb hts in_kX4_cropAt_X4 hown hK hP 0 rfl rfl 0 (by decide) (hts _ fl_kX4_cropAt_9) (fun _ h9 => h9) rfl dX4_cropAt_1 ?_
  refine kVi (w' := [(v0, .inr (3, [.ref h0, .int (nI la), .int (nI ua), .int (nI ra), .int (nI da)])), (h0, .inr (0, [.int (nI w), .int (nI h), .double (midF w), .double (midF h), .ref q1, .ref q2])), (q1, .inl (cI, 24, .inl B)), (q2, .inl (cI, 24, .inl O))]) (wr := [(v0, .inr (3, [.ref h0, .int (nI la), .int (nI ua), .int (nI ra), .int (nI da)]))]) (isC := [1, 2, 3]) (isR := [0]) (pm := [0, 1, 2, 3]) (rest := []) (kX0_samplesOn l G cI cZ cJ cD h0 q1 q2 w h hw hh B O ) ⟨hx, hb, hml, hown, hts⟩ (cwV 0 hts gX4_cropAt_X0_samplesOn rfl rfl rfl hd_X0_samplesOn ⟨Nat.le_of_ble_eq_true rfl, Nat.le_of_ble_eq_true rfl⟩) hK hP hD hS hA ⟨rfl, rfl, rfl, by decide, rfl, rfl, rfl⟩ 0 1 rfl rfl rfl hl.1 rfl (Nat.le_of_ble_eq_true rfl) dX4_cropAt_4 ⟨Nat.le_of_ble_eq_true rfl, Nat.le_of_ble_eq_true rfl⟩ rfl rfl (fun H locs hP hD hS => ?_)
  refine lv_if_ne (tgt := 12) hx hb dX4_cropAt_7 (by decide) (fun c_7 => ?_) (fun c_7 => ?_)
  · refine lv_aload_n hx hb dX4_cropAt_12 rfl (lv_at hl 0 rfl) ?_
    refine lv_iload_n hx hb dX4_cropAt_13 rfl (lv_at hl 1 rfl) ?_
    refine kVi (w' := [(v0, .inr (3, [.ref h0, .int (nI la), .int (nI ua), .int (nI ra), .int (nI da)])), (h0, .inr (0, [.int (nI w), .int (nI h), .double (midF w), .double (midF h), .ref q1, .ref q2])), (q1, .inl (cI, 24, .inl B)), (q2, .inl (cI, 24, .inl O))]) (wr := []) (isC := [0, 1, 2, 3]) (isR := []) (pm := [0, 1, 2, 3]) (rest := []) (kX4_end l G cI cZ cJ cD v0 h0 q1 q2 w h hw hh B O la ua ra da s0) ⟨hx, hb, hml, hown, hts⟩ (cwV 1 hts gX4_cropAt_X4_end rfl rfl rfl hd_X4_end ⟨Nat.le_of_ble_eq_true rfl, Nat.le_of_ble_eq_true rfl⟩) hK hP hD hS hA ⟨rfl, rfl, rfl, by decide, rfl, rfl, rfl⟩ 3 0 rfl rfl rfl hl.1 rfl (Nat.le_of_ble_eq_true rfl) dX4_cropAt_14 ⟨Nat.le_of_ble_eq_true rfl, Nat.le_of_ble_eq_true rfl⟩ rfl rfl (fun H locs hP hD hS => ?_)
    refine lv_istore_n (lv' := [(2, .int (endF s0 (nI la) (nI ua) (nI ra) (nI da))), (0, .ref v0), (1, .int s0)]) hx hb dX4_cropAt_17 rfl hl (by decide) rfl (fun ls hl => ?_)
    refine lv_iload_n hx hb dX4_cropAt_18 rfl (lv_at hl 2 rfl) ?_
    by_cases c_19_0 : s0 = 0
    · refine lv_tableIn (off := 25) (tgt := 44) hx hb dX4_cropAt_19 (by rw [c_19_0]; decide) (by rw [c_19_0]; decide) (by rw [c_19_0]; rfl) (by decide) ?_
      refine lv_aload_n hx hb dX4_cropAt_44 rfl (lv_at hl 1 rfl) ?_
      refine kVv (w' := [(v0, .inr (3, [.ref h0, .int (nI (crL w h B la ra)), .int (nI ua), .int (nI ra), .int (nI da)])), (h0, .inr (0, [.int (nI w), .int (nI h), .double (midF w), .double (midF h), .ref q1, .ref q2])), (q1, .inl (cI, 24, .inl B)), (q2, .inl (cI, 24, .inl O))]) (wr := []) (isC := [0, 1, 2, 3]) (isR := []) (pm := [0, 1, 2, 3]) (rest := []) (kX4_cropLeft l G cI cZ cJ cD v0 h0 q1 q2 w h hw hh B O la ua ra da hlr hra hud hda ) ⟨hx, hb, hml, hown, hts⟩ (cwV 0 hts gX4_cropAt_X4_cropLeft rfl rfl rfl hd_X4_cropLeft ⟨Nat.le_of_ble_eq_true rfl, Nat.le_of_ble_eq_true rfl⟩) hK hP hD hS hA ⟨rfl, rfl, rfl, by decide, rfl, rfl, rfl⟩ 3 0 rfl rfl rfl hl.1 rfl (Nat.le_of_ble_eq_true rfl) dX4_cropAt_45 ⟨Nat.le_of_ble_eq_true rfl, Nat.le_of_ble_eq_true rfl⟩ rfl rfl (fun H locs hP hD hS => ?_)
      refine lv_goto (tgt := 69) hx hb dX4_cropAt_48 (by decide) ?_
      refine lv_aload_n hx hb dX4_cropAt_69 rfl (lv_at hl 1 rfl) ?_
      refine lv_iload_n hx hb dX4_cropAt_70 rfl (lv_at hl 2 rfl) ?_
      refine kVi (w' := [(v0, .inr (3, [.ref h0, .int (nI (crL w h B la ra)), .int (nI ua), .int (nI ra), .int (nI da)])), (h0, .inr (0, [.int (nI w), .int (nI h), .double (midF w), .double (midF h), .ref q1, .ref q2])), (q1, .inl (cI, 24, .inl B)), (q2, .inl (cI, 24, .inl O))]) (wr := []) (isC := [0, 1, 2, 3]) (isR := []) (pm := [0, 1, 2, 3]) (rest := []) (kX4_end l G cI cZ cJ cD v0 h0 q1 q2 w h hw hh B O ((crL w h B la ra)) ua ra da s0) ⟨hx, hb, hml, hown, hts⟩ (cwV 1 hts gX4_cropAt_X4_end rfl rfl rfl hd_X4_end ⟨Nat.le_of_ble_eq_true rfl, Nat.le_of_ble_eq_true rfl⟩) hK hP hD hS hA ⟨rfl, rfl, rfl, by decide, rfl, rfl, rfl⟩ 3 0 rfl rfl rfl hl.1 rfl (Nat.le_of_ble_eq_true rfl) dX4_cropAt_71 ⟨Nat.le_of_ble_eq_true rfl, Nat.le_of_ble_eq_true rfl⟩ rfl rfl (fun H locs hP hD hS => ?_)
      refine lv_iload_n hx hb dX4_cropAt_74 rfl (lv_at hl 0 rfl) ?_
      refine lv_isub hx hb dX4_cropAt_75 ?_
      refine va_mabs hx hb (hml.trans hl.1.symm) hown (hts _ wd_kX4_cropAt_mabs59) (hts _ wd_kX4_cropAt_msabs) (hts _ wd_kX4_cropAt_mi) (hts _ wd_kX4_cropAt_mcabs) (Nat.le_of_ble_eq_true rfl) (Nat.le_of_ble_eq_true rfl) (Nat.le_of_ble_eq_true rfl) (Nat.le_of_ble_eq_true rfl) dX4_cropAt_76 ?_
      exact hend _ _ _ _ _ _ dX4_cropAt_79 hP hD hS (by first | rfl | (simp only [cropF, absI, endF, nwL, nwU, nwR, nwD, c_7, c_19_0, ↓reduceIte]; done) | (simp [cropF, absI, endF, nwL, nwU, nwR, nwD, c_7, c_19_0]; done)) (by first | rfl | (simp only [cropF, absI, endF, nwL, nwU, nwR, nwD, c_7, c_19_0, ↓reduceIte]; done) | (simp [cropF, absI, endF, nwL, nwU, nwR, nwD, c_7, c_19_0]; done))
    by_cases c_19_1 : s0 = 1
    · refine lv_tableIn (off := 32) (tgt := 51) hx hb dX4_cropAt_19 (by rw [c_19_1]; decide) (by rw [c_19_1]; decide) (by rw [c_19_1]; rfl) (by decide) ?_
      refine lv_aload_n hx hb dX4_cropAt_51 rfl (lv_at hl 1 rfl) ?_
      refine kVv (w' := [(v0, .inr (3, [.ref h0, .int (nI la), .int (nI (crU B ua da)), .int (nI ra), .int (nI da)])), (h0, .inr (0, [.int (nI w), .int (nI h), .double (midF w), .double (midF h), .ref q1, .ref q2])), (q1, .inl (cI, 24, .inl B)), (q2, .inl (cI, 24, .inl O))]) (wr := []) (isC := [0, 1, 2, 3]) (isR := []) (pm := [0, 1, 2, 3]) (rest := []) (kX4_cropUpper l G cI cZ cJ cD v0 h0 q1 q2 w h hw hh B O la ua ra da hlr hra hud hda ) ⟨hx, hb, hml, hown, hts⟩ (cwV 0 hts gX4_cropAt_X4_cropUpper rfl rfl rfl hd_X4_cropUpper ⟨Nat.le_of_ble_eq_true rfl, Nat.le_of_ble_eq_true rfl⟩) hK hP hD hS hA ⟨rfl, rfl, rfl, by decide, rfl, rfl, rfl⟩ 3 0 rfl rfl rfl hl.1 rfl (Nat.le_of_ble_eq_true rfl) dX4_cropAt_52 ⟨Nat.le_of_ble_eq_true rfl, Nat.le_of_ble_eq_true rfl⟩ rfl rfl (fun H locs hP hD hS => ?_)
      refine lv_goto (tgt := 69) hx hb dX4_cropAt_55 (by decide) ?_
      refine lv_aload_n hx hb dX4_cropAt_69 rfl (lv_at hl 1 rfl) ?_
      refine lv_iload_n hx hb dX4_cropAt_70 rfl (lv_at hl 2 rfl) ?_
      refine kVi (w' := [(v0, .inr (3, [.ref h0, .int (nI la), .int (nI (crU B ua da)), .int (nI ra), .int (nI da)])), (h0, .inr (0, [.int (nI w), .int (nI h), .double (midF w), .double (midF h), .ref q1, .ref q2])), (q1, .inl (cI, 24, .inl B)), (q2, .inl (cI, 24, .inl O))]) (wr := []) (isC := [0, 1, 2, 3]) (isR := []) (pm := [0, 1, 2, 3]) (rest := []) (kX4_end l G cI cZ cJ cD v0 h0 q1 q2 w h hw hh B O la ((crU B ua da)) ra da s0) ⟨hx, hb, hml, hown, hts⟩ (cwV 1 hts gX4_cropAt_X4_end rfl rfl rfl hd_X4_end ⟨Nat.le_of_ble_eq_true rfl, Nat.le_of_ble_eq_true rfl⟩) hK hP hD hS hA ⟨rfl, rfl, rfl, by decide, rfl, rfl, rfl⟩ 3 0 rfl rfl rfl hl.1 rfl (Nat.le_of_ble_eq_true rfl) dX4_cropAt_71 ⟨Nat.le_of_ble_eq_true rfl, Nat.le_of_ble_eq_true rfl⟩ rfl rfl (fun H locs hP hD hS => ?_)
      refine lv_iload_n hx hb dX4_cropAt_74 rfl (lv_at hl 0 rfl) ?_
      refine lv_isub hx hb dX4_cropAt_75 ?_
      refine va_mabs hx hb (hml.trans hl.1.symm) hown (hts _ wd_kX4_cropAt_mabs59) (hts _ wd_kX4_cropAt_msabs) (hts _ wd_kX4_cropAt_mi) (hts _ wd_kX4_cropAt_mcabs) (Nat.le_of_ble_eq_true rfl) (Nat.le_of_ble_eq_true rfl) (Nat.le_of_ble_eq_true rfl) (Nat.le_of_ble_eq_true rfl) dX4_cropAt_76 ?_
      exact hend _ _ _ _ _ _ dX4_cropAt_79 hP hD hS (by first | rfl | (simp only [cropF, absI, endF, nwL, nwU, nwR, nwD, c_7, c_19_0, c_19_1, ↓reduceIte]; done) | (simp [cropF, absI, endF, nwL, nwU, nwR, nwD, c_7, c_19_0, c_19_1]; done)) (by first | rfl | (simp only [cropF, absI, endF, nwL, nwU, nwR, nwD, c_7, c_19_0, c_19_1, ↓reduceIte]; done) | (simp [cropF, absI, endF, nwL, nwU, nwR, nwD, c_7, c_19_0, c_19_1]; done))
    by_cases c_19_2 : s0 = 2
    · refine lv_tableIn (off := 39) (tgt := 58) hx hb dX4_cropAt_19 (by rw [c_19_2]; decide) (by rw [c_19_2]; decide) (by rw [c_19_2]; rfl) (by decide) ?_
      refine lv_aload_n hx hb dX4_cropAt_58 rfl (lv_at hl 1 rfl) ?_
      refine kVv (w' := [(v0, .inr (3, [.ref h0, .int (nI la), .int (nI ua), .int (nI (crR w h B la ra)), .int (nI da)])), (h0, .inr (0, [.int (nI w), .int (nI h), .double (midF w), .double (midF h), .ref q1, .ref q2])), (q1, .inl (cI, 24, .inl B)), (q2, .inl (cI, 24, .inl O))]) (wr := []) (isC := [0, 1, 2, 3]) (isR := []) (pm := [0, 1, 2, 3]) (rest := []) (kX4_cropRight l G cI cZ cJ cD v0 h0 q1 q2 w h hw hh B O la ua ra da hlr hra hud hda ) ⟨hx, hb, hml, hown, hts⟩ (cwV 0 hts gX4_cropAt_X4_cropRight rfl rfl rfl hd_X4_cropRight ⟨Nat.le_of_ble_eq_true rfl, Nat.le_of_ble_eq_true rfl⟩) hK hP hD hS hA ⟨rfl, rfl, rfl, by decide, rfl, rfl, rfl⟩ 3 0 rfl rfl rfl hl.1 rfl (Nat.le_of_ble_eq_true rfl) dX4_cropAt_59 ⟨Nat.le_of_ble_eq_true rfl, Nat.le_of_ble_eq_true rfl⟩ rfl rfl (fun H locs hP hD hS => ?_)
      refine lv_goto (tgt := 69) hx hb dX4_cropAt_62 (by decide) ?_
      refine lv_aload_n hx hb dX4_cropAt_69 rfl (lv_at hl 1 rfl) ?_
      refine lv_iload_n hx hb dX4_cropAt_70 rfl (lv_at hl 2 rfl) ?_
      refine kVi (w' := [(v0, .inr (3, [.ref h0, .int (nI la), .int (nI ua), .int (nI (crR w h B la ra)), .int (nI da)])), (h0, .inr (0, [.int (nI w), .int (nI h), .double (midF w), .double (midF h), .ref q1, .ref q2])), (q1, .inl (cI, 24, .inl B)), (q2, .inl (cI, 24, .inl O))]) (wr := []) (isC := [0, 1, 2, 3]) (isR := []) (pm := [0, 1, 2, 3]) (rest := []) (kX4_end l G cI cZ cJ cD v0 h0 q1 q2 w h hw hh B O la ua ((crR w h B la ra)) da s0) ⟨hx, hb, hml, hown, hts⟩ (cwV 1 hts gX4_cropAt_X4_end rfl rfl rfl hd_X4_end ⟨Nat.le_of_ble_eq_true rfl, Nat.le_of_ble_eq_true rfl⟩) hK hP hD hS hA ⟨rfl, rfl, rfl, by decide, rfl, rfl, rfl⟩ 3 0 rfl rfl rfl hl.1 rfl (Nat.le_of_ble_eq_true rfl) dX4_cropAt_71 ⟨Nat.le_of_ble_eq_true rfl, Nat.le_of_ble_eq_true rfl⟩ rfl rfl (fun H locs hP hD hS => ?_)
      refine lv_iload_n hx hb dX4_cropAt_74 rfl (lv_at hl 0 rfl) ?_
      refine lv_isub hx hb dX4_cropAt_75 ?_
      refine va_mabs hx hb (hml.trans hl.1.symm) hown (hts _ wd_kX4_cropAt_mabs59) (hts _ wd_kX4_cropAt_msabs) (hts _ wd_kX4_cropAt_mi) (hts _ wd_kX4_cropAt_mcabs) (Nat.le_of_ble_eq_true rfl) (Nat.le_of_ble_eq_true rfl) (Nat.le_of_ble_eq_true rfl) (Nat.le_of_ble_eq_true rfl) dX4_cropAt_76 ?_
      exact hend _ _ _ _ _ _ dX4_cropAt_79 hP hD hS (by first | rfl | (simp only [cropF, absI, endF, nwL, nwU, nwR, nwD, c_7, c_19_0, c_19_1, c_19_2, ↓reduceIte]; done) | (simp [cropF, absI, endF, nwL, nwU, nwR, nwD, c_7, c_19_0, c_19_1, c_19_2]; done)) (by first | rfl | (simp only [cropF, absI, endF, nwL, nwU, nwR, nwD, c_7, c_19_0, c_19_1, c_19_2, ↓reduceIte]; done) | (simp [cropF, absI, endF, nwL, nwU, nwR, nwD, c_7, c_19_0, c_19_1, c_19_2]; done))
    refine lv_tableOut (tgt := 65) hx hb dX4_cropAt_19 (kSw3 c_19_0 c_19_1 c_19_2) (by decide) ?_
    refine lv_aload_n hx hb dX4_cropAt_65 rfl (lv_at hl 1 rfl) ?_
    refine kVv (w' := [(v0, .inr (3, [.ref h0, .int (nI la), .int (nI ua), .int (nI ra), .int (nI (crD B ua da))])), (h0, .inr (0, [.int (nI w), .int (nI h), .double (midF w), .double (midF h), .ref q1, .ref q2])), (q1, .inl (cI, 24, .inl B)), (q2, .inl (cI, 24, .inl O))]) (wr := []) (isC := [0, 1, 2, 3]) (isR := []) (pm := [0, 1, 2, 3]) (rest := []) (kX4_cropLower l G cI cZ cJ cD v0 h0 q1 q2 w h hw hh B O la ua ra da hlr hra hud hda ) ⟨hx, hb, hml, hown, hts⟩ (cwV 0 hts gX4_cropAt_X4_cropLower rfl rfl rfl hd_X4_cropLower ⟨Nat.le_of_ble_eq_true rfl, Nat.le_of_ble_eq_true rfl⟩) hK hP hD hS hA ⟨rfl, rfl, rfl, by decide, rfl, rfl, rfl⟩ 3 0 rfl rfl rfl hl.1 rfl (Nat.le_of_ble_eq_true rfl) dX4_cropAt_66 ⟨Nat.le_of_ble_eq_true rfl, Nat.le_of_ble_eq_true rfl⟩ rfl rfl (fun H locs hP hD hS => ?_)
    refine lv_aload_n hx hb dX4_cropAt_69 rfl (lv_at hl 1 rfl) ?_
    refine lv_iload_n hx hb dX4_cropAt_70 rfl (lv_at hl 2 rfl) ?_
    refine kVi (w' := [(v0, .inr (3, [.ref h0, .int (nI la), .int (nI ua), .int (nI ra), .int (nI (crD B ua da))])), (h0, .inr (0, [.int (nI w), .int (nI h), .double (midF w), .double (midF h), .ref q1, .ref q2])), (q1, .inl (cI, 24, .inl B)), (q2, .inl (cI, 24, .inl O))]) (wr := []) (isC := [0, 1, 2, 3]) (isR := []) (pm := [0, 1, 2, 3]) (rest := []) (kX4_end l G cI cZ cJ cD v0 h0 q1 q2 w h hw hh B O la ua ra ((crD B ua da)) s0) ⟨hx, hb, hml, hown, hts⟩ (cwV 1 hts gX4_cropAt_X4_end rfl rfl rfl hd_X4_end ⟨Nat.le_of_ble_eq_true rfl, Nat.le_of_ble_eq_true rfl⟩) hK hP hD hS hA ⟨rfl, rfl, rfl, by decide, rfl, rfl, rfl⟩ 3 0 rfl rfl rfl hl.1 rfl (Nat.le_of_ble_eq_true rfl) dX4_cropAt_71 ⟨Nat.le_of_ble_eq_true rfl, Nat.le_of_ble_eq_true rfl⟩ rfl rfl (fun H locs hP hD hS => ?_)
    refine lv_iload_n hx hb dX4_cropAt_74 rfl (lv_at hl 0 rfl) ?_
    refine lv_isub hx hb dX4_cropAt_75 ?_
    refine va_mabs hx hb (hml.trans hl.1.symm) hown (hts _ wd_kX4_cropAt_mabs59) (hts _ wd_kX4_cropAt_msabs) (hts _ wd_kX4_cropAt_mi) (hts _ wd_kX4_cropAt_mcabs) (Nat.le_of_ble_eq_true rfl) (Nat.le_of_ble_eq_true rfl) (Nat.le_of_ble_eq_true rfl) (Nat.le_of_ble_eq_true rfl) dX4_cropAt_76 ?_
    exact hend _ _ _ _ _ _ dX4_cropAt_79 hP hD hS (by first | rfl | (simp only [cropF, absI, endF, nwL, nwU, nwR, nwD, c_7, c_19_0, c_19_1, c_19_2, ↓reduceIte]; done) | (simp [cropF, absI, endF, nwL, nwU, nwR, nwD, c_7, c_19_0, c_19_1, c_19_2]; done)) (by first | rfl | (simp only [cropF, absI, endF, nwL, nwU, nwR, nwD, c_7, c_19_0, c_19_1, c_19_2, ↓reduceIte]; done) | (simp [cropF, absI, endF, nwL, nwU, nwR, nwD, c_7, c_19_0, c_19_1, c_19_2]; done))
  · refine lv_iconst (v := 0) hx hb dX4_cropAt_10 (by decide) ?_
    exact hend _ _ _ _ _ _ dX4_cropAt_11 hP hD hS (by first | rfl | (simp only [cropF, absI, endF, nwL, nwU, nwR, nwD, c_7, ↓reduceIte]; done) | (simp [cropF, absI, endF, nwL, nwU, nwR, nwD, c_7]; done)) (by first | rfl | (simp only [cropF, absI, endF, nwL, nwU, nwR, nwD, c_7, ↓reduceIte]; done) | (simp [cropF, absI, endF, nwL, nwU, nwR, nwD, c_7]; done))
