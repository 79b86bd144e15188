/-! the reference: bare lines, cropping, bands, lines -/
def brC (w h : Nat) (P : Nat → Bool) (ln : Int32) : Nat → Bool
  | 0 => true
  | k + 1 => if brC w h P ln k = true then (if mOnB w h P ln (nI k) = true then false else true) else false
def brR (w h : Nat) (P : Nat → Bool) (ln : Int32) : Nat → Bool
  | 0 => true
  | k + 1 => if brR w h P ln k = true then (if mOnB w h P (nI k) ln = true then false else true) else false
def baC (w h : Nat) (P : Nat → Bool) (ln : Int32) : Bool := brC w h P ln 24
def baR (w h : Nat) (P : Nat → Bool) (ln : Int32) : Bool := brR w h P ln 24
def bgM (w h : Nat) (P : Nat → Bool) (i : Nat) : Bool := if baR w h P (nI i) = true then false else if nI i = 0 then true else if baR w h P (nI i - 1) = true then true else false
def mgN (w h : Nat) (P : Nat → Bool) (k : Int32) : Nat → Nat → Int32 → Option Nat
  | 0, _, _ => none
  | n + 1, i, b => if bgM w h P i = true then (if b + 1 = k then some i else mgN w h P k n (i + 1) (b + 1)) else mgN w h P k n (i + 1) b
theorem mgN_s (w h : Nat) (P : Nat → Bool) (k : Int32) {i : Nat} (hi : i < h) (b : Int32) : mgN w h P k (h - i) i b = if bgM w h P i = true then (if b + 1 = k then some i else mgN w h P k (h - (i + 1)) (i + 1) (b + 1)) else mgN w h P k (h - (i + 1)) (i + 1) b := by
  rw [show h - i = (h - (i + 1)) + 1 by omega]; rfl
def mgF (w h : Nat) (P : Nat → Bool) (k : Int32) : Option Nat := mgN w h P k h 0 (-1)
def rwN (w h : Nat) (P : Nat → Bool) (i : Nat) : Nat → Nat → Nat
  | 0, r => r
  | n + 1, r => if baR w h P (nI (i + r)) = true then r else rwN w h P i n (r + 1)
theorem rwN_s (w h : Nat) (P : Nat → Bool) {i r : Nat} (hi : i + r < h) : rwN w h P i (h - (i + r)) r = if baR w h P (nI (i + r)) = true then r else rwN w h P i (h - (i + (r + 1))) (r + 1) := by
  rw [show h - (i + r) = (h - (i + (r + 1))) + 1 by omega]; rfl
theorem rwN_in (w h : Nat) (P : Nat → Bool) (i : Nat) : ∀ n r, r ≤ rwN w h P i n r ∧ rwN w h P i n r ≤ r + n
  | 0, r => ⟨Nat.le_refl _, Nat.le_refl _⟩
  | n + 1, r => by
    have q := rwN_in w h P i n (r + 1)
    unfold rwN
    split
    · exact ⟨Nat.le_refl _, by omega⟩
    · exact ⟨by omega, by omega⟩
def rwF (w h : Nat) (P : Nat → Bool) (i : Nat) : Nat := rwN w h P i (h - i) 0
theorem rwF_in (w h : Nat) (P : Nat → Bool) {i : Nat} (hi : i ≤ h) : i + rwF w h P i ≤ h := by have := rwN_in w h P i (h - i) 0; unfold rwF; omega
def goA : Option Nat → Int32 → Int32
  | none, b => b
  | some i, _ => nI i
def goR (w h : Nat) (P : Nat → Bool) : Option Nat → Int32 → Int32
  | none, b => b
  | some i, _ => nI (rwF w h P i)
def goS : Option Nat → Bool
  | none => false
  | some _ => true
def baN (w h : Nat) (P : Nat → Bool) (ba : Int32) : Nat → Int32
  | 0 => ba
  | j + 1 => goA (mgF w h P (nI j)) (baN w h P ba j)
def brN (w h : Nat) (P : Nat → Bool) (br : Int32) : Nat → Int32
  | 0 => br
  | j + 1 => goR w h P (mgF w h P (nI j)) (brN w h P br j)
def oiX (w h : Nat) (P : Nat → Bool) (y : Nat) (acc : Int32) : Nat → Int32
  | 0 => acc
  | x + 1 => oiX w h P y acc x + b2i (mOnB w h P (nI x) (nI y))
def oiY (w h : Nat) (P : Nat → Bool) (f : Nat) : Nat → Int32
  | 0 => 0
  | j + 1 => oiX w h P (f + j) (oiY w h P f j) w
def mBand (w h : Nat) (P : Nat → Bool) (f : Nat) (q : Int32) : Int32 := if q = 0 then nI f else if q = 1 then nI (rwF w h P f) else if q = 2 then oiY w h P f (rwF w h P f) else -1
def lasO (w h : Nat) (P : Nat → Bool) (x f : Nat) : Nat → Option Nat
  | 0 => none
  | j + 1 => if mOnB w h P (nI x) (nI (f + j)) = true then some (f + j) else lasO w h P x f j
theorem lasO_lt (w h : Nat) (P : Nat → Bool) (x f : Nat) : ∀ n y : Nat, lasO w h P x f n = some y → f ≤ y ∧ y < f + n
  | 0, y, e => by cases e
  | n + 1, y, e => by
    unfold lasO at e
    split at e
    · cases e; omega
    · have := lasO_lt w h P x f n y e; omega
theorem optI_neg {o : Option Nat} (hs : ∀ y, o = some y → y < 24) : (optI o < 0 → o = none) ∧ (¬ optI o < 0 → ∃ y, o = some y) := by
  cases o with
  | none => exact ⟨fun _ => rfl, fun q => absurd (show optI none < 0 by decide) q⟩
  | some y => exact ⟨fun q => absurd q (nI_pos (by have := hs y rfl; omega)), fun _ => ⟨y, rfl⟩⟩
def mlF (n sX sY sXX sXY : Int32) (v : UInt64) : UInt64 := if n * sXX - sX * sX = 0 then FP.ddiv (FP.i2d sY) (FP.i2d n) else FP.dadd (FP.dmul (FP.ddiv (FP.i2d (n * sXY - sX * sY)) (FP.i2d (n * sXX - sX * sX))) v) (FP.ddiv (FP.dsub (FP.i2d sY) (FP.dmul (FP.ddiv (FP.i2d (n * sXY - sX * sY)) (FP.i2d (n * sXX - sX * sX))) (FP.i2d sX))) (FP.i2d n))
def mhf (w h : Nat) (P : Nat → Bool) (f : Nat) : Nat := rwF w h P f / 2
def upN (w h : Nat) (P : Nat → Bool) : Nat → Int32
  | 0 => 0
  | j + 1 => match mgF w h P (nI j) with
    | none => upN w h P j
    | some f => upN w h P j + oiY w h P f (rwF w h P f / 2)
def loN (w h : Nat) (P : Nat → Bool) : Nat → Int32
  | 0 => 0
  | j + 1 => match mgF w h P (nI j) with
    | none => loN w h P j
    | some f => loN w h P j + oiY w h P (f + rwF w h P f - rwF w h P f / 2) (rwF w h P f / 2)
def mUps (w h : Nat) (P : Nat → Bool) (nb : Nat) : Bool := if loN w h P nb ≤ upN w h P nb then false else true
theorem mgN_le (w h : Nat) (P : Nat → Bool) (k : Int32) : ∀ n i b f, mgN w h P k n i b = some f → f < i + n
  | 0, i, b, f, e => by cases e
  | n + 1, i, b, f, e => by
    unfold mgN at e
    split at e
    · split at e
      · cases e; omega
      · have := mgN_le w h P k n (i + 1) (b + 1) f e; omega
    · have := mgN_le w h P k n (i + 1) b f e; omega
theorem mgF_le {w h : Nat} {P : Nat → Bool} {k : Int32} {f : Nat} (e : mgF w h P k = some f) : f ≤ h := by have := mgN_le w h P k h 0 (-1) f e; omega
abbrev rmX6_isBareC : Room := { frames := 1, cells := 0, slots := 0, locals := 22 }
set_option maxRecDepth 100000 in
set_option maxHeartbeats 4000000 in
theorem kX6_isBareC (l : Launch) (G : va_G) (cI cZ cJ cD : ClassId) (z0 z1 z2 z3 z4 z5 w h : Nat) (hw : w ≤ 24) (hh : h ≤ 24) (cd : Int32) (P N : Nat → Bool) (ze : Nat → Int32) (le ue re de : Int32) (mk ms : Bool) (mn : UInt64) (tc : Nat) (TM LN : Nat → Int32) (ba br : Int32) (s0 ln : Int32) (hse : s0 - s0 / 2 * 2 = 0) : Ci l G (kTy cI cZ cJ cD) yX6_isBare wsX6_isBare rmX6_isBareC [.ref z0, .int s0, .int ln] [(z0, .inr (5, [.int cd, .int (nI w), .int (nI h), .ref z1, .ref z2, .ref z3, .int (b2i mk), .int (b2i ms), .double mn, .ref z4, .int (nI tc), .ref z5, .int ba, .int br])), (z1, .inl (cZ, 576, .inl (bA P))), (z2, .inl (cZ, 576, .inl (bA N))), (z3, .inl (cI, 4, .inl (e4 ze le ue re de))), (z4, .inl (cI, 16, .inl TM)), (z5, .inl (cI, 104, .inl LN))] (b2i (baC w h P ln)) [(z0, .inr (5, [.int cd, .int (nI w), .int (nI h), .ref z1, .ref z2, .ref z3, .int (b2i mk), .int (b2i ms), .double mn, .ref z4, .int (nI tc), .ref z5, .int ba, .int br])), (z1, .inl (cZ, 576, .inl (bA P))), (z2, .inl (cZ, 576, .inl (bA N))), (z3, .inl (cI, 4, .inl (e4 ze le ue re de))), (z4, .inl (cI, 16, .inl TM)), (z5, .inl (cI, 104, .inl LN))] := by
  refine Ci.of .boolean (nar_b2i _) rfl rfl (cc := cX6_isBare) (maxL := 5) (plainFor_of_name (by decide)) rfl (Nat.le_of_ble_eq_true rfl) rfl ?_
  intro p e s m args below meth c A Q hx hb hml hts hown hA hK hP hD hS hend ls hl
  refine lv_iconst (v := 1) hx hb dX6_isBare_0 (by decide) ?_
  refine lv_istore_n (lv' := [(3, .int 1), (0, .ref z0), (1, .int s0), (2, .int ln)]) hx hb dX6_isBare_1 rfl hl (by decide) rfl (fun ls hl => ?_)
  refine lv_iconst (v := 0) hx hb dX6_isBare_2 (by decide) ?_
  refine lv_istore (lv' := [(4, .int 0), (3, .int 1), (0, .ref z0), (1, .int s0), (2, .int ln)]) hx hb dX6_isBare_3 hl (by decide) rfl (fun ls hl => ?_)
  have K5 : ∀ (n5 : Nat) (k : Nat), 24 - k < n5 → (k ≤ 24) → ∀ (H : Heap) (locs : List Loc), va_P G vwCl [(z0, .inr (5, [.int cd, .int (nI w), .int (nI h), .ref z1, .ref z2, .ref z3, .int (b2i mk), .int (b2i ms), .double mn, .ref z4, .int (nI tc), .ref z5, .int ba, .int br])), (z1, .inl (cZ, 576, .inl (bA P))), (z2, .inl (cZ, 576, .inl (bA N))), (z3, .inl (cI, 4, .inl (e4 ze le ue re de))), (z4, .inl (cI, 16, .inl TM)), (z5, .inl (cI, 104, .inl LN))] H → va_D A [(z0, .inr (5, [.int cd, .int (nI w), .int (nI h), .ref z1, .ref z2, .ref z3, .int (b2i mk), .int (b2i ms), .double mn, .ref z4, .int (nI tc), .ref z5, .int ba, .int br])), (z1, .inl (cZ, 576, .inl (bA P))), (z2, .inl (cZ, 576, .inl (bA N))), (z3, .inl (cI, 4, .inl (e4 ze le ue re de))), (z4, .inl (cI, 16, .inl TM)), (z5, .inl (cI, 104, .inl LN))] → va_S A s.heap H locs → ∀ ls : Array Slot, lv_has ls 5 [(0, .ref z0), (1, .int s0), (2, .int ln), (3, .int (b2i (brC w h P ln k))), (4, .int (nI k))] → W p l e rmX6_isBareC s m args below meth c H locs 0 0 Q (F0 m 5 ls []) := by
    intro n5
    induction n5 with
    | zero => intro k hn; exact absurd hn (by omega)
    | succ n5 ih5 =>
      intro k hn5 h_k H locs hP hD hS ls hl
      refine lv_iload hx hb dX6_isBare_5 (lv_at hl 4 rfl) ?_
      refine lv_bipush (v := 24) hx hb dX6_isBare_7 (by decide) ?_
      refine kGe (n := 24) (by omega) (by omega) (tgt := 57) hx hb dX6_isBare_9 (by decide) (fun c_9 => ?_) (fun c_9 => ?_)
      · have e9 : 24 = k := by omega
        subst e9
        refine lv_iload_n hx hb dX6_isBare_57 rfl (lv_at hl 3 rfl) ?_
        exact hend _ _ _ _ _ _ dX6_isBare_58 hP hD hS rfl rfl
      · refine lv_iload_n hx hb dX6_isBare_12 rfl (lv_at hl 3 rfl) ?_
        refine kIfEqB (tgt := 49) hx hb dX6_isBare_13 (by decide) (fun c_13 => ?_) (fun c_13 => ?_)
        · refine lv_iconst (v := 0) hx hb dX6_isBare_49 (by decide) ?_
          refine lv_istore_n (lv' := [(3, .int 0), (0, .ref z0), (1, .int s0), (2, .int ln), (4, .int (nI k))]) hx hb dX6_isBare_50 rfl hl (by decide) rfl (fun ls hl => ?_)
          have hE : 0 = b2i (brC w h P ln (k + 1)) := (by simp only [brC, c_13, ↓reduceIte, Bool.false_eq_true]; try rfl)
          rw [hE] at hl
          refine lv_iinc (v := nI (k + 1)) (lv' := [(4, .int (nI (k + 1))), (3, .int (b2i (brC w h P ln (k + 1)))), (0, .ref z0), (1, .int s0), (2, .int ln)]) hx hb dX6_isBare_51 hl (k := 4) rfl (nI_1 _) (by decide) rfl (fun ls hl => ?_)
          refine lv_goto (tgt := 5) hx hb dX6_isBare_54 (by decide) ?_
          exact ih5 (k + 1) (by omega) (by omega) _ _ hP hD hS _ (lv_sub hl [2, 3, 4, 1, 0] rfl)
        · refine lv_iload_n hx hb dX6_isBare_16 rfl (lv_at hl 1 rfl) ?_
          refine lv_iconst (v := 2) hx hb dX6_isBare_17 (by decide) ?_
          refine lv_irem hx hb dX6_isBare_18 (by decide) ?_
          refine lv_if_ne (tgt := 35) hx hb dX6_isBare_19 (by decide) (fun h9 => (absurd hse h9)) (fun c_19 => ?_)
          refine lv_aload_n hx hb dX6_isBare_22 rfl (lv_at hl 0 rfl) ?_
          refine lv_iload_n hx hb dX6_isBare_23 rfl (lv_at hl 2 rfl) ?_
          refine lv_iload hx hb dX6_isBare_24 (lv_at hl 4 rfl) ?_
          refine kVi (w' := [(z0, .inr (5, [.int cd, .int (nI w), .int (nI h), .ref z1, .ref z2, .ref z3, .int (b2i mk), .int (b2i ms), .double mn, .ref z4, .int (nI tc), .ref z5, .int ba, .int br])), (z1, .inl (cZ, 576, .inl (bA P))), (z2, .inl (cZ, 576, .inl (bA N))), (z3, .inl (cI, 4, .inl (e4 ze le ue re de))), (z4, .inl (cI, 16, .inl TM)), (z5, .inl (cI, 104, .inl LN))]) (wr := []) (isC := [0, 1, 2, 3, 4, 5]) (isR := []) (pm := [0, 1, 2, 3, 4, 5]) (rest := []) (kX6_isOn l G cI cZ cJ cD z0 z1 z2 z3 z4 z5 w h hw hh cd P N ze le ue re de mk ms mn tc TM LN ba br ln (nI k)) ⟨hx, hb, hml, hown, hts⟩ (cwV 2 hts gX6_isBare_X6_isOn rfl rfl rfl hd_X6_isOn ⟨Nat.le_of_ble_eq_true rfl, Nat.le_of_ble_eq_true rfl⟩) hK hP hD hS hA ⟨rfl, rfl, rfl, by decide, rfl, rfl, rfl⟩ 5 0 rfl rfl rfl hl.1 rfl (Nat.le_of_ble_eq_true rfl) dX6_isBare_26 ⟨Nat.le_of_ble_eq_true rfl, Nat.le_of_ble_eq_true rfl⟩ rfl rfl (fun H locs hP hD hS => ?_)
          refine kIfEqB (tgt := 45) hx hb dX6_isBare_29 (by decide) (fun c_29 => ?_) (fun c_29 => ?_)
          · refine lv_iconst (v := 1) hx hb dX6_isBare_45 (by decide) ?_
            refine lv_goto (tgt := 50) hx hb dX6_isBare_46 (by decide) ?_
            refine lv_istore_n (lv' := [(3, .int 1), (0, .ref z0), (1, .int s0), (2, .int ln), (4, .int (nI k))]) hx hb dX6_isBare_50 rfl hl (by decide) rfl (fun ls hl => ?_)
            have hE : 1 = b2i (brC w h P ln (k + 1)) := (by simp only [brC, c_13, c_29, ↓reduceIte, Bool.false_eq_true]; try rfl)
            rw [hE] at hl
            refine lv_iinc (v := nI (k + 1)) (lv' := [(4, .int (nI (k + 1))), (3, .int (b2i (brC w h P ln (k + 1)))), (0, .ref z0), (1, .int s0), (2, .int ln)]) hx hb dX6_isBare_51 hl (k := 4) rfl (nI_1 _) (by decide) rfl (fun ls hl => ?_)
            refine lv_goto (tgt := 5) hx hb dX6_isBare_54 (by decide) ?_
            exact ih5 (k + 1) (by omega) (by omega) _ _ hP hD hS _ (lv_sub hl [2, 3, 4, 1, 0] rfl)
          · refine lv_goto (tgt := 49) hx hb dX6_isBare_32 (by decide) ?_
            refine lv_iconst (v := 0) hx hb dX6_isBare_49 (by decide) ?_
            refine lv_istore_n (lv' := [(3, .int 0), (0, .ref z0), (1, .int s0), (2, .int ln), (4, .int (nI k))]) hx hb dX6_isBare_50 rfl hl (by decide) rfl (fun ls hl => ?_)
            have hE : 0 = b2i (brC w h P ln (k + 1)) := (by simp only [brC, c_13, c_29, ↓reduceIte, Bool.false_eq_true]; try rfl)
            rw [hE] at hl
            refine lv_iinc (v := nI (k + 1)) (lv' := [(4, .int (nI (k + 1))), (3, .int (b2i (brC w h P ln (k + 1)))), (0, .ref z0), (1, .int s0), (2, .int ln)]) hx hb dX6_isBare_51 hl (k := 4) rfl (nI_1 _) (by decide) rfl (fun ls hl => ?_)
            refine lv_goto (tgt := 5) hx hb dX6_isBare_54 (by decide) ?_
            exact ih5 (k + 1) (by omega) (by omega) _ _ hP hD hS _ (lv_sub hl [2, 3, 4, 1, 0] rfl)
  exact K5 (24 - 0 + 1) 0 (by omega) (by omega) _ _ hP hD hS _ (lv_sub hl [2, 3, 4, 1, 0] rfl)
abbrev rmX6_isBareR : Room := { frames := 1, cells := 0, slots := 0, locals := 22 }
set_option maxRecDepth 100000 in
set_option maxHeartbeats 4000000 in
theorem kX6_isBareR (l : Launch) (G : va_G) (cI cZ cJ cD : ClassId) (z0 z1 z2 z3 z4 z5 w h : Nat) (hw : w ≤ 24) (hh : h ≤ 24) (cd : Int32) (P N : Nat → Bool) (ze : Nat → Int32) (le ue re de : Int32) (mk ms : Bool) (mn : UInt64) (tc : Nat) (TM LN : Nat → Int32) (ba br : Int32) (s0 ln : Int32) (hse : ¬ s0 - s0 / 2 * 2 = 0) : Ci l G (kTy cI cZ cJ cD) yX6_isBare wsX6_isBare rmX6_isBareR [.ref z0, .int s0, .int ln] [(z0, .inr (5, [.int cd, .int (nI w), .int (nI h), .ref z1, .ref z2, .ref z3, .int (b2i mk), .int (b2i ms), .double mn, .ref z4, .int (nI tc), .ref z5, .int ba, .int br])), (z1, .inl (cZ, 576, .inl (bA P))), (z2, .inl (cZ, 576, .inl (bA N))), (z3, .inl (cI, 4, .inl (e4 ze le ue re de))), (z4, .inl (cI, 16, .inl TM)), (z5, .inl (cI, 104, .inl LN))] (b2i (baR w h P ln)) [(z0, .inr (5, [.int cd, .int (nI w), .int (nI h), .ref z1, .ref z2, .ref z3, .int (b2i mk), .int (b2i ms), .double mn, .ref z4, .int (nI tc), .ref z5, .int ba, .int br])), (z1, .inl (cZ, 576, .inl (bA P))), (z2, .inl (cZ, 576, .inl (bA N))), (z3, .inl (cI, 4, .inl (e4 ze le ue re de))), (z4, .inl (cI, 16, .inl TM)), (z5, .inl (cI, 104, .inl LN))] := by
  refine Ci.of .boolean (nar_b2i _) rfl rfl (cc := cX6_isBare) (maxL := 5) (plainFor_of_name (by decide)) rfl (Nat.le_of_ble_eq_true rfl) rfl ?_
  intro p e s m args below meth c A Q hx hb hml hts hown hA hK hP hD hS hend ls hl
  refine lv_iconst (v := 1) hx hb dX6_isBare_0 (by decide) ?_
  refine lv_istore_n (lv' := [(3, .int 1), (0, .ref z0), (1, .int s0), (2, .int ln)]) hx hb dX6_isBare_1 rfl hl (by decide) rfl (fun ls hl => ?_)
  refine lv_iconst (v := 0) hx hb dX6_isBare_2 (by decide) ?_
  refine lv_istore (lv' := [(4, .int 0), (3, .int 1), (0, .ref z0), (1, .int s0), (2, .int ln)]) hx hb dX6_isBare_3 hl (by decide) rfl (fun ls hl => ?_)
  have K5 : ∀ (n5 : Nat) (k : Nat), 24 - k < n5 → (k ≤ 24) → ∀ (H : Heap) (locs : List Loc), va_P G vwCl [(z0, .inr (5, [.int cd, .int (nI w), .int (nI h), .ref z1, .ref z2, .ref z3, .int (b2i mk), .int (b2i ms), .double mn, .ref z4, .int (nI tc), .ref z5, .int ba, .int br])), (z1, .inl (cZ, 576, .inl (bA P))), (z2, .inl (cZ, 576, .inl (bA N))), (z3, .inl (cI, 4, .inl (e4 ze le ue re de))), (z4, .inl (cI, 16, .inl TM)), (z5, .inl (cI, 104, .inl LN))] H → va_D A [(z0, .inr (5, [.int cd, .int (nI w), .int (nI h), .ref z1, .ref z2, .ref z3, .int (b2i mk), .int (b2i ms), .double mn, .ref z4, .int (nI tc), .ref z5, .int ba, .int br])), (z1, .inl (cZ, 576, .inl (bA P))), (z2, .inl (cZ, 576, .inl (bA N))), (z3, .inl (cI, 4, .inl (e4 ze le ue re de))), (z4, .inl (cI, 16, .inl TM)), (z5, .inl (cI, 104, .inl LN))] → va_S A s.heap H locs → ∀ ls : Array Slot, lv_has ls 5 [(0, .ref z0), (1, .int s0), (2, .int ln), (3, .int (b2i (brR w h P ln k))), (4, .int (nI k))] → W p l e rmX6_isBareR s m args below meth c H locs 0 0 Q (F0 m 5 ls []) := by
    intro n5
    induction n5 with
    | zero => intro k hn; exact absurd hn (by omega)
    | succ n5 ih5 =>
      intro k hn5 h_k H locs hP hD hS ls hl
      refine lv_iload hx hb dX6_isBare_5 (lv_at hl 4 rfl) ?_
      refine lv_bipush (v := 24) hx hb dX6_isBare_7 (by decide) ?_
      refine kGe (n := 24) (by omega) (by omega) (tgt := 57) hx hb dX6_isBare_9 (by decide) (fun c_9 => ?_) (fun c_9 => ?_)
      · have e9 : 24 = k := by omega
        subst e9
        refine lv_iload_n hx hb dX6_isBare_57 rfl (lv_at hl 3 rfl) ?_
        exact hend _ _ _ _ _ _ dX6_isBare_58 hP hD hS rfl rfl
      · refine lv_iload_n hx hb dX6_isBare_12 rfl (lv_at hl 3 rfl) ?_
        refine kIfEqB (tgt := 49) hx hb dX6_isBare_13 (by decide) (fun c_13 => ?_) (fun c_13 => ?_)
        · refine lv_iconst (v := 0) hx hb dX6_isBare_49 (by decide) ?_
          refine lv_istore_n (lv' := [(3, .int 0), (0, .ref z0), (1, .int s0), (2, .int ln), (4, .int (nI k))]) hx hb dX6_isBare_50 rfl hl (by decide) rfl (fun ls hl => ?_)
          have hE : 0 = b2i (brR w h P ln (k + 1)) := (by simp only [brR, c_13, ↓reduceIte, Bool.false_eq_true]; try rfl)
          rw [hE] at hl
          refine lv_iinc (v := nI (k + 1)) (lv' := [(4, .int (nI (k + 1))), (3, .int (b2i (brR w h P ln (k + 1)))), (0, .ref z0), (1, .int s0), (2, .int ln)]) hx hb dX6_isBare_51 hl (k := 4) rfl (nI_1 _) (by decide) rfl (fun ls hl => ?_)
          refine lv_goto (tgt := 5) hx hb dX6_isBare_54 (by decide) ?_
          exact ih5 (k + 1) (by omega) (by omega) _ _ hP hD hS _ (lv_sub hl [2, 3, 4, 1, 0] rfl)
        · refine lv_iload_n hx hb dX6_isBare_16 rfl (lv_at hl 1 rfl) ?_
          refine lv_iconst (v := 2) hx hb dX6_isBare_17 (by decide) ?_
          refine lv_irem hx hb dX6_isBare_18 (by decide) ?_
          refine lv_if_ne (tgt := 35) hx hb dX6_isBare_19 (by decide) (fun c_19 => ?_) (fun h9 => (absurd h9 hse))
          refine lv_aload_n hx hb dX6_isBare_35 rfl (lv_at hl 0 rfl) ?_
          refine lv_iload hx hb dX6_isBare_36 (lv_at hl 4 rfl) ?_
          refine lv_iload_n hx hb dX6_isBare_38 rfl (lv_at hl 2 rfl) ?_
          refine kVi (w' := [(z0, .inr (5, [.int cd, .int (nI w), .int (nI h), .ref z1, .ref z2, .ref z3, .int (b2i mk), .int (b2i ms), .double mn, .ref z4, .int (nI tc), .ref z5, .int ba, .int br])), (z1, .inl (cZ, 576, .inl (bA P))), (z2, .inl (cZ, 576, .inl (bA N))), (z3, .inl (cI, 4, .inl (e4 ze le ue re de))), (z4, .inl (cI, 16, .inl TM)), (z5, .inl (cI, 104, .inl LN))]) (wr := []) (isC := [0, 1, 2, 3, 4, 5]) (isR := []) (pm := [0, 1, 2, 3, 4, 5]) (rest := []) (kX6_isOn l G cI cZ cJ cD z0 z1 z2 z3 z4 z5 w h hw hh cd P N ze le ue re de mk ms mn tc TM LN ba br (nI k) ln) ⟨hx, hb, hml, hown, hts⟩ (cwV 2 hts gX6_isBare_X6_isOn rfl rfl rfl hd_X6_isOn ⟨Nat.le_of_ble_eq_true rfl, Nat.le_of_ble_eq_true rfl⟩) hK hP hD hS hA ⟨rfl, rfl, rfl, by decide, rfl, rfl, rfl⟩ 5 0 rfl rfl rfl hl.1 rfl (Nat.le_of_ble_eq_true rfl) dX6_isBare_39 ⟨Nat.le_of_ble_eq_true rfl, Nat.le_of_ble_eq_true rfl⟩ rfl rfl (fun H locs hP hD hS => ?_)
          refine kIfNeB (tgt := 49) hx hb dX6_isBare_42 (by decide) (fun c_42 => ?_) (fun c_42 => ?_)
          · refine lv_iconst (v := 0) hx hb dX6_isBare_49 (by decide) ?_
            refine lv_istore_n (lv' := [(3, .int 0), (0, .ref z0), (1, .int s0), (2, .int ln), (4, .int (nI k))]) hx hb dX6_isBare_50 rfl hl (by decide) rfl (fun ls hl => ?_)
            have hE : 0 = b2i (brR w h P ln (k + 1)) := (by simp only [brR, c_13, c_42, ↓reduceIte, Bool.false_eq_true]; try rfl)
            rw [hE] at hl
            refine lv_iinc (v := nI (k + 1)) (lv' := [(4, .int (nI (k + 1))), (3, .int (b2i (brR w h P ln (k + 1)))), (0, .ref z0), (1, .int s0), (2, .int ln)]) hx hb dX6_isBare_51 hl (k := 4) rfl (nI_1 _) (by decide) rfl (fun ls hl => ?_)
            refine lv_goto (tgt := 5) hx hb dX6_isBare_54 (by decide) ?_
            exact ih5 (k + 1) (by omega) (by omega) _ _ hP hD hS _ (lv_sub hl [2, 3, 4, 1, 0] rfl)
          · refine lv_iconst (v := 1) hx hb dX6_isBare_45 (by decide) ?_
            refine lv_goto (tgt := 50) hx hb dX6_isBare_46 (by decide) ?_
            refine lv_istore_n (lv' := [(3, .int 1), (0, .ref z0), (1, .int s0), (2, .int ln), (4, .int (nI k))]) hx hb dX6_isBare_50 rfl hl (by decide) rfl (fun ls hl => ?_)
            have hE : 1 = b2i (brR w h P ln (k + 1)) := (by simp only [brR, c_13, c_42, ↓reduceIte, Bool.false_eq_true]; try rfl)
            rw [hE] at hl
            refine lv_iinc (v := nI (k + 1)) (lv' := [(4, .int (nI (k + 1))), (3, .int (b2i (brR w h P ln (k + 1)))), (0, .ref z0), (1, .int s0), (2, .int ln)]) hx hb dX6_isBare_51 hl (k := 4) rfl (nI_1 _) (by decide) rfl (fun ls hl => ?_)
            refine lv_goto (tgt := 5) hx hb dX6_isBare_54 (by decide) ?_
            exact ih5 (k + 1) (by omega) (by omega) _ _ hP hD hS _ (lv_sub hl [2, 3, 4, 1, 0] rfl)
  exact K5 (24 - 0 + 1) 0 (by omega) (by omega) _ _ hP hD hS _ (lv_sub hl [2, 3, 4, 1, 0] rfl)
abbrev rmX6_crop1 : Room := { frames := 1, cells := 0, slots := 0, locals := 21 }
set_option maxRecDepth 100000 in
set_option maxHeartbeats 4000000 in
theorem kX6_crop1 (l : Launch) (G : va_G) (cI cZ cJ cD : ClassId) (z0 z1 z2 z3 z4 z5 w h : Nat) (hw : w ≤ 24) (hh : h ≤ 24) (cd : Int32) (P N : Nat → Bool) (ze : Nat → Int32) (le ue re de : Int32) (mk ms : Bool) (mn : UInt64) (tc : Nat) (TM LN : Nat → Int32) (ba br : Int32) (s0 : Int32) (hs1 : s0 < 0) : Ci l G (kTy cI cZ cJ cD) yX6_crop wsX6_crop rmX6_crop1 [.ref z0, .int s0] [(z0, .inr (5, [.int cd, .int (nI w), .int (nI h), .ref z1, .ref z2, .ref z3, .int (b2i mk), .int (b2i ms), .double mn, .ref z4, .int (nI tc), .ref z5, .int ba, .int br])), (z1, .inl (cZ, 576, .inl (bA P))), (z2, .inl (cZ, 576, .inl (bA N))), (z3, .inl (cI, 4, .inl (e4 ze le ue re de))), (z4, .inl (cI, 16, .inl TM)), (z5, .inl (cI, 104, .inl LN))] 0 [(z0, .inr (5, [.int 1, .int (nI w), .int (nI h), .ref z1, .ref z2, .ref z3, .int (b2i mk), .int (b2i ms), .double mn, .ref z4, .int (nI tc), .ref z5, .int ba, .int br])), (z1, .inl (cZ, 576, .inl (bA P))), (z2, .inl (cZ, 576, .inl (bA N))), (z3, .inl (cI, 4, .inl (e4 ze le ue re de))), (z4, .inl (cI, 16, .inl TM)), (z5, .inl (cI, 104, .inl LN))] := by
  refine Ci.of .int rfl rfl rfl (cc := cX6_crop) (maxL := 4) (plainFor_of_name (by decide)) rfl (Nat.le_of_ble_eq_true rfl) rfl ?_
  intro p e s m args below meth c A Q hx hb hml hts hown hA hK hP hD hS hend ls hl
  refine lv_aload_n hx hb dX6_crop_0 rfl (lv_at hl 0 rfl) ?_
  refine lv_iload_n hx hb dX6_crop_1 rfl (lv_at hl 1 rfl) ?_
  refine lv_if_lt (tgt := 10) hx hb dX6_crop_2 (by decide) (fun c_2 => ?_) (fun h9 => absurd hs1 h9)
  refine lv_iconst (v := 1) hx hb dX6_crop_10 (by decide) ?_
  refine lv_goto (tgt := 15) hx hb dX6_crop_11 (by decide) ?_
  refine kVi (w' := [(z0, .inr (5, [.int 1, .int (nI w), .int (nI h), .ref z1, .ref z2, .ref z3, .int (b2i mk), .int (b2i ms), .double mn, .ref z4, .int (nI tc), .ref z5, .int ba, .int br])), (z1, .inl (cZ, 576, .inl (bA P))), (z2, .inl (cZ, 576, .inl (bA N))), (z3, .inl (cI, 4, .inl (e4 ze le ue re de))), (z4, .inl (cI, 16, .inl TM)), (z5, .inl (cI, 104, .inl LN))]) (wr := []) (isC := [0, 1, 2, 3, 4, 5]) (isR := []) (pm := [0, 1, 2, 3, 4, 5]) (rest := []) (kX6_refuses l G cI cZ cJ cD z0 z1 z2 z3 z4 z5 w h hw hh cd P N ze le ue re de mk ms mn tc TM LN ba br 1) ⟨hx, hb, hml, hown, hts⟩ (cwV 1 hts gX6_crop_X6_refuses rfl rfl rfl hd_X6_refuses ⟨Nat.le_of_ble_eq_true rfl, Nat.le_of_ble_eq_true rfl⟩) hK hP hD hS hA ⟨rfl, rfl, rfl, by decide, rfl, rfl, rfl⟩ 5 0 rfl rfl rfl hl.1 rfl (Nat.le_of_ble_eq_true rfl) dX6_crop_15 ⟨Nat.le_of_ble_eq_true rfl, Nat.le_of_ble_eq_true rfl⟩ rfl rfl (fun H locs hP hD hS => ?_)
  refine kIfEqB (tgt := 23) hx hb dX6_crop_18 (by decide) (fun h9 => (absurd h9 (by decide))) (fun c_18 => ?_)
  refine lv_iconst (v := 0) hx hb dX6_crop_21 (by decide) ?_
  exact hend _ _ _ _ _ _ dX6_crop_22 hP hD hS rfl rfl
abbrev rmX6_crop2 : Room := { frames := 1, cells := 0, slots := 0, locals := 21 }
set_option maxRecDepth 100000 in
set_option maxHeartbeats 4000000 in
theorem kX6_crop2 (l : Launch) (G : va_G) (cI cZ cJ cD : ClassId) (z0 z1 z2 z3 z4 z5 w h : Nat) (hw : w ≤ 24) (hh : h ≤ 24) (cd : Int32) (P N : Nat → Bool) (ze : Nat → Int32) (le ue re de : Int32) (mk ms : Bool) (mn : UInt64) (tc : Nat) (TM LN : Nat → Int32) (ba br : Int32) (s0 : Int32) (hs1 : ¬ s0 < 0) (hs2 : ¬ s0 ≤ 3) : Ci l G (kTy cI cZ cJ cD) yX6_crop wsX6_crop rmX6_crop2 [.ref z0, .int s0] [(z0, .inr (5, [.int cd, .int (nI w), .int (nI h), .ref z1, .ref z2, .ref z3, .int (b2i mk), .int (b2i ms), .double mn, .ref z4, .int (nI tc), .ref z5, .int ba, .int br])), (z1, .inl (cZ, 576, .inl (bA P))), (z2, .inl (cZ, 576, .inl (bA N))), (z3, .inl (cI, 4, .inl (e4 ze le ue re de))), (z4, .inl (cI, 16, .inl TM)), (z5, .inl (cI, 104, .inl LN))] 0 [(z0, .inr (5, [.int 1, .int (nI w), .int (nI h), .ref z1, .ref z2, .ref z3, .int (b2i mk), .int (b2i ms), .double mn, .ref z4, .int (nI tc), .ref z5, .int ba, .int br])), (z1, .inl (cZ, 576, .inl (bA P))), (z2, .inl (cZ, 576, .inl (bA N))), (z3, .inl (cI, 4, .inl (e4 ze le ue re de))), (z4, .inl (cI, 16, .inl TM)), (z5, .inl (cI, 104, .inl LN))] := by
  refine Ci.of .int rfl rfl rfl (cc := cX6_crop) (maxL := 4) (plainFor_of_name (by decide)) rfl (Nat.le_of_ble_eq_true rfl) rfl ?_
  intro p e s m args below meth c A Q hx hb hml hts hown hA hK hP hD hS hend ls hl
  refine lv_aload_n hx hb dX6_crop_0 rfl (lv_at hl 0 rfl) ?_
  refine lv_iload_n hx hb dX6_crop_1 rfl (lv_at hl 1 rfl) ?_
  refine lv_if_lt (tgt := 10) hx hb dX6_crop_2 (by decide) (fun h9 => absurd h9 hs1) (fun c_2 => ?_)
  refine lv_iload_n hx hb dX6_crop_5 rfl (lv_at hl 1 rfl) ?_
  refine lv_iconst (v := 3) hx hb dX6_crop_6 (by decide) ?_
  refine lv_icmp_le (tgt := 14) hx hb dX6_crop_7 (by decide) (fun h9 => absurd h9 hs2) (fun c_7 => ?_)
  refine lv_iconst (v := 1) hx hb dX6_crop_10 (by decide) ?_
  refine lv_goto (tgt := 15) hx hb dX6_crop_11 (by decide) ?_
  refine kVi (w' := [(z0, .inr (5, [.int 1, .int (nI w), .int (nI h), .ref z1, .ref z2, .ref z3, .int (b2i mk), .int (b2i ms), .double mn, .ref z4, .int (nI tc), .ref z5, .int ba, .int br])), (z1, .inl (cZ, 576, .inl (bA P))), (z2, .inl (cZ, 576, .inl (bA N))), (z3, .inl (cI, 4, .inl (e4 ze le ue re de))), (z4, .inl (cI, 16, .inl TM)), (z5, .inl (cI, 104, .inl LN))]) (wr := []) (isC := [0, 1, 2, 3, 4, 5]) (isR := []) (pm := [0, 1, 2, 3, 4, 5]) (rest := []) (kX6_refuses l G cI cZ cJ cD z0 z1 z2 z3 z4 z5 w h hw hh cd P N ze le ue re de mk ms mn tc TM LN ba br 1) ⟨hx, hb, hml, hown, hts⟩ (cwV 1 hts gX6_crop_X6_refuses rfl rfl rfl hd_X6_refuses ⟨Nat.le_of_ble_eq_true rfl, Nat.le_of_ble_eq_true rfl⟩) hK hP hD hS hA ⟨rfl, rfl, rfl, by decide, rfl, rfl, rfl⟩ 5 0 rfl rfl rfl hl.1 rfl (Nat.le_of_ble_eq_true rfl) dX6_crop_15 ⟨Nat.le_of_ble_eq_true rfl, Nat.le_of_ble_eq_true rfl⟩ rfl rfl (fun H locs hP hD hS => ?_)
  refine kIfEqB (tgt := 23) hx hb dX6_crop_18 (by decide) (fun h9 => (absurd h9 (by decide))) (fun c_18 => ?_)
  refine lv_iconst (v := 0) hx hb dX6_crop_21 (by decide) ?_
  exact hend _ _ _ _ _ _ dX6_crop_22 hP hD hS rfl rfl
abbrev rmX6_cropN : Room := { frames := 1, cells := 0, slots := 0, locals := 22 }
set_option maxRecDepth 100000 in
set_option maxHeartbeats 4000000 in
theorem kX6_cropN (l : Launch) (G : va_G) (cI cZ cJ cD : ClassId) (z0 z1 z2 z3 z4 z5 w h : Nat) (hw : w ≤ 24) (hh : h ≤ 24) (cd : Int32) (P N : Nat → Bool) (ze : Nat → Int32) (le ue re de : Int32) (mk ms : Bool) (mn : UInt64) (tc : Nat) (TM LN : Nat → Int32) (ba br : Int32) (s0 : Int32) (hs1 : ¬ s0 < 0) (hs2 : s0 ≤ 3) (hz : mCnt P ≤ 0) : Ci l G (kTy cI cZ cJ cD) yX6_crop wsX6_crop rmX6_cropN [.ref z0, .int s0] [(z0, .inr (5, [.int cd, .int (nI w), .int (nI h), .ref z1, .ref z2, .ref z3, .int (b2i mk), .int (b2i ms), .double mn, .ref z4, .int (nI tc), .ref z5, .int ba, .int br])), (z1, .inl (cZ, 576, .inl (bA P))), (z2, .inl (cZ, 576, .inl (bA N))), (z3, .inl (cI, 4, .inl (e4 ze le ue re de))), (z4, .inl (cI, 16, .inl TM)), (z5, .inl (cI, 104, .inl LN))] 0 [(z0, .inr (5, [.int 0, .int (nI w), .int (nI h), .ref z1, .ref z2, .ref z3, .int (b2i mk), .int (b2i ms), .double mn, .ref z4, .int (nI tc), .ref z5, .int ba, .int br])), (z1, .inl (cZ, 576, .inl (bA P))), (z2, .inl (cZ, 576, .inl (bA N))), (z3, .inl (cI, 4, .inl (e4 ze le ue re de))), (z4, .inl (cI, 16, .inl TM)), (z5, .inl (cI, 104, .inl LN))] := by
  refine Ci.of .int rfl rfl rfl (cc := cX6_crop) (maxL := 4) (plainFor_of_name (by decide)) rfl (Nat.le_of_ble_eq_true rfl) rfl ?_
  intro p e s m args below meth c A Q hx hb hml hts hown hA hK hP hD hS hend ls hl
  refine lv_aload_n hx hb dX6_crop_0 rfl (lv_at hl 0 rfl) ?_
  refine lv_iload_n hx hb dX6_crop_1 rfl (lv_at hl 1 rfl) ?_
  refine lv_if_lt (tgt := 10) hx hb dX6_crop_2 (by decide) (fun h9 => absurd h9 hs1) (fun c_2 => ?_)
  refine lv_iload_n hx hb dX6_crop_5 rfl (lv_at hl 1 rfl) ?_
  refine lv_iconst (v := 3) hx hb dX6_crop_6 (by decide) ?_
  refine lv_icmp_le (tgt := 14) hx hb dX6_crop_7 (by decide) (fun c_7 => ?_) (fun h9 => absurd hs2 h9)
  refine lv_iconst (v := 0) hx hb dX6_crop_14 (by decide) ?_
  refine kVi (w' := [(z0, .inr (5, [.int 0, .int (nI w), .int (nI h), .ref z1, .ref z2, .ref z3, .int (b2i mk), .int (b2i ms), .double mn, .ref z4, .int (nI tc), .ref z5, .int ba, .int br])), (z1, .inl (cZ, 576, .inl (bA P))), (z2, .inl (cZ, 576, .inl (bA N))), (z3, .inl (cI, 4, .inl (e4 ze le ue re de))), (z4, .inl (cI, 16, .inl TM)), (z5, .inl (cI, 104, .inl LN))]) (wr := []) (isC := [0, 1, 2, 3, 4, 5]) (isR := []) (pm := [0, 1, 2, 3, 4, 5]) (rest := []) (kX6_refuses l G cI cZ cJ cD z0 z1 z2 z3 z4 z5 w h hw hh cd P N ze le ue re de mk ms mn tc TM LN ba br 0) ⟨hx, hb, hml, hown, hts⟩ (cwV 1 hts gX6_crop_X6_refuses rfl rfl rfl hd_X6_refuses ⟨Nat.le_of_ble_eq_true rfl, Nat.le_of_ble_eq_true rfl⟩) hK hP hD hS hA ⟨rfl, rfl, rfl, by decide, rfl, rfl, rfl⟩ 5 0 rfl rfl rfl hl.1 rfl (Nat.le_of_ble_eq_true rfl) dX6_crop_15 ⟨Nat.le_of_ble_eq_true rfl, Nat.le_of_ble_eq_true rfl⟩ rfl rfl (fun H locs hP hD hS => ?_)
  refine kIfEqB (tgt := 23) hx hb dX6_crop_18 (by decide) (fun c_18 => ?_) (fun h9 => (absurd h9 (by decide)))
  refine lv_iconst (v := 0) hx hb dX6_crop_23 (by decide) ?_
  refine lv_istore_n (lv' := [(2, .int 0), (0, .ref z0), (1, .int s0)]) hx hb dX6_crop_24 rfl hl (by decide) rfl (fun ls hl => ?_)
  refine lv_aload_n hx hb dX6_crop_25 rfl (lv_at hl 1 rfl) ?_
  refine kVi (w' := [(z0, .inr (5, [.int 0, .int (nI w), .int (nI h), .ref z1, .ref z2, .ref z3, .int (b2i mk), .int (b2i ms), .double mn, .ref z4, .int (nI tc), .ref z5, .int ba, .int br])), (z1, .inl (cZ, 576, .inl (bA P))), (z2, .inl (cZ, 576, .inl (bA N))), (z3, .inl (cI, 4, .inl (e4 ze le ue re de))), (z4, .inl (cI, 16, .inl TM)), (z5, .inl (cI, 104, .inl LN))]) (wr := []) (isC := [0, 1, 2, 3, 4, 5]) (isR := []) (pm := [0, 1, 2, 3, 4, 5]) (rest := []) (kX6_countOn l G cI cZ cJ cD z0 z1 z2 z3 z4 z5 w h hw hh 0 P N ze le ue re de mk ms mn tc TM LN ba br ) ⟨hx, hb, hml, hown, hts⟩ (cwV 0 hts gX6_crop_X6_countOn rfl rfl rfl hd_X6_countOn ⟨Nat.le_of_ble_eq_true rfl, Nat.le_of_ble_eq_true rfl⟩) hK hP hD hS hA ⟨rfl, rfl, rfl, by decide, rfl, rfl, rfl⟩ 5 0 rfl rfl rfl hl.1 rfl (Nat.le_of_ble_eq_true rfl) dX6_crop_26 ⟨Nat.le_of_ble_eq_true rfl, Nat.le_of_ble_eq_true rfl⟩ rfl rfl (fun H locs hP hD hS => ?_)
  refine lv_if_le (tgt := 36) hx hb dX6_crop_29 (by decide) (fun c_29 => ?_) (fun h9 => absurd hz h9)
  refine lv_iconst (v := 0) hx hb dX6_crop_36 (by decide) ?_
  refine lv_istore_n (lv' := [(3, .int 0), (2, .int 0), (0, .ref z0), (1, .int s0)]) hx hb dX6_crop_37 rfl hl (by decide) rfl (fun ls hl => ?_)
  refine lv_iload_n hx hb dX6_crop_38 rfl (lv_at hl 0 rfl) ?_
  refine lv_if_eq (tgt := 97) hx hb dX6_crop_39 (by decide) (fun c_39 => ?_) (fun h9 => absurd rfl h9)
  refine lv_iload_n hx hb dX6_crop_97 rfl (lv_at hl 1 rfl) ?_
  exact hend _ _ _ _ _ _ dX6_crop_98 hP hD hS rfl rfl
theorem in_kX6_cropS0_X6 : ∀ w ∈ u_ws RX6 TX6 14, w ∈ wsX6_crop := by decide +kernel
theorem fl_kX6_cropS0_16 : Cond.fieldLink RX6 16 "SkewFindModel" "ends" "[I" ∈ wsX6_crop := by decide +kernel
abbrev rmX6_cropS0 : Room := { frames := 2, cells := 0, slots := 0, locals := 46 }
set_option maxRecDepth 100000 in
set_option maxHeartbeats 4000000 in
theorem kX6_cropS0 (l : Launch) (G : va_G) (cI cZ cJ cD : ClassId) (z0 z1 z2 z3 z4 z5 w h : Nat) (hw : w ≤ 24) (hh : h ≤ 24) (cd : Int32) (P N : Nat → Bool) (ze : Nat → Int32) (le ue re de : Int32) (mk ms : Bool) (mn : UInt64) (tc : Nat) (TM LN : Nat → Int32) (ba br : Int32) (l0 c0 : Nat) (hlc : l0 ≤ c0) (hc0 : c0 ≤ 24) (hz : ¬ mCnt P ≤ 0) (hb1 : ∀ i, l0 ≤ i → i < c0 → baC w h P (nI i) = true) (hb2 : baC w h P (nI c0) = false) : Ci l G (kTy cI cZ cJ cD) yX6_crop wsX6_crop rmX6_cropS0 [.ref z0, .int 0] [(z0, .inr (5, [.int cd, .int (nI w), .int (nI h), .ref z1, .ref z2, .ref z3, .int (b2i mk), .int (b2i ms), .double mn, .ref z4, .int (nI tc), .ref z5, .int ba, .int br])), (z1, .inl (cZ, 576, .inl (bA P))), (z2, .inl (cZ, 576, .inl (bA N))), (z3, .inl (cI, 4, .inl (e4 ze (nI l0) ue re de))), (z4, .inl (cI, 16, .inl TM)), (z5, .inl (cI, 104, .inl LN))] (nI (c0 - l0)) [(z0, .inr (5, [.int 0, .int (nI w), .int (nI h), .ref z1, .ref z2, .ref z3, .int (b2i mk), .int (b2i ms), .double mn, .ref z4, .int (nI tc), .ref z5, .int ba, .int br])), (z1, .inl (cZ, 576, .inl (bA P))), (z2, .inl (cZ, 576, .inl (bA N))), (z3, .inl (cI, 4, .inl (e4 ze (nI c0) ue re de))), (z4, .inl (cI, 16, .inl TM)), (z5, .inl (cI, 104, .inl LN))] := by
  refine Ci.of .int rfl rfl rfl (cc := cX6_crop) (maxL := 4) (plainFor_of_name (by decide)) rfl (Nat.le_of_ble_eq_true rfl) rfl ?_
  intro p e s m args below meth c A Q hx hb hml hts hown hA hK hP hD hS hend ls hl
  refine lv_aload_n hx hb dX6_crop_0 rfl (lv_at hl 0 rfl) ?_
  refine lv_iload_n hx hb dX6_crop_1 rfl (lv_at hl 1 rfl) ?_
  refine lv_if_lt (tgt := 10) hx hb dX6_crop_2 (by decide) (fun h9 => absurd h9 (by decide)) (fun c_2 => ?_)
  refine lv_iload_n hx hb dX6_crop_5 rfl (lv_at hl 1 rfl) ?_
  refine lv_iconst (v := 3) hx hb dX6_crop_6 (by decide) ?_
  refine lv_icmp_le (tgt := 14) hx hb dX6_crop_7 (by decide) (fun c_7 => ?_) (fun h9 => absurd (by decide) h9)
  refine lv_iconst (v := 0) hx hb dX6_crop_14 (by decide) ?_
  refine kVi (w' := [(z0, .inr (5, [.int 0, .int (nI w), .int (nI h), .ref z1, .ref z2, .ref z3, .int (b2i mk), .int (b2i ms), .double mn, .ref z4, .int (nI tc), .ref z5, .int ba, .int br])), (z1, .inl (cZ, 576, .inl (bA P))), (z2, .inl (cZ, 576, .inl (bA N))), (z3, .inl (cI, 4, .inl (e4 ze (nI l0) ue re de))), (z4, .inl (cI, 16, .inl TM)), (z5, .inl (cI, 104, .inl LN))]) (wr := []) (isC := [0, 1, 2, 3, 4, 5]) (isR := []) (pm := [0, 1, 2, 3, 4, 5]) (rest := []) (kX6_refuses l G cI cZ cJ cD z0 z1 z2 z3 z4 z5 w h hw hh cd P N ze (nI l0) ue re de mk ms mn tc TM LN ba br 0) ⟨hx, hb, hml, hown, hts⟩ (cwV 1 hts gX6_crop_X6_refuses rfl rfl rfl hd_X6_refuses ⟨Nat.le_of_ble_eq_true rfl, Nat.le_of_ble_eq_true rfl⟩) hK hP hD hS hA ⟨rfl, rfl, rfl, by decide, rfl, rfl, rfl⟩ 5 0 rfl rfl rfl hl.1 rfl (Nat.le_of_ble_eq_true rfl) dX6_crop_15 ⟨Nat.le_of_ble_eq_true rfl, Nat.le_of_ble_eq_true rfl⟩ rfl rfl (fun H locs hP hD hS => ?_)
  refine kIfEqB (tgt := 23) hx hb dX6_crop_18 (by decide) (fun c_18 => ?_) (fun h9 => (absurd h9 (by decide)))
  refine lv_iconst (v := 0) hx hb dX6_crop_23 (by decide) ?_
  refine kTopI (z := nI (l0 - l0)) (by rw [Nat.sub_self]; rfl) ?_
  refine lv_istore_n (lv' := [(2, .int (nI (l0 - l0))), (0, .ref z0), (1, .int 0)]) hx hb dX6_crop_24 rfl hl (by decide) rfl (fun ls hl => ?_)
  refine lv_aload_n hx hb dX6_crop_25 rfl (lv_at hl 1 rfl) ?_
  refine kVi (w' := [(z0, .inr (5, [.int 0, .int (nI w), .int (nI h), .ref z1, .ref z2, .ref z3, .int (b2i mk), .int (b2i ms), .double mn, .ref z4, .int (nI tc), .ref z5, .int ba, .int br])), (z1, .inl (cZ, 576, .inl (bA P))), (z2, .inl (cZ, 576, .inl (bA N))), (z3, .inl (cI, 4, .inl (e4 ze (nI l0) ue re de))), (z4, .inl (cI, 16, .inl TM)), (z5, .inl (cI, 104, .inl LN))]) (wr := []) (isC := [0, 1, 2, 3, 4, 5]) (isR := []) (pm := [0, 1, 2, 3, 4, 5]) (rest := []) (kX6_countOn l G cI cZ cJ cD z0 z1 z2 z3 z4 z5 w h hw hh 0 P N ze (nI l0) ue re de mk ms mn tc TM LN ba br ) ⟨hx, hb, hml, hown, hts⟩ (cwV 0 hts gX6_crop_X6_countOn rfl rfl rfl hd_X6_countOn ⟨Nat.le_of_ble_eq_true rfl, Nat.le_of_ble_eq_true rfl⟩) hK hP hD hS hA ⟨rfl, rfl, rfl, by decide, rfl, rfl, rfl⟩ 5 0 rfl rfl rfl hl.1 rfl (Nat.le_of_ble_eq_true rfl) dX6_crop_26 ⟨Nat.le_of_ble_eq_true rfl, Nat.le_of_ble_eq_true rfl⟩ rfl rfl (fun H locs hP hD hS => ?_)
  refine lv_if_le (tgt := 36) hx hb dX6_crop_29 (by decide) (fun h9 => absurd h9 hz) (fun c_29 => ?_)
  refine lv_iconst (v := 1) hx hb dX6_crop_32 (by decide) ?_
  refine lv_goto (tgt := 37) hx hb dX6_crop_33 (by decide) ?_
  refine lv_istore_n (lv' := [(3, .int 1), (2, .int (nI (l0 - l0))), (0, .ref z0), (1, .int 0)]) hx hb dX6_crop_37 rfl hl (by decide) rfl (fun ls hl => ?_)
  have K38 : ∀ (n38 : Nat) (i : Nat), c0 - i < n38 → (l0 ≤ i) → (i ≤ c0) → ∀ (H : Heap) (locs : List Loc), va_P G vwCl [(z0, .inr (5, [.int 0, .int (nI w), .int (nI h), .ref z1, .ref z2, .ref z3, .int (b2i mk), .int (b2i ms), .double mn, .ref z4, .int (nI tc), .ref z5, .int ba, .int br])), (z1, .inl (cZ, 576, .inl (bA P))), (z2, .inl (cZ, 576, .inl (bA N))), (z3, .inl (cI, 4, .inl (e4 ze (nI i) ue re de))), (z4, .inl (cI, 16, .inl TM)), (z5, .inl (cI, 104, .inl LN))] H → va_D A [(z0, .inr (5, [.int 0, .int (nI w), .int (nI h), .ref z1, .ref z2, .ref z3, .int (b2i mk), .int (b2i ms), .double mn, .ref z4, .int (nI tc), .ref z5, .int ba, .int br])), (z1, .inl (cZ, 576, .inl (bA P))), (z2, .inl (cZ, 576, .inl (bA N))), (z3, .inl (cI, 4, .inl (e4 ze (nI i) ue re de))), (z4, .inl (cI, 16, .inl TM)), (z5, .inl (cI, 104, .inl LN))] → va_S A s.heap H locs → ∀ ls : Array Slot, lv_has ls 4 [(0, .ref z0), (1, .int 0), (2, .int (nI (i - l0))), (3, .int 1)] → W p l e rmX6_cropS0 s m args below meth c H locs 0 0 Q (F0 m 38 ls []) := by
    intro n38
    induction n38 with
    | zero => intro i hn; exact absurd hn (by omega)
    | succ n38 ih38 =>
      intro i hn38 hi1 hi2 H locs hP hD hS ls hl
      refine lv_iload_n hx hb dX6_crop_38 rfl (lv_at hl 3 rfl) ?_
      refine lv_if_eq (tgt := 97) hx hb dX6_crop_39 (by decide) (fun h9 => (absurd h9 (by decide))) (fun c_39 => ?_)
      refine lv_aload_n hx hb dX6_crop_42 rfl (lv_at hl 0 rfl) ?_
      refine lv_iload_n hx hb dX6_crop_43 rfl (lv_at hl 1 rfl) ?_
      refine lv_iload_n hx hb dX6_crop_44 rfl (lv_at hl 1 rfl) ?_
      refine lv_iconst (v := 2) hx hb dX6_crop_45 (by decide) ?_
      refine lv_icmp_ge (tgt := 58) hx hb dX6_crop_46 (by decide) (fun h9 => absurd h9 (by decide)) (fun c_46 => ?_)
      refine lv_aload_n hx hb dX6_crop_49 rfl (lv_at hl 0 rfl) ?_
      refine va_get (D := G) (ci := 5) (v := .ref z3) (C := RX6) (T := TX6) (N := 14) hx hb hts in_kX6_cropS0_X6 hown hK hP 0 rfl rfl 5 (by decide) (hts _ fl_kX6_cropS0_16) (fun _ h9 => h9) rfl dX6_crop_50 ?_
      refine lv_iload_n hx hb dX6_crop_53 rfl (lv_at hl 1 rfl) ?_
      refine va_iald hx hb hK hP 3 0 rfl rfl vp_in_lit.1 dX6_crop_54 ?_
      refine kTopI (z := nI i) rfl ?_
      refine lv_goto (tgt := 66) hx hb dX6_crop_55 (by decide) ?_
      refine kVi (w' := [(z0, .inr (5, [.int 0, .int (nI w), .int (nI h), .ref z1, .ref z2, .ref z3, .int (b2i mk), .int (b2i ms), .double mn, .ref z4, .int (nI tc), .ref z5, .int ba, .int br])), (z1, .inl (cZ, 576, .inl (bA P))), (z2, .inl (cZ, 576, .inl (bA N))), (z3, .inl (cI, 4, .inl (e4 ze (nI i) ue re de))), (z4, .inl (cI, 16, .inl TM)), (z5, .inl (cI, 104, .inl LN))]) (wr := []) (isC := [0, 1, 2, 3, 4, 5]) (isR := []) (pm := [0, 1, 2, 3, 4, 5]) (rest := []) (kX6_isBareC l G cI cZ cJ cD z0 z1 z2 z3 z4 z5 w h hw hh 0 P N ze (nI i) ue re de mk ms mn tc TM LN ba br 0 (nI i) (by decide)) ⟨hx, hb, hml, hown, hts⟩ (cwV 2 hts gX6_crop_X6_isBare rfl rfl rfl hd_X6_isBare ⟨Nat.le_of_ble_eq_true rfl, Nat.le_of_ble_eq_true rfl⟩) hK hP hD hS hA ⟨rfl, rfl, rfl, by decide, rfl, rfl, rfl⟩ 5 0 rfl rfl rfl hl.1 rfl (Nat.le_of_ble_eq_true rfl) dX6_crop_66 ⟨Nat.le_of_ble_eq_true rfl, Nat.le_of_ble_eq_true rfl⟩ rfl rfl (fun H locs hP hD hS => ?_)
      refine kIfEqB (tgt := 97) hx hb dX6_crop_69 (by decide) (fun c_69 => ?_) (fun c_69 => ?_)
      · have e9 : c0 = i := (Nat.le_antisymm hi2 (Nat.le_of_not_lt fun q => by have z := hb1 i hi1 q; rw [c_69] at z; cases z)).symm
        subst e9
        refine lv_iload_n hx hb dX6_crop_97 rfl (lv_at hl 2 rfl) ?_
        exact hend _ _ _ _ _ _ dX6_crop_98 hP hD hS rfl rfl
      · have hne := Nat.lt_of_le_of_ne hi2 (fun q => by rw [q, hb2] at c_69; cases c_69)
        refine lv_aload_n hx hb dX6_crop_72 rfl (lv_at hl 0 rfl) ?_
        refine va_get (D := G) (ci := 5) (v := .ref z3) (C := RX6) (T := TX6) (N := 14) hx hb hts in_kX6_cropS0_X6 hown hK hP 0 rfl rfl 5 (by decide) (hts _ fl_kX6_cropS0_16) (fun _ h9 => h9) rfl dX6_crop_73 ?_
        refine lv_iload_n hx hb dX6_crop_76 rfl (lv_at hl 1 rfl) ?_
        refine lv_dup2_11 hx hb dX6_crop_77 rfl rfl ?_
        refine va_iald hx hb hK hP 3 0 rfl rfl vp_in_lit.1 dX6_crop_78 ?_
        refine kTopI (z := nI i) rfl ?_
        refine lv_iload_n hx hb dX6_crop_79 rfl (lv_at hl 1 rfl) ?_
        refine lv_iconst (v := 2) hx hb dX6_crop_80 (by decide) ?_
        refine lv_icmp_ge (tgt := 88) hx hb dX6_crop_81 (by decide) (fun h9 => absurd h9 (by decide)) (fun c_81 => ?_)
        refine lv_iconst (v := 1) hx hb dX6_crop_84 (by decide) ?_
        refine lv_goto (tgt := 89) hx hb dX6_crop_85 (by decide) ?_
        refine lv_iadd hx hb dX6_crop_89 ?_
        refine kTopI (z := nI (i + 1)) (nI_1 i) ?_
        refine va_iast hx hb hK hP hD hS 3 0 rfl rfl vp_in_lit.1 dX6_crop_90 (fun H locs (hP : va_P G vwCl [(z0, .inr (5, [.int 0, .int (nI w), .int (nI h), .ref z1, .ref z2, .ref z3, .int (b2i mk), .int (b2i ms), .double mn, .ref z4, .int (nI tc), .ref z5, .int ba, .int br])), (z1, .inl (cZ, 576, .inl (bA P))), (z2, .inl (cZ, 576, .inl (bA N))), (z3, .inl (cI, 4, .inl (upd (e4 ze (nI i) ue re de) (0 : Int32).toNatClampNeg (nI (i + 1))))), (z4, .inl (cI, 16, .inl TM)), (z5, .inl (cI, 104, .inl LN))] H) (hD : va_D A [(z0, .inr (5, [.int 0, .int (nI w), .int (nI h), .ref z1, .ref z2, .ref z3, .int (b2i mk), .int (b2i ms), .double mn, .ref z4, .int (nI tc), .ref z5, .int ba, .int br])), (z1, .inl (cZ, 576, .inl (bA P))), (z2, .inl (cZ, 576, .inl (bA N))), (z3, .inl (cI, 4, .inl (upd (e4 ze (nI i) ue re de) (0 : Int32).toNatClampNeg (nI (i + 1))))), (z4, .inl (cI, 16, .inl TM)), (z5, .inl (cI, 104, .inl LN))]) hS => ?_)
        have hE : upd (e4 ze (nI i) ue re de) (0 : Int32).toNatClampNeg (nI (i + 1)) = e4 ze (nI (i + 1)) ue re de := e4_0 _ _ _ _ _ _
        rw [hE] at hP hD
        refine lv_iinc (v := nI ((i - l0) + 1)) (lv' := [(2, .int (nI ((i - l0) + 1))), (0, .ref z0), (1, .int 0), (3, .int 1)]) hx hb dX6_crop_91 hl (k := 2) rfl (nI_1 _) (by decide) rfl (fun ls hl => ?_)
        have hE : nI ((i - l0) + 1) = nI (i + 1 - l0) := by rw [show i + 1 - l0 = i - l0 + 1 by omega]
        rw [hE] at hl
        refine lv_goto (tgt := 38) hx hb dX6_crop_94 (by decide) ?_
        exact ih38 (i + 1) (by omega) (by omega) (by omega) _ _ hP hD hS _ (lv_sub hl [1, 2, 0, 3] rfl)
  exact K38 (c0 - l0 + 1) l0 (by omega) (by omega) (by omega) _ _ hP hD hS _ (lv_sub hl [2, 3, 1, 0] rfl)
theorem in_kX6_cropS1_X6 : ∀ w ∈ u_ws RX6 TX6 14, w ∈ wsX6_crop := by decide +kernel
theorem fl_kX6_cropS1_16 : Cond.fieldLink RX6 16 "SkewFindModel" "ends" "[I" ∈ wsX6_crop := by decide +kernel
abbrev rmX6_cropS1 : Room := { frames := 2, cells := 0, slots := 0, locals := 46 }
set_option maxRecDepth 100000 in
set_option maxHeartbeats 4000000 in
theorem kX6_cropS1 (l : Launch) (G : va_G) (cI cZ cJ cD : ClassId) (z0 z1 z2 z3 z4 z5 w h : Nat) (hw : w ≤ 24) (hh : h ≤ 24) (cd : Int32) (P N : Nat → Bool) (ze : Nat → Int32) (le ue re de : Int32) (mk ms : Bool) (mn : UInt64) (tc : Nat) (TM LN : Nat → Int32) (ba br : Int32) (l0 c0 : Nat) (hlc : l0 ≤ c0) (hc0 : c0 ≤ 24) (hz : ¬ mCnt P ≤ 0) (hb1 : ∀ i, l0 ≤ i → i < c0 → baR w h P (nI i) = true) (hb2 : baR w h P (nI c0) = false) : Ci l G (kTy cI cZ cJ cD) yX6_crop wsX6_crop rmX6_cropS1 [.ref z0, .int 1] [(z0, .inr (5, [.int cd, .int (nI w), .int (nI h), .ref z1, .ref z2, .ref z3, .int (b2i mk), .int (b2i ms), .double mn, .ref z4, .int (nI tc), .ref z5, .int ba, .int br])), (z1, .inl (cZ, 576, .inl (bA P))), (z2, .inl (cZ, 576, .inl (bA N))), (z3, .inl (cI, 4, .inl (e4 ze le (nI l0) re de))), (z4, .inl (cI, 16, .inl TM)), (z5, .inl (cI, 104, .inl LN))] (nI (c0 - l0)) [(z0, .inr (5, [.int 0, .int (nI w), .int (nI h), .ref z1, .ref z2, .ref z3, .int (b2i mk), .int (b2i ms), .double mn, .ref z4, .int (nI tc), .ref z5, .int ba, .int br])), (z1, .inl (cZ, 576, .inl (bA P))), (z2, .inl (cZ, 576, .inl (bA N))), (z3, .inl (cI, 4, .inl (e4 ze le (nI c0) re de))), (z4, .inl (cI, 16, .inl TM)), (z5, .inl (cI, 104, .inl LN))] := by
  refine Ci.of .int rfl rfl rfl (cc := cX6_crop) (maxL := 4) (plainFor_of_name (by decide)) rfl (Nat.le_of_ble_eq_true rfl) rfl ?_
  intro p e s m args below meth c A Q hx hb hml hts hown hA hK hP hD hS hend ls hl
  refine lv_aload_n hx hb dX6_crop_0 rfl (lv_at hl 0 rfl) ?_
  refine lv_iload_n hx hb dX6_crop_1 rfl (lv_at hl 1 rfl) ?_
  refine lv_if_lt (tgt := 10) hx hb dX6_crop_2 (by decide) (fun h9 => absurd h9 (by decide)) (fun c_2 => ?_)
  refine lv_iload_n hx hb dX6_crop_5 rfl (lv_at hl 1 rfl) ?_
  refine lv_iconst (v := 3) hx hb dX6_crop_6 (by decide) ?_
  refine lv_icmp_le (tgt := 14) hx hb dX6_crop_7 (by decide) (fun c_7 => ?_) (fun h9 => absurd (by decide) h9)
  refine lv_iconst (v := 0) hx hb dX6_crop_14 (by decide) ?_
  refine kVi (w' := [(z0, .inr (5, [.int 0, .int (nI w), .int (nI h), .ref z1, .ref z2, .ref z3, .int (b2i mk), .int (b2i ms), .double mn, .ref z4, .int (nI tc), .ref z5, .int ba, .int br])), (z1, .inl (cZ, 576, .inl (bA P))), (z2, .inl (cZ, 576, .inl (bA N))), (z3, .inl (cI, 4, .inl (e4 ze le (nI l0) re de))), (z4, .inl (cI, 16, .inl TM)), (z5, .inl (cI, 104, .inl LN))]) (wr := []) (isC := [0, 1, 2, 3, 4, 5]) (isR := []) (pm := [0, 1, 2, 3, 4, 5]) (rest := []) (kX6_refuses l G cI cZ cJ cD z0 z1 z2 z3 z4 z5 w h hw hh cd P N ze le (nI l0) re de mk ms mn tc TM LN ba br 0) ⟨hx, hb, hml, hown, hts⟩ (cwV 1 hts gX6_crop_X6_refuses rfl rfl rfl hd_X6_refuses ⟨Nat.le_of_ble_eq_true rfl, Nat.le_of_ble_eq_true rfl⟩) hK hP hD hS hA ⟨rfl, rfl, rfl, by decide, rfl, rfl, rfl⟩ 5 0 rfl rfl rfl hl.1 rfl (Nat.le_of_ble_eq_true rfl) dX6_crop_15 ⟨Nat.le_of_ble_eq_true rfl, Nat.le_of_ble_eq_true rfl⟩ rfl rfl (fun H locs hP hD hS => ?_)
  refine kIfEqB (tgt := 23) hx hb dX6_crop_18 (by decide) (fun c_18 => ?_) (fun h9 => (absurd h9 (by decide)))
  refine lv_iconst (v := 0) hx hb dX6_crop_23 (by decide) ?_
  refine kTopI (z := nI (l0 - l0)) (by rw [Nat.sub_self]; rfl) ?_
  refine lv_istore_n (lv' := [(2, .int (nI (l0 - l0))), (0, .ref z0), (1, .int 1)]) hx hb dX6_crop_24 rfl hl (by decide) rfl (fun ls hl => ?_)
  refine lv_aload_n hx hb dX6_crop_25 rfl (lv_at hl 1 rfl) ?_
  refine kVi (w' := [(z0, .inr (5, [.int 0, .int (nI w), .int (nI h), .ref z1, .ref z2, .ref z3, .int (b2i mk), .int (b2i ms), .double mn, .ref z4, .int (nI tc), .ref z5, .int ba, .int br])), (z1, .inl (cZ, 576, .inl (bA P))), (z2, .inl (cZ, 576, .inl (bA N))), (z3, .inl (cI, 4, .inl (e4 ze le (nI l0) re de))), (z4, .inl (cI, 16, .inl TM)), (z5, .inl (cI, 104, .inl LN))]) (wr := []) (isC := [0, 1, 2, 3, 4, 5]) (isR := []) (pm := [0, 1, 2, 3, 4, 5]) (rest := []) (kX6_countOn l G cI cZ cJ cD z0 z1 z2 z3 z4 z5 w h hw hh 0 P N ze le (nI l0) re de mk ms mn tc TM LN ba br ) ⟨hx, hb, hml, hown, hts⟩ (cwV 0 hts gX6_crop_X6_countOn rfl rfl rfl hd_X6_countOn ⟨Nat.le_of_ble_eq_true rfl, Nat.le_of_ble_eq_true rfl⟩) hK hP hD hS hA ⟨rfl, rfl, rfl, by decide, rfl, rfl, rfl⟩ 5 0 rfl rfl rfl hl.1 rfl (Nat.le_of_ble_eq_true rfl) dX6_crop_26 ⟨Nat.le_of_ble_eq_true rfl, Nat.le_of_ble_eq_true rfl⟩ rfl rfl (fun H locs hP hD hS => ?_)
  refine lv_if_le (tgt := 36) hx hb dX6_crop_29 (by decide) (fun h9 => absurd h9 hz) (fun c_29 => ?_)
  refine lv_iconst (v := 1) hx hb dX6_crop_32 (by decide) ?_
  refine lv_goto (tgt := 37) hx hb dX6_crop_33 (by decide) ?_
  refine lv_istore_n (lv' := [(3, .int 1), (2, .int (nI (l0 - l0))), (0, .ref z0), (1, .int 1)]) hx hb dX6_crop_37 rfl hl (by decide) rfl (fun ls hl => ?_)
  have K38 : ∀ (n38 : Nat) (i : Nat), c0 - i < n38 → (l0 ≤ i) → (i ≤ c0) → ∀ (H : Heap) (locs : List Loc), va_P G vwCl [(z0, .inr (5, [.int 0, .int (nI w), .int (nI h), .ref z1, .ref z2, .ref z3, .int (b2i mk), .int (b2i ms), .double mn, .ref z4, .int (nI tc), .ref z5, .int ba, .int br])), (z1, .inl (cZ, 576, .inl (bA P))), (z2, .inl (cZ, 576, .inl (bA N))), (z3, .inl (cI, 4, .inl (e4 ze le (nI i) re de))), (z4, .inl (cI, 16, .inl TM)), (z5, .inl (cI, 104, .inl LN))] H → va_D A [(z0, .inr (5, [.int 0, .int (nI w), .int (nI h), .ref z1, .ref z2, .ref z3, .int (b2i mk), .int (b2i ms), .double mn, .ref z4, .int (nI tc), .ref z5, .int ba, .int br])), (z1, .inl (cZ, 576, .inl (bA P))), (z2, .inl (cZ, 576, .inl (bA N))), (z3, .inl (cI, 4, .inl (e4 ze le (nI i) re de))), (z4, .inl (cI, 16, .inl TM)), (z5, .inl (cI, 104, .inl LN))] → va_S A s.heap H locs → ∀ ls : Array Slot, lv_has ls 4 [(0, .ref z0), (1, .int 1), (2, .int (nI (i - l0))), (3, .int 1)] → W p l e rmX6_cropS1 s m args below meth c H locs 0 0 Q (F0 m 38 ls []) := by
    intro n38
    induction n38 with
    | zero => intro i hn; exact absurd hn (by omega)
    | succ n38 ih38 =>
      intro i hn38 hi1 hi2 H locs hP hD hS ls hl
      refine lv_iload_n hx hb dX6_crop_38 rfl (lv_at hl 3 rfl) ?_
      refine lv_if_eq (tgt := 97) hx hb dX6_crop_39 (by decide) (fun h9 => (absurd h9 (by decide))) (fun c_39 => ?_)
      refine lv_aload_n hx hb dX6_crop_42 rfl (lv_at hl 0 rfl) ?_
      refine lv_iload_n hx hb dX6_crop_43 rfl (lv_at hl 1 rfl) ?_
      refine lv_iload_n hx hb dX6_crop_44 rfl (lv_at hl 1 rfl) ?_
      refine lv_iconst (v := 2) hx hb dX6_crop_45 (by decide) ?_
      refine lv_icmp_ge (tgt := 58) hx hb dX6_crop_46 (by decide) (fun h9 => absurd h9 (by decide)) (fun c_46 => ?_)
      refine lv_aload_n hx hb dX6_crop_49 rfl (lv_at hl 0 rfl) ?_
      refine va_get (D := G) (ci := 5) (v := .ref z3) (C := RX6) (T := TX6) (N := 14) hx hb hts in_kX6_cropS1_X6 hown hK hP 0 rfl rfl 5 (by decide) (hts _ fl_kX6_cropS1_16) (fun _ h9 => h9) rfl dX6_crop_50 ?_
      refine lv_iload_n hx hb dX6_crop_53 rfl (lv_at hl 1 rfl) ?_
      refine va_iald hx hb hK hP 3 0 rfl rfl vp_in_lit.2.1 dX6_crop_54 ?_
      refine kTopI (z := nI i) rfl ?_
      refine lv_goto (tgt := 66) hx hb dX6_crop_55 (by decide) ?_
      refine kVi (w' := [(z0, .inr (5, [.int 0, .int (nI w), .int (nI h), .ref z1, .ref z2, .ref z3, .int (b2i mk), .int (b2i ms), .double mn, .ref z4, .int (nI tc), .ref z5, .int ba, .int br])), (z1, .inl (cZ, 576, .inl (bA P))), (z2, .inl (cZ, 576, .inl (bA N))), (z3, .inl (cI, 4, .inl (e4 ze le (nI i) re de))), (z4, .inl (cI, 16, .inl TM)), (z5, .inl (cI, 104, .inl LN))]) (wr := []) (isC := [0, 1, 2, 3, 4, 5]) (isR := []) (pm := [0, 1, 2, 3, 4, 5]) (rest := []) (kX6_isBareR l G cI cZ cJ cD z0 z1 z2 z3 z4 z5 w h hw hh 0 P N ze le (nI i) re de mk ms mn tc TM LN ba br 1 (nI i) (by decide)) ⟨hx, hb, hml, hown, hts⟩ (cwV 2 hts gX6_crop_X6_isBare rfl rfl rfl hd_X6_isBare ⟨Nat.le_of_ble_eq_true rfl, Nat.le_of_ble_eq_true rfl⟩) hK hP hD hS hA ⟨rfl, rfl, rfl, by decide, rfl, rfl, rfl⟩ 5 0 rfl rfl rfl hl.1 rfl (Nat.le_of_ble_eq_true rfl) dX6_crop_66 ⟨Nat.le_of_ble_eq_true rfl, Nat.le_of_ble_eq_true rfl⟩ rfl rfl (fun H locs hP hD hS => ?_)
      refine kIfEqB (tgt := 97) hx hb dX6_crop_69 (by decide) (fun c_69 => ?_) (fun c_69 => ?_)
      · have e9 : c0 = i := (Nat.le_antisymm hi2 (Nat.le_of_not_lt fun q => by have z := hb1 i hi1 q; rw [c_69] at z; cases z)).symm
        subst e9
        refine lv_iload_n hx hb dX6_crop_97 rfl (lv_at hl 2 rfl) ?_
        exact hend _ _ _ _ _ _ dX6_crop_98 hP hD hS rfl rfl
      · have hne := Nat.lt_of_le_of_ne hi2 (fun q => by rw [q, hb2] at c_69; cases c_69)
        refine lv_aload_n hx hb dX6_crop_72 rfl (lv_at hl 0 rfl) ?_
        refine va_get (D := G) (ci := 5) (v := .ref z3) (C := RX6) (T := TX6) (N := 14) hx hb hts in_kX6_cropS1_X6 hown hK hP 0 rfl rfl 5 (by decide) (hts _ fl_kX6_cropS1_16) (fun _ h9 => h9) rfl dX6_crop_73 ?_
        refine lv_iload_n hx hb dX6_crop_76 rfl (lv_at hl 1 rfl) ?_
        refine lv_dup2_11 hx hb dX6_crop_77 rfl rfl ?_
        refine va_iald hx hb hK hP 3 0 rfl rfl vp_in_lit.2.1 dX6_crop_78 ?_
        refine kTopI (z := nI i) rfl ?_
        refine lv_iload_n hx hb dX6_crop_79 rfl (lv_at hl 1 rfl) ?_
        refine lv_iconst (v := 2) hx hb dX6_crop_80 (by decide) ?_
        refine lv_icmp_ge (tgt := 88) hx hb dX6_crop_81 (by decide) (fun h9 => absurd h9 (by decide)) (fun c_81 => ?_)
        refine lv_iconst (v := 1) hx hb dX6_crop_84 (by decide) ?_
        refine lv_goto (tgt := 89) hx hb dX6_crop_85 (by decide) ?_
        refine lv_iadd hx hb dX6_crop_89 ?_
        refine kTopI (z := nI (i + 1)) (nI_1 i) ?_
        refine va_iast hx hb hK hP hD hS 3 0 rfl rfl vp_in_lit.2.1 dX6_crop_90 (fun H locs (hP : va_P G vwCl [(z0, .inr (5, [.int 0, .int (nI w), .int (nI h), .ref z1, .ref z2, .ref z3, .int (b2i mk), .int (b2i ms), .double mn, .ref z4, .int (nI tc), .ref z5, .int ba, .int br])), (z1, .inl (cZ, 576, .inl (bA P))), (z2, .inl (cZ, 576, .inl (bA N))), (z3, .inl (cI, 4, .inl (upd (e4 ze le (nI i) re de) (1 : Int32).toNatClampNeg (nI (i + 1))))), (z4, .inl (cI, 16, .inl TM)), (z5, .inl (cI, 104, .inl LN))] H) (hD : va_D A [(z0, .inr (5, [.int 0, .int (nI w), .int (nI h), .ref z1, .ref z2, .ref z3, .int (b2i mk), .int (b2i ms), .double mn, .ref z4, .int (nI tc), .ref z5, .int ba, .int br])), (z1, .inl (cZ, 576, .inl (bA P))), (z2, .inl (cZ, 576, .inl (bA N))), (z3, .inl (cI, 4, .inl (upd (e4 ze le (nI i) re de) (1 : Int32).toNatClampNeg (nI (i + 1))))), (z4, .inl (cI, 16, .inl TM)), (z5, .inl (cI, 104, .inl LN))]) hS => ?_)
        have hE : upd (e4 ze le (nI i) re de) (1 : Int32).toNatClampNeg (nI (i + 1)) = e4 ze le (nI (i + 1)) re de := e4_1 _ _ _ _ _ _
        rw [hE] at hP hD
        refine lv_iinc (v := nI ((i - l0) + 1)) (lv' := [(2, .int (nI ((i - l0) + 1))), (0, .ref z0), (1, .int 1), (3, .int 1)]) hx hb dX6_crop_91 hl (k := 2) rfl (nI_1 _) (by decide) rfl (fun ls hl => ?_)
        have hE : nI ((i - l0) + 1) = nI (i + 1 - l0) := by rw [show i + 1 - l0 = i - l0 + 1 by omega]
        rw [hE] at hl
        refine lv_goto (tgt := 38) hx hb dX6_crop_94 (by decide) ?_
        exact ih38 (i + 1) (by omega) (by omega) (by omega) _ _ hP hD hS _ (lv_sub hl [1, 2, 0, 3] rfl)
  exact K38 (c0 - l0 + 1) l0 (by omega) (by omega) (by omega) _ _ hP hD hS _ (lv_sub hl [2, 3, 1, 0] rfl)
theorem in_kX6_cropS2_X6 : ∀ w ∈ u_ws RX6 TX6 14, w ∈ wsX6_crop := by decide +kernel
theorem fl_kX6_cropS2_16 : Cond.fieldLink RX6 16 "SkewFindModel" "ends" "[I" ∈ wsX6_crop := by decide +kernel
abbrev rmX6_cropS2 : Room := { frames := 2, cells := 0, slots := 0, locals := 46 }
set_option maxRecDepth 100000 in
set_option maxHeartbeats 4000000 in
theorem kX6_cropS2 (l : Launch) (G : va_G) (cI cZ cJ cD : ClassId) (z0 z1 z2 z3 z4 z5 w h : Nat) (hw : w ≤ 24) (hh : h ≤ 24) (cd : Int32) (P N : Nat → Bool) (ze : Nat → Int32) (le ue re de : Int32) (mk ms : Bool) (mn : UInt64) (tc : Nat) (TM LN : Nat → Int32) (ba br : Int32) (l0 c0 : Nat) (hlc : c0 ≤ l0) (hc0 : l0 ≤ 24) (hc1 : 1 ≤ c0) (hz : ¬ mCnt P ≤ 0) (hb1 : ∀ i, c0 < i → i ≤ l0 → baC w h P (nI (i - 1)) = true) (hb2 : baC w h P (nI (c0 - 1)) = false) : Ci l G (kTy cI cZ cJ cD) yX6_crop wsX6_crop rmX6_cropS2 [.ref z0, .int 2] [(z0, .inr (5, [.int cd, .int (nI w), .int (nI h), .ref z1, .ref z2, .ref z3, .int (b2i mk), .int (b2i ms), .double mn, .ref z4, .int (nI tc), .ref z5, .int ba, .int br])), (z1, .inl (cZ, 576, .inl (bA P))), (z2, .inl (cZ, 576, .inl (bA N))), (z3, .inl (cI, 4, .inl (e4 ze le ue (nI l0) de))), (z4, .inl (cI, 16, .inl TM)), (z5, .inl (cI, 104, .inl LN))] (nI (l0 - c0)) [(z0, .inr (5, [.int 0, .int (nI w), .int (nI h), .ref z1, .ref z2, .ref z3, .int (b2i mk), .int (b2i ms), .double mn, .ref z4, .int (nI tc), .ref z5, .int ba, .int br])), (z1, .inl (cZ, 576, .inl (bA P))), (z2, .inl (cZ, 576, .inl (bA N))), (z3, .inl (cI, 4, .inl (e4 ze le ue (nI c0) de))), (z4, .inl (cI, 16, .inl TM)), (z5, .inl (cI, 104, .inl LN))] := by
  refine Ci.of .int rfl rfl rfl (cc := cX6_crop) (maxL := 4) (plainFor_of_name (by decide)) rfl (Nat.le_of_ble_eq_true rfl) rfl ?_
  intro p e s m args below meth c A Q hx hb hml hts hown hA hK hP hD hS hend ls hl
  refine lv_aload_n hx hb dX6_crop_0 rfl (lv_at hl 0 rfl) ?_
  refine lv_iload_n hx hb dX6_crop_1 rfl (lv_at hl 1 rfl) ?_
  refine lv_if_lt (tgt := 10) hx hb dX6_crop_2 (by decide) (fun h9 => absurd h9 (by decide)) (fun c_2 => ?_)
  refine lv_iload_n hx hb dX6_crop_5 rfl (lv_at hl 1 rfl) ?_
  refine lv_iconst (v := 3) hx hb dX6_crop_6 (by decide) ?_
  refine lv_icmp_le (tgt := 14) hx hb dX6_crop_7 (by decide) (fun c_7 => ?_) (fun h9 => absurd (by decide) h9)
  refine lv_iconst (v := 0) hx hb dX6_crop_14 (by decide) ?_
  refine kVi (w' := [(z0, .inr (5, [.int 0, .int (nI w), .int (nI h), .ref z1, .ref z2, .ref z3, .int (b2i mk), .int (b2i ms), .double mn, .ref z4, .int (nI tc), .ref z5, .int ba, .int br])), (z1, .inl (cZ, 576, .inl (bA P))), (z2, .inl (cZ, 576, .inl (bA N))), (z3, .inl (cI, 4, .inl (e4 ze le ue (nI l0) de))), (z4, .inl (cI, 16, .inl TM)), (z5, .inl (cI, 104, .inl LN))]) (wr := []) (isC := [0, 1, 2, 3, 4, 5]) (isR := []) (pm := [0, 1, 2, 3, 4, 5]) (rest := []) (kX6_refuses l G cI cZ cJ cD z0 z1 z2 z3 z4 z5 w h hw hh cd P N ze le ue (nI l0) de mk ms mn tc TM LN ba br 0) ⟨hx, hb, hml, hown, hts⟩ (cwV 1 hts gX6_crop_X6_refuses rfl rfl rfl hd_X6_refuses ⟨Nat.le_of_ble_eq_true rfl, Nat.le_of_ble_eq_true rfl⟩) hK hP hD hS hA ⟨rfl, rfl, rfl, by decide, rfl, rfl, rfl⟩ 5 0 rfl rfl rfl hl.1 rfl (Nat.le_of_ble_eq_true rfl) dX6_crop_15 ⟨Nat.le_of_ble_eq_true rfl, Nat.le_of_ble_eq_true rfl⟩ rfl rfl (fun H locs hP hD hS => ?_)
  refine kIfEqB (tgt := 23) hx hb dX6_crop_18 (by decide) (fun c_18 => ?_) (fun h9 => (absurd h9 (by decide)))
  refine lv_iconst (v := 0) hx hb dX6_crop_23 (by decide) ?_
  refine kTopI (z := nI (l0 - l0)) (by rw [Nat.sub_self]; rfl) ?_
  refine lv_istore_n (lv' := [(2, .int (nI (l0 - l0))), (0, .ref z0), (1, .int 2)]) hx hb dX6_crop_24 rfl hl (by decide) rfl (fun ls hl => ?_)
  refine lv_aload_n hx hb dX6_crop_25 rfl (lv_at hl 1 rfl) ?_
  refine kVi (w' := [(z0, .inr (5, [.int 0, .int (nI w), .int (nI h), .ref z1, .ref z2, .ref z3, .int (b2i mk), .int (b2i ms), .double mn, .ref z4, .int (nI tc), .ref z5, .int ba, .int br])), (z1, .inl (cZ, 576, .inl (bA P))), (z2, .inl (cZ, 576, .inl (bA N))), (z3, .inl (cI, 4, .inl (e4 ze le ue (nI l0) de))), (z4, .inl (cI, 16, .inl TM)), (z5, .inl (cI, 104, .inl LN))]) (wr := []) (isC := [0, 1, 2, 3, 4, 5]) (isR := []) (pm := [0, 1, 2, 3, 4, 5]) (rest := []) (kX6_countOn l G cI cZ cJ cD z0 z1 z2 z3 z4 z5 w h hw hh 0 P N ze le ue (nI l0) de mk ms mn tc TM LN ba br ) ⟨hx, hb, hml, hown, hts⟩ (cwV 0 hts gX6_crop_X6_countOn rfl rfl rfl hd_X6_countOn ⟨Nat.le_of_ble_eq_true rfl, Nat.le_of_ble_eq_true rfl⟩) hK hP hD hS hA ⟨rfl, rfl, rfl, by decide, rfl, rfl, rfl⟩ 5 0 rfl rfl rfl hl.1 rfl (Nat.le_of_ble_eq_true rfl) dX6_crop_26 ⟨Nat.le_of_ble_eq_true rfl, Nat.le_of_ble_eq_true rfl⟩ rfl rfl (fun H locs hP hD hS => ?_)
  refine lv_if_le (tgt := 36) hx hb dX6_crop_29 (by decide) (fun h9 => absurd h9 hz) (fun c_29 => ?_)
  refine lv_iconst (v := 1) hx hb dX6_crop_32 (by decide) ?_
  refine lv_goto (tgt := 37) hx hb dX6_crop_33 (by decide) ?_
  refine lv_istore_n (lv' := [(3, .int 1), (2, .int (nI (l0 - l0))), (0, .ref z0), (1, .int 2)]) hx hb dX6_crop_37 rfl hl (by decide) rfl (fun ls hl => ?_)
  have K38 : ∀ (n38 : Nat) (i : Nat), i - c0 < n38 → (c0 ≤ i) → (i ≤ l0) → ∀ (H : Heap) (locs : List Loc), va_P G vwCl [(z0, .inr (5, [.int 0, .int (nI w), .int (nI h), .ref z1, .ref z2, .ref z3, .int (b2i mk), .int (b2i ms), .double mn, .ref z4, .int (nI tc), .ref z5, .int ba, .int br])), (z1, .inl (cZ, 576, .inl (bA P))), (z2, .inl (cZ, 576, .inl (bA N))), (z3, .inl (cI, 4, .inl (e4 ze le ue (nI i) de))), (z4, .inl (cI, 16, .inl TM)), (z5, .inl (cI, 104, .inl LN))] H → va_D A [(z0, .inr (5, [.int 0, .int (nI w), .int (nI h), .ref z1, .ref z2, .ref z3, .int (b2i mk), .int (b2i ms), .double mn, .ref z4, .int (nI tc), .ref z5, .int ba, .int br])), (z1, .inl (cZ, 576, .inl (bA P))), (z2, .inl (cZ, 576, .inl (bA N))), (z3, .inl (cI, 4, .inl (e4 ze le ue (nI i) de))), (z4, .inl (cI, 16, .inl TM)), (z5, .inl (cI, 104, .inl LN))] → va_S A s.heap H locs → ∀ ls : Array Slot, lv_has ls 4 [(0, .ref z0), (1, .int 2), (2, .int (nI (l0 - i))), (3, .int 1)] → W p l e rmX6_cropS2 s m args below meth c H locs 0 0 Q (F0 m 38 ls []) := by
    intro n38
    induction n38 with
    | zero => intro i hn; exact absurd hn (by omega)
    | succ n38 ih38 =>
      intro i hn38 hi1 hi2 H locs hP hD hS ls hl
      refine lv_iload_n hx hb dX6_crop_38 rfl (lv_at hl 3 rfl) ?_
      refine lv_if_eq (tgt := 97) hx hb dX6_crop_39 (by decide) (fun h9 => (absurd h9 (by decide))) (fun c_39 => ?_)
      refine lv_aload_n hx hb dX6_crop_42 rfl (lv_at hl 0 rfl) ?_
      refine lv_iload_n hx hb dX6_crop_43 rfl (lv_at hl 1 rfl) ?_
      refine lv_iload_n hx hb dX6_crop_44 rfl (lv_at hl 1 rfl) ?_
      refine lv_iconst (v := 2) hx hb dX6_crop_45 (by decide) ?_
      refine lv_icmp_ge (tgt := 58) hx hb dX6_crop_46 (by decide) (fun c_46 => ?_) (fun h9 => absurd (by decide) h9)
      refine lv_aload_n hx hb dX6_crop_58 rfl (lv_at hl 0 rfl) ?_
      refine va_get (D := G) (ci := 5) (v := .ref z3) (C := RX6) (T := TX6) (N := 14) hx hb hts in_kX6_cropS2_X6 hown hK hP 0 rfl rfl 5 (by decide) (hts _ fl_kX6_cropS2_16) (fun _ h9 => h9) rfl dX6_crop_59 ?_
      refine lv_iload_n hx hb dX6_crop_62 rfl (lv_at hl 1 rfl) ?_
      refine va_iald hx hb hK hP 3 0 rfl rfl vp_in_lit.2.2.1 dX6_crop_63 ?_
      refine kTopI (z := nI i) rfl ?_
      refine lv_iconst (v := 1) hx hb dX6_crop_64 (by decide) ?_
      refine lv_isub hx hb dX6_crop_65 ?_
      refine kTopI (z := nI (i - 1)) (kpred1 (by omega)) ?_
      refine kVi (w' := [(z0, .inr (5, [.int 0, .int (nI w), .int (nI h), .ref z1, .ref z2, .ref z3, .int (b2i mk), .int (b2i ms), .double mn, .ref z4, .int (nI tc), .ref z5, .int ba, .int br])), (z1, .inl (cZ, 576, .inl (bA P))), (z2, .inl (cZ, 576, .inl (bA N))), (z3, .inl (cI, 4, .inl (e4 ze le ue (nI i) de))), (z4, .inl (cI, 16, .inl TM)), (z5, .inl (cI, 104, .inl LN))]) (wr := []) (isC := [0, 1, 2, 3, 4, 5]) (isR := []) (pm := [0, 1, 2, 3, 4, 5]) (rest := []) (kX6_isBareC l G cI cZ cJ cD z0 z1 z2 z3 z4 z5 w h hw hh 0 P N ze le ue (nI i) de mk ms mn tc TM LN ba br 2 (nI (i - 1)) (by decide)) ⟨hx, hb, hml, hown, hts⟩ (cwV 2 hts gX6_crop_X6_isBare rfl rfl rfl hd_X6_isBare ⟨Nat.le_of_ble_eq_true rfl, Nat.le_of_ble_eq_true rfl⟩) hK hP hD hS hA ⟨rfl, rfl, rfl, by decide, rfl, rfl, rfl⟩ 5 0 rfl rfl rfl hl.1 rfl (Nat.le_of_ble_eq_true rfl) dX6_crop_66 ⟨Nat.le_of_ble_eq_true rfl, Nat.le_of_ble_eq_true rfl⟩ rfl rfl (fun H locs hP hD hS => ?_)
      refine kIfEqB (tgt := 97) hx hb dX6_crop_69 (by decide) (fun c_69 => ?_) (fun c_69 => ?_)
      · have e9 : c0 = i := (Nat.le_antisymm (Nat.le_of_not_lt fun q => by have z := hb1 i q hi2; rw [c_69] at z; cases z) hi1).symm
        subst e9
        refine lv_iload_n hx hb dX6_crop_97 rfl (lv_at hl 2 rfl) ?_
        exact hend _ _ _ _ _ _ dX6_crop_98 hP hD hS rfl rfl
      · have hne := Nat.lt_of_le_of_ne hi1 (fun q => by rw [← q, hb2] at c_69; cases c_69)
        refine lv_aload_n hx hb dX6_crop_72 rfl (lv_at hl 0 rfl) ?_
        refine va_get (D := G) (ci := 5) (v := .ref z3) (C := RX6) (T := TX6) (N := 14) hx hb hts in_kX6_cropS2_X6 hown hK hP 0 rfl rfl 5 (by decide) (hts _ fl_kX6_cropS2_16) (fun _ h9 => h9) rfl dX6_crop_73 ?_
        refine lv_iload_n hx hb dX6_crop_76 rfl (lv_at hl 1 rfl) ?_
        refine lv_dup2_11 hx hb dX6_crop_77 rfl rfl ?_
        refine va_iald hx hb hK hP 3 0 rfl rfl vp_in_lit.2.2.1 dX6_crop_78 ?_
        refine kTopI (z := nI i) rfl ?_
        refine lv_iload_n hx hb dX6_crop_79 rfl (lv_at hl 1 rfl) ?_
        refine lv_iconst (v := 2) hx hb dX6_crop_80 (by decide) ?_
        refine lv_icmp_ge (tgt := 88) hx hb dX6_crop_81 (by decide) (fun c_81 => ?_) (fun h9 => absurd (by decide) h9)
        refine lv_iconst (v := (-1)) hx hb dX6_crop_88 (by decide) ?_
        refine lv_iadd hx hb dX6_crop_89 ?_
        refine kTopI (z := nI (i - 1)) ((kdec i).trans (kpred1 (by omega))) ?_
        refine va_iast hx hb hK hP hD hS 3 0 rfl rfl vp_in_lit.2.2.1 dX6_crop_90 (fun H locs (hP : va_P G vwCl [(z0, .inr (5, [.int 0, .int (nI w), .int (nI h), .ref z1, .ref z2, .ref z3, .int (b2i mk), .int (b2i ms), .double mn, .ref z4, .int (nI tc), .ref z5, .int ba, .int br])), (z1, .inl (cZ, 576, .inl (bA P))), (z2, .inl (cZ, 576, .inl (bA N))), (z3, .inl (cI, 4, .inl (upd (e4 ze le ue (nI i) de) (2 : Int32).toNatClampNeg (nI (i - 1))))), (z4, .inl (cI, 16, .inl TM)), (z5, .inl (cI, 104, .inl LN))] H) (hD : va_D A [(z0, .inr (5, [.int 0, .int (nI w), .int (nI h), .ref z1, .ref z2, .ref z3, .int (b2i mk), .int (b2i ms), .double mn, .ref z4, .int (nI tc), .ref z5, .int ba, .int br])), (z1, .inl (cZ, 576, .inl (bA P))), (z2, .inl (cZ, 576, .inl (bA N))), (z3, .inl (cI, 4, .inl (upd (e4 ze le ue (nI i) de) (2 : Int32).toNatClampNeg (nI (i - 1))))), (z4, .inl (cI, 16, .inl TM)), (z5, .inl (cI, 104, .inl LN))]) hS => ?_)
        have hE : upd (e4 ze le ue (nI i) de) (2 : Int32).toNatClampNeg (nI (i - 1)) = e4 ze le ue (nI (i - 1)) de := e4_2 _ _ _ _ _ _
        rw [hE] at hP hD
        refine lv_iinc (v := nI ((l0 - i) + 1)) (lv' := [(2, .int (nI ((l0 - i) + 1))), (0, .ref z0), (1, .int 2), (3, .int 1)]) hx hb dX6_crop_91 hl (k := 2) rfl (nI_1 _) (by decide) rfl (fun ls hl => ?_)
        have hE : nI ((l0 - i) + 1) = nI (l0 - (i - 1)) := by rw [show l0 - (i - 1) = l0 - i + 1 by omega]
        rw [hE] at hl
        refine lv_goto (tgt := 38) hx hb dX6_crop_94 (by decide) ?_
        exact ih38 (i - 1) (by omega) (by omega) (by omega) _ _ hP hD hS _ (lv_sub hl [1, 2, 0, 3] rfl)
  exact K38 (l0 - c0 + 1) l0 (by omega) (by omega) (by omega) _ _ hP hD hS _ (lv_sub hl [2, 3, 1, 0] rfl)
theorem in_kX6_cropS3_X6 : ∀ w ∈ u_ws RX6 TX6 14, w ∈ wsX6_crop := by decide +kernel
theorem fl_kX6_cropS3_16 : Cond.fieldLink RX6 16 "SkewFindModel" "ends" "[I" ∈ wsX6_crop := by decide +kernel
abbrev rmX6_cropS3 : Room := { frames := 2, cells := 0, slots := 0, locals := 46 }
set_option maxRecDepth 100000 in
set_option maxHeartbeats 4000000 in
theorem kX6_cropS3 (l : Launch) (G : va_G) (cI cZ cJ cD : ClassId) (z0 z1 z2 z3 z4 z5 w h : Nat) (hw : w ≤ 24) (hh : h ≤ 24) (cd : Int32) (P N : Nat → Bool) (ze : Nat → Int32) (le ue re de : Int32) (mk ms : Bool) (mn : UInt64) (tc : Nat) (TM LN : Nat → Int32) (ba br : Int32) (l0 c0 : Nat) (hlc : c0 ≤ l0) (hc0 : l0 ≤ 24) (hc1 : 1 ≤ c0) (hz : ¬ mCnt P ≤ 0) (hb1 : ∀ i, c0 < i → i ≤ l0 → baR w h P (nI (i - 1)) = true) (hb2 : baR w h P (nI (c0 - 1)) = false) : Ci l G (kTy cI cZ cJ cD) yX6_crop wsX6_crop rmX6_cropS3 [.ref z0, .int 3] [(z0, .inr (5, [.int cd, .int (nI w), .int (nI h), .ref z1, .ref z2, .ref z3, .int (b2i mk), .int (b2i ms), .double mn, .ref z4, .int (nI tc), .ref z5, .int ba, .int br])), (z1, .inl (cZ, 576, .inl (bA P))), (z2, .inl (cZ, 576, .inl (bA N))), (z3, .inl (cI, 4, .inl (e4 ze le ue re (nI l0)))), (z4, .inl (cI, 16, .inl TM)), (z5, .inl (cI, 104, .inl LN))] (nI (l0 - c0)) [(z0, .inr (5, [.int 0, .int (nI w), .int (nI h), .ref z1, .ref z2, .ref z3, .int (b2i mk), .int (b2i ms), .double mn, .ref z4, .int (nI tc), .ref z5, .int ba, .int br])), (z1, .inl (cZ, 576, .inl (bA P))), (z2, .inl (cZ, 576, .inl (bA N))), (z3, .inl (cI, 4, .inl (e4 ze le ue re (nI c0)))), (z4, .inl (cI, 16, .inl TM)), (z5, .inl (cI, 104, .inl LN))] := by
  refine Ci.of .int rfl rfl rfl (cc := cX6_crop) (maxL := 4) (plainFor_of_name (by decide)) rfl (Nat.le_of_ble_eq_true rfl) rfl ?_
  intro p e s m args below meth c A Q hx hb hml hts hown hA hK hP hD hS hend ls hl
  refine lv_aload_n hx hb dX6_crop_0 rfl (lv_at hl 0 rfl) ?_
  refine lv_iload_n hx hb dX6_crop_1 rfl (lv_at hl 1 rfl) ?_
  refine lv_if_lt (tgt := 10) hx hb dX6_crop_2 (by decide) (fun h9 => absurd h9 (by decide)) (fun c_2 => ?_)
  refine lv_iload_n hx hb dX6_crop_5 rfl (lv_at hl 1 rfl) ?_
  refine lv_iconst (v := 3) hx hb dX6_crop_6 (by decide) ?_
  refine lv_icmp_le (tgt := 14) hx hb dX6_crop_7 (by decide) (fun c_7 => ?_) (fun h9 => absurd (by decide) h9)
  refine lv_iconst (v := 0) hx hb dX6_crop_14 (by decide) ?_
  refine kVi (w' := [(z0, .inr (5, [.int 0, .int (nI w), .int (nI h), .ref z1, .ref z2, .ref z3, .int (b2i mk), .int (b2i ms), .double mn, .ref z4, .int (nI tc), .ref z5, .int ba, .int br])), (z1, .inl (cZ, 576, .inl (bA P))), (z2, .inl (cZ, 576, .inl (bA N))), (z3, .inl (cI, 4, .inl (e4 ze le ue re (nI l0)))), (z4, .inl (cI, 16, .inl TM)), (z5, .inl (cI, 104, .inl LN))]) (wr := []) (isC := [0, 1, 2, 3, 4, 5]) (isR := []) (pm := [0, 1, 2, 3, 4, 5]) (rest := []) (kX6_refuses l G cI cZ cJ cD z0 z1 z2 z3 z4 z5 w h hw hh cd P N ze le ue re (nI l0) mk ms mn tc TM LN ba br 0) ⟨hx, hb, hml, hown, hts⟩ (cwV 1 hts gX6_crop_X6_refuses rfl rfl rfl hd_X6_refuses ⟨Nat.le_of_ble_eq_true rfl, Nat.le_of_ble_eq_true rfl⟩) hK hP hD hS hA ⟨rfl, rfl, rfl, by decide, rfl, rfl, rfl⟩ 5 0 rfl rfl rfl hl.1 rfl (Nat.le_of_ble_eq_true rfl) dX6_crop_15 ⟨Nat.le_of_ble_eq_true rfl, Nat.le_of_ble_eq_true rfl⟩ rfl rfl (fun H locs hP hD hS => ?_)
  refine kIfEqB (tgt := 23) hx hb dX6_crop_18 (by decide) (fun c_18 => ?_) (fun h9 => (absurd h9 (by decide)))
  refine lv_iconst (v := 0) hx hb dX6_crop_23 (by decide) ?_
  refine kTopI (z := nI (l0 - l0)) (by rw [Nat.sub_self]; rfl) ?_
  refine lv_istore_n (lv' := [(2, .int (nI (l0 - l0))), (0, .ref z0), (1, .int 3)]) hx hb dX6_crop_24 rfl hl (by decide) rfl (fun ls hl => ?_)
  refine lv_aload_n hx hb dX6_crop_25 rfl (lv_at hl 1 rfl) ?_
  refine kVi (w' := [(z0, .inr (5, [.int 0, .int (nI w), .int (nI h), .ref z1, .ref z2, .ref z3, .int (b2i mk), .int (b2i ms), .double mn, .ref z4, .int (nI tc), .ref z5, .int ba, .int br])), (z1, .inl (cZ, 576, .inl (bA P))), (z2, .inl (cZ, 576, .inl (bA N))), (z3, .inl (cI, 4, .inl (e4 ze le ue re (nI l0)))), (z4, .inl (cI, 16, .inl TM)), (z5, .inl (cI, 104, .inl LN))]) (wr := []) (isC := [0, 1, 2, 3, 4, 5]) (isR := []) (pm := [0, 1, 2, 3, 4, 5]) (rest := []) (kX6_countOn l G cI cZ cJ cD z0 z1 z2 z3 z4 z5 w h hw hh 0 P N ze le ue re (nI l0) mk ms mn tc TM LN ba br ) ⟨hx, hb, hml, hown, hts⟩ (cwV 0 hts gX6_crop_X6_countOn rfl rfl rfl hd_X6_countOn ⟨Nat.le_of_ble_eq_true rfl, Nat.le_of_ble_eq_true rfl⟩) hK hP hD hS hA ⟨rfl, rfl, rfl, by decide, rfl, rfl, rfl⟩ 5 0 rfl rfl rfl hl.1 rfl (Nat.le_of_ble_eq_true rfl) dX6_crop_26 ⟨Nat.le_of_ble_eq_true rfl, Nat.le_of_ble_eq_true rfl⟩ rfl rfl (fun H locs hP hD hS => ?_)
  refine lv_if_le (tgt := 36) hx hb dX6_crop_29 (by decide) (fun h9 => absurd h9 hz) (fun c_29 => ?_)
  refine lv_iconst (v := 1) hx hb dX6_crop_32 (by decide) ?_
  refine lv_goto (tgt := 37) hx hb dX6_crop_33 (by decide) ?_
  refine lv_istore_n (lv' := [(3, .int 1), (2, .int (nI (l0 - l0))), (0, .ref z0), (1, .int 3)]) hx hb dX6_crop_37 rfl hl (by decide) rfl (fun ls hl => ?_)
  have K38 : ∀ (n38 : Nat) (i : Nat), i - c0 < n38 → (c0 ≤ i) → (i ≤ l0) → ∀ (H : Heap) (locs : List Loc), va_P G vwCl [(z0, .inr (5, [.int 0, .int (nI w), .int (nI h), .ref z1, .ref z2, .ref z3, .int (b2i mk), .int (b2i ms), .double mn, .ref z4, .int (nI tc), .ref z5, .int ba, .int br])), (z1, .inl (cZ, 576, .inl (bA P))), (z2, .inl (cZ, 576, .inl (bA N))), (z3, .inl (cI, 4, .inl (e4 ze le ue re (nI i)))), (z4, .inl (cI, 16, .inl TM)), (z5, .inl (cI, 104, .inl LN))] H → va_D A [(z0, .inr (5, [.int 0, .int (nI w), .int (nI h), .ref z1, .ref z2, .ref z3, .int (b2i mk), .int (b2i ms), .double mn, .ref z4, .int (nI tc), .ref z5, .int ba, .int br])), (z1, .inl (cZ, 576, .inl (bA P))), (z2, .inl (cZ, 576, .inl (bA N))), (z3, .inl (cI, 4, .inl (e4 ze le ue re (nI i)))), (z4, .inl (cI, 16, .inl TM)), (z5, .inl (cI, 104, .inl LN))] → va_S A s.heap H locs → ∀ ls : Array Slot, lv_has ls 4 [(0, .ref z0), (1, .int 3), (2, .int (nI (l0 - i))), (3, .int 1)] → W p l e rmX6_cropS3 s m args below meth c H locs 0 0 Q (F0 m 38 ls []) := by
    intro n38
    induction n38 with
    | zero => intro i hn; exact absurd hn (by omega)
    | succ n38 ih38 =>
      intro i hn38 hi1 hi2 H locs hP hD hS ls hl
      refine lv_iload_n hx hb dX6_crop_38 rfl (lv_at hl 3 rfl) ?_
      refine lv_if_eq (tgt := 97) hx hb dX6_crop_39 (by decide) (fun h9 => (absurd h9 (by decide))) (fun c_39 => ?_)
      refine lv_aload_n hx hb dX6_crop_42 rfl (lv_at hl 0 rfl) ?_
      refine lv_iload_n hx hb dX6_crop_43 rfl (lv_at hl 1 rfl) ?_
      refine lv_iload_n hx hb dX6_crop_44 rfl (lv_at hl 1 rfl) ?_
      refine lv_iconst (v := 2) hx hb dX6_crop_45 (by decide) ?_
      refine lv_icmp_ge (tgt := 58) hx hb dX6_crop_46 (by decide) (fun c_46 => ?_) (fun h9 => absurd (by decide) h9)
      refine lv_aload_n hx hb dX6_crop_58 rfl (lv_at hl 0 rfl) ?_
      refine va_get (D := G) (ci := 5) (v := .ref z3) (C := RX6) (T := TX6) (N := 14) hx hb hts in_kX6_cropS3_X6 hown hK hP 0 rfl rfl 5 (by decide) (hts _ fl_kX6_cropS3_16) (fun _ h9 => h9) rfl dX6_crop_59 ?_
      refine lv_iload_n hx hb dX6_crop_62 rfl (lv_at hl 1 rfl) ?_
      refine va_iald hx hb hK hP 3 0 rfl rfl vp_in_lit.2.2.2 dX6_crop_63 ?_
      refine kTopI (z := nI i) rfl ?_
      refine lv_iconst (v := 1) hx hb dX6_crop_64 (by decide) ?_
      refine lv_isub hx hb dX6_crop_65 ?_
      refine kTopI (z := nI (i - 1)) (kpred1 (by omega)) ?_
      refine kVi (w' := [(z0, .inr (5, [.int 0, .int (nI w), .int (nI h), .ref z1, .ref z2, .ref z3, .int (b2i mk), .int (b2i ms), .double mn, .ref z4, .int (nI tc), .ref z5, .int ba, .int br])), (z1, .inl (cZ, 576, .inl (bA P))), (z2, .inl (cZ, 576, .inl (bA N))), (z3, .inl (cI, 4, .inl (e4 ze le ue re (nI i)))), (z4, .inl (cI, 16, .inl TM)), (z5, .inl (cI, 104, .inl LN))]) (wr := []) (isC := [0, 1, 2, 3, 4, 5]) (isR := []) (pm := [0, 1, 2, 3, 4, 5]) (rest := []) (kX6_isBareR l G cI cZ cJ cD z0 z1 z2 z3 z4 z5 w h hw hh 0 P N ze le ue re (nI i) mk ms mn tc TM LN ba br 3 (nI (i - 1)) (by decide)) ⟨hx, hb, hml, hown, hts⟩ (cwV 2 hts gX6_crop_X6_isBare rfl rfl rfl hd_X6_isBare ⟨Nat.le_of_ble_eq_true rfl, Nat.le_of_ble_eq_true rfl⟩) hK hP hD hS hA ⟨rfl, rfl, rfl, by decide, rfl, rfl, rfl⟩ 5 0 rfl rfl rfl hl.1 rfl (Nat.le_of_ble_eq_true rfl) dX6_crop_66 ⟨Nat.le_of_ble_eq_true rfl, Nat.le_of_ble_eq_true rfl⟩ rfl rfl (fun H locs hP hD hS => ?_)
      refine kIfEqB (tgt := 97) hx hb dX6_crop_69 (by decide) (fun c_69 => ?_) (fun c_69 => ?_)
      · have e9 : c0 = i := (Nat.le_antisymm (Nat.le_of_not_lt fun q => by have z := hb1 i q hi2; rw [c_69] at z; cases z) hi1).symm
        subst e9
        refine lv_iload_n hx hb dX6_crop_97 rfl (lv_at hl 2 rfl) ?_
        exact hend _ _ _ _ _ _ dX6_crop_98 hP hD hS rfl rfl
      · have hne := Nat.lt_of_le_of_ne hi1 (fun q => by rw [← q, hb2] at c_69; cases c_69)
        refine lv_aload_n hx hb dX6_crop_72 rfl (lv_at hl 0 rfl) ?_
        refine va_get (D := G) (ci := 5) (v := .ref z3) (C := RX6) (T := TX6) (N := 14) hx hb hts in_kX6_cropS3_X6 hown hK hP 0 rfl rfl 5 (by decide) (hts _ fl_kX6_cropS3_16) (fun _ h9 => h9) rfl dX6_crop_73 ?_
        refine lv_iload_n hx hb dX6_crop_76 rfl (lv_at hl 1 rfl) ?_
        refine lv_dup2_11 hx hb dX6_crop_77 rfl rfl ?_
        refine va_iald hx hb hK hP 3 0 rfl rfl vp_in_lit.2.2.2 dX6_crop_78 ?_
        refine kTopI (z := nI i) rfl ?_
        refine lv_iload_n hx hb dX6_crop_79 rfl (lv_at hl 1 rfl) ?_
        refine lv_iconst (v := 2) hx hb dX6_crop_80 (by decide) ?_
        refine lv_icmp_ge (tgt := 88) hx hb dX6_crop_81 (by decide) (fun c_81 => ?_) (fun h9 => absurd (by decide) h9)
        refine lv_iconst (v := (-1)) hx hb dX6_crop_88 (by decide) ?_
        refine lv_iadd hx hb dX6_crop_89 ?_
        refine kTopI (z := nI (i - 1)) ((kdec i).trans (kpred1 (by omega))) ?_
        refine va_iast hx hb hK hP hD hS 3 0 rfl rfl vp_in_lit.2.2.2 dX6_crop_90 (fun H locs (hP : va_P G vwCl [(z0, .inr (5, [.int 0, .int (nI w), .int (nI h), .ref z1, .ref z2, .ref z3, .int (b2i mk), .int (b2i ms), .double mn, .ref z4, .int (nI tc), .ref z5, .int ba, .int br])), (z1, .inl (cZ, 576, .inl (bA P))), (z2, .inl (cZ, 576, .inl (bA N))), (z3, .inl (cI, 4, .inl (upd (e4 ze le ue re (nI i)) (3 : Int32).toNatClampNeg (nI (i - 1))))), (z4, .inl (cI, 16, .inl TM)), (z5, .inl (cI, 104, .inl LN))] H) (hD : va_D A [(z0, .inr (5, [.int 0, .int (nI w), .int (nI h), .ref z1, .ref z2, .ref z3, .int (b2i mk), .int (b2i ms), .double mn, .ref z4, .int (nI tc), .ref z5, .int ba, .int br])), (z1, .inl (cZ, 576, .inl (bA P))), (z2, .inl (cZ, 576, .inl (bA N))), (z3, .inl (cI, 4, .inl (upd (e4 ze le ue re (nI i)) (3 : Int32).toNatClampNeg (nI (i - 1))))), (z4, .inl (cI, 16, .inl TM)), (z5, .inl (cI, 104, .inl LN))]) hS => ?_)
        have hE : upd (e4 ze le ue re (nI i)) (3 : Int32).toNatClampNeg (nI (i - 1)) = e4 ze le ue re (nI (i - 1)) := e4_3 _ _ _ _ _ _
        rw [hE] at hP hD
        refine lv_iinc (v := nI ((l0 - i) + 1)) (lv' := [(2, .int (nI ((l0 - i) + 1))), (0, .ref z0), (1, .int 3), (3, .int 1)]) hx hb dX6_crop_91 hl (k := 2) rfl (nI_1 _) (by decide) rfl (fun ls hl => ?_)
        have hE : nI ((l0 - i) + 1) = nI (l0 - (i - 1)) := by rw [show l0 - (i - 1) = l0 - i + 1 by omega]
        rw [hE] at hl
        refine lv_goto (tgt := 38) hx hb dX6_crop_94 (by decide) ?_
        exact ih38 (i - 1) (by omega) (by omega) (by omega) _ _ hP hD hS _ (lv_sub hl [1, 2, 0, 3] rfl)
  exact K38 (l0 - c0 + 1) l0 (by omega) (by omega) (by omega) _ _ hP hD hS _ (lv_sub hl [2, 3, 1, 0] rfl)
theorem in_kX6_goTo_X6 : ∀ w ∈ u_ws RX6 TX6 14, w ∈ wsX6_goTo := by decide +kernel
theorem fl_kX6_goTo_30 : Cond.fieldLink RX6 30 "SkewFindModel" "height" "I" ∈ wsX6_goTo := by decide +kernel
theorem fl_kX6_goTo_158 : Cond.fieldLink RX6 158 "SkewFindModel" "bandAt" "I" ∈ wsX6_goTo := by decide +kernel
theorem fl_kX6_goTo_161 : Cond.fieldLink RX6 161 "SkewFindModel" "bandRows" "I" ∈ wsX6_goTo := by decide +kernel
abbrev rmX6_goTo : Room := { frames := 2, cells := 0, slots := 0, locals := 46 }
set_option maxRecDepth 100000 in
set_option maxHeartbeats 4000000 in
theorem kX6_goTo (l : Launch) (G : va_G) (cI cZ cJ cD : ClassId) (z0 z1 z2 z3 z4 z5 w h : Nat) (hw : w ≤ 24) (hh : h ≤ 24) (cd : Int32) (P N : Nat → Bool) (ze : Nat → Int32) (le ue re de : Int32) (mk ms : Bool) (mn : UInt64) (tc : Nat) (TM LN : Nat → Int32) (ba br : Int32) (k : Int32) : Ci l G (kTy cI cZ cJ cD) yX6_goTo wsX6_goTo rmX6_goTo [.ref z0, .int k] [(z0, .inr (5, [.int cd, .int (nI w), .int (nI h), .ref z1, .ref z2, .ref z3, .int (b2i mk), .int (b2i ms), .double mn, .ref z4, .int (nI tc), .ref z5, .int ba, .int br])), (z1, .inl (cZ, 576, .inl (bA P))), (z2, .inl (cZ, 576, .inl (bA N))), (z3, .inl (cI, 4, .inl (e4 ze le ue re de))), (z4, .inl (cI, 16, .inl TM)), (z5, .inl (cI, 104, .inl LN))] (b2i (goS (mgF w h P k))) [(z0, .inr (5, [.int cd, .int (nI w), .int (nI h), .ref z1, .ref z2, .ref z3, .int (b2i mk), .int (b2i ms), .double mn, .ref z4, .int (nI tc), .ref z5, .int (goA (mgF w h P k) ba), .int (goR w h P (mgF w h P k) br)])), (z1, .inl (cZ, 576, .inl (bA P))), (z2, .inl (cZ, 576, .inl (bA N))), (z3, .inl (cI, 4, .inl (e4 ze le ue re de))), (z4, .inl (cI, 16, .inl TM)), (z5, .inl (cI, 104, .inl LN))] := by
  refine Ci.of .boolean (nar_b2i _) rfl rfl (cc := cX6_goTo) (maxL := 4) (plainFor_of_name (by decide)) rfl (Nat.le_of_ble_eq_true rfl) rfl ?_
  intro p e s m args below meth c A Q hx hb hml hts hown hA hK hP hD hS hend ls hl
  refine lv_iconst (v := (-1)) hx hb dX6_goTo_0 (by decide) ?_
  refine lv_istore_n (lv' := [(2, .int ((-1))), (0, .ref z0), (1, .int k)]) hx hb dX6_goTo_1 rfl hl (by decide) rfl (fun ls hl => ?_)
  refine lv_iconst (v := 0) hx hb dX6_goTo_2 (by decide) ?_
  refine lv_istore_n (lv' := [(3, .int 0), (2, .int ((-1))), (0, .ref z0), (1, .int k)]) hx hb dX6_goTo_3 rfl hl (by decide) rfl (fun ls hl => ?_)
  have K4 : ∀ (n4 : Nat) (i : Nat) (b : Int32), h - i < n4 → (i ≤ h) → (mgF w h P k = mgN w h P k (h - i) i b) → ∀ (H : Heap) (locs : List Loc), va_P G vwCl [(z0, .inr (5, [.int cd, .int (nI w), .int (nI h), .ref z1, .ref z2, .ref z3, .int (b2i mk), .int (b2i ms), .double mn, .ref z4, .int (nI tc), .ref z5, .int ba, .int br])), (z1, .inl (cZ, 576, .inl (bA P))), (z2, .inl (cZ, 576, .inl (bA N))), (z3, .inl (cI, 4, .inl (e4 ze le ue re de))), (z4, .inl (cI, 16, .inl TM)), (z5, .inl (cI, 104, .inl LN))] H → va_D A [(z0, .inr (5, [.int cd, .int (nI w), .int (nI h), .ref z1, .ref z2, .ref z3, .int (b2i mk), .int (b2i ms), .double mn, .ref z4, .int (nI tc), .ref z5, .int ba, .int br])), (z1, .inl (cZ, 576, .inl (bA P))), (z2, .inl (cZ, 576, .inl (bA N))), (z3, .inl (cI, 4, .inl (e4 ze le ue re de))), (z4, .inl (cI, 16, .inl TM)), (z5, .inl (cI, 104, .inl LN))] → va_S A s.heap H locs → ∀ ls : Array Slot, lv_has ls 4 [(0, .ref z0), (1, .int k), (2, .int b), (3, .int (nI i))] → W p l e rmX6_goTo s m args below meth c H locs 0 0 Q (F0 m 4 ls []) := by
    intro n4
    induction n4 with
    | zero => intro i b hn; exact absurd hn (by omega)
    | succ n4 ih4 =>
      intro i b hn4 hi hF H locs hP hD hS ls hl
      refine lv_iload_n hx hb dX6_goTo_4 rfl (lv_at hl 3 rfl) ?_
      refine lv_aload_n hx hb dX6_goTo_5 rfl (lv_at hl 0 rfl) ?_
      refine va_get (D := G) (ci := 5) (v := .int (nI h)) (C := RX6) (T := TX6) (N := 14) hx hb hts in_kX6_goTo_X6 hown hK hP 0 rfl rfl 2 (by decide) (hts _ fl_kX6_goTo_30) (fun _ h9 => h9) rfl dX6_goTo_6 ?_
      refine kGe (by omega) (by omega) (tgt := 102) hx hb dX6_goTo_9 (by decide) (fun c_9 => ?_) (fun c_9 => ?_)
      · have e9 : h = i := by omega
        subst e9
        refine lv_iconst (v := 0) hx hb dX6_goTo_102 (by decide) ?_
        exact hend _ _ _ _ _ _ dX6_goTo_103 hP hD hS (by rw [hF, Nat.sub_self]; rfl) (by rw [hF, Nat.sub_self]; rfl)
      · refine lv_aload_n hx hb dX6_goTo_12 rfl (lv_at hl 0 rfl) ?_
        refine lv_iconst (v := 1) hx hb dX6_goTo_13 (by decide) ?_
        refine lv_iload_n hx hb dX6_goTo_14 rfl (lv_at hl 3 rfl) ?_
        refine kVi (w' := [(z0, .inr (5, [.int cd, .int (nI w), .int (nI h), .ref z1, .ref z2, .ref z3, .int (b2i mk), .int (b2i ms), .double mn, .ref z4, .int (nI tc), .ref z5, .int ba, .int br])), (z1, .inl (cZ, 576, .inl (bA P))), (z2, .inl (cZ, 576, .inl (bA N))), (z3, .inl (cI, 4, .inl (e4 ze le ue re de))), (z4, .inl (cI, 16, .inl TM)), (z5, .inl (cI, 104, .inl LN))]) (wr := []) (isC := [0, 1, 2, 3, 4, 5]) (isR := []) (pm := [0, 1, 2, 3, 4, 5]) (rest := []) (kX6_isBareR l G cI cZ cJ cD z0 z1 z2 z3 z4 z5 w h hw hh cd P N ze le ue re de mk ms mn tc TM LN ba br 1 (nI i) (by decide)) ⟨hx, hb, hml, hown, hts⟩ (cwV 2 hts gX6_goTo_X6_isBare rfl rfl rfl hd_X6_isBare ⟨Nat.le_of_ble_eq_true rfl, Nat.le_of_ble_eq_true rfl⟩) hK hP hD hS hA ⟨rfl, rfl, rfl, by decide, rfl, rfl, rfl⟩ 5 0 rfl rfl rfl hl.1 rfl (Nat.le_of_ble_eq_true rfl) dX6_goTo_15 ⟨Nat.le_of_ble_eq_true rfl, Nat.le_of_ble_eq_true rfl⟩ rfl rfl (fun H locs hP hD hS => ?_)
        refine kIfNeB (tgt := 96) hx hb dX6_goTo_18 (by decide) (fun c_18 => ?_) (fun c_18 => ?_)
        · refine lv_iinc (v := nI (i + 1)) (lv' := [(3, .int (nI (i + 1))), (0, .ref z0), (1, .int k), (2, .int b)]) hx hb dX6_goTo_96 hl (k := 3) rfl (nI_1 _) (by decide) rfl (fun ls hl => ?_)
          refine lv_goto (tgt := 4) hx hb dX6_goTo_99 (by decide) ?_
          exact ih4 (i + 1) b (by omega) (by omega) (hF.trans ((mgN_s w h P k (by omega) b).trans (if_neg (show ¬ bgM w h P i = true from (by simp [bgM, c_18]))))) _ _ hP hD hS _ (lv_sub hl [1, 2, 3, 0] rfl)
        · refine lv_iload_n hx hb dX6_goTo_21 rfl (lv_at hl 3 rfl) ?_
          refine lv_if_eq (tgt := 36) hx hb dX6_goTo_22 (by decide) (fun c_22 => ?_) (fun c_22 => ?_)
          · refine lv_iinc (v := b + 1) (lv' := [(2, .int (b + 1)), (0, .ref z0), (1, .int k), (3, .int (nI i))]) hx hb dX6_goTo_36 hl (k := 2) rfl rfl (by decide) rfl (fun ls hl => ?_)
            refine lv_iload_n hx hb dX6_goTo_39 rfl (lv_at hl 0 rfl) ?_
            refine lv_iload_n hx hb dX6_goTo_40 rfl (lv_at hl 2 rfl) ?_
            refine lv_icmp_ne (tgt := 96) hx hb dX6_goTo_41 (by decide) (fun c_41 => ?_) (fun c_41 => ?_)
            · refine lv_iinc (v := nI (i + 1)) (lv' := [(3, .int (nI (i + 1))), (2, .int (b + 1)), (0, .ref z0), (1, .int k)]) hx hb dX6_goTo_96 hl (k := 3) rfl (nI_1 _) (by decide) rfl (fun ls hl => ?_)
              refine lv_goto (tgt := 4) hx hb dX6_goTo_99 (by decide) ?_
              exact ih4 (i + 1) (b + 1) (by omega) (by omega) (hF.trans ((mgN_s w h P k (by omega) b).trans ((if_pos (show bgM w h P i = true from ((if_neg (Bool.eq_false_iff.mp c_18)).trans (if_pos c_22)))).trans (if_neg c_41)))) _ _ hP hD hS _ (lv_sub hl [2, 3, 1, 0] rfl)
            · have hg : mgF w h P k = some i := hF.trans ((mgN_s w h P k (by omega) b).trans ((if_pos (show bgM w h P i = true from ((if_neg (Bool.eq_false_iff.mp c_18)).trans (if_pos c_22)))).trans (if_pos c_41)))
              refine lv_aload_n hx hb dX6_goTo_44 rfl (lv_at hl 1 rfl) ?_
              refine lv_iload_n hx hb dX6_goTo_45 rfl (lv_at hl 3 rfl) ?_
              refine va_put (D := G) (ci := 5) (v := .int (nI i)) (ty := .int) (C := RX6) (T := TX6) (N := 14) hx hb hts in_kX6_goTo_X6 tyX6 tyX6_ok nmX6 hown hK hP hD hS 0 rfl rfl 12 (by decide) (hts _ fl_kX6_goTo_158) (fun _ h9 => h9) rfl (by decide +kernel) rfl rfl (Nat.le_of_ble_eq_true rfl) dX6_goTo_46 (fun H locs (hP : va_P G vwCl [(z0, .inr (5, [.int cd, .int (nI w), .int (nI h), .ref z1, .ref z2, .ref z3, .int (b2i mk), .int (b2i ms), .double mn, .ref z4, .int (nI tc), .ref z5, .int (nI i), .int br])), (z1, .inl (cZ, 576, .inl (bA P))), (z2, .inl (cZ, 576, .inl (bA N))), (z3, .inl (cI, 4, .inl (e4 ze le ue re de))), (z4, .inl (cI, 16, .inl TM)), (z5, .inl (cI, 104, .inl LN))] H) (hD : va_D A [(z0, .inr (5, [.int cd, .int (nI w), .int (nI h), .ref z1, .ref z2, .ref z3, .int (b2i mk), .int (b2i ms), .double mn, .ref z4, .int (nI tc), .ref z5, .int (nI i), .int br])), (z1, .inl (cZ, 576, .inl (bA P))), (z2, .inl (cZ, 576, .inl (bA N))), (z3, .inl (cI, 4, .inl (e4 ze le ue re de))), (z4, .inl (cI, 16, .inl TM)), (z5, .inl (cI, 104, .inl LN))]) hS => ?_)
              refine lv_aload_n hx hb dX6_goTo_49 rfl (lv_at hl 1 rfl) ?_
              refine lv_iconst (v := 0) hx hb dX6_goTo_50 (by decide) ?_
              refine va_put (D := G) (ci := 5) (v := .int 0) (ty := .int) (C := RX6) (T := TX6) (N := 14) hx hb hts in_kX6_goTo_X6 tyX6 tyX6_ok nmX6 hown hK hP hD hS 0 rfl rfl 13 (by decide) (hts _ fl_kX6_goTo_161) (fun _ h9 => h9) rfl (by decide +kernel) rfl rfl (Nat.le_of_ble_eq_true rfl) dX6_goTo_51 (fun H locs (hP : va_P G vwCl [(z0, .inr (5, [.int cd, .int (nI w), .int (nI h), .ref z1, .ref z2, .ref z3, .int (b2i mk), .int (b2i ms), .double mn, .ref z4, .int (nI tc), .ref z5, .int (nI i), .int 0])), (z1, .inl (cZ, 576, .inl (bA P))), (z2, .inl (cZ, 576, .inl (bA N))), (z3, .inl (cI, 4, .inl (e4 ze le ue re de))), (z4, .inl (cI, 16, .inl TM)), (z5, .inl (cI, 104, .inl LN))] H) (hD : va_D A [(z0, .inr (5, [.int cd, .int (nI w), .int (nI h), .ref z1, .ref z2, .ref z3, .int (b2i mk), .int (b2i ms), .double mn, .ref z4, .int (nI tc), .ref z5, .int (nI i), .int 0])), (z1, .inl (cZ, 576, .inl (bA P))), (z2, .inl (cZ, 576, .inl (bA N))), (z3, .inl (cI, 4, .inl (e4 ze le ue re de))), (z4, .inl (cI, 16, .inl TM)), (z5, .inl (cI, 104, .inl LN))]) hS => ?_)
              have K54 : ∀ (n54 : Nat) (r : Nat), h - (i + r) < n54 → (i + r ≤ h) → (rwF w h P i = rwN w h P i (h - (i + r)) r) → ∀ (H : Heap) (locs : List Loc), va_P G vwCl [(z0, .inr (5, [.int cd, .int (nI w), .int (nI h), .ref z1, .ref z2, .ref z3, .int (b2i mk), .int (b2i ms), .double mn, .ref z4, .int (nI tc), .ref z5, .int (nI i), .int (nI r)])), (z1, .inl (cZ, 576, .inl (bA P))), (z2, .inl (cZ, 576, .inl (bA N))), (z3, .inl (cI, 4, .inl (e4 ze le ue re de))), (z4, .inl (cI, 16, .inl TM)), (z5, .inl (cI, 104, .inl LN))] H → va_D A [(z0, .inr (5, [.int cd, .int (nI w), .int (nI h), .ref z1, .ref z2, .ref z3, .int (b2i mk), .int (b2i ms), .double mn, .ref z4, .int (nI tc), .ref z5, .int (nI i), .int (nI r)])), (z1, .inl (cZ, 576, .inl (bA P))), (z2, .inl (cZ, 576, .inl (bA N))), (z3, .inl (cI, 4, .inl (e4 ze le ue re de))), (z4, .inl (cI, 16, .inl TM)), (z5, .inl (cI, 104, .inl LN))] → va_S A s.heap H locs → ∀ ls : Array Slot, lv_has ls 4 [(0, .ref z0), (3, .int (nI i))] → W p l e rmX6_goTo s m args below meth c H locs 0 0 Q (F0 m 54 ls []) := by
                intro n54
                induction n54 with
                | zero => intro r hn; exact absurd hn (by omega)
                | succ n54 ih54 =>
                  intro r hn54 hr hR H locs hP hD hS ls hl
                  refine lv_iload_n hx hb dX6_goTo_54 rfl (lv_at hl 1 rfl) ?_
                  refine lv_aload_n hx hb dX6_goTo_55 rfl (lv_at hl 0 rfl) ?_
                  refine va_get (D := G) (ci := 5) (v := .int (nI r)) (C := RX6) (T := TX6) (N := 14) hx hb hts in_kX6_goTo_X6 hown hK hP 0 rfl rfl 13 (by decide) (hts _ fl_kX6_goTo_161) (fun _ h9 => h9) rfl dX6_goTo_56 ?_
                  refine lv_iadd hx hb dX6_goTo_59 ?_
                  refine kTopI (z := nI (i + r)) (nI_add i r) ?_
                  refine lv_aload_n hx hb dX6_goTo_60 rfl (lv_at hl 0 rfl) ?_
                  refine va_get (D := G) (ci := 5) (v := .int (nI h)) (C := RX6) (T := TX6) (N := 14) hx hb hts in_kX6_goTo_X6 hown hK hP 0 rfl rfl 2 (by decide) (hts _ fl_kX6_goTo_30) (fun _ h9 => h9) rfl dX6_goTo_61 ?_
                  refine kGe (by omega) (by omega) (tgt := 94) hx hb dX6_goTo_64 (by decide) (fun c_64 => ?_) (fun c_64 => ?_)
                  · refine lv_iconst (v := 1) hx hb dX6_goTo_94 (by decide) ?_
                    exact hend _ _ _ _ _ _ dX6_goTo_95 hP hD hS (by rw [hg]; rfl) (by rw [hg]; show _ = _; rw [show goR w h P (some i) br = nI (rwF w h P i) from rfl, hR, show h - (i + r) = 0 by omega, show rwN w h P i 0 r = r from rfl]; rfl)
                  · refine lv_aload_n hx hb dX6_goTo_67 rfl (lv_at hl 0 rfl) ?_
                    refine lv_iconst (v := 1) hx hb dX6_goTo_68 (by decide) ?_
                    refine lv_iload_n hx hb dX6_goTo_69 rfl (lv_at hl 1 rfl) ?_
                    refine lv_aload_n hx hb dX6_goTo_70 rfl (lv_at hl 0 rfl) ?_
                    refine va_get (D := G) (ci := 5) (v := .int (nI r)) (C := RX6) (T := TX6) (N := 14) hx hb hts in_kX6_goTo_X6 hown hK hP 0 rfl rfl 13 (by decide) (hts _ fl_kX6_goTo_161) (fun _ h9 => h9) rfl dX6_goTo_71 ?_
                    refine lv_iadd hx hb dX6_goTo_74 ?_
                    refine kTopI (z := nI (i + r)) (nI_add i r) ?_
                    refine kVi (w' := [(z0, .inr (5, [.int cd, .int (nI w), .int (nI h), .ref z1, .ref z2, .ref z3, .int (b2i mk), .int (b2i ms), .double mn, .ref z4, .int (nI tc), .ref z5, .int (nI i), .int (nI r)])), (z1, .inl (cZ, 576, .inl (bA P))), (z2, .inl (cZ, 576, .inl (bA N))), (z3, .inl (cI, 4, .inl (e4 ze le ue re de))), (z4, .inl (cI, 16, .inl TM)), (z5, .inl (cI, 104, .inl LN))]) (wr := []) (isC := [0, 1, 2, 3, 4, 5]) (isR := []) (pm := [0, 1, 2, 3, 4, 5]) (rest := []) (kX6_isBareR l G cI cZ cJ cD z0 z1 z2 z3 z4 z5 w h hw hh cd P N ze le ue re de mk ms mn tc TM LN (nI i) (nI r) 1 (nI (i + r)) (by decide)) ⟨hx, hb, hml, hown, hts⟩ (cwV 2 hts gX6_goTo_X6_isBare rfl rfl rfl hd_X6_isBare ⟨Nat.le_of_ble_eq_true rfl, Nat.le_of_ble_eq_true rfl⟩) hK hP hD hS hA ⟨rfl, rfl, rfl, by decide, rfl, rfl, rfl⟩ 5 0 rfl rfl rfl hl.1 rfl (Nat.le_of_ble_eq_true rfl) dX6_goTo_75 ⟨Nat.le_of_ble_eq_true rfl, Nat.le_of_ble_eq_true rfl⟩ rfl rfl (fun H locs hP hD hS => ?_)
                    refine kIfNeB (tgt := 94) hx hb dX6_goTo_78 (by decide) (fun c_78 => ?_) (fun c_78 => ?_)
                    · refine lv_iconst (v := 1) hx hb dX6_goTo_94 (by decide) ?_
                      exact hend _ _ _ _ _ _ dX6_goTo_95 hP hD hS (by rw [hg]; rfl) (by rw [hg]; show _ = _; rw [show goR w h P (some i) br = nI (rwF w h P i) from rfl, hR, rwN_s w h P (by omega), if_pos c_78]; rfl)
                    · refine lv_aload_n hx hb dX6_goTo_81 rfl (lv_at hl 0 rfl) ?_
                      refine lv_dup hx hb dX6_goTo_82 rfl ?_
                      refine va_get (D := G) (ci := 5) (v := .int (nI r)) (C := RX6) (T := TX6) (N := 14) hx hb hts in_kX6_goTo_X6 hown hK hP 0 rfl rfl 13 (by decide) (hts _ fl_kX6_goTo_161) (fun _ h9 => h9) rfl dX6_goTo_83 ?_
                      refine lv_iconst (v := 1) hx hb dX6_goTo_86 (by decide) ?_
                      refine lv_iadd hx hb dX6_goTo_87 ?_
                      refine kTopI (z := nI (r + 1)) (nI_1 _) ?_
                      refine va_put (D := G) (ci := 5) (v := .int (nI (r + 1))) (ty := .int) (C := RX6) (T := TX6) (N := 14) hx hb hts in_kX6_goTo_X6 tyX6 tyX6_ok nmX6 hown hK hP hD hS 0 rfl rfl 13 (by decide) (hts _ fl_kX6_goTo_161) (fun _ h9 => h9) rfl (by decide +kernel) rfl rfl (Nat.le_of_ble_eq_true rfl) dX6_goTo_88 (fun H locs (hP : va_P G vwCl [(z0, .inr (5, [.int cd, .int (nI w), .int (nI h), .ref z1, .ref z2, .ref z3, .int (b2i mk), .int (b2i ms), .double mn, .ref z4, .int (nI tc), .ref z5, .int (nI i), .int (nI (r + 1))])), (z1, .inl (cZ, 576, .inl (bA P))), (z2, .inl (cZ, 576, .inl (bA N))), (z3, .inl (cI, 4, .inl (e4 ze le ue re de))), (z4, .inl (cI, 16, .inl TM)), (z5, .inl (cI, 104, .inl LN))] H) (hD : va_D A [(z0, .inr (5, [.int cd, .int (nI w), .int (nI h), .ref z1, .ref z2, .ref z3, .int (b2i mk), .int (b2i ms), .double mn, .ref z4, .int (nI tc), .ref z5, .int (nI i), .int (nI (r + 1))])), (z1, .inl (cZ, 576, .inl (bA P))), (z2, .inl (cZ, 576, .inl (bA N))), (z3, .inl (cI, 4, .inl (e4 ze le ue re de))), (z4, .inl (cI, 16, .inl TM)), (z5, .inl (cI, 104, .inl LN))]) hS => ?_)
                      refine lv_goto (tgt := 54) hx hb dX6_goTo_91 (by decide) ?_
                      exact ih54 (r + 1) (by omega) (by omega) (hR.trans ((rwN_s w h P (by omega)).trans (if_neg (Bool.eq_false_iff.mp c_78)))) _ _ hP hD hS _ (lv_sub hl [0, 1] rfl)
              exact K54 (h - (i + 0) + 1) 0 (by omega) (by omega) rfl _ _ hP hD hS _ (lv_sub hl [1, 3] rfl)
          · refine lv_aload_n hx hb dX6_goTo_25 rfl (lv_at hl 0 rfl) ?_
            refine lv_iconst (v := 1) hx hb dX6_goTo_26 (by decide) ?_
            refine lv_iload_n hx hb dX6_goTo_27 rfl (lv_at hl 3 rfl) ?_
            refine lv_iconst (v := 1) hx hb dX6_goTo_28 (by decide) ?_
            refine lv_isub hx hb dX6_goTo_29 ?_
            refine kVi (w' := [(z0, .inr (5, [.int cd, .int (nI w), .int (nI h), .ref z1, .ref z2, .ref z3, .int (b2i mk), .int (b2i ms), .double mn, .ref z4, .int (nI tc), .ref z5, .int ba, .int br])), (z1, .inl (cZ, 576, .inl (bA P))), (z2, .inl (cZ, 576, .inl (bA N))), (z3, .inl (cI, 4, .inl (e4 ze le ue re de))), (z4, .inl (cI, 16, .inl TM)), (z5, .inl (cI, 104, .inl LN))]) (wr := []) (isC := [0, 1, 2, 3, 4, 5]) (isR := []) (pm := [0, 1, 2, 3, 4, 5]) (rest := []) (kX6_isBareR l G cI cZ cJ cD z0 z1 z2 z3 z4 z5 w h hw hh cd P N ze le ue re de mk ms mn tc TM LN ba br 1 ((nI i) - 1) (by decide)) ⟨hx, hb, hml, hown, hts⟩ (cwV 2 hts gX6_goTo_X6_isBare rfl rfl rfl hd_X6_isBare ⟨Nat.le_of_ble_eq_true rfl, Nat.le_of_ble_eq_true rfl⟩) hK hP hD hS hA ⟨rfl, rfl, rfl, by decide, rfl, rfl, rfl⟩ 5 0 rfl rfl rfl hl.1 rfl (Nat.le_of_ble_eq_true rfl) dX6_goTo_30 ⟨Nat.le_of_ble_eq_true rfl, Nat.le_of_ble_eq_true rfl⟩ rfl rfl (fun H locs hP hD hS => ?_)
            refine kIfEqB (tgt := 96) hx hb dX6_goTo_33 (by decide) (fun c_33 => ?_) (fun c_33 => ?_)
            · refine lv_iinc (v := nI (i + 1)) (lv' := [(3, .int (nI (i + 1))), (0, .ref z0), (1, .int k), (2, .int b)]) hx hb dX6_goTo_96 hl (k := 3) rfl (nI_1 _) (by decide) rfl (fun ls hl => ?_)
              refine lv_goto (tgt := 4) hx hb dX6_goTo_99 (by decide) ?_
              exact ih4 (i + 1) b (by omega) (by omega) (hF.trans ((mgN_s w h P k (by omega) b).trans (if_neg (show ¬ bgM w h P i = true from (by simp [bgM, c_18, c_22, c_33]))))) _ _ hP hD hS _ (lv_sub hl [1, 2, 3, 0] rfl)
            · refine lv_iinc (v := b + 1) (lv' := [(2, .int (b + 1)), (0, .ref z0), (1, .int k), (3, .int (nI i))]) hx hb dX6_goTo_36 hl (k := 2) rfl rfl (by decide) rfl (fun ls hl => ?_)
              refine lv_iload_n hx hb dX6_goTo_39 rfl (lv_at hl 0 rfl) ?_
              refine lv_iload_n hx hb dX6_goTo_40 rfl (lv_at hl 2 rfl) ?_
              refine lv_icmp_ne (tgt := 96) hx hb dX6_goTo_41 (by decide) (fun c_41 => ?_) (fun c_41 => ?_)
              · refine lv_iinc (v := nI (i + 1)) (lv' := [(3, .int (nI (i + 1))), (2, .int (b + 1)), (0, .ref z0), (1, .int k)]) hx hb dX6_goTo_96 hl (k := 3) rfl (nI_1 _) (by decide) rfl (fun ls hl => ?_)
                refine lv_goto (tgt := 4) hx hb dX6_goTo_99 (by decide) ?_
                exact ih4 (i + 1) (b + 1) (by omega) (by omega) (hF.trans ((mgN_s w h P k (by omega) b).trans ((if_pos (show bgM w h P i = true from (by simp [bgM, c_18, c_22, c_33]))).trans (if_neg c_41)))) _ _ hP hD hS _ (lv_sub hl [2, 3, 1, 0] rfl)
              · have hg : mgF w h P k = some i := hF.trans ((mgN_s w h P k (by omega) b).trans ((if_pos (show bgM w h P i = true from (by simp [bgM, c_18, c_22, c_33]))).trans (if_pos c_41)))
                refine lv_aload_n hx hb dX6_goTo_44 rfl (lv_at hl 1 rfl) ?_
                refine lv_iload_n hx hb dX6_goTo_45 rfl (lv_at hl 3 rfl) ?_
                refine va_put (D := G) (ci := 5) (v := .int (nI i)) (ty := .int) (C := RX6) (T := TX6) (N := 14) hx hb hts in_kX6_goTo_X6 tyX6 tyX6_ok nmX6 hown hK hP hD hS 0 rfl rfl 12 (by decide) (hts _ fl_kX6_goTo_158) (fun _ h9 => h9) rfl (by decide +kernel) rfl rfl (Nat.le_of_ble_eq_true rfl) dX6_goTo_46 (fun H locs (hP : va_P G vwCl [(z0, .inr (5, [.int cd, .int (nI w), .int (nI h), .ref z1, .ref z2, .ref z3, .int (b2i mk), .int (b2i ms), .double mn, .ref z4, .int (nI tc), .ref z5, .int (nI i), .int br])), (z1, .inl (cZ, 576, .inl (bA P))), (z2, .inl (cZ, 576, .inl (bA N))), (z3, .inl (cI, 4, .inl (e4 ze le ue re de))), (z4, .inl (cI, 16, .inl TM)), (z5, .inl (cI, 104, .inl LN))] H) (hD : va_D A [(z0, .inr (5, [.int cd, .int (nI w), .int (nI h), .ref z1, .ref z2, .ref z3, .int (b2i mk), .int (b2i ms), .double mn, .ref z4, .int (nI tc), .ref z5, .int (nI i), .int br])), (z1, .inl (cZ, 576, .inl (bA P))), (z2, .inl (cZ, 576, .inl (bA N))), (z3, .inl (cI, 4, .inl (e4 ze le ue re de))), (z4, .inl (cI, 16, .inl TM)), (z5, .inl (cI, 104, .inl LN))]) hS => ?_)
                refine lv_aload_n hx hb dX6_goTo_49 rfl (lv_at hl 1 rfl) ?_
                refine lv_iconst (v := 0) hx hb dX6_goTo_50 (by decide) ?_
                refine va_put (D := G) (ci := 5) (v := .int 0) (ty := .int) (C := RX6) (T := TX6) (N := 14) hx hb hts in_kX6_goTo_X6 tyX6 tyX6_ok nmX6 hown hK hP hD hS 0 rfl rfl 13 (by decide) (hts _ fl_kX6_goTo_161) (fun _ h9 => h9) rfl (by decide +kernel) rfl rfl (Nat.le_of_ble_eq_true rfl) dX6_goTo_51 (fun H locs (hP : va_P G vwCl [(z0, .inr (5, [.int cd, .int (nI w), .int (nI h), .ref z1, .ref z2, .ref z3, .int (b2i mk), .int (b2i ms), .double mn, .ref z4, .int (nI tc), .ref z5, .int (nI i), .int 0])), (z1, .inl (cZ, 576, .inl (bA P))), (z2, .inl (cZ, 576, .inl (bA N))), (z3, .inl (cI, 4, .inl (e4 ze le ue re de))), (z4, .inl (cI, 16, .inl TM)), (z5, .inl (cI, 104, .inl LN))] H) (hD : va_D A [(z0, .inr (5, [.int cd, .int (nI w), .int (nI h), .ref z1, .ref z2, .ref z3, .int (b2i mk), .int (b2i ms), .double mn, .ref z4, .int (nI tc), .ref z5, .int (nI i), .int 0])), (z1, .inl (cZ, 576, .inl (bA P))), (z2, .inl (cZ, 576, .inl (bA N))), (z3, .inl (cI, 4, .inl (e4 ze le ue re de))), (z4, .inl (cI, 16, .inl TM)), (z5, .inl (cI, 104, .inl LN))]) hS => ?_)
                have K54 : ∀ (n54 : Nat) (r : Nat), h - (i + r) < n54 → (i + r ≤ h) → (rwF w h P i = rwN w h P i (h - (i + r)) r) → ∀ (H : Heap) (locs : List Loc), va_P G vwCl [(z0, .inr (5, [.int cd, .int (nI w), .int (nI h), .ref z1, .ref z2, .ref z3, .int (b2i mk), .int (b2i ms), .double mn, .ref z4, .int (nI tc), .ref z5, .int (nI i), .int (nI r)])), (z1, .inl (cZ, 576, .inl (bA P))), (z2, .inl (cZ, 576, .inl (bA N))), (z3, .inl (cI, 4, .inl (e4 ze le ue re de))), (z4, .inl (cI, 16, .inl TM)), (z5, .inl (cI, 104, .inl LN))] H → va_D A [(z0, .inr (5, [.int cd, .int (nI w), .int (nI h), .ref z1, .ref z2, .ref z3, .int (b2i mk), .int (b2i ms), .double mn, .ref z4, .int (nI tc), .ref z5, .int (nI i), .int (nI r)])), (z1, .inl (cZ, 576, .inl (bA P))), (z2, .inl (cZ, 576, .inl (bA N))), (z3, .inl (cI, 4, .inl (e4 ze le ue re de))), (z4, .inl (cI, 16, .inl TM)), (z5, .inl (cI, 104, .inl LN))] → va_S A s.heap H locs → ∀ ls : Array Slot, lv_has ls 4 [(0, .ref z0), (3, .int (nI i))] → W p l e rmX6_goTo s m args below meth c H locs 0 0 Q (F0 m 54 ls []) := by
                  intro n54
                  induction n54 with
                  | zero => intro r hn; exact absurd hn (by omega)
                  | succ n54 ih54 =>
                    intro r hn54 hr hR H locs hP hD hS ls hl
                    refine lv_iload_n hx hb dX6_goTo_54 rfl (lv_at hl 1 rfl) ?_
                    refine lv_aload_n hx hb dX6_goTo_55 rfl (lv_at hl 0 rfl) ?_
                    refine va_get (D := G) (ci := 5) (v := .int (nI r)) (C := RX6) (T := TX6) (N := 14) hx hb hts in_kX6_goTo_X6 hown hK hP 0 rfl rfl 13 (by decide) (hts _ fl_kX6_goTo_161) (fun _ h9 => h9) rfl dX6_goTo_56 ?_
                    refine lv_iadd hx hb dX6_goTo_59 ?_
                    refine kTopI (z := nI (i + r)) (nI_add i r) ?_
                    refine lv_aload_n hx hb dX6_goTo_60 rfl (lv_at hl 0 rfl) ?_
                    refine va_get (D := G) (ci := 5) (v := .int (nI h)) (C := RX6) (T := TX6) (N := 14) hx hb hts in_kX6_goTo_X6 hown hK hP 0 rfl rfl 2 (by decide) (hts _ fl_kX6_goTo_30) (fun _ h9 => h9) rfl dX6_goTo_61 ?_
                    refine kGe (by omega) (by omega) (tgt := 94) hx hb dX6_goTo_64 (by decide) (fun c_64 => ?_) (fun c_64 => ?_)
                    · refine lv_iconst (v := 1) hx hb dX6_goTo_94 (by decide) ?_
                      exact hend _ _ _ _ _ _ dX6_goTo_95 hP hD hS (by rw [hg]; rfl) (by rw [hg]; show _ = _; rw [show goR w h P (some i) br = nI (rwF w h P i) from rfl, hR, show h - (i + r) = 0 by omega, show rwN w h P i 0 r = r from rfl]; rfl)
                    · refine lv_aload_n hx hb dX6_goTo_67 rfl (lv_at hl 0 rfl) ?_
                      refine lv_iconst (v := 1) hx hb dX6_goTo_68 (by decide) ?_
                      refine lv_iload_n hx hb dX6_goTo_69 rfl (lv_at hl 1 rfl) ?_
                      refine lv_aload_n hx hb dX6_goTo_70 rfl (lv_at hl 0 rfl) ?_
                      refine va_get (D := G) (ci := 5) (v := .int (nI r)) (C := RX6) (T := TX6) (N := 14) hx hb hts in_kX6_goTo_X6 hown hK hP 0 rfl rfl 13 (by decide) (hts _ fl_kX6_goTo_161) (fun _ h9 => h9) rfl dX6_goTo_71 ?_
                      refine lv_iadd hx hb dX6_goTo_74 ?_
                      refine kTopI (z := nI (i + r)) (nI_add i r) ?_
                      refine kVi (w' := [(z0, .inr (5, [.int cd, .int (nI w), .int (nI h), .ref z1, .ref z2, .ref z3, .int (b2i mk), .int (b2i ms), .double mn, .ref z4, .int (nI tc), .ref z5, .int (nI i), .int (nI r)])), (z1, .inl (cZ, 576, .inl (bA P))), (z2, .inl (cZ, 576, .inl (bA N))), (z3, .inl (cI, 4, .inl (e4 ze le ue re de))), (z4, .inl (cI, 16, .inl TM)), (z5, .inl (cI, 104, .inl LN))]) (wr := []) (isC := [0, 1, 2, 3, 4, 5]) (isR := []) (pm := [0, 1, 2, 3, 4, 5]) (rest := []) (kX6_isBareR l G cI cZ cJ cD z0 z1 z2 z3 z4 z5 w h hw hh cd P N ze le ue re de mk ms mn tc TM LN (nI i) (nI r) 1 (nI (i + r)) (by decide)) ⟨hx, hb, hml, hown, hts⟩ (cwV 2 hts gX6_goTo_X6_isBare rfl rfl rfl hd_X6_isBare ⟨Nat.le_of_ble_eq_true rfl, Nat.le_of_ble_eq_true rfl⟩) hK hP hD hS hA ⟨rfl, rfl, rfl, by decide, rfl, rfl, rfl⟩ 5 0 rfl rfl rfl hl.1 rfl (Nat.le_of_ble_eq_true rfl) dX6_goTo_75 ⟨Nat.le_of_ble_eq_true rfl, Nat.le_of_ble_eq_true rfl⟩ rfl rfl (fun H locs hP hD hS => ?_)
                      refine kIfNeB (tgt := 94) hx hb dX6_goTo_78 (by decide) (fun c_78 => ?_) (fun c_78 => ?_)
                      · refine lv_iconst (v := 1) hx hb dX6_goTo_94 (by decide) ?_
                        exact hend _ _ _ _ _ _ dX6_goTo_95 hP hD hS (by rw [hg]; rfl) (by rw [hg]; show _ = _; rw [show goR w h P (some i) br = nI (rwF w h P i) from rfl, hR, rwN_s w h P (by omega), if_pos c_78]; rfl)
                      · refine lv_aload_n hx hb dX6_goTo_81 rfl (lv_at hl 0 rfl) ?_
                        refine lv_dup hx hb dX6_goTo_82 rfl ?_
                        refine va_get (D := G) (ci := 5) (v := .int (nI r)) (C := RX6) (T := TX6) (N := 14) hx hb hts in_kX6_goTo_X6 hown hK hP 0 rfl rfl 13 (by decide) (hts _ fl_kX6_goTo_161) (fun _ h9 => h9) rfl dX6_goTo_83 ?_
                        refine lv_iconst (v := 1) hx hb dX6_goTo_86 (by decide) ?_
                        refine lv_iadd hx hb dX6_goTo_87 ?_
                        refine kTopI (z := nI (r + 1)) (nI_1 _) ?_
                        refine va_put (D := G) (ci := 5) (v := .int (nI (r + 1))) (ty := .int) (C := RX6) (T := TX6) (N := 14) hx hb hts in_kX6_goTo_X6 tyX6 tyX6_ok nmX6 hown hK hP hD hS 0 rfl rfl 13 (by decide) (hts _ fl_kX6_goTo_161) (fun _ h9 => h9) rfl (by decide +kernel) rfl rfl (Nat.le_of_ble_eq_true rfl) dX6_goTo_88 (fun H locs (hP : va_P G vwCl [(z0, .inr (5, [.int cd, .int (nI w), .int (nI h), .ref z1, .ref z2, .ref z3, .int (b2i mk), .int (b2i ms), .double mn, .ref z4, .int (nI tc), .ref z5, .int (nI i), .int (nI (r + 1))])), (z1, .inl (cZ, 576, .inl (bA P))), (z2, .inl (cZ, 576, .inl (bA N))), (z3, .inl (cI, 4, .inl (e4 ze le ue re de))), (z4, .inl (cI, 16, .inl TM)), (z5, .inl (cI, 104, .inl LN))] H) (hD : va_D A [(z0, .inr (5, [.int cd, .int (nI w), .int (nI h), .ref z1, .ref z2, .ref z3, .int (b2i mk), .int (b2i ms), .double mn, .ref z4, .int (nI tc), .ref z5, .int (nI i), .int (nI (r + 1))])), (z1, .inl (cZ, 576, .inl (bA P))), (z2, .inl (cZ, 576, .inl (bA N))), (z3, .inl (cI, 4, .inl (e4 ze le ue re de))), (z4, .inl (cI, 16, .inl TM)), (z5, .inl (cI, 104, .inl LN))]) hS => ?_)
                        refine lv_goto (tgt := 54) hx hb dX6_goTo_91 (by decide) ?_
                        exact ih54 (r + 1) (by omega) (by omega) (hR.trans ((rwN_s w h P (by omega)).trans (if_neg (Bool.eq_false_iff.mp c_78)))) _ _ hP hD hS _ (lv_sub hl [0, 1] rfl)
                exact K54 (h - (i + 0) + 1) 0 (by omega) (by omega) rfl _ _ hP hD hS _ (lv_sub hl [1, 3] rfl)
  exact K4 (h - 0 + 1) 0 ((-1)) (by omega) (by omega) rfl _ _ hP hD hS _ (lv_sub hl [2, 3, 1, 0] rfl)
theorem in_kX6_bands_X6 : ∀ w ∈ u_ws RX6 TX6 14, w ∈ wsX6_bands := by decide +kernel
theorem fl_kX6_bands_36 : Cond.fieldLink RX6 36 "SkewFindModel" "code" "I" ∈ wsX6_bands := by decide +kernel
abbrev rmX6_bands : Room := { frames := 3, cells := 0, slots := 0, locals := 69 }
set_option maxRecDepth 100000 in
set_option maxHeartbeats 4000000 in
theorem kX6_bands (l : Launch) (G : va_G) (cI cZ cJ cD : ClassId) (z0 z1 z2 z3 z4 z5 w h : Nat) (hw : w ≤ 24) (hh : h ≤ 24) (cd : Int32) (P N : Nat → Bool) (ze : Nat → Int32) (le ue re de : Int32) (mk ms : Bool) (mn : UInt64) (tc : Nat) (TM LN : Nat → Int32) (ba br : Int32) (nb : Nat) (hnb : nb ≤ 24) (hb1 : ∀ j, j < nb → goS (mgF w h P (nI j)) = true) (hb2 : goS (mgF w h P (nI nb)) = false) : Ci l G (kTy cI cZ cJ cD) yX6_bands wsX6_bands rmX6_bands [.ref z0] [(z0, .inr (5, [.int cd, .int (nI w), .int (nI h), .ref z1, .ref z2, .ref z3, .int (b2i mk), .int (b2i ms), .double mn, .ref z4, .int (nI tc), .ref z5, .int ba, .int br])), (z1, .inl (cZ, 576, .inl (bA P))), (z2, .inl (cZ, 576, .inl (bA N))), (z3, .inl (cI, 4, .inl (e4 ze le ue re de))), (z4, .inl (cI, 16, .inl TM)), (z5, .inl (cI, 104, .inl LN))] (nI nb) [(z0, .inr (5, [.int 0, .int (nI w), .int (nI h), .ref z1, .ref z2, .ref z3, .int (b2i mk), .int (b2i ms), .double mn, .ref z4, .int (nI tc), .ref z5, .int (baN w h P ba (nb + 1)), .int (brN w h P br (nb + 1))])), (z1, .inl (cZ, 576, .inl (bA P))), (z2, .inl (cZ, 576, .inl (bA N))), (z3, .inl (cI, 4, .inl (e4 ze le ue re de))), (z4, .inl (cI, 16, .inl TM)), (z5, .inl (cI, 104, .inl LN))] := by
  refine Ci.of .int rfl rfl rfl (cc := cX6_bands) (maxL := 2) (plainFor_of_name (by decide)) rfl (Nat.le_of_ble_eq_true rfl) rfl ?_
  intro p e s m args below meth c A Q hx hb hml hts hown hA hK hP hD hS hend ls hl
  refine lv_aload_n hx hb dX6_bands_0 rfl (lv_at hl 0 rfl) ?_
  refine lv_iconst (v := 0) hx hb dX6_bands_1 (by decide) ?_
  refine va_put (D := G) (ci := 5) (v := .int 0) (ty := .int) (C := RX6) (T := TX6) (N := 14) hx hb hts in_kX6_bands_X6 tyX6 tyX6_ok nmX6 hown hK hP hD hS 0 rfl rfl 0 (by decide) (hts _ fl_kX6_bands_36) (fun _ h9 => h9) rfl (by decide +kernel) rfl rfl (Nat.le_of_ble_eq_true rfl) dX6_bands_2 (fun H locs (hP : va_P G vwCl [(z0, .inr (5, [.int 0, .int (nI w), .int (nI h), .ref z1, .ref z2, .ref z3, .int (b2i mk), .int (b2i ms), .double mn, .ref z4, .int (nI tc), .ref z5, .int ba, .int br])), (z1, .inl (cZ, 576, .inl (bA P))), (z2, .inl (cZ, 576, .inl (bA N))), (z3, .inl (cI, 4, .inl (e4 ze le ue re de))), (z4, .inl (cI, 16, .inl TM)), (z5, .inl (cI, 104, .inl LN))] H) (hD : va_D A [(z0, .inr (5, [.int 0, .int (nI w), .int (nI h), .ref z1, .ref z2, .ref z3, .int (b2i mk), .int (b2i ms), .double mn, .ref z4, .int (nI tc), .ref z5, .int ba, .int br])), (z1, .inl (cZ, 576, .inl (bA P))), (z2, .inl (cZ, 576, .inl (bA N))), (z3, .inl (cI, 4, .inl (e4 ze le ue re de))), (z4, .inl (cI, 16, .inl TM)), (z5, .inl (cI, 104, .inl LN))]) hS => ?_)
  refine lv_iconst (v := 0) hx hb dX6_bands_5 (by decide) ?_
  refine lv_istore_n (lv' := [(1, .int 0), (0, .ref z0)]) hx hb dX6_bands_6 rfl hl (by decide) rfl (fun ls hl => ?_)
  have K7 : ∀ (n7 : Nat) (j : Nat), nb + 1 - j < n7 → (j ≤ nb) → ∀ (H : Heap) (locs : List Loc), va_P G vwCl [(z0, .inr (5, [.int 0, .int (nI w), .int (nI h), .ref z1, .ref z2, .ref z3, .int (b2i mk), .int (b2i ms), .double mn, .ref z4, .int (nI tc), .ref z5, .int (baN w h P ba j), .int (brN w h P br j)])), (z1, .inl (cZ, 576, .inl (bA P))), (z2, .inl (cZ, 576, .inl (bA N))), (z3, .inl (cI, 4, .inl (e4 ze le ue re de))), (z4, .inl (cI, 16, .inl TM)), (z5, .inl (cI, 104, .inl LN))] H → va_D A [(z0, .inr (5, [.int 0, .int (nI w), .int (nI h), .ref z1, .ref z2, .ref z3, .int (b2i mk), .int (b2i ms), .double mn, .ref z4, .int (nI tc), .ref z5, .int (baN w h P ba j), .int (brN w h P br j)])), (z1, .inl (cZ, 576, .inl (bA P))), (z2, .inl (cZ, 576, .inl (bA N))), (z3, .inl (cI, 4, .inl (e4 ze le ue re de))), (z4, .inl (cI, 16, .inl TM)), (z5, .inl (cI, 104, .inl LN))] → va_S A s.heap H locs → ∀ ls : Array Slot, lv_has ls 2 [(0, .ref z0), (1, .int (nI j))] → W p l e rmX6_bands s m args below meth c H locs 0 0 Q (F0 m 7 ls []) := by
    intro n7
    induction n7 with
    | zero => intro j hn; exact absurd hn (by omega)
    | succ n7 ih7 =>
      intro j hn7 hj H locs hP hD hS ls hl
      refine lv_aload_n hx hb dX6_bands_7 rfl (lv_at hl 0 rfl) ?_
      refine lv_iload_n hx hb dX6_bands_8 rfl (lv_at hl 1 rfl) ?_
      refine kVi (w' := [(z0, .inr (5, [.int 0, .int (nI w), .int (nI h), .ref z1, .ref z2, .ref z3, .int (b2i mk), .int (b2i ms), .double mn, .ref z4, .int (nI tc), .ref z5, .int (goA (mgF w h P (nI j)) (baN w h P ba j)), .int (goR w h P (mgF w h P (nI j)) (brN w h P br j))])), (z1, .inl (cZ, 576, .inl (bA P))), (z2, .inl (cZ, 576, .inl (bA N))), (z3, .inl (cI, 4, .inl (e4 ze le ue re de))), (z4, .inl (cI, 16, .inl TM)), (z5, .inl (cI, 104, .inl LN))]) (wr := []) (isC := [0, 1, 2, 3, 4, 5]) (isR := []) (pm := [0, 1, 2, 3, 4, 5]) (rest := []) (kX6_goTo l G cI cZ cJ cD z0 z1 z2 z3 z4 z5 w h hw hh 0 P N ze le ue re de mk ms mn tc TM LN (baN w h P ba j) (brN w h P br j) (nI j)) ⟨hx, hb, hml, hown, hts⟩ (cwV 1 hts gX6_bands_X6_goTo rfl rfl rfl hd_X6_goTo ⟨Nat.le_of_ble_eq_true rfl, Nat.le_of_ble_eq_true rfl⟩) hK hP hD hS hA ⟨rfl, rfl, rfl, by decide, rfl, rfl, rfl⟩ 5 0 rfl rfl rfl hl.1 rfl (Nat.le_of_ble_eq_true rfl) dX6_bands_9 ⟨Nat.le_of_ble_eq_true rfl, Nat.le_of_ble_eq_true rfl⟩ rfl rfl (fun H locs hP hD hS => ?_)
      refine kIfEqB (tgt := 21) hx hb dX6_bands_12 (by decide) (fun c_12 => ?_) (fun c_12 => ?_)
      · have e9 : nb = j := Nat.le_antisymm (Nat.le_of_not_lt fun q => by have z := hb1 j q; rw [c_12] at z; cases z) hj
        subst e9
        refine lv_iload_n hx hb dX6_bands_21 rfl (lv_at hl 1 rfl) ?_
        exact hend _ _ _ _ _ _ dX6_bands_22 hP hD hS rfl rfl
      · have hne : j < nb := Nat.lt_of_le_of_ne hj (fun q => by rw [q, hb2] at c_12; cases c_12)
        refine lv_iinc (v := nI (j + 1)) (lv' := [(1, .int (nI (j + 1))), (0, .ref z0)]) hx hb dX6_bands_15 hl (k := 1) rfl (nI_1 _) (by decide) rfl (fun ls hl => ?_)
        refine lv_goto (tgt := 7) hx hb dX6_bands_18 (by decide) ?_
        exact ih7 (j + 1) (by omega) (by omega) _ _ hP hD hS _ (lv_sub hl [1, 0] rfl)
  exact K7 (nb + 1 - 0 + 1) 0 (by omega) (by omega) _ _ hP hD hS _ (lv_sub hl [1, 0] rfl)
theorem in_kX6_onIn_X6 : ∀ w ∈ u_ws RX6 TX6 14, w ∈ wsX6_onIn := by decide +kernel
theorem fl_kX6_onIn_26 : Cond.fieldLink RX6 26 "SkewFindModel" "width" "I" ∈ wsX6_onIn := by decide +kernel
abbrev rmX6_onIn : Room := { frames := 1, cells := 0, slots := 0, locals := 22 }
set_option maxRecDepth 100000 in
set_option maxHeartbeats 4000000 in
theorem kX6_onIn (l : Launch) (G : va_G) (cI cZ cJ cD : ClassId) (z0 z1 z2 z3 z4 z5 w h : Nat) (hw : w ≤ 24) (hh : h ≤ 24) (cd : Int32) (P N : Nat → Bool) (ze : Nat → Int32) (le ue re de : Int32) (mk ms : Bool) (mn : UInt64) (tc : Nat) (TM LN : Nat → Int32) (ba br : Int32) (f r : Nat) (hfr : f + r ≤ 24) : Ci l G (kTy cI cZ cJ cD) yX6_onIn wsX6_onIn rmX6_onIn [.ref z0, .int (nI f), .int (nI r)] [(z0, .inr (5, [.int cd, .int (nI w), .int (nI h), .ref z1, .ref z2, .ref z3, .int (b2i mk), .int (b2i ms), .double mn, .ref z4, .int (nI tc), .ref z5, .int ba, .int br])), (z1, .inl (cZ, 576, .inl (bA P))), (z2, .inl (cZ, 576, .inl (bA N))), (z3, .inl (cI, 4, .inl (e4 ze le ue re de))), (z4, .inl (cI, 16, .inl TM)), (z5, .inl (cI, 104, .inl LN))] (oiY w h P f r) [(z0, .inr (5, [.int cd, .int (nI w), .int (nI h), .ref z1, .ref z2, .ref z3, .int (b2i mk), .int (b2i ms), .double mn, .ref z4, .int (nI tc), .ref z5, .int ba, .int br])), (z1, .inl (cZ, 576, .inl (bA P))), (z2, .inl (cZ, 576, .inl (bA N))), (z3, .inl (cI, 4, .inl (e4 ze le ue re de))), (z4, .inl (cI, 16, .inl TM)), (z5, .inl (cI, 104, .inl LN))] := by
  refine Ci.of .int rfl rfl rfl (cc := cX6_onIn) (maxL := 6) (plainFor_of_name (by decide)) rfl (Nat.le_of_ble_eq_true rfl) rfl ?_
  intro p e s m args below meth c A Q hx hb hml hts hown hA hK hP hD hS hend ls hl
  refine lv_iconst (v := 0) hx hb dX6_onIn_0 (by decide) ?_
  refine lv_istore_n (lv' := [(3, .int 0), (0, .ref z0), (1, .int (nI f)), (2, .int (nI r))]) hx hb dX6_onIn_1 rfl hl (by decide) rfl (fun ls hl => ?_)
  refine lv_iload_n hx hb dX6_onIn_2 rfl (lv_at hl 2 rfl) ?_
  refine lv_istore (lv' := [(4, .int (nI f)), (3, .int 0), (0, .ref z0), (1, .int (nI f)), (2, .int (nI r))]) hx hb dX6_onIn_3 hl (by decide) rfl (fun ls hl => ?_)
  have K5 : ∀ (n5 : Nat) (j : Nat), r - j < n5 → (j ≤ r) → ∀ (H : Heap) (locs : List Loc), va_P G vwCl [(z0, .inr (5, [.int cd, .int (nI w), .int (nI h), .ref z1, .ref z2, .ref z3, .int (b2i mk), .int (b2i ms), .double mn, .ref z4, .int (nI tc), .ref z5, .int ba, .int br])), (z1, .inl (cZ, 576, .inl (bA P))), (z2, .inl (cZ, 576, .inl (bA N))), (z3, .inl (cI, 4, .inl (e4 ze le ue re de))), (z4, .inl (cI, 16, .inl TM)), (z5, .inl (cI, 104, .inl LN))] H → va_D A [(z0, .inr (5, [.int cd, .int (nI w), .int (nI h), .ref z1, .ref z2, .ref z3, .int (b2i mk), .int (b2i ms), .double mn, .ref z4, .int (nI tc), .ref z5, .int ba, .int br])), (z1, .inl (cZ, 576, .inl (bA P))), (z2, .inl (cZ, 576, .inl (bA N))), (z3, .inl (cI, 4, .inl (e4 ze le ue re de))), (z4, .inl (cI, 16, .inl TM)), (z5, .inl (cI, 104, .inl LN))] → va_S A s.heap H locs → ∀ ls : Array Slot, lv_has ls 6 [(0, .ref z0), (1, .int (nI f)), (2, .int (nI r)), (3, .int (oiY w h P f j)), (4, .int (nI (f + j)))] → W p l e rmX6_onIn s m args below meth c H locs 0 0 Q (F0 m 5 ls []) := by
    intro n5
    induction n5 with
    | zero => intro j hn; exact absurd hn (by omega)
    | succ n5 ih5 =>
      intro j hn5 hj H locs hP hD hS ls hl
      refine lv_iload hx hb dX6_onIn_5 (lv_at hl 4 rfl) ?_
      refine lv_iload_n hx hb dX6_onIn_7 rfl (lv_at hl 1 rfl) ?_
      refine lv_iload_n hx hb dX6_onIn_8 rfl (lv_at hl 2 rfl) ?_
      refine lv_iadd hx hb dX6_onIn_9 ?_
      refine kTopI (z := nI (f + r)) (nI_add f r) ?_
      refine kGe (by omega) (by omega) (tgt := 56) hx hb dX6_onIn_10 (by decide) (fun c_10 => ?_) (fun c_10 => ?_)
      · have e9 : r = j := by omega
        subst e9
        refine lv_iload_n hx hb dX6_onIn_56 rfl (lv_at hl 3 rfl) ?_
        exact hend _ _ _ _ _ _ dX6_onIn_57 hP hD hS rfl rfl
      · refine lv_iconst (v := 0) hx hb dX6_onIn_13 (by decide) ?_
        refine lv_istore (lv' := [(5, .int 0), (0, .ref z0), (1, .int (nI f)), (2, .int (nI r)), (3, .int (oiY w h P f j)), (4, .int (nI (f + j)))]) hx hb dX6_onIn_14 hl (by decide) rfl (fun ls hl => ?_)
        have K16 : ∀ (n16 : Nat) (x : Nat), w - x < n16 → (x ≤ w) → ∀ (H : Heap) (locs : List Loc), va_P G vwCl [(z0, .inr (5, [.int cd, .int (nI w), .int (nI h), .ref z1, .ref z2, .ref z3, .int (b2i mk), .int (b2i ms), .double mn, .ref z4, .int (nI tc), .ref z5, .int ba, .int br])), (z1, .inl (cZ, 576, .inl (bA P))), (z2, .inl (cZ, 576, .inl (bA N))), (z3, .inl (cI, 4, .inl (e4 ze le ue re de))), (z4, .inl (cI, 16, .inl TM)), (z5, .inl (cI, 104, .inl LN))] H → va_D A [(z0, .inr (5, [.int cd, .int (nI w), .int (nI h), .ref z1, .ref z2, .ref z3, .int (b2i mk), .int (b2i ms), .double mn, .ref z4, .int (nI tc), .ref z5, .int ba, .int br])), (z1, .inl (cZ, 576, .inl (bA P))), (z2, .inl (cZ, 576, .inl (bA N))), (z3, .inl (cI, 4, .inl (e4 ze le ue re de))), (z4, .inl (cI, 16, .inl TM)), (z5, .inl (cI, 104, .inl LN))] → va_S A s.heap H locs → ∀ ls : Array Slot, lv_has ls 6 [(0, .ref z0), (1, .int (nI f)), (2, .int (nI r)), (3, .int (oiX w h P (f + j) (oiY w h P f j) x)), (4, .int (nI (f + j))), (5, .int (nI x))] → W p l e rmX6_onIn s m args below meth c H locs 0 0 Q (F0 m 16 ls []) := by
          intro n16
          induction n16 with
          | zero => intro x hn; exact absurd hn (by omega)
          | succ n16 ih16 =>
            intro x hn16 hx2 H locs hP hD hS ls hl
            refine lv_iload hx hb dX6_onIn_16 (lv_at hl 5 rfl) ?_
            refine lv_aload_n hx hb dX6_onIn_18 rfl (lv_at hl 0 rfl) ?_
            refine va_get (D := G) (ci := 5) (v := .int (nI w)) (C := RX6) (T := TX6) (N := 14) hx hb hts in_kX6_onIn_X6 hown hK hP 0 rfl rfl 1 (by decide) (hts _ fl_kX6_onIn_26) (fun _ h9 => h9) rfl dX6_onIn_19 ?_
            refine kGe (by omega) (by omega) (tgt := 50) hx hb dX6_onIn_22 (by decide) (fun c_22 => ?_) (fun c_22 => ?_)
            · have e9 : w = x := by omega
              subst e9
              refine lv_iinc (v := nI ((f + j) + 1)) (lv' := [(4, .int (nI ((f + j) + 1))), (0, .ref z0), (1, .int (nI f)), (2, .int (nI r)), (3, .int (oiX w h P (f + j) (oiY w h P f j) w)), (5, .int (nI w))]) hx hb dX6_onIn_50 hl (k := 4) rfl (nI_1 _) (by decide) rfl (fun ls hl => ?_)
              refine lv_goto (tgt := 5) hx hb dX6_onIn_53 (by decide) ?_
              exact ih5 (j + 1) (by omega) (by omega) _ _ hP hD hS _ (lv_sub hl [1, 2, 3, 4, 0] rfl)
            · refine lv_iload_n hx hb dX6_onIn_25 rfl (lv_at hl 3 rfl) ?_
              refine lv_aload_n hx hb dX6_onIn_26 rfl (lv_at hl 0 rfl) ?_
              refine lv_iload hx hb dX6_onIn_27 (lv_at hl 5 rfl) ?_
              refine lv_iload hx hb dX6_onIn_29 (lv_at hl 4 rfl) ?_
              refine kVi (w' := [(z0, .inr (5, [.int cd, .int (nI w), .int (nI h), .ref z1, .ref z2, .ref z3, .int (b2i mk), .int (b2i ms), .double mn, .ref z4, .int (nI tc), .ref z5, .int ba, .int br])), (z1, .inl (cZ, 576, .inl (bA P))), (z2, .inl (cZ, 576, .inl (bA N))), (z3, .inl (cI, 4, .inl (e4 ze le ue re de))), (z4, .inl (cI, 16, .inl TM)), (z5, .inl (cI, 104, .inl LN))]) (wr := []) (isC := [0, 1, 2, 3, 4, 5]) (isR := []) (pm := [0, 1, 2, 3, 4, 5]) (rest := [.int (oiX w h P (f + j) (oiY w h P f j) x)]) (kX6_isOn l G cI cZ cJ cD z0 z1 z2 z3 z4 z5 w h hw hh cd P N ze le ue re de mk ms mn tc TM LN ba br (nI x) (nI (f + j))) ⟨hx, hb, hml, hown, hts⟩ (cwV 2 hts gX6_onIn_X6_isOn rfl rfl rfl hd_X6_isOn ⟨Nat.le_of_ble_eq_true rfl, Nat.le_of_ble_eq_true rfl⟩) hK hP hD hS hA ⟨rfl, rfl, rfl, by decide, rfl, rfl, rfl⟩ 5 0 rfl rfl rfl hl.1 rfl (Nat.le_of_ble_eq_true rfl) dX6_onIn_31 ⟨Nat.le_of_ble_eq_true rfl, Nat.le_of_ble_eq_true rfl⟩ rfl rfl (fun H locs hP hD hS => ?_)
              refine kIfEqB (tgt := 41) hx hb dX6_onIn_34 (by decide) (fun c_34 => ?_) (fun c_34 => ?_)
              · refine lv_iconst (v := 0) hx hb dX6_onIn_41 (by decide) ?_
                refine kTopI (z := b2i (mOnB w h P (nI x) (nI (f + j)))) (by rw [c_34]; rfl) ?_
                refine lv_iadd hx hb dX6_onIn_42 ?_
                refine lv_istore_n (lv' := [(3, .int ((oiX w h P (f + j) (oiY w h P f j) x) + (b2i (mOnB w h P (nI x) (nI (f + j)))))), (0, .ref z0), (1, .int (nI f)), (2, .int (nI r)), (4, .int (nI (f + j))), (5, .int (nI x))]) hx hb dX6_onIn_43 rfl hl (by decide) rfl (fun ls hl => ?_)
                refine lv_iinc (v := nI (x + 1)) (lv' := [(5, .int (nI (x + 1))), (3, .int ((oiX w h P (f + j) (oiY w h P f j) x) + (b2i (mOnB w h P (nI x) (nI (f + j)))))), (0, .ref z0), (1, .int (nI f)), (2, .int (nI r)), (4, .int (nI (f + j)))]) hx hb dX6_onIn_44 hl (k := 5) rfl (nI_1 _) (by decide) rfl (fun ls hl => ?_)
                refine lv_goto (tgt := 16) hx hb dX6_onIn_47 (by decide) ?_
                exact ih16 (x + 1) (by omega) (by omega) _ _ hP hD hS _ (lv_sub hl [2, 3, 4, 1, 5, 0] rfl)
              · refine lv_iconst (v := 1) hx hb dX6_onIn_37 (by decide) ?_
                refine kTopI (z := b2i (mOnB w h P (nI x) (nI (f + j)))) (by rw [c_34]; rfl) ?_
                refine lv_goto (tgt := 42) hx hb dX6_onIn_38 (by decide) ?_
                refine lv_iadd hx hb dX6_onIn_42 ?_
                refine lv_istore_n (lv' := [(3, .int ((oiX w h P (f + j) (oiY w h P f j) x) + (b2i (mOnB w h P (nI x) (nI (f + j)))))), (0, .ref z0), (1, .int (nI f)), (2, .int (nI r)), (4, .int (nI (f + j))), (5, .int (nI x))]) hx hb dX6_onIn_43 rfl hl (by decide) rfl (fun ls hl => ?_)
                refine lv_iinc (v := nI (x + 1)) (lv' := [(5, .int (nI (x + 1))), (3, .int ((oiX w h P (f + j) (oiY w h P f j) x) + (b2i (mOnB w h P (nI x) (nI (f + j)))))), (0, .ref z0), (1, .int (nI f)), (2, .int (nI r)), (4, .int (nI (f + j)))]) hx hb dX6_onIn_44 hl (k := 5) rfl (nI_1 _) (by decide) rfl (fun ls hl => ?_)
                refine lv_goto (tgt := 16) hx hb dX6_onIn_47 (by decide) ?_
                exact ih16 (x + 1) (by omega) (by omega) _ _ hP hD hS _ (lv_sub hl [2, 3, 4, 1, 5, 0] rfl)
        exact K16 (w - 0 + 1) 0 (by omega) (by omega) _ _ hP hD hS _ (lv_sub hl [1, 2, 3, 4, 5, 0] rfl)
  exact K5 (r - 0 + 1) 0 (by omega) (by omega) _ _ hP hD hS _ (lv_sub hl [2, 3, 4, 1, 0] rfl)
abbrev rmX6_bandX : Room := { frames := 3, cells := 0, slots := 0, locals := 69 }
set_option maxRecDepth 100000 in
set_option maxHeartbeats 4000000 in
theorem kX6_bandX (l : Launch) (G : va_G) (cI cZ cJ cD : ClassId) (z0 z1 z2 z3 z4 z5 w h : Nat) (hw : w ≤ 24) (hh : h ≤ 24) (cd : Int32) (P N : Nat → Bool) (ze : Nat → Int32) (le ue re de : Int32) (mk ms : Bool) (mn : UInt64) (tc : Nat) (TM LN : Nat → Int32) (ba br : Int32) (k q : Int32) (hg : mgF w h P k = none) : Ci l G (kTy cI cZ cJ cD) yX6_band wsX6_band rmX6_bandX [.ref z0, .int k, .int q] [(z0, .inr (5, [.int cd, .int (nI w), .int (nI h), .ref z1, .ref z2, .ref z3, .int (b2i mk), .int (b2i ms), .double mn, .ref z4, .int (nI tc), .ref z5, .int ba, .int br])), (z1, .inl (cZ, 576, .inl (bA P))), (z2, .inl (cZ, 576, .inl (bA N))), (z3, .inl (cI, 4, .inl (e4 ze le ue re de))), (z4, .inl (cI, 16, .inl TM)), (z5, .inl (cI, 104, .inl LN))] 0 [(z0, .inr (5, [.int 1, .int (nI w), .int (nI h), .ref z1, .ref z2, .ref z3, .int (b2i mk), .int (b2i ms), .double mn, .ref z4, .int (nI tc), .ref z5, .int (goA (mgF w h P k) ba), .int (goR w h P (mgF w h P k) br)])), (z1, .inl (cZ, 576, .inl (bA P))), (z2, .inl (cZ, 576, .inl (bA N))), (z3, .inl (cI, 4, .inl (e4 ze le ue re de))), (z4, .inl (cI, 16, .inl TM)), (z5, .inl (cI, 104, .inl LN))] := by
  refine Ci.of .int rfl rfl rfl (cc := cX6_band) (maxL := 3) (plainFor_of_name (by decide)) rfl (Nat.le_of_ble_eq_true rfl) rfl ?_
  intro p e s m args below meth c A Q hx hb hml hts hown hA hK hP hD hS hend ls hl
  refine lv_aload_n hx hb dX6_band_0 rfl (lv_at hl 0 rfl) ?_
  refine lv_aload_n hx hb dX6_band_1 rfl (lv_at hl 0 rfl) ?_
  refine lv_iload_n hx hb dX6_band_2 rfl (lv_at hl 1 rfl) ?_
  refine kVi (w' := [(z0, .inr (5, [.int cd, .int (nI w), .int (nI h), .ref z1, .ref z2, .ref z3, .int (b2i mk), .int (b2i ms), .double mn, .ref z4, .int (nI tc), .ref z5, .int (goA (mgF w h P k) ba), .int (goR w h P (mgF w h P k) br)])), (z1, .inl (cZ, 576, .inl (bA P))), (z2, .inl (cZ, 576, .inl (bA N))), (z3, .inl (cI, 4, .inl (e4 ze le ue re de))), (z4, .inl (cI, 16, .inl TM)), (z5, .inl (cI, 104, .inl LN))]) (wr := []) (isC := [0, 1, 2, 3, 4, 5]) (isR := []) (pm := [0, 1, 2, 3, 4, 5]) (rest := [.ref z0]) (kX6_goTo l G cI cZ cJ cD z0 z1 z2 z3 z4 z5 w h hw hh cd P N ze le ue re de mk ms mn tc TM LN ba br k) ⟨hx, hb, hml, hown, hts⟩ (cwV 1 hts gX6_band_X6_goTo rfl rfl rfl hd_X6_goTo ⟨Nat.le_of_ble_eq_true rfl, Nat.le_of_ble_eq_true rfl⟩) hK hP hD hS hA ⟨rfl, rfl, rfl, by decide, rfl, rfl, rfl⟩ 5 0 rfl rfl rfl hl.1 rfl (Nat.le_of_ble_eq_true rfl) dX6_band_3 ⟨Nat.le_of_ble_eq_true rfl, Nat.le_of_ble_eq_true rfl⟩ rfl rfl (fun H locs hP hD hS => ?_)
  refine kIfEqB (tgt := 13) hx hb dX6_band_6 (by decide) (fun c_6 => ?_) (fun h9 => (by rw [hg] at h9; cases h9))
  refine lv_iconst (v := 1) hx hb dX6_band_13 (by decide) ?_
  refine kVi (w' := [(z0, .inr (5, [.int 1, .int (nI w), .int (nI h), .ref z1, .ref z2, .ref z3, .int (b2i mk), .int (b2i ms), .double mn, .ref z4, .int (nI tc), .ref z5, .int (goA (mgF w h P k) ba), .int (goR w h P (mgF w h P k) br)])), (z1, .inl (cZ, 576, .inl (bA P))), (z2, .inl (cZ, 576, .inl (bA N))), (z3, .inl (cI, 4, .inl (e4 ze le ue re de))), (z4, .inl (cI, 16, .inl TM)), (z5, .inl (cI, 104, .inl LN))]) (wr := []) (isC := [0, 1, 2, 3, 4, 5]) (isR := []) (pm := [0, 1, 2, 3, 4, 5]) (rest := []) (kX6_refuses l G cI cZ cJ cD z0 z1 z2 z3 z4 z5 w h hw hh cd P N ze le ue re de mk ms mn tc TM LN (goA (mgF w h P k) ba) (goR w h P (mgF w h P k) br) 1) ⟨hx, hb, hml, hown, hts⟩ (cwV 1 hts gX6_band_X6_refuses rfl rfl rfl hd_X6_refuses ⟨Nat.le_of_ble_eq_true rfl, Nat.le_of_ble_eq_true rfl⟩) hK hP hD hS hA ⟨rfl, rfl, rfl, by decide, rfl, rfl, rfl⟩ 5 0 rfl rfl rfl hl.1 rfl (Nat.le_of_ble_eq_true rfl) dX6_band_14 ⟨Nat.le_of_ble_eq_true rfl, Nat.le_of_ble_eq_true rfl⟩ rfl rfl (fun H locs hP hD hS => ?_)
  refine kIfEqB (tgt := 22) hx hb dX6_band_17 (by decide) (fun h9 => (absurd h9 (by decide))) (fun c_17 => ?_)
  refine lv_iconst (v := 0) hx hb dX6_band_20 (by decide) ?_
  exact hend _ _ _ _ _ _ dX6_band_21 hP hD hS rfl rfl
theorem in_kX6_bandV_X6 : ∀ w ∈ u_ws RX6 TX6 14, w ∈ wsX6_band := by decide +kernel
theorem fl_kX6_bandV_158 : Cond.fieldLink RX6 158 "SkewFindModel" "bandAt" "I" ∈ wsX6_band := by decide +kernel
theorem fl_kX6_bandV_161 : Cond.fieldLink RX6 161 "SkewFindModel" "bandRows" "I" ∈ wsX6_band := by decide +kernel
abbrev rmX6_bandV : Room := { frames := 3, cells := 0, slots := 0, locals := 69 }
set_option maxRecDepth 100000 in
set_option maxHeartbeats 4000000 in
theorem kX6_bandV (l : Launch) (G : va_G) (cI cZ cJ cD : ClassId) (z0 z1 z2 z3 z4 z5 w h : Nat) (hw : w ≤ 24) (hh : h ≤ 24) (cd : Int32) (P N : Nat → Bool) (ze : Nat → Int32) (le ue re de : Int32) (mk ms : Bool) (mn : UInt64) (tc : Nat) (TM LN : Nat → Int32) (ba br : Int32) (k q : Int32) (f : Nat) (hg : mgF w h P k = some f) (hf : f ≤ h) : Ci l G (kTy cI cZ cJ cD) yX6_band wsX6_band rmX6_bandV [.ref z0, .int k, .int q] [(z0, .inr (5, [.int cd, .int (nI w), .int (nI h), .ref z1, .ref z2, .ref z3, .int (b2i mk), .int (b2i ms), .double mn, .ref z4, .int (nI tc), .ref z5, .int ba, .int br])), (z1, .inl (cZ, 576, .inl (bA P))), (z2, .inl (cZ, 576, .inl (bA N))), (z3, .inl (cI, 4, .inl (e4 ze le ue re de))), (z4, .inl (cI, 16, .inl TM)), (z5, .inl (cI, 104, .inl LN))] (mBand w h P f q) [(z0, .inr (5, [.int 0, .int (nI w), .int (nI h), .ref z1, .ref z2, .ref z3, .int (b2i mk), .int (b2i ms), .double mn, .ref z4, .int (nI tc), .ref z5, .int (nI f), .int (nI (rwF w h P f))])), (z1, .inl (cZ, 576, .inl (bA P))), (z2, .inl (cZ, 576, .inl (bA N))), (z3, .inl (cI, 4, .inl (e4 ze le ue re de))), (z4, .inl (cI, 16, .inl TM)), (z5, .inl (cI, 104, .inl LN))] := by
  refine Ci.of .int rfl rfl rfl (cc := cX6_band) (maxL := 3) (plainFor_of_name (by decide)) rfl (Nat.le_of_ble_eq_true rfl) rfl ?_
  intro p e s m args below meth c A Q hx hb hml hts hown hA hK hP hD hS hend ls hl
  refine lv_aload_n hx hb dX6_band_0 rfl (lv_at hl 0 rfl) ?_
  refine lv_aload_n hx hb dX6_band_1 rfl (lv_at hl 0 rfl) ?_
  refine lv_iload_n hx hb dX6_band_2 rfl (lv_at hl 1 rfl) ?_
  refine kVi (w' := [(z0, .inr (5, [.int cd, .int (nI w), .int (nI h), .ref z1, .ref z2, .ref z3, .int (b2i mk), .int (b2i ms), .double mn, .ref z4, .int (nI tc), .ref z5, .int (goA (mgF w h P k) ba), .int (goR w h P (mgF w h P k) br)])), (z1, .inl (cZ, 576, .inl (bA P))), (z2, .inl (cZ, 576, .inl (bA N))), (z3, .inl (cI, 4, .inl (e4 ze le ue re de))), (z4, .inl (cI, 16, .inl TM)), (z5, .inl (cI, 104, .inl LN))]) (wr := []) (isC := [0, 1, 2, 3, 4, 5]) (isR := []) (pm := [0, 1, 2, 3, 4, 5]) (rest := [.ref z0]) (kX6_goTo l G cI cZ cJ cD z0 z1 z2 z3 z4 z5 w h hw hh cd P N ze le ue re de mk ms mn tc TM LN ba br k) ⟨hx, hb, hml, hown, hts⟩ (cwV 1 hts gX6_band_X6_goTo rfl rfl rfl hd_X6_goTo ⟨Nat.le_of_ble_eq_true rfl, Nat.le_of_ble_eq_true rfl⟩) hK hP hD hS hA ⟨rfl, rfl, rfl, by decide, rfl, rfl, rfl⟩ 5 0 rfl rfl rfl hl.1 rfl (Nat.le_of_ble_eq_true rfl) dX6_band_3 ⟨Nat.le_of_ble_eq_true rfl, Nat.le_of_ble_eq_true rfl⟩ rfl rfl (fun H locs hP hD hS => ?_)
  rw [hg] at hP hD
  rw [show goA (some f) ba = nI f from rfl, show goR w h P (some f) br = nI (rwF w h P f) from rfl] at hP hD
  have hrw := rwF_in w h P (i := f) (by omega)
  refine kIfEqB (tgt := 13) hx hb dX6_band_6 (by decide) (fun h9 => (by rw [hg] at h9; cases h9)) (fun c_6 => ?_)
  refine lv_iconst (v := 0) hx hb dX6_band_9 (by decide) ?_
  refine lv_goto (tgt := 14) hx hb dX6_band_10 (by decide) ?_
  refine kVi (w' := [(z0, .inr (5, [.int 0, .int (nI w), .int (nI h), .ref z1, .ref z2, .ref z3, .int (b2i mk), .int (b2i ms), .double mn, .ref z4, .int (nI tc), .ref z5, .int (nI f), .int (nI (rwF w h P f))])), (z1, .inl (cZ, 576, .inl (bA P))), (z2, .inl (cZ, 576, .inl (bA N))), (z3, .inl (cI, 4, .inl (e4 ze le ue re de))), (z4, .inl (cI, 16, .inl TM)), (z5, .inl (cI, 104, .inl LN))]) (wr := []) (isC := [0, 1, 2, 3, 4, 5]) (isR := []) (pm := [0, 1, 2, 3, 4, 5]) (rest := []) (kX6_refuses l G cI cZ cJ cD z0 z1 z2 z3 z4 z5 w h hw hh cd P N ze le ue re de mk ms mn tc TM LN (nI f) (nI (rwF w h P f)) 0) ⟨hx, hb, hml, hown, hts⟩ (cwV 1 hts gX6_band_X6_refuses rfl rfl rfl hd_X6_refuses ⟨Nat.le_of_ble_eq_true rfl, Nat.le_of_ble_eq_true rfl⟩) hK hP hD hS hA ⟨rfl, rfl, rfl, by decide, rfl, rfl, rfl⟩ 5 0 rfl rfl rfl hl.1 rfl (Nat.le_of_ble_eq_true rfl) dX6_band_14 ⟨Nat.le_of_ble_eq_true rfl, Nat.le_of_ble_eq_true rfl⟩ rfl rfl (fun H locs hP hD hS => ?_)
  refine kIfEqB (tgt := 22) hx hb dX6_band_17 (by decide) (fun c_17 => ?_) (fun h9 => (absurd h9 (by decide)))
  refine lv_iload_n hx hb dX6_band_22 rfl (lv_at hl 2 rfl) ?_
  refine lv_if_ne (tgt := 33) hx hb dX6_band_23 (by decide) (fun c_23 => ?_) (fun c_23 => ?_)
  · refine lv_iload_n hx hb dX6_band_33 rfl (lv_at hl 2 rfl) ?_
    refine lv_iconst (v := 1) hx hb dX6_band_34 (by decide) ?_
    refine lv_icmp_ne (tgt := 45) hx hb dX6_band_35 (by decide) (fun c_35 => ?_) (fun c_35 => ?_)
    · refine lv_iload_n hx hb dX6_band_45 rfl (lv_at hl 2 rfl) ?_
      refine lv_iconst (v := 2) hx hb dX6_band_46 (by decide) ?_
      refine lv_icmp_ne (tgt := 65) hx hb dX6_band_47 (by decide) (fun c_47 => ?_) (fun c_47 => ?_)
      · refine lv_iconst (v := (-1)) hx hb dX6_band_65 (by decide) ?_
        exact hend _ _ _ _ _ _ dX6_band_66 hP hD hS (by first | (simp only [mBand, c_6, c_17, c_23, c_35, c_47, ↓reduceIte]; done) | (simp [mBand, c_6, c_17, c_23, c_35, c_47]; done) | rfl) rfl
      · refine lv_aload_n hx hb dX6_band_50 rfl (lv_at hl 0 rfl) ?_
        refine lv_aload_n hx hb dX6_band_51 rfl (lv_at hl 0 rfl) ?_
        refine va_get (D := G) (ci := 5) (v := .int (nI f)) (C := RX6) (T := TX6) (N := 14) hx hb hts in_kX6_bandV_X6 hown hK hP 0 rfl rfl 12 (by decide) (hts _ fl_kX6_bandV_158) (fun _ h9 => h9) rfl dX6_band_52 ?_
        refine lv_aload_n hx hb dX6_band_55 rfl (lv_at hl 0 rfl) ?_
        refine va_get (D := G) (ci := 5) (v := .int (nI (rwF w h P f))) (C := RX6) (T := TX6) (N := 14) hx hb hts in_kX6_bandV_X6 hown hK hP 0 rfl rfl 13 (by decide) (hts _ fl_kX6_bandV_161) (fun _ h9 => h9) rfl dX6_band_56 ?_
        refine kVi (w' := [(z0, .inr (5, [.int 0, .int (nI w), .int (nI h), .ref z1, .ref z2, .ref z3, .int (b2i mk), .int (b2i ms), .double mn, .ref z4, .int (nI tc), .ref z5, .int (nI f), .int (nI (rwF w h P f))])), (z1, .inl (cZ, 576, .inl (bA P))), (z2, .inl (cZ, 576, .inl (bA N))), (z3, .inl (cI, 4, .inl (e4 ze le ue re de))), (z4, .inl (cI, 16, .inl TM)), (z5, .inl (cI, 104, .inl LN))]) (wr := []) (isC := [0, 1, 2, 3, 4, 5]) (isR := []) (pm := [0, 1, 2, 3, 4, 5]) (rest := []) (kX6_onIn l G cI cZ cJ cD z0 z1 z2 z3 z4 z5 w h hw hh 0 P N ze le ue re de mk ms mn tc TM LN (nI f) (nI (rwF w h P f)) f ((rwF w h P f)) (by omega)) ⟨hx, hb, hml, hown, hts⟩ (cwV 2 hts gX6_band_X6_onIn rfl rfl rfl hd_X6_onIn ⟨Nat.le_of_ble_eq_true rfl, Nat.le_of_ble_eq_true rfl⟩) hK hP hD hS hA ⟨rfl, rfl, rfl, by decide, rfl, rfl, rfl⟩ 5 0 rfl rfl rfl hl.1 rfl (Nat.le_of_ble_eq_true rfl) dX6_band_59 ⟨Nat.le_of_ble_eq_true rfl, Nat.le_of_ble_eq_true rfl⟩ rfl rfl (fun H locs hP hD hS => ?_)
        refine lv_goto (tgt := 66) hx hb dX6_band_62 (by decide) ?_
        exact hend _ _ _ _ _ _ dX6_band_66 hP hD hS (by first | (simp only [mBand, c_6, c_17, c_23, c_35, c_47, ↓reduceIte]; done) | (simp [mBand, c_6, c_17, c_23, c_35, c_47]; done) | rfl) rfl
    · refine lv_aload_n hx hb dX6_band_38 rfl (lv_at hl 0 rfl) ?_
      refine va_get (D := G) (ci := 5) (v := .int (nI (rwF w h P f))) (C := RX6) (T := TX6) (N := 14) hx hb hts in_kX6_bandV_X6 hown hK hP 0 rfl rfl 13 (by decide) (hts _ fl_kX6_bandV_161) (fun _ h9 => h9) rfl dX6_band_39 ?_
      refine lv_goto (tgt := 66) hx hb dX6_band_42 (by decide) ?_
      exact hend _ _ _ _ _ _ dX6_band_66 hP hD hS (by first | (simp only [mBand, c_6, c_17, c_23, c_35, ↓reduceIte]; done) | (simp [mBand, c_6, c_17, c_23, c_35]; done) | rfl) rfl
  · refine lv_aload_n hx hb dX6_band_26 rfl (lv_at hl 0 rfl) ?_
    refine va_get (D := G) (ci := 5) (v := .int (nI f)) (C := RX6) (T := TX6) (N := 14) hx hb hts in_kX6_bandV_X6 hown hK hP 0 rfl rfl 12 (by decide) (hts _ fl_kX6_bandV_158) (fun _ h9 => h9) rfl dX6_band_27 ?_
    refine lv_goto (tgt := 66) hx hb dX6_band_30 (by decide) ?_
    exact hend _ _ _ _ _ _ dX6_band_66 hP hD hS (by first | (simp only [mBand, c_6, c_17, c_23, ↓reduceIte]; done) | (simp [mBand, c_6, c_17, c_23]; done) | rfl) rfl
abbrev rmX6_line1 : Room := { frames := 3, cells := 0, slots := 0, locals := 69 }
set_option maxRecDepth 100000 in
set_option maxHeartbeats 4000000 in
theorem kX6_line1 (l : Launch) (G : va_G) (cI cZ cJ cD : ClassId) (z0 z1 z2 z3 z4 z5 w h : Nat) (hw : w ≤ 24) (hh : h ≤ 24) (cd : Int32) (P N : Nat → Bool) (ze : Nat → Int32) (le ue re de : Int32) (mk ms : Bool) (mn : UInt64) (tc : Nat) (TM LN : Nat → Int32) (ba br : Int32) (k : Int32) (v : UInt64) (hg : mgF w h P k = none) : Ci l G (kTy cI cZ cJ cD) yX6_line wsX6_line rmX6_line1 [.ref z0, .int k, .double v] [(z0, .inr (5, [.int cd, .int (nI w), .int (nI h), .ref z1, .ref z2, .ref z3, .int (b2i mk), .int (b2i ms), .double mn, .ref z4, .int (nI tc), .ref z5, .int ba, .int br])), (z1, .inl (cZ, 576, .inl (bA P))), (z2, .inl (cZ, 576, .inl (bA N))), (z3, .inl (cI, 4, .inl (e4 ze le ue re de))), (z4, .inl (cI, 16, .inl TM)), (z5, .inl (cI, 104, .inl LN))] 0 [(z0, .inr (5, [.int 1, .int (nI w), .int (nI h), .ref z1, .ref z2, .ref z3, .int (b2i mk), .int (b2i ms), .double mn, .ref z4, .int (nI tc), .ref z5, .int (goA (mgF w h P k) ba), .int (goR w h P (mgF w h P k) br)])), (z1, .inl (cZ, 576, .inl (bA P))), (z2, .inl (cZ, 576, .inl (bA N))), (z3, .inl (cI, 4, .inl (e4 ze le ue re de))), (z4, .inl (cI, 16, .inl TM)), (z5, .inl (cI, 104, .inl LN))] := by
  refine Ci.of .int rfl rfl rfl (cc := cX6_line) (maxL := 12) (plainFor_of_name (by decide)) rfl (Nat.le_of_ble_eq_true rfl) rfl ?_
  intro p e s m args below meth c A Q hx hb hml hts hown hA hK hP hD hS hend ls hl
  refine lv_aload_n hx hb dX6_line_0 rfl (lv_at hl 0 rfl) ?_
  refine lv_aload_n hx hb dX6_line_1 rfl (lv_at hl 0 rfl) ?_
  refine lv_iload_n hx hb dX6_line_2 rfl (lv_at hl 1 rfl) ?_
  refine kVi (w' := [(z0, .inr (5, [.int cd, .int (nI w), .int (nI h), .ref z1, .ref z2, .ref z3, .int (b2i mk), .int (b2i ms), .double mn, .ref z4, .int (nI tc), .ref z5, .int (goA (mgF w h P k) ba), .int (goR w h P (mgF w h P k) br)])), (z1, .inl (cZ, 576, .inl (bA P))), (z2, .inl (cZ, 576, .inl (bA N))), (z3, .inl (cI, 4, .inl (e4 ze le ue re de))), (z4, .inl (cI, 16, .inl TM)), (z5, .inl (cI, 104, .inl LN))]) (wr := []) (isC := [0, 1, 2, 3, 4, 5]) (isR := []) (pm := [0, 1, 2, 3, 4, 5]) (rest := [.ref z0]) (kX6_goTo l G cI cZ cJ cD z0 z1 z2 z3 z4 z5 w h hw hh cd P N ze le ue re de mk ms mn tc TM LN ba br k) ⟨hx, hb, hml, hown, hts⟩ (cwV 1 hts gX6_line_X6_goTo rfl rfl rfl hd_X6_goTo ⟨Nat.le_of_ble_eq_true rfl, Nat.le_of_ble_eq_true rfl⟩) hK hP hD hS hA ⟨rfl, rfl, rfl, by decide, rfl, rfl, rfl⟩ 5 0 rfl rfl rfl hl.1 rfl (Nat.le_of_ble_eq_true rfl) dX6_line_3 ⟨Nat.le_of_ble_eq_true rfl, Nat.le_of_ble_eq_true rfl⟩ rfl rfl (fun H locs hP hD hS => ?_)
  refine kIfNeB (tgt := 13) hx hb dX6_line_6 (by decide) (fun h9 => (by rw [hg] at h9; cases h9)) (fun c_6 => ?_)
  refine lv_iconst (v := 1) hx hb dX6_line_9 (by decide) ?_
  refine lv_goto (tgt := 34) hx hb dX6_line_10 (by decide) ?_
  refine kVi (w' := [(z0, .inr (5, [.int 1, .int (nI w), .int (nI h), .ref z1, .ref z2, .ref z3, .int (b2i mk), .int (b2i ms), .double mn, .ref z4, .int (nI tc), .ref z5, .int (goA (mgF w h P k) ba), .int (goR w h P (mgF w h P k) br)])), (z1, .inl (cZ, 576, .inl (bA P))), (z2, .inl (cZ, 576, .inl (bA N))), (z3, .inl (cI, 4, .inl (e4 ze le ue re de))), (z4, .inl (cI, 16, .inl TM)), (z5, .inl (cI, 104, .inl LN))]) (wr := []) (isC := [0, 1, 2, 3, 4, 5]) (isR := []) (pm := [0, 1, 2, 3, 4, 5]) (rest := []) (kX6_refuses l G cI cZ cJ cD z0 z1 z2 z3 z4 z5 w h hw hh cd P N ze le ue re de mk ms mn tc TM LN (goA (mgF w h P k) ba) (goR w h P (mgF w h P k) br) 1) ⟨hx, hb, hml, hown, hts⟩ (cwV 1 hts gX6_line_X6_refuses rfl rfl rfl hd_X6_refuses ⟨Nat.le_of_ble_eq_true rfl, Nat.le_of_ble_eq_true rfl⟩) hK hP hD hS hA ⟨rfl, rfl, rfl, by decide, rfl, rfl, rfl⟩ 5 0 rfl rfl rfl hl.1 rfl (Nat.le_of_ble_eq_true rfl) dX6_line_34 ⟨Nat.le_of_ble_eq_true rfl, Nat.le_of_ble_eq_true rfl⟩ rfl rfl (fun H locs hP hD hS => ?_)
  refine kIfEqB (tgt := 42) hx hb dX6_line_37 (by decide) (fun h9 => (absurd h9 (by decide))) (fun c_37 => ?_)
  refine lv_iconst (v := 0) hx hb dX6_line_40 (by decide) ?_
  exact hend _ _ _ _ _ _ dX6_line_41 hP hD hS rfl rfl
theorem wd_kX6_line2_c170 : Cond.constantDouble RX6 170 (13875379345695965184) ∈ wsX6_line := by decide +kernel
abbrev rmX6_line2 : Room := { frames := 3, cells := 0, slots := 0, locals := 69 }
set_option maxRecDepth 100000 in
set_option maxHeartbeats 4000000 in
theorem kX6_line2 (l : Launch) (G : va_G) (cI cZ cJ cD : ClassId) (z0 z1 z2 z3 z4 z5 w h : Nat) (hw : w ≤ 24) (hh : h ≤ 24) (cd : Int32) (P N : Nat → Bool) (ze : Nat → Int32) (le ue re de : Int32) (mk ms : Bool) (mn : UInt64) (tc : Nat) (TM LN : Nat → Int32) (ba br : Int32) (k : Int32) (v : UInt64) (f : Nat) (hg : mgF w h P k = some f) (hf : f ≤ h) (hc1 : Op.cmpValue (FP.dcmp v 13875379345695965184) CmpOp.l < 0) : Ci l G (kTy cI cZ cJ cD) yX6_line wsX6_line rmX6_line2 [.ref z0, .int k, .double v] [(z0, .inr (5, [.int cd, .int (nI w), .int (nI h), .ref z1, .ref z2, .ref z3, .int (b2i mk), .int (b2i ms), .double mn, .ref z4, .int (nI tc), .ref z5, .int ba, .int br])), (z1, .inl (cZ, 576, .inl (bA P))), (z2, .inl (cZ, 576, .inl (bA N))), (z3, .inl (cI, 4, .inl (e4 ze le ue re de))), (z4, .inl (cI, 16, .inl TM)), (z5, .inl (cI, 104, .inl LN))] 0 [(z0, .inr (5, [.int 2, .int (nI w), .int (nI h), .ref z1, .ref z2, .ref z3, .int (b2i mk), .int (b2i ms), .double mn, .ref z4, .int (nI tc), .ref z5, .int (nI f), .int (nI (rwF w h P f))])), (z1, .inl (cZ, 576, .inl (bA P))), (z2, .inl (cZ, 576, .inl (bA N))), (z3, .inl (cI, 4, .inl (e4 ze le ue re de))), (z4, .inl (cI, 16, .inl TM)), (z5, .inl (cI, 104, .inl LN))] := by
  refine Ci.of .int rfl rfl rfl (cc := cX6_line) (maxL := 12) (plainFor_of_name (by decide)) rfl (Nat.le_of_ble_eq_true rfl) rfl ?_
  intro p e s m args below meth c A Q hx hb hml hts hown hA hK hP hD hS hend ls hl
  refine lv_aload_n hx hb dX6_line_0 rfl (lv_at hl 0 rfl) ?_
  refine lv_aload_n hx hb dX6_line_1 rfl (lv_at hl 0 rfl) ?_
  refine lv_iload_n hx hb dX6_line_2 rfl (lv_at hl 1 rfl) ?_
  refine kVi (w' := [(z0, .inr (5, [.int cd, .int (nI w), .int (nI h), .ref z1, .ref z2, .ref z3, .int (b2i mk), .int (b2i ms), .double mn, .ref z4, .int (nI tc), .ref z5, .int (goA (mgF w h P k) ba), .int (goR w h P (mgF w h P k) br)])), (z1, .inl (cZ, 576, .inl (bA P))), (z2, .inl (cZ, 576, .inl (bA N))), (z3, .inl (cI, 4, .inl (e4 ze le ue re de))), (z4, .inl (cI, 16, .inl TM)), (z5, .inl (cI, 104, .inl LN))]) (wr := []) (isC := [0, 1, 2, 3, 4, 5]) (isR := []) (pm := [0, 1, 2, 3, 4, 5]) (rest := [.ref z0]) (kX6_goTo l G cI cZ cJ cD z0 z1 z2 z3 z4 z5 w h hw hh cd P N ze le ue re de mk ms mn tc TM LN ba br k) ⟨hx, hb, hml, hown, hts⟩ (cwV 1 hts gX6_line_X6_goTo rfl rfl rfl hd_X6_goTo ⟨Nat.le_of_ble_eq_true rfl, Nat.le_of_ble_eq_true rfl⟩) hK hP hD hS hA ⟨rfl, rfl, rfl, by decide, rfl, rfl, rfl⟩ 5 0 rfl rfl rfl hl.1 rfl (Nat.le_of_ble_eq_true rfl) dX6_line_3 ⟨Nat.le_of_ble_eq_true rfl, Nat.le_of_ble_eq_true rfl⟩ rfl rfl (fun H locs hP hD hS => ?_)
  rw [hg] at hP hD
  rw [show goA (some f) ba = nI f from rfl, show goR w h P (some f) br = nI (rwF w h P f) from rfl] at hP hD
  have hrw := rwF_in w h P (i := f) (by omega)
  refine kIfNeB (tgt := 13) hx hb dX6_line_6 (by decide) (fun c_6 => ?_) (fun h9 => (by rw [hg] at h9; cases h9))
  refine lv_dload_n hx hb dX6_line_13 rfl (lv_at hl 2 rfl) ?_
  refine lv_ldc2d (v := 13875379345695965184) hx hb hown (hts _ wd_kX6_line2_c170) dX6_line_14 ?_
  refine lv_dcmp hx hb dX6_line_17 ?_
  refine lv_if_lt (tgt := 29) hx hb dX6_line_18 (by decide) (fun c_18 => ?_) (fun h9 => absurd hc1 h9)
  refine lv_iconst (v := 2) hx hb dX6_line_29 (by decide) ?_
  refine lv_goto (tgt := 34) hx hb dX6_line_30 (by decide) ?_
  refine kVi (w' := [(z0, .inr (5, [.int 2, .int (nI w), .int (nI h), .ref z1, .ref z2, .ref z3, .int (b2i mk), .int (b2i ms), .double mn, .ref z4, .int (nI tc), .ref z5, .int (nI f), .int (nI (rwF w h P f))])), (z1, .inl (cZ, 576, .inl (bA P))), (z2, .inl (cZ, 576, .inl (bA N))), (z3, .inl (cI, 4, .inl (e4 ze le ue re de))), (z4, .inl (cI, 16, .inl TM)), (z5, .inl (cI, 104, .inl LN))]) (wr := []) (isC := [0, 1, 2, 3, 4, 5]) (isR := []) (pm := [0, 1, 2, 3, 4, 5]) (rest := []) (kX6_refuses l G cI cZ cJ cD z0 z1 z2 z3 z4 z5 w h hw hh cd P N ze le ue re de mk ms mn tc TM LN (nI f) (nI (rwF w h P f)) 2) ⟨hx, hb, hml, hown, hts⟩ (cwV 1 hts gX6_line_X6_refuses rfl rfl rfl hd_X6_refuses ⟨Nat.le_of_ble_eq_true rfl, Nat.le_of_ble_eq_true rfl⟩) hK hP hD hS hA ⟨rfl, rfl, rfl, by decide, rfl, rfl, rfl⟩ 5 0 rfl rfl rfl hl.1 rfl (Nat.le_of_ble_eq_true rfl) dX6_line_34 ⟨Nat.le_of_ble_eq_true rfl, Nat.le_of_ble_eq_true rfl⟩ rfl rfl (fun H locs hP hD hS => ?_)
  refine kIfEqB (tgt := 42) hx hb dX6_line_37 (by decide) (fun h9 => (absurd h9 (by decide))) (fun c_37 => ?_)
  refine lv_iconst (v := 0) hx hb dX6_line_40 (by decide) ?_
  exact hend _ _ _ _ _ _ dX6_line_41 hP hD hS rfl rfl
theorem wd_kX6_line3_c170 : Cond.constantDouble RX6 170 (13875379345695965184) ∈ wsX6_line := by decide +kernel
theorem wd_kX6_line3_c172 : Cond.constantDouble RX6 172 (4652007308841189376) ∈ wsX6_line := by decide +kernel
abbrev rmX6_line3 : Room := { frames := 3, cells := 0, slots := 0, locals := 69 }
set_option maxRecDepth 100000 in
set_option maxHeartbeats 4000000 in
theorem kX6_line3 (l : Launch) (G : va_G) (cI cZ cJ cD : ClassId) (z0 z1 z2 z3 z4 z5 w h : Nat) (hw : w ≤ 24) (hh : h ≤ 24) (cd : Int32) (P N : Nat → Bool) (ze : Nat → Int32) (le ue re de : Int32) (mk ms : Bool) (mn : UInt64) (tc : Nat) (TM LN : Nat → Int32) (ba br : Int32) (k : Int32) (v : UInt64) (f : Nat) (hg : mgF w h P k = some f) (hf : f ≤ h) (hc1 : ¬ Op.cmpValue (FP.dcmp v 13875379345695965184) CmpOp.l < 0) (hc2 : ¬ Op.cmpValue (FP.dcmp v 4652007308841189376) CmpOp.g ≤ 0) : Ci l G (kTy cI cZ cJ cD) yX6_line wsX6_line rmX6_line3 [.ref z0, .int k, .double v] [(z0, .inr (5, [.int cd, .int (nI w), .int (nI h), .ref z1, .ref z2, .ref z3, .int (b2i mk), .int (b2i ms), .double mn, .ref z4, .int (nI tc), .ref z5, .int ba, .int br])), (z1, .inl (cZ, 576, .inl (bA P))), (z2, .inl (cZ, 576, .inl (bA N))), (z3, .inl (cI, 4, .inl (e4 ze le ue re de))), (z4, .inl (cI, 16, .inl TM)), (z5, .inl (cI, 104, .inl LN))] 0 [(z0, .inr (5, [.int 2, .int (nI w), .int (nI h), .ref z1, .ref z2, .ref z3, .int (b2i mk), .int (b2i ms), .double mn, .ref z4, .int (nI tc), .ref z5, .int (nI f), .int (nI (rwF w h P f))])), (z1, .inl (cZ, 576, .inl (bA P))), (z2, .inl (cZ, 576, .inl (bA N))), (z3, .inl (cI, 4, .inl (e4 ze le ue re de))), (z4, .inl (cI, 16, .inl TM)), (z5, .inl (cI, 104, .inl LN))] := by
  refine Ci.of .int rfl rfl rfl (cc := cX6_line) (maxL := 12) (plainFor_of_name (by decide)) rfl (Nat.le_of_ble_eq_true rfl) rfl ?_
  intro p e s m args below meth c A Q hx hb hml hts hown hA hK hP hD hS hend ls hl
  refine lv_aload_n hx hb dX6_line_0 rfl (lv_at hl 0 rfl) ?_
  refine lv_aload_n hx hb dX6_line_1 rfl (lv_at hl 0 rfl) ?_
  refine lv_iload_n hx hb dX6_line_2 rfl (lv_at hl 1 rfl) ?_
  refine kVi (w' := [(z0, .inr (5, [.int cd, .int (nI w), .int (nI h), .ref z1, .ref z2, .ref z3, .int (b2i mk), .int (b2i ms), .double mn, .ref z4, .int (nI tc), .ref z5, .int (goA (mgF w h P k) ba), .int (goR w h P (mgF w h P k) br)])), (z1, .inl (cZ, 576, .inl (bA P))), (z2, .inl (cZ, 576, .inl (bA N))), (z3, .inl (cI, 4, .inl (e4 ze le ue re de))), (z4, .inl (cI, 16, .inl TM)), (z5, .inl (cI, 104, .inl LN))]) (wr := []) (isC := [0, 1, 2, 3, 4, 5]) (isR := []) (pm := [0, 1, 2, 3, 4, 5]) (rest := [.ref z0]) (kX6_goTo l G cI cZ cJ cD z0 z1 z2 z3 z4 z5 w h hw hh cd P N ze le ue re de mk ms mn tc TM LN ba br k) ⟨hx, hb, hml, hown, hts⟩ (cwV 1 hts gX6_line_X6_goTo rfl rfl rfl hd_X6_goTo ⟨Nat.le_of_ble_eq_true rfl, Nat.le_of_ble_eq_true rfl⟩) hK hP hD hS hA ⟨rfl, rfl, rfl, by decide, rfl, rfl, rfl⟩ 5 0 rfl rfl rfl hl.1 rfl (Nat.le_of_ble_eq_true rfl) dX6_line_3 ⟨Nat.le_of_ble_eq_true rfl, Nat.le_of_ble_eq_true rfl⟩ rfl rfl (fun H locs hP hD hS => ?_)
  rw [hg] at hP hD
  rw [show goA (some f) ba = nI f from rfl, show goR w h P (some f) br = nI (rwF w h P f) from rfl] at hP hD
  have hrw := rwF_in w h P (i := f) (by omega)
  refine kIfNeB (tgt := 13) hx hb dX6_line_6 (by decide) (fun c_6 => ?_) (fun h9 => (by rw [hg] at h9; cases h9))
  refine lv_dload_n hx hb dX6_line_13 rfl (lv_at hl 2 rfl) ?_
  refine lv_ldc2d (v := 13875379345695965184) hx hb hown (hts _ wd_kX6_line3_c170) dX6_line_14 ?_
  refine lv_dcmp hx hb dX6_line_17 ?_
  refine lv_if_lt (tgt := 29) hx hb dX6_line_18 (by decide) (fun h9 => absurd h9 hc1) (fun c_18 => ?_)
  refine lv_dload_n hx hb dX6_line_21 rfl (lv_at hl 2 rfl) ?_
  refine lv_ldc2d (v := 4652007308841189376) hx hb hown (hts _ wd_kX6_line3_c172) dX6_line_22 ?_
  refine lv_dcmp hx hb dX6_line_25 ?_
  refine lv_if_le (tgt := 33) hx hb dX6_line_26 (by decide) (fun h9 => absurd h9 hc2) (fun c_26 => ?_)
  refine lv_iconst (v := 2) hx hb dX6_line_29 (by decide) ?_
  refine lv_goto (tgt := 34) hx hb dX6_line_30 (by decide) ?_
  refine kVi (w' := [(z0, .inr (5, [.int 2, .int (nI w), .int (nI h), .ref z1, .ref z2, .ref z3, .int (b2i mk), .int (b2i ms), .double mn, .ref z4, .int (nI tc), .ref z5, .int (nI f), .int (nI (rwF w h P f))])), (z1, .inl (cZ, 576, .inl (bA P))), (z2, .inl (cZ, 576, .inl (bA N))), (z3, .inl (cI, 4, .inl (e4 ze le ue re de))), (z4, .inl (cI, 16, .inl TM)), (z5, .inl (cI, 104, .inl LN))]) (wr := []) (isC := [0, 1, 2, 3, 4, 5]) (isR := []) (pm := [0, 1, 2, 3, 4, 5]) (rest := []) (kX6_refuses l G cI cZ cJ cD z0 z1 z2 z3 z4 z5 w h hw hh cd P N ze le ue re de mk ms mn tc TM LN (nI f) (nI (rwF w h P f)) 2) ⟨hx, hb, hml, hown, hts⟩ (cwV 1 hts gX6_line_X6_refuses rfl rfl rfl hd_X6_refuses ⟨Nat.le_of_ble_eq_true rfl, Nat.le_of_ble_eq_true rfl⟩) hK hP hD hS hA ⟨rfl, rfl, rfl, by decide, rfl, rfl, rfl⟩ 5 0 rfl rfl rfl hl.1 rfl (Nat.le_of_ble_eq_true rfl) dX6_line_34 ⟨Nat.le_of_ble_eq_true rfl, Nat.le_of_ble_eq_true rfl⟩ rfl rfl (fun H locs hP hD hS => ?_)
  refine kIfEqB (tgt := 42) hx hb dX6_line_37 (by decide) (fun h9 => (absurd h9 (by decide))) (fun c_37 => ?_)
  refine lv_iconst (v := 0) hx hb dX6_line_40 (by decide) ?_
  exact hend _ _ _ _ _ _ dX6_line_41 hP hD hS rfl rfl
theorem wd_kX6_lineV_c170 : Cond.constantDouble RX6 170 (13875379345695965184) ∈ wsX6_line := by decide +kernel
theorem wd_kX6_lineV_c172 : Cond.constantDouble RX6 172 (4652007308841189376) ∈ wsX6_line := by decide +kernel
theorem in_kX6_lineV_X6 : ∀ w ∈ u_ws RX6 TX6 14, w ∈ wsX6_line := by decide +kernel
theorem fl_kX6_lineV_26 : Cond.fieldLink RX6 26 "SkewFindModel" "width" "I" ∈ wsX6_line := by decide +kernel
theorem wd_kX6_lineV_c174 : Cond.constantDouble RX6 174 (4625196817309499392) ∈ wsX6_line := by decide +kernel
theorem fl_kX6_lineV_158 : Cond.fieldLink RX6 158 "SkewFindModel" "bandAt" "I" ∈ wsX6_line := by decide +kernel
theorem fl_kX6_lineV_161 : Cond.fieldLink RX6 161 "SkewFindModel" "bandRows" "I" ∈ wsX6_line := by decide +kernel
abbrev rmX6_lineV : Room := { frames := 3, cells := 0, slots := 0, locals := 69 }
set_option maxRecDepth 100000 in
set_option maxHeartbeats 4000000 in
theorem kX6_lineV (l : Launch) (G : va_G) (cI cZ cJ cD : ClassId) (z0 z1 z2 z3 z4 z5 w h : Nat) (hw : w ≤ 24) (hh : h ≤ 24) (cd : Int32) (P N : Nat → Bool) (ze : Nat → Int32) (le ue re de : Int32) (mk ms : Bool) (mn : UInt64) (tc : Nat) (TM LN : Nat → Int32) (ba br : Int32) (k : Int32) (v : UInt64) (f : Nat) (hg : mgF w h P k = some f) (hf : f ≤ h) (hc1 : ¬ Op.cmpValue (FP.dcmp v 13875379345695965184) CmpOp.l < 0) (hc2 : Op.cmpValue (FP.dcmp v 4652007308841189376) CmpOp.g ≤ 0) (hv : fIv (-65536000) 65536000 v) (hn0 : ¬ nI (bS (fun _ _ => 1) (fun x => lasO w h P x f (rwF w h P f)) w) = 0) : Ci l G (kTy cI cZ cJ cD) yX6_line wsX6_line rmX6_lineV [.ref z0, .int k, .double v] [(z0, .inr (5, [.int cd, .int (nI w), .int (nI h), .ref z1, .ref z2, .ref z3, .int (b2i mk), .int (b2i ms), .double mn, .ref z4, .int (nI tc), .ref z5, .int ba, .int br])), (z1, .inl (cZ, 576, .inl (bA P))), (z2, .inl (cZ, 576, .inl (bA N))), (z3, .inl (cI, 4, .inl (e4 ze le ue re de))), (z4, .inl (cI, 16, .inl TM)), (z5, .inl (cI, 104, .inl LN))] (wholeF (FP.dmul 4625196817309499392 (mlF (nI (bS (fun _ _ => 1) (fun x => lasO w h P x f (rwF w h P f)) w)) (nI (bS (fun u _ => u) (fun x => lasO w h P x f (rwF w h P f)) w)) (nI (bS (fun _ z => z) (fun x => lasO w h P x f (rwF w h P f)) w)) (nI (bS (fun u _ => u * u) (fun x => lasO w h P x f (rwF w h P f)) w)) (nI (bS (fun u z => u * z) (fun x => lasO w h P x f (rwF w h P f)) w)) v))) [(z0, .inr (5, [.int 0, .int (nI w), .int (nI h), .ref z1, .ref z2, .ref z3, .int (b2i mk), .int (b2i ms), .double mn, .ref z4, .int (nI tc), .ref z5, .int (nI f), .int (nI (rwF w h P f))])), (z1, .inl (cZ, 576, .inl (bA P))), (z2, .inl (cZ, 576, .inl (bA N))), (z3, .inl (cI, 4, .inl (e4 ze le ue re de))), (z4, .inl (cI, 16, .inl TM)), (z5, .inl (cI, 104, .inl LN))] := by
  refine Ci.of .int rfl rfl rfl (cc := cX6_line) (maxL := 12) (plainFor_of_name (by decide)) rfl (Nat.le_of_ble_eq_true rfl) rfl ?_
  intro p e s m args below meth c A Q hx hb hml hts hown hA hK hP hD hS hend ls hl
  obtain ⟨lo, hlo⟩ : ∃ lo, lo = (fun x => lasO w h P x f (rwF w h P f)) := ⟨_, rfl⟩
  have hrw := rwF_in w h P (i := f) (by omega)
  have hl24 : ∀ x y, lo x = some y → y < 24 := by
    intro x y e
    rw [hlo] at e
    have := lasO_lt _ _ _ _ _ _ _ e
    omega
  have bn : bS (fun _ _ => 1) lo w ≤ 24 := Nat.le_trans (bS_le (M := 1) (N := w) (fun _ _ _ _ => Nat.le_refl 1) hl24 w (Nat.le_refl w)) (by omega)
  have bX : bS (fun u _ => u) lo w ≤ 552 := Nat.le_trans (bS_le (M := 23) (N := w) (fun _ _ _ _ => by omega) hl24 w (Nat.le_refl w)) (by omega)
  have bY : bS (fun _ z => z) lo w ≤ 552 := Nat.le_trans (bS_le (M := 23) (N := w) (fun _ _ _ _ => by omega) hl24 w (Nat.le_refl w)) (by omega)
  have bXY : bS (fun u z => u * z) lo w ≤ 12696 := Nat.le_trans (bS_le (M := 23 * 23) (N := w) (fun _ _ _ _ => Nat.mul_le_mul (by omega) (by omega)) hl24 w (Nat.le_refl w)) (by omega)
  rw [← hlo] at hend hn0
  refine lv_aload_n hx hb dX6_line_0 rfl (lv_at hl 0 rfl) ?_
  refine lv_aload_n hx hb dX6_line_1 rfl (lv_at hl 0 rfl) ?_
  refine lv_iload_n hx hb dX6_line_2 rfl (lv_at hl 1 rfl) ?_
  refine kVi (w' := [(z0, .inr (5, [.int cd, .int (nI w), .int (nI h), .ref z1, .ref z2, .ref z3, .int (b2i mk), .int (b2i ms), .double mn, .ref z4, .int (nI tc), .ref z5, .int (goA (mgF w h P k) ba), .int (goR w h P (mgF w h P k) br)])), (z1, .inl (cZ, 576, .inl (bA P))), (z2, .inl (cZ, 576, .inl (bA N))), (z3, .inl (cI, 4, .inl (e4 ze le ue re de))), (z4, .inl (cI, 16, .inl TM)), (z5, .inl (cI, 104, .inl LN))]) (wr := []) (isC := [0, 1, 2, 3, 4, 5]) (isR := []) (pm := [0, 1, 2, 3, 4, 5]) (rest := [.ref z0]) (kX6_goTo l G cI cZ cJ cD z0 z1 z2 z3 z4 z5 w h hw hh cd P N ze le ue re de mk ms mn tc TM LN ba br k) ⟨hx, hb, hml, hown, hts⟩ (cwV 1 hts gX6_line_X6_goTo rfl rfl rfl hd_X6_goTo ⟨Nat.le_of_ble_eq_true rfl, Nat.le_of_ble_eq_true rfl⟩) hK hP hD hS hA ⟨rfl, rfl, rfl, by decide, rfl, rfl, rfl⟩ 5 0 rfl rfl rfl hl.1 rfl (Nat.le_of_ble_eq_true rfl) dX6_line_3 ⟨Nat.le_of_ble_eq_true rfl, Nat.le_of_ble_eq_true rfl⟩ rfl rfl (fun H locs hP hD hS => ?_)
  rw [hg] at hP hD
  rw [show goA (some f) ba = nI f from rfl, show goR w h P (some f) br = nI (rwF w h P f) from rfl] at hP hD
  refine kIfNeB (tgt := 13) hx hb dX6_line_6 (by decide) (fun c_6 => ?_) (fun h9 => (by rw [hg] at h9; cases h9))
  refine lv_dload_n hx hb dX6_line_13 rfl (lv_at hl 2 rfl) ?_
  refine lv_ldc2d (v := 13875379345695965184) hx hb hown (hts _ wd_kX6_lineV_c170) dX6_line_14 ?_
  refine lv_dcmp hx hb dX6_line_17 ?_
  refine lv_if_lt (tgt := 29) hx hb dX6_line_18 (by decide) (fun h9 => absurd h9 hc1) (fun c_18 => ?_)
  refine lv_dload_n hx hb dX6_line_21 rfl (lv_at hl 2 rfl) ?_
  refine lv_ldc2d (v := 4652007308841189376) hx hb hown (hts _ wd_kX6_lineV_c172) dX6_line_22 ?_
  refine lv_dcmp hx hb dX6_line_25 ?_
  refine lv_if_le (tgt := 33) hx hb dX6_line_26 (by decide) (fun c_26 => ?_) (fun h9 => absurd hc2 h9)
  refine lv_iconst (v := 0) hx hb dX6_line_33 (by decide) ?_
  refine kVi (w' := [(z0, .inr (5, [.int 0, .int (nI w), .int (nI h), .ref z1, .ref z2, .ref z3, .int (b2i mk), .int (b2i ms), .double mn, .ref z4, .int (nI tc), .ref z5, .int (nI f), .int (nI (rwF w h P f))])), (z1, .inl (cZ, 576, .inl (bA P))), (z2, .inl (cZ, 576, .inl (bA N))), (z3, .inl (cI, 4, .inl (e4 ze le ue re de))), (z4, .inl (cI, 16, .inl TM)), (z5, .inl (cI, 104, .inl LN))]) (wr := []) (isC := [0, 1, 2, 3, 4, 5]) (isR := []) (pm := [0, 1, 2, 3, 4, 5]) (rest := []) (kX6_refuses l G cI cZ cJ cD z0 z1 z2 z3 z4 z5 w h hw hh cd P N ze le ue re de mk ms mn tc TM LN (nI f) (nI (rwF w h P f)) 0) ⟨hx, hb, hml, hown, hts⟩ (cwV 1 hts gX6_line_X6_refuses rfl rfl rfl hd_X6_refuses ⟨Nat.le_of_ble_eq_true rfl, Nat.le_of_ble_eq_true rfl⟩) hK hP hD hS hA ⟨rfl, rfl, rfl, by decide, rfl, rfl, rfl⟩ 5 0 rfl rfl rfl hl.1 rfl (Nat.le_of_ble_eq_true rfl) dX6_line_34 ⟨Nat.le_of_ble_eq_true rfl, Nat.le_of_ble_eq_true rfl⟩ rfl rfl (fun H locs hP hD hS => ?_)
  refine kIfEqB (tgt := 42) hx hb dX6_line_37 (by decide) (fun c_37 => ?_) (fun h9 => (absurd h9 (by decide)))
  refine lv_iconst (v := 0) hx hb dX6_line_42 (by decide) ?_
  refine lv_istore (lv' := [(4, .int 0), (0, .ref z0), (1, .int k), (2, .double v)]) hx hb dX6_line_43 hl (by decide) rfl (fun ls hl => ?_)
  refine lv_iconst (v := 0) hx hb dX6_line_45 (by decide) ?_
  refine lv_istore (lv' := [(5, .int 0), (4, .int 0), (0, .ref z0), (1, .int k), (2, .double v)]) hx hb dX6_line_46 hl (by decide) rfl (fun ls hl => ?_)
  refine lv_iconst (v := 0) hx hb dX6_line_48 (by decide) ?_
  refine lv_istore (lv' := [(6, .int 0), (5, .int 0), (4, .int 0), (0, .ref z0), (1, .int k), (2, .double v)]) hx hb dX6_line_49 hl (by decide) rfl (fun ls hl => ?_)
  refine lv_iconst (v := 0) hx hb dX6_line_51 (by decide) ?_
  refine lv_istore (lv' := [(7, .int 0), (6, .int 0), (5, .int 0), (4, .int 0), (0, .ref z0), (1, .int k), (2, .double v)]) hx hb dX6_line_52 hl (by decide) rfl (fun ls hl => ?_)
  refine lv_iconst (v := 0) hx hb dX6_line_54 (by decide) ?_
  refine lv_istore (lv' := [(8, .int 0), (7, .int 0), (6, .int 0), (5, .int 0), (4, .int 0), (0, .ref z0), (1, .int k), (2, .double v)]) hx hb dX6_line_55 hl (by decide) rfl (fun ls hl => ?_)
  refine lv_iconst (v := 0) hx hb dX6_line_57 (by decide) ?_
  refine lv_istore (lv' := [(9, .int 0), (8, .int 0), (7, .int 0), (6, .int 0), (5, .int 0), (4, .int 0), (0, .ref z0), (1, .int k), (2, .double v)]) hx hb dX6_line_58 hl (by decide) rfl (fun ls hl => ?_)
  have K60 : ∀ (n60 : Nat) (x : Nat), w - x < n60 → (x ≤ w) → ∀ (H : Heap) (locs : List Loc), va_P G vwCl [(z0, .inr (5, [.int 0, .int (nI w), .int (nI h), .ref z1, .ref z2, .ref z3, .int (b2i mk), .int (b2i ms), .double mn, .ref z4, .int (nI tc), .ref z5, .int (nI f), .int (nI (rwF w h P f))])), (z1, .inl (cZ, 576, .inl (bA P))), (z2, .inl (cZ, 576, .inl (bA N))), (z3, .inl (cI, 4, .inl (e4 ze le ue re de))), (z4, .inl (cI, 16, .inl TM)), (z5, .inl (cI, 104, .inl LN))] H → va_D A [(z0, .inr (5, [.int 0, .int (nI w), .int (nI h), .ref z1, .ref z2, .ref z3, .int (b2i mk), .int (b2i ms), .double mn, .ref z4, .int (nI tc), .ref z5, .int (nI f), .int (nI (rwF w h P f))])), (z1, .inl (cZ, 576, .inl (bA P))), (z2, .inl (cZ, 576, .inl (bA N))), (z3, .inl (cI, 4, .inl (e4 ze le ue re de))), (z4, .inl (cI, 16, .inl TM)), (z5, .inl (cI, 104, .inl LN))] → va_S A s.heap H locs → ∀ ls : Array Slot, lv_has ls 12 [(0, .ref z0), (2, .double v), (4, .int (nI (bS (fun _ _ => 1) lo x))), (5, .int (nI (bS (fun u _ => u) lo x))), (6, .int (nI (bS (fun _ z => z) lo x))), (7, .int (nI (bS (fun u _ => u * u) lo x))), (8, .int (nI (bS (fun u z => u * z) lo x))), (9, .int (nI x))] → W p l e rmX6_lineV s m args below meth c H locs 0 0 Q (F0 m 60 ls []) := by
    intro n60
    induction n60 with
    | zero => intro x hn; exact absurd hn (by omega)
    | succ n60 ih60 =>
      intro x hn60 hx2 H locs hP hD hS ls hl
      refine lv_iload hx hb dX6_line_60 (lv_at hl 7 rfl) ?_
      refine lv_aload_n hx hb dX6_line_62 rfl (lv_at hl 0 rfl) ?_
      refine va_get (D := G) (ci := 5) (v := .int (nI w)) (C := RX6) (T := TX6) (N := 14) hx hb hts in_kX6_lineV_X6 hown hK hP 0 rfl rfl 1 (by decide) (hts _ fl_kX6_lineV_26) (fun _ h9 => h9) rfl dX6_line_63 ?_
      refine kGe (by omega) (by omega) (tgt := 166) hx hb dX6_line_66 (by decide) (fun c_66 => ?_) (fun c_66 => ?_)
      · have e9 : w = x := by omega
        subst e9
        refine lv_iload hx hb dX6_line_166 (lv_at hl 2 rfl) ?_
        refine lv_iload hx hb dX6_line_168 (lv_at hl 5 rfl) ?_
        refine lv_imul hx hb dX6_line_170 ?_
        refine lv_iload hx hb dX6_line_171 (lv_at hl 3 rfl) ?_
        refine lv_iload hx hb dX6_line_173 (lv_at hl 3 rfl) ?_
        refine lv_imul hx hb dX6_line_175 ?_
        refine lv_isub hx hb dX6_line_176 ?_
        refine lv_istore (lv' := [(9, .int (((nI (bS (fun _ _ => 1) lo w)) * (nI (bS (fun u _ => u * u) lo w))) - ((nI (bS (fun u _ => u) lo w)) * (nI (bS (fun u _ => u) lo w))))), (0, .ref z0), (2, .double v), (4, .int (nI (bS (fun _ _ => 1) lo w))), (5, .int (nI (bS (fun u _ => u) lo w))), (6, .int (nI (bS (fun _ z => z) lo w))), (7, .int (nI (bS (fun u _ => u * u) lo w))), (8, .int (nI (bS (fun u z => u * z) lo w)))]) hx hb dX6_line_177 hl (by decide) rfl (fun ls hl => ?_)
        refine lv_iload hx hb dX6_line_179 (lv_at hl 0 rfl) ?_
        refine lv_if_ne (tgt := 199) hx hb dX6_line_181 (by decide) (fun c_181 => ?_) (fun c_181 => ?_)
        · refine lv_iload hx hb dX6_line_199 (lv_at hl 3 rfl) ?_
          refine lv_iload hx hb dX6_line_201 (lv_at hl 7 rfl) ?_
          refine lv_imul hx hb dX6_line_203 ?_
          refine lv_iload hx hb dX6_line_204 (lv_at hl 4 rfl) ?_
          refine lv_iload hx hb dX6_line_206 (lv_at hl 5 rfl) ?_
          refine lv_imul hx hb dX6_line_208 ?_
          refine lv_isub hx hb dX6_line_209 ?_
          refine lv_i2d hx hb dX6_line_210 ?_
          refine lv_iload hx hb dX6_line_211 (lv_at hl 0 rfl) ?_
          refine lv_i2d hx hb dX6_line_213 ?_
          have b1 : fIv (-39938162688) (39938162688) (FP.i2d (((nI (bS (fun _ _ => 1) lo w)) * (nI (bS (fun u z => u * z) lo w))) - ((nI (bS (fun u _ => u) lo w)) * (nI (bS (fun _ z => z) lo w))))) := fNum bn bXY bX bY
          have b2 : fIv (-39938162688) (39938162688) (FP.ddiv (FP.i2d (((nI (bS (fun _ _ => 1) lo w)) * (nI (bS (fun u z => u * z) lo w))) - ((nI (bS (fun u _ => u) lo w)) * (nI (bS (fun _ z => z) lo w))))) (FP.i2d (((nI (bS (fun _ _ => 1) lo w)) * (nI (bS (fun u _ => u * u) lo w))) - ((nI (bS (fun u _ => u) lo w)) * (nI (bS (fun u _ => u) lo w)))))) := fDivI b1 _ c_181 (by decide +kernel)
          refine lv_ddiv hx hb dX6_line_214 b2.n64 ?_
          refine lv_dstore (lv' := [(10, .double (FP.ddiv (FP.i2d (((nI (bS (fun _ _ => 1) lo w)) * (nI (bS (fun u z => u * z) lo w))) - ((nI (bS (fun u _ => u) lo w)) * (nI (bS (fun _ z => z) lo w))))) (FP.i2d (((nI (bS (fun _ _ => 1) lo w)) * (nI (bS (fun u _ => u * u) lo w))) - ((nI (bS (fun u _ => u) lo w)) * (nI (bS (fun u _ => u) lo w))))))), (9, .int (((nI (bS (fun _ _ => 1) lo w)) * (nI (bS (fun u _ => u * u) lo w))) - ((nI (bS (fun u _ => u) lo w)) * (nI (bS (fun u _ => u) lo w))))), (0, .ref z0), (2, .double v), (4, .int (nI (bS (fun _ _ => 1) lo w))), (5, .int (nI (bS (fun u _ => u) lo w))), (6, .int (nI (bS (fun _ z => z) lo w))), (7, .int (nI (bS (fun u _ => u * u) lo w))), (8, .int (nI (bS (fun u z => u * z) lo w)))]) hx hb dX6_line_215 hl (by decide) rfl (fun ls hl => ?_)
          refine lv_ldc2d (v := 4625196817309499392) hx hb hown (hts _ wd_kX6_lineV_c174) dX6_line_217 ?_
          refine lv_dload hx hb dX6_line_220 (lv_at hl 0 rfl) ?_
          refine lv_dload_n hx hb dX6_line_222 rfl (lv_at hl 3 rfl) ?_
          have b3 : fIv (-39938162688000) (39938162688000) (FP.dmul (FP.ddiv (FP.i2d (((nI (bS (fun _ _ => 1) lo w)) * (nI (bS (fun u z => u * z) lo w))) - ((nI (bS (fun u _ => u) lo w)) * (nI (bS (fun _ z => z) lo w))))) (FP.i2d (((nI (bS (fun _ _ => 1) lo w)) * (nI (bS (fun u _ => u * u) lo w))) - ((nI (bS (fun u _ => u) lo w)) * (nI (bS (fun u _ => u) lo w)))))) v) := fIv.mul (n := 39938162688) (m := 65536000) (k := 39938162688000) b2 hv (by decide +kernel) (by decide +kernel)
          refine lv_dmul hx hb dX6_line_223 b3.n64 ?_
          refine lv_iload hx hb dX6_line_224 (lv_at hl 6 rfl) ?_
          refine lv_i2d hx hb dX6_line_226 ?_
          refine lv_dload hx hb dX6_line_227 (lv_at hl 0 rfl) ?_
          refine lv_iload hx hb dX6_line_229 (lv_at hl 5 rfl) ?_
          refine lv_i2d hx hb dX6_line_231 ?_
          have b4 : fIv (0) (36175872) (FP.i2d (nI (bS (fun u _ => u) lo w))) := fIvN (k := 552) bX (by omega)
          have b5 : fIv (-22045865803776) (22045865803776) (FP.dmul (FP.ddiv (FP.i2d (((nI (bS (fun _ _ => 1) lo w)) * (nI (bS (fun u z => u * z) lo w))) - ((nI (bS (fun u _ => u) lo w)) * (nI (bS (fun _ z => z) lo w))))) (FP.i2d (((nI (bS (fun _ _ => 1) lo w)) * (nI (bS (fun u _ => u * u) lo w))) - ((nI (bS (fun u _ => u) lo w)) * (nI (bS (fun u _ => u) lo w)))))) (FP.i2d (nI (bS (fun u _ => u) lo w)))) := fIv.mul (n := 39938162688) (m := 36175872) (k := 22045865803776) b2 (b4.weak (by decide +kernel) (by decide +kernel) (by decide +kernel) (by decide +kernel)) (by decide +kernel) (by decide +kernel)
          refine lv_dmul hx hb dX6_line_232 b5.n64 ?_
          have b6 : fIv (0) (36175872) (FP.i2d (nI (bS (fun _ z => z) lo w))) := fIvN (k := 552) bY (by omega)
          have b7 : fIv (-22045865803776) (22045901979648) (FP.dsub (FP.i2d (nI (bS (fun _ z => z) lo w))) (FP.dmul (FP.ddiv (FP.i2d (((nI (bS (fun _ _ => 1) lo w)) * (nI (bS (fun u z => u * z) lo w))) - ((nI (bS (fun u _ => u) lo w)) * (nI (bS (fun _ z => z) lo w))))) (FP.i2d (((nI (bS (fun _ _ => 1) lo w)) * (nI (bS (fun u _ => u * u) lo w))) - ((nI (bS (fun u _ => u) lo w)) * (nI (bS (fun u _ => u) lo w)))))) (FP.i2d (nI (bS (fun u _ => u) lo w))))) := fSub b6 b5 (by decide +kernel) (by decide +kernel) (by decide +kernel) (by decide +kernel)
          refine lv_dsub hx hb dX6_line_233 b7.n64 ?_
          refine lv_iload hx hb dX6_line_234 (lv_at hl 4 rfl) ?_
          refine lv_i2d hx hb dX6_line_236 ?_
          have b8 : fIv (-22045901979648) (22045901979648) (FP.ddiv (FP.dsub (FP.i2d (nI (bS (fun _ z => z) lo w))) (FP.dmul (FP.ddiv (FP.i2d (((nI (bS (fun _ _ => 1) lo w)) * (nI (bS (fun u z => u * z) lo w))) - ((nI (bS (fun u _ => u) lo w)) * (nI (bS (fun _ z => z) lo w))))) (FP.i2d (((nI (bS (fun _ _ => 1) lo w)) * (nI (bS (fun u _ => u * u) lo w))) - ((nI (bS (fun u _ => u) lo w)) * (nI (bS (fun u _ => u) lo w)))))) (FP.i2d (nI (bS (fun u _ => u) lo w))))) (FP.i2d (nI (bS (fun _ _ => 1) lo w)))) := fDivI (b7.weak (by decide +kernel) (by decide +kernel) (by decide +kernel) (by decide +kernel)) _ hn0 (by decide +kernel)
          refine lv_ddiv hx hb dX6_line_237 b8.n64 ?_
          have b9 : fIv (-61984064667648) (61984064667648) (FP.dadd (FP.dmul (FP.ddiv (FP.i2d (((nI (bS (fun _ _ => 1) lo w)) * (nI (bS (fun u z => u * z) lo w))) - ((nI (bS (fun u _ => u) lo w)) * (nI (bS (fun _ z => z) lo w))))) (FP.i2d (((nI (bS (fun _ _ => 1) lo w)) * (nI (bS (fun u _ => u * u) lo w))) - ((nI (bS (fun u _ => u) lo w)) * (nI (bS (fun u _ => u) lo w)))))) v) (FP.ddiv (FP.dsub (FP.i2d (nI (bS (fun _ z => z) lo w))) (FP.dmul (FP.ddiv (FP.i2d (((nI (bS (fun _ _ => 1) lo w)) * (nI (bS (fun u z => u * z) lo w))) - ((nI (bS (fun u _ => u) lo w)) * (nI (bS (fun _ z => z) lo w))))) (FP.i2d (((nI (bS (fun _ _ => 1) lo w)) * (nI (bS (fun u _ => u * u) lo w))) - ((nI (bS (fun u _ => u) lo w)) * (nI (bS (fun u _ => u) lo w)))))) (FP.i2d (nI (bS (fun u _ => u) lo w))))) (FP.i2d (nI (bS (fun _ _ => 1) lo w))))) := fAdd b3 b8 (by decide +kernel) (by decide +kernel) (by decide +kernel) (by decide +kernel)
          refine lv_dadd hx hb dX6_line_238 b9.n64 ?_
          have b10 : fIv (-991745034682368) (991745034682368) (FP.dmul 4625196817309499392 (FP.dadd (FP.dmul (FP.ddiv (FP.i2d (((nI (bS (fun _ _ => 1) lo w)) * (nI (bS (fun u z => u * z) lo w))) - ((nI (bS (fun u _ => u) lo w)) * (nI (bS (fun _ z => z) lo w))))) (FP.i2d (((nI (bS (fun _ _ => 1) lo w)) * (nI (bS (fun u _ => u * u) lo w))) - ((nI (bS (fun u _ => u) lo w)) * (nI (bS (fun u _ => u) lo w)))))) v) (FP.ddiv (FP.dsub (FP.i2d (nI (bS (fun _ z => z) lo w))) (FP.dmul (FP.ddiv (FP.i2d (((nI (bS (fun _ _ => 1) lo w)) * (nI (bS (fun u z => u * z) lo w))) - ((nI (bS (fun u _ => u) lo w)) * (nI (bS (fun _ z => z) lo w))))) (FP.i2d (((nI (bS (fun _ _ => 1) lo w)) * (nI (bS (fun u _ => u * u) lo w))) - ((nI (bS (fun u _ => u) lo w)) * (nI (bS (fun u _ => u) lo w)))))) (FP.i2d (nI (bS (fun u _ => u) lo w))))) (FP.i2d (nI (bS (fun _ _ => 1) lo w)))))) := fIv.mul (n := 1048576) (m := 61984064667648) (k := 991745034682368) (fc_4625196817309499392.weak (by decide +kernel) (by decide +kernel) (by decide +kernel) (by decide +kernel)) b9 (by decide +kernel) (by decide +kernel)
          refine lv_dmul hx hb dX6_line_239 b10.n64 ?_
          have b11 : fIv (-991745034649600) (991745034715136) (FP.dadd (FP.dmul 4625196817309499392 (FP.dadd (FP.dmul (FP.ddiv (FP.i2d (((nI (bS (fun _ _ => 1) lo w)) * (nI (bS (fun u z => u * z) lo w))) - ((nI (bS (fun u _ => u) lo w)) * (nI (bS (fun _ z => z) lo w))))) (FP.i2d (((nI (bS (fun _ _ => 1) lo w)) * (nI (bS (fun u _ => u * u) lo w))) - ((nI (bS (fun u _ => u) lo w)) * (nI (bS (fun u _ => u) lo w)))))) v) (FP.ddiv (FP.dsub (FP.i2d (nI (bS (fun _ z => z) lo w))) (FP.dmul (FP.ddiv (FP.i2d (((nI (bS (fun _ _ => 1) lo w)) * (nI (bS (fun u z => u * z) lo w))) - ((nI (bS (fun u _ => u) lo w)) * (nI (bS (fun _ z => z) lo w))))) (FP.i2d (((nI (bS (fun _ _ => 1) lo w)) * (nI (bS (fun u _ => u * u) lo w))) - ((nI (bS (fun u _ => u) lo w)) * (nI (bS (fun u _ => u) lo w)))))) (FP.i2d (nI (bS (fun u _ => u) lo w))))) (FP.i2d (nI (bS (fun _ _ => 1) lo w)))))) 4602678819172646912) := fAdd b10 fHalf (by decide +kernel) (by decide +kernel) (by decide +kernel) (by decide +kernel)
          refine kSi (rest := []) (kX6_wholeOf l G cI cZ cJ cD (FP.dmul 4625196817309499392 (FP.dadd (FP.dmul (FP.ddiv (FP.i2d (((nI (bS (fun _ _ => 1) lo w)) * (nI (bS (fun u z => u * z) lo w))) - ((nI (bS (fun u _ => u) lo w)) * (nI (bS (fun _ z => z) lo w))))) (FP.i2d (((nI (bS (fun _ _ => 1) lo w)) * (nI (bS (fun u _ => u * u) lo w))) - ((nI (bS (fun u _ => u) lo w)) * (nI (bS (fun u _ => u) lo w)))))) v) (FP.ddiv (FP.dsub (FP.i2d (nI (bS (fun _ z => z) lo w))) (FP.dmul (FP.ddiv (FP.i2d (((nI (bS (fun _ _ => 1) lo w)) * (nI (bS (fun u z => u * z) lo w))) - ((nI (bS (fun u _ => u) lo w)) * (nI (bS (fun _ z => z) lo w))))) (FP.i2d (((nI (bS (fun _ _ => 1) lo w)) * (nI (bS (fun u _ => u * u) lo w))) - ((nI (bS (fun u _ => u) lo w)) * (nI (bS (fun u _ => u) lo w)))))) (FP.i2d (nI (bS (fun u _ => u) lo w))))) (FP.i2d (nI (bS (fun _ _ => 1) lo w)))))) (-991745034649600) (991745034715136) b11) ⟨hx, hb, hml, hown, hts⟩ (va_cwS 1 hts gX6_line_X6_wholeOf rfl rfl rfl hs_X6_wholeOf ⟨Nat.le_of_ble_eq_true rfl, Nat.le_of_ble_eq_true rfl⟩) hK hP hD hS hA rfl hl.1 rfl (Nat.le_of_ble_eq_true rfl) dX6_line_240 ⟨Nat.le_of_ble_eq_true rfl, Nat.le_of_ble_eq_true rfl⟩ rfl rfl (fun H locs hP hD hS => ?_)
          exact hend _ _ _ _ _ _ dX6_line_243 hP hD hS (by first | (simp only [mlF, c_6, c_18, c_26, c_37, c_66, c_181, ↓reduceIte]; done) | (simp [mlF, c_6, c_18, c_26, c_37, c_66, c_181]; done) | rfl) rfl
        · refine lv_ldc2d (v := 4625196817309499392) hx hb hown (hts _ wd_kX6_lineV_c174) dX6_line_184 ?_
          refine lv_iload hx hb dX6_line_187 (lv_at hl 5 rfl) ?_
          refine lv_i2d hx hb dX6_line_189 ?_
          refine lv_iload hx hb dX6_line_190 (lv_at hl 3 rfl) ?_
          refine lv_i2d hx hb dX6_line_192 ?_
          have b12 : fIv (0) (36175872) (FP.i2d (nI (bS (fun _ z => z) lo w))) := fIvN (k := 552) bY (by omega)
          have b13 : fIv (-36175872) (36175872) (FP.ddiv (FP.i2d (nI (bS (fun _ z => z) lo w))) (FP.i2d (nI (bS (fun _ _ => 1) lo w)))) := fDivI (b12.weak (by decide +kernel) (by decide +kernel) (by decide +kernel) (by decide +kernel)) _ hn0 (by decide +kernel)
          refine lv_ddiv hx hb dX6_line_193 b13.n64 ?_
          have b14 : fIv (-578813952) (578813952) (FP.dmul 4625196817309499392 (FP.ddiv (FP.i2d (nI (bS (fun _ z => z) lo w))) (FP.i2d (nI (bS (fun _ _ => 1) lo w))))) := fIv.mul (n := 1048576) (m := 36175872) (k := 578813952) (fc_4625196817309499392.weak (by decide +kernel) (by decide +kernel) (by decide +kernel) (by decide +kernel)) b13 (by decide +kernel) (by decide +kernel)
          refine lv_dmul hx hb dX6_line_194 b14.n64 ?_
          have b15 : fIv (-578781184) (578846720) (FP.dadd (FP.dmul 4625196817309499392 (FP.ddiv (FP.i2d (nI (bS (fun _ z => z) lo w))) (FP.i2d (nI (bS (fun _ _ => 1) lo w))))) 4602678819172646912) := fAdd b14 fHalf (by decide +kernel) (by decide +kernel) (by decide +kernel) (by decide +kernel)
          refine kSi (rest := []) (kX6_wholeOf l G cI cZ cJ cD (FP.dmul 4625196817309499392 (FP.ddiv (FP.i2d (nI (bS (fun _ z => z) lo w))) (FP.i2d (nI (bS (fun _ _ => 1) lo w))))) (-578781184) (578846720) b15) ⟨hx, hb, hml, hown, hts⟩ (va_cwS 1 hts gX6_line_X6_wholeOf rfl rfl rfl hs_X6_wholeOf ⟨Nat.le_of_ble_eq_true rfl, Nat.le_of_ble_eq_true rfl⟩) hK hP hD hS hA rfl hl.1 rfl (Nat.le_of_ble_eq_true rfl) dX6_line_195 ⟨Nat.le_of_ble_eq_true rfl, Nat.le_of_ble_eq_true rfl⟩ rfl rfl (fun H locs hP hD hS => ?_)
          exact hend _ _ _ _ _ _ dX6_line_198 hP hD hS (by first | (simp only [mlF, c_6, c_18, c_26, c_37, c_66, c_181, ↓reduceIte]; done) | (simp [mlF, c_6, c_18, c_26, c_37, c_66, c_181]; done) | rfl) rfl
      · refine lv_iconst (v := (-1)) hx hb dX6_line_69 (by decide) ?_
        refine lv_istore (lv' := [(10, .int ((-1))), (0, .ref z0), (2, .double v), (4, .int (nI (bS (fun _ _ => 1) lo x))), (5, .int (nI (bS (fun u _ => u) lo x))), (6, .int (nI (bS (fun _ z => z) lo x))), (7, .int (nI (bS (fun u _ => u * u) lo x))), (8, .int (nI (bS (fun u z => u * z) lo x))), (9, .int (nI x))]) hx hb dX6_line_70 hl (by decide) rfl (fun ls hl => ?_)
        refine lv_aload_n hx hb dX6_line_72 rfl (lv_at hl 1 rfl) ?_
        refine va_get (D := G) (ci := 5) (v := .int (nI f)) (C := RX6) (T := TX6) (N := 14) hx hb hts in_kX6_lineV_X6 hown hK hP 0 rfl rfl 12 (by decide) (hts _ fl_kX6_lineV_158) (fun _ h9 => h9) rfl dX6_line_73 ?_
        refine lv_istore (lv' := [(11, .int (nI f)), (10, .int ((-1))), (0, .ref z0), (2, .double v), (4, .int (nI (bS (fun _ _ => 1) lo x))), (5, .int (nI (bS (fun u _ => u) lo x))), (6, .int (nI (bS (fun _ z => z) lo x))), (7, .int (nI (bS (fun u _ => u * u) lo x))), (8, .int (nI (bS (fun u z => u * z) lo x))), (9, .int (nI x))]) hx hb dX6_line_76 hl (by decide) rfl (fun ls hl => ?_)
        have K78 : ∀ (n78 : Nat) (j : Nat), rwF w h P f - j < n78 → (j ≤ rwF w h P f) → ∀ (H : Heap) (locs : List Loc), va_P G vwCl [(z0, .inr (5, [.int 0, .int (nI w), .int (nI h), .ref z1, .ref z2, .ref z3, .int (b2i mk), .int (b2i ms), .double mn, .ref z4, .int (nI tc), .ref z5, .int (nI f), .int (nI (rwF w h P f))])), (z1, .inl (cZ, 576, .inl (bA P))), (z2, .inl (cZ, 576, .inl (bA N))), (z3, .inl (cI, 4, .inl (e4 ze le ue re de))), (z4, .inl (cI, 16, .inl TM)), (z5, .inl (cI, 104, .inl LN))] H → va_D A [(z0, .inr (5, [.int 0, .int (nI w), .int (nI h), .ref z1, .ref z2, .ref z3, .int (b2i mk), .int (b2i ms), .double mn, .ref z4, .int (nI tc), .ref z5, .int (nI f), .int (nI (rwF w h P f))])), (z1, .inl (cZ, 576, .inl (bA P))), (z2, .inl (cZ, 576, .inl (bA N))), (z3, .inl (cI, 4, .inl (e4 ze le ue re de))), (z4, .inl (cI, 16, .inl TM)), (z5, .inl (cI, 104, .inl LN))] → va_S A s.heap H locs → ∀ ls : Array Slot, lv_has ls 12 [(0, .ref z0), (2, .double v), (4, .int (nI (bS (fun _ _ => 1) lo x))), (5, .int (nI (bS (fun u _ => u) lo x))), (6, .int (nI (bS (fun _ z => z) lo x))), (7, .int (nI (bS (fun u _ => u * u) lo x))), (8, .int (nI (bS (fun u z => u * z) lo x))), (9, .int (nI x)), (10, .int (optI (lasO w h P x f j))), (11, .int (nI (f + j)))] → W p l e rmX6_lineV s m args below meth c H locs 0 0 Q (F0 m 78 ls []) := by
          intro n78
          induction n78 with
          | zero => intro j hn; exact absurd hn (by omega)
          | succ n78 ih78 =>
            intro j hn78 hj H locs hP hD hS ls hl
            refine lv_iload hx hb dX6_line_78 (lv_at hl 9 rfl) ?_
            refine lv_aload_n hx hb dX6_line_80 rfl (lv_at hl 0 rfl) ?_
            refine va_get (D := G) (ci := 5) (v := .int (nI f)) (C := RX6) (T := TX6) (N := 14) hx hb hts in_kX6_lineV_X6 hown hK hP 0 rfl rfl 12 (by decide) (hts _ fl_kX6_lineV_158) (fun _ h9 => h9) rfl dX6_line_81 ?_
            refine lv_aload_n hx hb dX6_line_84 rfl (lv_at hl 0 rfl) ?_
            refine va_get (D := G) (ci := 5) (v := .int (nI (rwF w h P f))) (C := RX6) (T := TX6) (N := 14) hx hb hts in_kX6_lineV_X6 hown hK hP 0 rfl rfl 13 (by decide) (hts _ fl_kX6_lineV_161) (fun _ h9 => h9) rfl dX6_line_85 ?_
            refine lv_iadd hx hb dX6_line_88 ?_
            refine kTopI (z := nI (f + (rwF w h P f))) (nI_add f ((rwF w h P f))) ?_
            refine kGe (by omega) (by omega) (tgt := 118) hx hb dX6_line_89 (by decide) (fun c_89 => ?_) (fun c_89 => ?_)
            · have e9 : (rwF w h P f) = j := by omega
              subst e9
              rw [show lasO w h P x f (rwF w h P f) = lo x from by rw [hlo]] at hl
              refine lv_iload hx hb dX6_line_118 (lv_at hl 8 rfl) ?_
              refine lv_if_lt (tgt := 160) hx hb dX6_line_120 (by decide) (fun c_120 => ?_) (fun c_120 => ?_)
              · have hy := (optI_neg (fun y e => hl24 x y e)).1 c_120
                have hE : nI (bS (fun _ _ => 1) lo x) = nI (bS (fun _ _ => 1) lo (x + 1)) := congrArg nI (bS_f hy).symm
                rw [hE] at hl
                have hE : nI (bS (fun u _ => u) lo x) = nI (bS (fun u _ => u) lo (x + 1)) := congrArg nI (bS_f hy).symm
                rw [hE] at hl
                have hE : nI (bS (fun _ z => z) lo x) = nI (bS (fun _ z => z) lo (x + 1)) := congrArg nI (bS_f hy).symm
                rw [hE] at hl
                have hE : nI (bS (fun u _ => u * u) lo x) = nI (bS (fun u _ => u * u) lo (x + 1)) := congrArg nI (bS_f hy).symm
                rw [hE] at hl
                have hE : nI (bS (fun u z => u * z) lo x) = nI (bS (fun u z => u * z) lo (x + 1)) := congrArg nI (bS_f hy).symm
                rw [hE] at hl
                refine lv_iinc (v := nI (x + 1)) (lv' := [(9, .int (nI (x + 1))), (0, .ref z0), (2, .double v), (4, .int (nI (bS (fun _ _ => 1) lo (x + 1)))), (5, .int (nI (bS (fun u _ => u) lo (x + 1)))), (6, .int (nI (bS (fun _ z => z) lo (x + 1)))), (7, .int (nI (bS (fun u _ => u * u) lo (x + 1)))), (8, .int (nI (bS (fun u z => u * z) lo (x + 1)))), (10, .int (optI (lo x))), (11, .int (nI (f + (rwF w h P f))))]) hx hb dX6_line_160 hl (k := 7) rfl (nI_1 _) (by decide) rfl (fun ls hl => ?_)
                refine lv_goto (tgt := 60) hx hb dX6_line_163 (by decide) ?_
                exact ih60 (x + 1) (by omega) (by omega) _ _ hP hD hS _ (lv_sub hl [1, 2, 3, 4, 5, 6, 7, 0] rfl)
              · obtain ⟨y, hy⟩ := (optI_neg (fun y e => hl24 x y e)).2 c_120
                have hy24 := hl24 x y hy
                rw [hy] at hl
                refine lv_iinc (v := nI ((bS (fun _ _ => 1) lo x) + 1)) (lv' := [(4, .int (nI ((bS (fun _ _ => 1) lo x) + 1))), (0, .ref z0), (2, .double v), (5, .int (nI (bS (fun u _ => u) lo x))), (6, .int (nI (bS (fun _ z => z) lo x))), (7, .int (nI (bS (fun u _ => u * u) lo x))), (8, .int (nI (bS (fun u z => u * z) lo x))), (9, .int (nI x)), (10, .int (nI y)), (11, .int (nI (f + (rwF w h P f))))]) hx hb dX6_line_123 hl (k := 2) rfl (nI_1 _) (by decide) rfl (fun ls hl => ?_)
                refine lv_iload hx hb dX6_line_126 (lv_at hl 3 rfl) ?_
                refine lv_iload hx hb dX6_line_128 (lv_at hl 7 rfl) ?_
                refine lv_iadd hx hb dX6_line_130 ?_
                refine kTopI (z := nI (bS (fun u _ => u) lo x + x)) (nI_add _ _) ?_
                refine lv_istore (lv' := [(5, .int (nI (bS (fun u _ => u) lo x + x))), (4, .int (nI ((bS (fun _ _ => 1) lo x) + 1))), (0, .ref z0), (2, .double v), (6, .int (nI (bS (fun _ z => z) lo x))), (7, .int (nI (bS (fun u _ => u * u) lo x))), (8, .int (nI (bS (fun u z => u * z) lo x))), (9, .int (nI x)), (10, .int (nI y)), (11, .int (nI (f + (rwF w h P f))))]) hx hb dX6_line_131 hl (by decide) rfl (fun ls hl => ?_)
                refine lv_iload hx hb dX6_line_133 (lv_at hl 4 rfl) ?_
                refine lv_iload hx hb dX6_line_135 (lv_at hl 8 rfl) ?_
                refine lv_iadd hx hb dX6_line_137 ?_
                refine kTopI (z := nI (bS (fun _ z => z) lo x + y)) (nI_add _ _) ?_
                refine lv_istore (lv' := [(6, .int (nI (bS (fun _ z => z) lo x + y))), (5, .int (nI (bS (fun u _ => u) lo x + x))), (4, .int (nI ((bS (fun _ _ => 1) lo x) + 1))), (0, .ref z0), (2, .double v), (7, .int (nI (bS (fun u _ => u * u) lo x))), (8, .int (nI (bS (fun u z => u * z) lo x))), (9, .int (nI x)), (10, .int (nI y)), (11, .int (nI (f + (rwF w h P f))))]) hx hb dX6_line_138 hl (by decide) rfl (fun ls hl => ?_)
                refine lv_iload hx hb dX6_line_140 (lv_at hl 5 rfl) ?_
                refine lv_iload hx hb dX6_line_142 (lv_at hl 7 rfl) ?_
                refine lv_iload hx hb dX6_line_144 (lv_at hl 7 rfl) ?_
                refine lv_imul hx hb dX6_line_146 ?_
                refine kTopI (z := nI (x * x)) (pk_mul _ _) ?_
                refine lv_iadd hx hb dX6_line_147 ?_
                refine kTopI (z := nI (bS (fun u _ => u * u) lo x + x * x)) (nI_add _ _) ?_
                refine lv_istore (lv' := [(7, .int (nI (bS (fun u _ => u * u) lo x + x * x))), (6, .int (nI (bS (fun _ z => z) lo x + y))), (5, .int (nI (bS (fun u _ => u) lo x + x))), (4, .int (nI ((bS (fun _ _ => 1) lo x) + 1))), (0, .ref z0), (2, .double v), (8, .int (nI (bS (fun u z => u * z) lo x))), (9, .int (nI x)), (10, .int (nI y)), (11, .int (nI (f + (rwF w h P f))))]) hx hb dX6_line_148 hl (by decide) rfl (fun ls hl => ?_)
                refine lv_iload hx hb dX6_line_150 (lv_at hl 6 rfl) ?_
                refine lv_iload hx hb dX6_line_152 (lv_at hl 7 rfl) ?_
                refine lv_iload hx hb dX6_line_154 (lv_at hl 8 rfl) ?_
                refine lv_imul hx hb dX6_line_156 ?_
                refine kTopI (z := nI (x * y)) (pk_mul _ _) ?_
                refine lv_iadd hx hb dX6_line_157 ?_
                refine kTopI (z := nI (bS (fun u z => u * z) lo x + x * y)) (nI_add _ _) ?_
                refine lv_istore (lv' := [(8, .int (nI (bS (fun u z => u * z) lo x + x * y))), (7, .int (nI (bS (fun u _ => u * u) lo x + x * x))), (6, .int (nI (bS (fun _ z => z) lo x + y))), (5, .int (nI (bS (fun u _ => u) lo x + x))), (4, .int (nI ((bS (fun _ _ => 1) lo x) + 1))), (0, .ref z0), (2, .double v), (9, .int (nI x)), (10, .int (nI y)), (11, .int (nI (f + (rwF w h P f))))]) hx hb dX6_line_158 hl (by decide) rfl (fun ls hl => ?_)
                have hE : nI ((bS (fun _ _ => 1) lo x) + 1) = nI (bS (fun _ _ => 1) lo (x + 1)) := congrArg nI (bS_t hy).symm
                rw [hE] at hl
                have hE : nI (bS (fun u _ => u) lo x + x) = nI (bS (fun u _ => u) lo (x + 1)) := congrArg nI (bS_t hy).symm
                rw [hE] at hl
                have hE : nI (bS (fun _ z => z) lo x + y) = nI (bS (fun _ z => z) lo (x + 1)) := congrArg nI (bS_t hy).symm
                rw [hE] at hl
                have hE : nI (bS (fun u _ => u * u) lo x + x * x) = nI (bS (fun u _ => u * u) lo (x + 1)) := congrArg nI (bS_t hy).symm
                rw [hE] at hl
                have hE : nI (bS (fun u z => u * z) lo x + x * y) = nI (bS (fun u z => u * z) lo (x + 1)) := congrArg nI (bS_t hy).symm
                rw [hE] at hl
                refine lv_iinc (v := nI (x + 1)) (lv' := [(9, .int (nI (x + 1))), (8, .int (nI (bS (fun u z => u * z) lo (x + 1)))), (7, .int (nI (bS (fun u _ => u * u) lo (x + 1)))), (6, .int (nI (bS (fun _ z => z) lo (x + 1)))), (5, .int (nI (bS (fun u _ => u) lo (x + 1)))), (4, .int (nI (bS (fun _ _ => 1) lo (x + 1)))), (0, .ref z0), (2, .double v), (10, .int (nI y)), (11, .int (nI (f + (rwF w h P f))))]) hx hb dX6_line_160 hl (k := 7) rfl (nI_1 _) (by decide) rfl (fun ls hl => ?_)
                refine lv_goto (tgt := 60) hx hb dX6_line_163 (by decide) ?_
                exact ih60 (x + 1) (by omega) (by omega) _ _ hP hD hS _ (lv_sub hl [6, 7, 5, 4, 3, 2, 1, 0] rfl)
            · refine lv_aload_n hx hb dX6_line_92 rfl (lv_at hl 0 rfl) ?_
              refine lv_iload hx hb dX6_line_93 (lv_at hl 7 rfl) ?_
              refine lv_iload hx hb dX6_line_95 (lv_at hl 9 rfl) ?_
              refine kVi (w' := [(z0, .inr (5, [.int 0, .int (nI w), .int (nI h), .ref z1, .ref z2, .ref z3, .int (b2i mk), .int (b2i ms), .double mn, .ref z4, .int (nI tc), .ref z5, .int (nI f), .int (nI (rwF w h P f))])), (z1, .inl (cZ, 576, .inl (bA P))), (z2, .inl (cZ, 576, .inl (bA N))), (z3, .inl (cI, 4, .inl (e4 ze le ue re de))), (z4, .inl (cI, 16, .inl TM)), (z5, .inl (cI, 104, .inl LN))]) (wr := []) (isC := [0, 1, 2, 3, 4, 5]) (isR := []) (pm := [0, 1, 2, 3, 4, 5]) (rest := []) (kX6_isOn l G cI cZ cJ cD z0 z1 z2 z3 z4 z5 w h hw hh 0 P N ze le ue re de mk ms mn tc TM LN (nI f) (nI (rwF w h P f)) (nI x) (nI (f + j))) ⟨hx, hb, hml, hown, hts⟩ (cwV 2 hts gX6_line_X6_isOn rfl rfl rfl hd_X6_isOn ⟨Nat.le_of_ble_eq_true rfl, Nat.le_of_ble_eq_true rfl⟩) hK hP hD hS hA ⟨rfl, rfl, rfl, by decide, rfl, rfl, rfl⟩ 5 0 rfl rfl rfl hl.1 rfl (Nat.le_of_ble_eq_true rfl) dX6_line_97 ⟨Nat.le_of_ble_eq_true rfl, Nat.le_of_ble_eq_true rfl⟩ rfl rfl (fun H locs hP hD hS => ?_)
              refine kIfEqB (tgt := 108) hx hb dX6_line_100 (by decide) (fun c_100 => ?_) (fun c_100 => ?_)
              · refine lv_iload hx hb dX6_line_108 (lv_at hl 8 rfl) ?_
                refine kTopI (z := optI (lasO w h P x f (j + 1))) ((by simp only [lasO, c_100, ↓reduceIte, Bool.false_eq_true]; try rfl)) ?_
                refine lv_istore (lv' := [(10, .int (optI (lasO w h P x f (j + 1)))), (0, .ref z0), (2, .double v), (4, .int (nI (bS (fun _ _ => 1) lo x))), (5, .int (nI (bS (fun u _ => u) lo x))), (6, .int (nI (bS (fun _ z => z) lo x))), (7, .int (nI (bS (fun u _ => u * u) lo x))), (8, .int (nI (bS (fun u z => u * z) lo x))), (9, .int (nI x)), (11, .int (nI (f + j)))]) hx hb dX6_line_110 hl (by decide) rfl (fun ls hl => ?_)
                refine lv_iinc (v := nI ((f + j) + 1)) (lv' := [(11, .int (nI ((f + j) + 1))), (10, .int (optI (lasO w h P x f (j + 1)))), (0, .ref z0), (2, .double v), (4, .int (nI (bS (fun _ _ => 1) lo x))), (5, .int (nI (bS (fun u _ => u) lo x))), (6, .int (nI (bS (fun _ z => z) lo x))), (7, .int (nI (bS (fun u _ => u * u) lo x))), (8, .int (nI (bS (fun u z => u * z) lo x))), (9, .int (nI x))]) hx hb dX6_line_112 hl (k := 9) rfl (nI_1 _) (by decide) rfl (fun ls hl => ?_)
                refine lv_goto (tgt := 78) hx hb dX6_line_115 (by decide) ?_
                exact ih78 (j + 1) (by omega) (by omega) _ _ hP hD hS _ (lv_sub hl [2, 3, 4, 5, 6, 7, 8, 9, 1, 0] rfl)
              · refine lv_iload hx hb dX6_line_103 (lv_at hl 9 rfl) ?_
                refine kTopI (z := optI (lasO w h P x f (j + 1))) ((by simp only [lasO, c_100, ↓reduceIte, Bool.false_eq_true]; try rfl)) ?_
                refine lv_goto (tgt := 110) hx hb dX6_line_105 (by decide) ?_
                refine lv_istore (lv' := [(10, .int (optI (lasO w h P x f (j + 1)))), (0, .ref z0), (2, .double v), (4, .int (nI (bS (fun _ _ => 1) lo x))), (5, .int (nI (bS (fun u _ => u) lo x))), (6, .int (nI (bS (fun _ z => z) lo x))), (7, .int (nI (bS (fun u _ => u * u) lo x))), (8, .int (nI (bS (fun u z => u * z) lo x))), (9, .int (nI x)), (11, .int (nI (f + j)))]) hx hb dX6_line_110 hl (by decide) rfl (fun ls hl => ?_)
                refine lv_iinc (v := nI ((f + j) + 1)) (lv' := [(11, .int (nI ((f + j) + 1))), (10, .int (optI (lasO w h P x f (j + 1)))), (0, .ref z0), (2, .double v), (4, .int (nI (bS (fun _ _ => 1) lo x))), (5, .int (nI (bS (fun u _ => u) lo x))), (6, .int (nI (bS (fun _ z => z) lo x))), (7, .int (nI (bS (fun u _ => u * u) lo x))), (8, .int (nI (bS (fun u z => u * z) lo x))), (9, .int (nI x))]) hx hb dX6_line_112 hl (k := 9) rfl (nI_1 _) (by decide) rfl (fun ls hl => ?_)
                refine lv_goto (tgt := 78) hx hb dX6_line_115 (by decide) ?_
                exact ih78 (j + 1) (by omega) (by omega) _ _ hP hD hS _ (lv_sub hl [2, 3, 4, 5, 6, 7, 8, 9, 1, 0] rfl)
        exact K78 (rwF w h P f - 0 + 1) 0 (by omega) (by omega) _ _ hP hD hS _ (lv_sub hl [2, 3, 4, 5, 6, 7, 8, 9, 1, 0] rfl)
  exact K60 (w - 0 + 1) 0 (by omega) (by omega) _ _ hP hD hS _ (lv_sub hl [6, 8, 5, 4, 3, 2, 1, 0] rfl)
theorem in_kX6_upside_X6 : ∀ w ∈ u_ws RX6 TX6 14, w ∈ wsX6_upside := by decide +kernel
theorem fl_kX6_upside_36 : Cond.fieldLink RX6 36 "SkewFindModel" "code" "I" ∈ wsX6_upside := by decide +kernel
theorem fl_kX6_upside_161 : Cond.fieldLink RX6 161 "SkewFindModel" "bandRows" "I" ∈ wsX6_upside := by decide +kernel
theorem fl_kX6_upside_158 : Cond.fieldLink RX6 158 "SkewFindModel" "bandAt" "I" ∈ wsX6_upside := by decide +kernel
abbrev rmX6_upside : Room := { frames := 3, cells := 0, slots := 0, locals := 69 }
set_option maxRecDepth 100000 in
set_option maxHeartbeats 4000000 in
theorem kX6_upside (l : Launch) (G : va_G) (cI cZ cJ cD : ClassId) (z0 z1 z2 z3 z4 z5 w h : Nat) (hw : w ≤ 24) (hh : h ≤ 24) (cd : Int32) (P N : Nat → Bool) (ze : Nat → Int32) (le ue re de : Int32) (mk ms : Bool) (mn : UInt64) (tc : Nat) (TM LN : Nat → Int32) (ba br : Int32) (nb : Nat) (hnb : nb ≤ 24) (hb1 : ∀ j, j < nb → goS (mgF w h P (nI j)) = true) (hb2 : goS (mgF w h P (nI nb)) = false) : Ci l G (kTy cI cZ cJ cD) yX6_upside wsX6_upside rmX6_upside [.ref z0] [(z0, .inr (5, [.int cd, .int (nI w), .int (nI h), .ref z1, .ref z2, .ref z3, .int (b2i mk), .int (b2i ms), .double mn, .ref z4, .int (nI tc), .ref z5, .int ba, .int br])), (z1, .inl (cZ, 576, .inl (bA P))), (z2, .inl (cZ, 576, .inl (bA N))), (z3, .inl (cI, 4, .inl (e4 ze le ue re de))), (z4, .inl (cI, 16, .inl TM)), (z5, .inl (cI, 104, .inl LN))] (b2i (mUps w h P nb)) [(z0, .inr (5, [.int 0, .int (nI w), .int (nI h), .ref z1, .ref z2, .ref z3, .int (b2i mk), .int (b2i ms), .double mn, .ref z4, .int (nI tc), .ref z5, .int (baN w h P ba (nb + 1)), .int (brN w h P br (nb + 1))])), (z1, .inl (cZ, 576, .inl (bA P))), (z2, .inl (cZ, 576, .inl (bA N))), (z3, .inl (cI, 4, .inl (e4 ze le ue re de))), (z4, .inl (cI, 16, .inl TM)), (z5, .inl (cI, 104, .inl LN))] := by
  refine Ci.of .boolean (nar_b2i _) rfl rfl (cc := cX6_upside) (maxL := 5) (plainFor_of_name (by decide)) rfl (Nat.le_of_ble_eq_true rfl) rfl ?_
  intro p e s m args below meth c A Q hx hb hml hts hown hA hK hP hD hS hend ls hl
  refine lv_aload_n hx hb dX6_upside_0 rfl (lv_at hl 0 rfl) ?_
  refine lv_iconst (v := 0) hx hb dX6_upside_1 (by decide) ?_
  refine va_put (D := G) (ci := 5) (v := .int 0) (ty := .int) (C := RX6) (T := TX6) (N := 14) hx hb hts in_kX6_upside_X6 tyX6 tyX6_ok nmX6 hown hK hP hD hS 0 rfl rfl 0 (by decide) (hts _ fl_kX6_upside_36) (fun _ h9 => h9) rfl (by decide +kernel) rfl rfl (Nat.le_of_ble_eq_true rfl) dX6_upside_2 (fun H locs (hP : va_P G vwCl [(z0, .inr (5, [.int 0, .int (nI w), .int (nI h), .ref z1, .ref z2, .ref z3, .int (b2i mk), .int (b2i ms), .double mn, .ref z4, .int (nI tc), .ref z5, .int ba, .int br])), (z1, .inl (cZ, 576, .inl (bA P))), (z2, .inl (cZ, 576, .inl (bA N))), (z3, .inl (cI, 4, .inl (e4 ze le ue re de))), (z4, .inl (cI, 16, .inl TM)), (z5, .inl (cI, 104, .inl LN))] H) (hD : va_D A [(z0, .inr (5, [.int 0, .int (nI w), .int (nI h), .ref z1, .ref z2, .ref z3, .int (b2i mk), .int (b2i ms), .double mn, .ref z4, .int (nI tc), .ref z5, .int ba, .int br])), (z1, .inl (cZ, 576, .inl (bA P))), (z2, .inl (cZ, 576, .inl (bA N))), (z3, .inl (cI, 4, .inl (e4 ze le ue re de))), (z4, .inl (cI, 16, .inl TM)), (z5, .inl (cI, 104, .inl LN))]) hS => ?_)
  refine lv_iconst (v := 0) hx hb dX6_upside_5 (by decide) ?_
  refine lv_istore_n (lv' := [(1, .int 0), (0, .ref z0)]) hx hb dX6_upside_6 rfl hl (by decide) rfl (fun ls hl => ?_)
  refine lv_iconst (v := 0) hx hb dX6_upside_7 (by decide) ?_
  refine lv_istore_n (lv' := [(2, .int 0), (1, .int 0), (0, .ref z0)]) hx hb dX6_upside_8 rfl hl (by decide) rfl (fun ls hl => ?_)
  refine lv_iconst (v := 0) hx hb dX6_upside_9 (by decide) ?_
  refine lv_istore_n (lv' := [(3, .int 0), (2, .int 0), (1, .int 0), (0, .ref z0)]) hx hb dX6_upside_10 rfl hl (by decide) rfl (fun ls hl => ?_)
  have K11 : ∀ (n11 : Nat) (j : Nat), nb + 1 - j < n11 → (j ≤ nb) → ∀ (H : Heap) (locs : List Loc), va_P G vwCl [(z0, .inr (5, [.int 0, .int (nI w), .int (nI h), .ref z1, .ref z2, .ref z3, .int (b2i mk), .int (b2i ms), .double mn, .ref z4, .int (nI tc), .ref z5, .int (baN w h P ba j), .int (brN w h P br j)])), (z1, .inl (cZ, 576, .inl (bA P))), (z2, .inl (cZ, 576, .inl (bA N))), (z3, .inl (cI, 4, .inl (e4 ze le ue re de))), (z4, .inl (cI, 16, .inl TM)), (z5, .inl (cI, 104, .inl LN))] H → va_D A [(z0, .inr (5, [.int 0, .int (nI w), .int (nI h), .ref z1, .ref z2, .ref z3, .int (b2i mk), .int (b2i ms), .double mn, .ref z4, .int (nI tc), .ref z5, .int (baN w h P ba j), .int (brN w h P br j)])), (z1, .inl (cZ, 576, .inl (bA P))), (z2, .inl (cZ, 576, .inl (bA N))), (z3, .inl (cI, 4, .inl (e4 ze le ue re de))), (z4, .inl (cI, 16, .inl TM)), (z5, .inl (cI, 104, .inl LN))] → va_S A s.heap H locs → ∀ ls : Array Slot, lv_has ls 5 [(0, .ref z0), (1, .int (upN w h P j)), (2, .int (loN w h P j)), (3, .int (nI j))] → W p l e rmX6_upside s m args below meth c H locs 0 0 Q (F0 m 11 ls []) := by
    intro n11
    induction n11 with
    | zero => intro j hn; exact absurd hn (by omega)
    | succ n11 ih11 =>
      intro j hn11 hj H locs hP hD hS ls hl
      refine lv_aload_n hx hb dX6_upside_11 rfl (lv_at hl 0 rfl) ?_
      refine lv_iload_n hx hb dX6_upside_12 rfl (lv_at hl 3 rfl) ?_
      refine kVi (w' := [(z0, .inr (5, [.int 0, .int (nI w), .int (nI h), .ref z1, .ref z2, .ref z3, .int (b2i mk), .int (b2i ms), .double mn, .ref z4, .int (nI tc), .ref z5, .int (goA (mgF w h P (nI j)) (baN w h P ba j)), .int (goR w h P (mgF w h P (nI j)) (brN w h P br j))])), (z1, .inl (cZ, 576, .inl (bA P))), (z2, .inl (cZ, 576, .inl (bA N))), (z3, .inl (cI, 4, .inl (e4 ze le ue re de))), (z4, .inl (cI, 16, .inl TM)), (z5, .inl (cI, 104, .inl LN))]) (wr := []) (isC := [0, 1, 2, 3, 4, 5]) (isR := []) (pm := [0, 1, 2, 3, 4, 5]) (rest := []) (kX6_goTo l G cI cZ cJ cD z0 z1 z2 z3 z4 z5 w h hw hh 0 P N ze le ue re de mk ms mn tc TM LN (baN w h P ba j) (brN w h P br j) (nI j)) ⟨hx, hb, hml, hown, hts⟩ (cwV 1 hts gX6_upside_X6_goTo rfl rfl rfl hd_X6_goTo ⟨Nat.le_of_ble_eq_true rfl, Nat.le_of_ble_eq_true rfl⟩) hK hP hD hS hA ⟨rfl, rfl, rfl, by decide, rfl, rfl, rfl⟩ 5 0 rfl rfl rfl hl.1 rfl (Nat.le_of_ble_eq_true rfl) dX6_upside_13 ⟨Nat.le_of_ble_eq_true rfl, Nat.le_of_ble_eq_true rfl⟩ rfl rfl (fun H locs hP hD hS => ?_)
      refine kIfEqB (tgt := 67) hx hb dX6_upside_16 (by decide) (fun c_16 => ?_) (fun c_16 => ?_)
      · have e9 : nb = j := Nat.le_antisymm (Nat.le_of_not_lt fun q => by have z := hb1 j q; rw [c_16] at z; cases z) hj
        subst e9
        refine lv_iload_n hx hb dX6_upside_67 rfl (lv_at hl 2 rfl) ?_
        refine lv_iload_n hx hb dX6_upside_68 rfl (lv_at hl 1 rfl) ?_
        refine lv_icmp_le (tgt := 76) hx hb dX6_upside_69 (by decide) (fun c_69 => ?_) (fun c_69 => ?_)
        · refine lv_iconst (v := 0) hx hb dX6_upside_76 (by decide) ?_
          exact hend _ _ _ _ _ _ dX6_upside_77 hP hD hS (by first | (simp only [mUps, b2i_t, b2i_f, c_16, c_69, ↓reduceIte]; done) | (simp [mUps, b2i_t, b2i_f, c_16, c_69]; done) | rfl) rfl
        · refine lv_iconst (v := 1) hx hb dX6_upside_72 (by decide) ?_
          refine lv_goto (tgt := 77) hx hb dX6_upside_73 (by decide) ?_
          exact hend _ _ _ _ _ _ dX6_upside_77 hP hD hS (by first | (simp only [mUps, b2i_t, b2i_f, c_16, c_69, ↓reduceIte]; done) | (simp [mUps, b2i_t, b2i_f, c_16, c_69]; done) | rfl) rfl
      · have hne : j < nb := Nat.lt_of_le_of_ne hj (fun q => by rw [q, hb2] at c_16; cases c_16)
        obtain ⟨f, hg⟩ : ∃ f, mgF w h P (nI j) = some f := by
          cases hq : mgF w h P (nI j) with
          | none => rw [hq] at c_16; cases c_16
          | some f => exact ⟨f, rfl⟩
        have hf := mgF_le hg
        have hrw := rwF_in w h P (i := f) hf
        rw [hg] at hP hD
        rw [show goA (some f) (baN w h P ba j) = nI f from rfl, show goR w h P (some f) (brN w h P br j) = nI (rwF w h P f) from rfl] at hP hD
        refine lv_aload_n hx hb dX6_upside_19 rfl (lv_at hl 0 rfl) ?_
        refine va_get (D := G) (ci := 5) (v := .int (nI (rwF w h P f))) (C := RX6) (T := TX6) (N := 14) hx hb hts in_kX6_upside_X6 hown hK hP 0 rfl rfl 13 (by decide) (hts _ fl_kX6_upside_161) (fun _ h9 => h9) rfl dX6_upside_20 ?_
        refine lv_iconst (v := 2) hx hb dX6_upside_23 (by decide) ?_
        refine lv_idiv hx hb dX6_upside_24 (by decide) ?_
        refine kTopI (z := nI (rwF w h P f / 2)) (pk_div (d := 2) (by omega) (by decide) (by decide)) ?_
        refine lv_istore (lv' := [(4, .int (nI (rwF w h P f / 2))), (0, .ref z0), (1, .int (upN w h P j)), (2, .int (loN w h P j)), (3, .int (nI j))]) hx hb dX6_upside_25 hl (by decide) rfl (fun ls hl => ?_)
        refine lv_iload_n hx hb dX6_upside_27 rfl (lv_at hl 2 rfl) ?_
        refine lv_aload_n hx hb dX6_upside_28 rfl (lv_at hl 1 rfl) ?_
        refine lv_aload_n hx hb dX6_upside_29 rfl (lv_at hl 1 rfl) ?_
        refine va_get (D := G) (ci := 5) (v := .int (nI f)) (C := RX6) (T := TX6) (N := 14) hx hb hts in_kX6_upside_X6 hown hK hP 0 rfl rfl 12 (by decide) (hts _ fl_kX6_upside_158) (fun _ h9 => h9) rfl dX6_upside_30 ?_
        refine lv_iload hx hb dX6_upside_33 (lv_at hl 0 rfl) ?_
        refine kVi (w' := [(z0, .inr (5, [.int 0, .int (nI w), .int (nI h), .ref z1, .ref z2, .ref z3, .int (b2i mk), .int (b2i ms), .double mn, .ref z4, .int (nI tc), .ref z5, .int (nI f), .int (nI (rwF w h P f))])), (z1, .inl (cZ, 576, .inl (bA P))), (z2, .inl (cZ, 576, .inl (bA N))), (z3, .inl (cI, 4, .inl (e4 ze le ue re de))), (z4, .inl (cI, 16, .inl TM)), (z5, .inl (cI, 104, .inl LN))]) (wr := []) (isC := [0, 1, 2, 3, 4, 5]) (isR := []) (pm := [0, 1, 2, 3, 4, 5]) (rest := [.int (upN w h P j)]) (kX6_onIn l G cI cZ cJ cD z0 z1 z2 z3 z4 z5 w h hw hh 0 P N ze le ue re de mk ms mn tc TM LN (nI f) (nI (rwF w h P f)) f ((rwF w h P f / 2)) (by omega)) ⟨hx, hb, hml, hown, hts⟩ (cwV 2 hts gX6_upside_X6_onIn rfl rfl rfl hd_X6_onIn ⟨Nat.le_of_ble_eq_true rfl, Nat.le_of_ble_eq_true rfl⟩) hK hP hD hS hA ⟨rfl, rfl, rfl, by decide, rfl, rfl, rfl⟩ 5 0 rfl rfl rfl hl.1 rfl (Nat.le_of_ble_eq_true rfl) dX6_upside_35 ⟨Nat.le_of_ble_eq_true rfl, Nat.le_of_ble_eq_true rfl⟩ rfl rfl (fun H locs hP hD hS => ?_)
        refine lv_iadd hx hb dX6_upside_38 ?_
        refine lv_istore_n (lv' := [(1, .int ((upN w h P j) + (oiY w h P f ((rwF w h P f / 2))))), (4, .int (nI (rwF w h P f / 2))), (0, .ref z0), (2, .int (loN w h P j)), (3, .int (nI j))]) hx hb dX6_upside_39 rfl hl (by decide) rfl (fun ls hl => ?_)
        have hE : (upN w h P j) + (oiY w h P f ((rwF w h P f / 2))) = upN w h P (j + 1) := (by show _ = (match mgF w h P (nI j) with | none => _ | some f => _); rw [hg])
        rw [hE] at hl
        refine lv_iload_n hx hb dX6_upside_40 rfl (lv_at hl 3 rfl) ?_
        refine lv_aload_n hx hb dX6_upside_41 rfl (lv_at hl 2 rfl) ?_
        refine lv_aload_n hx hb dX6_upside_42 rfl (lv_at hl 2 rfl) ?_
        refine va_get (D := G) (ci := 5) (v := .int (nI f)) (C := RX6) (T := TX6) (N := 14) hx hb hts in_kX6_upside_X6 hown hK hP 0 rfl rfl 12 (by decide) (hts _ fl_kX6_upside_158) (fun _ h9 => h9) rfl dX6_upside_43 ?_
        refine lv_aload_n hx hb dX6_upside_46 rfl (lv_at hl 2 rfl) ?_
        refine va_get (D := G) (ci := 5) (v := .int (nI (rwF w h P f))) (C := RX6) (T := TX6) (N := 14) hx hb hts in_kX6_upside_X6 hown hK hP 0 rfl rfl 13 (by decide) (hts _ fl_kX6_upside_161) (fun _ h9 => h9) rfl dX6_upside_47 ?_
        refine lv_iadd hx hb dX6_upside_50 ?_
        refine kTopI (z := nI (f + (rwF w h P f))) (nI_add f ((rwF w h P f))) ?_
        refine lv_iload hx hb dX6_upside_51 (lv_at hl 1 rfl) ?_
        refine lv_isub hx hb dX6_upside_53 ?_
        refine kTopI (z := nI ((f + (rwF w h P f)) - (rwF w h P f / 2))) (pk_sub (a := (f + (rwF w h P f))) (b := (rwF w h P f / 2)) (by omega)) ?_
        refine lv_iload hx hb dX6_upside_54 (lv_at hl 1 rfl) ?_
        refine kVi (w' := [(z0, .inr (5, [.int 0, .int (nI w), .int (nI h), .ref z1, .ref z2, .ref z3, .int (b2i mk), .int (b2i ms), .double mn, .ref z4, .int (nI tc), .ref z5, .int (nI f), .int (nI (rwF w h P f))])), (z1, .inl (cZ, 576, .inl (bA P))), (z2, .inl (cZ, 576, .inl (bA N))), (z3, .inl (cI, 4, .inl (e4 ze le ue re de))), (z4, .inl (cI, 16, .inl TM)), (z5, .inl (cI, 104, .inl LN))]) (wr := []) (isC := [0, 1, 2, 3, 4, 5]) (isR := []) (pm := [0, 1, 2, 3, 4, 5]) (rest := [.int (loN w h P j)]) (kX6_onIn l G cI cZ cJ cD z0 z1 z2 z3 z4 z5 w h hw hh 0 P N ze le ue re de mk ms mn tc TM LN (nI f) (nI (rwF w h P f)) (((f + (rwF w h P f)) - (rwF w h P f / 2))) ((rwF w h P f / 2)) (by omega)) ⟨hx, hb, hml, hown, hts⟩ (cwV 2 hts gX6_upside_X6_onIn rfl rfl rfl hd_X6_onIn ⟨Nat.le_of_ble_eq_true rfl, Nat.le_of_ble_eq_true rfl⟩) hK hP hD hS hA ⟨rfl, rfl, rfl, by decide, rfl, rfl, rfl⟩ 5 0 rfl rfl rfl hl.1 rfl (Nat.le_of_ble_eq_true rfl) dX6_upside_56 ⟨Nat.le_of_ble_eq_true rfl, Nat.le_of_ble_eq_true rfl⟩ rfl rfl (fun H locs hP hD hS => ?_)
        refine lv_iadd hx hb dX6_upside_59 ?_
        refine lv_istore_n (lv' := [(2, .int ((loN w h P j) + (oiY w h P (((f + (rwF w h P f)) - (rwF w h P f / 2))) ((rwF w h P f / 2))))), (1, .int (upN w h P (j + 1))), (4, .int (nI (rwF w h P f / 2))), (0, .ref z0), (3, .int (nI j))]) hx hb dX6_upside_60 rfl hl (by decide) rfl (fun ls hl => ?_)
        have hE : (loN w h P j) + (oiY w h P (((f + (rwF w h P f)) - (rwF w h P f / 2))) ((rwF w h P f / 2))) = loN w h P (j + 1) := (by show _ = (match mgF w h P (nI j) with | none => _ | some f => _); rw [hg])
        rw [hE] at hl
        refine lv_iinc (v := nI (j + 1)) (lv' := [(3, .int (nI (j + 1))), (2, .int (loN w h P (j + 1))), (1, .int (upN w h P (j + 1))), (4, .int (nI (rwF w h P f / 2))), (0, .ref z0)]) hx hb dX6_upside_61 hl (k := 4) rfl (nI_1 _) (by decide) rfl (fun ls hl => ?_)
        refine lv_goto (tgt := 11) hx hb dX6_upside_64 (by decide) ?_
        exact ih11 (j + 1) (by omega) (by omega) _ _ (by rw [show baN w h P ba (j + 1) = nI f from by show goA (mgF w h P (nI j)) _ = _; rw [hg]; rfl, show brN w h P br (j + 1) = nI (rwF w h P f) from by show goR w h P (mgF w h P (nI j)) _ = _; rw [hg]; rfl]; exact hP) (by rw [show baN w h P ba (j + 1) = nI f from by show goA (mgF w h P (nI j)) _ = _; rw [hg]; rfl, show brN w h P br (j + 1) = nI (rwF w h P f) from by show goR w h P (mgF w h P (nI j)) _ = _; rw [hg]; rfl]; exact hD) hS _ (lv_sub hl [4, 2, 1, 0] rfl)
  exact K11 (nb + 1 - 0 + 1) 0 (by omega) (by omega) _ _ hP hD hS _ (lv_sub hl [3, 2, 1, 0] rfl)
