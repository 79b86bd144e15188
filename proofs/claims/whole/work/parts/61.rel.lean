/-! the class's rows of bits and the reference's row of samples: the same picture -/
def Rl (w h : Nat) (B : Nat → Int32) (P : Nat → Bool) : Prop :=
  (∀ y, y < 24 → ∀ x, x < 24 → P (24 * y + x) = bt (B y) x) ∧ (∀ y, y < 24 → ∀ x, w ≤ x → bt (B y) x = false) ∧ (∀ y, h ≤ y → y < 24 → ∀ x, bt (B y) x = false)
theorem bt_1 : ∀ i, i < 32 → bt 1 i = decide (i = 0) := by decide +kernel
theorem bit1 (r : Int32) {x : Nat} (hx : x < 32) : sUshr r (nI x) &&& 1 = 0 ↔ bt r x = false := by
  have hb : ∀ i, i < 32 → bt (sUshr r (nI x) &&& 1) i = (bt r (x + i) && decide (i = 0)) := fun i hi => by
    rw [b_and, bt_1 i hi]; unfold sUshr; rw [b_ushr x hx]
  constructor
  · intro h
    have h0 := hb 0 (by omega)
    rw [h, b_0] at h0
    simpa using h0.symm
  · intro h
    refine b_ext fun i hi => ?_
    rw [hb i hi, b_0]
    by_cases e : i = 0
    · subst e; simp [h]
    · simp [e]
theorem hasB_nI {w h x y : Nat} (hx : x < w) (hy : y < h) (hw : w ≤ 24) (hh : h ≤ 24) : hasB w h (nI x) (nI y) = true := by
  unfold hasB
  rw [if_neg (nI_pos (by omega)), if_neg (fun q => by have := (nI_leI (by omega) (by omega)).mp q; omega), if_neg (nI_pos (by omega)), if_neg (fun q => by have := (nI_leI (by omega) (by omega)).mp q; omega)]
theorem hasB_out {w h : Nat} {x y : Int32} (hw : w ≤ 24) (hh : h ≤ 24) : hasB w h x y = true ↔ ∃ a b, a < w ∧ b < h ∧ x = nI a ∧ y = nI b := by
  constructor
  · intro e
    unfold hasB at e
    by_cases h0 : x < 0
    · rw [if_pos h0] at e; cases e
    · by_cases h1 : nI w ≤ x
      · rw [if_neg h0, if_pos h1] at e; cases e
      · by_cases h2 : y < 0
        · rw [if_neg h0, if_neg h1, if_pos h2] at e; cases e
        · by_cases h3 : nI h ≤ y
          · rw [if_neg h0, if_neg h1, if_neg h2, if_pos h3] at e; cases e
          · obtain ⟨a, ha, e1⟩ := inR (n := w) (by omega) h0 h1
            obtain ⟨b, hb, e2⟩ := inR (n := h) (by omega) h2 h3
            exact ⟨a, b, ha, hb, e1, e2⟩
  · rintro ⟨a, b, ha, hb, rfl, rfl⟩
    exact hasB_nI ha hb hw hh
theorem mOnB_has (w h : Nat) (P : Nat → Bool) (x y : Int32) : mOnB w h P x y = if hasB w h x y = true then P (24 * y.toNatClampNeg + x.toNatClampNeg) else false := by
  unfold mOnB hasB
  split
  · rfl
  · split
    · rfl
    · split
      · rfl
      · split
        · rfl
        · rfl
theorem mOnB_nI {w h x y : Nat} (hx : x < w) (hy : y < h) (hw : w ≤ 24) (hh : h ≤ 24) (P : Nat → Bool) : mOnB w h P (nI x) (nI y) = P (24 * y + x) := by
  rw [mOnB_has, hasB_nI hx hy hw hh, if_pos rfl, nI_clamp (by omega), nI_clamp (by omega)]
theorem isOnB_nI {w h x y : Nat} (hx : x < w) (hy : y < h) (hw : w ≤ 24) (hh : h ≤ 24) (B : Nat → Int32) : isOnB w h B (nI x) (nI y) = bt (B y) x := by
  unfold isOnB
  rw [hasB_nI hx hy hw hh, if_pos rfl, rowF_nI B (by omega)]
  cases hb : bt (B y) x
  · rw [if_pos ((bit1 _ (by omega)).mpr hb)]
  · rw [if_neg (fun q => by rw [(bit1 _ (by omega)).mp q] at hb; cases hb)]
section REL
variable {w h : Nat} {B : Nat → Int32} {P : Nat → Bool}
theorem Rl.on (hR : Rl w h B P) (hw : w ≤ 24) (hh : h ≤ 24) (x y : Int32) : isOnB w h B x y = mOnB w h P x y := by
  cases hb : hasB w h x y
  · rw [mOnB_has, hb]; unfold isOnB; rw [hb]; rfl
  · obtain ⟨a, b, ha, hb', rfl, rfl⟩ := (hasB_out hw hh).mp hb
    rw [isOnB_nI ha hb' hw hh, mOnB_nI ha hb' hw hh, hR.1 b (by omega) a (by omega)]
theorem Rl.mon (hR : Rl w h B P) (hw : w ≤ 24) (hh : h ≤ 24) {x y : Nat} (hx : x < w) (hy : y < h) : mOnB w h P (nI x) (nI y) = bt (B y) x := by
  rw [mOnB_nI hx hy hw hh, hR.1 y (by omega) x (by omega)]
theorem mOnB_off {x y : Int32} (h0 : hasB w h x y = false) : mOnB w h P x y = false := by rw [mOnB_has, h0]; rfl
theorem has_offX (hw : w ≤ 24) (hh : h ≤ 24) {x : Nat} (hx : w ≤ x) (hx2 : x < 2 ^ 31) (y : Int32) : hasB w h (nI x) y = false := by
  cases hb : hasB w h (nI x) y
  · rfl
  · obtain ⟨a, b, ha, -, e, -⟩ := (hasB_out hw hh).mp hb
    have := (nI_eq hx2 (by omega)).mp e
    omega
theorem has_offY (hw : w ≤ 24) (hh : h ≤ 24) {y : Nat} (hy : h ≤ y) (hy2 : y < 2 ^ 31) (x : Int32) : hasB w h x (nI y) = false := by
  cases hb : hasB w h x (nI y)
  · rfl
  · obtain ⟨a, b, -, ha, -, e⟩ := (hasB_out hw hh).mp hb
    have := (nI_eq hy2 (by omega)).mp e
    omega
theorem Rl.at_ (hR : Rl w h B P) (hw : w ≤ 24) (hh : h ≤ 24) (x y : Int32) (hv : hasB w h x y = true) : isOnB w h B x y = mAtB w h P x y := by
  unfold mAtB; rw [if_pos hv]; exact hR.on hw hh x y
/-! sums of counts -/
theorem ct_sm (p : Nat → Bool) : ∀ n, fb_ct p n = fb_sm (fun k => if p k then 1 else 0) n
  | 0 => rfl
  | n + 1 => by rw [fb_ct_succ, fb_sm_succ, ct_sm p n]
theorem sumI_nI {f : Nat → Int32} {g : Nat → Nat} : ∀ n, (∀ i, i < n → f i = nI (g i)) → sumI f n = nI (fb_sm g n)
  | 0, _ => rfl
  | n + 1, hf => by
    show sumI f n + f n = _
    rw [sumI_nI n (fun i hi => hf i (by omega)), hf n (by omega), nI_add, fb_sm_succ]
theorem b2i_nI (b : Bool) : b2i b = nI (if b then 1 else 0) := by cases b <;> rfl
theorem sumI_b (p : Nat → Bool) (n : Nat) : sumI (fun k => b2i (p k)) n = nI (fb_ct p n) := by
  rw [ct_sm]; exact sumI_nI n fun i _ => b2i_nI _
theorem sm_zero {f : Nat → Nat} : ∀ n, (∀ k, k < n → f k = 0) → fb_sm f n = 0
  | 0, _ => rfl
  | n + 1, hf => by rw [fb_sm_succ, sm_zero n (fun k hk => hf k (by omega)), hf n (by omega)]
theorem sm_cut {f : Nat → Nat} {a n : Nat} (ha : a ≤ n) (hf : ∀ k, a ≤ k → k < n → f k = 0) : fb_sm f n = fb_sm f a := by
  obtain ⟨d, rfl⟩ : ∃ d, n = a + d := ⟨n - a, by omega⟩
  rw [fb_sm_split, sm_zero d (fun k hk => hf (a + k) (by omega) (by omega))]
  rfl
theorem ct_cut {p : Nat → Bool} {a n : Nat} (ha : a ≤ n) (hf : ∀ k, a ≤ k → k < n → p k = false) : fb_ct p n = fb_ct p a := by
  obtain ⟨d, rfl⟩ : ∃ d, n = a + d := ⟨n - a, by omega⟩
  rw [fb_ct_split, fb_ct_zero.mpr (fun k hk => hf (a + k) (by omega) (by omega))]
  rfl
theorem ct_grid (p : Nat → Bool) : ∀ n, fb_ct p (24 * n) = fb_sm (fun y => fb_ct (fun x => p (24 * y + x)) 24) n
  | 0 => rfl
  | n + 1 => by rw [Nat.mul_succ, fb_ct_split, ct_grid p n, fb_sm_succ]
theorem Rl.row (hR : Rl w h B P) (hw : w ≤ 24) {y : Nat} (hy : y < 24) : popc (B y) = nI (fb_ct (bt (B y)) w) := by
  rw [popc_ct, ct_cut (a := w) (by omega) (fun k h1 _ => hR.2.1 y hy k h1)]
/-- how many samples are on -/
theorem Rl.cnt (hR : Rl w h B P) (hw : w ≤ 24) (hh : h ≤ 24) : cntOn B h = mCnt P := by
  unfold cntOn mCnt
  rw [sumI_b, show 576 = 24 * 24 from rfl, ct_grid, sm_cut (a := h) hh (fun y h1 h2 => fb_ct_zero.mpr fun x hx => by
    show P (24 * y + x) = false
    rw [hR.1 y h2 x hx]; exact hR.2.2 y h1 h2 x)]
  refine sumI_nI h fun y hy => ?_
  rw [hR.row hw (by omega)]
  congr 1
  rw [← ct_cut (p := bt (B y)) (a := w) (n := 24) hw (fun k h1 _ => hR.2.1 y (by omega) k h1)]
  exact fb_ct_cong fun x hx => (hR.1 y (by omega) x hx).symm
/-- ends of runs -/
theorem bt_ends (r : Int32) {i : Nat} (hi : i < 32) : bt (endsF r) i = (bt r i && !bt r (1 + i)) := by
  unfold endsF
  rw [b_and, b_xor, b_m1 i hi]
  have : bt (sUshr r 1) i = bt r (1 + i) := b_ushr 1 (by omega) r i
  rw [this, Bool.xor_true]
theorem Rl.mend (hR : Rl w h B P) (hw : w ≤ 24) (hh : h ≤ 24) {x y : Nat} (hx : x < w) (hy : y < h) : mEndB w h P x y = bt (endsF (B y)) x := by
  unfold mEndB
  rw [hR.mon hw hh hx hy, bt_ends _ (by omega), nI_1]
  have h2 : mOnB w h P (nI (x + 1)) (nI y) = bt (B y) (1 + x) := by
    rcases Nat.lt_or_ge (x + 1) w with q | q
    · rw [hR.mon hw hh q hy, Nat.add_comm]
    · rw [mOnB_off (has_offX hw hh q (by omega) _), hR.2.1 y (by omega) (1 + x) (by omega)]
  rw [h2]
  cases bt (B y) x <;> cases bt (B y) (1 + x) <;> rfl
theorem mEx_ct (w h : Nat) (P : Nat → Bool) (y a : Nat) : ∀ x, mEx w h P y (nI a) x = nI (a + fb_ct (fun x => mEndB w h P x y) x)
  | 0 => rfl
  | x + 1 => by
    show mEx w h P y (nI a) x + b2i _ = _
    rw [mEx_ct w h P y a x, b2i_nI, nI_add, fb_ct_succ]
    congr 1
    omega
theorem mEy_sm (w h : Nat) (P : Nat → Bool) : ∀ y, mEy w h P y = nI (fb_sm (fun y => fb_ct (fun x => mEndB w h P x y) w) y)
  | 0 => rfl
  | y + 1 => by
    show mEx w h P y (mEy w h P y) w = _
    rw [mEy_sm w h P y, mEx_ct, fb_sm_succ]
theorem Rl.endsRow (hR : Rl w h B P) (hw : w ≤ 24) {y : Nat} (hy : y < 24) {x : Nat} (hx : w ≤ x) : bt (endsF (B y)) x = false := by
  rcases Nat.lt_or_ge x 32 with q | q
  · rw [bt_ends _ q, hR.2.1 y hy x hx]; rfl
  · exact b_big q
theorem Rl.ends (hR : Rl w h B P) (hw : w ≤ 24) (hh : h ≤ 24) : cntEnds B h = mEnds w h P := by
  unfold cntEnds mEnds
  rw [mEy_sm]
  refine sumI_nI h fun y hy => ?_
  rw [popc_ct, ct_cut (a := w) (by omega) (fun k h1 _ => hR.endsRow hw (by omega) h1)]
  congr 1
  exact fb_ct_cong fun x hx => (hR.mend hw hh hx hy).symm
/-! lines: the same counts, 28 places apart -/
def eqS (E LN : Nat → Int32) : Prop := ∀ i, i < 104 → LN i = if 28 ≤ i ∧ i < 76 then E (i - 28) else 0
theorem eqS_sq {E LN : Nat → Int32} (he : eqS E LN) : sqF E = sqM LN := by
  unfold sqF sqM
  have sp : ∀ (f : Nat → Int32) (m n : Nat), sumI f (m + n) = sumI f m + sumI (fun k => f (m + k)) n := by
    intro f m n
    induction n with
    | zero => show _ = _ + 0; rw [Int32.add_zero]; rfl
    | succ n ih => show sumI f (m + n) + f (m + n) = _ + (_ + _); rw [ih, Int32.add_assoc]
  have z : ∀ (f : Nat → Int32) (n : Nat), (∀ k, k < n → f k = 0) → sumI f n = 0 := by
    intro f n
    induction n with
    | zero => intro _; rfl
    | succ n ih => intro hf; show sumI f n + f n = 0; rw [ih (fun k hk => hf k (by omega)), hf n (by omega)]; rfl
  rw [show (104 : Nat) = 28 + (48 + 28) from rfl, sp, sp]
  rw [z _ 28 (fun k hk => by show LN k * LN k = 0; rw [he k (by omega), if_neg (by omega)]; rfl)]
  rw [z _ 28 (fun k hk => by show LN (28 + (48 + k)) * LN (28 + (48 + k)) = 0; rw [he _ (by omega), if_neg (by omega)]; rfl)]
  rw [Int32.zero_add, Int32.add_zero]
  refine sumI_eq 48 fun i hi => ?_
  show _ = LN (28 + i) * LN (28 + i)
  rw [he _ (by omega), if_pos (by omega), Nat.add_sub_cancel_left]
theorem ofI_nI {v : Int32} {n : Nat} (e : v.toInt = (n : Int)) (hn : n < 2 ^ 31) : v = nI n := Int32.toInt_inj.mp (by rw [e, nI_toInt hn])
theorem eqS_col {E LN : Nat → Int32} (he : eqS E LN) {ln : Int32} (h1 : -9 ≤ ln.toInt) (h2 : ln.toInt ≤ 32) : eqS (colnF E ln) (mcol LN ln) := by
  obtain ⟨k, hk, hk2⟩ : ∃ k : Nat, ln.toInt + 12 = (k : Int) ∧ k < 48 := ⟨(ln.toInt + 12).toNat, by omega, by omega⟩
  have c12 : (12 : Int32).toInt = 12 := rfl
  have c40 : (40 : Int32).toInt = 40 := rfl
  have e1 : ln + 12 = nI k := ofI_nI (by rw [fb_addI (by omega) (by omega)]; omega) (by omega)
  have e2 : ln + 40 = nI (k + 28) := ofI_nI (by rw [fb_addI (by omega) (by omega)]; omega) (by omega)
  intro i hi
  unfold colnF mcol
  have n0 : ¬ nI k < 0 := nI_pos (by omega)
  have n1 : ¬ nI 48 ≤ nI k := fun q => by have := (nI_leI (a := 48) (b := k) (by omega) (by omega)).mp q; omega
  rw [e1, e2, if_neg n0, if_neg n1, nI_clamp (n := k) (by omega), nI_clamp (n := k + 28) (by omega)]
  unfold upd
  by_cases e : i = k + 28
  · rw [if_pos e, he (k + 28) (by omega), if_pos (by omega), e, if_pos (by omega), Nat.add_sub_cancel, if_pos rfl]
  · rw [if_neg e, he i hi]
    by_cases q : 28 ≤ i ∧ i < 76
    · rw [if_pos q, if_pos q, if_neg (by omega)]
    · rw [if_neg q, if_neg q]
theorem Rl.lnX (hR : Rl w h B P) (hw : w ≤ 24) (hh : h ≤ 24) {t : UInt64} (ht : fIv (-23855) 23855 t) {y : Nat} (hy : y < h) {E LN : Nat → Int32} (he : eqS E LN) : ∀ x, x ≤ w → eqS (lnX (endsF (B y)) y t E x) (mlX w h P t y LN x)
  | 0, _ => he
  | x + 1, hx => by
    have ih := hR.lnX hw hh ht hy he x (by omega)
    unfold mlX
    show eqS (if sUshr (endsF (B y)) (nI x) &&& 1 = 0 then _ else _) _
    rw [hR.mend hw hh (by omega) hy]
    have hb := bit1 (endsF (B y)) (x := x) (by omega)
    cases hc : bt (endsF (B y)) x
    · rw [if_pos (hb.mpr hc), if_neg (by decide)]; exact ih
    · rw [if_neg (fun q => by rw [hb.mp q] at hc; cases hc), if_pos rfl]
      have hr := lineR (x := x) (y := y) (by omega) (by omega) ht
      exact eqS_col ih hr.1 hr.2
theorem Rl.lnY (hR : Rl w h B P) (hw : w ≤ 24) (hh : h ≤ 24) {t : UInt64} (ht : fIv (-23855) 23855 t) {E LN : Nat → Int32} (he : eqS E LN) : ∀ y, y ≤ h → eqS (lnY w B t E y) (mlY w h P t LN y)
  | 0, _ => he
  | y + 1, hy => hR.lnX hw hh ht (by omega) (hR.lnY hw hh ht he y (by omega)) w (Nat.le_refl w)
theorem Rl.sq (hR : Rl w h B P) (hw : w ≤ 24) (hh : h ≤ 24) {t : UInt64} (ht : fIv (-23855) 23855 t) : sqZ w h B t = sqMZ w h P t :=
  eqS_sq (hR.lnY hw hh ht (fun i _ => by split <;> rfl) h (Nat.le_refl h))
theorem fSlA {a : Int32} (h1 : -2000 ≤ a.toInt) (h2 : a.toInt ≤ 2000) : fIv (-23855) 23855 (slopeF (FP.i2d a)) := fSlope (fIv.i2d_in (k := 2000) h1 h2 (by decide))
theorem Rl.sum (hR : Rl w h B P) (hw : w ≤ 24) (hh : h ≤ 24) {a : Int32} (h1 : -2000 ≤ a.toInt) (h2 : a.toInt ≤ 2000) : sumF w h B a = mSum w h P a := by
  unfold sumF mSum
  rw [hR.ends hw hh, hR.sq hw hh (fSlA h1 h2)]
end REL
