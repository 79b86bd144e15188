/-! turns by shears and by sampling: class = reference -/
theorem wi_toInt (z : Int32) {w : Nat} (h0 : 0 < w) (hw : w ≤ 24) : ((wiN z w : Nat) : Int) = z.toInt % (w : Int) := by
  obtain ⟨e1, e2⟩ := wiN_eq z h0 hw
  have hwi : (nI w).toInt = (w : Int) := nI_toInt (by omega)
  have hr := remR (z := z) h0 hw
  have hv : (withF z (nI w)).toInt = ((wiN z w : Nat) : Int) := by rw [e1, nI_toInt (by omega)]
  have hd : z.toInt = (z % nI w).toInt + (w : Int) * (z.toInt.tdiv w) := by
    rw [Int32.toInt_mod, hwi]
    exact (Int.tmod_add_mul_tdiv _ _).symm
  have hc : ∃ q : Int, z.toInt = ((wiN z w : Nat) : Int) + (w : Int) * q := by
    unfold withF at hv
    rw [remE] at hv
    by_cases c : (0 : Int32) ≤ z % nI w
    · rw [if_pos c] at hv
      exact ⟨_, by rw [← hv]; exact hd⟩
    · rw [if_neg c] at hv
      rw [Int32.le_iff_toInt_le, show (0 : Int32).toInt = 0 from rfl] at c
      rw [fb_addI (by omega) (by omega), hwi] at hv
      refine ⟨z.toInt.tdiv w - 1, ?_⟩
      rw [← hv, Int.mul_sub, Int.mul_one]
      omega
  obtain ⟨q, hq⟩ := hc
  rw [hq, Int.add_mul_emod_self_left, Int.emod_eq_of_lt (by omega) (by omega)]
theorem xor_sign (x : Int32) {w : Nat} (hw : w < 2 ^ 31) : (0 : Int32) ≤ x ^^^ nI w ↔ (0 : Int32) ≤ x := by
  have e : ∀ v : Int32, (0 : Int32) ≤ v ↔ v.toBitVec.msb = false := fun v => by
    rw [Int32.le_iff_toInt_le, BitVec.msb_eq_toInt, decide_eq_false_iff_not]
    show (0 : Int) ≤ v.toInt ↔ ¬ v.toInt < 0
    omega
  have h1 := (e (nI w)).mp (nI_pos' hw)
  rw [e, e, Int32.toBitVec_xor, BitVec.msb_xor, h1, Bool.xor_false]
theorem floor_with (z : Int32) {w : Nat} (h0 : 0 < w) (hw : w ≤ 24) : floorF z (nI w) = withF z (nI w) := by
  have hwi : (nI w).toInt = (w : Int) := nI_toInt (by omega)
  have hm : (z % nI w).toInt = z.toInt.tmod w := by rw [Int32.toInt_mod, hwi]
  have z0 : (0 : Int32).toInt = 0 := rfl
  unfold floorF withF
  rw [remE]
  by_cases c : (0 : Int32) ≤ z
  · rw [if_pos ((xor_sign z (by omega)).mpr c)]
    rw [Int32.le_iff_toInt_le, z0] at c
    rw [if_pos (by rw [Int32.le_iff_toInt_le, z0, hm]; exact Int.tmod_nonneg _ c)]
  · rw [if_neg (fun q => c ((xor_sign z (by omega)).mp q))]
    rw [Int32.le_iff_toInt_le, z0] at c
    have hn : (z % nI w).toInt ≤ 0 := by
      rw [hm]
      have := Int.tmod_nonneg (w : Int) (a := -z.toInt) (by omega)
      rw [Int.neg_tmod] at this
      omega
    by_cases d : z % nI w = 0
    · rw [if_pos d, if_pos (by rw [d]; decide)]
    · rw [if_neg d, if_neg (fun q => d (by
        rw [Int32.le_iff_toInt_le, z0] at q
        exact Int32.toInt_inj.mp (by rw [z0]; omega)))]
theorem wrap_wi (z : Int32) {w : Nat} (h0 : 0 < w) (hw : w ≤ 24) : wrapF z (nI w) = nI (wiN z w) := by
  unfold wrapF
  rw [if_pos (show (1 : Int32) ≤ nI w from (nI_leI (a := 1) (by omega) (by omega)).mpr h0), floor_with z h0 hw, (wiN_eq z h0 hw).1]
/-- the place j, moved by k round a row of w -/
def rot (w k j : Nat) : Nat := if j + k < w then j + k else j + k - w
theorem rot_lt {w k j : Nat} (hk : k < w) (hj : j < w) : rot w k j < w := by unfold rot; split <;> omega
theorem rot_inj {w k i j : Nat} (hk : k < w) (hi : i < w) (hj : j < w) (e : rot w k i = rot w k j) : i = j := by unfold rot at e; split at e <;> split at e <;> omega
theorem rot_sur {w k i : Nat} (hk : k < w) (hi : i < w) : ∃ j, j < w ∧ rot w k j = i := by
  unfold rot
  by_cases c : k ≤ i
  · exact ⟨i - k, by omega, by rw [if_pos (by omega)]; omega⟩
  · exact ⟨i + w - k, by omega, by rw [if_neg (by omega)]; omega⟩
theorem wi_rot (b : Int32) {w j : Nat} (hw : w ≤ 24) (hj : j < w) (b1 : -(2 ^ 30) ≤ b.toInt) (b2 : b.toInt ≤ 2 ^ 30) : wiN (nI j + b) w = rot w (wiN b w) j := by
  have h1 := wi_toInt (nI j + b) (w := w) (by omega) hw
  have h2 := wi_toInt b (w := w) (by omega) hw
  have h3 := (wiN_eq b (w := w) (by omega) hw).2
  have hj' : (nI j).toInt = (j : Int) := nI_toInt (by omega)
  rw [fb_addI (by omega) (by omega), hj'] at h1
  have hd : b.toInt = ((wiN b w : Nat) : Int) + (w : Int) * (b.toInt / (w : Int)) := by rw [h2]; exact (Int.emod_add_mul_ediv _ _).symm
  rw [hd, ← Int.add_assoc, Int.add_mul_emod_self_left] at h1
  unfold rot
  by_cases c : j + wiN b w < w
  · rw [if_pos c]
    rw [Int.emod_eq_of_lt (by omega) (by omega)] at h1
    omega
  · rw [if_neg c]
    have e : ((j : Int) + ((wiN b w : Nat) : Int)) = ((j : Int) + ((wiN b w : Nat) : Int) - w) + (w : Int) * 1 := by omega
    rw [e, Int.add_mul_emod_self_left, Int.emod_eq_of_lt (by omega) (by omega)] at h1
    omega
theorem bt_mov {w : Nat} (hw : w ≤ 24) {r b : Int32} (h0 : 0 < w) (hr : ∀ x, w ≤ x → bt r x = false) : (∀ x, x < w → bt (movF w r b) (rot w (wiN b w) x) = bt r x) ∧ ∀ x, w ≤ x → bt (movF w r b) x = false := by
  have hk := (wiN_eq b (w := w) (by omega) hw).2
  have e : movF w r b = ((r <<< (nI (wiN b w) &&& 31)) ||| sUshr r (nI (w - wiN b w))) &&& bitsOfF (nI w) := by
    unfold movF
    rw [wrap_wi b h0 hw, pk_sub (by omega)]
  have key : ∀ i, i < 32 → bt (movF w r b) i = (((decide (wiN b w ≤ i) && bt r (i - wiN b w)) || bt r (w - wiN b w + i)) && decide (i < w)) := fun i hi => by
    rw [e, b_and, b_or, b_shl _ (by omega) _ hi, bt_low w (by omega) i hi]
    unfold sUshr
    rw [b_ushr _ (by omega)]
  constructor
  · intro x hx
    have hl := rot_lt hk hx
    rw [key _ (by omega), decide_eq_true hl, Bool.and_true]
    unfold rot
    by_cases c : x + wiN b w < w
    · rw [if_pos c, decide_eq_true (by omega), hr (w - wiN b w + (x + wiN b w)) (by omega), Bool.or_false, Bool.true_and, Nat.add_sub_cancel]
    · rw [if_neg c, decide_eq_false (by omega), Bool.false_and, Bool.false_or]
      congr 1
      omega
  · intro x hx
    rcases Nat.lt_or_ge x 32 with q | q
    · rw [key x q, decide_eq_false (p := x < w) (by omega), Bool.and_false]
    · exact b_big q
/-! how far a line is moved -/
theorem whole_in {v : UInt64} (hv : fIv (-1099511627776) 1099511627776 v) : -33554432 ≤ (wholeF v).toInt ∧ (wholeF v).toInt ≤ 33554432 := by
  have hr := fAdd hv fHalf (lo := -1099511595008) (hi := 1099511660544) (by decide) (by decide) (by decide) (by decide)
  have := fWhole hr (by decide) (by decide)
  omega
theorem by_in {a b : Nat} (ha : a < 25) (hb : b ≤ 24) {t : UInt64} (ht : fIv (-23855) 23855 t) {v : UInt64} (hv : v = FP.dsub (midF a) (FP.i2d (nI b)) ∨ v = FP.dsub (FP.i2d (nI b)) (midF a)) {d : Int32} (hd : d = 1 ∨ d = -1) :
    -(2 ^ 30) ≤ (d * wholeF (FP.dmul v t)).toInt ∧ (d * wholeF (FP.dmul v t)).toInt ≤ 2 ^ 30 := by
  have f1 : fIv (-4194304) 4194304 v := by
    have m := fMid a ha
    have n := fIvN hb (by decide)
    rcases hv with rfl | rfl
    · exact (fSub m n rfl rfl (by decide) (by decide)).weak (by decide) (by decide) (by decide) (by decide)
    · exact (fSub n m rfl rfl (by decide) (by decide)).weak (by decide) (by decide) (by decide) (by decide)
  have f2 := whole_in ((fIv.mul (n := 4194304) (m := 23855) (k := 2097152) f1 ht (by decide) (by decide)).weak (by decide) (by decide) (by decide) (by decide))
  generalize wholeF (FP.dmul v t) = W at *
  have e1 : (1 : Int32).toInt = 1 := rfl
  have e2 : (-1 : Int32).toInt = -1 := rfl
  rcases hd with rfl | rfl
  · rw [fb_mulI (by rw [e1]; omega) (by rw [e1]; omega), e1]; omega
  · rw [fb_mulI (by rw [e2]; omega) (by rw [e2]; omega), e2]; omega
theorem fAT {a : Int32} (h1 : -2000 ≤ a.toInt) (h2 : a.toInt ≤ 2000) : fIv (-23855) 23855 (angT a) := by
  have f0 := fIv.i2d_in (k := 2000) h1 h2 (by decide)
  have f2 : fIv 131072 131072 4611686018427387904 := by unfold fIv; decide +kernel
  have f3 := fIv.div (n := 131072000) (L := 131072) (k := 65536000) f0 f2 (by decide) (by decide) (by decide)
  exact fSlope (f3.weak (by decide) (by decide) (by decide) (by decide))
theorem fAS {a : Int32} (h1 : -2000 ≤ a.toInt) (h2 : a.toInt ≤ 2000) : fIv (-23855) 23855 (angS a) :=
  (fSine (fIv.i2d_in (k := 2000) h1 h2 (by decide))).weak (by decide) (by decide) (by decide) (by decide)
/-! the reference's passes, place by place -/
theorem uB_at (N : Nat → Bool) (i : Nat) (v : Bool) : uB N i v i = v := if_pos rfl
theorem uB_ne (N : Nat → Bool) {i j : Nat} (v : Bool) (h : j ≠ i) : uB N i v j = N j := if_neg h
section TRN
variable {w h : Nat} {B O : Nat → Int32} {P N : Nat → Bool}
theorem srX_in (hw : w ≤ 24) (P : Nat → Bool) (by_ : Int32) (b1 : -(2 ^ 30) ≤ by_.toInt) (b2 : by_.toInt ≤ 2 ^ 30) (y : Nat) (N : Nat → Bool) : ∀ n, n ≤ w → (∀ x, x < n → srX w P by_ y N n (24 * y + rot w (wiN by_ w) x) = P (24 * y + x)) ∧ ∀ i, (∀ x, x < n → i ≠ 24 * y + rot w (wiN by_ w) x) → srX w P by_ y N n i = N i
  | 0, _ => ⟨fun x hx => absurd hx (Nat.not_lt_zero x), fun _ _ => rfl⟩
  | n + 1, hn => by
    obtain ⟨i1, i2⟩ := srX_in hw P by_ b1 b2 y N n (by omega)
    have hk := (wiN_eq by_ (w := w) (by omega) hw).2
    have e : srX w P by_ y N (n + 1) = uB (srX w P by_ y N n) (24 * y + rot w (wiN by_ w) n) (P (24 * y + n)) := by
      show uB _ _ _ = _
      rw [wi_rot by_ hw (by omega) b1 b2]
    rw [e]
    constructor
    · intro x hx
      by_cases c : x = n
      · subst c; exact uB_at _ _ _
      · rw [uB_ne _ _ (fun q => c (rot_inj hk (by omega) (by omega) (by omega)))]
        exact i1 x (by omega)
    · intro i hi
      rw [uB_ne _ _ (hi n (by omega))]
      exact i2 i (fun x hx => hi x (by omega))
theorem srY_in (hw : w ≤ 24) (h0 : 0 < w) (P : Nat → Bool) (t : UInt64) (sg : Int32) (hb : ∀ y, y < h → -(2 ^ 30) ≤ (byR h t sg y).toInt ∧ (byR h t sg y).toInt ≤ 2 ^ 30) (N : Nat → Bool) : ∀ n, n ≤ h → (∀ y, y < n → ∀ x, x < w → srY w h P t sg N n (24 * y + rot w (wiN (byR h t sg y) w) x) = P (24 * y + x)) ∧ ∀ y x, x < 24 → (n ≤ y ∨ w ≤ x) → srY w h P t sg N n (24 * y + x) = N (24 * y + x)
  | 0, _ => ⟨fun x hx => absurd hx (Nat.not_lt_zero x), fun _ _ _ _ => rfl⟩
  | n + 1, hn => by
    obtain ⟨i1, i2⟩ := srY_in hw h0 P t sg hb N n (by omega)
    obtain ⟨b1, b2⟩ := hb n (by omega)
    obtain ⟨j1, j2⟩ := srX_in hw P (byR h t sg n) b1 b2 n (srY w h P t sg N n) w (Nat.le_refl w)
    have hk : ∀ y, wiN (byR h t sg y) w < w := fun y => (wiN_eq _ (w := w) h0 hw).2
    constructor
    · intro y hy x hx
      by_cases c : y = n
      · subst c; exact j1 x hx
      · show srX w P (byR h t sg n) n (srY w h P t sg N n) w _ = _
        have hl := rot_lt (hk y) hx
        rw [j2 _ (fun x' hx' => by have := rot_lt (hk n) hx'; omega)]
        exact i1 y (by omega) x hx
    · intro y x hx hc
      show srX w P (byR h t sg n) n (srY w h P t sg N n) w _ = _
      rw [j2 _ (fun x' hx' => by have := rot_lt (hk n) hx'; omega)]
      exact i2 y x hx (by omega)
theorem Rl.shR (hR : Rl w h B P) (hw : w ≤ 24) (hh : h ≤ 24) (h0 : 0 < w) {t : UInt64} (ht : fIv (-23855) 23855 t) {d : Int32} (hd : d = 1 ∨ d = -1) (N : Nat → Bool) : Rl w h (shrR w h t d B) (srP w h t d P N) := by
  have hb : ∀ y, y < h → -(2 ^ 30) ≤ (byR h t d y).toInt ∧ (byR h t d y).toInt ≤ 2 ^ 30 := fun y hy => by
    unfold byR
    exact by_in (a := h) (b := y) (by omega) (by omega) ht (Or.inl rfl) hd
  obtain ⟨i1, i2⟩ := srY_in (h := h) hw h0 P t d hb (fgN N) h (Nat.le_refl h)
  have eF : ∀ k, k < 576 → fgN N k = false := fun k hk => if_pos hk
  have eP : ∀ k, k < 576 → srP w h t d P N k = srY w h P t d (fgN N) h k := fun k hk => if_pos hk
  have eB : ∀ y, y < h → shrR w h t d B y = movF w (B y) (byR h t d y) := fun y hy => if_pos hy
  have eO : ∀ y, h ≤ y → shrR w h t d B y = B y := fun y hy => if_neg (by omega)
  refine ⟨fun y hy x hx => ?_, fun y hy x hx => ?_, fun y hy hy2 x => ?_⟩
  · rw [eP _ (by omega)]
    rcases Nat.lt_or_ge y h with q | q
    · obtain ⟨m1, m2⟩ := bt_mov (b := byR h t d y) hw h0 (hR.2.1 y hy)
      have hk := (wiN_eq (byR h t d y) (w := w) h0 hw).2
      rw [eB y q]
      rcases Nat.lt_or_ge x w with z | z
      · obtain ⟨j, hj, ej⟩ := rot_sur hk z
        rw [← ej, i1 y q j hj, m1 j hj]
        exact hR.1 y hy j (by omega)
      · rw [i2 y x hx (Or.inr z), eF _ (by omega), m2 x z]
    · rw [i2 y x hx (Or.inl q), eF _ (by omega), eO y q, hR.2.2 y q hy x]
  · rcases Nat.lt_or_ge y h with q | q
    · rw [eB y q]; exact (bt_mov (b := byR h t d y) hw h0 (hR.2.1 y hy)).2 x hx
    · rw [eO y q]; exact hR.2.1 y hy x hx
  · rw [eO y hy]; exact hR.2.2 y hy hy2 x
/-! columns -/
theorem scY_in (hh : h ≤ 24) (P : Nat → Bool) (by_ : Int32) (b1 : -(2 ^ 30) ≤ by_.toInt) (b2 : by_.toInt ≤ 2 ^ 30) (x : Nat) (N : Nat → Bool) : ∀ n, n ≤ h → (∀ y, y < n → scY h P by_ x N n (24 * rot h (wiN by_ h) y + x) = P (24 * y + x)) ∧ ∀ i, (∀ y, y < n → i ≠ 24 * rot h (wiN by_ h) y + x) → scY h P by_ x N n i = N i
  | 0, _ => ⟨fun x hx => absurd hx (Nat.not_lt_zero x), fun _ _ => rfl⟩
  | n + 1, hn => by
    obtain ⟨i1, i2⟩ := scY_in hh P by_ b1 b2 x N n (by omega)
    have hk := (wiN_eq by_ (w := h) (by omega) hh).2
    have e : scY h P by_ x N (n + 1) = uB (scY h P by_ x N n) (24 * rot h (wiN by_ h) n + x) (P (24 * n + x)) := by
      show uB _ _ _ = _
      rw [wi_rot by_ hh (by omega) b1 b2]
    rw [e]
    constructor
    · intro y hy
      by_cases c : y = n
      · subst c; exact uB_at _ _ _
      · rw [uB_ne _ _ (fun q => c (rot_inj hk (by omega) (by omega) (by omega)))]
        exact i1 y (by omega)
    · intro i hi
      rw [uB_ne _ _ (hi n (by omega))]
      exact i2 i (fun x hx => hi x (by omega))
theorem scX_in (hh : h ≤ 24) (hw : w ≤ 24) (h0 : 0 < h) (P : Nat → Bool) (t : UInt64) (sg : Int32) (hb : ∀ x, x < w → -(2 ^ 30) ≤ (byC w t sg x).toInt ∧ (byC w t sg x).toInt ≤ 2 ^ 30) (N : Nat → Bool) : ∀ n, n ≤ w → (∀ x, x < n → ∀ y, y < h → scX w h P t sg N n (24 * rot h (wiN (byC w t sg x) h) y + x) = P (24 * y + x)) ∧ ∀ y x, x < 24 → (n ≤ x ∨ h ≤ y) → scX w h P t sg N n (24 * y + x) = N (24 * y + x)
  | 0, _ => ⟨fun x hx => absurd hx (Nat.not_lt_zero x), fun _ _ _ _ => rfl⟩
  | n + 1, hn => by
    obtain ⟨i1, i2⟩ := scX_in hh hw h0 P t sg hb N n (by omega)
    obtain ⟨b1, b2⟩ := hb n (by omega)
    obtain ⟨j1, j2⟩ := scY_in hh P (byC w t sg n) b1 b2 n (scX w h P t sg N n) h (Nat.le_refl h)
    have hk : ∀ x, wiN (byC w t sg x) h < h := fun y => (wiN_eq _ (w := h) h0 hh).2
    constructor
    · intro x hx y hy
      by_cases c : x = n
      · subst c; exact j1 y hy
      · show scY h P (byC w t sg n) n (scX w h P t sg N n) h _ = _
        rw [j2 _ (fun y' hy' => by omega)]
        exact i1 x (by omega) y hy
    · intro y x hx hc
      show scY h P (byC w t sg n) n (scX w h P t sg N n) h _ = _
      rw [j2 _ (fun y' hy' => by have := rot_lt (hk n) hy'; omega)]
      exact i2 y x hx (by omega)
theorem bt_pow : ∀ x, x < 24 → ∀ i, i < 32 → bt (1 <<< (nI x &&& 31)) i = decide (i = x) := by decide +kernel
theorem colN_in (hh : h ≤ 24) (O : Nat → Int32) {x : Nat} (hx : x < 24) (dn : Int32) (b1 : -(2 ^ 30) ≤ dn.toInt) (b2 : dn.toInt ≤ 2 ^ 30) (B : Nat → Int32) : ∀ n, n ≤ h →
    (∀ y, y < n → bt (colN h O x dn B n (rot h (wiN dn h) y)) x = (bt (B (rot h (wiN dn h) y)) x || bt (O y) x)) ∧ (∀ z, (∀ y, y < n → z ≠ rot h (wiN dn h) y) → bt (colN h O x dn B n z) x = bt (B z) x) ∧ (∀ z i, i ≠ x → bt (colN h O x dn B n z) i = bt (B z) i)
  | 0, _ => ⟨fun x hx => absurd hx (Nat.not_lt_zero x), fun _ _ => rfl, fun _ _ _ => rfl⟩
  | n + 1, hn => by
    obtain ⟨i1, i2, i3⟩ := colN_in hh O hx dn b1 b2 B n (by omega)
    have hk := (wiN_eq dn (w := h) (by omega) hh).2
    have hl := rot_lt hk (j := n) (by omega)
    have e : colN h O x dn B (n + 1) = upd (colN h O x dn B n) (rot h (wiN dn h) n) (colN h O x dn B n (rot h (wiN dn h) n) ||| (O n &&& (1 <<< (nI x &&& 31)))) := by
      show setF _ _ _ = _
      rw [wrap_wi _ (by omega) hh, wi_rot dn hh (by omega) b1 b2, setF_nI _ _ (by omega), rowF_nI _ (by omega), rowF_nI O (by omega)]
    have q1 : ∀ z, z ≠ rot h (wiN dn h) n → colN h O x dn B (n + 1) z = colN h O x dn B n z := fun z hz => by rw [e]; exact if_neg hz
    have q2 : ∀ i, i < 32 → bt (colN h O x dn B (n + 1) (rot h (wiN dn h) n)) i = (bt (colN h O x dn B n (rot h (wiN dn h) n)) i || (bt (O n) i && decide (i = x))) := fun i hi => by
      rw [e]
      show bt (upd _ _ _ _) i = _
      unfold upd
      rw [if_pos rfl, b_or, b_and, bt_pow x hx i hi]
    refine ⟨fun y hy => ?_, fun z hz => ?_, fun z i hi => ?_⟩
    · by_cases c : y = n
      · subst c
        rw [q2 x (by omega), i2 _ (fun y' hy' q => by have := rot_inj hk (by omega) (by omega) q; omega), decide_eq_true rfl, Bool.and_true]
      · rw [q1 _ (fun q => c (rot_inj hk (by omega) (by omega) q))]
        exact i1 y (by omega)
    · rw [q1 z (hz n (by omega))]
      exact i2 z (fun y hy => hz y (by omega))
    · by_cases c : z = rot h (wiN dn h) n
      · rcases Nat.lt_or_ge i 32 with q | q
        · rw [c, q2 i q, decide_eq_false hi, Bool.and_false, Bool.or_false]
          exact i3 _ i hi
        · rw [b_big q, b_big q]
      · rw [q1 z c]; exact i3 z i hi
theorem colsN_in (hh : h ≤ 24) (hw : w ≤ 24) (h0 : 0 < h) (O : Nat → Int32) (s : UInt64) (d : Int32) (hb : ∀ x, x < w → -(2 ^ 30) ≤ (byC w s d x).toInt ∧ (byC w s d x).toInt ≤ 2 ^ 30) (B : Nat → Int32) : ∀ n, n ≤ w →
    (∀ x, x < n → ∀ y, y < h → bt (colsN w h O s d B n (rot h (wiN (byC w s d x) h) y)) x = (bt (B (rot h (wiN (byC w s d x) h) y)) x || bt (O y) x)) ∧ (∀ z x, (n ≤ x ∨ h ≤ z) → bt (colsN w h O s d B n z) x = bt (B z) x)
  | 0, _ => ⟨fun x hx => absurd hx (Nat.not_lt_zero x), fun _ _ _ => rfl⟩
  | n + 1, hn => by
    obtain ⟨i1, i2⟩ := colsN_in hh hw h0 O s d hb B n (by omega)
    obtain ⟨b1, b2⟩ := hb n (by omega)
    obtain ⟨j1, j2, j3⟩ := colN_in hh O (x := n) (by omega) (byC w s d n) b1 b2 (colsN w h O s d B n) h (Nat.le_refl h)
    have hk : wiN (byC w s d n) h < h := (wiN_eq _ (w := h) h0 hh).2
    constructor
    · intro x hx y hy
      by_cases c : x = n
      · subst c
        show bt (colN h O x (byC w s d x) (colsN w h O s d B x) h _) x = _
        rw [j1 y hy, i2 _ x (Or.inl (Nat.le_refl x))]
      · show bt (colN h O n (byC w s d n) (colsN w h O s d B n) h _) x = _
        rw [j3 _ x c]
        exact i1 x (by omega) y hy
    · intro z x hc
      show bt (colN h O n (byC w s d n) (colsN w h O s d B n) h _) x = _
      by_cases c : x = n
      · subst c
        rw [j2 z (fun y hy q => by have := rot_lt hk hy; omega)]
        exact i2 z x (by omega)
      · rw [j3 z x c]
        exact i2 z x (by omega)
theorem Rl.shC (hR : Rl w h B P) (hw : w ≤ 24) (hh : h ≤ 24) (h0 : 0 < h) {s : UInt64} (hs : fIv (-23855) 23855 s) {d : Int32} (hd : d = 1 ∨ d = -1) (O : Nat → Int32) (N : Nat → Bool) : Rl w h (shrC w h s d B O) (scP w h s d P N) := by
  have hb : ∀ x, x < w → -(2 ^ 30) ≤ (byC w s d x).toInt ∧ (byC w s d x).toInt ≤ 2 ^ 30 := fun x hx => by
    unfold byC
    exact by_in (a := w) (b := x) (by omega) (by omega) hs (Or.inr rfl) hd
  obtain ⟨i1, i2⟩ := scX_in (w := w) hh hw h0 P s d hb (fgN N) w (Nat.le_refl w)
  obtain ⟨c1, c2⟩ := colsN_in (w := w) hh hw h0 (keepN B O) s d hb (wipeN B h) w (Nat.le_refl w)
  have eF : ∀ k, k < 576 → fgN N k = false := fun k hk => if_pos hk
  have eP : ∀ k, k < 576 → scP w h s d P N k = scX w h P s d (fgN N) w k := fun k hk => if_pos hk
  have eW : ∀ y, y < 24 → ∀ x, bt (wipeN B h y) x = false := fun y hy x => by
    unfold wipeN mapN
    by_cases c : y < h
    · rw [if_pos c]; exact b_0 x
    · rw [if_neg c]; exact hR.2.2 y (by omega) hy x
  have eK : ∀ y, y < 24 → keepN B O y = B y := fun y hy => if_pos hy
  refine ⟨fun y hy x hx => ?_, fun y hy x hx => ?_, fun y hy hy2 x => ?_⟩
  · rw [eP _ (by omega)]
    show _ = bt (colsN w h (keepN B O) s d (wipeN B h) w y) x
    rcases Nat.lt_or_ge x w with z | z
    · rcases Nat.lt_or_ge y h with q | q
      · have hk := (wiN_eq (byC w s d x) (w := h) h0 hh).2
        obtain ⟨j, hj, ej⟩ := rot_sur hk q
        rw [← ej, i1 x z j hj, c1 x z j hj, ej, eW y hy x, Bool.false_or, eK j (by omega)]
        exact hR.1 j (by omega) x hx
      · rw [i2 y x hx (Or.inr q), eF _ (by omega), c2 y x (Or.inr q), eW y hy x]
    · rw [i2 y x hx (Or.inl z), eF _ (by omega), c2 y x (Or.inl z), eW y hy x]
  · show bt (colsN w h (keepN B O) s d (wipeN B h) w y) x = false
    rw [c2 y x (Or.inl hx), eW y hy x]
  · show bt (colsN w h (keepN B O) s d (wipeN B h) w y) x = false
    rw [c2 y x (Or.inr hy), eW y hy2 x]
/-- three shears -/
theorem Rl.turn (hR : Rl w h B P) (hw : w ≤ 24) (hh : h ≤ 24) (hw0 : 0 < w) (hh0 : 0 < h) {a : Int32} (h1 : -2000 ≤ a.toInt) (h2 : a.toInt ≤ 2000) {d : Int32} (hd : d = 1 ∨ d = -1) (O : Nat → Int32) (N : Nat → Bool) : Rl w h (shrAB w h a d B O) (shP w h a d P N) :=
  ((hR.shR hw hh hw0 (fAT h1 h2) hd N).shC hw hh hh0 (fAS h1 h2) hd O _).shR hw hh hw0 (fAT h1 h2) hd _
/-! sampling -/
theorem saX_in (w h : Nat) (P : Nat → Bool) (s c : UInt64) (y : Nat) (N : Nat → Bool) : ∀ n, (∀ x, x < n → saX w h P s c y N n (24 * y + x) = mOnB w h P (frX w h s c x y) (frY w h s c x y)) ∧ ∀ i, (i < 24 * y ∨ 24 * y + n ≤ i) → saX w h P s c y N n i = N i
  | 0 => ⟨fun x hx => absurd hx (Nat.not_lt_zero x), fun _ _ => rfl⟩
  | n + 1 => by
    obtain ⟨i1, i2⟩ := saX_in w h P s c y N n
    constructor
    · intro x hx
      show uB (saX w h P s c y N n) (24 * y + n) _ _ = _
      by_cases e : x = n
      · subst e; exact uB_at _ _ _
      · rw [uB_ne _ _ (by omega)]; exact i1 x (by omega)
    · intro i hi
      show uB (saX w h P s c y N n) (24 * y + n) _ _ = _
      rw [uB_ne _ _ (by omega)]; exact i2 i (by omega)
theorem saY_in (hw : w ≤ 24) (P : Nat → Bool) (s c : UInt64) (N : Nat → Bool) : ∀ n, (∀ y, y < n → ∀ x, x < w → saY w h P s c N n (24 * y + x) = mOnB w h P (frX w h s c x y) (frY w h s c x y)) ∧ ∀ y x, x < 24 → (n ≤ y ∨ w ≤ x) → saY w h P s c N n (24 * y + x) = N (24 * y + x)
  | 0 => ⟨fun x hx => absurd hx (Nat.not_lt_zero x), fun _ _ _ _ => rfl⟩
  | n + 1 => by
    obtain ⟨i1, i2⟩ := saY_in hw P s c N n
    obtain ⟨j1, j2⟩ := saX_in w h P s c n (saY w h P s c N n) w
    constructor
    · intro y hy x hx
      show saX w h P s c n (saY w h P s c N n) w _ = _
      by_cases e : y = n
      · subst e; exact j1 x hx
      · rw [j2 _ (by omega)]; exact i1 y (by omega) x hx
    · intro y x hx hc
      show saX w h P s c n (saY w h P s c N n) w _ = _
      rw [j2 _ (by omega)]; exact i2 y x hx (by omega)
theorem smpB_on (hR : Rl w h B P) (hw : w ≤ 24) (hh : h ≤ 24) (O : Nat → Int32) (s c : UInt64) (x y : Nat) : smpB w h (keepN B O) s c x y = mOnB w h P (frX w h s c x y) (frY w h s c x y) := by
  rw [← hR.on hw hh]
  unfold smpB isOnB
  cases e : hasB w h (frX w h s c x y) (frY w h s c x y)
  · rfl
  · rw [if_neg (by decide), if_pos rfl]
    obtain ⟨a, b, ha, hb, e1, e2⟩ := (hasB_out hw hh).mp e
    rw [e1, e2, rowF_nI _ (by omega), rowF_nI B (by omega), show keepN B O b = B b from if_pos (by omega)]
theorem smpN_bt (w h : Nat) (hw : w ≤ 24) (O : Nat → Int32) (s c : UInt64) (y : Nat) : ∀ n, n ≤ w → ∀ i, i < 32 → bt (smpN w h O s c y n) i = (decide (i < n) && smpB w h O s c i y)
  | 0, _, i, _ => by rw [decide_eq_false (by omega), Bool.false_and]; exact b_0 i
  | n + 1, hn, i, hi => by
    have ih := smpN_bt w h hw O s c y n (by omega) i hi
    unfold smpN
    by_cases q : smpB w h O s c n y = true
    · rw [if_pos q, b_or, ih, bt_pow n (by omega) i hi]
      by_cases e : i = n
      · subst e; rw [decide_eq_true (p := i = i) rfl, decide_eq_true (p := i < i + 1) (by omega), q, Bool.or_true]; rfl
      · rw [decide_eq_false e, Bool.or_false]
        congr 1
        exact decide_eq_decide.mpr (by omega)
    · rw [if_neg q, ih]
      by_cases e : i = n
      · subst e
        have q : smpB w h O s c i y = false := by cases z : smpB w h O s c i y; rfl; exact absurd z q
        rw [q, Bool.and_false, Bool.and_false]
      · congr 1
        exact decide_eq_decide.mpr (by omega)
theorem Rl.smp (hR : Rl w h B P) (hw : w ≤ 24) (hh : h ≤ 24) (a : Int32) (O : Nat → Int32) (N : Nat → Bool) : Rl w h (smpR w h a B O) (saP w h a P N) := by
  obtain ⟨i1, i2⟩ := saY_in (h := h) hw P (angS a) (angC a) (fgN N) h
  have eF : ∀ k, k < 576 → fgN N k = false := fun k hk => if_pos hk
  have eP : ∀ k, k < 576 → saP w h a P N k = saY w h P (angS a) (angC a) (fgN N) h k := fun k hk => if_pos hk
  have eB : ∀ y, y < h → smpR w h a B O y = smpN w h (keepN B O) (angS a) (angC a) y w := fun y hy => if_pos hy
  have eO : ∀ y, h ≤ y → smpR w h a B O y = B y := fun y hy => if_neg (by omega)
  have eZ : ∀ y x, w ≤ x → bt (smpN w h (keepN B O) (angS a) (angC a) y w) x = false := fun y x hx => by
    rcases Nat.lt_or_ge x 32 with q | q
    · rw [smpN_bt w h hw _ _ _ _ w (Nat.le_refl w) x q, decide_eq_false (by omega), Bool.false_and]
    · exact b_big q
  refine ⟨fun y hy x hx => ?_, fun y hy x hx => ?_, fun y hy hy2 x => ?_⟩
  · rw [eP _ (by omega)]
    rcases Nat.lt_or_ge y h with q | q
    · rw [eB y q]
      rcases Nat.lt_or_ge x w with z | z
      · rw [i1 y q x z, smpN_bt w h hw _ _ _ _ w (Nat.le_refl w) x (by omega), decide_eq_true z, Bool.true_and, smpB_on hR hw hh]
      · rw [i2 y x hx (Or.inr z), eF _ (by omega), eZ y x z]
    · rw [i2 y x hx (Or.inl q), eF _ (by omega), eO y q, hR.2.2 y q hy x]
  · rcases Nat.lt_or_ge y h with q | q
    · rw [eB y q]; exact eZ y x hx
    · rw [eO y q]; exact hR.2.1 y hy x hx
  · rw [eO y hy]; exact hR.2.2 y hy hy2 x
end TRN
