/-! DOUBLES IN BOUNDS: Iv a b x: x is a number, a / 65536 ≤ x ≤ b / 65536 -/
def fIv (a b : Int) (x : UInt64) : Prop := Jvm.FP.Core.val64 x ≠ .nan ∧ a * (Jvm.FP.Core.one64 : Int) ≤ 65536 * Jvm.FP.Core.zval Jvm.FP.Core.b64 (Jvm.FP.Core.val64 x) ∧ 65536 * Jvm.FP.Core.zval Jvm.FP.Core.b64 (Jvm.FP.Core.val64 x) ≤ b * (Jvm.FP.Core.one64 : Int) ∧ a.natAbs < 2 ^ 53 ∧ b.natAbs < 2 ^ 53
theorem fOnePos : (0 : Int) < (Jvm.FP.Core.one64 : Int) := by have := Jvm.FP.Core.one64_pos; omega
theorem fTop : ((2 ^ 53 : Nat) : Int) * (Jvm.FP.Core.one64 : Int) < 65536 * ((Jvm.FP.Core.b64.tails * 2 ^ (Jvm.FP.Core.b64.exps - 2) : Nat) : Int) := by decide +kernel
theorem f16 : 65536 * 2 ^ 1058 = Jvm.FP.Core.one64 := by decide +kernel
/-- a whole number of 65536ths is a double -/
theorem fV (n : Int) (h : n.natAbs < 2 ^ 53) : ∃ V, Jvm.FP.Core.fits Jvm.FP.Core.b64 V ∧ V ≠ .nan ∧ 65536 * Jvm.FP.Core.zval Jvm.FP.Core.b64 V = n * (Jvm.FP.Core.one64 : Int) ∧ (0 ≤ n → 65536 * Jvm.FP.Core.zmag Jvm.FP.Core.b64 V = n.natAbs * Jvm.FP.Core.one64) := by
  obtain ⟨c', q', e1, e2⟩ := Jvm.FP.Core.round_exact Jvm.FP.Core.good_b64 (decide (n < 0)) (c := n.natAbs) (q := -16) h (by decide +kernel) (by decide +kernel)
  have e3 : Jvm.FP.Core.inUnits n.natAbs (-16) Jvm.FP.Core.b64.qmin = n.natAbs * 2 ^ 1058 := by
    unfold Jvm.FP.Core.inUnits
    rw [show ((-16 : Int) - Jvm.FP.Core.b64.qmin).toNat = 1058 by decide +kernel]
  have e4 : 65536 * Jvm.FP.Core.inUnits c' q' Jvm.FP.Core.b64.qmin = n.natAbs * Jvm.FP.Core.one64 := by
    rw [e2, e3, ← f16]
    generalize (2 : Nat) ^ 1058 = z
    rw [← Nat.mul_assoc, Nat.mul_comm 65536, Nat.mul_assoc]
  refine ⟨Jvm.FP.Core.round Jvm.FP.Core.b64 (.fin (decide (n < 0)) n.natAbs (-16)), Jvm.FP.Core.round_fits Jvm.FP.Core.good_b64 _, ?_, ?_, ?_⟩
  · rw [e1]; exact Jvm.FP.Core.Datum.noConfusion
  · exact (by
      rw [e1]
      show 65536 * Jvm.FP.Core.signed (decide (n < 0)) (Jvm.FP.Core.inUnits c' q' Jvm.FP.Core.b64.qmin) = _
      generalize Jvm.FP.Core.inUnits c' q' Jvm.FP.Core.b64.qmin = z at e4 ⊢
      generalize Jvm.FP.Core.one64 = o at e4 ⊢
      have e5 : (65536 : Int) * (z : Int) = (n.natAbs : Int) * (o : Int) := by
        have q := congrArg (fun k : Nat => (k : Int)) e4
        simp only [Int.natCast_mul] at q
        exact q
      by_cases hn : n < 0
      · have h1 : (n.natAbs : Int) = -n := by omega
        rw [h1] at e5
        simp only [hn, decide_true, Jvm.FP.Core.signed, if_true]
        rw [Int.mul_neg, e5, Int.neg_mul, Int.neg_neg]
      · have h1 : (n.natAbs : Int) = n := by omega
        rw [h1] at e5
        simp only [hn, decide_false, Jvm.FP.Core.signed]
        exact e5)
  · intro hn
    rw [e1]
    show 65536 * Jvm.FP.Core.inUnits c' q' Jvm.FP.Core.b64.qmin = _
    exact e4
theorem fIv.fin {a b : Int} {x : UInt64} (h : fIv a b x) : Jvm.FP.Core.DFin x := by
  obtain ⟨h1, h2, h3, h4, h5⟩ := h
  have ht := fTop
  have ho := fOnePos
  unfold Jvm.FP.Core.DFin
  cases hv : Jvm.FP.Core.val64 x with
  | nan => exact absurd hv h1
  | fin s c q => exact ⟨s, c, q, rfl⟩
  | inf s =>
    rw [hv] at h2 h3
    have e1 : Jvm.FP.Core.zval Jvm.FP.Core.b64 (.inf s) = Jvm.FP.Core.signed s (Jvm.FP.Core.b64.tails * 2 ^ (Jvm.FP.Core.b64.exps - 2)) := rfl
    rw [e1] at h2 h3
    generalize (Jvm.FP.Core.b64.tails * 2 ^ (Jvm.FP.Core.b64.exps - 2) : Nat) = z at *
    generalize (Jvm.FP.Core.one64 : Int) = o at *
    exfalso
    have hb : b * o ≤ ((2 ^ 53 : Nat) : Int) * o := Int.mul_le_mul_of_nonneg_right (by omega) (by omega)
    have ha : -((2 ^ 53 : Nat) : Int) * o ≤ a * o := Int.mul_le_mul_of_nonneg_right (by omega) (by omega)
    rw [Int.neg_mul] at ha
    cases s <;> simp only [Jvm.FP.Core.signed, if_true, Bool.false_eq_true, if_false] at h2 h3 <;> omega
theorem fIv.notNaN {a b : Int} {x : UInt64} (h : fIv a b x) : Jvm.FP.Core.dIsNaN x = false := h.fin.notNaN
theorem fIv.n64 {a b : Int} {x : UInt64} (h : fIv a b x) : vf_n64 x := by
  have h1 := (Jvm.FP.Core.ne_nan x).mp h.1
  unfold vf_n64
  rw [UInt64.le_iff_toNat_le, Jvm.FP.Core.mask_toNat]
  exact h1
theorem fIv.weak {a b a' b' : Int} {x : UInt64} (h : fIv a b x) (h1 : a' ≤ a) (h2 : b ≤ b') (h3 : a'.natAbs < 2 ^ 53) (h4 : b'.natAbs < 2 ^ 53) : fIv a' b' x := by
  have ho := fOnePos
  exact ⟨h.1, Int.le_trans (Int.mul_le_mul_of_nonneg_right h1 (by omega)) h.2.1, Int.le_trans h.2.2.1 (Int.mul_le_mul_of_nonneg_right h2 (by omega)), h3, h4⟩
theorem fSum {a b c d : Int} {X Y : Jvm.FP.Core.Datum} {r : UInt64} (fx : Jvm.FP.Core.fits Jvm.FP.Core.b64 X) (fy : Jvm.FP.Core.fits Jvm.FP.Core.b64 Y) (hX : ∃ s c q, X = .fin s c q) (hY : ∃ s c q, Y = .fin s c q) (hr : Jvm.FP.Core.val64 r = Jvm.FP.Core.round Jvm.FP.Core.b64 (Jvm.FP.Core.exactSum X Y))
    (x1 : a * (Jvm.FP.Core.one64 : Int) ≤ 65536 * Jvm.FP.Core.zval Jvm.FP.Core.b64 X) (x2 : 65536 * Jvm.FP.Core.zval Jvm.FP.Core.b64 X ≤ b * (Jvm.FP.Core.one64 : Int)) (y1 : c * (Jvm.FP.Core.one64 : Int) ≤ 65536 * Jvm.FP.Core.zval Jvm.FP.Core.b64 Y) (y2 : 65536 * Jvm.FP.Core.zval Jvm.FP.Core.b64 Y ≤ d * (Jvm.FP.Core.one64 : Int))
    (h1 : (a + c).natAbs < 2 ^ 53) (h2 : (b + d).natAbs < 2 ^ 53) : fIv (a + c) (b + d) r := by
  obtain ⟨V, v1, v2, v3, -⟩ := fV (a + c) h1
  obtain ⟨U, u1, u2, u3, -⟩ := fV (b + d) h2
  have g1 := Jvm.FP.Core.sum_ge Jvm.FP.Core.good_b64 hX hY fx fy v1 v2 (by rw [Int.add_mul] at v3; omega)
  have g2 := Jvm.FP.Core.sum_le Jvm.FP.Core.good_b64 hX hY fx fy u1 u2 (by rw [Int.add_mul] at u3; omega)
  rw [← hr] at g1 g2
  refine ⟨?_, by omega, by omega, h1, h2⟩
  rw [hr]
  obtain ⟨s, c, q, rfl⟩ := hX
  obtain ⟨t, d, z, rfl⟩ := hY
  exact Jvm.FP.Core.roundRatio_ne_nan _ _ _ _ _
theorem fIv.add {a b c d : Int} {x y : UInt64} (hx : fIv a b x) (hy : fIv c d y) (h1 : (a + c).natAbs < 2 ^ 53) (h2 : (b + d).natAbs < 2 ^ 53) : fIv (a + c) (b + d) (FP.dadd x y) :=
  fSum (Jvm.FP.Core.val64_fits x) (Jvm.FP.Core.val64_fits y) hx.fin hy.fin (Jvm.FP.Core.val64_dadd x y) hx.2.1 hx.2.2.1 hy.2.1 hy.2.2.1 h1 h2
theorem fIv.sub {a b c d : Int} {x y : UInt64} (hx : fIv a b x) (hy : fIv c d y) (h1 : (a + -d).natAbs < 2 ^ 53) (h2 : (b + -c).natAbs < 2 ^ 53) : fIv (a + -d) (b + -c) (FP.dsub x y) := by
  refine fSum (Jvm.FP.Core.val64_fits x) (Jvm.FP.Core.negate_fits (Jvm.FP.Core.val64_fits y)) hx.fin ?_ (Jvm.FP.Core.val64_dsub x y) hx.2.1 hx.2.2.1 ?_ ?_ h1 h2
  · obtain ⟨s, c, q, h⟩ := hy.fin
    exact ⟨!s, c, q, by rw [h]; rfl⟩
  · have := hy.2.2.1
    rw [Jvm.FP.Core.zval_negate, Int.neg_mul, Int.mul_neg]
    omega
  · have := hy.2.1
    rw [Jvm.FP.Core.zval_negate, Int.neg_mul, Int.mul_neg]
    omega
theorem fAbs {n : Int} {x : UInt64} (h : fIv (-n) n x) : 65536 * Jvm.FP.Core.zmag Jvm.FP.Core.b64 (Jvm.FP.Core.val64 x) ≤ n.natAbs * Jvm.FP.Core.one64 ∧ 0 ≤ n := by
  obtain ⟨-, h1, h2, -⟩ := h
  have ho := fOnePos
  unfold Jvm.FP.Core.zval at h1 h2
  generalize Jvm.FP.Core.sgn (Jvm.FP.Core.val64 x) = s at *
  generalize Jvm.FP.Core.zmag Jvm.FP.Core.b64 (Jvm.FP.Core.val64 x) = z at *
  generalize Jvm.FP.Core.one64 = o at *
  have hn : 0 ≤ n := by
    rcases Int.lt_or_le n 0 with q | q
    · have : n * (o : Int) < 0 := Int.mul_neg_of_neg_of_pos q ho
      rw [Int.neg_mul] at h1
      omega
    · exact q
  refine ⟨?_, hn⟩
  have e : (n.natAbs : Int) = n := by omega
  have : ((65536 * z : Nat) : Int) ≤ ((n.natAbs * o : Nat) : Int) := by
    rw [Int.natCast_mul, Int.natCast_mul, e]
    rw [Int.neg_mul] at h1
    cases s <;> simp only [Jvm.FP.Core.signed, if_true, Bool.false_eq_true, if_false] at h1 h2 <;> omega
  exact_mod_cast this
theorem fSigned (s : Bool) {z k : Nat} (h : z ≤ k) : -(k : Int) ≤ Jvm.FP.Core.signed s z ∧ Jvm.FP.Core.signed s z ≤ (k : Int) := by
  cases s <;> simp only [Jvm.FP.Core.signed, if_true, Bool.false_eq_true, if_false] <;> omega
theorem fIv.mul {n m k : Int} {x y : UInt64} (hx : fIv (-n) n x) (hy : fIv (-m) m y) (hk : n * m ≤ k * 65536) (h1 : k.natAbs < 2 ^ 53) : fIv (-k) k (FP.dmul x y) := by
  obtain ⟨ax, n0⟩ := fAbs hx
  obtain ⟨ay, m0⟩ := fAbs hy
  have k0 : 0 ≤ k := by have := Int.mul_nonneg n0 m0; omega
  obtain ⟨V, v1, v2, -, v3⟩ := fV k h1
  have v3 := v3 k0
  obtain ⟨s, c, q, e1⟩ := hx.fin
  obtain ⟨t, d, r, e2⟩ := hy.fin
  have fx := Jvm.FP.Core.val64_fits x
  have fy := Jvm.FP.Core.val64_fits y
  rw [e1] at ax fx
  rw [e2] at ay fy
  obtain ⟨p1, p2, p3⟩ := Jvm.FP.Core.product_units fx fy
  have hv : Jvm.FP.Core.val64 (FP.dmul x y) = Jvm.FP.Core.roundRatio Jvm.FP.Core.b64 (s != t) (c * d) 1 (q + r) := by
    have := Jvm.FP.Core.val64_dmul x y
    rw [e1, e2, p1] at this
    exact this
  have hle := Jvm.FP.Core.zmag_roundRatio_le Jvm.FP.Core.good_b64 (s := s != t) (A := c * d) (B := 1) (e := q + r) (e0 := 2 * Jvm.FP.Core.b64.qmin) (by decide) v1 v2 (by decide +kernel) p2 (by
    rw [p3, Nat.mul_one, show (Jvm.FP.Core.b64.qmin - 2 * Jvm.FP.Core.b64.qmin).toNat = (-Jvm.FP.Core.b64.qmin).toNat by decide +kernel, Jvm.FP.Core.pow_qmin64]
    generalize Jvm.FP.Core.zmag Jvm.FP.Core.b64 (.fin s c q) = zx at *
    generalize Jvm.FP.Core.zmag Jvm.FP.Core.b64 (.fin t d r) = zy at *
    generalize Jvm.FP.Core.zmag Jvm.FP.Core.b64 V = zv at *
    generalize Jvm.FP.Core.one64 = o at *
    have g1 := Nat.mul_le_mul ax ay
    have g2 : n.natAbs * m.natAbs ≤ k.natAbs * 65536 := by
      have : ((n.natAbs * m.natAbs : Nat) : Int) ≤ ((k.natAbs * 65536 : Nat) : Int) := by
        rw [Int.natCast_mul, Int.natCast_mul, show (n.natAbs : Int) = n by omega, show (m.natAbs : Int) = m by omega, show (k.natAbs : Int) = k by omega]
        exact hk
      exact_mod_cast this
    have g3 := Nat.mul_le_mul_right (o * o) g2
    have g4 : 65536 * (65536 * (zx * zy)) ≤ 65536 * (65536 * (zv * o)) := by
      calc 65536 * (65536 * (zx * zy)) = 65536 * zx * (65536 * zy) := by ac_rfl
        _ ≤ n.natAbs * o * (m.natAbs * o) := g1
        _ = n.natAbs * m.natAbs * (o * o) := by ac_rfl
        _ ≤ k.natAbs * 65536 * (o * o) := g3
        _ = 65536 * ((k.natAbs * o) * o) := by ac_rfl
        _ = 65536 * (65536 * (zv * o)) := by rw [← v3]; ac_rfl
    omega)
  rw [← hv] at hle
  refine ⟨?_, ?_, ?_, by rw [Int.natAbs_neg]; exact h1, h1⟩
  · rw [hv]; exact Jvm.FP.Core.roundRatio_ne_nan _ _ _ _ _
  all_goals
    unfold Jvm.FP.Core.zval
    have hs := fSigned (Jvm.FP.Core.sgn (Jvm.FP.Core.val64 (FP.dmul x y))) hle
    have v4 : (65536 : Int) * (Jvm.FP.Core.zmag Jvm.FP.Core.b64 V : Int) = k * (Jvm.FP.Core.one64 : Int) := by
      have : ((65536 * Jvm.FP.Core.zmag Jvm.FP.Core.b64 V : Nat) : Int) = ((k.natAbs * Jvm.FP.Core.one64 : Nat) : Int) := by rw [v3]
      rw [Int.natCast_mul, Int.natCast_mul, show (k.natAbs : Int) = k by omega] at this
      exact this
    try rw [Int.neg_mul]
    omega
theorem fIv.i2d (v : Int32) : fIv (65536 * v.toInt) (65536 * v.toInt) (FP.i2d v) := by
  have h := Jvm.FP.Core.DInt_zval (Jvm.FP.Core.i2d_int v)
  have h2 := Jvm.FP.Core.DInt_ne_nan (Jvm.FP.Core.i2d_int v)
  have h3 := Jvm.FP.Core.int32_abs v
  refine ⟨h2, ?_, ?_, by omega, by omega⟩
  · show _ ≤ 65536 * Jvm.FP.Core.zval Jvm.FP.Core.b64 (Jvm.FP.Core.val64 (Jvm.FP.Core.i2d v))
    rw [h, Int.mul_assoc]; exact Int.le_refl _
  · show 65536 * Jvm.FP.Core.zval Jvm.FP.Core.b64 (Jvm.FP.Core.val64 (Jvm.FP.Core.i2d v)) ≤ _
    rw [h, Int.mul_assoc]; exact Int.le_refl _
theorem fIv.div {n L M k : Int} {x y : UInt64} (hx : fIv (-n) n x) (hy : fIv L M y) (hL : 0 < L) (hk : n * 65536 ≤ k * L) (h1 : k.natAbs < 2 ^ 53) : fIv (-k) k (FP.ddiv x y) := by
  obtain ⟨ax, n0⟩ := fAbs hx
  have ho := fOnePos
  have k0 : 0 ≤ k := by
    rcases Int.lt_or_le k 0 with q | q
    · have := Int.mul_neg_of_neg_of_pos q hL
      omega
    · exact q
  obtain ⟨V, v1, v2, -, v3⟩ := fV k h1
  have v3 := v3 k0
  obtain ⟨s, c, q, e1⟩ := hx.fin
  obtain ⟨t, d, r, e2⟩ := hy.fin
  have fx := Jvm.FP.Core.val64_fits x
  have fy := Jvm.FP.Core.val64_fits y
  have y1 := hy.2.1
  rw [e1] at ax fx
  rw [e2] at y1 fy
  have ay : L.natAbs * Jvm.FP.Core.one64 ≤ 65536 * Jvm.FP.Core.zmag Jvm.FP.Core.b64 (.fin t d r) := by
    have e0 : Jvm.FP.Core.zval Jvm.FP.Core.b64 (.fin t d r) = Jvm.FP.Core.signed t (Jvm.FP.Core.zmag Jvm.FP.Core.b64 (.fin t d r)) := rfl
    rw [e0] at y1
    generalize Jvm.FP.Core.zmag Jvm.FP.Core.b64 (.fin t d r) = z at *
    generalize Jvm.FP.Core.one64 = o at *
    have e : (L.natAbs : Int) = L := by omega
    have h0 : 0 < L * (o : Int) := Int.mul_pos hL ho
    have : ((L.natAbs * o : Nat) : Int) ≤ ((65536 * z : Nat) : Int) := by
      rw [Int.natCast_mul, Int.natCast_mul, e]
      cases t <;> simp only [Jvm.FP.Core.signed, if_true, Bool.false_eq_true, if_false] at y1 <;> omega
    exact_mod_cast this
  have hd0 : d ≠ 0 := by
    rintro rfl
    have e0 : Jvm.FP.Core.zmag Jvm.FP.Core.b64 (.fin t 0 r) = 0 := by show Jvm.FP.Core.inUnits 0 r _ = 0; unfold Jvm.FP.Core.inUnits; exact Nat.zero_mul _
    rw [e0] at ay
    have h2 : 0 < L.natAbs := by omega
    have := Nat.mul_pos h2 Jvm.FP.Core.one64_pos
    omega
  have hv : Jvm.FP.Core.val64 (FP.ddiv x y) = Jvm.FP.Core.roundRatio Jvm.FP.Core.b64 (s != t) c d (q - r) := by
    have := Jvm.FP.Core.val64_ddiv x y
    rw [e1, e2] at this
    rw [show Jvm.FP.Core.val64 (FP.ddiv x y) = Jvm.FP.Core.quotient Jvm.FP.Core.b64 (.fin s c q) (.fin t d r) from this]
    show (if d = 0 then _ else _) = _
    rw [if_neg hd0]
  have hq := fx.2.1
  have hr := fy.2.1
  have hq0 : Jvm.FP.Core.b64.qmin = -1074 := Jvm.FP.Core.qmin_b64
  have hle := Jvm.FP.Core.zmag_roundRatio_le Jvm.FP.Core.good_b64 (s := s != t) (A := c) (B := d) (e := q - r) (e0 := 2 * Jvm.FP.Core.b64.qmin - r) (Nat.pos_of_ne_zero hd0) v1 v2 (by omega) (by omega) (by
    have z1 : Jvm.FP.Core.inUnits c (q - r) (2 * Jvm.FP.Core.b64.qmin - r) = Jvm.FP.Core.zmag Jvm.FP.Core.b64 (.fin s c q) * Jvm.FP.Core.one64 := by
      show _ = Jvm.FP.Core.inUnits c q Jvm.FP.Core.b64.qmin * _
      unfold Jvm.FP.Core.inUnits
      rw [← Jvm.FP.Core.pow_qmin64, Nat.mul_assoc, ← Nat.pow_add]
      congr 2
      omega
    have z2 : 2 ^ (Jvm.FP.Core.b64.qmin - (2 * Jvm.FP.Core.b64.qmin - r)).toNat * d = Jvm.FP.Core.zmag Jvm.FP.Core.b64 (.fin t d r) := by
      show _ = Jvm.FP.Core.inUnits d r Jvm.FP.Core.b64.qmin
      unfold Jvm.FP.Core.inUnits
      rw [Nat.mul_comm]
      congr 2
      omega
    rw [z1, Nat.mul_assoc, z2]
    generalize Jvm.FP.Core.zmag Jvm.FP.Core.b64 (.fin s c q) = zx at *
    generalize Jvm.FP.Core.zmag Jvm.FP.Core.b64 (.fin t d r) = zy at *
    generalize Jvm.FP.Core.zmag Jvm.FP.Core.b64 V = zv at *
    generalize Jvm.FP.Core.one64 = o at *
    have g2 : n.natAbs * 65536 ≤ k.natAbs * L.natAbs := by
      have : ((n.natAbs * 65536 : Nat) : Int) ≤ ((k.natAbs * L.natAbs : Nat) : Int) := by
        rw [Int.natCast_mul, Int.natCast_mul, show (n.natAbs : Int) = n by omega, show (L.natAbs : Int) = L by omega, show (k.natAbs : Int) = k by omega]
        exact hk
      exact_mod_cast this
    have g4 : 65536 * (65536 * (zx * o)) ≤ 65536 * (65536 * (zv * zy)) := by
      calc 65536 * (65536 * (zx * o)) = 65536 * (65536 * zx * o) := by ac_rfl
        _ ≤ 65536 * (n.natAbs * o * o) := Nat.mul_le_mul_left _ (Nat.mul_le_mul_right _ ax)
        _ = n.natAbs * 65536 * (o * o) := by ac_rfl
        _ ≤ k.natAbs * L.natAbs * (o * o) := Nat.mul_le_mul_right _ g2
        _ = k.natAbs * o * (L.natAbs * o) := by ac_rfl
        _ ≤ k.natAbs * o * (65536 * zy) := Nat.mul_le_mul_left _ ay
        _ = 65536 * (65536 * (zv * zy)) := by rw [← v3]; ac_rfl
    omega)
  rw [← hv] at hle
  refine ⟨?_, ?_, ?_, by rw [Int.natAbs_neg]; exact h1, h1⟩
  · rw [hv]; exact Jvm.FP.Core.roundRatio_ne_nan _ _ _ _ _
  all_goals
    unfold Jvm.FP.Core.zval
    have hs := fSigned (Jvm.FP.Core.sgn (Jvm.FP.Core.val64 (FP.ddiv x y))) hle
    have v4 : (65536 : Int) * (Jvm.FP.Core.zmag Jvm.FP.Core.b64 V : Int) = k * (Jvm.FP.Core.one64 : Int) := by
      have : ((65536 * Jvm.FP.Core.zmag Jvm.FP.Core.b64 V : Nat) : Int) = ((k.natAbs * Jvm.FP.Core.one64 : Nat) : Int) := by rw [v3]
      rw [Int.natCast_mul, Int.natCast_mul, show (k.natAbs : Int) = k by omega] at this
      exact this
    try rw [Int.neg_mul]
    omega
def wholeF (v : UInt64) : Int32 := if Op.cmpValue (FP.dcmp (FP.i2d (FP.d2i (FP.dadd v 4602678819172646912))) (FP.dadd v 4602678819172646912)) .l ≤ 0 then FP.d2i (FP.dadd v 4602678819172646912) else FP.d2i (FP.dadd v 4602678819172646912) - 1
theorem fHalf : fIv 32768 32768 4602678819172646912 := by unfold fIv; decide +kernel
theorem fIvN {i k : Nat} (h : i ≤ k) (hk : k < 2 ^ 31) : fIv 0 (65536 * (k : Int)) (FP.i2d (nI i)) := by
  have h1 := fIv.i2d (nI i)
  rw [nI_toInt (by omega)] at h1
  exact h1.weak (by omega) (by omega) (by decide) (by omega)
theorem fIv.i2d_in {v : Int32} {k : Int} (h1 : -k ≤ v.toInt) (h2 : v.toInt ≤ k) (hk : k < 2 ^ 31) : fIv (-(65536 * k)) (65536 * k) (FP.i2d v) :=
  (fIv.i2d v).weak (by omega) (by omega) (by omega) (by omega)
theorem cmpL_le (a b : Int) : Op.cmpValue (some (compare a b)) .l ≤ 0 ↔ a ≤ b := by
  have h := Jvm.FP.Core.cmpInt_l_le (some (compare a b))
  rcases Int.lt_trichotomy a b with q | q | q
  · rw [(Jvm.FP.Core.compare_lt_iff a b).mpr q]; exact ⟨fun _ => by omega, fun _ => by decide⟩
  · rw [(Jvm.FP.Core.compare_eq_iff a b).mpr q]; exact ⟨fun _ => by omega, fun _ => by decide⟩
  · rw [(Jvm.FP.Core.compare_gt_iff a b).mpr q]; exact ⟨fun z => absurd z (by decide), fun _ => by omega⟩
theorem cmpL_lt0 (a b : Int) : Op.cmpValue (some (compare a b)) .l < 0 ↔ a < b := by
  rcases Int.lt_trichotomy a b with q | q | q
  · rw [(Jvm.FP.Core.compare_lt_iff a b).mpr q]; exact ⟨fun _ => by omega, fun _ => by decide⟩
  · rw [(Jvm.FP.Core.compare_eq_iff a b).mpr q]; exact ⟨fun z => absurd z (by decide), fun _ => by omega⟩
  · rw [(Jvm.FP.Core.compare_gt_iff a b).mpr q]; exact ⟨fun z => absurd z (by decide), fun _ => by omega⟩
theorem cmpG_le (a b : Int) : Op.cmpValue (some (compare a b)) .g ≤ 0 ↔ a ≤ b := by
  rcases Int.lt_trichotomy a b with q | q | q
  · rw [(Jvm.FP.Core.compare_lt_iff a b).mpr q]; exact ⟨fun _ => by omega, fun _ => by decide⟩
  · rw [(Jvm.FP.Core.compare_eq_iff a b).mpr q]; exact ⟨fun _ => by omega, fun _ => by decide⟩
  · rw [(Jvm.FP.Core.compare_gt_iff a b).mpr q]; exact ⟨fun z => absurd z (by decide), fun _ => by omega⟩
theorem fWhole {v : UInt64} {lo hi : Int} (hr : fIv lo hi (FP.dadd v 4602678819172646912)) (h1 : -(2 ^ 46) < lo) (h2 : hi < 2 ^ 46) :
    lo < 65536 * ((wholeF v).toInt + 1) ∧ 65536 * (wholeF v).toInt ≤ hi := by
  have ho := fOnePos
  unfold wholeF
  generalize FP.dadd v 4602678819172646912 = r at *
  have hd := Jvm.FP.Core.d2i_val hr.1
  have hn2 := Jvm.FP.Core.DInt_ne_nan (Jvm.FP.Core.i2d_int (FP.d2i r))
  have hz2 := Jvm.FP.Core.DInt_zval (Jvm.FP.Core.i2d_int (FP.d2i r))
  have hc := Jvm.FP.Core.dcmp_zval hn2 hr.1
  rw [show FP.dcmp (FP.i2d (FP.d2i r)) r = Jvm.FP.Core.dcmp (Jvm.FP.Core.i2d (FP.d2i r)) r from rfl, hc, hz2]
  obtain ⟨-, g1, g2, -, -⟩ := hr
  rw [show FP.d2i r = Jvm.FP.Core.d2i r from rfl] at *
  generalize Jvm.FP.Core.d2i r = cut at *
  unfold Jvm.FP.Core.zval at *
  generalize Jvm.FP.Core.sgn (Jvm.FP.Core.val64 r) = s at *
  generalize Jvm.FP.Core.zmag Jvm.FP.Core.b64 (Jvm.FP.Core.val64 r) = z at *
  have hdiv := Nat.div_add_mod z Jvm.FP.Core.one64
  have hmod := Nat.mod_lt z Jvm.FP.Core.one64_pos
  generalize hq : z / Jvm.FP.Core.one64 = q at *
  generalize z % Jvm.FP.Core.one64 = t at *
  generalize Jvm.FP.Core.one64 = o at *
  have hzi : (z : Int) = (o : Int) * (q : Int) + (t : Int) := by
    rw [← Int.natCast_mul, ← Int.natCast_add, hdiv]
  have hq30 : (q : Int) ≤ 2 ^ 30 := by
    rcases Int.lt_or_le (2 ^ 30 : Int) (q : Int) with w | w
    · exfalso
      have e1 : (2 ^ 30 : Int) * (o : Int) ≤ (q : Int) * (o : Int) := Int.mul_le_mul_of_nonneg_right (by omega) (by omega)
      have e2 : hi * (o : Int) ≤ 2 ^ 46 * (o : Int) := Int.mul_le_mul_of_nonneg_right (by omega) (by omega)
      have e3 : -(2 ^ 46) * (o : Int) ≤ lo * (o : Int) := Int.mul_le_mul_of_nonneg_right (by omega) (by omega)
      have e4 : (2 ^ 30 + 1 : Int) * (o : Int) ≤ (q : Int) * (o : Int) := Int.mul_le_mul_of_nonneg_right (by omega) (by omega)
      rw [Int.mul_comm (o : Int) (q : Int)] at hzi
      cases s <;> simp only [Jvm.FP.Core.signed, if_true, Bool.false_eq_true, if_false] at g1 g2 <;> omega
    · exact w
  have hcut : cut.toInt = Jvm.FP.Core.signed s q := by
    rw [hd]
    cases s <;> simp only [Jvm.FP.Core.signed, if_true, Bool.false_eq_true, if_false] <;> omega
  have hsub : (cut - 1).toInt = cut.toInt - 1 := by
    rw [Int32.toInt_sub, show (1 : Int32).toInt = 1 from rfl]
    rw [hcut]
    have : -2 ^ 31 ≤ Jvm.FP.Core.signed s q - 1 ∧ Jvm.FP.Core.signed s q - 1 < 2 ^ 31 := by
      cases s <;> simp only [Jvm.FP.Core.signed, if_true, Bool.false_eq_true, if_false] <;> omega
    exact Int.bmod_eq_of_le (by omega) (by omega)
  have key : ∃ w : Int, (if Op.cmpValue (some (compare (cut.toInt * (o : Int)) (Jvm.FP.Core.signed s z))) .l ≤ 0 then cut else cut - 1).toInt = w ∧ w * (o : Int) ≤ Jvm.FP.Core.signed s z ∧ Jvm.FP.Core.signed s z < (w + 1) * (o : Int) := by
    by_cases hle : cut.toInt * (o : Int) ≤ Jvm.FP.Core.signed s z
    · rw [if_pos ((cmpL_le _ _).mpr hle)]
      refine ⟨_, rfl, hle, ?_⟩
      rw [Int.add_mul, Int.one_mul, hcut]
      rw [hcut] at hle
      cases s <;> simp only [Jvm.FP.Core.signed, if_true, Bool.false_eq_true, if_false] at hle ⊢
      · rw [Int.mul_comm (o : Int) (q : Int)] at hzi; omega
      · rw [Int.mul_comm (o : Int) (q : Int)] at hzi; rw [Int.neg_mul] at hle ⊢; omega
    · rw [if_neg (fun h => hle ((cmpL_le _ _).mp h))]
      refine ⟨_, rfl, ?_, ?_⟩
      · rw [hsub, Int.sub_mul, Int.one_mul, hcut]
        rw [hcut] at hle
        cases s <;> simp only [Jvm.FP.Core.signed, if_true, Bool.false_eq_true, if_false] at hle ⊢
        · rw [Int.mul_comm (o : Int) (q : Int)] at hzi; omega
        · rw [Int.mul_comm (o : Int) (q : Int)] at hzi; rw [Int.neg_mul] at hle ⊢; omega
      · rw [hsub, Int.sub_add_cancel]; omega
  obtain ⟨w, k1, k2, k3⟩ := key
  rw [k1]
  generalize Jvm.FP.Core.signed s z = y at *
  constructor
  · have : lo * (o : Int) < 65536 * (w + 1) * (o : Int) := by rw [Int.mul_assoc]; omega
    exact Int.lt_of_mul_lt_mul_right this (by omega)
  · have : 65536 * w * (o : Int) ≤ hi * (o : Int) := by rw [Int.mul_assoc]; omega
    exact Int.le_of_mul_le_mul_right this (by omega)
theorem fAdd {a b c d lo hi : Int} {x y : UInt64} (hx : fIv a b x) (hy : fIv c d y) (e1 : a + c = lo) (e2 : b + d = hi) (h1 : lo.natAbs < 2 ^ 53) (h2 : hi.natAbs < 2 ^ 53) : fIv lo hi (FP.dadd x y) := by
  subst e1 e2; exact hx.add hy h1 h2
theorem fSub {a b c d lo hi : Int} {x y : UInt64} (hx : fIv a b x) (hy : fIv c d y) (e1 : a - d = lo) (e2 : b - c = hi) (h1 : lo.natAbs < 2 ^ 53) (h2 : hi.natAbs < 2 ^ 53) : fIv lo hi (FP.dsub x y) := by
  subst e1 e2; exact hx.sub hy h1 h2
/-- a quotient by a whole number other than 0 -/
theorem fDivI {n : Int} {x : UInt64} (hx : fIv (-n) n x) (d : Int32) (hd : ¬ d = 0) (h1 : n.natAbs < 2 ^ 53) : fIv (-n) n (FP.ddiv x (FP.i2d d)) := by
  have hne : d.toInt ≠ 0 := fun h => hd (Int32.toInt.inj (by rw [h]; rfl))
  have hb := Jvm.FP.Core.int32_abs d
  rcases Int.lt_or_le 0 d.toInt with q | q
  · have hy := fIv.i2d d
    exact hx.div hy (by omega) (by
      have n0 := (fAbs hx).2
      have := Int.mul_le_mul_of_nonneg_left (show (65536 : Int) ≤ 65536 * d.toInt by omega) n0
      exact this) h1
  · have hy : fIv (65536 * (-d.toInt)) (65536 * (-d.toInt)) (Jvm.FP.Core.dneg (FP.i2d d)) := by
      have h := Jvm.FP.Core.DInt_zval (Jvm.FP.Core.i2d_int d)
      have h2 := Jvm.FP.Core.DInt_ne_nan (Jvm.FP.Core.i2d_int d)
      refine ⟨?_, ?_, ?_, by omega, by omega⟩
      · rw [Jvm.FP.Core.val64_dneg]; exact Jvm.FP.Core.negate_ne_nan h2
      · rw [Jvm.FP.Core.val64_dneg, Jvm.FP.Core.zval_negate]
        show _ ≤ 65536 * -Jvm.FP.Core.zval Jvm.FP.Core.b64 (Jvm.FP.Core.val64 (Jvm.FP.Core.i2d d))
        rw [h, ← Int.neg_mul, Int.mul_assoc]; exact Int.le_refl _
      · rw [Jvm.FP.Core.val64_dneg, Jvm.FP.Core.zval_negate]
        show 65536 * -Jvm.FP.Core.zval Jvm.FP.Core.b64 (Jvm.FP.Core.val64 (Jvm.FP.Core.i2d d)) ≤ _
        rw [h, ← Int.neg_mul, Int.mul_assoc]; exact Int.le_refl _
    have hz := hx.div hy (by omega) (by
      have n0 := (fAbs hx).2
      have := Int.mul_le_mul_of_nonneg_left (show (65536 : Int) ≤ 65536 * (-d.toInt) by omega) n0
      exact this) h1
    have e : Jvm.FP.Core.zmag Jvm.FP.Core.b64 (Jvm.FP.Core.val64 (FP.ddiv x (FP.i2d d))) = Jvm.FP.Core.zmag Jvm.FP.Core.b64 (Jvm.FP.Core.val64 (FP.ddiv x (Jvm.FP.Core.dneg (FP.i2d d)))) ∧ Jvm.FP.Core.val64 (FP.ddiv x (FP.i2d d)) ≠ .nan := by
      obtain ⟨s, c, q1, e1⟩ := hx.fin
      obtain ⟨t, u, r, e2⟩ := Jvm.FP.Core.i2d_fin d
      have hu : u ≠ 0 := by
        rintro rfl
        have h := Jvm.FP.Core.DInt_zval (Jvm.FP.Core.i2d_int d)
        rw [e2] at h
        have e0 : Jvm.FP.Core.zval Jvm.FP.Core.b64 (.fin t 0 r) = 0 := by
          show Jvm.FP.Core.signed t (Jvm.FP.Core.inUnits 0 r _) = 0
          unfold Jvm.FP.Core.inUnits
          rw [Nat.zero_mul]
          exact Jvm.FP.Core.signed_zero t
        rw [e0] at h
        rcases Int.mul_eq_zero.mp h.symm with z | z
        · exact hne z
        · have := fOnePos; omega
      have v1 : Jvm.FP.Core.val64 (FP.ddiv x (FP.i2d d)) = Jvm.FP.Core.roundRatio Jvm.FP.Core.b64 (s != t) c u (q1 - r) := by
        have := Jvm.FP.Core.val64_ddiv x (FP.i2d d)
        rw [e1, show Jvm.FP.Core.val64 (FP.i2d d) = .fin t u r from e2] at this
        refine this.trans ?_
        show (if u = 0 then _ else _) = _
        rw [if_neg hu]
      have v2 : Jvm.FP.Core.val64 (FP.ddiv x (Jvm.FP.Core.dneg (FP.i2d d))) = Jvm.FP.Core.roundRatio Jvm.FP.Core.b64 (s != !t) c u (q1 - r) := by
        have := Jvm.FP.Core.val64_ddiv x (Jvm.FP.Core.dneg (FP.i2d d))
        rw [e1, Jvm.FP.Core.val64_dneg, show Jvm.FP.Core.val64 (FP.i2d d) = .fin t u r from e2] at this
        refine this.trans ?_
        show (if u = 0 then _ else _) = _
        rw [if_neg hu]
      have e3 : (s != t) = !(s != !t) := by cases s <;> cases t <;> rfl
      refine ⟨?_, by rw [v1]; exact Jvm.FP.Core.roundRatio_ne_nan _ _ _ _ _⟩
      rw [v1, v2, e3, ← Jvm.FP.Core.negate_roundRatio]
      generalize Jvm.FP.Core.roundRatio Jvm.FP.Core.b64 (s != !t) c u (q1 - r) = w
      cases w <;> rfl
    have hm := fAbs hz
    rw [← e.1] at hm
    have n0 := hm.2
    refine ⟨e.2, ?_, ?_, by rw [Int.natAbs_neg]; exact h1, h1⟩
    all_goals
      unfold Jvm.FP.Core.zval
      have hs := fSigned (Jvm.FP.Core.sgn (Jvm.FP.Core.val64 (FP.ddiv x (FP.i2d d)))) (Nat.le_refl (Jvm.FP.Core.zmag Jvm.FP.Core.b64 (Jvm.FP.Core.val64 (FP.ddiv x (FP.i2d d)))))
      have hm1 : (65536 : Int) * (Jvm.FP.Core.zmag Jvm.FP.Core.b64 (Jvm.FP.Core.val64 (FP.ddiv x (FP.i2d d))) : Int) ≤ n * (Jvm.FP.Core.one64 : Int) := by
        have : ((65536 * Jvm.FP.Core.zmag Jvm.FP.Core.b64 (Jvm.FP.Core.val64 (FP.ddiv x (FP.i2d d))) : Nat) : Int) ≤ ((n.natAbs * Jvm.FP.Core.one64 : Nat) : Int) := Int.ofNat_le.mpr hm.1
        rw [Int.natCast_mul, Int.natCast_mul, show (n.natAbs : Int) = n by omega] at this
        exact this
      try rw [Int.neg_mul]
      omega
