/-! the search: the class's grid and steps are the reference's -/
theorem fDivPos {n L M k : Int} {x y : UInt64} (hx : fIv 0 n x) (hy : fIv L M y) (hL : 0 < L) (hk : n * 65536 ≤ k * L) (h1 : k.natAbs < 2 ^ 53) : fIv 0 k (FP.ddiv x y) := by
  have hn : 0 ≤ n := by
    obtain ⟨-, a, b, -⟩ := hx
    have ho := fOnePos
    rcases Int.lt_or_le n 0 with q | q
    · have := Int.mul_neg_of_neg_of_pos q ho
      omega
    · exact q
  have g := fIv.div (hx.weak (a' := -n) (b' := n) (by omega) (Int.le_refl _) (by rw [Int.natAbs_neg]; exact hx.2.2.2.2) hx.2.2.2.2) hy hL hk h1
  refine ⟨g.1, ?_, g.2.2.1, by decide, h1⟩
  rw [Int.zero_mul]
  obtain ⟨s, c, q, e1⟩ := hx.fin
  obtain ⟨t, d, r, e2⟩ := hy.fin
  have x1 := hx.2.1
  have y1 := hy.2.1
  have ho := fOnePos
  rw [Int.zero_mul] at x1
  by_cases hs : s = true
  · have g0 := fIv.div (n := 0) (k := 0) (x := x) ⟨hx.1, by rw [show -(0 : Int) = 0 from rfl, Int.zero_mul]; exact x1, by
      rw [Int.zero_mul, e1]
      have e0 : Jvm.FP.Core.zval Jvm.FP.Core.b64 (.fin s c q) = Jvm.FP.Core.signed s (Jvm.FP.Core.zmag Jvm.FP.Core.b64 (.fin s c q)) := rfl
      rw [e0, hs]
      simp only [Jvm.FP.Core.signed, if_true]
      omega, by decide, by decide⟩ hy hL (by omega) (by decide)
    have := g0.2.1
    rw [show -(0 : Int) = 0 from rfl, Int.zero_mul] at this
    exact this
  · have hs : s = false := by cases s; rfl; exact absurd rfl hs
    have hd0 : d ≠ 0 := by
      rintro rfl
      rw [e2] at y1
      have e0 : Jvm.FP.Core.zval Jvm.FP.Core.b64 (.fin t 0 r) = Jvm.FP.Core.signed t (Jvm.FP.Core.zmag Jvm.FP.Core.b64 (.fin t 0 r)) := rfl
      have e3 : Jvm.FP.Core.zmag Jvm.FP.Core.b64 (.fin t 0 r) = 0 := by show Jvm.FP.Core.inUnits 0 r _ = 0; unfold Jvm.FP.Core.inUnits; exact Nat.zero_mul _
      rw [e0, e3] at y1
      have h0 := Int.mul_pos hL ho
      cases t <;> simp only [Jvm.FP.Core.signed, if_true, Bool.false_eq_true, if_false] at y1 <;> omega
    have ht : t = false := by
      cases t
      · rfl
      · exfalso
        rw [e2] at y1
        have e0 : Jvm.FP.Core.zval Jvm.FP.Core.b64 (.fin true d r) = Jvm.FP.Core.signed true (Jvm.FP.Core.zmag Jvm.FP.Core.b64 (.fin true d r)) := rfl
        rw [e0] at y1
        have h0 := Int.mul_pos hL ho
        simp only [Jvm.FP.Core.signed, if_true] at y1
        omega
    have hv : Jvm.FP.Core.val64 (FP.ddiv x y) = Jvm.FP.Core.roundRatio Jvm.FP.Core.b64 (s != t) c d (q - r) := by
      have := Jvm.FP.Core.val64_ddiv x y
      rw [e1, e2] at this
      rw [show Jvm.FP.Core.val64 (FP.ddiv x y) = Jvm.FP.Core.quotient Jvm.FP.Core.b64 (.fin s c q) (.fin t d r) from this]
      show (if d = 0 then _ else _) = _
      rw [if_neg hd0]
    unfold Jvm.FP.Core.zval
    rw [hv, Jvm.FP.Core.sgn_roundRatio, hs, ht]
    simp only [Jvm.FP.Core.signed, bne_self_eq_false, Bool.false_eq_true, if_false]
    omega
theorem fCmp {a b c d : Int} {x y : UInt64} (hx : fIv a b x) (hy : fIv c d y) : FP.dcmp x y = some (compare (Jvm.FP.Core.zval Jvm.FP.Core.b64 (Jvm.FP.Core.val64 x)) (Jvm.FP.Core.zval Jvm.FP.Core.b64 (Jvm.FP.Core.val64 y))) := Jvm.FP.Core.dcmp_zval hx.1 hy.1
theorem fApart {a b c d : Int} {x y : UInt64} (hx : fIv a b x) (hy : fIv c d y) (h : b < c) : Jvm.FP.Core.zval Jvm.FP.Core.b64 (Jvm.FP.Core.val64 x) < Jvm.FP.Core.zval Jvm.FP.Core.b64 (Jvm.FP.Core.val64 y) := by
  have h1 := hx.2.2.1
  have h2 := hy.2.1
  have h3 := Int.mul_lt_mul_of_pos_right h fOnePos
  omega
theorem fGt {a b c d : Int} {x y : UInt64} (hx : fIv a b x) (hy : fIv c d y) (h : d < a) : ¬ Op.cmpValue (FP.dcmp x y) CmpOp.l ≤ 0 := by
  rw [fCmp hx hy, cmpL_le]
  have := fApart hy hx h
  omega
theorem fLt {a b c d : Int} {x y : UInt64} (hx : fIv a b x) (hy : fIv c d y) (h : b < c) : Op.cmpValue (FP.dcmp x y) CmpOp.l < 0 := by
  rw [fCmp hx hy, cmpL_lt0]
  exact fApart hx hy h
theorem fLe {a b c d : Int} {x y : UInt64} (hx : fIv a b x) (hy : fIv c d y) (h : b < c) : Op.cmpValue (FP.dcmp x y) CmpOp.l ≤ 0 := by
  rw [fCmp hx hy, cmpL_le]
  have := fApart hx hy h
  omega
theorem fNeg1 : fIv (-65536) (-65536) 13830554455654793216 := by unfold fIv; decide +kernel
/-! sums aren't below 0 -/
def eBd (c : Nat) (E : Nat → Int32) : Prop := ∀ i, i < 48 → ∃ k, k ≤ c ∧ E i = nI k
theorem eBd_up {c d : Nat} {E : Nat → Int32} (h : eBd c E) (hd : c ≤ d) : eBd d E := fun i hi => by obtain ⟨k, a, b⟩ := h i hi; exact ⟨k, by omega, b⟩
theorem eBd_col {c : Nat} {E : Nat → Int32} (h : eBd c E) (ln : Int32) : eBd (c + 1) (colnF E ln) := by
  intro i hi
  unfold colnF
  split
  · exact eBd_up h (by omega) i hi
  · split
    · exact eBd_up h (by omega) i hi
    · rename_i h0 h1
      have h2 := vp_inN (n := 48) (by decide) h0 h1
      have h3 : (ln + 12).toNatClampNeg < 48 := Nat.not_le.mp fun q => h2 (Or.inr q)
      unfold upd
      by_cases e : i = (ln + 12).toNatClampNeg
      · rw [if_pos e]
        obtain ⟨k, a, b⟩ := h _ h3
        exact ⟨k + 1, by omega, by rw [b, nI_1]⟩
      · rw [if_neg e]; exact eBd_up h (by omega) i hi
theorem eBd_X (r : Int32) (y : Nat) (t : UInt64) {c : Nat} {E : Nat → Int32} (h : eBd c E) : ∀ x, eBd (c + x) (lnX r y t E x)
  | 0 => h
  | x + 1 => by
    have ih := eBd_X r y t h x
    unfold lnX
    split
    · exact eBd_up ih (by omega)
    · exact eBd_col ih _
theorem eBd_Y (w : Nat) (B : Nat → Int32) (t : UInt64) {E : Nat → Int32} (h : eBd 0 E) : ∀ y, eBd (y * w) (lnY w B t E y)
  | 0 => eBd_up h (by omega)
  | y + 1 => by
    have := eBd_X (endsF (B y)) y t (eBd_Y w B t h y) w
    rw [Nat.succ_mul]; exact this
theorem sumI_bd {f : Nat → Int32} {c : Nat} : ∀ n, (∀ i, i < n → ∃ k, k ≤ c ∧ f i = nI k) → ∃ k, k ≤ n * c ∧ sumI f n = nI k
  | 0, _ => ⟨0, by omega, rfl⟩
  | n + 1, h => by
    obtain ⟨k, a, b⟩ := sumI_bd n (fun i hi => h i (by omega))
    obtain ⟨j, a2, b2⟩ := h n (by omega)
    exact ⟨k + j, by rw [Nat.succ_mul]; omega, by show sumI f n + f n = _; rw [b, b2, nI_add]⟩
section FND
variable {w h : Nat} {B : Nat → Int32} {P : Nat → Bool}
theorem sq_bd (hw : w ≤ 24) (hh : h ≤ 24) (t : UInt64) : ∃ k, k ≤ 15925248 ∧ sqZ w h B t = nI k := by
  have hE := eBd_Y w B t (E := fun _ => 0) (fun i _ => ⟨0, by omega, rfl⟩) h
  have h1 : h * w ≤ 576 := Nat.mul_le_mul hh hw
  have hE2 := eBd_up hE h1
  have := sumI_bd (f := fun i => lnY w B t (fun _ => 0) h i * lnY w B t (fun _ => 0) h i) (c := 331776) 48 (fun i hi => by
    obtain ⟨k, a, b⟩ := hE2 i hi
    exact ⟨k * k, Nat.mul_le_mul a a, by rw [b, pk_mul]⟩)
  exact this
theorem ends_bd (hh : h ≤ 24) : ∃ k, k ≤ 768 ∧ cntEnds B h = nI k := by
  have := sumI_bd (f := fun y => popc (endsF (B y))) (c := 32) h (fun i hi => ⟨_, by
    have : ∀ n, fb_ct (bt (endsF (B i))) n ≤ n := by
      intro n
      induction n with
      | zero => exact Nat.le_refl _
      | succ n ih => rw [fb_ct_succ]; split <;> omega
    exact this 32, popc_ct _⟩)
  obtain ⟨k, a, b⟩ := this
  exact ⟨k, by omega, b⟩
abbrev fK : Int := 15925248 * 65536
theorem sum_pos (hw : w ≤ 24) (hh : h ≤ 24) (a : Int32) : fIv 0 fK (sumF w h B a) := by
  unfold sumF
  split
  · exact fc_dconst0.weak (by decide) (by decide) (by decide +kernel) (by decide +kernel)
  · rename_i h0
    obtain ⟨k, hk, e1⟩ := sq_bd (B := B) hw hh (slopeF (FP.i2d a))
    obtain ⟨n, hn, e2⟩ := ends_bd (B := B) hh
    rw [e2] at h0
    have hn0 : 1 ≤ n := by
      rcases Nat.eq_zero_or_pos n with q | q
      · subst q; exact absurd rfl h0
      · exact q
    rw [e1, e2]
    have f2 := fIv.i2d (nI n)
    rw [nI_toInt (by omega)] at f2
    have f1 := fIvN hk (by decide)
    exact fDivPos f1 (f2.weak (a' := 65536) (b' := 65536 * 768) (by omega) (by omega) (by decide) (by decide)) (by decide) (by decide +kernel) (by decide +kernel)
theorem Rl.eV (hR : Rl w h B P) (hw : w ≤ 24) (hh : h ≤ 24) {m i : Nat} (hm : m ≤ 2000) (hi : i < gN m) : gV w h B m i = jV w h P m i := by
  unfold gN at hi
  have e := angI_toInt hm (i := i) (by omega)
  exact hR.sum hw hh (by omega) (by omega)
theorem Rl.eS (hR : Rl w h B P) (hw : w ≤ 24) (hh : h ≤ 24) {m : Nat} (hm : m ≤ 2000) (be : Int32) (bs : UInt64) : ∀ i, i + 1 ≤ gN m → gS w h B m bs (i + 1) = jS w h P m (i + 1) ∧ gB w h B m be bs (i + 1) = jB w h P m (i + 1) ∧ fIv 0 fK (gS w h B m bs (i + 1))
  | 0, hi => by
    have e := hR.eV hw hh hm (i := 0) (by omega)
    have hp : fIv 0 fK (jV w h P m 0) := by rw [← e]; exact sum_pos hw hh _
    have hg := fGt hp fNeg1 (by decide)
    have e1 : jS w h P m 1 = jV w h P m 0 := if_neg hg
    have e2 : jB w h P m 1 = angI m 0 := if_neg hg
    refine ⟨?_, ?_, ?_⟩
    · rw [e1]; exact (if_pos rfl).trans e
    · rw [e2]; exact if_pos rfl
    · show fIv 0 fK (if nI 0 = 0 then _ else _)
      rw [if_pos (show nI 0 = 0 from rfl)]; exact sum_pos hw hh _
  | i + 1, hi => by
    obtain ⟨a, b, c⟩ := hR.eS hw hh hm be bs i (by omega)
    have e := hR.eV hw hh hm (i := i + 1) (by omega)
    have hn := (gN_le hm).2
    have h0 : ¬ nI (i + 1) = 0 := nI_ne0 (by omega) (by omega)
    have u1 : gS w h B m bs (i + 1 + 1) = if Op.cmpValue (FP.dcmp (gV w h B m (i + 1)) (gS w h B m bs (i + 1))) CmpOp.l ≤ 0 then gS w h B m bs (i + 1) else gV w h B m (i + 1) := if_neg h0
    have u2 : gB w h B m be bs (i + 1 + 1) = if Op.cmpValue (FP.dcmp (gV w h B m (i + 1)) (gS w h B m bs (i + 1))) CmpOp.l ≤ 0 then gB w h B m be bs (i + 1) else angI m (i + 1) := if_neg h0
    refine ⟨?_, ?_, ?_⟩
    · rw [u1, e, a]; rfl
    · rw [u2, e, a, b]; rfl
    · rw [u1]
      split
      · exact c
      · exact sum_pos hw hh _
theorem Rl.eT (hR : Rl w h B P) (hw : w ≤ 24) (hh : h ≤ 24) {m : Nat} (hm : m ≤ 2000) : ∀ i, i ≤ gN m → gT w h B m i = jT w h P m i
  | 0, _ => rfl
  | i + 1, hi => by
    show FP.dadd (gT w h B m i) (gV w h B m i) = FP.dadd (jT w h P m i) (jV w h P m i)
    rw [hR.eT hw hh hm i (by omega), hR.eV hw hh hm (by omega)]
theorem Rl.eM (hR : Rl w h B P) (hw : w ≤ 24) (hh : h ≤ 24) {m : Nat} (hm : m ≤ 2000) : gM w h B m = jM w h P m := by
  unfold gM jM
  rw [hR.eT hw hh hm _ (Nat.le_refl _)]
theorem Rl.step (hR : Rl w h B P) (hw : w ≤ 24) (hh : h ≤ 24) {m : Nat} (hm : m ≤ 2000) {be sp : Int32} (h1 : -(m : Int) ≤ be.toInt) (h2 : be.toInt ≤ m) (h3 : 1 ≤ sp.toInt) (h4 : sp.toInt ≤ 50) {gr : UInt64} (hg : fIv 0 fK gr) :
    tbB w h B m be sp gr = rB2 w h P m be sp gr ∧ tbS w h B m be sp gr = rS2 w h P m be sp gr ∧ fIv 0 fK (tbS w h B m be sp gr) := by
  have hL : (tbL w h B m be sp gr = true ↔ ¬ Op.cmpValue (FP.dcmp (rL w h P m be sp) gr) CmpOp.l < 0) ∧ (tbL w h B m be sp gr = true → rL w h P m be sp = sumF w h B (be - sp)) := by
    unfold tbL rL
    by_cases c : be - sp < -nI m
    · rw [if_pos c, if_pos c]
      exact ⟨⟨fun q => (by cases q), fun q => absurd (fLt fNeg1 hg (by decide)) q⟩, fun q => by cases q⟩
    · rw [if_neg c, if_neg c]
      have hb := tb_lo hm h1 h2 h3 h4 c
      rw [hR.sum hw hh (by omega) (by omega)]
      by_cases d : Op.cmpValue (FP.dcmp (mSum w h P (be - sp)) gr) CmpOp.l < 0
      · rw [if_pos d]; exact ⟨⟨fun q => (by cases q), fun q => absurd d q⟩, fun _ => rfl⟩
      · rw [if_neg d]; exact ⟨⟨fun _ => d, fun _ => rfl⟩, fun _ => rfl⟩
  have hS1 : tbS1 w h B m be sp gr = rS1 w h P m be sp gr ∧ (if tbL w h B m be sp gr = true then be - sp else be) = rB1 w h P m be sp gr ∧ fIv 0 fK (tbS1 w h B m be sp gr) := by
    unfold tbS1 rS1 rB1
    by_cases c : tbL w h B m be sp gr = true
    · rw [if_pos c, if_pos c, if_neg (hL.1.mp c), if_neg (hL.1.mp c), hL.2 c]; exact ⟨rfl, rfl, sum_pos hw hh _⟩
    · have d : Op.cmpValue (FP.dcmp (rL w h P m be sp) gr) CmpOp.l < 0 := Classical.byContradiction fun q => c (hL.1.mpr q)
      rw [if_neg c, if_neg c, if_pos d, if_pos d]; exact ⟨rfl, rfl, hg⟩
  have hM : (tbM w h B m be sp gr = true ↔ ¬ Op.cmpValue (FP.dcmp (rM w h P m be sp) (rS1 w h P m be sp gr)) CmpOp.l ≤ 0) ∧ (tbM w h B m be sp gr = true → rM w h P m be sp = sumF w h B (be + sp)) := by
    unfold tbM rM
    by_cases c : nI m < be + sp
    · rw [if_pos c, if_pos c]
      exact ⟨⟨fun q => (by cases q), fun q => absurd (fLe fNeg1 (by rw [← hS1.1]; exact hS1.2.2) (by decide)) q⟩, fun q => by cases q⟩
    · rw [if_neg c, if_neg c]
      have hb := tb_hi hm h1 h2 h3 h4 c
      rw [hR.sum hw hh (by omega) (by omega), hS1.1]
      by_cases d : Op.cmpValue (FP.dcmp (mSum w h P (be + sp)) (rS1 w h P m be sp gr)) CmpOp.l ≤ 0
      · rw [if_pos d]; exact ⟨⟨fun q => (by cases q), fun q => absurd d q⟩, fun _ => rfl⟩
      · rw [if_neg d]; exact ⟨⟨fun _ => d, fun _ => rfl⟩, fun _ => rfl⟩
  unfold tbB tbS rB2 rS2
  by_cases c : tbM w h B m be sp gr = true
  · rw [if_pos c, if_pos c, if_neg (hM.1.mp c), if_neg (hM.1.mp c), hM.2 c]; exact ⟨rfl, rfl, sum_pos hw hh _⟩
  · have d : Op.cmpValue (FP.dcmp (rM w h P m be sp) (rS1 w h P m be sp gr)) CmpOp.l ≤ 0 := Classical.byContradiction fun q => c (hM.1.mpr q)
    rw [if_neg c, if_neg c, if_pos d, if_pos d]; exact ⟨hS1.2.1, hS1.1, hS1.2.2⟩
theorem Rl.eF (hR : Rl w h B P) (hw : w ≤ 24) (hh : h ≤ 24) {m : Nat} (hm : m ≤ 2000) (be : Int32) (bs : UInt64) : ∀ i, i ≤ 6 → fS w h B m be bs i = r6 w h P m i ∧ fIv 0 fK (fS w h B m be bs i).2
  | 0, _ => by
    have hn := (gN_le hm).1
    obtain ⟨j, hj⟩ : ∃ j, gN m = j + 1 := ⟨gN m - 1, by omega⟩
    obtain ⟨a, b, c⟩ := hR.eS hw hh hm be bs j (by omega)
    rw [← hj] at a b c
    refine ⟨?_, c⟩
    show (gB w h B m be bs (gN m), gS w h B m bs (gN m)) = (jB w h P m (gN m), jS w h P m (gN m))
    rw [a, b]
  | i + 1, hi => by
    obtain ⟨a, c⟩ := hR.eF hw hh hm be bs i (by omega)
    have hs := stpN_in i (by omega)
    have hb := fS_in w h B hm be bs i (by omega)
    obtain ⟨k1, k2, k3⟩ := hR.step hw hh hm hb.1 hb.2 hs.1 hs.2 c
    refine ⟨?_, k3⟩
    show (tbB w h B m _ _ _, tbS w h B m _ _ _) = (rB2 w h P m _ _ _, rS2 w h P m _ _ _)
    rw [k1, k2, a]
theorem Rl.eH (hR : Rl w h B P) (hw : w ≤ 24) (hh : h ≤ 24) {m : Nat} (hm : m ≤ 2000) : hOk w h P m := fun i hi => by
  rw [← (hR.eF hw hh hm 0 0 i hi).1]; exact fS_in w h B hm 0 0 i hi
theorem Rl.eA (hR : Rl w h B P) (hw : w ≤ 24) (hh : h ≤ 24) {m : Nat} (hm : m ≤ 2000) (be : Int32) (bs : UInt64) : fdR w h B m be bs = maR w h P m ∧ fdSu w h B m be bs = maSu w h P m ∧ fdGm w h B m = maMn w h P m := by
  unfold fdR maR fdSu maSu fdGm maMn sureF mSu
  rw [hR.cnt hw hh, (hR.eF hw hh hm be bs 6 (by omega)).1, hR.eM hw hh hm]
  exact ⟨rfl, rfl, rfl⟩
end FND
