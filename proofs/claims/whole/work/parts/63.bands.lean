/-! bands of rows, bare lines, crop: class = reference -/
theorem brR_iff (w h : Nat) (P : Nat → Bool) (ln : Int32) : ∀ n, brR w h P ln n = true ↔ ∀ k, k < n → mOnB w h P (nI k) ln = false
  | 0 => ⟨fun _ k hk => absurd hk (Nat.not_lt_zero k), fun _ => rfl⟩
  | n + 1 => by
    have ih := brR_iff w h P ln n
    unfold brR
    by_cases c : brR w h P ln n = true
    · rw [if_pos c]
      cases hc : mOnB w h P (nI n) ln
      · rw [if_neg (by decide)]
        exact ⟨fun _ k hk => by
          rcases Nat.lt_or_ge k n with q | q
          · exact ih.mp c k q
          · rw [show k = n by omega]; exact hc, fun _ => rfl⟩
      · rw [if_pos rfl]
        exact ⟨fun q => (by cases q), fun q => by rw [q n (by omega)] at hc; cases hc⟩
    · rw [if_neg c]
      exact ⟨fun q => (by cases q), fun q => absurd (ih.mpr fun k hk => q k (by omega)) c⟩
theorem brC_iff (w h : Nat) (P : Nat → Bool) (ln : Int32) : ∀ n, brC w h P ln n = true ↔ ∀ k, k < n → mOnB w h P ln (nI k) = false
  | 0 => ⟨fun _ k hk => absurd hk (Nat.not_lt_zero k), fun _ => rfl⟩
  | n + 1 => by
    have ih := brC_iff w h P ln n
    unfold brC
    by_cases c : brC w h P ln n = true
    · rw [if_pos c]
      cases hc : mOnB w h P ln (nI n)
      · rw [if_neg (by decide)]
        exact ⟨fun _ k hk => by
          rcases Nat.lt_or_ge k n with q | q
          · exact ih.mp c k q
          · rw [show k = n by omega]; exact hc, fun _ => rfl⟩
      · rw [if_pos rfl]
        exact ⟨fun q => (by cases q), fun q => by rw [q n (by omega)] at hc; cases hc⟩
    · rw [if_neg c]
      exact ⟨fun q => (by cases q), fun q => absurd (ih.mpr fun k hk => q k (by omega)) c⟩
section BND
variable {w h : Nat} {B : Nat → Int32} {P : Nat → Bool}
theorem Rl.zero (hR : Rl w h B P) {y : Nat} (hy : y < 24) : B y = 0 ↔ ∀ x, x < w → bt (B y) x = false := by
  constructor
  · intro e x _; rw [e]; exact b_0 x
  · intro a
    refine b_ext fun i _ => ?_
    rw [b_0]
    rcases Nat.lt_or_ge i w with q | q
    · exact a i q
    · exact hR.2.1 y hy i q
theorem Rl.bareR (hR : Rl w h B P) (hw : w ≤ 24) (hh : h ≤ 24) {y : Nat} (hy : y < h) : baR w h P (nI y) = true ↔ B y = 0 := by
  unfold baR
  rw [brR_iff, hR.zero (by omega)]
  constructor
  · intro a x hx
    have := a x (by omega)
    rw [hR.mon hw hh hx hy] at this
    exact this
  · intro a k hk
    rcases Nat.lt_or_ge k w with q | q
    · rw [hR.mon hw hh q hy]; exact a k q
    · exact mOnB_off (has_offX hw hh q (by omega) _)
theorem Rl.bareC (hR : Rl w h B P) (hw : w ≤ 24) (hh : h ≤ 24) {x : Nat} (hx : x < w) : baC w h P (nI x) = true ↔ ∀ y, y < h → bt (B y) x = false := by
  unfold baC
  rw [brC_iff]
  constructor
  · intro a y hy
    have := a y (by omega)
    rw [hR.mon hw hh hx hy] at this
    exact this
  · intro a k hk
    rcases Nat.lt_or_ge k h with q | q
    · rw [hR.mon hw hh hx q]; exact a k q
    · exact mOnB_off (has_offY hw hh q (by omega) _)
theorem Rl.beg (hR : Rl w h B P) (hw : w ≤ 24) (hh : h ≤ 24) {y : Nat} (hy : y < h) : begB B (nI y) = bgM w h P y := by
  unfold begB bgM
  rw [rowF_nI B (by omega)]
  have h1 := hR.bareR hw hh hy
  by_cases c : B y = 0
  · rw [if_pos c, if_pos (h1.mpr c)]
  · rw [if_neg c, if_neg (fun q => c (h1.mp q))]
    cases y with
    | zero =>
      rw [if_pos (show nI 0 = 0 from rfl), show nI 0 - 1 = -1 from by decide]
      exact if_pos (if_pos (by decide))
    | succ y =>
      have h2 := hR.bareR hw hh (y := y) (by omega)
      rw [if_neg (nI_ne0 (by omega) (by omega)), nI_pred, rowF_nI B (by omega)]
      by_cases d : B y = 0
      · rw [if_pos d, if_pos (h2.mpr d)]
      · rw [if_neg d, if_neg (fun q => d (h2.mp q))]
/-- how many bands begin ahead of row i -/
def bgC (B : Nat → Int32) (i : Nat) : Nat := fb_ct (fun y => begB B (nI y)) i
theorem bgC_s (B : Nat → Int32) (i : Nat) : bgC B (i + 1) = bgC B i + (if begB B (nI i) = true then 1 else 0) := rfl
theorem bgC_le (B : Nat → Int32) : ∀ i, bgC B i ≤ i
  | 0 => Nat.le_refl _
  | i + 1 => by have := bgC_le B i; rw [bgC_s]; split <;> omega
theorem bgC_mono (B : Nat → Int32) {a : Nat} : ∀ n, bgC B a ≤ bgC B (a + n)
  | 0 => Nat.le_refl _
  | n + 1 => by have := bgC_mono B (a := a) n; rw [← Nat.add_assoc, bgC_s]; omega
theorem bandsN_ct (B : Nat → Int32) : ∀ i, bandsN B i = nI (bgC B i)
  | 0 => rfl
  | i + 1 => by
    show (if begB B (nI i) = true then bandsN B i + 1 else bandsN B i) = _
    rw [bandsN_ct B i, bgC_s]
    split
    · rw [nI_1]
    · rfl
theorem fnd_some (B : Nat → Int32) (k : Int32) : ∀ n i f, fndN B k n i (nI (bgC B i)) = some f → i ≤ f ∧ f < i + n ∧ begB B (nI f) = true ∧ k = nI (bgC B f)
  | 0, i, f, e => by cases e
  | n + 1, i, f, e => by
    unfold fndN at e
    by_cases c : begB B (nI i) = true
    · rw [if_pos c] at e
      by_cases d : nI (bgC B i) = k
      · rw [if_pos d] at e
        cases e
        exact ⟨Nat.le_refl _, by omega, c, d.symm⟩
      · rw [if_neg d, nI_1] at e
        have := fnd_some B k n (i + 1) f (by rw [bgC_s, if_pos c]; exact e)
        exact ⟨by omega, by omega, this.2.2⟩
    · rw [if_neg c] at e
      have := fnd_some B k n (i + 1) f (by rw [bgC_s, if_neg c]; exact e)
      exact ⟨by omega, by omega, this.2.2⟩
theorem fnd_at (B : Nat → Int32) {f : Nat} (hf : begB B (nI f) = true) (hf2 : f < 24) : ∀ d i, i + d = f → ∀ n, d < n → fndN B (nI (bgC B f)) n i (nI (bgC B i)) = some f
  | 0, i, e, n, hn => by
    obtain ⟨n, rfl⟩ : ∃ q, n = q + 1 := ⟨n - 1, by omega⟩
    have e : i = f := by omega
    subst e
    unfold fndN
    rw [if_pos hf, if_pos rfl]
  | d + 1, i, e, n, hn => by
    obtain ⟨n, rfl⟩ : ∃ q, n = q + 1 := ⟨n - 1, by omega⟩
    have ih := fnd_at B hf hf2 d (i + 1) (by omega) n (by omega)
    have hc1 := bgC_le B f
    unfold fndN
    by_cases c : begB B (nI i) = true
    · have hm := bgC_mono B (a := i + 1) d
      rw [show i + 1 + d = f by omega, bgC_s, if_pos c] at hm
      have hne : ¬ nI (bgC B i) = nI (bgC B f) := fun q => by have := (nI_eq (by omega) (by omega)).mp q; omega
      rw [if_pos c, if_neg hne, nI_1]
      rw [bgC_s, if_pos c] at ih
      exact ih
    · rw [if_neg c]
      rw [bgC_s, if_neg c] at ih
      exact ih
theorem fnd_iff {B : Nat → Int32} {h : Nat} (hh : h ≤ 24) (k : Int32) (f : Nat) : fndF B h k = some f ↔ f < h ∧ begB B (nI f) = true ∧ k = nI (bgC B f) := by
  constructor
  · intro e
    have := fnd_some B k h 0 f e
    exact ⟨by omega, this.2.2⟩
  · rintro ⟨h1, h2, rfl⟩
    exact fnd_at B h2 (by omega) f 0 (by omega) h h1
theorem bgC_kth (B : Nat → Int32) {j : Nat} : ∀ n, j < bgC B n → ∃ i, i < n ∧ begB B (nI i) = true ∧ bgC B i = j
  | 0, e => absurd e (Nat.not_lt_zero j)
  | n + 1, e => by
    rcases Nat.lt_or_ge j (bgC B n) with q | q
    · obtain ⟨i, a, b⟩ := bgC_kth B n q
      exact ⟨i, by omega, b⟩
    · rw [bgC_s] at e
      by_cases c : begB B (nI n) = true
      · rw [if_pos c] at e; exact ⟨n, by omega, c, by omega⟩
      · rw [if_neg c] at e; omega
/-- the k-th band is there exactly for 0 <= k < the number of bands -/
theorem fnd_none {B : Nat → Int32} {h : Nat} (hh : h ≤ 24) {k : Int32} (hk : k < 0 ∨ ¬ k < bandsN B h) : fndF B h k = none := by
  cases e : fndF B h k with
  | none => rfl
  | some f =>
    obtain ⟨a, b, rfl⟩ := (fnd_iff hh k f).mp e
    have h1 := bgC_le B f
    have h2 := bgC_le B h
    exfalso
    rcases hk with q | q
    · exact nI_pos (by omega) q
    · apply q
      rw [bandsN_ct]
      refine nI_lt ?_ (by omega)
      have := bgC_mono B (a := f + 1) (h - (f + 1))
      rw [show f + 1 + (h - (f + 1)) = h by omega, bgC_s, if_pos b] at this
      omega
theorem fnd_in {B : Nat → Int32} {h : Nat} (hh : h ≤ 24) {k : Int32} (h0 : ¬ k < 0) (h1 : k < bandsN B h) : ∃ f, fndF B h k = some f ∧ f < h ∧ begB B (nI f) = true := by
  have h2 := bgC_le B h
  rw [bandsN_ct] at h1
  have h3 : ¬ nI (bgC B h) ≤ k := by rw [Int32.le_iff_toInt_le, Int32.lt_iff_toInt_lt] at *; omega
  obtain ⟨j, hj, rfl⟩ := inR (by omega) h0 h3
  obtain ⟨i, a, b, c⟩ := bgC_kth B h hj
  exact ⟨i, (fnd_iff hh _ i).mpr ⟨a, b, by rw [c]⟩, a, b⟩
theorem Rl.eMg (hR : Rl w h B P) (hw : w ≤ 24) (hh : h ≤ 24) (k : Int32) : ∀ n i b, i + n ≤ h → mgN w h P k n i (b - 1) = fndN B k n i b
  | 0, _, _, _ => rfl
  | n + 1, i, b, hi => by
    unfold mgN fndN
    have e : b - 1 + 1 = b := Int32.sub_add_cancel b 1
    have e2 : b + 1 - 1 = b := Int32.add_sub_cancel b 1
    rw [hR.beg hw hh (by omega), e]
    have ih1 := hR.eMg hw hh k n (i + 1) (b + 1) (by omega)
    have ih2 := hR.eMg hw hh k n (i + 1) b (by omega)
    rw [e2] at ih1
    rw [ih1, ih2]
theorem Rl.mg (hR : Rl w h B P) (hw : w ≤ 24) (hh : h ≤ 24) (k : Int32) : mgF w h P k = fndF B h k := hR.eMg hw hh k h 0 0 (by omega)
theorem Rl.eBe (hR : Rl w h B P) (hw : w ≤ 24) (hh : h ≤ 24) (f : Nat) : ∀ n r, f + r + n ≤ h → behN B n (f + r) = f + rwN w h P f n r
  | 0, _, _ => rfl
  | n + 1, r, hr => by
    unfold behN rwN
    have h1 := hR.bareR hw hh (y := f + r) (by omega)
    by_cases c : B (f + r) = 0
    · rw [if_pos c, if_pos (h1.mpr c)]
    · rw [if_neg c, if_neg (fun q => c (h1.mp q))]
      exact hR.eBe hw hh f n (r + 1) (by omega)
theorem Rl.beh (hR : Rl w h B P) (hw : w ≤ 24) (hh : h ≤ 24) {f : Nat} (hf : f ≤ h) : behF B h f = f + rwF w h P f := hR.eBe hw hh f (h - f) 0 (by omega)
theorem oiX_ct (w h : Nat) (P : Nat → Bool) (y a : Nat) : ∀ x, oiX w h P y (nI a) x = nI (a + fb_ct (fun x => mOnB w h P (nI x) (nI y)) x)
  | 0 => rfl
  | x + 1 => by
    show oiX w h P y (nI a) x + b2i _ = _
    rw [oiX_ct w h P y a x, b2i_nI, nI_add, fb_ct_succ]
    congr 1
    omega
theorem Rl.oi (hR : Rl w h B P) (hw : w ≤ 24) (hh : h ≤ 24) (f : Nat) : ∀ n, f + n ≤ h → ∃ k, k ≤ 24 * n ∧ oiY w h P f n = nI k ∧ sumFT B f n = nI k
  | 0, _ => ⟨0, by omega, rfl, rfl⟩
  | n + 1, hn => by
    obtain ⟨k, k1, k2, k3⟩ := hR.oi hw hh f n (by omega)
    have hc : ∀ (p : Nat → Bool) n, fb_ct p n ≤ n := by
      intro p n
      induction n with
      | zero => exact Nat.le_refl _
      | succ n ih => rw [fb_ct_succ]; split <;> omega
    have h1 := hc (bt (B (f + n))) w
    refine ⟨k + fb_ct (bt (B (f + n))) w, by omega, ?_, ?_⟩
    · show oiX w h P (f + n) (oiY w h P f n) w = _
      rw [k2, oiX_ct]
      congr 2
      exact fb_ct_cong fun x hx => hR.mon hw hh hx (by omega)
    · show sumFT B f n + popc (B (f + n)) = _
      rw [k3, hR.row hw (by omega), nI_add]
theorem Rl.oi_eq (hR : Rl w h B P) (hw : w ≤ 24) (hh : h ≤ 24) {f n : Nat} (hn : f + n ≤ h) : sumFT B f n = oiY w h P f n := by
  obtain ⟨k, -, a, b⟩ := hR.oi hw hh f n hn
  rw [a, b]
theorem Rl.band (hR : Rl w h B P) (hw : w ≤ 24) (hh : h ≤ 24) {f : Nat} (hf : f ≤ h) (q : Int32) : bandV B h f q = mBand w h P f q := by
  have hr := rwF_in w h P hf
  unfold bandV mBand
  rw [hR.beh hw hh hf, pk_sub (by omega), Nat.add_sub_cancel_left, hR.oi_eq hw hh hr]
theorem Rl.las (hR : Rl w h B P) (hw : w ≤ 24) (hh : h ≤ 24) (x f : Nat) : ∀ n, lowO w h B x f n = lasO w h P x f n
  | 0 => rfl
  | n + 1 => by
    unfold lowO lasO
    rw [hR.on hw hh, hR.las hw hh x f n]
theorem bS_pos {lo : Nat → Option Nat} {x y : Nat} (e : lo x = some y) : ∀ n, x < n → 1 ≤ bS (fun _ _ => 1) lo n
  | 0, hx => absurd hx (Nat.not_lt_zero x)
  | n + 1, hx => by
    rcases Nat.lt_or_ge x n with q | q
    · have ih := bS_pos e n q
      cases hl : lo n with
      | none => rw [bS_f hl]; exact ih
      | some z => rw [bS_t hl]; omega
    · have : x = n := by omega
      subst this
      rw [bS_t e]; omega
theorem lasO_pos (w h : Nat) (P : Nat → Bool) (x f : Nat) (hf : mOnB w h P (nI x) (nI f) = true) : ∀ n, 1 ≤ n → ∃ y, lasO w h P x f n = some y
  | 0, hn => absurd hn (by omega)
  | n + 1, _ => by
    unfold lasO
    split
    · exact ⟨_, rfl⟩
    · rename_i c
      cases n with
      | zero => exact absurd hf c
      | succ n => exact lasO_pos w h P x f hf (n + 1) (by omega)
theorem bS_le24 (lo : Nat → Option Nat) : ∀ n, bS (fun _ _ => 1) lo n ≤ n
  | 0 => Nat.le_refl _
  | n + 1 => by
    have ih := bS_le24 lo n
    cases hl : lo n with
    | none => rw [bS_f hl]; omega
    | some z => rw [bS_t hl]; omega
/-- a band's base line: some column has a lowest sample -/
theorem Rl.line0 (hR : Rl w h B P) (hw : w ≤ 24) (hh : h ≤ 24) {f : Nat} (hf : f < h) (hb : begB B (nI f) = true) : ¬ nI (bS (fun _ _ => 1) (fun x => lasO w h P x f (rwF w h P f)) w) = 0 := by
  have hB0 : ¬ B f = 0 := by
    intro e
    unfold begB at hb
    rw [rowF_nI B (by omega), if_pos e] at hb
    cases hb
  have h1 : ∃ x, x < w ∧ bt (B f) x = true := by
    refine Classical.byContradiction fun q => hB0 ((hR.zero (by omega)).mpr fun x hx => ?_)
    cases hc : bt (B f) x
    · rfl
    · exact absurd ⟨x, hx, hc⟩ q
  obtain ⟨x, hx, hc⟩ := h1
  have hr : 1 ≤ rwF w h P f := by
    have h2 := hR.beh hw hh (f := f) (by omega)
    have h3 : behF B h f = behN B (h - (f + 1)) (f + 1) := by
      unfold behF
      rw [behN_s B hf, if_neg hB0]
    have h4 := behN_in B (h - (f + 1)) (f + 1)
    omega
  obtain ⟨y, hy⟩ := lasO_pos w h P x f (by rw [hR.mon hw hh hx hf]; exact hc) _ hr
  have hp := bS_pos (lo := fun x => lasO w h P x f (rwF w h P f)) hy w hx
  have hl := bS_le24 (fun x => lasO w h P x f (rwF w h P f)) w
  exact nI_ne0 hp (by omega)
theorem Rl.eBl (hR : Rl w h B P) (hw : w ≤ 24) (hh : h ≤ 24) {f : Nat} (hf : f < h) (hb : begB B (nI f) = true) (v : UInt64) : blR w h B f v = mlF (nI (bS (fun _ _ => 1) (fun x => lasO w h P x f (rwF w h P f)) w)) (nI (bS (fun u _ => u) (fun x => lasO w h P x f (rwF w h P f)) w)) (nI (bS (fun _ z => z) (fun x => lasO w h P x f (rwF w h P f)) w)) (nI (bS (fun u _ => u * u) (fun x => lasO w h P x f (rwF w h P f)) w)) (nI (bS (fun u z => u * z) (fun x => lasO w h P x f (rwF w h P f)) w)) v := by
  have h0 := hR.line0 hw hh hf hb
  unfold blR
  rw [hR.beh hw hh (by omega), Nat.add_sub_cancel_left, show (fun x => lowO w h B x f (rwF w h P f)) = (fun x => lasO w h P x f (rwF w h P f)) from funext fun x => hR.las hw hh x f _]
  unfold blF mlF
  rw [if_neg h0]
/-- upside: sums over rows where bands begin, sums over the bands -/
theorem Rl.ups (hR : Rl w h B P) (hw : w ≤ 24) (hh : h ≤ 24) : ∀ i, i ≤ h → ∃ a b, a ≤ 576 * i ∧ b ≤ 576 * i ∧ loN w h P (bgC B i) = nI a ∧ upN w h P (bgC B i) = nI b ∧ lmuN B h i = nI a - nI b
  | 0, _ => ⟨0, 0, by omega, by omega, rfl, rfl, rfl⟩
  | i + 1, hi => by
    obtain ⟨a, b, a1, b1, e1, e2, e3⟩ := hR.ups hw hh i (by omega)
    by_cases c : begB B (nI i) = true
    · have hm : mgF w h P (nI (bgC B i)) = some i := by rw [hR.mg hw hh]; exact (fnd_iff hh _ i).mpr ⟨by omega, c, rfl⟩
      have hr := rwF_in w h P (i := i) (by omega)
      obtain ⟨p, p1, p2, p3⟩ := hR.oi hw hh (i + rwF w h P i - rwF w h P i / 2) (rwF w h P i / 2) (by omega)
      obtain ⟨q, q1, q2, q3⟩ := hR.oi hw hh i (rwF w h P i / 2) (by omega)
      have eS : bgC B (i + 1) = bgC B i + 1 := by rw [bgC_s, if_pos c]
      have eL : loN w h P (bgC B i + 1) = loN w h P (bgC B i) + oiY w h P (i + rwF w h P i - rwF w h P i / 2) (rwF w h P i / 2) := by
        show (match mgF w h P (nI (bgC B i)) with | none => _ | some f => _) = _
        rw [hm]
      have eU : upN w h P (bgC B i + 1) = upN w h P (bgC B i) + oiY w h P i (rwF w h P i / 2) := by
        show (match mgF w h P (nI (bgC B i)) with | none => _ | some f => _) = _
        rw [hm]
      refine ⟨a + p, b + q, by omega, by omega, ?_, ?_, ?_⟩
      · rw [eS, eL, e1, p2, nI_add]
      · rw [eS, eU, e2, q2, nI_add]
      · show (if begB B (nI i) = true then _ else _) = _
        rw [if_pos c, hR.beh hw hh (by omega), show i + rwF w h P i - i = rwF w h P i by omega, show i + rwF w h P i - (i + rwF w h P i - rwF w h P i / 2) = rwF w h P i / 2 by omega, show i + rwF w h P i / 2 - i = rwF w h P i / 2 by omega, p3, q3, e3, ← nI_add, ← nI_add]
        rw [Int32.sub_eq_add_neg, Int32.sub_eq_add_neg, Int32.sub_eq_add_neg, Int32.neg_add, Int32.sub_eq_add_neg]
        ac_rfl
    · refine ⟨a, b, by omega, by omega, ?_, ?_, ?_⟩
      · rw [bgC_s, if_neg c]; exact e1
      · rw [bgC_s, if_neg c]; exact e2
      · show (if begB B (nI i) = true then _ else _) = _
        rw [if_neg c]; exact e3
theorem Rl.upsE (hR : Rl w h B P) (hw : w ≤ 24) (hh : h ≤ 24) : upsF w h B = mUps w h P (bgC B h) := by
  obtain ⟨a, b, a1, b1, e1, e2, e3⟩ := hR.ups hw hh h (Nat.le_refl h)
  unfold upsF mUps
  rw [e1, e2, e3]
  have t := pk_sub_toInt (a := a) (b := b) (by omega) (by omega)
  have c1 : nI a - nI b ≤ 0 ↔ a ≤ b := by
    rw [Int32.le_iff_toInt_le, t]
    show (a : Int) - b ≤ 0 ↔ _
    omega
  have c2 := nI_leI (a := a) (b := b) (by omega) (by omega)
  by_cases q : a ≤ b
  · rw [if_pos (c1.mpr q), if_pos (c2.mpr q)]
  · rw [if_neg (fun z => q (c1.mp z)), if_neg (fun z => q (c2.mp z))]
/-- the reference counts up to the first band that isn't there -/
theorem Rl.nb (hR : Rl w h B P) (hw : w ≤ 24) (hh : h ≤ 24) : bgC B h ≤ 24 ∧ (∀ j, j < bgC B h → goS (mgF w h P (nI j)) = true) ∧ goS (mgF w h P (nI (bgC B h))) = false := by
  have h1 := bgC_le B h
  refine ⟨by omega, fun j hj => ?_, ?_⟩
  · obtain ⟨i, a, b, c⟩ := bgC_kth B h hj
    rw [hR.mg hw hh, (fnd_iff hh _ i).mpr ⟨a, b, by rw [c]⟩]; rfl
  · rw [hR.mg hw hh, fnd_none hh (Or.inr (by rw [bandsN_ct]; exact fun q => by have := (nI_ltI (by omega) (by omega)).mp q; omega))]; rfl
theorem Rl.tld (hR : Rl w h B P) (hw : w ≤ 24) (hh : h ≤ 24) (tc : Nat) (q : Int32) : tldF w h B tc q = mTld w h P tc q := by
  unfold tldF mTld
  rw [hR.cnt hw hh, hR.ends hw hh]
end BND
