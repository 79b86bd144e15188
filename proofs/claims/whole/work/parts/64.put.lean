/-! put, crop, clear: class = reference -/
theorem bt_low : ∀ n, n < 25 → ∀ i, i < 32 → bt (bitsOfF (nI n)) i = decide (i < n) := by decide +kernel
theorem bt_reach {w x1 L : Nat} (hL : L < 25) (hx : x1 < 24) {i : Nat} (hi : i < 32) : bt (bitsOfF (nI L) <<< (nI x1 &&& 31)) i = decide (x1 ≤ i ∧ i < x1 + L) := by
  rw [b_shl x1 (by omega) _ hi]
  by_cases c : x1 ≤ i
  · rw [bt_low L hL (i - x1) (by omega), decide_eq_true c, Bool.true_and]
    congr 1
    exact propext ⟨fun q => ⟨c, by omega⟩, fun q => by omega⟩
  · rw [decide_eq_false c, Bool.false_and, decide_eq_false (fun q => c q.1)]
theorem bt_paint (ib : Bool) (b r : Int32) {i : Nat} (hi : i < 32) : bt (paintF (b2i ib) b r) i = if bt r i = true then ib else bt b i := by
  unfold paintF
  cases ib
  · rw [if_pos (show b2i false = 0 from rfl), b_and, b_xor, b_m1 i hi]
    cases bt r i <;> cases bt b i <;> rfl
  · rw [if_neg (by decide), b_or]
    cases bt r i <;> cases bt b i <;> rfl
theorem min_nI {w x1 n1 : Nat} (hx : x1 < w) (hw : w ≤ 24) (hn2 : n1 < 2 ^ 31) : minF (nI n1) (nI w - nI x1) = nI (min (w - x1) n1) := by
  unfold minF
  rw [pk_sub (by omega)]
  by_cases c : w - x1 < n1
  · rw [if_pos (nI_lt c (by omega)), Nat.min_eq_left (by omega)]
  · rw [if_neg (fun q => c ((nI_ltI (by omega) (by omega)).mp q)), Nat.min_eq_right (by omega)]
section PUT
variable {w h : Nat} {B : Nat → Int32} {P : Nat → Bool}
theorem fill_ok (hw : w ≤ 24) (hh : h ≤ 24) {x1 y1 n1 : Nat} (hx1 : x1 < w) (hy1 : y1 < h) (hn1 : 1 ≤ n1) (hn2 : n1 < 2 ^ 31) : fillOk w h (nI x1) (nI y1) (nI n1) = true := by
  unfold fillOk
  rw [hasB_nI hx1 hy1 hw hh, if_neg (by decide), if_pos]
  exact (nI_leI (a := 1) (by omega) hn2).mpr hn1
theorem fillB_eq (hw : w ≤ 24) (hh : h ≤ 24) {x1 y1 n1 : Nat} (hx1 : x1 < w) (hy1 : y1 < h) (hn1 : 1 ≤ n1) (hn2 : n1 < 2 ^ 31) (on : Int32) : fillB w h B (nI x1) (nI y1) (nI n1) on = upd B y1 (paintF on (B y1) (bitsOfF (nI (min (w - x1) n1)) <<< (nI x1 &&& 31))) := by
  unfold fillB reachF
  rw [fill_ok hw hh hx1 hy1 hn1 hn2, if_neg (by decide), rowF_nI B (by omega), setF_nI B _ (by omega), min_nI hx1 hw hn2]
theorem fillN_eq (hw : w ≤ 24) (hh : h ≤ 24) {x1 y1 n1 : Nat} (hx1 : x1 < w) (hy1 : y1 < h) (hn1 : 1 ≤ n1) (hn2 : n1 < 2 ^ 31) (on : Int32) : fillN w h B (nI x1) (nI y1) (nI n1) on = popc (B y1 ^^^ paintF on (B y1) (bitsOfF (nI (min (w - x1) n1)) <<< (nI x1 &&& 31))) := by
  unfold fillN reachF
  rw [fill_ok hw hh hx1 hy1 hn1 hn2, if_neg (by decide), rowF_nI B (by omega), min_nI hx1 hw hn2]
theorem Rl.put (hR : Rl w h B P) (hw : w ≤ 24) (hh : h ≤ 24) {x1 y1 n1 : Nat} (hx1 : x1 < w) (hy1 : y1 < h) (hn1 : 1 ≤ n1) (hn2 : n1 < 2 ^ 31) (ib : Bool) : Rl w h (fillB w h B (nI x1) (nI y1) (nI n1) (b2i ib)) (pP P ib (24 * y1 + x1) (min (w - x1) n1)) := by
  rw [fillB_eq hw hh hx1 hy1 hn1 hn2]
  obtain ⟨L, hL⟩ : ∃ L, L = min (w - x1) n1 := ⟨_, rfl⟩
  rw [← hL]
  have hL1 : x1 + L ≤ w := by omega
  have key : ∀ x, x < 32 → bt (paintF (b2i ib) (B y1) (bitsOfF (nI L) <<< (nI x1 &&& 31))) x = if x1 ≤ x ∧ x < x1 + L then ib else bt (B y1) x := fun x hx => by
    rw [bt_paint ib _ _ hx, bt_reach (w := w) (by omega) (by omega) hx]
    by_cases c : x1 ≤ x ∧ x < x1 + L
    · rw [decide_eq_true c, if_pos rfl, if_pos c]
    · rw [decide_eq_false c, if_neg (by decide), if_neg c]
  refine ⟨fun y hy x hx => ?_, fun y hy x hx => ?_, fun y hy hy2 x => ?_⟩
  · unfold pP upd
    by_cases c : y = y1
    · subst c
      rw [if_pos rfl, key x (by omega)]
      by_cases d : x1 ≤ x ∧ x < x1 + L
      · rw [if_pos (by omega), if_pos d]
      · rw [if_neg (by omega), if_neg d]; exact hR.1 y hy x hx
    · rw [if_neg c, if_neg (by omega)]; exact hR.1 y hy x hx
  · unfold upd
    by_cases c : y = y1
    · rw [if_pos c]
      rcases Nat.lt_or_ge x 32 with q | q
      · rw [key x q, if_neg (by omega)]; exact hR.2.1 y1 (by omega) x hx
      · exact b_big q
    · rw [if_neg c]; exact hR.2.1 y hy x hx
  · unfold upd
    rw [if_neg (by omega)]; exact hR.2.2 y hy hy2 x
theorem Rl.putN (hR : Rl w h B P) (hw : w ≤ 24) (hh : h ≤ 24) {x1 y1 n1 : Nat} (hx1 : x1 < w) (hy1 : y1 < h) (hn1 : 1 ≤ n1) (hn2 : n1 < 2 ^ 31) (ib : Bool) : fillN w h B (nI x1) (nI y1) (nI n1) (b2i ib) = putC P ib (24 * y1 + x1) (min (w - x1) n1) := by
  rw [fillN_eq hw hh hx1 hy1 hn1 hn2, popc_ct]
  unfold putC
  rw [sumI_b]
  obtain ⟨L, hL⟩ : ∃ L, L = min (w - x1) n1 := ⟨_, rfl⟩
  rw [← hL]
  have hL1 : x1 + L ≤ w := by omega
  congr 1
  have key : ∀ x, x < 32 → bt (B y1 ^^^ paintF (b2i ib) (B y1) (bitsOfF (nI L) <<< (nI x1 &&& 31))) x = (decide (x1 ≤ x ∧ x < x1 + L) && (bt (B y1) x ^^ ib)) := fun x hx => by
    rw [b_xor, bt_paint ib _ _ hx, bt_reach (w := w) (by omega) (by omega) hx]
    by_cases c : x1 ≤ x ∧ x < x1 + L
    · rw [decide_eq_true c, if_pos rfl, Bool.true_and]
    · rw [decide_eq_false c, if_neg (by decide), Bool.false_and, Bool.xor_self]
  rw [show (32 : Nat) = x1 + (L + (32 - x1 - L)) by omega, fb_ct_split, fb_ct_split]
  rw [fb_ct_zero.mpr (fun k hk => by rw [key k (by omega), decide_eq_false (by omega)]; rfl)]
  rw [fb_ct_zero (n := 32 - x1 - L) |>.mpr (fun k hk => by rw [key _ (by omega), decide_eq_false (by omega)]; rfl)]
  rw [Nat.zero_add, Nat.add_zero]
  refine fb_ct_cong fun k hk => ?_
  rw [key _ (by omega), decide_eq_true (by omega), Bool.true_and]
  unfold dfB
  rw [show 24 * y1 + x1 + k = 24 * y1 + (x1 + k) by omega, hR.1 y1 (by omega) (x1 + k) (by omega)]
  cases bt (B y1) (x1 + k) <;> cases ib <;> rfl
theorem Rl.ePutG (hR : Rl w h B P) (hw : w ≤ 24) (hh : h ≤ 24) {x1 y1 n1 : Nat} (hx1 : x1 < w) (hy1 : y1 < h) (hn1 : 1 ≤ n1) (hn2 : n1 < 2 ^ 31) (ib : Bool) : chgB w h B (nI x1) (nI y1) (nI n1) (b2i ib) = putG P ib (24 * y1 + x1) (min (w - x1) n1) := by
  unfold chgB putG
  rw [hR.putN hw hh hx1 hy1 hn1 hn2]
theorem Rl.clear (hR : Rl w h B P) : Rl w h (wipeN B h) (cpB (fun _ => false) P 576) := by
  have e : ∀ y, y < 24 → ∀ x, bt (wipeN B h y) x = false := fun y hy x => by
    unfold wipeN mapN
    by_cases c : y < h
    · rw [if_pos c]; exact b_0 x
    · rw [if_neg c]; exact hR.2.2 y (by omega) hy x
  refine ⟨fun y hy x hx => ?_, fun y hy x _ => e y hy x, fun y _ hy x => e y hy x⟩
  rw [e y hy x]
  unfold cpB
  rw [if_pos (by omega)]
theorem Rl.new (w h : Nat) : Rl w h (fun _ => 0) (fun _ => false) := ⟨fun _ _ x _ => (b_0 x).symm, fun _ _ x _ => b_0 x, fun _ _ _ x => b_0 x⟩
/-! crop -/
/-- all that is on lies in the window -/
def Wn (w h : Nat) (B : Nat → Int32) (la ua ra da : Nat) : Prop := ∀ x y, x < w → y < h → bt (B y) x = true → la ≤ x ∧ x < ra ∧ ua ≤ y ∧ y < da
theorem Wn.full (w h : Nat) (B : Nat → Int32) : Wn w h B 0 0 w h := fun x y hx hy _ => ⟨by omega, hx, by omega, hy⟩
theorem incN_sp (emp : Nat → Bool) : ∀ n i, (∀ j, i ≤ j → j < incN emp n i → emp j = true) ∧ (incN emp n i < i + n → emp (incN emp n i) = false)
  | 0, i => ⟨fun j a b => absurd b (by show ¬ j < i; omega), fun q => absurd q (by show ¬ i < i + 0; omega)⟩
  | n + 1, i => by
    have ih := incN_sp emp n (i + 1)
    unfold incN
    by_cases c : emp i = true
    · rw [if_pos c]
      refine ⟨fun j a b => ?_, fun q => ih.2 (by omega)⟩
      rcases Nat.lt_or_ge i j with z | z
      · exact ih.1 j (by omega) b
      · rw [show j = i by omega]; exact c
    · rw [if_neg c]
      refine ⟨fun j a b => absurd b (by omega), fun _ => ?_⟩
      cases hc : emp i
      · rfl
      · exact absurd hc c
theorem decN_sp (emp : Nat → Bool) : ∀ n i, n ≤ i → (∀ j, decN emp n i < j → j ≤ i → emp (j - 1) = true) ∧ (i - n < decN emp n i → emp (decN emp n i - 1) = false)
  | 0, i, _ => ⟨fun j a b => absurd a (by show ¬ i < j; omega), fun q => absurd q (by show ¬ i - 0 < i; omega)⟩
  | n + 1, i, hn => by
    have ih := decN_sp emp n (i - 1) (by omega)
    unfold decN
    by_cases c : emp (i - 1) = true
    · rw [if_pos c]
      refine ⟨fun j a b => ?_, fun q => ih.2 (by omega)⟩
      rcases Nat.lt_or_ge j i with z | z
      · exact ih.1 j a (by omega)
      · rw [show j = i by omega]; exact c
    · rw [if_neg c]
      refine ⟨fun j a b => absurd a (by omega), fun _ => ?_⟩
      cases hc : emp (i - 1)
      · rfl
      · exact absurd hc c
theorem colN2_iff (w h : Nat) (B : Nat → Int32) (x : Int32) : ∀ n y, colN2 w h B x n y = true ↔ ∀ k, k < n → isOnB w h B x (nI (y + k)) = false
  | 0, y => ⟨fun _ k hk => absurd hk (Nat.not_lt_zero k), fun _ => rfl⟩
  | n + 1, y => by
    have ih := colN2_iff w h B x n (y + 1)
    unfold colN2
    cases c : isOnB w h B x (nI y)
    · rw [if_neg (by decide), ih]
      constructor
      · intro a k hk
        cases k with
        | zero => exact c
        | succ k => have := a k (by omega); rw [show y + 1 + k = y + (k + 1) by omega] at this; exact this
      · intro a k hk
        have := a (k + 1) (by omega)
        rw [show y + (k + 1) = y + 1 + k by omega] at this; exact this
    · rw [if_pos rfl]
      exact ⟨fun q => (by cases q), fun a => by have := a 0 (by omega); rw [Nat.add_zero, c] at this; cases this⟩
theorem colZ_iff (hw : w ≤ 24) (hh : h ≤ 24) {x : Nat} (hx : x < w) : colZ w h B x = true ↔ ∀ y, y < h → bt (B y) x = false := by
  unfold colZ colE
  rw [colN2_iff]
  constructor
  · intro a y hy
    have := a y hy
    rw [Nat.zero_add, isOnB_nI hx hy hw hh] at this; exact this
  · intro a k hk
    rw [Nat.zero_add, isOnB_nI hx hk hw hh]; exact a k hk
theorem Rl.colB (hR : Rl w h B P) (hw : w ≤ 24) (hh : h ≤ 24) {x : Nat} (hx : x < w) : baC w h P (nI x) = colZ w h B x := by
  have h1 := hR.bareC hw hh hx
  have h2 := colZ_iff (B := B) hw hh hx
  cases c : colZ w h B x
  · cases d : baC w h P (nI x)
    · rfl
    · rw [h2.mpr (h1.mp d)] at c; cases c
  · exact h1.mpr (h2.mp c)
theorem Rl.rowB (hR : Rl w h B P) (hw : w ≤ 24) (hh : h ≤ 24) {y : Nat} (hy : y < h) : baR w h P (nI y) = rowZ B y := by
  have h1 := hR.bareR hw hh hy
  unfold rowZ
  by_cases c : B y = 0
  · rw [if_pos c]; exact h1.mpr c
  · rw [if_neg c]
    cases d : baR w h P (nI y)
    · rfl
    · exact absurd (h1.mp d) c
theorem Rl.some (hR : Rl w h B P) (hw : w ≤ 24) (hh : h ≤ 24) (hz : ¬ cntOn B h = 0) : ∃ x y, x < w ∧ y < h ∧ bt (B y) x = true := by
  refine Classical.byContradiction fun q => hz ?_
  have : ∀ i, i ≤ h → sumI (fun y => popc (B y)) i = 0 := by
    intro i
    induction i with
    | zero => intro _; rfl
    | succ i ih =>
      intro hi
      show sumI (fun y => popc (B y)) i + popc (B i) = 0
      rw [ih (by omega), hR.row hw (by omega), fb_ct_zero.mpr (fun x hx => by
        cases c : bt (B i) x
        · rfl
        · exact absurd ⟨x, i, hx, by omega, c⟩ q)]
      rfl
  exact this h (Nat.le_refl h)
theorem mCnt_le (P : Nat → Bool) : mCnt P ≤ 0 ↔ mCnt P = 0 := by
  unfold mCnt
  rw [sumI_b]
  have hc : ∀ n, fb_ct P n ≤ n := by
    intro n
    induction n with
    | zero => exact Nat.le_refl _
    | succ n ih => rw [fb_ct_succ]; split <;> omega
  have h1 := hc 576
  rw [show (0 : Int32) = nI 0 from rfl, nI_leI (by omega) (by omega), nI_eq (by omega) (by omega)]
  omega
theorem abs_a {a b : Nat} (h : b ≤ a) (ha : a < 2 ^ 31) : absI (nI a - nI b) = nI (a - b) := by
  unfold absI
  rw [pk_sub h, if_pos (nI_pos' (by omega))]
theorem abs_b {a b : Nat} (h : a ≤ b) (hb : b < 2 ^ 30) : absI (nI a - nI b) = nI (b - a) := by
  unfold absI
  have t := pk_sub_toInt (a := a) (b := b) (by omega) (by omega)
  by_cases c : 0 ≤ nI a - nI b
  · rw [if_pos c]
    rw [Int32.le_iff_toInt_le, t] at c
    have c : (0 : Int) ≤ (a : Int) - b := c
    rw [show a = b by omega, Nat.sub_self, Int32.sub_self]; rfl
  · rw [if_neg c]
    apply Int32.toInt_inj.mp
    have t0 : (0 : Int32).toInt = 0 := rfl
    rw [fb_subI (by omega) (by omega), t, nI_toInt (by omega), t0]
    omega
theorem Rl.crop0 (hR : Rl w h B P) (hw : w ≤ 24) (hh : h ≤ 24) {la ua ra da : Nat} (hra : ra ≤ w) (hW : Wn w h B la ua ra da) (hz : ¬ cntOn B h = 0) :
    la ≤ crL w h B la ra ∧ crL w h B la ra < ra ∧ (∀ i, la ≤ i → i < crL w h B la ra → baC w h P (nI i) = true) ∧ baC w h P (nI (crL w h B la ra)) = false ∧ Wn w h B (crL w h B la ra) ua ra da := by
  obtain ⟨x, y, hx, hy, hb⟩ := hR.some hw hh hz
  have hwx := hW x y hx hy hb
  obtain ⟨s1, s2⟩ := incN_sp (colZ w h B) (ra - la) la
  have hin := incN_in (colZ w h B) (ra - la) la
  have hlt : crL w h B la ra ≤ x := by
    rcases Nat.lt_or_ge x (crL w h B la ra) with q | q
    · have := (colZ_iff hw hh hx).mp (s1 x hwx.1 q) y hy
      rw [hb] at this; cases this
    · exact q
  refine ⟨hin.1, by omega, fun i a b => ?_, ?_, fun x' y' a b c => ?_⟩
  · rw [hR.colB hw hh (by omega)]; exact s1 i a b
  · rw [hR.colB hw hh (by omega)]; exact s2 (by unfold crL at hlt; omega)
  · have := hW x' y' a b c
    refine ⟨?_, this.2⟩
    rcases Nat.lt_or_ge x' (crL w h B la ra) with q | q
    · have := (colZ_iff hw hh a).mp (s1 x' this.1 q) y' b
      rw [c] at this; cases this
    · exact q
theorem Rl.crop1 (hR : Rl w h B P) (hw : w ≤ 24) (hh : h ≤ 24) {la ua ra da : Nat} (hda : da ≤ h) (hW : Wn w h B la ua ra da) (hz : ¬ cntOn B h = 0) :
    ua ≤ crU B ua da ∧ crU B ua da < da ∧ (∀ i, ua ≤ i → i < crU B ua da → baR w h P (nI i) = true) ∧ baR w h P (nI (crU B ua da)) = false ∧ Wn w h B la (crU B ua da) ra da := by
  obtain ⟨x, y, hx, hy, hb⟩ := hR.some hw hh hz
  have hwx := hW x y hx hy hb
  obtain ⟨s1, s2⟩ := incN_sp (rowZ B) (da - ua) ua
  have hin := incN_in (rowZ B) (da - ua) ua
  have rz : ∀ {x y}, rowZ B y = true → bt (B y) x = true → False := fun {x y} a b => by
    unfold rowZ at a
    by_cases c : B y = 0
    · rw [c, b_0] at b; cases b
    · rw [if_neg c] at a; cases a
  have hlt : crU B ua da ≤ y := by
    rcases Nat.lt_or_ge y (crU B ua da) with q | q
    · exact absurd hb (fun hb => rz (s1 y hwx.2.2.1 q) hb)
    · exact q
  refine ⟨hin.1, by omega, fun i a b => ?_, ?_, fun x' y' a b c => ?_⟩
  · rw [hR.rowB hw hh (by omega)]; exact s1 i a b
  · rw [hR.rowB hw hh (by omega)]; exact s2 (by unfold crU at hlt; omega)
  · have := hW x' y' a b c
    refine ⟨this.1, this.2.1, ?_, this.2.2.2⟩
    rcases Nat.lt_or_ge y' (crU B ua da) with q | q
    · exact absurd c (fun c => rz (s1 y' this.2.2.1 q) c)
    · exact q
theorem Rl.crop2 (hR : Rl w h B P) (hw : w ≤ 24) (hh : h ≤ 24) {la ua ra da : Nat} (hlr : la ≤ ra) (hra : ra ≤ w) (hW : Wn w h B la ua ra da) (hz : ¬ cntOn B h = 0) :
    la < crR w h B la ra ∧ crR w h B la ra ≤ ra ∧ (∀ i, crR w h B la ra < i → i ≤ ra → baC w h P (nI (i - 1)) = true) ∧ baC w h P (nI (crR w h B la ra - 1)) = false ∧ Wn w h B la ua (crR w h B la ra) da := by
  obtain ⟨x, y, hx, hy, hb⟩ := hR.some hw hh hz
  have hwx := hW x y hx hy hb
  obtain ⟨s1, s2⟩ := decN_sp (colZ w h B) (ra - la) ra (by omega)
  have hin := decN_in (colZ w h B) (ra - la) ra (by omega)
  have hlt : x < crR w h B la ra := by
    rcases Nat.lt_or_ge x (crR w h B la ra) with q | q
    · exact q
    · have := (colZ_iff hw hh hx).mp (s1 (x + 1) (by unfold crR at q; omega) (by omega)) y hy
      rw [hb] at this; cases this
  have hle : crR w h B la ra ≤ ra := hin.2
  refine ⟨by omega, hle, fun i a b => ?_, ?_, fun x' y' a b c => ?_⟩
  · rw [hR.colB hw hh (by omega)]; exact s1 i a b
  · rw [hR.colB hw hh (by omega)]; exact s2 (by unfold crR at hlt; omega)
  · have := hW x' y' a b c
    refine ⟨this.1, ?_, this.2.2⟩
    rcases Nat.lt_or_ge x' (crR w h B la ra) with q | q
    · exact q
    · have := (colZ_iff hw hh a).mp (s1 (x' + 1) (by unfold crR at q; omega) (by omega)) y' b
      rw [c] at this; cases this
theorem Rl.crop3 (hR : Rl w h B P) (hw : w ≤ 24) (hh : h ≤ 24) {la ua ra da : Nat} (hud : ua ≤ da) (hda : da ≤ h) (hW : Wn w h B la ua ra da) (hz : ¬ cntOn B h = 0) :
    ua < crD B ua da ∧ crD B ua da ≤ da ∧ (∀ i, crD B ua da < i → i ≤ da → baR w h P (nI (i - 1)) = true) ∧ baR w h P (nI (crD B ua da - 1)) = false ∧ Wn w h B la ua ra (crD B ua da) := by
  obtain ⟨x, y, hx, hy, hb⟩ := hR.some hw hh hz
  have hwx := hW x y hx hy hb
  obtain ⟨s1, s2⟩ := decN_sp (rowZ B) (da - ua) da (by omega)
  have hin := decN_in (rowZ B) (da - ua) da (by omega)
  have rz : ∀ {x y}, rowZ B y = true → bt (B y) x = true → False := fun {x y} a b => by
    unfold rowZ at a
    by_cases c : B y = 0
    · rw [c, b_0] at b; cases b
    · rw [if_neg c] at a; cases a
  have hlt : y < crD B ua da := by
    rcases Nat.lt_or_ge y (crD B ua da) with q | q
    · exact q
    · exact absurd hb (fun hb => rz (s1 (y + 1) (by unfold crD at q; omega) (by omega)) hb)
  have hle : crD B ua da ≤ da := hin.2
  refine ⟨by omega, hle, fun i a b => ?_, ?_, fun x' y' a b c => ?_⟩
  · rw [hR.rowB hw hh (by omega)]; exact s1 i a b
  · rw [hR.rowB hw hh (by omega)]; exact s2 (by unfold crD at hlt; omega)
  · have := hW x' y' a b c
    refine ⟨this.1, this.2.1, this.2.2.1, ?_⟩
    rcases Nat.lt_or_ge y' (crD B ua da) with q | q
    · exact q
    · exact absurd c (fun c => rz (s1 (y' + 1) (by unfold crD at q; omega) (by omega)) c)
end PUT
