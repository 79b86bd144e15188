/-! THE LAW'S ENTRY -/
def cellV (L : Nat) (xs : Nat → Int32) (k : Nat) : Int32 := if k < L then xs k else 0
abbrev rmL_cell : Room := { frames := 1, cells := 0, slots := 0, locals := 20 }
abbrev kPcC (b L : Nat) (xs : Nat → Int32) (k sz : Nat) : Array Value → State → Prop := va_Pc [.ref b, .int (nI k)] (fun U => U.heap.size = sz ∧ b < sz ∧ va_X b L xs U U.heap)
theorem kBlindC (b L : Nat) (xs : Nat → Int32) (k sz : Nat) : FrameBlind (kPcC b L xs k sz) := by
  intro a U g mk q
  obtain ⟨q0, q1, q2, q3⟩ := q
  exact ⟨q0, q1, q2, va_X.moved (u := U) (U := U.calling g mk a) (Vm.Alike.refl U.vm) q3⟩
set_option maxHeartbeats 4000000 in
theorem kL_cell (l : Launch) (b L : Nat) (xs : Nat → Int32) (k : Nat) (hk : k < 2) (hL : L ≤ 2562) (sz : Nat) : Met l yL_cell wsL_cell rmL_cell (kPcC b L xs k sz) (va_Qi (fun r (_ : Unit) => r = cellV L xs k) (fun _ _ => True) (va_A [] sz)) 0 0 (va_A [] sz) := by
  refine kOfW (cc := cL_cell) (maxL := 2) (ret := some .int) (plainFor_of_name (by decide)) rfl ?_
  intro p e s m args below meth c s₁ B0 hml hv
  obtain ⟨rfl, hsz, hbl, hXs⟩ := hv
  subst hsz
  have hx := B0.exec
  have hb := B0.bytes
  have hr := B0.returns
  have hlocks := B0.notSynchronized
  have hl := lv_entry ([.ref b, .int (nI k)]) (n := 2) (Nat.le_of_ble_eq_true rfl)
  rw [lg_entry_eq]
  generalize (lg_sl ([.ref b, .int (nI k)]) ++ List.replicate (2 - (lg_sl ([.ref b, .int (nI k)])).length) Slot.unset).toArray = ls at hl ⊢
  have hl : lv_has ls 2 [(0, .ref b), (1, .int (nI k))] := hl
  have hS : va_S (va_A [] s.heap.size) s.heap s.heap [] := va_S.rf
  have hbA : ¬ va_A [] s.heap.size b := by
    rintro (⟨k2, e2, h2⟩ | h2)
    · simp at h2
    · omega
  refine lv_iload_n hx hb dL_cell_0 rfl (lv_at hl 1 rfl) ?_
  refine lv_aload_n hx hb dL_cell_1 rfl (lv_at hl 0 rfl) ?_
  refine va_slen hx hb hXs hbl hbA hS dL_cell_2 ?_
  refine kTopI (z := nI L) rfl ?_
  refine kGe (a := k) (n := L) (by omega) (by omega) (tgt := 12) hx hb dL_cell_3 (by decide) (fun c_3 => ?_) (fun c_3 => ?_)
  · refine lv_iconst (v := 0) hx hb dL_cell_12 (by decide) ?_
    exact W.zret hx hb hr rfl (fun t ht hW => ⟨⟨_, (), rfl, (if_neg (Nat.not_lt.mpr c_3)).symm, trivial⟩, hS.F ht⟩) hS.2.2 dL_cell_13 hlocks
  · refine lv_aload_n hx hb dL_cell_6 rfl (lv_at hl 0 rfl) ?_
    refine lv_iload_n hx hb dL_cell_7 rfl (lv_at hl 1 rfl) ?_
    refine va_sld hx hb hXs hbl hbA hS (vp_in_nI (n := k) (N := L) (by omega) (by omega)) dL_cell_8 ?_
    rw [nI_clamp (n := k) (by omega)]
    refine lv_goto (tgt := 13) hx hb dL_cell_9 (by decide) ?_
    exact W.zret hx hb hr rfl (fun t ht hW => ⟨⟨_, (), rfl, (if_pos c_3).symm, trivial⟩, hS.F ht⟩) hS.2.2 dL_cell_13 hlocks
theorem kCell {p : Program} {l : Launch} {e : Env} {R : Room} {s : State} {m : MethodId} {args : Array Value} {below : List Frame} {meth : Method} {c : Code} {H : Heap} {locs : List Loc} {cells slots : Nat} {Q : State → Prop} {G : va_G} {w : va_W} {A : Nat → Prop} {cc : ByteArray} {nL index pc : Nat} {Ts : List Cond} {own : String} {ls : Array Slot} {rest : List Value} {b L : Nat} {xs : Nat → Int32}
    (k : Nat) (hk : k < 2) (hL : L ≤ 2562) (hXs : va_X b L xs s s.heap) (hbl : b < s.heap.size) (hbA : ¬ A b) (S : CallFix p m c cc nL s args Ts own) (cw : CallB R s args own index yL_cell cL_cell 2 (some .int) wsL_cell rmL_cell 0 0 2 ∧ (Cond.static yL_cell).before args s = true)
    (hP : va_P G vwCl w H) (hD : va_D A w) (hS : va_S A s.heap H locs) (hA : ∀ q : Nat, s.heap.size ≤ q → A q) (hsize : ls.size = nL) (hW : (rest.map fun v => v.category).sum ≤ 8) (hdg : decode cc pc = .ok (.invokestatic index, 3)) (hf : cells ≤ R.cells ∧ slots ≤ R.slots)
    (kk : ∀ (H1 : Heap) (locs1 : List Loc), va_P G vwCl w H1 → va_D A w → va_S A s.heap H1 locs1 → W p l e R s m args below meth c H1 locs1 cells slots Q (F0 m (pc + 3) ls (.int (cellV L xs k) :: rest))) :
    W p l e R s m args below meth c H locs cells slots Q (F0 m pc ls (.int (nI k) :: .ref b :: rest)) := by
  have hF := va_free (wc := []) hD hS hA [] rfl
  have hXH : va_X b L xs s H := hXs.kept (hS.2.1 b hbl hbA)
  refine va_calli (va_runS (As := [.ref b, .int (nI k)]) (rest := rest) S (kL_cell l b L xs k hk hL H.size) cw ⟨kBlindC _ _ _ _ _, fun U hU hW => ⟨rfl, by rw [hU], Nat.lt_of_lt_of_le hbl hS.1, by rw [hU]; exact hXH.moved hW.alike⟩⟩ rfl rfl hsize rfl (lv_room hW) hdg hf) hS (fun q _ h => hF q h) hF (fun r u t H1 locs1 ht hvm hw hB hz1 hk1 hS1 => ?_)
  subst hw
  refine kk H1 locs1 (hP.kept fun k q hq => hk1 q.1 ((hP k q hq).lt) ?_) hD hS1
  rintro (⟨k2, e2, h2⟩ | h2)
  · simp at h2
  · have := (hP k q hq).lt
    omega
theorem near_small : ∀ j, j < 25 → 0 < j → nearF (nI j) = nI j ∧ clF (nI j) = nI j := by decide +kernel
theorem near_ex (x : Int32) : ∃ w : Nat, 0 < w ∧ w ≤ 24 ∧ nearF x = nI w ∧ clF x = nI w := by
  by_cases h1 : 1 ≤ x
  · by_cases h2 : x ≤ 24
    · obtain ⟨j, hj, e⟩ := nI_of2 (M := 24) (n := 24) (by decide +kernel) (fun q => Int32.lt_irrefl (Int32.lt_of_lt_of_le q (Int32.le_trans (b := 1) (by decide +kernel) h1))) h2
      subst e
      have h0 : 0 < j := by
        rcases Nat.eq_zero_or_pos j with q | q
        · subst q; exact absurd h1 (by decide +kernel)
        · exact q
      obtain ⟨a, b⟩ := near_small j (by omega) h0
      exact ⟨j, h0, hj, a, b⟩
    · refine ⟨24, by decide, by decide, ?_, ?_⟩
      · have h3 : ¬ x < 24 := fun q => h2 (Int32.le_of_lt q)
        unfold nearF minF
        rw [if_neg h3]
        decide +kernel
      · unfold clF
        rw [if_pos h1, if_neg h2]
        rfl
  · refine ⟨1, by decide, by decide, ?_, ?_⟩
    · have h3 : ¬ 1 < x := fun q => h1 (Int32.le_of_lt q)
      have h4 : x < 24 := Int32.lt_of_lt_of_le (Int32.not_le.mp h1) (by decide)
      unfold nearF minF
      rw [if_pos h4, if_neg h3]
      rfl
    · unfold clF
      rw [if_neg h1]
      rfl
theorem law_arr {args : Array Value} {s : State} {ty : FieldType} (hp : ∀ C : String, ty ≠ .object C) (h : (Cond.arrayClass ty).before args s = true) : ∃ cA : ClassId, ArrOfT s cA ty ∧ va_RA s cA ty := by
  obtain ⟨cA, kA, comp, h1, h2, h3⟩ := Cond.arrayClass_spec h
  refine ⟨cA, fun n z => ⟨fun k h => (by cases h), kA, h2, comp, h3⟩, ?_⟩
  cases ty with
  | object C => exact absurd rfl (hp C)
  | _ => exact h1
def gvC : Cond := Jvm.Cond.and given_1 narrow_1
theorem law_out {s : State} : ∀ a : Nat, a < s.heap.size → ¬ lwA s a := fun _ h => Nat.not_le.mpr h
set_option maxRecDepth 100000 in
theorem law_kX {b : Nat} {s : State} (hts : ∀ w ∈ lw_tbl, w.before #[Value.ref b] s = true) (hgv : gvC.before #[Value.ref b] s = true) : ∃ t0, kX t0 (lwA s) s s.heap := by
  have hq := flat_of_before _ hgv
  obtain ⟨t, ht, hT⟩ := va_Tof (args := #[Value.ref b]) (s := s) (tm := .static "SkewFind$Search" "STEPS" "[I") (ty := .int) (N := 6) (f := fun j => .int (stpN j)) (A := lwA s) (by decide) (hq (.arrayOf (.static "SkewFind$Search" "STEPS" "[I") .int) (by decide +kernel)) (va_eqt (z := Int32.ofNat 6) (hq (.eq (.length (.static "SkewFind$Search" "STEPS" "[I")) (.int (Int32.ofNat 6))) (by decide +kernel))) (fun j hj => by
    rcases (show j = 0 ∨ j = 1 ∨ j = 2 ∨ j = 3 ∨ j = 4 ∨ j = 5 by omega) with rfl | rfl | rfl | rfl | rfl | rfl
    · exact va_eqt (z := 50) (hq (.eq (.elem (.static "SkewFind$Search" "STEPS" "[I") (.int (Int32.ofNat 0))) (.int 50)) (by decide +kernel))
    · exact va_eqt (z := 25) (hq (.eq (.elem (.static "SkewFind$Search" "STEPS" "[I") (.int (Int32.ofNat 1))) (.int 25)) (by decide +kernel))
    · exact va_eqt (z := 12) (hq (.eq (.elem (.static "SkewFind$Search" "STEPS" "[I") (.int (Int32.ofNat 2))) (.int 12)) (by decide +kernel))
    · exact va_eqt (z := 6) (hq (.eq (.elem (.static "SkewFind$Search" "STEPS" "[I") (.int (Int32.ofNat 3))) (.int 6)) (by decide +kernel))
    · exact va_eqt (z := 3) (hq (.eq (.elem (.static "SkewFind$Search" "STEPS" "[I") (.int (Int32.ofNat 4))) (.int 3)) (by decide +kernel))
    · exact va_eqt (z := 1) (hq (.eq (.elem (.static "SkewFind$Search" "STEPS" "[I") (.int (Int32.ofNat 5))) (.int 1)) (by decide +kernel))) law_out
  exact ⟨t, va_Zof (hts (.laysStatic "SkewFind$Search" "STEPS" "[I") (by decide +kernel)) (hts (.initialized "SkewFind$Search") (by decide +kernel)) ht law_out, hT⟩
set_option maxRecDepth 100000 in
theorem law_kT {b : Nat} {s : State} (hts : ∀ w ∈ lw_tbl, w.before #[Value.ref b] s = true) (hgv : gvC.before #[Value.ref b] s = true) {E : String} {ix : Nat} {tx : String} (h1 : Cond.castable E E ∈ lw_tbl) (h2 : Cond.stringRef RX5 ix tx ∈ lw_tbl) (h3 : Cond.exactly (.string RX5 ix) "java/lang/String" ∈ flatC gvC) : ∃ sa, kT E ix tx sa (lwA s) s s.heap := by
  have hq := flat_of_before _ hgv
  obtain ⟨a, c, cA, kA, q1, -⟩ := Cond.exactly_spec (args := #[Value.ref b]) (first := s) (o := none) (s := s) (idx := []) (t := .string RX5 ix) (cls := "java/lang/String") (hq _ h3)
  refine ⟨a, ⟨vx_Zqof (hts (.laysStatic Bundle.tN "UNASSIGNED_STACK" Bundle.steD) (by decide +kernel)) (hts (.initialized Bundle.tN) (by decide +kernel)) (hq (.isRef (.static Bundle.tN "UNASSIGNED_STACK" Bundle.steD)) (by decide +kernel)) law_out, vx_Zqof (hts (.laysStatic Bundle.tN "SUPPRESSED_SENTINEL" Bundle.listD) (by decide +kernel)) (hts (.initialized Bundle.tN) (by decide +kernel)) (hq (.isRef (.static Bundle.tN "SUPPRESSED_SENTINEL" Bundle.listD)) (by decide +kernel)) law_out⟩, va_Nw.of rfl (hts _ h1), vk_R.of (hts _ h2) q1, va_Nc.of (hq (.not (.castable kX_ia kX_io)) (by decide +kernel)), va_Nc.of (hq (.not (.castable kX_uo kX_ia)) (by decide +kernel)), va_Nw.of rfl (hts (.declares (Bundle.initS "java/lang/RuntimeException")) (by decide +kernel)), va_Nw.of rfl (hts (.declares (Bundle.initS "java/lang/Exception")) (by decide +kernel)), va_Nw.of rfl (hts (.declares (Bundle.initS Bundle.tN)) (by decide +kernel))⟩
set_option maxRecDepth 100000 in
theorem law_LwT {b : Nat} {s : State} (hts : ∀ w ∈ lw_tbl, w.before #[Value.ref b] s = true) (hgv : gvC.before #[Value.ref b] s = true) : LwT s :=
  ⟨law_kT hts hgv (by decide +kernel) (by decide +kernel) (by decide +kernel), law_kT hts hgv (by decide +kernel) (by decide +kernel) (by decide +kernel), law_kT hts hgv (by decide +kernel) (by decide +kernel) (by decide +kernel), law_kT hts hgv (by decide +kernel) (by decide +kernel) (by decide +kernel), law_kT hts hgv (by decide +kernel) (by decide +kernel) (by decide +kernel), law_kT hts hgv (by decide +kernel) (by decide +kernel) (by decide +kernel), law_kT hts hgv (by decide +kernel) (by decide +kernel) (by decide +kernel), law_kT hts hgv (by decide +kernel) (by decide +kernel) (by decide +kernel), law_kT hts hgv (by decide +kernel) (by decide +kernel) (by decide +kernel)⟩
theorem wd_ent_cl5 : Cond.classLink RL 8 RX5 ∈ wsL_law := by decide +kernel
theorem wd_ent_in5 : Cond.instantiable RX5 6 ∈ wsL_law := by decide +kernel
theorem wd_ent_ii5 : Cond.initialized RX5 ∈ wsL_law := by decide +kernel
theorem wd_ent_ml5 : Cond.methodLink RL 65 yX5_init ∈ wsL_law := by decide +kernel
theorem wd_ent_im5 : Cond.instanceMethod yX5_init ∈ wsL_law := by decide +kernel
theorem wd_ent_cl6 : Cond.classLink RL 68 RX6 ∈ wsL_law := by decide +kernel
theorem wd_ent_in6 : Cond.instantiable RX6 14 ∈ wsL_law := by decide +kernel
theorem wd_ent_ii6 : Cond.initialized RX6 ∈ wsL_law := by decide +kernel
theorem wd_ent_ml6 : Cond.methodLink RL 70 yX6_init ∈ wsL_law := by decide +kernel
theorem wd_ent_im6 : Cond.instanceMethod yX6_init ∈ wsL_law := by decide +kernel
theorem wd_ent_acj : Cond.arrayClass .long ∈ wsL_law := by decide +kernel
theorem wd_ent_acd : Cond.arrayClass .double ∈ wsL_law := by decide +kernel
set_option maxRecDepth 100000 in
set_option maxHeartbeats 4000000 in
theorem whole_start {p : Program} {e : Env} {s : State} {m : MethodId} {below : List Frame} {meth : Method} {c : Code} (l : Launch) (hflags : l.flags = flags0) {b L : Nat} {xs : Nat → Int32} (hL : L ≤ 2562) (C0 : lw_At p s m meth c b L xs) : W p l e room_1 s m #[Value.ref b] below meth c s.heap [] 0 0 (lw_Z below #[Value.ref b] s) (entryFrame m ([Value.ref b] : List Value).toArray 9) := by
  obtain ⟨hx, hb, hr, hml, hown, hts0, hXs, hbl, hlocks, hgv⟩ := id C0
  have hfl : l.stackTraces = false := by
    unfold Launch.stackTraces
    rw [hflags]
    decide +kernel
  have hts : ∀ w ∈ wsL_law, w.before #[Value.ref b] s = true := fun w hw => hts0 w (wsL_law_in w hw)
  have hown : s.vm.findClass RL = some m.cls := hown
  obtain ⟨t0, hX⟩ := law_kX hts0 hgv
  have hTs := law_LwT hts0 hgv
  have hA : ∀ q : Nat, s.heap.size ≤ q → lwA s q := fun _ h9 => h9
  have hbA : ¬ lwA s b := Nat.not_le.mpr hbl
  obtain ⟨c0, i0, hK0⟩ := u_known (C := RX0) (T := TX0) (N := 6) (n := 6) hts0 inX0 (hts0 (.instantiable RX0 6) (by decide +kernel))
  obtain ⟨c1, i1, hK1⟩ := u_known (C := RX2) (T := TX2) (N := 1) (n := 1) hts0 inX2 (hts0 (.instantiable RX2 1) (by decide +kernel))
  obtain ⟨c2, i2, hK2⟩ := u_known (C := RX3) (T := TX3) (N := 7) (n := 7) hts0 inX3 (hts0 (.instantiable RX3 7) (by decide +kernel))
  obtain ⟨c3, i3, hK3⟩ := u_known (C := RX4) (T := TX4) (N := 5) (n := 5) hts0 inX4 (hts0 (.instantiable RX4 5) (by decide +kernel))
  obtain ⟨c4, i4, hK4⟩ := u_known (C := RX5) (T := TX5) (N := 6) (n := 6) hts0 inX5 (hts0 (.instantiable RX5 6) (by decide +kernel))
  obtain ⟨c5, i5, hK5⟩ := u_known (C := RX6) (T := TX6) (N := 14) (n := 14) hts0 inX6 (hts0 (.instantiable RX6 14) (by decide +kernel))
  obtain ⟨cI, hAcI, hRcI⟩ := law_arr (ty := .int) (fun _ h9 => by cases h9) (hts0 (.arrayClass .int) (by decide +kernel))
  obtain ⟨cZ, hAcZ, hRcZ⟩ := law_arr (ty := .boolean) (fun _ h9 => by cases h9) (hts0 (.arrayClass .boolean) (by decide +kernel))
  obtain ⟨cJ, hAcJ, hRcJ⟩ := law_arr (ty := .long) (fun _ h9 => by cases h9) (hts0 (.arrayClass .long) (by decide +kernel))
  obtain ⟨cD, hAcD, hRcD⟩ := law_arr (ty := .double) (fun _ h9 => by cases h9) (hts0 (.arrayClass .double) (by decide +kernel))
  obtain ⟨G, hKc⟩ : ∃ G : va_G, ∀ (k : Nat) (q : vw_C), vwCl[k]? = some q → u_Kn s q.1 q.2.1 q.2.2 (G.1 k) (G.2 k) := by
    refine ⟨(fun k => [c0, c1, c2, c3, c4, c5].getD k c0, fun k => [i0, i1, i2, i3, i4, i5].getD k i0), ?_⟩
    intro k q hq
    match k, hq with
    | 0, hq => cases hq; exact hK0
    | 1, hq => cases hq; exact hK1
    | 2, hq => cases hq; exact hK2
    | 3, hq => cases hq; exact hK3
    | 4, hq => cases hq; exact hK4
    | 5, hq => cases hq; exact hK5
    | k + 6, hq => simp [vwCl] at hq
  have hK : va_K G vwCl (kTy cI cZ cJ cD) s := by
    refine ⟨hKc, fun k q hq => ?_⟩
    match k, hq with
    | 0, hq => cases hq; exact ⟨hAcI, hRcI⟩
    | 1, hq => cases hq; exact ⟨hAcZ, hRcZ⟩
    | 2, hq => cases hq; exact ⟨hAcJ, hRcJ⟩
    | 3, hq => cases hq; exact ⟨hAcD, hRcD⟩
    | k + 4, hq => simp [kTy] at hq
  have hS : va_S (lwA s) s.heap s.heap [] := va_S.rf
  have hP : va_P G vwCl [] s.heap := fun k q h => by simp at h
  have hD : va_D (lwA s) [] := ⟨fun i j p q h => by simp at h, fun k q h => by simp at h⟩
  have hl := lv_entry ([.ref b]) (n := 9) (Nat.le_of_ble_eq_true rfl)
  rw [lg_entry_eq]
  generalize (lg_sl ([.ref b]) ++ List.replicate (9 - (lg_sl ([.ref b])).length) Slot.unset).toArray = ls at hl ⊢
  have hl : lv_has ls 9 [(0, .ref b)] := hl
  obtain ⟨w, hw0, hw, hwx, hcx⟩ := near_ex (cellV L xs 0)
  obtain ⟨h, hh0, hh, hhx, hch⟩ := near_ex (cellV L xs 1)
  refine va_new (ci := 4) (fs := [.null, .null, .null, .null, .null, .int 0]) (C := RX5) (T := TX5) (N := 6) hx hb hts inlX5 tyX5 tyX5_ok hown (hts _ wd_ent_cl5) (hts _ wd_ent_in5) (hts _ wd_ent_ii5) hK hP hD hS hA rfl (fun j hj => by rcases (show j = 0 ∨ j = 1 ∨ j = 2 ∨ j = 3 ∨ j = 4 ∨ j = 5 by omega) with rfl | rfl | rfl | rfl | rfl | rfl <;> rfl) (Nat.le_of_ble_eq_true rfl) (Nat.le_of_ble_eq_true rfl) dL_law_0 (fun x0 H (hP : va_P G vwCl [(x0, .inr (4, [.null, .null, .null, .null, .null, .int 0]))] H) (hD : va_D (lwA s) [(x0, .inr (4, [.null, .null, .null, .null, .null, .int 0]))]) hS => ?_)
  refine lv_dup hx hb dL_law_3 rfl ?_
  refine lv_aload_n hx hb dL_law_4 rfl (lv_at hl 0 rfl) ?_
  refine lv_iconst (v := 0) hx hb dL_law_5 (by decide) ?_
  refine kTopI (z := nI 0) rfl ?_
  refine kCell 0 (by decide) hL hXs hbl hbA ⟨hx, hb, hml, hown, hts⟩ (va_cwS 2 hts gL_law_L_cell rfl rfl rfl hs_L_cell ⟨Nat.le_of_ble_eq_true rfl, Nat.le_of_ble_eq_true rfl⟩) hP hD hS hA hl.1 (Nat.le_of_ble_eq_true rfl) dL_law_6 ⟨Nat.le_of_ble_eq_true rfl, Nat.le_of_ble_eq_true rfl⟩ (fun H locs hP hD hS => ?_)
  refine lv_aload_n hx hb dL_law_9 rfl (lv_at hl 0 rfl) ?_
  refine lv_iconst (v := 1) hx hb dL_law_10 (by decide) ?_
  refine kTopI (z := nI 1) rfl ?_
  refine kCell 1 (by decide) hL hXs hbl hbA ⟨hx, hb, hml, hown, hts⟩ (va_cwS 2 hts gL_law_L_cell rfl rfl rfl hs_L_cell ⟨Nat.le_of_ble_eq_true rfl, Nat.le_of_ble_eq_true rfl⟩) hP hD hS hA hl.1 (Nat.le_of_ble_eq_true rfl) dL_law_11 ⟨Nat.le_of_ble_eq_true rfl, Nat.le_of_ble_eq_true rfl⟩ (fun H locs hP hD hS => ?_)
  refine kIn (wr := []) (isC := [0]) (isR := []) (rest := [.ref x0]) (kX5_init l G cI cZ cJ cD x0 w h hw hh (cellV L xs 0) (cellV L xs 1) hwx hhx) ⟨hx, hb, hml, hown, hts⟩ (cwI 2 hts gL_law_X5_init rfl rfl rfl (hts _ wd_ent_ii5) (hts _ wd_ent_ml5) (hts _ wd_ent_im5) rfl (by decide +kernel) ⟨Nat.le_of_ble_eq_true rfl, Nat.le_of_ble_eq_true rfl⟩) hK hP hD hS hA rfl rfl rfl (by decide) rfl rfl hl.1 rfl (Nat.le_of_ble_eq_true rfl) dL_law_14 ⟨Nat.le_of_ble_eq_true rfl, Nat.le_of_ble_eq_true rfl⟩ (fun f H locs (hP : va_P G vwCl [(x0, .inr (4, [.ref (f 5), .ref (f 1), .ref (f 2), .ref (f 4), .ref (f 0), .int (nI 0)])), (f 0, .inl (cI, 16, .inl (fun _ => 0))), (f 1, .inr (3, [.ref (f 5), .int (nI 0), .int (nI 0), .int (nI w), .int (nI h)])), (f 2, .inr (2, [.ref (f 5), .ref (f 3), .int (b2i false), .int (b2i false), .double FP.dconst0, .int 0, .double FP.dconst0])), (f 3, .inl (cI, 48, .inl (fun _ => 0))), (f 4, .inr (1, [.ref (f 5)])), (f 5, .inr (0, [.int (nI w), .int (nI h), .double (midF w), .double (midF h), .ref (f 6), .ref (f 7)])), (f 6, .inl (cI, 24, .inl (fun _ => 0))), (f 7, .inl (cI, 24, .inl (fun _ => 0)))] H) (hD : va_D (lwA s) [(x0, .inr (4, [.ref (f 5), .ref (f 1), .ref (f 2), .ref (f 4), .ref (f 0), .int (nI 0)])), (f 0, .inl (cI, 16, .inl (fun _ => 0))), (f 1, .inr (3, [.ref (f 5), .int (nI 0), .int (nI 0), .int (nI w), .int (nI h)])), (f 2, .inr (2, [.ref (f 5), .ref (f 3), .int (b2i false), .int (b2i false), .double FP.dconst0, .int 0, .double FP.dconst0])), (f 3, .inl (cI, 48, .inl (fun _ => 0))), (f 4, .inr (1, [.ref (f 5)])), (f 5, .inr (0, [.int (nI w), .int (nI h), .double (midF w), .double (midF h), .ref (f 6), .ref (f 7)])), (f 6, .inl (cI, 24, .inl (fun _ => 0))), (f 7, .inl (cI, 24, .inl (fun _ => 0)))]) hS => ?_)
  refine lv_astore_n (lv' := [(1, .ref x0), (0, .ref b)]) hx hb dL_law_17 rfl hl (by decide) rfl (fun ls hl => ?_)
  refine va_new (ci := 5) (fs := [.int 0, .int 0, .int 0, .null, .null, .null, .int 0, .int 0, .double 0, .null, .int 0, .null, .int 0, .int 0]) (C := RX6) (T := TX6) (N := 14) hx hb hts inlX6 tyX6 tyX6_ok hown (hts _ wd_ent_cl6) (hts _ wd_ent_in6) (hts _ wd_ent_ii6) hK hP hD hS hA rfl (fun j hj => by rcases (show j = 0 ∨ j = 1 ∨ j = 2 ∨ j = 3 ∨ j = 4 ∨ j = 5 ∨ j = 6 ∨ j = 7 ∨ j = 8 ∨ j = 9 ∨ j = 10 ∨ j = 11 ∨ j = 12 ∨ j = 13 by omega) with rfl | rfl | rfl | rfl | rfl | rfl | rfl | rfl | rfl | rfl | rfl | rfl | rfl | rfl <;> rfl) (Nat.le_of_ble_eq_true rfl) (Nat.le_of_ble_eq_true rfl) dL_law_18 (fun z0 H (hP : va_P G vwCl [(x0, .inr (4, [.ref (f 5), .ref (f 1), .ref (f 2), .ref (f 4), .ref (f 0), .int (nI 0)])), (f 0, .inl (cI, 16, .inl (fun _ => 0))), (f 1, .inr (3, [.ref (f 5), .int (nI 0), .int (nI 0), .int (nI w), .int (nI h)])), (f 2, .inr (2, [.ref (f 5), .ref (f 3), .int (b2i false), .int (b2i false), .double FP.dconst0, .int 0, .double FP.dconst0])), (f 3, .inl (cI, 48, .inl (fun _ => 0))), (f 4, .inr (1, [.ref (f 5)])), (f 5, .inr (0, [.int (nI w), .int (nI h), .double (midF w), .double (midF h), .ref (f 6), .ref (f 7)])), (f 6, .inl (cI, 24, .inl (fun _ => 0))), (f 7, .inl (cI, 24, .inl (fun _ => 0))), (z0, .inr (5, [.int 0, .int 0, .int 0, .null, .null, .null, .int 0, .int 0, .double 0, .null, .int 0, .null, .int 0, .int 0]))] H) (hD : va_D (lwA s) [(x0, .inr (4, [.ref (f 5), .ref (f 1), .ref (f 2), .ref (f 4), .ref (f 0), .int (nI 0)])), (f 0, .inl (cI, 16, .inl (fun _ => 0))), (f 1, .inr (3, [.ref (f 5), .int (nI 0), .int (nI 0), .int (nI w), .int (nI h)])), (f 2, .inr (2, [.ref (f 5), .ref (f 3), .int (b2i false), .int (b2i false), .double FP.dconst0, .int 0, .double FP.dconst0])), (f 3, .inl (cI, 48, .inl (fun _ => 0))), (f 4, .inr (1, [.ref (f 5)])), (f 5, .inr (0, [.int (nI w), .int (nI h), .double (midF w), .double (midF h), .ref (f 6), .ref (f 7)])), (f 6, .inl (cI, 24, .inl (fun _ => 0))), (f 7, .inl (cI, 24, .inl (fun _ => 0))), (z0, .inr (5, [.int 0, .int 0, .int 0, .null, .null, .null, .int 0, .int 0, .double 0, .null, .int 0, .null, .int 0, .int 0]))]) hS => ?_)
  refine lv_dup hx hb dL_law_21 rfl ?_
  refine lv_aload_n hx hb dL_law_22 rfl (lv_at hl 1 rfl) ?_
  refine lv_iconst (v := 0) hx hb dL_law_23 (by decide) ?_
  refine kTopI (z := nI 0) rfl ?_
  refine kCell 0 (by decide) hL hXs hbl hbA ⟨hx, hb, hml, hown, hts⟩ (va_cwS 2 hts gL_law_L_cell rfl rfl rfl hs_L_cell ⟨Nat.le_of_ble_eq_true rfl, Nat.le_of_ble_eq_true rfl⟩) hP hD hS hA hl.1 (Nat.le_of_ble_eq_true rfl) dL_law_24 ⟨Nat.le_of_ble_eq_true rfl, Nat.le_of_ble_eq_true rfl⟩ (fun H locs hP hD hS => ?_)
  refine lv_aload_n hx hb dL_law_27 rfl (lv_at hl 1 rfl) ?_
  refine lv_iconst (v := 1) hx hb dL_law_28 (by decide) ?_
  refine kTopI (z := nI 1) rfl ?_
  refine kCell 1 (by decide) hL hXs hbl hbA ⟨hx, hb, hml, hown, hts⟩ (va_cwS 2 hts gL_law_L_cell rfl rfl rfl hs_L_cell ⟨Nat.le_of_ble_eq_true rfl, Nat.le_of_ble_eq_true rfl⟩) hP hD hS hA hl.1 (Nat.le_of_ble_eq_true rfl) dL_law_29 ⟨Nat.le_of_ble_eq_true rfl, Nat.le_of_ble_eq_true rfl⟩ (fun H locs hP hD hS => ?_)
  refine kIn (wr := [(x0, .inr (4, [.ref (f 5), .ref (f 1), .ref (f 2), .ref (f 4), .ref (f 0), .int (nI 0)])), (f 0, .inl (cI, 16, .inl (fun _ => 0))), (f 1, .inr (3, [.ref (f 5), .int (nI 0), .int (nI 0), .int (nI w), .int (nI h)])), (f 2, .inr (2, [.ref (f 5), .ref (f 3), .int (b2i false), .int (b2i false), .double FP.dconst0, .int 0, .double FP.dconst0])), (f 3, .inl (cI, 48, .inl (fun _ => 0))), (f 4, .inr (1, [.ref (f 5)])), (f 5, .inr (0, [.int (nI w), .int (nI h), .double (midF w), .double (midF h), .ref (f 6), .ref (f 7)])), (f 6, .inl (cI, 24, .inl (fun _ => 0))), (f 7, .inl (cI, 24, .inl (fun _ => 0)))]) (isC := [9]) (isR := [0, 1, 2, 3, 4, 5, 6, 7, 8]) (rest := [.ref z0]) (kX6_init l G cI cZ cJ cD z0 w h hw hh (cellV L xs 0) (cellV L xs 1) hcx hch) ⟨hx, hb, hml, hown, hts⟩ (cwI 2 hts gL_law_X6_init rfl rfl rfl (hts _ wd_ent_ii6) (hts _ wd_ent_ml6) (hts _ wd_ent_im6) rfl (by decide +kernel) ⟨Nat.le_of_ble_eq_true rfl, Nat.le_of_ble_eq_true rfl⟩) hK hP hD hS hA rfl rfl rfl (by decide) rfl rfl hl.1 rfl (Nat.le_of_ble_eq_true rfl) dL_law_32 ⟨Nat.le_of_ble_eq_true rfl, Nat.le_of_ble_eq_true rfl⟩ (fun g H locs (hP : va_P G vwCl [(x0, .inr (4, [.ref (f 5), .ref (f 1), .ref (f 2), .ref (f 4), .ref (f 0), .int (nI 0)])), (f 0, .inl (cI, 16, .inl (fun _ => 0))), (f 1, .inr (3, [.ref (f 5), .int (nI 0), .int (nI 0), .int (nI w), .int (nI h)])), (f 2, .inr (2, [.ref (f 5), .ref (f 3), .int (b2i false), .int (b2i false), .double FP.dconst0, .int 0, .double FP.dconst0])), (f 3, .inl (cI, 48, .inl (fun _ => 0))), (f 4, .inr (1, [.ref (f 5)])), (f 5, .inr (0, [.int (nI w), .int (nI h), .double (midF w), .double (midF h), .ref (f 6), .ref (f 7)])), (f 6, .inl (cI, 24, .inl (fun _ => 0))), (f 7, .inl (cI, 24, .inl (fun _ => 0))), (z0, .inr (5, [.int 0, .int (nI w), .int (nI h), .ref (g 0), .ref (g 1), .ref (g 2), .int (b2i false), .int (b2i false), .double 0, .ref (g 3), .int (nI 0), .ref (g 4), .int 0, .int 0])), (g 0, .inl (cZ, 576, .inl (bA (fun _ => false)))), (g 1, .inl (cZ, 576, .inl (bA (fun _ => false)))), (g 2, .inl (cI, 4, .inl (e4 (fun _ => 0) 0 0 (nI w) (nI h)))), (g 3, .inl (cI, 16, .inl (fun _ => 0))), (g 4, .inl (cI, 104, .inl (fun _ => 0)))] H) (hD : va_D (lwA s) [(x0, .inr (4, [.ref (f 5), .ref (f 1), .ref (f 2), .ref (f 4), .ref (f 0), .int (nI 0)])), (f 0, .inl (cI, 16, .inl (fun _ => 0))), (f 1, .inr (3, [.ref (f 5), .int (nI 0), .int (nI 0), .int (nI w), .int (nI h)])), (f 2, .inr (2, [.ref (f 5), .ref (f 3), .int (b2i false), .int (b2i false), .double FP.dconst0, .int 0, .double FP.dconst0])), (f 3, .inl (cI, 48, .inl (fun _ => 0))), (f 4, .inr (1, [.ref (f 5)])), (f 5, .inr (0, [.int (nI w), .int (nI h), .double (midF w), .double (midF h), .ref (f 6), .ref (f 7)])), (f 6, .inl (cI, 24, .inl (fun _ => 0))), (f 7, .inl (cI, 24, .inl (fun _ => 0))), (z0, .inr (5, [.int 0, .int (nI w), .int (nI h), .ref (g 0), .ref (g 1), .ref (g 2), .int (b2i false), .int (b2i false), .double 0, .ref (g 3), .int (nI 0), .ref (g 4), .int 0, .int 0])), (g 0, .inl (cZ, 576, .inl (bA (fun _ => false)))), (g 1, .inl (cZ, 576, .inl (bA (fun _ => false)))), (g 2, .inl (cI, 4, .inl (e4 (fun _ => 0) 0 0 (nI w) (nI h)))), (g 3, .inl (cI, 16, .inl (fun _ => 0))), (g 4, .inl (cI, 104, .inl (fun _ => 0)))]) hS => ?_)
  refine lv_astore_n (lv' := [(2, .ref z0), (1, .ref x0), (0, .ref b)]) hx hb dL_law_35 rfl hl (by decide) rfl (fun ls hl => ?_)
  refine lv_iconst (v := 1) hx hb dL_law_36 (by decide) ?_
  refine kNewa (atype := .long) (ty := .long) (N' := 1) (a0 := (1, .inr (.inl (fun _ => 0)))) hx hb (hts _ wd_ent_acj) rfl hK hP hD hS hA 2 rfl (fun _ h9 => by cases h9) (fun _ => rfl) (by decide) rfl (Nat.le_of_ble_eq_true rfl) (Nat.le_of_ble_eq_true rfl) (Nat.le_of_ble_eq_true rfl) dL_law_37 (fun oa H (hP : va_P G vwCl [(x0, .inr (4, [.ref (f 5), .ref (f 1), .ref (f 2), .ref (f 4), .ref (f 0), .int (nI 0)])), (f 0, .inl (cI, 16, .inl (fun _ => 0))), (f 1, .inr (3, [.ref (f 5), .int (nI 0), .int (nI 0), .int (nI w), .int (nI h)])), (f 2, .inr (2, [.ref (f 5), .ref (f 3), .int (b2i false), .int (b2i false), .double FP.dconst0, .int 0, .double FP.dconst0])), (f 3, .inl (cI, 48, .inl (fun _ => 0))), (f 4, .inr (1, [.ref (f 5)])), (f 5, .inr (0, [.int (nI w), .int (nI h), .double (midF w), .double (midF h), .ref (f 6), .ref (f 7)])), (f 6, .inl (cI, 24, .inl (fun _ => 0))), (f 7, .inl (cI, 24, .inl (fun _ => 0))), (z0, .inr (5, [.int 0, .int (nI w), .int (nI h), .ref (g 0), .ref (g 1), .ref (g 2), .int (b2i false), .int (b2i false), .double 0, .ref (g 3), .int (nI 0), .ref (g 4), .int 0, .int 0])), (g 0, .inl (cZ, 576, .inl (bA (fun _ => false)))), (g 1, .inl (cZ, 576, .inl (bA (fun _ => false)))), (g 2, .inl (cI, 4, .inl (e4 (fun _ => 0) 0 0 (nI w) (nI h)))), (g 3, .inl (cI, 16, .inl (fun _ => 0))), (g 4, .inl (cI, 104, .inl (fun _ => 0))), (oa, .inl (cJ, 1, .inr (.inl (fun _ => 0))))] H) (hD : va_D (lwA s) [(x0, .inr (4, [.ref (f 5), .ref (f 1), .ref (f 2), .ref (f 4), .ref (f 0), .int (nI 0)])), (f 0, .inl (cI, 16, .inl (fun _ => 0))), (f 1, .inr (3, [.ref (f 5), .int (nI 0), .int (nI 0), .int (nI w), .int (nI h)])), (f 2, .inr (2, [.ref (f 5), .ref (f 3), .int (b2i false), .int (b2i false), .double FP.dconst0, .int 0, .double FP.dconst0])), (f 3, .inl (cI, 48, .inl (fun _ => 0))), (f 4, .inr (1, [.ref (f 5)])), (f 5, .inr (0, [.int (nI w), .int (nI h), .double (midF w), .double (midF h), .ref (f 6), .ref (f 7)])), (f 6, .inl (cI, 24, .inl (fun _ => 0))), (f 7, .inl (cI, 24, .inl (fun _ => 0))), (z0, .inr (5, [.int 0, .int (nI w), .int (nI h), .ref (g 0), .ref (g 1), .ref (g 2), .int (b2i false), .int (b2i false), .double 0, .ref (g 3), .int (nI 0), .ref (g 4), .int 0, .int 0])), (g 0, .inl (cZ, 576, .inl (bA (fun _ => false)))), (g 1, .inl (cZ, 576, .inl (bA (fun _ => false)))), (g 2, .inl (cI, 4, .inl (e4 (fun _ => 0) 0 0 (nI w) (nI h)))), (g 3, .inl (cI, 16, .inl (fun _ => 0))), (g 4, .inl (cI, 104, .inl (fun _ => 0))), (oa, .inl (cJ, 1, .inr (.inl (fun _ => 0))))]) hS => ?_)
  refine lv_astore_n (lv' := [(3, .ref oa), (2, .ref z0), (1, .ref x0), (0, .ref b)]) hx hb dL_law_39 rfl hl (by decide) rfl (fun ls hl => ?_)
  refine lv_iconst (v := 1) hx hb dL_law_40 (by decide) ?_
  refine kNewa (atype := .double) (ty := .double) (N' := 1) (a0 := (1, .inr (.inr (.inr (.inl (fun _ => 0)))))) hx hb (hts _ wd_ent_acd) rfl hK hP hD hS hA 3 rfl (fun _ h9 => by cases h9) (fun _ => rfl) (by decide) rfl (Nat.le_of_ble_eq_true rfl) (Nat.le_of_ble_eq_true rfl) (Nat.le_of_ble_eq_true rfl) dL_law_41 (fun od H (hP : va_P G vwCl [(x0, .inr (4, [.ref (f 5), .ref (f 1), .ref (f 2), .ref (f 4), .ref (f 0), .int (nI 0)])), (f 0, .inl (cI, 16, .inl (fun _ => 0))), (f 1, .inr (3, [.ref (f 5), .int (nI 0), .int (nI 0), .int (nI w), .int (nI h)])), (f 2, .inr (2, [.ref (f 5), .ref (f 3), .int (b2i false), .int (b2i false), .double FP.dconst0, .int 0, .double FP.dconst0])), (f 3, .inl (cI, 48, .inl (fun _ => 0))), (f 4, .inr (1, [.ref (f 5)])), (f 5, .inr (0, [.int (nI w), .int (nI h), .double (midF w), .double (midF h), .ref (f 6), .ref (f 7)])), (f 6, .inl (cI, 24, .inl (fun _ => 0))), (f 7, .inl (cI, 24, .inl (fun _ => 0))), (z0, .inr (5, [.int 0, .int (nI w), .int (nI h), .ref (g 0), .ref (g 1), .ref (g 2), .int (b2i false), .int (b2i false), .double 0, .ref (g 3), .int (nI 0), .ref (g 4), .int 0, .int 0])), (g 0, .inl (cZ, 576, .inl (bA (fun _ => false)))), (g 1, .inl (cZ, 576, .inl (bA (fun _ => false)))), (g 2, .inl (cI, 4, .inl (e4 (fun _ => 0) 0 0 (nI w) (nI h)))), (g 3, .inl (cI, 16, .inl (fun _ => 0))), (g 4, .inl (cI, 104, .inl (fun _ => 0))), (oa, .inl (cJ, 1, .inr (.inl (fun _ => 0)))), (od, .inl (cD, 1, .inr (.inr (.inr (.inl (fun _ => 0))))))] H) (hD : va_D (lwA s) [(x0, .inr (4, [.ref (f 5), .ref (f 1), .ref (f 2), .ref (f 4), .ref (f 0), .int (nI 0)])), (f 0, .inl (cI, 16, .inl (fun _ => 0))), (f 1, .inr (3, [.ref (f 5), .int (nI 0), .int (nI 0), .int (nI w), .int (nI h)])), (f 2, .inr (2, [.ref (f 5), .ref (f 3), .int (b2i false), .int (b2i false), .double FP.dconst0, .int 0, .double FP.dconst0])), (f 3, .inl (cI, 48, .inl (fun _ => 0))), (f 4, .inr (1, [.ref (f 5)])), (f 5, .inr (0, [.int (nI w), .int (nI h), .double (midF w), .double (midF h), .ref (f 6), .ref (f 7)])), (f 6, .inl (cI, 24, .inl (fun _ => 0))), (f 7, .inl (cI, 24, .inl (fun _ => 0))), (z0, .inr (5, [.int 0, .int (nI w), .int (nI h), .ref (g 0), .ref (g 1), .ref (g 2), .int (b2i false), .int (b2i false), .double 0, .ref (g 3), .int (nI 0), .ref (g 4), .int 0, .int 0])), (g 0, .inl (cZ, 576, .inl (bA (fun _ => false)))), (g 1, .inl (cZ, 576, .inl (bA (fun _ => false)))), (g 2, .inl (cI, 4, .inl (e4 (fun _ => 0) 0 0 (nI w) (nI h)))), (g 3, .inl (cI, 16, .inl (fun _ => 0))), (g 4, .inl (cI, 104, .inl (fun _ => 0))), (oa, .inl (cJ, 1, .inr (.inl (fun _ => 0)))), (od, .inl (cD, 1, .inr (.inr (.inr (.inl (fun _ => 0))))))]) hS => ?_)
  refine lv_astore (lv' := [(4, .ref od), (3, .ref oa), (2, .ref z0), (1, .ref x0), (0, .ref b)]) hx hb dL_law_43 hl (by decide) rfl (fun ls hl => ?_)
  refine lv_iconst (v := 2) hx hb dL_law_45 (by decide) ?_
  refine kTopI (z := nI 2) rfl ?_
  refine lv_istore (lv' := [(5, .int (nI 2)), (4, .ref od), (3, .ref oa), (2, .ref z0), (1, .ref x0), (0, .ref b)]) hx hb dL_law_46 hl (by decide) rfl (fun ls hl => ?_)
  exact law_loop (x0 := x0) (tr := f 0) (v0 := f 1) (a0 := f 2) (e0 := f 3) (r0 := f 4) (h0 := f 5) (q1 := f 6) (q2 := f 7) (z0 := z0) (z1 := g 0) (z2 := g 1) (z3 := g 2) (z4 := g 3) (z5 := g 4) (oa := oa) (od := od) hfl hL C0 hK hw hh hw0 hh0 hX hTs 512 2 17 1429 (by omega) (by omega) (by omega) (by omega) (fun _ => 0) (fun _ => 0) 0 0 w h (fun _ => 0) false false FP.dconst0 0 FP.dconst0 (fun _ => 0) 0 0 (fun _ => false) (fun _ => false) (fun _ => 0) false 0 (fun _ => 0) (fun _ => 0) 0 0 (fun _ => 0) (fun _ => 0) H _ _ _ ⟨Rl.new w h, Wn.full w h _, ⟨Nat.zero_le _, Nat.le_refl _, Nat.zero_le _, Nat.le_refl _⟩, (fun q => by cases q), Nat.zero_le _, fun j hj => absurd hj (Nat.not_lt_zero _)⟩ (Nat.le_of_ble_eq_true rfl) (Nat.le_of_ble_eq_true rfl) hP hD hS ls hl
