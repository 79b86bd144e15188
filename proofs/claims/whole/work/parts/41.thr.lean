/-! THROWS: contracts of calls that end in an exception; the cells stay as they are -/
abbrev kX_io : String := "java/lang/IndexOutOfBoundsException"
abbrev kX_ia : String := "java/lang/IllegalArgumentException"
abbrev kX_is : String := "java/lang/IllegalStateException"
abbrev kX_uo : String := "java/lang/UnsupportedOperationException"
abbrev kX_up : List String := ["java/lang/RuntimeException", "java/lang/Exception"]
/-- what a throw of E with the text tx wants of a state -/
def kT (E : String) (ix : Nat) (tx : String) (sa : Nat) (A : Nat → Prop) (U : State) (H : Heap) : Prop :=
  (vx_Zq Bundle.tN "UNASSIGNED_STACK" Bundle.steD A U H ∧ vx_Zq Bundle.tN "SUPPRESSED_SENTINEL" Bundle.listD A U H) ∧ va_Nw (.castable E E) U ∧ vk_R RX5 ix tx sa U ∧ va_Nc kX_ia kX_io U ∧ va_Nc kX_uo kX_ia U ∧ va_Nw (.declares (Bundle.initS "java/lang/RuntimeException")) U ∧ va_Nw (.declares (Bundle.initS "java/lang/Exception")) U ∧ va_Nw (.declares (Bundle.initS Bundle.tN)) U
theorem kT.kept {E : String} {ix : Nat} {tx : String} {sa : Nat} {A : Nat → Prop} {U : State} {H H1 : Heap} (h : kT E ix tx sa A U H) (hq : ∀ a : Nat, a < H.size → ¬ A a → H1[a]? = H[a]?) : kT E ix tx sa A U H1 := ⟨⟨h.1.1.kept hq, h.1.2.kept hq⟩, h.2⟩
theorem kT.narrow {E : String} {ix : Nat} {tx : String} {sa : Nat} {A B : Nat → Prop} {U : State} {H : Heap} (h : kT E ix tx sa A U H) (hq : ∀ a : Nat, B a → A a) : kT E ix tx sa B U H := ⟨⟨h.1.1.narrow hq, h.1.2.narrow hq⟩, h.2⟩
theorem kT.warm {E : String} {ix : Nat} {tx : String} {sa : Nat} {A : Nat → Prop} {s U : State} {H : Heap} (hW : s.WarmedH U.vm) (h : kT E ix tx sa A s H) : kT E ix tx sa A U H :=
  ⟨⟨vx_Zq.moved hW.alike h.1.1, vx_Zq.moved hW.alike h.1.2⟩, va_Nw.warmC hW h.2.1, vk_R.warm hW h.2.2.1, h.2.2.2.1.moved hW.alike, h.2.2.2.2.1.moved hW.alike, va_Nw.warmD hW h.2.2.2.2.2.1, va_Nw.warmD hW h.2.2.2.2.2.2.1, va_Nw.warmD hW h.2.2.2.2.2.2.2⟩
theorem kT.same {E : String} {ix : Nat} {tx : String} {sa : Nat} {A : Nat → Prop} {u U : State} {H : Heap} (hv : U.vm = u.vm) (h : kT E ix tx sa A u H) : kT E ix tx sa A U H := by
  have hal : u.vm.Alike U.vm := by rw [hv]; exact Vm.Alike.refl _
  exact ⟨⟨vx_Zq.moved hal h.1.1, vx_Zq.moved hal h.1.2⟩, va_tabs rfl hv.symm h.2.1, vk_R.same hv h.2.2.1, h.2.2.2.1.moved hal, h.2.2.2.2.1.moved hal, va_tabs rfl hv.symm h.2.2.2.2.2.1, va_tabs rfl hv.symm h.2.2.2.2.2.2.1, va_tabs rfl hv.symm h.2.2.2.2.2.2.2⟩
abbrev kPcE (G : va_G) (tys : List (ClassId × FieldType)) (as : List Value) (w0 : va_W) (sz : Nat) (E : String) (ix : Nat) (tx : String) (sa : Nat) : Array Value → State → Prop :=
  va_Pc as (fun U => (U.heap.size = sz ∧ va_P G vwCl w0 U.heap ∧ va_K G vwCl tys U ∧ va_D (fun _ => True) w0) ∧ kT E ix tx sa (va_A w0 sz) U U.heap)
theorem kBlindE (G : va_G) (tys : List (ClassId × FieldType)) (as : List Value) (w0 : va_W) (sz : Nat) (E : String) (ix : Nat) (tx : String) (sa : Nat) : FrameBlind (kPcE G tys as w0 sz E ix tx sa) := by
  intro a U g mk q
  obtain ⟨q0, ⟨q1, qP, qK, qD⟩, qT⟩ := q
  exact ⟨q0, ⟨q1, qP, va_K.moved (u := U) (U := U.calling g mk a) (Vm.Alike.refl U.vm) qK, qD⟩, kT.same (u := U) (U := U.calling g mk a) rfl qT⟩
abbrev kXe (G : va_G) (tys : List (ClassId × FieldType)) (w0 : va_W) (sz : Nat) (E : String) : String → State → State → Prop :=
  vx_X (fun (_ : Unit) => True) (fun E' _ t => E' = E ∧ va_P G vwCl w0 t.heap ∧ va_K G vwCl tys t ∧ va_D (va_A w0 sz) w0) (va_A w0 sz)
abbrev kNo (w0 : va_W) (sz : Nat) : Array Value → State → Outcome → State → Prop := va_Qv (fun (_ : Unit) => False) (fun _ _ => True) (va_A w0 sz)
/-- it throws E, whatever -/
def Ce (l : Launch) (G : va_G) (tys : List (ClassId × FieldType)) (y : MethodName) (ws : List Cond) (rm : Room) (as : List Value) (w0 : va_W) (E : String) (ix : Nat) (tx : String) : Prop :=
  ∀ sa sz : Nat, vx_Met l y ws rm (kPcE G tys as w0 sz E ix tx sa) (kNo w0 sz) (kXe G tys w0 sz E) rm.cells rm.slots (va_A w0 sz)
/-- it answers an int, and makes an exception on its way -/
def CiE (l : Launch) (G : va_G) (tys : List (ClassId × FieldType)) (y : MethodName) (ws : List Cond) (rm : Room) (as : List Value) (w0 : va_W) (r : Int32) (E : String) (ix : Nat) (tx : String) : Prop :=
  ∀ sa sz : Nat, Met l y ws rm (kPcE G tys as w0 sz E ix tx sa) (va_Qi (fun r' (_ : Unit) => r' = r) (kB G tys w0 w0 sz) (va_A w0 sz)) rm.cells rm.slots (va_A w0 sz)
theorem kOfWH {l : Launch} {y : MethodName} {ws ws' : List Cond} {rm : Room} {Pc : Array Value → State → Prop} {Qc : Array Value → State → Outcome → State → Prop} {mc ms : Nat} {free : Addr → Prop} {cc : ByteArray} {maxL : Nat} {ret : Option FieldType} {hh : List (Nat × Nat × Nat × Nat)}
    (hy : plainFor y = true) (hw : ws = Cond.codeWith y cc maxL ret hh :: ws')
    (body : ∀ p e s m args below meth c s₁, BodyLoose p l y (headSpec ws rm) cc maxL ret e s m args below meth c s₁ → c.maxLocals = maxL → c.exceptionTable.toList = tableOf hh → Pc args s →
      W p l e (headSpec ws rm).room s m args below meth c s.heap [] 0 0 (MQ below Qc args s mc ms free) (entryFrame m args maxL)) : Met l y ws rm Pc Qc mc ms free := by
  refine MetFree.of_bodySF (code := cc) (maxLocals := maxL) (ret := ret) hy ?_ ?_
  · intro args s m h hn
    obtain ⟨m9, meth, c, hn9, h1, h2, h3, h4, -, h5, h6, -⟩ := Cond.codeWith_spec (atoms_spec (ws := ws) h _ (by rw [hw]; exact List.mem_cons_self))
    cases hn.symm.trans hn9
    exact ⟨meth, c, h1, h2, h3, h4, h5, h6⟩
  · intro p e s m args below meth c s₁ B hml hP _
    have hh0 : s₁.heap = s.heap := by rw [B.state]; rfl
    have ht : c.exceptionTable.toList = tableOf hh := vx_table (x := y) B (atoms_spec (ws := ws) B.pre _ (by rw [hw]; exact List.mem_cons_self))
    obtain ⟨t, a1, o, b1, b2, b3⟩ := body p e s m args below meth c s₁ B hml ht hP s₁ hh0 (Stand.of_body B)
    exact ⟨t, o, a1, b1, b2, ⟨b3.1, b3.2⟩⟩
section KT
variable {p : Program} {l : Launch} {e : Env} {R : Room} {s : State} {m : MethodId} {args : Array Value} {below : List Frame} {meth : Method} {c : Code} {H : Heap} {locs : List Loc} {cells slots : Nat} {Q : State → Prop}
  {G : va_G} {tys : List (ClassId × FieldType)} {y : MethodName} {ws ws' Ts : List Cond} {rm : Room} {as As : List Value} {w0 w1 w wr : va_W} {ri : Int32} {cc bytes : ByteArray} {maxL nL index n : Nat} {lv : List (Nat × Value)}
  {own C E tx : String} {ix sa : Nat} {ret : Option FieldType} {b : Addr} {rest st0 : List Value} {pc : Nat} {ls : Array Slot} {A : Nat → Prop}
theorem Ce.of (h0 : rm.cells = 1) (h1 : rm.slots = 6) (hfl : l.stackTraces = false) (hcls : Bundle.fit E = true) (hy : plainName y.cls = true) (hw : ws = Cond.code y cc maxL ret :: ws') (hn : (lg_sl as).length ≤ maxL) (hlv : lv_args 0 as = lv)
    (body : ∀ (p : Program) (e : Env) (s : State) (m : MethodId) (args : Array Value) (below : List Frame) (meth : Method) (c : Code) (A : Nat → Prop) (Q : State → Prop) (sa : Nat),
      p.tables.exec = Jvm.exec → c.code = cc → c.maxLocals = maxL → (∀ w ∈ ws, w.before args s = true) → s.vm.findClass y.cls = some m.cls → (∀ q : Nat, s.heap.size ≤ q → A q) → va_K G vwCl tys s → va_P G vwCl w0 s.heap → va_D A w0 → va_S A s.heap s.heap [] → kT E ix tx sa A s s.heap →
      (∀ (H : Heap) (locs : List Loc) (pc : Nat) (ls : Array Slot) (rest : List Value) (ik ic : Nat), y.cls = RX5 → (Cond.classLink RX5 ik E).before args s = true → (Cond.initialized E).before args s = true → (∀ w ∈ (vx_atS RX5 ic E kX_up).filter goodWord, w.before args s = true) → (∀ w ∈ (vx_atS RX5 ic E kX_up).filter (fun w => !goodWord w), w ∈ [Cond.castable E E, Cond.declares (Bundle.initS "java/lang/RuntimeException"), Cond.declares (Bundle.initS "java/lang/Exception"), Cond.declares (Bundle.initS Bundle.tN)]) →
        (∀ w ∈ Cond.classLink RX5 ik E :: Cond.initialized E :: vx_atS RX5 ic E kX_up, vx_ot w = true) → ls.size = maxL → decode cc pc = .ok (.new ik, 3) → decode cc (pc + 3) = .ok (.dup, 1) → decode cc (pc + 4) = .ok (.ldc ix, 2) → decode cc (pc + 6) = .ok (.invokespecial ic, 3) → decode cc (pc + 9) = .ok (.athrow, 1) →
        5 < rm.frames → (rest.map fun v => v.category).sum + 82 ≤ rm.locals → va_P G vwCl w0 H → va_S A s.heap H locs → W p l e rm s m args below meth c H locs 0 0 Q (F0 m pc ls rest)) →
      (∀ (H : Heap) (locs : List Loc) (pc : Nat) (ls : Array Slot) (rest : List Value) (q : Addr) (ce : Cell), va_P G vwCl w0 H → va_S A s.heap H locs → H[q]? = some ce → ce.vm = .none → s.vm.findClass E = some ce.cls → vx_W p l e rm s m args below meth c H locs 1 6 Q (F0 m pc ls rest) q) →
      ∀ ls : Array Slot, lv_has ls maxL lv → W p l e rm s m args below meth c s.heap [] 0 0 Q (F0 m 0 ls [])) : Ce l G tys y ws rm as w0 E ix tx := by
  obtain ⟨fr0, ce0, sl0, lo0⟩ := rm
  subst h0 h1
  intro sa sz
  refine vx_ofW (cc := cc) (maxL := maxL) (ret := ret) hy hw ?_
  intro p e s m args below meth c s₁ B hml htab hv
  obtain ⟨rfl, ⟨hsz, hP, hK, hD0⟩, hT⟩ := hv
  subst hsz
  have hD := hD0.self (sz := s.heap.size)
  have hA : ∀ q : Nat, s.heap.size ≤ q → va_A w0 s.heap.size q := fun q h => Or.inr h
  have hl := lv_entry as (n := maxL) hn
  rw [hlv] at hl
  rw [lg_entry_eq]
  have hown := findClass_of_methodNamed B.named
  have hlocks := B.notSynchronized
  refine body p e s m as.toArray below meth c (va_A w0 s.heap.size) _ sa B.exec B.bytes hml (atoms_spec (ws := ws) B.pre) hown hA hK hP hD va_S.rf hT ?_ ?_ _ hl
  · intro H locs pc ls rest ik ic hyc hk hini ha1 ha2 hgood hsize d0 d3 d4 d6 d9 hfr hlo hP2 hS2
    rw [hyc] at hown
    exact vx_throwS B.exec B.bytes hfl hown hcls (by decide) hk hini hT.2.2.1 (vx_hat ha1 ha2 (vx_c (va_Nw.use rfl hT.2.1) (vx_c (va_Nw.use rfl hT.2.2.2.2.2.1) (vx_c (va_Nw.use rfl hT.2.2.2.2.2.2.1) (vx_c (va_Nw.use rfl hT.2.2.2.2.2.2.2) vx_n))))) hgood hT.1.1 hT.1.2 hS2 (hsize.trans hml.symm) d0 d3 d4 d6 d9 (fun x hx => absurd (htab x hx) id) hfr hlo (Nat.le_refl _) (Nat.le_refl _) hlocks
      (fun t ht hz hq => ⟨(), trivial, ⟨rfl, hP2.kept fun k q hk9 => hq q.1 (hP2 k q hk9).lt, va_K.moved ht hK, hD⟩, Nat.le_trans hS2.1 hz, fun q h8 h9 => (hq q (Nat.lt_of_lt_of_le h8 hS2.1)).trans (hS2.2.1 q h8 h9)⟩) hS2.2.2 (Nat.le_refl _) (Nat.le_refl _)
  · intro H locs pc ls rest q ce hP2 hS2 hce hcv hcl
    exact vx_out (fun x hx => absurd (htab x hx) id) hlocks hce hcv hcl (fun t ht hW => ⟨(), trivial, ⟨rfl, by rw [ht]; exact hP2, va_K.moved hW hK, hD⟩, hS2.F ht⟩) hS2.2.2 (Nat.le_refl _) (Nat.le_refl _)
theorem kVe (hc : Ce l G tys y ws rm (.ref b :: As) w0 E ix tx) (S : CallFix p m c cc nL s args Ts own) (cw : CallW R s args own C index y bytes maxL ret ws rm rm.cells rm.slots n)
    (hK : va_K G vwCl tys s) (hP : va_P G vwCl w H) (hD : va_D A w) (hS : va_S A s.heap H locs) (hA : ∀ q : Nat, s.heap.size ≤ q → A q) (hT : kT E ix tx sa A s s.heap) {isC isR pm : List Nat} (hpl : kPl w w0 wr w0 w isC isR pm)
    (ci q0 : Nat) {T : u_T} {N : Nat} {fs : List Value} (hcl : vwCl[ci]? = some (C, T, N)) (he : w[q0]? = some (b, .inr (ci, fs)))
    (hn : As.length = n) (hsize : ls.size = nL) (hst : st0 = As.reverse ++ .ref b :: rest) (hW : (rest.map fun v => v.category).sum ≤ 8) (hdg : decode cc pc = .ok (.invokevirtual index, 3)) (h0 : rm.cells = 1) (h1 : rm.slots = 6) (hf : 1 ≤ R.cells ∧ 6 ≤ R.slots)
    (kx : ∀ (q : Addr) (ce : Cell) (H1 : Heap) (locs1 : List Loc), va_P G vwCl w H1 → va_D A w → va_S A s.heap H1 locs1 → H1[q]? = some ce → ce.vm = .none → s.vm.findClass E = some ce.cls → vx_W p l e R s m args below meth c H1 locs1 1 6 Q (F0 m pc ls rest) q) :
    W p l e R s m args below meth c H locs 0 0 Q (F0 m pc ls st0) := by
  obtain ⟨fr0, ce0, sl0, lo0⟩ := rm
  subst h0 h1
  have hF := va_free hD hS hA isC hpl.1
  have hPc := hP.subm isC hpl.1
  have hDc := hD.sub isC hpl.2.2.2.2.1 hpl.1
  have hTc := (hT.kept hS.2.1).narrow hF
  refine vx_callv (vx_runV (As := As) (rest := rest) S (hc sa H.size) cw ⟨kBlindE _ _ _ _ _ _ _ _ _, va_recv hK hP hcl he, fun U hU hW => ⟨rfl, ⟨by rw [hU], by rw [hU]; exact hPc, va_K.moved hW.alike hK, hDc.weaken (fun _ _ _ _ => trivial)⟩, by rw [hU]; exact hTc.warm hW⟩⟩ rfl hn hsize hst (lv_room hW) hdg ⟨Nat.le_trans (Nat.le_of_eq (Nat.zero_add _)) hf.1, Nat.le_trans (Nat.le_of_eq (Nat.zero_add _)) hf.2⟩) hS (fun q _ h => hF q h) hF (fun q _ h => hF q h)
    (fun E' ce q u t H1 locs1 ht hvm hpx hB hz1 hk1 hS1 hce hcv hcl => ?_) (fun u t H1 locs1 ht hvm hw hB hz1 hk1 hS1 => absurd hw id)
  obtain ⟨rfl, hP1, -, hD1⟩ := hB
  rw [ht] at hP1
  obtain ⟨hP2, hD2⟩ := kJoin hpl hP hD hS hA hk1 hP1 hD1
  exact kx q ce H1 locs1 hP2 hD2 hS1 hce hcv hcl
theorem kSe (hc : Ce l G tys y ws rm As [] E ix tx) (S : CallFix p m c cc nL s args Ts own) (cw : CallB R s args own index y bytes maxL ret ws rm rm.cells rm.slots n ∧ (Cond.static y).before args s = true)
    (hK : va_K G vwCl tys s) (hP : va_P G vwCl w H) (hD : va_D A w) (hS : va_S A s.heap H locs) (hA : ∀ q : Nat, s.heap.size ≤ q → A q) (hT : kT E ix tx sa A s s.heap)
    (hn : As.length = n) (hsize : ls.size = nL) (hst : st0 = As.reverse ++ rest) (hW : (rest.map fun v => v.category).sum ≤ 8) (hdg : decode cc pc = .ok (.invokestatic index, 3)) (h0 : rm.cells = 1) (h1 : rm.slots = 6) (hf : 1 ≤ R.cells ∧ 6 ≤ R.slots)
    (kx : ∀ (q : Addr) (ce : Cell) (H1 : Heap) (locs1 : List Loc), va_P G vwCl w H1 → va_D A w → va_S A s.heap H1 locs1 → H1[q]? = some ce → ce.vm = .none → s.vm.findClass E = some ce.cls → vx_W p l e R s m args below meth c H1 locs1 1 6 Q (F0 m pc ls rest) q) :
    W p l e R s m args below meth c H locs 0 0 Q (F0 m pc ls st0) := by
  obtain ⟨fr0, ce0, sl0, lo0⟩ := rm
  subst h0 h1
  have hF := va_free (wc := []) hD hS hA [] rfl
  have hTc := (hT.kept hS.2.1).narrow hF
  refine vx_callv (vx_runS (As := As) (rest := rest) S (hc sa H.size) cw ⟨kBlindE _ _ _ _ _ _ _ _ _, fun U hU hW => ⟨rfl, ⟨by rw [hU], fun k q h => by simp at h, va_K.moved hW.alike hK, ⟨fun i j p q h => by simp at h, fun k q h => by simp at h⟩⟩, by rw [hU]; exact hTc.warm hW⟩⟩ rfl hn hsize hst (lv_room hW) hdg ⟨Nat.le_trans (Nat.le_of_eq (Nat.zero_add _)) hf.1, Nat.le_trans (Nat.le_of_eq (Nat.zero_add _)) hf.2⟩) hS (fun q _ h => hF q h) hF (fun q _ h => hF q h)
    (fun E' ce q u t H1 locs1 ht hvm hpx hB hz1 hk1 hS1 hce hcv hcl => ?_) (fun u t H1 locs1 ht hvm hw hB hz1 hk1 hS1 => absurd hw id)
  obtain ⟨rfl, -⟩ := hB
  refine kx q ce H1 locs1 (hP.kept fun k q hq => hk1 q.1 ((hP k q hq).lt) ?_) hD hS1 hce hcv hcl
  rintro (⟨k2, e2, h2⟩ | h2)
  · simp at h2
  · have := (hP k q hq).lt
    omega
/-- a method with a table of its own, answering an int, making nothing -/
theorem Ci.ofH (hna : narrow .int (.int ri) = .int ri) (h0 : rm.cells = 0) (h1 : rm.slots = 0) (hy : plainFor y = true) {hh : List (Nat × Nat × Nat × Nat)} (hw : ws = Cond.codeWith y cc maxL (some .int) hh :: ws') (hn : (lg_sl as).length ≤ maxL) (hlv : lv_args 0 as = lv)
    (body : ∀ (p : Program) (e : Env) (s : State) (m : MethodId) (args : Array Value) (below : List Frame) (meth : Method) (c : Code) (A : Nat → Prop) (Q : State → Prop),
      p.tables.exec = Jvm.exec → c.code = cc → c.maxLocals = maxL → (∀ w ∈ ws, w.before args s = true) → s.vm.findClass y.cls = some m.cls → (∀ q : Nat, s.heap.size ≤ q → A q) → va_K G vwCl tys s → va_P G vwCl w0 s.heap → va_D A w0 → va_S A s.heap s.heap [] →
      (∀ (H : Heap) (locs : List Loc) (pc : Nat) (ls : Array Slot) (w : va_W) (v : Int32), decode cc pc = .ok (.ireturn, 1) → va_P G vwCl w H → va_D A w → va_S A s.heap H locs → v = ri → w = w1 → W p l e rm s m args below meth c H locs 0 0 Q (F0 m pc ls [.int v])) →
      ∀ ls : Array Slot, lv_has ls maxL lv → W p l e rm s m args below meth c s.heap [] 0 0 Q (F0 m 0 ls [])) : Ci l G tys y ws rm as w0 ri w1 := by
  obtain ⟨fr0, ce0, sl0, lo0⟩ := rm
  subst h0 h1
  intro sz
  refine kOfWH (cc := cc) (maxL := maxL) (ret := some .int) hy hw ?_
  intro p e s m args below meth c s₁ B hml htab hv
  obtain ⟨rfl, hsz, hP, hK, hD0⟩ := hv
  subst hsz
  have hD := hD0.self (sz := s.heap.size)
  have hA : ∀ q : Nat, s.heap.size ≤ q → va_A w0 s.heap.size q := fun q h => Or.inr h
  have hl := lv_entry as (n := maxL) hn
  rw [hlv] at hl
  rw [lg_entry_eq]
  refine body p e s m as.toArray below meth c (va_A w0 s.heap.size) _ B.exec B.bytes hml (atoms_spec (ws := ws) B.pre) (findClass_of_methodNamed B.named) hA hK hP hD va_S.rf ?_ _ hl
  intro H locs pc ls w v hdg hP2 hD2 hS2 hv hw2
  subst hv hw2
  exact W.zret B.exec B.bytes B.returns hna (fun t ht hW => ⟨⟨_, (), rfl, rfl, by rw [ht]; exact hP2, va_K.moved hW.alike hK, hD2⟩, hS2.F ht⟩) hS2.2.2 hdg B.notSynchronized
/-- .. and one that catches what it was thrown -/
theorem CiE.of (hna : narrow .int (.int ri) = .int ri) (h0 : rm.cells = 1) (h1 : rm.slots = 6) (hy : plainFor y = true) {hh : List (Nat × Nat × Nat × Nat)} (hw : ws = Cond.codeWith y cc maxL (some .int) hh :: ws') (hn : (lg_sl as).length ≤ maxL) (hlv : lv_args 0 as = lv)
    (body : ∀ (p : Program) (e : Env) (s : State) (m : MethodId) (args : Array Value) (below : List Frame) (meth : Method) (c : Code) (A : Nat → Prop) (Q : State → Prop) (sa : Nat),
      p.tables.exec = Jvm.exec → c.code = cc → c.maxLocals = maxL → c.exceptionTable.toList = tableOf hh → (∀ w ∈ ws, w.before args s = true) → s.vm.findClass y.cls = some m.cls → (∀ q : Nat, s.heap.size ≤ q → A q) → va_K G vwCl tys s → va_P G vwCl w0 s.heap → va_D A w0 → va_S A s.heap s.heap [] → kT E ix tx sa A s s.heap →
      (∀ (H : Heap) (locs : List Loc) (pc : Nat) (ls : Array Slot) (w : va_W) (v : Int32), decode cc pc = .ok (.ireturn, 1) → va_P G vwCl w H → va_D A w → va_S A s.heap H locs → v = ri → w = w0 → W p l e rm s m args below meth c H locs 1 6 Q (F0 m pc ls [.int v])) →
      ∀ ls : Array Slot, lv_has ls maxL lv → W p l e rm s m args below meth c s.heap [] 0 0 Q (F0 m 0 ls [])) : CiE l G tys y ws rm as w0 ri E ix tx := by
  obtain ⟨fr0, ce0, sl0, lo0⟩ := rm
  subst h0 h1
  intro sa sz
  refine kOfWH (cc := cc) (maxL := maxL) (ret := some .int) hy hw ?_
  intro p e s m args below meth c s₁ B hml htab hv
  obtain ⟨rfl, ⟨hsz, hP, hK, hD0⟩, hT⟩ := hv
  subst hsz
  have hD := hD0.self (sz := s.heap.size)
  have hA : ∀ q : Nat, s.heap.size ≤ q → va_A w0 s.heap.size q := fun q h => Or.inr h
  have hl := lv_entry as (n := maxL) hn
  rw [hlv] at hl
  rw [lg_entry_eq]
  refine body p e s m as.toArray below meth c (va_A w0 s.heap.size) _ sa B.exec B.bytes hml htab (atoms_spec (ws := ws) B.pre) (findClass_of_methodNamed B.named) hA hK hP hD va_S.rf hT ?_ _ hl
  intro H locs pc ls w v hdg hP2 hD2 hS2 hv hw2
  subst hv hw2
  exact W.zret B.exec B.bytes B.returns hna (fun t ht hW => ⟨⟨_, (), rfl, rfl, by rw [ht]; exact hP2, va_K.moved hW.alike hK, hD2⟩, hS2.F ht⟩) hS2.2.2 hdg B.notSynchronized
end KT
set_option maxRecDepth 100000 in
theorem at2_60 : ∀ w ∈ (vx_atS RX5 60 kX_ia kX_up).filter (fun w => !goodWord w), w ∈ [Cond.castable kX_ia kX_ia, Cond.declares (Bundle.initS "java/lang/RuntimeException"), Cond.declares (Bundle.initS "java/lang/Exception"), Cond.declares (Bundle.initS Bundle.tN)] := by decide +kernel
set_option maxRecDepth 100000 in
theorem gd_60 : ∀ w ∈ Cond.classLink RX5 56 kX_ia :: Cond.initialized kX_ia :: vx_atS RX5 60 kX_ia kX_up, vx_ot w = true := by decide +kernel
set_option maxRecDepth 100000 in
theorem at2_108 : ∀ w ∈ (vx_atS RX5 108 kX_uo kX_up).filter (fun w => !goodWord w), w ∈ [Cond.castable kX_uo kX_uo, Cond.declares (Bundle.initS "java/lang/RuntimeException"), Cond.declares (Bundle.initS "java/lang/Exception"), Cond.declares (Bundle.initS Bundle.tN)] := by decide +kernel
set_option maxRecDepth 100000 in
theorem gd_108 : ∀ w ∈ Cond.classLink RX5 104 kX_uo :: Cond.initialized kX_uo :: vx_atS RX5 108 kX_uo kX_up, vx_ot w = true := by decide +kernel
set_option maxRecDepth 100000 in
theorem at2_195 : ∀ w ∈ (vx_atS RX5 195 kX_io kX_up).filter (fun w => !goodWord w), w ∈ [Cond.castable kX_io kX_io, Cond.declares (Bundle.initS "java/lang/RuntimeException"), Cond.declares (Bundle.initS "java/lang/Exception"), Cond.declares (Bundle.initS Bundle.tN)] := by decide +kernel
set_option maxRecDepth 100000 in
theorem gd_195 : ∀ w ∈ Cond.classLink RX5 191 kX_io :: Cond.initialized kX_io :: vx_atS RX5 195 kX_io kX_up, vx_ot w = true := by decide +kernel
set_option maxRecDepth 100000 in
theorem at2_209 : ∀ w ∈ (vx_atS RX5 209 kX_is kX_up).filter (fun w => !goodWord w), w ∈ [Cond.castable kX_is kX_is, Cond.declares (Bundle.initS "java/lang/RuntimeException"), Cond.declares (Bundle.initS "java/lang/Exception"), Cond.declares (Bundle.initS Bundle.tN)] := by decide +kernel
set_option maxRecDepth 100000 in
theorem gd_209 : ∀ w ∈ Cond.classLink RX5 205 kX_is :: Cond.initialized kX_is :: vx_atS RX5 209 kX_is kX_up, vx_ot w = true := by decide +kernel
theorem wd_kX5_checkSideL_cl191 : Cond.classLink RX5 191 kX_io ∈ wsX5_checkSide := by decide +kernel
theorem wd_kX5_checkSideL_iikX_io : Cond.initialized kX_io ∈ wsX5_checkSide := by decide +kernel
theorem at_kX5_checkSideL : ∀ w ∈ (vx_atS RX5 195 kX_io kX_up).filter goodWord, w ∈ wsX5_checkSide := by decide +kernel
abbrev rmX5_checkSideL : Room := { frames := 6, cells := 1, slots := 6, locals := 82 }
set_option maxRecDepth 100000 in
set_option maxHeartbeats 4000000 in
theorem kX5_checkSideL (l : Launch) (G : va_G) (cI cZ cJ cD : ClassId) (hfl : l.stackTraces = false)  (s0 : Int32) (hs1 : s0 < 0) : Ce l G (kTy cI cZ cJ cD) yX5_checkSide wsX5_checkSide rmX5_checkSideL [.int s0] [] kX_io 196 "no such side" := by
  refine Ce.of (cc := cX5_checkSide) (maxL := 1) rfl rfl hfl (by decide) (by decide) rfl (Nat.le_of_ble_eq_true rfl) rfl ?_
  intro p e s m args below meth c A Q sa hx hb hml hts hown hA hK hP hD hS hT hthr hgo ls hl
  refine lv_iload_n hx hb dX5_checkSide_0 rfl (lv_at hl 0 rfl) ?_
  refine lv_if_lt (tgt := 9) hx hb dX5_checkSide_1 (by decide) (fun c_1 => ?_) (fun h9 => absurd hs1 h9)
  exact hthr _ _ _ _ _ 191 195 rfl (hts _ wd_kX5_checkSideL_cl191) (hts _ wd_kX5_checkSideL_iikX_io) (fun w h9 => hts w (at_kX5_checkSideL w h9)) at2_195 gd_195 hl.1 dX5_checkSide_9 dX5_checkSide_12 dX5_checkSide_13 dX5_checkSide_15 dX5_checkSide_18 (Nat.le_of_ble_eq_true rfl) (Nat.le_of_ble_eq_true rfl) hP hS
theorem wd_kX5_checkSideH_cl191 : Cond.classLink RX5 191 kX_io ∈ wsX5_checkSide := by decide +kernel
theorem wd_kX5_checkSideH_iikX_io : Cond.initialized kX_io ∈ wsX5_checkSide := by decide +kernel
theorem at_kX5_checkSideH : ∀ w ∈ (vx_atS RX5 195 kX_io kX_up).filter goodWord, w ∈ wsX5_checkSide := by decide +kernel
abbrev rmX5_checkSideH : Room := { frames := 6, cells := 1, slots := 6, locals := 82 }
set_option maxRecDepth 100000 in
set_option maxHeartbeats 4000000 in
theorem kX5_checkSideH (l : Launch) (G : va_G) (cI cZ cJ cD : ClassId) (hfl : l.stackTraces = false)  (s0 : Int32) (hs1 : ¬ s0 < 0) (hs2 : ¬ s0 ≤ 3) : Ce l G (kTy cI cZ cJ cD) yX5_checkSide wsX5_checkSide rmX5_checkSideH [.int s0] [] kX_io 196 "no such side" := by
  refine Ce.of (cc := cX5_checkSide) (maxL := 1) rfl rfl hfl (by decide) (by decide) rfl (Nat.le_of_ble_eq_true rfl) rfl ?_
  intro p e s m args below meth c A Q sa hx hb hml hts hown hA hK hP hD hS hT hthr hgo ls hl
  refine lv_iload_n hx hb dX5_checkSide_0 rfl (lv_at hl 0 rfl) ?_
  refine lv_if_lt (tgt := 9) hx hb dX5_checkSide_1 (by decide) (fun h9 => absurd h9 hs1) (fun c_1 => ?_)
  refine lv_iload_n hx hb dX5_checkSide_4 rfl (lv_at hl 0 rfl) ?_
  refine lv_iconst (v := 3) hx hb dX5_checkSide_5 (by decide) ?_
  refine lv_icmp_le (tgt := 19) hx hb dX5_checkSide_6 (by decide) (fun h9 => absurd h9 hs2) (fun c_6 => ?_)
  exact hthr _ _ _ _ _ 191 195 rfl (hts _ wd_kX5_checkSideH_cl191) (hts _ wd_kX5_checkSideH_iikX_io) (fun w h9 => hts w (at_kX5_checkSideH w h9)) at2_195 gd_195 hl.1 dX5_checkSide_9 dX5_checkSide_12 dX5_checkSide_13 dX5_checkSide_15 dX5_checkSide_18 (Nat.le_of_ble_eq_true rfl) (Nat.le_of_ble_eq_true rfl) hP hS
theorem wd_kX5_checkAngleL_cl56 : Cond.classLink RX5 56 kX_ia ∈ wsX5_checkAngle := by decide +kernel
theorem wd_kX5_checkAngleL_iikX_ia : Cond.initialized kX_ia ∈ wsX5_checkAngle := by decide +kernel
theorem at_kX5_checkAngleL : ∀ w ∈ (vx_atS RX5 60 kX_ia kX_up).filter goodWord, w ∈ wsX5_checkAngle := by decide +kernel
abbrev rmX5_checkAngleL : Room := { frames := 6, cells := 1, slots := 6, locals := 82 }
set_option maxRecDepth 100000 in
set_option maxHeartbeats 4000000 in
theorem kX5_checkAngleL (l : Launch) (G : va_G) (cI cZ cJ cD : ClassId) (hfl : l.stackTraces = false)  (a : Int32) (hg1 : a < -2000) : Ce l G (kTy cI cZ cJ cD) yX5_checkAngle wsX5_checkAngle rmX5_checkAngleL [.int a] [] kX_ia 200 "the angle is not -2000 .. 2000" := by
  refine Ce.of (cc := cX5_checkAngle) (maxL := 1) rfl rfl hfl (by decide) (by decide) rfl (Nat.le_of_ble_eq_true rfl) rfl ?_
  intro p e s m args below meth c A Q sa hx hb hml hts hown hA hK hP hD hS hT hthr hgo ls hl
  refine lv_iload_n hx hb dX5_checkAngle_0 rfl (lv_at hl 0 rfl) ?_
  refine lv_sipush (v := (-2000)) hx hb dX5_checkAngle_1 (by decide) ?_
  refine lv_icmp_lt (tgt := 14) hx hb dX5_checkAngle_4 (by decide) (fun c_4 => ?_) (fun h9 => absurd hg1 h9)
  exact hthr _ _ _ _ _ 56 60 rfl (hts _ wd_kX5_checkAngleL_cl56) (hts _ wd_kX5_checkAngleL_iikX_ia) (fun w h9 => hts w (at_kX5_checkAngleL w h9)) at2_60 gd_60 hl.1 dX5_checkAngle_14 dX5_checkAngle_17 dX5_checkAngle_18 dX5_checkAngle_20 dX5_checkAngle_23 (Nat.le_of_ble_eq_true rfl) (Nat.le_of_ble_eq_true rfl) hP hS
theorem wd_kX5_checkAngleH_cl56 : Cond.classLink RX5 56 kX_ia ∈ wsX5_checkAngle := by decide +kernel
theorem wd_kX5_checkAngleH_iikX_ia : Cond.initialized kX_ia ∈ wsX5_checkAngle := by decide +kernel
theorem at_kX5_checkAngleH : ∀ w ∈ (vx_atS RX5 60 kX_ia kX_up).filter goodWord, w ∈ wsX5_checkAngle := by decide +kernel
abbrev rmX5_checkAngleH : Room := { frames := 6, cells := 1, slots := 6, locals := 82 }
set_option maxRecDepth 100000 in
set_option maxHeartbeats 4000000 in
theorem kX5_checkAngleH (l : Launch) (G : va_G) (cI cZ cJ cD : ClassId) (hfl : l.stackTraces = false)  (a : Int32) (hg1 : ¬ a < -2000) (hg2 : ¬ a ≤ 2000) : Ce l G (kTy cI cZ cJ cD) yX5_checkAngle wsX5_checkAngle rmX5_checkAngleH [.int a] [] kX_ia 200 "the angle is not -2000 .. 2000" := by
  refine Ce.of (cc := cX5_checkAngle) (maxL := 1) rfl rfl hfl (by decide) (by decide) rfl (Nat.le_of_ble_eq_true rfl) rfl ?_
  intro p e s m args below meth c A Q sa hx hb hml hts hown hA hK hP hD hS hT hthr hgo ls hl
  refine lv_iload_n hx hb dX5_checkAngle_0 rfl (lv_at hl 0 rfl) ?_
  refine lv_sipush (v := (-2000)) hx hb dX5_checkAngle_1 (by decide) ?_
  refine lv_icmp_lt (tgt := 14) hx hb dX5_checkAngle_4 (by decide) (fun h9 => absurd h9 hg1) (fun c_4 => ?_)
  refine lv_iload_n hx hb dX5_checkAngle_7 rfl (lv_at hl 0 rfl) ?_
  refine lv_sipush (v := 2000) hx hb dX5_checkAngle_8 (by decide) ?_
  refine lv_icmp_le (tgt := 24) hx hb dX5_checkAngle_11 (by decide) (fun h9 => absurd h9 hg2) (fun c_11 => ?_)
  exact hthr _ _ _ _ _ 56 60 rfl (hts _ wd_kX5_checkAngleH_cl56) (hts _ wd_kX5_checkAngleH_iikX_ia) (fun w h9 => hts w (at_kX5_checkAngleH w h9)) at2_60 gd_60 hl.1 dX5_checkAngle_14 dX5_checkAngle_17 dX5_checkAngle_18 dX5_checkAngle_20 dX5_checkAngle_23 (Nat.le_of_ble_eq_true rfl) (Nat.le_of_ble_eq_true rfl) hP hS
theorem in_kX5_checkSampleX_X5 : ∀ w ∈ u_ws RX5 TX5 6, w ∈ wsX5_checkSample := by decide +kernel
theorem fl_kX5_checkSampleX_26 : Cond.fieldLink RX5 26 "SkewFind" "picture" "LSkewFind$Picture;" ∈ wsX5_checkSample := by decide +kernel
theorem wd_kX5_checkSampleX_cl191 : Cond.classLink RX5 191 kX_io ∈ wsX5_checkSample := by decide +kernel
theorem wd_kX5_checkSampleX_iikX_io : Cond.initialized kX_io ∈ wsX5_checkSample := by decide +kernel
theorem at_kX5_checkSampleX : ∀ w ∈ (vx_atS RX5 195 kX_io kX_up).filter goodWord, w ∈ wsX5_checkSample := by decide +kernel
abbrev rmX5_checkSampleX : Room := { frames := 6, cells := 1, slots := 6, locals := 82 }
set_option maxRecDepth 100000 in
set_option maxHeartbeats 4000000 in
theorem kX5_checkSampleX (l : Launch) (G : va_G) (cI cZ cJ cD : ClassId) (hfl : l.stackTraces = false) (x0 tr v0 a0 e0 r0 : Nat) (h0 q1 q2 w h : Nat) (hw : w ≤ 24) (hh : h ≤ 24) (B O : Nat → Int32) (la ua ra da : Nat) (hlr : la ≤ ra) (hra : ra ≤ w) (hud : ua ≤ da) (hda : da ≤ h) (E : Nat → Int32) (ak su : Bool) (gm : UInt64) (be : Int32) (bs : UInt64) (T : Nat → Int32) (tc : Nat) (x y : Int32) (hv : hasB w h x y = false) : Ce l G (kTy cI cZ cJ cD) yX5_checkSample wsX5_checkSample rmX5_checkSampleX [.ref x0, .int x, .int y] [(x0, .inr (4, [.ref h0, .ref v0, .ref a0, .ref r0, .ref tr, .int (nI tc)])), (tr, .inl (cI, 16, .inl T)), (v0, .inr (3, [.ref h0, .int (nI la), .int (nI ua), .int (nI ra), .int (nI da)])), (a0, .inr (2, [.ref h0, .ref e0, .int (b2i ak), .int (b2i su), .double gm, .int be, .double bs])), (e0, .inl (cI, 48, .inl E)), (r0, .inr (1, [.ref h0])), (h0, .inr (0, [.int (nI w), .int (nI h), .double (midF w), .double (midF h), .ref q1, .ref q2])), (q1, .inl (cI, 24, .inl B)), (q2, .inl (cI, 24, .inl O))] kX_io 193 "no such sample" := by
  refine Ce.of (cc := cX5_checkSample) (maxL := 3) rfl rfl hfl (by decide) (by decide) rfl (Nat.le_of_ble_eq_true rfl) rfl ?_
  intro p e s m args below meth c A Q sa hx hb hml hts hown hA hK hP hD hS hT hthr hgo ls hl
  refine lv_aload_n hx hb dX5_checkSample_0 rfl (lv_at hl 0 rfl) ?_
  refine va_get (D := G) (ci := 4) (v := .ref h0) (C := RX5) (T := TX5) (N := 6) hx hb hts in_kX5_checkSampleX_X5 hown hK hP 0 rfl rfl 0 (by decide) (hts _ fl_kX5_checkSampleX_26) (fun _ h9 => h9) rfl dX5_checkSample_1 ?_
  refine lv_iload_n hx hb dX5_checkSample_4 rfl (lv_at hl 1 rfl) ?_
  refine lv_iload_n hx hb dX5_checkSample_5 rfl (lv_at hl 2 rfl) ?_
  refine kVi (w' := [(x0, .inr (4, [.ref h0, .ref v0, .ref a0, .ref r0, .ref tr, .int (nI tc)])), (tr, .inl (cI, 16, .inl T)), (v0, .inr (3, [.ref h0, .int (nI la), .int (nI ua), .int (nI ra), .int (nI da)])), (a0, .inr (2, [.ref h0, .ref e0, .int (b2i ak), .int (b2i su), .double gm, .int be, .double bs])), (e0, .inl (cI, 48, .inl E)), (r0, .inr (1, [.ref h0])), (h0, .inr (0, [.int (nI w), .int (nI h), .double (midF w), .double (midF h), .ref q1, .ref q2])), (q1, .inl (cI, 24, .inl B)), (q2, .inl (cI, 24, .inl O))]) (wr := [(x0, .inr (4, [.ref h0, .ref v0, .ref a0, .ref r0, .ref tr, .int (nI tc)])), (tr, .inl (cI, 16, .inl T)), (v0, .inr (3, [.ref h0, .int (nI la), .int (nI ua), .int (nI ra), .int (nI da)])), (a0, .inr (2, [.ref h0, .ref e0, .int (b2i ak), .int (b2i su), .double gm, .int be, .double bs])), (e0, .inl (cI, 48, .inl E)), (r0, .inr (1, [.ref h0]))]) (isC := [6, 7, 8]) (isR := [0, 1, 2, 3, 4, 5]) (pm := [0, 1, 2, 3, 4, 5, 6, 7, 8]) (rest := []) (kX0_has l G cI cZ cJ cD h0 q1 q2 w h hw hh B O x y) ⟨hx, hb, hml, hown, hts⟩ (cwV 2 hts gX5_checkSample_X0_has rfl rfl rfl hd_X0_has ⟨Nat.le_of_ble_eq_true rfl, Nat.le_of_ble_eq_true rfl⟩) hK hP hD hS hA ⟨rfl, rfl, rfl, by decide, rfl, rfl, rfl⟩ 0 6 rfl rfl rfl hl.1 rfl (Nat.le_of_ble_eq_true rfl) dX5_checkSample_6 ⟨Nat.le_of_ble_eq_true rfl, Nat.le_of_ble_eq_true rfl⟩ rfl rfl (fun H locs hP hD hS => ?_)
  refine kIfNeB (tgt := 22) hx hb dX5_checkSample_9 (by decide) (fun h9 => (by rw [hv] at h9; cases h9)) (fun c_9 => ?_)
  exact hthr _ _ _ _ _ 191 195 rfl (hts _ wd_kX5_checkSampleX_cl191) (hts _ wd_kX5_checkSampleX_iikX_io) (fun w h9 => hts w (at_kX5_checkSampleX w h9)) at2_195 gd_195 hl.1 dX5_checkSample_12 dX5_checkSample_15 dX5_checkSample_16 dX5_checkSample_18 dX5_checkSample_21 (Nat.le_of_ble_eq_true rfl) (Nat.le_of_ble_eq_true rfl) hP hS
theorem wd_kX5_checkBandL_cl191 : Cond.classLink RX5 191 kX_io ∈ wsX5_checkBand := by decide +kernel
theorem wd_kX5_checkBandL_iikX_io : Cond.initialized kX_io ∈ wsX5_checkBand := by decide +kernel
theorem at_kX5_checkBandL : ∀ w ∈ (vx_atS RX5 195 kX_io kX_up).filter goodWord, w ∈ wsX5_checkBand := by decide +kernel
abbrev rmX5_checkBandL : Room := { frames := 6, cells := 1, slots := 6, locals := 82 }
set_option maxRecDepth 100000 in
set_option maxHeartbeats 4000000 in
theorem kX5_checkBandL (l : Launch) (G : va_G) (cI cZ cJ cD : ClassId) (hfl : l.stackTraces = false) (x0 tr v0 a0 e0 r0 : Nat) (h0 q1 q2 w h : Nat) (hw : w ≤ 24) (hh : h ≤ 24) (B O : Nat → Int32) (la ua ra da : Nat) (hlr : la ≤ ra) (hra : ra ≤ w) (hud : ua ≤ da) (hda : da ≤ h) (E : Nat → Int32) (ak su : Bool) (gm : UInt64) (be : Int32) (bs : UInt64) (T : Nat → Int32) (tc : Nat) (k : Int32) (hk1 : k < 0) : Ce l G (kTy cI cZ cJ cD) yX5_checkBand wsX5_checkBand rmX5_checkBandL [.ref x0, .int k] [(x0, .inr (4, [.ref h0, .ref v0, .ref a0, .ref r0, .ref tr, .int (nI tc)])), (tr, .inl (cI, 16, .inl T)), (v0, .inr (3, [.ref h0, .int (nI la), .int (nI ua), .int (nI ra), .int (nI da)])), (a0, .inr (2, [.ref h0, .ref e0, .int (b2i ak), .int (b2i su), .double gm, .int be, .double bs])), (e0, .inl (cI, 48, .inl E)), (r0, .inr (1, [.ref h0])), (h0, .inr (0, [.int (nI w), .int (nI h), .double (midF w), .double (midF h), .ref q1, .ref q2])), (q1, .inl (cI, 24, .inl B)), (q2, .inl (cI, 24, .inl O))] kX_io 198 "no such band" := by
  refine Ce.of (cc := cX5_checkBand) (maxL := 2) rfl rfl hfl (by decide) (by decide) rfl (Nat.le_of_ble_eq_true rfl) rfl ?_
  intro p e s m args below meth c A Q sa hx hb hml hts hown hA hK hP hD hS hT hthr hgo ls hl
  refine lv_iload_n hx hb dX5_checkBand_0 rfl (lv_at hl 1 rfl) ?_
  refine lv_if_lt (tgt := 15) hx hb dX5_checkBand_1 (by decide) (fun c_1 => ?_) (fun h9 => absurd hk1 h9)
  exact hthr _ _ _ _ _ 191 195 rfl (hts _ wd_kX5_checkBandL_cl191) (hts _ wd_kX5_checkBandL_iikX_io) (fun w h9 => hts w (at_kX5_checkBandL w h9)) at2_195 gd_195 hl.1 dX5_checkBand_15 dX5_checkBand_18 dX5_checkBand_19 dX5_checkBand_21 dX5_checkBand_24 (Nat.le_of_ble_eq_true rfl) (Nat.le_of_ble_eq_true rfl) hP hS
theorem in_kX5_checkBandH_X5 : ∀ w ∈ u_ws RX5 TX5 6, w ∈ wsX5_checkBand := by decide +kernel
theorem fl_kX5_checkBandH_49 : Cond.fieldLink RX5 49 "SkewFind" "rows" "LSkewFind$Rows;" ∈ wsX5_checkBand := by decide +kernel
theorem wd_kX5_checkBandH_cl191 : Cond.classLink RX5 191 kX_io ∈ wsX5_checkBand := by decide +kernel
theorem wd_kX5_checkBandH_iikX_io : Cond.initialized kX_io ∈ wsX5_checkBand := by decide +kernel
theorem at_kX5_checkBandH : ∀ w ∈ (vx_atS RX5 195 kX_io kX_up).filter goodWord, w ∈ wsX5_checkBand := by decide +kernel
abbrev rmX5_checkBandH : Room := { frames := 6, cells := 1, slots := 6, locals := 82 }
set_option maxRecDepth 100000 in
set_option maxHeartbeats 4000000 in
theorem kX5_checkBandH (l : Launch) (G : va_G) (cI cZ cJ cD : ClassId) (hfl : l.stackTraces = false) (x0 tr v0 a0 e0 r0 : Nat) (h0 q1 q2 w h : Nat) (hw : w ≤ 24) (hh : h ≤ 24) (B O : Nat → Int32) (la ua ra da : Nat) (hlr : la ≤ ra) (hra : ra ≤ w) (hud : ua ≤ da) (hda : da ≤ h) (E : Nat → Int32) (ak su : Bool) (gm : UInt64) (be : Int32) (bs : UInt64) (T : Nat → Int32) (tc : Nat) (k : Int32) (hk1 : ¬ k < 0) (hk2 : ¬ k < bandsN B h) : Ce l G (kTy cI cZ cJ cD) yX5_checkBand wsX5_checkBand rmX5_checkBandH [.ref x0, .int k] [(x0, .inr (4, [.ref h0, .ref v0, .ref a0, .ref r0, .ref tr, .int (nI tc)])), (tr, .inl (cI, 16, .inl T)), (v0, .inr (3, [.ref h0, .int (nI la), .int (nI ua), .int (nI ra), .int (nI da)])), (a0, .inr (2, [.ref h0, .ref e0, .int (b2i ak), .int (b2i su), .double gm, .int be, .double bs])), (e0, .inl (cI, 48, .inl E)), (r0, .inr (1, [.ref h0])), (h0, .inr (0, [.int (nI w), .int (nI h), .double (midF w), .double (midF h), .ref q1, .ref q2])), (q1, .inl (cI, 24, .inl B)), (q2, .inl (cI, 24, .inl O))] kX_io 198 "no such band" := by
  refine Ce.of (cc := cX5_checkBand) (maxL := 2) rfl rfl hfl (by decide) (by decide) rfl (Nat.le_of_ble_eq_true rfl) rfl ?_
  intro p e s m args below meth c A Q sa hx hb hml hts hown hA hK hP hD hS hT hthr hgo ls hl
  refine lv_iload_n hx hb dX5_checkBand_0 rfl (lv_at hl 1 rfl) ?_
  refine lv_if_lt (tgt := 15) hx hb dX5_checkBand_1 (by decide) (fun h9 => absurd h9 hk1) (fun c_1 => ?_)
  refine lv_iload_n hx hb dX5_checkBand_4 rfl (lv_at hl 1 rfl) ?_
  refine lv_aload_n hx hb dX5_checkBand_5 rfl (lv_at hl 0 rfl) ?_
  refine va_get (D := G) (ci := 4) (v := .ref r0) (C := RX5) (T := TX5) (N := 6) hx hb hts in_kX5_checkBandH_X5 hown hK hP 0 rfl rfl 3 (by decide) (hts _ fl_kX5_checkBandH_49) (fun _ h9 => h9) rfl dX5_checkBand_6 ?_
  refine kVi (w' := [(x0, .inr (4, [.ref h0, .ref v0, .ref a0, .ref r0, .ref tr, .int (nI tc)])), (tr, .inl (cI, 16, .inl T)), (v0, .inr (3, [.ref h0, .int (nI la), .int (nI ua), .int (nI ra), .int (nI da)])), (a0, .inr (2, [.ref h0, .ref e0, .int (b2i ak), .int (b2i su), .double gm, .int be, .double bs])), (e0, .inl (cI, 48, .inl E)), (r0, .inr (1, [.ref h0])), (h0, .inr (0, [.int (nI w), .int (nI h), .double (midF w), .double (midF h), .ref q1, .ref q2])), (q1, .inl (cI, 24, .inl B)), (q2, .inl (cI, 24, .inl O))]) (wr := [(x0, .inr (4, [.ref h0, .ref v0, .ref a0, .ref r0, .ref tr, .int (nI tc)])), (tr, .inl (cI, 16, .inl T)), (v0, .inr (3, [.ref h0, .int (nI la), .int (nI ua), .int (nI ra), .int (nI da)])), (a0, .inr (2, [.ref h0, .ref e0, .int (b2i ak), .int (b2i su), .double gm, .int be, .double bs])), (e0, .inl (cI, 48, .inl E))]) (isC := [5, 6, 7, 8]) (isR := [0, 1, 2, 3, 4]) (pm := [0, 1, 2, 3, 4, 5, 6, 7, 8]) (rest := [.int k]) (kX2_bandCount l G cI cZ cJ cD r0 h0 q1 q2 w h hw hh B O ) ⟨hx, hb, hml, hown, hts⟩ (cwV 0 hts gX5_checkBand_X2_bandCount rfl rfl rfl hd_X2_bandCount ⟨Nat.le_of_ble_eq_true rfl, Nat.le_of_ble_eq_true rfl⟩) hK hP hD hS hA ⟨rfl, rfl, rfl, by decide, rfl, rfl, rfl⟩ 1 5 rfl rfl rfl hl.1 rfl (Nat.le_of_ble_eq_true rfl) dX5_checkBand_9 ⟨Nat.le_of_ble_eq_true rfl, Nat.le_of_ble_eq_true rfl⟩ rfl rfl (fun H locs hP hD hS => ?_)
  refine lv_icmp_lt (tgt := 25) hx hb dX5_checkBand_12 (by decide) (fun h9 => absurd h9 hk2) (fun c_12 => ?_)
  exact hthr _ _ _ _ _ 191 195 rfl (hts _ wd_kX5_checkBandH_cl191) (hts _ wd_kX5_checkBandH_iikX_io) (fun w h9 => hts w (at_kX5_checkBandH w h9)) at2_195 gd_195 hl.1 dX5_checkBand_15 dX5_checkBand_18 dX5_checkBand_19 dX5_checkBand_21 dX5_checkBand_24 (Nat.le_of_ble_eq_true rfl) (Nat.le_of_ble_eq_true rfl) hP hS
theorem in_kX5_checkAskedX_X5 : ∀ w ∈ u_ws RX5 TX5 6, w ∈ wsX5_checkAsked := by decide +kernel
theorem fl_kX5_checkAskedX_42 : Cond.fieldLink RX5 42 "SkewFind" "search" "LSkewFind$Search;" ∈ wsX5_checkAsked := by decide +kernel
theorem wd_kX5_checkAskedX_cl205 : Cond.classLink RX5 205 kX_is ∈ wsX5_checkAsked := by decide +kernel
theorem wd_kX5_checkAskedX_iikX_is : Cond.initialized kX_is ∈ wsX5_checkAsked := by decide +kernel
theorem at_kX5_checkAskedX : ∀ w ∈ (vx_atS RX5 209 kX_is kX_up).filter goodWord, w ∈ wsX5_checkAsked := by decide +kernel
abbrev rmX5_checkAskedX : Room := { frames := 6, cells := 1, slots := 6, locals := 82 }
set_option maxRecDepth 100000 in
set_option maxHeartbeats 4000000 in
theorem kX5_checkAskedX (l : Launch) (G : va_G) (cI cZ cJ cD : ClassId) (hfl : l.stackTraces = false) (x0 tr v0 a0 e0 r0 : Nat) (h0 q1 q2 w h : Nat) (hw : w ≤ 24) (hh : h ≤ 24) (B O : Nat → Int32) (la ua ra da : Nat) (hlr : la ≤ ra) (hra : ra ≤ w) (hud : ua ≤ da) (hda : da ≤ h) (E : Nat → Int32) (ak su : Bool) (gm : UInt64) (be : Int32) (bs : UInt64) (T : Nat → Int32) (tc : Nat) (hak : ak = false) : Ce l G (kTy cI cZ cJ cD) yX5_checkAsked wsX5_checkAsked rmX5_checkAskedX [.ref x0] [(x0, .inr (4, [.ref h0, .ref v0, .ref a0, .ref r0, .ref tr, .int (nI tc)])), (tr, .inl (cI, 16, .inl T)), (v0, .inr (3, [.ref h0, .int (nI la), .int (nI ua), .int (nI ra), .int (nI da)])), (a0, .inr (2, [.ref h0, .ref e0, .int (b2i ak), .int (b2i su), .double gm, .int be, .double bs])), (e0, .inl (cI, 48, .inl E)), (r0, .inr (1, [.ref h0])), (h0, .inr (0, [.int (nI w), .int (nI h), .double (midF w), .double (midF h), .ref q1, .ref q2])), (q1, .inl (cI, 24, .inl B)), (q2, .inl (cI, 24, .inl O))] kX_is 207 "the best angle was not asked for" := by
  refine Ce.of (cc := cX5_checkAsked) (maxL := 1) rfl rfl hfl (by decide) (by decide) rfl (Nat.le_of_ble_eq_true rfl) rfl ?_
  intro p e s m args below meth c A Q sa hx hb hml hts hown hA hK hP hD hS hT hthr hgo ls hl
  refine lv_aload_n hx hb dX5_checkAsked_0 rfl (lv_at hl 0 rfl) ?_
  refine va_get (D := G) (ci := 4) (v := .ref a0) (C := RX5) (T := TX5) (N := 6) hx hb hts in_kX5_checkAskedX_X5 hown hK hP 0 rfl rfl 2 (by decide) (hts _ fl_kX5_checkAskedX_42) (fun _ h9 => h9) rfl dX5_checkAsked_1 ?_
  refine kVi (w' := [(x0, .inr (4, [.ref h0, .ref v0, .ref a0, .ref r0, .ref tr, .int (nI tc)])), (tr, .inl (cI, 16, .inl T)), (v0, .inr (3, [.ref h0, .int (nI la), .int (nI ua), .int (nI ra), .int (nI da)])), (a0, .inr (2, [.ref h0, .ref e0, .int (b2i ak), .int (b2i su), .double gm, .int be, .double bs])), (e0, .inl (cI, 48, .inl E)), (r0, .inr (1, [.ref h0])), (h0, .inr (0, [.int (nI w), .int (nI h), .double (midF w), .double (midF h), .ref q1, .ref q2])), (q1, .inl (cI, 24, .inl B)), (q2, .inl (cI, 24, .inl O))]) (wr := [(x0, .inr (4, [.ref h0, .ref v0, .ref a0, .ref r0, .ref tr, .int (nI tc)])), (tr, .inl (cI, 16, .inl T)), (v0, .inr (3, [.ref h0, .int (nI la), .int (nI ua), .int (nI ra), .int (nI da)])), (r0, .inr (1, [.ref h0]))]) (isC := [3, 4, 6, 7, 8]) (isR := [0, 1, 2, 5]) (pm := [0, 1, 2, 4, 5, 3, 6, 7, 8]) (rest := []) (kX3_isAsked l G cI cZ cJ cD a0 e0 h0 q1 q2 w h hw hh B O E ak su gm be bs ) ⟨hx, hb, hml, hown, hts⟩ (cwV 0 hts gX5_checkAsked_X3_isAsked rfl rfl rfl hd_X3_isAsked ⟨Nat.le_of_ble_eq_true rfl, Nat.le_of_ble_eq_true rfl⟩) hK hP hD hS hA ⟨rfl, rfl, rfl, by decide, rfl, rfl, rfl⟩ 2 3 rfl rfl rfl hl.1 rfl (Nat.le_of_ble_eq_true rfl) dX5_checkAsked_4 ⟨Nat.le_of_ble_eq_true rfl, Nat.le_of_ble_eq_true rfl⟩ rfl rfl (fun H locs hP hD hS => ?_)
  refine kIfNeB (tgt := 20) hx hb dX5_checkAsked_7 (by decide) (fun h9 => (by rw [hak] at h9; cases h9)) (fun c_7 => ?_)
  exact hthr _ _ _ _ _ 205 209 rfl (hts _ wd_kX5_checkAskedX_cl205) (hts _ wd_kX5_checkAskedX_iikX_is) (fun w h9 => hts w (at_kX5_checkAskedX w h9)) at2_209 gd_209 hl.1 dX5_checkAsked_10 dX5_checkAsked_13 dX5_checkAsked_14 dX5_checkAsked_16 dX5_checkAsked_19 (Nat.le_of_ble_eq_true rfl) (Nat.le_of_ble_eq_true rfl) hP hS
abbrev rmX5_putX : Room := { frames := 7, cells := 1, slots := 6, locals := 104 }
set_option maxRecDepth 100000 in
set_option maxHeartbeats 4000000 in
theorem kX5_putX (l : Launch) (G : va_G) (cI cZ cJ cD : ClassId) (hfl : l.stackTraces = false) (x0 tr v0 a0 e0 r0 : Nat) (h0 q1 q2 w h : Nat) (hw : w ≤ 24) (hh : h ≤ 24) (B O : Nat → Int32) (la ua ra da : Nat) (hlr : la ≤ ra) (hra : ra ≤ w) (hud : ua ≤ da) (hda : da ≤ h) (E : Nat → Int32) (ak su : Bool) (gm : UInt64) (be : Int32) (bs : UInt64) (T : Nat → Int32) (tc : Nat) (x y n on : Int32) (hv : hasB w h x y = false) : Ce l G (kTy cI cZ cJ cD) yX5_put wsX5_put rmX5_putX [.ref x0, .int x, .int y, .int n, .int on] [(x0, .inr (4, [.ref h0, .ref v0, .ref a0, .ref r0, .ref tr, .int (nI tc)])), (tr, .inl (cI, 16, .inl T)), (v0, .inr (3, [.ref h0, .int (nI la), .int (nI ua), .int (nI ra), .int (nI da)])), (a0, .inr (2, [.ref h0, .ref e0, .int (b2i ak), .int (b2i su), .double gm, .int be, .double bs])), (e0, .inl (cI, 48, .inl E)), (r0, .inr (1, [.ref h0])), (h0, .inr (0, [.int (nI w), .int (nI h), .double (midF w), .double (midF h), .ref q1, .ref q2])), (q1, .inl (cI, 24, .inl B)), (q2, .inl (cI, 24, .inl O))] kX_io 193 "no such sample" := by
  refine Ce.of (cc := cX5_put) (maxL := 6) rfl rfl hfl (by decide) (by decide) rfl (Nat.le_of_ble_eq_true rfl) rfl ?_
  intro p e s m args below meth c A Q sa hx hb hml hts hown hA hK hP hD hS hT hthr hgo ls hl
  refine lv_aload_n hx hb dX5_put_0 rfl (lv_at hl 0 rfl) ?_
  refine lv_iload_n hx hb dX5_put_1 rfl (lv_at hl 1 rfl) ?_
  refine lv_iload_n hx hb dX5_put_2 rfl (lv_at hl 2 rfl) ?_
  refine kVe (wr := []) (isC := [0, 1, 2, 3, 4, 5, 6, 7, 8]) (isR := []) (pm := [0, 1, 2, 3, 4, 5, 6, 7, 8]) (rest := []) (kX5_checkSampleX l G cI cZ cJ cD hfl x0 tr v0 a0 e0 r0 h0 q1 q2 w h hw hh B O la ua ra da hlr hra hud hda E ak su gm be bs T tc x y hv) ⟨hx, hb, hml, hown, hts⟩ (cwV 2 hts gX5_put_X5_checkSample rfl rfl rfl hd_X5_checkSample ⟨Nat.le_of_ble_eq_true rfl, Nat.le_of_ble_eq_true rfl⟩) hK hP hD hS hA hT ⟨rfl, rfl, rfl, by decide, rfl, rfl, rfl⟩ 4 0 rfl rfl rfl hl.1 rfl (Nat.le_of_ble_eq_true rfl) dX5_put_3 rfl rfl ⟨Nat.le_of_ble_eq_true rfl, Nat.le_of_ble_eq_true rfl⟩ (fun q9 ce H locs hP hD hS hce hcv hcl => hgo _ _ _ _ _ _ _ hP hS hce hcv hcl)
theorem wd_kX5_putN_cl56 : Cond.classLink RX5 56 kX_ia ∈ wsX5_put := by decide +kernel
theorem wd_kX5_putN_iikX_ia : Cond.initialized kX_ia ∈ wsX5_put := by decide +kernel
theorem at_kX5_putN : ∀ w ∈ (vx_atS RX5 60 kX_ia kX_up).filter goodWord, w ∈ wsX5_put := by decide +kernel
abbrev rmX5_putN : Room := { frames := 7, cells := 1, slots := 6, locals := 104 }
set_option maxRecDepth 100000 in
set_option maxHeartbeats 4000000 in
theorem kX5_putN (l : Launch) (G : va_G) (cI cZ cJ cD : ClassId) (hfl : l.stackTraces = false) (x0 tr v0 a0 e0 r0 : Nat) (h0 q1 q2 w h : Nat) (hw : w ≤ 24) (hh : h ≤ 24) (B O : Nat → Int32) (la ua ra da : Nat) (hlr : la ≤ ra) (hra : ra ≤ w) (hud : ua ≤ da) (hda : da ≤ h) (E : Nat → Int32) (ak su : Bool) (gm : UInt64) (be : Int32) (bs : UInt64) (T : Nat → Int32) (tc : Nat) (x y n on : Int32) (hv : hasB w h x y = true) (hn : ¬ 1 ≤ n) : Ce l G (kTy cI cZ cJ cD) yX5_put wsX5_put rmX5_putN [.ref x0, .int x, .int y, .int n, .int on] [(x0, .inr (4, [.ref h0, .ref v0, .ref a0, .ref r0, .ref tr, .int (nI tc)])), (tr, .inl (cI, 16, .inl T)), (v0, .inr (3, [.ref h0, .int (nI la), .int (nI ua), .int (nI ra), .int (nI da)])), (a0, .inr (2, [.ref h0, .ref e0, .int (b2i ak), .int (b2i su), .double gm, .int be, .double bs])), (e0, .inl (cI, 48, .inl E)), (r0, .inr (1, [.ref h0])), (h0, .inr (0, [.int (nI w), .int (nI h), .double (midF w), .double (midF h), .ref q1, .ref q2])), (q1, .inl (cI, 24, .inl B)), (q2, .inl (cI, 24, .inl O))] kX_ia 58 "n is below 1" := by
  refine Ce.of (cc := cX5_put) (maxL := 6) rfl rfl hfl (by decide) (by decide) rfl (Nat.le_of_ble_eq_true rfl) rfl ?_
  intro p e s m args below meth c A Q sa hx hb hml hts hown hA hK hP hD hS hT hthr hgo ls hl
  refine lv_aload_n hx hb dX5_put_0 rfl (lv_at hl 0 rfl) ?_
  refine lv_iload_n hx hb dX5_put_1 rfl (lv_at hl 1 rfl) ?_
  refine lv_iload_n hx hb dX5_put_2 rfl (lv_at hl 2 rfl) ?_
  refine kVv (w' := [(x0, .inr (4, [.ref h0, .ref v0, .ref a0, .ref r0, .ref tr, .int (nI tc)])), (tr, .inl (cI, 16, .inl T)), (v0, .inr (3, [.ref h0, .int (nI la), .int (nI ua), .int (nI ra), .int (nI da)])), (a0, .inr (2, [.ref h0, .ref e0, .int (b2i ak), .int (b2i su), .double gm, .int be, .double bs])), (e0, .inl (cI, 48, .inl E)), (r0, .inr (1, [.ref h0])), (h0, .inr (0, [.int (nI w), .int (nI h), .double (midF w), .double (midF h), .ref q1, .ref q2])), (q1, .inl (cI, 24, .inl B)), (q2, .inl (cI, 24, .inl O))]) (wr := []) (isC := [0, 1, 2, 3, 4, 5, 6, 7, 8]) (isR := []) (pm := [0, 1, 2, 3, 4, 5, 6, 7, 8]) (rest := []) (kX5_checkSample l G cI cZ cJ cD x0 tr v0 a0 e0 r0 h0 q1 q2 w h hw hh B O la ua ra da hlr hra hud hda E ak su gm be bs T tc x y hv) ⟨hx, hb, hml, hown, hts⟩ (cwV 2 hts gX5_put_X5_checkSample rfl rfl rfl hd_X5_checkSample ⟨Nat.le_of_ble_eq_true rfl, Nat.le_of_ble_eq_true rfl⟩) hK hP hD hS hA ⟨rfl, rfl, rfl, by decide, rfl, rfl, rfl⟩ 4 0 rfl rfl rfl hl.1 rfl (Nat.le_of_ble_eq_true rfl) dX5_put_3 ⟨Nat.le_of_ble_eq_true rfl, Nat.le_of_ble_eq_true rfl⟩ rfl rfl (fun H locs hP hD hS => ?_)
  refine lv_iload_n hx hb dX5_put_6 rfl (lv_at hl 3 rfl) ?_
  refine lv_iconst (v := 1) hx hb dX5_put_7 (by decide) ?_
  refine lv_icmp_ge (tgt := 21) hx hb dX5_put_8 (by decide) (fun h9 => absurd h9 hn) (fun c_8 => ?_)
  exact hthr _ _ _ _ _ 56 60 rfl (hts _ wd_kX5_putN_cl56) (hts _ wd_kX5_putN_iikX_ia) (fun w h9 => hts w (at_kX5_putN w h9)) at2_60 gd_60 hl.1 dX5_put_11 dX5_put_14 dX5_put_15 dX5_put_17 dX5_put_20 (Nat.le_of_ble_eq_true rfl) (Nat.le_of_ble_eq_true rfl) hP hS
abbrev rmX5_atX : Room := { frames := 7, cells := 1, slots := 6, locals := 104 }
set_option maxRecDepth 100000 in
set_option maxHeartbeats 4000000 in
theorem kX5_atX (l : Launch) (G : va_G) (cI cZ cJ cD : ClassId) (hfl : l.stackTraces = false) (x0 tr v0 a0 e0 r0 : Nat) (h0 q1 q2 w h : Nat) (hw : w ≤ 24) (hh : h ≤ 24) (B O : Nat → Int32) (la ua ra da : Nat) (hlr : la ≤ ra) (hra : ra ≤ w) (hud : ua ≤ da) (hda : da ≤ h) (E : Nat → Int32) (ak su : Bool) (gm : UInt64) (be : Int32) (bs : UInt64) (T : Nat → Int32) (tc : Nat) (x y : Int32) (hv : hasB w h x y = false) : Ce l G (kTy cI cZ cJ cD) yX5_at wsX5_at rmX5_atX [.ref x0, .int x, .int y] [(x0, .inr (4, [.ref h0, .ref v0, .ref a0, .ref r0, .ref tr, .int (nI tc)])), (tr, .inl (cI, 16, .inl T)), (v0, .inr (3, [.ref h0, .int (nI la), .int (nI ua), .int (nI ra), .int (nI da)])), (a0, .inr (2, [.ref h0, .ref e0, .int (b2i ak), .int (b2i su), .double gm, .int be, .double bs])), (e0, .inl (cI, 48, .inl E)), (r0, .inr (1, [.ref h0])), (h0, .inr (0, [.int (nI w), .int (nI h), .double (midF w), .double (midF h), .ref q1, .ref q2])), (q1, .inl (cI, 24, .inl B)), (q2, .inl (cI, 24, .inl O))] kX_io 193 "no such sample" := by
  refine Ce.of (cc := cX5_at) (maxL := 3) rfl rfl hfl (by decide) (by decide) rfl (Nat.le_of_ble_eq_true rfl) rfl ?_
  intro p e s m args below meth c A Q sa hx hb hml hts hown hA hK hP hD hS hT hthr hgo ls hl
  refine lv_aload_n hx hb dX5_at_0 rfl (lv_at hl 0 rfl) ?_
  refine lv_iload_n hx hb dX5_at_1 rfl (lv_at hl 1 rfl) ?_
  refine lv_iload_n hx hb dX5_at_2 rfl (lv_at hl 2 rfl) ?_
  refine kVe (wr := []) (isC := [0, 1, 2, 3, 4, 5, 6, 7, 8]) (isR := []) (pm := [0, 1, 2, 3, 4, 5, 6, 7, 8]) (rest := []) (kX5_checkSampleX l G cI cZ cJ cD hfl x0 tr v0 a0 e0 r0 h0 q1 q2 w h hw hh B O la ua ra da hlr hra hud hda E ak su gm be bs T tc x y hv) ⟨hx, hb, hml, hown, hts⟩ (cwV 2 hts gX5_at_X5_checkSample rfl rfl rfl hd_X5_checkSample ⟨Nat.le_of_ble_eq_true rfl, Nat.le_of_ble_eq_true rfl⟩) hK hP hD hS hA hT ⟨rfl, rfl, rfl, by decide, rfl, rfl, rfl⟩ 4 0 rfl rfl rfl hl.1 rfl (Nat.le_of_ble_eq_true rfl) dX5_at_3 rfl rfl ⟨Nat.le_of_ble_eq_true rfl, Nat.le_of_ble_eq_true rfl⟩ (fun q9 ce H locs hP hD hS hce hcv hcl => hgo _ _ _ _ _ _ _ hP hS hce hcv hcl)
abbrev rmX5_sumL : Room := { frames := 7, cells := 1, slots := 6, locals := 102 }
set_option maxRecDepth 100000 in
set_option maxHeartbeats 4000000 in
theorem kX5_sumL (l : Launch) (G : va_G) (cI cZ cJ cD : ClassId) (hfl : l.stackTraces = false) (x0 tr v0 a0 e0 r0 : Nat) (h0 q1 q2 w h : Nat) (hw : w ≤ 24) (hh : h ≤ 24) (B O : Nat → Int32) (la ua ra da : Nat) (hlr : la ≤ ra) (hra : ra ≤ w) (hud : ua ≤ da) (hda : da ≤ h) (E : Nat → Int32) (ak su : Bool) (gm : UInt64) (be : Int32) (bs : UInt64) (T : Nat → Int32) (tc : Nat) (a : Int32) (hg1 : a < -2000) : Ce l G (kTy cI cZ cJ cD) yX5_sum wsX5_sum rmX5_sumL [.ref x0, .int a] [(x0, .inr (4, [.ref h0, .ref v0, .ref a0, .ref r0, .ref tr, .int (nI tc)])), (tr, .inl (cI, 16, .inl T)), (v0, .inr (3, [.ref h0, .int (nI la), .int (nI ua), .int (nI ra), .int (nI da)])), (a0, .inr (2, [.ref h0, .ref e0, .int (b2i ak), .int (b2i su), .double gm, .int be, .double bs])), (e0, .inl (cI, 48, .inl E)), (r0, .inr (1, [.ref h0])), (h0, .inr (0, [.int (nI w), .int (nI h), .double (midF w), .double (midF h), .ref q1, .ref q2])), (q1, .inl (cI, 24, .inl B)), (q2, .inl (cI, 24, .inl O))] kX_ia 200 "the angle is not -2000 .. 2000" := by
  refine Ce.of (cc := cX5_sum) (maxL := 2) rfl rfl hfl (by decide) (by decide) rfl (Nat.le_of_ble_eq_true rfl) rfl ?_
  intro p e s m args below meth c A Q sa hx hb hml hts hown hA hK hP hD hS hT hthr hgo ls hl
  refine lv_iload_n hx hb dX5_sum_0 rfl (lv_at hl 1 rfl) ?_
  refine kSe (rest := []) (kX5_checkAngleL l G cI cZ cJ cD hfl a hg1) ⟨hx, hb, hml, hown, hts⟩ (va_cwS 1 hts gX5_sum_X5_checkAngle rfl rfl rfl hs_X5_checkAngle ⟨Nat.le_of_ble_eq_true rfl, Nat.le_of_ble_eq_true rfl⟩) hK hP hD hS hA hT rfl hl.1 rfl (Nat.le_of_ble_eq_true rfl) dX5_sum_1 rfl rfl ⟨Nat.le_of_ble_eq_true rfl, Nat.le_of_ble_eq_true rfl⟩ (fun q9 ce H locs hP hD hS hce hcv hcl => hgo _ _ _ _ _ _ _ hP hS hce hcv hcl)
abbrev rmX5_sumH : Room := { frames := 7, cells := 1, slots := 6, locals := 102 }
set_option maxRecDepth 100000 in
set_option maxHeartbeats 4000000 in
theorem kX5_sumH (l : Launch) (G : va_G) (cI cZ cJ cD : ClassId) (hfl : l.stackTraces = false) (x0 tr v0 a0 e0 r0 : Nat) (h0 q1 q2 w h : Nat) (hw : w ≤ 24) (hh : h ≤ 24) (B O : Nat → Int32) (la ua ra da : Nat) (hlr : la ≤ ra) (hra : ra ≤ w) (hud : ua ≤ da) (hda : da ≤ h) (E : Nat → Int32) (ak su : Bool) (gm : UInt64) (be : Int32) (bs : UInt64) (T : Nat → Int32) (tc : Nat) (a : Int32) (hg1 : ¬ a < -2000) (hg2 : ¬ a ≤ 2000) : Ce l G (kTy cI cZ cJ cD) yX5_sum wsX5_sum rmX5_sumH [.ref x0, .int a] [(x0, .inr (4, [.ref h0, .ref v0, .ref a0, .ref r0, .ref tr, .int (nI tc)])), (tr, .inl (cI, 16, .inl T)), (v0, .inr (3, [.ref h0, .int (nI la), .int (nI ua), .int (nI ra), .int (nI da)])), (a0, .inr (2, [.ref h0, .ref e0, .int (b2i ak), .int (b2i su), .double gm, .int be, .double bs])), (e0, .inl (cI, 48, .inl E)), (r0, .inr (1, [.ref h0])), (h0, .inr (0, [.int (nI w), .int (nI h), .double (midF w), .double (midF h), .ref q1, .ref q2])), (q1, .inl (cI, 24, .inl B)), (q2, .inl (cI, 24, .inl O))] kX_ia 200 "the angle is not -2000 .. 2000" := by
  refine Ce.of (cc := cX5_sum) (maxL := 2) rfl rfl hfl (by decide) (by decide) rfl (Nat.le_of_ble_eq_true rfl) rfl ?_
  intro p e s m args below meth c A Q sa hx hb hml hts hown hA hK hP hD hS hT hthr hgo ls hl
  refine lv_iload_n hx hb dX5_sum_0 rfl (lv_at hl 1 rfl) ?_
  refine kSe (rest := []) (kX5_checkAngleH l G cI cZ cJ cD hfl a hg1 hg2) ⟨hx, hb, hml, hown, hts⟩ (va_cwS 1 hts gX5_sum_X5_checkAngle rfl rfl rfl hs_X5_checkAngle ⟨Nat.le_of_ble_eq_true rfl, Nat.le_of_ble_eq_true rfl⟩) hK hP hD hS hA hT rfl hl.1 rfl (Nat.le_of_ble_eq_true rfl) dX5_sum_1 rfl rfl ⟨Nat.le_of_ble_eq_true rfl, Nat.le_of_ble_eq_true rfl⟩ (fun q9 ce H locs hP hD hS hce hcv hcl => hgo _ _ _ _ _ _ _ hP hS hce hcv hcl)
theorem wd_kX5_angleL_cl56 : Cond.classLink RX5 56 kX_ia ∈ wsX5_angle := by decide +kernel
theorem wd_kX5_angleL_iikX_ia : Cond.initialized kX_ia ∈ wsX5_angle := by decide +kernel
theorem at_kX5_angleL : ∀ w ∈ (vx_atS RX5 60 kX_ia kX_up).filter goodWord, w ∈ wsX5_angle := by decide +kernel
abbrev rmX5_angleL : Room := { frames := 6, cells := 1, slots := 6, locals := 82 }
set_option maxRecDepth 100000 in
set_option maxHeartbeats 4000000 in
theorem kX5_angleL (l : Launch) (G : va_G) (cI cZ cJ cD : ClassId) (hfl : l.stackTraces = false) (x0 tr v0 a0 e0 r0 : Nat) (h0 q1 q2 w h : Nat) (hw : w ≤ 24) (hh : h ≤ 24) (B O : Nat → Int32) (la ua ra da : Nat) (hlr : la ≤ ra) (hra : ra ≤ w) (hud : ua ≤ da) (hda : da ≤ h) (E : Nat → Int32) (ak su : Bool) (gm : UInt64) (be : Int32) (bs : UInt64) (T : Nat → Int32) (tc : Nat) (a : Int32) (hg1 : a < 0) : Ce l G (kTy cI cZ cJ cD) yX5_angle wsX5_angle rmX5_angleL [.ref x0, .int a] [(x0, .inr (4, [.ref h0, .ref v0, .ref a0, .ref r0, .ref tr, .int (nI tc)])), (tr, .inl (cI, 16, .inl T)), (v0, .inr (3, [.ref h0, .int (nI la), .int (nI ua), .int (nI ra), .int (nI da)])), (a0, .inr (2, [.ref h0, .ref e0, .int (b2i ak), .int (b2i su), .double gm, .int be, .double bs])), (e0, .inl (cI, 48, .inl E)), (r0, .inr (1, [.ref h0])), (h0, .inr (0, [.int (nI w), .int (nI h), .double (midF w), .double (midF h), .ref q1, .ref q2])), (q1, .inl (cI, 24, .inl B)), (q2, .inl (cI, 24, .inl O))] kX_ia 82 "the bound is not 0 .. 2000" := by
  refine Ce.of (cc := cX5_angle) (maxL := 2) rfl rfl hfl (by decide) (by decide) rfl (Nat.le_of_ble_eq_true rfl) rfl ?_
  intro p e s m args below meth c A Q sa hx hb hml hts hown hA hK hP hD hS hT hthr hgo ls hl
  refine lv_iload_n hx hb dX5_angle_0 rfl (lv_at hl 1 rfl) ?_
  refine lv_if_lt (tgt := 11) hx hb dX5_angle_1 (by decide) (fun c_1 => ?_) (fun h9 => absurd hg1 h9)
  exact hthr _ _ _ _ _ 56 60 rfl (hts _ wd_kX5_angleL_cl56) (hts _ wd_kX5_angleL_iikX_ia) (fun w h9 => hts w (at_kX5_angleL w h9)) at2_60 gd_60 hl.1 dX5_angle_11 dX5_angle_14 dX5_angle_15 dX5_angle_17 dX5_angle_20 (Nat.le_of_ble_eq_true rfl) (Nat.le_of_ble_eq_true rfl) hP hS
theorem wd_kX5_angleH_cl56 : Cond.classLink RX5 56 kX_ia ∈ wsX5_angle := by decide +kernel
theorem wd_kX5_angleH_iikX_ia : Cond.initialized kX_ia ∈ wsX5_angle := by decide +kernel
theorem at_kX5_angleH : ∀ w ∈ (vx_atS RX5 60 kX_ia kX_up).filter goodWord, w ∈ wsX5_angle := by decide +kernel
abbrev rmX5_angleH : Room := { frames := 6, cells := 1, slots := 6, locals := 82 }
set_option maxRecDepth 100000 in
set_option maxHeartbeats 4000000 in
theorem kX5_angleH (l : Launch) (G : va_G) (cI cZ cJ cD : ClassId) (hfl : l.stackTraces = false) (x0 tr v0 a0 e0 r0 : Nat) (h0 q1 q2 w h : Nat) (hw : w ≤ 24) (hh : h ≤ 24) (B O : Nat → Int32) (la ua ra da : Nat) (hlr : la ≤ ra) (hra : ra ≤ w) (hud : ua ≤ da) (hda : da ≤ h) (E : Nat → Int32) (ak su : Bool) (gm : UInt64) (be : Int32) (bs : UInt64) (T : Nat → Int32) (tc : Nat) (a : Int32) (hg1 : ¬ a < 0) (hg2 : ¬ a ≤ 2000) : Ce l G (kTy cI cZ cJ cD) yX5_angle wsX5_angle rmX5_angleH [.ref x0, .int a] [(x0, .inr (4, [.ref h0, .ref v0, .ref a0, .ref r0, .ref tr, .int (nI tc)])), (tr, .inl (cI, 16, .inl T)), (v0, .inr (3, [.ref h0, .int (nI la), .int (nI ua), .int (nI ra), .int (nI da)])), (a0, .inr (2, [.ref h0, .ref e0, .int (b2i ak), .int (b2i su), .double gm, .int be, .double bs])), (e0, .inl (cI, 48, .inl E)), (r0, .inr (1, [.ref h0])), (h0, .inr (0, [.int (nI w), .int (nI h), .double (midF w), .double (midF h), .ref q1, .ref q2])), (q1, .inl (cI, 24, .inl B)), (q2, .inl (cI, 24, .inl O))] kX_ia 82 "the bound is not 0 .. 2000" := by
  refine Ce.of (cc := cX5_angle) (maxL := 2) rfl rfl hfl (by decide) (by decide) rfl (Nat.le_of_ble_eq_true rfl) rfl ?_
  intro p e s m args below meth c A Q sa hx hb hml hts hown hA hK hP hD hS hT hthr hgo ls hl
  refine lv_iload_n hx hb dX5_angle_0 rfl (lv_at hl 1 rfl) ?_
  refine lv_if_lt (tgt := 11) hx hb dX5_angle_1 (by decide) (fun h9 => absurd h9 hg1) (fun c_1 => ?_)
  refine lv_iload_n hx hb dX5_angle_4 rfl (lv_at hl 1 rfl) ?_
  refine lv_sipush (v := 2000) hx hb dX5_angle_5 (by decide) ?_
  refine lv_icmp_le (tgt := 21) hx hb dX5_angle_8 (by decide) (fun h9 => absurd h9 hg2) (fun c_8 => ?_)
  exact hthr _ _ _ _ _ 56 60 rfl (hts _ wd_kX5_angleH_cl56) (hts _ wd_kX5_angleH_iikX_ia) (fun w h9 => hts w (at_kX5_angleH w h9)) at2_60 gd_60 hl.1 dX5_angle_11 dX5_angle_14 dX5_angle_15 dX5_angle_17 dX5_angle_20 (Nat.le_of_ble_eq_true rfl) (Nat.le_of_ble_eq_true rfl) hP hS
abbrev rmX5_sureX : Room := { frames := 7, cells := 1, slots := 6, locals := 102 }
set_option maxRecDepth 100000 in
set_option maxHeartbeats 4000000 in
theorem kX5_sureX (l : Launch) (G : va_G) (cI cZ cJ cD : ClassId) (hfl : l.stackTraces = false) (x0 tr v0 a0 e0 r0 : Nat) (h0 q1 q2 w h : Nat) (hw : w ≤ 24) (hh : h ≤ 24) (B O : Nat → Int32) (la ua ra da : Nat) (hlr : la ≤ ra) (hra : ra ≤ w) (hud : ua ≤ da) (hda : da ≤ h) (E : Nat → Int32) (ak su : Bool) (gm : UInt64) (be : Int32) (bs : UInt64) (T : Nat → Int32) (tc : Nat) (hak : ak = false) : Ce l G (kTy cI cZ cJ cD) yX5_sure wsX5_sure rmX5_sureX [.ref x0] [(x0, .inr (4, [.ref h0, .ref v0, .ref a0, .ref r0, .ref tr, .int (nI tc)])), (tr, .inl (cI, 16, .inl T)), (v0, .inr (3, [.ref h0, .int (nI la), .int (nI ua), .int (nI ra), .int (nI da)])), (a0, .inr (2, [.ref h0, .ref e0, .int (b2i ak), .int (b2i su), .double gm, .int be, .double bs])), (e0, .inl (cI, 48, .inl E)), (r0, .inr (1, [.ref h0])), (h0, .inr (0, [.int (nI w), .int (nI h), .double (midF w), .double (midF h), .ref q1, .ref q2])), (q1, .inl (cI, 24, .inl B)), (q2, .inl (cI, 24, .inl O))] kX_is 207 "the best angle was not asked for" := by
  refine Ce.of (cc := cX5_sure) (maxL := 1) rfl rfl hfl (by decide) (by decide) rfl (Nat.le_of_ble_eq_true rfl) rfl ?_
  intro p e s m args below meth c A Q sa hx hb hml hts hown hA hK hP hD hS hT hthr hgo ls hl
  refine lv_aload_n hx hb dX5_sure_0 rfl (lv_at hl 0 rfl) ?_
  refine kVe (wr := []) (isC := [0, 1, 2, 3, 4, 5, 6, 7, 8]) (isR := []) (pm := [0, 1, 2, 3, 4, 5, 6, 7, 8]) (rest := []) (kX5_checkAskedX l G cI cZ cJ cD hfl x0 tr v0 a0 e0 r0 h0 q1 q2 w h hw hh B O la ua ra da hlr hra hud hda E ak su gm be bs T tc hak) ⟨hx, hb, hml, hown, hts⟩ (cwV 0 hts gX5_sure_X5_checkAsked rfl rfl rfl hd_X5_checkAsked ⟨Nat.le_of_ble_eq_true rfl, Nat.le_of_ble_eq_true rfl⟩) hK hP hD hS hA hT ⟨rfl, rfl, rfl, by decide, rfl, rfl, rfl⟩ 4 0 rfl rfl rfl hl.1 rfl (Nat.le_of_ble_eq_true rfl) dX5_sure_1 rfl rfl ⟨Nat.le_of_ble_eq_true rfl, Nat.le_of_ble_eq_true rfl⟩ (fun q9 ce H locs hP hD hS hce hcv hcl => hgo _ _ _ _ _ _ _ hP hS hce hcv hcl)
abbrev rmX5_meanX : Room := { frames := 7, cells := 1, slots := 6, locals := 102 }
set_option maxRecDepth 100000 in
set_option maxHeartbeats 4000000 in
theorem kX5_meanX (l : Launch) (G : va_G) (cI cZ cJ cD : ClassId) (hfl : l.stackTraces = false) (x0 tr v0 a0 e0 r0 : Nat) (h0 q1 q2 w h : Nat) (hw : w ≤ 24) (hh : h ≤ 24) (B O : Nat → Int32) (la ua ra da : Nat) (hlr : la ≤ ra) (hra : ra ≤ w) (hud : ua ≤ da) (hda : da ≤ h) (E : Nat → Int32) (ak su : Bool) (gm : UInt64) (be : Int32) (bs : UInt64) (T : Nat → Int32) (tc : Nat) (hak : ak = false) : Ce l G (kTy cI cZ cJ cD) yX5_mean wsX5_mean rmX5_meanX [.ref x0] [(x0, .inr (4, [.ref h0, .ref v0, .ref a0, .ref r0, .ref tr, .int (nI tc)])), (tr, .inl (cI, 16, .inl T)), (v0, .inr (3, [.ref h0, .int (nI la), .int (nI ua), .int (nI ra), .int (nI da)])), (a0, .inr (2, [.ref h0, .ref e0, .int (b2i ak), .int (b2i su), .double gm, .int be, .double bs])), (e0, .inl (cI, 48, .inl E)), (r0, .inr (1, [.ref h0])), (h0, .inr (0, [.int (nI w), .int (nI h), .double (midF w), .double (midF h), .ref q1, .ref q2])), (q1, .inl (cI, 24, .inl B)), (q2, .inl (cI, 24, .inl O))] kX_is 207 "the best angle was not asked for" := by
  refine Ce.of (cc := cX5_mean) (maxL := 1) rfl rfl hfl (by decide) (by decide) rfl (Nat.le_of_ble_eq_true rfl) rfl ?_
  intro p e s m args below meth c A Q sa hx hb hml hts hown hA hK hP hD hS hT hthr hgo ls hl
  refine lv_aload_n hx hb dX5_mean_0 rfl (lv_at hl 0 rfl) ?_
  refine kVe (wr := []) (isC := [0, 1, 2, 3, 4, 5, 6, 7, 8]) (isR := []) (pm := [0, 1, 2, 3, 4, 5, 6, 7, 8]) (rest := []) (kX5_checkAskedX l G cI cZ cJ cD hfl x0 tr v0 a0 e0 r0 h0 q1 q2 w h hw hh B O la ua ra da hlr hra hud hda E ak su gm be bs T tc hak) ⟨hx, hb, hml, hown, hts⟩ (cwV 0 hts gX5_mean_X5_checkAsked rfl rfl rfl hd_X5_checkAsked ⟨Nat.le_of_ble_eq_true rfl, Nat.le_of_ble_eq_true rfl⟩) hK hP hD hS hA hT ⟨rfl, rfl, rfl, by decide, rfl, rfl, rfl⟩ 4 0 rfl rfl rfl hl.1 rfl (Nat.le_of_ble_eq_true rfl) dX5_mean_1 rfl rfl ⟨Nat.le_of_ble_eq_true rfl, Nat.le_of_ble_eq_true rfl⟩ (fun q9 ce H locs hP hD hS hce hcv hcl => hgo _ _ _ _ _ _ _ hP hS hce hcv hcl)
abbrev rmX5_turnL : Room := { frames := 7, cells := 1, slots := 6, locals := 102 }
set_option maxRecDepth 100000 in
set_option maxHeartbeats 4000000 in
theorem kX5_turnL (l : Launch) (G : va_G) (cI cZ cJ cD : ClassId) (hfl : l.stackTraces = false) (x0 tr v0 a0 e0 r0 : Nat) (h0 q1 q2 w h : Nat) (hw : w ≤ 24) (hh : h ≤ 24) (B O : Nat → Int32) (la ua ra da : Nat) (hlr : la ≤ ra) (hra : ra ≤ w) (hud : ua ≤ da) (hda : da ≤ h) (E : Nat → Int32) (ak su : Bool) (gm : UInt64) (be : Int32) (bs : UInt64) (T : Nat → Int32) (tc : Nat) (a ex : Int32) (hg1 : a < -2000) : Ce l G (kTy cI cZ cJ cD) yX5_turn wsX5_turn rmX5_turnL [.ref x0, .int a, .int ex] [(x0, .inr (4, [.ref h0, .ref v0, .ref a0, .ref r0, .ref tr, .int (nI tc)])), (tr, .inl (cI, 16, .inl T)), (v0, .inr (3, [.ref h0, .int (nI la), .int (nI ua), .int (nI ra), .int (nI da)])), (a0, .inr (2, [.ref h0, .ref e0, .int (b2i ak), .int (b2i su), .double gm, .int be, .double bs])), (e0, .inl (cI, 48, .inl E)), (r0, .inr (1, [.ref h0])), (h0, .inr (0, [.int (nI w), .int (nI h), .double (midF w), .double (midF h), .ref q1, .ref q2])), (q1, .inl (cI, 24, .inl B)), (q2, .inl (cI, 24, .inl O))] kX_ia 200 "the angle is not -2000 .. 2000" := by
  refine Ce.of (cc := cX5_turn) (maxL := 3) rfl rfl hfl (by decide) (by decide) rfl (Nat.le_of_ble_eq_true rfl) rfl ?_
  intro p e s m args below meth c A Q sa hx hb hml hts hown hA hK hP hD hS hT hthr hgo ls hl
  refine lv_iload_n hx hb dX5_turn_0 rfl (lv_at hl 1 rfl) ?_
  refine kSe (rest := []) (kX5_checkAngleL l G cI cZ cJ cD hfl a hg1) ⟨hx, hb, hml, hown, hts⟩ (va_cwS 1 hts gX5_turn_X5_checkAngle rfl rfl rfl hs_X5_checkAngle ⟨Nat.le_of_ble_eq_true rfl, Nat.le_of_ble_eq_true rfl⟩) hK hP hD hS hA hT rfl hl.1 rfl (Nat.le_of_ble_eq_true rfl) dX5_turn_1 rfl rfl ⟨Nat.le_of_ble_eq_true rfl, Nat.le_of_ble_eq_true rfl⟩ (fun q9 ce H locs hP hD hS hce hcv hcl => hgo _ _ _ _ _ _ _ hP hS hce hcv hcl)
abbrev rmX5_turnH : Room := { frames := 7, cells := 1, slots := 6, locals := 102 }
set_option maxRecDepth 100000 in
set_option maxHeartbeats 4000000 in
theorem kX5_turnH (l : Launch) (G : va_G) (cI cZ cJ cD : ClassId) (hfl : l.stackTraces = false) (x0 tr v0 a0 e0 r0 : Nat) (h0 q1 q2 w h : Nat) (hw : w ≤ 24) (hh : h ≤ 24) (B O : Nat → Int32) (la ua ra da : Nat) (hlr : la ≤ ra) (hra : ra ≤ w) (hud : ua ≤ da) (hda : da ≤ h) (E : Nat → Int32) (ak su : Bool) (gm : UInt64) (be : Int32) (bs : UInt64) (T : Nat → Int32) (tc : Nat) (a ex : Int32) (hg1 : ¬ a < -2000) (hg2 : ¬ a ≤ 2000) : Ce l G (kTy cI cZ cJ cD) yX5_turn wsX5_turn rmX5_turnH [.ref x0, .int a, .int ex] [(x0, .inr (4, [.ref h0, .ref v0, .ref a0, .ref r0, .ref tr, .int (nI tc)])), (tr, .inl (cI, 16, .inl T)), (v0, .inr (3, [.ref h0, .int (nI la), .int (nI ua), .int (nI ra), .int (nI da)])), (a0, .inr (2, [.ref h0, .ref e0, .int (b2i ak), .int (b2i su), .double gm, .int be, .double bs])), (e0, .inl (cI, 48, .inl E)), (r0, .inr (1, [.ref h0])), (h0, .inr (0, [.int (nI w), .int (nI h), .double (midF w), .double (midF h), .ref q1, .ref q2])), (q1, .inl (cI, 24, .inl B)), (q2, .inl (cI, 24, .inl O))] kX_ia 200 "the angle is not -2000 .. 2000" := by
  refine Ce.of (cc := cX5_turn) (maxL := 3) rfl rfl hfl (by decide) (by decide) rfl (Nat.le_of_ble_eq_true rfl) rfl ?_
  intro p e s m args below meth c A Q sa hx hb hml hts hown hA hK hP hD hS hT hthr hgo ls hl
  refine lv_iload_n hx hb dX5_turn_0 rfl (lv_at hl 1 rfl) ?_
  refine kSe (rest := []) (kX5_checkAngleH l G cI cZ cJ cD hfl a hg1 hg2) ⟨hx, hb, hml, hown, hts⟩ (va_cwS 1 hts gX5_turn_X5_checkAngle rfl rfl rfl hs_X5_checkAngle ⟨Nat.le_of_ble_eq_true rfl, Nat.le_of_ble_eq_true rfl⟩) hK hP hD hS hA hT rfl hl.1 rfl (Nat.le_of_ble_eq_true rfl) dX5_turn_1 rfl rfl ⟨Nat.le_of_ble_eq_true rfl, Nat.le_of_ble_eq_true rfl⟩ (fun q9 ce H locs hP hD hS hce hcv hcl => hgo _ _ _ _ _ _ _ hP hS hce hcv hcl)
theorem in_kX5_turnU_X5 : ∀ w ∈ u_ws RX5 TX5 6, w ∈ wsX5_turn := by decide +kernel
theorem fl_kX5_turnU_13 : Cond.fieldLink RX5 13 "SkewFind" "turnCount" "I" ∈ wsX5_turn := by decide +kernel
theorem fl_kX5_turnU_9 : Cond.fieldLink RX5 9 "SkewFind" "turns" "[I" ∈ wsX5_turn := by decide +kernel
theorem wd_kX5_turnU_cl104 : Cond.classLink RX5 104 kX_uo ∈ wsX5_turn := by decide +kernel
theorem wd_kX5_turnU_iikX_uo : Cond.initialized kX_uo ∈ wsX5_turn := by decide +kernel
theorem at_kX5_turnU : ∀ w ∈ (vx_atS RX5 108 kX_uo kX_up).filter goodWord, w ∈ wsX5_turn := by decide +kernel
abbrev rmX5_turnU : Room := { frames := 7, cells := 1, slots := 6, locals := 102 }
set_option maxRecDepth 100000 in
set_option maxHeartbeats 4000000 in
theorem kX5_turnU (l : Launch) (G : va_G) (cI cZ cJ cD : ClassId) (hfl : l.stackTraces = false) (x0 tr v0 a0 e0 r0 : Nat) (h0 q1 q2 w h : Nat) (hw : w ≤ 24) (hh : h ≤ 24) (B O : Nat → Int32) (la ua ra da : Nat) (hlr : la ≤ ra) (hra : ra ≤ w) (hud : ua ≤ da) (hda : da ≤ h) (E : Nat → Int32) (ak su : Bool) (gm : UInt64) (be : Int32) (bs : UInt64) (T : Nat → Int32) (a : Int32) (hg1 : ¬ a < -2000) (hg2 : a ≤ 2000) : Ce l G (kTy cI cZ cJ cD) yX5_turn wsX5_turn rmX5_turnU [.ref x0, .int a, .int 1] [(x0, .inr (4, [.ref h0, .ref v0, .ref a0, .ref r0, .ref tr, .int (nI 16)])), (tr, .inl (cI, 16, .inl T)), (v0, .inr (3, [.ref h0, .int (nI la), .int (nI ua), .int (nI ra), .int (nI da)])), (a0, .inr (2, [.ref h0, .ref e0, .int (b2i ak), .int (b2i su), .double gm, .int be, .double bs])), (e0, .inl (cI, 48, .inl E)), (r0, .inr (1, [.ref h0])), (h0, .inr (0, [.int (nI w), .int (nI h), .double (midF w), .double (midF h), .ref q1, .ref q2])), (q1, .inl (cI, 24, .inl B)), (q2, .inl (cI, 24, .inl O))] kX_uo 106 "16 turns can go back" := by
  refine Ce.of (cc := cX5_turn) (maxL := 3) rfl rfl hfl (by decide) (by decide) rfl (Nat.le_of_ble_eq_true rfl) rfl ?_
  intro p e s m args below meth c A Q sa hx hb hml hts hown hA hK hP hD hS hT hthr hgo ls hl
  refine lv_iload_n hx hb dX5_turn_0 rfl (lv_at hl 1 rfl) ?_
  refine kSv (rest := []) (kX5_checkAngle l G cI cZ cJ cD a hg1 hg2) ⟨hx, hb, hml, hown, hts⟩ (va_cwS 1 hts gX5_turn_X5_checkAngle rfl rfl rfl hs_X5_checkAngle ⟨Nat.le_of_ble_eq_true rfl, Nat.le_of_ble_eq_true rfl⟩) hK hP hD hS hA rfl hl.1 rfl (Nat.le_of_ble_eq_true rfl) dX5_turn_1 ⟨Nat.le_of_ble_eq_true rfl, Nat.le_of_ble_eq_true rfl⟩ rfl rfl (fun H locs hP hD hS => ?_)
  refine lv_iload_n hx hb dX5_turn_4 rfl (lv_at hl 2 rfl) ?_
  refine lv_if_ne (tgt := 24) hx hb dX5_turn_5 (by decide) (fun c_5 => ?_) (fun h9 => (absurd h9 (by decide)))
  refine lv_aload_n hx hb dX5_turn_24 rfl (lv_at hl 0 rfl) ?_
  refine va_get (D := G) (ci := 4) (v := .int (nI 16)) (C := RX5) (T := TX5) (N := 6) hx hb hts in_kX5_turnU_X5 hown hK hP 0 rfl rfl 5 (by decide) (hts _ fl_kX5_turnU_13) (fun _ h9 => h9) rfl dX5_turn_25 ?_
  refine lv_if_lt (tgt := 74) hx hb dX5_turn_28 (by decide) (fun h9 => absurd h9 (nI_pos (by omega))) (fun c_28 => ?_)
  refine lv_aload_n hx hb dX5_turn_31 rfl (lv_at hl 0 rfl) ?_
  refine va_get (D := G) (ci := 4) (v := .int (nI 16)) (C := RX5) (T := TX5) (N := 6) hx hb hts in_kX5_turnU_X5 hown hK hP 0 rfl rfl 5 (by decide) (hts _ fl_kX5_turnU_13) (fun _ h9 => h9) rfl dX5_turn_32 ?_
  refine lv_aload_n hx hb dX5_turn_35 rfl (lv_at hl 0 rfl) ?_
  refine va_get (D := G) (ci := 4) (v := .ref tr) (C := RX5) (T := TX5) (N := 6) hx hb hts in_kX5_turnU_X5 hown hK hP 0 rfl rfl 4 (by decide) (hts _ fl_kX5_turnU_9) (fun _ h9 => h9) rfl dX5_turn_36 ?_
  refine va_alen (v := nI 16) hx hb hK hP 1 0 rfl rfl rfl dX5_turn_39 ?_
  refine kGe (by omega) (by omega) (tgt := 74) hx hb dX5_turn_40 (by decide) (fun c_40 => ?_) (fun h9 => (absurd h9 (by decide)))
  exact hthr _ _ _ _ _ 104 108 rfl (hts _ wd_kX5_turnU_cl104) (hts _ wd_kX5_turnU_iikX_uo) (fun w h9 => hts w (at_kX5_turnU w h9)) at2_108 gd_108 hl.1 dX5_turn_74 dX5_turn_77 dX5_turn_78 dX5_turn_80 dX5_turn_83 (Nat.le_of_ble_eq_true rfl) (Nat.le_of_ble_eq_true rfl) hP hS
abbrev rmX5_cropL : Room := { frames := 7, cells := 1, slots := 6, locals := 102 }
set_option maxRecDepth 100000 in
set_option maxHeartbeats 4000000 in
theorem kX5_cropL (l : Launch) (G : va_G) (cI cZ cJ cD : ClassId) (hfl : l.stackTraces = false) (x0 tr v0 a0 e0 r0 : Nat) (h0 q1 q2 w h : Nat) (hw : w ≤ 24) (hh : h ≤ 24) (B O : Nat → Int32) (la ua ra da : Nat) (hlr : la ≤ ra) (hra : ra ≤ w) (hud : ua ≤ da) (hda : da ≤ h) (E : Nat → Int32) (ak su : Bool) (gm : UInt64) (be : Int32) (bs : UInt64) (T : Nat → Int32) (tc : Nat) (s0 : Int32) (hs1 : s0 < 0) : Ce l G (kTy cI cZ cJ cD) yX5_crop wsX5_crop rmX5_cropL [.ref x0, .int s0] [(x0, .inr (4, [.ref h0, .ref v0, .ref a0, .ref r0, .ref tr, .int (nI tc)])), (tr, .inl (cI, 16, .inl T)), (v0, .inr (3, [.ref h0, .int (nI la), .int (nI ua), .int (nI ra), .int (nI da)])), (a0, .inr (2, [.ref h0, .ref e0, .int (b2i ak), .int (b2i su), .double gm, .int be, .double bs])), (e0, .inl (cI, 48, .inl E)), (r0, .inr (1, [.ref h0])), (h0, .inr (0, [.int (nI w), .int (nI h), .double (midF w), .double (midF h), .ref q1, .ref q2])), (q1, .inl (cI, 24, .inl B)), (q2, .inl (cI, 24, .inl O))] kX_io 196 "no such side" := by
  refine Ce.of (cc := cX5_crop) (maxL := 2) rfl rfl hfl (by decide) (by decide) rfl (Nat.le_of_ble_eq_true rfl) rfl ?_
  intro p e s m args below meth c A Q sa hx hb hml hts hown hA hK hP hD hS hT hthr hgo ls hl
  refine lv_iload_n hx hb dX5_crop_0 rfl (lv_at hl 1 rfl) ?_
  refine kSe (rest := []) (kX5_checkSideL l G cI cZ cJ cD hfl s0 hs1) ⟨hx, hb, hml, hown, hts⟩ (va_cwS 1 hts gX5_crop_X5_checkSide rfl rfl rfl hs_X5_checkSide ⟨Nat.le_of_ble_eq_true rfl, Nat.le_of_ble_eq_true rfl⟩) hK hP hD hS hA hT rfl hl.1 rfl (Nat.le_of_ble_eq_true rfl) dX5_crop_1 rfl rfl ⟨Nat.le_of_ble_eq_true rfl, Nat.le_of_ble_eq_true rfl⟩ (fun q9 ce H locs hP hD hS hce hcv hcl => hgo _ _ _ _ _ _ _ hP hS hce hcv hcl)
abbrev rmX5_cropH : Room := { frames := 7, cells := 1, slots := 6, locals := 102 }
set_option maxRecDepth 100000 in
set_option maxHeartbeats 4000000 in
theorem kX5_cropH (l : Launch) (G : va_G) (cI cZ cJ cD : ClassId) (hfl : l.stackTraces = false) (x0 tr v0 a0 e0 r0 : Nat) (h0 q1 q2 w h : Nat) (hw : w ≤ 24) (hh : h ≤ 24) (B O : Nat → Int32) (la ua ra da : Nat) (hlr : la ≤ ra) (hra : ra ≤ w) (hud : ua ≤ da) (hda : da ≤ h) (E : Nat → Int32) (ak su : Bool) (gm : UInt64) (be : Int32) (bs : UInt64) (T : Nat → Int32) (tc : Nat) (s0 : Int32) (hs1 : ¬ s0 < 0) (hs2 : ¬ s0 ≤ 3) : Ce l G (kTy cI cZ cJ cD) yX5_crop wsX5_crop rmX5_cropH [.ref x0, .int s0] [(x0, .inr (4, [.ref h0, .ref v0, .ref a0, .ref r0, .ref tr, .int (nI tc)])), (tr, .inl (cI, 16, .inl T)), (v0, .inr (3, [.ref h0, .int (nI la), .int (nI ua), .int (nI ra), .int (nI da)])), (a0, .inr (2, [.ref h0, .ref e0, .int (b2i ak), .int (b2i su), .double gm, .int be, .double bs])), (e0, .inl (cI, 48, .inl E)), (r0, .inr (1, [.ref h0])), (h0, .inr (0, [.int (nI w), .int (nI h), .double (midF w), .double (midF h), .ref q1, .ref q2])), (q1, .inl (cI, 24, .inl B)), (q2, .inl (cI, 24, .inl O))] kX_io 196 "no such side" := by
  refine Ce.of (cc := cX5_crop) (maxL := 2) rfl rfl hfl (by decide) (by decide) rfl (Nat.le_of_ble_eq_true rfl) rfl ?_
  intro p e s m args below meth c A Q sa hx hb hml hts hown hA hK hP hD hS hT hthr hgo ls hl
  refine lv_iload_n hx hb dX5_crop_0 rfl (lv_at hl 1 rfl) ?_
  refine kSe (rest := []) (kX5_checkSideH l G cI cZ cJ cD hfl s0 hs1 hs2) ⟨hx, hb, hml, hown, hts⟩ (va_cwS 1 hts gX5_crop_X5_checkSide rfl rfl rfl hs_X5_checkSide ⟨Nat.le_of_ble_eq_true rfl, Nat.le_of_ble_eq_true rfl⟩) hK hP hD hS hA hT rfl hl.1 rfl (Nat.le_of_ble_eq_true rfl) dX5_crop_1 rfl rfl ⟨Nat.le_of_ble_eq_true rfl, Nat.le_of_ble_eq_true rfl⟩ (fun q9 ce H locs hP hD hS hce hcv hcl => hgo _ _ _ _ _ _ _ hP hS hce hcv hcl)
abbrev rmX5_sizeL : Room := { frames := 7, cells := 1, slots := 6, locals := 102 }
set_option maxRecDepth 100000 in
set_option maxHeartbeats 4000000 in
theorem kX5_sizeL (l : Launch) (G : va_G) (cI cZ cJ cD : ClassId) (hfl : l.stackTraces = false) (x0 tr v0 a0 e0 r0 : Nat) (h0 q1 q2 w h : Nat) (hw : w ≤ 24) (hh : h ≤ 24) (B O : Nat → Int32) (la ua ra da : Nat) (hlr : la ≤ ra) (hra : ra ≤ w) (hud : ua ≤ da) (hda : da ≤ h) (E : Nat → Int32) (ak su : Bool) (gm : UInt64) (be : Int32) (bs : UInt64) (T : Nat → Int32) (tc : Nat) (s0 : Int32) (hs1 : s0 < 0) : Ce l G (kTy cI cZ cJ cD) yX5_size wsX5_size rmX5_sizeL [.ref x0, .int s0] [(x0, .inr (4, [.ref h0, .ref v0, .ref a0, .ref r0, .ref tr, .int (nI tc)])), (tr, .inl (cI, 16, .inl T)), (v0, .inr (3, [.ref h0, .int (nI la), .int (nI ua), .int (nI ra), .int (nI da)])), (a0, .inr (2, [.ref h0, .ref e0, .int (b2i ak), .int (b2i su), .double gm, .int be, .double bs])), (e0, .inl (cI, 48, .inl E)), (r0, .inr (1, [.ref h0])), (h0, .inr (0, [.int (nI w), .int (nI h), .double (midF w), .double (midF h), .ref q1, .ref q2])), (q1, .inl (cI, 24, .inl B)), (q2, .inl (cI, 24, .inl O))] kX_io 196 "no such side" := by
  refine Ce.of (cc := cX5_size) (maxL := 2) rfl rfl hfl (by decide) (by decide) rfl (Nat.le_of_ble_eq_true rfl) rfl ?_
  intro p e s m args below meth c A Q sa hx hb hml hts hown hA hK hP hD hS hT hthr hgo ls hl
  refine lv_iload_n hx hb dX5_size_0 rfl (lv_at hl 1 rfl) ?_
  refine kSe (rest := []) (kX5_checkSideL l G cI cZ cJ cD hfl s0 hs1) ⟨hx, hb, hml, hown, hts⟩ (va_cwS 1 hts gX5_size_X5_checkSide rfl rfl rfl hs_X5_checkSide ⟨Nat.le_of_ble_eq_true rfl, Nat.le_of_ble_eq_true rfl⟩) hK hP hD hS hA hT rfl hl.1 rfl (Nat.le_of_ble_eq_true rfl) dX5_size_1 rfl rfl ⟨Nat.le_of_ble_eq_true rfl, Nat.le_of_ble_eq_true rfl⟩ (fun q9 ce H locs hP hD hS hce hcv hcl => hgo _ _ _ _ _ _ _ hP hS hce hcv hcl)
abbrev rmX5_sizeH : Room := { frames := 7, cells := 1, slots := 6, locals := 102 }
set_option maxRecDepth 100000 in
set_option maxHeartbeats 4000000 in
theorem kX5_sizeH (l : Launch) (G : va_G) (cI cZ cJ cD : ClassId) (hfl : l.stackTraces = false) (x0 tr v0 a0 e0 r0 : Nat) (h0 q1 q2 w h : Nat) (hw : w ≤ 24) (hh : h ≤ 24) (B O : Nat → Int32) (la ua ra da : Nat) (hlr : la ≤ ra) (hra : ra ≤ w) (hud : ua ≤ da) (hda : da ≤ h) (E : Nat → Int32) (ak su : Bool) (gm : UInt64) (be : Int32) (bs : UInt64) (T : Nat → Int32) (tc : Nat) (s0 : Int32) (hs1 : ¬ s0 < 0) (hs2 : ¬ s0 ≤ 3) : Ce l G (kTy cI cZ cJ cD) yX5_size wsX5_size rmX5_sizeH [.ref x0, .int s0] [(x0, .inr (4, [.ref h0, .ref v0, .ref a0, .ref r0, .ref tr, .int (nI tc)])), (tr, .inl (cI, 16, .inl T)), (v0, .inr (3, [.ref h0, .int (nI la), .int (nI ua), .int (nI ra), .int (nI da)])), (a0, .inr (2, [.ref h0, .ref e0, .int (b2i ak), .int (b2i su), .double gm, .int be, .double bs])), (e0, .inl (cI, 48, .inl E)), (r0, .inr (1, [.ref h0])), (h0, .inr (0, [.int (nI w), .int (nI h), .double (midF w), .double (midF h), .ref q1, .ref q2])), (q1, .inl (cI, 24, .inl B)), (q2, .inl (cI, 24, .inl O))] kX_io 196 "no such side" := by
  refine Ce.of (cc := cX5_size) (maxL := 2) rfl rfl hfl (by decide) (by decide) rfl (Nat.le_of_ble_eq_true rfl) rfl ?_
  intro p e s m args below meth c A Q sa hx hb hml hts hown hA hK hP hD hS hT hthr hgo ls hl
  refine lv_iload_n hx hb dX5_size_0 rfl (lv_at hl 1 rfl) ?_
  refine kSe (rest := []) (kX5_checkSideH l G cI cZ cJ cD hfl s0 hs1 hs2) ⟨hx, hb, hml, hown, hts⟩ (va_cwS 1 hts gX5_size_X5_checkSide rfl rfl rfl hs_X5_checkSide ⟨Nat.le_of_ble_eq_true rfl, Nat.le_of_ble_eq_true rfl⟩) hK hP hD hS hA hT rfl hl.1 rfl (Nat.le_of_ble_eq_true rfl) dX5_size_1 rfl rfl ⟨Nat.le_of_ble_eq_true rfl, Nat.le_of_ble_eq_true rfl⟩ (fun q9 ce H locs hP hD hS hce hcv hcl => hgo _ _ _ _ _ _ _ hP hS hce hcv hcl)
abbrev rmX5_bandL : Room := { frames := 7, cells := 1, slots := 6, locals := 103 }
set_option maxRecDepth 100000 in
set_option maxHeartbeats 4000000 in
theorem kX5_bandL (l : Launch) (G : va_G) (cI cZ cJ cD : ClassId) (hfl : l.stackTraces = false) (x0 tr v0 a0 e0 r0 : Nat) (h0 q1 q2 w h : Nat) (hw : w ≤ 24) (hh : h ≤ 24) (B O : Nat → Int32) (la ua ra da : Nat) (hlr : la ≤ ra) (hra : ra ≤ w) (hud : ua ≤ da) (hda : da ≤ h) (E : Nat → Int32) (ak su : Bool) (gm : UInt64) (be : Int32) (bs : UInt64) (T : Nat → Int32) (tc : Nat) (k q : Int32) (hk1 : k < 0) : Ce l G (kTy cI cZ cJ cD) yX5_band wsX5_band rmX5_bandL [.ref x0, .int k, .int q] [(x0, .inr (4, [.ref h0, .ref v0, .ref a0, .ref r0, .ref tr, .int (nI tc)])), (tr, .inl (cI, 16, .inl T)), (v0, .inr (3, [.ref h0, .int (nI la), .int (nI ua), .int (nI ra), .int (nI da)])), (a0, .inr (2, [.ref h0, .ref e0, .int (b2i ak), .int (b2i su), .double gm, .int be, .double bs])), (e0, .inl (cI, 48, .inl E)), (r0, .inr (1, [.ref h0])), (h0, .inr (0, [.int (nI w), .int (nI h), .double (midF w), .double (midF h), .ref q1, .ref q2])), (q1, .inl (cI, 24, .inl B)), (q2, .inl (cI, 24, .inl O))] kX_io 198 "no such band" := by
  refine Ce.of (cc := cX5_band) (maxL := 5) rfl rfl hfl (by decide) (by decide) rfl (Nat.le_of_ble_eq_true rfl) rfl ?_
  intro p e s m args below meth c A Q sa hx hb hml hts hown hA hK hP hD hS hT hthr hgo ls hl
  refine lv_aload_n hx hb dX5_band_0 rfl (lv_at hl 0 rfl) ?_
  refine lv_iload_n hx hb dX5_band_1 rfl (lv_at hl 1 rfl) ?_
  refine kVe (wr := []) (isC := [0, 1, 2, 3, 4, 5, 6, 7, 8]) (isR := []) (pm := [0, 1, 2, 3, 4, 5, 6, 7, 8]) (rest := []) (kX5_checkBandL l G cI cZ cJ cD hfl x0 tr v0 a0 e0 r0 h0 q1 q2 w h hw hh B O la ua ra da hlr hra hud hda E ak su gm be bs T tc k hk1) ⟨hx, hb, hml, hown, hts⟩ (cwV 1 hts gX5_band_X5_checkBand rfl rfl rfl hd_X5_checkBand ⟨Nat.le_of_ble_eq_true rfl, Nat.le_of_ble_eq_true rfl⟩) hK hP hD hS hA hT ⟨rfl, rfl, rfl, by decide, rfl, rfl, rfl⟩ 4 0 rfl rfl rfl hl.1 rfl (Nat.le_of_ble_eq_true rfl) dX5_band_2 rfl rfl ⟨Nat.le_of_ble_eq_true rfl, Nat.le_of_ble_eq_true rfl⟩ (fun q9 ce H locs hP hD hS hce hcv hcl => hgo _ _ _ _ _ _ _ hP hS hce hcv hcl)
abbrev rmX5_bandH : Room := { frames := 7, cells := 1, slots := 6, locals := 103 }
set_option maxRecDepth 100000 in
set_option maxHeartbeats 4000000 in
theorem kX5_bandH (l : Launch) (G : va_G) (cI cZ cJ cD : ClassId) (hfl : l.stackTraces = false) (x0 tr v0 a0 e0 r0 : Nat) (h0 q1 q2 w h : Nat) (hw : w ≤ 24) (hh : h ≤ 24) (B O : Nat → Int32) (la ua ra da : Nat) (hlr : la ≤ ra) (hra : ra ≤ w) (hud : ua ≤ da) (hda : da ≤ h) (E : Nat → Int32) (ak su : Bool) (gm : UInt64) (be : Int32) (bs : UInt64) (T : Nat → Int32) (tc : Nat) (k q : Int32) (hk1 : ¬ k < 0) (hk2 : ¬ k < bandsN B h) : Ce l G (kTy cI cZ cJ cD) yX5_band wsX5_band rmX5_bandH [.ref x0, .int k, .int q] [(x0, .inr (4, [.ref h0, .ref v0, .ref a0, .ref r0, .ref tr, .int (nI tc)])), (tr, .inl (cI, 16, .inl T)), (v0, .inr (3, [.ref h0, .int (nI la), .int (nI ua), .int (nI ra), .int (nI da)])), (a0, .inr (2, [.ref h0, .ref e0, .int (b2i ak), .int (b2i su), .double gm, .int be, .double bs])), (e0, .inl (cI, 48, .inl E)), (r0, .inr (1, [.ref h0])), (h0, .inr (0, [.int (nI w), .int (nI h), .double (midF w), .double (midF h), .ref q1, .ref q2])), (q1, .inl (cI, 24, .inl B)), (q2, .inl (cI, 24, .inl O))] kX_io 198 "no such band" := by
  refine Ce.of (cc := cX5_band) (maxL := 5) rfl rfl hfl (by decide) (by decide) rfl (Nat.le_of_ble_eq_true rfl) rfl ?_
  intro p e s m args below meth c A Q sa hx hb hml hts hown hA hK hP hD hS hT hthr hgo ls hl
  refine lv_aload_n hx hb dX5_band_0 rfl (lv_at hl 0 rfl) ?_
  refine lv_iload_n hx hb dX5_band_1 rfl (lv_at hl 1 rfl) ?_
  refine kVe (wr := []) (isC := [0, 1, 2, 3, 4, 5, 6, 7, 8]) (isR := []) (pm := [0, 1, 2, 3, 4, 5, 6, 7, 8]) (rest := []) (kX5_checkBandH l G cI cZ cJ cD hfl x0 tr v0 a0 e0 r0 h0 q1 q2 w h hw hh B O la ua ra da hlr hra hud hda E ak su gm be bs T tc k hk1 hk2) ⟨hx, hb, hml, hown, hts⟩ (cwV 1 hts gX5_band_X5_checkBand rfl rfl rfl hd_X5_checkBand ⟨Nat.le_of_ble_eq_true rfl, Nat.le_of_ble_eq_true rfl⟩) hK hP hD hS hA hT ⟨rfl, rfl, rfl, by decide, rfl, rfl, rfl⟩ 4 0 rfl rfl rfl hl.1 rfl (Nat.le_of_ble_eq_true rfl) dX5_band_2 rfl rfl ⟨Nat.le_of_ble_eq_true rfl, Nat.le_of_ble_eq_true rfl⟩ (fun q9 ce H locs hP hD hS hce hcv hcl => hgo _ _ _ _ _ _ _ hP hS hce hcv hcl)
abbrev rmX5_lineL : Room := { frames := 7, cells := 1, slots := 6, locals := 103 }
set_option maxRecDepth 100000 in
set_option maxHeartbeats 4000000 in
theorem kX5_lineL (l : Launch) (G : va_G) (cI cZ cJ cD : ClassId) (hfl : l.stackTraces = false) (x0 tr v0 a0 e0 r0 : Nat) (h0 q1 q2 w h : Nat) (hw : w ≤ 24) (hh : h ≤ 24) (B O : Nat → Int32) (la ua ra da : Nat) (hlr : la ≤ ra) (hra : ra ≤ w) (hud : ua ≤ da) (hda : da ≤ h) (E : Nat → Int32) (ak su : Bool) (gm : UInt64) (be : Int32) (bs : UInt64) (T : Nat → Int32) (tc : Nat) (k : Int32) (v : UInt64) (hk1 : k < 0) : Ce l G (kTy cI cZ cJ cD) yX5_line wsX5_line rmX5_lineL [.ref x0, .int k, .double v] [(x0, .inr (4, [.ref h0, .ref v0, .ref a0, .ref r0, .ref tr, .int (nI tc)])), (tr, .inl (cI, 16, .inl T)), (v0, .inr (3, [.ref h0, .int (nI la), .int (nI ua), .int (nI ra), .int (nI da)])), (a0, .inr (2, [.ref h0, .ref e0, .int (b2i ak), .int (b2i su), .double gm, .int be, .double bs])), (e0, .inl (cI, 48, .inl E)), (r0, .inr (1, [.ref h0])), (h0, .inr (0, [.int (nI w), .int (nI h), .double (midF w), .double (midF h), .ref q1, .ref q2])), (q1, .inl (cI, 24, .inl B)), (q2, .inl (cI, 24, .inl O))] kX_io 198 "no such band" := by
  refine Ce.of (cc := cX5_line) (maxL := 4) rfl rfl hfl (by decide) (by decide) rfl (Nat.le_of_ble_eq_true rfl) rfl ?_
  intro p e s m args below meth c A Q sa hx hb hml hts hown hA hK hP hD hS hT hthr hgo ls hl
  refine lv_aload_n hx hb dX5_line_0 rfl (lv_at hl 0 rfl) ?_
  refine lv_iload_n hx hb dX5_line_1 rfl (lv_at hl 1 rfl) ?_
  refine kVe (wr := []) (isC := [0, 1, 2, 3, 4, 5, 6, 7, 8]) (isR := []) (pm := [0, 1, 2, 3, 4, 5, 6, 7, 8]) (rest := []) (kX5_checkBandL l G cI cZ cJ cD hfl x0 tr v0 a0 e0 r0 h0 q1 q2 w h hw hh B O la ua ra da hlr hra hud hda E ak su gm be bs T tc k hk1) ⟨hx, hb, hml, hown, hts⟩ (cwV 1 hts gX5_line_X5_checkBand rfl rfl rfl hd_X5_checkBand ⟨Nat.le_of_ble_eq_true rfl, Nat.le_of_ble_eq_true rfl⟩) hK hP hD hS hA hT ⟨rfl, rfl, rfl, by decide, rfl, rfl, rfl⟩ 4 0 rfl rfl rfl hl.1 rfl (Nat.le_of_ble_eq_true rfl) dX5_line_2 rfl rfl ⟨Nat.le_of_ble_eq_true rfl, Nat.le_of_ble_eq_true rfl⟩ (fun q9 ce H locs hP hD hS hce hcv hcl => hgo _ _ _ _ _ _ _ hP hS hce hcv hcl)
abbrev rmX5_lineH : Room := { frames := 7, cells := 1, slots := 6, locals := 103 }
set_option maxRecDepth 100000 in
set_option maxHeartbeats 4000000 in
theorem kX5_lineH (l : Launch) (G : va_G) (cI cZ cJ cD : ClassId) (hfl : l.stackTraces = false) (x0 tr v0 a0 e0 r0 : Nat) (h0 q1 q2 w h : Nat) (hw : w ≤ 24) (hh : h ≤ 24) (B O : Nat → Int32) (la ua ra da : Nat) (hlr : la ≤ ra) (hra : ra ≤ w) (hud : ua ≤ da) (hda : da ≤ h) (E : Nat → Int32) (ak su : Bool) (gm : UInt64) (be : Int32) (bs : UInt64) (T : Nat → Int32) (tc : Nat) (k : Int32) (v : UInt64) (hk1 : ¬ k < 0) (hk2 : ¬ k < bandsN B h) : Ce l G (kTy cI cZ cJ cD) yX5_line wsX5_line rmX5_lineH [.ref x0, .int k, .double v] [(x0, .inr (4, [.ref h0, .ref v0, .ref a0, .ref r0, .ref tr, .int (nI tc)])), (tr, .inl (cI, 16, .inl T)), (v0, .inr (3, [.ref h0, .int (nI la), .int (nI ua), .int (nI ra), .int (nI da)])), (a0, .inr (2, [.ref h0, .ref e0, .int (b2i ak), .int (b2i su), .double gm, .int be, .double bs])), (e0, .inl (cI, 48, .inl E)), (r0, .inr (1, [.ref h0])), (h0, .inr (0, [.int (nI w), .int (nI h), .double (midF w), .double (midF h), .ref q1, .ref q2])), (q1, .inl (cI, 24, .inl B)), (q2, .inl (cI, 24, .inl O))] kX_io 198 "no such band" := by
  refine Ce.of (cc := cX5_line) (maxL := 4) rfl rfl hfl (by decide) (by decide) rfl (Nat.le_of_ble_eq_true rfl) rfl ?_
  intro p e s m args below meth c A Q sa hx hb hml hts hown hA hK hP hD hS hT hthr hgo ls hl
  refine lv_aload_n hx hb dX5_line_0 rfl (lv_at hl 0 rfl) ?_
  refine lv_iload_n hx hb dX5_line_1 rfl (lv_at hl 1 rfl) ?_
  refine kVe (wr := []) (isC := [0, 1, 2, 3, 4, 5, 6, 7, 8]) (isR := []) (pm := [0, 1, 2, 3, 4, 5, 6, 7, 8]) (rest := []) (kX5_checkBandH l G cI cZ cJ cD hfl x0 tr v0 a0 e0 r0 h0 q1 q2 w h hw hh B O la ua ra da hlr hra hud hda E ak su gm be bs T tc k hk1 hk2) ⟨hx, hb, hml, hown, hts⟩ (cwV 1 hts gX5_line_X5_checkBand rfl rfl rfl hd_X5_checkBand ⟨Nat.le_of_ble_eq_true rfl, Nat.le_of_ble_eq_true rfl⟩) hK hP hD hS hA hT ⟨rfl, rfl, rfl, by decide, rfl, rfl, rfl⟩ 4 0 rfl rfl rfl hl.1 rfl (Nat.le_of_ble_eq_true rfl) dX5_line_2 rfl rfl ⟨Nat.le_of_ble_eq_true rfl, Nat.le_of_ble_eq_true rfl⟩ (fun q9 ce H locs hP hD hS hce hcv hcl => hgo _ _ _ _ _ _ _ hP hS hce hcv hcl)
theorem wd_kX5_lineV_c141 : Cond.constantDouble RX5 141 (13875379345695965184) ∈ wsX5_line := by decide +kernel
theorem wd_kX5_lineV_cl56 : Cond.classLink RX5 56 kX_ia ∈ wsX5_line := by decide +kernel
theorem wd_kX5_lineV_iikX_ia : Cond.initialized kX_ia ∈ wsX5_line := by decide +kernel
theorem at_kX5_lineV : ∀ w ∈ (vx_atS RX5 60 kX_ia kX_up).filter goodWord, w ∈ wsX5_line := by decide +kernel
abbrev rmX5_lineV : Room := { frames := 7, cells := 1, slots := 6, locals := 103 }
set_option maxRecDepth 100000 in
set_option maxHeartbeats 4000000 in
theorem kX5_lineV (l : Launch) (G : va_G) (cI cZ cJ cD : ClassId) (hfl : l.stackTraces = false) (x0 tr v0 a0 e0 r0 : Nat) (h0 q1 q2 w h : Nat) (hw : w ≤ 24) (hh : h ≤ 24) (B O : Nat → Int32) (la ua ra da : Nat) (hlr : la ≤ ra) (hra : ra ≤ w) (hud : ua ≤ da) (hda : da ≤ h) (E : Nat → Int32) (ak su : Bool) (gm : UInt64) (be : Int32) (bs : UInt64) (T : Nat → Int32) (tc : Nat) (k : Int32) (hk1 : ¬ k < 0) (hk2 : k < bandsN B h) (v : UInt64) (hc1 : Op.cmpValue (FP.dcmp v 13875379345695965184) CmpOp.l < 0) : Ce l G (kTy cI cZ cJ cD) yX5_line wsX5_line rmX5_lineV [.ref x0, .int k, .double v] [(x0, .inr (4, [.ref h0, .ref v0, .ref a0, .ref r0, .ref tr, .int (nI tc)])), (tr, .inl (cI, 16, .inl T)), (v0, .inr (3, [.ref h0, .int (nI la), .int (nI ua), .int (nI ra), .int (nI da)])), (a0, .inr (2, [.ref h0, .ref e0, .int (b2i ak), .int (b2i su), .double gm, .int be, .double bs])), (e0, .inl (cI, 48, .inl E)), (r0, .inr (1, [.ref h0])), (h0, .inr (0, [.int (nI w), .int (nI h), .double (midF w), .double (midF h), .ref q1, .ref q2])), (q1, .inl (cI, 24, .inl B)), (q2, .inl (cI, 24, .inl O))] kX_ia 145 "v is not -1000.0 .. 1000.0" := by
  refine Ce.of (cc := cX5_line) (maxL := 4) rfl rfl hfl (by decide) (by decide) rfl (Nat.le_of_ble_eq_true rfl) rfl ?_
  intro p e s m args below meth c A Q sa hx hb hml hts hown hA hK hP hD hS hT hthr hgo ls hl
  refine lv_aload_n hx hb dX5_line_0 rfl (lv_at hl 0 rfl) ?_
  refine lv_iload_n hx hb dX5_line_1 rfl (lv_at hl 1 rfl) ?_
  refine kVv (w' := [(x0, .inr (4, [.ref h0, .ref v0, .ref a0, .ref r0, .ref tr, .int (nI tc)])), (tr, .inl (cI, 16, .inl T)), (v0, .inr (3, [.ref h0, .int (nI la), .int (nI ua), .int (nI ra), .int (nI da)])), (a0, .inr (2, [.ref h0, .ref e0, .int (b2i ak), .int (b2i su), .double gm, .int be, .double bs])), (e0, .inl (cI, 48, .inl E)), (r0, .inr (1, [.ref h0])), (h0, .inr (0, [.int (nI w), .int (nI h), .double (midF w), .double (midF h), .ref q1, .ref q2])), (q1, .inl (cI, 24, .inl B)), (q2, .inl (cI, 24, .inl O))]) (wr := []) (isC := [0, 1, 2, 3, 4, 5, 6, 7, 8]) (isR := []) (pm := [0, 1, 2, 3, 4, 5, 6, 7, 8]) (rest := []) (kX5_checkBand l G cI cZ cJ cD x0 tr v0 a0 e0 r0 h0 q1 q2 w h hw hh B O la ua ra da hlr hra hud hda E ak su gm be bs T tc k hk1 hk2) ⟨hx, hb, hml, hown, hts⟩ (cwV 1 hts gX5_line_X5_checkBand rfl rfl rfl hd_X5_checkBand ⟨Nat.le_of_ble_eq_true rfl, Nat.le_of_ble_eq_true rfl⟩) hK hP hD hS hA ⟨rfl, rfl, rfl, by decide, rfl, rfl, rfl⟩ 4 0 rfl rfl rfl hl.1 rfl (Nat.le_of_ble_eq_true rfl) dX5_line_2 ⟨Nat.le_of_ble_eq_true rfl, Nat.le_of_ble_eq_true rfl⟩ rfl rfl (fun H locs hP hD hS => ?_)
  refine lv_dload_n hx hb dX5_line_5 rfl (lv_at hl 2 rfl) ?_
  refine lv_ldc2d (v := 13875379345695965184) hx hb hown (hts _ wd_kX5_lineV_c141) dX5_line_6 ?_
  refine lv_dcmp hx hb dX5_line_9 ?_
  refine lv_if_lt (tgt := 21) hx hb dX5_line_10 (by decide) (fun c_10 => ?_) (fun h9 => absurd hc1 h9)
  exact hthr _ _ _ _ _ 56 60 rfl (hts _ wd_kX5_lineV_cl56) (hts _ wd_kX5_lineV_iikX_ia) (fun w h9 => hts w (at_kX5_lineV w h9)) at2_60 gd_60 hl.1 dX5_line_21 dX5_line_24 dX5_line_25 dX5_line_27 dX5_line_30 (Nat.le_of_ble_eq_true rfl) (Nat.le_of_ble_eq_true rfl) hP hS
theorem wd_kX5_lineW_c141 : Cond.constantDouble RX5 141 (13875379345695965184) ∈ wsX5_line := by decide +kernel
theorem wd_kX5_lineW_c143 : Cond.constantDouble RX5 143 (4652007308841189376) ∈ wsX5_line := by decide +kernel
theorem wd_kX5_lineW_cl56 : Cond.classLink RX5 56 kX_ia ∈ wsX5_line := by decide +kernel
theorem wd_kX5_lineW_iikX_ia : Cond.initialized kX_ia ∈ wsX5_line := by decide +kernel
theorem at_kX5_lineW : ∀ w ∈ (vx_atS RX5 60 kX_ia kX_up).filter goodWord, w ∈ wsX5_line := by decide +kernel
abbrev rmX5_lineW : Room := { frames := 7, cells := 1, slots := 6, locals := 103 }
set_option maxRecDepth 100000 in
set_option maxHeartbeats 4000000 in
theorem kX5_lineW (l : Launch) (G : va_G) (cI cZ cJ cD : ClassId) (hfl : l.stackTraces = false) (x0 tr v0 a0 e0 r0 : Nat) (h0 q1 q2 w h : Nat) (hw : w ≤ 24) (hh : h ≤ 24) (B O : Nat → Int32) (la ua ra da : Nat) (hlr : la ≤ ra) (hra : ra ≤ w) (hud : ua ≤ da) (hda : da ≤ h) (E : Nat → Int32) (ak su : Bool) (gm : UInt64) (be : Int32) (bs : UInt64) (T : Nat → Int32) (tc : Nat) (k : Int32) (hk1 : ¬ k < 0) (hk2 : k < bandsN B h) (v : UInt64) (hc1 : ¬ Op.cmpValue (FP.dcmp v 13875379345695965184) CmpOp.l < 0) (hc2 : ¬ Op.cmpValue (FP.dcmp v 4652007308841189376) CmpOp.g ≤ 0) : Ce l G (kTy cI cZ cJ cD) yX5_line wsX5_line rmX5_lineW [.ref x0, .int k, .double v] [(x0, .inr (4, [.ref h0, .ref v0, .ref a0, .ref r0, .ref tr, .int (nI tc)])), (tr, .inl (cI, 16, .inl T)), (v0, .inr (3, [.ref h0, .int (nI la), .int (nI ua), .int (nI ra), .int (nI da)])), (a0, .inr (2, [.ref h0, .ref e0, .int (b2i ak), .int (b2i su), .double gm, .int be, .double bs])), (e0, .inl (cI, 48, .inl E)), (r0, .inr (1, [.ref h0])), (h0, .inr (0, [.int (nI w), .int (nI h), .double (midF w), .double (midF h), .ref q1, .ref q2])), (q1, .inl (cI, 24, .inl B)), (q2, .inl (cI, 24, .inl O))] kX_ia 145 "v is not -1000.0 .. 1000.0" := by
  refine Ce.of (cc := cX5_line) (maxL := 4) rfl rfl hfl (by decide) (by decide) rfl (Nat.le_of_ble_eq_true rfl) rfl ?_
  intro p e s m args below meth c A Q sa hx hb hml hts hown hA hK hP hD hS hT hthr hgo ls hl
  refine lv_aload_n hx hb dX5_line_0 rfl (lv_at hl 0 rfl) ?_
  refine lv_iload_n hx hb dX5_line_1 rfl (lv_at hl 1 rfl) ?_
  refine kVv (w' := [(x0, .inr (4, [.ref h0, .ref v0, .ref a0, .ref r0, .ref tr, .int (nI tc)])), (tr, .inl (cI, 16, .inl T)), (v0, .inr (3, [.ref h0, .int (nI la), .int (nI ua), .int (nI ra), .int (nI da)])), (a0, .inr (2, [.ref h0, .ref e0, .int (b2i ak), .int (b2i su), .double gm, .int be, .double bs])), (e0, .inl (cI, 48, .inl E)), (r0, .inr (1, [.ref h0])), (h0, .inr (0, [.int (nI w), .int (nI h), .double (midF w), .double (midF h), .ref q1, .ref q2])), (q1, .inl (cI, 24, .inl B)), (q2, .inl (cI, 24, .inl O))]) (wr := []) (isC := [0, 1, 2, 3, 4, 5, 6, 7, 8]) (isR := []) (pm := [0, 1, 2, 3, 4, 5, 6, 7, 8]) (rest := []) (kX5_checkBand l G cI cZ cJ cD x0 tr v0 a0 e0 r0 h0 q1 q2 w h hw hh B O la ua ra da hlr hra hud hda E ak su gm be bs T tc k hk1 hk2) ⟨hx, hb, hml, hown, hts⟩ (cwV 1 hts gX5_line_X5_checkBand rfl rfl rfl hd_X5_checkBand ⟨Nat.le_of_ble_eq_true rfl, Nat.le_of_ble_eq_true rfl⟩) hK hP hD hS hA ⟨rfl, rfl, rfl, by decide, rfl, rfl, rfl⟩ 4 0 rfl rfl rfl hl.1 rfl (Nat.le_of_ble_eq_true rfl) dX5_line_2 ⟨Nat.le_of_ble_eq_true rfl, Nat.le_of_ble_eq_true rfl⟩ rfl rfl (fun H locs hP hD hS => ?_)
  refine lv_dload_n hx hb dX5_line_5 rfl (lv_at hl 2 rfl) ?_
  refine lv_ldc2d (v := 13875379345695965184) hx hb hown (hts _ wd_kX5_lineW_c141) dX5_line_6 ?_
  refine lv_dcmp hx hb dX5_line_9 ?_
  refine lv_if_lt (tgt := 21) hx hb dX5_line_10 (by decide) (fun h9 => absurd h9 hc1) (fun c_10 => ?_)
  refine lv_dload_n hx hb dX5_line_13 rfl (lv_at hl 2 rfl) ?_
  refine lv_ldc2d (v := 4652007308841189376) hx hb hown (hts _ wd_kX5_lineW_c143) dX5_line_14 ?_
  refine lv_dcmp hx hb dX5_line_17 ?_
  refine lv_if_le (tgt := 31) hx hb dX5_line_18 (by decide) (fun h9 => absurd h9 hc2) (fun c_18 => ?_)
  exact hthr _ _ _ _ _ 56 60 rfl (hts _ wd_kX5_lineW_cl56) (hts _ wd_kX5_lineW_iikX_ia) (fun w h9 => hts w (at_kX5_lineW w h9)) at2_60 gd_60 hl.1 dX5_line_21 dX5_line_24 dX5_line_25 dX5_line_27 dX5_line_30 (Nat.le_of_ble_eq_true rfl) (Nat.le_of_ble_eq_true rfl) hP hS
