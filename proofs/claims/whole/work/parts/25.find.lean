/-! CONTRACTS THAT READ THE STATIC ROW OF STEPS -/
def stpN (j : Nat) : Int32 := [50, 25, 12, 6, 3, 1].getD j 0
def kX (t : Nat) (A : Nat → Prop) (U : State) (H : Heap) : Prop := va_Z "SkewFind$Search" "STEPS" "[I" (.ref t) A U H ∧ va_T .int t 6 (fun j => .int (stpN j)) A U H
theorem kX.moved {t : Nat} {A : Nat → Prop} {u U : State} {H : Heap} (hvm : u.vm.Alike U.vm) (h : kX t A u H) : kX t A U H := ⟨h.1.moved hvm, h.2.moved hvm⟩
theorem kX.kept {t : Nat} {A : Nat → Prop} {U : State} {H H1 : Heap} (h : kX t A U H) (hq : ∀ a : Nat, a < H.size → ¬ A a → H1[a]? = H[a]?) : kX t A U H1 := ⟨h.1.kept hq, h.2.kept hq⟩
theorem kX.narrow {t : Nat} {A B : Nat → Prop} {U : State} {H : Heap} (h : kX t A U H) (hAB : ∀ q, B q → A q) : kX t B U H := ⟨h.1.narrow hAB, h.2.narrow hAB⟩
abbrev kPcX (G : va_G) (tys : List (ClassId × FieldType)) (as : List Value) (w0 : va_W) (t sz : Nat) : Array Value → State → Prop :=
  va_Pc as (fun U => U.heap.size = sz ∧ va_P G vwCl w0 U.heap ∧ va_K G vwCl tys U ∧ va_D (fun _ => True) w0 ∧ kX t (va_A w0 sz) U U.heap)
def CiX (l : Launch) (G : va_G) (tys : List (ClassId × FieldType)) (y : MethodName) (ws : List Cond) (rm : Room) (as : List Value) (w0 : va_W) (t : Nat) (r : Int32) (w1 : va_W) : Prop :=
  ∀ sz : Nat, Met l y ws rm (kPcX G tys as w0 t sz) (va_Qi (fun r' (_ : Unit) => r' = r) (kB G tys w0 w1 sz) (va_A w0 sz)) rm.cells rm.slots (va_A w0 sz)
theorem kBlindX (G : va_G) (tys : List (ClassId × FieldType)) (as : List Value) (w0 : va_W) (t sz : Nat) : FrameBlind (kPcX G tys as w0 t sz) := by
  intro a U g mk q
  obtain ⟨q0, q1, qP, qK, qD, qX⟩ := q
  exact ⟨q0, q1, qP, va_K.moved (u := U) (U := U.calling g mk a) (Vm.Alike.refl U.vm) qK, qD, kX.moved (u := U) (U := U.calling g mk a) (Vm.Alike.refl U.vm) qX⟩
section KCX
variable {p : Program} {l : Launch} {e : Env} {R : Room} {s : State} {m : MethodId} {args : Array Value} {below : List Frame} {meth : Method} {c : Code} {H : Heap} {locs : List Loc} {cells slots : Nat} {Q : State → Prop}
  {G : va_G} {tys : List (ClassId × FieldType)} {y : MethodName} {ws ws' Ts : List Cond} {rm : Room} {as As : List Value} {w0 w1 w wr w' : va_W} {ri : Int32} {rd : UInt64} {cc bytes : ByteArray} {maxL nL index n t : Nat} {lv : List (Nat × Value)}
  {own C : String} {ret : Option FieldType} {b : Addr} {rest st0 : List Value} {pc : Nat} {ls : Array Slot} {A : Nat → Prop}
theorem CiX.of (ty : FieldType) (hna : narrow ty (.int ri) = .int ri) (h0 : rm.cells = 0) (h1 : rm.slots = 0) (hy : plainFor y = true) (hw : ws = Cond.code y cc maxL (some ty) :: ws') (hn : (lg_sl as).length ≤ maxL) (hlv : lv_args 0 as = lv)
    (body : ∀ (p : Program) (e : Env) (s : State) (m : MethodId) (args : Array Value) (below : List Frame) (meth : Method) (c : Code) (A : Nat → Prop) (Q : State → Prop),
      p.tables.exec = Jvm.exec → c.code = cc → c.maxLocals = maxL → (∀ w ∈ ws, w.before args s = true) → s.vm.findClass y.cls = some m.cls → (∀ q : Nat, s.heap.size ≤ q → A q) → va_K G vwCl tys s → va_P G vwCl w0 s.heap → va_D A w0 → va_S A s.heap s.heap [] → kX t A s s.heap →
      (∀ (H : Heap) (locs : List Loc) (pc : Nat) (ls : Array Slot) (w : va_W) (v : Int32), decode cc pc = .ok (.ireturn, 1) → va_P G vwCl w H → va_D A w → va_S A s.heap H locs → v = ri → w = w1 → W p l e rm s m args below meth c H locs 0 0 Q (F0 m pc ls [.int v])) →
      ∀ ls : Array Slot, lv_has ls maxL lv → W p l e rm s m args below meth c s.heap [] 0 0 Q (F0 m 0 ls [])) : CiX l G tys y ws rm as w0 t ri w1 := by
  obtain ⟨fr0, ce0, sl0, lo0⟩ := rm
  subst h0 h1
  intro sz
  refine kOfW (cc := cc) (maxL := maxL) (ret := some ty) hy hw ?_
  intro p e s m args below meth c s₁ B hml hv
  obtain ⟨rfl, hsz, hP, hK, hD0, hX⟩ := hv
  subst hsz
  have hD := hD0.self (sz := s.heap.size)
  have hA : ∀ q : Nat, s.heap.size ≤ q → va_A w0 s.heap.size q := fun q h => Or.inr h
  have hl := lv_entry as (n := maxL) hn
  rw [hlv] at hl
  rw [lg_entry_eq]
  refine body p e s m as.toArray below meth c (va_A w0 s.heap.size) _ B.exec B.bytes hml (atoms_spec (ws := ws) B.pre) (findClass_of_methodNamed B.named) hA hK hP hD va_S.rf hX ?_ _ hl
  intro H locs pc ls w v hdg hP2 hD2 hS2 hv hw2
  subst hv hw2
  exact W.zret B.exec B.bytes B.returns hna (fun t ht hW => ⟨⟨_, (), rfl, rfl, by rw [ht]; exact hP2, va_K.moved hW.alike hK, hD2⟩, hS2.F ht⟩) hS2.2.2 hdg B.notSynchronized
theorem kViX (hX : kX t A s s.heap) (hc : CiX l G tys y ws rm (.ref b :: As) w0 t ri w1) (S : CallFix p m c cc nL s args Ts own) (cw : CallW R s args own C index y bytes maxL ret ws rm rm.cells rm.slots n)
    (hK : va_K G vwCl tys s) (hP : va_P G vwCl w H) (hD : va_D A w) (hS : va_S A s.heap H locs) (hA : ∀ q : Nat, s.heap.size ≤ q → A q) {isC isR pm : List Nat} (hpl : kPl w w0 wr w1 w' isC isR pm)
    (ci q0 : Nat) {T : u_T} {N : Nat} {fs : List Value} (hcl : vwCl[ci]? = some (C, T, N)) (he : w[q0]? = some (b, .inr (ci, fs)))
    (hn : As.length = n) (hsize : ls.size = nL) (hst : st0 = As.reverse ++ .ref b :: rest) (hW : (rest.map fun v => v.category).sum ≤ 8) (hdg : decode cc pc = .ok (.invokevirtual index, 3)) (hf : cells ≤ R.cells ∧ slots ≤ R.slots)
    (h0 : rm.cells = 0) (h1 : rm.slots = 0) (kk : ∀ (H1 : Heap) (locs1 : List Loc), va_P G vwCl w' H1 → va_D A w' → va_S A s.heap H1 locs1 → W p l e R s m args below meth c H1 locs1 cells slots Q (F0 m (pc + 3) ls (.int ri :: rest))) :
    W p l e R s m args below meth c H locs cells slots Q (F0 m pc ls st0) := by
  obtain ⟨fr0, ce0, sl0, lo0⟩ := rm
  subst h0 h1
  have hF := va_free hD hS hA isC hpl.1
  have hPc := hP.subm isC hpl.1
  have hDc := hD.sub isC hpl.2.2.2.2.1 hpl.1
  have hX2 := (hX.kept hS.2.1).narrow (B := va_A w0 H.size) (fun q h => hF q h)
  refine va_calli (va_runV (As := As) (rest := rest) S (hc H.size) cw ⟨kBlindX _ _ _ _ _ _, va_recv hK hP hcl he, fun U hU hW => ⟨rfl, by rw [hU], by rw [hU]; exact hPc, va_K.moved hW.alike hK, hDc.weaken (fun _ _ _ _ => trivial), by rw [hU]; exact hX2.moved hW.alike⟩⟩ rfl hn hsize hst (lv_room hW) hdg hf) hS (fun q _ h => hF q h) hF (fun r u t H1 locs1 ht hvm hw hB hz1 hk1 hS1 => ?_)
  subst hw
  obtain ⟨hP1, -, hD1⟩ := hB
  rw [ht] at hP1
  obtain ⟨hP2, hD2⟩ := kJoin hpl hP hD hS hA hk1 hP1 hD1
  exact kk H1 locs1 hP2 hD2 hS1
end KCX
/-! the grid and the halved steps -/
def angI (m i : Nat) : Int32 := Int32.ofInt (-(m : Int) + 100 * (i : Int))
theorem angI_toInt {m i : Nat} (hm : m ≤ 2000) (hi : i ≤ 60) : (angI m i).toInt = -(m : Int) + 100 * (i : Int) := Int32.toInt_ofInt_of_le (by omega) (by omega)
theorem angI_0 {m : Nat} (hm : m ≤ 2000) : -nI m = angI m 0 := by
  apply Int32.toInt.inj
  rw [angI_toInt hm (by omega), sb_negT (by omega)]
  omega
theorem angI_s {m i : Nat} (hm : m ≤ 2000) (hi : i ≤ 59) : angI m i + 100 = angI m (i + 1) := by
  apply Int32.toInt.inj
  rw [angI_toInt hm (by omega), Int32.toInt_add, angI_toInt hm (by omega), show (100 : Int32).toInt = 100 from rfl]
  rw [Int.bmod_eq_of_le (by omega) (by omega)]
  omega
theorem angI_gt {m i : Nat} (hm : m ≤ 2000) (hi : i ≤ 60) : nI m < angI m i ↔ 2 * m < 100 * i := by
  rw [Int32.lt_iff_toInt_lt, angI_toInt hm hi, nI_toInt (by omega)]
  omega
def gV (w h : Nat) (B : Nat → Int32) (m i : Nat) : UInt64 := sumF w h B (angI m i)
def gE (w h : Nat) (B : Nat → Int32) (m : Nat) (E : Nat → Int32) : Nat → Nat → Int32
  | 0 => E
  | i + 1 => sumE w h B (gE w h B m E i) (angI m i)
def gS (w h : Nat) (B : Nat → Int32) (m : Nat) (bs : UInt64) : Nat → UInt64
  | 0 => bs
  | i + 1 => if nI i = 0 then gV w h B m i else if Op.cmpValue (FP.dcmp (gV w h B m i) (gS w h B m bs i)) CmpOp.l ≤ 0 then gS w h B m bs i else gV w h B m i
def gB (w h : Nat) (B : Nat → Int32) (m : Nat) (be : Int32) (bs : UInt64) : Nat → Int32
  | 0 => be
  | i + 1 => if nI i = 0 then angI m i else if Op.cmpValue (FP.dcmp (gV w h B m i) (gS w h B m bs i)) CmpOp.l ≤ 0 then gB w h B m be bs i else angI m i
def gT (w h : Nat) (B : Nat → Int32) (m : Nat) : Nat → UInt64
  | 0 => FP.dconst0
  | i + 1 => FP.dadd (gT w h B m i) (gV w h B m i)
theorem gT_in (w h : Nat) (B : Nat → Int32) (m : Nat) : ∀ i : Nat, i ≤ 41 → fIv (-((i : Int) * 140737488355328)) ((i : Int) * 140737488355328) (gT w h B m i)
  | 0, _ => fc_dconst0.weak (by omega) (by omega) (by decide +kernel) (by decide +kernel)
  | i + 1, hi => by
    have ih := gT_in w h B m i (by omega)
    exact fAdd ih (fSumF w h B (angI m i)) (by omega) (by omega) (by omega) (by omega)
theorem fGT (w h : Nat) (B : Nat → Int32) (m : Nat) {i : Nat} (hi : i ≤ 41) : fIv (-5770237022568448) 5770237022568448 (gT w h B m i) :=
  (gT_in w h B m i hi).weak (by omega) (by omega) (by decide +kernel) (by decide +kernel)
def gN (m : Nat) : Nat := 2 * m / 100 + 1
def gM (w h : Nat) (B : Nat → Int32) (m : Nat) : UInt64 := FP.ddiv (gT w h B m (gN m)) (FP.i2d (nI (gN m)))
theorem gN_le {m : Nat} (hm : m ≤ 2000) : 0 < gN m ∧ gN m ≤ 41 := by unfold gN; omega
theorem fGM (w h : Nat) (B : Nat → Int32) {m : Nat} (hm : m ≤ 2000) : fIv (-5770237022568448) 5770237022568448 (gM w h B m) :=
  fDivI (fGT w h B m (gN_le hm).2) _ (nI_ne0 (gN_le hm).1 (by have := (gN_le hm).2; omega)) (by decide +kernel)
theorem gB_in (w h : Nat) (B : Nat → Int32) {m : Nat} (hm : m ≤ 2000) (be : Int32) (bs : UInt64) : ∀ i, 100 * i ≤ 2 * m → -(m : Int) ≤ (gB w h B m be bs (i + 1)).toInt ∧ (gB w h B m be bs (i + 1)).toInt ≤ m
  | 0, hi => by
    have e : gB w h B m be bs 1 = angI m 0 := if_pos rfl
    rw [e, angI_toInt hm (by omega)]
    omega
  | i + 1, hi => by
    have ih := gB_in w h B hm be bs i (by omega)
    have ha := angI_toInt hm (i := i + 1) (by omega)
    have e : gB w h B m be bs (i + 1 + 1) = if nI (i + 1) = 0 then angI m (i + 1) else if Op.cmpValue (FP.dcmp (gV w h B m (i + 1)) (gS w h B m bs (i + 1))) CmpOp.l ≤ 0 then gB w h B m be bs (i + 1) else angI m (i + 1) := rfl
    rw [e]
    split
    · rw [ha]; omega
    · split
      · exact ih
      · rw [ha]; omega
def tbL (w h : Nat) (B : Nat → Int32) (m : Nat) (be sp : Int32) (bs : UInt64) : Bool := if be - sp < -nI m then false else if Op.cmpValue (FP.dcmp (sumF w h B (be - sp)) bs) CmpOp.l < 0 then false else true
def tbS1 (w h : Nat) (B : Nat → Int32) (m : Nat) (be sp : Int32) (bs : UInt64) : UInt64 := if tbL w h B m be sp bs = true then sumF w h B (be - sp) else bs
def tbM (w h : Nat) (B : Nat → Int32) (m : Nat) (be sp : Int32) (bs : UInt64) : Bool := if nI m < be + sp then false else if Op.cmpValue (FP.dcmp (sumF w h B (be + sp)) (tbS1 w h B m be sp bs)) CmpOp.l ≤ 0 then false else true
def tbB (w h : Nat) (B : Nat → Int32) (m : Nat) (be sp : Int32) (bs : UInt64) : Int32 := if tbM w h B m be sp bs = true then be + sp else if tbL w h B m be sp bs = true then be - sp else be
def tbS (w h : Nat) (B : Nat → Int32) (m : Nat) (be sp : Int32) (bs : UInt64) : UInt64 := if tbM w h B m be sp bs = true then sumF w h B (be + sp) else tbS1 w h B m be sp bs
def tbE1 (w h : Nat) (B : Nat → Int32) (m : Nat) (be sp : Int32) (E : Nat → Int32) : Nat → Int32 := if be - sp < -nI m then E else sumE w h B E (be - sp)
def tbE (w h : Nat) (B : Nat → Int32) (m : Nat) (be sp : Int32) (E : Nat → Int32) : Nat → Int32 := if nI m < be + sp then tbE1 w h B m be sp E else sumE w h B (tbE1 w h B m be sp E) (be + sp)
theorem tb_lo {m : Nat} (hm : m ≤ 2000) {be sp : Int32} (h1 : -(m : Int) ≤ be.toInt) (h2 : be.toInt ≤ m) (h3 : 1 ≤ sp.toInt) (h4 : sp.toInt ≤ 50) (h : ¬ be - sp < -nI m) : -(m : Int) ≤ (be - sp).toInt ∧ (be - sp).toInt ≤ m := by
  have e : (be - sp).toInt = be.toInt - sp.toInt := by rw [Int32.toInt_sub]; exact Int.bmod_eq_of_le (by omega) (by omega)
  rw [Int32.lt_iff_toInt_lt, sb_negT (by omega), e] at h
  omega
theorem tb_hi {m : Nat} (hm : m ≤ 2000) {be sp : Int32} (h1 : -(m : Int) ≤ be.toInt) (h2 : be.toInt ≤ m) (h3 : 1 ≤ sp.toInt) (h4 : sp.toInt ≤ 50) (h : ¬ nI m < be + sp) : -(m : Int) ≤ (be + sp).toInt ∧ (be + sp).toInt ≤ m := by
  have e : (be + sp).toInt = be.toInt + sp.toInt := by rw [Int32.toInt_add]; exact Int.bmod_eq_of_le (by omega) (by omega)
  rw [Int32.lt_iff_toInt_lt, nI_toInt (by omega), e] at h
  omega
theorem tbB_in (w h : Nat) (B : Nat → Int32) {m : Nat} (hm : m ≤ 2000) {be sp : Int32} (bs : UInt64) (h1 : -(m : Int) ≤ be.toInt) (h2 : be.toInt ≤ m) (h3 : 1 ≤ sp.toInt) (h4 : sp.toInt ≤ 50) : -(m : Int) ≤ (tbB w h B m be sp bs).toInt ∧ (tbB w h B m be sp bs).toInt ≤ m := by
  unfold tbB
  split
  · rename_i c
    refine tb_hi hm h1 h2 h3 h4 fun q => ?_
    simp [tbM, q] at c
  · split
    · rename_i c
      refine tb_lo hm h1 h2 h3 h4 fun q => ?_
      simp [tbL, q] at c
    · exact ⟨h1, h2⟩
theorem stpN_in : ∀ j, j < 6 → 1 ≤ (stpN j).toInt ∧ (stpN j).toInt ≤ 50 := by decide +kernel
def fS (w h : Nat) (B : Nat → Int32) (m : Nat) (be : Int32) (bs : UInt64) : Nat → Int32 × UInt64
  | 0 => (gB w h B m be bs (gN m), gS w h B m bs (gN m))
  | i + 1 => (tbB w h B m (fS w h B m be bs i).1 (stpN i) (fS w h B m be bs i).2, tbS w h B m (fS w h B m be bs i).1 (stpN i) (fS w h B m be bs i).2)
def fE (w h : Nat) (B : Nat → Int32) (m : Nat) (be : Int32) (bs : UInt64) (E : Nat → Int32) : Nat → Nat → Int32
  | 0 => gE w h B m E (gN m)
  | i + 1 => tbE w h B m (fS w h B m be bs i).1 (stpN i) (fE w h B m be bs E i)
theorem fS_in (w h : Nat) (B : Nat → Int32) {m : Nat} (hm : m ≤ 2000) (be : Int32) (bs : UInt64) : ∀ i, i ≤ 6 → -(m : Int) ≤ (fS w h B m be bs i).1.toInt ∧ (fS w h B m be bs i).1.toInt ≤ m
  | 0, _ => gB_in w h B hm be bs (2 * m / 100) (by omega)
  | i + 1, hi => by
    have ih := fS_in w h B hm be bs i (by omega)
    have hs := stpN_in i (by omega)
    exact tbB_in w h B hm _ ih.1 ih.2 hs.1 hs.2
def sureF (w h : Nat) (B : Nat → Int32) (m : Nat) (be : Int32) (bs : UInt64) : Bool := if Op.cmpValue (FP.dcmp (fS w h B m be bs 6).2 (FP.dmul 4608308318706860032 (gM w h B m))) CmpOp.l < 0 then false else true
def fdR (w h : Nat) (B : Nat → Int32) (m : Nat) (be : Int32) (bs : UInt64) : Int32 := if cntOn B h = 0 then 100000 else (fS w h B m be bs 6).1
def fdSu (w h : Nat) (B : Nat → Int32) (m : Nat) (be : Int32) (bs : UInt64) : Bool := if cntOn B h = 0 then false else sureF w h B m be bs
def fdGm (w h : Nat) (B : Nat → Int32) (m : Nat) : UInt64 := if cntOn B h = 0 then FP.dconst0 else gM w h B m
def fdBe (w h : Nat) (B : Nat → Int32) (m : Nat) (be : Int32) (bs : UInt64) : Int32 := if cntOn B h = 0 then be else (fS w h B m be bs 6).1
def fdBs (w h : Nat) (B : Nat → Int32) (m : Nat) (be : Int32) (bs : UInt64) : UInt64 := if cntOn B h = 0 then bs else (fS w h B m be bs 6).2
def fdE (w h : Nat) (B : Nat → Int32) (m : Nat) (be : Int32) (bs : UInt64) (E : Nat → Int32) : Nat → Int32 := if cntOn B h = 0 then E else fE w h B m be bs E 6
