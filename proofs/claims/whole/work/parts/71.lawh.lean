/-! THE LAW'S CASES -/
theorem kLcmp0 {p : Program} {l : Launch} {e : Env} {R : Room} {s : State} {m : MethodId} {args : Array Value} {below : List Frame} {meth : Method} {c : Code} {H : Heap} {locs : List Loc} {cells slots : Nat} {Q : State → Prop} {cc : ByteArray} {x y : Int64} (hxy : x = y) (hexec : p.tables.exec = Jvm.exec) (hb : c.code = cc) {pc : Nat} {ls : Array Slot} {rest : List Value} (hdg : decode cc pc = .ok (.lcmp, 1))
    (kk : W p l e R s m args below meth c H locs cells slots Q (F0 m (pc + 1) ls (.int 0 :: rest))) : W p l e R s m args below meth c H locs cells slots Q (F0 m pc ls (.long y :: .long x :: rest)) := by
  subst hxy
  refine W.lcmp hexec hb hdg ?_
  rw [show lg_cmp x x = 0 from by simp [lg_cmp]]
  exact kk
def LwI (w h : Nat) (B : Nat → Int32) (P : Nat → Bool) (la ua ra da : Nat) (ak su : Bool) (gm : UInt64) (ms : Bool) (mn : UInt64) (T TM : Nat → Int32) (tc : Nat) : Prop :=
  Rl w h B P ∧ Wn w h B la ua ra da ∧ (la ≤ ra ∧ ra ≤ w ∧ ua ≤ da ∧ da ≤ h) ∧ (ak = true → su = ms ∧ gm = mn) ∧ tc ≤ 16 ∧ ∀ j, j < tc → T j = TM j ∧ -2000 ≤ (T j).toInt ∧ (T j).toInt ≤ 2000
abbrev lwA (s : State) : Nat → Prop := fun q => s.heap.size ≤ q
def LwT (s : State) : Prop := (∃ sa, kT kX_ia 58 "n is below 1" sa (lwA s) s s.heap) ∧ (∃ sa, kT kX_ia 82 "the bound is not 0 .. 2000" sa (lwA s) s s.heap) ∧ (∃ sa, kT kX_uo 106 "16 turns can go back" sa (lwA s) s s.heap) ∧ (∃ sa, kT kX_ia 145 "v is not -1000.0 .. 1000.0" sa (lwA s) s s.heap) ∧ (∃ sa, kT kX_io 193 "no such sample" sa (lwA s) s s.heap) ∧ (∃ sa, kT kX_io 196 "no such side" sa (lwA s) s s.heap) ∧ (∃ sa, kT kX_io 198 "no such band" sa (lwA s) s s.heap) ∧ (∃ sa, kT kX_ia 200 "the angle is not -2000 .. 2000" sa (lwA s) s s.heap) ∧ (∃ sa, kT kX_is 207 "the best angle was not asked for" sa (lwA s) s s.heap)
abbrev LwW (G : va_G) (cI cZ cJ cD : ClassId) (x0 tr v0 a0 e0 r0 h0 q1 q2 z0 z1 z2 z3 z4 z5 oa od w h : Nat) (B O : Nat → Int32) (la ua ra da : Nat) (E : Nat → Int32) (ak su : Bool) (gm : UInt64) (be : Int32) (bs : UInt64) (T : Nat → Int32) (tc : Nat) (cd : Int32) (P N : Nat → Bool) (ze : Nat → Int32) (ms : Bool) (mn : UInt64) (TM LN : Nat → Int32) (ba br : Int32) (LO : Nat → Int64) (DO : Nat → UInt64) : va_W := [(x0, .inr (4, [.ref h0, .ref v0, .ref a0, .ref r0, .ref tr, .int (nI tc)])), (tr, .inl (cI, 16, .inl T)), (v0, .inr (3, [.ref h0, .int (nI la), .int (nI ua), .int (nI ra), .int (nI da)])), (a0, .inr (2, [.ref h0, .ref e0, .int (b2i ak), .int (b2i su), .double gm, .int be, .double bs])), (e0, .inl (cI, 48, .inl E)), (r0, .inr (1, [.ref h0])), (h0, .inr (0, [.int (nI w), .int (nI h), .double (midF w), .double (midF h), .ref q1, .ref q2])), (q1, .inl (cI, 24, .inl B)), (q2, .inl (cI, 24, .inl O)), (z0, .inr (5, [.int cd, .int (nI w), .int (nI h), .ref z1, .ref z2, .ref z3, .int (b2i ak), .int (b2i ms), .double mn, .ref z4, .int (nI tc), .ref z5, .int ba, .int br])), (z1, .inl (cZ, 576, .inl (bA P))), (z2, .inl (cZ, 576, .inl (bA N))), (z3, .inl (cI, 4, .inl (e4 ze (nI la) (nI ua) (nI ra) (nI da)))), (z4, .inl (cI, 16, .inl TM)), (z5, .inl (cI, 104, .inl LN)), (oa, .inl (cJ, 1, .inr (.inl LO))), (od, .inl (cD, 1, .inr (.inr (.inr (.inl DO)))))]
abbrev LwK (p : Program) (l : Launch) (e : Env) (s : State) (m : MethodId) (below : List Frame) (meth : Method) (c : Code) (b : Nat) (G : va_G) (cI cZ cJ cD : ClassId) (x0 tr v0 a0 e0 r0 h0 q1 q2 z0 z1 z2 z3 z4 z5 oa od w h i cells slots pc : Nat) : Prop :=
  ∀ (B O : Nat → Int32) (la ua ra da : Nat) (E : Nat → Int32) (ak su : Bool) (gm : UInt64) (be : Int32) (bs : UInt64) (T : Nat → Int32) (tc : Nat) (cd : Int32) (P N : Nat → Bool) (ze : Nat → Int32) (ms : Bool) (mn : UInt64) (TM LN : Nat → Int32) (ba br : Int32) (LO : Nat → Int64) (DO : Nat → UInt64) (H : Heap) (locs : List Loc) (cl2 sl2 : Nat), LwI w h B P la ua ra da ak su gm ms mn T TM tc → cl2 ≤ cells + 1 → sl2 ≤ slots + 6 → va_P G vwCl [(x0, .inr (4, [.ref h0, .ref v0, .ref a0, .ref r0, .ref tr, .int (nI tc)])), (tr, .inl (cI, 16, .inl T)), (v0, .inr (3, [.ref h0, .int (nI la), .int (nI ua), .int (nI ra), .int (nI da)])), (a0, .inr (2, [.ref h0, .ref e0, .int (b2i ak), .int (b2i su), .double gm, .int be, .double bs])), (e0, .inl (cI, 48, .inl E)), (r0, .inr (1, [.ref h0])), (h0, .inr (0, [.int (nI w), .int (nI h), .double (midF w), .double (midF h), .ref q1, .ref q2])), (q1, .inl (cI, 24, .inl B)), (q2, .inl (cI, 24, .inl O)), (z0, .inr (5, [.int cd, .int (nI w), .int (nI h), .ref z1, .ref z2, .ref z3, .int (b2i ak), .int (b2i ms), .double mn, .ref z4, .int (nI tc), .ref z5, .int ba, .int br])), (z1, .inl (cZ, 576, .inl (bA P))), (z2, .inl (cZ, 576, .inl (bA N))), (z3, .inl (cI, 4, .inl (e4 ze (nI la) (nI ua) (nI ra) (nI da)))), (z4, .inl (cI, 16, .inl TM)), (z5, .inl (cI, 104, .inl LN)), (oa, .inl (cJ, 1, .inr (.inl LO))), (od, .inl (cD, 1, .inr (.inr (.inr (.inl DO)))))] H → va_D (lwA s) [(x0, .inr (4, [.ref h0, .ref v0, .ref a0, .ref r0, .ref tr, .int (nI tc)])), (tr, .inl (cI, 16, .inl T)), (v0, .inr (3, [.ref h0, .int (nI la), .int (nI ua), .int (nI ra), .int (nI da)])), (a0, .inr (2, [.ref h0, .ref e0, .int (b2i ak), .int (b2i su), .double gm, .int be, .double bs])), (e0, .inl (cI, 48, .inl E)), (r0, .inr (1, [.ref h0])), (h0, .inr (0, [.int (nI w), .int (nI h), .double (midF w), .double (midF h), .ref q1, .ref q2])), (q1, .inl (cI, 24, .inl B)), (q2, .inl (cI, 24, .inl O)), (z0, .inr (5, [.int cd, .int (nI w), .int (nI h), .ref z1, .ref z2, .ref z3, .int (b2i ak), .int (b2i ms), .double mn, .ref z4, .int (nI tc), .ref z5, .int ba, .int br])), (z1, .inl (cZ, 576, .inl (bA P))), (z2, .inl (cZ, 576, .inl (bA N))), (z3, .inl (cI, 4, .inl (e4 ze (nI la) (nI ua) (nI ra) (nI da)))), (z4, .inl (cI, 16, .inl TM)), (z5, .inl (cI, 104, .inl LN)), (oa, .inl (cJ, 1, .inr (.inl LO))), (od, .inl (cD, 1, .inr (.inr (.inr (.inl DO)))))] → va_S (lwA s) s.heap H locs → ∀ ls : Array Slot, lv_has ls 9 [(5, .int (nI i)), (4, .ref od), (3, .ref oa), (2, .ref z0), (1, .ref x0), (0, .ref b)] → W p l e room_1 s m #[Value.ref b] below meth c H locs cl2 sl2 (lw_Z below #[Value.ref b] s) (F0 m pc ls [])
theorem fill_same {w h : Nat} {B : Nat → Int32} (hw : w ≤ 24) (hh : h ≤ 24) {x1 y1 n1 : Nat} (hx1 : x1 < w) (hy1 : y1 < h) (hn1 : 1 ≤ n1) (hn2 : n1 < 2 ^ 31) (ib : Bool) (hc : chgB w h B (nI x1) (nI y1) (nI n1) (b2i ib) = false) : fillB w h B (nI x1) (nI y1) (nI n1) (b2i ib) = B := by
  unfold chgB at hc
  have hle : fillN w h B (nI x1) (nI y1) (nI n1) (b2i ib) ≤ 0 := by
    refine Classical.byContradiction fun q => ?_
    rw [if_neg q] at hc
    cases hc
  rw [fillN_eq hw hh hx1 hy1 hn1 hn2, popc_ct] at hle
  rw [fillB_eq hw hh hx1 hy1 hn1 hn2]
  generalize bitsOfF (nI (min (w - x1) n1)) <<< (nI x1 &&& 31) = r at *
  have hcl : ∀ (p : Nat → Bool) n, fb_ct p n ≤ n := by
    intro p n
    induction n with
    | zero => exact Nat.le_refl _
    | succ n ih => rw [fb_ct_succ]; split <;> omega
  have h1 := hcl (bt (B y1 ^^^ paintF (b2i ib) (B y1) r)) 32
  have h2 := (nI_leI (a := fb_ct (bt (B y1 ^^^ paintF (b2i ib) (B y1) r)) 32) (b := 0) (by omega) (by omega)).mp hle
  have h3 := fb_ct_zero.mp (Nat.le_zero.mp h2)
  have e : paintF (b2i ib) (B y1) r = B y1 := b_ext fun i hi => by
    have := h3 i hi
    rw [b_xor] at this
    cases a : bt (B y1) i <;> cases b : bt (paintF (b2i ib) (B y1) r) i <;> simp [a, b] at this ⊢
  rw [e]
  funext k
  unfold upd
  by_cases q : k = y1
  · rw [if_pos q, q]
  · rw [if_neg q]
theorem lwV8 (z : Int32) : fIv (-17592186044416) 17592186044416 (FP.dmul (FP.i2d z) 4593671619917905920) := by
  have f8 : fIv (-8192) 8192 4593671619917905920 := by unfold fIv; decide +kernel
  exact fIv.mul (n := 140737488355328) (m := 8192) (k := 17592186044416) (fAny z) f8 (by decide +kernel) (by decide +kernel)
theorem lwV9 {v : UInt64} {a b : Int} (hv : fIv a b v) (hc1 : ¬ Op.cmpValue (FP.dcmp v 13875379345695965184) CmpOp.l < 0) (hc2 : Op.cmpValue (FP.dcmp v 4652007308841189376) CmpOp.g ≤ 0) : fIv (-65536000) 65536000 v := by
  have f1 : fIv (-65536000) (-65536000) 13875379345695965184 := by unfold fIv; decide +kernel
  have f2 : fIv 65536000 65536000 4652007308841189376 := by unfold fIv; decide +kernel
  rw [fCmp hv f1, cmpL_lt0] at hc1
  rw [fCmp hv f2, cmpG_le] at hc2
  refine ⟨hv.1, ?_, ?_, by decide, by decide⟩
  · have := f1.2.1
    omega
  · have := f2.2.2.1
    omega
theorem wd_law_c120 : Cond.constantDouble RL 120 (4593671619917905920) ∈ wsL_law := by decide +kernel
