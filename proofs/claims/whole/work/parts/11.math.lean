/-! WORDS OF MY OWN for what the methods answer; rows on them -/
def b2i (b : Bool) : Int32 := if b then 1 else 0
theorem nar_b2i (b : Bool) : narrow .boolean (.int (b2i b)) = .int (b2i b) := by cases b <;> decide +kernel
theorem b2i_eq0 (b : Bool) : b2i b = 0 ↔ b = false := by cases b <;> decide
theorem b2i_t : b2i true = 1 := rfl
theorem b2i_f : b2i false = 0 := rfl
section KD
variable {p : Program} {l : Launch} {e : Env} {R : Room} {s : State} {m : MethodId} {args : Array Value} {below : List Frame} {meth : Method} {c : Code} {H : Heap} {locs : List Loc} {cells slots : Nat} {Q : State → Prop}
  {cc : ByteArray} {rest : List Value} {pc : Nat} {ls : Array Slot}
theorem kIfEqB {b : Bool} (hexec : p.tables.exec = Jvm.exec) (hb : c.code = cc) {off : Int} {tgt : Nat} (hdg : decode cc pc = .ok (.ifCond .eq off, 3)) (ht : (pc : Int) + off = (tgt : Int))
    (kt : b = false → W p l e R s m args below meth c H locs cells slots Q (F0 m tgt ls rest)) (kf : b = true → W p l e R s m args below meth c H locs cells slots Q (F0 m (pc + 3) ls rest)) : W p l e R s m args below meth c H locs cells slots Q (F0 m pc ls (.int (b2i b) :: rest)) :=
  lv_if_eq hexec hb hdg ht (fun h => kt ((b2i_eq0 b).mp h)) (fun h => kf (by cases b <;> simp_all [b2i]))
theorem kIfNeB {b : Bool} (hexec : p.tables.exec = Jvm.exec) (hb : c.code = cc) {off : Int} {tgt : Nat} (hdg : decode cc pc = .ok (.ifCond .ne off, 3)) (ht : (pc : Int) + off = (tgt : Int))
    (kt : b = true → W p l e R s m args below meth c H locs cells slots Q (F0 m tgt ls rest)) (kf : b = false → W p l e R s m args below meth c H locs cells slots Q (F0 m (pc + 3) ls rest)) : W p l e R s m args below meth c H locs cells slots Q (F0 m pc ls (.int (b2i b) :: rest)) :=
  lv_if_ne hexec hb hdg ht (fun h => kt (by cases b <;> simp_all [b2i])) (fun h => kf ((b2i_eq0 b).mp h))
end KD
theorem kSw3 {x : Int32} (h0 : ¬ x = 0) (h1 : ¬ x = 1) (h2 : ¬ x = 2) : x.toInt < 0 ∨ 2 < x.toInt := by
  have a0 : x.toInt ≠ 0 := fun h => h0 (Int32.toInt.inj (by rw [h]; rfl))
  have a1 : x.toInt ≠ 1 := fun h => h1 (Int32.toInt.inj (by rw [h]; rfl))
  have a2 : x.toInt ≠ 2 := fun h => h2 (Int32.toInt.inj (by rw [h]; rfl))
  omega
theorem kSw5 {x : Int32} (h0 : ¬ x = 0) (h1 : ¬ x = 1) (h2 : ¬ x = 2) (h3 : ¬ x = 3) (h4 : ¬ x = 4) : x.toInt < 0 ∨ 4 < x.toInt := by
  have a3 : x.toInt ≠ 3 := fun h => h3 (Int32.toInt.inj (by rw [h]; rfl))
  have a4 : x.toInt ≠ 4 := fun h => h4 (Int32.toInt.inj (by rw [h]; rfl))
  have := kSw3 h0 h1 h2
  omega
def sUshr (x y : Int32) : Int32 := (x.toUInt32 >>> (y.toUInt32 &&& Int32.toUInt32 31)).toInt32
def sumI (f : Nat → Int32) : Nat → Int32
  | 0 => 0
  | n + 1 => sumI f n + f n
def mapN (f : Nat → Int32 → Int32) (B : Nat → Int32) (i : Nat) : Nat → Int32 := fun k => if k < i then f k (B k) else B k
theorem mapN_0 (f : Nat → Int32 → Int32) (B : Nat → Int32) : mapN f B 0 = B := by funext k; simp [mapN]
theorem mapN_at (f : Nat → Int32 → Int32) (B : Nat → Int32) (i : Nat) : mapN f B i i = B i := by simp [mapN]
theorem mapN_s (f : Nat → Int32 → Int32) (B : Nat → Int32) (i : Nat) : upd (mapN f B i) i (f i (B i)) = mapN f B (i + 1) := by
  funext k
  unfold upd mapN
  by_cases h : k = i
  · subst h; simp
  · have h2 : k < i + 1 ↔ k < i := by omega
    simp [h, h2]
def midF (w : Nat) : UInt64 := FP.ddiv (FP.i2d (nI w - 1)) 4611686018427387904
/-! the picture -/
def hasB (w h : Nat) (x y : Int32) : Bool := if x < 0 then false else if nI w ≤ x then false else if y < 0 then false else if nI h ≤ y then false else true
def rowF (B : Nat → Int32) (y : Int32) : Int32 := if y < 0 then 0 else if nI 24 ≤ y then 0 else B y.toNatClampNeg
def setF (B : Nat → Int32) (y v : Int32) : Nat → Int32 := if y < 0 then B else if nI 24 ≤ y then B else upd B y.toNatClampNeg v
theorem rowF_nI (B : Nat → Int32) {i : Nat} (h : i < 24) : rowF B (nI i) = B i := by
  unfold rowF
  rw [if_neg (nI_pos (by omega)), if_neg (nI_ge h (by omega)), nI_clamp (by omega)]
theorem setF_nI (B : Nat → Int32) (v : Int32) {i : Nat} (h : i < 24) : setF B (nI i) v = upd B i v := by
  unfold setF
  rw [if_neg (nI_pos (by omega)), if_neg (nI_ge h (by omega)), nI_clamp (by omega)]
def isOnB (w h : Nat) (B : Nat → Int32) (x y : Int32) : Bool := if hasB w h x y = true then (if sUshr (rowF B y) x &&& 1 = 0 then false else true) else false
def bitsOfF (k : Int32) : Int32 := 1 <<< (k &&& 31) - 1
theorem vp_in_24 {y : Int32} (h0 : ¬ y < 0) (h1 : ¬ nI 24 ≤ y) : vp_in y 24 := by
  rcases pk_ix y (n := 24) (by omega) with h | h | ⟨j, hj, rfl⟩
  · exact absurd h h0
  · exact absurd h h1
  · exact vp_in_nI hj (by omega)
def pc1 (x : Int32) : Int32 := x - (sUshr x 1 &&& 1431655765)
def pc2 (x : Int32) : Int32 := (x &&& 858993459) + (sUshr x 2 &&& 858993459)
def pc3 (x : Int32) : Int32 := (x + sUshr x 4) &&& 252645135
def pc4 (x : Int32) : Int32 := x + sUshr x 8
def pc5 (x : Int32) : Int32 := x + sUshr x 16
def popc (x : Int32) : Int32 := pc5 (pc4 (pc3 (pc2 (pc1 x)))) &&& 63
def endsF (r : Int32) : Int32 := r &&& (sUshr r 1 ^^^ (-1))
def floorF (x y : Int32) : Int32 := if 0 ≤ x ^^^ y then x - x / y * y else if x - x / y * y = 0 then x - x / y * y else (x - x / y * y) + y
def wrapF (x y : Int32) : Int32 := if 1 ≤ y then floorF x y else 0
def movF (w : Nat) (r b : Int32) : Int32 := ((r <<< (wrapF b (nI w) &&& 31)) ||| sUshr r (nI w - wrapF b (nI w))) &&& bitsOfF (nI w)
def minF (x y : Int32) : Int32 := if y < x then y else x
def reachF (w : Nat) (x n : Int32) : Int32 := bitsOfF (minF n (nI w - x)) <<< (x &&& 31)
def paintF (on : Int32) (b r : Int32) : Int32 := if on = 0 then b &&& (r ^^^ (-1)) else b ||| r
def fillOk (w h : Nat) (x y n : Int32) : Bool := if hasB w h x y = false then false else if 1 ≤ n then true else false
def fillN (w h : Nat) (B : Nat → Int32) (x y n on : Int32) : Int32 := if fillOk w h x y n = false then 0 else popc (rowF B y ^^^ paintF on (rowF B y) (reachF w x n))
def fillB (w h : Nat) (B : Nat → Int32) (x y n on : Int32) : Nat → Int32 := if fillOk w h x y n = false then B else setF B y (paintF on (rowF B y) (reachF w x n))
def cntOn (B : Nat → Int32) (h : Nat) : Int32 := sumI (fun y => popc (B y)) h
def cntEnds (B : Nat → Int32) (h : Nat) : Int32 := sumI (fun y => popc (endsF (B y))) h
theorem hs_J6_bitCount_0f7a4 : yJ6_bitCount_0f7a4.cls ≠ "java/lang/invoke/MethodHandle" ∧ yJ6_bitCount_0f7a4.cls ≠ "java/lang/invoke/VarHandle" ∧ (parseMethodDescriptor yJ6_bitCount_0f7a4.desc).map (fun d => d.parameters.length) = some 1 := by decide +kernel
theorem hs_J9_floorMod_7cf53 : yJ9_floorMod_7cf53.cls ≠ "java/lang/invoke/MethodHandle" ∧ yJ9_floorMod_7cf53.cls ≠ "java/lang/invoke/VarHandle" ∧ (parseMethodDescriptor yJ9_floorMod_7cf53.desc).map (fun d => d.parameters.length) = some 2 := by decide +kernel
theorem hs_L_angle : yL_angle.cls ≠ "java/lang/invoke/MethodHandle" ∧ yL_angle.cls ≠ "java/lang/invoke/VarHandle" ∧ (parseMethodDescriptor yL_angle.desc).map (fun d => d.parameters.length) = some 3 := by decide +kernel
theorem hs_L_at : yL_at.cls ≠ "java/lang/invoke/MethodHandle" ∧ yL_at.cls ≠ "java/lang/invoke/VarHandle" ∧ (parseMethodDescriptor yL_at.desc).map (fun d => d.parameters.length) = some 4 := by decide +kernel
theorem hs_L_band : yL_band.cls ≠ "java/lang/invoke/MethodHandle" ∧ yL_band.cls ≠ "java/lang/invoke/VarHandle" ∧ (parseMethodDescriptor yL_band.desc).map (fun d => d.parameters.length) = some 4 := by decide +kernel
theorem hs_L_cell : yL_cell.cls ≠ "java/lang/invoke/MethodHandle" ∧ yL_cell.cls ≠ "java/lang/invoke/VarHandle" ∧ (parseMethodDescriptor yL_cell.desc).map (fun d => d.parameters.length) = some 2 := by decide +kernel
theorem hs_L_crop : yL_crop.cls ≠ "java/lang/invoke/MethodHandle" ∧ yL_crop.cls ≠ "java/lang/invoke/VarHandle" ∧ (parseMethodDescriptor yL_crop.desc).map (fun d => d.parameters.length) = some 3 := by decide +kernel
theorem hs_L_line : yL_line.cls ≠ "java/lang/invoke/MethodHandle" ∧ yL_line.cls ≠ "java/lang/invoke/VarHandle" ∧ (parseMethodDescriptor yL_line.desc).map (fun d => d.parameters.length) = some 4 := by decide +kernel
theorem hs_L_mean : yL_mean.cls ≠ "java/lang/invoke/MethodHandle" ∧ yL_mean.cls ≠ "java/lang/invoke/VarHandle" ∧ (parseMethodDescriptor yL_mean.desc).map (fun d => d.parameters.length) = some 2 := by decide +kernel
theorem hs_L_put : yL_put.cls ≠ "java/lang/invoke/MethodHandle" ∧ yL_put.cls ≠ "java/lang/invoke/VarHandle" ∧ (parseMethodDescriptor yL_put.desc).map (fun d => d.parameters.length) = some 6 := by decide +kernel
theorem hs_L_size : yL_size.cls ≠ "java/lang/invoke/MethodHandle" ∧ yL_size.cls ≠ "java/lang/invoke/VarHandle" ∧ (parseMethodDescriptor yL_size.desc).map (fun d => d.parameters.length) = some 3 := by decide +kernel
theorem hs_L_sum : yL_sum.cls ≠ "java/lang/invoke/MethodHandle" ∧ yL_sum.cls ≠ "java/lang/invoke/VarHandle" ∧ (parseMethodDescriptor yL_sum.desc).map (fun d => d.parameters.length) = some 3 := by decide +kernel
theorem hs_L_sure : yL_sure.cls ≠ "java/lang/invoke/MethodHandle" ∧ yL_sure.cls ≠ "java/lang/invoke/VarHandle" ∧ (parseMethodDescriptor yL_sure.desc).map (fun d => d.parameters.length) = some 2 := by decide +kernel
theorem hs_L_turn : yL_turn.cls ≠ "java/lang/invoke/MethodHandle" ∧ yL_turn.cls ≠ "java/lang/invoke/VarHandle" ∧ (parseMethodDescriptor yL_turn.desc).map (fun d => d.parameters.length) = some 4 := by decide +kernel
theorem hs_X0_bitsOf : yX0_bitsOf.cls ≠ "java/lang/invoke/MethodHandle" ∧ yX0_bitsOf.cls ≠ "java/lang/invoke/VarHandle" ∧ (parseMethodDescriptor yX0_bitsOf.desc).map (fun d => d.parameters.length) = some 1 := by decide +kernel
theorem hd_X0_fill : yX0_fill.cls = RX0 ∧ yX0_fill.cls ≠ "java/lang/invoke/MethodHandle" ∧ yX0_fill.cls ≠ "java/lang/invoke/VarHandle" ∧ (parseMethodDescriptor yX0_fill.desc).map (fun d => d.parameters.length) = some 4 := by decide +kernel
theorem hd_X0_has : yX0_has.cls = RX0 ∧ yX0_has.cls ≠ "java/lang/invoke/MethodHandle" ∧ yX0_has.cls ≠ "java/lang/invoke/VarHandle" ∧ (parseMethodDescriptor yX0_has.desc).map (fun d => d.parameters.length) = some 2 := by decide +kernel
theorem hd_X0_isOn : yX0_isOn.cls = RX0 ∧ yX0_isOn.cls ≠ "java/lang/invoke/MethodHandle" ∧ yX0_isOn.cls ≠ "java/lang/invoke/VarHandle" ∧ (parseMethodDescriptor yX0_isOn.desc).map (fun d => d.parameters.length) = some 2 := by decide +kernel
theorem hd_X0_keepOldBits : yX0_keepOldBits.cls = RX0 ∧ yX0_keepOldBits.cls ≠ "java/lang/invoke/MethodHandle" ∧ yX0_keepOldBits.cls ≠ "java/lang/invoke/VarHandle" ∧ (parseMethodDescriptor yX0_keepOldBits.desc).map (fun d => d.parameters.length) = some 0 := by decide +kernel
theorem hd_X0_movedRight : yX0_movedRight.cls = RX0 ∧ yX0_movedRight.cls ≠ "java/lang/invoke/MethodHandle" ∧ yX0_movedRight.cls ≠ "java/lang/invoke/VarHandle" ∧ (parseMethodDescriptor yX0_movedRight.desc).map (fun d => d.parameters.length) = some 2 := by decide +kernel
theorem hd_X0_oldRowBits : yX0_oldRowBits.cls = RX0 ∧ yX0_oldRowBits.cls ≠ "java/lang/invoke/MethodHandle" ∧ yX0_oldRowBits.cls ≠ "java/lang/invoke/VarHandle" ∧ (parseMethodDescriptor yX0_oldRowBits.desc).map (fun d => d.parameters.length) = some 1 := by decide +kernel
theorem hd_X0_rowBits : yX0_rowBits.cls = RX0 ∧ yX0_rowBits.cls ≠ "java/lang/invoke/MethodHandle" ∧ yX0_rowBits.cls ≠ "java/lang/invoke/VarHandle" ∧ (parseMethodDescriptor yX0_rowBits.desc).map (fun d => d.parameters.length) = some 1 := by decide +kernel
theorem hd_X0_runEndBits : yX0_runEndBits.cls = RX0 ∧ yX0_runEndBits.cls ≠ "java/lang/invoke/MethodHandle" ∧ yX0_runEndBits.cls ≠ "java/lang/invoke/VarHandle" ∧ (parseMethodDescriptor yX0_runEndBits.desc).map (fun d => d.parameters.length) = some 1 := by decide +kernel
theorem hd_X0_runEnds : yX0_runEnds.cls = RX0 ∧ yX0_runEnds.cls ≠ "java/lang/invoke/MethodHandle" ∧ yX0_runEnds.cls ≠ "java/lang/invoke/VarHandle" ∧ (parseMethodDescriptor yX0_runEnds.desc).map (fun d => d.parameters.length) = some 0 := by decide +kernel
theorem hd_X0_sampledRow : yX0_sampledRow.cls = RX0 ∧ yX0_sampledRow.cls ≠ "java/lang/invoke/MethodHandle" ∧ yX0_sampledRow.cls ≠ "java/lang/invoke/VarHandle" ∧ (parseMethodDescriptor yX0_sampledRow.desc).map (fun d => d.parameters.length) = some 3 := by decide +kernel
theorem hd_X0_samplesOn : yX0_samplesOn.cls = RX0 ∧ yX0_samplesOn.cls ≠ "java/lang/invoke/MethodHandle" ∧ yX0_samplesOn.cls ≠ "java/lang/invoke/VarHandle" ∧ (parseMethodDescriptor yX0_samplesOn.desc).map (fun d => d.parameters.length) = some 0 := by decide +kernel
theorem hd_X0_setRowBits : yX0_setRowBits.cls = RX0 ∧ yX0_setRowBits.cls ≠ "java/lang/invoke/MethodHandle" ∧ yX0_setRowBits.cls ≠ "java/lang/invoke/VarHandle" ∧ (parseMethodDescriptor yX0_setRowBits.desc).map (fun d => d.parameters.length) = some 2 := by decide +kernel
theorem hd_X0_shearAll : yX0_shearAll.cls = RX0 ∧ yX0_shearAll.cls ≠ "java/lang/invoke/MethodHandle" ∧ yX0_shearAll.cls ≠ "java/lang/invoke/VarHandle" ∧ (parseMethodDescriptor yX0_shearAll.desc).map (fun d => d.parameters.length) = some 2 := by decide +kernel
theorem hd_X0_shearColumns : yX0_shearColumns.cls = RX0 ∧ yX0_shearColumns.cls ≠ "java/lang/invoke/MethodHandle" ∧ yX0_shearColumns.cls ≠ "java/lang/invoke/VarHandle" ∧ (parseMethodDescriptor yX0_shearColumns.desc).map (fun d => d.parameters.length) = some 2 := by decide +kernel
theorem hd_X0_shearRows : yX0_shearRows.cls = RX0 ∧ yX0_shearRows.cls ≠ "java/lang/invoke/MethodHandle" ∧ yX0_shearRows.cls ≠ "java/lang/invoke/VarHandle" ∧ (parseMethodDescriptor yX0_shearRows.desc).map (fun d => d.parameters.length) = some 2 := by decide +kernel
theorem hd_X0_turnBackByShears : yX0_turnBackByShears.cls = RX0 ∧ yX0_turnBackByShears.cls ≠ "java/lang/invoke/MethodHandle" ∧ yX0_turnBackByShears.cls ≠ "java/lang/invoke/VarHandle" ∧ (parseMethodDescriptor yX0_turnBackByShears.desc).map (fun d => d.parameters.length) = some 1 := by decide +kernel
theorem hd_X0_turnBySampling : yX0_turnBySampling.cls = RX0 ∧ yX0_turnBySampling.cls ≠ "java/lang/invoke/MethodHandle" ∧ yX0_turnBySampling.cls ≠ "java/lang/invoke/VarHandle" ∧ (parseMethodDescriptor yX0_turnBySampling.desc).map (fun d => d.parameters.length) = some 1 := by decide +kernel
theorem hd_X0_turnByShears : yX0_turnByShears.cls = RX0 ∧ yX0_turnByShears.cls ≠ "java/lang/invoke/MethodHandle" ∧ yX0_turnByShears.cls ≠ "java/lang/invoke/VarHandle" ∧ (parseMethodDescriptor yX0_turnByShears.desc).map (fun d => d.parameters.length) = some 1 := by decide +kernel
theorem hd_X0_wipe : yX0_wipe.cls = RX0 ∧ yX0_wipe.cls ≠ "java/lang/invoke/MethodHandle" ∧ yX0_wipe.cls ≠ "java/lang/invoke/VarHandle" ∧ (parseMethodDescriptor yX0_wipe.desc).map (fun d => d.parameters.length) = some 0 := by decide +kernel
theorem hs_X1_cosine : yX1_cosine.cls ≠ "java/lang/invoke/MethodHandle" ∧ yX1_cosine.cls ≠ "java/lang/invoke/VarHandle" ∧ (parseMethodDescriptor yX1_cosine.desc).map (fun d => d.parameters.length) = some 1 := by decide +kernel
theorem hs_X1_radians : yX1_radians.cls ≠ "java/lang/invoke/MethodHandle" ∧ yX1_radians.cls ≠ "java/lang/invoke/VarHandle" ∧ (parseMethodDescriptor yX1_radians.desc).map (fun d => d.parameters.length) = some 1 := by decide +kernel
theorem hs_X1_sine : yX1_sine.cls ≠ "java/lang/invoke/MethodHandle" ∧ yX1_sine.cls ≠ "java/lang/invoke/VarHandle" ∧ (parseMethodDescriptor yX1_sine.desc).map (fun d => d.parameters.length) = some 1 := by decide +kernel
theorem hs_X1_slope : yX1_slope.cls ≠ "java/lang/invoke/MethodHandle" ∧ yX1_slope.cls ≠ "java/lang/invoke/VarHandle" ∧ (parseMethodDescriptor yX1_slope.desc).map (fun d => d.parameters.length) = some 1 := by decide +kernel
theorem hs_X1_whole : yX1_whole.cls ≠ "java/lang/invoke/MethodHandle" ∧ yX1_whole.cls ≠ "java/lang/invoke/VarHandle" ∧ (parseMethodDescriptor yX1_whole.desc).map (fun d => d.parameters.length) = some 1 := by decide +kernel
theorem hs_X1_wrapped : yX1_wrapped.cls ≠ "java/lang/invoke/MethodHandle" ∧ yX1_wrapped.cls ≠ "java/lang/invoke/VarHandle" ∧ (parseMethodDescriptor yX1_wrapped.desc).map (fun d => d.parameters.length) = some 2 := by decide +kernel
theorem hd_X2_bandCount : yX2_bandCount.cls = RX2 ∧ yX2_bandCount.cls ≠ "java/lang/invoke/MethodHandle" ∧ yX2_bandCount.cls ≠ "java/lang/invoke/VarHandle" ∧ (parseMethodDescriptor yX2_bandCount.desc).map (fun d => d.parameters.length) = some 0 := by decide +kernel
theorem hd_X2_baseLineAt : yX2_baseLineAt.cls = RX2 ∧ yX2_baseLineAt.cls ≠ "java/lang/invoke/MethodHandle" ∧ yX2_baseLineAt.cls ≠ "java/lang/invoke/VarHandle" ∧ (parseMethodDescriptor yX2_baseLineAt.desc).map (fun d => d.parameters.length) = some 2 := by decide +kernel
theorem hd_X2_beginsBand : yX2_beginsBand.cls = RX2 ∧ yX2_beginsBand.cls ≠ "java/lang/invoke/MethodHandle" ∧ yX2_beginsBand.cls ≠ "java/lang/invoke/VarHandle" ∧ (parseMethodDescriptor yX2_beginsBand.desc).map (fun d => d.parameters.length) = some 1 := by decide +kernel
theorem hd_X2_behindBand : yX2_behindBand.cls = RX2 ∧ yX2_behindBand.cls ≠ "java/lang/invoke/MethodHandle" ∧ yX2_behindBand.cls ≠ "java/lang/invoke/VarHandle" ∧ (parseMethodDescriptor yX2_behindBand.desc).map (fun d => d.parameters.length) = some 1 := by decide +kernel
theorem hd_X2_firstOfBand : yX2_firstOfBand.cls = RX2 ∧ yX2_firstOfBand.cls ≠ "java/lang/invoke/MethodHandle" ∧ yX2_firstOfBand.cls ≠ "java/lang/invoke/VarHandle" ∧ (parseMethodDescriptor yX2_firstOfBand.desc).map (fun d => d.parameters.length) = some 1 := by decide +kernel
theorem hd_X2_lowerMinusUpper : yX2_lowerMinusUpper.cls = RX2 ∧ yX2_lowerMinusUpper.cls ≠ "java/lang/invoke/MethodHandle" ∧ yX2_lowerMinusUpper.cls ≠ "java/lang/invoke/VarHandle" ∧ (parseMethodDescriptor yX2_lowerMinusUpper.desc).map (fun d => d.parameters.length) = some 0 := by decide +kernel
theorem hd_X2_lowestOn : yX2_lowestOn.cls = RX2 ∧ yX2_lowestOn.cls ≠ "java/lang/invoke/MethodHandle" ∧ yX2_lowestOn.cls ≠ "java/lang/invoke/VarHandle" ∧ (parseMethodDescriptor yX2_lowestOn.desc).map (fun d => d.parameters.length) = some 3 := by decide +kernel
theorem hd_X2_samplesBetween : yX2_samplesBetween.cls = RX2 ∧ yX2_samplesBetween.cls ≠ "java/lang/invoke/MethodHandle" ∧ yX2_samplesBetween.cls ≠ "java/lang/invoke/VarHandle" ∧ (parseMethodDescriptor yX2_samplesBetween.desc).map (fun d => d.parameters.length) = some 2 := by decide +kernel
theorem hd_X3_countEnds : yX3_countEnds.cls = RX3 ∧ yX3_countEnds.cls ≠ "java/lang/invoke/MethodHandle" ∧ yX3_countEnds.cls ≠ "java/lang/invoke/VarHandle" ∧ (parseMethodDescriptor yX3_countEnds.desc).map (fun d => d.parameters.length) = some 1 := by decide +kernel
theorem hd_X3_countOnLine : yX3_countOnLine.cls = RX3 ∧ yX3_countOnLine.cls ≠ "java/lang/invoke/MethodHandle" ∧ yX3_countOnLine.cls ≠ "java/lang/invoke/VarHandle" ∧ (parseMethodDescriptor yX3_countOnLine.desc).map (fun d => d.parameters.length) = some 1 := by decide +kernel
theorem hd_X3_find : yX3_find.cls = RX3 ∧ yX3_find.cls ≠ "java/lang/invoke/MethodHandle" ∧ yX3_find.cls ≠ "java/lang/invoke/VarHandle" ∧ (parseMethodDescriptor yX3_find.desc).map (fun d => d.parameters.length) = some 1 := by decide +kernel
theorem hd_X3_forget : yX3_forget.cls = RX3 ∧ yX3_forget.cls ≠ "java/lang/invoke/MethodHandle" ∧ yX3_forget.cls ≠ "java/lang/invoke/VarHandle" ∧ (parseMethodDescriptor yX3_forget.desc).map (fun d => d.parameters.length) = some 0 := by decide +kernel
theorem hd_X3_isAsked : yX3_isAsked.cls = RX3 ∧ yX3_isAsked.cls ≠ "java/lang/invoke/MethodHandle" ∧ yX3_isAsked.cls ≠ "java/lang/invoke/VarHandle" ∧ (parseMethodDescriptor yX3_isAsked.desc).map (fun d => d.parameters.length) = some 0 := by decide +kernel
theorem hd_X3_isSure : yX3_isSure.cls = RX3 ∧ yX3_isSure.cls ≠ "java/lang/invoke/MethodHandle" ∧ yX3_isSure.cls ≠ "java/lang/invoke/VarHandle" ∧ (parseMethodDescriptor yX3_isSure.desc).map (fun d => d.parameters.length) = some 0 := by decide +kernel
theorem hd_X3_meanOfGrid : yX3_meanOfGrid.cls = RX3 ∧ yX3_meanOfGrid.cls ≠ "java/lang/invoke/MethodHandle" ∧ yX3_meanOfGrid.cls ≠ "java/lang/invoke/VarHandle" ∧ (parseMethodDescriptor yX3_meanOfGrid.desc).map (fun d => d.parameters.length) = some 0 := by decide +kernel
theorem hd_X3_squaresOfCounts : yX3_squaresOfCounts.cls = RX3 ∧ yX3_squaresOfCounts.cls ≠ "java/lang/invoke/MethodHandle" ∧ yX3_squaresOfCounts.cls ≠ "java/lang/invoke/VarHandle" ∧ (parseMethodDescriptor yX3_squaresOfCounts.desc).map (fun d => d.parameters.length) = some 0 := by decide +kernel
theorem hd_X3_sumAt : yX3_sumAt.cls = RX3 ∧ yX3_sumAt.cls ≠ "java/lang/invoke/MethodHandle" ∧ yX3_sumAt.cls ≠ "java/lang/invoke/VarHandle" ∧ (parseMethodDescriptor yX3_sumAt.desc).map (fun d => d.parameters.length) = some 1 := by decide +kernel
theorem hd_X3_take : yX3_take.cls = RX3 ∧ yX3_take.cls ≠ "java/lang/invoke/MethodHandle" ∧ yX3_take.cls ≠ "java/lang/invoke/VarHandle" ∧ (parseMethodDescriptor yX3_take.desc).map (fun d => d.parameters.length) = some 2 := by decide +kernel
theorem hd_X3_tryBeside : yX3_tryBeside.cls = RX3 ∧ yX3_tryBeside.cls ≠ "java/lang/invoke/MethodHandle" ∧ yX3_tryBeside.cls ≠ "java/lang/invoke/VarHandle" ∧ (parseMethodDescriptor yX3_tryBeside.desc).map (fun d => d.parameters.length) = some 2 := by decide +kernel
theorem hd_X3_tryGrid : yX3_tryGrid.cls = RX3 ∧ yX3_tryGrid.cls ≠ "java/lang/invoke/MethodHandle" ∧ yX3_tryGrid.cls ≠ "java/lang/invoke/VarHandle" ∧ (parseMethodDescriptor yX3_tryGrid.desc).map (fun d => d.parameters.length) = some 1 := by decide +kernel
theorem hd_X4_columnIsEmpty : yX4_columnIsEmpty.cls = RX4 ∧ yX4_columnIsEmpty.cls ≠ "java/lang/invoke/MethodHandle" ∧ yX4_columnIsEmpty.cls ≠ "java/lang/invoke/VarHandle" ∧ (parseMethodDescriptor yX4_columnIsEmpty.desc).map (fun d => d.parameters.length) = some 1 := by decide +kernel
theorem hd_X4_cropAt : yX4_cropAt.cls = RX4 ∧ yX4_cropAt.cls ≠ "java/lang/invoke/MethodHandle" ∧ yX4_cropAt.cls ≠ "java/lang/invoke/VarHandle" ∧ (parseMethodDescriptor yX4_cropAt.desc).map (fun d => d.parameters.length) = some 1 := by decide +kernel
theorem hd_X4_cropLeft : yX4_cropLeft.cls = RX4 ∧ yX4_cropLeft.cls ≠ "java/lang/invoke/MethodHandle" ∧ yX4_cropLeft.cls ≠ "java/lang/invoke/VarHandle" ∧ (parseMethodDescriptor yX4_cropLeft.desc).map (fun d => d.parameters.length) = some 0 := by decide +kernel
theorem hd_X4_cropLower : yX4_cropLower.cls = RX4 ∧ yX4_cropLower.cls ≠ "java/lang/invoke/MethodHandle" ∧ yX4_cropLower.cls ≠ "java/lang/invoke/VarHandle" ∧ (parseMethodDescriptor yX4_cropLower.desc).map (fun d => d.parameters.length) = some 0 := by decide +kernel
theorem hd_X4_cropRight : yX4_cropRight.cls = RX4 ∧ yX4_cropRight.cls ≠ "java/lang/invoke/MethodHandle" ∧ yX4_cropRight.cls ≠ "java/lang/invoke/VarHandle" ∧ (parseMethodDescriptor yX4_cropRight.desc).map (fun d => d.parameters.length) = some 0 := by decide +kernel
theorem hd_X4_cropUpper : yX4_cropUpper.cls = RX4 ∧ yX4_cropUpper.cls ≠ "java/lang/invoke/MethodHandle" ∧ yX4_cropUpper.cls ≠ "java/lang/invoke/VarHandle" ∧ (parseMethodDescriptor yX4_cropUpper.desc).map (fun d => d.parameters.length) = some 0 := by decide +kernel
theorem hd_X4_end : yX4_end.cls = RX4 ∧ yX4_end.cls ≠ "java/lang/invoke/MethodHandle" ∧ yX4_end.cls ≠ "java/lang/invoke/VarHandle" ∧ (parseMethodDescriptor yX4_end.desc).map (fun d => d.parameters.length) = some 1 := by decide +kernel
theorem hd_X4_open : yX4_open.cls = RX4 ∧ yX4_open.cls ≠ "java/lang/invoke/MethodHandle" ∧ yX4_open.cls ≠ "java/lang/invoke/VarHandle" ∧ (parseMethodDescriptor yX4_open.desc).map (fun d => d.parameters.length) = some 0 := by decide +kernel
theorem hd_X5_angle : yX5_angle.cls = RX5 ∧ yX5_angle.cls ≠ "java/lang/invoke/MethodHandle" ∧ yX5_angle.cls ≠ "java/lang/invoke/VarHandle" ∧ (parseMethodDescriptor yX5_angle.desc).map (fun d => d.parameters.length) = some 1 := by decide +kernel
theorem hd_X5_at : yX5_at.cls = RX5 ∧ yX5_at.cls ≠ "java/lang/invoke/MethodHandle" ∧ yX5_at.cls ≠ "java/lang/invoke/VarHandle" ∧ (parseMethodDescriptor yX5_at.desc).map (fun d => d.parameters.length) = some 2 := by decide +kernel
theorem hd_X5_back : yX5_back.cls = RX5 ∧ yX5_back.cls ≠ "java/lang/invoke/MethodHandle" ∧ yX5_back.cls ≠ "java/lang/invoke/VarHandle" ∧ (parseMethodDescriptor yX5_back.desc).map (fun d => d.parameters.length) = some 0 := by decide +kernel
theorem hd_X5_band : yX5_band.cls = RX5 ∧ yX5_band.cls ≠ "java/lang/invoke/MethodHandle" ∧ yX5_band.cls ≠ "java/lang/invoke/VarHandle" ∧ (parseMethodDescriptor yX5_band.desc).map (fun d => d.parameters.length) = some 2 := by decide +kernel
theorem hd_X5_bands : yX5_bands.cls = RX5 ∧ yX5_bands.cls ≠ "java/lang/invoke/MethodHandle" ∧ yX5_bands.cls ≠ "java/lang/invoke/VarHandle" ∧ (parseMethodDescriptor yX5_bands.desc).map (fun d => d.parameters.length) = some 0 := by decide +kernel
theorem hs_X5_checkAngle : yX5_checkAngle.cls ≠ "java/lang/invoke/MethodHandle" ∧ yX5_checkAngle.cls ≠ "java/lang/invoke/VarHandle" ∧ (parseMethodDescriptor yX5_checkAngle.desc).map (fun d => d.parameters.length) = some 1 := by decide +kernel
theorem hd_X5_checkAsked : yX5_checkAsked.cls = RX5 ∧ yX5_checkAsked.cls ≠ "java/lang/invoke/MethodHandle" ∧ yX5_checkAsked.cls ≠ "java/lang/invoke/VarHandle" ∧ (parseMethodDescriptor yX5_checkAsked.desc).map (fun d => d.parameters.length) = some 0 := by decide +kernel
theorem hd_X5_checkBand : yX5_checkBand.cls = RX5 ∧ yX5_checkBand.cls ≠ "java/lang/invoke/MethodHandle" ∧ yX5_checkBand.cls ≠ "java/lang/invoke/VarHandle" ∧ (parseMethodDescriptor yX5_checkBand.desc).map (fun d => d.parameters.length) = some 1 := by decide +kernel
theorem hd_X5_checkSample : yX5_checkSample.cls = RX5 ∧ yX5_checkSample.cls ≠ "java/lang/invoke/MethodHandle" ∧ yX5_checkSample.cls ≠ "java/lang/invoke/VarHandle" ∧ (parseMethodDescriptor yX5_checkSample.desc).map (fun d => d.parameters.length) = some 2 := by decide +kernel
theorem hs_X5_checkSide : yX5_checkSide.cls ≠ "java/lang/invoke/MethodHandle" ∧ yX5_checkSide.cls ≠ "java/lang/invoke/VarHandle" ∧ (parseMethodDescriptor yX5_checkSide.desc).map (fun d => d.parameters.length) = some 1 := by decide +kernel
theorem hd_X5_clear : yX5_clear.cls = RX5 ∧ yX5_clear.cls ≠ "java/lang/invoke/MethodHandle" ∧ yX5_clear.cls ≠ "java/lang/invoke/VarHandle" ∧ (parseMethodDescriptor yX5_clear.desc).map (fun d => d.parameters.length) = some 0 := by decide +kernel
theorem hd_X5_crop : yX5_crop.cls = RX5 ∧ yX5_crop.cls ≠ "java/lang/invoke/MethodHandle" ∧ yX5_crop.cls ≠ "java/lang/invoke/VarHandle" ∧ (parseMethodDescriptor yX5_crop.desc).map (fun d => d.parameters.length) = some 1 := by decide +kernel
theorem hd_X5_line : yX5_line.cls = RX5 ∧ yX5_line.cls ≠ "java/lang/invoke/MethodHandle" ∧ yX5_line.cls ≠ "java/lang/invoke/VarHandle" ∧ (parseMethodDescriptor yX5_line.desc).map (fun d => d.parameters.length) = some 2 := by decide +kernel
theorem hd_X5_mean : yX5_mean.cls = RX5 ∧ yX5_mean.cls ≠ "java/lang/invoke/MethodHandle" ∧ yX5_mean.cls ≠ "java/lang/invoke/VarHandle" ∧ (parseMethodDescriptor yX5_mean.desc).map (fun d => d.parameters.length) = some 0 := by decide +kernel
theorem hs_X5_nearestSide : yX5_nearestSide.cls ≠ "java/lang/invoke/MethodHandle" ∧ yX5_nearestSide.cls ≠ "java/lang/invoke/VarHandle" ∧ (parseMethodDescriptor yX5_nearestSide.desc).map (fun d => d.parameters.length) = some 1 := by decide +kernel
theorem hd_X5_noteChange : yX5_noteChange.cls = RX5 ∧ yX5_noteChange.cls ≠ "java/lang/invoke/MethodHandle" ∧ yX5_noteChange.cls ≠ "java/lang/invoke/VarHandle" ∧ (parseMethodDescriptor yX5_noteChange.desc).map (fun d => d.parameters.length) = some 0 := by decide +kernel
theorem hd_X5_put : yX5_put.cls = RX5 ∧ yX5_put.cls ≠ "java/lang/invoke/MethodHandle" ∧ yX5_put.cls ≠ "java/lang/invoke/VarHandle" ∧ (parseMethodDescriptor yX5_put.desc).map (fun d => d.parameters.length) = some 4 := by decide +kernel
theorem hd_X5_size : yX5_size.cls = RX5 ∧ yX5_size.cls ≠ "java/lang/invoke/MethodHandle" ∧ yX5_size.cls ≠ "java/lang/invoke/VarHandle" ∧ (parseMethodDescriptor yX5_size.desc).map (fun d => d.parameters.length) = some 1 := by decide +kernel
theorem hd_X5_sum : yX5_sum.cls = RX5 ∧ yX5_sum.cls ≠ "java/lang/invoke/MethodHandle" ∧ yX5_sum.cls ≠ "java/lang/invoke/VarHandle" ∧ (parseMethodDescriptor yX5_sum.desc).map (fun d => d.parameters.length) = some 1 := by decide +kernel
theorem hd_X5_sure : yX5_sure.cls = RX5 ∧ yX5_sure.cls ≠ "java/lang/invoke/MethodHandle" ∧ yX5_sure.cls ≠ "java/lang/invoke/VarHandle" ∧ (parseMethodDescriptor yX5_sure.desc).map (fun d => d.parameters.length) = some 0 := by decide +kernel
theorem hd_X5_told : yX5_told.cls = RX5 ∧ yX5_told.cls ≠ "java/lang/invoke/MethodHandle" ∧ yX5_told.cls ≠ "java/lang/invoke/VarHandle" ∧ (parseMethodDescriptor yX5_told.desc).map (fun d => d.parameters.length) = some 1 := by decide +kernel
theorem hd_X5_turn : yX5_turn.cls = RX5 ∧ yX5_turn.cls ≠ "java/lang/invoke/MethodHandle" ∧ yX5_turn.cls ≠ "java/lang/invoke/VarHandle" ∧ (parseMethodDescriptor yX5_turn.desc).map (fun d => d.parameters.length) = some 2 := by decide +kernel
theorem hd_X5_upside : yX5_upside.cls = RX5 ∧ yX5_upside.cls ≠ "java/lang/invoke/MethodHandle" ∧ yX5_upside.cls ≠ "java/lang/invoke/VarHandle" ∧ (parseMethodDescriptor yX5_upside.desc).map (fun d => d.parameters.length) = some 0 := by decide +kernel
theorem hd_X6_angle : yX6_angle.cls = RX6 ∧ yX6_angle.cls ≠ "java/lang/invoke/MethodHandle" ∧ yX6_angle.cls ≠ "java/lang/invoke/VarHandle" ∧ (parseMethodDescriptor yX6_angle.desc).map (fun d => d.parameters.length) = some 1 := by decide +kernel
theorem hd_X6_at : yX6_at.cls = RX6 ∧ yX6_at.cls ≠ "java/lang/invoke/MethodHandle" ∧ yX6_at.cls ≠ "java/lang/invoke/VarHandle" ∧ (parseMethodDescriptor yX6_at.desc).map (fun d => d.parameters.length) = some 2 := by decide +kernel
theorem hd_X6_back : yX6_back.cls = RX6 ∧ yX6_back.cls ≠ "java/lang/invoke/MethodHandle" ∧ yX6_back.cls ≠ "java/lang/invoke/VarHandle" ∧ (parseMethodDescriptor yX6_back.desc).map (fun d => d.parameters.length) = some 0 := by decide +kernel
theorem hd_X6_band : yX6_band.cls = RX6 ∧ yX6_band.cls ≠ "java/lang/invoke/MethodHandle" ∧ yX6_band.cls ≠ "java/lang/invoke/VarHandle" ∧ (parseMethodDescriptor yX6_band.desc).map (fun d => d.parameters.length) = some 2 := by decide +kernel
theorem hd_X6_bands : yX6_bands.cls = RX6 ∧ yX6_bands.cls ≠ "java/lang/invoke/MethodHandle" ∧ yX6_bands.cls ≠ "java/lang/invoke/VarHandle" ∧ (parseMethodDescriptor yX6_bands.desc).map (fun d => d.parameters.length) = some 0 := by decide +kernel
theorem hd_X6_change : yX6_change.cls = RX6 ∧ yX6_change.cls ≠ "java/lang/invoke/MethodHandle" ∧ yX6_change.cls ≠ "java/lang/invoke/VarHandle" ∧ (parseMethodDescriptor yX6_change.desc).map (fun d => d.parameters.length) = some 0 := by decide +kernel
theorem hd_X6_clear : yX6_clear.cls = RX6 ∧ yX6_clear.cls ≠ "java/lang/invoke/MethodHandle" ∧ yX6_clear.cls ≠ "java/lang/invoke/VarHandle" ∧ (parseMethodDescriptor yX6_clear.desc).map (fun d => d.parameters.length) = some 0 := by decide +kernel
theorem hs_X6_cosine : yX6_cosine.cls ≠ "java/lang/invoke/MethodHandle" ∧ yX6_cosine.cls ≠ "java/lang/invoke/VarHandle" ∧ (parseMethodDescriptor yX6_cosine.desc).map (fun d => d.parameters.length) = some 1 := by decide +kernel
theorem hd_X6_countEnds : yX6_countEnds.cls = RX6 ∧ yX6_countEnds.cls ≠ "java/lang/invoke/MethodHandle" ∧ yX6_countEnds.cls ≠ "java/lang/invoke/VarHandle" ∧ (parseMethodDescriptor yX6_countEnds.desc).map (fun d => d.parameters.length) = some 0 := by decide +kernel
theorem hd_X6_countOn : yX6_countOn.cls = RX6 ∧ yX6_countOn.cls ≠ "java/lang/invoke/MethodHandle" ∧ yX6_countOn.cls ≠ "java/lang/invoke/VarHandle" ∧ (parseMethodDescriptor yX6_countOn.desc).map (fun d => d.parameters.length) = some 0 := by decide +kernel
theorem hd_X6_crop : yX6_crop.cls = RX6 ∧ yX6_crop.cls ≠ "java/lang/invoke/MethodHandle" ∧ yX6_crop.cls ≠ "java/lang/invoke/VarHandle" ∧ (parseMethodDescriptor yX6_crop.desc).map (fun d => d.parameters.length) = some 1 := by decide +kernel
theorem hd_X6_forget : yX6_forget.cls = RX6 ∧ yX6_forget.cls ≠ "java/lang/invoke/MethodHandle" ∧ yX6_forget.cls ≠ "java/lang/invoke/VarHandle" ∧ (parseMethodDescriptor yX6_forget.desc).map (fun d => d.parameters.length) = some 0 := by decide +kernel
theorem hd_X6_goTo : yX6_goTo.cls = RX6 ∧ yX6_goTo.cls ≠ "java/lang/invoke/MethodHandle" ∧ yX6_goTo.cls ≠ "java/lang/invoke/VarHandle" ∧ (parseMethodDescriptor yX6_goTo.desc).map (fun d => d.parameters.length) = some 1 := by decide +kernel
theorem hd_X6_isBare : yX6_isBare.cls = RX6 ∧ yX6_isBare.cls ≠ "java/lang/invoke/MethodHandle" ∧ yX6_isBare.cls ≠ "java/lang/invoke/VarHandle" ∧ (parseMethodDescriptor yX6_isBare.desc).map (fun d => d.parameters.length) = some 2 := by decide +kernel
theorem hd_X6_isEnd : yX6_isEnd.cls = RX6 ∧ yX6_isEnd.cls ≠ "java/lang/invoke/MethodHandle" ∧ yX6_isEnd.cls ≠ "java/lang/invoke/VarHandle" ∧ (parseMethodDescriptor yX6_isEnd.desc).map (fun d => d.parameters.length) = some 2 := by decide +kernel
theorem hd_X6_isOn : yX6_isOn.cls = RX6 ∧ yX6_isOn.cls ≠ "java/lang/invoke/MethodHandle" ∧ yX6_isOn.cls ≠ "java/lang/invoke/VarHandle" ∧ (parseMethodDescriptor yX6_isOn.desc).map (fun d => d.parameters.length) = some 2 := by decide +kernel
theorem hd_X6_isSample : yX6_isSample.cls = RX6 ∧ yX6_isSample.cls ≠ "java/lang/invoke/MethodHandle" ∧ yX6_isSample.cls ≠ "java/lang/invoke/VarHandle" ∧ (parseMethodDescriptor yX6_isSample.desc).map (fun d => d.parameters.length) = some 2 := by decide +kernel
theorem hd_X6_line : yX6_line.cls = RX6 ∧ yX6_line.cls ≠ "java/lang/invoke/MethodHandle" ∧ yX6_line.cls ≠ "java/lang/invoke/VarHandle" ∧ (parseMethodDescriptor yX6_line.desc).map (fun d => d.parameters.length) = some 2 := by decide +kernel
theorem hd_X6_mean : yX6_mean.cls = RX6 ∧ yX6_mean.cls ≠ "java/lang/invoke/MethodHandle" ∧ yX6_mean.cls ≠ "java/lang/invoke/VarHandle" ∧ (parseMethodDescriptor yX6_mean.desc).map (fun d => d.parameters.length) = some 0 := by decide +kernel
theorem hd_X6_onIn : yX6_onIn.cls = RX6 ∧ yX6_onIn.cls ≠ "java/lang/invoke/MethodHandle" ∧ yX6_onIn.cls ≠ "java/lang/invoke/VarHandle" ∧ (parseMethodDescriptor yX6_onIn.desc).map (fun d => d.parameters.length) = some 2 := by decide +kernel
theorem hd_X6_put : yX6_put.cls = RX6 ∧ yX6_put.cls ≠ "java/lang/invoke/MethodHandle" ∧ yX6_put.cls ≠ "java/lang/invoke/VarHandle" ∧ (parseMethodDescriptor yX6_put.desc).map (fun d => d.parameters.length) = some 4 := by decide +kernel
theorem hs_X6_radians : yX6_radians.cls ≠ "java/lang/invoke/MethodHandle" ∧ yX6_radians.cls ≠ "java/lang/invoke/VarHandle" ∧ (parseMethodDescriptor yX6_radians.desc).map (fun d => d.parameters.length) = some 1 := by decide +kernel
theorem hd_X6_refuses : yX6_refuses.cls = RX6 ∧ yX6_refuses.cls ≠ "java/lang/invoke/MethodHandle" ∧ yX6_refuses.cls ≠ "java/lang/invoke/VarHandle" ∧ (parseMethodDescriptor yX6_refuses.desc).map (fun d => d.parameters.length) = some 1 := by decide +kernel
theorem hd_X6_sample : yX6_sample.cls = RX6 ∧ yX6_sample.cls ≠ "java/lang/invoke/MethodHandle" ∧ yX6_sample.cls ≠ "java/lang/invoke/VarHandle" ∧ (parseMethodDescriptor yX6_sample.desc).map (fun d => d.parameters.length) = some 1 := by decide +kernel
theorem hd_X6_shear : yX6_shear.cls = RX6 ∧ yX6_shear.cls ≠ "java/lang/invoke/MethodHandle" ∧ yX6_shear.cls ≠ "java/lang/invoke/VarHandle" ∧ (parseMethodDescriptor yX6_shear.desc).map (fun d => d.parameters.length) = some 2 := by decide +kernel
theorem hd_X6_shearColumns : yX6_shearColumns.cls = RX6 ∧ yX6_shearColumns.cls ≠ "java/lang/invoke/MethodHandle" ∧ yX6_shearColumns.cls ≠ "java/lang/invoke/VarHandle" ∧ (parseMethodDescriptor yX6_shearColumns.desc).map (fun d => d.parameters.length) = some 2 := by decide +kernel
theorem hd_X6_shearRows : yX6_shearRows.cls = RX6 ∧ yX6_shearRows.cls ≠ "java/lang/invoke/MethodHandle" ∧ yX6_shearRows.cls ≠ "java/lang/invoke/VarHandle" ∧ (parseMethodDescriptor yX6_shearRows.desc).map (fun d => d.parameters.length) = some 2 := by decide +kernel
theorem hs_X6_sine : yX6_sine.cls ≠ "java/lang/invoke/MethodHandle" ∧ yX6_sine.cls ≠ "java/lang/invoke/VarHandle" ∧ (parseMethodDescriptor yX6_sine.desc).map (fun d => d.parameters.length) = some 1 := by decide +kernel
theorem hd_X6_size : yX6_size.cls = RX6 ∧ yX6_size.cls ≠ "java/lang/invoke/MethodHandle" ∧ yX6_size.cls ≠ "java/lang/invoke/VarHandle" ∧ (parseMethodDescriptor yX6_size.desc).map (fun d => d.parameters.length) = some 1 := by decide +kernel
theorem hs_X6_slope : yX6_slope.cls ≠ "java/lang/invoke/MethodHandle" ∧ yX6_slope.cls ≠ "java/lang/invoke/VarHandle" ∧ (parseMethodDescriptor yX6_slope.desc).map (fun d => d.parameters.length) = some 1 := by decide +kernel
theorem hs_X6_stepOf : yX6_stepOf.cls ≠ "java/lang/invoke/MethodHandle" ∧ yX6_stepOf.cls ≠ "java/lang/invoke/VarHandle" ∧ (parseMethodDescriptor yX6_stepOf.desc).map (fun d => d.parameters.length) = some 1 := by decide +kernel
theorem hd_X6_sum : yX6_sum.cls = RX6 ∧ yX6_sum.cls ≠ "java/lang/invoke/MethodHandle" ∧ yX6_sum.cls ≠ "java/lang/invoke/VarHandle" ∧ (parseMethodDescriptor yX6_sum.desc).map (fun d => d.parameters.length) = some 1 := by decide +kernel
theorem hd_X6_sumOf : yX6_sumOf.cls = RX6 ∧ yX6_sumOf.cls ≠ "java/lang/invoke/MethodHandle" ∧ yX6_sumOf.cls ≠ "java/lang/invoke/VarHandle" ∧ (parseMethodDescriptor yX6_sumOf.desc).map (fun d => d.parameters.length) = some 1 := by decide +kernel
theorem hd_X6_sure : yX6_sure.cls = RX6 ∧ yX6_sure.cls ≠ "java/lang/invoke/MethodHandle" ∧ yX6_sure.cls ≠ "java/lang/invoke/VarHandle" ∧ (parseMethodDescriptor yX6_sure.desc).map (fun d => d.parameters.length) = some 0 := by decide +kernel
theorem hd_X6_thrown : yX6_thrown.cls = RX6 ∧ yX6_thrown.cls ≠ "java/lang/invoke/MethodHandle" ∧ yX6_thrown.cls ≠ "java/lang/invoke/VarHandle" ∧ (parseMethodDescriptor yX6_thrown.desc).map (fun d => d.parameters.length) = some 0 := by decide +kernel
theorem hd_X6_told : yX6_told.cls = RX6 ∧ yX6_told.cls ≠ "java/lang/invoke/MethodHandle" ∧ yX6_told.cls ≠ "java/lang/invoke/VarHandle" ∧ (parseMethodDescriptor yX6_told.desc).map (fun d => d.parameters.length) = some 1 := by decide +kernel
theorem hd_X6_turn : yX6_turn.cls = RX6 ∧ yX6_turn.cls ≠ "java/lang/invoke/MethodHandle" ∧ yX6_turn.cls ≠ "java/lang/invoke/VarHandle" ∧ (parseMethodDescriptor yX6_turn.desc).map (fun d => d.parameters.length) = some 2 := by decide +kernel
theorem hd_X6_upside : yX6_upside.cls = RX6 ∧ yX6_upside.cls ≠ "java/lang/invoke/MethodHandle" ∧ yX6_upside.cls ≠ "java/lang/invoke/VarHandle" ∧ (parseMethodDescriptor yX6_upside.desc).map (fun d => d.parameters.length) = some 0 := by decide +kernel
theorem hd_X6_whole : yX6_whole.cls = RX6 ∧ yX6_whole.cls ≠ "java/lang/invoke/MethodHandle" ∧ yX6_whole.cls ≠ "java/lang/invoke/VarHandle" ∧ (parseMethodDescriptor yX6_whole.desc).map (fun d => d.parameters.length) = some 0 := by decide +kernel
theorem hs_X6_wholeOf : yX6_wholeOf.cls ≠ "java/lang/invoke/MethodHandle" ∧ yX6_wholeOf.cls ≠ "java/lang/invoke/VarHandle" ∧ (parseMethodDescriptor yX6_wholeOf.desc).map (fun d => d.parameters.length) = some 1 := by decide +kernel
theorem hs_X6_within : yX6_within.cls ≠ "java/lang/invoke/MethodHandle" ∧ yX6_within.cls ≠ "java/lang/invoke/VarHandle" ∧ (parseMethodDescriptor yX6_within.desc).map (fun d => d.parameters.length) = some 2 := by decide +kernel
