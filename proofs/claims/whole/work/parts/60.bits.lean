/-! bits, counts: pasted families of kit/laws (BITS, COUNTS) -/
def bt (x : Int32) (i : Nat) : Bool := x.toBitVec.getLsbD i
theorem b_ext {x y : Int32} (h : ∀ i, i < 32 → bt x i = bt y i) : x = y := Int32.toBitVec_inj.mp (BitVec.eq_of_getLsbD_eq (fun i hi => h i hi))
theorem b_or (x y : Int32) (i : Nat) : bt (x ||| y) i = (bt x i || bt y i) := by unfold bt; rw [Int32.toBitVec_or, BitVec.getLsbD_or]
theorem b_and (x y : Int32) (i : Nat) : bt (x &&& y) i = (bt x i && bt y i) := by unfold bt; rw [Int32.toBitVec_and, BitVec.getLsbD_and]
theorem b_xor (x y : Int32) (i : Nat) : bt (x ^^^ y) i = (bt x i ^^ bt y i) := by unfold bt; rw [Int32.toBitVec_xor, BitVec.getLsbD_xor]
theorem b_big {x : Int32} {i : Nat} (h : 32 ≤ i) : bt x i = false := BitVec.getLsbD_of_ge _ _ h
theorem b_m1 : ∀ i, i < 32 → bt (-1) i = true := by decide +kernel
theorem b_0 (i : Nat) : bt 0 i = false := BitVec.getLsbD_zero
theorem s_l : ∀ n, n < 32 → ((nI n &&& 31).toBitVec.smod 32).toNat = n := by decide +kernel
theorem s_u : ∀ n, n < 32 → (((nI n).toUInt32 &&& Int32.toUInt32 31).toBitVec % 32).toNat = n := by decide +kernel
theorem b_shl (n : Nat) (hn : n < 32) (x : Int32) {i : Nat} (hi : i < 32) : bt (x <<< (nI n &&& 31)) i = (decide (n ≤ i) && bt x (i - n)) := by
  unfold bt
  rw [Int32.toBitVec_shiftLeft]
  show (x.toBitVec <<< ((nI n &&& 31).toBitVec.smod 32).toNat).getLsbD i = _
  rw [s_l n hn, BitVec.getLsbD_shiftLeft]
  rcases Nat.lt_or_ge i n with h | h
  · simp [h, Nat.not_le.mpr h]
  · simp [hi, h, Nat.not_lt.mpr h]
theorem b_ushr (n : Nat) (hn : n < 32) (x : Int32) (i : Nat) : bt ((x.toUInt32 >>> ((nI n).toUInt32 &&& Int32.toUInt32 31)).toInt32) i = bt x (n + i) := by
  show (x.toUInt32 >>> ((nI n).toUInt32 &&& Int32.toUInt32 31)).toBitVec.getLsbD i = x.toUInt32.toBitVec.getLsbD (n + i)
  rw [UInt32.toBitVec_shiftRight]
  show (x.toUInt32.toBitVec >>> (((nI n).toUInt32 &&& Int32.toUInt32 31).toBitVec % 32).toNat).getLsbD i = _
  rw [s_u n hn, BitVec.getLsbD_ushiftRight]
theorem nx_and (a b : Nat) : nI a &&& nI b = nI (a &&& b) := by
  apply Int32.toBitVec_inj.1
  show BitVec.ofNat 32 a &&& BitVec.ofNat 32 b = BitVec.ofNat 32 (a &&& b)
  apply BitVec.eq_of_getLsbD_eq
  intro i hi
  simp [hi]
def fb_ct (p : Nat → Bool) : Nat → Nat
  | 0 => 0
  | n + 1 => fb_ct p n + (if p n then 1 else 0)
theorem fb_ct_succ (p : Nat → Bool) (n : Nat) : fb_ct p (n + 1) = fb_ct p n + (if p n then 1 else 0) := rfl
theorem fb_ct_cong {p q : Nat → Bool} : ∀ {n : Nat}, (∀ k, k < n → p k = q k) → fb_ct p n = fb_ct q n
  | 0, _ => rfl
  | n + 1, h => by
    rw [fb_ct_succ, fb_ct_succ, fb_ct_cong (fun k hk => h k (by omega)), h n (by omega)]
theorem fb_ct_split (p : Nat → Bool) (m : Nat) : ∀ n, fb_ct p (m + n) = fb_ct p m + fb_ct (fun k => p (m + k)) n
  | 0 => rfl
  | n + 1 => by
    have h := fb_ct_split p m n
    show fb_ct p (m + n + 1) = _
    rw [fb_ct_succ, fb_ct_succ, h, Nat.add_assoc]
theorem fb_ct_zero {p : Nat → Bool} : ∀ {n : Nat}, fb_ct p n = 0 ↔ ∀ k, k < n → p k = false
  | 0 => ⟨fun _ k hk => absurd hk (Nat.not_lt_zero k), fun _ => rfl⟩
  | n + 1 => by
    have h := fb_ct_zero (p := p) (n := n)
    rw [fb_ct_succ]
    constructor
    · intro e k hk
      have e1 : fb_ct p n = 0 := by omega
      rcases Nat.lt_or_ge k n with q | q
      · exact h.mp e1 k q
      · have ek : k = n := by omega
        subst ek
        cases hp : p k
        · rfl
        · simp [hp] at e
    · intro a
      rw [h.mpr (fun k hk => a k (by omega)), a n (by omega)]
      rfl
def fb_sm (f : Nat → Nat) : Nat → Nat
  | 0 => 0
  | n + 1 => fb_sm f n + f n
theorem fb_sm_succ (f : Nat → Nat) (n : Nat) : fb_sm f (n + 1) = fb_sm f n + f n := rfl
theorem fb_sm_cong {f g : Nat → Nat} : ∀ {n : Nat}, (∀ k, k < n → f k = g k) → fb_sm f n = fb_sm g n
  | 0, _ => rfl
  | n + 1, h => by rw [fb_sm_succ, fb_sm_succ, fb_sm_cong (fun k hk => h k (by omega)), h n (by omega)]
theorem fb_sm_add (f g : Nat → Nat) : ∀ n, fb_sm (fun k => f k + g k) n = fb_sm f n + fb_sm g n
  | 0 => rfl
  | n + 1 => by
    have h := fb_sm_add f g n
    rw [fb_sm_succ, fb_sm_succ, fb_sm_succ, h]
    omega
theorem fb_sm_le {f g : Nat → Nat} : ∀ {n : Nat}, (∀ k, k < n → f k ≤ g k) → fb_sm f n ≤ fb_sm g n
  | 0, _ => Nat.le_refl _
  | n + 1, h => by
    have h1 := fb_sm_le (n := n) (f := f) (g := g) (fun k hk => h k (by omega))
    have h2 := h n (by omega)
    rw [fb_sm_succ, fb_sm_succ]
    omega
theorem fb_sm_split (f : Nat → Nat) (m : Nat) : ∀ n, fb_sm f (m + n) = fb_sm f m + fb_sm (fun k => f (m + k)) n
  | 0 => rfl
  | n + 1 => by
    have h := fb_sm_split f m n
    show fb_sm f (m + n + 1) = _
    rw [fb_sm_succ, fb_sm_succ, h, Nat.add_assoc]
theorem fb_rng (x : Int32) : -2147483648 ≤ x.toInt ∧ x.toInt < 2147483648 := by
  have h1 := Int32.le_toInt x
  have h2 := Int32.toInt_lt x
  omega
theorem fb_bmod {z : Int} (h1 : -2147483648 ≤ z) (h2 : z < 2147483648) : z.bmod (2 ^ 32) = z := by
  rw [Int.bmod_eq_of_le (by omega) (by omega)]
theorem fb_addI {x y : Int32} (h1 : -2147483648 ≤ x.toInt + y.toInt) (h2 : x.toInt + y.toInt < 2147483648) : (x + y).toInt = x.toInt + y.toInt := by
  rw [Int32.toInt_add, fb_bmod h1 h2]
theorem fb_subI {x y : Int32} (h1 : -2147483648 ≤ x.toInt - y.toInt) (h2 : x.toInt - y.toInt < 2147483648) : (x - y).toInt = x.toInt - y.toInt := by
  rw [Int32.toInt_sub, fb_bmod h1 h2]
theorem fb_mulI {x y : Int32} (h1 : -2147483648 ≤ x.toInt * y.toInt) (h2 : x.toInt * y.toInt < 2147483648) : (x * y).toInt = x.toInt * y.toInt := by
  rw [Int32.toInt_mul, fb_bmod h1 h2]
theorem fb_negI {x : Int32} (h : x.toInt ≠ -2147483648) : (-x).toInt = -x.toInt := by
  have := fb_rng x
  rw [Int32.toInt_neg, fb_bmod (by omega) (by omega)]
/-! counting the bits of a row -/
theorem pn_ld {s a c : Nat} (ha : a < 2 ^ s) (hc : c < 2 ^ s) (b d : Nat) : (2 ^ s * b + a) &&& (2 ^ s * d + c) = 2 ^ s * (b &&& d) + (a &&& c) := by
  apply Nat.eq_of_testBit_eq
  intro j
  rw [Nat.testBit_and, Nat.testBit_two_pow_mul_add _ ha, Nat.testBit_two_pow_mul_add _ hc, Nat.testBit_two_pow_mul_add _ (Nat.and_lt_two_pow _ hc)]
  split <;> simp [Nat.testBit_and]
theorem pn_b1 : ∀ c, c < 2 → ∀ b, b < 256 → (128 * c + b / 2) &&& 85 = (b / 2) &&& 85 := by decide +kernel
theorem pn_b2 : ∀ c, c < 4 → ∀ b, b < 256 → (64 * c + b / 4) &&& 51 = (b / 4) &&& 51 := by decide +kernel
theorem pn_b3 : ∀ c, c < 16 → ∀ b, b < 69 → (b + b / 16 + 16 * c) &&& 15 = (b + b / 16) &&& 15 := by decide +kernel
def pn_g1 (b : Nat) : Nat := b - (b / 2 &&& 85)
def pn_g2 (b : Nat) : Nat := (b &&& 51) + (b / 4 &&& 51)
def pn_g3 (b : Nat) : Nat := (b + b / 16) &&& 15
theorem pn_s1 {b q m : Nat} (hb : b < 256) : (256 * q + b) - (((256 * q + b) / 2) &&& (256 * m + 85)) = 256 * (q - (q / 2 &&& m)) + pn_g1 b := by
  have e : (256 * q + b) / 2 = 2 ^ 8 * (q / 2) + (128 * (q % 2) + b / 2) := by omega
  have h := pn_ld (s := 8) (a := 128 * (q % 2) + b / 2) (c := 85) (by omega) (by omega) (q / 2) m
  rw [e, show 256 * m + 85 = 2 ^ 8 * m + 85 from rfl, h, pn_b1 (q % 2) (by omega) b hb]
  have h1 : q / 2 &&& m ≤ q / 2 := Nat.and_le_left
  have h2 : b / 2 &&& 85 ≤ b / 2 := Nat.and_le_left
  unfold pn_g1
  omega
theorem pn_s2 {b q m : Nat} (hb : b < 256) : ((256 * q + b) &&& (256 * m + 51)) + (((256 * q + b) / 4) &&& (256 * m + 51)) = 256 * ((q &&& m) + (q / 4 &&& m)) + pn_g2 b := by
  have e : (256 * q + b) / 4 = 2 ^ 8 * (q / 4) + (64 * (q % 4) + b / 4) := by omega
  have h := pn_ld (s := 8) (a := 64 * (q % 4) + b / 4) (c := 51) (by omega) (by omega) (q / 4) m
  have h0 := pn_ld (s := 8) (a := b) (c := 51) (by omega) (by omega) q m
  rw [e, show 256 * m + 51 = 2 ^ 8 * m + 51 from rfl, show 256 * q + b = 2 ^ 8 * q + b from rfl, h, h0, pn_b2 (q % 4) (by omega) b hb]
  unfold pn_g2
  omega
theorem pn_s3 {b q m : Nat} (hb : b < 69) (hq : q % 16 ≤ 4) : ((256 * q + b) + (256 * q + b) / 16) &&& (256 * m + 15) = 256 * ((q + q / 16) &&& m) + pn_g3 b := by
  have e : (256 * q + b) + (256 * q + b) / 16 = 2 ^ 8 * (q + q / 16) + (b + b / 16 + 16 * (q % 16)) := by omega
  have h := pn_ld (s := 8) (a := b + b / 16 + 16 * (q % 16)) (c := 15) (by omega) (by omega) (q + q / 16) m
  rw [e, show 256 * m + 15 = 2 ^ 8 * m + 15 from rfl, h, pn_b3 (q % 16) (by omega) b hb]
  rfl
theorem pn_g12 : ∀ b, b < 256 → pn_g1 b < 256 ∧ pn_g2 (pn_g1 b) < 69 ∧ pn_g2 (pn_g1 b) % 16 ≤ 4 ∧ pn_g3 (pn_g2 (pn_g1 b)) = fb_ct (Nat.testBit b) 8 ∧ pn_g3 (pn_g2 (pn_g1 b)) ≤ 8 := by decide +kernel
def pn_all (n : Nat) : Nat :=
  let p := n - (n / 2 &&& 1431655765)
  let q := (p &&& 858993459) + (p / 4 &&& 858993459)
  let r := (q + q / 16) &&& 252645135
  let s := r + r / 256
  let t := s + s / 65536
  t % 64
theorem pn_bytes {b0 b1 b2 b3 : Nat} (h0 : b0 < 256) (h1 : b1 < 256) (h2 : b2 < 256) (h3 : b3 < 256) :
    pn_all (256 * (256 * (256 * b3 + b2) + b1) + b0) = fb_ct (Nat.testBit b0) 8 + fb_ct (Nat.testBit b1) 8 + fb_ct (Nat.testBit b2) 8 + fb_ct (Nat.testBit b3) 8 := by
  obtain ⟨a0, c0, d0, e0, f0⟩ := pn_g12 b0 h0
  obtain ⟨a1, c1, d1, e1, f1⟩ := pn_g12 b1 h1
  obtain ⟨a2, c2, d2, e2, f2⟩ := pn_g12 b2 h2
  obtain ⟨a3, c3, d3, e3, f3⟩ := pn_g12 b3 h3
  have p : ∀ n, n = 256 * (256 * (256 * b3 + b2) + b1) + b0 → n - (n / 2 &&& 1431655765) = 256 * (256 * (256 * pn_g1 b3 + pn_g1 b2) + pn_g1 b1) + pn_g1 b0 := by
    intro n hn
    have z3 := pn_s1 (b := b3) (q := 0) (m := 0) h3
    have z2 := pn_s1 (b := b2) (q := b3) (m := 85) h2
    have z1 := pn_s1 (b := b1) (q := 256 * b3 + b2) (m := 256 * 85 + 85) h1
    have z0 := pn_s1 (b := b0) (q := 256 * (256 * b3 + b2) + b1) (m := 256 * (256 * 85 + 85) + 85) h0
    rw [hn, show (1431655765 : Nat) = 256 * (256 * (256 * 85 + 85) + 85) + 85 from rfl, z0, z1, z2]
    simp only [Nat.mul_zero, Nat.zero_add, Nat.zero_div, Nat.zero_and, Nat.sub_zero] at z3
    rw [z3]
  unfold pn_all
  simp only []
  rw [p _ rfl]
  have q : ∀ n, n = 256 * (256 * (256 * pn_g1 b3 + pn_g1 b2) + pn_g1 b1) + pn_g1 b0 → (n &&& 858993459) + (n / 4 &&& 858993459) = 256 * (256 * (256 * pn_g2 (pn_g1 b3) + pn_g2 (pn_g1 b2)) + pn_g2 (pn_g1 b1)) + pn_g2 (pn_g1 b0) := by
    intro n hn
    have z3 := pn_s2 (b := pn_g1 b3) (q := 0) (m := 0) a3
    have z2 := pn_s2 (b := pn_g1 b2) (q := pn_g1 b3) (m := 51) a2
    have z1 := pn_s2 (b := pn_g1 b1) (q := 256 * pn_g1 b3 + pn_g1 b2) (m := 256 * 51 + 51) a1
    have z0 := pn_s2 (b := pn_g1 b0) (q := 256 * (256 * pn_g1 b3 + pn_g1 b2) + pn_g1 b1) (m := 256 * (256 * 51 + 51) + 51) a0
    rw [hn, show (858993459 : Nat) = 256 * (256 * (256 * 51 + 51) + 51) + 51 from rfl, z0, z1, z2]
    simp only [Nat.mul_zero, Nat.zero_add, Nat.zero_div, Nat.zero_and, Nat.add_zero] at z3
    rw [z3]
  rw [q _ rfl]
  have r : ∀ n, n = 256 * (256 * (256 * pn_g2 (pn_g1 b3) + pn_g2 (pn_g1 b2)) + pn_g2 (pn_g1 b1)) + pn_g2 (pn_g1 b0) → (n + n / 16) &&& 252645135 = 256 * (256 * (256 * pn_g3 (pn_g2 (pn_g1 b3)) + pn_g3 (pn_g2 (pn_g1 b2))) + pn_g3 (pn_g2 (pn_g1 b1))) + pn_g3 (pn_g2 (pn_g1 b0)) := by
    intro n hn
    have z3 := pn_s3 (b := pn_g2 (pn_g1 b3)) (q := 0) (m := 0) c3 (by omega)
    have z2 := pn_s3 (b := pn_g2 (pn_g1 b2)) (q := pn_g2 (pn_g1 b3)) (m := 15) c2 d3
    have z1 := pn_s3 (b := pn_g2 (pn_g1 b1)) (q := 256 * pn_g2 (pn_g1 b3) + pn_g2 (pn_g1 b2)) (m := 256 * 15 + 15) c1 (by omega)
    have z0 := pn_s3 (b := pn_g2 (pn_g1 b0)) (q := 256 * (256 * pn_g2 (pn_g1 b3) + pn_g2 (pn_g1 b2)) + pn_g2 (pn_g1 b1)) (m := 256 * (256 * 15 + 15) + 15) c0 (by omega)
    rw [hn, show (252645135 : Nat) = 256 * (256 * (256 * 15 + 15) + 15) + 15 from rfl, z0, z1, z2]
    simp only [Nat.mul_zero, Nat.zero_add, Nat.zero_div, Nat.zero_and] at z3
    rw [z3]
  rw [r _ rfl, e0, e1, e2, e3]
  rw [e0] at f0
  rw [e1] at f1
  rw [e2] at f2
  rw [e3] at f3
  generalize fb_ct (Nat.testBit b0) 8 = a at *
  generalize fb_ct (Nat.testBit b1) 8 = b at *
  generalize fb_ct (Nat.testBit b2) 8 = c at *
  generalize fb_ct (Nat.testBit b3) 8 = d at *
  have u1 : (256 * (256 * (256 * d + c) + b) + a) / 256 = 256 * (256 * d + c) + b := by omega
  rw [u1]
  have u2 : (256 * (256 * (256 * d + c) + b) + a + (256 * (256 * d + c) + b)) / 65536 = c + d + 256 * d := by omega
  rw [u2]
  omega
theorem pn_tb {b q i : Nat} (hb : b < 256) (hi : i < 8) : (256 * q + b).testBit i = b.testBit i := by
  rw [show 256 * q + b = 2 ^ 8 * q + b from rfl, Nat.testBit_two_pow_mul_add _ (by omega), if_pos hi]
theorem pn_tb8 {b q i : Nat} (hb : b < 256) : (256 * q + b).testBit (8 + i) = q.testBit i := by
  rw [show 256 * q + b = 2 ^ 8 * q + b from rfl, Nat.testBit_two_pow_mul_add _ (by omega), if_neg (by omega), Nat.add_sub_cancel_left]
theorem pn_ct {b q k : Nat} (hb : b < 256) : fb_ct (Nat.testBit (256 * q + b)) (8 + k) = fb_ct (Nat.testBit b) 8 + fb_ct (Nat.testBit q) k := by
  rw [fb_ct_split]
  congr 1
  · exact fb_ct_cong fun i hi => pn_tb hb hi
  · exact fb_ct_cong fun i hi => pn_tb8 hb
theorem pn_pop {n : Nat} (hn : n < 2 ^ 32) : pn_all n = fb_ct (Nat.testBit n) 32 := by
  obtain ⟨b0, b1, b2, b3, h0, h1, h2, h3, e⟩ : ∃ b0 b1 b2 b3 : Nat, b0 < 256 ∧ b1 < 256 ∧ b2 < 256 ∧ b3 < 256 ∧ n = 256 * (256 * (256 * b3 + b2) + b1) + b0 :=
    ⟨n % 256, n / 256 % 256, n / 65536 % 256, n / 16777216, by omega, by omega, by omega, by omega, by omega⟩
  rw [e, pn_bytes h0 h1 h2 h3, show (32 : Nat) = 8 + (8 + (8 + 8)) from rfl, pn_ct h0, pn_ct h1, pn_ct h2]
  omega
theorem sU_nI {n k : Nat} (hn : n < 2 ^ 32) (hk : k < 32) : sUshr (nI n) (nI k) = nI (n / 2 ^ k) := by
  apply Int32.toBitVec_inj.mp
  apply BitVec.eq_of_toNat_eq
  rw [ush_nat _ hk, pk_tn hn, pk_tn (Nat.lt_of_le_of_lt (Nat.div_le_self _ _) hn)]
theorem nI_tn (r : Int32) : nI r.toBitVec.toNat = r := Int32.toBitVec_inj.mp (BitVec.eq_of_toNat_eq (pk_tn r.toBitVec.isLt))
theorem bt_nat (r : Int32) (i : Nat) : bt r i = r.toBitVec.toNat.testBit i := rfl
theorem popc_nI {n : Nat} (hn : n < 2 ^ 32) : popc (nI n) = nI (pn_all n) := by
  have l1 : (n / 2 &&& 1431655765) ≤ n / 2 := Nat.and_le_left
  have p1 : pc1 (nI n) = nI (n - (n / 2 &&& 1431655765)) := by
    unfold pc1
    rw [show (1 : Int32) = nI 1 from rfl, sU_nI hn (by omega), show (2 : Nat) ^ 1 = 2 from rfl, show (1431655765 : Int32) = nI 1431655765 from rfl, nx_and, pk_sub (by omega)]
  obtain ⟨p, hp⟩ : ∃ p, p = n - (n / 2 &&& 1431655765) := ⟨_, rfl⟩
  have hpl : p < 2 ^ 32 := by omega
  have a1 : (p &&& 858993459) ≤ 858993459 := Nat.and_le_right
  have a2 : (p / 4 &&& 858993459) ≤ 858993459 := Nat.and_le_right
  have p2 : pc2 (nI p) = nI ((p &&& 858993459) + (p / 4 &&& 858993459)) := by
    unfold pc2
    rw [show (2 : Int32) = nI 2 from rfl, sU_nI hpl (by omega), show (858993459 : Int32) = nI 858993459 from rfl, nx_and, nx_and, nI_add]
  obtain ⟨q, hq⟩ : ∃ q, q = (p &&& 858993459) + (p / 4 &&& 858993459) := ⟨_, rfl⟩
  have hql : q < 2 ^ 31 := by omega
  have p3 : pc3 (nI q) = nI ((q + q / 16) &&& 252645135) := by
    unfold pc3
    rw [show (4 : Int32) = nI 4 from rfl, sU_nI (by omega) (by omega), show (252645135 : Int32) = nI 252645135 from rfl, nI_add, nx_and]
  obtain ⟨r, hr⟩ : ∃ r, r = (q + q / 16) &&& 252645135 := ⟨_, rfl⟩
  have a3 : (q + q / 16) &&& 252645135 ≤ 252645135 := Nat.and_le_right
  have hrl : r < 2 ^ 28 := by omega
  have p4 : pc4 (nI r) = nI (r + r / 256) := by
    unfold pc4
    rw [show (8 : Int32) = nI 8 from rfl, sU_nI (by omega) (by omega), nI_add]
  have p5 : pc5 (nI (r + r / 256)) = nI ((r + r / 256) + (r + r / 256) / 65536) := by
    unfold pc5
    rw [show (16 : Int32) = nI 16 from rfl, sU_nI (by omega) (by omega), nI_add]
  unfold popc
  rw [p1, ← hp, p2, ← hq, p3, ← hr, p4, p5, show (63 : Int32) = nI 63 from rfl, nx_and]
  have e6 : ∀ z : Nat, z &&& 63 = z % 64 := fun z => Nat.and_two_pow_sub_one_eq_mod z 6
  rw [e6]
  unfold pn_all
  simp only []
  rw [← hp, ← hq, ← hr]
theorem popc_ct (r : Int32) : popc r = nI (fb_ct (bt r) 32) := by
  have h := popc_nI r.toBitVec.isLt
  rw [nI_tn] at h
  rw [h, pn_pop r.toBitVec.isLt]
  rfl
