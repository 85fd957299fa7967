/-! THE NUMBER OF THE BITS -/
theorem a_nI {a b : Nat} (ha : a < 2 ^ 32) (hb : b < 2 ^ 32) : nI a &&& nI b = nI (a &&& b) := by
  refine Int32.toBitVec_inj.mp (BitVec.eq_of_toNat_eq ?_)
  have h : a &&& b < 2 ^ 32 := Nat.lt_of_le_of_lt Nat.and_le_left ha
  rw [Int32.toBitVec_and, BitVec.toNat_and, pk_tn ha, pk_tn hb, pk_tn h]
theorem and8 {a m : Nat} (y n : Nat) (ha : a < 256) (hm : m < 256) : (a + 256 * y) &&& (m + 256 * n) = (a &&& m) + 256 * (y &&& n) := by
  have h1 : ((a + 256 * y) &&& (m + 256 * n)) % 2 ^ 8 = ((a + 256 * y) % 2 ^ 8) &&& ((m + 256 * n) % 2 ^ 8) := Nat.and_mod_two_pow
  have h2 : ((a + 256 * y) &&& (m + 256 * n)) / 2 ^ 8 = ((a + 256 * y) / 2 ^ 8) &&& ((m + 256 * n) / 2 ^ 8) := Nat.and_div_two_pow
  rw [show (a + 256 * y) % 2 ^ 8 = a by omega, show (m + 256 * n) % 2 ^ 8 = m by omega] at h1
  rw [show (a + 256 * y) / 2 ^ 8 = y by omega, show (m + 256 * n) / 2 ^ 8 = n by omega] at h2
  rw [← h1, ← h2]
  omega
theorem and32 {a b c m k l : Nat} (d n : Nat) (ha : a < 256) (hb : b < 256) (hc : c < 256) (hm : m < 256) (hk : k < 256) (hl : l < 256) : (a + 256 * (b + 256 * (c + 256 * d))) &&& (m + 256 * (k + 256 * (l + 256 * n))) = (a &&& m) + 256 * ((b &&& k) + 256 * ((c &&& l) + 256 * (d &&& n))) := by
  rw [and8 _ _ ha hm, and8 _ _ hb hk, and8 _ _ hc hl]
def t1_ (a : Nat) : Nat := (a / 2) &&& 85
def p1_ (a : Nat) : Nat := a - t1_ a
def p2_ (x : Nat) : Nat := (x &&& 51) + ((x / 4) &&& 51)
def p3_ (x : Nat) : Nat := (x + x / 16) % 16
def pb_ (a : Nat) : Nat := p3_ (p2_ (p1_ a))
theorem k1_ : ∀ a, a < 256 → ∀ e, e < 2 → ((a / 2 + 128 * e) &&& 85) = t1_ a := by decide +kernel
theorem k1b : ∀ a, a < 256 → t1_ a ≤ a ∧ p1_ a < 256 ∧ p2_ (p1_ a) ≤ 68 ∧ p2_ (p1_ a) % 16 ≤ 4 ∧ pb_ a ≤ 8 ∧ pb_ a = cn (fun i => a.testBit i) 8 := by decide +kernel
theorem k2_ : ∀ x, x < 256 → ∀ e, e < 4 → ((x / 4 + 64 * e) &&& 51) = ((x / 4) &&& 51) := by decide +kernel
theorem k3_ : ∀ x, x < 69 → ∀ e, e < 5 → ((x + x / 16 + 16 * e) &&& 15) = p3_ x := by decide +kernel
theorem bc_n {a b c d : Nat} (ha : a < 256) (hb : b < 256) (hc : c < 256) (hd : d < 256) : mj_bitCount (nI (a + 256 * (b + 256 * (c + 256 * d)))) = some (nI (pb_ a + pb_ b + pb_ c + pb_ d)) := by
  have ka := k1b a ha
  have kb := k1b b hb
  have kc := k1b c hc
  have kd := k1b d hd
  unfold mj_bitCount
  dsimp only [lt_]
  have e1 : ((nI (a + 256 * (b + 256 * (c + 256 * d)))).toUInt32 >>> (((1 : Int32)).toUInt32 &&& Int32.toUInt32 31)).toInt32 &&& (1431655765 : Int32) = nI (t1_ a + 256 * (t1_ b + 256 * (t1_ c + 256 * t1_ d))) := by
    rw [pk_ushrN (by omega) 1 1 (by decide), show (1431655765 : Int32) = nI (85 + 256 * (85 + 256 * (85 + 256 * 85))) from by decide, a_nI (by omega) (by omega)]
    rw [show (a + 256 * (b + 256 * (c + 256 * d))) / 2 ^ 1 = (a / 2 + 128 * (b % 2)) + 256 * ((b / 2 + 128 * (c % 2)) + 256 * ((c / 2 + 128 * (d % 2)) + 256 * (d / 2 + 128 * 0))) by omega]
    rw [and32 _ _ (by omega) (by omega) (by omega) (by omega) (by omega) (by omega), k1_ a ha _ (by omega), k1_ b hb _ (by omega), k1_ c hc _ (by omega), k1_ d hd 0 (by omega)]
  rw [e1, pk_sub (by omega)]
  rw [show a + 256 * (b + 256 * (c + 256 * d)) - (t1_ a + 256 * (t1_ b + 256 * (t1_ c + 256 * t1_ d))) = p1_ a + 256 * (p1_ b + 256 * (p1_ c + 256 * p1_ d)) by unfold p1_; omega]
  have q1 := ka.2.1
  have q2 := kb.2.1
  have q3 := kc.2.1
  have q4 := kd.2.1
  have r1 := ka.2.2
  have r2 := kb.2.2
  have r3 := kc.2.2
  have r4 := kd.2.2
  have w1 : pb_ a = p3_ (p2_ (p1_ a)) := rfl
  have w2 : pb_ b = p3_ (p2_ (p1_ b)) := rfl
  have w3 : pb_ c = p3_ (p2_ (p1_ c)) := rfl
  have w4 : pb_ d = p3_ (p2_ (p1_ d)) := rfl
  generalize p1_ a = a1 at *
  generalize p1_ b = b1 at *
  generalize p1_ c = c1 at *
  generalize p1_ d = d1 at *
  have e2 : nI (a1 + 256 * (b1 + 256 * (c1 + 256 * d1))) &&& (858993459 : Int32) = nI ((a1 &&& 51) + 256 * ((b1 &&& 51) + 256 * ((c1 &&& 51) + 256 * (d1 &&& 51)))) := by
    rw [show (858993459 : Int32) = nI (51 + 256 * (51 + 256 * (51 + 256 * 51))) from by decide, a_nI (by omega) (by omega), and32 _ _ (by omega) (by omega) (by omega) (by omega) (by omega) (by omega)]
  have e3 : ((nI (a1 + 256 * (b1 + 256 * (c1 + 256 * d1)))).toUInt32 >>> (((2 : Int32)).toUInt32 &&& Int32.toUInt32 31)).toInt32 &&& (858993459 : Int32) = nI (((a1 / 4) &&& 51) + 256 * (((b1 / 4) &&& 51) + 256 * (((c1 / 4) &&& 51) + 256 * ((d1 / 4) &&& 51)))) := by
    rw [pk_ushrN (by omega) 2 2 (by decide), show (858993459 : Int32) = nI (51 + 256 * (51 + 256 * (51 + 256 * 51))) from by decide, a_nI (by omega) (by omega)]
    rw [show (a1 + 256 * (b1 + 256 * (c1 + 256 * d1))) / 2 ^ 2 = (a1 / 4 + 64 * (b1 % 4)) + 256 * ((b1 / 4 + 64 * (c1 % 4)) + 256 * ((c1 / 4 + 64 * (d1 % 4)) + 256 * (d1 / 4 + 64 * 0))) by omega]
    rw [and32 _ _ (by omega) (by omega) (by omega) (by omega) (by omega) (by omega), k2_ a1 q1 _ (by omega), k2_ b1 q2 _ (by omega), k2_ c1 q3 _ (by omega), k2_ d1 q4 0 (by omega)]
  rw [e2, e3, nI_add]
  rw [show (a1 &&& 51) + 256 * ((b1 &&& 51) + 256 * ((c1 &&& 51) + 256 * (d1 &&& 51))) + (((a1 / 4) &&& 51) + 256 * (((b1 / 4) &&& 51) + 256 * (((c1 / 4) &&& 51) + 256 * ((d1 / 4) &&& 51)))) = p2_ a1 + 256 * (p2_ b1 + 256 * (p2_ c1 + 256 * p2_ d1)) by unfold p2_; omega]
  generalize p2_ a1 = a2 at *
  generalize p2_ b1 = b2 at *
  generalize p2_ c1 = c2 at *
  generalize p2_ d1 = d2 at *
  have e4 : (nI (a2 + 256 * (b2 + 256 * (c2 + 256 * d2))) + ((nI (a2 + 256 * (b2 + 256 * (c2 + 256 * d2)))).toUInt32 >>> (((4 : Int32)).toUInt32 &&& Int32.toUInt32 31)).toInt32) &&& (252645135 : Int32) = nI (p3_ a2 + 256 * (p3_ b2 + 256 * (p3_ c2 + 256 * p3_ d2))) := by
    rw [pk_ushrN (by omega) 4 4 (by decide), nI_add, show (252645135 : Int32) = nI (15 + 256 * (15 + 256 * (15 + 256 * 15))) from by decide, a_nI (by omega) (by omega)]
    rw [show a2 + 256 * (b2 + 256 * (c2 + 256 * d2)) + (a2 + 256 * (b2 + 256 * (c2 + 256 * d2))) / 2 ^ 4 = (a2 + a2 / 16 + 16 * (b2 % 16)) + 256 * ((b2 + b2 / 16 + 16 * (c2 % 16)) + 256 * ((c2 + c2 / 16 + 16 * (d2 % 16)) + 256 * (d2 + d2 / 16 + 16 * 0))) by omega]
    rw [and32 _ _ (by omega) (by omega) (by omega) (by omega) (by omega) (by omega), k3_ a2 (by omega) _ (by omega), k3_ b2 (by omega) _ (by omega), k3_ c2 (by omega) _ (by omega), k3_ d2 (by omega) 0 (by omega)]
  rw [e4, w1, w2, w3, w4]
  rw [w1] at r1
  rw [w2] at r2
  rw [w3] at r3
  rw [w4] at r4
  generalize p3_ a2 = a3 at *
  generalize p3_ b2 = b3 at *
  generalize p3_ c2 = c3 at *
  generalize p3_ d2 = d3 at *
  rw [pk_ushrN (by omega) 8 8 (by decide), nI_add, pk_ushrN (by omega) 16 16 (by decide), nI_add, pk_andN (by omega) 6 (by decide)]
  have h1 := r1.2.2.1
  have h2 := r2.2.2.1
  have h3 := r3.2.2.1
  have h4 := r4.2.2.1
  clear r1 r2 r3 r4
  have g1 : (a3 + 256 * (b3 + 256 * (c3 + 256 * d3))) / 2 ^ 8 = b3 + 256 * (c3 + 256 * d3) := by omega
  rw [g1]
  have g2 : (a3 + 256 * (b3 + 256 * (c3 + 256 * d3)) + (b3 + 256 * (c3 + 256 * d3))) / 2 ^ 16 = (c3 + d3) + 256 * d3 := by omega
  rw [g2]
  have g3 : (a3 + 256 * (b3 + 256 * (c3 + 256 * d3)) + (b3 + 256 * (c3 + 256 * d3)) + (c3 + d3 + 256 * d3)) % 2 ^ 6 = a3 + b3 + c3 + d3 := by omega
  rw [g3]
theorem cn_plus (p : Nat → Bool) (m : Nat) : ∀ n, cn p (m + n) = cn p m + cn (fun k => p (m + k)) n
  | 0 => rfl
  | n + 1 => by rw [← Nat.add_assoc, cn, cn, cn_plus p m n]; omega
theorem tb_8 {a : Nat} (y : Nat) (ha : a < 256) (n : Nat) : cn (fun i => (a + 256 * y).testBit i) (8 + n) = cn (fun i => a.testBit i) 8 + cn (fun i => y.testBit i) n := by
  have h : ∀ j, (a + 256 * y).testBit j = if j < 8 then a.testBit j else y.testBit (j - 8) := fun j => by
    rw [Nat.add_comm]
    exact Nat.testBit_two_pow_mul_add (i := 8) y ha j
  rw [cn_plus, cn_cong (q := fun i => a.testBit i) (fun k hk => by rw [h, if_pos hk]), cn_cong (p := fun k => (a + 256 * y).testBit (8 + k)) (q := fun i => y.testBit i) (fun k hk => by rw [h, if_neg (by omega), Nat.add_sub_cancel_left])]
theorem bc_x (x : Int32) : mj_bitCount x = some (nI (cn (bt x) 32)) := by
  have hx : x = nI x.toBitVec.toNat := Int32.toBitVec_inj.mp (BitVec.eq_of_toNat_eq (by rw [pk_tn x.toBitVec.isLt]))
  have hb : cn (bt x) 32 = cn (fun i => x.toBitVec.toNat.testBit i) 32 := cn_cong (fun k hk => (BitVec.testBit_toNat x.toBitVec).symm)
  have hlt : x.toBitVec.toNat < 2 ^ 32 := x.toBitVec.isLt
  rw [hb, hx]
  rw [← hx]
  generalize x.toBitVec.toNat = A at *
  subst hx
  have hA : A = A % 256 + 256 * (A / 256 % 256 + 256 * (A / 65536 % 256 + 256 * (A / 16777216))) := by omega
  rw [hA, bc_n (by omega) (by omega) (by omega) (by omega)]
  rw [show (32 : Nat) = 8 + (8 + (8 + 8)) from rfl, tb_8 _ (by omega), tb_8 _ (by omega), tb_8 _ (by omega)]
  rw [(k1b _ (by omega)).2.2.2.2.2, (k1b _ (by omega)).2.2.2.2.2, (k1b _ (by omega)).2.2.2.2.2, (k1b _ (by omega)).2.2.2.2.2]
  congr 2
  omega
