/-! THE REFERENCE'S READINGS, in numbers -/
def cf_ok (rw cl ru sz : Nat) : Prop := 1 ≤ rw ∧ rw ≤ 5 ∧ 1 ≤ cl ∧ cl ≤ 5 ∧ (ru = 2 ∨ ru = 3) ∧ 1 ≤ sz ∧ sz ≤ 4
def gs (ru : Nat) : Nat := if ru = 2 then 3 else 7
def gp_ (cl ru c : Nat) : Nat := if ru = 2 then (c / cl + 2 * (c % cl)) % 3 else (c / cl + 3 * (c % cl)) % 7
def ds (cl a b : Nat) : Nat := max (((a / cl : Nat) : Int) - (b / cl : Nat) + (((a % cl : Nat) : Int) - (b % cl : Nat))).natAbs (max (((a / cl : Nat) : Int) - (b / cl : Nat)).natAbs (((a % cl : Nat) : Int) - (b % cl : Nat)).natAbs)
def cs_s (rw cl ru sz : Nat) (s : Nat → Int32) : Prop := cf_ok rw cl ru sz ∧ s 0 = nI rw ∧ s 1 = nI cl ∧ s 2 = nI ru ∧ s 3 = nI sz
def isC (n : Nat) (x : Int32) : Bool := decide (0 ≤ x.toInt ∧ x.toInt < (n : Int))
def nm (cl ru c h : Nat) : Bool := decide (h % gs ru = gp_ cl ru c)
def us (s : Nat → Int32) (c h : Nat) : Bool := an (fun k => decide (s (14 + k) = nI (c + 1)) && decide (s (74 + k) = nI (h + 1))) 60
def ne_ (cl ru c k : Nat) : Bool := decide (k ≠ c) && decide (ds cl k c < ru)
def lk (rw cl ru : Nat) (s : Nat → Int32) (c h : Nat) : Nat := cn (fun k => ne_ cl ru c k && us s k h) (rw * cl)
def av (rw cl ru : Nat) (s : Nat → Int32) (c h : Nat) : Bool := !us s c h && decide (lk rw cl ru s c h = 0)
def bd (rw cl ru c h : Nat) : Nat := cn (fun k => ne_ cl ru c k && nm cl ru k h) (rw * cl)
def na_ (rw cl ru : Nat) (s : Nat → Int32) (c h : Nat) : Bool := nm cl ru c h && av rw cl ru s c h
def as_ (rw cl ru sz : Nat) (s : Nat → Int32) (c : Nat) : Nat := cn (na_ rw cl ru s c) (gs ru * sz)
theorem isC_t {n : Nat} {x : Int32} (hn : n < 2 ^ 31) (h : isC n x = true) : ∃ j, j < n ∧ x = nI j := by
  have h1 := of_decide_eq_true h
  refine ⟨x.toInt.toNat, by omega, Int32.toInt_inj.mp ?_⟩
  rw [nI_toInt (by omega)]
  omega
theorem isC_n {n j : Nat} (hn : n < 2 ^ 31) (h : j < n) : isC n (nI j) = true := decide_eq_true (by rw [nI_toInt (by omega)]; omega)
theorem isC_in {n : Nat} (h1 : 1 ≤ n) (hn : n < 2 ^ 30) (x : Int32) : decide ((0 : Int32) ≤ x ∧ x ≤ nI n - 1) = isC n x := by
  unfold isC
  have e0 : ((0 : Int32).toInt) = 0 := by decide
  have e : (nI n - 1).toInt = (n : Int) - 1 := pk_sub_toInt (a := n) (b := 1) hn (by decide)
  refine decide_eq_decide.mpr ?_
  rw [Int32.le_iff_toInt_le, Int32.le_iff_toInt_le, e0, e]
  omega
theorem ds_lt {cl a b : Nat} (ha : a < 1000) (hb : b < 1000) : ds cl a b < 2 ^ 31 := by
  have h1 : a / cl ≤ a := Nat.div_le_self _ _
  have h2 : b / cl ≤ b := Nat.div_le_self _ _
  have h3 : a % cl ≤ a := Nat.mod_le _ _
  have h4 : b % cl ≤ b := Nat.mod_le _ _
  unfold ds
  generalize a / cl = x1 at *
  generalize b / cl = x2 at *
  generalize a % cl = x3 at *
  generalize b % cl = x4 at *
  have g1 : ((x1 : Int) - (x2 : Int) + ((x3 : Int) - (x4 : Int))).natAbs < 2 ^ 31 := by omega
  have g2 : ((x1 : Int) - (x2 : Int)).natAbs < 2 ^ 31 := by omega
  have g3 : ((x3 : Int) - (x4 : Int)).natAbs < 2 ^ 31 := by omega
  exact Nat.max_lt.mpr ⟨g1, Nat.max_lt.mpr ⟨g2, g3⟩⟩
theorem cf_ce {rw cl ru sz : Nat} (h : cf_ok rw cl ru sz) : 1 ≤ rw * cl ∧ rw * cl ≤ 25 := ⟨Nat.mul_pos h.1 h.2.2.1, (Nat.mul_le_mul h.2.1 h.2.2.2.1 : rw * cl ≤ 5 * 5)⟩
theorem cf_gs {rw cl ru sz : Nat} (h : cf_ok rw cl ru sz) : 1 ≤ gs ru ∧ gs ru ≤ 7 := by rcases h.2.2.2.2.1 with rfl | rfl <;> decide
theorem cf_ch {rw cl ru sz : Nat} (h : cf_ok rw cl ru sz) : 1 ≤ gs ru * sz ∧ gs ru * sz ≤ 28 := ⟨Nat.mul_pos (cf_gs h).1 h.2.2.2.2.2.1, (Nat.mul_le_mul (cf_gs h).2 h.2.2.2.2.2.2 : gs ru * sz ≤ 7 * 4)⟩
def rz (cl ru : Nat) : Nat → Nat → Int32 := fun _ j => if j = 1 then nI cl else nI ru
/-- the lowest available nominal channel -/
def no_ (rw cl ru sz : Nat) (s : Nat → Int32) (c : Nat) : Nat := fi (na_ rw cl ru s c) (gs ru * sz)
def nv (e i : Nat) : Int32 := if i < e then nI i else -9