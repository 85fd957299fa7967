/-! PURE LAWS: bits, counts, loops -/
def bt (x : Int32) (i : Nat) : Bool := x.toBitVec.getLsbD i
theorem b_ext {x y : Int32} (h : ∀ i, i < 32 → bt x i = bt y i) : x = y := Int32.toBitVec_inj.mp (BitVec.eq_of_getLsbD_eq (fun i hi => h i hi))
theorem b_or (x y : Int32) (i : Nat) : bt (x ||| y) i = (bt x i || bt y i) := by unfold bt; rw [Int32.toBitVec_or, BitVec.getLsbD_or]
theorem b_and (x y : Int32) (i : Nat) : bt (x &&& y) i = (bt x i && bt y i) := by unfold bt; rw [Int32.toBitVec_and, BitVec.getLsbD_and]
theorem b_xor (x y : Int32) (i : Nat) : bt (x ^^^ y) i = (bt x i ^^ bt y i) := by unfold bt; rw [Int32.toBitVec_xor, BitVec.getLsbD_xor]
theorem b_big {x : Int32} {i : Nat} (h : 32 ≤ i) : bt x i = false := BitVec.getLsbD_of_ge _ _ h
theorem b_m1 : ∀ i, i < 32 → bt (-1) i = true := by decide +kernel
theorem b_0 (i : Nat) : bt 0 i = false := BitVec.getLsbD_zero
theorem s_l : ∀ n, n < 32 → ((nI n &&& 31).toBitVec.smod 32).toNat = n := by decide +kernel
theorem b_shl (n : Nat) (hn : n < 32) (x : Int32) {i : Nat} (hi : i < 32) : bt (x <<< (nI n &&& 31)) i = (decide (n ≤ i) && bt x (i - n)) := by
  unfold bt
  rw [Int32.toBitVec_shiftLeft]
  show (x.toBitVec <<< ((nI n &&& 31).toBitVec.smod 32)).getLsbD i = _
  rw [BitVec.shiftLeft_eq', BitVec.getLsbD_shiftLeft, s_l n hn]
  by_cases h : n ≤ i
  · simp [hi, h, Nat.not_lt.mpr h]
  · simp [hi, h, Nat.lt_of_not_le h]
theorem b_sshr (n : Nat) (hn : n < 32) (x : Int32) {i : Nat} (hi : i < 32) : bt (x >>> (nI n &&& 31)) i = if n + i < 32 then bt x (n + i) else bt x 31 := by
  unfold bt
  rw [Int32.toBitVec_shiftRight]
  show (x.toBitVec.sshiftRight' ((nI n &&& 31).toBitVec.smod 32)).getLsbD i = _
  rw [BitVec.sshiftRight', BitVec.getLsbD_sshiftRight, s_l n hn]
  by_cases h : n + i < 32
  · simp [hi, h]
  · simp [hi, h, BitVec.msb_eq_getLsbD_last]
theorem b_1 : ∀ i, i < 32 → bt 1 i = decide (i = 0) := by decide +kernel
/-- the bit j alone -/
theorem b_one {j : Nat} (hj : j < 32) {i : Nat} (hi : i < 32) : bt ((1 : Int32) <<< (nI j &&& 31)) i = decide (i = j) := by
  rw [b_shl j hj 1 hi]
  by_cases h : j ≤ i
  · rw [b_1 (i - j) (by omega)]
    by_cases h2 : i = j
    · subst h2; simp
    · have : ¬ (i - j = 0) := by omega
      simp [h, h2, this]
  · have : ¬ i = j := by omega
    simp [h, this]
def bi (b : Bool) : Int32 := if b then 1 else 0
theorem bi_t : bi true = 1 := rfl
theorem bi_f : bi false = 0 := rfl
theorem bi_0 {b : Bool} : bi b = 0 ↔ b = false := by cases b <;> decide
theorem bi_n0 {b : Bool} : ¬ bi b = 0 ↔ b = true := by cases b <;> decide
theorem bi_1 (b : Bool) : bi b &&& 1 = bi b := by cases b <;> decide
def an (p : Nat → Bool) : Nat → Bool
  | 0 => false
  | n + 1 => an p n || p n
theorem an_iff {p : Nat → Bool} : ∀ {n : Nat}, an p n = true ↔ ∃ k, k < n ∧ p k = true
  | 0 => ⟨fun h => (by cases h), fun ⟨_, h, _⟩ => absurd h (Nat.not_lt_zero _)⟩
  | n + 1 => by
    rw [an, Bool.or_eq_true, an_iff]
    constructor
    · rintro (⟨k, h1, h2⟩ | h)
      · exact ⟨k, by omega, h2⟩
      · exact ⟨n, by omega, h⟩
    · rintro ⟨k, h1, h2⟩
      by_cases hk : k = n
      · exact Or.inr (hk ▸ h2)
      · exact Or.inl ⟨k, by omega, h2⟩
theorem an_no {p : Nat → Bool} {n : Nat} : an p n = false ↔ ∀ k, k < n → p k = false := by
  constructor
  · intro h k hk
    cases hp : p k with
    | false => rfl
    | true => rw [an_iff.mpr ⟨k, hk, hp⟩] at h; cases h
  · intro h
    cases ha : an p n with
    | false => rfl
    | true =>
      obtain ⟨k, h1, h2⟩ := an_iff.mp ha
      rw [h k h1] at h2; cases h2
theorem an_cong {p q : Nat → Bool} {n : Nat} (h : ∀ k, k < n → p k = q k) : an p n = an q n := by
  cases hq : an q n with
  | true =>
    obtain ⟨k, h1, h2⟩ := an_iff.mp hq
    exact an_iff.mpr ⟨k, h1, by rw [h k h1]; exact h2⟩
  | false => exact an_no.mpr (fun k hk => by rw [h k hk]; exact an_no.mp hq k hk)
def cn (p : Nat → Bool) : Nat → Nat
  | 0 => 0
  | n + 1 => cn p n + (if p n then 1 else 0)
theorem cn_le (p : Nat → Bool) : ∀ n, cn p n ≤ n
  | 0 => Nat.le_refl 0
  | n + 1 => by
    have := cn_le p n
    rw [cn]
    split <;> omega
theorem cn_cong {p q : Nat → Bool} : ∀ {n : Nat}, (∀ k, k < n → p k = q k) → cn p n = cn q n
  | 0, _ => rfl
  | n + 1, h => by rw [cn, cn, cn_cong (fun k hk => h k (by omega)), h n (by omega)]
theorem cn_0 {p : Nat → Bool} : ∀ {n : Nat}, cn p n = 0 ↔ ∀ k, k < n → p k = false
  | 0 => ⟨fun _ k hk => absurd hk (Nat.not_lt_zero k), fun _ => rfl⟩
  | n + 1 => by
    rw [cn]
    constructor
    · intro h k hk
      have h1 : cn p n = 0 := by omega
      have h2 : p n = false := by
        cases hp : p n with
        | false => rfl
        | true => rw [hp] at h; simp at h
      by_cases hkn : k = n
      · rw [hkn]; exact h2
      · exact cn_0.mp h1 k (by omega)
    · intro h
      rw [cn_0.mpr (fun k hk => h k (by omega)), h n (by omega)]
      rfl
theorem cn_add (p : Nat → Bool) (n : Nat) : nI (cn p n) + bi (p n) = nI (cn p (n + 1)) := by
  rw [cn]
  cases p n with
  | false => exact nI_add _ 0
  | true => exact nI_add _ 1
/-- the first place below n, or n -/
def fi (p : Nat → Bool) : Nat → Nat
  | 0 => 0
  | n + 1 => if fi p n < n then fi p n else if p n then n else n + 1
theorem fi_le (p : Nat → Bool) : ∀ n, fi p n ≤ n
  | 0 => Nat.le_refl 0
  | n + 1 => by
    have := fi_le p n
    rw [fi]
    split
    · omega
    · split <;> omega
theorem fi_no (p : Nat → Bool) : ∀ n k, k < fi p n → p k = false
  | 0, k, h => absurd h (Nat.not_lt_zero k)
  | n + 1, k, h => by
    rw [fi] at h
    by_cases h1 : fi p n < n
    · rw [if_pos h1] at h
      exact fi_no p n k h
    · rw [if_neg h1] at h
      have hle := fi_le p n
      have he : fi p n = n := by omega
      by_cases h2 : p n = true
      · rw [if_pos h2] at h
        exact fi_no p n k (by omega)
      · rw [if_neg h2] at h
        by_cases hk : k = n
        · rw [hk]; exact Bool.eq_false_iff.mpr h2
        · exact fi_no p n k (by omega)
theorem fi_yes (p : Nat → Bool) : ∀ n, fi p n < n → p (fi p n) = true
  | 0, h => absurd h (Nat.not_lt_zero _)
  | n + 1, h => by
    rw [fi] at h ⊢
    by_cases h1 : fi p n < n
    · rw [if_pos h1]
      exact fi_yes p n h1
    · rw [if_neg h1] at h ⊢
      by_cases h2 : p n = true
      · rw [if_pos h2]; exact h2
      · rw [if_neg h2] at h
        omega
theorem fi_none {p : Nat → Bool} {n : Nat} (h : fi p n = n) : ∀ k, k < n → p k = false := fun k hk => fi_no p n k (by omega)
theorem fi_is {p : Nat → Bool} {n i : Nat} (hi : i < n) (h1 : p i = true) (h2 : ∀ k, k < i → p k = false) : fi p n = i := by
  rcases Nat.lt_trichotomy (fi p n) i with h | h | h
  · have h3 := fi_yes p n (by omega)
    rw [h2 _ h] at h3; cases h3
  · exact h
  · have h3 := fi_no p n i h
    rw [h1] at h3; cases h3
theorem fi_cong {p q : Nat → Bool} : ∀ {n : Nat}, (∀ k, k < n → p k = q k) → fi p n = fi q n
  | 0, _ => rfl
  | n + 1, h => by rw [fi, fi, fi_cong (fun k hk => h k (by omega)), h n (by omega)]
/-- a loop, by its invariant; it may end early -/
theorem wh_inv {σ ρ : Type} {b : (σ → Option ρ) → σ → Option ρ} (I : Nat → σ → Prop) (P : ρ → Prop) (e : Nat) (hs : ∀ i t, i < e → I i t → (∃ t', I (i + 1) t' ∧ ∀ kk, b kk t = kk t') ∨ ∃ x, P x ∧ ∀ kk, b kk t = some x) (hx : ∀ t, I e t → ∃ x, P x ∧ ∀ kk, b kk t = some x) : ∀ n i t, i ≤ e → e - i < n → I i t → ∃ x, P x ∧ wh b n t = some x := by
  intro n
  induction n with
  | zero => intro i t h1 h2; omega
  | succ n ih =>
    intro i t h1 h2 hI
    have fin : (∃ x, P x ∧ ∀ kk, b kk t = some x) → ∃ x, P x ∧ wh b (n + 1) t = some x := fun ⟨x, hP, hb⟩ => ⟨x, hP, hb _⟩
    by_cases hie : i = e
    · subst hie
      exact fin (hx t hI)
    · rcases hs i t (by omega) hI with ⟨t', hI', hb⟩ | h
      · obtain ⟨x, hP, hw⟩ := ih (i + 1) t' (by omega) (by omega) hI'
        exact ⟨x, hP, (hb _).trans hw⟩
      · exact fin h
/-- a loop over known states -/
theorem wh_st {σ ρ : Type} {b : (σ → Option ρ) → σ → Option ρ} (st : Nat → σ) (e : Nat) (x : ρ) (he : e < 2000) (hs : ∀ i, i < e → ∀ kk, b kk (st i) = kk (st (i + 1))) (hx : ∀ kk, b kk (st e) = some x) : wh b 2000 (st 0) = some x := by
  obtain ⟨x', h1, h2⟩ := wh_inv (b := b) (fun i t => t = st i) (fun r => r = x) e (fun i t hi ht => Or.inl ⟨st (i + 1), rfl, fun kk => by rw [ht]; exact hs i hi kk⟩) (fun t ht => ⟨x, rfl, fun kk => by rw [ht]; exact hx kk⟩) 2000 0 (st 0) (Nat.zero_le e) (by omega) rfl
  rw [h2, h1]
/-- a loop whose result is known, by its invariant -/
theorem wh_eq {σ ρ : Type} {b : (σ → Option ρ) → σ → Option ρ} (I : Nat → σ → Prop) (x : ρ) (e : Nat) {t0 : σ} (he : e < 2000) (h0 : I 0 t0) (hs : ∀ i t, i < e → I i t → (∃ t', I (i + 1) t' ∧ ∀ kk, b kk t = kk t') ∨ ∀ kk, b kk t = some x) (hx : ∀ t, I e t → ∀ kk, b kk t = some x) : wh b 2000 t0 = some x := by
  obtain ⟨x', h1, h2⟩ := wh_inv (b := b) I (fun r => r = x) e (fun i t hi ht => (hs i t hi ht).imp id (fun q => ⟨x, rfl, q⟩)) (fun t ht => ⟨x, rfl, hx t ht⟩) 2000 0 t0 (Nat.zero_le e) (by omega) h0
  rw [h2, h1]
/-- a loop by its invariant, its result described -/
theorem wh_iv {σ ρ : Type} {b : (σ → Option ρ) → σ → Option ρ} (I : Nat → σ → Prop) (P : ρ → Prop) (e : Nat) {t0 : σ} (he : e < 2000) (h0 : I 0 t0) (hs : ∀ i t, i < e → I i t → (∃ t', I (i + 1) t' ∧ ∀ kk, b kk t = kk t') ∨ ∃ x, P x ∧ ∀ kk, b kk t = some x) (hx : ∀ t, I e t → ∃ x, P x ∧ ∀ kk, b kk t = some x) : ∃ x, P x ∧ wh b 2000 t0 = some x :=
  wh_inv I P e hs hx 2000 0 t0 (Nat.zero_le e) (by omega) h0
theorem cl_0 : (0 : Int32).toNatClampNeg = 0 := by decide
theorem cl_1 : (1 : Int32).toNatClampNeg = 1 := by decide
theorem cl_2 : (2 : Int32).toNatClampNeg = 2 := by decide
theorem cl_3 : (3 : Int32).toNatClampNeg = 3 := by decide
theorem cl_4 : (4 : Int32).toNatClampNeg = 4 := by decide
theorem cl_5 : (5 : Int32).toNatClampNeg = 5 := by decide
theorem cl_6 : (6 : Int32).toNatClampNeg = 6 := by decide
theorem cl_7 : (7 : Int32).toNatClampNeg = 7 := by decide
theorem cl_8 : (8 : Int32).toNatClampNeg = 8 := by decide
theorem cl_9 : (9 : Int32).toNatClampNeg = 9 := by decide
theorem cl_10 : (10 : Int32).toNatClampNeg = 10 := by decide
theorem cl_11 : (11 : Int32).toNatClampNeg = 11 := by decide
theorem cl_12 : (12 : Int32).toNatClampNeg = 12 := by decide
theorem cl_13 : (13 : Int32).toNatClampNeg = 13 := by decide
/-- a place from a fixed start -/
theorem cl_at {n k : Nat} (h : n + k < 2 ^ 31) : (nI n + nI k).toNatClampNeg = n + k := by rw [nI_add]; exact nI_clamp h
theorem in_at {n k N : Nat} (h : n + k < N) (hN : N < 2 ^ 31) : inb (nI n + nI k) N := by rw [nI_add]; exact vp_in_nI h hN
theorem in_n {k N : Nat} (h : k < N) (hN : N < 2 ^ 31) : inb (nI k) N := vp_in_nI h hN
theorem bd_s {α β : Type} (a : α) (f : α → Option β) : (some a).bind f = f a := rfl
theorem le_n {a b : Int32} : a ≤ b ↔ ¬ b < a := by rw [Int32.le_iff_toInt_le, Int32.lt_iff_toInt_lt]; omega
theorem m4_isB (v lo hi : Int32) : m4_isBetween v lo hi = some (bi (decide (lo ≤ v ∧ v ≤ hi))) := by
  unfold m4_isBetween
  by_cases h1 : v < lo
  · have h : ¬ (lo ≤ v ∧ v ≤ hi) := fun q => le_n.mp q.1 h1
    rw [if_pos h1, decide_eq_false h]; rfl
  · by_cases h2 : hi < v
    · have h : ¬ (lo ≤ v ∧ v ≤ hi) := fun q => le_n.mp q.2 h2
      rw [if_neg h1, if_pos h2, decide_eq_false h]; rfl
    · rw [if_neg h1, if_neg h2, decide_eq_true ⟨le_n.mpr h1, le_n.mpr h2⟩]; rfl
theorem bt_bi (b : Bool) (i : Nat) (hi : i < 32) : bt (bi b) i = (b && decide (i = 0)) := by
  cases b with
  | false => exact b_0 i
  | true => exact b_1 i hi
theorem and_1 (y : Int32) : y &&& 1 = bi (bt y 0) := b_ext (fun i hi => by
  rw [b_and, b_1 i hi, bt_bi _ i hi]
  by_cases h : i = 0
  · rw [h]
  · simp [h])
theorem m4_con (x : Int32) {j : Nat} (hj : j < 32) : m4_contains x (nI j) = some (bi (bt x j)) := by
  unfold m4_contains
  have e : (x >>> (nI j &&& 31)) &&& (1 : Int32) = bi (bt x j) := by
    rw [and_1, b_sshr j hj x (by decide : 0 < 32), if_pos (show j + 0 < 32 by omega), Nat.add_zero]
  rw [e]
  cases bt x j <;> rfl
theorem m4_asN (b : Bool) : m4_asNumber (bi b) = some (bi b) := by cases b <;> rfl
