/-! THE CHOICE OF A CHANNEL -/
def op_ (rw cl ru : Nat) (s : Nat → Int32) (c d k : Nat) : Bool := av rw cl ru s c k && nm cl ru d k
def dn_ (rw cl ru sz : Nat) (s : Nat → Int32) (c d : Nat) : Bool := decide (ds cl d c = 1) && decide (s 5 < nI (as_ rw cl ru sz s d)) && an (op_ rw cl ru s c d) (gs ru * sz)
def rk_ (rw cl ru sz : Nat) (s : Nat → Int32) (c d : Nat) : Int32 := if s 4 = 0 then -(nI (as_ rw cl ru sz s d)) else if s 4 = 2 then nI (bd rw cl ru c (gp_ cl ru d)) else 0
def bs_ (rw cl ru sz : Nat) (s : Nat → Int32) (c : Nat) : Nat → Nat × Int32
  | 0 => (0, 25)
  | d + 1 => if dn_ rw cl ru sz s c d && decide (rk_ rw cl ru sz s c d < (bs_ rw cl ru sz s c d).2) then (d + 1, rk_ rw cl ru sz s c d) else bs_ rw cl ru sz s c d
def bb_ (rw cl ru sz : Nat) (s : Nat → Int32) (c : Nat) : Nat := (bs_ rw cl ru sz s c (rw * cl)).1
def fv_ (rw cl ru sz : Nat) (s : Nat → Int32) (c b : Nat) : Int32 := if b = 0 then -9 else la (op_ rw cl ru s c (b - 1)) (gs ru * sz)
def cv_ (rw cl ru sz : Nat) (s : Nat → Int32) (c : Nat) : Int32 := if no_ rw cl ru sz s c < gs ru * sz then nI (no_ rw cl ru sz s c) else fv_ rw cl ru sz s c (bb_ rw cl ru sz s c)
def dv_ (rw cl ru sz : Nat) (s : Nat → Int32) (c : Nat) : Int32 := if no_ rw cl ru sz s c < gs ru * sz then -9 else chv (bb_ rw cl ru sz s c)
theorem la_is {p : Nat → Bool} : ∀ {n k : Nat}, k < n → p k = true → (∀ j, k < j → j < n → p j = false) → la p n = nI k
  | 0, k, h, _, _ => absurd h (Nat.not_lt_zero k)
  | n + 1, k, h, h1, h2 => by
    rw [la]
    by_cases q : k = n
    · rw [← q, h1]; rfl
    · rw [h2 n (by omega) (by omega)]
      exact la_is (by omega) h1 (fun j a b => h2 j a (by omega))
theorem la_no {p : Nat → Bool} : ∀ {n : Nat}, (∀ k, k < n → p k = false) → la p n = -9
  | 0, _ => rfl
  | n + 1, h => by
    rw [la, h n (by omega)]
    exact la_no (fun k hk => h k (by omega))
theorem la_ex {p : Nat → Bool} : ∀ {n : Nat}, an p n = true → ∃ k, k < n ∧ p k = true ∧ la p n = nI k
  | 0, h => by cases h
  | n + 1, h => by
    rw [an] at h
    rw [la]
    cases hp : p n with
    | true => exact ⟨n, by omega, hp, rfl⟩
    | false =>
      rw [hp, Bool.or_false] at h
      obtain ⟨k, h1, h2, h3⟩ := la_ex h
      exact ⟨k, by omega, h2, h3⟩
theorem n9 {k : Nat} (h : k < 100) : ¬ nI k = -9 := by
  have : ∀ j, j < 100 → ¬ nI j = -9 := by decide +kernel
  exact this k h
theorem neg_lt25 {n : Nat} (h : n ≤ 28) : -(nI n) < 25 := by
  have : ∀ j, j < 29 → -(nI j) < 25 := by decide +kernel
  exact this n (by omega)
theorem cn_lt {p : Nat → Bool} {c : Nat} (hp : p c = false) : ∀ {n : Nat}, c < n → cn p n < n
  | 0, h => absurd h (Nat.not_lt_zero c)
  | n + 1, h => by
    have := cn_le p n
    rw [cn]
    by_cases q : c = n
    · rw [← q, hp]; rw [← q] at this; simp; omega
    · have := cn_lt hp (show c < n by omega)
      split <;> omega
theorem up_id {α : Type} (f : Nat → α) (i : Nat) : va_up f i (f i) = f := funext fun j => by
  unfold va_up
  by_cases h : j = i
  · rw [if_pos h, h]
  · rw [if_neg h]
theorem an_rev {p : Nat → Bool} {n : Nat} : an (fun j => p (n - 1 - j)) n = an p n := by
  cases h : an p n with
  | false => exact an_no.mpr (fun k hk => an_no.mp h _ (by omega))
  | true =>
    obtain ⟨k, h1, h2⟩ := an_iff.mp h
    exact an_iff.mpr ⟨n - 1 - k, by omega, by show p (n - 1 - (n - 1 - k)) = true; rw [show n - 1 - (n - 1 - k) = k by omega]; exact h2⟩
section CH
variable {rw cl ru sz : Nat} {F s : Nat → Int32} {R : Nat → Nat → Int32} {G : Nat → Int32} {Q : Nat → Nat → Int32} {X Y : Nat → Nat} {Z : Nat → Bool}
theorem as_le (d : Nat) (hf : cf_ok rw cl ru sz) : as_ rw cl ru sz s d ≤ 28 := Nat.le_trans (cn_le _ _) (cf_ch hf).2
theorem gp_lt (hf : cf_ok rw cl ru sz) (d : Nat) : gp_ cl ru d < gs ru := by
  unfold gp_ gs
  rcases hf.2.2.2.2.1 with rfl | rfl
  · exact Nat.mod_lt _ (by decide)
  · exact Nat.mod_lt _ (by decide)
theorem bd_g (hf : cf_ok rw cl ru sz) {c d k : Nat} (h : nm cl ru d k = true) : bd rw cl ru c (gp_ cl ru d) = bd rw cl ru c k := by
  have e := of_decide_eq_true h
  unfold bd nm
  rw [Nat.mod_eq_of_lt (gp_lt hf d), e]
theorem bd_lt (hf : cf_ok rw cl ru sz) {c : Nat} (hc : c < rw * cl) (k : Nat) : bd rw cl ru c k < 25 := by
  have := cf_ce hf
  have h : bd rw cl ru c k < rw * cl := cn_lt (c := c) (by unfold ne_; simp) hc
  omega
theorem rk_lt (hf : cf_ok rw cl ru sz) {c : Nat} (hc : c < rw * cl) (d : Nat) : rk_ rw cl ru sz s c d < 25 := by
  unfold rk_
  split
  · exact neg_lt25 (as_le d hf)
  · split
    · exact nI_lt (b := 25) (bd_lt hf hc _) (by decide)
    · decide
theorem bs_p (hf : cf_ok rw cl ru sz) {c : Nat} (hc : c < rw * cl) : ∀ d, (bs_ rw cl ru sz s c d).1 ≤ d ∧ (((bs_ rw cl ru sz s c d).1 = 0 ∧ (bs_ rw cl ru sz s c d).2 = 25) ∨ ((bs_ rw cl ru sz s c d).1 ≠ 0 ∧ (bs_ rw cl ru sz s c d).2 < 25 ∧ dn_ rw cl ru sz s c ((bs_ rw cl ru sz s c d).1 - 1) = true))
  | 0 => ⟨Nat.le_refl 0, Or.inl ⟨rfl, rfl⟩⟩
  | d + 1 => by
    have ih := bs_p hf hc d
    rw [bs_]
    cases hq : (dn_ rw cl ru sz s c d && decide (rk_ rw cl ru sz s c d < (bs_ rw cl ru sz s c d).2)) with
    | false => exact ⟨by simp only [Bool.false_eq_true, if_false]; omega, by simpa using ih.2⟩
    | true =>
      have hd : dn_ rw cl ru sz s c d = true := by
        cases hh : dn_ rw cl ru sz s c d with
        | true => rfl
        | false => rw [hh] at hq; cases hq
      exact ⟨by simp, Or.inr ⟨by simp, by simpa using rk_lt hf hc d, by simpa using hd⟩⟩
theorem fv_9 (hf : cf_ok rw cl ru sz) {c b : Nat} (hb : b = 0 ∨ dn_ rw cl ru sz s c (b - 1) = true) : fv_ rw cl ru sz s c b = -9 ↔ b = 0 := by
  have hch := cf_ch hf
  unfold fv_
  by_cases h : b = 0
  · rw [if_pos h]; exact ⟨fun _ => h, fun _ => rfl⟩
  · rw [if_neg h]
    refine ⟨fun q => ?_, fun q => absurd q h⟩
    have hd := hb.resolve_left h
    unfold dn_ at hd
    rw [Bool.and_eq_true] at hd
    obtain ⟨k, h1, _, h3⟩ := la_ex hd.2
    rw [h3] at q
    exact absurd q (n9 (by omega))
end CH
