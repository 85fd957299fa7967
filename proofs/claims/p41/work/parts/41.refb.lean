/-! THE REFERENCE'S READINGS OF THE CALLS -/
def wf_ (ce ch : Nat) (X Y : Nat → Nat) (Z : Nat → Bool) (s : Nat → Int32) : Prop := ce ≤ 25 ∧ ch ≤ 28 ∧ ∀ k, k < 60 → s (14 + k) = nI (X k) ∧ s (74 + k) = nI (Y k) ∧ s (134 + k) = bi (Z k) ∧ X k ≤ ce ∧ Y k ≤ ch ∧ (X k = 0 → Y k = 0 ∧ Z k = false) ∧ (Y k = 0 → Z k = false → X k = 0)
def un_ (X Y : Nat → Nat) : Prop := ∀ j k, j < 60 → k < 60 → X j = X k → Y j = Y k → Y j ≠ 0 → j = k
def ic_ (X : Nat → Nat) (x : Int32) : Bool := isC 60 x && decide (X x.toNatClampNeg ≠ 0)
def bo_ (cl ru : Nat) (X Y : Nat → Nat) (k : Nat) : Bool := decide (Y k ≠ 0) && !nm cl ru (X k - 1) (Y k - 1)
def fxn (X : Nat → Nat) (Z : Nat → Bool) (c : Nat) : Nat := cn (fun k => decide (X k = c + 1) && Z k) 60
def chv (n : Nat) : Int32 := if n = 0 then -9 else nI (n - 1)
def cls (X : Nat → Nat) : Nat := cn (fun k => decide (X k ≠ 0)) 60
section RC
variable {rw cl ru sz ce ch : Nat} {F : Nat → Int32} {R : Nat → Nat → Int32} {X Y : Nat → Nat} {Z : Nat → Bool}
theorem chv_0 {n : Nat} (h : n ≤ 28) : chv n = -9 ↔ n = 0 := by
  unfold chv
  by_cases q : n = 0
  · rw [if_pos q]; exact ⟨fun _ => q, fun _ => rfl⟩
  · rw [if_neg q]
    refine ⟨fun w => ?_, fun w => absurd w q⟩
    have : ∀ j, j < 28 → ¬ nI j = -9 := by decide +kernel
    exact absurd w (this (n - 1) (by omega))
theorem isC60 (x : Int32) : decide ((0 : Int32) ≤ x ∧ x ≤ 59) = isC 60 x := isC_in (n := 60) (by decide) (by decide) x
/-- who uses what, in numbers -/
theorem us_n (hw : wf_ ce ch X Y Z (R 0)) {c q : Nat} (hc : c < 1000) (hq : q < 1000) : us (R 0) c q = an (fun k => decide (X k = c + 1) && decide (Y k = q + 1)) 60 := by
  have hce := hw.1
  have hch := hw.2.1
  unfold us
  refine an_cong (fun k hk => ?_)
  have w := hw.2.2 k hk
  have h1 := w.2.2.2.1
  have h2 := w.2.2.2.2.1
  rw [w.1, w.2.1]
  have g1 : decide (nI (X k) = nI (c + 1)) = decide (X k = c + 1) := decide_eq_decide.mpr (nI_eq (by omega) (by omega))
  have g2 : decide (nI (Y k) = nI (q + 1)) = decide (Y k = q + 1) := decide_eq_decide.mpr (nI_eq (by omega) (by omega))
  rw [g1, g2]
end RC
