/-! THE REFERENCE'S READINGS OF THE CALLS -/
def wf_ (ce ch : Nat) (X Y : Nat → Nat) (Z : Nat → Bool) (s : Nat → Int32) : Prop := ce ≤ 25 ∧ ch ≤ 28 ∧ ∀ k, k < 60 → s (14 + k) = nI (X k) ∧ s (74 + k) = nI (Y k) ∧ s (134 + k) = bi (Z k) ∧ X k ≤ ce ∧ Y k ≤ ch ∧ (X k = 0 → Y k = 0 ∧ Z k = false) ∧ (Y k = 0 → Z k = false → X k = 0)
def un_ (X Y : Nat → Nat) : Prop := ∀ j k, j < 60 → k < 60 → X j = X k → Y j = Y k → Y j ≠ 0 → j = k
def ic_ (X : Nat → Nat) (x : Int32) : Bool := isC 60 x && decide (X x.toNatClampNeg ≠ 0)
def bo_ (cl ru : Nat) (X Y : Nat → Nat) (k : Nat) : Bool := decide (Y k ≠ 0) && !nm cl ru (X k - 1) (Y k - 1)
def fxn (X : Nat → Nat) (Z : Nat → Bool) (c : Nat) : Nat := cn (fun k => decide (X k = c + 1) && Z k) 60
def chv (n : Nat) : Int32 := if n = 0 then -9 else nI (n - 1)
def cls (X : Nat → Nat) : Nat := cn (fun k => decide (X k ≠ 0)) 60
section RC
variable {rw cl ru sz ce ch : Nat} {F : Nat → Int32} {R : Nat → Nat → Int32} {X Y : Nat → Nat} {Z : Nat → Bool}
theorem chv_0 {n : Nat} (h : n ≤ 28) : chv n = -9 ↔ n = 0 := by
  unfold chv
  by_cases q : n = 0
  · rw [if_pos q]; exact ⟨fun _ => q, fun _ => rfl⟩
  · rw [if_neg q]
    refine ⟨fun w => ?_, fun w => absurd w q⟩
    have : ∀ j, j < 28 → ¬ nI j = -9 := by decide +kernel
    exact absurd w (this (n - 1) (by omega))
theorem r5_calls (hw : wf_ ce ch X Y Z (R 0)) : m5_calls F R = some (nI (cls X)) := by
  unfold m5_calls
  have e : wh (m5_calls_L4 R) 2000 ((0 : Int32), (0 : Int32)) = some (nI (cls X)) := by
    refine wh_st (fun i => (nI (cn (fun k => decide (X k ≠ 0)) i), nI i)) 60 _ (by decide) (fun i hi kk => ?_) (fun kk => ?_)
    · have e1 : ¬ (60 : Int32) ≤ nI i := nI_ge hi (by decide)
      have e2 : inb ((14 : Int32) + nI i) 194 := in_at (n := 14) (by omega) (by decide)
      have e3 : ((14 : Int32) + nI i).toNatClampNeg = 14 + i := cl_at (n := 14) (by omega)
      have w := hw.2.2 i hi
      have hce := hw.1
      unfold m5_calls_L4 m5_calls_J28
      dsimp only
      rw [if_neg e1, if_pos e2, e3, w.1, nI_1, ← cn_add]
      by_cases q : X i = 0
      · rw [q, if_pos (by decide)]; simp [q, bi]
      · rw [if_neg (nI_nle (by omega) (by omega))]; simp [q, bi]
    · rfl
  rw [e]; rfl
theorem isC60 (x : Int32) : decide ((0 : Int32) ≤ x ∧ x ≤ 59) = isC 60 x := isC_in (n := 60) (by decide) (by decide) x
theorem r5_isCall (hw : wf_ ce ch X Y Z (R 0)) (x : Int32) : m5_isCall F R x = some (bi (ic_ X x)) := by
  unfold m5_isCall m5_isCall_J27
  rw [m5_inE, bd_s, isC60]
  unfold ic_
  cases hx : isC 60 x with
  | false => rfl
  | true =>
    obtain ⟨i, hi, rfl⟩ := isC_t (by decide) hx
    have e2 : inb ((14 : Int32) + nI i) 194 := in_at (n := 14) (by omega) (by decide)
    have e3 : ((14 : Int32) + nI i).toNatClampNeg = 14 + i := cl_at (n := 14) (by omega)
    have w := hw.2.2 i hi
    have hce := hw.1
    rw [if_neg (by decide : ¬ bi true = 0), if_pos e2, e3, w.1, nI_clamp (by omega)]
    by_cases q : X i = 0
    · rw [q, if_pos (by decide)]; rfl
    · rw [if_neg (nI_nle (by omega) (by omega))]; simp [q]; rfl
theorem r5_borrowed (h : cs_s rw cl ru sz (R 0)) (hw : wf_ ce ch X Y Z (R 0)) {k : Nat} (hk : k < 60) : m5_borrowed F R (nI k) = some (bi (bo_ cl ru X Y k)) := by
  have e2 : inb ((14 : Int32) + nI k) 194 := in_at (n := 14) (by omega) (by decide)
  have e3 : ((14 : Int32) + nI k).toNatClampNeg = 14 + k := cl_at (n := 14) (by omega)
  have e4 : inb ((74 : Int32) + nI k) 194 := in_at (n := 74) (by omega) (by decide)
  have e5 : ((74 : Int32) + nI k).toNatClampNeg = 74 + k := cl_at (n := 74) (by omega)
  have w := hw.2.2 k hk
  have hce := hw.1
  have hch := hw.2.1
  unfold m5_borrowed m5_borrowed_J46 bo_
  rw [if_pos e4, if_pos e2, if_pos e4, e3, e5, w.1, w.2.1]
  by_cases q : Y k = 0
  · rw [q, if_pos (by decide)]; rfl
  · have hx : X k ≠ 0 := fun z => q (w.2.2.2.2.2.1 z).1
    have hs : ∀ n, n ≠ 0 → nI n - 1 = nI (n - 1) := fun n hn => pk_sub (b := 1) (by omega)
    rw [if_neg (nI_nle (by omega) (by omega)), hs _ q, hs _ hx, r5_nom h (by omega) (by omega), bd_s]
    cases nm cl ru (X k - 1) (Y k - 1) <;> simp [q] <;> rfl
theorem r5_fixedIn (hw : wf_ ce ch X Y Z (R 0)) {c : Nat} (hc : c < 25) : m5_fixedIn F R (nI c) = some (nI (fxn X Z c)) := by
  unfold m5_fixedIn
  have e : wh (m5_fixedIn_L4 R (nI c)) 2000 ((0 : Int32), (0 : Int32)) = some (nI (fxn X Z c)) := by
    refine wh_st (fun i => (nI (cn (fun k => decide (X k = c + 1) && Z k) i), nI i)) 60 _ (by decide) (fun i hi kk => ?_) (fun kk => ?_)
    · have e1 : ¬ (60 : Int32) ≤ nI i := nI_ge hi (by decide)
      have e2 : inb ((14 : Int32) + nI i) 194 := in_at (n := 14) (by omega) (by decide)
      have e3 : ((14 : Int32) + nI i).toNatClampNeg = 14 + i := cl_at (n := 14) (by omega)
      have e4 : inb ((134 : Int32) + nI i) 194 := in_at (n := 134) (by omega) (by decide)
      have e5 : ((134 : Int32) + nI i).toNatClampNeg = 134 + i := cl_at (n := 134) (by omega)
      have w := hw.2.2 i hi
      have hce := hw.1
      unfold m5_fixedIn_L4 m5_fixedIn_J40
      dsimp only
      rw [if_neg e1, if_pos e2, if_pos e4, e3, e5, w.1, w.2.2.1, nI_1, nI_1, ← cn_add]
      by_cases q : X i = c + 1
      · rw [if_pos (by rw [q])]; simp [q]
      · rw [if_neg (fun z => q ((nI_eq (by omega) (by omega)).mp z))]; simp [q, bi]
    · rfl
  rw [e]; rfl
theorem r5_channelNow (hw : wf_ ce ch X Y Z (R 0)) {k : Nat} (hk : k < 60) : m5_channelNow F R (nI k) = some (chv (Y k)) := by
  have e4 : inb ((74 : Int32) + nI k) 194 := in_at (n := 74) (by omega) (by decide)
  have e5 : ((74 : Int32) + nI k).toNatClampNeg = 74 + k := cl_at (n := 74) (by omega)
  have w := hw.2.2 k hk
  have hch := hw.2.1
  unfold m5_channelNow m5_channelNow_J28 chv
  rw [if_pos e4, if_pos e4, e5, w.2.1]
  by_cases q : Y k = 0
  · rw [q, if_pos (by decide)]; rfl
  · rw [if_neg (nI_ne0 (by omega) (by omega)), if_neg q, bd_s, show nI (Y k) - 1 = nI (Y k - 1) from pk_sub (b := 1) (by omega)]
/-- who uses what, in numbers -/
theorem us_n (hw : wf_ ce ch X Y Z (R 0)) {c q : Nat} (hc : c < 1000) (hq : q < 1000) : us (R 0) c q = an (fun k => decide (X k = c + 1) && decide (Y k = q + 1)) 60 := by
  have hce := hw.1
  have hch := hw.2.1
  unfold us
  refine an_cong (fun k hk => ?_)
  have w := hw.2.2 k hk
  have h1 := w.2.2.2.1
  have h2 := w.2.2.2.2.1
  rw [w.1, w.2.1]
  have g1 : decide (nI (X k) = nI (c + 1)) = decide (X k = c + 1) := decide_eq_decide.mpr (nI_eq (by omega) (by omega))
  have g2 : decide (nI (Y k) = nI (q + 1)) = decide (Y k = q + 1) := decide_eq_decide.mpr (nI_eq (by omega) (by omega))
  rw [g1, g2]
end RC
