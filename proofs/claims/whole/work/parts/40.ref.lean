/-! THE REFERENCE'S READINGS, in numbers -/
def cf_ok (rw cl ru sz : Nat) : Prop := 1 ≤ rw ∧ rw ≤ 5 ∧ 1 ≤ cl ∧ cl ≤ 5 ∧ (ru = 2 ∨ ru = 3) ∧ 1 ≤ sz ∧ sz ≤ 4
def gs (ru : Nat) : Nat := if ru = 2 then 3 else 7
def gp_ (cl ru c : Nat) : Nat := if ru = 2 then (c / cl + 2 * (c % cl)) % 3 else (c / cl + 3 * (c % cl)) % 7
def ds (cl a b : Nat) : Nat := max (((a / cl : Nat) : Int) - (b / cl : Nat) + (((a % cl : Nat) : Int) - (b % cl : Nat))).natAbs (max (((a / cl : Nat) : Int) - (b / cl : Nat)).natAbs (((a % cl : Nat) : Int) - (b % cl : Nat)).natAbs)
def cs_s (rw cl ru sz : Nat) (s : Nat → Int32) : Prop := cf_ok rw cl ru sz ∧ s 0 = nI rw ∧ s 1 = nI cl ∧ s 2 = nI ru ∧ s 3 = nI sz
def isC (n : Nat) (x : Int32) : Bool := decide (0 ≤ x.toInt ∧ x.toInt < (n : Int))
def nm (cl ru c h : Nat) : Bool := decide (h % gs ru = gp_ cl ru c)
def us (s : Nat → Int32) (c h : Nat) : Bool := an (fun k => decide (s (14 + k) = nI (c + 1)) && decide (s (74 + k) = nI (h + 1))) 60
def ne_ (cl ru c k : Nat) : Bool := decide (k ≠ c) && decide (ds cl k c < ru)
def lk (rw cl ru : Nat) (s : Nat → Int32) (c h : Nat) : Nat := cn (fun k => ne_ cl ru c k && us s k h) (rw * cl)
def av (rw cl ru : Nat) (s : Nat → Int32) (c h : Nat) : Bool := !us s c h && decide (lk rw cl ru s c h = 0)
def bd (rw cl ru c h : Nat) : Nat := cn (fun k => ne_ cl ru c k && nm cl ru k h) (rw * cl)
def na_ (rw cl ru : Nat) (s : Nat → Int32) (c h : Nat) : Bool := nm cl ru c h && av rw cl ru s c h
def as_ (rw cl ru sz : Nat) (s : Nat → Int32) (c : Nat) : Nat := cn (na_ rw cl ru s c) (gs ru * sz)
theorem isC_t {n : Nat} {x : Int32} (hn : n < 2 ^ 31) (h : isC n x = true) : ∃ j, j < n ∧ x = nI j := by
  have h1 := of_decide_eq_true h
  refine ⟨x.toInt.toNat, by omega, Int32.toInt_inj.mp ?_⟩
  rw [nI_toInt (by omega)]
  omega
theorem isC_n {n j : Nat} (hn : n < 2 ^ 31) (h : j < n) : isC n (nI j) = true := decide_eq_true (by rw [nI_toInt (by omega)]; omega)
theorem isC_in {n : Nat} (h1 : 1 ≤ n) (hn : n < 2 ^ 30) (x : Int32) : decide ((0 : Int32) ≤ x ∧ x ≤ nI n - 1) = isC n x := by
  unfold isC
  have e0 : ((0 : Int32).toInt) = 0 := by decide
  have e : (nI n - 1).toInt = (n : Int) - 1 := pk_sub_toInt (a := n) (b := 1) hn (by decide)
  refine decide_eq_decide.mpr ?_
  rw [Int32.le_iff_toInt_le, Int32.le_iff_toInt_le, e0, e]
  omega
theorem ds_lt {cl a b : Nat} (ha : a < 1000) (hb : b < 1000) : ds cl a b < 2 ^ 31 := by
  have h1 : a / cl ≤ a := Nat.div_le_self _ _
  have h2 : b / cl ≤ b := Nat.div_le_self _ _
  have h3 : a % cl ≤ a := Nat.mod_le _ _
  have h4 : b % cl ≤ b := Nat.mod_le _ _
  unfold ds
  generalize a / cl = x1 at *
  generalize b / cl = x2 at *
  generalize a % cl = x3 at *
  generalize b % cl = x4 at *
  have g1 : ((x1 : Int) - (x2 : Int) + ((x3 : Int) - (x4 : Int))).natAbs < 2 ^ 31 := by omega
  have g2 : ((x1 : Int) - (x2 : Int)).natAbs < 2 ^ 31 := by omega
  have g3 : ((x3 : Int) - (x4 : Int)).natAbs < 2 ^ 31 := by omega
  exact Nat.max_lt.mpr ⟨g1, Nat.max_lt.mpr ⟨g2, g3⟩⟩
theorem cf_ce {rw cl ru sz : Nat} (h : cf_ok rw cl ru sz) : 1 ≤ rw * cl ∧ rw * cl ≤ 25 := ⟨Nat.mul_pos h.1 h.2.2.1, (Nat.mul_le_mul h.2.1 h.2.2.2.1 : rw * cl ≤ 5 * 5)⟩
theorem cf_gs {rw cl ru sz : Nat} (h : cf_ok rw cl ru sz) : 1 ≤ gs ru ∧ gs ru ≤ 7 := by rcases h.2.2.2.2.1 with rfl | rfl <;> decide
theorem cf_ch {rw cl ru sz : Nat} (h : cf_ok rw cl ru sz) : 1 ≤ gs ru * sz ∧ gs ru * sz ≤ 28 := ⟨Nat.mul_pos (cf_gs h).1 h.2.2.2.2.2.1, (Nat.mul_le_mul (cf_gs h).2 h.2.2.2.2.2.2 : gs ru * sz ≤ 7 * 4)⟩
theorem m5_inE (v lo hi : Int32) : m5_in v lo hi = some (bi (decide (lo ≤ v ∧ v ≤ hi))) := by
  unfold m5_in
  by_cases h1 : v < lo
  · have h : ¬ (lo ≤ v ∧ v ≤ hi) := fun q => le_n.mp q.1 h1
    rw [if_pos h1, decide_eq_false h]; rfl
  · by_cases h2 : hi < v
    · have h : ¬ (lo ≤ v ∧ v ≤ hi) := fun q => le_n.mp q.2 h2
      rw [if_neg h1, if_pos h2, decide_eq_false h]; rfl
    · rw [if_neg h1, if_neg h2, decide_eq_true ⟨le_n.mpr h1, le_n.mpr h2⟩]; rfl
theorem r5_cells {rw cl ru sz : Nat} {F : Nat → Int32} {R : Nat → Nat → Int32} (h : cs_s rw cl ru sz (R 0)) : m5_cells F R = some (nI (rw * cl)) := by
  unfold m5_cells
  rw [cl_0, cl_1, h.2.1, h.2.2.1, pk_mul]
theorem r5_isCell {rw cl ru sz : Nat} {F : Nat → Int32} {R : Nat → Nat → Int32} (h : cs_s rw cl ru sz (R 0)) (x : Int32) : m5_isCell F R x = some (bi (isC (rw * cl) x)) := by
  have hc := cf_ce h.1
  unfold m5_isCell
  rw [r5_cells h, bd_s, m5_inE, bd_s, isC_in hc.1 (by omega), if_pos (bi_1 _)]
theorem r5_groups {rw cl ru sz : Nat} {F : Nat → Int32} {R : Nat → Nat → Int32} (h : cs_s rw cl ru sz (R 0)) : m5_groups F R = some (nI (gs ru)) := by
  unfold m5_groups
  rw [cl_2, h.2.2.2.1]
  rcases h.1.2.2.2.2.1 with rfl | rfl <;> rfl
theorem r5_channels {rw cl ru sz : Nat} {F : Nat → Int32} {R : Nat → Nat → Int32} (h : cs_s rw cl ru sz (R 0)) : m5_channels F R = some (nI (gs ru * sz)) := by
  unfold m5_channels
  rw [r5_groups h, bd_s, cl_3, h.2.2.2.2, pk_mul]
theorem r5_isChannel {rw cl ru sz : Nat} {F : Nat → Int32} {R : Nat → Nat → Int32} (h : cs_s rw cl ru sz (R 0)) (x : Int32) : m5_isChannel F R x = some (bi (isC (gs ru * sz) x)) := by
  have hc := cf_ch h.1
  unfold m5_isChannel
  rw [r5_channels h, bd_s, m5_inE, bd_s, isC_in hc.1 (by omega), if_pos (bi_1 _)]
def rz (cl ru : Nat) : Nat → Nat → Int32 := fun _ j => if j = 1 then nI cl else nI ru
theorem d5_group : ∀ cl, cl < 5 → ∀ ru, ru < 2 → ∀ c, c < 25 → m5_group z_F (rz (cl + 1) (ru + 2)) (nI c) = some (nI (gp_ (cl + 1) (ru + 2) c)) := by decide +kernel
theorem d5_far : ∀ cl, cl < 6 → 1 ≤ cl → ∀ a, a < 25 → ∀ b, b < 25 → m5_far z_F (rz cl 2) (nI a) (nI b) = some (nI (ds cl a b)) := by decide +kernel
theorem d5_nom : ∀ cl, cl < 5 → ∀ ru, ru < 2 → ∀ c, c < 25 → ∀ q, q < 28 → m5_isNominal z_F (rz (cl + 1) (ru + 2)) (nI c) (nI q) = some (bi (nm (cl + 1) (ru + 2) c q)) := by decide +kernel
theorem r5_group {rw cl ru sz : Nat} {F : Nat → Int32} {R : Nat → Nat → Int32} (h : cs_s rw cl ru sz (R 0)) {c : Nat} (hc : c < 25) : m5_group F R (nI c) = some (nI (gp_ cl ru c)) := by
  have hf := h.1
  unfold cf_ok at hf
  have hd := d5_group (cl - 1) (by omega) (ru - 2) (by omega) c hc
  rw [show cl - 1 + 1 = cl by omega, show ru - 2 + 2 = ru by omega] at hd
  rw [← hd]
  unfold m5_group
  rw [cl_1, cl_2, h.2.2.1, h.2.2.2.1]
  rfl
theorem r5_far {rw cl ru sz : Nat} {F : Nat → Int32} {R : Nat → Nat → Int32} (h : cs_s rw cl ru sz (R 0)) {a b : Nat} (ha : a < 25) (hb : b < 25) : m5_far F R (nI a) (nI b) = some (nI (ds cl a b)) := by
  have hf := h.1
  unfold cf_ok at hf
  rw [← d5_far cl (by omega) (by omega) a ha b hb]
  unfold m5_far
  rw [cl_1, h.2.2.1]
  rfl
theorem r5_nom {rw cl ru sz : Nat} {F : Nat → Int32} {R : Nat → Nat → Int32} (h : cs_s rw cl ru sz (R 0)) {c q : Nat} (hc : c < 25) (hq : q < 28) : m5_isNominal F R (nI c) (nI q) = some (bi (nm cl ru c q)) := by
  have hf := h.1
  unfold cf_ok at hf
  have hd := d5_nom (cl - 1) (by omega) (ru - 2) (by omega) c hc q hq
  rw [show cl - 1 + 1 = cl by omega, show ru - 2 + 2 = ru by omega] at hd
  rw [← hd]
  unfold m5_isNominal m5_groups m5_group
  rw [cl_1, cl_2, h.2.2.1, h.2.2.2.1]
  rfl
theorem r5_uses {F : Nat → Int32} {R : Nat → Nat → Int32} (c q : Nat) : m5_uses F R (nI c) (nI q) = some (bi (us (R 0) c q)) := by
  unfold m5_uses
  have e : wh (m5_uses_L5 R (nI c) (nI q)) 2000 ((0 : Int32), (0 : Int32)) = some (bi (us (R 0) c q)) := by
    refine wh_st (fun i => (bi (an (fun k => decide (R 0 (14 + k) = nI (c + 1)) && decide (R 0 (74 + k) = nI (q + 1))) i), nI i)) 60 _ (by decide) (fun i hi kk => ?_) (fun kk => ?_)
    · have e1 : ¬ (60 : Int32) ≤ nI i := nI_ge hi (by decide)
      have e2 : inb ((14 : Int32) + nI i) 194 := in_at (n := 14) (by omega) (by decide)
      have e3 : ((14 : Int32) + nI i).toNatClampNeg = 14 + i := cl_at (n := 14) (by omega)
      have e4 : inb ((74 : Int32) + nI i) 194 := in_at (n := 74) (by omega) (by decide)
      have e5 : ((74 : Int32) + nI i).toNatClampNeg = 74 + i := cl_at (n := 74) (by omega)
      unfold m5_uses_L5 m5_uses_J53
      dsimp only
      rw [if_neg e1, if_pos e2, if_pos e4, e3, e5, nI_1, nI_1, nI_1, an]
      cases an (fun k => decide (R 0 (14 + k) = nI (c + 1)) && decide (R 0 (74 + k) = nI (q + 1))) i with
      | true => rfl
      | false =>
        by_cases g1 : R 0 (14 + i) = nI (c + 1)
        · by_cases g2 : R 0 (74 + i) = nI (q + 1)
          · simp [g1, g2, bi]
          · simp [g1, g2, bi]
        · simp [g1, bi]
    · rfl
  rw [e, bd_s]
  unfold m5_uses_X60
  rw [if_pos (bi_1 _)]
theorem r5_locks {rw cl ru sz : Nat} {F : Nat → Int32} {R : Nat → Nat → Int32} (h : cs_s rw cl ru sz (R 0)) {c : Nat} (hc : c < 25) (q : Nat) : m5_locks F R (nI c) (nI q) = some (nI (lk rw cl ru (R 0) c q)) := by
  have hcc := cf_ce h.1
  unfold m5_locks
  have e : wh (m5_locks_L5 F R (nI c) (nI q)) 2000 ((0 : Int32), (0 : Int32)) = some (nI (lk rw cl ru (R 0) c q)) := by
    refine wh_st (fun i => (nI (cn (fun k => ne_ cl ru c k && us (R 0) k q) i), nI i)) (rw * cl) _ (by omega) (fun i hi kk => ?_) (fun kk => ?_)
    · have e1 : ¬ nI (rw * cl) ≤ nI i := nI_ge hi (by omega)
      unfold m5_locks_L5 m5_locks_J52
      dsimp only
      rw [r5_cells h, bd_s, if_neg e1, r5_far h (by omega) hc, bd_s, cl_2, h.2.2.2.1, r5_uses, bd_s, nI_1, ← cn_add]
      have hru : ru < 2 ^ 31 := by have hf := h.1; unfold cf_ok at hf; omega
      have g0 : nI i = nI c ↔ i = c := nI_eq (by omega) (by omega)
      have hds : ds cl i c < 2 ^ 31 := ds_lt (by omega) (by omega)
      have g1 : nI ru ≤ nI (ds cl i c) ↔ ru ≤ ds cl i c := nI_leI hru hds
      unfold ne_
      by_cases q0 : i = c
      · rw [if_pos (g0.mpr q0)]
        simp [q0, bi]
      · rw [if_neg (fun w => q0 (g0.mp w))]
        by_cases q1 : ru ≤ ds cl i c
        · rw [if_pos (g1.mpr q1)]
          simp [Nat.not_lt.mpr q1, bi]
        · rw [if_neg (fun w => q1 (g1.mp w))]
          cases us (R 0) i q <;> simp [q0, Nat.lt_of_not_le q1, bi]
    · unfold m5_locks_L5
      dsimp only
      rw [r5_cells h, bd_s, if_pos (nI_le (Nat.le_refl _) (by omega))]
      rfl
  rw [e]; rfl
theorem r5_avail {rw cl ru sz : Nat} {F : Nat → Int32} {R : Nat → Nat → Int32} (h : cs_s rw cl ru sz (R 0)) {c : Nat} (hc : c < 25) (q : Nat) : m5_available F R (nI c) (nI q) = some (bi (av rw cl ru (R 0) c q)) := by
  have hcc := cf_ce h.1
  have hl : lk rw cl ru (R 0) c q ≤ rw * cl := cn_le _ _
  unfold m5_available m5_available_J23 av
  rw [r5_uses, bd_s, r5_locks h hc, bd_s]
  have g : nI (lk rw cl ru (R 0) c q) = 0 ↔ lk rw cl ru (R 0) c q = 0 := nI_eq (b := 0) (by omega) (by decide)
  cases us (R 0) c q with
  | true => rfl
  | false =>
    by_cases g1 : lk rw cl ru (R 0) c q = 0
    · rw [if_pos bi_f, if_pos (g.mpr g1)]
      simp [g1]; rfl
    · rw [if_pos bi_f, if_neg (fun w => g1 (g.mp w))]
      simp [g1]; rfl
theorem r5_burden {rw cl ru sz : Nat} {F : Nat → Int32} {R : Nat → Nat → Int32} (h : cs_s rw cl ru sz (R 0)) {c q : Nat} (hc : c < 25) (hq : q < 28) : m5_burdenOf F R (nI c) (nI q) = some (nI (bd rw cl ru c q)) := by
  have hcc := cf_ce h.1
  unfold m5_burdenOf
  have e : wh (m5_burdenOf_L5 F R (nI c) (nI q)) 2000 ((0 : Int32), (0 : Int32)) = some (nI (bd rw cl ru c q)) := by
    refine wh_st (fun i => (nI (cn (fun k => ne_ cl ru c k && nm cl ru k q) i), nI i)) (rw * cl) _ (by omega) (fun i hi kk => ?_) (fun kk => ?_)
    · have e1 : ¬ nI (rw * cl) ≤ nI i := nI_ge hi (by omega)
      unfold m5_burdenOf_L5 m5_burdenOf_J52
      dsimp only
      rw [r5_cells h, bd_s, if_neg e1, r5_far h (by omega) hc, bd_s, cl_2, h.2.2.2.1, r5_nom h (by omega) hq, bd_s, nI_1, ← cn_add]
      have hru : ru < 2 ^ 31 := by have hf := h.1; unfold cf_ok at hf; omega
      have g0 : nI i = nI c ↔ i = c := nI_eq (by omega) (by omega)
      have hds : ds cl i c < 2 ^ 31 := ds_lt (by omega) (by omega)
      have g1 : nI ru ≤ nI (ds cl i c) ↔ ru ≤ ds cl i c := nI_leI hru hds
      unfold ne_
      by_cases q0 : i = c
      · rw [if_pos (g0.mpr q0)]
        simp [q0, bi]
      · rw [if_neg (fun w => q0 (g0.mp w))]
        by_cases q1 : ru ≤ ds cl i c
        · rw [if_pos (g1.mpr q1)]
          simp [Nat.not_lt.mpr q1, bi]
        · rw [if_neg (fun w => q1 (g1.mp w))]
          cases nm cl ru i q <;> simp [q0, Nat.lt_of_not_le q1, bi]
    · unfold m5_burdenOf_L5
      dsimp only
      rw [r5_cells h, bd_s, if_pos (nI_le (Nat.le_refl _) (by omega))]
      rfl
  rw [e]; rfl
theorem r5_availables {rw cl ru sz : Nat} {F : Nat → Int32} {R : Nat → Nat → Int32} (h : cs_s rw cl ru sz (R 0)) {c : Nat} (hc : c < 25) : m5_availables F R (nI c) = some (nI (as_ rw cl ru sz (R 0) c)) := by
  have hcc := cf_ch h.1
  unfold m5_availables
  have e : wh (m5_availables_L4 F R (nI c)) 2000 ((0 : Int32), (0 : Int32)) = some (nI (as_ rw cl ru sz (R 0) c)) := by
    refine wh_st (fun i => (nI (cn (na_ rw cl ru (R 0) c) i), nI i)) (gs ru * sz) _ (by omega) (fun i hi kk => ?_) (fun kk => ?_)
    · have e1 : ¬ nI (gs ru * sz) ≤ nI i := nI_ge hi (by omega)
      unfold m5_availables_L4 m5_availables_J36
      dsimp only
      rw [r5_channels h, bd_s, if_neg e1, r5_nom h hc (by omega), bd_s, r5_avail h hc, bd_s, nI_1, ← cn_add]
      unfold na_
      cases nm cl ru c i <;> cases av rw cl ru (R 0) c i <;> rfl
    · unfold m5_availables_L4
      dsimp only
      rw [r5_channels h, bd_s, if_pos (nI_le (Nat.le_refl _) (by omega))]
      rfl
  rw [e]; rfl
/-- the lowest available nominal channel -/
def no_ (rw cl ru sz : Nat) (s : Nat → Int32) (c : Nat) : Nat := fi (na_ rw cl ru s c) (gs ru * sz)
def nv (e i : Nat) : Int32 := if i < e then nI i else -9
theorem r5_nominal {rw cl ru sz : Nat} {F : Nat → Int32} {R : Nat → Nat → Int32} (h : cs_s rw cl ru sz (R 0)) {c : Nat} (hc : c < 25) : m5_nominal F R (nI c) = some (nv (gs ru * sz) (no_ rw cl ru sz (R 0) c)) := by
  have hcc := cf_ch h.1
  unfold m5_nominal
  refine wh_eq (fun i t => t = nI i ∧ ∀ k, k < i → na_ rw cl ru (R 0) c k = false) _ (gs ru * sz) (by omega) ⟨rfl, fun k hk => absurd hk (Nat.not_lt_zero k)⟩ (fun i t hi ht => ?_) (fun t ht kk => ?_)
  · obtain ⟨rfl, hn⟩ := ht
    have e1 : ¬ nI (gs ru * sz) ≤ nI i := nI_ge hi (by omega)
    cases hna : na_ rw cl ru (R 0) c i with
    | false =>
      refine Or.inl ⟨nI (i + 1), ⟨rfl, fun k hk => ?_⟩, fun kk => ?_⟩
      · by_cases hki : k = i
        · rw [hki]; exact hna
        · exact hn k (by omega)
      · unfold m5_nominal_L2
        rw [r5_channels h, bd_s, if_neg e1, r5_nom h hc (by omega), bd_s, r5_avail h hc, bd_s, nI_1]
        unfold na_ at hna
        revert hna
        cases nm cl ru c i <;> cases av rw cl ru (R 0) c i <;> intro hna <;> first | rfl | cases hna
    | true =>
      refine Or.inr (fun kk => ?_)
      have hv : nv (gs ru * sz) (no_ rw cl ru sz (R 0) c) = nI i := by
        unfold no_ nv
        rw [fi_is hi hna hn, if_pos hi]
      rw [hv]
      unfold m5_nominal_L2
      rw [r5_channels h, bd_s, if_neg e1, r5_nom h hc (by omega), bd_s, r5_avail h hc, bd_s]
      unfold na_ at hna
      revert hna
      cases nm cl ru c i <;> cases av rw cl ru (R 0) c i <;> intro hna <;> first | rfl | cases hna
  · obtain ⟨rfl, hn⟩ := ht
    have hv : nv (gs ru * sz) (no_ rw cl ru sz (R 0) c) = -9 := by
      unfold no_ nv
      rw [if_neg]
      intro hlt
      have h2 := fi_yes _ _ hlt
      rw [hn _ hlt] at h2; cases h2
    rw [hv]
    unfold m5_nominal_L2
    rw [r5_channels h, bd_s, if_pos (nI_le (Nat.le_refl _) (by omega))]
