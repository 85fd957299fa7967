/-! THE READING METHODS, both sides -/
theorem ic_t {X : Nat → Nat} {x : Int32} (h : ic_ X x = true) : ∃ k, k < 60 ∧ x = nI k ∧ X k ≠ 0 := by
  unfold ic_ at h
  rw [Bool.and_eq_true] at h
  obtain ⟨k, hk, rfl⟩ := isC_t (by decide) h.1
  refine ⟨k, hk, rfl, ?_⟩
  have := of_decide_eq_true h.2
  rw [nI_clamp (by omega)] at this
  exact this
section RD
variable {rw cl ru sz : Nat} {F s : Nat → Int32} {R : Nat → Nat → Int32} {G : Nat → Int32} {Q : Nat → Nat → Int32} {X Y : Nat → Nat} {Z : Nat → Bool}
theorem p4_isCell (h : nr_c rw cl ru sz X Y Z s F R G Q) (x : Int32) : m4_isCell F R G Q x = some (bi (isC (rw * cl) x)) := by
  unfold m4_isCell
  rw [p1_hasCell h, bd_s, if_pos (bi_1 _)]
theorem p4_isChannel (h : nr_c rw cl ru sz X Y Z s F R G Q) (x : Int32) : m4_isChannel F R G Q x = some (bi (isC (gs ru * sz) x)) := by
  have hch := cf_ch h.1.1
  unfold m4_isChannel
  rw [h.2.2.2.1.2.1, m4_isB, isC_in hch.1 (by omega), bd_s, if_pos (bi_1 _)]
theorem us_hi (h : nr_c rw cl ru sz X Y Z s F R G Q) {c q : Nat} (hc : c < 1000) (h1 : gs ru * sz ≤ q) (hq : q < 1000) : us s c q = false := by
  rw [us_n (R := fun _ => s) h.2.1 hc hq]
  refine an_no.mpr (fun k hk => ?_)
  have w := h.2.1.2.2 k hk
  rw [decide_eq_false (by omega : ¬ Y k = q + 1), Bool.and_false]
end RD
theorem sim_cellCount {p : Nat → Bool} {c k : Nat} {U : Nat → Int32} {V : Nat → Nat → Int32} {N : Nat → ns_T} {F : Nat → Int32} {R : Nat → Nat → Int32} (h : rl_s p c k U V N F R) : ∃ r : Int32, m4_cellCount (N 0).1 (N 0).2.1 (N 0).2.2.1 (N 0).2.2.2 = some r ∧ m5_cellCount F R = some r := by
  obtain ⟨-, -, ⟨rw, cl, ru, sz, X, Y, Z, hn, hcn⟩, -, -⟩ := h
  refine ⟨nI (rw * cl), ?_, ?_⟩
  · unfold m4_cellCount; rw [hn.2.2.2.1.1]
  · unfold m5_cellCount; rw [r5_cells hn.1, bd_s]
theorem sim_channelCount {p : Nat → Bool} {c k : Nat} {U : Nat → Int32} {V : Nat → Nat → Int32} {N : Nat → ns_T} {F : Nat → Int32} {R : Nat → Nat → Int32} (h : rl_s p c k U V N F R) : ∃ r : Int32, m4_channelCount (N 0).1 (N 0).2.1 (N 0).2.2.1 (N 0).2.2.2 = some r ∧ m5_channelCount F R = some r := by
  obtain ⟨-, -, ⟨rw, cl, ru, sz, X, Y, Z, hn, hcn⟩, -, -⟩ := h
  refine ⟨nI (gs ru * sz), ?_, ?_⟩
  · unfold m4_channelCount; rw [hn.2.2.2.1.2.1]
  · unfold m5_channelCount; rw [r5_channels hn.1, bd_s]
theorem sim_groupOf {p : Nat → Bool} {c k : Nat} {U : Nat → Int32} {V : Nat → Nat → Int32} {N : Nat → ns_T} {F : Nat → Int32} {R : Nat → Nat → Int32} (h : rl_s p c k U V N F R) (a1 : Int32) : ∃ r : Int32, m4_groupOf (N 0).1 (N 0).2.1 (N 0).2.2.1 (N 0).2.2.2 a1 = some r ∧ m5_groupOf F R a1 = some r := by
  obtain ⟨-, -, ⟨rw, cl, ru, sz, X, Y, Z, hn, hcn⟩, -, -⟩ := h
  have hce := cf_ce hn.1.1
  unfold m4_groupOf m5_groupOf
  rw [p4_isCell hn, bd_s, r5_isCell hn.1, bd_s]
  cases hx : isC (rw * cl) a1 with
  | false => exact ⟨-1, rfl, rfl⟩
  | true =>
    obtain ⟨c, hc, rfl⟩ := isC_t (by omega) hx
    refine ⟨nI (gp_ cl ru c), ?_, ?_⟩
    · rw [if_neg (by decide), (q1_at (F := (N 0).1) (R := (N 0).2.1) (by omega)).1, bd_s, (hn.2.2.2.1.2.2.2 c hc).2.2.1]; rfl
    · rw [if_neg (by decide), r5_group hn.1 (by omega)]; rfl
theorem sim_distance {p : Nat → Bool} {c k : Nat} {U : Nat → Int32} {V : Nat → Nat → Int32} {N : Nat → ns_T} {F : Nat → Int32} {R : Nat → Nat → Int32} (h : rl_s p c k U V N F R) (a1 : Int32) (a2 : Int32) : ∃ r : Int32, m4_distance (N 0).1 (N 0).2.1 (N 0).2.2.1 (N 0).2.2.2 a1 a2 = some r ∧ m5_distance F R a1 a2 = some r := by
  obtain ⟨-, -, ⟨rw, cl, ru, sz, X, Y, Z, hn, hcn⟩, -, -⟩ := h
  have hce := cf_ce hn.1.1
  unfold m4_distance m5_distance
  rw [p4_isCell hn, bd_s, r5_isCell hn.1, bd_s, p4_isCell hn, r5_isCell hn.1]
  cases hx : isC (rw * cl) a1 with
  | false => exact ⟨-1, rfl, rfl⟩
  | true =>
    rw [if_neg (by decide), if_neg (by decide), bd_s, bd_s]
    cases hy : isC (rw * cl) a2 with
    | false => exact ⟨-1, rfl, rfl⟩
    | true =>
      obtain ⟨a, ha, rfl⟩ := isC_t (by omega) hx
      obtain ⟨b, hb, rfl⟩ := isC_t (by omega) hy
      refine ⟨nI (ds cl a b), ?_, ?_⟩
      · rw [if_neg (by decide), p1_sep hn ha hb]; rfl
      · rw [if_neg (by decide), r5_far hn.1 (by omega) (by omega)]; rfl
theorem sim_cellOf {p : Nat → Bool} {c k : Nat} {U : Nat → Int32} {V : Nat → Nat → Int32} {N : Nat → ns_T} {F : Nat → Int32} {R : Nat → Nat → Int32} (h : rl_s p c k U V N F R) (a1 : Int32) : ∃ r : Int32, m4_cellOf (N 0).1 (N 0).2.1 (N 0).2.2.1 (N 0).2.2.2 a1 = some r ∧ m5_cellOf F R a1 = some r := by
  obtain ⟨-, -, ⟨rw, cl, ru, sz, X, Y, Z, hn, hcn⟩, -, -⟩ := h
  unfold m4_cellOf m5_cellOf
  rw [p2_present hn, bd_s, r5_isCall hn.2.1, bd_s]
  cases hx : ic_ X a1 with
  | false => exact ⟨-4, rfl, rfl⟩
  | true =>
    obtain ⟨k, hk, rfl, hX⟩ := ic_t hx
    obtain ⟨e1, e2, -⟩ := cl_74 hk
    refine ⟨nI (X k - 1), ?_, ?_⟩
    · rw [if_neg (by decide), p2_cellAt hn hk hX]; rfl
    · rw [if_neg (by decide), if_pos e1, e2, (hn.2.1.2.2 k hk).1, show nI (X k) - 1 = nI (X k - 1) from pk_sub (b := 1) (by omega)]; rfl
theorem sim_channelOf {p : Nat → Bool} {c k : Nat} {U : Nat → Int32} {V : Nat → Nat → Int32} {N : Nat → ns_T} {F : Nat → Int32} {R : Nat → Nat → Int32} (h : rl_s p c k U V N F R) (a1 : Int32) : ∃ r : Int32, m4_channelOf (N 0).1 (N 0).2.1 (N 0).2.2.1 (N 0).2.2.2 a1 = some r ∧ m5_channelOf F R a1 = some r := by
  obtain ⟨-, -, ⟨rw, cl, ru, sz, X, Y, Z, hn, hcn⟩, -, -⟩ := h
  unfold m4_channelOf m5_channelOf
  rw [p2_present hn, bd_s, r5_isCall hn.2.1, bd_s]
  cases hx : ic_ X a1 with
  | false => exact ⟨-4, rfl, rfl⟩
  | true =>
    obtain ⟨k, hk, rfl, hX⟩ := ic_t hx
    refine ⟨chv (Y k), ?_, ?_⟩
    · rw [if_neg (by decide), p2_channelAt hn hk]; rfl
    · rw [if_neg (by decide), r5_channelNow hn.2.1 hk]; rfl
theorem sim_isBorrowed {p : Nat → Bool} {c k : Nat} {U : Nat → Int32} {V : Nat → Nat → Int32} {N : Nat → ns_T} {F : Nat → Int32} {R : Nat → Nat → Int32} (h : rl_s p c k U V N F R) (a1 : Int32) : ∃ r : Int32, m4_isBorrowed (N 0).1 (N 0).2.1 (N 0).2.2.1 (N 0).2.2.2 a1 = some r ∧ m5_isBorrowed F R a1 = some r := by
  obtain ⟨-, -, ⟨rw, cl, ru, sz, X, Y, Z, hn, hcn⟩, -, -⟩ := h
  unfold m4_isBorrowed m5_isBorrowed
  rw [p2_present hn, bd_s, r5_isCall hn.2.1, bd_s]
  cases hx : ic_ X a1 with
  | false => exact ⟨-4, rfl, rfl⟩
  | true =>
    obtain ⟨k, hk, rfl, hX⟩ := ic_t hx
    refine ⟨bi (bo_ cl ru X Y k), ?_, ?_⟩
    · rw [if_neg (by decide), p2_borrows hn hk, bd_s, m4_asN]; rfl
    · rw [if_neg (by decide), r5_borrowed hn.1 hn.2.1 hk, bd_s]
      cases bo_ cl ru X Y k <;> rfl
theorem sim_isInFixedScheme {p : Nat → Bool} {c k : Nat} {U : Nat → Int32} {V : Nat → Nat → Int32} {N : Nat → ns_T} {F : Nat → Int32} {R : Nat → Nat → Int32} (h : rl_s p c k U V N F R) (a1 : Int32) : ∃ r : Int32, m4_isInFixedScheme (N 0).1 (N 0).2.1 (N 0).2.2.1 (N 0).2.2.2 a1 = some r ∧ m5_isInFixedScheme F R a1 = some r := by
  obtain ⟨-, -, ⟨rw, cl, ru, sz, X, Y, Z, hn, hcn⟩, -, -⟩ := h
  unfold m4_isInFixedScheme m5_isInFixedScheme
  rw [p2_present hn, bd_s, r5_isCall hn.2.1, bd_s]
  cases hx : ic_ X a1 with
  | false => exact ⟨-4, rfl, rfl⟩
  | true =>
    obtain ⟨k, hk, rfl, hX⟩ := ic_t hx
    obtain ⟨e1, e2, e3, e4, e5, e6⟩ := cl_74 hk
    refine ⟨bi (Z k), ?_, ?_⟩
    · rw [if_neg (by decide), p2_isFixed hn hk, bd_s, m4_asN]; rfl
    · rw [if_neg (by decide), if_pos e5, e6, (hn.2.1.2.2 k hk).2.2.1]; rfl
theorem sim_isAvailable {p : Nat → Bool} {c k : Nat} {U : Nat → Int32} {V : Nat → Nat → Int32} {N : Nat → ns_T} {F : Nat → Int32} {R : Nat → Nat → Int32} (h : rl_s p c k U V N F R) (a1 : Int32) (a2 : Int32) : ∃ r : Int32, m4_isAvailable (N 0).1 (N 0).2.1 (N 0).2.2.1 (N 0).2.2.2 a1 a2 = some r ∧ m5_isAvailable F R a1 a2 = some r := by
  obtain ⟨-, -, ⟨rw, cl, ru, sz, X, Y, Z, hn, hcn⟩, -, -⟩ := h
  have hce := cf_ce hn.1.1
  have hch := cf_ch hn.1.1
  unfold m4_isAvailable m5_isAvailable
  rw [p4_isCell hn, bd_s, r5_isCell hn.1, bd_s, p4_isChannel hn, r5_isChannel hn.1]
  cases hx : isC (rw * cl) a1 with
  | false => exact ⟨-1, rfl, rfl⟩
  | true =>
    rw [if_neg (by decide), if_neg (by decide), bd_s, bd_s]
    cases hy : isC (gs ru * sz) a2 with
    | false => exact ⟨-1, rfl, rfl⟩
    | true =>
      obtain ⟨c, hc, rfl⟩ := isC_t (by omega) hx
      obtain ⟨q, hq, rfl⟩ := isC_t (by omega) hy
      obtain ⟨V, v1, v2⟩ := p2_avail hn hc
      refine ⟨bi (av rw cl ru (R 0) c q), ?_, ?_⟩
      · rw [if_neg (by decide), v1, bd_s, m4_con _ (by omega), bd_s, v2 q (by omega), decide_eq_true hq, Bool.true_and, m4_asN]; rfl
      · rw [if_neg (by decide), r5_avail hn.1 (by omega), bd_s]
        cases av rw cl ru (R 0) c q <;> rfl
theorem sim_lockCount {p : Nat → Bool} {c k : Nat} {U : Nat → Int32} {V : Nat → Nat → Int32} {N : Nat → ns_T} {F : Nat → Int32} {R : Nat → Nat → Int32} (h : rl_s p c k U V N F R) (a1 : Int32) (a2 : Int32) : ∃ r : Int32, m4_lockCount (N 0).1 (N 0).2.1 (N 0).2.2.1 (N 0).2.2.2 a1 a2 = some r ∧ m5_lockCount F R a1 a2 = some r := by
  obtain ⟨-, -, ⟨rw, cl, ru, sz, X, Y, Z, hn, hcn⟩, -, -⟩ := h
  have hce := cf_ce hn.1.1
  have hch := cf_ch hn.1.1
  unfold m4_lockCount m5_lockCount
  rw [p4_isCell hn, bd_s, r5_isCell hn.1, bd_s, p4_isChannel hn, r5_isChannel hn.1]
  cases hx : isC (rw * cl) a1 with
  | false => exact ⟨-1, rfl, rfl⟩
  | true =>
    rw [if_neg (by decide), if_neg (by decide), bd_s, bd_s]
    cases hy : isC (gs ru * sz) a2 with
    | false => exact ⟨-1, rfl, rfl⟩
    | true =>
      obtain ⟨c, hc, rfl⟩ := isC_t (by omega) hx
      obtain ⟨q, hq, rfl⟩ := isC_t (by omega) hy
      refine ⟨nI (lk rw cl ru (R 0) c q), ?_, ?_⟩
      · rw [if_neg (by decide), p2_lockers hn hc hq]; rfl
      · rw [if_neg (by decide), r5_locks hn.1 (by omega)]; rfl
theorem sim_burden {p : Nat → Bool} {c k : Nat} {U : Nat → Int32} {V : Nat → Nat → Int32} {N : Nat → ns_T} {F : Nat → Int32} {R : Nat → Nat → Int32} (h : rl_s p c k U V N F R) (a1 : Int32) (a2 : Int32) : ∃ r : Int32, m4_burden (N 0).1 (N 0).2.1 (N 0).2.2.1 (N 0).2.2.2 a1 a2 = some r ∧ m5_burden F R a1 a2 = some r := by
  obtain ⟨-, -, ⟨rw, cl, ru, sz, X, Y, Z, hn, hcn⟩, -, -⟩ := h
  have hce := cf_ce hn.1.1
  have hch := cf_ch hn.1.1
  unfold m4_burden m5_burden
  rw [p4_isCell hn, bd_s, r5_isCell hn.1, bd_s, p4_isChannel hn, r5_isChannel hn.1]
  cases hx : isC (rw * cl) a1 with
  | false => exact ⟨-1, rfl, rfl⟩
  | true =>
    rw [if_neg (by decide), if_neg (by decide), bd_s, bd_s]
    cases hy : isC (gs ru * sz) a2 with
    | false => exact ⟨-1, rfl, rfl⟩
    | true =>
      obtain ⟨c, hc, rfl⟩ := isC_t (by omega) hx
      obtain ⟨q, hq, rfl⟩ := isC_t (by omega) hy
      refine ⟨nI (bd rw cl ru c q), ?_, ?_⟩
      · rw [if_neg (by decide), p1_burden hn hc hq]; rfl
      · rw [if_neg (by decide), r5_burden hn.1 (by omega) (by omega)]; rfl
theorem sim_availableCount {p : Nat → Bool} {c k : Nat} {U : Nat → Int32} {V : Nat → Nat → Int32} {N : Nat → ns_T} {F : Nat → Int32} {R : Nat → Nat → Int32} (h : rl_s p c k U V N F R) (a1 : Int32) : ∃ r : Int32, m4_availableCount (N 0).1 (N 0).2.1 (N 0).2.2.1 (N 0).2.2.2 a1 = some r ∧ m5_availableCount F R a1 = some r := by
  obtain ⟨-, -, ⟨rw, cl, ru, sz, X, Y, Z, hn, hcn⟩, -, -⟩ := h
  have hce := cf_ce hn.1.1
  have hch := cf_ch hn.1.1
  unfold m4_availableCount m5_availableCount
  rw [p4_isCell hn, bd_s, r5_isCell hn.1, bd_s]
  cases hx : isC (rw * cl) a1 with
  | false => exact ⟨-1, rfl, rfl⟩
  | true =>
    obtain ⟨c, hc, rfl⟩ := isC_t (by omega) hx
    obtain ⟨V, v1, v2⟩ := p2_availNom hn hc
    refine ⟨nI (as_ rw cl ru sz (R 0) c), ?_, ?_⟩
    · rw [if_neg (by decide), v1, bd_s, b_cn (by omega) v2]; rfl
    · rw [if_neg (by decide), r5_availables hn.1 (by omega)]; rfl
theorem sim_usedCount {p : Nat → Bool} {c k : Nat} {U : Nat → Int32} {V : Nat → Nat → Int32} {N : Nat → ns_T} {F : Nat → Int32} {R : Nat → Nat → Int32} (h : rl_s p c k U V N F R) (a1 : Int32) : ∃ r : Int32, m4_usedCount (N 0).1 (N 0).2.1 (N 0).2.2.1 (N 0).2.2.2 a1 = some r ∧ m5_usedCount F R a1 = some r := by
  obtain ⟨-, -, ⟨rw, cl, ru, sz, X, Y, Z, hn, hcn⟩, -, -⟩ := h
  have hce := cf_ce hn.1.1
  have hch := cf_ch hn.1.1
  unfold m4_usedCount m5_usedCount
  rw [p4_isCell hn, bd_s, r5_isCell hn.1, bd_s]
  cases hx : isC (rw * cl) a1 with
  | false => exact ⟨-1, rfl, rfl⟩
  | true =>
    obtain ⟨c, hc, rfl⟩ := isC_t (by omega) hx
    refine ⟨nI (cn (us (R 0) c) (gs ru * sz)), ?_, ?_⟩
    · rw [if_neg (by decide), (q1_at (by omega)).2.2.2, bd_s, b_cn (p := us (R 0) c) (n := gs ru * sz) (by omega) (fun q hq => by
        rw [hn.2.2.2.2.2.1 c hc q hq]
        by_cases g : q < gs ru * sz
        · rw [decide_eq_true g, Bool.true_and]
        · rw [decide_eq_false g, Bool.false_and, us_hi hn (by omega) (by omega) (by omega)])]; rfl
    · rw [if_neg (by decide)]
      have e : wh (m5_usedCount_L14 F R (nI c)) 2000 ((0 : Int32), (0 : Int32)) = some (nI (cn (us (R 0) c) (gs ru * sz))) := by
        refine wh_st (fun i => (nI (cn (us (R 0) c) i), nI i)) (gs ru * sz) _ (by omega) (fun i hi kk => ?_) (fun kk => ?_)
        · have e1 : ¬ nI (gs ru * sz) ≤ nI i := nI_ge hi (by omega)
          unfold m5_usedCount_L14 m5_usedCount_J37
          dsimp only
          rw [r5_channels hn.1, bd_s, if_neg e1, r5_uses, bd_s, nI_1, ← cn_add]
          cases us (R 0) c i <;> rfl
        · unfold m5_usedCount_L14
          dsimp only
          rw [r5_channels hn.1, bd_s, if_pos (nI_le (Nat.le_refl _) (by omega))]
      rw [e]; rfl
theorem sim_lockedCount {p : Nat → Bool} {c k : Nat} {U : Nat → Int32} {V : Nat → Nat → Int32} {N : Nat → ns_T} {F : Nat → Int32} {R : Nat → Nat → Int32} (h : rl_s p c k U V N F R) (a1 : Int32) : ∃ r : Int32, m4_lockedCount (N 0).1 (N 0).2.1 (N 0).2.2.1 (N 0).2.2.2 a1 = some r ∧ m5_lockedCount F R a1 = some r := by
  obtain ⟨-, -, ⟨rw, cl, ru, sz, X, Y, Z, hn, hcn⟩, -, -⟩ := h
  have hce := cf_ce hn.1.1
  have hch := cf_ch hn.1.1
  unfold m4_lockedCount m5_lockedCount
  rw [p4_isCell hn, bd_s, r5_isCell hn.1, bd_s]
  cases hx : isC (rw * cl) a1 with
  | false => exact ⟨-1, rfl, rfl⟩
  | true =>
    obtain ⟨c, hc, rfl⟩ := isC_t (by omega) hx
    obtain ⟨V, v1, v2⟩ := p2_avail hn hc
    refine ⟨nI (cn (fun q => nm cl ru c q && (!us (R 0) c q && !decide (lk rw cl ru (R 0) c q = 0))) (gs ru * sz)), ?_, ?_⟩
    · rw [if_neg (by decide), (q1_at (by omega)).2.2.2, bd_s, v1, bd_s, (q1_at (F := F) (R := R) (by omega)).2.1, bd_s, b_cn (p := fun q => nm cl ru c q && (!us (R 0) c q && !decide (lk rw cl ru (R 0) c q = 0))) (n := gs ru * sz) (by omega) (fun q hq => by
        rw [b_and, b_xor, b_or, b_m1 q hq, v2 q hq, hn.2.2.2.2.2.1 c hc q hq, (hn.2.2.2.1.2.2.2 c hc).2.2.2.1 q hq]
        unfold av
        cases decide (q < gs ru * sz) <;> cases nm cl ru c q <;> cases us (R 0) c q <;> cases decide (lk rw cl ru (R 0) c q = 0) <;> rfl), bd_s]
    · rw [if_neg (by decide)]
      have e : wh (m5_lockedCount_L14 F R (nI c)) 2000 ((0 : Int32), (0 : Int32)) = some (nI (cn (fun q => nm cl ru c q && (!us (R 0) c q && !decide (lk rw cl ru (R 0) c q = 0))) (gs ru * sz))) := by
        refine wh_st (fun i => (nI (cn (fun q => nm cl ru c q && (!us (R 0) c q && !decide (lk rw cl ru (R 0) c q = 0))) i), nI i)) (gs ru * sz) _ (by omega) (fun i hi kk => ?_) (fun kk => ?_)
        · have e1 : ¬ nI (gs ru * sz) ≤ nI i := nI_ge hi (by omega)
          have hl : lk rw cl ru (R 0) c i ≤ rw * cl := cn_le _ _
          unfold m5_lockedCount_L14 m5_lockedCount_J55
          dsimp only
          rw [r5_channels hn.1, bd_s, if_neg e1, r5_nom hn.1 (by omega) (by omega), bd_s, r5_uses, bd_s, r5_locks hn.1 (by omega), bd_s, nI_1, ← cn_add]
          have g : (if nI (lk rw cl ru (R 0) c i) ≤ 0 then some (0 : Int32) else some (1 : Int32)) = some (bi (!decide (lk rw cl ru (R 0) c i = 0))) := by
            by_cases q : lk rw cl ru (R 0) c i = 0
            · rw [q, if_pos (by decide)]; rfl
            · rw [if_neg (nI_nle (by omega) (by omega)), decide_eq_false q]; rfl
          rw [g]
          cases nm cl ru c i <;> cases us (R 0) c i <;> cases decide (lk rw cl ru (R 0) c i = 0) <;> rfl
        · unfold m5_lockedCount_L14
          dsimp only
          rw [r5_channels hn.1, bd_s, if_pos (nI_le (Nat.le_refl _) (by omega))]
      rw [e]; rfl
theorem sim_callCount {p : Nat → Bool} {c k : Nat} {U : Nat → Int32} {V : Nat → Nat → Int32} {N : Nat → ns_T} {F : Nat → Int32} {R : Nat → Nat → Int32} (h : rl_s p c k U V N F R) : ∃ r : Int32, m4_callCount (N 0).1 (N 0).2.1 (N 0).2.2.1 (N 0).2.2.2 = some r ∧ m5_callCount F R = some r := by
  obtain ⟨-, -, ⟨rw, cl, ru, sz, X, Y, Z, hn, hcn⟩, -, -⟩ := h
  refine ⟨nI (cls X), ?_, ?_⟩
  · unfold m4_callCount; rw [p2_presentCalls hn, bd_s]
  · unfold m5_callCount; rw [r5_calls hn.2.1, bd_s]
theorem sim_attempts {p : Nat → Bool} {c k : Nat} {U : Nat → Int32} {V : Nat → Nat → Int32} {N : Nat → ns_T} {F : Nat → Int32} {R : Nat → Nat → Int32} (h : rl_s p c k U V N F R) : ∃ r : Int32, m4_attempts (N 0).1 (N 0).2.1 (N 0).2.2.1 (N 0).2.2.2 = some r ∧ m5_attempts F R = some r := by
  obtain ⟨-, -, ⟨rw, cl, ru, sz, X, Y, Z, hn, hcn⟩, -, -⟩ := h
  exact ⟨_, rfl, by unfold m5_attempts; rw [cl_7]; exact congrArg some (hcn 0 (by decide)).symm⟩
theorem sim_blocked {p : Nat → Bool} {c k : Nat} {U : Nat → Int32} {V : Nat → Nat → Int32} {N : Nat → ns_T} {F : Nat → Int32} {R : Nat → Nat → Int32} (h : rl_s p c k U V N F R) : ∃ r : Int32, m4_blocked (N 0).1 (N 0).2.1 (N 0).2.2.1 (N 0).2.2.2 = some r ∧ m5_blocked F R = some r := by
  obtain ⟨-, -, ⟨rw, cl, ru, sz, X, Y, Z, hn, hcn⟩, -, -⟩ := h
  exact ⟨_, rfl, by unfold m5_blocked; rw [cl_8]; exact congrArg some (hcn 1 (by decide)).symm⟩
theorem sim_blockedInFixedScheme {p : Nat → Bool} {c k : Nat} {U : Nat → Int32} {V : Nat → Nat → Int32} {N : Nat → ns_T} {F : Nat → Int32} {R : Nat → Nat → Int32} (h : rl_s p c k U V N F R) : ∃ r : Int32, m4_blockedInFixedScheme (N 0).1 (N 0).2.1 (N 0).2.2.1 (N 0).2.2.2 = some r ∧ m5_blockedInFixedScheme F R = some r := by
  obtain ⟨-, -, ⟨rw, cl, ru, sz, X, Y, Z, hn, hcn⟩, -, -⟩ := h
  exact ⟨_, rfl, by unfold m5_blockedInFixedScheme; rw [cl_9]; exact congrArg some (hcn 2 (by decide)).symm⟩
theorem sim_dropped {p : Nat → Bool} {c k : Nat} {U : Nat → Int32} {V : Nat → Nat → Int32} {N : Nat → ns_T} {F : Nat → Int32} {R : Nat → Nat → Int32} (h : rl_s p c k U V N F R) : ∃ r : Int32, m4_dropped (N 0).1 (N 0).2.1 (N 0).2.2.1 (N 0).2.2.2 = some r ∧ m5_dropped F R = some r := by
  obtain ⟨-, -, ⟨rw, cl, ru, sz, X, Y, Z, hn, hcn⟩, -, -⟩ := h
  exact ⟨_, rfl, by unfold m5_dropped; rw [cl_10]; exact congrArg some (hcn 3 (by decide)).symm⟩
theorem sim_droppedInFixedScheme {p : Nat → Bool} {c k : Nat} {U : Nat → Int32} {V : Nat → Nat → Int32} {N : Nat → ns_T} {F : Nat → Int32} {R : Nat → Nat → Int32} (h : rl_s p c k U V N F R) : ∃ r : Int32, m4_droppedInFixedScheme (N 0).1 (N 0).2.1 (N 0).2.2.1 (N 0).2.2.2 = some r ∧ m5_droppedInFixedScheme F R = some r := by
  obtain ⟨-, -, ⟨rw, cl, ru, sz, X, Y, Z, hn, hcn⟩, -, -⟩ := h
  exact ⟨_, rfl, by unfold m5_droppedInFixedScheme; rw [cl_11]; exact congrArg some (hcn 4 (by decide)).symm⟩
theorem sim_borrowings {p : Nat → Bool} {c k : Nat} {U : Nat → Int32} {V : Nat → Nat → Int32} {N : Nat → ns_T} {F : Nat → Int32} {R : Nat → Nat → Int32} (h : rl_s p c k U V N F R) : ∃ r : Int32, m4_borrowings (N 0).1 (N 0).2.1 (N 0).2.2.1 (N 0).2.2.2 = some r ∧ m5_borrowings F R = some r := by
  obtain ⟨-, -, ⟨rw, cl, ru, sz, X, Y, Z, hn, hcn⟩, -, -⟩ := h
  exact ⟨_, rfl, by unfold m5_borrowings; rw [cl_12]; exact congrArg some (hcn 5 (by decide)).symm⟩
theorem sim_returns {p : Nat → Bool} {c k : Nat} {U : Nat → Int32} {V : Nat → Nat → Int32} {N : Nat → ns_T} {F : Nat → Int32} {R : Nat → Nat → Int32} (h : rl_s p c k U V N F R) : ∃ r : Int32, m4_returns (N 0).1 (N 0).2.1 (N 0).2.2.1 (N 0).2.2.2 = some r ∧ m5_returns F R = some r := by
  obtain ⟨-, -, ⟨rw, cl, ru, sz, X, Y, Z, hn, hcn⟩, -, -⟩ := h
  exact ⟨_, rfl, by unfold m5_returns; rw [cl_13]; exact congrArg some (hcn 6 (by decide)).symm⟩
