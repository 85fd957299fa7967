theorem ic_t {X : Nat → Nat} {x : Int32} (h : ic_ X x = true) : ∃ k, k < 60 ∧ x = nI k ∧ X k ≠ 0 := by
  unfold ic_ at h
  rw [Bool.and_eq_true] at h
  obtain ⟨k, hk, rfl⟩ := isC_t (by decide) h.1
  refine ⟨k, hk, rfl, ?_⟩
  have := of_decide_eq_true h.2
  rw [nI_clamp (by omega)] at this
  exact this
section RD
variable {rw cl ru sz : Nat} {F s : Nat → Int32} {R : Nat → Nat → Int32} {G : Nat → Int32} {Q : Nat → Nat → Int32} {X Y : Nat → Nat} {Z : Nat → Bool}
theorem p4_isCell (h : nr_c rw cl ru sz X Y Z s F R G Q) (x : Int32) : m4_isCell F R G Q x = some (bi (isC (rw * cl) x)) := by
  unfold m4_isCell
  rw [p1_hasCell h, bd_s, if_pos (bi_1 _)]
theorem p4_isChannel (h : nr_c rw cl ru sz X Y Z s F R G Q) (x : Int32) : m4_isChannel F R G Q x = some (bi (isC (gs ru * sz) x)) := by
  have hch := cf_ch h.1.1
  unfold m4_isChannel
  rw [h.2.2.2.1.2.1, m4_isB, isC_in hch.1 (by omega), bd_s, if_pos (bi_1 _)]
theorem us_hi (h : nr_c rw cl ru sz X Y Z s F R G Q) {c q : Nat} (hc : c < 1000) (h1 : gs ru * sz ≤ q) (hq : q < 1000) : us s c q = false := by
  rw [us_n (R := fun _ => s) h.2.1 hc hq]
  refine an_no.mpr (fun k hk => ?_)
  have w := h.2.1.2.2 k hk
  rw [decide_eq_false (by omega : ¬ Y k = q + 1), Bool.and_false]
theorem v4_cells (h : nr_c rw cl ru sz X Y Z s F R G Q) : m4_cellCount F R G Q = some (nI (rw * cl)) := by
  unfold m4_cellCount; rw [h.2.2.2.1.1]
theorem v4_channels (h : nr_c rw cl ru sz X Y Z s F R G Q) : m4_channelCount F R G Q = some (nI (gs ru * sz)) := by
  unfold m4_channelCount; rw [h.2.2.2.1.2.1]
theorem v4_group (h : nr_c rw cl ru sz X Y Z s F R G Q) {c : Nat} (hc : c < rw * cl) : m4_groupOf F R G Q (nI c) = some (nI (gp_ cl ru c)) := by
  have hce := cf_ce h.1.1
  unfold m4_groupOf
  rw [p4_isCell h, bd_s, isC_n (by omega) hc, if_neg (by decide), (q1_at (F := F) (R := R) (by omega)).1, bd_s, (h.2.2.2.1.2.2.2 c hc).2.2.1]; rfl
theorem v4_dist (h : nr_c rw cl ru sz X Y Z s F R G Q) {a b : Nat} (ha : a < rw * cl) (hb : b < rw * cl) : m4_distance F R G Q (nI a) (nI b) = some (nI (ds cl a b)) := by
  have hce := cf_ce h.1.1
  unfold m4_distance
  rw [p4_isCell h, bd_s, isC_n (by omega) ha, if_neg (by decide), p4_isCell h, bd_s, isC_n (by omega) hb, if_neg (by decide), p1_sep h ha hb]; rfl
theorem v4_cellOf (h : nr_c rw cl ru sz X Y Z s F R G Q) {k : Nat} (hk : k < 60) : m4_cellOf F R G Q (nI k) = some (if X k = 0 then -4 else nI (X k - 1)) := by
  unfold m4_cellOf
  rw [p2_present h, bd_s, ic_n hk]
  by_cases hx : X k = 0
  · rw [decide_eq_false (fun z => z hx), if_pos bi_f, if_pos hx]; rfl
  · rw [decide_eq_true hx, if_neg (by decide), p2_cellAt h hk hx, if_neg hx]; rfl
theorem v4_channelOf (h : nr_c rw cl ru sz X Y Z s F R G Q) {k : Nat} (hk : k < 60) : m4_channelOf F R G Q (nI k) = some (if X k = 0 then -4 else chv (Y k)) := by
  unfold m4_channelOf
  rw [p2_present h, bd_s, ic_n hk]
  by_cases hx : X k = 0
  · rw [decide_eq_false (fun z => z hx), if_pos bi_f, if_pos hx]; rfl
  · rw [decide_eq_true hx, if_neg (by decide), p2_channelAt h hk, if_neg hx]; rfl
theorem v4_fixed (h : nr_c rw cl ru sz X Y Z s F R G Q) {k : Nat} (hk : k < 60) : m4_isInFixedScheme F R G Q (nI k) = some (if X k = 0 then -4 else bi (Z k)) := by
  unfold m4_isInFixedScheme
  rw [p2_present h, bd_s, ic_n hk]
  by_cases hx : X k = 0
  · rw [decide_eq_false (fun z => z hx), if_pos bi_f, if_pos hx]; rfl
  · rw [decide_eq_true hx, if_neg (by decide), p2_isFixed h hk, bd_s, m4_asN, if_neg hx]; rfl
theorem v4_avail (h : nr_c rw cl ru sz X Y Z s F R G Q) {c q : Nat} (hc : c < rw * cl) (hq : q < gs ru * sz) : m4_isAvailable F R G Q (nI c) (nI q) = some (bi (av rw cl ru s c q)) := by
  have hce := cf_ce h.1.1
  have hch := cf_ch h.1.1
  obtain ⟨V, v1, v2⟩ := p2_avail h hc
  unfold m4_isAvailable
  rw [p4_isCell h, bd_s, isC_n (by omega) hc, if_neg (by decide), p4_isChannel h, bd_s, isC_n (by omega) hq, if_neg (by decide), v1, bd_s, m4_con _ (by omega), bd_s, v2 q (by omega), decide_eq_true hq, Bool.true_and, m4_asN]; rfl
theorem v4_availables (h : nr_c rw cl ru sz X Y Z s F R G Q) {c : Nat} (hc : c < rw * cl) : m4_availableCount F R G Q (nI c) = some (nI (as_ rw cl ru sz s c)) := by
  have hce := cf_ce h.1.1
  have hch := cf_ch h.1.1
  obtain ⟨V, v1, v2⟩ := p2_availNom h hc
  unfold m4_availableCount
  rw [p4_isCell h, bd_s, isC_n (by omega) hc, if_neg (by decide), v1, bd_s, b_cn (by omega) v2]; rfl
theorem v4_used (h : nr_c rw cl ru sz X Y Z s F R G Q) {c : Nat} (hc : c < rw * cl) : m4_usedCount F R G Q (nI c) = some (nI (cn (us s c) (gs ru * sz))) := by
  have hce := cf_ce h.1.1
  have hch := cf_ch h.1.1
  unfold m4_usedCount
  rw [p4_isCell h, bd_s, isC_n (by omega) hc, if_neg (by decide), (q1_at (G := G) (Q := Q) (by omega)).2.2.2, bd_s, b_cn (p := us s c) (n := gs ru * sz) (by omega) (fun q hq => by
    rw [h.2.2.2.2.2.1 c hc q hq]
    by_cases g : q < gs ru * sz
    · rw [decide_eq_true g, Bool.true_and]
    · rw [decide_eq_false g, Bool.false_and, us_hi h (by omega) (by omega) (by omega)])]; rfl
theorem v4_locked (h : nr_c rw cl ru sz X Y Z s F R G Q) {c : Nat} (hc : c < rw * cl) : ∃ v, m4_lockedCount F R G Q (nI c) = some v := by
  have hce := cf_ce h.1.1
  have hch := cf_ch h.1.1
  obtain ⟨V, v1, v2⟩ := p2_avail h hc
  unfold m4_lockedCount
  rw [p4_isCell h, bd_s, isC_n (by omega) hc, if_neg (by decide), (q1_at (G := G) (Q := Q) (by omega)).2.2.2, bd_s, v1, bd_s, (q1_at (F := F) (R := R) (by omega)).2.1, bd_s, bc_x]
  exact ⟨_, rfl⟩
theorem v4_next (h : nr_c rw cl ru sz X Y Z s F R G Q) {c : Nat} (hc : c < rw * cl) : m4_nextChannel F R G Q (nI c) = some (cv_ rw cl ru sz s c) := by
  have hce := cf_ce h.1.1
  unfold m4_nextChannel
  rw [p4_isCell h, bd_s, isC_n (by omega) hc, if_neg (by decide), (p2_choose h hc).1]; rfl
theorem v4_donor (h : nr_c rw cl ru sz X Y Z s F R G Q) {c : Nat} (hc : c < rw * cl) : m4_nextDonor F R G Q (nI c) = some (dv_ rw cl ru sz s c) := by
  have hce := cf_ce h.1.1
  unfold m4_nextDonor
  rw [p4_isCell h, bd_s, isC_n (by omega) hc, if_neg (by decide), (p2_choose h hc).2]; rfl
theorem v4_blocking (h : nr_c rw cl ru sz X Y Z s F R G Q) : m4_blockingCells F R G Q = some (nI (cn (fun x => decide (cv_ rw cl ru sz s x = -9)) (rw * cl))) := by
  have hce := cf_ce h.1.1
  unfold m4_blockingCells
  have e : wh (m4_blockingCells_L4 F R G Q) 2000 ((0 : Int32), (0 : Int32)) = some (nI (cn (fun x => decide (cv_ rw cl ru sz s x = -9)) (rw * cl))) := by
    refine wh_st (fun i => (nI (cn (fun x => decide (cv_ rw cl ru sz s x = -9)) i), nI i)) (rw * cl) _ (by omega) (fun i hi kk => ?_) (fun kk => ?_)
    · have e1 : ¬ nI (rw * cl) ≤ nI i := nI_ge hi (by omega)
      unfold m4_blockingCells_L4 m4_blockingCells_J34
      dsimp only
      rw [h.2.2.2.1.1, if_neg e1, (p2_choose h hi).1, bd_s, nI_1, nI_1, cn]
      by_cases q : cv_ rw cl ru sz s i = -9
      · rw [if_pos q, decide_eq_true q]; rfl
      · rw [if_neg q, decide_eq_false q]; rfl
    · unfold m4_blockingCells_L4
      dsimp only
      rw [h.2.2.2.1.1, if_pos (nI_le (Nat.le_refl _) (by omega))]
  rw [e]; rfl
theorem v4_calls (h : nr_c rw cl ru sz X Y Z s F R G Q) : m4_callCount F R G Q = some (nI (cls X)) := by
  unfold m4_callCount
  rw [p2_presentCalls h]; rfl
/-- the tale is told -/
theorem v4_tale (h : nr_c rw cl ru sz X Y Z s F R G Q) : ∃ T, mj_tale F R G Q = some T := by
  have hce := cf_ce h.1.1
  obtain ⟨T1, -, w1⟩ : ∃ T : Int64, True ∧ wh (mj_tale_L110 F R G Q) 2000 (_, (0 : Int32)) = some T := wh_iv (b := mj_tale_L110 F R G Q) (t0 := (((((((((nI (rw * cl)).toInt64 * (31 : Int64)) + (nI (gs ru * sz)).toInt64) * (31 : Int64)) + ((nI (cls X)).toInt64 * (3 : Int64))) + ((F 4).toInt64 * (5 : Int64))) + ((F 5).toInt64 * (7 : Int64))) + ((F 6).toInt64 * (11 : Int64))) * (31 : Int64) + ((F 7).toInt64 * (3 : Int64)) + ((F 8).toInt64 * (5 : Int64)) + ((F 9).toInt64 * (7 : Int64)) + ((F 10).toInt64 * (11 : Int64)), (0 : Int32))) (fun i t => t.2 = nI i) (fun _ => True) 60 (by decide) rfl (fun i t hi ht => by
      obtain ⟨t1, t2⟩ := t
      dsimp only at ht
      subst ht
      have e1 : ¬ (60 : Int32) ≤ nI i := nI_ge hi (by decide)
      refine Or.inl ⟨(?xx, nI (i + 1)), rfl, fun kk => ?_⟩
      rotate_left
      unfold mj_tale_L110
      dsimp only
      rw [if_neg e1, v4_cellOf h hi, bd_s, v4_channelOf h hi, bd_s, v4_fixed h hi, bd_s, nI_1]
      rfl) (fun t ht => by
      obtain ⟨t1, t2⟩ := t
      dsimp only at ht
      subst ht
      exact ⟨t1, trivial, fun kk => rfl⟩)
  obtain ⟨T2, -, w2⟩ : ∃ T : Int64, True ∧ wh (mj_tale_L159 F R G Q) 2000 (T1, (0 : Int32)) = some T := wh_iv (b := mj_tale_L159 F R G Q) (t0 := (T1, (0 : Int32))) (fun i t => t.2 = nI i) (fun _ => True) (rw * cl) (by omega) rfl (fun i t hi ht => by
      obtain ⟨t1, t2⟩ := t
      dsimp only at ht
      subst ht
      have e1 : ¬ nI (rw * cl) ≤ nI i := nI_ge hi (by omega)
      obtain ⟨lo, hlo⟩ := v4_locked h hi
      refine Or.inl ⟨(?xy, nI (i + 1)), rfl, fun kk => ?_⟩
      rotate_left
      unfold mj_tale_L159
      dsimp only
      rw [v4_cells h, bd_s, if_neg e1, v4_next h hi, bd_s, v4_availables h hi, bd_s, hlo, bd_s, v4_used h hi, bd_s, v4_donor h hi, bd_s, nI_1]
      rfl) (fun t ht => by
      obtain ⟨t1, t2⟩ := t
      dsimp only at ht
      subst ht
      refine ⟨t1, trivial, fun kk => ?_⟩
      unfold mj_tale_L159
      dsimp only
      rw [v4_cells h, bd_s, if_pos (nI_le (Nat.le_refl _) (by omega))])
  refine ⟨T2, ?_⟩
  unfold mj_tale mj_tale_X157 mj_tale_X230
  rw [v4_cells h, bd_s, v4_channels h, bd_s]
  show ((m4_callCount F R G Q).bind _) = _
  rw [v4_calls h, bd_s]
  show ((wh (mj_tale_L110 F R G Q) 2000 _).bind _) = _
  refine Eq.trans (congrArg (fun t => Option.bind t _) w1) ?_
  rw [bd_s, w2, bd_s]
end RD
