theorem la_cong {p q : Nat → Bool} : ∀ {n : Nat}, (∀ k, k < n → p k = q k) → la p n = la q n
  | 0, _ => rfl
  | n + 1, h => by rw [la, la, la_cong (fun k hk => h k (by omega)), h n (by omega)]
theorem nar_b (b : Bool) : vp_nar .boolean (bi b) = bi b := by cases b <;> rfl
section CH
variable {rw cl ru sz : Nat} {F s : Nat → Int32} {R : Nat → Nat → Int32} {G : Nat → Int32} {Q : Nat → Nat → Int32} {X Y : Nat → Nat} {Z : Nat → Bool}
/-- the class's -/
theorem p2_rank (h : nr_c rw cl ru sz X Y Z s F R G Q) {c d : Nat} (hc : c < rw * cl) (hd : d < rw * cl) : m2_rankOf F R G Q (nI d) (nI (as_ rw cl ru sz s d)) (nI c) = some (rk_ rw cl ru sz s c d) := by
  have hce := cf_ce h.1.1
  have hg := gp_lt h.1.1 d
  have hf := h.1.1
  unfold cf_ok at hf
  have hgs : gs ru ≤ gs ru * sz := Nat.le_mul_of_pos_right _ (by omega)
  unfold m2_rankOf rk_
  rw [h.2.2.2.2.2.2.1]
  by_cases q0 : s 4 = 0
  · rw [if_pos q0, if_pos q0]
  · rw [if_neg q0, if_neg q0]
    by_cases q2 : s 4 = 2
    · rw [if_pos q2, if_pos q2, (q1_at (F := F) (R := R) (by omega)).1, bd_s, (h.2.2.2.1.2.2.2 d hd).2.2.1, p1_burden h hc (by omega), bd_s]
    · rw [if_neg q2, if_neg q2]
theorem b_nz {V : Int32} {p : Nat → Bool} {n : Nat} (hn : n ≤ 32) (h : ∀ q, q < 32 → bt V q = (decide (q < n) && p q)) : V = 0 ↔ an p n = false := by
  constructor
  · intro hV
    refine an_no.mpr (fun k hk => ?_)
    have := h k (by omega)
    rw [hV, b_0, decide_eq_true hk, Bool.true_and] at this
    exact this.symm
  · intro ha
    refine b_ext (fun i hi => ?_)
    rw [h i hi, b_0]
    by_cases q : i < n
    · rw [an_no.mp ha i q, Bool.and_false]
    · rw [decide_eq_false q, Bool.false_and]
theorem b_cn {V : Int32} {p : Nat → Bool} {n : Nat} (hn : n ≤ 32) (h : ∀ q, q < 32 → bt V q = (decide (q < n) && p q)) : mj_bitCount V = some (nI (cn p n)) := by
  rw [bc_x, cn_ext hn (fun k h1 h2 => by rw [h k h2, decide_eq_false (by omega), Bool.false_and]), cn_cong (fun k hk => by rw [h k (by omega), decide_eq_true hk, Bool.true_and])]
theorem p2_donor (h : nr_c rw cl ru sz X Y Z s F R G Q) {c : Nat} (hc : c < rw * cl) {V : Int32} (hV : ∀ q, q < 32 → bt V q = (decide (q < gs ru * sz) && av rw cl ru s c q)) : m2_bestDonor F R G Q (nI c) V = some (chv (bb_ rw cl ru sz s c)) := by
  have hce := cf_ce h.1.1
  have hch := cf_ch h.1.1
  unfold m2_bestDonor
  have e : wh (m2_bestDonor_L10 F R G Q (nI c) V) 2000 ((-9 : Int32), (25 : Int32), (0 : Int32)) = some (chv (bb_ rw cl ru sz s c)) := by
    refine wh_st (fun d => (chv (bs_ rw cl ru sz s c d).1, (bs_ rw cl ru sz s c d).2, nI d)) (rw * cl) _ (by omega) (fun d hd kk => ?_) (fun kk => ?_)
    · have hb := bs_p (s := s) h.1.1 hc d
      have e1 : ¬ nI (rw * cl) ≤ nI d := nI_ge hd (by omega)
      have hds : ds cl c d < 2 ^ 31 := ds_lt (by omega) (by omega)
      unfold m2_bestDonor_L10 m2_bestDonor_J41 m2_bestDonor_J112
      dsimp only
      rw [h.2.2.2.1.1, if_neg e1, p1_sep h hc hd, bd_s, nI_1, bs_]
      have hop : ∀ q, q < 32 → bt (V &&& Q 3 d) q = (decide (q < gs ru * sz) && op_ rw cl ru s c d q) := fun q hq => by
        rw [b_and, hV q hq, (h.2.2.2.1.2.2.2 d hd).2.2.2.1 q hq]
        unfold op_
        cases decide (q < gs ru * sz) <;> cases av rw cl ru s c q <;> cases nm cl ru d q <;> rfl
      unfold dn_
      by_cases g : ds cl d c = 1
      · have g' : nI (ds cl c d) = 1 := by rw [ds_comm, g]; rfl
        rw [if_pos g', decide_eq_true g, bd_s, if_neg (by decide), (q1_at (F := F) (R := R) (by omega)).2.1, bd_s, Bool.true_and]
        cases ho : an (op_ rw cl ru s c d) (gs ru * sz) with
        | false =>
          rw [if_pos ((b_nz (by omega) hop).mpr ho), bd_s, Bool.and_false, Bool.false_and, if_neg (by decide)]
        | true =>
          rw [if_neg (fun z => by rw [(b_nz (by omega) hop).mp z] at ho; cases ho), Bool.and_true]
          obtain ⟨V', hV1, hV2⟩ := p2_availNom h hd
          rw [hV1, bd_s, b_cn (by omega) hV2, bd_s, h.2.2.2.2.2.2.2.1]
          show ((if nI (as_ rw cl ru sz s d) ≤ s 5 then some (25 : Int32) else (m2_rankOf F R G Q (nI d) (nI (as_ rw cl ru sz s d)) (nI c)).bind fun v27 => some v27).bind fun v22 => m2_bestDonor_J96 (chv (bs_ rw cl ru sz s c d).1) (bs_ rw cl ru sz s c d).2 (nI d) v22).bind _ = _
          unfold m2_bestDonor_J96
          by_cases g5 : nI (as_ rw cl ru sz s d) ≤ s 5
          · have hle : (bs_ rw cl ru sz s c d).2 ≤ 25 := by
              rcases hb.2 with w | w
              · rw [w.2]; decide
              · rw [Int32.le_iff_toInt_le]; have := Int32.lt_iff_toInt_lt.mp w.2.1; omega
            rw [if_pos g5, bd_s, if_pos hle, bd_s, decide_eq_false (le_n.mp g5), Bool.false_and, if_neg (by decide)]
          · have g6 : s 5 < nI (as_ rw cl ru sz s d) := Decidable.not_not.mp (fun z => g5 (le_n.mpr z))
            rw [if_neg g5, p2_rank h hc hd, bd_s, bd_s, decide_eq_true g6, Bool.true_and]
            by_cases g7 : rk_ rw cl ru sz s c d < (bs_ rw cl ru sz s c d).2
            · rw [if_neg (fun z => le_n.mp z g7), bd_s, decide_eq_true g7, if_pos rfl]; rfl
            · rw [if_pos (le_n.mpr g7), bd_s, decide_eq_false g7, if_neg (by decide)]
      · have g' : ¬ nI (ds cl c d) = 1 := fun z => g (by rw [ds_comm]; exact (nI_eq hds (by decide)).mp z)
        rw [if_neg g', decide_eq_false g, bd_s, if_pos rfl, bd_s, Bool.false_and, Bool.false_and, Bool.false_and, if_neg (by decide)]
    · unfold m2_bestDonor_L10
      dsimp only
      rw [h.2.2.2.1.1, if_pos (nI_le (Nat.le_refl _) (by omega))]
      rfl
  rw [e]; rfl
theorem no_an {c : Nat} : no_ rw cl ru sz s c < gs ru * sz ↔ an (na_ rw cl ru s c) (gs ru * sz) = true := by
  constructor
  · exact fun q => an_iff.mpr ⟨_, q, fi_yes _ _ q⟩
  · intro q
    have hle := fi_le (na_ rw cl ru s c) (gs ru * sz)
    by_cases z : no_ rw cl ru sz s c < gs ru * sz
    · exact z
    · have : fi (na_ rw cl ru s c) (gs ru * sz) = gs ru * sz := by unfold no_ at z; omega
      obtain ⟨k, k1, k2⟩ := an_iff.mp q
      rw [fi_none this k k1] at k2; cases k2
theorem p2_choose (h : nr_c rw cl ru sz X Y Z s F R G Q) {c : Nat} (hc : c < rw * cl) : m2_chooseChannel F R G Q (nI c) = some (cv_ rw cl ru sz s c) ∧ m2_chooseDonor F R G Q (nI c) = some (dv_ rw cl ru sz s c) := by
  have hce := cf_ce h.1.1
  have hch := cf_ch h.1.1
  obtain ⟨V, hV1, hV⟩ := p2_avail h hc
  have hop : ∀ d, d < rw * cl → ∀ q, q < 32 → bt (V &&& Q 3 d) q = (decide (q < gs ru * sz) && op_ rw cl ru s c d q) := fun d hd q hq => by
    rw [b_and, hV q hq, (h.2.2.2.1.2.2.2 d hd).2.2.2.1 q hq]
    unfold op_
    cases decide (q < gs ru * sz) <;> cases av rw cl ru s c q <;> cases nm cl ru d q <;> rfl
  have hna : ∀ q, op_ rw cl ru s c c q = na_ rw cl ru s c q := fun q => Bool.and_comm _ _
  have hz : (V &&& Q 3 c) = 0 ↔ ¬ no_ rw cl ru sz s c < gs ru * sz := by
    rw [b_nz (by omega) (hop c hc), no_an, an_cong (fun k _ => hna k)]
    exact ⟨fun q w => (by rw [q] at w; cases w), fun q => Bool.eq_false_iff.mpr q⟩
  have hb := bs_p (s := s) h.1.1 hc (rw * cl)
  have hbb : (bs_ rw cl ru sz s c (rw * cl)).1 = bb_ rw cl ru sz s c := rfl
  rw [hbb] at hb
  unfold m2_chooseChannel m2_chooseDonor m2_chooseDonor_J24 cv_ dv_
  rw [hV1, bd_s, bd_s, (q1_at (F := F) (R := R) (by omega)).2.1, bd_s, bd_s]
  by_cases q : no_ rw cl ru sz s c < gs ru * sz
  · have hnz : ¬ (V &&& Q 3 c) = 0 := fun z => hz.mp z q
    rw [if_neg hnz, if_neg hnz, if_pos q, if_pos q, p2_low h.2.2.2.1.2.1 hch.2, bd_s, bd_s, if_neg (by decide)]
    refine ⟨?_, rfl⟩
    rw [fi_cong (q := na_ rw cl ru s c) (fun k hk => by rw [hop c hc k (by omega), decide_eq_true hk, Bool.true_and, hna])]
    unfold nv no_ at *
    rw [if_pos q]
  · have hzz := hz.mpr q
    rw [if_pos hzz, if_pos hzz, if_neg q, if_neg q, bd_s, if_pos rfl, p2_donor h hc hV, bd_s, bd_s]
    refine ⟨?_, rfl⟩
    unfold fv_
    by_cases g : bb_ rw cl ru sz s c = 0
    · rw [g]; rfl
    · have g9 : ¬ chv (bb_ rw cl ru sz s c) = -9 := by unfold chv; rw [if_neg g]; exact n9 (by omega)
      have gv : chv (bb_ rw cl ru sz s c) = nI (bb_ rw cl ru sz s c - 1) := by unfold chv; rw [if_neg g]
      rw [if_neg g9, if_neg g, gv, (q1_at (F := F) (R := R) (by omega)).2.1, bd_s, p2_great h.2.2.2.1.2.1 hch.2, bd_s]
      rw [la_cong (q := op_ rw cl ru s c (bb_ rw cl ru sz s c - 1)) (fun k hk => by rw [hop _ (by omega) k (by omega), decide_eq_true hk, Bool.true_and])]
      rfl
end CH
