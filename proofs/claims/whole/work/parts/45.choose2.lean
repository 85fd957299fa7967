theorem la_cong {p q : Nat → Bool} : ∀ {n : Nat}, (∀ k, k < n → p k = q k) → la p n = la q n
  | 0, _ => rfl
  | n + 1, h => by rw [la, la, la_cong (fun k hk => h k (by omega)), h n (by omega)]
theorem nar_b (b : Bool) : vp_nar .boolean (bi b) = bi b := by cases b <;> rfl
section CH
variable {rw cl ru sz : Nat} {F s : Nat → Int32} {R : Nat → Nat → Int32} {G : Nat → Int32} {Q : Nat → Nat → Int32} {X Y : Nat → Nat} {Z : Nat → Bool}
theorem r5_inner0 {c d : Nat} (v20 f l t : Int32) (h5 : v20 ≤ R 0 5) : wh (m5_choose_L93 (nI c) R (nI d) v20) 2000 (f, l, t, F) = some (f, l, F) := by
  show m5_choose_L93 (nI c) R (nI d) v20 (wh (m5_choose_L93 (nI c) R (nI d) v20) 1999) (f, l, t, F) = _
  unfold m5_choose_L93
  dsimp only
  rw [cl_5, if_pos h5]
  split <;> rfl
theorem r5_turn (h : cs_s rw cl ru sz (R 0)) (h5 : ¬ R 0 5 < 0) {c d : Nat} (hc : c < rw * cl) (hd : d < rw * cl) (hR : ∀ k, k < gs ru * sz → R 5 k = bi (av rw cl ru (R 0) c k)) (hF7 : F 7 = chv (bs_ rw cl ru sz (R 0) c d).1) :
    ∃ F', (∀ kk, m5_choose_L53 (nI c) R kk (fv_ rw cl ru sz (R 0) c (bs_ rw cl ru sz (R 0) c d).1, (if (bs_ rw cl ru sz (R 0) c d).1 = 0 then 0 else (bs_ rw cl ru sz (R 0) c d).2), nI d, F) = kk (fv_ rw cl ru sz (R 0) c (bs_ rw cl ru sz (R 0) c (d + 1)).1, (if (bs_ rw cl ru sz (R 0) c (d + 1)).1 = 0 then 0 else (bs_ rw cl ru sz (R 0) c (d + 1)).2), nI (d + 1), F')) ∧ (∀ i, i ≠ 7 → F' i = F i) ∧ F' 7 = chv (bs_ rw cl ru sz (R 0) c (d + 1)).1 := by
  have hce := cf_ce h.1
  have hch := cf_ch h.1
  have hb := bs_p (s := R 0) h.1 hc d
  have hds : ds cl d c < 2 ^ 31 := ds_lt (by omega) (by omega)
  have hfar : ds cl d c = 1 ↔ nI (ds cl d c) = 1 := (nI_eq hds (by decide)).symm
  have e1 : ¬ nI (rw * cl) ≤ nI d := nI_ge hd (by omega)
  have start : ∀ kk, m5_choose_L53 (nI c) R kk (fv_ rw cl ru sz (R 0) c (bs_ rw cl ru sz (R 0) c d).1, (if (bs_ rw cl ru sz (R 0) c d).1 = 0 then 0 else (bs_ rw cl ru sz (R 0) c d).2), nI d, F) = (wh (m5_choose_L93 (nI c) R (nI d) (if ds cl d c = 1 then nI (as_ rw cl ru sz (R 0) d) else 0)) 2000 (fv_ rw cl ru sz (R 0) c (bs_ rw cl ru sz (R 0) c d).1, (if (bs_ rw cl ru sz (R 0) c d).1 = 0 then 0 else (bs_ rw cl ru sz (R 0) c d).2), nI (gs ru * sz) - 1, F)).bind fun ⟨v29, v30, F31⟩ => kk (v29, v30, nI (d + 1), F31) := by
    intro kk
    unfold m5_choose_L53 m5_choose_J83 m5_choose_X235
    dsimp only
    rw [r5_cells h, bd_s, if_neg e1, r5_far h (by omega) (by omega), bd_s, r5_channels h]
    by_cases g : ds cl d c = 1
    · rw [if_pos (hfar.mp g), if_pos g, r5_availables h (by omega), bd_s, bd_s, bd_s]
      simp only [nI_1]
    · rw [if_neg (fun z => g (hfar.mpr z)), if_neg g, bd_s, bd_s]
      simp only [nI_1]
  have keep : dn_ rw cl ru sz (R 0) c d = false ∨ ¬ rk_ rw cl ru sz (R 0) c d < (bs_ rw cl ru sz (R 0) c d).2 → bs_ rw cl ru sz (R 0) c (d + 1) = bs_ rw cl ru sz (R 0) c d := by
    intro q
    rw [bs_]
    rcases q with q | q
    · rw [q, Bool.false_and, if_neg (by decide)]
    · rw [decide_eq_false q, Bool.and_false, if_neg (by decide)]
  by_cases g : ds cl d c = 1
  · by_cases g5 : nI (as_ rw cl ru sz (R 0) d) ≤ R 0 5
    · refine ⟨F, fun kk => ?_, fun i _ => rfl, ?_⟩
      · rw [start, if_pos g, r5_inner0 _ _ _ _ g5, bd_s, keep (Or.inl (by unfold dn_; rw [decide_eq_false (le_n.mp g5), Bool.and_false, Bool.false_and]))]
      · rw [hF7, keep (Or.inl (by unfold dn_; rw [decide_eq_false (le_n.mp g5), Bool.and_false, Bool.false_and]))]
    · have g6 : R 0 5 < nI (as_ rw cl ru sz (R 0) d) := Decidable.not_not.mp (fun z => g5 (le_n.mpr z))
      have inner := r5_inner (F := F) h hc hd hR (b := (bs_ rw cl ru sz (R 0) c d).1) (r := (bs_ rw cl ru sz (R 0) c d).2) (f := fv_ rw cl ru sz (R 0) c (bs_ rw cl ru sz (R 0) c d).1) (l := if (bs_ rw cl ru sz (R 0) c d).1 = 0 then 0 else (bs_ rw cl ru sz (R 0) c d).2) (fv_9 h.1 (hb.2.imp (fun z => z.1) (fun z => z.2.2))) (fun z => by rcases hb.2 with w | w; exact w.2; exact absurd z w.1) (fun z => if_neg z) _ rfl g5
      have hdn : dn_ rw cl ru sz (R 0) c d = an (op_ rw cl ru (R 0) c d) (gs ru * sz) := by
        unfold dn_
        rw [decide_eq_true g, decide_eq_true g6, Bool.true_and, Bool.true_and]
      rw [← hdn] at inner
      by_cases hq : dn_ rw cl ru sz (R 0) c d = true ∧ rk_ rw cl ru sz (R 0) c d < (bs_ rw cl ru sz (R 0) c d).2
      · have hbs : bs_ rw cl ru sz (R 0) c (d + 1) = (d + 1, rk_ rw cl ru sz (R 0) c d) := by
          rw [bs_, hq.1, decide_eq_true hq.2, Bool.true_and, if_pos rfl]
        rw [hq.1, decide_eq_true hq.2, Bool.true_and, if_pos rfl] at inner
        refine ⟨va_up F 7 (nI d), fun kk => ?_, fun i hi => va_up_ne _ _ hi, ?_⟩
        · rw [start, if_pos g, inner, bd_s, hbs]
          rfl
        · rw [va_up_self, hbs]; rfl
      · have hk := keep (by
          cases hh : dn_ rw cl ru sz (R 0) c d with
          | false => exact Or.inl rfl
          | true => exact Or.inr (fun z => hq ⟨hh, z⟩))
        have hno : ¬ (dn_ rw cl ru sz (R 0) c d && decide (rk_ rw cl ru sz (R 0) c d < (bs_ rw cl ru sz (R 0) c d).2)) = true := by
          rw [Bool.and_eq_true]
          exact fun z => hq ⟨z.1, of_decide_eq_true z.2⟩
        rw [if_neg hno] at inner
        refine ⟨F, fun kk => ?_, fun i _ => rfl, ?_⟩
        · rw [start, if_pos g, inner, bd_s, hk]
        · rw [hF7, hk]
  · have hk := keep (Or.inl (by unfold dn_; rw [decide_eq_false g, Bool.false_and, Bool.false_and]))
    refine ⟨F, fun kk => ?_, fun i _ => rfl, ?_⟩
    · rw [start, if_neg g, r5_inner0 _ _ _ _ (le_n.mpr h5), bd_s, hk]
    · rw [hF7, hk]
theorem r5_choose (h : cs_s rw cl ru sz (R 0)) (h5 : ¬ R 0 5 < 0) {c : Nat} (hc : c < rw * cl) : ∃ F' R', m5_choose F R (nI c) = some (cv_ rw cl ru sz (R 0) c, F', R') ∧ (∀ i, i ≠ 7 → F' i = F i) ∧ F' 7 = dv_ rw cl ru sz (R 0) c ∧ ∀ i, i ≠ 5 → R' i = R i := by
  have hce := cf_ce h.1
  have hch := cf_ch h.1
  unfold m5_choose
  rw [r5_nominal h (by omega), bd_s]
  unfold cv_ dv_ nv
  by_cases q : no_ rw cl ru sz (R 0) c < gs ru * sz
  · rw [if_pos q, if_neg (n9 (by omega)), if_pos q, if_pos q]
    exact ⟨_, R, rfl, fun i hi => va_up_ne _ _ hi, va_up_self _ _ _, fun i _ => rfl⟩
  · rw [if_neg q, if_neg q, if_neg q, if_pos rfl]
    obtain ⟨R7, ⟨hR1, hR2⟩, hw⟩ := wh_iv (b := m5_choose_L22 F (nI c)) (t0 := ((0 : Int32), R)) (fun i t => t.1 = nI i ∧ (∀ j, j ≠ 5 → t.2 j = R j) ∧ ∀ k, k < i → t.2 5 k = bi (av rw cl ru (R 0) c k)) (fun T => (∀ j, j ≠ 5 → T j = R j) ∧ ∀ k, k < gs ru * sz → T 5 k = bi (av rw cl ru (R 0) c k)) (gs ru * sz) (by omega) ⟨rfl, fun j _ => rfl, fun k hk => absurd hk (Nat.not_lt_zero k)⟩ (fun i t hi ht => by
        obtain ⟨t1, t2⟩ := t
        obtain ⟨ht1, ht2, ht3⟩ := ht
        dsimp only at ht1 ht2 ht3
        subst ht1
        have e1 : ¬ nI (gs ru * sz) ≤ nI i := nI_ge hi (by omega)
        have e2 : inb (nI i) 28 := in_n (by omega) (by decide)
        have h' : cs_s rw cl ru sz (t2 0) := by rw [ht2 0 (by decide)]; exact h
        refine Or.inl ⟨(nI (i + 1), va_up t2 5 (upd (t2 5) i (bi (av rw cl ru (R 0) c i)))), ⟨rfl, fun j hj => ?_, fun k hk => ?_⟩, fun kk => ?_⟩
        · dsimp only
          rw [va_up_ne _ _ hj, ht2 j hj]
        · dsimp only
          rw [va_up_self]
          by_cases hki : k = i
          · rw [hki, pk_us]
          · rw [pk_un hki]; exact ht3 k (by omega)
        · unfold m5_choose_L22
          dsimp only
          rw [r5_channels h', bd_s, if_neg e1, r5_avail h' (by omega), bd_s, if_pos e2, nI_clamp (by omega), nI_1, nar_b, ht2 0 (by decide)]) (fun t ht => by
        obtain ⟨t1, t2⟩ := t
        obtain ⟨ht1, ht2, ht3⟩ := ht
        dsimp only at ht1 ht2 ht3
        subst ht1
        have h' : cs_s rw cl ru sz (t2 0) := by rw [ht2 0 (by decide)]; exact h
        refine ⟨t2, ⟨ht2, ht3⟩, fun kk => ?_⟩
        unfold m5_choose_L22
        dsimp only
        rw [r5_channels h', bd_s, if_pos (nI_le (Nat.le_refl _) (by omega))])
    rw [hw, bd_s]
    have h0 := hR1 0 (by decide)
    have h' : cs_s rw cl ru sz (R7 0) := by rw [h0]; exact h
    unfold m5_choose_X48 m5_choose_X241
    obtain ⟨⟨v, F1⟩, ⟨hv, hF1, hF2⟩, hw2⟩ := wh_iv (b := m5_choose_L53 (nI c) R7) (t0 := ((-9 : Int32), (0 : Int32), (0 : Int32), va_up F 7 (-9 : Int32))) (fun d t => ∃ F', t = (fv_ rw cl ru sz (R 0) c (bs_ rw cl ru sz (R 0) c d).1, (if (bs_ rw cl ru sz (R 0) c d).1 = 0 then 0 else (bs_ rw cl ru sz (R 0) c d).2), nI d, F') ∧ (∀ i, i ≠ 7 → F' i = F i) ∧ F' 7 = chv (bs_ rw cl ru sz (R 0) c d).1) (fun x => x.1 = fv_ rw cl ru sz (R 0) c (bb_ rw cl ru sz (R 0) c) ∧ (∀ i, i ≠ 7 → x.2 i = F i) ∧ x.2 7 = chv (bb_ rw cl ru sz (R 0) c)) (rw * cl) (by omega) ⟨va_up F 7 (-9), rfl, fun i hi => va_up_ne _ _ hi, va_up_self _ _ _⟩ (fun d t hd ht => by
        obtain ⟨F', rfl, g1, g2⟩ := ht
        obtain ⟨F2, k1, k2, k3⟩ := r5_turn (R := R7) (F := F') h' (by rw [h0]; exact h5) hc hd (fun k hk => by rw [h0]; exact hR2 k hk) (by rw [h0]; exact g2)
        rw [h0] at k1 k3
        exact Or.inl ⟨_, ⟨F2, rfl, fun i hi => by rw [k2 i hi, g1 i hi], k3⟩, k1⟩) (fun t ht => by
        obtain ⟨F', rfl, g1, g2⟩ := ht
        refine ⟨(fv_ rw cl ru sz (R 0) c (bb_ rw cl ru sz (R 0) c), F'), ⟨rfl, g1, g2⟩, fun kk => ?_⟩
        unfold m5_choose_L53
        dsimp only
        rw [r5_cells h', bd_s, if_pos (nI_le (Nat.le_refl _) (by omega))]
        rfl)
    rw [hw2, bd_s]
    dsimp only at hv hF1 hF2
    rw [← hv]
    exact ⟨F1, R7, rfl, hF1, hF2, hR1⟩
/-- the class's -/
theorem p2_rank (h : nr_c rw cl ru sz X Y Z s F R G Q) {c d : Nat} (hc : c < rw * cl) (hd : d < rw * cl) : m2_rankOf F R G Q (nI d) (nI (as_ rw cl ru sz s d)) (nI c) = some (rk_ rw cl ru sz s c d) := by
  have hce := cf_ce h.1.1
  have hg := gp_lt h.1.1 d
  have hf := h.1.1
  unfold cf_ok at hf
  have hgs : gs ru ≤ gs ru * sz := Nat.le_mul_of_pos_right _ (by omega)
  unfold m2_rankOf rk_
  rw [h.2.2.2.2.2.2.1]
  by_cases q0 : s 4 = 0
  · rw [if_pos q0, if_pos q0]
  · rw [if_neg q0, if_neg q0]
    by_cases q2 : s 4 = 2
    · rw [if_pos q2, if_pos q2, (q1_at (F := F) (R := R) (by omega)).1, bd_s, (h.2.2.2.1.2.2.2 d hd).2.2.1, p1_burden h hc (by omega), bd_s]
    · rw [if_neg q2, if_neg q2]
theorem b_nz {V : Int32} {p : Nat → Bool} {n : Nat} (hn : n ≤ 32) (h : ∀ q, q < 32 → bt V q = (decide (q < n) && p q)) : V = 0 ↔ an p n = false := by
  constructor
  · intro hV
    refine an_no.mpr (fun k hk => ?_)
    have := h k (by omega)
    rw [hV, b_0, decide_eq_true hk, Bool.true_and] at this
    exact this.symm
  · intro ha
    refine b_ext (fun i hi => ?_)
    rw [h i hi, b_0]
    by_cases q : i < n
    · rw [an_no.mp ha i q, Bool.and_false]
    · rw [decide_eq_false q, Bool.false_and]
theorem b_cn {V : Int32} {p : Nat → Bool} {n : Nat} (hn : n ≤ 32) (h : ∀ q, q < 32 → bt V q = (decide (q < n) && p q)) : mj_bitCount V = some (nI (cn p n)) := by
  rw [bc_x, cn_ext hn (fun k h1 h2 => by rw [h k h2, decide_eq_false (by omega), Bool.false_and]), cn_cong (fun k hk => by rw [h k (by omega), decide_eq_true hk, Bool.true_and])]
theorem p2_donor (h : nr_c rw cl ru sz X Y Z s F R G Q) {c : Nat} (hc : c < rw * cl) {V : Int32} (hV : ∀ q, q < 32 → bt V q = (decide (q < gs ru * sz) && av rw cl ru s c q)) : m2_bestDonor F R G Q (nI c) V = some (chv (bb_ rw cl ru sz s c)) := by
  have hce := cf_ce h.1.1
  have hch := cf_ch h.1.1
  unfold m2_bestDonor
  have e : wh (m2_bestDonor_L10 F R G Q (nI c) V) 2000 ((-9 : Int32), (25 : Int32), (0 : Int32)) = some (chv (bb_ rw cl ru sz s c)) := by
    refine wh_st (fun d => (chv (bs_ rw cl ru sz s c d).1, (bs_ rw cl ru sz s c d).2, nI d)) (rw * cl) _ (by omega) (fun d hd kk => ?_) (fun kk => ?_)
    · have hb := bs_p (s := s) h.1.1 hc d
      have e1 : ¬ nI (rw * cl) ≤ nI d := nI_ge hd (by omega)
      have hds : ds cl c d < 2 ^ 31 := ds_lt (by omega) (by omega)
      unfold m2_bestDonor_L10 m2_bestDonor_J41 m2_bestDonor_J112
      dsimp only
      rw [h.2.2.2.1.1, if_neg e1, p1_sep h hc hd, bd_s, nI_1, bs_]
      have hop : ∀ q, q < 32 → bt (V &&& Q 3 d) q = (decide (q < gs ru * sz) && op_ rw cl ru s c d q) := fun q hq => by
        rw [b_and, hV q hq, (h.2.2.2.1.2.2.2 d hd).2.2.2.1 q hq]
        unfold op_
        cases decide (q < gs ru * sz) <;> cases av rw cl ru s c q <;> cases nm cl ru d q <;> rfl
      unfold dn_
      by_cases g : ds cl d c = 1
      · have g' : nI (ds cl c d) = 1 := by rw [ds_comm, g]; rfl
        rw [if_pos g', decide_eq_true g, bd_s, if_neg (by decide), (q1_at (F := F) (R := R) (by omega)).2.1, bd_s, Bool.true_and]
        cases ho : an (op_ rw cl ru s c d) (gs ru * sz) with
        | false =>
          rw [if_pos ((b_nz (by omega) hop).mpr ho), bd_s, Bool.and_false, Bool.false_and, if_neg (by decide)]
        | true =>
          rw [if_neg (fun z => by rw [(b_nz (by omega) hop).mp z] at ho; cases ho), Bool.and_true]
          obtain ⟨V', hV1, hV2⟩ := p2_availNom h hd
          rw [hV1, bd_s, b_cn (by omega) hV2, bd_s, h.2.2.2.2.2.2.2.1]
          show ((if nI (as_ rw cl ru sz s d) ≤ s 5 then some (25 : Int32) else (m2_rankOf F R G Q (nI d) (nI (as_ rw cl ru sz s d)) (nI c)).bind fun v27 => some v27).bind fun v22 => m2_bestDonor_J96 (chv (bs_ rw cl ru sz s c d).1) (bs_ rw cl ru sz s c d).2 (nI d) v22).bind _ = _
          unfold m2_bestDonor_J96
          by_cases g5 : nI (as_ rw cl ru sz s d) ≤ s 5
          · have hle : (bs_ rw cl ru sz s c d).2 ≤ 25 := by
              rcases hb.2 with w | w
              · rw [w.2]; decide
              · rw [Int32.le_iff_toInt_le]; have := Int32.lt_iff_toInt_lt.mp w.2.1; omega
            rw [if_pos g5, bd_s, if_pos hle, bd_s, decide_eq_false (le_n.mp g5), Bool.false_and, if_neg (by decide)]
          · have g6 : s 5 < nI (as_ rw cl ru sz s d) := Decidable.not_not.mp (fun z => g5 (le_n.mpr z))
            rw [if_neg g5, p2_rank h hc hd, bd_s, bd_s, decide_eq_true g6, Bool.true_and]
            by_cases g7 : rk_ rw cl ru sz s c d < (bs_ rw cl ru sz s c d).2
            · rw [if_neg (fun z => le_n.mp z g7), bd_s, decide_eq_true g7, if_pos rfl]; rfl
            · rw [if_pos (le_n.mpr g7), bd_s, decide_eq_false g7, if_neg (by decide)]
      · have g' : ¬ nI (ds cl c d) = 1 := fun z => g (by rw [ds_comm]; exact (nI_eq hds (by decide)).mp z)
        rw [if_neg g', decide_eq_false g, bd_s, if_pos rfl, bd_s, Bool.false_and, Bool.false_and, Bool.false_and, if_neg (by decide)]
    · unfold m2_bestDonor_L10
      dsimp only
      rw [h.2.2.2.1.1, if_pos (nI_le (Nat.le_refl _) (by omega))]
      rfl
  rw [e]; rfl
theorem no_an {c : Nat} : no_ rw cl ru sz s c < gs ru * sz ↔ an (na_ rw cl ru s c) (gs ru * sz) = true := by
  constructor
  · exact fun q => an_iff.mpr ⟨_, q, fi_yes _ _ q⟩
  · intro q
    have hle := fi_le (na_ rw cl ru s c) (gs ru * sz)
    by_cases z : no_ rw cl ru sz s c < gs ru * sz
    · exact z
    · have : fi (na_ rw cl ru s c) (gs ru * sz) = gs ru * sz := by unfold no_ at z; omega
      obtain ⟨k, k1, k2⟩ := an_iff.mp q
      rw [fi_none this k k1] at k2; cases k2
theorem p2_choose (h : nr_c rw cl ru sz X Y Z s F R G Q) {c : Nat} (hc : c < rw * cl) : m2_chooseChannel F R G Q (nI c) = some (cv_ rw cl ru sz s c) ∧ m2_chooseDonor F R G Q (nI c) = some (dv_ rw cl ru sz s c) := by
  have hce := cf_ce h.1.1
  have hch := cf_ch h.1.1
  obtain ⟨V, hV1, hV⟩ := p2_avail h hc
  have hop : ∀ d, d < rw * cl → ∀ q, q < 32 → bt (V &&& Q 3 d) q = (decide (q < gs ru * sz) && op_ rw cl ru s c d q) := fun d hd q hq => by
    rw [b_and, hV q hq, (h.2.2.2.1.2.2.2 d hd).2.2.2.1 q hq]
    unfold op_
    cases decide (q < gs ru * sz) <;> cases av rw cl ru s c q <;> cases nm cl ru d q <;> rfl
  have hna : ∀ q, op_ rw cl ru s c c q = na_ rw cl ru s c q := fun q => Bool.and_comm _ _
  have hz : (V &&& Q 3 c) = 0 ↔ ¬ no_ rw cl ru sz s c < gs ru * sz := by
    rw [b_nz (by omega) (hop c hc), no_an, an_cong (fun k _ => hna k)]
    exact ⟨fun q w => (by rw [q] at w; cases w), fun q => Bool.eq_false_iff.mpr q⟩
  have hb := bs_p (s := s) h.1.1 hc (rw * cl)
  have hbb : (bs_ rw cl ru sz s c (rw * cl)).1 = bb_ rw cl ru sz s c := rfl
  rw [hbb] at hb
  unfold m2_chooseChannel m2_chooseDonor m2_chooseDonor_J24 cv_ dv_
  rw [hV1, bd_s, bd_s, (q1_at (F := F) (R := R) (by omega)).2.1, bd_s, bd_s]
  by_cases q : no_ rw cl ru sz s c < gs ru * sz
  · have hnz : ¬ (V &&& Q 3 c) = 0 := fun z => hz.mp z q
    rw [if_neg hnz, if_neg hnz, if_pos q, if_pos q, p2_low h.2.2.2.1.2.1 hch.2, bd_s, bd_s, if_neg (by decide)]
    refine ⟨?_, rfl⟩
    rw [fi_cong (q := na_ rw cl ru s c) (fun k hk => by rw [hop c hc k (by omega), decide_eq_true hk, Bool.true_and, hna])]
    unfold nv no_ at *
    rw [if_pos q]
  · have hzz := hz.mpr q
    rw [if_pos hzz, if_pos hzz, if_neg q, if_neg q, bd_s, if_pos rfl, p2_donor h hc hV, bd_s, bd_s]
    refine ⟨?_, rfl⟩
    unfold fv_
    by_cases g : bb_ rw cl ru sz s c = 0
    · rw [g]; rfl
    · have g9 : ¬ chv (bb_ rw cl ru sz s c) = -9 := by unfold chv; rw [if_neg g]; exact n9 (by omega)
      have gv : chv (bb_ rw cl ru sz s c) = nI (bb_ rw cl ru sz s c - 1) := by unfold chv; rw [if_neg g]
      rw [if_neg g9, if_neg g, gv, (q1_at (F := F) (R := R) (by omega)).2.1, bd_s, p2_great h.2.2.2.1.2.1 hch.2, bd_s]
      rw [la_cong (q := op_ rw cl ru s c (bb_ rw cl ru sz s c - 1)) (fun k hk => by rw [hop _ (by omega) k (by omega), decide_eq_true hk, Bool.true_and])]
      rfl
end CH
