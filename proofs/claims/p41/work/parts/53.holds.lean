/-! THE LAW'S HOLDS: it answers 1 on each net that is kept -/
theorem wh_go {σ ρ : Type} {b : (σ → Option ρ) → σ → Option ρ} (st : Nat → σ) (e : Nat) (r : Option ρ) (he : e < 2000) (hs : ∀ i, i < e → ∀ kk, b kk (st i) = kk (st (i + 1))) (hx : ∀ kk, b kk (st e) = r) : wh b 2000 (st 0) = r := by
  have key : ∀ n i, i ≤ e → e - i < n → wh b n (st i) = r := by
    intro n
    induction n with
    | zero => intro i h1 h2; omega
    | succ n ih =>
      intro i h1 h2
      by_cases q : i = e
      · rw [q]; exact hx _
      · exact (hs i (by omega) _).trans (ih (i + 1) (by omega) (by omega))
  exact key 2000 0 (Nat.zero_le _) (by omega)
def sm (f : Nat → Nat) : Nat → Nat
  | 0 => 0
  | n + 1 => sm f n + f n
theorem sm_cong {f g : Nat → Nat} : ∀ {n : Nat}, (∀ c, c < n → f c = g c) → sm f n = sm g n
  | 0, _ => rfl
  | n + 1, h => by rw [sm, sm, sm_cong (fun c hc => h c (by omega)), h n (by omega)]
theorem sm_inc {f g : Nat → Nat} {c0 : Nat} (h0 : f c0 + 1 = g c0) (h : ∀ c, c ≠ c0 → f c = g c) : ∀ {n : Nat}, c0 < n → sm f n + 1 = sm g n
  | 0, h1 => absurd h1 (Nat.not_lt_zero _)
  | n + 1, h1 => by
    rw [sm, sm]
    by_cases q : c0 = n
    · rw [← q, sm_cong (f := f) (g := g) (fun c hc => h c (by omega))]; omega
    · have := sm_inc h0 h (show c0 < n by omega)
      rw [h n (fun z => q z.symm)]; omega
theorem sm_0 {f : Nat → Nat} : ∀ {n : Nat}, (∀ c, c < n → f c = 0) → sm f n = 0
  | 0, _ => rfl
  | n + 1, h => by rw [sm, sm_0 (fun c hc => h c (by omega)), h n (by omega)]
theorem sm_le {f : Nat → Nat} {b : Nat} (h : ∀ c, f c ≤ b) : ∀ n, sm f n ≤ b * n
  | 0 => Nat.zero_le _
  | n + 1 => by
    have h1 := sm_le h n
    have h2 := h n
    rw [sm, Nat.mul_add, Nat.mul_one]
    omega
/-- the calls with a channel, told cell by cell -/
theorem sm_us {ce ch : Nat} {X Y : Nat → Nat} (hu : un_ X Y) (hb : ∀ k, k < 60 → X k ≤ ce ∧ Y k ≤ ch ∧ (X k = 0 → Y k = 0)) : ∀ m, m ≤ 60 → sm (fun c => cn (fun q => an (fun k => decide (X k = c + 1) && decide (Y k = q + 1)) m) ch) ce = cn (fun k => decide (Y k ≠ 0)) m
  | 0, _ => sm_0 (fun c _ => cn_0.mpr (fun q _ => rfl))
  | m + 1, h => by
    have ih := sm_us hu hb m (by omega)
    have w := hb m (by omega)
    rw [show cn (fun k => decide (Y k ≠ 0)) (m + 1) = cn (fun k => decide (Y k ≠ 0)) m + (if decide (Y m ≠ 0) = true then 1 else 0) from rfl]
    by_cases hy : Y m = 0
    · rw [if_neg (by rw [decide_eq_false (fun z => z hy)]; decide), Nat.add_zero, ← ih]
      refine sm_cong (fun c _ => cn_cong (fun q _ => ?_))
      rw [an, decide_eq_false (by omega : ¬ Y m = q + 1), Bool.and_false, Bool.or_false]
    · have hx : X m ≠ 0 := fun z => hy (w.2.2 z)
      rw [if_pos (decide_eq_true hy), ← ih]
      refine (sm_inc (c0 := X m - 1) ?_ (fun c hc => cn_cong (fun q _ => ?_)) (by omega)).symm
      · refine cn_dec (k := Y m - 1) ?_ ?_ (fun q hq => ?_) (by omega)
        · rw [an, decide_eq_true (by omega : X m = X m - 1 + 1), decide_eq_true (by omega : Y m = Y m - 1 + 1)]; simp
        · refine an_no.mpr (fun k hk => ?_)
          by_cases q1 : X k = X m - 1 + 1
          · by_cases q2 : Y k = Y m - 1 + 1
            · have := hu k m (by omega) (by omega) (by omega) (by omega) (by omega)
              omega
            · rw [decide_eq_false q2, Bool.and_false]
          · rw [decide_eq_false q1, Bool.false_and]
        · rw [an, decide_eq_false (by omega : ¬ Y m = q + 1), Bool.and_false, Bool.or_false]
      · rw [an, decide_eq_false (by omega : ¬ X m = c + 1), Bool.false_and, Bool.or_false]
theorem d1_m3 : ∀ q, q < 32 → nI q - nI q / 3 * 3 = nI (q % 3) := by decide +kernel
theorem d1_m7 : ∀ q, q < 32 → nI q - nI q / 7 * 7 = nI (q % 7) := by decide +kernel
section HO
variable {rw cl ru sz : Nat} {F s : Nat → Int32} {R : Nat → Nat → Int32} {G : Nat → Int32} {Q : Nat → Nat → Int32} {X Y : Nat → Nat} {Z : Nat → Bool}
theorem ho_neg {a1 v2 v3 v53 v54 v56 : Int32} {kk : (Int32 × Int32) → Option Int32} (h : nr_c rw cl ru sz X Y Z s F R G Q) (hv : v54 < 0) : mj_holds_J75 F R G Q a1 kk v2 v3 v53 v54 v56 = kk (v2 + v56, v3 + 1) := by
  have e2 : mj_holds_X134 F R G Q a1 kk v2 v3 v53 v54 v56 = kk (v2 + v56, v3 + 1) := by
    unfold mj_holds_X134
    have e3 : wh (mj_holds_L140 F R G Q a1 v53 v54) 2000 ((0 : Int32), (0 : Int32)) = some 0 := by
      show mj_holds_L140 F R G Q a1 v53 v54 (wh (mj_holds_L140 F R G Q a1 v53 v54) 1999) ((0 : Int32), (0 : Int32)) = some 0
      unfold mj_holds_L140
      dsimp only
      rw [v4_cells h, bd_s, if_pos hv]
      split <;> rfl
    rw [e3, bd_s]
    unfold mj_holds_X207 mj_holds_J230
    rw [if_pos hv]
  unfold mj_holds_J75
  show mj_holds_L78 F R G Q a1 kk v2 v3 v53 v54 v56 (wh (mj_holds_L78 F R G Q a1 kk v2 v3 v53 v54 v56) 1999) 0 = _
  unfold mj_holds_L78
  rw [if_pos hv, e2]
  split <;> rfl
/-- no other call near, a donor, not available any more -/
theorem ho_call (h : nr_c rw cl ru sz X Y Z s F R G Q) {i : Nat} (hi : i < 60) (hy : Y i ≠ 0) {v2 v56 : Int32} {kk : (Int32 × Int32) → Option Int32} : mj_holds_J75 F R G Q (nI ru) kk v2 (nI i) (nI (X i - 1)) (nI (Y i - 1)) v56 = kk (v2 + v56, nI i + 1) := by
  have hce := cf_ce h.1.1
  have hch := cf_ch h.1.1
  have w := h.2.1.2.2 i hi
  have hx : X i ≠ 0 := fun z => hy (w.2.2.2.2.2.1 z).1
  have hru := h.1.1.2.2.2.2.1
  have hok := h.2.2.1.2 i hi hy
  have hvn : ¬ nI (Y i - 1) < 0 := nI_pos (by omega)
  have hc : X i - 1 < rw * cl := by omega
  have hq : Y i - 1 < gs ru * sz := by omega
  generalize hcc : X i - 1 = c at *
  generalize hqq : Y i - 1 = q at *
  have e2 : mj_holds_X134 F R G Q (nI ru) kk v2 (nI i) (nI c) (nI q) v56 = kk (v2 + v56, nI i + 1) := by
    unfold mj_holds_X134
    have e3 : wh (mj_holds_L140 F R G Q (nI ru) (nI c) (nI q)) 2000 ((0 : Int32), (0 : Int32)) = some (bi (an (fun d => decide (ds cl d c < 2) && nm cl ru d q) (rw * cl))) := by
      refine wh_go (st := fun d => (bi (an (fun d => decide (ds cl d c < 2) && nm cl ru d q) d), nI d)) (rw * cl) _ (by omega) (fun d hd kk => ?_) (fun kk => ?_)
      · have e1 : ¬ nI (rw * cl) ≤ nI d := nI_ge hd (by omega)
        have hds : ds cl d c < 2 ^ 31 := ds_lt (by omega) (by omega)
        unfold mj_holds_L140 mj_holds_J199
        dsimp only
        rw [v4_cells h, bd_s, if_neg e1, if_neg hvn, an, nI_1]
        cases hf : an (fun d => decide (ds cl d c < 2) && nm cl ru d q) d with
        | true => rw [if_neg (by decide), Bool.true_or]; rfl
        | false =>
          rw [if_pos bi_f, v4_dist h hd hc, bd_s, Bool.false_or]
          by_cases g : ds cl d c < 2
          · have g2 : ¬ (2 : Int32) ≤ nI (ds cl d c) := fun z => by
              have := (nI_leI (a := 2) (by decide) hds).mp z
              omega
            rw [if_neg g2, decide_eq_true g, Bool.true_and]
            have hJ : ∀ v81 : Int32, ¬ v81 = 0 → nI q - nI q / v81 * v81 = nI (q % gs ru) → mj_holds_J184 F R G Q (nI q) kk (nI d) v81 = kk (bi (nm cl ru d q), nI (d + 1)) := fun v81 h1 h2 => by
              have hg : gp_ cl ru d < gs ru := gp_lt h.1.1 d
              have hgs := cf_gs h.1.1
              have hm : q % gs ru < gs ru := Nat.mod_lt _ (by omega)
              unfold mj_holds_J184 mj_holds_J199
              rw [if_pos h1, v4_group h hd, bd_s, h2, nI_1]
              unfold nm
              by_cases g3 : q % gs ru = gp_ cl ru d
              · rw [g3, if_pos rfl, decide_eq_true rfl]; rfl
              · rw [if_neg (fun z => g3 ((nI_eq (by omega) (by omega)).mp z)), decide_eq_false g3]; rfl
            rcases hru with rfl | rfl
            · rw [if_pos (show nI 2 = 2 from rfl)]
              exact hJ 3 (by decide) (d1_m3 q (by omega))
            · rw [if_neg (by decide)]
              exact hJ 7 (by decide) (d1_m7 q (by omega))
          · have g2 : (2 : Int32) ≤ nI (ds cl d c) := (nI_leI (a := 2) (by decide) hds).mpr (by omega)
            rw [if_pos g2, decide_eq_false g, Bool.false_and]; rfl
      · unfold mj_holds_L140
        dsimp only
        rw [v4_cells h, bd_s, if_pos (nI_le (Nat.le_refl _) (by omega))]
    have e4 : an (fun d => decide (ds cl d c < 2) && nm cl ru d q) (rw * cl) = true := by
      obtain ⟨d, d1, d2, d3⟩ := hok.2
      exact an_iff.mpr ⟨d, d1, by rw [decide_eq_true d2, d3]; rfl⟩
    have e5 : av rw cl ru s c q = false := by
      have : us s c q = true := by
        rw [us_n (R := fun _ => s) h.2.1 (by omega) (by omega)]
        exact an_iff.mpr ⟨i, hi, by rw [decide_eq_true (show X i = c + 1 by omega), decide_eq_true (show Y i = q + 1 by omega)]; rfl⟩
      unfold av
      rw [this]; rfl
    rw [e3, bd_s, e4]
    unfold mj_holds_X207 mj_holds_J230
    rw [if_neg hvn, if_neg (by decide), v4_avail h hc hq, bd_s, e5, if_pos bi_f]
  unfold mj_holds_J75
  refine (wh_go (st := fun j => nI j) i _ (by omega) (fun j hj kk => ?_) (fun kk => ?_)).trans e2
  · have e1 : ¬ nI i ≤ nI j := nI_ge hj (by omega)
    have w' := h.2.1.2.2 j (by omega)
    unfold mj_holds_L78 mj_holds_J128
    rw [if_neg e1, if_neg hvn, v4_cellOf h (by omega), bd_s, nI_1]
    by_cases hxj : X j = 0
    · rw [if_pos hxj, if_pos (by decide)]
    · rw [if_neg hxj, if_neg (nI_pos (by omega)), v4_channelOf h (by omega), bd_s, if_neg hxj]
      by_cases g : Y j = q + 1
      · have hc' : chv (Y j) = nI q := by rw [g]; rfl
        have hds : ds cl c (X j - 1) < 2 ^ 31 := ds_lt (by omega) (by omega)
        have hnl := hok.1 j (by omega) (by omega) g
        rw [ds_comm] at hnl
        rw [if_pos hc', bd_s, v4_dist h hc (by omega), bd_s, if_pos ((nI_leI (by omega) hds).mpr (by omega))]
      · have hc' : ¬ chv (Y j) = nI q := fun z => by
          unfold chv at z
          by_cases g0 : Y j = 0
          · rw [if_pos g0] at z; exact n9 (by omega) z.symm
          · rw [if_neg g0] at z
            have := (nI_eq (by omega) (by omega)).mp z
            omega
        rw [if_neg hc']
  · unfold mj_holds_L78
    rw [if_pos (nI_le (Nat.le_refl _) (by omega))]
/-- the round over the calls -/
theorem ho_L7 (h : nr_c rw cl ru sz X Y Z s F R G Q) {i : Nat} (hi : i < 60) (kk : (Int32 × Int32) → Option Int32) : mj_holds_L7 F R G Q (nI ru) kk (nI (cn (fun k => decide (Y k ≠ 0)) i), nI i) = kk (nI (cn (fun k => decide (Y k ≠ 0)) (i + 1)), nI (i + 1)) := by
  have hce := cf_ce h.1.1
  have hch := cf_ch h.1.1
  have w := h.2.1.2.2 i hi
  have e1 : ¬ (60 : Int32) ≤ nI i := nI_ge hi (by decide)
  have e9 : chv 0 = -9 := rfl
  unfold mj_holds_L7
  dsimp only
  rw [if_neg e1, v4_cellOf h hi, bd_s, cn]
  by_cases hx : X i = 0
  · have hy := (w.2.2.2.2.2.1 hx).1
    rw [if_pos hx, if_neg (by decide)]
    unfold mj_holds_J38 mj_holds_J51
    rw [if_pos (by decide), if_pos (by decide), ho_neg h (by decide), if_neg (by rw [decide_eq_false (fun z => z hy)]; decide), nI_1]
    rw [show (0 : Int32) = nI 0 from rfl, nI_add]
  · rw [if_neg hx, if_pos (nI_pos' (by omega)), v4_channelOf h hi, bd_s, if_neg hx]
    by_cases hy : Y i = 0
    · have hz : Z i = true := by
        cases hz : Z i with
        | true => rfl
        | false => exact absurd (w.2.2.2.2.2.2 hy hz) hx
      rw [hy, e9]
      unfold mj_holds_J38 mj_holds_J51
      rw [if_pos (by decide), if_neg (nI_pos (by omega)), if_neg (by decide), v4_fixed h hi, bd_s, if_neg hx, hz, if_pos bi_t, ho_neg h (by decide), if_neg (by decide), nI_1]
      rw [show (0 : Int32) = nI 0 from rfl, nI_add]
    · have hc' : chv (Y i) = nI (Y i - 1) := if_neg hy
      rw [hc']
      unfold mj_holds_J38 mj_holds_J51
      rw [if_neg (nI_pos (by omega)), if_neg (nI_pos (by omega)), if_pos (nI_pos' (by omega)), ho_call h hi hy, if_pos (decide_eq_true hy), nI_1]
      rw [show (1 : Int32) = nI 1 from rfl, nI_add]
/-- the round over the cells -/
theorem ho_L242 (h : nr_c rw cl ru sz X Y Z s F R G Q) {v4 : Int32} {c : Nat} (hc : c < rw * cl) (kk : (Int32 × Int32 × Int32) → Option Int32) : mj_holds_L242 F R G Q v4 kk (nI (sm (fun c => cn (us s c) (gs ru * sz)) c), nI (cn (fun x => decide (cv_ rw cl ru sz s x = -9)) c), nI c) = kk (nI (sm (fun c => cn (us s c) (gs ru * sz)) (c + 1)), nI (cn (fun x => decide (cv_ rw cl ru sz s x = -9)) (c + 1)), nI (c + 1)) := by
  have hce := cf_ce h.1.1
  have hch := cf_ch h.1.1
  have e1 : ¬ nI (rw * cl) ≤ nI c := nI_ge hc (by omega)
  obtain ⟨y, hy1, hy2, hy3⟩ := cv_y (s := s) h.1.1 hc
  have hb := bs_p (s := s) h.1.1 hc (rw * cl)
  have hb1 : bb_ rw cl ru sz s c ≤ rw * cl := hb.1
  -- behind the channel
  have e3 : ∀ v6 v7 v26 v27 : Int32, mj_holds_J300 F R G Q kk v6 v7 (nI c) v26 v27 = kk (v6 + v26, v7 + v27, nI c + 1) := fun v6 v7 v26 v27 => by
    have e4 : mj_holds_J320 F R G Q kk v6 v7 (nI c) v26 v27 = kk (v6 + v26, v7 + v27, nI c + 1) := by
      unfold mj_holds_J320 mj_holds_J347
      rw [v4_donor h hc, bd_s]
      by_cases g : no_ rw cl ru sz s c < gs ru * sz
      · have e5 : dv_ rw cl ru sz s c = -9 := if_pos g
        rw [e5, if_pos (by decide)]
      · have e5 : dv_ rw cl ru sz s c = chv (bb_ rw cl ru sz s c) := if_neg g
        rw [e5]
        by_cases g2 : bb_ rw cl ru sz s c = 0
        · rw [g2, if_pos (by decide)]
        · have hd : dn_ rw cl ru sz s c (bb_ rw cl ru sz s c - 1) = true := by
            rcases hb.2 with w | w
            · exact absurd w.1 g2
            · exact w.2.2
          unfold dn_ at hd
          rw [Bool.and_eq_true, Bool.and_eq_true] at hd
          have h1 := of_decide_eq_true hd.1.1
          rw [ds_comm] at h1
          have e6 : chv (bb_ rw cl ru sz s c) = nI (bb_ rw cl ru sz s c - 1) := if_neg g2
          rw [e6, if_neg (nI_pos (by omega)), bd_s, v4_dist h hc (by omega), bd_s, h1, if_pos (show nI 1 = 1 from rfl)]
    unfold mj_holds_J300
    rw [v4_availables h hc, bd_s]
    have hle : as_ rw cl ru sz s c ≤ gs ru * sz := cn_le _ _
    by_cases g : as_ rw cl ru sz s c = 0
    · rw [g, if_pos (by decide), e4]
    · have hno : no_ rw cl ru sz s c < gs ru * sz := by
        refine no_an.mpr ?_
        cases hf : an (na_ rw cl ru s c) (gs ru * sz) with
        | true => rfl
        | false => exact absurd (cn_0.mpr (an_no.mp hf)) g
      have e5 : dv_ rw cl ru sz s c = -9 := if_pos hno
      rw [if_neg (nI_nle (by omega) (by omega)), v4_donor h hc, bd_s, e5, if_pos rfl, e4]
  unfold mj_holds_L242
  dsimp only
  rw [v4_cells h, bd_s, if_neg e1, v4_next h hc, bd_s, v4_used h hc, bd_s, sm, cn, hy2]
  by_cases g : y = 0
  · have h9 : chv y = -9 := (chv_0 (by omega)).mpr g
    rw [h9, if_neg (by decide)]
    unfold mj_holds_J280
    rw [if_pos (by decide), e3, nI_1, nI_add, decide_eq_true rfl, if_pos rfl]
    rw [show (1 : Int32) = nI 1 from rfl, nI_add]
  · have hc' : chv y = nI (y - 1) := if_neg g
    rw [hc', if_pos (nI_pos' (by omega))]
    unfold mj_holds_J280
    rw [if_neg (nI_pos (by omega)), v4_avail h hc (by omega), bd_s, (hy3 g).1, if_pos bi_t, e3, nI_1, nI_add, decide_eq_false (n9 (by omega)), if_neg (by decide)]
    rw [show (0 : Int32) = nI 0 from rfl, nI_add]
theorem v4_holds (h : nr_c rw cl ru sz X Y Z s F R G Q) (hct : F 5 ≤ F 4) : mj_holds F R G Q (nI ru) = some 1 := by
  have hce := cf_ce h.1.1
  have hch := cf_ch h.1.1
  unfold mj_holds
  refine wh_go (st := fun i => (nI (cn (fun k => decide (Y k ≠ 0)) i), nI i)) 60 _ (by decide) (fun i hi kk => ho_L7 h hi kk) (fun kk => ?_)
  unfold mj_holds_L7
  dsimp only
  rw [if_pos (by decide)]
  unfold mj_holds_X236
  refine wh_go (st := fun c => (nI (sm (fun c => cn (us s c) (gs ru * sz)) c), nI (cn (fun x => decide (cv_ rw cl ru sz s x = -9)) c), nI c)) (rw * cl) _ (by omega) (fun c hc kk => ho_L242 h hc kk) (fun kk => ?_)
  unfold mj_holds_L242
  dsimp only
  rw [v4_cells h, bd_s, if_pos (nI_le (Nat.le_refl _) (by omega))]
  unfold mj_holds_X353
  have e : sm (fun c => cn (us s c) (gs ru * sz)) (rw * cl) = cn (fun k => decide (Y k ≠ 0)) 60 := by
    rw [← sm_us h.2.2.1.1 (fun k hk => ⟨(h.2.1.2.2 k hk).2.2.2.1, (h.2.1.2.2 k hk).2.2.2.2.1, fun z => ((h.2.1.2.2 k hk).2.2.2.2.2.1 z).1⟩) 60 (Nat.le_refl _)]
    exact sm_cong (fun c hc => cn_cong (fun q hq => us_n (R := fun _ => s) h.2.1 (by omega) (by omega)))
  rw [e, if_pos rfl, v4_blocking h, bd_s, if_pos rfl]
  unfold m4_blocked m4_attempts
  rw [bd_s, bd_s, if_neg (le_n.mp hct)]
end HO
