/-! ONE CALL CHANGED -/
def ux_ (X Y : Nat → Nat) (k c q : Nat) : Bool := an (fun j => decide (j ≠ k) && (decide (X j = c + 1) && decide (Y j = q + 1))) 60
theorem an_split (p : Nat → Bool) {k n : Nat} (hk : k < n) : an p n = (an (fun j => decide (j ≠ k) && p j) n || p k) := by
  cases h : an p n with
  | true =>
    obtain ⟨j, h1, h2⟩ := an_iff.mp h
    by_cases q : j = k
    · rw [← q, h2, Bool.or_true]
    · rw [an_iff.mpr ⟨j, h1, by rw [decide_eq_true q, h2]; rfl⟩, Bool.true_or]
  | false =>
    have h1 := an_no.mp h
    rw [an_no.mpr (fun j hj => by rw [h1 j hj, Bool.and_false]), h1 k hk]; rfl
section PU
variable {rw cl ru sz : Nat} {F F' s s' : Nat → Int32} {R R' : Nat → Nat → Int32} {G : Nat → Int32} {Q : Nat → Nat → Int32} {X Y : Nat → Nat} {Z : Nat → Bool} {k x y : Nat} {z : Bool}
theorem ux_up (c q : Nat) : ux_ (va_up X k x) (va_up Y k y) k c q = ux_ X Y k c q := an_cong (fun j _ => by
  by_cases h : j = k
  · rw [h]; simp
  · rw [va_up_ne _ _ h, va_up_ne _ _ h])
theorem us_ux (h : nr_c rw cl ru sz X Y Z s F R G Q) (hk : k < 60) {c q : Nat} (hc : c < 1000) (hq : q < 1000) : us s c q = (ux_ X Y k c q || (decide (X k = c + 1) && decide (Y k = q + 1))) := by
  rw [us_n (R := fun _ => s) h.2.1 hc hq, an_split _ hk]; rfl
theorem un_ux (hu : un_ X Y) (hk : k < 60) {c q : Nat} (h1 : X k = c + 1) (h2 : Y k = q + 1) : ux_ X Y k c q = false := an_no.mpr (fun j hj => by
  by_cases h : j = k
  · rw [h]; simp
  · by_cases g1 : X j = c + 1
    · by_cases g2 : Y j = q + 1
      · exact absurd (hu j k hj hk (by rw [g1, h1]) (by rw [g2, h2]) (by omega)) h
      · rw [decide_eq_false g2, Bool.and_false, Bool.and_false]
    · rw [decide_eq_false g1, Bool.false_and, Bool.and_false])
theorem ds_self (cl a : Nat) : ds cl a a = 0 := by
  unfold ds
  generalize a / cl = x1
  generalize a % cl = x2
  rw [Int.sub_self, Int.sub_self]; rfl
/-- an available channel of a donor -/
theorem av_ok (h : nr_c rw cl ru sz X Y Z s F R G Q) {c q : Nat} (k : Nat) (hc : c < rw * cl) (hq : q < 1000) (ha : av rw cl ru s c q = true) (hd : ∃ d, d < rw * cl ∧ ds cl d c < 2 ∧ nm cl ru d q = true) : ok_ rw cl ru X Y k c q := by
  have hce := cf_ce h.1.1
  refine ⟨fun j hj _ e hlt => ?_, hd⟩
  have w := h.2.1.2.2 j hj
  have hx : X j ≠ 0 := fun z => by have := (w.2.2.2.2.2.1 z).1; omega
  have hu : us s (X j - 1) q = true := by
    rw [us_n (R := fun _ => s) h.2.1 (by omega) hq]
    exact an_iff.mpr ⟨j, hj, by rw [decide_eq_true (show X j = X j - 1 + 1 by omega), decide_eq_true e]; rfl⟩
  unfold av at ha
  rw [Bool.and_eq_true] at ha
  by_cases g : X j - 1 = c
  · rw [← g, hu] at ha; cases ha.1
  · have h0 := cn_0.mp (of_decide_eq_true ha.2) (X j - 1) (by omega)
    unfold ne_ at h0
    rw [hu, decide_eq_true g, decide_eq_true hlt] at h0
    cases h0
theorem nr_put (h : nr_c rw cl ru sz X Y Z s F R G Q) (hk : k < 60) (hx : x ≤ rw * cl) (hy : y ≤ gs ru * sz) (h1 : x = 0 → y = 0 ∧ z = false) (h2 : y = 0 → z = false → x = 0) (hok : y ≠ 0 → ok_ rw cl ru X Y k (x - 1) (y - 1)) (hs : ∀ i, i < 7 → s' i = s i) (hs2 : ∀ j, j < 60 → s' (14 + j) = nI (va_up X k x j) ∧ s' (74 + j) = nI (va_up Y k y j) ∧ s' (134 + j) = bi (va_up Z k z j)) (hF : F' 1 = F 1 ∧ F' 2 = F 2 ∧ F' 3 = F 3) (hR0 : ∀ j, j < 60 → j ≠ k → R' 0 j = R 0 j) (hR0k : x ≠ 0 → R' 0 k = nI (x - 1)) (hR1 : ∀ j, j < 60 → R' 1 j = chv (va_up Y k y j)) (hR2 : ∀ j, j < 60 → R' 2 j = bi (va_up Z k z j)) (hR3 : ∀ c, c < rw * cl → ∀ q, q < 32 → bt (R' 3 c) q = (ux_ X Y k c q || (decide (x = c + 1) && decide (y = q + 1)))) : nr_c rw cl ru sz (va_up X k x) (va_up Y k y) (va_up Z k z) s' F' R' G Q := by
  obtain ⟨c1, c2, ⟨c3, cj⟩, c4, c5, c6, c7, c8, c9, c10, c11⟩ := h
  have hce := cf_ce c1.1
  have hru : 0 < ru := by rcases c1.1.2.2.2.2.1 with rfl | rfl <;> decide
  have hu : y ≠ 0 → ux_ X Y k (x - 1) (y - 1) = false := fun hy0 => an_no.mpr (fun j hj => by
    by_cases q : j = k
    · rw [decide_eq_false (fun z => z q), Bool.false_and]
    · by_cases q1 : X j = x - 1 + 1
      · by_cases q2 : Y j = y - 1 + 1
        · refine absurd ?_ ((hok hy0).1 j hj q q2)
          rw [q1, Nat.add_sub_cancel, ds_self]; exact hru
        · rw [decide_eq_false q2, Bool.and_false, Bool.and_false]
      · rw [decide_eq_false q1, Bool.false_and, Bool.and_false])
  have hw : wf_ (rw * cl) (gs ru * sz) (va_up X k x) (va_up Y k y) (va_up Z k z) s' := by
    refine ⟨c2.1, c2.2.1, fun j hj => ?_⟩
    have g := hs2 j hj
    refine ⟨g.1, g.2.1, g.2.2, ?_⟩
    by_cases q : j = k
    · rw [q, va_up_self, va_up_self, va_up_self]
      exact ⟨hx, hy, h1, h2⟩
    · rw [va_up_ne _ _ q, va_up_ne _ _ q, va_up_ne _ _ q]
      exact (c2.2.2 j hj).2.2.2
  have hun : un_ (va_up X k x) (va_up Y k y) := by
    have ne : y ≠ 0 → ∀ j, j < 60 → j ≠ k → X j = x → Y j = y → False := fun hy0 j hj hjk e1 e2 => by
      have hx0 : x ≠ 0 := fun w => hy0 (h1 w).1
      have := an_no.mp (hu hy0) j hj
      rw [decide_eq_true hjk, decide_eq_true (show X j = x - 1 + 1 by omega), decide_eq_true (show Y j = y - 1 + 1 by omega)] at this
      cases this
    intro i j hi hj e1 e2 e3
    by_cases q1 : i = k
    · by_cases q2 : j = k
      · rw [q1, q2]
      · rw [q1, va_up_self, va_up_ne _ _ q2] at e1 e2
        rw [q1, va_up_self] at e3
        exact (ne e3 j hj q2 e1.symm e2.symm).elim
    · by_cases q2 : j = k
      · rw [q2, va_up_self, va_up_ne _ _ q1] at e1 e2
        rw [va_up_ne _ _ q1, e2] at e3
        exact (ne e3 i hi q1 e1 e2).elim
      · rw [va_up_ne _ _ q1, va_up_ne _ _ q2] at e1 e2
        rw [va_up_ne _ _ q1] at e3
        exact c3 i j hi hj e1 e2 e3
  have hjj : jj_ rw cl ru (va_up X k x) (va_up Y k y) := by
    intro j hj hY
    by_cases q : j = k
    · rw [q, va_up_self] at hY
      rw [q, va_up_self, va_up_self]
      have g := hok hY
      refine ⟨fun i hi hik e => ?_, g.2⟩
      rw [va_up_ne _ _ hik] at e ⊢
      exact g.1 i hi hik e
    · rw [va_up_ne _ _ q] at hY
      rw [va_up_ne _ _ q, va_up_ne _ _ q]
      have g := cj j hj hY
      refine ⟨fun i hi hij e => ?_, g.2⟩
      by_cases qi : i = k
      · rw [qi, va_up_self] at e ⊢
        have hy0 : y ≠ 0 := by omega
        have := (hok hy0).1 j hj q (by omega)
        rw [ds_comm] at this
        exact this
      · rw [va_up_ne _ _ qi] at e ⊢
        exact g.1 i hi hij e
  refine ⟨⟨c1.1, ?_, ?_, ?_, ?_⟩, hw, ⟨hun, hjj⟩, c4, fun j hj => ⟨fun q => ?_, hR1 j hj, hR2 j hj⟩, fun c hc q hq => ?_, ?_, ?_, ?_, ?_, ?_⟩
  · rw [hs 0 (by decide)]; exact c1.2.1
  · rw [hs 1 (by decide)]; exact c1.2.2.1
  · rw [hs 2 (by decide)]; exact c1.2.2.2.1
  · rw [hs 3 (by decide)]; exact c1.2.2.2.2
  · by_cases g : j = k
    · rw [g, va_up_self] at q ⊢; exact hR0k q
    · rw [va_up_ne _ _ g] at q ⊢
      rw [hR0 j hj g]; exact (c5 j hj).1 q
  · rw [hR3 c hc q hq, us_n (R := fun _ => s') hw (by omega) (by omega), an_split _ hk, va_up_self, va_up_self]
    congr 1
    exact (ux_up c q).symm
  · rw [hF.1, hs 4 (by decide)]; exact c7
  · rw [hF.2.1, hs 5 (by decide)]; exact c8
  · rw [hF.2.2, hs 6 (by decide)]; exact c9
  · rw [hs 6 (by decide), hs 4 (by decide)]; exact c10
  · rw [hs 5 (by decide)]; exact c11
/-- only what is read counts -/
theorem nr_cg (h : nr_c rw cl ru sz X Y Z s F R G Q) (hs : ∀ i, i < 7 ∨ 14 ≤ i → s' i = s i) (hF : F' 1 = F 1 ∧ F' 2 = F 2 ∧ F' 3 = F 3) : nr_c rw cl ru sz X Y Z s' F' R G Q := by
  obtain ⟨c1, c2, c3, c4, c5, c6, c7, c8, c9, c10, c11⟩ := h
  have hw : wf_ (rw * cl) (gs ru * sz) X Y Z s' := ⟨c2.1, c2.2.1, fun j hj => by
    rw [hs _ (Or.inr (by omega)), hs _ (Or.inr (by omega)), hs _ (Or.inr (by omega))]; exact c2.2.2 j hj⟩
  refine ⟨⟨c1.1, ?_, ?_, ?_, ?_⟩, hw, c3, c4, c5, fun c hc q hq => ?_, ?_, ?_, ?_, ?_, ?_⟩
  · rw [hs 0 (by decide)]; exact c1.2.1
  · rw [hs 1 (by decide)]; exact c1.2.2.1
  · rw [hs 2 (by decide)]; exact c1.2.2.2.1
  · rw [hs 3 (by decide)]; exact c1.2.2.2.2
  · rw [c6 c hc q hq]
    unfold us
    exact an_cong (fun j hj => by rw [hs _ (Or.inr (by omega)), hs _ (Or.inr (by omega))])
  · rw [hF.1, hs 4 (by decide)]; exact c7
  · rw [hF.2.1, hs 5 (by decide)]; exact c8
  · rw [hF.2.2, hs 6 (by decide)]; exact c9
  · rw [hs 6 (by decide), hs 4 (by decide)]; exact c10
  · rw [hs 5 (by decide)]; exact c11
/-- a channel is given back -/
theorem p2_release (h : nr_c rw cl ru sz X Y Z s F R G Q) (hk : k < 60) : ∃ R', m2_release F R G Q (nI k) = some (F, R') ∧ R' 0 = R 0 ∧ R' 2 = R 2 ∧ (∀ j, j < 60 → R' 1 j = if j = k then -9 else R 1 j) ∧ ∀ c, c < rw * cl → ∀ q, q < 32 → bt (R' 3 c) q = ux_ X Y k c q := by
  have hce := cf_ce h.1.1
  have hch := cf_ch h.1.1
  have w := h.2.1.2.2 k hk
  have i2 : inb (nI k) 60 := in_n hk (by decide)
  have eK : (nI k).toNatClampNeg = k := nI_clamp (by omega)
  unfold m2_release
  rw [p2_present h, bd_s, ic_n hk]
  by_cases q : Y k = 0
  · have hy : chv (Y k) = -9 := (chv_0 (by omega)).mpr q
    have hR : R 1 k = -9 := by rw [(h.2.2.2.2.1 k hk).2.1, hy]
    refine ⟨R, ?_, rfl, rfl, fun j hj => ?_, fun c hc p hp => ?_⟩
    · by_cases g : X k = 0
      · rw [decide_eq_false (fun z => z g), if_pos bi_f]
      · rw [decide_eq_true g, if_neg (by decide), if_pos i2, if_pos (show R 1 (nI k).toNatClampNeg = -9 by rw [eK]; exact hR)]
    · by_cases g : j = k
      · rw [if_pos g, g, hR]
      · rw [if_neg g]
    · rw [h.2.2.2.2.2.1 c hc p hp, us_ux h hk (by omega) (by omega), decide_eq_false (by omega : ¬ Y k = p + 1), Bool.and_false, Bool.or_false]
  · have hx : X k ≠ 0 := fun z => q (w.2.2.2.2.2.1 z).1
    have hy : chv (Y k) = nI (Y k - 1) := if_neg q
    have i1 : inb (nI (X k - 1)) 25 := in_n (by omega) (by decide)
    have e0 : R 0 k = nI (X k - 1) := (h.2.2.2.2.1 k hk).1 hx
    have e1 : R 1 k = nI (Y k - 1) := by rw [(h.2.2.2.2.1 k hk).2.1, hy]
    have f0 : R 0 (nI k).toNatClampNeg = nI (X k - 1) := by rw [eK, e0]
    have f1 : ¬ R 1 (nI k).toNatClampNeg = -9 := by rw [eK, e1]; exact n9 (by omega)
    have eX : (nI (X k - 1)).toNatClampNeg = X k - 1 := nI_clamp (by omega)
    rw [decide_eq_true hx, if_neg (by decide), if_pos i2, if_neg f1, if_pos i2, f0, p1_hasCell h, bd_s, isC_n (by omega) (by omega), if_neg (by decide), if_pos i1, if_pos i2, if_pos i1, if_pos i2, eX, eK, e1]
    refine ⟨_, rfl, rfl, rfl, fun j hj => ?_, fun c hc p hp => ?_⟩
    · rw [va_up_self]
      by_cases g : j = k
      · rw [if_pos g, g, pk_us]
      · rw [if_neg g, pk_un g]; rfl
    · rw [va_up_ne _ _ (by decide), va_up_self]
      by_cases g : c = X k - 1
      · rw [g, pk_us, b_and, b_xor, b_m1 p hp, b_one (by omega) hp, h.2.2.2.2.2.1 _ (by omega) p hp, us_ux h hk (by omega) (by omega)]
        by_cases g2 : p = Y k - 1
        · rw [decide_eq_true g2, un_ux h.2.2.1.1 hk (by omega) (by omega)]
          simp
        · rw [decide_eq_false g2, decide_eq_false (by omega : ¬ Y k = p + 1)]
          simp
      · rw [pk_un g, h.2.2.2.2.2.1 c hc p hp, us_ux h hk (by omega) (by omega), decide_eq_false (by omega : ¬ X k = c + 1), Bool.false_and, Bool.or_false]
/-- a channel is taken -/
theorem p2_occupy (hG : G 0 = nI (rw * cl)) (hce : rw * cl ≤ 25) (hk : k < 60) {c1 : Nat} (hc : c1 < rw * cl) (h0 : R 0 k = nI c1) (hy : y ≤ 28) (h1 : R 1 k = -9) : ∃ R', m2_occupy F R G Q (nI k) (chv y) = some (F, R') ∧ R' 0 = R 0 ∧ R' 2 = R 2 ∧ (∀ j, j < 60 → R' 1 j = if j = k then chv y else R 1 j) ∧ ∀ c, c < rw * cl → ∀ q, q < 32 → bt (R' 3 c) q = (bt (R 3 c) q || (decide (c = c1) && decide (y = q + 1))) := by
  have i2 : inb (nI k) 60 := in_n hk (by decide)
  have i1 : inb (nI c1) 25 := in_n (by omega) (by decide)
  have hb : decide ((0 : Int32) ≤ nI k ∧ nI k ≤ 59) = true := by rw [isC60, isC_n (by decide) hk]
  unfold m2_occupy
  rw [m4_isB, bd_s, hb, if_neg (by decide), if_pos i2, bd_s, nI_clamp (by omega), h0]
  unfold m2_occupy_J21
  by_cases q : y = 0
  · rw [if_pos ((chv_0 hy).mpr q)]
    refine ⟨R, rfl, rfl, rfl, fun j hj => ?_, fun c hc p hp => ?_⟩
    · by_cases g : j = k
      · rw [if_pos g, g, h1, (chv_0 hy).mpr q]
      · rw [if_neg g]
    · rw [decide_eq_false (by omega : ¬ y = p + 1), Bool.and_false, Bool.or_false]
  · have hyv : chv y = nI (y - 1) := if_neg q
    rw [hyv, if_neg (n9 (by omega)), q1_hasCell hG hce, bd_s, isC_n (by omega) hc, if_neg (by decide), if_pos i2, if_pos i1, if_pos i1, nI_clamp (by omega), nI_clamp (by omega)]
    refine ⟨_, rfl, rfl, rfl, fun j hj => ?_, fun c hc p hp => ?_⟩
    · rw [va_up_ne _ _ (by decide), va_up_self]
      by_cases g : j = k
      · rw [if_pos g, g, pk_us]
      · rw [if_neg g, pk_un g]
    · rw [va_up_self]
      by_cases g : c = c1
      · rw [g, pk_us, b_or, b_one (by omega) hp, decide_eq_true rfl, Bool.true_and, va_up_ne _ _ (by decide)]
        congr 1
        exact decide_eq_decide.mpr (by omega)
      · rw [pk_un g, decide_eq_false g, Bool.false_and, Bool.or_false, va_up_ne _ _ (by decide)]
/-- whether a call is there, by the cells alone -/
theorem q2_present (hk : k < 60) : m2_isPresent F R G Q (nI k) = some (bi (!decide (R 1 k = -9) || decide (R 2 k = 1))) := by
  have e1 : ¬ nI k < 0 := nI_pos (by omega)
  have e2 : ¬ (60 : Int32) ≤ nI k := nI_ge (b := 60) hk (by decide)
  have e3 : inb (nI k) 60 := in_n hk (by decide)
  unfold m2_isPresent
  rw [if_neg e1, if_neg e2, if_pos e3, if_pos e3, nI_clamp (by omega)]
  by_cases g1 : R 1 k = -9
  · rw [if_pos g1, decide_eq_true g1]
    by_cases g2 : R 2 k = 1
    · rw [if_pos g2, decide_eq_true g2]; rfl
    · rw [if_neg g2, decide_eq_false g2]; rfl
  · rw [if_neg g1, decide_eq_false g1]; rfl
/-- a call without a channel is put into a cell -/
theorem p2_place (h : nr_c rw cl ru sz X Y Z s F R G Q) (hk : k < 60) {F1 : Nat → Int32} {R1 : Nat → Nat → Int32} {c1 : Nat} (hc : c1 < rw * cl) (hy : y ≤ gs ru * sz) (hu : y ≠ 0 → ok_ rw cl ru X Y k c1 (y - 1)) (hF : F1 1 = F 1 ∧ F1 2 = F 2 ∧ F1 3 = F 3) (hR0 : R1 0 = R 0) (hR1 : ∀ j, j < 60 → R1 1 j = if j = k then -9 else R 1 j) (hR2 : ∀ j, j < 60 → R1 2 j = if j = k then bi z else R 2 j) (hR3 : ∀ c, c < rw * cl → ∀ q, q < 32 → bt (R1 3 c) q = ux_ X Y k c q) (hx : x = if y = 0 ∧ z = false then 0 else c1 + 1) (hs : ∀ i, i < 7 → s' i = s i) (hs2 : ∀ j, j < 60 → s' (14 + j) = nI (va_up X k x j) ∧ s' (74 + j) = nI (va_up Y k y j) ∧ s' (134 + j) = bi (va_up Z k z j)) :
    ∃ R', m2_place F1 R1 G Q (nI k) (nI c1) (chv y) = some (if bo_ cl ru (va_up X k x) (va_up Y k y) k then va_up F1 9 (F1 9 + 1) else F1, R') ∧ nr_c rw cl ru sz (va_up X k x) (va_up Y k y) (va_up Z k z) s' F1 R' G Q := by
  have hce := cf_ce h.1.1
  have hch := cf_ch h.1.1
  have i2 : inb (nI k) 60 := in_n hk (by decide)
  have hb : decide ((0 : Int32) ≤ nI k ∧ nI k ≤ 59) = true := by rw [isC60, isC_n (by decide) hk]
  obtain ⟨R', e1, e2, e3, e4, e5⟩ := p2_occupy (F := F1) (R := va_up R1 0 (upd (R1 0) k (nI c1))) (Q := Q) (y := y) h.2.2.2.1.1 hce.2 hk hc (by rw [va_up_self, pk_us]) (by omega) (by rw [va_up_ne _ _ (by decide), hR1 k hk, if_pos rfl])
  have hn : nr_c rw cl ru sz (va_up X k x) (va_up Y k y) (va_up Z k z) s' F1 R' G Q := by
    refine nr_put h hk ?_ hy ?_ ?_ ?_ hs hs2 hF (fun j hj hjk => ?_) (fun q => ?_) (fun j hj => ?_) (fun j hj => ?_) (fun c hc' q hq => ?_)
    · rw [hx]; split <;> omega
    · intro q
      by_cases g : y = 0 ∧ z = false
      · exact g
      · rw [hx, if_neg g] at q; omega
    · intro q1 q2; rw [hx, if_pos ⟨q1, q2⟩]
    · intro q
      rw [hx, if_neg (fun w => q w.1), Nat.add_sub_cancel]; exact hu q
    · rw [e2, va_up_self, pk_un hjk, hR0]
    · rw [e2, va_up_self, pk_us, hx]
      by_cases g : y = 0 ∧ z = false
      · rw [hx, if_pos g] at q; exact absurd rfl q
      · rw [if_neg g, Nat.add_sub_cancel]
    · rw [e4 j hj]
      by_cases g : j = k
      · rw [if_pos g, g, va_up_self]
      · rw [if_neg g, va_up_ne _ _ g, va_up_ne _ _ (by decide), hR1 j hj, if_neg g, (h.2.2.2.2.1 j hj).2.1]
    · rw [e3, va_up_ne _ _ (by decide), hR2 j hj]
      by_cases g : j = k
      · rw [if_pos g, g, va_up_self]
      · rw [if_neg g, va_up_ne _ _ g, (h.2.2.2.2.1 j hj).2.2]
    · rw [e5 c hc' q hq, va_up_ne _ _ (by decide), hR3 c hc' q hq]
      congr 1
      by_cases g : y = 0 ∧ z = false
      · rw [decide_eq_false (by omega : ¬ y = q + 1), Bool.and_false, Bool.and_false]
      · rw [hx, if_neg g]
        congr 1
        exact decide_eq_decide.mpr (by omega)
  refine ⟨R', ?_, hn⟩
  unfold m2_place m2_place_J41
  rw [m4_isB, bd_s, hb, if_neg (by decide), if_pos i2, nI_clamp (by omega), e1, bd_s]
  show (((m2_borrows F1 R' G Q (nI k)).bind fun v12 => if v12 = 0 then some (F1, R') else some ((va_up F1 9 ((F1 9) + (1 : Int32))), R')).bind _) = _
  rw [p2_borrows hn hk, bd_s]
  cases bo_ cl ru (va_up X k x) (va_up Y k y) k <;> rfl
end PU
