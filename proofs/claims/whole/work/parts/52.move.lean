section MV
variable {rw cl ru sz : Nat} {F F5 : Nat → Int32} {R Rr : Nat → Nat → Int32} {G : Nat → Int32} {Q : Nat → Nat → Int32} {X Y : Nat → Nat} {Z : Nat → Bool} {k : Nat}
/-- the channel that a call finds behind it is given back, if it has one -/
theorem mv_class (h : nr_c rw cl ru sz X Y Z (Rr 0) F R G Q) (hk : k < 60) (hx : X k ≠ 0) {c : Nat} (hc : c < rw * cl) {y : Nat} (hy : y ≤ gs ru * sz) (hcv : Y k ≠ 0 → cv_ rw cl ru sz (Rr 0) c = chv y) (h0 : Y k = 0 → y = 0) (hu : y ≠ 0 → us (Rr 0) c (y - 1) = false) {s' : Nat → Int32} (hs : ∀ i, i < 7 → s' i = Rr 0 i) {x : Nat} (hxx : x = if y = 0 ∧ (Z k && decide (fxn X Z c < sz)) = false then 0 else c + 1) (hs2 : ∀ i, 14 ≤ i → s' i = pt_ (Rr 0) k (nI x) (nI y) (bi (Z k && decide (fxn X Z c < sz))) i) :
    ∃ (F2 : Nat → Int32) (R2 : Nat → Nat → Int32), m2_move F R G Q (nI k) (nI c) = ((m2_returnCalls F2 R2 G Q).bind fun ⟨v19, F17, R18⟩ => some (chv y, F17, R18)) ∧ nr_c rw cl ru sz (va_up X k x) (va_up Y k y) (va_up Z k (Z k && decide (fxn X Z c < sz))) s' F2 R2 G Q ∧ F2 4 = F 4 ∧ F2 5 = F 5 ∧ F2 6 = F 6 ∧ F2 10 = F 10 ∧ F2 7 = F 7 + bi (decide (Y k ≠ 0) && decide (y = 0)) ∧ F2 8 = F 8 + bi (Z k && !decide (fxn X Z c < sz)) ∧ F2 9 = F 9 + bi (bo_ cl ru (va_up X k x) (va_up Y k y) k) := by
  have hce := cf_ce h.1.1
  have hch := cf_ch h.1.1
  have w := h.2.1.2.2 k hk
  have c' := h.2.2.2.2.1 k hk
  have i2 : inb (nI k) 60 := in_n hk (by decide)
  generalize hacc : decide (fxn X Z c < sz) = acc at *
  -- the fixed scheme
  obtain ⟨F1, Ra, a1, a2, a3, a4, a5, a6, a7⟩ : ∃ (F1 : Nat → Int32) (Ra : Nat → Nat → Int32), (if (R 2 (nI k).toNatClampNeg) = (1 : Int32) then (m2_fixedAccepts F R G Q (nI c)).bind fun v29 => if v29 = 0 then (if inb (nI k) 60 then some ((va_up F 8 ((F 8) + (1 : Int32))), (va_up R 2 (upd (R 2) (nI k).toNatClampNeg (0 : Int32)))) else none) else some (F, R) else some (F, R)) = some (F1, Ra) ∧ (∀ i, i ≠ 8 → F1 i = F i) ∧ F1 8 = F 8 + bi (Z k && !acc) ∧ Ra 0 = R 0 ∧ Ra 1 = R 1 ∧ Ra 3 = R 3 ∧ ∀ j, j < 60 → Ra 2 j = if j = k then bi (Z k && acc) else R 2 j := by
    have hr2 : R 2 (nI k).toNatClampNeg = bi (Z k) := by rw [nI_clamp (by omega)]; exact c'.2.2
    rw [hr2, p2_fixed h c (by omega), hacc]
    have same : ∀ b : Bool, bi (Z k) = bi b → ∀ j, j < 60 → R 2 j = if j = k then bi b else R 2 j := fun b hb j hj => by
      by_cases q : j = k
      · rw [if_pos q, q, c'.2.2, hb]
      · rw [if_neg q]
    cases hz : Z k with
    | false => exact ⟨F, R, rfl, fun _ _ => rfl, (Int32.add_zero _).symm, rfl, rfl, rfl, same _ (by rw [hz]; rfl)⟩
    | true =>
      cases acc with
      | true => exact ⟨F, R, rfl, fun _ _ => rfl, (Int32.add_zero _).symm, rfl, rfl, rfl, same _ (by rw [hz]; rfl)⟩
      | false =>
        refine ⟨va_up F 8 (F 8 + 1), va_up R 2 (upd (R 2) k 0), ?_, fun i hi => va_up_ne _ _ hi, va_up_self _ _ _, va_up_ne _ _ (by decide), va_up_ne _ _ (by decide), va_up_ne _ _ (by decide), fun j hj => ?_⟩
        · rw [if_pos bi_t, bd_s, if_pos bi_f, if_pos i2, nI_clamp (by omega)]
        · rw [va_up_self]
          by_cases q : j = k
          · rw [if_pos q, q, pk_us]; rfl
          · rw [if_neg q, pk_un q]
  -- the channel
  obtain ⟨F10, R11, b1, b2, b3, b4, b5, b6, b7⟩ : ∃ (F10 : Nat → Int32) (R11 : Nat → Nat → Int32), (if (Ra 1 (nI k).toNatClampNeg) = (-9 : Int32) then some ((-9 : Int32), F1, Ra) else (m2_chooseChannel F1 Ra G Q (nI c)).bind fun v22 => (m2_release F1 Ra G Q (nI k)).bind fun ⟨F24, R25⟩ => if v22 = (-9 : Int32) then some (v22, (va_up F24 7 ((F24 7) + (1 : Int32))), R25) else some (v22, F24, R25)) = some (chv y, F10, R11) ∧ (∀ i, i ≠ 7 → F10 i = F1 i) ∧ F10 7 = F1 7 + bi (decide (Y k ≠ 0) && decide (y = 0)) ∧ R11 0 = R 0 ∧ (∀ j, j < 60 → R11 1 j = if j = k then -9 else R 1 j) ∧ R11 2 = Ra 2 ∧ ∀ c, c < rw * cl → ∀ q, q < 32 → bt (R11 3 c) q = ux_ X Y k c q := by
    rw [nI_clamp (by omega), a5, c'.2.1]
    by_cases q : Y k = 0
    · have hy0 := h0 q
      have h9 : chv y = -9 := (chv_0 (by omega)).mpr hy0
      rw [if_pos ((chv_0 (by omega)).mpr q), h9]
      refine ⟨F1, Ra, rfl, fun _ _ => rfl, ?_, a4, fun j hj => ?_, rfl, fun c hc p hp => ?_⟩
      · rw [decide_eq_false (fun z => z q)]; exact (Int32.add_zero _).symm
      · rw [a5]
        by_cases g : j = k
        · rw [if_pos g, g, c'.2.1, (chv_0 (by omega)).mpr q]
        · rw [if_neg g]
      · rw [a6, h.2.2.2.2.2.1 c hc p hp, us_ux h hk (by omega) (by omega), decide_eq_false (by omega : ¬ Y k = p + 1), Bool.and_false, Bool.or_false]
    · have ha : nr_c rw cl ru sz X Y (va_up Z k (Z k && acc)) (pt_ (Rr 0) k (nI (X k)) (nI (Y k)) (bi (Z k && acc))) F1 Ra G Q := by
        have hp := nr_put (F' := F1) (R' := Ra) (x := X k) (y := Y k) (z := Z k && acc) (s' := pt_ (Rr 0) k (nI (X k)) (nI (Y k)) (bi (Z k && acc))) h hk w.2.2.2.1 w.2.2.2.2.1 (fun z => absurd z hx) (fun z => absurd z q) (fun _ => un_ux h.2.2.1 hk (by omega) (by omega)) (fun i hi => pt_lo (by omega)) (pt_s h hk (fun i _ => rfl)) ⟨a2 1 (by decide), a2 2 (by decide), a2 3 (by decide)⟩ (fun j hj _ => by rw [a4]) (fun _ => by rw [a4]; exact c'.1 hx) (fun j hj => by rw [a5, up_id]; exact (h.2.2.2.2.1 j hj).2.1) (fun j hj => by
          rw [a7 j hj]
          by_cases g : j = k
          · rw [if_pos g, g, va_up_self]
          · rw [if_neg g, va_up_ne _ _ g]; exact (h.2.2.2.2.1 j hj).2.2) (fun c hc p hp => by
          rw [a6, h.2.2.2.2.2.1 c hc p hp, us_ux h hk (by omega) (by omega)])
        rw [up_id, up_id] at hp
        exact hp
      obtain ⟨R1, g1, g2, g3, g4, g5⟩ := p2_release ha hk
      have hus : ∀ c q, us (pt_ (Rr 0) k (nI (X k)) (nI (Y k)) (bi (Z k && acc))) c q = us (Rr 0) c q := fun c q => by
        unfold us
        refine an_cong (fun j hj => ?_)
        have g := pt_at (s := Rr 0) (a := nI (X k)) (b := nI (Y k)) (d := bi (Z k && acc)) hj hk
        rw [g.1, g.2.1]
        by_cases qq : j = k
        · rw [if_pos qq, if_pos qq, qq, w.1, w.2.1]
        · rw [if_neg qq, if_neg qq]
      rw [if_neg (fun z => q ((chv_0 (by omega)).mp z)), (p2_choose ha hc).1, cv_cong hus (pt_lo (by decide)) (pt_lo (by decide)), hcv q, bd_s, g1, bd_s]
      by_cases g : y = 0
      · have h9 : chv y = -9 := (chv_0 (by omega)).mpr g
        refine ⟨va_up F1 7 (F1 7 + 1), R1, ?_, fun i hi => va_up_ne _ _ hi, ?_, by rw [g2, a4], fun j hj => by rw [g4 j hj, a5], g3, g5⟩
        · show (if chv y = -9 then _ else _) = _
          rw [if_pos h9]
        · rw [va_up_self, decide_eq_true q, decide_eq_true g]; rfl
      · refine ⟨F1, R1, ?_, fun _ _ => rfl, ?_, by rw [g2, a4], fun j hj => by rw [g4 j hj, a5], g3, g5⟩
        · show (if chv y = -9 then _ else _) = _
          rw [if_neg (fun z => g ((chv_0 (by omega)).mp z))]
        · rw [decide_eq_false g, Bool.and_false]; exact (Int32.add_zero _).symm
  have hF : ∀ i, i < 7 → F10 i = F i := fun i hi => by rw [b2 i (by omega), a2 i (by omega)]
  obtain ⟨R', p1, p2⟩ := p2_place (z := Z k && acc) (y := y) (s' := s') (x := x) h hk (F1 := F10) (R1 := R11) hc hy (fun q => ux_av h hk hc (by omega) (hu q)) ⟨hF 1 (by decide), hF 2 (by decide), hF 3 (by decide)⟩ b4 b5 (fun j hj => by rw [b6, a7 j hj]) b7 hxx hs (pt_s h hk hs2)
  have hF' : ∀ i, i ≠ 9 → (if bo_ cl ru (va_up X k x) (va_up Y k y) k then va_up F10 9 (F10 9 + 1) else F10) i = F10 i := fun i hi => by
    split
    · exact va_up_ne _ _ hi
    · rfl
  refine ⟨(if bo_ cl ru (va_up X k x) (va_up Y k y) k then va_up F10 9 (F10 9 + 1) else F10), R', ?_, nr_cg p2 (fun _ _ => rfl) ⟨hF' 1 (by decide), hF' 2 (by decide), hF' 3 (by decide)⟩, ?_, ?_, ?_, ?_, ?_, ?_, ?_⟩
  · unfold m2_move
    rw [p2_present h, bd_s, ic_n hk, decide_eq_true hx, if_neg (by decide), if_pos i2]
    refine Eq.trans (congrArg (fun t => Option.bind t _) a1) ?_
    rw [bd_s]
    show m2_move_J46 G Q (nI k) (nI c) F1 Ra = _
    unfold m2_move_J46
    rw [if_pos i2]
    refine Eq.trans (congrArg (fun t => Option.bind t _) b1) ?_
    rw [bd_s]
    show m2_move_J87 G Q (nI k) (nI c) (chv y) F10 R11 = _
    unfold m2_move_J87
    rw [p1, bd_s]
  · rw [hF' 4 (by decide), hF 4 (by decide)]
  · rw [hF' 5 (by decide), hF 5 (by decide)]
  · rw [hF' 6 (by decide), hF 6 (by decide)]
  · rw [hF' 10 (by decide), b2 10 (by decide), a2 10 (by decide)]
  · rw [hF' 7 (by decide), b3, a2 7 (by decide)]
  · rw [hF' 8 (by decide), b2 8 (by decide), a3]
  · cases bo_ cl ru (va_up X k x) (va_up Y k y) k with
    | true => rw [if_pos rfl, va_up_self, b2 9 (by decide), a2 9 (by decide)]; rfl
    | false => rw [if_neg (by decide), b2 9 (by decide), a2 9 (by decide)]; exact (Int32.add_zero _).symm
end MV
