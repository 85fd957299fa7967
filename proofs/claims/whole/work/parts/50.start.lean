section ST
variable {rw cl ru sz : Nat} {F F5 : Nat → Int32} {R Rr : Nat → Nat → Int32} {G : Nat → Int32} {Q : Nat → Nat → Int32} {X Y : Nat → Nat} {Z : Nat → Bool} {k : Nat}
theorem r5_find (hw : wf_ (rw * cl) (gs ru * sz) X Y Z (Rr 0)) (hf : fr_ X < 60) : wh (m5_start_L13 Rr) 2000 (0 : Int32) = some (nI (fr_ X)) := by
  refine wh_eq (fun i t => t = nI i ∧ ∀ j, j < i → decide (X j = 0) = false) _ 60 (by omega) ⟨rfl, fun k hk => absurd hk (Nat.not_lt_zero k)⟩ (fun i t hi ht => ?_) (fun t ht kk => ?_)
  · obtain ⟨rfl, hno⟩ := ht
    obtain ⟨e1, e2, -⟩ := cl_74 hi
    have w := hw.2.2 i hi
    have hce := hw.1
    have hv : (va_up Rr 0 (upd (Rr 0) (7 : Int32).toNatClampNeg ((Rr 0 (7 : Int32).toNatClampNeg) + (1 : Int32)))) 0 ((14 : Int32) + nI i).toNatClampNeg = nI (X i) := by
      rw [va_up_self, e2, cl_7, pk_un (by omega), w.1]
    by_cases hb : X i = 0
    · refine Or.inr (fun kk => ?_)
      unfold m5_start_L13
      rw [if_pos e1, hv, hb, if_pos (by decide)]
      have : fr_ X = i := fi_is hi (decide_eq_true hb) hno
      rw [this]
    · refine Or.inl ⟨nI (i + 1), ⟨rfl, fun j hj => ?_⟩, fun kk => ?_⟩
      · by_cases q : j = i
        · rw [q]; exact decide_eq_false hb
        · exact hno j (by omega)
      · unfold m5_start_L13
        rw [if_pos e1, hv, if_neg (nI_nle (by omega) (by omega)), nI_1]
  · have h2 : decide (X (fr_ X) = 0) = true := fi_yes _ _ hf
    rw [ht.2 _ hf] at h2; cases h2
theorem op_start (h : nr_c rw cl ru sz X Y Z (Rr 0) F R G Q) (hcn : ∀ i, i < 7 → F (4 + i) = Rr 0 (7 + i)) {c : Nat} (hc : c < rw * cl) (hfree : fr_ X < 60) : ∃ (v : Int32) (F' : Nat → Int32) (R' : Nat → Nat → Int32) (F5' : Nat → Int32) (Rr' : Nat → Nat → Int32), m2_start F R G Q (nI c) = some (v, F', R') ∧ m5_start F5 Rr (nI c) = some (v, F5', Rr') ∧ nr_s (Rr' 0) F' R' G Q ∧ (∀ j, j ≠ 0 → j ≠ 5 → Rr' j = Rr j) ∧ (∀ j, j ≠ 7 → F5' j = F5 j) ∧ (0 ≤ v ∨ v = -9) := by
  have hce := cf_ce h.1.1
  have hch := cf_ch h.1.1
  have hf := h.1.1
  unfold cf_ok at hf
  generalize hs1 : upd (Rr 0) 7 (Rr 0 7 + 1) = s1
  have h1 : nr_c rw cl ru sz X Y Z s1 F R G Q := nr_cg h (fun i hi => by rw [← hs1]; exact pk_un (by omega)) ⟨rfl, rfl, rfl⟩
  obtain ⟨y, hy1, hy2, hy3⟩ := cv_y (s := s1) h1.1.1 hc
  obtain ⟨Fc, Rc, k1, k2, k3, k4⟩ := r5_choose (F := F5) (R := va_up Rr 0 s1) (by rw [va_up_self]; exact h1.1) (by rw [va_up_self]; exact h1.2.2.2.2.2.2.2.2.2.2) hc
  rw [va_up_self] at k1 k3
  rw [hy2] at k1
  have hRc : Rc 0 = s1 := by rw [k4 0 (by decide), va_up_self]
  have hRcj : ∀ j, j ≠ 0 → j ≠ 5 → Rc j = Rr j := fun j a b => by rw [k4 j b, va_up_ne _ _ a]
  -- the class
  generalize hF7 : (if fxn X Z c < sz then (if y = 0 then (va_up (va_up F 4 (F 4 + 1)) 5 ((va_up F 4 (F 4 + 1)) 5 + 1)) else va_up F 4 (F 4 + 1)) else va_up (if y = 0 then (va_up (va_up F 4 (F 4 + 1)) 5 ((va_up F 4 (F 4 + 1)) 5 + 1)) else va_up F 4 (F 4 + 1)) 6 ((if y = 0 then (va_up (va_up F 4 (F 4 + 1)) 5 ((va_up F 4 (F 4 + 1)) 5 + 1)) else va_up F 4 (F 4 + 1)) 6 + 1)) = F7
  have hF7i : ∀ i, i < 4 ∨ 6 < i → F7 i = F i := fun i hi => by
    rw [← hF7]
    split <;> split <;> simp only [va_up_ne _ _ (show i ≠ 4 by omega), va_up_ne _ _ (show i ≠ 5 by omega), va_up_ne _ _ (show i ≠ 6 by omega)]
  have hF74 : F7 4 = F 4 + 1 := by
    rw [← hF7]
    split <;> split <;> simp [va_up]
  have hF75 : F7 5 = F 5 + bi (decide (y = 0)) := by
    rw [← hF7]
    by_cases q : y = 0 <;> by_cases g : fxn X Z c < sz <;> simp [va_up, q, g, bi]
  have hF76 : F7 6 = F 6 + bi (!decide (fxn X Z c < sz)) := by
    rw [← hF7]
    by_cases q : fxn X Z c < sz
    · simp only [q, if_true, decide_true, Bool.not_true]
      split <;> simp [va_up, bi]
    · simp only [q, if_false, decide_false, Bool.not_false]
      split <;> simp [va_up, bi]
  have h7 : nr_c rw cl ru sz X Y Z s1 F7 R G Q := nr_cg h1 (fun _ _ => rfl) ⟨hF7i 1 (by decide), hF7i 2 (by decide), hF7i 3 (by decide)⟩
  have hkX : X (fr_ X) = 0 := of_decide_eq_true (fi_yes _ _ hfree)
  have hkY := (h.2.1.2.2 (fr_ X) hfree).2.2.2.2.2.1 hkX
  have hm2 : m2_start F R G Q (nI c) = m2_start_J52 R G Q (nI c) (chv y) (bi (decide (fxn X Z c < sz))) F7 := by
    unfold m2_start m2_start_J38
    rw [(p2_choose h1 hc).1, bd_s, hy2, p2_fixed h1 c (by omega), bd_s, ← hF7]
    by_cases q : y = 0
    · rw [if_pos ((chv_0 (by omega)).mpr q), bd_s]
      by_cases g : fxn X Z c < sz
      · rw [decide_eq_true g, if_neg (by decide), bd_s]; simp only [q, g, if_true]
      · rw [decide_eq_false g, if_pos bi_f, bd_s]; simp only [q, g, if_true, if_false]
    · rw [if_neg (fun z => q ((chv_0 (by omega)).mp z)), bd_s]
      by_cases g : fxn X Z c < sz
      · rw [decide_eq_true g, if_neg (by decide), bd_s]; simp only [q, g, if_true, if_false]
      · rw [decide_eq_false g, if_pos bi_f, bd_s]; simp only [q, g, if_false]
  have hm5 : m5_start F5 Rr (nI c) = m5_start_J97 (nI c) (nI (fr_ X)) (chv y) Fc Rc (bi (decide (fxn X Z c < sz))) (bi (decide (y = 0))) (bi (!decide (fxn X Z c < sz))) := by
    unfold m5_start m5_start_X31 m5_start_J56 m5_start_J77
    rw [r5_find h.2.1 hfree, bd_s, cl_7, hs1, k1, bd_s]
    show (m5_fixedIn Fc Rc (nI c)).bind _ = _
    rw [r5_fixedIn (by rw [hRc]; exact h1.2.1) (by omega), bd_s, cl_3, hRc, h1.1.2.2.2.2]
    have hn : fxn X Z c ≤ 60 := cn_le _ _
    have ha : (if nI sz ≤ nI (fxn X Z c) then some (0 : Int32) else some (1 : Int32)) = some (bi (decide (fxn X Z c < sz))) := by
      by_cases g : fxn X Z c < sz
      · rw [if_neg (fun z => by have := (nI_leI (by omega) (by omega)).mp z; omega), decide_eq_true g]; rfl
      · rw [if_pos (nI_le (by omega) (by omega)), decide_eq_false g]; rfl
    have hb : (if chv y = -9 then some (1 : Int32) else some (0 : Int32)) = some (bi (decide (y = 0))) := by
      by_cases q : y = 0
      · rw [if_pos ((chv_0 (by omega)).mpr q), decide_eq_true q]; rfl
      · rw [if_neg (fun z => q ((chv_0 (by omega)).mp z)), decide_eq_false q]; rfl
    have hc' : (if bi (decide (fxn X Z c < sz)) = 0 then some (1 : Int32) else some (0 : Int32)) = some (bi (!decide (fxn X Z c < sz))) := by
      cases decide (fxn X Z c < sz) <;> rfl
    rw [ha, bd_s, hb, bd_s, hc', bd_s]
  generalize hacc : decide (fxn X Z c < sz) = acc at *
  have hk := hfree
  generalize hkk : fr_ X = k at *
  obtain ⟨e1, e2, e3, e4, e5, e6⟩ := cl_74 hk
  rw [hm2, hm5]
  have hfree2 : m2_lowestFreeNumber F7 R G Q = some (nI k) := by
    rw [p2_free h7, hkk]; unfold nv; rw [if_pos hk]
  have hb : decide ((0 : Int32) ≤ nI k ∧ nI k ≤ 59) = true := by rw [isC60, isC_n (by decide) hk]
  have hs1i : ∀ i, i ≠ 7 → s1 i = Rr 0 i := fun i hi => by rw [← hs1]; exact pk_un hi
  have hs17 : s1 7 = Rr 0 7 + 1 := by rw [← hs1]; exact pk_us
  by_cases hbl : y = 0 ∧ acc = false
  · obtain ⟨q1, q2⟩ := hbl
    have hc9 : chv y = -9 := (chv_0 (by omega)).mpr q1
    refine ⟨-9, F7, R, Fc, va_up Rc 0 (upd (upd s1 8 (s1 8 + 1)) 9 (s1 9 + 1)), ?_, ?_, ⟨rw, cl, ru, sz, X, Y, Z, ?_, fun i hi => ?_⟩, fun j a b => by rw [va_up_ne _ _ a]; exact hRcj j a b, k2, Or.inr rfl⟩
    · unfold m2_start_J52
      rw [hfree2, bd_s, m4_isB, bd_s, hb, if_neg (by decide), if_pos hc9, q2, if_pos bi_f]
    · unfold m5_start_J97
      rw [if_pos hc9, q2, if_pos bi_f, decide_eq_true q1]
      simp only [bx_uu, va_up_self, cl_8, cl_9, hRc]
      rfl
    · rw [va_up_self]
      exact nr_cg h7 (fun i hi => by rw [pk_un (by omega), pk_un (by omega)]) ⟨rfl, rfl, rfl⟩
    · rw [va_up_self]
      have : i = 0 ∨ i = 1 ∨ i = 2 ∨ 3 ≤ i := by omega
      rcases this with rfl | rfl | rfl | h3
      · rw [pk_un (by decide), pk_un (by decide), hs17]; exact hF74.trans (by rw [hcn 0 (by decide)])
      · rw [pk_un (by decide), pk_us, hs1i 8 (by decide)]; exact hF75.trans (by rw [hcn 1 (by decide), decide_eq_true q1]; rfl)
      · rw [pk_us, hs1i 9 (by decide)]; exact hF76.trans (by rw [hcn 2 (by decide), q2]; rfl)
      · rw [pk_un (by omega), pk_un (by omega), hs1i _ (by omega), hF7i _ (by omega)]; exact hcn i hi
  · have hx : (if y = 0 ∧ acc = false then 0 else c + 1) = c + 1 := if_neg hbl
    have i2 : inb (nI k) 60 := in_n hk (by decide)
    obtain ⟨R', p1, p2⟩ := p2_place (z := acc) (y := y) (s' := st5 s1 c k (bi (decide (y = 0))) (bi (!acc)) (nI y) (bi acc)) h7 hk (F1 := F7) (R1 := va_up R 2 (upd (R 2) k (bi acc))) hc hy1 (fun q => ux_av h7 hk hc (by omega) (hy3 q)) ⟨rfl, rfl, rfl⟩ (va_up_ne _ _ (by decide)) (fun j hj => by
        rw [va_up_ne _ _ (by decide)]
        by_cases q : j = k
        · rw [if_pos q, q, (h7.2.2.2.2.1 k hk).2.1, hkY.1]; rfl
        · rw [if_neg q]) (fun j hj => by
        rw [va_up_self]
        by_cases q : j = k
        · rw [if_pos q, q, pk_us]
        · rw [if_neg q, pk_un q]) (fun c' hc' q hq => by
        rw [va_up_ne _ _ (by decide), h7.2.2.2.2.2.1 c' hc' q hq, us_ux h7 hk (by omega) (by omega), hkY.1]
        simp) hx.symm (fun i hi => by
        unfold st5
        rw [pk_un (by omega), pk_un (by omega), pk_un (by omega), pk_un (by omega), pk_un (by omega)]) (fun j hj => by
        have w := h7.2.1.2.2 j hj
        unfold st5
        by_cases q : j = k
        · rw [q, va_up_self, va_up_self, va_up_self, pk_un (by omega), pk_un (by omega), pk_us, pk_un (by omega), pk_us, pk_us]
          exact ⟨rfl, rfl, rfl⟩
        · rw [va_up_ne _ _ q, va_up_ne _ _ q, va_up_ne _ _ q]
          rw [pk_un (by omega), pk_un (by omega), pk_un (by omega), pk_un (by omega), pk_un (by omega)]
          rw [pk_un (by omega), pk_un (by omega), pk_un (by omega), pk_un (by omega), pk_un (by omega)]
          rw [pk_un (by omega), pk_un (by omega), pk_un (by omega), pk_un (by omega), pk_un (by omega)]
          exact ⟨w.1, w.2.1, w.2.2.1⟩)
    generalize hst : st5 s1 c k (bi (decide (y = 0))) (bi (!acc)) (nI y) (bi acc) = t5 at *
    generalize hX' : va_up X k (c + 1) = X' at *
    generalize hY' : va_up Y k y = Y' at *
    generalize hZ' : va_up Z k acc = Z' at *
    have hbor : m5_borrowed Fc (va_up Rc 0 t5) (nI k) = some (bi (bo_ cl ru X' Y' k)) := r5_borrowed (Z := Z') (by rw [va_up_self]; exact p2.1) (by rw [va_up_self]; exact p2.2.1) hk
    have hv26 : (if bi (bo_ cl ru X' Y' k) = 0 then some (0 : Int32) else some (1 : Int32)) = some (bi (bo_ cl ru X' Y' k)) := by cases bo_ cl ru X' Y' k <;> rfl
    have hmid : (m5_borrowed Fc (va_up Rc 0 (st5 (Rc 0) c k (bi (decide (y = 0))) (bi (!acc)) (nI y) (bi acc))) (nI k)).bind (fun v25 => (if v25 = 0 then some (0 : Int32) else some (1 : Int32)).bind fun v26 => some (nI k, Fc, va_up Rc 0 (upd (st5 (Rc 0) c k (bi (decide (y = 0))) (bi (!acc)) (nI y) (bi acc)) 12 (st5 (Rc 0) c k (bi (decide (y = 0))) (bi (!acc)) (nI y) (bi acc) 12 + v26)))) = some (nI k, Fc, va_up Rc 0 (upd t5 12 (t5 12 + bi (bo_ cl ru X' Y' k)))) := by
      rw [hRc, hst, hbor, bd_s, hv26, bd_s]
    have hasn : m4_asNumber (bi acc) = some (bi acc) := m4_asN acc
    refine ⟨nI k, (if bo_ cl ru X' Y' k then va_up F7 9 (F7 9 + 1) else F7), R', Fc, va_up Rc 0 (upd t5 12 (t5 12 + bi (bo_ cl ru X' Y' k))), ?_, ?_, ⟨rw, cl, ru, sz, X', Y', Z', ?_, fun i hi => ?_⟩, fun j a b => by rw [va_up_ne _ _ a]; exact hRcj j a b, k2, Or.inl (nI_pos' (by omega))⟩
    · unfold m2_start_J52
      rw [hfree2, bd_s, m4_isB, bd_s, hb, if_neg (by decide)]
      by_cases q : y = 0
      · have ha : acc = true := by cases acc with
          | true => rfl
          | false => exact absurd ⟨q, rfl⟩ hbl
        rw [if_pos ((chv_0 (by omega)).mpr q), if_neg (by rw [ha]; decide), hasn, bd_s, if_pos i2, nI_clamp (by omega), p1, bd_s]
      · rw [if_neg (fun z => q ((chv_0 (by omega)).mp z)), hasn, bd_s, if_pos i2, nI_clamp (by omega), p1, bd_s]
    · unfold m5_start_J97
      by_cases q : y = 0
      · have ha : acc = true := by cases acc with
          | true => rfl
          | false => exact absurd ⟨q, rfl⟩ hbl
        have hc9 : chv y = -9 := (chv_0 (by omega)).mpr q
        rw [if_pos hc9, if_neg (by rw [ha]; decide), if_pos e1, if_pos hc9, bd_s, J146_E2 hk]
        rw [q] at hmid ⊢
        exact hmid
      · have hc9 : ¬ chv y = -9 := fun z => q ((chv_0 (by omega)).mp z)
        have hv : chv y + 1 = nI y := by
          unfold chv
          rw [if_neg q, nI_1, show y - 1 + 1 = y by omega]
        rw [if_neg hc9, if_pos e1, if_neg hc9, bd_s, hv, J146_E hk]
        exact hmid
    · rw [va_up_self]
      refine nr_cg p2 (fun i hi => pk_un (by omega)) ?_
      split
      · exact ⟨va_up_ne _ _ (by decide), va_up_ne _ _ (by decide), va_up_ne _ _ (by decide)⟩
      · exact ⟨rfl, rfl, rfl⟩
    · rw [va_up_self]
      have hF9 : ∀ i, i ≠ 9 → (if bo_ cl ru X' Y' k then va_up F7 9 (F7 9 + 1) else F7) i = F7 i := fun i hi => by
        split
        · exact va_up_ne _ _ hi
        · rfl
      have ht5 : ∀ i, 9 < i → i < 14 → t5 i = Rr 0 i := fun i a b => by
        rw [← hst]; unfold st5
        rw [pk_un (by omega), pk_un (by omega), pk_un (by omega), pk_un (by omega), pk_un (by omega)]
        exact hs1i i (by omega)
      have t57 : t5 7 = Rr 0 7 + 1 := by
        rw [← hst]; unfold st5
        rw [pk_un (by omega), pk_un (by omega), pk_un (by omega), pk_un (by omega), pk_un (by omega)]; exact hs17
      have t58 : t5 8 = Rr 0 8 + bi (decide (y = 0)) := by
        rw [← hst]; unfold st5
        rw [pk_un (by omega), pk_un (by omega), pk_un (by omega), pk_un (by omega), pk_us, hs1i 8 (by decide)]
      have t59 : t5 9 = Rr 0 9 + bi (!acc) := by
        rw [← hst]; unfold st5
        rw [pk_un (by omega), pk_un (by omega), pk_un (by omega), pk_us, pk_un (by decide), hs1i 9 (by decide)]
      have : i = 0 ∨ i = 1 ∨ i = 2 ∨ i = 3 ∨ i = 4 ∨ i = 5 ∨ i = 6 := by omega
      rcases this with rfl | rfl | rfl | rfl | rfl | rfl | rfl
      · rw [hF9 _ (by decide), pk_un (by decide), t57, ← hcn 0 (by decide)]; exact hF74
      · rw [hF9 _ (by decide), pk_un (by decide), t58, ← hcn 1 (by decide)]; exact hF75
      · rw [hF9 _ (by decide), pk_un (by decide), t59, ← hcn 2 (by decide)]; exact hF76
      · rw [hF9 _ (by decide), pk_un (by decide), ht5 _ (by decide) (by decide), hF7i _ (by decide)]; exact hcn 3 (by decide)
      · rw [hF9 _ (by decide), pk_un (by decide), ht5 _ (by decide) (by decide), hF7i _ (by decide)]; exact hcn 4 (by decide)
      · show (if bo_ cl ru X' Y' k then va_up F7 9 (F7 9 + 1) else F7) 9 = upd t5 12 (t5 12 + bi (bo_ cl ru X' Y' k)) 12
        rw [pk_us, ht5 _ (by decide) (by decide), ← hcn 5 (by decide), ← hF7i (4 + 5) (by decide)]
        cases bo_ cl ru X' Y' k with
        | true => rw [if_pos rfl, va_up_self]; rfl
        | false => rw [if_neg (by decide)]; exact (Int32.add_zero _).symm
      · rw [hF9 _ (by decide), pk_un (by decide), ht5 _ (by decide) (by decide), hF7i _ (by decide)]; exact hcn 6 (by decide)
end ST
