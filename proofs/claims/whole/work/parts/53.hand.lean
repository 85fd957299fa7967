theorem pt_pt {s t : Nat → Int32} {k i : Nat} {a b d a' b' d' : Int32} (ht : t i = pt_ s k a b d i) : pt_ t k a' b' d' i = pt_ s k a' b' d' i := by
  unfold pt_ at *
  by_cases q1 : i = 134 + k
  · rw [q1, pk_us, pk_us]
  · rw [pk_un q1, pk_un q1]
    rw [pk_un q1] at ht
    by_cases q2 : i = 74 + k
    · rw [q2, pk_us, pk_us]
    · rw [pk_un q2, pk_un q2]
      rw [pk_un q2] at ht
      by_cases q3 : i = 14 + k
      · rw [q3, pk_us, pk_us]
      · rw [pk_un q3, pk_un q3]
        rw [pk_un q3] at ht
        exact ht
section HA
variable {rw cl ru sz : Nat} {F F5 : Nat → Int32} {R Rr : Nat → Nat → Int32} {G : Nat → Int32} {Q : Nat → Nat → Int32} {X Y : Nat → Nat} {Z : Nat → Bool} {k : Nat}
theorem op_move (h : nr_c rw cl ru sz X Y Z (Rr 0) F R G Q) (hcn : ∀ i, i < 7 → F (4 + i) = Rr 0 (7 + i)) (hk : k < 60) (hx : X k ≠ 0) {c : Nat} (hc : c < rw * cl) : ∃ (v : Int32) (F' : Nat → Int32) (R' : Nat → Nat → Int32) (F5' : Nat → Int32) (Rr' : Nat → Nat → Int32), m2_move F R G Q (nI k) (nI c) = some (v, F', R') ∧ m5_hand F5 Rr (nI k) (nI c) = some (v, F5', Rr') ∧ nr_s (Rr' 0) F' R' G Q ∧ (∀ j, j ≠ 0 → j ≠ 5 → Rr' j = Rr j) ∧ (∀ j, j ≠ 7 → F5' j = F5 j) ∧ (0 ≤ v ∨ v = -9) := by
  have hce := cf_ce h.1.1
  have hch := cf_ch h.1.1
  have hf := h.1.1
  unfold cf_ok at hf
  have w := h.2.1.2.2 k hk
  obtain ⟨e1, e2, e3, e4, e5, e6⟩ := cl_74 hk
  have hr74 : Rr 0 ((74 : Int32) + nI k).toNatClampNeg = nI (Y k) := by rw [e4]; exact w.2.1
  -- the choice
  obtain ⟨y, F3, R4, hy1, hcv, hy0, hu, k1, k2, k3, k4⟩ : ∃ (y : Nat) (F3 : Nat → Int32) (R4 : Nat → Nat → Int32), y ≤ gs ru * sz ∧ (Y k ≠ 0 → cv_ rw cl ru sz (Rr 0) c = chv y) ∧ (Y k = 0 → y = 0) ∧ (y ≠ 0 → us (Rr 0) c (y - 1) = false) ∧ (if (Rr 0 ((74 : Int32) + nI k).toNatClampNeg) = 0 then some ((-9 : Int32), F5, Rr) else (m5_choose F5 Rr (nI c)).bind fun ⟨v57, F55, R56⟩ => some (v57, F55, R56)) = some (chv y, F3, R4) ∧ (∀ j, j ≠ 7 → F3 j = F5 j) ∧ R4 0 = Rr 0 ∧ ∀ j, j ≠ 5 → R4 j = Rr j := by
    by_cases q : Y k = 0
    · exact ⟨0, F5, Rr, Nat.zero_le _, fun z => absurd q z, fun _ => rfl, fun z => absurd rfl z, by rw [hr74, q, if_pos (by decide)]; rfl, fun _ _ => rfl, rfl, fun _ _ => rfl⟩
    · obtain ⟨y, hy1, hy2, hy3⟩ := cv_y (s := Rr 0) h.1.1 hc
      obtain ⟨Fc, Rc, k1, k2, k3, k4⟩ := r5_choose (F := F5) (R := Rr) h.1 h.2.2.2.2.2.2.2.2.2.2 hc
      refine ⟨y, Fc, Rc, hy1, fun _ => hy2, fun z => absurd z q, hy3, ?_, k2, k4 0 (by decide), k4⟩
      rw [hr74, if_neg (nI_ne0 (by omega) (by omega)), k1, bd_s, hy2]
  generalize hacc : decide (fxn X Z c < sz) = acc
  generalize hxx : (if y = 0 ∧ (Z k && acc) = false then 0 else c + 1) = x
  generalize hbo : bo_ cl ru (va_up X k x) (va_up Y k y) k = bo
  generalize ht5 : hd5 (Rr 0) c k (bi (decide (Y k ≠ 0) && decide (y = 0))) (bi (Z k && !acc)) (bi (Z k && acc)) (nI y) = t5
  have hat := fun i => hd5_at (s := Rr 0) (c := c) (i := i) (v7 := bi (decide (Y k ≠ 0) && decide (y = 0))) (v14 := bi (Z k && !acc)) (v17 := bi (Z k && acc)) (v21 := nI y) hk
  rw [ht5] at hat
  generalize ht6 : upd t5 12 (t5 12 + bi bo) = t6
  generalize hfin : (if y = 0 ∧ (Z k && acc) = false then pt_ t6 k 0 0 0 else t6) = fin
  have t6lo : ∀ i, i < 14 → fin i = t6 i := fun i hi => by
    rw [← hfin]
    split
    · exact pt_lo hi
    · rfl
  have t6i : ∀ i, i ≠ 12 → t6 i = t5 i := fun i hi => by rw [← ht6]; exact pk_un hi
  have hs : ∀ i, i < 7 → fin i = Rr 0 i := fun i hi => by
    rw [t6lo i (by omega), t6i i (by omega), (hat i).1 (by omega), if_neg (by omega), if_neg (by omega)]
  have hs2 : ∀ i, 14 ≤ i → fin i = pt_ (Rr 0) k (nI x) (nI y) (bi (Z k && acc)) i := fun i hi => by
    rw [← hfin]
    have g : t6 i = pt_ (Rr 0) k (nI (c + 1)) (nI y) (bi (Z k && acc)) i := by rw [t6i i (by omega)]; exact (hat i).2 hi
    by_cases q : y = 0 ∧ (Z k && acc) = false
    · rw [if_pos q, ← hxx, if_pos q, q.1, q.2]
      exact pt_pt g
    · rw [if_neg q, ← hxx, if_neg q]; exact g
  obtain ⟨F2, R2, m1, m2, m3, m4, m5, m6, m7, m8, m9⟩ := mv_class (x := x) (y := y) (s' := fin) h hk hx hc hy1 hcv hy0 hu hs (by rw [hacc]; exact hxx.symm) (by rw [hacc]; exact hs2)
  rw [hacc] at m2 m8
  rw [hbo] at m9
  have hcnt : ∀ i, i < 7 → F2 (4 + i) = (va_up R4 0 fin) 0 (7 + i) := fun i hi => by
    rw [va_up_self, t6lo _ (by omega)]
    have : i = 0 ∨ i = 1 ∨ i = 2 ∨ i = 3 ∨ i = 4 ∨ i = 5 ∨ i = 6 := by omega
    rcases this with rfl | rfl | rfl | rfl | rfl | rfl | rfl
    · rw [t6i _ (by decide), (hat _).1 (by decide), if_neg (by decide), if_neg (by decide), ← hcn 0 (by decide)]; exact m3
    · rw [t6i _ (by decide), (hat _).1 (by decide), if_neg (by decide), if_neg (by decide), ← hcn 1 (by decide)]; exact m4
    · rw [t6i _ (by decide), (hat _).1 (by decide), if_neg (by decide), if_neg (by decide), ← hcn 2 (by decide)]; exact m5
    · rw [t6i _ (by decide), (hat _).1 (by decide), if_neg (by decide), if_pos (by decide), ← hcn 3 (by decide)]; exact m7
    · rw [t6i _ (by decide), (hat _).1 (by decide), if_pos (by decide), ← hcn 4 (by decide)]; exact m8
    · show F2 9 = t6 12
      rw [← ht6, pk_us, (hat _).1 (by decide), if_neg (by decide), if_neg (by decide), m9]
      congr 1
      exact hcn 5 (by decide)
    · rw [t6i _ (by decide), (hat _).1 (by decide), if_neg (by decide), if_neg (by decide), ← hcn 6 (by decide)]; exact m6
  obtain ⟨i, F', R', Rr', o1, o2, o3, o4, o5⟩ := op_pass (F5 := F3) (Rr := va_up R4 0 fin) (F := F2) (R := R2) (G := G) (Q := Q) ⟨rw, cl, ru, sz, _, _, _, by rw [va_up_self]; exact m2, hcnt⟩
  refine ⟨chv y, F', R', F3, Rr', ?_, ?_, o3, fun j a b => by rw [o4 j a, va_up_ne _ _ a, k4 j b], k2, ?_⟩
  · rw [m1, o1, bd_s]
  · unfold m5_hand
    rw [if_pos e3]
    refine Eq.trans (congrArg (fun t => Option.bind t _) k1) ?_
    rw [bd_s]
    show m5_hand_J22 (nI k) (nI c) (chv y) F3 R4 = _
    unfold m5_hand_J22
    have hr74' : R4 0 ((74 : Int32) + nI k).toNatClampNeg = nI (Y k) := by rw [k3]; exact hr74
    have hv7 : (if nI (Y k) ≤ 0 then some (0 : Int32) else if chv y = -9 then some (1 : Int32) else some (0 : Int32)) = some (bi (decide (Y k ≠ 0) && decide (y = 0))) := by
      by_cases q : Y k = 0
      · rw [q, if_pos (by decide)]; rfl
      · rw [if_neg (nI_nle (by omega) (by omega)), decide_eq_true q]
        by_cases g : y = 0
        · rw [if_pos ((chv_0 (by omega)).mpr g), decide_eq_true g]; rfl
        · rw [if_neg (fun z => g ((chv_0 (by omega)).mp z)), decide_eq_false g]; rfl
    rw [if_pos e3, hr74', hv7, bd_s]
    unfold m5_hand_J54
    have hw10 : wf_ (rw * cl) (gs ru * sz) X Y Z ((va_up R4 0 (upd (R4 0) (10 : Int32).toNatClampNeg ((R4 0 (10 : Int32).toNatClampNeg) + bi (decide (Y k ≠ 0) && decide (y = 0))))) 0) := by
      rw [va_up_self, k3, cl_10]
      exact (nr_cg (s' := upd (Rr 0) 10 (Rr 0 10 + bi (decide (Y k ≠ 0) && decide (y = 0)))) h (fun i hi => pk_un (by omega)) ⟨rfl, rfl, rfl⟩).2.1
    rw [r5_fixedIn hw10 (by omega), bd_s]
    have hn : fxn X Z c ≤ 60 := cn_le _ _
    have ha : (if ((va_up R4 0 (upd (R4 0) (10 : Int32).toNatClampNeg ((R4 0 (10 : Int32).toNatClampNeg) + bi (decide (Y k ≠ 0) && decide (y = 0))))) 0 (3 : Int32).toNatClampNeg) ≤ nI (fxn X Z c) then some (0 : Int32) else some (1 : Int32)) = some (bi acc) := by
      rw [va_up_self, k3, cl_10, cl_3, pk_un (by decide), h.1.2.2.2.2, ← hacc]
      by_cases g : fxn X Z c < sz
      · rw [if_neg (fun z => by have := (nI_leI (by omega) (by omega)).mp z; omega), decide_eq_true g]; rfl
      · rw [if_pos (nI_le (by omega) (by omega)), decide_eq_false g]; rfl
    rw [ha, bd_s]
    unfold m5_hand_J75
    have h134 : ((va_up R4 0 (upd (R4 0) (10 : Int32).toNatClampNeg ((R4 0 (10 : Int32).toNatClampNeg) + bi (decide (Y k ≠ 0) && decide (y = 0))))) 0 ((134 : Int32) + nI k).toNatClampNeg) = bi (Z k) := by
      rw [va_up_self, k3, cl_10, e6, pk_un (by omega)]; exact w.2.2.1
    have hv14 : (if bi (Z k) = 1 then (if bi acc = 0 then some (1 : Int32) else some (0 : Int32)) else some (0 : Int32)) = some (bi (Z k && !acc)) := by cases Z k <;> cases acc <;> rfl
    rw [if_pos e5, h134, hv14, bd_s]
    unfold m5_hand_J109
    have h134b : ((va_up (va_up R4 0 (upd (R4 0) (10 : Int32).toNatClampNeg ((R4 0 (10 : Int32).toNatClampNeg) + bi (decide (Y k ≠ 0) && decide (y = 0))))) 0 (upd ((va_up R4 0 (upd (R4 0) (10 : Int32).toNatClampNeg ((R4 0 (10 : Int32).toNatClampNeg) + bi (decide (Y k ≠ 0) && decide (y = 0))))) 0) (11 : Int32).toNatClampNeg (((va_up R4 0 (upd (R4 0) (10 : Int32).toNatClampNeg ((R4 0 (10 : Int32).toNatClampNeg) + bi (decide (Y k ≠ 0) && decide (y = 0))))) 0 (11 : Int32).toNatClampNeg) + bi (Z k && !acc)))) 0 ((134 : Int32) + nI k).toNatClampNeg) = bi (Z k) := by
      rw [va_up_self, va_up_self, k3, cl_10, cl_11, e6, pk_un (by omega), pk_un (by omega)]; exact w.2.2.1
    have hv17 : (if bi (Z k) = 1 then (if bi acc = 0 then some (0 : Int32) else some (1 : Int32)) else some (0 : Int32)) = some (bi (Z k && acc)) := by cases Z k <;> cases acc <;> rfl
    rw [if_pos e5, h134b, hv17, bd_s]
    unfold m5_hand_J144
    have hv21 : (if chv y = -9 then some (0 : Int32) else some (chv y + (1 : Int32))) = some (nI y) := by
      by_cases g : y = 0
      · rw [if_pos ((chv_0 (by omega)).mpr g), g]; rfl
      · rw [if_neg (fun z => g ((chv_0 (by omega)).mp z))]
        unfold chv
        rw [if_neg g, nI_1, show y - 1 + 1 = y by omega]
    rw [if_pos e5, if_pos e1, hv21, bd_s, J178_E hk, k3, ht5]
    have hbor : m5_borrowed F3 (va_up R4 0 t5) (nI k) = some (bi bo) := by
      by_cases g : y = 0
      · have hb0 : bo = false := by
          rw [← hbo]; unfold bo_
          rw [va_up_self, g]; rfl
        rw [hb0]
        refine r5_bor0 hk _ ?_
        rw [va_up_self, (hat _).2 (by omega), (pt_at hk hk).2.1, if_pos rfl, g]; rfl
      · have hng : ¬ (y = 0 ∧ (Z k && acc) = false) := fun z => g z.1
        have m2' : nr_c rw cl ru sz (va_up X k x) (va_up Y k y) (va_up Z k (Z k && acc)) t5 F2 R2 G Q := nr_cg m2 (fun i hi => by rw [← hfin, if_neg hng, t6i i (by omega)]) ⟨rfl, rfl, rfl⟩
        rw [← hbo]
        exact r5_borrowed (Z := va_up Z k (Z k && acc)) (by rw [va_up_self]; exact m2'.1) (by rw [va_up_self]; exact m2'.2.1) hk
    have hv26 : (if bi bo = 0 then some (0 : Int32) else some (1 : Int32)) = some (bi bo) := by cases bo <;> rfl
    rw [hbor, bd_s, hv26, bd_s, ht6]
    have hend : (if chv y = -9 then (if t6 (134 + k) = 0 then some (F3, va_up R4 0 (pt_ t6 k 0 0 0)) else some (F3, va_up R4 0 t6)) else some (F3, va_up R4 0 t6)) = some (F3, va_up R4 0 fin) := by
      have h6 : t6 (134 + k) = bi (Z k && acc) := by rw [t6i _ (by omega), (hat _).2 (by omega), (pt_at hk hk).2.2, if_pos rfl]
      rw [← hfin]
      by_cases g : y = 0
      · rw [if_pos ((chv_0 (by omega)).mpr g), h6]
        cases hz : (Z k && acc) with
        | false => rw [if_pos bi_f, if_pos ⟨g, rfl⟩]
        | true => rw [if_neg (by decide), if_neg (fun z => by cases z.2)]
      · rw [if_neg (fun z => g ((chv_0 (by omega)).mp z)), if_neg (fun z => g z.1)]
    rw [hend, bd_s]
    show m5_hand_J226 (chv y) F3 (va_up R4 0 fin) = _
    unfold m5_hand_J226 m5_hand_J243
    rw [o2, bd_s]
    show ((if 0 ≤ nI i then some (chv y) else some (nI i)).bind _) = _
    rw [if_pos (nI_pos' (by omega)), bd_s]
  · unfold chv
    split
    · exact Or.inr rfl
    · exact Or.inl (nI_pos' (by omega))
end HA
