/-! THE OPERATIONS, on both sides -/
def nr_s (s F : Nat → Int32) (R : Nat → Nat → Int32) (G : Nat → Int32) (Q : Nat → Nat → Int32) : Prop := ∃ (rw cl ru sz : Nat) (X Y : Nat → Nat) (Z : Nat → Bool), nr_c rw cl ru sz X Y Z s F R G Q ∧ ∀ i, i < 7 → F (4 + i) = s (7 + i)
theorem cl_74 {k : Nat} (hk : k < 60) : inb ((14 : Int32) + nI k) 194 ∧ ((14 : Int32) + nI k).toNatClampNeg = 14 + k ∧ inb ((74 : Int32) + nI k) 194 ∧ ((74 : Int32) + nI k).toNatClampNeg = 74 + k ∧ inb ((134 : Int32) + nI k) 194 ∧ ((134 : Int32) + nI k).toNatClampNeg = 134 + k := ⟨in_at (n := 14) (by omega) (by decide), cl_at (n := 14) (by omega), in_at (n := 74) (by omega) (by decide), cl_at (n := 74) (by omega), in_at (n := 134) (by omega) (by decide), cl_at (n := 134) (by omega)⟩
theorem cv_cong {rw cl ru sz : Nat} {s s' : Nat → Int32} (e : ∀ c q, us s' c q = us s c q) (h4 : s' 4 = s 4) (h5 : s' 5 = s 5) (c : Nat) : cv_ rw cl ru sz s' c = cv_ rw cl ru sz s c := by
  have e0 : us s' = us s := funext fun c => funext fun q => e c q
  have e1 : av rw cl ru s' = av rw cl ru s := by unfold av lk; rw [e0]
  have e2 : na_ rw cl ru s' = na_ rw cl ru s := by unfold na_; rw [e1]
  have e3 : as_ rw cl ru sz s' = as_ rw cl ru sz s := by unfold as_; rw [e2]
  have e4 : op_ rw cl ru s' = op_ rw cl ru s := by unfold op_; rw [e1]
  have e5 : dn_ rw cl ru sz s' = dn_ rw cl ru sz s := by unfold dn_; rw [e3, e4, h5]
  have e6 : rk_ rw cl ru sz s' = rk_ rw cl ru sz s := by unfold rk_; rw [e3, h4]
  have e7 : ∀ d, bs_ rw cl ru sz s' c d = bs_ rw cl ru sz s c d := fun d => by
    induction d with
    | zero => rfl
    | succ d ih => rw [bs_, bs_, ih, e5, e6]
  unfold cv_ no_ fv_ bb_
  rw [e2, e4, e7]
theorem cv_y {rw cl ru sz : Nat} {s : Nat → Int32} (hf : cf_ok rw cl ru sz) {c : Nat} (hc : c < rw * cl) : ∃ y, y ≤ gs ru * sz ∧ cv_ rw cl ru sz s c = chv y ∧ (y ≠ 0 → us s c (y - 1) = false) := by
  unfold cv_
  by_cases q : no_ rw cl ru sz s c < gs ru * sz
  · rw [if_pos q]
    exact ⟨no_ rw cl ru sz s c + 1, q, rfl, fun _ => by rw [Nat.add_sub_cancel]; exact (na_us q).1⟩
  · rw [if_neg q]
    unfold fv_
    by_cases g : bb_ rw cl ru sz s c = 0
    · rw [if_pos g]; exact ⟨0, Nat.zero_le _, rfl, fun z => absurd rfl z⟩
    · rw [if_neg g]
      have hb := bs_p (s := s) hf hc (rw * cl)
      have hd : dn_ rw cl ru sz s c (bb_ rw cl ru sz s c - 1) = true := by
        rcases hb.2 with w | w
        · exact absurd w.1 g
        · exact w.2.2
      unfold dn_ at hd
      rw [Bool.and_eq_true] at hd
      obtain ⟨k, h1, h2, h3⟩ := la_ex hd.2
      rw [h3]
      refine ⟨k + 1, h1, rfl, fun _ => ?_⟩
      rw [Nat.add_sub_cancel]
      unfold op_ av at h2
      rw [Bool.and_eq_true, Bool.and_eq_true] at h2
      have := h2.1.1
      cases hu : us s c k with
      | false => rfl
      | true => rw [hu] at this; cases this
section OP
variable {rw cl ru sz : Nat} {F F5 : Nat → Int32} {R Rr : Nat → Nat → Int32} {G : Nat → Int32} {Q : Nat → Nat → Int32} {X Y : Nat → Nat} {Z : Nat → Bool} {k : Nat}
theorem op_pass (h : nr_s (Rr 0) F R G Q) : ∃ (i : Nat) (F' : Nat → Int32) (R' Rr' : Nat → Nat → Int32), m2_returnCalls F R G Q = some (nI i, F', R') ∧ m5_pass F5 Rr = some (nI i, F5, Rr') ∧ nr_s (Rr' 0) F' R' G Q ∧ (∀ j, j ≠ 0 → Rr' j = Rr j) ∧ i ≤ 60 := by
  obtain ⟨rw, cl, ru, sz, X, Y, Z, hn, hcn⟩ := h
  have h3 := hn.2.2.2.2.2.2.2.2.1
  unfold m2_returnCalls m5_pass
  rcases hn.2.2.2.2.2.2.2.2.2.1 with h6 | h6
  · rw [if_pos (by rw [h3, h6])]
    refine ⟨0, F, R, Rr, rfl, ?_, ⟨rw, cl, ru, sz, X, Y, Z, hn, hcn⟩, fun _ _ => rfl, by decide⟩
    show (m5_pass_L4 F5 (wh (m5_pass_L4 F5) 1999) ((0 : Int32), (0 : Int32), Rr)).bind _ = _
    unfold m5_pass_L4
    dsimp only
    rw [if_neg (by decide), cl_6, if_neg (by rw [h6]; decide)]
    rfl
  · rw [if_neg (by rw [h3, h6]; decide)]
    have hle : cn (bo_ cl ru X Y) 60 ≤ 60 := cn_le _ _
    obtain ⟨m, Y', R', Rr', t1, t2, t3, t4, t5, t6, t7, t8⟩ := pass_ind (F5 := F5) (cn (bo_ cl ru X Y) 60) 0 Y R Rr 2000 2000 (0 : Int32) hn rfl (by omega) h6 (by decide) (by omega) (by omega)
    have t3' : wh (m2_returnCalls_L13 G Q) 2000 ((0 : Int32), (0 : Int32), F, R) = some (nI m, F, R') := t3
    have t4' : wh (m5_pass_L4 F5) 2000 ((0 : Int32), (0 : Int32), Rr) = some (nI m, Rr') := t4
    rw [t3', bd_s, t4', bd_s]
    refine ⟨m, va_up F 10 (F 10 + nI m), R', Rr', rfl, rfl, ⟨rw, cl, ru, sz, X, Y', Z, nr_cg t5 (fun _ _ => rfl) ⟨va_up_ne _ _ (by decide), va_up_ne _ _ (by decide), va_up_ne _ _ (by decide)⟩, fun i hi => ?_⟩, t8, t2⟩
    by_cases q : i = 6
    · rw [q, va_up_self, t6, ← hcn 6 (by decide)]; rfl
    · rw [va_up_ne _ _ (by omega), t7 _ (by omega)]; exact hcn i hi
def st5 (s : Nat → Int32) (c k : Nat) (v12 v14 v18 v21 : Int32) : Nat → Int32 := upd (upd (upd (upd (upd s 8 (s 8 + v12)) 9 ((upd s 8 (s 8 + v12)) 9 + v14)) (14 + k) (nI (c + 1))) (74 + k) v18) (134 + k) v21
theorem J146_E (hk : k < 60) (c : Nat) (R6 : Nat → Nat → Int32) (acc : Bool) (v12 v14 v18 : Int32) : m5_start_J146 (nI c) (nI k) F R6 (bi acc) v12 v14 v18 = (m5_borrowed F (va_up R6 0 (st5 (R6 0) c k v12 v14 v18 (bi acc))) (nI k)).bind fun v25 => (if v25 = 0 then some (0 : Int32) else some (1 : Int32)).bind fun v26 => some (nI k, F, va_up R6 0 (upd (st5 (R6 0) c k v12 v14 v18 (bi acc)) 12 (st5 (R6 0) c k v12 v14 v18 (bi acc) 12 + v26))) := by
  obtain ⟨e1, e2, e3, e4, e5, e6⟩ := cl_74 hk
  have ha : (if bi acc = 0 then some (0 : Int32) else some (1 : Int32)) = some (bi acc) := by cases acc <;> rfl
  unfold m5_start_J146 m5_start_J166 m5_start_J188
  rw [if_pos e3, ha, bd_s, if_pos e5]
  simp only [bx_uu, va_up_self, e2, e4, e6, cl_8, cl_9, cl_12, nI_1]
  rfl
theorem J146_E2 (hk : k < 60) (c : Nat) (R6 : Nat → Nat → Int32) (acc : Bool) (v12 v14 v18 : Int32) : m5_start_J146_2 (nI c) (nI k) F R6 (bi acc) v12 v14 v18 = (m5_borrowed F (va_up R6 0 (st5 (R6 0) c k v12 v14 v18 (bi acc))) (nI k)).bind fun v25 => (if v25 = 0 then some (0 : Int32) else some (1 : Int32)).bind fun v26 => some (nI k, F, va_up R6 0 (upd (st5 (R6 0) c k v12 v14 v18 (bi acc)) 12 (st5 (R6 0) c k v12 v14 v18 (bi acc) 12 + v26))) := by
  obtain ⟨e1, e2, e3, e4, e5, e6⟩ := cl_74 hk
  have ha : (if bi acc = 0 then some (0 : Int32) else some (1 : Int32)) = some (bi acc) := by cases acc <;> rfl
  unfold m5_start_J146_2 m5_start_J166_2 m5_start_J188_2
  rw [if_pos e3, ha, bd_s, if_pos e5]
  simp only [bx_uu, va_up_self, e2, e4, e6, cl_8, cl_9, cl_12, nI_1]
  rfl
end OP
