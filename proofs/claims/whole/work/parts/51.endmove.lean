def pt_ (s : Nat → Int32) (k : Nat) (a b d : Int32) : Nat → Int32 := upd (upd (upd s (14 + k) a) (74 + k) b) (134 + k) d
theorem pt_lo {s : Nat → Int32} {k i : Nat} {a b d : Int32} (h : i < 14) : pt_ s k a b d i = s i := by
  unfold pt_
  rw [pk_un (by omega), pk_un (by omega), pk_un (by omega)]
theorem pt_at {s : Nat → Int32} {k j : Nat} {a b d : Int32} (hj : j < 60) (hk : k < 60) : pt_ s k a b d (14 + j) = (if j = k then a else s (14 + j)) ∧ pt_ s k a b d (74 + j) = (if j = k then b else s (74 + j)) ∧ pt_ s k a b d (134 + j) = (if j = k then d else s (134 + j)) := by
  unfold pt_
  by_cases q : j = k
  · rw [if_pos q, if_pos q, if_pos q, q, pk_un (by omega), pk_un (by omega), pk_us, pk_un (by omega), pk_us, pk_us]
    exact ⟨rfl, rfl, rfl⟩
  · rw [if_neg q, if_neg q, if_neg q]
    rw [pk_un (by omega), pk_un (by omega), pk_un (by omega)]
    rw [pk_un (by omega), pk_un (by omega), pk_un (by omega)]
    rw [pk_un (by omega), pk_un (by omega), pk_un (by omega)]
    exact ⟨rfl, rfl, rfl⟩
section EM
variable {rw cl ru sz : Nat} {F F5 : Nat → Int32} {R Rr : Nat → Nat → Int32} {G : Nat → Int32} {Q : Nat → Nat → Int32} {X Y : Nat → Nat} {Z : Nat → Bool} {k : Nat}
theorem forget_E (hk : k < 60) (R : Nat → Nat → Int32) : m5_forget F R (nI k) = some (F, va_up R 0 (pt_ (R 0) k 0 0 0)) := by
  obtain ⟨e1, e2, e3, e4, e5, e6⟩ := cl_74 hk
  unfold m5_forget
  rw [if_pos e1, if_pos e3, if_pos e5]
  simp only [bx_uu, va_up_self, e2, e4, e6]
  rfl
/-- what stands in the calls, put there by numbers -/
theorem pt_s (h : nr_c rw cl ru sz X Y Z (Rr 0) F R G Q) (hk : k < 60) {x y : Nat} {z : Bool} {s' : Nat → Int32} (hs : ∀ i, 14 ≤ i → s' i = pt_ (Rr 0) k (nI x) (nI y) (bi z) i) : ∀ j, j < 60 → s' (14 + j) = nI (va_up X k x j) ∧ s' (74 + j) = nI (va_up Y k y j) ∧ s' (134 + j) = bi (va_up Z k z j) := by
  intro j hj
  have w := h.2.1.2.2 j hj
  have g := pt_at (s := Rr 0) (a := nI x) (b := nI y) (d := bi z) hj hk
  rw [hs _ (by omega), hs _ (by omega), hs _ (by omega), g.1, g.2.1, g.2.2]
  by_cases q : j = k
  · rw [if_pos q, if_pos q, if_pos q, q, va_up_self, va_up_self, va_up_self]; exact ⟨rfl, rfl, rfl⟩
  · rw [if_neg q, if_neg q, if_neg q, va_up_ne _ _ q, va_up_ne _ _ q, va_up_ne _ _ q]; exact ⟨w.1, w.2.1, w.2.2.1⟩
theorem op_end (h : nr_c rw cl ru sz X Y Z (Rr 0) F R G Q) (hcn : ∀ i, i < 7 → F (4 + i) = Rr 0 (7 + i)) (hk : k < 60) : ∃ (v : Int32) (F' : Nat → Int32) (R' : Nat → Nat → Int32) (F5' : Nat → Int32) (Rr' : Nat → Nat → Int32), m2_end F R G Q (nI k) = some (v, F', R') ∧ m5_end F5 Rr (nI k) = some (v, F5', Rr') ∧ nr_s (Rr' 0) F' R' G Q ∧ (∀ j, j ≠ 0 → j ≠ 5 → Rr' j = Rr j) ∧ (∀ j, j ≠ 7 → F5' j = F5 j) ∧ (0 ≤ v ∨ v = -9) := by
  obtain ⟨R1, g1, g2, g3, g4, g5⟩ := p2_release h hk
  have hch := cf_ch h.1.1
  have w := h.2.1.2.2 k hk
  have c' := h.2.2.2.2.1 k hk
  have i2 : inb (nI k) 60 := in_n hk (by decide)
  obtain ⟨R8, r1, r2, r3, r4, r5⟩ : ∃ R8 : Nat → Nat → Int32, (if bi (!decide (R1 1 k = -9) || decide (R1 2 k = 1)) = 0 then some R1 else if inb (nI k) 60 then some (va_up R1 2 (upd (R1 2) (nI k).toNatClampNeg (0 : Int32))) else none) = some R8 ∧ R8 0 = R1 0 ∧ R8 1 = R1 1 ∧ R8 3 = R1 3 ∧ ∀ j, j < 60 → R8 2 j = if j = k then 0 else R1 2 j := by
    rw [g4 k hk, if_pos rfl, g3, c'.2.2]
    cases hz : Z k with
    | false =>
      refine ⟨R1, rfl, rfl, rfl, rfl, fun j hj => ?_⟩
      by_cases q : j = k
      · rw [if_pos q, q, g3, c'.2.2, hz]; rfl
      · rw [if_neg q, g3]
    | true =>
      rw [if_neg (by decide), if_pos i2, nI_clamp (by omega)]
      refine ⟨_, rfl, va_up_ne _ _ (by decide), va_up_ne _ _ (by decide), va_up_ne _ _ (by decide), fun j hj => ?_⟩
      rw [va_up_self]
      by_cases q : j = k
      · rw [if_pos q, q, pk_us]
      · rw [if_neg q, pk_un q]
  have hn : nr_c rw cl ru sz (va_up X k 0) (va_up Y k 0) (va_up Z k false) (pt_ (Rr 0) k 0 0 0) F R8 G Q := by
    refine nr_put h hk (Nat.zero_le _) (Nat.zero_le _) (fun _ => ⟨rfl, rfl⟩) (fun _ _ => rfl) (fun q => absurd rfl q) (fun i hi => pt_lo (by omega)) (pt_s h hk (fun i hi => rfl)) ⟨rfl, rfl, rfl⟩ (fun j hj _ => by rw [r2, g2]) (fun q => absurd rfl q) (fun j hj => ?_) (fun j hj => ?_) (fun c hc q hq => ?_)
    · rw [r3, g4 j hj]
      by_cases q : j = k
      · rw [if_pos q, q, va_up_self]; rfl
      · rw [if_neg q, va_up_ne _ _ q]; exact (h.2.2.2.2.1 j hj).2.1
    · rw [r5 j hj]
      by_cases q : j = k
      · rw [if_pos q, q, va_up_self]; rfl
      · rw [if_neg q, va_up_ne _ _ q, g3]; exact (h.2.2.2.2.1 j hj).2.2
    · rw [r4, g5 c hc q hq]; simp
  obtain ⟨i, F', R', Rr', o1, o2, o3, o4, o5⟩ := op_pass (F5 := F5) (Rr := va_up Rr 0 (pt_ (Rr 0) k 0 0 0)) (F := F) (R := R8) (G := G) (Q := Q) ⟨rw, cl, ru, sz, _, _, _, by rw [va_up_self]; exact hn, fun i hi => by rw [va_up_self, pt_lo (by omega)]; exact hcn i hi⟩
  refine ⟨chv (Y k), F', R', F5, Rr', ?_, ?_, o3, fun j a _ => by rw [o4 j a, va_up_ne _ _ a], fun _ _ => rfl, ?_⟩
  · unfold m2_end m2_end_J26
    rw [p2_channelAt h hk, bd_s, g1, bd_s]
    show ((m2_isPresent F R1 G Q (nI k)).bind _) = _
    rw [q2_present hk, bd_s, r1, bd_s, o1, bd_s]
  · unfold m5_end m5_end_J25
    rw [r5_channelNow h.2.1 hk, bd_s, forget_E hk, bd_s]
    show ((m5_pass F5 (va_up Rr 0 (pt_ (Rr 0) k 0 0 0))).bind _) = _
    rw [o2, bd_s]
    show ((if 0 ≤ nI i then some (chv (Y k)) else some (nI i)).bind _) = _
    rw [if_pos (nI_pos' (by omega)), bd_s]
  · unfold chv
    split
    · exact Or.inr rfl
    · exact Or.inl (nI_pos' (by omega))
def hd5 (s : Nat → Int32) (c k : Nat) (v7 v14 v17 v21 : Int32) : Nat → Int32 := upd (upd (upd (upd (upd s 10 (s 10 + v7)) 11 ((upd s 10 (s 10 + v7)) 11 + v14)) (134 + k) v17) (14 + k) (nI (c + 1))) (74 + k) v21
theorem hd5_at {s : Nat → Int32} {c k i : Nat} {v7 v14 v17 v21 : Int32} (hk : k < 60) : (i < 14 → hd5 s c k v7 v14 v17 v21 i = if i = 11 then s 11 + v14 else if i = 10 then s 10 + v7 else s i) ∧ (14 ≤ i → hd5 s c k v7 v14 v17 v21 i = pt_ s k (nI (c + 1)) v21 v17 i) := by
  unfold hd5
  constructor
  · intro h
    rw [pk_un (by omega), pk_un (by omega), pk_un (by omega)]
    by_cases q : i = 11
    · rw [if_pos q, q, pk_us, pk_un (by decide)]
    · rw [if_neg q, pk_un q]
      by_cases q2 : i = 10
      · rw [if_pos q2, q2, pk_us]
      · rw [if_neg q2, pk_un q2]
  · intro h
    unfold pt_
    by_cases q1 : i = 134 + k
    · rw [q1, pk_un (by omega), pk_un (by omega), pk_us, pk_us]
    · by_cases q2 : i = 74 + k
      · rw [q2, pk_us, pk_un (by omega), pk_us]
      · by_cases q3 : i = 14 + k
        · rw [q3, pk_un (by omega), pk_us, pk_un (by omega), pk_un (by omega), pk_us]
        · rw [pk_un q2, pk_un q3, pk_un q1, pk_un (by omega), pk_un (by omega), pk_un q1, pk_un q2, pk_un q3]
theorem J178_E (hk : k < 60) (c : Nat) (R4 : Nat → Nat → Int32) (v2 v7 v14 v17 v21 : Int32) : m5_hand_J178 (nI k) (nI c) v2 F R4 v7 v14 v17 v21 = (m5_borrowed F (va_up R4 0 (hd5 (R4 0) c k v7 v14 v17 v21)) (nI k)).bind fun v25 => (if v25 = 0 then some (0 : Int32) else some (1 : Int32)).bind fun v26 => (if v2 = -9 then (if (upd (hd5 (R4 0) c k v7 v14 v17 v21) 12 (hd5 (R4 0) c k v7 v14 v17 v21 12 + v26)) (134 + k) = 0 then some (F, va_up R4 0 (pt_ (upd (hd5 (R4 0) c k v7 v14 v17 v21) 12 (hd5 (R4 0) c k v7 v14 v17 v21 12 + v26)) k 0 0 0)) else some (F, va_up R4 0 (upd (hd5 (R4 0) c k v7 v14 v17 v21) 12 (hd5 (R4 0) c k v7 v14 v17 v21 12 + v26)))) else some (F, va_up R4 0 (upd (hd5 (R4 0) c k v7 v14 v17 v21) 12 (hd5 (R4 0) c k v7 v14 v17 v21 12 + v26)))).bind fun ⟨F28, R29⟩ => m5_hand_J226 v2 F28 R29 := by
  obtain ⟨e1, e2, e3, e4, e5, e6⟩ := cl_74 hk
  unfold m5_hand_J178 m5_hand_J200
  rw [if_pos e3]
  simp only [bx_uu, va_up_self, e2, e4, e6, cl_10, cl_11, cl_12, nI_1, forget_E hk, if_pos e5, bd_s]
  rfl
theorem r5_bor0 (hk : k < 60) (R : Nat → Nat → Int32) (h0 : R 0 (74 + k) = 0) : m5_borrowed F R (nI k) = some 0 := by
  obtain ⟨e1, e2, e3, e4, e5, e6⟩ := cl_74 hk
  unfold m5_borrowed m5_borrowed_J46
  have hv : R 0 ((74 : Int32) + nI k).toNatClampNeg ≤ 0 := by rw [e4, h0]; decide
  rw [if_pos e3, if_pos hv]; rfl
end EM
