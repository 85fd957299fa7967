/-! THE OPERATIONS: each keeps what holds of a net -/
def nv_ (ru : Nat) (F : Nat → Int32) (R : Nat → Nat → Int32) (G : Nat → Int32) (Q : Nat → Nat → Int32) : Prop := ∃ (rw cl sz : Nat) (X Y : Nat → Nat) (Z : Nat → Bool) (s : Nat → Int32), nr_c rw cl ru sz X Y Z s F R G Q
theorem na_us {rw cl ru sz : Nat} {s : Nat → Int32} {c : Nat} (h : no_ rw cl ru sz s c < gs ru * sz) : av rw cl ru s c (no_ rw cl ru sz s c) = true ∧ nm cl ru c (no_ rw cl ru sz s c) = true := by
  have g := fi_yes _ _ h
  have g2 : na_ rw cl ru s c (no_ rw cl ru sz s c) = true := g
  unfold na_ at g2
  rw [Bool.and_eq_true] at g2
  exact ⟨g2.2, g2.1⟩
section PB
variable {rw cl ru sz : Nat} {F s : Nat → Int32} {R : Nat → Nat → Int32} {G : Nat → Int32} {Q : Nat → Nat → Int32} {X Y : Nat → Nat} {Z : Nat → Bool} {k : Nat}
/-- one step of the pass, on both sides -/
theorem pass_step (h : nr_c rw cl ru sz X Y Z s F R G Q) (hk : k < 60) (hc : can_ rw cl ru sz s X Y k = true) :
    ∃ (R' : Nat → Nat → Int32) (Y' : Nat → Nat) (s' : Nat → Int32),
      (∀ kk v2 v13t, m2_cellAt F R G Q (nI k) = some (nI (X k - 1)) ∧ ((m2_availableNominals F R G Q (nI (X k - 1))).bind fun v17 => (m2_lowestOf F R G Q v17).bind fun v19 => (m2_release F R G Q (nI k)).bind fun ⟨F21, R22⟩ => (m2_occupy F21 R22 G Q (nI k) v19).bind fun ⟨F24, R25⟩ => (kk : Int32 × Int32 × (Nat → Int32) × (Nat → Nat → Int32) → Option (Int32 × (Nat → Int32) × (Nat → Nat → Int32))) (v2, v13t, F24, R25)) = kk (v2, v13t, F, R')) ∧
      nr_c rw cl ru sz X Y' Z s' F R' G Q ∧ cn (bo_ cl ru X Y') 60 + 1 = cn (bo_ cl ru X Y) 60 := by
  have hce := cf_ce h.1.1
  have hch := cf_ch h.1.1
  have w := h.2.1.2.2 k hk
  unfold can_ at hc
  rw [Bool.and_eq_true] at hc
  have hbo := hc.1
  have hno := of_decide_eq_true hc.2
  have hy := bo_y hbo
  have hx : X k ≠ 0 := fun z => hy (w.2.2.2.2.2.1 z).1
  have hcl : X k - 1 < rw * cl := by omega
  have hna := na_us hno
  obtain ⟨V, hV1, hV⟩ := p2_availNom h hcl
  obtain ⟨R1, g1, g2, g3, g4, g5⟩ := p2_release h hk
  have hlow : m2_lowestOf F R G Q V = some (nI (no_ rw cl ru sz s (X k - 1))) := by
    rw [p2_low h.2.2.2.1.2.1 hch.2, fi_cong (q := na_ rw cl ru s (X k - 1)) (fun j hj => by rw [hV j (by omega), decide_eq_true hj, Bool.true_and])]
    unfold nv
    unfold no_ at hno ⊢
    rw [if_pos hno]
  generalize hN : no_ rw cl ru sz s (X k - 1) = N at *
  obtain ⟨R2, o1, o2, o3, o4, o5⟩ := p2_occupy (F := F) (R := R1) (Q := Q) (y := N + 1) h.2.2.2.1.1 hce.2 hk hcl (by rw [g2]; exact (h.2.2.2.2.1 k hk).1 hx) (by omega) (by rw [g4 k hk, if_pos rfl])
  have hchv : chv (N + 1) = nI N := rfl
  rw [hchv] at o1
  have hux : ok_ rw cl ru X Y k (X k - 1) N := av_ok h k hcl (by omega) hna.1 ⟨X k - 1, hcl, by rw [ds_self]; decide, hna.2⟩
  have hbit : ∀ s' : Nat → Int32, (∀ i, i < 7 → s' i = s i) → (∀ j, j < 60 → s' (14 + j) = s (14 + j) ∧ s' (74 + j) = (if j = k then nI (N + 1) else s (74 + j)) ∧ s' (134 + j) = s (134 + j)) → nr_c rw cl ru sz X (va_up Y k (N + 1)) Z s' F R2 G Q := by
    intro s' hs1 hs2
    have hp := nr_put (F' := F) (R' := R2) (s' := s') (x := X k) (y := N + 1) (z := Z k) h hk w.2.2.2.1 (by omega) (fun z => absurd z hx) (fun z => absurd z (by omega)) (fun _ => by rw [Nat.add_sub_cancel]; exact hux) hs1 (fun j hj => by
        have w' := h.2.1.2.2 j hj
        rw [(hs2 j hj).1, (hs2 j hj).2.1, (hs2 j hj).2.2, up_id, up_id]
        refine ⟨w'.1, ?_, w'.2.2.1⟩
        by_cases q : j = k
        · rw [if_pos q, q, va_up_self]
        · rw [if_neg q, va_up_ne _ _ q]; exact w'.2.1) ⟨rfl, rfl, rfl⟩ (fun j hj _ => by rw [o2, g2]) (fun q => by rw [o2, g2]; exact (h.2.2.2.2.1 k hk).1 q) (fun j hj => by
        rw [o4 j hj, g4 j hj]
        by_cases q : j = k
        · rw [if_pos q, q, va_up_self]
        · rw [if_neg q, if_neg q, va_up_ne _ _ q]; exact (h.2.2.2.2.1 j hj).2.1) (fun j hj => by rw [o3, g3, up_id]; exact (h.2.2.2.2.1 j hj).2.2) (fun c hc q hq => by
        rw [o5 c hc q hq, g5 c hc q hq]
        congr 2
        exact decide_eq_decide.mpr (by omega))
    rw [up_id, up_id] at hp
    exact hp
  refine ⟨R2, va_up Y k (N + 1), upd s (74 + k) (nI (N + 1)), fun kk v2 v13t => ⟨p2_cellAt h hk hx, ?_⟩, ?_, ?_⟩
  · rw [hV1, bd_s, hlow, bd_s, g1, bd_s]
    show (m2_occupy F R1 G Q (nI k) (nI N)).bind _ = _
    rw [o1, bd_s]
  · refine hbit _ (fun i hi => ?_) (fun j hj => ?_)
    · exact pk_un (by omega)
    · refine ⟨?_, ?_, ?_⟩
      · exact pk_un (by omega)
      · by_cases q : j = k
        · rw [if_pos q, q, pk_us]
        · rw [if_neg q, pk_un (by omega)]
      · exact pk_un (by omega)
  · refine cn_dec hbo ?_ (fun j hj => ?_) hk
    · unfold bo_
      rw [va_up_self, Nat.add_sub_cancel, hna.2]; simp
    · unfold bo_
      rw [va_up_ne _ _ hj]

theorem pass_ind : ∀ (μ i : Nat) (Y : Nat → Nat) (R : Nat → Nat → Int32) (s : Nat → Int32) (n2 : Nat), nr_c rw cl ru sz X Y Z s F R G Q → cn (bo_ cl ru X Y) 60 = μ → i + μ ≤ 60 → μ + 1 ≤ n2 →
    ∃ (m : Nat) (Y' : Nat → Nat) (R' : Nat → Nat → Int32) (s' : Nat → Int32), i ≤ m ∧ m ≤ 60 ∧ wh (m2_returnCalls_L13 G Q) n2 (nI i, nI i, F, R) = some (nI m, F, R') ∧ nr_c rw cl ru sz X Y' Z s' F R' G Q := by
  intro μ
  induction μ with
  | zero =>
    intro i Y R s n2 h hμ hi hn2
    obtain ⟨n2, rfl⟩ : ∃ a, n2 = a + 1 := ⟨n2 - 1, by omega⟩
    have hnx := nx_p (p := can_ rw cl ru sz s X Y) (m := bu_ rw cl ru X Y) (fun k => bd_25 h.1.1 _ _) 60
    have hb : (nx_ (can_ rw cl ru sz s X Y) (bu_ rw cl ru X Y) 60).1 = 0 := by
      by_cases q : (nx_ (can_ rw cl ru sz s X Y) (bu_ rw cl ru X Y) 60).1 = 0
      · exact q
      · have g := hnx.2.2.1 q
        have hle := hnx.1
        generalize (nx_ (can_ rw cl ru sz s X Y) (bu_ rw cl ru X Y) 60).1 = zz at *
        unfold can_ at g
        rw [cn_0.mp hμ _ (by omega)] at g; cases g
    refine ⟨i, Y, R, s, Nat.le_refl _, by omega, ?_, h⟩
    show m2_returnCalls_L13 G Q _ _ = _
    unfold m2_returnCalls_L13
    dsimp only
    rw [p2_next h, bd_s, hb, if_pos ((chv_60 (by omega)).mpr rfl)]
    split <;> rfl
  | succ μ ih =>
    intro i Y R s n2 h hμ hi hn2
    obtain ⟨n2, rfl⟩ : ∃ a, n2 = a + 1 := ⟨n2 - 1, by omega⟩
    have hnx := nx_p (p := can_ rw cl ru sz s X Y) (m := bu_ rw cl ru X Y) (fun k => bd_25 h.1.1 _ _) 60
    have e60 : ¬ (60 : Int32) ≤ nI i := nI_ge (b := 60) (by omega) (by decide)
    by_cases hb : (nx_ (can_ rw cl ru sz s X Y) (bu_ rw cl ru X Y) 60).1 = 0
    · refine ⟨i, Y, R, s, Nat.le_refl _, by omega, ?_, h⟩
      show m2_returnCalls_L13 G Q _ _ = _
      unfold m2_returnCalls_L13
      dsimp only
      rw [p2_next h, bd_s, hb, if_pos ((chv_60 (by omega)).mpr rfl)]
      split <;> rfl
    · have hcan := hnx.2.2.1 hb
      have hle := hnx.1
      have hchv : chv (nx_ (can_ rw cl ru sz s X Y) (bu_ rw cl ru X Y) 60).1 = nI ((nx_ (can_ rw cl ru sz s X Y) (bu_ rw cl ru X Y) 60).1 - 1) := if_neg hb
      have hnext := p2_next h
      rw [hchv] at hnext
      generalize hkk : (nx_ (can_ rw cl ru sz s X Y) (bu_ rw cl ru X Y) 60).1 - 1 = k at *
      have hk : k < 60 := by omega
      obtain ⟨R', Y', s', s1, s3, s4⟩ := pass_step h hk hcan
      obtain ⟨m, Y2, R2, s2, t1, t2, t3, t5⟩ := ih (i + 1) Y' R' s' n2 s3 (by omega) (by omega) (by omega)
      refine ⟨m, Y2, R2, s2, by omega, t2, ?_, t5⟩
      show m2_returnCalls_L13 G Q _ _ = _
      unfold m2_returnCalls_L13
      dsimp only
      rw [if_neg e60, hnext, bd_s, if_neg (n9 (by omega)), (s1 (wh (m2_returnCalls_L13 G Q) n2) 0 0).1, bd_s]
      have := (s1 (wh (m2_returnCalls_L13 G Q) n2) (nI i + 1) (nI i + 1)).2
      refine Eq.trans this ?_
      rw [nI_1]; exact t3
end PB
theorem op_pass {ru : Nat} {F : Nat → Int32} {R : Nat → Nat → Int32} {G : Nat → Int32} {Q : Nat → Nat → Int32} (h : nv_ ru F R G Q) : ∃ (i : Nat) (F' : Nat → Int32) (R' : Nat → Nat → Int32), m2_returnCalls F R G Q = some (nI i, F', R') ∧ nv_ ru F' R' G Q ∧ i ≤ 60 ∧ F' 4 = F 4 ∧ F' 5 = F 5 := by
  obtain ⟨rw, cl, sz, X, Y, Z, s, hn⟩ := h
  have h3 := hn.2.2.2.2.2.2.2.2.1
  unfold m2_returnCalls
  rcases hn.2.2.2.2.2.2.2.2.2.1.1 with h6 | h6
  · rw [if_pos (by rw [h3, h6])]
    exact ⟨0, F, R, rfl, ⟨rw, cl, sz, X, Y, Z, s, hn⟩, by decide, rfl, rfl⟩
  · rw [if_neg (by rw [h3, h6]; decide)]
    have hle : cn (bo_ cl ru X Y) 60 ≤ 60 := cn_le _ _
    obtain ⟨m, Y', R', s', t1, t2, t3, t5⟩ := pass_ind (cn (bo_ cl ru X Y) 60) 0 Y R s 2000 hn rfl (by omega) (by omega)
    have t3' : wh (m2_returnCalls_L13 G Q) 2000 ((0 : Int32), (0 : Int32), F, R) = some (nI m, F, R') := t3
    rw [t3', bd_s]
    exact ⟨m, va_up F 10 (F 10 + nI m), R', rfl, ⟨rw, cl, sz, X, Y', Z, s', nr_cg t5 (fun _ _ => rfl) ⟨va_up_ne _ _ (by decide), va_up_ne _ _ (by decide), va_up_ne _ _ (by decide)⟩⟩, t2, va_up_ne _ _ (by decide), va_up_ne _ _ (by decide)⟩
theorem cv_cong {rw cl ru sz : Nat} {s s' : Nat → Int32} (e : ∀ c q, us s' c q = us s c q) (h4 : s' 4 = s 4) (h5 : s' 5 = s 5) (c : Nat) : cv_ rw cl ru sz s' c = cv_ rw cl ru sz s c := by
  have e0 : us s' = us s := funext fun c => funext fun q => e c q
  have e1 : av rw cl ru s' = av rw cl ru s := by unfold av lk; rw [e0]
  have e2 : na_ rw cl ru s' = na_ rw cl ru s := by unfold na_; rw [e1]
  have e3 : as_ rw cl ru sz s' = as_ rw cl ru sz s := by unfold as_; rw [e2]
  have e4 : op_ rw cl ru s' = op_ rw cl ru s := by unfold op_; rw [e1]
  have e5 : dn_ rw cl ru sz s' = dn_ rw cl ru sz s := by unfold dn_; rw [e3, e4, h5]
  have e6 : rk_ rw cl ru sz s' = rk_ rw cl ru sz s := by unfold rk_; rw [e3, h4]
  have e7 : ∀ d, bs_ rw cl ru sz s' c d = bs_ rw cl ru sz s c d := fun d => by
    induction d with
    | zero => rfl
    | succ d ih => rw [bs_, bs_, ih, e5, e6]
  unfold cv_ no_ fv_ bb_
  rw [e2, e4, e7]
theorem cv_y {rw cl ru sz : Nat} {s : Nat → Int32} (hf : cf_ok rw cl ru sz) {c : Nat} (hc : c < rw * cl) : ∃ y, y ≤ gs ru * sz ∧ cv_ rw cl ru sz s c = chv y ∧ (y ≠ 0 → av rw cl ru s c (y - 1) = true ∧ ∃ d, d < rw * cl ∧ ds cl d c < 2 ∧ nm cl ru d (y - 1) = true) := by
  unfold cv_
  by_cases q : no_ rw cl ru sz s c < gs ru * sz
  · rw [if_pos q]
    exact ⟨no_ rw cl ru sz s c + 1, q, rfl, fun _ => by rw [Nat.add_sub_cancel]; exact ⟨(na_us q).1, c, hc, by rw [ds_self]; decide, (na_us q).2⟩⟩
  · rw [if_neg q]
    unfold fv_
    by_cases g : bb_ rw cl ru sz s c = 0
    · rw [if_pos g]; exact ⟨0, Nat.zero_le _, rfl, fun z => absurd rfl z⟩
    · rw [if_neg g]
      have hb := bs_p (s := s) hf hc (rw * cl)
      have hd : dn_ rw cl ru sz s c (bb_ rw cl ru sz s c - 1) = true := by
        rcases hb.2 with w | w
        · exact absurd w.1 g
        · exact w.2.2
      have hle : bb_ rw cl ru sz s c ≤ rw * cl := hb.1
      unfold dn_ at hd
      rw [Bool.and_eq_true, Bool.and_eq_true] at hd
      obtain ⟨k, h1, h2, h3⟩ := la_ex hd.2
      rw [h3]
      refine ⟨k + 1, h1, rfl, fun _ => ?_⟩
      rw [Nat.add_sub_cancel]
      unfold op_ at h2
      rw [Bool.and_eq_true] at h2
      exact ⟨h2.1, bb_ rw cl ru sz s c - 1, by omega, by rw [of_decide_eq_true hd.1.1]; decide, h2.2⟩
def pt_ (s : Nat → Int32) (k : Nat) (a b d : Int32) : Nat → Int32 := upd (upd (upd s (14 + k) a) (74 + k) b) (134 + k) d
theorem pt_lo {s : Nat → Int32} {k i : Nat} {a b d : Int32} (h : i < 14) : pt_ s k a b d i = s i := by
  unfold pt_
  rw [pk_un (by omega), pk_un (by omega), pk_un (by omega)]
theorem pt_at {s : Nat → Int32} {k j : Nat} {a b d : Int32} (hj : j < 60) (hk : k < 60) : pt_ s k a b d (14 + j) = (if j = k then a else s (14 + j)) ∧ pt_ s k a b d (74 + j) = (if j = k then b else s (74 + j)) ∧ pt_ s k a b d (134 + j) = (if j = k then d else s (134 + j)) := by
  unfold pt_
  by_cases q : j = k
  · rw [if_pos q, if_pos q, if_pos q, q, pk_un (by omega), pk_un (by omega), pk_us, pk_un (by omega), pk_us, pk_us]
    exact ⟨rfl, rfl, rfl⟩
  · rw [if_neg q, if_neg q, if_neg q]
    rw [pk_un (by omega), pk_un (by omega), pk_un (by omega)]
    rw [pk_un (by omega), pk_un (by omega), pk_un (by omega)]
    rw [pk_un (by omega), pk_un (by omega), pk_un (by omega)]
    exact ⟨rfl, rfl, rfl⟩
section EM
variable {rw cl ru sz : Nat} {F s : Nat → Int32} {R : Nat → Nat → Int32} {G : Nat → Int32} {Q : Nat → Nat → Int32} {X Y : Nat → Nat} {Z : Nat → Bool} {k : Nat}
theorem pt_s (h : nr_c rw cl ru sz X Y Z s F R G Q) (hk : k < 60) {x y : Nat} {z : Bool} {s' : Nat → Int32} (hs : ∀ i, 14 ≤ i → s' i = pt_ s k (nI x) (nI y) (bi z) i) : ∀ j, j < 60 → s' (14 + j) = nI (va_up X k x j) ∧ s' (74 + j) = nI (va_up Y k y j) ∧ s' (134 + j) = bi (va_up Z k z j) := by
  intro j hj
  have w := h.2.1.2.2 j hj
  have g := pt_at (s := s) (a := nI x) (b := nI y) (d := bi z) hj hk
  rw [hs _ (by omega), hs _ (by omega), hs _ (by omega), g.1, g.2.1, g.2.2]
  by_cases q : j = k
  · rw [if_pos q, if_pos q, if_pos q, q, va_up_self, va_up_self, va_up_self]; exact ⟨rfl, rfl, rfl⟩
  · rw [if_neg q, if_neg q, if_neg q, va_up_ne _ _ q, va_up_ne _ _ q, va_up_ne _ _ q]; exact ⟨w.1, w.2.1, w.2.2.1⟩
theorem op_end (h : nr_c rw cl ru sz X Y Z s F R G Q) (hk : k < 60) : ∃ (v : Int32) (F' : Nat → Int32) (R' : Nat → Nat → Int32), m2_end F R G Q (nI k) = some (v, F', R') ∧ nv_ ru F' R' G Q ∧ (0 ≤ v ∨ v = -9) ∧ F' 4 = F 4 ∧ F' 5 = F 5 := by
  obtain ⟨R1, g1, g2, g3, g4, g5⟩ := p2_release h hk
  have hch := cf_ch h.1.1
  have w := h.2.1.2.2 k hk
  have c' := h.2.2.2.2.1 k hk
  have i2 : inb (nI k) 60 := in_n hk (by decide)
  obtain ⟨R8, r1, r2, r3, r4, r5⟩ : ∃ R8 : Nat → Nat → Int32, (if bi (!decide (R1 1 k = -9) || decide (R1 2 k = 1)) = 0 then some R1 else if inb (nI k) 60 then some (va_up R1 2 (upd (R1 2) (nI k).toNatClampNeg (0 : Int32))) else none) = some R8 ∧ R8 0 = R1 0 ∧ R8 1 = R1 1 ∧ R8 3 = R1 3 ∧ ∀ j, j < 60 → R8 2 j = if j = k then 0 else R1 2 j := by
    rw [g4 k hk, if_pos rfl, g3, c'.2.2]
    cases hz : Z k with
    | false =>
      refine ⟨R1, rfl, rfl, rfl, rfl, fun j hj => ?_⟩
      by_cases q : j = k
      · rw [if_pos q, q, g3, c'.2.2, hz]; rfl
      · rw [if_neg q, g3]
    | true =>
      rw [if_neg (by decide), if_pos i2, nI_clamp (by omega)]
      refine ⟨_, rfl, va_up_ne _ _ (by decide), va_up_ne _ _ (by decide), va_up_ne _ _ (by decide), fun j hj => ?_⟩
      rw [va_up_self]
      by_cases q : j = k
      · rw [if_pos q, q, pk_us]
      · rw [if_neg q, pk_un q]
  have hn : nr_c rw cl ru sz (va_up X k 0) (va_up Y k 0) (va_up Z k false) (pt_ s k 0 0 0) F R8 G Q := by
    refine nr_put h hk (Nat.zero_le _) (Nat.zero_le _) (fun _ => ⟨rfl, rfl⟩) (fun _ _ => rfl) (fun q => absurd rfl q) (fun i hi => pt_lo (by omega)) (pt_s h hk (fun i hi => rfl)) ⟨rfl, rfl, rfl⟩ (fun j hj _ => by rw [r2, g2]) (fun q => absurd rfl q) (fun j hj => ?_) (fun j hj => ?_) (fun c hc q hq => ?_)
    · rw [r3, g4 j hj]
      by_cases q : j = k
      · rw [if_pos q, q, va_up_self]; rfl
      · rw [if_neg q, va_up_ne _ _ q]; exact (h.2.2.2.2.1 j hj).2.1
    · rw [r5 j hj]
      by_cases q : j = k
      · rw [if_pos q, q, va_up_self]; rfl
      · rw [if_neg q, va_up_ne _ _ q, g3]; exact (h.2.2.2.2.1 j hj).2.2
    · rw [r4, g5 c hc q hq]; simp
  obtain ⟨i, F', R', o1, o3, o5, o6, o7⟩ := op_pass ⟨rw, cl, sz, _, _, _, _, hn⟩
  refine ⟨chv (Y k), F', R', ?_, o3, ?_, o6, o7⟩
  · unfold m2_end m2_end_J26
    rw [p2_channelAt h hk, bd_s, g1, bd_s]
    show ((m2_isPresent F R1 G Q (nI k)).bind _) = _
    rw [q2_present hk, bd_s, r1, bd_s, o1, bd_s]
  · unfold chv
    split
    · exact Or.inr rfl
    · exact Or.inl (nI_pos' (by omega))
theorem op_start (h : nr_c rw cl ru sz X Y Z s F R G Q) {c : Nat} (hc : c < rw * cl) (hfree : fr_ X < 60) : ∃ (v : Int32) (F' : Nat → Int32) (R' : Nat → Nat → Int32), m2_start F R G Q (nI c) = some (v, F', R') ∧ nv_ ru F' R' G Q ∧ (0 ≤ v ∨ v = -9) ∧ F' 4 = F 4 + 1 ∧ (F' 5 = F 5 ∨ F' 5 = F 5 + 1) := by
  have hce := cf_ce h.1.1
  have hch := cf_ch h.1.1
  have hf := h.1.1
  unfold cf_ok at hf
  obtain ⟨y, hy1, hy2, hy3⟩ := cv_y (s := s) h.1.1 hc
  -- the class
  generalize hF7 : (if fxn X Z c < sz then (if y = 0 then (va_up (va_up F 4 (F 4 + 1)) 5 ((va_up F 4 (F 4 + 1)) 5 + 1)) else va_up F 4 (F 4 + 1)) else va_up (if y = 0 then (va_up (va_up F 4 (F 4 + 1)) 5 ((va_up F 4 (F 4 + 1)) 5 + 1)) else va_up F 4 (F 4 + 1)) 6 ((if y = 0 then (va_up (va_up F 4 (F 4 + 1)) 5 ((va_up F 4 (F 4 + 1)) 5 + 1)) else va_up F 4 (F 4 + 1)) 6 + 1)) = F7
  have hF7i : ∀ i, i < 4 ∨ 6 < i → F7 i = F i := fun i hi => by
    rw [← hF7]
    split <;> split <;> simp only [va_up_ne _ _ (show i ≠ 4 by omega), va_up_ne _ _ (show i ≠ 5 by omega), va_up_ne _ _ (show i ≠ 6 by omega)]
  have hF74 : F7 4 = F 4 + 1 := by
    rw [← hF7]
    split <;> split <;> simp [va_up]
  have hF75 : F7 5 = F 5 + bi (decide (y = 0)) := by
    rw [← hF7]
    by_cases q : y = 0 <;> by_cases g : fxn X Z c < sz <;> simp [va_up, q, g, bi]
  have hF76 : F7 6 = F 6 + bi (!decide (fxn X Z c < sz)) := by
    rw [← hF7]
    by_cases q : fxn X Z c < sz
    · simp only [q, if_true, decide_true, Bool.not_true]
      split <;> simp [va_up, bi]
    · simp only [q, if_false, decide_false, Bool.not_false]
      split <;> simp [va_up, bi]
  have h7 : nr_c rw cl ru sz X Y Z s F7 R G Q := nr_cg h (fun _ _ => rfl) ⟨hF7i 1 (by decide), hF7i 2 (by decide), hF7i 3 (by decide)⟩
  have hkX : X (fr_ X) = 0 := of_decide_eq_true (fi_yes _ _ hfree)
  have hkY := (h.2.1.2.2 (fr_ X) hfree).2.2.2.2.2.1 hkX
  have hm2 : m2_start F R G Q (nI c) = m2_start_J52 R G Q (nI c) (chv y) (bi (decide (fxn X Z c < sz))) F7 := by
    unfold m2_start m2_start_J38
    rw [(p2_choose h hc).1, bd_s, hy2, p2_fixed h c (by omega), bd_s, ← hF7]
    by_cases q : y = 0
    · rw [if_pos ((chv_0 (by omega)).mpr q), bd_s]
      by_cases g : fxn X Z c < sz
      · rw [decide_eq_true g, if_neg (by decide), bd_s]; simp only [q, g, if_true]
      · rw [decide_eq_false g, if_pos bi_f, bd_s]; simp only [q, g, if_true, if_false]
    · rw [if_neg (fun z => q ((chv_0 (by omega)).mp z)), bd_s]
      by_cases g : fxn X Z c < sz
      · rw [decide_eq_true g, if_neg (by decide), bd_s]; simp only [q, g, if_true, if_false]
      · rw [decide_eq_false g, if_pos bi_f, bd_s]; simp only [q, g, if_false]
  generalize hacc : decide (fxn X Z c < sz) = acc at *
  have hk := hfree
  generalize hkk : fr_ X = k at *
  rw [hm2]
  have hfree2 : m2_lowestFreeNumber F7 R G Q = some (nI k) := by
    rw [p2_free h7, hkk]; unfold nv; rw [if_pos hk]
  have hb : decide ((0 : Int32) ≤ nI k ∧ nI k ≤ 59) = true := by rw [isC60, isC_n (by decide) hk]
  have hcnt : F7 4 = F 4 + 1 ∧ (F7 5 = F 5 ∨ F7 5 = F 5 + 1) := ⟨hF74, by rw [hF75]; cases decide (y = 0) with
    | true => exact Or.inr rfl
    | false => exact Or.inl (Int32.add_zero _)⟩
  by_cases hbl : y = 0 ∧ acc = false
  · obtain ⟨q1, q2⟩ := hbl
    have hc9 : chv y = -9 := (chv_0 (by omega)).mpr q1
    refine ⟨-9, F7, R, ?_, ⟨rw, cl, sz, X, Y, Z, s, h7⟩, Or.inr rfl, hcnt⟩
    unfold m2_start_J52
    rw [hfree2, bd_s, m4_isB, bd_s, hb, if_neg (by decide), if_pos hc9, q2, if_pos bi_f]
  · have hx : (if y = 0 ∧ acc = false then 0 else c + 1) = c + 1 := if_neg hbl
    have i2 : inb (nI k) 60 := in_n hk (by decide)
    obtain ⟨R', p1, p2⟩ := p2_place (z := acc) (y := y) (s' := pt_ s k (nI (c + 1)) (nI y) (bi acc)) h7 hk (F1 := F7) (R1 := va_up R 2 (upd (R 2) k (bi acc))) hc hy1 (fun q => av_ok h7 k hc (by omega) (hy3 q).1 (hy3 q).2) ⟨rfl, rfl, rfl⟩ (va_up_ne _ _ (by decide)) (fun j hj => by
        rw [va_up_ne _ _ (by decide)]
        by_cases q : j = k
        · rw [if_pos q, q, (h7.2.2.2.2.1 k hk).2.1, hkY.1]; rfl
        · rw [if_neg q]) (fun j hj => by
        rw [va_up_self]
        by_cases q : j = k
        · rw [if_pos q, q, pk_us]
        · rw [if_neg q, pk_un q]) (fun c' hc' q hq => by
        rw [va_up_ne _ _ (by decide), h7.2.2.2.2.2.1 c' hc' q hq, us_ux h7 hk (by omega) (by omega), hkY.1]
        simp) hx.symm (fun i hi => pt_lo (by omega)) (pt_s h7 hk (fun i _ => rfl))
    refine ⟨nI k, (if bo_ cl ru (va_up X k (c + 1)) (va_up Y k y) k then va_up F7 9 (F7 9 + 1) else F7), R', ?_, ⟨rw, cl, sz, _, _, _, _, nr_cg p2 (fun _ _ => rfl) ?_⟩, Or.inl (nI_pos' (by omega)), ?_⟩
    · unfold m2_start_J52
      rw [hfree2, bd_s, m4_isB, bd_s, hb, if_neg (by decide)]
      by_cases q : y = 0
      · have ha : acc = true := by cases acc with
          | true => rfl
          | false => exact absurd ⟨q, rfl⟩ hbl
        rw [if_pos ((chv_0 (by omega)).mpr q), if_neg (by rw [ha]; decide), m4_asN acc, bd_s, if_pos i2, nI_clamp (by omega), p1, bd_s]
      · rw [if_neg (fun z => q ((chv_0 (by omega)).mp z)), m4_asN acc, bd_s, if_pos i2, nI_clamp (by omega), p1, bd_s]
    · split
      · exact ⟨va_up_ne _ _ (by decide), va_up_ne _ _ (by decide), va_up_ne _ _ (by decide)⟩
      · exact ⟨rfl, rfl, rfl⟩
    · split
      · rw [va_up_ne _ _ (by decide), va_up_ne _ _ (by decide)]; exact hcnt
      · exact hcnt
end EM
section MV
variable {rw cl ru sz : Nat} {F s : Nat → Int32} {R : Nat → Nat → Int32} {G : Nat → Int32} {Q : Nat → Nat → Int32} {X Y : Nat → Nat} {Z : Nat → Bool} {k : Nat}
/-- the channel that a call finds behind it is given back, if it has one -/
theorem mv_class (h : nr_c rw cl ru sz X Y Z s F R G Q) (hk : k < 60) (hx : X k ≠ 0) {c : Nat} (hc : c < rw * cl) {y : Nat} (hy : y ≤ gs ru * sz) (hcv : Y k ≠ 0 → cv_ rw cl ru sz s c = chv y) (h0 : Y k = 0 → y = 0) (hu : y ≠ 0 → ok_ rw cl ru X Y k c (y - 1)) {s' : Nat → Int32} (hs : ∀ i, i < 7 → s' i = s i) {x : Nat} (hxx : x = if y = 0 ∧ (Z k && decide (fxn X Z c < sz)) = false then 0 else c + 1) (hs2 : ∀ i, 14 ≤ i → s' i = pt_ s k (nI x) (nI y) (bi (Z k && decide (fxn X Z c < sz))) i) :
    ∃ (F2 : Nat → Int32) (R2 : Nat → Nat → Int32), m2_move F R G Q (nI k) (nI c) = ((m2_returnCalls F2 R2 G Q).bind fun ⟨v19, F17, R18⟩ => some (chv y, F17, R18)) ∧ nr_c rw cl ru sz (va_up X k x) (va_up Y k y) (va_up Z k (Z k && decide (fxn X Z c < sz))) s' F2 R2 G Q ∧ F2 4 = F 4 ∧ F2 5 = F 5 ∧ F2 6 = F 6 ∧ F2 10 = F 10 ∧ F2 7 = F 7 + bi (decide (Y k ≠ 0) && decide (y = 0)) ∧ F2 8 = F 8 + bi (Z k && !decide (fxn X Z c < sz)) ∧ F2 9 = F 9 + bi (bo_ cl ru (va_up X k x) (va_up Y k y) k) := by
  have hce := cf_ce h.1.1
  have hch := cf_ch h.1.1
  have w := h.2.1.2.2 k hk
  have c' := h.2.2.2.2.1 k hk
  have i2 : inb (nI k) 60 := in_n hk (by decide)
  generalize hacc : decide (fxn X Z c < sz) = acc at *
  -- the fixed scheme
  obtain ⟨F1, Ra, a1, a2, a3, a4, a5, a6, a7⟩ : ∃ (F1 : Nat → Int32) (Ra : Nat → Nat → Int32), (if (R 2 (nI k).toNatClampNeg) = (1 : Int32) then (m2_fixedAccepts F R G Q (nI c)).bind fun v29 => if v29 = 0 then (if inb (nI k) 60 then some ((va_up F 8 ((F 8) + (1 : Int32))), (va_up R 2 (upd (R 2) (nI k).toNatClampNeg (0 : Int32)))) else none) else some (F, R) else some (F, R)) = some (F1, Ra) ∧ (∀ i, i ≠ 8 → F1 i = F i) ∧ F1 8 = F 8 + bi (Z k && !acc) ∧ Ra 0 = R 0 ∧ Ra 1 = R 1 ∧ Ra 3 = R 3 ∧ ∀ j, j < 60 → Ra 2 j = if j = k then bi (Z k && acc) else R 2 j := by
    have hr2 : R 2 (nI k).toNatClampNeg = bi (Z k) := by rw [nI_clamp (by omega)]; exact c'.2.2
    rw [hr2, p2_fixed h c (by omega), hacc]
    have same : ∀ b : Bool, bi (Z k) = bi b → ∀ j, j < 60 → R 2 j = if j = k then bi b else R 2 j := fun b hb j hj => by
      by_cases q : j = k
      · rw [if_pos q, q, c'.2.2, hb]
      · rw [if_neg q]
    cases hz : Z k with
    | false => exact ⟨F, R, rfl, fun _ _ => rfl, (Int32.add_zero _).symm, rfl, rfl, rfl, same _ (by rw [hz]; rfl)⟩
    | true =>
      cases acc with
      | true => exact ⟨F, R, rfl, fun _ _ => rfl, (Int32.add_zero _).symm, rfl, rfl, rfl, same _ (by rw [hz]; rfl)⟩
      | false =>
        refine ⟨va_up F 8 (F 8 + 1), va_up R 2 (upd (R 2) k 0), ?_, fun i hi => va_up_ne _ _ hi, va_up_self _ _ _, va_up_ne _ _ (by decide), va_up_ne _ _ (by decide), va_up_ne _ _ (by decide), fun j hj => ?_⟩
        · rw [if_pos bi_t, bd_s, if_pos bi_f, if_pos i2, nI_clamp (by omega)]
        · rw [va_up_self]
          by_cases q : j = k
          · rw [if_pos q, q, pk_us]; rfl
          · rw [if_neg q, pk_un q]
  -- the channel
  obtain ⟨F10, R11, b1, b2, b3, b4, b5, b6, b7⟩ : ∃ (F10 : Nat → Int32) (R11 : Nat → Nat → Int32), (if (Ra 1 (nI k).toNatClampNeg) = (-9 : Int32) then some ((-9 : Int32), F1, Ra) else (m2_chooseChannel F1 Ra G Q (nI c)).bind fun v22 => (m2_release F1 Ra G Q (nI k)).bind fun ⟨F24, R25⟩ => if v22 = (-9 : Int32) then some (v22, (va_up F24 7 ((F24 7) + (1 : Int32))), R25) else some (v22, F24, R25)) = some (chv y, F10, R11) ∧ (∀ i, i ≠ 7 → F10 i = F1 i) ∧ F10 7 = F1 7 + bi (decide (Y k ≠ 0) && decide (y = 0)) ∧ R11 0 = R 0 ∧ (∀ j, j < 60 → R11 1 j = if j = k then -9 else R 1 j) ∧ R11 2 = Ra 2 ∧ ∀ c, c < rw * cl → ∀ q, q < 32 → bt (R11 3 c) q = ux_ X Y k c q := by
    rw [nI_clamp (by omega), a5, c'.2.1]
    by_cases q : Y k = 0
    · have hy0 := h0 q
      have h9 : chv y = -9 := (chv_0 (by omega)).mpr hy0
      rw [if_pos ((chv_0 (by omega)).mpr q), h9]
      refine ⟨F1, Ra, rfl, fun _ _ => rfl, ?_, a4, fun j hj => ?_, rfl, fun c hc p hp => ?_⟩
      · rw [decide_eq_false (fun z => z q)]; exact (Int32.add_zero _).symm
      · rw [a5]
        by_cases g : j = k
        · rw [if_pos g, g, c'.2.1, (chv_0 (by omega)).mpr q]
        · rw [if_neg g]
      · rw [a6, h.2.2.2.2.2.1 c hc p hp, us_ux h hk (by omega) (by omega), decide_eq_false (by omega : ¬ Y k = p + 1), Bool.and_false, Bool.or_false]
    · have ha : nr_c rw cl ru sz X Y (va_up Z k (Z k && acc)) (pt_ s k (nI (X k)) (nI (Y k)) (bi (Z k && acc))) F1 Ra G Q := by
        have hp := nr_put (F' := F1) (R' := Ra) (x := X k) (y := Y k) (z := Z k && acc) (s' := pt_ s k (nI (X k)) (nI (Y k)) (bi (Z k && acc))) h hk w.2.2.2.1 w.2.2.2.2.1 (fun z => absurd z hx) (fun z => absurd z q) (fun q' => h.2.2.1.2 k hk q') (fun i hi => pt_lo (by omega)) (pt_s h hk (fun i _ => rfl)) ⟨a2 1 (by decide), a2 2 (by decide), a2 3 (by decide)⟩ (fun j hj _ => by rw [a4]) (fun _ => by rw [a4]; exact c'.1 hx) (fun j hj => by rw [a5, up_id]; exact (h.2.2.2.2.1 j hj).2.1) (fun j hj => by
          rw [a7 j hj]
          by_cases g : j = k
          · rw [if_pos g, g, va_up_self]
          · rw [if_neg g, va_up_ne _ _ g]; exact (h.2.2.2.2.1 j hj).2.2) (fun c hc p hp => by
          rw [a6, h.2.2.2.2.2.1 c hc p hp, us_ux h hk (by omega) (by omega)])
        rw [up_id, up_id] at hp
        exact hp
      obtain ⟨R1, g1, g2, g3, g4, g5⟩ := p2_release ha hk
      have hus : ∀ c q, us (pt_ s k (nI (X k)) (nI (Y k)) (bi (Z k && acc))) c q = us s c q := fun c q => by
        unfold us
        refine an_cong (fun j hj => ?_)
        have g := pt_at (s := s) (a := nI (X k)) (b := nI (Y k)) (d := bi (Z k && acc)) hj hk
        rw [g.1, g.2.1]
        by_cases qq : j = k
        · rw [if_pos qq, if_pos qq, qq, w.1, w.2.1]
        · rw [if_neg qq, if_neg qq]
      rw [if_neg (fun z => q ((chv_0 (by omega)).mp z)), (p2_choose ha hc).1, cv_cong hus (pt_lo (by decide)) (pt_lo (by decide)), hcv q, bd_s, g1, bd_s]
      by_cases g : y = 0
      · have h9 : chv y = -9 := (chv_0 (by omega)).mpr g
        refine ⟨va_up F1 7 (F1 7 + 1), R1, ?_, fun i hi => va_up_ne _ _ hi, ?_, by rw [g2, a4], fun j hj => by rw [g4 j hj, a5], g3, g5⟩
        · show (if chv y = -9 then _ else _) = _
          rw [if_pos h9]
        · rw [va_up_self, decide_eq_true q, decide_eq_true g]; rfl
      · refine ⟨F1, R1, ?_, fun _ _ => rfl, ?_, by rw [g2, a4], fun j hj => by rw [g4 j hj, a5], g3, g5⟩
        · show (if chv y = -9 then _ else _) = _
          rw [if_neg (fun z => g ((chv_0 (by omega)).mp z))]
        · rw [decide_eq_false g, Bool.and_false]; exact (Int32.add_zero _).symm
  have hF : ∀ i, i < 7 → F10 i = F i := fun i hi => by rw [b2 i (by omega), a2 i (by omega)]
  obtain ⟨R', p1, p2⟩ := p2_place (z := Z k && acc) (y := y) (s' := s') (x := x) h hk (F1 := F10) (R1 := R11) hc hy hu ⟨hF 1 (by decide), hF 2 (by decide), hF 3 (by decide)⟩ b4 b5 (fun j hj => by rw [b6, a7 j hj]) b7 hxx hs (pt_s h hk hs2)
  have hF' : ∀ i, i ≠ 9 → (if bo_ cl ru (va_up X k x) (va_up Y k y) k then va_up F10 9 (F10 9 + 1) else F10) i = F10 i := fun i hi => by
    split
    · exact va_up_ne _ _ hi
    · rfl
  refine ⟨(if bo_ cl ru (va_up X k x) (va_up Y k y) k then va_up F10 9 (F10 9 + 1) else F10), R', ?_, nr_cg p2 (fun _ _ => rfl) ⟨hF' 1 (by decide), hF' 2 (by decide), hF' 3 (by decide)⟩, ?_, ?_, ?_, ?_, ?_, ?_, ?_⟩
  · unfold m2_move
    rw [p2_present h, bd_s, ic_n hk, decide_eq_true hx, if_neg (by decide), if_pos i2]
    refine Eq.trans (congrArg (fun t => Option.bind t _) a1) ?_
    rw [bd_s]
    show m2_move_J46 G Q (nI k) (nI c) F1 Ra = _
    unfold m2_move_J46
    rw [if_pos i2]
    refine Eq.trans (congrArg (fun t => Option.bind t _) b1) ?_
    rw [bd_s]
    show m2_move_J87 G Q (nI k) (nI c) (chv y) F10 R11 = _
    unfold m2_move_J87
    rw [p1, bd_s]
  · rw [hF' 4 (by decide), hF 4 (by decide)]
  · rw [hF' 5 (by decide), hF 5 (by decide)]
  · rw [hF' 6 (by decide), hF 6 (by decide)]
  · rw [hF' 10 (by decide), b2 10 (by decide), a2 10 (by decide)]
  · rw [hF' 7 (by decide), b3, a2 7 (by decide)]
  · rw [hF' 8 (by decide), b2 8 (by decide), a3]
  · cases bo_ cl ru (va_up X k x) (va_up Y k y) k with
    | true => rw [if_pos rfl, va_up_self, b2 9 (by decide), a2 9 (by decide)]; rfl
    | false => rw [if_neg (by decide), b2 9 (by decide), a2 9 (by decide)]; exact (Int32.add_zero _).symm
end MV
theorem op_move {rw cl ru sz : Nat} {F s : Nat → Int32} {R : Nat → Nat → Int32} {G : Nat → Int32} {Q : Nat → Nat → Int32} {X Y : Nat → Nat} {Z : Nat → Bool} {k : Nat} (h : nr_c rw cl ru sz X Y Z s F R G Q) (hk : k < 60) (hx : X k ≠ 0) {c : Nat} (hc : c < rw * cl) : ∃ (v : Int32) (F' : Nat → Int32) (R' : Nat → Nat → Int32), m2_move F R G Q (nI k) (nI c) = some (v, F', R') ∧ nv_ ru F' R' G Q ∧ (0 ≤ v ∨ v = -9) ∧ F' 4 = F 4 ∧ F' 5 = F 5 := by
  have hch := cf_ch h.1.1
  obtain ⟨y, hy1, hcv, hy0, hu⟩ : ∃ y : Nat, y ≤ gs ru * sz ∧ (Y k ≠ 0 → cv_ rw cl ru sz s c = chv y) ∧ (Y k = 0 → y = 0) ∧ (y ≠ 0 → ok_ rw cl ru X Y k c (y - 1)) := by
    by_cases q : Y k = 0
    · exact ⟨0, Nat.zero_le _, fun z => absurd q z, fun _ => rfl, fun z => absurd rfl z⟩
    · obtain ⟨y, hy1, hy2, hy3⟩ := cv_y (s := s) h.1.1 hc
      exact ⟨y, hy1, fun _ => hy2, fun z => absurd z q, fun g => av_ok h k hc (by omega) (hy3 g).1 (hy3 g).2⟩
  obtain ⟨F2, R2, m1, m2, m3, m4, -⟩ := mv_class (s' := pt_ s k (nI (if y = 0 ∧ (Z k && decide (fxn X Z c < sz)) = false then 0 else c + 1)) (nI y) (bi (Z k && decide (fxn X Z c < sz)))) h hk hx hc hy1 hcv hy0 hu (fun i hi => pt_lo (by omega)) rfl (fun i _ => rfl)
  obtain ⟨i, F', R', o1, o3, o5, o6, o7⟩ := op_pass ⟨rw, cl, sz, _, _, _, _, m2⟩
  refine ⟨chv y, F', R', ?_, o3, ?_, by rw [o6, m3], by rw [o7, m4]⟩
  · rw [m1, o1, bd_s]
  · unfold chv
    split
    · exact Or.inr rfl
    · exact Or.inl (nI_pos' (by omega))
