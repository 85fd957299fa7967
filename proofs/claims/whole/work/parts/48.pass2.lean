theorem ux_av {rw cl ru sz : Nat} {F s : Nat → Int32} {R : Nat → Nat → Int32} {G : Nat → Int32} {Q : Nat → Nat → Int32} {X Y : Nat → Nat} {Z : Nat → Bool} {k : Nat} (h : nr_c rw cl ru sz X Y Z s F R G Q) (hk : k < 60) {c q : Nat} (hc : c < rw * cl) (hq : q < gs ru * sz) (hu : us s c q = false) : ux_ X Y k c q = false := by
  have hce := cf_ce h.1.1
  have hch := cf_ch h.1.1
  rw [us_ux h hk (by omega) (by omega)] at hu
  cases hx : ux_ X Y k c q with
  | false => rfl
  | true => rw [hx] at hu; cases hu
theorem na_us {rw cl ru sz : Nat} {s : Nat → Int32} {c : Nat} (h : no_ rw cl ru sz s c < gs ru * sz) : us s c (no_ rw cl ru sz s c) = false ∧ nm cl ru c (no_ rw cl ru sz s c) = true := by
  have g := fi_yes _ _ h
  have g2 : na_ rw cl ru s c (no_ rw cl ru sz s c) = true := g
  unfold na_ av at g2
  rw [Bool.and_eq_true, Bool.and_eq_true] at g2
  refine ⟨?_, g2.1⟩
  have := g2.2.1
  cases hu : us s c (no_ rw cl ru sz s c) with
  | false => rfl
  | true => rw [hu] at this; cases this
theorem L4_go {F5 : Nat → Int32} {Rr : Nat → Nat → Int32} {kk : (Int32 × Int32 × (Nat → Nat → Int32)) → Option (Int32 × (Nat → Nat → Int32))} {i b0 v : Int32} (hb0 : ¬ b0 = -9) (h6 : Rr 0 6 = 1) (hs : wh (m5_pass_L30 F5 Rr) 2000 ((-9 : Int32), (-9 : Int32), (0 : Int32)) = some v) : m5_pass_L4 F5 kk (i, b0, Rr) = m5_pass_X159 F5 kk i Rr v := by
  unfold m5_pass_L4
  dsimp only
  rw [if_neg hb0, cl_6, if_pos h6, hs, bd_s]
theorem L4_stop {F5 : Nat → Int32} {Rr : Nat → Nat → Int32} {n : Nat} {i : Int32} : m5_pass_X159 F5 (wh (m5_pass_L4 F5) (n + 1)) i Rr (-9) = some (i, Rr) := by
  unfold m5_pass_X159 m5_pass_J205
  rw [if_pos rfl, bd_s]
  show m5_pass_L4 F5 (wh (m5_pass_L4 F5) n) (i, -9, Rr) = _
  unfold m5_pass_L4
  dsimp only
  rw [if_pos rfl]
section PB
variable {rw cl ru sz : Nat} {F F5 s : Nat → Int32} {R Rr : Nat → Nat → Int32} {G : Nat → Int32} {Q : Nat → Nat → Int32} {X Y : Nat → Nat} {Z : Nat → Bool} {k : Nat}
/-- one step of the pass, on both sides -/
theorem pass_step (h : nr_c rw cl ru sz X Y Z (Rr 0) F R G Q) (hk : k < 60) (hc : can_ rw cl ru sz (Rr 0) X Y k = true) :
    ∃ R' Rr' : Nat → Nat → Int32, ∃ Y' : Nat → Nat,
      (∀ kk v2 v13t, m2_cellAt F R G Q (nI k) = some (nI (X k - 1)) ∧ ((m2_availableNominals F R G Q (nI (X k - 1))).bind fun v17 => (m2_lowestOf F R G Q v17).bind fun v19 => (m2_release F R G Q (nI k)).bind fun ⟨F21, R22⟩ => (m2_occupy F21 R22 G Q (nI k) v19).bind fun ⟨F24, R25⟩ => (kk : Int32 × Int32 × (Nat → Int32) × (Nat → Nat → Int32) → Option (Int32 × (Nat → Int32) × (Nat → Nat → Int32))) (v2, v13t, F24, R25)) = kk (v2, v13t, F, R')) ∧
      (∀ kk v2, m5_pass_X159 F5 kk v2 Rr (nI k) = kk (v2 + 1, nI k, Rr')) ∧
      nr_c rw cl ru sz X Y' Z (Rr' 0) F R' G Q ∧ cn (bo_ cl ru X Y') 60 + 1 = cn (bo_ cl ru X Y) 60 ∧ Rr' 0 13 = Rr 0 13 + 1 ∧ (∀ j, j < 13 → Rr' 0 j = Rr 0 j) ∧ (∀ j, j ≠ 0 → Rr' j = Rr j) := by
  have hce := cf_ce h.1.1
  have hch := cf_ch h.1.1
  have w := h.2.1.2.2 k hk
  unfold can_ at hc
  rw [Bool.and_eq_true] at hc
  have hbo := hc.1
  have hno := of_decide_eq_true hc.2
  have hy := bo_y hbo
  have hx : X k ≠ 0 := fun z => hy (w.2.2.2.2.2.1 z).1
  have hcl : X k - 1 < rw * cl := by omega
  have hna := na_us hno
  obtain ⟨V, hV1, hV⟩ := p2_availNom h hcl
  obtain ⟨R1, g1, g2, g3, g4, g5⟩ := p2_release h hk
  have hlow : m2_lowestOf F R G Q V = some (nI (no_ rw cl ru sz (Rr 0) (X k - 1))) := by
    rw [p2_low h.2.2.2.1.2.1 hch.2, fi_cong (q := na_ rw cl ru (Rr 0) (X k - 1)) (fun j hj => by rw [hV j (by omega), decide_eq_true hj, Bool.true_and])]
    unfold nv
    unfold no_ at hno ⊢
    rw [if_pos hno]
  generalize hN : no_ rw cl ru sz (Rr 0) (X k - 1) = N at *
  obtain ⟨R2, o1, o2, o3, o4, o5⟩ := p2_occupy (F := F) (R := R1) (Q := Q) (y := N + 1) h.2.2.2.1.1 hce.2 hk hcl (by rw [g2]; exact (h.2.2.2.2.1 k hk).1 hx) (by omega) (by rw [g4 k hk, if_pos rfl])
  have hchv : chv (N + 1) = nI N := rfl
  rw [hchv] at o1
  have e2 : inb ((14 : Int32) + nI k) 194 := in_at (n := 14) (by omega) (by decide)
  have e3 : ((14 : Int32) + nI k).toNatClampNeg = 14 + k := cl_at (n := 14) (by omega)
  have e4 : inb ((74 : Int32) + nI k) 194 := in_at (n := 74) (by omega) (by decide)
  have e5 : ((74 : Int32) + nI k).toNatClampNeg = 74 + k := cl_at (n := 74) (by omega)
  have hux : ux_ X Y k (X k - 1) N = false := ux_av h hk hcl hno hna.1
  have hbit : ∀ s' : Nat → Int32, (∀ i, i < 7 → s' i = Rr 0 i) → (∀ j, j < 60 → s' (14 + j) = Rr 0 (14 + j) ∧ s' (74 + j) = (if j = k then nI (N + 1) else Rr 0 (74 + j)) ∧ s' (134 + j) = Rr 0 (134 + j)) → nr_c rw cl ru sz X (va_up Y k (N + 1)) Z s' F R2 G Q := by
    intro s' hs1 hs2
    have hp := nr_put (F' := F) (R' := R2) (s' := s') (x := X k) (y := N + 1) (z := Z k) h hk w.2.2.2.1 (by omega) (fun z => absurd z hx) (fun z => absurd z (by omega)) (fun _ => by rw [Nat.add_sub_cancel]; exact hux) hs1 (fun j hj => by
        have w' := h.2.1.2.2 j hj
        rw [(hs2 j hj).1, (hs2 j hj).2.1, (hs2 j hj).2.2, up_id, up_id]
        refine ⟨w'.1, ?_, w'.2.2.1⟩
        by_cases q : j = k
        · rw [if_pos q, q, va_up_self]
        · rw [if_neg q, va_up_ne _ _ q]; exact w'.2.1) ⟨rfl, rfl, rfl⟩ (fun j hj _ => by rw [o2, g2]) (fun q => by rw [o2, g2]; exact (h.2.2.2.2.1 k hk).1 q) (fun j hj => by
        rw [o4 j hj, g4 j hj]
        by_cases q : j = k
        · rw [if_pos q, q, va_up_self]
        · rw [if_neg q, if_neg q, va_up_ne _ _ q]; exact (h.2.2.2.2.1 j hj).2.1) (fun j hj => by rw [o3, g3, up_id]; exact (h.2.2.2.2.1 j hj).2.2) (fun c hc q hq => by
        rw [o5 c hc q hq, g5 c hc q hq]
        congr 2
        exact decide_eq_decide.mpr (by omega))
    rw [up_id, up_id] at hp
    exact hp
  refine ⟨R2, va_up Rr 0 (upd (upd (Rr 0) (74 + k) (nI (N + 1))) 13 (Rr 0 13 + 1)), va_up Y k (N + 1), fun kk v2 v13t => ⟨p2_cellAt h hk hx, ?_⟩, fun kk v2 => ?_, ?_, ?_, ?_, fun j hj => ?_, fun j hj => va_up_ne _ _ hj⟩
  · rw [hV1, bd_s, hlow, bd_s, g1, bd_s]
    show (m2_occupy F R1 G Q (nI k) (nI N)).bind _ = _
    rw [o1, bd_s]
  · have w1' : Rr 0 ((14 : Int32) + nI k).toNatClampNeg - 1 = nI (X k - 1) := by rw [e3, w.1]; exact pk_sub (b := 1) (by omega)
    unfold m5_pass_X159 m5_pass_J205
    rw [if_neg (n9 (by omega)), if_pos e2, w1', r5_nominal h.1 (by omega), bd_s, if_pos e4, e5, cl_13, hN]
    unfold nv
    rw [if_pos hno, nI_1, bd_s]
    show kk (v2 + 1, nI k, _) = _
    rw [bx_uu, va_up_self, pk_un (by omega : (13 : Nat) ≠ 74 + k)]
  · refine hbit _ (fun i hi => ?_) (fun j hj => ?_)
    · rw [va_up_self, pk_un (by omega), pk_un (by omega)]
    · rw [va_up_self]
      refine ⟨?_, ?_, ?_⟩
      · rw [pk_un (by omega), pk_un (by omega)]
      · rw [pk_un (by omega)]
        by_cases q : j = k
        · rw [if_pos q, q, pk_us]
        · rw [if_neg q, pk_un (by omega)]
      · rw [pk_un (by omega), pk_un (by omega)]
  · refine cn_dec hbo ?_ (fun j hj => ?_) hk
    · unfold bo_
      rw [va_up_self, Nat.add_sub_cancel, hna.2]; simp
    · unfold bo_
      rw [va_up_ne _ _ hj]
  · rw [va_up_self, pk_us]
  · rw [va_up_self, pk_un (by omega), pk_un (by omega)]
theorem pass_ind : ∀ (μ i : Nat) (Y : Nat → Nat) (R Rr : Nat → Nat → Int32) (n1 n2 : Nat) (b0 : Int32), nr_c rw cl ru sz X Y Z (Rr 0) F R G Q → cn (bo_ cl ru X Y) 60 = μ → i + μ ≤ 60 → Rr 0 6 = 1 → ¬ b0 = -9 → μ + 2 ≤ n1 → μ + 1 ≤ n2 →
    ∃ (m : Nat) (Y' : Nat → Nat) (R' Rr' : Nat → Nat → Int32), i ≤ m ∧ m ≤ 60 ∧ wh (m2_returnCalls_L13 G Q) n2 (nI i, nI i, F, R) = some (nI m, F, R') ∧ wh (m5_pass_L4 F5) n1 (nI i, b0, Rr) = some (nI m, Rr') ∧ nr_c rw cl ru sz X Y' Z (Rr' 0) F R' G Q ∧ Rr' 0 13 = Rr 0 13 + nI (m - i) ∧ (∀ j, j < 13 → Rr' 0 j = Rr 0 j) ∧ (∀ j, j ≠ 0 → Rr' j = Rr j) := by
  intro μ
  induction μ with
  | zero =>
    intro i Y R Rr n1 n2 b0 h hμ hi h6 hb0 hn1 hn2
    obtain ⟨n1, rfl⟩ : ∃ a, n1 = a + 2 := ⟨n1 - 2, by omega⟩
    obtain ⟨n2, rfl⟩ : ∃ a, n2 = a + 1 := ⟨n2 - 1, by omega⟩
    have hnx := nx_p (p := can_ rw cl ru sz (Rr 0) X Y) (m := bu_ rw cl ru X Y) (fun k => bd_25 h.1.1 _ _) 60
    have hb : (nx_ (can_ rw cl ru sz (Rr 0) X Y) (bu_ rw cl ru X Y) 60).1 = 0 := by
      by_cases q : (nx_ (can_ rw cl ru sz (Rr 0) X Y) (bu_ rw cl ru X Y) 60).1 = 0
      · exact q
      · have g := hnx.2.2.1 q
        have hle := hnx.1
        generalize (nx_ (can_ rw cl ru sz (Rr 0) X Y) (bu_ rw cl ru X Y) 60).1 = zz at *
        unfold can_ at g
        rw [cn_0.mp hμ _ (by omega)] at g; cases g
    refine ⟨i, Y, R, Rr, Nat.le_refl _, by omega, ?_, ?_, h, by rw [Nat.sub_self]; exact (Int32.add_zero _).symm, fun _ _ => rfl, fun _ _ => rfl⟩
    · show m2_returnCalls_L13 G Q _ _ = _
      unfold m2_returnCalls_L13
      dsimp only
      rw [p2_next h, bd_s, hb, if_pos ((chv_60 (by omega)).mpr rfl)]
      split <;> rfl
    · have hsc := r5_scan (F := F5) h.1 h.2.1
      rw [hb] at hsc
      exact (L4_go hb0 h6 hsc).trans L4_stop
  | succ μ ih =>
    intro i Y R Rr n1 n2 b0 h hμ hi h6 hb0 hn1 hn2
    obtain ⟨n1, rfl⟩ : ∃ a, n1 = a + 2 := ⟨n1 - 2, by omega⟩
    obtain ⟨n2, rfl⟩ : ∃ a, n2 = a + 1 := ⟨n2 - 1, by omega⟩
    have hnx := nx_p (p := can_ rw cl ru sz (Rr 0) X Y) (m := bu_ rw cl ru X Y) (fun k => bd_25 h.1.1 _ _) 60
    have e60 : ¬ (60 : Int32) ≤ nI i := nI_ge (b := 60) (by omega) (by decide)
    by_cases hb : (nx_ (can_ rw cl ru sz (Rr 0) X Y) (bu_ rw cl ru X Y) 60).1 = 0
    · refine ⟨i, Y, R, Rr, Nat.le_refl _, by omega, ?_, ?_, h, by rw [Nat.sub_self]; exact (Int32.add_zero _).symm, fun _ _ => rfl, fun _ _ => rfl⟩
      · show m2_returnCalls_L13 G Q _ _ = _
        unfold m2_returnCalls_L13
        dsimp only
        rw [p2_next h, bd_s, hb, if_pos ((chv_60 (by omega)).mpr rfl)]
        split <;> rfl
      · have hsc := r5_scan (F := F5) h.1 h.2.1
        rw [hb] at hsc
        exact (L4_go hb0 h6 hsc).trans L4_stop
    · have hcan := hnx.2.2.1 hb
      have hle := hnx.1
      have hchv : chv (nx_ (can_ rw cl ru sz (Rr 0) X Y) (bu_ rw cl ru X Y) 60).1 = nI ((nx_ (can_ rw cl ru sz (Rr 0) X Y) (bu_ rw cl ru X Y) 60).1 - 1) := if_neg hb
      have hnext := p2_next h
      have hscan := r5_scan (F := F5) h.1 h.2.1
      rw [hchv] at hnext hscan
      generalize hkk : (nx_ (can_ rw cl ru sz (Rr 0) X Y) (bu_ rw cl ru X Y) 60).1 - 1 = k at *
      have hk : k < 60 := by omega
      obtain ⟨R', Rr', Y', s1, s2, s3, s4, s5, s6, s7⟩ := pass_step (F5 := F5) h hk hcan
      obtain ⟨m, Y2, R2, Rr2, t1, t2, t3, t4, t5, t6, t7, t8⟩ := ih (i + 1) Y' R' Rr' (n1 + 1) n2 (nI k) s3 (by omega) (by omega) (by rw [s6 6 (by decide)]; exact h6) (n9 (by omega)) (by omega) (by omega)
      refine ⟨m, Y2, R2, Rr2, by omega, t2, ?_, ?_, t5, ?_, fun j hj => by rw [t7 j hj, s6 j hj], fun j hj => by rw [t8 j hj, s7 j hj]⟩
      · show m2_returnCalls_L13 G Q _ _ = _
        unfold m2_returnCalls_L13
        dsimp only
        rw [if_neg e60, hnext, bd_s, if_neg (n9 (by omega)), (s1 (wh (m2_returnCalls_L13 G Q) n2) 0 0).1, bd_s]
        have := (s1 (wh (m2_returnCalls_L13 G Q) n2) (nI i + 1) (nI i + 1)).2
        refine Eq.trans this ?_
        rw [nI_1]; exact t3
      · refine (L4_go hb0 h6 hscan).trans ?_
        rw [s2, nI_1]
        exact t4
      · rw [t6, s5, show m - i = 1 + (m - (i + 1)) by omega, ← nI_add, Int32.add_assoc]; rfl
end PB
