/-! THE METHODS THAT CHOOSE, AND THE SETTERS -/
section CC
variable {rw cl ru sz : Nat} {F s : Nat → Int32} {R : Nat → Nat → Int32} {G : Nat → Int32} {Q : Nat → Nat → Int32} {X Y : Nat → Nat} {Z : Nat → Bool}
/-- what a choice leaves as it was -/
theorem rl_ch {p : Nat → Bool} {c k : Nat} {U : Nat → Int32} {V : Nat → Nat → Int32} {N : Nat → ns_T} {F F1 : Nat → Int32} {R R1 : Nat → Nat → Int32} (h : rl_s p c k U V N F R) (hF : ∀ i, i ≠ 7 → F1 i = F i) (hR : ∀ i, i ≠ 5 → R1 i = R i) : rl_s p c k U V N F1 R1 :=
  ⟨h.1, h.2.1, by rw [hR 0 (by decide)]; exact h.2.2.1, hs_cg h.2.2.2.1 (fun _ _ => rfl) (hF 2 (by decide)) (hR 1 (by decide)) (hR 2 (by decide)) (hR 3 (by decide)), tx_cg h.2.2.2.2 (hF 6 (by decide)) (hR 4 (by decide))⟩
end CC
theorem sim_nextChannel {p : Nat → Bool} {c k : Nat} {U : Nat → Int32} {V : Nat → Nat → Int32} {N : Nat → ns_T} {F : Nat → Int32} {R : Nat → Nat → Int32} (h : rl_s p c k U V N F R) (a1 : Int32) : ∃ (r : Int32) (F1 : Nat → Int32) (R1 : Nat → Nat → Int32), m4_nextChannel (N 0).1 (N 0).2.1 (N 0).2.2.1 (N 0).2.2.2 a1 = some r ∧ m5_nextChannel F R a1 = some (r, F1, R1) ∧ rl_s p c k U V N F1 R1 := by
  have h0 := h
  obtain ⟨-, -, ⟨rw, cl, ru, sz, X, Y, Z, hn, hcn⟩, -, -⟩ := h
  have hce := cf_ce hn.1.1
  unfold m4_nextChannel m5_nextChannel
  rw [p4_isCell hn, bd_s, r5_isCell hn.1, bd_s]
  cases hx : isC (rw * cl) a1 with
  | false => exact ⟨-1, F, R, rfl, rfl, h0⟩
  | true =>
    obtain ⟨x, hc, rfl⟩ := isC_t (by omega) hx
    obtain ⟨F1, R1, k1, k2, k3, k4⟩ := r5_choose (F := F) hn.1 hn.2.2.2.2.2.2.2.2.2.2 hc
    refine ⟨cv_ rw cl ru sz (R 0) x, F1, R1, ?_, ?_, rl_ch h0 k2 k4⟩
    · rw [if_neg (by decide), (p2_choose hn hc).1]; rfl
    · rw [if_neg (by decide), k1]; rfl
theorem sim_nextDonor {p : Nat → Bool} {c k : Nat} {U : Nat → Int32} {V : Nat → Nat → Int32} {N : Nat → ns_T} {F : Nat → Int32} {R : Nat → Nat → Int32} (h : rl_s p c k U V N F R) (a1 : Int32) : ∃ (r : Int32) (F1 : Nat → Int32) (R1 : Nat → Nat → Int32), m4_nextDonor (N 0).1 (N 0).2.1 (N 0).2.2.1 (N 0).2.2.2 a1 = some r ∧ m5_nextDonor F R a1 = some (r, F1, R1) ∧ rl_s p c k U V N F1 R1 := by
  have h0 := h
  obtain ⟨-, -, ⟨rw, cl, ru, sz, X, Y, Z, hn, hcn⟩, -, -⟩ := h
  have hce := cf_ce hn.1.1
  have hch := cf_ch hn.1.1
  unfold m4_nextDonor m5_nextDonor
  rw [p4_isCell hn, bd_s, r5_isCell hn.1, bd_s]
  cases hx : isC (rw * cl) a1 with
  | false => exact ⟨-1, F, R, rfl, rfl, h0⟩
  | true =>
    obtain ⟨x, hc, rfl⟩ := isC_t (by omega) hx
    obtain ⟨F1, R1, k1, k2, k3, k4⟩ := r5_choose (F := F) hn.1 hn.2.2.2.2.2.2.2.2.2.2 hc
    refine ⟨dv_ rw cl ru sz (R 0) x, F1, R1, ?_, ?_, rl_ch h0 k2 k4⟩
    · rw [if_neg (by decide), (p2_choose hn hc).2]; rfl
    · rw [if_neg (by decide), k1, bd_s]
      show ((if cv_ rw cl ru sz (R 0) x = -9 then some (-9 : Int32) else some (F1 7)).bind fun v8 => m5_nextDonor_J31 F1 R1 v8) = _
      have e : (if cv_ rw cl ru sz (R 0) x = -9 then some (-9 : Int32) else some (F1 7)) = some (dv_ rw cl ru sz (R 0) x) := by
        rw [k3]
        by_cases q : cv_ rw cl ru sz (R 0) x = -9
        · rw [if_pos q]
          unfold cv_ at q
          unfold dv_
          by_cases g : no_ rw cl ru sz (R 0) x < gs ru * sz
          · rw [if_pos g]
          · rw [if_neg g] at q ⊢
            have hb := bs_p (s := R 0) hn.1.1 hc (rw * cl)
            have := (fv_9 hn.1.1 (b := bb_ rw cl ru sz (R 0) x) (hb.2.imp (fun z => z.1) (fun z => z.2.2))).mp q
            rw [this]; rfl
        · rw [if_neg q]
      rw [e, bd_s]; rfl
theorem sim_blockingCells {p : Nat → Bool} {c k : Nat} {U : Nat → Int32} {V : Nat → Nat → Int32} {N : Nat → ns_T} {F : Nat → Int32} {R : Nat → Nat → Int32} (h : rl_s p c k U V N F R) : ∃ (r : Int32) (F1 : Nat → Int32) (R1 : Nat → Nat → Int32), m4_blockingCells (N 0).1 (N 0).2.1 (N 0).2.2.1 (N 0).2.2.2 = some r ∧ m5_blockingCells F R = some (r, F1, R1) ∧ rl_s p c k U V N F1 R1 := by
  have h0 := h
  obtain ⟨-, -, ⟨rw, cl, ru, sz, X, Y, Z, hn, hcn⟩, -, -⟩ := h
  have hce := cf_ce hn.1.1
  have hch := cf_ch hn.1.1
  unfold m4_blockingCells m5_blockingCells
  have e : wh (m4_blockingCells_L4 (N 0).1 (N 0).2.1 (N 0).2.2.1 (N 0).2.2.2) 2000 ((0 : Int32), (0 : Int32)) = some (nI (cn (fun x => decide (cv_ rw cl ru sz (R 0) x = -9)) (rw * cl))) := by
    refine wh_st (fun i => (nI (cn (fun x => decide (cv_ rw cl ru sz (R 0) x = -9)) i), nI i)) (rw * cl) _ (by omega) (fun i hi kk => ?_) (fun kk => ?_)
    · have e1 : ¬ nI (rw * cl) ≤ nI i := nI_ge hi (by omega)
      unfold m4_blockingCells_L4 m4_blockingCells_J34
      dsimp only
      rw [hn.2.2.2.1.1, if_neg e1, (p2_choose hn hi).1, bd_s, nI_1, nI_1, cn]
      by_cases q : cv_ rw cl ru sz (R 0) i = -9
      · rw [if_pos q, decide_eq_true q]; rfl
      · rw [if_neg q, decide_eq_false q]; rfl
    · unfold m4_blockingCells_L4
      dsimp only
      rw [hn.2.2.2.1.1, if_pos (nI_le (Nat.le_refl _) (by omega))]
  obtain ⟨⟨v, F1, R1⟩, ⟨q1, q2, q3⟩, hw⟩ := wh_iv (b := m5_blockingCells_L4) (t0 := ((0 : Int32), (0 : Int32), F, R)) (fun i t => t.1 = nI (cn (fun x => decide (cv_ rw cl ru sz (R 0) x = -9)) i) ∧ t.2.1 = nI i ∧ (∀ i, i ≠ 7 → t.2.2.1 i = F i) ∧ ∀ i, i ≠ 5 → t.2.2.2 i = R i) (fun x => x.1 = nI (cn (fun x => decide (cv_ rw cl ru sz (R 0) x = -9)) (rw * cl)) ∧ (∀ i, i ≠ 7 → x.2.1 i = F i) ∧ ∀ i, i ≠ 5 → x.2.2 i = R i) (rw * cl) (by omega) ⟨rfl, rfl, fun _ _ => rfl, fun _ _ => rfl⟩ (fun i t hi ht => by
      obtain ⟨t1, t2, t3, t4⟩ := t
      obtain ⟨h1, h2, h3, h4⟩ := ht
      dsimp only at h1 h2 h3 h4
      subst h1; subst h2
      have e1 : ¬ nI (rw * cl) ≤ nI i := nI_ge hi (by omega)
      have hr0 : t4 0 = R 0 := h4 0 (by decide)
      obtain ⟨Fc, Rc, k1, k2, k3, k4⟩ := r5_choose (F := t3) (R := t4) (by rw [hr0]; exact hn.1) (by rw [hr0]; exact hn.2.2.2.2.2.2.2.2.2.2) hi
      rw [hr0] at k1
      refine Or.inl ⟨(nI (cn (fun x => decide (cv_ rw cl ru sz (R 0) x = -9)) (i + 1)), nI (i + 1), Fc, Rc), ⟨rfl, rfl, fun j hj => (k2 j hj).trans (h3 j hj), fun j hj => (k4 j hj).trans (h4 j hj)⟩, fun kk => ?_⟩
      unfold m5_blockingCells_L4 m5_blockingCells_J28
      dsimp only
      rw [r5_cells (by rw [hr0]; exact hn.1), bd_s, if_neg e1, k1, bd_s]
      show ((if cv_ rw cl ru sz (R 0) i = -9 then some (1 : Int32) else some (0 : Int32)).bind fun v16 => kk (nI (cn (fun x => decide (cv_ rw cl ru sz (R 0) x = -9)) i) + v16, nI i + 1, Fc, Rc)) = _
      rw [nI_1, ← cn_add]
      by_cases q : cv_ rw cl ru sz (R 0) i = -9
      · rw [if_pos q, decide_eq_true q]; rfl
      · rw [if_neg q, decide_eq_false q]; rfl) (fun t ht => by
      obtain ⟨t1, t2, t3, t4⟩ := t
      obtain ⟨h1, h2, h3, h4⟩ := ht
      dsimp only at h1 h2 h3 h4
      subst h2
      have hr0 : t4 0 = R 0 := h4 0 (by decide)
      refine ⟨(t1, t3, t4), ⟨h1, h3, h4⟩, fun kk => ?_⟩
      unfold m5_blockingCells_L4
      dsimp only
      rw [r5_cells (by rw [hr0]; exact hn.1), bd_s, if_pos (nI_le (Nat.le_refl _) (by omega))])
  dsimp only at q1 q2 q3
  subst q1
  refine ⟨nI (cn (fun x => decide (cv_ rw cl ru sz (R 0) x = -9)) (rw * cl)), F1, R1, ?_, ?_, rl_ch h0 q2 q3⟩
  · rw [e]; rfl
  · rw [hw]; rfl
/-- an operation on the live state, behind a kept one -/
theorem rl_up {p : Nat → Bool} {c k : Nat} {U : Nat → Int32} {V : Nat → Nat → Int32} {N : Nat → ns_T} {F F1 F2 : Nat → Int32} {R R1 R2 : Nat → Nat → Int32} (h : rl_s p c k U V N F R) (g1 : ∀ i, i ≠ 2 → F1 i = F i) (g2 : ∀ j, j ≠ 1 → R1 j = R j) (g3 : hs_s p (cn_s c) (kn_s k) (va_up N (kn_s k + 1) (N 0)) F1 R1) {n : ns_T} (hl : nt_ (R2 0) n) (hF : ∀ i, i ≠ 7 → F2 i = F1 i) (hR : ∀ j, j ≠ 0 → j ≠ 5 → R2 j = R1 j) : rl_s p (cn_s c) (kn_s k) U V (va_up (va_up N (kn_s k + 1) (N 0)) 0 n) F2 R2 :=
  ⟨by unfold kn_s; split <;> omega, by unfold cn_s; split <;> omega, by rw [va_up_self]; exact hl, hs_cg g3 (fun i hi => va_up_ne _ _ hi) (hF 2 (by decide)) (hR 1 (by decide) (by decide)) (hR 2 (by decide) (by decide)) (hR 3 (by decide) (by decide)), tx_cg h.2.2.2.2 (by rw [hF 6 (by decide), g1 6 (by decide)]) (by rw [hR 4 (by decide) (by decide), g2 4 (by decide)])⟩
theorem lt_rw {α β : Type} (e : α) (f : α → Option β) : lt_ e f = f e := rfl
theorem ne_k (k : Nat) {N : Nat → ns_T} : va_up N (kn_s k + 1) (N 0) 0 = N 0 := va_up_ne _ _ (by omega)
theorem in_01 {x : Int32} {n : Nat} (hn : n < 1000) (h : decide ((0 : Int32) ≤ x ∧ x ≤ nI n) = true) : ∃ j, j ≤ n ∧ x = nI j := by
  have e : decide ((0 : Int32) ≤ x ∧ x ≤ nI (n + 1) - 1) = isC (n + 1) x := isC_in (by omega) (by omega) x
  rw [nI_pred, h] at e
  obtain ⟨j, hj, rfl⟩ := isC_t (by omega) e.symm
  exact ⟨j, by omega, rfl⟩
/-- one number of the state changed: strategy or reserve or returning -/
theorem nt_set {s : Nat → Int32} {n : ns_T} (h : nt_ s n) {i : Nat} (hi : i = 1 ∨ i = 2 ∨ i = 3) {v : Int32} (h5 : i = 2 → ¬ v < 0) (h6 : i = 3 → v = 0 ∨ v = 1) : nt_ (upd s (i + 3) v) (va_up n.1 i v, n.2) := by
  obtain ⟨rw, cl, ru, sz, X, Y, Z, ⟨c1, c2, c3, c4, c5, c6, c7, c8, c9, c10, c11⟩, hcn⟩ := h
  have hlo : ∀ j, j < 4 ∨ 7 ≤ j → upd s (i + 3) v j = s j := fun j hj => pk_un (by omega)
  have hw : wf_ (rw * cl) (gs ru * sz) X Y Z (upd s (i + 3) v) := ⟨c2.1, c2.2.1, fun j hj => by
    rw [hlo _ (by omega), hlo _ (by omega), hlo _ (by omega)]; exact c2.2.2 j hj⟩
  refine ⟨rw, cl, ru, sz, X, Y, Z, ⟨⟨c1.1, ?_, ?_, ?_, ?_⟩, hw, c3, c4, c5, fun c hc q hq => ?_, ?_, ?_, ?_, ?_, ?_⟩, fun j hj => ?_⟩
  · rw [hlo _ (by decide)]; exact c1.2.1
  · rw [hlo _ (by decide)]; exact c1.2.2.1
  · rw [hlo _ (by decide)]; exact c1.2.2.2.1
  · rw [hlo _ (by decide)]; exact c1.2.2.2.2
  · rw [c6 c hc q hq]
    unfold us
    exact an_cong (fun j hj => by rw [hlo _ (by omega), hlo _ (by omega)])
  · dsimp only
    rcases hi with rfl | rfl | rfl
    · rw [va_up_self, pk_us]
    · rw [va_up_ne _ _ (by decide), pk_un (by decide)]; exact c7
    · rw [va_up_ne _ _ (by decide), pk_un (by decide)]; exact c7
  · dsimp only
    rcases hi with rfl | rfl | rfl
    · rw [va_up_ne _ _ (by decide), pk_un (by decide)]; exact c8
    · rw [va_up_self, pk_us]
    · rw [va_up_ne _ _ (by decide), pk_un (by decide)]; exact c8
  · dsimp only
    rcases hi with rfl | rfl | rfl
    · rw [va_up_ne _ _ (by decide), pk_un (by decide)]; exact c9
    · rw [va_up_ne _ _ (by decide), pk_un (by decide)]; exact c9
    · rw [va_up_self, pk_us]
  · rcases hi with rfl | rfl | rfl
    · rw [pk_un (by decide)]; exact c10
    · rw [pk_un (by decide)]; exact c10
    · rw [pk_us]; exact h6 rfl
  · rcases hi with rfl | rfl | rfl
    · rw [pk_un (by decide)]; exact c11
    · rw [pk_us]; exact h5 rfl
    · rw [pk_un (by decide)]; exact c11
  · show va_up n.1 i v (4 + j) = _
    rw [va_up_ne _ _ (by omega), hlo _ (by omega)]; exact hcn j hj
theorem sim_setStrategy {p : Nat → Bool} {c k : Nat} {U : Nat → Int32} {V : Nat → Nat → Int32} {N : Nat → ns_T} {F : Nat → Int32} {R : Nat → Nat → Int32} (h : rl_s p c k U V N F R) (a1 : Int32) : ∃ (r : Int32) (c1 k1 : Nat) (U1 : Nat → Int32) (V1 : Nat → Nat → Int32) (N1 : Nat → ns_T) (F1 : Nat → Int32) (R1 : Nat → Nat → Int32), m4_setStrategy c k U V N a1 = some (r, c1, k1, U1, V1, N1) ∧ m5_setStrategy F R a1 = some (r, F1, R1) ∧ rl_s p c1 k1 U1 V1 N1 F1 R1 := by
  have h0 := h
  obtain ⟨hk, hc, hl, hh, -⟩ := h
  unfold m4_setStrategy m5_setStrategy m5_change
  rw [m4_isB, bd_s, m5_inE, bd_s]
  cases hx : decide ((0 : Int32) ≤ a1 ∧ a1 ≤ 2) with
  | false => exact ⟨-1, c, k, U, V, N, F, R, rfl, rfl, h0⟩
  | true =>
    obtain ⟨F1, R1, g0, g1, g2, g3⟩ := hs_note hk hc hl hh
    have hl1 : nt_ (upd (R1 0) 4 a1) (va_up (N 0).1 1 a1, (N 0).2) := by
      rw [g2 0 (by decide)]
      exact nt_set hl (Or.inl rfl) (fun z => by cases z) (fun z => by cases z)
    refine ⟨(N 0).1 1, cn_s c, kn_s k, U, V, va_up (va_up N (kn_s k + 1) (N 0)) 0 (va_up (N 0).1 1 a1, (N 0).2), F1, va_up R1 0 (upd (R1 0) 4 a1), ?_, ?_, rl_up h0 g1 g2 g3 (by rw [va_up_self]; exact hl1) (fun _ _ => rfl) (fun j a b => va_up_ne _ _ a)⟩
    · rw [if_neg (by decide), if_pos ⟨hk, hc, nt_1 hl⟩]
      rw [lt_rw, lt_rw, ne_k]
    · have i4 : inb (4 : Int32) 194 := by decide
      obtain ⟨rw, cl, ru, sz, X, Y, Z, hn, hcn⟩ := hl
      rw [if_neg (by decide), g0, bd_s]
      show ((if inb (4 : Int32) 194 then if inb (4 : Int32) 194 then some ((R1 0 (4 : Int32).toNatClampNeg), F1, (va_up R1 0 (upd (R1 0) (4 : Int32).toNatClampNeg a1))) else none else none).bind _).bind _ = _
      rw [if_pos i4, if_pos i4, cl_4, g2 0 (by decide), hn.2.2.2.2.2.2.1]; rfl
theorem sim_setReserve {p : Nat → Bool} {c k : Nat} {U : Nat → Int32} {V : Nat → Nat → Int32} {N : Nat → ns_T} {F : Nat → Int32} {R : Nat → Nat → Int32} (h : rl_s p c k U V N F R) (a1 : Int32) : ∃ (r : Int32) (c1 k1 : Nat) (U1 : Nat → Int32) (V1 : Nat → Nat → Int32) (N1 : Nat → ns_T) (F1 : Nat → Int32) (R1 : Nat → Nat → Int32), m4_setReserve c k U V N a1 = some (r, c1, k1, U1, V1, N1) ∧ m5_setReserve F R a1 = some (r, F1, R1) ∧ rl_s p c1 k1 U1 V1 N1 F1 R1 := by
  have h0 := h
  obtain ⟨hk, hc, hl, hh, -⟩ := h
  unfold m4_setReserve m5_setReserve m5_change
  rw [m4_isB, bd_s, m5_inE, bd_s]
  cases hx : decide ((0 : Int32) ≤ a1 ∧ a1 ≤ 3) with
  | false => exact ⟨-1, c, k, U, V, N, F, R, rfl, rfl, h0⟩
  | true =>
    obtain ⟨F1, R1, g0, g1, g2, g3⟩ := hs_note hk hc hl hh
    obtain ⟨j, hj, hja⟩ := in_01 (n := 3) (by decide) hx
    have hl1 : nt_ (upd (R1 0) 5 a1) (va_up (N 0).1 2 a1, (N 0).2) := by
      rw [g2 0 (by decide)]
      exact nt_set hl (Or.inr (Or.inl rfl)) (fun _ => by rw [hja]; exact nI_pos (by omega)) (fun z => by cases z)
    refine ⟨(N 0).1 2, cn_s c, kn_s k, U, V, va_up (va_up N (kn_s k + 1) (N 0)) 0 (va_up (N 0).1 2 a1, (N 0).2), F1, va_up R1 0 (upd (R1 0) 5 a1), ?_, ?_, rl_up h0 g1 g2 g3 (by rw [va_up_self]; exact hl1) (fun _ _ => rfl) (fun j a b => va_up_ne _ _ a)⟩
    · rw [if_neg (by decide), if_pos ⟨hk, hc, nt_1 hl⟩]
      rw [lt_rw, lt_rw, ne_k]
    · have i4 : inb (5 : Int32) 194 := by decide
      obtain ⟨rw, cl, ru, sz, X, Y, Z, hn, hcn⟩ := hl
      rw [if_neg (by decide), g0, bd_s]
      show ((if inb (5 : Int32) 194 then if inb (5 : Int32) 194 then some ((R1 0 (5 : Int32).toNatClampNeg), F1, (va_up R1 0 (upd (R1 0) (5 : Int32).toNatClampNeg a1))) else none else none).bind _).bind _ = _
      rw [if_pos i4, if_pos i4, cl_5, g2 0 (by decide), hn.2.2.2.2.2.2.2.1]; rfl
theorem sim_setReturning {p : Nat → Bool} {c k : Nat} {U : Nat → Int32} {V : Nat → Nat → Int32} {N : Nat → ns_T} {F : Nat → Int32} {R : Nat → Nat → Int32} (h : rl_s p c k U V N F R) (a1 : Int32) : ∃ (r : Int32) (c1 k1 : Nat) (U1 : Nat → Int32) (V1 : Nat → Nat → Int32) (N1 : Nat → ns_T) (F1 : Nat → Int32) (R1 : Nat → Nat → Int32), m4_setReturning c k U V N a1 = some (r, c1, k1, U1, V1, N1) ∧ m5_setReturning F R a1 = some (r, F1, R1) ∧ rl_s p c1 k1 U1 V1 N1 F1 R1 := by
  have h0 := h
  obtain ⟨hk, hc, hl, hh, -⟩ := h
  unfold m4_setReturning m5_setReturning
  rw [m4_isB, bd_s, m5_inE, bd_s]
  cases hx : decide ((0 : Int32) ≤ a1 ∧ a1 ≤ 1) with
  | false => exact ⟨-1, c, k, U, V, N, F, R, rfl, rfl, h0⟩
  | true =>
    obtain ⟨F1, R1, g0, g1, g2, g3⟩ := hs_note hk hc hl hh
    obtain ⟨j, hj, hja⟩ := in_01 (n := 1) (by decide) hx
    have ha : a1 = 0 ∨ a1 = 1 := by
      have : j = 0 ∨ j = 1 := by omega
      rcases this with rfl | rfl
      · exact Or.inl hja
      · exact Or.inr hja
    have hl1 : nt_ ((va_up R1 0 (upd (R1 0) 6 a1)) 0) (va_up (N 0).1 3 a1, (N 0).2) := by
      rw [va_up_self, g2 0 (by decide)]
      exact nt_set hl (Or.inr (Or.inr rfl)) (fun z => by cases z) (fun _ => ha)
    obtain ⟨i, F', R', Rr', o1, o2, o3, o4, o5⟩ := op_pass (F5 := F1) hl1
    refine ⟨nI i, cn_s c, kn_s k, U, V, va_up (va_up N (kn_s k + 1) (N 0)) 0 (F', R', (N 0).2.2), F1, Rr', ?_, ?_, rl_up h0 g1 g2 g3 o3 (fun _ _ => rfl) (fun j a b => by rw [o4 j a, va_up_ne _ _ a])⟩
    · have hif : (if a1 = (1 : Int32) then some (1 : Int32) else some (0 : Int32)) = some a1 := by
        rcases ha with rfl | rfl <;> rfl
      have h1 : a1 &&& 1 = a1 := by rcases ha with rfl | rfl <;> decide
      rw [if_neg (by decide), if_pos ⟨hk, hc, nt_1 hl⟩]
      rw [lt_rw, hif, bd_s]
      unfold m4_setReturning_J36
      rw [if_pos h1, lt_rw, va_up_self, ne_k]
      show ((m2_returnCalls (va_up (N 0).1 3 a1) (N 0).2.1 (N 0).2.2.1 (N 0).2.2.2).bind _) = _
      rw [o1, bd_s]
      show some (nI i, cn_s c, kn_s k, U, V, va_up (va_up (va_up N (kn_s k + 1) (N 0)) 0 (va_up (N 0).1 3 a1, (N 0).2)) 0 (F', R', (N 0).2.2)) = _
      rw [bx_uu]
    · rw [if_neg (by decide), g0, bd_s]
      show ((m5_pass F1 (va_up R1 0 (upd (R1 0) (6 : Int32).toNatClampNeg a1))).bind _) = _
      rw [cl_6, o2, bd_s]
