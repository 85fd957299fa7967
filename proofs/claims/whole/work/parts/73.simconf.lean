/-! CONFIGURE, UNDO, SNAPSHOTS, THE BEGINNING -/
theorem pt_4 {s : Nat → Int32} {a b d e : Int32} : (upd (upd (upd (upd s 0 a) 1 b) 2 d) 3 e) 0 = a ∧ (upd (upd (upd (upd s 0 a) 1 b) 2 d) 3 e) 1 = b ∧ (upd (upd (upd (upd s 0 a) 1 b) 2 d) 3 e) 2 = d ∧ (upd (upd (upd (upd s 0 a) 1 b) 2 d) 3 e) 3 = e ∧ ∀ i, 4 ≤ i → (upd (upd (upd (upd s 0 a) 1 b) 2 d) 3 e) i = s i := by
  refine ⟨?_, ?_, ?_, ?_, fun i hi => ?_⟩
  · rw [pk_un (by decide), pk_un (by decide), pk_un (by decide), pk_us]
  · rw [pk_un (by decide), pk_un (by decide), pk_us]
  · rw [pk_un (by decide), pk_us]
  · rw [pk_us]
  · rw [pk_un (by omega), pk_un (by omega), pk_un (by omega), pk_un (by omega)]
section CO
variable {F : Nat → Int32} {R : Nat → Nat → Int32}
theorem r5_zero : ∃ R', wh (m5_configure_L47) 2000 ((7 : Int32), R) = some R' ∧ (∀ j, j ≠ 0 → R' j = R j) ∧ ∀ i, R' 0 i = if 7 ≤ i ∧ i < 194 then 0 else R 0 i := by
  obtain ⟨R', h, hw⟩ := wh_iv (b := m5_configure_L47) (t0 := ((7 : Int32), R)) (fun i t => t.1 = nI (7 + i) ∧ (∀ j, j ≠ 0 → t.2 j = R j) ∧ ∀ x, t.2 0 x = if 7 ≤ x ∧ x < 7 + i then 0 else R 0 x) (fun T => (∀ j, j ≠ 0 → T j = R j) ∧ ∀ x, T 0 x = if 7 ≤ x ∧ x < 194 then 0 else R 0 x) 187 (by decide) ⟨rfl, fun _ _ => rfl, fun x => by rw [if_neg (by omega)]⟩ (fun i t hi ht => by
      obtain ⟨t1, t2⟩ := t
      obtain ⟨h1, h2, h3⟩ := ht
      dsimp only at h1 h2 h3
      subst h1
      have e1 : ¬ (194 : Int32) ≤ nI (7 + i) := nI_ge (b := 194) (by omega) (by decide)
      have e2 : inb (nI (7 + i)) 194 := in_n (by omega) (by decide)
      refine Or.inl ⟨(nI (7 + (i + 1)), va_up t2 0 (upd (t2 0) (7 + i) 0)), ⟨rfl, fun j hj => ?_, fun x => ?_⟩, fun kk => ?_⟩
      · dsimp only
        rw [va_up_ne _ _ hj]; exact h2 j hj
      · dsimp only
        rw [va_up_self]
        by_cases q : x = 7 + i
        · rw [q, pk_us, if_pos (by omega)]
        · rw [pk_un q, h3 x]
          by_cases g : 7 ≤ x ∧ x < 7 + i
          · rw [if_pos g, if_pos (by omega)]
          · rw [if_neg g, if_neg (by omega)]
      · unfold m5_configure_L47
        dsimp only
        rw [if_neg e1, if_pos e2, nI_clamp (by omega), nI_1]
        rfl) (fun t ht => by
      obtain ⟨t1, t2⟩ := t
      obtain ⟨h1, h2⟩ := ht
      dsimp only at h1 h2
      subst h1
      exact ⟨t2, h2, fun kk => rfl⟩)
  exact ⟨R', hw, h.1, h.2⟩
theorem r5_undo {c0 : Nat} (hc : c0 < 6) (hF : F 2 = nI (c0 + 1)) : ∃ R', m5_undo F R = some (nI c0, va_up F 2 (nI c0), R') ∧ (∀ j, j ≠ 0 → R' j = R j) ∧ ∀ i, i < 194 → R' 0 i = R 1 (194 * c0 + i) := by
  have hf2 : F 2 - 1 = nI c0 := by rw [hF, nI_pred]
  obtain ⟨R', h, hw⟩ := wh_iv (b := m5_undo_L22 F) (t0 := ((0 : Int32), R)) (fun i t => t.1 = nI i ∧ (∀ j, j ≠ 0 → t.2 j = R j) ∧ ∀ x, x < i → t.2 0 x = R 1 (194 * c0 + x)) (fun T => (∀ j, j ≠ 0 → T j = R j) ∧ ∀ x, x < 194 → T 0 x = R 1 (194 * c0 + x)) 194 (by decide) ⟨rfl, fun _ _ => rfl, fun x hx => absurd hx (Nat.not_lt_zero x)⟩ (fun i t hi ht => by
      obtain ⟨t1, t2⟩ := t
      obtain ⟨h1, h2, h3⟩ := ht
      dsimp only at h1 h2 h3
      subst h1
      have e1 : ¬ (194 : Int32) ≤ nI i := nI_ge (b := 194) hi (by decide)
      have e2 : inb (nI i) 194 := in_n hi (by decide)
      have e0 : ((194 : Int32) * ((va_up F 2 ((F 2) - (1 : Int32))) 2)) + nI i = nI (194 * c0 + i) := by rw [va_up_self, hf2, show (194 : Int32) = nI 194 from rfl, pk_mul, nI_add]
      have e3 : inb (nI (194 * c0 + i)) 1164 := in_n (by omega) (by decide)
      refine Or.inl ⟨(nI (i + 1), va_up t2 0 (upd (t2 0) i (R 1 (194 * c0 + i)))), ⟨rfl, fun j hj => ?_, fun x hx => ?_⟩, fun kk => ?_⟩
      · dsimp only
        rw [va_up_ne _ _ hj]; exact h2 j hj
      · dsimp only
        rw [va_up_self]
        by_cases q : x = i
        · rw [q, pk_us]
        · rw [pk_un q]; exact h3 x (by omega)
      · unfold m5_undo_L22
        dsimp only
        rw [e0, if_neg e1, if_pos e3, if_pos e2, nI_clamp (by omega), nI_clamp (by omega), nI_1, h2 1 (by decide)]) (fun t ht => by
      obtain ⟨t1, t2⟩ := t
      obtain ⟨h1, h2⟩ := ht
      dsimp only at h1 h2
      subst h1
      exact ⟨t2, h2, fun kk => rfl⟩)
  refine ⟨R', ?_, h.1, h.2⟩
  unfold m5_undo m5_undo_X56
  rw [hw, bd_s, hf2, if_neg (by rw [hF]; exact nI_ne0 (by omega) (by omega)), va_up_self]
theorem r5_save {a : Nat} (ha : a < 2) : ∃ R', wh (m5_save_L13 (nI a)) 2000 ((0 : Int32), R) = some R' ∧ (∀ j, j ≠ 2 → R' j = R j) ∧ ∀ i, R' 2 i = if 194 * a ≤ i ∧ i < 194 * a + 194 then R 0 (i - 194 * a) else R 2 i := by
  obtain ⟨R', h, hw⟩ := wh_iv (b := m5_save_L13 (nI a)) (t0 := ((0 : Int32), R)) (fun i t => t.1 = nI i ∧ (∀ j, j ≠ 2 → t.2 j = R j) ∧ ∀ x, t.2 2 x = if 194 * a ≤ x ∧ x < 194 * a + i then R 0 (x - 194 * a) else R 2 x) (fun T => (∀ j, j ≠ 2 → T j = R j) ∧ ∀ x, T 2 x = if 194 * a ≤ x ∧ x < 194 * a + 194 then R 0 (x - 194 * a) else R 2 x) 194 (by decide) ⟨rfl, fun _ _ => rfl, fun x => by rw [if_neg (by omega)]⟩ (fun i t hi ht => by
      obtain ⟨t1, t2⟩ := t
      obtain ⟨h1, h2, h3⟩ := ht
      dsimp only at h1 h2 h3
      subst h1
      have e1 : ¬ (194 : Int32) ≤ nI i := nI_ge (b := 194) hi (by decide)
      have e2 : inb (nI i) 194 := in_n hi (by decide)
      have e0 : ((194 : Int32) * nI a) + nI i = nI (194 * a + i) := by rw [show (194 : Int32) = nI 194 from rfl, pk_mul, nI_add]
      have e3 : inb (nI (194 * a + i)) 388 := in_n (by omega) (by decide)
      refine Or.inl ⟨(nI (i + 1), va_up t2 2 (upd (t2 2) (194 * a + i) (R 0 i))), ⟨rfl, fun j hj => ?_, fun x => ?_⟩, fun kk => ?_⟩
      · dsimp only
        rw [va_up_ne _ _ hj]; exact h2 j hj
      · dsimp only
        rw [va_up_self]
        by_cases q : x = 194 * a + i
        · rw [q, pk_us, if_pos (by omega), Nat.add_sub_cancel_left]
        · rw [pk_un q, h3 x]
          by_cases g : 194 * a ≤ x ∧ x < 194 * a + i
          · rw [if_pos g, if_pos (by omega)]
          · rw [if_neg g, if_neg (by omega)]
      · unfold m5_save_L13
        dsimp only
        rw [e0, if_neg e1, if_pos e2, if_pos e3, nI_clamp (by omega), nI_clamp (by omega), nI_1, h2 0 (by decide)]) (fun t ht => by
      obtain ⟨t1, t2⟩ := t
      obtain ⟨h1, h2⟩ := ht
      dsimp only at h1 h2
      subst h1
      exact ⟨t2, h2, fun kk => rfl⟩)
  exact ⟨R', hw, h.1, h.2⟩
theorem r5_rest {a : Nat} (ha : a < 2) : ∃ R', wh (m5_restore_L25 (nI a)) 2000 ((0 : Int32), R) = some R' ∧ (∀ j, j ≠ 0 → R' j = R j) ∧ ∀ i, i < 194 → R' 0 i = R 2 (194 * a + i) := by
  obtain ⟨R', h, hw⟩ := wh_iv (b := m5_restore_L25 (nI a)) (t0 := ((0 : Int32), R)) (fun i t => t.1 = nI i ∧ (∀ j, j ≠ 0 → t.2 j = R j) ∧ ∀ x, x < i → t.2 0 x = R 2 (194 * a + x)) (fun T => (∀ j, j ≠ 0 → T j = R j) ∧ ∀ x, x < 194 → T 0 x = R 2 (194 * a + x)) 194 (by decide) ⟨rfl, fun _ _ => rfl, fun x hx => absurd hx (Nat.not_lt_zero x)⟩ (fun i t hi ht => by
      obtain ⟨t1, t2⟩ := t
      obtain ⟨h1, h2, h3⟩ := ht
      dsimp only at h1 h2 h3
      subst h1
      have e1 : ¬ (194 : Int32) ≤ nI i := nI_ge (b := 194) hi (by decide)
      have e2 : inb (nI i) 194 := in_n hi (by decide)
      have e0 : ((194 : Int32) * nI a) + nI i = nI (194 * a + i) := by rw [show (194 : Int32) = nI 194 from rfl, pk_mul, nI_add]
      have e3 : inb (nI (194 * a + i)) 388 := in_n (by omega) (by decide)
      refine Or.inl ⟨(nI (i + 1), va_up t2 0 (upd (t2 0) i (R 2 (194 * a + i)))), ⟨rfl, fun j hj => ?_, fun x hx => ?_⟩, fun kk => ?_⟩
      · dsimp only
        rw [va_up_ne _ _ hj]; exact h2 j hj
      · dsimp only
        rw [va_up_self]
        by_cases q : x = i
        · rw [q, pk_us]
        · rw [pk_un q]; exact h3 x (by omega)
      · unfold m5_restore_L25
        dsimp only
        rw [e0, if_neg e1, if_pos e3, if_pos e2, nI_clamp (by omega), nI_clamp (by omega), nI_1, h2 2 (by decide)]) (fun t ht => by
      obtain ⟨t1, t2⟩ := t
      obtain ⟨h1, h2⟩ := ht
      dsimp only at h1 h2
      subst h1
      exact ⟨t2, h2, fun kk => rfl⟩)
  exact ⟨R', hw, h.1, h.2⟩
end CO
theorem nt_calls {s : Nat → Int32} {n : ns_T} (h : nt_ s n) : ∃ r : Int32, m2_presentCalls n.1 n.2.1 n.2.2.1 n.2.2.2 = some r ∧ ∀ (F : Nat → Int32) (R : Nat → Nat → Int32), R 0 = s → m5_calls F R = some r := by
  obtain ⟨rw, cl, ru, sz, X, Y, Z, hn, hcn⟩ := h
  exact ⟨_, p2_presentCalls hn, fun F R hR => r5_calls (by rw [hR]; exact hn.2.1)⟩
theorem sim_configure {p : Nat → Bool} {c k : Nat} {U : Nat → Int32} {V : Nat → Nat → Int32} {N : Nat → ns_T} {F : Nat → Int32} {R : Nat → Nat → Int32} (h : rl_s p c k U V N F R) (a1 : Int32) (a2 : Int32) (a3 : Int32) (a4 : Int32) : ∃ (r : Int32) (c1 k1 : Nat) (U1 : Nat → Int32) (V1 : Nat → Nat → Int32) (N1 : Nat → ns_T) (F1 : Nat → Int32) (R1 : Nat → Nat → Int32), m4_configure c k U V N a1 a2 a3 a4 = some (r, c1, k1, U1, V1, N1) ∧ m5_configure F R a1 a2 a3 a4 = some (r, F1, R1) ∧ rl_s p c1 k1 U1 V1 N1 F1 R1 := by
  have h0 := h
  obtain ⟨hk, hc, hl, hh, ht⟩ := h
  unfold m4_configure m5_configure
  have hbt : ¬ bi true = 0 := by decide
  simp only [m4_isB, m5_inE, bd_s]
  cases x1 : decide ((1 : Int32) ≤ a1 ∧ a1 ≤ 5) with
  | false => exact ⟨-1, c, k, U, V, N, F, R, rfl, rfl, h0⟩
  | true =>
    rw [if_neg hbt, if_neg hbt]
    cases x2 : decide ((1 : Int32) ≤ a2 ∧ a2 ≤ 5) with
    | false => exact ⟨-1, c, k, U, V, N, F, R, rfl, rfl, h0⟩
    | true =>
      rw [if_neg hbt, if_neg hbt]
      cases x3 : decide ((2 : Int32) ≤ a3 ∧ a3 ≤ 3) with
      | false => exact ⟨-1, c, k, U, V, N, F, R, rfl, rfl, h0⟩
      | true =>
        rw [if_neg hbt, if_neg hbt]
        cases x4 : decide ((1 : Int32) ≤ a4 ∧ a4 ≤ 4) with
        | false => exact ⟨-1, c, k, U, V, N, F, R, rfl, rfl, h0⟩
        | true =>
          obtain ⟨rw, r1, r2, rfl⟩ := in_r (lo := 1) (hi := 5) (by decide) (by decide) x1
          obtain ⟨cl, c1, c2, rfl⟩ := in_r (lo := 1) (hi := 5) (by decide) (by decide) x2
          obtain ⟨ru, u1, u2, rfl⟩ := in_r (lo := 2) (hi := 3) (by decide) (by decide) x3
          obtain ⟨sz, s1, s2, rfl⟩ := in_r (lo := 1) (hi := 4) (by decide) (by decide) x4
          have hf : cf_ok rw cl ru sz := ⟨r1, r2, c1, c2, by omega, s1, s2⟩
          obtain ⟨F1, R1, g0, g1, g2, g3⟩ := hs_note hk hc hl hh
          obtain ⟨G, Q, i1, i2⟩ := la_init hf z_F z_R
          obtain ⟨R2, z1, z2, z3⟩ := r5_zero (R := R1)
          have hlo : ∀ i, i < 7 → R2 0 i = R 0 i := fun i hi => by rw [z3, if_neg (by omega), g2 0 (by decide)]
          obtain ⟨q0, q1, q2, q3, q4⟩ := pt_4 (s := R2 0) (a := nI rw) (b := nI cl) (d := nI ru) (e := nI sz)
          obtain ⟨rw', cl', ru', sz', X, Y, Z, ⟨-, -, -, -, -, -, n7, n8, n9', n10, n11⟩, -⟩ := hl
          have hnew : nt_ (upd (upd (upd (upd (R2 0) 0 (nI rw)) 1 (nI cl)) 2 (nI ru)) 3 (nI sz)) (nb_F (N 0).1, nb_R, G, Q) := by
            refine nt_new hf i2 ⟨q0, q1, q2, q3⟩ (fun i a b => by rw [q4 i (by omega), z3, if_pos ⟨a, b⟩]) ⟨?_, ?_, ?_⟩ ?_ ?_ (fun i hi => ?_)
            · rw [q4 4 (by decide), hlo 4 (by decide)]; exact n7
            · rw [q4 5 (by decide), hlo 5 (by decide)]; exact n8
            · rw [q4 6 (by decide), hlo 6 (by decide)]; exact n9'
            · rw [q4 6 (by decide), hlo 6 (by decide)]; exact n10
            · rw [q4 5 (by decide), hlo 5 (by decide)]; exact n11
            · show nb_F (N 0).1 (4 + i) = 0
              unfold nb_F; rw [if_neg (by omega)]
          refine ⟨nI (gs ru * sz), cn_s c, kn_s k, U, V, va_up (va_up N (kn_s k + 1) (N 0)) 0 (nb_F (N 0).1, nb_R, G, Q), F1, va_up R2 0 (upd (upd (upd (upd (R2 0) 0 (nI rw)) 1 (nI cl)) 2 (nI ru)) 3 (nI sz)), ?_, ?_, rl_up h0 g1 g2 g3 (by rw [va_up_self]; exact hnew) (fun _ _ => rfl) (fun j a b => by rw [va_up_ne _ _ a, z2 j a])⟩
          · rw [if_neg hbt, bd_s]
            unfold m4_configure_J42
            rw [if_neg (by decide), if_pos ⟨hk, hc, nt_1 h0.2.2.1⟩, lt_rw, i1, bd_s]
            show lt_ (va_up (va_up N (kn_s k + 1) (N 0)) 0 (nb_F ((va_up N (kn_s k + 1) (N 0)) 0).1, nb_R, G, Q)) _ = _
            rw [lt_rw, ne_k, va_up_self]
            show some (G 1, _) = _
            rw [i2.2.1]
          · rw [if_neg hbt, g0, bd_s]
            show ((wh (m5_configure_L47) 2000 ((7 : Int32), R1)).bind _) = _
            rw [z1, bd_s]
            unfold m5_configure_X69
            simp only [bx_uu, va_up_self, cl_0, cl_1, cl_2, cl_3]
            rw [r5_channels (rw := rw) (cl := cl) (ru := ru) (sz := sz) (by rw [va_up_self]; exact ⟨hf, q0, q1, q2, q3⟩), bd_s]
theorem sim_undo {p : Nat → Bool} {c k : Nat} {U : Nat → Int32} {V : Nat → Nat → Int32} {N : Nat → ns_T} {F : Nat → Int32} {R : Nat → Nat → Int32} (h : rl_s p c k U V N F R) : (c = 0 ∧ ∃ (r : Int32) (c1 k1 : Nat) (U1 : Nat → Int32) (V1 : Nat → Nat → Int32) (N1 : Nat → ns_T) (F1 : Nat → Int32) (R1 : Nat → Nat → Int32), m4_undo0 k U V N = some (r, c1, k1, U1, V1, N1) ∧ m5_undo F R = some (r, F1, R1) ∧ rl_s p c1 k1 U1 V1 N1 F1 R1) ∨ (∃ c0, c = c0 + 1 ∧ ∃ (r : Int32) (c1 k1 : Nat) (U1 : Nat → Int32) (V1 : Nat → Nat → Int32) (N1 : Nat → ns_T) (F1 : Nat → Int32) (R1 : Nat → Nat → Int32), m4_undo1 c0 k U V N = some (r, c1, k1, U1, V1, N1) ∧ m5_undo F R = some (r, F1, R1) ∧ rl_s p c1 k1 U1 V1 N1 F1 R1) := by
  have h0 := h
  obtain ⟨hk, hc, hl, hh, ht⟩ := h
  cases c with
  | zero =>
    refine Or.inl ⟨rfl, -2, 0, k, U, V, N, F, R, ?_, ?_, h0⟩
    · unfold m4_undo0; rw [if_pos hk]
    · unfold m5_undo; rw [if_pos (by rw [hh.1]; rfl)]
  | succ c0 =>
    obtain ⟨R', u1, u2, u3⟩ := r5_undo (F := F) (R := R) (c0 := c0) (by omega) hh.1
    have hg := hh.2.1 c0 (by omega)
    rw [show (k + 6 - (c0 + 1 - 1 - c0)) % 6 + 1 = k + 1 by omega] at hg
    refine Or.inr ⟨c0, rfl, nI c0, c0, kp_s k, U, V, va_up N 0 (N (k + 1)), va_up F 2 (nI c0), R', ?_, u1, ?_, by omega, ?_, ⟨va_up_self _ _ _, fun t ht' => ?_, fun i hi => ?_⟩, tx_cg ht (va_up_ne _ _ (by decide)) (u2 4 (by decide))⟩
    · unfold m4_undo1
      rw [if_pos ⟨hk, by omega, nt_1 hg⟩, lt_rw]
    · unfold kp_s; split <;> omega
    · rw [va_up_self]; exact nt_cg hg (fun j hj => u3 j hj)
    · have e : (kp_s k + 6 - (c0 - 1 - t)) % 6 + 1 = (k + 6 - (c0 + 1 - 1 - t)) % 6 + 1 := by
        have : kp_s k % 6 = (k + 5) % 6 ∧ kp_s k < 6 := by unfold kp_s; split <;> omega
        omega
      rw [u2 1 (by decide), e, va_up_ne _ _ (by omega)]
      exact hh.2.1 t (by omega)
    · rw [u2 2 (by decide), u2 3 (by decide), va_up_ne _ _ (by omega)]
      exact hh.2.2 i hi
