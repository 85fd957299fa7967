/-! SNAPSHOTS, THE BEGINNING -/
section SN
variable {p p' : Nat → Bool} {c k : Nat} {U : Nat → Int32} {V : Nat → Nat → Int32} {N : Nat → ns_T} {F : Nat → Int32} {R : Nat → Nat → Int32}
theorem in_2 {a : Nat} (ha : a < 2) : decide ((0 : Int32) ≤ nI a ∧ nI a ≤ 1) = true := by
  have : a = 0 ∨ a = 1 := by omega
  rcases this with rfl | rfl <;> decide
theorem save_rl (h : rl_s p c k U V N F R) {a : Nat} (ha : a < 2) (hp : p' (7 + a) = true) (hpo : ∀ i, i < 2 → i ≠ a → p' (7 + i) = p (7 + i)) : ∃ (r : Int32) (R2 : Nat → Nat → Int32), m5_save F R (nI a) = some (r, F, R2) ∧ m2_presentCalls (N 0).1 (N 0).2.1 (N 0).2.2.1 (N 0).2.2.2 = some r ∧ rl_s p' c k U V (va_up N (7 + a) (N 0)) F R2 := by
  obtain ⟨hk, hc, hl, hh, ht⟩ := h
  obtain ⟨r, c1, c2⟩ := nt_calls hl
  obtain ⟨R1, s1, s2, s3⟩ := r5_save (R := R) ha
  have i2 : inb (nI a) 2 := in_n ha (by decide)
  refine ⟨r, va_up R1 3 (upd (R1 3) a 1), ?_, c1, hk, hc, ?_, ⟨hh.1, fun t ht' => ?_, fun i hi => ?_⟩, tx_cg ht rfl ?_⟩
  · unfold m5_save m5_save_X44
    rw [m5_inE, bd_s, in_2 ha, if_neg (by decide), s1, bd_s, if_pos i2, nI_clamp (by omega)]
    have e : vp_nar .boolean (1 : Int32) = 1 := rfl
    rw [e, c2 F (va_up R1 3 (upd (R1 3) a 1)) (by rw [va_up_ne _ _ (by decide), s2 0 (by decide)]), bd_s]
  · rw [va_up_ne _ _ (by decide), s2 0 (by decide), va_up_ne _ _ (by omega)]; exact hl
  · rw [va_up_ne _ _ (by decide), s2 1 (by decide), va_up_ne _ _ (by omega)]; exact hh.2.1 t ht'
  · rw [va_up_self]
    by_cases q : i = a
    · rw [q, pk_us, hp, va_up_self]
      refine ⟨rfl, fun _ => nt_cg hl (fun j hj => ?_)⟩
      rw [va_up_ne _ _ (by decide), s3, if_pos (by omega), Nat.add_sub_cancel_left]
    · rw [pk_un q, s2 3 (by decide), hpo i hi q, va_up_ne N (N 0) (by omega : 7 + i ≠ 7 + a)]
      refine ⟨(hh.2.2 i hi).1, fun z => nt_cg ((hh.2.2 i hi).2 z) (fun j hj => ?_)⟩
      rw [va_up_ne _ _ (by decide), s3, if_neg (by omega)]
  · rw [va_up_ne _ _ (by decide), s2 4 (by decide)]
theorem rest_no (h : rl_s p c k U V N F R) {a : Nat} (ha : a < 2) (hp : p (7 + a) = false) : m5_restore F R (nI a) = some (-2, F, R) := by
  have i2 : inb (nI a) 2 := in_n ha (by decide)
  have e : R 3 (nI a).toNatClampNeg = 0 := by rw [nI_clamp (by omega), (h.2.2.2.1.2.2 a ha).1, hp]; rfl
  unfold m5_restore
  rw [m5_inE, bd_s, in_2 ha, if_neg (by decide), if_pos i2, if_pos e]
theorem rest_rl (h : rl_s p c k U V N F R) {a : Nat} (ha : a < 2) (hp : p (7 + a) = true) : ∃ (r : Int32) (R2 : Nat → Nat → Int32), m5_restore F R (nI a) = some (r, va_up F 2 0, R2) ∧ m2_presentCalls (N (7 + a)).1 (N (7 + a)).2.1 (N (7 + a)).2.2.1 (N (7 + a)).2.2.2 = some r ∧ nt_ (R2 0) (N (7 + a)) ∧ rl_s p 0 k U V (va_up N 0 (N (7 + a))) (va_up F 2 0) R2 := by
  obtain ⟨hk, hc, hl, hh, ht⟩ := h
  have hs := hh.2.2 a ha
  have hn := hs.2 hp
  obtain ⟨R1, s1, s2, s3⟩ := r5_rest (R := R) ha
  have hn2 : nt_ (R1 0) (N (7 + a)) := nt_cg hn (fun j hj => s3 j hj)
  obtain ⟨r, c1, c2⟩ := nt_calls hn2
  have i2 : inb (nI a) 2 := in_n ha (by decide)
  have e : ¬ R 3 (nI a).toNatClampNeg = 0 := by rw [nI_clamp (by omega), hs.1, hp]; decide
  refine ⟨r, R1, ?_, c1, hn2, hk, Nat.zero_le _, by rw [va_up_self]; exact hn2, ⟨va_up_self _ _ _, fun t ht' => absurd ht' (Nat.not_lt_zero t), fun i hi => ?_⟩, tx_cg ht (va_up_ne _ _ (by decide)) (s2 4 (by decide))⟩
  · unfold m5_restore m5_restore_X56
    rw [m5_inE, bd_s, in_2 ha, if_neg (by decide), if_pos i2, if_neg e, s1, bd_s, c2 _ R1 rfl, bd_s]
  · rw [s2 3 (by decide), s2 2 (by decide), va_up_ne _ _ (by omega)]; exact hh.2.2 i hi
end SN
theorem sim_save {p : Nat → Bool} {c k : Nat} {U : Nat → Int32} {V : Nat → Nat → Int32} {N : Nat → ns_T} {F : Nat → Int32} {R : Nat → Nat → Int32} (h : rl_s p c k U V N F R) (a1 : Int32) : (m4_isBetween a1 0 1 = some 0 ∧ ∃ (r : Int32) (c1 k1 : Nat) (U1 : Nat → Int32) (V1 : Nat → Nat → Int32) (N1 : Nat → ns_T) (F1 : Nat → Int32) (R1 : Nat → Nat → Int32), m4_saveE c k U V N a1 = some (r, c1, k1, U1, V1, N1) ∧ m5_save F R a1 = some (r, F1, R1) ∧ rl_s p c1 k1 U1 V1 N1 F1 R1) ∨ (a1 = 0 ∧ p 7 = false ∧ ∃ (r : Int32) (c1 k1 : Nat) (U1 : Nat → Int32) (V1 : Nat → Nat → Int32) (N1 : Nat → ns_T) (F1 : Nat → Int32) (R1 : Nat → Nat → Int32), m4_saveN0 c k U V N = some (r, c1, k1, U1, V1, N1) ∧ m5_save F R a1 = some (r, F1, R1) ∧ rl_s (va_up p 7 true) c1 k1 U1 V1 N1 F1 R1) ∨ (a1 = 0 ∧ p 7 = true ∧ ∃ (r : Int32) (c1 k1 : Nat) (U1 : Nat → Int32) (V1 : Nat → Nat → Int32) (N1 : Nat → ns_T) (F1 : Nat → Int32) (R1 : Nat → Nat → Int32), m4_saveS0 c k U V N = some (r, c1, k1, U1, V1, N1) ∧ m5_save F R a1 = some (r, F1, R1) ∧ rl_s p c1 k1 U1 V1 N1 F1 R1) ∨ (a1 = 1 ∧ p 8 = false ∧ ∃ (r : Int32) (c1 k1 : Nat) (U1 : Nat → Int32) (V1 : Nat → Nat → Int32) (N1 : Nat → ns_T) (F1 : Nat → Int32) (R1 : Nat → Nat → Int32), m4_saveN1 c k U V N = some (r, c1, k1, U1, V1, N1) ∧ m5_save F R a1 = some (r, F1, R1) ∧ rl_s (va_up p 8 true) c1 k1 U1 V1 N1 F1 R1) ∨ (a1 = 1 ∧ p 8 = true ∧ ∃ (r : Int32) (c1 k1 : Nat) (U1 : Nat → Int32) (V1 : Nat → Nat → Int32) (N1 : Nat → ns_T) (F1 : Nat → Int32) (R1 : Nat → Nat → Int32), m4_saveS1 c k U V N = some (r, c1, k1, U1, V1, N1) ∧ m5_save F R a1 = some (r, F1, R1) ∧ rl_s p c1 k1 U1 V1 N1 F1 R1) := by
  have hl := h.2.2.1
  cases hx : decide ((0 : Int32) ≤ a1 ∧ a1 ≤ 1) with
  | false =>
    refine Or.inl ⟨by rw [m4_isB, hx]; rfl, -1, c, k, U, V, N, F, R, rfl, ?_, h⟩
    unfold m5_save
    rw [m5_inE, bd_s, hx]; rfl
  | true =>
    obtain ⟨j, hj, rfl⟩ := in_01 (n := 1) (by decide) hx
    have : j = 0 ∨ j = 1 := by omega
    refine Or.inr ?_
    rcases this with rfl | rfl
    · cases hp : p 7 with
      | false =>
        obtain ⟨r, R2, s1, s2, s3⟩ := save_rl (p' := va_up p 7 true) h (a := 0) (by decide) (va_up_self _ _ _) (fun i hi h0 => va_up_ne _ _ (by omega))
        refine Or.inl ⟨rfl, rfl, r, c, k, U, V, va_up N 7 (N 0), F, R2, ?_, s1, s3⟩
        unfold m4_saveN0
        rw [lt_rw, va_up_ne _ _ (by decide), if_pos (nt_1 hl), lt_rw, bx_uu, va_up_ne _ _ (by decide), s2, bd_s]
      | true =>
        obtain ⟨r, R2, s1, s2, s3⟩ := save_rl (p' := p) h (a := 0) (by decide) hp (fun i hi h0 => rfl)
        refine Or.inr (Or.inl ⟨rfl, rfl, r, c, k, U, V, va_up N 7 (N 0), F, R2, ?_, s1, s3⟩)
        unfold m4_saveS0
        rw [if_pos (nt_1 hl), lt_rw, va_up_ne _ _ (by decide), s2, bd_s]
    · cases hp : p 8 with
      | false =>
        obtain ⟨r, R2, s1, s2, s3⟩ := save_rl (p' := va_up p 8 true) h (a := 1) (by decide) (va_up_self _ _ _) (fun i hi h0 => va_up_ne _ _ (by omega))
        refine Or.inr (Or.inr (Or.inl ⟨rfl, rfl, r, c, k, U, V, va_up N 8 (N 0), F, R2, ?_, s1, s3⟩))
        unfold m4_saveN1
        rw [lt_rw, va_up_ne _ _ (by decide), if_pos (nt_1 hl), lt_rw, bx_uu, va_up_ne _ _ (by decide), s2, bd_s]
      | true =>
        obtain ⟨r, R2, s1, s2, s3⟩ := save_rl (p' := p) h (a := 1) (by decide) hp (fun i hi h0 => rfl)
        refine Or.inr (Or.inr (Or.inr ⟨rfl, rfl, r, c, k, U, V, va_up N 8 (N 0), F, R2, ?_, s1, s3⟩))
        unfold m4_saveS1
        rw [if_pos (nt_1 hl), lt_rw, va_up_ne _ _ (by decide), s2, bd_s]
theorem sim_restore {p : Nat → Bool} {c k : Nat} {U : Nat → Int32} {V : Nat → Nat → Int32} {N : Nat → ns_T} {F : Nat → Int32} {R : Nat → Nat → Int32} (h : rl_s p c k U V N F R) (a1 : Int32) : (m4_isBetween a1 0 1 = some 0 ∧ ∃ (r : Int32) (c1 k1 : Nat) (U1 : Nat → Int32) (V1 : Nat → Nat → Int32) (N1 : Nat → ns_T) (F1 : Nat → Int32) (R1 : Nat → Nat → Int32), m4_restoreE c k U V N a1 = some (r, c1, k1, U1, V1, N1) ∧ m5_restore F R a1 = some (r, F1, R1) ∧ rl_s p c1 k1 U1 V1 N1 F1 R1) ∨ (a1 = 0 ∧ p 7 = false ∧ ∃ (r : Int32) (c1 k1 : Nat) (U1 : Nat → Int32) (V1 : Nat → Nat → Int32) (N1 : Nat → ns_T) (F1 : Nat → Int32) (R1 : Nat → Nat → Int32), m4_restoreN0 c k U V N = some (r, c1, k1, U1, V1, N1) ∧ m5_restore F R a1 = some (r, F1, R1) ∧ rl_s p c1 k1 U1 V1 N1 F1 R1) ∨ (a1 = 0 ∧ p 7 = true ∧ ∃ (r : Int32) (c1 k1 : Nat) (U1 : Nat → Int32) (V1 : Nat → Nat → Int32) (N1 : Nat → ns_T) (F1 : Nat → Int32) (R1 : Nat → Nat → Int32), m4_restoreS0 c k U V N = some (r, c1, k1, U1, V1, N1) ∧ m5_restore F R a1 = some (r, F1, R1) ∧ rl_s p c1 k1 U1 V1 N1 F1 R1) ∨ (a1 = 1 ∧ p 8 = false ∧ ∃ (r : Int32) (c1 k1 : Nat) (U1 : Nat → Int32) (V1 : Nat → Nat → Int32) (N1 : Nat → ns_T) (F1 : Nat → Int32) (R1 : Nat → Nat → Int32), m4_restoreN1 c k U V N = some (r, c1, k1, U1, V1, N1) ∧ m5_restore F R a1 = some (r, F1, R1) ∧ rl_s p c1 k1 U1 V1 N1 F1 R1) ∨ (a1 = 1 ∧ p 8 = true ∧ ∃ (r : Int32) (c1 k1 : Nat) (U1 : Nat → Int32) (V1 : Nat → Nat → Int32) (N1 : Nat → ns_T) (F1 : Nat → Int32) (R1 : Nat → Nat → Int32), m4_restoreS1 c k U V N = some (r, c1, k1, U1, V1, N1) ∧ m5_restore F R a1 = some (r, F1, R1) ∧ rl_s p c1 k1 U1 V1 N1 F1 R1) := by
  cases hx : decide ((0 : Int32) ≤ a1 ∧ a1 ≤ 1) with
  | false =>
    refine Or.inl ⟨by rw [m4_isB, hx]; rfl, -1, c, k, U, V, N, F, R, rfl, ?_, h⟩
    unfold m5_restore
    rw [m5_inE, bd_s, hx]; rfl
  | true =>
    obtain ⟨j, hj, rfl⟩ := in_01 (n := 1) (by decide) hx
    have : j = 0 ∨ j = 1 := by omega
    refine Or.inr ?_
    rcases this with rfl | rfl
    · cases hp : p 7 with
      | false => exact Or.inl ⟨rfl, rfl, -2, c, k, U, V, N, F, R, rfl, rest_no h (a := 0) (by decide) hp, h⟩
      | true =>
        obtain ⟨r, R2, s1, s2, s3, s4⟩ := rest_rl h (a := 0) (by decide) hp
        refine Or.inr (Or.inl ⟨rfl, rfl, r, 0, k, U, V, va_up N 0 (N 7), va_up F 2 0, R2, ?_, s1, s4⟩)
        unfold m4_restoreS0
        rw [if_pos (nt_1 s3), lt_rw, va_up_self]
        show (m2_presentCalls (N (7 + 0)).1 (N (7 + 0)).2.1 (N (7 + 0)).2.2.1 (N (7 + 0)).2.2.2).bind _ = _
        rw [s2, bd_s]
    · cases hp : p 8 with
      | false => exact Or.inr (Or.inr (Or.inl ⟨rfl, rfl, -2, c, k, U, V, N, F, R, rfl, rest_no h (a := 1) (by decide) hp, h⟩))
      | true =>
        obtain ⟨r, R2, s1, s2, s3, s4⟩ := rest_rl h (a := 1) (by decide) hp
        refine Or.inr (Or.inr (Or.inr ⟨rfl, rfl, r, 0, k, U, V, va_up N 0 (N 8), va_up F 2 0, R2, ?_, s1, s4⟩))
        unfold m4_restoreS1
        rw [if_pos (nt_1 s3), lt_rw, va_up_self]
        show (m2_presentCalls (N (7 + 1)).1 (N (7 + 1)).2.1 (N (7 + 1)).2.2.1 (N (7 + 1)).2.2.2).bind _ = _
        rw [s2, bd_s]
theorem sim_init : ∃ (G : Nat → Int32) (Q : Nat → Nat → Int32) (F : Nat → Int32) (R : Nat → Nat → Int32), m1_init z_F z_R 3 4 2 2 = some (G, Q) ∧ m5_init z_F z_R = some (F, R) ∧ rl_s p_0 0 0 z_F z_R (N_0 G Q) F R := by
  obtain ⟨G, Q, i1, i2⟩ := la_init (rw := 3) (cl := 4) (ru := 2) (sz := 2) ⟨by decide, by decide, by decide, by decide, Or.inl rfl, by decide, by decide⟩ z_F z_R
  refine ⟨G, Q, z_F, va_up z_R 0 (upd (upd (upd (upd (upd (z_R 0) 0 3) 1 4) 2 2) 3 2) 6 1), i1, ?_, by decide, by decide, ?_, ⟨rfl, fun t ht => absurd ht (Nat.not_lt_zero t), fun i hi => ⟨?_, fun z => by cases z⟩⟩, 0, by decide, rfl, rfl, fun j hj => absurd hj (Nat.not_lt_zero j)⟩
  · unfold m5_init
    simp only [bx_uu, va_up_self, cl_0, cl_1, cl_2, cl_3, cl_6]
  · rw [va_up_self]
    refine nt_new (rw := 3) (cl := 4) (ru := 2) (sz := 2) ⟨by decide, by decide, by decide, by decide, Or.inl rfl, by decide, by decide⟩ i2 ⟨rfl, rfl, rfl, rfl⟩ (fun i a b => ?_) ⟨rfl, rfl, rfl⟩ (Or.inr rfl) (by decide) (fun i hi => ?_)
    · rw [pk_un (by omega), pk_un (by omega), pk_un (by omega), pk_un (by omega), pk_un (by omega)]; rfl
    · show nb_F ni_F (4 + i) = 0
      unfold nb_F; rw [if_neg (by omega)]
  · rw [va_up_ne _ _ (by decide)]; rfl
