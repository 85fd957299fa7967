/-! THE CALLS OF THE TOP CLASS -/
theorem cn_all {p : Nat → Bool} : ∀ {n : Nat}, (∀ k, k < n → p k = true) → cn p n = n
  | 0, _ => rfl
  | n + 1, h => by rw [cn, cn_all (fun k hk => h k (by omega)), h n (by omega)]; rfl
theorem fr_cls (X : Nat → Nat) : fr_ X < 60 ↔ cls X ≠ 60 := by
  constructor
  · intro h
    have h2 : decide (X (fr_ X) = 0) = true := fi_yes _ _ h
    have h3 : cls X < 60 := cn_lt (c := fr_ X) (by rw [of_decide_eq_true h2]; rfl) h
    omega
  · intro h
    have hle : fr_ X ≤ 60 := fi_le _ _
    by_cases q : fr_ X < 60
    · exact q
    · exact absurd (cn_all (fun k hk => by
        have := fi_none (show fr_ X = 60 by omega) k hk
        rw [decide_eq_true (of_decide_eq_false this)])) h
theorem in_r {x : Int32} {lo hi : Nat} (hhi : hi < 1000) (hlo : lo ≤ hi) (h : decide (nI lo ≤ x ∧ x ≤ nI hi) = true) : ∃ j, lo ≤ j ∧ j ≤ hi ∧ x = nI j := by
  have h1 := of_decide_eq_true h
  rw [Int32.le_iff_toInt_le, Int32.le_iff_toInt_le, nI_toInt (by omega), nI_toInt (by omega)] at h1
  refine ⟨x.toInt.toNat, by omega, by omega, Int32.toInt_inj.mp ?_⟩
  rw [nI_toInt (by omega)]
  omega
section ER
variable {rw cl ru sz : Nat} {F F5 : Nat → Int32} {R Rr : Nat → Nat → Int32} {G : Nat → Int32} {Q : Nat → Nat → Int32} {X Y : Nat → Nat} {Z : Nat → Bool}
theorem err_s (h : nr_c rw cl ru sz X Y Z (Rr 0) F R G Q) (x : Int32) : ∃ e : Int32, m2_startError F R G Q x = some e ∧ (e = 0 → (∃ c, c < rw * cl ∧ x = nI c) ∧ fr_ X < 60 ∧ ∀ z, m5_isError F5 Rr 0 x z = some 0) ∧ (e ≠ 0 → ∀ z, m5_isError F5 Rr 0 x z = some 1 ∧ m5_errorOf F5 Rr 0 x z = some e) := by
  have hce := cf_ce h.1.1
  have hcl : cls X ≤ 60 := cn_le _ _
  have hie : ∀ z, m5_isError F5 Rr 0 x z = (m5_isCell F5 Rr x).bind fun v16 => (if v16 = 0 then some (1 : Int32) else (m5_calls F5 Rr).bind fun v21 => if v21 = (60 : Int32) then some (1 : Int32) else some (0 : Int32)).bind fun v17 => m5_isError_J26 v17 := fun z => by
    unfold m5_isError; rw [if_pos rfl]
  have hoe : ∀ z, m5_errorOf F5 Rr 0 x z = ((m5_isCell F5 Rr x).bind fun v8 => if v8 = 0 then some (-1 : Int32) else some (-3 : Int32)).bind fun v1 => m5_errorOf_J35 v1 := fun z => by
    unfold m5_errorOf; rw [if_pos rfl]
  simp only [hie, hoe]
  unfold m2_startError
  rw [p1_hasCell h, bd_s, r5_isCell h.1, bd_s, bd_s, r5_calls h.2.1, p2_free h]
  cases hx : isC (rw * cl) x with
  | false => exact ⟨-1, rfl, fun z => absurd z (by decide), fun _ _ => ⟨rfl, rfl⟩⟩
  | true =>
    obtain ⟨c, hc, rfl⟩ := isC_t (by omega) hx
    rw [if_neg (by decide), if_neg (by decide), if_neg (by decide), bd_s, bd_s]
    by_cases q : fr_ X < 60
    · have hn : ¬ nI (cls X) = 60 := fun z => (fr_cls X).mp q ((nI_eq (b := 60) (by omega) (by decide)).mp z)
      refine ⟨0, ?_, fun _ => ⟨⟨c, hc, rfl⟩, q, fun z => ?_⟩, fun z => absurd rfl z⟩
      · unfold nv; rw [if_pos q, if_neg (n9 (by omega))]; rfl
      · rw [if_neg hn]; rfl
    · have hn : cls X = 60 := Decidable.not_not.mp (fun z => q ((fr_cls X).mpr z))
      refine ⟨-3, ?_, fun z => absurd z (by decide), fun _ z => ⟨?_, rfl⟩⟩
      · unfold nv; rw [if_neg q, if_pos rfl]; rfl
      · rw [hn, if_pos (by decide)]; rfl
theorem err_e (h : nr_c rw cl ru sz X Y Z (Rr 0) F R G Q) (x z : Int32) : m5_isError F5 Rr 1 x z = some (bi (!ic_ X x)) ∧ (ic_ X x = false → m5_errorOf F5 Rr 1 x z = some (-4)) := by
  unfold m5_isError m5_errorOf
  rw [if_neg (by decide), if_neg (by decide), r5_isCall h.2.1, bd_s, bd_s]
  cases hx : ic_ X x with
  | false => exact ⟨rfl, fun _ => rfl⟩
  | true => exact ⟨rfl, fun z => by cases z⟩
theorem err_m (h : nr_c rw cl ru sz X Y Z (Rr 0) F R G Q) (x y : Int32) : ∃ e : Int32, m2_moveError F R G Q x y = some e ∧ (e = 0 → ∃ k c, k < 60 ∧ x = nI k ∧ X k ≠ 0 ∧ c < rw * cl ∧ y = nI c ∧ m5_isError F5 Rr 2 x y = some 0) ∧ (e ≠ 0 → m5_isError F5 Rr 2 x y = some 1 ∧ m5_errorOf F5 Rr 2 x y = some e) := by
  have hce := cf_ce h.1.1
  unfold m2_moveError m5_isError m5_errorOf
  have h20 : ¬ (2 : Int32) = 0 := by decide
  have hbt : ¬ bi true = 0 := by decide
  rw [if_neg h20, if_neg h20, p2_present h, bd_s, r5_isCall h.2.1, bd_s, bd_s, p1_hasCell h, r5_isCell h.1]
  cases hx : ic_ X x with
  | false => exact ⟨-4, rfl, fun z => absurd z (by decide), fun _ => ⟨rfl, rfl⟩⟩
  | true =>
    obtain ⟨k, hk, rfl, hX⟩ := ic_t hx
    obtain ⟨e1, e2, -⟩ := cl_74 hk
    have i2 : inb (nI k) 60 := in_n hk (by decide)
    have w := h.2.1.2.2 k hk
    rw [if_neg hbt, if_neg hbt, if_neg hbt, if_pos rfl, bd_s, bd_s]
    cases hy : isC (rw * cl) y with
    | false => exact ⟨-1, rfl, fun z => absurd z (by decide), fun _ => ⟨rfl, rfl⟩⟩
    | true =>
      obtain ⟨c, hc, rfl⟩ := isC_t (by omega) hy
      have hds : ds cl c (X k - 1) < 2 ^ 31 := ds_lt (by omega) (by omega)
      have hs14 : Rr 0 ((14 : Int32) + nI k).toNatClampNeg - 1 = nI (X k - 1) := by rw [e2, w.1]; exact pk_sub (b := 1) (by omega)
      have hr0 : R 0 (nI k).toNatClampNeg = nI (X k - 1) := by rw [nI_clamp (by omega)]; exact (h.2.2.2.2.1 k hk).1 hX
      rw [if_neg hbt, if_neg hbt, if_pos i2, if_pos e1, hs14, hr0, p1_sep h (by omega) hc, bd_s, r5_far h.1 (by omega) (by omega), bd_s, ds_comm cl (X k - 1) c]
      by_cases q : nI (ds cl c (X k - 1)) = 1
      · rw [if_pos q, if_pos q]
        exact ⟨0, rfl, fun _ => ⟨k, c, hk, rfl, hX, hc, rfl, rfl⟩, fun z => absurd rfl z⟩
      · rw [if_neg q, if_neg q]
        exact ⟨-1, rfl, fun z => absurd z (by decide), fun _ => ⟨rfl, rfl⟩⟩
end ER
theorem sim_startCall {p : Nat → Bool} {c k : Nat} {U : Nat → Int32} {V : Nat → Nat → Int32} {N : Nat → ns_T} {F : Nat → Int32} {R : Nat → Nat → Int32} (h : rl_s p c k U V N F R) (a1 : Int32) : ∃ (r : Int32) (c1 k1 : Nat) (U1 : Nat → Int32) (V1 : Nat → Nat → Int32) (N1 : Nat → ns_T) (F1 : Nat → Int32) (R1 : Nat → Nat → Int32), m4_startCall c k U V N a1 = some (r, c1, k1, U1, V1, N1) ∧ m5_startCall F R a1 = some (r, F1, R1) ∧ rl_s p c1 k1 U1 V1 N1 F1 R1 := by
  have h0 := h
  obtain ⟨hk, hc, hl, hh, -⟩ := h
  have hl0 := hl
  obtain ⟨rw, cl, ru, sz, X, Y, Z, hn, hcn⟩ := hl
  obtain ⟨e, e1, e2, e3⟩ := err_s (F5 := F) hn a1
  unfold m4_startCall m5_startCall
  rw [e1, bd_s]
  by_cases q : e = 0
  · obtain ⟨⟨x, hx, rfl⟩, hf, hi⟩ := e2 q
    obtain ⟨F1, R1, g0, g1, g2, g3⟩ := hs_note hk hc hl0 hh
    have hr := g2 0 (by decide)
    obtain ⟨v, F', R', F5', Rr', o1, o2, o3, o4, o5, o6⟩ := op_start (F5 := F1) (Rr := R1) (by rw [hr]; exact hn) (by rw [hr]; exact hcn) hx hf
    refine ⟨v, cn_s c, kn_s k, U, V, va_up (va_up N (kn_s k + 1) (N 0)) 0 (F', R', (N 0).2.2), F5', Rr', ?_, ?_, rl_up h0 g1 g2 g3 o3 o5 o4⟩
    · rw [if_pos q, if_pos ⟨hk, hc, nt_1 hl0⟩, lt_rw, ne_k, o1, bd_s]
      show some (v, cn_s c, kn_s k, U, V, va_up (va_up N (kn_s k + 1) (N 0)) 0 (F', R', (va_up N (kn_s k + 1) (N 0) 0).2.2)) = _
      rw [ne_k]
    · rw [hi, bd_s, if_pos rfl]
      unfold m5_does
      rw [g0, bd_s]
      show ((((m5_start F1 R1 (nI x)).bind _).bind _).bind _).bind _ = _
      rw [o2]; rfl
  · refine ⟨e, c, k, U, V, N, F, R, by rw [if_neg q], ?_, h0⟩
    rw [(e3 q _).1, bd_s, if_neg (by decide), (e3 q _).2]; rfl
theorem sim_endCall {p : Nat → Bool} {c k : Nat} {U : Nat → Int32} {V : Nat → Nat → Int32} {N : Nat → ns_T} {F : Nat → Int32} {R : Nat → Nat → Int32} (h : rl_s p c k U V N F R) (a1 : Int32) : ∃ (r : Int32) (c1 k1 : Nat) (U1 : Nat → Int32) (V1 : Nat → Nat → Int32) (N1 : Nat → ns_T) (F1 : Nat → Int32) (R1 : Nat → Nat → Int32), m4_endCall c k U V N a1 = some (r, c1, k1, U1, V1, N1) ∧ m5_endCall F R a1 = some (r, F1, R1) ∧ rl_s p c1 k1 U1 V1 N1 F1 R1 := by
  have h0 := h
  obtain ⟨hk, hc, hl, hh, -⟩ := h
  have hl0 := hl
  obtain ⟨rw, cl, ru, sz, X, Y, Z, hn, hcn⟩ := hl
  obtain ⟨e1, e2⟩ := err_e (F5 := F) hn a1 0
  unfold m4_endCall m5_endCall
  rw [p2_present hn, bd_s, e1, bd_s]
  cases hx : ic_ X a1 with
  | true =>
    obtain ⟨x, hx60, rfl, hX⟩ := ic_t hx
    obtain ⟨F1, R1, g0, g1, g2, g3⟩ := hs_note hk hc hl0 hh
    have hr := g2 0 (by decide)
    obtain ⟨v, F', R', F5', Rr', o1, o2, o3, o4, o5, o6⟩ := op_end (F5 := F1) (Rr := R1) (by rw [hr]; exact hn) (by rw [hr]; exact hcn) hx60
    refine ⟨v, cn_s c, kn_s k, U, V, va_up (va_up N (kn_s k + 1) (N 0)) 0 (F', R', (N 0).2.2), F5', Rr', ?_, ?_, rl_up h0 g1 g2 g3 o3 o5 o4⟩
    · rw [if_neg (by decide), if_pos ⟨hk, hc, nt_1 hl0⟩, lt_rw, ne_k, o1, bd_s]
      show some (v, cn_s c, kn_s k, U, V, va_up (va_up N (kn_s k + 1) (N 0)) 0 (F', R', (va_up N (kn_s k + 1) (N 0) 0).2.2)) = _
      rw [ne_k]
    · rw [if_pos (by decide)]
      unfold m5_does
      rw [g0, bd_s]
      show ((((m5_end F1 R1 (nI x)).bind _).bind _).bind _).bind _ = _
      rw [o2]; rfl
  | false =>
    refine ⟨-4, c, k, U, V, N, F, R, rfl, ?_, h0⟩
    rw [if_neg (by decide), e2 hx]; rfl
theorem sim_handOver {p : Nat → Bool} {c k : Nat} {U : Nat → Int32} {V : Nat → Nat → Int32} {N : Nat → ns_T} {F : Nat → Int32} {R : Nat → Nat → Int32} (h : rl_s p c k U V N F R) (a1 : Int32) (a2 : Int32) : ∃ (r : Int32) (c1 k1 : Nat) (U1 : Nat → Int32) (V1 : Nat → Nat → Int32) (N1 : Nat → ns_T) (F1 : Nat → Int32) (R1 : Nat → Nat → Int32), m4_handOver c k U V N a1 a2 = some (r, c1, k1, U1, V1, N1) ∧ m5_handOver F R a1 a2 = some (r, F1, R1) ∧ rl_s p c1 k1 U1 V1 N1 F1 R1 := by
  have h0 := h
  obtain ⟨hk, hc, hl, hh, -⟩ := h
  have hl0 := hl
  obtain ⟨rw, cl, ru, sz, X, Y, Z, hn, hcn⟩ := hl
  obtain ⟨e, e1, e2, e3⟩ := err_m (F5 := F) hn a1 a2
  unfold m4_handOver m5_handOver
  rw [e1, bd_s]
  by_cases q : e = 0
  · obtain ⟨x, y, hx, rfl, hX, hy, rfl, hi⟩ := e2 q
    obtain ⟨F1, R1, g0, g1, g2, g3⟩ := hs_note hk hc hl0 hh
    have hr := g2 0 (by decide)
    obtain ⟨v, F', R', F5', Rr', o1, o2, o3, o4, o5, o6⟩ := op_move (F5 := F1) (Rr := R1) (by rw [hr]; exact hn) (by rw [hr]; exact hcn) hx hX hy
    refine ⟨v, cn_s c, kn_s k, U, V, va_up (va_up N (kn_s k + 1) (N 0)) 0 (F', R', (N 0).2.2), F5', Rr', ?_, ?_, rl_up h0 g1 g2 g3 o3 o5 o4⟩
    · rw [if_pos q, if_pos ⟨hk, hc, nt_1 hl0⟩, lt_rw, ne_k, o1, bd_s]
      show some (v, cn_s c, kn_s k, U, V, va_up (va_up N (kn_s k + 1) (N 0)) 0 (F', R', (va_up N (kn_s k + 1) (N 0) 0).2.2)) = _
      rw [ne_k]
    · rw [hi, bd_s, if_pos rfl]
      unfold m5_does
      rw [g0, bd_s]
      show ((((m5_hand F1 R1 (nI x) (nI y)).bind _).bind _).bind _).bind _ = _
      rw [o2]; rfl
  · refine ⟨e, c, k, U, V, N, F, R, by rw [if_neg q], ?_, h0⟩
    rw [(e3 q).1, bd_s, if_neg (by decide), (e3 q).2]; rfl
/-- a new network -/
theorem nt_new {rw cl ru sz : Nat} (hf : cf_ok rw cl ru sz) {s F : Nat → Int32} {G : Nat → Int32} {Q : Nat → Nat → Int32} (hl : lo_s rw cl ru sz G Q) (h0 : s 0 = nI rw ∧ s 1 = nI cl ∧ s 2 = nI ru ∧ s 3 = nI sz) (hz : ∀ i, 7 ≤ i → i < 194 → s i = 0) (hF : F 1 = s 4 ∧ F 2 = s 5 ∧ F 3 = s 6) (h6 : s 6 = 0 ∨ s 6 = 1) (h5 : ¬ s 5 < 0) (hc : ∀ i, i < 7 → F (4 + i) = 0) : nr_s s F nb_R G Q := by
  have hce := cf_ce hf
  have hch := cf_ch hf
  have hw : wf_ (rw * cl) (gs ru * sz) (fun _ => 0) (fun _ => 0) (fun _ => false) s := ⟨hce.2, hch.2, fun k hk => ⟨by rw [hz _ (by omega) (by omega)]; rfl, by rw [hz _ (by omega) (by omega)]; rfl, by rw [hz _ (by omega) (by omega)]; rfl, Nat.zero_le _, Nat.zero_le _, fun _ => ⟨rfl, rfl⟩, fun _ _ => rfl⟩⟩
  refine ⟨rw, cl, ru, sz, fun _ => 0, fun _ => 0, fun _ => false, ⟨⟨hf, h0⟩, hw, fun _ _ _ _ _ _ z => absurd rfl z, hl, fun k hk => ⟨fun z => absurd rfl z, rfl, rfl⟩, fun c hc' q hq => ?_, hF.1, hF.2.1, hF.2.2, h6, h5⟩, fun i hi => by rw [hc i hi, hz _ (by omega) (by omega)]⟩
  have e : an (fun k => decide (0 = c + 1) && decide (0 = q + 1)) 60 = false := an_no.mpr (fun k _ => by rw [decide_eq_false (by omega : ¬ 0 = c + 1)]; rfl)
  rw [us_n (R := fun _ => s) hw (by omega) (by omega), e]
  exact b_0 q
theorem sim_appendCharacter {p : Nat → Bool} {c k : Nat} {U : Nat → Int32} {V : Nat → Nat → Int32} {N : Nat → ns_T} {F : Nat → Int32} {R : Nat → Nat → Int32} (h : rl_s p c k U V N F R) (a1 : Int32) : ∃ (r : Int32) (c1 k1 : Nat) (U1 : Nat → Int32) (V1 : Nat → Nat → Int32) (N1 : Nat → ns_T) (F1 : Nat → Int32) (R1 : Nat → Nat → Int32), m4_appendCharacter c k U V N a1 = some (r, c1, k1, U1, V1, N1) ∧ m5_appendCharacter F R a1 = some (r, F1, R1) ∧ rl_s p c1 k1 U1 V1 N1 F1 R1 := by
  have h0 := h
  obtain ⟨hk, hc, hl, hh, len, t1, t2, t3, t4⟩ := h
  unfold m4_appendCharacter m5_appendCharacter
  rw [m4_isB, bd_s, m5_inE, bd_s]
  cases hx : decide ((0 : Int32) ≤ a1 ∧ a1 ≤ 255) with
  | false => exact ⟨-1, c, k, U, V, N, F, R, rfl, rfl, h0⟩
  | true =>
    obtain ⟨b, hb, rfl⟩ := in_01 (n := 255) (by decide) hx
    rw [if_neg (by decide), if_neg (by decide)]
    unfold m3_append
    have hd : decide ((0 : Int32) ≤ U 0 ∧ U 0 ≤ 99) = decide (len < 100) := by
      rw [t2]
      refine decide_eq_decide.mpr ?_
      have e1 : (0 : Int32) ≤ nI len := nI_pos' (by omega)
      have e2 : nI len ≤ (99 : Int32) ↔ len ≤ 99 := nI_leI (b := 99) (by omega) (by decide)
      rw [e2]
      exact ⟨fun z => by omega, fun z => ⟨e1, by omega⟩⟩
    rw [m4_isB, bd_s, hd, t2, t3]
    by_cases q : len < 100
    · have i1 : inb (nI len) 100 := in_n q (by decide)
      refine ⟨nI (len + 1), c, k, va_up U 0 (nI (len + 1)), va_up V 3 (upd (V 3) len (nI b)), N, va_up F 6 (nI (len + 1)), va_up R 4 (upd (R 4) len (nI b).toInt8.toInt32), ?_, ?_, hk, hc, by rw [va_up_ne _ _ (by decide)]; exact hl, hs_cg hh (fun _ _ => rfl) (va_up_ne _ _ (by decide)) (va_up_ne _ _ (by decide)) (va_up_ne _ _ (by decide)) (va_up_ne _ _ (by decide)), len + 1, by omega, va_up_self _ _ _, va_up_self _ _ _, fun j hj => ?_⟩
      · rw [decide_eq_true q, if_neg (by decide), if_pos i1, bd_s, nI_1, nI_clamp (by omega)]
        show ((if (1 : Int32) = 0 then some (-3 : Int32) else some ((va_up U 0 (nI (len + 1))) 0)).bind _) = _
        rw [if_neg (by decide), bd_s, va_up_self]; rfl
      · rw [if_neg (fun z => by have := (nI_eq (b := 100) (by omega) (by decide)).mp z; omega), if_pos i1, nI_1, nI_clamp (by omega), pk_vb, va_up_self]
      · rw [va_up_self, va_up_self]
        by_cases g : j = len
        · exact ⟨b, by omega, by rw [g, pk_us], by rw [g, pk_us]⟩
        · rw [pk_un g, pk_un g]; exact t4 j (by omega)
    · have hl100 : len = 100 := by omega
      refine ⟨-3, c, k, U, V, N, F, R, ?_, ?_, h0⟩
      · rw [decide_eq_false q]; rfl
      · rw [hl100, if_pos (by decide)]
theorem sim_clearText {p : Nat → Bool} {c k : Nat} {U : Nat → Int32} {V : Nat → Nat → Int32} {N : Nat → ns_T} {F : Nat → Int32} {R : Nat → Nat → Int32} (h : rl_s p c k U V N F R) : ∃ (r : Int32) (c1 k1 : Nat) (U1 : Nat → Int32) (V1 : Nat → Nat → Int32) (N1 : Nat → ns_T) (F1 : Nat → Int32) (R1 : Nat → Nat → Int32), m4_clearText c k U V N = some (r, c1, k1, U1, V1, N1) ∧ m5_clearText F R = some (r, F1, R1) ∧ rl_s p c1 k1 U1 V1 N1 F1 R1 := by
  obtain ⟨hk, hc, hl, hh, len, t1, t2, t3, t4⟩ := h
  exact ⟨nI len, c, k, va_up U 0 0, V, N, va_up F 6 0, R, by unfold m4_clearText; rw [t2], by unfold m5_clearText; rw [t3], hk, hc, hl, hs_cg hh (fun _ _ => rfl) (va_up_ne _ _ (by decide)) rfl rfl rfl, 0, Nat.zero_le _, va_up_self _ _ _, va_up_self _ _ _, fun j hj => absurd hj (Nat.not_lt_zero j)⟩
