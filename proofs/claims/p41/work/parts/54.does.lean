/-! WHAT THE LAW DOES: an error changes nothing, all else keeps the state ahead of it -/
theorem lt_rw {α β : Type} (e : α) (f : α → Option β) : lt_ e f = f e := rfl
theorem ne_k (k : Nat) {N : Nat → ns_T} : va_up N (kn_s k + 1) (N 0) 0 = N 0 := va_up_ne _ _ (by omega)
theorem in_r {x : Int32} {lo hi : Nat} (hhi : hi < 1000) (hlo : lo ≤ hi) (h : decide (nI lo ≤ x ∧ x ≤ nI hi) = true) : ∃ j, lo ≤ j ∧ j ≤ hi ∧ x = nI j := by
  have h1 := of_decide_eq_true h
  rw [Int32.le_iff_toInt_le, Int32.le_iff_toInt_le, nI_toInt (by omega), nI_toInt (by omega)] at h1
  refine ⟨x.toInt.toNat, by omega, by omega, Int32.toInt_inj.mp ?_⟩
  rw [nI_toInt (by omega)]
  omega
def nt_ (ru e : Nat) (n : ns_T) : Prop := nv_ ru n.1 n.2.1 n.2.2.1 n.2.2.2 ∧ ∃ a b : Nat, n.1 4 = nI a ∧ n.1 5 = nI b ∧ b ≤ a ∧ a ≤ e
theorem nt_1 {ru e : Nat} {n : ns_T} (h : nt_ ru e n) : n.1 3 &&& 1 = n.1 3 := by
  obtain ⟨⟨rw, cl, sz, X, Y, Z, s, c1, c2, c3, c4, c5, c6, c7, c8, c9, c10, c11⟩, -⟩ := h
  rw [c9]
  rcases c10.1 with h | h <;> rw [h] <;> decide
theorem nt_up {ru e e' : Nat} {n : ns_T} (h : nt_ ru e n) (he : e ≤ e') : nt_ ru e' n := by
  obtain ⟨h1, a, b, h2, h3, h4, h5⟩ := h
  exact ⟨h1, a, b, h2, h3, h4, by omega⟩
theorem nt_le {ru e : Nat} {n : ns_T} (h : nt_ ru e n) (he : e < 1000) : n.1 5 ≤ n.1 4 := by
  obtain ⟨-, a, b, h2, h3, h4, h5⟩ := h
  rw [h2, h3]
  exact nI_le h4 (by omega)
theorem nt_same {ru e : Nat} {n : ns_T} (h : nt_ ru e n) {F' : Nat → Int32} {R' : Nat → Nat → Int32} (hv : nv_ ru F' R' n.2.2.1 n.2.2.2) (h4 : F' 4 = n.1 4) (h5 : F' 5 = n.1 5) : nt_ ru (e + 1) (F', R', n.2.2) := by
  obtain ⟨h1, a, b, g2, g3, g4, g5⟩ := h
  exact ⟨hv, a, b, h4.trans g2, h5.trans g3, g4, by omega⟩
theorem nt_start {ru e : Nat} {n : ns_T} (h : nt_ ru e n) {F' : Nat → Int32} {R' : Nat → Nat → Int32} (hv : nv_ ru F' R' n.2.2.1 n.2.2.2) (h4 : F' 4 = n.1 4 + 1) (h5 : F' 5 = n.1 5 ∨ F' 5 = n.1 5 + 1) : nt_ ru (e + 1) (F', R', n.2.2) := by
  obtain ⟨h1, a, b, g2, g3, g4, g5⟩ := h
  rcases h5 with h5 | h5
  · exact ⟨hv, a + 1, b, (show F' 4 = nI (a + 1) by rw [h4, g2, nI_1]), h5.trans g3, by omega, by omega⟩
  · exact ⟨hv, a + 1, b + 1, (show F' 4 = nI (a + 1) by rw [h4, g2, nI_1]), (show F' 5 = nI (b + 1) by rw [h5, g3, nI_1]), by omega, by omega⟩
/-- the settings anew -/
theorem nr_set {rw cl ru sz : Nat} {F F' s s' : Nat → Int32} {R : Nat → Nat → Int32} {G : Nat → Int32} {Q : Nat → Nat → Int32} {X Y : Nat → Nat} {Z : Nat → Bool} (h : nr_c rw cl ru sz X Y Z s F R G Q) (hs : ∀ i, i < 4 ∨ 14 ≤ i → s' i = s i) (hF : F' 1 = s' 4 ∧ F' 2 = s' 5 ∧ F' 3 = s' 6) (h6 : s' 6 = 0 ∨ s' 6 = 1) (h4 : ¬ s' 4 < 0) (h5 : ¬ s' 5 < 0) : nr_c rw cl ru sz X Y Z s' F' R G Q := by
  obtain ⟨c1, c2, c3, c4, c5, c6, c7, c8, c9, c10, c11⟩ := h
  have hw : wf_ (rw * cl) (gs ru * sz) X Y Z s' := ⟨c2.1, c2.2.1, fun j hj => by
    rw [hs _ (Or.inr (by omega)), hs _ (Or.inr (by omega)), hs _ (Or.inr (by omega))]; exact c2.2.2 j hj⟩
  refine ⟨⟨c1.1, ?_, ?_, ?_, ?_⟩, hw, c3, c4, c5, fun c hc q hq => ?_, hF.1, hF.2.1, hF.2.2, ⟨h6, h4⟩, h5⟩
  · rw [hs 0 (by decide)]; exact c1.2.1
  · rw [hs 1 (by decide)]; exact c1.2.2.1
  · rw [hs 2 (by decide)]; exact c1.2.2.2.1
  · rw [hs 3 (by decide)]; exact c1.2.2.2.2
  · rw [c6 c hc q hq]
    unfold us
    exact an_cong (fun j hj => by rw [hs _ (Or.inr (by omega)), hs _ (Or.inr (by omega))])
/-- a new network -/
theorem nr_new {rw cl ru sz : Nat} (hf : cf_ok rw cl ru sz) {F : Nat → Int32} {G : Nat → Int32} {Q : Nat → Nat → Int32} (hl : lo_s rw cl ru sz G Q) (h1 : ¬ F 1 < 0) (h2 : ¬ F 2 < 0) (h3 : F 3 = 0 ∨ F 3 = 1) : ∃ s, nr_c rw cl ru sz (fun _ => 0) (fun _ => 0) (fun _ => false) s F nb_R G Q := by
  have hce := cf_ce hf
  have hch := cf_ch hf
  obtain ⟨s, hs⟩ : ∃ s : Nat → Int32, s = fun i => if i = 0 then nI rw else if i = 1 then nI cl else if i = 2 then nI ru else if i = 3 then nI sz else if i = 4 then F 1 else if i = 5 then F 2 else if i = 6 then F 3 else 0 := ⟨_, rfl⟩
  have hz : ∀ i, 7 ≤ i → s i = 0 := fun i hi => by
    rw [hs]
    show (if i = 0 then nI rw else if i = 1 then nI cl else if i = 2 then nI ru else if i = 3 then nI sz else if i = 4 then F 1 else if i = 5 then F 2 else if i = 6 then F 3 else 0) = 0
    rw [if_neg (by omega), if_neg (by omega), if_neg (by omega), if_neg (by omega), if_neg (by omega), if_neg (by omega), if_neg (by omega)]
  have hw : wf_ (rw * cl) (gs ru * sz) (fun _ => 0) (fun _ => 0) (fun _ => false) s := ⟨hce.2, hch.2, fun k hk => ⟨by rw [hz _ (by omega)]; rfl, by rw [hz _ (by omega)]; rfl, by rw [hz _ (by omega)]; rfl, Nat.zero_le _, Nat.zero_le _, fun _ => ⟨rfl, rfl⟩, fun _ _ => rfl⟩⟩
  refine ⟨s, ⟨hf, by rw [hs]; rfl, by rw [hs]; rfl, by rw [hs]; rfl, by rw [hs]; rfl⟩, hw, ⟨fun _ _ _ _ _ _ z => absurd rfl z, fun _ _ z => absurd rfl z⟩, hl, fun k hk => ⟨fun z => absurd rfl z, rfl, rfl⟩, fun c hc' q hq => ?_, by rw [hs]; rfl, by rw [hs]; rfl, by rw [hs]; rfl, ⟨by rw [hs]; exact h3, by rw [hs]; exact h1⟩, by rw [hs]; exact h2⟩
  have e : an (fun k => decide (0 = c + 1) && decide (0 = q + 1)) 60 = false := an_no.mpr (fun k _ => by rw [decide_eq_false (by omega : ¬ 0 = c + 1)]; rfl)
  rw [us_n (R := fun _ => s) hw (by omega) (by omega), e]
  exact b_0 q
section ER
variable {rw cl ru sz : Nat} {F s : Nat → Int32} {R : Nat → Nat → Int32} {G : Nat → Int32} {Q : Nat → Nat → Int32} {X Y : Nat → Nat} {Z : Nat → Bool}
theorem err_s (h : nr_c rw cl ru sz X Y Z s F R G Q) (x : Int32) : ∃ e : Int32, m2_startError F R G Q x = some e ∧ (e = 0 → (∃ c, c < rw * cl ∧ x = nI c) ∧ fr_ X < 60) ∧ (e = 0 ∨ e = -1 ∨ e = -3) := by
  have hce := cf_ce h.1.1
  unfold m2_startError
  rw [p1_hasCell h, bd_s, p2_free h]
  cases hx : isC (rw * cl) x with
  | false => exact ⟨-1, rfl, fun z => absurd z (by decide), Or.inr (Or.inl rfl)⟩
  | true =>
    obtain ⟨c, hc, rfl⟩ := isC_t (by omega) hx
    rw [if_neg (by decide), bd_s]
    by_cases q : fr_ X < 60
    · refine ⟨0, ?_, fun _ => ⟨⟨c, hc, rfl⟩, q⟩, Or.inl rfl⟩
      unfold nv; rw [if_pos q, if_neg (n9 (by omega))]; rfl
    · refine ⟨-3, ?_, fun z => absurd z (by decide), Or.inr (Or.inr rfl)⟩
      unfold nv; rw [if_neg q, if_pos rfl]; rfl
theorem err_m (h : nr_c rw cl ru sz X Y Z s F R G Q) (x y : Int32) : ∃ e : Int32, m2_moveError F R G Q x y = some e ∧ (e = 0 → ∃ k c, k < 60 ∧ x = nI k ∧ X k ≠ 0 ∧ c < rw * cl ∧ y = nI c) ∧ (e = 0 ∨ e = -1 ∨ e = -4) := by
  have hce := cf_ce h.1.1
  unfold m2_moveError
  have hbt : ¬ bi true = 0 := by decide
  rw [p2_present h, bd_s, p1_hasCell h]
  cases hx : ic_ X x with
  | false => exact ⟨-4, rfl, fun z => absurd z (by decide), Or.inr (Or.inr rfl)⟩
  | true =>
    obtain ⟨k, hk, rfl, hX⟩ := ic_t hx
    have i2 : inb (nI k) 60 := in_n hk (by decide)
    have w := h.2.1.2.2 k hk
    rw [if_neg hbt, bd_s]
    cases hy : isC (rw * cl) y with
    | false => exact ⟨-1, rfl, fun z => absurd z (by decide), Or.inr (Or.inl rfl)⟩
    | true =>
      obtain ⟨c, hc, rfl⟩ := isC_t (by omega) hy
      have hr0 : R 0 (nI k).toNatClampNeg = nI (X k - 1) := by rw [nI_clamp (by omega)]; exact (h.2.2.2.2.1 k hk).1 hX
      rw [if_neg hbt, if_pos i2, hr0, p1_sep h (by omega) hc, bd_s]
      by_cases q : nI (ds cl (X k - 1) c) = 1
      · rw [if_pos q]
        exact ⟨0, rfl, fun _ => ⟨k, c, hk, rfl, hX, hc, rfl⟩, Or.inl rfl⟩
      · rw [if_neg q]
        exact ⟨-1, rfl, fun z => absurd z (by decide), Or.inr (Or.inl rfl)⟩
end ER
/-- an error and nothing changed, or a new live net and the old one kept -/
def rs_ (ru e c k : Nat) (U : Nat → Int32) (V : Nat → Nat → Int32) (N : Nat → ns_T) (x : Option (Int32 × Nat × Nat × (Nat → Int32) × (Nat → Nat → Int32) × (Nat → ns_T))) : Prop :=
  (∃ r, x = some (r, c, k, U, V, N) ∧ r < 0 ∧ ¬ r = -9) ∨ ∃ r n1, x = some (r, cn_s c, kn_s k, U, V, va_up (va_up N (kn_s k + 1) (N 0)) 0 n1) ∧ (0 ≤ r ∨ r = -9) ∧ nt_ ru (e + 1) n1
section DO
variable {ru e c k : Nat} {U : Nat → Int32} {V : Nat → Nat → Int32} {N : Nat → ns_T}
theorem do_setStrategy (hk : k < 6) (hc : c ≤ 6) (h : nt_ ru e (N 0)) (a1 : Int32) : rs_ ru e c k U V N (m4_setStrategy c k U V N a1) := by
  unfold m4_setStrategy
  rw [m4_isB, bd_s]
  cases hx : decide ((0 : Int32) ≤ a1 ∧ a1 ≤ 2) with
  | false => exact Or.inl ⟨-1, rfl, by decide, by decide⟩
  | true =>
    have hh := h
    obtain ⟨⟨rw, cl, sz, X, Y, Z, s, hn⟩, a, b, g4, g5, g6, g7⟩ := hh
    have hx' := of_decide_eq_true hx
    rw [if_neg (by decide), if_pos ⟨hk, hc, nt_1 h⟩, lt_rw, lt_rw, ne_k]
    have hn1 : nv_ ru (va_up (N 0).1 1 a1) (N 0).2.1 (N 0).2.2.1 (N 0).2.2.2 := by
      refine ⟨rw, cl, sz, X, Y, Z, upd s 4 a1, nr_set hn (fun i hi => pk_un (by omega)) ⟨?_, ?_, ?_⟩ ?_ ?_ ?_⟩
      · rw [va_up_self, pk_us]
      · rw [va_up_ne _ _ (by decide), pk_un (by decide)]; exact hn.2.2.2.2.2.2.2.1
      · rw [va_up_ne _ _ (by decide), pk_un (by decide)]; exact hn.2.2.2.2.2.2.2.2.1
      · rw [pk_un (by decide)]; exact hn.2.2.2.2.2.2.2.2.2.1.1
      · rw [pk_us]; exact le_n.mp hx'.1
      · rw [pk_un (by decide)]; exact hn.2.2.2.2.2.2.2.2.2.2
    refine Or.inr ⟨(N 0).1 1, (va_up (N 0).1 1 a1, (N 0).2), rfl, Or.inl ?_, hn1, a, b, g4, g5, g6, by omega⟩
    rw [hn.2.2.2.2.2.2.1]; exact le_n.mpr hn.2.2.2.2.2.2.2.2.2.1.2
theorem do_setReserve (hk : k < 6) (hc : c ≤ 6) (h : nt_ ru e (N 0)) (a1 : Int32) : rs_ ru e c k U V N (m4_setReserve c k U V N a1) := by
  unfold m4_setReserve
  rw [m4_isB, bd_s]
  cases hx : decide ((0 : Int32) ≤ a1 ∧ a1 ≤ 3) with
  | false => exact Or.inl ⟨-1, rfl, by decide, by decide⟩
  | true =>
    have hh := h
    obtain ⟨⟨rw, cl, sz, X, Y, Z, s, hn⟩, a, b, g4, g5, g6, g7⟩ := hh
    have hx' := of_decide_eq_true hx
    rw [if_neg (by decide), if_pos ⟨hk, hc, nt_1 h⟩, lt_rw, lt_rw, ne_k]
    have hn1 : nv_ ru (va_up (N 0).1 2 a1) (N 0).2.1 (N 0).2.2.1 (N 0).2.2.2 := by
      refine ⟨rw, cl, sz, X, Y, Z, upd s 5 a1, nr_set hn (fun i hi => pk_un (by omega)) ⟨?_, ?_, ?_⟩ ?_ ?_ ?_⟩
      · rw [va_up_ne _ _ (by decide), pk_un (by decide)]; exact hn.2.2.2.2.2.2.1
      · rw [va_up_self, pk_us]
      · rw [va_up_ne _ _ (by decide), pk_un (by decide)]; exact hn.2.2.2.2.2.2.2.2.1
      · rw [pk_un (by decide)]; exact hn.2.2.2.2.2.2.2.2.2.1.1
      · rw [pk_un (by decide)]; exact hn.2.2.2.2.2.2.2.2.2.1.2
      · rw [pk_us]; exact le_n.mp hx'.1
    refine Or.inr ⟨(N 0).1 2, (va_up (N 0).1 2 a1, (N 0).2), rfl, Or.inl ?_, hn1, a, b, g4, g5, g6, by omega⟩
    rw [hn.2.2.2.2.2.2.2.1]; exact le_n.mpr hn.2.2.2.2.2.2.2.2.2.2
theorem do_setReturning (hk : k < 6) (hc : c ≤ 6) (h : nt_ ru e (N 0)) (a1 : Int32) : rs_ ru e c k U V N (m4_setReturning c k U V N a1) := by
  unfold m4_setReturning
  rw [m4_isB, bd_s]
  cases hx : decide ((0 : Int32) ≤ a1 ∧ a1 ≤ 1) with
  | false => exact Or.inl ⟨-1, rfl, by decide, by decide⟩
  | true =>
    have hh := h
    obtain ⟨⟨rw, cl, sz, X, Y, Z, s, hn⟩, a, b, g4, g5, g6, g7⟩ := hh
    have ha : a1 = 0 ∨ a1 = 1 := by
      obtain ⟨j, j1, j2, rfl⟩ := in_r (lo := 0) (hi := 1) (by decide) (by decide) hx
      have : j = 0 ∨ j = 1 := by omega
      rcases this with rfl | rfl
      · exact Or.inl rfl
      · exact Or.inr rfl
    have hn1 : nv_ ru (va_up (N 0).1 3 a1) (N 0).2.1 (N 0).2.2.1 (N 0).2.2.2 := by
      refine ⟨rw, cl, sz, X, Y, Z, upd s 6 a1, nr_set hn (fun i hi => pk_un (by omega)) ⟨?_, ?_, ?_⟩ ?_ ?_ ?_⟩
      · rw [va_up_ne _ _ (by decide), pk_un (by decide)]; exact hn.2.2.2.2.2.2.1
      · rw [va_up_ne _ _ (by decide), pk_un (by decide)]; exact hn.2.2.2.2.2.2.2.1
      · rw [va_up_self, pk_us]
      · rw [pk_us]; exact ha
      · rw [pk_un (by decide)]; exact hn.2.2.2.2.2.2.2.2.2.1.2
      · rw [pk_un (by decide)]; exact hn.2.2.2.2.2.2.2.2.2.2
    obtain ⟨i, F', R', o1, o3, o5, o6, o7⟩ := op_pass hn1
    refine Or.inr ⟨nI i, (F', R', (N 0).2.2), ?_, Or.inl (nI_pos' (by omega)), nt_same h o3 (by rw [o6]; exact va_up_ne _ _ (by decide)) (by rw [o7]; exact va_up_ne _ _ (by decide))⟩
    have hif : (if a1 = (1 : Int32) then some (1 : Int32) else some (0 : Int32)) = some a1 := by
      rcases ha with rfl | rfl <;> rfl
    have h1 : a1 &&& 1 = a1 := by rcases ha with rfl | rfl <;> decide
    rw [if_neg (by decide), if_pos ⟨hk, hc, nt_1 h⟩]
    rw [lt_rw, hif, bd_s]
    unfold m4_setReturning_J36
    rw [if_pos h1, lt_rw, va_up_self, ne_k]
    show ((m2_returnCalls (va_up (N 0).1 3 a1) (N 0).2.1 (N 0).2.2.1 (N 0).2.2.2).bind _) = _
    rw [o1, bd_s]
    show some (nI i, cn_s c, kn_s k, U, V, va_up (va_up (va_up N (kn_s k + 1) (N 0)) 0 (va_up (N 0).1 3 a1, (N 0).2)) 0 (F', R', (N 0).2.2)) = _
    rw [bx_uu]
theorem do_startCall (hk : k < 6) (hc : c ≤ 6) (h : nt_ ru e (N 0)) (a1 : Int32) : rs_ ru e c k U V N (m4_startCall c k U V N a1) := by
  have hh := h
  obtain ⟨⟨rw, cl, sz, X, Y, Z, s, hn⟩, -⟩ := hh
  obtain ⟨er, e1, e2, e3⟩ := err_s hn a1
  unfold m4_startCall
  rw [e1, bd_s]
  by_cases q : er = 0
  · obtain ⟨⟨x, hx, rfl⟩, hf⟩ := e2 q
    obtain ⟨v, F', R', o1, o3, o6, o4, o5⟩ := op_start hn hx hf
    refine Or.inr ⟨v, (F', R', (N 0).2.2), ?_, o6, nt_start h o3 o4 o5⟩
    rw [if_pos q, if_pos ⟨hk, hc, nt_1 h⟩, lt_rw, ne_k, o1, bd_s]
    show some (v, cn_s c, kn_s k, U, V, va_up (va_up N (kn_s k + 1) (N 0)) 0 (F', R', (va_up N (kn_s k + 1) (N 0) 0).2.2)) = _
    rw [ne_k]
  · refine Or.inl ⟨er, by rw [if_neg q], ?_, ?_⟩
    · rcases e3 with z | rfl | rfl
      · exact absurd z q
      · decide
      · decide
    · rcases e3 with z | rfl | rfl
      · exact absurd z q
      · decide
      · decide
theorem do_endCall (hk : k < 6) (hc : c ≤ 6) (h : nt_ ru e (N 0)) (a1 : Int32) : rs_ ru e c k U V N (m4_endCall c k U V N a1) := by
  have hh := h
  obtain ⟨⟨rw, cl, sz, X, Y, Z, s, hn⟩, -⟩ := hh
  unfold m4_endCall
  rw [p2_present hn, bd_s]
  cases hx : ic_ X a1 with
  | true =>
    obtain ⟨x, hx60, rfl, hX⟩ := ic_t hx
    obtain ⟨v, F', R', o1, o3, o6, o4, o5⟩ := op_end hn hx60
    refine Or.inr ⟨v, (F', R', (N 0).2.2), ?_, o6, nt_same h o3 o4 o5⟩
    rw [if_neg (by decide), if_pos ⟨hk, hc, nt_1 h⟩, lt_rw, ne_k, o1, bd_s]
    show some (v, cn_s c, kn_s k, U, V, va_up (va_up N (kn_s k + 1) (N 0)) 0 (F', R', (va_up N (kn_s k + 1) (N 0) 0).2.2)) = _
    rw [ne_k]
  | false => exact Or.inl ⟨-4, rfl, by decide, by decide⟩
theorem do_handOver (hk : k < 6) (hc : c ≤ 6) (h : nt_ ru e (N 0)) (a1 a2 : Int32) : rs_ ru e c k U V N (m4_handOver c k U V N a1 a2) := by
  have hh := h
  obtain ⟨⟨rw, cl, sz, X, Y, Z, s, hn⟩, -⟩ := hh
  obtain ⟨er, e1, e2, e3⟩ := err_m hn a1 a2
  unfold m4_handOver
  rw [e1, bd_s]
  by_cases q : er = 0
  · obtain ⟨x, y, hx, rfl, hX, hy, rfl⟩ := e2 q
    obtain ⟨v, F', R', o1, o3, o6, o4, o5⟩ := op_move hn hx hX hy
    refine Or.inr ⟨v, (F', R', (N 0).2.2), ?_, o6, nt_same h o3 o4 o5⟩
    rw [if_pos q, if_pos ⟨hk, hc, nt_1 h⟩, lt_rw, ne_k, o1, bd_s]
    show some (v, cn_s c, kn_s k, U, V, va_up (va_up N (kn_s k + 1) (N 0)) 0 (F', R', (va_up N (kn_s k + 1) (N 0) 0).2.2)) = _
    rw [ne_k]
  · refine Or.inl ⟨er, by rw [if_neg q], ?_, ?_⟩
    · rcases e3 with z | rfl | rfl
      · exact absurd z q
      · decide
      · decide
    · rcases e3 with z | rfl | rfl
      · exact absurd z q
      · decide
      · decide
/-- a network is made anew -/
theorem cf_go (hk : k < 6) (hc : c ≤ 6) (h : nt_ ru e (N 0)) {rw cl ru1 sz : Nat} (hf : cf_ok rw cl ru1 sz) : ∃ (G : Nat → Int32) (Q : Nat → Nat → Int32) (s : Nat → Int32), m4_configure c k U V N (nI rw) (nI cl) (nI ru1) (nI sz) = some (nI (gs ru1 * sz), cn_s c, kn_s k, U, V, va_up (va_up N (kn_s k + 1) (N 0)) 0 (nb_F (N 0).1, nb_R, G, Q)) ∧ nr_c rw cl ru1 sz (fun _ => 0) (fun _ => 0) (fun _ => false) s (nb_F (N 0).1) nb_R G Q := by
  have hh := h
  obtain ⟨⟨rw', cl', sz', X, Y, Z, s, hn⟩, -⟩ := hh
  obtain ⟨G, Q, i1, i2⟩ := la_init hf z_F z_R
  have hF : ∀ i, i < 4 → nb_F (N 0).1 i = (N 0).1 i := fun i hi => by unfold nb_F; rw [if_pos hi]
  obtain ⟨s', hs'⟩ := nr_new (F := nb_F (N 0).1) hf i2 (by rw [hF 1 (by decide), hn.2.2.2.2.2.2.1]; exact hn.2.2.2.2.2.2.2.2.2.1.2) (by rw [hF 2 (by decide), hn.2.2.2.2.2.2.2.1]; exact hn.2.2.2.2.2.2.2.2.2.2) (by rw [hF 3 (by decide), hn.2.2.2.2.2.2.2.2.1]; exact hn.2.2.2.2.2.2.2.2.2.1.1)
  refine ⟨G, Q, s', ?_, hs'⟩
  have hbt : ¬ bi true = 0 := by decide
  have hin : ∀ {a lo hi : Nat}, lo ≤ a → a ≤ hi → hi < 1000 → decide (nI lo ≤ nI a ∧ nI a ≤ nI hi) = true := fun h1 h2 h3 => decide_eq_true ⟨nI_le h1 (by omega), nI_le h2 (by omega)⟩
  obtain ⟨f1, f2, f3, f4, f5, f6, f7⟩ := hf
  have hru : 2 ≤ ru1 ∧ ru1 ≤ 3 := by omega
  unfold m4_configure
  simp only [m4_isB, bd_s]
  rw [show decide ((1 : Int32) ≤ nI rw ∧ nI rw ≤ 5) = true from hin (lo := 1) (hi := 5) f1 f2 (by decide), if_neg hbt, show decide ((1 : Int32) ≤ nI cl ∧ nI cl ≤ 5) = true from hin (lo := 1) (hi := 5) f3 f4 (by decide), if_neg hbt, show decide ((2 : Int32) ≤ nI ru1 ∧ nI ru1 ≤ 3) = true from hin (lo := 2) (hi := 3) hru.1 hru.2 (by decide), if_neg hbt, show decide ((1 : Int32) ≤ nI sz ∧ nI sz ≤ 4) = true from hin (lo := 1) (hi := 4) f6 f7 (by decide), if_neg hbt, bd_s]
  unfold m4_configure_J42
  rw [if_neg (by decide), if_pos ⟨hk, hc, nt_1 h⟩, lt_rw, i1, bd_s]
  show lt_ (va_up (va_up N (kn_s k + 1) (N 0)) 0 (nb_F ((va_up N (kn_s k + 1) (N 0)) 0).1, nb_R, G, Q)) _ = _
  rw [lt_rw, ne_k, va_up_self]
  show some (G 1, _) = _
  rw [i2.2.1]
theorem do_configure (hk : k < 6) (hc : c ≤ 6) (h : nt_ ru e (N 0)) (a1 a2 a3 a4 : Int32) : (∃ r, m4_configure c k U V N a1 a2 a3 a4 = some (r, c, k, U, V, N) ∧ r < 0 ∧ ¬ r = -9) ∨ ∃ r n1 ru1, m4_configure c k U V N a1 a2 a3 a4 = some (r, cn_s c, kn_s k, U, V, va_up (va_up N (kn_s k + 1) (N 0)) 0 n1) ∧ (0 ≤ r ∨ r = -9) ∧ nt_ ru1 (e + 1) n1 ∧ a3 = nI ru1 := by
  have hbt : ¬ bi true = 0 := by decide
  have bad : ∀ x : Option (Int32 × Nat × Nat × (Nat → Int32) × (Nat → Nat → Int32) × (Nat → ns_T)), m4_configure c k U V N a1 a2 a3 a4 = x → x = some ((-1 : Int32), c, k, U, V, N) → (∃ r, m4_configure c k U V N a1 a2 a3 a4 = some (r, c, k, U, V, N) ∧ r < 0 ∧ ¬ r = -9) := fun x h1 h2 => ⟨-1, h1.trans h2, by decide, by decide⟩
  cases x1 : decide ((1 : Int32) ≤ a1 ∧ a1 ≤ 5) with
  | false => exact Or.inl (bad _ rfl (by unfold m4_configure; rw [m4_isB, bd_s, x1]; rfl))
  | true =>
    cases x2 : decide ((1 : Int32) ≤ a2 ∧ a2 ≤ 5) with
    | false => exact Or.inl (bad _ rfl (by unfold m4_configure; simp only [m4_isB, bd_s]; rw [x1, if_neg hbt, x2]; rfl))
    | true =>
      cases x3 : decide ((2 : Int32) ≤ a3 ∧ a3 ≤ 3) with
      | false => exact Or.inl (bad _ rfl (by unfold m4_configure; simp only [m4_isB, bd_s]; rw [x1, if_neg hbt, x2, if_neg hbt, x3]; rfl))
      | true =>
        cases x4 : decide ((1 : Int32) ≤ a4 ∧ a4 ≤ 4) with
        | false => exact Or.inl (bad _ rfl (by unfold m4_configure; simp only [m4_isB, bd_s]; rw [x1, if_neg hbt, x2, if_neg hbt, x3, if_neg hbt, x4]; rfl))
        | true =>
          obtain ⟨rw, r1, r2, rfl⟩ := in_r (lo := 1) (hi := 5) (by decide) (by decide) x1
          obtain ⟨cl, c1, c2, rfl⟩ := in_r (lo := 1) (hi := 5) (by decide) (by decide) x2
          obtain ⟨ru1, u1, u2, rfl⟩ := in_r (lo := 2) (hi := 3) (by decide) (by decide) x3
          obtain ⟨sz, s1, s2, rfl⟩ := in_r (lo := 1) (hi := 4) (by decide) (by decide) x4
          have hf : cf_ok rw cl ru1 sz := ⟨r1, r2, c1, c2, by omega, s1, s2⟩
          have hch := cf_ch hf
          obtain ⟨G, Q, s, g1, g2⟩ := cf_go (U := U) (V := V) hk hc h hf
          have hz : ∀ i, ¬ i < 4 → nb_F (N 0).1 i = nI 0 := fun i hi => by unfold nb_F; rw [if_neg hi]; rfl
          exact Or.inr ⟨_, _, ru1, g1, Or.inl (nI_pos' (by omega)), ⟨⟨rw, cl, sz, _, _, _, s, g2⟩, 0, 0, hz 4 (by decide), hz 5 (by decide), Nat.le_refl _, Nat.zero_le _⟩, rfl⟩
theorem low_ok {v n : Int32} (hn : ¬ n = 0) : ∃ x, mj_low v n = some x := by
  unfold mj_low
  rw [if_pos hn]
  exact ⟨_, rfl⟩
/-- one step of the law -/
theorem does_ok (hk : k < 6) (hc : c ≤ 6) (h : nt_ ru e (N 0)) (v : Int32) : ∃ (r : Int32) (c1 k1 : Nat) (N1 : Nat → ns_T) (ru1 : Nat), m4_does c k U V N v = some (r, c1, k1, U, V, N1) ∧ ((r < 0 ∧ ¬ r = -9 ∧ c1 = c ∧ k1 = k ∧ N1 = N) ∨ ((0 ≤ r ∨ r = -9) ∧ c1 = cn_s c ∧ k1 = kn_s k ∧ (∃ n1, N1 = va_up (va_up N (kn_s k + 1) (N 0)) 0 n1) ∧ nt_ ru1 (e + 1) (N1 0) ∧ nI ru1 = if (v &&& (15 : Int32)) = 0 then (if ((v >>> ((4 : Int32) &&& 31)) &&& (3 : Int32)) = 0 then (2 : Int32) + ((v >>> ((12 : Int32) &&& 31)) &&& (1 : Int32)) else nI ru) else nI ru)) := by
  have hh := h
  obtain ⟨⟨rw, cl, sz, X, Y, Z, s, hn⟩, -⟩ := hh
  have hce := cf_ce hn.1.1
  have hne : ¬ nI (rw * cl) + 1 = 0 := fun z => by
    rw [nI_1] at z
    have := (nI_eq (b := 0) (by omega) (by decide)).mp z
    omega
  have fin : ∀ x, rs_ ru e c k U V N x → ¬ ((v &&& (15 : Int32)) = 0 ∧ ((v >>> ((4 : Int32) &&& 31)) &&& (3 : Int32)) = 0) → ∃ (r : Int32) (c1 k1 : Nat) (N1 : Nat → ns_T) (ru1 : Nat), (x.bind fun ⟨x106, c107, k108, U109, V110, N111⟩ => some (x106, c107, k108, U109, V110, N111)) = some (r, c1, k1, U, V, N1) ∧ ((r < 0 ∧ ¬ r = -9 ∧ c1 = c ∧ k1 = k ∧ N1 = N) ∨ ((0 ≤ r ∨ r = -9) ∧ c1 = cn_s c ∧ k1 = kn_s k ∧ (∃ n1, N1 = va_up (va_up N (kn_s k + 1) (N 0)) 0 n1) ∧ nt_ ru1 (e + 1) (N1 0) ∧ nI ru1 = if (v &&& (15 : Int32)) = 0 then (if ((v >>> ((4 : Int32) &&& 31)) &&& (3 : Int32)) = 0 then (2 : Int32) + ((v >>> ((12 : Int32) &&& 31)) &&& (1 : Int32)) else nI ru) else nI ru)) := by
    intro x hx hv
    rcases hx with ⟨r, rfl, h1, h2⟩ | ⟨r, n1, rfl, h1, h2⟩
    · exact ⟨r, c, k, N, ru, rfl, Or.inl ⟨h1, h2, rfl, rfl, rfl⟩⟩
    · refine ⟨r, _, _, _, ru, rfl, Or.inr ⟨h1, rfl, rfl, ⟨n1, rfl⟩, by rw [va_up_self]; exact h2, ?_⟩⟩
      by_cases g : (v &&& (15 : Int32)) = 0
      · rw [if_pos g, if_neg (fun z => hv ⟨g, z⟩)]
      · rw [if_neg g]
  unfold m4_does
  rw [v4_cells hn, bd_s]
  by_cases g0 : (v &&& (15 : Int32)) = 0
  · rw [if_pos g0]
    by_cases g1 : ((v >>> ((4 : Int32) &&& 31)) &&& (3 : Int32)) = 0
    · obtain ⟨x1, hx1⟩ := low_ok (v := v >>> ((6 : Int32) &&& 31)) (n := 6) (by decide)
      obtain ⟨x2, hx2⟩ := low_ok (v := v >>> ((9 : Int32) &&& 31)) (n := 5) (by decide)
      obtain ⟨x3, hx3⟩ := low_ok (v := v >>> ((13 : Int32) &&& 31)) (n := 4) (by decide)
      rw [if_pos g1, hx1, bd_s, hx2, bd_s, hx3, bd_s, if_pos g0, if_pos g1]
      rcases do_configure (U := U) (V := V) hk hc h x1 ((1 : Int32) + x2) ((2 : Int32) + ((v >>> ((12 : Int32) &&& 31)) &&& (1 : Int32))) ((1 : Int32) + x3) with ⟨r, e1, h1, h2⟩ | ⟨r, n1, ru1, e1, h1, h2, h3⟩
      · rw [e1]
        exact ⟨r, c, k, N, ru, rfl, Or.inl ⟨h1, h2, rfl, rfl, rfl⟩⟩
      · rw [e1]
        exact ⟨r, _, _, _, ru1, rfl, Or.inr ⟨h1, rfl, rfl, ⟨n1, rfl⟩, by rw [va_up_self]; exact h2, h3.symm⟩⟩
    · obtain ⟨x1, hx1⟩ := low_ok (v := v >>> ((6 : Int32) &&& 31)) (n := 4) (by decide)
      rw [if_neg g1, hx1, bd_s]
      exact fin _ (do_setStrategy hk hc h x1) (fun z => g1 z.2)
  · have hv : ¬ ((v &&& (15 : Int32)) = 0 ∧ ((v >>> ((4 : Int32) &&& 31)) &&& (3 : Int32)) = 0) := fun z => g0 z.1
    have hend : ∃ x1, mj_low (v >>> ((4 : Int32) &&& 31)) 24 = some x1 := low_ok (by decide)
    obtain ⟨y1, hy1⟩ := hend
    obtain ⟨y2, hy2⟩ := low_ok (v := v >>> ((9 : Int32) &&& 31)) hne
    have hE : ∃ (r : Int32) (c1 k1 : Nat) (N1 : Nat → ns_T) (ru1 : Nat), ((m4_endCall c k U V N y1).bind fun ⟨x106, c107, k108, U109, V110, N111⟩ => some (x106, c107, k108, U109, V110, N111)) = some (r, c1, k1, U, V, N1) ∧ _ := fin _ (do_endCall hk hc h y1) hv
    have hH : ∃ (r : Int32) (c1 k1 : Nat) (N1 : Nat → ns_T) (ru1 : Nat), ((m4_handOver c k U V N y1 y2).bind fun ⟨x106, c107, k108, U109, V110, N111⟩ => some (x106, c107, k108, U109, V110, N111)) = some (r, c1, k1, U, V, N1) ∧ _ := fin _ (do_handOver hk hc h y1 y2) hv
    rw [if_neg g0]
    by_cases g1 : (v &&& (15 : Int32)) = 1
    · obtain ⟨x1, hx1⟩ := low_ok (v := v >>> ((4 : Int32) &&& 31)) (n := 5) (by decide)
      rw [if_pos g1, hx1, bd_s]
      exact fin _ (do_setReserve hk hc h x1) hv
    · rw [if_neg g1]
      by_cases g2 : (v &&& (15 : Int32)) = 2
      · obtain ⟨x1, hx1⟩ := low_ok (v := v >>> ((4 : Int32) &&& 31)) (n := 3) (by decide)
        rw [if_pos g2, hx1, bd_s]
        exact fin _ (do_setReturning hk hc h x1) hv
      · rw [if_neg g2]
        by_cases g3 : (v &&& (15 : Int32)) = 3
        · rw [if_pos g3, hy1, bd_s]; exact hE
        · rw [if_neg g3]
          by_cases g4 : (v &&& (15 : Int32)) = 4
          · rw [if_pos g4, hy1, bd_s]; exact hE
          · rw [if_neg g4, hy1, hy2, bd_s]
            by_cases g5 : (v &&& (15 : Int32)) = 5
            · rw [if_pos g5, bd_s]; exact hH
            · rw [if_neg g5]
              by_cases g6 : (v &&& (15 : Int32)) = 6
              · rw [if_pos g6, bd_s]; exact hH
              · rw [if_neg g6]
                by_cases g7 : (v &&& (15 : Int32)) = 7
                · rw [if_pos g7]; exact hH
                · rw [if_neg g7]
                  obtain ⟨x1, hx1⟩ := low_ok (v := v >>> ((4 : Int32) &&& 31)) hne
                  rw [hx1, bd_s]
                  exact fin _ (do_startCall hk hc h x1) hv
end DO
