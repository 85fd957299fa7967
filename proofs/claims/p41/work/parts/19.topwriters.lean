theorem oc_6 {A B C E F G : Type} {a a' : A} {b b' : B} {c c' : C} {e e' : E} {f f' : F} {g g' : G} (h : some (a, b, c, e, f, g) = some (a', b', c', e', f', g')) : a = a' ∧ b = b' ∧ c = c' ∧ e = e' ∧ f = f' ∧ g = g' := by
  have h1 := Option.some.inj h
  exact ⟨congrArg Prod.fst h1, congrArg (fun q => q.2.1) h1, congrArg (fun q => q.2.2.1) h1, congrArg (fun q => q.2.2.2.1) h1, congrArg (fun q => q.2.2.2.2.1) h1, congrArg (fun q => q.2.2.2.2.2) h1⟩
section TPM
variable {D : va_G} {y : Nat → ClassId} {P P' : Nat → Prop} {ad NB : Nat → Nat → Nat} {p : Nat → Bool} {h : Nat → Int32} {U : Nat → Int32} {V : Nat → Nat → Int32} {N : Nat → ns_T} {H H1 : Heap}
theorem tp_mono (T : tp_e D y P ad NB p h U V N H) (hPP : ∀ q, P q → P' q) : tp_e D y P' ad NB p h U V N H := ⟨T.1, fun i j hv => hPP _ (T.2.1 i j hv), fun i k hp hk => ⟨hPP _ (T.2.2.1 i k hp hk).1, (T.2.2.1 i k hp hk).2⟩, T.2.2.2⟩
theorem pu_in {PP P0 : Nat → Prop} {sz0 sz : Nat} (hPP : PP = pu_s P0 sz0) (hz : sz0 ≤ sz) : ∀ q, pu_s PP sz q → PP q := by
  rintro q (hq | hq)
  · exact hq
  · rw [hPP]; exact Or.inr (Nat.le_trans hz hq)
theorem rgt_in {P0 : Nat → Prop} {sz0 sz i : Nat} (hPP : P = pu_s P0 sz0) (T : tp_e D y P ad NB p h U V N H) (hv : ∀ {j : Nat}, j < 5 → vz p i j) (hz : sz0 ≤ sz) : ∀ q, rg_s 5 (ad i) sz q → P q := by
  rintro q (⟨j, hj, rfl⟩ | hq)
  · exact T.2.1 _ _ (hv hj)
  · rw [hPP]; exact Or.inr (Nat.le_trans hz hq)
/-- the live net's cells have changed -/
theorem tp_M (T : tp_e D y P ad NB p h U V N H) {F1 : Nat → Int32} {R1 : Nat → Nat → Int32} (hk : ∀ q : Nat, q < H.size → ¬ rg_s 5 (ad 0) H.size q → H1[q]? = H[q]?) (hN : va_P D vwCl (w2_s y (NB 0 0) (ad 0) F1 R1) H1) : tp_e D y P ad NB p h U V (va_up N 0 (F1, R1, (N 0).2.2)) H1 := by
  have hlt : ∀ i j, vz p i j → ad i j < H.size := by
    rintro i j (⟨hi, hj⟩ | ⟨rfl, hj⟩ | ⟨rfl, hj⟩)
    · exact lt_of (tp_n T hi) (B := ad i) (k := 5) rfl j hj
    · exact lt_of (tp_t T) (B := ad 9) (k := 4) rfl j hj
    · exact lt_of (tp_s T) (B := ad 10) (k := 5) rfl j hj
  have hX : ∀ i j, vz p i j → i ≠ 0 → ¬ rg_s 5 (ad 0) H.size (ad i j) := by
    rintro i j hv hn (⟨j', hj', e⟩ | hge)
    · exact hn (T.1 i j 0 j' hv (vz_n pz_0 hj') e).1
    · have := hlt i j hv
      omega
  have hXB : ∀ i k, pz p i → k < 6 → ¬ rg_s 5 (ad 0) H.size (NB i k) := by
    rintro i k hp hk6 (⟨j', hj', e⟩ | hge)
    · exact (T.2.2.1 i k hp hk6).2 0 j' (vz_n pz_0 hj') e
    · have := lt_of (tp_l T hp) (B := NB i) (k := 6) rfl k hk6
      omega
  have R := tp_N T pz_0 (NB 0) (F1, R1, (N 0).2.2) (fun _ h => h) _ hX hXB hk hN (kp_P (n := 6) (A := NB 0) _ (tp_l T pz_0) rfl hk (fun k hk6 => hXB 0 k pz_0 hk6)) (fun k hk6 => T.2.2.1 0 k pz_0 hk6)
  have e : va_up NB 0 (NB 0) = NB := by
    funext i
    unfold va_up
    split
    · next h => rw [h]
    · rfl
  rw [e] at R
  exact R
/-- the script's cells have changed -/
theorem tp_MS (T : tp_e D y P ad NB p h U V N H) {U1 : Nat → Int32} {V1 : Nat → Nat → Int32} (hk : ∀ q : Nat, q < H.size → ¬ rg_s 5 (ad 10) H.size q → H1[q]? = H[q]?) (hN : va_P D vwCl (w3_s y (ad 10) U1 V1) H1) : tp_e D y P ad NB p h U1 V1 N H1 := by
  have hlt : ∀ i j, vz p i j → ad i j < H.size := by
    rintro i j (⟨hi, hj⟩ | ⟨rfl, hj⟩ | ⟨rfl, hj⟩)
    · exact lt_of (tp_n T hi) (B := ad i) (k := 5) rfl j hj
    · exact lt_of (tp_t T) (B := ad 9) (k := 4) rfl j hj
    · exact lt_of (tp_s T) (B := ad 10) (k := 5) rfl j hj
  have hX : ∀ i j, vz p i j → i ≠ 10 → ¬ rg_s 5 (ad 10) H.size (ad i j) := by
    rintro i j hv hn (⟨j', hj', e⟩ | hge)
    · exact hn (T.1 i j 10 j' hv (vz_s hj') e).1
    · have := hlt i j hv
      omega
  refine ⟨T.1, T.2.1, T.2.2.1, kp_P (n := 4) (A := ad 9) _ (tp_t T) rfl hk (fun j hj => hX 9 j (vz_t hj) (by omega)), hN, fun i hp => ⟨kp_P (n := 5) (A := ad i) _ (tp_n T hp) rfl hk (fun j hj => hX i j (vz_n hp hj) (by have := pz_9 hp; omega)), kp_P (n := 6) (A := NB i) _ (tp_l T hp) rfl hk (fun k hk6 => ?_)⟩⟩
  rintro (⟨j', hj', e⟩ | hge)
  · exact (T.2.2.1 i k hp hk6).2 10 j' (vz_s hj') e
  · have := lt_of (tp_l T hp) (B := NB i) (k := 6) rfl k hk6
    omega
/-- a field of the live net -/
theorem tp_put (T : tp_e D y P ad NB p h U V N H) (F1 : Nat → Int32) (ha : va_at D vwCl (ad 0 0, .inr (2, [.ref (NB 0 0), .int (F1 1), .int (F1 2), .int (F1 3), .int (F1 4), .int (F1 5), .int (F1 6), .int (F1 7), .int (F1 8), .int (F1 9), .int (F1 10), .ref (ad 0 1), .ref (ad 0 2), .ref (ad 0 3), .ref (ad 0 4)])) H1) (ho : ∀ q : Nat, q ≠ ad 0 0 → H1[q]? = H[q]?) : tp_e D y P ad NB p h U V (va_up N 0 (F1, (N 0).2)) H1 := by
  refine tp_M (F1 := F1) (R1 := (N 0).2.1) T (fun q hq hn => ho q (fun e => hn (Or.inl ⟨0, by decide, e⟩))) (fun k q hq => ?_)
  have hne : ∀ j, j < 5 → j ≠ 0 → ad 0 j ≠ ad 0 0 := fun j hj hn e => hn (T.1 0 j 0 0 (vz_n pz_0 hj) (vz_n pz_0 (by decide)) e).2
  match k, hq with
  | 0, hq => cases hq; exact ha
  | 1, hq => cases hq; exact (tp_n T pz_0 1 _ rfl).kept (ho _ (hne 1 (by decide) (by decide)))
  | 2, hq => cases hq; exact (tp_n T pz_0 2 _ rfl).kept (ho _ (hne 2 (by decide) (by decide)))
  | 3, hq => cases hq; exact (tp_n T pz_0 3 _ rfl).kept (ho _ (hne 3 (by decide) (by decide)))
  | 4, hq => cases hq; exact (tp_n T pz_0 4 _ rfl).kept (ho _ (hne 4 (by decide) (by decide)))
  | k + 5, hq => cases hq
/-- a field of the script -/
theorem tp_pus (T : tp_e D y P ad NB p h U V N H) (U1 : Nat → Int32) (ha : va_at D vwCl (ad 10 0, .inr (3, [.int (U1 0), .int (U1 1), .int (U1 2), .ref (ad 10 1), .ref (ad 10 2), .ref (ad 10 3), .ref (ad 10 4)])) H1) (ho : ∀ q : Nat, q ≠ ad 10 0 → H1[q]? = H[q]?) : tp_e D y P ad NB p h U1 V N H1 := by
  refine tp_MS (U1 := U1) (V1 := V) T (fun q hq hn => ho q (fun e => hn (Or.inl ⟨0, by decide, e⟩))) (fun k q hq => ?_)
  have hne : ∀ j, j < 5 → j ≠ 0 → ad 10 j ≠ ad 10 0 := fun j hj hn e => hn (T.1 10 j 10 0 (vz_s hj) (vz_s (by decide)) e).2
  match k, hq with
  | 0, hq => cases hq; exact ha
  | 1, hq => cases hq; exact (tp_s T 1 _ rfl).kept (ho _ (hne 1 (by decide) (by decide)))
  | 2, hq => cases hq; exact (tp_s T 2 _ rfl).kept (ho _ (hne 2 (by decide) (by decide)))
  | 3, hq => cases hq; exact (tp_s T 3 _ rfl).kept (ho _ (hne 3 (by decide) (by decide)))
  | 4, hq => cases hq; exact (tp_s T 4 _ rfl).kept (ho _ (hne 4 (by decide) (by decide)))
  | k + 5, hq => cases hq
end TPM

/-! X4_setStrategy -/
def m4_setStrategy (c0 : Nat) (k : Nat) (U : (Nat → Int32)) (V : (Nat → Nat → Int32)) (N : (Nat → ns_T)) (a1 : Int32) : Option (Int32 × Nat × Nat × (Nat → Int32) × (Nat → Nat → Int32) × (Nat → ns_T)) :=
  (m4_isBetween a1 (0 : Int32) (2 : Int32)).bind fun v2 =>
  if v2 = 0 then
  some ((-1 : Int32), c0, k, U, V, N)
  else
  if k < 6 ∧ c0 ≤ 6 ∧ (N 0).1 3 &&& 1 = (N 0).1 3 then
  lt_ (va_up N (kn_s k + 1) (N 0)) fun (N5 : Nat → ns_T) =>
  lt_ (va_up N5 0 (va_up (N5 0).1 1 a1, (N5 0).2)) fun (N6 : Nat → ns_T) =>
  some (((N5 0).1 1), (cn_s c0), (kn_s k), U, V, N6) else none
abbrev rm_X4_setStrategy : Room := { frames := 3, cells := 0, slots := 0, locals := 83 }
set_option maxHeartbeats 4000000 in
set_option maxRecDepth 100000 in
theorem c_X4_setStrategy (l : Launch) (D : va_G) (y : Nat → ClassId) (P : Nat → Prop) (ad NB : Nat → Nat → Nat) (p0 : Nat → Bool) (c0 : Nat) (k : Nat) (U : (Nat → Int32)) (V : (Nat → Nat → Int32)) (N : (Nat → ns_T)) (a1 : Int32) (rr : Int32) (c1 k1 : Nat) (U1 : (Nat → Int32)) (V1 : (Nat → Nat → Int32)) (N1 : Nat → ns_T) (sz : Nat) (hm : m4_setStrategy c0 k U V N a1 = some (rr, c1, k1, U1, V1, N1)) : Met l yX4_setStrategy (wy_s yX4_setStrategy cX4_setStrategy 3 (some .int)) rm_X4_setStrategy (pc_R D y [.ref (ad 9 0), .int a1] (fun H => H.size = sz ∧ tp_e D y P ad NB p0 (hh_s c0 k) U V N H)) (qc_W (some (.int rr)) (fun H => ∃ NB1 : Nat → Nat → Nat, tp_e D y (pu_s P sz) ad NB1 p0 (hh_s c1 k1) U1 V1 N1 H) (pu_s P sz)) 0 0 (pu_s P sz) := by
  refine met_W (by decide) (Nat.le_of_ble_eq_true rfl) ?_
  intro p e s m args below meth c X hnm h0 ls hl
  obtain ⟨hsz, hP⟩ := h0
  subst hsz
  obtain ⟨PP, hPP⟩ : ∃ PP, PP = pu_s P s.heap.size := ⟨_, rfl⟩
  rw [← hPP]
  replace hP : tp_e D y PP ad NB p0 (hh_s c0 k) U V N s.heap := tp_mono hP (by rw [hPP]; exact fun q h => Or.inl h)
  have hS : va_S PP s.heap s.heap [] := va_S.rf
  replace hl : lv_has ls 3 [(0, .ref (ad 9 0)), (1, .int a1)] := hl
  replace X : cx p s m args meth c cX4_setStrategy 3 (some .int) RX4 D y := X
  unfold m4_setStrategy at hm
  refine lv_iload_n (cx_x X) (cx_b X) dX4_setStrategy_0 rfl (lv_at hl 1 rfl) ?_
  refine lv_iconst (v := (0 : Int32)) (cx_x X) (cx_b X) dX4_setStrategy_1 (by decide) ?_
  refine lv_iconst (v := (2 : Int32)) (cx_x X) (cx_b X) dX4_setStrategy_2 (by decide) ?_
  obtain ⟨v2, h1, hm⟩ := bnd hm
  refine af_R (rn_S (As := [.int a1, .int (0 : Int32), .int (2 : Int32)]) (rest := []) X (c_X4_isBetween l D y a1 (0 : Int32) (2 : Int32)  _ h1) sq_X4_41 ⟨rfl, rfl⟩ ⟨Nat.le_of_ble_eq_true rfl, Nat.le_of_ble_eq_true rfl⟩ trivial rfl hl.1 rfl (Nat.le_of_ble_eq_true rfl) dX4_setStrategy_3 ⟨Nat.le_of_ble_eq_true rfl, Nat.le_of_ble_eq_true rfl⟩) ?_
  refine lv_if_ne (tgt := 11) (cx_x X) (cx_b X) dX4_setStrategy_6 (by decide) (fun c3 => ?_) (fun c3 => ?_)
  · replace hm := if_F c3 hm
    refine lv_aload_n (cx_x X) (cx_b X) dX4_setStrategy_11 rfl (lv_at hl 0 rfl) ?_
    refine gfW_X4_26 X (tp_t hP) 0 rfl (v := .ref (ad 9 1)) rfl dX4_setStrategy_12 ?_
    refine lv_aload_n (cx_x X) (cx_b X) dX4_setStrategy_15 rfl (lv_at hl 0 rfl) ?_
    refine gfW_X4_19 X (tp_t hP) 0 rfl (v := .ref (ad 0 0)) rfl dX4_setStrategy_16 ?_
    obtain ⟨h4, hm⟩ := ck_E hm
    refine af_W (mc := 0) (ms := 0) (rn_V (As := [.ref (ad 0 0)]) (rest := []) X (c_X0_push l D y PP ad NB p0 c0 k U V N _ h4.1 h4.2.1 h4.2.2) vq_X4_45 ⟨rfl, rfl⟩ ⟨Nat.le_of_ble_eq_true rfl, Nat.le_of_ble_eq_true rfl⟩ (va_recv (cx_K X).1 (tp_t hP) (ci := 0) (q0 := 1) rfl rfl) ⟨rfl, hP⟩ rfl hl.1 rfl (Nat.le_of_ble_eq_true rfl) dX4_setStrategy_19 ⟨Nat.le_of_ble_eq_true rfl, Nat.le_of_ble_eq_true rfl⟩) hS (pu_in hPP hS.1) (fun H locs hP _ _ hS => ?_)
    obtain ⟨NB, hP⟩ : ∃ NB, tp_e D y PP ad NB p0 (hh_s (cn_s c0) (kn_s k)) U V (va_up N (kn_s k + 1) (N 0)) H := ⟨_, hP⟩
    obtain ⟨N5, eN5, hm⟩ := lt_E hm
    rw [← eN5] at hP
    refine lv_aload_n (cx_x X) (cx_b X) dX4_setStrategy_22 rfl (lv_at hl 0 rfl) ?_
    refine gfW_X4_19 X (tp_t hP) 0 rfl (v := .ref (ad 0 0)) rfl dX4_setStrategy_23 ?_
    refine gf_X4_60 X (tp_n hP pz_0) dX4_setStrategy_26 ?_
    refine lv_istore_n (lv' := [(2, .int ((N5 0).1 1)), (0, .ref (ad 9 0)), (1, .int a1)]) (cx_x X) (cx_b X) dX4_setStrategy_29 rfl hl (by decide) rfl (fun ls hl => ?_)
    refine lv_aload_n (cx_x X) (cx_b X) dX4_setStrategy_30 rfl (lv_at hl 1 rfl) ?_
    refine gfW_X4_19 X (tp_t hP) 0 rfl (v := .ref (ad 0 0)) rfl dX4_setStrategy_31 ?_
    refine lv_iload_n (cx_x X) (cx_b X) dX4_setStrategy_34 rfl (lv_at hl 2 rfl) ?_
    refine fx_put X inlX2 tyX2_ok nmX2 (tp_n hP pz_0 0 _ rfl) rfl 1 (by decide) qw_392 (fun _ h => h) rfl (ty := .int) (v := .int a1) (by decide +kernel) rfl rfl (Nat.le_of_ble_eq_true rfl) hS (hP.2.1 0 0 (vz_n pz_0 (by decide))) dX4_setStrategy_35 (fun H locs ha hz1 ho hS => ?_)
    replace hP := tp_put hP (va_up (N5 0).1 1 a1) ha ho
    obtain ⟨N6, eN6, hm⟩ := lt_E hm
    rw [← eN6] at hP
    refine lv_iload_n (cx_x X) (cx_b X) dX4_setStrategy_38 rfl (lv_at hl 0 rfl) ?_
    obtain ⟨rfl, rfl, rfl, rfl, rfl, rfl⟩ := oc_6 hm
    exact gw_i X hS ⟨_, hP⟩ dX4_setStrategy_39
  · replace hm := if_T c3 hm
    refine lv_iconst (v := (-1 : Int32)) (cx_x X) (cx_b X) dX4_setStrategy_9 (by decide) ?_
    obtain ⟨rfl, rfl, rfl, rfl, rfl, rfl⟩ := oc_6 hm
    exact gw_i X hS ⟨_, hP⟩ dX4_setStrategy_10
/-! X4_setReserve -/
def m4_setReserve (c0 : Nat) (k : Nat) (U : (Nat → Int32)) (V : (Nat → Nat → Int32)) (N : (Nat → ns_T)) (a1 : Int32) : Option (Int32 × Nat × Nat × (Nat → Int32) × (Nat → Nat → Int32) × (Nat → ns_T)) :=
  (m4_isBetween a1 (0 : Int32) (3 : Int32)).bind fun v2 =>
  if v2 = 0 then
  some ((-1 : Int32), c0, k, U, V, N)
  else
  if k < 6 ∧ c0 ≤ 6 ∧ (N 0).1 3 &&& 1 = (N 0).1 3 then
  lt_ (va_up N (kn_s k + 1) (N 0)) fun (N5 : Nat → ns_T) =>
  lt_ (va_up N5 0 (va_up (N5 0).1 2 a1, (N5 0).2)) fun (N6 : Nat → ns_T) =>
  some (((N5 0).1 2), (cn_s c0), (kn_s k), U, V, N6) else none
abbrev rm_X4_setReserve : Room := { frames := 3, cells := 0, slots := 0, locals := 83 }
set_option maxHeartbeats 4000000 in
set_option maxRecDepth 100000 in
theorem c_X4_setReserve (l : Launch) (D : va_G) (y : Nat → ClassId) (P : Nat → Prop) (ad NB : Nat → Nat → Nat) (p0 : Nat → Bool) (c0 : Nat) (k : Nat) (U : (Nat → Int32)) (V : (Nat → Nat → Int32)) (N : (Nat → ns_T)) (a1 : Int32) (rr : Int32) (c1 k1 : Nat) (U1 : (Nat → Int32)) (V1 : (Nat → Nat → Int32)) (N1 : Nat → ns_T) (sz : Nat) (hm : m4_setReserve c0 k U V N a1 = some (rr, c1, k1, U1, V1, N1)) : Met l yX4_setReserve (wy_s yX4_setReserve cX4_setReserve 3 (some .int)) rm_X4_setReserve (pc_R D y [.ref (ad 9 0), .int a1] (fun H => H.size = sz ∧ tp_e D y P ad NB p0 (hh_s c0 k) U V N H)) (qc_W (some (.int rr)) (fun H => ∃ NB1 : Nat → Nat → Nat, tp_e D y (pu_s P sz) ad NB1 p0 (hh_s c1 k1) U1 V1 N1 H) (pu_s P sz)) 0 0 (pu_s P sz) := by
  refine met_W (by decide) (Nat.le_of_ble_eq_true rfl) ?_
  intro p e s m args below meth c X hnm h0 ls hl
  obtain ⟨hsz, hP⟩ := h0
  subst hsz
  obtain ⟨PP, hPP⟩ : ∃ PP, PP = pu_s P s.heap.size := ⟨_, rfl⟩
  rw [← hPP]
  replace hP : tp_e D y PP ad NB p0 (hh_s c0 k) U V N s.heap := tp_mono hP (by rw [hPP]; exact fun q h => Or.inl h)
  have hS : va_S PP s.heap s.heap [] := va_S.rf
  replace hl : lv_has ls 3 [(0, .ref (ad 9 0)), (1, .int a1)] := hl
  replace X : cx p s m args meth c cX4_setReserve 3 (some .int) RX4 D y := X
  unfold m4_setReserve at hm
  refine lv_iload_n (cx_x X) (cx_b X) dX4_setReserve_0 rfl (lv_at hl 1 rfl) ?_
  refine lv_iconst (v := (0 : Int32)) (cx_x X) (cx_b X) dX4_setReserve_1 (by decide) ?_
  refine lv_iconst (v := (3 : Int32)) (cx_x X) (cx_b X) dX4_setReserve_2 (by decide) ?_
  obtain ⟨v2, h1, hm⟩ := bnd hm
  refine af_R (rn_S (As := [.int a1, .int (0 : Int32), .int (3 : Int32)]) (rest := []) X (c_X4_isBetween l D y a1 (0 : Int32) (3 : Int32)  _ h1) sq_X4_41 ⟨rfl, rfl⟩ ⟨Nat.le_of_ble_eq_true rfl, Nat.le_of_ble_eq_true rfl⟩ trivial rfl hl.1 rfl (Nat.le_of_ble_eq_true rfl) dX4_setReserve_3 ⟨Nat.le_of_ble_eq_true rfl, Nat.le_of_ble_eq_true rfl⟩) ?_
  refine lv_if_ne (tgt := 11) (cx_x X) (cx_b X) dX4_setReserve_6 (by decide) (fun c3 => ?_) (fun c3 => ?_)
  · replace hm := if_F c3 hm
    refine lv_aload_n (cx_x X) (cx_b X) dX4_setReserve_11 rfl (lv_at hl 0 rfl) ?_
    refine gfW_X4_26 X (tp_t hP) 0 rfl (v := .ref (ad 9 1)) rfl dX4_setReserve_12 ?_
    refine lv_aload_n (cx_x X) (cx_b X) dX4_setReserve_15 rfl (lv_at hl 0 rfl) ?_
    refine gfW_X4_19 X (tp_t hP) 0 rfl (v := .ref (ad 0 0)) rfl dX4_setReserve_16 ?_
    obtain ⟨h4, hm⟩ := ck_E hm
    refine af_W (mc := 0) (ms := 0) (rn_V (As := [.ref (ad 0 0)]) (rest := []) X (c_X0_push l D y PP ad NB p0 c0 k U V N _ h4.1 h4.2.1 h4.2.2) vq_X4_45 ⟨rfl, rfl⟩ ⟨Nat.le_of_ble_eq_true rfl, Nat.le_of_ble_eq_true rfl⟩ (va_recv (cx_K X).1 (tp_t hP) (ci := 0) (q0 := 1) rfl rfl) ⟨rfl, hP⟩ rfl hl.1 rfl (Nat.le_of_ble_eq_true rfl) dX4_setReserve_19 ⟨Nat.le_of_ble_eq_true rfl, Nat.le_of_ble_eq_true rfl⟩) hS (pu_in hPP hS.1) (fun H locs hP _ _ hS => ?_)
    obtain ⟨NB, hP⟩ : ∃ NB, tp_e D y PP ad NB p0 (hh_s (cn_s c0) (kn_s k)) U V (va_up N (kn_s k + 1) (N 0)) H := ⟨_, hP⟩
    obtain ⟨N5, eN5, hm⟩ := lt_E hm
    rw [← eN5] at hP
    refine lv_aload_n (cx_x X) (cx_b X) dX4_setReserve_22 rfl (lv_at hl 0 rfl) ?_
    refine gfW_X4_19 X (tp_t hP) 0 rfl (v := .ref (ad 0 0)) rfl dX4_setReserve_23 ?_
    refine gf_X4_63 X (tp_n hP pz_0) dX4_setReserve_26 ?_
    refine lv_istore_n (lv' := [(2, .int ((N5 0).1 2)), (0, .ref (ad 9 0)), (1, .int a1)]) (cx_x X) (cx_b X) dX4_setReserve_29 rfl hl (by decide) rfl (fun ls hl => ?_)
    refine lv_aload_n (cx_x X) (cx_b X) dX4_setReserve_30 rfl (lv_at hl 1 rfl) ?_
    refine gfW_X4_19 X (tp_t hP) 0 rfl (v := .ref (ad 0 0)) rfl dX4_setReserve_31 ?_
    refine lv_iload_n (cx_x X) (cx_b X) dX4_setReserve_34 rfl (lv_at hl 2 rfl) ?_
    refine fx_put X inlX2 tyX2_ok nmX2 (tp_n hP pz_0 0 _ rfl) rfl 2 (by decide) qw_397 (fun _ h => h) rfl (ty := .int) (v := .int a1) (by decide +kernel) rfl rfl (Nat.le_of_ble_eq_true rfl) hS (hP.2.1 0 0 (vz_n pz_0 (by decide))) dX4_setReserve_35 (fun H locs ha hz1 ho hS => ?_)
    replace hP := tp_put hP (va_up (N5 0).1 2 a1) ha ho
    obtain ⟨N6, eN6, hm⟩ := lt_E hm
    rw [← eN6] at hP
    refine lv_iload_n (cx_x X) (cx_b X) dX4_setReserve_38 rfl (lv_at hl 0 rfl) ?_
    obtain ⟨rfl, rfl, rfl, rfl, rfl, rfl⟩ := oc_6 hm
    exact gw_i X hS ⟨_, hP⟩ dX4_setReserve_39
  · replace hm := if_T c3 hm
    refine lv_iconst (v := (-1 : Int32)) (cx_x X) (cx_b X) dX4_setReserve_9 (by decide) ?_
    obtain ⟨rfl, rfl, rfl, rfl, rfl, rfl⟩ := oc_6 hm
    exact gw_i X hS ⟨_, hP⟩ dX4_setReserve_10
/-! X4_setReturning -/
def m4_setReturning_J36 (c0 : Nat) (k : Nat) (U : (Nat → Int32)) (V : (Nat → Nat → Int32)) (N5 : (Nat → ns_T)) (v6 : Int32) : Option (Int32 × Nat × Nat × (Nat → Int32) × (Nat → Nat → Int32) × (Nat → ns_T)) :=
  if v6 &&& 1 = v6 then
  lt_ (va_up N5 0 (va_up (N5 0).1 3 v6, (N5 0).2)) fun (N9 : Nat → ns_T) =>
  (m2_returnCalls (N9 0).1 (N9 0).2.1 (N9 0).2.2.1 (N9 0).2.2.2).bind fun ⟨v12, F10, R11⟩ =>
  lt_ (va_up N9 0 (F10, R11, (N9 0).2.2)) fun (N14 : Nat → ns_T) =>
  some (v12, (cn_s c0), (kn_s k), U, V, N14) else none
def m4_setReturning (c0 : Nat) (k : Nat) (U : (Nat → Int32)) (V : (Nat → Nat → Int32)) (N : (Nat → ns_T)) (a1 : Int32) : Option (Int32 × Nat × Nat × (Nat → Int32) × (Nat → Nat → Int32) × (Nat → ns_T)) :=
  (m4_isBetween a1 (0 : Int32) (1 : Int32)).bind fun v2 =>
  if v2 = 0 then
  some ((-1 : Int32), c0, k, U, V, N)
  else
  if k < 6 ∧ c0 ≤ 6 ∧ (N 0).1 3 &&& 1 = (N 0).1 3 then
  lt_ (va_up N (kn_s k + 1) (N 0)) fun (N5 : Nat → ns_T) =>
  (if a1 = (1 : Int32) then
  some (1 : Int32)
  else
  some (0 : Int32)).bind fun v6 => m4_setReturning_J36 c0 k U V N5 v6 else none
abbrev rm_X4_setReturning : Room := { frames := 5, cells := 0, slots := 0, locals := 114 }
set_option maxHeartbeats 4000000 in
set_option maxRecDepth 100000 in
theorem c_X4_setReturning (l : Launch) (D : va_G) (y : Nat → ClassId) (P : Nat → Prop) (ad NB : Nat → Nat → Nat) (p0 : Nat → Bool) (c0 : Nat) (k : Nat) (U : (Nat → Int32)) (V : (Nat → Nat → Int32)) (N : (Nat → ns_T)) (a1 : Int32) (rr : Int32) (c1 k1 : Nat) (U1 : (Nat → Int32)) (V1 : (Nat → Nat → Int32)) (N1 : Nat → ns_T) (sz : Nat) (hm : m4_setReturning c0 k U V N a1 = some (rr, c1, k1, U1, V1, N1)) : Met l yX4_setReturning (wy_s yX4_setReturning cX4_setReturning 2 (some .int)) rm_X4_setReturning (pc_R D y [.ref (ad 9 0), .int a1] (fun H => H.size = sz ∧ tp_e D y P ad NB p0 (hh_s c0 k) U V N H)) (qc_W (some (.int rr)) (fun H => ∃ NB1 : Nat → Nat → Nat, tp_e D y (pu_s P sz) ad NB1 p0 (hh_s c1 k1) U1 V1 N1 H) (pu_s P sz)) 0 0 (pu_s P sz) := by
  refine met_W (by decide) (Nat.le_of_ble_eq_true rfl) ?_
  intro p e s m args below meth c X hnm h0 ls hl
  obtain ⟨hsz, hP⟩ := h0
  subst hsz
  obtain ⟨PP, hPP⟩ : ∃ PP, PP = pu_s P s.heap.size := ⟨_, rfl⟩
  rw [← hPP]
  replace hP : tp_e D y PP ad NB p0 (hh_s c0 k) U V N s.heap := tp_mono hP (by rw [hPP]; exact fun q h => Or.inl h)
  have hS : va_S PP s.heap s.heap [] := va_S.rf
  replace hl : lv_has ls 2 [(0, .ref (ad 9 0)), (1, .int a1)] := hl
  replace X : cx p s m args meth c cX4_setReturning 2 (some .int) RX4 D y := X
  unfold m4_setReturning at hm
  refine lv_iload_n (cx_x X) (cx_b X) dX4_setReturning_0 rfl (lv_at hl 1 rfl) ?_
  refine lv_iconst (v := (0 : Int32)) (cx_x X) (cx_b X) dX4_setReturning_1 (by decide) ?_
  refine lv_iconst (v := (1 : Int32)) (cx_x X) (cx_b X) dX4_setReturning_2 (by decide) ?_
  obtain ⟨v2, h1, hm⟩ := bnd hm
  refine af_R (rn_S (As := [.int a1, .int (0 : Int32), .int (1 : Int32)]) (rest := []) X (c_X4_isBetween l D y a1 (0 : Int32) (1 : Int32)  _ h1) sq_X4_41 ⟨rfl, rfl⟩ ⟨Nat.le_of_ble_eq_true rfl, Nat.le_of_ble_eq_true rfl⟩ trivial rfl hl.1 rfl (Nat.le_of_ble_eq_true rfl) dX4_setReturning_3 ⟨Nat.le_of_ble_eq_true rfl, Nat.le_of_ble_eq_true rfl⟩) ?_
  refine lv_if_ne (tgt := 11) (cx_x X) (cx_b X) dX4_setReturning_6 (by decide) (fun c3 => ?_) (fun c3 => ?_)
  · replace hm := if_F c3 hm
    refine lv_aload_n (cx_x X) (cx_b X) dX4_setReturning_11 rfl (lv_at hl 0 rfl) ?_
    refine gfW_X4_26 X (tp_t hP) 0 rfl (v := .ref (ad 9 1)) rfl dX4_setReturning_12 ?_
    refine lv_aload_n (cx_x X) (cx_b X) dX4_setReturning_15 rfl (lv_at hl 0 rfl) ?_
    refine gfW_X4_19 X (tp_t hP) 0 rfl (v := .ref (ad 0 0)) rfl dX4_setReturning_16 ?_
    obtain ⟨h4, hm⟩ := ck_E hm
    refine af_W (mc := 0) (ms := 0) (rn_V (As := [.ref (ad 0 0)]) (rest := []) X (c_X0_push l D y PP ad NB p0 c0 k U V N _ h4.1 h4.2.1 h4.2.2) vq_X4_45 ⟨rfl, rfl⟩ ⟨Nat.le_of_ble_eq_true rfl, Nat.le_of_ble_eq_true rfl⟩ (va_recv (cx_K X).1 (tp_t hP) (ci := 0) (q0 := 1) rfl rfl) ⟨rfl, hP⟩ rfl hl.1 rfl (Nat.le_of_ble_eq_true rfl) dX4_setReturning_19 ⟨Nat.le_of_ble_eq_true rfl, Nat.le_of_ble_eq_true rfl⟩) hS (pu_in hPP hS.1) (fun H locs hP _ _ hS => ?_)
    obtain ⟨NB, hP⟩ : ∃ NB, tp_e D y PP ad NB p0 (hh_s (cn_s c0) (kn_s k)) U V (va_up N (kn_s k + 1) (N 0)) H := ⟨_, hP⟩
    obtain ⟨N5, eN5, hm⟩ := lt_E hm
    rw [← eN5] at hP
    refine lv_aload_n (cx_x X) (cx_b X) dX4_setReturning_22 rfl (lv_at hl 0 rfl) ?_
    refine gfW_X4_19 X (tp_t hP) 0 rfl (v := .ref (ad 0 0)) rfl dX4_setReturning_23 ?_
    refine lv_iload_n (cx_x X) (cx_b X) dX4_setReturning_26 rfl (lv_at hl 1 rfl) ?_
    refine lv_iconst (v := (1 : Int32)) (cx_x X) (cx_b X) dX4_setReturning_27 (by decide) ?_
    obtain ⟨qt7, hm, hmt7⟩ := bnd hm
    have Jt7 : ∀ (v6 : Int32) , m4_setReturning_J36 c0 k U V N5 v6 = some (rr, c1, k1, U1, V1, N1) → ∀ (H : Heap) (locs : List Loc) (NB : Nat → Nat → Nat), tp_e D y PP ad NB p0 (hh_s (cn_s c0) (kn_s k)) U V N5 H → va_S PP s.heap H locs → ∀ ls, lv_has ls 2 [(0, .ref (ad 9 0))] → gw p l e rm_X4_setReturning s m args below meth c (some (.int rr)) (fun H => ∃ NB1 : Nat → Nat → Nat, tp_e D y PP ad NB1 p0 (hh_s c1 k1) U1 V1 N1 H) PP 0 0 H locs (F0 m 36 ls [.int v6, .ref (ad 0 0)]) := by
      intro v6 hm H locs NB hP hS ls hl
      unfold m4_setReturning_J36 at hm
      obtain ⟨h8, hm⟩ := ck_E hm
      refine fx_put X inlX2 tyX2_ok nmX2 (tp_n hP pz_0 0 _ rfl) rfl 3 (by decide) qw_402 (fun _ h => h) rfl (ty := .boolean) (v := .int v6) (by decide +kernel) (by show Value.int (_ &&& 1) = _; rw [h8]) (by rw [← h8]; exact fit_z _) (Nat.le_of_ble_eq_true rfl) hS (hP.2.1 0 0 (vz_n pz_0 (by decide))) dX4_setReturning_36 (fun H locs ha hz1 ho hS => ?_)
      replace hP := tp_put hP (va_up (N5 0).1 3 v6) ha ho
      obtain ⟨N9, eN9, hm⟩ := lt_E hm
      rw [← eN9] at hP
      refine lv_aload_n (cx_x X) (cx_b X) dX4_setReturning_39 rfl (lv_at hl 0 rfl) ?_
      refine gfW_X4_19 X (tp_t hP) 0 rfl (v := .ref (ad 0 0)) rfl dX4_setReturning_40 ?_
      obtain ⟨⟨v12, F10, R11⟩, h13, hm⟩ := bnd hm
      try dsimp only at hm
      refine af_W (mc := 0) (ms := 0) (rn_V (As := []) (rest := []) X (c_X2_returnCalls l D y (ad 0) (NB 0) (N9 0).1 (N9 0).2.1 (N9 0).2.2.1 (N9 0).2.2.2 v12 F10 R11 _ (tp_aj hP pz_0) (tp_ax hP pz_0 pz_0) h13) vq_X4_70 ⟨rfl, rfl⟩ ⟨Nat.le_of_ble_eq_true rfl, Nat.le_of_ble_eq_true rfl⟩ (rec_2 X (tp_n hP pz_0)) ⟨rfl, tp_n hP pz_0, tp_l hP pz_0⟩ rfl hl.1 rfl (Nat.le_of_ble_eq_true rfl) dX4_setReturning_43 ⟨Nat.le_of_ble_eq_true rfl, Nat.le_of_ble_eq_true rfl⟩) hS (rgt_in hPP hP (vz_n pz_0) hS.1) (fun H1 locs1 hP1 hz1 hk1 hS => ?_)
      replace hP := tp_M hP hk1 hP1
      generalize H1 = H at hP hS ⊢
      generalize locs1 = locs at hS ⊢
      obtain ⟨N14, eN14, hm⟩ := lt_E hm
      rw [← eN14] at hP
      obtain ⟨rfl, rfl, rfl, rfl, rfl, rfl⟩ := oc_6 hm
      exact gw_i X hS ⟨_, hP⟩ dX4_setReturning_46
    refine lv_icmp_ne (tgt := 35) (cx_x X) (cx_b X) dX4_setReturning_28 (by decide) (fun c15 => ?_) (fun c15 => ?_)
    · replace hm := if_F c15 hm
      refine lv_iconst (v := (0 : Int32)) (cx_x X) (cx_b X) dX4_setReturning_35 (by decide) ?_
      exact Jt7 _ (by cases hm; exact hmt7) _ _ _ hP hS _ (lv_sub hl [0] rfl)
    · replace hm := if_T c15 hm
      refine lv_iconst (v := (1 : Int32)) (cx_x X) (cx_b X) dX4_setReturning_31 (by decide) ?_
      refine lv_goto (tgt := 36) (cx_x X) (cx_b X) dX4_setReturning_32 (by decide) ?_
      exact Jt7 _ (by cases hm; exact hmt7) _ _ _ hP hS _ (lv_sub hl [0] rfl)
  · replace hm := if_T c3 hm
    refine lv_iconst (v := (-1 : Int32)) (cx_x X) (cx_b X) dX4_setReturning_9 (by decide) ?_
    obtain ⟨rfl, rfl, rfl, rfl, rfl, rfl⟩ := oc_6 hm
    exact gw_i X hS ⟨_, hP⟩ dX4_setReturning_10
/-! X4_startCall -/
def m4_startCall (c0 : Nat) (k : Nat) (U : (Nat → Int32)) (V : (Nat → Nat → Int32)) (N : (Nat → ns_T)) (a1 : Int32) : Option (Int32 × Nat × Nat × (Nat → Int32) × (Nat → Nat → Int32) × (Nat → ns_T)) :=
  (m2_startError (N 0).1 (N 0).2.1 (N 0).2.2.1 (N 0).2.2.2 a1).bind fun v2 =>
  if v2 = 0 then
  if k < 6 ∧ c0 ≤ 6 ∧ (N 0).1 3 &&& 1 = (N 0).1 3 then
  lt_ (va_up N (kn_s k + 1) (N 0)) fun (N5 : Nat → ns_T) =>
  (m2_start (N5 0).1 (N5 0).2.1 (N5 0).2.2.1 (N5 0).2.2.2 a1).bind fun ⟨v8, F6, R7⟩ =>
  lt_ (va_up N5 0 (F6, R7, (N5 0).2.2)) fun (N10 : Nat → ns_T) =>
  some (v8, (cn_s c0), (kn_s k), U, V, N10) else none
  else
  some (v2, c0, k, U, V, N)
abbrev rm_X4_startCall : Room := { frames := 6, cells := 0, slots := 0, locals := 145 }
set_option maxHeartbeats 4000000 in
set_option maxRecDepth 100000 in
theorem c_X4_startCall (l : Launch) (D : va_G) (y : Nat → ClassId) (P : Nat → Prop) (ad NB : Nat → Nat → Nat) (p0 : Nat → Bool) (c0 : Nat) (k : Nat) (U : (Nat → Int32)) (V : (Nat → Nat → Int32)) (N : (Nat → ns_T)) (a1 : Int32) (rr : Int32) (c1 k1 : Nat) (U1 : (Nat → Int32)) (V1 : (Nat → Nat → Int32)) (N1 : Nat → ns_T) (sz : Nat) (hm : m4_startCall c0 k U V N a1 = some (rr, c1, k1, U1, V1, N1)) : Met l yX4_startCall (wy_s yX4_startCall cX4_startCall 3 (some .int)) rm_X4_startCall (pc_R D y [.ref (ad 9 0), .int a1] (fun H => H.size = sz ∧ tp_e D y P ad NB p0 (hh_s c0 k) U V N H)) (qc_W (some (.int rr)) (fun H => ∃ NB1 : Nat → Nat → Nat, tp_e D y (pu_s P sz) ad NB1 p0 (hh_s c1 k1) U1 V1 N1 H) (pu_s P sz)) 0 0 (pu_s P sz) := by
  refine met_W (by decide) (Nat.le_of_ble_eq_true rfl) ?_
  intro p e s m args below meth c X hnm h0 ls hl
  obtain ⟨hsz, hP⟩ := h0
  subst hsz
  obtain ⟨PP, hPP⟩ : ∃ PP, PP = pu_s P s.heap.size := ⟨_, rfl⟩
  rw [← hPP]
  replace hP : tp_e D y PP ad NB p0 (hh_s c0 k) U V N s.heap := tp_mono hP (by rw [hPP]; exact fun q h => Or.inl h)
  have hS : va_S PP s.heap s.heap [] := va_S.rf
  replace hl : lv_has ls 3 [(0, .ref (ad 9 0)), (1, .int a1)] := hl
  replace X : cx p s m args meth c cX4_startCall 3 (some .int) RX4 D y := X
  unfold m4_startCall at hm
  refine lv_aload_n (cx_x X) (cx_b X) dX4_startCall_0 rfl (lv_at hl 0 rfl) ?_
  refine gfW_X4_19 X (tp_t hP) 0 rfl (v := .ref (ad 0 0)) rfl dX4_startCall_1 ?_
  refine lv_iload_n (cx_x X) (cx_b X) dX4_startCall_4 rfl (lv_at hl 1 rfl) ?_
  obtain ⟨v2, h1, hm⟩ := bnd hm
  refine af_R (rn_V (As := [.int a1]) (rest := []) X (c_X2_startError l D y (ad 0) (NB 0) (N 0).1 (N 0).2.1 (N 0).2.2.1 (N 0).2.2.2 a1  _ h1) vq_X4_89 ⟨rfl, rfl⟩ ⟨Nat.le_of_ble_eq_true rfl, Nat.le_of_ble_eq_true rfl⟩ (rec_2 X (tp_n hP pz_0)) ⟨(tp_n hP pz_0), (tp_l hP pz_0)⟩ rfl hl.1 rfl (Nat.le_of_ble_eq_true rfl) dX4_startCall_5 ⟨Nat.le_of_ble_eq_true rfl, Nat.le_of_ble_eq_true rfl⟩) ?_
  refine lv_istore_n (lv' := [(2, .int v2), (0, .ref (ad 9 0)), (1, .int a1)]) (cx_x X) (cx_b X) dX4_startCall_8 rfl hl (by decide) rfl (fun ls hl => ?_)
  refine lv_iload_n (cx_x X) (cx_b X) dX4_startCall_9 rfl (lv_at hl 0 rfl) ?_
  refine lv_if_eq (tgt := 15) (cx_x X) (cx_b X) dX4_startCall_10 (by decide) (fun c3 => ?_) (fun c3 => ?_)
  · replace hm := if_T c3 hm
    refine lv_aload_n (cx_x X) (cx_b X) dX4_startCall_15 rfl (lv_at hl 1 rfl) ?_
    refine gfW_X4_26 X (tp_t hP) 0 rfl (v := .ref (ad 9 1)) rfl dX4_startCall_16 ?_
    refine lv_aload_n (cx_x X) (cx_b X) dX4_startCall_19 rfl (lv_at hl 1 rfl) ?_
    refine gfW_X4_19 X (tp_t hP) 0 rfl (v := .ref (ad 0 0)) rfl dX4_startCall_20 ?_
    obtain ⟨h4, hm⟩ := ck_E hm
    refine af_W (mc := 0) (ms := 0) (rn_V (As := [.ref (ad 0 0)]) (rest := []) X (c_X0_push l D y PP ad NB p0 c0 k U V N _ h4.1 h4.2.1 h4.2.2) vq_X4_45 ⟨rfl, rfl⟩ ⟨Nat.le_of_ble_eq_true rfl, Nat.le_of_ble_eq_true rfl⟩ (va_recv (cx_K X).1 (tp_t hP) (ci := 0) (q0 := 1) rfl rfl) ⟨rfl, hP⟩ rfl hl.1 rfl (Nat.le_of_ble_eq_true rfl) dX4_startCall_23 ⟨Nat.le_of_ble_eq_true rfl, Nat.le_of_ble_eq_true rfl⟩) hS (pu_in hPP hS.1) (fun H locs hP _ _ hS => ?_)
    obtain ⟨NB, hP⟩ : ∃ NB, tp_e D y PP ad NB p0 (hh_s (cn_s c0) (kn_s k)) U V (va_up N (kn_s k + 1) (N 0)) H := ⟨_, hP⟩
    obtain ⟨N5, eN5, hm⟩ := lt_E hm
    rw [← eN5] at hP
    refine lv_aload_n (cx_x X) (cx_b X) dX4_startCall_26 rfl (lv_at hl 1 rfl) ?_
    refine gfW_X4_19 X (tp_t hP) 0 rfl (v := .ref (ad 0 0)) rfl dX4_startCall_27 ?_
    refine lv_iload_n (cx_x X) (cx_b X) dX4_startCall_30 rfl (lv_at hl 2 rfl) ?_
    obtain ⟨⟨v8, F6, R7⟩, h9, hm⟩ := bnd hm
    try dsimp only at hm
    refine af_W (mc := 0) (ms := 0) (rn_V (As := [.int a1]) (rest := []) X (c_X2_start l D y (ad 0) (NB 0) (N5 0).1 (N5 0).2.1 (N5 0).2.2.1 (N5 0).2.2.2 a1 v8 F6 R7 _ (tp_aj hP pz_0) (tp_ax hP pz_0 pz_0) h9) vq_X4_92 ⟨rfl, rfl⟩ ⟨Nat.le_of_ble_eq_true rfl, Nat.le_of_ble_eq_true rfl⟩ (rec_2 X (tp_n hP pz_0)) ⟨rfl, tp_n hP pz_0, tp_l hP pz_0⟩ rfl hl.1 rfl (Nat.le_of_ble_eq_true rfl) dX4_startCall_31 ⟨Nat.le_of_ble_eq_true rfl, Nat.le_of_ble_eq_true rfl⟩) hS (rgt_in hPP hP (vz_n pz_0) hS.1) (fun H1 locs1 hP1 hz1 hk1 hS => ?_)
    replace hP := tp_M hP hk1 hP1
    generalize H1 = H at hP hS ⊢
    generalize locs1 = locs at hS ⊢
    obtain ⟨N10, eN10, hm⟩ := lt_E hm
    rw [← eN10] at hP
    obtain ⟨rfl, rfl, rfl, rfl, rfl, rfl⟩ := oc_6 hm
    exact gw_i X hS ⟨_, hP⟩ dX4_startCall_34
  · replace hm := if_F c3 hm
    refine lv_iload_n (cx_x X) (cx_b X) dX4_startCall_13 rfl (lv_at hl 0 rfl) ?_
    obtain ⟨rfl, rfl, rfl, rfl, rfl, rfl⟩ := oc_6 hm
    exact gw_i X hS ⟨_, hP⟩ dX4_startCall_14
/-! X4_endCall -/
def m4_endCall (c0 : Nat) (k : Nat) (U : (Nat → Int32)) (V : (Nat → Nat → Int32)) (N : (Nat → ns_T)) (a1 : Int32) : Option (Int32 × Nat × Nat × (Nat → Int32) × (Nat → Nat → Int32) × (Nat → ns_T)) :=
  (m2_isPresent (N 0).1 (N 0).2.1 (N 0).2.2.1 (N 0).2.2.2 a1).bind fun v2 =>
  if v2 = 0 then
  some ((-4 : Int32), c0, k, U, V, N)
  else
  if k < 6 ∧ c0 ≤ 6 ∧ (N 0).1 3 &&& 1 = (N 0).1 3 then
  lt_ (va_up N (kn_s k + 1) (N 0)) fun (N5 : Nat → ns_T) =>
  (m2_end (N5 0).1 (N5 0).2.1 (N5 0).2.2.1 (N5 0).2.2.2 a1).bind fun ⟨v8, F6, R7⟩ =>
  lt_ (va_up N5 0 (F6, R7, (N5 0).2.2)) fun (N10 : Nat → ns_T) =>
  some (v8, (cn_s c0), (kn_s k), U, V, N10) else none
abbrev rm_X4_endCall : Room := { frames := 6, cells := 0, slots := 0, locals := 136 }
set_option maxHeartbeats 4000000 in
set_option maxRecDepth 100000 in
theorem c_X4_endCall (l : Launch) (D : va_G) (y : Nat → ClassId) (P : Nat → Prop) (ad NB : Nat → Nat → Nat) (p0 : Nat → Bool) (c0 : Nat) (k : Nat) (U : (Nat → Int32)) (V : (Nat → Nat → Int32)) (N : (Nat → ns_T)) (a1 : Int32) (rr : Int32) (c1 k1 : Nat) (U1 : (Nat → Int32)) (V1 : (Nat → Nat → Int32)) (N1 : Nat → ns_T) (sz : Nat) (hm : m4_endCall c0 k U V N a1 = some (rr, c1, k1, U1, V1, N1)) : Met l yX4_endCall (wy_s yX4_endCall cX4_endCall 2 (some .int)) rm_X4_endCall (pc_R D y [.ref (ad 9 0), .int a1] (fun H => H.size = sz ∧ tp_e D y P ad NB p0 (hh_s c0 k) U V N H)) (qc_W (some (.int rr)) (fun H => ∃ NB1 : Nat → Nat → Nat, tp_e D y (pu_s P sz) ad NB1 p0 (hh_s c1 k1) U1 V1 N1 H) (pu_s P sz)) 0 0 (pu_s P sz) := by
  refine met_W (by decide) (Nat.le_of_ble_eq_true rfl) ?_
  intro p e s m args below meth c X hnm h0 ls hl
  obtain ⟨hsz, hP⟩ := h0
  subst hsz
  obtain ⟨PP, hPP⟩ : ∃ PP, PP = pu_s P s.heap.size := ⟨_, rfl⟩
  rw [← hPP]
  replace hP : tp_e D y PP ad NB p0 (hh_s c0 k) U V N s.heap := tp_mono hP (by rw [hPP]; exact fun q h => Or.inl h)
  have hS : va_S PP s.heap s.heap [] := va_S.rf
  replace hl : lv_has ls 2 [(0, .ref (ad 9 0)), (1, .int a1)] := hl
  replace X : cx p s m args meth c cX4_endCall 2 (some .int) RX4 D y := X
  unfold m4_endCall at hm
  refine lv_aload_n (cx_x X) (cx_b X) dX4_endCall_0 rfl (lv_at hl 0 rfl) ?_
  refine gfW_X4_19 X (tp_t hP) 0 rfl (v := .ref (ad 0 0)) rfl dX4_endCall_1 ?_
  refine lv_iload_n (cx_x X) (cx_b X) dX4_endCall_4 rfl (lv_at hl 1 rfl) ?_
  obtain ⟨v2, h1, hm⟩ := bnd hm
  refine af_R (rn_V (As := [.int a1]) (rest := []) X (c_X2_isPresent l D y (ad 0) (NB 0) (N 0).1 (N 0).2.1 (N 0).2.2.1 (N 0).2.2.2 a1  _ h1) vq_X4_95 ⟨rfl, rfl⟩ ⟨Nat.le_of_ble_eq_true rfl, Nat.le_of_ble_eq_true rfl⟩ (rec_2 X (tp_n hP pz_0)) ⟨(tp_n hP pz_0), (tp_l hP pz_0)⟩ rfl hl.1 rfl (Nat.le_of_ble_eq_true rfl) dX4_endCall_5 ⟨Nat.le_of_ble_eq_true rfl, Nat.le_of_ble_eq_true rfl⟩) ?_
  refine lv_if_ne (tgt := 14) (cx_x X) (cx_b X) dX4_endCall_8 (by decide) (fun c3 => ?_) (fun c3 => ?_)
  · replace hm := if_F c3 hm
    refine lv_aload_n (cx_x X) (cx_b X) dX4_endCall_14 rfl (lv_at hl 0 rfl) ?_
    refine gfW_X4_26 X (tp_t hP) 0 rfl (v := .ref (ad 9 1)) rfl dX4_endCall_15 ?_
    refine lv_aload_n (cx_x X) (cx_b X) dX4_endCall_18 rfl (lv_at hl 0 rfl) ?_
    refine gfW_X4_19 X (tp_t hP) 0 rfl (v := .ref (ad 0 0)) rfl dX4_endCall_19 ?_
    obtain ⟨h4, hm⟩ := ck_E hm
    refine af_W (mc := 0) (ms := 0) (rn_V (As := [.ref (ad 0 0)]) (rest := []) X (c_X0_push l D y PP ad NB p0 c0 k U V N _ h4.1 h4.2.1 h4.2.2) vq_X4_45 ⟨rfl, rfl⟩ ⟨Nat.le_of_ble_eq_true rfl, Nat.le_of_ble_eq_true rfl⟩ (va_recv (cx_K X).1 (tp_t hP) (ci := 0) (q0 := 1) rfl rfl) ⟨rfl, hP⟩ rfl hl.1 rfl (Nat.le_of_ble_eq_true rfl) dX4_endCall_22 ⟨Nat.le_of_ble_eq_true rfl, Nat.le_of_ble_eq_true rfl⟩) hS (pu_in hPP hS.1) (fun H locs hP _ _ hS => ?_)
    obtain ⟨NB, hP⟩ : ∃ NB, tp_e D y PP ad NB p0 (hh_s (cn_s c0) (kn_s k)) U V (va_up N (kn_s k + 1) (N 0)) H := ⟨_, hP⟩
    obtain ⟨N5, eN5, hm⟩ := lt_E hm
    rw [← eN5] at hP
    refine lv_aload_n (cx_x X) (cx_b X) dX4_endCall_25 rfl (lv_at hl 0 rfl) ?_
    refine gfW_X4_19 X (tp_t hP) 0 rfl (v := .ref (ad 0 0)) rfl dX4_endCall_26 ?_
    refine lv_iload_n (cx_x X) (cx_b X) dX4_endCall_29 rfl (lv_at hl 1 rfl) ?_
    obtain ⟨⟨v8, F6, R7⟩, h9, hm⟩ := bnd hm
    try dsimp only at hm
    refine af_W (mc := 0) (ms := 0) (rn_V (As := [.int a1]) (rest := []) X (c_X2_end l D y (ad 0) (NB 0) (N5 0).1 (N5 0).2.1 (N5 0).2.2.1 (N5 0).2.2.2 a1 v8 F6 R7 _ (tp_aj hP pz_0) (tp_ax hP pz_0 pz_0) h9) vq_X4_98 ⟨rfl, rfl⟩ ⟨Nat.le_of_ble_eq_true rfl, Nat.le_of_ble_eq_true rfl⟩ (rec_2 X (tp_n hP pz_0)) ⟨rfl, tp_n hP pz_0, tp_l hP pz_0⟩ rfl hl.1 rfl (Nat.le_of_ble_eq_true rfl) dX4_endCall_30 ⟨Nat.le_of_ble_eq_true rfl, Nat.le_of_ble_eq_true rfl⟩) hS (rgt_in hPP hP (vz_n pz_0) hS.1) (fun H1 locs1 hP1 hz1 hk1 hS => ?_)
    replace hP := tp_M hP hk1 hP1
    generalize H1 = H at hP hS ⊢
    generalize locs1 = locs at hS ⊢
    obtain ⟨N10, eN10, hm⟩ := lt_E hm
    rw [← eN10] at hP
    obtain ⟨rfl, rfl, rfl, rfl, rfl, rfl⟩ := oc_6 hm
    exact gw_i X hS ⟨_, hP⟩ dX4_endCall_33
  · replace hm := if_T c3 hm
    refine lv_bipush (v := (-4 : Int32)) (cx_x X) (cx_b X) dX4_endCall_11 (by decide) ?_
    obtain ⟨rfl, rfl, rfl, rfl, rfl, rfl⟩ := oc_6 hm
    exact gw_i X hS ⟨_, hP⟩ dX4_endCall_13
/-! X4_handOver -/
def m4_handOver (c0 : Nat) (k : Nat) (U : (Nat → Int32)) (V : (Nat → Nat → Int32)) (N : (Nat → ns_T)) (a1 : Int32) (a2 : Int32) : Option (Int32 × Nat × Nat × (Nat → Int32) × (Nat → Nat → Int32) × (Nat → ns_T)) :=
  (m2_moveError (N 0).1 (N 0).2.1 (N 0).2.2.1 (N 0).2.2.2 a1 a2).bind fun v2 =>
  if v2 = 0 then
  if k < 6 ∧ c0 ≤ 6 ∧ (N 0).1 3 &&& 1 = (N 0).1 3 then
  lt_ (va_up N (kn_s k + 1) (N 0)) fun (N5 : Nat → ns_T) =>
  (m2_move (N5 0).1 (N5 0).2.1 (N5 0).2.2.1 (N5 0).2.2.2 a1 a2).bind fun ⟨v8, F6, R7⟩ =>
  lt_ (va_up N5 0 (F6, R7, (N5 0).2.2)) fun (N10 : Nat → ns_T) =>
  some (v8, (cn_s c0), (kn_s k), U, V, N10) else none
  else
  some (v2, c0, k, U, V, N)
abbrev rm_X4_handOver : Room := { frames := 6, cells := 0, slots := 0, locals := 144 }
set_option maxHeartbeats 4000000 in
set_option maxRecDepth 100000 in
theorem c_X4_handOver (l : Launch) (D : va_G) (y : Nat → ClassId) (P : Nat → Prop) (ad NB : Nat → Nat → Nat) (p0 : Nat → Bool) (c0 : Nat) (k : Nat) (U : (Nat → Int32)) (V : (Nat → Nat → Int32)) (N : (Nat → ns_T)) (a1 : Int32) (a2 : Int32) (rr : Int32) (c1 k1 : Nat) (U1 : (Nat → Int32)) (V1 : (Nat → Nat → Int32)) (N1 : Nat → ns_T) (sz : Nat) (hm : m4_handOver c0 k U V N a1 a2 = some (rr, c1, k1, U1, V1, N1)) : Met l yX4_handOver (wy_s yX4_handOver cX4_handOver 4 (some .int)) rm_X4_handOver (pc_R D y [.ref (ad 9 0), .int a1, .int a2] (fun H => H.size = sz ∧ tp_e D y P ad NB p0 (hh_s c0 k) U V N H)) (qc_W (some (.int rr)) (fun H => ∃ NB1 : Nat → Nat → Nat, tp_e D y (pu_s P sz) ad NB1 p0 (hh_s c1 k1) U1 V1 N1 H) (pu_s P sz)) 0 0 (pu_s P sz) := by
  refine met_W (by decide) (Nat.le_of_ble_eq_true rfl) ?_
  intro p e s m args below meth c X hnm h0 ls hl
  obtain ⟨hsz, hP⟩ := h0
  subst hsz
  obtain ⟨PP, hPP⟩ : ∃ PP, PP = pu_s P s.heap.size := ⟨_, rfl⟩
  rw [← hPP]
  replace hP : tp_e D y PP ad NB p0 (hh_s c0 k) U V N s.heap := tp_mono hP (by rw [hPP]; exact fun q h => Or.inl h)
  have hS : va_S PP s.heap s.heap [] := va_S.rf
  replace hl : lv_has ls 4 [(0, .ref (ad 9 0)), (1, .int a1), (2, .int a2)] := hl
  replace X : cx p s m args meth c cX4_handOver 4 (some .int) RX4 D y := X
  unfold m4_handOver at hm
  refine lv_aload_n (cx_x X) (cx_b X) dX4_handOver_0 rfl (lv_at hl 0 rfl) ?_
  refine gfW_X4_19 X (tp_t hP) 0 rfl (v := .ref (ad 0 0)) rfl dX4_handOver_1 ?_
  refine lv_iload_n (cx_x X) (cx_b X) dX4_handOver_4 rfl (lv_at hl 1 rfl) ?_
  refine lv_iload_n (cx_x X) (cx_b X) dX4_handOver_5 rfl (lv_at hl 2 rfl) ?_
  obtain ⟨v2, h1, hm⟩ := bnd hm
  refine af_R (rn_V (As := [.int a1, .int a2]) (rest := []) X (c_X2_moveError l D y (ad 0) (NB 0) (N 0).1 (N 0).2.1 (N 0).2.2.1 (N 0).2.2.2 a1 a2  _ h1) vq_X4_101 ⟨rfl, rfl⟩ ⟨Nat.le_of_ble_eq_true rfl, Nat.le_of_ble_eq_true rfl⟩ (rec_2 X (tp_n hP pz_0)) ⟨(tp_n hP pz_0), (tp_l hP pz_0)⟩ rfl hl.1 rfl (Nat.le_of_ble_eq_true rfl) dX4_handOver_6 ⟨Nat.le_of_ble_eq_true rfl, Nat.le_of_ble_eq_true rfl⟩) ?_
  refine lv_istore_n (lv' := [(3, .int v2), (0, .ref (ad 9 0)), (1, .int a1), (2, .int a2)]) (cx_x X) (cx_b X) dX4_handOver_9 rfl hl (by decide) rfl (fun ls hl => ?_)
  refine lv_iload_n (cx_x X) (cx_b X) dX4_handOver_10 rfl (lv_at hl 0 rfl) ?_
  refine lv_if_eq (tgt := 16) (cx_x X) (cx_b X) dX4_handOver_11 (by decide) (fun c3 => ?_) (fun c3 => ?_)
  · replace hm := if_T c3 hm
    refine lv_aload_n (cx_x X) (cx_b X) dX4_handOver_16 rfl (lv_at hl 1 rfl) ?_
    refine gfW_X4_26 X (tp_t hP) 0 rfl (v := .ref (ad 9 1)) rfl dX4_handOver_17 ?_
    refine lv_aload_n (cx_x X) (cx_b X) dX4_handOver_20 rfl (lv_at hl 1 rfl) ?_
    refine gfW_X4_19 X (tp_t hP) 0 rfl (v := .ref (ad 0 0)) rfl dX4_handOver_21 ?_
    obtain ⟨h4, hm⟩ := ck_E hm
    refine af_W (mc := 0) (ms := 0) (rn_V (As := [.ref (ad 0 0)]) (rest := []) X (c_X0_push l D y PP ad NB p0 c0 k U V N _ h4.1 h4.2.1 h4.2.2) vq_X4_45 ⟨rfl, rfl⟩ ⟨Nat.le_of_ble_eq_true rfl, Nat.le_of_ble_eq_true rfl⟩ (va_recv (cx_K X).1 (tp_t hP) (ci := 0) (q0 := 1) rfl rfl) ⟨rfl, hP⟩ rfl hl.1 rfl (Nat.le_of_ble_eq_true rfl) dX4_handOver_24 ⟨Nat.le_of_ble_eq_true rfl, Nat.le_of_ble_eq_true rfl⟩) hS (pu_in hPP hS.1) (fun H locs hP _ _ hS => ?_)
    obtain ⟨NB, hP⟩ : ∃ NB, tp_e D y PP ad NB p0 (hh_s (cn_s c0) (kn_s k)) U V (va_up N (kn_s k + 1) (N 0)) H := ⟨_, hP⟩
    obtain ⟨N5, eN5, hm⟩ := lt_E hm
    rw [← eN5] at hP
    refine lv_aload_n (cx_x X) (cx_b X) dX4_handOver_27 rfl (lv_at hl 1 rfl) ?_
    refine gfW_X4_19 X (tp_t hP) 0 rfl (v := .ref (ad 0 0)) rfl dX4_handOver_28 ?_
    refine lv_iload_n (cx_x X) (cx_b X) dX4_handOver_31 rfl (lv_at hl 2 rfl) ?_
    refine lv_iload_n (cx_x X) (cx_b X) dX4_handOver_32 rfl (lv_at hl 3 rfl) ?_
    obtain ⟨⟨v8, F6, R7⟩, h9, hm⟩ := bnd hm
    try dsimp only at hm
    refine af_W (mc := 0) (ms := 0) (rn_V (As := [.int a1, .int a2]) (rest := []) X (c_X2_move l D y (ad 0) (NB 0) (N5 0).1 (N5 0).2.1 (N5 0).2.2.1 (N5 0).2.2.2 a1 a2 v8 F6 R7 _ (tp_aj hP pz_0) (tp_ax hP pz_0 pz_0) h9) vq_X4_104 ⟨rfl, rfl⟩ ⟨Nat.le_of_ble_eq_true rfl, Nat.le_of_ble_eq_true rfl⟩ (rec_2 X (tp_n hP pz_0)) ⟨rfl, tp_n hP pz_0, tp_l hP pz_0⟩ rfl hl.1 rfl (Nat.le_of_ble_eq_true rfl) dX4_handOver_33 ⟨Nat.le_of_ble_eq_true rfl, Nat.le_of_ble_eq_true rfl⟩) hS (rgt_in hPP hP (vz_n pz_0) hS.1) (fun H1 locs1 hP1 hz1 hk1 hS => ?_)
    replace hP := tp_M hP hk1 hP1
    generalize H1 = H at hP hS ⊢
    generalize locs1 = locs at hS ⊢
    obtain ⟨N10, eN10, hm⟩ := lt_E hm
    rw [← eN10] at hP
    obtain ⟨rfl, rfl, rfl, rfl, rfl, rfl⟩ := oc_6 hm
    exact gw_i X hS ⟨_, hP⟩ dX4_handOver_36
  · replace hm := if_F c3 hm
    refine lv_iload_n (cx_x X) (cx_b X) dX4_handOver_14 rfl (lv_at hl 0 rfl) ?_
    obtain ⟨rfl, rfl, rfl, rfl, rfl, rfl⟩ := oc_6 hm
    exact gw_i X hS ⟨_, hP⟩ dX4_handOver_15
