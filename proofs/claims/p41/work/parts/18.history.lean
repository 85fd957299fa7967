section RV
variable {p : Program} {l : Launch} {e : Env} {RM : Room} {s : State} {m : MethodId} {args : Array Value} {below : List Frame} {meth : Method} {c : Code} {H : Heap} {locs : List Loc} {cells slots : Nat} {Q : State → Prop}
variable {cc : ByteArray} {nL pc : Nat} {ret : Option FieldType} {own : String} {D : va_G} {y : Nat → ClassId} {ls : Array Slot} {rest st0 : List Value}
/-- the end of a method that only reads, any value -/
def qc_V (x : Value) : Array Value → State → Outcome → State → Prop := fun _ st oc t => oc = .returned (some x) ∧ t.heap = st.heap
theorem af_V {x : Value} {arr : Array Value} (h : va_Run p l e RM s m args below meth c H locs cells slots 0 0 (F0 m pc ls st0) rest (qc_V x arr) (fun _ => False))
    (kk : W p l e RM s m args below meth c H locs cells slots Q (F0 m (pc + 3) ls (x :: rest))) : W p l e RM s m args below meth c H locs cells slots Q (F0 m pc ls st0) := by
  intro T hT X
  obtain ⟨v, st₀, t, T', L, h0, X', hL, e1, e2, ⟨hv, hh⟩, st⟩ := h T hT X
  cases hv
  obtain ⟨t2, a1, b1⟩ := kk T' (by rw [e1, hh, h0]) (Stand.forget X' (fun q h => (hL q h).elim))
  exact ⟨t2, st t2 a1, b1⟩
end RV
theorem met_V {l : Launch} {z : MethodName} {b : ByteArray} {n : Nat} {ret : Option FieldType} {rm : Room} {D : va_G} {y : Nat → ClassId} {av : List Value} {PH : Heap → Prop} {x : Value} (hz : plainName z.cls = true) (hn : (lg_sl av).length ≤ n)
    (h : ∀ (p : Program) (e : Env) (s : State) (m : MethodId) (args : Array Value) (below : List Frame) (meth : Method) (c : Code), cx p s m args meth c b n ret z.cls D y → PH s.heap → ∀ ls, lv_has ls n (lv_args 0 av) → W p l e rm s m args below meth c s.heap [] 0 0 (MQ below (qc_V x) args s 0 0 (fun _ => False)) (F0 m 0 ls [])) :
    Met l z (wy_s z b n ret) rm (pc_R D y av PH) (qc_V x) 0 0 (fun _ => False) := by
  refine Met.ofW (cc := b) (maxL := n) (ret := ret) hz rfl ?_
  intro p e s m args below meth c s₁ B hml hv
  obtain ⟨rfl, hP, hK⟩ := hv
  have hts := atoms_spec (ws := wy_s z b n ret) B.pre
  have hl := lv_entry av (n := n) hn
  rw [lg_entry_eq]
  exact h p e s m _ below meth c ⟨B.exec, B.bytes, hml, findClass_of_methodNamed B.named, fun w hw => hts w (List.mem_cons_of_mem _ hw), hK, B.returns, B.notSynchronized⟩ hP _ hl
def hh_s (c k : Nat) : Nat → Int32 := fun j => if j = 0 then nI c else nI k
def kn_s (k : Nat) : Nat := if k + 1 < 6 then k + 1 else 0
def kp_s (k : Nat) : Nat := if 0 < k then k - 1 else 5
def cn_s (c : Nat) : Nat := if c < 6 then c + 1 else 6
def pu_s (P : Nat → Prop) (sz : Nat) : Nat → Prop := fun q => P q ∨ sz ≤ q
section TP
variable {D : va_G} {y : Nat → ClassId} {P P' : Nat → Prop} {ad NB : Nat → Nat → Nat} {p : Nat → Bool} {h : Nat → Int32} {U : Nat → Int32} {V : Nat → Nat → Int32} {N : Nat → ns_T} {H H1 : Heap}
theorem tp_C (T : tp_e D y P ad NB p h U V N H) {i0 i1 : Nat} (hi : pz p i0) (hi1 : pz p i1) (hne : i0 ≠ i1) (hk : ∀ q : Nat, q < H.size → ¬ rd_s (ad i0) (ad i1) H.size q → H1[q]? = H[q]?)
    (hW : va_P D vwCl (w2_s y (NB i1 0) (ad i0) (N i1).1 (N i1).2.1 ++ w2_s y (NB i1 0) (ad i1) (N i1).1 (N i1).2.1) H1) : tp_e D y P ad (va_up NB i0 (NB i1)) p h U V (va_up N i0 (N i1)) H1 := by
  have h9 := pz_9 hi
  have h91 := pz_9 hi1
  have hX : ∀ i j, vz p i j → ad i j < H.size → i ≠ i0 → i ≠ i1 → ¬ rd_s (ad i0) (ad i1) H.size (ad i j) := by
    rintro i j hv hlt hn0 hn1 (⟨j', hj', e⟩ | ⟨j', hj', e⟩ | hge)
    · exact hn0 (T.1 i j i0 j' hv (vz_n hi hj') e).1
    · exact hn1 (T.1 i j i1 j' hv (vz_n hi1 hj') e).1
    · omega
  have hXB : ∀ i k, pz p i → k < 6 → ¬ rd_s (ad i0) (ad i1) H.size (NB i k) := by
    rintro i k hp hk6 (⟨j', hj', e⟩ | ⟨j', hj', e⟩ | hge)
    · exact (T.2.2.1 i k hp hk6).2 i0 j' (vz_n hi hj') e
    · exact (T.2.2.1 i k hp hk6).2 i1 j' (vz_n hi1 hj') e
    · have := lt_of (tp_l T hp) (B := NB i) (k := 6) rfl k hk6
      omega
  refine ⟨T.1, T.2.1, fun i k hp hk6 => ?_, ?_, ?_, fun i hp => ?_⟩
  · by_cases hii : i = i0
    · subst hii
      rw [show va_up NB i (NB i1) i = NB i1 from if_pos rfl]
      exact T.2.2.1 i1 k hi1 hk6
    · rw [show va_up NB i0 (NB i1) i = NB i from if_neg hii]
      exact T.2.2.1 i k hp hk6
  · exact kp_P (n := 4) (A := ad 9) _ (tp_t T) rfl hk (fun j hj => hX 9 j (vz_t hj) (lt_of (tp_t T) (B := ad 9) (k := 4) rfl j hj) (by omega) (by omega))
  · exact kp_P (n := 5) (A := ad 10) _ (tp_s T) rfl hk (fun j hj => hX 10 j (vz_s hj) (lt_of (tp_s T) (B := ad 10) (k := 5) rfl j hj) (by omega) (by omega))
  · by_cases hii : i = i0
    · subst hii
      rw [show va_up NB i (NB i1) i = NB i1 from if_pos rfl, show va_up N i (N i1) i = N i1 from if_pos rfl]
      exact ⟨hW.sub [0, 1, 2, 3, 4] rfl, kp_P (n := 6) (A := NB i1) _ (tp_l T hi1) rfl hk (fun k hk6 => hXB i1 k hi1 hk6)⟩
    · rw [show va_up NB i0 (NB i1) i = NB i from if_neg hii, show va_up N i0 (N i1) i = N i from if_neg hii]
      refine ⟨?_, kp_P (n := 6) (A := NB i) _ (tp_l T hp) rfl hk (fun k hk6 => hXB i k hp hk6)⟩
      by_cases hi2 : i = i1
      · subst hi2
        exact hW.sub [5, 6, 7, 8, 9] rfl
      · exact kp_P (n := 5) (A := ad i) _ (tp_n T hp) rfl hk (fun j hj => hX i j (vz_n hp hj) (lt_of (tp_n T hp) (B := ad i) (k := 5) rfl j hj) hii hi2)
/-- the history's numbers have changed -/
theorem tp_H (T : tp_e D y P ad NB p h U V N H) (h' : Nat → Int32) (ha : va_at D vwCl (ad 9 1, .inr (0, [.int (h' 0), .int (h' 1), .ref (ad 9 2)])) H1) (ho : ∀ q : Nat, q ≠ ad 9 1 → H1[q]? = H[q]?) : tp_e D y P ad NB p h' U V N H1 := by
  have hne : ∀ i j, vz p i j → ¬ (i = 9 ∧ j = 1) → ad i j ≠ ad 9 1 := fun i j hv hn e => hn (T.1 i j 9 1 hv (vz_t (by decide)) e)
  refine ⟨T.1, T.2.1, T.2.2.1, fun k q hq => ?_, ?_, fun i hp => ⟨?_, ?_⟩⟩
  · match k, hq with
    | 0, hq => cases hq; exact (tp_t T 0 _ rfl).kept (ho _ (hne 9 0 (vz_t (by decide)) (by omega)))
    | 1, hq => cases hq; exact ha
    | 2, hq => cases hq; exact (tp_t T 2 _ rfl).kept (ho _ (hne 9 2 (vz_t (by decide)) (by omega)))
    | 3, hq => cases hq; exact (tp_t T 3 _ rfl).kept (ho _ (hne 9 3 (vz_t (by decide)) (by omega)))
    | k + 4, hq => cases hq
  · exact kp_P (n := 5) (A := ad 10) (fun q => q = ad 9 1) (tp_s T) rfl (fun q _ hq => ho q hq) (fun j hj => hne 10 j (vz_s hj) (by omega))
  · have h9 := pz_9 hp
    exact kp_P (n := 5) (A := ad i) (fun q => q = ad 9 1) (tp_n T hp) rfl (fun q _ hq => ho q hq) (fun j hj => hne i j (vz_n hp hj) (by omega))
  · exact kp_P (n := 6) (A := NB i) (fun q => q = ad 9 1) (tp_l T hp) rfl (fun q _ hq => ho q hq) (fun k hk6 => (T.2.2.1 i k hp hk6).2 9 1 (vz_t (by decide)))
theorem rd_in (T : tp_e D y P ad NB p h U V N H) {i0 i1 sz0 : Nat} (hi : pz p i0) (hi1 : pz p i1) {sz : Nat} (hz : sz0 ≤ sz) : ∀ q, rd_s (ad i0) (ad i1) sz q → pu_s P sz0 q := by
  rintro q (⟨j, hj, rfl⟩ | ⟨j, hj, rfl⟩ | hq)
  · exact Or.inl (T.2.1 _ _ (vz_n hi hj))
  · exact Or.inl (T.2.1 _ _ (vz_n hi1 hj))
  · exact Or.inr (Nat.le_trans hz hq)
theorem tp_ne (T : tp_e D y P ad NB p h U V N H) {i0 i1 : Nat} (hi : pz p i0) (hi1 : pz p i1) (hne : i0 ≠ i1) : ∀ i j, i < 5 → j < 5 → ad i0 i ≠ ad i1 j := fun i j h1 h2 e => hne (T.1 i0 i i1 j (vz_n hi h1) (vz_n hi1 h2) e).1
end TP
abbrev rm_X0_newestState : Room := { frames := 1, cells := 0, slots := 0, locals := 22 }
set_option maxHeartbeats 4000000 in
set_option maxRecDepth 100000 in
theorem c_X0_newestState (l : Launch) (D : va_G) (y : Nat → ClassId) (P : Nat → Prop) (ad NB : Nat → Nat → Nat) (p0 : Nat → Bool) (c0 k : Nat) (U : Nat → Int32) (V : Nat → Nat → Int32) (N : Nat → ns_T) (hk : k < 6) : Met l yX0_newestState (wy_s yX0_newestState cX0_newestState 1 (some (.object "ChannelBorrower$Network"))) rm_X0_newestState (pc_R D y [.ref (ad 9 1)] (fun H => tp_e D y P ad NB p0 (hh_s c0 k) U V N H)) (qc_V (.ref (ad (k + 1) 0))) 0 0 (fun _ => False) := by
  refine met_V (by decide) (Nat.le_of_ble_eq_true rfl) ?_
  intro p e s m args below meth c X hP ls hl
  replace hl : lv_has ls 1 [(0, .ref (ad 9 1))] := hl
  replace X : cx p s m args meth c cX0_newestState 1 (some (.object "ChannelBorrower$Network")) RX0 D y := X
  refine lv_aload_n (cx_x X) (cx_b X) dX0_newestState_0 rfl (lv_at hl 0 rfl) ?_
  refine gfW_X0_20 X (tp_t hP) 1 rfl (v := .int (nI k)) rfl dX0_newestState_1 ?_
  refine lv_iconst (v := (0 : Int32)) (cx_x X) (cx_b X) dX0_newestState_4 (by decide) ?_
  refine lv_iconst (v := (5 : Int32)) (cx_x X) (cx_b X) dX0_newestState_5 (by decide) ?_
  have hb : m4_isBetween (nI k) 0 5 = some 1 := by
    rcases (show k = 0 ∨ k = 1 ∨ k = 2 ∨ k = 3 ∨ k = 4 ∨ k = 5 by omega) with rfl | rfl | rfl | rfl | rfl | rfl <;> decide +kernel
  refine af_R (rn_N (As := [.int (nI k), .int (0 : Int32), .int (5 : Int32)]) (rest := []) X (c_X4_isBetween l D y (nI k) 0 5 _ hb) nq_X0_41 ⟨rfl, rfl⟩ ⟨Nat.le_of_ble_eq_true rfl, Nat.le_of_ble_eq_true rfl⟩ trivial rfl hl.1 rfl (Nat.le_of_ble_eq_true rfl) dX0_newestState_6 ⟨Nat.le_refl _, Nat.le_refl _⟩) ?_
  refine lv_if_eq (tgt := 24) (cx_x X) (cx_b X) dX0_newestState_9 (by decide) (fun hc => absurd hc (by decide)) (fun _ => ?_)
  refine lv_aload_n (cx_x X) (cx_b X) dX0_newestState_12 rfl (lv_at hl 0 rfl) ?_
  refine gfW_X0_11 X (tp_t hP) 1 rfl (v := .ref (ad 9 2)) rfl dX0_newestState_13 ?_
  refine lv_aload_n (cx_x X) (cx_b X) dX0_newestState_16 rfl (lv_at hl 0 rfl) ?_
  refine gfW_X0_20 X (tp_t hP) 1 rfl (v := .int (nI k)) rfl dX0_newestState_17 ?_
  refine va_aldq (cx_x X) (cx_b X) (cx_K X).1 (tp_t hP) 2 3 rfl rfl (vp_in_nI hk (by decide)) dX0_newestState_20 ?_
  rw [nI_clamp (show k < 2 ^ 31 by omega)]
  refine lv_goto (tgt := 25) (cx_x X) (cx_b X) dX0_newestState_21 (by decide) ?_
  exact W.aret (cx_x X) (cx_b X) (cx_r X) (Or.inl ⟨_, rfl⟩) (Or.inr ⟨_, rfl⟩) (fun _ ht _ => ⟨rfl, ht⟩) (fun _ h => by cases h) dX0_newestState_25 (cx_l X)
abbrev rm_X0_push : Room := { frames := 2, cells := 0, slots := 0, locals := 61 }
set_option maxHeartbeats 4000000 in
set_option maxRecDepth 100000 in
theorem c_X0_push (l : Launch) (D : va_G) (y : Nat → ClassId) (P : Nat → Prop) (ad NB : Nat → Nat → Nat) (p0 : Nat → Bool) (c0 k : Nat) (U : Nat → Int32) (V : Nat → Nat → Int32) (N : Nat → ns_T) (sz : Nat) (hk : k < 6) (hc6 : c0 ≤ 6) (hz : (N 0).1 3 &&& 1 = (N 0).1 3) : Met l yX0_push (wy_s yX0_push cX0_push 3 none) rm_X0_push (pc_R D y [.ref (ad 9 1), .ref (ad 0 0)] (fun H => H.size = sz ∧ tp_e D y P ad NB p0 (hh_s c0 k) U V N H)) (qc_W none (fun H => tp_e D y P ad (va_up NB (kn_s k + 1) (NB 0)) p0 (hh_s (cn_s c0) (kn_s k)) U V (va_up N (kn_s k + 1) (N 0)) H) (pu_s P sz)) 0 0 (pu_s P sz) := by
  refine met_W (by decide) (Nat.le_of_ble_eq_true rfl) ?_
  intro p e s m args below meth c X hnm h0 ls hl
  obtain ⟨hsz, hP⟩ := h0
  subst hsz
  have hS : va_S (pu_s P s.heap.size) s.heap s.heap [] := va_S.rf
  have hPa : pu_s P s.heap.size (ad 9 1) := Or.inl (hP.2.1 9 1 (vz_t (by decide)))
  replace hl : lv_has ls 3 [(0, .ref (ad 9 1)), (1, .ref (ad 0 0))] := hl
  replace X : cx p s m args meth c cX0_push 3 none RX0 D y := X
  have hn6 : kn_s k < 6 := by unfold kn_s; split <;> omega
  have hpi : pz p0 (kn_s k + 1) := Or.inl (by omega)
  -- behind the choice of the place
  have J : ∀ (H : Heap) (locs : List Loc), tp_e D y P ad NB p0 (hh_s c0 k) U V N H → va_S (pu_s P s.heap.size) s.heap H locs → ∀ ls, lv_has ls 3 [(0, .ref (ad 9 1)), (1, .ref (ad 0 0))] → gw p l e rm_X0_push s m args below meth c none (fun H => tp_e D y P ad (va_up NB (kn_s k + 1) (NB 0)) p0 (hh_s (cn_s c0) (kn_s k)) U V (va_up N (kn_s k + 1) (N 0)) H) (pu_s P s.heap.size) 0 0 H locs (F0 m 22 ls [.int (nI (kn_s k)), .ref (ad 9 1)]) := by
    intro H locs hP hS ls hl
    refine fx_put X inlX0 tyX0_ok nmX0 (tp_t hP 1 _ rfl) rfl 1 (by decide) qw_114 (fun _ h => h) rfl (ty := .int) (by decide +kernel) rfl rfl (Nat.le_of_ble_eq_true rfl) hS hPa dX0_push_22 (fun H locs ha hz1 ho hS => ?_)
    replace hP := tp_H hP (hh_s c0 (kn_s k)) ha ho
    refine lv_aload_n (cx_x X) (cx_b X) dX0_push_25 rfl (lv_at hl 0 rfl) ?_
    refine af_V (rn_V (As := []) (rest := []) X (c_X0_newestState l D y P ad NB p0 c0 (kn_s k) U V N hn6) vq_X0_24 ⟨rfl, rfl⟩ ⟨Nat.le_of_ble_eq_true rfl, Nat.le_of_ble_eq_true rfl⟩ (va_recv (cx_K X).1 (tp_t hP) (ci := 0) (q0 := 1) rfl rfl) hP rfl hl.1 rfl (Nat.le_of_ble_eq_true rfl) dX0_push_26 ⟨Nat.le_refl _, Nat.le_refl _⟩) ?_
    refine lv_astore_n (lv' := [(2, .ref (ad (kn_s k + 1) 0)), (0, .ref (ad 9 1)), (1, .ref (ad 0 0))]) (cx_x X) (cx_b X) dX0_push_29 rfl hl (by decide) rfl (fun ls hl => ?_)
    refine lv_aload_n (cx_x X) (cx_b X) dX0_push_30 rfl (lv_at hl 0 rfl) ?_
    refine lv_ifnull (cx_x X) (cx_b X) dX0_push_31 ?_
    refine lv_aload_n (cx_x X) (cx_b X) dX0_push_34 rfl (lv_at hl 0 rfl) ?_
    refine lv_aload_n (cx_x X) (cx_b X) dX0_push_35 rfl (lv_at hl 2 rfl) ?_
    have hne : kn_s k + 1 ≠ 0 := by omega
    refine af_W (mc := 0) (ms := 0) (rn_V (As := [.ref (ad 0 0)]) (rest := []) X (c_X2_copyFrom l D y (ad (kn_s k + 1)) (ad 0) (NB (kn_s k + 1) 0) (NB 0 0) (N (kn_s k + 1)).1 (N 0).1 (N (kn_s k + 1)).2.1 (N 0).2.1 _ hz (tp_aj hP hpi) (tp_aj hP pz_0) (tp_ne hP hpi pz_0 hne)) vq_X0_28 ⟨rfl, rfl⟩ ⟨Nat.le_of_ble_eq_true rfl, Nat.le_of_ble_eq_true rfl⟩ (va_recv (cx_K X).1 (tp_n hP hpi) (ci := 2) (q0 := 0) rfl rfl) ⟨rfl, (tp_n hP hpi).app (tp_n hP pz_0)⟩ rfl hl.1 rfl (Nat.le_of_ble_eq_true rfl) dX0_push_36 ⟨Nat.le_of_ble_eq_true rfl, Nat.le_of_ble_eq_true rfl⟩) hS (rd_in hP hpi pz_0 hS.1) (fun H1 locs1 hW hz1 hk1 hS => ?_)
    replace hP := tp_C hP hpi pz_0 hne hk1 hW
    refine lv_aload_n (cx_x X) (cx_b X) dX0_push_39 rfl (lv_at hl 1 rfl) ?_
    refine lv_aload_n (cx_x X) (cx_b X) dX0_push_40 rfl (lv_at hl 1 rfl) ?_
    refine gfW_X0_32 X (tp_t hP) 1 rfl (v := .int (nI c0)) rfl dX0_push_41 ?_
    refine lv_iconst (v := (1 : Int32)) (cx_x X) (cx_b X) dX0_push_44 (by decide) ?_
    refine lv_iadd (cx_x X) (cx_b X) dX0_push_45 ?_
    refine lv_bipush (v := (6 : Int32)) (cx_x X) (cx_b X) dX0_push_46 (by decide) ?_
    refine va_mmin (cx_x X) (cx_b X) ((cx_m X).trans hl.1.symm) (cx_o X) (cx_w X _ qw_154) (cx_w X _ qw_155) (cx_w X _ qw_56) (cx_w X _ qw_156) (Nat.le_of_ble_eq_true rfl) (Nat.le_of_ble_eq_true rfl) (Nat.zero_le _) (Nat.zero_le _) dX0_push_48 ?_
    have hv : nI (cn_s c0) = (if (6 : Int32) < nI c0 + 1 then 6 else nI c0 + 1) := by
      rcases (show c0 = 0 ∨ c0 = 1 ∨ c0 = 2 ∨ c0 = 3 ∨ c0 = 4 ∨ c0 = 5 ∨ c0 = 6 by omega) with rfl | rfl | rfl | rfl | rfl | rfl | rfl <;> decide +kernel
    refine lv_eqi hv ?_
    refine fx_put X inlX0 tyX0_ok nmX0 (tp_t hP 1 _ rfl) rfl 0 (by decide) qw_113 (fun _ h => h) rfl (ty := .int) (by decide +kernel) rfl rfl (Nat.le_of_ble_eq_true rfl) hS hPa dX0_push_51 (fun H locs ha hz1 ho hS => ?_)
    replace hP := tp_H hP (hh_s (cn_s c0) (kn_s k)) ha ho
    exact gw_v X hS hP dX0_push_54
  refine lv_aload_n (cx_x X) (cx_b X) dX0_push_0 rfl (lv_at hl 0 rfl) ?_
  refine lv_aload_n (cx_x X) (cx_b X) dX0_push_1 rfl (lv_at hl 0 rfl) ?_
  refine gfW_X0_20 X (tp_t hP) 1 rfl (v := .int (nI k)) rfl dX0_push_2 ?_
  refine lv_iconst (v := (1 : Int32)) (cx_x X) (cx_b X) dX0_push_5 (by decide) ?_
  refine lv_iadd (cx_x X) (cx_b X) dX0_push_6 ?_
  refine lv_bipush (v := (6 : Int32)) (cx_x X) (cx_b X) dX0_push_7 (by decide) ?_
  refine lv_icmp_ge (tgt := 21) (cx_x X) (cx_b X) dX0_push_9 (by decide) (fun hc => ?_) (fun hc => ?_)
  · refine lv_iconst (v := (0 : Int32)) (cx_x X) (cx_b X) dX0_push_21 (by decide) ?_
    have e0 : nI (kn_s k) = (0 : Int32) := by
      revert hc
      rcases (show k = 0 ∨ k = 1 ∨ k = 2 ∨ k = 3 ∨ k = 4 ∨ k = 5 by omega) with rfl | rfl | rfl | rfl | rfl | rfl <;> decide +kernel
    exact lv_eqi e0 (J _ _ hP hS _ hl)
  · refine lv_aload_n (cx_x X) (cx_b X) dX0_push_12 rfl (lv_at hl 0 rfl) ?_
    refine gfW_X0_20 X (tp_t hP) 1 rfl (v := .int (nI k)) rfl dX0_push_13 ?_
    refine lv_iconst (v := (1 : Int32)) (cx_x X) (cx_b X) dX0_push_16 (by decide) ?_
    refine lv_iadd (cx_x X) (cx_b X) dX0_push_17 ?_
    refine lv_goto (tgt := 22) (cx_x X) (cx_b X) dX0_push_18 (by decide) ?_
    have e0 : nI (kn_s k) = nI k + 1 := by
      revert hc
      rcases (show k = 0 ∨ k = 1 ∨ k = 2 ∨ k = 3 ∨ k = 4 ∨ k = 5 by omega) with rfl | rfl | rfl | rfl | rfl | rfl <;> decide +kernel
    exact lv_eqi e0 (J _ _ hP hS _ hl)
abbrev rm_X0_pop : Room := { frames := 2, cells := 0, slots := 0, locals := 61 }
set_option maxHeartbeats 4000000 in
set_option maxRecDepth 100000 in
/-- pop on an empty history -/
theorem c_X0_pop0 (l : Launch) (D : va_G) (y : Nat → ClassId) (P : Nat → Prop) (ad NB : Nat → Nat → Nat) (p0 : Nat → Bool) (k : Nat) (U : Nat → Int32) (V : Nat → Nat → Int32) (N : Nat → ns_T) (sz : Nat) (hk : k < 6) : Met l yX0_pop (wy_s yX0_pop cX0_pop 3 (some .boolean)) rm_X0_pop (pc_R D y [.ref (ad 9 1), .ref (ad 0 0)] (fun H => H.size = sz ∧ tp_e D y P ad NB p0 (hh_s 0 k) U V N H)) (qc_W (some (.int 0)) (fun H => tp_e D y P ad NB p0 (hh_s 0 k) U V N H) (pu_s P sz)) 0 0 (pu_s P sz) := by
  refine met_W (by decide) (Nat.le_of_ble_eq_true rfl) ?_
  intro p e s m args below meth c X hnm h0 ls hl
  obtain ⟨hsz, hP⟩ := h0
  subst hsz
  have hS : va_S (pu_s P s.heap.size) s.heap s.heap [] := va_S.rf
  replace hl : lv_has ls 3 [(0, .ref (ad 9 1)), (1, .ref (ad 0 0))] := hl
  replace X : cx p s m args meth c cX0_pop 3 (some .boolean) RX0 D y := X
  refine lv_aload_n (cx_x X) (cx_b X) dX0_pop_0 rfl (lv_at hl 0 rfl) ?_
  refine af_V (rn_V (As := []) (rest := []) X (c_X0_newestState l D y P ad NB p0 0 k U V N hk) vq_X0_24 ⟨rfl, rfl⟩ ⟨Nat.le_of_ble_eq_true rfl, Nat.le_of_ble_eq_true rfl⟩ (va_recv (cx_K X).1 (tp_t hP) (ci := 0) (q0 := 1) rfl rfl) hP rfl hl.1 rfl (Nat.le_of_ble_eq_true rfl) dX0_pop_1 ⟨Nat.le_refl _, Nat.le_refl _⟩) ?_
  refine lv_astore_n (lv' := [(2, .ref (ad (k + 1) 0)), (0, .ref (ad 9 1)), (1, .ref (ad 0 0))]) (cx_x X) (cx_b X) dX0_pop_4 rfl hl (by decide) rfl (fun ls hl => ?_)
  refine lv_aload_n (cx_x X) (cx_b X) dX0_pop_5 rfl (lv_at hl 1 rfl) ?_
  refine gfW_X0_32 X (tp_t hP) 1 rfl (v := .int (0 : Int32)) rfl dX0_pop_6 ?_
  refine lv_if_le (tgt := 16) (cx_x X) (cx_b X) dX0_pop_9 (by decide) (fun _ => ?_) (fun hc => absurd (by decide) hc)
  refine lv_iconst (v := (0 : Int32)) (cx_x X) (cx_b X) dX0_pop_16 (by decide) ?_
  exact gw_z X (by decide) hS hP dX0_pop_17
set_option maxHeartbeats 4000000 in
set_option maxRecDepth 100000 in
/-- pop on a history that holds a state -/
theorem c_X0_pop1 (l : Launch) (D : va_G) (y : Nat → ClassId) (P : Nat → Prop) (ad NB : Nat → Nat → Nat) (p0 : Nat → Bool) (c0 k : Nat) (U : Nat → Int32) (V : Nat → Nat → Int32) (N : Nat → ns_T) (sz : Nat) (hk : k < 6) (hc6 : c0 < 6) (hz : (N (k + 1)).1 3 &&& 1 = (N (k + 1)).1 3) : Met l yX0_pop (wy_s yX0_pop cX0_pop 3 (some .boolean)) rm_X0_pop (pc_R D y [.ref (ad 9 1), .ref (ad 0 0)] (fun H => H.size = sz ∧ tp_e D y P ad NB p0 (hh_s (c0 + 1) k) U V N H)) (qc_W (some (.int 1)) (fun H => tp_e D y P ad (va_up NB 0 (NB (k + 1))) p0 (hh_s c0 (kp_s k)) U V (va_up N 0 (N (k + 1))) H) (pu_s P sz)) 0 0 (pu_s P sz) := by
  refine met_W (by decide) (Nat.le_of_ble_eq_true rfl) ?_
  intro p e s m args below meth c X hnm h0 ls hl
  obtain ⟨hsz, hP⟩ := h0
  subst hsz
  have hS : va_S (pu_s P s.heap.size) s.heap s.heap [] := va_S.rf
  have hPa : pu_s P s.heap.size (ad 9 1) := Or.inl (hP.2.1 9 1 (vz_t (by decide)))
  replace hl : lv_has ls 3 [(0, .ref (ad 9 1)), (1, .ref (ad 0 0))] := hl
  replace X : cx p s m args meth c cX0_pop 3 (some .boolean) RX0 D y := X
  have hpi : pz p0 (k + 1) := Or.inl (by omega)
  have hne : 0 ≠ k + 1 := by omega
  refine lv_aload_n (cx_x X) (cx_b X) dX0_pop_0 rfl (lv_at hl 0 rfl) ?_
  refine af_V (rn_V (As := []) (rest := []) X (c_X0_newestState l D y P ad NB p0 (c0 + 1) k U V N hk) vq_X0_24 ⟨rfl, rfl⟩ ⟨Nat.le_of_ble_eq_true rfl, Nat.le_of_ble_eq_true rfl⟩ (va_recv (cx_K X).1 (tp_t hP) (ci := 0) (q0 := 1) rfl rfl) hP rfl hl.1 rfl (Nat.le_of_ble_eq_true rfl) dX0_pop_1 ⟨Nat.le_refl _, Nat.le_refl _⟩) ?_
  refine lv_astore_n (lv' := [(2, .ref (ad (k + 1) 0)), (0, .ref (ad 9 1)), (1, .ref (ad 0 0))]) (cx_x X) (cx_b X) dX0_pop_4 rfl hl (by decide) rfl (fun ls hl => ?_)
  refine lv_aload_n (cx_x X) (cx_b X) dX0_pop_5 rfl (lv_at hl 1 rfl) ?_
  refine gfW_X0_32 X (tp_t hP) 1 rfl (v := .int (nI (c0 + 1))) rfl dX0_pop_6 ?_
  refine lv_if_le (tgt := 16) (cx_x X) (cx_b X) dX0_pop_9 (by decide) (fun hc => absurd hc (nI_nle (Nat.succ_pos c0) (by omega))) (fun _ => ?_)
  refine lv_aload_n (cx_x X) (cx_b X) dX0_pop_12 rfl (lv_at hl 0 rfl) ?_
  refine lv_ifnonnull (tgt := 18) (cx_x X) (cx_b X) dX0_pop_13 (by decide) ?_
  refine lv_aload_n (cx_x X) (cx_b X) dX0_pop_18 rfl (lv_at hl 2 rfl) ?_
  refine lv_aload_n (cx_x X) (cx_b X) dX0_pop_19 rfl (lv_at hl 0 rfl) ?_
  refine af_W (mc := 0) (ms := 0) (rn_V (As := [.ref (ad (k + 1) 0)]) (rest := []) X (c_X2_copyFrom l D y (ad 0) (ad (k + 1)) (NB 0 0) (NB (k + 1) 0) (N 0).1 (N (k + 1)).1 (N 0).2.1 (N (k + 1)).2.1 _ hz (tp_aj hP pz_0) (tp_aj hP hpi) (tp_ne hP pz_0 hpi hne)) vq_X0_28 ⟨rfl, rfl⟩ ⟨Nat.le_of_ble_eq_true rfl, Nat.le_of_ble_eq_true rfl⟩ (va_recv (cx_K X).1 (tp_n hP pz_0) (ci := 2) (q0 := 0) rfl rfl) ⟨rfl, (tp_n hP pz_0).app (tp_n hP hpi)⟩ rfl hl.1 rfl (Nat.le_of_ble_eq_true rfl) dX0_pop_20 ⟨Nat.le_of_ble_eq_true rfl, Nat.le_of_ble_eq_true rfl⟩) hS (rd_in hP pz_0 hpi hS.1) (fun H1 locs1 hW hz1 hk1 hS => ?_)
  replace hP := tp_C hP pz_0 hpi hne hk1 hW
  refine lv_aload_n (cx_x X) (cx_b X) dX0_pop_23 rfl (lv_at hl 1 rfl) ?_
  refine lv_dup (cx_x X) (cx_b X) dX0_pop_24 rfl ?_
  refine gfW_X0_32 X (tp_t hP) 1 rfl (v := .int (nI (c0 + 1))) rfl dX0_pop_25 ?_
  refine lv_iconst (v := (1 : Int32)) (cx_x X) (cx_b X) dX0_pop_28 (by decide) ?_
  refine lv_isub (cx_x X) (cx_b X) dX0_pop_29 ?_
  refine lv_eqi (nI_pred c0).symm ?_
  refine fx_put X inlX0 tyX0_ok nmX0 (tp_t hP 1 _ rfl) rfl 0 (by decide) qw_113 (fun _ h => h) rfl (ty := .int) (by decide +kernel) rfl rfl (Nat.le_of_ble_eq_true rfl) hS hPa dX0_pop_30 (fun H locs ha hz1 ho hS => ?_)
  replace hP := tp_H hP (hh_s c0 k) ha ho
  have J : ∀ (H : Heap) (locs : List Loc), tp_e D y P ad (va_up NB 0 (NB (k + 1))) p0 (hh_s c0 k) U V (va_up N 0 (N (k + 1))) H → va_S (pu_s P s.heap.size) s.heap H locs → ∀ ls, lv_has ls 3 [(0, .ref (ad 9 1))] → gw p l e rm_X0_pop s m args below meth c (some (.int 1)) (fun H => tp_e D y P ad (va_up NB 0 (NB (k + 1))) p0 (hh_s c0 (kp_s k)) U V (va_up N 0 (N (k + 1))) H) (pu_s P s.heap.size) 0 0 H locs (F0 m 51 ls [.int (nI (kp_s k)), .ref (ad 9 1)]) := by
    intro H locs hP hS ls hl
    refine fx_put X inlX0 tyX0_ok nmX0 (tp_t hP 1 _ rfl) rfl 1 (by decide) qw_114 (fun _ h => h) rfl (ty := .int) (by decide +kernel) rfl rfl (Nat.le_of_ble_eq_true rfl) hS hPa dX0_pop_51 (fun H locs ha hz1 ho hS => ?_)
    replace hP := tp_H hP (hh_s c0 (kp_s k)) ha ho
    refine lv_iconst (v := (1 : Int32)) (cx_x X) (cx_b X) dX0_pop_54 (by decide) ?_
    exact gw_z X (by decide) hS hP dX0_pop_55
  refine lv_aload_n (cx_x X) (cx_b X) dX0_pop_33 rfl (lv_at hl 1 rfl) ?_
  refine lv_aload_n (cx_x X) (cx_b X) dX0_pop_34 rfl (lv_at hl 1 rfl) ?_
  refine gfW_X0_20 X (tp_t hP) 1 rfl (v := .int (nI k)) rfl dX0_pop_35 ?_
  refine lv_if_le (tgt := 50) (cx_x X) (cx_b X) dX0_pop_38 (by decide) (fun hc => ?_) (fun hc => ?_)
  · refine lv_iconst (v := (5 : Int32)) (cx_x X) (cx_b X) dX0_pop_50 (by decide) ?_
    have e0 : nI (kp_s k) = (5 : Int32) := by
      revert hc
      rcases (show k = 0 ∨ k = 1 ∨ k = 2 ∨ k = 3 ∨ k = 4 ∨ k = 5 by omega) with rfl | rfl | rfl | rfl | rfl | rfl <;> decide +kernel
    exact lv_eqi e0 (J _ _ hP hS _ (lv_sub hl [1] rfl))
  · refine lv_aload_n (cx_x X) (cx_b X) dX0_pop_41 rfl (lv_at hl 1 rfl) ?_
    refine gfW_X0_20 X (tp_t hP) 1 rfl (v := .int (nI k)) rfl dX0_pop_42 ?_
    refine lv_iconst (v := (1 : Int32)) (cx_x X) (cx_b X) dX0_pop_45 (by decide) ?_
    refine lv_isub (cx_x X) (cx_b X) dX0_pop_46 ?_
    refine lv_goto (tgt := 51) (cx_x X) (cx_b X) dX0_pop_47 (by decide) ?_
    have e0 : nI (kp_s k) = nI k - 1 := by
      revert hc
      rcases (show k = 0 ∨ k = 1 ∨ k = 2 ∨ k = 3 ∨ k = 4 ∨ k = 5 by omega) with rfl | rfl | rfl | rfl | rfl | rfl <;> decide +kernel
    exact lv_eqi e0 (J _ _ hP hS _ (lv_sub hl [1] rfl))
