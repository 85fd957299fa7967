section SX
variable {p : Program} {l : Launch} {e : Env} {RM : Room} {s : State} {m : MethodId} {args : Array Value} {below : List Frame} {meth : Method} {c : Code} {H : Heap} {locs : List Loc} {cells slots : Nat} {Q : State → Prop}
variable {cc : ByteArray} {nL pc : Nat} {ret : Option FieldType} {own : String} {D : va_G} {y : Nat → ClassId} {ls : Array Slot} {rest st0 : List Value}
theorem lv_eqv {v v' : Value} (h : v' = v) (k : W p l e RM s m args below meth c H locs cells slots Q (F0 m pc ls (v' :: rest))) : W p l e RM s m args below meth c H locs cells slots Q (F0 m pc ls (v :: rest)) := h ▸ k
abbrev gx (p : Program) (l : Launch) (e : Env) (R : Room) (s : State) (m : MethodId) (args : Array Value) (below : List Frame) (meth : Method) (c : Code) (ov : Option Value) (PH : Heap → Prop) (A : Nat → Prop) (mc ms cells slots : Nat) (H : Heap) (locs : List Loc) (g : JFrame) : Prop :=
  W p l e R s m args below meth c H locs cells slots (MQ below (qc_W ov PH A) args s mc ms A) g
theorem gx_i {v : Int32} {PH : Heap → Prop} {A : Nat → Prop} {mc ms : Nat} (X : cx p s m args meth c cc nL (some .int) own D y) (h1 : cells ≤ mc) (h2 : slots ≤ ms) (hS : va_S A s.heap H locs) (hP : PH H) (hdg : decode cc pc = .ok (.ireturn, 1)) : gx p l e RM s m args below meth c (some (.int v)) PH A mc ms cells slots H locs (F0 m pc ls [.int v]) :=
  W.widen h1 h2 (gw_i X hS hP hdg)
theorem gx_v {PH : Heap → Prop} {A : Nat → Prop} {mc ms : Nat} (X : cx p s m args meth c cc nL none own D y) (h1 : cells ≤ mc) (h2 : slots ≤ ms) (hS : va_S A s.heap H locs) (hP : PH H) (hdg : decode cc pc = .ok (.return_, 1)) : gx p l e RM s m args below meth c none PH A mc ms cells slots H locs (F0 m pc ls []) :=
  W.widen h1 h2 (gw_v X hS hP hdg)
variable {idx n k mc ms : Nat} {z : MethodName} {b : ByteArray} {rm : Room} {a : Nat} {As : List Value} {PH : Heap → Prop} {Qc : Array Value → State → Outcome → State → Prop} {free : Addr → Prop}
def iq (own : String) (idx : Nat) (z : MethodName) (b : ByteArray) (n : Nat) (k : Nat) : Prop :=
  Cond.methodLink own idx z ∈ wsL_law ∧ Cond.instanceMethod z ∈ wsL_law ∧ Cond.initialized z.cls ∈ wsL_law ∧ Cond.code z b n none ∈ wsL_law ∧ z.name = "<init>" ∧ z.cls ≠ "java/lang/invoke/MethodHandle" ∧ z.cls ≠ "java/lang/invoke/VarHandle" ∧ (parseMethodDescriptor z.desc).map (fun d => d.parameters.length) = some k
/-- a constructor's call -/
theorem rn_I (X : cx p s m args meth c cc nL ret own D y) (hM : Met l z (wy_s z b n none) rm (pc_R D y (.ref a :: As) PH) Qc mc ms free) (q : iq own idx z b n k) (h0 : rm.cells = mc ∧ rm.slots = ms) (hR : rm.frames + 1 ≤ RM.frames ∧ 8 + (n + 11) + rm.locals ≤ RM.locals)
    (hPH : PH H) (hk : As.length = k) (hl : ls.size = nL) (hst : st0 = As.reverse ++ .ref a :: rest) (hW : (rest.map fun v => v.category).sum ≤ 8) (hdg : decode cc pc = .ok (.invokespecial idx, 3)) (hc : cells + mc ≤ RM.cells ∧ slots + ms ≤ RM.slots) :
    va_Run p l e RM s m args below meth c H locs cells slots mc ms (F0 m pc ls st0) rest (Qc (Value.ref a :: As).toArray) free := by
  subst hst
  exact va_runI (cx_F X) hM (cwI k (cx_w X) (wy_in q.2.2.2.1) rfl h0.1 h0.2 (cx_w X _ q.2.2.1) (cx_w X _ q.1) (cx_w X _ q.2.1) q.2.2.2.2.1 q.2.2.2.2.2 hR) ⟨pc_blind, fun U hU hW => ⟨rfl, by rw [hU]; exact hPH, kk_warm hW (cx_K X)⟩⟩ rfl hk hl rfl (lv_room hW) hdg hc
/-- a private constructor of a nest mate -/
theorem rn_J {host : String} (X : cx p s m args meth c cc nL ret own D y) (hM : Met l z (wy_s z b n none) rm (pc_R D y (.ref a :: As) PH) Qc mc ms free) (q1 : Cond.methodLinkNest own idx z host ∈ nw_l) (q : Cond.instanceMethod z ∈ wsL_law ∧ Cond.initialized z.cls ∈ wsL_law ∧ Cond.code z b n none ∈ wsL_law ∧ z.name = "<init>" ∧ z.cls ≠ "java/lang/invoke/MethodHandle" ∧ z.cls ≠ "java/lang/invoke/VarHandle" ∧ (parseMethodDescriptor z.desc).map (fun d => d.parameters.length) = some k) (h0 : rm.cells = mc ∧ rm.slots = ms) (hR : rm.frames + 1 ≤ RM.frames ∧ 8 + (n + 11) + rm.locals ≤ RM.locals)
    (hPH : PH H) (hk : As.length = k) (hl : ls.size = nL) (hst : st0 = As.reverse ++ .ref a :: rest) (hW : (rest.map fun v => v.category).sum ≤ 8) (hdg : decode cc pc = .ok (.invokespecial idx, 3)) (hc : cells + mc ≤ RM.cells ∧ slots + ms ≤ RM.slots) :
    va_Run p l e RM s m args below meth c H locs cells slots mc ms (F0 m pc ls st0) rest (Qc (Value.ref a :: As).toArray) free := by
  subst hst
  exact va_runIN (cx_F X) hM ⟨va_cnB k (cx_w X) (wy_in q.2.2.1) rfl h0.1 h0.2 ((cx_K X).2.1 _ q1) (cx_w X _ q.2.1) q.2.2.2.2 hR, q.2.2.2.1, cx_w X _ q.1⟩ ⟨pc_blind, fun U hU hW => ⟨rfl, by rw [hU]; exact hPH, kk_warm hW (cx_K X)⟩⟩ rfl hk hl rfl (lv_room hW) hdg hc
end SX
theorem cell_q {cA : ClassId} {n : Nat} {f g : Nat → Option Nat} (h : ∀ j, j < n → f j = g j) : vp_cell cA (n, .inr (.inr (.inr (.inr f)))) = vp_cell cA (n, .inr (.inr (.inr (.inr g)))) := by
  rw [vp_cell_q, vp_cell_q]
  unfold arrV
  congr 1
  apply Array.ext
  · simp
  · intro i h1 h2
    have hi : i < n := by simpa using h1
    simp [h i hi]
theorem rg_b {PP P : Nat → Prop} {s0 q0 sz x : Nat} (hPP : PP = pu_s P s0) (h1 : s0 ≤ q0) (h2 : q0 ≤ sz) (hx : rg_s 1 (fun _ => q0) sz x) : q0 ≤ x ∧ PP x := by
  rcases hx with ⟨_, _, rfl⟩ | hx
  · exact ⟨Nat.le_refl _, by rw [hPP]; exact Or.inr h1⟩
  · exact ⟨Nat.le_trans h2 hx, by rw [hPP]; exact Or.inr (by omega)⟩
section TPS
variable {D : va_G} {y : Nat → ClassId} {P P' : Nat → Prop} {ad NB : Nat → Nat → Nat} {p : Nat → Bool} {h : Nat → Int32} {U : Nat → Int32} {V : Nat → Nat → Int32} {N : Nat → ns_T} {H H1 : Heap}
theorem tp_lt (T : tp_e D y P ad NB p h U V N H) : ∀ i j, vz p i j → ad i j < H.size := by
  rintro i j (⟨hi, hj⟩ | ⟨rfl, hj⟩ | ⟨rfl, hj⟩)
  · exact lt_of (tp_n T hi) (B := ad i) (k := 5) rfl j hj
  · exact lt_of (tp_t T) (B := ad 9) (k := 4) rfl j hj
  · exact lt_of (tp_s T) (B := ad 10) (k := 5) rfl j hj
theorem tp_ltB (T : tp_e D y P ad NB p h U V N H) : ∀ i k, pz p i → k < 6 → NB i k < H.size := fun i k hi hk => lt_of (tp_l T hi) (B := NB i) (k := 6) rfl k hk
theorem tp_up (T : tp_e D y P ad NB p h U V N H) {q0 : Nat} (hlt : ∀ i j, vz p i j → ad i j < q0) (hltB : ∀ i k, pz p i → k < 6 → NB i k < q0) (hk : ∀ q : Nat, q < q0 → H1[q]? = H[q]?) : tp_e D y P ad NB p h U V N H1 :=
  ⟨T.1, T.2.1, T.2.2.1, kp_P (n := 4) (A := ad 9) (fun q => q0 ≤ q) (tp_t T) rfl (fun q _ hq => hk q (by omega)) (fun j hj => Nat.not_le.mpr (hlt 9 j (vz_t hj))), kp_P (n := 5) (A := ad 10) (fun q => q0 ≤ q) (tp_s T) rfl (fun q _ hq => hk q (by omega)) (fun j hj => Nat.not_le.mpr (hlt 10 j (vz_s hj))), fun i hi => ⟨kp_P (n := 5) (A := ad i) (fun q => q0 ≤ q) (tp_n T hi) rfl (fun q _ hq => hk q (by omega)) (fun j hj => Nat.not_le.mpr (hlt i j (vz_n hi hj))), kp_P (n := 6) (A := NB i) (fun q => q0 ≤ q) (tp_l T hi) rfl (fun q _ hq => hk q (by omega)) (fun j hj => Nat.not_le.mpr (hltB i j hi hj))⟩⟩
/-- the live net begins anew over a new layout -/
theorem tp_beg (T : tp_e D y P ad NB p h U V N H) {q0 : Nat} (hlt : ∀ i j, vz p i j → ad i j < q0) {B1 : Nat → Nat} (hB : ∀ k, k < 6 → q0 ≤ B1 k ∧ P (B1 k)) {G1 : Nat → Int32} {Q1 : Nat → Nat → Int32} (hBL : va_P D vwCl (w1_s y B1 G1 Q1) H) (hk : ∀ q : Nat, q < H.size → ¬ rg_s 5 (ad 0) H.size q → H1[q]? = H[q]?) {F1 : Nat → Int32} {R1 : Nat → Nat → Int32} (hN : va_P D vwCl (w2_s y (B1 0) (ad 0) F1 R1) H1) : tp_e D y P ad (va_up NB 0 B1) p h U V (va_up N 0 (F1, R1, G1, Q1)) H1 := by
  refine tp_N T pz_0 B1 (F1, R1, G1, Q1) (fun _ h => h) (rg_s 5 (ad 0) H.size) ?_ ?_ hk hN ?_ (fun k hk6 => ⟨(hB k hk6).2, fun i' j' hv e => ?_⟩)
  · rintro i j hv hn (⟨j', hj', e⟩ | hge)
    · exact hn (T.1 i j 0 j' hv (vz_n pz_0 hj') e).1
    · have := tp_lt T i j hv
      omega
  · rintro i k hp hk6 (⟨j', hj', e⟩ | hge)
    · exact (T.2.2.1 i k hp hk6).2 0 j' (vz_n pz_0 hj') e
    · have := tp_ltB T i k hp hk6
      omega
  · refine kp_P (n := 6) (A := B1) (rg_s 5 (ad 0) H.size) hBL rfl hk (fun k hk6 => ?_)
    rintro (⟨j', hj', e⟩ | hge)
    · have h1 := (hB k hk6).1
      have h2 := hlt 0 j' (vz_n pz_0 hj')
      omega
    · have := lt_of hBL (B := B1) (k := 6) rfl k hk6
      omega
  · have h1 := (hB k hk6).1
    have h2 := hlt i' j' hv
    omega
theorem pz_up {i0 i : Nat} (h7 : i0 = 7 ∨ i0 = 8) (hi : pz (va_up p i0 true) i) : i = i0 ∨ pz p i := by
  by_cases hii : i = i0
  · exact Or.inl hii
  · rcases hi with h1 | ⟨h1, h2⟩
    · exact Or.inr (Or.inl h1)
    · rw [show va_up p i0 true i = p i from if_neg hii] at h2
      exact Or.inr (Or.inr ⟨h1, h2⟩)
theorem vz_up {i0 i j : Nat} (h7 : i0 = 7 ∨ i0 = 8) (hv : vz (va_up p i0 true) i j) : (i = i0 ∧ j < 5) ∨ (i ≠ i0 ∧ vz p i j) := by
  rcases hv with ⟨hi, hj⟩ | ⟨rfl, hj⟩ | ⟨rfl, hj⟩
  · rcases pz_up h7 hi with rfl | hi
    · exact Or.inl ⟨rfl, hj⟩
    · by_cases hii : i = i0
      · exact Or.inl ⟨hii, hj⟩
      · exact Or.inr ⟨hii, vz_n hi hj⟩
  · exact Or.inr ⟨by omega, vz_t hj⟩
  · exact Or.inr ⟨by omega, vz_s hj⟩
/-- a new net in a snapshot's place -/
theorem tp_new (T : tp_e D y P ad NB p h U V N H) {i0 q0 : Nat} (h7 : i0 = 7 ∨ i0 = 8) (hp : p i0 = false) (hlt : ∀ i j, vz p i j → ad i j < q0) (hltB : ∀ i k, pz p i → k < 6 → NB i k < q0) {B1 : Nat → Nat} (hI : aj_s 5 B1) (hB : ∀ k, k < 5 → q0 ≤ B1 k ∧ P (B1 k)) {F1 : Nat → Int32} {R1 : Nat → Nat → Int32} (hBL : va_P D vwCl (w2_s y (NB 0 0) B1 F1 R1) H) {f : Nat → Option Nat}
    (ha : va_at D vwCl (ad 9 3, .inl (y 3, 2, .inr (.inr (.inr (.inr f))))) H1) (hf : ∀ j, j < 2 → f j = sf_s (va_up p i0 true) (va_up ad i0 B1) j) (ho : ∀ q : Nat, q ≠ ad 9 3 → H1[q]? = H[q]?) : tp_e D y P (va_up ad i0 B1) (va_up NB i0 (NB 0)) (va_up p i0 true) h U V (va_up N i0 (F1, R1, (N 0).2.2)) H1 := by
  have e : ∀ i, i ≠ i0 → va_up ad i0 B1 i = ad i := fun i hi => if_neg hi
  have e' : va_up ad i0 B1 i0 = B1 := if_pos rfl
  have hne : ∀ i j, vz p i j → ¬ (i = 9 ∧ j = 3) → ad i j ≠ ad 9 3 := fun i j hv hn e => hn (T.1 i j 9 3 hv (vz_t (by decide)) e)
  have hneB : ∀ i k, pz p i → k < 6 → NB i k ≠ ad 9 3 := fun i k hi hk => (T.2.2.1 i k hi hk).2 9 3 (vz_t (by decide))
  have h93 := hlt 9 3 (vz_t (by decide))
  have keep : ∀ {ws : va_W} {n : Nat} {A : Nat → Nat}, va_P D vwCl ws H → ws.map (fun q => q.1) = (List.range n).map A → (∀ j, j < n → A j ≠ ad 9 3) → va_P D vwCl ws H1 := fun hP hw hA => kp_P (fun q => q = ad 9 3) hP hw (fun q _ hq => ho q hq) hA
  refine ⟨fun i j i' j' hv hv' he => ?_, fun i j hv => ?_, fun i k hi hk => ?_, ?_, ?_, fun i hi => ?_⟩
  · rcases vz_up h7 hv with ⟨rfl, hj⟩ | ⟨hn, hv1⟩ <;> rcases vz_up h7 hv' with ⟨h2, hj'⟩ | ⟨hn', hv1'⟩
    · subst h2
      rw [e'] at he
      exact ⟨rfl, hI j j' hj hj' he⟩
    · rw [e', e i' hn'] at he
      have h1 := (hB j hj).1
      have h2 := hlt i' j' hv1'
      omega
    · subst h2
      rw [e', e i hn] at he
      have h1 := (hB j' hj').1
      have h2 := hlt i j hv1
      omega
    · rw [e i hn, e i' hn'] at he
      exact T.1 i j i' j' hv1 hv1' he
  · rcases vz_up h7 hv with ⟨rfl, hj⟩ | ⟨hn, hv1⟩
    · rw [e']; exact (hB j hj).2
    · rw [e i hn]; exact T.2.1 i j hv1
  · have hb : ∃ i2, pz p i2 ∧ va_up NB i0 (NB 0) i = NB i2 := by
      rcases pz_up h7 hi with rfl | hi
      · exact ⟨0, pz_0, if_pos rfl⟩
      · by_cases hii : i = i0
        · exact ⟨0, pz_0, by rw [hii]; exact if_pos rfl⟩
        · exact ⟨i, hi, if_neg hii⟩
    obtain ⟨i2, hi2, eb⟩ := hb
    rw [eb]
    refine ⟨(T.2.2.1 i2 k hi2 hk).1, fun i' j' hv => ?_⟩
    rcases vz_up h7 hv with ⟨rfl, hj⟩ | ⟨hn, hv1⟩
    · rw [e']
      have h1 := (hB j' hj).1
      have h2 := hltB i2 k hi2 hk
      omega
    · rw [e i' hn]; exact (T.2.2.1 i2 k hi2 hk).2 i' j' hv1
  · intro k q hq
    unfold wt_s at hq
    rw [e 0 (by omega), e 9 (by omega), e 10 (by omega)] at hq
    match k, hq with
    | 0, hq => cases hq; exact (tp_t T 0 _ rfl).kept (ho _ (hne 9 0 (vz_t (by decide)) (by omega)))
    | 1, hq => cases hq; exact (tp_t T 1 _ rfl).kept (ho _ (hne 9 1 (vz_t (by decide)) (by omega)))
    | 2, hq =>
      cases hq
      have h2 := (tp_t T 2 _ rfl).kept (ho _ (hne 9 2 (vz_t (by decide)) (by omega)))
      refine Eq.trans h2 (congrArg some ?_)
      refine cell_q (fun j hj => ?_)
      rw [e (j + 1) (by omega)]
    | 3, hq =>
      cases hq
      exact Eq.trans ha (congrArg some (cell_q hf))
    | k + 4, hq => cases hq
  · rw [e 10 (by omega)]
    exact keep (A := ad 10) (n := 5) (tp_s T) rfl (fun j hj => hne 10 j (vz_s hj) (by omega))
  · by_cases hii : i = i0
    · subst hii
      rw [e', show va_up NB i (NB 0) i = NB 0 from if_pos rfl, show va_up N i (F1, R1, (N 0).2.2) i = (F1, R1, (N 0).2.2) from if_pos rfl]
      refine ⟨keep (A := B1) (n := 5) hBL rfl (fun j hj => ?_), keep (A := NB 0) (n := 6) (tp_l T pz_0) rfl (fun k hk => hneB 0 k pz_0 hk)⟩
      have h1 := (hB j hj).1
      omega
    · rcases pz_up h7 hi with h2 | hi
      · exact absurd h2 hii
      · have h9 := pz_9 hi
        rw [e i hii, show va_up NB i0 (NB 0) i = NB i from if_neg hii, show va_up N i0 (F1, R1, (N 0).2.2) i = N i from if_neg hii]
        exact ⟨keep (A := ad i) (n := 5) (tp_n T hi) rfl (fun j hj => hne i j (vz_n hi hj) (by omega)), keep (A := NB i) (n := 6) (tp_l T hi) rfl (fun k hk => hneB i k hi hk)⟩
theorem sfu_0 {B1 : Nat → Nat} {q0 : Nat} (hB : B1 0 = q0) : ∀ j, j < 2 → va_up (sf_s p ad) (0 : Int32).toNatClampNeg (some q0) j = sf_s (va_up p 7 true) (va_up ad 7 B1) j := by
  intro j hj
  rw [show (0 : Int32).toNatClampNeg = 0 by decide, ← hB]
  rcases (show j = 0 ∨ j = 1 by omega) with rfl | rfl <;> rfl
theorem sfu_1 {B1 : Nat → Nat} {q0 : Nat} (hB : B1 0 = q0) : ∀ j, j < 2 → va_up (sf_s p ad) (1 : Int32).toNatClampNeg (some q0) j = sf_s (va_up p 8 true) (va_up ad 8 B1) j := by
  intro j hj
  rw [show (1 : Int32).toNatClampNeg = 1 by decide, ← hB]
  rcases (show j = 0 ∨ j = 1 by omega) with rfl | rfl <;> rfl
theorem sf_0 (hp : p 7 = false) : Value.null = va_rf (sf_s p ad (0 : Int32).toNatClampNeg) := by
  rw [show (0 : Int32).toNatClampNeg = 0 by decide]
  unfold sf_s
  rw [if_neg (by rw [hp]; decide)]; rfl
theorem sf_1 (hp : p 8 = false) : Value.null = va_rf (sf_s p ad (1 : Int32).toNatClampNeg) := by
  rw [show (1 : Int32).toNatClampNeg = 1 by decide]
  unfold sf_s
  rw [if_neg (by rw [hp]; decide)]; rfl
theorem sf_0' (hp : p 7 = true) : Value.ref (ad 7 0) = va_rf (sf_s p ad (0 : Int32).toNatClampNeg) := by
  rw [show (0 : Int32).toNatClampNeg = 0 by decide]
  unfold sf_s
  rw [if_pos hp]; rfl
theorem sf_1' (hp : p 8 = true) : Value.ref (ad 8 0) = va_rf (sf_s p ad (1 : Int32).toNatClampNeg) := by
  rw [show (1 : Int32).toNatClampNeg = 1 by decide]
  unfold sf_s
  rw [if_pos hp]; rfl
end TPS

theorem iq_X0_17 : iq RX0 17 yX2_init cX2_init 2 1 := ⟨qw_96, qw_66, qw_14, qw_67, rfl, by decide, by decide, by decide +kernel⟩
theorem iq_X4_11 : iq RX4 11 yX1_init cX1_init 7 4 := ⟨qw_25, qw_26, qw_11, qw_27, rfl, by decide, by decide, by decide +kernel⟩
theorem iq_X4_16 : iq RX4 16 yX2_init cX2_init 2 1 := ⟨qw_65, qw_66, qw_14, qw_67, rfl, by decide, by decide, by decide +kernel⟩
theorem iq_X4_25 : iq RX4 25 yX0_init cX0_init 3 1 := ⟨qw_90, qw_91, qw_18, qw_92, rfl, by decide, by decide, by decide +kernel⟩
/-! undo0 -/
def m4_undo0 (k : Nat) (U : (Nat → Int32)) (V : (Nat → Nat → Int32)) (N : (Nat → ns_T)) : Option (Int32 × Nat × Nat × (Nat → Int32) × (Nat → Nat → Int32) × (Nat → ns_T)) :=
  if k < 6 then
  some ((-2 : Int32), 0, k, U, V, N) else none
abbrev rm_undo0 : Room := { frames := 3, cells := 0, slots := 0, locals := 83 }
set_option maxHeartbeats 4000000 in
set_option maxRecDepth 100000 in
theorem c_undo0 (l : Launch) (D : va_G) (y : Nat → ClassId) (P : Nat → Prop) (ad NB : Nat → Nat → Nat) (p0 : Nat → Bool) (k : Nat) (U : (Nat → Int32)) (V : (Nat → Nat → Int32)) (N : (Nat → ns_T)) (rr : Int32) (c1 k1 : Nat) (U1 : (Nat → Int32)) (V1 : (Nat → Nat → Int32)) (N1 : Nat → ns_T) (sz : Nat) (hm : m4_undo0 k U V N = some (rr, c1, k1, U1, V1, N1)) : Met l yX4_undo (wy_s yX4_undo cX4_undo 1 (some .int)) rm_undo0 (pc_R D y [.ref (ad 9 0)] (fun H => H.size = sz ∧ tp_e D y P ad NB p0 (hh_s 0 k) U V N H)) (qc_W (some (.int rr)) (fun H => ∃ ad1 NB1 : Nat → Nat → Nat, ad1 9 0 = ad 9 0 ∧ tp_e D y (pu_s P sz) ad1 NB1 p0 (hh_s c1 k1) U1 V1 N1 H) (pu_s P sz)) 0 0 (pu_s P sz) := by
  refine met_W (by decide) (Nat.le_of_ble_eq_true rfl) ?_
  intro p e s m args below meth c X hnm h0 ls hl
  obtain ⟨hsz, hP⟩ := h0
  subst hsz
  obtain ⟨PP, hPP⟩ : ∃ PP, PP = pu_s P s.heap.size := ⟨_, rfl⟩
  rw [← hPP]
  replace hP : tp_e D y PP ad NB p0 (hh_s 0 k) U V N s.heap := tp_mono hP (by rw [hPP]; exact fun q h => Or.inl h)
  have hS : va_S PP s.heap s.heap [] := va_S.rf
  replace hl : lv_has ls 1 [(0, .ref (ad 9 0))] := hl
  replace X : cx p s m args meth c cX4_undo 1 (some .int) RX4 D y := X
  unfold m4_undo0 at hm
  refine lv_aload_n (cx_x X) (cx_b X) dX4_undo_0 rfl (lv_at hl 0 rfl) ?_
  refine gfW_X4_26 X (tp_t hP) 0 rfl (v := .ref (ad 9 1)) rfl dX4_undo_1 ?_
  refine lv_aload_n (cx_x X) (cx_b X) dX4_undo_4 rfl (lv_at hl 0 rfl) ?_
  refine gfW_X4_19 X (tp_t hP) 0 rfl (v := .ref (ad 0 0)) rfl dX4_undo_5 ?_
  obtain ⟨h1, hm⟩ := ck_E hm
  refine af_W (mc := 0) (ms := 0) (rn_V (As := [.ref (ad 0 0)]) (rest := []) X (c_X0_pop0 l D y PP ad NB p0 k U V N _ h1) vq_X4_213 ⟨rfl, rfl⟩ ⟨Nat.le_of_ble_eq_true rfl, Nat.le_of_ble_eq_true rfl⟩ (va_recv (cx_K X).1 (tp_t hP) (ci := 0) (q0 := 1) rfl rfl) ⟨rfl, hP⟩ rfl hl.1 rfl (Nat.le_of_ble_eq_true rfl) dX4_undo_8 ⟨Nat.le_of_ble_eq_true rfl, Nat.le_of_ble_eq_true rfl⟩) hS (pu_in hPP hS.1) (fun H locs hP _ _ hS => ?_)
  refine lv_if_eq (tgt := 24) (cx_x X) (cx_b X) dX4_undo_11 (by decide) (fun _ => ?_) (fun hc => absurd hc (by decide))
  refine lv_bipush (v := (-2 : Int32)) (cx_x X) (cx_b X) dX4_undo_24 (by decide) ?_
  obtain ⟨rfl, rfl, rfl, rfl, rfl, rfl⟩ := oc_6 hm
  exact gx_i X (Nat.le_of_ble_eq_true rfl) (Nat.le_of_ble_eq_true rfl) hS ⟨_, _, rfl, hP⟩ dX4_undo_26
/-! undo1 -/
def m4_undo1 (c0 : Nat) (k : Nat) (U : (Nat → Int32)) (V : (Nat → Nat → Int32)) (N : (Nat → ns_T)) : Option (Int32 × Nat × Nat × (Nat → Int32) × (Nat → Nat → Int32) × (Nat → ns_T)) :=
  if k < 6 ∧ c0 < 6 ∧ (N (k + 1)).1 3 &&& 1 = (N (k + 1)).1 3 then
  lt_ (va_up N 0 (N (k + 1))) fun (N2 : Nat → ns_T) =>
  some ((nI c0), c0, (kp_s k), U, V, N2) else none
abbrev rm_undo1 : Room := { frames := 3, cells := 0, slots := 0, locals := 83 }
set_option maxHeartbeats 4000000 in
set_option maxRecDepth 100000 in
theorem c_undo1 (l : Launch) (D : va_G) (y : Nat → ClassId) (P : Nat → Prop) (ad NB : Nat → Nat → Nat) (p0 : Nat → Bool) (c0 : Nat) (k : Nat) (U : (Nat → Int32)) (V : (Nat → Nat → Int32)) (N : (Nat → ns_T)) (rr : Int32) (c1 k1 : Nat) (U1 : (Nat → Int32)) (V1 : (Nat → Nat → Int32)) (N1 : Nat → ns_T) (sz : Nat) (hm : m4_undo1 c0 k U V N = some (rr, c1, k1, U1, V1, N1)) : Met l yX4_undo (wy_s yX4_undo cX4_undo 1 (some .int)) rm_undo1 (pc_R D y [.ref (ad 9 0)] (fun H => H.size = sz ∧ tp_e D y P ad NB p0 (hh_s (c0 + 1) k) U V N H)) (qc_W (some (.int rr)) (fun H => ∃ ad1 NB1 : Nat → Nat → Nat, ad1 9 0 = ad 9 0 ∧ tp_e D y (pu_s P sz) ad1 NB1 p0 (hh_s c1 k1) U1 V1 N1 H) (pu_s P sz)) 0 0 (pu_s P sz) := by
  refine met_W (by decide) (Nat.le_of_ble_eq_true rfl) ?_
  intro p e s m args below meth c X hnm h0 ls hl
  obtain ⟨hsz, hP⟩ := h0
  subst hsz
  obtain ⟨PP, hPP⟩ : ∃ PP, PP = pu_s P s.heap.size := ⟨_, rfl⟩
  rw [← hPP]
  replace hP : tp_e D y PP ad NB p0 (hh_s (c0 + 1) k) U V N s.heap := tp_mono hP (by rw [hPP]; exact fun q h => Or.inl h)
  have hS : va_S PP s.heap s.heap [] := va_S.rf
  replace hl : lv_has ls 1 [(0, .ref (ad 9 0))] := hl
  replace X : cx p s m args meth c cX4_undo 1 (some .int) RX4 D y := X
  unfold m4_undo1 at hm
  refine lv_aload_n (cx_x X) (cx_b X) dX4_undo_0 rfl (lv_at hl 0 rfl) ?_
  refine gfW_X4_26 X (tp_t hP) 0 rfl (v := .ref (ad 9 1)) rfl dX4_undo_1 ?_
  refine lv_aload_n (cx_x X) (cx_b X) dX4_undo_4 rfl (lv_at hl 0 rfl) ?_
  refine gfW_X4_19 X (tp_t hP) 0 rfl (v := .ref (ad 0 0)) rfl dX4_undo_5 ?_
  obtain ⟨h1, hm⟩ := ck_E hm
  refine af_W (mc := 0) (ms := 0) (rn_V (As := [.ref (ad 0 0)]) (rest := []) X (c_X0_pop1 l D y PP ad NB p0 c0 k U V N _ h1.1 h1.2.1 h1.2.2) vq_X4_213 ⟨rfl, rfl⟩ ⟨Nat.le_of_ble_eq_true rfl, Nat.le_of_ble_eq_true rfl⟩ (va_recv (cx_K X).1 (tp_t hP) (ci := 0) (q0 := 1) rfl rfl) ⟨rfl, hP⟩ rfl hl.1 rfl (Nat.le_of_ble_eq_true rfl) dX4_undo_8 ⟨Nat.le_of_ble_eq_true rfl, Nat.le_of_ble_eq_true rfl⟩) hS (pu_in hPP hS.1) (fun H locs hP _ _ hS => ?_)
  obtain ⟨NB, hP⟩ : ∃ NB, tp_e D y PP ad NB p0 (hh_s c0 (kp_s k)) U V (va_up N 0 (N (k + 1))) H := ⟨_, hP⟩
  obtain ⟨N2, eN2, hm⟩ := lt_E hm
  rw [← eN2] at hP
  refine lv_if_eq (tgt := 24) (cx_x X) (cx_b X) dX4_undo_11 (by decide) (fun hc => absurd hc (by decide)) (fun _ => ?_)
  refine lv_aload_n (cx_x X) (cx_b X) dX4_undo_14 rfl (lv_at hl 0 rfl) ?_
  refine gfW_X4_26 X (tp_t hP) 0 rfl (v := .ref (ad 9 1)) rfl dX4_undo_15 ?_
  refine gfW_X4_217 X (tp_t hP) 1 rfl (v := .int (nI c0)) rfl dX4_undo_18 ?_
  refine lv_goto (tgt := 26) (cx_x X) (cx_b X) dX4_undo_21 (by decide) ?_
  obtain ⟨rfl, rfl, rfl, rfl, rfl, rfl⟩ := oc_6 hm
  exact gx_i X (Nat.le_of_ble_eq_true rfl) (Nat.le_of_ble_eq_true rfl) hS ⟨_, _, rfl, hP⟩ dX4_undo_26
/-! restoreE -/
def m4_restoreE (c0 : Nat) (k : Nat) (U : (Nat → Int32)) (V : (Nat → Nat → Int32)) (N : (Nat → ns_T)) (a1 : Int32) : Option (Int32 × Nat × Nat × (Nat → Int32) × (Nat → Nat → Int32) × (Nat → ns_T)) :=
  some ((-1 : Int32), c0, k, U, V, N)
abbrev rm_restoreE : Room := { frames := 2, cells := 0, slots := 0, locals := 61 }
set_option maxHeartbeats 4000000 in
set_option maxRecDepth 100000 in
theorem c_restoreE (l : Launch) (D : va_G) (y : Nat → ClassId) (P : Nat → Prop) (ad NB : Nat → Nat → Nat) (p0 : Nat → Bool) (c0 : Nat) (k : Nat) (U : (Nat → Int32)) (V : (Nat → Nat → Int32)) (N : (Nat → ns_T)) (a1 : Int32) (rr : Int32) (c1 k1 : Nat) (U1 : (Nat → Int32)) (V1 : (Nat → Nat → Int32)) (N1 : Nat → ns_T) (sz : Nat) (hb : m4_isBetween a1 0 1 = some 0) (hm : m4_restoreE c0 k U V N a1 = some (rr, c1, k1, U1, V1, N1)) : Met l yX4_restore (wy_s yX4_restore cX4_restore 3 (some .int)) rm_restoreE (pc_R D y [.ref (ad 9 0), .int a1] (fun H => H.size = sz ∧ tp_e D y P ad NB p0 (hh_s c0 k) U V N H)) (qc_W (some (.int rr)) (fun H => ∃ ad1 NB1 : Nat → Nat → Nat, ad1 9 0 = ad 9 0 ∧ tp_e D y (pu_s P sz) ad1 NB1 p0 (hh_s c1 k1) U1 V1 N1 H) (pu_s P sz)) 0 0 (pu_s P sz) := by
  refine met_W (by decide) (Nat.le_of_ble_eq_true rfl) ?_
  intro p e s m args below meth c X hnm h0 ls hl
  obtain ⟨hsz, hP⟩ := h0
  subst hsz
  obtain ⟨PP, hPP⟩ : ∃ PP, PP = pu_s P s.heap.size := ⟨_, rfl⟩
  rw [← hPP]
  replace hP : tp_e D y PP ad NB p0 (hh_s c0 k) U V N s.heap := tp_mono hP (by rw [hPP]; exact fun q h => Or.inl h)
  have hS : va_S PP s.heap s.heap [] := va_S.rf
  replace hl : lv_has ls 3 [(0, .ref (ad 9 0)), (1, .int a1)] := hl
  replace X : cx p s m args meth c cX4_restore 3 (some .int) RX4 D y := X
  unfold m4_restoreE at hm
  refine lv_iload_n (cx_x X) (cx_b X) dX4_restore_0 rfl (lv_at hl 1 rfl) ?_
  refine lv_iconst (v := (0 : Int32)) (cx_x X) (cx_b X) dX4_restore_1 (by decide) ?_
  refine lv_iconst (v := (1 : Int32)) (cx_x X) (cx_b X) dX4_restore_2 (by decide) ?_
  refine af_R (rn_S (As := [.int a1, .int (0 : Int32), .int (1 : Int32)]) (rest := []) X (c_X4_isBetween l D y a1 (0 : Int32) (1 : Int32) (0 : Int32) hb) sq_X4_41 ⟨rfl, rfl⟩ ⟨Nat.le_of_ble_eq_true rfl, Nat.le_of_ble_eq_true rfl⟩ trivial rfl hl.1 rfl (Nat.le_of_ble_eq_true rfl) dX4_restore_3 ⟨Nat.le_of_ble_eq_true rfl, Nat.le_of_ble_eq_true rfl⟩) ?_
  refine lv_if_ne (tgt := 11) (cx_x X) (cx_b X) dX4_restore_6 (by decide) (fun hc => absurd hc (by decide)) (fun _ => ?_)
  refine lv_iconst (v := (-1 : Int32)) (cx_x X) (cx_b X) dX4_restore_9 (by decide) ?_
  obtain ⟨rfl, rfl, rfl, rfl, rfl, rfl⟩ := oc_6 hm
  exact gx_i X (Nat.le_of_ble_eq_true rfl) (Nat.le_of_ble_eq_true rfl) hS ⟨_, _, rfl, hP⟩ dX4_restore_10
/-! saveE -/
def m4_saveE (c0 : Nat) (k : Nat) (U : (Nat → Int32)) (V : (Nat → Nat → Int32)) (N : (Nat → ns_T)) (a1 : Int32) : Option (Int32 × Nat × Nat × (Nat → Int32) × (Nat → Nat → Int32) × (Nat → ns_T)) :=
  some ((-1 : Int32), c0, k, U, V, N)
abbrev rm_saveE : Room := { frames := 3, cells := 5, slots := 220, locals := 65 }
set_option maxHeartbeats 4000000 in
set_option maxRecDepth 100000 in
theorem c_saveE (l : Launch) (D : va_G) (y : Nat → ClassId) (P : Nat → Prop) (ad NB : Nat → Nat → Nat) (p0 : Nat → Bool) (c0 : Nat) (k : Nat) (U : (Nat → Int32)) (V : (Nat → Nat → Int32)) (N : (Nat → ns_T)) (a1 : Int32) (rr : Int32) (c1 k1 : Nat) (U1 : (Nat → Int32)) (V1 : (Nat → Nat → Int32)) (N1 : Nat → ns_T) (sz : Nat) (hb : m4_isBetween a1 0 1 = some 0) (hm : m4_saveE c0 k U V N a1 = some (rr, c1, k1, U1, V1, N1)) : Met l yX4_save (wy_s yX4_save cX4_save 3 (some .int)) rm_saveE (pc_R D y [.ref (ad 9 0), .int a1] (fun H => H.size = sz ∧ tp_e D y P ad NB p0 (hh_s c0 k) U V N H)) (qc_W (some (.int rr)) (fun H => ∃ ad1 NB1 : Nat → Nat → Nat, ad1 9 0 = ad 9 0 ∧ tp_e D y (pu_s P sz) ad1 NB1 p0 (hh_s c1 k1) U1 V1 N1 H) (pu_s P sz)) 5 220 (pu_s P sz) := by
  refine met_W (by decide) (Nat.le_of_ble_eq_true rfl) ?_
  intro p e s m args below meth c X hnm h0 ls hl
  obtain ⟨hsz, hP⟩ := h0
  subst hsz
  obtain ⟨PP, hPP⟩ : ∃ PP, PP = pu_s P s.heap.size := ⟨_, rfl⟩
  rw [← hPP]
  replace hP : tp_e D y PP ad NB p0 (hh_s c0 k) U V N s.heap := tp_mono hP (by rw [hPP]; exact fun q h => Or.inl h)
  have hS : va_S PP s.heap s.heap [] := va_S.rf
  replace hl : lv_has ls 3 [(0, .ref (ad 9 0)), (1, .int a1)] := hl
  replace X : cx p s m args meth c cX4_save 3 (some .int) RX4 D y := X
  unfold m4_saveE at hm
  refine lv_iload_n (cx_x X) (cx_b X) dX4_save_0 rfl (lv_at hl 1 rfl) ?_
  refine lv_iconst (v := (0 : Int32)) (cx_x X) (cx_b X) dX4_save_1 (by decide) ?_
  refine lv_iconst (v := (1 : Int32)) (cx_x X) (cx_b X) dX4_save_2 (by decide) ?_
  refine af_R (rn_S (As := [.int a1, .int (0 : Int32), .int (1 : Int32)]) (rest := []) X (c_X4_isBetween l D y a1 (0 : Int32) (1 : Int32) (0 : Int32) hb) sq_X4_41 ⟨rfl, rfl⟩ ⟨Nat.le_of_ble_eq_true rfl, Nat.le_of_ble_eq_true rfl⟩ trivial rfl hl.1 rfl (Nat.le_of_ble_eq_true rfl) dX4_save_3 ⟨Nat.le_of_ble_eq_true rfl, Nat.le_of_ble_eq_true rfl⟩) ?_
  refine lv_if_ne (tgt := 11) (cx_x X) (cx_b X) dX4_save_6 (by decide) (fun hc => absurd hc (by decide)) (fun _ => ?_)
  refine lv_iconst (v := (-1 : Int32)) (cx_x X) (cx_b X) dX4_save_9 (by decide) ?_
  obtain ⟨rfl, rfl, rfl, rfl, rfl, rfl⟩ := oc_6 hm
  exact gx_i X (Nat.le_of_ble_eq_true rfl) (Nat.le_of_ble_eq_true rfl) hS ⟨_, _, rfl, hP⟩ dX4_save_10
/-! restoreN0 -/
def m4_restoreN0 (c0 : Nat) (k : Nat) (U : (Nat → Int32)) (V : (Nat → Nat → Int32)) (N : (Nat → ns_T)) : Option (Int32 × Nat × Nat × (Nat → Int32) × (Nat → Nat → Int32) × (Nat → ns_T)) :=
  some ((-2 : Int32), c0, k, U, V, N)
abbrev rm_restoreN0 : Room := { frames := 2, cells := 0, slots := 0, locals := 61 }
set_option maxHeartbeats 4000000 in
set_option maxRecDepth 100000 in
theorem c_restoreN0 (l : Launch) (D : va_G) (y : Nat → ClassId) (P : Nat → Prop) (ad NB : Nat → Nat → Nat) (p0 : Nat → Bool) (c0 : Nat) (k : Nat) (U : (Nat → Int32)) (V : (Nat → Nat → Int32)) (N : (Nat → ns_T)) (rr : Int32) (c1 k1 : Nat) (U1 : (Nat → Int32)) (V1 : (Nat → Nat → Int32)) (N1 : Nat → ns_T) (sz : Nat) (hp : p0 7 = false) (hm : m4_restoreN0 c0 k U V N = some (rr, c1, k1, U1, V1, N1)) : Met l yX4_restore (wy_s yX4_restore cX4_restore 3 (some .int)) rm_restoreN0 (pc_R D y [.ref (ad 9 0), .int (0 : Int32)] (fun H => H.size = sz ∧ tp_e D y P ad NB p0 (hh_s c0 k) U V N H)) (qc_W (some (.int rr)) (fun H => ∃ ad1 NB1 : Nat → Nat → Nat, ad1 9 0 = ad 9 0 ∧ tp_e D y (pu_s P sz) ad1 NB1 p0 (hh_s c1 k1) U1 V1 N1 H) (pu_s P sz)) 0 0 (pu_s P sz) := by
  refine met_W (by decide) (Nat.le_of_ble_eq_true rfl) ?_
  intro p e s m args below meth c X hnm h0 ls hl
  obtain ⟨hsz, hP⟩ := h0
  subst hsz
  obtain ⟨PP, hPP⟩ : ∃ PP, PP = pu_s P s.heap.size := ⟨_, rfl⟩
  rw [← hPP]
  replace hP : tp_e D y PP ad NB p0 (hh_s c0 k) U V N s.heap := tp_mono hP (by rw [hPP]; exact fun q h => Or.inl h)
  have hS : va_S PP s.heap s.heap [] := va_S.rf
  replace hl : lv_has ls 3 [(0, .ref (ad 9 0)), (1, .int (0 : Int32))] := hl
  replace X : cx p s m args meth c cX4_restore 3 (some .int) RX4 D y := X
  unfold m4_restoreN0 at hm
  refine lv_iload_n (cx_x X) (cx_b X) dX4_restore_0 rfl (lv_at hl 1 rfl) ?_
  refine lv_iconst (v := (0 : Int32)) (cx_x X) (cx_b X) dX4_restore_1 (by decide) ?_
  refine lv_iconst (v := (1 : Int32)) (cx_x X) (cx_b X) dX4_restore_2 (by decide) ?_
  refine af_R (rn_S (As := [.int (0 : Int32), .int (0 : Int32), .int (1 : Int32)]) (rest := []) X (c_X4_isBetween l D y (0 : Int32) (0 : Int32) (1 : Int32) (1 : Int32) (by decide +kernel)) sq_X4_41 ⟨rfl, rfl⟩ ⟨Nat.le_of_ble_eq_true rfl, Nat.le_of_ble_eq_true rfl⟩ trivial rfl hl.1 rfl (Nat.le_of_ble_eq_true rfl) dX4_restore_3 ⟨Nat.le_of_ble_eq_true rfl, Nat.le_of_ble_eq_true rfl⟩) ?_
  refine lv_if_ne (tgt := 11) (cx_x X) (cx_b X) dX4_restore_6 (by decide) (fun _ => ?_) (fun hc => absurd hc (by decide))
  refine lv_aload_n (cx_x X) (cx_b X) dX4_restore_11 rfl (lv_at hl 0 rfl) ?_
  refine gfW_X4_30 X (tp_t hP) 0 rfl (v := .ref (ad 9 3)) rfl dX4_restore_12 ?_
  refine lv_iload_n (cx_x X) (cx_b X) dX4_restore_15 rfl (lv_at hl 1 rfl) ?_
  refine va_aldq (cx_x X) (cx_b X) (cx_K X).1 (tp_t hP) 3 3 rfl rfl (show inb (0 : Int32) 2 by decide) dX4_restore_16 ?_
  refine lv_eqv (v' := .null) (sf_0 hp) ?_
  refine lv_astore_nN (lv' := [(2, .null), (0, .ref (ad 9 0)), (1, .int (0 : Int32))]) (cx_x X) (cx_b X) dX4_restore_17 rfl hl (by decide) rfl (fun ls hl => ?_)
  refine lv_aload_nN (cx_x X) (cx_b X) dX4_restore_18 rfl (lv_at hl 0 rfl) ?_
  refine lv_ifnonnullN (cx_x X) (cx_b X) dX4_restore_19 ?_
  refine lv_bipush (v := (-2 : Int32)) (cx_x X) (cx_b X) dX4_restore_22 (by decide) ?_
  obtain ⟨rfl, rfl, rfl, rfl, rfl, rfl⟩ := oc_6 hm
  exact gx_i X (Nat.le_of_ble_eq_true rfl) (Nat.le_of_ble_eq_true rfl) hS ⟨_, _, rfl, hP⟩ dX4_restore_24
/-! restoreS0 -/
def m4_restoreS0 (c0 : Nat) (k : Nat) (U : (Nat → Int32)) (V : (Nat → Nat → Int32)) (N : (Nat → ns_T)) : Option (Int32 × Nat × Nat × (Nat → Int32) × (Nat → Nat → Int32) × (Nat → ns_T)) :=
  if (N 7).1 3 &&& 1 = (N 7).1 3 then
  lt_ (va_up N 0 (N 7)) fun (N2 : Nat → ns_T) =>
  (m2_presentCalls (N2 0).1 (N2 0).2.1 (N2 0).2.2.1 (N2 0).2.2.2).bind fun v4 =>
  some (v4, 0, k, U, V, N2) else none
abbrev rm_restoreS0 : Room := { frames := 2, cells := 0, slots := 0, locals := 61 }
set_option maxHeartbeats 4000000 in
set_option maxRecDepth 100000 in
theorem c_restoreS0 (l : Launch) (D : va_G) (y : Nat → ClassId) (P : Nat → Prop) (ad NB : Nat → Nat → Nat) (p0 : Nat → Bool) (c0 : Nat) (k : Nat) (U : (Nat → Int32)) (V : (Nat → Nat → Int32)) (N : (Nat → ns_T)) (rr : Int32) (c1 k1 : Nat) (U1 : (Nat → Int32)) (V1 : (Nat → Nat → Int32)) (N1 : Nat → ns_T) (sz : Nat) (hp : p0 7 = true) (hm : m4_restoreS0 c0 k U V N = some (rr, c1, k1, U1, V1, N1)) : Met l yX4_restore (wy_s yX4_restore cX4_restore 3 (some .int)) rm_restoreS0 (pc_R D y [.ref (ad 9 0), .int (0 : Int32)] (fun H => H.size = sz ∧ tp_e D y P ad NB p0 (hh_s c0 k) U V N H)) (qc_W (some (.int rr)) (fun H => ∃ ad1 NB1 : Nat → Nat → Nat, ad1 9 0 = ad 9 0 ∧ tp_e D y (pu_s P sz) ad1 NB1 p0 (hh_s c1 k1) U1 V1 N1 H) (pu_s P sz)) 0 0 (pu_s P sz) := by
  refine met_W (by decide) (Nat.le_of_ble_eq_true rfl) ?_
  intro p e s m args below meth c X hnm h0 ls hl
  obtain ⟨hsz, hP⟩ := h0
  subst hsz
  obtain ⟨PP, hPP⟩ : ∃ PP, PP = pu_s P s.heap.size := ⟨_, rfl⟩
  rw [← hPP]
  replace hP : tp_e D y PP ad NB p0 (hh_s c0 k) U V N s.heap := tp_mono hP (by rw [hPP]; exact fun q h => Or.inl h)
  have hS : va_S PP s.heap s.heap [] := va_S.rf
  replace hl : lv_has ls 3 [(0, .ref (ad 9 0)), (1, .int (0 : Int32))] := hl
  replace X : cx p s m args meth c cX4_restore 3 (some .int) RX4 D y := X
  have hpi : pz p0 7 := Or.inr ⟨by decide, hp⟩
  unfold m4_restoreS0 at hm
  refine lv_iload_n (cx_x X) (cx_b X) dX4_restore_0 rfl (lv_at hl 1 rfl) ?_
  refine lv_iconst (v := (0 : Int32)) (cx_x X) (cx_b X) dX4_restore_1 (by decide) ?_
  refine lv_iconst (v := (1 : Int32)) (cx_x X) (cx_b X) dX4_restore_2 (by decide) ?_
  refine af_R (rn_S (As := [.int (0 : Int32), .int (0 : Int32), .int (1 : Int32)]) (rest := []) X (c_X4_isBetween l D y (0 : Int32) (0 : Int32) (1 : Int32) (1 : Int32) (by decide +kernel)) sq_X4_41 ⟨rfl, rfl⟩ ⟨Nat.le_of_ble_eq_true rfl, Nat.le_of_ble_eq_true rfl⟩ trivial rfl hl.1 rfl (Nat.le_of_ble_eq_true rfl) dX4_restore_3 ⟨Nat.le_of_ble_eq_true rfl, Nat.le_of_ble_eq_true rfl⟩) ?_
  refine lv_if_ne (tgt := 11) (cx_x X) (cx_b X) dX4_restore_6 (by decide) (fun _ => ?_) (fun hc => absurd hc (by decide))
  refine lv_aload_n (cx_x X) (cx_b X) dX4_restore_11 rfl (lv_at hl 0 rfl) ?_
  refine gfW_X4_30 X (tp_t hP) 0 rfl (v := .ref (ad 9 3)) rfl dX4_restore_12 ?_
  refine lv_iload_n (cx_x X) (cx_b X) dX4_restore_15 rfl (lv_at hl 1 rfl) ?_
  refine va_aldq (cx_x X) (cx_b X) (cx_K X).1 (tp_t hP) 3 3 rfl rfl (show inb (0 : Int32) 2 by decide) dX4_restore_16 ?_
  refine lv_eqv (v' := .ref (ad 7 0)) (sf_0' hp) ?_
  refine lv_astore_n (lv' := [(2, .ref (ad 7 0)), (0, .ref (ad 9 0)), (1, .int (0 : Int32))]) (cx_x X) (cx_b X) dX4_restore_17 rfl hl (by decide) rfl (fun ls hl => ?_)
  refine lv_aload_n (cx_x X) (cx_b X) dX4_restore_18 rfl (lv_at hl 0 rfl) ?_
  refine lv_ifnonnull (tgt := 25) (cx_x X) (cx_b X) dX4_restore_19 (by decide) ?_
  refine lv_aload_n (cx_x X) (cx_b X) dX4_restore_25 rfl (lv_at hl 1 rfl) ?_
  refine gfW_X4_19 X (tp_t hP) 0 rfl (v := .ref (ad 0 0)) rfl dX4_restore_26 ?_
  refine lv_aload_n (cx_x X) (cx_b X) dX4_restore_29 rfl (lv_at hl 0 rfl) ?_
  obtain ⟨h1, hm⟩ := ck_E hm
  refine af_W (mc := 0) (ms := 0) (rn_V (As := [.ref (ad 7 0)]) (rest := []) X (c_X2_copyFrom l D y (ad 0) (ad 7) (NB 0 0) (NB 7 0) (N 0).1 (N 7).1 (N 0).2.1 (N 7).2.1 _ h1 (tp_aj hP pz_0) (tp_aj hP hpi) (tp_ne hP pz_0 hpi (by decide))) vq_X4_220 ⟨rfl, rfl⟩ ⟨Nat.le_of_ble_eq_true rfl, Nat.le_of_ble_eq_true rfl⟩ (va_recv (cx_K X).1 (tp_n hP pz_0) (ci := 2) (q0 := 0) rfl rfl) ⟨rfl, (tp_n hP pz_0).app (tp_n hP hpi)⟩ rfl hl.1 rfl (Nat.le_of_ble_eq_true rfl) dX4_restore_30 ⟨Nat.le_of_ble_eq_true rfl, Nat.le_of_ble_eq_true rfl⟩) hS (fun q hq => pu_in hPP hS.1 q (rd_in hP pz_0 hpi (Nat.le_refl _) q hq)) (fun H1 locs1 hW hz1 hk1 hS => ?_)
  obtain ⟨NB, hP⟩ : ∃ NB1 : Nat → Nat → Nat, tp_e D y PP ad NB1 p0 (hh_s c0 k) U V (va_up N 0 (N 7)) H1 := ⟨_, tp_C hP pz_0 hpi (by decide) hk1 hW⟩
  generalize H1 = H at hP hS ⊢
  generalize locs1 = locs at hS ⊢
  obtain ⟨N2, eN2, hm⟩ := lt_E hm
  rw [← eN2] at hP
  refine lv_aload_n (cx_x X) (cx_b X) dX4_restore_33 rfl (lv_at hl 1 rfl) ?_
  refine gfW_X4_26 X (tp_t hP) 0 rfl (v := .ref (ad 9 1)) rfl dX4_restore_34 ?_
  refine lv_iconst (v := (0 : Int32)) (cx_x X) (cx_b X) dX4_restore_37 (by decide) ?_
  refine fx_put X inlX0 tyX0_ok nmX0 (tp_t hP 1 _ rfl) rfl 0 (by decide) qw_108 (fun _ h => h) rfl (ty := .int) (by decide +kernel) rfl rfl (Nat.le_of_ble_eq_true rfl) hS (hP.2.1 9 1 (vz_t (by decide))) dX4_restore_38 (fun H locs ha hz1 ho hS => ?_)
  replace hP := tp_H hP (hh_s 0 k) ha ho
  refine lv_aload_n (cx_x X) (cx_b X) dX4_restore_41 rfl (lv_at hl 1 rfl) ?_
  refine gfW_X4_19 X (tp_t hP) 0 rfl (v := .ref (ad 0 0)) rfl dX4_restore_42 ?_
  obtain ⟨v4, h3, hm⟩ := bnd hm
  refine af_R (rn_V (As := []) (rest := []) X (c_X2_presentCalls l D y (ad 0) (NB 0) (N2 0).1 (N2 0).2.1 (N2 0).2.2.1 (N2 0).2.2.2  _ h3) vq_X4_159 ⟨rfl, rfl⟩ ⟨Nat.le_of_ble_eq_true rfl, Nat.le_of_ble_eq_true rfl⟩ (rec_2 X (tp_n hP pz_0)) ⟨(tp_n hP pz_0), (tp_l hP pz_0)⟩ rfl hl.1 rfl (Nat.le_of_ble_eq_true rfl) dX4_restore_45 ⟨Nat.le_of_ble_eq_true rfl, Nat.le_of_ble_eq_true rfl⟩) ?_
  obtain ⟨rfl, rfl, rfl, rfl, rfl, rfl⟩ := oc_6 hm
  exact gx_i X (Nat.le_of_ble_eq_true rfl) (Nat.le_of_ble_eq_true rfl) hS ⟨_, _, rfl, hP⟩ dX4_restore_48
/-! saveS0 -/
def m4_saveS0 (c0 : Nat) (k : Nat) (U : (Nat → Int32)) (V : (Nat → Nat → Int32)) (N : (Nat → ns_T)) : Option (Int32 × Nat × Nat × (Nat → Int32) × (Nat → Nat → Int32) × (Nat → ns_T)) :=
  if (N 0).1 3 &&& 1 = (N 0).1 3 then
  lt_ (va_up N 7 (N 0)) fun (N2 : Nat → ns_T) =>
  (m2_presentCalls (N2 0).1 (N2 0).2.1 (N2 0).2.2.1 (N2 0).2.2.2).bind fun v4 =>
  some (v4, c0, k, U, V, N2) else none
abbrev rm_saveS0 : Room := { frames := 3, cells := 5, slots := 220, locals := 65 }
set_option maxHeartbeats 4000000 in
set_option maxRecDepth 100000 in
theorem c_saveS0 (l : Launch) (D : va_G) (y : Nat → ClassId) (P : Nat → Prop) (ad NB : Nat → Nat → Nat) (p0 : Nat → Bool) (c0 : Nat) (k : Nat) (U : (Nat → Int32)) (V : (Nat → Nat → Int32)) (N : (Nat → ns_T)) (rr : Int32) (c1 k1 : Nat) (U1 : (Nat → Int32)) (V1 : (Nat → Nat → Int32)) (N1 : Nat → ns_T) (sz : Nat) (hp : p0 7 = true) (hm : m4_saveS0 c0 k U V N = some (rr, c1, k1, U1, V1, N1)) : Met l yX4_save (wy_s yX4_save cX4_save 3 (some .int)) rm_saveS0 (pc_R D y [.ref (ad 9 0), .int (0 : Int32)] (fun H => H.size = sz ∧ tp_e D y P ad NB p0 (hh_s c0 k) U V N H)) (qc_W (some (.int rr)) (fun H => ∃ ad1 NB1 : Nat → Nat → Nat, ad1 9 0 = ad 9 0 ∧ tp_e D y (pu_s P sz) ad1 NB1 p0 (hh_s c1 k1) U1 V1 N1 H) (pu_s P sz)) 5 220 (pu_s P sz) := by
  refine met_W (by decide) (Nat.le_of_ble_eq_true rfl) ?_
  intro p e s m args below meth c X hnm h0 ls hl
  obtain ⟨hsz, hP⟩ := h0
  subst hsz
  obtain ⟨PP, hPP⟩ : ∃ PP, PP = pu_s P s.heap.size := ⟨_, rfl⟩
  rw [← hPP]
  replace hP : tp_e D y PP ad NB p0 (hh_s c0 k) U V N s.heap := tp_mono hP (by rw [hPP]; exact fun q h => Or.inl h)
  have hS : va_S PP s.heap s.heap [] := va_S.rf
  replace hl : lv_has ls 3 [(0, .ref (ad 9 0)), (1, .int (0 : Int32))] := hl
  replace X : cx p s m args meth c cX4_save 3 (some .int) RX4 D y := X
  have hpi : pz p0 7 := Or.inr ⟨by decide, hp⟩
  unfold m4_saveS0 at hm
  refine lv_iload_n (cx_x X) (cx_b X) dX4_save_0 rfl (lv_at hl 1 rfl) ?_
  refine lv_iconst (v := (0 : Int32)) (cx_x X) (cx_b X) dX4_save_1 (by decide) ?_
  refine lv_iconst (v := (1 : Int32)) (cx_x X) (cx_b X) dX4_save_2 (by decide) ?_
  refine af_R (rn_S (As := [.int (0 : Int32), .int (0 : Int32), .int (1 : Int32)]) (rest := []) X (c_X4_isBetween l D y (0 : Int32) (0 : Int32) (1 : Int32) (1 : Int32) (by decide +kernel)) sq_X4_41 ⟨rfl, rfl⟩ ⟨Nat.le_of_ble_eq_true rfl, Nat.le_of_ble_eq_true rfl⟩ trivial rfl hl.1 rfl (Nat.le_of_ble_eq_true rfl) dX4_save_3 ⟨Nat.le_of_ble_eq_true rfl, Nat.le_of_ble_eq_true rfl⟩) ?_
  refine lv_if_ne (tgt := 11) (cx_x X) (cx_b X) dX4_save_6 (by decide) (fun _ => ?_) (fun hc => absurd hc (by decide))
  refine lv_aload_n (cx_x X) (cx_b X) dX4_save_11 rfl (lv_at hl 0 rfl) ?_
  refine gfW_X4_30 X (tp_t hP) 0 rfl (v := .ref (ad 9 3)) rfl dX4_save_12 ?_
  refine lv_iload_n (cx_x X) (cx_b X) dX4_save_15 rfl (lv_at hl 1 rfl) ?_
  refine va_aldq (cx_x X) (cx_b X) (cx_K X).1 (tp_t hP) 3 3 rfl rfl (show inb (0 : Int32) 2 by decide) dX4_save_16 ?_
  refine lv_eqv (v' := .ref (ad 7 0)) (sf_0' hp) ?_
  refine lv_astore_n (lv' := [(2, .ref (ad 7 0)), (0, .ref (ad 9 0)), (1, .int (0 : Int32))]) (cx_x X) (cx_b X) dX4_save_17 rfl hl (by decide) rfl (fun ls hl => ?_)
  refine lv_aload_n (cx_x X) (cx_b X) dX4_save_18 rfl (lv_at hl 0 rfl) ?_
  refine lv_ifnonnull (tgt := 44) (cx_x X) (cx_b X) dX4_save_19 (by decide) ?_
  refine lv_aload_n (cx_x X) (cx_b X) dX4_save_44 rfl (lv_at hl 0 rfl) ?_
  refine lv_aload_n (cx_x X) (cx_b X) dX4_save_45 rfl (lv_at hl 1 rfl) ?_
  refine gfW_X4_19 X (tp_t hP) 0 rfl (v := .ref (ad 0 0)) rfl dX4_save_46 ?_
  obtain ⟨h1, hm⟩ := ck_E hm
  refine af_W (mc := 0) (ms := 0) (rn_V (As := [.ref (ad 0 0)]) (rest := []) X (c_X2_copyFrom l D y (ad 7) (ad 0) (NB 7 0) (NB 0 0) (N 7).1 (N 0).1 (N 7).2.1 (N 0).2.1 _ h1 (tp_aj hP hpi) (tp_aj hP pz_0) (tp_ne hP hpi pz_0 (by decide))) vq_X4_220 ⟨rfl, rfl⟩ ⟨Nat.le_of_ble_eq_true rfl, Nat.le_of_ble_eq_true rfl⟩ (va_recv (cx_K X).1 (tp_n hP hpi) (ci := 2) (q0 := 0) rfl rfl) ⟨rfl, (tp_n hP hpi).app (tp_n hP pz_0)⟩ rfl hl.1 rfl (Nat.le_of_ble_eq_true rfl) dX4_save_49 ⟨Nat.le_of_ble_eq_true rfl, Nat.le_of_ble_eq_true rfl⟩) hS (fun q hq => pu_in hPP hS.1 q (rd_in hP hpi pz_0 (Nat.le_refl _) q hq)) (fun H1 locs1 hW hz1 hk1 hS => ?_)
  obtain ⟨NB, hP⟩ : ∃ NB1 : Nat → Nat → Nat, tp_e D y PP ad NB1 p0 (hh_s c0 k) U V (va_up N 7 (N 0)) H1 := ⟨_, tp_C hP hpi pz_0 (by decide) hk1 hW⟩
  generalize H1 = H at hP hS ⊢
  generalize locs1 = locs at hS ⊢
  obtain ⟨N2, eN2, hm⟩ := lt_E hm
  rw [← eN2] at hP
  refine lv_aload_n (cx_x X) (cx_b X) dX4_save_52 rfl (lv_at hl 1 rfl) ?_
  refine gfW_X4_19 X (tp_t hP) 0 rfl (v := .ref (ad 0 0)) rfl dX4_save_53 ?_
  obtain ⟨v4, h3, hm⟩ := bnd hm
  refine af_R (rn_V (As := []) (rest := []) X (c_X2_presentCalls l D y (ad 0) (NB 0) (N2 0).1 (N2 0).2.1 (N2 0).2.2.1 (N2 0).2.2.2  _ h3) vq_X4_159 ⟨rfl, rfl⟩ ⟨Nat.le_of_ble_eq_true rfl, Nat.le_of_ble_eq_true rfl⟩ (rec_2 X (tp_n hP pz_0)) ⟨(tp_n hP pz_0), (tp_l hP pz_0)⟩ rfl hl.1 rfl (Nat.le_of_ble_eq_true rfl) dX4_save_56 ⟨Nat.le_of_ble_eq_true rfl, Nat.le_of_ble_eq_true rfl⟩) ?_
  obtain ⟨rfl, rfl, rfl, rfl, rfl, rfl⟩ := oc_6 hm
  exact gx_i X (Nat.le_of_ble_eq_true rfl) (Nat.le_of_ble_eq_true rfl) hS ⟨_, _, rfl, hP⟩ dX4_save_59
/-! saveN0 -/
def m4_saveN0 (c0 : Nat) (k : Nat) (U : (Nat → Int32)) (V : (Nat → Nat → Int32)) (N : (Nat → ns_T)) : Option (Int32 × Nat × Nat × (Nat → Int32) × (Nat → Nat → Int32) × (Nat → ns_T)) :=
  lt_ (va_up N 7 (nb_F ni_F, nb_R, (N 0).2.2)) fun (N1 : Nat → ns_T) =>
  if (N1 0).1 3 &&& 1 = (N1 0).1 3 then
  lt_ (va_up N1 7 (N1 0)) fun (N3 : Nat → ns_T) =>
  (m2_presentCalls (N3 0).1 (N3 0).2.1 (N3 0).2.2.1 (N3 0).2.2.2).bind fun v5 =>
  some (v5, c0, k, U, V, N3) else none
abbrev rm_saveN0 : Room := { frames := 3, cells := 5, slots := 220, locals := 65 }
set_option maxHeartbeats 4000000 in
set_option maxRecDepth 100000 in
theorem c_saveN0 (l : Launch) (D : va_G) (y : Nat → ClassId) (P : Nat → Prop) (ad NB : Nat → Nat → Nat) (p0 : Nat → Bool) (c0 : Nat) (k : Nat) (U : (Nat → Int32)) (V : (Nat → Nat → Int32)) (N : (Nat → ns_T)) (rr : Int32) (c1 k1 : Nat) (U1 : (Nat → Int32)) (V1 : (Nat → Nat → Int32)) (N1 : Nat → ns_T) (sz : Nat) (hp : p0 7 = false) (hm : m4_saveN0 c0 k U V N = some (rr, c1, k1, U1, V1, N1)) : Met l yX4_save (wy_s yX4_save cX4_save 3 (some .int)) rm_saveN0 (pc_R D y [.ref (ad 9 0), .int (0 : Int32)] (fun H => H.size = sz ∧ tp_e D y P ad NB p0 (hh_s c0 k) U V N H)) (qc_W (some (.int rr)) (fun H => ∃ ad1 NB1 : Nat → Nat → Nat, ad1 9 0 = ad 9 0 ∧ tp_e D y (pu_s P sz) ad1 NB1 (va_up p0 7 true) (hh_s c1 k1) U1 V1 N1 H) (pu_s P sz)) 5 220 (pu_s P sz) := by
  refine met_W (by decide) (Nat.le_of_ble_eq_true rfl) ?_
  intro p e s m args below meth c X hnm h0 ls hl
  obtain ⟨hsz, hP⟩ := h0
  subst hsz
  obtain ⟨PP, hPP⟩ : ∃ PP, PP = pu_s P s.heap.size := ⟨_, rfl⟩
  rw [← hPP]
  replace hP : tp_e D y PP ad NB p0 (hh_s c0 k) U V N s.heap := tp_mono hP (by rw [hPP]; exact fun q h => Or.inl h)
  have hS : va_S PP s.heap s.heap [] := va_S.rf
  replace hl : lv_has ls 3 [(0, .ref (ad 9 0)), (1, .int (0 : Int32))] := hl
  replace X : cx p s m args meth c cX4_save 3 (some .int) RX4 D y := X
  unfold m4_saveN0 at hm
  refine lv_iload_n (cx_x X) (cx_b X) dX4_save_0 rfl (lv_at hl 1 rfl) ?_
  refine lv_iconst (v := (0 : Int32)) (cx_x X) (cx_b X) dX4_save_1 (by decide) ?_
  refine lv_iconst (v := (1 : Int32)) (cx_x X) (cx_b X) dX4_save_2 (by decide) ?_
  refine af_R (rn_S (As := [.int (0 : Int32), .int (0 : Int32), .int (1 : Int32)]) (rest := []) X (c_X4_isBetween l D y (0 : Int32) (0 : Int32) (1 : Int32) (1 : Int32) (by decide +kernel)) sq_X4_41 ⟨rfl, rfl⟩ ⟨Nat.le_of_ble_eq_true rfl, Nat.le_of_ble_eq_true rfl⟩ trivial rfl hl.1 rfl (Nat.le_of_ble_eq_true rfl) dX4_save_3 ⟨Nat.le_of_ble_eq_true rfl, Nat.le_of_ble_eq_true rfl⟩) ?_
  refine lv_if_ne (tgt := 11) (cx_x X) (cx_b X) dX4_save_6 (by decide) (fun _ => ?_) (fun hc => absurd hc (by decide))
  refine lv_aload_n (cx_x X) (cx_b X) dX4_save_11 rfl (lv_at hl 0 rfl) ?_
  refine gfW_X4_30 X (tp_t hP) 0 rfl (v := .ref (ad 9 3)) rfl dX4_save_12 ?_
  refine lv_iload_n (cx_x X) (cx_b X) dX4_save_15 rfl (lv_at hl 1 rfl) ?_
  refine va_aldq (cx_x X) (cx_b X) (cx_K X).1 (tp_t hP) 3 3 rfl rfl (show inb (0 : Int32) 2 by decide) dX4_save_16 ?_
  refine lv_eqv (v' := .null) (sf_0 hp) ?_
  refine lv_astore_nN (lv' := [(2, .null), (0, .ref (ad 9 0)), (1, .int (0 : Int32))]) (cx_x X) (cx_b X) dX4_save_17 rfl hl (by decide) rfl (fun ls hl => ?_)
  refine lv_aload_nN (cx_x X) (cx_b X) dX4_save_18 rfl (lv_at hl 0 rfl) ?_
  refine lv_ifnonnullN (cx_x X) (cx_b X) dX4_save_19 ?_
  have hlt := tp_lt hP
  have hltB := tp_ltB hP
  have hge0 := hS.1
  refine fx_new (ci := 2) X inlX2 tyX2_ok qw_12 qw_13 qw_14 hS rfl [.null, .int 0, .int 0, .int 0, .int 0, .int 0, .int 0, .int 0, .int 0, .int 0, .int 0, .null, .null, .null, .null] (fun j hj => by rcases (show j = 0 ∨ j = 1 ∨ j = 2 ∨ j = 3 ∨ j = 4 ∨ j = 5 ∨ j = 6 ∨ j = 7 ∨ j = 8 ∨ j = 9 ∨ j = 10 ∨ j = 11 ∨ j = 12 ∨ j = 13 ∨ j = 14 by omega) with rfl | rfl | rfl | rfl | rfl | rfl | rfl | rfl | rfl | rfl | rfl | rfl | rfl | rfl | rfl <;> rfl) (Nat.le_of_ble_eq_true rfl) (Nat.le_of_ble_eq_true rfl) dX4_save_22 (fun Hb hNw hz1 ho hS => ?_)
  replace hP := tp_up hP hlt hltB ho
  obtain ⟨q0, hq0⟩ : ∃ q0, q0 = s.heap.size := ⟨_, rfl⟩
  have hge : s.heap.size ≤ q0 := by rw [hq0]; exact hge0
  rw [← hq0] at hNw hz1 hlt hltB ⊢
  refine lv_dup (cx_x X) (cx_b X) dX4_save_25 rfl ?_
  refine lv_aload_n (cx_x X) (cx_b X) dX4_save_26 rfl (lv_at hl 1 rfl) ?_
  refine gfW_X4_19 X (tp_t hP) 0 rfl (v := .ref (ad 0 0)) rfl dX4_save_27 ?_
  refine gf_X4_52 X (tp_n hP pz_0) dX4_save_30 ?_
  refine af_W (mc := 4) (ms := 205) (rn_I (As := [.ref (NB 0 0)]) (rest := [.ref q0]) X (c_X2_init l D y q0 _ (NB 0 0)) iq_X4_16 ⟨rfl, rfl⟩ ⟨Nat.le_of_ble_eq_true rfl, Nat.le_of_ble_eq_true rfl⟩ ⟨rfl, hNw⟩ rfl hl.1 rfl (Nat.le_of_ble_eq_true rfl) dX4_save_33 ⟨Nat.le_of_ble_eq_true rfl, Nat.le_of_ble_eq_true rfl⟩) hS (rg_in (by rw [hPP]; exact Or.inr hge) (fun q hq => by rw [hPP]; exact Or.inr (by omega))) (fun Hc locs hNx hz2 hk2 hS => ?_)
  obtain ⟨B1, hB0, hB1, hBL⟩ := hNx
  replace hP := tp_up hP hlt hltB (fun q hq => hk2 q (by omega) (rg_no (by omega) (by omega)))
  have hB : ∀ k, k < 5 → q0 ≤ B1 k ∧ PP (B1 k) := fun k hk => rg_b hPP hge (by omega) (hB1.2 k hk)
  have hv0 := hBL 0 _ rfl
  rw [hB0] at hv0
  refine lv_astore_n (lv' := [(2, .ref q0), (0, .ref (ad 9 0)), (1, .int (0 : Int32))]) (cx_x X) (cx_b X) dX4_save_36 rfl hl (by decide) rfl (fun ls hl => ?_)
  refine lv_aload_n (cx_x X) (cx_b X) dX4_save_37 rfl (lv_at hl 1 rfl) ?_
  refine gfW_X4_30 X (tp_t hP) 0 rfl (v := .ref (ad 9 3)) rfl dX4_save_38 ?_
  refine lv_iload_n (cx_x X) (cx_b X) dX4_save_41 rfl (lv_at hl 2 rfl) ?_
  refine lv_aload_n (cx_x X) (cx_b X) dX4_save_42 rfl (lv_at hl 0 rfl) ?_
  refine fx_ast X (tp_t hP 3 _ rfl) hv0 (by decide) hS (hP.2.1 9 3 (vz_t (by decide))) dX4_save_43 (fun H locs ha hz3 ho hS => ?_)
  replace hP := tp_new (i0 := 7) hP (Or.inl rfl) hp hlt hltB hB1.1 hB hBL ha (sfu_0 hB0) ho
  have hpi : pz (va_up p0 7 true) 7 := Or.inr ⟨by decide, rfl⟩
  obtain ⟨NB, hP⟩ : ∃ NB1 : Nat → Nat → Nat, tp_e D y PP (va_up ad 7 B1) NB1 (va_up p0 7 true) (hh_s c0 k) U V (va_up N 7 (nb_F ni_F, nb_R, (N 0).2.2)) H := ⟨_, hP⟩
  have e0 : ad 0 = (va_up ad 7 B1) 0 := rfl
  have e9 : ad 9 = (va_up ad 7 B1) 9 := rfl
  have e7 : q0 = (va_up ad 7 B1) 7 0 := hB0.symm
  rw [e9, e7] at hl
  have e99 : (va_up ad 7 B1) 9 0 = ad 9 0 := rfl
  generalize va_up ad 7 B1 = ad2 at hP hl e99
  generalize va_up p0 7 true = p2 at hP hpi ⊢
  obtain ⟨N1, eN1, hm⟩ := lt_E hm
  rw [← eN1] at hP
  refine lv_aload_n (cx_x X) (cx_b X) dX4_save_44 rfl (lv_at hl 0 rfl) ?_
  refine lv_aload_n (cx_x X) (cx_b X) dX4_save_45 rfl (lv_at hl 1 rfl) ?_
  refine gfW_X4_19 X (tp_t hP) 0 rfl (v := .ref (ad2 0 0)) rfl dX4_save_46 ?_
  obtain ⟨h2, hm⟩ := ck_E hm
  refine af_W (mc := 0) (ms := 0) (rn_V (As := [.ref (ad2 0 0)]) (rest := []) X (c_X2_copyFrom l D y (ad2 7) (ad2 0) (NB 7 0) (NB 0 0) (N1 7).1 (N1 0).1 (N1 7).2.1 (N1 0).2.1 _ h2 (tp_aj hP hpi) (tp_aj hP pz_0) (tp_ne hP hpi pz_0 (by decide))) vq_X4_220 ⟨rfl, rfl⟩ ⟨Nat.le_of_ble_eq_true rfl, Nat.le_of_ble_eq_true rfl⟩ (va_recv (cx_K X).1 (tp_n hP hpi) (ci := 2) (q0 := 0) rfl rfl) ⟨rfl, (tp_n hP hpi).app (tp_n hP pz_0)⟩ rfl hl.1 rfl (Nat.le_of_ble_eq_true rfl) dX4_save_49 ⟨Nat.le_of_ble_eq_true rfl, Nat.le_of_ble_eq_true rfl⟩) hS (fun q hq => pu_in hPP hS.1 q (rd_in hP hpi pz_0 (Nat.le_refl _) q hq)) (fun H1 locs1 hW hz1 hk1 hS => ?_)
  obtain ⟨NB, hP⟩ : ∃ NB1 : Nat → Nat → Nat, tp_e D y PP ad2 NB1 p2 (hh_s c0 k) U V (va_up N1 7 (N1 0)) H1 := ⟨_, tp_C hP hpi pz_0 (by decide) hk1 hW⟩
  generalize H1 = H at hP hS ⊢
  generalize locs1 = locs at hS ⊢
  obtain ⟨N3, eN3, hm⟩ := lt_E hm
  rw [← eN3] at hP
  refine lv_aload_n (cx_x X) (cx_b X) dX4_save_52 rfl (lv_at hl 1 rfl) ?_
  refine gfW_X4_19 X (tp_t hP) 0 rfl (v := .ref (ad2 0 0)) rfl dX4_save_53 ?_
  obtain ⟨v5, h4, hm⟩ := bnd hm
  refine af_R (rn_V (As := []) (rest := []) X (c_X2_presentCalls l D y (ad2 0) (NB 0) (N3 0).1 (N3 0).2.1 (N3 0).2.2.1 (N3 0).2.2.2  _ h4) vq_X4_159 ⟨rfl, rfl⟩ ⟨Nat.le_of_ble_eq_true rfl, Nat.le_of_ble_eq_true rfl⟩ (rec_2 X (tp_n hP pz_0)) ⟨(tp_n hP pz_0), (tp_l hP pz_0)⟩ rfl hl.1 rfl (Nat.le_of_ble_eq_true rfl) dX4_save_56 ⟨Nat.le_of_ble_eq_true rfl, Nat.le_of_ble_eq_true rfl⟩) ?_
  obtain ⟨rfl, rfl, rfl, rfl, rfl, rfl⟩ := oc_6 hm
  exact gx_i X (Nat.le_of_ble_eq_true rfl) (Nat.le_of_ble_eq_true rfl) hS ⟨ad2, _, e99, hP⟩ dX4_save_59
/-! restoreN1 -/
def m4_restoreN1 (c0 : Nat) (k : Nat) (U : (Nat → Int32)) (V : (Nat → Nat → Int32)) (N : (Nat → ns_T)) : Option (Int32 × Nat × Nat × (Nat → Int32) × (Nat → Nat → Int32) × (Nat → ns_T)) :=
  some ((-2 : Int32), c0, k, U, V, N)
abbrev rm_restoreN1 : Room := { frames := 2, cells := 0, slots := 0, locals := 61 }
set_option maxHeartbeats 4000000 in
set_option maxRecDepth 100000 in
theorem c_restoreN1 (l : Launch) (D : va_G) (y : Nat → ClassId) (P : Nat → Prop) (ad NB : Nat → Nat → Nat) (p0 : Nat → Bool) (c0 : Nat) (k : Nat) (U : (Nat → Int32)) (V : (Nat → Nat → Int32)) (N : (Nat → ns_T)) (rr : Int32) (c1 k1 : Nat) (U1 : (Nat → Int32)) (V1 : (Nat → Nat → Int32)) (N1 : Nat → ns_T) (sz : Nat) (hp : p0 8 = false) (hm : m4_restoreN1 c0 k U V N = some (rr, c1, k1, U1, V1, N1)) : Met l yX4_restore (wy_s yX4_restore cX4_restore 3 (some .int)) rm_restoreN1 (pc_R D y [.ref (ad 9 0), .int (1 : Int32)] (fun H => H.size = sz ∧ tp_e D y P ad NB p0 (hh_s c0 k) U V N H)) (qc_W (some (.int rr)) (fun H => ∃ ad1 NB1 : Nat → Nat → Nat, ad1 9 0 = ad 9 0 ∧ tp_e D y (pu_s P sz) ad1 NB1 p0 (hh_s c1 k1) U1 V1 N1 H) (pu_s P sz)) 0 0 (pu_s P sz) := by
  refine met_W (by decide) (Nat.le_of_ble_eq_true rfl) ?_
  intro p e s m args below meth c X hnm h0 ls hl
  obtain ⟨hsz, hP⟩ := h0
  subst hsz
  obtain ⟨PP, hPP⟩ : ∃ PP, PP = pu_s P s.heap.size := ⟨_, rfl⟩
  rw [← hPP]
  replace hP : tp_e D y PP ad NB p0 (hh_s c0 k) U V N s.heap := tp_mono hP (by rw [hPP]; exact fun q h => Or.inl h)
  have hS : va_S PP s.heap s.heap [] := va_S.rf
  replace hl : lv_has ls 3 [(0, .ref (ad 9 0)), (1, .int (1 : Int32))] := hl
  replace X : cx p s m args meth c cX4_restore 3 (some .int) RX4 D y := X
  unfold m4_restoreN1 at hm
  refine lv_iload_n (cx_x X) (cx_b X) dX4_restore_0 rfl (lv_at hl 1 rfl) ?_
  refine lv_iconst (v := (0 : Int32)) (cx_x X) (cx_b X) dX4_restore_1 (by decide) ?_
  refine lv_iconst (v := (1 : Int32)) (cx_x X) (cx_b X) dX4_restore_2 (by decide) ?_
  refine af_R (rn_S (As := [.int (1 : Int32), .int (0 : Int32), .int (1 : Int32)]) (rest := []) X (c_X4_isBetween l D y (1 : Int32) (0 : Int32) (1 : Int32) (1 : Int32) (by decide +kernel)) sq_X4_41 ⟨rfl, rfl⟩ ⟨Nat.le_of_ble_eq_true rfl, Nat.le_of_ble_eq_true rfl⟩ trivial rfl hl.1 rfl (Nat.le_of_ble_eq_true rfl) dX4_restore_3 ⟨Nat.le_of_ble_eq_true rfl, Nat.le_of_ble_eq_true rfl⟩) ?_
  refine lv_if_ne (tgt := 11) (cx_x X) (cx_b X) dX4_restore_6 (by decide) (fun _ => ?_) (fun hc => absurd hc (by decide))
  refine lv_aload_n (cx_x X) (cx_b X) dX4_restore_11 rfl (lv_at hl 0 rfl) ?_
  refine gfW_X4_30 X (tp_t hP) 0 rfl (v := .ref (ad 9 3)) rfl dX4_restore_12 ?_
  refine lv_iload_n (cx_x X) (cx_b X) dX4_restore_15 rfl (lv_at hl 1 rfl) ?_
  refine va_aldq (cx_x X) (cx_b X) (cx_K X).1 (tp_t hP) 3 3 rfl rfl (show inb (1 : Int32) 2 by decide) dX4_restore_16 ?_
  refine lv_eqv (v' := .null) (sf_1 hp) ?_
  refine lv_astore_nN (lv' := [(2, .null), (0, .ref (ad 9 0)), (1, .int (1 : Int32))]) (cx_x X) (cx_b X) dX4_restore_17 rfl hl (by decide) rfl (fun ls hl => ?_)
  refine lv_aload_nN (cx_x X) (cx_b X) dX4_restore_18 rfl (lv_at hl 0 rfl) ?_
  refine lv_ifnonnullN (cx_x X) (cx_b X) dX4_restore_19 ?_
  refine lv_bipush (v := (-2 : Int32)) (cx_x X) (cx_b X) dX4_restore_22 (by decide) ?_
  obtain ⟨rfl, rfl, rfl, rfl, rfl, rfl⟩ := oc_6 hm
  exact gx_i X (Nat.le_of_ble_eq_true rfl) (Nat.le_of_ble_eq_true rfl) hS ⟨_, _, rfl, hP⟩ dX4_restore_24
/-! restoreS1 -/
def m4_restoreS1 (c0 : Nat) (k : Nat) (U : (Nat → Int32)) (V : (Nat → Nat → Int32)) (N : (Nat → ns_T)) : Option (Int32 × Nat × Nat × (Nat → Int32) × (Nat → Nat → Int32) × (Nat → ns_T)) :=
  if (N 8).1 3 &&& 1 = (N 8).1 3 then
  lt_ (va_up N 0 (N 8)) fun (N2 : Nat → ns_T) =>
  (m2_presentCalls (N2 0).1 (N2 0).2.1 (N2 0).2.2.1 (N2 0).2.2.2).bind fun v4 =>
  some (v4, 0, k, U, V, N2) else none
abbrev rm_restoreS1 : Room := { frames := 2, cells := 0, slots := 0, locals := 61 }
set_option maxHeartbeats 4000000 in
set_option maxRecDepth 100000 in
theorem c_restoreS1 (l : Launch) (D : va_G) (y : Nat → ClassId) (P : Nat → Prop) (ad NB : Nat → Nat → Nat) (p0 : Nat → Bool) (c0 : Nat) (k : Nat) (U : (Nat → Int32)) (V : (Nat → Nat → Int32)) (N : (Nat → ns_T)) (rr : Int32) (c1 k1 : Nat) (U1 : (Nat → Int32)) (V1 : (Nat → Nat → Int32)) (N1 : Nat → ns_T) (sz : Nat) (hp : p0 8 = true) (hm : m4_restoreS1 c0 k U V N = some (rr, c1, k1, U1, V1, N1)) : Met l yX4_restore (wy_s yX4_restore cX4_restore 3 (some .int)) rm_restoreS1 (pc_R D y [.ref (ad 9 0), .int (1 : Int32)] (fun H => H.size = sz ∧ tp_e D y P ad NB p0 (hh_s c0 k) U V N H)) (qc_W (some (.int rr)) (fun H => ∃ ad1 NB1 : Nat → Nat → Nat, ad1 9 0 = ad 9 0 ∧ tp_e D y (pu_s P sz) ad1 NB1 p0 (hh_s c1 k1) U1 V1 N1 H) (pu_s P sz)) 0 0 (pu_s P sz) := by
  refine met_W (by decide) (Nat.le_of_ble_eq_true rfl) ?_
  intro p e s m args below meth c X hnm h0 ls hl
  obtain ⟨hsz, hP⟩ := h0
  subst hsz
  obtain ⟨PP, hPP⟩ : ∃ PP, PP = pu_s P s.heap.size := ⟨_, rfl⟩
  rw [← hPP]
  replace hP : tp_e D y PP ad NB p0 (hh_s c0 k) U V N s.heap := tp_mono hP (by rw [hPP]; exact fun q h => Or.inl h)
  have hS : va_S PP s.heap s.heap [] := va_S.rf
  replace hl : lv_has ls 3 [(0, .ref (ad 9 0)), (1, .int (1 : Int32))] := hl
  replace X : cx p s m args meth c cX4_restore 3 (some .int) RX4 D y := X
  have hpi : pz p0 8 := Or.inr ⟨by decide, hp⟩
  unfold m4_restoreS1 at hm
  refine lv_iload_n (cx_x X) (cx_b X) dX4_restore_0 rfl (lv_at hl 1 rfl) ?_
  refine lv_iconst (v := (0 : Int32)) (cx_x X) (cx_b X) dX4_restore_1 (by decide) ?_
  refine lv_iconst (v := (1 : Int32)) (cx_x X) (cx_b X) dX4_restore_2 (by decide) ?_
  refine af_R (rn_S (As := [.int (1 : Int32), .int (0 : Int32), .int (1 : Int32)]) (rest := []) X (c_X4_isBetween l D y (1 : Int32) (0 : Int32) (1 : Int32) (1 : Int32) (by decide +kernel)) sq_X4_41 ⟨rfl, rfl⟩ ⟨Nat.le_of_ble_eq_true rfl, Nat.le_of_ble_eq_true rfl⟩ trivial rfl hl.1 rfl (Nat.le_of_ble_eq_true rfl) dX4_restore_3 ⟨Nat.le_of_ble_eq_true rfl, Nat.le_of_ble_eq_true rfl⟩) ?_
  refine lv_if_ne (tgt := 11) (cx_x X) (cx_b X) dX4_restore_6 (by decide) (fun _ => ?_) (fun hc => absurd hc (by decide))
  refine lv_aload_n (cx_x X) (cx_b X) dX4_restore_11 rfl (lv_at hl 0 rfl) ?_
  refine gfW_X4_30 X (tp_t hP) 0 rfl (v := .ref (ad 9 3)) rfl dX4_restore_12 ?_
  refine lv_iload_n (cx_x X) (cx_b X) dX4_restore_15 rfl (lv_at hl 1 rfl) ?_
  refine va_aldq (cx_x X) (cx_b X) (cx_K X).1 (tp_t hP) 3 3 rfl rfl (show inb (1 : Int32) 2 by decide) dX4_restore_16 ?_
  refine lv_eqv (v' := .ref (ad 8 0)) (sf_1' hp) ?_
  refine lv_astore_n (lv' := [(2, .ref (ad 8 0)), (0, .ref (ad 9 0)), (1, .int (1 : Int32))]) (cx_x X) (cx_b X) dX4_restore_17 rfl hl (by decide) rfl (fun ls hl => ?_)
  refine lv_aload_n (cx_x X) (cx_b X) dX4_restore_18 rfl (lv_at hl 0 rfl) ?_
  refine lv_ifnonnull (tgt := 25) (cx_x X) (cx_b X) dX4_restore_19 (by decide) ?_
  refine lv_aload_n (cx_x X) (cx_b X) dX4_restore_25 rfl (lv_at hl 1 rfl) ?_
  refine gfW_X4_19 X (tp_t hP) 0 rfl (v := .ref (ad 0 0)) rfl dX4_restore_26 ?_
  refine lv_aload_n (cx_x X) (cx_b X) dX4_restore_29 rfl (lv_at hl 0 rfl) ?_
  obtain ⟨h1, hm⟩ := ck_E hm
  refine af_W (mc := 0) (ms := 0) (rn_V (As := [.ref (ad 8 0)]) (rest := []) X (c_X2_copyFrom l D y (ad 0) (ad 8) (NB 0 0) (NB 8 0) (N 0).1 (N 8).1 (N 0).2.1 (N 8).2.1 _ h1 (tp_aj hP pz_0) (tp_aj hP hpi) (tp_ne hP pz_0 hpi (by decide))) vq_X4_220 ⟨rfl, rfl⟩ ⟨Nat.le_of_ble_eq_true rfl, Nat.le_of_ble_eq_true rfl⟩ (va_recv (cx_K X).1 (tp_n hP pz_0) (ci := 2) (q0 := 0) rfl rfl) ⟨rfl, (tp_n hP pz_0).app (tp_n hP hpi)⟩ rfl hl.1 rfl (Nat.le_of_ble_eq_true rfl) dX4_restore_30 ⟨Nat.le_of_ble_eq_true rfl, Nat.le_of_ble_eq_true rfl⟩) hS (fun q hq => pu_in hPP hS.1 q (rd_in hP pz_0 hpi (Nat.le_refl _) q hq)) (fun H1 locs1 hW hz1 hk1 hS => ?_)
  obtain ⟨NB, hP⟩ : ∃ NB1 : Nat → Nat → Nat, tp_e D y PP ad NB1 p0 (hh_s c0 k) U V (va_up N 0 (N 8)) H1 := ⟨_, tp_C hP pz_0 hpi (by decide) hk1 hW⟩
  generalize H1 = H at hP hS ⊢
  generalize locs1 = locs at hS ⊢
  obtain ⟨N2, eN2, hm⟩ := lt_E hm
  rw [← eN2] at hP
  refine lv_aload_n (cx_x X) (cx_b X) dX4_restore_33 rfl (lv_at hl 1 rfl) ?_
  refine gfW_X4_26 X (tp_t hP) 0 rfl (v := .ref (ad 9 1)) rfl dX4_restore_34 ?_
  refine lv_iconst (v := (0 : Int32)) (cx_x X) (cx_b X) dX4_restore_37 (by decide) ?_
  refine fx_put X inlX0 tyX0_ok nmX0 (tp_t hP 1 _ rfl) rfl 0 (by decide) qw_108 (fun _ h => h) rfl (ty := .int) (by decide +kernel) rfl rfl (Nat.le_of_ble_eq_true rfl) hS (hP.2.1 9 1 (vz_t (by decide))) dX4_restore_38 (fun H locs ha hz1 ho hS => ?_)
  replace hP := tp_H hP (hh_s 0 k) ha ho
  refine lv_aload_n (cx_x X) (cx_b X) dX4_restore_41 rfl (lv_at hl 1 rfl) ?_
  refine gfW_X4_19 X (tp_t hP) 0 rfl (v := .ref (ad 0 0)) rfl dX4_restore_42 ?_
  obtain ⟨v4, h3, hm⟩ := bnd hm
  refine af_R (rn_V (As := []) (rest := []) X (c_X2_presentCalls l D y (ad 0) (NB 0) (N2 0).1 (N2 0).2.1 (N2 0).2.2.1 (N2 0).2.2.2  _ h3) vq_X4_159 ⟨rfl, rfl⟩ ⟨Nat.le_of_ble_eq_true rfl, Nat.le_of_ble_eq_true rfl⟩ (rec_2 X (tp_n hP pz_0)) ⟨(tp_n hP pz_0), (tp_l hP pz_0)⟩ rfl hl.1 rfl (Nat.le_of_ble_eq_true rfl) dX4_restore_45 ⟨Nat.le_of_ble_eq_true rfl, Nat.le_of_ble_eq_true rfl⟩) ?_
  obtain ⟨rfl, rfl, rfl, rfl, rfl, rfl⟩ := oc_6 hm
  exact gx_i X (Nat.le_of_ble_eq_true rfl) (Nat.le_of_ble_eq_true rfl) hS ⟨_, _, rfl, hP⟩ dX4_restore_48
/-! saveS1 -/
def m4_saveS1 (c0 : Nat) (k : Nat) (U : (Nat → Int32)) (V : (Nat → Nat → Int32)) (N : (Nat → ns_T)) : Option (Int32 × Nat × Nat × (Nat → Int32) × (Nat → Nat → Int32) × (Nat → ns_T)) :=
  if (N 0).1 3 &&& 1 = (N 0).1 3 then
  lt_ (va_up N 8 (N 0)) fun (N2 : Nat → ns_T) =>
  (m2_presentCalls (N2 0).1 (N2 0).2.1 (N2 0).2.2.1 (N2 0).2.2.2).bind fun v4 =>
  some (v4, c0, k, U, V, N2) else none
abbrev rm_saveS1 : Room := { frames := 3, cells := 5, slots := 220, locals := 65 }
set_option maxHeartbeats 4000000 in
set_option maxRecDepth 100000 in
theorem c_saveS1 (l : Launch) (D : va_G) (y : Nat → ClassId) (P : Nat → Prop) (ad NB : Nat → Nat → Nat) (p0 : Nat → Bool) (c0 : Nat) (k : Nat) (U : (Nat → Int32)) (V : (Nat → Nat → Int32)) (N : (Nat → ns_T)) (rr : Int32) (c1 k1 : Nat) (U1 : (Nat → Int32)) (V1 : (Nat → Nat → Int32)) (N1 : Nat → ns_T) (sz : Nat) (hp : p0 8 = true) (hm : m4_saveS1 c0 k U V N = some (rr, c1, k1, U1, V1, N1)) : Met l yX4_save (wy_s yX4_save cX4_save 3 (some .int)) rm_saveS1 (pc_R D y [.ref (ad 9 0), .int (1 : Int32)] (fun H => H.size = sz ∧ tp_e D y P ad NB p0 (hh_s c0 k) U V N H)) (qc_W (some (.int rr)) (fun H => ∃ ad1 NB1 : Nat → Nat → Nat, ad1 9 0 = ad 9 0 ∧ tp_e D y (pu_s P sz) ad1 NB1 p0 (hh_s c1 k1) U1 V1 N1 H) (pu_s P sz)) 5 220 (pu_s P sz) := by
  refine met_W (by decide) (Nat.le_of_ble_eq_true rfl) ?_
  intro p e s m args below meth c X hnm h0 ls hl
  obtain ⟨hsz, hP⟩ := h0
  subst hsz
  obtain ⟨PP, hPP⟩ : ∃ PP, PP = pu_s P s.heap.size := ⟨_, rfl⟩
  rw [← hPP]
  replace hP : tp_e D y PP ad NB p0 (hh_s c0 k) U V N s.heap := tp_mono hP (by rw [hPP]; exact fun q h => Or.inl h)
  have hS : va_S PP s.heap s.heap [] := va_S.rf
  replace hl : lv_has ls 3 [(0, .ref (ad 9 0)), (1, .int (1 : Int32))] := hl
  replace X : cx p s m args meth c cX4_save 3 (some .int) RX4 D y := X
  have hpi : pz p0 8 := Or.inr ⟨by decide, hp⟩
  unfold m4_saveS1 at hm
  refine lv_iload_n (cx_x X) (cx_b X) dX4_save_0 rfl (lv_at hl 1 rfl) ?_
  refine lv_iconst (v := (0 : Int32)) (cx_x X) (cx_b X) dX4_save_1 (by decide) ?_
  refine lv_iconst (v := (1 : Int32)) (cx_x X) (cx_b X) dX4_save_2 (by decide) ?_
  refine af_R (rn_S (As := [.int (1 : Int32), .int (0 : Int32), .int (1 : Int32)]) (rest := []) X (c_X4_isBetween l D y (1 : Int32) (0 : Int32) (1 : Int32) (1 : Int32) (by decide +kernel)) sq_X4_41 ⟨rfl, rfl⟩ ⟨Nat.le_of_ble_eq_true rfl, Nat.le_of_ble_eq_true rfl⟩ trivial rfl hl.1 rfl (Nat.le_of_ble_eq_true rfl) dX4_save_3 ⟨Nat.le_of_ble_eq_true rfl, Nat.le_of_ble_eq_true rfl⟩) ?_
  refine lv_if_ne (tgt := 11) (cx_x X) (cx_b X) dX4_save_6 (by decide) (fun _ => ?_) (fun hc => absurd hc (by decide))
  refine lv_aload_n (cx_x X) (cx_b X) dX4_save_11 rfl (lv_at hl 0 rfl) ?_
  refine gfW_X4_30 X (tp_t hP) 0 rfl (v := .ref (ad 9 3)) rfl dX4_save_12 ?_
  refine lv_iload_n (cx_x X) (cx_b X) dX4_save_15 rfl (lv_at hl 1 rfl) ?_
  refine va_aldq (cx_x X) (cx_b X) (cx_K X).1 (tp_t hP) 3 3 rfl rfl (show inb (1 : Int32) 2 by decide) dX4_save_16 ?_
  refine lv_eqv (v' := .ref (ad 8 0)) (sf_1' hp) ?_
  refine lv_astore_n (lv' := [(2, .ref (ad 8 0)), (0, .ref (ad 9 0)), (1, .int (1 : Int32))]) (cx_x X) (cx_b X) dX4_save_17 rfl hl (by decide) rfl (fun ls hl => ?_)
  refine lv_aload_n (cx_x X) (cx_b X) dX4_save_18 rfl (lv_at hl 0 rfl) ?_
  refine lv_ifnonnull (tgt := 44) (cx_x X) (cx_b X) dX4_save_19 (by decide) ?_
  refine lv_aload_n (cx_x X) (cx_b X) dX4_save_44 rfl (lv_at hl 0 rfl) ?_
  refine lv_aload_n (cx_x X) (cx_b X) dX4_save_45 rfl (lv_at hl 1 rfl) ?_
  refine gfW_X4_19 X (tp_t hP) 0 rfl (v := .ref (ad 0 0)) rfl dX4_save_46 ?_
  obtain ⟨h1, hm⟩ := ck_E hm
  refine af_W (mc := 0) (ms := 0) (rn_V (As := [.ref (ad 0 0)]) (rest := []) X (c_X2_copyFrom l D y (ad 8) (ad 0) (NB 8 0) (NB 0 0) (N 8).1 (N 0).1 (N 8).2.1 (N 0).2.1 _ h1 (tp_aj hP hpi) (tp_aj hP pz_0) (tp_ne hP hpi pz_0 (by decide))) vq_X4_220 ⟨rfl, rfl⟩ ⟨Nat.le_of_ble_eq_true rfl, Nat.le_of_ble_eq_true rfl⟩ (va_recv (cx_K X).1 (tp_n hP hpi) (ci := 2) (q0 := 0) rfl rfl) ⟨rfl, (tp_n hP hpi).app (tp_n hP pz_0)⟩ rfl hl.1 rfl (Nat.le_of_ble_eq_true rfl) dX4_save_49 ⟨Nat.le_of_ble_eq_true rfl, Nat.le_of_ble_eq_true rfl⟩) hS (fun q hq => pu_in hPP hS.1 q (rd_in hP hpi pz_0 (Nat.le_refl _) q hq)) (fun H1 locs1 hW hz1 hk1 hS => ?_)
  obtain ⟨NB, hP⟩ : ∃ NB1 : Nat → Nat → Nat, tp_e D y PP ad NB1 p0 (hh_s c0 k) U V (va_up N 8 (N 0)) H1 := ⟨_, tp_C hP hpi pz_0 (by decide) hk1 hW⟩
  generalize H1 = H at hP hS ⊢
  generalize locs1 = locs at hS ⊢
  obtain ⟨N2, eN2, hm⟩ := lt_E hm
  rw [← eN2] at hP
  refine lv_aload_n (cx_x X) (cx_b X) dX4_save_52 rfl (lv_at hl 1 rfl) ?_
  refine gfW_X4_19 X (tp_t hP) 0 rfl (v := .ref (ad 0 0)) rfl dX4_save_53 ?_
  obtain ⟨v4, h3, hm⟩ := bnd hm
  refine af_R (rn_V (As := []) (rest := []) X (c_X2_presentCalls l D y (ad 0) (NB 0) (N2 0).1 (N2 0).2.1 (N2 0).2.2.1 (N2 0).2.2.2  _ h3) vq_X4_159 ⟨rfl, rfl⟩ ⟨Nat.le_of_ble_eq_true rfl, Nat.le_of_ble_eq_true rfl⟩ (rec_2 X (tp_n hP pz_0)) ⟨(tp_n hP pz_0), (tp_l hP pz_0)⟩ rfl hl.1 rfl (Nat.le_of_ble_eq_true rfl) dX4_save_56 ⟨Nat.le_of_ble_eq_true rfl, Nat.le_of_ble_eq_true rfl⟩) ?_
  obtain ⟨rfl, rfl, rfl, rfl, rfl, rfl⟩ := oc_6 hm
  exact gx_i X (Nat.le_of_ble_eq_true rfl) (Nat.le_of_ble_eq_true rfl) hS ⟨_, _, rfl, hP⟩ dX4_save_59
/-! saveN1 -/
def m4_saveN1 (c0 : Nat) (k : Nat) (U : (Nat → Int32)) (V : (Nat → Nat → Int32)) (N : (Nat → ns_T)) : Option (Int32 × Nat × Nat × (Nat → Int32) × (Nat → Nat → Int32) × (Nat → ns_T)) :=
  lt_ (va_up N 8 (nb_F ni_F, nb_R, (N 0).2.2)) fun (N1 : Nat → ns_T) =>
  if (N1 0).1 3 &&& 1 = (N1 0).1 3 then
  lt_ (va_up N1 8 (N1 0)) fun (N3 : Nat → ns_T) =>
  (m2_presentCalls (N3 0).1 (N3 0).2.1 (N3 0).2.2.1 (N3 0).2.2.2).bind fun v5 =>
  some (v5, c0, k, U, V, N3) else none
abbrev rm_saveN1 : Room := { frames := 3, cells := 5, slots := 220, locals := 65 }
set_option maxHeartbeats 4000000 in
set_option maxRecDepth 100000 in
theorem c_saveN1 (l : Launch) (D : va_G) (y : Nat → ClassId) (P : Nat → Prop) (ad NB : Nat → Nat → Nat) (p0 : Nat → Bool) (c0 : Nat) (k : Nat) (U : (Nat → Int32)) (V : (Nat → Nat → Int32)) (N : (Nat → ns_T)) (rr : Int32) (c1 k1 : Nat) (U1 : (Nat → Int32)) (V1 : (Nat → Nat → Int32)) (N1 : Nat → ns_T) (sz : Nat) (hp : p0 8 = false) (hm : m4_saveN1 c0 k U V N = some (rr, c1, k1, U1, V1, N1)) : Met l yX4_save (wy_s yX4_save cX4_save 3 (some .int)) rm_saveN1 (pc_R D y [.ref (ad 9 0), .int (1 : Int32)] (fun H => H.size = sz ∧ tp_e D y P ad NB p0 (hh_s c0 k) U V N H)) (qc_W (some (.int rr)) (fun H => ∃ ad1 NB1 : Nat → Nat → Nat, ad1 9 0 = ad 9 0 ∧ tp_e D y (pu_s P sz) ad1 NB1 (va_up p0 8 true) (hh_s c1 k1) U1 V1 N1 H) (pu_s P sz)) 5 220 (pu_s P sz) := by
  refine met_W (by decide) (Nat.le_of_ble_eq_true rfl) ?_
  intro p e s m args below meth c X hnm h0 ls hl
  obtain ⟨hsz, hP⟩ := h0
  subst hsz
  obtain ⟨PP, hPP⟩ : ∃ PP, PP = pu_s P s.heap.size := ⟨_, rfl⟩
  rw [← hPP]
  replace hP : tp_e D y PP ad NB p0 (hh_s c0 k) U V N s.heap := tp_mono hP (by rw [hPP]; exact fun q h => Or.inl h)
  have hS : va_S PP s.heap s.heap [] := va_S.rf
  replace hl : lv_has ls 3 [(0, .ref (ad 9 0)), (1, .int (1 : Int32))] := hl
  replace X : cx p s m args meth c cX4_save 3 (some .int) RX4 D y := X
  unfold m4_saveN1 at hm
  refine lv_iload_n (cx_x X) (cx_b X) dX4_save_0 rfl (lv_at hl 1 rfl) ?_
  refine lv_iconst (v := (0 : Int32)) (cx_x X) (cx_b X) dX4_save_1 (by decide) ?_
  refine lv_iconst (v := (1 : Int32)) (cx_x X) (cx_b X) dX4_save_2 (by decide) ?_
  refine af_R (rn_S (As := [.int (1 : Int32), .int (0 : Int32), .int (1 : Int32)]) (rest := []) X (c_X4_isBetween l D y (1 : Int32) (0 : Int32) (1 : Int32) (1 : Int32) (by decide +kernel)) sq_X4_41 ⟨rfl, rfl⟩ ⟨Nat.le_of_ble_eq_true rfl, Nat.le_of_ble_eq_true rfl⟩ trivial rfl hl.1 rfl (Nat.le_of_ble_eq_true rfl) dX4_save_3 ⟨Nat.le_of_ble_eq_true rfl, Nat.le_of_ble_eq_true rfl⟩) ?_
  refine lv_if_ne (tgt := 11) (cx_x X) (cx_b X) dX4_save_6 (by decide) (fun _ => ?_) (fun hc => absurd hc (by decide))
  refine lv_aload_n (cx_x X) (cx_b X) dX4_save_11 rfl (lv_at hl 0 rfl) ?_
  refine gfW_X4_30 X (tp_t hP) 0 rfl (v := .ref (ad 9 3)) rfl dX4_save_12 ?_
  refine lv_iload_n (cx_x X) (cx_b X) dX4_save_15 rfl (lv_at hl 1 rfl) ?_
  refine va_aldq (cx_x X) (cx_b X) (cx_K X).1 (tp_t hP) 3 3 rfl rfl (show inb (1 : Int32) 2 by decide) dX4_save_16 ?_
  refine lv_eqv (v' := .null) (sf_1 hp) ?_
  refine lv_astore_nN (lv' := [(2, .null), (0, .ref (ad 9 0)), (1, .int (1 : Int32))]) (cx_x X) (cx_b X) dX4_save_17 rfl hl (by decide) rfl (fun ls hl => ?_)
  refine lv_aload_nN (cx_x X) (cx_b X) dX4_save_18 rfl (lv_at hl 0 rfl) ?_
  refine lv_ifnonnullN (cx_x X) (cx_b X) dX4_save_19 ?_
  have hlt := tp_lt hP
  have hltB := tp_ltB hP
  have hge0 := hS.1
  refine fx_new (ci := 2) X inlX2 tyX2_ok qw_12 qw_13 qw_14 hS rfl [.null, .int 0, .int 0, .int 0, .int 0, .int 0, .int 0, .int 0, .int 0, .int 0, .int 0, .null, .null, .null, .null] (fun j hj => by rcases (show j = 0 ∨ j = 1 ∨ j = 2 ∨ j = 3 ∨ j = 4 ∨ j = 5 ∨ j = 6 ∨ j = 7 ∨ j = 8 ∨ j = 9 ∨ j = 10 ∨ j = 11 ∨ j = 12 ∨ j = 13 ∨ j = 14 by omega) with rfl | rfl | rfl | rfl | rfl | rfl | rfl | rfl | rfl | rfl | rfl | rfl | rfl | rfl | rfl <;> rfl) (Nat.le_of_ble_eq_true rfl) (Nat.le_of_ble_eq_true rfl) dX4_save_22 (fun Hb hNw hz1 ho hS => ?_)
  replace hP := tp_up hP hlt hltB ho
  obtain ⟨q0, hq0⟩ : ∃ q0, q0 = s.heap.size := ⟨_, rfl⟩
  have hge : s.heap.size ≤ q0 := by rw [hq0]; exact hge0
  rw [← hq0] at hNw hz1 hlt hltB ⊢
  refine lv_dup (cx_x X) (cx_b X) dX4_save_25 rfl ?_
  refine lv_aload_n (cx_x X) (cx_b X) dX4_save_26 rfl (lv_at hl 1 rfl) ?_
  refine gfW_X4_19 X (tp_t hP) 0 rfl (v := .ref (ad 0 0)) rfl dX4_save_27 ?_
  refine gf_X4_52 X (tp_n hP pz_0) dX4_save_30 ?_
  refine af_W (mc := 4) (ms := 205) (rn_I (As := [.ref (NB 0 0)]) (rest := [.ref q0]) X (c_X2_init l D y q0 _ (NB 0 0)) iq_X4_16 ⟨rfl, rfl⟩ ⟨Nat.le_of_ble_eq_true rfl, Nat.le_of_ble_eq_true rfl⟩ ⟨rfl, hNw⟩ rfl hl.1 rfl (Nat.le_of_ble_eq_true rfl) dX4_save_33 ⟨Nat.le_of_ble_eq_true rfl, Nat.le_of_ble_eq_true rfl⟩) hS (rg_in (by rw [hPP]; exact Or.inr hge) (fun q hq => by rw [hPP]; exact Or.inr (by omega))) (fun Hc locs hNx hz2 hk2 hS => ?_)
  obtain ⟨B1, hB0, hB1, hBL⟩ := hNx
  replace hP := tp_up hP hlt hltB (fun q hq => hk2 q (by omega) (rg_no (by omega) (by omega)))
  have hB : ∀ k, k < 5 → q0 ≤ B1 k ∧ PP (B1 k) := fun k hk => rg_b hPP hge (by omega) (hB1.2 k hk)
  have hv0 := hBL 0 _ rfl
  rw [hB0] at hv0
  refine lv_astore_n (lv' := [(2, .ref q0), (0, .ref (ad 9 0)), (1, .int (1 : Int32))]) (cx_x X) (cx_b X) dX4_save_36 rfl hl (by decide) rfl (fun ls hl => ?_)
  refine lv_aload_n (cx_x X) (cx_b X) dX4_save_37 rfl (lv_at hl 1 rfl) ?_
  refine gfW_X4_30 X (tp_t hP) 0 rfl (v := .ref (ad 9 3)) rfl dX4_save_38 ?_
  refine lv_iload_n (cx_x X) (cx_b X) dX4_save_41 rfl (lv_at hl 2 rfl) ?_
  refine lv_aload_n (cx_x X) (cx_b X) dX4_save_42 rfl (lv_at hl 0 rfl) ?_
  refine fx_ast X (tp_t hP 3 _ rfl) hv0 (by decide) hS (hP.2.1 9 3 (vz_t (by decide))) dX4_save_43 (fun H locs ha hz3 ho hS => ?_)
  replace hP := tp_new (i0 := 8) hP (Or.inr rfl) hp hlt hltB hB1.1 hB hBL ha (sfu_1 hB0) ho
  have hpi : pz (va_up p0 8 true) 8 := Or.inr ⟨by decide, rfl⟩
  obtain ⟨NB, hP⟩ : ∃ NB1 : Nat → Nat → Nat, tp_e D y PP (va_up ad 8 B1) NB1 (va_up p0 8 true) (hh_s c0 k) U V (va_up N 8 (nb_F ni_F, nb_R, (N 0).2.2)) H := ⟨_, hP⟩
  have e0 : ad 0 = (va_up ad 8 B1) 0 := rfl
  have e9 : ad 9 = (va_up ad 8 B1) 9 := rfl
  have e7 : q0 = (va_up ad 8 B1) 8 0 := hB0.symm
  rw [e9, e7] at hl
  have e99 : (va_up ad 8 B1) 9 0 = ad 9 0 := rfl
  generalize va_up ad 8 B1 = ad2 at hP hl e99
  generalize va_up p0 8 true = p2 at hP hpi ⊢
  obtain ⟨N1, eN1, hm⟩ := lt_E hm
  rw [← eN1] at hP
  refine lv_aload_n (cx_x X) (cx_b X) dX4_save_44 rfl (lv_at hl 0 rfl) ?_
  refine lv_aload_n (cx_x X) (cx_b X) dX4_save_45 rfl (lv_at hl 1 rfl) ?_
  refine gfW_X4_19 X (tp_t hP) 0 rfl (v := .ref (ad2 0 0)) rfl dX4_save_46 ?_
  obtain ⟨h2, hm⟩ := ck_E hm
  refine af_W (mc := 0) (ms := 0) (rn_V (As := [.ref (ad2 0 0)]) (rest := []) X (c_X2_copyFrom l D y (ad2 8) (ad2 0) (NB 8 0) (NB 0 0) (N1 8).1 (N1 0).1 (N1 8).2.1 (N1 0).2.1 _ h2 (tp_aj hP hpi) (tp_aj hP pz_0) (tp_ne hP hpi pz_0 (by decide))) vq_X4_220 ⟨rfl, rfl⟩ ⟨Nat.le_of_ble_eq_true rfl, Nat.le_of_ble_eq_true rfl⟩ (va_recv (cx_K X).1 (tp_n hP hpi) (ci := 2) (q0 := 0) rfl rfl) ⟨rfl, (tp_n hP hpi).app (tp_n hP pz_0)⟩ rfl hl.1 rfl (Nat.le_of_ble_eq_true rfl) dX4_save_49 ⟨Nat.le_of_ble_eq_true rfl, Nat.le_of_ble_eq_true rfl⟩) hS (fun q hq => pu_in hPP hS.1 q (rd_in hP hpi pz_0 (Nat.le_refl _) q hq)) (fun H1 locs1 hW hz1 hk1 hS => ?_)
  obtain ⟨NB, hP⟩ : ∃ NB1 : Nat → Nat → Nat, tp_e D y PP ad2 NB1 p2 (hh_s c0 k) U V (va_up N1 8 (N1 0)) H1 := ⟨_, tp_C hP hpi pz_0 (by decide) hk1 hW⟩
  generalize H1 = H at hP hS ⊢
  generalize locs1 = locs at hS ⊢
  obtain ⟨N3, eN3, hm⟩ := lt_E hm
  rw [← eN3] at hP
  refine lv_aload_n (cx_x X) (cx_b X) dX4_save_52 rfl (lv_at hl 1 rfl) ?_
  refine gfW_X4_19 X (tp_t hP) 0 rfl (v := .ref (ad2 0 0)) rfl dX4_save_53 ?_
  obtain ⟨v5, h4, hm⟩ := bnd hm
  refine af_R (rn_V (As := []) (rest := []) X (c_X2_presentCalls l D y (ad2 0) (NB 0) (N3 0).1 (N3 0).2.1 (N3 0).2.2.1 (N3 0).2.2.2  _ h4) vq_X4_159 ⟨rfl, rfl⟩ ⟨Nat.le_of_ble_eq_true rfl, Nat.le_of_ble_eq_true rfl⟩ (rec_2 X (tp_n hP pz_0)) ⟨(tp_n hP pz_0), (tp_l hP pz_0)⟩ rfl hl.1 rfl (Nat.le_of_ble_eq_true rfl) dX4_save_56 ⟨Nat.le_of_ble_eq_true rfl, Nat.le_of_ble_eq_true rfl⟩) ?_
  obtain ⟨rfl, rfl, rfl, rfl, rfl, rfl⟩ := oc_6 hm
  exact gx_i X (Nat.le_of_ble_eq_true rfl) (Nat.le_of_ble_eq_true rfl) hS ⟨ad2, _, e99, hP⟩ dX4_save_59
/-! configure -/
def m4_configure_J42 (c0 : Nat) (k : Nat) (U : (Nat → Int32)) (V : (Nat → Nat → Int32)) (N : (Nat → ns_T)) (a1 : Int32) (a2 : Int32) (a3 : Int32) (a4 : Int32) (v3 : Int32) : Option (Int32 × Nat × Nat × (Nat → Int32) × (Nat → Nat → Int32) × (Nat → ns_T)) :=
  if v3 = 0 then
  some ((-1 : Int32), c0, k, U, V, N)
  else
  if k < 6 ∧ c0 ≤ 6 ∧ (N 0).1 3 &&& 1 = (N 0).1 3 then
  lt_ (va_up N (kn_s k + 1) (N 0)) fun (N7 : Nat → ns_T) =>
  (m1_init z_F z_R a1 a2 a3 a4).bind fun ⟨F8, R9⟩ =>
  lt_ (va_up N7 0 (nb_F (N7 0).1, nb_R, F8, R9)) fun (N11 : Nat → ns_T) =>
  some (((N11 0).2.2.1 1), (cn_s c0), (kn_s k), U, V, N11) else none
def m4_configure (c0 : Nat) (k : Nat) (U : (Nat → Int32)) (V : (Nat → Nat → Int32)) (N : (Nat → ns_T)) (a1 : Int32) (a2 : Int32) (a3 : Int32) (a4 : Int32) : Option (Int32 × Nat × Nat × (Nat → Int32) × (Nat → Nat → Int32) × (Nat → ns_T)) :=
  (m4_isBetween a1 (1 : Int32) (5 : Int32)).bind fun v2 =>
  (if v2 = 0 then
  some (0 : Int32)
  else
  (m4_isBetween a2 (1 : Int32) (5 : Int32)).bind fun v14 =>
  if v14 = 0 then
  some (0 : Int32)
  else
  (m4_isBetween a3 (2 : Int32) (3 : Int32)).bind fun v17 =>
  if v17 = 0 then
  some (0 : Int32)
  else
  (m4_isBetween a4 (1 : Int32) (4 : Int32)).bind fun v20 =>
  if v20 = 0 then
  some (0 : Int32)
  else
  some (1 : Int32)).bind fun v3 => m4_configure_J42 c0 k U V N a1 a2 a3 a4 v3
abbrev rm_configure : Room := { frames := 4, cells := 6, slots := 133, locals := 95 }
set_option maxHeartbeats 4000000 in
set_option maxRecDepth 100000 in
theorem c_configure (l : Launch) (D : va_G) (y : Nat → ClassId) (P : Nat → Prop) (ad NB : Nat → Nat → Nat) (p0 : Nat → Bool) (c0 : Nat) (k : Nat) (U : (Nat → Int32)) (V : (Nat → Nat → Int32)) (N : (Nat → ns_T)) (a1 : Int32) (a2 : Int32) (a3 : Int32) (a4 : Int32) (rr : Int32) (c1 k1 : Nat) (U1 : (Nat → Int32)) (V1 : (Nat → Nat → Int32)) (N1 : Nat → ns_T) (sz : Nat) (hm : m4_configure c0 k U V N a1 a2 a3 a4 = some (rr, c1, k1, U1, V1, N1)) : Met l yX4_configure (wy_s yX4_configure cX4_configure 6 (some .int)) rm_configure (pc_R D y [.ref (ad 9 0), .int a1, .int a2, .int a3, .int a4] (fun H => H.size = sz ∧ tp_e D y P ad NB p0 (hh_s c0 k) U V N H)) (qc_W (some (.int rr)) (fun H => ∃ ad1 NB1 : Nat → Nat → Nat, ad1 9 0 = ad 9 0 ∧ tp_e D y (pu_s P sz) ad1 NB1 p0 (hh_s c1 k1) U1 V1 N1 H) (pu_s P sz)) 6 133 (pu_s P sz) := by
  refine met_W (by decide) (Nat.le_of_ble_eq_true rfl) ?_
  intro p e s m args below meth c X hnm h0 ls hl
  obtain ⟨hsz, hP⟩ := h0
  subst hsz
  obtain ⟨PP, hPP⟩ : ∃ PP, PP = pu_s P s.heap.size := ⟨_, rfl⟩
  rw [← hPP]
  replace hP : tp_e D y PP ad NB p0 (hh_s c0 k) U V N s.heap := tp_mono hP (by rw [hPP]; exact fun q h => Or.inl h)
  have hS : va_S PP s.heap s.heap [] := va_S.rf
  replace hl : lv_has ls 6 [(0, .ref (ad 9 0)), (1, .int a1), (2, .int a2), (3, .int a3), (4, .int a4)] := hl
  replace X : cx p s m args meth c cX4_configure 6 (some .int) RX4 D y := X
  unfold m4_configure at hm
  refine lv_iload_n (cx_x X) (cx_b X) dX4_configure_0 rfl (lv_at hl 1 rfl) ?_
  refine lv_iconst (v := (1 : Int32)) (cx_x X) (cx_b X) dX4_configure_1 (by decide) ?_
  refine lv_iconst (v := (5 : Int32)) (cx_x X) (cx_b X) dX4_configure_2 (by decide) ?_
  obtain ⟨v2, h1, hm⟩ := bnd hm
  refine af_R (rn_S (As := [.int a1, .int (1 : Int32), .int (5 : Int32)]) (rest := []) X (c_X4_isBetween l D y a1 (1 : Int32) (5 : Int32)  _ h1) sq_X4_41 ⟨rfl, rfl⟩ ⟨Nat.le_of_ble_eq_true rfl, Nat.le_of_ble_eq_true rfl⟩ trivial rfl hl.1 rfl (Nat.le_of_ble_eq_true rfl) dX4_configure_3 ⟨Nat.le_of_ble_eq_true rfl, Nat.le_of_ble_eq_true rfl⟩) ?_
  obtain ⟨qt4, hm, hmt4⟩ := bnd hm
  have Jt4 : ∀ (v3 : Int32) , m4_configure_J42 c0 k U V N a1 a2 a3 a4 v3 = some (rr, c1, k1, U1, V1, N1) → ∀ (H : Heap) (locs : List Loc) (NB : Nat → Nat → Nat), tp_e D y PP ad NB p0 (hh_s c0 k) U V N H → va_S PP s.heap H locs → ∀ ls, lv_has ls 6 [(0, .ref (ad 9 0)), (1, .int a1), (2, .int a2), (3, .int a3), (4, .int a4)] → gx p l e rm_configure s m args below meth c (some (.int rr)) (fun H => ∃ ad1 NB1 : Nat → Nat → Nat, ad1 9 0 = ad 9 0 ∧ tp_e D y PP ad1 NB1 p0 (hh_s c1 k1) U1 V1 N1 H) PP 6 133 0 0 H locs (F0 m 42 ls [.int v3]) := by
    intro v3 hm H locs NB hP hS ls hl
    unfold m4_configure_J42 at hm
    refine lv_istore (lv' := [(5, .int v3), (0, .ref (ad 9 0)), (1, .int a1), (2, .int a2), (3, .int a3), (4, .int a4)]) (cx_x X) (cx_b X) dX4_configure_42 hl (by decide) rfl (fun ls hl => ?_)
    refine lv_iload (cx_x X) (cx_b X) dX4_configure_44 (lv_at hl 0 rfl) ?_
    refine lv_if_ne (tgt := 51) (cx_x X) (cx_b X) dX4_configure_46 (by decide) (fun c5 => ?_) (fun c5 => ?_)
    · replace hm := if_F c5 hm
      refine lv_aload_n (cx_x X) (cx_b X) dX4_configure_51 rfl (lv_at hl 1 rfl) ?_
      refine gfW_X4_26 X (tp_t hP) 0 rfl (v := .ref (ad 9 1)) rfl dX4_configure_52 ?_
      refine lv_aload_n (cx_x X) (cx_b X) dX4_configure_55 rfl (lv_at hl 1 rfl) ?_
      refine gfW_X4_19 X (tp_t hP) 0 rfl (v := .ref (ad 0 0)) rfl dX4_configure_56 ?_
      obtain ⟨h6, hm⟩ := ck_E hm
      refine af_W (mc := 0) (ms := 0) (rn_V (As := [.ref (ad 0 0)]) (rest := []) X (c_X0_push l D y PP ad NB p0 c0 k U V N _ h6.1 h6.2.1 h6.2.2) vq_X4_45 ⟨rfl, rfl⟩ ⟨Nat.le_of_ble_eq_true rfl, Nat.le_of_ble_eq_true rfl⟩ (va_recv (cx_K X).1 (tp_t hP) (ci := 0) (q0 := 1) rfl rfl) ⟨rfl, hP⟩ rfl hl.1 rfl (Nat.le_of_ble_eq_true rfl) dX4_configure_59 ⟨Nat.le_of_ble_eq_true rfl, Nat.le_of_ble_eq_true rfl⟩) hS (pu_in hPP hS.1) (fun H locs hP _ _ hS => ?_)
      obtain ⟨NB, hP⟩ : ∃ NB, tp_e D y PP ad NB p0 (hh_s (cn_s c0) (kn_s k)) U V (va_up N (kn_s k + 1) (N 0)) H := ⟨_, hP⟩
      obtain ⟨N7, eN7, hm⟩ := lt_E hm
      rw [← eN7] at hP
      refine lv_aload_n (cx_x X) (cx_b X) dX4_configure_62 rfl (lv_at hl 1 rfl) ?_
      refine gfW_X4_19 X (tp_t hP) 0 rfl (v := .ref (ad 0 0)) rfl dX4_configure_63 ?_
      have hlt := tp_lt hP
      have hltB := tp_ltB hP
      have hge0 := hS.1
      refine fx_new (ci := 1) X inlX1 tyX1_ok qw_9 qw_10 qw_11 hS rfl [.int 0, .int 0, .int 0, .null, .null, .null, .null, .null] (fun j hj => by rcases (show j = 0 ∨ j = 1 ∨ j = 2 ∨ j = 3 ∨ j = 4 ∨ j = 5 ∨ j = 6 ∨ j = 7 by omega) with rfl | rfl | rfl | rfl | rfl | rfl | rfl | rfl <;> rfl) (Nat.le_of_ble_eq_true rfl) (Nat.le_of_ble_eq_true rfl) dX4_configure_66 (fun Hb hNw hz1 ho hS => ?_)
      replace hP := tp_up hP hlt hltB ho
      obtain ⟨q0, hq0⟩ : ∃ q0, q0 = H.size := ⟨_, rfl⟩
      have hge : s.heap.size ≤ q0 := by rw [hq0]; exact hge0
      rw [← hq0] at hNw hz1 hlt hltB ⊢
      refine lv_dup (cx_x X) (cx_b X) dX4_configure_69 rfl ?_
      refine lv_iload_n (cx_x X) (cx_b X) dX4_configure_70 rfl (lv_at hl 2 rfl) ?_
      refine lv_iload_n (cx_x X) (cx_b X) dX4_configure_71 rfl (lv_at hl 3 rfl) ?_
      refine lv_iload_n (cx_x X) (cx_b X) dX4_configure_72 rfl (lv_at hl 4 rfl) ?_
      refine lv_iload (cx_x X) (cx_b X) dX4_configure_73 (lv_at hl 5 rfl) ?_
      obtain ⟨⟨F8, R9⟩, h10, hm⟩ := bnd hm
      try dsimp only at hm
      refine af_W (mc := 5) (ms := 125) (rn_I (As := [.int a1, .int a2, .int a3, .int a4]) (rest := [.ref q0, .ref (ad 0 0)]) X (c_X1_init l D y q0 _ a1 a2 a3 a4 F8 R9 h10) iq_X4_11 ⟨rfl, rfl⟩ ⟨Nat.le_of_ble_eq_true rfl, Nat.le_of_ble_eq_true rfl⟩ ⟨rfl, hNw⟩ rfl hl.1 rfl (Nat.le_of_ble_eq_true rfl) dX4_configure_75 ⟨Nat.le_of_ble_eq_true rfl, Nat.le_of_ble_eq_true rfl⟩) hS (rg_in (by rw [hPP]; exact Or.inr hge) (fun q hq => by rw [hPP]; exact Or.inr (by omega))) (fun Hc locs hNx hz2 hk2 hS => ?_)
      obtain ⟨B1, hB0, hB1, hBL⟩ := hNx
      replace hP := tp_up hP hlt hltB (fun q hq => hk2 q (by omega) (rg_no (by omega) (by omega)))
      have hB : ∀ k, k < 6 → q0 ≤ B1 k ∧ PP (B1 k) := fun k hk => rg_b hPP hge (by omega) (hB1.2 k hk)
      refine af_W (mc := 0) (ms := 0) (rn_V (As := [.ref q0]) (rest := []) X (c_X2_begin l D y (ad 0) (.ref (NB 0 0)) q0 (N7 0).1 (N7 0).2.1 _ (tp_aj hP pz_0)) vq_X4_49 ⟨rfl, rfl⟩ ⟨Nat.le_of_ble_eq_true rfl, Nat.le_of_ble_eq_true rfl⟩ (rec_2 X (tp_n hP pz_0)) ⟨rfl, tp_n hP pz_0⟩ rfl hl.1 rfl (Nat.le_of_ble_eq_true rfl) dX4_configure_78 ⟨Nat.le_of_ble_eq_true rfl, Nat.le_of_ble_eq_true rfl⟩) hS (rgt_in hPP hP (vz_n pz_0) hS.1) (fun H locs hP1 hz3 hk3 hS => ?_)
      rw [← hB0] at hP1
      obtain ⟨NB, hP⟩ : ∃ NB1 : Nat → Nat → Nat, tp_e D y PP ad NB1 p0 (hh_s (cn_s c0) (kn_s k)) U V (va_up N7 0 (nb_F (N7 0).1, nb_R, F8, R9)) H := ⟨_, tp_beg hP hlt hB hBL hk3 hP1⟩
      obtain ⟨N11, eN11, hm⟩ := lt_E hm
      rw [← eN11] at hP
      refine lv_aload_n (cx_x X) (cx_b X) dX4_configure_81 rfl (lv_at hl 1 rfl) ?_
      refine gfW_X4_19 X (tp_t hP) 0 rfl (v := .ref (ad 0 0)) rfl dX4_configure_82 ?_
      refine gf_X4_52 X (tp_n hP pz_0) dX4_configure_85 ?_
      refine gf_X4_56 X (tp_l hP pz_0) dX4_configure_88 ?_
      obtain ⟨rfl, rfl, rfl, rfl, rfl, rfl⟩ := oc_6 hm
      exact gx_i X (Nat.le_of_ble_eq_true rfl) (Nat.le_of_ble_eq_true rfl) hS ⟨_, _, rfl, hP⟩ dX4_configure_91
    · replace hm := if_T c5 hm
      refine lv_iconst (v := (-1 : Int32)) (cx_x X) (cx_b X) dX4_configure_49 (by decide) ?_
      obtain ⟨rfl, rfl, rfl, rfl, rfl, rfl⟩ := oc_6 hm
      exact gx_i X (Nat.le_of_ble_eq_true rfl) (Nat.le_of_ble_eq_true rfl) hS ⟨_, _, rfl, hP⟩ dX4_configure_50
  refine lv_if_eq (tgt := 41) (cx_x X) (cx_b X) dX4_configure_6 (by decide) (fun c12 => ?_) (fun c12 => ?_)
  · replace hm := if_T c12 hm
    refine lv_iconst (v := (0 : Int32)) (cx_x X) (cx_b X) dX4_configure_41 (by decide) ?_
    exact Jt4 _ (by cases hm; exact hmt4) _ _ _ hP hS _ (lv_sub hl [0, 1, 2, 3, 4] rfl)
  · replace hm := if_F c12 hm
    refine lv_iload_n (cx_x X) (cx_b X) dX4_configure_9 rfl (lv_at hl 2 rfl) ?_
    refine lv_iconst (v := (1 : Int32)) (cx_x X) (cx_b X) dX4_configure_10 (by decide) ?_
    refine lv_iconst (v := (5 : Int32)) (cx_x X) (cx_b X) dX4_configure_11 (by decide) ?_
    obtain ⟨v14, h13, hm⟩ := bnd hm
    refine af_R (rn_S (As := [.int a2, .int (1 : Int32), .int (5 : Int32)]) (rest := []) X (c_X4_isBetween l D y a2 (1 : Int32) (5 : Int32)  _ h13) sq_X4_41 ⟨rfl, rfl⟩ ⟨Nat.le_of_ble_eq_true rfl, Nat.le_of_ble_eq_true rfl⟩ trivial rfl hl.1 rfl (Nat.le_of_ble_eq_true rfl) dX4_configure_12 ⟨Nat.le_of_ble_eq_true rfl, Nat.le_of_ble_eq_true rfl⟩) ?_
    refine lv_if_eq (tgt := 41) (cx_x X) (cx_b X) dX4_configure_15 (by decide) (fun c15 => ?_) (fun c15 => ?_)
    · replace hm := if_T c15 hm
      refine lv_iconst (v := (0 : Int32)) (cx_x X) (cx_b X) dX4_configure_41 (by decide) ?_
      exact Jt4 _ (by cases hm; exact hmt4) _ _ _ hP hS _ (lv_sub hl [0, 1, 2, 3, 4] rfl)
    · replace hm := if_F c15 hm
      refine lv_iload_n (cx_x X) (cx_b X) dX4_configure_18 rfl (lv_at hl 3 rfl) ?_
      refine lv_iconst (v := (2 : Int32)) (cx_x X) (cx_b X) dX4_configure_19 (by decide) ?_
      refine lv_iconst (v := (3 : Int32)) (cx_x X) (cx_b X) dX4_configure_20 (by decide) ?_
      obtain ⟨v17, h16, hm⟩ := bnd hm
      refine af_R (rn_S (As := [.int a3, .int (2 : Int32), .int (3 : Int32)]) (rest := []) X (c_X4_isBetween l D y a3 (2 : Int32) (3 : Int32)  _ h16) sq_X4_41 ⟨rfl, rfl⟩ ⟨Nat.le_of_ble_eq_true rfl, Nat.le_of_ble_eq_true rfl⟩ trivial rfl hl.1 rfl (Nat.le_of_ble_eq_true rfl) dX4_configure_21 ⟨Nat.le_of_ble_eq_true rfl, Nat.le_of_ble_eq_true rfl⟩) ?_
      refine lv_if_eq (tgt := 41) (cx_x X) (cx_b X) dX4_configure_24 (by decide) (fun c18 => ?_) (fun c18 => ?_)
      · replace hm := if_T c18 hm
        refine lv_iconst (v := (0 : Int32)) (cx_x X) (cx_b X) dX4_configure_41 (by decide) ?_
        exact Jt4 _ (by cases hm; exact hmt4) _ _ _ hP hS _ (lv_sub hl [0, 1, 2, 3, 4] rfl)
      · replace hm := if_F c18 hm
        refine lv_iload (cx_x X) (cx_b X) dX4_configure_27 (lv_at hl 4 rfl) ?_
        refine lv_iconst (v := (1 : Int32)) (cx_x X) (cx_b X) dX4_configure_29 (by decide) ?_
        refine lv_iconst (v := (4 : Int32)) (cx_x X) (cx_b X) dX4_configure_30 (by decide) ?_
        obtain ⟨v20, h19, hm⟩ := bnd hm
        refine af_R (rn_S (As := [.int a4, .int (1 : Int32), .int (4 : Int32)]) (rest := []) X (c_X4_isBetween l D y a4 (1 : Int32) (4 : Int32)  _ h19) sq_X4_41 ⟨rfl, rfl⟩ ⟨Nat.le_of_ble_eq_true rfl, Nat.le_of_ble_eq_true rfl⟩ trivial rfl hl.1 rfl (Nat.le_of_ble_eq_true rfl) dX4_configure_31 ⟨Nat.le_of_ble_eq_true rfl, Nat.le_of_ble_eq_true rfl⟩) ?_
        refine lv_if_eq (tgt := 41) (cx_x X) (cx_b X) dX4_configure_34 (by decide) (fun c21 => ?_) (fun c21 => ?_)
        · replace hm := if_T c21 hm
          refine lv_iconst (v := (0 : Int32)) (cx_x X) (cx_b X) dX4_configure_41 (by decide) ?_
          exact Jt4 _ (by cases hm; exact hmt4) _ _ _ hP hS _ (lv_sub hl [0, 1, 2, 3, 4] rfl)
        · replace hm := if_F c21 hm
          refine lv_iconst (v := (1 : Int32)) (cx_x X) (cx_b X) dX4_configure_37 (by decide) ?_
          refine lv_goto (tgt := 42) (cx_x X) (cx_b X) dX4_configure_38 (by decide) ?_
          exact Jt4 _ (by cases hm; exact hmt4) _ _ _ hP hS _ (lv_sub hl [0, 1, 2, 3, 4] rfl)
