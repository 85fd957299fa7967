/-! THE CLAIM OUT OF ONE WALK OF THE LAW'S BODY. Your part is whole_start (and what it stands on); all else here is the same for every law, but numbers. -/
def R_law : String := "ChannelBorrowerLaw"
def lw_P (b : Addr) (xs : List Int32) (args : Array Value) (s : State) : Prop := args = #[.ref b] ∧ s.IntsAt b xs ∧ xs.length ≤ 260 ∧ (Jvm.Cond.and given_1 narrow_1).before args s = true
def lw_Q (_ : Array Value) (s : State) (o : Outcome) (t : State) : Prop := o = .returned (some (.int 1)) ∧ Framed s o t [] 600000 7302250
def lw_Z (below : List Frame) (a : Array Value) (s : State) : State → Prop := fun t => ∃ o, t.status = .running ∧ Ended t below o ∧ lw_Q a s o t
/-- the law's own end, with 1 on the stack, nothing written that was there before, its room as the claim has it -/
theorem lw_ret {p : Program} {l : Launch} {e : Env} {s : State} {m : MethodId} {below : List Frame} {meth : Method} {c : Code} {b : Nat} (hx : p.tables.exec = Jvm.exec) (hb : c.code = code) (hr : meth.sig.returnType = ret) (hlocks : meth.locks = false) {pc : Nat} {H : Heap} {ls : Array Slot} (hdg : decode code pc = .ok (.ireturn, 1)) : W p l e room_1 s m #[Value.ref b] below meth c H [] 600000 7302250 (lw_Z below #[Value.ref b] s) (F0 m pc ls [.int 1]) := by
  intro T hT X
  obtain ⟨fs, hret, hrun, hended, hW, hframe⟩ := X.leave (v := some (.int 1)) (hlocks := hlocks) (fun h => by rw [hr] at h; cases h)
  have hmeth' : T.vm.method? m = some meth := X.method'
  refine ⟨T.setFrames fs, ?_, .returned (some (.int 1)), hrun, hended, rfl, ⟨_, rfl⟩, hW, hframe⟩
  jvm_step X.here [X.here.top, hx, hb, hdg, hmeth', hr, ret, narrow_b1]
  (try refine ⟨rfl, ?_⟩); (try refine ⟨rfl, ?_⟩)
  first | (intro acts; rw [hret _ acts rfl rfl rfl]) | rw [hret _ _ rfl rfl rfl]
  exact Steps.refl _
/-- what holds at the law's entry: the machine, the code, the tables' words (any of lw_tbl by 'hts w (by decide +kernel)'), the script of L ints xs at the cell b, what the Statement gives of the start (any of its parts by flat_of_before) -/
def lw_At (p : Program) (s : State) (m : MethodId) (meth : Method) (c : Code) (b L : Nat) (xs : Nat → Int32) : Prop :=
  p.tables.exec = Jvm.exec ∧ c.code = code ∧ meth.sig.returnType = ret ∧ c.maxLocals = 11 ∧ s.vm.findClass R_law = some m.cls ∧ (∀ w ∈ lw_tbl, w.before #[Value.ref b] s = true) ∧ va_X b L xs s s.heap ∧ b < s.heap.size ∧ meth.locks = false ∧ (Jvm.Cond.and given_1 narrow_1).before #[Value.ref b] s = true
theorem kk_start {s : State} {args : Array Value} (hts : ∀ w ∈ lw_tbl, w.before args s = true) : ∃ (D : va_G) (y : Nat → ClassId), kk_K D y s := by
  have hw : ∀ w ∈ wsL_law, w.before args s = true := fun w h => hts w (wsL_law_in w h)
  obtain ⟨c0, i0, k0⟩ := u_known (C := RX0) (T := TX0) (N := 3) (n := 3) hw inlX0 (hw _ qw_17)
  obtain ⟨c1, i1, k1⟩ := u_known (C := RX1) (T := TX1) (N := 8) (n := 8) hw inlX1 (hw _ qw_10)
  obtain ⟨c2, i2, k2⟩ := u_known (C := RX2) (T := TX2) (N := 15) (n := 15) hw inlX2 (hw _ qw_13)
  obtain ⟨c3, i3, k3⟩ := u_known (C := RX3) (T := TX3) (N := 7) (n := 7) hw inlX3 (hw _ qw_22)
  obtain ⟨c4, i4, k4⟩ := u_known (C := RX4) (T := TX4) (N := 4) (n := 4) hw inlX4 (hw _ qw_1)
  obtain ⟨yI, kI, pI, a1, a2, a3⟩ := Cond.arrayClass_spec (hw _ qw_29)
  obtain ⟨cO, yO, kO, o1, -, o2, o3, o4⟩ := Cond.arrayOver_spec (hts _ wl_ao)
  refine ⟨(fun k => if k = 0 then c0 else if k = 1 then c1 else if k = 2 then c2 else if k = 3 then c3 else c4, fun k => if k = 0 then i0 else if k = 1 then i1 else if k = 2 then i2 else if k = 3 then i3 else i4), fun k => if k = 0 then yI else if k = 1 then yI else if k = 2 then yI else yO, ⟨fun k q hq => ?_, fun k q hq => ?_⟩, fun w h => ?_, hts _ wl_ao⟩
  · match k, hq with
    | 0, hq => cases hq; exact k0
    | 1, hq => cases hq; exact k1
    | 2, hq => cases hq; exact k2
    | 3, hq => cases hq; exact k3
    | 4, hq => cases hq; exact k4
    | k + 5, hq => cases hq
  · match k, hq with
    | 0, hq => cases hq; exact ⟨fun n z => ⟨fun k h => (by cases h), kI, a2, pI, a3⟩, a1⟩
    | 1, hq => cases hq; exact ⟨fun n z => ⟨fun k h => (by cases h), kI, a2, pI, a3⟩, a1⟩
    | 2, hq => cases hq; exact ⟨fun n z => ⟨fun k h => (by cases h), kI, a2, pI, a3⟩, a1⟩
    | 3, hq => cases hq; exact ⟨fun n z => ⟨fun k h => (by cases h), kO, o2, cO, o3⟩, kO, cO, o2, o3, o1, o4⟩
    | k + 4, hq => cases hq
  · have h1 := hts w (wl_nw w h)
    simp only [nw_l, List.mem_cons, List.not_mem_nil, or_false] at h
    rcases h with rfl | rfl | rfl | rfl | rfl | rfl <;> exact va_Nw.of rfl h1
/-- a snapshot of the live net -/
theorem sv_ok {ru e c k : Nat} {U : Nat → Int32} {V : Nat → Nat → Int32} {N : Nat → ns_T} (h : nt_ ru e (N 0)) {n : Int32} (hn : m2_presentCalls (N 0).1 (N 0).2.1 (N 0).2.2.1 (N 0).2.2.2 = some n) : ∃ N1, m4_saveN0 c k U V N = some (n, c, k, U, V, N1) ∧ N1 0 = N 0 ∧ N1 7 = N 0 := by
  refine ⟨va_up (va_up N 7 (nb_F ni_F, nb_R, (N 0).2.2)) 7 ((va_up N 7 (nb_F ni_F, nb_R, (N 0).2.2)) 0), ?_, ?_, ?_⟩
  · have e0 : (va_up N 7 (nb_F ni_F, nb_R, (N 0).2.2)) 0 = N 0 := va_up_ne _ _ (by decide)
    have e1 : (va_up (va_up N 7 (nb_F ni_F, nb_R, (N 0).2.2)) 7 ((va_up N 7 (nb_F ni_F, nb_R, (N 0).2.2)) 0)) 0 = N 0 := by rw [va_up_ne _ _ (by decide)]; exact e0
    unfold m4_saveN0
    rw [lt_rw, if_pos (by rw [e0]; exact nt_1 h), lt_rw, e1, hn, bd_s]
  · rw [va_up_ne _ _ (by decide), va_up_ne _ _ (by decide)]
  · rw [va_up_self, va_up_ne _ _ (by decide)]
theorem re_ok {ru e c k : Nat} {U : Nat → Int32} {V : Nat → Nat → Int32} {N : Nat → ns_T} (h : nt_ ru e (N 7)) {n : Int32} (hn : m2_presentCalls (N 7).1 (N 7).2.1 (N 7).2.2.1 (N 7).2.2.2 = some n) : ∃ N1, m4_restoreS0 c k U V N = some (n, 0, k, U, V, N1) ∧ N1 0 = N 7 := by
  refine ⟨va_up N 0 (N 7), ?_, va_up_self _ _ _⟩
  unfold m4_restoreS0
  rw [if_pos (nt_1 h), lt_rw, va_up_self, hn, bd_s]
theorem cf_end {ru e c k : Nat} {U : Nat → Int32} {V : Nat → Nat → Int32} {N : Nat → ns_T} (hk : k < 6) (hc : c ≤ 6) (h : nt_ ru e (N 0)) : ∃ N1 : Nat → ns_T, m4_configure c k U V N 1 1 2 1 = some ((3 : Int32), cn_s c, kn_s k, U, V, N1) ∧ m4_callCount (N1 0).1 (N1 0).2.1 (N1 0).2.2.1 (N1 0).2.2.2 = some 0 ∧ N1 7 = N 7 := by
  have hf : cf_ok 1 1 2 1 := ⟨by decide, by decide, by decide, by decide, Or.inl rfl, by decide, by decide⟩
  obtain ⟨G, Q, s, g1, g2⟩ := cf_go (U := U) (V := V) hk hc h hf
  have hkn : kn_s k < 6 := by unfold kn_s; split <;> omega
  refine ⟨_, g1, ?_, ?_⟩
  · rw [va_up_self]
    have := v4_calls g2
    rw [show cls (fun _ => 0) = 0 from cn_0.mpr (fun k _ => rfl)] at this
    exact this
  · rw [va_up_ne _ _ (by decide), va_up_ne _ _ (by omega)]
theorem kn_lt {k : Nat} (hk : k < 6) : kn_s k < 6 := by unfold kn_s; split <;> omega
theorem kp_lt {k : Nat} (hk : k < 6) : kp_s k < 6 := by unfold kp_s; split <;> omega
theorem cn_le6 (c : Nat) : cn_s c ≤ 6 := by unfold cn_s; split <;> omega
set_option maxHeartbeats 4000000 in
set_option maxRecDepth 100000 in
/-- behind the loop -/
theorem law_last {p0 : Program} {l : Launch} {e : Env} {s : State} {m : MethodId} {below : List Frame} {meth : Method} {co : Code} {D : va_G} {y : Nat → ClassId} {b L : Nat} {xs : Nat → Int32} {qx : Nat} (hx0 : p0.tables.exec = Jvm.exec) (hb0 : co.code = code) (hr0 : meth.sig.returnType = ret) (hlocks : meth.locks = false) (X : cx p0 s m #[Value.ref b] meth co cL_law 11 ret RL D y) (hX : va_X b L xs s s.heap) (hbl : b < s.heap.size) (hL : L ≤ 260) {cells slots ru et c k : Nat} (hcells : cells ≤ 1000 ∧ slots ≤ 100000) (hk : k < 6) (hc : c ≤ 6) {N : Nat → ns_T} (hn : nt_ ru et (N 0)) {H : Heap} {locs : List Loc} (hx : xs_s D y s.heap.size qx p_0 c k z_F z_R N H) (hS : va_S (fun q : Nat => s.heap.size ≤ q) s.heap H locs) {x2 x3 x4 : Int32} {ls : Array Slot} (hl : lv_has ls 11 [(0, .ref b), (1, .ref qx), (2, .int x2), (3, .int x3), (4, .int x4)]) : W p0 l e room_1 s m #[Value.ref b] below meth co H locs cells slots (lw_Z below #[Value.ref b] s) (F0 m 233 ls []) := by
  have hh := hn
  obtain ⟨⟨rw, cl, sz, CX, CY, CZ, sg, hr⟩, -⟩ := hh
  obtain ⟨T, hT⟩ := v4_tale hr
  obtain ⟨n, hcn⟩ : ∃ n, n = nI (cls CX) := ⟨_, rfl⟩
  have hcc := v4_calls hr
  have hpc := p2_presentCalls hr
  rw [← hcn] at hcc hpc
  obtain ⟨N1, hsv, n10, n17⟩ := sv_ok (c := c) (k := k) (U := z_F) (V := z_R) hn hpc
  obtain ⟨N2, hcf, hc0, n27⟩ := cf_end (N := N1) (U := z_F) (V := z_R) hk hc (by rw [n10]; exact hn)
  obtain ⟨N3, hre, n30⟩ := re_ok (N := N2) (c := cn_s c) (k := kn_s k) (U := z_F) (V := z_R) (ru := ru) (e := et) (n := n) (by rw [n27, n17]; exact hn) (by rw [n27, n17]; exact hpc)
  have e3 : N3 0 = N 0 := by rw [n30, n27, n17]
  have hT3 : mj_tale (N3 0).1 (N3 0).2.1 (N3 0).2.2.1 (N3 0).2.2.2 = some T := by rw [e3]; exact hT
  have hun : m4_undo0 (kn_s k) z_F z_R N3 = some ((-2 : Int32), 0, kn_s k, z_F, z_R, N3) := by unfold m4_undo0; rw [if_pos (kn_lt hk)]
  refine lv_aload_n (cx_x X) (cx_b X) dL_law_233 rfl (lv_at hl 1 rfl) ?_
  refine lq_tale X hx hT hl.1 (Nat.le_of_ble_eq_true rfl) dL_law_234 ⟨by omega, by omega⟩ ?_
  refine lv_lstore (lv' := [(4, .long T), (0, .ref b), (1, .ref qx), (2, .int x2), (3, .int x3)]) (cx_x X) (cx_b X) dL_law_237 hl (by decide) rfl (fun ls hl => ?_)
  refine lv_aload_n (cx_x X) (cx_b X) dL_law_239 rfl (lv_at hl 2 rfl) ?_
  refine lq_calls X hx hcc hl.1 (Nat.le_of_ble_eq_true rfl) dL_law_240 ⟨by omega, by omega⟩ ?_
  refine lv_istore (lv' := [(6, .int n), (4, .long T), (0, .ref b), (1, .ref qx), (2, .int x2), (3, .int x3)]) (cx_x X) (cx_b X) dL_law_243 hl (by decide) rfl (fun ls hl => ?_)
  refine lv_aload_n (cx_x X) (cx_b X) dL_law_245 rfl (lv_at hl 3 rfl) ?_
  refine lv_iconst (v := (0 : Int32)) (cx_x X) (cx_b X) dL_law_246 (by decide) ?_
  refine lq_saveN0 X hx rfl hsv hS hl.1 (Nat.le_of_ble_eq_true rfl) dL_law_247 ⟨by omega, by omega⟩ (fun H locs hx hS => ?_)
  refine lv_iload (cx_x X) (cx_b X) dL_law_250 (lv_at hl 0 rfl) ?_
  refine lv_icmp_ne (tgt := 307) (cx_x X) (cx_b X) dL_law_252 (by decide) (fun hc => absurd rfl hc) (fun _ => ?_)
  refine lv_aload_n (cx_x X) (cx_b X) dL_law_255 rfl (lv_at hl 3 rfl) ?_
  refine lv_iconst (v := (1 : Int32)) (cx_x X) (cx_b X) dL_law_256 (by decide) ?_
  refine lv_iconst (v := (1 : Int32)) (cx_x X) (cx_b X) dL_law_257 (by decide) ?_
  refine lv_iconst (v := (2 : Int32)) (cx_x X) (cx_b X) dL_law_258 (by decide) ?_
  refine lv_iconst (v := (1 : Int32)) (cx_x X) (cx_b X) dL_law_259 (by decide) ?_
  refine lq_configure X hx hcf hS hl.1 (Nat.le_of_ble_eq_true rfl) dL_law_260 ⟨by omega, by omega⟩ (fun H locs hx hS => ?_)
  refine lv_iconst (v := (3 : Int32)) (cx_x X) (cx_b X) dL_law_263 (by decide) ?_
  refine lv_icmp_ne (tgt := 307) (cx_x X) (cx_b X) dL_law_264 (by decide) (fun hc => absurd rfl hc) (fun _ => ?_)
  refine lv_aload_n (cx_x X) (cx_b X) dL_law_267 rfl (lv_at hl 3 rfl) ?_
  refine lq_calls X hx hc0 hl.1 (Nat.le_of_ble_eq_true rfl) dL_law_268 ⟨by omega, by omega⟩ ?_
  refine lv_if_ne (tgt := 307) (cx_x X) (cx_b X) dL_law_271 (by decide) (fun hc => absurd rfl hc) (fun _ => ?_)
  refine lv_aload_n (cx_x X) (cx_b X) dL_law_274 rfl (lv_at hl 3 rfl) ?_
  refine lv_iconst (v := (0 : Int32)) (cx_x X) (cx_b X) dL_law_275 (by decide) ?_
  refine lq_restoreS0 X hx rfl hre hS hl.1 (Nat.le_of_ble_eq_true rfl) dL_law_276 ⟨by omega, by omega⟩ (fun H locs hx hS => ?_)
  refine lv_iload (cx_x X) (cx_b X) dL_law_279 (lv_at hl 0 rfl) ?_
  refine lv_icmp_ne (tgt := 307) (cx_x X) (cx_b X) dL_law_281 (by decide) (fun hc => absurd rfl hc) (fun _ => ?_)
  refine lv_aload_n (cx_x X) (cx_b X) dL_law_284 rfl (lv_at hl 3 rfl) ?_
  refine lq_tale X hx hT3 hl.1 (Nat.le_of_ble_eq_true rfl) dL_law_285 ⟨by omega, by omega⟩ ?_
  refine lv_lload (cx_x X) (cx_b X) dL_law_288 (lv_at hl 1 rfl) ?_
  refine W.lcmp (cx_x X) (cx_b X) dL_law_290 ?_
  refine lv_if_ne (tgt := 307) (cx_x X) (cx_b X) dL_law_291 (by decide) (fun hc => absurd (cl_cmp T) hc) (fun _ => ?_)
  refine lv_aload_n (cx_x X) (cx_b X) dL_law_294 rfl (lv_at hl 3 rfl) ?_
  refine lq_undo0 X hx hun hS hl.1 (Nat.le_of_ble_eq_true rfl) dL_law_295 ⟨by omega, by omega⟩ (fun H locs hx hS => ?_)
  refine lv_bipush (v := (-2 : Int32)) (cx_x X) (cx_b X) dL_law_298 (by decide) ?_
  refine lv_icmp_ne (tgt := 307) (cx_x X) (cx_b X) dL_law_300 (by decide) (fun hc => absurd rfl hc) (fun _ => ?_)
  refine lv_iconst (v := (1 : Int32)) (cx_x X) (cx_b X) dL_law_303 (by decide) ?_
  refine lv_goto (tgt := 308) (cx_x X) (cx_b X) dL_law_304 (by decide) ?_
  refine va_forget (fun q hq => hS.2.2 q hq) ?_
  refine W.widen (k := 600000) (n := 7302250) (by omega) (by omega) ?_
  exact lw_ret hx0 hb0 hr0 hlocks dL_law_308
set_option maxHeartbeats 16000000 in
set_option maxRecDepth 100000 in
/-- the law's loop -/
theorem law_loop {p0 : Program} {l : Launch} {e : Env} {s : State} {m : MethodId} {below : List Frame} {meth : Method} {co : Code} {D : va_G} {y : Nat → ClassId} {b L : Nat} {xs : Nat → Int32} {qx : Nat} (hx0 : p0.tables.exec = Jvm.exec) (hb0 : co.code = code) (hr0 : meth.sig.returnType = ret) (hlocks : meth.locks = false) (X : cx p0 s m #[Value.ref b] meth co cL_law 11 ret RL D y) (hX : va_X b L xs s s.heap) (hbl : b < s.heap.size) (hL : L ≤ 260) :
    ∀ (n t : Nat), t + n = 52 → ∀ (c k ru : Nat) (N : Nat → ns_T) (H : Heap) (locs : List Loc), k < 6 → c ≤ 6 → nt_ ru t (N 0) → xs_s D y s.heap.size qx p_0 c k z_F z_R N H → va_S (fun q : Nat => s.heap.size ≤ q) s.heap H locs → ∀ (ls : Array Slot), lv_has ls 11 [(0, .ref b), (1, .ref qx), (2, .int (nI c)), (3, .int (nI ru)), (4, .int (nI t))] → W p0 l e room_1 s m #[Value.ref b] below meth co H locs (100 + 6 * t) (4000 + 133 * t) (lw_Z below #[Value.ref b] s) (F0 m 46 ls []) := by
  intro n
  induction n with
  | zero =>
    intro t ht c k ru N H locs hk hc hn hx hS ls hl
    refine lv_iload (cx_x X) (cx_b X) dL_law_46 (lv_at hl 4 rfl) ?_
    refine lv_bipush (v := (52 : Int32)) (cx_x X) (cx_b X) dL_law_48 (by decide) ?_
    refine lv_icmp_ge (tgt := 233) (cx_x X) (cx_b X) dL_law_50 (by decide) (fun _ => ?_) (fun hc2 => absurd (nI_le (a := 52) (by omega) (by omega)) hc2)
    exact law_last hx0 hb0 hr0 hlocks X hX hbl hL ⟨by omega, by omega⟩ hk hc hn hx hS (lv_sub hl [0, 1, 2, 3, 4] rfl)
  | succ n ih =>
    intro t ht c k ru N H locs hk hc hn hx hS ls hl
    have hh := hn
    obtain ⟨⟨rw, cl, sz, CX, CY, CZ, sg, hr⟩, -⟩ := hh
    obtain ⟨T, hT⟩ := v4_tale hr
    -- the next turn
    have K227 : ∀ (c k ru : Nat) (N : Nat → ns_T) (H : Heap) (locs : List Loc), k < 6 → c ≤ 6 → nt_ ru (t + 1) (N 0) → xs_s D y s.heap.size qx p_0 c k z_F z_R N H → va_S (fun q : Nat => s.heap.size ≤ q) s.heap H locs → ∀ (ls : Array Slot), lv_has ls 11 [(0, .ref b), (1, .ref qx), (2, .int (nI c)), (3, .int (nI ru)), (4, .int (nI t))] → W p0 l e room_1 s m #[Value.ref b] below meth co H locs (100 + 6 * (t + 1)) (4000 + 133 * (t + 1)) (lw_Z below #[Value.ref b] s) (F0 m 227 ls []) := by
      intro c k ru N H locs hk hc hn hx hS ls hl
      refine lv_iinc (v := nI (t + 1)) (lv' := [(4, .int (nI (t + 1))), (0, .ref b), (1, .ref qx), (2, .int (nI c)), (3, .int (nI ru))]) (cx_x X) (cx_b X) dL_law_227 hl (k := 4) rfl (nI_add t 1) (by decide) rfl (fun ls hl => ?_)
      refine lv_goto (tgt := 46) (cx_x X) (cx_b X) dL_law_230 (by decide) ?_
      exact ih (t + 1) (by omega) c k ru N H locs hk hc hn hx hS ls (lv_sub hl [1, 2, 3, 4, 0] rfl)
    refine lv_iload (cx_x X) (cx_b X) dL_law_46 (lv_at hl 4 rfl) ?_
    refine lv_bipush (v := (52 : Int32)) (cx_x X) (cx_b X) dL_law_48 (by decide) ?_
    refine lv_icmp_ge (tgt := 233) (cx_x X) (cx_b X) dL_law_50 (by decide) (fun hc2 => absurd hc2 (nI_ge (b := 52) (by omega) (by decide))) (fun _ => ?_)
    refine lv_aload_n (cx_x X) (cx_b X) dL_law_53 rfl (lv_at hl 0 rfl) ?_
    refine lv_iload (cx_x X) (cx_b X) dL_law_54 (lv_at hl 4 rfl) ?_
    refine lq_cell X hX hbl (by omega) hL hS hl.1 (Nat.le_of_ble_eq_true rfl) dL_law_56 ⟨by omega, by omega⟩ ?_
    generalize cl_v L xs (nI t) = v
    refine lv_istore (lv' := [(5, .int v), (0, .ref b), (1, .ref qx), (2, .int (nI c)), (3, .int (nI ru)), (4, .int (nI t))]) (cx_x X) (cx_b X) dL_law_59 hl (by decide) rfl (fun ls hl => ?_)
    refine lv_aload_n (cx_x X) (cx_b X) dL_law_61 rfl (lv_at hl 2 rfl) ?_
    refine lq_tale X hx hT hl.1 (Nat.le_of_ble_eq_true rfl) dL_law_62 ⟨by omega, by omega⟩ ?_
    refine lv_lstore (lv' := [(6, .long T), (5, .int v), (0, .ref b), (1, .ref qx), (2, .int (nI c)), (3, .int (nI ru)), (4, .int (nI t))]) (cx_x X) (cx_b X) dL_law_65 hl (by decide) rfl (fun ls hl => ?_)
    refine lv_iload_n (cx_x X) (cx_b X) dL_law_67 rfl (lv_at hl 5 rfl) ?_
    refine lv_istore (lv' := [(8, .int (nI ru)), (6, .long T), (5, .int v), (0, .ref b), (1, .ref qx), (2, .int (nI c)), (3, .int (nI ru)), (4, .int (nI t))]) (cx_x X) (cx_b X) dL_law_68 hl (by decide) rfl (fun ls hl => ?_)
    refine lv_aload_n (cx_x X) (cx_b X) dL_law_70 rfl (lv_at hl 4 rfl) ?_
    refine lv_iload (cx_x X) (cx_b X) dL_law_71 (lv_at hl 2 rfl) ?_
    obtain ⟨r, c1, k1, N1, ru1, hd, hcase⟩ := does_ok (U := z_F) (V := z_R) hk hc hn v
    refine lq_does X hx hd hS hl.1 (Nat.le_of_ble_eq_true rfl) dL_law_73 ⟨by omega, by omega⟩ (fun H locs hx hS => ?_)
    refine lv_istore (lv' := [(9, .int r), (8, .int (nI ru)), (6, .long T), (5, .int v), (0, .ref b), (1, .ref qx), (2, .int (nI c)), (3, .int (nI ru)), (4, .int (nI t))]) (cx_x X) (cx_b X) dL_law_76 hl (by decide) rfl (fun ls hl => ?_)
    refine lv_iload (cx_x X) (cx_b X) dL_law_78 (lv_at hl 0 rfl) ?_
    have hce : 100 + 6 * t + 6 = 100 + 6 * (t + 1) := by omega
    have hsl : 4000 + 133 * t + 133 = 4000 + 133 * (t + 1) := by omega
    rw [hce, hsl]
    clear hce hsl
    rcases hcase with ⟨r1, r2, g1, g2, g3⟩ | ⟨r1, rfl, rfl, ⟨n1, hN1⟩, hn1, hru⟩
    · -- an error: nothing has changed
      rw [g1, g2, g3] at hx
      refine lv_if_ge (tgt := 94) (cx_x X) (cx_b X) dL_law_80 (by decide) (fun hc2 => absurd r1 (le_n.mp hc2)) (fun _ => ?_)
      refine lv_iload (cx_x X) (cx_b X) dL_law_83 (lv_at hl 0 rfl) ?_
      refine lv_bipush (v := (-9 : Int32)) (cx_x X) (cx_b X) dL_law_85 (by decide) ?_
      refine lv_icmp_eq (tgt := 94) (cx_x X) (cx_b X) dL_law_87 (by decide) (fun hc2 => absurd hc2 r2) (fun _ => ?_)
      refine lv_iconst (v := (1 : Int32)) (cx_x X) (cx_b X) dL_law_90 (by decide) ?_
      refine lv_goto (tgt := 95) (cx_x X) (cx_b X) dL_law_91 (by decide) ?_
      refine lv_istore (lv' := [(10, .int (1 : Int32)), (9, .int r), (8, .int (nI ru)), (6, .long T), (5, .int v), (0, .ref b), (1, .ref qx), (2, .int (nI c)), (3, .int (nI ru)), (4, .int (nI t))]) (cx_x X) (cx_b X) dL_law_95 hl (by decide) rfl (fun ls hl => ?_)
      refine lv_iload (cx_x X) (cx_b X) dL_law_97 (lv_at hl 0 rfl) ?_
      refine lv_if_eq (tgt := 114) (cx_x X) (cx_b X) dL_law_99 (by decide) (fun hc2 => absurd hc2 (by decide)) (fun _ => ?_)
      refine lv_aload_n (cx_x X) (cx_b X) dL_law_102 rfl (lv_at hl 6 rfl) ?_
      refine lq_tale X hx hT hl.1 (Nat.le_of_ble_eq_true rfl) dL_law_103 ⟨by omega, by omega⟩ ?_
      refine lv_lload (cx_x X) (cx_b X) dL_law_106 (lv_at hl 3 rfl) ?_
      refine W.lcmp (cx_x X) (cx_b X) dL_law_108 ?_
      refine lv_if_eq (tgt := 114) (cx_x X) (cx_b X) dL_law_109 (by decide) (fun _ => ?_) (fun hc2 => absurd (cl_cmp T) hc2)
      refine lv_iload (cx_x X) (cx_b X) dL_law_114 (lv_at hl 0 rfl) ?_
      refine lv_if_ne (tgt := 148) (cx_x X) (cx_b X) dL_law_116 (by decide) (fun _ => ?_) (fun hc2 => absurd hc2 (by decide))
      refine lv_iload_n (cx_x X) (cx_b X) dL_law_148 rfl (lv_at hl 8 rfl) ?_
      refine lv_istore_n (lv' := [(3, .int (nI ru)), (10, .int (1 : Int32)), (9, .int r), (8, .int (nI ru)), (6, .long T), (5, .int v), (0, .ref b), (1, .ref qx), (2, .int (nI c)), (4, .int (nI t))]) (cx_x X) (cx_b X) dL_law_149 rfl hl (by decide) rfl (fun ls hl => ?_)
      refine lv_iload (cx_x X) (cx_b X) dL_law_150 (lv_at hl 1 rfl) ?_
      refine lv_if_eq (tgt := 159) (cx_x X) (cx_b X) dL_law_152 (by decide) (fun hc2 => absurd hc2 (by decide)) (fun _ => ?_)
      refine lv_iload_n (cx_x X) (cx_b X) dL_law_155 rfl (lv_at hl 8 rfl) ?_
      refine lv_goto (tgt := 173) (cx_x X) (cx_b X) dL_law_156 (by decide) ?_
      refine lv_istore_n (lv' := [(2, .int (nI c)), (3, .int (nI ru)), (10, .int (1 : Int32)), (9, .int r), (8, .int (nI ru)), (6, .long T), (5, .int v), (0, .ref b), (1, .ref qx), (4, .int (nI t))]) (cx_x X) (cx_b X) dL_law_173 rfl hl (by decide) rfl (fun ls hl => ?_)
      refine lv_aload_n (cx_x X) (cx_b X) dL_law_174 rfl (lv_at hl 8 rfl) ?_
      refine lv_iload_n (cx_x X) (cx_b X) dL_law_175 rfl (lv_at hl 1 rfl) ?_
      refine lq_holds X hx (v4_holds hr (nt_le hn (by omega))) hl.1 (Nat.le_of_ble_eq_true rfl) dL_law_176 ⟨by omega, by omega⟩ ?_
      refine lv_if_ne (tgt := 184) (cx_x X) (cx_b X) dL_law_179 (by decide) (fun _ => ?_) (fun hc2 => absurd hc2 (by decide))
      refine lv_iload (cx_x X) (cx_b X) dL_law_184 (lv_at hl 2 rfl) ?_
      refine lv_if_ne (tgt := 227) (cx_x X) (cx_b X) dL_law_186 (by decide) (fun _ => ?_) (fun hc2 => absurd hc2 (by decide))
      exact K227 _ _ ru _ _ _ hk hc (nt_up hn (by omega)) hx hS _ (lv_sub hl [7, 8, 0, 1, 9] rfl)
    · -- all else
      have hh1 := hn1
      obtain ⟨⟨rw1, cl1, sz1, CX1, CY1, CZ1, sg1, hr1⟩, -⟩ := hh1
      have hkn := kn_lt hk
      have K173 : ∀ ls, lv_has ls 11 [(3, .int (nI ru1)), (10, .int (0 : Int32)), (9, .int r), (8, .int (nI ru)), (6, .long T), (5, .int v), (0, .ref b), (1, .ref qx), (2, .int (nI c)), (4, .int (nI t))] → W p0 l e room_1 s m #[Value.ref b] below meth co H locs (100 + 6 * (t + 1)) (4000 + 133 * (t + 1)) (lw_Z below #[Value.ref b] s) (F0 m 173 ls [.int (nI (cn_s c))]) := by
        intro ls hl
        refine lv_istore_n (lv' := [(2, .int (nI (cn_s c))), (3, .int (nI ru1)), (10, .int (0 : Int32)), (9, .int r), (8, .int (nI ru)), (6, .long T), (5, .int v), (0, .ref b), (1, .ref qx), (4, .int (nI t))]) (cx_x X) (cx_b X) dL_law_173 rfl hl (by decide) rfl (fun ls hl => ?_)
        refine lv_aload_n (cx_x X) (cx_b X) dL_law_174 rfl (lv_at hl 8 rfl) ?_
        refine lv_iload_n (cx_x X) (cx_b X) dL_law_175 rfl (lv_at hl 1 rfl) ?_
        refine lq_holds X hx (v4_holds hr1 (nt_le hn1 (by omega))) hl.1 (Nat.le_of_ble_eq_true rfl) dL_law_176 ⟨by omega, by omega⟩ ?_
        refine lv_if_ne (tgt := 184) (cx_x X) (cx_b X) dL_law_179 (by decide) (fun _ => ?_) (fun hc2 => absurd hc2 (by decide))
        refine lv_iload (cx_x X) (cx_b X) dL_law_184 (lv_at hl 2 rfl) ?_
        refine lv_if_ne (tgt := 227) (cx_x X) (cx_b X) dL_law_186 (by decide) (fun hc2 => absurd rfl hc2) (fun _ => ?_)
        refine lv_iload (cx_x X) (cx_b X) dL_law_189 (lv_at hl 6 rfl) ?_
        refine lv_bipush (v := (26 : Int32)) (cx_x X) (cx_b X) dL_law_191 (by decide) ?_
        refine lv_ishr (cx_x X) (cx_b X) dL_law_193 ?_
        refine lv_iconst (v := (3 : Int32)) (cx_x X) (cx_b X) dL_law_194 (by decide) ?_
        refine lv_iand (cx_x X) (cx_b X) dL_law_195 ?_
        refine lv_if_ne (tgt := 227) (cx_x X) (cx_b X) dL_law_196 (by decide) (fun _ => ?_) (fun _ => ?_)
        · exact K227 _ _ ru1 _ _ _ hkn (cn_le6 c) hn1 hx hS _ (lv_sub hl [7, 8, 0, 1, 9] rfl)
        · refine lv_iload (cx_x X) (cx_b X) dL_law_199 (lv_at hl 4 rfl) ?_
          refine lv_istore_n (lv' := [(3, .int (nI ru)), (2, .int (nI (cn_s c))), (10, .int (0 : Int32)), (9, .int r), (8, .int (nI ru)), (6, .long T), (5, .int v), (0, .ref b), (1, .ref qx), (4, .int (nI t))]) (cx_x X) (cx_b X) dL_law_201 rfl hl (by decide) rfl (fun ls hl => ?_)
          refine lv_aload_n (cx_x X) (cx_b X) dL_law_202 rfl (lv_at hl 8 rfl) ?_
          obtain ⟨c0, hc0⟩ : ∃ c0, cn_s c = c0 + 1 := ⟨cn_s c - 1, by unfold cn_s; split <;> omega⟩
          have hc6 := cn_le6 c
          rw [hc0] at hx hl hc6
          have hN0 : N1 (kn_s k + 1) = N 0 := by rw [hN1, va_up_ne _ _ (by omega), va_up_self]
          have hud : m4_undo1 c0 (kn_s k) z_F z_R N1 = some (nI c0, c0, kp_s (kn_s k), z_F, z_R, va_up N1 0 (N1 (kn_s k + 1))) := by unfold m4_undo1; rw [if_pos ⟨hkn, by omega, by rw [hN0]; exact nt_1 hn⟩, lt_rw]
          rw [hN0] at hud
          have hz0 : (va_up N1 0 (N 0)) 0 = N 0 := va_up_self _ _ _
          generalize va_up N1 0 (N 0) = N2 at hud hz0
          refine lq_undo1 X hx hud hS hl.1 (Nat.le_of_ble_eq_true rfl) dL_law_203 ⟨by omega, by omega⟩ (fun H locs hx hS => ?_)
          refine lv_iload_n (cx_x X) (cx_b X) dL_law_206 rfl (lv_at hl 1 rfl) ?_
          refine lv_iconst (v := (1 : Int32)) (cx_x X) (cx_b X) dL_law_207 (by decide) ?_
          refine lv_isub (cx_x X) (cx_b X) dL_law_208 ?_
          rw [show nI (c0 + 1) - 1 = nI c0 from pk_sub (b := 1) (by omega)]
          refine lv_icmp_ne (tgt := 222) (cx_x X) (cx_b X) dL_law_209 (by decide) (fun hc2 => absurd rfl hc2) (fun _ => ?_)
          refine lv_aload_n (cx_x X) (cx_b X) dL_law_212 rfl (lv_at hl 8 rfl) ?_
          refine lq_tale X hx (by rw [hz0]; exact hT) hl.1 (Nat.le_of_ble_eq_true rfl) dL_law_213 ⟨by omega, by omega⟩ ?_
          refine lv_lload (cx_x X) (cx_b X) dL_law_216 (lv_at hl 5 rfl) ?_
          refine W.lcmp (cx_x X) (cx_b X) dL_law_218 ?_
          refine lv_if_eq (tgt := 224) (cx_x X) (cx_b X) dL_law_219 (by decide) (fun _ => ?_) (fun hc2 => absurd (cl_cmp T) hc2)
          refine lv_iinc (v := nI c0) (lv' := [(2, .int (nI c0)), (3, .int (nI ru)), (10, .int (0 : Int32)), (9, .int r), (8, .int (nI ru)), (6, .long T), (5, .int v), (0, .ref b), (1, .ref qx), (4, .int (nI t))]) (cx_x X) (cx_b X) dL_law_224 hl (k := 1) rfl (show nI (c0 + 1) + (-1) = nI c0 from pk_m1 c0) (by decide) rfl (fun ls hl => ?_)
          exact K227 _ _ ru _ _ _ (kp_lt hkn) (by omega) (by rw [hz0]; exact nt_up hn (by omega)) hx hS _ (lv_sub hl [7, 8, 0, 1, 9] rfl)
      have K149 : ∀ ls, lv_has ls 11 [(10, .int (0 : Int32)), (9, .int r), (8, .int (nI ru)), (6, .long T), (5, .int v), (0, .ref b), (1, .ref qx), (2, .int (nI c)), (3, .int (nI ru)), (4, .int (nI t))] → W p0 l e room_1 s m #[Value.ref b] below meth co H locs (100 + 6 * (t + 1)) (4000 + 133 * (t + 1)) (lw_Z below #[Value.ref b] s) (F0 m 149 ls [.int (nI ru1)]) := by
        intro ls hl
        refine lv_istore_n (lv' := [(3, .int (nI ru1)), (10, .int (0 : Int32)), (9, .int r), (8, .int (nI ru)), (6, .long T), (5, .int v), (0, .ref b), (1, .ref qx), (2, .int (nI c)), (4, .int (nI t))]) (cx_x X) (cx_b X) dL_law_149 rfl hl (by decide) rfl (fun ls hl => ?_)
        refine lv_iload (cx_x X) (cx_b X) dL_law_150 (lv_at hl 1 rfl) ?_
        refine lv_if_eq (tgt := 159) (cx_x X) (cx_b X) dL_law_152 (by decide) (fun _ => ?_) (fun hc2 => absurd rfl hc2)
        refine lv_iload_n (cx_x X) (cx_b X) dL_law_159 rfl (lv_at hl 8 rfl) ?_
        refine lv_bipush (v := (6 : Int32)) (cx_x X) (cx_b X) dL_law_160 (by decide) ?_
        by_cases q6 : c < 6
        · refine lv_icmp_ge (tgt := 171) (cx_x X) (cx_b X) dL_law_162 (by decide) (fun hc2 => absurd hc2 (nI_ge (b := 6) q6 (by decide))) (fun _ => ?_)
          refine lv_iload_n (cx_x X) (cx_b X) dL_law_165 rfl (lv_at hl 8 rfl) ?_
          refine lv_iconst (v := (1 : Int32)) (cx_x X) (cx_b X) dL_law_166 (by decide) ?_
          refine lv_iadd (cx_x X) (cx_b X) dL_law_167 ?_
          refine lv_goto (tgt := 173) (cx_x X) (cx_b X) dL_law_168 (by decide) ?_
          rw [show nI c + 1 = nI (cn_s c) by unfold cn_s; rw [if_pos q6, nI_1]]
          exact K173 _ hl
        · refine lv_icmp_ge (tgt := 171) (cx_x X) (cx_b X) dL_law_162 (by decide) (fun _ => ?_) (fun hc2 => absurd (nI_le (a := 6) (by omega) (by omega)) hc2)
          refine lv_bipush (v := (6 : Int32)) (cx_x X) (cx_b X) dL_law_171 (by decide) ?_
          rw [show (6 : Int32) = nI (cn_s c) by unfold cn_s; rw [if_neg q6]; rfl]
          exact K173 _ hl
      have K95 : ∀ ls, lv_has ls 11 [(9, .int r), (8, .int (nI ru)), (6, .long T), (5, .int v), (0, .ref b), (1, .ref qx), (2, .int (nI c)), (3, .int (nI ru)), (4, .int (nI t))] → W p0 l e room_1 s m #[Value.ref b] below meth co H locs (100 + 6 * (t + 1)) (4000 + 133 * (t + 1)) (lw_Z below #[Value.ref b] s) (F0 m 95 ls [.int (0 : Int32)]) := by
        intro ls hl
        refine lv_istore (lv' := [(10, .int (0 : Int32)), (9, .int r), (8, .int (nI ru)), (6, .long T), (5, .int v), (0, .ref b), (1, .ref qx), (2, .int (nI c)), (3, .int (nI ru)), (4, .int (nI t))]) (cx_x X) (cx_b X) dL_law_95 hl (by decide) rfl (fun ls hl => ?_)
        refine lv_iload (cx_x X) (cx_b X) dL_law_97 (lv_at hl 0 rfl) ?_
        refine lv_if_eq (tgt := 114) (cx_x X) (cx_b X) dL_law_99 (by decide) (fun _ => ?_) (fun hc2 => absurd rfl hc2)
        refine lv_iload (cx_x X) (cx_b X) dL_law_114 (lv_at hl 0 rfl) ?_
        refine lv_if_ne (tgt := 148) (cx_x X) (cx_b X) dL_law_116 (by decide) (fun hc2 => absurd rfl hc2) (fun _ => ?_)
        refine lv_iload (cx_x X) (cx_b X) dL_law_119 (lv_at hl 4 rfl) ?_
        refine lv_bipush (v := (15 : Int32)) (cx_x X) (cx_b X) dL_law_121 (by decide) ?_
        refine lv_iand (cx_x X) (cx_b X) dL_law_123 ?_
        refine lv_if_ne (tgt := 148) (cx_x X) (cx_b X) dL_law_124 (by decide) (fun g1 => ?_) (fun g1 => ?_)
        · rw [if_neg g1] at hru
          rw [hru] at K149
          refine lv_iload_n (cx_x X) (cx_b X) dL_law_148 rfl (lv_at hl 8 rfl) ?_
          exact K149 _ hl
        · refine lv_iload (cx_x X) (cx_b X) dL_law_127 (lv_at hl 4 rfl) ?_
          refine lv_iconst (v := (4 : Int32)) (cx_x X) (cx_b X) dL_law_129 (by decide) ?_
          refine lv_ishr (cx_x X) (cx_b X) dL_law_130 ?_
          refine lv_iconst (v := (3 : Int32)) (cx_x X) (cx_b X) dL_law_131 (by decide) ?_
          refine lv_iand (cx_x X) (cx_b X) dL_law_132 ?_
          refine lv_if_ne (tgt := 148) (cx_x X) (cx_b X) dL_law_133 (by decide) (fun g2 => ?_) (fun g2 => ?_)
          · rw [if_pos g1, if_neg g2] at hru
            rw [hru] at K149
            refine lv_iload_n (cx_x X) (cx_b X) dL_law_148 rfl (lv_at hl 8 rfl) ?_
            exact K149 _ hl
          · rw [if_pos g1, if_pos g2] at hru
            refine lv_iconst (v := (2 : Int32)) (cx_x X) (cx_b X) dL_law_136 (by decide) ?_
            refine lv_iload (cx_x X) (cx_b X) dL_law_137 (lv_at hl 4 rfl) ?_
            refine lv_bipush (v := (12 : Int32)) (cx_x X) (cx_b X) dL_law_139 (by decide) ?_
            refine lv_ishr (cx_x X) (cx_b X) dL_law_141 ?_
            refine lv_iconst (v := (1 : Int32)) (cx_x X) (cx_b X) dL_law_142 (by decide) ?_
            refine lv_iand (cx_x X) (cx_b X) dL_law_143 ?_
            refine lv_iadd (cx_x X) (cx_b X) dL_law_144 ?_
            refine lv_goto (tgt := 149) (cx_x X) (cx_b X) dL_law_145 (by decide) ?_
            rw [hru] at K149
            exact K149 _ hl
      refine lv_if_ge (tgt := 94) (cx_x X) (cx_b X) dL_law_80 (by decide) (fun _ => ?_) (fun hc2 => ?_)
      · refine lv_iconst (v := (0 : Int32)) (cx_x X) (cx_b X) dL_law_94 (by decide) ?_
        exact K95 _ hl
      · refine lv_iload (cx_x X) (cx_b X) dL_law_83 (lv_at hl 0 rfl) ?_
        refine lv_bipush (v := (-9 : Int32)) (cx_x X) (cx_b X) dL_law_85 (by decide) ?_
        refine lv_icmp_eq (tgt := 94) (cx_x X) (cx_b X) dL_law_87 (by decide) (fun _ => ?_) (fun hc3 => absurd (r1.resolve_left hc2) hc3)
        refine lv_iconst (v := (0 : Int32)) (cx_x X) (cx_b X) dL_law_94 (by decide) ?_
        exact K95 _ hl
set_option maxHeartbeats 4000000 in
set_option maxRecDepth 100000 in
/-- THE LAW, from its entry -/
theorem whole_start {p : Program} {e : Env} {s : State} {m : MethodId} {below : List Frame} {meth : Method} {c : Code} (l : Launch) (hflags : l.flags = flags0) {b L : Nat} {xs : Nat → Int32} (hL : L ≤ 260) (C0 : lw_At p s m meth c b L xs) : W p l e room_1 s m #[Value.ref b] below meth c s.heap [] 0 0 (lw_Z below #[Value.ref b] s) (entryFrame m ([Value.ref b] : List Value).toArray 11) := by
  obtain ⟨hx0, hb0, hr0, hml, hown, hts, hX, hbl, hlocks, hgv⟩ := id C0
  obtain ⟨D, y, hK⟩ := kk_start hts
  have X : cx p s m #[Value.ref b] meth c cL_law 11 ret RL D y := ⟨hx0, hb0, hml, hown, fun w h => hts w (wsL_law_in w h), hK, hr0, hlocks⟩
  have hS : va_S (fun q : Nat => s.heap.size ≤ q) s.heap s.heap [] := va_S.rf
  have hf : cf_ok 3 4 2 2 := ⟨by decide, by decide, by decide, by decide, Or.inl rfl, by decide, by decide⟩
  obtain ⟨G, Q, hm1, hlo⟩ := la_init hf z_F z_R
  obtain ⟨sg, hnr⟩ := nr_new (F := nb_F ni_F) hf hlo (by decide) (by decide) (Or.inr rfl)
  have hn0 : nt_ 2 0 ((N_0 G Q) 0) := ⟨⟨3, 4, 2, _, _, _, sg, hnr⟩, 0, 0, rfl, rfl, Nat.le_refl _, Nat.le_refl _⟩
  have hl := lv_entry ([.ref b]) (n := 11) (Nat.le_of_ble_eq_true rfl)
  rw [lg_entry_eq]
  generalize (lg_sl ([.ref b]) ++ List.replicate (11 - (lg_sl ([.ref b])).length) Slot.unset).toArray = ls at hl ⊢
  replace hl : lv_has ls 11 [(0, .ref b)] := hl
  refine fx_new (ci := 4) X inlX4 tyX4_ok qw_0 qw_1 qw_2 hS rfl [.null, .null, .null, .null] (fun j hj => by rcases (show j = 0 ∨ j = 1 ∨ j = 2 ∨ j = 3 by omega) with rfl | rfl | rfl | rfl <;> rfl) (Nat.le_of_ble_eq_true rfl) (Nat.le_of_ble_eq_true rfl) dL_law_0 (fun Ha hNa hza hoa hS => ?_)
  obtain ⟨qx, hqx⟩ : ∃ qx, qx = s.heap.size := ⟨_, rfl⟩
  rw [show Value.ref s.heap.size = Value.ref qx by rw [hqx]]
  rw [← hqx] at hNa hza
  refine lv_dup (cx_x X) (cx_b X) dL_law_3 rfl ?_
  refine af_W (mc := 49) (ms := 1890) (rn_I (As := []) (rest := [.ref qx]) X (c_X4_init l D y qx _ G Q hm1) iq_L_124 ⟨rfl, rfl⟩ ⟨Nat.le_of_ble_eq_true rfl, Nat.le_of_ble_eq_true rfl⟩ ⟨rfl, hNa⟩ rfl hl.1 rfl (Nat.le_of_ble_eq_true rfl) dL_law_4 ⟨Nat.le_of_ble_eq_true rfl, Nat.le_of_ble_eq_true rfl⟩) hS (rg_in (by show s.heap.size ≤ qx; omega) (fun q hq => by show s.heap.size ≤ q; omega)) (fun H locs hNb hzb hkb hS => ?_)
  obtain ⟨ad, NB, e9, hT⟩ := hNb
  have hx : xs_s D y s.heap.size qx p_0 0 0 z_F z_R (N_0 G Q) H := ⟨_, ad, NB, fun q hq => by
    rcases hq with ⟨_, _, rfl⟩ | hq
    · omega
    · omega, e9, hT⟩
  refine W.widen (k := 60) (n := 3000) (Nat.le_of_ble_eq_true rfl) (Nat.le_of_ble_eq_true rfl) ?_
  have hud : m4_undo0 0 z_F z_R (N_0 G Q) = some ((-2 : Int32), 0, 0, z_F, z_R, N_0 G Q) := by unfold m4_undo0; rw [if_pos (by decide)]
  have hre : m4_restoreN1 0 0 z_F z_R (N_0 G Q) = some ((-2 : Int32), 0, 0, z_F, z_R, N_0 G Q) := by unfold m4_restoreN1; rfl
  have hen : m4_endCall 0 0 z_F z_R (N_0 G Q) 0 = some ((-4 : Int32), 0, 0, z_F, z_R, N_0 G Q) := by
    unfold m4_endCall
    show ((m2_isPresent (nb_F ni_F) nb_R G Q (nI 0)).bind _) = _
    rw [p2_present hnr, bd_s, ic_n (by decide)]
    rfl
  refine lv_astore_n (lv' := [(1, .ref qx), (0, .ref b)]) (cx_x X) (cx_b X) dL_law_7 rfl hl (by decide) rfl (fun ls hl => ?_)
  refine lv_aload_n (cx_x X) (cx_b X) dL_law_8 rfl (lv_at hl 0 rfl) ?_
  refine lq_undo0 X hx hud hS hl.1 (Nat.le_of_ble_eq_true rfl) dL_law_9 ⟨(Nat.le_of_ble_eq_true rfl), (Nat.le_of_ble_eq_true rfl)⟩ (fun H locs hx hS => ?_)
  refine lv_bipush (v := (-2 : Int32)) (cx_x X) (cx_b X) dL_law_12 (by decide) ?_
  refine lv_icmp_ne (tgt := 37) (cx_x X) (cx_b X) dL_law_14 (by decide) (fun hc => absurd rfl hc) (fun _ => ?_)
  refine lv_aload_n (cx_x X) (cx_b X) dL_law_17 rfl (lv_at hl 0 rfl) ?_
  refine lv_iconst (v := (1 : Int32)) (cx_x X) (cx_b X) dL_law_18 (by decide) ?_
  refine lq_restoreN1 X hx rfl hre hS hl.1 (Nat.le_of_ble_eq_true rfl) dL_law_19 ⟨(Nat.le_of_ble_eq_true rfl), (Nat.le_of_ble_eq_true rfl)⟩ (fun H locs hx hS => ?_)
  refine lv_bipush (v := (-2 : Int32)) (cx_x X) (cx_b X) dL_law_22 (by decide) ?_
  refine lv_icmp_ne (tgt := 37) (cx_x X) (cx_b X) dL_law_24 (by decide) (fun hc => absurd rfl hc) (fun _ => ?_)
  refine lv_aload_n (cx_x X) (cx_b X) dL_law_27 rfl (lv_at hl 0 rfl) ?_
  refine lv_iconst (v := (0 : Int32)) (cx_x X) (cx_b X) dL_law_28 (by decide) ?_
  refine lq_endCall X hx hen hS hl.1 (Nat.le_of_ble_eq_true rfl) dL_law_29 ⟨(Nat.le_of_ble_eq_true rfl), (Nat.le_of_ble_eq_true rfl)⟩ (fun H locs hx hS => ?_)
  refine lv_bipush (v := (-4 : Int32)) (cx_x X) (cx_b X) dL_law_32 (by decide) ?_
  refine lv_icmp_eq (tgt := 39) (cx_x X) (cx_b X) dL_law_34 (by decide) (fun _ => ?_) (fun hc => absurd rfl hc)
  refine lv_iconst (v := (0 : Int32)) (cx_x X) (cx_b X) dL_law_39 (by decide) ?_
  refine lv_istore_n (lv' := [(2, .int (0 : Int32)), (1, .ref qx), (0, .ref b)]) (cx_x X) (cx_b X) dL_law_40 rfl hl (by decide) rfl (fun ls hl => ?_)
  refine lv_iconst (v := (2 : Int32)) (cx_x X) (cx_b X) dL_law_41 (by decide) ?_
  refine lv_istore_n (lv' := [(3, .int (2 : Int32)), (2, .int (0 : Int32)), (1, .ref qx), (0, .ref b)]) (cx_x X) (cx_b X) dL_law_42 rfl hl (by decide) rfl (fun ls hl => ?_)
  refine lv_iconst (v := (0 : Int32)) (cx_x X) (cx_b X) dL_law_43 (by decide) ?_
  refine lv_istore (lv' := [(4, .int (0 : Int32)), (3, .int (2 : Int32)), (2, .int (0 : Int32)), (1, .ref qx), (0, .ref b)]) (cx_x X) (cx_b X) dL_law_44 hl (by decide) rfl (fun ls hl => ?_)
  refine W.widen (k := 100 + 6 * 0) (n := 4000 + 133 * 0) (Nat.le_of_ble_eq_true rfl) (Nat.le_of_ble_eq_true rfl) ?_
  exact law_loop hx0 hb0 hr0 hlocks X hX hbl hL 52 0 rfl 0 0 2 _ _ _ (by decide) (by decide) hn0 hx hS _ (lv_sub hl [4, 3, 2, 1, 0] rfl)
