/-! cell: the script's int, or one made of its place -/
def cl_v (L : Nat) (xs : Nat → Int32) (i : Int32) : Int32 := if Int32.ofNat L ≤ i then ((7919 : Int32) * (i + (3 : Int32))) * (i + (11 : Int32)) else xs i.toNatClampNeg
def pc_X (D : va_G) (y : Nat → ClassId) (av : List Value) (b L : Nat) (xs : Nat → Int32) : Array Value → State → Prop := fun v U => v = av.toArray ∧ (va_X b L xs U U.heap ∧ b < U.heap.size) ∧ kk_K D y U
theorem pcX_blind {D : va_G} {y : Nat → ClassId} {av : List Value} {b L : Nat} {xs : Nat → Int32} : FrameBlind (pc_X D y av b L xs) := fun a U g mk h => ⟨h.1, ⟨va_X.moved (u := U) (U := U.calling g mk a) (Vm.Alike.refl U.vm) h.2.1.1, h.2.1.2⟩, kk_call g mk a h.2.2⟩
abbrev rm_L_cell : Room := { frames := 0, cells := 0, slots := 0, locals := 0 }
set_option maxRecDepth 100000 in
theorem c_L_cell (l : Launch) (D : va_G) (y : Nat → ClassId) (b L t : Nat) (xs : Nat → Int32) (ht : t < 1000) (hL : L ≤ 260) : Met l yL_cell (wy_s yL_cell cL_cell 2 (some .int)) rm_L_cell (pc_X D y [.ref b, .int (nI t)] b L xs) (qc_R (cl_v L xs (nI t))) 0 0 (fun _ => False) := by
  refine Met.ofW (cc := cL_cell) (maxL := 2) (ret := some .int) (by decide) rfl ?_
  intro p e s m args below meth c s₁ B hml hv
  obtain ⟨rfl, ⟨hX, hbl⟩, hK⟩ := hv
  have hts := atoms_spec (ws := wy_s yL_cell cL_cell 2 (some .int)) B.pre
  have hl := lv_entry [.ref b, .int (nI t)] (n := 2) (Nat.le_of_ble_eq_true rfl)
  rw [lg_entry_eq]
  have X : cx p s m #[.ref b, .int (nI t)] meth c cL_cell 2 (some .int) RL D y := ⟨B.exec, B.bytes, hml, findClass_of_methodNamed B.named, fun w hw => hts w (List.mem_cons_of_mem _ hw), hK, B.returns, B.notSynchronized⟩
  generalize (lg_sl ([.ref b, .int (nI t)])  ++ List.replicate (2 - (lg_sl ([.ref b, .int (nI t)])).length) Slot.unset).toArray = ls at hl ⊢
  replace hl : lv_has ls 2 [(0, .ref b), (1, .int (nI t))] := hl
  show gr p l e rm_L_cell s m #[.ref b, .int (nI t)] below meth c (cl_v L xs (nI t)) (F0 m 0 ls [])
  have hS : va_S (fun _ : Nat => False) s.heap s.heap [] := va_S.rf
  refine lv_iload_n (cx_x X) (cx_b X) dL_cell_0 rfl (lv_at hl 1 rfl) ?_
  refine lv_aload_n (cx_x X) (cx_b X) dL_cell_1 rfl (lv_at hl 0 rfl) ?_
  refine va_slen (cx_x X) (cx_b X) hX hbl (fun z => z) hS dL_cell_2 ?_
  refine lv_icmp_ge (tgt := 12) (cx_x X) (cx_b X) dL_cell_3 (by decide) (fun hc => ?_) (fun hc => ?_)
  · refine lv_sipush (v := (7919 : Int32)) (cx_x X) (cx_b X) dL_cell_12 (by decide) ?_
    refine lv_iload_n (cx_x X) (cx_b X) dL_cell_15 rfl (lv_at hl 1 rfl) ?_
    refine lv_iconst (v := (3 : Int32)) (cx_x X) (cx_b X) dL_cell_16 (by decide) ?_
    refine lv_iadd (cx_x X) (cx_b X) dL_cell_17 ?_
    refine lv_imul (cx_x X) (cx_b X) dL_cell_18 ?_
    refine lv_iload_n (cx_x X) (cx_b X) dL_cell_19 rfl (lv_at hl 1 rfl) ?_
    refine lv_bipush (v := (11 : Int32)) (cx_x X) (cx_b X) dL_cell_20 (by decide) ?_
    refine lv_iadd (cx_x X) (cx_b X) dL_cell_22 ?_
    refine lv_imul (cx_x X) (cx_b X) dL_cell_23 ?_
    exact gr_i X (by unfold cl_v; rw [if_pos hc]) dL_cell_24
  · have hlt : t < L := by
      have e1 : ¬ L ≤ t := fun z => hc (show nI L ≤ nI t from nI_le z (by omega))
      omega
    refine lv_aload_n (cx_x X) (cx_b X) dL_cell_6 rfl (lv_at hl 0 rfl) ?_
    refine lv_iload_n (cx_x X) (cx_b X) dL_cell_7 rfl (lv_at hl 1 rfl) ?_
    refine va_sld (cx_x X) (cx_b X) hX hbl (fun z => z) hS (vp_in_nI hlt (by omega)) dL_cell_8 ?_
    refine lv_goto (tgt := 24) (cx_x X) (cx_b X) dL_cell_9 (by decide) ?_
    exact gr_i X (by unfold cl_v; rw [if_neg hc]) dL_cell_24

/-! THE LAW: its calls -/
def xs_s (D : va_G) (y : Nat → ClassId) (s0 qx : Nat) (p : Nat → Bool) (c k : Nat) (U : Nat → Int32) (V : Nat → Nat → Int32) (N : Nat → ns_T) (H : Heap) : Prop := ∃ (P : Nat → Prop) (ad NB : Nat → Nat → Nat), (∀ q, P q → s0 ≤ q) ∧ ad 9 0 = qx ∧ tp_e D y P ad NB p (hh_s c k) U V N H
theorem in_P {P : Nat → Prop} {s0 sz : Nat} (h1 : ∀ q, P q → s0 ≤ q) (hs : s0 ≤ sz) : ∀ q, pu_s P sz q → s0 ≤ q := by
  rintro q (hq | hq)
  · exact h1 q hq
  · omega
theorem xs_W {D : va_G} {y : Nat → ClassId} {P : Nat → Prop} {ad ad1 NB1 : Nat → Nat → Nat} {p1 : Nat → Bool} {c1 k1 : Nat} {U1 : Nat → Int32} {V1 : Nat → Nat → Int32} {N1 : Nat → ns_T} {H1 : Heap} {s0 sz : Nat} (h1 : ∀ q, P q → s0 ≤ q) (hs : s0 ≤ sz) (e : ad1 9 0 = ad 9 0) (T : tp_e D y (pu_s P sz) ad1 NB1 p1 (hh_s c1 k1) U1 V1 N1 H1) : xs_s D y s0 (ad 9 0) p1 c1 k1 U1 V1 N1 H1 := ⟨pu_s P sz, ad1, NB1, in_P h1 hs, e, T⟩
theorem cl_cmp (T : Int64) : lg_cmp T T = 0 := (lg_cmp_eq T T).mpr rfl
set_option maxRecDepth 100000 in
theorem lq_tale {p0 : Program} {l : Launch} {e : Env} {s : State} {m : MethodId} {args : Array Value} {below : List Frame} {meth : Method} {co : Code} {D : va_G} {y : Nat → ClassId} {Q0 : State → Prop} {qx c k cells slots pc : Nat} {p : Nat → Bool} {U : Nat → Int32} {V : Nat → Nat → Int32} {N : Nat → ns_T} {H : Heap} {locs : List Loc} {ls : Array Slot} {rest : List Value} (X : cx p0 s m args meth co cL_law 11 ret RL D y) (hx : xs_s D y s.heap.size qx p c k U V N H) {T : Int64} (hT : mj_tale (N 0).1 (N 0).2.1 (N 0).2.2.1 (N 0).2.2.2 = some T) (hl : ls.size = 11) (hW : (rest.map fun v => v.category).sum ≤ 8) (hdg : decode cL_law pc = .ok (.invokestatic 135, 3)) (hc : cells ≤ 600000 ∧ slots ≤ 7302250) (kk : W p0 l e room_1 s m args below meth co H locs cells slots Q0 (F0 m (pc + 3) ls (.long T :: rest))) : W p0 l e room_1 s m args below meth co H locs cells slots Q0 (F0 m pc ls (.ref qx :: rest)) := by
  obtain ⟨P, ad, NB, h1, rfl, hP⟩ := hx
  exact af_L (rn_S (As := [.ref (ad 9 0)]) (rest := rest) X (c_L_tale l D y (ad 9 0) (ad 9 1) (ad 9 3) (ad 10 0) (ad 0) (NB 0) (N 0).1 (N 0).2.1 (N 0).2.2.1 (N 0).2.2.2 T hT) sq_L_135 ⟨rfl, rfl⟩ ⟨Nat.le_of_ble_eq_true rfl, Nat.le_of_ble_eq_true rfl⟩ ⟨tp_w hP, tp_n hP pz_0, tp_l hP pz_0⟩ rfl hl rfl hW hdg hc) kk
set_option maxRecDepth 100000 in
theorem lq_holds {p0 : Program} {l : Launch} {e : Env} {s : State} {m : MethodId} {args : Array Value} {below : List Frame} {meth : Method} {co : Code} {D : va_G} {y : Nat → ClassId} {Q0 : State → Prop} {qx c k cells slots pc : Nat} {p : Nat → Bool} {U : Nat → Int32} {V : Nat → Nat → Int32} {N : Nat → ns_T} {H : Heap} {locs : List Loc} {ls : Array Slot} {rest : List Value} (X : cx p0 s m args meth co cL_law 11 ret RL D y) (hx : xs_s D y s.heap.size qx p c k U V N H) {a1 : Int32} (hT : mj_holds (N 0).1 (N 0).2.1 (N 0).2.2.1 (N 0).2.2.2 a1 = some 1) (hl : ls.size = 11) (hW : (rest.map fun v => v.category).sum ≤ 8) (hdg : decode cL_law pc = .ok (.invokestatic 143, 3)) (hc : cells ≤ 600000 ∧ slots ≤ 7302250) (kk : W p0 l e room_1 s m args below meth co H locs cells slots Q0 (F0 m (pc + 3) ls (.int (1 : Int32) :: rest))) : W p0 l e room_1 s m args below meth co H locs cells slots Q0 (F0 m pc ls (.int a1 :: .ref qx :: rest)) := by
  obtain ⟨P, ad, NB, h1, rfl, hP⟩ := hx
  exact af_R (rn_S (As := [.ref (ad 9 0), .int a1]) (rest := rest) X (c_L_holds l D y (ad 9 0) (ad 9 1) (ad 9 3) (ad 10 0) (ad 0) (NB 0) (N 0).1 (N 0).2.1 (N 0).2.2.1 (N 0).2.2.2 a1 1 hT) sq_L_143 ⟨rfl, rfl⟩ ⟨Nat.le_of_ble_eq_true rfl, Nat.le_of_ble_eq_true rfl⟩ ⟨tp_w hP, tp_n hP pz_0, tp_l hP pz_0⟩ rfl hl rfl hW hdg hc) kk
set_option maxRecDepth 100000 in
theorem lq_calls {p0 : Program} {l : Launch} {e : Env} {s : State} {m : MethodId} {args : Array Value} {below : List Frame} {meth : Method} {co : Code} {D : va_G} {y : Nat → ClassId} {Q0 : State → Prop} {qx c k cells slots pc : Nat} {p : Nat → Bool} {U : Nat → Int32} {V : Nat → Nat → Int32} {N : Nat → ns_T} {H : Heap} {locs : List Loc} {ls : Array Slot} {rest : List Value} (X : cx p0 s m args meth co cL_law 11 ret RL D y) (hx : xs_s D y s.heap.size qx p c k U V N H) {r : Int32} (hT : m4_callCount (N 0).1 (N 0).2.1 (N 0).2.2.1 (N 0).2.2.2 = some r) (hl : ls.size = 11) (hW : (rest.map fun v => v.category).sum ≤ 8) (hdg : decode cL_law pc = .ok (.invokevirtual 19, 3)) (hc : cells ≤ 600000 ∧ slots ≤ 7302250) (kk : W p0 l e room_1 s m args below meth co H locs cells slots Q0 (F0 m (pc + 3) ls (.int r :: rest))) : W p0 l e room_1 s m args below meth co H locs cells slots Q0 (F0 m pc ls (.ref qx :: rest)) := by
  obtain ⟨P, ad, NB, h1, rfl, hP⟩ := hx
  exact af_R (rn_V (As := []) (rest := rest) X (c_X4_callCount l D y (ad 9 0) (ad 9 1) (ad 9 3) (ad 10 0) (ad 0) (NB 0) (N 0).1 (N 0).2.1 (N 0).2.2.1 (N 0).2.2.2 r hT) vq_L_19 ⟨rfl, rfl⟩ ⟨Nat.le_of_ble_eq_true rfl, Nat.le_of_ble_eq_true rfl⟩ (rec_4 X (tp_w hP)) ⟨tp_w hP, tp_n hP pz_0, tp_l hP pz_0⟩ rfl hl rfl hW hdg hc) kk
set_option maxRecDepth 100000 in
theorem lq_does {p0 : Program} {l : Launch} {e : Env} {s : State} {m : MethodId} {args : Array Value} {below : List Frame} {meth : Method} {co : Code} {D : va_G} {y : Nat → ClassId} {Q0 : State → Prop} {qx c k cells slots pc : Nat} {p : Nat → Bool} {U : Nat → Int32} {V : Nat → Nat → Int32} {N : Nat → ns_T} {H : Heap} {locs : List Loc} {ls : Array Slot} {rest : List Value} (X : cx p0 s m args meth co cL_law 11 ret RL D y) (hx : xs_s D y s.heap.size qx p c k U V N H) {v : Int32} {r : Int32} {c1 k1 : Nat} {U1 : Nat → Int32} {V1 : Nat → Nat → Int32} {N1 : Nat → ns_T} (hm : m4_does c k U V N v = some (r, c1, k1, U1, V1, N1)) (hS : va_S (fun q : Nat => s.heap.size ≤ q) s.heap H locs) (hl : ls.size = 11) (hW : (rest.map fun v => v.category).sum ≤ 8) (hdg : decode cL_law pc = .ok (.invokestatic 139, 3)) (hc : cells + 6 ≤ 600000 ∧ slots + 133 ≤ 7302250) (kk : ∀ (H1 : Heap) (locs1 : List Loc), xs_s D y s.heap.size qx p c1 k1 U1 V1 N1 H1 → va_S (fun q : Nat => s.heap.size ≤ q) s.heap H1 locs1 → W p0 l e room_1 s m args below meth co H1 locs1 (cells + 6) (slots + 133) Q0 (F0 m (pc + 3) ls (.int r :: rest))) : W p0 l e room_1 s m args below meth co H locs cells slots Q0 (F0 m pc ls (.int v :: .ref qx :: rest)) := by
  obtain ⟨P, ad, NB, h1, rfl, hP⟩ := hx
  refine af_W (mc := 6) (ms := 133) (rn_S (As := [.ref (ad 9 0), .int v]) (rest := rest) X (c_does l D y P ad NB p c k U V N v r c1 k1 U1 V1 N1 _ hm) sq_L_139 ⟨rfl, rfl⟩ ⟨Nat.le_of_ble_eq_true rfl, Nat.le_of_ble_eq_true rfl⟩ ⟨rfl, hP⟩ rfl hl rfl hW hdg hc) hS (in_P h1 hS.1) (fun H1 locs1 hw _ _ hS1 => ?_)
  obtain ⟨ad1, NB1, e9, hT⟩ := hw
  exact kk H1 locs1 (xs_W h1 hS.1 e9 hT) hS1
set_option maxRecDepth 100000 in
theorem lq_undo0 {p0 : Program} {l : Launch} {e : Env} {s : State} {m : MethodId} {args : Array Value} {below : List Frame} {meth : Method} {co : Code} {D : va_G} {y : Nat → ClassId} {Q0 : State → Prop} {qx k cells slots pc : Nat} {p : Nat → Bool} {U : Nat → Int32} {V : Nat → Nat → Int32} {N : Nat → ns_T} {H : Heap} {locs : List Loc} {ls : Array Slot} {rest : List Value} (X : cx p0 s m args meth co cL_law 11 ret RL D y) (hx : xs_s D y s.heap.size qx p 0 k U V N H) {r : Int32} {c1 k1 : Nat} {U1 : Nat → Int32} {V1 : Nat → Nat → Int32} {N1 : Nat → ns_T} (hm : m4_undo0 k U V N = some (r, c1, k1, U1, V1, N1)) (hS : va_S (fun q : Nat => s.heap.size ≤ q) s.heap H locs) (hl : ls.size = 11) (hW : (rest.map fun v => v.category).sum ≤ 8) (hdg : decode cL_law pc = .ok (.invokevirtual 125, 3)) (hc : cells + 0 ≤ 600000 ∧ slots + 0 ≤ 7302250) (kk : ∀ (H1 : Heap) (locs1 : List Loc), xs_s D y s.heap.size qx p c1 k1 U1 V1 N1 H1 → va_S (fun q : Nat => s.heap.size ≤ q) s.heap H1 locs1 → W p0 l e room_1 s m args below meth co H1 locs1 (cells + 0) (slots + 0) Q0 (F0 m (pc + 3) ls (.int r :: rest))) : W p0 l e room_1 s m args below meth co H locs cells slots Q0 (F0 m pc ls (.ref qx :: rest)) := by
  obtain ⟨P, ad, NB, h1, rfl, hP⟩ := hx
  refine af_W (mc := 0) (ms := 0) (rn_V (As := []) (rest := rest) X (c_undo0 l D y P ad NB p k U V N r c1 k1 U1 V1 N1 _ hm) vq_L_125 ⟨rfl, rfl⟩ ⟨Nat.le_of_ble_eq_true rfl, Nat.le_of_ble_eq_true rfl⟩ (rec_4 X (tp_w hP)) ⟨rfl, hP⟩ rfl hl rfl hW hdg hc) hS (in_P h1 hS.1) (fun H1 locs1 hw _ _ hS1 => ?_)
  obtain ⟨ad1, NB1, e9, hT⟩ := hw
  exact kk H1 locs1 (xs_W h1 hS.1 e9 hT) hS1
set_option maxRecDepth 100000 in
theorem lq_undo1 {p0 : Program} {l : Launch} {e : Env} {s : State} {m : MethodId} {args : Array Value} {below : List Frame} {meth : Method} {co : Code} {D : va_G} {y : Nat → ClassId} {Q0 : State → Prop} {qx c k cells slots pc : Nat} {p : Nat → Bool} {U : Nat → Int32} {V : Nat → Nat → Int32} {N : Nat → ns_T} {H : Heap} {locs : List Loc} {ls : Array Slot} {rest : List Value} (X : cx p0 s m args meth co cL_law 11 ret RL D y) (hx : xs_s D y s.heap.size qx p (c + 1) k U V N H) {r : Int32} {c1 k1 : Nat} {U1 : Nat → Int32} {V1 : Nat → Nat → Int32} {N1 : Nat → ns_T} (hm : m4_undo1 c k U V N = some (r, c1, k1, U1, V1, N1)) (hS : va_S (fun q : Nat => s.heap.size ≤ q) s.heap H locs) (hl : ls.size = 11) (hW : (rest.map fun v => v.category).sum ≤ 8) (hdg : decode cL_law pc = .ok (.invokevirtual 125, 3)) (hc : cells + 0 ≤ 600000 ∧ slots + 0 ≤ 7302250) (kk : ∀ (H1 : Heap) (locs1 : List Loc), xs_s D y s.heap.size qx p c1 k1 U1 V1 N1 H1 → va_S (fun q : Nat => s.heap.size ≤ q) s.heap H1 locs1 → W p0 l e room_1 s m args below meth co H1 locs1 (cells + 0) (slots + 0) Q0 (F0 m (pc + 3) ls (.int r :: rest))) : W p0 l e room_1 s m args below meth co H locs cells slots Q0 (F0 m pc ls (.ref qx :: rest)) := by
  obtain ⟨P, ad, NB, h1, rfl, hP⟩ := hx
  refine af_W (mc := 0) (ms := 0) (rn_V (As := []) (rest := rest) X (c_undo1 l D y P ad NB p c k U V N r c1 k1 U1 V1 N1 _ hm) vq_L_125 ⟨rfl, rfl⟩ ⟨Nat.le_of_ble_eq_true rfl, Nat.le_of_ble_eq_true rfl⟩ (rec_4 X (tp_w hP)) ⟨rfl, hP⟩ rfl hl rfl hW hdg hc) hS (in_P h1 hS.1) (fun H1 locs1 hw _ _ hS1 => ?_)
  obtain ⟨ad1, NB1, e9, hT⟩ := hw
  exact kk H1 locs1 (xs_W h1 hS.1 e9 hT) hS1
set_option maxRecDepth 100000 in
theorem lq_restoreN1 {p0 : Program} {l : Launch} {e : Env} {s : State} {m : MethodId} {args : Array Value} {below : List Frame} {meth : Method} {co : Code} {D : va_G} {y : Nat → ClassId} {Q0 : State → Prop} {qx c k cells slots pc : Nat} {p : Nat → Bool} {U : Nat → Int32} {V : Nat → Nat → Int32} {N : Nat → ns_T} {H : Heap} {locs : List Loc} {ls : Array Slot} {rest : List Value} (X : cx p0 s m args meth co cL_law 11 ret RL D y) (hx : xs_s D y s.heap.size qx p c k U V N H) {r : Int32} {c1 k1 : Nat} {U1 : Nat → Int32} {V1 : Nat → Nat → Int32} {N1 : Nat → ns_T} (hp : p 8 = false) (hm : m4_restoreN1 c k U V N = some (r, c1, k1, U1, V1, N1)) (hS : va_S (fun q : Nat => s.heap.size ≤ q) s.heap H locs) (hl : ls.size = 11) (hW : (rest.map fun v => v.category).sum ≤ 8) (hdg : decode cL_law pc = .ok (.invokevirtual 128, 3)) (hc : cells + 0 ≤ 600000 ∧ slots + 0 ≤ 7302250) (kk : ∀ (H1 : Heap) (locs1 : List Loc), xs_s D y s.heap.size qx p c1 k1 U1 V1 N1 H1 → va_S (fun q : Nat => s.heap.size ≤ q) s.heap H1 locs1 → W p0 l e room_1 s m args below meth co H1 locs1 (cells + 0) (slots + 0) Q0 (F0 m (pc + 3) ls (.int r :: rest))) : W p0 l e room_1 s m args below meth co H locs cells slots Q0 (F0 m pc ls (.int (1 : Int32) :: .ref qx :: rest)) := by
  obtain ⟨P, ad, NB, h1, rfl, hP⟩ := hx
  refine af_W (mc := 0) (ms := 0) (rn_V (As := [.int (1 : Int32)]) (rest := rest) X (c_restoreN1 l D y P ad NB p c k U V N r c1 k1 U1 V1 N1 _ hp hm) vq_L_128 ⟨rfl, rfl⟩ ⟨Nat.le_of_ble_eq_true rfl, Nat.le_of_ble_eq_true rfl⟩ (rec_4 X (tp_w hP)) ⟨rfl, hP⟩ rfl hl rfl hW hdg hc) hS (in_P h1 hS.1) (fun H1 locs1 hw _ _ hS1 => ?_)
  obtain ⟨ad1, NB1, e9, hT⟩ := hw
  exact kk H1 locs1 (xs_W h1 hS.1 e9 hT) hS1
set_option maxRecDepth 100000 in
theorem lq_restoreS0 {p0 : Program} {l : Launch} {e : Env} {s : State} {m : MethodId} {args : Array Value} {below : List Frame} {meth : Method} {co : Code} {D : va_G} {y : Nat → ClassId} {Q0 : State → Prop} {qx c k cells slots pc : Nat} {p : Nat → Bool} {U : Nat → Int32} {V : Nat → Nat → Int32} {N : Nat → ns_T} {H : Heap} {locs : List Loc} {ls : Array Slot} {rest : List Value} (X : cx p0 s m args meth co cL_law 11 ret RL D y) (hx : xs_s D y s.heap.size qx p c k U V N H) {r : Int32} {c1 k1 : Nat} {U1 : Nat → Int32} {V1 : Nat → Nat → Int32} {N1 : Nat → ns_T} (hp : p 7 = true) (hm : m4_restoreS0 c k U V N = some (r, c1, k1, U1, V1, N1)) (hS : va_S (fun q : Nat => s.heap.size ≤ q) s.heap H locs) (hl : ls.size = 11) (hW : (rest.map fun v => v.category).sum ≤ 8) (hdg : decode cL_law pc = .ok (.invokevirtual 128, 3)) (hc : cells + 0 ≤ 600000 ∧ slots + 0 ≤ 7302250) (kk : ∀ (H1 : Heap) (locs1 : List Loc), xs_s D y s.heap.size qx p c1 k1 U1 V1 N1 H1 → va_S (fun q : Nat => s.heap.size ≤ q) s.heap H1 locs1 → W p0 l e room_1 s m args below meth co H1 locs1 (cells + 0) (slots + 0) Q0 (F0 m (pc + 3) ls (.int r :: rest))) : W p0 l e room_1 s m args below meth co H locs cells slots Q0 (F0 m pc ls (.int (0 : Int32) :: .ref qx :: rest)) := by
  obtain ⟨P, ad, NB, h1, rfl, hP⟩ := hx
  refine af_W (mc := 0) (ms := 0) (rn_V (As := [.int (0 : Int32)]) (rest := rest) X (c_restoreS0 l D y P ad NB p c k U V N r c1 k1 U1 V1 N1 _ hp hm) vq_L_128 ⟨rfl, rfl⟩ ⟨Nat.le_of_ble_eq_true rfl, Nat.le_of_ble_eq_true rfl⟩ (rec_4 X (tp_w hP)) ⟨rfl, hP⟩ rfl hl rfl hW hdg hc) hS (in_P h1 hS.1) (fun H1 locs1 hw _ _ hS1 => ?_)
  obtain ⟨ad1, NB1, e9, hT⟩ := hw
  exact kk H1 locs1 (xs_W h1 hS.1 e9 hT) hS1
set_option maxRecDepth 100000 in
theorem lq_saveN0 {p0 : Program} {l : Launch} {e : Env} {s : State} {m : MethodId} {args : Array Value} {below : List Frame} {meth : Method} {co : Code} {D : va_G} {y : Nat → ClassId} {Q0 : State → Prop} {qx c k cells slots pc : Nat} {p : Nat → Bool} {U : Nat → Int32} {V : Nat → Nat → Int32} {N : Nat → ns_T} {H : Heap} {locs : List Loc} {ls : Array Slot} {rest : List Value} (X : cx p0 s m args meth co cL_law 11 ret RL D y) (hx : xs_s D y s.heap.size qx p c k U V N H) {r : Int32} {c1 k1 : Nat} {U1 : Nat → Int32} {V1 : Nat → Nat → Int32} {N1 : Nat → ns_T} (hp : p 7 = false) (hm : m4_saveN0 c k U V N = some (r, c1, k1, U1, V1, N1)) (hS : va_S (fun q : Nat => s.heap.size ≤ q) s.heap H locs) (hl : ls.size = 11) (hW : (rest.map fun v => v.category).sum ≤ 8) (hdg : decode cL_law pc = .ok (.invokevirtual 147, 3)) (hc : cells + 5 ≤ 600000 ∧ slots + 220 ≤ 7302250) (kk : ∀ (H1 : Heap) (locs1 : List Loc), xs_s D y s.heap.size qx (va_up p 7 true) c1 k1 U1 V1 N1 H1 → va_S (fun q : Nat => s.heap.size ≤ q) s.heap H1 locs1 → W p0 l e room_1 s m args below meth co H1 locs1 (cells + 5) (slots + 220) Q0 (F0 m (pc + 3) ls (.int r :: rest))) : W p0 l e room_1 s m args below meth co H locs cells slots Q0 (F0 m pc ls (.int (0 : Int32) :: .ref qx :: rest)) := by
  obtain ⟨P, ad, NB, h1, rfl, hP⟩ := hx
  refine af_W (mc := 5) (ms := 220) (rn_V (As := [.int (0 : Int32)]) (rest := rest) X (c_saveN0 l D y P ad NB p c k U V N r c1 k1 U1 V1 N1 _ hp hm) vq_L_147 ⟨rfl, rfl⟩ ⟨Nat.le_of_ble_eq_true rfl, Nat.le_of_ble_eq_true rfl⟩ (rec_4 X (tp_w hP)) ⟨rfl, hP⟩ rfl hl rfl hW hdg hc) hS (in_P h1 hS.1) (fun H1 locs1 hw _ _ hS1 => ?_)
  obtain ⟨ad1, NB1, e9, hT⟩ := hw
  exact kk H1 locs1 (xs_W h1 hS.1 e9 hT) hS1
set_option maxRecDepth 100000 in
theorem lq_endCall {p0 : Program} {l : Launch} {e : Env} {s : State} {m : MethodId} {args : Array Value} {below : List Frame} {meth : Method} {co : Code} {D : va_G} {y : Nat → ClassId} {Q0 : State → Prop} {qx c k cells slots pc : Nat} {p : Nat → Bool} {U : Nat → Int32} {V : Nat → Nat → Int32} {N : Nat → ns_T} {H : Heap} {locs : List Loc} {ls : Array Slot} {rest : List Value} (X : cx p0 s m args meth co cL_law 11 ret RL D y) (hx : xs_s D y s.heap.size qx p c k U V N H) {v : Int32} {r : Int32} {c1 k1 : Nat} {U1 : Nat → Int32} {V1 : Nat → Nat → Int32} {N1 : Nat → ns_T} (hm : m4_endCall c k U V N v = some (r, c1, k1, U1, V1, N1)) (hS : va_S (fun q : Nat => s.heap.size ≤ q) s.heap H locs) (hl : ls.size = 11) (hW : (rest.map fun v => v.category).sum ≤ 8) (hdg : decode cL_law pc = .ok (.invokevirtual 103, 3)) (hc : cells + 0 ≤ 600000 ∧ slots + 0 ≤ 7302250) (kk : ∀ (H1 : Heap) (locs1 : List Loc), xs_s D y s.heap.size qx p c1 k1 U1 V1 N1 H1 → va_S (fun q : Nat => s.heap.size ≤ q) s.heap H1 locs1 → W p0 l e room_1 s m args below meth co H1 locs1 (cells + 0) (slots + 0) Q0 (F0 m (pc + 3) ls (.int r :: rest))) : W p0 l e room_1 s m args below meth co H locs cells slots Q0 (F0 m pc ls (.int v :: .ref qx :: rest)) := by
  obtain ⟨P, ad, NB, h1, rfl, hP⟩ := hx
  refine af_W (mc := 0) (ms := 0) (rn_V (As := [.int v]) (rest := rest) X (c_X4_endCall l D y P ad NB p c k U V N v r c1 k1 U1 V1 N1 _ hm) vq_L_103 ⟨rfl, rfl⟩ ⟨Nat.le_of_ble_eq_true rfl, Nat.le_of_ble_eq_true rfl⟩ (rec_4 X (tp_w hP)) ⟨rfl, hP⟩ rfl hl rfl hW hdg hc) hS (in_P h1 hS.1) (fun H1 locs1 hw _ _ hS1 => ?_)
  obtain ⟨NB1, hT⟩ := hw
  exact kk H1 locs1 (xs_W h1 hS.1 rfl hT) hS1
set_option maxRecDepth 100000 in
theorem lq_configure {p0 : Program} {l : Launch} {e : Env} {s : State} {m : MethodId} {args : Array Value} {below : List Frame} {meth : Method} {co : Code} {D : va_G} {y : Nat → ClassId} {Q0 : State → Prop} {qx c k cells slots pc : Nat} {p : Nat → Bool} {U : Nat → Int32} {V : Nat → Nat → Int32} {N : Nat → ns_T} {H : Heap} {locs : List Loc} {ls : Array Slot} {rest : List Value} (X : cx p0 s m args meth co cL_law 11 ret RL D y) (hx : xs_s D y s.heap.size qx p c k U V N H) {a1 a2 a3 a4 : Int32} {r : Int32} {c1 k1 : Nat} {U1 : Nat → Int32} {V1 : Nat → Nat → Int32} {N1 : Nat → ns_T} (hm : m4_configure c k U V N a1 a2 a3 a4 = some (r, c1, k1, U1, V1, N1)) (hS : va_S (fun q : Nat => s.heap.size ≤ q) s.heap H locs) (hl : ls.size = 11) (hW : (rest.map fun v => v.category).sum ≤ 8) (hdg : decode cL_law pc = .ok (.invokevirtual 90, 3)) (hc : cells + 6 ≤ 600000 ∧ slots + 133 ≤ 7302250) (kk : ∀ (H1 : Heap) (locs1 : List Loc), xs_s D y s.heap.size qx p c1 k1 U1 V1 N1 H1 → va_S (fun q : Nat => s.heap.size ≤ q) s.heap H1 locs1 → W p0 l e room_1 s m args below meth co H1 locs1 (cells + 6) (slots + 133) Q0 (F0 m (pc + 3) ls (.int r :: rest))) : W p0 l e room_1 s m args below meth co H locs cells slots Q0 (F0 m pc ls (.int a4 :: .int a3 :: .int a2 :: .int a1 :: .ref qx :: rest)) := by
  obtain ⟨P, ad, NB, h1, rfl, hP⟩ := hx
  refine af_W (mc := 6) (ms := 133) (rn_V (As := [.int a1, .int a2, .int a3, .int a4]) (rest := rest) X (c_configure l D y P ad NB p c k U V N a1 a2 a3 a4 r c1 k1 U1 V1 N1 _ hm) vq_L_90 ⟨rfl, rfl⟩ ⟨Nat.le_of_ble_eq_true rfl, Nat.le_of_ble_eq_true rfl⟩ (rec_4 X (tp_w hP)) ⟨rfl, hP⟩ rfl hl rfl hW hdg hc) hS (in_P h1 hS.1) (fun H1 locs1 hw _ _ hS1 => ?_)
  obtain ⟨ad1, NB1, e9, hT⟩ := hw
  exact kk H1 locs1 (xs_W h1 hS.1 e9 hT) hS1
set_option maxRecDepth 100000 in
theorem lq_cell {p0 : Program} {l : Launch} {e : Env} {s : State} {m : MethodId} {args : Array Value} {below : List Frame} {meth : Method} {co : Code} {D : va_G} {y : Nat → ClassId} {Q0 : State → Prop} {cells slots pc : Nat} {H : Heap} {locs : List Loc} {ls : Array Slot} {rest : List Value} (X : cx p0 s m args meth co cL_law 11 ret RL D y) {b L t : Nat} {xs : Nat → Int32} (hX : va_X b L xs s s.heap) (hbl : b < s.heap.size) (ht : t < 1000) (hL : L ≤ 260) (hS : va_S (fun q : Nat => s.heap.size ≤ q) s.heap H locs) (hl : ls.size = 11) (hW : (rest.map fun v => v.category).sum ≤ 8) (hdg : decode cL_law pc = .ok (.invokestatic 131, 3)) (hc : cells ≤ 600000 ∧ slots ≤ 7302250) (kk : W p0 l e room_1 s m args below meth co H locs cells slots Q0 (F0 m (pc + 3) ls (.int (cl_v L xs (nI t)) :: rest))) : W p0 l e room_1 s m args below meth co H locs cells slots Q0 (F0 m pc ls (.int (nI t) :: .ref b :: rest)) := by
  have hG : GoodIn wsL_law (va_wsS RL 131 yL_cell (wy_s yL_cell cL_cell 2 (some .int))) := wy_app (fun w h => by
    simp only [List.mem_cons, List.not_mem_nil, or_false] at h
    rcases h with rfl | rfl | rfl
    · exact sq_L_131.1
    · exact sq_L_131.2.1
    · exact sq_L_131.2.2.1) (wy_in sq_L_131.2.2.2.1)
  have hbA : ¬ s.heap.size ≤ b := by omega
  have hXH : va_X b L xs s H := va_X.kept hX (hS.2.1 b hbl hbA)
  have hbH : b < H.size := Nat.lt_of_lt_of_le hbl hS.1
  refine af_R (arr := ([.ref b, .int (nI t)] : List Value).toArray) ?_ kk
  exact va_runS (cx_F X) (c_L_cell l D y b L t xs ht hL) (va_cwS 2 (cx_w X) hG rfl rfl rfl sq_L_131.2.2.2.2 ⟨Nat.le_of_ble_eq_true rfl, Nat.le_of_ble_eq_true rfl⟩) ⟨pcX_blind, fun U hU hW => ⟨rfl, ⟨by rw [hU]; exact va_X.moved hW.alike hXH, by rw [hU]; exact hbH⟩, kk_warm hW (cx_K X)⟩⟩ rfl rfl hl rfl (lv_room hW) hdg hc
