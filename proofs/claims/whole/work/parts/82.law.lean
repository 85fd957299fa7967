/-! THE CLAIM OUT OF ONE WALK OF THE LAW'S BODY. Your part is whole_start (and what it stands on); all else here is the same for every law, but numbers. -/
def R_law : String := "ChannelBorrowerLaw"
def lw_P (b : Addr) (xs : List Int32) (args : Array Value) (s : State) : Prop := args = #[.ref b] ∧ s.IntsAt b xs ∧ xs.length ≤ 2560 ∧ (Jvm.Cond.and given_1 narrow_1).before args s = true
def lw_Q (_ : Array Value) (s : State) (o : Outcome) (t : State) : Prop := o = .returned (some (.int 1)) ∧ Framed s o t [] 600000 7302250
def lw_Z (below : List Frame) (a : Array Value) (s : State) : State → Prop := fun t => ∃ o, t.status = .running ∧ Ended t below o ∧ lw_Q a s o t
/-- the law's own end, with 1 on the stack, nothing written that was there before, its room as the claim has it -/
theorem lw_ret {p : Program} {l : Launch} {e : Env} {s : State} {m : MethodId} {below : List Frame} {meth : Method} {c : Code} {b : Nat} (hx : p.tables.exec = Jvm.exec) (hb : c.code = code) (hr : meth.sig.returnType = ret) (hlocks : meth.locks = false) {pc : Nat} {H : Heap} {ls : Array Slot} (hdg : decode code pc = .ok (.ireturn, 1)) : W p l e room_1 s m #[Value.ref b] below meth c H [] 600000 7302250 (lw_Z below #[Value.ref b] s) (F0 m pc ls [.int 1]) := by
  intro T hT X
  obtain ⟨fs, hret, hrun, hended, hW, hframe⟩ := X.leave (v := some (.int 1)) (hlocks := hlocks) (fun h => by rw [hr] at h; cases h)
  have hmeth' : T.vm.method? m = some meth := X.method'
  refine ⟨T.setFrames fs, ?_, .returned (some (.int 1)), hrun, hended, rfl, ⟨_, rfl⟩, hW, hframe⟩
  jvm_step X.here [X.here.top, hx, hb, hdg, hmeth', hr, ret, narrow_b1]
  (try refine ⟨rfl, ?_⟩); (try refine ⟨rfl, ?_⟩)
  first | (intro acts; rw [hret _ acts rfl rfl rfl]) | rw [hret _ _ rfl rfl rfl]
  exact Steps.refl _
/-- what holds at the law's entry: the machine, the code, the tables' words (any of lw_tbl by 'hts w (by decide +kernel)'), the script of L ints xs at the cell b, what the Statement gives of the start (any of its parts by flat_of_before) -/
def lw_At (p : Program) (s : State) (m : MethodId) (meth : Method) (c : Code) (b L : Nat) (xs : Nat → Int32) : Prop :=
  p.tables.exec = Jvm.exec ∧ c.code = code ∧ meth.sig.returnType = ret ∧ c.maxLocals = 4 ∧ s.vm.findClass R_law = some m.cls ∧ (∀ w ∈ lw_tbl, w.before #[Value.ref b] s = true) ∧ va_X b L xs s s.heap ∧ b < s.heap.size ∧ meth.locks = false ∧ (Jvm.Cond.and given_1 narrow_1).before #[Value.ref b] s = true
theorem kk_start {s : State} {args : Array Value} (hts : ∀ w ∈ lw_tbl, w.before args s = true) : ∃ (D : va_G) (y : Nat → ClassId), kk_K D y s := by
  have hw : ∀ w ∈ wsL_law, w.before args s = true := fun w h => hts w (wsL_law_in w h)
  obtain ⟨c0, i0, k0⟩ := u_known (C := RX0) (T := TX0) (N := 3) (n := 3) hw inlX0 (hw _ qw_20)
  obtain ⟨c1, i1, k1⟩ := u_known (C := RX1) (T := TX1) (N := 8) (n := 8) hw inlX1 (hw _ qw_13)
  obtain ⟨c2, i2, k2⟩ := u_known (C := RX2) (T := TX2) (N := 15) (n := 15) hw inlX2 (hw _ qw_16)
  obtain ⟨c3, i3, k3⟩ := u_known (C := RX3) (T := TX3) (N := 7) (n := 7) hw inlX3 (hw _ qw_25)
  obtain ⟨c4, i4, k4⟩ := u_known (C := RX4) (T := TX4) (N := 4) (n := 4) hw inlX4 (hw _ qw_1)
  obtain ⟨c5, i5, k5⟩ := u_known (C := RX5) (T := TX5) (N := 11) (n := 11) hw inlX5 (hw _ qw_4)
  obtain ⟨yI, kI, pI, a1, a2, a3⟩ := Cond.arrayClass_spec (hw _ qw_32)
  obtain ⟨yB, kB, pB, b1, b2, b3⟩ := Cond.arrayClass_spec (hw _ qw_116)
  obtain ⟨yZ, kZ, pZ, z1, z2, z3⟩ := Cond.arrayClass_spec (hw _ qw_114)
  obtain ⟨cO, yO, kO, o1, -, o2, o3, o4⟩ := Cond.arrayOver_spec (hts _ wl_ao)
  refine ⟨(fun k => if k = 0 then c0 else if k = 1 then c1 else if k = 2 then c2 else if k = 3 then c3 else if k = 4 then c4 else c5, fun k => if k = 0 then i0 else if k = 1 then i1 else if k = 2 then i2 else if k = 3 then i3 else if k = 4 then i4 else i5), fun k => if k = 0 then yI else if k = 1 then yB else if k = 2 then yZ else yO, ⟨fun k q hq => ?_, fun k q hq => ?_⟩, fun w h => ?_, hts _ wl_ao⟩
  · match k, hq with
    | 0, hq => cases hq; exact k0
    | 1, hq => cases hq; exact k1
    | 2, hq => cases hq; exact k2
    | 3, hq => cases hq; exact k3
    | 4, hq => cases hq; exact k4
    | 5, hq => cases hq; exact k5
    | k + 6, hq => cases hq
  · match k, hq with
    | 0, hq => cases hq; exact ⟨fun n z => ⟨fun k h => (by cases h), kI, a2, pI, a3⟩, a1⟩
    | 1, hq => cases hq; exact ⟨fun n z => ⟨fun k h => (by cases h), kB, b2, pB, b3⟩, b1⟩
    | 2, hq => cases hq; exact ⟨fun n z => ⟨fun k h => (by cases h), kZ, z2, pZ, z3⟩, z1⟩
    | 3, hq => cases hq; exact ⟨fun n z => ⟨fun k h => (by cases h), kO, o2, cO, o3⟩, kO, cO, o2, o3, o1, o4⟩
    | k + 4, hq => cases hq
  · have h1 := hts w (wl_nw w h)
    simp only [nw_l, List.mem_cons, List.not_mem_nil, or_false] at h
    rcases h with rfl | rfl | rfl | rfl | rfl | rfl | rfl <;> exact va_Nw.of rfl h1
theorem tp_shr {D : va_G} {y : Nat → ClassId} {P : Nat → Prop} {ad NB : Nat → Nat → Nat} {p : Nat → Bool} {h : Nat → Int32} {U : Nat → Int32} {V : Nat → Nat → Int32} {N : Nat → ns_T} {H : Heap} (T : tp_e D y P ad NB p h U V N H) : tp_e D y (fun q => P q ∧ q < H.size) ad NB p h U V N H :=
  ⟨T.1, fun i j hv => ⟨T.2.1 i j hv, tp_lt T i j hv⟩, fun i k hi hk => ⟨⟨(T.2.2.1 i k hi hk).1, tp_ltB T i k hi hk⟩, (T.2.2.1 i k hi hk).2⟩, T.2.2.2⟩
set_option maxHeartbeats 8000000 in
set_option maxRecDepth 100000 in
/-- the law's loop -/
theorem law_loop {p0 : Program} {l : Launch} {e : Env} {s : State} {m : MethodId} {below : List Frame} {meth : Method} {co : Code} {D : va_G} {y : Nat → ClassId} {b L : Nat} {xs : Nat → Int32} {A : Nat → Nat} {qx : Nat} (hx0 : p0.tables.exec = Jvm.exec) (hb0 : co.code = code) (hr0 : meth.sig.returnType = ret) (hlocks : meth.locks = false) (X : cx p0 s m #[Value.ref b] meth co cL_law 4 ret RL D y) (hX : va_X b L xs s s.heap) (hbl : b < s.heap.size) (hI : aj_s 7 A) (hAs : ∀ j, j < 7 → s.heap.size ≤ A j) (hL : L ≤ 2560) :
    ∀ (n t : Nat), t + n = 513 → 5 * t ≤ L → ∀ (p : Nat → Bool) (c k : Nat) (U : Nat → Int32) (V : Nat → Nat → Int32) (N : Nat → ns_T) (F : Nat → Int32) (R : Nat → Nat → Int32) (H : Heap) (locs : List Loc), xs_s D y s.heap.size qx A p c k U V N H → va_P D vwCl (w5_s y A F R) H → rl_s p c k U V N F R → va_S (fun q : Nat => s.heap.size ≤ q) s.heap H locs → ∀ (ls : Array Slot), lv_has ls 4 [(0, .ref b), (1, .ref qx), (2, .ref (A 0)), (3, .int (nI (5 * t)))] → W p0 l e room_1 s m #[Value.ref b] below meth co H locs (100 + 6 * t) (4000 + 220 * t) (lw_Z below #[Value.ref b] s) (F0 m 18 ls []) := by
  have hbA : ¬ (fun q : Nat => s.heap.size ≤ q) b := Nat.not_le.mpr hbl
  intro n
  induction n with
  | zero =>
    intro t h1 h2
    exact absurd h2 (by omega)
  | succ n ih =>
    intro t h1 h2 p c k U V N F R H locs hx hM hrel hS ls hl
    refine lv_iload_n (cx_x X) (cx_b X) dL_law_18 rfl (lv_at hl 3 rfl) ?_
    refine lv_aload_n (cx_x X) (cx_b X) dL_law_19 rfl (lv_at hl 0 rfl) ?_
    refine va_slen (cx_x X) (cx_b X) hX hbl hbA hS dL_law_20 ?_
    refine lv_iconst (v := (5 : Int32)) (cx_x X) (cx_b X) dL_law_21 (by decide) ?_
    refine lv_isub (cx_x X) (cx_b X) dL_law_22 ?_
    have cmp : ((Int32.ofNat L - 5) < nI (5 * t)) ↔ L < 5 * t + 5 := by
      have e1 : (Int32.ofNat L - (5 : Int32)).toInt = (L : Int) - 5 := pk_sub_toInt (a := L) (b := 5) (by omega) (by decide)
      have e2 : (nI (5 * t)).toInt = ((5 * t : Nat) : Int) := nI_toInt (by omega)
      rw [Int32.lt_iff_toInt_lt, e1, e2]
      omega
    refine lv_icmp_gt (tgt := 1020) (cx_x X) (cx_b X) dL_law_23 (by decide) (fun hc => ?_) (fun hc => ?_)
    · refine lv_iconst (v := (1 : Int32)) (cx_x X) (cx_b X) dL_law_1020 (by decide) ?_
      refine va_forget (fun q hq => hS.2.2 q hq) ?_
      refine W.widen (k := 600000) (n := 7302250) (by omega) (by omega) ?_
      exact lw_ret hx0 hb0 hr0 hlocks dL_law_1021
    · have hlt : 5 * t + 5 ≤ L := by
        rcases Nat.lt_or_ge L (5 * t + 5) with q | q
        · exact absurd (cmp.mpr q) hc
        · exact q
      have h_i : vp_in (nI (5 * t)) L := vp_in_nI (by omega) (by omega)
      refine lv_aload_n (cx_x X) (cx_b X) dL_law_26 rfl (lv_at hl 0 rfl) ?_
      refine lv_iload_n (cx_x X) (cx_b X) dL_law_27 rfl (lv_at hl 3 rfl) ?_
      refine va_sld (cx_x X) (cx_b X) hX hbl hbA hS h_i dL_law_28 ?_
      refine lv_bipush (v := (63 : Int32)) (cx_x X) (cx_b X) dL_law_29 (by decide) ?_
      refine lv_iand (cx_x X) (cx_b X) dL_law_31 ?_
      have K : ∀ (p : Nat → Bool) (c k : Nat) (U : Nat → Int32) (V : Nat → Nat → Int32) (N : Nat → ns_T) (F : Nat → Int32) (R : Nat → Nat → Int32) (H : Heap) (locs : List Loc), xs_s D y s.heap.size qx A p c k U V N H → va_P D vwCl (w5_s y A F R) H → rl_s p c k U V N F R → va_S (fun q : Nat => s.heap.size ≤ q) s.heap H locs → ∀ ls, lv_has ls 4 [(0, .ref b), (1, .ref qx), (2, .ref (A 0)), (3, .int (nI (5 * t)))] → W p0 l e room_1 s m #[Value.ref b] below meth co H locs (100 + 6 * (t + 1)) (4000 + 220 * (t + 1)) (lw_Z below #[Value.ref b] s) (F0 m 1014 ls []) := by
        intro p c k U V N F R H locs hx hM hrel hS ls hl
        refine lv_iinc (v := nI (5 * (t + 1))) (lv' := [(3, .int (nI (5 * (t + 1)))), (0, .ref b), (1, .ref qx), (2, .ref (A 0))]) (cx_x X) (cx_b X) dL_law_1014 hl (k := 3) rfl (nI_add (5 * t) 5) (by decide) rfl (fun ls hl => ?_)
        refine lv_goto (tgt := 18) (cx_x X) (cx_b X) dL_law_1017 (by decide) ?_
        exact ih (t + 1) (by omega) (by omega) p c k U V N F R H locs hx hM hrel hS ls (lv_sub hl [1, 2, 3, 0] rfl)
      obtain ⟨j, hj, ej⟩ := pk_andE (xs (nI (5 * t)).toNatClampNeg) (m := 63) 6 (by decide)
      rw [ej]
      rcases (show j = 0 ∨ j = 1 ∨ j = 2 ∨ j = 3 ∨ j = 4 ∨ j = 5 ∨ j = 6 ∨ j = 7 ∨ j = 8 ∨ j = 9 ∨ j = 10 ∨ j = 11 ∨ j = 12 ∨ j = 13 ∨ j = 14 ∨ j = 15 ∨ j = 16 ∨ j = 17 ∨ j = 18 ∨ j = 19 ∨ j = 20 ∨ j = 21 ∨ j = 22 ∨ j = 23 ∨ j = 24 ∨ j = 25 ∨ j = 26 ∨ j = 27 ∨ j = 28 ∨ j = 29 ∨ j = 30 ∨ j = 31 ∨ j = 32 ∨ j = 33 ∨ j = 34 ∨ j = 35 ∨ j = 36 ∨ j = 37 ∨ 38 ≤ j by omega) with rfl | rfl | rfl | rfl | rfl | rfl | rfl | rfl | rfl | rfl | rfl | rfl | rfl | rfl | rfl | rfl | rfl | rfl | rfl | rfl | rfl | rfl | rfl | rfl | rfl | rfl | rfl | rfl | rfl | rfl | rfl | rfl | rfl | rfl | rfl | rfl | rfl | rfl | hj38
      · refine lv_tableIn (off := 168) (tgt := 200) (cx_x X) (cx_b X) dL_law_32 (by decide +kernel) (by decide +kernel) rfl (by decide) ?_
        exact lc_0 X hX hbl hI hAs (by omega) rfl hlt hL K hx hM hrel hS hl
      · refine lv_tableIn (off := 221) (tgt := 253) (cx_x X) (cx_b X) dL_law_32 (by decide +kernel) (by decide +kernel) rfl (by decide) ?_
        exact lc_1 X hX hbl hI hAs (by omega) rfl hlt hL K hx hM hrel hS hl
      · refine lv_tableIn (off := 244) (tgt := 276) (cx_x X) (cx_b X) dL_law_32 (by decide +kernel) (by decide +kernel) rfl (by decide) ?_
        exact lc_2 X hX hbl hI hAs (by omega) rfl hlt hL K hx hM hrel hS hl
      · refine lv_tableIn (off := 267) (tgt := 299) (cx_x X) (cx_b X) dL_law_32 (by decide +kernel) (by decide +kernel) rfl (by decide) ?_
        exact lc_3 X hX hbl hI hAs (by omega) rfl hlt hL K hx hM hrel hS hl
      · refine lv_tableIn (off := 290) (tgt := 322) (cx_x X) (cx_b X) dL_law_32 (by decide +kernel) (by decide +kernel) rfl (by decide) ?_
        exact lc_4 X hX hbl hI hAs (by omega) rfl hlt hL K hx hM hrel hS hl
      · refine lv_tableIn (off := 303) (tgt := 335) (cx_x X) (cx_b X) dL_law_32 (by decide +kernel) (by decide +kernel) rfl (by decide) ?_
        exact lc_5 X hX hbl hI hAs (by omega) rfl hlt hL K hx hM hrel hS hl
      · refine lv_tableIn (off := 316) (tgt := 348) (cx_x X) (cx_b X) dL_law_32 (by decide +kernel) (by decide +kernel) rfl (by decide) ?_
        exact lc_6 X hX hbl hI hAs (by omega) rfl hlt hL K hx hM hrel hS hl
      · refine lv_tableIn (off := 339) (tgt := 371) (cx_x X) (cx_b X) dL_law_32 (by decide +kernel) (by decide +kernel) rfl (by decide) ?_
        exact lc_7 X hX hbl hI hAs (by omega) rfl hlt hL K hx hM hrel hS hl
      · refine lv_tableIn (off := 372) (tgt := 404) (cx_x X) (cx_b X) dL_law_32 (by decide +kernel) (by decide +kernel) rfl (by decide) ?_
        exact lc_8 X hX hbl hI hAs (by omega) rfl hlt hL K hx hM hrel hS hl
      · refine lv_tableIn (off := 395) (tgt := 427) (cx_x X) (cx_b X) dL_law_32 (by decide +kernel) (by decide +kernel) rfl (by decide) ?_
        exact lc_9 X hX hbl hI hAs (by omega) rfl hlt hL K hx hM hrel hS hl
      · refine lv_tableIn (off := 418) (tgt := 450) (cx_x X) (cx_b X) dL_law_32 (by decide +kernel) (by decide +kernel) rfl (by decide) ?_
        exact lc_10 X hX hbl hI hAs (by omega) rfl hlt hL K hx hM hrel hS hl
      · refine lv_tableIn (off := 451) (tgt := 483) (cx_x X) (cx_b X) dL_law_32 (by decide +kernel) (by decide +kernel) rfl (by decide) ?_
        exact lc_11 X hX hbl hI hAs (by omega) rfl hlt hL K hx hM hrel hS hl
      · refine lv_tableIn (off := 474) (tgt := 506) (cx_x X) (cx_b X) dL_law_32 (by decide +kernel) (by decide +kernel) rfl (by decide) ?_
        exact lc_12 X hX hbl hI hAs (by omega) rfl hlt hL K hx hM hrel hS hl
      · refine lv_tableIn (off := 497) (tgt := 529) (cx_x X) (cx_b X) dL_law_32 (by decide +kernel) (by decide +kernel) rfl (by decide) ?_
        exact lc_13 X hX hbl hI hAs (by omega) rfl hlt hL K hx hM hrel hS hl
      · refine lv_tableIn (off := 520) (tgt := 552) (cx_x X) (cx_b X) dL_law_32 (by decide +kernel) (by decide +kernel) rfl (by decide) ?_
        exact lc_14 X hX hbl hI hAs (by omega) rfl hlt hL K hx hM hrel hS hl
      · refine lv_tableIn (off := 543) (tgt := 575) (cx_x X) (cx_b X) dL_law_32 (by decide +kernel) (by decide +kernel) rfl (by decide) ?_
        exact lc_15 X hX hbl hI hAs (by omega) rfl hlt hL K hx hM hrel hS hl
      · refine lv_tableIn (off := 576) (tgt := 608) (cx_x X) (cx_b X) dL_law_32 (by decide +kernel) (by decide +kernel) rfl (by decide) ?_
        exact lc_16 X hX hbl hI hAs (by omega) rfl hlt hL K hx hM hrel hS hl
      · refine lv_tableIn (off := 609) (tgt := 641) (cx_x X) (cx_b X) dL_law_32 (by decide +kernel) (by decide +kernel) rfl (by decide) ?_
        exact lc_17 X hX hbl hI hAs (by omega) rfl hlt hL K hx hM hrel hS hl
      · refine lv_tableIn (off := 642) (tgt := 674) (cx_x X) (cx_b X) dL_law_32 (by decide +kernel) (by decide +kernel) rfl (by decide) ?_
        exact lc_18 X hX hbl hI hAs (by omega) rfl hlt hL K hx hM hrel hS hl
      · refine lv_tableIn (off := 665) (tgt := 697) (cx_x X) (cx_b X) dL_law_32 (by decide +kernel) (by decide +kernel) rfl (by decide) ?_
        exact lc_19 X hX hbl hI hAs (by omega) rfl hlt hL K hx hM hrel hS hl
      · refine lv_tableIn (off := 688) (tgt := 720) (cx_x X) (cx_b X) dL_law_32 (by decide +kernel) (by decide +kernel) rfl (by decide) ?_
        exact lc_20 X hX hbl hI hAs (by omega) rfl hlt hL K hx hM hrel hS hl
      · refine lv_tableIn (off := 711) (tgt := 743) (cx_x X) (cx_b X) dL_law_32 (by decide +kernel) (by decide +kernel) rfl (by decide) ?_
        exact lc_21 X hX hbl hI hAs (by omega) rfl hlt hL K hx hM hrel hS hl
      · refine lv_tableIn (off := 734) (tgt := 766) (cx_x X) (cx_b X) dL_law_32 (by decide +kernel) (by decide +kernel) rfl (by decide) ?_
        exact lc_22 X hX hbl hI hAs (by omega) rfl hlt hL K hx hM hrel hS hl
      · refine lv_tableIn (off := 757) (tgt := 789) (cx_x X) (cx_b X) dL_law_32 (by decide +kernel) (by decide +kernel) rfl (by decide) ?_
        exact lc_23 X hX hbl hI hAs (by omega) rfl hlt hL K hx hM hrel hS hl
      · refine lv_tableIn (off := 770) (tgt := 802) (cx_x X) (cx_b X) dL_law_32 (by decide +kernel) (by decide +kernel) rfl (by decide) ?_
        exact lc_24 X hX hbl hI hAs (by omega) rfl hlt hL K hx hM hrel hS hl
      · refine lv_tableIn (off := 783) (tgt := 815) (cx_x X) (cx_b X) dL_law_32 (by decide +kernel) (by decide +kernel) rfl (by decide) ?_
        exact lc_25 X hX hbl hI hAs (by omega) rfl hlt hL K hx hM hrel hS hl
      · refine lv_tableIn (off := 796) (tgt := 828) (cx_x X) (cx_b X) dL_law_32 (by decide +kernel) (by decide +kernel) rfl (by decide) ?_
        exact lc_26 X hX hbl hI hAs (by omega) rfl hlt hL K hx hM hrel hS hl
      · refine lv_tableIn (off := 809) (tgt := 841) (cx_x X) (cx_b X) dL_law_32 (by decide +kernel) (by decide +kernel) rfl (by decide) ?_
        exact lc_27 X hX hbl hI hAs (by omega) rfl hlt hL K hx hM hrel hS hl
      · refine lv_tableIn (off := 822) (tgt := 854) (cx_x X) (cx_b X) dL_law_32 (by decide +kernel) (by decide +kernel) rfl (by decide) ?_
        exact lc_28 X hX hbl hI hAs (by omega) rfl hlt hL K hx hM hrel hS hl
      · refine lv_tableIn (off := 835) (tgt := 867) (cx_x X) (cx_b X) dL_law_32 (by decide +kernel) (by decide +kernel) rfl (by decide) ?_
        exact lc_29 X hX hbl hI hAs (by omega) rfl hlt hL K hx hM hrel hS hl
      · refine lv_tableIn (off := 848) (tgt := 880) (cx_x X) (cx_b X) dL_law_32 (by decide +kernel) (by decide +kernel) rfl (by decide) ?_
        exact lc_30 X hX hbl hI hAs (by omega) rfl hlt hL K hx hM hrel hS hl
      · refine lv_tableIn (off := 861) (tgt := 893) (cx_x X) (cx_b X) dL_law_32 (by decide +kernel) (by decide +kernel) rfl (by decide) ?_
        exact lc_31 X hX hbl hI hAs (by omega) rfl hlt hL K hx hM hrel hS hl
      · refine lv_tableIn (off := 874) (tgt := 906) (cx_x X) (cx_b X) dL_law_32 (by decide +kernel) (by decide +kernel) rfl (by decide) ?_
        exact lc_32 X hX hbl hI hAs (by omega) rfl hlt hL K hx hM hrel hS hl
      · refine lv_tableIn (off := 897) (tgt := 929) (cx_x X) (cx_b X) dL_law_32 (by decide +kernel) (by decide +kernel) rfl (by decide) ?_
        exact lc_33 X hX hbl hI hAs (by omega) rfl hlt hL K hx hM hrel hS hl
      · refine lv_tableIn (off := 910) (tgt := 942) (cx_x X) (cx_b X) dL_law_32 (by decide +kernel) (by decide +kernel) rfl (by decide) ?_
        exact lc_34 X hX hbl hI hAs (by omega) rfl hlt hL K hx hM hrel hS hl
      · refine lv_tableIn (off := 923) (tgt := 955) (cx_x X) (cx_b X) dL_law_32 (by decide +kernel) (by decide +kernel) rfl (by decide) ?_
        exact lc_35 X hX hbl hI hAs (by omega) rfl hlt hL K hx hM hrel hS hl
      · refine lv_tableIn (off := 936) (tgt := 968) (cx_x X) (cx_b X) dL_law_32 (by decide +kernel) (by decide +kernel) rfl (by decide) ?_
        exact lc_36 X hX hbl hI hAs (by omega) rfl hlt hL K hx hM hrel hS hl
      · refine lv_tableIn (off := 959) (tgt := 991) (cx_x X) (cx_b X) dL_law_32 (by decide +kernel) (by decide +kernel) rfl (by decide) ?_
        exact lc_37 X hX hbl hI hAs (by omega) rfl hlt hL K hx hM hrel hS hl
      · refine lv_tableOut (tgt := 1014) (cx_x X) (cx_b X) dL_law_32 (Or.inr (by rw [nI_toInt (by omega)]; omega)) (by decide) ?_
        refine W.widen (k := 100 + 6 * (t + 1)) (n := 4000 + 220 * (t + 1)) (by omega) (by omega) ?_
        exact K _ _ _ _ _ _ _ _ _ _ hx hM hrel hS _ hl
set_option maxHeartbeats 4000000 in
set_option maxRecDepth 100000 in
/-- THE LAW, from its entry -/
theorem whole_start {p : Program} {e : Env} {s : State} {m : MethodId} {below : List Frame} {meth : Method} {c : Code} (l : Launch) (hflags : l.flags = flags0) {b L : Nat} {xs : Nat → Int32} (hL : L ≤ 2560) (C0 : lw_At p s m meth c b L xs) : W p l e room_1 s m #[Value.ref b] below meth c s.heap [] 0 0 (lw_Z below #[Value.ref b] s) (entryFrame m ([Value.ref b] : List Value).toArray 4) := by
  obtain ⟨hx, hb, hr, hml, hown, hts, hX, hbl, hlocks, hgv⟩ := id C0
  obtain ⟨D, y, hK⟩ := kk_start hts
  have X : cx p s m #[Value.ref b] meth c cL_law 4 ret RL D y := ⟨hx, hb, hml, hown, fun w h => hts w (wsL_law_in w h), hK, hr, hlocks⟩
  have hbA : ¬ (fun q : Nat => s.heap.size ≤ q) b := Nat.not_le.mpr hbl
  have hS : va_S (fun q : Nat => s.heap.size ≤ q) s.heap s.heap [] := va_S.rf
  obtain ⟨G, Q, F, R, hm1, hm5, hrel⟩ := sim_init
  have hl := lv_entry ([.ref b]) (n := 4) (Nat.le_of_ble_eq_true rfl)
  rw [lg_entry_eq]
  generalize (lg_sl ([.ref b]) ++ List.replicate (4 - (lg_sl ([.ref b])).length) Slot.unset).toArray = ls at hl ⊢
  replace hl : lv_has ls 4 [(0, .ref b)] := hl
  refine fx_new (ci := 4) X inlX4 tyX4_ok qw_0 qw_1 qw_2 hS rfl [.null, .null, .null, .null] (fun j hj => by rcases (show j = 0 ∨ j = 1 ∨ j = 2 ∨ j = 3 by omega) with rfl | rfl | rfl | rfl <;> rfl) (Nat.le_of_ble_eq_true rfl) (Nat.le_of_ble_eq_true rfl) dL_law_0 (fun Ha hNa hza hoa hS => ?_)
  obtain ⟨qx, hqx⟩ : ∃ qx, qx = s.heap.size := ⟨_, rfl⟩
  rw [show Value.ref s.heap.size = Value.ref qx by rw [hqx]]
  rw [← hqx] at hNa hza
  refine lv_dup (cx_x X) (cx_b X) dL_law_3 rfl ?_
  refine af_W (mc := 49) (ms := 1890) (rn_I (As := []) (rest := [.ref qx]) X (c_X4_init l D y qx _ G Q hm1) iq_L_9 ⟨rfl, rfl⟩ ⟨Nat.le_of_ble_eq_true rfl, Nat.le_of_ble_eq_true rfl⟩ ⟨rfl, hNa⟩ rfl hl.1 rfl (Nat.le_of_ble_eq_true rfl) dL_law_4 ⟨Nat.le_of_ble_eq_true rfl, Nat.le_of_ble_eq_true rfl⟩) hS (rg_in (by show s.heap.size ≤ qx; omega) (fun q hq => by show s.heap.size ≤ q; omega)) (fun Hb locs hNb hzb hkb hS => ?_)
  obtain ⟨ad, NB, e9, hT⟩ := hNb
  replace hT := tp_shr hT
  have hPs : ∀ q, (rg_s 1 (fun _ => qx) Ha.size q ∧ q < Hb.size) → s.heap.size ≤ q := by
    rintro q ⟨⟨_, _, rfl⟩ | hq, -⟩
    · omega
    · omega
  refine lv_astore_n (lv' := [(1, .ref qx), (0, .ref b)]) (cx_x X) (cx_b X) dL_law_7 rfl hl (by decide) rfl (fun ls hl => ?_)
  refine fx_new (ci := 5) X inlX5 tyX5_ok qw_3 qw_4 qw_5 hS rfl [.null, .null, .int 0, .null, .null, .null, .int 0, .int 0, .null, .int 0, .int 0] (fun j hj => by rcases (show j = 0 ∨ j = 1 ∨ j = 2 ∨ j = 3 ∨ j = 4 ∨ j = 5 ∨ j = 6 ∨ j = 7 ∨ j = 8 ∨ j = 9 ∨ j = 10 by omega) with rfl | rfl | rfl | rfl | rfl | rfl | rfl | rfl | rfl | rfl | rfl <;> rfl) (Nat.le_of_ble_eq_true rfl) (Nat.le_of_ble_eq_true rfl) dL_law_8 (fun Hc hNc hzc hoc hS => ?_)
  obtain ⟨qm, hqm⟩ : ∃ qm, qm = Hb.size := ⟨_, rfl⟩
  rw [← hqm] at hNc hzc ⊢
  refine lv_dup (cx_x X) (cx_b X) dL_law_11 rfl ?_
  refine af_W (mc := 6) (ms := 1876) (rn_I (As := []) (rest := [.ref qm]) X (c_X5_init l D y qm _ F R hm5) iq_L_12 ⟨rfl, rfl⟩ ⟨Nat.le_of_ble_eq_true rfl, Nat.le_of_ble_eq_true rfl⟩ ⟨rfl, hNc⟩ rfl hl.1 rfl (Nat.le_of_ble_eq_true rfl) dL_law_12 ⟨Nat.le_of_ble_eq_true rfl, Nat.le_of_ble_eq_true rfl⟩) hS (rg_in (by show s.heap.size ≤ qm; omega) (fun q hq => by show s.heap.size ≤ q; omega)) (fun Hd locs hNd hzd hkd hS => ?_)
  obtain ⟨A, hA0, hA1, hM⟩ := hNd
  have hAg : ∀ j, j < 7 → qm ≤ A j := fun j hj => rg_q (hA1.2 j hj) (by omega)
  replace hT := tp_up hT (q0 := qm) (fun i j hv => by rw [hqm]; exact tp_lt hT i j hv) (fun i k hi hk => by rw [hqm]; exact tp_ltB hT i k hi hk) (H1 := Hd) (fun q hq => (hkd q (by omega) (rg_no (by omega) (by omega))).trans (hoc q (by omega)))
  refine lv_astore_n (lv' := [(2, .ref qm), (1, .ref qx), (0, .ref b)]) (cx_x X) (cx_b X) dL_law_15 rfl hl (by decide) rfl (fun ls hl => ?_)
  refine lv_iconst (v := (0 : Int32)) (cx_x X) (cx_b X) dL_law_16 (by decide) ?_
  refine lv_istore_n (lv' := [(3, .int (0 : Int32)), (2, .ref qm), (1, .ref qx), (0, .ref b)]) (cx_x X) (cx_b X) dL_law_17 rfl hl (by decide) rfl (fun ls hl => ?_)
  rw [← hA0] at hl
  refine W.widen (k := 100 + 6 * 0) (n := 4000 + 220 * 0) (Nat.le_of_ble_eq_true rfl) (Nat.le_of_ble_eq_true rfl) ?_
  exact law_loop hx hb hr hlocks X hX hbl hA1.1 (fun j hj => by have := hAg j hj; omega) hL 513 0 (by omega) (by omega) _ _ _ _ _ _ _ _ _ _ ⟨_, ad, NB, hPs, fun j hj hq => by have := hAg j hj; have := hq.2; omega, e9, hT⟩ hM hrel hS _ (lv_sub hl [3, 2, 1, 0] rfl)
