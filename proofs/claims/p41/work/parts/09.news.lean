def ad_s (l : List Nat) : Nat → Nat := fun k => l.getD k 0
theorem ws_get {ws : va_W} {n : Nat} {A : Nat → Nat} (hw : ws.map (fun q => q.1) = (List.range n).map A) {i : Nat} (hi : i < n) : ∃ q, ws[i]? = some q ∧ q.1 = A i := by
  have h1 : (ws.map (fun q => q.1))[i]? = some (A i) := by rw [hw, List.getElem?_map, List.getElem?_range hi]; rfl
  rw [List.getElem?_map] at h1
  cases hq : ws[i]? with
  | none => rw [hq] at h1; cases h1
  | some q =>
    rw [hq] at h1
    exact ⟨q, rfl, Option.some.inj h1⟩
theorem ap_ofD {ws : va_W} {n : Nat} {P : Nat → Prop} {A : Nat → Nat} (h : va_D P ws) (hw : ws.map (fun q => q.1) = (List.range n).map A) : ap_s n P A := by
  refine ⟨fun i j hi hj he => ?_, fun i hi => ?_⟩
  · obtain ⟨p, h1, e1⟩ := ws_get hw hi
    obtain ⟨q, h2, e2⟩ := ws_get hw hj
    exact h.1 i j p q h1 h2 (by rw [e1, e2]; exact he)
  · obtain ⟨p, h1, e1⟩ := ws_get hw hi
    rw [← e1]; exact h.2 i p h1
theorem set_1 {D : va_G} {cl : List vw_C} {P : Nat → Prop} {ws : va_W} {j a : Nat} {e0 e : va_E} {H H1 : Heap} (h : va_P D cl ws H) (hD : va_D P ws) (hp : ws[j]? = some (a, e0)) (hP1 : va_P D cl [(a, e)] H1) (hk : ∀ q : Nat, q < H.size → q ≠ a → H1[q]? = H[q]?) : va_P D cl (ws.set j (a, e)) H1 := by
  have hl := (List.getElem?_eq_some_iff.mp hp).1
  intro k q hq
  by_cases hkp : k = j
  · subst hkp
    rw [List.getElem?_set_self hl] at hq
    cases hq
    exact hP1 0 _ rfl
  · rw [List.getElem?_set_ne (Ne.symm hkp)] at hq
    exact (h k q hq).kept (hk q.1 (h k q hq).lt (fun z => hkp (hD.1 k j q (a, e0) hq hp z)))
theorem cell_i {cA : ClassId} {n : Nat} {f g : Nat → Int32} (h : ∀ j, j < n → f j = g j) : vp_cell cA (n, .inl f) = vp_cell cA (n, .inl g) := by
  rw [vp_cell_i, vp_cell_i]
  unfold arrV
  congr 1
  apply Array.ext
  · simp
  · intro i h1 h2
    have hi : i < n := by simpa using h1
    simp [h i hi]
theorem va_P_eqi {D : va_G} {cl : List vw_C} {ws : va_W} {j a n : Nat} {cA : ClassId} {f g : Nat → Int32} {H : Heap} (h : va_P D cl ws H) (hp : ws[j]? = some (a, .inl (cA, n, .inl f))) (hfg : ∀ j, j < n → f j = g j) : va_P D cl (ws.set j (a, .inl (cA, n, .inl g))) H := by
  have hl := (List.getElem?_eq_some_iff.mp hp).1
  intro k q hq
  by_cases hkp : k = j
  · subst hkp
    rw [List.getElem?_set_self hl] at hq
    cases hq
    have h1 := h k _ hp
    show H[a]? = some (vp_cell cA (n, .inl g))
    rw [← cell_i hfg]; exact h1
  · rw [List.getElem?_set_ne (Ne.symm hkp)] at hq
    exact h k q hq
theorem ra_I {D : va_G} {y : Nat → ClassId} {s : State} (hK : kk_K D y s) {cA : ClassId} (h : va_K D vwCl (kk_t y ++ [(cA, .int)]) s) : cA = y 0 := by
  have h1 : s.vm.findClass _ = some (y 0) := (hK.1.2 0 (y 0, .int) rfl).2
  have h2 : s.vm.findClass _ = some cA := (h.2 4 (cA, .int) rfl).2
  exact Option.some.inj (h2.symm.trans h1)
theorem ra_N {D : va_G} {y : Nat → ClassId} {s : State} (hK : kk_K D y s) {cA : ClassId} (h : va_K D vwCl (kk_t y ++ [(cA, .object "ChannelBorrower$Network")]) s) : cA = y 3 := by
  obtain ⟨_, _, -, -, -, h1⟩ : ∃ (kA : Class) (comp : ClassId), s.vm.classes[y 3]? = some kA ∧ kA.kind = .array comp (.object "ChannelBorrower$Network") ∧ s.vm.findClass "ChannelBorrower$Network" = some comp ∧ s.vm.findClass ("[" ++ (FieldType.object "ChannelBorrower$Network").toString) = some (y 3) := (hK.1.2 3 (y 3, .object "ChannelBorrower$Network") rfl).2
  obtain ⟨_, _, -, -, -, h2⟩ : ∃ (kA : Class) (comp : ClassId), s.vm.classes[cA]? = some kA ∧ kA.kind = .array comp (.object "ChannelBorrower$Network") ∧ s.vm.findClass "ChannelBorrower$Network" = some comp ∧ s.vm.findClass ("[" ++ (FieldType.object "ChannelBorrower$Network").toString) = some cA := (h.2 4 (cA, .object "ChannelBorrower$Network") rfl).2
  exact Option.some.inj (h2.symm.trans h1)
section NEWS
variable {p : Program} {l : Launch} {e : Env} {RM : Room} {s : State} {m : MethodId} {args : Array Value} {below : List Frame} {meth : Method} {c : Code} {H H0 : Heap} {locs : List Loc} {cells slots : Nat} {Q : State → Prop}
variable {cc : ByteArray} {nL pc : Nat} {ret : Option FieldType} {own : String} {D : va_G} {y : Nat → ClassId} {ls : Array Slot} {rest st0 : List Value} {P : Nat → Prop} {ws : va_W} {a : Nat} {fs : List Value}
theorem na_I (X : cx p s m args meth c cc nL ret own D y) (hP : va_P D vwCl ws H) (hD : va_D P ws) (hS : va_S P H0 H locs) (hA : ∀ q, H0.size ≤ q → P q) {n : Int32} {N' : Nat} (hn : ¬ n < 0) (hN : n.toNatClampNeg = N') (hb : N' * componentBytes .int ≤ 536870912) (hc : cells + 1 ≤ RM.cells) (hs : slots + N' ≤ RM.slots) (hdg : decode cc pc = .ok (.newarray .int, 2))
    (kk : ∀ (q : Nat) (H1 : Heap), va_P D vwCl (ws ++ [(q, .inl (y 0, N', .inl (fun _ => 0)))]) H1 → va_D P (ws ++ [(q, .inl (y 0, N', .inl (fun _ => 0)))]) → va_S P H0 H1 locs → W p l e RM s m args below meth c H1 locs (cells + 1) (slots + N') Q (F0 m (pc + 2) ls (.ref q :: rest))) : W p l e RM s m args below meth c H locs cells slots Q (F0 m pc ls (.int n :: rest)) := by
  refine va_newa (atype := .int) (ty := .int) (a0 := (N', .inl (fun _ => 0))) (cx_x X) (cx_b X) (cx_w X _ qw_29) rfl (cx_K X).1 hP hD hS hA (fun _ => rfl) hn hN hb hc hs hdg (fun q cA H1 hK h1 h2 h3 => ?_)
  have e := ra_I (cx_K X) hK
  subst e
  exact kk q H1 h1 h2 h3
theorem na_N (X : cx p s m args meth c cc nL ret own D y) {index : Nat} (hcl : Cond.classLink own index "ChannelBorrower$Network" ∈ wsL_law) (hP : va_P D vwCl ws H) (hD : va_D P ws) (hS : va_S P H0 H locs) (hA : ∀ q, H0.size ≤ q → P q) {n : Int32} {N' : Nat} (hn : ¬ n < 0) (hN : n.toNatClampNeg = N') (hb : N' * 4 ≤ 536870912) (hc : cells + 1 ≤ RM.cells) (hs : slots + N' ≤ RM.slots) (hdg : decode cc pc = .ok (.anewarray index, 3))
    (kk : ∀ (q : Nat) (H1 : Heap), va_P D vwCl (ws ++ [(q, .inl (y 3, N', .inr (.inr (.inr (.inr (fun _ => none))))))]) H1 → va_D P (ws ++ [(q, .inl (y 3, N', .inr (.inr (.inr (.inr (fun _ => none))))))]) → va_S P H0 H1 locs → W p l e RM s m args below meth c H1 locs (cells + 1) (slots + N') Q (F0 m (pc + 3) ls (.ref q :: rest))) : W p l e RM s m args below meth c H locs cells slots Q (F0 m pc ls (.int n :: rest)) := by
  refine va_newq (cx_x X) (cx_b X) (cx_o X) (cx_w X _ hcl) (cx_K X).2.2 (cx_K X).1 hP hD hS hA hn hN hb hc hs hdg (fun q cA H1 hK h1 h2 h3 => ?_)
  have e := ra_N (cx_K X) hK
  subst e
  exact kk q H1 h1 h2 h3
theorem ob_0 (X : cx p s m args meth c cc nL ret own D y) {idx : Nat} (hl : ls.size = nL) (q1 : Cond.methodLink own idx objectInit ∈ wsL_law) (q2 : Cond.instanceMethod objectInit ∈ wsL_law) (q3 : Cond.code objectInit ⟨#[0xb1]⟩ 1 none ∈ wsL_law) (hW : (rest.map fun v => v.category).sum ≤ 8) (hdg : decode cc pc = .ok (.invokespecial idx, 3)) (h1 : 1 ≤ RM.frames) (h2 : 20 ≤ RM.locals)
    (kk : W p l e RM s m args below meth c H locs cells slots Q (F0 m (pc + 3) ls rest)) : W p l e RM s m args below meth c H locs cells slots Q (F0 m pc ls (.ref a :: rest)) := by
  refine W.objInit (cx_x X) (cx_b X) (cx_o X) (cx_w X _ q1) (cx_w X _ q2) (cx_w X _ q3) rfl (by rw [cx_m X]; exact hl) rfl hdg h1 ?_ ?_
  · have := lv_room (m := m) (pc := pc) (ls := ls) (rest := .ref a :: rest) hW
    omega
  · exact W.eq (g2 := F0 m (pc + 3) ls rest) rfl kk
end NEWS
/-- Arrays.fill -/
def fl_s (n : Nat) (v : Int32) (f : Nat → Int32) : Nat → Int32 := fun j => if j < n then v else f j
theorem fl_up {i : Nat} {v : Int32} {f : Nat → Int32} (hi : i < 2 ^ 31) : upd (fl_s i v f) (nI i).toNatClampNeg v = fl_s (i + 1) v f := by
  rw [nI_clamp hi]
  funext j
  unfold upd fl_s
  by_cases h : j = i
  · subst h; rw [if_pos rfl, if_pos (Nat.lt_succ_self _)]
  · rw [if_neg h]
    by_cases h2 : j < i
    · rw [if_pos h2, if_pos (by omega)]
    · rw [if_neg h2, if_neg (by omega)]
abbrev rm_J7_fill_53178 : Room := { frames := 0, cells := 0, slots := 0, locals := 0 }
set_option maxHeartbeats 4000000 in
theorem c_J7_fill (l : Launch) (D : va_G) (y : Nat → ClassId) (q sz n : Nat) (f : Nat → Int32) (v : Int32) (hn : n < 2 ^ 31) : Met l yJ7_fill_53178 (wy_s yJ7_fill_53178 cJ7_fill_53178 4 none) rm_J7_fill_53178 (pc_R D y [.ref q, .int v] (fun H => H.size = sz ∧ va_P D vwCl [(q, .inl (y 0, n, .inl f))] H)) (qc_W none (fun H => va_P D vwCl [(q, .inl (y 0, n, .inl (fl_s n v f)))] H) (rg_s 1 (fun _ => q) sz)) 0 0 (rg_s 1 (fun _ => q) sz) := by
  refine met_W (by decide) (Nat.le_of_ble_eq_true rfl) ?_
  intro p e s m args below meth c X hnm h0 ls hl
  obtain ⟨hsz, hP⟩ := h0
  subst hsz
  have hA : ap_s 1 (rg_s 1 (fun _ => q) s.heap.size) (fun _ => q) := ap_of (fun i j hi hj _ => by omega)
  have hD : ∀ g : Nat → Int32, va_D (rg_s 1 (fun _ => q) s.heap.size) [(q, .inl (y 0, n, .inl g))] := fun g => ap_D hA rfl
  have hS : va_S (rg_s 1 (fun _ => q) s.heap.size) s.heap s.heap [] := va_S.rf
  replace hl : lv_has ls 4 [(0, .ref q), (1, .int v)] := hl
  replace X : cx p s m args meth c cJ7_fill_53178 4 none RJ7 D y := X
  have L : ∀ (k i : Nat), i + k = n → ∀ (H : Heap) (locs : List Loc), va_P D vwCl [(q, .inl (y 0, n, .inl (fl_s i v f)))] H → va_S (rg_s 1 (fun _ => q) s.heap.size) s.heap H locs → ∀ ls, lv_has ls 4 [(0, .ref q), (1, .int v), (2, .int (nI i)), (3, .int (nI n))] → gw p l e rm_J7_fill_53178 s m args below meth c none (fun H => va_P D vwCl [(q, .inl (y 0, n, .inl (fl_s n v f)))] H) (rg_s 1 (fun _ => q) s.heap.size) 0 0 H locs (F0 m 5 ls []) := by
    intro k
    induction k with
    | zero =>
      intro i hi H locs hP hS ls hl
      have e : i = n := by omega
      subst e
      refine lv_iload_n (cx_x X) (cx_b X) dJ7_fill_53178_5 rfl (lv_at hl 2 rfl) ?_
      refine lv_iload_n (cx_x X) (cx_b X) dJ7_fill_53178_6 rfl (lv_at hl 3 rfl) ?_
      refine lv_icmp_ge (tgt := 20) (cx_x X) (cx_b X) dJ7_fill_53178_7 (by decide) (fun _ => ?_) (fun h => absurd (nI_le (Nat.le_refl i) hn) h)
      exact gw_v X hS hP dJ7_fill_53178_20
    | succ k ih =>
      intro i hi H locs hP hS ls hl
      refine lv_iload_n (cx_x X) (cx_b X) dJ7_fill_53178_5 rfl (lv_at hl 2 rfl) ?_
      refine lv_iload_n (cx_x X) (cx_b X) dJ7_fill_53178_6 rfl (lv_at hl 3 rfl) ?_
      refine lv_icmp_ge (tgt := 20) (cx_x X) (cx_b X) dJ7_fill_53178_7 (by decide) (fun h => absurd h (nI_ge (by omega) hn)) (fun _ => ?_)
      refine lv_aload_n (cx_x X) (cx_b X) dJ7_fill_53178_10 rfl (lv_at hl 0 rfl) ?_
      refine lv_iload_n (cx_x X) (cx_b X) dJ7_fill_53178_11 rfl (lv_at hl 2 rfl) ?_
      refine lv_iload_n (cx_x X) (cx_b X) dJ7_fill_53178_12 rfl (lv_at hl 1 rfl) ?_
      refine va_iast (cx_x X) (cx_b X) (cx_K X).1 hP (hD _) hS 0 0 rfl rfl (vp_in_nI (show i < n by omega) hn) dJ7_fill_53178_13 (fun H locs hP _ hS => ?_)
      refine lv_iinc (v := nI (i + 1)) (lv' := [(2, .int (nI (i + 1))), (0, .ref q), (1, .int v), (3, .int (nI n))]) (cx_x X) (cx_b X) dJ7_fill_53178_14 hl (k := 2) rfl (nI_1 i) (by decide) rfl (fun ls hl => ?_)
      refine lv_goto (tgt := 5) (cx_x X) (cx_b X) dJ7_fill_53178_17 (by decide) ?_
      refine ih (i + 1) (by omega) H locs ?_ hS _ (lv_sub hl [1, 2, 0, 3] rfl)
      rw [← fl_up (show i < 2 ^ 31 by omega)]
      exact hP
  refine lv_iconst (v := (0 : Int32)) (cx_x X) (cx_b X) dJ7_fill_53178_0 (by decide) ?_
  refine lv_istore_n (lv' := [(2, .int (0 : Int32)), (0, .ref q), (1, .int v)]) (cx_x X) (cx_b X) dJ7_fill_53178_1 rfl hl (by decide) rfl (fun ls hl => ?_)
  refine lv_aload_n (cx_x X) (cx_b X) dJ7_fill_53178_2 rfl (lv_at hl 1 rfl) ?_
  refine va_alen (cx_x X) (cx_b X) (cx_K X).1 hP 0 0 rfl rfl (v := nI n) rfl dJ7_fill_53178_3 ?_
  refine lv_istore_n (lv' := [(3, .int (nI n)), (2, .int (0 : Int32)), (0, .ref q), (1, .int v)]) (cx_x X) (cx_b X) dJ7_fill_53178_4 rfl hl (by decide) rfl (fun ls hl => ?_)
  refine L n 0 (by omega) s.heap [] ?_ hS _ (lv_sub hl [2, 3, 1, 0] rfl)
  have e : fl_s 0 v f = f := by funext j; unfold fl_s; rw [if_neg (Nat.not_lt_zero _)]
  rw [e]; exact hP
