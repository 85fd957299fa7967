section FX
variable {p : Program} {l : Launch} {e : Env} {RM : Room} {s : State} {m : MethodId} {args : Array Value} {below : List Frame} {meth : Method} {c : Code} {H H0 : Heap} {locs : List Loc} {cells slots : Nat} {Q : State → Prop}
variable {cc : ByteArray} {nL pc : Nat} {ret : Option FieldType} {own : String} {D : va_G} {y : Nat → ClassId} {ls : Array Slot} {rest : List Value} {P : Nat → Prop} {ws : va_W} {a : Nat} {fs : List Value}
/-- a final field, set in its constructor -/
theorem fx_putF (X : cx p s m args meth c cc nL ret own D y) {ref C : String} {T : u_T} {N ci index : Nat} (hin : ∀ w ∈ u_ws C T N, w ∈ wsL_law) {ty0 : Nat → FieldType} (hty : ∀ k, k < N → parseFieldDescriptor (T k).2.2.1 = some (ty0 k)) (hnm : ∀ a, a < N → ∀ b, b < N → a ≠ b → (T a).2.1 ≠ (T b).2.1) (hP : va_at D vwCl (a, .inr (ci, fs)) H) (hc : vwCl[ci]? = some (C, T, N)) (k : Nat) (hk : k < N) (hlink : Cond.fieldLink own index ref (T k).2.1 (T k).2.2.1 ∈ wsL_law) (hsame : ∀ x, s.fieldFound? (T k).1 (T k).2.1 (T k).2.2.1 = some x → s.fieldFound? ref (T k).2.1 (T k).2.2.1 = some x) (hfin : (T k).2.2.2 = true) (hin2 : meth.name = "<init>") (hdecl : (T k).1 = own) {ty : FieldType} {v : Value} (hd : parseFieldDescriptor (T k).2.2.1 = some ty) (hn : narrow ty v = v) (hfit : fits ty v = true) (hl : k < fs.length) (hS : va_S P H0 H locs) (ha : P a) (hdg : decode cc pc = .ok (.putfield index, 3))
    (kk : ∀ (H1 : Heap) (locs1 : List Loc), va_at D vwCl (a, .inr (ci, fs.set k v)) H1 → H1.size = H.size → (∀ q : Nat, q ≠ a → H1[q]? = H[q]?) → va_S P H0 H1 locs1 → W p l e RM s m args below meth c H1 locs1 cells slots Q (F0 m (pc + 3) ls rest)) : W p l e RM s m args below meth c H locs cells slots Q (F0 m pc ls (v :: .ref a :: rest)) := by
  have hts := cx_w X
  have hK := (cx_K X).1
  have hap := va_apart (own := own) hts hin ty0 hty hnm hK hc
  obtain ⟨r, h1, cell, q1, q2, q3, q4⟩ := hP
  obtain rfl : r = (C, T, N) := Option.some.inj (h1.symm.trans hc)
  obtain ⟨hSl, hfc, kC, hkC, hkind⟩ := hK.1 ci _ hc
  obtain ⟨cf, kf, fi, f, hi, hsl⟩ := hSl k hk
  have hlay := hts _ (hin _ (u_in_lay hk))
  rw [u_lay, if_pos hfin] at hlay
  have hcf : m.cls = cf := by
    obtain ⟨_, _, c', _, _, _, -, -, hf', -, -, -, hown2, -⟩ := Cond.laysFinal_spec hlay
    have e1 : c' = cf := by have := hi.symm.trans hf'; simp at this; exact this.1.symm
    rw [hdecl] at hown2
    rw [← e1]; exact Option.some.inj ((cx_o X).symm.trans hown2)
  refine W.putFinK (cx_x X) (cx_b X) (cx_o X) (hts _ hlink) (hsame _ hi) (u_facts hfc hkC (u_lays hts hin hk) hi).1 hcf hin2 (by rw [q2]; exact u_fits hfc hkC hkind (Or.inr hlay) hi hd hn hfit) q1 q3 (by rw [hsl]; exact k2_hasslot (q4 k hk)) rfl rfl hdg fun H' e1 e2 e3 => ?_
  rw [hsl] at e1 ⊢
  exact kk H' _ ⟨_, hc, t_OB.to (V := updV (vp_V fs) k v) ⟨_, e1, q2, q3, t_set q4 hap hk v⟩ (fun j _ => vp_updV_set hl v j)⟩ e2 e3 (hS.put e2 e3 ha)
/-- a new array of networks -/
theorem fx_newq (X : cx p s m args meth c cc nL ret own D y) {index : Nat} (hcl : Cond.classLink own index "ChannelBorrower$Network" ∈ wsL_law) (hS : va_S P H0 H locs) {n : Int32} {N' : Nat} (hn : ¬ n < 0) (hN : n.toNatClampNeg = N') (hb : N' * 4 ≤ 536870912) (hc : cells + 1 ≤ RM.cells) (hs : slots + N' ≤ RM.slots) (hdg : decode cc pc = .ok (.anewarray index, 3))
    (kk : ∀ H1 : Heap, va_P D vwCl [(H.size, .inl (y 3, N', .inr (.inr (.inr (.inr (fun _ => none))))))] H1 → H1.size = H.size + 1 → (∀ q : Nat, q < H.size → H1[q]? = H[q]?) → va_S P H0 H1 locs → W p l e RM s m args below meth c H1 locs (cells + 1) (slots + N') Q (F0 m (pc + 3) ls (.ref H.size :: rest))) : W p l e RM s m args below meth c H locs cells slots Q (F0 m pc ls (.int n :: rest)) := by
  subst hN
  refine W.anew (cx_x X) (cx_b X) (cx_o X) (cx_w X _ hcl) (va_AO.use (cx_K X).2.2) rfl hdg rfl hn hb hc hs fun cA kA comp f1 f2 f3 f4 => ?_
  have hcA : cA = y 3 := by
    obtain ⟨_, _, -, -, -, h1⟩ : ∃ (kA : Class) (comp : ClassId), s.vm.classes[y 3]? = some kA ∧ kA.kind = .array comp (.object "ChannelBorrower$Network") ∧ s.vm.findClass "ChannelBorrower$Network" = some comp ∧ s.vm.findClass ("[" ++ (FieldType.object "ChannelBorrower$Network").toString) = some (y 3) := ((cx_K X).1.2 3 (y 3, .object "ChannelBorrower$Network") rfl).2
    exact Option.some.inj (f1.symm.trans h1)
  subst hcA
  generalize hH1 : H.push ({ cls := y 3, slots := Array.replicate n.toNatClampNeg .null, vm := .none } : Cell) = H1
  have z1 : H1.size = H.size + 1 := by rw [← hH1, Array.size_push]
  have e1 : H1[H.size]? = some (arrV (y 3) n.toNatClampNeg (fun _ => .null)) := by rw [← hH1, Array.getElem?_push_size, ← arrV_new]
  have o1 : ∀ q : Nat, q < H.size → H1[q]? = H[q]? := fun q hq => by rw [← hH1, Array.getElem?_push, if_neg (Nat.ne_of_lt hq)]
  refine kk H1 (fun k x hx => ?_) z1 o1 ⟨Nat.le_trans hS.1 (by omega), fun x h1 h2 => (o1 x (Nat.lt_of_lt_of_le h1 hS.1)).trans (hS.2.1 x h1 h2), hS.2.2⟩
  have hz : k < 1 := (List.getElem?_eq_some_iff.mp hx).1
  obtain rfl : k = 0 := by omega
  cases hx
  exact e1
end FX
abbrev rm_X0_init : Room := { frames := 3, cells := 31, slots := 1326, locals := 65 }
def st_f (i : Nat) (S : Nat → Nat → Nat) : Nat → Option Nat := fun j => if j < i then some (S j 0) else none
set_option maxHeartbeats 4000000 in
set_option maxRecDepth 100000 in
theorem c_X0_init (l : Launch) (D : va_G) (y : Nat → ClassId) (q0 sz b : Nat) : Met l yX0_init (wy_s yX0_init cX0_init 3 none) rm_X0_init (pc_R D y [.ref q0, .ref b] (fun H => H.size = sz ∧ va_P D vwCl [(q0, .inr (0, [.int 0, .int 0, .null]))] H)) (qc_W none (fun H => ∃ (a2 : Nat) (S : Nat → Nat → Nat), va_P D vwCl [(q0, .inr (0, [.int 0, .int 0, .ref a2])), (a2, .inl (y 3, 6, .inr (.inr (.inr (.inr (st_f 6 S))))))] H ∧ (∀ i, i < 6 → va_P D vwCl (w2_s y b (S i) (nb_F ni_F) nb_R) H) ∧ sz ≤ a2 ∧ (∀ i j, i < 6 → j < 5 → a2 < S i j) ∧ (∀ i j i' j', i < 6 → j < 5 → i' < 6 → j' < 5 → S i j = S i' j' → i = i' ∧ j = j')) (rg_s 1 (fun _ => q0) sz)) 31 1326 (rg_s 1 (fun _ => q0) sz) := by
  refine met_W (by decide) (Nat.le_of_ble_eq_true rfl) ?_
  intro p e s m args below meth c X hnm h0 ls hl
  obtain ⟨hsz, hP⟩ := h0
  subst hsz
  have hS : va_S (rg_s 1 (fun _ => q0) s.heap.size) s.heap s.heap [] := va_S.rf
  have hq0 : q0 < s.heap.size := (hP 0 _ rfl).lt
  replace hl : lv_has ls 3 [(0, .ref q0), (1, .ref b)] := hl
  replace X : cx p s m args meth c cX0_init 3 none RX0 D y := X
  generalize hPP : rg_s 1 (fun _ => q0) s.heap.size = PP at hS ⊢
  have hPq : PP q0 := by rw [← hPP]; exact Or.inl ⟨0, by decide, rfl⟩
  have hPg : ∀ q, s.heap.size ≤ q → PP q := fun q hq => by rw [← hPP]; exact Or.inr hq
  refine lv_aload_n (cx_x X) (cx_b X) dX0_init_0 rfl (lv_at hl 0 rfl) ?_
  refine ob_0 X hl.1 qw_93 qw_7 qw_8 (Nat.le_of_ble_eq_true rfl) dX0_init_1 (Nat.le_of_ble_eq_true rfl) (Nat.le_of_ble_eq_true rfl) ?_
  refine lv_aload_n (cx_x X) (cx_b X) dX0_init_4 rfl (lv_at hl 0 rfl) ?_
  refine lv_bipush (v := (6 : Int32)) (cx_x X) (cx_b X) dX0_init_5 (by decide) ?_
  refine fx_newq X qw_94 hS (N' := 6) (by decide) (by decide) (Nat.le_of_ble_eq_true rfl) (Nat.le_of_ble_eq_true rfl) (Nat.le_of_ble_eq_true rfl) dX0_init_7 (fun H hN hz ho hS => ?_)
  obtain ⟨a2, ha2⟩ : ∃ a2, a2 = s.heap.size := ⟨_, rfl⟩
  rw [← ha2] at hN ⊢
  replace hP : va_P D vwCl [(q0, .inr (0, [.int 0, .int 0, .null]))] H := hP.kept (fun k q hq => ho q.1 (hP k q hq).lt)
  refine fx_putF X inlX0 tyX0_ok nmX0 (hP 0 _ rfl) rfl 2 (by decide) qw_95 (fun _ h => h) rfl hnm rfl (ty := .array (.object "ChannelBorrower$Network")) (v := .ref a2) (by decide +kernel) rfl rfl (Nat.le_of_ble_eq_true rfl) hS hPq dX0_init_10 (fun H2 locs ha hz2 ho2 hS => ?_)
  refine lv_iconst (v := (0 : Int32)) (cx_x X) (cx_b X) dX0_init_13 (by decide) ?_
  refine lv_istore_n (lv' := [(2, .int (0 : Int32)), (0, .ref q0), (1, .ref b)]) (cx_x X) (cx_b X) dX0_init_14 rfl hl (by decide) rfl (fun ls hl => ?_)
  have hW0 : va_P D vwCl [(q0, .inr (0, [.int 0, .int 0, .ref a2])), (a2, .inl (y 3, 6, .inr (.inr (.inr (.inr (st_f 0 (fun _ _ => 0)))))))] H2 := by
    intro k q hq
    match k, hq with
    | 0, hq => cases hq; exact ha
    | 1, hq =>
      cases hq
      refine Eq.trans ((hN 0 _ rfl).kept (ho2 _ (by omega))) (congrArg some (cell_q (fun j hj => ?_)))
      unfold st_f
      rw [if_neg (Nat.not_lt_zero j)]
    | k + 2, hq => cases hq
  have L : ∀ (n i : Nat), i + n = 6 → ∀ (S : Nat → Nat → Nat) (H : Heap) (locs : List Loc), va_P D vwCl [(q0, .inr (0, [.int 0, .int 0, .ref a2])), (a2, .inl (y 3, 6, .inr (.inr (.inr (.inr (st_f i S))))))] H → (∀ t, t < i → va_P D vwCl (w2_s y b (S t) (nb_F ni_F) nb_R) H) → (∀ t j, t < i → j < 5 → a2 < S t j) → (∀ t j t' j', t < i → j < 5 → t' < i → j' < 5 → S t j = S t' j' → t = t' ∧ j = j') → va_S PP s.heap H locs → ∀ ls, lv_has ls 3 [(0, .ref q0), (1, .ref b), (2, .int (nI i))] → gx p l e rm_X0_init s m args below meth c none (fun H => ∃ (b2 : Nat) (S : Nat → Nat → Nat), va_P D vwCl [(q0, .inr (0, [.int 0, .int 0, .ref b2])), (b2, .inl (y 3, 6, .inr (.inr (.inr (.inr (st_f 6 S))))))] H ∧ (∀ i, i < 6 → va_P D vwCl (w2_s y b (S i) (nb_F ni_F) nb_R) H) ∧ a2 ≤ b2 ∧ (∀ i j, i < 6 → j < 5 → b2 < S i j) ∧ (∀ i j i' j', i < 6 → j < 5 → i' < 6 → j' < 5 → S i j = S i' j' → i = i' ∧ j = j')) PP 31 1326 (1 + 5 * i) (6 + 220 * i) H locs (F0 m 15 ls []) := by
    intro n
    induction n with
    | zero =>
      intro i hi S H locs hP hT h1 h2 hS ls hl
      obtain rfl : i = 6 := by omega
      refine lv_iload_n (cx_x X) (cx_b X) dX0_init_15 rfl (lv_at hl 2 rfl) ?_
      refine lv_bipush (v := (6 : Int32)) (cx_x X) (cx_b X) dX0_init_16 (by decide) ?_
      refine lv_icmp_ge (tgt := 41) (cx_x X) (cx_b X) dX0_init_18 (by decide) (fun _ => ?_) (fun h => absurd (by decide) h)
      exact gx_v X (Nat.le_of_ble_eq_true rfl) (Nat.le_of_ble_eq_true rfl) hS ⟨a2, S, hP, hT, by omega, h1, h2⟩ dX0_init_41
    | succ n ih =>
      intro i hi S H locs hP hT h1 h2 hS ls hl
      refine lv_iload_n (cx_x X) (cx_b X) dX0_init_15 rfl (lv_at hl 2 rfl) ?_
      refine lv_bipush (v := (6 : Int32)) (cx_x X) (cx_b X) dX0_init_16 (by decide) ?_
      refine lv_icmp_ge (tgt := 41) (cx_x X) (cx_b X) dX0_init_18 (by decide) (fun h => absurd h (nI_ge (show i < 6 by omega) (by decide))) (fun _ => ?_)
      refine lv_aload_n (cx_x X) (cx_b X) dX0_init_21 rfl (lv_at hl 0 rfl) ?_
      refine gfW_X0_11 X hP 0 rfl (v := .ref a2) rfl dX0_init_22 ?_
      refine lv_iload_n (cx_x X) (cx_b X) dX0_init_25 rfl (lv_at hl 2 rfl) ?_
      have hltO : ∀ (k : Nat) (q : Nat × va_E), [(q0, (.inr (0, [.int 0, .int 0, .ref a2]) : va_E)), (a2, .inl (y 3, 6, .inr (.inr (.inr (.inr (st_f i S))))))][k]? = some q → q.1 < H.size := fun k q hq => (hP k q hq).lt
      have ha2H : a2 < H.size := (hP 1 _ rfl).lt
      have hge0 := hS.1
      refine fx_new (ci := 2) X inlX2 tyX2_ok qw_94 qw_13 qw_14 hS rfl [.null, .int 0, .int 0, .int 0, .int 0, .int 0, .int 0, .int 0, .int 0, .int 0, .int 0, .null, .null, .null, .null] (fun j hj => by rcases (show j = 0 ∨ j = 1 ∨ j = 2 ∨ j = 3 ∨ j = 4 ∨ j = 5 ∨ j = 6 ∨ j = 7 ∨ j = 8 ∨ j = 9 ∨ j = 10 ∨ j = 11 ∨ j = 12 ∨ j = 13 ∨ j = 14 by omega) with rfl | rfl | rfl | rfl | rfl | rfl | rfl | rfl | rfl | rfl | rfl | rfl | rfl | rfl | rfl <;> rfl) (by show 1 + 5 * i + 1 ≤ 31; omega) (by show 6 + 220 * i + 15 ≤ 1326; omega) dX0_init_26 (fun Hb hNw hzb hob hS => ?_)
      obtain ⟨q1, hq1⟩ : ∃ q1, q1 = H.size := ⟨_, rfl⟩
      rw [← hq1] at hNw hzb ⊢
      refine lv_dup (cx_x X) (cx_b X) dX0_init_29 rfl ?_
      refine lv_aload_n (cx_x X) (cx_b X) dX0_init_30 rfl (lv_at hl 1 rfl) ?_
      refine af_W (mc := 4) (ms := 205) (rn_I (As := [.ref b]) (rest := [.ref q1, .int (nI i), .ref a2]) X (c_X2_init l D y q1 _ b) iq_X0_17 ⟨rfl, rfl⟩ ⟨Nat.le_of_ble_eq_true rfl, Nat.le_of_ble_eq_true rfl⟩ ⟨rfl, hNw⟩ rfl hl.1 rfl (Nat.le_of_ble_eq_true rfl) dX0_init_31 ⟨by show 1 + 5 * i + 1 + 4 ≤ 31; omega, by show 6 + 220 * i + 15 + 205 ≤ 1326; omega⟩) hS (rg_in (hPg q1 (by omega)) (fun q hq => hPg q (by omega))) (fun Hc locs hNx hzc hkc hS => ?_)
      obtain ⟨B1, hB0, hB1, hBL⟩ := hNx
      have hv0 := hBL 0 _ rfl
      rw [hB0] at hv0
      have hfr : ∀ q : Nat, q < H.size → Hc[q]? = H[q]? := fun q hq => (hkc q (by omega) (rg_no (by omega) (by omega))).trans (hob q hq)
      replace hP := hP.kept (fun k q hq => hfr q.1 (hltO k q hq))
      have hT2 : ∀ t, t < i → va_P D vwCl (w2_s y b (S t) (nb_F ni_F) nb_R) Hc := fun t ht => (hT t ht).kept (fun k q hq => hfr q.1 ((hT t ht) k q hq).lt)
      have hSl : ∀ t j, t < i → j < 5 → S t j < q1 := fun t j ht hj => by rw [hq1]; exact lt_of (hT t ht) (B := S t) (k := 5) rfl j hj
      have hBg : ∀ j, j < 5 → q1 ≤ B1 j := fun j hj => by
        rcases hB1.2 j hj with ⟨_, _, e⟩ | h
        · rw [e]; exact Nat.le_refl _
        · omega
      refine fx_ast X (hP 1 _ rfl) hv0 (vp_in_nI (show i < 6 by omega) (by decide)) hS (hPg a2 (by omega)) dX0_init_34 (fun Hd locs haD hzd hod hS => ?_)
      refine lv_iinc (v := nI (i + 1)) (lv' := [(2, .int (nI (i + 1))), (0, .ref q0), (1, .ref b)]) (cx_x X) (cx_b X) dX0_init_35 hl (k := 2) rfl (nI_1 i) (by decide) rfl (fun ls hl => ?_)
      refine lv_goto (tgt := 15) (cx_x X) (cx_b X) dX0_init_38 (by decide) ?_
      have eS : ∀ t, t < i → va_up S i B1 t = S t := fun t ht => if_neg (by omega)
      have eB : va_up S i B1 i = B1 := if_pos rfl
      refine W.cs (cells' := 1 + 5 * (i + 1)) (slots' := 6 + 220 * (i + 1)) (by omega) (by omega) ?_
      refine ih (i + 1) (by omega) (va_up S i B1) Hd _ ?_ ?_ ?_ ?_ hS _ (lv_sub hl [1, 2, 0] rfl)
      · intro k q hq
        match k, hq with
        | 0, hq => cases hq; exact (hP 0 _ rfl).kept (hod _ (by omega))
        | 1, hq =>
          cases hq
          refine Eq.trans haD (congrArg some (cell_q (fun j hj => ?_)))
          rw [nI_clamp (show i < 2 ^ 31 by omega)]
          show (if j = i then some q1 else st_f i S j) = st_f (i + 1) (va_up S i B1) j
          unfold st_f
          by_cases hji : j = i
          · subst hji
            rw [if_pos rfl, if_pos (Nat.lt_succ_self _), eB, hB0]
          · rw [if_neg hji]
            by_cases hj2 : j < i
            · rw [if_pos hj2, if_pos (by omega), eS j hj2]
            · rw [if_neg hj2, if_neg (by omega)]
        | k + 2, hq => cases hq
      · intro t ht
        by_cases hti : t = i
        · subst hti
          rw [eB]
          exact kp_P (n := 5) (A := B1) (fun q => q = a2) hBL rfl (fun q _ hq => hod q hq) (fun j hj e => by have := hBg j hj; omega)
        · rw [eS t (by omega)]
          exact kp_P (n := 5) (A := S t) (fun q => q = a2) (hT2 t (by omega)) rfl (fun q _ hq => hod q hq) (fun j hj e => by have := h1 t j (by omega) hj; omega)
      · intro t j ht hj
        by_cases hti : t = i
        · subst hti
          rw [eB]
          have := hBg j hj
          omega
        · rw [eS t (by omega)]
          exact h1 t j (by omega) hj
      · intro t j t' j' ht hj ht' hj' he
        by_cases hti : t = i <;> by_cases hti' : t' = i
        · subst hti; subst hti'
          rw [eB] at he
          exact ⟨rfl, hB1.1 j j' hj hj' he⟩
        · subst hti
          rw [eB, eS t' (by omega)] at he
          have h5 := hBg j hj
          have h6 := hSl t' j' (by omega) hj'
          omega
        · subst hti'
          rw [eB, eS t (by omega)] at he
          have h5 := hBg j' hj'
          have h6 := hSl t j (by omega) hj
          omega
        · rw [eS t (by omega), eS t' (by omega)] at he
          exact h2 t j t' j' (by omega) hj (by omega) hj' he
  exact L 6 0 (by omega) (fun _ _ => 0) H2 _ hW0 (fun t ht => absurd ht (Nat.not_lt_zero t)) (fun t j ht => absurd ht (Nat.not_lt_zero t)) (fun t j t' j' ht => absurd ht (Nat.not_lt_zero t)) hS _ (lv_sub hl [1, 2, 0] rfl)
