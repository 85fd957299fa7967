theorem va_one {D : va_G} {q : Nat × va_E} {H : Heap} (h : va_at D vwCl q H) : va_P D vwCl [q] H := by
  intro k x hx
  have hz : k < 1 := (List.getElem?_eq_some_iff.mp hx).1
  obtain rfl : k = 0 := by omega
  cases hx
  exact h
def ad_X (x h0 a2 qs : Nat) (A0 : Nat → Nat) (S : Nat → Nat → Nat) (E : Nat → Nat) : Nat → Nat → Nat := fun i j => if i = 0 then A0 j else if i < 7 then S (i - 1) j else if i = 9 then (if j = 0 then x else if j = 1 then h0 else if j = 2 then a2 else qs) else E j
def p_0 : Nat → Bool := fun _ => false
def N_0 (G : Nat → Int32) (Q : Nat → Nat → Int32) : Nat → ns_T := fun _ => (nb_F ni_F, nb_R, G, Q)
theorem rg_q {q0 sz x : Nat} (hx : rg_s 1 (fun _ => q0) sz x) (h : q0 ≤ sz) : q0 ≤ x := by
  rcases hx with ⟨_, _, rfl⟩ | hx
  · exact Nat.le_refl _
  · omega
theorem kpx {D : va_G} {ws : va_W} {n x : Nat} {A : Nat → Nat} {H H1 : Heap} (hP : va_P D vwCl ws H) (hw : ws.map (fun q => q.1) = (List.range n).map A) (hA : ∀ j, j < n → A j ≠ x) (hk : ∀ q : Nat, q < H.size → q ≠ x → H1[q]? = H[q]?) : va_P D vwCl ws H1 := kp_P (fun q => q = x) hP hw hk hA
theorem tp_mk {D : va_G} {y : Nat → ClassId} {x h0 a2 qs sz nA nH : Nat} {B1 A0 E : Nat → Nat} {S : Nat → Nat → Nat} {G : Nat → Int32} {Q : Nat → Nat → Int32} {H : Heap} {P : Nat → Prop} (hPx : P x) (hPg : ∀ q, sz ≤ q → P q) (h1 : x < sz) (hB : ∀ k, k < 6 → sz ≤ B1 k ∧ B1 k < nA) (hA : ∀ j, j < 5 → nA ≤ A0 j ∧ A0 j < nH) (hAi : aj_s 5 A0) (hs : sz ≤ nA) (hh : nH ≤ h0) (hha : h0 < a2) (hS : ∀ i j, i < 6 → j < 5 → a2 < S i j ∧ S i j < qs) (hSi : ∀ i j i' j', i < 6 → j < 5 → i' < 6 → j' < 5 → S i j = S i' j' → i = i' ∧ j = j') (haq : a2 < qs) (hE : ∀ j, j < 5 → qs < E j) (hEi : aj_s 5 E)
    (fx : va_P D vwCl [(x, .inr (4, [.ref (A0 0), .ref h0, .ref qs, .ref (E 0)]))] H) (fL : va_P D vwCl (w1_s y B1 G Q) H) (fN : va_P D vwCl (w2_s y (B1 0) A0 (nb_F ni_F) nb_R) H) (fH : va_P D vwCl [(h0, .inr (0, [.int 0, .int 0, .ref a2])), (a2, .inl (y 3, 6, .inr (.inr (.inr (.inr (st_f 6 S))))))] H) (fS : ∀ i, i < 6 → va_P D vwCl (w2_s y (B1 0) (S i) (nb_F ni_F) nb_R) H) (fQ : va_P D vwCl [(qs, .inl (y 3, 2, .inr (.inr (.inr (.inr (fun _ => none))))))] H) (fU : va_P D vwCl (w3_s y E z_F z_R) H) :
    tp_e D y P (ad_X x h0 a2 qs A0 S E) (fun _ => B1) p_0 (hh_s 0 0) z_F z_R (N_0 G Q) H := by
  have e0 : ∀ j, ad_X x h0 a2 qs A0 S E 0 j = A0 j := fun j => rfl
  have eS : ∀ t j, t < 6 → ad_X x h0 a2 qs A0 S E (t + 1) j = S t j := fun t j ht => by
    unfold ad_X
    rw [if_neg (by omega), if_pos (by omega), Nat.add_sub_cancel]
  have eE : ∀ j, ad_X x h0 a2 qs A0 S E 10 j = E j := fun j => rfl
  have cs : ∀ i j, vz p_0 i j → (i = 0 ∧ j < 5 ∧ ad_X x h0 a2 qs A0 S E i j = A0 j) ∨ (∃ t, t < 6 ∧ i = t + 1 ∧ j < 5 ∧ ad_X x h0 a2 qs A0 S E i j = S t j) ∨ (i = 9 ∧ j = 0 ∧ ad_X x h0 a2 qs A0 S E i j = x) ∨ (i = 9 ∧ j = 1 ∧ ad_X x h0 a2 qs A0 S E i j = h0) ∨ (i = 9 ∧ j = 2 ∧ ad_X x h0 a2 qs A0 S E i j = a2) ∨ (i = 9 ∧ j = 3 ∧ ad_X x h0 a2 qs A0 S E i j = qs) ∨ (i = 10 ∧ j < 5 ∧ ad_X x h0 a2 qs A0 S E i j = E j) := by
    rintro i j (⟨hi, hj⟩ | ⟨rfl, hj⟩ | ⟨rfl, hj⟩)
    · have hi7 : i < 7 := by
        rcases hi with h | ⟨_, h⟩
        · exact h
        · exact absurd (show false = true from h) (by decide)
      cases i with
      | zero => exact Or.inl ⟨rfl, hj, rfl⟩
      | succ t => exact Or.inr (Or.inl ⟨t, by omega, rfl, hj, eS t j (by omega)⟩)
    · rcases (show j = 0 ∨ j = 1 ∨ j = 2 ∨ j = 3 by omega) with rfl | rfl | rfl | rfl
      · exact Or.inr (Or.inr (Or.inl ⟨rfl, rfl, rfl⟩))
      · exact Or.inr (Or.inr (Or.inr (Or.inl ⟨rfl, rfl, rfl⟩)))
      · exact Or.inr (Or.inr (Or.inr (Or.inr (Or.inl ⟨rfl, rfl, rfl⟩))))
      · exact Or.inr (Or.inr (Or.inr (Or.inr (Or.inr (Or.inl ⟨rfl, rfl, rfl⟩)))))
    · exact Or.inr (Or.inr (Or.inr (Or.inr (Or.inr (Or.inr ⟨rfl, hj, rfl⟩)))))
  have hA00 := hA 0 (by decide)
  refine ⟨fun i j i' j' hv hv' he => ?_, fun i j hv => ?_, fun i k hi hk => ⟨hPg _ (hB k hk).1, fun i' j' hv => ?_⟩, ?_, fU, fun i hi => ?_⟩
  · rcases cs i j hv with ⟨rfl, hj, e⟩ | ⟨t, ht, rfl, hj, e⟩ | ⟨rfl, rfl, e⟩ | ⟨rfl, rfl, e⟩ | ⟨rfl, rfl, e⟩ | ⟨rfl, rfl, e⟩ | ⟨rfl, hj, e⟩ <;> rcases cs i' j' hv' with ⟨hi', hj', e'⟩ | ⟨t', ht', hi', hj', e'⟩ | ⟨hi', hj', e'⟩ | ⟨hi', hj', e'⟩ | ⟨hi', hj', e'⟩ | ⟨hi', hj', e'⟩ | ⟨hi', hj', e'⟩ <;> rw [e, e'] at he <;> subst hi'
    all_goals first
      | (exact ⟨rfl, hAi _ _ hj hj' he⟩)
      | (exact ⟨rfl, hEi _ _ hj hj' he⟩)
      | (have r := hSi _ _ _ _ ht hj ht' hj' he; exact ⟨congrArg (· + 1) r.1, r.2⟩)
      | (exact ⟨rfl, hj'.symm⟩)
      | (exfalso
         try have w1 := hA j hj
         try have w2 := hA j' hj'
         try have w3 := hS t j ht hj
         try have w4 := hS t' j' ht' hj'
         try have w5 := hE j hj
         try have w6 := hE j' hj'
         omega)
  · rcases cs i j hv with ⟨rfl, hj, e⟩ | ⟨t, ht, rfl, hj, e⟩ | ⟨rfl, rfl, e⟩ | ⟨rfl, rfl, e⟩ | ⟨rfl, rfl, e⟩ | ⟨rfl, rfl, e⟩ | ⟨rfl, hj, e⟩ <;> rw [e]
    · have := hA j hj; exact hPg _ (by omega)
    · have := hS t j ht hj; have := hA 0 (by decide); exact hPg _ (by omega)
    · exact hPx
    · have := hA 0 (by decide); exact hPg _ (by omega)
    · have := hA 0 (by decide); exact hPg _ (by omega)
    · have := hA 0 (by decide); exact hPg _ (by omega)
    · have := hE j hj; have := hA 0 (by decide); exact hPg _ (by omega)
  · have hb := hB k hk
    have h00 := hA 0 (by decide)
    show B1 k ≠ _
    rcases cs i' j' hv with ⟨rfl, hj, e⟩ | ⟨t, ht, rfl, hj, e⟩ | ⟨rfl, rfl, e⟩ | ⟨rfl, rfl, e⟩ | ⟨rfl, rfl, e⟩ | ⟨rfl, rfl, e⟩ | ⟨rfl, hj, e⟩ <;> rw [e]
    · have := hA j' hj; omega
    · have := hS t j' ht hj; omega
    · omega
    · omega
    · omega
    · omega
    · have := hE j' hj; omega
  · intro k q hq
    match k, hq with
    | 0, hq => cases hq; exact fx 0 _ rfl
    | 1, hq => cases hq; exact fH 0 _ rfl
    | 2, hq =>
      cases hq
      refine Eq.trans (fH 1 _ rfl) (congrArg some (cell_q (fun j hj => ?_)))
      unfold st_f
      rw [if_pos hj, eS j 0 hj]
    | 3, hq =>
      cases hq
      refine Eq.trans (fQ 0 _ rfl) (congrArg some (cell_q (fun j hj => ?_)))
      rfl
    | k + 4, hq => cases hq
  · have hi7 : i < 7 := by
      rcases hi with h | ⟨_, h⟩
      · exact h
      · exact absurd (show false = true from h) (by decide)
    refine ⟨?_, fL⟩
    cases i with
    | zero => exact fN
    | succ t =>
      have e : ad_X x h0 a2 qs A0 S E (t + 1) = S t := by
        funext j
        exact eS t j (by omega)
      rw [e]
      exact fS t (by omega)
abbrev rm_X4_init : Room := { frames := 4, cells := 49, slots := 1890, locals := 95 }
set_option maxHeartbeats 4000000 in
set_option maxRecDepth 100000 in
theorem c_X4_init (l : Launch) (D : va_G) (y : Nat → ClassId) (x sz : Nat) (G : Nat → Int32) (Q : Nat → Nat → Int32) (hm : m1_init z_F z_R 3 4 2 2 = some (G, Q)) : Met l yX4_init (wy_s yX4_init cX4_init 2 none) rm_X4_init (pc_R D y [.ref x] (fun H => H.size = sz ∧ va_P D vwCl [(x, .inr (4, [.null, .null, .null, .null]))] H)) (qc_W none (fun H => ∃ ad NB : Nat → Nat → Nat, ad 9 0 = x ∧ tp_e D y (rg_s 1 (fun _ => x) sz) ad NB p_0 (hh_s 0 0) z_F z_R (N_0 G Q) H) (rg_s 1 (fun _ => x) sz)) 49 1890 (rg_s 1 (fun _ => x) sz) := by
  refine met_W (by decide) (Nat.le_of_ble_eq_true rfl) ?_
  intro p e s m args below meth c X hnm h0 ls hl
  obtain ⟨hsz, fx⟩ := h0
  subst hsz
  have hS : va_S (rg_s 1 (fun _ => x) s.heap.size) s.heap s.heap [] := va_S.rf
  have hxs : x < s.heap.size := (fx 0 _ rfl).lt
  replace hl : lv_has ls 2 [(0, .ref x)] := hl
  replace X : cx p s m args meth c cX4_init 2 none RX4 D y := X
  generalize hPP : rg_s 1 (fun _ => x) s.heap.size = PP at hS ⊢
  have hPx : PP x := by rw [← hPP]; exact Or.inl ⟨0, by decide, rfl⟩
  have hPg : ∀ q, s.heap.size ≤ q → PP q := fun q hq => by rw [← hPP]; exact Or.inr hq
  refine lv_aload_n (cx_x X) (cx_b X) dX4_init_0 rfl (lv_at hl 0 rfl) ?_
  refine ob_0 X hl.1 qw_6 qw_7 qw_8 (Nat.le_of_ble_eq_true rfl) dX4_init_1 (Nat.le_of_ble_eq_true rfl) (Nat.le_of_ble_eq_true rfl) ?_
  -- the layout
  refine fx_new (ci := 1) X inlX1 tyX1_ok qw_9 qw_10 qw_11 hS rfl [.int 0, .int 0, .int 0, .null, .null, .null, .null, .null] (fun j hj => by rcases (show j = 0 ∨ j = 1 ∨ j = 2 ∨ j = 3 ∨ j = 4 ∨ j = 5 ∨ j = 6 ∨ j = 7 by omega) with rfl | rfl | rfl | rfl | rfl | rfl | rfl | rfl <;> rfl) (Nat.le_of_ble_eq_true rfl) (Nat.le_of_ble_eq_true rfl) dX4_init_4 (fun Ha hNa hza hoa hS => ?_)
  obtain ⟨qL, hqL⟩ : ∃ qL, qL = s.heap.size := ⟨_, rfl⟩
  rw [← hqL] at hNa hza ⊢
  refine lv_dup (cx_x X) (cx_b X) dX4_init_7 rfl ?_
  refine lv_iconst (v := (3 : Int32)) (cx_x X) (cx_b X) dX4_init_8 (by decide) ?_
  refine lv_iconst (v := (4 : Int32)) (cx_x X) (cx_b X) dX4_init_9 (by decide) ?_
  refine lv_iconst (v := (2 : Int32)) (cx_x X) (cx_b X) dX4_init_10 (by decide) ?_
  refine lv_iconst (v := (2 : Int32)) (cx_x X) (cx_b X) dX4_init_11 (by decide) ?_
  refine af_W (mc := 5) (ms := 125) (rn_I (As := [.int 3, .int 4, .int 2, .int 2]) (rest := [.ref qL]) X (c_X1_init l D y qL _ 3 4 2 2 G Q hm) iq_X4_11 ⟨rfl, rfl⟩ ⟨Nat.le_of_ble_eq_true rfl, Nat.le_of_ble_eq_true rfl⟩ ⟨rfl, hNa⟩ rfl hl.1 rfl (Nat.le_of_ble_eq_true rfl) dX4_init_12 ⟨Nat.le_of_ble_eq_true rfl, Nat.le_of_ble_eq_true rfl⟩) hS (rg_in (hPg qL (by omega)) (fun q hq => hPg q (by omega))) (fun Hb locs hNb hzb hkb hS => ?_)
  obtain ⟨B1, hB0, hB1, fL⟩ := hNb
  have hfr1 : ∀ q : Nat, q < s.heap.size → Hb[q]? = s.heap[q]? := fun q hq => (hkb q (by omega) (rg_no (by omega) (by omega))).trans (hoa q hq)
  replace fx := kpx (n := 1) (A := fun _ => x) (x := Hb.size) fx rfl (fun j hj e => by omega) (fun q hq _ => hfr1 q hq)
  have hBr : ∀ k, k < 6 → s.heap.size ≤ B1 k ∧ B1 k < Hb.size := fun k hk => ⟨by have h := rg_q (hB1.2 k hk) (by omega); omega, lt_of fL (B := B1) (k := 6) rfl k hk⟩
  refine lv_astore_n (lv' := [(1, .ref qL), (0, .ref x)]) (cx_x X) (cx_b X) dX4_init_15 rfl hl (by decide) rfl (fun ls hl => ?_)
  -- the network
  refine lv_aload_n (cx_x X) (cx_b X) dX4_init_16 rfl (lv_at hl 1 rfl) ?_
  refine fx_new (ci := 2) X inlX2 tyX2_ok qw_12 qw_13 qw_14 hS rfl [.null, .int 0, .int 0, .int 0, .int 0, .int 0, .int 0, .int 0, .int 0, .int 0, .int 0, .null, .null, .null, .null] (fun j hj => by rcases (show j = 0 ∨ j = 1 ∨ j = 2 ∨ j = 3 ∨ j = 4 ∨ j = 5 ∨ j = 6 ∨ j = 7 ∨ j = 8 ∨ j = 9 ∨ j = 10 ∨ j = 11 ∨ j = 12 ∨ j = 13 ∨ j = 14 by omega) with rfl | rfl | rfl | rfl | rfl | rfl | rfl | rfl | rfl | rfl | rfl | rfl | rfl | rfl | rfl <;> rfl) (Nat.le_of_ble_eq_true rfl) (Nat.le_of_ble_eq_true rfl) dX4_init_17 (fun Hc hNc hzc hoc hS => ?_)
  obtain ⟨qN, hqN⟩ : ∃ qN, qN = Hb.size := ⟨_, rfl⟩
  rw [← hqN] at hNc hzc ⊢
  refine lv_dup (cx_x X) (cx_b X) dX4_init_20 rfl ?_
  refine lv_aload_n (cx_x X) (cx_b X) dX4_init_21 rfl (lv_at hl 0 rfl) ?_
  refine af_W (mc := 4) (ms := 205) (rn_I (As := [.ref qL]) (rest := [.ref qN, .ref x]) X (c_X2_init l D y qN _ qL) iq_X4_16 ⟨rfl, rfl⟩ ⟨Nat.le_of_ble_eq_true rfl, Nat.le_of_ble_eq_true rfl⟩ ⟨rfl, hNc⟩ rfl hl.1 rfl (Nat.le_of_ble_eq_true rfl) dX4_init_22 ⟨Nat.le_of_ble_eq_true rfl, Nat.le_of_ble_eq_true rfl⟩) hS (rg_in (hPg qN (by omega)) (fun q hq => hPg q (by omega))) (fun Hd locs hNd hzd hkd hS => ?_)
  obtain ⟨A0, hA0, hA1, fN⟩ := hNd
  have hfr2 : ∀ q : Nat, q < Hb.size → Hd[q]? = Hb[q]? := fun q hq => (hkd q (by omega) (rg_no (by omega) (by omega))).trans (hoc q hq)
  replace fx := kpx (n := 1) (A := fun _ => x) (x := Hd.size) fx rfl (fun j hj e => by omega) (fun q hq _ => hfr2 q hq)
  replace fL := kpx (n := 6) (A := B1) (x := Hd.size) fL rfl (fun j hj e => by have := hBr j hj; omega) (fun q hq _ => hfr2 q hq)
  have hAr : ∀ k, k < 5 → qN ≤ A0 k ∧ A0 k < Hd.size := fun k hk => ⟨by have h := rg_q (hA1.2 k hk) (by omega); omega, lt_of fN (B := A0) (k := 5) rfl k hk⟩
  refine fx_putF X inlX4 tyX4_ok nmX4 (fx 0 _ rfl) rfl 0 (by decide) qw_15 (fun _ h => h) rfl hnm rfl (ty := .object "ChannelBorrower$Network") (v := .ref qN) (by decide +kernel) rfl rfl (Nat.le_of_ble_eq_true rfl) hS hPx dX4_init_25 (fun He locs hae hze hoe hS => ?_)
  replace fL := kpx (n := 6) (A := B1) (x := x) fL rfl (fun j hj e => by have := hBr j hj; omega) (fun q _ hq => hoe q hq)
  replace fN := kpx (n := 5) (A := A0) (x := x) fN rfl (fun j hj e => by have := hAr j hj; omega) (fun q _ hq => hoe q hq)
  replace fx : va_P D vwCl [(x, .inr (4, [.ref qN, .null, .null, .null]))] He := va_one hae
  -- the history
  refine lv_aload_n (cx_x X) (cx_b X) dX4_init_28 rfl (lv_at hl 1 rfl) ?_
  refine fx_new (ci := 0) X inlX0 tyX0_ok qw_16 qw_17 qw_18 hS rfl [.int 0, .int 0, .null] (fun j hj => by rcases (show j = 0 ∨ j = 1 ∨ j = 2 by omega) with rfl | rfl | rfl <;> rfl) (Nat.le_of_ble_eq_true rfl) (Nat.le_of_ble_eq_true rfl) dX4_init_29 (fun Hf hNf hzf hof hS => ?_)
  obtain ⟨qH, hqH⟩ : ∃ qH, qH = He.size := ⟨_, rfl⟩
  rw [← hqH] at hNf hzf ⊢
  refine lv_dup (cx_x X) (cx_b X) dX4_init_32 rfl ?_
  refine lv_aload_n (cx_x X) (cx_b X) dX4_init_33 rfl (lv_at hl 0 rfl) ?_
  refine af_W (mc := 31) (ms := 1326) (rn_I (As := [.ref qL]) (rest := [.ref qH, .ref x]) X (c_X0_init l D y qH _ qL) iq_X4_25 ⟨rfl, rfl⟩ ⟨Nat.le_of_ble_eq_true rfl, Nat.le_of_ble_eq_true rfl⟩ ⟨rfl, hNf⟩ rfl hl.1 rfl (Nat.le_of_ble_eq_true rfl) dX4_init_34 ⟨Nat.le_of_ble_eq_true rfl, Nat.le_of_ble_eq_true rfl⟩) hS (rg_in (hPg qH (by omega)) (fun q hq => hPg q (by omega))) (fun Hg locs hNg hzg hkg hS => ?_)
  obtain ⟨a2, S, fH, fS, ha2, hS1, hS2⟩ := hNg
  have hfr3 : ∀ q : Nat, q < He.size → Hg[q]? = He[q]? := fun q hq => (hkg q (by omega) (rg_no (by omega) (by omega))).trans (hof q hq)
  replace fx := kpx (n := 1) (A := fun _ => x) (x := Hg.size) fx rfl (fun j hj e => by omega) (fun q hq _ => hfr3 q hq)
  replace fL := kpx (n := 6) (A := B1) (x := Hg.size) fL rfl (fun j hj e => by have := hBr j hj; omega) (fun q hq _ => hfr3 q hq)
  replace fN := kpx (n := 5) (A := A0) (x := Hg.size) fN rfl (fun j hj e => by have := hAr j hj; omega) (fun q hq _ => hfr3 q hq)
  have hSr : ∀ i j, i < 6 → j < 5 → a2 < S i j ∧ S i j < Hg.size := fun i j hi hj => ⟨hS1 i j hi hj, lt_of (fS i hi) (B := S i) (k := 5) rfl j hj⟩
  have ha2g : a2 < Hg.size := (fH 1 _ rfl).lt
  refine fx_putF X inlX4 tyX4_ok nmX4 (fx 0 _ rfl) rfl 1 (by decide) qw_19 (fun _ h => h) rfl hnm rfl (ty := .object "ChannelBorrower$History") (v := .ref qH) (by decide +kernel) rfl rfl (Nat.le_of_ble_eq_true rfl) hS hPx dX4_init_37 (fun Hh locs hah hzh hoh hS => ?_)
  replace fL := kpx (n := 6) (A := B1) (x := x) fL rfl (fun j hj e => by have := hBr j hj; omega) (fun q _ hq => hoh q hq)
  replace fN := kpx (n := 5) (A := A0) (x := x) fN rfl (fun j hj e => by have := hAr j hj; omega) (fun q _ hq => hoh q hq)
  replace fH := kpx (n := 2) (A := ad_s [qH, a2]) (x := x) fH rfl (fun j hj e => by rcases (show j = 0 ∨ j = 1 by omega) with rfl | rfl <;> simp [ad_s] at e <;> omega) (fun q _ hq => hoh q hq)
  replace fS : ∀ i, i < 6 → va_P D vwCl (w2_s y qL (S i) (nb_F ni_F) nb_R) Hh := fun i hi => kpx (n := 5) (A := S i) (x := x) (fS i hi) rfl (fun j hj e => by have := hSr i j hi hj; omega) (fun q _ hq => hoh q hq)
  replace fx : va_P D vwCl [(x, .inr (4, [.ref qN, .ref qH, .null, .null]))] Hh := va_one hah
  -- the snapshots
  refine lv_aload_n (cx_x X) (cx_b X) dX4_init_40 rfl (lv_at hl 1 rfl) ?_
  refine lv_iconst (v := (2 : Int32)) (cx_x X) (cx_b X) dX4_init_41 (by decide) ?_
  refine fx_newq X qw_12 hS (N' := 2) (by decide) (by decide) (Nat.le_of_ble_eq_true rfl) (Nat.le_of_ble_eq_true rfl) (Nat.le_of_ble_eq_true rfl) dX4_init_42 (fun Hi fQ hzi hoi hS => ?_)
  obtain ⟨qs, hqs⟩ : ∃ qs, qs = Hh.size := ⟨_, rfl⟩
  rw [← hqs] at fQ hzi ⊢
  replace fx := kpx (n := 1) (A := fun _ => x) (x := Hi.size) fx rfl (fun j hj e => by omega) (fun q hq _ => hoi q hq)
  replace fL := kpx (n := 6) (A := B1) (x := Hi.size) fL rfl (fun j hj e => by have := hBr j hj; omega) (fun q hq _ => hoi q hq)
  replace fN := kpx (n := 5) (A := A0) (x := Hi.size) fN rfl (fun j hj e => by have := hAr j hj; omega) (fun q hq _ => hoi q hq)
  replace fH := fH.kept (fun k q hq => hoi q.1 (fH k q hq).lt)
  replace fS : ∀ i, i < 6 → va_P D vwCl (w2_s y qL (S i) (nb_F ni_F) nb_R) Hi := fun i hi => (fS i hi).kept (fun k q hq => hoi q.1 ((fS i hi) k q hq).lt)
  refine fx_putF X inlX4 tyX4_ok nmX4 (fx 0 _ rfl) rfl 2 (by decide) qw_20 (fun _ h => h) rfl hnm rfl (ty := .array (.object "ChannelBorrower$Network")) (v := .ref qs) (by decide +kernel) rfl rfl (Nat.le_of_ble_eq_true rfl) hS hPx dX4_init_45 (fun Hj locs haj hzj hoj hS => ?_)
  replace fL := kpx (n := 6) (A := B1) (x := x) fL rfl (fun j hj e => by have := hBr j hj; omega) (fun q _ hq => hoj q hq)
  replace fN := kpx (n := 5) (A := A0) (x := x) fN rfl (fun j hj e => by have := hAr j hj; omega) (fun q _ hq => hoj q hq)
  replace fH := kpx (n := 2) (A := ad_s [qH, a2]) (x := x) fH rfl (fun j hj e => by rcases (show j = 0 ∨ j = 1 by omega) with rfl | rfl <;> simp [ad_s] at e <;> omega) (fun q _ hq => hoj q hq)
  replace fS : ∀ i, i < 6 → va_P D vwCl (w2_s y qL (S i) (nb_F ni_F) nb_R) Hj := fun i hi => kpx (n := 5) (A := S i) (x := x) (fS i hi) rfl (fun j hj e => by have := hSr i j hi hj; omega) (fun q _ hq => hoj q hq)
  replace fQ := kpx (n := 1) (A := fun _ => qs) (x := x) fQ rfl (fun j hj e => by omega) (fun q _ hq => hoj q hq)
  replace fx : va_P D vwCl [(x, .inr (4, [.ref qN, .ref qH, .ref qs, .null]))] Hj := va_one haj
  -- the script
  refine lv_aload_n (cx_x X) (cx_b X) dX4_init_48 rfl (lv_at hl 1 rfl) ?_
  refine fx_new (ci := 3) X inlX3 tyX3_ok qw_21 qw_22 qw_23 hS rfl [.int 0, .int 0, .int 0, .null, .null, .null, .null] (fun j hj => by rcases (show j = 0 ∨ j = 1 ∨ j = 2 ∨ j = 3 ∨ j = 4 ∨ j = 5 ∨ j = 6 by omega) with rfl | rfl | rfl | rfl | rfl | rfl | rfl <;> rfl) (Nat.le_of_ble_eq_true rfl) (Nat.le_of_ble_eq_true rfl) dX4_init_49 (fun Hk hNk hzk hok hS => ?_)
  obtain ⟨qE, hqE⟩ : ∃ qE, qE = Hj.size := ⟨_, rfl⟩
  rw [← hqE] at hNk hzk ⊢
  refine lv_dup (cx_x X) (cx_b X) dX4_init_52 rfl ?_
  refine af_W (mc := 4) (ms := 199) (rn_J (As := []) (rest := [.ref qE, .ref x]) X (c_X3_init l D y qE _) (List.mem_of_getElem? (i := 0) rfl) ⟨qw_97, qw_23, qw_98, rfl, by decide, by decide, by decide +kernel⟩ ⟨rfl, rfl⟩ ⟨Nat.le_of_ble_eq_true rfl, Nat.le_of_ble_eq_true rfl⟩ ⟨rfl, hNk⟩ rfl hl.1 rfl (Nat.le_of_ble_eq_true rfl) dX4_init_53 ⟨Nat.le_of_ble_eq_true rfl, Nat.le_of_ble_eq_true rfl⟩) hS (rg_in (hPg qE (by omega)) (fun q hq => hPg q (by omega))) (fun Hl locs hNl hzl hkl hS => ?_)
  obtain ⟨E, hE0, hE1, fU⟩ := hNl
  have hfr4 : ∀ q : Nat, q < Hj.size → Hl[q]? = Hj[q]? := fun q hq => (hkl q (by omega) (rg_no (by omega) (by omega))).trans (hok q hq)
  replace fx := kpx (n := 1) (A := fun _ => x) (x := Hl.size) fx rfl (fun j hj e => by omega) (fun q hq _ => hfr4 q hq)
  replace fL := kpx (n := 6) (A := B1) (x := Hl.size) fL rfl (fun j hj e => by have := hBr j hj; omega) (fun q hq _ => hfr4 q hq)
  replace fN := kpx (n := 5) (A := A0) (x := Hl.size) fN rfl (fun j hj e => by have := hAr j hj; omega) (fun q hq _ => hfr4 q hq)
  replace fH := fH.kept (fun k q hq => hfr4 q.1 (fH k q hq).lt)
  replace fS : ∀ i, i < 6 → va_P D vwCl (w2_s y qL (S i) (nb_F ni_F) nb_R) Hl := fun i hi => (fS i hi).kept (fun k q hq => hfr4 q.1 ((fS i hi) k q hq).lt)
  replace fQ := fQ.kept (fun k q hq => hfr4 q.1 (fQ k q hq).lt)
  have hEr : ∀ k, k < 5 → qE ≤ E k := fun k hk => by have h := rg_q (hE1.2 k hk) (by omega); omega
  refine fx_putF X inlX4 tyX4_ok nmX4 (fx 0 _ rfl) rfl 3 (by decide) qw_24 (fun _ h => h) rfl hnm rfl (ty := .object "ChannelBorrower$Script") (v := .ref qE) (by decide +kernel) rfl rfl (Nat.le_of_ble_eq_true rfl) hS hPx dX4_init_56 (fun Hm locs ham hzm hom hS => ?_)
  replace fL := kpx (n := 6) (A := B1) (x := x) fL rfl (fun j hj e => by have := hBr j hj; omega) (fun q _ hq => hom q hq)
  replace fN := kpx (n := 5) (A := A0) (x := x) fN rfl (fun j hj e => by have := hAr j hj; omega) (fun q _ hq => hom q hq)
  replace fH := kpx (n := 2) (A := ad_s [qH, a2]) (x := x) fH rfl (fun j hj e => by rcases (show j = 0 ∨ j = 1 by omega) with rfl | rfl <;> simp [ad_s] at e <;> omega) (fun q _ hq => hom q hq)
  replace fS : ∀ i, i < 6 → va_P D vwCl (w2_s y qL (S i) (nb_F ni_F) nb_R) Hm := fun i hi => kpx (n := 5) (A := S i) (x := x) (fS i hi) rfl (fun j hj e => by have := hSr i j hi hj; omega) (fun q _ hq => hom q hq)
  replace fQ := kpx (n := 1) (A := fun _ => qs) (x := x) fQ rfl (fun j hj e => by omega) (fun q _ hq => hom q hq)
  replace fU := kpx (n := 5) (A := E) (x := x) fU rfl (fun j hj e => by have := hEr j hj; omega) (fun q _ hq => hom q hq)
  replace fx : va_P D vwCl [(x, .inr (4, [.ref qN, .ref qH, .ref qs, .ref qE]))] Hm := va_one ham
  rw [← hA0, ← hE0] at fx
  rw [← hB0] at fN fS
  exact gx_v X (Nat.le_of_ble_eq_true rfl) (Nat.le_of_ble_eq_true rfl) hS ⟨_, _, rfl, tp_mk (nA := qN) (nH := qH) (sz := s.heap.size) hPx hPg hxs (fun k hk => ⟨(hBr k hk).1, by have := hBr k hk; omega⟩) (fun j hj => ⟨(hAr j hj).1, by have := hAr j hj; omega⟩) hA1.1 (by omega) (Nat.le_refl _) (by omega) (fun i j hi hj => ⟨(hSr i j hi hj).1, by have := hSr i j hi hj; omega⟩) hS2 (by omega) (fun j hj => by have := hEr j hj; omega) hE1.1 fx fL fN fH fS fQ fU⟩ dX4_init_59
