/-! X5_in -/
def m5_in_J15  (v1 : Int32) : Option Int32 :=
  if v1 &&& 1 = v1 then some v1 else none
def m5_in (a0 : Int32) (a1 : Int32) (a2 : Int32) : Option Int32 :=
  (if a0 < a1 then
  some (0 : Int32)
  else
  if a2 < a0 then
  some (0 : Int32)
  else
  some (1 : Int32)).bind fun v1 => m5_in_J15 v1
abbrev rm_X5_in : Room := { frames := 0, cells := 0, slots := 0, locals := 0 }
set_option maxHeartbeats 4000000 in
set_option maxRecDepth 100000 in
theorem c_X5_in (l : Launch) (D : va_G) (y : Nat → ClassId) (a0 : Int32) (a1 : Int32) (a2 : Int32) (r : Int32) (hm : m5_in a0 a1 a2 = some r) : Met l yX5_in (wy_s yX5_in cX5_in 3 (some .boolean)) rm_X5_in (pc_R D y [.int a0, .int a1, .int a2] (fun _ => True)) (qc_R r) 0 0 (fun _ => False) := by
  refine met_R (by decide) (Nat.le_of_ble_eq_true rfl) ?_
  intro p e s m args below meth c X h0 ls hl
  replace hl : lv_has ls 3 [(0, .int a0), (1, .int a1), (2, .int a2)] := hl
  replace X : cx p s m args meth c cX5_in 3 (some .boolean) RX5 D y := X
  unfold m5_in at hm
  refine lv_iload_n (cx_x X) (cx_b X) dX5_in_0 rfl (lv_at hl 0 rfl) ?_
  refine lv_iload_n (cx_x X) (cx_b X) dX5_in_1 rfl (lv_at hl 1 rfl) ?_
  obtain ⟨qt2, hm, hmt2⟩ := bnd hm
  have Jt2 : ∀ (v1 : Int32) , m5_in_J15 v1 = some r → ∀ ls, lv_has ls 3 [] → gr p l e rm_X5_in s m args below meth c r (F0 m 15 ls [.int v1]) := by
    intro v1 hm ls hl
    unfold m5_in_J15 at hm
    obtain ⟨h0, hm⟩ := ck_E hm
    exact gr_z X h0 hm dX5_in_15
  refine lv_icmp_lt (tgt := 14) (cx_x X) (cx_b X) dX5_in_2 (by decide) (fun c3 => ?_) (fun c3 => ?_)
  · replace hm := if_T c3 hm
    refine lv_iconst (v := (0 : Int32)) (cx_x X) (cx_b X) dX5_in_14 (by decide) ?_
    exact Jt2 _ (by cases hm; exact hmt2) _ (lv_sub hl [] rfl)
  · replace hm := if_F c3 hm
    refine lv_iload_n (cx_x X) (cx_b X) dX5_in_5 rfl (lv_at hl 0 rfl) ?_
    refine lv_iload_n (cx_x X) (cx_b X) dX5_in_6 rfl (lv_at hl 2 rfl) ?_
    refine lv_icmp_gt (tgt := 14) (cx_x X) (cx_b X) dX5_in_7 (by decide) (fun c4 => ?_) (fun c4 => ?_)
    · replace hm := if_T c4 hm
      refine lv_iconst (v := (0 : Int32)) (cx_x X) (cx_b X) dX5_in_14 (by decide) ?_
      exact Jt2 _ (by cases hm; exact hmt2) _ (lv_sub hl [] rfl)
    · replace hm := if_F c4 hm
      refine lv_iconst (v := (1 : Int32)) (cx_x X) (cx_b X) dX5_in_10 (by decide) ?_
      refine lv_goto (tgt := 15) (cx_x X) (cx_b X) dX5_in_11 (by decide) ?_
      exact Jt2 _ (by cases hm; exact hmt2) _ (lv_sub hl [] rfl)
/-! X5_calls -/
def m5_calls_X36  (v4 : Int32) : Option Int32 :=
  some v4
def m5_calls_J28 (kkt1 : (Int32 × Int32) → Option Int32) (v2 : Int32) (v3 : Int32) (v7 : Int32) : Option Int32 :=
  kkt1 ((v2 + v7), (v3 + (1 : Int32)))
def m5_calls_L4 (R : (Nat → Nat → Int32)) (kkt1 : (Int32 × Int32) → Option Int32) (t0 : (Int32 × Int32)) : Option Int32 :=
  if (60 : Int32) ≤ t0.2 then
  some t0.1
  else
  if inb ((14 : Int32) + t0.2) 194 then
  (if (R 0 ((14 : Int32) + t0.2).toNatClampNeg) ≤ 0 then
  some (0 : Int32)
  else
  some (1 : Int32)).bind fun v7 => m5_calls_J28 kkt1 t0.1 t0.2 v7 else none
def m5_calls (F : (Nat → Int32)) (R : (Nat → Nat → Int32)) : Option Int32 :=
  (wh (m5_calls_L4 R) 2000 ((0 : Int32), (0 : Int32))).bind fun v4 => m5_calls_X36 v4
abbrev rm_X5_calls : Room := { frames := 0, cells := 0, slots := 0, locals := 0 }
set_option maxHeartbeats 4000000 in
set_option maxRecDepth 100000 in
theorem c_X5_calls (l : Launch) (D : va_G) (y : Nat → ClassId) (A : Nat → Nat) (F : (Nat → Int32)) (R : (Nat → Nat → Int32)) (r : Int32) (hm : m5_calls F R = some r) : Met l yX5_calls (wy_s yX5_calls cX5_calls 3 (some .int)) rm_X5_calls (pc_R D y [.ref (A 0)] (fun H => va_P D vwCl (w5_s y A F R) H)) (qc_R r) 0 0 (fun _ => False) := by
  refine met_R (by decide) (Nat.le_of_ble_eq_true rfl) ?_
  intro p e s m args below meth c X h0 ls hl
  have hP5 := h0
  replace hl : lv_has ls 3 [(0, .ref (A 0))] := hl
  replace X : cx p s m args meth c cX5_calls 3 (some .int) RX5 D y := X
  unfold m5_calls at hm
  refine lv_iconst (v := (0 : Int32)) (cx_x X) (cx_b X) dX5_calls_0 (by decide) ?_
  refine lv_istore_n (lv' := [(1, .int (0 : Int32)), (0, .ref (A 0))]) (cx_x X) (cx_b X) dX5_calls_1 rfl hl (by decide) rfl (fun ls hl => ?_)
  refine lv_iconst (v := (0 : Int32)) (cx_x X) (cx_b X) dX5_calls_2 (by decide) ?_
  refine lv_istore_n (lv' := [(2, .int (0 : Int32)), (1, .int (0 : Int32)), (0, .ref (A 0))]) (cx_x X) (cx_b X) dX5_calls_3 rfl hl (by decide) rfl (fun ls hl => ?_)
  obtain ⟨qt1, hm, hmt1⟩ := bnd hm
  have Xt1 : ∀ (v4 : Int32) , m5_calls_X36 v4 = some r → ∀ ls, lv_has ls 3 [(1, .int v4)] → gr p l e rm_X5_calls s m args below meth c r (F0 m 36 ls []) := by
    intro v4 hm ls hl
    unfold m5_calls_X36 at hm
    refine lv_iload_n (cx_x X) (cx_b X) dX5_calls_36 rfl (lv_at hl 0 rfl) ?_
    exact gr_i X hm dX5_calls_37
  have Lt1 : ∀ (n : Nat) (v2 : Int32) (v3 : Int32) , wh (m5_calls_L4 R) n (v2, v3) = some qt1 → ∀ ls, lv_has ls 3 [(0, .ref (A 0)), (1, .int v2), (2, .int v3)] → gr p l e rm_X5_calls s m args below meth c r (F0 m 4 ls []) := by
    intro n
    induction n with
    | zero => intro v2 v3 hm; cases hm
    | succ n ih =>
      intro v2 v3 hm ls hl
      replace hm : (m5_calls_L4 R) (wh (m5_calls_L4 R) n) (v2, v3) = some qt1 := hm
      dsimp only [m5_calls_L4] at hm
      refine lv_iload_n (cx_x X) (cx_b X) dX5_calls_4 rfl (lv_at hl 2 rfl) ?_
      refine lv_bipush (v := (60 : Int32)) (cx_x X) (cx_b X) dX5_calls_5 (by decide) ?_
      refine lv_icmp_ge (tgt := 36) (cx_x X) (cx_b X) dX5_calls_7 (by decide) (fun c5 => ?_) (fun c5 => ?_)
      · replace hm := if_T c5 hm
        exact Xt1 _ (by cases hm; exact hmt1) _ (lv_sub hl [1] rfl)
      · replace hm := if_F c5 hm
        refine lv_iload_n (cx_x X) (cx_b X) dX5_calls_10 rfl (lv_at hl 1 rfl) ?_
        refine lv_aload_n (cx_x X) (cx_b X) dX5_calls_11 rfl (lv_at hl 0 rfl) ?_
        refine gf_X5_7 X hP5 dX5_calls_12 ?_
        refine lv_bipush (v := (14 : Int32)) (cx_x X) (cx_b X) dX5_calls_15 (by decide) ?_
        refine lv_iload_n (cx_x X) (cx_b X) dX5_calls_17 rfl (lv_at hl 2 rfl) ?_
        refine lv_iadd (cx_x X) (cx_b X) dX5_calls_18 ?_
        obtain ⟨h6, hm⟩ := ck_E hm
        refine ld_5_0 X hP5 h6 dX5_calls_19 ?_
        obtain ⟨qt8, hm, hmt8⟩ := bnd hm
        have Jt8 : ∀ (v7 : Int32) , m5_calls_J28 (wh (m5_calls_L4 R) n) v2 v3 v7 = some qt1 → ∀ ls, lv_has ls 3 [(0, .ref (A 0)), (2, .int v3)] → gr p l e rm_X5_calls s m args below meth c r (F0 m 28 ls [.int v7, .int v2]) := by
          intro v7 hm ls hl
          unfold m5_calls_J28 at hm
          refine lv_iadd (cx_x X) (cx_b X) dX5_calls_28 ?_
          refine lv_istore_n (lv' := [(1, .int (v2 + v7)), (0, .ref (A 0)), (2, .int v3)]) (cx_x X) (cx_b X) dX5_calls_29 rfl hl (by decide) rfl (fun ls hl => ?_)
          refine lv_iinc (v := (v3 + (1 : Int32))) (lv' := [(2, .int (v3 + (1 : Int32))), (1, .int (v2 + v7)), (0, .ref (A 0))]) (cx_x X) (cx_b X) dX5_calls_30 hl (k := 2) rfl (by rfl) (by decide) rfl (fun ls hl => ?_)
          refine lv_goto (tgt := 4) (cx_x X) (cx_b X) dX5_calls_33 (by decide) ?_
          exact ih _ _ hm _ (lv_sub hl [2, 1, 0] rfl)
        refine lv_if_le (tgt := 27) (cx_x X) (cx_b X) dX5_calls_20 (by decide) (fun c9 => ?_) (fun c9 => ?_)
        · replace hm := if_T c9 hm
          refine lv_iconst (v := (0 : Int32)) (cx_x X) (cx_b X) dX5_calls_27 (by decide) ?_
          exact Jt8 _ (by cases hm; exact hmt8) _ (lv_sub hl [0, 2] rfl)
        · replace hm := if_F c9 hm
          refine lv_iconst (v := (1 : Int32)) (cx_x X) (cx_b X) dX5_calls_23 (by decide) ?_
          refine lv_goto (tgt := 28) (cx_x X) (cx_b X) dX5_calls_24 (by decide) ?_
          exact Jt8 _ (by cases hm; exact hmt8) _ (lv_sub hl [0, 2] rfl)
  exact Lt1 _ _ _ hm _ (lv_sub hl [2, 1, 0] rfl)
/-! X5_cells -/
def m5_cells (F : (Nat → Int32)) (R : (Nat → Nat → Int32)) : Option Int32 :=
  some ((R 0 (0 : Int32).toNatClampNeg) * (R 0 (1 : Int32).toNatClampNeg))
abbrev rm_X5_cells : Room := { frames := 0, cells := 0, slots := 0, locals := 0 }
set_option maxHeartbeats 4000000 in
set_option maxRecDepth 100000 in
theorem c_X5_cells (l : Launch) (D : va_G) (y : Nat → ClassId) (A : Nat → Nat) (F : (Nat → Int32)) (R : (Nat → Nat → Int32)) (r : Int32) (hm : m5_cells F R = some r) : Met l yX5_cells (wy_s yX5_cells cX5_cells 1 (some .int)) rm_X5_cells (pc_R D y [.ref (A 0)] (fun H => va_P D vwCl (w5_s y A F R) H)) (qc_R r) 0 0 (fun _ => False) := by
  refine met_R (by decide) (Nat.le_of_ble_eq_true rfl) ?_
  intro p e s m args below meth c X h0 ls hl
  have hP5 := h0
  replace hl : lv_has ls 1 [(0, .ref (A 0))] := hl
  replace X : cx p s m args meth c cX5_cells 1 (some .int) RX5 D y := X
  unfold m5_cells at hm
  refine lv_aload_n (cx_x X) (cx_b X) dX5_cells_0 rfl (lv_at hl 0 rfl) ?_
  refine gf_X5_7 X hP5 dX5_cells_1 ?_
  refine lv_iconst (v := (0 : Int32)) (cx_x X) (cx_b X) dX5_cells_4 (by decide) ?_
  refine ld_5_0 X hP5 (by decide) dX5_cells_5 ?_
  refine lv_aload_n (cx_x X) (cx_b X) dX5_cells_6 rfl (lv_at hl 0 rfl) ?_
  refine gf_X5_7 X hP5 dX5_cells_7 ?_
  refine lv_iconst (v := (1 : Int32)) (cx_x X) (cx_b X) dX5_cells_10 (by decide) ?_
  refine ld_5_0 X hP5 (by decide) dX5_cells_11 ?_
  refine lv_imul (cx_x X) (cx_b X) dX5_cells_12 ?_
  exact gr_i X hm dX5_cells_13
/-! X5_isCell -/
def m5_isCell (F : (Nat → Int32)) (R : (Nat → Nat → Int32)) (a1 : Int32) : Option Int32 :=
  (m5_cells F R).bind fun v2 =>
  (m5_in a1 (0 : Int32) (v2 - (1 : Int32))).bind fun v4 =>
  if v4 &&& 1 = v4 then some v4 else none
abbrev rm_X5_isCell : Room := { frames := 1, cells := 0, slots := 0, locals := 22 }
set_option maxHeartbeats 4000000 in
set_option maxRecDepth 100000 in
theorem c_X5_isCell (l : Launch) (D : va_G) (y : Nat → ClassId) (A : Nat → Nat) (F : (Nat → Int32)) (R : (Nat → Nat → Int32)) (a1 : Int32) (r : Int32) (hm : m5_isCell F R a1 = some r) : Met l yX5_isCell (wy_s yX5_isCell cX5_isCell 2 (some .boolean)) rm_X5_isCell (pc_R D y [.ref (A 0), .int a1] (fun H => va_P D vwCl (w5_s y A F R) H)) (qc_R r) 0 0 (fun _ => False) := by
  refine met_R (by decide) (Nat.le_of_ble_eq_true rfl) ?_
  intro p e s m args below meth c X h0 ls hl
  have hP5 := h0
  replace hl : lv_has ls 2 [(0, .ref (A 0)), (1, .int a1)] := hl
  replace X : cx p s m args meth c cX5_isCell 2 (some .boolean) RX5 D y := X
  unfold m5_isCell at hm
  refine lv_iload_n (cx_x X) (cx_b X) dX5_isCell_0 rfl (lv_at hl 1 rfl) ?_
  refine lv_iconst (v := (0 : Int32)) (cx_x X) (cx_b X) dX5_isCell_1 (by decide) ?_
  refine lv_aload_n (cx_x X) (cx_b X) dX5_isCell_2 rfl (lv_at hl 0 rfl) ?_
  obtain ⟨v2, h1, hm⟩ := bnd hm
  refine af_R (rn_V (As := []) (rest := [.int (0 : Int32), .int a1]) X (c_X5_cells l D y A F R  _ h1) vq_X5_42 ⟨rfl, rfl⟩ ⟨Nat.le_of_ble_eq_true rfl, Nat.le_of_ble_eq_true rfl⟩ (rec_5 X hP5) hP5 rfl hl.1 rfl (Nat.le_of_ble_eq_true rfl) dX5_isCell_3 ⟨Nat.le_refl _, Nat.le_refl _⟩) ?_
  refine lv_iconst (v := (1 : Int32)) (cx_x X) (cx_b X) dX5_isCell_6 (by decide) ?_
  refine lv_isub (cx_x X) (cx_b X) dX5_isCell_7 ?_
  obtain ⟨v4, h3, hm⟩ := bnd hm
  refine af_R (rn_S (As := [.int a1, .int (0 : Int32), .int (v2 - (1 : Int32))]) (rest := []) X (c_X5_in l D y a1 (0 : Int32) (v2 - (1 : Int32))  _ h3) sq_X5_34 ⟨rfl, rfl⟩ ⟨Nat.le_of_ble_eq_true rfl, Nat.le_of_ble_eq_true rfl⟩ trivial rfl hl.1 rfl (Nat.le_of_ble_eq_true rfl) dX5_isCell_8 ⟨Nat.le_refl _, Nat.le_refl _⟩) ?_
  obtain ⟨h0, hm⟩ := ck_E hm
  exact gr_z X h0 hm dX5_isCell_11
/-! X5_groups -/
def m5_groups_J16  (v1 : Int32) : Option Int32 :=
  some v1
def m5_groups (F : (Nat → Int32)) (R : (Nat → Nat → Int32)) : Option Int32 :=
  (if (R 0 (2 : Int32).toNatClampNeg) = (2 : Int32) then
  some (3 : Int32)
  else
  some (7 : Int32)).bind fun v1 => m5_groups_J16 v1
abbrev rm_X5_groups : Room := { frames := 0, cells := 0, slots := 0, locals := 0 }
set_option maxHeartbeats 4000000 in
set_option maxRecDepth 100000 in
theorem c_X5_groups (l : Launch) (D : va_G) (y : Nat → ClassId) (A : Nat → Nat) (F : (Nat → Int32)) (R : (Nat → Nat → Int32)) (r : Int32) (hm : m5_groups F R = some r) : Met l yX5_groups (wy_s yX5_groups cX5_groups 1 (some .int)) rm_X5_groups (pc_R D y [.ref (A 0)] (fun H => va_P D vwCl (w5_s y A F R) H)) (qc_R r) 0 0 (fun _ => False) := by
  refine met_R (by decide) (Nat.le_of_ble_eq_true rfl) ?_
  intro p e s m args below meth c X h0 ls hl
  have hP5 := h0
  replace hl : lv_has ls 1 [(0, .ref (A 0))] := hl
  replace X : cx p s m args meth c cX5_groups 1 (some .int) RX5 D y := X
  unfold m5_groups at hm
  refine lv_aload_n (cx_x X) (cx_b X) dX5_groups_0 rfl (lv_at hl 0 rfl) ?_
  refine gf_X5_7 X hP5 dX5_groups_1 ?_
  refine lv_iconst (v := (2 : Int32)) (cx_x X) (cx_b X) dX5_groups_4 (by decide) ?_
  refine ld_5_0 X hP5 (by decide) dX5_groups_5 ?_
  refine lv_iconst (v := (2 : Int32)) (cx_x X) (cx_b X) dX5_groups_6 (by decide) ?_
  obtain ⟨qt2, hm, hmt2⟩ := bnd hm
  have Jt2 : ∀ (v1 : Int32) , m5_groups_J16 v1 = some r → ∀ ls, lv_has ls 1 [] → gr p l e rm_X5_groups s m args below meth c r (F0 m 16 ls [.int v1]) := by
    intro v1 hm ls hl
    unfold m5_groups_J16 at hm
    exact gr_i X hm dX5_groups_16
  refine lv_icmp_ne (tgt := 14) (cx_x X) (cx_b X) dX5_groups_7 (by decide) (fun c3 => ?_) (fun c3 => ?_)
  · replace hm := if_F c3 hm
    refine lv_bipush (v := (7 : Int32)) (cx_x X) (cx_b X) dX5_groups_14 (by decide) ?_
    exact Jt2 _ (by cases hm; exact hmt2) _ (lv_sub hl [] rfl)
  · replace hm := if_T c3 hm
    refine lv_iconst (v := (3 : Int32)) (cx_x X) (cx_b X) dX5_groups_10 (by decide) ?_
    refine lv_goto (tgt := 16) (cx_x X) (cx_b X) dX5_groups_11 (by decide) ?_
    exact Jt2 _ (by cases hm; exact hmt2) _ (lv_sub hl [] rfl)
/-! X5_channels -/
def m5_channels (F : (Nat → Int32)) (R : (Nat → Nat → Int32)) : Option Int32 :=
  (m5_groups F R).bind fun v2 =>
  some (v2 * (R 0 (3 : Int32).toNatClampNeg))
abbrev rm_X5_channels : Room := { frames := 1, cells := 0, slots := 0, locals := 20 }
set_option maxHeartbeats 4000000 in
set_option maxRecDepth 100000 in
theorem c_X5_channels (l : Launch) (D : va_G) (y : Nat → ClassId) (A : Nat → Nat) (F : (Nat → Int32)) (R : (Nat → Nat → Int32)) (r : Int32) (hm : m5_channels F R = some r) : Met l yX5_channels (wy_s yX5_channels cX5_channels 1 (some .int)) rm_X5_channels (pc_R D y [.ref (A 0)] (fun H => va_P D vwCl (w5_s y A F R) H)) (qc_R r) 0 0 (fun _ => False) := by
  refine met_R (by decide) (Nat.le_of_ble_eq_true rfl) ?_
  intro p e s m args below meth c X h0 ls hl
  have hP5 := h0
  replace hl : lv_has ls 1 [(0, .ref (A 0))] := hl
  replace X : cx p s m args meth c cX5_channels 1 (some .int) RX5 D y := X
  unfold m5_channels at hm
  refine lv_aload_n (cx_x X) (cx_b X) dX5_channels_0 rfl (lv_at hl 0 rfl) ?_
  obtain ⟨v2, h1, hm⟩ := bnd hm
  refine af_R (rn_V (As := []) (rest := []) X (c_X5_groups l D y A F R  _ h1) vq_X5_45 ⟨rfl, rfl⟩ ⟨Nat.le_of_ble_eq_true rfl, Nat.le_of_ble_eq_true rfl⟩ (rec_5 X hP5) hP5 rfl hl.1 rfl (Nat.le_of_ble_eq_true rfl) dX5_channels_1 ⟨Nat.le_refl _, Nat.le_refl _⟩) ?_
  refine lv_aload_n (cx_x X) (cx_b X) dX5_channels_4 rfl (lv_at hl 0 rfl) ?_
  refine gf_X5_7 X hP5 dX5_channels_5 ?_
  refine lv_iconst (v := (3 : Int32)) (cx_x X) (cx_b X) dX5_channels_8 (by decide) ?_
  refine ld_5_0 X hP5 (by decide) dX5_channels_9 ?_
  refine lv_imul (cx_x X) (cx_b X) dX5_channels_10 ?_
  exact gr_i X hm dX5_channels_11
/-! X5_isChannel -/
def m5_isChannel (F : (Nat → Int32)) (R : (Nat → Nat → Int32)) (a1 : Int32) : Option Int32 :=
  (m5_channels F R).bind fun v2 =>
  (m5_in a1 (0 : Int32) (v2 - (1 : Int32))).bind fun v4 =>
  if v4 &&& 1 = v4 then some v4 else none
abbrev rm_X5_isChannel : Room := { frames := 2, cells := 0, slots := 0, locals := 40 }
set_option maxHeartbeats 4000000 in
set_option maxRecDepth 100000 in
theorem c_X5_isChannel (l : Launch) (D : va_G) (y : Nat → ClassId) (A : Nat → Nat) (F : (Nat → Int32)) (R : (Nat → Nat → Int32)) (a1 : Int32) (r : Int32) (hm : m5_isChannel F R a1 = some r) : Met l yX5_isChannel (wy_s yX5_isChannel cX5_isChannel 2 (some .boolean)) rm_X5_isChannel (pc_R D y [.ref (A 0), .int a1] (fun H => va_P D vwCl (w5_s y A F R) H)) (qc_R r) 0 0 (fun _ => False) := by
  refine met_R (by decide) (Nat.le_of_ble_eq_true rfl) ?_
  intro p e s m args below meth c X h0 ls hl
  have hP5 := h0
  replace hl : lv_has ls 2 [(0, .ref (A 0)), (1, .int a1)] := hl
  replace X : cx p s m args meth c cX5_isChannel 2 (some .boolean) RX5 D y := X
  unfold m5_isChannel at hm
  refine lv_iload_n (cx_x X) (cx_b X) dX5_isChannel_0 rfl (lv_at hl 1 rfl) ?_
  refine lv_iconst (v := (0 : Int32)) (cx_x X) (cx_b X) dX5_isChannel_1 (by decide) ?_
  refine lv_aload_n (cx_x X) (cx_b X) dX5_isChannel_2 rfl (lv_at hl 0 rfl) ?_
  obtain ⟨v2, h1, hm⟩ := bnd hm
  refine af_R (rn_V (As := []) (rest := [.int (0 : Int32), .int a1]) X (c_X5_channels l D y A F R  _ h1) vq_X5_48 ⟨rfl, rfl⟩ ⟨Nat.le_of_ble_eq_true rfl, Nat.le_of_ble_eq_true rfl⟩ (rec_5 X hP5) hP5 rfl hl.1 rfl (Nat.le_of_ble_eq_true rfl) dX5_isChannel_3 ⟨Nat.le_refl _, Nat.le_refl _⟩) ?_
  refine lv_iconst (v := (1 : Int32)) (cx_x X) (cx_b X) dX5_isChannel_6 (by decide) ?_
  refine lv_isub (cx_x X) (cx_b X) dX5_isChannel_7 ?_
  obtain ⟨v4, h3, hm⟩ := bnd hm
  refine af_R (rn_S (As := [.int a1, .int (0 : Int32), .int (v2 - (1 : Int32))]) (rest := []) X (c_X5_in l D y a1 (0 : Int32) (v2 - (1 : Int32))  _ h3) sq_X5_34 ⟨rfl, rfl⟩ ⟨Nat.le_of_ble_eq_true rfl, Nat.le_of_ble_eq_true rfl⟩ trivial rfl hl.1 rfl (Nat.le_of_ble_eq_true rfl) dX5_isChannel_8 ⟨Nat.le_refl _, Nat.le_refl _⟩) ?_
  obtain ⟨h0, hm⟩ := ck_E hm
  exact gr_z X h0 hm dX5_isChannel_11
/-! X5_group -/
def m5_group_J46  (v4 : Int32) : Option Int32 :=
  some v4
def m5_group (F : (Nat → Int32)) (R : (Nat → Nat → Int32)) (a1 : Int32) : Option Int32 :=
  if ¬ (R 0 (1 : Int32).toNatClampNeg) = 0 then
  if ¬ (R 0 (1 : Int32).toNatClampNeg) = 0 then
  lt_ (a1 - a1 / (R 0 (1 : Int32).toNatClampNeg) * (R 0 (1 : Int32).toNatClampNeg)) fun v3 =>
  (if (R 0 (2 : Int32).toNatClampNeg) = (2 : Int32) then
  some (((a1 / (R 0 (1 : Int32).toNatClampNeg)) + ((2 : Int32) * v3)) - ((a1 / (R 0 (1 : Int32).toNatClampNeg)) + ((2 : Int32) * v3)) / (3 : Int32) * (3 : Int32))
  else
  some (((a1 / (R 0 (1 : Int32).toNatClampNeg)) + ((3 : Int32) * v3)) - ((a1 / (R 0 (1 : Int32).toNatClampNeg)) + ((3 : Int32) * v3)) / (7 : Int32) * (7 : Int32))).bind fun v4 => m5_group_J46 v4 else none else none
abbrev rm_X5_group : Room := { frames := 0, cells := 0, slots := 0, locals := 0 }
set_option maxHeartbeats 4000000 in
set_option maxRecDepth 100000 in
theorem c_X5_group (l : Launch) (D : va_G) (y : Nat → ClassId) (A : Nat → Nat) (F : (Nat → Int32)) (R : (Nat → Nat → Int32)) (a1 : Int32) (r : Int32) (hm : m5_group F R a1 = some r) : Met l yX5_group (wy_s yX5_group cX5_group 4 (some .int)) rm_X5_group (pc_R D y [.ref (A 0), .int a1] (fun H => va_P D vwCl (w5_s y A F R) H)) (qc_R r) 0 0 (fun _ => False) := by
  refine met_R (by decide) (Nat.le_of_ble_eq_true rfl) ?_
  intro p e s m args below meth c X h0 ls hl
  have hP5 := h0
  replace hl : lv_has ls 4 [(0, .ref (A 0)), (1, .int a1)] := hl
  replace X : cx p s m args meth c cX5_group 4 (some .int) RX5 D y := X
  unfold m5_group at hm
  refine lv_iload_n (cx_x X) (cx_b X) dX5_group_0 rfl (lv_at hl 1 rfl) ?_
  refine lv_aload_n (cx_x X) (cx_b X) dX5_group_1 rfl (lv_at hl 0 rfl) ?_
  refine gf_X5_7 X hP5 dX5_group_2 ?_
  refine lv_iconst (v := (1 : Int32)) (cx_x X) (cx_b X) dX5_group_5 (by decide) ?_
  refine ld_5_0 X hP5 (by decide) dX5_group_6 ?_
  obtain ⟨h1, hm⟩ := ck_E hm
  refine lv_idiv (cx_x X) (cx_b X) dX5_group_7 h1 ?_
  refine lv_istore_n (lv' := [(2, .int (a1 / (R 0 (1 : Int32).toNatClampNeg))), (0, .ref (A 0)), (1, .int a1)]) (cx_x X) (cx_b X) dX5_group_8 rfl hl (by decide) rfl (fun ls hl => ?_)
  refine lv_iload_n (cx_x X) (cx_b X) dX5_group_9 rfl (lv_at hl 2 rfl) ?_
  refine lv_aload_n (cx_x X) (cx_b X) dX5_group_10 rfl (lv_at hl 1 rfl) ?_
  refine gf_X5_7 X hP5 dX5_group_11 ?_
  refine lv_iconst (v := (1 : Int32)) (cx_x X) (cx_b X) dX5_group_14 (by decide) ?_
  refine ld_5_0 X hP5 (by decide) dX5_group_15 ?_
  obtain ⟨h2, hm⟩ := ck_E hm
  refine lv_irem (cx_x X) (cx_b X) dX5_group_16 h2 ?_
  obtain ⟨v3, ev3, hm⟩ := lt_E hm
  refine lv_eqi ev3 ?_
  refine lv_istore_n (lv' := [(3, .int v3), (2, .int (a1 / (R 0 (1 : Int32).toNatClampNeg))), (0, .ref (A 0)), (1, .int a1)]) (cx_x X) (cx_b X) dX5_group_17 rfl hl (by decide) rfl (fun ls hl => ?_)
  refine lv_aload_n (cx_x X) (cx_b X) dX5_group_18 rfl (lv_at hl 2 rfl) ?_
  refine gf_X5_7 X hP5 dX5_group_19 ?_
  refine lv_iconst (v := (2 : Int32)) (cx_x X) (cx_b X) dX5_group_22 (by decide) ?_
  refine ld_5_0 X hP5 (by decide) dX5_group_23 ?_
  refine lv_iconst (v := (2 : Int32)) (cx_x X) (cx_b X) dX5_group_24 (by decide) ?_
  obtain ⟨qt5, hm, hmt5⟩ := bnd hm
  have Jt5 : ∀ (v4 : Int32) , m5_group_J46 v4 = some r → ∀ ls, lv_has ls 4 [] → gr p l e rm_X5_group s m args below meth c r (F0 m 46 ls [.int v4]) := by
    intro v4 hm ls hl
    unfold m5_group_J46 at hm
    exact gr_i X hm dX5_group_46
  refine lv_icmp_ne (tgt := 38) (cx_x X) (cx_b X) dX5_group_25 (by decide) (fun c6 => ?_) (fun c6 => ?_)
  · replace hm := if_F c6 hm
    refine lv_iload_n (cx_x X) (cx_b X) dX5_group_38 rfl (lv_at hl 1 rfl) ?_
    refine lv_iconst (v := (3 : Int32)) (cx_x X) (cx_b X) dX5_group_39 (by decide) ?_
    refine lv_iload_n (cx_x X) (cx_b X) dX5_group_40 rfl (lv_at hl 0 rfl) ?_
    refine lv_imul (cx_x X) (cx_b X) dX5_group_41 ?_
    refine lv_iadd (cx_x X) (cx_b X) dX5_group_42 ?_
    refine lv_bipush (v := (7 : Int32)) (cx_x X) (cx_b X) dX5_group_43 (by decide) ?_
    refine lv_irem (cx_x X) (cx_b X) dX5_group_45 (by decide) ?_
    exact Jt5 _ (by cases hm; exact hmt5) _ (lv_sub hl [] rfl)
  · replace hm := if_T c6 hm
    refine lv_iload_n (cx_x X) (cx_b X) dX5_group_28 rfl (lv_at hl 1 rfl) ?_
    refine lv_iconst (v := (2 : Int32)) (cx_x X) (cx_b X) dX5_group_29 (by decide) ?_
    refine lv_iload_n (cx_x X) (cx_b X) dX5_group_30 rfl (lv_at hl 0 rfl) ?_
    refine lv_imul (cx_x X) (cx_b X) dX5_group_31 ?_
    refine lv_iadd (cx_x X) (cx_b X) dX5_group_32 ?_
    refine lv_iconst (v := (3 : Int32)) (cx_x X) (cx_b X) dX5_group_33 (by decide) ?_
    refine lv_irem (cx_x X) (cx_b X) dX5_group_34 (by decide) ?_
    refine lv_goto (tgt := 46) (cx_x X) (cx_b X) dX5_group_35 (by decide) ?_
    exact Jt5 _ (by cases hm; exact hmt5) _ (lv_sub hl [] rfl)
/-! X5_size -/
def m5_size_J10  (v1 : Int32) : Option Int32 :=
  some v1
def m5_size (a0 : Int32) : Option Int32 :=
  (if 0 ≤ a0 then
  some a0
  else
  some (-a0)).bind fun v1 => m5_size_J10 v1
abbrev rm_X5_size : Room := { frames := 0, cells := 0, slots := 0, locals := 0 }
set_option maxHeartbeats 4000000 in
set_option maxRecDepth 100000 in
theorem c_X5_size (l : Launch) (D : va_G) (y : Nat → ClassId) (a0 : Int32) (r : Int32) (hm : m5_size a0 = some r) : Met l yX5_size (wy_s yX5_size cX5_size 1 (some .int)) rm_X5_size (pc_R D y [.int a0] (fun _ => True)) (qc_R r) 0 0 (fun _ => False) := by
  refine met_R (by decide) (Nat.le_of_ble_eq_true rfl) ?_
  intro p e s m args below meth c X h0 ls hl
  replace hl : lv_has ls 1 [(0, .int a0)] := hl
  replace X : cx p s m args meth c cX5_size 1 (some .int) RX5 D y := X
  unfold m5_size at hm
  refine lv_iload_n (cx_x X) (cx_b X) dX5_size_0 rfl (lv_at hl 0 rfl) ?_
  obtain ⟨qt2, hm, hmt2⟩ := bnd hm
  have Jt2 : ∀ (v1 : Int32) , m5_size_J10 v1 = some r → ∀ ls, lv_has ls 1 [] → gr p l e rm_X5_size s m args below meth c r (F0 m 10 ls [.int v1]) := by
    intro v1 hm ls hl
    unfold m5_size_J10 at hm
    exact gr_i X hm dX5_size_10
  refine lv_if_ge (tgt := 9) (cx_x X) (cx_b X) dX5_size_1 (by decide) (fun c3 => ?_) (fun c3 => ?_)
  · replace hm := if_T c3 hm
    refine lv_iload_n (cx_x X) (cx_b X) dX5_size_9 rfl (lv_at hl 0 rfl) ?_
    exact Jt2 _ (by cases hm; exact hmt2) _ (lv_sub hl [] rfl)
  · replace hm := if_F c3 hm
    refine lv_iload_n (cx_x X) (cx_b X) dX5_size_4 rfl (lv_at hl 0 rfl) ?_
    refine lv_ineg (cx_x X) (cx_b X) dX5_size_5 ?_
    refine lv_goto (tgt := 10) (cx_x X) (cx_b X) dX5_size_6 (by decide) ?_
    exact Jt2 _ (by cases hm; exact hmt2) _ (lv_sub hl [] rfl)
/-! X5_far -/
def m5_far_J87  (v15 : Int32) : Option Int32 :=
  some v15
def m5_far_J61 (v3 : Int32) (v6 : Int32) (v11 : Int32) : Option Int32 :=
  (m5_size (v3 + v6)).bind fun v14 =>
  (if v14 ≤ v11 then
  some v11
  else
  (m5_size (v3 + v6)).bind fun v19 =>
  some v19).bind fun v15 => m5_far_J87 v15
def m5_far (F : (Nat → Int32)) (R : (Nat → Nat → Int32)) (a1 : Int32) (a2 : Int32) : Option Int32 :=
  if ¬ (R 0 (1 : Int32).toNatClampNeg) = 0 then
  if ¬ (R 0 (1 : Int32).toNatClampNeg) = 0 then
  lt_ ((a1 / (R 0 (1 : Int32).toNatClampNeg)) - (a2 / (R 0 (1 : Int32).toNatClampNeg))) fun v3 =>
  if ¬ (R 0 (1 : Int32).toNatClampNeg) = 0 then
  if ¬ (R 0 (1 : Int32).toNatClampNeg) = 0 then
  lt_ ((a1 - a1 / (R 0 (1 : Int32).toNatClampNeg) * (R 0 (1 : Int32).toNatClampNeg)) - (a2 - a2 / (R 0 (1 : Int32).toNatClampNeg) * (R 0 (1 : Int32).toNatClampNeg))) fun v6 =>
  (m5_size v3).bind fun v8 =>
  (m5_size v6).bind fun v10 =>
  (if v8 ≤ v10 then
  (m5_size v6).bind fun v22 =>
  some v22
  else
  (m5_size v3).bind fun v24 =>
  some v24).bind fun v11 => m5_far_J61 v3 v6 v11 else none else none else none else none
abbrev rm_X5_far : Room := { frames := 1, cells := 0, slots := 0, locals := 20 }
set_option maxHeartbeats 4000000 in
set_option maxRecDepth 100000 in
theorem c_X5_far (l : Launch) (D : va_G) (y : Nat → ClassId) (A : Nat → Nat) (F : (Nat → Int32)) (R : (Nat → Nat → Int32)) (a1 : Int32) (a2 : Int32) (r : Int32) (hm : m5_far F R a1 a2 = some r) : Met l yX5_far (wy_s yX5_far cX5_far 6 (some .int)) rm_X5_far (pc_R D y [.ref (A 0), .int a1, .int a2] (fun H => va_P D vwCl (w5_s y A F R) H)) (qc_R r) 0 0 (fun _ => False) := by
  refine met_R (by decide) (Nat.le_of_ble_eq_true rfl) ?_
  intro p e s m args below meth c X h0 ls hl
  have hP5 := h0
  replace hl : lv_has ls 6 [(0, .ref (A 0)), (1, .int a1), (2, .int a2)] := hl
  replace X : cx p s m args meth c cX5_far 6 (some .int) RX5 D y := X
  unfold m5_far at hm
  refine lv_iload_n (cx_x X) (cx_b X) dX5_far_0 rfl (lv_at hl 1 rfl) ?_
  refine lv_aload_n (cx_x X) (cx_b X) dX5_far_1 rfl (lv_at hl 0 rfl) ?_
  refine gf_X5_7 X hP5 dX5_far_2 ?_
  refine lv_iconst (v := (1 : Int32)) (cx_x X) (cx_b X) dX5_far_5 (by decide) ?_
  refine ld_5_0 X hP5 (by decide) dX5_far_6 ?_
  obtain ⟨h1, hm⟩ := ck_E hm
  refine lv_idiv (cx_x X) (cx_b X) dX5_far_7 h1 ?_
  refine lv_iload_n (cx_x X) (cx_b X) dX5_far_8 rfl (lv_at hl 2 rfl) ?_
  refine lv_aload_n (cx_x X) (cx_b X) dX5_far_9 rfl (lv_at hl 0 rfl) ?_
  refine gf_X5_7 X hP5 dX5_far_10 ?_
  refine lv_iconst (v := (1 : Int32)) (cx_x X) (cx_b X) dX5_far_13 (by decide) ?_
  refine ld_5_0 X hP5 (by decide) dX5_far_14 ?_
  obtain ⟨h2, hm⟩ := ck_E hm
  refine lv_idiv (cx_x X) (cx_b X) dX5_far_15 h2 ?_
  refine lv_isub (cx_x X) (cx_b X) dX5_far_16 ?_
  obtain ⟨v3, ev3, hm⟩ := lt_E hm
  refine lv_eqi ev3 ?_
  refine lv_istore_n (lv' := [(3, .int v3), (0, .ref (A 0)), (1, .int a1), (2, .int a2)]) (cx_x X) (cx_b X) dX5_far_17 rfl hl (by decide) rfl (fun ls hl => ?_)
  refine lv_iload_n (cx_x X) (cx_b X) dX5_far_18 rfl (lv_at hl 2 rfl) ?_
  refine lv_aload_n (cx_x X) (cx_b X) dX5_far_19 rfl (lv_at hl 1 rfl) ?_
  refine gf_X5_7 X hP5 dX5_far_20 ?_
  refine lv_iconst (v := (1 : Int32)) (cx_x X) (cx_b X) dX5_far_23 (by decide) ?_
  refine ld_5_0 X hP5 (by decide) dX5_far_24 ?_
  obtain ⟨h4, hm⟩ := ck_E hm
  refine lv_irem (cx_x X) (cx_b X) dX5_far_25 h4 ?_
  refine lv_iload_n (cx_x X) (cx_b X) dX5_far_26 rfl (lv_at hl 3 rfl) ?_
  refine lv_aload_n (cx_x X) (cx_b X) dX5_far_27 rfl (lv_at hl 1 rfl) ?_
  refine gf_X5_7 X hP5 dX5_far_28 ?_
  refine lv_iconst (v := (1 : Int32)) (cx_x X) (cx_b X) dX5_far_31 (by decide) ?_
  refine ld_5_0 X hP5 (by decide) dX5_far_32 ?_
  obtain ⟨h5, hm⟩ := ck_E hm
  refine lv_irem (cx_x X) (cx_b X) dX5_far_33 h5 ?_
  refine lv_isub (cx_x X) (cx_b X) dX5_far_34 ?_
  obtain ⟨v6, ev6, hm⟩ := lt_E hm
  refine lv_eqi ev6 ?_
  refine lv_istore (lv' := [(4, .int v6), (3, .int v3), (0, .ref (A 0)), (1, .int a1), (2, .int a2)]) (cx_x X) (cx_b X) dX5_far_35 hl (by decide) rfl (fun ls hl => ?_)
  refine lv_iload_n (cx_x X) (cx_b X) dX5_far_37 rfl (lv_at hl 1 rfl) ?_
  obtain ⟨v8, h7, hm⟩ := bnd hm
  refine af_R (rn_S (As := [.int v3]) (rest := []) X (c_X5_size l D y v3  _ h7) sq_X5_51 ⟨rfl, rfl⟩ ⟨Nat.le_of_ble_eq_true rfl, Nat.le_of_ble_eq_true rfl⟩ trivial rfl hl.1 rfl (Nat.le_of_ble_eq_true rfl) dX5_far_38 ⟨Nat.le_refl _, Nat.le_refl _⟩) ?_
  refine lv_iload (cx_x X) (cx_b X) dX5_far_41 (lv_at hl 0 rfl) ?_
  obtain ⟨v10, h9, hm⟩ := bnd hm
  refine af_R (rn_S (As := [.int v6]) (rest := [.int v8]) X (c_X5_size l D y v6  _ h9) sq_X5_51 ⟨rfl, rfl⟩ ⟨Nat.le_of_ble_eq_true rfl, Nat.le_of_ble_eq_true rfl⟩ trivial rfl hl.1 rfl (Nat.le_of_ble_eq_true rfl) dX5_far_43 ⟨Nat.le_refl _, Nat.le_refl _⟩) ?_
  obtain ⟨qt12, hm, hmt12⟩ := bnd hm
  have Jt12 : ∀ (v11 : Int32) , m5_far_J61 v3 v6 v11 = some r → ∀ ls, lv_has ls 6 [(3, .int v3), (4, .int v6)] → gr p l e rm_X5_far s m args below meth c r (F0 m 61 ls [.int v11]) := by
    intro v11 hm ls hl
    unfold m5_far_J61 at hm
    refine lv_istore (lv' := [(5, .int v11), (3, .int v3), (4, .int v6)]) (cx_x X) (cx_b X) dX5_far_61 hl (by decide) rfl (fun ls hl => ?_)
    refine lv_iload_n (cx_x X) (cx_b X) dX5_far_63 rfl (lv_at hl 1 rfl) ?_
    refine lv_iload (cx_x X) (cx_b X) dX5_far_64 (lv_at hl 2 rfl) ?_
    refine lv_iadd (cx_x X) (cx_b X) dX5_far_66 ?_
    obtain ⟨v14, h13, hm⟩ := bnd hm
    refine af_R (rn_S (As := [.int (v3 + v6)]) (rest := []) X (c_X5_size l D y (v3 + v6)  _ h13) sq_X5_51 ⟨rfl, rfl⟩ ⟨Nat.le_of_ble_eq_true rfl, Nat.le_of_ble_eq_true rfl⟩ trivial rfl hl.1 rfl (Nat.le_of_ble_eq_true rfl) dX5_far_67 ⟨Nat.le_refl _, Nat.le_refl _⟩) ?_
    refine lv_iload (cx_x X) (cx_b X) dX5_far_70 (lv_at hl 0 rfl) ?_
    obtain ⟨qt16, hm, hmt16⟩ := bnd hm
    have Jt16 : ∀ (v15 : Int32) , m5_far_J87 v15 = some r → ∀ ls, lv_has ls 6 [] → gr p l e rm_X5_far s m args below meth c r (F0 m 87 ls [.int v15]) := by
      intro v15 hm ls hl
      unfold m5_far_J87 at hm
      exact gr_i X hm dX5_far_87
    refine lv_icmp_le (tgt := 85) (cx_x X) (cx_b X) dX5_far_72 (by decide) (fun c17 => ?_) (fun c17 => ?_)
    · replace hm := if_T c17 hm
      refine lv_iload (cx_x X) (cx_b X) dX5_far_85 (lv_at hl 0 rfl) ?_
      exact Jt16 _ (by cases hm; exact hmt16) _ (lv_sub hl [] rfl)
    · replace hm := if_F c17 hm
      refine lv_iload_n (cx_x X) (cx_b X) dX5_far_75 rfl (lv_at hl 1 rfl) ?_
      refine lv_iload (cx_x X) (cx_b X) dX5_far_76 (lv_at hl 2 rfl) ?_
      refine lv_iadd (cx_x X) (cx_b X) dX5_far_78 ?_
      obtain ⟨v19, h18, hm⟩ := bnd hm
      refine af_R (rn_S (As := [.int (v3 + v6)]) (rest := []) X (c_X5_size l D y (v3 + v6)  _ h18) sq_X5_51 ⟨rfl, rfl⟩ ⟨Nat.le_of_ble_eq_true rfl, Nat.le_of_ble_eq_true rfl⟩ trivial rfl hl.1 rfl (Nat.le_of_ble_eq_true rfl) dX5_far_79 ⟨Nat.le_refl _, Nat.le_refl _⟩) ?_
      refine lv_goto (tgt := 87) (cx_x X) (cx_b X) dX5_far_82 (by decide) ?_
      exact Jt16 _ (by cases hm; exact hmt16) _ (lv_sub hl [] rfl)
  refine lv_icmp_le (tgt := 56) (cx_x X) (cx_b X) dX5_far_46 (by decide) (fun c20 => ?_) (fun c20 => ?_)
  · replace hm := if_T c20 hm
    refine lv_iload (cx_x X) (cx_b X) dX5_far_56 (lv_at hl 0 rfl) ?_
    obtain ⟨v22, h21, hm⟩ := bnd hm
    refine af_R (rn_S (As := [.int v6]) (rest := []) X (c_X5_size l D y v6  _ h21) sq_X5_51 ⟨rfl, rfl⟩ ⟨Nat.le_of_ble_eq_true rfl, Nat.le_of_ble_eq_true rfl⟩ trivial rfl hl.1 rfl (Nat.le_of_ble_eq_true rfl) dX5_far_58 ⟨Nat.le_refl _, Nat.le_refl _⟩) ?_
    exact Jt12 _ (by cases hm; exact hmt12) _ (lv_sub hl [1, 0] rfl)
  · replace hm := if_F c20 hm
    refine lv_iload_n (cx_x X) (cx_b X) dX5_far_49 rfl (lv_at hl 1 rfl) ?_
    obtain ⟨v24, h23, hm⟩ := bnd hm
    refine af_R (rn_S (As := [.int v3]) (rest := []) X (c_X5_size l D y v3  _ h23) sq_X5_51 ⟨rfl, rfl⟩ ⟨Nat.le_of_ble_eq_true rfl, Nat.le_of_ble_eq_true rfl⟩ trivial rfl hl.1 rfl (Nat.le_of_ble_eq_true rfl) dX5_far_50 ⟨Nat.le_refl _, Nat.le_refl _⟩) ?_
    refine lv_goto (tgt := 61) (cx_x X) (cx_b X) dX5_far_53 (by decide) ?_
    exact Jt12 _ (by cases hm; exact hmt12) _ (lv_sub hl [1, 0] rfl)
/-! X5_isNominal -/
def m5_isNominal_J19  (v6 : Int32) : Option Int32 :=
  if v6 &&& 1 = v6 then some v6 else none
def m5_isNominal (F : (Nat → Int32)) (R : (Nat → Nat → Int32)) (a1 : Int32) (a2 : Int32) : Option Int32 :=
  (m5_groups F R).bind fun v2 =>
  if ¬ v2 = 0 then
  (m5_group F R a1).bind fun v5 =>
  (if (a2 - a2 / v2 * v2) = v5 then
  some (1 : Int32)
  else
  some (0 : Int32)).bind fun v6 => m5_isNominal_J19 v6 else none
abbrev rm_X5_isNominal : Room := { frames := 1, cells := 0, slots := 0, locals := 23 }
set_option maxHeartbeats 4000000 in
set_option maxRecDepth 100000 in
theorem c_X5_isNominal (l : Launch) (D : va_G) (y : Nat → ClassId) (A : Nat → Nat) (F : (Nat → Int32)) (R : (Nat → Nat → Int32)) (a1 : Int32) (a2 : Int32) (r : Int32) (hm : m5_isNominal F R a1 a2 = some r) : Met l yX5_isNominal (wy_s yX5_isNominal cX5_isNominal 3 (some .boolean)) rm_X5_isNominal (pc_R D y [.ref (A 0), .int a1, .int a2] (fun H => va_P D vwCl (w5_s y A F R) H)) (qc_R r) 0 0 (fun _ => False) := by
  refine met_R (by decide) (Nat.le_of_ble_eq_true rfl) ?_
  intro p e s m args below meth c X h0 ls hl
  have hP5 := h0
  replace hl : lv_has ls 3 [(0, .ref (A 0)), (1, .int a1), (2, .int a2)] := hl
  replace X : cx p s m args meth c cX5_isNominal 3 (some .boolean) RX5 D y := X
  unfold m5_isNominal at hm
  refine lv_iload_n (cx_x X) (cx_b X) dX5_isNominal_0 rfl (lv_at hl 2 rfl) ?_
  refine lv_aload_n (cx_x X) (cx_b X) dX5_isNominal_1 rfl (lv_at hl 0 rfl) ?_
  obtain ⟨v2, h1, hm⟩ := bnd hm
  refine af_R (rn_V (As := []) (rest := [.int a2]) X (c_X5_groups l D y A F R  _ h1) vq_X5_45 ⟨rfl, rfl⟩ ⟨Nat.le_of_ble_eq_true rfl, Nat.le_of_ble_eq_true rfl⟩ (rec_5 X hP5) hP5 rfl hl.1 rfl (Nat.le_of_ble_eq_true rfl) dX5_isNominal_2 ⟨Nat.le_refl _, Nat.le_refl _⟩) ?_
  obtain ⟨h3, hm⟩ := ck_E hm
  refine lv_irem (cx_x X) (cx_b X) dX5_isNominal_5 h3 ?_
  refine lv_aload_n (cx_x X) (cx_b X) dX5_isNominal_6 rfl (lv_at hl 0 rfl) ?_
  refine lv_iload_n (cx_x X) (cx_b X) dX5_isNominal_7 rfl (lv_at hl 1 rfl) ?_
  obtain ⟨v5, h4, hm⟩ := bnd hm
  refine af_R (rn_V (As := [.int a1]) (rest := [.int (a2 - a2 / v2 * v2)]) X (c_X5_group l D y A F R a1  _ h4) vq_X5_55 ⟨rfl, rfl⟩ ⟨Nat.le_of_ble_eq_true rfl, Nat.le_of_ble_eq_true rfl⟩ (rec_5 X hP5) hP5 rfl hl.1 rfl (Nat.le_of_ble_eq_true rfl) dX5_isNominal_8 ⟨Nat.le_refl _, Nat.le_refl _⟩) ?_
  obtain ⟨qt7, hm, hmt7⟩ := bnd hm
  have Jt7 : ∀ (v6 : Int32) , m5_isNominal_J19 v6 = some r → ∀ ls, lv_has ls 3 [] → gr p l e rm_X5_isNominal s m args below meth c r (F0 m 19 ls [.int v6]) := by
    intro v6 hm ls hl
    unfold m5_isNominal_J19 at hm
    obtain ⟨h0, hm⟩ := ck_E hm
    exact gr_z X h0 hm dX5_isNominal_19
  refine lv_icmp_ne (tgt := 18) (cx_x X) (cx_b X) dX5_isNominal_11 (by decide) (fun c8 => ?_) (fun c8 => ?_)
  · replace hm := if_F c8 hm
    refine lv_iconst (v := (0 : Int32)) (cx_x X) (cx_b X) dX5_isNominal_18 (by decide) ?_
    exact Jt7 _ (by cases hm; exact hmt7) _ (lv_sub hl [] rfl)
  · replace hm := if_T c8 hm
    refine lv_iconst (v := (1 : Int32)) (cx_x X) (cx_b X) dX5_isNominal_14 (by decide) ?_
    refine lv_goto (tgt := 19) (cx_x X) (cx_b X) dX5_isNominal_15 (by decide) ?_
    exact Jt7 _ (by cases hm; exact hmt7) _ (lv_sub hl [] rfl)
/-! X5_uses -/
def m5_uses_X60  (v4 : Int32) : Option Int32 :=
  if v4 &&& 1 = v4 then some v4 else none
def m5_uses_J53 (kkt1 : (Int32 × Int32) → Option Int32) (v3 : Int32) (v6 : Int32) : Option Int32 :=
  kkt1 (v6, (v3 + (1 : Int32)))
def m5_uses_L5 (R : (Nat → Nat → Int32)) (a1 : Int32) (a2 : Int32) (kkt1 : (Int32 × Int32) → Option Int32) (t0 : (Int32 × Int32)) : Option Int32 :=
  if (60 : Int32) ≤ t0.2 then
  some t0.1
  else
  (if t0.1 = 0 then
  if inb ((14 : Int32) + t0.2) 194 then
  if (R 0 ((14 : Int32) + t0.2).toNatClampNeg) = (a1 + (1 : Int32)) then
  if inb ((74 : Int32) + t0.2) 194 then
  if (R 0 ((74 : Int32) + t0.2).toNatClampNeg) = (a2 + (1 : Int32)) then
  some (1 : Int32)
  else
  some (0 : Int32) else none
  else
  some (0 : Int32) else none
  else
  some (1 : Int32)).bind fun v6 => m5_uses_J53 kkt1 t0.2 v6
def m5_uses (F : (Nat → Int32)) (R : (Nat → Nat → Int32)) (a1 : Int32) (a2 : Int32) : Option Int32 :=
  (wh (m5_uses_L5 R a1 a2) 2000 ((0 : Int32), (0 : Int32))).bind fun v4 => m5_uses_X60 v4
abbrev rm_X5_uses : Room := { frames := 0, cells := 0, slots := 0, locals := 0 }
set_option maxHeartbeats 4000000 in
set_option maxRecDepth 100000 in
theorem c_X5_uses (l : Launch) (D : va_G) (y : Nat → ClassId) (A : Nat → Nat) (F : (Nat → Int32)) (R : (Nat → Nat → Int32)) (a1 : Int32) (a2 : Int32) (r : Int32) (hm : m5_uses F R a1 a2 = some r) : Met l yX5_uses (wy_s yX5_uses cX5_uses 5 (some .boolean)) rm_X5_uses (pc_R D y [.ref (A 0), .int a1, .int a2] (fun H => va_P D vwCl (w5_s y A F R) H)) (qc_R r) 0 0 (fun _ => False) := by
  refine met_R (by decide) (Nat.le_of_ble_eq_true rfl) ?_
  intro p e s m args below meth c X h0 ls hl
  have hP5 := h0
  replace hl : lv_has ls 5 [(0, .ref (A 0)), (1, .int a1), (2, .int a2)] := hl
  replace X : cx p s m args meth c cX5_uses 5 (some .boolean) RX5 D y := X
  unfold m5_uses at hm
  refine lv_iconst (v := (0 : Int32)) (cx_x X) (cx_b X) dX5_uses_0 (by decide) ?_
  refine lv_istore_n (lv' := [(3, .int (0 : Int32)), (0, .ref (A 0)), (1, .int a1), (2, .int a2)]) (cx_x X) (cx_b X) dX5_uses_1 rfl hl (by decide) rfl (fun ls hl => ?_)
  refine lv_iconst (v := (0 : Int32)) (cx_x X) (cx_b X) dX5_uses_2 (by decide) ?_
  refine lv_istore (lv' := [(4, .int (0 : Int32)), (3, .int (0 : Int32)), (0, .ref (A 0)), (1, .int a1), (2, .int a2)]) (cx_x X) (cx_b X) dX5_uses_3 hl (by decide) rfl (fun ls hl => ?_)
  obtain ⟨qt1, hm, hmt1⟩ := bnd hm
  have Xt1 : ∀ (v4 : Int32) , m5_uses_X60 v4 = some r → ∀ ls, lv_has ls 5 [(3, .int v4)] → gr p l e rm_X5_uses s m args below meth c r (F0 m 60 ls []) := by
    intro v4 hm ls hl
    unfold m5_uses_X60 at hm
    refine lv_iload_n (cx_x X) (cx_b X) dX5_uses_60 rfl (lv_at hl 0 rfl) ?_
    obtain ⟨h0, hm⟩ := ck_E hm
    exact gr_z X h0 hm dX5_uses_61
  have Lt1 : ∀ (n : Nat) (v2 : Int32) (v3 : Int32) , wh (m5_uses_L5 R a1 a2) n (v2, v3) = some qt1 → ∀ ls, lv_has ls 5 [(0, .ref (A 0)), (1, .int a1), (2, .int a2), (3, .int v2), (4, .int v3)] → gr p l e rm_X5_uses s m args below meth c r (F0 m 5 ls []) := by
    intro n
    induction n with
    | zero => intro v2 v3 hm; cases hm
    | succ n ih =>
      intro v2 v3 hm ls hl
      replace hm : (m5_uses_L5 R a1 a2) (wh (m5_uses_L5 R a1 a2) n) (v2, v3) = some qt1 := hm
      dsimp only [m5_uses_L5] at hm
      refine lv_iload (cx_x X) (cx_b X) dX5_uses_5 (lv_at hl 4 rfl) ?_
      refine lv_bipush (v := (60 : Int32)) (cx_x X) (cx_b X) dX5_uses_7 (by decide) ?_
      refine lv_icmp_ge (tgt := 60) (cx_x X) (cx_b X) dX5_uses_9 (by decide) (fun c5 => ?_) (fun c5 => ?_)
      · replace hm := if_T c5 hm
        exact Xt1 _ (by cases hm; exact hmt1) _ (lv_sub hl [3] rfl)
      · replace hm := if_F c5 hm
        refine lv_iload_n (cx_x X) (cx_b X) dX5_uses_12 rfl (lv_at hl 3 rfl) ?_
        obtain ⟨qt7, hm, hmt7⟩ := bnd hm
        have Jt7 : ∀ (v6 : Int32) , m5_uses_J53 (wh (m5_uses_L5 R a1 a2) n) v3 v6 = some qt1 → ∀ ls, lv_has ls 5 [(0, .ref (A 0)), (1, .int a1), (2, .int a2), (4, .int v3)] → gr p l e rm_X5_uses s m args below meth c r (F0 m 53 ls [.int v6]) := by
          intro v6 hm ls hl
          unfold m5_uses_J53 at hm
          refine lv_istore_n (lv' := [(3, .int v6), (0, .ref (A 0)), (1, .int a1), (2, .int a2), (4, .int v3)]) (cx_x X) (cx_b X) dX5_uses_53 rfl hl (by decide) rfl (fun ls hl => ?_)
          refine lv_iinc (v := (v3 + (1 : Int32))) (lv' := [(4, .int (v3 + (1 : Int32))), (3, .int v6), (0, .ref (A 0)), (1, .int a1), (2, .int a2)]) (cx_x X) (cx_b X) dX5_uses_54 hl (k := 4) rfl (by rfl) (by decide) rfl (fun ls hl => ?_)
          refine lv_goto (tgt := 5) (cx_x X) (cx_b X) dX5_uses_57 (by decide) ?_
          exact ih _ _ hm _ (lv_sub hl [2, 3, 4, 1, 0] rfl)
        refine lv_if_ne (tgt := 48) (cx_x X) (cx_b X) dX5_uses_13 (by decide) (fun c8 => ?_) (fun c8 => ?_)
        · replace hm := if_F c8 hm
          refine lv_iconst (v := (1 : Int32)) (cx_x X) (cx_b X) dX5_uses_48 (by decide) ?_
          refine lv_goto (tgt := 53) (cx_x X) (cx_b X) dX5_uses_49 (by decide) ?_
          exact Jt7 _ (by cases hm; exact hmt7) _ (lv_sub hl [0, 1, 2, 4] rfl)
        · replace hm := if_T c8 hm
          refine lv_aload_n (cx_x X) (cx_b X) dX5_uses_16 rfl (lv_at hl 0 rfl) ?_
          refine gf_X5_7 X hP5 dX5_uses_17 ?_
          refine lv_bipush (v := (14 : Int32)) (cx_x X) (cx_b X) dX5_uses_20 (by decide) ?_
          refine lv_iload (cx_x X) (cx_b X) dX5_uses_22 (lv_at hl 4 rfl) ?_
          refine lv_iadd (cx_x X) (cx_b X) dX5_uses_24 ?_
          obtain ⟨h9, hm⟩ := ck_E hm
          refine ld_5_0 X hP5 h9 dX5_uses_25 ?_
          refine lv_iload_n (cx_x X) (cx_b X) dX5_uses_26 rfl (lv_at hl 1 rfl) ?_
          refine lv_iconst (v := (1 : Int32)) (cx_x X) (cx_b X) dX5_uses_27 (by decide) ?_
          refine lv_iadd (cx_x X) (cx_b X) dX5_uses_28 ?_
          refine lv_icmp_ne (tgt := 52) (cx_x X) (cx_b X) dX5_uses_29 (by decide) (fun c10 => ?_) (fun c10 => ?_)
          · replace hm := if_F c10 hm
            refine lv_iconst (v := (0 : Int32)) (cx_x X) (cx_b X) dX5_uses_52 (by decide) ?_
            exact Jt7 _ (by cases hm; exact hmt7) _ (lv_sub hl [0, 1, 2, 4] rfl)
          · replace hm := if_T c10 hm
            refine lv_aload_n (cx_x X) (cx_b X) dX5_uses_32 rfl (lv_at hl 0 rfl) ?_
            refine gf_X5_7 X hP5 dX5_uses_33 ?_
            refine lv_bipush (v := (74 : Int32)) (cx_x X) (cx_b X) dX5_uses_36 (by decide) ?_
            refine lv_iload (cx_x X) (cx_b X) dX5_uses_38 (lv_at hl 4 rfl) ?_
            refine lv_iadd (cx_x X) (cx_b X) dX5_uses_40 ?_
            obtain ⟨h11, hm⟩ := ck_E hm
            refine ld_5_0 X hP5 h11 dX5_uses_41 ?_
            refine lv_iload_n (cx_x X) (cx_b X) dX5_uses_42 rfl (lv_at hl 2 rfl) ?_
            refine lv_iconst (v := (1 : Int32)) (cx_x X) (cx_b X) dX5_uses_43 (by decide) ?_
            refine lv_iadd (cx_x X) (cx_b X) dX5_uses_44 ?_
            refine lv_icmp_ne (tgt := 52) (cx_x X) (cx_b X) dX5_uses_45 (by decide) (fun c12 => ?_) (fun c12 => ?_)
            · replace hm := if_F c12 hm
              refine lv_iconst (v := (0 : Int32)) (cx_x X) (cx_b X) dX5_uses_52 (by decide) ?_
              exact Jt7 _ (by cases hm; exact hmt7) _ (lv_sub hl [0, 1, 2, 4] rfl)
            · replace hm := if_T c12 hm
              refine lv_iconst (v := (1 : Int32)) (cx_x X) (cx_b X) dX5_uses_48 (by decide) ?_
              refine lv_goto (tgt := 53) (cx_x X) (cx_b X) dX5_uses_49 (by decide) ?_
              exact Jt7 _ (by cases hm; exact hmt7) _ (lv_sub hl [0, 1, 2, 4] rfl)
  exact Lt1 _ _ _ hm _ (lv_sub hl [2, 3, 4, 1, 0] rfl)
/-! X5_locks -/
def m5_locks_X60  (v4 : Int32) : Option Int32 :=
  some v4
def m5_locks_J52 (kkt1 : (Int32 × Int32) → Option Int32) (v2 : Int32) (v3 : Int32) (v8 : Int32) : Option Int32 :=
  kkt1 ((v2 + v8), (v3 + (1 : Int32)))
def m5_locks_L5 (F : (Nat → Int32)) (R : (Nat → Nat → Int32)) (a1 : Int32) (a2 : Int32) (kkt1 : (Int32 × Int32) → Option Int32) (t0 : (Int32 × Int32)) : Option Int32 :=
  (m5_cells F R).bind fun v6 =>
  if v6 ≤ t0.2 then
  some t0.1
  else
  (if t0.2 = a1 then
  some (0 : Int32)
  else
  (m5_far F R t0.2 a1).bind fun v12 =>
  if (R 0 (2 : Int32).toNatClampNeg) ≤ v12 then
  some (0 : Int32)
  else
  (m5_uses F R t0.2 a2).bind fun v15 =>
  if v15 = 0 then
  some (0 : Int32)
  else
  some (1 : Int32)).bind fun v8 => m5_locks_J52 kkt1 t0.1 t0.2 v8
def m5_locks (F : (Nat → Int32)) (R : (Nat → Nat → Int32)) (a1 : Int32) (a2 : Int32) : Option Int32 :=
  (wh (m5_locks_L5 F R a1 a2) 2000 ((0 : Int32), (0 : Int32))).bind fun v4 => m5_locks_X60 v4
abbrev rm_X5_locks : Room := { frames := 2, cells := 0, slots := 0, locals := 45 }
set_option maxHeartbeats 4000000 in
set_option maxRecDepth 100000 in
theorem c_X5_locks (l : Launch) (D : va_G) (y : Nat → ClassId) (A : Nat → Nat) (F : (Nat → Int32)) (R : (Nat → Nat → Int32)) (a1 : Int32) (a2 : Int32) (r : Int32) (hm : m5_locks F R a1 a2 = some r) : Met l yX5_locks (wy_s yX5_locks cX5_locks 5 (some .int)) rm_X5_locks (pc_R D y [.ref (A 0), .int a1, .int a2] (fun H => va_P D vwCl (w5_s y A F R) H)) (qc_R r) 0 0 (fun _ => False) := by
  refine met_R (by decide) (Nat.le_of_ble_eq_true rfl) ?_
  intro p e s m args below meth c X h0 ls hl
  have hP5 := h0
  replace hl : lv_has ls 5 [(0, .ref (A 0)), (1, .int a1), (2, .int a2)] := hl
  replace X : cx p s m args meth c cX5_locks 5 (some .int) RX5 D y := X
  unfold m5_locks at hm
  refine lv_iconst (v := (0 : Int32)) (cx_x X) (cx_b X) dX5_locks_0 (by decide) ?_
  refine lv_istore_n (lv' := [(3, .int (0 : Int32)), (0, .ref (A 0)), (1, .int a1), (2, .int a2)]) (cx_x X) (cx_b X) dX5_locks_1 rfl hl (by decide) rfl (fun ls hl => ?_)
  refine lv_iconst (v := (0 : Int32)) (cx_x X) (cx_b X) dX5_locks_2 (by decide) ?_
  refine lv_istore (lv' := [(4, .int (0 : Int32)), (3, .int (0 : Int32)), (0, .ref (A 0)), (1, .int a1), (2, .int a2)]) (cx_x X) (cx_b X) dX5_locks_3 hl (by decide) rfl (fun ls hl => ?_)
  obtain ⟨qt1, hm, hmt1⟩ := bnd hm
  have Xt1 : ∀ (v4 : Int32) , m5_locks_X60 v4 = some r → ∀ ls, lv_has ls 5 [(3, .int v4)] → gr p l e rm_X5_locks s m args below meth c r (F0 m 60 ls []) := by
    intro v4 hm ls hl
    unfold m5_locks_X60 at hm
    refine lv_iload_n (cx_x X) (cx_b X) dX5_locks_60 rfl (lv_at hl 0 rfl) ?_
    exact gr_i X hm dX5_locks_61
  have Lt1 : ∀ (n : Nat) (v2 : Int32) (v3 : Int32) , wh (m5_locks_L5 F R a1 a2) n (v2, v3) = some qt1 → ∀ ls, lv_has ls 5 [(0, .ref (A 0)), (1, .int a1), (2, .int a2), (3, .int v2), (4, .int v3)] → gr p l e rm_X5_locks s m args below meth c r (F0 m 5 ls []) := by
    intro n
    induction n with
    | zero => intro v2 v3 hm; cases hm
    | succ n ih =>
      intro v2 v3 hm ls hl
      replace hm : (m5_locks_L5 F R a1 a2) (wh (m5_locks_L5 F R a1 a2) n) (v2, v3) = some qt1 := hm
      dsimp only [m5_locks_L5] at hm
      refine lv_iload (cx_x X) (cx_b X) dX5_locks_5 (lv_at hl 4 rfl) ?_
      refine lv_aload_n (cx_x X) (cx_b X) dX5_locks_7 rfl (lv_at hl 0 rfl) ?_
      obtain ⟨v6, h5, hm⟩ := bnd hm
      refine af_R (rn_V (As := []) (rest := [.int v3]) X (c_X5_cells l D y A F R  _ h5) vq_X5_42 ⟨rfl, rfl⟩ ⟨Nat.le_of_ble_eq_true rfl, Nat.le_of_ble_eq_true rfl⟩ (rec_5 X hP5) hP5 rfl hl.1 rfl (Nat.le_of_ble_eq_true rfl) dX5_locks_8 ⟨Nat.le_refl _, Nat.le_refl _⟩) ?_
      refine lv_icmp_ge (tgt := 60) (cx_x X) (cx_b X) dX5_locks_11 (by decide) (fun c7 => ?_) (fun c7 => ?_)
      · replace hm := if_T c7 hm
        exact Xt1 _ (by cases hm; exact hmt1) _ (lv_sub hl [3] rfl)
      · replace hm := if_F c7 hm
        refine lv_iload_n (cx_x X) (cx_b X) dX5_locks_14 rfl (lv_at hl 3 rfl) ?_
        refine lv_iload (cx_x X) (cx_b X) dX5_locks_15 (lv_at hl 4 rfl) ?_
        refine lv_iload_n (cx_x X) (cx_b X) dX5_locks_17 rfl (lv_at hl 1 rfl) ?_
        obtain ⟨qt9, hm, hmt9⟩ := bnd hm
        have Jt9 : ∀ (v8 : Int32) , m5_locks_J52 (wh (m5_locks_L5 F R a1 a2) n) v2 v3 v8 = some qt1 → ∀ ls, lv_has ls 5 [(0, .ref (A 0)), (1, .int a1), (2, .int a2), (4, .int v3)] → gr p l e rm_X5_locks s m args below meth c r (F0 m 52 ls [.int v8, .int v2]) := by
          intro v8 hm ls hl
          unfold m5_locks_J52 at hm
          refine lv_iadd (cx_x X) (cx_b X) dX5_locks_52 ?_
          refine lv_istore_n (lv' := [(3, .int (v2 + v8)), (0, .ref (A 0)), (1, .int a1), (2, .int a2), (4, .int v3)]) (cx_x X) (cx_b X) dX5_locks_53 rfl hl (by decide) rfl (fun ls hl => ?_)
          refine lv_iinc (v := (v3 + (1 : Int32))) (lv' := [(4, .int (v3 + (1 : Int32))), (3, .int (v2 + v8)), (0, .ref (A 0)), (1, .int a1), (2, .int a2)]) (cx_x X) (cx_b X) dX5_locks_54 hl (k := 4) rfl (by rfl) (by decide) rfl (fun ls hl => ?_)
          refine lv_goto (tgt := 5) (cx_x X) (cx_b X) dX5_locks_57 (by decide) ?_
          exact ih _ _ hm _ (lv_sub hl [2, 3, 4, 1, 0] rfl)
        refine lv_icmp_eq (tgt := 51) (cx_x X) (cx_b X) dX5_locks_18 (by decide) (fun c10 => ?_) (fun c10 => ?_)
        · replace hm := if_T c10 hm
          refine lv_iconst (v := (0 : Int32)) (cx_x X) (cx_b X) dX5_locks_51 (by decide) ?_
          exact Jt9 _ (by cases hm; exact hmt9) _ (lv_sub hl [0, 1, 2, 4] rfl)
        · replace hm := if_F c10 hm
          refine lv_aload_n (cx_x X) (cx_b X) dX5_locks_21 rfl (lv_at hl 0 rfl) ?_
          refine lv_iload (cx_x X) (cx_b X) dX5_locks_22 (lv_at hl 4 rfl) ?_
          refine lv_iload_n (cx_x X) (cx_b X) dX5_locks_24 rfl (lv_at hl 1 rfl) ?_
          obtain ⟨v12, h11, hm⟩ := bnd hm
          refine af_R (rn_V (As := [.int v3, .int a1]) (rest := [.int v2]) X (c_X5_far l D y A F R v3 a1  _ h11) vq_X5_58 ⟨rfl, rfl⟩ ⟨Nat.le_of_ble_eq_true rfl, Nat.le_of_ble_eq_true rfl⟩ (rec_5 X hP5) hP5 rfl hl.1 rfl (Nat.le_of_ble_eq_true rfl) dX5_locks_25 ⟨Nat.le_refl _, Nat.le_refl _⟩) ?_
          refine lv_aload_n (cx_x X) (cx_b X) dX5_locks_28 rfl (lv_at hl 0 rfl) ?_
          refine gf_X5_7 X hP5 dX5_locks_29 ?_
          refine lv_iconst (v := (2 : Int32)) (cx_x X) (cx_b X) dX5_locks_32 (by decide) ?_
          refine ld_5_0 X hP5 (by decide) dX5_locks_33 ?_
          refine lv_icmp_ge (tgt := 51) (cx_x X) (cx_b X) dX5_locks_34 (by decide) (fun c13 => ?_) (fun c13 => ?_)
          · replace hm := if_T c13 hm
            refine lv_iconst (v := (0 : Int32)) (cx_x X) (cx_b X) dX5_locks_51 (by decide) ?_
            exact Jt9 _ (by cases hm; exact hmt9) _ (lv_sub hl [0, 1, 2, 4] rfl)
          · replace hm := if_F c13 hm
            refine lv_aload_n (cx_x X) (cx_b X) dX5_locks_37 rfl (lv_at hl 0 rfl) ?_
            refine lv_iload (cx_x X) (cx_b X) dX5_locks_38 (lv_at hl 4 rfl) ?_
            refine lv_iload_n (cx_x X) (cx_b X) dX5_locks_40 rfl (lv_at hl 2 rfl) ?_
            obtain ⟨v15, h14, hm⟩ := bnd hm
            refine af_R (rn_V (As := [.int v3, .int a2]) (rest := [.int v2]) X (c_X5_uses l D y A F R v3 a2  _ h14) vq_X5_62 ⟨rfl, rfl⟩ ⟨Nat.le_of_ble_eq_true rfl, Nat.le_of_ble_eq_true rfl⟩ (rec_5 X hP5) hP5 rfl hl.1 rfl (Nat.le_of_ble_eq_true rfl) dX5_locks_41 ⟨Nat.le_refl _, Nat.le_refl _⟩) ?_
            refine lv_if_eq (tgt := 51) (cx_x X) (cx_b X) dX5_locks_44 (by decide) (fun c16 => ?_) (fun c16 => ?_)
            · replace hm := if_T c16 hm
              refine lv_iconst (v := (0 : Int32)) (cx_x X) (cx_b X) dX5_locks_51 (by decide) ?_
              exact Jt9 _ (by cases hm; exact hmt9) _ (lv_sub hl [0, 1, 2, 4] rfl)
            · replace hm := if_F c16 hm
              refine lv_iconst (v := (1 : Int32)) (cx_x X) (cx_b X) dX5_locks_47 (by decide) ?_
              refine lv_goto (tgt := 52) (cx_x X) (cx_b X) dX5_locks_48 (by decide) ?_
              exact Jt9 _ (by cases hm; exact hmt9) _ (lv_sub hl [0, 1, 2, 4] rfl)
  exact Lt1 _ _ _ hm _ (lv_sub hl [2, 3, 4, 1, 0] rfl)
/-! X5_available -/
def m5_available_J23  (v3 : Int32) : Option Int32 :=
  if v3 &&& 1 = v3 then some v3 else none
def m5_available (F : (Nat → Int32)) (R : (Nat → Nat → Int32)) (a1 : Int32) (a2 : Int32) : Option Int32 :=
  (m5_uses F R a1 a2).bind fun v2 =>
  (if v2 = 0 then
  (m5_locks F R a1 a2).bind fun v7 =>
  if v7 = 0 then
  some (1 : Int32)
  else
  some (0 : Int32)
  else
  some (0 : Int32)).bind fun v3 => m5_available_J23 v3
abbrev rm_X5_available : Room := { frames := 3, cells := 0, slots := 0, locals := 69 }
set_option maxHeartbeats 4000000 in
set_option maxRecDepth 100000 in
theorem c_X5_available (l : Launch) (D : va_G) (y : Nat → ClassId) (A : Nat → Nat) (F : (Nat → Int32)) (R : (Nat → Nat → Int32)) (a1 : Int32) (a2 : Int32) (r : Int32) (hm : m5_available F R a1 a2 = some r) : Met l yX5_available (wy_s yX5_available cX5_available 3 (some .boolean)) rm_X5_available (pc_R D y [.ref (A 0), .int a1, .int a2] (fun H => va_P D vwCl (w5_s y A F R) H)) (qc_R r) 0 0 (fun _ => False) := by
  refine met_R (by decide) (Nat.le_of_ble_eq_true rfl) ?_
  intro p e s m args below meth c X h0 ls hl
  have hP5 := h0
  replace hl : lv_has ls 3 [(0, .ref (A 0)), (1, .int a1), (2, .int a2)] := hl
  replace X : cx p s m args meth c cX5_available 3 (some .boolean) RX5 D y := X
  unfold m5_available at hm
  refine lv_aload_n (cx_x X) (cx_b X) dX5_available_0 rfl (lv_at hl 0 rfl) ?_
  refine lv_iload_n (cx_x X) (cx_b X) dX5_available_1 rfl (lv_at hl 1 rfl) ?_
  refine lv_iload_n (cx_x X) (cx_b X) dX5_available_2 rfl (lv_at hl 2 rfl) ?_
  obtain ⟨v2, h1, hm⟩ := bnd hm
  refine af_R (rn_V (As := [.int a1, .int a2]) (rest := []) X (c_X5_uses l D y A F R a1 a2  _ h1) vq_X5_62 ⟨rfl, rfl⟩ ⟨Nat.le_of_ble_eq_true rfl, Nat.le_of_ble_eq_true rfl⟩ (rec_5 X hP5) hP5 rfl hl.1 rfl (Nat.le_of_ble_eq_true rfl) dX5_available_3 ⟨Nat.le_refl _, Nat.le_refl _⟩) ?_
  obtain ⟨qt4, hm, hmt4⟩ := bnd hm
  have Jt4 : ∀ (v3 : Int32) , m5_available_J23 v3 = some r → ∀ ls, lv_has ls 3 [] → gr p l e rm_X5_available s m args below meth c r (F0 m 23 ls [.int v3]) := by
    intro v3 hm ls hl
    unfold m5_available_J23 at hm
    obtain ⟨h0, hm⟩ := ck_E hm
    exact gr_z X h0 hm dX5_available_23
  refine lv_if_ne (tgt := 22) (cx_x X) (cx_b X) dX5_available_6 (by decide) (fun c5 => ?_) (fun c5 => ?_)
  · replace hm := if_F c5 hm
    refine lv_iconst (v := (0 : Int32)) (cx_x X) (cx_b X) dX5_available_22 (by decide) ?_
    exact Jt4 _ (by cases hm; exact hmt4) _ (lv_sub hl [] rfl)
  · replace hm := if_T c5 hm
    refine lv_aload_n (cx_x X) (cx_b X) dX5_available_9 rfl (lv_at hl 0 rfl) ?_
    refine lv_iload_n (cx_x X) (cx_b X) dX5_available_10 rfl (lv_at hl 1 rfl) ?_
    refine lv_iload_n (cx_x X) (cx_b X) dX5_available_11 rfl (lv_at hl 2 rfl) ?_
    obtain ⟨v7, h6, hm⟩ := bnd hm
    refine af_R (rn_V (As := [.int a1, .int a2]) (rest := []) X (c_X5_locks l D y A F R a1 a2  _ h6) vq_X5_66 ⟨rfl, rfl⟩ ⟨Nat.le_of_ble_eq_true rfl, Nat.le_of_ble_eq_true rfl⟩ (rec_5 X hP5) hP5 rfl hl.1 rfl (Nat.le_of_ble_eq_true rfl) dX5_available_12 ⟨Nat.le_refl _, Nat.le_refl _⟩) ?_
    refine lv_if_ne (tgt := 22) (cx_x X) (cx_b X) dX5_available_15 (by decide) (fun c8 => ?_) (fun c8 => ?_)
    · replace hm := if_F c8 hm
      refine lv_iconst (v := (0 : Int32)) (cx_x X) (cx_b X) dX5_available_22 (by decide) ?_
      exact Jt4 _ (by cases hm; exact hmt4) _ (lv_sub hl [] rfl)
    · replace hm := if_T c8 hm
      refine lv_iconst (v := (1 : Int32)) (cx_x X) (cx_b X) dX5_available_18 (by decide) ?_
      refine lv_goto (tgt := 23) (cx_x X) (cx_b X) dX5_available_19 (by decide) ?_
      exact Jt4 _ (by cases hm; exact hmt4) _ (lv_sub hl [] rfl)
/-! X5_burdenOf -/
def m5_burdenOf_X60  (v4 : Int32) : Option Int32 :=
  some v4
def m5_burdenOf_J52 (kkt1 : (Int32 × Int32) → Option Int32) (v2 : Int32) (v3 : Int32) (v8 : Int32) : Option Int32 :=
  kkt1 ((v2 + v8), (v3 + (1 : Int32)))
def m5_burdenOf_L5 (F : (Nat → Int32)) (R : (Nat → Nat → Int32)) (a1 : Int32) (a2 : Int32) (kkt1 : (Int32 × Int32) → Option Int32) (t0 : (Int32 × Int32)) : Option Int32 :=
  (m5_cells F R).bind fun v6 =>
  if v6 ≤ t0.2 then
  some t0.1
  else
  (if t0.2 = a1 then
  some (0 : Int32)
  else
  (m5_far F R t0.2 a1).bind fun v12 =>
  if (R 0 (2 : Int32).toNatClampNeg) ≤ v12 then
  some (0 : Int32)
  else
  (m5_isNominal F R t0.2 a2).bind fun v15 =>
  if v15 = 0 then
  some (0 : Int32)
  else
  some (1 : Int32)).bind fun v8 => m5_burdenOf_J52 kkt1 t0.1 t0.2 v8
def m5_burdenOf (F : (Nat → Int32)) (R : (Nat → Nat → Int32)) (a1 : Int32) (a2 : Int32) : Option Int32 :=
  (wh (m5_burdenOf_L5 F R a1 a2) 2000 ((0 : Int32), (0 : Int32))).bind fun v4 => m5_burdenOf_X60 v4
abbrev rm_X5_burdenOf : Room := { frames := 2, cells := 0, slots := 0, locals := 45 }
set_option maxHeartbeats 4000000 in
set_option maxRecDepth 100000 in
theorem c_X5_burdenOf (l : Launch) (D : va_G) (y : Nat → ClassId) (A : Nat → Nat) (F : (Nat → Int32)) (R : (Nat → Nat → Int32)) (a1 : Int32) (a2 : Int32) (r : Int32) (hm : m5_burdenOf F R a1 a2 = some r) : Met l yX5_burdenOf (wy_s yX5_burdenOf cX5_burdenOf 5 (some .int)) rm_X5_burdenOf (pc_R D y [.ref (A 0), .int a1, .int a2] (fun H => va_P D vwCl (w5_s y A F R) H)) (qc_R r) 0 0 (fun _ => False) := by
  refine met_R (by decide) (Nat.le_of_ble_eq_true rfl) ?_
  intro p e s m args below meth c X h0 ls hl
  have hP5 := h0
  replace hl : lv_has ls 5 [(0, .ref (A 0)), (1, .int a1), (2, .int a2)] := hl
  replace X : cx p s m args meth c cX5_burdenOf 5 (some .int) RX5 D y := X
  unfold m5_burdenOf at hm
  refine lv_iconst (v := (0 : Int32)) (cx_x X) (cx_b X) dX5_burdenOf_0 (by decide) ?_
  refine lv_istore_n (lv' := [(3, .int (0 : Int32)), (0, .ref (A 0)), (1, .int a1), (2, .int a2)]) (cx_x X) (cx_b X) dX5_burdenOf_1 rfl hl (by decide) rfl (fun ls hl => ?_)
  refine lv_iconst (v := (0 : Int32)) (cx_x X) (cx_b X) dX5_burdenOf_2 (by decide) ?_
  refine lv_istore (lv' := [(4, .int (0 : Int32)), (3, .int (0 : Int32)), (0, .ref (A 0)), (1, .int a1), (2, .int a2)]) (cx_x X) (cx_b X) dX5_burdenOf_3 hl (by decide) rfl (fun ls hl => ?_)
  obtain ⟨qt1, hm, hmt1⟩ := bnd hm
  have Xt1 : ∀ (v4 : Int32) , m5_burdenOf_X60 v4 = some r → ∀ ls, lv_has ls 5 [(3, .int v4)] → gr p l e rm_X5_burdenOf s m args below meth c r (F0 m 60 ls []) := by
    intro v4 hm ls hl
    unfold m5_burdenOf_X60 at hm
    refine lv_iload_n (cx_x X) (cx_b X) dX5_burdenOf_60 rfl (lv_at hl 0 rfl) ?_
    exact gr_i X hm dX5_burdenOf_61
  have Lt1 : ∀ (n : Nat) (v2 : Int32) (v3 : Int32) , wh (m5_burdenOf_L5 F R a1 a2) n (v2, v3) = some qt1 → ∀ ls, lv_has ls 5 [(0, .ref (A 0)), (1, .int a1), (2, .int a2), (3, .int v2), (4, .int v3)] → gr p l e rm_X5_burdenOf s m args below meth c r (F0 m 5 ls []) := by
    intro n
    induction n with
    | zero => intro v2 v3 hm; cases hm
    | succ n ih =>
      intro v2 v3 hm ls hl
      replace hm : (m5_burdenOf_L5 F R a1 a2) (wh (m5_burdenOf_L5 F R a1 a2) n) (v2, v3) = some qt1 := hm
      dsimp only [m5_burdenOf_L5] at hm
      refine lv_iload (cx_x X) (cx_b X) dX5_burdenOf_5 (lv_at hl 4 rfl) ?_
      refine lv_aload_n (cx_x X) (cx_b X) dX5_burdenOf_7 rfl (lv_at hl 0 rfl) ?_
      obtain ⟨v6, h5, hm⟩ := bnd hm
      refine af_R (rn_V (As := []) (rest := [.int v3]) X (c_X5_cells l D y A F R  _ h5) vq_X5_42 ⟨rfl, rfl⟩ ⟨Nat.le_of_ble_eq_true rfl, Nat.le_of_ble_eq_true rfl⟩ (rec_5 X hP5) hP5 rfl hl.1 rfl (Nat.le_of_ble_eq_true rfl) dX5_burdenOf_8 ⟨Nat.le_refl _, Nat.le_refl _⟩) ?_
      refine lv_icmp_ge (tgt := 60) (cx_x X) (cx_b X) dX5_burdenOf_11 (by decide) (fun c7 => ?_) (fun c7 => ?_)
      · replace hm := if_T c7 hm
        exact Xt1 _ (by cases hm; exact hmt1) _ (lv_sub hl [3] rfl)
      · replace hm := if_F c7 hm
        refine lv_iload_n (cx_x X) (cx_b X) dX5_burdenOf_14 rfl (lv_at hl 3 rfl) ?_
        refine lv_iload (cx_x X) (cx_b X) dX5_burdenOf_15 (lv_at hl 4 rfl) ?_
        refine lv_iload_n (cx_x X) (cx_b X) dX5_burdenOf_17 rfl (lv_at hl 1 rfl) ?_
        obtain ⟨qt9, hm, hmt9⟩ := bnd hm
        have Jt9 : ∀ (v8 : Int32) , m5_burdenOf_J52 (wh (m5_burdenOf_L5 F R a1 a2) n) v2 v3 v8 = some qt1 → ∀ ls, lv_has ls 5 [(0, .ref (A 0)), (1, .int a1), (2, .int a2), (4, .int v3)] → gr p l e rm_X5_burdenOf s m args below meth c r (F0 m 52 ls [.int v8, .int v2]) := by
          intro v8 hm ls hl
          unfold m5_burdenOf_J52 at hm
          refine lv_iadd (cx_x X) (cx_b X) dX5_burdenOf_52 ?_
          refine lv_istore_n (lv' := [(3, .int (v2 + v8)), (0, .ref (A 0)), (1, .int a1), (2, .int a2), (4, .int v3)]) (cx_x X) (cx_b X) dX5_burdenOf_53 rfl hl (by decide) rfl (fun ls hl => ?_)
          refine lv_iinc (v := (v3 + (1 : Int32))) (lv' := [(4, .int (v3 + (1 : Int32))), (3, .int (v2 + v8)), (0, .ref (A 0)), (1, .int a1), (2, .int a2)]) (cx_x X) (cx_b X) dX5_burdenOf_54 hl (k := 4) rfl (by rfl) (by decide) rfl (fun ls hl => ?_)
          refine lv_goto (tgt := 5) (cx_x X) (cx_b X) dX5_burdenOf_57 (by decide) ?_
          exact ih _ _ hm _ (lv_sub hl [2, 3, 4, 1, 0] rfl)
        refine lv_icmp_eq (tgt := 51) (cx_x X) (cx_b X) dX5_burdenOf_18 (by decide) (fun c10 => ?_) (fun c10 => ?_)
        · replace hm := if_T c10 hm
          refine lv_iconst (v := (0 : Int32)) (cx_x X) (cx_b X) dX5_burdenOf_51 (by decide) ?_
          exact Jt9 _ (by cases hm; exact hmt9) _ (lv_sub hl [0, 1, 2, 4] rfl)
        · replace hm := if_F c10 hm
          refine lv_aload_n (cx_x X) (cx_b X) dX5_burdenOf_21 rfl (lv_at hl 0 rfl) ?_
          refine lv_iload (cx_x X) (cx_b X) dX5_burdenOf_22 (lv_at hl 4 rfl) ?_
          refine lv_iload_n (cx_x X) (cx_b X) dX5_burdenOf_24 rfl (lv_at hl 1 rfl) ?_
          obtain ⟨v12, h11, hm⟩ := bnd hm
          refine af_R (rn_V (As := [.int v3, .int a1]) (rest := [.int v2]) X (c_X5_far l D y A F R v3 a1  _ h11) vq_X5_58 ⟨rfl, rfl⟩ ⟨Nat.le_of_ble_eq_true rfl, Nat.le_of_ble_eq_true rfl⟩ (rec_5 X hP5) hP5 rfl hl.1 rfl (Nat.le_of_ble_eq_true rfl) dX5_burdenOf_25 ⟨Nat.le_refl _, Nat.le_refl _⟩) ?_
          refine lv_aload_n (cx_x X) (cx_b X) dX5_burdenOf_28 rfl (lv_at hl 0 rfl) ?_
          refine gf_X5_7 X hP5 dX5_burdenOf_29 ?_
          refine lv_iconst (v := (2 : Int32)) (cx_x X) (cx_b X) dX5_burdenOf_32 (by decide) ?_
          refine ld_5_0 X hP5 (by decide) dX5_burdenOf_33 ?_
          refine lv_icmp_ge (tgt := 51) (cx_x X) (cx_b X) dX5_burdenOf_34 (by decide) (fun c13 => ?_) (fun c13 => ?_)
          · replace hm := if_T c13 hm
            refine lv_iconst (v := (0 : Int32)) (cx_x X) (cx_b X) dX5_burdenOf_51 (by decide) ?_
            exact Jt9 _ (by cases hm; exact hmt9) _ (lv_sub hl [0, 1, 2, 4] rfl)
          · replace hm := if_F c13 hm
            refine lv_aload_n (cx_x X) (cx_b X) dX5_burdenOf_37 rfl (lv_at hl 0 rfl) ?_
            refine lv_iload (cx_x X) (cx_b X) dX5_burdenOf_38 (lv_at hl 4 rfl) ?_
            refine lv_iload_n (cx_x X) (cx_b X) dX5_burdenOf_40 rfl (lv_at hl 2 rfl) ?_
            obtain ⟨v15, h14, hm⟩ := bnd hm
            refine af_R (rn_V (As := [.int v3, .int a2]) (rest := [.int v2]) X (c_X5_isNominal l D y A F R v3 a2  _ h14) vq_X5_69 ⟨rfl, rfl⟩ ⟨Nat.le_of_ble_eq_true rfl, Nat.le_of_ble_eq_true rfl⟩ (rec_5 X hP5) hP5 rfl hl.1 rfl (Nat.le_of_ble_eq_true rfl) dX5_burdenOf_41 ⟨Nat.le_refl _, Nat.le_refl _⟩) ?_
            refine lv_if_eq (tgt := 51) (cx_x X) (cx_b X) dX5_burdenOf_44 (by decide) (fun c16 => ?_) (fun c16 => ?_)
            · replace hm := if_T c16 hm
              refine lv_iconst (v := (0 : Int32)) (cx_x X) (cx_b X) dX5_burdenOf_51 (by decide) ?_
              exact Jt9 _ (by cases hm; exact hmt9) _ (lv_sub hl [0, 1, 2, 4] rfl)
            · replace hm := if_F c16 hm
              refine lv_iconst (v := (1 : Int32)) (cx_x X) (cx_b X) dX5_burdenOf_47 (by decide) ?_
              refine lv_goto (tgt := 52) (cx_x X) (cx_b X) dX5_burdenOf_48 (by decide) ?_
              exact Jt9 _ (by cases hm; exact hmt9) _ (lv_sub hl [0, 1, 2, 4] rfl)
  exact Lt1 _ _ _ hm _ (lv_sub hl [2, 3, 4, 1, 0] rfl)
/-! X5_availables -/
def m5_availables_X44  (v4 : Int32) : Option Int32 :=
  some v4
def m5_availables_J36 (kkt1 : (Int32 × Int32) → Option Int32) (v2 : Int32) (v3 : Int32) (v10 : Int32) : Option Int32 :=
  kkt1 ((v2 + v10), (v3 + (1 : Int32)))
def m5_availables_L4 (F : (Nat → Int32)) (R : (Nat → Nat → Int32)) (a1 : Int32) (kkt1 : (Int32 × Int32) → Option Int32) (t0 : (Int32 × Int32)) : Option Int32 :=
  (m5_channels F R).bind fun v6 =>
  if v6 ≤ t0.2 then
  some t0.1
  else
  (m5_isNominal F R a1 t0.2).bind fun v9 =>
  (if v9 = 0 then
  some (0 : Int32)
  else
  (m5_available F R a1 t0.2).bind fun v14 =>
  if v14 = 0 then
  some (0 : Int32)
  else
  some (1 : Int32)).bind fun v10 => m5_availables_J36 kkt1 t0.1 t0.2 v10
def m5_availables (F : (Nat → Int32)) (R : (Nat → Nat → Int32)) (a1 : Int32) : Option Int32 :=
  (wh (m5_availables_L4 F R a1) 2000 ((0 : Int32), (0 : Int32))).bind fun v4 => m5_availables_X44 v4
abbrev rm_X5_availables : Room := { frames := 4, cells := 0, slots := 0, locals := 91 }
set_option maxHeartbeats 4000000 in
set_option maxRecDepth 100000 in
theorem c_X5_availables (l : Launch) (D : va_G) (y : Nat → ClassId) (A : Nat → Nat) (F : (Nat → Int32)) (R : (Nat → Nat → Int32)) (a1 : Int32) (r : Int32) (hm : m5_availables F R a1 = some r) : Met l yX5_availables (wy_s yX5_availables cX5_availables 4 (some .int)) rm_X5_availables (pc_R D y [.ref (A 0), .int a1] (fun H => va_P D vwCl (w5_s y A F R) H)) (qc_R r) 0 0 (fun _ => False) := by
  refine met_R (by decide) (Nat.le_of_ble_eq_true rfl) ?_
  intro p e s m args below meth c X h0 ls hl
  have hP5 := h0
  replace hl : lv_has ls 4 [(0, .ref (A 0)), (1, .int a1)] := hl
  replace X : cx p s m args meth c cX5_availables 4 (some .int) RX5 D y := X
  unfold m5_availables at hm
  refine lv_iconst (v := (0 : Int32)) (cx_x X) (cx_b X) dX5_availables_0 (by decide) ?_
  refine lv_istore_n (lv' := [(2, .int (0 : Int32)), (0, .ref (A 0)), (1, .int a1)]) (cx_x X) (cx_b X) dX5_availables_1 rfl hl (by decide) rfl (fun ls hl => ?_)
  refine lv_iconst (v := (0 : Int32)) (cx_x X) (cx_b X) dX5_availables_2 (by decide) ?_
  refine lv_istore_n (lv' := [(3, .int (0 : Int32)), (2, .int (0 : Int32)), (0, .ref (A 0)), (1, .int a1)]) (cx_x X) (cx_b X) dX5_availables_3 rfl hl (by decide) rfl (fun ls hl => ?_)
  obtain ⟨qt1, hm, hmt1⟩ := bnd hm
  have Xt1 : ∀ (v4 : Int32) , m5_availables_X44 v4 = some r → ∀ ls, lv_has ls 4 [(2, .int v4)] → gr p l e rm_X5_availables s m args below meth c r (F0 m 44 ls []) := by
    intro v4 hm ls hl
    unfold m5_availables_X44 at hm
    refine lv_iload_n (cx_x X) (cx_b X) dX5_availables_44 rfl (lv_at hl 0 rfl) ?_
    exact gr_i X hm dX5_availables_45
  have Lt1 : ∀ (n : Nat) (v2 : Int32) (v3 : Int32) , wh (m5_availables_L4 F R a1) n (v2, v3) = some qt1 → ∀ ls, lv_has ls 4 [(0, .ref (A 0)), (1, .int a1), (2, .int v2), (3, .int v3)] → gr p l e rm_X5_availables s m args below meth c r (F0 m 4 ls []) := by
    intro n
    induction n with
    | zero => intro v2 v3 hm; cases hm
    | succ n ih =>
      intro v2 v3 hm ls hl
      replace hm : (m5_availables_L4 F R a1) (wh (m5_availables_L4 F R a1) n) (v2, v3) = some qt1 := hm
      dsimp only [m5_availables_L4] at hm
      refine lv_iload_n (cx_x X) (cx_b X) dX5_availables_4 rfl (lv_at hl 3 rfl) ?_
      refine lv_aload_n (cx_x X) (cx_b X) dX5_availables_5 rfl (lv_at hl 0 rfl) ?_
      obtain ⟨v6, h5, hm⟩ := bnd hm
      refine af_R (rn_V (As := []) (rest := [.int v3]) X (c_X5_channels l D y A F R  _ h5) vq_X5_48 ⟨rfl, rfl⟩ ⟨Nat.le_of_ble_eq_true rfl, Nat.le_of_ble_eq_true rfl⟩ (rec_5 X hP5) hP5 rfl hl.1 rfl (Nat.le_of_ble_eq_true rfl) dX5_availables_6 ⟨Nat.le_refl _, Nat.le_refl _⟩) ?_
      refine lv_icmp_ge (tgt := 44) (cx_x X) (cx_b X) dX5_availables_9 (by decide) (fun c7 => ?_) (fun c7 => ?_)
      · replace hm := if_T c7 hm
        exact Xt1 _ (by cases hm; exact hmt1) _ (lv_sub hl [2] rfl)
      · replace hm := if_F c7 hm
        refine lv_iload_n (cx_x X) (cx_b X) dX5_availables_12 rfl (lv_at hl 2 rfl) ?_
        refine lv_aload_n (cx_x X) (cx_b X) dX5_availables_13 rfl (lv_at hl 0 rfl) ?_
        refine lv_iload_n (cx_x X) (cx_b X) dX5_availables_14 rfl (lv_at hl 1 rfl) ?_
        refine lv_iload_n (cx_x X) (cx_b X) dX5_availables_15 rfl (lv_at hl 3 rfl) ?_
        obtain ⟨v9, h8, hm⟩ := bnd hm
        refine af_R (rn_V (As := [.int a1, .int v3]) (rest := [.int v2]) X (c_X5_isNominal l D y A F R a1 v3  _ h8) vq_X5_69 ⟨rfl, rfl⟩ ⟨Nat.le_of_ble_eq_true rfl, Nat.le_of_ble_eq_true rfl⟩ (rec_5 X hP5) hP5 rfl hl.1 rfl (Nat.le_of_ble_eq_true rfl) dX5_availables_16 ⟨Nat.le_refl _, Nat.le_refl _⟩) ?_
        obtain ⟨qt11, hm, hmt11⟩ := bnd hm
        have Jt11 : ∀ (v10 : Int32) , m5_availables_J36 (wh (m5_availables_L4 F R a1) n) v2 v3 v10 = some qt1 → ∀ ls, lv_has ls 4 [(0, .ref (A 0)), (1, .int a1), (3, .int v3)] → gr p l e rm_X5_availables s m args below meth c r (F0 m 36 ls [.int v10, .int v2]) := by
          intro v10 hm ls hl
          unfold m5_availables_J36 at hm
          refine lv_iadd (cx_x X) (cx_b X) dX5_availables_36 ?_
          refine lv_istore_n (lv' := [(2, .int (v2 + v10)), (0, .ref (A 0)), (1, .int a1), (3, .int v3)]) (cx_x X) (cx_b X) dX5_availables_37 rfl hl (by decide) rfl (fun ls hl => ?_)
          refine lv_iinc (v := (v3 + (1 : Int32))) (lv' := [(3, .int (v3 + (1 : Int32))), (2, .int (v2 + v10)), (0, .ref (A 0)), (1, .int a1)]) (cx_x X) (cx_b X) dX5_availables_38 hl (k := 3) rfl (by rfl) (by decide) rfl (fun ls hl => ?_)
          refine lv_goto (tgt := 4) (cx_x X) (cx_b X) dX5_availables_41 (by decide) ?_
          exact ih _ _ hm _ (lv_sub hl [2, 3, 1, 0] rfl)
        refine lv_if_eq (tgt := 35) (cx_x X) (cx_b X) dX5_availables_19 (by decide) (fun c12 => ?_) (fun c12 => ?_)
        · replace hm := if_T c12 hm
          refine lv_iconst (v := (0 : Int32)) (cx_x X) (cx_b X) dX5_availables_35 (by decide) ?_
          exact Jt11 _ (by cases hm; exact hmt11) _ (lv_sub hl [0, 1, 3] rfl)
        · replace hm := if_F c12 hm
          refine lv_aload_n (cx_x X) (cx_b X) dX5_availables_22 rfl (lv_at hl 0 rfl) ?_
          refine lv_iload_n (cx_x X) (cx_b X) dX5_availables_23 rfl (lv_at hl 1 rfl) ?_
          refine lv_iload_n (cx_x X) (cx_b X) dX5_availables_24 rfl (lv_at hl 3 rfl) ?_
          obtain ⟨v14, h13, hm⟩ := bnd hm
          refine af_R (rn_V (As := [.int a1, .int v3]) (rest := [.int v2]) X (c_X5_available l D y A F R a1 v3  _ h13) vq_X5_72 ⟨rfl, rfl⟩ ⟨Nat.le_of_ble_eq_true rfl, Nat.le_of_ble_eq_true rfl⟩ (rec_5 X hP5) hP5 rfl hl.1 rfl (Nat.le_of_ble_eq_true rfl) dX5_availables_25 ⟨Nat.le_refl _, Nat.le_refl _⟩) ?_
          refine lv_if_eq (tgt := 35) (cx_x X) (cx_b X) dX5_availables_28 (by decide) (fun c15 => ?_) (fun c15 => ?_)
          · replace hm := if_T c15 hm
            refine lv_iconst (v := (0 : Int32)) (cx_x X) (cx_b X) dX5_availables_35 (by decide) ?_
            exact Jt11 _ (by cases hm; exact hmt11) _ (lv_sub hl [0, 1, 3] rfl)
          · replace hm := if_F c15 hm
            refine lv_iconst (v := (1 : Int32)) (cx_x X) (cx_b X) dX5_availables_31 (by decide) ?_
            refine lv_goto (tgt := 36) (cx_x X) (cx_b X) dX5_availables_32 (by decide) ?_
            exact Jt11 _ (by cases hm; exact hmt11) _ (lv_sub hl [0, 1, 3] rfl)
  exact Lt1 _ _ _ hm _ (lv_sub hl [2, 3, 1, 0] rfl)
/-! X5_nominal -/
def m5_nominal_L2 (F : (Nat → Int32)) (R : (Nat → Nat → Int32)) (a1 : Int32) (kkt1 : Int32 → Option Int32) (t0 : Int32) : Option Int32 :=
  (m5_channels F R).bind fun v4 =>
  if v4 ≤ t0 then
  some (-9 : Int32)
  else
  (m5_isNominal F R a1 t0).bind fun v7 =>
  if v7 = 0 then
  kkt1 (t0 + (1 : Int32))
  else
  (m5_available F R a1 t0).bind fun v10 =>
  if v10 = 0 then
  kkt1 (t0 + (1 : Int32))
  else
  some t0
def m5_nominal (F : (Nat → Int32)) (R : (Nat → Nat → Int32)) (a1 : Int32) : Option Int32 :=
  wh (m5_nominal_L2 F R a1) 2000 (0 : Int32)
abbrev rm_X5_nominal : Room := { frames := 4, cells := 0, slots := 0, locals := 91 }
set_option maxHeartbeats 4000000 in
set_option maxRecDepth 100000 in
theorem c_X5_nominal (l : Launch) (D : va_G) (y : Nat → ClassId) (A : Nat → Nat) (F : (Nat → Int32)) (R : (Nat → Nat → Int32)) (a1 : Int32) (r : Int32) (hm : m5_nominal F R a1 = some r) : Met l yX5_nominal (wy_s yX5_nominal cX5_nominal 3 (some .int)) rm_X5_nominal (pc_R D y [.ref (A 0), .int a1] (fun H => va_P D vwCl (w5_s y A F R) H)) (qc_R r) 0 0 (fun _ => False) := by
  refine met_R (by decide) (Nat.le_of_ble_eq_true rfl) ?_
  intro p e s m args below meth c X h0 ls hl
  have hP5 := h0
  replace hl : lv_has ls 3 [(0, .ref (A 0)), (1, .int a1)] := hl
  replace X : cx p s m args meth c cX5_nominal 3 (some .int) RX5 D y := X
  unfold m5_nominal at hm
  refine lv_iconst (v := (0 : Int32)) (cx_x X) (cx_b X) dX5_nominal_0 (by decide) ?_
  refine lv_istore_n (lv' := [(2, .int (0 : Int32)), (0, .ref (A 0)), (1, .int a1)]) (cx_x X) (cx_b X) dX5_nominal_1 rfl hl (by decide) rfl (fun ls hl => ?_)
  have Lt1 : ∀ (n : Nat) (v2 : Int32) , wh (m5_nominal_L2 F R a1) n v2 = some r → ∀ ls, lv_has ls 3 [(0, .ref (A 0)), (1, .int a1), (2, .int v2)] → gr p l e rm_X5_nominal s m args below meth c r (F0 m 2 ls []) := by
    intro n
    induction n with
    | zero => intro v2 hm; cases hm
    | succ n ih =>
      intro v2 hm ls hl
      replace hm : (m5_nominal_L2 F R a1) (wh (m5_nominal_L2 F R a1) n) v2 = some r := hm
      dsimp only [m5_nominal_L2] at hm
      refine lv_iload_n (cx_x X) (cx_b X) dX5_nominal_2 rfl (lv_at hl 2 rfl) ?_
      refine lv_aload_n (cx_x X) (cx_b X) dX5_nominal_3 rfl (lv_at hl 0 rfl) ?_
      obtain ⟨v4, h3, hm⟩ := bnd hm
      refine af_R (rn_V (As := []) (rest := [.int v2]) X (c_X5_channels l D y A F R  _ h3) vq_X5_48 ⟨rfl, rfl⟩ ⟨Nat.le_of_ble_eq_true rfl, Nat.le_of_ble_eq_true rfl⟩ (rec_5 X hP5) hP5 rfl hl.1 rfl (Nat.le_of_ble_eq_true rfl) dX5_nominal_4 ⟨Nat.le_refl _, Nat.le_refl _⟩) ?_
      refine lv_icmp_ge (tgt := 36) (cx_x X) (cx_b X) dX5_nominal_7 (by decide) (fun c5 => ?_) (fun c5 => ?_)
      · replace hm := if_T c5 hm
        refine lv_bipush (v := (-9 : Int32)) (cx_x X) (cx_b X) dX5_nominal_36 (by decide) ?_
        exact gr_i X hm dX5_nominal_38
      · replace hm := if_F c5 hm
        refine lv_aload_n (cx_x X) (cx_b X) dX5_nominal_10 rfl (lv_at hl 0 rfl) ?_
        refine lv_iload_n (cx_x X) (cx_b X) dX5_nominal_11 rfl (lv_at hl 1 rfl) ?_
        refine lv_iload_n (cx_x X) (cx_b X) dX5_nominal_12 rfl (lv_at hl 2 rfl) ?_
        obtain ⟨v7, h6, hm⟩ := bnd hm
        refine af_R (rn_V (As := [.int a1, .int v2]) (rest := []) X (c_X5_isNominal l D y A F R a1 v2  _ h6) vq_X5_69 ⟨rfl, rfl⟩ ⟨Nat.le_of_ble_eq_true rfl, Nat.le_of_ble_eq_true rfl⟩ (rec_5 X hP5) hP5 rfl hl.1 rfl (Nat.le_of_ble_eq_true rfl) dX5_nominal_13 ⟨Nat.le_refl _, Nat.le_refl _⟩) ?_
        refine lv_if_eq (tgt := 30) (cx_x X) (cx_b X) dX5_nominal_16 (by decide) (fun c8 => ?_) (fun c8 => ?_)
        · replace hm := if_T c8 hm
          refine lv_iinc (v := (v2 + (1 : Int32))) (lv' := [(2, .int (v2 + (1 : Int32))), (0, .ref (A 0)), (1, .int a1)]) (cx_x X) (cx_b X) dX5_nominal_30 hl (k := 2) rfl (by rfl) (by decide) rfl (fun ls hl => ?_)
          refine lv_goto (tgt := 2) (cx_x X) (cx_b X) dX5_nominal_33 (by decide) ?_
          exact ih _ hm _ (lv_sub hl [1, 2, 0] rfl)
        · replace hm := if_F c8 hm
          refine lv_aload_n (cx_x X) (cx_b X) dX5_nominal_19 rfl (lv_at hl 0 rfl) ?_
          refine lv_iload_n (cx_x X) (cx_b X) dX5_nominal_20 rfl (lv_at hl 1 rfl) ?_
          refine lv_iload_n (cx_x X) (cx_b X) dX5_nominal_21 rfl (lv_at hl 2 rfl) ?_
          obtain ⟨v10, h9, hm⟩ := bnd hm
          refine af_R (rn_V (As := [.int a1, .int v2]) (rest := []) X (c_X5_available l D y A F R a1 v2  _ h9) vq_X5_72 ⟨rfl, rfl⟩ ⟨Nat.le_of_ble_eq_true rfl, Nat.le_of_ble_eq_true rfl⟩ (rec_5 X hP5) hP5 rfl hl.1 rfl (Nat.le_of_ble_eq_true rfl) dX5_nominal_22 ⟨Nat.le_refl _, Nat.le_refl _⟩) ?_
          refine lv_if_eq (tgt := 30) (cx_x X) (cx_b X) dX5_nominal_25 (by decide) (fun c11 => ?_) (fun c11 => ?_)
          · replace hm := if_T c11 hm
            refine lv_iinc (v := (v2 + (1 : Int32))) (lv' := [(2, .int (v2 + (1 : Int32))), (0, .ref (A 0)), (1, .int a1)]) (cx_x X) (cx_b X) dX5_nominal_30 hl (k := 2) rfl (by rfl) (by decide) rfl (fun ls hl => ?_)
            refine lv_goto (tgt := 2) (cx_x X) (cx_b X) dX5_nominal_33 (by decide) ?_
            exact ih _ hm _ (lv_sub hl [1, 2, 0] rfl)
          · replace hm := if_F c11 hm
            refine lv_iload_n (cx_x X) (cx_b X) dX5_nominal_28 rfl (lv_at hl 2 rfl) ?_
            exact gr_i X hm dX5_nominal_29
  exact Lt1 _ _ hm _ (lv_sub hl [1, 2, 0] rfl)
/-! X5_isCall -/
def m5_isCall_J27  (v3 : Int32) : Option Int32 :=
  if v3 &&& 1 = v3 then some v3 else none
def m5_isCall (F : (Nat → Int32)) (R : (Nat → Nat → Int32)) (a1 : Int32) : Option Int32 :=
  (m5_in a1 (0 : Int32) (59 : Int32)).bind fun v2 =>
  (if v2 = 0 then
  some (0 : Int32)
  else
  if inb ((14 : Int32) + a1) 194 then
  if (R 0 ((14 : Int32) + a1).toNatClampNeg) ≤ 0 then
  some (0 : Int32)
  else
  some (1 : Int32) else none).bind fun v3 => m5_isCall_J27 v3
abbrev rm_X5_isCall : Room := { frames := 1, cells := 0, slots := 0, locals := 22 }
set_option maxHeartbeats 4000000 in
set_option maxRecDepth 100000 in
theorem c_X5_isCall (l : Launch) (D : va_G) (y : Nat → ClassId) (A : Nat → Nat) (F : (Nat → Int32)) (R : (Nat → Nat → Int32)) (a1 : Int32) (r : Int32) (hm : m5_isCall F R a1 = some r) : Met l yX5_isCall (wy_s yX5_isCall cX5_isCall 2 (some .boolean)) rm_X5_isCall (pc_R D y [.ref (A 0), .int a1] (fun H => va_P D vwCl (w5_s y A F R) H)) (qc_R r) 0 0 (fun _ => False) := by
  refine met_R (by decide) (Nat.le_of_ble_eq_true rfl) ?_
  intro p e s m args below meth c X h0 ls hl
  have hP5 := h0
  replace hl : lv_has ls 2 [(0, .ref (A 0)), (1, .int a1)] := hl
  replace X : cx p s m args meth c cX5_isCall 2 (some .boolean) RX5 D y := X
  unfold m5_isCall at hm
  refine lv_iload_n (cx_x X) (cx_b X) dX5_isCall_0 rfl (lv_at hl 1 rfl) ?_
  refine lv_iconst (v := (0 : Int32)) (cx_x X) (cx_b X) dX5_isCall_1 (by decide) ?_
  refine lv_bipush (v := (59 : Int32)) (cx_x X) (cx_b X) dX5_isCall_2 (by decide) ?_
  obtain ⟨v2, h1, hm⟩ := bnd hm
  refine af_R (rn_S (As := [.int a1, .int (0 : Int32), .int (59 : Int32)]) (rest := []) X (c_X5_in l D y a1 (0 : Int32) (59 : Int32)  _ h1) sq_X5_34 ⟨rfl, rfl⟩ ⟨Nat.le_of_ble_eq_true rfl, Nat.le_of_ble_eq_true rfl⟩ trivial rfl hl.1 rfl (Nat.le_of_ble_eq_true rfl) dX5_isCall_4 ⟨Nat.le_refl _, Nat.le_refl _⟩) ?_
  obtain ⟨qt4, hm, hmt4⟩ := bnd hm
  have Jt4 : ∀ (v3 : Int32) , m5_isCall_J27 v3 = some r → ∀ ls, lv_has ls 2 [] → gr p l e rm_X5_isCall s m args below meth c r (F0 m 27 ls [.int v3]) := by
    intro v3 hm ls hl
    unfold m5_isCall_J27 at hm
    obtain ⟨h0, hm⟩ := ck_E hm
    exact gr_z X h0 hm dX5_isCall_27
  refine lv_if_eq (tgt := 26) (cx_x X) (cx_b X) dX5_isCall_7 (by decide) (fun c5 => ?_) (fun c5 => ?_)
  · replace hm := if_T c5 hm
    refine lv_iconst (v := (0 : Int32)) (cx_x X) (cx_b X) dX5_isCall_26 (by decide) ?_
    exact Jt4 _ (by cases hm; exact hmt4) _ (lv_sub hl [] rfl)
  · replace hm := if_F c5 hm
    refine lv_aload_n (cx_x X) (cx_b X) dX5_isCall_10 rfl (lv_at hl 0 rfl) ?_
    refine gf_X5_7 X hP5 dX5_isCall_11 ?_
    refine lv_bipush (v := (14 : Int32)) (cx_x X) (cx_b X) dX5_isCall_14 (by decide) ?_
    refine lv_iload_n (cx_x X) (cx_b X) dX5_isCall_16 rfl (lv_at hl 1 rfl) ?_
    refine lv_iadd (cx_x X) (cx_b X) dX5_isCall_17 ?_
    obtain ⟨h6, hm⟩ := ck_E hm
    refine ld_5_0 X hP5 h6 dX5_isCall_18 ?_
    refine lv_if_le (tgt := 26) (cx_x X) (cx_b X) dX5_isCall_19 (by decide) (fun c7 => ?_) (fun c7 => ?_)
    · replace hm := if_T c7 hm
      refine lv_iconst (v := (0 : Int32)) (cx_x X) (cx_b X) dX5_isCall_26 (by decide) ?_
      exact Jt4 _ (by cases hm; exact hmt4) _ (lv_sub hl [] rfl)
    · replace hm := if_F c7 hm
      refine lv_iconst (v := (1 : Int32)) (cx_x X) (cx_b X) dX5_isCall_22 (by decide) ?_
      refine lv_goto (tgt := 27) (cx_x X) (cx_b X) dX5_isCall_23 (by decide) ?_
      exact Jt4 _ (by cases hm; exact hmt4) _ (lv_sub hl [] rfl)
/-! X5_borrowed -/
def m5_borrowed_J46  (v2 : Int32) : Option Int32 :=
  if v2 &&& 1 = v2 then some v2 else none
def m5_borrowed (F : (Nat → Int32)) (R : (Nat → Nat → Int32)) (a1 : Int32) : Option Int32 :=
  if inb ((74 : Int32) + a1) 194 then
  (if (R 0 ((74 : Int32) + a1).toNatClampNeg) ≤ 0 then
  some (0 : Int32)
  else
  if inb ((14 : Int32) + a1) 194 then
  if inb ((74 : Int32) + a1) 194 then
  (m5_isNominal F R ((R 0 ((14 : Int32) + a1).toNatClampNeg) - (1 : Int32)) ((R 0 ((74 : Int32) + a1).toNatClampNeg) - (1 : Int32))).bind fun v8 =>
  if v8 = 0 then
  some (1 : Int32)
  else
  some (0 : Int32) else none else none).bind fun v2 => m5_borrowed_J46 v2 else none
abbrev rm_X5_borrowed : Room := { frames := 2, cells := 0, slots := 0, locals := 45 }
set_option maxHeartbeats 4000000 in
set_option maxRecDepth 100000 in
theorem c_X5_borrowed (l : Launch) (D : va_G) (y : Nat → ClassId) (A : Nat → Nat) (F : (Nat → Int32)) (R : (Nat → Nat → Int32)) (a1 : Int32) (r : Int32) (hm : m5_borrowed F R a1 = some r) : Met l yX5_borrowed (wy_s yX5_borrowed cX5_borrowed 2 (some .boolean)) rm_X5_borrowed (pc_R D y [.ref (A 0), .int a1] (fun H => va_P D vwCl (w5_s y A F R) H)) (qc_R r) 0 0 (fun _ => False) := by
  refine met_R (by decide) (Nat.le_of_ble_eq_true rfl) ?_
  intro p e s m args below meth c X h0 ls hl
  have hP5 := h0
  replace hl : lv_has ls 2 [(0, .ref (A 0)), (1, .int a1)] := hl
  replace X : cx p s m args meth c cX5_borrowed 2 (some .boolean) RX5 D y := X
  unfold m5_borrowed at hm
  refine lv_aload_n (cx_x X) (cx_b X) dX5_borrowed_0 rfl (lv_at hl 0 rfl) ?_
  refine gf_X5_7 X hP5 dX5_borrowed_1 ?_
  refine lv_bipush (v := (74 : Int32)) (cx_x X) (cx_b X) dX5_borrowed_4 (by decide) ?_
  refine lv_iload_n (cx_x X) (cx_b X) dX5_borrowed_6 rfl (lv_at hl 1 rfl) ?_
  refine lv_iadd (cx_x X) (cx_b X) dX5_borrowed_7 ?_
  obtain ⟨h1, hm⟩ := ck_E hm
  refine ld_5_0 X hP5 h1 dX5_borrowed_8 ?_
  obtain ⟨qt3, hm, hmt3⟩ := bnd hm
  have Jt3 : ∀ (v2 : Int32) , m5_borrowed_J46 v2 = some r → ∀ ls, lv_has ls 2 [] → gr p l e rm_X5_borrowed s m args below meth c r (F0 m 46 ls [.int v2]) := by
    intro v2 hm ls hl
    unfold m5_borrowed_J46 at hm
    obtain ⟨h0, hm⟩ := ck_E hm
    exact gr_z X h0 hm dX5_borrowed_46
  refine lv_if_le (tgt := 45) (cx_x X) (cx_b X) dX5_borrowed_9 (by decide) (fun c4 => ?_) (fun c4 => ?_)
  · replace hm := if_T c4 hm
    refine lv_iconst (v := (0 : Int32)) (cx_x X) (cx_b X) dX5_borrowed_45 (by decide) ?_
    exact Jt3 _ (by cases hm; exact hmt3) _ (lv_sub hl [] rfl)
  · replace hm := if_F c4 hm
    refine lv_aload_n (cx_x X) (cx_b X) dX5_borrowed_12 rfl (lv_at hl 0 rfl) ?_
    refine lv_aload_n (cx_x X) (cx_b X) dX5_borrowed_13 rfl (lv_at hl 0 rfl) ?_
    refine gf_X5_7 X hP5 dX5_borrowed_14 ?_
    refine lv_bipush (v := (14 : Int32)) (cx_x X) (cx_b X) dX5_borrowed_17 (by decide) ?_
    refine lv_iload_n (cx_x X) (cx_b X) dX5_borrowed_19 rfl (lv_at hl 1 rfl) ?_
    refine lv_iadd (cx_x X) (cx_b X) dX5_borrowed_20 ?_
    obtain ⟨h5, hm⟩ := ck_E hm
    refine ld_5_0 X hP5 h5 dX5_borrowed_21 ?_
    refine lv_iconst (v := (1 : Int32)) (cx_x X) (cx_b X) dX5_borrowed_22 (by decide) ?_
    refine lv_isub (cx_x X) (cx_b X) dX5_borrowed_23 ?_
    refine lv_aload_n (cx_x X) (cx_b X) dX5_borrowed_24 rfl (lv_at hl 0 rfl) ?_
    refine gf_X5_7 X hP5 dX5_borrowed_25 ?_
    refine lv_bipush (v := (74 : Int32)) (cx_x X) (cx_b X) dX5_borrowed_28 (by decide) ?_
    refine lv_iload_n (cx_x X) (cx_b X) dX5_borrowed_30 rfl (lv_at hl 1 rfl) ?_
    refine lv_iadd (cx_x X) (cx_b X) dX5_borrowed_31 ?_
    obtain ⟨h6, hm⟩ := ck_E hm
    refine ld_5_0 X hP5 h6 dX5_borrowed_32 ?_
    refine lv_iconst (v := (1 : Int32)) (cx_x X) (cx_b X) dX5_borrowed_33 (by decide) ?_
    refine lv_isub (cx_x X) (cx_b X) dX5_borrowed_34 ?_
    obtain ⟨v8, h7, hm⟩ := bnd hm
    refine af_R (rn_V (As := [.int ((R 0 ((14 : Int32) + a1).toNatClampNeg) - (1 : Int32)), .int ((R 0 ((74 : Int32) + a1).toNatClampNeg) - (1 : Int32))]) (rest := []) X (c_X5_isNominal l D y A F R ((R 0 ((14 : Int32) + a1).toNatClampNeg) - (1 : Int32)) ((R 0 ((74 : Int32) + a1).toNatClampNeg) - (1 : Int32))  _ h7) vq_X5_69 ⟨rfl, rfl⟩ ⟨Nat.le_of_ble_eq_true rfl, Nat.le_of_ble_eq_true rfl⟩ (rec_5 X hP5) hP5 rfl hl.1 rfl (Nat.le_of_ble_eq_true rfl) dX5_borrowed_35 ⟨Nat.le_refl _, Nat.le_refl _⟩) ?_
    refine lv_if_ne (tgt := 45) (cx_x X) (cx_b X) dX5_borrowed_38 (by decide) (fun c9 => ?_) (fun c9 => ?_)
    · replace hm := if_F c9 hm
      refine lv_iconst (v := (0 : Int32)) (cx_x X) (cx_b X) dX5_borrowed_45 (by decide) ?_
      exact Jt3 _ (by cases hm; exact hmt3) _ (lv_sub hl [] rfl)
    · replace hm := if_T c9 hm
      refine lv_iconst (v := (1 : Int32)) (cx_x X) (cx_b X) dX5_borrowed_41 (by decide) ?_
      refine lv_goto (tgt := 46) (cx_x X) (cx_b X) dX5_borrowed_42 (by decide) ?_
      exact Jt3 _ (by cases hm; exact hmt3) _ (lv_sub hl [] rfl)
/-! X5_fixedIn -/
def m5_fixedIn_X48  (v4 : Int32) : Option Int32 :=
  some v4
def m5_fixedIn_J40 (kkt1 : (Int32 × Int32) → Option Int32) (v2 : Int32) (v3 : Int32) (v7 : Int32) : Option Int32 :=
  kkt1 ((v2 + v7), (v3 + (1 : Int32)))
def m5_fixedIn_L4 (R : (Nat → Nat → Int32)) (a1 : Int32) (kkt1 : (Int32 × Int32) → Option Int32) (t0 : (Int32 × Int32)) : Option Int32 :=
  if (60 : Int32) ≤ t0.2 then
  some t0.1
  else
  if inb ((14 : Int32) + t0.2) 194 then
  (if (R 0 ((14 : Int32) + t0.2).toNatClampNeg) = (a1 + (1 : Int32)) then
  if inb ((134 : Int32) + t0.2) 194 then
  some (R 0 ((134 : Int32) + t0.2).toNatClampNeg) else none
  else
  some (0 : Int32)).bind fun v7 => m5_fixedIn_J40 kkt1 t0.1 t0.2 v7 else none
def m5_fixedIn (F : (Nat → Int32)) (R : (Nat → Nat → Int32)) (a1 : Int32) : Option Int32 :=
  (wh (m5_fixedIn_L4 R a1) 2000 ((0 : Int32), (0 : Int32))).bind fun v4 => m5_fixedIn_X48 v4
abbrev rm_X5_fixedIn : Room := { frames := 0, cells := 0, slots := 0, locals := 0 }
set_option maxHeartbeats 4000000 in
set_option maxRecDepth 100000 in
theorem c_X5_fixedIn (l : Launch) (D : va_G) (y : Nat → ClassId) (A : Nat → Nat) (F : (Nat → Int32)) (R : (Nat → Nat → Int32)) (a1 : Int32) (r : Int32) (hm : m5_fixedIn F R a1 = some r) : Met l yX5_fixedIn (wy_s yX5_fixedIn cX5_fixedIn 4 (some .int)) rm_X5_fixedIn (pc_R D y [.ref (A 0), .int a1] (fun H => va_P D vwCl (w5_s y A F R) H)) (qc_R r) 0 0 (fun _ => False) := by
  refine met_R (by decide) (Nat.le_of_ble_eq_true rfl) ?_
  intro p e s m args below meth c X h0 ls hl
  have hP5 := h0
  replace hl : lv_has ls 4 [(0, .ref (A 0)), (1, .int a1)] := hl
  replace X : cx p s m args meth c cX5_fixedIn 4 (some .int) RX5 D y := X
  unfold m5_fixedIn at hm
  refine lv_iconst (v := (0 : Int32)) (cx_x X) (cx_b X) dX5_fixedIn_0 (by decide) ?_
  refine lv_istore_n (lv' := [(2, .int (0 : Int32)), (0, .ref (A 0)), (1, .int a1)]) (cx_x X) (cx_b X) dX5_fixedIn_1 rfl hl (by decide) rfl (fun ls hl => ?_)
  refine lv_iconst (v := (0 : Int32)) (cx_x X) (cx_b X) dX5_fixedIn_2 (by decide) ?_
  refine lv_istore_n (lv' := [(3, .int (0 : Int32)), (2, .int (0 : Int32)), (0, .ref (A 0)), (1, .int a1)]) (cx_x X) (cx_b X) dX5_fixedIn_3 rfl hl (by decide) rfl (fun ls hl => ?_)
  obtain ⟨qt1, hm, hmt1⟩ := bnd hm
  have Xt1 : ∀ (v4 : Int32) , m5_fixedIn_X48 v4 = some r → ∀ ls, lv_has ls 4 [(2, .int v4)] → gr p l e rm_X5_fixedIn s m args below meth c r (F0 m 48 ls []) := by
    intro v4 hm ls hl
    unfold m5_fixedIn_X48 at hm
    refine lv_iload_n (cx_x X) (cx_b X) dX5_fixedIn_48 rfl (lv_at hl 0 rfl) ?_
    exact gr_i X hm dX5_fixedIn_49
  have Lt1 : ∀ (n : Nat) (v2 : Int32) (v3 : Int32) , wh (m5_fixedIn_L4 R a1) n (v2, v3) = some qt1 → ∀ ls, lv_has ls 4 [(0, .ref (A 0)), (1, .int a1), (2, .int v2), (3, .int v3)] → gr p l e rm_X5_fixedIn s m args below meth c r (F0 m 4 ls []) := by
    intro n
    induction n with
    | zero => intro v2 v3 hm; cases hm
    | succ n ih =>
      intro v2 v3 hm ls hl
      replace hm : (m5_fixedIn_L4 R a1) (wh (m5_fixedIn_L4 R a1) n) (v2, v3) = some qt1 := hm
      dsimp only [m5_fixedIn_L4] at hm
      refine lv_iload_n (cx_x X) (cx_b X) dX5_fixedIn_4 rfl (lv_at hl 3 rfl) ?_
      refine lv_bipush (v := (60 : Int32)) (cx_x X) (cx_b X) dX5_fixedIn_5 (by decide) ?_
      refine lv_icmp_ge (tgt := 48) (cx_x X) (cx_b X) dX5_fixedIn_7 (by decide) (fun c5 => ?_) (fun c5 => ?_)
      · replace hm := if_T c5 hm
        exact Xt1 _ (by cases hm; exact hmt1) _ (lv_sub hl [2] rfl)
      · replace hm := if_F c5 hm
        refine lv_iload_n (cx_x X) (cx_b X) dX5_fixedIn_10 rfl (lv_at hl 2 rfl) ?_
        refine lv_aload_n (cx_x X) (cx_b X) dX5_fixedIn_11 rfl (lv_at hl 0 rfl) ?_
        refine gf_X5_7 X hP5 dX5_fixedIn_12 ?_
        refine lv_bipush (v := (14 : Int32)) (cx_x X) (cx_b X) dX5_fixedIn_15 (by decide) ?_
        refine lv_iload_n (cx_x X) (cx_b X) dX5_fixedIn_17 rfl (lv_at hl 3 rfl) ?_
        refine lv_iadd (cx_x X) (cx_b X) dX5_fixedIn_18 ?_
        obtain ⟨h6, hm⟩ := ck_E hm
        refine ld_5_0 X hP5 h6 dX5_fixedIn_19 ?_
        refine lv_iload_n (cx_x X) (cx_b X) dX5_fixedIn_20 rfl (lv_at hl 1 rfl) ?_
        refine lv_iconst (v := (1 : Int32)) (cx_x X) (cx_b X) dX5_fixedIn_21 (by decide) ?_
        refine lv_iadd (cx_x X) (cx_b X) dX5_fixedIn_22 ?_
        obtain ⟨qt8, hm, hmt8⟩ := bnd hm
        have Jt8 : ∀ (v7 : Int32) , m5_fixedIn_J40 (wh (m5_fixedIn_L4 R a1) n) v2 v3 v7 = some qt1 → ∀ ls, lv_has ls 4 [(0, .ref (A 0)), (1, .int a1), (3, .int v3)] → gr p l e rm_X5_fixedIn s m args below meth c r (F0 m 40 ls [.int v7, .int v2]) := by
          intro v7 hm ls hl
          unfold m5_fixedIn_J40 at hm
          refine lv_iadd (cx_x X) (cx_b X) dX5_fixedIn_40 ?_
          refine lv_istore_n (lv' := [(2, .int (v2 + v7)), (0, .ref (A 0)), (1, .int a1), (3, .int v3)]) (cx_x X) (cx_b X) dX5_fixedIn_41 rfl hl (by decide) rfl (fun ls hl => ?_)
          refine lv_iinc (v := (v3 + (1 : Int32))) (lv' := [(3, .int (v3 + (1 : Int32))), (2, .int (v2 + v7)), (0, .ref (A 0)), (1, .int a1)]) (cx_x X) (cx_b X) dX5_fixedIn_42 hl (k := 3) rfl (by rfl) (by decide) rfl (fun ls hl => ?_)
          refine lv_goto (tgt := 4) (cx_x X) (cx_b X) dX5_fixedIn_45 (by decide) ?_
          exact ih _ _ hm _ (lv_sub hl [2, 3, 1, 0] rfl)
        refine lv_icmp_ne (tgt := 39) (cx_x X) (cx_b X) dX5_fixedIn_23 (by decide) (fun c9 => ?_) (fun c9 => ?_)
        · replace hm := if_F c9 hm
          refine lv_iconst (v := (0 : Int32)) (cx_x X) (cx_b X) dX5_fixedIn_39 (by decide) ?_
          exact Jt8 _ (by cases hm; exact hmt8) _ (lv_sub hl [0, 1, 3] rfl)
        · replace hm := if_T c9 hm
          refine lv_aload_n (cx_x X) (cx_b X) dX5_fixedIn_26 rfl (lv_at hl 0 rfl) ?_
          refine gf_X5_7 X hP5 dX5_fixedIn_27 ?_
          refine lv_sipush (v := (134 : Int32)) (cx_x X) (cx_b X) dX5_fixedIn_30 (by decide) ?_
          refine lv_iload_n (cx_x X) (cx_b X) dX5_fixedIn_33 rfl (lv_at hl 3 rfl) ?_
          refine lv_iadd (cx_x X) (cx_b X) dX5_fixedIn_34 ?_
          obtain ⟨h10, hm⟩ := ck_E hm
          refine ld_5_0 X hP5 h10 dX5_fixedIn_35 ?_
          refine lv_goto (tgt := 40) (cx_x X) (cx_b X) dX5_fixedIn_36 (by decide) ?_
          exact Jt8 _ (by cases hm; exact hmt8) _ (lv_sub hl [0, 1, 3] rfl)
  exact Lt1 _ _ _ hm _ (lv_sub hl [2, 3, 1, 0] rfl)
/-! X5_channelNow -/
def m5_channelNow_J28  (v2 : Int32) : Option Int32 :=
  some v2
def m5_channelNow (F : (Nat → Int32)) (R : (Nat → Nat → Int32)) (a1 : Int32) : Option Int32 :=
  if inb ((74 : Int32) + a1) 194 then
  (if (R 0 ((74 : Int32) + a1).toNatClampNeg) = 0 then
  some (-9 : Int32)
  else
  if inb ((74 : Int32) + a1) 194 then
  some ((R 0 ((74 : Int32) + a1).toNatClampNeg) - (1 : Int32)) else none).bind fun v2 => m5_channelNow_J28 v2 else none
abbrev rm_X5_channelNow : Room := { frames := 0, cells := 0, slots := 0, locals := 0 }
set_option maxHeartbeats 4000000 in
set_option maxRecDepth 100000 in
theorem c_X5_channelNow (l : Launch) (D : va_G) (y : Nat → ClassId) (A : Nat → Nat) (F : (Nat → Int32)) (R : (Nat → Nat → Int32)) (a1 : Int32) (r : Int32) (hm : m5_channelNow F R a1 = some r) : Met l yX5_channelNow (wy_s yX5_channelNow cX5_channelNow 2 (some .int)) rm_X5_channelNow (pc_R D y [.ref (A 0), .int a1] (fun H => va_P D vwCl (w5_s y A F R) H)) (qc_R r) 0 0 (fun _ => False) := by
  refine met_R (by decide) (Nat.le_of_ble_eq_true rfl) ?_
  intro p e s m args below meth c X h0 ls hl
  have hP5 := h0
  replace hl : lv_has ls 2 [(0, .ref (A 0)), (1, .int a1)] := hl
  replace X : cx p s m args meth c cX5_channelNow 2 (some .int) RX5 D y := X
  unfold m5_channelNow at hm
  refine lv_aload_n (cx_x X) (cx_b X) dX5_channelNow_0 rfl (lv_at hl 0 rfl) ?_
  refine gf_X5_7 X hP5 dX5_channelNow_1 ?_
  refine lv_bipush (v := (74 : Int32)) (cx_x X) (cx_b X) dX5_channelNow_4 (by decide) ?_
  refine lv_iload_n (cx_x X) (cx_b X) dX5_channelNow_6 rfl (lv_at hl 1 rfl) ?_
  refine lv_iadd (cx_x X) (cx_b X) dX5_channelNow_7 ?_
  obtain ⟨h1, hm⟩ := ck_E hm
  refine ld_5_0 X hP5 h1 dX5_channelNow_8 ?_
  obtain ⟨qt3, hm, hmt3⟩ := bnd hm
  have Jt3 : ∀ (v2 : Int32) , m5_channelNow_J28 v2 = some r → ∀ ls, lv_has ls 2 [] → gr p l e rm_X5_channelNow s m args below meth c r (F0 m 28 ls [.int v2]) := by
    intro v2 hm ls hl
    unfold m5_channelNow_J28 at hm
    exact gr_i X hm dX5_channelNow_28
  refine lv_if_ne (tgt := 17) (cx_x X) (cx_b X) dX5_channelNow_9 (by decide) (fun c4 => ?_) (fun c4 => ?_)
  · replace hm := if_F c4 hm
    refine lv_aload_n (cx_x X) (cx_b X) dX5_channelNow_17 rfl (lv_at hl 0 rfl) ?_
    refine gf_X5_7 X hP5 dX5_channelNow_18 ?_
    refine lv_bipush (v := (74 : Int32)) (cx_x X) (cx_b X) dX5_channelNow_21 (by decide) ?_
    refine lv_iload_n (cx_x X) (cx_b X) dX5_channelNow_23 rfl (lv_at hl 1 rfl) ?_
    refine lv_iadd (cx_x X) (cx_b X) dX5_channelNow_24 ?_
    obtain ⟨h5, hm⟩ := ck_E hm
    refine ld_5_0 X hP5 h5 dX5_channelNow_25 ?_
    refine lv_iconst (v := (1 : Int32)) (cx_x X) (cx_b X) dX5_channelNow_26 (by decide) ?_
    refine lv_isub (cx_x X) (cx_b X) dX5_channelNow_27 ?_
    exact Jt3 _ (by cases hm; exact hmt3) _ (lv_sub hl [] rfl)
  · replace hm := if_T c4 hm
    refine lv_bipush (v := (-9 : Int32)) (cx_x X) (cx_b X) dX5_channelNow_12 (by decide) ?_
    refine lv_goto (tgt := 28) (cx_x X) (cx_b X) dX5_channelNow_14 (by decide) ?_
    exact Jt3 _ (by cases hm; exact hmt3) _ (lv_sub hl [] rfl)
/-! X5_isError -/
def m5_isError_J73  (v4 : Int32) : Option Int32 :=
  if v4 &&& 1 = v4 then some v4 else none
def m5_isError_J26  (v17 : Int32) : Option Int32 :=
  if v17 &&& 1 = v17 then some v17 else none
def m5_isError (F : (Nat → Int32)) (R : (Nat → Nat → Int32)) (a1 : Int32) (a2 : Int32) (a3 : Int32) : Option Int32 :=
  if a1 = 0 then
  (m5_isCell F R a2).bind fun v16 =>
  (if v16 = 0 then
  some (1 : Int32)
  else
  (m5_calls F R).bind fun v21 =>
  if v21 = (60 : Int32) then
  some (1 : Int32)
  else
  some (0 : Int32)).bind fun v17 => m5_isError_J26 v17
  else
  (m5_isCall F R a2).bind fun v3 =>
  (if v3 = 0 then
  some (1 : Int32)
  else
  if a1 = (2 : Int32) then
  (m5_isCell F R a3).bind fun v9 =>
  if v9 = 0 then
  some (1 : Int32)
  else
  if inb ((14 : Int32) + a2) 194 then
  (m5_far F R a3 ((R 0 ((14 : Int32) + a2).toNatClampNeg) - (1 : Int32))).bind fun v13 =>
  if v13 = (1 : Int32) then
  some (0 : Int32)
  else
  some (1 : Int32) else none
  else
  some (0 : Int32)).bind fun v4 => m5_isError_J73 v4
abbrev rm_X5_isError : Room := { frames := 2, cells := 0, slots := 0, locals := 45 }
set_option maxHeartbeats 4000000 in
set_option maxRecDepth 100000 in
theorem c_X5_isError (l : Launch) (D : va_G) (y : Nat → ClassId) (A : Nat → Nat) (F : (Nat → Int32)) (R : (Nat → Nat → Int32)) (a1 : Int32) (a2 : Int32) (a3 : Int32) (r : Int32) (hm : m5_isError F R a1 a2 a3 = some r) : Met l yX5_isError (wy_s yX5_isError cX5_isError 4 (some .boolean)) rm_X5_isError (pc_R D y [.ref (A 0), .int a1, .int a2, .int a3] (fun H => va_P D vwCl (w5_s y A F R) H)) (qc_R r) 0 0 (fun _ => False) := by
  refine met_R (by decide) (Nat.le_of_ble_eq_true rfl) ?_
  intro p e s m args below meth c X h0 ls hl
  have hP5 := h0
  replace hl : lv_has ls 4 [(0, .ref (A 0)), (1, .int a1), (2, .int a2), (3, .int a3)] := hl
  replace X : cx p s m args meth c cX5_isError 4 (some .boolean) RX5 D y := X
  unfold m5_isError at hm
  refine lv_iload_n (cx_x X) (cx_b X) dX5_isError_0 rfl (lv_at hl 1 rfl) ?_
  refine lv_if_ne (tgt := 27) (cx_x X) (cx_b X) dX5_isError_1 (by decide) (fun c1 => ?_) (fun c1 => ?_)
  · replace hm := if_F c1 hm
    refine lv_aload_n (cx_x X) (cx_b X) dX5_isError_27 rfl (lv_at hl 0 rfl) ?_
    refine lv_iload_n (cx_x X) (cx_b X) dX5_isError_28 rfl (lv_at hl 2 rfl) ?_
    obtain ⟨v3, h2, hm⟩ := bnd hm
    refine af_R (rn_V (As := [.int a2]) (rest := []) X (c_X5_isCall l D y A F R a2  _ h2) vq_X5_122 ⟨rfl, rfl⟩ ⟨Nat.le_of_ble_eq_true rfl, Nat.le_of_ble_eq_true rfl⟩ (rec_5 X hP5) hP5 rfl hl.1 rfl (Nat.le_of_ble_eq_true rfl) dX5_isError_29 ⟨Nat.le_refl _, Nat.le_refl _⟩) ?_
    obtain ⟨qt5, hm, hmt5⟩ := bnd hm
    have Jt5 : ∀ (v4 : Int32) , m5_isError_J73 v4 = some r → ∀ ls, lv_has ls 4 [] → gr p l e rm_X5_isError s m args below meth c r (F0 m 73 ls [.int v4]) := by
      intro v4 hm ls hl
      unfold m5_isError_J73 at hm
      obtain ⟨h0, hm⟩ := ck_E hm
      exact gr_z X h0 hm dX5_isError_73
    refine lv_if_eq (tgt := 68) (cx_x X) (cx_b X) dX5_isError_32 (by decide) (fun c6 => ?_) (fun c6 => ?_)
    · replace hm := if_T c6 hm
      refine lv_iconst (v := (1 : Int32)) (cx_x X) (cx_b X) dX5_isError_68 (by decide) ?_
      refine lv_goto (tgt := 73) (cx_x X) (cx_b X) dX5_isError_69 (by decide) ?_
      exact Jt5 _ (by cases hm; exact hmt5) _ (lv_sub hl [] rfl)
    · replace hm := if_F c6 hm
      refine lv_iload_n (cx_x X) (cx_b X) dX5_isError_35 rfl (lv_at hl 1 rfl) ?_
      refine lv_iconst (v := (2 : Int32)) (cx_x X) (cx_b X) dX5_isError_36 (by decide) ?_
      refine lv_icmp_ne (tgt := 72) (cx_x X) (cx_b X) dX5_isError_37 (by decide) (fun c7 => ?_) (fun c7 => ?_)
      · replace hm := if_F c7 hm
        refine lv_iconst (v := (0 : Int32)) (cx_x X) (cx_b X) dX5_isError_72 (by decide) ?_
        exact Jt5 _ (by cases hm; exact hmt5) _ (lv_sub hl [] rfl)
      · replace hm := if_T c7 hm
        refine lv_aload_n (cx_x X) (cx_b X) dX5_isError_40 rfl (lv_at hl 0 rfl) ?_
        refine lv_iload_n (cx_x X) (cx_b X) dX5_isError_41 rfl (lv_at hl 3 rfl) ?_
        obtain ⟨v9, h8, hm⟩ := bnd hm
        refine af_R (rn_V (As := [.int a3]) (rest := []) X (c_X5_isCell l D y A F R a3  _ h8) vq_X5_119 ⟨rfl, rfl⟩ ⟨Nat.le_of_ble_eq_true rfl, Nat.le_of_ble_eq_true rfl⟩ (rec_5 X hP5) hP5 rfl hl.1 rfl (Nat.le_of_ble_eq_true rfl) dX5_isError_42 ⟨Nat.le_refl _, Nat.le_refl _⟩) ?_
        refine lv_if_eq (tgt := 68) (cx_x X) (cx_b X) dX5_isError_45 (by decide) (fun c10 => ?_) (fun c10 => ?_)
        · replace hm := if_T c10 hm
          refine lv_iconst (v := (1 : Int32)) (cx_x X) (cx_b X) dX5_isError_68 (by decide) ?_
          refine lv_goto (tgt := 73) (cx_x X) (cx_b X) dX5_isError_69 (by decide) ?_
          exact Jt5 _ (by cases hm; exact hmt5) _ (lv_sub hl [] rfl)
        · replace hm := if_F c10 hm
          refine lv_aload_n (cx_x X) (cx_b X) dX5_isError_48 rfl (lv_at hl 0 rfl) ?_
          refine lv_iload_n (cx_x X) (cx_b X) dX5_isError_49 rfl (lv_at hl 3 rfl) ?_
          refine lv_aload_n (cx_x X) (cx_b X) dX5_isError_50 rfl (lv_at hl 0 rfl) ?_
          refine gf_X5_7 X hP5 dX5_isError_51 ?_
          refine lv_bipush (v := (14 : Int32)) (cx_x X) (cx_b X) dX5_isError_54 (by decide) ?_
          refine lv_iload_n (cx_x X) (cx_b X) dX5_isError_56 rfl (lv_at hl 2 rfl) ?_
          refine lv_iadd (cx_x X) (cx_b X) dX5_isError_57 ?_
          obtain ⟨h11, hm⟩ := ck_E hm
          refine ld_5_0 X hP5 h11 dX5_isError_58 ?_
          refine lv_iconst (v := (1 : Int32)) (cx_x X) (cx_b X) dX5_isError_59 (by decide) ?_
          refine lv_isub (cx_x X) (cx_b X) dX5_isError_60 ?_
          obtain ⟨v13, h12, hm⟩ := bnd hm
          refine af_R (rn_V (As := [.int a3, .int ((R 0 ((14 : Int32) + a2).toNatClampNeg) - (1 : Int32))]) (rest := []) X (c_X5_far l D y A F R a3 ((R 0 ((14 : Int32) + a2).toNatClampNeg) - (1 : Int32))  _ h12) vq_X5_58 ⟨rfl, rfl⟩ ⟨Nat.le_of_ble_eq_true rfl, Nat.le_of_ble_eq_true rfl⟩ (rec_5 X hP5) hP5 rfl hl.1 rfl (Nat.le_of_ble_eq_true rfl) dX5_isError_61 ⟨Nat.le_refl _, Nat.le_refl _⟩) ?_
          refine lv_iconst (v := (1 : Int32)) (cx_x X) (cx_b X) dX5_isError_64 (by decide) ?_
          refine lv_icmp_eq (tgt := 72) (cx_x X) (cx_b X) dX5_isError_65 (by decide) (fun c14 => ?_) (fun c14 => ?_)
          · replace hm := if_T c14 hm
            refine lv_iconst (v := (0 : Int32)) (cx_x X) (cx_b X) dX5_isError_72 (by decide) ?_
            exact Jt5 _ (by cases hm; exact hmt5) _ (lv_sub hl [] rfl)
          · replace hm := if_F c14 hm
            refine lv_iconst (v := (1 : Int32)) (cx_x X) (cx_b X) dX5_isError_68 (by decide) ?_
            refine lv_goto (tgt := 73) (cx_x X) (cx_b X) dX5_isError_69 (by decide) ?_
            exact Jt5 _ (by cases hm; exact hmt5) _ (lv_sub hl [] rfl)
  · replace hm := if_T c1 hm
    refine lv_aload_n (cx_x X) (cx_b X) dX5_isError_4 rfl (lv_at hl 0 rfl) ?_
    refine lv_iload_n (cx_x X) (cx_b X) dX5_isError_5 rfl (lv_at hl 2 rfl) ?_
    obtain ⟨v16, h15, hm⟩ := bnd hm
    refine af_R (rn_V (As := [.int a2]) (rest := []) X (c_X5_isCell l D y A F R a2  _ h15) vq_X5_119 ⟨rfl, rfl⟩ ⟨Nat.le_of_ble_eq_true rfl, Nat.le_of_ble_eq_true rfl⟩ (rec_5 X hP5) hP5 rfl hl.1 rfl (Nat.le_of_ble_eq_true rfl) dX5_isError_6 ⟨Nat.le_refl _, Nat.le_refl _⟩) ?_
    obtain ⟨qt18, hm, hmt18⟩ := bnd hm
    have Jt18 : ∀ (v17 : Int32) , m5_isError_J26 v17 = some r → ∀ ls, lv_has ls 4 [] → gr p l e rm_X5_isError s m args below meth c r (F0 m 26 ls [.int v17]) := by
      intro v17 hm ls hl
      unfold m5_isError_J26 at hm
      obtain ⟨h0, hm⟩ := ck_E hm
      exact gr_z X h0 hm dX5_isError_26
    refine lv_if_eq (tgt := 21) (cx_x X) (cx_b X) dX5_isError_9 (by decide) (fun c19 => ?_) (fun c19 => ?_)
    · replace hm := if_T c19 hm
      refine lv_iconst (v := (1 : Int32)) (cx_x X) (cx_b X) dX5_isError_21 (by decide) ?_
      refine lv_goto (tgt := 26) (cx_x X) (cx_b X) dX5_isError_22 (by decide) ?_
      exact Jt18 _ (by cases hm; exact hmt18) _ (lv_sub hl [] rfl)
    · replace hm := if_F c19 hm
      refine lv_aload_n (cx_x X) (cx_b X) dX5_isError_12 rfl (lv_at hl 0 rfl) ?_
      obtain ⟨v21, h20, hm⟩ := bnd hm
      refine af_R (rn_V (As := []) (rest := []) X (c_X5_calls l D y A F R  _ h20) vq_X5_38 ⟨rfl, rfl⟩ ⟨Nat.le_of_ble_eq_true rfl, Nat.le_of_ble_eq_true rfl⟩ (rec_5 X hP5) hP5 rfl hl.1 rfl (Nat.le_of_ble_eq_true rfl) dX5_isError_13 ⟨Nat.le_refl _, Nat.le_refl _⟩) ?_
      refine lv_bipush (v := (60 : Int32)) (cx_x X) (cx_b X) dX5_isError_16 (by decide) ?_
      refine lv_icmp_ne (tgt := 25) (cx_x X) (cx_b X) dX5_isError_18 (by decide) (fun c22 => ?_) (fun c22 => ?_)
      · replace hm := if_F c22 hm
        refine lv_iconst (v := (0 : Int32)) (cx_x X) (cx_b X) dX5_isError_25 (by decide) ?_
        exact Jt18 _ (by cases hm; exact hmt18) _ (lv_sub hl [] rfl)
      · replace hm := if_T c22 hm
        refine lv_iconst (v := (1 : Int32)) (cx_x X) (cx_b X) dX5_isError_21 (by decide) ?_
        refine lv_goto (tgt := 26) (cx_x X) (cx_b X) dX5_isError_22 (by decide) ?_
        exact Jt18 _ (by cases hm; exact hmt18) _ (lv_sub hl [] rfl)
/-! X5_errorOf -/
def m5_errorOf_J35  (v1 : Int32) : Option Int32 :=
  some v1
def m5_errorOf (F : (Nat → Int32)) (R : (Nat → Nat → Int32)) (a1 : Int32) (a2 : Int32) (a3 : Int32) : Option Int32 :=
  (if a1 = 0 then
  (m5_isCell F R a2).bind fun v8 =>
  if v8 = 0 then
  some (-1 : Int32)
  else
  some (-3 : Int32)
  else
  (m5_isCall F R a2).bind fun v5 =>
  if v5 = 0 then
  some (-4 : Int32)
  else
  some (-1 : Int32)).bind fun v1 => m5_errorOf_J35 v1
abbrev rm_X5_errorOf : Room := { frames := 2, cells := 0, slots := 0, locals := 43 }
set_option maxHeartbeats 4000000 in
set_option maxRecDepth 100000 in
theorem c_X5_errorOf (l : Launch) (D : va_G) (y : Nat → ClassId) (A : Nat → Nat) (F : (Nat → Int32)) (R : (Nat → Nat → Int32)) (a1 : Int32) (a2 : Int32) (a3 : Int32) (r : Int32) (hm : m5_errorOf F R a1 a2 a3 = some r) : Met l yX5_errorOf (wy_s yX5_errorOf cX5_errorOf 4 (some .int)) rm_X5_errorOf (pc_R D y [.ref (A 0), .int a1, .int a2, .int a3] (fun H => va_P D vwCl (w5_s y A F R) H)) (qc_R r) 0 0 (fun _ => False) := by
  refine met_R (by decide) (Nat.le_of_ble_eq_true rfl) ?_
  intro p e s m args below meth c X h0 ls hl
  have hP5 := h0
  replace hl : lv_has ls 4 [(0, .ref (A 0)), (1, .int a1), (2, .int a2), (3, .int a3)] := hl
  replace X : cx p s m args meth c cX5_errorOf 4 (some .int) RX5 D y := X
  unfold m5_errorOf at hm
  refine lv_iload_n (cx_x X) (cx_b X) dX5_errorOf_0 rfl (lv_at hl 1 rfl) ?_
  obtain ⟨qt2, hm, hmt2⟩ := bnd hm
  have Jt2 : ∀ (v1 : Int32) , m5_errorOf_J35 v1 = some r → ∀ ls, lv_has ls 4 [] → gr p l e rm_X5_errorOf s m args below meth c r (F0 m 35 ls [.int v1]) := by
    intro v1 hm ls hl
    unfold m5_errorOf_J35 at hm
    exact gr_i X hm dX5_errorOf_35
  refine lv_if_ne (tgt := 21) (cx_x X) (cx_b X) dX5_errorOf_1 (by decide) (fun c3 => ?_) (fun c3 => ?_)
  · replace hm := if_F c3 hm
    refine lv_aload_n (cx_x X) (cx_b X) dX5_errorOf_21 rfl (lv_at hl 0 rfl) ?_
    refine lv_iload_n (cx_x X) (cx_b X) dX5_errorOf_22 rfl (lv_at hl 2 rfl) ?_
    obtain ⟨v5, h4, hm⟩ := bnd hm
    refine af_R (rn_V (As := [.int a2]) (rest := []) X (c_X5_isCall l D y A F R a2  _ h4) vq_X5_122 ⟨rfl, rfl⟩ ⟨Nat.le_of_ble_eq_true rfl, Nat.le_of_ble_eq_true rfl⟩ (rec_5 X hP5) hP5 rfl hl.1 rfl (Nat.le_of_ble_eq_true rfl) dX5_errorOf_23 ⟨Nat.le_refl _, Nat.le_refl _⟩) ?_
    refine lv_if_ne (tgt := 34) (cx_x X) (cx_b X) dX5_errorOf_26 (by decide) (fun c6 => ?_) (fun c6 => ?_)
    · replace hm := if_F c6 hm
      refine lv_iconst (v := (-1 : Int32)) (cx_x X) (cx_b X) dX5_errorOf_34 (by decide) ?_
      exact Jt2 _ (by cases hm; exact hmt2) _ (lv_sub hl [] rfl)
    · replace hm := if_T c6 hm
      refine lv_bipush (v := (-4 : Int32)) (cx_x X) (cx_b X) dX5_errorOf_29 (by decide) ?_
      refine lv_goto (tgt := 35) (cx_x X) (cx_b X) dX5_errorOf_31 (by decide) ?_
      exact Jt2 _ (by cases hm; exact hmt2) _ (lv_sub hl [] rfl)
  · replace hm := if_T c3 hm
    refine lv_aload_n (cx_x X) (cx_b X) dX5_errorOf_4 rfl (lv_at hl 0 rfl) ?_
    refine lv_iload_n (cx_x X) (cx_b X) dX5_errorOf_5 rfl (lv_at hl 2 rfl) ?_
    obtain ⟨v8, h7, hm⟩ := bnd hm
    refine af_R (rn_V (As := [.int a2]) (rest := []) X (c_X5_isCell l D y A F R a2  _ h7) vq_X5_119 ⟨rfl, rfl⟩ ⟨Nat.le_of_ble_eq_true rfl, Nat.le_of_ble_eq_true rfl⟩ (rec_5 X hP5) hP5 rfl hl.1 rfl (Nat.le_of_ble_eq_true rfl) dX5_errorOf_6 ⟨Nat.le_refl _, Nat.le_refl _⟩) ?_
    refine lv_if_ne (tgt := 16) (cx_x X) (cx_b X) dX5_errorOf_9 (by decide) (fun c9 => ?_) (fun c9 => ?_)
    · replace hm := if_F c9 hm
      refine lv_bipush (v := (-3 : Int32)) (cx_x X) (cx_b X) dX5_errorOf_16 (by decide) ?_
      refine lv_goto (tgt := 35) (cx_x X) (cx_b X) dX5_errorOf_18 (by decide) ?_
      exact Jt2 _ (by cases hm; exact hmt2) _ (lv_sub hl [] rfl)
    · replace hm := if_T c9 hm
      refine lv_iconst (v := (-1 : Int32)) (cx_x X) (cx_b X) dX5_errorOf_12 (by decide) ?_
      refine lv_goto (tgt := 35) (cx_x X) (cx_b X) dX5_errorOf_13 (by decide) ?_
      exact Jt2 _ (by cases hm; exact hmt2) _ (lv_sub hl [] rfl)
/-! X5_cellCount -/
def m5_cellCount (F : (Nat → Int32)) (R : (Nat → Nat → Int32)) : Option Int32 :=
  (m5_cells F R).bind fun v2 =>
  some v2
abbrev rm_X5_cellCount : Room := { frames := 1, cells := 0, slots := 0, locals := 20 }
set_option maxHeartbeats 4000000 in
set_option maxRecDepth 100000 in
theorem c_X5_cellCount (l : Launch) (D : va_G) (y : Nat → ClassId) (A : Nat → Nat) (F : (Nat → Int32)) (R : (Nat → Nat → Int32)) (r : Int32) (hm : m5_cellCount F R = some r) : Met l yX5_cellCount (wy_s yX5_cellCount cX5_cellCount 1 (some .int)) rm_X5_cellCount (pc_R D y [.ref (A 0)] (fun H => va_P D vwCl (w5_s y A F R) H)) (qc_R r) 0 0 (fun _ => False) := by
  refine met_R (by decide) (Nat.le_of_ble_eq_true rfl) ?_
  intro p e s m args below meth c X h0 ls hl
  have hP5 := h0
  replace hl : lv_has ls 1 [(0, .ref (A 0))] := hl
  replace X : cx p s m args meth c cX5_cellCount 1 (some .int) RX5 D y := X
  unfold m5_cellCount at hm
  refine lv_aload_n (cx_x X) (cx_b X) dX5_cellCount_0 rfl (lv_at hl 0 rfl) ?_
  obtain ⟨v2, h1, hm⟩ := bnd hm
  refine af_R (rn_V (As := []) (rest := []) X (c_X5_cells l D y A F R  _ h1) vq_X5_42 ⟨rfl, rfl⟩ ⟨Nat.le_of_ble_eq_true rfl, Nat.le_of_ble_eq_true rfl⟩ (rec_5 X hP5) hP5 rfl hl.1 rfl (Nat.le_of_ble_eq_true rfl) dX5_cellCount_1 ⟨Nat.le_refl _, Nat.le_refl _⟩) ?_
  exact gr_i X hm dX5_cellCount_4
/-! X5_channelCount -/
def m5_channelCount (F : (Nat → Int32)) (R : (Nat → Nat → Int32)) : Option Int32 :=
  (m5_channels F R).bind fun v2 =>
  some v2
abbrev rm_X5_channelCount : Room := { frames := 2, cells := 0, slots := 0, locals := 40 }
set_option maxHeartbeats 4000000 in
set_option maxRecDepth 100000 in
theorem c_X5_channelCount (l : Launch) (D : va_G) (y : Nat → ClassId) (A : Nat → Nat) (F : (Nat → Int32)) (R : (Nat → Nat → Int32)) (r : Int32) (hm : m5_channelCount F R = some r) : Met l yX5_channelCount (wy_s yX5_channelCount cX5_channelCount 1 (some .int)) rm_X5_channelCount (pc_R D y [.ref (A 0)] (fun H => va_P D vwCl (w5_s y A F R) H)) (qc_R r) 0 0 (fun _ => False) := by
  refine met_R (by decide) (Nat.le_of_ble_eq_true rfl) ?_
  intro p e s m args below meth c X h0 ls hl
  have hP5 := h0
  replace hl : lv_has ls 1 [(0, .ref (A 0))] := hl
  replace X : cx p s m args meth c cX5_channelCount 1 (some .int) RX5 D y := X
  unfold m5_channelCount at hm
  refine lv_aload_n (cx_x X) (cx_b X) dX5_channelCount_0 rfl (lv_at hl 0 rfl) ?_
  obtain ⟨v2, h1, hm⟩ := bnd hm
  refine af_R (rn_V (As := []) (rest := []) X (c_X5_channels l D y A F R  _ h1) vq_X5_48 ⟨rfl, rfl⟩ ⟨Nat.le_of_ble_eq_true rfl, Nat.le_of_ble_eq_true rfl⟩ (rec_5 X hP5) hP5 rfl hl.1 rfl (Nat.le_of_ble_eq_true rfl) dX5_channelCount_1 ⟨Nat.le_refl _, Nat.le_refl _⟩) ?_
  exact gr_i X hm dX5_channelCount_4
/-! X5_groupOf -/
def m5_groupOf_J17  (v3 : Int32) : Option Int32 :=
  some v3
def m5_groupOf (F : (Nat → Int32)) (R : (Nat → Nat → Int32)) (a1 : Int32) : Option Int32 :=
  (m5_isCell F R a1).bind fun v2 =>
  (if v2 = 0 then
  some (-1 : Int32)
  else
  (m5_group F R a1).bind fun v7 =>
  some v7).bind fun v3 => m5_groupOf_J17 v3
abbrev rm_X5_groupOf : Room := { frames := 2, cells := 0, slots := 0, locals := 43 }
set_option maxHeartbeats 4000000 in
set_option maxRecDepth 100000 in
theorem c_X5_groupOf (l : Launch) (D : va_G) (y : Nat → ClassId) (A : Nat → Nat) (F : (Nat → Int32)) (R : (Nat → Nat → Int32)) (a1 : Int32) (r : Int32) (hm : m5_groupOf F R a1 = some r) : Met l yX5_groupOf (wy_s yX5_groupOf cX5_groupOf 2 (some .int)) rm_X5_groupOf (pc_R D y [.ref (A 0), .int a1] (fun H => va_P D vwCl (w5_s y A F R) H)) (qc_R r) 0 0 (fun _ => False) := by
  refine met_R (by decide) (Nat.le_of_ble_eq_true rfl) ?_
  intro p e s m args below meth c X h0 ls hl
  have hP5 := h0
  replace hl : lv_has ls 2 [(0, .ref (A 0)), (1, .int a1)] := hl
  replace X : cx p s m args meth c cX5_groupOf 2 (some .int) RX5 D y := X
  unfold m5_groupOf at hm
  refine lv_aload_n (cx_x X) (cx_b X) dX5_groupOf_0 rfl (lv_at hl 0 rfl) ?_
  refine lv_iload_n (cx_x X) (cx_b X) dX5_groupOf_1 rfl (lv_at hl 1 rfl) ?_
  obtain ⟨v2, h1, hm⟩ := bnd hm
  refine af_R (rn_V (As := [.int a1]) (rest := []) X (c_X5_isCell l D y A F R a1  _ h1) vq_X5_119 ⟨rfl, rfl⟩ ⟨Nat.le_of_ble_eq_true rfl, Nat.le_of_ble_eq_true rfl⟩ (rec_5 X hP5) hP5 rfl hl.1 rfl (Nat.le_of_ble_eq_true rfl) dX5_groupOf_2 ⟨Nat.le_refl _, Nat.le_refl _⟩) ?_
  obtain ⟨qt4, hm, hmt4⟩ := bnd hm
  have Jt4 : ∀ (v3 : Int32) , m5_groupOf_J17 v3 = some r → ∀ ls, lv_has ls 2 [] → gr p l e rm_X5_groupOf s m args below meth c r (F0 m 17 ls [.int v3]) := by
    intro v3 hm ls hl
    unfold m5_groupOf_J17 at hm
    exact gr_i X hm dX5_groupOf_17
  refine lv_if_eq (tgt := 16) (cx_x X) (cx_b X) dX5_groupOf_5 (by decide) (fun c5 => ?_) (fun c5 => ?_)
  · replace hm := if_T c5 hm
    refine lv_iconst (v := (-1 : Int32)) (cx_x X) (cx_b X) dX5_groupOf_16 (by decide) ?_
    exact Jt4 _ (by cases hm; exact hmt4) _ (lv_sub hl [] rfl)
  · replace hm := if_F c5 hm
    refine lv_aload_n (cx_x X) (cx_b X) dX5_groupOf_8 rfl (lv_at hl 0 rfl) ?_
    refine lv_iload_n (cx_x X) (cx_b X) dX5_groupOf_9 rfl (lv_at hl 1 rfl) ?_
    obtain ⟨v7, h6, hm⟩ := bnd hm
    refine af_R (rn_V (As := [.int a1]) (rest := []) X (c_X5_group l D y A F R a1  _ h6) vq_X5_55 ⟨rfl, rfl⟩ ⟨Nat.le_of_ble_eq_true rfl, Nat.le_of_ble_eq_true rfl⟩ (rec_5 X hP5) hP5 rfl hl.1 rfl (Nat.le_of_ble_eq_true rfl) dX5_groupOf_10 ⟨Nat.le_refl _, Nat.le_refl _⟩) ?_
    refine lv_goto (tgt := 17) (cx_x X) (cx_b X) dX5_groupOf_13 (by decide) ?_
    exact Jt4 _ (by cases hm; exact hmt4) _ (lv_sub hl [] rfl)
/-! X5_distance -/
def m5_distance_J26  (v3 : Int32) : Option Int32 :=
  some v3
def m5_distance (F : (Nat → Int32)) (R : (Nat → Nat → Int32)) (a1 : Int32) (a2 : Int32) : Option Int32 :=
  (m5_isCell F R a1).bind fun v2 =>
  (if v2 = 0 then
  some (-1 : Int32)
  else
  (m5_isCell F R a2).bind fun v7 =>
  if v7 = 0 then
  some (-1 : Int32)
  else
  (m5_far F R a1 a2).bind fun v10 =>
  some v10).bind fun v3 => m5_distance_J26 v3
abbrev rm_X5_distance : Room := { frames := 2, cells := 0, slots := 0, locals := 45 }
set_option maxHeartbeats 4000000 in
set_option maxRecDepth 100000 in
theorem c_X5_distance (l : Launch) (D : va_G) (y : Nat → ClassId) (A : Nat → Nat) (F : (Nat → Int32)) (R : (Nat → Nat → Int32)) (a1 : Int32) (a2 : Int32) (r : Int32) (hm : m5_distance F R a1 a2 = some r) : Met l yX5_distance (wy_s yX5_distance cX5_distance 3 (some .int)) rm_X5_distance (pc_R D y [.ref (A 0), .int a1, .int a2] (fun H => va_P D vwCl (w5_s y A F R) H)) (qc_R r) 0 0 (fun _ => False) := by
  refine met_R (by decide) (Nat.le_of_ble_eq_true rfl) ?_
  intro p e s m args below meth c X h0 ls hl
  have hP5 := h0
  replace hl : lv_has ls 3 [(0, .ref (A 0)), (1, .int a1), (2, .int a2)] := hl
  replace X : cx p s m args meth c cX5_distance 3 (some .int) RX5 D y := X
  unfold m5_distance at hm
  refine lv_aload_n (cx_x X) (cx_b X) dX5_distance_0 rfl (lv_at hl 0 rfl) ?_
  refine lv_iload_n (cx_x X) (cx_b X) dX5_distance_1 rfl (lv_at hl 1 rfl) ?_
  obtain ⟨v2, h1, hm⟩ := bnd hm
  refine af_R (rn_V (As := [.int a1]) (rest := []) X (c_X5_isCell l D y A F R a1  _ h1) vq_X5_119 ⟨rfl, rfl⟩ ⟨Nat.le_of_ble_eq_true rfl, Nat.le_of_ble_eq_true rfl⟩ (rec_5 X hP5) hP5 rfl hl.1 rfl (Nat.le_of_ble_eq_true rfl) dX5_distance_2 ⟨Nat.le_refl _, Nat.le_refl _⟩) ?_
  obtain ⟨qt4, hm, hmt4⟩ := bnd hm
  have Jt4 : ∀ (v3 : Int32) , m5_distance_J26 v3 = some r → ∀ ls, lv_has ls 3 [] → gr p l e rm_X5_distance s m args below meth c r (F0 m 26 ls [.int v3]) := by
    intro v3 hm ls hl
    unfold m5_distance_J26 at hm
    exact gr_i X hm dX5_distance_26
  refine lv_if_eq (tgt := 25) (cx_x X) (cx_b X) dX5_distance_5 (by decide) (fun c5 => ?_) (fun c5 => ?_)
  · replace hm := if_T c5 hm
    refine lv_iconst (v := (-1 : Int32)) (cx_x X) (cx_b X) dX5_distance_25 (by decide) ?_
    exact Jt4 _ (by cases hm; exact hmt4) _ (lv_sub hl [] rfl)
  · replace hm := if_F c5 hm
    refine lv_aload_n (cx_x X) (cx_b X) dX5_distance_8 rfl (lv_at hl 0 rfl) ?_
    refine lv_iload_n (cx_x X) (cx_b X) dX5_distance_9 rfl (lv_at hl 2 rfl) ?_
    obtain ⟨v7, h6, hm⟩ := bnd hm
    refine af_R (rn_V (As := [.int a2]) (rest := []) X (c_X5_isCell l D y A F R a2  _ h6) vq_X5_119 ⟨rfl, rfl⟩ ⟨Nat.le_of_ble_eq_true rfl, Nat.le_of_ble_eq_true rfl⟩ (rec_5 X hP5) hP5 rfl hl.1 rfl (Nat.le_of_ble_eq_true rfl) dX5_distance_10 ⟨Nat.le_refl _, Nat.le_refl _⟩) ?_
    refine lv_if_eq (tgt := 25) (cx_x X) (cx_b X) dX5_distance_13 (by decide) (fun c8 => ?_) (fun c8 => ?_)
    · replace hm := if_T c8 hm
      refine lv_iconst (v := (-1 : Int32)) (cx_x X) (cx_b X) dX5_distance_25 (by decide) ?_
      exact Jt4 _ (by cases hm; exact hmt4) _ (lv_sub hl [] rfl)
    · replace hm := if_F c8 hm
      refine lv_aload_n (cx_x X) (cx_b X) dX5_distance_16 rfl (lv_at hl 0 rfl) ?_
      refine lv_iload_n (cx_x X) (cx_b X) dX5_distance_17 rfl (lv_at hl 1 rfl) ?_
      refine lv_iload_n (cx_x X) (cx_b X) dX5_distance_18 rfl (lv_at hl 2 rfl) ?_
      obtain ⟨v10, h9, hm⟩ := bnd hm
      refine af_R (rn_V (As := [.int a1, .int a2]) (rest := []) X (c_X5_far l D y A F R a1 a2  _ h9) vq_X5_58 ⟨rfl, rfl⟩ ⟨Nat.le_of_ble_eq_true rfl, Nat.le_of_ble_eq_true rfl⟩ (rec_5 X hP5) hP5 rfl hl.1 rfl (Nat.le_of_ble_eq_true rfl) dX5_distance_19 ⟨Nat.le_refl _, Nat.le_refl _⟩) ?_
      refine lv_goto (tgt := 26) (cx_x X) (cx_b X) dX5_distance_22 (by decide) ?_
      exact Jt4 _ (by cases hm; exact hmt4) _ (lv_sub hl [] rfl)
/-! X5_cellOf -/
def m5_cellOf_J24  (v3 : Int32) : Option Int32 :=
  some v3
def m5_cellOf (F : (Nat → Int32)) (R : (Nat → Nat → Int32)) (a1 : Int32) : Option Int32 :=
  (m5_isCall F R a1).bind fun v2 =>
  (if v2 = 0 then
  some (-4 : Int32)
  else
  if inb ((14 : Int32) + a1) 194 then
  some ((R 0 ((14 : Int32) + a1).toNatClampNeg) - (1 : Int32)) else none).bind fun v3 => m5_cellOf_J24 v3
abbrev rm_X5_cellOf : Room := { frames := 2, cells := 0, slots := 0, locals := 43 }
set_option maxHeartbeats 4000000 in
set_option maxRecDepth 100000 in
theorem c_X5_cellOf (l : Launch) (D : va_G) (y : Nat → ClassId) (A : Nat → Nat) (F : (Nat → Int32)) (R : (Nat → Nat → Int32)) (a1 : Int32) (r : Int32) (hm : m5_cellOf F R a1 = some r) : Met l yX5_cellOf (wy_s yX5_cellOf cX5_cellOf 2 (some .int)) rm_X5_cellOf (pc_R D y [.ref (A 0), .int a1] (fun H => va_P D vwCl (w5_s y A F R) H)) (qc_R r) 0 0 (fun _ => False) := by
  refine met_R (by decide) (Nat.le_of_ble_eq_true rfl) ?_
  intro p e s m args below meth c X h0 ls hl
  have hP5 := h0
  replace hl : lv_has ls 2 [(0, .ref (A 0)), (1, .int a1)] := hl
  replace X : cx p s m args meth c cX5_cellOf 2 (some .int) RX5 D y := X
  unfold m5_cellOf at hm
  refine lv_aload_n (cx_x X) (cx_b X) dX5_cellOf_0 rfl (lv_at hl 0 rfl) ?_
  refine lv_iload_n (cx_x X) (cx_b X) dX5_cellOf_1 rfl (lv_at hl 1 rfl) ?_
  obtain ⟨v2, h1, hm⟩ := bnd hm
  refine af_R (rn_V (As := [.int a1]) (rest := []) X (c_X5_isCall l D y A F R a1  _ h1) vq_X5_122 ⟨rfl, rfl⟩ ⟨Nat.le_of_ble_eq_true rfl, Nat.le_of_ble_eq_true rfl⟩ (rec_5 X hP5) hP5 rfl hl.1 rfl (Nat.le_of_ble_eq_true rfl) dX5_cellOf_2 ⟨Nat.le_refl _, Nat.le_refl _⟩) ?_
  obtain ⟨qt4, hm, hmt4⟩ := bnd hm
  have Jt4 : ∀ (v3 : Int32) , m5_cellOf_J24 v3 = some r → ∀ ls, lv_has ls 2 [] → gr p l e rm_X5_cellOf s m args below meth c r (F0 m 24 ls [.int v3]) := by
    intro v3 hm ls hl
    unfold m5_cellOf_J24 at hm
    exact gr_i X hm dX5_cellOf_24
  refine lv_if_eq (tgt := 22) (cx_x X) (cx_b X) dX5_cellOf_5 (by decide) (fun c5 => ?_) (fun c5 => ?_)
  · replace hm := if_T c5 hm
    refine lv_bipush (v := (-4 : Int32)) (cx_x X) (cx_b X) dX5_cellOf_22 (by decide) ?_
    exact Jt4 _ (by cases hm; exact hmt4) _ (lv_sub hl [] rfl)
  · replace hm := if_F c5 hm
    refine lv_aload_n (cx_x X) (cx_b X) dX5_cellOf_8 rfl (lv_at hl 0 rfl) ?_
    refine gf_X5_7 X hP5 dX5_cellOf_9 ?_
    refine lv_bipush (v := (14 : Int32)) (cx_x X) (cx_b X) dX5_cellOf_12 (by decide) ?_
    refine lv_iload_n (cx_x X) (cx_b X) dX5_cellOf_14 rfl (lv_at hl 1 rfl) ?_
    refine lv_iadd (cx_x X) (cx_b X) dX5_cellOf_15 ?_
    obtain ⟨h6, hm⟩ := ck_E hm
    refine ld_5_0 X hP5 h6 dX5_cellOf_16 ?_
    refine lv_iconst (v := (1 : Int32)) (cx_x X) (cx_b X) dX5_cellOf_17 (by decide) ?_
    refine lv_isub (cx_x X) (cx_b X) dX5_cellOf_18 ?_
    refine lv_goto (tgt := 24) (cx_x X) (cx_b X) dX5_cellOf_19 (by decide) ?_
    exact Jt4 _ (by cases hm; exact hmt4) _ (lv_sub hl [] rfl)
/-! X5_channelOf -/
def m5_channelOf_J18  (v3 : Int32) : Option Int32 :=
  some v3
def m5_channelOf (F : (Nat → Int32)) (R : (Nat → Nat → Int32)) (a1 : Int32) : Option Int32 :=
  (m5_isCall F R a1).bind fun v2 =>
  (if v2 = 0 then
  some (-4 : Int32)
  else
  (m5_channelNow F R a1).bind fun v7 =>
  some v7).bind fun v3 => m5_channelOf_J18 v3
abbrev rm_X5_channelOf : Room := { frames := 2, cells := 0, slots := 0, locals := 43 }
set_option maxHeartbeats 4000000 in
set_option maxRecDepth 100000 in
theorem c_X5_channelOf (l : Launch) (D : va_G) (y : Nat → ClassId) (A : Nat → Nat) (F : (Nat → Int32)) (R : (Nat → Nat → Int32)) (a1 : Int32) (r : Int32) (hm : m5_channelOf F R a1 = some r) : Met l yX5_channelOf (wy_s yX5_channelOf cX5_channelOf 2 (some .int)) rm_X5_channelOf (pc_R D y [.ref (A 0), .int a1] (fun H => va_P D vwCl (w5_s y A F R) H)) (qc_R r) 0 0 (fun _ => False) := by
  refine met_R (by decide) (Nat.le_of_ble_eq_true rfl) ?_
  intro p e s m args below meth c X h0 ls hl
  have hP5 := h0
  replace hl : lv_has ls 2 [(0, .ref (A 0)), (1, .int a1)] := hl
  replace X : cx p s m args meth c cX5_channelOf 2 (some .int) RX5 D y := X
  unfold m5_channelOf at hm
  refine lv_aload_n (cx_x X) (cx_b X) dX5_channelOf_0 rfl (lv_at hl 0 rfl) ?_
  refine lv_iload_n (cx_x X) (cx_b X) dX5_channelOf_1 rfl (lv_at hl 1 rfl) ?_
  obtain ⟨v2, h1, hm⟩ := bnd hm
  refine af_R (rn_V (As := [.int a1]) (rest := []) X (c_X5_isCall l D y A F R a1  _ h1) vq_X5_122 ⟨rfl, rfl⟩ ⟨Nat.le_of_ble_eq_true rfl, Nat.le_of_ble_eq_true rfl⟩ (rec_5 X hP5) hP5 rfl hl.1 rfl (Nat.le_of_ble_eq_true rfl) dX5_channelOf_2 ⟨Nat.le_refl _, Nat.le_refl _⟩) ?_
  obtain ⟨qt4, hm, hmt4⟩ := bnd hm
  have Jt4 : ∀ (v3 : Int32) , m5_channelOf_J18 v3 = some r → ∀ ls, lv_has ls 2 [] → gr p l e rm_X5_channelOf s m args below meth c r (F0 m 18 ls [.int v3]) := by
    intro v3 hm ls hl
    unfold m5_channelOf_J18 at hm
    exact gr_i X hm dX5_channelOf_18
  refine lv_if_eq (tgt := 16) (cx_x X) (cx_b X) dX5_channelOf_5 (by decide) (fun c5 => ?_) (fun c5 => ?_)
  · replace hm := if_T c5 hm
    refine lv_bipush (v := (-4 : Int32)) (cx_x X) (cx_b X) dX5_channelOf_16 (by decide) ?_
    exact Jt4 _ (by cases hm; exact hmt4) _ (lv_sub hl [] rfl)
  · replace hm := if_F c5 hm
    refine lv_aload_n (cx_x X) (cx_b X) dX5_channelOf_8 rfl (lv_at hl 0 rfl) ?_
    refine lv_iload_n (cx_x X) (cx_b X) dX5_channelOf_9 rfl (lv_at hl 1 rfl) ?_
    obtain ⟨v7, h6, hm⟩ := bnd hm
    refine af_R (rn_V (As := [.int a1]) (rest := []) X (c_X5_channelNow l D y A F R a1  _ h6) vq_X5_97 ⟨rfl, rfl⟩ ⟨Nat.le_of_ble_eq_true rfl, Nat.le_of_ble_eq_true rfl⟩ (rec_5 X hP5) hP5 rfl hl.1 rfl (Nat.le_of_ble_eq_true rfl) dX5_channelOf_10 ⟨Nat.le_refl _, Nat.le_refl _⟩) ?_
    refine lv_goto (tgt := 18) (cx_x X) (cx_b X) dX5_channelOf_13 (by decide) ?_
    exact Jt4 _ (by cases hm; exact hmt4) _ (lv_sub hl [] rfl)
/-! X5_isBorrowed -/
def m5_isBorrowed_J26  (v3 : Int32) : Option Int32 :=
  some v3
def m5_isBorrowed (F : (Nat → Int32)) (R : (Nat → Nat → Int32)) (a1 : Int32) : Option Int32 :=
  (m5_isCall F R a1).bind fun v2 =>
  (if v2 = 0 then
  some (-4 : Int32)
  else
  (m5_borrowed F R a1).bind fun v7 =>
  if v7 = 0 then
  some (0 : Int32)
  else
  some (1 : Int32)).bind fun v3 => m5_isBorrowed_J26 v3
abbrev rm_X5_isBorrowed : Room := { frames := 3, cells := 0, slots := 0, locals := 66 }
set_option maxHeartbeats 4000000 in
set_option maxRecDepth 100000 in
theorem c_X5_isBorrowed (l : Launch) (D : va_G) (y : Nat → ClassId) (A : Nat → Nat) (F : (Nat → Int32)) (R : (Nat → Nat → Int32)) (a1 : Int32) (r : Int32) (hm : m5_isBorrowed F R a1 = some r) : Met l yX5_isBorrowed (wy_s yX5_isBorrowed cX5_isBorrowed 2 (some .int)) rm_X5_isBorrowed (pc_R D y [.ref (A 0), .int a1] (fun H => va_P D vwCl (w5_s y A F R) H)) (qc_R r) 0 0 (fun _ => False) := by
  refine met_R (by decide) (Nat.le_of_ble_eq_true rfl) ?_
  intro p e s m args below meth c X h0 ls hl
  have hP5 := h0
  replace hl : lv_has ls 2 [(0, .ref (A 0)), (1, .int a1)] := hl
  replace X : cx p s m args meth c cX5_isBorrowed 2 (some .int) RX5 D y := X
  unfold m5_isBorrowed at hm
  refine lv_aload_n (cx_x X) (cx_b X) dX5_isBorrowed_0 rfl (lv_at hl 0 rfl) ?_
  refine lv_iload_n (cx_x X) (cx_b X) dX5_isBorrowed_1 rfl (lv_at hl 1 rfl) ?_
  obtain ⟨v2, h1, hm⟩ := bnd hm
  refine af_R (rn_V (As := [.int a1]) (rest := []) X (c_X5_isCall l D y A F R a1  _ h1) vq_X5_122 ⟨rfl, rfl⟩ ⟨Nat.le_of_ble_eq_true rfl, Nat.le_of_ble_eq_true rfl⟩ (rec_5 X hP5) hP5 rfl hl.1 rfl (Nat.le_of_ble_eq_true rfl) dX5_isBorrowed_2 ⟨Nat.le_refl _, Nat.le_refl _⟩) ?_
  obtain ⟨qt4, hm, hmt4⟩ := bnd hm
  have Jt4 : ∀ (v3 : Int32) , m5_isBorrowed_J26 v3 = some r → ∀ ls, lv_has ls 2 [] → gr p l e rm_X5_isBorrowed s m args below meth c r (F0 m 26 ls [.int v3]) := by
    intro v3 hm ls hl
    unfold m5_isBorrowed_J26 at hm
    exact gr_i X hm dX5_isBorrowed_26
  refine lv_if_ne (tgt := 13) (cx_x X) (cx_b X) dX5_isBorrowed_5 (by decide) (fun c5 => ?_) (fun c5 => ?_)
  · replace hm := if_F c5 hm
    refine lv_aload_n (cx_x X) (cx_b X) dX5_isBorrowed_13 rfl (lv_at hl 0 rfl) ?_
    refine lv_iload_n (cx_x X) (cx_b X) dX5_isBorrowed_14 rfl (lv_at hl 1 rfl) ?_
    obtain ⟨v7, h6, hm⟩ := bnd hm
    refine af_R (rn_V (As := [.int a1]) (rest := []) X (c_X5_borrowed l D y A F R a1  _ h6) vq_X5_87 ⟨rfl, rfl⟩ ⟨Nat.le_of_ble_eq_true rfl, Nat.le_of_ble_eq_true rfl⟩ (rec_5 X hP5) hP5 rfl hl.1 rfl (Nat.le_of_ble_eq_true rfl) dX5_isBorrowed_15 ⟨Nat.le_refl _, Nat.le_refl _⟩) ?_
    refine lv_if_eq (tgt := 25) (cx_x X) (cx_b X) dX5_isBorrowed_18 (by decide) (fun c8 => ?_) (fun c8 => ?_)
    · replace hm := if_T c8 hm
      refine lv_iconst (v := (0 : Int32)) (cx_x X) (cx_b X) dX5_isBorrowed_25 (by decide) ?_
      exact Jt4 _ (by cases hm; exact hmt4) _ (lv_sub hl [] rfl)
    · replace hm := if_F c8 hm
      refine lv_iconst (v := (1 : Int32)) (cx_x X) (cx_b X) dX5_isBorrowed_21 (by decide) ?_
      refine lv_goto (tgt := 26) (cx_x X) (cx_b X) dX5_isBorrowed_22 (by decide) ?_
      exact Jt4 _ (by cases hm; exact hmt4) _ (lv_sub hl [] rfl)
  · replace hm := if_T c5 hm
    refine lv_bipush (v := (-4 : Int32)) (cx_x X) (cx_b X) dX5_isBorrowed_8 (by decide) ?_
    refine lv_goto (tgt := 26) (cx_x X) (cx_b X) dX5_isBorrowed_10 (by decide) ?_
    exact Jt4 _ (by cases hm; exact hmt4) _ (lv_sub hl [] rfl)
/-! X5_isInFixedScheme -/
def m5_isInFixedScheme_J23  (v3 : Int32) : Option Int32 :=
  some v3
def m5_isInFixedScheme (F : (Nat → Int32)) (R : (Nat → Nat → Int32)) (a1 : Int32) : Option Int32 :=
  (m5_isCall F R a1).bind fun v2 =>
  (if v2 = 0 then
  some (-4 : Int32)
  else
  if inb ((134 : Int32) + a1) 194 then
  some (R 0 ((134 : Int32) + a1).toNatClampNeg) else none).bind fun v3 => m5_isInFixedScheme_J23 v3
abbrev rm_X5_isInFixedScheme : Room := { frames := 2, cells := 0, slots := 0, locals := 43 }
set_option maxHeartbeats 4000000 in
set_option maxRecDepth 100000 in
theorem c_X5_isInFixedScheme (l : Launch) (D : va_G) (y : Nat → ClassId) (A : Nat → Nat) (F : (Nat → Int32)) (R : (Nat → Nat → Int32)) (a1 : Int32) (r : Int32) (hm : m5_isInFixedScheme F R a1 = some r) : Met l yX5_isInFixedScheme (wy_s yX5_isInFixedScheme cX5_isInFixedScheme 2 (some .int)) rm_X5_isInFixedScheme (pc_R D y [.ref (A 0), .int a1] (fun H => va_P D vwCl (w5_s y A F R) H)) (qc_R r) 0 0 (fun _ => False) := by
  refine met_R (by decide) (Nat.le_of_ble_eq_true rfl) ?_
  intro p e s m args below meth c X h0 ls hl
  have hP5 := h0
  replace hl : lv_has ls 2 [(0, .ref (A 0)), (1, .int a1)] := hl
  replace X : cx p s m args meth c cX5_isInFixedScheme 2 (some .int) RX5 D y := X
  unfold m5_isInFixedScheme at hm
  refine lv_aload_n (cx_x X) (cx_b X) dX5_isInFixedScheme_0 rfl (lv_at hl 0 rfl) ?_
  refine lv_iload_n (cx_x X) (cx_b X) dX5_isInFixedScheme_1 rfl (lv_at hl 1 rfl) ?_
  obtain ⟨v2, h1, hm⟩ := bnd hm
  refine af_R (rn_V (As := [.int a1]) (rest := []) X (c_X5_isCall l D y A F R a1  _ h1) vq_X5_122 ⟨rfl, rfl⟩ ⟨Nat.le_of_ble_eq_true rfl, Nat.le_of_ble_eq_true rfl⟩ (rec_5 X hP5) hP5 rfl hl.1 rfl (Nat.le_of_ble_eq_true rfl) dX5_isInFixedScheme_2 ⟨Nat.le_refl _, Nat.le_refl _⟩) ?_
  obtain ⟨qt4, hm, hmt4⟩ := bnd hm
  have Jt4 : ∀ (v3 : Int32) , m5_isInFixedScheme_J23 v3 = some r → ∀ ls, lv_has ls 2 [] → gr p l e rm_X5_isInFixedScheme s m args below meth c r (F0 m 23 ls [.int v3]) := by
    intro v3 hm ls hl
    unfold m5_isInFixedScheme_J23 at hm
    exact gr_i X hm dX5_isInFixedScheme_23
  refine lv_if_eq (tgt := 21) (cx_x X) (cx_b X) dX5_isInFixedScheme_5 (by decide) (fun c5 => ?_) (fun c5 => ?_)
  · replace hm := if_T c5 hm
    refine lv_bipush (v := (-4 : Int32)) (cx_x X) (cx_b X) dX5_isInFixedScheme_21 (by decide) ?_
    exact Jt4 _ (by cases hm; exact hmt4) _ (lv_sub hl [] rfl)
  · replace hm := if_F c5 hm
    refine lv_aload_n (cx_x X) (cx_b X) dX5_isInFixedScheme_8 rfl (lv_at hl 0 rfl) ?_
    refine gf_X5_7 X hP5 dX5_isInFixedScheme_9 ?_
    refine lv_sipush (v := (134 : Int32)) (cx_x X) (cx_b X) dX5_isInFixedScheme_12 (by decide) ?_
    refine lv_iload_n (cx_x X) (cx_b X) dX5_isInFixedScheme_15 rfl (lv_at hl 1 rfl) ?_
    refine lv_iadd (cx_x X) (cx_b X) dX5_isInFixedScheme_16 ?_
    obtain ⟨h6, hm⟩ := ck_E hm
    refine ld_5_0 X hP5 h6 dX5_isInFixedScheme_17 ?_
    refine lv_goto (tgt := 23) (cx_x X) (cx_b X) dX5_isInFixedScheme_18 (by decide) ?_
    exact Jt4 _ (by cases hm; exact hmt4) _ (lv_sub hl [] rfl)
/-! X5_isAvailable -/
def m5_isAvailable_J34  (v3 : Int32) : Option Int32 :=
  some v3
def m5_isAvailable (F : (Nat → Int32)) (R : (Nat → Nat → Int32)) (a1 : Int32) (a2 : Int32) : Option Int32 :=
  (m5_isCell F R a1).bind fun v2 =>
  (if v2 = 0 then
  some (-1 : Int32)
  else
  (m5_isChannel F R a2).bind fun v7 =>
  if v7 = 0 then
  some (-1 : Int32)
  else
  (m5_available F R a1 a2).bind fun v10 =>
  if v10 = 0 then
  some (0 : Int32)
  else
  some (1 : Int32)).bind fun v3 => m5_isAvailable_J34 v3
abbrev rm_X5_isAvailable : Room := { frames := 4, cells := 0, slots := 0, locals := 91 }
set_option maxHeartbeats 4000000 in
set_option maxRecDepth 100000 in
theorem c_X5_isAvailable (l : Launch) (D : va_G) (y : Nat → ClassId) (A : Nat → Nat) (F : (Nat → Int32)) (R : (Nat → Nat → Int32)) (a1 : Int32) (a2 : Int32) (r : Int32) (hm : m5_isAvailable F R a1 a2 = some r) : Met l yX5_isAvailable (wy_s yX5_isAvailable cX5_isAvailable 3 (some .int)) rm_X5_isAvailable (pc_R D y [.ref (A 0), .int a1, .int a2] (fun H => va_P D vwCl (w5_s y A F R) H)) (qc_R r) 0 0 (fun _ => False) := by
  refine met_R (by decide) (Nat.le_of_ble_eq_true rfl) ?_
  intro p e s m args below meth c X h0 ls hl
  have hP5 := h0
  replace hl : lv_has ls 3 [(0, .ref (A 0)), (1, .int a1), (2, .int a2)] := hl
  replace X : cx p s m args meth c cX5_isAvailable 3 (some .int) RX5 D y := X
  unfold m5_isAvailable at hm
  refine lv_aload_n (cx_x X) (cx_b X) dX5_isAvailable_0 rfl (lv_at hl 0 rfl) ?_
  refine lv_iload_n (cx_x X) (cx_b X) dX5_isAvailable_1 rfl (lv_at hl 1 rfl) ?_
  obtain ⟨v2, h1, hm⟩ := bnd hm
  refine af_R (rn_V (As := [.int a1]) (rest := []) X (c_X5_isCell l D y A F R a1  _ h1) vq_X5_119 ⟨rfl, rfl⟩ ⟨Nat.le_of_ble_eq_true rfl, Nat.le_of_ble_eq_true rfl⟩ (rec_5 X hP5) hP5 rfl hl.1 rfl (Nat.le_of_ble_eq_true rfl) dX5_isAvailable_2 ⟨Nat.le_refl _, Nat.le_refl _⟩) ?_
  obtain ⟨qt4, hm, hmt4⟩ := bnd hm
  have Jt4 : ∀ (v3 : Int32) , m5_isAvailable_J34 v3 = some r → ∀ ls, lv_has ls 3 [] → gr p l e rm_X5_isAvailable s m args below meth c r (F0 m 34 ls [.int v3]) := by
    intro v3 hm ls hl
    unfold m5_isAvailable_J34 at hm
    exact gr_i X hm dX5_isAvailable_34
  refine lv_if_eq (tgt := 16) (cx_x X) (cx_b X) dX5_isAvailable_5 (by decide) (fun c5 => ?_) (fun c5 => ?_)
  · replace hm := if_T c5 hm
    refine lv_iconst (v := (-1 : Int32)) (cx_x X) (cx_b X) dX5_isAvailable_16 (by decide) ?_
    refine lv_goto (tgt := 34) (cx_x X) (cx_b X) dX5_isAvailable_17 (by decide) ?_
    exact Jt4 _ (by cases hm; exact hmt4) _ (lv_sub hl [] rfl)
  · replace hm := if_F c5 hm
    refine lv_aload_n (cx_x X) (cx_b X) dX5_isAvailable_8 rfl (lv_at hl 0 rfl) ?_
    refine lv_iload_n (cx_x X) (cx_b X) dX5_isAvailable_9 rfl (lv_at hl 2 rfl) ?_
    obtain ⟨v7, h6, hm⟩ := bnd hm
    refine af_R (rn_V (As := [.int a2]) (rest := []) X (c_X5_isChannel l D y A F R a2  _ h6) vq_X5_138 ⟨rfl, rfl⟩ ⟨Nat.le_of_ble_eq_true rfl, Nat.le_of_ble_eq_true rfl⟩ (rec_5 X hP5) hP5 rfl hl.1 rfl (Nat.le_of_ble_eq_true rfl) dX5_isAvailable_10 ⟨Nat.le_refl _, Nat.le_refl _⟩) ?_
    refine lv_if_ne (tgt := 20) (cx_x X) (cx_b X) dX5_isAvailable_13 (by decide) (fun c8 => ?_) (fun c8 => ?_)
    · replace hm := if_F c8 hm
      refine lv_aload_n (cx_x X) (cx_b X) dX5_isAvailable_20 rfl (lv_at hl 0 rfl) ?_
      refine lv_iload_n (cx_x X) (cx_b X) dX5_isAvailable_21 rfl (lv_at hl 1 rfl) ?_
      refine lv_iload_n (cx_x X) (cx_b X) dX5_isAvailable_22 rfl (lv_at hl 2 rfl) ?_
      obtain ⟨v10, h9, hm⟩ := bnd hm
      refine af_R (rn_V (As := [.int a1, .int a2]) (rest := []) X (c_X5_available l D y A F R a1 a2  _ h9) vq_X5_72 ⟨rfl, rfl⟩ ⟨Nat.le_of_ble_eq_true rfl, Nat.le_of_ble_eq_true rfl⟩ (rec_5 X hP5) hP5 rfl hl.1 rfl (Nat.le_of_ble_eq_true rfl) dX5_isAvailable_23 ⟨Nat.le_refl _, Nat.le_refl _⟩) ?_
      refine lv_if_eq (tgt := 33) (cx_x X) (cx_b X) dX5_isAvailable_26 (by decide) (fun c11 => ?_) (fun c11 => ?_)
      · replace hm := if_T c11 hm
        refine lv_iconst (v := (0 : Int32)) (cx_x X) (cx_b X) dX5_isAvailable_33 (by decide) ?_
        exact Jt4 _ (by cases hm; exact hmt4) _ (lv_sub hl [] rfl)
      · replace hm := if_F c11 hm
        refine lv_iconst (v := (1 : Int32)) (cx_x X) (cx_b X) dX5_isAvailable_29 (by decide) ?_
        refine lv_goto (tgt := 34) (cx_x X) (cx_b X) dX5_isAvailable_30 (by decide) ?_
        exact Jt4 _ (by cases hm; exact hmt4) _ (lv_sub hl [] rfl)
    · replace hm := if_T c8 hm
      refine lv_iconst (v := (-1 : Int32)) (cx_x X) (cx_b X) dX5_isAvailable_16 (by decide) ?_
      refine lv_goto (tgt := 34) (cx_x X) (cx_b X) dX5_isAvailable_17 (by decide) ?_
      exact Jt4 _ (by cases hm; exact hmt4) _ (lv_sub hl [] rfl)
/-! X5_lockCount -/
def m5_lockCount_J26  (v3 : Int32) : Option Int32 :=
  some v3
def m5_lockCount (F : (Nat → Int32)) (R : (Nat → Nat → Int32)) (a1 : Int32) (a2 : Int32) : Option Int32 :=
  (m5_isCell F R a1).bind fun v2 =>
  (if v2 = 0 then
  some (-1 : Int32)
  else
  (m5_isChannel F R a2).bind fun v7 =>
  if v7 = 0 then
  some (-1 : Int32)
  else
  (m5_locks F R a1 a2).bind fun v10 =>
  some v10).bind fun v3 => m5_lockCount_J26 v3
abbrev rm_X5_lockCount : Room := { frames := 3, cells := 0, slots := 0, locals := 69 }
set_option maxHeartbeats 4000000 in
set_option maxRecDepth 100000 in
theorem c_X5_lockCount (l : Launch) (D : va_G) (y : Nat → ClassId) (A : Nat → Nat) (F : (Nat → Int32)) (R : (Nat → Nat → Int32)) (a1 : Int32) (a2 : Int32) (r : Int32) (hm : m5_lockCount F R a1 a2 = some r) : Met l yX5_lockCount (wy_s yX5_lockCount cX5_lockCount 3 (some .int)) rm_X5_lockCount (pc_R D y [.ref (A 0), .int a1, .int a2] (fun H => va_P D vwCl (w5_s y A F R) H)) (qc_R r) 0 0 (fun _ => False) := by
  refine met_R (by decide) (Nat.le_of_ble_eq_true rfl) ?_
  intro p e s m args below meth c X h0 ls hl
  have hP5 := h0
  replace hl : lv_has ls 3 [(0, .ref (A 0)), (1, .int a1), (2, .int a2)] := hl
  replace X : cx p s m args meth c cX5_lockCount 3 (some .int) RX5 D y := X
  unfold m5_lockCount at hm
  refine lv_aload_n (cx_x X) (cx_b X) dX5_lockCount_0 rfl (lv_at hl 0 rfl) ?_
  refine lv_iload_n (cx_x X) (cx_b X) dX5_lockCount_1 rfl (lv_at hl 1 rfl) ?_
  obtain ⟨v2, h1, hm⟩ := bnd hm
  refine af_R (rn_V (As := [.int a1]) (rest := []) X (c_X5_isCell l D y A F R a1  _ h1) vq_X5_119 ⟨rfl, rfl⟩ ⟨Nat.le_of_ble_eq_true rfl, Nat.le_of_ble_eq_true rfl⟩ (rec_5 X hP5) hP5 rfl hl.1 rfl (Nat.le_of_ble_eq_true rfl) dX5_lockCount_2 ⟨Nat.le_refl _, Nat.le_refl _⟩) ?_
  obtain ⟨qt4, hm, hmt4⟩ := bnd hm
  have Jt4 : ∀ (v3 : Int32) , m5_lockCount_J26 v3 = some r → ∀ ls, lv_has ls 3 [] → gr p l e rm_X5_lockCount s m args below meth c r (F0 m 26 ls [.int v3]) := by
    intro v3 hm ls hl
    unfold m5_lockCount_J26 at hm
    exact gr_i X hm dX5_lockCount_26
  refine lv_if_eq (tgt := 25) (cx_x X) (cx_b X) dX5_lockCount_5 (by decide) (fun c5 => ?_) (fun c5 => ?_)
  · replace hm := if_T c5 hm
    refine lv_iconst (v := (-1 : Int32)) (cx_x X) (cx_b X) dX5_lockCount_25 (by decide) ?_
    exact Jt4 _ (by cases hm; exact hmt4) _ (lv_sub hl [] rfl)
  · replace hm := if_F c5 hm
    refine lv_aload_n (cx_x X) (cx_b X) dX5_lockCount_8 rfl (lv_at hl 0 rfl) ?_
    refine lv_iload_n (cx_x X) (cx_b X) dX5_lockCount_9 rfl (lv_at hl 2 rfl) ?_
    obtain ⟨v7, h6, hm⟩ := bnd hm
    refine af_R (rn_V (As := [.int a2]) (rest := []) X (c_X5_isChannel l D y A F R a2  _ h6) vq_X5_138 ⟨rfl, rfl⟩ ⟨Nat.le_of_ble_eq_true rfl, Nat.le_of_ble_eq_true rfl⟩ (rec_5 X hP5) hP5 rfl hl.1 rfl (Nat.le_of_ble_eq_true rfl) dX5_lockCount_10 ⟨Nat.le_refl _, Nat.le_refl _⟩) ?_
    refine lv_if_eq (tgt := 25) (cx_x X) (cx_b X) dX5_lockCount_13 (by decide) (fun c8 => ?_) (fun c8 => ?_)
    · replace hm := if_T c8 hm
      refine lv_iconst (v := (-1 : Int32)) (cx_x X) (cx_b X) dX5_lockCount_25 (by decide) ?_
      exact Jt4 _ (by cases hm; exact hmt4) _ (lv_sub hl [] rfl)
    · replace hm := if_F c8 hm
      refine lv_aload_n (cx_x X) (cx_b X) dX5_lockCount_16 rfl (lv_at hl 0 rfl) ?_
      refine lv_iload_n (cx_x X) (cx_b X) dX5_lockCount_17 rfl (lv_at hl 1 rfl) ?_
      refine lv_iload_n (cx_x X) (cx_b X) dX5_lockCount_18 rfl (lv_at hl 2 rfl) ?_
      obtain ⟨v10, h9, hm⟩ := bnd hm
      refine af_R (rn_V (As := [.int a1, .int a2]) (rest := []) X (c_X5_locks l D y A F R a1 a2  _ h9) vq_X5_66 ⟨rfl, rfl⟩ ⟨Nat.le_of_ble_eq_true rfl, Nat.le_of_ble_eq_true rfl⟩ (rec_5 X hP5) hP5 rfl hl.1 rfl (Nat.le_of_ble_eq_true rfl) dX5_lockCount_19 ⟨Nat.le_refl _, Nat.le_refl _⟩) ?_
      refine lv_goto (tgt := 26) (cx_x X) (cx_b X) dX5_lockCount_22 (by decide) ?_
      exact Jt4 _ (by cases hm; exact hmt4) _ (lv_sub hl [] rfl)
/-! X5_burden -/
def m5_burden_J26  (v3 : Int32) : Option Int32 :=
  some v3
def m5_burden (F : (Nat → Int32)) (R : (Nat → Nat → Int32)) (a1 : Int32) (a2 : Int32) : Option Int32 :=
  (m5_isCell F R a1).bind fun v2 =>
  (if v2 = 0 then
  some (-1 : Int32)
  else
  (m5_isChannel F R a2).bind fun v7 =>
  if v7 = 0 then
  some (-1 : Int32)
  else
  (m5_burdenOf F R a1 a2).bind fun v10 =>
  some v10).bind fun v3 => m5_burden_J26 v3
abbrev rm_X5_burden : Room := { frames := 3, cells := 0, slots := 0, locals := 69 }
set_option maxHeartbeats 4000000 in
set_option maxRecDepth 100000 in
theorem c_X5_burden (l : Launch) (D : va_G) (y : Nat → ClassId) (A : Nat → Nat) (F : (Nat → Int32)) (R : (Nat → Nat → Int32)) (a1 : Int32) (a2 : Int32) (r : Int32) (hm : m5_burden F R a1 a2 = some r) : Met l yX5_burden (wy_s yX5_burden cX5_burden 3 (some .int)) rm_X5_burden (pc_R D y [.ref (A 0), .int a1, .int a2] (fun H => va_P D vwCl (w5_s y A F R) H)) (qc_R r) 0 0 (fun _ => False) := by
  refine met_R (by decide) (Nat.le_of_ble_eq_true rfl) ?_
  intro p e s m args below meth c X h0 ls hl
  have hP5 := h0
  replace hl : lv_has ls 3 [(0, .ref (A 0)), (1, .int a1), (2, .int a2)] := hl
  replace X : cx p s m args meth c cX5_burden 3 (some .int) RX5 D y := X
  unfold m5_burden at hm
  refine lv_aload_n (cx_x X) (cx_b X) dX5_burden_0 rfl (lv_at hl 0 rfl) ?_
  refine lv_iload_n (cx_x X) (cx_b X) dX5_burden_1 rfl (lv_at hl 1 rfl) ?_
  obtain ⟨v2, h1, hm⟩ := bnd hm
  refine af_R (rn_V (As := [.int a1]) (rest := []) X (c_X5_isCell l D y A F R a1  _ h1) vq_X5_119 ⟨rfl, rfl⟩ ⟨Nat.le_of_ble_eq_true rfl, Nat.le_of_ble_eq_true rfl⟩ (rec_5 X hP5) hP5 rfl hl.1 rfl (Nat.le_of_ble_eq_true rfl) dX5_burden_2 ⟨Nat.le_refl _, Nat.le_refl _⟩) ?_
  obtain ⟨qt4, hm, hmt4⟩ := bnd hm
  have Jt4 : ∀ (v3 : Int32) , m5_burden_J26 v3 = some r → ∀ ls, lv_has ls 3 [] → gr p l e rm_X5_burden s m args below meth c r (F0 m 26 ls [.int v3]) := by
    intro v3 hm ls hl
    unfold m5_burden_J26 at hm
    exact gr_i X hm dX5_burden_26
  refine lv_if_eq (tgt := 25) (cx_x X) (cx_b X) dX5_burden_5 (by decide) (fun c5 => ?_) (fun c5 => ?_)
  · replace hm := if_T c5 hm
    refine lv_iconst (v := (-1 : Int32)) (cx_x X) (cx_b X) dX5_burden_25 (by decide) ?_
    exact Jt4 _ (by cases hm; exact hmt4) _ (lv_sub hl [] rfl)
  · replace hm := if_F c5 hm
    refine lv_aload_n (cx_x X) (cx_b X) dX5_burden_8 rfl (lv_at hl 0 rfl) ?_
    refine lv_iload_n (cx_x X) (cx_b X) dX5_burden_9 rfl (lv_at hl 2 rfl) ?_
    obtain ⟨v7, h6, hm⟩ := bnd hm
    refine af_R (rn_V (As := [.int a2]) (rest := []) X (c_X5_isChannel l D y A F R a2  _ h6) vq_X5_138 ⟨rfl, rfl⟩ ⟨Nat.le_of_ble_eq_true rfl, Nat.le_of_ble_eq_true rfl⟩ (rec_5 X hP5) hP5 rfl hl.1 rfl (Nat.le_of_ble_eq_true rfl) dX5_burden_10 ⟨Nat.le_refl _, Nat.le_refl _⟩) ?_
    refine lv_if_eq (tgt := 25) (cx_x X) (cx_b X) dX5_burden_13 (by decide) (fun c8 => ?_) (fun c8 => ?_)
    · replace hm := if_T c8 hm
      refine lv_iconst (v := (-1 : Int32)) (cx_x X) (cx_b X) dX5_burden_25 (by decide) ?_
      exact Jt4 _ (by cases hm; exact hmt4) _ (lv_sub hl [] rfl)
    · replace hm := if_F c8 hm
      refine lv_aload_n (cx_x X) (cx_b X) dX5_burden_16 rfl (lv_at hl 0 rfl) ?_
      refine lv_iload_n (cx_x X) (cx_b X) dX5_burden_17 rfl (lv_at hl 1 rfl) ?_
      refine lv_iload_n (cx_x X) (cx_b X) dX5_burden_18 rfl (lv_at hl 2 rfl) ?_
      obtain ⟨v10, h9, hm⟩ := bnd hm
      refine af_R (rn_V (As := [.int a1, .int a2]) (rest := []) X (c_X5_burdenOf l D y A F R a1 a2  _ h9) vq_X5_84 ⟨rfl, rfl⟩ ⟨Nat.le_of_ble_eq_true rfl, Nat.le_of_ble_eq_true rfl⟩ (rec_5 X hP5) hP5 rfl hl.1 rfl (Nat.le_of_ble_eq_true rfl) dX5_burden_19 ⟨Nat.le_refl _, Nat.le_refl _⟩) ?_
      refine lv_goto (tgt := 26) (cx_x X) (cx_b X) dX5_burden_22 (by decide) ?_
      exact Jt4 _ (by cases hm; exact hmt4) _ (lv_sub hl [] rfl)
/-! X5_availableCount -/
def m5_availableCount_J17  (v3 : Int32) : Option Int32 :=
  some v3
def m5_availableCount (F : (Nat → Int32)) (R : (Nat → Nat → Int32)) (a1 : Int32) : Option Int32 :=
  (m5_isCell F R a1).bind fun v2 =>
  (if v2 = 0 then
  some (-1 : Int32)
  else
  (m5_availables F R a1).bind fun v7 =>
  some v7).bind fun v3 => m5_availableCount_J17 v3
abbrev rm_X5_availableCount : Room := { frames := 5, cells := 0, slots := 0, locals := 114 }
set_option maxHeartbeats 4000000 in
set_option maxRecDepth 100000 in
theorem c_X5_availableCount (l : Launch) (D : va_G) (y : Nat → ClassId) (A : Nat → Nat) (F : (Nat → Int32)) (R : (Nat → Nat → Int32)) (a1 : Int32) (r : Int32) (hm : m5_availableCount F R a1 = some r) : Met l yX5_availableCount (wy_s yX5_availableCount cX5_availableCount 2 (some .int)) rm_X5_availableCount (pc_R D y [.ref (A 0), .int a1] (fun H => va_P D vwCl (w5_s y A F R) H)) (qc_R r) 0 0 (fun _ => False) := by
  refine met_R (by decide) (Nat.le_of_ble_eq_true rfl) ?_
  intro p e s m args below meth c X h0 ls hl
  have hP5 := h0
  replace hl : lv_has ls 2 [(0, .ref (A 0)), (1, .int a1)] := hl
  replace X : cx p s m args meth c cX5_availableCount 2 (some .int) RX5 D y := X
  unfold m5_availableCount at hm
  refine lv_aload_n (cx_x X) (cx_b X) dX5_availableCount_0 rfl (lv_at hl 0 rfl) ?_
  refine lv_iload_n (cx_x X) (cx_b X) dX5_availableCount_1 rfl (lv_at hl 1 rfl) ?_
  obtain ⟨v2, h1, hm⟩ := bnd hm
  refine af_R (rn_V (As := [.int a1]) (rest := []) X (c_X5_isCell l D y A F R a1  _ h1) vq_X5_119 ⟨rfl, rfl⟩ ⟨Nat.le_of_ble_eq_true rfl, Nat.le_of_ble_eq_true rfl⟩ (rec_5 X hP5) hP5 rfl hl.1 rfl (Nat.le_of_ble_eq_true rfl) dX5_availableCount_2 ⟨Nat.le_refl _, Nat.le_refl _⟩) ?_
  obtain ⟨qt4, hm, hmt4⟩ := bnd hm
  have Jt4 : ∀ (v3 : Int32) , m5_availableCount_J17 v3 = some r → ∀ ls, lv_has ls 2 [] → gr p l e rm_X5_availableCount s m args below meth c r (F0 m 17 ls [.int v3]) := by
    intro v3 hm ls hl
    unfold m5_availableCount_J17 at hm
    exact gr_i X hm dX5_availableCount_17
  refine lv_if_eq (tgt := 16) (cx_x X) (cx_b X) dX5_availableCount_5 (by decide) (fun c5 => ?_) (fun c5 => ?_)
  · replace hm := if_T c5 hm
    refine lv_iconst (v := (-1 : Int32)) (cx_x X) (cx_b X) dX5_availableCount_16 (by decide) ?_
    exact Jt4 _ (by cases hm; exact hmt4) _ (lv_sub hl [] rfl)
  · replace hm := if_F c5 hm
    refine lv_aload_n (cx_x X) (cx_b X) dX5_availableCount_8 rfl (lv_at hl 0 rfl) ?_
    refine lv_iload_n (cx_x X) (cx_b X) dX5_availableCount_9 rfl (lv_at hl 1 rfl) ?_
    obtain ⟨v7, h6, hm⟩ := bnd hm
    refine af_R (rn_V (As := [.int a1]) (rest := []) X (c_X5_availables l D y A F R a1  _ h6) vq_X5_81 ⟨rfl, rfl⟩ ⟨Nat.le_of_ble_eq_true rfl, Nat.le_of_ble_eq_true rfl⟩ (rec_5 X hP5) hP5 rfl hl.1 rfl (Nat.le_of_ble_eq_true rfl) dX5_availableCount_10 ⟨Nat.le_refl _, Nat.le_refl _⟩) ?_
    refine lv_goto (tgt := 17) (cx_x X) (cx_b X) dX5_availableCount_13 (by decide) ?_
    exact Jt4 _ (by cases hm; exact hmt4) _ (lv_sub hl [] rfl)
/-! X5_usedCount -/
def m5_usedCount_X45  (v7 : Int32) : Option Int32 :=
  some v7
def m5_usedCount_J37 (kkt4 : (Int32 × Int32) → Option Int32) (v5 : Int32) (v6 : Int32) (v13 : Int32) : Option Int32 :=
  kkt4 ((v5 + v13), (v6 + (1 : Int32)))
def m5_usedCount_L14 (F : (Nat → Int32)) (R : (Nat → Nat → Int32)) (a1 : Int32) (kkt4 : (Int32 × Int32) → Option Int32) (t0 : (Int32 × Int32)) : Option Int32 :=
  (m5_channels F R).bind fun v9 =>
  if v9 ≤ t0.2 then
  some t0.1
  else
  (m5_uses F R a1 t0.2).bind fun v12 =>
  (if v12 = 0 then
  some (0 : Int32)
  else
  some (1 : Int32)).bind fun v13 => m5_usedCount_J37 kkt4 t0.1 t0.2 v13
def m5_usedCount (F : (Nat → Int32)) (R : (Nat → Nat → Int32)) (a1 : Int32) : Option Int32 :=
  (m5_isCell F R a1).bind fun v2 =>
  if v2 = 0 then
  some (-1 : Int32)
  else
  (wh (m5_usedCount_L14 F R a1) 2000 ((0 : Int32), (0 : Int32))).bind fun v7 => m5_usedCount_X45 v7
abbrev rm_X5_usedCount : Room := { frames := 2, cells := 0, slots := 0, locals := 43 }
set_option maxHeartbeats 4000000 in
set_option maxRecDepth 100000 in
theorem c_X5_usedCount (l : Launch) (D : va_G) (y : Nat → ClassId) (A : Nat → Nat) (F : (Nat → Int32)) (R : (Nat → Nat → Int32)) (a1 : Int32) (r : Int32) (hm : m5_usedCount F R a1 = some r) : Met l yX5_usedCount (wy_s yX5_usedCount cX5_usedCount 4 (some .int)) rm_X5_usedCount (pc_R D y [.ref (A 0), .int a1] (fun H => va_P D vwCl (w5_s y A F R) H)) (qc_R r) 0 0 (fun _ => False) := by
  refine met_R (by decide) (Nat.le_of_ble_eq_true rfl) ?_
  intro p e s m args below meth c X h0 ls hl
  have hP5 := h0
  replace hl : lv_has ls 4 [(0, .ref (A 0)), (1, .int a1)] := hl
  replace X : cx p s m args meth c cX5_usedCount 4 (some .int) RX5 D y := X
  unfold m5_usedCount at hm
  refine lv_aload_n (cx_x X) (cx_b X) dX5_usedCount_0 rfl (lv_at hl 0 rfl) ?_
  refine lv_iload_n (cx_x X) (cx_b X) dX5_usedCount_1 rfl (lv_at hl 1 rfl) ?_
  obtain ⟨v2, h1, hm⟩ := bnd hm
  refine af_R (rn_V (As := [.int a1]) (rest := []) X (c_X5_isCell l D y A F R a1  _ h1) vq_X5_119 ⟨rfl, rfl⟩ ⟨Nat.le_of_ble_eq_true rfl, Nat.le_of_ble_eq_true rfl⟩ (rec_5 X hP5) hP5 rfl hl.1 rfl (Nat.le_of_ble_eq_true rfl) dX5_usedCount_2 ⟨Nat.le_refl _, Nat.le_refl _⟩) ?_
  refine lv_if_ne (tgt := 10) (cx_x X) (cx_b X) dX5_usedCount_5 (by decide) (fun c3 => ?_) (fun c3 => ?_)
  · replace hm := if_F c3 hm
    refine lv_iconst (v := (0 : Int32)) (cx_x X) (cx_b X) dX5_usedCount_10 (by decide) ?_
    refine lv_istore_n (lv' := [(2, .int (0 : Int32)), (0, .ref (A 0)), (1, .int a1)]) (cx_x X) (cx_b X) dX5_usedCount_11 rfl hl (by decide) rfl (fun ls hl => ?_)
    refine lv_iconst (v := (0 : Int32)) (cx_x X) (cx_b X) dX5_usedCount_12 (by decide) ?_
    refine lv_istore_n (lv' := [(3, .int (0 : Int32)), (2, .int (0 : Int32)), (0, .ref (A 0)), (1, .int a1)]) (cx_x X) (cx_b X) dX5_usedCount_13 rfl hl (by decide) rfl (fun ls hl => ?_)
    obtain ⟨qt4, hm, hmt4⟩ := bnd hm
    have Xt4 : ∀ (v7 : Int32) , m5_usedCount_X45 v7 = some r → ∀ ls, lv_has ls 4 [(2, .int v7)] → gr p l e rm_X5_usedCount s m args below meth c r (F0 m 45 ls []) := by
      intro v7 hm ls hl
      unfold m5_usedCount_X45 at hm
      refine lv_iload_n (cx_x X) (cx_b X) dX5_usedCount_45 rfl (lv_at hl 0 rfl) ?_
      exact gr_i X hm dX5_usedCount_46
    have Lt4 : ∀ (n : Nat) (v5 : Int32) (v6 : Int32) , wh (m5_usedCount_L14 F R a1) n (v5, v6) = some qt4 → ∀ ls, lv_has ls 4 [(0, .ref (A 0)), (1, .int a1), (2, .int v5), (3, .int v6)] → gr p l e rm_X5_usedCount s m args below meth c r (F0 m 14 ls []) := by
      intro n
      induction n with
      | zero => intro v5 v6 hm; cases hm
      | succ n ih =>
        intro v5 v6 hm ls hl
        replace hm : (m5_usedCount_L14 F R a1) (wh (m5_usedCount_L14 F R a1) n) (v5, v6) = some qt4 := hm
        dsimp only [m5_usedCount_L14] at hm
        refine lv_iload_n (cx_x X) (cx_b X) dX5_usedCount_14 rfl (lv_at hl 3 rfl) ?_
        refine lv_aload_n (cx_x X) (cx_b X) dX5_usedCount_15 rfl (lv_at hl 0 rfl) ?_
        obtain ⟨v9, h8, hm⟩ := bnd hm
        refine af_R (rn_V (As := []) (rest := [.int v6]) X (c_X5_channels l D y A F R  _ h8) vq_X5_48 ⟨rfl, rfl⟩ ⟨Nat.le_of_ble_eq_true rfl, Nat.le_of_ble_eq_true rfl⟩ (rec_5 X hP5) hP5 rfl hl.1 rfl (Nat.le_of_ble_eq_true rfl) dX5_usedCount_16 ⟨Nat.le_refl _, Nat.le_refl _⟩) ?_
        refine lv_icmp_ge (tgt := 45) (cx_x X) (cx_b X) dX5_usedCount_19 (by decide) (fun c10 => ?_) (fun c10 => ?_)
        · replace hm := if_T c10 hm
          exact Xt4 _ (by cases hm; exact hmt4) _ (lv_sub hl [2] rfl)
        · replace hm := if_F c10 hm
          refine lv_iload_n (cx_x X) (cx_b X) dX5_usedCount_22 rfl (lv_at hl 2 rfl) ?_
          refine lv_aload_n (cx_x X) (cx_b X) dX5_usedCount_23 rfl (lv_at hl 0 rfl) ?_
          refine lv_iload_n (cx_x X) (cx_b X) dX5_usedCount_24 rfl (lv_at hl 1 rfl) ?_
          refine lv_iload_n (cx_x X) (cx_b X) dX5_usedCount_25 rfl (lv_at hl 3 rfl) ?_
          obtain ⟨v12, h11, hm⟩ := bnd hm
          refine af_R (rn_V (As := [.int a1, .int v6]) (rest := [.int v5]) X (c_X5_uses l D y A F R a1 v6  _ h11) vq_X5_62 ⟨rfl, rfl⟩ ⟨Nat.le_of_ble_eq_true rfl, Nat.le_of_ble_eq_true rfl⟩ (rec_5 X hP5) hP5 rfl hl.1 rfl (Nat.le_of_ble_eq_true rfl) dX5_usedCount_26 ⟨Nat.le_refl _, Nat.le_refl _⟩) ?_
          obtain ⟨qt14, hm, hmt14⟩ := bnd hm
          have Jt14 : ∀ (v13 : Int32) , m5_usedCount_J37 (wh (m5_usedCount_L14 F R a1) n) v5 v6 v13 = some qt4 → ∀ ls, lv_has ls 4 [(0, .ref (A 0)), (1, .int a1), (3, .int v6)] → gr p l e rm_X5_usedCount s m args below meth c r (F0 m 37 ls [.int v13, .int v5]) := by
            intro v13 hm ls hl
            unfold m5_usedCount_J37 at hm
            refine lv_iadd (cx_x X) (cx_b X) dX5_usedCount_37 ?_
            refine lv_istore_n (lv' := [(2, .int (v5 + v13)), (0, .ref (A 0)), (1, .int a1), (3, .int v6)]) (cx_x X) (cx_b X) dX5_usedCount_38 rfl hl (by decide) rfl (fun ls hl => ?_)
            refine lv_iinc (v := (v6 + (1 : Int32))) (lv' := [(3, .int (v6 + (1 : Int32))), (2, .int (v5 + v13)), (0, .ref (A 0)), (1, .int a1)]) (cx_x X) (cx_b X) dX5_usedCount_39 hl (k := 3) rfl (by rfl) (by decide) rfl (fun ls hl => ?_)
            refine lv_goto (tgt := 14) (cx_x X) (cx_b X) dX5_usedCount_42 (by decide) ?_
            exact ih _ _ hm _ (lv_sub hl [2, 3, 1, 0] rfl)
          refine lv_if_eq (tgt := 36) (cx_x X) (cx_b X) dX5_usedCount_29 (by decide) (fun c15 => ?_) (fun c15 => ?_)
          · replace hm := if_T c15 hm
            refine lv_iconst (v := (0 : Int32)) (cx_x X) (cx_b X) dX5_usedCount_36 (by decide) ?_
            exact Jt14 _ (by cases hm; exact hmt14) _ (lv_sub hl [0, 1, 3] rfl)
          · replace hm := if_F c15 hm
            refine lv_iconst (v := (1 : Int32)) (cx_x X) (cx_b X) dX5_usedCount_32 (by decide) ?_
            refine lv_goto (tgt := 37) (cx_x X) (cx_b X) dX5_usedCount_33 (by decide) ?_
            exact Jt14 _ (by cases hm; exact hmt14) _ (lv_sub hl [0, 1, 3] rfl)
    exact Lt4 _ _ _ hm _ (lv_sub hl [2, 3, 1, 0] rfl)
  · replace hm := if_T c3 hm
    refine lv_iconst (v := (-1 : Int32)) (cx_x X) (cx_b X) dX5_usedCount_8 (by decide) ?_
    exact gr_i X hm dX5_usedCount_9
/-! X5_lockedCount -/
def m5_lockedCount_X63  (v7 : Int32) : Option Int32 :=
  some v7
def m5_lockedCount_J55 (kkt4 : (Int32 × Int32) → Option Int32) (v5 : Int32) (v6 : Int32) (v13 : Int32) : Option Int32 :=
  kkt4 ((v5 + v13), (v6 + (1 : Int32)))
def m5_lockedCount_L14 (F : (Nat → Int32)) (R : (Nat → Nat → Int32)) (a1 : Int32) (kkt4 : (Int32 × Int32) → Option Int32) (t0 : (Int32 × Int32)) : Option Int32 :=
  (m5_channels F R).bind fun v9 =>
  if v9 ≤ t0.2 then
  some t0.1
  else
  (m5_isNominal F R a1 t0.2).bind fun v12 =>
  (if v12 = 0 then
  some (0 : Int32)
  else
  (m5_uses F R a1 t0.2).bind fun v17 =>
  if v17 = 0 then
  (m5_locks F R a1 t0.2).bind fun v20 =>
  if v20 ≤ 0 then
  some (0 : Int32)
  else
  some (1 : Int32)
  else
  some (0 : Int32)).bind fun v13 => m5_lockedCount_J55 kkt4 t0.1 t0.2 v13
def m5_lockedCount (F : (Nat → Int32)) (R : (Nat → Nat → Int32)) (a1 : Int32) : Option Int32 :=
  (m5_isCell F R a1).bind fun v2 =>
  if v2 = 0 then
  some (-1 : Int32)
  else
  (wh (m5_lockedCount_L14 F R a1) 2000 ((0 : Int32), (0 : Int32))).bind fun v7 => m5_lockedCount_X63 v7
abbrev rm_X5_lockedCount : Room := { frames := 3, cells := 0, slots := 0, locals := 69 }
set_option maxHeartbeats 4000000 in
set_option maxRecDepth 100000 in
theorem c_X5_lockedCount (l : Launch) (D : va_G) (y : Nat → ClassId) (A : Nat → Nat) (F : (Nat → Int32)) (R : (Nat → Nat → Int32)) (a1 : Int32) (r : Int32) (hm : m5_lockedCount F R a1 = some r) : Met l yX5_lockedCount (wy_s yX5_lockedCount cX5_lockedCount 4 (some .int)) rm_X5_lockedCount (pc_R D y [.ref (A 0), .int a1] (fun H => va_P D vwCl (w5_s y A F R) H)) (qc_R r) 0 0 (fun _ => False) := by
  refine met_R (by decide) (Nat.le_of_ble_eq_true rfl) ?_
  intro p e s m args below meth c X h0 ls hl
  have hP5 := h0
  replace hl : lv_has ls 4 [(0, .ref (A 0)), (1, .int a1)] := hl
  replace X : cx p s m args meth c cX5_lockedCount 4 (some .int) RX5 D y := X
  unfold m5_lockedCount at hm
  refine lv_aload_n (cx_x X) (cx_b X) dX5_lockedCount_0 rfl (lv_at hl 0 rfl) ?_
  refine lv_iload_n (cx_x X) (cx_b X) dX5_lockedCount_1 rfl (lv_at hl 1 rfl) ?_
  obtain ⟨v2, h1, hm⟩ := bnd hm
  refine af_R (rn_V (As := [.int a1]) (rest := []) X (c_X5_isCell l D y A F R a1  _ h1) vq_X5_119 ⟨rfl, rfl⟩ ⟨Nat.le_of_ble_eq_true rfl, Nat.le_of_ble_eq_true rfl⟩ (rec_5 X hP5) hP5 rfl hl.1 rfl (Nat.le_of_ble_eq_true rfl) dX5_lockedCount_2 ⟨Nat.le_refl _, Nat.le_refl _⟩) ?_
  refine lv_if_ne (tgt := 10) (cx_x X) (cx_b X) dX5_lockedCount_5 (by decide) (fun c3 => ?_) (fun c3 => ?_)
  · replace hm := if_F c3 hm
    refine lv_iconst (v := (0 : Int32)) (cx_x X) (cx_b X) dX5_lockedCount_10 (by decide) ?_
    refine lv_istore_n (lv' := [(2, .int (0 : Int32)), (0, .ref (A 0)), (1, .int a1)]) (cx_x X) (cx_b X) dX5_lockedCount_11 rfl hl (by decide) rfl (fun ls hl => ?_)
    refine lv_iconst (v := (0 : Int32)) (cx_x X) (cx_b X) dX5_lockedCount_12 (by decide) ?_
    refine lv_istore_n (lv' := [(3, .int (0 : Int32)), (2, .int (0 : Int32)), (0, .ref (A 0)), (1, .int a1)]) (cx_x X) (cx_b X) dX5_lockedCount_13 rfl hl (by decide) rfl (fun ls hl => ?_)
    obtain ⟨qt4, hm, hmt4⟩ := bnd hm
    have Xt4 : ∀ (v7 : Int32) , m5_lockedCount_X63 v7 = some r → ∀ ls, lv_has ls 4 [(2, .int v7)] → gr p l e rm_X5_lockedCount s m args below meth c r (F0 m 63 ls []) := by
      intro v7 hm ls hl
      unfold m5_lockedCount_X63 at hm
      refine lv_iload_n (cx_x X) (cx_b X) dX5_lockedCount_63 rfl (lv_at hl 0 rfl) ?_
      exact gr_i X hm dX5_lockedCount_64
    have Lt4 : ∀ (n : Nat) (v5 : Int32) (v6 : Int32) , wh (m5_lockedCount_L14 F R a1) n (v5, v6) = some qt4 → ∀ ls, lv_has ls 4 [(0, .ref (A 0)), (1, .int a1), (2, .int v5), (3, .int v6)] → gr p l e rm_X5_lockedCount s m args below meth c r (F0 m 14 ls []) := by
      intro n
      induction n with
      | zero => intro v5 v6 hm; cases hm
      | succ n ih =>
        intro v5 v6 hm ls hl
        replace hm : (m5_lockedCount_L14 F R a1) (wh (m5_lockedCount_L14 F R a1) n) (v5, v6) = some qt4 := hm
        dsimp only [m5_lockedCount_L14] at hm
        refine lv_iload_n (cx_x X) (cx_b X) dX5_lockedCount_14 rfl (lv_at hl 3 rfl) ?_
        refine lv_aload_n (cx_x X) (cx_b X) dX5_lockedCount_15 rfl (lv_at hl 0 rfl) ?_
        obtain ⟨v9, h8, hm⟩ := bnd hm
        refine af_R (rn_V (As := []) (rest := [.int v6]) X (c_X5_channels l D y A F R  _ h8) vq_X5_48 ⟨rfl, rfl⟩ ⟨Nat.le_of_ble_eq_true rfl, Nat.le_of_ble_eq_true rfl⟩ (rec_5 X hP5) hP5 rfl hl.1 rfl (Nat.le_of_ble_eq_true rfl) dX5_lockedCount_16 ⟨Nat.le_refl _, Nat.le_refl _⟩) ?_
        refine lv_icmp_ge (tgt := 63) (cx_x X) (cx_b X) dX5_lockedCount_19 (by decide) (fun c10 => ?_) (fun c10 => ?_)
        · replace hm := if_T c10 hm
          exact Xt4 _ (by cases hm; exact hmt4) _ (lv_sub hl [2] rfl)
        · replace hm := if_F c10 hm
          refine lv_iload_n (cx_x X) (cx_b X) dX5_lockedCount_22 rfl (lv_at hl 2 rfl) ?_
          refine lv_aload_n (cx_x X) (cx_b X) dX5_lockedCount_23 rfl (lv_at hl 0 rfl) ?_
          refine lv_iload_n (cx_x X) (cx_b X) dX5_lockedCount_24 rfl (lv_at hl 1 rfl) ?_
          refine lv_iload_n (cx_x X) (cx_b X) dX5_lockedCount_25 rfl (lv_at hl 3 rfl) ?_
          obtain ⟨v12, h11, hm⟩ := bnd hm
          refine af_R (rn_V (As := [.int a1, .int v6]) (rest := [.int v5]) X (c_X5_isNominal l D y A F R a1 v6  _ h11) vq_X5_69 ⟨rfl, rfl⟩ ⟨Nat.le_of_ble_eq_true rfl, Nat.le_of_ble_eq_true rfl⟩ (rec_5 X hP5) hP5 rfl hl.1 rfl (Nat.le_of_ble_eq_true rfl) dX5_lockedCount_26 ⟨Nat.le_refl _, Nat.le_refl _⟩) ?_
          obtain ⟨qt14, hm, hmt14⟩ := bnd hm
          have Jt14 : ∀ (v13 : Int32) , m5_lockedCount_J55 (wh (m5_lockedCount_L14 F R a1) n) v5 v6 v13 = some qt4 → ∀ ls, lv_has ls 4 [(0, .ref (A 0)), (1, .int a1), (3, .int v6)] → gr p l e rm_X5_lockedCount s m args below meth c r (F0 m 55 ls [.int v13, .int v5]) := by
            intro v13 hm ls hl
            unfold m5_lockedCount_J55 at hm
            refine lv_iadd (cx_x X) (cx_b X) dX5_lockedCount_55 ?_
            refine lv_istore_n (lv' := [(2, .int (v5 + v13)), (0, .ref (A 0)), (1, .int a1), (3, .int v6)]) (cx_x X) (cx_b X) dX5_lockedCount_56 rfl hl (by decide) rfl (fun ls hl => ?_)
            refine lv_iinc (v := (v6 + (1 : Int32))) (lv' := [(3, .int (v6 + (1 : Int32))), (2, .int (v5 + v13)), (0, .ref (A 0)), (1, .int a1)]) (cx_x X) (cx_b X) dX5_lockedCount_57 hl (k := 3) rfl (by rfl) (by decide) rfl (fun ls hl => ?_)
            refine lv_goto (tgt := 14) (cx_x X) (cx_b X) dX5_lockedCount_60 (by decide) ?_
            exact ih _ _ hm _ (lv_sub hl [2, 3, 1, 0] rfl)
          refine lv_if_eq (tgt := 54) (cx_x X) (cx_b X) dX5_lockedCount_29 (by decide) (fun c15 => ?_) (fun c15 => ?_)
          · replace hm := if_T c15 hm
            refine lv_iconst (v := (0 : Int32)) (cx_x X) (cx_b X) dX5_lockedCount_54 (by decide) ?_
            exact Jt14 _ (by cases hm; exact hmt14) _ (lv_sub hl [0, 1, 3] rfl)
          · replace hm := if_F c15 hm
            refine lv_aload_n (cx_x X) (cx_b X) dX5_lockedCount_32 rfl (lv_at hl 0 rfl) ?_
            refine lv_iload_n (cx_x X) (cx_b X) dX5_lockedCount_33 rfl (lv_at hl 1 rfl) ?_
            refine lv_iload_n (cx_x X) (cx_b X) dX5_lockedCount_34 rfl (lv_at hl 3 rfl) ?_
            obtain ⟨v17, h16, hm⟩ := bnd hm
            refine af_R (rn_V (As := [.int a1, .int v6]) (rest := [.int v5]) X (c_X5_uses l D y A F R a1 v6  _ h16) vq_X5_62 ⟨rfl, rfl⟩ ⟨Nat.le_of_ble_eq_true rfl, Nat.le_of_ble_eq_true rfl⟩ (rec_5 X hP5) hP5 rfl hl.1 rfl (Nat.le_of_ble_eq_true rfl) dX5_lockedCount_35 ⟨Nat.le_refl _, Nat.le_refl _⟩) ?_
            refine lv_if_ne (tgt := 54) (cx_x X) (cx_b X) dX5_lockedCount_38 (by decide) (fun c18 => ?_) (fun c18 => ?_)
            · replace hm := if_F c18 hm
              refine lv_iconst (v := (0 : Int32)) (cx_x X) (cx_b X) dX5_lockedCount_54 (by decide) ?_
              exact Jt14 _ (by cases hm; exact hmt14) _ (lv_sub hl [0, 1, 3] rfl)
            · replace hm := if_T c18 hm
              refine lv_aload_n (cx_x X) (cx_b X) dX5_lockedCount_41 rfl (lv_at hl 0 rfl) ?_
              refine lv_iload_n (cx_x X) (cx_b X) dX5_lockedCount_42 rfl (lv_at hl 1 rfl) ?_
              refine lv_iload_n (cx_x X) (cx_b X) dX5_lockedCount_43 rfl (lv_at hl 3 rfl) ?_
              obtain ⟨v20, h19, hm⟩ := bnd hm
              refine af_R (rn_V (As := [.int a1, .int v6]) (rest := [.int v5]) X (c_X5_locks l D y A F R a1 v6  _ h19) vq_X5_66 ⟨rfl, rfl⟩ ⟨Nat.le_of_ble_eq_true rfl, Nat.le_of_ble_eq_true rfl⟩ (rec_5 X hP5) hP5 rfl hl.1 rfl (Nat.le_of_ble_eq_true rfl) dX5_lockedCount_44 ⟨Nat.le_refl _, Nat.le_refl _⟩) ?_
              refine lv_if_le (tgt := 54) (cx_x X) (cx_b X) dX5_lockedCount_47 (by decide) (fun c21 => ?_) (fun c21 => ?_)
              · replace hm := if_T c21 hm
                refine lv_iconst (v := (0 : Int32)) (cx_x X) (cx_b X) dX5_lockedCount_54 (by decide) ?_
                exact Jt14 _ (by cases hm; exact hmt14) _ (lv_sub hl [0, 1, 3] rfl)
              · replace hm := if_F c21 hm
                refine lv_iconst (v := (1 : Int32)) (cx_x X) (cx_b X) dX5_lockedCount_50 (by decide) ?_
                refine lv_goto (tgt := 55) (cx_x X) (cx_b X) dX5_lockedCount_51 (by decide) ?_
                exact Jt14 _ (by cases hm; exact hmt14) _ (lv_sub hl [0, 1, 3] rfl)
    exact Lt4 _ _ _ hm _ (lv_sub hl [2, 3, 1, 0] rfl)
  · replace hm := if_T c3 hm
    refine lv_iconst (v := (-1 : Int32)) (cx_x X) (cx_b X) dX5_lockedCount_8 (by decide) ?_
    exact gr_i X hm dX5_lockedCount_9
/-! X5_callCount -/
def m5_callCount (F : (Nat → Int32)) (R : (Nat → Nat → Int32)) : Option Int32 :=
  (m5_calls F R).bind fun v2 =>
  some v2
abbrev rm_X5_callCount : Room := { frames := 1, cells := 0, slots := 0, locals := 22 }
set_option maxHeartbeats 4000000 in
set_option maxRecDepth 100000 in
theorem c_X5_callCount (l : Launch) (D : va_G) (y : Nat → ClassId) (A : Nat → Nat) (F : (Nat → Int32)) (R : (Nat → Nat → Int32)) (r : Int32) (hm : m5_callCount F R = some r) : Met l yX5_callCount (wy_s yX5_callCount cX5_callCount 1 (some .int)) rm_X5_callCount (pc_R D y [.ref (A 0)] (fun H => va_P D vwCl (w5_s y A F R) H)) (qc_R r) 0 0 (fun _ => False) := by
  refine met_R (by decide) (Nat.le_of_ble_eq_true rfl) ?_
  intro p e s m args below meth c X h0 ls hl
  have hP5 := h0
  replace hl : lv_has ls 1 [(0, .ref (A 0))] := hl
  replace X : cx p s m args meth c cX5_callCount 1 (some .int) RX5 D y := X
  unfold m5_callCount at hm
  refine lv_aload_n (cx_x X) (cx_b X) dX5_callCount_0 rfl (lv_at hl 0 rfl) ?_
  obtain ⟨v2, h1, hm⟩ := bnd hm
  refine af_R (rn_V (As := []) (rest := []) X (c_X5_calls l D y A F R  _ h1) vq_X5_38 ⟨rfl, rfl⟩ ⟨Nat.le_of_ble_eq_true rfl, Nat.le_of_ble_eq_true rfl⟩ (rec_5 X hP5) hP5 rfl hl.1 rfl (Nat.le_of_ble_eq_true rfl) dX5_callCount_1 ⟨Nat.le_refl _, Nat.le_refl _⟩) ?_
  exact gr_i X hm dX5_callCount_4
/-! X5_attempts -/
def m5_attempts (F : (Nat → Int32)) (R : (Nat → Nat → Int32)) : Option Int32 :=
  some (R 0 (7 : Int32).toNatClampNeg)
abbrev rm_X5_attempts : Room := { frames := 0, cells := 0, slots := 0, locals := 0 }
set_option maxHeartbeats 4000000 in
set_option maxRecDepth 100000 in
theorem c_X5_attempts (l : Launch) (D : va_G) (y : Nat → ClassId) (A : Nat → Nat) (F : (Nat → Int32)) (R : (Nat → Nat → Int32)) (r : Int32) (hm : m5_attempts F R = some r) : Met l yX5_attempts (wy_s yX5_attempts cX5_attempts 1 (some .int)) rm_X5_attempts (pc_R D y [.ref (A 0)] (fun H => va_P D vwCl (w5_s y A F R) H)) (qc_R r) 0 0 (fun _ => False) := by
  refine met_R (by decide) (Nat.le_of_ble_eq_true rfl) ?_
  intro p e s m args below meth c X h0 ls hl
  have hP5 := h0
  replace hl : lv_has ls 1 [(0, .ref (A 0))] := hl
  replace X : cx p s m args meth c cX5_attempts 1 (some .int) RX5 D y := X
  unfold m5_attempts at hm
  refine lv_aload_n (cx_x X) (cx_b X) dX5_attempts_0 rfl (lv_at hl 0 rfl) ?_
  refine gf_X5_7 X hP5 dX5_attempts_1 ?_
  refine lv_bipush (v := (7 : Int32)) (cx_x X) (cx_b X) dX5_attempts_4 (by decide) ?_
  refine ld_5_0 X hP5 (by decide) dX5_attempts_6 ?_
  exact gr_i X hm dX5_attempts_7
/-! X5_blocked -/
def m5_blocked (F : (Nat → Int32)) (R : (Nat → Nat → Int32)) : Option Int32 :=
  some (R 0 (8 : Int32).toNatClampNeg)
abbrev rm_X5_blocked : Room := { frames := 0, cells := 0, slots := 0, locals := 0 }
set_option maxHeartbeats 4000000 in
set_option maxRecDepth 100000 in
theorem c_X5_blocked (l : Launch) (D : va_G) (y : Nat → ClassId) (A : Nat → Nat) (F : (Nat → Int32)) (R : (Nat → Nat → Int32)) (r : Int32) (hm : m5_blocked F R = some r) : Met l yX5_blocked (wy_s yX5_blocked cX5_blocked 1 (some .int)) rm_X5_blocked (pc_R D y [.ref (A 0)] (fun H => va_P D vwCl (w5_s y A F R) H)) (qc_R r) 0 0 (fun _ => False) := by
  refine met_R (by decide) (Nat.le_of_ble_eq_true rfl) ?_
  intro p e s m args below meth c X h0 ls hl
  have hP5 := h0
  replace hl : lv_has ls 1 [(0, .ref (A 0))] := hl
  replace X : cx p s m args meth c cX5_blocked 1 (some .int) RX5 D y := X
  unfold m5_blocked at hm
  refine lv_aload_n (cx_x X) (cx_b X) dX5_blocked_0 rfl (lv_at hl 0 rfl) ?_
  refine gf_X5_7 X hP5 dX5_blocked_1 ?_
  refine lv_bipush (v := (8 : Int32)) (cx_x X) (cx_b X) dX5_blocked_4 (by decide) ?_
  refine ld_5_0 X hP5 (by decide) dX5_blocked_6 ?_
  exact gr_i X hm dX5_blocked_7
/-! X5_blockedInFixedScheme -/
def m5_blockedInFixedScheme (F : (Nat → Int32)) (R : (Nat → Nat → Int32)) : Option Int32 :=
  some (R 0 (9 : Int32).toNatClampNeg)
abbrev rm_X5_blockedInFixedScheme : Room := { frames := 0, cells := 0, slots := 0, locals := 0 }
set_option maxHeartbeats 4000000 in
set_option maxRecDepth 100000 in
theorem c_X5_blockedInFixedScheme (l : Launch) (D : va_G) (y : Nat → ClassId) (A : Nat → Nat) (F : (Nat → Int32)) (R : (Nat → Nat → Int32)) (r : Int32) (hm : m5_blockedInFixedScheme F R = some r) : Met l yX5_blockedInFixedScheme (wy_s yX5_blockedInFixedScheme cX5_blockedInFixedScheme 1 (some .int)) rm_X5_blockedInFixedScheme (pc_R D y [.ref (A 0)] (fun H => va_P D vwCl (w5_s y A F R) H)) (qc_R r) 0 0 (fun _ => False) := by
  refine met_R (by decide) (Nat.le_of_ble_eq_true rfl) ?_
  intro p e s m args below meth c X h0 ls hl
  have hP5 := h0
  replace hl : lv_has ls 1 [(0, .ref (A 0))] := hl
  replace X : cx p s m args meth c cX5_blockedInFixedScheme 1 (some .int) RX5 D y := X
  unfold m5_blockedInFixedScheme at hm
  refine lv_aload_n (cx_x X) (cx_b X) dX5_blockedInFixedScheme_0 rfl (lv_at hl 0 rfl) ?_
  refine gf_X5_7 X hP5 dX5_blockedInFixedScheme_1 ?_
  refine lv_bipush (v := (9 : Int32)) (cx_x X) (cx_b X) dX5_blockedInFixedScheme_4 (by decide) ?_
  refine ld_5_0 X hP5 (by decide) dX5_blockedInFixedScheme_6 ?_
  exact gr_i X hm dX5_blockedInFixedScheme_7
/-! X5_dropped -/
def m5_dropped (F : (Nat → Int32)) (R : (Nat → Nat → Int32)) : Option Int32 :=
  some (R 0 (10 : Int32).toNatClampNeg)
abbrev rm_X5_dropped : Room := { frames := 0, cells := 0, slots := 0, locals := 0 }
set_option maxHeartbeats 4000000 in
set_option maxRecDepth 100000 in
theorem c_X5_dropped (l : Launch) (D : va_G) (y : Nat → ClassId) (A : Nat → Nat) (F : (Nat → Int32)) (R : (Nat → Nat → Int32)) (r : Int32) (hm : m5_dropped F R = some r) : Met l yX5_dropped (wy_s yX5_dropped cX5_dropped 1 (some .int)) rm_X5_dropped (pc_R D y [.ref (A 0)] (fun H => va_P D vwCl (w5_s y A F R) H)) (qc_R r) 0 0 (fun _ => False) := by
  refine met_R (by decide) (Nat.le_of_ble_eq_true rfl) ?_
  intro p e s m args below meth c X h0 ls hl
  have hP5 := h0
  replace hl : lv_has ls 1 [(0, .ref (A 0))] := hl
  replace X : cx p s m args meth c cX5_dropped 1 (some .int) RX5 D y := X
  unfold m5_dropped at hm
  refine lv_aload_n (cx_x X) (cx_b X) dX5_dropped_0 rfl (lv_at hl 0 rfl) ?_
  refine gf_X5_7 X hP5 dX5_dropped_1 ?_
  refine lv_bipush (v := (10 : Int32)) (cx_x X) (cx_b X) dX5_dropped_4 (by decide) ?_
  refine ld_5_0 X hP5 (by decide) dX5_dropped_6 ?_
  exact gr_i X hm dX5_dropped_7
/-! X5_droppedInFixedScheme -/
def m5_droppedInFixedScheme (F : (Nat → Int32)) (R : (Nat → Nat → Int32)) : Option Int32 :=
  some (R 0 (11 : Int32).toNatClampNeg)
abbrev rm_X5_droppedInFixedScheme : Room := { frames := 0, cells := 0, slots := 0, locals := 0 }
set_option maxHeartbeats 4000000 in
set_option maxRecDepth 100000 in
theorem c_X5_droppedInFixedScheme (l : Launch) (D : va_G) (y : Nat → ClassId) (A : Nat → Nat) (F : (Nat → Int32)) (R : (Nat → Nat → Int32)) (r : Int32) (hm : m5_droppedInFixedScheme F R = some r) : Met l yX5_droppedInFixedScheme (wy_s yX5_droppedInFixedScheme cX5_droppedInFixedScheme 1 (some .int)) rm_X5_droppedInFixedScheme (pc_R D y [.ref (A 0)] (fun H => va_P D vwCl (w5_s y A F R) H)) (qc_R r) 0 0 (fun _ => False) := by
  refine met_R (by decide) (Nat.le_of_ble_eq_true rfl) ?_
  intro p e s m args below meth c X h0 ls hl
  have hP5 := h0
  replace hl : lv_has ls 1 [(0, .ref (A 0))] := hl
  replace X : cx p s m args meth c cX5_droppedInFixedScheme 1 (some .int) RX5 D y := X
  unfold m5_droppedInFixedScheme at hm
  refine lv_aload_n (cx_x X) (cx_b X) dX5_droppedInFixedScheme_0 rfl (lv_at hl 0 rfl) ?_
  refine gf_X5_7 X hP5 dX5_droppedInFixedScheme_1 ?_
  refine lv_bipush (v := (11 : Int32)) (cx_x X) (cx_b X) dX5_droppedInFixedScheme_4 (by decide) ?_
  refine ld_5_0 X hP5 (by decide) dX5_droppedInFixedScheme_6 ?_
  exact gr_i X hm dX5_droppedInFixedScheme_7
/-! X5_borrowings -/
def m5_borrowings (F : (Nat → Int32)) (R : (Nat → Nat → Int32)) : Option Int32 :=
  some (R 0 (12 : Int32).toNatClampNeg)
abbrev rm_X5_borrowings : Room := { frames := 0, cells := 0, slots := 0, locals := 0 }
set_option maxHeartbeats 4000000 in
set_option maxRecDepth 100000 in
theorem c_X5_borrowings (l : Launch) (D : va_G) (y : Nat → ClassId) (A : Nat → Nat) (F : (Nat → Int32)) (R : (Nat → Nat → Int32)) (r : Int32) (hm : m5_borrowings F R = some r) : Met l yX5_borrowings (wy_s yX5_borrowings cX5_borrowings 1 (some .int)) rm_X5_borrowings (pc_R D y [.ref (A 0)] (fun H => va_P D vwCl (w5_s y A F R) H)) (qc_R r) 0 0 (fun _ => False) := by
  refine met_R (by decide) (Nat.le_of_ble_eq_true rfl) ?_
  intro p e s m args below meth c X h0 ls hl
  have hP5 := h0
  replace hl : lv_has ls 1 [(0, .ref (A 0))] := hl
  replace X : cx p s m args meth c cX5_borrowings 1 (some .int) RX5 D y := X
  unfold m5_borrowings at hm
  refine lv_aload_n (cx_x X) (cx_b X) dX5_borrowings_0 rfl (lv_at hl 0 rfl) ?_
  refine gf_X5_7 X hP5 dX5_borrowings_1 ?_
  refine lv_bipush (v := (12 : Int32)) (cx_x X) (cx_b X) dX5_borrowings_4 (by decide) ?_
  refine ld_5_0 X hP5 (by decide) dX5_borrowings_6 ?_
  exact gr_i X hm dX5_borrowings_7
/-! X5_returns -/
def m5_returns (F : (Nat → Int32)) (R : (Nat → Nat → Int32)) : Option Int32 :=
  some (R 0 (13 : Int32).toNatClampNeg)
abbrev rm_X5_returns : Room := { frames := 0, cells := 0, slots := 0, locals := 0 }
set_option maxHeartbeats 4000000 in
set_option maxRecDepth 100000 in
theorem c_X5_returns (l : Launch) (D : va_G) (y : Nat → ClassId) (A : Nat → Nat) (F : (Nat → Int32)) (R : (Nat → Nat → Int32)) (r : Int32) (hm : m5_returns F R = some r) : Met l yX5_returns (wy_s yX5_returns cX5_returns 1 (some .int)) rm_X5_returns (pc_R D y [.ref (A 0)] (fun H => va_P D vwCl (w5_s y A F R) H)) (qc_R r) 0 0 (fun _ => False) := by
  refine met_R (by decide) (Nat.le_of_ble_eq_true rfl) ?_
  intro p e s m args below meth c X h0 ls hl
  have hP5 := h0
  replace hl : lv_has ls 1 [(0, .ref (A 0))] := hl
  replace X : cx p s m args meth c cX5_returns 1 (some .int) RX5 D y := X
  unfold m5_returns at hm
  refine lv_aload_n (cx_x X) (cx_b X) dX5_returns_0 rfl (lv_at hl 0 rfl) ?_
  refine gf_X5_7 X hP5 dX5_returns_1 ?_
  refine lv_bipush (v := (13 : Int32)) (cx_x X) (cx_b X) dX5_returns_4 (by decide) ?_
  refine ld_5_0 X hP5 (by decide) dX5_returns_6 ?_
  exact gr_i X hm dX5_returns_7
/-! X5_here -/
def m5_here_J28  (v1 : Int32) : Option Int32 :=
  some v1
def m5_here (F : (Nat → Int32)) (R : (Nat → Nat → Int32)) : Option Int32 :=
  (if (F 6) ≤ (F 9) then
  some (-1 : Int32)
  else
  if inb (F 9) 100 then
  some ((R 4 (F 9).toNatClampNeg) &&& (255 : Int32)) else none).bind fun v1 => m5_here_J28 v1
abbrev rm_X5_here : Room := { frames := 0, cells := 0, slots := 0, locals := 0 }
set_option maxHeartbeats 4000000 in
set_option maxRecDepth 100000 in
theorem c_X5_here (l : Launch) (D : va_G) (y : Nat → ClassId) (A : Nat → Nat) (F : (Nat → Int32)) (R : (Nat → Nat → Int32)) (r : Int32) (hm : m5_here F R = some r) : Met l yX5_here (wy_s yX5_here cX5_here 1 (some .int)) rm_X5_here (pc_R D y [.ref (A 0)] (fun H => va_P D vwCl (w5_s y A F R) H)) (qc_R r) 0 0 (fun _ => False) := by
  refine met_R (by decide) (Nat.le_of_ble_eq_true rfl) ?_
  intro p e s m args below meth c X h0 ls hl
  have hP5 := h0
  replace hl : lv_has ls 1 [(0, .ref (A 0))] := hl
  replace X : cx p s m args meth c cX5_here 1 (some .int) RX5 D y := X
  unfold m5_here at hm
  refine lv_aload_n (cx_x X) (cx_b X) dX5_here_0 rfl (lv_at hl 0 rfl) ?_
  refine gf_X5_144 X hP5 dX5_here_1 ?_
  refine lv_aload_n (cx_x X) (cx_b X) dX5_here_4 rfl (lv_at hl 0 rfl) ?_
  refine gf_X5_141 X hP5 dX5_here_5 ?_
  obtain ⟨qt2, hm, hmt2⟩ := bnd hm
  have Jt2 : ∀ (v1 : Int32) , m5_here_J28 v1 = some r → ∀ ls, lv_has ls 1 [] → gr p l e rm_X5_here s m args below meth c r (F0 m 28 ls [.int v1]) := by
    intro v1 hm ls hl
    unfold m5_here_J28 at hm
    exact gr_i X hm dX5_here_28
  refine lv_icmp_ge (tgt := 27) (cx_x X) (cx_b X) dX5_here_8 (by decide) (fun c3 => ?_) (fun c3 => ?_)
  · replace hm := if_T c3 hm
    refine lv_iconst (v := (-1 : Int32)) (cx_x X) (cx_b X) dX5_here_27 (by decide) ?_
    exact Jt2 _ (by cases hm; exact hmt2) _ (lv_sub hl [] rfl)
  · replace hm := if_F c3 hm
    refine lv_aload_n (cx_x X) (cx_b X) dX5_here_11 rfl (lv_at hl 0 rfl) ?_
    refine gf_X5_23 X hP5 dX5_here_12 ?_
    refine lv_aload_n (cx_x X) (cx_b X) dX5_here_15 rfl (lv_at hl 0 rfl) ?_
    refine gf_X5_144 X hP5 dX5_here_16 ?_
    obtain ⟨h4, hm⟩ := ck_E hm
    refine ld_5_4 X hP5 h4 dX5_here_19 ?_
    refine lv_sipush (v := (255 : Int32)) (cx_x X) (cx_b X) dX5_here_20 (by decide) ?_
    refine lv_iand (cx_x X) (cx_b X) dX5_here_23 ?_
    refine lv_goto (tgt := 28) (cx_x X) (cx_b X) dX5_here_24 (by decide) ?_
    exact Jt2 _ (by cases hm; exact hmt2) _ (lv_sub hl [] rfl)
