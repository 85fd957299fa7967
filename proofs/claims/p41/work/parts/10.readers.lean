/-! X1_channelsOfGroup -/
def m1_channelsOfGroup_X31  (v4 : Int32) : Option Int32 :=
  some v4
def m1_channelsOfGroup_L5 (G : (Nat → Int32)) (a1 : Int32) (a2 : Int32) (kkt1 : (Int32 × Int32) → Option Int32) (t0 : (Int32 × Int32)) : Option Int32 :=
  if (G 2) ≤ t0.2 then
  some t0.1
  else
  lt_ (t0.1 ||| ((1 : Int32) <<< ((a1 + (t0.2 * a2)) &&& 31))) fun v6 =>
  kkt1 (v6, (t0.2 + (1 : Int32)))
def m1_channelsOfGroup (G : (Nat → Int32)) (Q : (Nat → Nat → Int32)) (a1 : Int32) (a2 : Int32) : Option Int32 :=
  (wh (m1_channelsOfGroup_L5 G a1 a2) 2000 ((0 : Int32), (0 : Int32))).bind fun v4 => m1_channelsOfGroup_X31 v4
abbrev rm_X1_channelsOfGroup : Room := { frames := 0, cells := 0, slots := 0, locals := 0 }
set_option maxHeartbeats 4000000 in
set_option maxRecDepth 100000 in
theorem c_X1_channelsOfGroup (l : Launch) (D : va_G) (y : Nat → ClassId) (B : Nat → Nat) (G : (Nat → Int32)) (Q : (Nat → Nat → Int32)) (a1 : Int32) (a2 : Int32) (r : Int32) (hm : m1_channelsOfGroup G Q a1 a2 = some r) : Met l yX1_channelsOfGroup (wy_s yX1_channelsOfGroup cX1_channelsOfGroup 5 (some .int)) rm_X1_channelsOfGroup (pc_R D y [.ref (B 0), .int a1, .int a2] (fun H => va_P D vwCl (w1_s y B G Q) H)) (qc_R r) 0 0 (fun _ => False) := by
  refine met_R (by decide) (Nat.le_of_ble_eq_true rfl) ?_
  intro p e s m args below meth c X h0 ls hl
  have hP1 := h0
  replace hl : lv_has ls 5 [(0, .ref (B 0)), (1, .int a1), (2, .int a2)] := hl
  replace X : cx p s m args meth c cX1_channelsOfGroup 5 (some .int) RX1 D y := X
  unfold m1_channelsOfGroup at hm
  refine lv_iconst (v := (0 : Int32)) (cx_x X) (cx_b X) dX1_channelsOfGroup_0 (by decide) ?_
  refine lv_istore_n (lv' := [(3, .int (0 : Int32)), (0, .ref (B 0)), (1, .int a1), (2, .int a2)]) (cx_x X) (cx_b X) dX1_channelsOfGroup_1 rfl hl (by decide) rfl (fun ls hl => ?_)
  refine lv_iconst (v := (0 : Int32)) (cx_x X) (cx_b X) dX1_channelsOfGroup_2 (by decide) ?_
  refine lv_istore (lv' := [(4, .int (0 : Int32)), (3, .int (0 : Int32)), (0, .ref (B 0)), (1, .int a1), (2, .int a2)]) (cx_x X) (cx_b X) dX1_channelsOfGroup_3 hl (by decide) rfl (fun ls hl => ?_)
  obtain ⟨qt1, hm, hmt1⟩ := bnd hm
  have Xt1 : ∀ (v4 : Int32) , m1_channelsOfGroup_X31 v4 = some r → ∀ ls, lv_has ls 5 [(3, .int v4)] → gr p l e rm_X1_channelsOfGroup s m args below meth c r (F0 m 31 ls []) := by
    intro v4 hm ls hl
    unfold m1_channelsOfGroup_X31 at hm
    refine lv_iload_n (cx_x X) (cx_b X) dX1_channelsOfGroup_31 rfl (lv_at hl 0 rfl) ?_
    exact gr_i X hm dX1_channelsOfGroup_32
  have Lt1 : ∀ (n : Nat) (v2 : Int32) (v3 : Int32) , wh (m1_channelsOfGroup_L5 G a1 a2) n (v2, v3) = some qt1 → ∀ ls, lv_has ls 5 [(0, .ref (B 0)), (1, .int a1), (2, .int a2), (3, .int v2), (4, .int v3)] → gr p l e rm_X1_channelsOfGroup s m args below meth c r (F0 m 5 ls []) := by
    intro n
    induction n with
    | zero => intro v2 v3 hm; cases hm
    | succ n ih =>
      intro v2 v3 hm ls hl
      replace hm : (m1_channelsOfGroup_L5 G a1 a2) (wh (m1_channelsOfGroup_L5 G a1 a2) n) (v2, v3) = some qt1 := hm
      dsimp only [m1_channelsOfGroup_L5] at hm
      refine lv_iload (cx_x X) (cx_b X) dX1_channelsOfGroup_5 (lv_at hl 4 rfl) ?_
      refine lv_aload_n (cx_x X) (cx_b X) dX1_channelsOfGroup_7 rfl (lv_at hl 0 rfl) ?_
      refine gf_X1_34 X hP1 dX1_channelsOfGroup_8 ?_
      refine lv_icmp_ge (tgt := 31) (cx_x X) (cx_b X) dX1_channelsOfGroup_11 (by decide) (fun c5 => ?_) (fun c5 => ?_)
      · replace hm := if_T c5 hm
        exact Xt1 _ (by cases hm; exact hmt1) _ (lv_sub hl [3] rfl)
      · replace hm := if_F c5 hm
        refine lv_iload_n (cx_x X) (cx_b X) dX1_channelsOfGroup_14 rfl (lv_at hl 3 rfl) ?_
        refine lv_iconst (v := (1 : Int32)) (cx_x X) (cx_b X) dX1_channelsOfGroup_15 (by decide) ?_
        refine lv_iload_n (cx_x X) (cx_b X) dX1_channelsOfGroup_16 rfl (lv_at hl 1 rfl) ?_
        refine lv_iload (cx_x X) (cx_b X) dX1_channelsOfGroup_17 (lv_at hl 4 rfl) ?_
        refine lv_iload_n (cx_x X) (cx_b X) dX1_channelsOfGroup_19 rfl (lv_at hl 2 rfl) ?_
        refine lv_imul (cx_x X) (cx_b X) dX1_channelsOfGroup_20 ?_
        refine lv_iadd (cx_x X) (cx_b X) dX1_channelsOfGroup_21 ?_
        refine lv_ishl (cx_x X) (cx_b X) dX1_channelsOfGroup_22 ?_
        refine lv_ior (cx_x X) (cx_b X) dX1_channelsOfGroup_23 ?_
        obtain ⟨v6, ev6, hm⟩ := lt_E hm
        refine lv_eqi ev6 ?_
        refine lv_istore_n (lv' := [(3, .int v6), (0, .ref (B 0)), (1, .int a1), (2, .int a2), (4, .int v3)]) (cx_x X) (cx_b X) dX1_channelsOfGroup_24 rfl hl (by decide) rfl (fun ls hl => ?_)
        refine lv_iinc (v := (v3 + (1 : Int32))) (lv' := [(4, .int (v3 + (1 : Int32))), (3, .int v6), (0, .ref (B 0)), (1, .int a1), (2, .int a2)]) (cx_x X) (cx_b X) dX1_channelsOfGroup_25 hl (k := 4) rfl (by rfl) (by decide) rfl (fun ls hl => ?_)
        refine lv_goto (tgt := 5) (cx_x X) (cx_b X) dX1_channelsOfGroup_28 (by decide) ?_
        exact ih _ _ hm _ (lv_sub hl [2, 3, 4, 1, 0] rfl)
  exact Lt1 _ _ _ hm _ (lv_sub hl [2, 3, 4, 1, 0] rfl)
/-! X1_hasCell -/
def m1_hasCell_J23  (v1 : Int32) : Option Int32 :=
  if v1 &&& 1 = v1 then some v1 else none
def m1_hasCell (G : (Nat → Int32)) (Q : (Nat → Nat → Int32)) (a1 : Int32) : Option Int32 :=
  (if a1 < 0 then
  some (0 : Int32)
  else
  if (G 0) ≤ a1 then
  some (0 : Int32)
  else
  if (25 : Int32) ≤ a1 then
  some (0 : Int32)
  else
  some (1 : Int32)).bind fun v1 => m1_hasCell_J23 v1
abbrev rm_X1_hasCell : Room := { frames := 0, cells := 0, slots := 0, locals := 0 }
set_option maxHeartbeats 4000000 in
set_option maxRecDepth 100000 in
theorem c_X1_hasCell (l : Launch) (D : va_G) (y : Nat → ClassId) (B : Nat → Nat) (G : (Nat → Int32)) (Q : (Nat → Nat → Int32)) (a1 : Int32) (r : Int32) (hm : m1_hasCell G Q a1 = some r) : Met l yX1_hasCell (wy_s yX1_hasCell cX1_hasCell 2 (some .boolean)) rm_X1_hasCell (pc_R D y [.ref (B 0), .int a1] (fun H => va_P D vwCl (w1_s y B G Q) H)) (qc_R r) 0 0 (fun _ => False) := by
  refine met_R (by decide) (Nat.le_of_ble_eq_true rfl) ?_
  intro p e s m args below meth c X h0 ls hl
  have hP1 := h0
  replace hl : lv_has ls 2 [(0, .ref (B 0)), (1, .int a1)] := hl
  replace X : cx p s m args meth c cX1_hasCell 2 (some .boolean) RX1 D y := X
  unfold m1_hasCell at hm
  refine lv_iload_n (cx_x X) (cx_b X) dX1_hasCell_0 rfl (lv_at hl 1 rfl) ?_
  obtain ⟨qt2, hm, hmt2⟩ := bnd hm
  have Jt2 : ∀ (v1 : Int32) , m1_hasCell_J23 v1 = some r → ∀ ls, lv_has ls 2 [] → gr p l e rm_X1_hasCell s m args below meth c r (F0 m 23 ls [.int v1]) := by
    intro v1 hm ls hl
    unfold m1_hasCell_J23 at hm
    obtain ⟨h0, hm⟩ := ck_E hm
    exact gr_z X h0 hm dX1_hasCell_23
  refine lv_if_lt (tgt := 22) (cx_x X) (cx_b X) dX1_hasCell_1 (by decide) (fun c3 => ?_) (fun c3 => ?_)
  · replace hm := if_T c3 hm
    refine lv_iconst (v := (0 : Int32)) (cx_x X) (cx_b X) dX1_hasCell_22 (by decide) ?_
    exact Jt2 _ (by cases hm; exact hmt2) _ (lv_sub hl [] rfl)
  · replace hm := if_F c3 hm
    refine lv_iload_n (cx_x X) (cx_b X) dX1_hasCell_4 rfl (lv_at hl 1 rfl) ?_
    refine lv_aload_n (cx_x X) (cx_b X) dX1_hasCell_5 rfl (lv_at hl 0 rfl) ?_
    refine gf_X1_27 X hP1 dX1_hasCell_6 ?_
    refine lv_icmp_ge (tgt := 22) (cx_x X) (cx_b X) dX1_hasCell_9 (by decide) (fun c4 => ?_) (fun c4 => ?_)
    · replace hm := if_T c4 hm
      refine lv_iconst (v := (0 : Int32)) (cx_x X) (cx_b X) dX1_hasCell_22 (by decide) ?_
      exact Jt2 _ (by cases hm; exact hmt2) _ (lv_sub hl [] rfl)
    · replace hm := if_F c4 hm
      refine lv_iload_n (cx_x X) (cx_b X) dX1_hasCell_12 rfl (lv_at hl 1 rfl) ?_
      refine lv_bipush (v := (25 : Int32)) (cx_x X) (cx_b X) dX1_hasCell_13 (by decide) ?_
      refine lv_icmp_ge (tgt := 22) (cx_x X) (cx_b X) dX1_hasCell_15 (by decide) (fun c5 => ?_) (fun c5 => ?_)
      · replace hm := if_T c5 hm
        refine lv_iconst (v := (0 : Int32)) (cx_x X) (cx_b X) dX1_hasCell_22 (by decide) ?_
        exact Jt2 _ (by cases hm; exact hmt2) _ (lv_sub hl [] rfl)
      · replace hm := if_F c5 hm
        refine lv_iconst (v := (1 : Int32)) (cx_x X) (cx_b X) dX1_hasCell_18 (by decide) ?_
        refine lv_goto (tgt := 23) (cx_x X) (cx_b X) dX1_hasCell_19 (by decide) ?_
        exact Jt2 _ (by cases hm; exact hmt2) _ (lv_sub hl [] rfl)
/-! X1_separation -/
def m1_separation (G : (Nat → Int32)) (Q : (Nat → Nat → Int32)) (a1 : Int32) (a2 : Int32) : Option Int32 :=
  (m1_hasCell G Q a1).bind fun v2 =>
  if v2 = 0 then
  some (0 : Int32)
  else
  (m1_hasCell G Q a2).bind fun v5 =>
  if v5 = 0 then
  some (0 : Int32)
  else
  if inb a1 25 then
  if inb a2 25 then
  lt_ ((Q 0 a1.toNatClampNeg) - (Q 0 a2.toNatClampNeg)) fun v9 =>
  if inb a1 25 then
  if inb a2 25 then
  lt_ ((Q 1 a1.toNatClampNeg) - (Q 1 a2.toNatClampNeg)) fun v12 =>
  lt_ (if 0 ≤ (v9 + v12) then (v9 + v12) else 0 - (v9 + v12)) fun v13 =>
  lt_ (if 0 ≤ v9 then v9 else 0 - v9) fun v14 =>
  lt_ (if 0 ≤ v12 then v12 else 0 - v12) fun v15 =>
  lt_ (if v14 < v15 then v15 else v14) fun v16 =>
  lt_ (if v13 < v16 then v16 else v13) fun v17 =>
  some v17 else none else none else none else none
abbrev rm_X1_separation : Room := { frames := 1, cells := 0, slots := 0, locals := 21 }
set_option maxHeartbeats 4000000 in
set_option maxRecDepth 100000 in
theorem c_X1_separation (l : Launch) (D : va_G) (y : Nat → ClassId) (B : Nat → Nat) (G : (Nat → Int32)) (Q : (Nat → Nat → Int32)) (a1 : Int32) (a2 : Int32) (r : Int32) (hm : m1_separation G Q a1 a2 = some r) : Met l yX1_separation (wy_s yX1_separation cX1_separation 5 (some .int)) rm_X1_separation (pc_R D y [.ref (B 0), .int a1, .int a2] (fun H => va_P D vwCl (w1_s y B G Q) H)) (qc_R r) 0 0 (fun _ => False) := by
  refine met_R (by decide) (Nat.le_of_ble_eq_true rfl) ?_
  intro p e s m args below meth c X h0 ls hl
  have hP1 := h0
  replace hl : lv_has ls 5 [(0, .ref (B 0)), (1, .int a1), (2, .int a2)] := hl
  replace X : cx p s m args meth c cX1_separation 5 (some .int) RX1 D y := X
  unfold m1_separation at hm
  refine lv_aload_n (cx_x X) (cx_b X) dX1_separation_0 rfl (lv_at hl 0 rfl) ?_
  refine lv_iload_n (cx_x X) (cx_b X) dX1_separation_1 rfl (lv_at hl 1 rfl) ?_
  obtain ⟨v2, h1, hm⟩ := bnd hm
  refine af_R (rn_V (As := [.int a1]) (rest := []) X (c_X1_hasCell l D y B G Q a1  _ h1) vq_X1_51 ⟨rfl, rfl⟩ ⟨Nat.le_of_ble_eq_true rfl, Nat.le_of_ble_eq_true rfl⟩ (rec_1 X hP1) hP1 rfl hl.1 rfl (Nat.le_of_ble_eq_true rfl) dX1_separation_2 ⟨Nat.le_refl _, Nat.le_refl _⟩) ?_
  refine lv_if_eq (tgt := 16) (cx_x X) (cx_b X) dX1_separation_5 (by decide) (fun c3 => ?_) (fun c3 => ?_)
  · replace hm := if_T c3 hm
    refine lv_iconst (v := (0 : Int32)) (cx_x X) (cx_b X) dX1_separation_16 (by decide) ?_
    exact gr_i X hm dX1_separation_17
  · replace hm := if_F c3 hm
    refine lv_aload_n (cx_x X) (cx_b X) dX1_separation_8 rfl (lv_at hl 0 rfl) ?_
    refine lv_iload_n (cx_x X) (cx_b X) dX1_separation_9 rfl (lv_at hl 2 rfl) ?_
    obtain ⟨v5, h4, hm⟩ := bnd hm
    refine af_R (rn_V (As := [.int a2]) (rest := []) X (c_X1_hasCell l D y B G Q a2  _ h4) vq_X1_51 ⟨rfl, rfl⟩ ⟨Nat.le_of_ble_eq_true rfl, Nat.le_of_ble_eq_true rfl⟩ (rec_1 X hP1) hP1 rfl hl.1 rfl (Nat.le_of_ble_eq_true rfl) dX1_separation_10 ⟨Nat.le_refl _, Nat.le_refl _⟩) ?_
    refine lv_if_ne (tgt := 18) (cx_x X) (cx_b X) dX1_separation_13 (by decide) (fun c6 => ?_) (fun c6 => ?_)
    · replace hm := if_F c6 hm
      refine lv_aload_n (cx_x X) (cx_b X) dX1_separation_18 rfl (lv_at hl 0 rfl) ?_
      refine gf_X1_9 X hP1 dX1_separation_19 ?_
      refine lv_iload_n (cx_x X) (cx_b X) dX1_separation_22 rfl (lv_at hl 1 rfl) ?_
      obtain ⟨h7, hm⟩ := ck_E hm
      refine ld_1_0 X hP1 h7 dX1_separation_23 ?_
      refine lv_aload_n (cx_x X) (cx_b X) dX1_separation_24 rfl (lv_at hl 0 rfl) ?_
      refine gf_X1_9 X hP1 dX1_separation_25 ?_
      refine lv_iload_n (cx_x X) (cx_b X) dX1_separation_28 rfl (lv_at hl 2 rfl) ?_
      obtain ⟨h8, hm⟩ := ck_E hm
      refine ld_1_0 X hP1 h8 dX1_separation_29 ?_
      refine lv_isub (cx_x X) (cx_b X) dX1_separation_30 ?_
      obtain ⟨v9, ev9, hm⟩ := lt_E hm
      refine lv_eqi ev9 ?_
      refine lv_istore_n (lv' := [(3, .int v9), (0, .ref (B 0)), (1, .int a1), (2, .int a2)]) (cx_x X) (cx_b X) dX1_separation_31 rfl hl (by decide) rfl (fun ls hl => ?_)
      refine lv_aload_n (cx_x X) (cx_b X) dX1_separation_32 rfl (lv_at hl 1 rfl) ?_
      refine gf_X1_15 X hP1 dX1_separation_33 ?_
      refine lv_iload_n (cx_x X) (cx_b X) dX1_separation_36 rfl (lv_at hl 2 rfl) ?_
      obtain ⟨h10, hm⟩ := ck_E hm
      refine ld_1_1 X hP1 h10 dX1_separation_37 ?_
      refine lv_aload_n (cx_x X) (cx_b X) dX1_separation_38 rfl (lv_at hl 1 rfl) ?_
      refine gf_X1_15 X hP1 dX1_separation_39 ?_
      refine lv_iload_n (cx_x X) (cx_b X) dX1_separation_42 rfl (lv_at hl 3 rfl) ?_
      obtain ⟨h11, hm⟩ := ck_E hm
      refine ld_1_1 X hP1 h11 dX1_separation_43 ?_
      refine lv_isub (cx_x X) (cx_b X) dX1_separation_44 ?_
      obtain ⟨v12, ev12, hm⟩ := lt_E hm
      refine lv_eqi ev12 ?_
      refine lv_istore (lv' := [(4, .int v12), (3, .int v9), (0, .ref (B 0)), (1, .int a1), (2, .int a2)]) (cx_x X) (cx_b X) dX1_separation_45 hl (by decide) rfl (fun ls hl => ?_)
      refine lv_iload_n (cx_x X) (cx_b X) dX1_separation_47 rfl (lv_at hl 1 rfl) ?_
      refine lv_iload (cx_x X) (cx_b X) dX1_separation_48 (lv_at hl 0 rfl) ?_
      refine lv_iadd (cx_x X) (cx_b X) dX1_separation_50 ?_
      refine va_mabs (cx_x X) (cx_b X) ((cx_m X).trans hl.1.symm) (cx_o X) (cx_w X _ qw_54) (cx_w X _ qw_55) (cx_w X _ qw_56) (cx_w X _ qw_57) (Nat.le_of_ble_eq_true rfl) (Nat.le_of_ble_eq_true rfl) (Nat.zero_le _) (Nat.zero_le _) dX1_separation_51 ?_
      obtain ⟨v13, ev13, hm⟩ := lt_E hm
      refine lv_eqi ev13 ?_
      refine lv_iload_n (cx_x X) (cx_b X) dX1_separation_54 rfl (lv_at hl 1 rfl) ?_
      refine va_mabs (cx_x X) (cx_b X) ((cx_m X).trans hl.1.symm) (cx_o X) (cx_w X _ qw_54) (cx_w X _ qw_55) (cx_w X _ qw_56) (cx_w X _ qw_57) (Nat.le_of_ble_eq_true rfl) (Nat.le_of_ble_eq_true rfl) (Nat.zero_le _) (Nat.zero_le _) dX1_separation_55 ?_
      obtain ⟨v14, ev14, hm⟩ := lt_E hm
      refine lv_eqi ev14 ?_
      refine lv_iload (cx_x X) (cx_b X) dX1_separation_58 (lv_at hl 0 rfl) ?_
      refine va_mabs (cx_x X) (cx_b X) ((cx_m X).trans hl.1.symm) (cx_o X) (cx_w X _ qw_54) (cx_w X _ qw_55) (cx_w X _ qw_56) (cx_w X _ qw_57) (Nat.le_of_ble_eq_true rfl) (Nat.le_of_ble_eq_true rfl) (Nat.zero_le _) (Nat.zero_le _) dX1_separation_60 ?_
      obtain ⟨v15, ev15, hm⟩ := lt_E hm
      refine lv_eqi ev15 ?_
      refine va_mmax (cx_x X) (cx_b X) ((cx_m X).trans hl.1.symm) (cx_o X) (cx_w X _ qw_58) (cx_w X _ qw_59) (cx_w X _ qw_56) (cx_w X _ qw_60) (Nat.le_of_ble_eq_true rfl) (Nat.le_of_ble_eq_true rfl) (Nat.zero_le _) (Nat.zero_le _) dX1_separation_63 ?_
      obtain ⟨v16, ev16, hm⟩ := lt_E hm
      refine lv_eqi ev16 ?_
      refine va_mmax (cx_x X) (cx_b X) ((cx_m X).trans hl.1.symm) (cx_o X) (cx_w X _ qw_58) (cx_w X _ qw_59) (cx_w X _ qw_56) (cx_w X _ qw_60) (Nat.le_of_ble_eq_true rfl) (Nat.le_of_ble_eq_true rfl) (Nat.zero_le _) (Nat.zero_le _) dX1_separation_66 ?_
      obtain ⟨v17, ev17, hm⟩ := lt_E hm
      refine lv_eqi ev17 ?_
      exact gr_i X hm dX1_separation_69
    · replace hm := if_T c6 hm
      refine lv_iconst (v := (0 : Int32)) (cx_x X) (cx_b X) dX1_separation_16 (by decide) ?_
      exact gr_i X hm dX1_separation_17
/-! X1_cellsWithin -/
def m1_cellsWithin_X44  (v4 : Int32) : Option Int32 :=
  some v4
def m1_cellsWithin_J38 (kkt1 : (Int32 × Int32) → Option Int32) (v3 : Int32) (v6 : Int32) : Option Int32 :=
  kkt1 (v6, (v3 + (1 : Int32)))
def m1_cellsWithin_L5 (G : (Nat → Int32)) (Q : (Nat → Nat → Int32)) (a1 : Int32) (a2 : Int32) (kkt1 : (Int32 × Int32) → Option Int32) (t0 : (Int32 × Int32)) : Option Int32 :=
  if (G 0) ≤ t0.2 then
  some t0.1
  else
  (if t0.2 = a1 then
  some t0.1
  else
  (m1_separation G Q a1 t0.2).bind fun v10 =>
  if a2 ≤ v10 then
  some t0.1
  else
  some (t0.1 ||| ((1 : Int32) <<< (t0.2 &&& 31)))).bind fun v6 => m1_cellsWithin_J38 kkt1 t0.2 v6
def m1_cellsWithin (G : (Nat → Int32)) (Q : (Nat → Nat → Int32)) (a1 : Int32) (a2 : Int32) : Option Int32 :=
  (wh (m1_cellsWithin_L5 G Q a1 a2) 2000 ((0 : Int32), (0 : Int32))).bind fun v4 => m1_cellsWithin_X44 v4
abbrev rm_X1_cellsWithin : Room := { frames := 2, cells := 0, slots := 0, locals := 45 }
set_option maxHeartbeats 4000000 in
set_option maxRecDepth 100000 in
theorem c_X1_cellsWithin (l : Launch) (D : va_G) (y : Nat → ClassId) (B : Nat → Nat) (G : (Nat → Int32)) (Q : (Nat → Nat → Int32)) (a1 : Int32) (a2 : Int32) (r : Int32) (hm : m1_cellsWithin G Q a1 a2 = some r) : Met l yX1_cellsWithin (wy_s yX1_cellsWithin cX1_cellsWithin 5 (some .int)) rm_X1_cellsWithin (pc_R D y [.ref (B 0), .int a1, .int a2] (fun H => va_P D vwCl (w1_s y B G Q) H)) (qc_R r) 0 0 (fun _ => False) := by
  refine met_R (by decide) (Nat.le_of_ble_eq_true rfl) ?_
  intro p e s m args below meth c X h0 ls hl
  have hP1 := h0
  replace hl : lv_has ls 5 [(0, .ref (B 0)), (1, .int a1), (2, .int a2)] := hl
  replace X : cx p s m args meth c cX1_cellsWithin 5 (some .int) RX1 D y := X
  unfold m1_cellsWithin at hm
  refine lv_iconst (v := (0 : Int32)) (cx_x X) (cx_b X) dX1_cellsWithin_0 (by decide) ?_
  refine lv_istore_n (lv' := [(3, .int (0 : Int32)), (0, .ref (B 0)), (1, .int a1), (2, .int a2)]) (cx_x X) (cx_b X) dX1_cellsWithin_1 rfl hl (by decide) rfl (fun ls hl => ?_)
  refine lv_iconst (v := (0 : Int32)) (cx_x X) (cx_b X) dX1_cellsWithin_2 (by decide) ?_
  refine lv_istore (lv' := [(4, .int (0 : Int32)), (3, .int (0 : Int32)), (0, .ref (B 0)), (1, .int a1), (2, .int a2)]) (cx_x X) (cx_b X) dX1_cellsWithin_3 hl (by decide) rfl (fun ls hl => ?_)
  obtain ⟨qt1, hm, hmt1⟩ := bnd hm
  have Xt1 : ∀ (v4 : Int32) , m1_cellsWithin_X44 v4 = some r → ∀ ls, lv_has ls 5 [(3, .int v4)] → gr p l e rm_X1_cellsWithin s m args below meth c r (F0 m 44 ls []) := by
    intro v4 hm ls hl
    unfold m1_cellsWithin_X44 at hm
    refine lv_iload_n (cx_x X) (cx_b X) dX1_cellsWithin_44 rfl (lv_at hl 0 rfl) ?_
    exact gr_i X hm dX1_cellsWithin_45
  have Lt1 : ∀ (n : Nat) (v2 : Int32) (v3 : Int32) , wh (m1_cellsWithin_L5 G Q a1 a2) n (v2, v3) = some qt1 → ∀ ls, lv_has ls 5 [(0, .ref (B 0)), (1, .int a1), (2, .int a2), (3, .int v2), (4, .int v3)] → gr p l e rm_X1_cellsWithin s m args below meth c r (F0 m 5 ls []) := by
    intro n
    induction n with
    | zero => intro v2 v3 hm; cases hm
    | succ n ih =>
      intro v2 v3 hm ls hl
      replace hm : (m1_cellsWithin_L5 G Q a1 a2) (wh (m1_cellsWithin_L5 G Q a1 a2) n) (v2, v3) = some qt1 := hm
      dsimp only [m1_cellsWithin_L5] at hm
      refine lv_iload (cx_x X) (cx_b X) dX1_cellsWithin_5 (lv_at hl 4 rfl) ?_
      refine lv_aload_n (cx_x X) (cx_b X) dX1_cellsWithin_7 rfl (lv_at hl 0 rfl) ?_
      refine gf_X1_27 X hP1 dX1_cellsWithin_8 ?_
      refine lv_icmp_ge (tgt := 44) (cx_x X) (cx_b X) dX1_cellsWithin_11 (by decide) (fun c5 => ?_) (fun c5 => ?_)
      · replace hm := if_T c5 hm
        exact Xt1 _ (by cases hm; exact hmt1) _ (lv_sub hl [3] rfl)
      · replace hm := if_F c5 hm
        refine lv_iload (cx_x X) (cx_b X) dX1_cellsWithin_14 (lv_at hl 4 rfl) ?_
        refine lv_iload_n (cx_x X) (cx_b X) dX1_cellsWithin_16 rfl (lv_at hl 1 rfl) ?_
        obtain ⟨qt7, hm, hmt7⟩ := bnd hm
        have Jt7 : ∀ (v6 : Int32) , m1_cellsWithin_J38 (wh (m1_cellsWithin_L5 G Q a1 a2) n) v3 v6 = some qt1 → ∀ ls, lv_has ls 5 [(0, .ref (B 0)), (1, .int a1), (2, .int a2), (3, .int v6), (4, .int v3)] → gr p l e rm_X1_cellsWithin s m args below meth c r (F0 m 38 ls []) := by
          intro v6 hm ls hl
          unfold m1_cellsWithin_J38 at hm
          refine lv_iinc (v := (v3 + (1 : Int32))) (lv' := [(4, .int (v3 + (1 : Int32))), (0, .ref (B 0)), (1, .int a1), (2, .int a2), (3, .int v6)]) (cx_x X) (cx_b X) dX1_cellsWithin_38 hl (k := 4) rfl (by rfl) (by decide) rfl (fun ls hl => ?_)
          refine lv_goto (tgt := 5) (cx_x X) (cx_b X) dX1_cellsWithin_41 (by decide) ?_
          exact ih _ _ hm _ (lv_sub hl [1, 2, 3, 4, 0] rfl)
        refine lv_icmp_eq (tgt := 38) (cx_x X) (cx_b X) dX1_cellsWithin_17 (by decide) (fun c8 => ?_) (fun c8 => ?_)
        · replace hm := if_T c8 hm
          exact Jt7 _ (by cases hm; exact hmt7) _ (lv_sub hl [0, 1, 2, 3, 4] rfl)
        · replace hm := if_F c8 hm
          refine lv_aload_n (cx_x X) (cx_b X) dX1_cellsWithin_20 rfl (lv_at hl 0 rfl) ?_
          refine lv_iload_n (cx_x X) (cx_b X) dX1_cellsWithin_21 rfl (lv_at hl 1 rfl) ?_
          refine lv_iload (cx_x X) (cx_b X) dX1_cellsWithin_22 (lv_at hl 4 rfl) ?_
          obtain ⟨v10, h9, hm⟩ := bnd hm
          refine af_R (rn_V (As := [.int a1, .int v3]) (rest := []) X (c_X1_separation l D y B G Q a1 v3  _ h9) vq_X1_48 ⟨rfl, rfl⟩ ⟨Nat.le_of_ble_eq_true rfl, Nat.le_of_ble_eq_true rfl⟩ (rec_1 X hP1) hP1 rfl hl.1 rfl (Nat.le_of_ble_eq_true rfl) dX1_cellsWithin_24 ⟨Nat.le_refl _, Nat.le_refl _⟩) ?_
          refine lv_iload_n (cx_x X) (cx_b X) dX1_cellsWithin_27 rfl (lv_at hl 2 rfl) ?_
          refine lv_icmp_ge (tgt := 38) (cx_x X) (cx_b X) dX1_cellsWithin_28 (by decide) (fun c11 => ?_) (fun c11 => ?_)
          · replace hm := if_T c11 hm
            exact Jt7 _ (by cases hm; exact hmt7) _ (lv_sub hl [0, 1, 2, 3, 4] rfl)
          · replace hm := if_F c11 hm
            refine lv_iload_n (cx_x X) (cx_b X) dX1_cellsWithin_31 rfl (lv_at hl 3 rfl) ?_
            refine lv_iconst (v := (1 : Int32)) (cx_x X) (cx_b X) dX1_cellsWithin_32 (by decide) ?_
            refine lv_iload (cx_x X) (cx_b X) dX1_cellsWithin_33 (lv_at hl 4 rfl) ?_
            refine lv_ishl (cx_x X) (cx_b X) dX1_cellsWithin_35 ?_
            refine lv_ior (cx_x X) (cx_b X) dX1_cellsWithin_36 ?_
            refine lv_istore_n (lv' := [(3, .int (v2 ||| ((1 : Int32) <<< (v3 &&& 31)))), (0, .ref (B 0)), (1, .int a1), (2, .int a2), (4, .int v3)]) (cx_x X) (cx_b X) dX1_cellsWithin_37 rfl hl (by decide) rfl (fun ls hl => ?_)
            exact Jt7 _ (by cases hm; exact hmt7) _ (lv_sub hl [1, 2, 3, 0, 4] rfl)
  exact Lt1 _ _ _ hm _ (lv_sub hl [2, 3, 4, 1, 0] rfl)
/-! X1_groupAt -/
def m1_groupAt_J20  (v1 : Int32) : Option Int32 :=
  some v1
def m1_groupAt (G : (Nat → Int32)) (Q : (Nat → Nat → Int32)) (a1 : Int32) : Option Int32 :=
  (if a1 < 0 then
  some (0 : Int32)
  else
  if (25 : Int32) ≤ a1 then
  some (0 : Int32)
  else
  if inb a1 25 then
  some (Q 2 a1.toNatClampNeg) else none).bind fun v1 => m1_groupAt_J20 v1
abbrev rm_X1_groupAt : Room := { frames := 0, cells := 0, slots := 0, locals := 0 }
set_option maxHeartbeats 4000000 in
set_option maxRecDepth 100000 in
theorem c_X1_groupAt (l : Launch) (D : va_G) (y : Nat → ClassId) (B : Nat → Nat) (G : (Nat → Int32)) (Q : (Nat → Nat → Int32)) (a1 : Int32) (r : Int32) (hm : m1_groupAt G Q a1 = some r) : Met l yX1_groupAt (wy_s yX1_groupAt cX1_groupAt 2 (some .int)) rm_X1_groupAt (pc_R D y [.ref (B 0), .int a1] (fun H => va_P D vwCl (w1_s y B G Q) H)) (qc_R r) 0 0 (fun _ => False) := by
  refine met_R (by decide) (Nat.le_of_ble_eq_true rfl) ?_
  intro p e s m args below meth c X h0 ls hl
  have hP1 := h0
  replace hl : lv_has ls 2 [(0, .ref (B 0)), (1, .int a1)] := hl
  replace X : cx p s m args meth c cX1_groupAt 2 (some .int) RX1 D y := X
  unfold m1_groupAt at hm
  refine lv_iload_n (cx_x X) (cx_b X) dX1_groupAt_0 rfl (lv_at hl 1 rfl) ?_
  obtain ⟨qt2, hm, hmt2⟩ := bnd hm
  have Jt2 : ∀ (v1 : Int32) , m1_groupAt_J20 v1 = some r → ∀ ls, lv_has ls 2 [] → gr p l e rm_X1_groupAt s m args below meth c r (F0 m 20 ls [.int v1]) := by
    intro v1 hm ls hl
    unfold m1_groupAt_J20 at hm
    exact gr_i X hm dX1_groupAt_20
  refine lv_if_lt (tgt := 19) (cx_x X) (cx_b X) dX1_groupAt_1 (by decide) (fun c3 => ?_) (fun c3 => ?_)
  · replace hm := if_T c3 hm
    refine lv_iconst (v := (0 : Int32)) (cx_x X) (cx_b X) dX1_groupAt_19 (by decide) ?_
    exact Jt2 _ (by cases hm; exact hmt2) _ (lv_sub hl [] rfl)
  · replace hm := if_F c3 hm
    refine lv_iload_n (cx_x X) (cx_b X) dX1_groupAt_4 rfl (lv_at hl 1 rfl) ?_
    refine lv_bipush (v := (25 : Int32)) (cx_x X) (cx_b X) dX1_groupAt_5 (by decide) ?_
    refine lv_icmp_ge (tgt := 19) (cx_x X) (cx_b X) dX1_groupAt_7 (by decide) (fun c4 => ?_) (fun c4 => ?_)
    · replace hm := if_T c4 hm
      refine lv_iconst (v := (0 : Int32)) (cx_x X) (cx_b X) dX1_groupAt_19 (by decide) ?_
      exact Jt2 _ (by cases hm; exact hmt2) _ (lv_sub hl [] rfl)
    · replace hm := if_F c4 hm
      refine lv_aload_n (cx_x X) (cx_b X) dX1_groupAt_10 rfl (lv_at hl 0 rfl) ?_
      refine gf_X1_18 X hP1 dX1_groupAt_11 ?_
      refine lv_iload_n (cx_x X) (cx_b X) dX1_groupAt_14 rfl (lv_at hl 1 rfl) ?_
      obtain ⟨h5, hm⟩ := ck_E hm
      refine ld_1_2 X hP1 h5 dX1_groupAt_15 ?_
      refine lv_goto (tgt := 20) (cx_x X) (cx_b X) dX1_groupAt_16 (by decide) ?_
      exact Jt2 _ (by cases hm; exact hmt2) _ (lv_sub hl [] rfl)
/-! X1_nominalsOf -/
def m1_nominalsOf_J20  (v1 : Int32) : Option Int32 :=
  some v1
def m1_nominalsOf (G : (Nat → Int32)) (Q : (Nat → Nat → Int32)) (a1 : Int32) : Option Int32 :=
  (if a1 < 0 then
  some (0 : Int32)
  else
  if (25 : Int32) ≤ a1 then
  some (0 : Int32)
  else
  if inb a1 25 then
  some (Q 3 a1.toNatClampNeg) else none).bind fun v1 => m1_nominalsOf_J20 v1
abbrev rm_X1_nominalsOf : Room := { frames := 0, cells := 0, slots := 0, locals := 0 }
set_option maxHeartbeats 4000000 in
set_option maxRecDepth 100000 in
theorem c_X1_nominalsOf (l : Launch) (D : va_G) (y : Nat → ClassId) (B : Nat → Nat) (G : (Nat → Int32)) (Q : (Nat → Nat → Int32)) (a1 : Int32) (r : Int32) (hm : m1_nominalsOf G Q a1 = some r) : Met l yX1_nominalsOf (wy_s yX1_nominalsOf cX1_nominalsOf 2 (some .int)) rm_X1_nominalsOf (pc_R D y [.ref (B 0), .int a1] (fun H => va_P D vwCl (w1_s y B G Q) H)) (qc_R r) 0 0 (fun _ => False) := by
  refine met_R (by decide) (Nat.le_of_ble_eq_true rfl) ?_
  intro p e s m args below meth c X h0 ls hl
  have hP1 := h0
  replace hl : lv_has ls 2 [(0, .ref (B 0)), (1, .int a1)] := hl
  replace X : cx p s m args meth c cX1_nominalsOf 2 (some .int) RX1 D y := X
  unfold m1_nominalsOf at hm
  refine lv_iload_n (cx_x X) (cx_b X) dX1_nominalsOf_0 rfl (lv_at hl 1 rfl) ?_
  obtain ⟨qt2, hm, hmt2⟩ := bnd hm
  have Jt2 : ∀ (v1 : Int32) , m1_nominalsOf_J20 v1 = some r → ∀ ls, lv_has ls 2 [] → gr p l e rm_X1_nominalsOf s m args below meth c r (F0 m 20 ls [.int v1]) := by
    intro v1 hm ls hl
    unfold m1_nominalsOf_J20 at hm
    exact gr_i X hm dX1_nominalsOf_20
  refine lv_if_lt (tgt := 19) (cx_x X) (cx_b X) dX1_nominalsOf_1 (by decide) (fun c3 => ?_) (fun c3 => ?_)
  · replace hm := if_T c3 hm
    refine lv_iconst (v := (0 : Int32)) (cx_x X) (cx_b X) dX1_nominalsOf_19 (by decide) ?_
    exact Jt2 _ (by cases hm; exact hmt2) _ (lv_sub hl [] rfl)
  · replace hm := if_F c3 hm
    refine lv_iload_n (cx_x X) (cx_b X) dX1_nominalsOf_4 rfl (lv_at hl 1 rfl) ?_
    refine lv_bipush (v := (25 : Int32)) (cx_x X) (cx_b X) dX1_nominalsOf_5 (by decide) ?_
    refine lv_icmp_ge (tgt := 19) (cx_x X) (cx_b X) dX1_nominalsOf_7 (by decide) (fun c4 => ?_) (fun c4 => ?_)
    · replace hm := if_T c4 hm
      refine lv_iconst (v := (0 : Int32)) (cx_x X) (cx_b X) dX1_nominalsOf_19 (by decide) ?_
      exact Jt2 _ (by cases hm; exact hmt2) _ (lv_sub hl [] rfl)
    · replace hm := if_F c4 hm
      refine lv_aload_n (cx_x X) (cx_b X) dX1_nominalsOf_10 rfl (lv_at hl 0 rfl) ?_
      refine gf_X1_21 X hP1 dX1_nominalsOf_11 ?_
      refine lv_iload_n (cx_x X) (cx_b X) dX1_nominalsOf_14 rfl (lv_at hl 1 rfl) ?_
      obtain ⟨h5, hm⟩ := ck_E hm
      refine ld_1_3 X hP1 h5 dX1_nominalsOf_15 ?_
      refine lv_goto (tgt := 20) (cx_x X) (cx_b X) dX1_nominalsOf_16 (by decide) ?_
      exact Jt2 _ (by cases hm; exact hmt2) _ (lv_sub hl [] rfl)
/-! X1_near -/
def m1_near_J20  (v1 : Int32) : Option Int32 :=
  some v1
def m1_near (G : (Nat → Int32)) (Q : (Nat → Nat → Int32)) (a1 : Int32) : Option Int32 :=
  (if a1 < 0 then
  some (0 : Int32)
  else
  if (25 : Int32) ≤ a1 then
  some (0 : Int32)
  else
  if inb a1 25 then
  some (Q 4 a1.toNatClampNeg) else none).bind fun v1 => m1_near_J20 v1
abbrev rm_X1_near : Room := { frames := 0, cells := 0, slots := 0, locals := 0 }
set_option maxHeartbeats 4000000 in
set_option maxRecDepth 100000 in
theorem c_X1_near (l : Launch) (D : va_G) (y : Nat → ClassId) (B : Nat → Nat) (G : (Nat → Int32)) (Q : (Nat → Nat → Int32)) (a1 : Int32) (r : Int32) (hm : m1_near G Q a1 = some r) : Met l yX1_near (wy_s yX1_near cX1_near 2 (some .int)) rm_X1_near (pc_R D y [.ref (B 0), .int a1] (fun H => va_P D vwCl (w1_s y B G Q) H)) (qc_R r) 0 0 (fun _ => False) := by
  refine met_R (by decide) (Nat.le_of_ble_eq_true rfl) ?_
  intro p e s m args below meth c X h0 ls hl
  have hP1 := h0
  replace hl : lv_has ls 2 [(0, .ref (B 0)), (1, .int a1)] := hl
  replace X : cx p s m args meth c cX1_near 2 (some .int) RX1 D y := X
  unfold m1_near at hm
  refine lv_iload_n (cx_x X) (cx_b X) dX1_near_0 rfl (lv_at hl 1 rfl) ?_
  obtain ⟨qt2, hm, hmt2⟩ := bnd hm
  have Jt2 : ∀ (v1 : Int32) , m1_near_J20 v1 = some r → ∀ ls, lv_has ls 2 [] → gr p l e rm_X1_near s m args below meth c r (F0 m 20 ls [.int v1]) := by
    intro v1 hm ls hl
    unfold m1_near_J20 at hm
    exact gr_i X hm dX1_near_20
  refine lv_if_lt (tgt := 19) (cx_x X) (cx_b X) dX1_near_1 (by decide) (fun c3 => ?_) (fun c3 => ?_)
  · replace hm := if_T c3 hm
    refine lv_iconst (v := (0 : Int32)) (cx_x X) (cx_b X) dX1_near_19 (by decide) ?_
    exact Jt2 _ (by cases hm; exact hmt2) _ (lv_sub hl [] rfl)
  · replace hm := if_F c3 hm
    refine lv_iload_n (cx_x X) (cx_b X) dX1_near_4 rfl (lv_at hl 1 rfl) ?_
    refine lv_bipush (v := (25 : Int32)) (cx_x X) (cx_b X) dX1_near_5 (by decide) ?_
    refine lv_icmp_ge (tgt := 19) (cx_x X) (cx_b X) dX1_near_7 (by decide) (fun c4 => ?_) (fun c4 => ?_)
    · replace hm := if_T c4 hm
      refine lv_iconst (v := (0 : Int32)) (cx_x X) (cx_b X) dX1_near_19 (by decide) ?_
      exact Jt2 _ (by cases hm; exact hmt2) _ (lv_sub hl [] rfl)
    · replace hm := if_F c4 hm
      refine lv_aload_n (cx_x X) (cx_b X) dX1_near_10 rfl (lv_at hl 0 rfl) ?_
      refine gf_X1_24 X hP1 dX1_near_11 ?_
      refine lv_iload_n (cx_x X) (cx_b X) dX1_near_14 rfl (lv_at hl 1 rfl) ?_
      obtain ⟨h5, hm⟩ := ck_E hm
      refine ld_1_4 X hP1 h5 dX1_near_15 ?_
      refine lv_goto (tgt := 20) (cx_x X) (cx_b X) dX1_near_16 (by decide) ?_
      exact Jt2 _ (by cases hm; exact hmt2) _ (lv_sub hl [] rfl)
/-! X4_contains -/
def m4_contains_J13  (v1 : Int32) : Option Int32 :=
  if v1 &&& 1 = v1 then some v1 else none
def m4_contains (a0 : Int32) (a1 : Int32) : Option Int32 :=
  (if ((a0 >>> (a1 &&& 31)) &&& (1 : Int32)) = 0 then
  some (0 : Int32)
  else
  some (1 : Int32)).bind fun v1 => m4_contains_J13 v1
abbrev rm_X4_contains : Room := { frames := 0, cells := 0, slots := 0, locals := 0 }
set_option maxHeartbeats 4000000 in
set_option maxRecDepth 100000 in
theorem c_X4_contains (l : Launch) (D : va_G) (y : Nat → ClassId) (a0 : Int32) (a1 : Int32) (r : Int32) (hm : m4_contains a0 a1 = some r) : Met l yX4_contains (wy_s yX4_contains cX4_contains 2 (some .boolean)) rm_X4_contains (pc_R D y [.int a0, .int a1] (fun _ => True)) (qc_R r) 0 0 (fun _ => False) := by
  refine met_R (by decide) (Nat.le_of_ble_eq_true rfl) ?_
  intro p e s m args below meth c X h0 ls hl
  replace hl : lv_has ls 2 [(0, .int a0), (1, .int a1)] := hl
  replace X : cx p s m args meth c cX4_contains 2 (some .boolean) RX4 D y := X
  unfold m4_contains at hm
  refine lv_iload_n (cx_x X) (cx_b X) dX4_contains_0 rfl (lv_at hl 0 rfl) ?_
  refine lv_iload_n (cx_x X) (cx_b X) dX4_contains_1 rfl (lv_at hl 1 rfl) ?_
  refine lv_ishr (cx_x X) (cx_b X) dX4_contains_2 ?_
  refine lv_iconst (v := (1 : Int32)) (cx_x X) (cx_b X) dX4_contains_3 (by decide) ?_
  refine lv_iand (cx_x X) (cx_b X) dX4_contains_4 ?_
  obtain ⟨qt2, hm, hmt2⟩ := bnd hm
  have Jt2 : ∀ (v1 : Int32) , m4_contains_J13 v1 = some r → ∀ ls, lv_has ls 2 [] → gr p l e rm_X4_contains s m args below meth c r (F0 m 13 ls [.int v1]) := by
    intro v1 hm ls hl
    unfold m4_contains_J13 at hm
    obtain ⟨h0, hm⟩ := ck_E hm
    exact gr_z X h0 hm dX4_contains_13
  refine lv_if_eq (tgt := 12) (cx_x X) (cx_b X) dX4_contains_5 (by decide) (fun c3 => ?_) (fun c3 => ?_)
  · replace hm := if_T c3 hm
    refine lv_iconst (v := (0 : Int32)) (cx_x X) (cx_b X) dX4_contains_12 (by decide) ?_
    exact Jt2 _ (by cases hm; exact hmt2) _ (lv_sub hl [] rfl)
  · replace hm := if_F c3 hm
    refine lv_iconst (v := (1 : Int32)) (cx_x X) (cx_b X) dX4_contains_8 (by decide) ?_
    refine lv_goto (tgt := 13) (cx_x X) (cx_b X) dX4_contains_9 (by decide) ?_
    exact Jt2 _ (by cases hm; exact hmt2) _ (lv_sub hl [] rfl)
/-! X1_burdenIn -/
def m1_burdenIn_X51  (v6 : Int32) : Option Int32 :=
  some v6
def m1_burdenIn_J45 (kkt3 : (Int32 × Int32) → Option Int32) (v5 : Int32) (v10 : Int32) : Option Int32 :=
  kkt3 (v10, (v5 + (1 : Int32)))
def m1_burdenIn_L12 (Q : (Nat → Nat → Int32)) (a2 : Int32) (v2 : Int32) (kkt3 : (Int32 × Int32) → Option Int32) (t0 : (Int32 × Int32)) : Option Int32 :=
  if (25 : Int32) ≤ t0.2 then
  some t0.1
  else
  (m4_contains v2 t0.2).bind fun v9 =>
  (if v9 = 0 then
  some t0.1
  else
  if inb t0.2 25 then
  (m4_contains (Q 3 t0.2.toNatClampNeg) a2).bind fun v15 =>
  if v15 = 0 then
  some t0.1
  else
  some (t0.1 + (1 : Int32)) else none).bind fun v10 => m1_burdenIn_J45 kkt3 t0.2 v10
def m1_burdenIn (G : (Nat → Int32)) (Q : (Nat → Nat → Int32)) (a1 : Int32) (a2 : Int32) : Option Int32 :=
  (m1_near G Q a1).bind fun v2 =>
  (wh (m1_burdenIn_L12 Q a2 v2) 2000 ((0 : Int32), (0 : Int32))).bind fun v6 => m1_burdenIn_X51 v6
abbrev rm_X1_burdenIn : Room := { frames := 1, cells := 0, slots := 0, locals := 21 }
set_option maxHeartbeats 4000000 in
set_option maxRecDepth 100000 in
theorem c_X1_burdenIn (l : Launch) (D : va_G) (y : Nat → ClassId) (B : Nat → Nat) (G : (Nat → Int32)) (Q : (Nat → Nat → Int32)) (a1 : Int32) (a2 : Int32) (r : Int32) (hm : m1_burdenIn G Q a1 a2 = some r) : Met l yX1_burdenIn (wy_s yX1_burdenIn cX1_burdenIn 6 (some .int)) rm_X1_burdenIn (pc_R D y [.ref (B 0), .int a1, .int a2] (fun H => va_P D vwCl (w1_s y B G Q) H)) (qc_R r) 0 0 (fun _ => False) := by
  refine met_R (by decide) (Nat.le_of_ble_eq_true rfl) ?_
  intro p e s m args below meth c X h0 ls hl
  have hP1 := h0
  replace hl : lv_has ls 6 [(0, .ref (B 0)), (1, .int a1), (2, .int a2)] := hl
  replace X : cx p s m args meth c cX1_burdenIn 6 (some .int) RX1 D y := X
  unfold m1_burdenIn at hm
  refine lv_aload_n (cx_x X) (cx_b X) dX1_burdenIn_0 rfl (lv_at hl 0 rfl) ?_
  refine lv_iload_n (cx_x X) (cx_b X) dX1_burdenIn_1 rfl (lv_at hl 1 rfl) ?_
  obtain ⟨v2, h1, hm⟩ := bnd hm
  refine af_R (rn_V (As := [.int a1]) (rest := []) X (c_X1_near l D y B G Q a1  _ h1) vq_X1_64 ⟨rfl, rfl⟩ ⟨Nat.le_of_ble_eq_true rfl, Nat.le_of_ble_eq_true rfl⟩ (rec_1 X hP1) hP1 rfl hl.1 rfl (Nat.le_of_ble_eq_true rfl) dX1_burdenIn_2 ⟨Nat.le_refl _, Nat.le_refl _⟩) ?_
  refine lv_istore_n (lv' := [(3, .int v2), (0, .ref (B 0)), (1, .int a1), (2, .int a2)]) (cx_x X) (cx_b X) dX1_burdenIn_5 rfl hl (by decide) rfl (fun ls hl => ?_)
  refine lv_iconst (v := (0 : Int32)) (cx_x X) (cx_b X) dX1_burdenIn_6 (by decide) ?_
  refine lv_istore (lv' := [(4, .int (0 : Int32)), (3, .int v2), (0, .ref (B 0)), (1, .int a1), (2, .int a2)]) (cx_x X) (cx_b X) dX1_burdenIn_7 hl (by decide) rfl (fun ls hl => ?_)
  refine lv_iconst (v := (0 : Int32)) (cx_x X) (cx_b X) dX1_burdenIn_9 (by decide) ?_
  refine lv_istore (lv' := [(5, .int (0 : Int32)), (4, .int (0 : Int32)), (3, .int v2), (0, .ref (B 0)), (1, .int a1), (2, .int a2)]) (cx_x X) (cx_b X) dX1_burdenIn_10 hl (by decide) rfl (fun ls hl => ?_)
  obtain ⟨qt3, hm, hmt3⟩ := bnd hm
  have Xt3 : ∀ (v6 : Int32) , m1_burdenIn_X51 v6 = some r → ∀ ls, lv_has ls 6 [(4, .int v6)] → gr p l e rm_X1_burdenIn s m args below meth c r (F0 m 51 ls []) := by
    intro v6 hm ls hl
    unfold m1_burdenIn_X51 at hm
    refine lv_iload (cx_x X) (cx_b X) dX1_burdenIn_51 (lv_at hl 0 rfl) ?_
    exact gr_i X hm dX1_burdenIn_53
  have Lt3 : ∀ (n : Nat) (v4 : Int32) (v5 : Int32) , wh (m1_burdenIn_L12 Q a2 v2) n (v4, v5) = some qt3 → ∀ ls, lv_has ls 6 [(0, .ref (B 0)), (2, .int a2), (3, .int v2), (4, .int v4), (5, .int v5)] → gr p l e rm_X1_burdenIn s m args below meth c r (F0 m 12 ls []) := by
    intro n
    induction n with
    | zero => intro v4 v5 hm; cases hm
    | succ n ih =>
      intro v4 v5 hm ls hl
      replace hm : (m1_burdenIn_L12 Q a2 v2) (wh (m1_burdenIn_L12 Q a2 v2) n) (v4, v5) = some qt3 := hm
      dsimp only [m1_burdenIn_L12] at hm
      refine lv_iload (cx_x X) (cx_b X) dX1_burdenIn_12 (lv_at hl 4 rfl) ?_
      refine lv_bipush (v := (25 : Int32)) (cx_x X) (cx_b X) dX1_burdenIn_14 (by decide) ?_
      refine lv_icmp_ge (tgt := 51) (cx_x X) (cx_b X) dX1_burdenIn_16 (by decide) (fun c7 => ?_) (fun c7 => ?_)
      · replace hm := if_T c7 hm
        exact Xt3 _ (by cases hm; exact hmt3) _ (lv_sub hl [3] rfl)
      · replace hm := if_F c7 hm
        refine lv_iload_n (cx_x X) (cx_b X) dX1_burdenIn_19 rfl (lv_at hl 2 rfl) ?_
        refine lv_iload (cx_x X) (cx_b X) dX1_burdenIn_20 (lv_at hl 4 rfl) ?_
        obtain ⟨v9, h8, hm⟩ := bnd hm
        refine af_R (rn_N (As := [.int v2, .int v5]) (rest := []) X (c_X4_contains l D y v2 v5  _ h8) nq_X1_67 ⟨rfl, rfl⟩ ⟨Nat.le_of_ble_eq_true rfl, Nat.le_of_ble_eq_true rfl⟩ trivial rfl hl.1 rfl (Nat.le_of_ble_eq_true rfl) dX1_burdenIn_22 ⟨Nat.le_refl _, Nat.le_refl _⟩) ?_
        obtain ⟨qt11, hm, hmt11⟩ := bnd hm
        have Jt11 : ∀ (v10 : Int32) , m1_burdenIn_J45 (wh (m1_burdenIn_L12 Q a2 v2) n) v5 v10 = some qt3 → ∀ ls, lv_has ls 6 [(0, .ref (B 0)), (2, .int a2), (3, .int v2), (4, .int v10), (5, .int v5)] → gr p l e rm_X1_burdenIn s m args below meth c r (F0 m 45 ls []) := by
          intro v10 hm ls hl
          unfold m1_burdenIn_J45 at hm
          refine lv_iinc (v := (v5 + (1 : Int32))) (lv' := [(5, .int (v5 + (1 : Int32))), (0, .ref (B 0)), (2, .int a2), (3, .int v2), (4, .int v10)]) (cx_x X) (cx_b X) dX1_burdenIn_45 hl (k := 4) rfl (by rfl) (by decide) rfl (fun ls hl => ?_)
          refine lv_goto (tgt := 12) (cx_x X) (cx_b X) dX1_burdenIn_48 (by decide) ?_
          exact ih _ _ hm _ (lv_sub hl [1, 2, 3, 4, 0] rfl)
        refine lv_if_eq (tgt := 45) (cx_x X) (cx_b X) dX1_burdenIn_25 (by decide) (fun c12 => ?_) (fun c12 => ?_)
        · replace hm := if_T c12 hm
          exact Jt11 _ (by cases hm; exact hmt11) _ (lv_sub hl [0, 1, 2, 3, 4] rfl)
        · replace hm := if_F c12 hm
          refine lv_aload_n (cx_x X) (cx_b X) dX1_burdenIn_28 rfl (lv_at hl 0 rfl) ?_
          refine gf_X1_21 X hP1 dX1_burdenIn_29 ?_
          refine lv_iload (cx_x X) (cx_b X) dX1_burdenIn_32 (lv_at hl 4 rfl) ?_
          obtain ⟨h13, hm⟩ := ck_E hm
          refine ld_1_3 X hP1 h13 dX1_burdenIn_34 ?_
          refine lv_iload_n (cx_x X) (cx_b X) dX1_burdenIn_35 rfl (lv_at hl 1 rfl) ?_
          obtain ⟨v15, h14, hm⟩ := bnd hm
          refine af_R (rn_N (As := [.int (Q 3 v5.toNatClampNeg), .int a2]) (rest := []) X (c_X4_contains l D y (Q 3 v5.toNatClampNeg) a2  _ h14) nq_X1_67 ⟨rfl, rfl⟩ ⟨Nat.le_of_ble_eq_true rfl, Nat.le_of_ble_eq_true rfl⟩ trivial rfl hl.1 rfl (Nat.le_of_ble_eq_true rfl) dX1_burdenIn_36 ⟨Nat.le_refl _, Nat.le_refl _⟩) ?_
          refine lv_if_eq (tgt := 45) (cx_x X) (cx_b X) dX1_burdenIn_39 (by decide) (fun c16 => ?_) (fun c16 => ?_)
          · replace hm := if_T c16 hm
            exact Jt11 _ (by cases hm; exact hmt11) _ (lv_sub hl [0, 1, 2, 3, 4] rfl)
          · replace hm := if_F c16 hm
            refine lv_iinc (v := (v4 + (1 : Int32))) (lv' := [(4, .int (v4 + (1 : Int32))), (0, .ref (B 0)), (2, .int a2), (3, .int v2), (5, .int v5)]) (cx_x X) (cx_b X) dX1_burdenIn_42 hl (k := 3) rfl (by rfl) (by decide) rfl (fun ls hl => ?_)
            exact Jt11 _ (by cases hm; exact hmt11) _ (lv_sub hl [1, 2, 3, 0, 4] rfl)
  exact Lt3 _ _ _ hm _ (lv_sub hl [3, 5, 2, 1, 0] rfl)
/-! X2_isPresent -/
def m2_isPresent_J36  (v1 : Int32) : Option Int32 :=
  if v1 &&& 1 = v1 then some v1 else none
def m2_isPresent (F : (Nat → Int32)) (R : (Nat → Nat → Int32)) (G : (Nat → Int32)) (Q : (Nat → Nat → Int32)) (a1 : Int32) : Option Int32 :=
  (if a1 < 0 then
  some (0 : Int32)
  else
  if (60 : Int32) ≤ a1 then
  some (0 : Int32)
  else
  if inb a1 60 then
  if (R 1 a1.toNatClampNeg) = (-9 : Int32) then
  if inb a1 60 then
  if (R 2 a1.toNatClampNeg) = (1 : Int32) then
  some (1 : Int32)
  else
  some (0 : Int32) else none
  else
  some (1 : Int32) else none).bind fun v1 => m2_isPresent_J36 v1
abbrev rm_X2_isPresent : Room := { frames := 0, cells := 0, slots := 0, locals := 0 }
set_option maxHeartbeats 4000000 in
set_option maxRecDepth 100000 in
theorem c_X2_isPresent (l : Launch) (D : va_G) (y : Nat → ClassId) (A B : Nat → Nat) (F : (Nat → Int32)) (R : (Nat → Nat → Int32)) (G : (Nat → Int32)) (Q : (Nat → Nat → Int32)) (a1 : Int32) (r : Int32) (hm : m2_isPresent F R G Q a1 = some r) : Met l yX2_isPresent (wy_s yX2_isPresent cX2_isPresent 2 (some .boolean)) rm_X2_isPresent (pc_R D y [.ref (A 0), .int a1] (fun H => va_P D vwCl (w2_s y (B 0) A F R) H ∧ va_P D vwCl (w1_s y B G Q) H)) (qc_R r) 0 0 (fun _ => False) := by
  refine met_R (by decide) (Nat.le_of_ble_eq_true rfl) ?_
  intro p e s m args below meth c X h0 ls hl
  obtain ⟨hP2, hP1⟩ := h0
  replace hl : lv_has ls 2 [(0, .ref (A 0)), (1, .int a1)] := hl
  replace X : cx p s m args meth c cX2_isPresent 2 (some .boolean) RX2 D y := X
  unfold m2_isPresent at hm
  refine lv_iload_n (cx_x X) (cx_b X) dX2_isPresent_0 rfl (lv_at hl 1 rfl) ?_
  obtain ⟨qt2, hm, hmt2⟩ := bnd hm
  have Jt2 : ∀ (v1 : Int32) , m2_isPresent_J36 v1 = some r → ∀ ls, lv_has ls 2 [] → gr p l e rm_X2_isPresent s m args below meth c r (F0 m 36 ls [.int v1]) := by
    intro v1 hm ls hl
    unfold m2_isPresent_J36 at hm
    obtain ⟨h0, hm⟩ := ck_E hm
    exact gr_z X h0 hm dX2_isPresent_36
  refine lv_if_lt (tgt := 35) (cx_x X) (cx_b X) dX2_isPresent_1 (by decide) (fun c3 => ?_) (fun c3 => ?_)
  · replace hm := if_T c3 hm
    refine lv_iconst (v := (0 : Int32)) (cx_x X) (cx_b X) dX2_isPresent_35 (by decide) ?_
    exact Jt2 _ (by cases hm; exact hmt2) _ (lv_sub hl [] rfl)
  · replace hm := if_F c3 hm
    refine lv_iload_n (cx_x X) (cx_b X) dX2_isPresent_4 rfl (lv_at hl 1 rfl) ?_
    refine lv_bipush (v := (60 : Int32)) (cx_x X) (cx_b X) dX2_isPresent_5 (by decide) ?_
    refine lv_icmp_ge (tgt := 35) (cx_x X) (cx_b X) dX2_isPresent_7 (by decide) (fun c4 => ?_) (fun c4 => ?_)
    · replace hm := if_T c4 hm
      refine lv_iconst (v := (0 : Int32)) (cx_x X) (cx_b X) dX2_isPresent_35 (by decide) ?_
      exact Jt2 _ (by cases hm; exact hmt2) _ (lv_sub hl [] rfl)
    · replace hm := if_F c4 hm
      refine lv_aload_n (cx_x X) (cx_b X) dX2_isPresent_10 rfl (lv_at hl 0 rfl) ?_
      refine gf_X2_19 X hP2 dX2_isPresent_11 ?_
      refine lv_iload_n (cx_x X) (cx_b X) dX2_isPresent_14 rfl (lv_at hl 1 rfl) ?_
      obtain ⟨h5, hm⟩ := ck_E hm
      refine ld_2_1 X hP2 h5 dX2_isPresent_15 ?_
      refine lv_bipush (v := (-9 : Int32)) (cx_x X) (cx_b X) dX2_isPresent_16 (by decide) ?_
      refine lv_icmp_ne (tgt := 31) (cx_x X) (cx_b X) dX2_isPresent_18 (by decide) (fun c6 => ?_) (fun c6 => ?_)
      · replace hm := if_F c6 hm
        refine lv_iconst (v := (1 : Int32)) (cx_x X) (cx_b X) dX2_isPresent_31 (by decide) ?_
        refine lv_goto (tgt := 36) (cx_x X) (cx_b X) dX2_isPresent_32 (by decide) ?_
        exact Jt2 _ (by cases hm; exact hmt2) _ (lv_sub hl [] rfl)
      · replace hm := if_T c6 hm
        refine lv_aload_n (cx_x X) (cx_b X) dX2_isPresent_21 rfl (lv_at hl 0 rfl) ?_
        refine gf_X2_22 X hP2 dX2_isPresent_22 ?_
        refine lv_iload_n (cx_x X) (cx_b X) dX2_isPresent_25 rfl (lv_at hl 1 rfl) ?_
        obtain ⟨h7, hm⟩ := ck_E hm
        refine ld_2_2 X hP2 h7 dX2_isPresent_26 ?_
        refine lv_iconst (v := (1 : Int32)) (cx_x X) (cx_b X) dX2_isPresent_27 (by decide) ?_
        refine lv_icmp_ne (tgt := 35) (cx_x X) (cx_b X) dX2_isPresent_28 (by decide) (fun c8 => ?_) (fun c8 => ?_)
        · replace hm := if_F c8 hm
          refine lv_iconst (v := (0 : Int32)) (cx_x X) (cx_b X) dX2_isPresent_35 (by decide) ?_
          exact Jt2 _ (by cases hm; exact hmt2) _ (lv_sub hl [] rfl)
        · replace hm := if_T c8 hm
          refine lv_iconst (v := (1 : Int32)) (cx_x X) (cx_b X) dX2_isPresent_31 (by decide) ?_
          refine lv_goto (tgt := 36) (cx_x X) (cx_b X) dX2_isPresent_32 (by decide) ?_
          exact Jt2 _ (by cases hm; exact hmt2) _ (lv_sub hl [] rfl)
/-! X2_cellAt -/
def m2_cellAt_J19  (v3 : Int32) : Option Int32 :=
  some v3
def m2_cellAt (F : (Nat → Int32)) (R : (Nat → Nat → Int32)) (G : (Nat → Int32)) (Q : (Nat → Nat → Int32)) (a1 : Int32) : Option Int32 :=
  (m2_isPresent F R G Q a1).bind fun v2 =>
  (if v2 = 0 then
  some (-9 : Int32)
  else
  if inb a1 60 then
  some (R 0 a1.toNatClampNeg) else none).bind fun v3 => m2_cellAt_J19 v3
abbrev rm_X2_cellAt : Room := { frames := 1, cells := 0, slots := 0, locals := 21 }
set_option maxHeartbeats 4000000 in
set_option maxRecDepth 100000 in
theorem c_X2_cellAt (l : Launch) (D : va_G) (y : Nat → ClassId) (A B : Nat → Nat) (F : (Nat → Int32)) (R : (Nat → Nat → Int32)) (G : (Nat → Int32)) (Q : (Nat → Nat → Int32)) (a1 : Int32) (r : Int32) (hm : m2_cellAt F R G Q a1 = some r) : Met l yX2_cellAt (wy_s yX2_cellAt cX2_cellAt 2 (some .int)) rm_X2_cellAt (pc_R D y [.ref (A 0), .int a1] (fun H => va_P D vwCl (w2_s y (B 0) A F R) H ∧ va_P D vwCl (w1_s y B G Q) H)) (qc_R r) 0 0 (fun _ => False) := by
  refine met_R (by decide) (Nat.le_of_ble_eq_true rfl) ?_
  intro p e s m args below meth c X h0 ls hl
  obtain ⟨hP2, hP1⟩ := h0
  replace hl : lv_has ls 2 [(0, .ref (A 0)), (1, .int a1)] := hl
  replace X : cx p s m args meth c cX2_cellAt 2 (some .int) RX2 D y := X
  unfold m2_cellAt at hm
  refine lv_aload_n (cx_x X) (cx_b X) dX2_cellAt_0 rfl (lv_at hl 0 rfl) ?_
  refine lv_iload_n (cx_x X) (cx_b X) dX2_cellAt_1 rfl (lv_at hl 1 rfl) ?_
  obtain ⟨v2, h1, hm⟩ := bnd hm
  refine af_R (rn_V (As := [.int a1]) (rest := []) X (c_X2_isPresent l D y A B F R G Q a1  _ h1) vq_X2_76 ⟨rfl, rfl⟩ ⟨Nat.le_of_ble_eq_true rfl, Nat.le_of_ble_eq_true rfl⟩ (rec_2 X hP2) ⟨hP2, hP1⟩ rfl hl.1 rfl (Nat.le_of_ble_eq_true rfl) dX2_cellAt_2 ⟨Nat.le_refl _, Nat.le_refl _⟩) ?_
  obtain ⟨qt4, hm, hmt4⟩ := bnd hm
  have Jt4 : ∀ (v3 : Int32) , m2_cellAt_J19 v3 = some r → ∀ ls, lv_has ls 2 [] → gr p l e rm_X2_cellAt s m args below meth c r (F0 m 19 ls [.int v3]) := by
    intro v3 hm ls hl
    unfold m2_cellAt_J19 at hm
    exact gr_i X hm dX2_cellAt_19
  refine lv_if_eq (tgt := 17) (cx_x X) (cx_b X) dX2_cellAt_5 (by decide) (fun c5 => ?_) (fun c5 => ?_)
  · replace hm := if_T c5 hm
    refine lv_bipush (v := (-9 : Int32)) (cx_x X) (cx_b X) dX2_cellAt_17 (by decide) ?_
    exact Jt4 _ (by cases hm; exact hmt4) _ (lv_sub hl [] rfl)
  · replace hm := if_F c5 hm
    refine lv_aload_n (cx_x X) (cx_b X) dX2_cellAt_8 rfl (lv_at hl 0 rfl) ?_
    refine gf_X2_15 X hP2 dX2_cellAt_9 ?_
    refine lv_iload_n (cx_x X) (cx_b X) dX2_cellAt_12 rfl (lv_at hl 1 rfl) ?_
    obtain ⟨h6, hm⟩ := ck_E hm
    refine ld_2_0 X hP2 h6 dX2_cellAt_13 ?_
    refine lv_goto (tgt := 19) (cx_x X) (cx_b X) dX2_cellAt_14 (by decide) ?_
    exact Jt4 _ (by cases hm; exact hmt4) _ (lv_sub hl [] rfl)
/-! X2_channelAt -/
def m2_channelAt_J19  (v3 : Int32) : Option Int32 :=
  some v3
def m2_channelAt (F : (Nat → Int32)) (R : (Nat → Nat → Int32)) (G : (Nat → Int32)) (Q : (Nat → Nat → Int32)) (a1 : Int32) : Option Int32 :=
  (m2_isPresent F R G Q a1).bind fun v2 =>
  (if v2 = 0 then
  some (-9 : Int32)
  else
  if inb a1 60 then
  some (R 1 a1.toNatClampNeg) else none).bind fun v3 => m2_channelAt_J19 v3
abbrev rm_X2_channelAt : Room := { frames := 1, cells := 0, slots := 0, locals := 21 }
set_option maxHeartbeats 4000000 in
set_option maxRecDepth 100000 in
theorem c_X2_channelAt (l : Launch) (D : va_G) (y : Nat → ClassId) (A B : Nat → Nat) (F : (Nat → Int32)) (R : (Nat → Nat → Int32)) (G : (Nat → Int32)) (Q : (Nat → Nat → Int32)) (a1 : Int32) (r : Int32) (hm : m2_channelAt F R G Q a1 = some r) : Met l yX2_channelAt (wy_s yX2_channelAt cX2_channelAt 2 (some .int)) rm_X2_channelAt (pc_R D y [.ref (A 0), .int a1] (fun H => va_P D vwCl (w2_s y (B 0) A F R) H ∧ va_P D vwCl (w1_s y B G Q) H)) (qc_R r) 0 0 (fun _ => False) := by
  refine met_R (by decide) (Nat.le_of_ble_eq_true rfl) ?_
  intro p e s m args below meth c X h0 ls hl
  obtain ⟨hP2, hP1⟩ := h0
  replace hl : lv_has ls 2 [(0, .ref (A 0)), (1, .int a1)] := hl
  replace X : cx p s m args meth c cX2_channelAt 2 (some .int) RX2 D y := X
  unfold m2_channelAt at hm
  refine lv_aload_n (cx_x X) (cx_b X) dX2_channelAt_0 rfl (lv_at hl 0 rfl) ?_
  refine lv_iload_n (cx_x X) (cx_b X) dX2_channelAt_1 rfl (lv_at hl 1 rfl) ?_
  obtain ⟨v2, h1, hm⟩ := bnd hm
  refine af_R (rn_V (As := [.int a1]) (rest := []) X (c_X2_isPresent l D y A B F R G Q a1  _ h1) vq_X2_76 ⟨rfl, rfl⟩ ⟨Nat.le_of_ble_eq_true rfl, Nat.le_of_ble_eq_true rfl⟩ (rec_2 X hP2) ⟨hP2, hP1⟩ rfl hl.1 rfl (Nat.le_of_ble_eq_true rfl) dX2_channelAt_2 ⟨Nat.le_refl _, Nat.le_refl _⟩) ?_
  obtain ⟨qt4, hm, hmt4⟩ := bnd hm
  have Jt4 : ∀ (v3 : Int32) , m2_channelAt_J19 v3 = some r → ∀ ls, lv_has ls 2 [] → gr p l e rm_X2_channelAt s m args below meth c r (F0 m 19 ls [.int v3]) := by
    intro v3 hm ls hl
    unfold m2_channelAt_J19 at hm
    exact gr_i X hm dX2_channelAt_19
  refine lv_if_eq (tgt := 17) (cx_x X) (cx_b X) dX2_channelAt_5 (by decide) (fun c5 => ?_) (fun c5 => ?_)
  · replace hm := if_T c5 hm
    refine lv_bipush (v := (-9 : Int32)) (cx_x X) (cx_b X) dX2_channelAt_17 (by decide) ?_
    exact Jt4 _ (by cases hm; exact hmt4) _ (lv_sub hl [] rfl)
  · replace hm := if_F c5 hm
    refine lv_aload_n (cx_x X) (cx_b X) dX2_channelAt_8 rfl (lv_at hl 0 rfl) ?_
    refine gf_X2_19 X hP2 dX2_channelAt_9 ?_
    refine lv_iload_n (cx_x X) (cx_b X) dX2_channelAt_12 rfl (lv_at hl 1 rfl) ?_
    obtain ⟨h6, hm⟩ := ck_E hm
    refine ld_2_1 X hP2 h6 dX2_channelAt_13 ?_
    refine lv_goto (tgt := 19) (cx_x X) (cx_b X) dX2_channelAt_14 (by decide) ?_
    exact Jt4 _ (by cases hm; exact hmt4) _ (lv_sub hl [] rfl)
/-! X2_isFixed -/
def m2_isFixed_J23  (v3 : Int32) : Option Int32 :=
  if v3 &&& 1 = v3 then some v3 else none
def m2_isFixed (F : (Nat → Int32)) (R : (Nat → Nat → Int32)) (G : (Nat → Int32)) (Q : (Nat → Nat → Int32)) (a1 : Int32) : Option Int32 :=
  (m2_isPresent F R G Q a1).bind fun v2 =>
  (if v2 = 0 then
  some (0 : Int32)
  else
  if inb a1 60 then
  if (R 2 a1.toNatClampNeg) = (1 : Int32) then
  some (1 : Int32)
  else
  some (0 : Int32) else none).bind fun v3 => m2_isFixed_J23 v3
abbrev rm_X2_isFixed : Room := { frames := 1, cells := 0, slots := 0, locals := 21 }
set_option maxHeartbeats 4000000 in
set_option maxRecDepth 100000 in
theorem c_X2_isFixed (l : Launch) (D : va_G) (y : Nat → ClassId) (A B : Nat → Nat) (F : (Nat → Int32)) (R : (Nat → Nat → Int32)) (G : (Nat → Int32)) (Q : (Nat → Nat → Int32)) (a1 : Int32) (r : Int32) (hm : m2_isFixed F R G Q a1 = some r) : Met l yX2_isFixed (wy_s yX2_isFixed cX2_isFixed 2 (some .boolean)) rm_X2_isFixed (pc_R D y [.ref (A 0), .int a1] (fun H => va_P D vwCl (w2_s y (B 0) A F R) H ∧ va_P D vwCl (w1_s y B G Q) H)) (qc_R r) 0 0 (fun _ => False) := by
  refine met_R (by decide) (Nat.le_of_ble_eq_true rfl) ?_
  intro p e s m args below meth c X h0 ls hl
  obtain ⟨hP2, hP1⟩ := h0
  replace hl : lv_has ls 2 [(0, .ref (A 0)), (1, .int a1)] := hl
  replace X : cx p s m args meth c cX2_isFixed 2 (some .boolean) RX2 D y := X
  unfold m2_isFixed at hm
  refine lv_aload_n (cx_x X) (cx_b X) dX2_isFixed_0 rfl (lv_at hl 0 rfl) ?_
  refine lv_iload_n (cx_x X) (cx_b X) dX2_isFixed_1 rfl (lv_at hl 1 rfl) ?_
  obtain ⟨v2, h1, hm⟩ := bnd hm
  refine af_R (rn_V (As := [.int a1]) (rest := []) X (c_X2_isPresent l D y A B F R G Q a1  _ h1) vq_X2_76 ⟨rfl, rfl⟩ ⟨Nat.le_of_ble_eq_true rfl, Nat.le_of_ble_eq_true rfl⟩ (rec_2 X hP2) ⟨hP2, hP1⟩ rfl hl.1 rfl (Nat.le_of_ble_eq_true rfl) dX2_isFixed_2 ⟨Nat.le_refl _, Nat.le_refl _⟩) ?_
  obtain ⟨qt4, hm, hmt4⟩ := bnd hm
  have Jt4 : ∀ (v3 : Int32) , m2_isFixed_J23 v3 = some r → ∀ ls, lv_has ls 2 [] → gr p l e rm_X2_isFixed s m args below meth c r (F0 m 23 ls [.int v3]) := by
    intro v3 hm ls hl
    unfold m2_isFixed_J23 at hm
    obtain ⟨h0, hm⟩ := ck_E hm
    exact gr_z X h0 hm dX2_isFixed_23
  refine lv_if_eq (tgt := 22) (cx_x X) (cx_b X) dX2_isFixed_5 (by decide) (fun c5 => ?_) (fun c5 => ?_)
  · replace hm := if_T c5 hm
    refine lv_iconst (v := (0 : Int32)) (cx_x X) (cx_b X) dX2_isFixed_22 (by decide) ?_
    exact Jt4 _ (by cases hm; exact hmt4) _ (lv_sub hl [] rfl)
  · replace hm := if_F c5 hm
    refine lv_aload_n (cx_x X) (cx_b X) dX2_isFixed_8 rfl (lv_at hl 0 rfl) ?_
    refine gf_X2_22 X hP2 dX2_isFixed_9 ?_
    refine lv_iload_n (cx_x X) (cx_b X) dX2_isFixed_12 rfl (lv_at hl 1 rfl) ?_
    obtain ⟨h6, hm⟩ := ck_E hm
    refine ld_2_2 X hP2 h6 dX2_isFixed_13 ?_
    refine lv_iconst (v := (1 : Int32)) (cx_x X) (cx_b X) dX2_isFixed_14 (by decide) ?_
    refine lv_icmp_ne (tgt := 22) (cx_x X) (cx_b X) dX2_isFixed_15 (by decide) (fun c7 => ?_) (fun c7 => ?_)
    · replace hm := if_F c7 hm
      refine lv_iconst (v := (0 : Int32)) (cx_x X) (cx_b X) dX2_isFixed_22 (by decide) ?_
      exact Jt4 _ (by cases hm; exact hmt4) _ (lv_sub hl [] rfl)
    · replace hm := if_T c7 hm
      refine lv_iconst (v := (1 : Int32)) (cx_x X) (cx_b X) dX2_isFixed_18 (by decide) ?_
      refine lv_goto (tgt := 23) (cx_x X) (cx_b X) dX2_isFixed_19 (by decide) ?_
      exact Jt4 _ (by cases hm; exact hmt4) _ (lv_sub hl [] rfl)
/-! X2_isNominal -/
def m2_isNominal (F : (Nat → Int32)) (R : (Nat → Nat → Int32)) (G : (Nat → Int32)) (Q : (Nat → Nat → Int32)) (a1 : Int32) (a2 : Int32) : Option Int32 :=
  (m1_nominalsOf G Q a1).bind fun v2 =>
  (m4_contains v2 a2).bind fun v4 =>
  if v4 &&& 1 = v4 then some v4 else none
abbrev rm_X2_isNominal : Room := { frames := 1, cells := 0, slots := 0, locals := 21 }
set_option maxHeartbeats 4000000 in
set_option maxRecDepth 100000 in
theorem c_X2_isNominal (l : Launch) (D : va_G) (y : Nat → ClassId) (A B : Nat → Nat) (F : (Nat → Int32)) (R : (Nat → Nat → Int32)) (G : (Nat → Int32)) (Q : (Nat → Nat → Int32)) (a1 : Int32) (a2 : Int32) (r : Int32) (hm : m2_isNominal F R G Q a1 a2 = some r) : Met l yX2_isNominal (wy_s yX2_isNominal cX2_isNominal 3 (some .boolean)) rm_X2_isNominal (pc_R D y [.ref (A 0), .int a1, .int a2] (fun H => va_P D vwCl (w2_s y (B 0) A F R) H ∧ va_P D vwCl (w1_s y B G Q) H)) (qc_R r) 0 0 (fun _ => False) := by
  refine met_R (by decide) (Nat.le_of_ble_eq_true rfl) ?_
  intro p e s m args below meth c X h0 ls hl
  obtain ⟨hP2, hP1⟩ := h0
  replace hl : lv_has ls 3 [(0, .ref (A 0)), (1, .int a1), (2, .int a2)] := hl
  replace X : cx p s m args meth c cX2_isNominal 3 (some .boolean) RX2 D y := X
  unfold m2_isNominal at hm
  refine lv_aload_n (cx_x X) (cx_b X) dX2_isNominal_0 rfl (lv_at hl 0 rfl) ?_
  refine gf_X2_32 X hP2 dX2_isNominal_1 ?_
  refine lv_iload_n (cx_x X) (cx_b X) dX2_isNominal_4 rfl (lv_at hl 1 rfl) ?_
  obtain ⟨v2, h1, hm⟩ := bnd hm
  refine af_R (rn_V (As := [.int a1]) (rest := []) X (c_X1_nominalsOf l D y B G Q a1  _ h1) vq_X2_151 ⟨rfl, rfl⟩ ⟨Nat.le_of_ble_eq_true rfl, Nat.le_of_ble_eq_true rfl⟩ (rec_1 X hP1) hP1 rfl hl.1 rfl (Nat.le_of_ble_eq_true rfl) dX2_isNominal_5 ⟨Nat.le_refl _, Nat.le_refl _⟩) ?_
  refine lv_iload_n (cx_x X) (cx_b X) dX2_isNominal_8 rfl (lv_at hl 2 rfl) ?_
  obtain ⟨v4, h3, hm⟩ := bnd hm
  refine af_R (rn_N (As := [.int v2, .int a2]) (rest := []) X (c_X4_contains l D y v2 a2  _ h3) nq_X2_154 ⟨rfl, rfl⟩ ⟨Nat.le_of_ble_eq_true rfl, Nat.le_of_ble_eq_true rfl⟩ trivial rfl hl.1 rfl (Nat.le_of_ble_eq_true rfl) dX2_isNominal_9 ⟨Nat.le_refl _, Nat.le_refl _⟩) ?_
  obtain ⟨h0, hm⟩ := ck_E hm
  exact gr_z X h0 hm dX2_isNominal_12
/-! X2_borrows -/
def m2_borrows_J30  (v3 : Int32) : Option Int32 :=
  if v3 &&& 1 = v3 then some v3 else none
def m2_borrows (F : (Nat → Int32)) (R : (Nat → Nat → Int32)) (G : (Nat → Int32)) (Q : (Nat → Nat → Int32)) (a1 : Int32) : Option Int32 :=
  (m2_channelAt F R G Q a1).bind fun v2 =>
  (if v2 = (-9 : Int32) then
  some (0 : Int32)
  else
  (m2_cellAt F R G Q a1).bind fun v7 =>
  (m2_isNominal F R G Q v7 v2).bind fun v9 =>
  if v9 = 0 then
  some (1 : Int32)
  else
  some (0 : Int32)).bind fun v3 => m2_borrows_J30 v3
abbrev rm_X2_borrows : Room := { frames := 2, cells := 0, slots := 0, locals := 43 }
set_option maxHeartbeats 4000000 in
set_option maxRecDepth 100000 in
theorem c_X2_borrows (l : Launch) (D : va_G) (y : Nat → ClassId) (A B : Nat → Nat) (F : (Nat → Int32)) (R : (Nat → Nat → Int32)) (G : (Nat → Int32)) (Q : (Nat → Nat → Int32)) (a1 : Int32) (r : Int32) (hm : m2_borrows F R G Q a1 = some r) : Met l yX2_borrows (wy_s yX2_borrows cX2_borrows 3 (some .boolean)) rm_X2_borrows (pc_R D y [.ref (A 0), .int a1] (fun H => va_P D vwCl (w2_s y (B 0) A F R) H ∧ va_P D vwCl (w1_s y B G Q) H)) (qc_R r) 0 0 (fun _ => False) := by
  refine met_R (by decide) (Nat.le_of_ble_eq_true rfl) ?_
  intro p e s m args below meth c X h0 ls hl
  obtain ⟨hP2, hP1⟩ := h0
  replace hl : lv_has ls 3 [(0, .ref (A 0)), (1, .int a1)] := hl
  replace X : cx p s m args meth c cX2_borrows 3 (some .boolean) RX2 D y := X
  unfold m2_borrows at hm
  refine lv_aload_n (cx_x X) (cx_b X) dX2_borrows_0 rfl (lv_at hl 0 rfl) ?_
  refine lv_iload_n (cx_x X) (cx_b X) dX2_borrows_1 rfl (lv_at hl 1 rfl) ?_
  obtain ⟨v2, h1, hm⟩ := bnd hm
  refine af_R (rn_V (As := [.int a1]) (rest := []) X (c_X2_channelAt l D y A B F R G Q a1  _ h1) vq_X2_80 ⟨rfl, rfl⟩ ⟨Nat.le_of_ble_eq_true rfl, Nat.le_of_ble_eq_true rfl⟩ (rec_2 X hP2) ⟨hP2, hP1⟩ rfl hl.1 rfl (Nat.le_of_ble_eq_true rfl) dX2_borrows_2 ⟨Nat.le_refl _, Nat.le_refl _⟩) ?_
  refine lv_istore_n (lv' := [(2, .int v2), (0, .ref (A 0)), (1, .int a1)]) (cx_x X) (cx_b X) dX2_borrows_5 rfl hl (by decide) rfl (fun ls hl => ?_)
  refine lv_iload_n (cx_x X) (cx_b X) dX2_borrows_6 rfl (lv_at hl 0 rfl) ?_
  refine lv_bipush (v := (-9 : Int32)) (cx_x X) (cx_b X) dX2_borrows_7 (by decide) ?_
  obtain ⟨qt4, hm, hmt4⟩ := bnd hm
  have Jt4 : ∀ (v3 : Int32) , m2_borrows_J30 v3 = some r → ∀ ls, lv_has ls 3 [] → gr p l e rm_X2_borrows s m args below meth c r (F0 m 30 ls [.int v3]) := by
    intro v3 hm ls hl
    unfold m2_borrows_J30 at hm
    obtain ⟨h0, hm⟩ := ck_E hm
    exact gr_z X h0 hm dX2_borrows_30
  refine lv_icmp_eq (tgt := 29) (cx_x X) (cx_b X) dX2_borrows_9 (by decide) (fun c5 => ?_) (fun c5 => ?_)
  · replace hm := if_T c5 hm
    refine lv_iconst (v := (0 : Int32)) (cx_x X) (cx_b X) dX2_borrows_29 (by decide) ?_
    exact Jt4 _ (by cases hm; exact hmt4) _ (lv_sub hl [] rfl)
  · replace hm := if_F c5 hm
    refine lv_aload_n (cx_x X) (cx_b X) dX2_borrows_12 rfl (lv_at hl 1 rfl) ?_
    refine lv_aload_n (cx_x X) (cx_b X) dX2_borrows_13 rfl (lv_at hl 1 rfl) ?_
    refine lv_iload_n (cx_x X) (cx_b X) dX2_borrows_14 rfl (lv_at hl 2 rfl) ?_
    obtain ⟨v7, h6, hm⟩ := bnd hm
    refine af_R (rn_V (As := [.int a1]) (rest := [.ref (A 0)]) X (c_X2_cellAt l D y A B F R G Q a1  _ h6) vq_X2_84 ⟨rfl, rfl⟩ ⟨Nat.le_of_ble_eq_true rfl, Nat.le_of_ble_eq_true rfl⟩ (rec_2 X hP2) ⟨hP2, hP1⟩ rfl hl.1 rfl (Nat.le_of_ble_eq_true rfl) dX2_borrows_15 ⟨Nat.le_refl _, Nat.le_refl _⟩) ?_
    refine lv_iload_n (cx_x X) (cx_b X) dX2_borrows_18 rfl (lv_at hl 0 rfl) ?_
    obtain ⟨v9, h8, hm⟩ := bnd hm
    refine af_R (rn_V (As := [.int v7, .int v2]) (rest := []) X (c_X2_isNominal l D y A B F R G Q v7 v2  _ h8) vq_X2_87 ⟨rfl, rfl⟩ ⟨Nat.le_of_ble_eq_true rfl, Nat.le_of_ble_eq_true rfl⟩ (rec_2 X hP2) ⟨hP2, hP1⟩ rfl hl.1 rfl (Nat.le_of_ble_eq_true rfl) dX2_borrows_19 ⟨Nat.le_refl _, Nat.le_refl _⟩) ?_
    refine lv_if_ne (tgt := 29) (cx_x X) (cx_b X) dX2_borrows_22 (by decide) (fun c10 => ?_) (fun c10 => ?_)
    · replace hm := if_F c10 hm
      refine lv_iconst (v := (0 : Int32)) (cx_x X) (cx_b X) dX2_borrows_29 (by decide) ?_
      exact Jt4 _ (by cases hm; exact hmt4) _ (lv_sub hl [] rfl)
    · replace hm := if_T c10 hm
      refine lv_iconst (v := (1 : Int32)) (cx_x X) (cx_b X) dX2_borrows_25 (by decide) ?_
      refine lv_goto (tgt := 30) (cx_x X) (cx_b X) dX2_borrows_26 (by decide) ?_
      exact Jt4 _ (by cases hm; exact hmt4) _ (lv_sub hl [] rfl)
/-! X2_presentCalls -/
def m2_presentCalls_X27  (v4 : Int32) : Option Int32 :=
  some v4
def m2_presentCalls_J21 (kkt1 : (Int32 × Int32) → Option Int32) (v3 : Int32) (v8 : Int32) : Option Int32 :=
  kkt1 (v8, (v3 + (1 : Int32)))
def m2_presentCalls_L4 (F : (Nat → Int32)) (R : (Nat → Nat → Int32)) (G : (Nat → Int32)) (Q : (Nat → Nat → Int32)) (kkt1 : (Int32 × Int32) → Option Int32) (t0 : (Int32 × Int32)) : Option Int32 :=
  if (60 : Int32) ≤ t0.2 then
  some t0.1
  else
  (m2_isPresent F R G Q t0.2).bind fun v7 =>
  (if v7 = 0 then
  some t0.1
  else
  some (t0.1 + (1 : Int32))).bind fun v8 => m2_presentCalls_J21 kkt1 t0.2 v8
def m2_presentCalls (F : (Nat → Int32)) (R : (Nat → Nat → Int32)) (G : (Nat → Int32)) (Q : (Nat → Nat → Int32)) : Option Int32 :=
  (wh (m2_presentCalls_L4 F R G Q) 2000 ((0 : Int32), (0 : Int32))).bind fun v4 => m2_presentCalls_X27 v4
abbrev rm_X2_presentCalls : Room := { frames := 1, cells := 0, slots := 0, locals := 21 }
set_option maxHeartbeats 4000000 in
set_option maxRecDepth 100000 in
theorem c_X2_presentCalls (l : Launch) (D : va_G) (y : Nat → ClassId) (A B : Nat → Nat) (F : (Nat → Int32)) (R : (Nat → Nat → Int32)) (G : (Nat → Int32)) (Q : (Nat → Nat → Int32)) (r : Int32) (hm : m2_presentCalls F R G Q = some r) : Met l yX2_presentCalls (wy_s yX2_presentCalls cX2_presentCalls 3 (some .int)) rm_X2_presentCalls (pc_R D y [.ref (A 0)] (fun H => va_P D vwCl (w2_s y (B 0) A F R) H ∧ va_P D vwCl (w1_s y B G Q) H)) (qc_R r) 0 0 (fun _ => False) := by
  refine met_R (by decide) (Nat.le_of_ble_eq_true rfl) ?_
  intro p e s m args below meth c X h0 ls hl
  obtain ⟨hP2, hP1⟩ := h0
  replace hl : lv_has ls 3 [(0, .ref (A 0))] := hl
  replace X : cx p s m args meth c cX2_presentCalls 3 (some .int) RX2 D y := X
  unfold m2_presentCalls at hm
  refine lv_iconst (v := (0 : Int32)) (cx_x X) (cx_b X) dX2_presentCalls_0 (by decide) ?_
  refine lv_istore_n (lv' := [(1, .int (0 : Int32)), (0, .ref (A 0))]) (cx_x X) (cx_b X) dX2_presentCalls_1 rfl hl (by decide) rfl (fun ls hl => ?_)
  refine lv_iconst (v := (0 : Int32)) (cx_x X) (cx_b X) dX2_presentCalls_2 (by decide) ?_
  refine lv_istore_n (lv' := [(2, .int (0 : Int32)), (1, .int (0 : Int32)), (0, .ref (A 0))]) (cx_x X) (cx_b X) dX2_presentCalls_3 rfl hl (by decide) rfl (fun ls hl => ?_)
  obtain ⟨qt1, hm, hmt1⟩ := bnd hm
  have Xt1 : ∀ (v4 : Int32) , m2_presentCalls_X27 v4 = some r → ∀ ls, lv_has ls 3 [(1, .int v4)] → gr p l e rm_X2_presentCalls s m args below meth c r (F0 m 27 ls []) := by
    intro v4 hm ls hl
    unfold m2_presentCalls_X27 at hm
    refine lv_iload_n (cx_x X) (cx_b X) dX2_presentCalls_27 rfl (lv_at hl 0 rfl) ?_
    exact gr_i X hm dX2_presentCalls_28
  have Lt1 : ∀ (n : Nat) (v2 : Int32) (v3 : Int32) , wh (m2_presentCalls_L4 F R G Q) n (v2, v3) = some qt1 → ∀ ls, lv_has ls 3 [(0, .ref (A 0)), (1, .int v2), (2, .int v3)] → gr p l e rm_X2_presentCalls s m args below meth c r (F0 m 4 ls []) := by
    intro n
    induction n with
    | zero => intro v2 v3 hm; cases hm
    | succ n ih =>
      intro v2 v3 hm ls hl
      replace hm : (m2_presentCalls_L4 F R G Q) (wh (m2_presentCalls_L4 F R G Q) n) (v2, v3) = some qt1 := hm
      dsimp only [m2_presentCalls_L4] at hm
      refine lv_iload_n (cx_x X) (cx_b X) dX2_presentCalls_4 rfl (lv_at hl 2 rfl) ?_
      refine lv_bipush (v := (60 : Int32)) (cx_x X) (cx_b X) dX2_presentCalls_5 (by decide) ?_
      refine lv_icmp_ge (tgt := 27) (cx_x X) (cx_b X) dX2_presentCalls_7 (by decide) (fun c5 => ?_) (fun c5 => ?_)
      · replace hm := if_T c5 hm
        exact Xt1 _ (by cases hm; exact hmt1) _ (lv_sub hl [1] rfl)
      · replace hm := if_F c5 hm
        refine lv_aload_n (cx_x X) (cx_b X) dX2_presentCalls_10 rfl (lv_at hl 0 rfl) ?_
        refine lv_iload_n (cx_x X) (cx_b X) dX2_presentCalls_11 rfl (lv_at hl 2 rfl) ?_
        obtain ⟨v7, h6, hm⟩ := bnd hm
        refine af_R (rn_V (As := [.int v3]) (rest := []) X (c_X2_isPresent l D y A B F R G Q v3  _ h6) vq_X2_76 ⟨rfl, rfl⟩ ⟨Nat.le_of_ble_eq_true rfl, Nat.le_of_ble_eq_true rfl⟩ (rec_2 X hP2) ⟨hP2, hP1⟩ rfl hl.1 rfl (Nat.le_of_ble_eq_true rfl) dX2_presentCalls_12 ⟨Nat.le_refl _, Nat.le_refl _⟩) ?_
        obtain ⟨qt9, hm, hmt9⟩ := bnd hm
        have Jt9 : ∀ (v8 : Int32) , m2_presentCalls_J21 (wh (m2_presentCalls_L4 F R G Q) n) v3 v8 = some qt1 → ∀ ls, lv_has ls 3 [(0, .ref (A 0)), (1, .int v8), (2, .int v3)] → gr p l e rm_X2_presentCalls s m args below meth c r (F0 m 21 ls []) := by
          intro v8 hm ls hl
          unfold m2_presentCalls_J21 at hm
          refine lv_iinc (v := (v3 + (1 : Int32))) (lv' := [(2, .int (v3 + (1 : Int32))), (0, .ref (A 0)), (1, .int v8)]) (cx_x X) (cx_b X) dX2_presentCalls_21 hl (k := 2) rfl (by rfl) (by decide) rfl (fun ls hl => ?_)
          refine lv_goto (tgt := 4) (cx_x X) (cx_b X) dX2_presentCalls_24 (by decide) ?_
          exact ih _ _ hm _ (lv_sub hl [1, 2, 0] rfl)
        refine lv_if_eq (tgt := 21) (cx_x X) (cx_b X) dX2_presentCalls_15 (by decide) (fun c10 => ?_) (fun c10 => ?_)
        · replace hm := if_T c10 hm
          exact Jt9 _ (by cases hm; exact hmt9) _ (lv_sub hl [0, 1, 2] rfl)
        · replace hm := if_F c10 hm
          refine lv_iinc (v := (v2 + (1 : Int32))) (lv' := [(1, .int (v2 + (1 : Int32))), (0, .ref (A 0)), (2, .int v3)]) (cx_x X) (cx_b X) dX2_presentCalls_18 hl (k := 1) rfl (by rfl) (by decide) rfl (fun ls hl => ?_)
          exact Jt9 _ (by cases hm; exact hmt9) _ (lv_sub hl [1, 0, 2] rfl)
  exact Lt1 _ _ _ hm _ (lv_sub hl [2, 1, 0] rfl)
/-! X2_lowestFreeNumber -/
def m2_lowestFreeNumber_L2 (F : (Nat → Int32)) (R : (Nat → Nat → Int32)) (G : (Nat → Int32)) (Q : (Nat → Nat → Int32)) (kkt1 : Int32 → Option Int32) (t0 : Int32) : Option Int32 :=
  if (60 : Int32) ≤ t0 then
  some (-9 : Int32)
  else
  (m2_isPresent F R G Q t0).bind fun v5 =>
  if v5 = 0 then
  some t0
  else
  kkt1 (t0 + (1 : Int32))
def m2_lowestFreeNumber (F : (Nat → Int32)) (R : (Nat → Nat → Int32)) (G : (Nat → Int32)) (Q : (Nat → Nat → Int32)) : Option Int32 :=
  wh (m2_lowestFreeNumber_L2 F R G Q) 2000 (0 : Int32)
abbrev rm_X2_lowestFreeNumber : Room := { frames := 1, cells := 0, slots := 0, locals := 21 }
set_option maxHeartbeats 4000000 in
set_option maxRecDepth 100000 in
theorem c_X2_lowestFreeNumber (l : Launch) (D : va_G) (y : Nat → ClassId) (A B : Nat → Nat) (F : (Nat → Int32)) (R : (Nat → Nat → Int32)) (G : (Nat → Int32)) (Q : (Nat → Nat → Int32)) (r : Int32) (hm : m2_lowestFreeNumber F R G Q = some r) : Met l yX2_lowestFreeNumber (wy_s yX2_lowestFreeNumber cX2_lowestFreeNumber 2 (some .int)) rm_X2_lowestFreeNumber (pc_R D y [.ref (A 0)] (fun H => va_P D vwCl (w2_s y (B 0) A F R) H ∧ va_P D vwCl (w1_s y B G Q) H)) (qc_R r) 0 0 (fun _ => False) := by
  refine met_R (by decide) (Nat.le_of_ble_eq_true rfl) ?_
  intro p e s m args below meth c X h0 ls hl
  obtain ⟨hP2, hP1⟩ := h0
  replace hl : lv_has ls 2 [(0, .ref (A 0))] := hl
  replace X : cx p s m args meth c cX2_lowestFreeNumber 2 (some .int) RX2 D y := X
  unfold m2_lowestFreeNumber at hm
  refine lv_iconst (v := (0 : Int32)) (cx_x X) (cx_b X) dX2_lowestFreeNumber_0 (by decide) ?_
  refine lv_istore_n (lv' := [(1, .int (0 : Int32)), (0, .ref (A 0))]) (cx_x X) (cx_b X) dX2_lowestFreeNumber_1 rfl hl (by decide) rfl (fun ls hl => ?_)
  have Lt1 : ∀ (n : Nat) (v2 : Int32) , wh (m2_lowestFreeNumber_L2 F R G Q) n v2 = some r → ∀ ls, lv_has ls 2 [(0, .ref (A 0)), (1, .int v2)] → gr p l e rm_X2_lowestFreeNumber s m args below meth c r (F0 m 2 ls []) := by
    intro n
    induction n with
    | zero => intro v2 hm; cases hm
    | succ n ih =>
      intro v2 hm ls hl
      replace hm : (m2_lowestFreeNumber_L2 F R G Q) (wh (m2_lowestFreeNumber_L2 F R G Q) n) v2 = some r := hm
      dsimp only [m2_lowestFreeNumber_L2] at hm
      refine lv_iload_n (cx_x X) (cx_b X) dX2_lowestFreeNumber_2 rfl (lv_at hl 1 rfl) ?_
      refine lv_bipush (v := (60 : Int32)) (cx_x X) (cx_b X) dX2_lowestFreeNumber_3 (by decide) ?_
      refine lv_icmp_ge (tgt := 24) (cx_x X) (cx_b X) dX2_lowestFreeNumber_5 (by decide) (fun c3 => ?_) (fun c3 => ?_)
      · replace hm := if_T c3 hm
        refine lv_bipush (v := (-9 : Int32)) (cx_x X) (cx_b X) dX2_lowestFreeNumber_24 (by decide) ?_
        exact gr_i X hm dX2_lowestFreeNumber_26
      · replace hm := if_F c3 hm
        refine lv_aload_n (cx_x X) (cx_b X) dX2_lowestFreeNumber_8 rfl (lv_at hl 0 rfl) ?_
        refine lv_iload_n (cx_x X) (cx_b X) dX2_lowestFreeNumber_9 rfl (lv_at hl 1 rfl) ?_
        obtain ⟨v5, h4, hm⟩ := bnd hm
        refine af_R (rn_V (As := [.int v2]) (rest := []) X (c_X2_isPresent l D y A B F R G Q v2  _ h4) vq_X2_76 ⟨rfl, rfl⟩ ⟨Nat.le_of_ble_eq_true rfl, Nat.le_of_ble_eq_true rfl⟩ (rec_2 X hP2) ⟨hP2, hP1⟩ rfl hl.1 rfl (Nat.le_of_ble_eq_true rfl) dX2_lowestFreeNumber_10 ⟨Nat.le_refl _, Nat.le_refl _⟩) ?_
        refine lv_if_ne (tgt := 18) (cx_x X) (cx_b X) dX2_lowestFreeNumber_13 (by decide) (fun c6 => ?_) (fun c6 => ?_)
        · replace hm := if_F c6 hm
          refine lv_iinc (v := (v2 + (1 : Int32))) (lv' := [(1, .int (v2 + (1 : Int32))), (0, .ref (A 0))]) (cx_x X) (cx_b X) dX2_lowestFreeNumber_18 hl (k := 1) rfl (by rfl) (by decide) rfl (fun ls hl => ?_)
          refine lv_goto (tgt := 2) (cx_x X) (cx_b X) dX2_lowestFreeNumber_21 (by decide) ?_
          exact ih _ hm _ (lv_sub hl [1, 0] rfl)
        · replace hm := if_T c6 hm
          refine lv_iload_n (cx_x X) (cx_b X) dX2_lowestFreeNumber_16 rfl (lv_at hl 1 rfl) ?_
          exact gr_i X hm dX2_lowestFreeNumber_17
  exact Lt1 _ _ hm _ (lv_sub hl [1, 0] rfl)
/-! X2_startError -/
def m2_startError_J28  (v6 : Int32) : Option Int32 :=
  some v6
def m2_startError (F : (Nat → Int32)) (R : (Nat → Nat → Int32)) (G : (Nat → Int32)) (Q : (Nat → Nat → Int32)) (a1 : Int32) : Option Int32 :=
  (m1_hasCell G Q a1).bind fun v2 =>
  if v2 = 0 then
  some (-1 : Int32)
  else
  (m2_lowestFreeNumber F R G Q).bind fun v5 =>
  (if v5 = (-9 : Int32) then
  some (-3 : Int32)
  else
  some (0 : Int32)).bind fun v6 => m2_startError_J28 v6
abbrev rm_X2_startError : Room := { frames := 2, cells := 0, slots := 0, locals := 42 }
set_option maxHeartbeats 4000000 in
set_option maxRecDepth 100000 in
theorem c_X2_startError (l : Launch) (D : va_G) (y : Nat → ClassId) (A B : Nat → Nat) (F : (Nat → Int32)) (R : (Nat → Nat → Int32)) (G : (Nat → Int32)) (Q : (Nat → Nat → Int32)) (a1 : Int32) (r : Int32) (hm : m2_startError F R G Q a1 = some r) : Met l yX2_startError (wy_s yX2_startError cX2_startError 2 (some .int)) rm_X2_startError (pc_R D y [.ref (A 0), .int a1] (fun H => va_P D vwCl (w2_s y (B 0) A F R) H ∧ va_P D vwCl (w1_s y B G Q) H)) (qc_R r) 0 0 (fun _ => False) := by
  refine met_R (by decide) (Nat.le_of_ble_eq_true rfl) ?_
  intro p e s m args below meth c X h0 ls hl
  obtain ⟨hP2, hP1⟩ := h0
  replace hl : lv_has ls 2 [(0, .ref (A 0)), (1, .int a1)] := hl
  replace X : cx p s m args meth c cX2_startError 2 (some .int) RX2 D y := X
  unfold m2_startError at hm
  refine lv_aload_n (cx_x X) (cx_b X) dX2_startError_0 rfl (lv_at hl 0 rfl) ?_
  refine gf_X2_32 X hP2 dX2_startError_1 ?_
  refine lv_iload_n (cx_x X) (cx_b X) dX2_startError_4 rfl (lv_at hl 1 rfl) ?_
  obtain ⟨v2, h1, hm⟩ := bnd hm
  refine af_R (rn_V (As := [.int a1]) (rest := []) X (c_X1_hasCell l D y B G Q a1  _ h1) vq_X2_91 ⟨rfl, rfl⟩ ⟨Nat.le_of_ble_eq_true rfl, Nat.le_of_ble_eq_true rfl⟩ (rec_1 X hP1) hP1 rfl hl.1 rfl (Nat.le_of_ble_eq_true rfl) dX2_startError_5 ⟨Nat.le_refl _, Nat.le_refl _⟩) ?_
  refine lv_if_ne (tgt := 13) (cx_x X) (cx_b X) dX2_startError_8 (by decide) (fun c3 => ?_) (fun c3 => ?_)
  · replace hm := if_F c3 hm
    refine lv_aload_n (cx_x X) (cx_b X) dX2_startError_13 rfl (lv_at hl 0 rfl) ?_
    obtain ⟨v5, h4, hm⟩ := bnd hm
    refine af_R (rn_V (As := []) (rest := []) X (c_X2_lowestFreeNumber l D y A B F R G Q  _ h4) vq_X2_96 ⟨rfl, rfl⟩ ⟨Nat.le_of_ble_eq_true rfl, Nat.le_of_ble_eq_true rfl⟩ (rec_2 X hP2) ⟨hP2, hP1⟩ rfl hl.1 rfl (Nat.le_of_ble_eq_true rfl) dX2_startError_14 ⟨Nat.le_refl _, Nat.le_refl _⟩) ?_
    refine lv_bipush (v := (-9 : Int32)) (cx_x X) (cx_b X) dX2_startError_17 (by decide) ?_
    obtain ⟨qt7, hm, hmt7⟩ := bnd hm
    have Jt7 : ∀ (v6 : Int32) , m2_startError_J28 v6 = some r → ∀ ls, lv_has ls 2 [] → gr p l e rm_X2_startError s m args below meth c r (F0 m 28 ls [.int v6]) := by
      intro v6 hm ls hl
      unfold m2_startError_J28 at hm
      exact gr_i X hm dX2_startError_28
    refine lv_icmp_ne (tgt := 27) (cx_x X) (cx_b X) dX2_startError_19 (by decide) (fun c8 => ?_) (fun c8 => ?_)
    · replace hm := if_F c8 hm
      refine lv_iconst (v := (0 : Int32)) (cx_x X) (cx_b X) dX2_startError_27 (by decide) ?_
      exact Jt7 _ (by cases hm; exact hmt7) _ (lv_sub hl [] rfl)
    · replace hm := if_T c8 hm
      refine lv_bipush (v := (-3 : Int32)) (cx_x X) (cx_b X) dX2_startError_22 (by decide) ?_
      refine lv_goto (tgt := 28) (cx_x X) (cx_b X) dX2_startError_24 (by decide) ?_
      exact Jt7 _ (by cases hm; exact hmt7) _ (lv_sub hl [] rfl)
  · replace hm := if_T c3 hm
    refine lv_iconst (v := (-1 : Int32)) (cx_x X) (cx_b X) dX2_startError_11 (by decide) ?_
    exact gr_i X hm dX2_startError_12
/-! X2_usedIn -/
def m2_usedIn_J20  (v1 : Int32) : Option Int32 :=
  some v1
def m2_usedIn (F : (Nat → Int32)) (R : (Nat → Nat → Int32)) (G : (Nat → Int32)) (Q : (Nat → Nat → Int32)) (a1 : Int32) : Option Int32 :=
  (if a1 < 0 then
  some (0 : Int32)
  else
  if (25 : Int32) ≤ a1 then
  some (0 : Int32)
  else
  if inb a1 25 then
  some (R 3 a1.toNatClampNeg) else none).bind fun v1 => m2_usedIn_J20 v1
abbrev rm_X2_usedIn : Room := { frames := 0, cells := 0, slots := 0, locals := 0 }
set_option maxHeartbeats 4000000 in
set_option maxRecDepth 100000 in
theorem c_X2_usedIn (l : Launch) (D : va_G) (y : Nat → ClassId) (A B : Nat → Nat) (F : (Nat → Int32)) (R : (Nat → Nat → Int32)) (G : (Nat → Int32)) (Q : (Nat → Nat → Int32)) (a1 : Int32) (r : Int32) (hm : m2_usedIn F R G Q a1 = some r) : Met l yX2_usedIn (wy_s yX2_usedIn cX2_usedIn 2 (some .int)) rm_X2_usedIn (pc_R D y [.ref (A 0), .int a1] (fun H => va_P D vwCl (w2_s y (B 0) A F R) H ∧ va_P D vwCl (w1_s y B G Q) H)) (qc_R r) 0 0 (fun _ => False) := by
  refine met_R (by decide) (Nat.le_of_ble_eq_true rfl) ?_
  intro p e s m args below meth c X h0 ls hl
  obtain ⟨hP2, hP1⟩ := h0
  replace hl : lv_has ls 2 [(0, .ref (A 0)), (1, .int a1)] := hl
  replace X : cx p s m args meth c cX2_usedIn 2 (some .int) RX2 D y := X
  unfold m2_usedIn at hm
  refine lv_iload_n (cx_x X) (cx_b X) dX2_usedIn_0 rfl (lv_at hl 1 rfl) ?_
  obtain ⟨qt2, hm, hmt2⟩ := bnd hm
  have Jt2 : ∀ (v1 : Int32) , m2_usedIn_J20 v1 = some r → ∀ ls, lv_has ls 2 [] → gr p l e rm_X2_usedIn s m args below meth c r (F0 m 20 ls [.int v1]) := by
    intro v1 hm ls hl
    unfold m2_usedIn_J20 at hm
    exact gr_i X hm dX2_usedIn_20
  refine lv_if_lt (tgt := 19) (cx_x X) (cx_b X) dX2_usedIn_1 (by decide) (fun c3 => ?_) (fun c3 => ?_)
  · replace hm := if_T c3 hm
    refine lv_iconst (v := (0 : Int32)) (cx_x X) (cx_b X) dX2_usedIn_19 (by decide) ?_
    exact Jt2 _ (by cases hm; exact hmt2) _ (lv_sub hl [] rfl)
  · replace hm := if_F c3 hm
    refine lv_iload_n (cx_x X) (cx_b X) dX2_usedIn_4 rfl (lv_at hl 1 rfl) ?_
    refine lv_bipush (v := (25 : Int32)) (cx_x X) (cx_b X) dX2_usedIn_5 (by decide) ?_
    refine lv_icmp_ge (tgt := 19) (cx_x X) (cx_b X) dX2_usedIn_7 (by decide) (fun c4 => ?_) (fun c4 => ?_)
    · replace hm := if_T c4 hm
      refine lv_iconst (v := (0 : Int32)) (cx_x X) (cx_b X) dX2_usedIn_19 (by decide) ?_
      exact Jt2 _ (by cases hm; exact hmt2) _ (lv_sub hl [] rfl)
    · replace hm := if_F c4 hm
      refine lv_aload_n (cx_x X) (cx_b X) dX2_usedIn_10 rfl (lv_at hl 0 rfl) ?_
      refine gf_X2_25 X hP2 dX2_usedIn_11 ?_
      refine lv_iload_n (cx_x X) (cx_b X) dX2_usedIn_14 rfl (lv_at hl 1 rfl) ?_
      obtain ⟨h5, hm⟩ := ck_E hm
      refine ld_2_3 X hP2 h5 dX2_usedIn_15 ?_
      refine lv_goto (tgt := 20) (cx_x X) (cx_b X) dX2_usedIn_16 (by decide) ?_
      exact Jt2 _ (by cases hm; exact hmt2) _ (lv_sub hl [] rfl)
/-! X2_availableIn -/
def m2_availableIn_X50 (G : (Nat → Int32)) (v8 : Int32) : Option Int32 :=
  some ((((1 : Int32) <<< ((G 1) &&& 31)) - (1 : Int32)) &&& (v8 ^^^ (-1 : Int32)))
def m2_availableIn_J44 (kkt5 : (Int32 × Int32) → Option Int32) (v7 : Int32) (v12 : Int32) : Option Int32 :=
  kkt5 (v12, (v7 + (1 : Int32)))
def m2_availableIn_L18 (R : (Nat → Nat → Int32)) (v4 : Int32) (kkt5 : (Int32 × Int32) → Option Int32) (t0 : (Int32 × Int32)) : Option Int32 :=
  if (25 : Int32) ≤ t0.2 then
  some t0.1
  else
  (m4_contains v4 t0.2).bind fun v11 =>
  (if v11 = 0 then
  some t0.1
  else
  if inb t0.2 25 then
  some (t0.1 ||| (R 3 t0.2.toNatClampNeg)) else none).bind fun v12 => m2_availableIn_J44 kkt5 t0.2 v12
def m2_availableIn (F : (Nat → Int32)) (R : (Nat → Nat → Int32)) (G : (Nat → Int32)) (Q : (Nat → Nat → Int32)) (a1 : Int32) : Option Int32 :=
  (m2_usedIn F R G Q a1).bind fun v2 =>
  (m1_near G Q a1).bind fun v4 =>
  (wh (m2_availableIn_L18 R v4) 2000 (v2, (0 : Int32))).bind fun v8 => m2_availableIn_X50 G v8
abbrev rm_X2_availableIn : Room := { frames := 1, cells := 0, slots := 0, locals := 21 }
set_option maxHeartbeats 4000000 in
set_option maxRecDepth 100000 in
theorem c_X2_availableIn (l : Launch) (D : va_G) (y : Nat → ClassId) (A B : Nat → Nat) (F : (Nat → Int32)) (R : (Nat → Nat → Int32)) (G : (Nat → Int32)) (Q : (Nat → Nat → Int32)) (a1 : Int32) (r : Int32) (hm : m2_availableIn F R G Q a1 = some r) : Met l yX2_availableIn (wy_s yX2_availableIn cX2_availableIn 5 (some .int)) rm_X2_availableIn (pc_R D y [.ref (A 0), .int a1] (fun H => va_P D vwCl (w2_s y (B 0) A F R) H ∧ va_P D vwCl (w1_s y B G Q) H)) (qc_R r) 0 0 (fun _ => False) := by
  refine met_R (by decide) (Nat.le_of_ble_eq_true rfl) ?_
  intro p e s m args below meth c X h0 ls hl
  obtain ⟨hP2, hP1⟩ := h0
  replace hl : lv_has ls 5 [(0, .ref (A 0)), (1, .int a1)] := hl
  replace X : cx p s m args meth c cX2_availableIn 5 (some .int) RX2 D y := X
  unfold m2_availableIn at hm
  refine lv_aload_n (cx_x X) (cx_b X) dX2_availableIn_0 rfl (lv_at hl 0 rfl) ?_
  refine lv_iload_n (cx_x X) (cx_b X) dX2_availableIn_1 rfl (lv_at hl 1 rfl) ?_
  obtain ⟨v2, h1, hm⟩ := bnd hm
  refine af_R (rn_V (As := [.int a1]) (rest := []) X (c_X2_usedIn l D y A B F R G Q a1  _ h1) vq_X2_157 ⟨rfl, rfl⟩ ⟨Nat.le_of_ble_eq_true rfl, Nat.le_of_ble_eq_true rfl⟩ (rec_2 X hP2) ⟨hP2, hP1⟩ rfl hl.1 rfl (Nat.le_of_ble_eq_true rfl) dX2_availableIn_2 ⟨Nat.le_refl _, Nat.le_refl _⟩) ?_
  refine lv_istore_n (lv' := [(2, .int v2), (0, .ref (A 0)), (1, .int a1)]) (cx_x X) (cx_b X) dX2_availableIn_5 rfl hl (by decide) rfl (fun ls hl => ?_)
  refine lv_aload_n (cx_x X) (cx_b X) dX2_availableIn_6 rfl (lv_at hl 1 rfl) ?_
  refine gf_X2_32 X hP2 dX2_availableIn_7 ?_
  refine lv_iload_n (cx_x X) (cx_b X) dX2_availableIn_10 rfl (lv_at hl 2 rfl) ?_
  obtain ⟨v4, h3, hm⟩ := bnd hm
  refine af_R (rn_V (As := [.int a1]) (rest := []) X (c_X1_near l D y B G Q a1  _ h3) vq_X2_160 ⟨rfl, rfl⟩ ⟨Nat.le_of_ble_eq_true rfl, Nat.le_of_ble_eq_true rfl⟩ (rec_1 X hP1) hP1 rfl hl.1 rfl (Nat.le_of_ble_eq_true rfl) dX2_availableIn_11 ⟨Nat.le_refl _, Nat.le_refl _⟩) ?_
  refine lv_istore_n (lv' := [(3, .int v4), (2, .int v2), (0, .ref (A 0)), (1, .int a1)]) (cx_x X) (cx_b X) dX2_availableIn_14 rfl hl (by decide) rfl (fun ls hl => ?_)
  refine lv_iconst (v := (0 : Int32)) (cx_x X) (cx_b X) dX2_availableIn_15 (by decide) ?_
  refine lv_istore (lv' := [(4, .int (0 : Int32)), (3, .int v4), (2, .int v2), (0, .ref (A 0)), (1, .int a1)]) (cx_x X) (cx_b X) dX2_availableIn_16 hl (by decide) rfl (fun ls hl => ?_)
  obtain ⟨qt5, hm, hmt5⟩ := bnd hm
  have Xt5 : ∀ (v8 : Int32) , m2_availableIn_X50 G v8 = some r → ∀ ls, lv_has ls 5 [(0, .ref (A 0)), (2, .int v8)] → gr p l e rm_X2_availableIn s m args below meth c r (F0 m 50 ls []) := by
    intro v8 hm ls hl
    unfold m2_availableIn_X50 at hm
    refine lv_iconst (v := (1 : Int32)) (cx_x X) (cx_b X) dX2_availableIn_50 (by decide) ?_
    refine lv_aload_n (cx_x X) (cx_b X) dX2_availableIn_51 rfl (lv_at hl 0 rfl) ?_
    refine gf_X2_32 X hP2 dX2_availableIn_52 ?_
    refine gf_X2_163 X hP1 dX2_availableIn_55 ?_
    refine lv_ishl (cx_x X) (cx_b X) dX2_availableIn_58 ?_
    refine lv_iconst (v := (1 : Int32)) (cx_x X) (cx_b X) dX2_availableIn_59 (by decide) ?_
    refine lv_isub (cx_x X) (cx_b X) dX2_availableIn_60 ?_
    refine lv_iload_n (cx_x X) (cx_b X) dX2_availableIn_61 rfl (lv_at hl 1 rfl) ?_
    refine lv_iconst (v := (-1 : Int32)) (cx_x X) (cx_b X) dX2_availableIn_62 (by decide) ?_
    refine lv_ixor (cx_x X) (cx_b X) dX2_availableIn_63 ?_
    refine lv_iand (cx_x X) (cx_b X) dX2_availableIn_64 ?_
    exact gr_i X hm dX2_availableIn_65
  have Lt5 : ∀ (n : Nat) (v6 : Int32) (v7 : Int32) , wh (m2_availableIn_L18 R v4) n (v6, v7) = some qt5 → ∀ ls, lv_has ls 5 [(0, .ref (A 0)), (2, .int v6), (3, .int v4), (4, .int v7)] → gr p l e rm_X2_availableIn s m args below meth c r (F0 m 18 ls []) := by
    intro n
    induction n with
    | zero => intro v6 v7 hm; cases hm
    | succ n ih =>
      intro v6 v7 hm ls hl
      replace hm : (m2_availableIn_L18 R v4) (wh (m2_availableIn_L18 R v4) n) (v6, v7) = some qt5 := hm
      dsimp only [m2_availableIn_L18] at hm
      refine lv_iload (cx_x X) (cx_b X) dX2_availableIn_18 (lv_at hl 3 rfl) ?_
      refine lv_bipush (v := (25 : Int32)) (cx_x X) (cx_b X) dX2_availableIn_20 (by decide) ?_
      refine lv_icmp_ge (tgt := 50) (cx_x X) (cx_b X) dX2_availableIn_22 (by decide) (fun c9 => ?_) (fun c9 => ?_)
      · replace hm := if_T c9 hm
        exact Xt5 _ (by cases hm; exact hmt5) _ (lv_sub hl [0, 1] rfl)
      · replace hm := if_F c9 hm
        refine lv_iload_n (cx_x X) (cx_b X) dX2_availableIn_25 rfl (lv_at hl 2 rfl) ?_
        refine lv_iload (cx_x X) (cx_b X) dX2_availableIn_26 (lv_at hl 3 rfl) ?_
        obtain ⟨v11, h10, hm⟩ := bnd hm
        refine af_R (rn_N (As := [.int v4, .int v7]) (rest := []) X (c_X4_contains l D y v4 v7  _ h10) nq_X2_154 ⟨rfl, rfl⟩ ⟨Nat.le_of_ble_eq_true rfl, Nat.le_of_ble_eq_true rfl⟩ trivial rfl hl.1 rfl (Nat.le_of_ble_eq_true rfl) dX2_availableIn_28 ⟨Nat.le_refl _, Nat.le_refl _⟩) ?_
        obtain ⟨qt13, hm, hmt13⟩ := bnd hm
        have Jt13 : ∀ (v12 : Int32) , m2_availableIn_J44 (wh (m2_availableIn_L18 R v4) n) v7 v12 = some qt5 → ∀ ls, lv_has ls 5 [(0, .ref (A 0)), (2, .int v12), (3, .int v4), (4, .int v7)] → gr p l e rm_X2_availableIn s m args below meth c r (F0 m 44 ls []) := by
          intro v12 hm ls hl
          unfold m2_availableIn_J44 at hm
          refine lv_iinc (v := (v7 + (1 : Int32))) (lv' := [(4, .int (v7 + (1 : Int32))), (0, .ref (A 0)), (2, .int v12), (3, .int v4)]) (cx_x X) (cx_b X) dX2_availableIn_44 hl (k := 3) rfl (by rfl) (by decide) rfl (fun ls hl => ?_)
          refine lv_goto (tgt := 18) (cx_x X) (cx_b X) dX2_availableIn_47 (by decide) ?_
          exact ih _ _ hm _ (lv_sub hl [1, 2, 3, 0] rfl)
        refine lv_if_eq (tgt := 44) (cx_x X) (cx_b X) dX2_availableIn_31 (by decide) (fun c14 => ?_) (fun c14 => ?_)
        · replace hm := if_T c14 hm
          exact Jt13 _ (by cases hm; exact hmt13) _ (lv_sub hl [0, 1, 2, 3] rfl)
        · replace hm := if_F c14 hm
          refine lv_iload_n (cx_x X) (cx_b X) dX2_availableIn_34 rfl (lv_at hl 1 rfl) ?_
          refine lv_aload_n (cx_x X) (cx_b X) dX2_availableIn_35 rfl (lv_at hl 0 rfl) ?_
          refine gf_X2_25 X hP2 dX2_availableIn_36 ?_
          refine lv_iload (cx_x X) (cx_b X) dX2_availableIn_39 (lv_at hl 3 rfl) ?_
          obtain ⟨h15, hm⟩ := ck_E hm
          refine ld_2_3 X hP2 h15 dX2_availableIn_41 ?_
          refine lv_ior (cx_x X) (cx_b X) dX2_availableIn_42 ?_
          refine lv_istore_n (lv' := [(2, .int (v6 ||| (R 3 v7.toNatClampNeg))), (0, .ref (A 0)), (3, .int v4), (4, .int v7)]) (cx_x X) (cx_b X) dX2_availableIn_43 rfl hl (by decide) rfl (fun ls hl => ?_)
          exact Jt13 _ (by cases hm; exact hmt13) _ (lv_sub hl [1, 0, 2, 3] rfl)
  exact Lt5 _ _ _ hm _ (lv_sub hl [3, 2, 1, 0] rfl)
/-! X2_lowestOf -/
def m2_lowestOf_L2 (G : (Nat → Int32)) (a1 : Int32) (kkt1 : Int32 → Option Int32) (t0 : Int32) : Option Int32 :=
  if (G 1) ≤ t0 then
  some (-9 : Int32)
  else
  (m4_contains a1 t0).bind fun v5 =>
  if v5 = 0 then
  kkt1 (t0 + (1 : Int32))
  else
  some t0
def m2_lowestOf (F : (Nat → Int32)) (R : (Nat → Nat → Int32)) (G : (Nat → Int32)) (Q : (Nat → Nat → Int32)) (a1 : Int32) : Option Int32 :=
  wh (m2_lowestOf_L2 G a1) 2000 (0 : Int32)
abbrev rm_X2_lowestOf : Room := { frames := 1, cells := 0, slots := 0, locals := 21 }
set_option maxHeartbeats 4000000 in
set_option maxRecDepth 100000 in
theorem c_X2_lowestOf (l : Launch) (D : va_G) (y : Nat → ClassId) (A B : Nat → Nat) (F : (Nat → Int32)) (R : (Nat → Nat → Int32)) (G : (Nat → Int32)) (Q : (Nat → Nat → Int32)) (a1 : Int32) (r : Int32) (hm : m2_lowestOf F R G Q a1 = some r) : Met l yX2_lowestOf (wy_s yX2_lowestOf cX2_lowestOf 3 (some .int)) rm_X2_lowestOf (pc_R D y [.ref (A 0), .int a1] (fun H => va_P D vwCl (w2_s y (B 0) A F R) H ∧ va_P D vwCl (w1_s y B G Q) H)) (qc_R r) 0 0 (fun _ => False) := by
  refine met_R (by decide) (Nat.le_of_ble_eq_true rfl) ?_
  intro p e s m args below meth c X h0 ls hl
  obtain ⟨hP2, hP1⟩ := h0
  replace hl : lv_has ls 3 [(0, .ref (A 0)), (1, .int a1)] := hl
  replace X : cx p s m args meth c cX2_lowestOf 3 (some .int) RX2 D y := X
  unfold m2_lowestOf at hm
  refine lv_iconst (v := (0 : Int32)) (cx_x X) (cx_b X) dX2_lowestOf_0 (by decide) ?_
  refine lv_istore_n (lv' := [(2, .int (0 : Int32)), (0, .ref (A 0)), (1, .int a1)]) (cx_x X) (cx_b X) dX2_lowestOf_1 rfl hl (by decide) rfl (fun ls hl => ?_)
  have Lt1 : ∀ (n : Nat) (v2 : Int32) , wh (m2_lowestOf_L2 G a1) n v2 = some r → ∀ ls, lv_has ls 3 [(0, .ref (A 0)), (1, .int a1), (2, .int v2)] → gr p l e rm_X2_lowestOf s m args below meth c r (F0 m 2 ls []) := by
    intro n
    induction n with
    | zero => intro v2 hm; cases hm
    | succ n ih =>
      intro v2 hm ls hl
      replace hm : (m2_lowestOf_L2 G a1) (wh (m2_lowestOf_L2 G a1) n) v2 = some r := hm
      dsimp only [m2_lowestOf_L2] at hm
      refine lv_iload_n (cx_x X) (cx_b X) dX2_lowestOf_2 rfl (lv_at hl 2 rfl) ?_
      refine lv_aload_n (cx_x X) (cx_b X) dX2_lowestOf_3 rfl (lv_at hl 0 rfl) ?_
      refine gf_X2_32 X hP2 dX2_lowestOf_4 ?_
      refine gf_X2_163 X hP1 dX2_lowestOf_7 ?_
      refine lv_icmp_ge (tgt := 29) (cx_x X) (cx_b X) dX2_lowestOf_10 (by decide) (fun c3 => ?_) (fun c3 => ?_)
      · replace hm := if_T c3 hm
        refine lv_bipush (v := (-9 : Int32)) (cx_x X) (cx_b X) dX2_lowestOf_29 (by decide) ?_
        exact gr_i X hm dX2_lowestOf_31
      · replace hm := if_F c3 hm
        refine lv_iload_n (cx_x X) (cx_b X) dX2_lowestOf_13 rfl (lv_at hl 1 rfl) ?_
        refine lv_iload_n (cx_x X) (cx_b X) dX2_lowestOf_14 rfl (lv_at hl 2 rfl) ?_
        obtain ⟨v5, h4, hm⟩ := bnd hm
        refine af_R (rn_N (As := [.int a1, .int v2]) (rest := []) X (c_X4_contains l D y a1 v2  _ h4) nq_X2_154 ⟨rfl, rfl⟩ ⟨Nat.le_of_ble_eq_true rfl, Nat.le_of_ble_eq_true rfl⟩ trivial rfl hl.1 rfl (Nat.le_of_ble_eq_true rfl) dX2_lowestOf_15 ⟨Nat.le_refl _, Nat.le_refl _⟩) ?_
        refine lv_if_eq (tgt := 23) (cx_x X) (cx_b X) dX2_lowestOf_18 (by decide) (fun c6 => ?_) (fun c6 => ?_)
        · replace hm := if_T c6 hm
          refine lv_iinc (v := (v2 + (1 : Int32))) (lv' := [(2, .int (v2 + (1 : Int32))), (0, .ref (A 0)), (1, .int a1)]) (cx_x X) (cx_b X) dX2_lowestOf_23 hl (k := 2) rfl (by rfl) (by decide) rfl (fun ls hl => ?_)
          refine lv_goto (tgt := 2) (cx_x X) (cx_b X) dX2_lowestOf_26 (by decide) ?_
          exact ih _ hm _ (lv_sub hl [1, 2, 0] rfl)
        · replace hm := if_F c6 hm
          refine lv_iload_n (cx_x X) (cx_b X) dX2_lowestOf_21 rfl (lv_at hl 2 rfl) ?_
          exact gr_i X hm dX2_lowestOf_22
  exact Lt1 _ _ hm _ (lv_sub hl [1, 2, 0] rfl)
/-! X2_availableNominals -/
def m2_availableNominals (F : (Nat → Int32)) (R : (Nat → Nat → Int32)) (G : (Nat → Int32)) (Q : (Nat → Nat → Int32)) (a1 : Int32) : Option Int32 :=
  (m2_availableIn F R G Q a1).bind fun v2 =>
  (m1_nominalsOf G Q a1).bind fun v4 =>
  some (v2 &&& v4)
abbrev rm_X2_availableNominals : Room := { frames := 2, cells := 0, slots := 0, locals := 45 }
set_option maxHeartbeats 4000000 in
set_option maxRecDepth 100000 in
theorem c_X2_availableNominals (l : Launch) (D : va_G) (y : Nat → ClassId) (A B : Nat → Nat) (F : (Nat → Int32)) (R : (Nat → Nat → Int32)) (G : (Nat → Int32)) (Q : (Nat → Nat → Int32)) (a1 : Int32) (r : Int32) (hm : m2_availableNominals F R G Q a1 = some r) : Met l yX2_availableNominals (wy_s yX2_availableNominals cX2_availableNominals 2 (some .int)) rm_X2_availableNominals (pc_R D y [.ref (A 0), .int a1] (fun H => va_P D vwCl (w2_s y (B 0) A F R) H ∧ va_P D vwCl (w1_s y B G Q) H)) (qc_R r) 0 0 (fun _ => False) := by
  refine met_R (by decide) (Nat.le_of_ble_eq_true rfl) ?_
  intro p e s m args below meth c X h0 ls hl
  obtain ⟨hP2, hP1⟩ := h0
  replace hl : lv_has ls 2 [(0, .ref (A 0)), (1, .int a1)] := hl
  replace X : cx p s m args meth c cX2_availableNominals 2 (some .int) RX2 D y := X
  unfold m2_availableNominals at hm
  refine lv_aload_n (cx_x X) (cx_b X) dX2_availableNominals_0 rfl (lv_at hl 0 rfl) ?_
  refine lv_iload_n (cx_x X) (cx_b X) dX2_availableNominals_1 rfl (lv_at hl 1 rfl) ?_
  obtain ⟨v2, h1, hm⟩ := bnd hm
  refine af_R (rn_V (As := [.int a1]) (rest := []) X (c_X2_availableIn l D y A B F R G Q a1  _ h1) vq_X2_166 ⟨rfl, rfl⟩ ⟨Nat.le_of_ble_eq_true rfl, Nat.le_of_ble_eq_true rfl⟩ (rec_2 X hP2) ⟨hP2, hP1⟩ rfl hl.1 rfl (Nat.le_of_ble_eq_true rfl) dX2_availableNominals_2 ⟨Nat.le_refl _, Nat.le_refl _⟩) ?_
  refine lv_aload_n (cx_x X) (cx_b X) dX2_availableNominals_5 rfl (lv_at hl 0 rfl) ?_
  refine gf_X2_32 X hP2 dX2_availableNominals_6 ?_
  refine lv_iload_n (cx_x X) (cx_b X) dX2_availableNominals_9 rfl (lv_at hl 1 rfl) ?_
  obtain ⟨v4, h3, hm⟩ := bnd hm
  refine af_R (rn_V (As := [.int a1]) (rest := [.int v2]) X (c_X1_nominalsOf l D y B G Q a1  _ h3) vq_X2_151 ⟨rfl, rfl⟩ ⟨Nat.le_of_ble_eq_true rfl, Nat.le_of_ble_eq_true rfl⟩ (rec_1 X hP1) hP1 rfl hl.1 rfl (Nat.le_of_ble_eq_true rfl) dX2_availableNominals_10 ⟨Nat.le_refl _, Nat.le_refl _⟩) ?_
  refine lv_iand (cx_x X) (cx_b X) dX2_availableNominals_13 ?_
  exact gr_i X hm dX2_availableNominals_14
/-! J6_bitCount_0f7a4 -/
def mj_bitCount (a0 : Int32) : Option Int32 :=
  lt_ (a0 - (((a0).toUInt32 >>> (((1 : Int32)).toUInt32 &&& Int32.toUInt32 31)).toInt32 &&& (1431655765 : Int32))) fun v1 =>
  lt_ ((v1 &&& (858993459 : Int32)) + (((v1).toUInt32 >>> (((2 : Int32)).toUInt32 &&& Int32.toUInt32 31)).toInt32 &&& (858993459 : Int32))) fun v2 =>
  lt_ ((v2 + ((v2).toUInt32 >>> (((4 : Int32)).toUInt32 &&& Int32.toUInt32 31)).toInt32) &&& (252645135 : Int32)) fun v3 =>
  lt_ (v3 + ((v3).toUInt32 >>> (((8 : Int32)).toUInt32 &&& Int32.toUInt32 31)).toInt32) fun v4 =>
  lt_ (v4 + ((v4).toUInt32 >>> (((16 : Int32)).toUInt32 &&& Int32.toUInt32 31)).toInt32) fun v5 =>
  some (v5 &&& (63 : Int32))
abbrev rm_J6_bitCount_0f7a4 : Room := { frames := 0, cells := 0, slots := 0, locals := 0 }
set_option maxHeartbeats 4000000 in
set_option maxRecDepth 100000 in
theorem c_J6_bitCount_0f7a4 (l : Launch) (D : va_G) (y : Nat → ClassId) (a0 : Int32) (r : Int32) (hm : mj_bitCount a0 = some r) : Met l yJ6_bitCount_0f7a4 (wy_s yJ6_bitCount_0f7a4 cJ6_bitCount_0f7a4 1 (some .int)) rm_J6_bitCount_0f7a4 (pc_R D y [.int a0] (fun _ => True)) (qc_R r) 0 0 (fun _ => False) := by
  refine met_R (by decide) (Nat.le_of_ble_eq_true rfl) ?_
  intro p e s m args below meth c X h0 ls hl
  replace hl : lv_has ls 1 [(0, .int a0)] := hl
  replace X : cx p s m args meth c cJ6_bitCount_0f7a4 1 (some .int) RJ6 D y := X
  unfold mj_bitCount at hm
  refine lv_iload_n (cx_x X) (cx_b X) dJ6_bitCount_0f7a4_0 rfl (lv_at hl 0 rfl) ?_
  refine lv_iload_n (cx_x X) (cx_b X) dJ6_bitCount_0f7a4_1 rfl (lv_at hl 0 rfl) ?_
  refine lv_iconst (v := (1 : Int32)) (cx_x X) (cx_b X) dJ6_bitCount_0f7a4_2 (by decide) ?_
  refine lv_iushr (cx_x X) (cx_b X) dJ6_bitCount_0f7a4_3 rfl ?_
  refine lv_ldcw (v := (1431655765 : Int32)) (cx_x X) (cx_b X) (cx_o X) (cx_w X _ qw_336) dJ6_bitCount_0f7a4_4 ?_
  refine lv_iand (cx_x X) (cx_b X) dJ6_bitCount_0f7a4_7 ?_
  refine lv_isub (cx_x X) (cx_b X) dJ6_bitCount_0f7a4_8 ?_
  obtain ⟨v1, ev1, hm⟩ := lt_E hm
  refine lv_eqi ev1 ?_
  refine lv_istore_n (lv' := [(0, .int v1)]) (cx_x X) (cx_b X) dJ6_bitCount_0f7a4_9 rfl hl (by decide) rfl (fun ls hl => ?_)
  refine lv_iload_n (cx_x X) (cx_b X) dJ6_bitCount_0f7a4_10 rfl (lv_at hl 0 rfl) ?_
  refine lv_ldcw (v := (858993459 : Int32)) (cx_x X) (cx_b X) (cx_o X) (cx_w X _ qw_337) dJ6_bitCount_0f7a4_11 ?_
  refine lv_iand (cx_x X) (cx_b X) dJ6_bitCount_0f7a4_14 ?_
  refine lv_iload_n (cx_x X) (cx_b X) dJ6_bitCount_0f7a4_15 rfl (lv_at hl 0 rfl) ?_
  refine lv_iconst (v := (2 : Int32)) (cx_x X) (cx_b X) dJ6_bitCount_0f7a4_16 (by decide) ?_
  refine lv_iushr (cx_x X) (cx_b X) dJ6_bitCount_0f7a4_17 rfl ?_
  refine lv_ldcw (v := (858993459 : Int32)) (cx_x X) (cx_b X) (cx_o X) (cx_w X _ qw_337) dJ6_bitCount_0f7a4_18 ?_
  refine lv_iand (cx_x X) (cx_b X) dJ6_bitCount_0f7a4_21 ?_
  refine lv_iadd (cx_x X) (cx_b X) dJ6_bitCount_0f7a4_22 ?_
  obtain ⟨v2, ev2, hm⟩ := lt_E hm
  refine lv_eqi ev2 ?_
  refine lv_istore_n (lv' := [(0, .int v2)]) (cx_x X) (cx_b X) dJ6_bitCount_0f7a4_23 rfl hl (by decide) rfl (fun ls hl => ?_)
  refine lv_iload_n (cx_x X) (cx_b X) dJ6_bitCount_0f7a4_24 rfl (lv_at hl 0 rfl) ?_
  refine lv_iload_n (cx_x X) (cx_b X) dJ6_bitCount_0f7a4_25 rfl (lv_at hl 0 rfl) ?_
  refine lv_iconst (v := (4 : Int32)) (cx_x X) (cx_b X) dJ6_bitCount_0f7a4_26 (by decide) ?_
  refine lv_iushr (cx_x X) (cx_b X) dJ6_bitCount_0f7a4_27 rfl ?_
  refine lv_iadd (cx_x X) (cx_b X) dJ6_bitCount_0f7a4_28 ?_
  refine lv_ldcw (v := (252645135 : Int32)) (cx_x X) (cx_b X) (cx_o X) (cx_w X _ qw_338) dJ6_bitCount_0f7a4_29 ?_
  refine lv_iand (cx_x X) (cx_b X) dJ6_bitCount_0f7a4_32 ?_
  obtain ⟨v3, ev3, hm⟩ := lt_E hm
  refine lv_eqi ev3 ?_
  refine lv_istore_n (lv' := [(0, .int v3)]) (cx_x X) (cx_b X) dJ6_bitCount_0f7a4_33 rfl hl (by decide) rfl (fun ls hl => ?_)
  refine lv_iload_n (cx_x X) (cx_b X) dJ6_bitCount_0f7a4_34 rfl (lv_at hl 0 rfl) ?_
  refine lv_iload_n (cx_x X) (cx_b X) dJ6_bitCount_0f7a4_35 rfl (lv_at hl 0 rfl) ?_
  refine lv_bipush (v := (8 : Int32)) (cx_x X) (cx_b X) dJ6_bitCount_0f7a4_36 (by decide) ?_
  refine lv_iushr (cx_x X) (cx_b X) dJ6_bitCount_0f7a4_38 rfl ?_
  refine lv_iadd (cx_x X) (cx_b X) dJ6_bitCount_0f7a4_39 ?_
  obtain ⟨v4, ev4, hm⟩ := lt_E hm
  refine lv_eqi ev4 ?_
  refine lv_istore_n (lv' := [(0, .int v4)]) (cx_x X) (cx_b X) dJ6_bitCount_0f7a4_40 rfl hl (by decide) rfl (fun ls hl => ?_)
  refine lv_iload_n (cx_x X) (cx_b X) dJ6_bitCount_0f7a4_41 rfl (lv_at hl 0 rfl) ?_
  refine lv_iload_n (cx_x X) (cx_b X) dJ6_bitCount_0f7a4_42 rfl (lv_at hl 0 rfl) ?_
  refine lv_bipush (v := (16 : Int32)) (cx_x X) (cx_b X) dJ6_bitCount_0f7a4_43 (by decide) ?_
  refine lv_iushr (cx_x X) (cx_b X) dJ6_bitCount_0f7a4_45 rfl ?_
  refine lv_iadd (cx_x X) (cx_b X) dJ6_bitCount_0f7a4_46 ?_
  obtain ⟨v5, ev5, hm⟩ := lt_E hm
  refine lv_eqi ev5 ?_
  refine lv_istore_n (lv' := [(0, .int v5)]) (cx_x X) (cx_b X) dJ6_bitCount_0f7a4_47 rfl hl (by decide) rfl (fun ls hl => ?_)
  refine lv_iload_n (cx_x X) (cx_b X) dJ6_bitCount_0f7a4_48 rfl (lv_at hl 0 rfl) ?_
  refine lv_bipush (v := (63 : Int32)) (cx_x X) (cx_b X) dJ6_bitCount_0f7a4_49 (by decide) ?_
  refine lv_iand (cx_x X) (cx_b X) dJ6_bitCount_0f7a4_51 ?_
  exact gr_i X hm dJ6_bitCount_0f7a4_52
/-! X2_rankOf -/
def m2_rankOf (F : (Nat → Int32)) (R : (Nat → Nat → Int32)) (G : (Nat → Int32)) (Q : (Nat → Nat → Int32)) (a1 : Int32) (a2 : Int32) (a3 : Int32) : Option Int32 :=
  if (F 1) = (0 : Int32) then
  some (-a2)
  else if (F 1) = (2 : Int32) then
  (m1_groupAt G Q a1).bind fun v4 =>
  (m1_burdenIn G Q a3 v4).bind fun v6 =>
  some v6
  else some (0 : Int32)
abbrev rm_X2_rankOf : Room := { frames := 2, cells := 0, slots := 0, locals := 46 }
set_option maxHeartbeats 4000000 in
set_option maxRecDepth 100000 in
theorem c_X2_rankOf (l : Launch) (D : va_G) (y : Nat → ClassId) (A B : Nat → Nat) (F : (Nat → Int32)) (R : (Nat → Nat → Int32)) (G : (Nat → Int32)) (Q : (Nat → Nat → Int32)) (a1 : Int32) (a2 : Int32) (a3 : Int32) (r : Int32) (hm : m2_rankOf F R G Q a1 a2 a3 = some r) : Met l yX2_rankOf (wy_s yX2_rankOf cX2_rankOf 4 (some .int)) rm_X2_rankOf (pc_R D y [.ref (A 0), .int a1, .int a2, .int a3] (fun H => va_P D vwCl (w2_s y (B 0) A F R) H ∧ va_P D vwCl (w1_s y B G Q) H)) (qc_R r) 0 0 (fun _ => False) := by
  refine met_R (by decide) (Nat.le_of_ble_eq_true rfl) ?_
  intro p e s m args below meth c X h0 ls hl
  obtain ⟨hP2, hP1⟩ := h0
  replace hl : lv_has ls 4 [(0, .ref (A 0)), (1, .int a1), (2, .int a2), (3, .int a3)] := hl
  replace X : cx p s m args meth c cX2_rankOf 4 (some .int) RX2 D y := X
  unfold m2_rankOf at hm
  refine lv_aload_n (cx_x X) (cx_b X) dX2_rankOf_0 rfl (lv_at hl 0 rfl) ?_
  refine gf_X2_64 X hP2 dX2_rankOf_1 ?_
  by_cases c1 : (F 1) = (0 : Int32)
  · replace hm := if_T c1 hm
    refine lv_lookup (off := 28) (tgt := 32) (cx_x X) (cx_b X) dX2_rankOf_4 (by decide) (by rw [c1]; decide) (by decide) ?_
    refine lv_iload_n (cx_x X) (cx_b X) dX2_rankOf_32 rfl (lv_at hl 2 rfl) ?_
    refine lv_ineg (cx_x X) (cx_b X) dX2_rankOf_33 ?_
    exact gr_i X hm dX2_rankOf_34
  · replace hm := if_F c1 hm
    by_cases c2 : (F 1) = (2 : Int32)
    · replace hm := if_T c2 hm
      refine lv_lookup (off := 31) (tgt := 35) (cx_x X) (cx_b X) dX2_rankOf_4 (by decide) (by rw [c2]; decide) (by decide) ?_
      refine lv_aload_n (cx_x X) (cx_b X) dX2_rankOf_35 rfl (lv_at hl 0 rfl) ?_
      refine gf_X2_32 X hP2 dX2_rankOf_36 ?_
      refine lv_iload_n (cx_x X) (cx_b X) dX2_rankOf_39 rfl (lv_at hl 3 rfl) ?_
      refine lv_aload_n (cx_x X) (cx_b X) dX2_rankOf_40 rfl (lv_at hl 0 rfl) ?_
      refine gf_X2_32 X hP2 dX2_rankOf_41 ?_
      refine lv_iload_n (cx_x X) (cx_b X) dX2_rankOf_44 rfl (lv_at hl 1 rfl) ?_
      obtain ⟨v4, h3, hm⟩ := bnd hm
      refine af_R (rn_V (As := [.int a1]) (rest := [.int a3, .ref (B 0)]) X (c_X1_groupAt l D y B G Q a1  _ h3) vq_X2_187 ⟨rfl, rfl⟩ ⟨Nat.le_of_ble_eq_true rfl, Nat.le_of_ble_eq_true rfl⟩ (rec_1 X hP1) hP1 rfl hl.1 rfl (Nat.le_of_ble_eq_true rfl) dX2_rankOf_45 ⟨Nat.le_refl _, Nat.le_refl _⟩) ?_
      obtain ⟨v6, h5, hm⟩ := bnd hm
      refine af_R (rn_V (As := [.int a3, .int v4]) (rest := []) X (c_X1_burdenIn l D y B G Q a3 v4  _ h5) vq_X2_148 ⟨rfl, rfl⟩ ⟨Nat.le_of_ble_eq_true rfl, Nat.le_of_ble_eq_true rfl⟩ (rec_1 X hP1) hP1 rfl hl.1 rfl (Nat.le_of_ble_eq_true rfl) dX2_rankOf_48 ⟨Nat.le_refl _, Nat.le_refl _⟩) ?_
      exact gr_i X hm dX2_rankOf_51
    · replace hm := if_F c2 hm
      refine lv_lookup (off := 48) (tgt := 52) (cx_x X) (cx_b X) dX2_rankOf_4 (by decide) ((lv_osw c1 (by decide)).trans ((lv_osw c2 (by decide)).trans (rfl))) (by decide) ?_
      refine lv_iconst (v := (0 : Int32)) (cx_x X) (cx_b X) dX2_rankOf_52 (by decide) ?_
      exact gr_i X hm dX2_rankOf_53
/-! X2_bestDonor -/
def m2_bestDonor_X118  (v5 : Int32) : Option Int32 :=
  some v5
def m2_bestDonor_J112 (kkt1 : (Int32 × Int32 × Int32) → Option Int32) (v4 : Int32) (v11 : Int32) (v12 : Int32) : Option Int32 :=
  kkt1 (v11, v12, (v4 + (1 : Int32)))
def m2_bestDonor_J96 (v2 : Int32) (v3 : Int32) (v4 : Int32) (v22 : Int32) : Option (Int32 × Int32) :=
  if v3 ≤ v22 then
  some (v2, v3)
  else
  some (v4, v22)
def m2_bestDonor_J41 (F : (Nat → Int32)) (R : (Nat → Nat → Int32)) (G : (Nat → Int32)) (Q : (Nat → Nat → Int32)) (a1 : Int32) (a2 : Int32) (kkt1 : (Int32 × Int32 × Int32) → Option Int32) (v2 : Int32) (v3 : Int32) (v4 : Int32) (v9 : Int32) : Option Int32 :=
  (if v9 = 0 then
  some (v2, v3)
  else
  (m1_nominalsOf G Q v4).bind fun v16 =>
  if (a2 &&& v16) = 0 then
  some (v2, v3)
  else
  (m2_availableNominals F R G Q v4).bind fun v19 =>
  (mj_bitCount v19).bind fun v21 =>
  (if v21 ≤ (F 2) then
  some (25 : Int32)
  else
  (m2_rankOf F R G Q v4 v21 a1).bind fun v27 =>
  some v27).bind fun v22 => m2_bestDonor_J96 v2 v3 v4 v22).bind fun ⟨v11, v12⟩ => m2_bestDonor_J112 kkt1 v4 v11 v12
def m2_bestDonor_L10 (F : (Nat → Int32)) (R : (Nat → Nat → Int32)) (G : (Nat → Int32)) (Q : (Nat → Nat → Int32)) (a1 : Int32) (a2 : Int32) (kkt1 : (Int32 × Int32 × Int32) → Option Int32) (t0 : (Int32 × Int32 × Int32)) : Option Int32 :=
  if (G 0) ≤ t0.2.2 then
  some t0.1
  else
  (m1_separation G Q a1 t0.2.2).bind fun v8 =>
  (if v8 = (1 : Int32) then
  some (1 : Int32)
  else
  some (0 : Int32)).bind fun v9 => m2_bestDonor_J41 F R G Q a1 a2 kkt1 t0.1 t0.2.1 t0.2.2 v9
def m2_bestDonor (F : (Nat → Int32)) (R : (Nat → Nat → Int32)) (G : (Nat → Int32)) (Q : (Nat → Nat → Int32)) (a1 : Int32) (a2 : Int32) : Option Int32 :=
  (wh (m2_bestDonor_L10 F R G Q a1 a2) 2000 ((-9 : Int32), (25 : Int32), (0 : Int32))).bind fun v5 => m2_bestDonor_X118 v5
abbrev rm_X2_bestDonor : Room := { frames := 3, cells := 0, slots := 0, locals := 69 }
set_option maxHeartbeats 4000000 in
set_option maxRecDepth 100000 in
theorem c_X2_bestDonor (l : Launch) (D : va_G) (y : Nat → ClassId) (A B : Nat → Nat) (F : (Nat → Int32)) (R : (Nat → Nat → Int32)) (G : (Nat → Int32)) (Q : (Nat → Nat → Int32)) (a1 : Int32) (a2 : Int32) (r : Int32) (hm : m2_bestDonor F R G Q a1 a2 = some r) : Met l yX2_bestDonor (wy_s yX2_bestDonor cX2_bestDonor 9 (some .int)) rm_X2_bestDonor (pc_R D y [.ref (A 0), .int a1, .int a2] (fun H => va_P D vwCl (w2_s y (B 0) A F R) H ∧ va_P D vwCl (w1_s y B G Q) H)) (qc_R r) 0 0 (fun _ => False) := by
  refine met_R (by decide) (Nat.le_of_ble_eq_true rfl) ?_
  intro p e s m args below meth c X h0 ls hl
  obtain ⟨hP2, hP1⟩ := h0
  replace hl : lv_has ls 9 [(0, .ref (A 0)), (1, .int a1), (2, .int a2)] := hl
  replace X : cx p s m args meth c cX2_bestDonor 9 (some .int) RX2 D y := X
  unfold m2_bestDonor at hm
  refine lv_bipush (v := (-9 : Int32)) (cx_x X) (cx_b X) dX2_bestDonor_0 (by decide) ?_
  refine lv_istore_n (lv' := [(3, .int (-9 : Int32)), (0, .ref (A 0)), (1, .int a1), (2, .int a2)]) (cx_x X) (cx_b X) dX2_bestDonor_2 rfl hl (by decide) rfl (fun ls hl => ?_)
  refine lv_bipush (v := (25 : Int32)) (cx_x X) (cx_b X) dX2_bestDonor_3 (by decide) ?_
  refine lv_istore (lv' := [(4, .int (25 : Int32)), (3, .int (-9 : Int32)), (0, .ref (A 0)), (1, .int a1), (2, .int a2)]) (cx_x X) (cx_b X) dX2_bestDonor_5 hl (by decide) rfl (fun ls hl => ?_)
  refine lv_iconst (v := (0 : Int32)) (cx_x X) (cx_b X) dX2_bestDonor_7 (by decide) ?_
  refine lv_istore (lv' := [(5, .int (0 : Int32)), (4, .int (25 : Int32)), (3, .int (-9 : Int32)), (0, .ref (A 0)), (1, .int a1), (2, .int a2)]) (cx_x X) (cx_b X) dX2_bestDonor_8 hl (by decide) rfl (fun ls hl => ?_)
  obtain ⟨qt1, hm, hmt1⟩ := bnd hm
  have Xt1 : ∀ (v5 : Int32) , m2_bestDonor_X118 v5 = some r → ∀ ls, lv_has ls 9 [(3, .int v5)] → gr p l e rm_X2_bestDonor s m args below meth c r (F0 m 118 ls []) := by
    intro v5 hm ls hl
    unfold m2_bestDonor_X118 at hm
    refine lv_iload_n (cx_x X) (cx_b X) dX2_bestDonor_118 rfl (lv_at hl 0 rfl) ?_
    exact gr_i X hm dX2_bestDonor_119
  have Lt1 : ∀ (n : Nat) (v2 : Int32) (v3 : Int32) (v4 : Int32) , wh (m2_bestDonor_L10 F R G Q a1 a2) n (v2, v3, v4) = some qt1 → ∀ ls, lv_has ls 9 [(0, .ref (A 0)), (1, .int a1), (2, .int a2), (3, .int v2), (4, .int v3), (5, .int v4)] → gr p l e rm_X2_bestDonor s m args below meth c r (F0 m 10 ls []) := by
    intro n
    induction n with
    | zero => intro v2 v3 v4 hm; cases hm
    | succ n ih =>
      intro v2 v3 v4 hm ls hl
      replace hm : (m2_bestDonor_L10 F R G Q a1 a2) (wh (m2_bestDonor_L10 F R G Q a1 a2) n) (v2, v3, v4) = some qt1 := hm
      dsimp only [m2_bestDonor_L10] at hm
      refine lv_iload (cx_x X) (cx_b X) dX2_bestDonor_10 (lv_at hl 5 rfl) ?_
      refine lv_aload_n (cx_x X) (cx_b X) dX2_bestDonor_12 rfl (lv_at hl 0 rfl) ?_
      refine gf_X2_32 X hP2 dX2_bestDonor_13 ?_
      refine gf_X2_175 X hP1 dX2_bestDonor_16 ?_
      refine lv_icmp_ge (tgt := 118) (cx_x X) (cx_b X) dX2_bestDonor_19 (by decide) (fun c6 => ?_) (fun c6 => ?_)
      · replace hm := if_T c6 hm
        exact Xt1 _ (by cases hm; exact hmt1) _ (lv_sub hl [3] rfl)
      · replace hm := if_F c6 hm
        refine lv_aload_n (cx_x X) (cx_b X) dX2_bestDonor_22 rfl (lv_at hl 0 rfl) ?_
        refine gf_X2_32 X hP2 dX2_bestDonor_23 ?_
        refine lv_iload_n (cx_x X) (cx_b X) dX2_bestDonor_26 rfl (lv_at hl 1 rfl) ?_
        refine lv_iload (cx_x X) (cx_b X) dX2_bestDonor_27 (lv_at hl 5 rfl) ?_
        obtain ⟨v8, h7, hm⟩ := bnd hm
        refine af_R (rn_V (As := [.int a1, .int v4]) (rest := []) X (c_X1_separation l D y B G Q a1 v4  _ h7) vq_X2_125 ⟨rfl, rfl⟩ ⟨Nat.le_of_ble_eq_true rfl, Nat.le_of_ble_eq_true rfl⟩ (rec_1 X hP1) hP1 rfl hl.1 rfl (Nat.le_of_ble_eq_true rfl) dX2_bestDonor_29 ⟨Nat.le_refl _, Nat.le_refl _⟩) ?_
        refine lv_iconst (v := (1 : Int32)) (cx_x X) (cx_b X) dX2_bestDonor_32 (by decide) ?_
        obtain ⟨qt10, hm, hmt10⟩ := bnd hm
        have Jt10 : ∀ (v9 : Int32) , m2_bestDonor_J41 F R G Q a1 a2 (wh (m2_bestDonor_L10 F R G Q a1 a2) n) v2 v3 v4 v9 = some qt1 → ∀ ls, lv_has ls 9 [(0, .ref (A 0)), (1, .int a1), (2, .int a2), (3, .int v2), (4, .int v3), (5, .int v4)] → gr p l e rm_X2_bestDonor s m args below meth c r (F0 m 41 ls [.int v9]) := by
          intro v9 hm ls hl
          unfold m2_bestDonor_J41 at hm
          refine lv_istore (lv' := [(6, .int v9), (0, .ref (A 0)), (1, .int a1), (2, .int a2), (3, .int v2), (4, .int v3), (5, .int v4)]) (cx_x X) (cx_b X) dX2_bestDonor_41 hl (by decide) rfl (fun ls hl => ?_)
          refine lv_iload (cx_x X) (cx_b X) dX2_bestDonor_43 (lv_at hl 0 rfl) ?_
          obtain ⟨qt13, hm, hmt13⟩ := bnd hm
          have Jt13 : ∀ (v11 : Int32) (v12 : Int32) , m2_bestDonor_J112 (wh (m2_bestDonor_L10 F R G Q a1 a2) n) v4 v11 v12 = some qt1 → ∀ ls, lv_has ls 9 [(0, .ref (A 0)), (1, .int a1), (2, .int a2), (3, .int v11), (4, .int v12), (5, .int v4)] → gr p l e rm_X2_bestDonor s m args below meth c r (F0 m 112 ls []) := by
            intro v11 v12 hm ls hl
            unfold m2_bestDonor_J112 at hm
            refine lv_iinc (v := (v4 + (1 : Int32))) (lv' := [(5, .int (v4 + (1 : Int32))), (0, .ref (A 0)), (1, .int a1), (2, .int a2), (3, .int v11), (4, .int v12)]) (cx_x X) (cx_b X) dX2_bestDonor_112 hl (k := 5) rfl (by rfl) (by decide) rfl (fun ls hl => ?_)
            refine lv_goto (tgt := 10) (cx_x X) (cx_b X) dX2_bestDonor_115 (by decide) ?_
            exact ih _ _ _ hm _ (lv_sub hl [1, 2, 3, 4, 5, 0] rfl)
          refine lv_if_eq (tgt := 112) (cx_x X) (cx_b X) dX2_bestDonor_45 (by decide) (fun c14 => ?_) (fun c14 => ?_)
          · replace hm := if_T c14 hm
            exact Jt13 _ _ (by cases hm; exact hmt13) _ (lv_sub hl [1, 2, 3, 4, 5, 6] rfl)
          · replace hm := if_F c14 hm
            refine lv_iload_n (cx_x X) (cx_b X) dX2_bestDonor_48 rfl (lv_at hl 3 rfl) ?_
            refine lv_aload_n (cx_x X) (cx_b X) dX2_bestDonor_49 rfl (lv_at hl 1 rfl) ?_
            refine gf_X2_32 X hP2 dX2_bestDonor_50 ?_
            refine lv_iload (cx_x X) (cx_b X) dX2_bestDonor_53 (lv_at hl 6 rfl) ?_
            obtain ⟨v16, h15, hm⟩ := bnd hm
            refine af_R (rn_V (As := [.int v4]) (rest := [.int a2]) X (c_X1_nominalsOf l D y B G Q v4  _ h15) vq_X2_151 ⟨rfl, rfl⟩ ⟨Nat.le_of_ble_eq_true rfl, Nat.le_of_ble_eq_true rfl⟩ (rec_1 X hP1) hP1 rfl hl.1 rfl (Nat.le_of_ble_eq_true rfl) dX2_bestDonor_55 ⟨Nat.le_refl _, Nat.le_refl _⟩) ?_
            refine lv_iand (cx_x X) (cx_b X) dX2_bestDonor_58 ?_
            refine lv_if_eq (tgt := 112) (cx_x X) (cx_b X) dX2_bestDonor_59 (by decide) (fun c17 => ?_) (fun c17 => ?_)
            · replace hm := if_T c17 hm
              exact Jt13 _ _ (by cases hm; exact hmt13) _ (lv_sub hl [1, 2, 3, 4, 5, 6] rfl)
            · replace hm := if_F c17 hm
              refine lv_aload_n (cx_x X) (cx_b X) dX2_bestDonor_62 rfl (lv_at hl 1 rfl) ?_
              refine lv_iload (cx_x X) (cx_b X) dX2_bestDonor_63 (lv_at hl 6 rfl) ?_
              obtain ⟨v19, h18, hm⟩ := bnd hm
              refine af_R (rn_V (As := [.int v4]) (rest := []) X (c_X2_availableNominals l D y A B F R G Q v4  _ h18) vq_X2_142 ⟨rfl, rfl⟩ ⟨Nat.le_of_ble_eq_true rfl, Nat.le_of_ble_eq_true rfl⟩ (rec_2 X hP2) ⟨hP2, hP1⟩ rfl hl.1 rfl (Nat.le_of_ble_eq_true rfl) dX2_bestDonor_65 ⟨Nat.le_refl _, Nat.le_refl _⟩) ?_
              obtain ⟨v21, h20, hm⟩ := bnd hm
              refine af_R (rn_S (As := [.int v19]) (rest := []) X (c_J6_bitCount_0f7a4 l D y v19  _ h20) sq_X2_178 ⟨rfl, rfl⟩ ⟨Nat.le_of_ble_eq_true rfl, Nat.le_of_ble_eq_true rfl⟩ trivial rfl hl.1 rfl (Nat.le_of_ble_eq_true rfl) dX2_bestDonor_68 ⟨Nat.le_refl _, Nat.le_refl _⟩) ?_
              refine lv_istore (lv' := [(7, .int v21), (6, .int v9), (0, .ref (A 0)), (1, .int a1), (2, .int a2), (3, .int v2), (4, .int v3), (5, .int v4)]) (cx_x X) (cx_b X) dX2_bestDonor_71 hl (by decide) rfl (fun ls hl => ?_)
              refine lv_iload (cx_x X) (cx_b X) dX2_bestDonor_73 (lv_at hl 0 rfl) ?_
              refine lv_aload_n (cx_x X) (cx_b X) dX2_bestDonor_75 rfl (lv_at hl 2 rfl) ?_
              refine gf_X2_67 X hP2 dX2_bestDonor_76 ?_
              obtain ⟨qt23, hm, hmt23⟩ := bnd hm
              have Jt23 : ∀ (v22 : Int32) , m2_bestDonor_J96 v2 v3 v4 v22 = some qt13 → ∀ ls, lv_has ls 9 [(0, .ref (A 0)), (1, .int a1), (2, .int a2), (3, .int v2), (4, .int v3), (5, .int v4)] → gr p l e rm_X2_bestDonor s m args below meth c r (F0 m 96 ls [.int v22]) := by
                intro v22 hm ls hl
                unfold m2_bestDonor_J96 at hm
                refine lv_istore (lv' := [(8, .int v22), (0, .ref (A 0)), (1, .int a1), (2, .int a2), (3, .int v2), (4, .int v3), (5, .int v4)]) (cx_x X) (cx_b X) dX2_bestDonor_96 hl (by decide) rfl (fun ls hl => ?_)
                refine lv_iload (cx_x X) (cx_b X) dX2_bestDonor_98 (lv_at hl 0 rfl) ?_
                refine lv_iload (cx_x X) (cx_b X) dX2_bestDonor_100 (lv_at hl 5 rfl) ?_
                refine lv_icmp_ge (tgt := 112) (cx_x X) (cx_b X) dX2_bestDonor_102 (by decide) (fun c24 => ?_) (fun c24 => ?_)
                · replace hm := if_T c24 hm
                  exact Jt13 _ _ (by cases hm; exact hmt13) _ (lv_sub hl [1, 2, 3, 4, 5, 6] rfl)
                · replace hm := if_F c24 hm
                  refine lv_iload (cx_x X) (cx_b X) dX2_bestDonor_105 (lv_at hl 6 rfl) ?_
                  refine lv_istore_n (lv' := [(3, .int v4), (8, .int v22), (0, .ref (A 0)), (1, .int a1), (2, .int a2), (4, .int v3), (5, .int v4)]) (cx_x X) (cx_b X) dX2_bestDonor_107 rfl hl (by decide) rfl (fun ls hl => ?_)
                  refine lv_iload (cx_x X) (cx_b X) dX2_bestDonor_108 (lv_at hl 1 rfl) ?_
                  refine lv_istore (lv' := [(4, .int v22), (3, .int v4), (8, .int v22), (0, .ref (A 0)), (1, .int a1), (2, .int a2), (5, .int v4)]) (cx_x X) (cx_b X) dX2_bestDonor_110 hl (by decide) rfl (fun ls hl => ?_)
                  exact Jt13 _ _ (by cases hm; exact hmt13) _ (lv_sub hl [3, 4, 5, 1, 0, 6] rfl)
              refine lv_icmp_le (tgt := 94) (cx_x X) (cx_b X) dX2_bestDonor_79 (by decide) (fun c25 => ?_) (fun c25 => ?_)
              · replace hm := if_T c25 hm
                refine lv_bipush (v := (25 : Int32)) (cx_x X) (cx_b X) dX2_bestDonor_94 (by decide) ?_
                exact Jt23 _ (by cases hm; exact hmt23) _ (lv_sub hl [2, 3, 4, 5, 6, 7] rfl)
              · replace hm := if_F c25 hm
                refine lv_aload_n (cx_x X) (cx_b X) dX2_bestDonor_82 rfl (lv_at hl 2 rfl) ?_
                refine lv_iload (cx_x X) (cx_b X) dX2_bestDonor_83 (lv_at hl 7 rfl) ?_
                refine lv_iload (cx_x X) (cx_b X) dX2_bestDonor_85 (lv_at hl 0 rfl) ?_
                refine lv_iload_n (cx_x X) (cx_b X) dX2_bestDonor_87 rfl (lv_at hl 3 rfl) ?_
                obtain ⟨v27, h26, hm⟩ := bnd hm
                refine af_R (rn_V (As := [.int v4, .int v21, .int a1]) (rest := []) X (c_X2_rankOf l D y A B F R G Q v4 v21 a1  _ h26) vq_X2_183 ⟨rfl, rfl⟩ ⟨Nat.le_of_ble_eq_true rfl, Nat.le_of_ble_eq_true rfl⟩ (rec_2 X hP2) ⟨hP2, hP1⟩ rfl hl.1 rfl (Nat.le_of_ble_eq_true rfl) dX2_bestDonor_88 ⟨Nat.le_refl _, Nat.le_refl _⟩) ?_
                refine lv_goto (tgt := 96) (cx_x X) (cx_b X) dX2_bestDonor_91 (by decide) ?_
                exact Jt23 _ (by cases hm; exact hmt23) _ (lv_sub hl [2, 3, 4, 5, 6, 7] rfl)
        refine lv_icmp_ne (tgt := 40) (cx_x X) (cx_b X) dX2_bestDonor_33 (by decide) (fun c28 => ?_) (fun c28 => ?_)
        · replace hm := if_F c28 hm
          refine lv_iconst (v := (0 : Int32)) (cx_x X) (cx_b X) dX2_bestDonor_40 (by decide) ?_
          exact Jt10 _ (by cases hm; exact hmt10) _ (lv_sub hl [0, 1, 2, 3, 4, 5] rfl)
        · replace hm := if_T c28 hm
          refine lv_iconst (v := (1 : Int32)) (cx_x X) (cx_b X) dX2_bestDonor_36 (by decide) ?_
          refine lv_goto (tgt := 41) (cx_x X) (cx_b X) dX2_bestDonor_37 (by decide) ?_
          exact Jt10 _ (by cases hm; exact hmt10) _ (lv_sub hl [0, 1, 2, 3, 4, 5] rfl)
  exact Lt1 _ _ _ _ hm _ (lv_sub hl [3, 4, 5, 2, 1, 0] rfl)
/-! X2_greatestOf -/
def m2_greatestOf_L10 (a1 : Int32) (kkt1 : Int32 → Option Int32) (t0 : Int32) : Option Int32 :=
  if t0 < 0 then
  some (-9 : Int32)
  else
  (m4_contains a1 t0).bind fun v5 =>
  if v5 = 0 then
  kkt1 (t0 + (-1 : Int32))
  else
  some t0
def m2_greatestOf (F : (Nat → Int32)) (R : (Nat → Nat → Int32)) (G : (Nat → Int32)) (Q : (Nat → Nat → Int32)) (a1 : Int32) : Option Int32 :=
  wh (m2_greatestOf_L10 a1) 2000 ((G 1) - (1 : Int32))
abbrev rm_X2_greatestOf : Room := { frames := 1, cells := 0, slots := 0, locals := 21 }
set_option maxHeartbeats 4000000 in
set_option maxRecDepth 100000 in
theorem c_X2_greatestOf (l : Launch) (D : va_G) (y : Nat → ClassId) (A B : Nat → Nat) (F : (Nat → Int32)) (R : (Nat → Nat → Int32)) (G : (Nat → Int32)) (Q : (Nat → Nat → Int32)) (a1 : Int32) (r : Int32) (hm : m2_greatestOf F R G Q a1 = some r) : Met l yX2_greatestOf (wy_s yX2_greatestOf cX2_greatestOf 3 (some .int)) rm_X2_greatestOf (pc_R D y [.ref (A 0), .int a1] (fun H => va_P D vwCl (w2_s y (B 0) A F R) H ∧ va_P D vwCl (w1_s y B G Q) H)) (qc_R r) 0 0 (fun _ => False) := by
  refine met_R (by decide) (Nat.le_of_ble_eq_true rfl) ?_
  intro p e s m args below meth c X h0 ls hl
  obtain ⟨hP2, hP1⟩ := h0
  replace hl : lv_has ls 3 [(0, .ref (A 0)), (1, .int a1)] := hl
  replace X : cx p s m args meth c cX2_greatestOf 3 (some .int) RX2 D y := X
  unfold m2_greatestOf at hm
  refine lv_aload_n (cx_x X) (cx_b X) dX2_greatestOf_0 rfl (lv_at hl 0 rfl) ?_
  refine gf_X2_32 X hP2 dX2_greatestOf_1 ?_
  refine gf_X2_163 X hP1 dX2_greatestOf_4 ?_
  refine lv_iconst (v := (1 : Int32)) (cx_x X) (cx_b X) dX2_greatestOf_7 (by decide) ?_
  refine lv_isub (cx_x X) (cx_b X) dX2_greatestOf_8 ?_
  refine lv_istore_n (lv' := [(2, .int ((G 1) - (1 : Int32))), (0, .ref (A 0)), (1, .int a1)]) (cx_x X) (cx_b X) dX2_greatestOf_9 rfl hl (by decide) rfl (fun ls hl => ?_)
  have Lt1 : ∀ (n : Nat) (v2 : Int32) , wh (m2_greatestOf_L10 a1) n v2 = some r → ∀ ls, lv_has ls 3 [(1, .int a1), (2, .int v2)] → gr p l e rm_X2_greatestOf s m args below meth c r (F0 m 10 ls []) := by
    intro n
    induction n with
    | zero => intro v2 hm; cases hm
    | succ n ih =>
      intro v2 hm ls hl
      replace hm : (m2_greatestOf_L10 a1) (wh (m2_greatestOf_L10 a1) n) v2 = some r := hm
      dsimp only [m2_greatestOf_L10] at hm
      refine lv_iload_n (cx_x X) (cx_b X) dX2_greatestOf_10 rfl (lv_at hl 1 rfl) ?_
      refine lv_if_lt (tgt := 30) (cx_x X) (cx_b X) dX2_greatestOf_11 (by decide) (fun c3 => ?_) (fun c3 => ?_)
      · replace hm := if_T c3 hm
        refine lv_bipush (v := (-9 : Int32)) (cx_x X) (cx_b X) dX2_greatestOf_30 (by decide) ?_
        exact gr_i X hm dX2_greatestOf_32
      · replace hm := if_F c3 hm
        refine lv_iload_n (cx_x X) (cx_b X) dX2_greatestOf_14 rfl (lv_at hl 0 rfl) ?_
        refine lv_iload_n (cx_x X) (cx_b X) dX2_greatestOf_15 rfl (lv_at hl 1 rfl) ?_
        obtain ⟨v5, h4, hm⟩ := bnd hm
        refine af_R (rn_N (As := [.int a1, .int v2]) (rest := []) X (c_X4_contains l D y a1 v2  _ h4) nq_X2_154 ⟨rfl, rfl⟩ ⟨Nat.le_of_ble_eq_true rfl, Nat.le_of_ble_eq_true rfl⟩ trivial rfl hl.1 rfl (Nat.le_of_ble_eq_true rfl) dX2_greatestOf_16 ⟨Nat.le_refl _, Nat.le_refl _⟩) ?_
        refine lv_if_eq (tgt := 24) (cx_x X) (cx_b X) dX2_greatestOf_19 (by decide) (fun c6 => ?_) (fun c6 => ?_)
        · replace hm := if_T c6 hm
          refine lv_iinc (v := (v2 + (-1 : Int32))) (lv' := [(2, .int (v2 + (-1 : Int32))), (1, .int a1)]) (cx_x X) (cx_b X) dX2_greatestOf_24 hl (k := 1) rfl (by rfl) (by decide) rfl (fun ls hl => ?_)
          refine lv_goto (tgt := 10) (cx_x X) (cx_b X) dX2_greatestOf_27 (by decide) ?_
          exact ih _ hm _ (lv_sub hl [1, 0] rfl)
        · replace hm := if_F c6 hm
          refine lv_iload_n (cx_x X) (cx_b X) dX2_greatestOf_22 rfl (lv_at hl 1 rfl) ?_
          exact gr_i X hm dX2_greatestOf_23
  exact Lt1 _ _ hm _ (lv_sub hl [2, 0] rfl)
/-! X2_chooseChannel -/
def m2_chooseChannel_J62  (v8 : Int32) : Option Int32 :=
  some v8
def m2_chooseChannel (F : (Nat → Int32)) (R : (Nat → Nat → Int32)) (G : (Nat → Int32)) (Q : (Nat → Nat → Int32)) (a1 : Int32) : Option Int32 :=
  (m2_availableIn F R G Q a1).bind fun v2 =>
  (m1_nominalsOf G Q a1).bind fun v4 =>
  if (v2 &&& v4) = 0 then
  (m2_bestDonor F R G Q a1 v2).bind fun v7 =>
  (if v7 = (-9 : Int32) then
  some (-9 : Int32)
  else
  (m1_nominalsOf G Q v7).bind fun v12 =>
  (m2_greatestOf F R G Q (v2 &&& v12)).bind fun v14 =>
  some v14).bind fun v8 => m2_chooseChannel_J62 v8
  else
  (m2_lowestOf F R G Q (v2 &&& v4)).bind fun v16 =>
  some v16
abbrev rm_X2_chooseChannel : Room := { frames := 4, cells := 0, slots := 0, locals := 97 }
set_option maxHeartbeats 4000000 in
set_option maxRecDepth 100000 in
theorem c_X2_chooseChannel (l : Launch) (D : va_G) (y : Nat → ClassId) (A B : Nat → Nat) (F : (Nat → Int32)) (R : (Nat → Nat → Int32)) (G : (Nat → Int32)) (Q : (Nat → Nat → Int32)) (a1 : Int32) (r : Int32) (hm : m2_chooseChannel F R G Q a1 = some r) : Met l yX2_chooseChannel (wy_s yX2_chooseChannel cX2_chooseChannel 5 (some .int)) rm_X2_chooseChannel (pc_R D y [.ref (A 0), .int a1] (fun H => va_P D vwCl (w2_s y (B 0) A F R) H ∧ va_P D vwCl (w1_s y B G Q) H)) (qc_R r) 0 0 (fun _ => False) := by
  refine met_R (by decide) (Nat.le_of_ble_eq_true rfl) ?_
  intro p e s m args below meth c X h0 ls hl
  obtain ⟨hP2, hP1⟩ := h0
  replace hl : lv_has ls 5 [(0, .ref (A 0)), (1, .int a1)] := hl
  replace X : cx p s m args meth c cX2_chooseChannel 5 (some .int) RX2 D y := X
  unfold m2_chooseChannel at hm
  refine lv_aload_n (cx_x X) (cx_b X) dX2_chooseChannel_0 rfl (lv_at hl 0 rfl) ?_
  refine lv_iload_n (cx_x X) (cx_b X) dX2_chooseChannel_1 rfl (lv_at hl 1 rfl) ?_
  obtain ⟨v2, h1, hm⟩ := bnd hm
  refine af_R (rn_V (As := [.int a1]) (rest := []) X (c_X2_availableIn l D y A B F R G Q a1  _ h1) vq_X2_166 ⟨rfl, rfl⟩ ⟨Nat.le_of_ble_eq_true rfl, Nat.le_of_ble_eq_true rfl⟩ (rec_2 X hP2) ⟨hP2, hP1⟩ rfl hl.1 rfl (Nat.le_of_ble_eq_true rfl) dX2_chooseChannel_2 ⟨Nat.le_refl _, Nat.le_refl _⟩) ?_
  refine lv_istore_n (lv' := [(2, .int v2), (0, .ref (A 0)), (1, .int a1)]) (cx_x X) (cx_b X) dX2_chooseChannel_5 rfl hl (by decide) rfl (fun ls hl => ?_)
  refine lv_iload_n (cx_x X) (cx_b X) dX2_chooseChannel_6 rfl (lv_at hl 0 rfl) ?_
  refine lv_aload_n (cx_x X) (cx_b X) dX2_chooseChannel_7 rfl (lv_at hl 1 rfl) ?_
  refine gf_X2_32 X hP2 dX2_chooseChannel_8 ?_
  refine lv_iload_n (cx_x X) (cx_b X) dX2_chooseChannel_11 rfl (lv_at hl 2 rfl) ?_
  obtain ⟨v4, h3, hm⟩ := bnd hm
  refine af_R (rn_V (As := [.int a1]) (rest := [.int v2]) X (c_X1_nominalsOf l D y B G Q a1  _ h3) vq_X2_151 ⟨rfl, rfl⟩ ⟨Nat.le_of_ble_eq_true rfl, Nat.le_of_ble_eq_true rfl⟩ (rec_1 X hP1) hP1 rfl hl.1 rfl (Nat.le_of_ble_eq_true rfl) dX2_chooseChannel_12 ⟨Nat.le_refl _, Nat.le_refl _⟩) ?_
  refine lv_iand (cx_x X) (cx_b X) dX2_chooseChannel_15 ?_
  refine lv_istore_n (lv' := [(3, .int (v2 &&& v4)), (2, .int v2), (0, .ref (A 0)), (1, .int a1)]) (cx_x X) (cx_b X) dX2_chooseChannel_16 rfl hl (by decide) rfl (fun ls hl => ?_)
  refine lv_iload_n (cx_x X) (cx_b X) dX2_chooseChannel_17 rfl (lv_at hl 0 rfl) ?_
  refine lv_if_eq (tgt := 27) (cx_x X) (cx_b X) dX2_chooseChannel_18 (by decide) (fun c5 => ?_) (fun c5 => ?_)
  · replace hm := if_T c5 hm
    refine lv_aload_n (cx_x X) (cx_b X) dX2_chooseChannel_27 rfl (lv_at hl 2 rfl) ?_
    refine lv_iload_n (cx_x X) (cx_b X) dX2_chooseChannel_28 rfl (lv_at hl 3 rfl) ?_
    refine lv_iload_n (cx_x X) (cx_b X) dX2_chooseChannel_29 rfl (lv_at hl 1 rfl) ?_
    obtain ⟨v7, h6, hm⟩ := bnd hm
    refine af_R (rn_V (As := [.int a1, .int v2]) (rest := []) X (c_X2_bestDonor l D y A B F R G Q a1 v2  _ h6) vq_X2_169 ⟨rfl, rfl⟩ ⟨Nat.le_of_ble_eq_true rfl, Nat.le_of_ble_eq_true rfl⟩ (rec_2 X hP2) ⟨hP2, hP1⟩ rfl hl.1 rfl (Nat.le_of_ble_eq_true rfl) dX2_chooseChannel_30 ⟨Nat.le_refl _, Nat.le_refl _⟩) ?_
    refine lv_istore (lv' := [(4, .int v7), (3, .int (v2 &&& v4)), (2, .int v2), (0, .ref (A 0)), (1, .int a1)]) (cx_x X) (cx_b X) dX2_chooseChannel_33 hl (by decide) rfl (fun ls hl => ?_)
    refine lv_iload (cx_x X) (cx_b X) dX2_chooseChannel_35 (lv_at hl 0 rfl) ?_
    refine lv_bipush (v := (-9 : Int32)) (cx_x X) (cx_b X) dX2_chooseChannel_37 (by decide) ?_
    obtain ⟨qt9, hm, hmt9⟩ := bnd hm
    have Jt9 : ∀ (v8 : Int32) , m2_chooseChannel_J62 v8 = some r → ∀ ls, lv_has ls 5 [] → gr p l e rm_X2_chooseChannel s m args below meth c r (F0 m 62 ls [.int v8]) := by
      intro v8 hm ls hl
      unfold m2_chooseChannel_J62 at hm
      exact gr_i X hm dX2_chooseChannel_62
    refine lv_icmp_ne (tgt := 47) (cx_x X) (cx_b X) dX2_chooseChannel_39 (by decide) (fun c10 => ?_) (fun c10 => ?_)
    · replace hm := if_F c10 hm
      refine lv_aload_n (cx_x X) (cx_b X) dX2_chooseChannel_47 rfl (lv_at hl 3 rfl) ?_
      refine lv_iload_n (cx_x X) (cx_b X) dX2_chooseChannel_48 rfl (lv_at hl 2 rfl) ?_
      refine lv_aload_n (cx_x X) (cx_b X) dX2_chooseChannel_49 rfl (lv_at hl 3 rfl) ?_
      refine gf_X2_32 X hP2 dX2_chooseChannel_50 ?_
      refine lv_iload (cx_x X) (cx_b X) dX2_chooseChannel_53 (lv_at hl 0 rfl) ?_
      obtain ⟨v12, h11, hm⟩ := bnd hm
      refine af_R (rn_V (As := [.int v7]) (rest := [.int v2, .ref (A 0)]) X (c_X1_nominalsOf l D y B G Q v7  _ h11) vq_X2_151 ⟨rfl, rfl⟩ ⟨Nat.le_of_ble_eq_true rfl, Nat.le_of_ble_eq_true rfl⟩ (rec_1 X hP1) hP1 rfl hl.1 rfl (Nat.le_of_ble_eq_true rfl) dX2_chooseChannel_55 ⟨Nat.le_refl _, Nat.le_refl _⟩) ?_
      refine lv_iand (cx_x X) (cx_b X) dX2_chooseChannel_58 ?_
      obtain ⟨v14, h13, hm⟩ := bnd hm
      refine af_R (rn_V (As := [.int (v2 &&& v12)]) (rest := []) X (c_X2_greatestOf l D y A B F R G Q (v2 &&& v12)  _ h13) vq_X2_172 ⟨rfl, rfl⟩ ⟨Nat.le_of_ble_eq_true rfl, Nat.le_of_ble_eq_true rfl⟩ (rec_2 X hP2) ⟨hP2, hP1⟩ rfl hl.1 rfl (Nat.le_of_ble_eq_true rfl) dX2_chooseChannel_59 ⟨Nat.le_refl _, Nat.le_refl _⟩) ?_
      exact Jt9 _ (by cases hm; exact hmt9) _ (lv_sub hl [] rfl)
    · replace hm := if_T c10 hm
      refine lv_bipush (v := (-9 : Int32)) (cx_x X) (cx_b X) dX2_chooseChannel_42 (by decide) ?_
      refine lv_goto (tgt := 62) (cx_x X) (cx_b X) dX2_chooseChannel_44 (by decide) ?_
      exact Jt9 _ (by cases hm; exact hmt9) _ (lv_sub hl [] rfl)
  · replace hm := if_F c5 hm
    refine lv_aload_n (cx_x X) (cx_b X) dX2_chooseChannel_21 rfl (lv_at hl 2 rfl) ?_
    refine lv_iload_n (cx_x X) (cx_b X) dX2_chooseChannel_22 rfl (lv_at hl 0 rfl) ?_
    obtain ⟨v16, h15, hm⟩ := bnd hm
    refine af_R (rn_V (As := [.int (v2 &&& v4)]) (rest := []) X (c_X2_lowestOf l D y A B F R G Q (v2 &&& v4)  _ h15) vq_X2_145 ⟨rfl, rfl⟩ ⟨Nat.le_of_ble_eq_true rfl, Nat.le_of_ble_eq_true rfl⟩ (rec_2 X hP2) ⟨hP2, hP1⟩ rfl hl.1 rfl (Nat.le_of_ble_eq_true rfl) dX2_chooseChannel_23 ⟨Nat.le_refl _, Nat.le_refl _⟩) ?_
    exact gr_i X hm dX2_chooseChannel_26
/-! X2_fixedAccepts -/
def m2_fixedAccepts_J55  (v5 : Int32) : Option Int32 :=
  if v5 &&& 1 = v5 then some v5 else none
def m2_fixedAccepts_X39 (G : (Nat → Int32)) (v4 : Int32) : Option Int32 :=
  (if (G 2) ≤ v4 then
  some (0 : Int32)
  else
  some (1 : Int32)).bind fun v5 => m2_fixedAccepts_J55 v5
def m2_fixedAccepts_J33 (kkt1 : (Int32 × Int32) → Option Int32) (v3 : Int32) (v10 : Int32) : Option Int32 :=
  kkt1 (v10, (v3 + (1 : Int32)))
def m2_fixedAccepts_L4 (R : (Nat → Nat → Int32)) (a1 : Int32) (kkt1 : (Int32 × Int32) → Option Int32) (t0 : (Int32 × Int32)) : Option Int32 :=
  if (60 : Int32) ≤ t0.2 then
  some t0.1
  else
  if inb t0.2 60 then
  (if (R 2 t0.2.toNatClampNeg) = (1 : Int32) then
  if inb t0.2 60 then
  if (R 0 t0.2.toNatClampNeg) = a1 then
  some (t0.1 + (1 : Int32))
  else
  some t0.1 else none
  else
  some t0.1).bind fun v10 => m2_fixedAccepts_J33 kkt1 t0.2 v10 else none
def m2_fixedAccepts (F : (Nat → Int32)) (R : (Nat → Nat → Int32)) (G : (Nat → Int32)) (Q : (Nat → Nat → Int32)) (a1 : Int32) : Option Int32 :=
  (wh (m2_fixedAccepts_L4 R a1) 2000 ((0 : Int32), (0 : Int32))).bind fun v4 => m2_fixedAccepts_X39 G v4
abbrev rm_X2_fixedAccepts : Room := { frames := 0, cells := 0, slots := 0, locals := 0 }
set_option maxHeartbeats 4000000 in
set_option maxRecDepth 100000 in
theorem c_X2_fixedAccepts (l : Launch) (D : va_G) (y : Nat → ClassId) (A B : Nat → Nat) (F : (Nat → Int32)) (R : (Nat → Nat → Int32)) (G : (Nat → Int32)) (Q : (Nat → Nat → Int32)) (a1 : Int32) (r : Int32) (hm : m2_fixedAccepts F R G Q a1 = some r) : Met l yX2_fixedAccepts (wy_s yX2_fixedAccepts cX2_fixedAccepts 4 (some .boolean)) rm_X2_fixedAccepts (pc_R D y [.ref (A 0), .int a1] (fun H => va_P D vwCl (w2_s y (B 0) A F R) H ∧ va_P D vwCl (w1_s y B G Q) H)) (qc_R r) 0 0 (fun _ => False) := by
  refine met_R (by decide) (Nat.le_of_ble_eq_true rfl) ?_
  intro p e s m args below meth c X h0 ls hl
  obtain ⟨hP2, hP1⟩ := h0
  replace hl : lv_has ls 4 [(0, .ref (A 0)), (1, .int a1)] := hl
  replace X : cx p s m args meth c cX2_fixedAccepts 4 (some .boolean) RX2 D y := X
  unfold m2_fixedAccepts at hm
  refine lv_iconst (v := (0 : Int32)) (cx_x X) (cx_b X) dX2_fixedAccepts_0 (by decide) ?_
  refine lv_istore_n (lv' := [(2, .int (0 : Int32)), (0, .ref (A 0)), (1, .int a1)]) (cx_x X) (cx_b X) dX2_fixedAccepts_1 rfl hl (by decide) rfl (fun ls hl => ?_)
  refine lv_iconst (v := (0 : Int32)) (cx_x X) (cx_b X) dX2_fixedAccepts_2 (by decide) ?_
  refine lv_istore_n (lv' := [(3, .int (0 : Int32)), (2, .int (0 : Int32)), (0, .ref (A 0)), (1, .int a1)]) (cx_x X) (cx_b X) dX2_fixedAccepts_3 rfl hl (by decide) rfl (fun ls hl => ?_)
  obtain ⟨qt1, hm, hmt1⟩ := bnd hm
  have Xt1 : ∀ (v4 : Int32) , m2_fixedAccepts_X39 G v4 = some r → ∀ ls, lv_has ls 4 [(0, .ref (A 0)), (2, .int v4)] → gr p l e rm_X2_fixedAccepts s m args below meth c r (F0 m 39 ls []) := by
    intro v4 hm ls hl
    unfold m2_fixedAccepts_X39 at hm
    refine lv_iload_n (cx_x X) (cx_b X) dX2_fixedAccepts_39 rfl (lv_at hl 1 rfl) ?_
    refine lv_aload_n (cx_x X) (cx_b X) dX2_fixedAccepts_40 rfl (lv_at hl 0 rfl) ?_
    refine gf_X2_32 X hP2 dX2_fixedAccepts_41 ?_
    refine gf_X2_136 X hP1 dX2_fixedAccepts_44 ?_
    obtain ⟨qt6, hm, hmt6⟩ := bnd hm
    have Jt6 : ∀ (v5 : Int32) , m2_fixedAccepts_J55 v5 = some r → ∀ ls, lv_has ls 4 [] → gr p l e rm_X2_fixedAccepts s m args below meth c r (F0 m 55 ls [.int v5]) := by
      intro v5 hm ls hl
      unfold m2_fixedAccepts_J55 at hm
      obtain ⟨h0, hm⟩ := ck_E hm
      exact gr_z X h0 hm dX2_fixedAccepts_55
    refine lv_icmp_ge (tgt := 54) (cx_x X) (cx_b X) dX2_fixedAccepts_47 (by decide) (fun c7 => ?_) (fun c7 => ?_)
    · replace hm := if_T c7 hm
      refine lv_iconst (v := (0 : Int32)) (cx_x X) (cx_b X) dX2_fixedAccepts_54 (by decide) ?_
      exact Jt6 _ (by cases hm; exact hmt6) _ (lv_sub hl [] rfl)
    · replace hm := if_F c7 hm
      refine lv_iconst (v := (1 : Int32)) (cx_x X) (cx_b X) dX2_fixedAccepts_50 (by decide) ?_
      refine lv_goto (tgt := 55) (cx_x X) (cx_b X) dX2_fixedAccepts_51 (by decide) ?_
      exact Jt6 _ (by cases hm; exact hmt6) _ (lv_sub hl [] rfl)
  have Lt1 : ∀ (n : Nat) (v2 : Int32) (v3 : Int32) , wh (m2_fixedAccepts_L4 R a1) n (v2, v3) = some qt1 → ∀ ls, lv_has ls 4 [(0, .ref (A 0)), (1, .int a1), (2, .int v2), (3, .int v3)] → gr p l e rm_X2_fixedAccepts s m args below meth c r (F0 m 4 ls []) := by
    intro n
    induction n with
    | zero => intro v2 v3 hm; cases hm
    | succ n ih =>
      intro v2 v3 hm ls hl
      replace hm : (m2_fixedAccepts_L4 R a1) (wh (m2_fixedAccepts_L4 R a1) n) (v2, v3) = some qt1 := hm
      dsimp only [m2_fixedAccepts_L4] at hm
      refine lv_iload_n (cx_x X) (cx_b X) dX2_fixedAccepts_4 rfl (lv_at hl 3 rfl) ?_
      refine lv_bipush (v := (60 : Int32)) (cx_x X) (cx_b X) dX2_fixedAccepts_5 (by decide) ?_
      refine lv_icmp_ge (tgt := 39) (cx_x X) (cx_b X) dX2_fixedAccepts_7 (by decide) (fun c8 => ?_) (fun c8 => ?_)
      · replace hm := if_T c8 hm
        exact Xt1 _ (by cases hm; exact hmt1) _ (lv_sub hl [0, 2] rfl)
      · replace hm := if_F c8 hm
        refine lv_aload_n (cx_x X) (cx_b X) dX2_fixedAccepts_10 rfl (lv_at hl 0 rfl) ?_
        refine gf_X2_22 X hP2 dX2_fixedAccepts_11 ?_
        refine lv_iload_n (cx_x X) (cx_b X) dX2_fixedAccepts_14 rfl (lv_at hl 3 rfl) ?_
        obtain ⟨h9, hm⟩ := ck_E hm
        refine ld_2_2 X hP2 h9 dX2_fixedAccepts_15 ?_
        refine lv_iconst (v := (1 : Int32)) (cx_x X) (cx_b X) dX2_fixedAccepts_16 (by decide) ?_
        obtain ⟨qt11, hm, hmt11⟩ := bnd hm
        have Jt11 : ∀ (v10 : Int32) , m2_fixedAccepts_J33 (wh (m2_fixedAccepts_L4 R a1) n) v3 v10 = some qt1 → ∀ ls, lv_has ls 4 [(0, .ref (A 0)), (1, .int a1), (2, .int v10), (3, .int v3)] → gr p l e rm_X2_fixedAccepts s m args below meth c r (F0 m 33 ls []) := by
          intro v10 hm ls hl
          unfold m2_fixedAccepts_J33 at hm
          refine lv_iinc (v := (v3 + (1 : Int32))) (lv' := [(3, .int (v3 + (1 : Int32))), (0, .ref (A 0)), (1, .int a1), (2, .int v10)]) (cx_x X) (cx_b X) dX2_fixedAccepts_33 hl (k := 3) rfl (by rfl) (by decide) rfl (fun ls hl => ?_)
          refine lv_goto (tgt := 4) (cx_x X) (cx_b X) dX2_fixedAccepts_36 (by decide) ?_
          exact ih _ _ hm _ (lv_sub hl [1, 2, 3, 0] rfl)
        refine lv_icmp_ne (tgt := 33) (cx_x X) (cx_b X) dX2_fixedAccepts_17 (by decide) (fun c12 => ?_) (fun c12 => ?_)
        · replace hm := if_F c12 hm
          exact Jt11 _ (by cases hm; exact hmt11) _ (lv_sub hl [0, 1, 2, 3] rfl)
        · replace hm := if_T c12 hm
          refine lv_aload_n (cx_x X) (cx_b X) dX2_fixedAccepts_20 rfl (lv_at hl 0 rfl) ?_
          refine gf_X2_15 X hP2 dX2_fixedAccepts_21 ?_
          refine lv_iload_n (cx_x X) (cx_b X) dX2_fixedAccepts_24 rfl (lv_at hl 3 rfl) ?_
          obtain ⟨h13, hm⟩ := ck_E hm
          refine ld_2_0 X hP2 h13 dX2_fixedAccepts_25 ?_
          refine lv_iload_n (cx_x X) (cx_b X) dX2_fixedAccepts_26 rfl (lv_at hl 1 rfl) ?_
          refine lv_icmp_ne (tgt := 33) (cx_x X) (cx_b X) dX2_fixedAccepts_27 (by decide) (fun c14 => ?_) (fun c14 => ?_)
          · replace hm := if_F c14 hm
            exact Jt11 _ (by cases hm; exact hmt11) _ (lv_sub hl [0, 1, 2, 3] rfl)
          · replace hm := if_T c14 hm
            refine lv_iinc (v := (v2 + (1 : Int32))) (lv' := [(2, .int (v2 + (1 : Int32))), (0, .ref (A 0)), (1, .int a1), (3, .int v3)]) (cx_x X) (cx_b X) dX2_fixedAccepts_30 hl (k := 2) rfl (by rfl) (by decide) rfl (fun ls hl => ?_)
            exact Jt11 _ (by cases hm; exact hmt11) _ (lv_sub hl [1, 2, 0, 3] rfl)
  exact Lt1 _ _ _ hm _ (lv_sub hl [2, 3, 1, 0] rfl)
/-! X4_isBetween -/
def m4_isBetween_J15  (v1 : Int32) : Option Int32 :=
  if v1 &&& 1 = v1 then some v1 else none
def m4_isBetween (a0 : Int32) (a1 : Int32) (a2 : Int32) : Option Int32 :=
  (if a0 < a1 then
  some (0 : Int32)
  else
  if a2 < a0 then
  some (0 : Int32)
  else
  some (1 : Int32)).bind fun v1 => m4_isBetween_J15 v1
abbrev rm_X4_isBetween : Room := { frames := 0, cells := 0, slots := 0, locals := 0 }
set_option maxHeartbeats 4000000 in
set_option maxRecDepth 100000 in
theorem c_X4_isBetween (l : Launch) (D : va_G) (y : Nat → ClassId) (a0 : Int32) (a1 : Int32) (a2 : Int32) (r : Int32) (hm : m4_isBetween a0 a1 a2 = some r) : Met l yX4_isBetween (wy_s yX4_isBetween cX4_isBetween 3 (some .boolean)) rm_X4_isBetween (pc_R D y [.int a0, .int a1, .int a2] (fun _ => True)) (qc_R r) 0 0 (fun _ => False) := by
  refine met_R (by decide) (Nat.le_of_ble_eq_true rfl) ?_
  intro p e s m args below meth c X h0 ls hl
  replace hl : lv_has ls 3 [(0, .int a0), (1, .int a1), (2, .int a2)] := hl
  replace X : cx p s m args meth c cX4_isBetween 3 (some .boolean) RX4 D y := X
  unfold m4_isBetween at hm
  refine lv_iload_n (cx_x X) (cx_b X) dX4_isBetween_0 rfl (lv_at hl 0 rfl) ?_
  refine lv_iload_n (cx_x X) (cx_b X) dX4_isBetween_1 rfl (lv_at hl 1 rfl) ?_
  obtain ⟨qt2, hm, hmt2⟩ := bnd hm
  have Jt2 : ∀ (v1 : Int32) , m4_isBetween_J15 v1 = some r → ∀ ls, lv_has ls 3 [] → gr p l e rm_X4_isBetween s m args below meth c r (F0 m 15 ls [.int v1]) := by
    intro v1 hm ls hl
    unfold m4_isBetween_J15 at hm
    obtain ⟨h0, hm⟩ := ck_E hm
    exact gr_z X h0 hm dX4_isBetween_15
  refine lv_icmp_lt (tgt := 14) (cx_x X) (cx_b X) dX4_isBetween_2 (by decide) (fun c3 => ?_) (fun c3 => ?_)
  · replace hm := if_T c3 hm
    refine lv_iconst (v := (0 : Int32)) (cx_x X) (cx_b X) dX4_isBetween_14 (by decide) ?_
    exact Jt2 _ (by cases hm; exact hmt2) _ (lv_sub hl [] rfl)
  · replace hm := if_F c3 hm
    refine lv_iload_n (cx_x X) (cx_b X) dX4_isBetween_5 rfl (lv_at hl 0 rfl) ?_
    refine lv_iload_n (cx_x X) (cx_b X) dX4_isBetween_6 rfl (lv_at hl 2 rfl) ?_
    refine lv_icmp_gt (tgt := 14) (cx_x X) (cx_b X) dX4_isBetween_7 (by decide) (fun c4 => ?_) (fun c4 => ?_)
    · replace hm := if_T c4 hm
      refine lv_iconst (v := (0 : Int32)) (cx_x X) (cx_b X) dX4_isBetween_14 (by decide) ?_
      exact Jt2 _ (by cases hm; exact hmt2) _ (lv_sub hl [] rfl)
    · replace hm := if_F c4 hm
      refine lv_iconst (v := (1 : Int32)) (cx_x X) (cx_b X) dX4_isBetween_10 (by decide) ?_
      refine lv_goto (tgt := 15) (cx_x X) (cx_b X) dX4_isBetween_11 (by decide) ?_
      exact Jt2 _ (by cases hm; exact hmt2) _ (lv_sub hl [] rfl)
/-! X4_asNumber -/
def m4_asNumber_J9  (v1 : Int32) : Option Int32 :=
  some v1
def m4_asNumber (a0 : Int32) : Option Int32 :=
  (if a0 = 0 then
  some (0 : Int32)
  else
  some (1 : Int32)).bind fun v1 => m4_asNumber_J9 v1
abbrev rm_X4_asNumber : Room := { frames := 0, cells := 0, slots := 0, locals := 0 }
set_option maxHeartbeats 4000000 in
set_option maxRecDepth 100000 in
theorem c_X4_asNumber (l : Launch) (D : va_G) (y : Nat → ClassId) (a0 : Int32) (r : Int32) (hm : m4_asNumber a0 = some r) : Met l yX4_asNumber (wy_s yX4_asNumber cX4_asNumber 1 (some .int)) rm_X4_asNumber (pc_R D y [.int a0] (fun _ => True)) (qc_R r) 0 0 (fun _ => False) := by
  refine met_R (by decide) (Nat.le_of_ble_eq_true rfl) ?_
  intro p e s m args below meth c X h0 ls hl
  replace hl : lv_has ls 1 [(0, .int a0)] := hl
  replace X : cx p s m args meth c cX4_asNumber 1 (some .int) RX4 D y := X
  unfold m4_asNumber at hm
  refine lv_iload_n (cx_x X) (cx_b X) dX4_asNumber_0 rfl (lv_at hl 0 rfl) ?_
  obtain ⟨qt2, hm, hmt2⟩ := bnd hm
  have Jt2 : ∀ (v1 : Int32) , m4_asNumber_J9 v1 = some r → ∀ ls, lv_has ls 1 [] → gr p l e rm_X4_asNumber s m args below meth c r (F0 m 9 ls [.int v1]) := by
    intro v1 hm ls hl
    unfold m4_asNumber_J9 at hm
    exact gr_i X hm dX4_asNumber_9
  refine lv_if_eq (tgt := 8) (cx_x X) (cx_b X) dX4_asNumber_1 (by decide) (fun c3 => ?_) (fun c3 => ?_)
  · replace hm := if_T c3 hm
    refine lv_iconst (v := (0 : Int32)) (cx_x X) (cx_b X) dX4_asNumber_8 (by decide) ?_
    exact Jt2 _ (by cases hm; exact hmt2) _ (lv_sub hl [] rfl)
  · replace hm := if_F c3 hm
    refine lv_iconst (v := (1 : Int32)) (cx_x X) (cx_b X) dX4_asNumber_4 (by decide) ?_
    refine lv_goto (tgt := 9) (cx_x X) (cx_b X) dX4_asNumber_5 (by decide) ?_
    exact Jt2 _ (by cases hm; exact hmt2) _ (lv_sub hl [] rfl)
/-! X2_nextToReturn -/
def m2_nextToReturn_X75  (v5 : Int32) : Option Int32 :=
  some v5
def m2_nextToReturn_J69 (kkt1 : (Int32 × Int32 × Int32) → Option Int32) (v4 : Int32) (v9 : Int32) (v10 : Int32) : Option Int32 :=
  kkt1 (v9, v10, (v4 + (1 : Int32)))
def m2_nextToReturn_L7 (F : (Nat → Int32)) (R : (Nat → Nat → Int32)) (G : (Nat → Int32)) (Q : (Nat → Nat → Int32)) (kkt1 : (Int32 × Int32 × Int32) → Option Int32) (t0 : (Int32 × Int32 × Int32)) : Option Int32 :=
  if (60 : Int32) ≤ t0.2.2 then
  some t0.1
  else
  (m2_borrows F R G Q t0.2.2).bind fun v8 =>
  (if v8 = 0 then
  some (t0.1, t0.2.1)
  else
  (m2_cellAt F R G Q t0.2.2).bind fun v14 =>
  (m2_availableNominals F R G Q v14).bind fun v16 =>
  if v16 = 0 then
  some (t0.1, t0.2.1)
  else
  (m2_cellAt F R G Q t0.2.2).bind fun v19 =>
  (m2_channelAt F R G Q t0.2.2).bind fun v21 =>
  (m1_burdenIn G Q v19 v21).bind fun v23 =>
  if t0.1 = (-9 : Int32) then
  some (t0.2.2, v23)
  else
  if v23 ≤ t0.2.1 then
  some (t0.1, t0.2.1)
  else
  some (t0.2.2, v23)).bind fun ⟨v9, v10⟩ => m2_nextToReturn_J69 kkt1 t0.2.2 v9 v10
def m2_nextToReturn (F : (Nat → Int32)) (R : (Nat → Nat → Int32)) (G : (Nat → Int32)) (Q : (Nat → Nat → Int32)) : Option Int32 :=
  (wh (m2_nextToReturn_L7 F R G Q) 2000 ((-9 : Int32), (0 : Int32), (0 : Int32))).bind fun v5 => m2_nextToReturn_X75 v5
abbrev rm_X2_nextToReturn : Room := { frames := 3, cells := 0, slots := 0, locals := 66 }
set_option maxHeartbeats 4000000 in
set_option maxRecDepth 100000 in
theorem c_X2_nextToReturn (l : Launch) (D : va_G) (y : Nat → ClassId) (A B : Nat → Nat) (F : (Nat → Int32)) (R : (Nat → Nat → Int32)) (G : (Nat → Int32)) (Q : (Nat → Nat → Int32)) (r : Int32) (hm : m2_nextToReturn F R G Q = some r) : Met l yX2_nextToReturn (wy_s yX2_nextToReturn cX2_nextToReturn 5 (some .int)) rm_X2_nextToReturn (pc_R D y [.ref (A 0)] (fun H => va_P D vwCl (w2_s y (B 0) A F R) H ∧ va_P D vwCl (w1_s y B G Q) H)) (qc_R r) 0 0 (fun _ => False) := by
  refine met_R (by decide) (Nat.le_of_ble_eq_true rfl) ?_
  intro p e s m args below meth c X h0 ls hl
  obtain ⟨hP2, hP1⟩ := h0
  replace hl : lv_has ls 5 [(0, .ref (A 0))] := hl
  replace X : cx p s m args meth c cX2_nextToReturn 5 (some .int) RX2 D y := X
  unfold m2_nextToReturn at hm
  refine lv_bipush (v := (-9 : Int32)) (cx_x X) (cx_b X) dX2_nextToReturn_0 (by decide) ?_
  refine lv_istore_n (lv' := [(1, .int (-9 : Int32)), (0, .ref (A 0))]) (cx_x X) (cx_b X) dX2_nextToReturn_2 rfl hl (by decide) rfl (fun ls hl => ?_)
  refine lv_iconst (v := (0 : Int32)) (cx_x X) (cx_b X) dX2_nextToReturn_3 (by decide) ?_
  refine lv_istore_n (lv' := [(2, .int (0 : Int32)), (1, .int (-9 : Int32)), (0, .ref (A 0))]) (cx_x X) (cx_b X) dX2_nextToReturn_4 rfl hl (by decide) rfl (fun ls hl => ?_)
  refine lv_iconst (v := (0 : Int32)) (cx_x X) (cx_b X) dX2_nextToReturn_5 (by decide) ?_
  refine lv_istore_n (lv' := [(3, .int (0 : Int32)), (2, .int (0 : Int32)), (1, .int (-9 : Int32)), (0, .ref (A 0))]) (cx_x X) (cx_b X) dX2_nextToReturn_6 rfl hl (by decide) rfl (fun ls hl => ?_)
  obtain ⟨qt1, hm, hmt1⟩ := bnd hm
  have Xt1 : ∀ (v5 : Int32) , m2_nextToReturn_X75 v5 = some r → ∀ ls, lv_has ls 5 [(1, .int v5)] → gr p l e rm_X2_nextToReturn s m args below meth c r (F0 m 75 ls []) := by
    intro v5 hm ls hl
    unfold m2_nextToReturn_X75 at hm
    refine lv_iload_n (cx_x X) (cx_b X) dX2_nextToReturn_75 rfl (lv_at hl 0 rfl) ?_
    exact gr_i X hm dX2_nextToReturn_76
  have Lt1 : ∀ (n : Nat) (v2 : Int32) (v3 : Int32) (v4 : Int32) , wh (m2_nextToReturn_L7 F R G Q) n (v2, v3, v4) = some qt1 → ∀ ls, lv_has ls 5 [(0, .ref (A 0)), (1, .int v2), (2, .int v3), (3, .int v4)] → gr p l e rm_X2_nextToReturn s m args below meth c r (F0 m 7 ls []) := by
    intro n
    induction n with
    | zero => intro v2 v3 v4 hm; cases hm
    | succ n ih =>
      intro v2 v3 v4 hm ls hl
      replace hm : (m2_nextToReturn_L7 F R G Q) (wh (m2_nextToReturn_L7 F R G Q) n) (v2, v3, v4) = some qt1 := hm
      dsimp only [m2_nextToReturn_L7] at hm
      refine lv_iload_n (cx_x X) (cx_b X) dX2_nextToReturn_7 rfl (lv_at hl 3 rfl) ?_
      refine lv_bipush (v := (60 : Int32)) (cx_x X) (cx_b X) dX2_nextToReturn_8 (by decide) ?_
      refine lv_icmp_ge (tgt := 75) (cx_x X) (cx_b X) dX2_nextToReturn_10 (by decide) (fun c6 => ?_) (fun c6 => ?_)
      · replace hm := if_T c6 hm
        exact Xt1 _ (by cases hm; exact hmt1) _ (lv_sub hl [1] rfl)
      · replace hm := if_F c6 hm
        refine lv_aload_n (cx_x X) (cx_b X) dX2_nextToReturn_13 rfl (lv_at hl 0 rfl) ?_
        refine lv_iload_n (cx_x X) (cx_b X) dX2_nextToReturn_14 rfl (lv_at hl 3 rfl) ?_
        obtain ⟨v8, h7, hm⟩ := bnd hm
        refine af_R (rn_V (As := [.int v4]) (rest := []) X (c_X2_borrows l D y A B F R G Q v4  _ h7) vq_X2_133 ⟨rfl, rfl⟩ ⟨Nat.le_of_ble_eq_true rfl, Nat.le_of_ble_eq_true rfl⟩ (rec_2 X hP2) ⟨hP2, hP1⟩ rfl hl.1 rfl (Nat.le_of_ble_eq_true rfl) dX2_nextToReturn_15 ⟨Nat.le_refl _, Nat.le_refl _⟩) ?_
        obtain ⟨qt11, hm, hmt11⟩ := bnd hm
        have Jt11 : ∀ (v9 : Int32) (v10 : Int32) , m2_nextToReturn_J69 (wh (m2_nextToReturn_L7 F R G Q) n) v4 v9 v10 = some qt1 → ∀ ls, lv_has ls 5 [(0, .ref (A 0)), (1, .int v9), (2, .int v10), (3, .int v4)] → gr p l e rm_X2_nextToReturn s m args below meth c r (F0 m 69 ls []) := by
          intro v9 v10 hm ls hl
          unfold m2_nextToReturn_J69 at hm
          refine lv_iinc (v := (v4 + (1 : Int32))) (lv' := [(3, .int (v4 + (1 : Int32))), (0, .ref (A 0)), (1, .int v9), (2, .int v10)]) (cx_x X) (cx_b X) dX2_nextToReturn_69 hl (k := 3) rfl (by rfl) (by decide) rfl (fun ls hl => ?_)
          refine lv_goto (tgt := 7) (cx_x X) (cx_b X) dX2_nextToReturn_72 (by decide) ?_
          exact ih _ _ _ hm _ (lv_sub hl [1, 2, 3, 0] rfl)
        refine lv_if_eq (tgt := 69) (cx_x X) (cx_b X) dX2_nextToReturn_18 (by decide) (fun c12 => ?_) (fun c12 => ?_)
        · replace hm := if_T c12 hm
          exact Jt11 _ _ (by cases hm; exact hmt11) _ (lv_sub hl [0, 1, 2, 3] rfl)
        · replace hm := if_F c12 hm
          refine lv_aload_n (cx_x X) (cx_b X) dX2_nextToReturn_21 rfl (lv_at hl 0 rfl) ?_
          refine lv_aload_n (cx_x X) (cx_b X) dX2_nextToReturn_22 rfl (lv_at hl 0 rfl) ?_
          refine lv_iload_n (cx_x X) (cx_b X) dX2_nextToReturn_23 rfl (lv_at hl 3 rfl) ?_
          obtain ⟨v14, h13, hm⟩ := bnd hm
          refine af_R (rn_V (As := [.int v4]) (rest := [.ref (A 0)]) X (c_X2_cellAt l D y A B F R G Q v4  _ h13) vq_X2_84 ⟨rfl, rfl⟩ ⟨Nat.le_of_ble_eq_true rfl, Nat.le_of_ble_eq_true rfl⟩ (rec_2 X hP2) ⟨hP2, hP1⟩ rfl hl.1 rfl (Nat.le_of_ble_eq_true rfl) dX2_nextToReturn_24 ⟨Nat.le_refl _, Nat.le_refl _⟩) ?_
          obtain ⟨v16, h15, hm⟩ := bnd hm
          refine af_R (rn_V (As := [.int v14]) (rest := []) X (c_X2_availableNominals l D y A B F R G Q v14  _ h15) vq_X2_142 ⟨rfl, rfl⟩ ⟨Nat.le_of_ble_eq_true rfl, Nat.le_of_ble_eq_true rfl⟩ (rec_2 X hP2) ⟨hP2, hP1⟩ rfl hl.1 rfl (Nat.le_of_ble_eq_true rfl) dX2_nextToReturn_27 ⟨Nat.le_refl _, Nat.le_refl _⟩) ?_
          refine lv_if_eq (tgt := 69) (cx_x X) (cx_b X) dX2_nextToReturn_30 (by decide) (fun c17 => ?_) (fun c17 => ?_)
          · replace hm := if_T c17 hm
            exact Jt11 _ _ (by cases hm; exact hmt11) _ (lv_sub hl [0, 1, 2, 3] rfl)
          · replace hm := if_F c17 hm
            refine lv_aload_n (cx_x X) (cx_b X) dX2_nextToReturn_33 rfl (lv_at hl 0 rfl) ?_
            refine gf_X2_32 X hP2 dX2_nextToReturn_34 ?_
            refine lv_aload_n (cx_x X) (cx_b X) dX2_nextToReturn_37 rfl (lv_at hl 0 rfl) ?_
            refine lv_iload_n (cx_x X) (cx_b X) dX2_nextToReturn_38 rfl (lv_at hl 3 rfl) ?_
            obtain ⟨v19, h18, hm⟩ := bnd hm
            refine af_R (rn_V (As := [.int v4]) (rest := [.ref (B 0)]) X (c_X2_cellAt l D y A B F R G Q v4  _ h18) vq_X2_84 ⟨rfl, rfl⟩ ⟨Nat.le_of_ble_eq_true rfl, Nat.le_of_ble_eq_true rfl⟩ (rec_2 X hP2) ⟨hP2, hP1⟩ rfl hl.1 rfl (Nat.le_of_ble_eq_true rfl) dX2_nextToReturn_39 ⟨Nat.le_refl _, Nat.le_refl _⟩) ?_
            refine lv_aload_n (cx_x X) (cx_b X) dX2_nextToReturn_42 rfl (lv_at hl 0 rfl) ?_
            refine lv_iload_n (cx_x X) (cx_b X) dX2_nextToReturn_43 rfl (lv_at hl 3 rfl) ?_
            obtain ⟨v21, h20, hm⟩ := bnd hm
            refine af_R (rn_V (As := [.int v4]) (rest := [.int v19, .ref (B 0)]) X (c_X2_channelAt l D y A B F R G Q v4  _ h20) vq_X2_80 ⟨rfl, rfl⟩ ⟨Nat.le_of_ble_eq_true rfl, Nat.le_of_ble_eq_true rfl⟩ (rec_2 X hP2) ⟨hP2, hP1⟩ rfl hl.1 rfl (Nat.le_of_ble_eq_true rfl) dX2_nextToReturn_44 ⟨Nat.le_refl _, Nat.le_refl _⟩) ?_
            obtain ⟨v23, h22, hm⟩ := bnd hm
            refine af_R (rn_V (As := [.int v19, .int v21]) (rest := []) X (c_X1_burdenIn l D y B G Q v19 v21  _ h22) vq_X2_148 ⟨rfl, rfl⟩ ⟨Nat.le_of_ble_eq_true rfl, Nat.le_of_ble_eq_true rfl⟩ (rec_1 X hP1) hP1 rfl hl.1 rfl (Nat.le_of_ble_eq_true rfl) dX2_nextToReturn_47 ⟨Nat.le_refl _, Nat.le_refl _⟩) ?_
            refine lv_istore (lv' := [(4, .int v23), (0, .ref (A 0)), (1, .int v2), (2, .int v3), (3, .int v4)]) (cx_x X) (cx_b X) dX2_nextToReturn_50 hl (by decide) rfl (fun ls hl => ?_)
            refine lv_iload_n (cx_x X) (cx_b X) dX2_nextToReturn_52 rfl (lv_at hl 2 rfl) ?_
            refine lv_bipush (v := (-9 : Int32)) (cx_x X) (cx_b X) dX2_nextToReturn_53 (by decide) ?_
            refine lv_icmp_eq (tgt := 64) (cx_x X) (cx_b X) dX2_nextToReturn_55 (by decide) (fun c24 => ?_) (fun c24 => ?_)
            · replace hm := if_T c24 hm
              refine lv_iload_n (cx_x X) (cx_b X) dX2_nextToReturn_64 rfl (lv_at hl 4 rfl) ?_
              refine lv_istore_n (lv' := [(1, .int v4), (4, .int v23), (0, .ref (A 0)), (2, .int v3), (3, .int v4)]) (cx_x X) (cx_b X) dX2_nextToReturn_65 rfl hl (by decide) rfl (fun ls hl => ?_)
              refine lv_iload (cx_x X) (cx_b X) dX2_nextToReturn_66 (lv_at hl 1 rfl) ?_
              refine lv_istore_n (lv' := [(2, .int v23), (1, .int v4), (4, .int v23), (0, .ref (A 0)), (3, .int v4)]) (cx_x X) (cx_b X) dX2_nextToReturn_68 rfl hl (by decide) rfl (fun ls hl => ?_)
              exact Jt11 _ _ (by cases hm; exact hmt11) _ (lv_sub hl [3, 1, 0, 4] rfl)
            · replace hm := if_F c24 hm
              refine lv_iload (cx_x X) (cx_b X) dX2_nextToReturn_58 (lv_at hl 0 rfl) ?_
              refine lv_iload_n (cx_x X) (cx_b X) dX2_nextToReturn_60 rfl (lv_at hl 3 rfl) ?_
              refine lv_icmp_le (tgt := 69) (cx_x X) (cx_b X) dX2_nextToReturn_61 (by decide) (fun c25 => ?_) (fun c25 => ?_)
              · replace hm := if_T c25 hm
                exact Jt11 _ _ (by cases hm; exact hmt11) _ (lv_sub hl [1, 2, 3, 4] rfl)
              · replace hm := if_F c25 hm
                refine lv_iload_n (cx_x X) (cx_b X) dX2_nextToReturn_64 rfl (lv_at hl 4 rfl) ?_
                refine lv_istore_n (lv' := [(1, .int v4), (4, .int v23), (0, .ref (A 0)), (2, .int v3), (3, .int v4)]) (cx_x X) (cx_b X) dX2_nextToReturn_65 rfl hl (by decide) rfl (fun ls hl => ?_)
                refine lv_iload (cx_x X) (cx_b X) dX2_nextToReturn_66 (lv_at hl 1 rfl) ?_
                refine lv_istore_n (lv' := [(2, .int v23), (1, .int v4), (4, .int v23), (0, .ref (A 0)), (3, .int v4)]) (cx_x X) (cx_b X) dX2_nextToReturn_68 rfl hl (by decide) rfl (fun ls hl => ?_)
                exact Jt11 _ _ (by cases hm; exact hmt11) _ (lv_sub hl [3, 1, 0, 4] rfl)
  exact Lt1 _ _ _ _ hm _ (lv_sub hl [3, 2, 1, 0] rfl)
/-! X2_moveError -/
def m2_moveError_J55  (v8 : Int32) : Option Int32 :=
  some v8
def m2_moveError_J45  (v6 : Int32) : Option Int32 :=
  (if v6 = 0 then
  some (-1 : Int32)
  else
  some (0 : Int32)).bind fun v8 => m2_moveError_J55 v8
def m2_moveError (F : (Nat → Int32)) (R : (Nat → Nat → Int32)) (G : (Nat → Int32)) (Q : (Nat → Nat → Int32)) (a1 : Int32) (a2 : Int32) : Option Int32 :=
  (m2_isPresent F R G Q a1).bind fun v2 =>
  if v2 = 0 then
  some (-4 : Int32)
  else
  (m1_hasCell G Q a2).bind fun v5 =>
  (if v5 = 0 then
  some (0 : Int32)
  else
  if inb a1 60 then
  (m1_separation G Q (R 0 a1.toNatClampNeg) a2).bind fun v14 =>
  if v14 = (1 : Int32) then
  some (1 : Int32)
  else
  some (0 : Int32) else none).bind fun v6 => m2_moveError_J45 v6
abbrev rm_X2_moveError : Room := { frames := 2, cells := 0, slots := 0, locals := 45 }
set_option maxHeartbeats 4000000 in
set_option maxRecDepth 100000 in
theorem c_X2_moveError (l : Launch) (D : va_G) (y : Nat → ClassId) (A B : Nat → Nat) (F : (Nat → Int32)) (R : (Nat → Nat → Int32)) (G : (Nat → Int32)) (Q : (Nat → Nat → Int32)) (a1 : Int32) (a2 : Int32) (r : Int32) (hm : m2_moveError F R G Q a1 a2 = some r) : Met l yX2_moveError (wy_s yX2_moveError cX2_moveError 4 (some .int)) rm_X2_moveError (pc_R D y [.ref (A 0), .int a1, .int a2] (fun H => va_P D vwCl (w2_s y (B 0) A F R) H ∧ va_P D vwCl (w1_s y B G Q) H)) (qc_R r) 0 0 (fun _ => False) := by
  refine met_R (by decide) (Nat.le_of_ble_eq_true rfl) ?_
  intro p e s m args below meth c X h0 ls hl
  obtain ⟨hP2, hP1⟩ := h0
  replace hl : lv_has ls 4 [(0, .ref (A 0)), (1, .int a1), (2, .int a2)] := hl
  replace X : cx p s m args meth c cX2_moveError 4 (some .int) RX2 D y := X
  unfold m2_moveError at hm
  refine lv_aload_n (cx_x X) (cx_b X) dX2_moveError_0 rfl (lv_at hl 0 rfl) ?_
  refine lv_iload_n (cx_x X) (cx_b X) dX2_moveError_1 rfl (lv_at hl 1 rfl) ?_
  obtain ⟨v2, h1, hm⟩ := bnd hm
  refine af_R (rn_V (As := [.int a1]) (rest := []) X (c_X2_isPresent l D y A B F R G Q a1  _ h1) vq_X2_76 ⟨rfl, rfl⟩ ⟨Nat.le_of_ble_eq_true rfl, Nat.le_of_ble_eq_true rfl⟩ (rec_2 X hP2) ⟨hP2, hP1⟩ rfl hl.1 rfl (Nat.le_of_ble_eq_true rfl) dX2_moveError_2 ⟨Nat.le_refl _, Nat.le_refl _⟩) ?_
  refine lv_if_ne (tgt := 11) (cx_x X) (cx_b X) dX2_moveError_5 (by decide) (fun c3 => ?_) (fun c3 => ?_)
  · replace hm := if_F c3 hm
    refine lv_aload_n (cx_x X) (cx_b X) dX2_moveError_11 rfl (lv_at hl 0 rfl) ?_
    refine gf_X2_32 X hP2 dX2_moveError_12 ?_
    refine lv_iload_n (cx_x X) (cx_b X) dX2_moveError_15 rfl (lv_at hl 2 rfl) ?_
    obtain ⟨v5, h4, hm⟩ := bnd hm
    refine af_R (rn_V (As := [.int a2]) (rest := []) X (c_X1_hasCell l D y B G Q a2  _ h4) vq_X2_91 ⟨rfl, rfl⟩ ⟨Nat.le_of_ble_eq_true rfl, Nat.le_of_ble_eq_true rfl⟩ (rec_1 X hP1) hP1 rfl hl.1 rfl (Nat.le_of_ble_eq_true rfl) dX2_moveError_16 ⟨Nat.le_refl _, Nat.le_refl _⟩) ?_
    obtain ⟨qt7, hm, hmt7⟩ := bnd hm
    have Jt7 : ∀ (v6 : Int32) , m2_moveError_J45 v6 = some r → ∀ ls, lv_has ls 4 [] → gr p l e rm_X2_moveError s m args below meth c r (F0 m 45 ls [.int v6]) := by
      intro v6 hm ls hl
      unfold m2_moveError_J45 at hm
      refine lv_istore_n (lv' := [(3, .int v6)]) (cx_x X) (cx_b X) dX2_moveError_45 rfl hl (by decide) rfl (fun ls hl => ?_)
      refine lv_iload_n (cx_x X) (cx_b X) dX2_moveError_46 rfl (lv_at hl 0 rfl) ?_
      obtain ⟨qt9, hm, hmt9⟩ := bnd hm
      have Jt9 : ∀ (v8 : Int32) , m2_moveError_J55 v8 = some r → ∀ ls, lv_has ls 4 [] → gr p l e rm_X2_moveError s m args below meth c r (F0 m 55 ls [.int v8]) := by
        intro v8 hm ls hl
        unfold m2_moveError_J55 at hm
        exact gr_i X hm dX2_moveError_55
      refine lv_if_eq (tgt := 54) (cx_x X) (cx_b X) dX2_moveError_47 (by decide) (fun c10 => ?_) (fun c10 => ?_)
      · replace hm := if_T c10 hm
        refine lv_iconst (v := (-1 : Int32)) (cx_x X) (cx_b X) dX2_moveError_54 (by decide) ?_
        exact Jt9 _ (by cases hm; exact hmt9) _ (lv_sub hl [] rfl)
      · replace hm := if_F c10 hm
        refine lv_iconst (v := (0 : Int32)) (cx_x X) (cx_b X) dX2_moveError_50 (by decide) ?_
        refine lv_goto (tgt := 55) (cx_x X) (cx_b X) dX2_moveError_51 (by decide) ?_
        exact Jt9 _ (by cases hm; exact hmt9) _ (lv_sub hl [] rfl)
    refine lv_if_eq (tgt := 44) (cx_x X) (cx_b X) dX2_moveError_19 (by decide) (fun c11 => ?_) (fun c11 => ?_)
    · replace hm := if_T c11 hm
      refine lv_iconst (v := (0 : Int32)) (cx_x X) (cx_b X) dX2_moveError_44 (by decide) ?_
      exact Jt7 _ (by cases hm; exact hmt7) _ (lv_sub hl [] rfl)
    · replace hm := if_F c11 hm
      refine lv_aload_n (cx_x X) (cx_b X) dX2_moveError_22 rfl (lv_at hl 0 rfl) ?_
      refine gf_X2_32 X hP2 dX2_moveError_23 ?_
      refine lv_aload_n (cx_x X) (cx_b X) dX2_moveError_26 rfl (lv_at hl 0 rfl) ?_
      refine gf_X2_15 X hP2 dX2_moveError_27 ?_
      refine lv_iload_n (cx_x X) (cx_b X) dX2_moveError_30 rfl (lv_at hl 1 rfl) ?_
      obtain ⟨h12, hm⟩ := ck_E hm
      refine ld_2_0 X hP2 h12 dX2_moveError_31 ?_
      refine lv_iload_n (cx_x X) (cx_b X) dX2_moveError_32 rfl (lv_at hl 2 rfl) ?_
      obtain ⟨v14, h13, hm⟩ := bnd hm
      refine af_R (rn_V (As := [.int (R 0 a1.toNatClampNeg), .int a2]) (rest := []) X (c_X1_separation l D y B G Q (R 0 a1.toNatClampNeg) a2  _ h13) vq_X2_125 ⟨rfl, rfl⟩ ⟨Nat.le_of_ble_eq_true rfl, Nat.le_of_ble_eq_true rfl⟩ (rec_1 X hP1) hP1 rfl hl.1 rfl (Nat.le_of_ble_eq_true rfl) dX2_moveError_33 ⟨Nat.le_refl _, Nat.le_refl _⟩) ?_
      refine lv_iconst (v := (1 : Int32)) (cx_x X) (cx_b X) dX2_moveError_36 (by decide) ?_
      refine lv_icmp_ne (tgt := 44) (cx_x X) (cx_b X) dX2_moveError_37 (by decide) (fun c15 => ?_) (fun c15 => ?_)
      · replace hm := if_F c15 hm
        refine lv_iconst (v := (0 : Int32)) (cx_x X) (cx_b X) dX2_moveError_44 (by decide) ?_
        exact Jt7 _ (by cases hm; exact hmt7) _ (lv_sub hl [] rfl)
      · replace hm := if_T c15 hm
        refine lv_iconst (v := (1 : Int32)) (cx_x X) (cx_b X) dX2_moveError_40 (by decide) ?_
        refine lv_goto (tgt := 45) (cx_x X) (cx_b X) dX2_moveError_41 (by decide) ?_
        exact Jt7 _ (by cases hm; exact hmt7) _ (lv_sub hl [] rfl)
  · replace hm := if_T c3 hm
    refine lv_bipush (v := (-4 : Int32)) (cx_x X) (cx_b X) dX2_moveError_8 (by decide) ?_
    exact gr_i X hm dX2_moveError_10
/-! X2_chooseDonor -/
def m2_chooseDonor_J40  (v7 : Int32) : Option Int32 :=
  some v7
def m2_chooseDonor_J24 (F : (Nat → Int32)) (R : (Nat → Nat → Int32)) (G : (Nat → Int32)) (Q : (Nat → Nat → Int32)) (a1 : Int32) (v2 : Int32) (v5 : Int32) : Option Int32 :=
  (if v5 = 0 then
  (m2_bestDonor F R G Q a1 v2).bind fun v11 =>
  some v11
  else
  some (-9 : Int32)).bind fun v7 => m2_chooseDonor_J40 v7
def m2_chooseDonor (F : (Nat → Int32)) (R : (Nat → Nat → Int32)) (G : (Nat → Int32)) (Q : (Nat → Nat → Int32)) (a1 : Int32) : Option Int32 :=
  (m2_availableIn F R G Q a1).bind fun v2 =>
  (m1_nominalsOf G Q a1).bind fun v4 =>
  (if (v2 &&& v4) = 0 then
  some (0 : Int32)
  else
  some (1 : Int32)).bind fun v5 => m2_chooseDonor_J24 F R G Q a1 v2 v5
abbrev rm_X2_chooseDonor : Room := { frames := 4, cells := 0, slots := 0, locals := 97 }
set_option maxHeartbeats 4000000 in
set_option maxRecDepth 100000 in
theorem c_X2_chooseDonor (l : Launch) (D : va_G) (y : Nat → ClassId) (A B : Nat → Nat) (F : (Nat → Int32)) (R : (Nat → Nat → Int32)) (G : (Nat → Int32)) (Q : (Nat → Nat → Int32)) (a1 : Int32) (r : Int32) (hm : m2_chooseDonor F R G Q a1 = some r) : Met l yX2_chooseDonor (wy_s yX2_chooseDonor cX2_chooseDonor 4 (some .int)) rm_X2_chooseDonor (pc_R D y [.ref (A 0), .int a1] (fun H => va_P D vwCl (w2_s y (B 0) A F R) H ∧ va_P D vwCl (w1_s y B G Q) H)) (qc_R r) 0 0 (fun _ => False) := by
  refine met_R (by decide) (Nat.le_of_ble_eq_true rfl) ?_
  intro p e s m args below meth c X h0 ls hl
  obtain ⟨hP2, hP1⟩ := h0
  replace hl : lv_has ls 4 [(0, .ref (A 0)), (1, .int a1)] := hl
  replace X : cx p s m args meth c cX2_chooseDonor 4 (some .int) RX2 D y := X
  unfold m2_chooseDonor at hm
  refine lv_aload_n (cx_x X) (cx_b X) dX2_chooseDonor_0 rfl (lv_at hl 0 rfl) ?_
  refine lv_iload_n (cx_x X) (cx_b X) dX2_chooseDonor_1 rfl (lv_at hl 1 rfl) ?_
  obtain ⟨v2, h1, hm⟩ := bnd hm
  refine af_R (rn_V (As := [.int a1]) (rest := []) X (c_X2_availableIn l D y A B F R G Q a1  _ h1) vq_X2_166 ⟨rfl, rfl⟩ ⟨Nat.le_of_ble_eq_true rfl, Nat.le_of_ble_eq_true rfl⟩ (rec_2 X hP2) ⟨hP2, hP1⟩ rfl hl.1 rfl (Nat.le_of_ble_eq_true rfl) dX2_chooseDonor_2 ⟨Nat.le_refl _, Nat.le_refl _⟩) ?_
  refine lv_istore_n (lv' := [(2, .int v2), (0, .ref (A 0)), (1, .int a1)]) (cx_x X) (cx_b X) dX2_chooseDonor_5 rfl hl (by decide) rfl (fun ls hl => ?_)
  refine lv_iload_n (cx_x X) (cx_b X) dX2_chooseDonor_6 rfl (lv_at hl 0 rfl) ?_
  refine lv_aload_n (cx_x X) (cx_b X) dX2_chooseDonor_7 rfl (lv_at hl 1 rfl) ?_
  refine gf_X2_32 X hP2 dX2_chooseDonor_8 ?_
  refine lv_iload_n (cx_x X) (cx_b X) dX2_chooseDonor_11 rfl (lv_at hl 2 rfl) ?_
  obtain ⟨v4, h3, hm⟩ := bnd hm
  refine af_R (rn_V (As := [.int a1]) (rest := [.int v2]) X (c_X1_nominalsOf l D y B G Q a1  _ h3) vq_X2_151 ⟨rfl, rfl⟩ ⟨Nat.le_of_ble_eq_true rfl, Nat.le_of_ble_eq_true rfl⟩ (rec_1 X hP1) hP1 rfl hl.1 rfl (Nat.le_of_ble_eq_true rfl) dX2_chooseDonor_12 ⟨Nat.le_refl _, Nat.le_refl _⟩) ?_
  refine lv_iand (cx_x X) (cx_b X) dX2_chooseDonor_15 ?_
  obtain ⟨qt6, hm, hmt6⟩ := bnd hm
  have Jt6 : ∀ (v5 : Int32) , m2_chooseDonor_J24 F R G Q a1 v2 v5 = some r → ∀ ls, lv_has ls 4 [(0, .ref (A 0)), (1, .int a1), (2, .int v2)] → gr p l e rm_X2_chooseDonor s m args below meth c r (F0 m 24 ls [.int v5]) := by
    intro v5 hm ls hl
    unfold m2_chooseDonor_J24 at hm
    refine lv_istore_n (lv' := [(3, .int v5), (0, .ref (A 0)), (1, .int a1), (2, .int v2)]) (cx_x X) (cx_b X) dX2_chooseDonor_24 rfl hl (by decide) rfl (fun ls hl => ?_)
    refine lv_iload_n (cx_x X) (cx_b X) dX2_chooseDonor_25 rfl (lv_at hl 0 rfl) ?_
    obtain ⟨qt8, hm, hmt8⟩ := bnd hm
    have Jt8 : ∀ (v7 : Int32) , m2_chooseDonor_J40 v7 = some r → ∀ ls, lv_has ls 4 [] → gr p l e rm_X2_chooseDonor s m args below meth c r (F0 m 40 ls [.int v7]) := by
      intro v7 hm ls hl
      unfold m2_chooseDonor_J40 at hm
      exact gr_i X hm dX2_chooseDonor_40
    refine lv_if_eq (tgt := 34) (cx_x X) (cx_b X) dX2_chooseDonor_26 (by decide) (fun c9 => ?_) (fun c9 => ?_)
    · replace hm := if_T c9 hm
      refine lv_aload_n (cx_x X) (cx_b X) dX2_chooseDonor_34 rfl (lv_at hl 1 rfl) ?_
      refine lv_iload_n (cx_x X) (cx_b X) dX2_chooseDonor_35 rfl (lv_at hl 2 rfl) ?_
      refine lv_iload_n (cx_x X) (cx_b X) dX2_chooseDonor_36 rfl (lv_at hl 3 rfl) ?_
      obtain ⟨v11, h10, hm⟩ := bnd hm
      refine af_R (rn_V (As := [.int a1, .int v2]) (rest := []) X (c_X2_bestDonor l D y A B F R G Q a1 v2  _ h10) vq_X2_169 ⟨rfl, rfl⟩ ⟨Nat.le_of_ble_eq_true rfl, Nat.le_of_ble_eq_true rfl⟩ (rec_2 X hP2) ⟨hP2, hP1⟩ rfl hl.1 rfl (Nat.le_of_ble_eq_true rfl) dX2_chooseDonor_37 ⟨Nat.le_refl _, Nat.le_refl _⟩) ?_
      exact Jt8 _ (by cases hm; exact hmt8) _ (lv_sub hl [] rfl)
    · replace hm := if_F c9 hm
      refine lv_bipush (v := (-9 : Int32)) (cx_x X) (cx_b X) dX2_chooseDonor_29 (by decide) ?_
      refine lv_goto (tgt := 40) (cx_x X) (cx_b X) dX2_chooseDonor_31 (by decide) ?_
      exact Jt8 _ (by cases hm; exact hmt8) _ (lv_sub hl [] rfl)
  refine lv_if_eq (tgt := 23) (cx_x X) (cx_b X) dX2_chooseDonor_16 (by decide) (fun c12 => ?_) (fun c12 => ?_)
  · replace hm := if_T c12 hm
    refine lv_iconst (v := (0 : Int32)) (cx_x X) (cx_b X) dX2_chooseDonor_23 (by decide) ?_
    exact Jt6 _ (by cases hm; exact hmt6) _ (lv_sub hl [1, 2, 0] rfl)
  · replace hm := if_F c12 hm
    refine lv_iconst (v := (1 : Int32)) (cx_x X) (cx_b X) dX2_chooseDonor_19 (by decide) ?_
    refine lv_goto (tgt := 24) (cx_x X) (cx_b X) dX2_chooseDonor_20 (by decide) ?_
    exact Jt6 _ (by cases hm; exact hmt6) _ (lv_sub hl [1, 2, 0] rfl)
