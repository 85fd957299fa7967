abbrev w4_s (x n hi sn sc : Nat) : va_W := [(x, .inr (4, [.ref n, .ref hi, .ref sn, .ref sc]))]
theorem rec_4 {p : Program} {s : State} {m : MethodId} {args : Array Value} {meth : Method} {c : Code} {cc : ByteArray} {nL : Nat} {ret : Option FieldType} {own : String} {D : va_G} {y : Nat → ClassId} {H : Heap} {x n hi sn sc : Nat} (X : cx p s m args meth c cc nL ret own D y) (hP : va_P D vwCl (w4_s x n hi sn sc) H) : ∃ cell : Cell, H[x]? = some cell ∧ cell.vm.isStatics = false ∧ s.vm.findClass RX4 = some cell.cls := va_recv (cx_K X).1 hP (ci := 4) (q0 := 0) rfl rfl
/-! X4_cellCount -/
def m4_cellCount (F : (Nat → Int32)) (R : (Nat → Nat → Int32)) (G : (Nat → Int32)) (Q : (Nat → Nat → Int32)) : Option Int32 :=
  some (G 0)
abbrev rm_X4_cellCount : Room := { frames := 0, cells := 0, slots := 0, locals := 0 }
set_option maxHeartbeats 4000000 in
set_option maxRecDepth 100000 in
theorem c_X4_cellCount (l : Launch) (D : va_G) (y : Nat → ClassId) (x hi sn sc : Nat) (A B : Nat → Nat) (F : (Nat → Int32)) (R : (Nat → Nat → Int32)) (G : (Nat → Int32)) (Q : (Nat → Nat → Int32)) (r : Int32) (hm : m4_cellCount F R G Q = some r) : Met l yX4_cellCount (wy_s yX4_cellCount cX4_cellCount 1 (some .int)) rm_X4_cellCount (pc_R D y [.ref x] (fun H => va_P D vwCl (w4_s x (A 0) hi sn sc) H ∧ va_P D vwCl (w2_s y (B 0) A F R) H ∧ va_P D vwCl (w1_s y B G Q) H)) (qc_R r) 0 0 (fun _ => False) := by
  refine met_R (by decide) (Nat.le_of_ble_eq_true rfl) ?_
  intro p e s m args below meth c X h0 ls hl
  obtain ⟨hP4, hP2, hP1⟩ := h0
  replace hl : lv_has ls 1 [(0, .ref x)] := hl
  replace X : cx p s m args meth c cX4_cellCount 1 (some .int) RX4 D y := X
  unfold m4_cellCount at hm
  refine lv_aload_n (cx_x X) (cx_b X) dX4_cellCount_0 rfl (lv_at hl 0 rfl) ?_
  refine gfW_X4_19 X hP4 0 rfl (v := .ref (A 0)) rfl dX4_cellCount_1 ?_
  refine gf_X4_52 X hP2 dX4_cellCount_4 ?_
  refine gf_X4_74 X hP1 dX4_cellCount_7 ?_
  exact gr_i X hm dX4_cellCount_10
/-! X4_channelCount -/
def m4_channelCount (F : (Nat → Int32)) (R : (Nat → Nat → Int32)) (G : (Nat → Int32)) (Q : (Nat → Nat → Int32)) : Option Int32 :=
  some (G 1)
abbrev rm_X4_channelCount : Room := { frames := 0, cells := 0, slots := 0, locals := 0 }
set_option maxHeartbeats 4000000 in
set_option maxRecDepth 100000 in
theorem c_X4_channelCount (l : Launch) (D : va_G) (y : Nat → ClassId) (x hi sn sc : Nat) (A B : Nat → Nat) (F : (Nat → Int32)) (R : (Nat → Nat → Int32)) (G : (Nat → Int32)) (Q : (Nat → Nat → Int32)) (r : Int32) (hm : m4_channelCount F R G Q = some r) : Met l yX4_channelCount (wy_s yX4_channelCount cX4_channelCount 1 (some .int)) rm_X4_channelCount (pc_R D y [.ref x] (fun H => va_P D vwCl (w4_s x (A 0) hi sn sc) H ∧ va_P D vwCl (w2_s y (B 0) A F R) H ∧ va_P D vwCl (w1_s y B G Q) H)) (qc_R r) 0 0 (fun _ => False) := by
  refine met_R (by decide) (Nat.le_of_ble_eq_true rfl) ?_
  intro p e s m args below meth c X h0 ls hl
  obtain ⟨hP4, hP2, hP1⟩ := h0
  replace hl : lv_has ls 1 [(0, .ref x)] := hl
  replace X : cx p s m args meth c cX4_channelCount 1 (some .int) RX4 D y := X
  unfold m4_channelCount at hm
  refine lv_aload_n (cx_x X) (cx_b X) dX4_channelCount_0 rfl (lv_at hl 0 rfl) ?_
  refine gfW_X4_19 X hP4 0 rfl (v := .ref (A 0)) rfl dX4_channelCount_1 ?_
  refine gf_X4_52 X hP2 dX4_channelCount_4 ?_
  refine gf_X4_56 X hP1 dX4_channelCount_7 ?_
  exact gr_i X hm dX4_channelCount_10
/-! X4_isCell -/
def m4_isCell (F : (Nat → Int32)) (R : (Nat → Nat → Int32)) (G : (Nat → Int32)) (Q : (Nat → Nat → Int32)) (a1 : Int32) : Option Int32 :=
  (m1_hasCell G Q a1).bind fun v2 =>
  if v2 &&& 1 = v2 then some v2 else none
abbrev rm_X4_isCell : Room := { frames := 1, cells := 0, slots := 0, locals := 21 }
set_option maxHeartbeats 4000000 in
set_option maxRecDepth 100000 in
theorem c_X4_isCell (l : Launch) (D : va_G) (y : Nat → ClassId) (x hi sn sc : Nat) (A B : Nat → Nat) (F : (Nat → Int32)) (R : (Nat → Nat → Int32)) (G : (Nat → Int32)) (Q : (Nat → Nat → Int32)) (a1 : Int32) (r : Int32) (hm : m4_isCell F R G Q a1 = some r) : Met l yX4_isCell (wy_s yX4_isCell cX4_isCell 2 (some .boolean)) rm_X4_isCell (pc_R D y [.ref x, .int a1] (fun H => va_P D vwCl (w4_s x (A 0) hi sn sc) H ∧ va_P D vwCl (w2_s y (B 0) A F R) H ∧ va_P D vwCl (w1_s y B G Q) H)) (qc_R r) 0 0 (fun _ => False) := by
  refine met_R (by decide) (Nat.le_of_ble_eq_true rfl) ?_
  intro p e s m args below meth c X h0 ls hl
  obtain ⟨hP4, hP2, hP1⟩ := h0
  replace hl : lv_has ls 2 [(0, .ref x), (1, .int a1)] := hl
  replace X : cx p s m args meth c cX4_isCell 2 (some .boolean) RX4 D y := X
  unfold m4_isCell at hm
  refine lv_aload_n (cx_x X) (cx_b X) dX4_isCell_0 rfl (lv_at hl 0 rfl) ?_
  refine gfW_X4_19 X hP4 0 rfl (v := .ref (A 0)) rfl dX4_isCell_1 ?_
  refine gf_X4_52 X hP2 dX4_isCell_4 ?_
  refine lv_iload_n (cx_x X) (cx_b X) dX4_isCell_7 rfl (lv_at hl 1 rfl) ?_
  obtain ⟨v2, h1, hm⟩ := bnd hm
  refine af_R (rn_V (As := [.int a1]) (rest := []) X (c_X1_hasCell l D y B G Q a1  _ h1) vq_X4_223 ⟨rfl, rfl⟩ ⟨Nat.le_of_ble_eq_true rfl, Nat.le_of_ble_eq_true rfl⟩ (rec_1 X hP1) hP1 rfl hl.1 rfl (Nat.le_of_ble_eq_true rfl) dX4_isCell_8 ⟨Nat.le_refl _, Nat.le_refl _⟩) ?_
  obtain ⟨h0, hm⟩ := ck_E hm
  exact gr_z X h0 hm dX4_isCell_11
/-! X4_groupOf -/
def m4_groupOf_J23  (v3 : Int32) : Option Int32 :=
  some v3
def m4_groupOf (F : (Nat → Int32)) (R : (Nat → Nat → Int32)) (G : (Nat → Int32)) (Q : (Nat → Nat → Int32)) (a1 : Int32) : Option Int32 :=
  (m4_isCell F R G Q a1).bind fun v2 =>
  (if v2 = 0 then
  some (-1 : Int32)
  else
  (m1_groupAt G Q a1).bind fun v7 =>
  some v7).bind fun v3 => m4_groupOf_J23 v3
abbrev rm_X4_groupOf : Room := { frames := 2, cells := 0, slots := 0, locals := 42 }
set_option maxHeartbeats 4000000 in
set_option maxRecDepth 100000 in
theorem c_X4_groupOf (l : Launch) (D : va_G) (y : Nat → ClassId) (x hi sn sc : Nat) (A B : Nat → Nat) (F : (Nat → Int32)) (R : (Nat → Nat → Int32)) (G : (Nat → Int32)) (Q : (Nat → Nat → Int32)) (a1 : Int32) (r : Int32) (hm : m4_groupOf F R G Q a1 = some r) : Met l yX4_groupOf (wy_s yX4_groupOf cX4_groupOf 2 (some .int)) rm_X4_groupOf (pc_R D y [.ref x, .int a1] (fun H => va_P D vwCl (w4_s x (A 0) hi sn sc) H ∧ va_P D vwCl (w2_s y (B 0) A F R) H ∧ va_P D vwCl (w1_s y B G Q) H)) (qc_R r) 0 0 (fun _ => False) := by
  refine met_R (by decide) (Nat.le_of_ble_eq_true rfl) ?_
  intro p e s m args below meth c X h0 ls hl
  obtain ⟨hP4, hP2, hP1⟩ := h0
  replace hl : lv_has ls 2 [(0, .ref x), (1, .int a1)] := hl
  replace X : cx p s m args meth c cX4_groupOf 2 (some .int) RX4 D y := X
  unfold m4_groupOf at hm
  refine lv_aload_n (cx_x X) (cx_b X) dX4_groupOf_0 rfl (lv_at hl 0 rfl) ?_
  refine lv_iload_n (cx_x X) (cx_b X) dX4_groupOf_1 rfl (lv_at hl 1 rfl) ?_
  obtain ⟨v2, h1, hm⟩ := bnd hm
  refine af_R (rn_V (As := [.int a1]) (rest := []) X (c_X4_isCell l D y x hi sn sc A B F R G Q a1  _ h1) vq_X4_77 ⟨rfl, rfl⟩ ⟨Nat.le_of_ble_eq_true rfl, Nat.le_of_ble_eq_true rfl⟩ (rec_4 X hP4) ⟨hP4, hP2, hP1⟩ rfl hl.1 rfl (Nat.le_of_ble_eq_true rfl) dX4_groupOf_2 ⟨Nat.le_refl _, Nat.le_refl _⟩) ?_
  obtain ⟨qt4, hm, hmt4⟩ := bnd hm
  have Jt4 : ∀ (v3 : Int32) , m4_groupOf_J23 v3 = some r → ∀ ls, lv_has ls 2 [] → gr p l e rm_X4_groupOf s m args below meth c r (F0 m 23 ls [.int v3]) := by
    intro v3 hm ls hl
    unfold m4_groupOf_J23 at hm
    exact gr_i X hm dX4_groupOf_23
  refine lv_if_eq (tgt := 22) (cx_x X) (cx_b X) dX4_groupOf_5 (by decide) (fun c5 => ?_) (fun c5 => ?_)
  · replace hm := if_T c5 hm
    refine lv_iconst (v := (-1 : Int32)) (cx_x X) (cx_b X) dX4_groupOf_22 (by decide) ?_
    exact Jt4 _ (by cases hm; exact hmt4) _ (lv_sub hl [] rfl)
  · replace hm := if_F c5 hm
    refine lv_aload_n (cx_x X) (cx_b X) dX4_groupOf_8 rfl (lv_at hl 0 rfl) ?_
    refine gfW_X4_19 X hP4 0 rfl (v := .ref (A 0)) rfl dX4_groupOf_9 ?_
    refine gf_X4_52 X hP2 dX4_groupOf_12 ?_
    refine lv_iload_n (cx_x X) (cx_b X) dX4_groupOf_15 rfl (lv_at hl 1 rfl) ?_
    obtain ⟨v7, h6, hm⟩ := bnd hm
    refine af_R (rn_V (As := [.int a1]) (rest := []) X (c_X1_groupAt l D y B G Q a1  _ h6) vq_X4_81 ⟨rfl, rfl⟩ ⟨Nat.le_of_ble_eq_true rfl, Nat.le_of_ble_eq_true rfl⟩ (rec_1 X hP1) hP1 rfl hl.1 rfl (Nat.le_of_ble_eq_true rfl) dX4_groupOf_16 ⟨Nat.le_refl _, Nat.le_refl _⟩) ?_
    refine lv_goto (tgt := 23) (cx_x X) (cx_b X) dX4_groupOf_19 (by decide) ?_
    exact Jt4 _ (by cases hm; exact hmt4) _ (lv_sub hl [] rfl)
/-! X4_distance -/
def m4_distance_J32  (v3 : Int32) : Option Int32 :=
  some v3
def m4_distance (F : (Nat → Int32)) (R : (Nat → Nat → Int32)) (G : (Nat → Int32)) (Q : (Nat → Nat → Int32)) (a1 : Int32) (a2 : Int32) : Option Int32 :=
  (m4_isCell F R G Q a1).bind fun v2 =>
  (if v2 = 0 then
  some (-1 : Int32)
  else
  (m4_isCell F R G Q a2).bind fun v7 =>
  if v7 = 0 then
  some (-1 : Int32)
  else
  (m1_separation G Q a1 a2).bind fun v10 =>
  some v10).bind fun v3 => m4_distance_J32 v3
abbrev rm_X4_distance : Room := { frames := 2, cells := 0, slots := 0, locals := 45 }
set_option maxHeartbeats 4000000 in
set_option maxRecDepth 100000 in
theorem c_X4_distance (l : Launch) (D : va_G) (y : Nat → ClassId) (x hi sn sc : Nat) (A B : Nat → Nat) (F : (Nat → Int32)) (R : (Nat → Nat → Int32)) (G : (Nat → Int32)) (Q : (Nat → Nat → Int32)) (a1 : Int32) (a2 : Int32) (r : Int32) (hm : m4_distance F R G Q a1 a2 = some r) : Met l yX4_distance (wy_s yX4_distance cX4_distance 3 (some .int)) rm_X4_distance (pc_R D y [.ref x, .int a1, .int a2] (fun H => va_P D vwCl (w4_s x (A 0) hi sn sc) H ∧ va_P D vwCl (w2_s y (B 0) A F R) H ∧ va_P D vwCl (w1_s y B G Q) H)) (qc_R r) 0 0 (fun _ => False) := by
  refine met_R (by decide) (Nat.le_of_ble_eq_true rfl) ?_
  intro p e s m args below meth c X h0 ls hl
  obtain ⟨hP4, hP2, hP1⟩ := h0
  replace hl : lv_has ls 3 [(0, .ref x), (1, .int a1), (2, .int a2)] := hl
  replace X : cx p s m args meth c cX4_distance 3 (some .int) RX4 D y := X
  unfold m4_distance at hm
  refine lv_aload_n (cx_x X) (cx_b X) dX4_distance_0 rfl (lv_at hl 0 rfl) ?_
  refine lv_iload_n (cx_x X) (cx_b X) dX4_distance_1 rfl (lv_at hl 1 rfl) ?_
  obtain ⟨v2, h1, hm⟩ := bnd hm
  refine af_R (rn_V (As := [.int a1]) (rest := []) X (c_X4_isCell l D y x hi sn sc A B F R G Q a1  _ h1) vq_X4_77 ⟨rfl, rfl⟩ ⟨Nat.le_of_ble_eq_true rfl, Nat.le_of_ble_eq_true rfl⟩ (rec_4 X hP4) ⟨hP4, hP2, hP1⟩ rfl hl.1 rfl (Nat.le_of_ble_eq_true rfl) dX4_distance_2 ⟨Nat.le_refl _, Nat.le_refl _⟩) ?_
  obtain ⟨qt4, hm, hmt4⟩ := bnd hm
  have Jt4 : ∀ (v3 : Int32) , m4_distance_J32 v3 = some r → ∀ ls, lv_has ls 3 [] → gr p l e rm_X4_distance s m args below meth c r (F0 m 32 ls [.int v3]) := by
    intro v3 hm ls hl
    unfold m4_distance_J32 at hm
    exact gr_i X hm dX4_distance_32
  refine lv_if_eq (tgt := 31) (cx_x X) (cx_b X) dX4_distance_5 (by decide) (fun c5 => ?_) (fun c5 => ?_)
  · replace hm := if_T c5 hm
    refine lv_iconst (v := (-1 : Int32)) (cx_x X) (cx_b X) dX4_distance_31 (by decide) ?_
    exact Jt4 _ (by cases hm; exact hmt4) _ (lv_sub hl [] rfl)
  · replace hm := if_F c5 hm
    refine lv_aload_n (cx_x X) (cx_b X) dX4_distance_8 rfl (lv_at hl 0 rfl) ?_
    refine lv_iload_n (cx_x X) (cx_b X) dX4_distance_9 rfl (lv_at hl 2 rfl) ?_
    obtain ⟨v7, h6, hm⟩ := bnd hm
    refine af_R (rn_V (As := [.int a2]) (rest := []) X (c_X4_isCell l D y x hi sn sc A B F R G Q a2  _ h6) vq_X4_77 ⟨rfl, rfl⟩ ⟨Nat.le_of_ble_eq_true rfl, Nat.le_of_ble_eq_true rfl⟩ (rec_4 X hP4) ⟨hP4, hP2, hP1⟩ rfl hl.1 rfl (Nat.le_of_ble_eq_true rfl) dX4_distance_10 ⟨Nat.le_refl _, Nat.le_refl _⟩) ?_
    refine lv_if_eq (tgt := 31) (cx_x X) (cx_b X) dX4_distance_13 (by decide) (fun c8 => ?_) (fun c8 => ?_)
    · replace hm := if_T c8 hm
      refine lv_iconst (v := (-1 : Int32)) (cx_x X) (cx_b X) dX4_distance_31 (by decide) ?_
      exact Jt4 _ (by cases hm; exact hmt4) _ (lv_sub hl [] rfl)
    · replace hm := if_F c8 hm
      refine lv_aload_n (cx_x X) (cx_b X) dX4_distance_16 rfl (lv_at hl 0 rfl) ?_
      refine gfW_X4_19 X hP4 0 rfl (v := .ref (A 0)) rfl dX4_distance_17 ?_
      refine gf_X4_52 X hP2 dX4_distance_20 ?_
      refine lv_iload_n (cx_x X) (cx_b X) dX4_distance_23 rfl (lv_at hl 1 rfl) ?_
      refine lv_iload_n (cx_x X) (cx_b X) dX4_distance_24 rfl (lv_at hl 2 rfl) ?_
      obtain ⟨v10, h9, hm⟩ := bnd hm
      refine af_R (rn_V (As := [.int a1, .int a2]) (rest := []) X (c_X1_separation l D y B G Q a1 a2  _ h9) vq_X4_85 ⟨rfl, rfl⟩ ⟨Nat.le_of_ble_eq_true rfl, Nat.le_of_ble_eq_true rfl⟩ (rec_1 X hP1) hP1 rfl hl.1 rfl (Nat.le_of_ble_eq_true rfl) dX4_distance_25 ⟨Nat.le_refl _, Nat.le_refl _⟩) ?_
      refine lv_goto (tgt := 32) (cx_x X) (cx_b X) dX4_distance_28 (by decide) ?_
      exact Jt4 _ (by cases hm; exact hmt4) _ (lv_sub hl [] rfl)
/-! X4_cellOf -/
def m4_cellOf_J24  (v3 : Int32) : Option Int32 :=
  some v3
def m4_cellOf (F : (Nat → Int32)) (R : (Nat → Nat → Int32)) (G : (Nat → Int32)) (Q : (Nat → Nat → Int32)) (a1 : Int32) : Option Int32 :=
  (m2_isPresent F R G Q a1).bind fun v2 =>
  (if v2 = 0 then
  some (-4 : Int32)
  else
  (m2_cellAt F R G Q a1).bind fun v7 =>
  some v7).bind fun v3 => m4_cellOf_J24 v3
abbrev rm_X4_cellOf : Room := { frames := 2, cells := 0, slots := 0, locals := 42 }
set_option maxHeartbeats 4000000 in
set_option maxRecDepth 100000 in
theorem c_X4_cellOf (l : Launch) (D : va_G) (y : Nat → ClassId) (x hi sn sc : Nat) (A B : Nat → Nat) (F : (Nat → Int32)) (R : (Nat → Nat → Int32)) (G : (Nat → Int32)) (Q : (Nat → Nat → Int32)) (a1 : Int32) (r : Int32) (hm : m4_cellOf F R G Q a1 = some r) : Met l yX4_cellOf (wy_s yX4_cellOf cX4_cellOf 2 (some .int)) rm_X4_cellOf (pc_R D y [.ref x, .int a1] (fun H => va_P D vwCl (w4_s x (A 0) hi sn sc) H ∧ va_P D vwCl (w2_s y (B 0) A F R) H ∧ va_P D vwCl (w1_s y B G Q) H)) (qc_R r) 0 0 (fun _ => False) := by
  refine met_R (by decide) (Nat.le_of_ble_eq_true rfl) ?_
  intro p e s m args below meth c X h0 ls hl
  obtain ⟨hP4, hP2, hP1⟩ := h0
  replace hl : lv_has ls 2 [(0, .ref x), (1, .int a1)] := hl
  replace X : cx p s m args meth c cX4_cellOf 2 (some .int) RX4 D y := X
  unfold m4_cellOf at hm
  refine lv_aload_n (cx_x X) (cx_b X) dX4_cellOf_0 rfl (lv_at hl 0 rfl) ?_
  refine gfW_X4_19 X hP4 0 rfl (v := .ref (A 0)) rfl dX4_cellOf_1 ?_
  refine lv_iload_n (cx_x X) (cx_b X) dX4_cellOf_4 rfl (lv_at hl 1 rfl) ?_
  obtain ⟨v2, h1, hm⟩ := bnd hm
  refine af_R (rn_V (As := [.int a1]) (rest := []) X (c_X2_isPresent l D y A B F R G Q a1  _ h1) vq_X4_95 ⟨rfl, rfl⟩ ⟨Nat.le_of_ble_eq_true rfl, Nat.le_of_ble_eq_true rfl⟩ (rec_2 X hP2) ⟨hP2, hP1⟩ rfl hl.1 rfl (Nat.le_of_ble_eq_true rfl) dX4_cellOf_5 ⟨Nat.le_refl _, Nat.le_refl _⟩) ?_
  obtain ⟨qt4, hm, hmt4⟩ := bnd hm
  have Jt4 : ∀ (v3 : Int32) , m4_cellOf_J24 v3 = some r → ∀ ls, lv_has ls 2 [] → gr p l e rm_X4_cellOf s m args below meth c r (F0 m 24 ls [.int v3]) := by
    intro v3 hm ls hl
    unfold m4_cellOf_J24 at hm
    exact gr_i X hm dX4_cellOf_24
  refine lv_if_eq (tgt := 22) (cx_x X) (cx_b X) dX4_cellOf_8 (by decide) (fun c5 => ?_) (fun c5 => ?_)
  · replace hm := if_T c5 hm
    refine lv_bipush (v := (-4 : Int32)) (cx_x X) (cx_b X) dX4_cellOf_22 (by decide) ?_
    exact Jt4 _ (by cases hm; exact hmt4) _ (lv_sub hl [] rfl)
  · replace hm := if_F c5 hm
    refine lv_aload_n (cx_x X) (cx_b X) dX4_cellOf_11 rfl (lv_at hl 0 rfl) ?_
    refine gfW_X4_19 X hP4 0 rfl (v := .ref (A 0)) rfl dX4_cellOf_12 ?_
    refine lv_iload_n (cx_x X) (cx_b X) dX4_cellOf_15 rfl (lv_at hl 1 rfl) ?_
    obtain ⟨v7, h6, hm⟩ := bnd hm
    refine af_R (rn_V (As := [.int a1]) (rest := []) X (c_X2_cellAt l D y A B F R G Q a1  _ h6) vq_X4_107 ⟨rfl, rfl⟩ ⟨Nat.le_of_ble_eq_true rfl, Nat.le_of_ble_eq_true rfl⟩ (rec_2 X hP2) ⟨hP2, hP1⟩ rfl hl.1 rfl (Nat.le_of_ble_eq_true rfl) dX4_cellOf_16 ⟨Nat.le_refl _, Nat.le_refl _⟩) ?_
    refine lv_goto (tgt := 24) (cx_x X) (cx_b X) dX4_cellOf_19 (by decide) ?_
    exact Jt4 _ (by cases hm; exact hmt4) _ (lv_sub hl [] rfl)
/-! X4_channelOf -/
def m4_channelOf_J24  (v3 : Int32) : Option Int32 :=
  some v3
def m4_channelOf (F : (Nat → Int32)) (R : (Nat → Nat → Int32)) (G : (Nat → Int32)) (Q : (Nat → Nat → Int32)) (a1 : Int32) : Option Int32 :=
  (m2_isPresent F R G Q a1).bind fun v2 =>
  (if v2 = 0 then
  some (-4 : Int32)
  else
  (m2_channelAt F R G Q a1).bind fun v7 =>
  some v7).bind fun v3 => m4_channelOf_J24 v3
abbrev rm_X4_channelOf : Room := { frames := 2, cells := 0, slots := 0, locals := 42 }
set_option maxHeartbeats 4000000 in
set_option maxRecDepth 100000 in
theorem c_X4_channelOf (l : Launch) (D : va_G) (y : Nat → ClassId) (x hi sn sc : Nat) (A B : Nat → Nat) (F : (Nat → Int32)) (R : (Nat → Nat → Int32)) (G : (Nat → Int32)) (Q : (Nat → Nat → Int32)) (a1 : Int32) (r : Int32) (hm : m4_channelOf F R G Q a1 = some r) : Met l yX4_channelOf (wy_s yX4_channelOf cX4_channelOf 2 (some .int)) rm_X4_channelOf (pc_R D y [.ref x, .int a1] (fun H => va_P D vwCl (w4_s x (A 0) hi sn sc) H ∧ va_P D vwCl (w2_s y (B 0) A F R) H ∧ va_P D vwCl (w1_s y B G Q) H)) (qc_R r) 0 0 (fun _ => False) := by
  refine met_R (by decide) (Nat.le_of_ble_eq_true rfl) ?_
  intro p e s m args below meth c X h0 ls hl
  obtain ⟨hP4, hP2, hP1⟩ := h0
  replace hl : lv_has ls 2 [(0, .ref x), (1, .int a1)] := hl
  replace X : cx p s m args meth c cX4_channelOf 2 (some .int) RX4 D y := X
  unfold m4_channelOf at hm
  refine lv_aload_n (cx_x X) (cx_b X) dX4_channelOf_0 rfl (lv_at hl 0 rfl) ?_
  refine gfW_X4_19 X hP4 0 rfl (v := .ref (A 0)) rfl dX4_channelOf_1 ?_
  refine lv_iload_n (cx_x X) (cx_b X) dX4_channelOf_4 rfl (lv_at hl 1 rfl) ?_
  obtain ⟨v2, h1, hm⟩ := bnd hm
  refine af_R (rn_V (As := [.int a1]) (rest := []) X (c_X2_isPresent l D y A B F R G Q a1  _ h1) vq_X4_95 ⟨rfl, rfl⟩ ⟨Nat.le_of_ble_eq_true rfl, Nat.le_of_ble_eq_true rfl⟩ (rec_2 X hP2) ⟨hP2, hP1⟩ rfl hl.1 rfl (Nat.le_of_ble_eq_true rfl) dX4_channelOf_5 ⟨Nat.le_refl _, Nat.le_refl _⟩) ?_
  obtain ⟨qt4, hm, hmt4⟩ := bnd hm
  have Jt4 : ∀ (v3 : Int32) , m4_channelOf_J24 v3 = some r → ∀ ls, lv_has ls 2 [] → gr p l e rm_X4_channelOf s m args below meth c r (F0 m 24 ls [.int v3]) := by
    intro v3 hm ls hl
    unfold m4_channelOf_J24 at hm
    exact gr_i X hm dX4_channelOf_24
  refine lv_if_eq (tgt := 22) (cx_x X) (cx_b X) dX4_channelOf_8 (by decide) (fun c5 => ?_) (fun c5 => ?_)
  · replace hm := if_T c5 hm
    refine lv_bipush (v := (-4 : Int32)) (cx_x X) (cx_b X) dX4_channelOf_22 (by decide) ?_
    exact Jt4 _ (by cases hm; exact hmt4) _ (lv_sub hl [] rfl)
  · replace hm := if_F c5 hm
    refine lv_aload_n (cx_x X) (cx_b X) dX4_channelOf_11 rfl (lv_at hl 0 rfl) ?_
    refine gfW_X4_19 X hP4 0 rfl (v := .ref (A 0)) rfl dX4_channelOf_12 ?_
    refine lv_iload_n (cx_x X) (cx_b X) dX4_channelOf_15 rfl (lv_at hl 1 rfl) ?_
    obtain ⟨v7, h6, hm⟩ := bnd hm
    refine af_R (rn_V (As := [.int a1]) (rest := []) X (c_X2_channelAt l D y A B F R G Q a1  _ h6) vq_X4_110 ⟨rfl, rfl⟩ ⟨Nat.le_of_ble_eq_true rfl, Nat.le_of_ble_eq_true rfl⟩ (rec_2 X hP2) ⟨hP2, hP1⟩ rfl hl.1 rfl (Nat.le_of_ble_eq_true rfl) dX4_channelOf_16 ⟨Nat.le_refl _, Nat.le_refl _⟩) ?_
    refine lv_goto (tgt := 24) (cx_x X) (cx_b X) dX4_channelOf_19 (by decide) ?_
    exact Jt4 _ (by cases hm; exact hmt4) _ (lv_sub hl [] rfl)
/-! X4_isInFixedScheme -/
def m4_isInFixedScheme_J27  (v3 : Int32) : Option Int32 :=
  some v3
def m4_isInFixedScheme (F : (Nat → Int32)) (R : (Nat → Nat → Int32)) (G : (Nat → Int32)) (Q : (Nat → Nat → Int32)) (a1 : Int32) : Option Int32 :=
  (m2_isPresent F R G Q a1).bind fun v2 =>
  (if v2 = 0 then
  some (-4 : Int32)
  else
  (m2_isFixed F R G Q a1).bind fun v7 =>
  (m4_asNumber v7).bind fun v9 =>
  some v9).bind fun v3 => m4_isInFixedScheme_J27 v3
abbrev rm_X4_isInFixedScheme : Room := { frames := 2, cells := 0, slots := 0, locals := 42 }
set_option maxHeartbeats 4000000 in
set_option maxRecDepth 100000 in
theorem c_X4_isInFixedScheme (l : Launch) (D : va_G) (y : Nat → ClassId) (x hi sn sc : Nat) (A B : Nat → Nat) (F : (Nat → Int32)) (R : (Nat → Nat → Int32)) (G : (Nat → Int32)) (Q : (Nat → Nat → Int32)) (a1 : Int32) (r : Int32) (hm : m4_isInFixedScheme F R G Q a1 = some r) : Met l yX4_isInFixedScheme (wy_s yX4_isInFixedScheme cX4_isInFixedScheme 2 (some .int)) rm_X4_isInFixedScheme (pc_R D y [.ref x, .int a1] (fun H => va_P D vwCl (w4_s x (A 0) hi sn sc) H ∧ va_P D vwCl (w2_s y (B 0) A F R) H ∧ va_P D vwCl (w1_s y B G Q) H)) (qc_R r) 0 0 (fun _ => False) := by
  refine met_R (by decide) (Nat.le_of_ble_eq_true rfl) ?_
  intro p e s m args below meth c X h0 ls hl
  obtain ⟨hP4, hP2, hP1⟩ := h0
  replace hl : lv_has ls 2 [(0, .ref x), (1, .int a1)] := hl
  replace X : cx p s m args meth c cX4_isInFixedScheme 2 (some .int) RX4 D y := X
  unfold m4_isInFixedScheme at hm
  refine lv_aload_n (cx_x X) (cx_b X) dX4_isInFixedScheme_0 rfl (lv_at hl 0 rfl) ?_
  refine gfW_X4_19 X hP4 0 rfl (v := .ref (A 0)) rfl dX4_isInFixedScheme_1 ?_
  refine lv_iload_n (cx_x X) (cx_b X) dX4_isInFixedScheme_4 rfl (lv_at hl 1 rfl) ?_
  obtain ⟨v2, h1, hm⟩ := bnd hm
  refine af_R (rn_V (As := [.int a1]) (rest := []) X (c_X2_isPresent l D y A B F R G Q a1  _ h1) vq_X4_95 ⟨rfl, rfl⟩ ⟨Nat.le_of_ble_eq_true rfl, Nat.le_of_ble_eq_true rfl⟩ (rec_2 X hP2) ⟨hP2, hP1⟩ rfl hl.1 rfl (Nat.le_of_ble_eq_true rfl) dX4_isInFixedScheme_5 ⟨Nat.le_refl _, Nat.le_refl _⟩) ?_
  obtain ⟨qt4, hm, hmt4⟩ := bnd hm
  have Jt4 : ∀ (v3 : Int32) , m4_isInFixedScheme_J27 v3 = some r → ∀ ls, lv_has ls 2 [] → gr p l e rm_X4_isInFixedScheme s m args below meth c r (F0 m 27 ls [.int v3]) := by
    intro v3 hm ls hl
    unfold m4_isInFixedScheme_J27 at hm
    exact gr_i X hm dX4_isInFixedScheme_27
  refine lv_if_eq (tgt := 25) (cx_x X) (cx_b X) dX4_isInFixedScheme_8 (by decide) (fun c5 => ?_) (fun c5 => ?_)
  · replace hm := if_T c5 hm
    refine lv_bipush (v := (-4 : Int32)) (cx_x X) (cx_b X) dX4_isInFixedScheme_25 (by decide) ?_
    exact Jt4 _ (by cases hm; exact hmt4) _ (lv_sub hl [] rfl)
  · replace hm := if_F c5 hm
    refine lv_aload_n (cx_x X) (cx_b X) dX4_isInFixedScheme_11 rfl (lv_at hl 0 rfl) ?_
    refine gfW_X4_19 X hP4 0 rfl (v := .ref (A 0)) rfl dX4_isInFixedScheme_12 ?_
    refine lv_iload_n (cx_x X) (cx_b X) dX4_isInFixedScheme_15 rfl (lv_at hl 1 rfl) ?_
    obtain ⟨v7, h6, hm⟩ := bnd hm
    refine af_R (rn_V (As := [.int a1]) (rest := []) X (c_X2_isFixed l D y A B F R G Q a1  _ h6) vq_X4_120 ⟨rfl, rfl⟩ ⟨Nat.le_of_ble_eq_true rfl, Nat.le_of_ble_eq_true rfl⟩ (rec_2 X hP2) ⟨hP2, hP1⟩ rfl hl.1 rfl (Nat.le_of_ble_eq_true rfl) dX4_isInFixedScheme_16 ⟨Nat.le_refl _, Nat.le_refl _⟩) ?_
    obtain ⟨v9, h8, hm⟩ := bnd hm
    refine af_R (rn_S (As := [.int v7]) (rest := []) X (c_X4_asNumber l D y v7  _ h8) sq_X4_116 ⟨rfl, rfl⟩ ⟨Nat.le_of_ble_eq_true rfl, Nat.le_of_ble_eq_true rfl⟩ trivial rfl hl.1 rfl (Nat.le_of_ble_eq_true rfl) dX4_isInFixedScheme_19 ⟨Nat.le_refl _, Nat.le_refl _⟩) ?_
    refine lv_goto (tgt := 27) (cx_x X) (cx_b X) dX4_isInFixedScheme_22 (by decide) ?_
    exact Jt4 _ (by cases hm; exact hmt4) _ (lv_sub hl [] rfl)
/-! X4_isChannel -/
def m4_isChannel (F : (Nat → Int32)) (R : (Nat → Nat → Int32)) (G : (Nat → Int32)) (Q : (Nat → Nat → Int32)) (a1 : Int32) : Option Int32 :=
  (m4_isBetween a1 (0 : Int32) ((G 1) - (1 : Int32))).bind fun v2 =>
  if v2 &&& 1 = v2 then some v2 else none
abbrev rm_X4_isChannel : Room := { frames := 1, cells := 0, slots := 0, locals := 22 }
set_option maxHeartbeats 4000000 in
set_option maxRecDepth 100000 in
theorem c_X4_isChannel (l : Launch) (D : va_G) (y : Nat → ClassId) (x hi sn sc : Nat) (A B : Nat → Nat) (F : (Nat → Int32)) (R : (Nat → Nat → Int32)) (G : (Nat → Int32)) (Q : (Nat → Nat → Int32)) (a1 : Int32) (r : Int32) (hm : m4_isChannel F R G Q a1 = some r) : Met l yX4_isChannel (wy_s yX4_isChannel cX4_isChannel 2 (some .boolean)) rm_X4_isChannel (pc_R D y [.ref x, .int a1] (fun H => va_P D vwCl (w4_s x (A 0) hi sn sc) H ∧ va_P D vwCl (w2_s y (B 0) A F R) H ∧ va_P D vwCl (w1_s y B G Q) H)) (qc_R r) 0 0 (fun _ => False) := by
  refine met_R (by decide) (Nat.le_of_ble_eq_true rfl) ?_
  intro p e s m args below meth c X h0 ls hl
  obtain ⟨hP4, hP2, hP1⟩ := h0
  replace hl : lv_has ls 2 [(0, .ref x), (1, .int a1)] := hl
  replace X : cx p s m args meth c cX4_isChannel 2 (some .boolean) RX4 D y := X
  unfold m4_isChannel at hm
  refine lv_iload_n (cx_x X) (cx_b X) dX4_isChannel_0 rfl (lv_at hl 1 rfl) ?_
  refine lv_iconst (v := (0 : Int32)) (cx_x X) (cx_b X) dX4_isChannel_1 (by decide) ?_
  refine lv_aload_n (cx_x X) (cx_b X) dX4_isChannel_2 rfl (lv_at hl 0 rfl) ?_
  refine gfW_X4_19 X hP4 0 rfl (v := .ref (A 0)) rfl dX4_isChannel_3 ?_
  refine gf_X4_52 X hP2 dX4_isChannel_6 ?_
  refine gf_X4_56 X hP1 dX4_isChannel_9 ?_
  refine lv_iconst (v := (1 : Int32)) (cx_x X) (cx_b X) dX4_isChannel_12 (by decide) ?_
  refine lv_isub (cx_x X) (cx_b X) dX4_isChannel_13 ?_
  obtain ⟨v2, h1, hm⟩ := bnd hm
  refine af_R (rn_S (As := [.int a1, .int (0 : Int32), .int ((G 1) - (1 : Int32))]) (rest := []) X (c_X4_isBetween l D y a1 (0 : Int32) ((G 1) - (1 : Int32))  _ h1) sq_X4_41 ⟨rfl, rfl⟩ ⟨Nat.le_of_ble_eq_true rfl, Nat.le_of_ble_eq_true rfl⟩ trivial rfl hl.1 rfl (Nat.le_of_ble_eq_true rfl) dX4_isChannel_14 ⟨Nat.le_refl _, Nat.le_refl _⟩) ?_
  obtain ⟨h0, hm⟩ := ck_E hm
  exact gr_z X h0 hm dX4_isChannel_17
/-! X4_isAvailable -/
def m4_isAvailable (F : (Nat → Int32)) (R : (Nat → Nat → Int32)) (G : (Nat → Int32)) (Q : (Nat → Nat → Int32)) (a1 : Int32) (a2 : Int32) : Option Int32 :=
  (m4_isCell F R G Q a1).bind fun v2 =>
  if v2 = 0 then
  some (-1 : Int32)
  else
  (m4_isChannel F R G Q a2).bind fun v5 =>
  if v5 = 0 then
  some (-1 : Int32)
  else
  (m2_availableIn F R G Q a1).bind fun v8 =>
  (m4_contains v8 a2).bind fun v10 =>
  (m4_asNumber v10).bind fun v12 =>
  some v12
abbrev rm_X4_isAvailable : Room := { frames := 2, cells := 0, slots := 0, locals := 45 }
set_option maxHeartbeats 4000000 in
set_option maxRecDepth 100000 in
theorem c_X4_isAvailable (l : Launch) (D : va_G) (y : Nat → ClassId) (x hi sn sc : Nat) (A B : Nat → Nat) (F : (Nat → Int32)) (R : (Nat → Nat → Int32)) (G : (Nat → Int32)) (Q : (Nat → Nat → Int32)) (a1 : Int32) (a2 : Int32) (r : Int32) (hm : m4_isAvailable F R G Q a1 a2 = some r) : Met l yX4_isAvailable (wy_s yX4_isAvailable cX4_isAvailable 3 (some .int)) rm_X4_isAvailable (pc_R D y [.ref x, .int a1, .int a2] (fun H => va_P D vwCl (w4_s x (A 0) hi sn sc) H ∧ va_P D vwCl (w2_s y (B 0) A F R) H ∧ va_P D vwCl (w1_s y B G Q) H)) (qc_R r) 0 0 (fun _ => False) := by
  refine met_R (by decide) (Nat.le_of_ble_eq_true rfl) ?_
  intro p e s m args below meth c X h0 ls hl
  obtain ⟨hP4, hP2, hP1⟩ := h0
  replace hl : lv_has ls 3 [(0, .ref x), (1, .int a1), (2, .int a2)] := hl
  replace X : cx p s m args meth c cX4_isAvailable 3 (some .int) RX4 D y := X
  unfold m4_isAvailable at hm
  refine lv_aload_n (cx_x X) (cx_b X) dX4_isAvailable_0 rfl (lv_at hl 0 rfl) ?_
  refine lv_iload_n (cx_x X) (cx_b X) dX4_isAvailable_1 rfl (lv_at hl 1 rfl) ?_
  obtain ⟨v2, h1, hm⟩ := bnd hm
  refine af_R (rn_V (As := [.int a1]) (rest := []) X (c_X4_isCell l D y x hi sn sc A B F R G Q a1  _ h1) vq_X4_77 ⟨rfl, rfl⟩ ⟨Nat.le_of_ble_eq_true rfl, Nat.le_of_ble_eq_true rfl⟩ (rec_4 X hP4) ⟨hP4, hP2, hP1⟩ rfl hl.1 rfl (Nat.le_of_ble_eq_true rfl) dX4_isAvailable_2 ⟨Nat.le_refl _, Nat.le_refl _⟩) ?_
  refine lv_if_eq (tgt := 16) (cx_x X) (cx_b X) dX4_isAvailable_5 (by decide) (fun c3 => ?_) (fun c3 => ?_)
  · replace hm := if_T c3 hm
    refine lv_iconst (v := (-1 : Int32)) (cx_x X) (cx_b X) dX4_isAvailable_16 (by decide) ?_
    exact gr_i X hm dX4_isAvailable_17
  · replace hm := if_F c3 hm
    refine lv_aload_n (cx_x X) (cx_b X) dX4_isAvailable_8 rfl (lv_at hl 0 rfl) ?_
    refine lv_iload_n (cx_x X) (cx_b X) dX4_isAvailable_9 rfl (lv_at hl 2 rfl) ?_
    obtain ⟨v5, h4, hm⟩ := bnd hm
    refine af_R (rn_V (As := [.int a2]) (rest := []) X (c_X4_isChannel l D y x hi sn sc A B F R G Q a2  _ h4) vq_X4_123 ⟨rfl, rfl⟩ ⟨Nat.le_of_ble_eq_true rfl, Nat.le_of_ble_eq_true rfl⟩ (rec_4 X hP4) ⟨hP4, hP2, hP1⟩ rfl hl.1 rfl (Nat.le_of_ble_eq_true rfl) dX4_isAvailable_10 ⟨Nat.le_refl _, Nat.le_refl _⟩) ?_
    refine lv_if_ne (tgt := 18) (cx_x X) (cx_b X) dX4_isAvailable_13 (by decide) (fun c6 => ?_) (fun c6 => ?_)
    · replace hm := if_F c6 hm
      refine lv_aload_n (cx_x X) (cx_b X) dX4_isAvailable_18 rfl (lv_at hl 0 rfl) ?_
      refine gfW_X4_19 X hP4 0 rfl (v := .ref (A 0)) rfl dX4_isAvailable_19 ?_
      refine lv_iload_n (cx_x X) (cx_b X) dX4_isAvailable_22 rfl (lv_at hl 1 rfl) ?_
      obtain ⟨v8, h7, hm⟩ := bnd hm
      refine af_R (rn_V (As := [.int a1]) (rest := []) X (c_X2_availableIn l D y A B F R G Q a1  _ h7) vq_X4_126 ⟨rfl, rfl⟩ ⟨Nat.le_of_ble_eq_true rfl, Nat.le_of_ble_eq_true rfl⟩ (rec_2 X hP2) ⟨hP2, hP1⟩ rfl hl.1 rfl (Nat.le_of_ble_eq_true rfl) dX4_isAvailable_23 ⟨Nat.le_refl _, Nat.le_refl _⟩) ?_
      refine lv_iload_n (cx_x X) (cx_b X) dX4_isAvailable_26 rfl (lv_at hl 2 rfl) ?_
      obtain ⟨v10, h9, hm⟩ := bnd hm
      refine af_R (rn_S (As := [.int v8, .int a2]) (rest := []) X (c_X4_contains l D y v8 a2  _ h9) sq_X4_129 ⟨rfl, rfl⟩ ⟨Nat.le_of_ble_eq_true rfl, Nat.le_of_ble_eq_true rfl⟩ trivial rfl hl.1 rfl (Nat.le_of_ble_eq_true rfl) dX4_isAvailable_27 ⟨Nat.le_refl _, Nat.le_refl _⟩) ?_
      obtain ⟨v12, h11, hm⟩ := bnd hm
      refine af_R (rn_S (As := [.int v10]) (rest := []) X (c_X4_asNumber l D y v10  _ h11) sq_X4_116 ⟨rfl, rfl⟩ ⟨Nat.le_of_ble_eq_true rfl, Nat.le_of_ble_eq_true rfl⟩ trivial rfl hl.1 rfl (Nat.le_of_ble_eq_true rfl) dX4_isAvailable_30 ⟨Nat.le_refl _, Nat.le_refl _⟩) ?_
      exact gr_i X hm dX4_isAvailable_33
    · replace hm := if_T c6 hm
      refine lv_iconst (v := (-1 : Int32)) (cx_x X) (cx_b X) dX4_isAvailable_16 (by decide) ?_
      exact gr_i X hm dX4_isAvailable_17
/-! X4_availableCount -/
def m4_availableCount_J23  (v3 : Int32) : Option Int32 :=
  some v3
def m4_availableCount (F : (Nat → Int32)) (R : (Nat → Nat → Int32)) (G : (Nat → Int32)) (Q : (Nat → Nat → Int32)) (a1 : Int32) : Option Int32 :=
  (m4_isCell F R G Q a1).bind fun v2 =>
  (if v2 = 0 then
  some (-1 : Int32)
  else
  (m2_availableNominals F R G Q a1).bind fun v7 =>
  (mj_bitCount v7).bind fun v9 =>
  some v9).bind fun v3 => m4_availableCount_J23 v3
abbrev rm_X4_availableCount : Room := { frames := 3, cells := 0, slots := 0, locals := 66 }
set_option maxHeartbeats 4000000 in
set_option maxRecDepth 100000 in
theorem c_X4_availableCount (l : Launch) (D : va_G) (y : Nat → ClassId) (x hi sn sc : Nat) (A B : Nat → Nat) (F : (Nat → Int32)) (R : (Nat → Nat → Int32)) (G : (Nat → Int32)) (Q : (Nat → Nat → Int32)) (a1 : Int32) (r : Int32) (hm : m4_availableCount F R G Q a1 = some r) : Met l yX4_availableCount (wy_s yX4_availableCount cX4_availableCount 2 (some .int)) rm_X4_availableCount (pc_R D y [.ref x, .int a1] (fun H => va_P D vwCl (w4_s x (A 0) hi sn sc) H ∧ va_P D vwCl (w2_s y (B 0) A F R) H ∧ va_P D vwCl (w1_s y B G Q) H)) (qc_R r) 0 0 (fun _ => False) := by
  refine met_R (by decide) (Nat.le_of_ble_eq_true rfl) ?_
  intro p e s m args below meth c X h0 ls hl
  obtain ⟨hP4, hP2, hP1⟩ := h0
  replace hl : lv_has ls 2 [(0, .ref x), (1, .int a1)] := hl
  replace X : cx p s m args meth c cX4_availableCount 2 (some .int) RX4 D y := X
  unfold m4_availableCount at hm
  refine lv_aload_n (cx_x X) (cx_b X) dX4_availableCount_0 rfl (lv_at hl 0 rfl) ?_
  refine lv_iload_n (cx_x X) (cx_b X) dX4_availableCount_1 rfl (lv_at hl 1 rfl) ?_
  obtain ⟨v2, h1, hm⟩ := bnd hm
  refine af_R (rn_V (As := [.int a1]) (rest := []) X (c_X4_isCell l D y x hi sn sc A B F R G Q a1  _ h1) vq_X4_77 ⟨rfl, rfl⟩ ⟨Nat.le_of_ble_eq_true rfl, Nat.le_of_ble_eq_true rfl⟩ (rec_4 X hP4) ⟨hP4, hP2, hP1⟩ rfl hl.1 rfl (Nat.le_of_ble_eq_true rfl) dX4_availableCount_2 ⟨Nat.le_refl _, Nat.le_refl _⟩) ?_
  obtain ⟨qt4, hm, hmt4⟩ := bnd hm
  have Jt4 : ∀ (v3 : Int32) , m4_availableCount_J23 v3 = some r → ∀ ls, lv_has ls 2 [] → gr p l e rm_X4_availableCount s m args below meth c r (F0 m 23 ls [.int v3]) := by
    intro v3 hm ls hl
    unfold m4_availableCount_J23 at hm
    exact gr_i X hm dX4_availableCount_23
  refine lv_if_eq (tgt := 22) (cx_x X) (cx_b X) dX4_availableCount_5 (by decide) (fun c5 => ?_) (fun c5 => ?_)
  · replace hm := if_T c5 hm
    refine lv_iconst (v := (-1 : Int32)) (cx_x X) (cx_b X) dX4_availableCount_22 (by decide) ?_
    exact Jt4 _ (by cases hm; exact hmt4) _ (lv_sub hl [] rfl)
  · replace hm := if_F c5 hm
    refine lv_aload_n (cx_x X) (cx_b X) dX4_availableCount_8 rfl (lv_at hl 0 rfl) ?_
    refine gfW_X4_19 X hP4 0 rfl (v := .ref (A 0)) rfl dX4_availableCount_9 ?_
    refine lv_iload_n (cx_x X) (cx_b X) dX4_availableCount_12 rfl (lv_at hl 1 rfl) ?_
    obtain ⟨v7, h6, hm⟩ := bnd hm
    refine af_R (rn_V (As := [.int a1]) (rest := []) X (c_X2_availableNominals l D y A B F R G Q a1  _ h6) vq_X4_139 ⟨rfl, rfl⟩ ⟨Nat.le_of_ble_eq_true rfl, Nat.le_of_ble_eq_true rfl⟩ (rec_2 X hP2) ⟨hP2, hP1⟩ rfl hl.1 rfl (Nat.le_of_ble_eq_true rfl) dX4_availableCount_13 ⟨Nat.le_refl _, Nat.le_refl _⟩) ?_
    obtain ⟨v9, h8, hm⟩ := bnd hm
    refine af_R (rn_S (As := [.int v7]) (rest := []) X (c_J6_bitCount_0f7a4 l D y v7  _ h8) sq_X4_142 ⟨rfl, rfl⟩ ⟨Nat.le_of_ble_eq_true rfl, Nat.le_of_ble_eq_true rfl⟩ trivial rfl hl.1 rfl (Nat.le_of_ble_eq_true rfl) dX4_availableCount_16 ⟨Nat.le_refl _, Nat.le_refl _⟩) ?_
    refine lv_goto (tgt := 23) (cx_x X) (cx_b X) dX4_availableCount_19 (by decide) ?_
    exact Jt4 _ (by cases hm; exact hmt4) _ (lv_sub hl [] rfl)
/-! X4_usedCount -/
def m4_usedCount_J23  (v3 : Int32) : Option Int32 :=
  some v3
def m4_usedCount (F : (Nat → Int32)) (R : (Nat → Nat → Int32)) (G : (Nat → Int32)) (Q : (Nat → Nat → Int32)) (a1 : Int32) : Option Int32 :=
  (m4_isCell F R G Q a1).bind fun v2 =>
  (if v2 = 0 then
  some (-1 : Int32)
  else
  (m2_usedIn F R G Q a1).bind fun v7 =>
  (mj_bitCount v7).bind fun v9 =>
  some v9).bind fun v3 => m4_usedCount_J23 v3
abbrev rm_X4_usedCount : Room := { frames := 2, cells := 0, slots := 0, locals := 42 }
set_option maxHeartbeats 4000000 in
set_option maxRecDepth 100000 in
theorem c_X4_usedCount (l : Launch) (D : va_G) (y : Nat → ClassId) (x hi sn sc : Nat) (A B : Nat → Nat) (F : (Nat → Int32)) (R : (Nat → Nat → Int32)) (G : (Nat → Int32)) (Q : (Nat → Nat → Int32)) (a1 : Int32) (r : Int32) (hm : m4_usedCount F R G Q a1 = some r) : Met l yX4_usedCount (wy_s yX4_usedCount cX4_usedCount 2 (some .int)) rm_X4_usedCount (pc_R D y [.ref x, .int a1] (fun H => va_P D vwCl (w4_s x (A 0) hi sn sc) H ∧ va_P D vwCl (w2_s y (B 0) A F R) H ∧ va_P D vwCl (w1_s y B G Q) H)) (qc_R r) 0 0 (fun _ => False) := by
  refine met_R (by decide) (Nat.le_of_ble_eq_true rfl) ?_
  intro p e s m args below meth c X h0 ls hl
  obtain ⟨hP4, hP2, hP1⟩ := h0
  replace hl : lv_has ls 2 [(0, .ref x), (1, .int a1)] := hl
  replace X : cx p s m args meth c cX4_usedCount 2 (some .int) RX4 D y := X
  unfold m4_usedCount at hm
  refine lv_aload_n (cx_x X) (cx_b X) dX4_usedCount_0 rfl (lv_at hl 0 rfl) ?_
  refine lv_iload_n (cx_x X) (cx_b X) dX4_usedCount_1 rfl (lv_at hl 1 rfl) ?_
  obtain ⟨v2, h1, hm⟩ := bnd hm
  refine af_R (rn_V (As := [.int a1]) (rest := []) X (c_X4_isCell l D y x hi sn sc A B F R G Q a1  _ h1) vq_X4_77 ⟨rfl, rfl⟩ ⟨Nat.le_of_ble_eq_true rfl, Nat.le_of_ble_eq_true rfl⟩ (rec_4 X hP4) ⟨hP4, hP2, hP1⟩ rfl hl.1 rfl (Nat.le_of_ble_eq_true rfl) dX4_usedCount_2 ⟨Nat.le_refl _, Nat.le_refl _⟩) ?_
  obtain ⟨qt4, hm, hmt4⟩ := bnd hm
  have Jt4 : ∀ (v3 : Int32) , m4_usedCount_J23 v3 = some r → ∀ ls, lv_has ls 2 [] → gr p l e rm_X4_usedCount s m args below meth c r (F0 m 23 ls [.int v3]) := by
    intro v3 hm ls hl
    unfold m4_usedCount_J23 at hm
    exact gr_i X hm dX4_usedCount_23
  refine lv_if_eq (tgt := 22) (cx_x X) (cx_b X) dX4_usedCount_5 (by decide) (fun c5 => ?_) (fun c5 => ?_)
  · replace hm := if_T c5 hm
    refine lv_iconst (v := (-1 : Int32)) (cx_x X) (cx_b X) dX4_usedCount_22 (by decide) ?_
    exact Jt4 _ (by cases hm; exact hmt4) _ (lv_sub hl [] rfl)
  · replace hm := if_F c5 hm
    refine lv_aload_n (cx_x X) (cx_b X) dX4_usedCount_8 rfl (lv_at hl 0 rfl) ?_
    refine gfW_X4_19 X hP4 0 rfl (v := .ref (A 0)) rfl dX4_usedCount_9 ?_
    refine lv_iload_n (cx_x X) (cx_b X) dX4_usedCount_12 rfl (lv_at hl 1 rfl) ?_
    obtain ⟨v7, h6, hm⟩ := bnd hm
    refine af_R (rn_V (As := [.int a1]) (rest := []) X (c_X2_usedIn l D y A B F R G Q a1  _ h6) vq_X4_147 ⟨rfl, rfl⟩ ⟨Nat.le_of_ble_eq_true rfl, Nat.le_of_ble_eq_true rfl⟩ (rec_2 X hP2) ⟨hP2, hP1⟩ rfl hl.1 rfl (Nat.le_of_ble_eq_true rfl) dX4_usedCount_13 ⟨Nat.le_refl _, Nat.le_refl _⟩) ?_
    obtain ⟨v9, h8, hm⟩ := bnd hm
    refine af_R (rn_S (As := [.int v7]) (rest := []) X (c_J6_bitCount_0f7a4 l D y v7  _ h8) sq_X4_142 ⟨rfl, rfl⟩ ⟨Nat.le_of_ble_eq_true rfl, Nat.le_of_ble_eq_true rfl⟩ trivial rfl hl.1 rfl (Nat.le_of_ble_eq_true rfl) dX4_usedCount_16 ⟨Nat.le_refl _, Nat.le_refl _⟩) ?_
    refine lv_goto (tgt := 23) (cx_x X) (cx_b X) dX4_usedCount_19 (by decide) ?_
    exact Jt4 _ (by cases hm; exact hmt4) _ (lv_sub hl [] rfl)
/-! X4_lockedCount -/
def m4_lockedCount (F : (Nat → Int32)) (R : (Nat → Nat → Int32)) (G : (Nat → Int32)) (Q : (Nat → Nat → Int32)) (a1 : Int32) : Option Int32 :=
  (m4_isCell F R G Q a1).bind fun v2 =>
  if v2 = 0 then
  some (-1 : Int32)
  else
  (m2_usedIn F R G Q a1).bind fun v5 =>
  (m2_availableIn F R G Q a1).bind fun v7 =>
  (m1_nominalsOf G Q a1).bind fun v9 =>
  (mj_bitCount (v9 &&& ((v5 ||| v7) ^^^ (-1 : Int32)))).bind fun v11 =>
  some v11
abbrev rm_X4_lockedCount : Room := { frames := 2, cells := 0, slots := 0, locals := 45 }
set_option maxHeartbeats 4000000 in
set_option maxRecDepth 100000 in
theorem c_X4_lockedCount (l : Launch) (D : va_G) (y : Nat → ClassId) (x hi sn sc : Nat) (A B : Nat → Nat) (F : (Nat → Int32)) (R : (Nat → Nat → Int32)) (G : (Nat → Int32)) (Q : (Nat → Nat → Int32)) (a1 : Int32) (r : Int32) (hm : m4_lockedCount F R G Q a1 = some r) : Met l yX4_lockedCount (wy_s yX4_lockedCount cX4_lockedCount 3 (some .int)) rm_X4_lockedCount (pc_R D y [.ref x, .int a1] (fun H => va_P D vwCl (w4_s x (A 0) hi sn sc) H ∧ va_P D vwCl (w2_s y (B 0) A F R) H ∧ va_P D vwCl (w1_s y B G Q) H)) (qc_R r) 0 0 (fun _ => False) := by
  refine met_R (by decide) (Nat.le_of_ble_eq_true rfl) ?_
  intro p e s m args below meth c X h0 ls hl
  obtain ⟨hP4, hP2, hP1⟩ := h0
  replace hl : lv_has ls 3 [(0, .ref x), (1, .int a1)] := hl
  replace X : cx p s m args meth c cX4_lockedCount 3 (some .int) RX4 D y := X
  unfold m4_lockedCount at hm
  refine lv_aload_n (cx_x X) (cx_b X) dX4_lockedCount_0 rfl (lv_at hl 0 rfl) ?_
  refine lv_iload_n (cx_x X) (cx_b X) dX4_lockedCount_1 rfl (lv_at hl 1 rfl) ?_
  obtain ⟨v2, h1, hm⟩ := bnd hm
  refine af_R (rn_V (As := [.int a1]) (rest := []) X (c_X4_isCell l D y x hi sn sc A B F R G Q a1  _ h1) vq_X4_77 ⟨rfl, rfl⟩ ⟨Nat.le_of_ble_eq_true rfl, Nat.le_of_ble_eq_true rfl⟩ (rec_4 X hP4) ⟨hP4, hP2, hP1⟩ rfl hl.1 rfl (Nat.le_of_ble_eq_true rfl) dX4_lockedCount_2 ⟨Nat.le_refl _, Nat.le_refl _⟩) ?_
  refine lv_if_ne (tgt := 10) (cx_x X) (cx_b X) dX4_lockedCount_5 (by decide) (fun c3 => ?_) (fun c3 => ?_)
  · replace hm := if_F c3 hm
    refine lv_aload_n (cx_x X) (cx_b X) dX4_lockedCount_10 rfl (lv_at hl 0 rfl) ?_
    refine gfW_X4_19 X hP4 0 rfl (v := .ref (A 0)) rfl dX4_lockedCount_11 ?_
    refine lv_iload_n (cx_x X) (cx_b X) dX4_lockedCount_14 rfl (lv_at hl 1 rfl) ?_
    obtain ⟨v5, h4, hm⟩ := bnd hm
    refine af_R (rn_V (As := [.int a1]) (rest := []) X (c_X2_usedIn l D y A B F R G Q a1  _ h4) vq_X4_147 ⟨rfl, rfl⟩ ⟨Nat.le_of_ble_eq_true rfl, Nat.le_of_ble_eq_true rfl⟩ (rec_2 X hP2) ⟨hP2, hP1⟩ rfl hl.1 rfl (Nat.le_of_ble_eq_true rfl) dX4_lockedCount_15 ⟨Nat.le_refl _, Nat.le_refl _⟩) ?_
    refine lv_aload_n (cx_x X) (cx_b X) dX4_lockedCount_18 rfl (lv_at hl 0 rfl) ?_
    refine gfW_X4_19 X hP4 0 rfl (v := .ref (A 0)) rfl dX4_lockedCount_19 ?_
    refine lv_iload_n (cx_x X) (cx_b X) dX4_lockedCount_22 rfl (lv_at hl 1 rfl) ?_
    obtain ⟨v7, h6, hm⟩ := bnd hm
    refine af_R (rn_V (As := [.int a1]) (rest := [.int v5]) X (c_X2_availableIn l D y A B F R G Q a1  _ h6) vq_X4_126 ⟨rfl, rfl⟩ ⟨Nat.le_of_ble_eq_true rfl, Nat.le_of_ble_eq_true rfl⟩ (rec_2 X hP2) ⟨hP2, hP1⟩ rfl hl.1 rfl (Nat.le_of_ble_eq_true rfl) dX4_lockedCount_23 ⟨Nat.le_refl _, Nat.le_refl _⟩) ?_
    refine lv_ior (cx_x X) (cx_b X) dX4_lockedCount_26 ?_
    refine lv_istore_n (lv' := [(2, .int (v5 ||| v7)), (0, .ref x), (1, .int a1)]) (cx_x X) (cx_b X) dX4_lockedCount_27 rfl hl (by decide) rfl (fun ls hl => ?_)
    refine lv_aload_n (cx_x X) (cx_b X) dX4_lockedCount_28 rfl (lv_at hl 1 rfl) ?_
    refine gfW_X4_19 X hP4 0 rfl (v := .ref (A 0)) rfl dX4_lockedCount_29 ?_
    refine gf_X4_52 X hP2 dX4_lockedCount_32 ?_
    refine lv_iload_n (cx_x X) (cx_b X) dX4_lockedCount_35 rfl (lv_at hl 2 rfl) ?_
    obtain ⟨v9, h8, hm⟩ := bnd hm
    refine af_R (rn_V (As := [.int a1]) (rest := []) X (c_X1_nominalsOf l D y B G Q a1  _ h8) vq_X4_150 ⟨rfl, rfl⟩ ⟨Nat.le_of_ble_eq_true rfl, Nat.le_of_ble_eq_true rfl⟩ (rec_1 X hP1) hP1 rfl hl.1 rfl (Nat.le_of_ble_eq_true rfl) dX4_lockedCount_36 ⟨Nat.le_refl _, Nat.le_refl _⟩) ?_
    refine lv_iload_n (cx_x X) (cx_b X) dX4_lockedCount_39 rfl (lv_at hl 0 rfl) ?_
    refine lv_iconst (v := (-1 : Int32)) (cx_x X) (cx_b X) dX4_lockedCount_40 (by decide) ?_
    refine lv_ixor (cx_x X) (cx_b X) dX4_lockedCount_41 ?_
    refine lv_iand (cx_x X) (cx_b X) dX4_lockedCount_42 ?_
    obtain ⟨v11, h10, hm⟩ := bnd hm
    refine af_R (rn_S (As := [.int (v9 &&& ((v5 ||| v7) ^^^ (-1 : Int32)))]) (rest := []) X (c_J6_bitCount_0f7a4 l D y (v9 &&& ((v5 ||| v7) ^^^ (-1 : Int32)))  _ h10) sq_X4_142 ⟨rfl, rfl⟩ ⟨Nat.le_of_ble_eq_true rfl, Nat.le_of_ble_eq_true rfl⟩ trivial rfl hl.1 rfl (Nat.le_of_ble_eq_true rfl) dX4_lockedCount_43 ⟨Nat.le_refl _, Nat.le_refl _⟩) ?_
    exact gr_i X hm dX4_lockedCount_46
  · replace hm := if_T c3 hm
    refine lv_iconst (v := (-1 : Int32)) (cx_x X) (cx_b X) dX4_lockedCount_8 (by decide) ?_
    exact gr_i X hm dX4_lockedCount_9
/-! X4_nextChannel -/
def m4_nextChannel_J20  (v3 : Int32) : Option Int32 :=
  some v3
def m4_nextChannel (F : (Nat → Int32)) (R : (Nat → Nat → Int32)) (G : (Nat → Int32)) (Q : (Nat → Nat → Int32)) (a1 : Int32) : Option Int32 :=
  (m4_isCell F R G Q a1).bind fun v2 =>
  (if v2 = 0 then
  some (-1 : Int32)
  else
  (m2_chooseChannel F R G Q a1).bind fun v7 =>
  some v7).bind fun v3 => m4_nextChannel_J20 v3
abbrev rm_X4_nextChannel : Room := { frames := 5, cells := 0, slots := 0, locals := 121 }
set_option maxHeartbeats 4000000 in
set_option maxRecDepth 100000 in
theorem c_X4_nextChannel (l : Launch) (D : va_G) (y : Nat → ClassId) (x hi sn sc : Nat) (A B : Nat → Nat) (F : (Nat → Int32)) (R : (Nat → Nat → Int32)) (G : (Nat → Int32)) (Q : (Nat → Nat → Int32)) (a1 : Int32) (r : Int32) (hm : m4_nextChannel F R G Q a1 = some r) : Met l yX4_nextChannel (wy_s yX4_nextChannel cX4_nextChannel 2 (some .int)) rm_X4_nextChannel (pc_R D y [.ref x, .int a1] (fun H => va_P D vwCl (w4_s x (A 0) hi sn sc) H ∧ va_P D vwCl (w2_s y (B 0) A F R) H ∧ va_P D vwCl (w1_s y B G Q) H)) (qc_R r) 0 0 (fun _ => False) := by
  refine met_R (by decide) (Nat.le_of_ble_eq_true rfl) ?_
  intro p e s m args below meth c X h0 ls hl
  obtain ⟨hP4, hP2, hP1⟩ := h0
  replace hl : lv_has ls 2 [(0, .ref x), (1, .int a1)] := hl
  replace X : cx p s m args meth c cX4_nextChannel 2 (some .int) RX4 D y := X
  unfold m4_nextChannel at hm
  refine lv_aload_n (cx_x X) (cx_b X) dX4_nextChannel_0 rfl (lv_at hl 0 rfl) ?_
  refine lv_iload_n (cx_x X) (cx_b X) dX4_nextChannel_1 rfl (lv_at hl 1 rfl) ?_
  obtain ⟨v2, h1, hm⟩ := bnd hm
  refine af_R (rn_V (As := [.int a1]) (rest := []) X (c_X4_isCell l D y x hi sn sc A B F R G Q a1  _ h1) vq_X4_77 ⟨rfl, rfl⟩ ⟨Nat.le_of_ble_eq_true rfl, Nat.le_of_ble_eq_true rfl⟩ (rec_4 X hP4) ⟨hP4, hP2, hP1⟩ rfl hl.1 rfl (Nat.le_of_ble_eq_true rfl) dX4_nextChannel_2 ⟨Nat.le_refl _, Nat.le_refl _⟩) ?_
  obtain ⟨qt4, hm, hmt4⟩ := bnd hm
  have Jt4 : ∀ (v3 : Int32) , m4_nextChannel_J20 v3 = some r → ∀ ls, lv_has ls 2 [] → gr p l e rm_X4_nextChannel s m args below meth c r (F0 m 20 ls [.int v3]) := by
    intro v3 hm ls hl
    unfold m4_nextChannel_J20 at hm
    exact gr_i X hm dX4_nextChannel_20
  refine lv_if_eq (tgt := 19) (cx_x X) (cx_b X) dX4_nextChannel_5 (by decide) (fun c5 => ?_) (fun c5 => ?_)
  · replace hm := if_T c5 hm
    refine lv_iconst (v := (-1 : Int32)) (cx_x X) (cx_b X) dX4_nextChannel_19 (by decide) ?_
    exact Jt4 _ (by cases hm; exact hmt4) _ (lv_sub hl [] rfl)
  · replace hm := if_F c5 hm
    refine lv_aload_n (cx_x X) (cx_b X) dX4_nextChannel_8 rfl (lv_at hl 0 rfl) ?_
    refine gfW_X4_19 X hP4 0 rfl (v := .ref (A 0)) rfl dX4_nextChannel_9 ?_
    refine lv_iload_n (cx_x X) (cx_b X) dX4_nextChannel_12 rfl (lv_at hl 1 rfl) ?_
    obtain ⟨v7, h6, hm⟩ := bnd hm
    refine af_R (rn_V (As := [.int a1]) (rest := []) X (c_X2_chooseChannel l D y A B F R G Q a1  _ h6) vq_X4_153 ⟨rfl, rfl⟩ ⟨Nat.le_of_ble_eq_true rfl, Nat.le_of_ble_eq_true rfl⟩ (rec_2 X hP2) ⟨hP2, hP1⟩ rfl hl.1 rfl (Nat.le_of_ble_eq_true rfl) dX4_nextChannel_13 ⟨Nat.le_refl _, Nat.le_refl _⟩) ?_
    refine lv_goto (tgt := 20) (cx_x X) (cx_b X) dX4_nextChannel_16 (by decide) ?_
    exact Jt4 _ (by cases hm; exact hmt4) _ (lv_sub hl [] rfl)
/-! X4_nextDonor -/
def m4_nextDonor_J20  (v3 : Int32) : Option Int32 :=
  some v3
def m4_nextDonor (F : (Nat → Int32)) (R : (Nat → Nat → Int32)) (G : (Nat → Int32)) (Q : (Nat → Nat → Int32)) (a1 : Int32) : Option Int32 :=
  (m4_isCell F R G Q a1).bind fun v2 =>
  (if v2 = 0 then
  some (-1 : Int32)
  else
  (m2_chooseDonor F R G Q a1).bind fun v7 =>
  some v7).bind fun v3 => m4_nextDonor_J20 v3
abbrev rm_X4_nextDonor : Room := { frames := 5, cells := 0, slots := 0, locals := 120 }
set_option maxHeartbeats 4000000 in
set_option maxRecDepth 100000 in
theorem c_X4_nextDonor (l : Launch) (D : va_G) (y : Nat → ClassId) (x hi sn sc : Nat) (A B : Nat → Nat) (F : (Nat → Int32)) (R : (Nat → Nat → Int32)) (G : (Nat → Int32)) (Q : (Nat → Nat → Int32)) (a1 : Int32) (r : Int32) (hm : m4_nextDonor F R G Q a1 = some r) : Met l yX4_nextDonor (wy_s yX4_nextDonor cX4_nextDonor 2 (some .int)) rm_X4_nextDonor (pc_R D y [.ref x, .int a1] (fun H => va_P D vwCl (w4_s x (A 0) hi sn sc) H ∧ va_P D vwCl (w2_s y (B 0) A F R) H ∧ va_P D vwCl (w1_s y B G Q) H)) (qc_R r) 0 0 (fun _ => False) := by
  refine met_R (by decide) (Nat.le_of_ble_eq_true rfl) ?_
  intro p e s m args below meth c X h0 ls hl
  obtain ⟨hP4, hP2, hP1⟩ := h0
  replace hl : lv_has ls 2 [(0, .ref x), (1, .int a1)] := hl
  replace X : cx p s m args meth c cX4_nextDonor 2 (some .int) RX4 D y := X
  unfold m4_nextDonor at hm
  refine lv_aload_n (cx_x X) (cx_b X) dX4_nextDonor_0 rfl (lv_at hl 0 rfl) ?_
  refine lv_iload_n (cx_x X) (cx_b X) dX4_nextDonor_1 rfl (lv_at hl 1 rfl) ?_
  obtain ⟨v2, h1, hm⟩ := bnd hm
  refine af_R (rn_V (As := [.int a1]) (rest := []) X (c_X4_isCell l D y x hi sn sc A B F R G Q a1  _ h1) vq_X4_77 ⟨rfl, rfl⟩ ⟨Nat.le_of_ble_eq_true rfl, Nat.le_of_ble_eq_true rfl⟩ (rec_4 X hP4) ⟨hP4, hP2, hP1⟩ rfl hl.1 rfl (Nat.le_of_ble_eq_true rfl) dX4_nextDonor_2 ⟨Nat.le_refl _, Nat.le_refl _⟩) ?_
  obtain ⟨qt4, hm, hmt4⟩ := bnd hm
  have Jt4 : ∀ (v3 : Int32) , m4_nextDonor_J20 v3 = some r → ∀ ls, lv_has ls 2 [] → gr p l e rm_X4_nextDonor s m args below meth c r (F0 m 20 ls [.int v3]) := by
    intro v3 hm ls hl
    unfold m4_nextDonor_J20 at hm
    exact gr_i X hm dX4_nextDonor_20
  refine lv_if_eq (tgt := 19) (cx_x X) (cx_b X) dX4_nextDonor_5 (by decide) (fun c5 => ?_) (fun c5 => ?_)
  · replace hm := if_T c5 hm
    refine lv_iconst (v := (-1 : Int32)) (cx_x X) (cx_b X) dX4_nextDonor_19 (by decide) ?_
    exact Jt4 _ (by cases hm; exact hmt4) _ (lv_sub hl [] rfl)
  · replace hm := if_F c5 hm
    refine lv_aload_n (cx_x X) (cx_b X) dX4_nextDonor_8 rfl (lv_at hl 0 rfl) ?_
    refine gfW_X4_19 X hP4 0 rfl (v := .ref (A 0)) rfl dX4_nextDonor_9 ?_
    refine lv_iload_n (cx_x X) (cx_b X) dX4_nextDonor_12 rfl (lv_at hl 1 rfl) ?_
    obtain ⟨v7, h6, hm⟩ := bnd hm
    refine af_R (rn_V (As := [.int a1]) (rest := []) X (c_X2_chooseDonor l D y A B F R G Q a1  _ h6) vq_X4_156 ⟨rfl, rfl⟩ ⟨Nat.le_of_ble_eq_true rfl, Nat.le_of_ble_eq_true rfl⟩ (rec_2 X hP2) ⟨hP2, hP1⟩ rfl hl.1 rfl (Nat.le_of_ble_eq_true rfl) dX4_nextDonor_13 ⟨Nat.le_refl _, Nat.le_refl _⟩) ?_
    refine lv_goto (tgt := 20) (cx_x X) (cx_b X) dX4_nextDonor_16 (by decide) ?_
    exact Jt4 _ (by cases hm; exact hmt4) _ (lv_sub hl [] rfl)
/-! X4_blockingCells -/
def m4_blockingCells_X40  (v4 : Int32) : Option Int32 :=
  some v4
def m4_blockingCells_J34 (kkt1 : (Int32 × Int32) → Option Int32) (v3 : Int32) (v8 : Int32) : Option Int32 :=
  kkt1 (v8, (v3 + (1 : Int32)))
def m4_blockingCells_L4 (F : (Nat → Int32)) (R : (Nat → Nat → Int32)) (G : (Nat → Int32)) (Q : (Nat → Nat → Int32)) (kkt1 : (Int32 × Int32) → Option Int32) (t0 : (Int32 × Int32)) : Option Int32 :=
  if (G 0) ≤ t0.2 then
  some t0.1
  else
  (m2_chooseChannel F R G Q t0.2).bind fun v7 =>
  (if v7 = (-9 : Int32) then
  some (t0.1 + (1 : Int32))
  else
  some t0.1).bind fun v8 => m4_blockingCells_J34 kkt1 t0.2 v8
def m4_blockingCells (F : (Nat → Int32)) (R : (Nat → Nat → Int32)) (G : (Nat → Int32)) (Q : (Nat → Nat → Int32)) : Option Int32 :=
  (wh (m4_blockingCells_L4 F R G Q) 2000 ((0 : Int32), (0 : Int32))).bind fun v4 => m4_blockingCells_X40 v4
abbrev rm_X4_blockingCells : Room := { frames := 5, cells := 0, slots := 0, locals := 121 }
set_option maxHeartbeats 4000000 in
set_option maxRecDepth 100000 in
theorem c_X4_blockingCells (l : Launch) (D : va_G) (y : Nat → ClassId) (x hi sn sc : Nat) (A B : Nat → Nat) (F : (Nat → Int32)) (R : (Nat → Nat → Int32)) (G : (Nat → Int32)) (Q : (Nat → Nat → Int32)) (r : Int32) (hm : m4_blockingCells F R G Q = some r) : Met l yX4_blockingCells (wy_s yX4_blockingCells cX4_blockingCells 3 (some .int)) rm_X4_blockingCells (pc_R D y [.ref x] (fun H => va_P D vwCl (w4_s x (A 0) hi sn sc) H ∧ va_P D vwCl (w2_s y (B 0) A F R) H ∧ va_P D vwCl (w1_s y B G Q) H)) (qc_R r) 0 0 (fun _ => False) := by
  refine met_R (by decide) (Nat.le_of_ble_eq_true rfl) ?_
  intro p e s m args below meth c X h0 ls hl
  obtain ⟨hP4, hP2, hP1⟩ := h0
  replace hl : lv_has ls 3 [(0, .ref x)] := hl
  replace X : cx p s m args meth c cX4_blockingCells 3 (some .int) RX4 D y := X
  unfold m4_blockingCells at hm
  refine lv_iconst (v := (0 : Int32)) (cx_x X) (cx_b X) dX4_blockingCells_0 (by decide) ?_
  refine lv_istore_n (lv' := [(1, .int (0 : Int32)), (0, .ref x)]) (cx_x X) (cx_b X) dX4_blockingCells_1 rfl hl (by decide) rfl (fun ls hl => ?_)
  refine lv_iconst (v := (0 : Int32)) (cx_x X) (cx_b X) dX4_blockingCells_2 (by decide) ?_
  refine lv_istore_n (lv' := [(2, .int (0 : Int32)), (1, .int (0 : Int32)), (0, .ref x)]) (cx_x X) (cx_b X) dX4_blockingCells_3 rfl hl (by decide) rfl (fun ls hl => ?_)
  obtain ⟨qt1, hm, hmt1⟩ := bnd hm
  have Xt1 : ∀ (v4 : Int32) , m4_blockingCells_X40 v4 = some r → ∀ ls, lv_has ls 3 [(1, .int v4)] → gr p l e rm_X4_blockingCells s m args below meth c r (F0 m 40 ls []) := by
    intro v4 hm ls hl
    unfold m4_blockingCells_X40 at hm
    refine lv_iload_n (cx_x X) (cx_b X) dX4_blockingCells_40 rfl (lv_at hl 0 rfl) ?_
    exact gr_i X hm dX4_blockingCells_41
  have Lt1 : ∀ (n : Nat) (v2 : Int32) (v3 : Int32) , wh (m4_blockingCells_L4 F R G Q) n (v2, v3) = some qt1 → ∀ ls, lv_has ls 3 [(0, .ref x), (1, .int v2), (2, .int v3)] → gr p l e rm_X4_blockingCells s m args below meth c r (F0 m 4 ls []) := by
    intro n
    induction n with
    | zero => intro v2 v3 hm; cases hm
    | succ n ih =>
      intro v2 v3 hm ls hl
      replace hm : (m4_blockingCells_L4 F R G Q) (wh (m4_blockingCells_L4 F R G Q) n) (v2, v3) = some qt1 := hm
      dsimp only [m4_blockingCells_L4] at hm
      refine lv_iload_n (cx_x X) (cx_b X) dX4_blockingCells_4 rfl (lv_at hl 2 rfl) ?_
      refine lv_aload_n (cx_x X) (cx_b X) dX4_blockingCells_5 rfl (lv_at hl 0 rfl) ?_
      refine gfW_X4_19 X hP4 0 rfl (v := .ref (A 0)) rfl dX4_blockingCells_6 ?_
      refine gf_X4_52 X hP2 dX4_blockingCells_9 ?_
      refine gf_X4_74 X hP1 dX4_blockingCells_12 ?_
      refine lv_icmp_ge (tgt := 40) (cx_x X) (cx_b X) dX4_blockingCells_15 (by decide) (fun c5 => ?_) (fun c5 => ?_)
      · replace hm := if_T c5 hm
        exact Xt1 _ (by cases hm; exact hmt1) _ (lv_sub hl [1] rfl)
      · replace hm := if_F c5 hm
        refine lv_aload_n (cx_x X) (cx_b X) dX4_blockingCells_18 rfl (lv_at hl 0 rfl) ?_
        refine gfW_X4_19 X hP4 0 rfl (v := .ref (A 0)) rfl dX4_blockingCells_19 ?_
        refine lv_iload_n (cx_x X) (cx_b X) dX4_blockingCells_22 rfl (lv_at hl 2 rfl) ?_
        obtain ⟨v7, h6, hm⟩ := bnd hm
        refine af_R (rn_V (As := [.int v3]) (rest := []) X (c_X2_chooseChannel l D y A B F R G Q v3  _ h6) vq_X4_153 ⟨rfl, rfl⟩ ⟨Nat.le_of_ble_eq_true rfl, Nat.le_of_ble_eq_true rfl⟩ (rec_2 X hP2) ⟨hP2, hP1⟩ rfl hl.1 rfl (Nat.le_of_ble_eq_true rfl) dX4_blockingCells_23 ⟨Nat.le_refl _, Nat.le_refl _⟩) ?_
        refine lv_bipush (v := (-9 : Int32)) (cx_x X) (cx_b X) dX4_blockingCells_26 (by decide) ?_
        obtain ⟨qt9, hm, hmt9⟩ := bnd hm
        have Jt9 : ∀ (v8 : Int32) , m4_blockingCells_J34 (wh (m4_blockingCells_L4 F R G Q) n) v3 v8 = some qt1 → ∀ ls, lv_has ls 3 [(0, .ref x), (1, .int v8), (2, .int v3)] → gr p l e rm_X4_blockingCells s m args below meth c r (F0 m 34 ls []) := by
          intro v8 hm ls hl
          unfold m4_blockingCells_J34 at hm
          refine lv_iinc (v := (v3 + (1 : Int32))) (lv' := [(2, .int (v3 + (1 : Int32))), (0, .ref x), (1, .int v8)]) (cx_x X) (cx_b X) dX4_blockingCells_34 hl (k := 2) rfl (by rfl) (by decide) rfl (fun ls hl => ?_)
          refine lv_goto (tgt := 4) (cx_x X) (cx_b X) dX4_blockingCells_37 (by decide) ?_
          exact ih _ _ hm _ (lv_sub hl [1, 2, 0] rfl)
        refine lv_icmp_ne (tgt := 34) (cx_x X) (cx_b X) dX4_blockingCells_28 (by decide) (fun c10 => ?_) (fun c10 => ?_)
        · replace hm := if_F c10 hm
          exact Jt9 _ (by cases hm; exact hmt9) _ (lv_sub hl [0, 1, 2] rfl)
        · replace hm := if_T c10 hm
          refine lv_iinc (v := (v2 + (1 : Int32))) (lv' := [(1, .int (v2 + (1 : Int32))), (0, .ref x), (2, .int v3)]) (cx_x X) (cx_b X) dX4_blockingCells_31 hl (k := 1) rfl (by rfl) (by decide) rfl (fun ls hl => ?_)
          exact Jt9 _ (by cases hm; exact hmt9) _ (lv_sub hl [1, 0, 2] rfl)
  exact Lt1 _ _ _ hm _ (lv_sub hl [2, 1, 0] rfl)
/-! X4_callCount -/
def m4_callCount (F : (Nat → Int32)) (R : (Nat → Nat → Int32)) (G : (Nat → Int32)) (Q : (Nat → Nat → Int32)) : Option Int32 :=
  (m2_presentCalls F R G Q).bind fun v2 =>
  some v2
abbrev rm_X4_callCount : Room := { frames := 2, cells := 0, slots := 0, locals := 43 }
set_option maxHeartbeats 4000000 in
set_option maxRecDepth 100000 in
theorem c_X4_callCount (l : Launch) (D : va_G) (y : Nat → ClassId) (x hi sn sc : Nat) (A B : Nat → Nat) (F : (Nat → Int32)) (R : (Nat → Nat → Int32)) (G : (Nat → Int32)) (Q : (Nat → Nat → Int32)) (r : Int32) (hm : m4_callCount F R G Q = some r) : Met l yX4_callCount (wy_s yX4_callCount cX4_callCount 1 (some .int)) rm_X4_callCount (pc_R D y [.ref x] (fun H => va_P D vwCl (w4_s x (A 0) hi sn sc) H ∧ va_P D vwCl (w2_s y (B 0) A F R) H ∧ va_P D vwCl (w1_s y B G Q) H)) (qc_R r) 0 0 (fun _ => False) := by
  refine met_R (by decide) (Nat.le_of_ble_eq_true rfl) ?_
  intro p e s m args below meth c X h0 ls hl
  obtain ⟨hP4, hP2, hP1⟩ := h0
  replace hl : lv_has ls 1 [(0, .ref x)] := hl
  replace X : cx p s m args meth c cX4_callCount 1 (some .int) RX4 D y := X
  unfold m4_callCount at hm
  refine lv_aload_n (cx_x X) (cx_b X) dX4_callCount_0 rfl (lv_at hl 0 rfl) ?_
  refine gfW_X4_19 X hP4 0 rfl (v := .ref (A 0)) rfl dX4_callCount_1 ?_
  obtain ⟨v2, h1, hm⟩ := bnd hm
  refine af_R (rn_V (As := []) (rest := []) X (c_X2_presentCalls l D y A B F R G Q  _ h1) vq_X4_159 ⟨rfl, rfl⟩ ⟨Nat.le_of_ble_eq_true rfl, Nat.le_of_ble_eq_true rfl⟩ (rec_2 X hP2) ⟨hP2, hP1⟩ rfl hl.1 rfl (Nat.le_of_ble_eq_true rfl) dX4_callCount_4 ⟨Nat.le_refl _, Nat.le_refl _⟩) ?_
  exact gr_i X hm dX4_callCount_7
/-! X4_attempts -/
def m4_attempts (F : (Nat → Int32)) (R : (Nat → Nat → Int32)) (G : (Nat → Int32)) (Q : (Nat → Nat → Int32)) : Option Int32 :=
  some (F 4)
abbrev rm_X4_attempts : Room := { frames := 0, cells := 0, slots := 0, locals := 0 }
set_option maxHeartbeats 4000000 in
set_option maxRecDepth 100000 in
theorem c_X4_attempts (l : Launch) (D : va_G) (y : Nat → ClassId) (x hi sn sc : Nat) (A B : Nat → Nat) (F : (Nat → Int32)) (R : (Nat → Nat → Int32)) (G : (Nat → Int32)) (Q : (Nat → Nat → Int32)) (r : Int32) (hm : m4_attempts F R G Q = some r) : Met l yX4_attempts (wy_s yX4_attempts cX4_attempts 1 (some .int)) rm_X4_attempts (pc_R D y [.ref x] (fun H => va_P D vwCl (w4_s x (A 0) hi sn sc) H ∧ va_P D vwCl (w2_s y (B 0) A F R) H ∧ va_P D vwCl (w1_s y B G Q) H)) (qc_R r) 0 0 (fun _ => False) := by
  refine met_R (by decide) (Nat.le_of_ble_eq_true rfl) ?_
  intro p e s m args below meth c X h0 ls hl
  obtain ⟨hP4, hP2, hP1⟩ := h0
  replace hl : lv_has ls 1 [(0, .ref x)] := hl
  replace X : cx p s m args meth c cX4_attempts 1 (some .int) RX4 D y := X
  unfold m4_attempts at hm
  refine lv_aload_n (cx_x X) (cx_b X) dX4_attempts_0 rfl (lv_at hl 0 rfl) ?_
  refine gfW_X4_19 X hP4 0 rfl (v := .ref (A 0)) rfl dX4_attempts_1 ?_
  refine gf_X4_162 X hP2 dX4_attempts_4 ?_
  exact gr_i X hm dX4_attempts_7
/-! X4_blocked -/
def m4_blocked (F : (Nat → Int32)) (R : (Nat → Nat → Int32)) (G : (Nat → Int32)) (Q : (Nat → Nat → Int32)) : Option Int32 :=
  some (F 5)
abbrev rm_X4_blocked : Room := { frames := 0, cells := 0, slots := 0, locals := 0 }
set_option maxHeartbeats 4000000 in
set_option maxRecDepth 100000 in
theorem c_X4_blocked (l : Launch) (D : va_G) (y : Nat → ClassId) (x hi sn sc : Nat) (A B : Nat → Nat) (F : (Nat → Int32)) (R : (Nat → Nat → Int32)) (G : (Nat → Int32)) (Q : (Nat → Nat → Int32)) (r : Int32) (hm : m4_blocked F R G Q = some r) : Met l yX4_blocked (wy_s yX4_blocked cX4_blocked 1 (some .int)) rm_X4_blocked (pc_R D y [.ref x] (fun H => va_P D vwCl (w4_s x (A 0) hi sn sc) H ∧ va_P D vwCl (w2_s y (B 0) A F R) H ∧ va_P D vwCl (w1_s y B G Q) H)) (qc_R r) 0 0 (fun _ => False) := by
  refine met_R (by decide) (Nat.le_of_ble_eq_true rfl) ?_
  intro p e s m args below meth c X h0 ls hl
  obtain ⟨hP4, hP2, hP1⟩ := h0
  replace hl : lv_has ls 1 [(0, .ref x)] := hl
  replace X : cx p s m args meth c cX4_blocked 1 (some .int) RX4 D y := X
  unfold m4_blocked at hm
  refine lv_aload_n (cx_x X) (cx_b X) dX4_blocked_0 rfl (lv_at hl 0 rfl) ?_
  refine gfW_X4_19 X hP4 0 rfl (v := .ref (A 0)) rfl dX4_blocked_1 ?_
  refine gf_X4_165 X hP2 dX4_blocked_4 ?_
  exact gr_i X hm dX4_blocked_7
/-! X4_blockedInFixedScheme -/
def m4_blockedInFixedScheme (F : (Nat → Int32)) (R : (Nat → Nat → Int32)) (G : (Nat → Int32)) (Q : (Nat → Nat → Int32)) : Option Int32 :=
  some (F 6)
abbrev rm_X4_blockedInFixedScheme : Room := { frames := 0, cells := 0, slots := 0, locals := 0 }
set_option maxHeartbeats 4000000 in
set_option maxRecDepth 100000 in
theorem c_X4_blockedInFixedScheme (l : Launch) (D : va_G) (y : Nat → ClassId) (x hi sn sc : Nat) (A B : Nat → Nat) (F : (Nat → Int32)) (R : (Nat → Nat → Int32)) (G : (Nat → Int32)) (Q : (Nat → Nat → Int32)) (r : Int32) (hm : m4_blockedInFixedScheme F R G Q = some r) : Met l yX4_blockedInFixedScheme (wy_s yX4_blockedInFixedScheme cX4_blockedInFixedScheme 1 (some .int)) rm_X4_blockedInFixedScheme (pc_R D y [.ref x] (fun H => va_P D vwCl (w4_s x (A 0) hi sn sc) H ∧ va_P D vwCl (w2_s y (B 0) A F R) H ∧ va_P D vwCl (w1_s y B G Q) H)) (qc_R r) 0 0 (fun _ => False) := by
  refine met_R (by decide) (Nat.le_of_ble_eq_true rfl) ?_
  intro p e s m args below meth c X h0 ls hl
  obtain ⟨hP4, hP2, hP1⟩ := h0
  replace hl : lv_has ls 1 [(0, .ref x)] := hl
  replace X : cx p s m args meth c cX4_blockedInFixedScheme 1 (some .int) RX4 D y := X
  unfold m4_blockedInFixedScheme at hm
  refine lv_aload_n (cx_x X) (cx_b X) dX4_blockedInFixedScheme_0 rfl (lv_at hl 0 rfl) ?_
  refine gfW_X4_19 X hP4 0 rfl (v := .ref (A 0)) rfl dX4_blockedInFixedScheme_1 ?_
  refine gf_X4_168 X hP2 dX4_blockedInFixedScheme_4 ?_
  exact gr_i X hm dX4_blockedInFixedScheme_7
/-! X4_dropped -/
def m4_dropped (F : (Nat → Int32)) (R : (Nat → Nat → Int32)) (G : (Nat → Int32)) (Q : (Nat → Nat → Int32)) : Option Int32 :=
  some (F 7)
abbrev rm_X4_dropped : Room := { frames := 0, cells := 0, slots := 0, locals := 0 }
set_option maxHeartbeats 4000000 in
set_option maxRecDepth 100000 in
theorem c_X4_dropped (l : Launch) (D : va_G) (y : Nat → ClassId) (x hi sn sc : Nat) (A B : Nat → Nat) (F : (Nat → Int32)) (R : (Nat → Nat → Int32)) (G : (Nat → Int32)) (Q : (Nat → Nat → Int32)) (r : Int32) (hm : m4_dropped F R G Q = some r) : Met l yX4_dropped (wy_s yX4_dropped cX4_dropped 1 (some .int)) rm_X4_dropped (pc_R D y [.ref x] (fun H => va_P D vwCl (w4_s x (A 0) hi sn sc) H ∧ va_P D vwCl (w2_s y (B 0) A F R) H ∧ va_P D vwCl (w1_s y B G Q) H)) (qc_R r) 0 0 (fun _ => False) := by
  refine met_R (by decide) (Nat.le_of_ble_eq_true rfl) ?_
  intro p e s m args below meth c X h0 ls hl
  obtain ⟨hP4, hP2, hP1⟩ := h0
  replace hl : lv_has ls 1 [(0, .ref x)] := hl
  replace X : cx p s m args meth c cX4_dropped 1 (some .int) RX4 D y := X
  unfold m4_dropped at hm
  refine lv_aload_n (cx_x X) (cx_b X) dX4_dropped_0 rfl (lv_at hl 0 rfl) ?_
  refine gfW_X4_19 X hP4 0 rfl (v := .ref (A 0)) rfl dX4_dropped_1 ?_
  refine gf_X4_171 X hP2 dX4_dropped_4 ?_
  exact gr_i X hm dX4_dropped_7
/-! X4_droppedInFixedScheme -/
def m4_droppedInFixedScheme (F : (Nat → Int32)) (R : (Nat → Nat → Int32)) (G : (Nat → Int32)) (Q : (Nat → Nat → Int32)) : Option Int32 :=
  some (F 8)
abbrev rm_X4_droppedInFixedScheme : Room := { frames := 0, cells := 0, slots := 0, locals := 0 }
set_option maxHeartbeats 4000000 in
set_option maxRecDepth 100000 in
theorem c_X4_droppedInFixedScheme (l : Launch) (D : va_G) (y : Nat → ClassId) (x hi sn sc : Nat) (A B : Nat → Nat) (F : (Nat → Int32)) (R : (Nat → Nat → Int32)) (G : (Nat → Int32)) (Q : (Nat → Nat → Int32)) (r : Int32) (hm : m4_droppedInFixedScheme F R G Q = some r) : Met l yX4_droppedInFixedScheme (wy_s yX4_droppedInFixedScheme cX4_droppedInFixedScheme 1 (some .int)) rm_X4_droppedInFixedScheme (pc_R D y [.ref x] (fun H => va_P D vwCl (w4_s x (A 0) hi sn sc) H ∧ va_P D vwCl (w2_s y (B 0) A F R) H ∧ va_P D vwCl (w1_s y B G Q) H)) (qc_R r) 0 0 (fun _ => False) := by
  refine met_R (by decide) (Nat.le_of_ble_eq_true rfl) ?_
  intro p e s m args below meth c X h0 ls hl
  obtain ⟨hP4, hP2, hP1⟩ := h0
  replace hl : lv_has ls 1 [(0, .ref x)] := hl
  replace X : cx p s m args meth c cX4_droppedInFixedScheme 1 (some .int) RX4 D y := X
  unfold m4_droppedInFixedScheme at hm
  refine lv_aload_n (cx_x X) (cx_b X) dX4_droppedInFixedScheme_0 rfl (lv_at hl 0 rfl) ?_
  refine gfW_X4_19 X hP4 0 rfl (v := .ref (A 0)) rfl dX4_droppedInFixedScheme_1 ?_
  refine gf_X4_174 X hP2 dX4_droppedInFixedScheme_4 ?_
  exact gr_i X hm dX4_droppedInFixedScheme_7
/-! X4_borrowings -/
def m4_borrowings (F : (Nat → Int32)) (R : (Nat → Nat → Int32)) (G : (Nat → Int32)) (Q : (Nat → Nat → Int32)) : Option Int32 :=
  some (F 9)
abbrev rm_X4_borrowings : Room := { frames := 0, cells := 0, slots := 0, locals := 0 }
set_option maxHeartbeats 4000000 in
set_option maxRecDepth 100000 in
theorem c_X4_borrowings (l : Launch) (D : va_G) (y : Nat → ClassId) (x hi sn sc : Nat) (A B : Nat → Nat) (F : (Nat → Int32)) (R : (Nat → Nat → Int32)) (G : (Nat → Int32)) (Q : (Nat → Nat → Int32)) (r : Int32) (hm : m4_borrowings F R G Q = some r) : Met l yX4_borrowings (wy_s yX4_borrowings cX4_borrowings 1 (some .int)) rm_X4_borrowings (pc_R D y [.ref x] (fun H => va_P D vwCl (w4_s x (A 0) hi sn sc) H ∧ va_P D vwCl (w2_s y (B 0) A F R) H ∧ va_P D vwCl (w1_s y B G Q) H)) (qc_R r) 0 0 (fun _ => False) := by
  refine met_R (by decide) (Nat.le_of_ble_eq_true rfl) ?_
  intro p e s m args below meth c X h0 ls hl
  obtain ⟨hP4, hP2, hP1⟩ := h0
  replace hl : lv_has ls 1 [(0, .ref x)] := hl
  replace X : cx p s m args meth c cX4_borrowings 1 (some .int) RX4 D y := X
  unfold m4_borrowings at hm
  refine lv_aload_n (cx_x X) (cx_b X) dX4_borrowings_0 rfl (lv_at hl 0 rfl) ?_
  refine gfW_X4_19 X hP4 0 rfl (v := .ref (A 0)) rfl dX4_borrowings_1 ?_
  refine gf_X4_177 X hP2 dX4_borrowings_4 ?_
  exact gr_i X hm dX4_borrowings_7
/-! X4_returns -/
def m4_returns (F : (Nat → Int32)) (R : (Nat → Nat → Int32)) (G : (Nat → Int32)) (Q : (Nat → Nat → Int32)) : Option Int32 :=
  some (F 10)
abbrev rm_X4_returns : Room := { frames := 0, cells := 0, slots := 0, locals := 0 }
set_option maxHeartbeats 4000000 in
set_option maxRecDepth 100000 in
theorem c_X4_returns (l : Launch) (D : va_G) (y : Nat → ClassId) (x hi sn sc : Nat) (A B : Nat → Nat) (F : (Nat → Int32)) (R : (Nat → Nat → Int32)) (G : (Nat → Int32)) (Q : (Nat → Nat → Int32)) (r : Int32) (hm : m4_returns F R G Q = some r) : Met l yX4_returns (wy_s yX4_returns cX4_returns 1 (some .int)) rm_X4_returns (pc_R D y [.ref x] (fun H => va_P D vwCl (w4_s x (A 0) hi sn sc) H ∧ va_P D vwCl (w2_s y (B 0) A F R) H ∧ va_P D vwCl (w1_s y B G Q) H)) (qc_R r) 0 0 (fun _ => False) := by
  refine met_R (by decide) (Nat.le_of_ble_eq_true rfl) ?_
  intro p e s m args below meth c X h0 ls hl
  obtain ⟨hP4, hP2, hP1⟩ := h0
  replace hl : lv_has ls 1 [(0, .ref x)] := hl
  replace X : cx p s m args meth c cX4_returns 1 (some .int) RX4 D y := X
  unfold m4_returns at hm
  refine lv_aload_n (cx_x X) (cx_b X) dX4_returns_0 rfl (lv_at hl 0 rfl) ?_
  refine gfW_X4_19 X hP4 0 rfl (v := .ref (A 0)) rfl dX4_returns_1 ?_
  refine gf_X4_180 X hP2 dX4_returns_4 ?_
  exact gr_i X hm dX4_returns_7
