/-! X1_placeCells -/
def m1_placeCells_X94 (G : (Nat → Int32)) (R6 : (Nat → Nat → Int32)) : Option ((Nat → Int32) × (Nat → Nat → Int32)) :=
  some (G, R6)
def m1_placeCells_J88 (kkt1 : (Int32 × Int32 × Int32 × (Nat → Nat → Int32)) → Option (Nat → Nat → Int32)) (v2 : Int32) (v3 : Int32) (v4 : Int32) (R5 : (Nat → Nat → Int32)) (v11 : Int32) (v14 : Int32) (v15 : Int32) : Option (Nat → Nat → Int32) :=
  kkt1 (v14, v15, (v4 + (1 : Int32)), (va_up (va_up (va_up R5 0 (upd (R5 0) v4.toNatClampNeg v2)) 1 (upd ((va_up R5 0 (upd (R5 0) v4.toNatClampNeg v2)) 1) v4.toNatClampNeg v3)) 2 (upd ((va_up (va_up R5 0 (upd (R5 0) v4.toNatClampNeg v2)) 1 (upd ((va_up R5 0 (upd (R5 0) v4.toNatClampNeg v2)) 1) v4.toNatClampNeg v3)) 2) v4.toNatClampNeg v11)))
def m1_placeCells_J72 (a1 : Int32) (kkt1 : (Int32 × Int32 × Int32 × (Nat → Nat → Int32)) → Option (Nat → Nat → Int32)) (v2 : Int32) (v3 : Int32) (v4 : Int32) (R5 : (Nat → Nat → Int32)) (v11 : Int32) : Option (Nat → Nat → Int32) :=
  if inb v4 25 then
  (if (v3 + (1 : Int32)) = a1 then
  some ((v2 + (1 : Int32)), (0 : Int32))
  else
  some (v2, (v3 + (1 : Int32)))).bind fun ⟨v14, v15⟩ => m1_placeCells_J88 kkt1 v2 v3 v4 R5 v11 v14 v15 else none
def m1_placeCells_L8 (G : (Nat → Int32)) (a1 : Int32) (a2 : Int32) (kkt1 : (Int32 × Int32 × Int32 × (Nat → Nat → Int32)) → Option (Nat → Nat → Int32)) (t0 : (Int32 × Int32 × Int32 × (Nat → Nat → Int32))) : Option (Nat → Nat → Int32) :=
  if (G 0) ≤ t0.2.2.1 then
  some t0.2.2.2
  else
  if (25 : Int32) ≤ t0.2.2.1 then
  some t0.2.2.2
  else
  if inb t0.2.2.1 25 then
  if inb t0.2.2.1 25 then
  (if a2 = (2 : Int32) then
  some ((t0.1 + ((2 : Int32) * t0.2.1)) - (t0.1 + ((2 : Int32) * t0.2.1)) / (3 : Int32) * (3 : Int32))
  else
  some ((t0.1 + ((3 : Int32) * t0.2.1)) - (t0.1 + ((3 : Int32) * t0.2.1)) / (7 : Int32) * (7 : Int32))).bind fun v11 => m1_placeCells_J72 a1 kkt1 t0.1 t0.2.1 t0.2.2.1 t0.2.2.2 v11 else none else none
def m1_placeCells (G : (Nat → Int32)) (Q : (Nat → Nat → Int32)) (a1 : Int32) (a2 : Int32) : Option ((Nat → Int32) × (Nat → Nat → Int32)) :=
  (wh (m1_placeCells_L8 G a1 a2) 2000 ((0 : Int32), (0 : Int32), (0 : Int32), Q)).bind fun R6 => m1_placeCells_X94 G R6
abbrev rm_X1_placeCells : Room := { frames := 0, cells := 0, slots := 0, locals := 0 }
set_option maxHeartbeats 4000000 in
set_option maxRecDepth 100000 in
theorem c_X1_placeCells (l : Launch) (D : va_G) (y : Nat → ClassId) (B : Nat → Nat) (G : (Nat → Int32)) (Q : (Nat → Nat → Int32)) (a1 : Int32) (a2 : Int32) (FF9 : (Nat → Int32)) (RR9 : (Nat → Nat → Int32)) (sz : Nat) (hI : aj_s 6 B) (hm : m1_placeCells G Q a1 a2 = some (FF9, RR9)) : Met l yX1_placeCells (wy_s yX1_placeCells cX1_placeCells 6 none) rm_X1_placeCells (pc_R D y [.ref (B 0), .int a1, .int a2] (fun H => H.size = sz ∧ va_P D vwCl (w1_s y B G Q) H)) (qc_W none (fun H => va_P D vwCl (w1_s y B FF9 RR9) H) (rg_s 6 B sz)) 0 0 (rg_s 6 B sz) := by
  refine met_W (by decide) (Nat.le_of_ble_eq_true rfl) ?_
  intro p e s m args below meth c X hnm h0 ls hl
  obtain ⟨hsz, hP⟩ := h0
  subst hsz
  have hA := ap_of (sz := s.heap.size) hI
  have hS : va_S (rg_s 6 B s.heap.size) s.heap s.heap [] := va_S.rf
  replace hl : lv_has ls 6 [(0, .ref (B 0)), (1, .int a1), (2, .int a2)] := hl
  replace X : cx p s m args meth c cX1_placeCells 6 none RX1 D y := X
  unfold m1_placeCells at hm
  refine lv_iconst (v := (0 : Int32)) (cx_x X) (cx_b X) dX1_placeCells_0 (by decide) ?_
  refine lv_istore_n (lv' := [(3, .int (0 : Int32)), (0, .ref (B 0)), (1, .int a1), (2, .int a2)]) (cx_x X) (cx_b X) dX1_placeCells_1 rfl hl (by decide) rfl (fun ls hl => ?_)
  refine lv_iconst (v := (0 : Int32)) (cx_x X) (cx_b X) dX1_placeCells_2 (by decide) ?_
  refine lv_istore (lv' := [(4, .int (0 : Int32)), (3, .int (0 : Int32)), (0, .ref (B 0)), (1, .int a1), (2, .int a2)]) (cx_x X) (cx_b X) dX1_placeCells_3 hl (by decide) rfl (fun ls hl => ?_)
  refine lv_iconst (v := (0 : Int32)) (cx_x X) (cx_b X) dX1_placeCells_5 (by decide) ?_
  refine lv_istore (lv' := [(5, .int (0 : Int32)), (4, .int (0 : Int32)), (3, .int (0 : Int32)), (0, .ref (B 0)), (1, .int a1), (2, .int a2)]) (cx_x X) (cx_b X) dX1_placeCells_6 hl (by decide) rfl (fun ls hl => ?_)
  obtain ⟨qt1, hm, hmt1⟩ := bnd hm
  have Xt1 : ∀ (R6 : (Nat → Nat → Int32)) , m1_placeCells_X94 G R6 = some (FF9, RR9) → ∀ (H : Heap) (locs : List Loc), va_P D vwCl (w1_s y B G R6) H → va_S (rg_s 6 B s.heap.size) s.heap H locs → ∀ ls, lv_has ls 6 [] → gw p l e rm_X1_placeCells s m args below meth c none (fun H => va_P D vwCl (w1_s y B FF9 RR9) H) (rg_s 6 B s.heap.size) 0 0 H locs (F0 m 94 ls []) := by
    intro R6 hm H locs hP hS ls hl
    unfold m1_placeCells_X94 at hm
    obtain ⟨rfl, rfl⟩ := oc_2 hm
    exact gw_v X hS hP dX1_placeCells_94
  have Lt1 : ∀ (n : Nat) (v2 : Int32) (v3 : Int32) (v4 : Int32) (R5 : (Nat → Nat → Int32)) , wh (m1_placeCells_L8 G a1 a2) n (v2, v3, v4, R5) = some qt1 → ∀ (H : Heap) (locs : List Loc), va_P D vwCl (w1_s y B G R5) H → va_S (rg_s 6 B s.heap.size) s.heap H locs → ∀ ls, lv_has ls 6 [(0, .ref (B 0)), (1, .int a1), (2, .int a2), (3, .int v2), (4, .int v3), (5, .int v4)] → gw p l e rm_X1_placeCells s m args below meth c none (fun H => va_P D vwCl (w1_s y B FF9 RR9) H) (rg_s 6 B s.heap.size) 0 0 H locs (F0 m 8 ls []) := by
    intro n
    induction n with
    | zero => intro v2 v3 v4 R5 hm; cases hm
    | succ n ih =>
      intro v2 v3 v4 R5 hm H locs hP hS ls hl
      replace hm : (m1_placeCells_L8 G a1 a2) (wh (m1_placeCells_L8 G a1 a2) n) (v2, v3, v4, R5) = some qt1 := hm
      dsimp only [m1_placeCells_L8] at hm
      refine lv_iload (cx_x X) (cx_b X) dX1_placeCells_8 (lv_at hl 5 rfl) ?_
      refine lv_aload_n (cx_x X) (cx_b X) dX1_placeCells_10 rfl (lv_at hl 0 rfl) ?_
      refine gf_X1_27 X hP dX1_placeCells_11 ?_
      refine lv_icmp_ge (tgt := 94) (cx_x X) (cx_b X) dX1_placeCells_14 (by decide) (fun c7 => ?_) (fun c7 => ?_)
      · replace hm := if_T c7 hm
        exact Xt1 _ (by cases hm; exact hmt1) _ _ hP hS _ (lv_sub hl [] rfl)
      · replace hm := if_F c7 hm
        refine lv_iload (cx_x X) (cx_b X) dX1_placeCells_17 (lv_at hl 5 rfl) ?_
        refine lv_bipush (v := (25 : Int32)) (cx_x X) (cx_b X) dX1_placeCells_19 (by decide) ?_
        refine lv_icmp_ge (tgt := 94) (cx_x X) (cx_b X) dX1_placeCells_21 (by decide) (fun c8 => ?_) (fun c8 => ?_)
        · replace hm := if_T c8 hm
          exact Xt1 _ (by cases hm; exact hmt1) _ _ hP hS _ (lv_sub hl [] rfl)
        · replace hm := if_F c8 hm
          refine lv_aload_n (cx_x X) (cx_b X) dX1_placeCells_24 rfl (lv_at hl 0 rfl) ?_
          refine gf_X1_9 X hP dX1_placeCells_25 ?_
          refine lv_iload (cx_x X) (cx_b X) dX1_placeCells_28 (lv_at hl 5 rfl) ?_
          refine lv_iload_n (cx_x X) (cx_b X) dX1_placeCells_30 rfl (lv_at hl 3 rfl) ?_
          obtain ⟨h9, hm⟩ := ck_E hm
          refine st_1_0 X hP hA hS h9 dX1_placeCells_31 (fun H locs hP hS => ?_)
          refine lv_aload_n (cx_x X) (cx_b X) dX1_placeCells_32 rfl (lv_at hl 0 rfl) ?_
          refine gf_X1_15 X hP dX1_placeCells_33 ?_
          refine lv_iload (cx_x X) (cx_b X) dX1_placeCells_36 (lv_at hl 5 rfl) ?_
          refine lv_iload (cx_x X) (cx_b X) dX1_placeCells_38 (lv_at hl 4 rfl) ?_
          obtain ⟨h10, hm⟩ := ck_E hm
          refine st_1_1 X hP hA hS h10 dX1_placeCells_40 (fun H locs hP hS => ?_)
          refine lv_aload_n (cx_x X) (cx_b X) dX1_placeCells_41 rfl (lv_at hl 0 rfl) ?_
          refine gf_X1_18 X hP dX1_placeCells_42 ?_
          refine lv_iload (cx_x X) (cx_b X) dX1_placeCells_45 (lv_at hl 5 rfl) ?_
          refine lv_iload_n (cx_x X) (cx_b X) dX1_placeCells_47 rfl (lv_at hl 2 rfl) ?_
          refine lv_iconst (v := (2 : Int32)) (cx_x X) (cx_b X) dX1_placeCells_48 (by decide) ?_
          obtain ⟨qt12, hm, hmt12⟩ := bnd hm
          have Jt12 : ∀ (v11 : Int32) , m1_placeCells_J72 a1 (wh (m1_placeCells_L8 G a1 a2) n) v2 v3 v4 R5 v11 = some qt1 → ∀ (H : Heap) (locs : List Loc), va_P D vwCl (w1_s y B G (va_up (va_up R5 0 (upd (R5 0) v4.toNatClampNeg v2)) 1 (upd ((va_up R5 0 (upd (R5 0) v4.toNatClampNeg v2)) 1) v4.toNatClampNeg v3))) H → va_S (rg_s 6 B s.heap.size) s.heap H locs → ∀ ls, lv_has ls 6 [(0, .ref (B 0)), (1, .int a1), (2, .int a2), (3, .int v2), (4, .int v3), (5, .int v4)] → gw p l e rm_X1_placeCells s m args below meth c none (fun H => va_P D vwCl (w1_s y B FF9 RR9) H) (rg_s 6 B s.heap.size) 0 0 H locs (F0 m 72 ls [.int v11, .int v4, .ref (B 3)]) := by
            intro v11 hm H locs hP hS ls hl
            unfold m1_placeCells_J72 at hm
            obtain ⟨h13, hm⟩ := ck_E hm
            refine st_1_2 X hP hA hS h13 dX1_placeCells_72 (fun H locs hP hS => ?_)
            refine lv_iinc (v := (v3 + (1 : Int32))) (lv' := [(4, .int (v3 + (1 : Int32))), (0, .ref (B 0)), (1, .int a1), (2, .int a2), (3, .int v2), (5, .int v4)]) (cx_x X) (cx_b X) dX1_placeCells_73 hl (k := 4) rfl (by rfl) (by decide) rfl (fun ls hl => ?_)
            refine lv_iload (cx_x X) (cx_b X) dX1_placeCells_76 (lv_at hl 0 rfl) ?_
            refine lv_iload_n (cx_x X) (cx_b X) dX1_placeCells_78 rfl (lv_at hl 2 rfl) ?_
            obtain ⟨qt16, hm, hmt16⟩ := bnd hm
            have Jt16 : ∀ (v14 : Int32) (v15 : Int32) , m1_placeCells_J88 (wh (m1_placeCells_L8 G a1 a2) n) v2 v3 v4 R5 v11 v14 v15 = some qt1 → ∀ (H : Heap) (locs : List Loc), va_P D vwCl (w1_s y B G (va_up (va_up (va_up R5 0 (upd (R5 0) v4.toNatClampNeg v2)) 1 (upd ((va_up R5 0 (upd (R5 0) v4.toNatClampNeg v2)) 1) v4.toNatClampNeg v3)) 2 (upd ((va_up (va_up R5 0 (upd (R5 0) v4.toNatClampNeg v2)) 1 (upd ((va_up R5 0 (upd (R5 0) v4.toNatClampNeg v2)) 1) v4.toNatClampNeg v3)) 2) v4.toNatClampNeg v11))) H → va_S (rg_s 6 B s.heap.size) s.heap H locs → ∀ ls, lv_has ls 6 [(0, .ref (B 0)), (1, .int a1), (2, .int a2), (3, .int v14), (4, .int v15), (5, .int v4)] → gw p l e rm_X1_placeCells s m args below meth c none (fun H => va_P D vwCl (w1_s y B FF9 RR9) H) (rg_s 6 B s.heap.size) 0 0 H locs (F0 m 88 ls []) := by
              intro v14 v15 hm H locs hP hS ls hl
              unfold m1_placeCells_J88 at hm
              refine lv_iinc (v := (v4 + (1 : Int32))) (lv' := [(5, .int (v4 + (1 : Int32))), (0, .ref (B 0)), (1, .int a1), (2, .int a2), (3, .int v14), (4, .int v15)]) (cx_x X) (cx_b X) dX1_placeCells_88 hl (k := 5) rfl (by rfl) (by decide) rfl (fun ls hl => ?_)
              refine lv_goto (tgt := 8) (cx_x X) (cx_b X) dX1_placeCells_91 (by decide) ?_
              exact ih _ _ _ _ hm _ _ hP hS _ (lv_sub hl [1, 2, 3, 4, 5, 0] rfl)
            refine lv_icmp_ne (tgt := 88) (cx_x X) (cx_b X) dX1_placeCells_79 (by decide) (fun c17 => ?_) (fun c17 => ?_)
            · replace hm := if_F c17 hm
              exact Jt16 _ _ (by cases hm; exact hmt16) _ _ hP hS _ (lv_sub hl [1, 2, 3, 4, 0, 5] rfl)
            · replace hm := if_T c17 hm
              refine lv_iconst (v := (0 : Int32)) (cx_x X) (cx_b X) dX1_placeCells_82 (by decide) ?_
              refine lv_istore (lv' := [(4, .int (0 : Int32)), (0, .ref (B 0)), (1, .int a1), (2, .int a2), (3, .int v2), (5, .int v4)]) (cx_x X) (cx_b X) dX1_placeCells_83 hl (by decide) rfl (fun ls hl => ?_)
              refine lv_iinc (v := (v2 + (1 : Int32))) (lv' := [(3, .int (v2 + (1 : Int32))), (4, .int (0 : Int32)), (0, .ref (B 0)), (1, .int a1), (2, .int a2), (5, .int v4)]) (cx_x X) (cx_b X) dX1_placeCells_85 hl (k := 4) rfl (by rfl) (by decide) rfl (fun ls hl => ?_)
              exact Jt16 _ _ (by cases hm; exact hmt16) _ _ hP hS _ (lv_sub hl [2, 3, 4, 0, 1, 5] rfl)
          refine lv_icmp_ne (tgt := 63) (cx_x X) (cx_b X) dX1_placeCells_49 (by decide) (fun c18 => ?_) (fun c18 => ?_)
          · replace hm := if_F c18 hm
            refine lv_iload_n (cx_x X) (cx_b X) dX1_placeCells_63 rfl (lv_at hl 3 rfl) ?_
            refine lv_iconst (v := (3 : Int32)) (cx_x X) (cx_b X) dX1_placeCells_64 (by decide) ?_
            refine lv_iload (cx_x X) (cx_b X) dX1_placeCells_65 (lv_at hl 4 rfl) ?_
            refine lv_imul (cx_x X) (cx_b X) dX1_placeCells_67 ?_
            refine lv_iadd (cx_x X) (cx_b X) dX1_placeCells_68 ?_
            refine lv_bipush (v := (7 : Int32)) (cx_x X) (cx_b X) dX1_placeCells_69 (by decide) ?_
            refine lv_irem (cx_x X) (cx_b X) dX1_placeCells_71 (by decide) ?_
            exact Jt12 _ (by cases hm; exact hmt12) _ _ hP hS _ (lv_sub hl [0, 1, 2, 3, 4, 5] rfl)
          · replace hm := if_T c18 hm
            refine lv_iload_n (cx_x X) (cx_b X) dX1_placeCells_52 rfl (lv_at hl 3 rfl) ?_
            refine lv_iconst (v := (2 : Int32)) (cx_x X) (cx_b X) dX1_placeCells_53 (by decide) ?_
            refine lv_iload (cx_x X) (cx_b X) dX1_placeCells_54 (lv_at hl 4 rfl) ?_
            refine lv_imul (cx_x X) (cx_b X) dX1_placeCells_56 ?_
            refine lv_iadd (cx_x X) (cx_b X) dX1_placeCells_57 ?_
            refine lv_iconst (v := (3 : Int32)) (cx_x X) (cx_b X) dX1_placeCells_58 (by decide) ?_
            refine lv_irem (cx_x X) (cx_b X) dX1_placeCells_59 (by decide) ?_
            refine lv_goto (tgt := 72) (cx_x X) (cx_b X) dX1_placeCells_60 (by decide) ?_
            exact Jt12 _ (by cases hm; exact hmt12) _ _ hP hS _ (lv_sub hl [0, 1, 2, 3, 4, 5] rfl)
  exact Lt1 _ _ _ _ _ hm _ _ hP hS _ (lv_sub hl [3, 4, 5, 2, 1, 0] rfl)
/-! X2_occupy -/
def m2_occupy_J58 (F : (Nat → Int32)) (R5 : (Nat → Nat → Int32)) : Option ((Nat → Int32) × (Nat → Nat → Int32)) :=
  some (F, R5)
def m2_occupy_J21 (F : (Nat → Int32)) (R : (Nat → Nat → Int32)) (G : (Nat → Int32)) (Q : (Nat → Nat → Int32)) (a1 : Int32) (a2 : Int32) (v3 : Int32) : Option ((Nat → Int32) × (Nat → Nat → Int32)) :=
  (if a2 = (-9 : Int32) then
  some R
  else
  (m1_hasCell G Q v3).bind fun v9 =>
  if v9 = 0 then
  some R
  else
  if inb a1 60 then
  if inb v3 25 then
  if inb v3 25 then
  some (va_up (va_up R 1 (upd (R 1) a1.toNatClampNeg a2)) 3 (upd ((va_up R 1 (upd (R 1) a1.toNatClampNeg a2)) 3) v3.toNatClampNeg (((va_up R 1 (upd (R 1) a1.toNatClampNeg a2)) 3 v3.toNatClampNeg) ||| ((1 : Int32) <<< (a2 &&& 31))))) else none else none else none).bind fun R5 => m2_occupy_J58 F R5
def m2_occupy (F : (Nat → Int32)) (R : (Nat → Nat → Int32)) (G : (Nat → Int32)) (Q : (Nat → Nat → Int32)) (a1 : Int32) (a2 : Int32) : Option ((Nat → Int32) × (Nat → Nat → Int32)) :=
  (m4_isBetween a1 (0 : Int32) (59 : Int32)).bind fun v2 =>
  (if v2 = 0 then
  some (-9 : Int32)
  else
  if inb a1 60 then
  some (R 0 a1.toNatClampNeg) else none).bind fun v3 => m2_occupy_J21 F R G Q a1 a2 v3
abbrev rm_X2_occupy : Room := { frames := 1, cells := 0, slots := 0, locals := 22 }
set_option maxHeartbeats 4000000 in
set_option maxRecDepth 100000 in
theorem c_X2_occupy (l : Launch) (D : va_G) (y : Nat → ClassId) (A B : Nat → Nat) (F : (Nat → Int32)) (R : (Nat → Nat → Int32)) (G : (Nat → Int32)) (Q : (Nat → Nat → Int32)) (a1 : Int32) (a2 : Int32) (FF9 : (Nat → Int32)) (RR9 : (Nat → Nat → Int32)) (sz : Nat) (hI : aj_s 5 A) (hB : ax_s 5 A 6 B) (hm : m2_occupy F R G Q a1 a2 = some (FF9, RR9)) : Met l yX2_occupy (wy_s yX2_occupy cX2_occupy 4 none) rm_X2_occupy (pc_R D y [.ref (A 0), .int a1, .int a2] (fun H => H.size = sz ∧ va_P D vwCl (w2_s y (B 0) A F R) H ∧ va_P D vwCl (w1_s y B G Q) H)) (qc_W none (fun H => va_P D vwCl (w2_s y (B 0) A FF9 RR9) H) (rg_s 5 A sz)) 0 0 (rg_s 5 A sz) := by
  refine met_W (by decide) (Nat.le_of_ble_eq_true rfl) ?_
  intro p e s m args below meth c X hnm h0 ls hl
  obtain ⟨hsz, hP, hR1⟩ := h0
  subst hsz
  have hA := ap_of (sz := s.heap.size) hI
  have hN1 : ∀ q ∈ (w1_s y B G Q).map (fun q => q.1), ¬ rg_s 5 A s.heap.size q := ax_of hB (fun i hi => lt_of hR1 rfl i hi) rfl
  have hS : va_S (rg_s 5 A s.heap.size) s.heap s.heap [] := va_S.rf
  replace hl : lv_has ls 4 [(0, .ref (A 0)), (1, .int a1), (2, .int a2)] := hl
  replace X : cx p s m args meth c cX2_occupy 4 none RX2 D y := X
  unfold m2_occupy at hm
  refine lv_iload_n (cx_x X) (cx_b X) dX2_occupy_0 rfl (lv_at hl 1 rfl) ?_
  refine lv_iconst (v := (0 : Int32)) (cx_x X) (cx_b X) dX2_occupy_1 (by decide) ?_
  refine lv_bipush (v := (59 : Int32)) (cx_x X) (cx_b X) dX2_occupy_2 (by decide) ?_
  obtain ⟨v2, h1, hm⟩ := bnd hm
  refine af_R (rn_N (As := [.int a1, .int (0 : Int32), .int (59 : Int32)]) (rest := []) X (c_X4_isBetween l D y a1 (0 : Int32) (59 : Int32)  _ h1) nq_X2_106 ⟨rfl, rfl⟩ ⟨Nat.le_of_ble_eq_true rfl, Nat.le_of_ble_eq_true rfl⟩ trivial rfl hl.1 rfl (Nat.le_of_ble_eq_true rfl) dX2_occupy_4 ⟨Nat.le_of_ble_eq_true rfl, Nat.le_of_ble_eq_true rfl⟩) ?_
  obtain ⟨qt4, hm, hmt4⟩ := bnd hm
  have Jt4 : ∀ (v3 : Int32) , m2_occupy_J21 F R G Q a1 a2 v3 = some (FF9, RR9) → ∀ (H : Heap) (locs : List Loc), va_P D vwCl (w2_s y (B 0) A F R) H → va_S (rg_s 5 A s.heap.size) s.heap H locs → ∀ ls, lv_has ls 4 [(0, .ref (A 0)), (1, .int a1), (2, .int a2)] → gw p l e rm_X2_occupy s m args below meth c none (fun H => va_P D vwCl (w2_s y (B 0) A FF9 RR9) H) (rg_s 5 A s.heap.size) 0 0 H locs (F0 m 21 ls [.int v3]) := by
    intro v3 hm H locs hP hS ls hl
    unfold m2_occupy_J21 at hm
    refine lv_istore_n (lv' := [(3, .int v3), (0, .ref (A 0)), (1, .int a1), (2, .int a2)]) (cx_x X) (cx_b X) dX2_occupy_21 rfl hl (by decide) rfl (fun ls hl => ?_)
    refine lv_iload_n (cx_x X) (cx_b X) dX2_occupy_22 rfl (lv_at hl 3 rfl) ?_
    refine lv_bipush (v := (-9 : Int32)) (cx_x X) (cx_b X) dX2_occupy_23 (by decide) ?_
    obtain ⟨qt6, hm, hmt6⟩ := bnd hm
    have Jt6 : ∀ (R5 : (Nat → Nat → Int32)) , m2_occupy_J58 F R5 = some (FF9, RR9) → ∀ (H : Heap) (locs : List Loc), va_P D vwCl (w2_s y (B 0) A F R5) H → va_S (rg_s 5 A s.heap.size) s.heap H locs → ∀ ls, lv_has ls 4 [] → gw p l e rm_X2_occupy s m args below meth c none (fun H => va_P D vwCl (w2_s y (B 0) A FF9 RR9) H) (rg_s 5 A s.heap.size) 0 0 H locs (F0 m 58 ls []) := by
      intro R5 hm H locs hP hS ls hl
      unfold m2_occupy_J58 at hm
      obtain ⟨rfl, rfl⟩ := oc_2 hm
      exact gw_v X hS hP dX2_occupy_58
    refine lv_icmp_eq (tgt := 58) (cx_x X) (cx_b X) dX2_occupy_25 (by decide) (fun c7 => ?_) (fun c7 => ?_)
    · replace hm := if_T c7 hm
      exact Jt6 _ (by cases hm; exact hmt6) _ _ hP hS _ (lv_sub hl [] rfl)
    · replace hm := if_F c7 hm
      refine lv_aload_n (cx_x X) (cx_b X) dX2_occupy_28 rfl (lv_at hl 1 rfl) ?_
      refine gf_X2_32 X hP dX2_occupy_29 ?_
      refine lv_iload_n (cx_x X) (cx_b X) dX2_occupy_32 rfl (lv_at hl 0 rfl) ?_
      obtain ⟨v9, h8, hm⟩ := bnd hm
      refine af_R (rn_V (As := [.int v3]) (rest := []) X (c_X1_hasCell l D y B G Q v3  _ h8) vq_X2_91 ⟨rfl, rfl⟩ ⟨Nat.le_of_ble_eq_true rfl, Nat.le_of_ble_eq_true rfl⟩ (rec_1 X (ro_P hR1 hS hN1)) (ro_P hR1 hS hN1) rfl hl.1 rfl (Nat.le_of_ble_eq_true rfl) dX2_occupy_33 ⟨Nat.le_of_ble_eq_true rfl, Nat.le_of_ble_eq_true rfl⟩) ?_
      refine lv_if_eq (tgt := 58) (cx_x X) (cx_b X) dX2_occupy_36 (by decide) (fun c10 => ?_) (fun c10 => ?_)
      · replace hm := if_T c10 hm
        exact Jt6 _ (by cases hm; exact hmt6) _ _ hP hS _ (lv_sub hl [] rfl)
      · replace hm := if_F c10 hm
        refine lv_aload_n (cx_x X) (cx_b X) dX2_occupy_39 rfl (lv_at hl 1 rfl) ?_
        refine gf_X2_19 X hP dX2_occupy_40 ?_
        refine lv_iload_n (cx_x X) (cx_b X) dX2_occupy_43 rfl (lv_at hl 2 rfl) ?_
        refine lv_iload_n (cx_x X) (cx_b X) dX2_occupy_44 rfl (lv_at hl 3 rfl) ?_
        obtain ⟨h11, hm⟩ := ck_E hm
        refine st_2_1 X hP hA hS h11 dX2_occupy_45 (fun H locs hP hS => ?_)
        refine lv_aload_n (cx_x X) (cx_b X) dX2_occupy_46 rfl (lv_at hl 1 rfl) ?_
        refine gf_X2_25 X hP dX2_occupy_47 ?_
        refine lv_iload_n (cx_x X) (cx_b X) dX2_occupy_50 rfl (lv_at hl 0 rfl) ?_
        refine lv_dup2_11 (cx_x X) (cx_b X) dX2_occupy_51 rfl rfl ?_
        obtain ⟨h12, hm⟩ := ck_E hm
        refine ld_2_3 X hP h12 dX2_occupy_52 ?_
        refine lv_iconst (v := (1 : Int32)) (cx_x X) (cx_b X) dX2_occupy_53 (by decide) ?_
        refine lv_iload_n (cx_x X) (cx_b X) dX2_occupy_54 rfl (lv_at hl 3 rfl) ?_
        refine lv_ishl (cx_x X) (cx_b X) dX2_occupy_55 ?_
        refine lv_ior (cx_x X) (cx_b X) dX2_occupy_56 ?_
        obtain ⟨h13, hm⟩ := ck_E hm
        refine st_2_3 X hP hA hS h13 dX2_occupy_57 (fun H locs hP hS => ?_)
        exact Jt6 _ (by cases hm; exact hmt6) _ _ hP hS _ (lv_sub hl [] rfl)
  refine lv_if_eq (tgt := 19) (cx_x X) (cx_b X) dX2_occupy_7 (by decide) (fun c14 => ?_) (fun c14 => ?_)
  · replace hm := if_T c14 hm
    refine lv_bipush (v := (-9 : Int32)) (cx_x X) (cx_b X) dX2_occupy_19 (by decide) ?_
    exact Jt4 _ (by cases hm; exact hmt4) _ _ hP hS _ (lv_sub hl [0, 1, 2] rfl)
  · replace hm := if_F c14 hm
    refine lv_aload_n (cx_x X) (cx_b X) dX2_occupy_10 rfl (lv_at hl 0 rfl) ?_
    refine gf_X2_15 X hP dX2_occupy_11 ?_
    refine lv_iload_n (cx_x X) (cx_b X) dX2_occupy_14 rfl (lv_at hl 1 rfl) ?_
    obtain ⟨h15, hm⟩ := ck_E hm
    refine ld_2_0 X hP h15 dX2_occupy_15 ?_
    refine lv_goto (tgt := 21) (cx_x X) (cx_b X) dX2_occupy_16 (by decide) ?_
    exact Jt4 _ (by cases hm; exact hmt4) _ _ hP hS _ (lv_sub hl [0, 1, 2] rfl)
/-! X2_place -/
def m2_place_J41  (F3 : (Nat → Int32)) (R4 : (Nat → Nat → Int32)) : Option ((Nat → Int32) × (Nat → Nat → Int32)) :=
  some (F3, R4)
def m2_place (F : (Nat → Int32)) (R : (Nat → Nat → Int32)) (G : (Nat → Int32)) (Q : (Nat → Nat → Int32)) (a1 : Int32) (a2 : Int32) (a3 : Int32) : Option ((Nat → Int32) × (Nat → Nat → Int32)) :=
  (m4_isBetween a1 (0 : Int32) (59 : Int32)).bind fun v2 =>
  (if v2 = 0 then
  some (F, R)
  else
  if inb a1 60 then
  (m2_occupy F (va_up R 0 (upd (R 0) a1.toNatClampNeg a2)) G Q a1 a3).bind fun ⟨F9, R10⟩ =>
  (m2_borrows F9 R10 G Q a1).bind fun v12 =>
  if v12 = 0 then
  some (F9, R10)
  else
  some ((va_up F9 9 ((F9 9) + (1 : Int32))), R10) else none).bind fun ⟨F3, R4⟩ => m2_place_J41 F3 R4
abbrev rm_X2_place : Room := { frames := 3, cells := 0, slots := 0, locals := 65 }
set_option maxHeartbeats 4000000 in
set_option maxRecDepth 100000 in
theorem c_X2_place (l : Launch) (D : va_G) (y : Nat → ClassId) (A B : Nat → Nat) (F : (Nat → Int32)) (R : (Nat → Nat → Int32)) (G : (Nat → Int32)) (Q : (Nat → Nat → Int32)) (a1 : Int32) (a2 : Int32) (a3 : Int32) (FF9 : (Nat → Int32)) (RR9 : (Nat → Nat → Int32)) (sz : Nat) (hI : aj_s 5 A) (hB : ax_s 5 A 6 B) (hm : m2_place F R G Q a1 a2 a3 = some (FF9, RR9)) : Met l yX2_place (wy_s yX2_place cX2_place 4 none) rm_X2_place (pc_R D y [.ref (A 0), .int a1, .int a2, .int a3] (fun H => H.size = sz ∧ va_P D vwCl (w2_s y (B 0) A F R) H ∧ va_P D vwCl (w1_s y B G Q) H)) (qc_W none (fun H => va_P D vwCl (w2_s y (B 0) A FF9 RR9) H) (rg_s 5 A sz)) 0 0 (rg_s 5 A sz) := by
  refine met_W (by decide) (Nat.le_of_ble_eq_true rfl) ?_
  intro p e s m args below meth c X hnm h0 ls hl
  obtain ⟨hsz, hP, hR1⟩ := h0
  subst hsz
  have hA := ap_of (sz := s.heap.size) hI
  have hN1 : ∀ q ∈ (w1_s y B G Q).map (fun q => q.1), ¬ rg_s 5 A s.heap.size q := ax_of hB (fun i hi => lt_of hR1 rfl i hi) rfl
  have hS : va_S (rg_s 5 A s.heap.size) s.heap s.heap [] := va_S.rf
  replace hl : lv_has ls 4 [(0, .ref (A 0)), (1, .int a1), (2, .int a2), (3, .int a3)] := hl
  replace X : cx p s m args meth c cX2_place 4 none RX2 D y := X
  unfold m2_place at hm
  refine lv_iload_n (cx_x X) (cx_b X) dX2_place_0 rfl (lv_at hl 1 rfl) ?_
  refine lv_iconst (v := (0 : Int32)) (cx_x X) (cx_b X) dX2_place_1 (by decide) ?_
  refine lv_bipush (v := (59 : Int32)) (cx_x X) (cx_b X) dX2_place_2 (by decide) ?_
  obtain ⟨v2, h1, hm⟩ := bnd hm
  refine af_R (rn_N (As := [.int a1, .int (0 : Int32), .int (59 : Int32)]) (rest := []) X (c_X4_isBetween l D y a1 (0 : Int32) (59 : Int32)  _ h1) nq_X2_106 ⟨rfl, rfl⟩ ⟨Nat.le_of_ble_eq_true rfl, Nat.le_of_ble_eq_true rfl⟩ trivial rfl hl.1 rfl (Nat.le_of_ble_eq_true rfl) dX2_place_4 ⟨Nat.le_of_ble_eq_true rfl, Nat.le_of_ble_eq_true rfl⟩) ?_
  obtain ⟨qt5, hm, hmt5⟩ := bnd hm
  have Jt5 : ∀ (F3 : (Nat → Int32)) (R4 : (Nat → Nat → Int32)) , m2_place_J41 F3 R4 = some (FF9, RR9) → ∀ (H : Heap) (locs : List Loc), va_P D vwCl (w2_s y (B 0) A F3 R4) H → va_S (rg_s 5 A s.heap.size) s.heap H locs → ∀ ls, lv_has ls 4 [] → gw p l e rm_X2_place s m args below meth c none (fun H => va_P D vwCl (w2_s y (B 0) A FF9 RR9) H) (rg_s 5 A s.heap.size) 0 0 H locs (F0 m 41 ls []) := by
    intro F3 R4 hm H locs hP hS ls hl
    unfold m2_place_J41 at hm
    obtain ⟨rfl, rfl⟩ := oc_2 hm
    exact gw_v X hS hP dX2_place_41
  refine lv_if_eq (tgt := 41) (cx_x X) (cx_b X) dX2_place_7 (by decide) (fun c6 => ?_) (fun c6 => ?_)
  · replace hm := if_T c6 hm
    exact Jt5 _ _ (by cases hm; exact hmt5) _ _ hP hS _ (lv_sub hl [] rfl)
  · replace hm := if_F c6 hm
    refine lv_aload_n (cx_x X) (cx_b X) dX2_place_10 rfl (lv_at hl 0 rfl) ?_
    refine gf_X2_15 X hP dX2_place_11 ?_
    refine lv_iload_n (cx_x X) (cx_b X) dX2_place_14 rfl (lv_at hl 1 rfl) ?_
    refine lv_iload_n (cx_x X) (cx_b X) dX2_place_15 rfl (lv_at hl 2 rfl) ?_
    obtain ⟨h7, hm⟩ := ck_E hm
    refine st_2_0 X hP hA hS h7 dX2_place_16 (fun H locs hP hS => ?_)
    refine lv_aload_n (cx_x X) (cx_b X) dX2_place_17 rfl (lv_at hl 0 rfl) ?_
    refine lv_iload_n (cx_x X) (cx_b X) dX2_place_18 rfl (lv_at hl 1 rfl) ?_
    refine lv_iload_n (cx_x X) (cx_b X) dX2_place_19 rfl (lv_at hl 3 rfl) ?_
    obtain ⟨⟨F9, R10⟩, h8, hm⟩ := bnd hm
    try dsimp only at hm
    refine af_W (mc := 0) (ms := 0) (rn_V (As := [.int a1, .int a3]) (rest := []) X (c_X2_occupy l D y A B F (va_up R 0 (upd (R 0) a1.toNatClampNeg a2)) G Q a1 a3 F9 R10 _ hI hB h8) vq_X2_129 ⟨rfl, rfl⟩ ⟨Nat.le_of_ble_eq_true rfl, Nat.le_of_ble_eq_true rfl⟩ (rec_2 X hP) ⟨rfl, hP, (ro_P hR1 hS hN1)⟩ rfl hl.1 rfl (Nat.le_of_ble_eq_true rfl) dX2_place_20 ⟨Nat.le_of_ble_eq_true rfl, Nat.le_of_ble_eq_true rfl⟩) hS (rg_up hS.1) (fun H locs hP _ _ hS => ?_)
    refine lv_aload_n (cx_x X) (cx_b X) dX2_place_23 rfl (lv_at hl 0 rfl) ?_
    refine lv_iload_n (cx_x X) (cx_b X) dX2_place_24 rfl (lv_at hl 1 rfl) ?_
    obtain ⟨v12, h11, hm⟩ := bnd hm
    refine af_R (rn_V (As := [.int a1]) (rest := []) X (c_X2_borrows l D y A B F9 R10 G Q a1  _ h11) vq_X2_133 ⟨rfl, rfl⟩ ⟨Nat.le_of_ble_eq_true rfl, Nat.le_of_ble_eq_true rfl⟩ (rec_2 X hP) ⟨hP, (ro_P hR1 hS hN1)⟩ rfl hl.1 rfl (Nat.le_of_ble_eq_true rfl) dX2_place_25 ⟨Nat.le_of_ble_eq_true rfl, Nat.le_of_ble_eq_true rfl⟩) ?_
    refine lv_if_eq (tgt := 41) (cx_x X) (cx_b X) dX2_place_28 (by decide) (fun c13 => ?_) (fun c13 => ?_)
    · replace hm := if_T c13 hm
      exact Jt5 _ _ (by cases hm; exact hmt5) _ _ hP hS _ (lv_sub hl [] rfl)
    · replace hm := if_F c13 hm
      refine lv_aload_n (cx_x X) (cx_b X) dX2_place_31 rfl (lv_at hl 0 rfl) ?_
      refine lv_dup (cx_x X) (cx_b X) dX2_place_32 rfl ?_
      refine gf_X2_52 X hP dX2_place_33 ?_
      refine lv_iconst (v := (1 : Int32)) (cx_x X) (cx_b X) dX2_place_36 (by decide) ?_
      refine lv_iadd (cx_x X) (cx_b X) dX2_place_37 ?_
      refine pf_X2_52 X hP hA hS dX2_place_38 (fun H locs hP hS => ?_)
      exact Jt5 _ _ (by cases hm; exact hmt5) _ _ hP hS _ (lv_sub hl [] rfl)
/-! X2_start -/
def m2_start_J52 (R : (Nat → Nat → Int32)) (G : (Nat → Int32)) (Q : (Nat → Nat → Int32)) (a1 : Int32) (v2 : Int32) (v4 : Int32) (F7 : (Nat → Int32)) : Option (Int32 × (Nat → Int32) × (Nat → Nat → Int32)) :=
  (m2_lowestFreeNumber F7 R G Q).bind fun v10 =>
  (m4_isBetween v10 (0 : Int32) (59 : Int32)).bind fun v12 =>
  if v12 = 0 then
  some ((-9 : Int32), F7, R)
  else
  if v2 = (-9 : Int32) then
  if v4 = 0 then
  some ((-9 : Int32), F7, R)
  else
  (m4_asNumber v4).bind fun v23 =>
  if inb v10 60 then
  (m2_place F7 (va_up R 2 (upd (R 2) v10.toNatClampNeg v23)) G Q v10 a1 v2).bind fun ⟨F26, R27⟩ =>
  some (v10, F26, R27) else none
  else
  (m4_asNumber v4).bind fun v16 =>
  if inb v10 60 then
  (m2_place F7 (va_up R 2 (upd (R 2) v10.toNatClampNeg v16)) G Q v10 a1 v2).bind fun ⟨F19, R20⟩ =>
  some (v10, F19, R20) else none
def m2_start_J38 (R : (Nat → Nat → Int32)) (G : (Nat → Int32)) (Q : (Nat → Nat → Int32)) (a1 : Int32) (v2 : Int32) (v4 : Int32) (F5 : (Nat → Int32)) : Option (Int32 × (Nat → Int32) × (Nat → Nat → Int32)) :=
  (if v4 = 0 then
  some (va_up F5 6 ((F5 6) + (1 : Int32)))
  else
  some F5).bind fun F7 => m2_start_J52 R G Q a1 v2 v4 F7
def m2_start (F : (Nat → Int32)) (R : (Nat → Nat → Int32)) (G : (Nat → Int32)) (Q : (Nat → Nat → Int32)) (a1 : Int32) : Option (Int32 × (Nat → Int32) × (Nat → Nat → Int32)) :=
  (m2_chooseChannel F R G Q a1).bind fun v2 =>
  (m2_fixedAccepts F R G Q a1).bind fun v4 =>
  (if v2 = (-9 : Int32) then
  some (va_up (va_up F 4 ((F 4) + (1 : Int32))) 5 (((va_up F 4 ((F 4) + (1 : Int32))) 5) + (1 : Int32)))
  else
  some (va_up F 4 ((F 4) + (1 : Int32)))).bind fun F5 => m2_start_J38 R G Q a1 v2 v4 F5
abbrev rm_X2_start : Room := { frames := 5, cells := 0, slots := 0, locals := 121 }
set_option maxHeartbeats 4000000 in
set_option maxRecDepth 100000 in
theorem c_X2_start (l : Launch) (D : va_G) (y : Nat → ClassId) (A B : Nat → Nat) (F : (Nat → Int32)) (R : (Nat → Nat → Int32)) (G : (Nat → Int32)) (Q : (Nat → Nat → Int32)) (a1 : Int32) (rr9 : Int32) (FF9 : (Nat → Int32)) (RR9 : (Nat → Nat → Int32)) (sz : Nat) (hI : aj_s 5 A) (hB : ax_s 5 A 6 B) (hm : m2_start F R G Q a1 = some (rr9, FF9, RR9)) : Met l yX2_start (wy_s yX2_start cX2_start 5 (some .int)) rm_X2_start (pc_R D y [.ref (A 0), .int a1] (fun H => H.size = sz ∧ va_P D vwCl (w2_s y (B 0) A F R) H ∧ va_P D vwCl (w1_s y B G Q) H)) (qc_W (some (.int rr9)) (fun H => va_P D vwCl (w2_s y (B 0) A FF9 RR9) H) (rg_s 5 A sz)) 0 0 (rg_s 5 A sz) := by
  refine met_W (by decide) (Nat.le_of_ble_eq_true rfl) ?_
  intro p e s m args below meth c X hnm h0 ls hl
  obtain ⟨hsz, hP, hR1⟩ := h0
  subst hsz
  have hA := ap_of (sz := s.heap.size) hI
  have hN1 : ∀ q ∈ (w1_s y B G Q).map (fun q => q.1), ¬ rg_s 5 A s.heap.size q := ax_of hB (fun i hi => lt_of hR1 rfl i hi) rfl
  have hS : va_S (rg_s 5 A s.heap.size) s.heap s.heap [] := va_S.rf
  replace hl : lv_has ls 5 [(0, .ref (A 0)), (1, .int a1)] := hl
  replace X : cx p s m args meth c cX2_start 5 (some .int) RX2 D y := X
  unfold m2_start at hm
  refine lv_aload_n (cx_x X) (cx_b X) dX2_start_0 rfl (lv_at hl 0 rfl) ?_
  refine lv_iload_n (cx_x X) (cx_b X) dX2_start_1 rfl (lv_at hl 1 rfl) ?_
  obtain ⟨v2, h1, hm⟩ := bnd hm
  refine af_R (rn_V (As := [.int a1]) (rest := []) X (c_X2_chooseChannel l D y A B F R G Q a1  _ h1) vq_X2_100 ⟨rfl, rfl⟩ ⟨Nat.le_of_ble_eq_true rfl, Nat.le_of_ble_eq_true rfl⟩ (rec_2 X hP) ⟨hP, (ro_P hR1 hS hN1)⟩ rfl hl.1 rfl (Nat.le_of_ble_eq_true rfl) dX2_start_2 ⟨Nat.le_of_ble_eq_true rfl, Nat.le_of_ble_eq_true rfl⟩) ?_
  refine lv_istore_n (lv' := [(2, .int v2), (0, .ref (A 0)), (1, .int a1)]) (cx_x X) (cx_b X) dX2_start_5 rfl hl (by decide) rfl (fun ls hl => ?_)
  refine lv_aload_n (cx_x X) (cx_b X) dX2_start_6 rfl (lv_at hl 1 rfl) ?_
  refine lv_iload_n (cx_x X) (cx_b X) dX2_start_7 rfl (lv_at hl 2 rfl) ?_
  obtain ⟨v4, h3, hm⟩ := bnd hm
  refine af_R (rn_V (As := [.int a1]) (rest := []) X (c_X2_fixedAccepts l D y A B F R G Q a1  _ h3) vq_X2_103 ⟨rfl, rfl⟩ ⟨Nat.le_of_ble_eq_true rfl, Nat.le_of_ble_eq_true rfl⟩ (rec_2 X hP) ⟨hP, (ro_P hR1 hS hN1)⟩ rfl hl.1 rfl (Nat.le_of_ble_eq_true rfl) dX2_start_8 ⟨Nat.le_of_ble_eq_true rfl, Nat.le_of_ble_eq_true rfl⟩) ?_
  refine lv_istore_n (lv' := [(3, .int v4), (2, .int v2), (0, .ref (A 0)), (1, .int a1)]) (cx_x X) (cx_b X) dX2_start_11 rfl hl (by decide) rfl (fun ls hl => ?_)
  refine lv_aload_n (cx_x X) (cx_b X) dX2_start_12 rfl (lv_at hl 2 rfl) ?_
  refine lv_dup (cx_x X) (cx_b X) dX2_start_13 rfl ?_
  refine gf_X2_36 X hP dX2_start_14 ?_
  refine lv_iconst (v := (1 : Int32)) (cx_x X) (cx_b X) dX2_start_17 (by decide) ?_
  refine lv_iadd (cx_x X) (cx_b X) dX2_start_18 ?_
  refine pf_X2_36 X hP hA hS dX2_start_19 (fun H locs hP hS => ?_)
  refine lv_iload_n (cx_x X) (cx_b X) dX2_start_22 rfl (lv_at hl 1 rfl) ?_
  refine lv_bipush (v := (-9 : Int32)) (cx_x X) (cx_b X) dX2_start_23 (by decide) ?_
  obtain ⟨qt6, hm, hmt6⟩ := bnd hm
  have Jt6 : ∀ (F5 : (Nat → Int32)) , m2_start_J38 R G Q a1 v2 v4 F5 = some (rr9, FF9, RR9) → ∀ (H : Heap) (locs : List Loc), va_P D vwCl (w2_s y (B 0) A F5 R) H → va_S (rg_s 5 A s.heap.size) s.heap H locs → ∀ ls, lv_has ls 5 [(0, .ref (A 0)), (1, .int a1), (2, .int v2), (3, .int v4)] → gw p l e rm_X2_start s m args below meth c (some (.int rr9)) (fun H => va_P D vwCl (w2_s y (B 0) A FF9 RR9) H) (rg_s 5 A s.heap.size) 0 0 H locs (F0 m 38 ls []) := by
    intro F5 hm H locs hP hS ls hl
    unfold m2_start_J38 at hm
    refine lv_iload_n (cx_x X) (cx_b X) dX2_start_38 rfl (lv_at hl 3 rfl) ?_
    obtain ⟨qt8, hm, hmt8⟩ := bnd hm
    have Jt8 : ∀ (F7 : (Nat → Int32)) , m2_start_J52 R G Q a1 v2 v4 F7 = some (rr9, FF9, RR9) → ∀ (H : Heap) (locs : List Loc), va_P D vwCl (w2_s y (B 0) A F7 R) H → va_S (rg_s 5 A s.heap.size) s.heap H locs → ∀ ls, lv_has ls 5 [(0, .ref (A 0)), (1, .int a1), (2, .int v2), (3, .int v4)] → gw p l e rm_X2_start s m args below meth c (some (.int rr9)) (fun H => va_P D vwCl (w2_s y (B 0) A FF9 RR9) H) (rg_s 5 A s.heap.size) 0 0 H locs (F0 m 52 ls []) := by
      intro F7 hm H locs hP hS ls hl
      unfold m2_start_J52 at hm
      refine lv_aload_n (cx_x X) (cx_b X) dX2_start_52 rfl (lv_at hl 0 rfl) ?_
      obtain ⟨v10, h9, hm⟩ := bnd hm
      refine af_R (rn_V (As := []) (rest := []) X (c_X2_lowestFreeNumber l D y A B F7 R G Q  _ h9) vq_X2_96 ⟨rfl, rfl⟩ ⟨Nat.le_of_ble_eq_true rfl, Nat.le_of_ble_eq_true rfl⟩ (rec_2 X hP) ⟨hP, (ro_P hR1 hS hN1)⟩ rfl hl.1 rfl (Nat.le_of_ble_eq_true rfl) dX2_start_53 ⟨Nat.le_of_ble_eq_true rfl, Nat.le_of_ble_eq_true rfl⟩) ?_
      refine lv_istore (lv' := [(4, .int v10), (0, .ref (A 0)), (1, .int a1), (2, .int v2), (3, .int v4)]) (cx_x X) (cx_b X) dX2_start_56 hl (by decide) rfl (fun ls hl => ?_)
      refine lv_iload (cx_x X) (cx_b X) dX2_start_58 (lv_at hl 0 rfl) ?_
      refine lv_iconst (v := (0 : Int32)) (cx_x X) (cx_b X) dX2_start_60 (by decide) ?_
      refine lv_bipush (v := (59 : Int32)) (cx_x X) (cx_b X) dX2_start_61 (by decide) ?_
      obtain ⟨v12, h11, hm⟩ := bnd hm
      refine af_R (rn_N (As := [.int v10, .int (0 : Int32), .int (59 : Int32)]) (rest := []) X (c_X4_isBetween l D y v10 (0 : Int32) (59 : Int32)  _ h11) nq_X2_106 ⟨rfl, rfl⟩ ⟨Nat.le_of_ble_eq_true rfl, Nat.le_of_ble_eq_true rfl⟩ trivial rfl hl.1 rfl (Nat.le_of_ble_eq_true rfl) dX2_start_63 ⟨Nat.le_of_ble_eq_true rfl, Nat.le_of_ble_eq_true rfl⟩) ?_
      refine lv_if_eq (tgt := 79) (cx_x X) (cx_b X) dX2_start_66 (by decide) (fun c13 => ?_) (fun c13 => ?_)
      · replace hm := if_T c13 hm
        refine lv_bipush (v := (-9 : Int32)) (cx_x X) (cx_b X) dX2_start_79 (by decide) ?_
        obtain ⟨rfl, rfl, rfl⟩ := oc_3 hm
        exact gw_i X hS hP dX2_start_81
      · replace hm := if_F c13 hm
        refine lv_iload_n (cx_x X) (cx_b X) dX2_start_69 rfl (lv_at hl 3 rfl) ?_
        refine lv_bipush (v := (-9 : Int32)) (cx_x X) (cx_b X) dX2_start_70 (by decide) ?_
        refine lv_icmp_ne (tgt := 82) (cx_x X) (cx_b X) dX2_start_72 (by decide) (fun c14 => ?_) (fun c14 => ?_)
        · replace hm := if_F c14 hm
          refine lv_aload_n (cx_x X) (cx_b X) dX2_start_82 rfl (lv_at hl 1 rfl) ?_
          refine gf_X2_22 X hP dX2_start_83 ?_
          refine lv_iload (cx_x X) (cx_b X) dX2_start_86 (lv_at hl 0 rfl) ?_
          refine lv_iload_n (cx_x X) (cx_b X) dX2_start_88 rfl (lv_at hl 4 rfl) ?_
          obtain ⟨v16, h15, hm⟩ := bnd hm
          refine af_R (rn_N (As := [.int v4]) (rest := [.int v10, .ref (A 3)]) X (c_X4_asNumber l D y v4  _ h15) nq_X2_110 ⟨rfl, rfl⟩ ⟨Nat.le_of_ble_eq_true rfl, Nat.le_of_ble_eq_true rfl⟩ trivial rfl hl.1 rfl (Nat.le_of_ble_eq_true rfl) dX2_start_89 ⟨Nat.le_of_ble_eq_true rfl, Nat.le_of_ble_eq_true rfl⟩) ?_
          obtain ⟨h17, hm⟩ := ck_E hm
          refine st_2_2 X hP hA hS h17 dX2_start_92 (fun H locs hP hS => ?_)
          refine lv_aload_n (cx_x X) (cx_b X) dX2_start_93 rfl (lv_at hl 1 rfl) ?_
          refine lv_iload (cx_x X) (cx_b X) dX2_start_94 (lv_at hl 0 rfl) ?_
          refine lv_iload_n (cx_x X) (cx_b X) dX2_start_96 rfl (lv_at hl 2 rfl) ?_
          refine lv_iload_n (cx_x X) (cx_b X) dX2_start_97 rfl (lv_at hl 3 rfl) ?_
          obtain ⟨⟨F19, R20⟩, h18, hm⟩ := bnd hm
          try dsimp only at hm
          refine af_W (mc := 0) (ms := 0) (rn_V (As := [.int v10, .int a1, .int v2]) (rest := []) X (c_X2_place l D y A B F7 (va_up R 2 (upd (R 2) v10.toNatClampNeg v16)) G Q v10 a1 v2 F19 R20 _ hI hB h18) vq_X2_114 ⟨rfl, rfl⟩ ⟨Nat.le_of_ble_eq_true rfl, Nat.le_of_ble_eq_true rfl⟩ (rec_2 X hP) ⟨rfl, hP, (ro_P hR1 hS hN1)⟩ rfl hl.1 rfl (Nat.le_of_ble_eq_true rfl) dX2_start_98 ⟨Nat.le_of_ble_eq_true rfl, Nat.le_of_ble_eq_true rfl⟩) hS (rg_up hS.1) (fun H locs hP _ _ hS => ?_)
          refine lv_iload (cx_x X) (cx_b X) dX2_start_101 (lv_at hl 0 rfl) ?_
          obtain ⟨rfl, rfl, rfl⟩ := oc_3 hm
          exact gw_i X hS hP dX2_start_103
        · replace hm := if_T c14 hm
          refine lv_iload_n (cx_x X) (cx_b X) dX2_start_75 rfl (lv_at hl 4 rfl) ?_
          refine lv_if_ne (tgt := 82) (cx_x X) (cx_b X) dX2_start_76 (by decide) (fun c21 => ?_) (fun c21 => ?_)
          · replace hm := if_F c21 hm
            refine lv_aload_n (cx_x X) (cx_b X) dX2_start_82 rfl (lv_at hl 1 rfl) ?_
            refine gf_X2_22 X hP dX2_start_83 ?_
            refine lv_iload (cx_x X) (cx_b X) dX2_start_86 (lv_at hl 0 rfl) ?_
            refine lv_iload_n (cx_x X) (cx_b X) dX2_start_88 rfl (lv_at hl 4 rfl) ?_
            obtain ⟨v23, h22, hm⟩ := bnd hm
            refine af_R (rn_N (As := [.int v4]) (rest := [.int v10, .ref (A 3)]) X (c_X4_asNumber l D y v4  _ h22) nq_X2_110 ⟨rfl, rfl⟩ ⟨Nat.le_of_ble_eq_true rfl, Nat.le_of_ble_eq_true rfl⟩ trivial rfl hl.1 rfl (Nat.le_of_ble_eq_true rfl) dX2_start_89 ⟨Nat.le_of_ble_eq_true rfl, Nat.le_of_ble_eq_true rfl⟩) ?_
            obtain ⟨h24, hm⟩ := ck_E hm
            refine st_2_2 X hP hA hS h24 dX2_start_92 (fun H locs hP hS => ?_)
            refine lv_aload_n (cx_x X) (cx_b X) dX2_start_93 rfl (lv_at hl 1 rfl) ?_
            refine lv_iload (cx_x X) (cx_b X) dX2_start_94 (lv_at hl 0 rfl) ?_
            refine lv_iload_n (cx_x X) (cx_b X) dX2_start_96 rfl (lv_at hl 2 rfl) ?_
            refine lv_iload_n (cx_x X) (cx_b X) dX2_start_97 rfl (lv_at hl 3 rfl) ?_
            obtain ⟨⟨F26, R27⟩, h25, hm⟩ := bnd hm
            try dsimp only at hm
            refine af_W (mc := 0) (ms := 0) (rn_V (As := [.int v10, .int a1, .int v2]) (rest := []) X (c_X2_place l D y A B F7 (va_up R 2 (upd (R 2) v10.toNatClampNeg v23)) G Q v10 a1 v2 F26 R27 _ hI hB h25) vq_X2_114 ⟨rfl, rfl⟩ ⟨Nat.le_of_ble_eq_true rfl, Nat.le_of_ble_eq_true rfl⟩ (rec_2 X hP) ⟨rfl, hP, (ro_P hR1 hS hN1)⟩ rfl hl.1 rfl (Nat.le_of_ble_eq_true rfl) dX2_start_98 ⟨Nat.le_of_ble_eq_true rfl, Nat.le_of_ble_eq_true rfl⟩) hS (rg_up hS.1) (fun H locs hP _ _ hS => ?_)
            refine lv_iload (cx_x X) (cx_b X) dX2_start_101 (lv_at hl 0 rfl) ?_
            obtain ⟨rfl, rfl, rfl⟩ := oc_3 hm
            exact gw_i X hS hP dX2_start_103
          · replace hm := if_T c21 hm
            refine lv_bipush (v := (-9 : Int32)) (cx_x X) (cx_b X) dX2_start_79 (by decide) ?_
            obtain ⟨rfl, rfl, rfl⟩ := oc_3 hm
            exact gw_i X hS hP dX2_start_81
    refine lv_if_ne (tgt := 52) (cx_x X) (cx_b X) dX2_start_39 (by decide) (fun c28 => ?_) (fun c28 => ?_)
    · replace hm := if_F c28 hm
      exact Jt8 _ (by cases hm; exact hmt8) _ _ hP hS _ (lv_sub hl [0, 1, 2, 3] rfl)
    · replace hm := if_T c28 hm
      refine lv_aload_n (cx_x X) (cx_b X) dX2_start_42 rfl (lv_at hl 0 rfl) ?_
      refine lv_dup (cx_x X) (cx_b X) dX2_start_43 rfl ?_
      refine gf_X2_43 X hP dX2_start_44 ?_
      refine lv_iconst (v := (1 : Int32)) (cx_x X) (cx_b X) dX2_start_47 (by decide) ?_
      refine lv_iadd (cx_x X) (cx_b X) dX2_start_48 ?_
      refine pf_X2_43 X hP hA hS dX2_start_49 (fun H locs hP hS => ?_)
      exact Jt8 _ (by cases hm; exact hmt8) _ _ hP hS _ (lv_sub hl [0, 1, 2, 3] rfl)
  refine lv_icmp_ne (tgt := 38) (cx_x X) (cx_b X) dX2_start_25 (by decide) (fun c29 => ?_) (fun c29 => ?_)
  · replace hm := if_F c29 hm
    exact Jt6 _ (by cases hm; exact hmt6) _ _ hP hS _ (lv_sub hl [2, 3, 1, 0] rfl)
  · replace hm := if_T c29 hm
    refine lv_aload_n (cx_x X) (cx_b X) dX2_start_28 rfl (lv_at hl 2 rfl) ?_
    refine lv_dup (cx_x X) (cx_b X) dX2_start_29 rfl ?_
    refine gf_X2_40 X hP dX2_start_30 ?_
    refine lv_iconst (v := (1 : Int32)) (cx_x X) (cx_b X) dX2_start_33 (by decide) ?_
    refine lv_iadd (cx_x X) (cx_b X) dX2_start_34 ?_
    refine pf_X2_40 X hP hA hS dX2_start_35 (fun H locs hP hS => ?_)
    exact Jt6 _ (by cases hm; exact hmt6) _ _ hP hS _ (lv_sub hl [2, 3, 1, 0] rfl)
/-! X2_release -/
def m2_release_J65 (F : (Nat → Int32)) (R9 : (Nat → Nat → Int32)) : Option ((Nat → Int32) × (Nat → Nat → Int32)) :=
  some (F, R9)
def m2_release (F : (Nat → Int32)) (R : (Nat → Nat → Int32)) (G : (Nat → Int32)) (Q : (Nat → Nat → Int32)) (a1 : Int32) : Option ((Nat → Int32) × (Nat → Nat → Int32)) :=
  (m2_isPresent F R G Q a1).bind fun v2 =>
  if v2 = 0 then
  some (F, R)
  else
  if inb a1 60 then
  if (R 1 a1.toNatClampNeg) = (-9 : Int32) then
  some (F, R)
  else
  if inb a1 60 then
  (m1_hasCell G Q (R 0 a1.toNatClampNeg)).bind fun v8 =>
  (if v8 = 0 then
  some R
  else
  if inb (R 0 a1.toNatClampNeg) 25 then
  if inb a1 60 then
  if inb (R 0 a1.toNatClampNeg) 25 then
  if inb a1 60 then
  some (va_up (va_up R 3 (upd (R 3) (R 0 a1.toNatClampNeg).toNatClampNeg ((R 3 (R 0 a1.toNatClampNeg).toNatClampNeg) &&& (((1 : Int32) <<< ((R 1 a1.toNatClampNeg) &&& 31)) ^^^ (-1 : Int32))))) 1 (upd ((va_up R 3 (upd (R 3) (R 0 a1.toNatClampNeg).toNatClampNeg ((R 3 (R 0 a1.toNatClampNeg).toNatClampNeg) &&& (((1 : Int32) <<< ((R 1 a1.toNatClampNeg) &&& 31)) ^^^ (-1 : Int32))))) 1) a1.toNatClampNeg (-9 : Int32))) else none else none else none else none).bind fun R9 => m2_release_J65 F R9 else none else none
abbrev rm_X2_release : Room := { frames := 1, cells := 0, slots := 0, locals := 21 }
set_option maxHeartbeats 4000000 in
set_option maxRecDepth 100000 in
theorem c_X2_release (l : Launch) (D : va_G) (y : Nat → ClassId) (A B : Nat → Nat) (F : (Nat → Int32)) (R : (Nat → Nat → Int32)) (G : (Nat → Int32)) (Q : (Nat → Nat → Int32)) (a1 : Int32) (FF9 : (Nat → Int32)) (RR9 : (Nat → Nat → Int32)) (sz : Nat) (hI : aj_s 5 A) (hB : ax_s 5 A 6 B) (hm : m2_release F R G Q a1 = some (FF9, RR9)) : Met l yX2_release (wy_s yX2_release cX2_release 3 none) rm_X2_release (pc_R D y [.ref (A 0), .int a1] (fun H => H.size = sz ∧ va_P D vwCl (w2_s y (B 0) A F R) H ∧ va_P D vwCl (w1_s y B G Q) H)) (qc_W none (fun H => va_P D vwCl (w2_s y (B 0) A FF9 RR9) H) (rg_s 5 A sz)) 0 0 (rg_s 5 A sz) := by
  refine met_W (by decide) (Nat.le_of_ble_eq_true rfl) ?_
  intro p e s m args below meth c X hnm h0 ls hl
  obtain ⟨hsz, hP, hR1⟩ := h0
  subst hsz
  have hA := ap_of (sz := s.heap.size) hI
  have hN1 : ∀ q ∈ (w1_s y B G Q).map (fun q => q.1), ¬ rg_s 5 A s.heap.size q := ax_of hB (fun i hi => lt_of hR1 rfl i hi) rfl
  have hS : va_S (rg_s 5 A s.heap.size) s.heap s.heap [] := va_S.rf
  replace hl : lv_has ls 3 [(0, .ref (A 0)), (1, .int a1)] := hl
  replace X : cx p s m args meth c cX2_release 3 none RX2 D y := X
  unfold m2_release at hm
  refine lv_aload_n (cx_x X) (cx_b X) dX2_release_0 rfl (lv_at hl 0 rfl) ?_
  refine lv_iload_n (cx_x X) (cx_b X) dX2_release_1 rfl (lv_at hl 1 rfl) ?_
  obtain ⟨v2, h1, hm⟩ := bnd hm
  refine af_R (rn_V (As := [.int a1]) (rest := []) X (c_X2_isPresent l D y A B F R G Q a1  _ h1) vq_X2_76 ⟨rfl, rfl⟩ ⟨Nat.le_of_ble_eq_true rfl, Nat.le_of_ble_eq_true rfl⟩ (rec_2 X hP) ⟨hP, (ro_P hR1 hS hN1)⟩ rfl hl.1 rfl (Nat.le_of_ble_eq_true rfl) dX2_release_2 ⟨Nat.le_of_ble_eq_true rfl, Nat.le_of_ble_eq_true rfl⟩) ?_
  refine lv_if_eq (tgt := 19) (cx_x X) (cx_b X) dX2_release_5 (by decide) (fun c3 => ?_) (fun c3 => ?_)
  · replace hm := if_T c3 hm
    obtain ⟨rfl, rfl⟩ := oc_2 hm
    exact gw_v X hS hP dX2_release_19
  · replace hm := if_F c3 hm
    refine lv_aload_n (cx_x X) (cx_b X) dX2_release_8 rfl (lv_at hl 0 rfl) ?_
    refine gf_X2_19 X hP dX2_release_9 ?_
    refine lv_iload_n (cx_x X) (cx_b X) dX2_release_12 rfl (lv_at hl 1 rfl) ?_
    obtain ⟨h4, hm⟩ := ck_E hm
    refine ld_2_1 X hP h4 dX2_release_13 ?_
    refine lv_bipush (v := (-9 : Int32)) (cx_x X) (cx_b X) dX2_release_14 (by decide) ?_
    refine lv_icmp_ne (tgt := 20) (cx_x X) (cx_b X) dX2_release_16 (by decide) (fun c5 => ?_) (fun c5 => ?_)
    · replace hm := if_F c5 hm
      refine lv_aload_n (cx_x X) (cx_b X) dX2_release_20 rfl (lv_at hl 0 rfl) ?_
      refine gf_X2_15 X hP dX2_release_21 ?_
      refine lv_iload_n (cx_x X) (cx_b X) dX2_release_24 rfl (lv_at hl 1 rfl) ?_
      obtain ⟨h6, hm⟩ := ck_E hm
      refine ld_2_0 X hP h6 dX2_release_25 ?_
      refine lv_istore_n (lv' := [(2, .int (R 0 a1.toNatClampNeg)), (0, .ref (A 0)), (1, .int a1)]) (cx_x X) (cx_b X) dX2_release_26 rfl hl (by decide) rfl (fun ls hl => ?_)
      refine lv_aload_n (cx_x X) (cx_b X) dX2_release_27 rfl (lv_at hl 1 rfl) ?_
      refine gf_X2_32 X hP dX2_release_28 ?_
      refine lv_iload_n (cx_x X) (cx_b X) dX2_release_31 rfl (lv_at hl 0 rfl) ?_
      obtain ⟨v8, h7, hm⟩ := bnd hm
      refine af_R (rn_V (As := [.int (R 0 a1.toNatClampNeg)]) (rest := []) X (c_X1_hasCell l D y B G Q (R 0 a1.toNatClampNeg)  _ h7) vq_X2_91 ⟨rfl, rfl⟩ ⟨Nat.le_of_ble_eq_true rfl, Nat.le_of_ble_eq_true rfl⟩ (rec_1 X (ro_P hR1 hS hN1)) (ro_P hR1 hS hN1) rfl hl.1 rfl (Nat.le_of_ble_eq_true rfl) dX2_release_32 ⟨Nat.le_of_ble_eq_true rfl, Nat.le_of_ble_eq_true rfl⟩) ?_
      obtain ⟨qt10, hm, hmt10⟩ := bnd hm
      have Jt10 : ∀ (R9 : (Nat → Nat → Int32)) , m2_release_J65 F R9 = some (FF9, RR9) → ∀ (H : Heap) (locs : List Loc), va_P D vwCl (w2_s y (B 0) A F R9) H → va_S (rg_s 5 A s.heap.size) s.heap H locs → ∀ ls, lv_has ls 3 [] → gw p l e rm_X2_release s m args below meth c none (fun H => va_P D vwCl (w2_s y (B 0) A FF9 RR9) H) (rg_s 5 A s.heap.size) 0 0 H locs (F0 m 65 ls []) := by
        intro R9 hm H locs hP hS ls hl
        unfold m2_release_J65 at hm
        obtain ⟨rfl, rfl⟩ := oc_2 hm
        exact gw_v X hS hP dX2_release_65
      refine lv_if_eq (tgt := 65) (cx_x X) (cx_b X) dX2_release_35 (by decide) (fun c11 => ?_) (fun c11 => ?_)
      · replace hm := if_T c11 hm
        exact Jt10 _ (by cases hm; exact hmt10) _ _ hP hS _ (lv_sub hl [] rfl)
      · replace hm := if_F c11 hm
        refine lv_aload_n (cx_x X) (cx_b X) dX2_release_38 rfl (lv_at hl 1 rfl) ?_
        refine gf_X2_25 X hP dX2_release_39 ?_
        refine lv_iload_n (cx_x X) (cx_b X) dX2_release_42 rfl (lv_at hl 0 rfl) ?_
        refine lv_dup2_11 (cx_x X) (cx_b X) dX2_release_43 rfl rfl ?_
        obtain ⟨h12, hm⟩ := ck_E hm
        refine ld_2_3 X hP h12 dX2_release_44 ?_
        refine lv_iconst (v := (1 : Int32)) (cx_x X) (cx_b X) dX2_release_45 (by decide) ?_
        refine lv_aload_n (cx_x X) (cx_b X) dX2_release_46 rfl (lv_at hl 1 rfl) ?_
        refine gf_X2_19 X hP dX2_release_47 ?_
        refine lv_iload_n (cx_x X) (cx_b X) dX2_release_50 rfl (lv_at hl 2 rfl) ?_
        obtain ⟨h13, hm⟩ := ck_E hm
        refine ld_2_1 X hP h13 dX2_release_51 ?_
        refine lv_ishl (cx_x X) (cx_b X) dX2_release_52 ?_
        refine lv_iconst (v := (-1 : Int32)) (cx_x X) (cx_b X) dX2_release_53 (by decide) ?_
        refine lv_ixor (cx_x X) (cx_b X) dX2_release_54 ?_
        refine lv_iand (cx_x X) (cx_b X) dX2_release_55 ?_
        obtain ⟨h14, hm⟩ := ck_E hm
        refine st_2_3 X hP hA hS h14 dX2_release_56 (fun H locs hP hS => ?_)
        refine lv_aload_n (cx_x X) (cx_b X) dX2_release_57 rfl (lv_at hl 1 rfl) ?_
        refine gf_X2_19 X hP dX2_release_58 ?_
        refine lv_iload_n (cx_x X) (cx_b X) dX2_release_61 rfl (lv_at hl 2 rfl) ?_
        refine lv_bipush (v := (-9 : Int32)) (cx_x X) (cx_b X) dX2_release_62 (by decide) ?_
        obtain ⟨h15, hm⟩ := ck_E hm
        refine st_2_1 X hP hA hS h15 dX2_release_64 (fun H locs hP hS => ?_)
        exact Jt10 _ (by cases hm; exact hmt10) _ _ hP hS _ (lv_sub hl [] rfl)
    · replace hm := if_T c5 hm
      obtain ⟨rfl, rfl⟩ := oc_2 hm
      exact gw_v X hS hP dX2_release_19
/-! X2_returnCalls -/
def m2_returnCalls_X69  (v7 : Int32) (F8 : (Nat → Int32)) (R9 : (Nat → Nat → Int32)) : Option (Int32 × (Nat → Int32) × (Nat → Nat → Int32)) :=
  some (v7, (va_up F8 10 ((F8 10) + v7)), R9)
def m2_returnCalls_L13 (G : (Nat → Int32)) (Q : (Nat → Nat → Int32)) (kkt2 : (Int32 × Int32 × (Nat → Int32) × (Nat → Nat → Int32)) → Option (Int32 × (Nat → Int32) × (Nat → Nat → Int32))) (t0 : (Int32 × Int32 × (Nat → Int32) × (Nat → Nat → Int32))) : Option (Int32 × (Nat → Int32) × (Nat → Nat → Int32)) :=
  if (60 : Int32) ≤ t0.2.1 then
  some (t0.1, t0.2.2.1, t0.2.2.2)
  else
  (m2_nextToReturn t0.2.2.1 t0.2.2.2 G Q).bind fun v12 =>
  if v12 = (-9 : Int32) then
  some (t0.1, t0.2.2.1, t0.2.2.2)
  else
  (m2_cellAt t0.2.2.1 t0.2.2.2 G Q v12).bind fun v15 =>
  (m2_availableNominals t0.2.2.1 t0.2.2.2 G Q v15).bind fun v17 =>
  (m2_lowestOf t0.2.2.1 t0.2.2.2 G Q v17).bind fun v19 =>
  (m2_release t0.2.2.1 t0.2.2.2 G Q v12).bind fun ⟨F21, R22⟩ =>
  (m2_occupy F21 R22 G Q v12 v19).bind fun ⟨F24, R25⟩ =>
  kkt2 ((t0.1 + (1 : Int32)), (t0.2.1 + (1 : Int32)), F24, R25)
def m2_returnCalls (F : (Nat → Int32)) (R : (Nat → Nat → Int32)) (G : (Nat → Int32)) (Q : (Nat → Nat → Int32)) : Option (Int32 × (Nat → Int32) × (Nat → Nat → Int32)) :=
  if (F 3) = 0 then
  some ((0 : Int32), F, R)
  else
  (wh (m2_returnCalls_L13 G Q) 2000 ((0 : Int32), (0 : Int32), F, R)).bind fun ⟨v7, F8, R9⟩ => m2_returnCalls_X69 v7 F8 R9
abbrev rm_X2_returnCalls : Room := { frames := 4, cells := 0, slots := 0, locals := 90 }
set_option maxHeartbeats 4000000 in
set_option maxRecDepth 100000 in
theorem c_X2_returnCalls (l : Launch) (D : va_G) (y : Nat → ClassId) (A B : Nat → Nat) (F : (Nat → Int32)) (R : (Nat → Nat → Int32)) (G : (Nat → Int32)) (Q : (Nat → Nat → Int32)) (rr9 : Int32) (FF9 : (Nat → Int32)) (RR9 : (Nat → Nat → Int32)) (sz : Nat) (hI : aj_s 5 A) (hB : ax_s 5 A 6 B) (hm : m2_returnCalls F R G Q = some (rr9, FF9, RR9)) : Met l yX2_returnCalls (wy_s yX2_returnCalls cX2_returnCalls 5 (some .int)) rm_X2_returnCalls (pc_R D y [.ref (A 0)] (fun H => H.size = sz ∧ va_P D vwCl (w2_s y (B 0) A F R) H ∧ va_P D vwCl (w1_s y B G Q) H)) (qc_W (some (.int rr9)) (fun H => va_P D vwCl (w2_s y (B 0) A FF9 RR9) H) (rg_s 5 A sz)) 0 0 (rg_s 5 A sz) := by
  refine met_W (by decide) (Nat.le_of_ble_eq_true rfl) ?_
  intro p e s m args below meth c X hnm h0 ls hl
  obtain ⟨hsz, hP, hR1⟩ := h0
  subst hsz
  have hA := ap_of (sz := s.heap.size) hI
  have hN1 : ∀ q ∈ (w1_s y B G Q).map (fun q => q.1), ¬ rg_s 5 A s.heap.size q := ax_of hB (fun i hi => lt_of hR1 rfl i hi) rfl
  have hS : va_S (rg_s 5 A s.heap.size) s.heap s.heap [] := va_S.rf
  replace hl : lv_has ls 5 [(0, .ref (A 0))] := hl
  replace X : cx p s m args meth c cX2_returnCalls 5 (some .int) RX2 D y := X
  unfold m2_returnCalls at hm
  refine lv_aload_n (cx_x X) (cx_b X) dX2_returnCalls_0 rfl (lv_at hl 0 rfl) ?_
  refine gf_X2_9 X hP dX2_returnCalls_1 ?_
  refine lv_if_ne (tgt := 9) (cx_x X) (cx_b X) dX2_returnCalls_4 (by decide) (fun c1 => ?_) (fun c1 => ?_)
  · replace hm := if_F c1 hm
    refine lv_iconst (v := (0 : Int32)) (cx_x X) (cx_b X) dX2_returnCalls_9 (by decide) ?_
    refine lv_istore_n (lv' := [(1, .int (0 : Int32)), (0, .ref (A 0))]) (cx_x X) (cx_b X) dX2_returnCalls_10 rfl hl (by decide) rfl (fun ls hl => ?_)
    refine lv_iconst (v := (0 : Int32)) (cx_x X) (cx_b X) dX2_returnCalls_11 (by decide) ?_
    refine lv_istore_n (lv' := [(2, .int (0 : Int32)), (1, .int (0 : Int32)), (0, .ref (A 0))]) (cx_x X) (cx_b X) dX2_returnCalls_12 rfl hl (by decide) rfl (fun ls hl => ?_)
    obtain ⟨qt2, hm, hmt2⟩ := bnd hm
    have Xt2 : ∀ (v7 : Int32) (F8 : (Nat → Int32)) (R9 : (Nat → Nat → Int32)) , m2_returnCalls_X69 v7 F8 R9 = some (rr9, FF9, RR9) → ∀ (H : Heap) (locs : List Loc), va_P D vwCl (w2_s y (B 0) A F8 R9) H → va_S (rg_s 5 A s.heap.size) s.heap H locs → ∀ ls, lv_has ls 5 [(0, .ref (A 0)), (1, .int v7)] → gw p l e rm_X2_returnCalls s m args below meth c (some (.int rr9)) (fun H => va_P D vwCl (w2_s y (B 0) A FF9 RR9) H) (rg_s 5 A s.heap.size) 0 0 H locs (F0 m 69 ls []) := by
      intro v7 F8 R9 hm H locs hP hS ls hl
      unfold m2_returnCalls_X69 at hm
      refine lv_aload_n (cx_x X) (cx_b X) dX2_returnCalls_69 rfl (lv_at hl 0 rfl) ?_
      refine lv_dup (cx_x X) (cx_b X) dX2_returnCalls_70 rfl ?_
      refine gf_X2_55 X hP dX2_returnCalls_71 ?_
      refine lv_iload_n (cx_x X) (cx_b X) dX2_returnCalls_74 rfl (lv_at hl 1 rfl) ?_
      refine lv_iadd (cx_x X) (cx_b X) dX2_returnCalls_75 ?_
      refine pf_X2_55 X hP hA hS dX2_returnCalls_76 (fun H locs hP hS => ?_)
      refine lv_iload_n (cx_x X) (cx_b X) dX2_returnCalls_79 rfl (lv_at hl 1 rfl) ?_
      obtain ⟨rfl, rfl, rfl⟩ := oc_3 hm
      exact gw_i X hS hP dX2_returnCalls_80
    have Lt2 : ∀ (n : Nat) (v3 : Int32) (v4 : Int32) (F5 : (Nat → Int32)) (R6 : (Nat → Nat → Int32)) , wh (m2_returnCalls_L13 G Q) n (v3, v4, F5, R6) = some qt2 → ∀ (H : Heap) (locs : List Loc), va_P D vwCl (w2_s y (B 0) A F5 R6) H → va_S (rg_s 5 A s.heap.size) s.heap H locs → ∀ ls, lv_has ls 5 [(0, .ref (A 0)), (1, .int v3), (2, .int v4)] → gw p l e rm_X2_returnCalls s m args below meth c (some (.int rr9)) (fun H => va_P D vwCl (w2_s y (B 0) A FF9 RR9) H) (rg_s 5 A s.heap.size) 0 0 H locs (F0 m 13 ls []) := by
      intro n
      induction n with
      | zero => intro v3 v4 F5 R6 hm; cases hm
      | succ n ih =>
        intro v3 v4 F5 R6 hm H locs hP hS ls hl
        replace hm : (m2_returnCalls_L13 G Q) (wh (m2_returnCalls_L13 G Q) n) (v3, v4, F5, R6) = some qt2 := hm
        dsimp only [m2_returnCalls_L13] at hm
        refine lv_iload_n (cx_x X) (cx_b X) dX2_returnCalls_13 rfl (lv_at hl 2 rfl) ?_
        refine lv_bipush (v := (60 : Int32)) (cx_x X) (cx_b X) dX2_returnCalls_14 (by decide) ?_
        refine lv_icmp_ge (tgt := 69) (cx_x X) (cx_b X) dX2_returnCalls_16 (by decide) (fun c10 => ?_) (fun c10 => ?_)
        · replace hm := if_T c10 hm
          exact Xt2 _ _ _ (by cases hm; exact hmt2) _ _ hP hS _ (lv_sub hl [0, 1] rfl)
        · replace hm := if_F c10 hm
          refine lv_aload_n (cx_x X) (cx_b X) dX2_returnCalls_19 rfl (lv_at hl 0 rfl) ?_
          obtain ⟨v12, h11, hm⟩ := bnd hm
          refine af_R (rn_V (As := []) (rest := []) X (c_X2_nextToReturn l D y A B F5 R6 G Q  _ h11) vq_X2_139 ⟨rfl, rfl⟩ ⟨Nat.le_of_ble_eq_true rfl, Nat.le_of_ble_eq_true rfl⟩ (rec_2 X hP) ⟨hP, (ro_P hR1 hS hN1)⟩ rfl hl.1 rfl (Nat.le_of_ble_eq_true rfl) dX2_returnCalls_20 ⟨Nat.le_of_ble_eq_true rfl, Nat.le_of_ble_eq_true rfl⟩) ?_
          refine lv_istore_n (lv' := [(3, .int v12), (0, .ref (A 0)), (1, .int v3), (2, .int v4)]) (cx_x X) (cx_b X) dX2_returnCalls_23 rfl hl (by decide) rfl (fun ls hl => ?_)
          refine lv_iload_n (cx_x X) (cx_b X) dX2_returnCalls_24 rfl (lv_at hl 0 rfl) ?_
          refine lv_bipush (v := (-9 : Int32)) (cx_x X) (cx_b X) dX2_returnCalls_25 (by decide) ?_
          refine lv_icmp_ne (tgt := 33) (cx_x X) (cx_b X) dX2_returnCalls_27 (by decide) (fun c13 => ?_) (fun c13 => ?_)
          · replace hm := if_F c13 hm
            refine lv_aload_n (cx_x X) (cx_b X) dX2_returnCalls_33 rfl (lv_at hl 1 rfl) ?_
            refine lv_aload_n (cx_x X) (cx_b X) dX2_returnCalls_34 rfl (lv_at hl 1 rfl) ?_
            refine lv_aload_n (cx_x X) (cx_b X) dX2_returnCalls_35 rfl (lv_at hl 1 rfl) ?_
            refine lv_iload_n (cx_x X) (cx_b X) dX2_returnCalls_36 rfl (lv_at hl 0 rfl) ?_
            obtain ⟨v15, h14, hm⟩ := bnd hm
            refine af_R (rn_V (As := [.int v12]) (rest := [.ref (A 0), .ref (A 0)]) X (c_X2_cellAt l D y A B F5 R6 G Q v12  _ h14) vq_X2_84 ⟨rfl, rfl⟩ ⟨Nat.le_of_ble_eq_true rfl, Nat.le_of_ble_eq_true rfl⟩ (rec_2 X hP) ⟨hP, (ro_P hR1 hS hN1)⟩ rfl hl.1 rfl (Nat.le_of_ble_eq_true rfl) dX2_returnCalls_37 ⟨Nat.le_of_ble_eq_true rfl, Nat.le_of_ble_eq_true rfl⟩) ?_
            obtain ⟨v17, h16, hm⟩ := bnd hm
            refine af_R (rn_V (As := [.int v15]) (rest := [.ref (A 0)]) X (c_X2_availableNominals l D y A B F5 R6 G Q v15  _ h16) vq_X2_142 ⟨rfl, rfl⟩ ⟨Nat.le_of_ble_eq_true rfl, Nat.le_of_ble_eq_true rfl⟩ (rec_2 X hP) ⟨hP, (ro_P hR1 hS hN1)⟩ rfl hl.1 rfl (Nat.le_of_ble_eq_true rfl) dX2_returnCalls_40 ⟨Nat.le_of_ble_eq_true rfl, Nat.le_of_ble_eq_true rfl⟩) ?_
            obtain ⟨v19, h18, hm⟩ := bnd hm
            refine af_R (rn_V (As := [.int v17]) (rest := []) X (c_X2_lowestOf l D y A B F5 R6 G Q v17  _ h18) vq_X2_145 ⟨rfl, rfl⟩ ⟨Nat.le_of_ble_eq_true rfl, Nat.le_of_ble_eq_true rfl⟩ (rec_2 X hP) ⟨hP, (ro_P hR1 hS hN1)⟩ rfl hl.1 rfl (Nat.le_of_ble_eq_true rfl) dX2_returnCalls_43 ⟨Nat.le_of_ble_eq_true rfl, Nat.le_of_ble_eq_true rfl⟩) ?_
            refine lv_istore (lv' := [(4, .int v19), (3, .int v12), (0, .ref (A 0)), (1, .int v3), (2, .int v4)]) (cx_x X) (cx_b X) dX2_returnCalls_46 hl (by decide) rfl (fun ls hl => ?_)
            refine lv_aload_n (cx_x X) (cx_b X) dX2_returnCalls_48 rfl (lv_at hl 2 rfl) ?_
            refine lv_iload_n (cx_x X) (cx_b X) dX2_returnCalls_49 rfl (lv_at hl 1 rfl) ?_
            obtain ⟨⟨F21, R22⟩, h20, hm⟩ := bnd hm
            try dsimp only at hm
            refine af_W (mc := 0) (ms := 0) (rn_V (As := [.int v12]) (rest := []) X (c_X2_release l D y A B F5 R6 G Q v12 F21 R22 _ hI hB h20) vq_X2_118 ⟨rfl, rfl⟩ ⟨Nat.le_of_ble_eq_true rfl, Nat.le_of_ble_eq_true rfl⟩ (rec_2 X hP) ⟨rfl, hP, (ro_P hR1 hS hN1)⟩ rfl hl.1 rfl (Nat.le_of_ble_eq_true rfl) dX2_returnCalls_50 ⟨Nat.le_of_ble_eq_true rfl, Nat.le_of_ble_eq_true rfl⟩) hS (rg_up hS.1) (fun H locs hP _ _ hS => ?_)
            refine lv_aload_n (cx_x X) (cx_b X) dX2_returnCalls_53 rfl (lv_at hl 2 rfl) ?_
            refine lv_iload_n (cx_x X) (cx_b X) dX2_returnCalls_54 rfl (lv_at hl 1 rfl) ?_
            refine lv_iload (cx_x X) (cx_b X) dX2_returnCalls_55 (lv_at hl 0 rfl) ?_
            obtain ⟨⟨F24, R25⟩, h23, hm⟩ := bnd hm
            try dsimp only at hm
            refine af_W (mc := 0) (ms := 0) (rn_V (As := [.int v12, .int v19]) (rest := []) X (c_X2_occupy l D y A B F21 R22 G Q v12 v19 F24 R25 _ hI hB h23) vq_X2_129 ⟨rfl, rfl⟩ ⟨Nat.le_of_ble_eq_true rfl, Nat.le_of_ble_eq_true rfl⟩ (rec_2 X hP) ⟨rfl, hP, (ro_P hR1 hS hN1)⟩ rfl hl.1 rfl (Nat.le_of_ble_eq_true rfl) dX2_returnCalls_57 ⟨Nat.le_of_ble_eq_true rfl, Nat.le_of_ble_eq_true rfl⟩) hS (rg_up hS.1) (fun H locs hP _ _ hS => ?_)
            refine lv_iinc (v := (v3 + (1 : Int32))) (lv' := [(1, .int (v3 + (1 : Int32))), (4, .int v19), (3, .int v12), (0, .ref (A 0)), (2, .int v4)]) (cx_x X) (cx_b X) dX2_returnCalls_60 hl (k := 3) rfl (by rfl) (by decide) rfl (fun ls hl => ?_)
            refine lv_iinc (v := (v4 + (1 : Int32))) (lv' := [(2, .int (v4 + (1 : Int32))), (1, .int (v3 + (1 : Int32))), (4, .int v19), (3, .int v12), (0, .ref (A 0))]) (cx_x X) (cx_b X) dX2_returnCalls_63 hl (k := 4) rfl (by rfl) (by decide) rfl (fun ls hl => ?_)
            refine lv_goto (tgt := 13) (cx_x X) (cx_b X) dX2_returnCalls_66 (by decide) ?_
            exact ih _ _ _ _ hm _ _ hP hS _ (lv_sub hl [4, 1, 0] rfl)
          · replace hm := if_T c13 hm
            refine lv_goto (tgt := 69) (cx_x X) (cx_b X) dX2_returnCalls_30 (by decide) ?_
            exact Xt2 _ _ _ (by cases hm; exact hmt2) _ _ hP hS _ (lv_sub hl [1, 2] rfl)
    exact Lt2 _ _ _ _ _ hm _ _ hP hS _ (lv_sub hl [2, 1, 0] rfl)
  · replace hm := if_T c1 hm
    refine lv_iconst (v := (0 : Int32)) (cx_x X) (cx_b X) dX2_returnCalls_7 (by decide) ?_
    obtain ⟨rfl, rfl, rfl⟩ := oc_3 hm
    exact gw_i X hS hP dX2_returnCalls_8
/-! X2_end -/
def m2_end_J26 (G : (Nat → Int32)) (Q : (Nat → Nat → Int32)) (v2 : Int32) (F4 : (Nat → Int32)) (R8 : (Nat → Nat → Int32)) : Option (Int32 × (Nat → Int32) × (Nat → Nat → Int32)) :=
  (m2_returnCalls F4 R8 G Q).bind fun ⟨v13, F11, R12⟩ =>
  some (v2, F11, R12)
def m2_end (F : (Nat → Int32)) (R : (Nat → Nat → Int32)) (G : (Nat → Int32)) (Q : (Nat → Nat → Int32)) (a1 : Int32) : Option (Int32 × (Nat → Int32) × (Nat → Nat → Int32)) :=
  (m2_channelAt F R G Q a1).bind fun v2 =>
  (m2_release F R G Q a1).bind fun ⟨F4, R5⟩ =>
  (m2_isPresent F4 R5 G Q a1).bind fun v7 =>
  (if v7 = 0 then
  some R5
  else
  if inb a1 60 then
  some (va_up R5 2 (upd (R5 2) a1.toNatClampNeg (0 : Int32))) else none).bind fun R8 => m2_end_J26 G Q v2 F4 R8
abbrev rm_X2_end : Room := { frames := 5, cells := 0, slots := 0, locals := 114 }
set_option maxHeartbeats 4000000 in
set_option maxRecDepth 100000 in
theorem c_X2_end (l : Launch) (D : va_G) (y : Nat → ClassId) (A B : Nat → Nat) (F : (Nat → Int32)) (R : (Nat → Nat → Int32)) (G : (Nat → Int32)) (Q : (Nat → Nat → Int32)) (a1 : Int32) (rr9 : Int32) (FF9 : (Nat → Int32)) (RR9 : (Nat → Nat → Int32)) (sz : Nat) (hI : aj_s 5 A) (hB : ax_s 5 A 6 B) (hm : m2_end F R G Q a1 = some (rr9, FF9, RR9)) : Met l yX2_end (wy_s yX2_end cX2_end 3 (some .int)) rm_X2_end (pc_R D y [.ref (A 0), .int a1] (fun H => H.size = sz ∧ va_P D vwCl (w2_s y (B 0) A F R) H ∧ va_P D vwCl (w1_s y B G Q) H)) (qc_W (some (.int rr9)) (fun H => va_P D vwCl (w2_s y (B 0) A FF9 RR9) H) (rg_s 5 A sz)) 0 0 (rg_s 5 A sz) := by
  refine met_W (by decide) (Nat.le_of_ble_eq_true rfl) ?_
  intro p e s m args below meth c X hnm h0 ls hl
  obtain ⟨hsz, hP, hR1⟩ := h0
  subst hsz
  have hA := ap_of (sz := s.heap.size) hI
  have hN1 : ∀ q ∈ (w1_s y B G Q).map (fun q => q.1), ¬ rg_s 5 A s.heap.size q := ax_of hB (fun i hi => lt_of hR1 rfl i hi) rfl
  have hS : va_S (rg_s 5 A s.heap.size) s.heap s.heap [] := va_S.rf
  replace hl : lv_has ls 3 [(0, .ref (A 0)), (1, .int a1)] := hl
  replace X : cx p s m args meth c cX2_end 3 (some .int) RX2 D y := X
  unfold m2_end at hm
  refine lv_aload_n (cx_x X) (cx_b X) dX2_end_0 rfl (lv_at hl 0 rfl) ?_
  refine lv_iload_n (cx_x X) (cx_b X) dX2_end_1 rfl (lv_at hl 1 rfl) ?_
  obtain ⟨v2, h1, hm⟩ := bnd hm
  refine af_R (rn_V (As := [.int a1]) (rest := []) X (c_X2_channelAt l D y A B F R G Q a1  _ h1) vq_X2_80 ⟨rfl, rfl⟩ ⟨Nat.le_of_ble_eq_true rfl, Nat.le_of_ble_eq_true rfl⟩ (rec_2 X hP) ⟨hP, (ro_P hR1 hS hN1)⟩ rfl hl.1 rfl (Nat.le_of_ble_eq_true rfl) dX2_end_2 ⟨Nat.le_of_ble_eq_true rfl, Nat.le_of_ble_eq_true rfl⟩) ?_
  refine lv_istore_n (lv' := [(2, .int v2), (0, .ref (A 0)), (1, .int a1)]) (cx_x X) (cx_b X) dX2_end_5 rfl hl (by decide) rfl (fun ls hl => ?_)
  refine lv_aload_n (cx_x X) (cx_b X) dX2_end_6 rfl (lv_at hl 1 rfl) ?_
  refine lv_iload_n (cx_x X) (cx_b X) dX2_end_7 rfl (lv_at hl 2 rfl) ?_
  obtain ⟨⟨F4, R5⟩, h3, hm⟩ := bnd hm
  try dsimp only at hm
  refine af_W (mc := 0) (ms := 0) (rn_V (As := [.int a1]) (rest := []) X (c_X2_release l D y A B F R G Q a1 F4 R5 _ hI hB h3) vq_X2_118 ⟨rfl, rfl⟩ ⟨Nat.le_of_ble_eq_true rfl, Nat.le_of_ble_eq_true rfl⟩ (rec_2 X hP) ⟨rfl, hP, (ro_P hR1 hS hN1)⟩ rfl hl.1 rfl (Nat.le_of_ble_eq_true rfl) dX2_end_8 ⟨Nat.le_of_ble_eq_true rfl, Nat.le_of_ble_eq_true rfl⟩) hS (rg_up hS.1) (fun H locs hP _ _ hS => ?_)
  refine lv_aload_n (cx_x X) (cx_b X) dX2_end_11 rfl (lv_at hl 1 rfl) ?_
  refine lv_iload_n (cx_x X) (cx_b X) dX2_end_12 rfl (lv_at hl 2 rfl) ?_
  obtain ⟨v7, h6, hm⟩ := bnd hm
  refine af_R (rn_V (As := [.int a1]) (rest := []) X (c_X2_isPresent l D y A B F4 R5 G Q a1  _ h6) vq_X2_76 ⟨rfl, rfl⟩ ⟨Nat.le_of_ble_eq_true rfl, Nat.le_of_ble_eq_true rfl⟩ (rec_2 X hP) ⟨hP, (ro_P hR1 hS hN1)⟩ rfl hl.1 rfl (Nat.le_of_ble_eq_true rfl) dX2_end_13 ⟨Nat.le_of_ble_eq_true rfl, Nat.le_of_ble_eq_true rfl⟩) ?_
  obtain ⟨qt9, hm, hmt9⟩ := bnd hm
  have Jt9 : ∀ (R8 : (Nat → Nat → Int32)) , m2_end_J26 G Q v2 F4 R8 = some (rr9, FF9, RR9) → ∀ (H : Heap) (locs : List Loc), va_P D vwCl (w2_s y (B 0) A F4 R8) H → va_S (rg_s 5 A s.heap.size) s.heap H locs → ∀ ls, lv_has ls 3 [(0, .ref (A 0)), (2, .int v2)] → gw p l e rm_X2_end s m args below meth c (some (.int rr9)) (fun H => va_P D vwCl (w2_s y (B 0) A FF9 RR9) H) (rg_s 5 A s.heap.size) 0 0 H locs (F0 m 26 ls []) := by
    intro R8 hm H locs hP hS ls hl
    unfold m2_end_J26 at hm
    refine lv_aload_n (cx_x X) (cx_b X) dX2_end_26 rfl (lv_at hl 0 rfl) ?_
    obtain ⟨⟨v13, F11, R12⟩, h10, hm⟩ := bnd hm
    try dsimp only at hm
    refine af_W (mc := 0) (ms := 0) (rn_V (As := []) (rest := []) X (c_X2_returnCalls l D y A B F4 R8 G Q v13 F11 R12 _ hI hB h10) vq_X2_122 ⟨rfl, rfl⟩ ⟨Nat.le_of_ble_eq_true rfl, Nat.le_of_ble_eq_true rfl⟩ (rec_2 X hP) ⟨rfl, hP, (ro_P hR1 hS hN1)⟩ rfl hl.1 rfl (Nat.le_of_ble_eq_true rfl) dX2_end_27 ⟨Nat.le_of_ble_eq_true rfl, Nat.le_of_ble_eq_true rfl⟩) hS (rg_up hS.1) (fun H locs hP _ _ hS => ?_)
    refine lv_pop (cx_x X) (cx_b X) dX2_end_30 rfl ?_
    refine lv_iload_n (cx_x X) (cx_b X) dX2_end_31 rfl (lv_at hl 1 rfl) ?_
    obtain ⟨rfl, rfl, rfl⟩ := oc_3 hm
    exact gw_i X hS hP dX2_end_32
  refine lv_if_eq (tgt := 26) (cx_x X) (cx_b X) dX2_end_16 (by decide) (fun c14 => ?_) (fun c14 => ?_)
  · replace hm := if_T c14 hm
    exact Jt9 _ (by cases hm; exact hmt9) _ _ hP hS _ (lv_sub hl [1, 0] rfl)
  · replace hm := if_F c14 hm
    refine lv_aload_n (cx_x X) (cx_b X) dX2_end_19 rfl (lv_at hl 1 rfl) ?_
    refine gf_X2_22 X hP dX2_end_20 ?_
    refine lv_iload_n (cx_x X) (cx_b X) dX2_end_23 rfl (lv_at hl 2 rfl) ?_
    refine lv_iconst (v := (0 : Int32)) (cx_x X) (cx_b X) dX2_end_24 (by decide) ?_
    obtain ⟨h15, hm⟩ := ck_E hm
    refine st_2_2 X hP hA hS h15 dX2_end_25 (fun H locs hP hS => ?_)
    exact Jt9 _ (by cases hm; exact hmt9) _ _ hP hS _ (lv_sub hl [1, 0] rfl)
/-! X2_move -/
def m2_move_J87 (G : (Nat → Int32)) (Q : (Nat → Nat → Int32)) (a1 : Int32) (a2 : Int32) (v9 : Int32) (F10 : (Nat → Int32)) (R11 : (Nat → Nat → Int32)) : Option (Int32 × (Nat → Int32) × (Nat → Nat → Int32)) :=
  (m2_place F10 R11 G Q a1 a2 v9).bind fun ⟨F14, R15⟩ =>
  (m2_returnCalls F14 R15 G Q).bind fun ⟨v19, F17, R18⟩ =>
  some (v9, F17, R18)
def m2_move_J46 (G : (Nat → Int32)) (Q : (Nat → Nat → Int32)) (a1 : Int32) (a2 : Int32) (F5 : (Nat → Int32)) (R6 : (Nat → Nat → Int32)) : Option (Int32 × (Nat → Int32) × (Nat → Nat → Int32)) :=
  if inb a1 60 then
  (if (R6 1 a1.toNatClampNeg) = (-9 : Int32) then
  some ((-9 : Int32), F5, R6)
  else
  (m2_chooseChannel F5 R6 G Q a2).bind fun v22 =>
  (m2_release F5 R6 G Q a1).bind fun ⟨F24, R25⟩ =>
  if v22 = (-9 : Int32) then
  some (v22, (va_up F24 7 ((F24 7) + (1 : Int32))), R25)
  else
  some (v22, F24, R25)).bind fun ⟨v9, F10, R11⟩ => m2_move_J87 G Q a1 a2 v9 F10 R11 else none
def m2_move (F : (Nat → Int32)) (R : (Nat → Nat → Int32)) (G : (Nat → Int32)) (Q : (Nat → Nat → Int32)) (a1 : Int32) (a2 : Int32) : Option (Int32 × (Nat → Int32) × (Nat → Nat → Int32)) :=
  (m2_isPresent F R G Q a1).bind fun v2 =>
  if v2 = 0 then
  some ((-9 : Int32), F, R)
  else
  if inb a1 60 then
  (if (R 2 a1.toNatClampNeg) = (1 : Int32) then
  (m2_fixedAccepts F R G Q a2).bind fun v29 =>
  if v29 = 0 then
  if inb a1 60 then
  some ((va_up F 8 ((F 8) + (1 : Int32))), (va_up R 2 (upd (R 2) a1.toNatClampNeg (0 : Int32)))) else none
  else
  some (F, R)
  else
  some (F, R)).bind fun ⟨F5, R6⟩ => m2_move_J46 G Q a1 a2 F5 R6 else none
abbrev rm_X2_move : Room := { frames := 5, cells := 0, slots := 0, locals := 121 }
set_option maxHeartbeats 4000000 in
set_option maxRecDepth 100000 in
theorem c_X2_move (l : Launch) (D : va_G) (y : Nat → ClassId) (A B : Nat → Nat) (F : (Nat → Int32)) (R : (Nat → Nat → Int32)) (G : (Nat → Int32)) (Q : (Nat → Nat → Int32)) (a1 : Int32) (a2 : Int32) (rr9 : Int32) (FF9 : (Nat → Int32)) (RR9 : (Nat → Nat → Int32)) (sz : Nat) (hI : aj_s 5 A) (hB : ax_s 5 A 6 B) (hm : m2_move F R G Q a1 a2 = some (rr9, FF9, RR9)) : Met l yX2_move (wy_s yX2_move cX2_move 4 (some .int)) rm_X2_move (pc_R D y [.ref (A 0), .int a1, .int a2] (fun H => H.size = sz ∧ va_P D vwCl (w2_s y (B 0) A F R) H ∧ va_P D vwCl (w1_s y B G Q) H)) (qc_W (some (.int rr9)) (fun H => va_P D vwCl (w2_s y (B 0) A FF9 RR9) H) (rg_s 5 A sz)) 0 0 (rg_s 5 A sz) := by
  refine met_W (by decide) (Nat.le_of_ble_eq_true rfl) ?_
  intro p e s m args below meth c X hnm h0 ls hl
  obtain ⟨hsz, hP, hR1⟩ := h0
  subst hsz
  have hA := ap_of (sz := s.heap.size) hI
  have hN1 : ∀ q ∈ (w1_s y B G Q).map (fun q => q.1), ¬ rg_s 5 A s.heap.size q := ax_of hB (fun i hi => lt_of hR1 rfl i hi) rfl
  have hS : va_S (rg_s 5 A s.heap.size) s.heap s.heap [] := va_S.rf
  replace hl : lv_has ls 4 [(0, .ref (A 0)), (1, .int a1), (2, .int a2)] := hl
  replace X : cx p s m args meth c cX2_move 4 (some .int) RX2 D y := X
  unfold m2_move at hm
  refine lv_aload_n (cx_x X) (cx_b X) dX2_move_0 rfl (lv_at hl 0 rfl) ?_
  refine lv_iload_n (cx_x X) (cx_b X) dX2_move_1 rfl (lv_at hl 1 rfl) ?_
  obtain ⟨v2, h1, hm⟩ := bnd hm
  refine af_R (rn_V (As := [.int a1]) (rest := []) X (c_X2_isPresent l D y A B F R G Q a1  _ h1) vq_X2_76 ⟨rfl, rfl⟩ ⟨Nat.le_of_ble_eq_true rfl, Nat.le_of_ble_eq_true rfl⟩ (rec_2 X hP) ⟨hP, (ro_P hR1 hS hN1)⟩ rfl hl.1 rfl (Nat.le_of_ble_eq_true rfl) dX2_move_2 ⟨Nat.le_of_ble_eq_true rfl, Nat.le_of_ble_eq_true rfl⟩) ?_
  refine lv_if_ne (tgt := 11) (cx_x X) (cx_b X) dX2_move_5 (by decide) (fun c3 => ?_) (fun c3 => ?_)
  · replace hm := if_F c3 hm
    refine lv_aload_n (cx_x X) (cx_b X) dX2_move_11 rfl (lv_at hl 0 rfl) ?_
    refine gf_X2_22 X hP dX2_move_12 ?_
    refine lv_iload_n (cx_x X) (cx_b X) dX2_move_15 rfl (lv_at hl 1 rfl) ?_
    obtain ⟨h4, hm⟩ := ck_E hm
    refine ld_2_2 X hP h4 dX2_move_16 ?_
    refine lv_iconst (v := (1 : Int32)) (cx_x X) (cx_b X) dX2_move_17 (by decide) ?_
    obtain ⟨qt7, hm, hmt7⟩ := bnd hm
    have Jt7 : ∀ (F5 : (Nat → Int32)) (R6 : (Nat → Nat → Int32)) , m2_move_J46 G Q a1 a2 F5 R6 = some (rr9, FF9, RR9) → ∀ (H : Heap) (locs : List Loc), va_P D vwCl (w2_s y (B 0) A F5 R6) H → va_S (rg_s 5 A s.heap.size) s.heap H locs → ∀ ls, lv_has ls 4 [(0, .ref (A 0)), (1, .int a1), (2, .int a2)] → gw p l e rm_X2_move s m args below meth c (some (.int rr9)) (fun H => va_P D vwCl (w2_s y (B 0) A FF9 RR9) H) (rg_s 5 A s.heap.size) 0 0 H locs (F0 m 46 ls []) := by
      intro F5 R6 hm H locs hP hS ls hl
      unfold m2_move_J46 at hm
      refine lv_bipush (v := (-9 : Int32)) (cx_x X) (cx_b X) dX2_move_46 (by decide) ?_
      refine lv_istore_n (lv' := [(3, .int (-9 : Int32)), (0, .ref (A 0)), (1, .int a1), (2, .int a2)]) (cx_x X) (cx_b X) dX2_move_48 rfl hl (by decide) rfl (fun ls hl => ?_)
      refine lv_aload_n (cx_x X) (cx_b X) dX2_move_49 rfl (lv_at hl 1 rfl) ?_
      refine gf_X2_19 X hP dX2_move_50 ?_
      refine lv_iload_n (cx_x X) (cx_b X) dX2_move_53 rfl (lv_at hl 2 rfl) ?_
      obtain ⟨h8, hm⟩ := ck_E hm
      refine ld_2_1 X hP h8 dX2_move_54 ?_
      refine lv_bipush (v := (-9 : Int32)) (cx_x X) (cx_b X) dX2_move_55 (by decide) ?_
      obtain ⟨qt12, hm, hmt12⟩ := bnd hm
      have Jt12 : ∀ (v9 : Int32) (F10 : (Nat → Int32)) (R11 : (Nat → Nat → Int32)) , m2_move_J87 G Q a1 a2 v9 F10 R11 = some (rr9, FF9, RR9) → ∀ (H : Heap) (locs : List Loc), va_P D vwCl (w2_s y (B 0) A F10 R11) H → va_S (rg_s 5 A s.heap.size) s.heap H locs → ∀ ls, lv_has ls 4 [(0, .ref (A 0)), (1, .int a1), (2, .int a2), (3, .int v9)] → gw p l e rm_X2_move s m args below meth c (some (.int rr9)) (fun H => va_P D vwCl (w2_s y (B 0) A FF9 RR9) H) (rg_s 5 A s.heap.size) 0 0 H locs (F0 m 87 ls []) := by
        intro v9 F10 R11 hm H locs hP hS ls hl
        unfold m2_move_J87 at hm
        refine lv_aload_n (cx_x X) (cx_b X) dX2_move_87 rfl (lv_at hl 0 rfl) ?_
        refine lv_iload_n (cx_x X) (cx_b X) dX2_move_88 rfl (lv_at hl 1 rfl) ?_
        refine lv_iload_n (cx_x X) (cx_b X) dX2_move_89 rfl (lv_at hl 2 rfl) ?_
        refine lv_iload_n (cx_x X) (cx_b X) dX2_move_90 rfl (lv_at hl 3 rfl) ?_
        obtain ⟨⟨F14, R15⟩, h13, hm⟩ := bnd hm
        try dsimp only at hm
        refine af_W (mc := 0) (ms := 0) (rn_V (As := [.int a1, .int a2, .int v9]) (rest := []) X (c_X2_place l D y A B F10 R11 G Q a1 a2 v9 F14 R15 _ hI hB h13) vq_X2_114 ⟨rfl, rfl⟩ ⟨Nat.le_of_ble_eq_true rfl, Nat.le_of_ble_eq_true rfl⟩ (rec_2 X hP) ⟨rfl, hP, (ro_P hR1 hS hN1)⟩ rfl hl.1 rfl (Nat.le_of_ble_eq_true rfl) dX2_move_91 ⟨Nat.le_of_ble_eq_true rfl, Nat.le_of_ble_eq_true rfl⟩) hS (rg_up hS.1) (fun H locs hP _ _ hS => ?_)
        refine lv_aload_n (cx_x X) (cx_b X) dX2_move_94 rfl (lv_at hl 0 rfl) ?_
        obtain ⟨⟨v19, F17, R18⟩, h16, hm⟩ := bnd hm
        try dsimp only at hm
        refine af_W (mc := 0) (ms := 0) (rn_V (As := []) (rest := []) X (c_X2_returnCalls l D y A B F14 R15 G Q v19 F17 R18 _ hI hB h16) vq_X2_122 ⟨rfl, rfl⟩ ⟨Nat.le_of_ble_eq_true rfl, Nat.le_of_ble_eq_true rfl⟩ (rec_2 X hP) ⟨rfl, hP, (ro_P hR1 hS hN1)⟩ rfl hl.1 rfl (Nat.le_of_ble_eq_true rfl) dX2_move_95 ⟨Nat.le_of_ble_eq_true rfl, Nat.le_of_ble_eq_true rfl⟩) hS (rg_up hS.1) (fun H locs hP _ _ hS => ?_)
        refine lv_pop (cx_x X) (cx_b X) dX2_move_98 rfl ?_
        refine lv_iload_n (cx_x X) (cx_b X) dX2_move_99 rfl (lv_at hl 3 rfl) ?_
        obtain ⟨rfl, rfl, rfl⟩ := oc_3 hm
        exact gw_i X hS hP dX2_move_100
      refine lv_icmp_eq (tgt := 87) (cx_x X) (cx_b X) dX2_move_57 (by decide) (fun c20 => ?_) (fun c20 => ?_)
      · replace hm := if_T c20 hm
        exact Jt12 _ _ _ (by cases hm; exact hmt12) _ _ hP hS _ (lv_sub hl [1, 2, 3, 0] rfl)
      · replace hm := if_F c20 hm
        refine lv_aload_n (cx_x X) (cx_b X) dX2_move_60 rfl (lv_at hl 1 rfl) ?_
        refine lv_iload_n (cx_x X) (cx_b X) dX2_move_61 rfl (lv_at hl 3 rfl) ?_
        obtain ⟨v22, h21, hm⟩ := bnd hm
        refine af_R (rn_V (As := [.int a2]) (rest := []) X (c_X2_chooseChannel l D y A B F5 R6 G Q a2  _ h21) vq_X2_100 ⟨rfl, rfl⟩ ⟨Nat.le_of_ble_eq_true rfl, Nat.le_of_ble_eq_true rfl⟩ (rec_2 X hP) ⟨hP, (ro_P hR1 hS hN1)⟩ rfl hl.1 rfl (Nat.le_of_ble_eq_true rfl) dX2_move_62 ⟨Nat.le_of_ble_eq_true rfl, Nat.le_of_ble_eq_true rfl⟩) ?_
        refine lv_istore_n (lv' := [(3, .int v22), (0, .ref (A 0)), (1, .int a1), (2, .int a2)]) (cx_x X) (cx_b X) dX2_move_65 rfl hl (by decide) rfl (fun ls hl => ?_)
        refine lv_aload_n (cx_x X) (cx_b X) dX2_move_66 rfl (lv_at hl 1 rfl) ?_
        refine lv_iload_n (cx_x X) (cx_b X) dX2_move_67 rfl (lv_at hl 2 rfl) ?_
        obtain ⟨⟨F24, R25⟩, h23, hm⟩ := bnd hm
        try dsimp only at hm
        refine af_W (mc := 0) (ms := 0) (rn_V (As := [.int a1]) (rest := []) X (c_X2_release l D y A B F5 R6 G Q a1 F24 R25 _ hI hB h23) vq_X2_118 ⟨rfl, rfl⟩ ⟨Nat.le_of_ble_eq_true rfl, Nat.le_of_ble_eq_true rfl⟩ (rec_2 X hP) ⟨rfl, hP, (ro_P hR1 hS hN1)⟩ rfl hl.1 rfl (Nat.le_of_ble_eq_true rfl) dX2_move_68 ⟨Nat.le_of_ble_eq_true rfl, Nat.le_of_ble_eq_true rfl⟩) hS (rg_up hS.1) (fun H locs hP _ _ hS => ?_)
        refine lv_iload_n (cx_x X) (cx_b X) dX2_move_71 rfl (lv_at hl 0 rfl) ?_
        refine lv_bipush (v := (-9 : Int32)) (cx_x X) (cx_b X) dX2_move_72 (by decide) ?_
        refine lv_icmp_ne (tgt := 87) (cx_x X) (cx_b X) dX2_move_74 (by decide) (fun c26 => ?_) (fun c26 => ?_)
        · replace hm := if_F c26 hm
          exact Jt12 _ _ _ (by cases hm; exact hmt12) _ _ hP hS _ (lv_sub hl [1, 2, 3, 0] rfl)
        · replace hm := if_T c26 hm
          refine lv_aload_n (cx_x X) (cx_b X) dX2_move_77 rfl (lv_at hl 1 rfl) ?_
          refine lv_dup (cx_x X) (cx_b X) dX2_move_78 rfl ?_
          refine gf_X2_46 X hP dX2_move_79 ?_
          refine lv_iconst (v := (1 : Int32)) (cx_x X) (cx_b X) dX2_move_82 (by decide) ?_
          refine lv_iadd (cx_x X) (cx_b X) dX2_move_83 ?_
          refine pf_X2_46 X hP hA hS dX2_move_84 (fun H locs hP hS => ?_)
          exact Jt12 _ _ _ (by cases hm; exact hmt12) _ _ hP hS _ (lv_sub hl [1, 2, 3, 0] rfl)
    refine lv_icmp_ne (tgt := 46) (cx_x X) (cx_b X) dX2_move_18 (by decide) (fun c27 => ?_) (fun c27 => ?_)
    · replace hm := if_F c27 hm
      exact Jt7 _ _ (by cases hm; exact hmt7) _ _ hP hS _ (lv_sub hl [0, 1, 2] rfl)
    · replace hm := if_T c27 hm
      refine lv_aload_n (cx_x X) (cx_b X) dX2_move_21 rfl (lv_at hl 0 rfl) ?_
      refine lv_iload_n (cx_x X) (cx_b X) dX2_move_22 rfl (lv_at hl 2 rfl) ?_
      obtain ⟨v29, h28, hm⟩ := bnd hm
      refine af_R (rn_V (As := [.int a2]) (rest := []) X (c_X2_fixedAccepts l D y A B F R G Q a2  _ h28) vq_X2_103 ⟨rfl, rfl⟩ ⟨Nat.le_of_ble_eq_true rfl, Nat.le_of_ble_eq_true rfl⟩ (rec_2 X hP) ⟨hP, (ro_P hR1 hS hN1)⟩ rfl hl.1 rfl (Nat.le_of_ble_eq_true rfl) dX2_move_23 ⟨Nat.le_of_ble_eq_true rfl, Nat.le_of_ble_eq_true rfl⟩) ?_
      refine lv_if_ne (tgt := 46) (cx_x X) (cx_b X) dX2_move_26 (by decide) (fun c30 => ?_) (fun c30 => ?_)
      · replace hm := if_F c30 hm
        exact Jt7 _ _ (by cases hm; exact hmt7) _ _ hP hS _ (lv_sub hl [0, 1, 2] rfl)
      · replace hm := if_T c30 hm
        refine lv_aload_n (cx_x X) (cx_b X) dX2_move_29 rfl (lv_at hl 0 rfl) ?_
        refine gf_X2_22 X hP dX2_move_30 ?_
        refine lv_iload_n (cx_x X) (cx_b X) dX2_move_33 rfl (lv_at hl 1 rfl) ?_
        refine lv_iconst (v := (0 : Int32)) (cx_x X) (cx_b X) dX2_move_34 (by decide) ?_
        obtain ⟨h31, hm⟩ := ck_E hm
        refine st_2_2 X hP hA hS h31 dX2_move_35 (fun H locs hP hS => ?_)
        refine lv_aload_n (cx_x X) (cx_b X) dX2_move_36 rfl (lv_at hl 0 rfl) ?_
        refine lv_dup (cx_x X) (cx_b X) dX2_move_37 rfl ?_
        refine gf_X2_49 X hP dX2_move_38 ?_
        refine lv_iconst (v := (1 : Int32)) (cx_x X) (cx_b X) dX2_move_41 (by decide) ?_
        refine lv_iadd (cx_x X) (cx_b X) dX2_move_42 ?_
        refine pf_X2_49 X hP hA hS dX2_move_43 (fun H locs hP hS => ?_)
        exact Jt7 _ _ (by cases hm; exact hmt7) _ _ hP hS _ (lv_sub hl [0, 1, 2] rfl)
  · replace hm := if_T c3 hm
    refine lv_bipush (v := (-9 : Int32)) (cx_x X) (cx_b X) dX2_move_8 (by decide) ?_
    obtain ⟨rfl, rfl, rfl⟩ := oc_3 hm
    exact gw_i X hS hP dX2_move_10
