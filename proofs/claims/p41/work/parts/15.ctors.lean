def z_F : Nat → Int32 := fun _ => 0
def z_R : Nat → Nat → Int32 := fun _ _ => 0
def ni_F : Nat → Int32 := fun k => if k = 3 then 1 else 0
theorem rg_inP {n : Nat} {P : Nat → Prop} {A : Nat → Nat} {sz0 sz : Nat} (h : ap_s n P A) (h2 : ∀ q, sz0 ≤ q → P q) (hz : sz0 ≤ sz) : ∀ q, rg_s n A sz q → P q := by
  intro q hq
  rcases hq with ⟨i, hi, rfl⟩ | hq
  · exact h.2 i hi
  · exact h2 q (Nat.le_trans hz hq)
def m1_init_X144 (F4 : (Nat → Int32)) (R9 : (Nat → Nat → Int32)) : Option ((Nat → Int32) × (Nat → Nat → Int32)) :=
  some (F4, R9)
def m1_init_L88 (a3 : Int32) (v1 : Int32) (F4 : (Nat → Int32)) (kkt6 : (Int32 × (Nat → Nat → Int32)) → Option (Nat → Nat → Int32)) (t0 : (Int32 × (Nat → Nat → Int32))) : Option (Nat → Nat → Int32) :=
  if (F4 0) ≤ t0.1 then
  some t0.2
  else
  if (25 : Int32) ≤ t0.1 then
  some t0.2
  else
  if inb t0.1 25 then
  (m1_channelsOfGroup F4 t0.2 (t0.2 2 t0.1.toNatClampNeg) v1).bind fun v14 =>
  if inb t0.1 25 then
  (m1_cellsWithin F4 (va_up t0.2 3 (upd (t0.2 3) t0.1.toNatClampNeg v14)) t0.1 a3).bind fun v17 =>
  if inb t0.1 25 then
  kkt6 ((t0.1 + (1 : Int32)), (va_up (va_up t0.2 3 (upd (t0.2 3) t0.1.toNatClampNeg v14)) 4 (upd ((va_up t0.2 3 (upd (t0.2 3) t0.1.toNatClampNeg v14)) 4) t0.1.toNatClampNeg v17))) else none else none else none
def m1_init_J55 (G : (Nat → Int32)) (Q : (Nat → Nat → Int32)) (a1 : Int32) (a2 : Int32) (a3 : Int32) (a4 : Int32) (v1 : Int32) : Option ((Nat → Int32) × (Nat → Nat → Int32)) :=
  (m1_placeCells (va_up (va_up (va_up G 0 (a1 * a2)) 1 (v1 * a4)) 2 a4) Q a2 a3).bind fun ⟨F4, R5⟩ =>
  (wh (m1_init_L88 a3 v1 F4) 2000 ((0 : Int32), R5)).bind fun R9 => m1_init_X144 F4 R9
def m1_init (G : (Nat → Int32)) (Q : (Nat → Nat → Int32)) (a1 : Int32) (a2 : Int32) (a3 : Int32) (a4 : Int32) : Option ((Nat → Int32) × (Nat → Nat → Int32)) :=
  (if a3 = (2 : Int32) then
  some (3 : Int32)
  else
  some (7 : Int32)).bind fun v1 => m1_init_J55 G Q a1 a2 a3 a4 v1
abbrev rm_X1_init : Room := { frames := 3, cells := 5, slots := 125, locals := 69 }
set_option maxHeartbeats 4000000 in
set_option maxRecDepth 100000 in
theorem c_X1_init (l : Launch) (D : va_G) (y : Nat → ClassId) (q0 sz : Nat) (a1 : Int32) (a2 : Int32) (a3 : Int32) (a4 : Int32) (FF : (Nat → Int32)) (RR : (Nat → Nat → Int32)) (hm : m1_init z_F z_R a1 a2 a3 a4 = some (FF, RR)) : Met l yX1_init (wy_s yX1_init cX1_init 7 none) rm_X1_init (pc_R D y [.ref q0, .int a1, .int a2, .int a3, .int a4] (fun H => H.size = sz ∧ va_P D vwCl ([(q0, .inr (1, [.int (0 : Int32), .int (0 : Int32), .int (0 : Int32), .null, .null, .null, .null, .null]))]) H)) (qc_W none (fun H => ∃ A1 : Nat → Nat, A1 0 = q0 ∧ ap_s 6 (rg_s 1 (fun _ => q0) sz) A1 ∧ va_P D vwCl (w1_s y A1 FF RR) H) (rg_s 1 (fun _ => q0) sz)) 5 125 (rg_s 1 (fun _ => q0) sz) := by
  refine met_W (by decide) (Nat.le_of_ble_eq_true rfl) ?_
  intro p e s m args below meth c X hnm h0 ls hl
  obtain ⟨hsz, hP⟩ := h0
  subst hsz
  have hA0 : ∀ q, s.heap.size ≤ q → rg_s 1 (fun _ => q0) s.heap.size q := rg_ge
  have hS : va_S (rg_s 1 (fun _ => q0) s.heap.size) s.heap s.heap [] := va_S.rf
  have hD : va_D (rg_s 1 (fun _ => q0) s.heap.size) ([(q0, .inr (1, [.int (0 : Int32), .int (0 : Int32), .int (0 : Int32), .null, .null, .null, .null, .null]))]) := ap_D (n := 1) (A := fun _ => q0) (ap_of (fun i j hi hj _ => by omega)) rfl
  generalize hPP : rg_s 1 (fun _ => q0) s.heap.size = PP at hS hD hA0 ⊢
  replace hl : lv_has ls 7 [(0, .ref q0), (1, .int a1), (2, .int a2), (3, .int a3), (4, .int a4)] := hl
  replace X : cx p s m args meth c cX1_init 7 none RX1 D y := X
  refine lv_aload_n (cx_x X) (cx_b X) dX1_init_0 rfl (lv_at hl 0 rfl) ?_
  refine ob_0 X hl.1 qw_28 qw_7 qw_8 (Nat.le_of_ble_eq_true rfl) dX1_init_1 (Nat.le_of_ble_eq_true rfl) (Nat.le_of_ble_eq_true rfl) ?_
  refine lv_aload_n (cx_x X) (cx_b X) dX1_init_4 rfl (lv_at hl 0 rfl) ?_
  refine lv_bipush (v := (25 : Int32)) (cx_x X) (cx_b X) dX1_init_5 (by decide) ?_
  refine na_I X hP hD hS hA0 (N' := 25) (by decide) (by decide) (Nat.le_of_ble_eq_true rfl) (Nat.le_of_ble_eq_true rfl) (Nat.le_of_ble_eq_true rfl) dX1_init_7 (fun q1 H hP hD hS => ?_)
  replace hP : va_P D vwCl ([(q0, .inr (1, [.int (0 : Int32), .int (0 : Int32), .int (0 : Int32), .null, .null, .null, .null, .null])), (q1, .inl (y 0, 25, .inl (fun _ => 0)))]) H := hP
  replace hD : va_D PP ([(q0, .inr (1, [.int (0 : Int32), .int (0 : Int32), .int (0 : Int32), .null, .null, .null, .null, .null])), (q1, .inl (y 0, 25, .inl (fun _ => 0)))]) := hD
  refine pfW_X1_9 X hnm hP hD hS 0 rfl (v := .ref q1) rfl rfl (Nat.le_of_ble_eq_true rfl) dX1_init_9 (fun H locs hP hD hS => ?_)
  replace hP : va_P D vwCl ([(q0, .inr (1, [.int (0 : Int32), .int (0 : Int32), .int (0 : Int32), .ref q1, .null, .null, .null, .null])), (q1, .inl (y 0, 25, .inl (fun _ => 0)))]) H := hP
  replace hD : va_D PP ([(q0, .inr (1, [.int (0 : Int32), .int (0 : Int32), .int (0 : Int32), .ref q1, .null, .null, .null, .null])), (q1, .inl (y 0, 25, .inl (fun _ => 0)))]) := hD
  refine lv_aload_n (cx_x X) (cx_b X) dX1_init_12 rfl (lv_at hl 0 rfl) ?_
  refine lv_bipush (v := (25 : Int32)) (cx_x X) (cx_b X) dX1_init_13 (by decide) ?_
  refine na_I X hP hD hS hA0 (N' := 25) (by decide) (by decide) (Nat.le_of_ble_eq_true rfl) (Nat.le_of_ble_eq_true rfl) (Nat.le_of_ble_eq_true rfl) dX1_init_15 (fun q2 H hP hD hS => ?_)
  replace hP : va_P D vwCl ([(q0, .inr (1, [.int (0 : Int32), .int (0 : Int32), .int (0 : Int32), .ref q1, .null, .null, .null, .null])), (q1, .inl (y 0, 25, .inl (fun _ => 0))), (q2, .inl (y 0, 25, .inl (fun _ => 0)))]) H := hP
  replace hD : va_D PP ([(q0, .inr (1, [.int (0 : Int32), .int (0 : Int32), .int (0 : Int32), .ref q1, .null, .null, .null, .null])), (q1, .inl (y 0, 25, .inl (fun _ => 0))), (q2, .inl (y 0, 25, .inl (fun _ => 0)))]) := hD
  refine pfW_X1_15 X hnm hP hD hS 0 rfl (v := .ref q2) rfl rfl (Nat.le_of_ble_eq_true rfl) dX1_init_17 (fun H locs hP hD hS => ?_)
  replace hP : va_P D vwCl ([(q0, .inr (1, [.int (0 : Int32), .int (0 : Int32), .int (0 : Int32), .ref q1, .ref q2, .null, .null, .null])), (q1, .inl (y 0, 25, .inl (fun _ => 0))), (q2, .inl (y 0, 25, .inl (fun _ => 0)))]) H := hP
  replace hD : va_D PP ([(q0, .inr (1, [.int (0 : Int32), .int (0 : Int32), .int (0 : Int32), .ref q1, .ref q2, .null, .null, .null])), (q1, .inl (y 0, 25, .inl (fun _ => 0))), (q2, .inl (y 0, 25, .inl (fun _ => 0)))]) := hD
  refine lv_aload_n (cx_x X) (cx_b X) dX1_init_20 rfl (lv_at hl 0 rfl) ?_
  refine lv_bipush (v := (25 : Int32)) (cx_x X) (cx_b X) dX1_init_21 (by decide) ?_
  refine na_I X hP hD hS hA0 (N' := 25) (by decide) (by decide) (Nat.le_of_ble_eq_true rfl) (Nat.le_of_ble_eq_true rfl) (Nat.le_of_ble_eq_true rfl) dX1_init_23 (fun q3 H hP hD hS => ?_)
  replace hP : va_P D vwCl ([(q0, .inr (1, [.int (0 : Int32), .int (0 : Int32), .int (0 : Int32), .ref q1, .ref q2, .null, .null, .null])), (q1, .inl (y 0, 25, .inl (fun _ => 0))), (q2, .inl (y 0, 25, .inl (fun _ => 0))), (q3, .inl (y 0, 25, .inl (fun _ => 0)))]) H := hP
  replace hD : va_D PP ([(q0, .inr (1, [.int (0 : Int32), .int (0 : Int32), .int (0 : Int32), .ref q1, .ref q2, .null, .null, .null])), (q1, .inl (y 0, 25, .inl (fun _ => 0))), (q2, .inl (y 0, 25, .inl (fun _ => 0))), (q3, .inl (y 0, 25, .inl (fun _ => 0)))]) := hD
  refine pfW_X1_18 X hnm hP hD hS 0 rfl (v := .ref q3) rfl rfl (Nat.le_of_ble_eq_true rfl) dX1_init_25 (fun H locs hP hD hS => ?_)
  replace hP : va_P D vwCl ([(q0, .inr (1, [.int (0 : Int32), .int (0 : Int32), .int (0 : Int32), .ref q1, .ref q2, .ref q3, .null, .null])), (q1, .inl (y 0, 25, .inl (fun _ => 0))), (q2, .inl (y 0, 25, .inl (fun _ => 0))), (q3, .inl (y 0, 25, .inl (fun _ => 0)))]) H := hP
  replace hD : va_D PP ([(q0, .inr (1, [.int (0 : Int32), .int (0 : Int32), .int (0 : Int32), .ref q1, .ref q2, .ref q3, .null, .null])), (q1, .inl (y 0, 25, .inl (fun _ => 0))), (q2, .inl (y 0, 25, .inl (fun _ => 0))), (q3, .inl (y 0, 25, .inl (fun _ => 0)))]) := hD
  refine lv_aload_n (cx_x X) (cx_b X) dX1_init_28 rfl (lv_at hl 0 rfl) ?_
  refine lv_bipush (v := (25 : Int32)) (cx_x X) (cx_b X) dX1_init_29 (by decide) ?_
  refine na_I X hP hD hS hA0 (N' := 25) (by decide) (by decide) (Nat.le_of_ble_eq_true rfl) (Nat.le_of_ble_eq_true rfl) (Nat.le_of_ble_eq_true rfl) dX1_init_31 (fun q4 H hP hD hS => ?_)
  replace hP : va_P D vwCl ([(q0, .inr (1, [.int (0 : Int32), .int (0 : Int32), .int (0 : Int32), .ref q1, .ref q2, .ref q3, .null, .null])), (q1, .inl (y 0, 25, .inl (fun _ => 0))), (q2, .inl (y 0, 25, .inl (fun _ => 0))), (q3, .inl (y 0, 25, .inl (fun _ => 0))), (q4, .inl (y 0, 25, .inl (fun _ => 0)))]) H := hP
  replace hD : va_D PP ([(q0, .inr (1, [.int (0 : Int32), .int (0 : Int32), .int (0 : Int32), .ref q1, .ref q2, .ref q3, .null, .null])), (q1, .inl (y 0, 25, .inl (fun _ => 0))), (q2, .inl (y 0, 25, .inl (fun _ => 0))), (q3, .inl (y 0, 25, .inl (fun _ => 0))), (q4, .inl (y 0, 25, .inl (fun _ => 0)))]) := hD
  refine pfW_X1_21 X hnm hP hD hS 0 rfl (v := .ref q4) rfl rfl (Nat.le_of_ble_eq_true rfl) dX1_init_33 (fun H locs hP hD hS => ?_)
  replace hP : va_P D vwCl ([(q0, .inr (1, [.int (0 : Int32), .int (0 : Int32), .int (0 : Int32), .ref q1, .ref q2, .ref q3, .ref q4, .null])), (q1, .inl (y 0, 25, .inl (fun _ => 0))), (q2, .inl (y 0, 25, .inl (fun _ => 0))), (q3, .inl (y 0, 25, .inl (fun _ => 0))), (q4, .inl (y 0, 25, .inl (fun _ => 0)))]) H := hP
  replace hD : va_D PP ([(q0, .inr (1, [.int (0 : Int32), .int (0 : Int32), .int (0 : Int32), .ref q1, .ref q2, .ref q3, .ref q4, .null])), (q1, .inl (y 0, 25, .inl (fun _ => 0))), (q2, .inl (y 0, 25, .inl (fun _ => 0))), (q3, .inl (y 0, 25, .inl (fun _ => 0))), (q4, .inl (y 0, 25, .inl (fun _ => 0)))]) := hD
  refine lv_aload_n (cx_x X) (cx_b X) dX1_init_36 rfl (lv_at hl 0 rfl) ?_
  refine lv_bipush (v := (25 : Int32)) (cx_x X) (cx_b X) dX1_init_37 (by decide) ?_
  refine na_I X hP hD hS hA0 (N' := 25) (by decide) (by decide) (Nat.le_of_ble_eq_true rfl) (Nat.le_of_ble_eq_true rfl) (Nat.le_of_ble_eq_true rfl) dX1_init_39 (fun q5 H hP hD hS => ?_)
  replace hP : va_P D vwCl ([(q0, .inr (1, [.int (0 : Int32), .int (0 : Int32), .int (0 : Int32), .ref q1, .ref q2, .ref q3, .ref q4, .null])), (q1, .inl (y 0, 25, .inl (fun _ => 0))), (q2, .inl (y 0, 25, .inl (fun _ => 0))), (q3, .inl (y 0, 25, .inl (fun _ => 0))), (q4, .inl (y 0, 25, .inl (fun _ => 0))), (q5, .inl (y 0, 25, .inl (fun _ => 0)))]) H := hP
  replace hD : va_D PP ([(q0, .inr (1, [.int (0 : Int32), .int (0 : Int32), .int (0 : Int32), .ref q1, .ref q2, .ref q3, .ref q4, .null])), (q1, .inl (y 0, 25, .inl (fun _ => 0))), (q2, .inl (y 0, 25, .inl (fun _ => 0))), (q3, .inl (y 0, 25, .inl (fun _ => 0))), (q4, .inl (y 0, 25, .inl (fun _ => 0))), (q5, .inl (y 0, 25, .inl (fun _ => 0)))]) := hD
  refine pfW_X1_24 X hnm hP hD hS 0 rfl (v := .ref q5) rfl rfl (Nat.le_of_ble_eq_true rfl) dX1_init_41 (fun H locs hP hD hS => ?_)
  replace hP : va_P D vwCl ([(q0, .inr (1, [.int (0 : Int32), .int (0 : Int32), .int (0 : Int32), .ref q1, .ref q2, .ref q3, .ref q4, .ref q5])), (q1, .inl (y 0, 25, .inl (fun _ => 0))), (q2, .inl (y 0, 25, .inl (fun _ => 0))), (q3, .inl (y 0, 25, .inl (fun _ => 0))), (q4, .inl (y 0, 25, .inl (fun _ => 0))), (q5, .inl (y 0, 25, .inl (fun _ => 0)))]) H := hP
  replace hD : va_D PP ([(q0, .inr (1, [.int (0 : Int32), .int (0 : Int32), .int (0 : Int32), .ref q1, .ref q2, .ref q3, .ref q4, .ref q5])), (q1, .inl (y 0, 25, .inl (fun _ => 0))), (q2, .inl (y 0, 25, .inl (fun _ => 0))), (q3, .inl (y 0, 25, .inl (fun _ => 0))), (q4, .inl (y 0, 25, .inl (fun _ => 0))), (q5, .inl (y 0, 25, .inl (fun _ => 0)))]) := hD
  obtain ⟨B, hA0e, hPn, hA⟩ : ∃ B : Nat → Nat, B 0 = q0 ∧ va_P D vwCl (w1_s y B z_F z_R) H ∧ ap_s 6 PP B := ⟨ad_s [q0, q1, q2, q3, q4, q5], rfl, hP, ap_ofD hD rfl⟩
  subst hA0e
  replace hP := hPn
  clear hPn
  clear hD
  have hI := hA.1
  generalize z_F = G at hm hP
  generalize z_R = Q at hm hP
  unfold m1_init at hm
  refine lv_iload_n (cx_x X) (cx_b X) dX1_init_44 rfl (lv_at hl 3 rfl) ?_
  refine lv_iconst (v := (2 : Int32)) (cx_x X) (cx_b X) dX1_init_45 (by decide) ?_
  obtain ⟨qt2, hm, hmt2⟩ := bnd hm
  have Jt2 : ∀ (v1 : Int32) , m1_init_J55 G Q a1 a2 a3 a4 v1 = some (FF, RR) → ∀ (H : Heap) (locs : List Loc), va_P D vwCl (w1_s y B G Q) H → va_S PP s.heap H locs → ∀ ls, lv_has ls 7 [(0, .ref (B 0)), (1, .int a1), (2, .int a2), (3, .int a3), (4, .int a4)] → gw p l e rm_X1_init s m args below meth c none (fun H => ∃ A1 : Nat → Nat, A1 0 = (B 0) ∧ ap_s 6 PP A1 ∧ va_P D vwCl (w1_s y A1 FF RR) H) PP 5 125 H locs (F0 m 55 ls [.int v1]) := by
    intro v1 hm H locs hP hS ls hl
    unfold m1_init_J55 at hm
    refine lv_istore (lv' := [(5, .int v1), (0, .ref (B 0)), (1, .int a1), (2, .int a2), (3, .int a3), (4, .int a4)]) (cx_x X) (cx_b X) dX1_init_55 hl (by decide) rfl (fun ls hl => ?_)
    refine lv_aload_n (cx_x X) (cx_b X) dX1_init_57 rfl (lv_at hl 1 rfl) ?_
    refine lv_iload_n (cx_x X) (cx_b X) dX1_init_58 rfl (lv_at hl 2 rfl) ?_
    refine lv_iload_n (cx_x X) (cx_b X) dX1_init_59 rfl (lv_at hl 3 rfl) ?_
    refine lv_imul (cx_x X) (cx_b X) dX1_init_60 ?_
    refine pfW_X1_27 X hnm hP (apD_1 hA) hS 0 rfl (v := .int (a1 * a2)) rfl rfl (Nat.le_of_ble_eq_true rfl) dX1_init_61 (fun H locs hP _ hS => ?_)
    replace hP : va_P D vwCl (w1_s y B (va_up G 0 (a1 * a2)) Q) H := hP
    refine lv_aload_n (cx_x X) (cx_b X) dX1_init_64 rfl (lv_at hl 1 rfl) ?_
    refine lv_iload (cx_x X) (cx_b X) dX1_init_65 (lv_at hl 0 rfl) ?_
    refine lv_iload (cx_x X) (cx_b X) dX1_init_67 (lv_at hl 5 rfl) ?_
    refine lv_imul (cx_x X) (cx_b X) dX1_init_69 ?_
    refine pfW_X1_31 X hnm hP (apD_1 hA) hS 0 rfl (v := .int (v1 * a4)) rfl rfl (Nat.le_of_ble_eq_true rfl) dX1_init_70 (fun H locs hP _ hS => ?_)
    replace hP : va_P D vwCl (w1_s y B (va_up (va_up G 0 (a1 * a2)) 1 (v1 * a4)) Q) H := hP
    refine lv_aload_n (cx_x X) (cx_b X) dX1_init_73 rfl (lv_at hl 1 rfl) ?_
    refine lv_iload (cx_x X) (cx_b X) dX1_init_74 (lv_at hl 5 rfl) ?_
    refine pfW_X1_34 X hnm hP (apD_1 hA) hS 0 rfl (v := .int a4) rfl rfl (Nat.le_of_ble_eq_true rfl) dX1_init_76 (fun H locs hP _ hS => ?_)
    replace hP : va_P D vwCl (w1_s y B (va_up (va_up (va_up G 0 (a1 * a2)) 1 (v1 * a4)) 2 a4) Q) H := hP
    refine lv_aload_n (cx_x X) (cx_b X) dX1_init_79 rfl (lv_at hl 1 rfl) ?_
    refine lv_iload_n (cx_x X) (cx_b X) dX1_init_80 rfl (lv_at hl 3 rfl) ?_
    refine lv_iload_n (cx_x X) (cx_b X) dX1_init_81 rfl (lv_at hl 4 rfl) ?_
    obtain ⟨⟨F4, R5⟩, h3, hm⟩ := bnd hm
    try dsimp only at hm
    refine af_W (mc := 0) (ms := 0) (rn_V (As := [.int a2, .int a3]) (rest := []) X (c_X1_placeCells l D y B (va_up (va_up (va_up G 0 (a1 * a2)) 1 (v1 * a4)) 2 a4) Q a2 a3 F4 R5 _ hI h3) vq_X1_37 ⟨rfl, rfl⟩ ⟨Nat.le_of_ble_eq_true rfl, Nat.le_of_ble_eq_true rfl⟩ (rec_1 X hP) ⟨rfl, hP⟩ rfl hl.1 rfl (Nat.le_of_ble_eq_true rfl) dX1_init_82 ⟨Nat.le_of_ble_eq_true rfl, Nat.le_of_ble_eq_true rfl⟩) hS (rg_inP hA hA0 hS.1) (fun H locs hP _ _ hS => ?_)
    refine lv_iconst (v := (0 : Int32)) (cx_x X) (cx_b X) dX1_init_85 (by decide) ?_
    refine lv_istore (lv' := [(6, .int (0 : Int32)), (5, .int v1), (0, .ref (B 0)), (1, .int a1), (2, .int a2), (3, .int a3), (4, .int a4)]) (cx_x X) (cx_b X) dX1_init_86 hl (by decide) rfl (fun ls hl => ?_)
    obtain ⟨qt6, hm, hmt6⟩ := bnd hm
    have Xt6 : ∀ (R9 : (Nat → Nat → Int32)) , m1_init_X144 F4 R9 = some (FF, RR) → ∀ (H : Heap) (locs : List Loc), va_P D vwCl (w1_s y B F4 R9) H → va_S PP s.heap H locs → ∀ ls, lv_has ls 7 [] → gw p l e rm_X1_init s m args below meth c none (fun H => ∃ A1 : Nat → Nat, A1 0 = (B 0) ∧ ap_s 6 PP A1 ∧ va_P D vwCl (w1_s y A1 FF RR) H) PP 5 125 H locs (F0 m 144 ls []) := by
      intro R9 hm H locs hP hS ls hl
      unfold m1_init_X144 at hm
      obtain ⟨rfl, rfl⟩ := oc_2 hm
      exact gw_v X hS ⟨B, rfl, hA, hP⟩ dX1_init_144
    have Lt6 : ∀ (n : Nat) (v7 : Int32) (R8 : (Nat → Nat → Int32)) , wh (m1_init_L88 a3 v1 F4) n (v7, R8) = some qt6 → ∀ (H : Heap) (locs : List Loc), va_P D vwCl (w1_s y B F4 R8) H → va_S PP s.heap H locs → ∀ ls, lv_has ls 7 [(0, .ref (B 0)), (3, .int a3), (5, .int v1), (6, .int v7)] → gw p l e rm_X1_init s m args below meth c none (fun H => ∃ A1 : Nat → Nat, A1 0 = (B 0) ∧ ap_s 6 PP A1 ∧ va_P D vwCl (w1_s y A1 FF RR) H) PP 5 125 H locs (F0 m 88 ls []) := by
      intro n
      induction n with
      | zero => intro v7 R8 hm; cases hm
      | succ n ih =>
        intro v7 R8 hm H locs hP hS ls hl
        replace hm : (m1_init_L88 a3 v1 F4) (wh (m1_init_L88 a3 v1 F4) n) (v7, R8) = some qt6 := hm
        dsimp only [m1_init_L88] at hm
        refine lv_iload (cx_x X) (cx_b X) dX1_init_88 (lv_at hl 3 rfl) ?_
        refine lv_aload_n (cx_x X) (cx_b X) dX1_init_90 rfl (lv_at hl 0 rfl) ?_
        refine gf_X1_27 X hP dX1_init_91 ?_
        refine lv_icmp_ge (tgt := 144) (cx_x X) (cx_b X) dX1_init_94 (by decide) (fun c10 => ?_) (fun c10 => ?_)
        · replace hm := if_T c10 hm
          exact Xt6 _ (by cases hm; exact hmt6) _ _ hP hS _ (lv_sub hl [] rfl)
        · replace hm := if_F c10 hm
          refine lv_iload (cx_x X) (cx_b X) dX1_init_97 (lv_at hl 3 rfl) ?_
          refine lv_bipush (v := (25 : Int32)) (cx_x X) (cx_b X) dX1_init_99 (by decide) ?_
          refine lv_icmp_ge (tgt := 144) (cx_x X) (cx_b X) dX1_init_101 (by decide) (fun c11 => ?_) (fun c11 => ?_)
          · replace hm := if_T c11 hm
            exact Xt6 _ (by cases hm; exact hmt6) _ _ hP hS _ (lv_sub hl [] rfl)
          · replace hm := if_F c11 hm
            refine lv_aload_n (cx_x X) (cx_b X) dX1_init_104 rfl (lv_at hl 0 rfl) ?_
            refine gf_X1_21 X hP dX1_init_105 ?_
            refine lv_iload (cx_x X) (cx_b X) dX1_init_108 (lv_at hl 3 rfl) ?_
            refine lv_aload_n (cx_x X) (cx_b X) dX1_init_110 rfl (lv_at hl 0 rfl) ?_
            refine lv_aload_n (cx_x X) (cx_b X) dX1_init_111 rfl (lv_at hl 0 rfl) ?_
            refine gf_X1_18 X hP dX1_init_112 ?_
            refine lv_iload (cx_x X) (cx_b X) dX1_init_115 (lv_at hl 3 rfl) ?_
            obtain ⟨h12, hm⟩ := ck_E hm
            refine ld_1_2 X hP h12 dX1_init_117 ?_
            refine lv_iload (cx_x X) (cx_b X) dX1_init_118 (lv_at hl 2 rfl) ?_
            obtain ⟨v14, h13, hm⟩ := bnd hm
            refine af_R (rn_V (As := [.int (R8 2 v7.toNatClampNeg), .int v1]) (rest := [.int v7, .ref (B 4)]) X (c_X1_channelsOfGroup l D y B F4 R8 (R8 2 v7.toNatClampNeg) v1  _ h13) vq_X1_41 ⟨rfl, rfl⟩ ⟨Nat.le_of_ble_eq_true rfl, Nat.le_of_ble_eq_true rfl⟩ (rec_1 X hP) hP rfl hl.1 rfl (Nat.le_of_ble_eq_true rfl) dX1_init_120 ⟨Nat.le_of_ble_eq_true rfl, Nat.le_of_ble_eq_true rfl⟩) ?_
            obtain ⟨h15, hm⟩ := ck_E hm
            refine st_1_3 X hP hA hS h15 dX1_init_123 (fun H locs hP hS => ?_)
            refine lv_aload_n (cx_x X) (cx_b X) dX1_init_124 rfl (lv_at hl 0 rfl) ?_
            refine gf_X1_24 X hP dX1_init_125 ?_
            refine lv_iload (cx_x X) (cx_b X) dX1_init_128 (lv_at hl 3 rfl) ?_
            refine lv_aload_n (cx_x X) (cx_b X) dX1_init_130 rfl (lv_at hl 0 rfl) ?_
            refine lv_iload (cx_x X) (cx_b X) dX1_init_131 (lv_at hl 3 rfl) ?_
            refine lv_iload_n (cx_x X) (cx_b X) dX1_init_133 rfl (lv_at hl 1 rfl) ?_
            obtain ⟨v17, h16, hm⟩ := bnd hm
            refine af_R (rn_V (As := [.int v7, .int a3]) (rest := [.int v7, .ref (B 5)]) X (c_X1_cellsWithin l D y B F4 (va_up R8 3 (upd (R8 3) v7.toNatClampNeg v14)) v7 a3  _ h16) vq_X1_45 ⟨rfl, rfl⟩ ⟨Nat.le_of_ble_eq_true rfl, Nat.le_of_ble_eq_true rfl⟩ (rec_1 X hP) hP rfl hl.1 rfl (Nat.le_of_ble_eq_true rfl) dX1_init_134 ⟨Nat.le_of_ble_eq_true rfl, Nat.le_of_ble_eq_true rfl⟩) ?_
            obtain ⟨h18, hm⟩ := ck_E hm
            refine st_1_4 X hP hA hS h18 dX1_init_137 (fun H locs hP hS => ?_)
            refine lv_iinc (v := (v7 + (1 : Int32))) (lv' := [(6, .int (v7 + (1 : Int32))), (0, .ref (B 0)), (3, .int a3), (5, .int v1)]) (cx_x X) (cx_b X) dX1_init_138 hl (k := 3) rfl (by rfl) (by decide) rfl (fun ls hl => ?_)
            refine lv_goto (tgt := 88) (cx_x X) (cx_b X) dX1_init_141 (by decide) ?_
            exact ih _ _ hm _ _ hP hS _ (lv_sub hl [1, 2, 3, 0] rfl)
    exact Lt6 _ _ _ hm _ _ hP hS _ (lv_sub hl [2, 5, 1, 0] rfl)
  refine lv_icmp_ne (tgt := 53) (cx_x X) (cx_b X) dX1_init_46 (by decide) (fun c19 => ?_) (fun c19 => ?_)
  · replace hm := if_F c19 hm
    refine lv_bipush (v := (7 : Int32)) (cx_x X) (cx_b X) dX1_init_53 (by decide) ?_
    exact Jt2 _ (by cases hm; exact hmt2) _ _ hP hS _ (lv_sub hl [0, 1, 2, 3, 4] rfl)
  · replace hm := if_T c19 hm
    refine lv_iconst (v := (3 : Int32)) (cx_x X) (cx_b X) dX1_init_49 (by decide) ?_
    refine lv_goto (tgt := 55) (cx_x X) (cx_b X) dX1_init_50 (by decide) ?_
    exact Jt2 _ (by cases hm; exact hmt2) _ _ hP hS _ (lv_sub hl [0, 1, 2, 3, 4] rfl)
abbrev rm_X2_init : Room := { frames := 2, cells := 4, slots := 205, locals := 44 }
set_option maxHeartbeats 4000000 in
set_option maxRecDepth 100000 in
theorem c_X2_init (l : Launch) (D : va_G) (y : Nat → ClassId) (q0 sz : Nat) (b : Nat) : Met l yX2_init (wy_s yX2_init cX2_init 2 none) rm_X2_init (pc_R D y [.ref q0, .ref b] (fun H => H.size = sz ∧ va_P D vwCl ([(q0, .inr (2, [.null, .int (0 : Int32), .int (0 : Int32), .int (0 : Int32), .int (0 : Int32), .int (0 : Int32), .int (0 : Int32), .int (0 : Int32), .int (0 : Int32), .int (0 : Int32), .int (0 : Int32), .null, .null, .null, .null]))]) H)) (qc_W none (fun H => ∃ A1 : Nat → Nat, A1 0 = q0 ∧ ap_s 5 (rg_s 1 (fun _ => q0) sz) A1 ∧ va_P D vwCl (w2_s y b A1 (nb_F ni_F) nb_R) H) (rg_s 1 (fun _ => q0) sz)) 4 205 (rg_s 1 (fun _ => q0) sz) := by
  refine met_W (by decide) (Nat.le_of_ble_eq_true rfl) ?_
  intro p e s m args below meth c X hnm h0 ls hl
  obtain ⟨hsz, hP⟩ := h0
  subst hsz
  have hA0 : ∀ q, s.heap.size ≤ q → rg_s 1 (fun _ => q0) s.heap.size q := rg_ge
  have hS : va_S (rg_s 1 (fun _ => q0) s.heap.size) s.heap s.heap [] := va_S.rf
  have hD : va_D (rg_s 1 (fun _ => q0) s.heap.size) ([(q0, .inr (2, [.null, .int (0 : Int32), .int (0 : Int32), .int (0 : Int32), .int (0 : Int32), .int (0 : Int32), .int (0 : Int32), .int (0 : Int32), .int (0 : Int32), .int (0 : Int32), .int (0 : Int32), .null, .null, .null, .null]))]) := ap_D (n := 1) (A := fun _ => q0) (ap_of (fun i j hi hj _ => by omega)) rfl
  generalize hPP : rg_s 1 (fun _ => q0) s.heap.size = PP at hS hD hA0 ⊢
  replace hl : lv_has ls 2 [(0, .ref q0), (1, .ref b)] := hl
  replace X : cx p s m args meth c cX2_init 2 none RX2 D y := X
  refine lv_aload_n (cx_x X) (cx_b X) dX2_init_0 rfl (lv_at hl 0 rfl) ?_
  refine ob_0 X hl.1 qw_68 qw_7 qw_8 (Nat.le_of_ble_eq_true rfl) dX2_init_1 (Nat.le_of_ble_eq_true rfl) (Nat.le_of_ble_eq_true rfl) ?_
  refine lv_aload_n (cx_x X) (cx_b X) dX2_init_4 rfl (lv_at hl 0 rfl) ?_
  refine lv_iconst (v := (1 : Int32)) (cx_x X) (cx_b X) dX2_init_5 (by decide) ?_
  refine pfW_X2_9 X hP hD hS 0 rfl (v := .int (1 : Int32)) rfl rfl (Nat.le_of_ble_eq_true rfl) dX2_init_6 (fun H locs hP hD hS => ?_)
  replace hP : va_P D vwCl ([(q0, .inr (2, [.null, .int (0 : Int32), .int (0 : Int32), .int (1 : Int32), .int (0 : Int32), .int (0 : Int32), .int (0 : Int32), .int (0 : Int32), .int (0 : Int32), .int (0 : Int32), .int (0 : Int32), .null, .null, .null, .null]))]) H := hP
  replace hD : va_D PP ([(q0, .inr (2, [.null, .int (0 : Int32), .int (0 : Int32), .int (1 : Int32), .int (0 : Int32), .int (0 : Int32), .int (0 : Int32), .int (0 : Int32), .int (0 : Int32), .int (0 : Int32), .int (0 : Int32), .null, .null, .null, .null]))]) := hD
  refine lv_aload_n (cx_x X) (cx_b X) dX2_init_9 rfl (lv_at hl 0 rfl) ?_
  refine lv_bipush (v := (60 : Int32)) (cx_x X) (cx_b X) dX2_init_10 (by decide) ?_
  refine na_I X hP hD hS hA0 (N' := 60) (by decide) (by decide) (Nat.le_of_ble_eq_true rfl) (Nat.le_of_ble_eq_true rfl) (Nat.le_of_ble_eq_true rfl) dX2_init_12 (fun q1 H hP hD hS => ?_)
  replace hP : va_P D vwCl ([(q0, .inr (2, [.null, .int (0 : Int32), .int (0 : Int32), .int (1 : Int32), .int (0 : Int32), .int (0 : Int32), .int (0 : Int32), .int (0 : Int32), .int (0 : Int32), .int (0 : Int32), .int (0 : Int32), .null, .null, .null, .null])), (q1, .inl (y 0, 60, .inl (fun _ => 0)))]) H := hP
  replace hD : va_D PP ([(q0, .inr (2, [.null, .int (0 : Int32), .int (0 : Int32), .int (1 : Int32), .int (0 : Int32), .int (0 : Int32), .int (0 : Int32), .int (0 : Int32), .int (0 : Int32), .int (0 : Int32), .int (0 : Int32), .null, .null, .null, .null])), (q1, .inl (y 0, 60, .inl (fun _ => 0)))]) := hD
  refine pfW_X2_15 X hnm hP hD hS 0 rfl (v := .ref q1) rfl rfl (Nat.le_of_ble_eq_true rfl) dX2_init_14 (fun H locs hP hD hS => ?_)
  replace hP : va_P D vwCl ([(q0, .inr (2, [.null, .int (0 : Int32), .int (0 : Int32), .int (1 : Int32), .int (0 : Int32), .int (0 : Int32), .int (0 : Int32), .int (0 : Int32), .int (0 : Int32), .int (0 : Int32), .int (0 : Int32), .ref q1, .null, .null, .null])), (q1, .inl (y 0, 60, .inl (fun _ => 0)))]) H := hP
  replace hD : va_D PP ([(q0, .inr (2, [.null, .int (0 : Int32), .int (0 : Int32), .int (1 : Int32), .int (0 : Int32), .int (0 : Int32), .int (0 : Int32), .int (0 : Int32), .int (0 : Int32), .int (0 : Int32), .int (0 : Int32), .ref q1, .null, .null, .null])), (q1, .inl (y 0, 60, .inl (fun _ => 0)))]) := hD
  refine lv_aload_n (cx_x X) (cx_b X) dX2_init_17 rfl (lv_at hl 0 rfl) ?_
  refine lv_bipush (v := (60 : Int32)) (cx_x X) (cx_b X) dX2_init_18 (by decide) ?_
  refine na_I X hP hD hS hA0 (N' := 60) (by decide) (by decide) (Nat.le_of_ble_eq_true rfl) (Nat.le_of_ble_eq_true rfl) (Nat.le_of_ble_eq_true rfl) dX2_init_20 (fun q2 H hP hD hS => ?_)
  replace hP : va_P D vwCl ([(q0, .inr (2, [.null, .int (0 : Int32), .int (0 : Int32), .int (1 : Int32), .int (0 : Int32), .int (0 : Int32), .int (0 : Int32), .int (0 : Int32), .int (0 : Int32), .int (0 : Int32), .int (0 : Int32), .ref q1, .null, .null, .null])), (q1, .inl (y 0, 60, .inl (fun _ => 0))), (q2, .inl (y 0, 60, .inl (fun _ => 0)))]) H := hP
  replace hD : va_D PP ([(q0, .inr (2, [.null, .int (0 : Int32), .int (0 : Int32), .int (1 : Int32), .int (0 : Int32), .int (0 : Int32), .int (0 : Int32), .int (0 : Int32), .int (0 : Int32), .int (0 : Int32), .int (0 : Int32), .ref q1, .null, .null, .null])), (q1, .inl (y 0, 60, .inl (fun _ => 0))), (q2, .inl (y 0, 60, .inl (fun _ => 0)))]) := hD
  refine pfW_X2_19 X hnm hP hD hS 0 rfl (v := .ref q2) rfl rfl (Nat.le_of_ble_eq_true rfl) dX2_init_22 (fun H locs hP hD hS => ?_)
  replace hP : va_P D vwCl ([(q0, .inr (2, [.null, .int (0 : Int32), .int (0 : Int32), .int (1 : Int32), .int (0 : Int32), .int (0 : Int32), .int (0 : Int32), .int (0 : Int32), .int (0 : Int32), .int (0 : Int32), .int (0 : Int32), .ref q1, .ref q2, .null, .null])), (q1, .inl (y 0, 60, .inl (fun _ => 0))), (q2, .inl (y 0, 60, .inl (fun _ => 0)))]) H := hP
  replace hD : va_D PP ([(q0, .inr (2, [.null, .int (0 : Int32), .int (0 : Int32), .int (1 : Int32), .int (0 : Int32), .int (0 : Int32), .int (0 : Int32), .int (0 : Int32), .int (0 : Int32), .int (0 : Int32), .int (0 : Int32), .ref q1, .ref q2, .null, .null])), (q1, .inl (y 0, 60, .inl (fun _ => 0))), (q2, .inl (y 0, 60, .inl (fun _ => 0)))]) := hD
  refine lv_aload_n (cx_x X) (cx_b X) dX2_init_25 rfl (lv_at hl 0 rfl) ?_
  refine lv_bipush (v := (60 : Int32)) (cx_x X) (cx_b X) dX2_init_26 (by decide) ?_
  refine na_I X hP hD hS hA0 (N' := 60) (by decide) (by decide) (Nat.le_of_ble_eq_true rfl) (Nat.le_of_ble_eq_true rfl) (Nat.le_of_ble_eq_true rfl) dX2_init_28 (fun q3 H hP hD hS => ?_)
  replace hP : va_P D vwCl ([(q0, .inr (2, [.null, .int (0 : Int32), .int (0 : Int32), .int (1 : Int32), .int (0 : Int32), .int (0 : Int32), .int (0 : Int32), .int (0 : Int32), .int (0 : Int32), .int (0 : Int32), .int (0 : Int32), .ref q1, .ref q2, .null, .null])), (q1, .inl (y 0, 60, .inl (fun _ => 0))), (q2, .inl (y 0, 60, .inl (fun _ => 0))), (q3, .inl (y 0, 60, .inl (fun _ => 0)))]) H := hP
  replace hD : va_D PP ([(q0, .inr (2, [.null, .int (0 : Int32), .int (0 : Int32), .int (1 : Int32), .int (0 : Int32), .int (0 : Int32), .int (0 : Int32), .int (0 : Int32), .int (0 : Int32), .int (0 : Int32), .int (0 : Int32), .ref q1, .ref q2, .null, .null])), (q1, .inl (y 0, 60, .inl (fun _ => 0))), (q2, .inl (y 0, 60, .inl (fun _ => 0))), (q3, .inl (y 0, 60, .inl (fun _ => 0)))]) := hD
  refine pfW_X2_22 X hnm hP hD hS 0 rfl (v := .ref q3) rfl rfl (Nat.le_of_ble_eq_true rfl) dX2_init_30 (fun H locs hP hD hS => ?_)
  replace hP : va_P D vwCl ([(q0, .inr (2, [.null, .int (0 : Int32), .int (0 : Int32), .int (1 : Int32), .int (0 : Int32), .int (0 : Int32), .int (0 : Int32), .int (0 : Int32), .int (0 : Int32), .int (0 : Int32), .int (0 : Int32), .ref q1, .ref q2, .ref q3, .null])), (q1, .inl (y 0, 60, .inl (fun _ => 0))), (q2, .inl (y 0, 60, .inl (fun _ => 0))), (q3, .inl (y 0, 60, .inl (fun _ => 0)))]) H := hP
  replace hD : va_D PP ([(q0, .inr (2, [.null, .int (0 : Int32), .int (0 : Int32), .int (1 : Int32), .int (0 : Int32), .int (0 : Int32), .int (0 : Int32), .int (0 : Int32), .int (0 : Int32), .int (0 : Int32), .int (0 : Int32), .ref q1, .ref q2, .ref q3, .null])), (q1, .inl (y 0, 60, .inl (fun _ => 0))), (q2, .inl (y 0, 60, .inl (fun _ => 0))), (q3, .inl (y 0, 60, .inl (fun _ => 0)))]) := hD
  refine lv_aload_n (cx_x X) (cx_b X) dX2_init_33 rfl (lv_at hl 0 rfl) ?_
  refine lv_bipush (v := (25 : Int32)) (cx_x X) (cx_b X) dX2_init_34 (by decide) ?_
  refine na_I X hP hD hS hA0 (N' := 25) (by decide) (by decide) (Nat.le_of_ble_eq_true rfl) (Nat.le_of_ble_eq_true rfl) (Nat.le_of_ble_eq_true rfl) dX2_init_36 (fun q4 H hP hD hS => ?_)
  replace hP : va_P D vwCl ([(q0, .inr (2, [.null, .int (0 : Int32), .int (0 : Int32), .int (1 : Int32), .int (0 : Int32), .int (0 : Int32), .int (0 : Int32), .int (0 : Int32), .int (0 : Int32), .int (0 : Int32), .int (0 : Int32), .ref q1, .ref q2, .ref q3, .null])), (q1, .inl (y 0, 60, .inl (fun _ => 0))), (q2, .inl (y 0, 60, .inl (fun _ => 0))), (q3, .inl (y 0, 60, .inl (fun _ => 0))), (q4, .inl (y 0, 25, .inl (fun _ => 0)))]) H := hP
  replace hD : va_D PP ([(q0, .inr (2, [.null, .int (0 : Int32), .int (0 : Int32), .int (1 : Int32), .int (0 : Int32), .int (0 : Int32), .int (0 : Int32), .int (0 : Int32), .int (0 : Int32), .int (0 : Int32), .int (0 : Int32), .ref q1, .ref q2, .ref q3, .null])), (q1, .inl (y 0, 60, .inl (fun _ => 0))), (q2, .inl (y 0, 60, .inl (fun _ => 0))), (q3, .inl (y 0, 60, .inl (fun _ => 0))), (q4, .inl (y 0, 25, .inl (fun _ => 0)))]) := hD
  refine pfW_X2_25 X hnm hP hD hS 0 rfl (v := .ref q4) rfl rfl (Nat.le_of_ble_eq_true rfl) dX2_init_38 (fun H locs hP hD hS => ?_)
  replace hP : va_P D vwCl ([(q0, .inr (2, [.null, .int (0 : Int32), .int (0 : Int32), .int (1 : Int32), .int (0 : Int32), .int (0 : Int32), .int (0 : Int32), .int (0 : Int32), .int (0 : Int32), .int (0 : Int32), .int (0 : Int32), .ref q1, .ref q2, .ref q3, .ref q4])), (q1, .inl (y 0, 60, .inl (fun _ => 0))), (q2, .inl (y 0, 60, .inl (fun _ => 0))), (q3, .inl (y 0, 60, .inl (fun _ => 0))), (q4, .inl (y 0, 25, .inl (fun _ => 0)))]) H := hP
  replace hD : va_D PP ([(q0, .inr (2, [.null, .int (0 : Int32), .int (0 : Int32), .int (1 : Int32), .int (0 : Int32), .int (0 : Int32), .int (0 : Int32), .int (0 : Int32), .int (0 : Int32), .int (0 : Int32), .int (0 : Int32), .ref q1, .ref q2, .ref q3, .ref q4])), (q1, .inl (y 0, 60, .inl (fun _ => 0))), (q2, .inl (y 0, 60, .inl (fun _ => 0))), (q3, .inl (y 0, 60, .inl (fun _ => 0))), (q4, .inl (y 0, 25, .inl (fun _ => 0)))]) := hD
  obtain ⟨A, hA0e, hPn, hA⟩ : ∃ A : Nat → Nat, A 0 = q0 ∧ va_P D vwCl (w2v_s y .null A ni_F z_R) H ∧ ap_s 5 PP A := ⟨ad_s [q0, q1, q2, q3, q4], rfl, hP, ap_ofD hD rfl⟩
  subst hA0e
  replace hP := hPn
  clear hPn
  clear hD
  refine lv_aload_n (cx_x X) (cx_b X) dX2_init_41 rfl (lv_at hl 0 rfl) ?_
  refine lv_aload_n (cx_x X) (cx_b X) dX2_init_42 rfl (lv_at hl 1 rfl) ?_
  refine af_W (mc := 0) (ms := 0) (rn_V (As := [.ref b]) (rest := []) X (c_X2_begin l D y A .null b ni_F z_R _ hA.1) vq_X2_28 ⟨rfl, rfl⟩ ⟨Nat.le_of_ble_eq_true rfl, Nat.le_of_ble_eq_true rfl⟩ (va_recv (cx_K X).1 hP (ci := 2) (q0 := 0) rfl rfl) ⟨rfl, hP⟩ rfl hl.1 rfl (Nat.le_of_ble_eq_true rfl) dX2_init_43 ⟨Nat.le_of_ble_eq_true rfl, Nat.le_of_ble_eq_true rfl⟩) hS (rg_inP hA hA0 hS.1) (fun H locs hP _ _ hS => ?_)
  exact gw_v X hS ⟨A, rfl, hA, hP⟩ dX2_init_46
abbrev rm_X3_init : Room := { frames := 1, cells := 4, slots := 199, locals := 20 }
set_option maxHeartbeats 4000000 in
set_option maxRecDepth 100000 in
theorem c_X3_init (l : Launch) (D : va_G) (y : Nat → ClassId) (q0 sz : Nat) : Met l yX3_init (wy_s yX3_init cX3_init 1 none) rm_X3_init (pc_R D y [.ref q0] (fun H => H.size = sz ∧ va_P D vwCl ([(q0, .inr (3, [.int (0 : Int32), .int (0 : Int32), .int (0 : Int32), .null, .null, .null, .null]))]) H)) (qc_W none (fun H => ∃ A1 : Nat → Nat, A1 0 = q0 ∧ ap_s 5 (rg_s 1 (fun _ => q0) sz) A1 ∧ va_P D vwCl (w3_s y A1 z_F z_R) H) (rg_s 1 (fun _ => q0) sz)) 4 199 (rg_s 1 (fun _ => q0) sz) := by
  refine met_W (by decide) (Nat.le_of_ble_eq_true rfl) ?_
  intro p e s m args below meth c X hnm h0 ls hl
  obtain ⟨hsz, hP⟩ := h0
  subst hsz
  have hA0 : ∀ q, s.heap.size ≤ q → rg_s 1 (fun _ => q0) s.heap.size q := rg_ge
  have hS : va_S (rg_s 1 (fun _ => q0) s.heap.size) s.heap s.heap [] := va_S.rf
  have hD : va_D (rg_s 1 (fun _ => q0) s.heap.size) ([(q0, .inr (3, [.int (0 : Int32), .int (0 : Int32), .int (0 : Int32), .null, .null, .null, .null]))]) := ap_D (n := 1) (A := fun _ => q0) (ap_of (fun i j hi hj _ => by omega)) rfl
  generalize hPP : rg_s 1 (fun _ => q0) s.heap.size = PP at hS hD hA0 ⊢
  replace hl : lv_has ls 1 [(0, .ref q0)] := hl
  replace X : cx p s m args meth c cX3_init 1 none RX3 D y := X
  refine lv_aload_n (cx_x X) (cx_b X) dX3_init_0 rfl (lv_at hl 0 rfl) ?_
  refine ob_0 X hl.1 qw_99 qw_7 qw_8 (Nat.le_of_ble_eq_true rfl) dX3_init_1 (Nat.le_of_ble_eq_true rfl) (Nat.le_of_ble_eq_true rfl) ?_
  refine lv_aload_n (cx_x X) (cx_b X) dX3_init_4 rfl (lv_at hl 0 rfl) ?_
  refine lv_bipush (v := (33 : Int32)) (cx_x X) (cx_b X) dX3_init_5 (by decide) ?_
  refine na_I X hP hD hS hA0 (N' := 33) (by decide) (by decide) (Nat.le_of_ble_eq_true rfl) (Nat.le_of_ble_eq_true rfl) (Nat.le_of_ble_eq_true rfl) dX3_init_7 (fun q1 H hP hD hS => ?_)
  replace hP : va_P D vwCl ([(q0, .inr (3, [.int (0 : Int32), .int (0 : Int32), .int (0 : Int32), .null, .null, .null, .null])), (q1, .inl (y 0, 33, .inl (fun _ => 0)))]) H := hP
  replace hD : va_D PP ([(q0, .inr (3, [.int (0 : Int32), .int (0 : Int32), .int (0 : Int32), .null, .null, .null, .null])), (q1, .inl (y 0, 33, .inl (fun _ => 0)))]) := hD
  refine pfW_X3_9 X hnm hP hD hS 0 rfl (v := .ref q1) rfl rfl (Nat.le_of_ble_eq_true rfl) dX3_init_9 (fun H locs hP hD hS => ?_)
  replace hP : va_P D vwCl ([(q0, .inr (3, [.int (0 : Int32), .int (0 : Int32), .int (0 : Int32), .ref q1, .null, .null, .null])), (q1, .inl (y 0, 33, .inl (fun _ => 0)))]) H := hP
  replace hD : va_D PP ([(q0, .inr (3, [.int (0 : Int32), .int (0 : Int32), .int (0 : Int32), .ref q1, .null, .null, .null])), (q1, .inl (y 0, 33, .inl (fun _ => 0)))]) := hD
  refine lv_aload_n (cx_x X) (cx_b X) dX3_init_12 rfl (lv_at hl 0 rfl) ?_
  refine lv_bipush (v := (33 : Int32)) (cx_x X) (cx_b X) dX3_init_13 (by decide) ?_
  refine na_I X hP hD hS hA0 (N' := 33) (by decide) (by decide) (Nat.le_of_ble_eq_true rfl) (Nat.le_of_ble_eq_true rfl) (Nat.le_of_ble_eq_true rfl) dX3_init_15 (fun q2 H hP hD hS => ?_)
  replace hP : va_P D vwCl ([(q0, .inr (3, [.int (0 : Int32), .int (0 : Int32), .int (0 : Int32), .ref q1, .null, .null, .null])), (q1, .inl (y 0, 33, .inl (fun _ => 0))), (q2, .inl (y 0, 33, .inl (fun _ => 0)))]) H := hP
  replace hD : va_D PP ([(q0, .inr (3, [.int (0 : Int32), .int (0 : Int32), .int (0 : Int32), .ref q1, .null, .null, .null])), (q1, .inl (y 0, 33, .inl (fun _ => 0))), (q2, .inl (y 0, 33, .inl (fun _ => 0)))]) := hD
  refine pfW_X3_15 X hnm hP hD hS 0 rfl (v := .ref q2) rfl rfl (Nat.le_of_ble_eq_true rfl) dX3_init_17 (fun H locs hP hD hS => ?_)
  replace hP : va_P D vwCl ([(q0, .inr (3, [.int (0 : Int32), .int (0 : Int32), .int (0 : Int32), .ref q1, .ref q2, .null, .null])), (q1, .inl (y 0, 33, .inl (fun _ => 0))), (q2, .inl (y 0, 33, .inl (fun _ => 0)))]) H := hP
  replace hD : va_D PP ([(q0, .inr (3, [.int (0 : Int32), .int (0 : Int32), .int (0 : Int32), .ref q1, .ref q2, .null, .null])), (q1, .inl (y 0, 33, .inl (fun _ => 0))), (q2, .inl (y 0, 33, .inl (fun _ => 0)))]) := hD
  refine lv_aload_n (cx_x X) (cx_b X) dX3_init_20 rfl (lv_at hl 0 rfl) ?_
  refine lv_bipush (v := (33 : Int32)) (cx_x X) (cx_b X) dX3_init_21 (by decide) ?_
  refine na_I X hP hD hS hA0 (N' := 33) (by decide) (by decide) (Nat.le_of_ble_eq_true rfl) (Nat.le_of_ble_eq_true rfl) (Nat.le_of_ble_eq_true rfl) dX3_init_23 (fun q3 H hP hD hS => ?_)
  replace hP : va_P D vwCl ([(q0, .inr (3, [.int (0 : Int32), .int (0 : Int32), .int (0 : Int32), .ref q1, .ref q2, .null, .null])), (q1, .inl (y 0, 33, .inl (fun _ => 0))), (q2, .inl (y 0, 33, .inl (fun _ => 0))), (q3, .inl (y 0, 33, .inl (fun _ => 0)))]) H := hP
  replace hD : va_D PP ([(q0, .inr (3, [.int (0 : Int32), .int (0 : Int32), .int (0 : Int32), .ref q1, .ref q2, .null, .null])), (q1, .inl (y 0, 33, .inl (fun _ => 0))), (q2, .inl (y 0, 33, .inl (fun _ => 0))), (q3, .inl (y 0, 33, .inl (fun _ => 0)))]) := hD
  refine pfW_X3_18 X hnm hP hD hS 0 rfl (v := .ref q3) rfl rfl (Nat.le_of_ble_eq_true rfl) dX3_init_25 (fun H locs hP hD hS => ?_)
  replace hP : va_P D vwCl ([(q0, .inr (3, [.int (0 : Int32), .int (0 : Int32), .int (0 : Int32), .ref q1, .ref q2, .ref q3, .null])), (q1, .inl (y 0, 33, .inl (fun _ => 0))), (q2, .inl (y 0, 33, .inl (fun _ => 0))), (q3, .inl (y 0, 33, .inl (fun _ => 0)))]) H := hP
  replace hD : va_D PP ([(q0, .inr (3, [.int (0 : Int32), .int (0 : Int32), .int (0 : Int32), .ref q1, .ref q2, .ref q3, .null])), (q1, .inl (y 0, 33, .inl (fun _ => 0))), (q2, .inl (y 0, 33, .inl (fun _ => 0))), (q3, .inl (y 0, 33, .inl (fun _ => 0)))]) := hD
  refine lv_aload_n (cx_x X) (cx_b X) dX3_init_28 rfl (lv_at hl 0 rfl) ?_
  refine lv_bipush (v := (100 : Int32)) (cx_x X) (cx_b X) dX3_init_29 (by decide) ?_
  refine na_I X hP hD hS hA0 (N' := 100) (by decide) (by decide) (Nat.le_of_ble_eq_true rfl) (Nat.le_of_ble_eq_true rfl) (Nat.le_of_ble_eq_true rfl) dX3_init_31 (fun q4 H hP hD hS => ?_)
  replace hP : va_P D vwCl ([(q0, .inr (3, [.int (0 : Int32), .int (0 : Int32), .int (0 : Int32), .ref q1, .ref q2, .ref q3, .null])), (q1, .inl (y 0, 33, .inl (fun _ => 0))), (q2, .inl (y 0, 33, .inl (fun _ => 0))), (q3, .inl (y 0, 33, .inl (fun _ => 0))), (q4, .inl (y 0, 100, .inl (fun _ => 0)))]) H := hP
  replace hD : va_D PP ([(q0, .inr (3, [.int (0 : Int32), .int (0 : Int32), .int (0 : Int32), .ref q1, .ref q2, .ref q3, .null])), (q1, .inl (y 0, 33, .inl (fun _ => 0))), (q2, .inl (y 0, 33, .inl (fun _ => 0))), (q3, .inl (y 0, 33, .inl (fun _ => 0))), (q4, .inl (y 0, 100, .inl (fun _ => 0)))]) := hD
  refine pfW_X3_21 X hnm hP hD hS 0 rfl (v := .ref q4) rfl rfl (Nat.le_of_ble_eq_true rfl) dX3_init_33 (fun H locs hP hD hS => ?_)
  replace hP : va_P D vwCl ([(q0, .inr (3, [.int (0 : Int32), .int (0 : Int32), .int (0 : Int32), .ref q1, .ref q2, .ref q3, .ref q4])), (q1, .inl (y 0, 33, .inl (fun _ => 0))), (q2, .inl (y 0, 33, .inl (fun _ => 0))), (q3, .inl (y 0, 33, .inl (fun _ => 0))), (q4, .inl (y 0, 100, .inl (fun _ => 0)))]) H := hP
  replace hD : va_D PP ([(q0, .inr (3, [.int (0 : Int32), .int (0 : Int32), .int (0 : Int32), .ref q1, .ref q2, .ref q3, .ref q4])), (q1, .inl (y 0, 33, .inl (fun _ => 0))), (q2, .inl (y 0, 33, .inl (fun _ => 0))), (q3, .inl (y 0, 33, .inl (fun _ => 0))), (q4, .inl (y 0, 100, .inl (fun _ => 0)))]) := hD
  obtain ⟨E, hA0e, hPn, hA⟩ : ∃ E : Nat → Nat, E 0 = q0 ∧ va_P D vwCl (w3_s y E z_F z_R) H ∧ ap_s 5 PP E := ⟨ad_s [q0, q1, q2, q3, q4], rfl, hP, ap_ofD hD rfl⟩
  subst hA0e
  replace hP := hPn
  clear hPn
  clear hD
  exact gw_v X hS ⟨E, rfl, hA, hP⟩ dX3_init_36
