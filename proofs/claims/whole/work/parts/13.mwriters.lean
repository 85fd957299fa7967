/-! X5_note -/
def m5_note_X86 (F1 : (Nat → Int32)) (R7 : (Nat → Nat → Int32)) : Option ((Nat → Int32) × (Nat → Nat → Int32)) :=
  some ((va_up F1 2 ((F1 2) + (1 : Int32))), R7)
def m5_note_L52 (F1 : (Nat → Int32)) (kkt4 : (Int32 × (Nat → Nat → Int32)) → Option (Nat → Nat → Int32)) (t0 : (Int32 × (Nat → Nat → Int32))) : Option (Nat → Nat → Int32) :=
  if (194 : Int32) ≤ t0.1 then
  some t0.2
  else
  if inb t0.1 194 then
  if inb (((194 : Int32) * (F1 2)) + t0.1) 1164 then
  kkt4 ((t0.1 + (1 : Int32)), (va_up t0.2 1 (upd (t0.2 1) (((194 : Int32) * (F1 2)) + t0.1).toNatClampNeg (t0.2 0 t0.1.toNatClampNeg)))) else none else none
def m5_note_J50  (F1 : (Nat → Int32)) (R2 : (Nat → Nat → Int32)) : Option ((Nat → Int32) × (Nat → Nat → Int32)) :=
  (wh (m5_note_L52 F1) 2000 ((0 : Int32), R2)).bind fun R7 => m5_note_X86 F1 R7
def m5_note_X40 (F : (Nat → Int32)) (R15 : (Nat → Nat → Int32)) : Option ((Nat → Int32) × (Nat → Nat → Int32)) :=
  some ((va_up F 2 ((F 2) - (1 : Int32))), R15)
def m5_note_L11  (kkt12 : (Int32 × (Nat → Nat → Int32)) → Option (Nat → Nat → Int32)) (t0 : (Int32 × (Nat → Nat → Int32))) : Option (Nat → Nat → Int32) :=
  if (970 : Int32) ≤ t0.1 then
  some t0.2
  else
  if inb (t0.1 + (194 : Int32)) 1164 then
  if inb t0.1 1164 then
  kkt12 ((t0.1 + (1 : Int32)), (va_up t0.2 1 (upd (t0.2 1) t0.1.toNatClampNeg (t0.2 1 (t0.1 + (194 : Int32)).toNatClampNeg)))) else none else none
def m5_note (F : (Nat → Int32)) (R : (Nat → Nat → Int32)) : Option ((Nat → Int32) × (Nat → Nat → Int32)) :=
  (if (F 2) = (6 : Int32) then
  (wh (m5_note_L11) 2000 ((0 : Int32), R)).bind fun R15 => m5_note_X40 F R15
  else
  some (F, R)).bind fun ⟨F1, R2⟩ => m5_note_J50 F1 R2
abbrev rm_X5_note : Room := { frames := 0, cells := 0, slots := 0, locals := 0 }
set_option maxHeartbeats 4000000 in
set_option maxRecDepth 100000 in
theorem c_X5_note (l : Launch) (D : va_G) (y : Nat → ClassId) (A : Nat → Nat) (F : (Nat → Int32)) (R : (Nat → Nat → Int32)) (FF9 : (Nat → Int32)) (RR9 : (Nat → Nat → Int32)) (sz : Nat) (hI : aj_s 7 A) (hm : m5_note F R = some (FF9, RR9)) : Met l yX5_note (wy_s yX5_note cX5_note 2 none) rm_X5_note (pc_R D y [.ref (A 0)] (fun H => H.size = sz ∧ va_P D vwCl (w5_s y A F R) H)) (qc_W none (fun H => va_P D vwCl (w5_s y A FF9 RR9) H) (rg_s 7 A sz)) 0 0 (rg_s 7 A sz) := by
  refine met_W (by decide) (Nat.le_of_ble_eq_true rfl) ?_
  intro p e s m args below meth c X hnm h0 ls hl
  obtain ⟨hsz, hP⟩ := h0
  subst hsz
  have hA := ap_of (sz := s.heap.size) hI
  have hS : va_S (rg_s 7 A s.heap.size) s.heap s.heap [] := va_S.rf
  replace hl : lv_has ls 2 [(0, .ref (A 0))] := hl
  replace X : cx p s m args meth c cX5_note 2 none RX5 D y := X
  unfold m5_note at hm
  refine lv_aload_n (cx_x X) (cx_b X) dX5_note_0 rfl (lv_at hl 0 rfl) ?_
  refine gf_X5_30 X hP dX5_note_1 ?_
  refine lv_bipush (v := (6 : Int32)) (cx_x X) (cx_b X) dX5_note_4 (by decide) ?_
  obtain ⟨qt3, hm, hmt3⟩ := bnd hm
  have Jt3 : ∀ (F1 : (Nat → Int32)) (R2 : (Nat → Nat → Int32)) , m5_note_J50 F1 R2 = some (FF9, RR9) → ∀ (H : Heap) (locs : List Loc), va_P D vwCl (w5_s y A F1 R2) H → va_S (rg_s 7 A s.heap.size) s.heap H locs → ∀ ls, lv_has ls 2 [(0, .ref (A 0))] → gw p l e rm_X5_note s m args below meth c none (fun H => va_P D vwCl (w5_s y A FF9 RR9) H) (rg_s 7 A s.heap.size) 0 0 H locs (F0 m 50 ls []) := by
    intro F1 R2 hm H locs hP hS ls hl
    unfold m5_note_J50 at hm
    refine lv_iconst (v := (0 : Int32)) (cx_x X) (cx_b X) dX5_note_50 (by decide) ?_
    refine lv_istore_n (lv' := [(1, .int (0 : Int32)), (0, .ref (A 0))]) (cx_x X) (cx_b X) dX5_note_51 rfl hl (by decide) rfl (fun ls hl => ?_)
    obtain ⟨qt4, hm, hmt4⟩ := bnd hm
    have Xt4 : ∀ (R7 : (Nat → Nat → Int32)) , m5_note_X86 F1 R7 = some (FF9, RR9) → ∀ (H : Heap) (locs : List Loc), va_P D vwCl (w5_s y A F1 R7) H → va_S (rg_s 7 A s.heap.size) s.heap H locs → ∀ ls, lv_has ls 2 [(0, .ref (A 0))] → gw p l e rm_X5_note s m args below meth c none (fun H => va_P D vwCl (w5_s y A FF9 RR9) H) (rg_s 7 A s.heap.size) 0 0 H locs (F0 m 86 ls []) := by
      intro R7 hm H locs hP hS ls hl
      unfold m5_note_X86 at hm
      refine lv_aload_n (cx_x X) (cx_b X) dX5_note_86 rfl (lv_at hl 0 rfl) ?_
      refine lv_dup (cx_x X) (cx_b X) dX5_note_87 rfl ?_
      refine gf_X5_30 X hP dX5_note_88 ?_
      refine lv_iconst (v := (1 : Int32)) (cx_x X) (cx_b X) dX5_note_91 (by decide) ?_
      refine lv_iadd (cx_x X) (cx_b X) dX5_note_92 ?_
      refine pf_X5_30 X hP hA hS dX5_note_93 (fun H locs hP hS => ?_)
      obtain ⟨rfl, rfl⟩ := oc_2 hm
      exact gw_v X hS hP dX5_note_96
    have Lt4 : ∀ (n : Nat) (v5 : Int32) (R6 : (Nat → Nat → Int32)) , wh (m5_note_L52 F1) n (v5, R6) = some qt4 → ∀ (H : Heap) (locs : List Loc), va_P D vwCl (w5_s y A F1 R6) H → va_S (rg_s 7 A s.heap.size) s.heap H locs → ∀ ls, lv_has ls 2 [(0, .ref (A 0)), (1, .int v5)] → gw p l e rm_X5_note s m args below meth c none (fun H => va_P D vwCl (w5_s y A FF9 RR9) H) (rg_s 7 A s.heap.size) 0 0 H locs (F0 m 52 ls []) := by
      intro n
      induction n with
      | zero => intro v5 R6 hm; cases hm
      | succ n ih =>
        intro v5 R6 hm H locs hP hS ls hl
        replace hm : (m5_note_L52 F1) (wh (m5_note_L52 F1) n) (v5, R6) = some qt4 := hm
        dsimp only [m5_note_L52] at hm
        refine lv_iload_n (cx_x X) (cx_b X) dX5_note_52 rfl (lv_at hl 1 rfl) ?_
        refine lv_sipush (v := (194 : Int32)) (cx_x X) (cx_b X) dX5_note_53 (by decide) ?_
        refine lv_icmp_ge (tgt := 86) (cx_x X) (cx_b X) dX5_note_56 (by decide) (fun c8 => ?_) (fun c8 => ?_)
        · replace hm := if_T c8 hm
          exact Xt4 _ (by cases hm; exact hmt4) _ _ hP hS _ (lv_sub hl [0] rfl)
        · replace hm := if_F c8 hm
          refine lv_aload_n (cx_x X) (cx_b X) dX5_note_59 rfl (lv_at hl 0 rfl) ?_
          refine gf_X5_13 X hP dX5_note_60 ?_
          refine lv_sipush (v := (194 : Int32)) (cx_x X) (cx_b X) dX5_note_63 (by decide) ?_
          refine lv_aload_n (cx_x X) (cx_b X) dX5_note_66 rfl (lv_at hl 0 rfl) ?_
          refine gf_X5_30 X hP dX5_note_67 ?_
          refine lv_imul (cx_x X) (cx_b X) dX5_note_70 ?_
          refine lv_iload_n (cx_x X) (cx_b X) dX5_note_71 rfl (lv_at hl 1 rfl) ?_
          refine lv_iadd (cx_x X) (cx_b X) dX5_note_72 ?_
          refine lv_aload_n (cx_x X) (cx_b X) dX5_note_73 rfl (lv_at hl 0 rfl) ?_
          refine gf_X5_7 X hP dX5_note_74 ?_
          refine lv_iload_n (cx_x X) (cx_b X) dX5_note_77 rfl (lv_at hl 1 rfl) ?_
          obtain ⟨h9, hm⟩ := ck_E hm
          refine ld_5_0 X hP h9 dX5_note_78 ?_
          obtain ⟨h10, hm⟩ := ck_E hm
          refine st_5_1 X hP hA hS h10 dX5_note_79 (fun H locs hP hS => ?_)
          refine lv_iinc (v := (v5 + (1 : Int32))) (lv' := [(1, .int (v5 + (1 : Int32))), (0, .ref (A 0))]) (cx_x X) (cx_b X) dX5_note_80 hl (k := 1) rfl (by rfl) (by decide) rfl (fun ls hl => ?_)
          refine lv_goto (tgt := 52) (cx_x X) (cx_b X) dX5_note_83 (by decide) ?_
          exact ih _ _ hm _ _ hP hS _ (lv_sub hl [1, 0] rfl)
    exact Lt4 _ _ _ hm _ _ hP hS _ (lv_sub hl [1, 0] rfl)
  refine lv_icmp_ne (tgt := 50) (cx_x X) (cx_b X) dX5_note_6 (by decide) (fun c11 => ?_) (fun c11 => ?_)
  · replace hm := if_F c11 hm
    exact Jt3 _ _ (by cases hm; exact hmt3) _ _ hP hS _ (lv_sub hl [0] rfl)
  · replace hm := if_T c11 hm
    refine lv_iconst (v := (0 : Int32)) (cx_x X) (cx_b X) dX5_note_9 (by decide) ?_
    refine lv_istore_n (lv' := [(1, .int (0 : Int32)), (0, .ref (A 0))]) (cx_x X) (cx_b X) dX5_note_10 rfl hl (by decide) rfl (fun ls hl => ?_)
    obtain ⟨qt12, hm, hmt12⟩ := bnd hm
    have Xt12 : ∀ (R15 : (Nat → Nat → Int32)) , m5_note_X40 F R15 = some qt3 → ∀ (H : Heap) (locs : List Loc), va_P D vwCl (w5_s y A F R15) H → va_S (rg_s 7 A s.heap.size) s.heap H locs → ∀ ls, lv_has ls 2 [(0, .ref (A 0))] → gw p l e rm_X5_note s m args below meth c none (fun H => va_P D vwCl (w5_s y A FF9 RR9) H) (rg_s 7 A s.heap.size) 0 0 H locs (F0 m 40 ls []) := by
      intro R15 hm H locs hP hS ls hl
      unfold m5_note_X40 at hm
      refine lv_aload_n (cx_x X) (cx_b X) dX5_note_40 rfl (lv_at hl 0 rfl) ?_
      refine lv_dup (cx_x X) (cx_b X) dX5_note_41 rfl ?_
      refine gf_X5_30 X hP dX5_note_42 ?_
      refine lv_iconst (v := (1 : Int32)) (cx_x X) (cx_b X) dX5_note_45 (by decide) ?_
      refine lv_isub (cx_x X) (cx_b X) dX5_note_46 ?_
      refine pf_X5_30 X hP hA hS dX5_note_47 (fun H locs hP hS => ?_)
      exact Jt3 _ _ (by cases hm; exact hmt3) _ _ hP hS _ (lv_sub hl [0] rfl)
    have Lt12 : ∀ (n : Nat) (v13 : Int32) (R14 : (Nat → Nat → Int32)) , wh (m5_note_L11) n (v13, R14) = some qt12 → ∀ (H : Heap) (locs : List Loc), va_P D vwCl (w5_s y A F R14) H → va_S (rg_s 7 A s.heap.size) s.heap H locs → ∀ ls, lv_has ls 2 [(0, .ref (A 0)), (1, .int v13)] → gw p l e rm_X5_note s m args below meth c none (fun H => va_P D vwCl (w5_s y A FF9 RR9) H) (rg_s 7 A s.heap.size) 0 0 H locs (F0 m 11 ls []) := by
      intro n
      induction n with
      | zero => intro v13 R14 hm; cases hm
      | succ n ih =>
        intro v13 R14 hm H locs hP hS ls hl
        replace hm : (m5_note_L11) (wh (m5_note_L11) n) (v13, R14) = some qt12 := hm
        dsimp only [m5_note_L11] at hm
        refine lv_iload_n (cx_x X) (cx_b X) dX5_note_11 rfl (lv_at hl 1 rfl) ?_
        refine lv_sipush (v := (970 : Int32)) (cx_x X) (cx_b X) dX5_note_12 (by decide) ?_
        refine lv_icmp_ge (tgt := 40) (cx_x X) (cx_b X) dX5_note_15 (by decide) (fun c16 => ?_) (fun c16 => ?_)
        · replace hm := if_T c16 hm
          exact Xt12 _ (by cases hm; exact hmt12) _ _ hP hS _ (lv_sub hl [0] rfl)
        · replace hm := if_F c16 hm
          refine lv_aload_n (cx_x X) (cx_b X) dX5_note_18 rfl (lv_at hl 0 rfl) ?_
          refine gf_X5_13 X hP dX5_note_19 ?_
          refine lv_iload_n (cx_x X) (cx_b X) dX5_note_22 rfl (lv_at hl 1 rfl) ?_
          refine lv_aload_n (cx_x X) (cx_b X) dX5_note_23 rfl (lv_at hl 0 rfl) ?_
          refine gf_X5_13 X hP dX5_note_24 ?_
          refine lv_iload_n (cx_x X) (cx_b X) dX5_note_27 rfl (lv_at hl 1 rfl) ?_
          refine lv_sipush (v := (194 : Int32)) (cx_x X) (cx_b X) dX5_note_28 (by decide) ?_
          refine lv_iadd (cx_x X) (cx_b X) dX5_note_31 ?_
          obtain ⟨h17, hm⟩ := ck_E hm
          refine ld_5_1 X hP h17 dX5_note_32 ?_
          obtain ⟨h18, hm⟩ := ck_E hm
          refine st_5_1 X hP hA hS h18 dX5_note_33 (fun H locs hP hS => ?_)
          refine lv_iinc (v := (v13 + (1 : Int32))) (lv' := [(1, .int (v13 + (1 : Int32))), (0, .ref (A 0))]) (cx_x X) (cx_b X) dX5_note_34 hl (k := 1) rfl (by rfl) (by decide) rfl (fun ls hl => ?_)
          refine lv_goto (tgt := 11) (cx_x X) (cx_b X) dX5_note_37 (by decide) ?_
          exact ih _ _ hm _ _ hP hS _ (lv_sub hl [1, 0] rfl)
    exact Lt12 _ _ _ hm _ _ hP hS _ (lv_sub hl [1, 0] rfl)
/-! X5_undo -/
def m5_undo_X56 (F : (Nat → Int32)) (R5 : (Nat → Nat → Int32)) : Option (Int32 × (Nat → Int32) × (Nat → Nat → Int32)) :=
  some (((va_up F 2 ((F 2) - (1 : Int32))) 2), (va_up F 2 ((F 2) - (1 : Int32))), R5)
def m5_undo_L22 (F : (Nat → Int32)) (kkt2 : (Int32 × (Nat → Nat → Int32)) → Option (Nat → Nat → Int32)) (t0 : (Int32 × (Nat → Nat → Int32))) : Option (Nat → Nat → Int32) :=
  if (194 : Int32) ≤ t0.1 then
  some t0.2
  else
  if inb (((194 : Int32) * ((va_up F 2 ((F 2) - (1 : Int32))) 2)) + t0.1) 1164 then
  if inb t0.1 194 then
  kkt2 ((t0.1 + (1 : Int32)), (va_up t0.2 0 (upd (t0.2 0) t0.1.toNatClampNeg (t0.2 1 (((194 : Int32) * ((va_up F 2 ((F 2) - (1 : Int32))) 2)) + t0.1).toNatClampNeg)))) else none else none
def m5_undo (F : (Nat → Int32)) (R : (Nat → Nat → Int32)) : Option (Int32 × (Nat → Int32) × (Nat → Nat → Int32)) :=
  if (F 2) = 0 then
  some ((-2 : Int32), F, R)
  else
  (wh (m5_undo_L22 F) 2000 ((0 : Int32), R)).bind fun R5 => m5_undo_X56 F R5
abbrev rm_X5_undo : Room := { frames := 0, cells := 0, slots := 0, locals := 0 }
set_option maxHeartbeats 4000000 in
set_option maxRecDepth 100000 in
theorem c_X5_undo (l : Launch) (D : va_G) (y : Nat → ClassId) (A : Nat → Nat) (F : (Nat → Int32)) (R : (Nat → Nat → Int32)) (rr9 : Int32) (FF9 : (Nat → Int32)) (RR9 : (Nat → Nat → Int32)) (sz : Nat) (hI : aj_s 7 A) (hm : m5_undo F R = some (rr9, FF9, RR9)) : Met l yX5_undo (wy_s yX5_undo cX5_undo 2 (some .int)) rm_X5_undo (pc_R D y [.ref (A 0)] (fun H => H.size = sz ∧ va_P D vwCl (w5_s y A F R) H)) (qc_W (some (.int rr9)) (fun H => va_P D vwCl (w5_s y A FF9 RR9) H) (rg_s 7 A sz)) 0 0 (rg_s 7 A sz) := by
  refine met_W (by decide) (Nat.le_of_ble_eq_true rfl) ?_
  intro p e s m args below meth c X hnm h0 ls hl
  obtain ⟨hsz, hP⟩ := h0
  subst hsz
  have hA := ap_of (sz := s.heap.size) hI
  have hS : va_S (rg_s 7 A s.heap.size) s.heap s.heap [] := va_S.rf
  replace hl : lv_has ls 2 [(0, .ref (A 0))] := hl
  replace X : cx p s m args meth c cX5_undo 2 (some .int) RX5 D y := X
  unfold m5_undo at hm
  refine lv_aload_n (cx_x X) (cx_b X) dX5_undo_0 rfl (lv_at hl 0 rfl) ?_
  refine gf_X5_30 X hP dX5_undo_1 ?_
  refine lv_if_ne (tgt := 10) (cx_x X) (cx_b X) dX5_undo_4 (by decide) (fun c1 => ?_) (fun c1 => ?_)
  · replace hm := if_F c1 hm
    refine lv_aload_n (cx_x X) (cx_b X) dX5_undo_10 rfl (lv_at hl 0 rfl) ?_
    refine lv_dup (cx_x X) (cx_b X) dX5_undo_11 rfl ?_
    refine gf_X5_30 X hP dX5_undo_12 ?_
    refine lv_iconst (v := (1 : Int32)) (cx_x X) (cx_b X) dX5_undo_15 (by decide) ?_
    refine lv_isub (cx_x X) (cx_b X) dX5_undo_16 ?_
    refine pf_X5_30 X hP hA hS dX5_undo_17 (fun H locs hP hS => ?_)
    refine lv_iconst (v := (0 : Int32)) (cx_x X) (cx_b X) dX5_undo_20 (by decide) ?_
    refine lv_istore_n (lv' := [(1, .int (0 : Int32)), (0, .ref (A 0))]) (cx_x X) (cx_b X) dX5_undo_21 rfl hl (by decide) rfl (fun ls hl => ?_)
    obtain ⟨qt2, hm, hmt2⟩ := bnd hm
    have Xt2 : ∀ (R5 : (Nat → Nat → Int32)) , m5_undo_X56 F R5 = some (rr9, FF9, RR9) → ∀ (H : Heap) (locs : List Loc), va_P D vwCl (w5_s y A (va_up F 2 ((F 2) - (1 : Int32))) R5) H → va_S (rg_s 7 A s.heap.size) s.heap H locs → ∀ ls, lv_has ls 2 [(0, .ref (A 0))] → gw p l e rm_X5_undo s m args below meth c (some (.int rr9)) (fun H => va_P D vwCl (w5_s y A FF9 RR9) H) (rg_s 7 A s.heap.size) 0 0 H locs (F0 m 56 ls []) := by
      intro R5 hm H locs hP hS ls hl
      unfold m5_undo_X56 at hm
      refine lv_aload_n (cx_x X) (cx_b X) dX5_undo_56 rfl (lv_at hl 0 rfl) ?_
      refine gf_X5_30 X hP dX5_undo_57 ?_
      obtain ⟨rfl, rfl, rfl⟩ := oc_3 hm
      exact gw_i X hS hP dX5_undo_60
    have Lt2 : ∀ (n : Nat) (v3 : Int32) (R4 : (Nat → Nat → Int32)) , wh (m5_undo_L22 F) n (v3, R4) = some qt2 → ∀ (H : Heap) (locs : List Loc), va_P D vwCl (w5_s y A (va_up F 2 ((F 2) - (1 : Int32))) R4) H → va_S (rg_s 7 A s.heap.size) s.heap H locs → ∀ ls, lv_has ls 2 [(0, .ref (A 0)), (1, .int v3)] → gw p l e rm_X5_undo s m args below meth c (some (.int rr9)) (fun H => va_P D vwCl (w5_s y A FF9 RR9) H) (rg_s 7 A s.heap.size) 0 0 H locs (F0 m 22 ls []) := by
      intro n
      induction n with
      | zero => intro v3 R4 hm; cases hm
      | succ n ih =>
        intro v3 R4 hm H locs hP hS ls hl
        replace hm : (m5_undo_L22 F) (wh (m5_undo_L22 F) n) (v3, R4) = some qt2 := hm
        dsimp only [m5_undo_L22] at hm
        refine lv_iload_n (cx_x X) (cx_b X) dX5_undo_22 rfl (lv_at hl 1 rfl) ?_
        refine lv_sipush (v := (194 : Int32)) (cx_x X) (cx_b X) dX5_undo_23 (by decide) ?_
        refine lv_icmp_ge (tgt := 56) (cx_x X) (cx_b X) dX5_undo_26 (by decide) (fun c6 => ?_) (fun c6 => ?_)
        · replace hm := if_T c6 hm
          exact Xt2 _ (by cases hm; exact hmt2) _ _ hP hS _ (lv_sub hl [0] rfl)
        · replace hm := if_F c6 hm
          refine lv_aload_n (cx_x X) (cx_b X) dX5_undo_29 rfl (lv_at hl 0 rfl) ?_
          refine gf_X5_7 X hP dX5_undo_30 ?_
          refine lv_iload_n (cx_x X) (cx_b X) dX5_undo_33 rfl (lv_at hl 1 rfl) ?_
          refine lv_aload_n (cx_x X) (cx_b X) dX5_undo_34 rfl (lv_at hl 0 rfl) ?_
          refine gf_X5_13 X hP dX5_undo_35 ?_
          refine lv_sipush (v := (194 : Int32)) (cx_x X) (cx_b X) dX5_undo_38 (by decide) ?_
          refine lv_aload_n (cx_x X) (cx_b X) dX5_undo_41 rfl (lv_at hl 0 rfl) ?_
          refine gf_X5_30 X hP dX5_undo_42 ?_
          refine lv_imul (cx_x X) (cx_b X) dX5_undo_45 ?_
          refine lv_iload_n (cx_x X) (cx_b X) dX5_undo_46 rfl (lv_at hl 1 rfl) ?_
          refine lv_iadd (cx_x X) (cx_b X) dX5_undo_47 ?_
          obtain ⟨h7, hm⟩ := ck_E hm
          refine ld_5_1 X hP h7 dX5_undo_48 ?_
          obtain ⟨h8, hm⟩ := ck_E hm
          refine st_5_0 X hP hA hS h8 dX5_undo_49 (fun H locs hP hS => ?_)
          refine lv_iinc (v := (v3 + (1 : Int32))) (lv' := [(1, .int (v3 + (1 : Int32))), (0, .ref (A 0))]) (cx_x X) (cx_b X) dX5_undo_50 hl (k := 1) rfl (by rfl) (by decide) rfl (fun ls hl => ?_)
          refine lv_goto (tgt := 22) (cx_x X) (cx_b X) dX5_undo_53 (by decide) ?_
          exact ih _ _ hm _ _ hP hS _ (lv_sub hl [1, 0] rfl)
    exact Lt2 _ _ _ hm _ _ hP hS _ (lv_sub hl [1, 0] rfl)
  · replace hm := if_T c1 hm
    refine lv_bipush (v := (-2 : Int32)) (cx_x X) (cx_b X) dX5_undo_7 (by decide) ?_
    obtain ⟨rfl, rfl, rfl⟩ := oc_3 hm
    exact gw_i X hS hP dX5_undo_9
/-! X5_save -/
def m5_save_X44 (F : (Nat → Int32)) (a1 : Int32) (R7 : (Nat → Nat → Int32)) : Option (Int32 × (Nat → Int32) × (Nat → Nat → Int32)) :=
  if inb a1 2 then
  (m5_calls F (va_up R7 3 (upd (R7 3) a1.toNatClampNeg (vp_nar .boolean (1 : Int32))))).bind fun v10 =>
  some (v10, F, (va_up R7 3 (upd (R7 3) a1.toNatClampNeg (vp_nar .boolean (1 : Int32))))) else none
def m5_save_L13 (a1 : Int32) (kkt4 : (Int32 × (Nat → Nat → Int32)) → Option (Nat → Nat → Int32)) (t0 : (Int32 × (Nat → Nat → Int32))) : Option (Nat → Nat → Int32) :=
  if (194 : Int32) ≤ t0.1 then
  some t0.2
  else
  if inb t0.1 194 then
  if inb (((194 : Int32) * a1) + t0.1) 388 then
  kkt4 ((t0.1 + (1 : Int32)), (va_up t0.2 2 (upd (t0.2 2) (((194 : Int32) * a1) + t0.1).toNatClampNeg (t0.2 0 t0.1.toNatClampNeg)))) else none else none
def m5_save (F : (Nat → Int32)) (R : (Nat → Nat → Int32)) (a1 : Int32) : Option (Int32 × (Nat → Int32) × (Nat → Nat → Int32)) :=
  (m5_in a1 (0 : Int32) (1 : Int32)).bind fun v2 =>
  if v2 = 0 then
  some ((-1 : Int32), F, R)
  else
  (wh (m5_save_L13 a1) 2000 ((0 : Int32), R)).bind fun R7 => m5_save_X44 F a1 R7
abbrev rm_X5_save : Room := { frames := 1, cells := 0, slots := 0, locals := 22 }
set_option maxHeartbeats 4000000 in
set_option maxRecDepth 100000 in
theorem c_X5_save (l : Launch) (D : va_G) (y : Nat → ClassId) (A : Nat → Nat) (F : (Nat → Int32)) (R : (Nat → Nat → Int32)) (a1 : Int32) (rr9 : Int32) (FF9 : (Nat → Int32)) (RR9 : (Nat → Nat → Int32)) (sz : Nat) (hI : aj_s 7 A) (hm : m5_save F R a1 = some (rr9, FF9, RR9)) : Met l yX5_save (wy_s yX5_save cX5_save 3 (some .int)) rm_X5_save (pc_R D y [.ref (A 0), .int a1] (fun H => H.size = sz ∧ va_P D vwCl (w5_s y A F R) H)) (qc_W (some (.int rr9)) (fun H => va_P D vwCl (w5_s y A FF9 RR9) H) (rg_s 7 A sz)) 0 0 (rg_s 7 A sz) := by
  refine met_W (by decide) (Nat.le_of_ble_eq_true rfl) ?_
  intro p e s m args below meth c X hnm h0 ls hl
  obtain ⟨hsz, hP⟩ := h0
  subst hsz
  have hA := ap_of (sz := s.heap.size) hI
  have hS : va_S (rg_s 7 A s.heap.size) s.heap s.heap [] := va_S.rf
  replace hl : lv_has ls 3 [(0, .ref (A 0)), (1, .int a1)] := hl
  replace X : cx p s m args meth c cX5_save 3 (some .int) RX5 D y := X
  unfold m5_save at hm
  refine lv_iload_n (cx_x X) (cx_b X) dX5_save_0 rfl (lv_at hl 1 rfl) ?_
  refine lv_iconst (v := (0 : Int32)) (cx_x X) (cx_b X) dX5_save_1 (by decide) ?_
  refine lv_iconst (v := (1 : Int32)) (cx_x X) (cx_b X) dX5_save_2 (by decide) ?_
  obtain ⟨v2, h1, hm⟩ := bnd hm
  refine af_R (rn_S (As := [.int a1, .int (0 : Int32), .int (1 : Int32)]) (rest := []) X (c_X5_in l D y a1 (0 : Int32) (1 : Int32)  _ h1) sq_X5_34 ⟨rfl, rfl⟩ ⟨Nat.le_of_ble_eq_true rfl, Nat.le_of_ble_eq_true rfl⟩ trivial rfl hl.1 rfl (Nat.le_of_ble_eq_true rfl) dX5_save_3 ⟨Nat.le_of_ble_eq_true rfl, Nat.le_of_ble_eq_true rfl⟩) ?_
  refine lv_if_ne (tgt := 11) (cx_x X) (cx_b X) dX5_save_6 (by decide) (fun c3 => ?_) (fun c3 => ?_)
  · replace hm := if_F c3 hm
    refine lv_iconst (v := (0 : Int32)) (cx_x X) (cx_b X) dX5_save_11 (by decide) ?_
    refine lv_istore_n (lv' := [(2, .int (0 : Int32)), (0, .ref (A 0)), (1, .int a1)]) (cx_x X) (cx_b X) dX5_save_12 rfl hl (by decide) rfl (fun ls hl => ?_)
    obtain ⟨qt4, hm, hmt4⟩ := bnd hm
    have Xt4 : ∀ (R7 : (Nat → Nat → Int32)) , m5_save_X44 F a1 R7 = some (rr9, FF9, RR9) → ∀ (H : Heap) (locs : List Loc), va_P D vwCl (w5_s y A F R7) H → va_S (rg_s 7 A s.heap.size) s.heap H locs → ∀ ls, lv_has ls 3 [(0, .ref (A 0)), (1, .int a1)] → gw p l e rm_X5_save s m args below meth c (some (.int rr9)) (fun H => va_P D vwCl (w5_s y A FF9 RR9) H) (rg_s 7 A s.heap.size) 0 0 H locs (F0 m 44 ls []) := by
      intro R7 hm H locs hP hS ls hl
      unfold m5_save_X44 at hm
      refine lv_aload_n (cx_x X) (cx_b X) dX5_save_44 rfl (lv_at hl 0 rfl) ?_
      refine gf_X5_19 X hP dX5_save_45 ?_
      refine lv_iload_n (cx_x X) (cx_b X) dX5_save_48 rfl (lv_at hl 1 rfl) ?_
      refine lv_iconst (v := (1 : Int32)) (cx_x X) (cx_b X) dX5_save_49 (by decide) ?_
      obtain ⟨h8, hm⟩ := ck_E hm
      refine st_5_3 X hP hA hS h8 dX5_save_50 (fun H locs hP hS => ?_)
      refine lv_aload_n (cx_x X) (cx_b X) dX5_save_51 rfl (lv_at hl 0 rfl) ?_
      obtain ⟨v10, h9, hm⟩ := bnd hm
      refine af_R (rn_V (As := []) (rest := []) X (c_X5_calls l D y A F (va_up R7 3 (upd (R7 3) a1.toNatClampNeg (vp_nar .boolean (1 : Int32))))  _ h9) vq_X5_38 ⟨rfl, rfl⟩ ⟨Nat.le_of_ble_eq_true rfl, Nat.le_of_ble_eq_true rfl⟩ (rec_5 X hP) hP rfl hl.1 rfl (Nat.le_of_ble_eq_true rfl) dX5_save_52 ⟨Nat.le_of_ble_eq_true rfl, Nat.le_of_ble_eq_true rfl⟩) ?_
      obtain ⟨rfl, rfl, rfl⟩ := oc_3 hm
      exact gw_i X hS hP dX5_save_55
    have Lt4 : ∀ (n : Nat) (v5 : Int32) (R6 : (Nat → Nat → Int32)) , wh (m5_save_L13 a1) n (v5, R6) = some qt4 → ∀ (H : Heap) (locs : List Loc), va_P D vwCl (w5_s y A F R6) H → va_S (rg_s 7 A s.heap.size) s.heap H locs → ∀ ls, lv_has ls 3 [(0, .ref (A 0)), (1, .int a1), (2, .int v5)] → gw p l e rm_X5_save s m args below meth c (some (.int rr9)) (fun H => va_P D vwCl (w5_s y A FF9 RR9) H) (rg_s 7 A s.heap.size) 0 0 H locs (F0 m 13 ls []) := by
      intro n
      induction n with
      | zero => intro v5 R6 hm; cases hm
      | succ n ih =>
        intro v5 R6 hm H locs hP hS ls hl
        replace hm : (m5_save_L13 a1) (wh (m5_save_L13 a1) n) (v5, R6) = some qt4 := hm
        dsimp only [m5_save_L13] at hm
        refine lv_iload_n (cx_x X) (cx_b X) dX5_save_13 rfl (lv_at hl 2 rfl) ?_
        refine lv_sipush (v := (194 : Int32)) (cx_x X) (cx_b X) dX5_save_14 (by decide) ?_
        refine lv_icmp_ge (tgt := 44) (cx_x X) (cx_b X) dX5_save_17 (by decide) (fun c11 => ?_) (fun c11 => ?_)
        · replace hm := if_T c11 hm
          exact Xt4 _ (by cases hm; exact hmt4) _ _ hP hS _ (lv_sub hl [0, 1] rfl)
        · replace hm := if_F c11 hm
          refine lv_aload_n (cx_x X) (cx_b X) dX5_save_20 rfl (lv_at hl 0 rfl) ?_
          refine gf_X5_16 X hP dX5_save_21 ?_
          refine lv_sipush (v := (194 : Int32)) (cx_x X) (cx_b X) dX5_save_24 (by decide) ?_
          refine lv_iload_n (cx_x X) (cx_b X) dX5_save_27 rfl (lv_at hl 1 rfl) ?_
          refine lv_imul (cx_x X) (cx_b X) dX5_save_28 ?_
          refine lv_iload_n (cx_x X) (cx_b X) dX5_save_29 rfl (lv_at hl 2 rfl) ?_
          refine lv_iadd (cx_x X) (cx_b X) dX5_save_30 ?_
          refine lv_aload_n (cx_x X) (cx_b X) dX5_save_31 rfl (lv_at hl 0 rfl) ?_
          refine gf_X5_7 X hP dX5_save_32 ?_
          refine lv_iload_n (cx_x X) (cx_b X) dX5_save_35 rfl (lv_at hl 2 rfl) ?_
          obtain ⟨h12, hm⟩ := ck_E hm
          refine ld_5_0 X hP h12 dX5_save_36 ?_
          obtain ⟨h13, hm⟩ := ck_E hm
          refine st_5_2 X hP hA hS h13 dX5_save_37 (fun H locs hP hS => ?_)
          refine lv_iinc (v := (v5 + (1 : Int32))) (lv' := [(2, .int (v5 + (1 : Int32))), (0, .ref (A 0)), (1, .int a1)]) (cx_x X) (cx_b X) dX5_save_38 hl (k := 2) rfl (by rfl) (by decide) rfl (fun ls hl => ?_)
          refine lv_goto (tgt := 13) (cx_x X) (cx_b X) dX5_save_41 (by decide) ?_
          exact ih _ _ hm _ _ hP hS _ (lv_sub hl [1, 2, 0] rfl)
    exact Lt4 _ _ _ hm _ _ hP hS _ (lv_sub hl [1, 2, 0] rfl)
  · replace hm := if_T c3 hm
    refine lv_iconst (v := (-1 : Int32)) (cx_x X) (cx_b X) dX5_save_9 (by decide) ?_
    obtain ⟨rfl, rfl, rfl⟩ := oc_3 hm
    exact gw_i X hS hP dX5_save_10
/-! X5_restore -/
def m5_restore_X56 (F : (Nat → Int32)) (R9 : (Nat → Nat → Int32)) : Option (Int32 × (Nat → Int32) × (Nat → Nat → Int32)) :=
  (m5_calls (va_up F 2 (0 : Int32)) R9).bind fun v11 =>
  some (v11, (va_up F 2 (0 : Int32)), R9)
def m5_restore_L25 (a1 : Int32) (kkt6 : (Int32 × (Nat → Nat → Int32)) → Option (Nat → Nat → Int32)) (t0 : (Int32 × (Nat → Nat → Int32))) : Option (Nat → Nat → Int32) :=
  if (194 : Int32) ≤ t0.1 then
  some t0.2
  else
  if inb (((194 : Int32) * a1) + t0.1) 388 then
  if inb t0.1 194 then
  kkt6 ((t0.1 + (1 : Int32)), (va_up t0.2 0 (upd (t0.2 0) t0.1.toNatClampNeg (t0.2 2 (((194 : Int32) * a1) + t0.1).toNatClampNeg)))) else none else none
def m5_restore (F : (Nat → Int32)) (R : (Nat → Nat → Int32)) (a1 : Int32) : Option (Int32 × (Nat → Int32) × (Nat → Nat → Int32)) :=
  (m5_in a1 (0 : Int32) (1 : Int32)).bind fun v2 =>
  if v2 = 0 then
  some ((-1 : Int32), F, R)
  else
  if inb a1 2 then
  if (R 3 a1.toNatClampNeg) = 0 then
  some ((-2 : Int32), F, R)
  else
  (wh (m5_restore_L25 a1) 2000 ((0 : Int32), R)).bind fun R9 => m5_restore_X56 F R9 else none
abbrev rm_X5_restore : Room := { frames := 1, cells := 0, slots := 0, locals := 22 }
set_option maxHeartbeats 4000000 in
set_option maxRecDepth 100000 in
theorem c_X5_restore (l : Launch) (D : va_G) (y : Nat → ClassId) (A : Nat → Nat) (F : (Nat → Int32)) (R : (Nat → Nat → Int32)) (a1 : Int32) (rr9 : Int32) (FF9 : (Nat → Int32)) (RR9 : (Nat → Nat → Int32)) (sz : Nat) (hI : aj_s 7 A) (hm : m5_restore F R a1 = some (rr9, FF9, RR9)) : Met l yX5_restore (wy_s yX5_restore cX5_restore 3 (some .int)) rm_X5_restore (pc_R D y [.ref (A 0), .int a1] (fun H => H.size = sz ∧ va_P D vwCl (w5_s y A F R) H)) (qc_W (some (.int rr9)) (fun H => va_P D vwCl (w5_s y A FF9 RR9) H) (rg_s 7 A sz)) 0 0 (rg_s 7 A sz) := by
  refine met_W (by decide) (Nat.le_of_ble_eq_true rfl) ?_
  intro p e s m args below meth c X hnm h0 ls hl
  obtain ⟨hsz, hP⟩ := h0
  subst hsz
  have hA := ap_of (sz := s.heap.size) hI
  have hS : va_S (rg_s 7 A s.heap.size) s.heap s.heap [] := va_S.rf
  replace hl : lv_has ls 3 [(0, .ref (A 0)), (1, .int a1)] := hl
  replace X : cx p s m args meth c cX5_restore 3 (some .int) RX5 D y := X
  unfold m5_restore at hm
  refine lv_iload_n (cx_x X) (cx_b X) dX5_restore_0 rfl (lv_at hl 1 rfl) ?_
  refine lv_iconst (v := (0 : Int32)) (cx_x X) (cx_b X) dX5_restore_1 (by decide) ?_
  refine lv_iconst (v := (1 : Int32)) (cx_x X) (cx_b X) dX5_restore_2 (by decide) ?_
  obtain ⟨v2, h1, hm⟩ := bnd hm
  refine af_R (rn_S (As := [.int a1, .int (0 : Int32), .int (1 : Int32)]) (rest := []) X (c_X5_in l D y a1 (0 : Int32) (1 : Int32)  _ h1) sq_X5_34 ⟨rfl, rfl⟩ ⟨Nat.le_of_ble_eq_true rfl, Nat.le_of_ble_eq_true rfl⟩ trivial rfl hl.1 rfl (Nat.le_of_ble_eq_true rfl) dX5_restore_3 ⟨Nat.le_of_ble_eq_true rfl, Nat.le_of_ble_eq_true rfl⟩) ?_
  refine lv_if_ne (tgt := 11) (cx_x X) (cx_b X) dX5_restore_6 (by decide) (fun c3 => ?_) (fun c3 => ?_)
  · replace hm := if_F c3 hm
    refine lv_aload_n (cx_x X) (cx_b X) dX5_restore_11 rfl (lv_at hl 0 rfl) ?_
    refine gf_X5_19 X hP dX5_restore_12 ?_
    refine lv_iload_n (cx_x X) (cx_b X) dX5_restore_15 rfl (lv_at hl 1 rfl) ?_
    obtain ⟨h4, hm⟩ := ck_E hm
    refine ld_5_3 X hP h4 dX5_restore_16 ?_
    refine lv_if_ne (tgt := 23) (cx_x X) (cx_b X) dX5_restore_17 (by decide) (fun c5 => ?_) (fun c5 => ?_)
    · replace hm := if_F c5 hm
      refine lv_iconst (v := (0 : Int32)) (cx_x X) (cx_b X) dX5_restore_23 (by decide) ?_
      refine lv_istore_n (lv' := [(2, .int (0 : Int32)), (0, .ref (A 0)), (1, .int a1)]) (cx_x X) (cx_b X) dX5_restore_24 rfl hl (by decide) rfl (fun ls hl => ?_)
      obtain ⟨qt6, hm, hmt6⟩ := bnd hm
      have Xt6 : ∀ (R9 : (Nat → Nat → Int32)) , m5_restore_X56 F R9 = some (rr9, FF9, RR9) → ∀ (H : Heap) (locs : List Loc), va_P D vwCl (w5_s y A F R9) H → va_S (rg_s 7 A s.heap.size) s.heap H locs → ∀ ls, lv_has ls 3 [(0, .ref (A 0))] → gw p l e rm_X5_restore s m args below meth c (some (.int rr9)) (fun H => va_P D vwCl (w5_s y A FF9 RR9) H) (rg_s 7 A s.heap.size) 0 0 H locs (F0 m 56 ls []) := by
        intro R9 hm H locs hP hS ls hl
        unfold m5_restore_X56 at hm
        refine lv_aload_n (cx_x X) (cx_b X) dX5_restore_56 rfl (lv_at hl 0 rfl) ?_
        refine lv_iconst (v := (0 : Int32)) (cx_x X) (cx_b X) dX5_restore_57 (by decide) ?_
        refine pf_X5_30 X hP hA hS dX5_restore_58 (fun H locs hP hS => ?_)
        refine lv_aload_n (cx_x X) (cx_b X) dX5_restore_61 rfl (lv_at hl 0 rfl) ?_
        obtain ⟨v11, h10, hm⟩ := bnd hm
        refine af_R (rn_V (As := []) (rest := []) X (c_X5_calls l D y A (va_up F 2 (0 : Int32)) R9  _ h10) vq_X5_38 ⟨rfl, rfl⟩ ⟨Nat.le_of_ble_eq_true rfl, Nat.le_of_ble_eq_true rfl⟩ (rec_5 X hP) hP rfl hl.1 rfl (Nat.le_of_ble_eq_true rfl) dX5_restore_62 ⟨Nat.le_of_ble_eq_true rfl, Nat.le_of_ble_eq_true rfl⟩) ?_
        obtain ⟨rfl, rfl, rfl⟩ := oc_3 hm
        exact gw_i X hS hP dX5_restore_65
      have Lt6 : ∀ (n : Nat) (v7 : Int32) (R8 : (Nat → Nat → Int32)) , wh (m5_restore_L25 a1) n (v7, R8) = some qt6 → ∀ (H : Heap) (locs : List Loc), va_P D vwCl (w5_s y A F R8) H → va_S (rg_s 7 A s.heap.size) s.heap H locs → ∀ ls, lv_has ls 3 [(0, .ref (A 0)), (1, .int a1), (2, .int v7)] → gw p l e rm_X5_restore s m args below meth c (some (.int rr9)) (fun H => va_P D vwCl (w5_s y A FF9 RR9) H) (rg_s 7 A s.heap.size) 0 0 H locs (F0 m 25 ls []) := by
        intro n
        induction n with
        | zero => intro v7 R8 hm; cases hm
        | succ n ih =>
          intro v7 R8 hm H locs hP hS ls hl
          replace hm : (m5_restore_L25 a1) (wh (m5_restore_L25 a1) n) (v7, R8) = some qt6 := hm
          dsimp only [m5_restore_L25] at hm
          refine lv_iload_n (cx_x X) (cx_b X) dX5_restore_25 rfl (lv_at hl 2 rfl) ?_
          refine lv_sipush (v := (194 : Int32)) (cx_x X) (cx_b X) dX5_restore_26 (by decide) ?_
          refine lv_icmp_ge (tgt := 56) (cx_x X) (cx_b X) dX5_restore_29 (by decide) (fun c12 => ?_) (fun c12 => ?_)
          · replace hm := if_T c12 hm
            exact Xt6 _ (by cases hm; exact hmt6) _ _ hP hS _ (lv_sub hl [0] rfl)
          · replace hm := if_F c12 hm
            refine lv_aload_n (cx_x X) (cx_b X) dX5_restore_32 rfl (lv_at hl 0 rfl) ?_
            refine gf_X5_7 X hP dX5_restore_33 ?_
            refine lv_iload_n (cx_x X) (cx_b X) dX5_restore_36 rfl (lv_at hl 2 rfl) ?_
            refine lv_aload_n (cx_x X) (cx_b X) dX5_restore_37 rfl (lv_at hl 0 rfl) ?_
            refine gf_X5_16 X hP dX5_restore_38 ?_
            refine lv_sipush (v := (194 : Int32)) (cx_x X) (cx_b X) dX5_restore_41 (by decide) ?_
            refine lv_iload_n (cx_x X) (cx_b X) dX5_restore_44 rfl (lv_at hl 1 rfl) ?_
            refine lv_imul (cx_x X) (cx_b X) dX5_restore_45 ?_
            refine lv_iload_n (cx_x X) (cx_b X) dX5_restore_46 rfl (lv_at hl 2 rfl) ?_
            refine lv_iadd (cx_x X) (cx_b X) dX5_restore_47 ?_
            obtain ⟨h13, hm⟩ := ck_E hm
            refine ld_5_2 X hP h13 dX5_restore_48 ?_
            obtain ⟨h14, hm⟩ := ck_E hm
            refine st_5_0 X hP hA hS h14 dX5_restore_49 (fun H locs hP hS => ?_)
            refine lv_iinc (v := (v7 + (1 : Int32))) (lv' := [(2, .int (v7 + (1 : Int32))), (0, .ref (A 0)), (1, .int a1)]) (cx_x X) (cx_b X) dX5_restore_50 hl (k := 2) rfl (by rfl) (by decide) rfl (fun ls hl => ?_)
            refine lv_goto (tgt := 25) (cx_x X) (cx_b X) dX5_restore_53 (by decide) ?_
            exact ih _ _ hm _ _ hP hS _ (lv_sub hl [1, 2, 0] rfl)
      exact Lt6 _ _ _ hm _ _ hP hS _ (lv_sub hl [1, 2, 0] rfl)
    · replace hm := if_T c5 hm
      refine lv_bipush (v := (-2 : Int32)) (cx_x X) (cx_b X) dX5_restore_20 (by decide) ?_
      obtain ⟨rfl, rfl, rfl⟩ := oc_3 hm
      exact gw_i X hS hP dX5_restore_22
  · replace hm := if_T c3 hm
    refine lv_iconst (v := (-1 : Int32)) (cx_x X) (cx_b X) dX5_restore_9 (by decide) ?_
    obtain ⟨rfl, rfl, rfl⟩ := oc_3 hm
    exact gw_i X hS hP dX5_restore_10
/-! X5_choose -/
def m5_choose_X241 (R7 : (Nat → Nat → Int32)) (v13 : Int32) (F14 : (Nat → Int32)) : Option (Int32 × (Nat → Int32) × (Nat → Nat → Int32)) :=
  some (v13, F14, R7)
def m5_choose_X235 (kkt8 : (Int32 × Int32 × Int32 × (Nat → Int32)) → Option (Int32 × (Nat → Int32))) (v11 : Int32) (v29 : Int32) (v30 : Int32) (F31 : (Nat → Int32)) : Option (Int32 × (Nat → Int32)) :=
  kkt8 (v29, v30, (v11 + (1 : Int32)), F31)
def m5_choose_J229 (kkt24 : (Int32 × Int32 × Int32 × (Nat → Int32)) → Option (Int32 × Int32 × (Nat → Int32))) (v27 : Int32) (v35 : Int32) (v36 : Int32) (F37 : (Nat → Int32)) : Option (Int32 × Int32 × (Nat → Int32)) :=
  kkt24 (v35, v36, (v27 + (-1 : Int32)), F37)
def m5_choose_J228 (F28 : (Nat → Int32)) (v47 : Int32) (v49 : Int32) (v51 : Int32) : Option (Int32 × Int32 × (Nat → Int32)) :=
  some (v47, v51, (va_up F28 7 v49))
def m5_choose_J214 (v26 : Int32) (F28 : (Nat → Int32)) (v43 : Int32) (v45 : Int32) (v47 : Int32) (v49 : Int32) : Option (Int32 × Int32 × (Nat → Int32)) :=
  (if v45 = 0 then
  some v26
  else
  some v43).bind fun v51 => m5_choose_J228 F28 v47 v49 v51
def m5_choose_J198 (v11 : Int32) (v26 : Int32) (F28 : (Nat → Int32)) (v43 : Int32) (v45 : Int32) (v47 : Int32) : Option (Int32 × Int32 × (Nat → Int32)) :=
  (if v45 = 0 then
  some (F28 7)
  else
  some v11).bind fun v49 => m5_choose_J214 v26 F28 v43 v45 v47 v49
def m5_choose_J185 (v11 : Int32) (v25 : Int32) (v26 : Int32) (v27 : Int32) (F28 : (Nat → Int32)) (v43 : Int32) (v45 : Int32) : Option (Int32 × Int32 × (Nat → Int32)) :=
  (if v45 = 0 then
  some v25
  else
  some v27).bind fun v47 => m5_choose_J198 v11 v26 F28 v43 v45 v47
def m5_choose_J166 (v11 : Int32) (v25 : Int32) (v26 : Int32) (v27 : Int32) (F28 : (Nat → Int32)) (v43 : Int32) : Option (Int32 × Int32 × (Nat → Int32)) :=
  (if v25 = (-9 : Int32) then
  some (1 : Int32)
  else
  if v26 ≤ v43 then
  some (0 : Int32)
  else
  some (1 : Int32)).bind fun v45 => m5_choose_J185 v11 v25 v26 v27 F28 v43 v45
def m5_choose_L93 (a1 : Int32) (R7 : (Nat → Nat → Int32)) (v11 : Int32) (v20 : Int32) (kkt24 : (Int32 × Int32 × Int32 × (Nat → Int32)) → Option (Int32 × Int32 × (Nat → Int32))) (t0 : (Int32 × Int32 × Int32 × (Nat → Int32))) : Option (Int32 × Int32 × (Nat → Int32)) :=
  if t0.2.2.1 < 0 then
  some (t0.1, t0.2.1, t0.2.2.2)
  else
  if v20 ≤ (R7 0 (5 : Int32).toNatClampNeg) then
  some (t0.1, t0.2.1, t0.2.2.2)
  else
  if inb t0.2.2.1 28 then
  (if (R7 5 t0.2.2.1.toNatClampNeg) = 0 then
  some (t0.1, t0.2.1, t0.2.2.2)
  else
  (m5_isNominal t0.2.2.2 R7 v11 t0.2.2.1).bind fun v41 =>
  if v41 = 0 then
  some (t0.1, t0.2.1, t0.2.2.2)
  else
  (if (R7 0 (4 : Int32).toNatClampNeg) = 0 then
  some (-v20)
  else
  if (R7 0 (4 : Int32).toNatClampNeg) = (2 : Int32) then
  (m5_burdenOf t0.2.2.2 R7 a1 t0.2.2.1).bind fun v61 =>
  some v61
  else
  some (0 : Int32)).bind fun v43 => m5_choose_J166 v11 t0.1 t0.2.1 t0.2.2.1 t0.2.2.2 v43).bind fun ⟨v35, v36, F37⟩ => m5_choose_J229 kkt24 t0.2.2.1 v35 v36 F37 else none
def m5_choose_J83 (a1 : Int32) (R7 : (Nat → Nat → Int32)) (kkt8 : (Int32 × Int32 × Int32 × (Nat → Int32)) → Option (Int32 × (Nat → Int32))) (v9 : Int32) (v10 : Int32) (v11 : Int32) (F12 : (Nat → Int32)) (v20 : Int32) : Option (Int32 × (Nat → Int32)) :=
  (m5_channels F12 R7).bind fun v23 =>
  (wh (m5_choose_L93 a1 R7 v11 v20) 2000 (v9, v10, (v23 - (1 : Int32)), F12)).bind fun ⟨v29, v30, F31⟩ => m5_choose_X235 kkt8 v11 v29 v30 F31
def m5_choose_L53 (a1 : Int32) (R7 : (Nat → Nat → Int32)) (kkt8 : (Int32 × Int32 × Int32 × (Nat → Int32)) → Option (Int32 × (Nat → Int32))) (t0 : (Int32 × Int32 × Int32 × (Nat → Int32))) : Option (Int32 × (Nat → Int32)) :=
  (m5_cells t0.2.2.2 R7).bind fun v16 =>
  if v16 ≤ t0.2.2.1 then
  some (t0.1, t0.2.2.2)
  else
  (m5_far t0.2.2.2 R7 t0.2.2.1 a1).bind fun v19 =>
  (if v19 = (1 : Int32) then
  (m5_availables t0.2.2.2 R7 t0.2.2.1).bind fun v64 =>
  some v64
  else
  some (0 : Int32)).bind fun v20 => m5_choose_J83 a1 R7 kkt8 t0.1 t0.2.1 t0.2.2.1 t0.2.2.2 v20
def m5_choose_X48 (F : (Nat → Int32)) (a1 : Int32) (v2 : Int32) (R7 : (Nat → Nat → Int32)) : Option (Int32 × (Nat → Int32) × (Nat → Nat → Int32)) :=
  (wh (m5_choose_L53 a1 R7) 2000 (v2, (0 : Int32), (0 : Int32), (va_up F 7 (-9 : Int32)))).bind fun ⟨v13, F14⟩ => m5_choose_X241 R7 v13 F14
def m5_choose_L22 (F : (Nat → Int32)) (a1 : Int32) (kkt4 : (Int32 × (Nat → Nat → Int32)) → Option (Nat → Nat → Int32)) (t0 : (Int32 × (Nat → Nat → Int32))) : Option (Nat → Nat → Int32) :=
  (m5_channels (va_up F 7 (-9 : Int32)) t0.2).bind fun v66 =>
  if v66 ≤ t0.1 then
  some t0.2
  else
  (m5_available (va_up F 7 (-9 : Int32)) t0.2 a1 t0.1).bind fun v69 =>
  if inb t0.1 28 then
  kkt4 ((t0.1 + (1 : Int32)), (va_up t0.2 5 (upd (t0.2 5) t0.1.toNatClampNeg (vp_nar .boolean v69)))) else none
def m5_choose (F : (Nat → Int32)) (R : (Nat → Nat → Int32)) (a1 : Int32) : Option (Int32 × (Nat → Int32) × (Nat → Nat → Int32)) :=
  (m5_nominal (va_up F 7 (-9 : Int32)) R a1).bind fun v2 =>
  if v2 = (-9 : Int32) then
  (wh (m5_choose_L22 F a1) 2000 ((0 : Int32), R)).bind fun R7 => m5_choose_X48 F a1 v2 R7
  else
  some (v2, (va_up F 7 (-9 : Int32)), R)
abbrev rm_X5_choose : Room := { frames := 5, cells := 0, slots := 0, locals := 114 }
set_option maxHeartbeats 4000000 in
set_option maxRecDepth 100000 in
theorem c_X5_choose (l : Launch) (D : va_G) (y : Nat → ClassId) (A : Nat → Nat) (F : (Nat → Int32)) (R : (Nat → Nat → Int32)) (a1 : Int32) (rr9 : Int32) (FF9 : (Nat → Int32)) (RR9 : (Nat → Nat → Int32)) (sz : Nat) (hI : aj_s 7 A) (hm : m5_choose F R a1 = some (rr9, FF9, RR9)) : Met l yX5_choose (wy_s yX5_choose cX5_choose 9 (some .int)) rm_X5_choose (pc_R D y [.ref (A 0), .int a1] (fun H => H.size = sz ∧ va_P D vwCl (w5_s y A F R) H)) (qc_W (some (.int rr9)) (fun H => va_P D vwCl (w5_s y A FF9 RR9) H) (rg_s 7 A sz)) 0 0 (rg_s 7 A sz) := by
  refine met_W (by decide) (Nat.le_of_ble_eq_true rfl) ?_
  intro p e s m args below meth c X hnm h0 ls hl
  obtain ⟨hsz, hP⟩ := h0
  subst hsz
  have hA := ap_of (sz := s.heap.size) hI
  have hS : va_S (rg_s 7 A s.heap.size) s.heap s.heap [] := va_S.rf
  replace hl : lv_has ls 9 [(0, .ref (A 0)), (1, .int a1)] := hl
  replace X : cx p s m args meth c cX5_choose 9 (some .int) RX5 D y := X
  unfold m5_choose at hm
  refine lv_aload_n (cx_x X) (cx_b X) dX5_choose_0 rfl (lv_at hl 0 rfl) ?_
  refine lv_bipush (v := (-9 : Int32)) (cx_x X) (cx_b X) dX5_choose_1 (by decide) ?_
  refine pf_X5_75 X hP hA hS dX5_choose_3 (fun H locs hP hS => ?_)
  refine lv_aload_n (cx_x X) (cx_b X) dX5_choose_6 rfl (lv_at hl 0 rfl) ?_
  refine lv_iload_n (cx_x X) (cx_b X) dX5_choose_7 rfl (lv_at hl 1 rfl) ?_
  obtain ⟨v2, h1, hm⟩ := bnd hm
  refine af_R (rn_V (As := [.int a1]) (rest := []) X (c_X5_nominal l D y A (va_up F 7 (-9 : Int32)) R a1  _ h1) vq_X5_78 ⟨rfl, rfl⟩ ⟨Nat.le_of_ble_eq_true rfl, Nat.le_of_ble_eq_true rfl⟩ (rec_5 X hP) hP rfl hl.1 rfl (Nat.le_of_ble_eq_true rfl) dX5_choose_8 ⟨Nat.le_of_ble_eq_true rfl, Nat.le_of_ble_eq_true rfl⟩) ?_
  refine lv_istore_n (lv' := [(2, .int v2), (0, .ref (A 0)), (1, .int a1)]) (cx_x X) (cx_b X) dX5_choose_11 rfl hl (by decide) rfl (fun ls hl => ?_)
  refine lv_iload_n (cx_x X) (cx_b X) dX5_choose_12 rfl (lv_at hl 0 rfl) ?_
  refine lv_bipush (v := (-9 : Int32)) (cx_x X) (cx_b X) dX5_choose_13 (by decide) ?_
  refine lv_icmp_eq (tgt := 20) (cx_x X) (cx_b X) dX5_choose_15 (by decide) (fun c3 => ?_) (fun c3 => ?_)
  · replace hm := if_T c3 hm
    refine lv_iconst (v := (0 : Int32)) (cx_x X) (cx_b X) dX5_choose_20 (by decide) ?_
    refine lv_istore_n (lv' := [(3, .int (0 : Int32)), (2, .int v2), (0, .ref (A 0)), (1, .int a1)]) (cx_x X) (cx_b X) dX5_choose_21 rfl hl (by decide) rfl (fun ls hl => ?_)
    obtain ⟨qt4, hm, hmt4⟩ := bnd hm
    have Xt4 : ∀ (R7 : (Nat → Nat → Int32)) , m5_choose_X48 F a1 v2 R7 = some (rr9, FF9, RR9) → ∀ (H : Heap) (locs : List Loc), va_P D vwCl (w5_s y A (va_up F 7 (-9 : Int32)) R7) H → va_S (rg_s 7 A s.heap.size) s.heap H locs → ∀ ls, lv_has ls 9 [(0, .ref (A 0)), (1, .int a1), (2, .int v2)] → gw p l e rm_X5_choose s m args below meth c (some (.int rr9)) (fun H => va_P D vwCl (w5_s y A FF9 RR9) H) (rg_s 7 A s.heap.size) 0 0 H locs (F0 m 48 ls []) := by
      intro R7 hm H locs hP hS ls hl
      unfold m5_choose_X48 at hm
      refine lv_iconst (v := (0 : Int32)) (cx_x X) (cx_b X) dX5_choose_48 (by decide) ?_
      refine lv_istore_n (lv' := [(3, .int (0 : Int32)), (0, .ref (A 0)), (1, .int a1), (2, .int v2)]) (cx_x X) (cx_b X) dX5_choose_49 rfl hl (by decide) rfl (fun ls hl => ?_)
      refine lv_iconst (v := (0 : Int32)) (cx_x X) (cx_b X) dX5_choose_50 (by decide) ?_
      refine lv_istore (lv' := [(4, .int (0 : Int32)), (3, .int (0 : Int32)), (0, .ref (A 0)), (1, .int a1), (2, .int v2)]) (cx_x X) (cx_b X) dX5_choose_51 hl (by decide) rfl (fun ls hl => ?_)
      obtain ⟨qt8, hm, hmt8⟩ := bnd hm
      have Xt8 : ∀ (v13 : Int32) (F14 : (Nat → Int32)) , m5_choose_X241 R7 v13 F14 = some (rr9, FF9, RR9) → ∀ (H : Heap) (locs : List Loc), va_P D vwCl (w5_s y A F14 R7) H → va_S (rg_s 7 A s.heap.size) s.heap H locs → ∀ ls, lv_has ls 9 [(2, .int v13)] → gw p l e rm_X5_choose s m args below meth c (some (.int rr9)) (fun H => va_P D vwCl (w5_s y A FF9 RR9) H) (rg_s 7 A s.heap.size) 0 0 H locs (F0 m 241 ls []) := by
        intro v13 F14 hm H locs hP hS ls hl
        unfold m5_choose_X241 at hm
        refine lv_iload_n (cx_x X) (cx_b X) dX5_choose_241 rfl (lv_at hl 0 rfl) ?_
        obtain ⟨rfl, rfl, rfl⟩ := oc_3 hm
        exact gw_i X hS hP dX5_choose_242
      have Lt8 : ∀ (n : Nat) (v9 : Int32) (v10 : Int32) (v11 : Int32) (F12 : (Nat → Int32)) , wh (m5_choose_L53 a1 R7) n (v9, v10, v11, F12) = some qt8 → ∀ (H : Heap) (locs : List Loc), va_P D vwCl (w5_s y A F12 R7) H → va_S (rg_s 7 A s.heap.size) s.heap H locs → ∀ ls, lv_has ls 9 [(0, .ref (A 0)), (1, .int a1), (2, .int v9), (3, .int v10), (4, .int v11)] → gw p l e rm_X5_choose s m args below meth c (some (.int rr9)) (fun H => va_P D vwCl (w5_s y A FF9 RR9) H) (rg_s 7 A s.heap.size) 0 0 H locs (F0 m 53 ls []) := by
        intro n
        induction n with
        | zero => intro v9 v10 v11 F12 hm; cases hm
        | succ n ih =>
          intro v9 v10 v11 F12 hm H locs hP hS ls hl
          replace hm : (m5_choose_L53 a1 R7) (wh (m5_choose_L53 a1 R7) n) (v9, v10, v11, F12) = some qt8 := hm
          dsimp only [m5_choose_L53] at hm
          refine lv_iload (cx_x X) (cx_b X) dX5_choose_53 (lv_at hl 4 rfl) ?_
          refine lv_aload_n (cx_x X) (cx_b X) dX5_choose_55 rfl (lv_at hl 0 rfl) ?_
          obtain ⟨v16, h15, hm⟩ := bnd hm
          refine af_R (rn_V (As := []) (rest := [.int v11]) X (c_X5_cells l D y A F12 R7  _ h15) vq_X5_42 ⟨rfl, rfl⟩ ⟨Nat.le_of_ble_eq_true rfl, Nat.le_of_ble_eq_true rfl⟩ (rec_5 X hP) hP rfl hl.1 rfl (Nat.le_of_ble_eq_true rfl) dX5_choose_56 ⟨Nat.le_of_ble_eq_true rfl, Nat.le_of_ble_eq_true rfl⟩) ?_
          refine lv_icmp_ge (tgt := 241) (cx_x X) (cx_b X) dX5_choose_59 (by decide) (fun c17 => ?_) (fun c17 => ?_)
          · replace hm := if_T c17 hm
            exact Xt8 _ _ (by cases hm; exact hmt8) _ _ hP hS _ (lv_sub hl [2] rfl)
          · replace hm := if_F c17 hm
            refine lv_aload_n (cx_x X) (cx_b X) dX5_choose_62 rfl (lv_at hl 0 rfl) ?_
            refine lv_iload (cx_x X) (cx_b X) dX5_choose_63 (lv_at hl 4 rfl) ?_
            refine lv_iload_n (cx_x X) (cx_b X) dX5_choose_65 rfl (lv_at hl 1 rfl) ?_
            obtain ⟨v19, h18, hm⟩ := bnd hm
            refine af_R (rn_V (As := [.int v11, .int a1]) (rest := []) X (c_X5_far l D y A F12 R7 v11 a1  _ h18) vq_X5_58 ⟨rfl, rfl⟩ ⟨Nat.le_of_ble_eq_true rfl, Nat.le_of_ble_eq_true rfl⟩ (rec_5 X hP) hP rfl hl.1 rfl (Nat.le_of_ble_eq_true rfl) dX5_choose_66 ⟨Nat.le_of_ble_eq_true rfl, Nat.le_of_ble_eq_true rfl⟩) ?_
            refine lv_iconst (v := (1 : Int32)) (cx_x X) (cx_b X) dX5_choose_69 (by decide) ?_
            obtain ⟨qt21, hm, hmt21⟩ := bnd hm
            have Jt21 : ∀ (v20 : Int32) , m5_choose_J83 a1 R7 (wh (m5_choose_L53 a1 R7) n) v9 v10 v11 F12 v20 = some qt8 → ∀ (H : Heap) (locs : List Loc), va_P D vwCl (w5_s y A F12 R7) H → va_S (rg_s 7 A s.heap.size) s.heap H locs → ∀ ls, lv_has ls 9 [(0, .ref (A 0)), (1, .int a1), (2, .int v9), (3, .int v10), (4, .int v11)] → gw p l e rm_X5_choose s m args below meth c (some (.int rr9)) (fun H => va_P D vwCl (w5_s y A FF9 RR9) H) (rg_s 7 A s.heap.size) 0 0 H locs (F0 m 83 ls [.int v20]) := by
              intro v20 hm H locs hP hS ls hl
              unfold m5_choose_J83 at hm
              refine lv_istore (lv' := [(5, .int v20), (0, .ref (A 0)), (1, .int a1), (2, .int v9), (3, .int v10), (4, .int v11)]) (cx_x X) (cx_b X) dX5_choose_83 hl (by decide) rfl (fun ls hl => ?_)
              refine lv_aload_n (cx_x X) (cx_b X) dX5_choose_85 rfl (lv_at hl 1 rfl) ?_
              obtain ⟨v23, h22, hm⟩ := bnd hm
              refine af_R (rn_V (As := []) (rest := []) X (c_X5_channels l D y A F12 R7  _ h22) vq_X5_48 ⟨rfl, rfl⟩ ⟨Nat.le_of_ble_eq_true rfl, Nat.le_of_ble_eq_true rfl⟩ (rec_5 X hP) hP rfl hl.1 rfl (Nat.le_of_ble_eq_true rfl) dX5_choose_86 ⟨Nat.le_of_ble_eq_true rfl, Nat.le_of_ble_eq_true rfl⟩) ?_
              refine lv_iconst (v := (1 : Int32)) (cx_x X) (cx_b X) dX5_choose_89 (by decide) ?_
              refine lv_isub (cx_x X) (cx_b X) dX5_choose_90 ?_
              refine lv_istore (lv' := [(6, .int (v23 - (1 : Int32))), (5, .int v20), (0, .ref (A 0)), (1, .int a1), (2, .int v9), (3, .int v10), (4, .int v11)]) (cx_x X) (cx_b X) dX5_choose_91 hl (by decide) rfl (fun ls hl => ?_)
              obtain ⟨qt24, hm, hmt24⟩ := bnd hm
              have Xt24 : ∀ (v29 : Int32) (v30 : Int32) (F31 : (Nat → Int32)) , m5_choose_X235 (wh (m5_choose_L53 a1 R7) n) v11 v29 v30 F31 = some qt8 → ∀ (H : Heap) (locs : List Loc), va_P D vwCl (w5_s y A F31 R7) H → va_S (rg_s 7 A s.heap.size) s.heap H locs → ∀ ls, lv_has ls 9 [(0, .ref (A 0)), (1, .int a1), (2, .int v29), (3, .int v30), (4, .int v11)] → gw p l e rm_X5_choose s m args below meth c (some (.int rr9)) (fun H => va_P D vwCl (w5_s y A FF9 RR9) H) (rg_s 7 A s.heap.size) 0 0 H locs (F0 m 235 ls []) := by
                intro v29 v30 F31 hm H locs hP hS ls hl
                unfold m5_choose_X235 at hm
                refine lv_iinc (v := (v11 + (1 : Int32))) (lv' := [(4, .int (v11 + (1 : Int32))), (0, .ref (A 0)), (1, .int a1), (2, .int v29), (3, .int v30)]) (cx_x X) (cx_b X) dX5_choose_235 hl (k := 4) rfl (by rfl) (by decide) rfl (fun ls hl => ?_)
                refine lv_goto (tgt := 53) (cx_x X) (cx_b X) dX5_choose_238 (by decide) ?_
                exact ih _ _ _ _ hm _ _ hP hS _ (lv_sub hl [1, 2, 3, 4, 0] rfl)
              have Lt24 : ∀ (n : Nat) (v25 : Int32) (v26 : Int32) (v27 : Int32) (F28 : (Nat → Int32)) , wh (m5_choose_L93 a1 R7 v11 v20) n (v25, v26, v27, F28) = some qt24 → ∀ (H : Heap) (locs : List Loc), va_P D vwCl (w5_s y A F28 R7) H → va_S (rg_s 7 A s.heap.size) s.heap H locs → ∀ ls, lv_has ls 9 [(0, .ref (A 0)), (1, .int a1), (2, .int v25), (3, .int v26), (4, .int v11), (5, .int v20), (6, .int v27)] → gw p l e rm_X5_choose s m args below meth c (some (.int rr9)) (fun H => va_P D vwCl (w5_s y A FF9 RR9) H) (rg_s 7 A s.heap.size) 0 0 H locs (F0 m 93 ls []) := by
                intro n
                induction n with
                | zero => intro v25 v26 v27 F28 hm; cases hm
                | succ n ih =>
                  intro v25 v26 v27 F28 hm H locs hP hS ls hl
                  replace hm : (m5_choose_L93 a1 R7 v11 v20) (wh (m5_choose_L93 a1 R7 v11 v20) n) (v25, v26, v27, F28) = some qt24 := hm
                  dsimp only [m5_choose_L93] at hm
                  refine lv_iload (cx_x X) (cx_b X) dX5_choose_93 (lv_at hl 6 rfl) ?_
                  refine lv_if_lt (tgt := 235) (cx_x X) (cx_b X) dX5_choose_95 (by decide) (fun c32 => ?_) (fun c32 => ?_)
                  · replace hm := if_T c32 hm
                    exact Xt24 _ _ _ (by cases hm; exact hmt24) _ _ hP hS _ (lv_sub hl [0, 1, 2, 3, 4] rfl)
                  · replace hm := if_F c32 hm
                    refine lv_iload (cx_x X) (cx_b X) dX5_choose_98 (lv_at hl 5 rfl) ?_
                    refine lv_aload_n (cx_x X) (cx_b X) dX5_choose_100 rfl (lv_at hl 0 rfl) ?_
                    refine gf_X5_7 X hP dX5_choose_101 ?_
                    refine lv_iconst (v := (5 : Int32)) (cx_x X) (cx_b X) dX5_choose_104 (by decide) ?_
                    refine ld_5_0 X hP (by decide) dX5_choose_105 ?_
                    refine lv_icmp_le (tgt := 235) (cx_x X) (cx_b X) dX5_choose_106 (by decide) (fun c33 => ?_) (fun c33 => ?_)
                    · replace hm := if_T c33 hm
                      exact Xt24 _ _ _ (by cases hm; exact hmt24) _ _ hP hS _ (lv_sub hl [0, 1, 2, 3, 4] rfl)
                    · replace hm := if_F c33 hm
                      refine lv_aload_n (cx_x X) (cx_b X) dX5_choose_109 rfl (lv_at hl 0 rfl) ?_
                      refine gf_X5_27 X hP dX5_choose_110 ?_
                      refine lv_iload (cx_x X) (cx_b X) dX5_choose_113 (lv_at hl 6 rfl) ?_
                      obtain ⟨h34, hm⟩ := ck_E hm
                      refine ld_5_5 X hP h34 dX5_choose_115 ?_
                      obtain ⟨qt38, hm, hmt38⟩ := bnd hm
                      have Jt38 : ∀ (v35 : Int32) (v36 : Int32) (F37 : (Nat → Int32)) , m5_choose_J229 (wh (m5_choose_L93 a1 R7 v11 v20) n) v27 v35 v36 F37 = some qt24 → ∀ (H : Heap) (locs : List Loc), va_P D vwCl (w5_s y A F37 R7) H → va_S (rg_s 7 A s.heap.size) s.heap H locs → ∀ ls, lv_has ls 9 [(0, .ref (A 0)), (1, .int a1), (2, .int v35), (3, .int v36), (4, .int v11), (5, .int v20), (6, .int v27)] → gw p l e rm_X5_choose s m args below meth c (some (.int rr9)) (fun H => va_P D vwCl (w5_s y A FF9 RR9) H) (rg_s 7 A s.heap.size) 0 0 H locs (F0 m 229 ls []) := by
                        intro v35 v36 F37 hm H locs hP hS ls hl
                        unfold m5_choose_J229 at hm
                        refine lv_iinc (v := (v27 + (-1 : Int32))) (lv' := [(6, .int (v27 + (-1 : Int32))), (0, .ref (A 0)), (1, .int a1), (2, .int v35), (3, .int v36), (4, .int v11), (5, .int v20)]) (cx_x X) (cx_b X) dX5_choose_229 hl (k := 6) rfl (by rfl) (by decide) rfl (fun ls hl => ?_)
                        refine lv_goto (tgt := 93) (cx_x X) (cx_b X) dX5_choose_232 (by decide) ?_
                        exact ih _ _ _ _ hm _ _ hP hS _ (lv_sub hl [1, 2, 3, 4, 5, 6, 0] rfl)
                      refine lv_if_eq (tgt := 229) (cx_x X) (cx_b X) dX5_choose_116 (by decide) (fun c39 => ?_) (fun c39 => ?_)
                      · replace hm := if_T c39 hm
                        exact Jt38 _ _ _ (by cases hm; exact hmt38) _ _ hP hS _ (lv_sub hl [0, 1, 2, 3, 4, 5, 6] rfl)
                      · replace hm := if_F c39 hm
                        refine lv_aload_n (cx_x X) (cx_b X) dX5_choose_119 rfl (lv_at hl 0 rfl) ?_
                        refine lv_iload (cx_x X) (cx_b X) dX5_choose_120 (lv_at hl 4 rfl) ?_
                        refine lv_iload (cx_x X) (cx_b X) dX5_choose_122 (lv_at hl 6 rfl) ?_
                        obtain ⟨v41, h40, hm⟩ := bnd hm
                        refine af_R (rn_V (As := [.int v11, .int v27]) (rest := []) X (c_X5_isNominal l D y A F28 R7 v11 v27  _ h40) vq_X5_69 ⟨rfl, rfl⟩ ⟨Nat.le_of_ble_eq_true rfl, Nat.le_of_ble_eq_true rfl⟩ (rec_5 X hP) hP rfl hl.1 rfl (Nat.le_of_ble_eq_true rfl) dX5_choose_124 ⟨Nat.le_of_ble_eq_true rfl, Nat.le_of_ble_eq_true rfl⟩) ?_
                        refine lv_if_eq (tgt := 229) (cx_x X) (cx_b X) dX5_choose_127 (by decide) (fun c42 => ?_) (fun c42 => ?_)
                        · replace hm := if_T c42 hm
                          exact Jt38 _ _ _ (by cases hm; exact hmt38) _ _ hP hS _ (lv_sub hl [0, 1, 2, 3, 4, 5, 6] rfl)
                        · replace hm := if_F c42 hm
                          refine lv_aload_n (cx_x X) (cx_b X) dX5_choose_130 rfl (lv_at hl 0 rfl) ?_
                          refine gf_X5_7 X hP dX5_choose_131 ?_
                          refine lv_iconst (v := (4 : Int32)) (cx_x X) (cx_b X) dX5_choose_134 (by decide) ?_
                          refine ld_5_0 X hP (by decide) dX5_choose_135 ?_
                          obtain ⟨qt44, hm, hmt44⟩ := bnd hm
                          have Jt44 : ∀ (v43 : Int32) , m5_choose_J166 v11 v25 v26 v27 F28 v43 = some qt38 → ∀ (H : Heap) (locs : List Loc), va_P D vwCl (w5_s y A F28 R7) H → va_S (rg_s 7 A s.heap.size) s.heap H locs → ∀ ls, lv_has ls 9 [(0, .ref (A 0)), (1, .int a1), (2, .int v25), (3, .int v26), (4, .int v11), (5, .int v20), (6, .int v27)] → gw p l e rm_X5_choose s m args below meth c (some (.int rr9)) (fun H => va_P D vwCl (w5_s y A FF9 RR9) H) (rg_s 7 A s.heap.size) 0 0 H locs (F0 m 166 ls [.int v43]) := by
                            intro v43 hm H locs hP hS ls hl
                            unfold m5_choose_J166 at hm
                            refine lv_istore (lv' := [(7, .int v43), (0, .ref (A 0)), (1, .int a1), (2, .int v25), (3, .int v26), (4, .int v11), (5, .int v20), (6, .int v27)]) (cx_x X) (cx_b X) dX5_choose_166 hl (by decide) rfl (fun ls hl => ?_)
                            refine lv_iload_n (cx_x X) (cx_b X) dX5_choose_168 rfl (lv_at hl 3 rfl) ?_
                            refine lv_bipush (v := (-9 : Int32)) (cx_x X) (cx_b X) dX5_choose_169 (by decide) ?_
                            obtain ⟨qt46, hm, hmt46⟩ := bnd hm
                            have Jt46 : ∀ (v45 : Int32) , m5_choose_J185 v11 v25 v26 v27 F28 v43 v45 = some qt38 → ∀ (H : Heap) (locs : List Loc), va_P D vwCl (w5_s y A F28 R7) H → va_S (rg_s 7 A s.heap.size) s.heap H locs → ∀ ls, lv_has ls 9 [(0, .ref (A 0)), (1, .int a1), (2, .int v25), (3, .int v26), (4, .int v11), (5, .int v20), (6, .int v27), (7, .int v43)] → gw p l e rm_X5_choose s m args below meth c (some (.int rr9)) (fun H => va_P D vwCl (w5_s y A FF9 RR9) H) (rg_s 7 A s.heap.size) 0 0 H locs (F0 m 185 ls [.int v45]) := by
                              intro v45 hm H locs hP hS ls hl
                              unfold m5_choose_J185 at hm
                              refine lv_istore (lv' := [(8, .int v45), (0, .ref (A 0)), (1, .int a1), (2, .int v25), (3, .int v26), (4, .int v11), (5, .int v20), (6, .int v27), (7, .int v43)]) (cx_x X) (cx_b X) dX5_choose_185 hl (by decide) rfl (fun ls hl => ?_)
                              refine lv_iload (cx_x X) (cx_b X) dX5_choose_187 (lv_at hl 0 rfl) ?_
                              obtain ⟨qt48, hm, hmt48⟩ := bnd hm
                              have Jt48 : ∀ (v47 : Int32) , m5_choose_J198 v11 v26 F28 v43 v45 v47 = some qt38 → ∀ (H : Heap) (locs : List Loc), va_P D vwCl (w5_s y A F28 R7) H → va_S (rg_s 7 A s.heap.size) s.heap H locs → ∀ ls, lv_has ls 9 [(0, .ref (A 0)), (1, .int a1), (3, .int v26), (4, .int v11), (5, .int v20), (6, .int v27), (7, .int v43), (8, .int v45)] → gw p l e rm_X5_choose s m args below meth c (some (.int rr9)) (fun H => va_P D vwCl (w5_s y A FF9 RR9) H) (rg_s 7 A s.heap.size) 0 0 H locs (F0 m 198 ls [.int v47]) := by
                                intro v47 hm H locs hP hS ls hl
                                unfold m5_choose_J198 at hm
                                refine lv_istore_n (lv' := [(2, .int v47), (0, .ref (A 0)), (1, .int a1), (3, .int v26), (4, .int v11), (5, .int v20), (6, .int v27), (7, .int v43), (8, .int v45)]) (cx_x X) (cx_b X) dX5_choose_198 rfl hl (by decide) rfl (fun ls hl => ?_)
                                refine lv_aload_n (cx_x X) (cx_b X) dX5_choose_199 rfl (lv_at hl 1 rfl) ?_
                                refine lv_iload (cx_x X) (cx_b X) dX5_choose_200 (lv_at hl 8 rfl) ?_
                                obtain ⟨qt50, hm, hmt50⟩ := bnd hm
                                have Jt50 : ∀ (v49 : Int32) , m5_choose_J214 v26 F28 v43 v45 v47 v49 = some qt38 → ∀ (H : Heap) (locs : List Loc), va_P D vwCl (w5_s y A F28 R7) H → va_S (rg_s 7 A s.heap.size) s.heap H locs → ∀ ls, lv_has ls 9 [(0, .ref (A 0)), (1, .int a1), (2, .int v47), (3, .int v26), (4, .int v11), (5, .int v20), (6, .int v27), (7, .int v43), (8, .int v45)] → gw p l e rm_X5_choose s m args below meth c (some (.int rr9)) (fun H => va_P D vwCl (w5_s y A FF9 RR9) H) (rg_s 7 A s.heap.size) 0 0 H locs (F0 m 214 ls [.int v49, .ref (A 0)]) := by
                                  intro v49 hm H locs hP hS ls hl
                                  unfold m5_choose_J214 at hm
                                  refine pf_X5_75 X hP hA hS dX5_choose_214 (fun H locs hP hS => ?_)
                                  refine lv_iload (cx_x X) (cx_b X) dX5_choose_217 (lv_at hl 8 rfl) ?_
                                  obtain ⟨qt52, hm, hmt52⟩ := bnd hm
                                  have Jt52 : ∀ (v51 : Int32) , m5_choose_J228 F28 v47 v49 v51 = some qt38 → ∀ (H : Heap) (locs : List Loc), va_P D vwCl (w5_s y A (va_up F28 7 v49) R7) H → va_S (rg_s 7 A s.heap.size) s.heap H locs → ∀ ls, lv_has ls 9 [(0, .ref (A 0)), (1, .int a1), (2, .int v47), (4, .int v11), (5, .int v20), (6, .int v27)] → gw p l e rm_X5_choose s m args below meth c (some (.int rr9)) (fun H => va_P D vwCl (w5_s y A FF9 RR9) H) (rg_s 7 A s.heap.size) 0 0 H locs (F0 m 228 ls [.int v51]) := by
                                    intro v51 hm H locs hP hS ls hl
                                    unfold m5_choose_J228 at hm
                                    refine lv_istore_n (lv' := [(3, .int v51), (0, .ref (A 0)), (1, .int a1), (2, .int v47), (4, .int v11), (5, .int v20), (6, .int v27)]) (cx_x X) (cx_b X) dX5_choose_228 rfl hl (by decide) rfl (fun ls hl => ?_)
                                    exact Jt38 _ _ _ (by cases hm; exact hmt38) _ _ hP hS _ (lv_sub hl [1, 2, 3, 0, 4, 5, 6] rfl)
                                  refine lv_if_eq (tgt := 227) (cx_x X) (cx_b X) dX5_choose_219 (by decide) (fun c53 => ?_) (fun c53 => ?_)
                                  · replace hm := if_T c53 hm
                                    refine lv_iload_n (cx_x X) (cx_b X) dX5_choose_227 rfl (lv_at hl 3 rfl) ?_
                                    exact Jt52 _ (by cases hm; exact hmt52) _ _ hP hS _ (lv_sub hl [0, 1, 2, 4, 5, 6] rfl)
                                  · replace hm := if_F c53 hm
                                    refine lv_iload (cx_x X) (cx_b X) dX5_choose_222 (lv_at hl 7 rfl) ?_
                                    refine lv_goto (tgt := 228) (cx_x X) (cx_b X) dX5_choose_224 (by decide) ?_
                                    exact Jt52 _ (by cases hm; exact hmt52) _ _ hP hS _ (lv_sub hl [0, 1, 2, 4, 5, 6] rfl)
                                refine lv_if_eq (tgt := 210) (cx_x X) (cx_b X) dX5_choose_202 (by decide) (fun c54 => ?_) (fun c54 => ?_)
                                · replace hm := if_T c54 hm
                                  refine lv_aload_n (cx_x X) (cx_b X) dX5_choose_210 rfl (lv_at hl 1 rfl) ?_
                                  refine gf_X5_75 X hP dX5_choose_211 ?_
                                  exact Jt50 _ (by cases hm; exact hmt50) _ _ hP hS _ (lv_sub hl [1, 2, 0, 3, 4, 5, 6, 7, 8] rfl)
                                · replace hm := if_F c54 hm
                                  refine lv_iload (cx_x X) (cx_b X) dX5_choose_205 (lv_at hl 4 rfl) ?_
                                  refine lv_goto (tgt := 214) (cx_x X) (cx_b X) dX5_choose_207 (by decide) ?_
                                  exact Jt50 _ (by cases hm; exact hmt50) _ _ hP hS _ (lv_sub hl [1, 2, 0, 3, 4, 5, 6, 7, 8] rfl)
                              refine lv_if_eq (tgt := 197) (cx_x X) (cx_b X) dX5_choose_189 (by decide) (fun c55 => ?_) (fun c55 => ?_)
                              · replace hm := if_T c55 hm
                                refine lv_iload_n (cx_x X) (cx_b X) dX5_choose_197 rfl (lv_at hl 3 rfl) ?_
                                exact Jt48 _ (by cases hm; exact hmt48) _ _ hP hS _ (lv_sub hl [1, 2, 4, 5, 6, 7, 8, 0] rfl)
                              · replace hm := if_F c55 hm
                                refine lv_iload (cx_x X) (cx_b X) dX5_choose_192 (lv_at hl 7 rfl) ?_
                                refine lv_goto (tgt := 198) (cx_x X) (cx_b X) dX5_choose_194 (by decide) ?_
                                exact Jt48 _ (by cases hm; exact hmt48) _ _ hP hS _ (lv_sub hl [1, 2, 4, 5, 6, 7, 8, 0] rfl)
                            refine lv_icmp_eq (tgt := 180) (cx_x X) (cx_b X) dX5_choose_171 (by decide) (fun c56 => ?_) (fun c56 => ?_)
                            · replace hm := if_T c56 hm
                              refine lv_iconst (v := (1 : Int32)) (cx_x X) (cx_b X) dX5_choose_180 (by decide) ?_
                              refine lv_goto (tgt := 185) (cx_x X) (cx_b X) dX5_choose_181 (by decide) ?_
                              exact Jt46 _ (by cases hm; exact hmt46) _ _ hP hS _ (lv_sub hl [1, 2, 3, 4, 5, 6, 7, 0] rfl)
                            · replace hm := if_F c56 hm
                              refine lv_iload (cx_x X) (cx_b X) dX5_choose_174 (lv_at hl 0 rfl) ?_
                              refine lv_iload_n (cx_x X) (cx_b X) dX5_choose_176 rfl (lv_at hl 4 rfl) ?_
                              refine lv_icmp_ge (tgt := 184) (cx_x X) (cx_b X) dX5_choose_177 (by decide) (fun c57 => ?_) (fun c57 => ?_)
                              · replace hm := if_T c57 hm
                                refine lv_iconst (v := (0 : Int32)) (cx_x X) (cx_b X) dX5_choose_184 (by decide) ?_
                                exact Jt46 _ (by cases hm; exact hmt46) _ _ hP hS _ (lv_sub hl [1, 2, 3, 4, 5, 6, 7, 0] rfl)
                              · replace hm := if_F c57 hm
                                refine lv_iconst (v := (1 : Int32)) (cx_x X) (cx_b X) dX5_choose_180 (by decide) ?_
                                refine lv_goto (tgt := 185) (cx_x X) (cx_b X) dX5_choose_181 (by decide) ?_
                                exact Jt46 _ (by cases hm; exact hmt46) _ _ hP hS _ (lv_sub hl [1, 2, 3, 4, 5, 6, 7, 0] rfl)
                          refine lv_if_ne (tgt := 145) (cx_x X) (cx_b X) dX5_choose_136 (by decide) (fun c58 => ?_) (fun c58 => ?_)
                          · replace hm := if_F c58 hm
                            refine lv_aload_n (cx_x X) (cx_b X) dX5_choose_145 rfl (lv_at hl 0 rfl) ?_
                            refine gf_X5_7 X hP dX5_choose_146 ?_
                            refine lv_iconst (v := (4 : Int32)) (cx_x X) (cx_b X) dX5_choose_149 (by decide) ?_
                            refine ld_5_0 X hP (by decide) dX5_choose_150 ?_
                            refine lv_iconst (v := (2 : Int32)) (cx_x X) (cx_b X) dX5_choose_151 (by decide) ?_
                            refine lv_icmp_ne (tgt := 165) (cx_x X) (cx_b X) dX5_choose_152 (by decide) (fun c59 => ?_) (fun c59 => ?_)
                            · replace hm := if_F c59 hm
                              refine lv_iconst (v := (0 : Int32)) (cx_x X) (cx_b X) dX5_choose_165 (by decide) ?_
                              exact Jt44 _ (by cases hm; exact hmt44) _ _ hP hS _ (lv_sub hl [0, 1, 2, 3, 4, 5, 6] rfl)
                            · replace hm := if_T c59 hm
                              refine lv_aload_n (cx_x X) (cx_b X) dX5_choose_155 rfl (lv_at hl 0 rfl) ?_
                              refine lv_iload_n (cx_x X) (cx_b X) dX5_choose_156 rfl (lv_at hl 1 rfl) ?_
                              refine lv_iload (cx_x X) (cx_b X) dX5_choose_157 (lv_at hl 6 rfl) ?_
                              obtain ⟨v61, h60, hm⟩ := bnd hm
                              refine af_R (rn_V (As := [.int a1, .int v27]) (rest := []) X (c_X5_burdenOf l D y A F28 R7 a1 v27  _ h60) vq_X5_84 ⟨rfl, rfl⟩ ⟨Nat.le_of_ble_eq_true rfl, Nat.le_of_ble_eq_true rfl⟩ (rec_5 X hP) hP rfl hl.1 rfl (Nat.le_of_ble_eq_true rfl) dX5_choose_159 ⟨Nat.le_of_ble_eq_true rfl, Nat.le_of_ble_eq_true rfl⟩) ?_
                              refine lv_goto (tgt := 166) (cx_x X) (cx_b X) dX5_choose_162 (by decide) ?_
                              exact Jt44 _ (by cases hm; exact hmt44) _ _ hP hS _ (lv_sub hl [0, 1, 2, 3, 4, 5, 6] rfl)
                          · replace hm := if_T c58 hm
                            refine lv_iload (cx_x X) (cx_b X) dX5_choose_139 (lv_at hl 5 rfl) ?_
                            refine lv_ineg (cx_x X) (cx_b X) dX5_choose_141 ?_
                            refine lv_goto (tgt := 166) (cx_x X) (cx_b X) dX5_choose_142 (by decide) ?_
                            exact Jt44 _ (by cases hm; exact hmt44) _ _ hP hS _ (lv_sub hl [0, 1, 2, 3, 4, 5, 6] rfl)
              exact Lt24 _ _ _ _ _ hm _ _ hP hS _ (lv_sub hl [2, 3, 4, 5, 6, 1, 0] rfl)
            refine lv_icmp_ne (tgt := 82) (cx_x X) (cx_b X) dX5_choose_70 (by decide) (fun c62 => ?_) (fun c62 => ?_)
            · replace hm := if_F c62 hm
              refine lv_iconst (v := (0 : Int32)) (cx_x X) (cx_b X) dX5_choose_82 (by decide) ?_
              exact Jt21 _ (by cases hm; exact hmt21) _ _ hP hS _ (lv_sub hl [0, 1, 2, 3, 4] rfl)
            · replace hm := if_T c62 hm
              refine lv_aload_n (cx_x X) (cx_b X) dX5_choose_73 rfl (lv_at hl 0 rfl) ?_
              refine lv_iload (cx_x X) (cx_b X) dX5_choose_74 (lv_at hl 4 rfl) ?_
              obtain ⟨v64, h63, hm⟩ := bnd hm
              refine af_R (rn_V (As := [.int v11]) (rest := []) X (c_X5_availables l D y A F12 R7 v11  _ h63) vq_X5_81 ⟨rfl, rfl⟩ ⟨Nat.le_of_ble_eq_true rfl, Nat.le_of_ble_eq_true rfl⟩ (rec_5 X hP) hP rfl hl.1 rfl (Nat.le_of_ble_eq_true rfl) dX5_choose_76 ⟨Nat.le_of_ble_eq_true rfl, Nat.le_of_ble_eq_true rfl⟩) ?_
              refine lv_goto (tgt := 83) (cx_x X) (cx_b X) dX5_choose_79 (by decide) ?_
              exact Jt21 _ (by cases hm; exact hmt21) _ _ hP hS _ (lv_sub hl [0, 1, 2, 3, 4] rfl)
      exact Lt8 _ _ _ _ _ hm _ _ hP hS _ (lv_sub hl [2, 3, 4, 1, 0] rfl)
    have Lt4 : ∀ (n : Nat) (v5 : Int32) (R6 : (Nat → Nat → Int32)) , wh (m5_choose_L22 F a1) n (v5, R6) = some qt4 → ∀ (H : Heap) (locs : List Loc), va_P D vwCl (w5_s y A (va_up F 7 (-9 : Int32)) R6) H → va_S (rg_s 7 A s.heap.size) s.heap H locs → ∀ ls, lv_has ls 9 [(0, .ref (A 0)), (1, .int a1), (2, .int v2), (3, .int v5)] → gw p l e rm_X5_choose s m args below meth c (some (.int rr9)) (fun H => va_P D vwCl (w5_s y A FF9 RR9) H) (rg_s 7 A s.heap.size) 0 0 H locs (F0 m 22 ls []) := by
      intro n
      induction n with
      | zero => intro v5 R6 hm; cases hm
      | succ n ih =>
        intro v5 R6 hm H locs hP hS ls hl
        replace hm : (m5_choose_L22 F a1) (wh (m5_choose_L22 F a1) n) (v5, R6) = some qt4 := hm
        dsimp only [m5_choose_L22] at hm
        refine lv_iload_n (cx_x X) (cx_b X) dX5_choose_22 rfl (lv_at hl 3 rfl) ?_
        refine lv_aload_n (cx_x X) (cx_b X) dX5_choose_23 rfl (lv_at hl 0 rfl) ?_
        obtain ⟨v66, h65, hm⟩ := bnd hm
        refine af_R (rn_V (As := []) (rest := [.int v5]) X (c_X5_channels l D y A (va_up F 7 (-9 : Int32)) R6  _ h65) vq_X5_48 ⟨rfl, rfl⟩ ⟨Nat.le_of_ble_eq_true rfl, Nat.le_of_ble_eq_true rfl⟩ (rec_5 X hP) hP rfl hl.1 rfl (Nat.le_of_ble_eq_true rfl) dX5_choose_24 ⟨Nat.le_of_ble_eq_true rfl, Nat.le_of_ble_eq_true rfl⟩) ?_
        refine lv_icmp_ge (tgt := 48) (cx_x X) (cx_b X) dX5_choose_27 (by decide) (fun c67 => ?_) (fun c67 => ?_)
        · replace hm := if_T c67 hm
          exact Xt4 _ (by cases hm; exact hmt4) _ _ hP hS _ (lv_sub hl [0, 1, 2] rfl)
        · replace hm := if_F c67 hm
          refine lv_aload_n (cx_x X) (cx_b X) dX5_choose_30 rfl (lv_at hl 0 rfl) ?_
          refine gf_X5_27 X hP dX5_choose_31 ?_
          refine lv_iload_n (cx_x X) (cx_b X) dX5_choose_34 rfl (lv_at hl 3 rfl) ?_
          refine lv_aload_n (cx_x X) (cx_b X) dX5_choose_35 rfl (lv_at hl 0 rfl) ?_
          refine lv_iload_n (cx_x X) (cx_b X) dX5_choose_36 rfl (lv_at hl 1 rfl) ?_
          refine lv_iload_n (cx_x X) (cx_b X) dX5_choose_37 rfl (lv_at hl 3 rfl) ?_
          obtain ⟨v69, h68, hm⟩ := bnd hm
          refine af_R (rn_V (As := [.int a1, .int v5]) (rest := [.int v5, .ref (A 6)]) X (c_X5_available l D y A (va_up F 7 (-9 : Int32)) R6 a1 v5  _ h68) vq_X5_72 ⟨rfl, rfl⟩ ⟨Nat.le_of_ble_eq_true rfl, Nat.le_of_ble_eq_true rfl⟩ (rec_5 X hP) hP rfl hl.1 rfl (Nat.le_of_ble_eq_true rfl) dX5_choose_38 ⟨Nat.le_of_ble_eq_true rfl, Nat.le_of_ble_eq_true rfl⟩) ?_
          obtain ⟨h70, hm⟩ := ck_E hm
          refine st_5_5 X hP hA hS h70 dX5_choose_41 (fun H locs hP hS => ?_)
          refine lv_iinc (v := (v5 + (1 : Int32))) (lv' := [(3, .int (v5 + (1 : Int32))), (0, .ref (A 0)), (1, .int a1), (2, .int v2)]) (cx_x X) (cx_b X) dX5_choose_42 hl (k := 3) rfl (by rfl) (by decide) rfl (fun ls hl => ?_)
          refine lv_goto (tgt := 22) (cx_x X) (cx_b X) dX5_choose_45 (by decide) ?_
          exact ih _ _ hm _ _ hP hS _ (lv_sub hl [1, 2, 3, 0] rfl)
    exact Lt4 _ _ _ hm _ _ hP hS _ (lv_sub hl [2, 3, 1, 0] rfl)
  · replace hm := if_F c3 hm
    refine lv_iload_n (cx_x X) (cx_b X) dX5_choose_18 rfl (lv_at hl 0 rfl) ?_
    obtain ⟨rfl, rfl, rfl⟩ := oc_3 hm
    exact gw_i X hS hP dX5_choose_19
/-! X5_forget -/
def m5_forget (F : (Nat → Int32)) (R : (Nat → Nat → Int32)) (a1 : Int32) : Option ((Nat → Int32) × (Nat → Nat → Int32)) :=
  if inb ((14 : Int32) + a1) 194 then
  if inb ((74 : Int32) + a1) 194 then
  if inb ((134 : Int32) + a1) 194 then
  some (F, (va_up (va_up (va_up R 0 (upd (R 0) ((14 : Int32) + a1).toNatClampNeg (0 : Int32))) 0 (upd ((va_up R 0 (upd (R 0) ((14 : Int32) + a1).toNatClampNeg (0 : Int32))) 0) ((74 : Int32) + a1).toNatClampNeg (0 : Int32))) 0 (upd ((va_up (va_up R 0 (upd (R 0) ((14 : Int32) + a1).toNatClampNeg (0 : Int32))) 0 (upd ((va_up R 0 (upd (R 0) ((14 : Int32) + a1).toNatClampNeg (0 : Int32))) 0) ((74 : Int32) + a1).toNatClampNeg (0 : Int32))) 0) ((134 : Int32) + a1).toNatClampNeg (0 : Int32)))) else none else none else none
abbrev rm_X5_forget : Room := { frames := 0, cells := 0, slots := 0, locals := 0 }
set_option maxHeartbeats 4000000 in
set_option maxRecDepth 100000 in
theorem c_X5_forget (l : Launch) (D : va_G) (y : Nat → ClassId) (A : Nat → Nat) (F : (Nat → Int32)) (R : (Nat → Nat → Int32)) (a1 : Int32) (FF9 : (Nat → Int32)) (RR9 : (Nat → Nat → Int32)) (sz : Nat) (hI : aj_s 7 A) (hm : m5_forget F R a1 = some (FF9, RR9)) : Met l yX5_forget (wy_s yX5_forget cX5_forget 2 none) rm_X5_forget (pc_R D y [.ref (A 0), .int a1] (fun H => H.size = sz ∧ va_P D vwCl (w5_s y A F R) H)) (qc_W none (fun H => va_P D vwCl (w5_s y A FF9 RR9) H) (rg_s 7 A sz)) 0 0 (rg_s 7 A sz) := by
  refine met_W (by decide) (Nat.le_of_ble_eq_true rfl) ?_
  intro p e s m args below meth c X hnm h0 ls hl
  obtain ⟨hsz, hP⟩ := h0
  subst hsz
  have hA := ap_of (sz := s.heap.size) hI
  have hS : va_S (rg_s 7 A s.heap.size) s.heap s.heap [] := va_S.rf
  replace hl : lv_has ls 2 [(0, .ref (A 0)), (1, .int a1)] := hl
  replace X : cx p s m args meth c cX5_forget 2 none RX5 D y := X
  unfold m5_forget at hm
  refine lv_aload_n (cx_x X) (cx_b X) dX5_forget_0 rfl (lv_at hl 0 rfl) ?_
  refine gf_X5_7 X hP dX5_forget_1 ?_
  refine lv_bipush (v := (14 : Int32)) (cx_x X) (cx_b X) dX5_forget_4 (by decide) ?_
  refine lv_iload_n (cx_x X) (cx_b X) dX5_forget_6 rfl (lv_at hl 1 rfl) ?_
  refine lv_iadd (cx_x X) (cx_b X) dX5_forget_7 ?_
  refine lv_iconst (v := (0 : Int32)) (cx_x X) (cx_b X) dX5_forget_8 (by decide) ?_
  obtain ⟨h1, hm⟩ := ck_E hm
  refine st_5_0 X hP hA hS h1 dX5_forget_9 (fun H locs hP hS => ?_)
  refine lv_aload_n (cx_x X) (cx_b X) dX5_forget_10 rfl (lv_at hl 0 rfl) ?_
  refine gf_X5_7 X hP dX5_forget_11 ?_
  refine lv_bipush (v := (74 : Int32)) (cx_x X) (cx_b X) dX5_forget_14 (by decide) ?_
  refine lv_iload_n (cx_x X) (cx_b X) dX5_forget_16 rfl (lv_at hl 1 rfl) ?_
  refine lv_iadd (cx_x X) (cx_b X) dX5_forget_17 ?_
  refine lv_iconst (v := (0 : Int32)) (cx_x X) (cx_b X) dX5_forget_18 (by decide) ?_
  obtain ⟨h2, hm⟩ := ck_E hm
  refine st_5_0 X hP hA hS h2 dX5_forget_19 (fun H locs hP hS => ?_)
  refine lv_aload_n (cx_x X) (cx_b X) dX5_forget_20 rfl (lv_at hl 0 rfl) ?_
  refine gf_X5_7 X hP dX5_forget_21 ?_
  refine lv_sipush (v := (134 : Int32)) (cx_x X) (cx_b X) dX5_forget_24 (by decide) ?_
  refine lv_iload_n (cx_x X) (cx_b X) dX5_forget_27 rfl (lv_at hl 1 rfl) ?_
  refine lv_iadd (cx_x X) (cx_b X) dX5_forget_28 ?_
  refine lv_iconst (v := (0 : Int32)) (cx_x X) (cx_b X) dX5_forget_29 (by decide) ?_
  obtain ⟨h3, hm⟩ := ck_E hm
  refine st_5_0 X hP hA hS h3 dX5_forget_30 (fun H locs hP hS => ?_)
  obtain ⟨rfl, rfl⟩ := oc_2 hm
  exact gw_v X hS hP dX5_forget_31
/-! X5_pass -/
def m5_pass_X208 (F : (Nat → Int32)) (v5 : Int32) (R6 : (Nat → Nat → Int32)) : Option (Int32 × (Nat → Int32) × (Nat → Nat → Int32)) :=
  some (v5, F, R6)
def m5_pass_J205 (kkt1 : (Int32 × Int32 × (Nat → Nat → Int32)) → Option (Int32 × (Nat → Nat → Int32))) (v13 : Int32) (v14 : Int32) (R15 : (Nat → Nat → Int32)) : Option (Int32 × (Nat → Nat → Int32)) :=
  kkt1 (v14, v13, R15)
def m5_pass_X159 (F : (Nat → Int32)) (kkt1 : (Int32 × Int32 × (Nat → Nat → Int32)) → Option (Int32 × (Nat → Nat → Int32))) (v2 : Int32) (R4 : (Nat → Nat → Int32)) (v13 : Int32) : Option (Int32 × (Nat → Nat → Int32)) :=
  (if v13 = (-9 : Int32) then
  some (v2, R4)
  else
  if inb ((14 : Int32) + v13) 194 then
  (m5_nominal F R4 ((R4 0 ((14 : Int32) + v13).toNatClampNeg) - (1 : Int32))).bind fun v20 =>
  if inb ((74 : Int32) + v13) 194 then
  some ((v2 + (1 : Int32)), (va_up (va_up R4 0 (upd (R4 0) ((74 : Int32) + v13).toNatClampNeg (v20 + (1 : Int32)))) 0 (upd ((va_up R4 0 (upd (R4 0) ((74 : Int32) + v13).toNatClampNeg (v20 + (1 : Int32)))) 0) (13 : Int32).toNatClampNeg (((va_up R4 0 (upd (R4 0) ((74 : Int32) + v13).toNatClampNeg (v20 + (1 : Int32)))) 0 (13 : Int32).toNatClampNeg) + (1 : Int32))))) else none else none).bind fun ⟨v14, R15⟩ => m5_pass_J205 kkt1 v13 v14 R15
def m5_pass_J152 (kkt9 : (Int32 × Int32 × Int32) → Option Int32) (v12 : Int32) (v28 : Int32) (v30 : Int32) : Option Int32 :=
  kkt9 (v28, v30, (v12 + (1 : Int32)))
def m5_pass_J139 (kkt9 : (Int32 × Int32 × Int32) → Option Int32) (v11 : Int32) (v12 : Int32) (v26 : Int32) (v28 : Int32) : Option Int32 :=
  (if v26 ≤ v11 then
  some v11
  else
  some v26).bind fun v30 => m5_pass_J152 kkt9 v12 v28 v30
def m5_pass_J125 (kkt9 : (Int32 × Int32 × Int32) → Option Int32) (v10 : Int32) (v11 : Int32) (v12 : Int32) (v26 : Int32) : Option Int32 :=
  (if v26 ≤ v11 then
  some v10
  else
  some v12).bind fun v28 => m5_pass_J139 kkt9 v11 v12 v26 v28
def m5_pass_J85 (F : (Nat → Int32)) (R4 : (Nat → Nat → Int32)) (kkt9 : (Int32 × Int32 × Int32) → Option Int32) (v10 : Int32) (v11 : Int32) (v12 : Int32) (v24 : Int32) : Option Int32 :=
  (if v24 = 0 then
  some (-9 : Int32)
  else
  if inb ((14 : Int32) + v12) 194 then
  if inb ((74 : Int32) + v12) 194 then
  (m5_burdenOf F R4 ((R4 0 ((14 : Int32) + v12).toNatClampNeg) - (1 : Int32)) ((R4 0 ((74 : Int32) + v12).toNatClampNeg) - (1 : Int32))).bind fun v38 =>
  some v38 else none else none).bind fun v26 => m5_pass_J125 kkt9 v10 v11 v12 v26
def m5_pass_L30 (F : (Nat → Int32)) (R4 : (Nat → Nat → Int32)) (kkt9 : (Int32 × Int32 × Int32) → Option Int32) (t0 : (Int32 × Int32 × Int32)) : Option Int32 :=
  if (60 : Int32) ≤ t0.2.2 then
  some t0.1
  else
  if inb ((14 : Int32) + t0.2.2) 194 then
  (if (R4 0 ((14 : Int32) + t0.2.2).toNatClampNeg) ≤ 0 then
  some (0 : Int32)
  else
  (m5_borrowed F R4 t0.2.2).bind fun v41 =>
  if v41 = 0 then
  some (0 : Int32)
  else
  if inb ((14 : Int32) + t0.2.2) 194 then
  (m5_nominal F R4 ((R4 0 ((14 : Int32) + t0.2.2).toNatClampNeg) - (1 : Int32))).bind fun v45 =>
  if v45 = (-9 : Int32) then
  some (0 : Int32)
  else
  some (1 : Int32) else none).bind fun v24 => m5_pass_J85 F R4 kkt9 t0.1 t0.2.1 t0.2.2 v24 else none
def m5_pass_L4 (F : (Nat → Int32)) (kkt1 : (Int32 × Int32 × (Nat → Nat → Int32)) → Option (Int32 × (Nat → Nat → Int32))) (t0 : (Int32 × Int32 × (Nat → Nat → Int32))) : Option (Int32 × (Nat → Nat → Int32)) :=
  if t0.2.1 = (-9 : Int32) then
  some (t0.1, t0.2.2)
  else
  if (t0.2.2 0 (6 : Int32).toNatClampNeg) = (1 : Int32) then
  (wh (m5_pass_L30 F t0.2.2) 2000 ((-9 : Int32), (-9 : Int32), (0 : Int32))).bind fun v13 => m5_pass_X159 F kkt1 t0.1 t0.2.2 v13
  else
  some (t0.1, t0.2.2)
def m5_pass (F : (Nat → Int32)) (R : (Nat → Nat → Int32)) : Option (Int32 × (Nat → Int32) × (Nat → Nat → Int32)) :=
  (wh (m5_pass_L4 F) 2000 ((0 : Int32), (0 : Int32), R)).bind fun ⟨v5, R6⟩ => m5_pass_X208 F v5 R6
abbrev rm_X5_pass : Room := { frames := 5, cells := 0, slots := 0, locals := 113 }
set_option maxHeartbeats 4000000 in
set_option maxRecDepth 100000 in
theorem c_X5_pass (l : Launch) (D : va_G) (y : Nat → ClassId) (A : Nat → Nat) (F : (Nat → Int32)) (R : (Nat → Nat → Int32)) (rr9 : Int32) (FF9 : (Nat → Int32)) (RR9 : (Nat → Nat → Int32)) (sz : Nat) (hI : aj_s 7 A) (hm : m5_pass F R = some (rr9, FF9, RR9)) : Met l yX5_pass (wy_s yX5_pass cX5_pass 7 (some .int)) rm_X5_pass (pc_R D y [.ref (A 0)] (fun H => H.size = sz ∧ va_P D vwCl (w5_s y A F R) H)) (qc_W (some (.int rr9)) (fun H => va_P D vwCl (w5_s y A FF9 RR9) H) (rg_s 7 A sz)) 0 0 (rg_s 7 A sz) := by
  refine met_W (by decide) (Nat.le_of_ble_eq_true rfl) ?_
  intro p e s m args below meth c X hnm h0 ls hl
  obtain ⟨hsz, hP⟩ := h0
  subst hsz
  have hA := ap_of (sz := s.heap.size) hI
  have hS : va_S (rg_s 7 A s.heap.size) s.heap s.heap [] := va_S.rf
  replace hl : lv_has ls 7 [(0, .ref (A 0))] := hl
  replace X : cx p s m args meth c cX5_pass 7 (some .int) RX5 D y := X
  unfold m5_pass at hm
  refine lv_iconst (v := (0 : Int32)) (cx_x X) (cx_b X) dX5_pass_0 (by decide) ?_
  refine lv_istore_n (lv' := [(1, .int (0 : Int32)), (0, .ref (A 0))]) (cx_x X) (cx_b X) dX5_pass_1 rfl hl (by decide) rfl (fun ls hl => ?_)
  refine lv_iconst (v := (0 : Int32)) (cx_x X) (cx_b X) dX5_pass_2 (by decide) ?_
  refine lv_istore_n (lv' := [(2, .int (0 : Int32)), (1, .int (0 : Int32)), (0, .ref (A 0))]) (cx_x X) (cx_b X) dX5_pass_3 rfl hl (by decide) rfl (fun ls hl => ?_)
  obtain ⟨qt1, hm, hmt1⟩ := bnd hm
  have Xt1 : ∀ (v5 : Int32) (R6 : (Nat → Nat → Int32)) , m5_pass_X208 F v5 R6 = some (rr9, FF9, RR9) → ∀ (H : Heap) (locs : List Loc), va_P D vwCl (w5_s y A F R6) H → va_S (rg_s 7 A s.heap.size) s.heap H locs → ∀ ls, lv_has ls 7 [(1, .int v5)] → gw p l e rm_X5_pass s m args below meth c (some (.int rr9)) (fun H => va_P D vwCl (w5_s y A FF9 RR9) H) (rg_s 7 A s.heap.size) 0 0 H locs (F0 m 208 ls []) := by
    intro v5 R6 hm H locs hP hS ls hl
    unfold m5_pass_X208 at hm
    refine lv_iload_n (cx_x X) (cx_b X) dX5_pass_208 rfl (lv_at hl 0 rfl) ?_
    obtain ⟨rfl, rfl, rfl⟩ := oc_3 hm
    exact gw_i X hS hP dX5_pass_209
  have Lt1 : ∀ (n : Nat) (v2 : Int32) (v3 : Int32) (R4 : (Nat → Nat → Int32)) , wh (m5_pass_L4 F) n (v2, v3, R4) = some qt1 → ∀ (H : Heap) (locs : List Loc), va_P D vwCl (w5_s y A F R4) H → va_S (rg_s 7 A s.heap.size) s.heap H locs → ∀ ls, lv_has ls 7 [(0, .ref (A 0)), (1, .int v2), (2, .int v3)] → gw p l e rm_X5_pass s m args below meth c (some (.int rr9)) (fun H => va_P D vwCl (w5_s y A FF9 RR9) H) (rg_s 7 A s.heap.size) 0 0 H locs (F0 m 4 ls []) := by
    intro n
    induction n with
    | zero => intro v2 v3 R4 hm; cases hm
    | succ n ih =>
      intro v2 v3 R4 hm H locs hP hS ls hl
      replace hm : (m5_pass_L4 F) (wh (m5_pass_L4 F) n) (v2, v3, R4) = some qt1 := hm
      dsimp only [m5_pass_L4] at hm
      refine lv_iload_n (cx_x X) (cx_b X) dX5_pass_4 rfl (lv_at hl 2 rfl) ?_
      refine lv_bipush (v := (-9 : Int32)) (cx_x X) (cx_b X) dX5_pass_5 (by decide) ?_
      refine lv_icmp_eq (tgt := 208) (cx_x X) (cx_b X) dX5_pass_7 (by decide) (fun c7 => ?_) (fun c7 => ?_)
      · replace hm := if_T c7 hm
        exact Xt1 _ _ (by cases hm; exact hmt1) _ _ hP hS _ (lv_sub hl [1] rfl)
      · replace hm := if_F c7 hm
        refine lv_aload_n (cx_x X) (cx_b X) dX5_pass_10 rfl (lv_at hl 0 rfl) ?_
        refine gf_X5_7 X hP dX5_pass_11 ?_
        refine lv_bipush (v := (6 : Int32)) (cx_x X) (cx_b X) dX5_pass_14 (by decide) ?_
        refine ld_5_0 X hP (by decide) dX5_pass_16 ?_
        refine lv_iconst (v := (1 : Int32)) (cx_x X) (cx_b X) dX5_pass_17 (by decide) ?_
        refine lv_icmp_ne (tgt := 208) (cx_x X) (cx_b X) dX5_pass_18 (by decide) (fun c8 => ?_) (fun c8 => ?_)
        · replace hm := if_F c8 hm
          exact Xt1 _ _ (by cases hm; exact hmt1) _ _ hP hS _ (lv_sub hl [1] rfl)
        · replace hm := if_T c8 hm
          refine lv_bipush (v := (-9 : Int32)) (cx_x X) (cx_b X) dX5_pass_21 (by decide) ?_
          refine lv_istore_n (lv' := [(2, .int (-9 : Int32)), (0, .ref (A 0)), (1, .int v2)]) (cx_x X) (cx_b X) dX5_pass_23 rfl hl (by decide) rfl (fun ls hl => ?_)
          refine lv_bipush (v := (-9 : Int32)) (cx_x X) (cx_b X) dX5_pass_24 (by decide) ?_
          refine lv_istore_n (lv' := [(3, .int (-9 : Int32)), (2, .int (-9 : Int32)), (0, .ref (A 0)), (1, .int v2)]) (cx_x X) (cx_b X) dX5_pass_26 rfl hl (by decide) rfl (fun ls hl => ?_)
          refine lv_iconst (v := (0 : Int32)) (cx_x X) (cx_b X) dX5_pass_27 (by decide) ?_
          refine lv_istore (lv' := [(4, .int (0 : Int32)), (3, .int (-9 : Int32)), (2, .int (-9 : Int32)), (0, .ref (A 0)), (1, .int v2)]) (cx_x X) (cx_b X) dX5_pass_28 hl (by decide) rfl (fun ls hl => ?_)
          obtain ⟨qt9, hm, hmt9⟩ := bnd hm
          have Xt9 : ∀ (v13 : Int32) , m5_pass_X159 F (wh (m5_pass_L4 F) n) v2 R4 v13 = some qt1 → ∀ (H : Heap) (locs : List Loc), va_P D vwCl (w5_s y A F R4) H → va_S (rg_s 7 A s.heap.size) s.heap H locs → ∀ ls, lv_has ls 7 [(0, .ref (A 0)), (1, .int v2), (2, .int v13)] → gw p l e rm_X5_pass s m args below meth c (some (.int rr9)) (fun H => va_P D vwCl (w5_s y A FF9 RR9) H) (rg_s 7 A s.heap.size) 0 0 H locs (F0 m 159 ls []) := by
            intro v13 hm H locs hP hS ls hl
            unfold m5_pass_X159 at hm
            refine lv_iload_n (cx_x X) (cx_b X) dX5_pass_159 rfl (lv_at hl 2 rfl) ?_
            refine lv_bipush (v := (-9 : Int32)) (cx_x X) (cx_b X) dX5_pass_160 (by decide) ?_
            obtain ⟨qt16, hm, hmt16⟩ := bnd hm
            have Jt16 : ∀ (v14 : Int32) (R15 : (Nat → Nat → Int32)) , m5_pass_J205 (wh (m5_pass_L4 F) n) v13 v14 R15 = some qt1 → ∀ (H : Heap) (locs : List Loc), va_P D vwCl (w5_s y A F R15) H → va_S (rg_s 7 A s.heap.size) s.heap H locs → ∀ ls, lv_has ls 7 [(0, .ref (A 0)), (1, .int v14), (2, .int v13)] → gw p l e rm_X5_pass s m args below meth c (some (.int rr9)) (fun H => va_P D vwCl (w5_s y A FF9 RR9) H) (rg_s 7 A s.heap.size) 0 0 H locs (F0 m 205 ls []) := by
              intro v14 R15 hm H locs hP hS ls hl
              unfold m5_pass_J205 at hm
              refine lv_goto (tgt := 4) (cx_x X) (cx_b X) dX5_pass_205 (by decide) ?_
              exact ih _ _ _ hm _ _ hP hS _ (lv_sub hl [0, 1, 2] rfl)
            refine lv_icmp_eq (tgt := 205) (cx_x X) (cx_b X) dX5_pass_162 (by decide) (fun c17 => ?_) (fun c17 => ?_)
            · replace hm := if_T c17 hm
              exact Jt16 _ _ (by cases hm; exact hmt16) _ _ hP hS _ (lv_sub hl [0, 1, 2] rfl)
            · replace hm := if_F c17 hm
              refine lv_aload_n (cx_x X) (cx_b X) dX5_pass_165 rfl (lv_at hl 0 rfl) ?_
              refine gf_X5_7 X hP dX5_pass_166 ?_
              refine lv_bipush (v := (74 : Int32)) (cx_x X) (cx_b X) dX5_pass_169 (by decide) ?_
              refine lv_iload_n (cx_x X) (cx_b X) dX5_pass_171 rfl (lv_at hl 2 rfl) ?_
              refine lv_iadd (cx_x X) (cx_b X) dX5_pass_172 ?_
              refine lv_aload_n (cx_x X) (cx_b X) dX5_pass_173 rfl (lv_at hl 0 rfl) ?_
              refine lv_aload_n (cx_x X) (cx_b X) dX5_pass_174 rfl (lv_at hl 0 rfl) ?_
              refine gf_X5_7 X hP dX5_pass_175 ?_
              refine lv_bipush (v := (14 : Int32)) (cx_x X) (cx_b X) dX5_pass_178 (by decide) ?_
              refine lv_iload_n (cx_x X) (cx_b X) dX5_pass_180 rfl (lv_at hl 2 rfl) ?_
              refine lv_iadd (cx_x X) (cx_b X) dX5_pass_181 ?_
              obtain ⟨h18, hm⟩ := ck_E hm
              refine ld_5_0 X hP h18 dX5_pass_182 ?_
              refine lv_iconst (v := (1 : Int32)) (cx_x X) (cx_b X) dX5_pass_183 (by decide) ?_
              refine lv_isub (cx_x X) (cx_b X) dX5_pass_184 ?_
              obtain ⟨v20, h19, hm⟩ := bnd hm
              refine af_R (rn_V (As := [.int ((R4 0 ((14 : Int32) + v13).toNatClampNeg) - (1 : Int32))]) (rest := [.int ((74 : Int32) + v13), .ref (A 1)]) X (c_X5_nominal l D y A F R4 ((R4 0 ((14 : Int32) + v13).toNatClampNeg) - (1 : Int32))  _ h19) vq_X5_78 ⟨rfl, rfl⟩ ⟨Nat.le_of_ble_eq_true rfl, Nat.le_of_ble_eq_true rfl⟩ (rec_5 X hP) hP rfl hl.1 rfl (Nat.le_of_ble_eq_true rfl) dX5_pass_185 ⟨Nat.le_of_ble_eq_true rfl, Nat.le_of_ble_eq_true rfl⟩) ?_
              refine lv_iconst (v := (1 : Int32)) (cx_x X) (cx_b X) dX5_pass_188 (by decide) ?_
              refine lv_iadd (cx_x X) (cx_b X) dX5_pass_189 ?_
              obtain ⟨h21, hm⟩ := ck_E hm
              refine st_5_0 X hP hA hS h21 dX5_pass_190 (fun H locs hP hS => ?_)
              refine lv_aload_n (cx_x X) (cx_b X) dX5_pass_191 rfl (lv_at hl 0 rfl) ?_
              refine gf_X5_7 X hP dX5_pass_192 ?_
              refine lv_bipush (v := (13 : Int32)) (cx_x X) (cx_b X) dX5_pass_195 (by decide) ?_
              refine lv_dup2_11 (cx_x X) (cx_b X) dX5_pass_197 rfl rfl ?_
              refine ld_5_0 X hP (by decide) dX5_pass_198 ?_
              refine lv_iconst (v := (1 : Int32)) (cx_x X) (cx_b X) dX5_pass_199 (by decide) ?_
              refine lv_iadd (cx_x X) (cx_b X) dX5_pass_200 ?_
              refine st_5_0 X hP hA hS (by decide) dX5_pass_201 (fun H locs hP hS => ?_)
              refine lv_iinc (v := (v2 + (1 : Int32))) (lv' := [(1, .int (v2 + (1 : Int32))), (0, .ref (A 0)), (2, .int v13)]) (cx_x X) (cx_b X) dX5_pass_202 hl (k := 1) rfl (by rfl) (by decide) rfl (fun ls hl => ?_)
              exact Jt16 _ _ (by cases hm; exact hmt16) _ _ hP hS _ (lv_sub hl [1, 0, 2] rfl)
          have Lt9 : ∀ (n : Nat) (v10 : Int32) (v11 : Int32) (v12 : Int32) , wh (m5_pass_L30 F R4) n (v10, v11, v12) = some qt9 → ∀ (H : Heap) (locs : List Loc), va_P D vwCl (w5_s y A F R4) H → va_S (rg_s 7 A s.heap.size) s.heap H locs → ∀ ls, lv_has ls 7 [(0, .ref (A 0)), (1, .int v2), (2, .int v10), (3, .int v11), (4, .int v12)] → gw p l e rm_X5_pass s m args below meth c (some (.int rr9)) (fun H => va_P D vwCl (w5_s y A FF9 RR9) H) (rg_s 7 A s.heap.size) 0 0 H locs (F0 m 30 ls []) := by
            intro n
            induction n with
            | zero => intro v10 v11 v12 hm; cases hm
            | succ n ih =>
              intro v10 v11 v12 hm H locs hP hS ls hl
              replace hm : (m5_pass_L30 F R4) (wh (m5_pass_L30 F R4) n) (v10, v11, v12) = some qt9 := hm
              dsimp only [m5_pass_L30] at hm
              refine lv_iload (cx_x X) (cx_b X) dX5_pass_30 (lv_at hl 4 rfl) ?_
              refine lv_bipush (v := (60 : Int32)) (cx_x X) (cx_b X) dX5_pass_32 (by decide) ?_
              refine lv_icmp_ge (tgt := 159) (cx_x X) (cx_b X) dX5_pass_34 (by decide) (fun c22 => ?_) (fun c22 => ?_)
              · replace hm := if_T c22 hm
                exact Xt9 _ (by cases hm; exact hmt9) _ _ hP hS _ (lv_sub hl [0, 1, 2] rfl)
              · replace hm := if_F c22 hm
                refine lv_aload_n (cx_x X) (cx_b X) dX5_pass_37 rfl (lv_at hl 0 rfl) ?_
                refine gf_X5_7 X hP dX5_pass_38 ?_
                refine lv_bipush (v := (14 : Int32)) (cx_x X) (cx_b X) dX5_pass_41 (by decide) ?_
                refine lv_iload (cx_x X) (cx_b X) dX5_pass_43 (lv_at hl 4 rfl) ?_
                refine lv_iadd (cx_x X) (cx_b X) dX5_pass_45 ?_
                obtain ⟨h23, hm⟩ := ck_E hm
                refine ld_5_0 X hP h23 dX5_pass_46 ?_
                obtain ⟨qt25, hm, hmt25⟩ := bnd hm
                have Jt25 : ∀ (v24 : Int32) , m5_pass_J85 F R4 (wh (m5_pass_L30 F R4) n) v10 v11 v12 v24 = some qt9 → ∀ (H : Heap) (locs : List Loc), va_P D vwCl (w5_s y A F R4) H → va_S (rg_s 7 A s.heap.size) s.heap H locs → ∀ ls, lv_has ls 7 [(0, .ref (A 0)), (1, .int v2), (2, .int v10), (3, .int v11), (4, .int v12)] → gw p l e rm_X5_pass s m args below meth c (some (.int rr9)) (fun H => va_P D vwCl (w5_s y A FF9 RR9) H) (rg_s 7 A s.heap.size) 0 0 H locs (F0 m 85 ls [.int v24]) := by
                  intro v24 hm H locs hP hS ls hl
                  unfold m5_pass_J85 at hm
                  refine lv_istore (lv' := [(5, .int v24), (0, .ref (A 0)), (1, .int v2), (2, .int v10), (3, .int v11), (4, .int v12)]) (cx_x X) (cx_b X) dX5_pass_85 hl (by decide) rfl (fun ls hl => ?_)
                  refine lv_iload (cx_x X) (cx_b X) dX5_pass_87 (lv_at hl 0 rfl) ?_
                  obtain ⟨qt27, hm, hmt27⟩ := bnd hm
                  have Jt27 : ∀ (v26 : Int32) , m5_pass_J125 (wh (m5_pass_L30 F R4) n) v10 v11 v12 v26 = some qt9 → ∀ (H : Heap) (locs : List Loc), va_P D vwCl (w5_s y A F R4) H → va_S (rg_s 7 A s.heap.size) s.heap H locs → ∀ ls, lv_has ls 7 [(0, .ref (A 0)), (1, .int v2), (2, .int v10), (3, .int v11), (4, .int v12)] → gw p l e rm_X5_pass s m args below meth c (some (.int rr9)) (fun H => va_P D vwCl (w5_s y A FF9 RR9) H) (rg_s 7 A s.heap.size) 0 0 H locs (F0 m 125 ls [.int v26]) := by
                    intro v26 hm H locs hP hS ls hl
                    unfold m5_pass_J125 at hm
                    refine lv_istore (lv' := [(6, .int v26), (0, .ref (A 0)), (1, .int v2), (2, .int v10), (3, .int v11), (4, .int v12)]) (cx_x X) (cx_b X) dX5_pass_125 hl (by decide) rfl (fun ls hl => ?_)
                    refine lv_iload (cx_x X) (cx_b X) dX5_pass_127 (lv_at hl 0 rfl) ?_
                    refine lv_iload_n (cx_x X) (cx_b X) dX5_pass_129 rfl (lv_at hl 4 rfl) ?_
                    obtain ⟨qt29, hm, hmt29⟩ := bnd hm
                    have Jt29 : ∀ (v28 : Int32) , m5_pass_J139 (wh (m5_pass_L30 F R4) n) v11 v12 v26 v28 = some qt9 → ∀ (H : Heap) (locs : List Loc), va_P D vwCl (w5_s y A F R4) H → va_S (rg_s 7 A s.heap.size) s.heap H locs → ∀ ls, lv_has ls 7 [(0, .ref (A 0)), (1, .int v2), (3, .int v11), (4, .int v12), (6, .int v26)] → gw p l e rm_X5_pass s m args below meth c (some (.int rr9)) (fun H => va_P D vwCl (w5_s y A FF9 RR9) H) (rg_s 7 A s.heap.size) 0 0 H locs (F0 m 139 ls [.int v28]) := by
                      intro v28 hm H locs hP hS ls hl
                      unfold m5_pass_J139 at hm
                      refine lv_istore_n (lv' := [(2, .int v28), (0, .ref (A 0)), (1, .int v2), (3, .int v11), (4, .int v12), (6, .int v26)]) (cx_x X) (cx_b X) dX5_pass_139 rfl hl (by decide) rfl (fun ls hl => ?_)
                      refine lv_iload (cx_x X) (cx_b X) dX5_pass_140 (lv_at hl 5 rfl) ?_
                      refine lv_iload_n (cx_x X) (cx_b X) dX5_pass_142 rfl (lv_at hl 3 rfl) ?_
                      obtain ⟨qt31, hm, hmt31⟩ := bnd hm
                      have Jt31 : ∀ (v30 : Int32) , m5_pass_J152 (wh (m5_pass_L30 F R4) n) v12 v28 v30 = some qt9 → ∀ (H : Heap) (locs : List Loc), va_P D vwCl (w5_s y A F R4) H → va_S (rg_s 7 A s.heap.size) s.heap H locs → ∀ ls, lv_has ls 7 [(0, .ref (A 0)), (1, .int v2), (2, .int v28), (4, .int v12)] → gw p l e rm_X5_pass s m args below meth c (some (.int rr9)) (fun H => va_P D vwCl (w5_s y A FF9 RR9) H) (rg_s 7 A s.heap.size) 0 0 H locs (F0 m 152 ls [.int v30]) := by
                        intro v30 hm H locs hP hS ls hl
                        unfold m5_pass_J152 at hm
                        refine lv_istore_n (lv' := [(3, .int v30), (0, .ref (A 0)), (1, .int v2), (2, .int v28), (4, .int v12)]) (cx_x X) (cx_b X) dX5_pass_152 rfl hl (by decide) rfl (fun ls hl => ?_)
                        refine lv_iinc (v := (v12 + (1 : Int32))) (lv' := [(4, .int (v12 + (1 : Int32))), (3, .int v30), (0, .ref (A 0)), (1, .int v2), (2, .int v28)]) (cx_x X) (cx_b X) dX5_pass_153 hl (k := 4) rfl (by rfl) (by decide) rfl (fun ls hl => ?_)
                        refine lv_goto (tgt := 30) (cx_x X) (cx_b X) dX5_pass_156 (by decide) ?_
                        exact ih _ _ _ hm _ _ hP hS _ (lv_sub hl [2, 3, 4, 1, 0] rfl)
                      refine lv_icmp_le (tgt := 151) (cx_x X) (cx_b X) dX5_pass_143 (by decide) (fun c32 => ?_) (fun c32 => ?_)
                      · replace hm := if_T c32 hm
                        refine lv_iload_n (cx_x X) (cx_b X) dX5_pass_151 rfl (lv_at hl 3 rfl) ?_
                        exact Jt31 _ (by cases hm; exact hmt31) _ _ hP hS _ (lv_sub hl [1, 2, 0, 4] rfl)
                      · replace hm := if_F c32 hm
                        refine lv_iload (cx_x X) (cx_b X) dX5_pass_146 (lv_at hl 5 rfl) ?_
                        refine lv_goto (tgt := 152) (cx_x X) (cx_b X) dX5_pass_148 (by decide) ?_
                        exact Jt31 _ (by cases hm; exact hmt31) _ _ hP hS _ (lv_sub hl [1, 2, 0, 4] rfl)
                    refine lv_icmp_le (tgt := 138) (cx_x X) (cx_b X) dX5_pass_130 (by decide) (fun c33 => ?_) (fun c33 => ?_)
                    · replace hm := if_T c33 hm
                      refine lv_iload_n (cx_x X) (cx_b X) dX5_pass_138 rfl (lv_at hl 3 rfl) ?_
                      exact Jt29 _ (by cases hm; exact hmt29) _ _ hP hS _ (lv_sub hl [1, 2, 4, 5, 0] rfl)
                    · replace hm := if_F c33 hm
                      refine lv_iload (cx_x X) (cx_b X) dX5_pass_133 (lv_at hl 5 rfl) ?_
                      refine lv_goto (tgt := 139) (cx_x X) (cx_b X) dX5_pass_135 (by decide) ?_
                      exact Jt29 _ (by cases hm; exact hmt29) _ _ hP hS _ (lv_sub hl [1, 2, 4, 5, 0] rfl)
                  refine lv_if_eq (tgt := 123) (cx_x X) (cx_b X) dX5_pass_89 (by decide) (fun c34 => ?_) (fun c34 => ?_)
                  · replace hm := if_T c34 hm
                    refine lv_bipush (v := (-9 : Int32)) (cx_x X) (cx_b X) dX5_pass_123 (by decide) ?_
                    exact Jt27 _ (by cases hm; exact hmt27) _ _ hP hS _ (lv_sub hl [1, 2, 3, 4, 5] rfl)
                  · replace hm := if_F c34 hm
                    refine lv_aload_n (cx_x X) (cx_b X) dX5_pass_92 rfl (lv_at hl 1 rfl) ?_
                    refine lv_aload_n (cx_x X) (cx_b X) dX5_pass_93 rfl (lv_at hl 1 rfl) ?_
                    refine gf_X5_7 X hP dX5_pass_94 ?_
                    refine lv_bipush (v := (14 : Int32)) (cx_x X) (cx_b X) dX5_pass_97 (by decide) ?_
                    refine lv_iload (cx_x X) (cx_b X) dX5_pass_99 (lv_at hl 5 rfl) ?_
                    refine lv_iadd (cx_x X) (cx_b X) dX5_pass_101 ?_
                    obtain ⟨h35, hm⟩ := ck_E hm
                    refine ld_5_0 X hP h35 dX5_pass_102 ?_
                    refine lv_iconst (v := (1 : Int32)) (cx_x X) (cx_b X) dX5_pass_103 (by decide) ?_
                    refine lv_isub (cx_x X) (cx_b X) dX5_pass_104 ?_
                    refine lv_aload_n (cx_x X) (cx_b X) dX5_pass_105 rfl (lv_at hl 1 rfl) ?_
                    refine gf_X5_7 X hP dX5_pass_106 ?_
                    refine lv_bipush (v := (74 : Int32)) (cx_x X) (cx_b X) dX5_pass_109 (by decide) ?_
                    refine lv_iload (cx_x X) (cx_b X) dX5_pass_111 (lv_at hl 5 rfl) ?_
                    refine lv_iadd (cx_x X) (cx_b X) dX5_pass_113 ?_
                    obtain ⟨h36, hm⟩ := ck_E hm
                    refine ld_5_0 X hP h36 dX5_pass_114 ?_
                    refine lv_iconst (v := (1 : Int32)) (cx_x X) (cx_b X) dX5_pass_115 (by decide) ?_
                    refine lv_isub (cx_x X) (cx_b X) dX5_pass_116 ?_
                    obtain ⟨v38, h37, hm⟩ := bnd hm
                    refine af_R (rn_V (As := [.int ((R4 0 ((14 : Int32) + v12).toNatClampNeg) - (1 : Int32)), .int ((R4 0 ((74 : Int32) + v12).toNatClampNeg) - (1 : Int32))]) (rest := []) X (c_X5_burdenOf l D y A F R4 ((R4 0 ((14 : Int32) + v12).toNatClampNeg) - (1 : Int32)) ((R4 0 ((74 : Int32) + v12).toNatClampNeg) - (1 : Int32))  _ h37) vq_X5_84 ⟨rfl, rfl⟩ ⟨Nat.le_of_ble_eq_true rfl, Nat.le_of_ble_eq_true rfl⟩ (rec_5 X hP) hP rfl hl.1 rfl (Nat.le_of_ble_eq_true rfl) dX5_pass_117 ⟨Nat.le_of_ble_eq_true rfl, Nat.le_of_ble_eq_true rfl⟩) ?_
                    refine lv_goto (tgt := 125) (cx_x X) (cx_b X) dX5_pass_120 (by decide) ?_
                    exact Jt27 _ (by cases hm; exact hmt27) _ _ hP hS _ (lv_sub hl [1, 2, 3, 4, 5] rfl)
                refine lv_if_le (tgt := 84) (cx_x X) (cx_b X) dX5_pass_47 (by decide) (fun c39 => ?_) (fun c39 => ?_)
                · replace hm := if_T c39 hm
                  refine lv_iconst (v := (0 : Int32)) (cx_x X) (cx_b X) dX5_pass_84 (by decide) ?_
                  exact Jt25 _ (by cases hm; exact hmt25) _ _ hP hS _ (lv_sub hl [0, 1, 2, 3, 4] rfl)
                · replace hm := if_F c39 hm
                  refine lv_aload_n (cx_x X) (cx_b X) dX5_pass_50 rfl (lv_at hl 0 rfl) ?_
                  refine lv_iload (cx_x X) (cx_b X) dX5_pass_51 (lv_at hl 4 rfl) ?_
                  obtain ⟨v41, h40, hm⟩ := bnd hm
                  refine af_R (rn_V (As := [.int v12]) (rest := []) X (c_X5_borrowed l D y A F R4 v12  _ h40) vq_X5_87 ⟨rfl, rfl⟩ ⟨Nat.le_of_ble_eq_true rfl, Nat.le_of_ble_eq_true rfl⟩ (rec_5 X hP) hP rfl hl.1 rfl (Nat.le_of_ble_eq_true rfl) dX5_pass_53 ⟨Nat.le_of_ble_eq_true rfl, Nat.le_of_ble_eq_true rfl⟩) ?_
                  refine lv_if_eq (tgt := 84) (cx_x X) (cx_b X) dX5_pass_56 (by decide) (fun c42 => ?_) (fun c42 => ?_)
                  · replace hm := if_T c42 hm
                    refine lv_iconst (v := (0 : Int32)) (cx_x X) (cx_b X) dX5_pass_84 (by decide) ?_
                    exact Jt25 _ (by cases hm; exact hmt25) _ _ hP hS _ (lv_sub hl [0, 1, 2, 3, 4] rfl)
                  · replace hm := if_F c42 hm
                    refine lv_aload_n (cx_x X) (cx_b X) dX5_pass_59 rfl (lv_at hl 0 rfl) ?_
                    refine lv_aload_n (cx_x X) (cx_b X) dX5_pass_60 rfl (lv_at hl 0 rfl) ?_
                    refine gf_X5_7 X hP dX5_pass_61 ?_
                    refine lv_bipush (v := (14 : Int32)) (cx_x X) (cx_b X) dX5_pass_64 (by decide) ?_
                    refine lv_iload (cx_x X) (cx_b X) dX5_pass_66 (lv_at hl 4 rfl) ?_
                    refine lv_iadd (cx_x X) (cx_b X) dX5_pass_68 ?_
                    obtain ⟨h43, hm⟩ := ck_E hm
                    refine ld_5_0 X hP h43 dX5_pass_69 ?_
                    refine lv_iconst (v := (1 : Int32)) (cx_x X) (cx_b X) dX5_pass_70 (by decide) ?_
                    refine lv_isub (cx_x X) (cx_b X) dX5_pass_71 ?_
                    obtain ⟨v45, h44, hm⟩ := bnd hm
                    refine af_R (rn_V (As := [.int ((R4 0 ((14 : Int32) + v12).toNatClampNeg) - (1 : Int32))]) (rest := []) X (c_X5_nominal l D y A F R4 ((R4 0 ((14 : Int32) + v12).toNatClampNeg) - (1 : Int32))  _ h44) vq_X5_78 ⟨rfl, rfl⟩ ⟨Nat.le_of_ble_eq_true rfl, Nat.le_of_ble_eq_true rfl⟩ (rec_5 X hP) hP rfl hl.1 rfl (Nat.le_of_ble_eq_true rfl) dX5_pass_72 ⟨Nat.le_of_ble_eq_true rfl, Nat.le_of_ble_eq_true rfl⟩) ?_
                    refine lv_bipush (v := (-9 : Int32)) (cx_x X) (cx_b X) dX5_pass_75 (by decide) ?_
                    refine lv_icmp_eq (tgt := 84) (cx_x X) (cx_b X) dX5_pass_77 (by decide) (fun c46 => ?_) (fun c46 => ?_)
                    · replace hm := if_T c46 hm
                      refine lv_iconst (v := (0 : Int32)) (cx_x X) (cx_b X) dX5_pass_84 (by decide) ?_
                      exact Jt25 _ (by cases hm; exact hmt25) _ _ hP hS _ (lv_sub hl [0, 1, 2, 3, 4] rfl)
                    · replace hm := if_F c46 hm
                      refine lv_iconst (v := (1 : Int32)) (cx_x X) (cx_b X) dX5_pass_80 (by decide) ?_
                      refine lv_goto (tgt := 85) (cx_x X) (cx_b X) dX5_pass_81 (by decide) ?_
                      exact Jt25 _ (by cases hm; exact hmt25) _ _ hP hS _ (lv_sub hl [0, 1, 2, 3, 4] rfl)
          exact Lt9 _ _ _ _ hm _ _ hP hS _ (lv_sub hl [3, 4, 2, 1, 0] rfl)
  exact Lt1 _ _ _ _ hm _ _ hP hS _ (lv_sub hl [2, 1, 0] rfl)
/-! X5_start -/
def m5_start_J188 (a1 : Int32) (v3 : Int32) (F5 : (Nat → Int32)) (R6 : (Nat → Nat → Int32)) (v12 : Int32) (v14 : Int32) (v18 : Int32) (v21 : Int32) (v26 : Int32) : Option (Int32 × (Nat → Int32) × (Nat → Nat → Int32)) :=
  some (v3, F5, (va_up (va_up (va_up (va_up (va_up (va_up R6 0 (upd (R6 0) (8 : Int32).toNatClampNeg ((R6 0 (8 : Int32).toNatClampNeg) + v12))) 0 (upd ((va_up R6 0 (upd (R6 0) (8 : Int32).toNatClampNeg ((R6 0 (8 : Int32).toNatClampNeg) + v12))) 0) (9 : Int32).toNatClampNeg (((va_up R6 0 (upd (R6 0) (8 : Int32).toNatClampNeg ((R6 0 (8 : Int32).toNatClampNeg) + v12))) 0 (9 : Int32).toNatClampNeg) + v14))) 0 (upd ((va_up (va_up R6 0 (upd (R6 0) (8 : Int32).toNatClampNeg ((R6 0 (8 : Int32).toNatClampNeg) + v12))) 0 (upd ((va_up R6 0 (upd (R6 0) (8 : Int32).toNatClampNeg ((R6 0 (8 : Int32).toNatClampNeg) + v12))) 0) (9 : Int32).toNatClampNeg (((va_up R6 0 (upd (R6 0) (8 : Int32).toNatClampNeg ((R6 0 (8 : Int32).toNatClampNeg) + v12))) 0 (9 : Int32).toNatClampNeg) + v14))) 0) ((14 : Int32) + v3).toNatClampNeg (a1 + (1 : Int32)))) 0 (upd ((va_up (va_up (va_up R6 0 (upd (R6 0) (8 : Int32).toNatClampNeg ((R6 0 (8 : Int32).toNatClampNeg) + v12))) 0 (upd ((va_up R6 0 (upd (R6 0) (8 : Int32).toNatClampNeg ((R6 0 (8 : Int32).toNatClampNeg) + v12))) 0) (9 : Int32).toNatClampNeg (((va_up R6 0 (upd (R6 0) (8 : Int32).toNatClampNeg ((R6 0 (8 : Int32).toNatClampNeg) + v12))) 0 (9 : Int32).toNatClampNeg) + v14))) 0 (upd ((va_up (va_up R6 0 (upd (R6 0) (8 : Int32).toNatClampNeg ((R6 0 (8 : Int32).toNatClampNeg) + v12))) 0 (upd ((va_up R6 0 (upd (R6 0) (8 : Int32).toNatClampNeg ((R6 0 (8 : Int32).toNatClampNeg) + v12))) 0) (9 : Int32).toNatClampNeg (((va_up R6 0 (upd (R6 0) (8 : Int32).toNatClampNeg ((R6 0 (8 : Int32).toNatClampNeg) + v12))) 0 (9 : Int32).toNatClampNeg) + v14))) 0) ((14 : Int32) + v3).toNatClampNeg (a1 + (1 : Int32)))) 0) ((74 : Int32) + v3).toNatClampNeg v18)) 0 (upd ((va_up (va_up (va_up (va_up R6 0 (upd (R6 0) (8 : Int32).toNatClampNeg ((R6 0 (8 : Int32).toNatClampNeg) + v12))) 0 (upd ((va_up R6 0 (upd (R6 0) (8 : Int32).toNatClampNeg ((R6 0 (8 : Int32).toNatClampNeg) + v12))) 0) (9 : Int32).toNatClampNeg (((va_up R6 0 (upd (R6 0) (8 : Int32).toNatClampNeg ((R6 0 (8 : Int32).toNatClampNeg) + v12))) 0 (9 : Int32).toNatClampNeg) + v14))) 0 (upd ((va_up (va_up R6 0 (upd (R6 0) (8 : Int32).toNatClampNeg ((R6 0 (8 : Int32).toNatClampNeg) + v12))) 0 (upd ((va_up R6 0 (upd (R6 0) (8 : Int32).toNatClampNeg ((R6 0 (8 : Int32).toNatClampNeg) + v12))) 0) (9 : Int32).toNatClampNeg (((va_up R6 0 (upd (R6 0) (8 : Int32).toNatClampNeg ((R6 0 (8 : Int32).toNatClampNeg) + v12))) 0 (9 : Int32).toNatClampNeg) + v14))) 0) ((14 : Int32) + v3).toNatClampNeg (a1 + (1 : Int32)))) 0 (upd ((va_up (va_up (va_up R6 0 (upd (R6 0) (8 : Int32).toNatClampNeg ((R6 0 (8 : Int32).toNatClampNeg) + v12))) 0 (upd ((va_up R6 0 (upd (R6 0) (8 : Int32).toNatClampNeg ((R6 0 (8 : Int32).toNatClampNeg) + v12))) 0) (9 : Int32).toNatClampNeg (((va_up R6 0 (upd (R6 0) (8 : Int32).toNatClampNeg ((R6 0 (8 : Int32).toNatClampNeg) + v12))) 0 (9 : Int32).toNatClampNeg) + v14))) 0 (upd ((va_up (va_up R6 0 (upd (R6 0) (8 : Int32).toNatClampNeg ((R6 0 (8 : Int32).toNatClampNeg) + v12))) 0 (upd ((va_up R6 0 (upd (R6 0) (8 : Int32).toNatClampNeg ((R6 0 (8 : Int32).toNatClampNeg) + v12))) 0) (9 : Int32).toNatClampNeg (((va_up R6 0 (upd (R6 0) (8 : Int32).toNatClampNeg ((R6 0 (8 : Int32).toNatClampNeg) + v12))) 0 (9 : Int32).toNatClampNeg) + v14))) 0) ((14 : Int32) + v3).toNatClampNeg (a1 + (1 : Int32)))) 0) ((74 : Int32) + v3).toNatClampNeg v18)) 0) ((134 : Int32) + v3).toNatClampNeg v21)) 0 (upd ((va_up (va_up (va_up (va_up (va_up R6 0 (upd (R6 0) (8 : Int32).toNatClampNeg ((R6 0 (8 : Int32).toNatClampNeg) + v12))) 0 (upd ((va_up R6 0 (upd (R6 0) (8 : Int32).toNatClampNeg ((R6 0 (8 : Int32).toNatClampNeg) + v12))) 0) (9 : Int32).toNatClampNeg (((va_up R6 0 (upd (R6 0) (8 : Int32).toNatClampNeg ((R6 0 (8 : Int32).toNatClampNeg) + v12))) 0 (9 : Int32).toNatClampNeg) + v14))) 0 (upd ((va_up (va_up R6 0 (upd (R6 0) (8 : Int32).toNatClampNeg ((R6 0 (8 : Int32).toNatClampNeg) + v12))) 0 (upd ((va_up R6 0 (upd (R6 0) (8 : Int32).toNatClampNeg ((R6 0 (8 : Int32).toNatClampNeg) + v12))) 0) (9 : Int32).toNatClampNeg (((va_up R6 0 (upd (R6 0) (8 : Int32).toNatClampNeg ((R6 0 (8 : Int32).toNatClampNeg) + v12))) 0 (9 : Int32).toNatClampNeg) + v14))) 0) ((14 : Int32) + v3).toNatClampNeg (a1 + (1 : Int32)))) 0 (upd ((va_up (va_up (va_up R6 0 (upd (R6 0) (8 : Int32).toNatClampNeg ((R6 0 (8 : Int32).toNatClampNeg) + v12))) 0 (upd ((va_up R6 0 (upd (R6 0) (8 : Int32).toNatClampNeg ((R6 0 (8 : Int32).toNatClampNeg) + v12))) 0) (9 : Int32).toNatClampNeg (((va_up R6 0 (upd (R6 0) (8 : Int32).toNatClampNeg ((R6 0 (8 : Int32).toNatClampNeg) + v12))) 0 (9 : Int32).toNatClampNeg) + v14))) 0 (upd ((va_up (va_up R6 0 (upd (R6 0) (8 : Int32).toNatClampNeg ((R6 0 (8 : Int32).toNatClampNeg) + v12))) 0 (upd ((va_up R6 0 (upd (R6 0) (8 : Int32).toNatClampNeg ((R6 0 (8 : Int32).toNatClampNeg) + v12))) 0) (9 : Int32).toNatClampNeg (((va_up R6 0 (upd (R6 0) (8 : Int32).toNatClampNeg ((R6 0 (8 : Int32).toNatClampNeg) + v12))) 0 (9 : Int32).toNatClampNeg) + v14))) 0) ((14 : Int32) + v3).toNatClampNeg (a1 + (1 : Int32)))) 0) ((74 : Int32) + v3).toNatClampNeg v18)) 0 (upd ((va_up (va_up (va_up (va_up R6 0 (upd (R6 0) (8 : Int32).toNatClampNeg ((R6 0 (8 : Int32).toNatClampNeg) + v12))) 0 (upd ((va_up R6 0 (upd (R6 0) (8 : Int32).toNatClampNeg ((R6 0 (8 : Int32).toNatClampNeg) + v12))) 0) (9 : Int32).toNatClampNeg (((va_up R6 0 (upd (R6 0) (8 : Int32).toNatClampNeg ((R6 0 (8 : Int32).toNatClampNeg) + v12))) 0 (9 : Int32).toNatClampNeg) + v14))) 0 (upd ((va_up (va_up R6 0 (upd (R6 0) (8 : Int32).toNatClampNeg ((R6 0 (8 : Int32).toNatClampNeg) + v12))) 0 (upd ((va_up R6 0 (upd (R6 0) (8 : Int32).toNatClampNeg ((R6 0 (8 : Int32).toNatClampNeg) + v12))) 0) (9 : Int32).toNatClampNeg (((va_up R6 0 (upd (R6 0) (8 : Int32).toNatClampNeg ((R6 0 (8 : Int32).toNatClampNeg) + v12))) 0 (9 : Int32).toNatClampNeg) + v14))) 0) ((14 : Int32) + v3).toNatClampNeg (a1 + (1 : Int32)))) 0 (upd ((va_up (va_up (va_up R6 0 (upd (R6 0) (8 : Int32).toNatClampNeg ((R6 0 (8 : Int32).toNatClampNeg) + v12))) 0 (upd ((va_up R6 0 (upd (R6 0) (8 : Int32).toNatClampNeg ((R6 0 (8 : Int32).toNatClampNeg) + v12))) 0) (9 : Int32).toNatClampNeg (((va_up R6 0 (upd (R6 0) (8 : Int32).toNatClampNeg ((R6 0 (8 : Int32).toNatClampNeg) + v12))) 0 (9 : Int32).toNatClampNeg) + v14))) 0 (upd ((va_up (va_up R6 0 (upd (R6 0) (8 : Int32).toNatClampNeg ((R6 0 (8 : Int32).toNatClampNeg) + v12))) 0 (upd ((va_up R6 0 (upd (R6 0) (8 : Int32).toNatClampNeg ((R6 0 (8 : Int32).toNatClampNeg) + v12))) 0) (9 : Int32).toNatClampNeg (((va_up R6 0 (upd (R6 0) (8 : Int32).toNatClampNeg ((R6 0 (8 : Int32).toNatClampNeg) + v12))) 0 (9 : Int32).toNatClampNeg) + v14))) 0) ((14 : Int32) + v3).toNatClampNeg (a1 + (1 : Int32)))) 0) ((74 : Int32) + v3).toNatClampNeg v18)) 0) ((134 : Int32) + v3).toNatClampNeg v21)) 0) (12 : Int32).toNatClampNeg (((va_up (va_up (va_up (va_up (va_up R6 0 (upd (R6 0) (8 : Int32).toNatClampNeg ((R6 0 (8 : Int32).toNatClampNeg) + v12))) 0 (upd ((va_up R6 0 (upd (R6 0) (8 : Int32).toNatClampNeg ((R6 0 (8 : Int32).toNatClampNeg) + v12))) 0) (9 : Int32).toNatClampNeg (((va_up R6 0 (upd (R6 0) (8 : Int32).toNatClampNeg ((R6 0 (8 : Int32).toNatClampNeg) + v12))) 0 (9 : Int32).toNatClampNeg) + v14))) 0 (upd ((va_up (va_up R6 0 (upd (R6 0) (8 : Int32).toNatClampNeg ((R6 0 (8 : Int32).toNatClampNeg) + v12))) 0 (upd ((va_up R6 0 (upd (R6 0) (8 : Int32).toNatClampNeg ((R6 0 (8 : Int32).toNatClampNeg) + v12))) 0) (9 : Int32).toNatClampNeg (((va_up R6 0 (upd (R6 0) (8 : Int32).toNatClampNeg ((R6 0 (8 : Int32).toNatClampNeg) + v12))) 0 (9 : Int32).toNatClampNeg) + v14))) 0) ((14 : Int32) + v3).toNatClampNeg (a1 + (1 : Int32)))) 0 (upd ((va_up (va_up (va_up R6 0 (upd (R6 0) (8 : Int32).toNatClampNeg ((R6 0 (8 : Int32).toNatClampNeg) + v12))) 0 (upd ((va_up R6 0 (upd (R6 0) (8 : Int32).toNatClampNeg ((R6 0 (8 : Int32).toNatClampNeg) + v12))) 0) (9 : Int32).toNatClampNeg (((va_up R6 0 (upd (R6 0) (8 : Int32).toNatClampNeg ((R6 0 (8 : Int32).toNatClampNeg) + v12))) 0 (9 : Int32).toNatClampNeg) + v14))) 0 (upd ((va_up (va_up R6 0 (upd (R6 0) (8 : Int32).toNatClampNeg ((R6 0 (8 : Int32).toNatClampNeg) + v12))) 0 (upd ((va_up R6 0 (upd (R6 0) (8 : Int32).toNatClampNeg ((R6 0 (8 : Int32).toNatClampNeg) + v12))) 0) (9 : Int32).toNatClampNeg (((va_up R6 0 (upd (R6 0) (8 : Int32).toNatClampNeg ((R6 0 (8 : Int32).toNatClampNeg) + v12))) 0 (9 : Int32).toNatClampNeg) + v14))) 0) ((14 : Int32) + v3).toNatClampNeg (a1 + (1 : Int32)))) 0) ((74 : Int32) + v3).toNatClampNeg v18)) 0 (upd ((va_up (va_up (va_up (va_up R6 0 (upd (R6 0) (8 : Int32).toNatClampNeg ((R6 0 (8 : Int32).toNatClampNeg) + v12))) 0 (upd ((va_up R6 0 (upd (R6 0) (8 : Int32).toNatClampNeg ((R6 0 (8 : Int32).toNatClampNeg) + v12))) 0) (9 : Int32).toNatClampNeg (((va_up R6 0 (upd (R6 0) (8 : Int32).toNatClampNeg ((R6 0 (8 : Int32).toNatClampNeg) + v12))) 0 (9 : Int32).toNatClampNeg) + v14))) 0 (upd ((va_up (va_up R6 0 (upd (R6 0) (8 : Int32).toNatClampNeg ((R6 0 (8 : Int32).toNatClampNeg) + v12))) 0 (upd ((va_up R6 0 (upd (R6 0) (8 : Int32).toNatClampNeg ((R6 0 (8 : Int32).toNatClampNeg) + v12))) 0) (9 : Int32).toNatClampNeg (((va_up R6 0 (upd (R6 0) (8 : Int32).toNatClampNeg ((R6 0 (8 : Int32).toNatClampNeg) + v12))) 0 (9 : Int32).toNatClampNeg) + v14))) 0) ((14 : Int32) + v3).toNatClampNeg (a1 + (1 : Int32)))) 0 (upd ((va_up (va_up (va_up R6 0 (upd (R6 0) (8 : Int32).toNatClampNeg ((R6 0 (8 : Int32).toNatClampNeg) + v12))) 0 (upd ((va_up R6 0 (upd (R6 0) (8 : Int32).toNatClampNeg ((R6 0 (8 : Int32).toNatClampNeg) + v12))) 0) (9 : Int32).toNatClampNeg (((va_up R6 0 (upd (R6 0) (8 : Int32).toNatClampNeg ((R6 0 (8 : Int32).toNatClampNeg) + v12))) 0 (9 : Int32).toNatClampNeg) + v14))) 0 (upd ((va_up (va_up R6 0 (upd (R6 0) (8 : Int32).toNatClampNeg ((R6 0 (8 : Int32).toNatClampNeg) + v12))) 0 (upd ((va_up R6 0 (upd (R6 0) (8 : Int32).toNatClampNeg ((R6 0 (8 : Int32).toNatClampNeg) + v12))) 0) (9 : Int32).toNatClampNeg (((va_up R6 0 (upd (R6 0) (8 : Int32).toNatClampNeg ((R6 0 (8 : Int32).toNatClampNeg) + v12))) 0 (9 : Int32).toNatClampNeg) + v14))) 0) ((14 : Int32) + v3).toNatClampNeg (a1 + (1 : Int32)))) 0) ((74 : Int32) + v3).toNatClampNeg v18)) 0) ((134 : Int32) + v3).toNatClampNeg v21)) 0 (12 : Int32).toNatClampNeg) + v26))))
def m5_start_J166 (a1 : Int32) (v3 : Int32) (F5 : (Nat → Int32)) (R6 : (Nat → Nat → Int32)) (v12 : Int32) (v14 : Int32) (v18 : Int32) (v21 : Int32) : Option (Int32 × (Nat → Int32) × (Nat → Nat → Int32)) :=
  if inb ((134 : Int32) + v3) 194 then
  (m5_borrowed F5 (va_up (va_up (va_up (va_up (va_up R6 0 (upd (R6 0) (8 : Int32).toNatClampNeg ((R6 0 (8 : Int32).toNatClampNeg) + v12))) 0 (upd ((va_up R6 0 (upd (R6 0) (8 : Int32).toNatClampNeg ((R6 0 (8 : Int32).toNatClampNeg) + v12))) 0) (9 : Int32).toNatClampNeg (((va_up R6 0 (upd (R6 0) (8 : Int32).toNatClampNeg ((R6 0 (8 : Int32).toNatClampNeg) + v12))) 0 (9 : Int32).toNatClampNeg) + v14))) 0 (upd ((va_up (va_up R6 0 (upd (R6 0) (8 : Int32).toNatClampNeg ((R6 0 (8 : Int32).toNatClampNeg) + v12))) 0 (upd ((va_up R6 0 (upd (R6 0) (8 : Int32).toNatClampNeg ((R6 0 (8 : Int32).toNatClampNeg) + v12))) 0) (9 : Int32).toNatClampNeg (((va_up R6 0 (upd (R6 0) (8 : Int32).toNatClampNeg ((R6 0 (8 : Int32).toNatClampNeg) + v12))) 0 (9 : Int32).toNatClampNeg) + v14))) 0) ((14 : Int32) + v3).toNatClampNeg (a1 + (1 : Int32)))) 0 (upd ((va_up (va_up (va_up R6 0 (upd (R6 0) (8 : Int32).toNatClampNeg ((R6 0 (8 : Int32).toNatClampNeg) + v12))) 0 (upd ((va_up R6 0 (upd (R6 0) (8 : Int32).toNatClampNeg ((R6 0 (8 : Int32).toNatClampNeg) + v12))) 0) (9 : Int32).toNatClampNeg (((va_up R6 0 (upd (R6 0) (8 : Int32).toNatClampNeg ((R6 0 (8 : Int32).toNatClampNeg) + v12))) 0 (9 : Int32).toNatClampNeg) + v14))) 0 (upd ((va_up (va_up R6 0 (upd (R6 0) (8 : Int32).toNatClampNeg ((R6 0 (8 : Int32).toNatClampNeg) + v12))) 0 (upd ((va_up R6 0 (upd (R6 0) (8 : Int32).toNatClampNeg ((R6 0 (8 : Int32).toNatClampNeg) + v12))) 0) (9 : Int32).toNatClampNeg (((va_up R6 0 (upd (R6 0) (8 : Int32).toNatClampNeg ((R6 0 (8 : Int32).toNatClampNeg) + v12))) 0 (9 : Int32).toNatClampNeg) + v14))) 0) ((14 : Int32) + v3).toNatClampNeg (a1 + (1 : Int32)))) 0) ((74 : Int32) + v3).toNatClampNeg v18)) 0 (upd ((va_up (va_up (va_up (va_up R6 0 (upd (R6 0) (8 : Int32).toNatClampNeg ((R6 0 (8 : Int32).toNatClampNeg) + v12))) 0 (upd ((va_up R6 0 (upd (R6 0) (8 : Int32).toNatClampNeg ((R6 0 (8 : Int32).toNatClampNeg) + v12))) 0) (9 : Int32).toNatClampNeg (((va_up R6 0 (upd (R6 0) (8 : Int32).toNatClampNeg ((R6 0 (8 : Int32).toNatClampNeg) + v12))) 0 (9 : Int32).toNatClampNeg) + v14))) 0 (upd ((va_up (va_up R6 0 (upd (R6 0) (8 : Int32).toNatClampNeg ((R6 0 (8 : Int32).toNatClampNeg) + v12))) 0 (upd ((va_up R6 0 (upd (R6 0) (8 : Int32).toNatClampNeg ((R6 0 (8 : Int32).toNatClampNeg) + v12))) 0) (9 : Int32).toNatClampNeg (((va_up R6 0 (upd (R6 0) (8 : Int32).toNatClampNeg ((R6 0 (8 : Int32).toNatClampNeg) + v12))) 0 (9 : Int32).toNatClampNeg) + v14))) 0) ((14 : Int32) + v3).toNatClampNeg (a1 + (1 : Int32)))) 0 (upd ((va_up (va_up (va_up R6 0 (upd (R6 0) (8 : Int32).toNatClampNeg ((R6 0 (8 : Int32).toNatClampNeg) + v12))) 0 (upd ((va_up R6 0 (upd (R6 0) (8 : Int32).toNatClampNeg ((R6 0 (8 : Int32).toNatClampNeg) + v12))) 0) (9 : Int32).toNatClampNeg (((va_up R6 0 (upd (R6 0) (8 : Int32).toNatClampNeg ((R6 0 (8 : Int32).toNatClampNeg) + v12))) 0 (9 : Int32).toNatClampNeg) + v14))) 0 (upd ((va_up (va_up R6 0 (upd (R6 0) (8 : Int32).toNatClampNeg ((R6 0 (8 : Int32).toNatClampNeg) + v12))) 0 (upd ((va_up R6 0 (upd (R6 0) (8 : Int32).toNatClampNeg ((R6 0 (8 : Int32).toNatClampNeg) + v12))) 0) (9 : Int32).toNatClampNeg (((va_up R6 0 (upd (R6 0) (8 : Int32).toNatClampNeg ((R6 0 (8 : Int32).toNatClampNeg) + v12))) 0 (9 : Int32).toNatClampNeg) + v14))) 0) ((14 : Int32) + v3).toNatClampNeg (a1 + (1 : Int32)))) 0) ((74 : Int32) + v3).toNatClampNeg v18)) 0) ((134 : Int32) + v3).toNatClampNeg v21)) v3).bind fun v25 =>
  (if v25 = 0 then
  some (0 : Int32)
  else
  some (1 : Int32)).bind fun v26 => m5_start_J188 a1 v3 F5 R6 v12 v14 v18 v21 v26 else none
def m5_start_J146 (a1 : Int32) (v3 : Int32) (F5 : (Nat → Int32)) (R6 : (Nat → Nat → Int32)) (v10 : Int32) (v12 : Int32) (v14 : Int32) (v18 : Int32) : Option (Int32 × (Nat → Int32) × (Nat → Nat → Int32)) :=
  if inb ((74 : Int32) + v3) 194 then
  (if v10 = 0 then
  some (0 : Int32)
  else
  some (1 : Int32)).bind fun v21 => m5_start_J166 a1 v3 F5 R6 v12 v14 v18 v21 else none
def m5_start_J188_2 (a1 : Int32) (v3 : Int32) (F5 : (Nat → Int32)) (R6 : (Nat → Nat → Int32)) (v12 : Int32) (v14 : Int32) (v33 : Int32) (v36 : Int32) (v41 : Int32) : Option (Int32 × (Nat → Int32) × (Nat → Nat → Int32)) :=
  some (v3, F5, (va_up (va_up (va_up (va_up (va_up (va_up R6 0 (upd (R6 0) (8 : Int32).toNatClampNeg ((R6 0 (8 : Int32).toNatClampNeg) + v12))) 0 (upd ((va_up R6 0 (upd (R6 0) (8 : Int32).toNatClampNeg ((R6 0 (8 : Int32).toNatClampNeg) + v12))) 0) (9 : Int32).toNatClampNeg (((va_up R6 0 (upd (R6 0) (8 : Int32).toNatClampNeg ((R6 0 (8 : Int32).toNatClampNeg) + v12))) 0 (9 : Int32).toNatClampNeg) + v14))) 0 (upd ((va_up (va_up R6 0 (upd (R6 0) (8 : Int32).toNatClampNeg ((R6 0 (8 : Int32).toNatClampNeg) + v12))) 0 (upd ((va_up R6 0 (upd (R6 0) (8 : Int32).toNatClampNeg ((R6 0 (8 : Int32).toNatClampNeg) + v12))) 0) (9 : Int32).toNatClampNeg (((va_up R6 0 (upd (R6 0) (8 : Int32).toNatClampNeg ((R6 0 (8 : Int32).toNatClampNeg) + v12))) 0 (9 : Int32).toNatClampNeg) + v14))) 0) ((14 : Int32) + v3).toNatClampNeg (a1 + (1 : Int32)))) 0 (upd ((va_up (va_up (va_up R6 0 (upd (R6 0) (8 : Int32).toNatClampNeg ((R6 0 (8 : Int32).toNatClampNeg) + v12))) 0 (upd ((va_up R6 0 (upd (R6 0) (8 : Int32).toNatClampNeg ((R6 0 (8 : Int32).toNatClampNeg) + v12))) 0) (9 : Int32).toNatClampNeg (((va_up R6 0 (upd (R6 0) (8 : Int32).toNatClampNeg ((R6 0 (8 : Int32).toNatClampNeg) + v12))) 0 (9 : Int32).toNatClampNeg) + v14))) 0 (upd ((va_up (va_up R6 0 (upd (R6 0) (8 : Int32).toNatClampNeg ((R6 0 (8 : Int32).toNatClampNeg) + v12))) 0 (upd ((va_up R6 0 (upd (R6 0) (8 : Int32).toNatClampNeg ((R6 0 (8 : Int32).toNatClampNeg) + v12))) 0) (9 : Int32).toNatClampNeg (((va_up R6 0 (upd (R6 0) (8 : Int32).toNatClampNeg ((R6 0 (8 : Int32).toNatClampNeg) + v12))) 0 (9 : Int32).toNatClampNeg) + v14))) 0) ((14 : Int32) + v3).toNatClampNeg (a1 + (1 : Int32)))) 0) ((74 : Int32) + v3).toNatClampNeg v33)) 0 (upd ((va_up (va_up (va_up (va_up R6 0 (upd (R6 0) (8 : Int32).toNatClampNeg ((R6 0 (8 : Int32).toNatClampNeg) + v12))) 0 (upd ((va_up R6 0 (upd (R6 0) (8 : Int32).toNatClampNeg ((R6 0 (8 : Int32).toNatClampNeg) + v12))) 0) (9 : Int32).toNatClampNeg (((va_up R6 0 (upd (R6 0) (8 : Int32).toNatClampNeg ((R6 0 (8 : Int32).toNatClampNeg) + v12))) 0 (9 : Int32).toNatClampNeg) + v14))) 0 (upd ((va_up (va_up R6 0 (upd (R6 0) (8 : Int32).toNatClampNeg ((R6 0 (8 : Int32).toNatClampNeg) + v12))) 0 (upd ((va_up R6 0 (upd (R6 0) (8 : Int32).toNatClampNeg ((R6 0 (8 : Int32).toNatClampNeg) + v12))) 0) (9 : Int32).toNatClampNeg (((va_up R6 0 (upd (R6 0) (8 : Int32).toNatClampNeg ((R6 0 (8 : Int32).toNatClampNeg) + v12))) 0 (9 : Int32).toNatClampNeg) + v14))) 0) ((14 : Int32) + v3).toNatClampNeg (a1 + (1 : Int32)))) 0 (upd ((va_up (va_up (va_up R6 0 (upd (R6 0) (8 : Int32).toNatClampNeg ((R6 0 (8 : Int32).toNatClampNeg) + v12))) 0 (upd ((va_up R6 0 (upd (R6 0) (8 : Int32).toNatClampNeg ((R6 0 (8 : Int32).toNatClampNeg) + v12))) 0) (9 : Int32).toNatClampNeg (((va_up R6 0 (upd (R6 0) (8 : Int32).toNatClampNeg ((R6 0 (8 : Int32).toNatClampNeg) + v12))) 0 (9 : Int32).toNatClampNeg) + v14))) 0 (upd ((va_up (va_up R6 0 (upd (R6 0) (8 : Int32).toNatClampNeg ((R6 0 (8 : Int32).toNatClampNeg) + v12))) 0 (upd ((va_up R6 0 (upd (R6 0) (8 : Int32).toNatClampNeg ((R6 0 (8 : Int32).toNatClampNeg) + v12))) 0) (9 : Int32).toNatClampNeg (((va_up R6 0 (upd (R6 0) (8 : Int32).toNatClampNeg ((R6 0 (8 : Int32).toNatClampNeg) + v12))) 0 (9 : Int32).toNatClampNeg) + v14))) 0) ((14 : Int32) + v3).toNatClampNeg (a1 + (1 : Int32)))) 0) ((74 : Int32) + v3).toNatClampNeg v33)) 0) ((134 : Int32) + v3).toNatClampNeg v36)) 0 (upd ((va_up (va_up (va_up (va_up (va_up R6 0 (upd (R6 0) (8 : Int32).toNatClampNeg ((R6 0 (8 : Int32).toNatClampNeg) + v12))) 0 (upd ((va_up R6 0 (upd (R6 0) (8 : Int32).toNatClampNeg ((R6 0 (8 : Int32).toNatClampNeg) + v12))) 0) (9 : Int32).toNatClampNeg (((va_up R6 0 (upd (R6 0) (8 : Int32).toNatClampNeg ((R6 0 (8 : Int32).toNatClampNeg) + v12))) 0 (9 : Int32).toNatClampNeg) + v14))) 0 (upd ((va_up (va_up R6 0 (upd (R6 0) (8 : Int32).toNatClampNeg ((R6 0 (8 : Int32).toNatClampNeg) + v12))) 0 (upd ((va_up R6 0 (upd (R6 0) (8 : Int32).toNatClampNeg ((R6 0 (8 : Int32).toNatClampNeg) + v12))) 0) (9 : Int32).toNatClampNeg (((va_up R6 0 (upd (R6 0) (8 : Int32).toNatClampNeg ((R6 0 (8 : Int32).toNatClampNeg) + v12))) 0 (9 : Int32).toNatClampNeg) + v14))) 0) ((14 : Int32) + v3).toNatClampNeg (a1 + (1 : Int32)))) 0 (upd ((va_up (va_up (va_up R6 0 (upd (R6 0) (8 : Int32).toNatClampNeg ((R6 0 (8 : Int32).toNatClampNeg) + v12))) 0 (upd ((va_up R6 0 (upd (R6 0) (8 : Int32).toNatClampNeg ((R6 0 (8 : Int32).toNatClampNeg) + v12))) 0) (9 : Int32).toNatClampNeg (((va_up R6 0 (upd (R6 0) (8 : Int32).toNatClampNeg ((R6 0 (8 : Int32).toNatClampNeg) + v12))) 0 (9 : Int32).toNatClampNeg) + v14))) 0 (upd ((va_up (va_up R6 0 (upd (R6 0) (8 : Int32).toNatClampNeg ((R6 0 (8 : Int32).toNatClampNeg) + v12))) 0 (upd ((va_up R6 0 (upd (R6 0) (8 : Int32).toNatClampNeg ((R6 0 (8 : Int32).toNatClampNeg) + v12))) 0) (9 : Int32).toNatClampNeg (((va_up R6 0 (upd (R6 0) (8 : Int32).toNatClampNeg ((R6 0 (8 : Int32).toNatClampNeg) + v12))) 0 (9 : Int32).toNatClampNeg) + v14))) 0) ((14 : Int32) + v3).toNatClampNeg (a1 + (1 : Int32)))) 0) ((74 : Int32) + v3).toNatClampNeg v33)) 0 (upd ((va_up (va_up (va_up (va_up R6 0 (upd (R6 0) (8 : Int32).toNatClampNeg ((R6 0 (8 : Int32).toNatClampNeg) + v12))) 0 (upd ((va_up R6 0 (upd (R6 0) (8 : Int32).toNatClampNeg ((R6 0 (8 : Int32).toNatClampNeg) + v12))) 0) (9 : Int32).toNatClampNeg (((va_up R6 0 (upd (R6 0) (8 : Int32).toNatClampNeg ((R6 0 (8 : Int32).toNatClampNeg) + v12))) 0 (9 : Int32).toNatClampNeg) + v14))) 0 (upd ((va_up (va_up R6 0 (upd (R6 0) (8 : Int32).toNatClampNeg ((R6 0 (8 : Int32).toNatClampNeg) + v12))) 0 (upd ((va_up R6 0 (upd (R6 0) (8 : Int32).toNatClampNeg ((R6 0 (8 : Int32).toNatClampNeg) + v12))) 0) (9 : Int32).toNatClampNeg (((va_up R6 0 (upd (R6 0) (8 : Int32).toNatClampNeg ((R6 0 (8 : Int32).toNatClampNeg) + v12))) 0 (9 : Int32).toNatClampNeg) + v14))) 0) ((14 : Int32) + v3).toNatClampNeg (a1 + (1 : Int32)))) 0 (upd ((va_up (va_up (va_up R6 0 (upd (R6 0) (8 : Int32).toNatClampNeg ((R6 0 (8 : Int32).toNatClampNeg) + v12))) 0 (upd ((va_up R6 0 (upd (R6 0) (8 : Int32).toNatClampNeg ((R6 0 (8 : Int32).toNatClampNeg) + v12))) 0) (9 : Int32).toNatClampNeg (((va_up R6 0 (upd (R6 0) (8 : Int32).toNatClampNeg ((R6 0 (8 : Int32).toNatClampNeg) + v12))) 0 (9 : Int32).toNatClampNeg) + v14))) 0 (upd ((va_up (va_up R6 0 (upd (R6 0) (8 : Int32).toNatClampNeg ((R6 0 (8 : Int32).toNatClampNeg) + v12))) 0 (upd ((va_up R6 0 (upd (R6 0) (8 : Int32).toNatClampNeg ((R6 0 (8 : Int32).toNatClampNeg) + v12))) 0) (9 : Int32).toNatClampNeg (((va_up R6 0 (upd (R6 0) (8 : Int32).toNatClampNeg ((R6 0 (8 : Int32).toNatClampNeg) + v12))) 0 (9 : Int32).toNatClampNeg) + v14))) 0) ((14 : Int32) + v3).toNatClampNeg (a1 + (1 : Int32)))) 0) ((74 : Int32) + v3).toNatClampNeg v33)) 0) ((134 : Int32) + v3).toNatClampNeg v36)) 0) (12 : Int32).toNatClampNeg (((va_up (va_up (va_up (va_up (va_up R6 0 (upd (R6 0) (8 : Int32).toNatClampNeg ((R6 0 (8 : Int32).toNatClampNeg) + v12))) 0 (upd ((va_up R6 0 (upd (R6 0) (8 : Int32).toNatClampNeg ((R6 0 (8 : Int32).toNatClampNeg) + v12))) 0) (9 : Int32).toNatClampNeg (((va_up R6 0 (upd (R6 0) (8 : Int32).toNatClampNeg ((R6 0 (8 : Int32).toNatClampNeg) + v12))) 0 (9 : Int32).toNatClampNeg) + v14))) 0 (upd ((va_up (va_up R6 0 (upd (R6 0) (8 : Int32).toNatClampNeg ((R6 0 (8 : Int32).toNatClampNeg) + v12))) 0 (upd ((va_up R6 0 (upd (R6 0) (8 : Int32).toNatClampNeg ((R6 0 (8 : Int32).toNatClampNeg) + v12))) 0) (9 : Int32).toNatClampNeg (((va_up R6 0 (upd (R6 0) (8 : Int32).toNatClampNeg ((R6 0 (8 : Int32).toNatClampNeg) + v12))) 0 (9 : Int32).toNatClampNeg) + v14))) 0) ((14 : Int32) + v3).toNatClampNeg (a1 + (1 : Int32)))) 0 (upd ((va_up (va_up (va_up R6 0 (upd (R6 0) (8 : Int32).toNatClampNeg ((R6 0 (8 : Int32).toNatClampNeg) + v12))) 0 (upd ((va_up R6 0 (upd (R6 0) (8 : Int32).toNatClampNeg ((R6 0 (8 : Int32).toNatClampNeg) + v12))) 0) (9 : Int32).toNatClampNeg (((va_up R6 0 (upd (R6 0) (8 : Int32).toNatClampNeg ((R6 0 (8 : Int32).toNatClampNeg) + v12))) 0 (9 : Int32).toNatClampNeg) + v14))) 0 (upd ((va_up (va_up R6 0 (upd (R6 0) (8 : Int32).toNatClampNeg ((R6 0 (8 : Int32).toNatClampNeg) + v12))) 0 (upd ((va_up R6 0 (upd (R6 0) (8 : Int32).toNatClampNeg ((R6 0 (8 : Int32).toNatClampNeg) + v12))) 0) (9 : Int32).toNatClampNeg (((va_up R6 0 (upd (R6 0) (8 : Int32).toNatClampNeg ((R6 0 (8 : Int32).toNatClampNeg) + v12))) 0 (9 : Int32).toNatClampNeg) + v14))) 0) ((14 : Int32) + v3).toNatClampNeg (a1 + (1 : Int32)))) 0) ((74 : Int32) + v3).toNatClampNeg v33)) 0 (upd ((va_up (va_up (va_up (va_up R6 0 (upd (R6 0) (8 : Int32).toNatClampNeg ((R6 0 (8 : Int32).toNatClampNeg) + v12))) 0 (upd ((va_up R6 0 (upd (R6 0) (8 : Int32).toNatClampNeg ((R6 0 (8 : Int32).toNatClampNeg) + v12))) 0) (9 : Int32).toNatClampNeg (((va_up R6 0 (upd (R6 0) (8 : Int32).toNatClampNeg ((R6 0 (8 : Int32).toNatClampNeg) + v12))) 0 (9 : Int32).toNatClampNeg) + v14))) 0 (upd ((va_up (va_up R6 0 (upd (R6 0) (8 : Int32).toNatClampNeg ((R6 0 (8 : Int32).toNatClampNeg) + v12))) 0 (upd ((va_up R6 0 (upd (R6 0) (8 : Int32).toNatClampNeg ((R6 0 (8 : Int32).toNatClampNeg) + v12))) 0) (9 : Int32).toNatClampNeg (((va_up R6 0 (upd (R6 0) (8 : Int32).toNatClampNeg ((R6 0 (8 : Int32).toNatClampNeg) + v12))) 0 (9 : Int32).toNatClampNeg) + v14))) 0) ((14 : Int32) + v3).toNatClampNeg (a1 + (1 : Int32)))) 0 (upd ((va_up (va_up (va_up R6 0 (upd (R6 0) (8 : Int32).toNatClampNeg ((R6 0 (8 : Int32).toNatClampNeg) + v12))) 0 (upd ((va_up R6 0 (upd (R6 0) (8 : Int32).toNatClampNeg ((R6 0 (8 : Int32).toNatClampNeg) + v12))) 0) (9 : Int32).toNatClampNeg (((va_up R6 0 (upd (R6 0) (8 : Int32).toNatClampNeg ((R6 0 (8 : Int32).toNatClampNeg) + v12))) 0 (9 : Int32).toNatClampNeg) + v14))) 0 (upd ((va_up (va_up R6 0 (upd (R6 0) (8 : Int32).toNatClampNeg ((R6 0 (8 : Int32).toNatClampNeg) + v12))) 0 (upd ((va_up R6 0 (upd (R6 0) (8 : Int32).toNatClampNeg ((R6 0 (8 : Int32).toNatClampNeg) + v12))) 0) (9 : Int32).toNatClampNeg (((va_up R6 0 (upd (R6 0) (8 : Int32).toNatClampNeg ((R6 0 (8 : Int32).toNatClampNeg) + v12))) 0 (9 : Int32).toNatClampNeg) + v14))) 0) ((14 : Int32) + v3).toNatClampNeg (a1 + (1 : Int32)))) 0) ((74 : Int32) + v3).toNatClampNeg v33)) 0) ((134 : Int32) + v3).toNatClampNeg v36)) 0 (12 : Int32).toNatClampNeg) + v41))))
def m5_start_J166_2 (a1 : Int32) (v3 : Int32) (F5 : (Nat → Int32)) (R6 : (Nat → Nat → Int32)) (v12 : Int32) (v14 : Int32) (v33 : Int32) (v36 : Int32) : Option (Int32 × (Nat → Int32) × (Nat → Nat → Int32)) :=
  if inb ((134 : Int32) + v3) 194 then
  (m5_borrowed F5 (va_up (va_up (va_up (va_up (va_up R6 0 (upd (R6 0) (8 : Int32).toNatClampNeg ((R6 0 (8 : Int32).toNatClampNeg) + v12))) 0 (upd ((va_up R6 0 (upd (R6 0) (8 : Int32).toNatClampNeg ((R6 0 (8 : Int32).toNatClampNeg) + v12))) 0) (9 : Int32).toNatClampNeg (((va_up R6 0 (upd (R6 0) (8 : Int32).toNatClampNeg ((R6 0 (8 : Int32).toNatClampNeg) + v12))) 0 (9 : Int32).toNatClampNeg) + v14))) 0 (upd ((va_up (va_up R6 0 (upd (R6 0) (8 : Int32).toNatClampNeg ((R6 0 (8 : Int32).toNatClampNeg) + v12))) 0 (upd ((va_up R6 0 (upd (R6 0) (8 : Int32).toNatClampNeg ((R6 0 (8 : Int32).toNatClampNeg) + v12))) 0) (9 : Int32).toNatClampNeg (((va_up R6 0 (upd (R6 0) (8 : Int32).toNatClampNeg ((R6 0 (8 : Int32).toNatClampNeg) + v12))) 0 (9 : Int32).toNatClampNeg) + v14))) 0) ((14 : Int32) + v3).toNatClampNeg (a1 + (1 : Int32)))) 0 (upd ((va_up (va_up (va_up R6 0 (upd (R6 0) (8 : Int32).toNatClampNeg ((R6 0 (8 : Int32).toNatClampNeg) + v12))) 0 (upd ((va_up R6 0 (upd (R6 0) (8 : Int32).toNatClampNeg ((R6 0 (8 : Int32).toNatClampNeg) + v12))) 0) (9 : Int32).toNatClampNeg (((va_up R6 0 (upd (R6 0) (8 : Int32).toNatClampNeg ((R6 0 (8 : Int32).toNatClampNeg) + v12))) 0 (9 : Int32).toNatClampNeg) + v14))) 0 (upd ((va_up (va_up R6 0 (upd (R6 0) (8 : Int32).toNatClampNeg ((R6 0 (8 : Int32).toNatClampNeg) + v12))) 0 (upd ((va_up R6 0 (upd (R6 0) (8 : Int32).toNatClampNeg ((R6 0 (8 : Int32).toNatClampNeg) + v12))) 0) (9 : Int32).toNatClampNeg (((va_up R6 0 (upd (R6 0) (8 : Int32).toNatClampNeg ((R6 0 (8 : Int32).toNatClampNeg) + v12))) 0 (9 : Int32).toNatClampNeg) + v14))) 0) ((14 : Int32) + v3).toNatClampNeg (a1 + (1 : Int32)))) 0) ((74 : Int32) + v3).toNatClampNeg v33)) 0 (upd ((va_up (va_up (va_up (va_up R6 0 (upd (R6 0) (8 : Int32).toNatClampNeg ((R6 0 (8 : Int32).toNatClampNeg) + v12))) 0 (upd ((va_up R6 0 (upd (R6 0) (8 : Int32).toNatClampNeg ((R6 0 (8 : Int32).toNatClampNeg) + v12))) 0) (9 : Int32).toNatClampNeg (((va_up R6 0 (upd (R6 0) (8 : Int32).toNatClampNeg ((R6 0 (8 : Int32).toNatClampNeg) + v12))) 0 (9 : Int32).toNatClampNeg) + v14))) 0 (upd ((va_up (va_up R6 0 (upd (R6 0) (8 : Int32).toNatClampNeg ((R6 0 (8 : Int32).toNatClampNeg) + v12))) 0 (upd ((va_up R6 0 (upd (R6 0) (8 : Int32).toNatClampNeg ((R6 0 (8 : Int32).toNatClampNeg) + v12))) 0) (9 : Int32).toNatClampNeg (((va_up R6 0 (upd (R6 0) (8 : Int32).toNatClampNeg ((R6 0 (8 : Int32).toNatClampNeg) + v12))) 0 (9 : Int32).toNatClampNeg) + v14))) 0) ((14 : Int32) + v3).toNatClampNeg (a1 + (1 : Int32)))) 0 (upd ((va_up (va_up (va_up R6 0 (upd (R6 0) (8 : Int32).toNatClampNeg ((R6 0 (8 : Int32).toNatClampNeg) + v12))) 0 (upd ((va_up R6 0 (upd (R6 0) (8 : Int32).toNatClampNeg ((R6 0 (8 : Int32).toNatClampNeg) + v12))) 0) (9 : Int32).toNatClampNeg (((va_up R6 0 (upd (R6 0) (8 : Int32).toNatClampNeg ((R6 0 (8 : Int32).toNatClampNeg) + v12))) 0 (9 : Int32).toNatClampNeg) + v14))) 0 (upd ((va_up (va_up R6 0 (upd (R6 0) (8 : Int32).toNatClampNeg ((R6 0 (8 : Int32).toNatClampNeg) + v12))) 0 (upd ((va_up R6 0 (upd (R6 0) (8 : Int32).toNatClampNeg ((R6 0 (8 : Int32).toNatClampNeg) + v12))) 0) (9 : Int32).toNatClampNeg (((va_up R6 0 (upd (R6 0) (8 : Int32).toNatClampNeg ((R6 0 (8 : Int32).toNatClampNeg) + v12))) 0 (9 : Int32).toNatClampNeg) + v14))) 0) ((14 : Int32) + v3).toNatClampNeg (a1 + (1 : Int32)))) 0) ((74 : Int32) + v3).toNatClampNeg v33)) 0) ((134 : Int32) + v3).toNatClampNeg v36)) v3).bind fun v40 =>
  (if v40 = 0 then
  some (0 : Int32)
  else
  some (1 : Int32)).bind fun v41 => m5_start_J188_2 a1 v3 F5 R6 v12 v14 v33 v36 v41 else none
def m5_start_J146_2 (a1 : Int32) (v3 : Int32) (F5 : (Nat → Int32)) (R6 : (Nat → Nat → Int32)) (v10 : Int32) (v12 : Int32) (v14 : Int32) (v33 : Int32) : Option (Int32 × (Nat → Int32) × (Nat → Nat → Int32)) :=
  if inb ((74 : Int32) + v3) 194 then
  (if v10 = 0 then
  some (0 : Int32)
  else
  some (1 : Int32)).bind fun v36 => m5_start_J166_2 a1 v3 F5 R6 v12 v14 v33 v36 else none
def m5_start_J97 (a1 : Int32) (v3 : Int32) (v7 : Int32) (F5 : (Nat → Int32)) (R6 : (Nat → Nat → Int32)) (v10 : Int32) (v12 : Int32) (v14 : Int32) : Option (Int32 × (Nat → Int32) × (Nat → Nat → Int32)) :=
  if v7 = (-9 : Int32) then
  if v10 = 0 then
  some ((-9 : Int32), F5, (va_up (va_up R6 0 (upd (R6 0) (8 : Int32).toNatClampNeg ((R6 0 (8 : Int32).toNatClampNeg) + v12))) 0 (upd ((va_up R6 0 (upd (R6 0) (8 : Int32).toNatClampNeg ((R6 0 (8 : Int32).toNatClampNeg) + v12))) 0) (9 : Int32).toNatClampNeg (((va_up R6 0 (upd (R6 0) (8 : Int32).toNatClampNeg ((R6 0 (8 : Int32).toNatClampNeg) + v12))) 0 (9 : Int32).toNatClampNeg) + v14))))
  else
  if inb ((14 : Int32) + v3) 194 then
  (if v7 = (-9 : Int32) then
  some (0 : Int32)
  else
  some (v7 + (1 : Int32))).bind fun v33 => m5_start_J146_2 a1 v3 F5 R6 v10 v12 v14 v33 else none
  else
  if inb ((14 : Int32) + v3) 194 then
  (if v7 = (-9 : Int32) then
  some (0 : Int32)
  else
  some (v7 + (1 : Int32))).bind fun v18 => m5_start_J146 a1 v3 F5 R6 v10 v12 v14 v18 else none
def m5_start_J77 (a1 : Int32) (v3 : Int32) (v7 : Int32) (F5 : (Nat → Int32)) (R6 : (Nat → Nat → Int32)) (v10 : Int32) (v12 : Int32) : Option (Int32 × (Nat → Int32) × (Nat → Nat → Int32)) :=
  (if v10 = 0 then
  some (1 : Int32)
  else
  some (0 : Int32)).bind fun v14 => m5_start_J97 a1 v3 v7 F5 R6 v10 v12 v14
def m5_start_J56 (a1 : Int32) (v3 : Int32) (v7 : Int32) (F5 : (Nat → Int32)) (R6 : (Nat → Nat → Int32)) (v10 : Int32) : Option (Int32 × (Nat → Int32) × (Nat → Nat → Int32)) :=
  (if v7 = (-9 : Int32) then
  some (1 : Int32)
  else
  some (0 : Int32)).bind fun v12 => m5_start_J77 a1 v3 v7 F5 R6 v10 v12
def m5_start_X31 (F : (Nat → Int32)) (R : (Nat → Nat → Int32)) (a1 : Int32) (v3 : Int32) : Option (Int32 × (Nat → Int32) × (Nat → Nat → Int32)) :=
  (m5_choose F (va_up R 0 (upd (R 0) (7 : Int32).toNatClampNeg ((R 0 (7 : Int32).toNatClampNeg) + (1 : Int32)))) a1).bind fun ⟨v7, F5, R6⟩ =>
  (m5_fixedIn F5 R6 a1).bind fun v9 =>
  (if (R6 0 (3 : Int32).toNatClampNeg) ≤ v9 then
  some (0 : Int32)
  else
  some (1 : Int32)).bind fun v10 => m5_start_J56 a1 v3 v7 F5 R6 v10
def m5_start_L13 (R : (Nat → Nat → Int32)) (kkt1 : Int32 → Option Int32) (t0 : Int32) : Option Int32 :=
  if inb ((14 : Int32) + t0) 194 then
  if ((va_up R 0 (upd (R 0) (7 : Int32).toNatClampNeg ((R 0 (7 : Int32).toNatClampNeg) + (1 : Int32)))) 0 ((14 : Int32) + t0).toNatClampNeg) ≤ 0 then
  some t0
  else
  kkt1 (t0 + (1 : Int32)) else none
def m5_start (F : (Nat → Int32)) (R : (Nat → Nat → Int32)) (a1 : Int32) : Option (Int32 × (Nat → Int32) × (Nat → Nat → Int32)) :=
  (wh (m5_start_L13 R) 2000 (0 : Int32)).bind fun v3 => m5_start_X31 F R a1 v3
abbrev rm_X5_start : Room := { frames := 6, cells := 0, slots := 0, locals := 142 }
set_option maxHeartbeats 4000000 in
set_option maxRecDepth 100000 in
theorem c_X5_start (l : Launch) (D : va_G) (y : Nat → ClassId) (A : Nat → Nat) (F : (Nat → Int32)) (R : (Nat → Nat → Int32)) (a1 : Int32) (rr9 : Int32) (FF9 : (Nat → Int32)) (RR9 : (Nat → Nat → Int32)) (sz : Nat) (hI : aj_s 7 A) (hm : m5_start F R a1 = some (rr9, FF9, RR9)) : Met l yX5_start (wy_s yX5_start cX5_start 5 (some .int)) rm_X5_start (pc_R D y [.ref (A 0), .int a1] (fun H => H.size = sz ∧ va_P D vwCl (w5_s y A F R) H)) (qc_W (some (.int rr9)) (fun H => va_P D vwCl (w5_s y A FF9 RR9) H) (rg_s 7 A sz)) 0 0 (rg_s 7 A sz) := by
  refine met_W (by decide) (Nat.le_of_ble_eq_true rfl) ?_
  intro p e s m args below meth c X hnm h0 ls hl
  obtain ⟨hsz, hP⟩ := h0
  subst hsz
  have hA := ap_of (sz := s.heap.size) hI
  have hS : va_S (rg_s 7 A s.heap.size) s.heap s.heap [] := va_S.rf
  replace hl : lv_has ls 5 [(0, .ref (A 0)), (1, .int a1)] := hl
  replace X : cx p s m args meth c cX5_start 5 (some .int) RX5 D y := X
  unfold m5_start at hm
  refine lv_aload_n (cx_x X) (cx_b X) dX5_start_0 rfl (lv_at hl 0 rfl) ?_
  refine gf_X5_7 X hP dX5_start_1 ?_
  refine lv_bipush (v := (7 : Int32)) (cx_x X) (cx_b X) dX5_start_4 (by decide) ?_
  refine lv_dup2_11 (cx_x X) (cx_b X) dX5_start_6 rfl rfl ?_
  refine ld_5_0 X hP (by decide) dX5_start_7 ?_
  refine lv_iconst (v := (1 : Int32)) (cx_x X) (cx_b X) dX5_start_8 (by decide) ?_
  refine lv_iadd (cx_x X) (cx_b X) dX5_start_9 ?_
  refine st_5_0 X hP hA hS (by decide) dX5_start_10 (fun H locs hP hS => ?_)
  refine lv_iconst (v := (0 : Int32)) (cx_x X) (cx_b X) dX5_start_11 (by decide) ?_
  refine lv_istore_n (lv' := [(2, .int (0 : Int32)), (0, .ref (A 0)), (1, .int a1)]) (cx_x X) (cx_b X) dX5_start_12 rfl hl (by decide) rfl (fun ls hl => ?_)
  obtain ⟨qt1, hm, hmt1⟩ := bnd hm
  have Xt1 : ∀ (v3 : Int32) , m5_start_X31 F R a1 v3 = some (rr9, FF9, RR9) → ∀ (H : Heap) (locs : List Loc), va_P D vwCl (w5_s y A F (va_up R 0 (upd (R 0) (7 : Int32).toNatClampNeg ((R 0 (7 : Int32).toNatClampNeg) + (1 : Int32))))) H → va_S (rg_s 7 A s.heap.size) s.heap H locs → ∀ ls, lv_has ls 5 [(0, .ref (A 0)), (1, .int a1), (2, .int v3)] → gw p l e rm_X5_start s m args below meth c (some (.int rr9)) (fun H => va_P D vwCl (w5_s y A FF9 RR9) H) (rg_s 7 A s.heap.size) 0 0 H locs (F0 m 31 ls []) := by
    intro v3 hm H locs hP hS ls hl
    unfold m5_start_X31 at hm
    refine lv_aload_n (cx_x X) (cx_b X) dX5_start_31 rfl (lv_at hl 0 rfl) ?_
    refine lv_iload_n (cx_x X) (cx_b X) dX5_start_32 rfl (lv_at hl 1 rfl) ?_
    obtain ⟨⟨v7, F5, R6⟩, h4, hm⟩ := bnd hm
    try dsimp only at hm
    refine af_W (mc := 0) (ms := 0) (rn_V (As := [.int a1]) (rest := []) X (c_X5_choose l D y A F (va_up R 0 (upd (R 0) (7 : Int32).toNatClampNeg ((R 0 (7 : Int32).toNatClampNeg) + (1 : Int32)))) a1 v7 F5 R6 _ hI h4) vq_X5_91 ⟨rfl, rfl⟩ ⟨Nat.le_of_ble_eq_true rfl, Nat.le_of_ble_eq_true rfl⟩ (rec_5 X hP) ⟨rfl, hP⟩ rfl hl.1 rfl (Nat.le_of_ble_eq_true rfl) dX5_start_33 ⟨Nat.le_of_ble_eq_true rfl, Nat.le_of_ble_eq_true rfl⟩) hS (rg_up hS.1) (fun H locs hP _ _ hS => ?_)
    refine lv_istore_n (lv' := [(3, .int v7), (0, .ref (A 0)), (1, .int a1), (2, .int v3)]) (cx_x X) (cx_b X) dX5_start_36 rfl hl (by decide) rfl (fun ls hl => ?_)
    refine lv_aload_n (cx_x X) (cx_b X) dX5_start_37 rfl (lv_at hl 1 rfl) ?_
    refine lv_iload_n (cx_x X) (cx_b X) dX5_start_38 rfl (lv_at hl 2 rfl) ?_
    obtain ⟨v9, h8, hm⟩ := bnd hm
    refine af_R (rn_V (As := [.int a1]) (rest := []) X (c_X5_fixedIn l D y A F5 R6 a1  _ h8) vq_X5_94 ⟨rfl, rfl⟩ ⟨Nat.le_of_ble_eq_true rfl, Nat.le_of_ble_eq_true rfl⟩ (rec_5 X hP) hP rfl hl.1 rfl (Nat.le_of_ble_eq_true rfl) dX5_start_39 ⟨Nat.le_of_ble_eq_true rfl, Nat.le_of_ble_eq_true rfl⟩) ?_
    refine lv_aload_n (cx_x X) (cx_b X) dX5_start_42 rfl (lv_at hl 1 rfl) ?_
    refine gf_X5_7 X hP dX5_start_43 ?_
    refine lv_iconst (v := (3 : Int32)) (cx_x X) (cx_b X) dX5_start_46 (by decide) ?_
    refine ld_5_0 X hP (by decide) dX5_start_47 ?_
    obtain ⟨qt11, hm, hmt11⟩ := bnd hm
    have Jt11 : ∀ (v10 : Int32) , m5_start_J56 a1 v3 v7 F5 R6 v10 = some (rr9, FF9, RR9) → ∀ (H : Heap) (locs : List Loc), va_P D vwCl (w5_s y A F5 R6) H → va_S (rg_s 7 A s.heap.size) s.heap H locs → ∀ ls, lv_has ls 5 [(0, .ref (A 0)), (1, .int a1), (2, .int v3), (3, .int v7)] → gw p l e rm_X5_start s m args below meth c (some (.int rr9)) (fun H => va_P D vwCl (w5_s y A FF9 RR9) H) (rg_s 7 A s.heap.size) 0 0 H locs (F0 m 56 ls [.int v10]) := by
      intro v10 hm H locs hP hS ls hl
      unfold m5_start_J56 at hm
      refine lv_istore (lv' := [(4, .int v10), (0, .ref (A 0)), (1, .int a1), (2, .int v3), (3, .int v7)]) (cx_x X) (cx_b X) dX5_start_56 hl (by decide) rfl (fun ls hl => ?_)
      refine lv_aload_n (cx_x X) (cx_b X) dX5_start_58 rfl (lv_at hl 1 rfl) ?_
      refine gf_X5_7 X hP dX5_start_59 ?_
      refine lv_bipush (v := (8 : Int32)) (cx_x X) (cx_b X) dX5_start_62 (by decide) ?_
      refine lv_dup2_11 (cx_x X) (cx_b X) dX5_start_64 rfl rfl ?_
      refine ld_5_0 X hP (by decide) dX5_start_65 ?_
      refine lv_iload_n (cx_x X) (cx_b X) dX5_start_66 rfl (lv_at hl 4 rfl) ?_
      refine lv_bipush (v := (-9 : Int32)) (cx_x X) (cx_b X) dX5_start_67 (by decide) ?_
      obtain ⟨qt13, hm, hmt13⟩ := bnd hm
      have Jt13 : ∀ (v12 : Int32) , m5_start_J77 a1 v3 v7 F5 R6 v10 v12 = some (rr9, FF9, RR9) → ∀ (H : Heap) (locs : List Loc), va_P D vwCl (w5_s y A F5 R6) H → va_S (rg_s 7 A s.heap.size) s.heap H locs → ∀ ls, lv_has ls 5 [(0, .ref (A 0)), (1, .int a1), (2, .int v3), (3, .int v7), (4, .int v10)] → gw p l e rm_X5_start s m args below meth c (some (.int rr9)) (fun H => va_P D vwCl (w5_s y A FF9 RR9) H) (rg_s 7 A s.heap.size) 0 0 H locs (F0 m 77 ls [.int v12, .int (R6 0 (8 : Int32).toNatClampNeg), .int (8 : Int32), .ref (A 1)]) := by
        intro v12 hm H locs hP hS ls hl
        unfold m5_start_J77 at hm
        refine lv_iadd (cx_x X) (cx_b X) dX5_start_77 ?_
        refine st_5_0 X hP hA hS (by decide) dX5_start_78 (fun H locs hP hS => ?_)
        refine lv_aload_n (cx_x X) (cx_b X) dX5_start_79 rfl (lv_at hl 0 rfl) ?_
        refine gf_X5_7 X hP dX5_start_80 ?_
        refine lv_bipush (v := (9 : Int32)) (cx_x X) (cx_b X) dX5_start_83 (by decide) ?_
        refine lv_dup2_11 (cx_x X) (cx_b X) dX5_start_85 rfl rfl ?_
        refine ld_5_0 X hP (by decide) dX5_start_86 ?_
        refine lv_iload (cx_x X) (cx_b X) dX5_start_87 (lv_at hl 4 rfl) ?_
        obtain ⟨qt15, hm, hmt15⟩ := bnd hm
        have Jt15 : ∀ (v14 : Int32) , m5_start_J97 a1 v3 v7 F5 R6 v10 v12 v14 = some (rr9, FF9, RR9) → ∀ (H : Heap) (locs : List Loc), va_P D vwCl (w5_s y A F5 (va_up R6 0 (upd (R6 0) (8 : Int32).toNatClampNeg ((R6 0 (8 : Int32).toNatClampNeg) + v12)))) H → va_S (rg_s 7 A s.heap.size) s.heap H locs → ∀ ls, lv_has ls 5 [(0, .ref (A 0)), (1, .int a1), (2, .int v3), (3, .int v7), (4, .int v10)] → gw p l e rm_X5_start s m args below meth c (some (.int rr9)) (fun H => va_P D vwCl (w5_s y A FF9 RR9) H) (rg_s 7 A s.heap.size) 0 0 H locs (F0 m 97 ls [.int v14, .int ((va_up R6 0 (upd (R6 0) (8 : Int32).toNatClampNeg ((R6 0 (8 : Int32).toNatClampNeg) + v12))) 0 (9 : Int32).toNatClampNeg), .int (9 : Int32), .ref (A 1)]) := by
          intro v14 hm H locs hP hS ls hl
          unfold m5_start_J97 at hm
          refine lv_iadd (cx_x X) (cx_b X) dX5_start_97 ?_
          refine st_5_0 X hP hA hS (by decide) dX5_start_98 (fun H locs hP hS => ?_)
          refine lv_iload_n (cx_x X) (cx_b X) dX5_start_99 rfl (lv_at hl 3 rfl) ?_
          refine lv_bipush (v := (-9 : Int32)) (cx_x X) (cx_b X) dX5_start_100 (by decide) ?_
          refine lv_icmp_ne (tgt := 113) (cx_x X) (cx_b X) dX5_start_102 (by decide) (fun c16 => ?_) (fun c16 => ?_)
          · replace hm := if_F c16 hm
            refine lv_aload_n (cx_x X) (cx_b X) dX5_start_113 rfl (lv_at hl 0 rfl) ?_
            refine gf_X5_7 X hP dX5_start_114 ?_
            refine lv_bipush (v := (14 : Int32)) (cx_x X) (cx_b X) dX5_start_117 (by decide) ?_
            refine lv_iload_n (cx_x X) (cx_b X) dX5_start_119 rfl (lv_at hl 2 rfl) ?_
            refine lv_iadd (cx_x X) (cx_b X) dX5_start_120 ?_
            refine lv_iload_n (cx_x X) (cx_b X) dX5_start_121 rfl (lv_at hl 1 rfl) ?_
            refine lv_iconst (v := (1 : Int32)) (cx_x X) (cx_b X) dX5_start_122 (by decide) ?_
            refine lv_iadd (cx_x X) (cx_b X) dX5_start_123 ?_
            obtain ⟨h17, hm⟩ := ck_E hm
            refine st_5_0 X hP hA hS h17 dX5_start_124 (fun H locs hP hS => ?_)
            refine lv_aload_n (cx_x X) (cx_b X) dX5_start_125 rfl (lv_at hl 0 rfl) ?_
            refine gf_X5_7 X hP dX5_start_126 ?_
            refine lv_bipush (v := (74 : Int32)) (cx_x X) (cx_b X) dX5_start_129 (by decide) ?_
            refine lv_iload_n (cx_x X) (cx_b X) dX5_start_131 rfl (lv_at hl 2 rfl) ?_
            refine lv_iadd (cx_x X) (cx_b X) dX5_start_132 ?_
            refine lv_iload_n (cx_x X) (cx_b X) dX5_start_133 rfl (lv_at hl 3 rfl) ?_
            refine lv_bipush (v := (-9 : Int32)) (cx_x X) (cx_b X) dX5_start_134 (by decide) ?_
            obtain ⟨qt19, hm, hmt19⟩ := bnd hm
            have Jt19 : ∀ (v18 : Int32) , m5_start_J146 a1 v3 F5 R6 v10 v12 v14 v18 = some (rr9, FF9, RR9) → ∀ (H : Heap) (locs : List Loc), va_P D vwCl (w5_s y A F5 (va_up (va_up (va_up R6 0 (upd (R6 0) (8 : Int32).toNatClampNeg ((R6 0 (8 : Int32).toNatClampNeg) + v12))) 0 (upd ((va_up R6 0 (upd (R6 0) (8 : Int32).toNatClampNeg ((R6 0 (8 : Int32).toNatClampNeg) + v12))) 0) (9 : Int32).toNatClampNeg (((va_up R6 0 (upd (R6 0) (8 : Int32).toNatClampNeg ((R6 0 (8 : Int32).toNatClampNeg) + v12))) 0 (9 : Int32).toNatClampNeg) + v14))) 0 (upd ((va_up (va_up R6 0 (upd (R6 0) (8 : Int32).toNatClampNeg ((R6 0 (8 : Int32).toNatClampNeg) + v12))) 0 (upd ((va_up R6 0 (upd (R6 0) (8 : Int32).toNatClampNeg ((R6 0 (8 : Int32).toNatClampNeg) + v12))) 0) (9 : Int32).toNatClampNeg (((va_up R6 0 (upd (R6 0) (8 : Int32).toNatClampNeg ((R6 0 (8 : Int32).toNatClampNeg) + v12))) 0 (9 : Int32).toNatClampNeg) + v14))) 0) ((14 : Int32) + v3).toNatClampNeg (a1 + (1 : Int32))))) H → va_S (rg_s 7 A s.heap.size) s.heap H locs → ∀ ls, lv_has ls 5 [(0, .ref (A 0)), (2, .int v3), (4, .int v10)] → gw p l e rm_X5_start s m args below meth c (some (.int rr9)) (fun H => va_P D vwCl (w5_s y A FF9 RR9) H) (rg_s 7 A s.heap.size) 0 0 H locs (F0 m 146 ls [.int v18, .int ((74 : Int32) + v3), .ref (A 1)]) := by
              intro v18 hm H locs hP hS ls hl
              unfold m5_start_J146 at hm
              obtain ⟨h20, hm⟩ := ck_E hm
              refine st_5_0 X hP hA hS h20 dX5_start_146 (fun H locs hP hS => ?_)
              refine lv_aload_n (cx_x X) (cx_b X) dX5_start_147 rfl (lv_at hl 0 rfl) ?_
              refine gf_X5_7 X hP dX5_start_148 ?_
              refine lv_sipush (v := (134 : Int32)) (cx_x X) (cx_b X) dX5_start_151 (by decide) ?_
              refine lv_iload_n (cx_x X) (cx_b X) dX5_start_154 rfl (lv_at hl 1 rfl) ?_
              refine lv_iadd (cx_x X) (cx_b X) dX5_start_155 ?_
              refine lv_iload (cx_x X) (cx_b X) dX5_start_156 (lv_at hl 2 rfl) ?_
              obtain ⟨qt22, hm, hmt22⟩ := bnd hm
              have Jt22 : ∀ (v21 : Int32) , m5_start_J166 a1 v3 F5 R6 v12 v14 v18 v21 = some (rr9, FF9, RR9) → ∀ (H : Heap) (locs : List Loc), va_P D vwCl (w5_s y A F5 (va_up (va_up (va_up (va_up R6 0 (upd (R6 0) (8 : Int32).toNatClampNeg ((R6 0 (8 : Int32).toNatClampNeg) + v12))) 0 (upd ((va_up R6 0 (upd (R6 0) (8 : Int32).toNatClampNeg ((R6 0 (8 : Int32).toNatClampNeg) + v12))) 0) (9 : Int32).toNatClampNeg (((va_up R6 0 (upd (R6 0) (8 : Int32).toNatClampNeg ((R6 0 (8 : Int32).toNatClampNeg) + v12))) 0 (9 : Int32).toNatClampNeg) + v14))) 0 (upd ((va_up (va_up R6 0 (upd (R6 0) (8 : Int32).toNatClampNeg ((R6 0 (8 : Int32).toNatClampNeg) + v12))) 0 (upd ((va_up R6 0 (upd (R6 0) (8 : Int32).toNatClampNeg ((R6 0 (8 : Int32).toNatClampNeg) + v12))) 0) (9 : Int32).toNatClampNeg (((va_up R6 0 (upd (R6 0) (8 : Int32).toNatClampNeg ((R6 0 (8 : Int32).toNatClampNeg) + v12))) 0 (9 : Int32).toNatClampNeg) + v14))) 0) ((14 : Int32) + v3).toNatClampNeg (a1 + (1 : Int32)))) 0 (upd ((va_up (va_up (va_up R6 0 (upd (R6 0) (8 : Int32).toNatClampNeg ((R6 0 (8 : Int32).toNatClampNeg) + v12))) 0 (upd ((va_up R6 0 (upd (R6 0) (8 : Int32).toNatClampNeg ((R6 0 (8 : Int32).toNatClampNeg) + v12))) 0) (9 : Int32).toNatClampNeg (((va_up R6 0 (upd (R6 0) (8 : Int32).toNatClampNeg ((R6 0 (8 : Int32).toNatClampNeg) + v12))) 0 (9 : Int32).toNatClampNeg) + v14))) 0 (upd ((va_up (va_up R6 0 (upd (R6 0) (8 : Int32).toNatClampNeg ((R6 0 (8 : Int32).toNatClampNeg) + v12))) 0 (upd ((va_up R6 0 (upd (R6 0) (8 : Int32).toNatClampNeg ((R6 0 (8 : Int32).toNatClampNeg) + v12))) 0) (9 : Int32).toNatClampNeg (((va_up R6 0 (upd (R6 0) (8 : Int32).toNatClampNeg ((R6 0 (8 : Int32).toNatClampNeg) + v12))) 0 (9 : Int32).toNatClampNeg) + v14))) 0) ((14 : Int32) + v3).toNatClampNeg (a1 + (1 : Int32)))) 0) ((74 : Int32) + v3).toNatClampNeg v18))) H → va_S (rg_s 7 A s.heap.size) s.heap H locs → ∀ ls, lv_has ls 5 [(0, .ref (A 0)), (2, .int v3)] → gw p l e rm_X5_start s m args below meth c (some (.int rr9)) (fun H => va_P D vwCl (w5_s y A FF9 RR9) H) (rg_s 7 A s.heap.size) 0 0 H locs (F0 m 166 ls [.int v21, .int ((134 : Int32) + v3), .ref (A 1)]) := by
                intro v21 hm H locs hP hS ls hl
                unfold m5_start_J166 at hm
                obtain ⟨h23, hm⟩ := ck_E hm
                refine st_5_0 X hP hA hS h23 dX5_start_166 (fun H locs hP hS => ?_)
                refine lv_aload_n (cx_x X) (cx_b X) dX5_start_167 rfl (lv_at hl 0 rfl) ?_
                refine gf_X5_7 X hP dX5_start_168 ?_
                refine lv_bipush (v := (12 : Int32)) (cx_x X) (cx_b X) dX5_start_171 (by decide) ?_
                refine lv_dup2_11 (cx_x X) (cx_b X) dX5_start_173 rfl rfl ?_
                refine ld_5_0 X hP (by decide) dX5_start_174 ?_
                refine lv_aload_n (cx_x X) (cx_b X) dX5_start_175 rfl (lv_at hl 0 rfl) ?_
                refine lv_iload_n (cx_x X) (cx_b X) dX5_start_176 rfl (lv_at hl 1 rfl) ?_
                obtain ⟨v25, h24, hm⟩ := bnd hm
                refine af_R (rn_V (As := [.int v3]) (rest := [.int ((va_up (va_up (va_up (va_up (va_up R6 0 (upd (R6 0) (8 : Int32).toNatClampNeg ((R6 0 (8 : Int32).toNatClampNeg) + v12))) 0 (upd ((va_up R6 0 (upd (R6 0) (8 : Int32).toNatClampNeg ((R6 0 (8 : Int32).toNatClampNeg) + v12))) 0) (9 : Int32).toNatClampNeg (((va_up R6 0 (upd (R6 0) (8 : Int32).toNatClampNeg ((R6 0 (8 : Int32).toNatClampNeg) + v12))) 0 (9 : Int32).toNatClampNeg) + v14))) 0 (upd ((va_up (va_up R6 0 (upd (R6 0) (8 : Int32).toNatClampNeg ((R6 0 (8 : Int32).toNatClampNeg) + v12))) 0 (upd ((va_up R6 0 (upd (R6 0) (8 : Int32).toNatClampNeg ((R6 0 (8 : Int32).toNatClampNeg) + v12))) 0) (9 : Int32).toNatClampNeg (((va_up R6 0 (upd (R6 0) (8 : Int32).toNatClampNeg ((R6 0 (8 : Int32).toNatClampNeg) + v12))) 0 (9 : Int32).toNatClampNeg) + v14))) 0) ((14 : Int32) + v3).toNatClampNeg (a1 + (1 : Int32)))) 0 (upd ((va_up (va_up (va_up R6 0 (upd (R6 0) (8 : Int32).toNatClampNeg ((R6 0 (8 : Int32).toNatClampNeg) + v12))) 0 (upd ((va_up R6 0 (upd (R6 0) (8 : Int32).toNatClampNeg ((R6 0 (8 : Int32).toNatClampNeg) + v12))) 0) (9 : Int32).toNatClampNeg (((va_up R6 0 (upd (R6 0) (8 : Int32).toNatClampNeg ((R6 0 (8 : Int32).toNatClampNeg) + v12))) 0 (9 : Int32).toNatClampNeg) + v14))) 0 (upd ((va_up (va_up R6 0 (upd (R6 0) (8 : Int32).toNatClampNeg ((R6 0 (8 : Int32).toNatClampNeg) + v12))) 0 (upd ((va_up R6 0 (upd (R6 0) (8 : Int32).toNatClampNeg ((R6 0 (8 : Int32).toNatClampNeg) + v12))) 0) (9 : Int32).toNatClampNeg (((va_up R6 0 (upd (R6 0) (8 : Int32).toNatClampNeg ((R6 0 (8 : Int32).toNatClampNeg) + v12))) 0 (9 : Int32).toNatClampNeg) + v14))) 0) ((14 : Int32) + v3).toNatClampNeg (a1 + (1 : Int32)))) 0) ((74 : Int32) + v3).toNatClampNeg v18)) 0 (upd ((va_up (va_up (va_up (va_up R6 0 (upd (R6 0) (8 : Int32).toNatClampNeg ((R6 0 (8 : Int32).toNatClampNeg) + v12))) 0 (upd ((va_up R6 0 (upd (R6 0) (8 : Int32).toNatClampNeg ((R6 0 (8 : Int32).toNatClampNeg) + v12))) 0) (9 : Int32).toNatClampNeg (((va_up R6 0 (upd (R6 0) (8 : Int32).toNatClampNeg ((R6 0 (8 : Int32).toNatClampNeg) + v12))) 0 (9 : Int32).toNatClampNeg) + v14))) 0 (upd ((va_up (va_up R6 0 (upd (R6 0) (8 : Int32).toNatClampNeg ((R6 0 (8 : Int32).toNatClampNeg) + v12))) 0 (upd ((va_up R6 0 (upd (R6 0) (8 : Int32).toNatClampNeg ((R6 0 (8 : Int32).toNatClampNeg) + v12))) 0) (9 : Int32).toNatClampNeg (((va_up R6 0 (upd (R6 0) (8 : Int32).toNatClampNeg ((R6 0 (8 : Int32).toNatClampNeg) + v12))) 0 (9 : Int32).toNatClampNeg) + v14))) 0) ((14 : Int32) + v3).toNatClampNeg (a1 + (1 : Int32)))) 0 (upd ((va_up (va_up (va_up R6 0 (upd (R6 0) (8 : Int32).toNatClampNeg ((R6 0 (8 : Int32).toNatClampNeg) + v12))) 0 (upd ((va_up R6 0 (upd (R6 0) (8 : Int32).toNatClampNeg ((R6 0 (8 : Int32).toNatClampNeg) + v12))) 0) (9 : Int32).toNatClampNeg (((va_up R6 0 (upd (R6 0) (8 : Int32).toNatClampNeg ((R6 0 (8 : Int32).toNatClampNeg) + v12))) 0 (9 : Int32).toNatClampNeg) + v14))) 0 (upd ((va_up (va_up R6 0 (upd (R6 0) (8 : Int32).toNatClampNeg ((R6 0 (8 : Int32).toNatClampNeg) + v12))) 0 (upd ((va_up R6 0 (upd (R6 0) (8 : Int32).toNatClampNeg ((R6 0 (8 : Int32).toNatClampNeg) + v12))) 0) (9 : Int32).toNatClampNeg (((va_up R6 0 (upd (R6 0) (8 : Int32).toNatClampNeg ((R6 0 (8 : Int32).toNatClampNeg) + v12))) 0 (9 : Int32).toNatClampNeg) + v14))) 0) ((14 : Int32) + v3).toNatClampNeg (a1 + (1 : Int32)))) 0) ((74 : Int32) + v3).toNatClampNeg v18)) 0) ((134 : Int32) + v3).toNatClampNeg v21)) 0 (12 : Int32).toNatClampNeg), .int (12 : Int32), .ref (A 1)]) X (c_X5_borrowed l D y A F5 (va_up (va_up (va_up (va_up (va_up R6 0 (upd (R6 0) (8 : Int32).toNatClampNeg ((R6 0 (8 : Int32).toNatClampNeg) + v12))) 0 (upd ((va_up R6 0 (upd (R6 0) (8 : Int32).toNatClampNeg ((R6 0 (8 : Int32).toNatClampNeg) + v12))) 0) (9 : Int32).toNatClampNeg (((va_up R6 0 (upd (R6 0) (8 : Int32).toNatClampNeg ((R6 0 (8 : Int32).toNatClampNeg) + v12))) 0 (9 : Int32).toNatClampNeg) + v14))) 0 (upd ((va_up (va_up R6 0 (upd (R6 0) (8 : Int32).toNatClampNeg ((R6 0 (8 : Int32).toNatClampNeg) + v12))) 0 (upd ((va_up R6 0 (upd (R6 0) (8 : Int32).toNatClampNeg ((R6 0 (8 : Int32).toNatClampNeg) + v12))) 0) (9 : Int32).toNatClampNeg (((va_up R6 0 (upd (R6 0) (8 : Int32).toNatClampNeg ((R6 0 (8 : Int32).toNatClampNeg) + v12))) 0 (9 : Int32).toNatClampNeg) + v14))) 0) ((14 : Int32) + v3).toNatClampNeg (a1 + (1 : Int32)))) 0 (upd ((va_up (va_up (va_up R6 0 (upd (R6 0) (8 : Int32).toNatClampNeg ((R6 0 (8 : Int32).toNatClampNeg) + v12))) 0 (upd ((va_up R6 0 (upd (R6 0) (8 : Int32).toNatClampNeg ((R6 0 (8 : Int32).toNatClampNeg) + v12))) 0) (9 : Int32).toNatClampNeg (((va_up R6 0 (upd (R6 0) (8 : Int32).toNatClampNeg ((R6 0 (8 : Int32).toNatClampNeg) + v12))) 0 (9 : Int32).toNatClampNeg) + v14))) 0 (upd ((va_up (va_up R6 0 (upd (R6 0) (8 : Int32).toNatClampNeg ((R6 0 (8 : Int32).toNatClampNeg) + v12))) 0 (upd ((va_up R6 0 (upd (R6 0) (8 : Int32).toNatClampNeg ((R6 0 (8 : Int32).toNatClampNeg) + v12))) 0) (9 : Int32).toNatClampNeg (((va_up R6 0 (upd (R6 0) (8 : Int32).toNatClampNeg ((R6 0 (8 : Int32).toNatClampNeg) + v12))) 0 (9 : Int32).toNatClampNeg) + v14))) 0) ((14 : Int32) + v3).toNatClampNeg (a1 + (1 : Int32)))) 0) ((74 : Int32) + v3).toNatClampNeg v18)) 0 (upd ((va_up (va_up (va_up (va_up R6 0 (upd (R6 0) (8 : Int32).toNatClampNeg ((R6 0 (8 : Int32).toNatClampNeg) + v12))) 0 (upd ((va_up R6 0 (upd (R6 0) (8 : Int32).toNatClampNeg ((R6 0 (8 : Int32).toNatClampNeg) + v12))) 0) (9 : Int32).toNatClampNeg (((va_up R6 0 (upd (R6 0) (8 : Int32).toNatClampNeg ((R6 0 (8 : Int32).toNatClampNeg) + v12))) 0 (9 : Int32).toNatClampNeg) + v14))) 0 (upd ((va_up (va_up R6 0 (upd (R6 0) (8 : Int32).toNatClampNeg ((R6 0 (8 : Int32).toNatClampNeg) + v12))) 0 (upd ((va_up R6 0 (upd (R6 0) (8 : Int32).toNatClampNeg ((R6 0 (8 : Int32).toNatClampNeg) + v12))) 0) (9 : Int32).toNatClampNeg (((va_up R6 0 (upd (R6 0) (8 : Int32).toNatClampNeg ((R6 0 (8 : Int32).toNatClampNeg) + v12))) 0 (9 : Int32).toNatClampNeg) + v14))) 0) ((14 : Int32) + v3).toNatClampNeg (a1 + (1 : Int32)))) 0 (upd ((va_up (va_up (va_up R6 0 (upd (R6 0) (8 : Int32).toNatClampNeg ((R6 0 (8 : Int32).toNatClampNeg) + v12))) 0 (upd ((va_up R6 0 (upd (R6 0) (8 : Int32).toNatClampNeg ((R6 0 (8 : Int32).toNatClampNeg) + v12))) 0) (9 : Int32).toNatClampNeg (((va_up R6 0 (upd (R6 0) (8 : Int32).toNatClampNeg ((R6 0 (8 : Int32).toNatClampNeg) + v12))) 0 (9 : Int32).toNatClampNeg) + v14))) 0 (upd ((va_up (va_up R6 0 (upd (R6 0) (8 : Int32).toNatClampNeg ((R6 0 (8 : Int32).toNatClampNeg) + v12))) 0 (upd ((va_up R6 0 (upd (R6 0) (8 : Int32).toNatClampNeg ((R6 0 (8 : Int32).toNatClampNeg) + v12))) 0) (9 : Int32).toNatClampNeg (((va_up R6 0 (upd (R6 0) (8 : Int32).toNatClampNeg ((R6 0 (8 : Int32).toNatClampNeg) + v12))) 0 (9 : Int32).toNatClampNeg) + v14))) 0) ((14 : Int32) + v3).toNatClampNeg (a1 + (1 : Int32)))) 0) ((74 : Int32) + v3).toNatClampNeg v18)) 0) ((134 : Int32) + v3).toNatClampNeg v21)) v3  _ h24) vq_X5_87 ⟨rfl, rfl⟩ ⟨Nat.le_of_ble_eq_true rfl, Nat.le_of_ble_eq_true rfl⟩ (rec_5 X hP) hP rfl hl.1 rfl (Nat.le_of_ble_eq_true rfl) dX5_start_177 ⟨Nat.le_of_ble_eq_true rfl, Nat.le_of_ble_eq_true rfl⟩) ?_
                obtain ⟨qt27, hm, hmt27⟩ := bnd hm
                have Jt27 : ∀ (v26 : Int32) , m5_start_J188 a1 v3 F5 R6 v12 v14 v18 v21 v26 = some (rr9, FF9, RR9) → ∀ (H : Heap) (locs : List Loc), va_P D vwCl (w5_s y A F5 (va_up (va_up (va_up (va_up (va_up R6 0 (upd (R6 0) (8 : Int32).toNatClampNeg ((R6 0 (8 : Int32).toNatClampNeg) + v12))) 0 (upd ((va_up R6 0 (upd (R6 0) (8 : Int32).toNatClampNeg ((R6 0 (8 : Int32).toNatClampNeg) + v12))) 0) (9 : Int32).toNatClampNeg (((va_up R6 0 (upd (R6 0) (8 : Int32).toNatClampNeg ((R6 0 (8 : Int32).toNatClampNeg) + v12))) 0 (9 : Int32).toNatClampNeg) + v14))) 0 (upd ((va_up (va_up R6 0 (upd (R6 0) (8 : Int32).toNatClampNeg ((R6 0 (8 : Int32).toNatClampNeg) + v12))) 0 (upd ((va_up R6 0 (upd (R6 0) (8 : Int32).toNatClampNeg ((R6 0 (8 : Int32).toNatClampNeg) + v12))) 0) (9 : Int32).toNatClampNeg (((va_up R6 0 (upd (R6 0) (8 : Int32).toNatClampNeg ((R6 0 (8 : Int32).toNatClampNeg) + v12))) 0 (9 : Int32).toNatClampNeg) + v14))) 0) ((14 : Int32) + v3).toNatClampNeg (a1 + (1 : Int32)))) 0 (upd ((va_up (va_up (va_up R6 0 (upd (R6 0) (8 : Int32).toNatClampNeg ((R6 0 (8 : Int32).toNatClampNeg) + v12))) 0 (upd ((va_up R6 0 (upd (R6 0) (8 : Int32).toNatClampNeg ((R6 0 (8 : Int32).toNatClampNeg) + v12))) 0) (9 : Int32).toNatClampNeg (((va_up R6 0 (upd (R6 0) (8 : Int32).toNatClampNeg ((R6 0 (8 : Int32).toNatClampNeg) + v12))) 0 (9 : Int32).toNatClampNeg) + v14))) 0 (upd ((va_up (va_up R6 0 (upd (R6 0) (8 : Int32).toNatClampNeg ((R6 0 (8 : Int32).toNatClampNeg) + v12))) 0 (upd ((va_up R6 0 (upd (R6 0) (8 : Int32).toNatClampNeg ((R6 0 (8 : Int32).toNatClampNeg) + v12))) 0) (9 : Int32).toNatClampNeg (((va_up R6 0 (upd (R6 0) (8 : Int32).toNatClampNeg ((R6 0 (8 : Int32).toNatClampNeg) + v12))) 0 (9 : Int32).toNatClampNeg) + v14))) 0) ((14 : Int32) + v3).toNatClampNeg (a1 + (1 : Int32)))) 0) ((74 : Int32) + v3).toNatClampNeg v18)) 0 (upd ((va_up (va_up (va_up (va_up R6 0 (upd (R6 0) (8 : Int32).toNatClampNeg ((R6 0 (8 : Int32).toNatClampNeg) + v12))) 0 (upd ((va_up R6 0 (upd (R6 0) (8 : Int32).toNatClampNeg ((R6 0 (8 : Int32).toNatClampNeg) + v12))) 0) (9 : Int32).toNatClampNeg (((va_up R6 0 (upd (R6 0) (8 : Int32).toNatClampNeg ((R6 0 (8 : Int32).toNatClampNeg) + v12))) 0 (9 : Int32).toNatClampNeg) + v14))) 0 (upd ((va_up (va_up R6 0 (upd (R6 0) (8 : Int32).toNatClampNeg ((R6 0 (8 : Int32).toNatClampNeg) + v12))) 0 (upd ((va_up R6 0 (upd (R6 0) (8 : Int32).toNatClampNeg ((R6 0 (8 : Int32).toNatClampNeg) + v12))) 0) (9 : Int32).toNatClampNeg (((va_up R6 0 (upd (R6 0) (8 : Int32).toNatClampNeg ((R6 0 (8 : Int32).toNatClampNeg) + v12))) 0 (9 : Int32).toNatClampNeg) + v14))) 0) ((14 : Int32) + v3).toNatClampNeg (a1 + (1 : Int32)))) 0 (upd ((va_up (va_up (va_up R6 0 (upd (R6 0) (8 : Int32).toNatClampNeg ((R6 0 (8 : Int32).toNatClampNeg) + v12))) 0 (upd ((va_up R6 0 (upd (R6 0) (8 : Int32).toNatClampNeg ((R6 0 (8 : Int32).toNatClampNeg) + v12))) 0) (9 : Int32).toNatClampNeg (((va_up R6 0 (upd (R6 0) (8 : Int32).toNatClampNeg ((R6 0 (8 : Int32).toNatClampNeg) + v12))) 0 (9 : Int32).toNatClampNeg) + v14))) 0 (upd ((va_up (va_up R6 0 (upd (R6 0) (8 : Int32).toNatClampNeg ((R6 0 (8 : Int32).toNatClampNeg) + v12))) 0 (upd ((va_up R6 0 (upd (R6 0) (8 : Int32).toNatClampNeg ((R6 0 (8 : Int32).toNatClampNeg) + v12))) 0) (9 : Int32).toNatClampNeg (((va_up R6 0 (upd (R6 0) (8 : Int32).toNatClampNeg ((R6 0 (8 : Int32).toNatClampNeg) + v12))) 0 (9 : Int32).toNatClampNeg) + v14))) 0) ((14 : Int32) + v3).toNatClampNeg (a1 + (1 : Int32)))) 0) ((74 : Int32) + v3).toNatClampNeg v18)) 0) ((134 : Int32) + v3).toNatClampNeg v21))) H → va_S (rg_s 7 A s.heap.size) s.heap H locs → ∀ ls, lv_has ls 5 [(2, .int v3)] → gw p l e rm_X5_start s m args below meth c (some (.int rr9)) (fun H => va_P D vwCl (w5_s y A FF9 RR9) H) (rg_s 7 A s.heap.size) 0 0 H locs (F0 m 188 ls [.int v26, .int ((va_up (va_up (va_up (va_up (va_up R6 0 (upd (R6 0) (8 : Int32).toNatClampNeg ((R6 0 (8 : Int32).toNatClampNeg) + v12))) 0 (upd ((va_up R6 0 (upd (R6 0) (8 : Int32).toNatClampNeg ((R6 0 (8 : Int32).toNatClampNeg) + v12))) 0) (9 : Int32).toNatClampNeg (((va_up R6 0 (upd (R6 0) (8 : Int32).toNatClampNeg ((R6 0 (8 : Int32).toNatClampNeg) + v12))) 0 (9 : Int32).toNatClampNeg) + v14))) 0 (upd ((va_up (va_up R6 0 (upd (R6 0) (8 : Int32).toNatClampNeg ((R6 0 (8 : Int32).toNatClampNeg) + v12))) 0 (upd ((va_up R6 0 (upd (R6 0) (8 : Int32).toNatClampNeg ((R6 0 (8 : Int32).toNatClampNeg) + v12))) 0) (9 : Int32).toNatClampNeg (((va_up R6 0 (upd (R6 0) (8 : Int32).toNatClampNeg ((R6 0 (8 : Int32).toNatClampNeg) + v12))) 0 (9 : Int32).toNatClampNeg) + v14))) 0) ((14 : Int32) + v3).toNatClampNeg (a1 + (1 : Int32)))) 0 (upd ((va_up (va_up (va_up R6 0 (upd (R6 0) (8 : Int32).toNatClampNeg ((R6 0 (8 : Int32).toNatClampNeg) + v12))) 0 (upd ((va_up R6 0 (upd (R6 0) (8 : Int32).toNatClampNeg ((R6 0 (8 : Int32).toNatClampNeg) + v12))) 0) (9 : Int32).toNatClampNeg (((va_up R6 0 (upd (R6 0) (8 : Int32).toNatClampNeg ((R6 0 (8 : Int32).toNatClampNeg) + v12))) 0 (9 : Int32).toNatClampNeg) + v14))) 0 (upd ((va_up (va_up R6 0 (upd (R6 0) (8 : Int32).toNatClampNeg ((R6 0 (8 : Int32).toNatClampNeg) + v12))) 0 (upd ((va_up R6 0 (upd (R6 0) (8 : Int32).toNatClampNeg ((R6 0 (8 : Int32).toNatClampNeg) + v12))) 0) (9 : Int32).toNatClampNeg (((va_up R6 0 (upd (R6 0) (8 : Int32).toNatClampNeg ((R6 0 (8 : Int32).toNatClampNeg) + v12))) 0 (9 : Int32).toNatClampNeg) + v14))) 0) ((14 : Int32) + v3).toNatClampNeg (a1 + (1 : Int32)))) 0) ((74 : Int32) + v3).toNatClampNeg v18)) 0 (upd ((va_up (va_up (va_up (va_up R6 0 (upd (R6 0) (8 : Int32).toNatClampNeg ((R6 0 (8 : Int32).toNatClampNeg) + v12))) 0 (upd ((va_up R6 0 (upd (R6 0) (8 : Int32).toNatClampNeg ((R6 0 (8 : Int32).toNatClampNeg) + v12))) 0) (9 : Int32).toNatClampNeg (((va_up R6 0 (upd (R6 0) (8 : Int32).toNatClampNeg ((R6 0 (8 : Int32).toNatClampNeg) + v12))) 0 (9 : Int32).toNatClampNeg) + v14))) 0 (upd ((va_up (va_up R6 0 (upd (R6 0) (8 : Int32).toNatClampNeg ((R6 0 (8 : Int32).toNatClampNeg) + v12))) 0 (upd ((va_up R6 0 (upd (R6 0) (8 : Int32).toNatClampNeg ((R6 0 (8 : Int32).toNatClampNeg) + v12))) 0) (9 : Int32).toNatClampNeg (((va_up R6 0 (upd (R6 0) (8 : Int32).toNatClampNeg ((R6 0 (8 : Int32).toNatClampNeg) + v12))) 0 (9 : Int32).toNatClampNeg) + v14))) 0) ((14 : Int32) + v3).toNatClampNeg (a1 + (1 : Int32)))) 0 (upd ((va_up (va_up (va_up R6 0 (upd (R6 0) (8 : Int32).toNatClampNeg ((R6 0 (8 : Int32).toNatClampNeg) + v12))) 0 (upd ((va_up R6 0 (upd (R6 0) (8 : Int32).toNatClampNeg ((R6 0 (8 : Int32).toNatClampNeg) + v12))) 0) (9 : Int32).toNatClampNeg (((va_up R6 0 (upd (R6 0) (8 : Int32).toNatClampNeg ((R6 0 (8 : Int32).toNatClampNeg) + v12))) 0 (9 : Int32).toNatClampNeg) + v14))) 0 (upd ((va_up (va_up R6 0 (upd (R6 0) (8 : Int32).toNatClampNeg ((R6 0 (8 : Int32).toNatClampNeg) + v12))) 0 (upd ((va_up R6 0 (upd (R6 0) (8 : Int32).toNatClampNeg ((R6 0 (8 : Int32).toNatClampNeg) + v12))) 0) (9 : Int32).toNatClampNeg (((va_up R6 0 (upd (R6 0) (8 : Int32).toNatClampNeg ((R6 0 (8 : Int32).toNatClampNeg) + v12))) 0 (9 : Int32).toNatClampNeg) + v14))) 0) ((14 : Int32) + v3).toNatClampNeg (a1 + (1 : Int32)))) 0) ((74 : Int32) + v3).toNatClampNeg v18)) 0) ((134 : Int32) + v3).toNatClampNeg v21)) 0 (12 : Int32).toNatClampNeg), .int (12 : Int32), .ref (A 1)]) := by
                  intro v26 hm H locs hP hS ls hl
                  unfold m5_start_J188 at hm
                  refine lv_iadd (cx_x X) (cx_b X) dX5_start_188 ?_
                  refine st_5_0 X hP hA hS (by decide) dX5_start_189 (fun H locs hP hS => ?_)
                  refine lv_iload_n (cx_x X) (cx_b X) dX5_start_190 rfl (lv_at hl 0 rfl) ?_
                  obtain ⟨rfl, rfl, rfl⟩ := oc_3 hm
                  exact gw_i X hS hP dX5_start_191
                refine lv_if_eq (tgt := 187) (cx_x X) (cx_b X) dX5_start_180 (by decide) (fun c28 => ?_) (fun c28 => ?_)
                · replace hm := if_T c28 hm
                  refine lv_iconst (v := (0 : Int32)) (cx_x X) (cx_b X) dX5_start_187 (by decide) ?_
                  exact Jt27 _ (by cases hm; exact hmt27) _ _ hP hS _ (lv_sub hl [1] rfl)
                · replace hm := if_F c28 hm
                  refine lv_iconst (v := (1 : Int32)) (cx_x X) (cx_b X) dX5_start_183 (by decide) ?_
                  refine lv_goto (tgt := 188) (cx_x X) (cx_b X) dX5_start_184 (by decide) ?_
                  exact Jt27 _ (by cases hm; exact hmt27) _ _ hP hS _ (lv_sub hl [1] rfl)
              refine lv_if_eq (tgt := 165) (cx_x X) (cx_b X) dX5_start_158 (by decide) (fun c29 => ?_) (fun c29 => ?_)
              · replace hm := if_T c29 hm
                refine lv_iconst (v := (0 : Int32)) (cx_x X) (cx_b X) dX5_start_165 (by decide) ?_
                exact Jt22 _ (by cases hm; exact hmt22) _ _ hP hS _ (lv_sub hl [0, 1] rfl)
              · replace hm := if_F c29 hm
                refine lv_iconst (v := (1 : Int32)) (cx_x X) (cx_b X) dX5_start_161 (by decide) ?_
                refine lv_goto (tgt := 166) (cx_x X) (cx_b X) dX5_start_162 (by decide) ?_
                exact Jt22 _ (by cases hm; exact hmt22) _ _ hP hS _ (lv_sub hl [0, 1] rfl)
            refine lv_icmp_ne (tgt := 143) (cx_x X) (cx_b X) dX5_start_136 (by decide) (fun c30 => ?_) (fun c30 => ?_)
            · replace hm := if_F c30 hm
              refine lv_iload_n (cx_x X) (cx_b X) dX5_start_143 rfl (lv_at hl 3 rfl) ?_
              refine lv_iconst (v := (1 : Int32)) (cx_x X) (cx_b X) dX5_start_144 (by decide) ?_
              refine lv_iadd (cx_x X) (cx_b X) dX5_start_145 ?_
              exact Jt19 _ (by cases hm; exact hmt19) _ _ hP hS _ (lv_sub hl [0, 2, 4] rfl)
            · replace hm := if_T c30 hm
              refine lv_iconst (v := (0 : Int32)) (cx_x X) (cx_b X) dX5_start_139 (by decide) ?_
              refine lv_goto (tgt := 146) (cx_x X) (cx_b X) dX5_start_140 (by decide) ?_
              exact Jt19 _ (by cases hm; exact hmt19) _ _ hP hS _ (lv_sub hl [0, 2, 4] rfl)
          · replace hm := if_T c16 hm
            refine lv_iload (cx_x X) (cx_b X) dX5_start_105 (lv_at hl 4 rfl) ?_
            refine lv_if_ne (tgt := 113) (cx_x X) (cx_b X) dX5_start_107 (by decide) (fun c31 => ?_) (fun c31 => ?_)
            · replace hm := if_F c31 hm
              refine lv_aload_n (cx_x X) (cx_b X) dX5_start_113 rfl (lv_at hl 0 rfl) ?_
              refine gf_X5_7 X hP dX5_start_114 ?_
              refine lv_bipush (v := (14 : Int32)) (cx_x X) (cx_b X) dX5_start_117 (by decide) ?_
              refine lv_iload_n (cx_x X) (cx_b X) dX5_start_119 rfl (lv_at hl 2 rfl) ?_
              refine lv_iadd (cx_x X) (cx_b X) dX5_start_120 ?_
              refine lv_iload_n (cx_x X) (cx_b X) dX5_start_121 rfl (lv_at hl 1 rfl) ?_
              refine lv_iconst (v := (1 : Int32)) (cx_x X) (cx_b X) dX5_start_122 (by decide) ?_
              refine lv_iadd (cx_x X) (cx_b X) dX5_start_123 ?_
              obtain ⟨h32, hm⟩ := ck_E hm
              refine st_5_0 X hP hA hS h32 dX5_start_124 (fun H locs hP hS => ?_)
              refine lv_aload_n (cx_x X) (cx_b X) dX5_start_125 rfl (lv_at hl 0 rfl) ?_
              refine gf_X5_7 X hP dX5_start_126 ?_
              refine lv_bipush (v := (74 : Int32)) (cx_x X) (cx_b X) dX5_start_129 (by decide) ?_
              refine lv_iload_n (cx_x X) (cx_b X) dX5_start_131 rfl (lv_at hl 2 rfl) ?_
              refine lv_iadd (cx_x X) (cx_b X) dX5_start_132 ?_
              refine lv_iload_n (cx_x X) (cx_b X) dX5_start_133 rfl (lv_at hl 3 rfl) ?_
              refine lv_bipush (v := (-9 : Int32)) (cx_x X) (cx_b X) dX5_start_134 (by decide) ?_
              obtain ⟨qt34, hm, hmt34⟩ := bnd hm
              have Jt34 : ∀ (v33 : Int32) , m5_start_J146_2 a1 v3 F5 R6 v10 v12 v14 v33 = some (rr9, FF9, RR9) → ∀ (H : Heap) (locs : List Loc), va_P D vwCl (w5_s y A F5 (va_up (va_up (va_up R6 0 (upd (R6 0) (8 : Int32).toNatClampNeg ((R6 0 (8 : Int32).toNatClampNeg) + v12))) 0 (upd ((va_up R6 0 (upd (R6 0) (8 : Int32).toNatClampNeg ((R6 0 (8 : Int32).toNatClampNeg) + v12))) 0) (9 : Int32).toNatClampNeg (((va_up R6 0 (upd (R6 0) (8 : Int32).toNatClampNeg ((R6 0 (8 : Int32).toNatClampNeg) + v12))) 0 (9 : Int32).toNatClampNeg) + v14))) 0 (upd ((va_up (va_up R6 0 (upd (R6 0) (8 : Int32).toNatClampNeg ((R6 0 (8 : Int32).toNatClampNeg) + v12))) 0 (upd ((va_up R6 0 (upd (R6 0) (8 : Int32).toNatClampNeg ((R6 0 (8 : Int32).toNatClampNeg) + v12))) 0) (9 : Int32).toNatClampNeg (((va_up R6 0 (upd (R6 0) (8 : Int32).toNatClampNeg ((R6 0 (8 : Int32).toNatClampNeg) + v12))) 0 (9 : Int32).toNatClampNeg) + v14))) 0) ((14 : Int32) + v3).toNatClampNeg (a1 + (1 : Int32))))) H → va_S (rg_s 7 A s.heap.size) s.heap H locs → ∀ ls, lv_has ls 5 [(0, .ref (A 0)), (2, .int v3), (4, .int v10)] → gw p l e rm_X5_start s m args below meth c (some (.int rr9)) (fun H => va_P D vwCl (w5_s y A FF9 RR9) H) (rg_s 7 A s.heap.size) 0 0 H locs (F0 m 146 ls [.int v33, .int ((74 : Int32) + v3), .ref (A 1)]) := by
                intro v33 hm H locs hP hS ls hl
                unfold m5_start_J146_2 at hm
                obtain ⟨h35, hm⟩ := ck_E hm
                refine st_5_0 X hP hA hS h35 dX5_start_146 (fun H locs hP hS => ?_)
                refine lv_aload_n (cx_x X) (cx_b X) dX5_start_147 rfl (lv_at hl 0 rfl) ?_
                refine gf_X5_7 X hP dX5_start_148 ?_
                refine lv_sipush (v := (134 : Int32)) (cx_x X) (cx_b X) dX5_start_151 (by decide) ?_
                refine lv_iload_n (cx_x X) (cx_b X) dX5_start_154 rfl (lv_at hl 1 rfl) ?_
                refine lv_iadd (cx_x X) (cx_b X) dX5_start_155 ?_
                refine lv_iload (cx_x X) (cx_b X) dX5_start_156 (lv_at hl 2 rfl) ?_
                obtain ⟨qt37, hm, hmt37⟩ := bnd hm
                have Jt37 : ∀ (v36 : Int32) , m5_start_J166_2 a1 v3 F5 R6 v12 v14 v33 v36 = some (rr9, FF9, RR9) → ∀ (H : Heap) (locs : List Loc), va_P D vwCl (w5_s y A F5 (va_up (va_up (va_up (va_up R6 0 (upd (R6 0) (8 : Int32).toNatClampNeg ((R6 0 (8 : Int32).toNatClampNeg) + v12))) 0 (upd ((va_up R6 0 (upd (R6 0) (8 : Int32).toNatClampNeg ((R6 0 (8 : Int32).toNatClampNeg) + v12))) 0) (9 : Int32).toNatClampNeg (((va_up R6 0 (upd (R6 0) (8 : Int32).toNatClampNeg ((R6 0 (8 : Int32).toNatClampNeg) + v12))) 0 (9 : Int32).toNatClampNeg) + v14))) 0 (upd ((va_up (va_up R6 0 (upd (R6 0) (8 : Int32).toNatClampNeg ((R6 0 (8 : Int32).toNatClampNeg) + v12))) 0 (upd ((va_up R6 0 (upd (R6 0) (8 : Int32).toNatClampNeg ((R6 0 (8 : Int32).toNatClampNeg) + v12))) 0) (9 : Int32).toNatClampNeg (((va_up R6 0 (upd (R6 0) (8 : Int32).toNatClampNeg ((R6 0 (8 : Int32).toNatClampNeg) + v12))) 0 (9 : Int32).toNatClampNeg) + v14))) 0) ((14 : Int32) + v3).toNatClampNeg (a1 + (1 : Int32)))) 0 (upd ((va_up (va_up (va_up R6 0 (upd (R6 0) (8 : Int32).toNatClampNeg ((R6 0 (8 : Int32).toNatClampNeg) + v12))) 0 (upd ((va_up R6 0 (upd (R6 0) (8 : Int32).toNatClampNeg ((R6 0 (8 : Int32).toNatClampNeg) + v12))) 0) (9 : Int32).toNatClampNeg (((va_up R6 0 (upd (R6 0) (8 : Int32).toNatClampNeg ((R6 0 (8 : Int32).toNatClampNeg) + v12))) 0 (9 : Int32).toNatClampNeg) + v14))) 0 (upd ((va_up (va_up R6 0 (upd (R6 0) (8 : Int32).toNatClampNeg ((R6 0 (8 : Int32).toNatClampNeg) + v12))) 0 (upd ((va_up R6 0 (upd (R6 0) (8 : Int32).toNatClampNeg ((R6 0 (8 : Int32).toNatClampNeg) + v12))) 0) (9 : Int32).toNatClampNeg (((va_up R6 0 (upd (R6 0) (8 : Int32).toNatClampNeg ((R6 0 (8 : Int32).toNatClampNeg) + v12))) 0 (9 : Int32).toNatClampNeg) + v14))) 0) ((14 : Int32) + v3).toNatClampNeg (a1 + (1 : Int32)))) 0) ((74 : Int32) + v3).toNatClampNeg v33))) H → va_S (rg_s 7 A s.heap.size) s.heap H locs → ∀ ls, lv_has ls 5 [(0, .ref (A 0)), (2, .int v3)] → gw p l e rm_X5_start s m args below meth c (some (.int rr9)) (fun H => va_P D vwCl (w5_s y A FF9 RR9) H) (rg_s 7 A s.heap.size) 0 0 H locs (F0 m 166 ls [.int v36, .int ((134 : Int32) + v3), .ref (A 1)]) := by
                  intro v36 hm H locs hP hS ls hl
                  unfold m5_start_J166_2 at hm
                  obtain ⟨h38, hm⟩ := ck_E hm
                  refine st_5_0 X hP hA hS h38 dX5_start_166 (fun H locs hP hS => ?_)
                  refine lv_aload_n (cx_x X) (cx_b X) dX5_start_167 rfl (lv_at hl 0 rfl) ?_
                  refine gf_X5_7 X hP dX5_start_168 ?_
                  refine lv_bipush (v := (12 : Int32)) (cx_x X) (cx_b X) dX5_start_171 (by decide) ?_
                  refine lv_dup2_11 (cx_x X) (cx_b X) dX5_start_173 rfl rfl ?_
                  refine ld_5_0 X hP (by decide) dX5_start_174 ?_
                  refine lv_aload_n (cx_x X) (cx_b X) dX5_start_175 rfl (lv_at hl 0 rfl) ?_
                  refine lv_iload_n (cx_x X) (cx_b X) dX5_start_176 rfl (lv_at hl 1 rfl) ?_
                  obtain ⟨v40, h39, hm⟩ := bnd hm
                  refine af_R (rn_V (As := [.int v3]) (rest := [.int ((va_up (va_up (va_up (va_up (va_up R6 0 (upd (R6 0) (8 : Int32).toNatClampNeg ((R6 0 (8 : Int32).toNatClampNeg) + v12))) 0 (upd ((va_up R6 0 (upd (R6 0) (8 : Int32).toNatClampNeg ((R6 0 (8 : Int32).toNatClampNeg) + v12))) 0) (9 : Int32).toNatClampNeg (((va_up R6 0 (upd (R6 0) (8 : Int32).toNatClampNeg ((R6 0 (8 : Int32).toNatClampNeg) + v12))) 0 (9 : Int32).toNatClampNeg) + v14))) 0 (upd ((va_up (va_up R6 0 (upd (R6 0) (8 : Int32).toNatClampNeg ((R6 0 (8 : Int32).toNatClampNeg) + v12))) 0 (upd ((va_up R6 0 (upd (R6 0) (8 : Int32).toNatClampNeg ((R6 0 (8 : Int32).toNatClampNeg) + v12))) 0) (9 : Int32).toNatClampNeg (((va_up R6 0 (upd (R6 0) (8 : Int32).toNatClampNeg ((R6 0 (8 : Int32).toNatClampNeg) + v12))) 0 (9 : Int32).toNatClampNeg) + v14))) 0) ((14 : Int32) + v3).toNatClampNeg (a1 + (1 : Int32)))) 0 (upd ((va_up (va_up (va_up R6 0 (upd (R6 0) (8 : Int32).toNatClampNeg ((R6 0 (8 : Int32).toNatClampNeg) + v12))) 0 (upd ((va_up R6 0 (upd (R6 0) (8 : Int32).toNatClampNeg ((R6 0 (8 : Int32).toNatClampNeg) + v12))) 0) (9 : Int32).toNatClampNeg (((va_up R6 0 (upd (R6 0) (8 : Int32).toNatClampNeg ((R6 0 (8 : Int32).toNatClampNeg) + v12))) 0 (9 : Int32).toNatClampNeg) + v14))) 0 (upd ((va_up (va_up R6 0 (upd (R6 0) (8 : Int32).toNatClampNeg ((R6 0 (8 : Int32).toNatClampNeg) + v12))) 0 (upd ((va_up R6 0 (upd (R6 0) (8 : Int32).toNatClampNeg ((R6 0 (8 : Int32).toNatClampNeg) + v12))) 0) (9 : Int32).toNatClampNeg (((va_up R6 0 (upd (R6 0) (8 : Int32).toNatClampNeg ((R6 0 (8 : Int32).toNatClampNeg) + v12))) 0 (9 : Int32).toNatClampNeg) + v14))) 0) ((14 : Int32) + v3).toNatClampNeg (a1 + (1 : Int32)))) 0) ((74 : Int32) + v3).toNatClampNeg v33)) 0 (upd ((va_up (va_up (va_up (va_up R6 0 (upd (R6 0) (8 : Int32).toNatClampNeg ((R6 0 (8 : Int32).toNatClampNeg) + v12))) 0 (upd ((va_up R6 0 (upd (R6 0) (8 : Int32).toNatClampNeg ((R6 0 (8 : Int32).toNatClampNeg) + v12))) 0) (9 : Int32).toNatClampNeg (((va_up R6 0 (upd (R6 0) (8 : Int32).toNatClampNeg ((R6 0 (8 : Int32).toNatClampNeg) + v12))) 0 (9 : Int32).toNatClampNeg) + v14))) 0 (upd ((va_up (va_up R6 0 (upd (R6 0) (8 : Int32).toNatClampNeg ((R6 0 (8 : Int32).toNatClampNeg) + v12))) 0 (upd ((va_up R6 0 (upd (R6 0) (8 : Int32).toNatClampNeg ((R6 0 (8 : Int32).toNatClampNeg) + v12))) 0) (9 : Int32).toNatClampNeg (((va_up R6 0 (upd (R6 0) (8 : Int32).toNatClampNeg ((R6 0 (8 : Int32).toNatClampNeg) + v12))) 0 (9 : Int32).toNatClampNeg) + v14))) 0) ((14 : Int32) + v3).toNatClampNeg (a1 + (1 : Int32)))) 0 (upd ((va_up (va_up (va_up R6 0 (upd (R6 0) (8 : Int32).toNatClampNeg ((R6 0 (8 : Int32).toNatClampNeg) + v12))) 0 (upd ((va_up R6 0 (upd (R6 0) (8 : Int32).toNatClampNeg ((R6 0 (8 : Int32).toNatClampNeg) + v12))) 0) (9 : Int32).toNatClampNeg (((va_up R6 0 (upd (R6 0) (8 : Int32).toNatClampNeg ((R6 0 (8 : Int32).toNatClampNeg) + v12))) 0 (9 : Int32).toNatClampNeg) + v14))) 0 (upd ((va_up (va_up R6 0 (upd (R6 0) (8 : Int32).toNatClampNeg ((R6 0 (8 : Int32).toNatClampNeg) + v12))) 0 (upd ((va_up R6 0 (upd (R6 0) (8 : Int32).toNatClampNeg ((R6 0 (8 : Int32).toNatClampNeg) + v12))) 0) (9 : Int32).toNatClampNeg (((va_up R6 0 (upd (R6 0) (8 : Int32).toNatClampNeg ((R6 0 (8 : Int32).toNatClampNeg) + v12))) 0 (9 : Int32).toNatClampNeg) + v14))) 0) ((14 : Int32) + v3).toNatClampNeg (a1 + (1 : Int32)))) 0) ((74 : Int32) + v3).toNatClampNeg v33)) 0) ((134 : Int32) + v3).toNatClampNeg v36)) 0 (12 : Int32).toNatClampNeg), .int (12 : Int32), .ref (A 1)]) X (c_X5_borrowed l D y A F5 (va_up (va_up (va_up (va_up (va_up R6 0 (upd (R6 0) (8 : Int32).toNatClampNeg ((R6 0 (8 : Int32).toNatClampNeg) + v12))) 0 (upd ((va_up R6 0 (upd (R6 0) (8 : Int32).toNatClampNeg ((R6 0 (8 : Int32).toNatClampNeg) + v12))) 0) (9 : Int32).toNatClampNeg (((va_up R6 0 (upd (R6 0) (8 : Int32).toNatClampNeg ((R6 0 (8 : Int32).toNatClampNeg) + v12))) 0 (9 : Int32).toNatClampNeg) + v14))) 0 (upd ((va_up (va_up R6 0 (upd (R6 0) (8 : Int32).toNatClampNeg ((R6 0 (8 : Int32).toNatClampNeg) + v12))) 0 (upd ((va_up R6 0 (upd (R6 0) (8 : Int32).toNatClampNeg ((R6 0 (8 : Int32).toNatClampNeg) + v12))) 0) (9 : Int32).toNatClampNeg (((va_up R6 0 (upd (R6 0) (8 : Int32).toNatClampNeg ((R6 0 (8 : Int32).toNatClampNeg) + v12))) 0 (9 : Int32).toNatClampNeg) + v14))) 0) ((14 : Int32) + v3).toNatClampNeg (a1 + (1 : Int32)))) 0 (upd ((va_up (va_up (va_up R6 0 (upd (R6 0) (8 : Int32).toNatClampNeg ((R6 0 (8 : Int32).toNatClampNeg) + v12))) 0 (upd ((va_up R6 0 (upd (R6 0) (8 : Int32).toNatClampNeg ((R6 0 (8 : Int32).toNatClampNeg) + v12))) 0) (9 : Int32).toNatClampNeg (((va_up R6 0 (upd (R6 0) (8 : Int32).toNatClampNeg ((R6 0 (8 : Int32).toNatClampNeg) + v12))) 0 (9 : Int32).toNatClampNeg) + v14))) 0 (upd ((va_up (va_up R6 0 (upd (R6 0) (8 : Int32).toNatClampNeg ((R6 0 (8 : Int32).toNatClampNeg) + v12))) 0 (upd ((va_up R6 0 (upd (R6 0) (8 : Int32).toNatClampNeg ((R6 0 (8 : Int32).toNatClampNeg) + v12))) 0) (9 : Int32).toNatClampNeg (((va_up R6 0 (upd (R6 0) (8 : Int32).toNatClampNeg ((R6 0 (8 : Int32).toNatClampNeg) + v12))) 0 (9 : Int32).toNatClampNeg) + v14))) 0) ((14 : Int32) + v3).toNatClampNeg (a1 + (1 : Int32)))) 0) ((74 : Int32) + v3).toNatClampNeg v33)) 0 (upd ((va_up (va_up (va_up (va_up R6 0 (upd (R6 0) (8 : Int32).toNatClampNeg ((R6 0 (8 : Int32).toNatClampNeg) + v12))) 0 (upd ((va_up R6 0 (upd (R6 0) (8 : Int32).toNatClampNeg ((R6 0 (8 : Int32).toNatClampNeg) + v12))) 0) (9 : Int32).toNatClampNeg (((va_up R6 0 (upd (R6 0) (8 : Int32).toNatClampNeg ((R6 0 (8 : Int32).toNatClampNeg) + v12))) 0 (9 : Int32).toNatClampNeg) + v14))) 0 (upd ((va_up (va_up R6 0 (upd (R6 0) (8 : Int32).toNatClampNeg ((R6 0 (8 : Int32).toNatClampNeg) + v12))) 0 (upd ((va_up R6 0 (upd (R6 0) (8 : Int32).toNatClampNeg ((R6 0 (8 : Int32).toNatClampNeg) + v12))) 0) (9 : Int32).toNatClampNeg (((va_up R6 0 (upd (R6 0) (8 : Int32).toNatClampNeg ((R6 0 (8 : Int32).toNatClampNeg) + v12))) 0 (9 : Int32).toNatClampNeg) + v14))) 0) ((14 : Int32) + v3).toNatClampNeg (a1 + (1 : Int32)))) 0 (upd ((va_up (va_up (va_up R6 0 (upd (R6 0) (8 : Int32).toNatClampNeg ((R6 0 (8 : Int32).toNatClampNeg) + v12))) 0 (upd ((va_up R6 0 (upd (R6 0) (8 : Int32).toNatClampNeg ((R6 0 (8 : Int32).toNatClampNeg) + v12))) 0) (9 : Int32).toNatClampNeg (((va_up R6 0 (upd (R6 0) (8 : Int32).toNatClampNeg ((R6 0 (8 : Int32).toNatClampNeg) + v12))) 0 (9 : Int32).toNatClampNeg) + v14))) 0 (upd ((va_up (va_up R6 0 (upd (R6 0) (8 : Int32).toNatClampNeg ((R6 0 (8 : Int32).toNatClampNeg) + v12))) 0 (upd ((va_up R6 0 (upd (R6 0) (8 : Int32).toNatClampNeg ((R6 0 (8 : Int32).toNatClampNeg) + v12))) 0) (9 : Int32).toNatClampNeg (((va_up R6 0 (upd (R6 0) (8 : Int32).toNatClampNeg ((R6 0 (8 : Int32).toNatClampNeg) + v12))) 0 (9 : Int32).toNatClampNeg) + v14))) 0) ((14 : Int32) + v3).toNatClampNeg (a1 + (1 : Int32)))) 0) ((74 : Int32) + v3).toNatClampNeg v33)) 0) ((134 : Int32) + v3).toNatClampNeg v36)) v3  _ h39) vq_X5_87 ⟨rfl, rfl⟩ ⟨Nat.le_of_ble_eq_true rfl, Nat.le_of_ble_eq_true rfl⟩ (rec_5 X hP) hP rfl hl.1 rfl (Nat.le_of_ble_eq_true rfl) dX5_start_177 ⟨Nat.le_of_ble_eq_true rfl, Nat.le_of_ble_eq_true rfl⟩) ?_
                  obtain ⟨qt42, hm, hmt42⟩ := bnd hm
                  have Jt42 : ∀ (v41 : Int32) , m5_start_J188_2 a1 v3 F5 R6 v12 v14 v33 v36 v41 = some (rr9, FF9, RR9) → ∀ (H : Heap) (locs : List Loc), va_P D vwCl (w5_s y A F5 (va_up (va_up (va_up (va_up (va_up R6 0 (upd (R6 0) (8 : Int32).toNatClampNeg ((R6 0 (8 : Int32).toNatClampNeg) + v12))) 0 (upd ((va_up R6 0 (upd (R6 0) (8 : Int32).toNatClampNeg ((R6 0 (8 : Int32).toNatClampNeg) + v12))) 0) (9 : Int32).toNatClampNeg (((va_up R6 0 (upd (R6 0) (8 : Int32).toNatClampNeg ((R6 0 (8 : Int32).toNatClampNeg) + v12))) 0 (9 : Int32).toNatClampNeg) + v14))) 0 (upd ((va_up (va_up R6 0 (upd (R6 0) (8 : Int32).toNatClampNeg ((R6 0 (8 : Int32).toNatClampNeg) + v12))) 0 (upd ((va_up R6 0 (upd (R6 0) (8 : Int32).toNatClampNeg ((R6 0 (8 : Int32).toNatClampNeg) + v12))) 0) (9 : Int32).toNatClampNeg (((va_up R6 0 (upd (R6 0) (8 : Int32).toNatClampNeg ((R6 0 (8 : Int32).toNatClampNeg) + v12))) 0 (9 : Int32).toNatClampNeg) + v14))) 0) ((14 : Int32) + v3).toNatClampNeg (a1 + (1 : Int32)))) 0 (upd ((va_up (va_up (va_up R6 0 (upd (R6 0) (8 : Int32).toNatClampNeg ((R6 0 (8 : Int32).toNatClampNeg) + v12))) 0 (upd ((va_up R6 0 (upd (R6 0) (8 : Int32).toNatClampNeg ((R6 0 (8 : Int32).toNatClampNeg) + v12))) 0) (9 : Int32).toNatClampNeg (((va_up R6 0 (upd (R6 0) (8 : Int32).toNatClampNeg ((R6 0 (8 : Int32).toNatClampNeg) + v12))) 0 (9 : Int32).toNatClampNeg) + v14))) 0 (upd ((va_up (va_up R6 0 (upd (R6 0) (8 : Int32).toNatClampNeg ((R6 0 (8 : Int32).toNatClampNeg) + v12))) 0 (upd ((va_up R6 0 (upd (R6 0) (8 : Int32).toNatClampNeg ((R6 0 (8 : Int32).toNatClampNeg) + v12))) 0) (9 : Int32).toNatClampNeg (((va_up R6 0 (upd (R6 0) (8 : Int32).toNatClampNeg ((R6 0 (8 : Int32).toNatClampNeg) + v12))) 0 (9 : Int32).toNatClampNeg) + v14))) 0) ((14 : Int32) + v3).toNatClampNeg (a1 + (1 : Int32)))) 0) ((74 : Int32) + v3).toNatClampNeg v33)) 0 (upd ((va_up (va_up (va_up (va_up R6 0 (upd (R6 0) (8 : Int32).toNatClampNeg ((R6 0 (8 : Int32).toNatClampNeg) + v12))) 0 (upd ((va_up R6 0 (upd (R6 0) (8 : Int32).toNatClampNeg ((R6 0 (8 : Int32).toNatClampNeg) + v12))) 0) (9 : Int32).toNatClampNeg (((va_up R6 0 (upd (R6 0) (8 : Int32).toNatClampNeg ((R6 0 (8 : Int32).toNatClampNeg) + v12))) 0 (9 : Int32).toNatClampNeg) + v14))) 0 (upd ((va_up (va_up R6 0 (upd (R6 0) (8 : Int32).toNatClampNeg ((R6 0 (8 : Int32).toNatClampNeg) + v12))) 0 (upd ((va_up R6 0 (upd (R6 0) (8 : Int32).toNatClampNeg ((R6 0 (8 : Int32).toNatClampNeg) + v12))) 0) (9 : Int32).toNatClampNeg (((va_up R6 0 (upd (R6 0) (8 : Int32).toNatClampNeg ((R6 0 (8 : Int32).toNatClampNeg) + v12))) 0 (9 : Int32).toNatClampNeg) + v14))) 0) ((14 : Int32) + v3).toNatClampNeg (a1 + (1 : Int32)))) 0 (upd ((va_up (va_up (va_up R6 0 (upd (R6 0) (8 : Int32).toNatClampNeg ((R6 0 (8 : Int32).toNatClampNeg) + v12))) 0 (upd ((va_up R6 0 (upd (R6 0) (8 : Int32).toNatClampNeg ((R6 0 (8 : Int32).toNatClampNeg) + v12))) 0) (9 : Int32).toNatClampNeg (((va_up R6 0 (upd (R6 0) (8 : Int32).toNatClampNeg ((R6 0 (8 : Int32).toNatClampNeg) + v12))) 0 (9 : Int32).toNatClampNeg) + v14))) 0 (upd ((va_up (va_up R6 0 (upd (R6 0) (8 : Int32).toNatClampNeg ((R6 0 (8 : Int32).toNatClampNeg) + v12))) 0 (upd ((va_up R6 0 (upd (R6 0) (8 : Int32).toNatClampNeg ((R6 0 (8 : Int32).toNatClampNeg) + v12))) 0) (9 : Int32).toNatClampNeg (((va_up R6 0 (upd (R6 0) (8 : Int32).toNatClampNeg ((R6 0 (8 : Int32).toNatClampNeg) + v12))) 0 (9 : Int32).toNatClampNeg) + v14))) 0) ((14 : Int32) + v3).toNatClampNeg (a1 + (1 : Int32)))) 0) ((74 : Int32) + v3).toNatClampNeg v33)) 0) ((134 : Int32) + v3).toNatClampNeg v36))) H → va_S (rg_s 7 A s.heap.size) s.heap H locs → ∀ ls, lv_has ls 5 [(2, .int v3)] → gw p l e rm_X5_start s m args below meth c (some (.int rr9)) (fun H => va_P D vwCl (w5_s y A FF9 RR9) H) (rg_s 7 A s.heap.size) 0 0 H locs (F0 m 188 ls [.int v41, .int ((va_up (va_up (va_up (va_up (va_up R6 0 (upd (R6 0) (8 : Int32).toNatClampNeg ((R6 0 (8 : Int32).toNatClampNeg) + v12))) 0 (upd ((va_up R6 0 (upd (R6 0) (8 : Int32).toNatClampNeg ((R6 0 (8 : Int32).toNatClampNeg) + v12))) 0) (9 : Int32).toNatClampNeg (((va_up R6 0 (upd (R6 0) (8 : Int32).toNatClampNeg ((R6 0 (8 : Int32).toNatClampNeg) + v12))) 0 (9 : Int32).toNatClampNeg) + v14))) 0 (upd ((va_up (va_up R6 0 (upd (R6 0) (8 : Int32).toNatClampNeg ((R6 0 (8 : Int32).toNatClampNeg) + v12))) 0 (upd ((va_up R6 0 (upd (R6 0) (8 : Int32).toNatClampNeg ((R6 0 (8 : Int32).toNatClampNeg) + v12))) 0) (9 : Int32).toNatClampNeg (((va_up R6 0 (upd (R6 0) (8 : Int32).toNatClampNeg ((R6 0 (8 : Int32).toNatClampNeg) + v12))) 0 (9 : Int32).toNatClampNeg) + v14))) 0) ((14 : Int32) + v3).toNatClampNeg (a1 + (1 : Int32)))) 0 (upd ((va_up (va_up (va_up R6 0 (upd (R6 0) (8 : Int32).toNatClampNeg ((R6 0 (8 : Int32).toNatClampNeg) + v12))) 0 (upd ((va_up R6 0 (upd (R6 0) (8 : Int32).toNatClampNeg ((R6 0 (8 : Int32).toNatClampNeg) + v12))) 0) (9 : Int32).toNatClampNeg (((va_up R6 0 (upd (R6 0) (8 : Int32).toNatClampNeg ((R6 0 (8 : Int32).toNatClampNeg) + v12))) 0 (9 : Int32).toNatClampNeg) + v14))) 0 (upd ((va_up (va_up R6 0 (upd (R6 0) (8 : Int32).toNatClampNeg ((R6 0 (8 : Int32).toNatClampNeg) + v12))) 0 (upd ((va_up R6 0 (upd (R6 0) (8 : Int32).toNatClampNeg ((R6 0 (8 : Int32).toNatClampNeg) + v12))) 0) (9 : Int32).toNatClampNeg (((va_up R6 0 (upd (R6 0) (8 : Int32).toNatClampNeg ((R6 0 (8 : Int32).toNatClampNeg) + v12))) 0 (9 : Int32).toNatClampNeg) + v14))) 0) ((14 : Int32) + v3).toNatClampNeg (a1 + (1 : Int32)))) 0) ((74 : Int32) + v3).toNatClampNeg v33)) 0 (upd ((va_up (va_up (va_up (va_up R6 0 (upd (R6 0) (8 : Int32).toNatClampNeg ((R6 0 (8 : Int32).toNatClampNeg) + v12))) 0 (upd ((va_up R6 0 (upd (R6 0) (8 : Int32).toNatClampNeg ((R6 0 (8 : Int32).toNatClampNeg) + v12))) 0) (9 : Int32).toNatClampNeg (((va_up R6 0 (upd (R6 0) (8 : Int32).toNatClampNeg ((R6 0 (8 : Int32).toNatClampNeg) + v12))) 0 (9 : Int32).toNatClampNeg) + v14))) 0 (upd ((va_up (va_up R6 0 (upd (R6 0) (8 : Int32).toNatClampNeg ((R6 0 (8 : Int32).toNatClampNeg) + v12))) 0 (upd ((va_up R6 0 (upd (R6 0) (8 : Int32).toNatClampNeg ((R6 0 (8 : Int32).toNatClampNeg) + v12))) 0) (9 : Int32).toNatClampNeg (((va_up R6 0 (upd (R6 0) (8 : Int32).toNatClampNeg ((R6 0 (8 : Int32).toNatClampNeg) + v12))) 0 (9 : Int32).toNatClampNeg) + v14))) 0) ((14 : Int32) + v3).toNatClampNeg (a1 + (1 : Int32)))) 0 (upd ((va_up (va_up (va_up R6 0 (upd (R6 0) (8 : Int32).toNatClampNeg ((R6 0 (8 : Int32).toNatClampNeg) + v12))) 0 (upd ((va_up R6 0 (upd (R6 0) (8 : Int32).toNatClampNeg ((R6 0 (8 : Int32).toNatClampNeg) + v12))) 0) (9 : Int32).toNatClampNeg (((va_up R6 0 (upd (R6 0) (8 : Int32).toNatClampNeg ((R6 0 (8 : Int32).toNatClampNeg) + v12))) 0 (9 : Int32).toNatClampNeg) + v14))) 0 (upd ((va_up (va_up R6 0 (upd (R6 0) (8 : Int32).toNatClampNeg ((R6 0 (8 : Int32).toNatClampNeg) + v12))) 0 (upd ((va_up R6 0 (upd (R6 0) (8 : Int32).toNatClampNeg ((R6 0 (8 : Int32).toNatClampNeg) + v12))) 0) (9 : Int32).toNatClampNeg (((va_up R6 0 (upd (R6 0) (8 : Int32).toNatClampNeg ((R6 0 (8 : Int32).toNatClampNeg) + v12))) 0 (9 : Int32).toNatClampNeg) + v14))) 0) ((14 : Int32) + v3).toNatClampNeg (a1 + (1 : Int32)))) 0) ((74 : Int32) + v3).toNatClampNeg v33)) 0) ((134 : Int32) + v3).toNatClampNeg v36)) 0 (12 : Int32).toNatClampNeg), .int (12 : Int32), .ref (A 1)]) := by
                    intro v41 hm H locs hP hS ls hl
                    unfold m5_start_J188_2 at hm
                    refine lv_iadd (cx_x X) (cx_b X) dX5_start_188 ?_
                    refine st_5_0 X hP hA hS (by decide) dX5_start_189 (fun H locs hP hS => ?_)
                    refine lv_iload_n (cx_x X) (cx_b X) dX5_start_190 rfl (lv_at hl 0 rfl) ?_
                    obtain ⟨rfl, rfl, rfl⟩ := oc_3 hm
                    exact gw_i X hS hP dX5_start_191
                  refine lv_if_eq (tgt := 187) (cx_x X) (cx_b X) dX5_start_180 (by decide) (fun c43 => ?_) (fun c43 => ?_)
                  · replace hm := if_T c43 hm
                    refine lv_iconst (v := (0 : Int32)) (cx_x X) (cx_b X) dX5_start_187 (by decide) ?_
                    exact Jt42 _ (by cases hm; exact hmt42) _ _ hP hS _ (lv_sub hl [1] rfl)
                  · replace hm := if_F c43 hm
                    refine lv_iconst (v := (1 : Int32)) (cx_x X) (cx_b X) dX5_start_183 (by decide) ?_
                    refine lv_goto (tgt := 188) (cx_x X) (cx_b X) dX5_start_184 (by decide) ?_
                    exact Jt42 _ (by cases hm; exact hmt42) _ _ hP hS _ (lv_sub hl [1] rfl)
                refine lv_if_eq (tgt := 165) (cx_x X) (cx_b X) dX5_start_158 (by decide) (fun c44 => ?_) (fun c44 => ?_)
                · replace hm := if_T c44 hm
                  refine lv_iconst (v := (0 : Int32)) (cx_x X) (cx_b X) dX5_start_165 (by decide) ?_
                  exact Jt37 _ (by cases hm; exact hmt37) _ _ hP hS _ (lv_sub hl [0, 1] rfl)
                · replace hm := if_F c44 hm
                  refine lv_iconst (v := (1 : Int32)) (cx_x X) (cx_b X) dX5_start_161 (by decide) ?_
                  refine lv_goto (tgt := 166) (cx_x X) (cx_b X) dX5_start_162 (by decide) ?_
                  exact Jt37 _ (by cases hm; exact hmt37) _ _ hP hS _ (lv_sub hl [0, 1] rfl)
              refine lv_icmp_ne (tgt := 143) (cx_x X) (cx_b X) dX5_start_136 (by decide) (fun c45 => ?_) (fun c45 => ?_)
              · replace hm := if_F c45 hm
                refine lv_iload_n (cx_x X) (cx_b X) dX5_start_143 rfl (lv_at hl 3 rfl) ?_
                refine lv_iconst (v := (1 : Int32)) (cx_x X) (cx_b X) dX5_start_144 (by decide) ?_
                refine lv_iadd (cx_x X) (cx_b X) dX5_start_145 ?_
                exact Jt34 _ (by cases hm; exact hmt34) _ _ hP hS _ (lv_sub hl [0, 2, 4] rfl)
              · replace hm := if_T c45 hm
                refine lv_iconst (v := (0 : Int32)) (cx_x X) (cx_b X) dX5_start_139 (by decide) ?_
                refine lv_goto (tgt := 146) (cx_x X) (cx_b X) dX5_start_140 (by decide) ?_
                exact Jt34 _ (by cases hm; exact hmt34) _ _ hP hS _ (lv_sub hl [0, 2, 4] rfl)
            · replace hm := if_T c31 hm
              refine lv_bipush (v := (-9 : Int32)) (cx_x X) (cx_b X) dX5_start_110 (by decide) ?_
              obtain ⟨rfl, rfl, rfl⟩ := oc_3 hm
              exact gw_i X hS hP dX5_start_112
        refine lv_if_eq (tgt := 96) (cx_x X) (cx_b X) dX5_start_89 (by decide) (fun c46 => ?_) (fun c46 => ?_)
        · replace hm := if_T c46 hm
          refine lv_iconst (v := (1 : Int32)) (cx_x X) (cx_b X) dX5_start_96 (by decide) ?_
          exact Jt15 _ (by cases hm; exact hmt15) _ _ hP hS _ (lv_sub hl [0, 1, 2, 3, 4] rfl)
        · replace hm := if_F c46 hm
          refine lv_iconst (v := (0 : Int32)) (cx_x X) (cx_b X) dX5_start_92 (by decide) ?_
          refine lv_goto (tgt := 97) (cx_x X) (cx_b X) dX5_start_93 (by decide) ?_
          exact Jt15 _ (by cases hm; exact hmt15) _ _ hP hS _ (lv_sub hl [0, 1, 2, 3, 4] rfl)
      refine lv_icmp_ne (tgt := 76) (cx_x X) (cx_b X) dX5_start_69 (by decide) (fun c47 => ?_) (fun c47 => ?_)
      · replace hm := if_F c47 hm
        refine lv_iconst (v := (0 : Int32)) (cx_x X) (cx_b X) dX5_start_76 (by decide) ?_
        exact Jt13 _ (by cases hm; exact hmt13) _ _ hP hS _ (lv_sub hl [1, 2, 3, 4, 0] rfl)
      · replace hm := if_T c47 hm
        refine lv_iconst (v := (1 : Int32)) (cx_x X) (cx_b X) dX5_start_72 (by decide) ?_
        refine lv_goto (tgt := 77) (cx_x X) (cx_b X) dX5_start_73 (by decide) ?_
        exact Jt13 _ (by cases hm; exact hmt13) _ _ hP hS _ (lv_sub hl [1, 2, 3, 4, 0] rfl)
    refine lv_icmp_ge (tgt := 55) (cx_x X) (cx_b X) dX5_start_48 (by decide) (fun c48 => ?_) (fun c48 => ?_)
    · replace hm := if_T c48 hm
      refine lv_iconst (v := (0 : Int32)) (cx_x X) (cx_b X) dX5_start_55 (by decide) ?_
      exact Jt11 _ (by cases hm; exact hmt11) _ _ hP hS _ (lv_sub hl [1, 2, 3, 0] rfl)
    · replace hm := if_F c48 hm
      refine lv_iconst (v := (1 : Int32)) (cx_x X) (cx_b X) dX5_start_51 (by decide) ?_
      refine lv_goto (tgt := 56) (cx_x X) (cx_b X) dX5_start_52 (by decide) ?_
      exact Jt11 _ (by cases hm; exact hmt11) _ _ hP hS _ (lv_sub hl [1, 2, 3, 0] rfl)
  have Lt1 : ∀ (n : Nat) (v2 : Int32) , wh (m5_start_L13 R) n v2 = some qt1 → ∀ (H : Heap) (locs : List Loc), va_P D vwCl (w5_s y A F (va_up R 0 (upd (R 0) (7 : Int32).toNatClampNeg ((R 0 (7 : Int32).toNatClampNeg) + (1 : Int32))))) H → va_S (rg_s 7 A s.heap.size) s.heap H locs → ∀ ls, lv_has ls 5 [(0, .ref (A 0)), (1, .int a1), (2, .int v2)] → gw p l e rm_X5_start s m args below meth c (some (.int rr9)) (fun H => va_P D vwCl (w5_s y A FF9 RR9) H) (rg_s 7 A s.heap.size) 0 0 H locs (F0 m 13 ls []) := by
    intro n
    induction n with
    | zero => intro v2 hm; cases hm
    | succ n ih =>
      intro v2 hm H locs hP hS ls hl
      replace hm : (m5_start_L13 R) (wh (m5_start_L13 R) n) v2 = some qt1 := hm
      dsimp only [m5_start_L13] at hm
      refine lv_aload_n (cx_x X) (cx_b X) dX5_start_13 rfl (lv_at hl 0 rfl) ?_
      refine gf_X5_7 X hP dX5_start_14 ?_
      refine lv_bipush (v := (14 : Int32)) (cx_x X) (cx_b X) dX5_start_17 (by decide) ?_
      refine lv_iload_n (cx_x X) (cx_b X) dX5_start_19 rfl (lv_at hl 2 rfl) ?_
      refine lv_iadd (cx_x X) (cx_b X) dX5_start_20 ?_
      obtain ⟨h49, hm⟩ := ck_E hm
      refine ld_5_0 X hP h49 dX5_start_21 ?_
      refine lv_if_le (tgt := 31) (cx_x X) (cx_b X) dX5_start_22 (by decide) (fun c50 => ?_) (fun c50 => ?_)
      · replace hm := if_T c50 hm
        exact Xt1 _ (by cases hm; exact hmt1) _ _ hP hS _ (lv_sub hl [0, 1, 2] rfl)
      · replace hm := if_F c50 hm
        refine lv_iinc (v := (v2 + (1 : Int32))) (lv' := [(2, .int (v2 + (1 : Int32))), (0, .ref (A 0)), (1, .int a1)]) (cx_x X) (cx_b X) dX5_start_25 hl (k := 2) rfl (by rfl) (by decide) rfl (fun ls hl => ?_)
        refine lv_goto (tgt := 13) (cx_x X) (cx_b X) dX5_start_28 (by decide) ?_
        exact ih _ hm _ _ hP hS _ (lv_sub hl [1, 2, 0] rfl)
  exact Lt1 _ _ hm _ _ hP hS _ (lv_sub hl [1, 2, 0] rfl)
/-! X5_end -/
def m5_end_J25 (F7 : (Nat → Int32)) (R8 : (Nat → Nat → Int32)) (v10 : Int32) : Option (Int32 × (Nat → Int32) × (Nat → Nat → Int32)) :=
  some (v10, F7, R8)
def m5_end (F : (Nat → Int32)) (R : (Nat → Nat → Int32)) (a1 : Int32) : Option (Int32 × (Nat → Int32) × (Nat → Nat → Int32)) :=
  (m5_channelNow F R a1).bind fun v2 =>
  (m5_forget F R a1).bind fun ⟨F4, R5⟩ =>
  (m5_pass F4 R5).bind fun ⟨v9, F7, R8⟩ =>
  (if 0 ≤ v9 then
  some v2
  else
  some v9).bind fun v10 => m5_end_J25 F7 R8 v10
abbrev rm_X5_end : Room := { frames := 6, cells := 0, slots := 0, locals := 139 }
set_option maxHeartbeats 4000000 in
set_option maxRecDepth 100000 in
theorem c_X5_end (l : Launch) (D : va_G) (y : Nat → ClassId) (A : Nat → Nat) (F : (Nat → Int32)) (R : (Nat → Nat → Int32)) (a1 : Int32) (rr9 : Int32) (FF9 : (Nat → Int32)) (RR9 : (Nat → Nat → Int32)) (sz : Nat) (hI : aj_s 7 A) (hm : m5_end F R a1 = some (rr9, FF9, RR9)) : Met l yX5_end (wy_s yX5_end cX5_end 4 (some .int)) rm_X5_end (pc_R D y [.ref (A 0), .int a1] (fun H => H.size = sz ∧ va_P D vwCl (w5_s y A F R) H)) (qc_W (some (.int rr9)) (fun H => va_P D vwCl (w5_s y A FF9 RR9) H) (rg_s 7 A sz)) 0 0 (rg_s 7 A sz) := by
  refine met_W (by decide) (Nat.le_of_ble_eq_true rfl) ?_
  intro p e s m args below meth c X hnm h0 ls hl
  obtain ⟨hsz, hP⟩ := h0
  subst hsz
  have hA := ap_of (sz := s.heap.size) hI
  have hS : va_S (rg_s 7 A s.heap.size) s.heap s.heap [] := va_S.rf
  replace hl : lv_has ls 4 [(0, .ref (A 0)), (1, .int a1)] := hl
  replace X : cx p s m args meth c cX5_end 4 (some .int) RX5 D y := X
  unfold m5_end at hm
  refine lv_aload_n (cx_x X) (cx_b X) dX5_end_0 rfl (lv_at hl 0 rfl) ?_
  refine lv_iload_n (cx_x X) (cx_b X) dX5_end_1 rfl (lv_at hl 1 rfl) ?_
  obtain ⟨v2, h1, hm⟩ := bnd hm
  refine af_R (rn_V (As := [.int a1]) (rest := []) X (c_X5_channelNow l D y A F R a1  _ h1) vq_X5_97 ⟨rfl, rfl⟩ ⟨Nat.le_of_ble_eq_true rfl, Nat.le_of_ble_eq_true rfl⟩ (rec_5 X hP) hP rfl hl.1 rfl (Nat.le_of_ble_eq_true rfl) dX5_end_2 ⟨Nat.le_of_ble_eq_true rfl, Nat.le_of_ble_eq_true rfl⟩) ?_
  refine lv_istore_n (lv' := [(2, .int v2), (0, .ref (A 0)), (1, .int a1)]) (cx_x X) (cx_b X) dX5_end_5 rfl hl (by decide) rfl (fun ls hl => ?_)
  refine lv_aload_n (cx_x X) (cx_b X) dX5_end_6 rfl (lv_at hl 1 rfl) ?_
  refine lv_iload_n (cx_x X) (cx_b X) dX5_end_7 rfl (lv_at hl 2 rfl) ?_
  obtain ⟨⟨F4, R5⟩, h3, hm⟩ := bnd hm
  try dsimp only at hm
  refine af_W (mc := 0) (ms := 0) (rn_V (As := [.int a1]) (rest := []) X (c_X5_forget l D y A F R a1 F4 R5 _ hI h3) vq_X5_100 ⟨rfl, rfl⟩ ⟨Nat.le_of_ble_eq_true rfl, Nat.le_of_ble_eq_true rfl⟩ (rec_5 X hP) ⟨rfl, hP⟩ rfl hl.1 rfl (Nat.le_of_ble_eq_true rfl) dX5_end_8 ⟨Nat.le_of_ble_eq_true rfl, Nat.le_of_ble_eq_true rfl⟩) hS (rg_up hS.1) (fun H locs hP _ _ hS => ?_)
  refine lv_aload_n (cx_x X) (cx_b X) dX5_end_11 rfl (lv_at hl 1 rfl) ?_
  obtain ⟨⟨v9, F7, R8⟩, h6, hm⟩ := bnd hm
  try dsimp only at hm
  refine af_W (mc := 0) (ms := 0) (rn_V (As := []) (rest := []) X (c_X5_pass l D y A F4 R5 v9 F7 R8 _ hI h6) vq_X5_104 ⟨rfl, rfl⟩ ⟨Nat.le_of_ble_eq_true rfl, Nat.le_of_ble_eq_true rfl⟩ (rec_5 X hP) ⟨rfl, hP⟩ rfl hl.1 rfl (Nat.le_of_ble_eq_true rfl) dX5_end_12 ⟨Nat.le_of_ble_eq_true rfl, Nat.le_of_ble_eq_true rfl⟩) hS (rg_up hS.1) (fun H locs hP _ _ hS => ?_)
  refine lv_istore_n (lv' := [(3, .int v9), (2, .int v2), (0, .ref (A 0)), (1, .int a1)]) (cx_x X) (cx_b X) dX5_end_15 rfl hl (by decide) rfl (fun ls hl => ?_)
  refine lv_iload_n (cx_x X) (cx_b X) dX5_end_16 rfl (lv_at hl 0 rfl) ?_
  obtain ⟨qt11, hm, hmt11⟩ := bnd hm
  have Jt11 : ∀ (v10 : Int32) , m5_end_J25 F7 R8 v10 = some (rr9, FF9, RR9) → ∀ (H : Heap) (locs : List Loc), va_P D vwCl (w5_s y A F7 R8) H → va_S (rg_s 7 A s.heap.size) s.heap H locs → ∀ ls, lv_has ls 4 [] → gw p l e rm_X5_end s m args below meth c (some (.int rr9)) (fun H => va_P D vwCl (w5_s y A FF9 RR9) H) (rg_s 7 A s.heap.size) 0 0 H locs (F0 m 25 ls [.int v10]) := by
    intro v10 hm H locs hP hS ls hl
    unfold m5_end_J25 at hm
    obtain ⟨rfl, rfl, rfl⟩ := oc_3 hm
    exact gw_i X hS hP dX5_end_25
  refine lv_if_ge (tgt := 24) (cx_x X) (cx_b X) dX5_end_17 (by decide) (fun c12 => ?_) (fun c12 => ?_)
  · replace hm := if_T c12 hm
    refine lv_iload_n (cx_x X) (cx_b X) dX5_end_24 rfl (lv_at hl 1 rfl) ?_
    exact Jt11 _ (by cases hm; exact hmt11) _ _ hP hS _ (lv_sub hl [] rfl)
  · replace hm := if_F c12 hm
    refine lv_iload_n (cx_x X) (cx_b X) dX5_end_20 rfl (lv_at hl 0 rfl) ?_
    refine lv_goto (tgt := 25) (cx_x X) (cx_b X) dX5_end_21 (by decide) ?_
    exact Jt11 _ (by cases hm; exact hmt11) _ _ hP hS _ (lv_sub hl [] rfl)
/-! X5_hand -/
def m5_hand_J243 (F32 : (Nat → Int32)) (R33 : (Nat → Nat → Int32)) (v35 : Int32) : Option (Int32 × (Nat → Int32) × (Nat → Nat → Int32)) :=
  some (v35, F32, R33)
def m5_hand_J226 (v2 : Int32) (F28 : (Nat → Int32)) (R29 : (Nat → Nat → Int32)) : Option (Int32 × (Nat → Int32) × (Nat → Nat → Int32)) :=
  (m5_pass F28 R29).bind fun ⟨v34, F32, R33⟩ =>
  (if 0 ≤ v34 then
  some v2
  else
  some v34).bind fun v35 => m5_hand_J243 F32 R33 v35
def m5_hand_J200 (a1 : Int32) (a2 : Int32) (v2 : Int32) (F3 : (Nat → Int32)) (R4 : (Nat → Nat → Int32)) (v7 : Int32) (v14 : Int32) (v17 : Int32) (v21 : Int32) (v26 : Int32) : Option (Int32 × (Nat → Int32) × (Nat → Nat → Int32)) :=
  (if v2 = (-9 : Int32) then
  if inb ((134 : Int32) + a1) 194 then
  if ((va_up (va_up (va_up (va_up (va_up (va_up R4 0 (upd (R4 0) (10 : Int32).toNatClampNeg ((R4 0 (10 : Int32).toNatClampNeg) + v7))) 0 (upd ((va_up R4 0 (upd (R4 0) (10 : Int32).toNatClampNeg ((R4 0 (10 : Int32).toNatClampNeg) + v7))) 0) (11 : Int32).toNatClampNeg (((va_up R4 0 (upd (R4 0) (10 : Int32).toNatClampNeg ((R4 0 (10 : Int32).toNatClampNeg) + v7))) 0 (11 : Int32).toNatClampNeg) + v14))) 0 (upd ((va_up (va_up R4 0 (upd (R4 0) (10 : Int32).toNatClampNeg ((R4 0 (10 : Int32).toNatClampNeg) + v7))) 0 (upd ((va_up R4 0 (upd (R4 0) (10 : Int32).toNatClampNeg ((R4 0 (10 : Int32).toNatClampNeg) + v7))) 0) (11 : Int32).toNatClampNeg (((va_up R4 0 (upd (R4 0) (10 : Int32).toNatClampNeg ((R4 0 (10 : Int32).toNatClampNeg) + v7))) 0 (11 : Int32).toNatClampNeg) + v14))) 0) ((134 : Int32) + a1).toNatClampNeg v17)) 0 (upd ((va_up (va_up (va_up R4 0 (upd (R4 0) (10 : Int32).toNatClampNeg ((R4 0 (10 : Int32).toNatClampNeg) + v7))) 0 (upd ((va_up R4 0 (upd (R4 0) (10 : Int32).toNatClampNeg ((R4 0 (10 : Int32).toNatClampNeg) + v7))) 0) (11 : Int32).toNatClampNeg (((va_up R4 0 (upd (R4 0) (10 : Int32).toNatClampNeg ((R4 0 (10 : Int32).toNatClampNeg) + v7))) 0 (11 : Int32).toNatClampNeg) + v14))) 0 (upd ((va_up (va_up R4 0 (upd (R4 0) (10 : Int32).toNatClampNeg ((R4 0 (10 : Int32).toNatClampNeg) + v7))) 0 (upd ((va_up R4 0 (upd (R4 0) (10 : Int32).toNatClampNeg ((R4 0 (10 : Int32).toNatClampNeg) + v7))) 0) (11 : Int32).toNatClampNeg (((va_up R4 0 (upd (R4 0) (10 : Int32).toNatClampNeg ((R4 0 (10 : Int32).toNatClampNeg) + v7))) 0 (11 : Int32).toNatClampNeg) + v14))) 0) ((134 : Int32) + a1).toNatClampNeg v17)) 0) ((14 : Int32) + a1).toNatClampNeg (a2 + (1 : Int32)))) 0 (upd ((va_up (va_up (va_up (va_up R4 0 (upd (R4 0) (10 : Int32).toNatClampNeg ((R4 0 (10 : Int32).toNatClampNeg) + v7))) 0 (upd ((va_up R4 0 (upd (R4 0) (10 : Int32).toNatClampNeg ((R4 0 (10 : Int32).toNatClampNeg) + v7))) 0) (11 : Int32).toNatClampNeg (((va_up R4 0 (upd (R4 0) (10 : Int32).toNatClampNeg ((R4 0 (10 : Int32).toNatClampNeg) + v7))) 0 (11 : Int32).toNatClampNeg) + v14))) 0 (upd ((va_up (va_up R4 0 (upd (R4 0) (10 : Int32).toNatClampNeg ((R4 0 (10 : Int32).toNatClampNeg) + v7))) 0 (upd ((va_up R4 0 (upd (R4 0) (10 : Int32).toNatClampNeg ((R4 0 (10 : Int32).toNatClampNeg) + v7))) 0) (11 : Int32).toNatClampNeg (((va_up R4 0 (upd (R4 0) (10 : Int32).toNatClampNeg ((R4 0 (10 : Int32).toNatClampNeg) + v7))) 0 (11 : Int32).toNatClampNeg) + v14))) 0) ((134 : Int32) + a1).toNatClampNeg v17)) 0 (upd ((va_up (va_up (va_up R4 0 (upd (R4 0) (10 : Int32).toNatClampNeg ((R4 0 (10 : Int32).toNatClampNeg) + v7))) 0 (upd ((va_up R4 0 (upd (R4 0) (10 : Int32).toNatClampNeg ((R4 0 (10 : Int32).toNatClampNeg) + v7))) 0) (11 : Int32).toNatClampNeg (((va_up R4 0 (upd (R4 0) (10 : Int32).toNatClampNeg ((R4 0 (10 : Int32).toNatClampNeg) + v7))) 0 (11 : Int32).toNatClampNeg) + v14))) 0 (upd ((va_up (va_up R4 0 (upd (R4 0) (10 : Int32).toNatClampNeg ((R4 0 (10 : Int32).toNatClampNeg) + v7))) 0 (upd ((va_up R4 0 (upd (R4 0) (10 : Int32).toNatClampNeg ((R4 0 (10 : Int32).toNatClampNeg) + v7))) 0) (11 : Int32).toNatClampNeg (((va_up R4 0 (upd (R4 0) (10 : Int32).toNatClampNeg ((R4 0 (10 : Int32).toNatClampNeg) + v7))) 0 (11 : Int32).toNatClampNeg) + v14))) 0) ((134 : Int32) + a1).toNatClampNeg v17)) 0) ((14 : Int32) + a1).toNatClampNeg (a2 + (1 : Int32)))) 0) ((74 : Int32) + a1).toNatClampNeg v21)) 0 (upd ((va_up (va_up (va_up (va_up (va_up R4 0 (upd (R4 0) (10 : Int32).toNatClampNeg ((R4 0 (10 : Int32).toNatClampNeg) + v7))) 0 (upd ((va_up R4 0 (upd (R4 0) (10 : Int32).toNatClampNeg ((R4 0 (10 : Int32).toNatClampNeg) + v7))) 0) (11 : Int32).toNatClampNeg (((va_up R4 0 (upd (R4 0) (10 : Int32).toNatClampNeg ((R4 0 (10 : Int32).toNatClampNeg) + v7))) 0 (11 : Int32).toNatClampNeg) + v14))) 0 (upd ((va_up (va_up R4 0 (upd (R4 0) (10 : Int32).toNatClampNeg ((R4 0 (10 : Int32).toNatClampNeg) + v7))) 0 (upd ((va_up R4 0 (upd (R4 0) (10 : Int32).toNatClampNeg ((R4 0 (10 : Int32).toNatClampNeg) + v7))) 0) (11 : Int32).toNatClampNeg (((va_up R4 0 (upd (R4 0) (10 : Int32).toNatClampNeg ((R4 0 (10 : Int32).toNatClampNeg) + v7))) 0 (11 : Int32).toNatClampNeg) + v14))) 0) ((134 : Int32) + a1).toNatClampNeg v17)) 0 (upd ((va_up (va_up (va_up R4 0 (upd (R4 0) (10 : Int32).toNatClampNeg ((R4 0 (10 : Int32).toNatClampNeg) + v7))) 0 (upd ((va_up R4 0 (upd (R4 0) (10 : Int32).toNatClampNeg ((R4 0 (10 : Int32).toNatClampNeg) + v7))) 0) (11 : Int32).toNatClampNeg (((va_up R4 0 (upd (R4 0) (10 : Int32).toNatClampNeg ((R4 0 (10 : Int32).toNatClampNeg) + v7))) 0 (11 : Int32).toNatClampNeg) + v14))) 0 (upd ((va_up (va_up R4 0 (upd (R4 0) (10 : Int32).toNatClampNeg ((R4 0 (10 : Int32).toNatClampNeg) + v7))) 0 (upd ((va_up R4 0 (upd (R4 0) (10 : Int32).toNatClampNeg ((R4 0 (10 : Int32).toNatClampNeg) + v7))) 0) (11 : Int32).toNatClampNeg (((va_up R4 0 (upd (R4 0) (10 : Int32).toNatClampNeg ((R4 0 (10 : Int32).toNatClampNeg) + v7))) 0 (11 : Int32).toNatClampNeg) + v14))) 0) ((134 : Int32) + a1).toNatClampNeg v17)) 0) ((14 : Int32) + a1).toNatClampNeg (a2 + (1 : Int32)))) 0 (upd ((va_up (va_up (va_up (va_up R4 0 (upd (R4 0) (10 : Int32).toNatClampNeg ((R4 0 (10 : Int32).toNatClampNeg) + v7))) 0 (upd ((va_up R4 0 (upd (R4 0) (10 : Int32).toNatClampNeg ((R4 0 (10 : Int32).toNatClampNeg) + v7))) 0) (11 : Int32).toNatClampNeg (((va_up R4 0 (upd (R4 0) (10 : Int32).toNatClampNeg ((R4 0 (10 : Int32).toNatClampNeg) + v7))) 0 (11 : Int32).toNatClampNeg) + v14))) 0 (upd ((va_up (va_up R4 0 (upd (R4 0) (10 : Int32).toNatClampNeg ((R4 0 (10 : Int32).toNatClampNeg) + v7))) 0 (upd ((va_up R4 0 (upd (R4 0) (10 : Int32).toNatClampNeg ((R4 0 (10 : Int32).toNatClampNeg) + v7))) 0) (11 : Int32).toNatClampNeg (((va_up R4 0 (upd (R4 0) (10 : Int32).toNatClampNeg ((R4 0 (10 : Int32).toNatClampNeg) + v7))) 0 (11 : Int32).toNatClampNeg) + v14))) 0) ((134 : Int32) + a1).toNatClampNeg v17)) 0 (upd ((va_up (va_up (va_up R4 0 (upd (R4 0) (10 : Int32).toNatClampNeg ((R4 0 (10 : Int32).toNatClampNeg) + v7))) 0 (upd ((va_up R4 0 (upd (R4 0) (10 : Int32).toNatClampNeg ((R4 0 (10 : Int32).toNatClampNeg) + v7))) 0) (11 : Int32).toNatClampNeg (((va_up R4 0 (upd (R4 0) (10 : Int32).toNatClampNeg ((R4 0 (10 : Int32).toNatClampNeg) + v7))) 0 (11 : Int32).toNatClampNeg) + v14))) 0 (upd ((va_up (va_up R4 0 (upd (R4 0) (10 : Int32).toNatClampNeg ((R4 0 (10 : Int32).toNatClampNeg) + v7))) 0 (upd ((va_up R4 0 (upd (R4 0) (10 : Int32).toNatClampNeg ((R4 0 (10 : Int32).toNatClampNeg) + v7))) 0) (11 : Int32).toNatClampNeg (((va_up R4 0 (upd (R4 0) (10 : Int32).toNatClampNeg ((R4 0 (10 : Int32).toNatClampNeg) + v7))) 0 (11 : Int32).toNatClampNeg) + v14))) 0) ((134 : Int32) + a1).toNatClampNeg v17)) 0) ((14 : Int32) + a1).toNatClampNeg (a2 + (1 : Int32)))) 0) ((74 : Int32) + a1).toNatClampNeg v21)) 0) (12 : Int32).toNatClampNeg (((va_up (va_up (va_up (va_up (va_up R4 0 (upd (R4 0) (10 : Int32).toNatClampNeg ((R4 0 (10 : Int32).toNatClampNeg) + v7))) 0 (upd ((va_up R4 0 (upd (R4 0) (10 : Int32).toNatClampNeg ((R4 0 (10 : Int32).toNatClampNeg) + v7))) 0) (11 : Int32).toNatClampNeg (((va_up R4 0 (upd (R4 0) (10 : Int32).toNatClampNeg ((R4 0 (10 : Int32).toNatClampNeg) + v7))) 0 (11 : Int32).toNatClampNeg) + v14))) 0 (upd ((va_up (va_up R4 0 (upd (R4 0) (10 : Int32).toNatClampNeg ((R4 0 (10 : Int32).toNatClampNeg) + v7))) 0 (upd ((va_up R4 0 (upd (R4 0) (10 : Int32).toNatClampNeg ((R4 0 (10 : Int32).toNatClampNeg) + v7))) 0) (11 : Int32).toNatClampNeg (((va_up R4 0 (upd (R4 0) (10 : Int32).toNatClampNeg ((R4 0 (10 : Int32).toNatClampNeg) + v7))) 0 (11 : Int32).toNatClampNeg) + v14))) 0) ((134 : Int32) + a1).toNatClampNeg v17)) 0 (upd ((va_up (va_up (va_up R4 0 (upd (R4 0) (10 : Int32).toNatClampNeg ((R4 0 (10 : Int32).toNatClampNeg) + v7))) 0 (upd ((va_up R4 0 (upd (R4 0) (10 : Int32).toNatClampNeg ((R4 0 (10 : Int32).toNatClampNeg) + v7))) 0) (11 : Int32).toNatClampNeg (((va_up R4 0 (upd (R4 0) (10 : Int32).toNatClampNeg ((R4 0 (10 : Int32).toNatClampNeg) + v7))) 0 (11 : Int32).toNatClampNeg) + v14))) 0 (upd ((va_up (va_up R4 0 (upd (R4 0) (10 : Int32).toNatClampNeg ((R4 0 (10 : Int32).toNatClampNeg) + v7))) 0 (upd ((va_up R4 0 (upd (R4 0) (10 : Int32).toNatClampNeg ((R4 0 (10 : Int32).toNatClampNeg) + v7))) 0) (11 : Int32).toNatClampNeg (((va_up R4 0 (upd (R4 0) (10 : Int32).toNatClampNeg ((R4 0 (10 : Int32).toNatClampNeg) + v7))) 0 (11 : Int32).toNatClampNeg) + v14))) 0) ((134 : Int32) + a1).toNatClampNeg v17)) 0) ((14 : Int32) + a1).toNatClampNeg (a2 + (1 : Int32)))) 0 (upd ((va_up (va_up (va_up (va_up R4 0 (upd (R4 0) (10 : Int32).toNatClampNeg ((R4 0 (10 : Int32).toNatClampNeg) + v7))) 0 (upd ((va_up R4 0 (upd (R4 0) (10 : Int32).toNatClampNeg ((R4 0 (10 : Int32).toNatClampNeg) + v7))) 0) (11 : Int32).toNatClampNeg (((va_up R4 0 (upd (R4 0) (10 : Int32).toNatClampNeg ((R4 0 (10 : Int32).toNatClampNeg) + v7))) 0 (11 : Int32).toNatClampNeg) + v14))) 0 (upd ((va_up (va_up R4 0 (upd (R4 0) (10 : Int32).toNatClampNeg ((R4 0 (10 : Int32).toNatClampNeg) + v7))) 0 (upd ((va_up R4 0 (upd (R4 0) (10 : Int32).toNatClampNeg ((R4 0 (10 : Int32).toNatClampNeg) + v7))) 0) (11 : Int32).toNatClampNeg (((va_up R4 0 (upd (R4 0) (10 : Int32).toNatClampNeg ((R4 0 (10 : Int32).toNatClampNeg) + v7))) 0 (11 : Int32).toNatClampNeg) + v14))) 0) ((134 : Int32) + a1).toNatClampNeg v17)) 0 (upd ((va_up (va_up (va_up R4 0 (upd (R4 0) (10 : Int32).toNatClampNeg ((R4 0 (10 : Int32).toNatClampNeg) + v7))) 0 (upd ((va_up R4 0 (upd (R4 0) (10 : Int32).toNatClampNeg ((R4 0 (10 : Int32).toNatClampNeg) + v7))) 0) (11 : Int32).toNatClampNeg (((va_up R4 0 (upd (R4 0) (10 : Int32).toNatClampNeg ((R4 0 (10 : Int32).toNatClampNeg) + v7))) 0 (11 : Int32).toNatClampNeg) + v14))) 0 (upd ((va_up (va_up R4 0 (upd (R4 0) (10 : Int32).toNatClampNeg ((R4 0 (10 : Int32).toNatClampNeg) + v7))) 0 (upd ((va_up R4 0 (upd (R4 0) (10 : Int32).toNatClampNeg ((R4 0 (10 : Int32).toNatClampNeg) + v7))) 0) (11 : Int32).toNatClampNeg (((va_up R4 0 (upd (R4 0) (10 : Int32).toNatClampNeg ((R4 0 (10 : Int32).toNatClampNeg) + v7))) 0 (11 : Int32).toNatClampNeg) + v14))) 0) ((134 : Int32) + a1).toNatClampNeg v17)) 0) ((14 : Int32) + a1).toNatClampNeg (a2 + (1 : Int32)))) 0) ((74 : Int32) + a1).toNatClampNeg v21)) 0 (12 : Int32).toNatClampNeg) + v26))) 0 ((134 : Int32) + a1).toNatClampNeg) = 0 then
  (m5_forget F3 (va_up (va_up (va_up (va_up (va_up (va_up R4 0 (upd (R4 0) (10 : Int32).toNatClampNeg ((R4 0 (10 : Int32).toNatClampNeg) + v7))) 0 (upd ((va_up R4 0 (upd (R4 0) (10 : Int32).toNatClampNeg ((R4 0 (10 : Int32).toNatClampNeg) + v7))) 0) (11 : Int32).toNatClampNeg (((va_up R4 0 (upd (R4 0) (10 : Int32).toNatClampNeg ((R4 0 (10 : Int32).toNatClampNeg) + v7))) 0 (11 : Int32).toNatClampNeg) + v14))) 0 (upd ((va_up (va_up R4 0 (upd (R4 0) (10 : Int32).toNatClampNeg ((R4 0 (10 : Int32).toNatClampNeg) + v7))) 0 (upd ((va_up R4 0 (upd (R4 0) (10 : Int32).toNatClampNeg ((R4 0 (10 : Int32).toNatClampNeg) + v7))) 0) (11 : Int32).toNatClampNeg (((va_up R4 0 (upd (R4 0) (10 : Int32).toNatClampNeg ((R4 0 (10 : Int32).toNatClampNeg) + v7))) 0 (11 : Int32).toNatClampNeg) + v14))) 0) ((134 : Int32) + a1).toNatClampNeg v17)) 0 (upd ((va_up (va_up (va_up R4 0 (upd (R4 0) (10 : Int32).toNatClampNeg ((R4 0 (10 : Int32).toNatClampNeg) + v7))) 0 (upd ((va_up R4 0 (upd (R4 0) (10 : Int32).toNatClampNeg ((R4 0 (10 : Int32).toNatClampNeg) + v7))) 0) (11 : Int32).toNatClampNeg (((va_up R4 0 (upd (R4 0) (10 : Int32).toNatClampNeg ((R4 0 (10 : Int32).toNatClampNeg) + v7))) 0 (11 : Int32).toNatClampNeg) + v14))) 0 (upd ((va_up (va_up R4 0 (upd (R4 0) (10 : Int32).toNatClampNeg ((R4 0 (10 : Int32).toNatClampNeg) + v7))) 0 (upd ((va_up R4 0 (upd (R4 0) (10 : Int32).toNatClampNeg ((R4 0 (10 : Int32).toNatClampNeg) + v7))) 0) (11 : Int32).toNatClampNeg (((va_up R4 0 (upd (R4 0) (10 : Int32).toNatClampNeg ((R4 0 (10 : Int32).toNatClampNeg) + v7))) 0 (11 : Int32).toNatClampNeg) + v14))) 0) ((134 : Int32) + a1).toNatClampNeg v17)) 0) ((14 : Int32) + a1).toNatClampNeg (a2 + (1 : Int32)))) 0 (upd ((va_up (va_up (va_up (va_up R4 0 (upd (R4 0) (10 : Int32).toNatClampNeg ((R4 0 (10 : Int32).toNatClampNeg) + v7))) 0 (upd ((va_up R4 0 (upd (R4 0) (10 : Int32).toNatClampNeg ((R4 0 (10 : Int32).toNatClampNeg) + v7))) 0) (11 : Int32).toNatClampNeg (((va_up R4 0 (upd (R4 0) (10 : Int32).toNatClampNeg ((R4 0 (10 : Int32).toNatClampNeg) + v7))) 0 (11 : Int32).toNatClampNeg) + v14))) 0 (upd ((va_up (va_up R4 0 (upd (R4 0) (10 : Int32).toNatClampNeg ((R4 0 (10 : Int32).toNatClampNeg) + v7))) 0 (upd ((va_up R4 0 (upd (R4 0) (10 : Int32).toNatClampNeg ((R4 0 (10 : Int32).toNatClampNeg) + v7))) 0) (11 : Int32).toNatClampNeg (((va_up R4 0 (upd (R4 0) (10 : Int32).toNatClampNeg ((R4 0 (10 : Int32).toNatClampNeg) + v7))) 0 (11 : Int32).toNatClampNeg) + v14))) 0) ((134 : Int32) + a1).toNatClampNeg v17)) 0 (upd ((va_up (va_up (va_up R4 0 (upd (R4 0) (10 : Int32).toNatClampNeg ((R4 0 (10 : Int32).toNatClampNeg) + v7))) 0 (upd ((va_up R4 0 (upd (R4 0) (10 : Int32).toNatClampNeg ((R4 0 (10 : Int32).toNatClampNeg) + v7))) 0) (11 : Int32).toNatClampNeg (((va_up R4 0 (upd (R4 0) (10 : Int32).toNatClampNeg ((R4 0 (10 : Int32).toNatClampNeg) + v7))) 0 (11 : Int32).toNatClampNeg) + v14))) 0 (upd ((va_up (va_up R4 0 (upd (R4 0) (10 : Int32).toNatClampNeg ((R4 0 (10 : Int32).toNatClampNeg) + v7))) 0 (upd ((va_up R4 0 (upd (R4 0) (10 : Int32).toNatClampNeg ((R4 0 (10 : Int32).toNatClampNeg) + v7))) 0) (11 : Int32).toNatClampNeg (((va_up R4 0 (upd (R4 0) (10 : Int32).toNatClampNeg ((R4 0 (10 : Int32).toNatClampNeg) + v7))) 0 (11 : Int32).toNatClampNeg) + v14))) 0) ((134 : Int32) + a1).toNatClampNeg v17)) 0) ((14 : Int32) + a1).toNatClampNeg (a2 + (1 : Int32)))) 0) ((74 : Int32) + a1).toNatClampNeg v21)) 0 (upd ((va_up (va_up (va_up (va_up (va_up R4 0 (upd (R4 0) (10 : Int32).toNatClampNeg ((R4 0 (10 : Int32).toNatClampNeg) + v7))) 0 (upd ((va_up R4 0 (upd (R4 0) (10 : Int32).toNatClampNeg ((R4 0 (10 : Int32).toNatClampNeg) + v7))) 0) (11 : Int32).toNatClampNeg (((va_up R4 0 (upd (R4 0) (10 : Int32).toNatClampNeg ((R4 0 (10 : Int32).toNatClampNeg) + v7))) 0 (11 : Int32).toNatClampNeg) + v14))) 0 (upd ((va_up (va_up R4 0 (upd (R4 0) (10 : Int32).toNatClampNeg ((R4 0 (10 : Int32).toNatClampNeg) + v7))) 0 (upd ((va_up R4 0 (upd (R4 0) (10 : Int32).toNatClampNeg ((R4 0 (10 : Int32).toNatClampNeg) + v7))) 0) (11 : Int32).toNatClampNeg (((va_up R4 0 (upd (R4 0) (10 : Int32).toNatClampNeg ((R4 0 (10 : Int32).toNatClampNeg) + v7))) 0 (11 : Int32).toNatClampNeg) + v14))) 0) ((134 : Int32) + a1).toNatClampNeg v17)) 0 (upd ((va_up (va_up (va_up R4 0 (upd (R4 0) (10 : Int32).toNatClampNeg ((R4 0 (10 : Int32).toNatClampNeg) + v7))) 0 (upd ((va_up R4 0 (upd (R4 0) (10 : Int32).toNatClampNeg ((R4 0 (10 : Int32).toNatClampNeg) + v7))) 0) (11 : Int32).toNatClampNeg (((va_up R4 0 (upd (R4 0) (10 : Int32).toNatClampNeg ((R4 0 (10 : Int32).toNatClampNeg) + v7))) 0 (11 : Int32).toNatClampNeg) + v14))) 0 (upd ((va_up (va_up R4 0 (upd (R4 0) (10 : Int32).toNatClampNeg ((R4 0 (10 : Int32).toNatClampNeg) + v7))) 0 (upd ((va_up R4 0 (upd (R4 0) (10 : Int32).toNatClampNeg ((R4 0 (10 : Int32).toNatClampNeg) + v7))) 0) (11 : Int32).toNatClampNeg (((va_up R4 0 (upd (R4 0) (10 : Int32).toNatClampNeg ((R4 0 (10 : Int32).toNatClampNeg) + v7))) 0 (11 : Int32).toNatClampNeg) + v14))) 0) ((134 : Int32) + a1).toNatClampNeg v17)) 0) ((14 : Int32) + a1).toNatClampNeg (a2 + (1 : Int32)))) 0 (upd ((va_up (va_up (va_up (va_up R4 0 (upd (R4 0) (10 : Int32).toNatClampNeg ((R4 0 (10 : Int32).toNatClampNeg) + v7))) 0 (upd ((va_up R4 0 (upd (R4 0) (10 : Int32).toNatClampNeg ((R4 0 (10 : Int32).toNatClampNeg) + v7))) 0) (11 : Int32).toNatClampNeg (((va_up R4 0 (upd (R4 0) (10 : Int32).toNatClampNeg ((R4 0 (10 : Int32).toNatClampNeg) + v7))) 0 (11 : Int32).toNatClampNeg) + v14))) 0 (upd ((va_up (va_up R4 0 (upd (R4 0) (10 : Int32).toNatClampNeg ((R4 0 (10 : Int32).toNatClampNeg) + v7))) 0 (upd ((va_up R4 0 (upd (R4 0) (10 : Int32).toNatClampNeg ((R4 0 (10 : Int32).toNatClampNeg) + v7))) 0) (11 : Int32).toNatClampNeg (((va_up R4 0 (upd (R4 0) (10 : Int32).toNatClampNeg ((R4 0 (10 : Int32).toNatClampNeg) + v7))) 0 (11 : Int32).toNatClampNeg) + v14))) 0) ((134 : Int32) + a1).toNatClampNeg v17)) 0 (upd ((va_up (va_up (va_up R4 0 (upd (R4 0) (10 : Int32).toNatClampNeg ((R4 0 (10 : Int32).toNatClampNeg) + v7))) 0 (upd ((va_up R4 0 (upd (R4 0) (10 : Int32).toNatClampNeg ((R4 0 (10 : Int32).toNatClampNeg) + v7))) 0) (11 : Int32).toNatClampNeg (((va_up R4 0 (upd (R4 0) (10 : Int32).toNatClampNeg ((R4 0 (10 : Int32).toNatClampNeg) + v7))) 0 (11 : Int32).toNatClampNeg) + v14))) 0 (upd ((va_up (va_up R4 0 (upd (R4 0) (10 : Int32).toNatClampNeg ((R4 0 (10 : Int32).toNatClampNeg) + v7))) 0 (upd ((va_up R4 0 (upd (R4 0) (10 : Int32).toNatClampNeg ((R4 0 (10 : Int32).toNatClampNeg) + v7))) 0) (11 : Int32).toNatClampNeg (((va_up R4 0 (upd (R4 0) (10 : Int32).toNatClampNeg ((R4 0 (10 : Int32).toNatClampNeg) + v7))) 0 (11 : Int32).toNatClampNeg) + v14))) 0) ((134 : Int32) + a1).toNatClampNeg v17)) 0) ((14 : Int32) + a1).toNatClampNeg (a2 + (1 : Int32)))) 0) ((74 : Int32) + a1).toNatClampNeg v21)) 0) (12 : Int32).toNatClampNeg (((va_up (va_up (va_up (va_up (va_up R4 0 (upd (R4 0) (10 : Int32).toNatClampNeg ((R4 0 (10 : Int32).toNatClampNeg) + v7))) 0 (upd ((va_up R4 0 (upd (R4 0) (10 : Int32).toNatClampNeg ((R4 0 (10 : Int32).toNatClampNeg) + v7))) 0) (11 : Int32).toNatClampNeg (((va_up R4 0 (upd (R4 0) (10 : Int32).toNatClampNeg ((R4 0 (10 : Int32).toNatClampNeg) + v7))) 0 (11 : Int32).toNatClampNeg) + v14))) 0 (upd ((va_up (va_up R4 0 (upd (R4 0) (10 : Int32).toNatClampNeg ((R4 0 (10 : Int32).toNatClampNeg) + v7))) 0 (upd ((va_up R4 0 (upd (R4 0) (10 : Int32).toNatClampNeg ((R4 0 (10 : Int32).toNatClampNeg) + v7))) 0) (11 : Int32).toNatClampNeg (((va_up R4 0 (upd (R4 0) (10 : Int32).toNatClampNeg ((R4 0 (10 : Int32).toNatClampNeg) + v7))) 0 (11 : Int32).toNatClampNeg) + v14))) 0) ((134 : Int32) + a1).toNatClampNeg v17)) 0 (upd ((va_up (va_up (va_up R4 0 (upd (R4 0) (10 : Int32).toNatClampNeg ((R4 0 (10 : Int32).toNatClampNeg) + v7))) 0 (upd ((va_up R4 0 (upd (R4 0) (10 : Int32).toNatClampNeg ((R4 0 (10 : Int32).toNatClampNeg) + v7))) 0) (11 : Int32).toNatClampNeg (((va_up R4 0 (upd (R4 0) (10 : Int32).toNatClampNeg ((R4 0 (10 : Int32).toNatClampNeg) + v7))) 0 (11 : Int32).toNatClampNeg) + v14))) 0 (upd ((va_up (va_up R4 0 (upd (R4 0) (10 : Int32).toNatClampNeg ((R4 0 (10 : Int32).toNatClampNeg) + v7))) 0 (upd ((va_up R4 0 (upd (R4 0) (10 : Int32).toNatClampNeg ((R4 0 (10 : Int32).toNatClampNeg) + v7))) 0) (11 : Int32).toNatClampNeg (((va_up R4 0 (upd (R4 0) (10 : Int32).toNatClampNeg ((R4 0 (10 : Int32).toNatClampNeg) + v7))) 0 (11 : Int32).toNatClampNeg) + v14))) 0) ((134 : Int32) + a1).toNatClampNeg v17)) 0) ((14 : Int32) + a1).toNatClampNeg (a2 + (1 : Int32)))) 0 (upd ((va_up (va_up (va_up (va_up R4 0 (upd (R4 0) (10 : Int32).toNatClampNeg ((R4 0 (10 : Int32).toNatClampNeg) + v7))) 0 (upd ((va_up R4 0 (upd (R4 0) (10 : Int32).toNatClampNeg ((R4 0 (10 : Int32).toNatClampNeg) + v7))) 0) (11 : Int32).toNatClampNeg (((va_up R4 0 (upd (R4 0) (10 : Int32).toNatClampNeg ((R4 0 (10 : Int32).toNatClampNeg) + v7))) 0 (11 : Int32).toNatClampNeg) + v14))) 0 (upd ((va_up (va_up R4 0 (upd (R4 0) (10 : Int32).toNatClampNeg ((R4 0 (10 : Int32).toNatClampNeg) + v7))) 0 (upd ((va_up R4 0 (upd (R4 0) (10 : Int32).toNatClampNeg ((R4 0 (10 : Int32).toNatClampNeg) + v7))) 0) (11 : Int32).toNatClampNeg (((va_up R4 0 (upd (R4 0) (10 : Int32).toNatClampNeg ((R4 0 (10 : Int32).toNatClampNeg) + v7))) 0 (11 : Int32).toNatClampNeg) + v14))) 0) ((134 : Int32) + a1).toNatClampNeg v17)) 0 (upd ((va_up (va_up (va_up R4 0 (upd (R4 0) (10 : Int32).toNatClampNeg ((R4 0 (10 : Int32).toNatClampNeg) + v7))) 0 (upd ((va_up R4 0 (upd (R4 0) (10 : Int32).toNatClampNeg ((R4 0 (10 : Int32).toNatClampNeg) + v7))) 0) (11 : Int32).toNatClampNeg (((va_up R4 0 (upd (R4 0) (10 : Int32).toNatClampNeg ((R4 0 (10 : Int32).toNatClampNeg) + v7))) 0 (11 : Int32).toNatClampNeg) + v14))) 0 (upd ((va_up (va_up R4 0 (upd (R4 0) (10 : Int32).toNatClampNeg ((R4 0 (10 : Int32).toNatClampNeg) + v7))) 0 (upd ((va_up R4 0 (upd (R4 0) (10 : Int32).toNatClampNeg ((R4 0 (10 : Int32).toNatClampNeg) + v7))) 0) (11 : Int32).toNatClampNeg (((va_up R4 0 (upd (R4 0) (10 : Int32).toNatClampNeg ((R4 0 (10 : Int32).toNatClampNeg) + v7))) 0 (11 : Int32).toNatClampNeg) + v14))) 0) ((134 : Int32) + a1).toNatClampNeg v17)) 0) ((14 : Int32) + a1).toNatClampNeg (a2 + (1 : Int32)))) 0) ((74 : Int32) + a1).toNatClampNeg v21)) 0 (12 : Int32).toNatClampNeg) + v26))) a1).bind fun ⟨F42, R43⟩ =>
  some (F42, R43)
  else
  some (F3, (va_up (va_up (va_up (va_up (va_up (va_up R4 0 (upd (R4 0) (10 : Int32).toNatClampNeg ((R4 0 (10 : Int32).toNatClampNeg) + v7))) 0 (upd ((va_up R4 0 (upd (R4 0) (10 : Int32).toNatClampNeg ((R4 0 (10 : Int32).toNatClampNeg) + v7))) 0) (11 : Int32).toNatClampNeg (((va_up R4 0 (upd (R4 0) (10 : Int32).toNatClampNeg ((R4 0 (10 : Int32).toNatClampNeg) + v7))) 0 (11 : Int32).toNatClampNeg) + v14))) 0 (upd ((va_up (va_up R4 0 (upd (R4 0) (10 : Int32).toNatClampNeg ((R4 0 (10 : Int32).toNatClampNeg) + v7))) 0 (upd ((va_up R4 0 (upd (R4 0) (10 : Int32).toNatClampNeg ((R4 0 (10 : Int32).toNatClampNeg) + v7))) 0) (11 : Int32).toNatClampNeg (((va_up R4 0 (upd (R4 0) (10 : Int32).toNatClampNeg ((R4 0 (10 : Int32).toNatClampNeg) + v7))) 0 (11 : Int32).toNatClampNeg) + v14))) 0) ((134 : Int32) + a1).toNatClampNeg v17)) 0 (upd ((va_up (va_up (va_up R4 0 (upd (R4 0) (10 : Int32).toNatClampNeg ((R4 0 (10 : Int32).toNatClampNeg) + v7))) 0 (upd ((va_up R4 0 (upd (R4 0) (10 : Int32).toNatClampNeg ((R4 0 (10 : Int32).toNatClampNeg) + v7))) 0) (11 : Int32).toNatClampNeg (((va_up R4 0 (upd (R4 0) (10 : Int32).toNatClampNeg ((R4 0 (10 : Int32).toNatClampNeg) + v7))) 0 (11 : Int32).toNatClampNeg) + v14))) 0 (upd ((va_up (va_up R4 0 (upd (R4 0) (10 : Int32).toNatClampNeg ((R4 0 (10 : Int32).toNatClampNeg) + v7))) 0 (upd ((va_up R4 0 (upd (R4 0) (10 : Int32).toNatClampNeg ((R4 0 (10 : Int32).toNatClampNeg) + v7))) 0) (11 : Int32).toNatClampNeg (((va_up R4 0 (upd (R4 0) (10 : Int32).toNatClampNeg ((R4 0 (10 : Int32).toNatClampNeg) + v7))) 0 (11 : Int32).toNatClampNeg) + v14))) 0) ((134 : Int32) + a1).toNatClampNeg v17)) 0) ((14 : Int32) + a1).toNatClampNeg (a2 + (1 : Int32)))) 0 (upd ((va_up (va_up (va_up (va_up R4 0 (upd (R4 0) (10 : Int32).toNatClampNeg ((R4 0 (10 : Int32).toNatClampNeg) + v7))) 0 (upd ((va_up R4 0 (upd (R4 0) (10 : Int32).toNatClampNeg ((R4 0 (10 : Int32).toNatClampNeg) + v7))) 0) (11 : Int32).toNatClampNeg (((va_up R4 0 (upd (R4 0) (10 : Int32).toNatClampNeg ((R4 0 (10 : Int32).toNatClampNeg) + v7))) 0 (11 : Int32).toNatClampNeg) + v14))) 0 (upd ((va_up (va_up R4 0 (upd (R4 0) (10 : Int32).toNatClampNeg ((R4 0 (10 : Int32).toNatClampNeg) + v7))) 0 (upd ((va_up R4 0 (upd (R4 0) (10 : Int32).toNatClampNeg ((R4 0 (10 : Int32).toNatClampNeg) + v7))) 0) (11 : Int32).toNatClampNeg (((va_up R4 0 (upd (R4 0) (10 : Int32).toNatClampNeg ((R4 0 (10 : Int32).toNatClampNeg) + v7))) 0 (11 : Int32).toNatClampNeg) + v14))) 0) ((134 : Int32) + a1).toNatClampNeg v17)) 0 (upd ((va_up (va_up (va_up R4 0 (upd (R4 0) (10 : Int32).toNatClampNeg ((R4 0 (10 : Int32).toNatClampNeg) + v7))) 0 (upd ((va_up R4 0 (upd (R4 0) (10 : Int32).toNatClampNeg ((R4 0 (10 : Int32).toNatClampNeg) + v7))) 0) (11 : Int32).toNatClampNeg (((va_up R4 0 (upd (R4 0) (10 : Int32).toNatClampNeg ((R4 0 (10 : Int32).toNatClampNeg) + v7))) 0 (11 : Int32).toNatClampNeg) + v14))) 0 (upd ((va_up (va_up R4 0 (upd (R4 0) (10 : Int32).toNatClampNeg ((R4 0 (10 : Int32).toNatClampNeg) + v7))) 0 (upd ((va_up R4 0 (upd (R4 0) (10 : Int32).toNatClampNeg ((R4 0 (10 : Int32).toNatClampNeg) + v7))) 0) (11 : Int32).toNatClampNeg (((va_up R4 0 (upd (R4 0) (10 : Int32).toNatClampNeg ((R4 0 (10 : Int32).toNatClampNeg) + v7))) 0 (11 : Int32).toNatClampNeg) + v14))) 0) ((134 : Int32) + a1).toNatClampNeg v17)) 0) ((14 : Int32) + a1).toNatClampNeg (a2 + (1 : Int32)))) 0) ((74 : Int32) + a1).toNatClampNeg v21)) 0 (upd ((va_up (va_up (va_up (va_up (va_up R4 0 (upd (R4 0) (10 : Int32).toNatClampNeg ((R4 0 (10 : Int32).toNatClampNeg) + v7))) 0 (upd ((va_up R4 0 (upd (R4 0) (10 : Int32).toNatClampNeg ((R4 0 (10 : Int32).toNatClampNeg) + v7))) 0) (11 : Int32).toNatClampNeg (((va_up R4 0 (upd (R4 0) (10 : Int32).toNatClampNeg ((R4 0 (10 : Int32).toNatClampNeg) + v7))) 0 (11 : Int32).toNatClampNeg) + v14))) 0 (upd ((va_up (va_up R4 0 (upd (R4 0) (10 : Int32).toNatClampNeg ((R4 0 (10 : Int32).toNatClampNeg) + v7))) 0 (upd ((va_up R4 0 (upd (R4 0) (10 : Int32).toNatClampNeg ((R4 0 (10 : Int32).toNatClampNeg) + v7))) 0) (11 : Int32).toNatClampNeg (((va_up R4 0 (upd (R4 0) (10 : Int32).toNatClampNeg ((R4 0 (10 : Int32).toNatClampNeg) + v7))) 0 (11 : Int32).toNatClampNeg) + v14))) 0) ((134 : Int32) + a1).toNatClampNeg v17)) 0 (upd ((va_up (va_up (va_up R4 0 (upd (R4 0) (10 : Int32).toNatClampNeg ((R4 0 (10 : Int32).toNatClampNeg) + v7))) 0 (upd ((va_up R4 0 (upd (R4 0) (10 : Int32).toNatClampNeg ((R4 0 (10 : Int32).toNatClampNeg) + v7))) 0) (11 : Int32).toNatClampNeg (((va_up R4 0 (upd (R4 0) (10 : Int32).toNatClampNeg ((R4 0 (10 : Int32).toNatClampNeg) + v7))) 0 (11 : Int32).toNatClampNeg) + v14))) 0 (upd ((va_up (va_up R4 0 (upd (R4 0) (10 : Int32).toNatClampNeg ((R4 0 (10 : Int32).toNatClampNeg) + v7))) 0 (upd ((va_up R4 0 (upd (R4 0) (10 : Int32).toNatClampNeg ((R4 0 (10 : Int32).toNatClampNeg) + v7))) 0) (11 : Int32).toNatClampNeg (((va_up R4 0 (upd (R4 0) (10 : Int32).toNatClampNeg ((R4 0 (10 : Int32).toNatClampNeg) + v7))) 0 (11 : Int32).toNatClampNeg) + v14))) 0) ((134 : Int32) + a1).toNatClampNeg v17)) 0) ((14 : Int32) + a1).toNatClampNeg (a2 + (1 : Int32)))) 0 (upd ((va_up (va_up (va_up (va_up R4 0 (upd (R4 0) (10 : Int32).toNatClampNeg ((R4 0 (10 : Int32).toNatClampNeg) + v7))) 0 (upd ((va_up R4 0 (upd (R4 0) (10 : Int32).toNatClampNeg ((R4 0 (10 : Int32).toNatClampNeg) + v7))) 0) (11 : Int32).toNatClampNeg (((va_up R4 0 (upd (R4 0) (10 : Int32).toNatClampNeg ((R4 0 (10 : Int32).toNatClampNeg) + v7))) 0 (11 : Int32).toNatClampNeg) + v14))) 0 (upd ((va_up (va_up R4 0 (upd (R4 0) (10 : Int32).toNatClampNeg ((R4 0 (10 : Int32).toNatClampNeg) + v7))) 0 (upd ((va_up R4 0 (upd (R4 0) (10 : Int32).toNatClampNeg ((R4 0 (10 : Int32).toNatClampNeg) + v7))) 0) (11 : Int32).toNatClampNeg (((va_up R4 0 (upd (R4 0) (10 : Int32).toNatClampNeg ((R4 0 (10 : Int32).toNatClampNeg) + v7))) 0 (11 : Int32).toNatClampNeg) + v14))) 0) ((134 : Int32) + a1).toNatClampNeg v17)) 0 (upd ((va_up (va_up (va_up R4 0 (upd (R4 0) (10 : Int32).toNatClampNeg ((R4 0 (10 : Int32).toNatClampNeg) + v7))) 0 (upd ((va_up R4 0 (upd (R4 0) (10 : Int32).toNatClampNeg ((R4 0 (10 : Int32).toNatClampNeg) + v7))) 0) (11 : Int32).toNatClampNeg (((va_up R4 0 (upd (R4 0) (10 : Int32).toNatClampNeg ((R4 0 (10 : Int32).toNatClampNeg) + v7))) 0 (11 : Int32).toNatClampNeg) + v14))) 0 (upd ((va_up (va_up R4 0 (upd (R4 0) (10 : Int32).toNatClampNeg ((R4 0 (10 : Int32).toNatClampNeg) + v7))) 0 (upd ((va_up R4 0 (upd (R4 0) (10 : Int32).toNatClampNeg ((R4 0 (10 : Int32).toNatClampNeg) + v7))) 0) (11 : Int32).toNatClampNeg (((va_up R4 0 (upd (R4 0) (10 : Int32).toNatClampNeg ((R4 0 (10 : Int32).toNatClampNeg) + v7))) 0 (11 : Int32).toNatClampNeg) + v14))) 0) ((134 : Int32) + a1).toNatClampNeg v17)) 0) ((14 : Int32) + a1).toNatClampNeg (a2 + (1 : Int32)))) 0) ((74 : Int32) + a1).toNatClampNeg v21)) 0) (12 : Int32).toNatClampNeg (((va_up (va_up (va_up (va_up (va_up R4 0 (upd (R4 0) (10 : Int32).toNatClampNeg ((R4 0 (10 : Int32).toNatClampNeg) + v7))) 0 (upd ((va_up R4 0 (upd (R4 0) (10 : Int32).toNatClampNeg ((R4 0 (10 : Int32).toNatClampNeg) + v7))) 0) (11 : Int32).toNatClampNeg (((va_up R4 0 (upd (R4 0) (10 : Int32).toNatClampNeg ((R4 0 (10 : Int32).toNatClampNeg) + v7))) 0 (11 : Int32).toNatClampNeg) + v14))) 0 (upd ((va_up (va_up R4 0 (upd (R4 0) (10 : Int32).toNatClampNeg ((R4 0 (10 : Int32).toNatClampNeg) + v7))) 0 (upd ((va_up R4 0 (upd (R4 0) (10 : Int32).toNatClampNeg ((R4 0 (10 : Int32).toNatClampNeg) + v7))) 0) (11 : Int32).toNatClampNeg (((va_up R4 0 (upd (R4 0) (10 : Int32).toNatClampNeg ((R4 0 (10 : Int32).toNatClampNeg) + v7))) 0 (11 : Int32).toNatClampNeg) + v14))) 0) ((134 : Int32) + a1).toNatClampNeg v17)) 0 (upd ((va_up (va_up (va_up R4 0 (upd (R4 0) (10 : Int32).toNatClampNeg ((R4 0 (10 : Int32).toNatClampNeg) + v7))) 0 (upd ((va_up R4 0 (upd (R4 0) (10 : Int32).toNatClampNeg ((R4 0 (10 : Int32).toNatClampNeg) + v7))) 0) (11 : Int32).toNatClampNeg (((va_up R4 0 (upd (R4 0) (10 : Int32).toNatClampNeg ((R4 0 (10 : Int32).toNatClampNeg) + v7))) 0 (11 : Int32).toNatClampNeg) + v14))) 0 (upd ((va_up (va_up R4 0 (upd (R4 0) (10 : Int32).toNatClampNeg ((R4 0 (10 : Int32).toNatClampNeg) + v7))) 0 (upd ((va_up R4 0 (upd (R4 0) (10 : Int32).toNatClampNeg ((R4 0 (10 : Int32).toNatClampNeg) + v7))) 0) (11 : Int32).toNatClampNeg (((va_up R4 0 (upd (R4 0) (10 : Int32).toNatClampNeg ((R4 0 (10 : Int32).toNatClampNeg) + v7))) 0 (11 : Int32).toNatClampNeg) + v14))) 0) ((134 : Int32) + a1).toNatClampNeg v17)) 0) ((14 : Int32) + a1).toNatClampNeg (a2 + (1 : Int32)))) 0 (upd ((va_up (va_up (va_up (va_up R4 0 (upd (R4 0) (10 : Int32).toNatClampNeg ((R4 0 (10 : Int32).toNatClampNeg) + v7))) 0 (upd ((va_up R4 0 (upd (R4 0) (10 : Int32).toNatClampNeg ((R4 0 (10 : Int32).toNatClampNeg) + v7))) 0) (11 : Int32).toNatClampNeg (((va_up R4 0 (upd (R4 0) (10 : Int32).toNatClampNeg ((R4 0 (10 : Int32).toNatClampNeg) + v7))) 0 (11 : Int32).toNatClampNeg) + v14))) 0 (upd ((va_up (va_up R4 0 (upd (R4 0) (10 : Int32).toNatClampNeg ((R4 0 (10 : Int32).toNatClampNeg) + v7))) 0 (upd ((va_up R4 0 (upd (R4 0) (10 : Int32).toNatClampNeg ((R4 0 (10 : Int32).toNatClampNeg) + v7))) 0) (11 : Int32).toNatClampNeg (((va_up R4 0 (upd (R4 0) (10 : Int32).toNatClampNeg ((R4 0 (10 : Int32).toNatClampNeg) + v7))) 0 (11 : Int32).toNatClampNeg) + v14))) 0) ((134 : Int32) + a1).toNatClampNeg v17)) 0 (upd ((va_up (va_up (va_up R4 0 (upd (R4 0) (10 : Int32).toNatClampNeg ((R4 0 (10 : Int32).toNatClampNeg) + v7))) 0 (upd ((va_up R4 0 (upd (R4 0) (10 : Int32).toNatClampNeg ((R4 0 (10 : Int32).toNatClampNeg) + v7))) 0) (11 : Int32).toNatClampNeg (((va_up R4 0 (upd (R4 0) (10 : Int32).toNatClampNeg ((R4 0 (10 : Int32).toNatClampNeg) + v7))) 0 (11 : Int32).toNatClampNeg) + v14))) 0 (upd ((va_up (va_up R4 0 (upd (R4 0) (10 : Int32).toNatClampNeg ((R4 0 (10 : Int32).toNatClampNeg) + v7))) 0 (upd ((va_up R4 0 (upd (R4 0) (10 : Int32).toNatClampNeg ((R4 0 (10 : Int32).toNatClampNeg) + v7))) 0) (11 : Int32).toNatClampNeg (((va_up R4 0 (upd (R4 0) (10 : Int32).toNatClampNeg ((R4 0 (10 : Int32).toNatClampNeg) + v7))) 0 (11 : Int32).toNatClampNeg) + v14))) 0) ((134 : Int32) + a1).toNatClampNeg v17)) 0) ((14 : Int32) + a1).toNatClampNeg (a2 + (1 : Int32)))) 0) ((74 : Int32) + a1).toNatClampNeg v21)) 0 (12 : Int32).toNatClampNeg) + v26)))) else none
  else
  some (F3, (va_up (va_up (va_up (va_up (va_up (va_up R4 0 (upd (R4 0) (10 : Int32).toNatClampNeg ((R4 0 (10 : Int32).toNatClampNeg) + v7))) 0 (upd ((va_up R4 0 (upd (R4 0) (10 : Int32).toNatClampNeg ((R4 0 (10 : Int32).toNatClampNeg) + v7))) 0) (11 : Int32).toNatClampNeg (((va_up R4 0 (upd (R4 0) (10 : Int32).toNatClampNeg ((R4 0 (10 : Int32).toNatClampNeg) + v7))) 0 (11 : Int32).toNatClampNeg) + v14))) 0 (upd ((va_up (va_up R4 0 (upd (R4 0) (10 : Int32).toNatClampNeg ((R4 0 (10 : Int32).toNatClampNeg) + v7))) 0 (upd ((va_up R4 0 (upd (R4 0) (10 : Int32).toNatClampNeg ((R4 0 (10 : Int32).toNatClampNeg) + v7))) 0) (11 : Int32).toNatClampNeg (((va_up R4 0 (upd (R4 0) (10 : Int32).toNatClampNeg ((R4 0 (10 : Int32).toNatClampNeg) + v7))) 0 (11 : Int32).toNatClampNeg) + v14))) 0) ((134 : Int32) + a1).toNatClampNeg v17)) 0 (upd ((va_up (va_up (va_up R4 0 (upd (R4 0) (10 : Int32).toNatClampNeg ((R4 0 (10 : Int32).toNatClampNeg) + v7))) 0 (upd ((va_up R4 0 (upd (R4 0) (10 : Int32).toNatClampNeg ((R4 0 (10 : Int32).toNatClampNeg) + v7))) 0) (11 : Int32).toNatClampNeg (((va_up R4 0 (upd (R4 0) (10 : Int32).toNatClampNeg ((R4 0 (10 : Int32).toNatClampNeg) + v7))) 0 (11 : Int32).toNatClampNeg) + v14))) 0 (upd ((va_up (va_up R4 0 (upd (R4 0) (10 : Int32).toNatClampNeg ((R4 0 (10 : Int32).toNatClampNeg) + v7))) 0 (upd ((va_up R4 0 (upd (R4 0) (10 : Int32).toNatClampNeg ((R4 0 (10 : Int32).toNatClampNeg) + v7))) 0) (11 : Int32).toNatClampNeg (((va_up R4 0 (upd (R4 0) (10 : Int32).toNatClampNeg ((R4 0 (10 : Int32).toNatClampNeg) + v7))) 0 (11 : Int32).toNatClampNeg) + v14))) 0) ((134 : Int32) + a1).toNatClampNeg v17)) 0) ((14 : Int32) + a1).toNatClampNeg (a2 + (1 : Int32)))) 0 (upd ((va_up (va_up (va_up (va_up R4 0 (upd (R4 0) (10 : Int32).toNatClampNeg ((R4 0 (10 : Int32).toNatClampNeg) + v7))) 0 (upd ((va_up R4 0 (upd (R4 0) (10 : Int32).toNatClampNeg ((R4 0 (10 : Int32).toNatClampNeg) + v7))) 0) (11 : Int32).toNatClampNeg (((va_up R4 0 (upd (R4 0) (10 : Int32).toNatClampNeg ((R4 0 (10 : Int32).toNatClampNeg) + v7))) 0 (11 : Int32).toNatClampNeg) + v14))) 0 (upd ((va_up (va_up R4 0 (upd (R4 0) (10 : Int32).toNatClampNeg ((R4 0 (10 : Int32).toNatClampNeg) + v7))) 0 (upd ((va_up R4 0 (upd (R4 0) (10 : Int32).toNatClampNeg ((R4 0 (10 : Int32).toNatClampNeg) + v7))) 0) (11 : Int32).toNatClampNeg (((va_up R4 0 (upd (R4 0) (10 : Int32).toNatClampNeg ((R4 0 (10 : Int32).toNatClampNeg) + v7))) 0 (11 : Int32).toNatClampNeg) + v14))) 0) ((134 : Int32) + a1).toNatClampNeg v17)) 0 (upd ((va_up (va_up (va_up R4 0 (upd (R4 0) (10 : Int32).toNatClampNeg ((R4 0 (10 : Int32).toNatClampNeg) + v7))) 0 (upd ((va_up R4 0 (upd (R4 0) (10 : Int32).toNatClampNeg ((R4 0 (10 : Int32).toNatClampNeg) + v7))) 0) (11 : Int32).toNatClampNeg (((va_up R4 0 (upd (R4 0) (10 : Int32).toNatClampNeg ((R4 0 (10 : Int32).toNatClampNeg) + v7))) 0 (11 : Int32).toNatClampNeg) + v14))) 0 (upd ((va_up (va_up R4 0 (upd (R4 0) (10 : Int32).toNatClampNeg ((R4 0 (10 : Int32).toNatClampNeg) + v7))) 0 (upd ((va_up R4 0 (upd (R4 0) (10 : Int32).toNatClampNeg ((R4 0 (10 : Int32).toNatClampNeg) + v7))) 0) (11 : Int32).toNatClampNeg (((va_up R4 0 (upd (R4 0) (10 : Int32).toNatClampNeg ((R4 0 (10 : Int32).toNatClampNeg) + v7))) 0 (11 : Int32).toNatClampNeg) + v14))) 0) ((134 : Int32) + a1).toNatClampNeg v17)) 0) ((14 : Int32) + a1).toNatClampNeg (a2 + (1 : Int32)))) 0) ((74 : Int32) + a1).toNatClampNeg v21)) 0 (upd ((va_up (va_up (va_up (va_up (va_up R4 0 (upd (R4 0) (10 : Int32).toNatClampNeg ((R4 0 (10 : Int32).toNatClampNeg) + v7))) 0 (upd ((va_up R4 0 (upd (R4 0) (10 : Int32).toNatClampNeg ((R4 0 (10 : Int32).toNatClampNeg) + v7))) 0) (11 : Int32).toNatClampNeg (((va_up R4 0 (upd (R4 0) (10 : Int32).toNatClampNeg ((R4 0 (10 : Int32).toNatClampNeg) + v7))) 0 (11 : Int32).toNatClampNeg) + v14))) 0 (upd ((va_up (va_up R4 0 (upd (R4 0) (10 : Int32).toNatClampNeg ((R4 0 (10 : Int32).toNatClampNeg) + v7))) 0 (upd ((va_up R4 0 (upd (R4 0) (10 : Int32).toNatClampNeg ((R4 0 (10 : Int32).toNatClampNeg) + v7))) 0) (11 : Int32).toNatClampNeg (((va_up R4 0 (upd (R4 0) (10 : Int32).toNatClampNeg ((R4 0 (10 : Int32).toNatClampNeg) + v7))) 0 (11 : Int32).toNatClampNeg) + v14))) 0) ((134 : Int32) + a1).toNatClampNeg v17)) 0 (upd ((va_up (va_up (va_up R4 0 (upd (R4 0) (10 : Int32).toNatClampNeg ((R4 0 (10 : Int32).toNatClampNeg) + v7))) 0 (upd ((va_up R4 0 (upd (R4 0) (10 : Int32).toNatClampNeg ((R4 0 (10 : Int32).toNatClampNeg) + v7))) 0) (11 : Int32).toNatClampNeg (((va_up R4 0 (upd (R4 0) (10 : Int32).toNatClampNeg ((R4 0 (10 : Int32).toNatClampNeg) + v7))) 0 (11 : Int32).toNatClampNeg) + v14))) 0 (upd ((va_up (va_up R4 0 (upd (R4 0) (10 : Int32).toNatClampNeg ((R4 0 (10 : Int32).toNatClampNeg) + v7))) 0 (upd ((va_up R4 0 (upd (R4 0) (10 : Int32).toNatClampNeg ((R4 0 (10 : Int32).toNatClampNeg) + v7))) 0) (11 : Int32).toNatClampNeg (((va_up R4 0 (upd (R4 0) (10 : Int32).toNatClampNeg ((R4 0 (10 : Int32).toNatClampNeg) + v7))) 0 (11 : Int32).toNatClampNeg) + v14))) 0) ((134 : Int32) + a1).toNatClampNeg v17)) 0) ((14 : Int32) + a1).toNatClampNeg (a2 + (1 : Int32)))) 0 (upd ((va_up (va_up (va_up (va_up R4 0 (upd (R4 0) (10 : Int32).toNatClampNeg ((R4 0 (10 : Int32).toNatClampNeg) + v7))) 0 (upd ((va_up R4 0 (upd (R4 0) (10 : Int32).toNatClampNeg ((R4 0 (10 : Int32).toNatClampNeg) + v7))) 0) (11 : Int32).toNatClampNeg (((va_up R4 0 (upd (R4 0) (10 : Int32).toNatClampNeg ((R4 0 (10 : Int32).toNatClampNeg) + v7))) 0 (11 : Int32).toNatClampNeg) + v14))) 0 (upd ((va_up (va_up R4 0 (upd (R4 0) (10 : Int32).toNatClampNeg ((R4 0 (10 : Int32).toNatClampNeg) + v7))) 0 (upd ((va_up R4 0 (upd (R4 0) (10 : Int32).toNatClampNeg ((R4 0 (10 : Int32).toNatClampNeg) + v7))) 0) (11 : Int32).toNatClampNeg (((va_up R4 0 (upd (R4 0) (10 : Int32).toNatClampNeg ((R4 0 (10 : Int32).toNatClampNeg) + v7))) 0 (11 : Int32).toNatClampNeg) + v14))) 0) ((134 : Int32) + a1).toNatClampNeg v17)) 0 (upd ((va_up (va_up (va_up R4 0 (upd (R4 0) (10 : Int32).toNatClampNeg ((R4 0 (10 : Int32).toNatClampNeg) + v7))) 0 (upd ((va_up R4 0 (upd (R4 0) (10 : Int32).toNatClampNeg ((R4 0 (10 : Int32).toNatClampNeg) + v7))) 0) (11 : Int32).toNatClampNeg (((va_up R4 0 (upd (R4 0) (10 : Int32).toNatClampNeg ((R4 0 (10 : Int32).toNatClampNeg) + v7))) 0 (11 : Int32).toNatClampNeg) + v14))) 0 (upd ((va_up (va_up R4 0 (upd (R4 0) (10 : Int32).toNatClampNeg ((R4 0 (10 : Int32).toNatClampNeg) + v7))) 0 (upd ((va_up R4 0 (upd (R4 0) (10 : Int32).toNatClampNeg ((R4 0 (10 : Int32).toNatClampNeg) + v7))) 0) (11 : Int32).toNatClampNeg (((va_up R4 0 (upd (R4 0) (10 : Int32).toNatClampNeg ((R4 0 (10 : Int32).toNatClampNeg) + v7))) 0 (11 : Int32).toNatClampNeg) + v14))) 0) ((134 : Int32) + a1).toNatClampNeg v17)) 0) ((14 : Int32) + a1).toNatClampNeg (a2 + (1 : Int32)))) 0) ((74 : Int32) + a1).toNatClampNeg v21)) 0) (12 : Int32).toNatClampNeg (((va_up (va_up (va_up (va_up (va_up R4 0 (upd (R4 0) (10 : Int32).toNatClampNeg ((R4 0 (10 : Int32).toNatClampNeg) + v7))) 0 (upd ((va_up R4 0 (upd (R4 0) (10 : Int32).toNatClampNeg ((R4 0 (10 : Int32).toNatClampNeg) + v7))) 0) (11 : Int32).toNatClampNeg (((va_up R4 0 (upd (R4 0) (10 : Int32).toNatClampNeg ((R4 0 (10 : Int32).toNatClampNeg) + v7))) 0 (11 : Int32).toNatClampNeg) + v14))) 0 (upd ((va_up (va_up R4 0 (upd (R4 0) (10 : Int32).toNatClampNeg ((R4 0 (10 : Int32).toNatClampNeg) + v7))) 0 (upd ((va_up R4 0 (upd (R4 0) (10 : Int32).toNatClampNeg ((R4 0 (10 : Int32).toNatClampNeg) + v7))) 0) (11 : Int32).toNatClampNeg (((va_up R4 0 (upd (R4 0) (10 : Int32).toNatClampNeg ((R4 0 (10 : Int32).toNatClampNeg) + v7))) 0 (11 : Int32).toNatClampNeg) + v14))) 0) ((134 : Int32) + a1).toNatClampNeg v17)) 0 (upd ((va_up (va_up (va_up R4 0 (upd (R4 0) (10 : Int32).toNatClampNeg ((R4 0 (10 : Int32).toNatClampNeg) + v7))) 0 (upd ((va_up R4 0 (upd (R4 0) (10 : Int32).toNatClampNeg ((R4 0 (10 : Int32).toNatClampNeg) + v7))) 0) (11 : Int32).toNatClampNeg (((va_up R4 0 (upd (R4 0) (10 : Int32).toNatClampNeg ((R4 0 (10 : Int32).toNatClampNeg) + v7))) 0 (11 : Int32).toNatClampNeg) + v14))) 0 (upd ((va_up (va_up R4 0 (upd (R4 0) (10 : Int32).toNatClampNeg ((R4 0 (10 : Int32).toNatClampNeg) + v7))) 0 (upd ((va_up R4 0 (upd (R4 0) (10 : Int32).toNatClampNeg ((R4 0 (10 : Int32).toNatClampNeg) + v7))) 0) (11 : Int32).toNatClampNeg (((va_up R4 0 (upd (R4 0) (10 : Int32).toNatClampNeg ((R4 0 (10 : Int32).toNatClampNeg) + v7))) 0 (11 : Int32).toNatClampNeg) + v14))) 0) ((134 : Int32) + a1).toNatClampNeg v17)) 0) ((14 : Int32) + a1).toNatClampNeg (a2 + (1 : Int32)))) 0 (upd ((va_up (va_up (va_up (va_up R4 0 (upd (R4 0) (10 : Int32).toNatClampNeg ((R4 0 (10 : Int32).toNatClampNeg) + v7))) 0 (upd ((va_up R4 0 (upd (R4 0) (10 : Int32).toNatClampNeg ((R4 0 (10 : Int32).toNatClampNeg) + v7))) 0) (11 : Int32).toNatClampNeg (((va_up R4 0 (upd (R4 0) (10 : Int32).toNatClampNeg ((R4 0 (10 : Int32).toNatClampNeg) + v7))) 0 (11 : Int32).toNatClampNeg) + v14))) 0 (upd ((va_up (va_up R4 0 (upd (R4 0) (10 : Int32).toNatClampNeg ((R4 0 (10 : Int32).toNatClampNeg) + v7))) 0 (upd ((va_up R4 0 (upd (R4 0) (10 : Int32).toNatClampNeg ((R4 0 (10 : Int32).toNatClampNeg) + v7))) 0) (11 : Int32).toNatClampNeg (((va_up R4 0 (upd (R4 0) (10 : Int32).toNatClampNeg ((R4 0 (10 : Int32).toNatClampNeg) + v7))) 0 (11 : Int32).toNatClampNeg) + v14))) 0) ((134 : Int32) + a1).toNatClampNeg v17)) 0 (upd ((va_up (va_up (va_up R4 0 (upd (R4 0) (10 : Int32).toNatClampNeg ((R4 0 (10 : Int32).toNatClampNeg) + v7))) 0 (upd ((va_up R4 0 (upd (R4 0) (10 : Int32).toNatClampNeg ((R4 0 (10 : Int32).toNatClampNeg) + v7))) 0) (11 : Int32).toNatClampNeg (((va_up R4 0 (upd (R4 0) (10 : Int32).toNatClampNeg ((R4 0 (10 : Int32).toNatClampNeg) + v7))) 0 (11 : Int32).toNatClampNeg) + v14))) 0 (upd ((va_up (va_up R4 0 (upd (R4 0) (10 : Int32).toNatClampNeg ((R4 0 (10 : Int32).toNatClampNeg) + v7))) 0 (upd ((va_up R4 0 (upd (R4 0) (10 : Int32).toNatClampNeg ((R4 0 (10 : Int32).toNatClampNeg) + v7))) 0) (11 : Int32).toNatClampNeg (((va_up R4 0 (upd (R4 0) (10 : Int32).toNatClampNeg ((R4 0 (10 : Int32).toNatClampNeg) + v7))) 0 (11 : Int32).toNatClampNeg) + v14))) 0) ((134 : Int32) + a1).toNatClampNeg v17)) 0) ((14 : Int32) + a1).toNatClampNeg (a2 + (1 : Int32)))) 0) ((74 : Int32) + a1).toNatClampNeg v21)) 0 (12 : Int32).toNatClampNeg) + v26))))).bind fun ⟨F28, R29⟩ => m5_hand_J226 v2 F28 R29
def m5_hand_J178 (a1 : Int32) (a2 : Int32) (v2 : Int32) (F3 : (Nat → Int32)) (R4 : (Nat → Nat → Int32)) (v7 : Int32) (v14 : Int32) (v17 : Int32) (v21 : Int32) : Option (Int32 × (Nat → Int32) × (Nat → Nat → Int32)) :=
  if inb ((74 : Int32) + a1) 194 then
  (m5_borrowed F3 (va_up (va_up (va_up (va_up (va_up R4 0 (upd (R4 0) (10 : Int32).toNatClampNeg ((R4 0 (10 : Int32).toNatClampNeg) + v7))) 0 (upd ((va_up R4 0 (upd (R4 0) (10 : Int32).toNatClampNeg ((R4 0 (10 : Int32).toNatClampNeg) + v7))) 0) (11 : Int32).toNatClampNeg (((va_up R4 0 (upd (R4 0) (10 : Int32).toNatClampNeg ((R4 0 (10 : Int32).toNatClampNeg) + v7))) 0 (11 : Int32).toNatClampNeg) + v14))) 0 (upd ((va_up (va_up R4 0 (upd (R4 0) (10 : Int32).toNatClampNeg ((R4 0 (10 : Int32).toNatClampNeg) + v7))) 0 (upd ((va_up R4 0 (upd (R4 0) (10 : Int32).toNatClampNeg ((R4 0 (10 : Int32).toNatClampNeg) + v7))) 0) (11 : Int32).toNatClampNeg (((va_up R4 0 (upd (R4 0) (10 : Int32).toNatClampNeg ((R4 0 (10 : Int32).toNatClampNeg) + v7))) 0 (11 : Int32).toNatClampNeg) + v14))) 0) ((134 : Int32) + a1).toNatClampNeg v17)) 0 (upd ((va_up (va_up (va_up R4 0 (upd (R4 0) (10 : Int32).toNatClampNeg ((R4 0 (10 : Int32).toNatClampNeg) + v7))) 0 (upd ((va_up R4 0 (upd (R4 0) (10 : Int32).toNatClampNeg ((R4 0 (10 : Int32).toNatClampNeg) + v7))) 0) (11 : Int32).toNatClampNeg (((va_up R4 0 (upd (R4 0) (10 : Int32).toNatClampNeg ((R4 0 (10 : Int32).toNatClampNeg) + v7))) 0 (11 : Int32).toNatClampNeg) + v14))) 0 (upd ((va_up (va_up R4 0 (upd (R4 0) (10 : Int32).toNatClampNeg ((R4 0 (10 : Int32).toNatClampNeg) + v7))) 0 (upd ((va_up R4 0 (upd (R4 0) (10 : Int32).toNatClampNeg ((R4 0 (10 : Int32).toNatClampNeg) + v7))) 0) (11 : Int32).toNatClampNeg (((va_up R4 0 (upd (R4 0) (10 : Int32).toNatClampNeg ((R4 0 (10 : Int32).toNatClampNeg) + v7))) 0 (11 : Int32).toNatClampNeg) + v14))) 0) ((134 : Int32) + a1).toNatClampNeg v17)) 0) ((14 : Int32) + a1).toNatClampNeg (a2 + (1 : Int32)))) 0 (upd ((va_up (va_up (va_up (va_up R4 0 (upd (R4 0) (10 : Int32).toNatClampNeg ((R4 0 (10 : Int32).toNatClampNeg) + v7))) 0 (upd ((va_up R4 0 (upd (R4 0) (10 : Int32).toNatClampNeg ((R4 0 (10 : Int32).toNatClampNeg) + v7))) 0) (11 : Int32).toNatClampNeg (((va_up R4 0 (upd (R4 0) (10 : Int32).toNatClampNeg ((R4 0 (10 : Int32).toNatClampNeg) + v7))) 0 (11 : Int32).toNatClampNeg) + v14))) 0 (upd ((va_up (va_up R4 0 (upd (R4 0) (10 : Int32).toNatClampNeg ((R4 0 (10 : Int32).toNatClampNeg) + v7))) 0 (upd ((va_up R4 0 (upd (R4 0) (10 : Int32).toNatClampNeg ((R4 0 (10 : Int32).toNatClampNeg) + v7))) 0) (11 : Int32).toNatClampNeg (((va_up R4 0 (upd (R4 0) (10 : Int32).toNatClampNeg ((R4 0 (10 : Int32).toNatClampNeg) + v7))) 0 (11 : Int32).toNatClampNeg) + v14))) 0) ((134 : Int32) + a1).toNatClampNeg v17)) 0 (upd ((va_up (va_up (va_up R4 0 (upd (R4 0) (10 : Int32).toNatClampNeg ((R4 0 (10 : Int32).toNatClampNeg) + v7))) 0 (upd ((va_up R4 0 (upd (R4 0) (10 : Int32).toNatClampNeg ((R4 0 (10 : Int32).toNatClampNeg) + v7))) 0) (11 : Int32).toNatClampNeg (((va_up R4 0 (upd (R4 0) (10 : Int32).toNatClampNeg ((R4 0 (10 : Int32).toNatClampNeg) + v7))) 0 (11 : Int32).toNatClampNeg) + v14))) 0 (upd ((va_up (va_up R4 0 (upd (R4 0) (10 : Int32).toNatClampNeg ((R4 0 (10 : Int32).toNatClampNeg) + v7))) 0 (upd ((va_up R4 0 (upd (R4 0) (10 : Int32).toNatClampNeg ((R4 0 (10 : Int32).toNatClampNeg) + v7))) 0) (11 : Int32).toNatClampNeg (((va_up R4 0 (upd (R4 0) (10 : Int32).toNatClampNeg ((R4 0 (10 : Int32).toNatClampNeg) + v7))) 0 (11 : Int32).toNatClampNeg) + v14))) 0) ((134 : Int32) + a1).toNatClampNeg v17)) 0) ((14 : Int32) + a1).toNatClampNeg (a2 + (1 : Int32)))) 0) ((74 : Int32) + a1).toNatClampNeg v21)) a1).bind fun v25 =>
  (if v25 = 0 then
  some (0 : Int32)
  else
  some (1 : Int32)).bind fun v26 => m5_hand_J200 a1 a2 v2 F3 R4 v7 v14 v17 v21 v26 else none
def m5_hand_J144 (a1 : Int32) (a2 : Int32) (v2 : Int32) (F3 : (Nat → Int32)) (R4 : (Nat → Nat → Int32)) (v7 : Int32) (v14 : Int32) (v17 : Int32) : Option (Int32 × (Nat → Int32) × (Nat → Nat → Int32)) :=
  if inb ((134 : Int32) + a1) 194 then
  if inb ((14 : Int32) + a1) 194 then
  (if v2 = (-9 : Int32) then
  some (0 : Int32)
  else
  some (v2 + (1 : Int32))).bind fun v21 => m5_hand_J178 a1 a2 v2 F3 R4 v7 v14 v17 v21 else none else none
def m5_hand_J109 (a1 : Int32) (a2 : Int32) (v2 : Int32) (F3 : (Nat → Int32)) (R4 : (Nat → Nat → Int32)) (v7 : Int32) (v11 : Int32) (v14 : Int32) : Option (Int32 × (Nat → Int32) × (Nat → Nat → Int32)) :=
  if inb ((134 : Int32) + a1) 194 then
  (if ((va_up (va_up R4 0 (upd (R4 0) (10 : Int32).toNatClampNeg ((R4 0 (10 : Int32).toNatClampNeg) + v7))) 0 (upd ((va_up R4 0 (upd (R4 0) (10 : Int32).toNatClampNeg ((R4 0 (10 : Int32).toNatClampNeg) + v7))) 0) (11 : Int32).toNatClampNeg (((va_up R4 0 (upd (R4 0) (10 : Int32).toNatClampNeg ((R4 0 (10 : Int32).toNatClampNeg) + v7))) 0 (11 : Int32).toNatClampNeg) + v14))) 0 ((134 : Int32) + a1).toNatClampNeg) = (1 : Int32) then
  if v11 = 0 then
  some (0 : Int32)
  else
  some (1 : Int32)
  else
  some (0 : Int32)).bind fun v17 => m5_hand_J144 a1 a2 v2 F3 R4 v7 v14 v17 else none
def m5_hand_J75 (a1 : Int32) (a2 : Int32) (v2 : Int32) (F3 : (Nat → Int32)) (R4 : (Nat → Nat → Int32)) (v7 : Int32) (v11 : Int32) : Option (Int32 × (Nat → Int32) × (Nat → Nat → Int32)) :=
  if inb ((134 : Int32) + a1) 194 then
  (if ((va_up R4 0 (upd (R4 0) (10 : Int32).toNatClampNeg ((R4 0 (10 : Int32).toNatClampNeg) + v7))) 0 ((134 : Int32) + a1).toNatClampNeg) = (1 : Int32) then
  if v11 = 0 then
  some (1 : Int32)
  else
  some (0 : Int32)
  else
  some (0 : Int32)).bind fun v14 => m5_hand_J109 a1 a2 v2 F3 R4 v7 v11 v14 else none
def m5_hand_J54 (a1 : Int32) (a2 : Int32) (v2 : Int32) (F3 : (Nat → Int32)) (R4 : (Nat → Nat → Int32)) (v7 : Int32) : Option (Int32 × (Nat → Int32) × (Nat → Nat → Int32)) :=
  (m5_fixedIn F3 (va_up R4 0 (upd (R4 0) (10 : Int32).toNatClampNeg ((R4 0 (10 : Int32).toNatClampNeg) + v7))) a2).bind fun v10 =>
  (if ((va_up R4 0 (upd (R4 0) (10 : Int32).toNatClampNeg ((R4 0 (10 : Int32).toNatClampNeg) + v7))) 0 (3 : Int32).toNatClampNeg) ≤ v10 then
  some (0 : Int32)
  else
  some (1 : Int32)).bind fun v11 => m5_hand_J75 a1 a2 v2 F3 R4 v7 v11
def m5_hand_J22 (a1 : Int32) (a2 : Int32) (v2 : Int32) (F3 : (Nat → Int32)) (R4 : (Nat → Nat → Int32)) : Option (Int32 × (Nat → Int32) × (Nat → Nat → Int32)) :=
  if inb ((74 : Int32) + a1) 194 then
  (if (R4 0 ((74 : Int32) + a1).toNatClampNeg) ≤ 0 then
  some (0 : Int32)
  else
  if v2 = (-9 : Int32) then
  some (1 : Int32)
  else
  some (0 : Int32)).bind fun v7 => m5_hand_J54 a1 a2 v2 F3 R4 v7 else none
def m5_hand (F : (Nat → Int32)) (R : (Nat → Nat → Int32)) (a1 : Int32) (a2 : Int32) : Option (Int32 × (Nat → Int32) × (Nat → Nat → Int32)) :=
  if inb ((74 : Int32) + a1) 194 then
  (if (R 0 ((74 : Int32) + a1).toNatClampNeg) = 0 then
  some ((-9 : Int32), F, R)
  else
  (m5_choose F R a2).bind fun ⟨v57, F55, R56⟩ =>
  some (v57, F55, R56)).bind fun ⟨v2, F3, R4⟩ => m5_hand_J22 a1 a2 v2 F3 R4 else none
abbrev rm_X5_hand : Room := { frames := 6, cells := 0, slots := 0, locals := 142 }
set_option maxHeartbeats 4000000 in
set_option maxRecDepth 100000 in
theorem c_X5_hand (l : Launch) (D : va_G) (y : Nat → ClassId) (A : Nat → Nat) (F : (Nat → Int32)) (R : (Nat → Nat → Int32)) (a1 : Int32) (a2 : Int32) (rr9 : Int32) (FF9 : (Nat → Int32)) (RR9 : (Nat → Nat → Int32)) (sz : Nat) (hI : aj_s 7 A) (hm : m5_hand F R a1 a2 = some (rr9, FF9, RR9)) : Met l yX5_hand (wy_s yX5_hand cX5_hand 6 (some .int)) rm_X5_hand (pc_R D y [.ref (A 0), .int a1, .int a2] (fun H => H.size = sz ∧ va_P D vwCl (w5_s y A F R) H)) (qc_W (some (.int rr9)) (fun H => va_P D vwCl (w5_s y A FF9 RR9) H) (rg_s 7 A sz)) 0 0 (rg_s 7 A sz) := by
  refine met_W (by decide) (Nat.le_of_ble_eq_true rfl) ?_
  intro p e s m args below meth c X hnm h0 ls hl
  obtain ⟨hsz, hP⟩ := h0
  subst hsz
  have hA := ap_of (sz := s.heap.size) hI
  have hS : va_S (rg_s 7 A s.heap.size) s.heap s.heap [] := va_S.rf
  replace hl : lv_has ls 6 [(0, .ref (A 0)), (1, .int a1), (2, .int a2)] := hl
  replace X : cx p s m args meth c cX5_hand 6 (some .int) RX5 D y := X
  unfold m5_hand at hm
  refine lv_aload_n (cx_x X) (cx_b X) dX5_hand_0 rfl (lv_at hl 0 rfl) ?_
  refine gf_X5_7 X hP dX5_hand_1 ?_
  refine lv_bipush (v := (74 : Int32)) (cx_x X) (cx_b X) dX5_hand_4 (by decide) ?_
  refine lv_iload_n (cx_x X) (cx_b X) dX5_hand_6 rfl (lv_at hl 1 rfl) ?_
  refine lv_iadd (cx_x X) (cx_b X) dX5_hand_7 ?_
  obtain ⟨h1, hm⟩ := ck_E hm
  refine ld_5_0 X hP h1 dX5_hand_8 ?_
  obtain ⟨qt5, hm, hmt5⟩ := bnd hm
  have Jt5 : ∀ (v2 : Int32) (F3 : (Nat → Int32)) (R4 : (Nat → Nat → Int32)) , m5_hand_J22 a1 a2 v2 F3 R4 = some (rr9, FF9, RR9) → ∀ (H : Heap) (locs : List Loc), va_P D vwCl (w5_s y A F3 R4) H → va_S (rg_s 7 A s.heap.size) s.heap H locs → ∀ ls, lv_has ls 6 [(0, .ref (A 0)), (1, .int a1), (2, .int a2)] → gw p l e rm_X5_hand s m args below meth c (some (.int rr9)) (fun H => va_P D vwCl (w5_s y A FF9 RR9) H) (rg_s 7 A s.heap.size) 0 0 H locs (F0 m 22 ls [.int v2]) := by
    intro v2 F3 R4 hm H locs hP hS ls hl
    unfold m5_hand_J22 at hm
    refine lv_istore_n (lv' := [(3, .int v2), (0, .ref (A 0)), (1, .int a1), (2, .int a2)]) (cx_x X) (cx_b X) dX5_hand_22 rfl hl (by decide) rfl (fun ls hl => ?_)
    refine lv_aload_n (cx_x X) (cx_b X) dX5_hand_23 rfl (lv_at hl 1 rfl) ?_
    refine gf_X5_7 X hP dX5_hand_24 ?_
    refine lv_bipush (v := (10 : Int32)) (cx_x X) (cx_b X) dX5_hand_27 (by decide) ?_
    refine lv_dup2_11 (cx_x X) (cx_b X) dX5_hand_29 rfl rfl ?_
    refine ld_5_0 X hP (by decide) dX5_hand_30 ?_
    refine lv_aload_n (cx_x X) (cx_b X) dX5_hand_31 rfl (lv_at hl 1 rfl) ?_
    refine gf_X5_7 X hP dX5_hand_32 ?_
    refine lv_bipush (v := (74 : Int32)) (cx_x X) (cx_b X) dX5_hand_35 (by decide) ?_
    refine lv_iload_n (cx_x X) (cx_b X) dX5_hand_37 rfl (lv_at hl 2 rfl) ?_
    refine lv_iadd (cx_x X) (cx_b X) dX5_hand_38 ?_
    obtain ⟨h6, hm⟩ := ck_E hm
    refine ld_5_0 X hP h6 dX5_hand_39 ?_
    obtain ⟨qt8, hm, hmt8⟩ := bnd hm
    have Jt8 : ∀ (v7 : Int32) , m5_hand_J54 a1 a2 v2 F3 R4 v7 = some (rr9, FF9, RR9) → ∀ (H : Heap) (locs : List Loc), va_P D vwCl (w5_s y A F3 R4) H → va_S (rg_s 7 A s.heap.size) s.heap H locs → ∀ ls, lv_has ls 6 [(0, .ref (A 0)), (1, .int a1), (2, .int a2), (3, .int v2)] → gw p l e rm_X5_hand s m args below meth c (some (.int rr9)) (fun H => va_P D vwCl (w5_s y A FF9 RR9) H) (rg_s 7 A s.heap.size) 0 0 H locs (F0 m 54 ls [.int v7, .int (R4 0 (10 : Int32).toNatClampNeg), .int (10 : Int32), .ref (A 1)]) := by
      intro v7 hm H locs hP hS ls hl
      unfold m5_hand_J54 at hm
      refine lv_iadd (cx_x X) (cx_b X) dX5_hand_54 ?_
      refine st_5_0 X hP hA hS (by decide) dX5_hand_55 (fun H locs hP hS => ?_)
      refine lv_aload_n (cx_x X) (cx_b X) dX5_hand_56 rfl (lv_at hl 0 rfl) ?_
      refine lv_iload_n (cx_x X) (cx_b X) dX5_hand_57 rfl (lv_at hl 2 rfl) ?_
      obtain ⟨v10, h9, hm⟩ := bnd hm
      refine af_R (rn_V (As := [.int a2]) (rest := []) X (c_X5_fixedIn l D y A F3 (va_up R4 0 (upd (R4 0) (10 : Int32).toNatClampNeg ((R4 0 (10 : Int32).toNatClampNeg) + v7))) a2  _ h9) vq_X5_94 ⟨rfl, rfl⟩ ⟨Nat.le_of_ble_eq_true rfl, Nat.le_of_ble_eq_true rfl⟩ (rec_5 X hP) hP rfl hl.1 rfl (Nat.le_of_ble_eq_true rfl) dX5_hand_58 ⟨Nat.le_of_ble_eq_true rfl, Nat.le_of_ble_eq_true rfl⟩) ?_
      refine lv_aload_n (cx_x X) (cx_b X) dX5_hand_61 rfl (lv_at hl 0 rfl) ?_
      refine gf_X5_7 X hP dX5_hand_62 ?_
      refine lv_iconst (v := (3 : Int32)) (cx_x X) (cx_b X) dX5_hand_65 (by decide) ?_
      refine ld_5_0 X hP (by decide) dX5_hand_66 ?_
      obtain ⟨qt12, hm, hmt12⟩ := bnd hm
      have Jt12 : ∀ (v11 : Int32) , m5_hand_J75 a1 a2 v2 F3 R4 v7 v11 = some (rr9, FF9, RR9) → ∀ (H : Heap) (locs : List Loc), va_P D vwCl (w5_s y A F3 (va_up R4 0 (upd (R4 0) (10 : Int32).toNatClampNeg ((R4 0 (10 : Int32).toNatClampNeg) + v7)))) H → va_S (rg_s 7 A s.heap.size) s.heap H locs → ∀ ls, lv_has ls 6 [(0, .ref (A 0)), (1, .int a1), (2, .int a2), (3, .int v2)] → gw p l e rm_X5_hand s m args below meth c (some (.int rr9)) (fun H => va_P D vwCl (w5_s y A FF9 RR9) H) (rg_s 7 A s.heap.size) 0 0 H locs (F0 m 75 ls [.int v11]) := by
        intro v11 hm H locs hP hS ls hl
        unfold m5_hand_J75 at hm
        refine lv_istore (lv' := [(4, .int v11), (0, .ref (A 0)), (1, .int a1), (2, .int a2), (3, .int v2)]) (cx_x X) (cx_b X) dX5_hand_75 hl (by decide) rfl (fun ls hl => ?_)
        refine lv_aload_n (cx_x X) (cx_b X) dX5_hand_77 rfl (lv_at hl 1 rfl) ?_
        refine gf_X5_7 X hP dX5_hand_78 ?_
        refine lv_bipush (v := (11 : Int32)) (cx_x X) (cx_b X) dX5_hand_81 (by decide) ?_
        refine lv_dup2_11 (cx_x X) (cx_b X) dX5_hand_83 rfl rfl ?_
        refine ld_5_0 X hP (by decide) dX5_hand_84 ?_
        refine lv_aload_n (cx_x X) (cx_b X) dX5_hand_85 rfl (lv_at hl 1 rfl) ?_
        refine gf_X5_7 X hP dX5_hand_86 ?_
        refine lv_sipush (v := (134 : Int32)) (cx_x X) (cx_b X) dX5_hand_89 (by decide) ?_
        refine lv_iload_n (cx_x X) (cx_b X) dX5_hand_92 rfl (lv_at hl 2 rfl) ?_
        refine lv_iadd (cx_x X) (cx_b X) dX5_hand_93 ?_
        obtain ⟨h13, hm⟩ := ck_E hm
        refine ld_5_0 X hP h13 dX5_hand_94 ?_
        refine lv_iconst (v := (1 : Int32)) (cx_x X) (cx_b X) dX5_hand_95 (by decide) ?_
        obtain ⟨qt15, hm, hmt15⟩ := bnd hm
        have Jt15 : ∀ (v14 : Int32) , m5_hand_J109 a1 a2 v2 F3 R4 v7 v11 v14 = some (rr9, FF9, RR9) → ∀ (H : Heap) (locs : List Loc), va_P D vwCl (w5_s y A F3 (va_up R4 0 (upd (R4 0) (10 : Int32).toNatClampNeg ((R4 0 (10 : Int32).toNatClampNeg) + v7)))) H → va_S (rg_s 7 A s.heap.size) s.heap H locs → ∀ ls, lv_has ls 6 [(0, .ref (A 0)), (1, .int a1), (2, .int a2), (3, .int v2), (4, .int v11)] → gw p l e rm_X5_hand s m args below meth c (some (.int rr9)) (fun H => va_P D vwCl (w5_s y A FF9 RR9) H) (rg_s 7 A s.heap.size) 0 0 H locs (F0 m 109 ls [.int v14, .int ((va_up R4 0 (upd (R4 0) (10 : Int32).toNatClampNeg ((R4 0 (10 : Int32).toNatClampNeg) + v7))) 0 (11 : Int32).toNatClampNeg), .int (11 : Int32), .ref (A 1)]) := by
          intro v14 hm H locs hP hS ls hl
          unfold m5_hand_J109 at hm
          refine lv_iadd (cx_x X) (cx_b X) dX5_hand_109 ?_
          refine st_5_0 X hP hA hS (by decide) dX5_hand_110 (fun H locs hP hS => ?_)
          refine lv_aload_n (cx_x X) (cx_b X) dX5_hand_111 rfl (lv_at hl 0 rfl) ?_
          refine gf_X5_7 X hP dX5_hand_112 ?_
          refine lv_sipush (v := (134 : Int32)) (cx_x X) (cx_b X) dX5_hand_115 (by decide) ?_
          refine lv_iload_n (cx_x X) (cx_b X) dX5_hand_118 rfl (lv_at hl 1 rfl) ?_
          refine lv_iadd (cx_x X) (cx_b X) dX5_hand_119 ?_
          refine lv_aload_n (cx_x X) (cx_b X) dX5_hand_120 rfl (lv_at hl 0 rfl) ?_
          refine gf_X5_7 X hP dX5_hand_121 ?_
          refine lv_sipush (v := (134 : Int32)) (cx_x X) (cx_b X) dX5_hand_124 (by decide) ?_
          refine lv_iload_n (cx_x X) (cx_b X) dX5_hand_127 rfl (lv_at hl 1 rfl) ?_
          refine lv_iadd (cx_x X) (cx_b X) dX5_hand_128 ?_
          obtain ⟨h16, hm⟩ := ck_E hm
          refine ld_5_0 X hP h16 dX5_hand_129 ?_
          refine lv_iconst (v := (1 : Int32)) (cx_x X) (cx_b X) dX5_hand_130 (by decide) ?_
          obtain ⟨qt18, hm, hmt18⟩ := bnd hm
          have Jt18 : ∀ (v17 : Int32) , m5_hand_J144 a1 a2 v2 F3 R4 v7 v14 v17 = some (rr9, FF9, RR9) → ∀ (H : Heap) (locs : List Loc), va_P D vwCl (w5_s y A F3 (va_up (va_up R4 0 (upd (R4 0) (10 : Int32).toNatClampNeg ((R4 0 (10 : Int32).toNatClampNeg) + v7))) 0 (upd ((va_up R4 0 (upd (R4 0) (10 : Int32).toNatClampNeg ((R4 0 (10 : Int32).toNatClampNeg) + v7))) 0) (11 : Int32).toNatClampNeg (((va_up R4 0 (upd (R4 0) (10 : Int32).toNatClampNeg ((R4 0 (10 : Int32).toNatClampNeg) + v7))) 0 (11 : Int32).toNatClampNeg) + v14)))) H → va_S (rg_s 7 A s.heap.size) s.heap H locs → ∀ ls, lv_has ls 6 [(0, .ref (A 0)), (1, .int a1), (2, .int a2), (3, .int v2)] → gw p l e rm_X5_hand s m args below meth c (some (.int rr9)) (fun H => va_P D vwCl (w5_s y A FF9 RR9) H) (rg_s 7 A s.heap.size) 0 0 H locs (F0 m 144 ls [.int v17, .int ((134 : Int32) + a1), .ref (A 1)]) := by
            intro v17 hm H locs hP hS ls hl
            unfold m5_hand_J144 at hm
            obtain ⟨h19, hm⟩ := ck_E hm
            refine st_5_0 X hP hA hS h19 dX5_hand_144 (fun H locs hP hS => ?_)
            refine lv_aload_n (cx_x X) (cx_b X) dX5_hand_145 rfl (lv_at hl 0 rfl) ?_
            refine gf_X5_7 X hP dX5_hand_146 ?_
            refine lv_bipush (v := (14 : Int32)) (cx_x X) (cx_b X) dX5_hand_149 (by decide) ?_
            refine lv_iload_n (cx_x X) (cx_b X) dX5_hand_151 rfl (lv_at hl 1 rfl) ?_
            refine lv_iadd (cx_x X) (cx_b X) dX5_hand_152 ?_
            refine lv_iload_n (cx_x X) (cx_b X) dX5_hand_153 rfl (lv_at hl 2 rfl) ?_
            refine lv_iconst (v := (1 : Int32)) (cx_x X) (cx_b X) dX5_hand_154 (by decide) ?_
            refine lv_iadd (cx_x X) (cx_b X) dX5_hand_155 ?_
            obtain ⟨h20, hm⟩ := ck_E hm
            refine st_5_0 X hP hA hS h20 dX5_hand_156 (fun H locs hP hS => ?_)
            refine lv_aload_n (cx_x X) (cx_b X) dX5_hand_157 rfl (lv_at hl 0 rfl) ?_
            refine gf_X5_7 X hP dX5_hand_158 ?_
            refine lv_bipush (v := (74 : Int32)) (cx_x X) (cx_b X) dX5_hand_161 (by decide) ?_
            refine lv_iload_n (cx_x X) (cx_b X) dX5_hand_163 rfl (lv_at hl 1 rfl) ?_
            refine lv_iadd (cx_x X) (cx_b X) dX5_hand_164 ?_
            refine lv_iload_n (cx_x X) (cx_b X) dX5_hand_165 rfl (lv_at hl 3 rfl) ?_
            refine lv_bipush (v := (-9 : Int32)) (cx_x X) (cx_b X) dX5_hand_166 (by decide) ?_
            obtain ⟨qt22, hm, hmt22⟩ := bnd hm
            have Jt22 : ∀ (v21 : Int32) , m5_hand_J178 a1 a2 v2 F3 R4 v7 v14 v17 v21 = some (rr9, FF9, RR9) → ∀ (H : Heap) (locs : List Loc), va_P D vwCl (w5_s y A F3 (va_up (va_up (va_up (va_up R4 0 (upd (R4 0) (10 : Int32).toNatClampNeg ((R4 0 (10 : Int32).toNatClampNeg) + v7))) 0 (upd ((va_up R4 0 (upd (R4 0) (10 : Int32).toNatClampNeg ((R4 0 (10 : Int32).toNatClampNeg) + v7))) 0) (11 : Int32).toNatClampNeg (((va_up R4 0 (upd (R4 0) (10 : Int32).toNatClampNeg ((R4 0 (10 : Int32).toNatClampNeg) + v7))) 0 (11 : Int32).toNatClampNeg) + v14))) 0 (upd ((va_up (va_up R4 0 (upd (R4 0) (10 : Int32).toNatClampNeg ((R4 0 (10 : Int32).toNatClampNeg) + v7))) 0 (upd ((va_up R4 0 (upd (R4 0) (10 : Int32).toNatClampNeg ((R4 0 (10 : Int32).toNatClampNeg) + v7))) 0) (11 : Int32).toNatClampNeg (((va_up R4 0 (upd (R4 0) (10 : Int32).toNatClampNeg ((R4 0 (10 : Int32).toNatClampNeg) + v7))) 0 (11 : Int32).toNatClampNeg) + v14))) 0) ((134 : Int32) + a1).toNatClampNeg v17)) 0 (upd ((va_up (va_up (va_up R4 0 (upd (R4 0) (10 : Int32).toNatClampNeg ((R4 0 (10 : Int32).toNatClampNeg) + v7))) 0 (upd ((va_up R4 0 (upd (R4 0) (10 : Int32).toNatClampNeg ((R4 0 (10 : Int32).toNatClampNeg) + v7))) 0) (11 : Int32).toNatClampNeg (((va_up R4 0 (upd (R4 0) (10 : Int32).toNatClampNeg ((R4 0 (10 : Int32).toNatClampNeg) + v7))) 0 (11 : Int32).toNatClampNeg) + v14))) 0 (upd ((va_up (va_up R4 0 (upd (R4 0) (10 : Int32).toNatClampNeg ((R4 0 (10 : Int32).toNatClampNeg) + v7))) 0 (upd ((va_up R4 0 (upd (R4 0) (10 : Int32).toNatClampNeg ((R4 0 (10 : Int32).toNatClampNeg) + v7))) 0) (11 : Int32).toNatClampNeg (((va_up R4 0 (upd (R4 0) (10 : Int32).toNatClampNeg ((R4 0 (10 : Int32).toNatClampNeg) + v7))) 0 (11 : Int32).toNatClampNeg) + v14))) 0) ((134 : Int32) + a1).toNatClampNeg v17)) 0) ((14 : Int32) + a1).toNatClampNeg (a2 + (1 : Int32))))) H → va_S (rg_s 7 A s.heap.size) s.heap H locs → ∀ ls, lv_has ls 6 [(0, .ref (A 0)), (1, .int a1), (3, .int v2)] → gw p l e rm_X5_hand s m args below meth c (some (.int rr9)) (fun H => va_P D vwCl (w5_s y A FF9 RR9) H) (rg_s 7 A s.heap.size) 0 0 H locs (F0 m 178 ls [.int v21, .int ((74 : Int32) + a1), .ref (A 1)]) := by
              intro v21 hm H locs hP hS ls hl
              unfold m5_hand_J178 at hm
              obtain ⟨h23, hm⟩ := ck_E hm
              refine st_5_0 X hP hA hS h23 dX5_hand_178 (fun H locs hP hS => ?_)
              refine lv_aload_n (cx_x X) (cx_b X) dX5_hand_179 rfl (lv_at hl 0 rfl) ?_
              refine gf_X5_7 X hP dX5_hand_180 ?_
              refine lv_bipush (v := (12 : Int32)) (cx_x X) (cx_b X) dX5_hand_183 (by decide) ?_
              refine lv_dup2_11 (cx_x X) (cx_b X) dX5_hand_185 rfl rfl ?_
              refine ld_5_0 X hP (by decide) dX5_hand_186 ?_
              refine lv_aload_n (cx_x X) (cx_b X) dX5_hand_187 rfl (lv_at hl 0 rfl) ?_
              refine lv_iload_n (cx_x X) (cx_b X) dX5_hand_188 rfl (lv_at hl 1 rfl) ?_
              obtain ⟨v25, h24, hm⟩ := bnd hm
              refine af_R (rn_V (As := [.int a1]) (rest := [.int ((va_up (va_up (va_up (va_up (va_up R4 0 (upd (R4 0) (10 : Int32).toNatClampNeg ((R4 0 (10 : Int32).toNatClampNeg) + v7))) 0 (upd ((va_up R4 0 (upd (R4 0) (10 : Int32).toNatClampNeg ((R4 0 (10 : Int32).toNatClampNeg) + v7))) 0) (11 : Int32).toNatClampNeg (((va_up R4 0 (upd (R4 0) (10 : Int32).toNatClampNeg ((R4 0 (10 : Int32).toNatClampNeg) + v7))) 0 (11 : Int32).toNatClampNeg) + v14))) 0 (upd ((va_up (va_up R4 0 (upd (R4 0) (10 : Int32).toNatClampNeg ((R4 0 (10 : Int32).toNatClampNeg) + v7))) 0 (upd ((va_up R4 0 (upd (R4 0) (10 : Int32).toNatClampNeg ((R4 0 (10 : Int32).toNatClampNeg) + v7))) 0) (11 : Int32).toNatClampNeg (((va_up R4 0 (upd (R4 0) (10 : Int32).toNatClampNeg ((R4 0 (10 : Int32).toNatClampNeg) + v7))) 0 (11 : Int32).toNatClampNeg) + v14))) 0) ((134 : Int32) + a1).toNatClampNeg v17)) 0 (upd ((va_up (va_up (va_up R4 0 (upd (R4 0) (10 : Int32).toNatClampNeg ((R4 0 (10 : Int32).toNatClampNeg) + v7))) 0 (upd ((va_up R4 0 (upd (R4 0) (10 : Int32).toNatClampNeg ((R4 0 (10 : Int32).toNatClampNeg) + v7))) 0) (11 : Int32).toNatClampNeg (((va_up R4 0 (upd (R4 0) (10 : Int32).toNatClampNeg ((R4 0 (10 : Int32).toNatClampNeg) + v7))) 0 (11 : Int32).toNatClampNeg) + v14))) 0 (upd ((va_up (va_up R4 0 (upd (R4 0) (10 : Int32).toNatClampNeg ((R4 0 (10 : Int32).toNatClampNeg) + v7))) 0 (upd ((va_up R4 0 (upd (R4 0) (10 : Int32).toNatClampNeg ((R4 0 (10 : Int32).toNatClampNeg) + v7))) 0) (11 : Int32).toNatClampNeg (((va_up R4 0 (upd (R4 0) (10 : Int32).toNatClampNeg ((R4 0 (10 : Int32).toNatClampNeg) + v7))) 0 (11 : Int32).toNatClampNeg) + v14))) 0) ((134 : Int32) + a1).toNatClampNeg v17)) 0) ((14 : Int32) + a1).toNatClampNeg (a2 + (1 : Int32)))) 0 (upd ((va_up (va_up (va_up (va_up R4 0 (upd (R4 0) (10 : Int32).toNatClampNeg ((R4 0 (10 : Int32).toNatClampNeg) + v7))) 0 (upd ((va_up R4 0 (upd (R4 0) (10 : Int32).toNatClampNeg ((R4 0 (10 : Int32).toNatClampNeg) + v7))) 0) (11 : Int32).toNatClampNeg (((va_up R4 0 (upd (R4 0) (10 : Int32).toNatClampNeg ((R4 0 (10 : Int32).toNatClampNeg) + v7))) 0 (11 : Int32).toNatClampNeg) + v14))) 0 (upd ((va_up (va_up R4 0 (upd (R4 0) (10 : Int32).toNatClampNeg ((R4 0 (10 : Int32).toNatClampNeg) + v7))) 0 (upd ((va_up R4 0 (upd (R4 0) (10 : Int32).toNatClampNeg ((R4 0 (10 : Int32).toNatClampNeg) + v7))) 0) (11 : Int32).toNatClampNeg (((va_up R4 0 (upd (R4 0) (10 : Int32).toNatClampNeg ((R4 0 (10 : Int32).toNatClampNeg) + v7))) 0 (11 : Int32).toNatClampNeg) + v14))) 0) ((134 : Int32) + a1).toNatClampNeg v17)) 0 (upd ((va_up (va_up (va_up R4 0 (upd (R4 0) (10 : Int32).toNatClampNeg ((R4 0 (10 : Int32).toNatClampNeg) + v7))) 0 (upd ((va_up R4 0 (upd (R4 0) (10 : Int32).toNatClampNeg ((R4 0 (10 : Int32).toNatClampNeg) + v7))) 0) (11 : Int32).toNatClampNeg (((va_up R4 0 (upd (R4 0) (10 : Int32).toNatClampNeg ((R4 0 (10 : Int32).toNatClampNeg) + v7))) 0 (11 : Int32).toNatClampNeg) + v14))) 0 (upd ((va_up (va_up R4 0 (upd (R4 0) (10 : Int32).toNatClampNeg ((R4 0 (10 : Int32).toNatClampNeg) + v7))) 0 (upd ((va_up R4 0 (upd (R4 0) (10 : Int32).toNatClampNeg ((R4 0 (10 : Int32).toNatClampNeg) + v7))) 0) (11 : Int32).toNatClampNeg (((va_up R4 0 (upd (R4 0) (10 : Int32).toNatClampNeg ((R4 0 (10 : Int32).toNatClampNeg) + v7))) 0 (11 : Int32).toNatClampNeg) + v14))) 0) ((134 : Int32) + a1).toNatClampNeg v17)) 0) ((14 : Int32) + a1).toNatClampNeg (a2 + (1 : Int32)))) 0) ((74 : Int32) + a1).toNatClampNeg v21)) 0 (12 : Int32).toNatClampNeg), .int (12 : Int32), .ref (A 1)]) X (c_X5_borrowed l D y A F3 (va_up (va_up (va_up (va_up (va_up R4 0 (upd (R4 0) (10 : Int32).toNatClampNeg ((R4 0 (10 : Int32).toNatClampNeg) + v7))) 0 (upd ((va_up R4 0 (upd (R4 0) (10 : Int32).toNatClampNeg ((R4 0 (10 : Int32).toNatClampNeg) + v7))) 0) (11 : Int32).toNatClampNeg (((va_up R4 0 (upd (R4 0) (10 : Int32).toNatClampNeg ((R4 0 (10 : Int32).toNatClampNeg) + v7))) 0 (11 : Int32).toNatClampNeg) + v14))) 0 (upd ((va_up (va_up R4 0 (upd (R4 0) (10 : Int32).toNatClampNeg ((R4 0 (10 : Int32).toNatClampNeg) + v7))) 0 (upd ((va_up R4 0 (upd (R4 0) (10 : Int32).toNatClampNeg ((R4 0 (10 : Int32).toNatClampNeg) + v7))) 0) (11 : Int32).toNatClampNeg (((va_up R4 0 (upd (R4 0) (10 : Int32).toNatClampNeg ((R4 0 (10 : Int32).toNatClampNeg) + v7))) 0 (11 : Int32).toNatClampNeg) + v14))) 0) ((134 : Int32) + a1).toNatClampNeg v17)) 0 (upd ((va_up (va_up (va_up R4 0 (upd (R4 0) (10 : Int32).toNatClampNeg ((R4 0 (10 : Int32).toNatClampNeg) + v7))) 0 (upd ((va_up R4 0 (upd (R4 0) (10 : Int32).toNatClampNeg ((R4 0 (10 : Int32).toNatClampNeg) + v7))) 0) (11 : Int32).toNatClampNeg (((va_up R4 0 (upd (R4 0) (10 : Int32).toNatClampNeg ((R4 0 (10 : Int32).toNatClampNeg) + v7))) 0 (11 : Int32).toNatClampNeg) + v14))) 0 (upd ((va_up (va_up R4 0 (upd (R4 0) (10 : Int32).toNatClampNeg ((R4 0 (10 : Int32).toNatClampNeg) + v7))) 0 (upd ((va_up R4 0 (upd (R4 0) (10 : Int32).toNatClampNeg ((R4 0 (10 : Int32).toNatClampNeg) + v7))) 0) (11 : Int32).toNatClampNeg (((va_up R4 0 (upd (R4 0) (10 : Int32).toNatClampNeg ((R4 0 (10 : Int32).toNatClampNeg) + v7))) 0 (11 : Int32).toNatClampNeg) + v14))) 0) ((134 : Int32) + a1).toNatClampNeg v17)) 0) ((14 : Int32) + a1).toNatClampNeg (a2 + (1 : Int32)))) 0 (upd ((va_up (va_up (va_up (va_up R4 0 (upd (R4 0) (10 : Int32).toNatClampNeg ((R4 0 (10 : Int32).toNatClampNeg) + v7))) 0 (upd ((va_up R4 0 (upd (R4 0) (10 : Int32).toNatClampNeg ((R4 0 (10 : Int32).toNatClampNeg) + v7))) 0) (11 : Int32).toNatClampNeg (((va_up R4 0 (upd (R4 0) (10 : Int32).toNatClampNeg ((R4 0 (10 : Int32).toNatClampNeg) + v7))) 0 (11 : Int32).toNatClampNeg) + v14))) 0 (upd ((va_up (va_up R4 0 (upd (R4 0) (10 : Int32).toNatClampNeg ((R4 0 (10 : Int32).toNatClampNeg) + v7))) 0 (upd ((va_up R4 0 (upd (R4 0) (10 : Int32).toNatClampNeg ((R4 0 (10 : Int32).toNatClampNeg) + v7))) 0) (11 : Int32).toNatClampNeg (((va_up R4 0 (upd (R4 0) (10 : Int32).toNatClampNeg ((R4 0 (10 : Int32).toNatClampNeg) + v7))) 0 (11 : Int32).toNatClampNeg) + v14))) 0) ((134 : Int32) + a1).toNatClampNeg v17)) 0 (upd ((va_up (va_up (va_up R4 0 (upd (R4 0) (10 : Int32).toNatClampNeg ((R4 0 (10 : Int32).toNatClampNeg) + v7))) 0 (upd ((va_up R4 0 (upd (R4 0) (10 : Int32).toNatClampNeg ((R4 0 (10 : Int32).toNatClampNeg) + v7))) 0) (11 : Int32).toNatClampNeg (((va_up R4 0 (upd (R4 0) (10 : Int32).toNatClampNeg ((R4 0 (10 : Int32).toNatClampNeg) + v7))) 0 (11 : Int32).toNatClampNeg) + v14))) 0 (upd ((va_up (va_up R4 0 (upd (R4 0) (10 : Int32).toNatClampNeg ((R4 0 (10 : Int32).toNatClampNeg) + v7))) 0 (upd ((va_up R4 0 (upd (R4 0) (10 : Int32).toNatClampNeg ((R4 0 (10 : Int32).toNatClampNeg) + v7))) 0) (11 : Int32).toNatClampNeg (((va_up R4 0 (upd (R4 0) (10 : Int32).toNatClampNeg ((R4 0 (10 : Int32).toNatClampNeg) + v7))) 0 (11 : Int32).toNatClampNeg) + v14))) 0) ((134 : Int32) + a1).toNatClampNeg v17)) 0) ((14 : Int32) + a1).toNatClampNeg (a2 + (1 : Int32)))) 0) ((74 : Int32) + a1).toNatClampNeg v21)) a1  _ h24) vq_X5_87 ⟨rfl, rfl⟩ ⟨Nat.le_of_ble_eq_true rfl, Nat.le_of_ble_eq_true rfl⟩ (rec_5 X hP) hP rfl hl.1 rfl (Nat.le_of_ble_eq_true rfl) dX5_hand_189 ⟨Nat.le_of_ble_eq_true rfl, Nat.le_of_ble_eq_true rfl⟩) ?_
              obtain ⟨qt27, hm, hmt27⟩ := bnd hm
              have Jt27 : ∀ (v26 : Int32) , m5_hand_J200 a1 a2 v2 F3 R4 v7 v14 v17 v21 v26 = some (rr9, FF9, RR9) → ∀ (H : Heap) (locs : List Loc), va_P D vwCl (w5_s y A F3 (va_up (va_up (va_up (va_up (va_up R4 0 (upd (R4 0) (10 : Int32).toNatClampNeg ((R4 0 (10 : Int32).toNatClampNeg) + v7))) 0 (upd ((va_up R4 0 (upd (R4 0) (10 : Int32).toNatClampNeg ((R4 0 (10 : Int32).toNatClampNeg) + v7))) 0) (11 : Int32).toNatClampNeg (((va_up R4 0 (upd (R4 0) (10 : Int32).toNatClampNeg ((R4 0 (10 : Int32).toNatClampNeg) + v7))) 0 (11 : Int32).toNatClampNeg) + v14))) 0 (upd ((va_up (va_up R4 0 (upd (R4 0) (10 : Int32).toNatClampNeg ((R4 0 (10 : Int32).toNatClampNeg) + v7))) 0 (upd ((va_up R4 0 (upd (R4 0) (10 : Int32).toNatClampNeg ((R4 0 (10 : Int32).toNatClampNeg) + v7))) 0) (11 : Int32).toNatClampNeg (((va_up R4 0 (upd (R4 0) (10 : Int32).toNatClampNeg ((R4 0 (10 : Int32).toNatClampNeg) + v7))) 0 (11 : Int32).toNatClampNeg) + v14))) 0) ((134 : Int32) + a1).toNatClampNeg v17)) 0 (upd ((va_up (va_up (va_up R4 0 (upd (R4 0) (10 : Int32).toNatClampNeg ((R4 0 (10 : Int32).toNatClampNeg) + v7))) 0 (upd ((va_up R4 0 (upd (R4 0) (10 : Int32).toNatClampNeg ((R4 0 (10 : Int32).toNatClampNeg) + v7))) 0) (11 : Int32).toNatClampNeg (((va_up R4 0 (upd (R4 0) (10 : Int32).toNatClampNeg ((R4 0 (10 : Int32).toNatClampNeg) + v7))) 0 (11 : Int32).toNatClampNeg) + v14))) 0 (upd ((va_up (va_up R4 0 (upd (R4 0) (10 : Int32).toNatClampNeg ((R4 0 (10 : Int32).toNatClampNeg) + v7))) 0 (upd ((va_up R4 0 (upd (R4 0) (10 : Int32).toNatClampNeg ((R4 0 (10 : Int32).toNatClampNeg) + v7))) 0) (11 : Int32).toNatClampNeg (((va_up R4 0 (upd (R4 0) (10 : Int32).toNatClampNeg ((R4 0 (10 : Int32).toNatClampNeg) + v7))) 0 (11 : Int32).toNatClampNeg) + v14))) 0) ((134 : Int32) + a1).toNatClampNeg v17)) 0) ((14 : Int32) + a1).toNatClampNeg (a2 + (1 : Int32)))) 0 (upd ((va_up (va_up (va_up (va_up R4 0 (upd (R4 0) (10 : Int32).toNatClampNeg ((R4 0 (10 : Int32).toNatClampNeg) + v7))) 0 (upd ((va_up R4 0 (upd (R4 0) (10 : Int32).toNatClampNeg ((R4 0 (10 : Int32).toNatClampNeg) + v7))) 0) (11 : Int32).toNatClampNeg (((va_up R4 0 (upd (R4 0) (10 : Int32).toNatClampNeg ((R4 0 (10 : Int32).toNatClampNeg) + v7))) 0 (11 : Int32).toNatClampNeg) + v14))) 0 (upd ((va_up (va_up R4 0 (upd (R4 0) (10 : Int32).toNatClampNeg ((R4 0 (10 : Int32).toNatClampNeg) + v7))) 0 (upd ((va_up R4 0 (upd (R4 0) (10 : Int32).toNatClampNeg ((R4 0 (10 : Int32).toNatClampNeg) + v7))) 0) (11 : Int32).toNatClampNeg (((va_up R4 0 (upd (R4 0) (10 : Int32).toNatClampNeg ((R4 0 (10 : Int32).toNatClampNeg) + v7))) 0 (11 : Int32).toNatClampNeg) + v14))) 0) ((134 : Int32) + a1).toNatClampNeg v17)) 0 (upd ((va_up (va_up (va_up R4 0 (upd (R4 0) (10 : Int32).toNatClampNeg ((R4 0 (10 : Int32).toNatClampNeg) + v7))) 0 (upd ((va_up R4 0 (upd (R4 0) (10 : Int32).toNatClampNeg ((R4 0 (10 : Int32).toNatClampNeg) + v7))) 0) (11 : Int32).toNatClampNeg (((va_up R4 0 (upd (R4 0) (10 : Int32).toNatClampNeg ((R4 0 (10 : Int32).toNatClampNeg) + v7))) 0 (11 : Int32).toNatClampNeg) + v14))) 0 (upd ((va_up (va_up R4 0 (upd (R4 0) (10 : Int32).toNatClampNeg ((R4 0 (10 : Int32).toNatClampNeg) + v7))) 0 (upd ((va_up R4 0 (upd (R4 0) (10 : Int32).toNatClampNeg ((R4 0 (10 : Int32).toNatClampNeg) + v7))) 0) (11 : Int32).toNatClampNeg (((va_up R4 0 (upd (R4 0) (10 : Int32).toNatClampNeg ((R4 0 (10 : Int32).toNatClampNeg) + v7))) 0 (11 : Int32).toNatClampNeg) + v14))) 0) ((134 : Int32) + a1).toNatClampNeg v17)) 0) ((14 : Int32) + a1).toNatClampNeg (a2 + (1 : Int32)))) 0) ((74 : Int32) + a1).toNatClampNeg v21))) H → va_S (rg_s 7 A s.heap.size) s.heap H locs → ∀ ls, lv_has ls 6 [(0, .ref (A 0)), (1, .int a1), (3, .int v2)] → gw p l e rm_X5_hand s m args below meth c (some (.int rr9)) (fun H => va_P D vwCl (w5_s y A FF9 RR9) H) (rg_s 7 A s.heap.size) 0 0 H locs (F0 m 200 ls [.int v26, .int ((va_up (va_up (va_up (va_up (va_up R4 0 (upd (R4 0) (10 : Int32).toNatClampNeg ((R4 0 (10 : Int32).toNatClampNeg) + v7))) 0 (upd ((va_up R4 0 (upd (R4 0) (10 : Int32).toNatClampNeg ((R4 0 (10 : Int32).toNatClampNeg) + v7))) 0) (11 : Int32).toNatClampNeg (((va_up R4 0 (upd (R4 0) (10 : Int32).toNatClampNeg ((R4 0 (10 : Int32).toNatClampNeg) + v7))) 0 (11 : Int32).toNatClampNeg) + v14))) 0 (upd ((va_up (va_up R4 0 (upd (R4 0) (10 : Int32).toNatClampNeg ((R4 0 (10 : Int32).toNatClampNeg) + v7))) 0 (upd ((va_up R4 0 (upd (R4 0) (10 : Int32).toNatClampNeg ((R4 0 (10 : Int32).toNatClampNeg) + v7))) 0) (11 : Int32).toNatClampNeg (((va_up R4 0 (upd (R4 0) (10 : Int32).toNatClampNeg ((R4 0 (10 : Int32).toNatClampNeg) + v7))) 0 (11 : Int32).toNatClampNeg) + v14))) 0) ((134 : Int32) + a1).toNatClampNeg v17)) 0 (upd ((va_up (va_up (va_up R4 0 (upd (R4 0) (10 : Int32).toNatClampNeg ((R4 0 (10 : Int32).toNatClampNeg) + v7))) 0 (upd ((va_up R4 0 (upd (R4 0) (10 : Int32).toNatClampNeg ((R4 0 (10 : Int32).toNatClampNeg) + v7))) 0) (11 : Int32).toNatClampNeg (((va_up R4 0 (upd (R4 0) (10 : Int32).toNatClampNeg ((R4 0 (10 : Int32).toNatClampNeg) + v7))) 0 (11 : Int32).toNatClampNeg) + v14))) 0 (upd ((va_up (va_up R4 0 (upd (R4 0) (10 : Int32).toNatClampNeg ((R4 0 (10 : Int32).toNatClampNeg) + v7))) 0 (upd ((va_up R4 0 (upd (R4 0) (10 : Int32).toNatClampNeg ((R4 0 (10 : Int32).toNatClampNeg) + v7))) 0) (11 : Int32).toNatClampNeg (((va_up R4 0 (upd (R4 0) (10 : Int32).toNatClampNeg ((R4 0 (10 : Int32).toNatClampNeg) + v7))) 0 (11 : Int32).toNatClampNeg) + v14))) 0) ((134 : Int32) + a1).toNatClampNeg v17)) 0) ((14 : Int32) + a1).toNatClampNeg (a2 + (1 : Int32)))) 0 (upd ((va_up (va_up (va_up (va_up R4 0 (upd (R4 0) (10 : Int32).toNatClampNeg ((R4 0 (10 : Int32).toNatClampNeg) + v7))) 0 (upd ((va_up R4 0 (upd (R4 0) (10 : Int32).toNatClampNeg ((R4 0 (10 : Int32).toNatClampNeg) + v7))) 0) (11 : Int32).toNatClampNeg (((va_up R4 0 (upd (R4 0) (10 : Int32).toNatClampNeg ((R4 0 (10 : Int32).toNatClampNeg) + v7))) 0 (11 : Int32).toNatClampNeg) + v14))) 0 (upd ((va_up (va_up R4 0 (upd (R4 0) (10 : Int32).toNatClampNeg ((R4 0 (10 : Int32).toNatClampNeg) + v7))) 0 (upd ((va_up R4 0 (upd (R4 0) (10 : Int32).toNatClampNeg ((R4 0 (10 : Int32).toNatClampNeg) + v7))) 0) (11 : Int32).toNatClampNeg (((va_up R4 0 (upd (R4 0) (10 : Int32).toNatClampNeg ((R4 0 (10 : Int32).toNatClampNeg) + v7))) 0 (11 : Int32).toNatClampNeg) + v14))) 0) ((134 : Int32) + a1).toNatClampNeg v17)) 0 (upd ((va_up (va_up (va_up R4 0 (upd (R4 0) (10 : Int32).toNatClampNeg ((R4 0 (10 : Int32).toNatClampNeg) + v7))) 0 (upd ((va_up R4 0 (upd (R4 0) (10 : Int32).toNatClampNeg ((R4 0 (10 : Int32).toNatClampNeg) + v7))) 0) (11 : Int32).toNatClampNeg (((va_up R4 0 (upd (R4 0) (10 : Int32).toNatClampNeg ((R4 0 (10 : Int32).toNatClampNeg) + v7))) 0 (11 : Int32).toNatClampNeg) + v14))) 0 (upd ((va_up (va_up R4 0 (upd (R4 0) (10 : Int32).toNatClampNeg ((R4 0 (10 : Int32).toNatClampNeg) + v7))) 0 (upd ((va_up R4 0 (upd (R4 0) (10 : Int32).toNatClampNeg ((R4 0 (10 : Int32).toNatClampNeg) + v7))) 0) (11 : Int32).toNatClampNeg (((va_up R4 0 (upd (R4 0) (10 : Int32).toNatClampNeg ((R4 0 (10 : Int32).toNatClampNeg) + v7))) 0 (11 : Int32).toNatClampNeg) + v14))) 0) ((134 : Int32) + a1).toNatClampNeg v17)) 0) ((14 : Int32) + a1).toNatClampNeg (a2 + (1 : Int32)))) 0) ((74 : Int32) + a1).toNatClampNeg v21)) 0 (12 : Int32).toNatClampNeg), .int (12 : Int32), .ref (A 1)]) := by
                intro v26 hm H locs hP hS ls hl
                unfold m5_hand_J200 at hm
                refine lv_iadd (cx_x X) (cx_b X) dX5_hand_200 ?_
                refine st_5_0 X hP hA hS (by decide) dX5_hand_201 (fun H locs hP hS => ?_)
                refine lv_iload_n (cx_x X) (cx_b X) dX5_hand_202 rfl (lv_at hl 2 rfl) ?_
                refine lv_bipush (v := (-9 : Int32)) (cx_x X) (cx_b X) dX5_hand_203 (by decide) ?_
                obtain ⟨qt30, hm, hmt30⟩ := bnd hm
                have Jt30 : ∀ (F28 : (Nat → Int32)) (R29 : (Nat → Nat → Int32)) , m5_hand_J226 v2 F28 R29 = some (rr9, FF9, RR9) → ∀ (H : Heap) (locs : List Loc), va_P D vwCl (w5_s y A F28 R29) H → va_S (rg_s 7 A s.heap.size) s.heap H locs → ∀ ls, lv_has ls 6 [(0, .ref (A 0)), (3, .int v2)] → gw p l e rm_X5_hand s m args below meth c (some (.int rr9)) (fun H => va_P D vwCl (w5_s y A FF9 RR9) H) (rg_s 7 A s.heap.size) 0 0 H locs (F0 m 226 ls []) := by
                  intro F28 R29 hm H locs hP hS ls hl
                  unfold m5_hand_J226 at hm
                  refine lv_aload_n (cx_x X) (cx_b X) dX5_hand_226 rfl (lv_at hl 0 rfl) ?_
                  obtain ⟨⟨v34, F32, R33⟩, h31, hm⟩ := bnd hm
                  try dsimp only at hm
                  refine af_W (mc := 0) (ms := 0) (rn_V (As := []) (rest := []) X (c_X5_pass l D y A F28 R29 v34 F32 R33 _ hI h31) vq_X5_104 ⟨rfl, rfl⟩ ⟨Nat.le_of_ble_eq_true rfl, Nat.le_of_ble_eq_true rfl⟩ (rec_5 X hP) ⟨rfl, hP⟩ rfl hl.1 rfl (Nat.le_of_ble_eq_true rfl) dX5_hand_227 ⟨Nat.le_of_ble_eq_true rfl, Nat.le_of_ble_eq_true rfl⟩) hS (rg_up hS.1) (fun H locs hP _ _ hS => ?_)
                  refine lv_istore (lv' := [(5, .int v34), (0, .ref (A 0)), (3, .int v2)]) (cx_x X) (cx_b X) dX5_hand_230 hl (by decide) rfl (fun ls hl => ?_)
                  refine lv_iload (cx_x X) (cx_b X) dX5_hand_232 (lv_at hl 0 rfl) ?_
                  obtain ⟨qt36, hm, hmt36⟩ := bnd hm
                  have Jt36 : ∀ (v35 : Int32) , m5_hand_J243 F32 R33 v35 = some (rr9, FF9, RR9) → ∀ (H : Heap) (locs : List Loc), va_P D vwCl (w5_s y A F32 R33) H → va_S (rg_s 7 A s.heap.size) s.heap H locs → ∀ ls, lv_has ls 6 [] → gw p l e rm_X5_hand s m args below meth c (some (.int rr9)) (fun H => va_P D vwCl (w5_s y A FF9 RR9) H) (rg_s 7 A s.heap.size) 0 0 H locs (F0 m 243 ls [.int v35]) := by
                    intro v35 hm H locs hP hS ls hl
                    unfold m5_hand_J243 at hm
                    obtain ⟨rfl, rfl, rfl⟩ := oc_3 hm
                    exact gw_i X hS hP dX5_hand_243
                  refine lv_if_ge (tgt := 242) (cx_x X) (cx_b X) dX5_hand_234 (by decide) (fun c37 => ?_) (fun c37 => ?_)
                  · replace hm := if_T c37 hm
                    refine lv_iload_n (cx_x X) (cx_b X) dX5_hand_242 rfl (lv_at hl 2 rfl) ?_
                    exact Jt36 _ (by cases hm; exact hmt36) _ _ hP hS _ (lv_sub hl [] rfl)
                  · replace hm := if_F c37 hm
                    refine lv_iload (cx_x X) (cx_b X) dX5_hand_237 (lv_at hl 0 rfl) ?_
                    refine lv_goto (tgt := 243) (cx_x X) (cx_b X) dX5_hand_239 (by decide) ?_
                    exact Jt36 _ (by cases hm; exact hmt36) _ _ hP hS _ (lv_sub hl [] rfl)
                refine lv_icmp_ne (tgt := 226) (cx_x X) (cx_b X) dX5_hand_205 (by decide) (fun c38 => ?_) (fun c38 => ?_)
                · replace hm := if_F c38 hm
                  exact Jt30 _ _ (by cases hm; exact hmt30) _ _ hP hS _ (lv_sub hl [0, 2] rfl)
                · replace hm := if_T c38 hm
                  refine lv_aload_n (cx_x X) (cx_b X) dX5_hand_208 rfl (lv_at hl 0 rfl) ?_
                  refine gf_X5_7 X hP dX5_hand_209 ?_
                  refine lv_sipush (v := (134 : Int32)) (cx_x X) (cx_b X) dX5_hand_212 (by decide) ?_
                  refine lv_iload_n (cx_x X) (cx_b X) dX5_hand_215 rfl (lv_at hl 1 rfl) ?_
                  refine lv_iadd (cx_x X) (cx_b X) dX5_hand_216 ?_
                  obtain ⟨h39, hm⟩ := ck_E hm
                  refine ld_5_0 X hP h39 dX5_hand_217 ?_
                  refine lv_if_ne (tgt := 226) (cx_x X) (cx_b X) dX5_hand_218 (by decide) (fun c40 => ?_) (fun c40 => ?_)
                  · replace hm := if_F c40 hm
                    exact Jt30 _ _ (by cases hm; exact hmt30) _ _ hP hS _ (lv_sub hl [0, 2] rfl)
                  · replace hm := if_T c40 hm
                    refine lv_aload_n (cx_x X) (cx_b X) dX5_hand_221 rfl (lv_at hl 0 rfl) ?_
                    refine lv_iload_n (cx_x X) (cx_b X) dX5_hand_222 rfl (lv_at hl 1 rfl) ?_
                    obtain ⟨⟨F42, R43⟩, h41, hm⟩ := bnd hm
                    try dsimp only at hm
                    refine af_W (mc := 0) (ms := 0) (rn_V (As := [.int a1]) (rest := []) X (c_X5_forget l D y A F3 (va_up (va_up (va_up (va_up (va_up (va_up R4 0 (upd (R4 0) (10 : Int32).toNatClampNeg ((R4 0 (10 : Int32).toNatClampNeg) + v7))) 0 (upd ((va_up R4 0 (upd (R4 0) (10 : Int32).toNatClampNeg ((R4 0 (10 : Int32).toNatClampNeg) + v7))) 0) (11 : Int32).toNatClampNeg (((va_up R4 0 (upd (R4 0) (10 : Int32).toNatClampNeg ((R4 0 (10 : Int32).toNatClampNeg) + v7))) 0 (11 : Int32).toNatClampNeg) + v14))) 0 (upd ((va_up (va_up R4 0 (upd (R4 0) (10 : Int32).toNatClampNeg ((R4 0 (10 : Int32).toNatClampNeg) + v7))) 0 (upd ((va_up R4 0 (upd (R4 0) (10 : Int32).toNatClampNeg ((R4 0 (10 : Int32).toNatClampNeg) + v7))) 0) (11 : Int32).toNatClampNeg (((va_up R4 0 (upd (R4 0) (10 : Int32).toNatClampNeg ((R4 0 (10 : Int32).toNatClampNeg) + v7))) 0 (11 : Int32).toNatClampNeg) + v14))) 0) ((134 : Int32) + a1).toNatClampNeg v17)) 0 (upd ((va_up (va_up (va_up R4 0 (upd (R4 0) (10 : Int32).toNatClampNeg ((R4 0 (10 : Int32).toNatClampNeg) + v7))) 0 (upd ((va_up R4 0 (upd (R4 0) (10 : Int32).toNatClampNeg ((R4 0 (10 : Int32).toNatClampNeg) + v7))) 0) (11 : Int32).toNatClampNeg (((va_up R4 0 (upd (R4 0) (10 : Int32).toNatClampNeg ((R4 0 (10 : Int32).toNatClampNeg) + v7))) 0 (11 : Int32).toNatClampNeg) + v14))) 0 (upd ((va_up (va_up R4 0 (upd (R4 0) (10 : Int32).toNatClampNeg ((R4 0 (10 : Int32).toNatClampNeg) + v7))) 0 (upd ((va_up R4 0 (upd (R4 0) (10 : Int32).toNatClampNeg ((R4 0 (10 : Int32).toNatClampNeg) + v7))) 0) (11 : Int32).toNatClampNeg (((va_up R4 0 (upd (R4 0) (10 : Int32).toNatClampNeg ((R4 0 (10 : Int32).toNatClampNeg) + v7))) 0 (11 : Int32).toNatClampNeg) + v14))) 0) ((134 : Int32) + a1).toNatClampNeg v17)) 0) ((14 : Int32) + a1).toNatClampNeg (a2 + (1 : Int32)))) 0 (upd ((va_up (va_up (va_up (va_up R4 0 (upd (R4 0) (10 : Int32).toNatClampNeg ((R4 0 (10 : Int32).toNatClampNeg) + v7))) 0 (upd ((va_up R4 0 (upd (R4 0) (10 : Int32).toNatClampNeg ((R4 0 (10 : Int32).toNatClampNeg) + v7))) 0) (11 : Int32).toNatClampNeg (((va_up R4 0 (upd (R4 0) (10 : Int32).toNatClampNeg ((R4 0 (10 : Int32).toNatClampNeg) + v7))) 0 (11 : Int32).toNatClampNeg) + v14))) 0 (upd ((va_up (va_up R4 0 (upd (R4 0) (10 : Int32).toNatClampNeg ((R4 0 (10 : Int32).toNatClampNeg) + v7))) 0 (upd ((va_up R4 0 (upd (R4 0) (10 : Int32).toNatClampNeg ((R4 0 (10 : Int32).toNatClampNeg) + v7))) 0) (11 : Int32).toNatClampNeg (((va_up R4 0 (upd (R4 0) (10 : Int32).toNatClampNeg ((R4 0 (10 : Int32).toNatClampNeg) + v7))) 0 (11 : Int32).toNatClampNeg) + v14))) 0) ((134 : Int32) + a1).toNatClampNeg v17)) 0 (upd ((va_up (va_up (va_up R4 0 (upd (R4 0) (10 : Int32).toNatClampNeg ((R4 0 (10 : Int32).toNatClampNeg) + v7))) 0 (upd ((va_up R4 0 (upd (R4 0) (10 : Int32).toNatClampNeg ((R4 0 (10 : Int32).toNatClampNeg) + v7))) 0) (11 : Int32).toNatClampNeg (((va_up R4 0 (upd (R4 0) (10 : Int32).toNatClampNeg ((R4 0 (10 : Int32).toNatClampNeg) + v7))) 0 (11 : Int32).toNatClampNeg) + v14))) 0 (upd ((va_up (va_up R4 0 (upd (R4 0) (10 : Int32).toNatClampNeg ((R4 0 (10 : Int32).toNatClampNeg) + v7))) 0 (upd ((va_up R4 0 (upd (R4 0) (10 : Int32).toNatClampNeg ((R4 0 (10 : Int32).toNatClampNeg) + v7))) 0) (11 : Int32).toNatClampNeg (((va_up R4 0 (upd (R4 0) (10 : Int32).toNatClampNeg ((R4 0 (10 : Int32).toNatClampNeg) + v7))) 0 (11 : Int32).toNatClampNeg) + v14))) 0) ((134 : Int32) + a1).toNatClampNeg v17)) 0) ((14 : Int32) + a1).toNatClampNeg (a2 + (1 : Int32)))) 0) ((74 : Int32) + a1).toNatClampNeg v21)) 0 (upd ((va_up (va_up (va_up (va_up (va_up R4 0 (upd (R4 0) (10 : Int32).toNatClampNeg ((R4 0 (10 : Int32).toNatClampNeg) + v7))) 0 (upd ((va_up R4 0 (upd (R4 0) (10 : Int32).toNatClampNeg ((R4 0 (10 : Int32).toNatClampNeg) + v7))) 0) (11 : Int32).toNatClampNeg (((va_up R4 0 (upd (R4 0) (10 : Int32).toNatClampNeg ((R4 0 (10 : Int32).toNatClampNeg) + v7))) 0 (11 : Int32).toNatClampNeg) + v14))) 0 (upd ((va_up (va_up R4 0 (upd (R4 0) (10 : Int32).toNatClampNeg ((R4 0 (10 : Int32).toNatClampNeg) + v7))) 0 (upd ((va_up R4 0 (upd (R4 0) (10 : Int32).toNatClampNeg ((R4 0 (10 : Int32).toNatClampNeg) + v7))) 0) (11 : Int32).toNatClampNeg (((va_up R4 0 (upd (R4 0) (10 : Int32).toNatClampNeg ((R4 0 (10 : Int32).toNatClampNeg) + v7))) 0 (11 : Int32).toNatClampNeg) + v14))) 0) ((134 : Int32) + a1).toNatClampNeg v17)) 0 (upd ((va_up (va_up (va_up R4 0 (upd (R4 0) (10 : Int32).toNatClampNeg ((R4 0 (10 : Int32).toNatClampNeg) + v7))) 0 (upd ((va_up R4 0 (upd (R4 0) (10 : Int32).toNatClampNeg ((R4 0 (10 : Int32).toNatClampNeg) + v7))) 0) (11 : Int32).toNatClampNeg (((va_up R4 0 (upd (R4 0) (10 : Int32).toNatClampNeg ((R4 0 (10 : Int32).toNatClampNeg) + v7))) 0 (11 : Int32).toNatClampNeg) + v14))) 0 (upd ((va_up (va_up R4 0 (upd (R4 0) (10 : Int32).toNatClampNeg ((R4 0 (10 : Int32).toNatClampNeg) + v7))) 0 (upd ((va_up R4 0 (upd (R4 0) (10 : Int32).toNatClampNeg ((R4 0 (10 : Int32).toNatClampNeg) + v7))) 0) (11 : Int32).toNatClampNeg (((va_up R4 0 (upd (R4 0) (10 : Int32).toNatClampNeg ((R4 0 (10 : Int32).toNatClampNeg) + v7))) 0 (11 : Int32).toNatClampNeg) + v14))) 0) ((134 : Int32) + a1).toNatClampNeg v17)) 0) ((14 : Int32) + a1).toNatClampNeg (a2 + (1 : Int32)))) 0 (upd ((va_up (va_up (va_up (va_up R4 0 (upd (R4 0) (10 : Int32).toNatClampNeg ((R4 0 (10 : Int32).toNatClampNeg) + v7))) 0 (upd ((va_up R4 0 (upd (R4 0) (10 : Int32).toNatClampNeg ((R4 0 (10 : Int32).toNatClampNeg) + v7))) 0) (11 : Int32).toNatClampNeg (((va_up R4 0 (upd (R4 0) (10 : Int32).toNatClampNeg ((R4 0 (10 : Int32).toNatClampNeg) + v7))) 0 (11 : Int32).toNatClampNeg) + v14))) 0 (upd ((va_up (va_up R4 0 (upd (R4 0) (10 : Int32).toNatClampNeg ((R4 0 (10 : Int32).toNatClampNeg) + v7))) 0 (upd ((va_up R4 0 (upd (R4 0) (10 : Int32).toNatClampNeg ((R4 0 (10 : Int32).toNatClampNeg) + v7))) 0) (11 : Int32).toNatClampNeg (((va_up R4 0 (upd (R4 0) (10 : Int32).toNatClampNeg ((R4 0 (10 : Int32).toNatClampNeg) + v7))) 0 (11 : Int32).toNatClampNeg) + v14))) 0) ((134 : Int32) + a1).toNatClampNeg v17)) 0 (upd ((va_up (va_up (va_up R4 0 (upd (R4 0) (10 : Int32).toNatClampNeg ((R4 0 (10 : Int32).toNatClampNeg) + v7))) 0 (upd ((va_up R4 0 (upd (R4 0) (10 : Int32).toNatClampNeg ((R4 0 (10 : Int32).toNatClampNeg) + v7))) 0) (11 : Int32).toNatClampNeg (((va_up R4 0 (upd (R4 0) (10 : Int32).toNatClampNeg ((R4 0 (10 : Int32).toNatClampNeg) + v7))) 0 (11 : Int32).toNatClampNeg) + v14))) 0 (upd ((va_up (va_up R4 0 (upd (R4 0) (10 : Int32).toNatClampNeg ((R4 0 (10 : Int32).toNatClampNeg) + v7))) 0 (upd ((va_up R4 0 (upd (R4 0) (10 : Int32).toNatClampNeg ((R4 0 (10 : Int32).toNatClampNeg) + v7))) 0) (11 : Int32).toNatClampNeg (((va_up R4 0 (upd (R4 0) (10 : Int32).toNatClampNeg ((R4 0 (10 : Int32).toNatClampNeg) + v7))) 0 (11 : Int32).toNatClampNeg) + v14))) 0) ((134 : Int32) + a1).toNatClampNeg v17)) 0) ((14 : Int32) + a1).toNatClampNeg (a2 + (1 : Int32)))) 0) ((74 : Int32) + a1).toNatClampNeg v21)) 0) (12 : Int32).toNatClampNeg (((va_up (va_up (va_up (va_up (va_up R4 0 (upd (R4 0) (10 : Int32).toNatClampNeg ((R4 0 (10 : Int32).toNatClampNeg) + v7))) 0 (upd ((va_up R4 0 (upd (R4 0) (10 : Int32).toNatClampNeg ((R4 0 (10 : Int32).toNatClampNeg) + v7))) 0) (11 : Int32).toNatClampNeg (((va_up R4 0 (upd (R4 0) (10 : Int32).toNatClampNeg ((R4 0 (10 : Int32).toNatClampNeg) + v7))) 0 (11 : Int32).toNatClampNeg) + v14))) 0 (upd ((va_up (va_up R4 0 (upd (R4 0) (10 : Int32).toNatClampNeg ((R4 0 (10 : Int32).toNatClampNeg) + v7))) 0 (upd ((va_up R4 0 (upd (R4 0) (10 : Int32).toNatClampNeg ((R4 0 (10 : Int32).toNatClampNeg) + v7))) 0) (11 : Int32).toNatClampNeg (((va_up R4 0 (upd (R4 0) (10 : Int32).toNatClampNeg ((R4 0 (10 : Int32).toNatClampNeg) + v7))) 0 (11 : Int32).toNatClampNeg) + v14))) 0) ((134 : Int32) + a1).toNatClampNeg v17)) 0 (upd ((va_up (va_up (va_up R4 0 (upd (R4 0) (10 : Int32).toNatClampNeg ((R4 0 (10 : Int32).toNatClampNeg) + v7))) 0 (upd ((va_up R4 0 (upd (R4 0) (10 : Int32).toNatClampNeg ((R4 0 (10 : Int32).toNatClampNeg) + v7))) 0) (11 : Int32).toNatClampNeg (((va_up R4 0 (upd (R4 0) (10 : Int32).toNatClampNeg ((R4 0 (10 : Int32).toNatClampNeg) + v7))) 0 (11 : Int32).toNatClampNeg) + v14))) 0 (upd ((va_up (va_up R4 0 (upd (R4 0) (10 : Int32).toNatClampNeg ((R4 0 (10 : Int32).toNatClampNeg) + v7))) 0 (upd ((va_up R4 0 (upd (R4 0) (10 : Int32).toNatClampNeg ((R4 0 (10 : Int32).toNatClampNeg) + v7))) 0) (11 : Int32).toNatClampNeg (((va_up R4 0 (upd (R4 0) (10 : Int32).toNatClampNeg ((R4 0 (10 : Int32).toNatClampNeg) + v7))) 0 (11 : Int32).toNatClampNeg) + v14))) 0) ((134 : Int32) + a1).toNatClampNeg v17)) 0) ((14 : Int32) + a1).toNatClampNeg (a2 + (1 : Int32)))) 0 (upd ((va_up (va_up (va_up (va_up R4 0 (upd (R4 0) (10 : Int32).toNatClampNeg ((R4 0 (10 : Int32).toNatClampNeg) + v7))) 0 (upd ((va_up R4 0 (upd (R4 0) (10 : Int32).toNatClampNeg ((R4 0 (10 : Int32).toNatClampNeg) + v7))) 0) (11 : Int32).toNatClampNeg (((va_up R4 0 (upd (R4 0) (10 : Int32).toNatClampNeg ((R4 0 (10 : Int32).toNatClampNeg) + v7))) 0 (11 : Int32).toNatClampNeg) + v14))) 0 (upd ((va_up (va_up R4 0 (upd (R4 0) (10 : Int32).toNatClampNeg ((R4 0 (10 : Int32).toNatClampNeg) + v7))) 0 (upd ((va_up R4 0 (upd (R4 0) (10 : Int32).toNatClampNeg ((R4 0 (10 : Int32).toNatClampNeg) + v7))) 0) (11 : Int32).toNatClampNeg (((va_up R4 0 (upd (R4 0) (10 : Int32).toNatClampNeg ((R4 0 (10 : Int32).toNatClampNeg) + v7))) 0 (11 : Int32).toNatClampNeg) + v14))) 0) ((134 : Int32) + a1).toNatClampNeg v17)) 0 (upd ((va_up (va_up (va_up R4 0 (upd (R4 0) (10 : Int32).toNatClampNeg ((R4 0 (10 : Int32).toNatClampNeg) + v7))) 0 (upd ((va_up R4 0 (upd (R4 0) (10 : Int32).toNatClampNeg ((R4 0 (10 : Int32).toNatClampNeg) + v7))) 0) (11 : Int32).toNatClampNeg (((va_up R4 0 (upd (R4 0) (10 : Int32).toNatClampNeg ((R4 0 (10 : Int32).toNatClampNeg) + v7))) 0 (11 : Int32).toNatClampNeg) + v14))) 0 (upd ((va_up (va_up R4 0 (upd (R4 0) (10 : Int32).toNatClampNeg ((R4 0 (10 : Int32).toNatClampNeg) + v7))) 0 (upd ((va_up R4 0 (upd (R4 0) (10 : Int32).toNatClampNeg ((R4 0 (10 : Int32).toNatClampNeg) + v7))) 0) (11 : Int32).toNatClampNeg (((va_up R4 0 (upd (R4 0) (10 : Int32).toNatClampNeg ((R4 0 (10 : Int32).toNatClampNeg) + v7))) 0 (11 : Int32).toNatClampNeg) + v14))) 0) ((134 : Int32) + a1).toNatClampNeg v17)) 0) ((14 : Int32) + a1).toNatClampNeg (a2 + (1 : Int32)))) 0) ((74 : Int32) + a1).toNatClampNeg v21)) 0 (12 : Int32).toNatClampNeg) + v26))) a1 F42 R43 _ hI h41) vq_X5_100 ⟨rfl, rfl⟩ ⟨Nat.le_of_ble_eq_true rfl, Nat.le_of_ble_eq_true rfl⟩ (rec_5 X hP) ⟨rfl, hP⟩ rfl hl.1 rfl (Nat.le_of_ble_eq_true rfl) dX5_hand_223 ⟨Nat.le_of_ble_eq_true rfl, Nat.le_of_ble_eq_true rfl⟩) hS (rg_up hS.1) (fun H locs hP _ _ hS => ?_)
                    exact Jt30 _ _ (by cases hm; exact hmt30) _ _ hP hS _ (lv_sub hl [0, 2] rfl)
              refine lv_if_eq (tgt := 199) (cx_x X) (cx_b X) dX5_hand_192 (by decide) (fun c44 => ?_) (fun c44 => ?_)
              · replace hm := if_T c44 hm
                refine lv_iconst (v := (0 : Int32)) (cx_x X) (cx_b X) dX5_hand_199 (by decide) ?_
                exact Jt27 _ (by cases hm; exact hmt27) _ _ hP hS _ (lv_sub hl [0, 1, 2] rfl)
              · replace hm := if_F c44 hm
                refine lv_iconst (v := (1 : Int32)) (cx_x X) (cx_b X) dX5_hand_195 (by decide) ?_
                refine lv_goto (tgt := 200) (cx_x X) (cx_b X) dX5_hand_196 (by decide) ?_
                exact Jt27 _ (by cases hm; exact hmt27) _ _ hP hS _ (lv_sub hl [0, 1, 2] rfl)
            refine lv_icmp_ne (tgt := 175) (cx_x X) (cx_b X) dX5_hand_168 (by decide) (fun c45 => ?_) (fun c45 => ?_)
            · replace hm := if_F c45 hm
              refine lv_iload_n (cx_x X) (cx_b X) dX5_hand_175 rfl (lv_at hl 3 rfl) ?_
              refine lv_iconst (v := (1 : Int32)) (cx_x X) (cx_b X) dX5_hand_176 (by decide) ?_
              refine lv_iadd (cx_x X) (cx_b X) dX5_hand_177 ?_
              exact Jt22 _ (by cases hm; exact hmt22) _ _ hP hS _ (lv_sub hl [0, 1, 3] rfl)
            · replace hm := if_T c45 hm
              refine lv_iconst (v := (0 : Int32)) (cx_x X) (cx_b X) dX5_hand_171 (by decide) ?_
              refine lv_goto (tgt := 178) (cx_x X) (cx_b X) dX5_hand_172 (by decide) ?_
              exact Jt22 _ (by cases hm; exact hmt22) _ _ hP hS _ (lv_sub hl [0, 1, 3] rfl)
          refine lv_icmp_ne (tgt := 143) (cx_x X) (cx_b X) dX5_hand_131 (by decide) (fun c46 => ?_) (fun c46 => ?_)
          · replace hm := if_F c46 hm
            refine lv_iconst (v := (0 : Int32)) (cx_x X) (cx_b X) dX5_hand_143 (by decide) ?_
            exact Jt18 _ (by cases hm; exact hmt18) _ _ hP hS _ (lv_sub hl [0, 1, 2, 3] rfl)
          · replace hm := if_T c46 hm
            refine lv_iload (cx_x X) (cx_b X) dX5_hand_134 (lv_at hl 4 rfl) ?_
            refine lv_if_eq (tgt := 143) (cx_x X) (cx_b X) dX5_hand_136 (by decide) (fun c47 => ?_) (fun c47 => ?_)
            · replace hm := if_T c47 hm
              refine lv_iconst (v := (0 : Int32)) (cx_x X) (cx_b X) dX5_hand_143 (by decide) ?_
              exact Jt18 _ (by cases hm; exact hmt18) _ _ hP hS _ (lv_sub hl [0, 1, 2, 3] rfl)
            · replace hm := if_F c47 hm
              refine lv_iconst (v := (1 : Int32)) (cx_x X) (cx_b X) dX5_hand_139 (by decide) ?_
              refine lv_goto (tgt := 144) (cx_x X) (cx_b X) dX5_hand_140 (by decide) ?_
              exact Jt18 _ (by cases hm; exact hmt18) _ _ hP hS _ (lv_sub hl [0, 1, 2, 3] rfl)
        refine lv_icmp_ne (tgt := 108) (cx_x X) (cx_b X) dX5_hand_96 (by decide) (fun c48 => ?_) (fun c48 => ?_)
        · replace hm := if_F c48 hm
          refine lv_iconst (v := (0 : Int32)) (cx_x X) (cx_b X) dX5_hand_108 (by decide) ?_
          exact Jt15 _ (by cases hm; exact hmt15) _ _ hP hS _ (lv_sub hl [1, 2, 3, 4, 0] rfl)
        · replace hm := if_T c48 hm
          refine lv_iload (cx_x X) (cx_b X) dX5_hand_99 (lv_at hl 0 rfl) ?_
          refine lv_if_ne (tgt := 108) (cx_x X) (cx_b X) dX5_hand_101 (by decide) (fun c49 => ?_) (fun c49 => ?_)
          · replace hm := if_F c49 hm
            refine lv_iconst (v := (0 : Int32)) (cx_x X) (cx_b X) dX5_hand_108 (by decide) ?_
            exact Jt15 _ (by cases hm; exact hmt15) _ _ hP hS _ (lv_sub hl [1, 2, 3, 4, 0] rfl)
          · replace hm := if_T c49 hm
            refine lv_iconst (v := (1 : Int32)) (cx_x X) (cx_b X) dX5_hand_104 (by decide) ?_
            refine lv_goto (tgt := 109) (cx_x X) (cx_b X) dX5_hand_105 (by decide) ?_
            exact Jt15 _ (by cases hm; exact hmt15) _ _ hP hS _ (lv_sub hl [1, 2, 3, 4, 0] rfl)
      refine lv_icmp_ge (tgt := 74) (cx_x X) (cx_b X) dX5_hand_67 (by decide) (fun c50 => ?_) (fun c50 => ?_)
      · replace hm := if_T c50 hm
        refine lv_iconst (v := (0 : Int32)) (cx_x X) (cx_b X) dX5_hand_74 (by decide) ?_
        exact Jt12 _ (by cases hm; exact hmt12) _ _ hP hS _ (lv_sub hl [0, 1, 2, 3] rfl)
      · replace hm := if_F c50 hm
        refine lv_iconst (v := (1 : Int32)) (cx_x X) (cx_b X) dX5_hand_70 (by decide) ?_
        refine lv_goto (tgt := 75) (cx_x X) (cx_b X) dX5_hand_71 (by decide) ?_
        exact Jt12 _ (by cases hm; exact hmt12) _ _ hP hS _ (lv_sub hl [0, 1, 2, 3] rfl)
    refine lv_if_le (tgt := 53) (cx_x X) (cx_b X) dX5_hand_40 (by decide) (fun c51 => ?_) (fun c51 => ?_)
    · replace hm := if_T c51 hm
      refine lv_iconst (v := (0 : Int32)) (cx_x X) (cx_b X) dX5_hand_53 (by decide) ?_
      exact Jt8 _ (by cases hm; exact hmt8) _ _ hP hS _ (lv_sub hl [1, 2, 3, 0] rfl)
    · replace hm := if_F c51 hm
      refine lv_iload_n (cx_x X) (cx_b X) dX5_hand_43 rfl (lv_at hl 0 rfl) ?_
      refine lv_bipush (v := (-9 : Int32)) (cx_x X) (cx_b X) dX5_hand_44 (by decide) ?_
      refine lv_icmp_ne (tgt := 53) (cx_x X) (cx_b X) dX5_hand_46 (by decide) (fun c52 => ?_) (fun c52 => ?_)
      · replace hm := if_F c52 hm
        refine lv_iconst (v := (0 : Int32)) (cx_x X) (cx_b X) dX5_hand_53 (by decide) ?_
        exact Jt8 _ (by cases hm; exact hmt8) _ _ hP hS _ (lv_sub hl [1, 2, 3, 0] rfl)
      · replace hm := if_T c52 hm
        refine lv_iconst (v := (1 : Int32)) (cx_x X) (cx_b X) dX5_hand_49 (by decide) ?_
        refine lv_goto (tgt := 54) (cx_x X) (cx_b X) dX5_hand_50 (by decide) ?_
        exact Jt8 _ (by cases hm; exact hmt8) _ _ hP hS _ (lv_sub hl [1, 2, 3, 0] rfl)
  refine lv_if_ne (tgt := 17) (cx_x X) (cx_b X) dX5_hand_9 (by decide) (fun c53 => ?_) (fun c53 => ?_)
  · replace hm := if_F c53 hm
    refine lv_aload_n (cx_x X) (cx_b X) dX5_hand_17 rfl (lv_at hl 0 rfl) ?_
    refine lv_iload_n (cx_x X) (cx_b X) dX5_hand_18 rfl (lv_at hl 2 rfl) ?_
    obtain ⟨⟨v57, F55, R56⟩, h54, hm⟩ := bnd hm
    try dsimp only at hm
    refine af_W (mc := 0) (ms := 0) (rn_V (As := [.int a2]) (rest := []) X (c_X5_choose l D y A F R a2 v57 F55 R56 _ hI h54) vq_X5_91 ⟨rfl, rfl⟩ ⟨Nat.le_of_ble_eq_true rfl, Nat.le_of_ble_eq_true rfl⟩ (rec_5 X hP) ⟨rfl, hP⟩ rfl hl.1 rfl (Nat.le_of_ble_eq_true rfl) dX5_hand_19 ⟨Nat.le_of_ble_eq_true rfl, Nat.le_of_ble_eq_true rfl⟩) hS (rg_up hS.1) (fun H locs hP _ _ hS => ?_)
    exact Jt5 _ _ _ (by cases hm; exact hmt5) _ _ hP hS _ (lv_sub hl [0, 1, 2] rfl)
  · replace hm := if_T c53 hm
    refine lv_bipush (v := (-9 : Int32)) (cx_x X) (cx_b X) dX5_hand_12 (by decide) ?_
    refine lv_goto (tgt := 22) (cx_x X) (cx_b X) dX5_hand_14 (by decide) ?_
    exact Jt5 _ _ _ (by cases hm; exact hmt5) _ _ hP hS _ (lv_sub hl [0, 1, 2] rfl)
/-! X5_does -/
def m5_does_J35  (v4 : Int32) (F5 : (Nat → Int32)) (R6 : (Nat → Nat → Int32)) : Option (Int32 × (Nat → Int32) × (Nat → Nat → Int32)) :=
  some (v4, F5, R6)
def m5_does (F : (Nat → Int32)) (R : (Nat → Nat → Int32)) (a1 : Int32) (a2 : Int32) (a3 : Int32) : Option (Int32 × (Nat → Int32) × (Nat → Nat → Int32)) :=
  (m5_note F R).bind fun ⟨F2, R3⟩ =>
  (if a1 = 0 then
  (m5_start F2 R3 a2).bind fun ⟨v21, F19, R20⟩ =>
  some (v21, F19, R20)
  else
  if a1 = (1 : Int32) then
  (m5_end F2 R3 a2).bind fun ⟨v17, F15, R16⟩ =>
  some (v17, F15, R16)
  else
  (m5_hand F2 R3 a2 a3).bind fun ⟨v13, F11, R12⟩ =>
  some (v13, F11, R12)).bind fun ⟨v4, F5, R6⟩ => m5_does_J35 v4 F5 R6
abbrev rm_X5_does : Room := { frames := 7, cells := 0, slots := 0, locals := 167 }
set_option maxHeartbeats 4000000 in
set_option maxRecDepth 100000 in
theorem c_X5_does (l : Launch) (D : va_G) (y : Nat → ClassId) (A : Nat → Nat) (F : (Nat → Int32)) (R : (Nat → Nat → Int32)) (a1 : Int32) (a2 : Int32) (a3 : Int32) (rr9 : Int32) (FF9 : (Nat → Int32)) (RR9 : (Nat → Nat → Int32)) (sz : Nat) (hI : aj_s 7 A) (hm : m5_does F R a1 a2 a3 = some (rr9, FF9, RR9)) : Met l yX5_does (wy_s yX5_does cX5_does 4 (some .int)) rm_X5_does (pc_R D y [.ref (A 0), .int a1, .int a2, .int a3] (fun H => H.size = sz ∧ va_P D vwCl (w5_s y A F R) H)) (qc_W (some (.int rr9)) (fun H => va_P D vwCl (w5_s y A FF9 RR9) H) (rg_s 7 A sz)) 0 0 (rg_s 7 A sz) := by
  refine met_W (by decide) (Nat.le_of_ble_eq_true rfl) ?_
  intro p e s m args below meth c X hnm h0 ls hl
  obtain ⟨hsz, hP⟩ := h0
  subst hsz
  have hA := ap_of (sz := s.heap.size) hI
  have hS : va_S (rg_s 7 A s.heap.size) s.heap s.heap [] := va_S.rf
  replace hl : lv_has ls 4 [(0, .ref (A 0)), (1, .int a1), (2, .int a2), (3, .int a3)] := hl
  replace X : cx p s m args meth c cX5_does 4 (some .int) RX5 D y := X
  unfold m5_does at hm
  refine lv_aload_n (cx_x X) (cx_b X) dX5_does_0 rfl (lv_at hl 0 rfl) ?_
  obtain ⟨⟨F2, R3⟩, h1, hm⟩ := bnd hm
  try dsimp only at hm
  refine af_W (mc := 0) (ms := 0) (rn_V (As := []) (rest := []) X (c_X5_note l D y A F R F2 R3 _ hI h1) vq_X5_107 ⟨rfl, rfl⟩ ⟨Nat.le_of_ble_eq_true rfl, Nat.le_of_ble_eq_true rfl⟩ (rec_5 X hP) ⟨rfl, hP⟩ rfl hl.1 rfl (Nat.le_of_ble_eq_true rfl) dX5_does_1 ⟨Nat.le_of_ble_eq_true rfl, Nat.le_of_ble_eq_true rfl⟩) hS (rg_up hS.1) (fun H locs hP _ _ hS => ?_)
  refine lv_iload_n (cx_x X) (cx_b X) dX5_does_4 rfl (lv_at hl 1 rfl) ?_
  obtain ⟨qt7, hm, hmt7⟩ := bnd hm
  have Jt7 : ∀ (v4 : Int32) (F5 : (Nat → Int32)) (R6 : (Nat → Nat → Int32)) , m5_does_J35 v4 F5 R6 = some (rr9, FF9, RR9) → ∀ (H : Heap) (locs : List Loc), va_P D vwCl (w5_s y A F5 R6) H → va_S (rg_s 7 A s.heap.size) s.heap H locs → ∀ ls, lv_has ls 4 [] → gw p l e rm_X5_does s m args below meth c (some (.int rr9)) (fun H => va_P D vwCl (w5_s y A FF9 RR9) H) (rg_s 7 A s.heap.size) 0 0 H locs (F0 m 35 ls [.int v4]) := by
    intro v4 F5 R6 hm H locs hP hS ls hl
    unfold m5_does_J35 at hm
    obtain ⟨rfl, rfl, rfl⟩ := oc_3 hm
    exact gw_i X hS hP dX5_does_35
  refine lv_if_ne (tgt := 16) (cx_x X) (cx_b X) dX5_does_5 (by decide) (fun c8 => ?_) (fun c8 => ?_)
  · replace hm := if_F c8 hm
    refine lv_iload_n (cx_x X) (cx_b X) dX5_does_16 rfl (lv_at hl 1 rfl) ?_
    refine lv_iconst (v := (1 : Int32)) (cx_x X) (cx_b X) dX5_does_17 (by decide) ?_
    refine lv_icmp_ne (tgt := 29) (cx_x X) (cx_b X) dX5_does_18 (by decide) (fun c9 => ?_) (fun c9 => ?_)
    · replace hm := if_F c9 hm
      refine lv_aload_n (cx_x X) (cx_b X) dX5_does_29 rfl (lv_at hl 0 rfl) ?_
      refine lv_iload_n (cx_x X) (cx_b X) dX5_does_30 rfl (lv_at hl 2 rfl) ?_
      refine lv_iload_n (cx_x X) (cx_b X) dX5_does_31 rfl (lv_at hl 3 rfl) ?_
      obtain ⟨⟨v13, F11, R12⟩, h10, hm⟩ := bnd hm
      try dsimp only at hm
      refine af_W (mc := 0) (ms := 0) (rn_V (As := [.int a2, .int a3]) (rest := []) X (c_X5_hand l D y A F2 R3 a2 a3 v13 F11 R12 _ hI h10) vq_X5_116 ⟨rfl, rfl⟩ ⟨Nat.le_of_ble_eq_true rfl, Nat.le_of_ble_eq_true rfl⟩ (rec_5 X hP) ⟨rfl, hP⟩ rfl hl.1 rfl (Nat.le_of_ble_eq_true rfl) dX5_does_32 ⟨Nat.le_of_ble_eq_true rfl, Nat.le_of_ble_eq_true rfl⟩) hS (rg_up hS.1) (fun H locs hP _ _ hS => ?_)
      exact Jt7 _ _ _ (by cases hm; exact hmt7) _ _ hP hS _ (lv_sub hl [] rfl)
    · replace hm := if_T c9 hm
      refine lv_aload_n (cx_x X) (cx_b X) dX5_does_21 rfl (lv_at hl 0 rfl) ?_
      refine lv_iload_n (cx_x X) (cx_b X) dX5_does_22 rfl (lv_at hl 2 rfl) ?_
      obtain ⟨⟨v17, F15, R16⟩, h14, hm⟩ := bnd hm
      try dsimp only at hm
      refine af_W (mc := 0) (ms := 0) (rn_V (As := [.int a2]) (rest := []) X (c_X5_end l D y A F2 R3 a2 v17 F15 R16 _ hI h14) vq_X5_113 ⟨rfl, rfl⟩ ⟨Nat.le_of_ble_eq_true rfl, Nat.le_of_ble_eq_true rfl⟩ (rec_5 X hP) ⟨rfl, hP⟩ rfl hl.1 rfl (Nat.le_of_ble_eq_true rfl) dX5_does_23 ⟨Nat.le_of_ble_eq_true rfl, Nat.le_of_ble_eq_true rfl⟩) hS (rg_up hS.1) (fun H locs hP _ _ hS => ?_)
      refine lv_goto (tgt := 35) (cx_x X) (cx_b X) dX5_does_26 (by decide) ?_
      exact Jt7 _ _ _ (by cases hm; exact hmt7) _ _ hP hS _ (lv_sub hl [] rfl)
  · replace hm := if_T c8 hm
    refine lv_aload_n (cx_x X) (cx_b X) dX5_does_8 rfl (lv_at hl 0 rfl) ?_
    refine lv_iload_n (cx_x X) (cx_b X) dX5_does_9 rfl (lv_at hl 2 rfl) ?_
    obtain ⟨⟨v21, F19, R20⟩, h18, hm⟩ := bnd hm
    try dsimp only at hm
    refine af_W (mc := 0) (ms := 0) (rn_V (As := [.int a2]) (rest := []) X (c_X5_start l D y A F2 R3 a2 v21 F19 R20 _ hI h18) vq_X5_110 ⟨rfl, rfl⟩ ⟨Nat.le_of_ble_eq_true rfl, Nat.le_of_ble_eq_true rfl⟩ (rec_5 X hP) ⟨rfl, hP⟩ rfl hl.1 rfl (Nat.le_of_ble_eq_true rfl) dX5_does_10 ⟨Nat.le_of_ble_eq_true rfl, Nat.le_of_ble_eq_true rfl⟩) hS (rg_up hS.1) (fun H locs hP _ _ hS => ?_)
    refine lv_goto (tgt := 35) (cx_x X) (cx_b X) dX5_does_13 (by decide) ?_
    exact Jt7 _ _ _ (by cases hm; exact hmt7) _ _ hP hS _ (lv_sub hl [] rfl)
/-! X5_startCall -/
def m5_startCall_J27  (v3 : Int32) (F4 : (Nat → Int32)) (R5 : (Nat → Nat → Int32)) : Option (Int32 × (Nat → Int32) × (Nat → Nat → Int32)) :=
  some (v3, F4, R5)
def m5_startCall (F : (Nat → Int32)) (R : (Nat → Nat → Int32)) (a1 : Int32) : Option (Int32 × (Nat → Int32) × (Nat → Nat → Int32)) :=
  (m5_isError F R (0 : Int32) a1 (0 : Int32)).bind fun v2 =>
  (if v2 = 0 then
  (m5_does F R (0 : Int32) a1 (0 : Int32)).bind fun ⟨v11, F9, R10⟩ =>
  some (v11, F9, R10)
  else
  (m5_errorOf F R (0 : Int32) a1 (0 : Int32)).bind fun v13 =>
  some (v13, F, R)).bind fun ⟨v3, F4, R5⟩ => m5_startCall_J27 v3 F4 R5
abbrev rm_X5_startCall : Room := { frames := 8, cells := 0, slots := 0, locals := 190 }
set_option maxHeartbeats 4000000 in
set_option maxRecDepth 100000 in
theorem c_X5_startCall (l : Launch) (D : va_G) (y : Nat → ClassId) (A : Nat → Nat) (F : (Nat → Int32)) (R : (Nat → Nat → Int32)) (a1 : Int32) (rr9 : Int32) (FF9 : (Nat → Int32)) (RR9 : (Nat → Nat → Int32)) (sz : Nat) (hI : aj_s 7 A) (hm : m5_startCall F R a1 = some (rr9, FF9, RR9)) : Met l yX5_startCall (wy_s yX5_startCall cX5_startCall 2 (some .int)) rm_X5_startCall (pc_R D y [.ref (A 0), .int a1] (fun H => H.size = sz ∧ va_P D vwCl (w5_s y A F R) H)) (qc_W (some (.int rr9)) (fun H => va_P D vwCl (w5_s y A FF9 RR9) H) (rg_s 7 A sz)) 0 0 (rg_s 7 A sz) := by
  refine met_W (by decide) (Nat.le_of_ble_eq_true rfl) ?_
  intro p e s m args below meth c X hnm h0 ls hl
  obtain ⟨hsz, hP⟩ := h0
  subst hsz
  have hA := ap_of (sz := s.heap.size) hI
  have hS : va_S (rg_s 7 A s.heap.size) s.heap s.heap [] := va_S.rf
  replace hl : lv_has ls 2 [(0, .ref (A 0)), (1, .int a1)] := hl
  replace X : cx p s m args meth c cX5_startCall 2 (some .int) RX5 D y := X
  unfold m5_startCall at hm
  refine lv_aload_n (cx_x X) (cx_b X) dX5_startCall_0 rfl (lv_at hl 0 rfl) ?_
  refine lv_iconst (v := (0 : Int32)) (cx_x X) (cx_b X) dX5_startCall_1 (by decide) ?_
  refine lv_iload_n (cx_x X) (cx_b X) dX5_startCall_2 rfl (lv_at hl 1 rfl) ?_
  refine lv_iconst (v := (0 : Int32)) (cx_x X) (cx_b X) dX5_startCall_3 (by decide) ?_
  obtain ⟨v2, h1, hm⟩ := bnd hm
  refine af_R (rn_V (As := [.int (0 : Int32), .int a1, .int (0 : Int32)]) (rest := []) X (c_X5_isError l D y A F R (0 : Int32) a1 (0 : Int32)  _ h1) vq_X5_125 ⟨rfl, rfl⟩ ⟨Nat.le_of_ble_eq_true rfl, Nat.le_of_ble_eq_true rfl⟩ (rec_5 X hP) hP rfl hl.1 rfl (Nat.le_of_ble_eq_true rfl) dX5_startCall_4 ⟨Nat.le_of_ble_eq_true rfl, Nat.le_of_ble_eq_true rfl⟩) ?_
  obtain ⟨qt6, hm, hmt6⟩ := bnd hm
  have Jt6 : ∀ (v3 : Int32) (F4 : (Nat → Int32)) (R5 : (Nat → Nat → Int32)) , m5_startCall_J27 v3 F4 R5 = some (rr9, FF9, RR9) → ∀ (H : Heap) (locs : List Loc), va_P D vwCl (w5_s y A F4 R5) H → va_S (rg_s 7 A s.heap.size) s.heap H locs → ∀ ls, lv_has ls 2 [] → gw p l e rm_X5_startCall s m args below meth c (some (.int rr9)) (fun H => va_P D vwCl (w5_s y A FF9 RR9) H) (rg_s 7 A s.heap.size) 0 0 H locs (F0 m 27 ls [.int v3]) := by
    intro v3 F4 R5 hm H locs hP hS ls hl
    unfold m5_startCall_J27 at hm
    obtain ⟨rfl, rfl, rfl⟩ := oc_3 hm
    exact gw_i X hS hP dX5_startCall_27
  refine lv_if_eq (tgt := 20) (cx_x X) (cx_b X) dX5_startCall_7 (by decide) (fun c7 => ?_) (fun c7 => ?_)
  · replace hm := if_T c7 hm
    refine lv_aload_n (cx_x X) (cx_b X) dX5_startCall_20 rfl (lv_at hl 0 rfl) ?_
    refine lv_iconst (v := (0 : Int32)) (cx_x X) (cx_b X) dX5_startCall_21 (by decide) ?_
    refine lv_iload_n (cx_x X) (cx_b X) dX5_startCall_22 rfl (lv_at hl 1 rfl) ?_
    refine lv_iconst (v := (0 : Int32)) (cx_x X) (cx_b X) dX5_startCall_23 (by decide) ?_
    obtain ⟨⟨v11, F9, R10⟩, h8, hm⟩ := bnd hm
    try dsimp only at hm
    refine af_W (mc := 0) (ms := 0) (rn_V (As := [.int (0 : Int32), .int a1, .int (0 : Int32)]) (rest := []) X (c_X5_does l D y A F R (0 : Int32) a1 (0 : Int32) v11 F9 R10 _ hI h8) vq_X5_132 ⟨rfl, rfl⟩ ⟨Nat.le_of_ble_eq_true rfl, Nat.le_of_ble_eq_true rfl⟩ (rec_5 X hP) ⟨rfl, hP⟩ rfl hl.1 rfl (Nat.le_of_ble_eq_true rfl) dX5_startCall_24 ⟨Nat.le_of_ble_eq_true rfl, Nat.le_of_ble_eq_true rfl⟩) hS (rg_up hS.1) (fun H locs hP _ _ hS => ?_)
    exact Jt6 _ _ _ (by cases hm; exact hmt6) _ _ hP hS _ (lv_sub hl [] rfl)
  · replace hm := if_F c7 hm
    refine lv_aload_n (cx_x X) (cx_b X) dX5_startCall_10 rfl (lv_at hl 0 rfl) ?_
    refine lv_iconst (v := (0 : Int32)) (cx_x X) (cx_b X) dX5_startCall_11 (by decide) ?_
    refine lv_iload_n (cx_x X) (cx_b X) dX5_startCall_12 rfl (lv_at hl 1 rfl) ?_
    refine lv_iconst (v := (0 : Int32)) (cx_x X) (cx_b X) dX5_startCall_13 (by decide) ?_
    obtain ⟨v13, h12, hm⟩ := bnd hm
    refine af_R (rn_V (As := [.int (0 : Int32), .int a1, .int (0 : Int32)]) (rest := []) X (c_X5_errorOf l D y A F R (0 : Int32) a1 (0 : Int32)  _ h12) vq_X5_128 ⟨rfl, rfl⟩ ⟨Nat.le_of_ble_eq_true rfl, Nat.le_of_ble_eq_true rfl⟩ (rec_5 X hP) hP rfl hl.1 rfl (Nat.le_of_ble_eq_true rfl) dX5_startCall_14 ⟨Nat.le_of_ble_eq_true rfl, Nat.le_of_ble_eq_true rfl⟩) ?_
    refine lv_goto (tgt := 27) (cx_x X) (cx_b X) dX5_startCall_17 (by decide) ?_
    exact Jt6 _ _ _ (by cases hm; exact hmt6) _ _ hP hS _ (lv_sub hl [] rfl)
/-! X5_endCall -/
def m5_endCall_J27  (v3 : Int32) (F4 : (Nat → Int32)) (R5 : (Nat → Nat → Int32)) : Option (Int32 × (Nat → Int32) × (Nat → Nat → Int32)) :=
  some (v3, F4, R5)
def m5_endCall (F : (Nat → Int32)) (R : (Nat → Nat → Int32)) (a1 : Int32) : Option (Int32 × (Nat → Int32) × (Nat → Nat → Int32)) :=
  (m5_isError F R (1 : Int32) a1 (0 : Int32)).bind fun v2 =>
  (if v2 = 0 then
  (m5_does F R (1 : Int32) a1 (0 : Int32)).bind fun ⟨v11, F9, R10⟩ =>
  some (v11, F9, R10)
  else
  (m5_errorOf F R (1 : Int32) a1 (0 : Int32)).bind fun v13 =>
  some (v13, F, R)).bind fun ⟨v3, F4, R5⟩ => m5_endCall_J27 v3 F4 R5
abbrev rm_X5_endCall : Room := { frames := 8, cells := 0, slots := 0, locals := 190 }
set_option maxHeartbeats 4000000 in
set_option maxRecDepth 100000 in
theorem c_X5_endCall (l : Launch) (D : va_G) (y : Nat → ClassId) (A : Nat → Nat) (F : (Nat → Int32)) (R : (Nat → Nat → Int32)) (a1 : Int32) (rr9 : Int32) (FF9 : (Nat → Int32)) (RR9 : (Nat → Nat → Int32)) (sz : Nat) (hI : aj_s 7 A) (hm : m5_endCall F R a1 = some (rr9, FF9, RR9)) : Met l yX5_endCall (wy_s yX5_endCall cX5_endCall 2 (some .int)) rm_X5_endCall (pc_R D y [.ref (A 0), .int a1] (fun H => H.size = sz ∧ va_P D vwCl (w5_s y A F R) H)) (qc_W (some (.int rr9)) (fun H => va_P D vwCl (w5_s y A FF9 RR9) H) (rg_s 7 A sz)) 0 0 (rg_s 7 A sz) := by
  refine met_W (by decide) (Nat.le_of_ble_eq_true rfl) ?_
  intro p e s m args below meth c X hnm h0 ls hl
  obtain ⟨hsz, hP⟩ := h0
  subst hsz
  have hA := ap_of (sz := s.heap.size) hI
  have hS : va_S (rg_s 7 A s.heap.size) s.heap s.heap [] := va_S.rf
  replace hl : lv_has ls 2 [(0, .ref (A 0)), (1, .int a1)] := hl
  replace X : cx p s m args meth c cX5_endCall 2 (some .int) RX5 D y := X
  unfold m5_endCall at hm
  refine lv_aload_n (cx_x X) (cx_b X) dX5_endCall_0 rfl (lv_at hl 0 rfl) ?_
  refine lv_iconst (v := (1 : Int32)) (cx_x X) (cx_b X) dX5_endCall_1 (by decide) ?_
  refine lv_iload_n (cx_x X) (cx_b X) dX5_endCall_2 rfl (lv_at hl 1 rfl) ?_
  refine lv_iconst (v := (0 : Int32)) (cx_x X) (cx_b X) dX5_endCall_3 (by decide) ?_
  obtain ⟨v2, h1, hm⟩ := bnd hm
  refine af_R (rn_V (As := [.int (1 : Int32), .int a1, .int (0 : Int32)]) (rest := []) X (c_X5_isError l D y A F R (1 : Int32) a1 (0 : Int32)  _ h1) vq_X5_125 ⟨rfl, rfl⟩ ⟨Nat.le_of_ble_eq_true rfl, Nat.le_of_ble_eq_true rfl⟩ (rec_5 X hP) hP rfl hl.1 rfl (Nat.le_of_ble_eq_true rfl) dX5_endCall_4 ⟨Nat.le_of_ble_eq_true rfl, Nat.le_of_ble_eq_true rfl⟩) ?_
  obtain ⟨qt6, hm, hmt6⟩ := bnd hm
  have Jt6 : ∀ (v3 : Int32) (F4 : (Nat → Int32)) (R5 : (Nat → Nat → Int32)) , m5_endCall_J27 v3 F4 R5 = some (rr9, FF9, RR9) → ∀ (H : Heap) (locs : List Loc), va_P D vwCl (w5_s y A F4 R5) H → va_S (rg_s 7 A s.heap.size) s.heap H locs → ∀ ls, lv_has ls 2 [] → gw p l e rm_X5_endCall s m args below meth c (some (.int rr9)) (fun H => va_P D vwCl (w5_s y A FF9 RR9) H) (rg_s 7 A s.heap.size) 0 0 H locs (F0 m 27 ls [.int v3]) := by
    intro v3 F4 R5 hm H locs hP hS ls hl
    unfold m5_endCall_J27 at hm
    obtain ⟨rfl, rfl, rfl⟩ := oc_3 hm
    exact gw_i X hS hP dX5_endCall_27
  refine lv_if_eq (tgt := 20) (cx_x X) (cx_b X) dX5_endCall_7 (by decide) (fun c7 => ?_) (fun c7 => ?_)
  · replace hm := if_T c7 hm
    refine lv_aload_n (cx_x X) (cx_b X) dX5_endCall_20 rfl (lv_at hl 0 rfl) ?_
    refine lv_iconst (v := (1 : Int32)) (cx_x X) (cx_b X) dX5_endCall_21 (by decide) ?_
    refine lv_iload_n (cx_x X) (cx_b X) dX5_endCall_22 rfl (lv_at hl 1 rfl) ?_
    refine lv_iconst (v := (0 : Int32)) (cx_x X) (cx_b X) dX5_endCall_23 (by decide) ?_
    obtain ⟨⟨v11, F9, R10⟩, h8, hm⟩ := bnd hm
    try dsimp only at hm
    refine af_W (mc := 0) (ms := 0) (rn_V (As := [.int (1 : Int32), .int a1, .int (0 : Int32)]) (rest := []) X (c_X5_does l D y A F R (1 : Int32) a1 (0 : Int32) v11 F9 R10 _ hI h8) vq_X5_132 ⟨rfl, rfl⟩ ⟨Nat.le_of_ble_eq_true rfl, Nat.le_of_ble_eq_true rfl⟩ (rec_5 X hP) ⟨rfl, hP⟩ rfl hl.1 rfl (Nat.le_of_ble_eq_true rfl) dX5_endCall_24 ⟨Nat.le_of_ble_eq_true rfl, Nat.le_of_ble_eq_true rfl⟩) hS (rg_up hS.1) (fun H locs hP _ _ hS => ?_)
    exact Jt6 _ _ _ (by cases hm; exact hmt6) _ _ hP hS _ (lv_sub hl [] rfl)
  · replace hm := if_F c7 hm
    refine lv_aload_n (cx_x X) (cx_b X) dX5_endCall_10 rfl (lv_at hl 0 rfl) ?_
    refine lv_iconst (v := (1 : Int32)) (cx_x X) (cx_b X) dX5_endCall_11 (by decide) ?_
    refine lv_iload_n (cx_x X) (cx_b X) dX5_endCall_12 rfl (lv_at hl 1 rfl) ?_
    refine lv_iconst (v := (0 : Int32)) (cx_x X) (cx_b X) dX5_endCall_13 (by decide) ?_
    obtain ⟨v13, h12, hm⟩ := bnd hm
    refine af_R (rn_V (As := [.int (1 : Int32), .int a1, .int (0 : Int32)]) (rest := []) X (c_X5_errorOf l D y A F R (1 : Int32) a1 (0 : Int32)  _ h12) vq_X5_128 ⟨rfl, rfl⟩ ⟨Nat.le_of_ble_eq_true rfl, Nat.le_of_ble_eq_true rfl⟩ (rec_5 X hP) hP rfl hl.1 rfl (Nat.le_of_ble_eq_true rfl) dX5_endCall_14 ⟨Nat.le_of_ble_eq_true rfl, Nat.le_of_ble_eq_true rfl⟩) ?_
    refine lv_goto (tgt := 27) (cx_x X) (cx_b X) dX5_endCall_17 (by decide) ?_
    exact Jt6 _ _ _ (by cases hm; exact hmt6) _ _ hP hS _ (lv_sub hl [] rfl)
/-! X5_handOver -/
def m5_handOver_J27  (v3 : Int32) (F4 : (Nat → Int32)) (R5 : (Nat → Nat → Int32)) : Option (Int32 × (Nat → Int32) × (Nat → Nat → Int32)) :=
  some (v3, F4, R5)
def m5_handOver (F : (Nat → Int32)) (R : (Nat → Nat → Int32)) (a1 : Int32) (a2 : Int32) : Option (Int32 × (Nat → Int32) × (Nat → Nat → Int32)) :=
  (m5_isError F R (2 : Int32) a1 a2).bind fun v2 =>
  (if v2 = 0 then
  (m5_does F R (2 : Int32) a1 a2).bind fun ⟨v11, F9, R10⟩ =>
  some (v11, F9, R10)
  else
  (m5_errorOf F R (2 : Int32) a1 a2).bind fun v13 =>
  some (v13, F, R)).bind fun ⟨v3, F4, R5⟩ => m5_handOver_J27 v3 F4 R5
abbrev rm_X5_handOver : Room := { frames := 8, cells := 0, slots := 0, locals := 190 }
set_option maxHeartbeats 4000000 in
set_option maxRecDepth 100000 in
theorem c_X5_handOver (l : Launch) (D : va_G) (y : Nat → ClassId) (A : Nat → Nat) (F : (Nat → Int32)) (R : (Nat → Nat → Int32)) (a1 : Int32) (a2 : Int32) (rr9 : Int32) (FF9 : (Nat → Int32)) (RR9 : (Nat → Nat → Int32)) (sz : Nat) (hI : aj_s 7 A) (hm : m5_handOver F R a1 a2 = some (rr9, FF9, RR9)) : Met l yX5_handOver (wy_s yX5_handOver cX5_handOver 3 (some .int)) rm_X5_handOver (pc_R D y [.ref (A 0), .int a1, .int a2] (fun H => H.size = sz ∧ va_P D vwCl (w5_s y A F R) H)) (qc_W (some (.int rr9)) (fun H => va_P D vwCl (w5_s y A FF9 RR9) H) (rg_s 7 A sz)) 0 0 (rg_s 7 A sz) := by
  refine met_W (by decide) (Nat.le_of_ble_eq_true rfl) ?_
  intro p e s m args below meth c X hnm h0 ls hl
  obtain ⟨hsz, hP⟩ := h0
  subst hsz
  have hA := ap_of (sz := s.heap.size) hI
  have hS : va_S (rg_s 7 A s.heap.size) s.heap s.heap [] := va_S.rf
  replace hl : lv_has ls 3 [(0, .ref (A 0)), (1, .int a1), (2, .int a2)] := hl
  replace X : cx p s m args meth c cX5_handOver 3 (some .int) RX5 D y := X
  unfold m5_handOver at hm
  refine lv_aload_n (cx_x X) (cx_b X) dX5_handOver_0 rfl (lv_at hl 0 rfl) ?_
  refine lv_iconst (v := (2 : Int32)) (cx_x X) (cx_b X) dX5_handOver_1 (by decide) ?_
  refine lv_iload_n (cx_x X) (cx_b X) dX5_handOver_2 rfl (lv_at hl 1 rfl) ?_
  refine lv_iload_n (cx_x X) (cx_b X) dX5_handOver_3 rfl (lv_at hl 2 rfl) ?_
  obtain ⟨v2, h1, hm⟩ := bnd hm
  refine af_R (rn_V (As := [.int (2 : Int32), .int a1, .int a2]) (rest := []) X (c_X5_isError l D y A F R (2 : Int32) a1 a2  _ h1) vq_X5_125 ⟨rfl, rfl⟩ ⟨Nat.le_of_ble_eq_true rfl, Nat.le_of_ble_eq_true rfl⟩ (rec_5 X hP) hP rfl hl.1 rfl (Nat.le_of_ble_eq_true rfl) dX5_handOver_4 ⟨Nat.le_of_ble_eq_true rfl, Nat.le_of_ble_eq_true rfl⟩) ?_
  obtain ⟨qt6, hm, hmt6⟩ := bnd hm
  have Jt6 : ∀ (v3 : Int32) (F4 : (Nat → Int32)) (R5 : (Nat → Nat → Int32)) , m5_handOver_J27 v3 F4 R5 = some (rr9, FF9, RR9) → ∀ (H : Heap) (locs : List Loc), va_P D vwCl (w5_s y A F4 R5) H → va_S (rg_s 7 A s.heap.size) s.heap H locs → ∀ ls, lv_has ls 3 [] → gw p l e rm_X5_handOver s m args below meth c (some (.int rr9)) (fun H => va_P D vwCl (w5_s y A FF9 RR9) H) (rg_s 7 A s.heap.size) 0 0 H locs (F0 m 27 ls [.int v3]) := by
    intro v3 F4 R5 hm H locs hP hS ls hl
    unfold m5_handOver_J27 at hm
    obtain ⟨rfl, rfl, rfl⟩ := oc_3 hm
    exact gw_i X hS hP dX5_handOver_27
  refine lv_if_eq (tgt := 20) (cx_x X) (cx_b X) dX5_handOver_7 (by decide) (fun c7 => ?_) (fun c7 => ?_)
  · replace hm := if_T c7 hm
    refine lv_aload_n (cx_x X) (cx_b X) dX5_handOver_20 rfl (lv_at hl 0 rfl) ?_
    refine lv_iconst (v := (2 : Int32)) (cx_x X) (cx_b X) dX5_handOver_21 (by decide) ?_
    refine lv_iload_n (cx_x X) (cx_b X) dX5_handOver_22 rfl (lv_at hl 1 rfl) ?_
    refine lv_iload_n (cx_x X) (cx_b X) dX5_handOver_23 rfl (lv_at hl 2 rfl) ?_
    obtain ⟨⟨v11, F9, R10⟩, h8, hm⟩ := bnd hm
    try dsimp only at hm
    refine af_W (mc := 0) (ms := 0) (rn_V (As := [.int (2 : Int32), .int a1, .int a2]) (rest := []) X (c_X5_does l D y A F R (2 : Int32) a1 a2 v11 F9 R10 _ hI h8) vq_X5_132 ⟨rfl, rfl⟩ ⟨Nat.le_of_ble_eq_true rfl, Nat.le_of_ble_eq_true rfl⟩ (rec_5 X hP) ⟨rfl, hP⟩ rfl hl.1 rfl (Nat.le_of_ble_eq_true rfl) dX5_handOver_24 ⟨Nat.le_of_ble_eq_true rfl, Nat.le_of_ble_eq_true rfl⟩) hS (rg_up hS.1) (fun H locs hP _ _ hS => ?_)
    exact Jt6 _ _ _ (by cases hm; exact hmt6) _ _ hP hS _ (lv_sub hl [] rfl)
  · replace hm := if_F c7 hm
    refine lv_aload_n (cx_x X) (cx_b X) dX5_handOver_10 rfl (lv_at hl 0 rfl) ?_
    refine lv_iconst (v := (2 : Int32)) (cx_x X) (cx_b X) dX5_handOver_11 (by decide) ?_
    refine lv_iload_n (cx_x X) (cx_b X) dX5_handOver_12 rfl (lv_at hl 1 rfl) ?_
    refine lv_iload_n (cx_x X) (cx_b X) dX5_handOver_13 rfl (lv_at hl 2 rfl) ?_
    obtain ⟨v13, h12, hm⟩ := bnd hm
    refine af_R (rn_V (As := [.int (2 : Int32), .int a1, .int a2]) (rest := []) X (c_X5_errorOf l D y A F R (2 : Int32) a1 a2  _ h12) vq_X5_128 ⟨rfl, rfl⟩ ⟨Nat.le_of_ble_eq_true rfl, Nat.le_of_ble_eq_true rfl⟩ (rec_5 X hP) hP rfl hl.1 rfl (Nat.le_of_ble_eq_true rfl) dX5_handOver_14 ⟨Nat.le_of_ble_eq_true rfl, Nat.le_of_ble_eq_true rfl⟩) ?_
    refine lv_goto (tgt := 27) (cx_x X) (cx_b X) dX5_handOver_17 (by decide) ?_
    exact Jt6 _ _ _ (by cases hm; exact hmt6) _ _ hP hS _ (lv_sub hl [] rfl)
/-! X5_configure -/
def m5_configure_X69 (a1 : Int32) (a2 : Int32) (a3 : Int32) (a4 : Int32) (F14 : (Nat → Int32)) (R19 : (Nat → Nat → Int32)) : Option (Int32 × (Nat → Int32) × (Nat → Nat → Int32)) :=
  (m5_channels F14 (va_up (va_up (va_up (va_up R19 0 (upd (R19 0) (0 : Int32).toNatClampNeg a1)) 0 (upd ((va_up R19 0 (upd (R19 0) (0 : Int32).toNatClampNeg a1)) 0) (1 : Int32).toNatClampNeg a2)) 0 (upd ((va_up (va_up R19 0 (upd (R19 0) (0 : Int32).toNatClampNeg a1)) 0 (upd ((va_up R19 0 (upd (R19 0) (0 : Int32).toNatClampNeg a1)) 0) (1 : Int32).toNatClampNeg a2)) 0) (2 : Int32).toNatClampNeg a3)) 0 (upd ((va_up (va_up (va_up R19 0 (upd (R19 0) (0 : Int32).toNatClampNeg a1)) 0 (upd ((va_up R19 0 (upd (R19 0) (0 : Int32).toNatClampNeg a1)) 0) (1 : Int32).toNatClampNeg a2)) 0 (upd ((va_up (va_up R19 0 (upd (R19 0) (0 : Int32).toNatClampNeg a1)) 0 (upd ((va_up R19 0 (upd (R19 0) (0 : Int32).toNatClampNeg a1)) 0) (1 : Int32).toNatClampNeg a2)) 0) (2 : Int32).toNatClampNeg a3)) 0) (3 : Int32).toNatClampNeg a4))).bind fun v21 =>
  some (v21, F14, (va_up (va_up (va_up (va_up R19 0 (upd (R19 0) (0 : Int32).toNatClampNeg a1)) 0 (upd ((va_up R19 0 (upd (R19 0) (0 : Int32).toNatClampNeg a1)) 0) (1 : Int32).toNatClampNeg a2)) 0 (upd ((va_up (va_up R19 0 (upd (R19 0) (0 : Int32).toNatClampNeg a1)) 0 (upd ((va_up R19 0 (upd (R19 0) (0 : Int32).toNatClampNeg a1)) 0) (1 : Int32).toNatClampNeg a2)) 0) (2 : Int32).toNatClampNeg a3)) 0 (upd ((va_up (va_up (va_up R19 0 (upd (R19 0) (0 : Int32).toNatClampNeg a1)) 0 (upd ((va_up R19 0 (upd (R19 0) (0 : Int32).toNatClampNeg a1)) 0) (1 : Int32).toNatClampNeg a2)) 0 (upd ((va_up (va_up R19 0 (upd (R19 0) (0 : Int32).toNatClampNeg a1)) 0 (upd ((va_up R19 0 (upd (R19 0) (0 : Int32).toNatClampNeg a1)) 0) (1 : Int32).toNatClampNeg a2)) 0) (2 : Int32).toNatClampNeg a3)) 0) (3 : Int32).toNatClampNeg a4)))
def m5_configure_L47  (kkt16 : (Int32 × (Nat → Nat → Int32)) → Option (Nat → Nat → Int32)) (t0 : (Int32 × (Nat → Nat → Int32))) : Option (Nat → Nat → Int32) :=
  if (194 : Int32) ≤ t0.1 then
  some t0.2
  else
  if inb t0.1 194 then
  kkt16 ((t0.1 + (1 : Int32)), (va_up t0.2 0 (upd (t0.2 0) t0.1.toNatClampNeg (0 : Int32)))) else none
def m5_configure (F : (Nat → Int32)) (R : (Nat → Nat → Int32)) (a1 : Int32) (a2 : Int32) (a3 : Int32) (a4 : Int32) : Option (Int32 × (Nat → Int32) × (Nat → Nat → Int32)) :=
  (m5_in a1 (1 : Int32) (5 : Int32)).bind fun v2 =>
  if v2 = 0 then
  some ((-1 : Int32), F, R)
  else
  (m5_in a2 (1 : Int32) (5 : Int32)).bind fun v5 =>
  if v5 = 0 then
  some ((-1 : Int32), F, R)
  else
  (m5_in a3 (2 : Int32) (3 : Int32)).bind fun v8 =>
  if v8 = 0 then
  some ((-1 : Int32), F, R)
  else
  (m5_in a4 (1 : Int32) (4 : Int32)).bind fun v11 =>
  if v11 = 0 then
  some ((-1 : Int32), F, R)
  else
  (m5_note F R).bind fun ⟨F14, R15⟩ =>
  (wh (m5_configure_L47) 2000 ((7 : Int32), R15)).bind fun R19 => m5_configure_X69 a1 a2 a3 a4 F14 R19
abbrev rm_X5_configure : Room := { frames := 2, cells := 0, slots := 0, locals := 40 }
set_option maxHeartbeats 4000000 in
set_option maxRecDepth 100000 in
theorem c_X5_configure (l : Launch) (D : va_G) (y : Nat → ClassId) (A : Nat → Nat) (F : (Nat → Int32)) (R : (Nat → Nat → Int32)) (a1 : Int32) (a2 : Int32) (a3 : Int32) (a4 : Int32) (rr9 : Int32) (FF9 : (Nat → Int32)) (RR9 : (Nat → Nat → Int32)) (sz : Nat) (hI : aj_s 7 A) (hm : m5_configure F R a1 a2 a3 a4 = some (rr9, FF9, RR9)) : Met l yX5_configure (wy_s yX5_configure cX5_configure 6 (some .int)) rm_X5_configure (pc_R D y [.ref (A 0), .int a1, .int a2, .int a3, .int a4] (fun H => H.size = sz ∧ va_P D vwCl (w5_s y A F R) H)) (qc_W (some (.int rr9)) (fun H => va_P D vwCl (w5_s y A FF9 RR9) H) (rg_s 7 A sz)) 0 0 (rg_s 7 A sz) := by
  refine met_W (by decide) (Nat.le_of_ble_eq_true rfl) ?_
  intro p e s m args below meth c X hnm h0 ls hl
  obtain ⟨hsz, hP⟩ := h0
  subst hsz
  have hA := ap_of (sz := s.heap.size) hI
  have hS : va_S (rg_s 7 A s.heap.size) s.heap s.heap [] := va_S.rf
  replace hl : lv_has ls 6 [(0, .ref (A 0)), (1, .int a1), (2, .int a2), (3, .int a3), (4, .int a4)] := hl
  replace X : cx p s m args meth c cX5_configure 6 (some .int) RX5 D y := X
  unfold m5_configure at hm
  refine lv_iload_n (cx_x X) (cx_b X) dX5_configure_0 rfl (lv_at hl 1 rfl) ?_
  refine lv_iconst (v := (1 : Int32)) (cx_x X) (cx_b X) dX5_configure_1 (by decide) ?_
  refine lv_iconst (v := (5 : Int32)) (cx_x X) (cx_b X) dX5_configure_2 (by decide) ?_
  obtain ⟨v2, h1, hm⟩ := bnd hm
  refine af_R (rn_S (As := [.int a1, .int (1 : Int32), .int (5 : Int32)]) (rest := []) X (c_X5_in l D y a1 (1 : Int32) (5 : Int32)  _ h1) sq_X5_34 ⟨rfl, rfl⟩ ⟨Nat.le_of_ble_eq_true rfl, Nat.le_of_ble_eq_true rfl⟩ trivial rfl hl.1 rfl (Nat.le_of_ble_eq_true rfl) dX5_configure_3 ⟨Nat.le_of_ble_eq_true rfl, Nat.le_of_ble_eq_true rfl⟩) ?_
  refine lv_if_eq (tgt := 37) (cx_x X) (cx_b X) dX5_configure_6 (by decide) (fun c3 => ?_) (fun c3 => ?_)
  · replace hm := if_T c3 hm
    refine lv_iconst (v := (-1 : Int32)) (cx_x X) (cx_b X) dX5_configure_37 (by decide) ?_
    obtain ⟨rfl, rfl, rfl⟩ := oc_3 hm
    exact gw_i X hS hP dX5_configure_38
  · replace hm := if_F c3 hm
    refine lv_iload_n (cx_x X) (cx_b X) dX5_configure_9 rfl (lv_at hl 2 rfl) ?_
    refine lv_iconst (v := (1 : Int32)) (cx_x X) (cx_b X) dX5_configure_10 (by decide) ?_
    refine lv_iconst (v := (5 : Int32)) (cx_x X) (cx_b X) dX5_configure_11 (by decide) ?_
    obtain ⟨v5, h4, hm⟩ := bnd hm
    refine af_R (rn_S (As := [.int a2, .int (1 : Int32), .int (5 : Int32)]) (rest := []) X (c_X5_in l D y a2 (1 : Int32) (5 : Int32)  _ h4) sq_X5_34 ⟨rfl, rfl⟩ ⟨Nat.le_of_ble_eq_true rfl, Nat.le_of_ble_eq_true rfl⟩ trivial rfl hl.1 rfl (Nat.le_of_ble_eq_true rfl) dX5_configure_12 ⟨Nat.le_of_ble_eq_true rfl, Nat.le_of_ble_eq_true rfl⟩) ?_
    refine lv_if_eq (tgt := 37) (cx_x X) (cx_b X) dX5_configure_15 (by decide) (fun c6 => ?_) (fun c6 => ?_)
    · replace hm := if_T c6 hm
      refine lv_iconst (v := (-1 : Int32)) (cx_x X) (cx_b X) dX5_configure_37 (by decide) ?_
      obtain ⟨rfl, rfl, rfl⟩ := oc_3 hm
      exact gw_i X hS hP dX5_configure_38
    · replace hm := if_F c6 hm
      refine lv_iload_n (cx_x X) (cx_b X) dX5_configure_18 rfl (lv_at hl 3 rfl) ?_
      refine lv_iconst (v := (2 : Int32)) (cx_x X) (cx_b X) dX5_configure_19 (by decide) ?_
      refine lv_iconst (v := (3 : Int32)) (cx_x X) (cx_b X) dX5_configure_20 (by decide) ?_
      obtain ⟨v8, h7, hm⟩ := bnd hm
      refine af_R (rn_S (As := [.int a3, .int (2 : Int32), .int (3 : Int32)]) (rest := []) X (c_X5_in l D y a3 (2 : Int32) (3 : Int32)  _ h7) sq_X5_34 ⟨rfl, rfl⟩ ⟨Nat.le_of_ble_eq_true rfl, Nat.le_of_ble_eq_true rfl⟩ trivial rfl hl.1 rfl (Nat.le_of_ble_eq_true rfl) dX5_configure_21 ⟨Nat.le_of_ble_eq_true rfl, Nat.le_of_ble_eq_true rfl⟩) ?_
      refine lv_if_eq (tgt := 37) (cx_x X) (cx_b X) dX5_configure_24 (by decide) (fun c9 => ?_) (fun c9 => ?_)
      · replace hm := if_T c9 hm
        refine lv_iconst (v := (-1 : Int32)) (cx_x X) (cx_b X) dX5_configure_37 (by decide) ?_
        obtain ⟨rfl, rfl, rfl⟩ := oc_3 hm
        exact gw_i X hS hP dX5_configure_38
      · replace hm := if_F c9 hm
        refine lv_iload (cx_x X) (cx_b X) dX5_configure_27 (lv_at hl 4 rfl) ?_
        refine lv_iconst (v := (1 : Int32)) (cx_x X) (cx_b X) dX5_configure_29 (by decide) ?_
        refine lv_iconst (v := (4 : Int32)) (cx_x X) (cx_b X) dX5_configure_30 (by decide) ?_
        obtain ⟨v11, h10, hm⟩ := bnd hm
        refine af_R (rn_S (As := [.int a4, .int (1 : Int32), .int (4 : Int32)]) (rest := []) X (c_X5_in l D y a4 (1 : Int32) (4 : Int32)  _ h10) sq_X5_34 ⟨rfl, rfl⟩ ⟨Nat.le_of_ble_eq_true rfl, Nat.le_of_ble_eq_true rfl⟩ trivial rfl hl.1 rfl (Nat.le_of_ble_eq_true rfl) dX5_configure_31 ⟨Nat.le_of_ble_eq_true rfl, Nat.le_of_ble_eq_true rfl⟩) ?_
        refine lv_if_ne (tgt := 39) (cx_x X) (cx_b X) dX5_configure_34 (by decide) (fun c12 => ?_) (fun c12 => ?_)
        · replace hm := if_F c12 hm
          refine lv_aload_n (cx_x X) (cx_b X) dX5_configure_39 rfl (lv_at hl 0 rfl) ?_
          obtain ⟨⟨F14, R15⟩, h13, hm⟩ := bnd hm
          try dsimp only at hm
          refine af_W (mc := 0) (ms := 0) (rn_V (As := []) (rest := []) X (c_X5_note l D y A F R F14 R15 _ hI h13) vq_X5_107 ⟨rfl, rfl⟩ ⟨Nat.le_of_ble_eq_true rfl, Nat.le_of_ble_eq_true rfl⟩ (rec_5 X hP) ⟨rfl, hP⟩ rfl hl.1 rfl (Nat.le_of_ble_eq_true rfl) dX5_configure_40 ⟨Nat.le_of_ble_eq_true rfl, Nat.le_of_ble_eq_true rfl⟩) hS (rg_up hS.1) (fun H locs hP _ _ hS => ?_)
          refine lv_bipush (v := (7 : Int32)) (cx_x X) (cx_b X) dX5_configure_43 (by decide) ?_
          refine lv_istore (lv' := [(5, .int (7 : Int32)), (0, .ref (A 0)), (1, .int a1), (2, .int a2), (3, .int a3), (4, .int a4)]) (cx_x X) (cx_b X) dX5_configure_45 hl (by decide) rfl (fun ls hl => ?_)
          obtain ⟨qt16, hm, hmt16⟩ := bnd hm
          have Xt16 : ∀ (R19 : (Nat → Nat → Int32)) , m5_configure_X69 a1 a2 a3 a4 F14 R19 = some (rr9, FF9, RR9) → ∀ (H : Heap) (locs : List Loc), va_P D vwCl (w5_s y A F14 R19) H → va_S (rg_s 7 A s.heap.size) s.heap H locs → ∀ ls, lv_has ls 6 [(0, .ref (A 0)), (1, .int a1), (2, .int a2), (3, .int a3), (4, .int a4)] → gw p l e rm_X5_configure s m args below meth c (some (.int rr9)) (fun H => va_P D vwCl (w5_s y A FF9 RR9) H) (rg_s 7 A s.heap.size) 0 0 H locs (F0 m 69 ls []) := by
            intro R19 hm H locs hP hS ls hl
            unfold m5_configure_X69 at hm
            refine lv_aload_n (cx_x X) (cx_b X) dX5_configure_69 rfl (lv_at hl 0 rfl) ?_
            refine gf_X5_7 X hP dX5_configure_70 ?_
            refine lv_iconst (v := (0 : Int32)) (cx_x X) (cx_b X) dX5_configure_73 (by decide) ?_
            refine lv_iload_n (cx_x X) (cx_b X) dX5_configure_74 rfl (lv_at hl 1 rfl) ?_
            refine st_5_0 X hP hA hS (by decide) dX5_configure_75 (fun H locs hP hS => ?_)
            refine lv_aload_n (cx_x X) (cx_b X) dX5_configure_76 rfl (lv_at hl 0 rfl) ?_
            refine gf_X5_7 X hP dX5_configure_77 ?_
            refine lv_iconst (v := (1 : Int32)) (cx_x X) (cx_b X) dX5_configure_80 (by decide) ?_
            refine lv_iload_n (cx_x X) (cx_b X) dX5_configure_81 rfl (lv_at hl 2 rfl) ?_
            refine st_5_0 X hP hA hS (by decide) dX5_configure_82 (fun H locs hP hS => ?_)
            refine lv_aload_n (cx_x X) (cx_b X) dX5_configure_83 rfl (lv_at hl 0 rfl) ?_
            refine gf_X5_7 X hP dX5_configure_84 ?_
            refine lv_iconst (v := (2 : Int32)) (cx_x X) (cx_b X) dX5_configure_87 (by decide) ?_
            refine lv_iload_n (cx_x X) (cx_b X) dX5_configure_88 rfl (lv_at hl 3 rfl) ?_
            refine st_5_0 X hP hA hS (by decide) dX5_configure_89 (fun H locs hP hS => ?_)
            refine lv_aload_n (cx_x X) (cx_b X) dX5_configure_90 rfl (lv_at hl 0 rfl) ?_
            refine gf_X5_7 X hP dX5_configure_91 ?_
            refine lv_iconst (v := (3 : Int32)) (cx_x X) (cx_b X) dX5_configure_94 (by decide) ?_
            refine lv_iload (cx_x X) (cx_b X) dX5_configure_95 (lv_at hl 4 rfl) ?_
            refine st_5_0 X hP hA hS (by decide) dX5_configure_97 (fun H locs hP hS => ?_)
            refine lv_aload_n (cx_x X) (cx_b X) dX5_configure_98 rfl (lv_at hl 0 rfl) ?_
            obtain ⟨v21, h20, hm⟩ := bnd hm
            refine af_R (rn_V (As := []) (rest := []) X (c_X5_channels l D y A F14 (va_up (va_up (va_up (va_up R19 0 (upd (R19 0) (0 : Int32).toNatClampNeg a1)) 0 (upd ((va_up R19 0 (upd (R19 0) (0 : Int32).toNatClampNeg a1)) 0) (1 : Int32).toNatClampNeg a2)) 0 (upd ((va_up (va_up R19 0 (upd (R19 0) (0 : Int32).toNatClampNeg a1)) 0 (upd ((va_up R19 0 (upd (R19 0) (0 : Int32).toNatClampNeg a1)) 0) (1 : Int32).toNatClampNeg a2)) 0) (2 : Int32).toNatClampNeg a3)) 0 (upd ((va_up (va_up (va_up R19 0 (upd (R19 0) (0 : Int32).toNatClampNeg a1)) 0 (upd ((va_up R19 0 (upd (R19 0) (0 : Int32).toNatClampNeg a1)) 0) (1 : Int32).toNatClampNeg a2)) 0 (upd ((va_up (va_up R19 0 (upd (R19 0) (0 : Int32).toNatClampNeg a1)) 0 (upd ((va_up R19 0 (upd (R19 0) (0 : Int32).toNatClampNeg a1)) 0) (1 : Int32).toNatClampNeg a2)) 0) (2 : Int32).toNatClampNeg a3)) 0) (3 : Int32).toNatClampNeg a4))  _ h20) vq_X5_48 ⟨rfl, rfl⟩ ⟨Nat.le_of_ble_eq_true rfl, Nat.le_of_ble_eq_true rfl⟩ (rec_5 X hP) hP rfl hl.1 rfl (Nat.le_of_ble_eq_true rfl) dX5_configure_99 ⟨Nat.le_of_ble_eq_true rfl, Nat.le_of_ble_eq_true rfl⟩) ?_
            obtain ⟨rfl, rfl, rfl⟩ := oc_3 hm
            exact gw_i X hS hP dX5_configure_102
          have Lt16 : ∀ (n : Nat) (v17 : Int32) (R18 : (Nat → Nat → Int32)) , wh (m5_configure_L47) n (v17, R18) = some qt16 → ∀ (H : Heap) (locs : List Loc), va_P D vwCl (w5_s y A F14 R18) H → va_S (rg_s 7 A s.heap.size) s.heap H locs → ∀ ls, lv_has ls 6 [(0, .ref (A 0)), (1, .int a1), (2, .int a2), (3, .int a3), (4, .int a4), (5, .int v17)] → gw p l e rm_X5_configure s m args below meth c (some (.int rr9)) (fun H => va_P D vwCl (w5_s y A FF9 RR9) H) (rg_s 7 A s.heap.size) 0 0 H locs (F0 m 47 ls []) := by
            intro n
            induction n with
            | zero => intro v17 R18 hm; cases hm
            | succ n ih =>
              intro v17 R18 hm H locs hP hS ls hl
              replace hm : (m5_configure_L47) (wh (m5_configure_L47) n) (v17, R18) = some qt16 := hm
              dsimp only [m5_configure_L47] at hm
              refine lv_iload (cx_x X) (cx_b X) dX5_configure_47 (lv_at hl 5 rfl) ?_
              refine lv_sipush (v := (194 : Int32)) (cx_x X) (cx_b X) dX5_configure_49 (by decide) ?_
              refine lv_icmp_ge (tgt := 69) (cx_x X) (cx_b X) dX5_configure_52 (by decide) (fun c22 => ?_) (fun c22 => ?_)
              · replace hm := if_T c22 hm
                exact Xt16 _ (by cases hm; exact hmt16) _ _ hP hS _ (lv_sub hl [0, 1, 2, 3, 4] rfl)
              · replace hm := if_F c22 hm
                refine lv_aload_n (cx_x X) (cx_b X) dX5_configure_55 rfl (lv_at hl 0 rfl) ?_
                refine gf_X5_7 X hP dX5_configure_56 ?_
                refine lv_iload (cx_x X) (cx_b X) dX5_configure_59 (lv_at hl 5 rfl) ?_
                refine lv_iconst (v := (0 : Int32)) (cx_x X) (cx_b X) dX5_configure_61 (by decide) ?_
                obtain ⟨h23, hm⟩ := ck_E hm
                refine st_5_0 X hP hA hS h23 dX5_configure_62 (fun H locs hP hS => ?_)
                refine lv_iinc (v := (v17 + (1 : Int32))) (lv' := [(5, .int (v17 + (1 : Int32))), (0, .ref (A 0)), (1, .int a1), (2, .int a2), (3, .int a3), (4, .int a4)]) (cx_x X) (cx_b X) dX5_configure_63 hl (k := 5) rfl (by rfl) (by decide) rfl (fun ls hl => ?_)
                refine lv_goto (tgt := 47) (cx_x X) (cx_b X) dX5_configure_66 (by decide) ?_
                exact ih _ _ hm _ _ hP hS _ (lv_sub hl [1, 2, 3, 4, 5, 0] rfl)
          exact Lt16 _ _ _ hm _ _ hP hS _ (lv_sub hl [1, 2, 3, 4, 5, 0] rfl)
        · replace hm := if_T c12 hm
          refine lv_iconst (v := (-1 : Int32)) (cx_x X) (cx_b X) dX5_configure_37 (by decide) ?_
          obtain ⟨rfl, rfl, rfl⟩ := oc_3 hm
          exact gw_i X hS hP dX5_configure_38
/-! X5_change -/
def m5_change (F : (Nat → Int32)) (R : (Nat → Nat → Int32)) (a1 : Int32) (a2 : Int32) : Option (Int32 × (Nat → Int32) × (Nat → Nat → Int32)) :=
  (m5_note F R).bind fun ⟨F2, R3⟩ =>
  if inb a1 194 then
  if inb a1 194 then
  some ((R3 0 a1.toNatClampNeg), F2, (va_up R3 0 (upd (R3 0) a1.toNatClampNeg a2))) else none else none
abbrev rm_X5_change : Room := { frames := 1, cells := 0, slots := 0, locals := 21 }
set_option maxHeartbeats 4000000 in
set_option maxRecDepth 100000 in
theorem c_X5_change (l : Launch) (D : va_G) (y : Nat → ClassId) (A : Nat → Nat) (F : (Nat → Int32)) (R : (Nat → Nat → Int32)) (a1 : Int32) (a2 : Int32) (rr9 : Int32) (FF9 : (Nat → Int32)) (RR9 : (Nat → Nat → Int32)) (sz : Nat) (hI : aj_s 7 A) (hm : m5_change F R a1 a2 = some (rr9, FF9, RR9)) : Met l yX5_change (wy_s yX5_change cX5_change 4 (some .int)) rm_X5_change (pc_R D y [.ref (A 0), .int a1, .int a2] (fun H => H.size = sz ∧ va_P D vwCl (w5_s y A F R) H)) (qc_W (some (.int rr9)) (fun H => va_P D vwCl (w5_s y A FF9 RR9) H) (rg_s 7 A sz)) 0 0 (rg_s 7 A sz) := by
  refine met_W (by decide) (Nat.le_of_ble_eq_true rfl) ?_
  intro p e s m args below meth c X hnm h0 ls hl
  obtain ⟨hsz, hP⟩ := h0
  subst hsz
  have hA := ap_of (sz := s.heap.size) hI
  have hS : va_S (rg_s 7 A s.heap.size) s.heap s.heap [] := va_S.rf
  replace hl : lv_has ls 4 [(0, .ref (A 0)), (1, .int a1), (2, .int a2)] := hl
  replace X : cx p s m args meth c cX5_change 4 (some .int) RX5 D y := X
  unfold m5_change at hm
  refine lv_aload_n (cx_x X) (cx_b X) dX5_change_0 rfl (lv_at hl 0 rfl) ?_
  obtain ⟨⟨F2, R3⟩, h1, hm⟩ := bnd hm
  try dsimp only at hm
  refine af_W (mc := 0) (ms := 0) (rn_V (As := []) (rest := []) X (c_X5_note l D y A F R F2 R3 _ hI h1) vq_X5_107 ⟨rfl, rfl⟩ ⟨Nat.le_of_ble_eq_true rfl, Nat.le_of_ble_eq_true rfl⟩ (rec_5 X hP) ⟨rfl, hP⟩ rfl hl.1 rfl (Nat.le_of_ble_eq_true rfl) dX5_change_1 ⟨Nat.le_of_ble_eq_true rfl, Nat.le_of_ble_eq_true rfl⟩) hS (rg_up hS.1) (fun H locs hP _ _ hS => ?_)
  refine lv_aload_n (cx_x X) (cx_b X) dX5_change_4 rfl (lv_at hl 0 rfl) ?_
  refine gf_X5_7 X hP dX5_change_5 ?_
  refine lv_iload_n (cx_x X) (cx_b X) dX5_change_8 rfl (lv_at hl 1 rfl) ?_
  obtain ⟨h4, hm⟩ := ck_E hm
  refine ld_5_0 X hP h4 dX5_change_9 ?_
  refine lv_istore_n (lv' := [(3, .int (R3 0 a1.toNatClampNeg)), (0, .ref (A 0)), (1, .int a1), (2, .int a2)]) (cx_x X) (cx_b X) dX5_change_10 rfl hl (by decide) rfl (fun ls hl => ?_)
  refine lv_aload_n (cx_x X) (cx_b X) dX5_change_11 rfl (lv_at hl 1 rfl) ?_
  refine gf_X5_7 X hP dX5_change_12 ?_
  refine lv_iload_n (cx_x X) (cx_b X) dX5_change_15 rfl (lv_at hl 2 rfl) ?_
  refine lv_iload_n (cx_x X) (cx_b X) dX5_change_16 rfl (lv_at hl 3 rfl) ?_
  obtain ⟨h5, hm⟩ := ck_E hm
  refine st_5_0 X hP hA hS h5 dX5_change_17 (fun H locs hP hS => ?_)
  refine lv_iload_n (cx_x X) (cx_b X) dX5_change_18 rfl (lv_at hl 0 rfl) ?_
  obtain ⟨rfl, rfl, rfl⟩ := oc_3 hm
  exact gw_i X hS hP dX5_change_19
/-! X5_setStrategy -/
def m5_setStrategy_J19  (v3 : Int32) (F4 : (Nat → Int32)) (R5 : (Nat → Nat → Int32)) : Option (Int32 × (Nat → Int32) × (Nat → Nat → Int32)) :=
  some (v3, F4, R5)
def m5_setStrategy (F : (Nat → Int32)) (R : (Nat → Nat → Int32)) (a1 : Int32) : Option (Int32 × (Nat → Int32) × (Nat → Nat → Int32)) :=
  (m5_in a1 (0 : Int32) (2 : Int32)).bind fun v2 =>
  (if v2 = 0 then
  some ((-1 : Int32), F, R)
  else
  (m5_change F R (4 : Int32) a1).bind fun ⟨v11, F9, R10⟩ =>
  some (v11, F9, R10)).bind fun ⟨v3, F4, R5⟩ => m5_setStrategy_J19 v3 F4 R5
abbrev rm_X5_setStrategy : Room := { frames := 2, cells := 0, slots := 0, locals := 44 }
set_option maxHeartbeats 4000000 in
set_option maxRecDepth 100000 in
theorem c_X5_setStrategy (l : Launch) (D : va_G) (y : Nat → ClassId) (A : Nat → Nat) (F : (Nat → Int32)) (R : (Nat → Nat → Int32)) (a1 : Int32) (rr9 : Int32) (FF9 : (Nat → Int32)) (RR9 : (Nat → Nat → Int32)) (sz : Nat) (hI : aj_s 7 A) (hm : m5_setStrategy F R a1 = some (rr9, FF9, RR9)) : Met l yX5_setStrategy (wy_s yX5_setStrategy cX5_setStrategy 2 (some .int)) rm_X5_setStrategy (pc_R D y [.ref (A 0), .int a1] (fun H => H.size = sz ∧ va_P D vwCl (w5_s y A F R) H)) (qc_W (some (.int rr9)) (fun H => va_P D vwCl (w5_s y A FF9 RR9) H) (rg_s 7 A sz)) 0 0 (rg_s 7 A sz) := by
  refine met_W (by decide) (Nat.le_of_ble_eq_true rfl) ?_
  intro p e s m args below meth c X hnm h0 ls hl
  obtain ⟨hsz, hP⟩ := h0
  subst hsz
  have hA := ap_of (sz := s.heap.size) hI
  have hS : va_S (rg_s 7 A s.heap.size) s.heap s.heap [] := va_S.rf
  replace hl : lv_has ls 2 [(0, .ref (A 0)), (1, .int a1)] := hl
  replace X : cx p s m args meth c cX5_setStrategy 2 (some .int) RX5 D y := X
  unfold m5_setStrategy at hm
  refine lv_iload_n (cx_x X) (cx_b X) dX5_setStrategy_0 rfl (lv_at hl 1 rfl) ?_
  refine lv_iconst (v := (0 : Int32)) (cx_x X) (cx_b X) dX5_setStrategy_1 (by decide) ?_
  refine lv_iconst (v := (2 : Int32)) (cx_x X) (cx_b X) dX5_setStrategy_2 (by decide) ?_
  obtain ⟨v2, h1, hm⟩ := bnd hm
  refine af_R (rn_S (As := [.int a1, .int (0 : Int32), .int (2 : Int32)]) (rest := []) X (c_X5_in l D y a1 (0 : Int32) (2 : Int32)  _ h1) sq_X5_34 ⟨rfl, rfl⟩ ⟨Nat.le_of_ble_eq_true rfl, Nat.le_of_ble_eq_true rfl⟩ trivial rfl hl.1 rfl (Nat.le_of_ble_eq_true rfl) dX5_setStrategy_3 ⟨Nat.le_of_ble_eq_true rfl, Nat.le_of_ble_eq_true rfl⟩) ?_
  obtain ⟨qt6, hm, hmt6⟩ := bnd hm
  have Jt6 : ∀ (v3 : Int32) (F4 : (Nat → Int32)) (R5 : (Nat → Nat → Int32)) , m5_setStrategy_J19 v3 F4 R5 = some (rr9, FF9, RR9) → ∀ (H : Heap) (locs : List Loc), va_P D vwCl (w5_s y A F4 R5) H → va_S (rg_s 7 A s.heap.size) s.heap H locs → ∀ ls, lv_has ls 2 [] → gw p l e rm_X5_setStrategy s m args below meth c (some (.int rr9)) (fun H => va_P D vwCl (w5_s y A FF9 RR9) H) (rg_s 7 A s.heap.size) 0 0 H locs (F0 m 19 ls [.int v3]) := by
    intro v3 F4 R5 hm H locs hP hS ls hl
    unfold m5_setStrategy_J19 at hm
    obtain ⟨rfl, rfl, rfl⟩ := oc_3 hm
    exact gw_i X hS hP dX5_setStrategy_19
  refine lv_if_eq (tgt := 18) (cx_x X) (cx_b X) dX5_setStrategy_6 (by decide) (fun c7 => ?_) (fun c7 => ?_)
  · replace hm := if_T c7 hm
    refine lv_iconst (v := (-1 : Int32)) (cx_x X) (cx_b X) dX5_setStrategy_18 (by decide) ?_
    exact Jt6 _ _ _ (by cases hm; exact hmt6) _ _ hP hS _ (lv_sub hl [] rfl)
  · replace hm := if_F c7 hm
    refine lv_aload_n (cx_x X) (cx_b X) dX5_setStrategy_9 rfl (lv_at hl 0 rfl) ?_
    refine lv_iconst (v := (4 : Int32)) (cx_x X) (cx_b X) dX5_setStrategy_10 (by decide) ?_
    refine lv_iload_n (cx_x X) (cx_b X) dX5_setStrategy_11 rfl (lv_at hl 1 rfl) ?_
    obtain ⟨⟨v11, F9, R10⟩, h8, hm⟩ := bnd hm
    try dsimp only at hm
    refine af_W (mc := 0) (ms := 0) (rn_V (As := [.int (4 : Int32), .int a1]) (rest := []) X (c_X5_change l D y A F R (4 : Int32) a1 v11 F9 R10 _ hI h8) vq_X5_135 ⟨rfl, rfl⟩ ⟨Nat.le_of_ble_eq_true rfl, Nat.le_of_ble_eq_true rfl⟩ (rec_5 X hP) ⟨rfl, hP⟩ rfl hl.1 rfl (Nat.le_of_ble_eq_true rfl) dX5_setStrategy_12 ⟨Nat.le_of_ble_eq_true rfl, Nat.le_of_ble_eq_true rfl⟩) hS (rg_up hS.1) (fun H locs hP _ _ hS => ?_)
    refine lv_goto (tgt := 19) (cx_x X) (cx_b X) dX5_setStrategy_15 (by decide) ?_
    exact Jt6 _ _ _ (by cases hm; exact hmt6) _ _ hP hS _ (lv_sub hl [] rfl)
/-! X5_setReserve -/
def m5_setReserve_J19  (v3 : Int32) (F4 : (Nat → Int32)) (R5 : (Nat → Nat → Int32)) : Option (Int32 × (Nat → Int32) × (Nat → Nat → Int32)) :=
  some (v3, F4, R5)
def m5_setReserve (F : (Nat → Int32)) (R : (Nat → Nat → Int32)) (a1 : Int32) : Option (Int32 × (Nat → Int32) × (Nat → Nat → Int32)) :=
  (m5_in a1 (0 : Int32) (3 : Int32)).bind fun v2 =>
  (if v2 = 0 then
  some ((-1 : Int32), F, R)
  else
  (m5_change F R (5 : Int32) a1).bind fun ⟨v11, F9, R10⟩ =>
  some (v11, F9, R10)).bind fun ⟨v3, F4, R5⟩ => m5_setReserve_J19 v3 F4 R5
abbrev rm_X5_setReserve : Room := { frames := 2, cells := 0, slots := 0, locals := 44 }
set_option maxHeartbeats 4000000 in
set_option maxRecDepth 100000 in
theorem c_X5_setReserve (l : Launch) (D : va_G) (y : Nat → ClassId) (A : Nat → Nat) (F : (Nat → Int32)) (R : (Nat → Nat → Int32)) (a1 : Int32) (rr9 : Int32) (FF9 : (Nat → Int32)) (RR9 : (Nat → Nat → Int32)) (sz : Nat) (hI : aj_s 7 A) (hm : m5_setReserve F R a1 = some (rr9, FF9, RR9)) : Met l yX5_setReserve (wy_s yX5_setReserve cX5_setReserve 2 (some .int)) rm_X5_setReserve (pc_R D y [.ref (A 0), .int a1] (fun H => H.size = sz ∧ va_P D vwCl (w5_s y A F R) H)) (qc_W (some (.int rr9)) (fun H => va_P D vwCl (w5_s y A FF9 RR9) H) (rg_s 7 A sz)) 0 0 (rg_s 7 A sz) := by
  refine met_W (by decide) (Nat.le_of_ble_eq_true rfl) ?_
  intro p e s m args below meth c X hnm h0 ls hl
  obtain ⟨hsz, hP⟩ := h0
  subst hsz
  have hA := ap_of (sz := s.heap.size) hI
  have hS : va_S (rg_s 7 A s.heap.size) s.heap s.heap [] := va_S.rf
  replace hl : lv_has ls 2 [(0, .ref (A 0)), (1, .int a1)] := hl
  replace X : cx p s m args meth c cX5_setReserve 2 (some .int) RX5 D y := X
  unfold m5_setReserve at hm
  refine lv_iload_n (cx_x X) (cx_b X) dX5_setReserve_0 rfl (lv_at hl 1 rfl) ?_
  refine lv_iconst (v := (0 : Int32)) (cx_x X) (cx_b X) dX5_setReserve_1 (by decide) ?_
  refine lv_iconst (v := (3 : Int32)) (cx_x X) (cx_b X) dX5_setReserve_2 (by decide) ?_
  obtain ⟨v2, h1, hm⟩ := bnd hm
  refine af_R (rn_S (As := [.int a1, .int (0 : Int32), .int (3 : Int32)]) (rest := []) X (c_X5_in l D y a1 (0 : Int32) (3 : Int32)  _ h1) sq_X5_34 ⟨rfl, rfl⟩ ⟨Nat.le_of_ble_eq_true rfl, Nat.le_of_ble_eq_true rfl⟩ trivial rfl hl.1 rfl (Nat.le_of_ble_eq_true rfl) dX5_setReserve_3 ⟨Nat.le_of_ble_eq_true rfl, Nat.le_of_ble_eq_true rfl⟩) ?_
  obtain ⟨qt6, hm, hmt6⟩ := bnd hm
  have Jt6 : ∀ (v3 : Int32) (F4 : (Nat → Int32)) (R5 : (Nat → Nat → Int32)) , m5_setReserve_J19 v3 F4 R5 = some (rr9, FF9, RR9) → ∀ (H : Heap) (locs : List Loc), va_P D vwCl (w5_s y A F4 R5) H → va_S (rg_s 7 A s.heap.size) s.heap H locs → ∀ ls, lv_has ls 2 [] → gw p l e rm_X5_setReserve s m args below meth c (some (.int rr9)) (fun H => va_P D vwCl (w5_s y A FF9 RR9) H) (rg_s 7 A s.heap.size) 0 0 H locs (F0 m 19 ls [.int v3]) := by
    intro v3 F4 R5 hm H locs hP hS ls hl
    unfold m5_setReserve_J19 at hm
    obtain ⟨rfl, rfl, rfl⟩ := oc_3 hm
    exact gw_i X hS hP dX5_setReserve_19
  refine lv_if_eq (tgt := 18) (cx_x X) (cx_b X) dX5_setReserve_6 (by decide) (fun c7 => ?_) (fun c7 => ?_)
  · replace hm := if_T c7 hm
    refine lv_iconst (v := (-1 : Int32)) (cx_x X) (cx_b X) dX5_setReserve_18 (by decide) ?_
    exact Jt6 _ _ _ (by cases hm; exact hmt6) _ _ hP hS _ (lv_sub hl [] rfl)
  · replace hm := if_F c7 hm
    refine lv_aload_n (cx_x X) (cx_b X) dX5_setReserve_9 rfl (lv_at hl 0 rfl) ?_
    refine lv_iconst (v := (5 : Int32)) (cx_x X) (cx_b X) dX5_setReserve_10 (by decide) ?_
    refine lv_iload_n (cx_x X) (cx_b X) dX5_setReserve_11 rfl (lv_at hl 1 rfl) ?_
    obtain ⟨⟨v11, F9, R10⟩, h8, hm⟩ := bnd hm
    try dsimp only at hm
    refine af_W (mc := 0) (ms := 0) (rn_V (As := [.int (5 : Int32), .int a1]) (rest := []) X (c_X5_change l D y A F R (5 : Int32) a1 v11 F9 R10 _ hI h8) vq_X5_135 ⟨rfl, rfl⟩ ⟨Nat.le_of_ble_eq_true rfl, Nat.le_of_ble_eq_true rfl⟩ (rec_5 X hP) ⟨rfl, hP⟩ rfl hl.1 rfl (Nat.le_of_ble_eq_true rfl) dX5_setReserve_12 ⟨Nat.le_of_ble_eq_true rfl, Nat.le_of_ble_eq_true rfl⟩) hS (rg_up hS.1) (fun H locs hP _ _ hS => ?_)
    refine lv_goto (tgt := 19) (cx_x X) (cx_b X) dX5_setReserve_15 (by decide) ?_
    exact Jt6 _ _ _ (by cases hm; exact hmt6) _ _ hP hS _ (lv_sub hl [] rfl)
/-! X5_setReturning -/
def m5_setReturning (F : (Nat → Int32)) (R : (Nat → Nat → Int32)) (a1 : Int32) : Option (Int32 × (Nat → Int32) × (Nat → Nat → Int32)) :=
  (m5_in a1 (0 : Int32) (1 : Int32)).bind fun v2 =>
  if v2 = 0 then
  some ((-1 : Int32), F, R)
  else
  (m5_note F R).bind fun ⟨F5, R6⟩ =>
  (m5_pass F5 (va_up R6 0 (upd (R6 0) (6 : Int32).toNatClampNeg a1))).bind fun ⟨v10, F8, R9⟩ =>
  some (v10, F8, R9)
abbrev rm_X5_setReturning : Room := { frames := 6, cells := 0, slots := 0, locals := 139 }
set_option maxHeartbeats 4000000 in
set_option maxRecDepth 100000 in
theorem c_X5_setReturning (l : Launch) (D : va_G) (y : Nat → ClassId) (A : Nat → Nat) (F : (Nat → Int32)) (R : (Nat → Nat → Int32)) (a1 : Int32) (rr9 : Int32) (FF9 : (Nat → Int32)) (RR9 : (Nat → Nat → Int32)) (sz : Nat) (hI : aj_s 7 A) (hm : m5_setReturning F R a1 = some (rr9, FF9, RR9)) : Met l yX5_setReturning (wy_s yX5_setReturning cX5_setReturning 2 (some .int)) rm_X5_setReturning (pc_R D y [.ref (A 0), .int a1] (fun H => H.size = sz ∧ va_P D vwCl (w5_s y A F R) H)) (qc_W (some (.int rr9)) (fun H => va_P D vwCl (w5_s y A FF9 RR9) H) (rg_s 7 A sz)) 0 0 (rg_s 7 A sz) := by
  refine met_W (by decide) (Nat.le_of_ble_eq_true rfl) ?_
  intro p e s m args below meth c X hnm h0 ls hl
  obtain ⟨hsz, hP⟩ := h0
  subst hsz
  have hA := ap_of (sz := s.heap.size) hI
  have hS : va_S (rg_s 7 A s.heap.size) s.heap s.heap [] := va_S.rf
  replace hl : lv_has ls 2 [(0, .ref (A 0)), (1, .int a1)] := hl
  replace X : cx p s m args meth c cX5_setReturning 2 (some .int) RX5 D y := X
  unfold m5_setReturning at hm
  refine lv_iload_n (cx_x X) (cx_b X) dX5_setReturning_0 rfl (lv_at hl 1 rfl) ?_
  refine lv_iconst (v := (0 : Int32)) (cx_x X) (cx_b X) dX5_setReturning_1 (by decide) ?_
  refine lv_iconst (v := (1 : Int32)) (cx_x X) (cx_b X) dX5_setReturning_2 (by decide) ?_
  obtain ⟨v2, h1, hm⟩ := bnd hm
  refine af_R (rn_S (As := [.int a1, .int (0 : Int32), .int (1 : Int32)]) (rest := []) X (c_X5_in l D y a1 (0 : Int32) (1 : Int32)  _ h1) sq_X5_34 ⟨rfl, rfl⟩ ⟨Nat.le_of_ble_eq_true rfl, Nat.le_of_ble_eq_true rfl⟩ trivial rfl hl.1 rfl (Nat.le_of_ble_eq_true rfl) dX5_setReturning_3 ⟨Nat.le_of_ble_eq_true rfl, Nat.le_of_ble_eq_true rfl⟩) ?_
  refine lv_if_ne (tgt := 11) (cx_x X) (cx_b X) dX5_setReturning_6 (by decide) (fun c3 => ?_) (fun c3 => ?_)
  · replace hm := if_F c3 hm
    refine lv_aload_n (cx_x X) (cx_b X) dX5_setReturning_11 rfl (lv_at hl 0 rfl) ?_
    obtain ⟨⟨F5, R6⟩, h4, hm⟩ := bnd hm
    try dsimp only at hm
    refine af_W (mc := 0) (ms := 0) (rn_V (As := []) (rest := []) X (c_X5_note l D y A F R F5 R6 _ hI h4) vq_X5_107 ⟨rfl, rfl⟩ ⟨Nat.le_of_ble_eq_true rfl, Nat.le_of_ble_eq_true rfl⟩ (rec_5 X hP) ⟨rfl, hP⟩ rfl hl.1 rfl (Nat.le_of_ble_eq_true rfl) dX5_setReturning_12 ⟨Nat.le_of_ble_eq_true rfl, Nat.le_of_ble_eq_true rfl⟩) hS (rg_up hS.1) (fun H locs hP _ _ hS => ?_)
    refine lv_aload_n (cx_x X) (cx_b X) dX5_setReturning_15 rfl (lv_at hl 0 rfl) ?_
    refine gf_X5_7 X hP dX5_setReturning_16 ?_
    refine lv_bipush (v := (6 : Int32)) (cx_x X) (cx_b X) dX5_setReturning_19 (by decide) ?_
    refine lv_iload_n (cx_x X) (cx_b X) dX5_setReturning_21 rfl (lv_at hl 1 rfl) ?_
    refine st_5_0 X hP hA hS (by decide) dX5_setReturning_22 (fun H locs hP hS => ?_)
    refine lv_aload_n (cx_x X) (cx_b X) dX5_setReturning_23 rfl (lv_at hl 0 rfl) ?_
    obtain ⟨⟨v10, F8, R9⟩, h7, hm⟩ := bnd hm
    try dsimp only at hm
    refine af_W (mc := 0) (ms := 0) (rn_V (As := []) (rest := []) X (c_X5_pass l D y A F5 (va_up R6 0 (upd (R6 0) (6 : Int32).toNatClampNeg a1)) v10 F8 R9 _ hI h7) vq_X5_104 ⟨rfl, rfl⟩ ⟨Nat.le_of_ble_eq_true rfl, Nat.le_of_ble_eq_true rfl⟩ (rec_5 X hP) ⟨rfl, hP⟩ rfl hl.1 rfl (Nat.le_of_ble_eq_true rfl) dX5_setReturning_24 ⟨Nat.le_of_ble_eq_true rfl, Nat.le_of_ble_eq_true rfl⟩) hS (rg_up hS.1) (fun H locs hP _ _ hS => ?_)
    obtain ⟨rfl, rfl, rfl⟩ := oc_3 hm
    exact gw_i X hS hP dX5_setReturning_27
  · replace hm := if_T c3 hm
    refine lv_iconst (v := (-1 : Int32)) (cx_x X) (cx_b X) dX5_setReturning_9 (by decide) ?_
    obtain ⟨rfl, rfl, rfl⟩ := oc_3 hm
    exact gw_i X hS hP dX5_setReturning_10
/-! X5_nextChannel -/
def m5_nextChannel_J17  (v3 : Int32) (F4 : (Nat → Int32)) (R5 : (Nat → Nat → Int32)) : Option (Int32 × (Nat → Int32) × (Nat → Nat → Int32)) :=
  some (v3, F4, R5)
def m5_nextChannel (F : (Nat → Int32)) (R : (Nat → Nat → Int32)) (a1 : Int32) : Option (Int32 × (Nat → Int32) × (Nat → Nat → Int32)) :=
  (m5_isCell F R a1).bind fun v2 =>
  (if v2 = 0 then
  some ((-1 : Int32), F, R)
  else
  (m5_choose F R a1).bind fun ⟨v11, F9, R10⟩ =>
  some (v11, F9, R10)).bind fun ⟨v3, F4, R5⟩ => m5_nextChannel_J17 v3 F4 R5
abbrev rm_X5_nextChannel : Room := { frames := 6, cells := 0, slots := 0, locals := 142 }
set_option maxHeartbeats 4000000 in
set_option maxRecDepth 100000 in
theorem c_X5_nextChannel (l : Launch) (D : va_G) (y : Nat → ClassId) (A : Nat → Nat) (F : (Nat → Int32)) (R : (Nat → Nat → Int32)) (a1 : Int32) (rr9 : Int32) (FF9 : (Nat → Int32)) (RR9 : (Nat → Nat → Int32)) (sz : Nat) (hI : aj_s 7 A) (hm : m5_nextChannel F R a1 = some (rr9, FF9, RR9)) : Met l yX5_nextChannel (wy_s yX5_nextChannel cX5_nextChannel 2 (some .int)) rm_X5_nextChannel (pc_R D y [.ref (A 0), .int a1] (fun H => H.size = sz ∧ va_P D vwCl (w5_s y A F R) H)) (qc_W (some (.int rr9)) (fun H => va_P D vwCl (w5_s y A FF9 RR9) H) (rg_s 7 A sz)) 0 0 (rg_s 7 A sz) := by
  refine met_W (by decide) (Nat.le_of_ble_eq_true rfl) ?_
  intro p e s m args below meth c X hnm h0 ls hl
  obtain ⟨hsz, hP⟩ := h0
  subst hsz
  have hA := ap_of (sz := s.heap.size) hI
  have hS : va_S (rg_s 7 A s.heap.size) s.heap s.heap [] := va_S.rf
  replace hl : lv_has ls 2 [(0, .ref (A 0)), (1, .int a1)] := hl
  replace X : cx p s m args meth c cX5_nextChannel 2 (some .int) RX5 D y := X
  unfold m5_nextChannel at hm
  refine lv_aload_n (cx_x X) (cx_b X) dX5_nextChannel_0 rfl (lv_at hl 0 rfl) ?_
  refine lv_iload_n (cx_x X) (cx_b X) dX5_nextChannel_1 rfl (lv_at hl 1 rfl) ?_
  obtain ⟨v2, h1, hm⟩ := bnd hm
  refine af_R (rn_V (As := [.int a1]) (rest := []) X (c_X5_isCell l D y A F R a1  _ h1) vq_X5_119 ⟨rfl, rfl⟩ ⟨Nat.le_of_ble_eq_true rfl, Nat.le_of_ble_eq_true rfl⟩ (rec_5 X hP) hP rfl hl.1 rfl (Nat.le_of_ble_eq_true rfl) dX5_nextChannel_2 ⟨Nat.le_of_ble_eq_true rfl, Nat.le_of_ble_eq_true rfl⟩) ?_
  obtain ⟨qt6, hm, hmt6⟩ := bnd hm
  have Jt6 : ∀ (v3 : Int32) (F4 : (Nat → Int32)) (R5 : (Nat → Nat → Int32)) , m5_nextChannel_J17 v3 F4 R5 = some (rr9, FF9, RR9) → ∀ (H : Heap) (locs : List Loc), va_P D vwCl (w5_s y A F4 R5) H → va_S (rg_s 7 A s.heap.size) s.heap H locs → ∀ ls, lv_has ls 2 [] → gw p l e rm_X5_nextChannel s m args below meth c (some (.int rr9)) (fun H => va_P D vwCl (w5_s y A FF9 RR9) H) (rg_s 7 A s.heap.size) 0 0 H locs (F0 m 17 ls [.int v3]) := by
    intro v3 F4 R5 hm H locs hP hS ls hl
    unfold m5_nextChannel_J17 at hm
    obtain ⟨rfl, rfl, rfl⟩ := oc_3 hm
    exact gw_i X hS hP dX5_nextChannel_17
  refine lv_if_eq (tgt := 16) (cx_x X) (cx_b X) dX5_nextChannel_5 (by decide) (fun c7 => ?_) (fun c7 => ?_)
  · replace hm := if_T c7 hm
    refine lv_iconst (v := (-1 : Int32)) (cx_x X) (cx_b X) dX5_nextChannel_16 (by decide) ?_
    exact Jt6 _ _ _ (by cases hm; exact hmt6) _ _ hP hS _ (lv_sub hl [] rfl)
  · replace hm := if_F c7 hm
    refine lv_aload_n (cx_x X) (cx_b X) dX5_nextChannel_8 rfl (lv_at hl 0 rfl) ?_
    refine lv_iload_n (cx_x X) (cx_b X) dX5_nextChannel_9 rfl (lv_at hl 1 rfl) ?_
    obtain ⟨⟨v11, F9, R10⟩, h8, hm⟩ := bnd hm
    try dsimp only at hm
    refine af_W (mc := 0) (ms := 0) (rn_V (As := [.int a1]) (rest := []) X (c_X5_choose l D y A F R a1 v11 F9 R10 _ hI h8) vq_X5_91 ⟨rfl, rfl⟩ ⟨Nat.le_of_ble_eq_true rfl, Nat.le_of_ble_eq_true rfl⟩ (rec_5 X hP) ⟨rfl, hP⟩ rfl hl.1 rfl (Nat.le_of_ble_eq_true rfl) dX5_nextChannel_10 ⟨Nat.le_of_ble_eq_true rfl, Nat.le_of_ble_eq_true rfl⟩) hS (rg_up hS.1) (fun H locs hP _ _ hS => ?_)
    refine lv_goto (tgt := 17) (cx_x X) (cx_b X) dX5_nextChannel_13 (by decide) ?_
    exact Jt6 _ _ _ (by cases hm; exact hmt6) _ _ hP hS _ (lv_sub hl [] rfl)
/-! X5_nextDonor -/
def m5_nextDonor_J31 (F5 : (Nat → Int32)) (R6 : (Nat → Nat → Int32)) (v8 : Int32) : Option (Int32 × (Nat → Int32) × (Nat → Nat → Int32)) :=
  some (v8, F5, R6)
def m5_nextDonor (F : (Nat → Int32)) (R : (Nat → Nat → Int32)) (a1 : Int32) : Option (Int32 × (Nat → Int32) × (Nat → Nat → Int32)) :=
  (m5_isCell F R a1).bind fun v2 =>
  if v2 = 0 then
  some ((-1 : Int32), F, R)
  else
  (m5_choose F R a1).bind fun ⟨v7, F5, R6⟩ =>
  (if v7 = (-9 : Int32) then
  some (-9 : Int32)
  else
  some (F5 7)).bind fun v8 => m5_nextDonor_J31 F5 R6 v8
abbrev rm_X5_nextDonor : Room := { frames := 6, cells := 0, slots := 0, locals := 142 }
set_option maxHeartbeats 4000000 in
set_option maxRecDepth 100000 in
theorem c_X5_nextDonor (l : Launch) (D : va_G) (y : Nat → ClassId) (A : Nat → Nat) (F : (Nat → Int32)) (R : (Nat → Nat → Int32)) (a1 : Int32) (rr9 : Int32) (FF9 : (Nat → Int32)) (RR9 : (Nat → Nat → Int32)) (sz : Nat) (hI : aj_s 7 A) (hm : m5_nextDonor F R a1 = some (rr9, FF9, RR9)) : Met l yX5_nextDonor (wy_s yX5_nextDonor cX5_nextDonor 3 (some .int)) rm_X5_nextDonor (pc_R D y [.ref (A 0), .int a1] (fun H => H.size = sz ∧ va_P D vwCl (w5_s y A F R) H)) (qc_W (some (.int rr9)) (fun H => va_P D vwCl (w5_s y A FF9 RR9) H) (rg_s 7 A sz)) 0 0 (rg_s 7 A sz) := by
  refine met_W (by decide) (Nat.le_of_ble_eq_true rfl) ?_
  intro p e s m args below meth c X hnm h0 ls hl
  obtain ⟨hsz, hP⟩ := h0
  subst hsz
  have hA := ap_of (sz := s.heap.size) hI
  have hS : va_S (rg_s 7 A s.heap.size) s.heap s.heap [] := va_S.rf
  replace hl : lv_has ls 3 [(0, .ref (A 0)), (1, .int a1)] := hl
  replace X : cx p s m args meth c cX5_nextDonor 3 (some .int) RX5 D y := X
  unfold m5_nextDonor at hm
  refine lv_aload_n (cx_x X) (cx_b X) dX5_nextDonor_0 rfl (lv_at hl 0 rfl) ?_
  refine lv_iload_n (cx_x X) (cx_b X) dX5_nextDonor_1 rfl (lv_at hl 1 rfl) ?_
  obtain ⟨v2, h1, hm⟩ := bnd hm
  refine af_R (rn_V (As := [.int a1]) (rest := []) X (c_X5_isCell l D y A F R a1  _ h1) vq_X5_119 ⟨rfl, rfl⟩ ⟨Nat.le_of_ble_eq_true rfl, Nat.le_of_ble_eq_true rfl⟩ (rec_5 X hP) hP rfl hl.1 rfl (Nat.le_of_ble_eq_true rfl) dX5_nextDonor_2 ⟨Nat.le_of_ble_eq_true rfl, Nat.le_of_ble_eq_true rfl⟩) ?_
  refine lv_if_ne (tgt := 10) (cx_x X) (cx_b X) dX5_nextDonor_5 (by decide) (fun c3 => ?_) (fun c3 => ?_)
  · replace hm := if_F c3 hm
    refine lv_aload_n (cx_x X) (cx_b X) dX5_nextDonor_10 rfl (lv_at hl 0 rfl) ?_
    refine lv_iload_n (cx_x X) (cx_b X) dX5_nextDonor_11 rfl (lv_at hl 1 rfl) ?_
    obtain ⟨⟨v7, F5, R6⟩, h4, hm⟩ := bnd hm
    try dsimp only at hm
    refine af_W (mc := 0) (ms := 0) (rn_V (As := [.int a1]) (rest := []) X (c_X5_choose l D y A F R a1 v7 F5 R6 _ hI h4) vq_X5_91 ⟨rfl, rfl⟩ ⟨Nat.le_of_ble_eq_true rfl, Nat.le_of_ble_eq_true rfl⟩ (rec_5 X hP) ⟨rfl, hP⟩ rfl hl.1 rfl (Nat.le_of_ble_eq_true rfl) dX5_nextDonor_12 ⟨Nat.le_of_ble_eq_true rfl, Nat.le_of_ble_eq_true rfl⟩) hS (rg_up hS.1) (fun H locs hP _ _ hS => ?_)
    refine lv_istore_n (lv' := [(2, .int v7), (0, .ref (A 0)), (1, .int a1)]) (cx_x X) (cx_b X) dX5_nextDonor_15 rfl hl (by decide) rfl (fun ls hl => ?_)
    refine lv_iload_n (cx_x X) (cx_b X) dX5_nextDonor_16 rfl (lv_at hl 0 rfl) ?_
    refine lv_bipush (v := (-9 : Int32)) (cx_x X) (cx_b X) dX5_nextDonor_17 (by decide) ?_
    obtain ⟨qt9, hm, hmt9⟩ := bnd hm
    have Jt9 : ∀ (v8 : Int32) , m5_nextDonor_J31 F5 R6 v8 = some (rr9, FF9, RR9) → ∀ (H : Heap) (locs : List Loc), va_P D vwCl (w5_s y A F5 R6) H → va_S (rg_s 7 A s.heap.size) s.heap H locs → ∀ ls, lv_has ls 3 [] → gw p l e rm_X5_nextDonor s m args below meth c (some (.int rr9)) (fun H => va_P D vwCl (w5_s y A FF9 RR9) H) (rg_s 7 A s.heap.size) 0 0 H locs (F0 m 31 ls [.int v8]) := by
      intro v8 hm H locs hP hS ls hl
      unfold m5_nextDonor_J31 at hm
      obtain ⟨rfl, rfl, rfl⟩ := oc_3 hm
      exact gw_i X hS hP dX5_nextDonor_31
    refine lv_icmp_ne (tgt := 27) (cx_x X) (cx_b X) dX5_nextDonor_19 (by decide) (fun c10 => ?_) (fun c10 => ?_)
    · replace hm := if_F c10 hm
      refine lv_aload_n (cx_x X) (cx_b X) dX5_nextDonor_27 rfl (lv_at hl 1 rfl) ?_
      refine gf_X5_75 X hP dX5_nextDonor_28 ?_
      exact Jt9 _ (by cases hm; exact hmt9) _ _ hP hS _ (lv_sub hl [] rfl)
    · replace hm := if_T c10 hm
      refine lv_bipush (v := (-9 : Int32)) (cx_x X) (cx_b X) dX5_nextDonor_22 (by decide) ?_
      refine lv_goto (tgt := 31) (cx_x X) (cx_b X) dX5_nextDonor_24 (by decide) ?_
      exact Jt9 _ (by cases hm; exact hmt9) _ _ hP hS _ (lv_sub hl [] rfl)
  · replace hm := if_T c3 hm
    refine lv_iconst (v := (-1 : Int32)) (cx_x X) (cx_b X) dX5_nextDonor_8 (by decide) ?_
    obtain ⟨rfl, rfl, rfl⟩ := oc_3 hm
    exact gw_i X hS hP dX5_nextDonor_9
/-! X5_blockingCells -/
def m5_blockingCells_X36  (v6 : Int32) (F7 : (Nat → Int32)) (R8 : (Nat → Nat → Int32)) : Option (Int32 × (Nat → Int32) × (Nat → Nat → Int32)) :=
  some (v6, F7, R8)
def m5_blockingCells_J28 (kkt1 : (Int32 × Int32 × (Nat → Int32) × (Nat → Nat → Int32)) → Option (Int32 × (Nat → Int32) × (Nat → Nat → Int32))) (v2 : Int32) (v3 : Int32) (F13 : (Nat → Int32)) (R14 : (Nat → Nat → Int32)) (v16 : Int32) : Option (Int32 × (Nat → Int32) × (Nat → Nat → Int32)) :=
  kkt1 ((v2 + v16), (v3 + (1 : Int32)), F13, R14)
def m5_blockingCells_L4  (kkt1 : (Int32 × Int32 × (Nat → Int32) × (Nat → Nat → Int32)) → Option (Int32 × (Nat → Int32) × (Nat → Nat → Int32))) (t0 : (Int32 × Int32 × (Nat → Int32) × (Nat → Nat → Int32))) : Option (Int32 × (Nat → Int32) × (Nat → Nat → Int32)) :=
  (m5_cells t0.2.2.1 t0.2.2.2).bind fun v10 =>
  if v10 ≤ t0.2.1 then
  some (t0.1, t0.2.2.1, t0.2.2.2)
  else
  (m5_choose t0.2.2.1 t0.2.2.2 t0.2.1).bind fun ⟨v15, F13, R14⟩ =>
  (if v15 = (-9 : Int32) then
  some (1 : Int32)
  else
  some (0 : Int32)).bind fun v16 => m5_blockingCells_J28 kkt1 t0.1 t0.2.1 F13 R14 v16
def m5_blockingCells (F : (Nat → Int32)) (R : (Nat → Nat → Int32)) : Option (Int32 × (Nat → Int32) × (Nat → Nat → Int32)) :=
  (wh (m5_blockingCells_L4) 2000 ((0 : Int32), (0 : Int32), F, R)).bind fun ⟨v6, F7, R8⟩ => m5_blockingCells_X36 v6 F7 R8
abbrev rm_X5_blockingCells : Room := { frames := 6, cells := 0, slots := 0, locals := 142 }
set_option maxHeartbeats 4000000 in
set_option maxRecDepth 100000 in
theorem c_X5_blockingCells (l : Launch) (D : va_G) (y : Nat → ClassId) (A : Nat → Nat) (F : (Nat → Int32)) (R : (Nat → Nat → Int32)) (rr9 : Int32) (FF9 : (Nat → Int32)) (RR9 : (Nat → Nat → Int32)) (sz : Nat) (hI : aj_s 7 A) (hm : m5_blockingCells F R = some (rr9, FF9, RR9)) : Met l yX5_blockingCells (wy_s yX5_blockingCells cX5_blockingCells 3 (some .int)) rm_X5_blockingCells (pc_R D y [.ref (A 0)] (fun H => H.size = sz ∧ va_P D vwCl (w5_s y A F R) H)) (qc_W (some (.int rr9)) (fun H => va_P D vwCl (w5_s y A FF9 RR9) H) (rg_s 7 A sz)) 0 0 (rg_s 7 A sz) := by
  refine met_W (by decide) (Nat.le_of_ble_eq_true rfl) ?_
  intro p e s m args below meth c X hnm h0 ls hl
  obtain ⟨hsz, hP⟩ := h0
  subst hsz
  have hA := ap_of (sz := s.heap.size) hI
  have hS : va_S (rg_s 7 A s.heap.size) s.heap s.heap [] := va_S.rf
  replace hl : lv_has ls 3 [(0, .ref (A 0))] := hl
  replace X : cx p s m args meth c cX5_blockingCells 3 (some .int) RX5 D y := X
  unfold m5_blockingCells at hm
  refine lv_iconst (v := (0 : Int32)) (cx_x X) (cx_b X) dX5_blockingCells_0 (by decide) ?_
  refine lv_istore_n (lv' := [(1, .int (0 : Int32)), (0, .ref (A 0))]) (cx_x X) (cx_b X) dX5_blockingCells_1 rfl hl (by decide) rfl (fun ls hl => ?_)
  refine lv_iconst (v := (0 : Int32)) (cx_x X) (cx_b X) dX5_blockingCells_2 (by decide) ?_
  refine lv_istore_n (lv' := [(2, .int (0 : Int32)), (1, .int (0 : Int32)), (0, .ref (A 0))]) (cx_x X) (cx_b X) dX5_blockingCells_3 rfl hl (by decide) rfl (fun ls hl => ?_)
  obtain ⟨qt1, hm, hmt1⟩ := bnd hm
  have Xt1 : ∀ (v6 : Int32) (F7 : (Nat → Int32)) (R8 : (Nat → Nat → Int32)) , m5_blockingCells_X36 v6 F7 R8 = some (rr9, FF9, RR9) → ∀ (H : Heap) (locs : List Loc), va_P D vwCl (w5_s y A F7 R8) H → va_S (rg_s 7 A s.heap.size) s.heap H locs → ∀ ls, lv_has ls 3 [(1, .int v6)] → gw p l e rm_X5_blockingCells s m args below meth c (some (.int rr9)) (fun H => va_P D vwCl (w5_s y A FF9 RR9) H) (rg_s 7 A s.heap.size) 0 0 H locs (F0 m 36 ls []) := by
    intro v6 F7 R8 hm H locs hP hS ls hl
    unfold m5_blockingCells_X36 at hm
    refine lv_iload_n (cx_x X) (cx_b X) dX5_blockingCells_36 rfl (lv_at hl 0 rfl) ?_
    obtain ⟨rfl, rfl, rfl⟩ := oc_3 hm
    exact gw_i X hS hP dX5_blockingCells_37
  have Lt1 : ∀ (n : Nat) (v2 : Int32) (v3 : Int32) (F4 : (Nat → Int32)) (R5 : (Nat → Nat → Int32)) , wh (m5_blockingCells_L4) n (v2, v3, F4, R5) = some qt1 → ∀ (H : Heap) (locs : List Loc), va_P D vwCl (w5_s y A F4 R5) H → va_S (rg_s 7 A s.heap.size) s.heap H locs → ∀ ls, lv_has ls 3 [(0, .ref (A 0)), (1, .int v2), (2, .int v3)] → gw p l e rm_X5_blockingCells s m args below meth c (some (.int rr9)) (fun H => va_P D vwCl (w5_s y A FF9 RR9) H) (rg_s 7 A s.heap.size) 0 0 H locs (F0 m 4 ls []) := by
    intro n
    induction n with
    | zero => intro v2 v3 F4 R5 hm; cases hm
    | succ n ih =>
      intro v2 v3 F4 R5 hm H locs hP hS ls hl
      replace hm : (m5_blockingCells_L4) (wh (m5_blockingCells_L4) n) (v2, v3, F4, R5) = some qt1 := hm
      dsimp only [m5_blockingCells_L4] at hm
      refine lv_iload_n (cx_x X) (cx_b X) dX5_blockingCells_4 rfl (lv_at hl 2 rfl) ?_
      refine lv_aload_n (cx_x X) (cx_b X) dX5_blockingCells_5 rfl (lv_at hl 0 rfl) ?_
      obtain ⟨v10, h9, hm⟩ := bnd hm
      refine af_R (rn_V (As := []) (rest := [.int v3]) X (c_X5_cells l D y A F4 R5  _ h9) vq_X5_42 ⟨rfl, rfl⟩ ⟨Nat.le_of_ble_eq_true rfl, Nat.le_of_ble_eq_true rfl⟩ (rec_5 X hP) hP rfl hl.1 rfl (Nat.le_of_ble_eq_true rfl) dX5_blockingCells_6 ⟨Nat.le_of_ble_eq_true rfl, Nat.le_of_ble_eq_true rfl⟩) ?_
      refine lv_icmp_ge (tgt := 36) (cx_x X) (cx_b X) dX5_blockingCells_9 (by decide) (fun c11 => ?_) (fun c11 => ?_)
      · replace hm := if_T c11 hm
        exact Xt1 _ _ _ (by cases hm; exact hmt1) _ _ hP hS _ (lv_sub hl [1] rfl)
      · replace hm := if_F c11 hm
        refine lv_iload_n (cx_x X) (cx_b X) dX5_blockingCells_12 rfl (lv_at hl 1 rfl) ?_
        refine lv_aload_n (cx_x X) (cx_b X) dX5_blockingCells_13 rfl (lv_at hl 0 rfl) ?_
        refine lv_iload_n (cx_x X) (cx_b X) dX5_blockingCells_14 rfl (lv_at hl 2 rfl) ?_
        obtain ⟨⟨v15, F13, R14⟩, h12, hm⟩ := bnd hm
        try dsimp only at hm
        refine af_W (mc := 0) (ms := 0) (rn_V (As := [.int v3]) (rest := [.int v2]) X (c_X5_choose l D y A F4 R5 v3 v15 F13 R14 _ hI h12) vq_X5_91 ⟨rfl, rfl⟩ ⟨Nat.le_of_ble_eq_true rfl, Nat.le_of_ble_eq_true rfl⟩ (rec_5 X hP) ⟨rfl, hP⟩ rfl hl.1 rfl (Nat.le_of_ble_eq_true rfl) dX5_blockingCells_15 ⟨Nat.le_of_ble_eq_true rfl, Nat.le_of_ble_eq_true rfl⟩) hS (rg_up hS.1) (fun H locs hP _ _ hS => ?_)
        refine lv_bipush (v := (-9 : Int32)) (cx_x X) (cx_b X) dX5_blockingCells_18 (by decide) ?_
        obtain ⟨qt17, hm, hmt17⟩ := bnd hm
        have Jt17 : ∀ (v16 : Int32) , m5_blockingCells_J28 (wh (m5_blockingCells_L4) n) v2 v3 F13 R14 v16 = some qt1 → ∀ (H : Heap) (locs : List Loc), va_P D vwCl (w5_s y A F13 R14) H → va_S (rg_s 7 A s.heap.size) s.heap H locs → ∀ ls, lv_has ls 3 [(0, .ref (A 0)), (2, .int v3)] → gw p l e rm_X5_blockingCells s m args below meth c (some (.int rr9)) (fun H => va_P D vwCl (w5_s y A FF9 RR9) H) (rg_s 7 A s.heap.size) 0 0 H locs (F0 m 28 ls [.int v16, .int v2]) := by
          intro v16 hm H locs hP hS ls hl
          unfold m5_blockingCells_J28 at hm
          refine lv_iadd (cx_x X) (cx_b X) dX5_blockingCells_28 ?_
          refine lv_istore_n (lv' := [(1, .int (v2 + v16)), (0, .ref (A 0)), (2, .int v3)]) (cx_x X) (cx_b X) dX5_blockingCells_29 rfl hl (by decide) rfl (fun ls hl => ?_)
          refine lv_iinc (v := (v3 + (1 : Int32))) (lv' := [(2, .int (v3 + (1 : Int32))), (1, .int (v2 + v16)), (0, .ref (A 0))]) (cx_x X) (cx_b X) dX5_blockingCells_30 hl (k := 2) rfl (by rfl) (by decide) rfl (fun ls hl => ?_)
          refine lv_goto (tgt := 4) (cx_x X) (cx_b X) dX5_blockingCells_33 (by decide) ?_
          exact ih _ _ _ _ hm _ _ hP hS _ (lv_sub hl [2, 1, 0] rfl)
        refine lv_icmp_ne (tgt := 27) (cx_x X) (cx_b X) dX5_blockingCells_20 (by decide) (fun c18 => ?_) (fun c18 => ?_)
        · replace hm := if_F c18 hm
          refine lv_iconst (v := (0 : Int32)) (cx_x X) (cx_b X) dX5_blockingCells_27 (by decide) ?_
          exact Jt17 _ (by cases hm; exact hmt17) _ _ hP hS _ (lv_sub hl [0, 2] rfl)
        · replace hm := if_T c18 hm
          refine lv_iconst (v := (1 : Int32)) (cx_x X) (cx_b X) dX5_blockingCells_23 (by decide) ?_
          refine lv_goto (tgt := 28) (cx_x X) (cx_b X) dX5_blockingCells_24 (by decide) ?_
          exact Jt17 _ (by cases hm; exact hmt17) _ _ hP hS _ (lv_sub hl [0, 2] rfl)
  exact Lt1 _ _ _ _ _ hm _ _ hP hS _ (lv_sub hl [2, 1, 0] rfl)
/-! X5_appendCharacter -/
def m5_appendCharacter (F : (Nat → Int32)) (R : (Nat → Nat → Int32)) (a1 : Int32) : Option (Int32 × (Nat → Int32) × (Nat → Nat → Int32)) :=
  (m5_in a1 (0 : Int32) (255 : Int32)).bind fun v2 =>
  if v2 = 0 then
  some ((-1 : Int32), F, R)
  else
  if (F 6) = (100 : Int32) then
  some ((-3 : Int32), F, R)
  else
  if inb (F 6) 100 then
  some (((va_up F 6 ((F 6) + (1 : Int32))) 6), (va_up F 6 ((F 6) + (1 : Int32))), (va_up R 4 (upd (R 4) (F 6).toNatClampNeg (vp_nar .byte (a1).toInt8.toInt32)))) else none
abbrev rm_X5_appendCharacter : Room := { frames := 1, cells := 0, slots := 0, locals := 22 }
set_option maxHeartbeats 4000000 in
set_option maxRecDepth 100000 in
theorem c_X5_appendCharacter (l : Launch) (D : va_G) (y : Nat → ClassId) (A : Nat → Nat) (F : (Nat → Int32)) (R : (Nat → Nat → Int32)) (a1 : Int32) (rr9 : Int32) (FF9 : (Nat → Int32)) (RR9 : (Nat → Nat → Int32)) (sz : Nat) (hI : aj_s 7 A) (hm : m5_appendCharacter F R a1 = some (rr9, FF9, RR9)) : Met l yX5_appendCharacter (wy_s yX5_appendCharacter cX5_appendCharacter 2 (some .int)) rm_X5_appendCharacter (pc_R D y [.ref (A 0), .int a1] (fun H => H.size = sz ∧ va_P D vwCl (w5_s y A F R) H)) (qc_W (some (.int rr9)) (fun H => va_P D vwCl (w5_s y A FF9 RR9) H) (rg_s 7 A sz)) 0 0 (rg_s 7 A sz) := by
  refine met_W (by decide) (Nat.le_of_ble_eq_true rfl) ?_
  intro p e s m args below meth c X hnm h0 ls hl
  obtain ⟨hsz, hP⟩ := h0
  subst hsz
  have hA := ap_of (sz := s.heap.size) hI
  have hS : va_S (rg_s 7 A s.heap.size) s.heap s.heap [] := va_S.rf
  replace hl : lv_has ls 2 [(0, .ref (A 0)), (1, .int a1)] := hl
  replace X : cx p s m args meth c cX5_appendCharacter 2 (some .int) RX5 D y := X
  unfold m5_appendCharacter at hm
  refine lv_iload_n (cx_x X) (cx_b X) dX5_appendCharacter_0 rfl (lv_at hl 1 rfl) ?_
  refine lv_iconst (v := (0 : Int32)) (cx_x X) (cx_b X) dX5_appendCharacter_1 (by decide) ?_
  refine lv_sipush (v := (255 : Int32)) (cx_x X) (cx_b X) dX5_appendCharacter_2 (by decide) ?_
  obtain ⟨v2, h1, hm⟩ := bnd hm
  refine af_R (rn_S (As := [.int a1, .int (0 : Int32), .int (255 : Int32)]) (rest := []) X (c_X5_in l D y a1 (0 : Int32) (255 : Int32)  _ h1) sq_X5_34 ⟨rfl, rfl⟩ ⟨Nat.le_of_ble_eq_true rfl, Nat.le_of_ble_eq_true rfl⟩ trivial rfl hl.1 rfl (Nat.le_of_ble_eq_true rfl) dX5_appendCharacter_5 ⟨Nat.le_of_ble_eq_true rfl, Nat.le_of_ble_eq_true rfl⟩) ?_
  refine lv_if_ne (tgt := 13) (cx_x X) (cx_b X) dX5_appendCharacter_8 (by decide) (fun c3 => ?_) (fun c3 => ?_)
  · replace hm := if_F c3 hm
    refine lv_aload_n (cx_x X) (cx_b X) dX5_appendCharacter_13 rfl (lv_at hl 0 rfl) ?_
    refine gf_X5_141 X hP dX5_appendCharacter_14 ?_
    refine lv_bipush (v := (100 : Int32)) (cx_x X) (cx_b X) dX5_appendCharacter_17 (by decide) ?_
    refine lv_icmp_ne (tgt := 25) (cx_x X) (cx_b X) dX5_appendCharacter_19 (by decide) (fun c4 => ?_) (fun c4 => ?_)
    · replace hm := if_F c4 hm
      refine lv_aload_n (cx_x X) (cx_b X) dX5_appendCharacter_25 rfl (lv_at hl 0 rfl) ?_
      refine gf_X5_23 X hP dX5_appendCharacter_26 ?_
      refine lv_aload_n (cx_x X) (cx_b X) dX5_appendCharacter_29 rfl (lv_at hl 0 rfl) ?_
      refine gf_X5_141 X hP dX5_appendCharacter_30 ?_
      refine lv_iload_n (cx_x X) (cx_b X) dX5_appendCharacter_33 rfl (lv_at hl 1 rfl) ?_
      refine lv_i2b (cx_x X) (cx_b X) dX5_appendCharacter_34 rfl ?_
      obtain ⟨h5, hm⟩ := ck_E hm
      refine st_5_4 X hP hA hS h5 dX5_appendCharacter_35 (fun H locs hP hS => ?_)
      refine lv_aload_n (cx_x X) (cx_b X) dX5_appendCharacter_36 rfl (lv_at hl 0 rfl) ?_
      refine lv_dup (cx_x X) (cx_b X) dX5_appendCharacter_37 rfl ?_
      refine gf_X5_141 X hP dX5_appendCharacter_38 ?_
      refine lv_iconst (v := (1 : Int32)) (cx_x X) (cx_b X) dX5_appendCharacter_41 (by decide) ?_
      refine lv_iadd (cx_x X) (cx_b X) dX5_appendCharacter_42 ?_
      refine pf_X5_141 X hP hA hS dX5_appendCharacter_43 (fun H locs hP hS => ?_)
      refine lv_aload_n (cx_x X) (cx_b X) dX5_appendCharacter_46 rfl (lv_at hl 0 rfl) ?_
      refine gf_X5_141 X hP dX5_appendCharacter_47 ?_
      obtain ⟨rfl, rfl, rfl⟩ := oc_3 hm
      exact gw_i X hS hP dX5_appendCharacter_50
    · replace hm := if_T c4 hm
      refine lv_bipush (v := (-3 : Int32)) (cx_x X) (cx_b X) dX5_appendCharacter_22 (by decide) ?_
      obtain ⟨rfl, rfl, rfl⟩ := oc_3 hm
      exact gw_i X hS hP dX5_appendCharacter_24
  · replace hm := if_T c3 hm
    refine lv_iconst (v := (-1 : Int32)) (cx_x X) (cx_b X) dX5_appendCharacter_11 (by decide) ?_
    obtain ⟨rfl, rfl, rfl⟩ := oc_3 hm
    exact gw_i X hS hP dX5_appendCharacter_12
/-! X5_clearText -/
def m5_clearText (F : (Nat → Int32)) (R : (Nat → Nat → Int32)) : Option (Int32 × (Nat → Int32) × (Nat → Nat → Int32)) :=
  some ((F 6), (va_up F 6 (0 : Int32)), R)
abbrev rm_X5_clearText : Room := { frames := 0, cells := 0, slots := 0, locals := 0 }
set_option maxHeartbeats 4000000 in
set_option maxRecDepth 100000 in
theorem c_X5_clearText (l : Launch) (D : va_G) (y : Nat → ClassId) (A : Nat → Nat) (F : (Nat → Int32)) (R : (Nat → Nat → Int32)) (rr9 : Int32) (FF9 : (Nat → Int32)) (RR9 : (Nat → Nat → Int32)) (sz : Nat) (hI : aj_s 7 A) (hm : m5_clearText F R = some (rr9, FF9, RR9)) : Met l yX5_clearText (wy_s yX5_clearText cX5_clearText 2 (some .int)) rm_X5_clearText (pc_R D y [.ref (A 0)] (fun H => H.size = sz ∧ va_P D vwCl (w5_s y A F R) H)) (qc_W (some (.int rr9)) (fun H => va_P D vwCl (w5_s y A FF9 RR9) H) (rg_s 7 A sz)) 0 0 (rg_s 7 A sz) := by
  refine met_W (by decide) (Nat.le_of_ble_eq_true rfl) ?_
  intro p e s m args below meth c X hnm h0 ls hl
  obtain ⟨hsz, hP⟩ := h0
  subst hsz
  have hA := ap_of (sz := s.heap.size) hI
  have hS : va_S (rg_s 7 A s.heap.size) s.heap s.heap [] := va_S.rf
  replace hl : lv_has ls 2 [(0, .ref (A 0))] := hl
  replace X : cx p s m args meth c cX5_clearText 2 (some .int) RX5 D y := X
  unfold m5_clearText at hm
  refine lv_aload_n (cx_x X) (cx_b X) dX5_clearText_0 rfl (lv_at hl 0 rfl) ?_
  refine gf_X5_141 X hP dX5_clearText_1 ?_
  refine lv_istore_n (lv' := [(1, .int (F 6)), (0, .ref (A 0))]) (cx_x X) (cx_b X) dX5_clearText_4 rfl hl (by decide) rfl (fun ls hl => ?_)
  refine lv_aload_n (cx_x X) (cx_b X) dX5_clearText_5 rfl (lv_at hl 1 rfl) ?_
  refine lv_iconst (v := (0 : Int32)) (cx_x X) (cx_b X) dX5_clearText_6 (by decide) ?_
  refine pf_X5_141 X hP hA hS dX5_clearText_7 (fun H locs hP hS => ?_)
  refine lv_iload_n (cx_x X) (cx_b X) dX5_clearText_10 rfl (lv_at hl 0 rfl) ?_
  obtain ⟨rfl, rfl, rfl⟩ := oc_3 hm
  exact gw_i X hS hP dX5_clearText_11
/-! X5_skip -/
def m5_skip_X22 (R : (Nat → Nat → Int32)) (F3 : (Nat → Int32)) : Option ((Nat → Int32) × (Nat → Nat → Int32)) :=
  some (F3, R)
def m5_skip_L0 (R : (Nat → Nat → Int32)) (kkt1 : (Nat → Int32) → Option (Nat → Int32)) (t0 : (Nat → Int32)) : Option (Nat → Int32) :=
  (m5_here t0 R).bind fun v5 =>
  if v5 = (32 : Int32) then
  kkt1 (va_up t0 9 ((t0 9) + (1 : Int32)))
  else
  some t0
def m5_skip (F : (Nat → Int32)) (R : (Nat → Nat → Int32)) : Option ((Nat → Int32) × (Nat → Nat → Int32)) :=
  (wh (m5_skip_L0 R) 2000 F).bind fun F3 => m5_skip_X22 R F3
abbrev rm_X5_skip : Room := { frames := 1, cells := 0, slots := 0, locals := 20 }
set_option maxHeartbeats 4000000 in
set_option maxRecDepth 100000 in
theorem c_X5_skip (l : Launch) (D : va_G) (y : Nat → ClassId) (A : Nat → Nat) (F : (Nat → Int32)) (R : (Nat → Nat → Int32)) (FF9 : (Nat → Int32)) (RR9 : (Nat → Nat → Int32)) (sz : Nat) (hI : aj_s 7 A) (hm : m5_skip F R = some (FF9, RR9)) : Met l yX5_skip (wy_s yX5_skip cX5_skip 1 none) rm_X5_skip (pc_R D y [.ref (A 0)] (fun H => H.size = sz ∧ va_P D vwCl (w5_s y A F R) H)) (qc_W none (fun H => va_P D vwCl (w5_s y A FF9 RR9) H) (rg_s 7 A sz)) 0 0 (rg_s 7 A sz) := by
  refine met_W (by decide) (Nat.le_of_ble_eq_true rfl) ?_
  intro p e s m args below meth c X hnm h0 ls hl
  obtain ⟨hsz, hP⟩ := h0
  subst hsz
  have hA := ap_of (sz := s.heap.size) hI
  have hS : va_S (rg_s 7 A s.heap.size) s.heap s.heap [] := va_S.rf
  replace hl : lv_has ls 1 [(0, .ref (A 0))] := hl
  replace X : cx p s m args meth c cX5_skip 1 none RX5 D y := X
  unfold m5_skip at hm
  obtain ⟨qt1, hm, hmt1⟩ := bnd hm
  have Xt1 : ∀ (F3 : (Nat → Int32)) , m5_skip_X22 R F3 = some (FF9, RR9) → ∀ (H : Heap) (locs : List Loc), va_P D vwCl (w5_s y A F3 R) H → va_S (rg_s 7 A s.heap.size) s.heap H locs → ∀ ls, lv_has ls 1 [] → gw p l e rm_X5_skip s m args below meth c none (fun H => va_P D vwCl (w5_s y A FF9 RR9) H) (rg_s 7 A s.heap.size) 0 0 H locs (F0 m 22 ls []) := by
    intro F3 hm H locs hP hS ls hl
    unfold m5_skip_X22 at hm
    obtain ⟨rfl, rfl⟩ := oc_2 hm
    exact gw_v X hS hP dX5_skip_22
  have Lt1 : ∀ (n : Nat) (F2 : (Nat → Int32)) , wh (m5_skip_L0 R) n F2 = some qt1 → ∀ (H : Heap) (locs : List Loc), va_P D vwCl (w5_s y A F2 R) H → va_S (rg_s 7 A s.heap.size) s.heap H locs → ∀ ls, lv_has ls 1 [(0, .ref (A 0))] → gw p l e rm_X5_skip s m args below meth c none (fun H => va_P D vwCl (w5_s y A FF9 RR9) H) (rg_s 7 A s.heap.size) 0 0 H locs (F0 m 0 ls []) := by
    intro n
    induction n with
    | zero => intro F2 hm; cases hm
    | succ n ih =>
      intro F2 hm H locs hP hS ls hl
      replace hm : (m5_skip_L0 R) (wh (m5_skip_L0 R) n) F2 = some qt1 := hm
      dsimp only [m5_skip_L0] at hm
      refine lv_aload_n (cx_x X) (cx_b X) dX5_skip_0 rfl (lv_at hl 0 rfl) ?_
      obtain ⟨v5, h4, hm⟩ := bnd hm
      refine af_R (rn_V (As := []) (rest := []) X (c_X5_here l D y A F2 R  _ h4) vq_X5_147 ⟨rfl, rfl⟩ ⟨Nat.le_of_ble_eq_true rfl, Nat.le_of_ble_eq_true rfl⟩ (rec_5 X hP) hP rfl hl.1 rfl (Nat.le_of_ble_eq_true rfl) dX5_skip_1 ⟨Nat.le_of_ble_eq_true rfl, Nat.le_of_ble_eq_true rfl⟩) ?_
      refine lv_bipush (v := (32 : Int32)) (cx_x X) (cx_b X) dX5_skip_4 (by decide) ?_
      refine lv_icmp_ne (tgt := 22) (cx_x X) (cx_b X) dX5_skip_6 (by decide) (fun c6 => ?_) (fun c6 => ?_)
      · replace hm := if_F c6 hm
        exact Xt1 _ (by cases hm; exact hmt1) _ _ hP hS _ (lv_sub hl [] rfl)
      · replace hm := if_T c6 hm
        refine lv_aload_n (cx_x X) (cx_b X) dX5_skip_9 rfl (lv_at hl 0 rfl) ?_
        refine lv_dup (cx_x X) (cx_b X) dX5_skip_10 rfl ?_
        refine gf_X5_144 X hP dX5_skip_11 ?_
        refine lv_iconst (v := (1 : Int32)) (cx_x X) (cx_b X) dX5_skip_14 (by decide) ?_
        refine lv_iadd (cx_x X) (cx_b X) dX5_skip_15 ?_
        refine pf_X5_144 X hP hA hS dX5_skip_16 (fun H locs hP hS => ?_)
        refine lv_goto (tgt := 0) (cx_x X) (cx_b X) dX5_skip_19 (by decide) ?_
        exact ih _ hm _ _ hP hS _ (lv_sub hl [0] rfl)
  exact Lt1 _ _ hm _ _ hP hS _ (lv_sub hl [0] rfl)
/-! X5_expect -/
def m5_expect_J49 (R3 : (Nat → Nat → Int32)) (F4 : (Nat → Int32)) : Option ((Nat → Int32) × (Nat → Nat → Int32)) :=
  some (F4, R3)
def m5_expect_J45 (F2 : (Nat → Int32)) (v9 : Int32) (v12 : Int32) : Option (Nat → Int32) :=
  some (va_up (va_up F2 10 v9) 9 (((va_up F2 10 v9) 9) + v12))
def m5_expect_J25 (F2 : (Nat → Int32)) (v9 : Int32) : Option (Nat → Int32) :=
  if v9 &&& 1 = v9 then
  (if ((va_up F2 10 v9) 10) = 0 then
  some (1 : Int32)
  else
  some (0 : Int32)).bind fun v12 => m5_expect_J45 F2 v9 v12 else none
def m5_expect (F : (Nat → Int32)) (R : (Nat → Nat → Int32)) (a1 : Int32) : Option ((Nat → Int32) × (Nat → Nat → Int32)) :=
  (m5_skip F R).bind fun ⟨F2, R3⟩ =>
  (if (F2 10) = 0 then
  (m5_here F2 R3).bind fun v8 =>
  (if v8 = a1 then
  some (0 : Int32)
  else
  some (1 : Int32)).bind fun v9 => m5_expect_J25 F2 v9
  else
  some F2).bind fun F4 => m5_expect_J49 R3 F4
abbrev rm_X5_expect : Room := { frames := 2, cells := 0, slots := 0, locals := 40 }
set_option maxHeartbeats 4000000 in
set_option maxRecDepth 100000 in
theorem c_X5_expect (l : Launch) (D : va_G) (y : Nat → ClassId) (A : Nat → Nat) (F : (Nat → Int32)) (R : (Nat → Nat → Int32)) (a1 : Int32) (FF9 : (Nat → Int32)) (RR9 : (Nat → Nat → Int32)) (sz : Nat) (hI : aj_s 7 A) (hm : m5_expect F R a1 = some (FF9, RR9)) : Met l yX5_expect (wy_s yX5_expect cX5_expect 2 none) rm_X5_expect (pc_R D y [.ref (A 0), .int a1] (fun H => H.size = sz ∧ va_P D vwCl (w5_s y A F R) H)) (qc_W none (fun H => va_P D vwCl (w5_s y A FF9 RR9) H) (rg_s 7 A sz)) 0 0 (rg_s 7 A sz) := by
  refine met_W (by decide) (Nat.le_of_ble_eq_true rfl) ?_
  intro p e s m args below meth c X hnm h0 ls hl
  obtain ⟨hsz, hP⟩ := h0
  subst hsz
  have hA := ap_of (sz := s.heap.size) hI
  have hS : va_S (rg_s 7 A s.heap.size) s.heap s.heap [] := va_S.rf
  replace hl : lv_has ls 2 [(0, .ref (A 0)), (1, .int a1)] := hl
  replace X : cx p s m args meth c cX5_expect 2 none RX5 D y := X
  unfold m5_expect at hm
  refine lv_aload_n (cx_x X) (cx_b X) dX5_expect_0 rfl (lv_at hl 0 rfl) ?_
  obtain ⟨⟨F2, R3⟩, h1, hm⟩ := bnd hm
  try dsimp only at hm
  refine af_W (mc := 0) (ms := 0) (rn_V (As := []) (rest := []) X (c_X5_skip l D y A F R F2 R3 _ hI h1) vq_X5_150 ⟨rfl, rfl⟩ ⟨Nat.le_of_ble_eq_true rfl, Nat.le_of_ble_eq_true rfl⟩ (rec_5 X hP) ⟨rfl, hP⟩ rfl hl.1 rfl (Nat.le_of_ble_eq_true rfl) dX5_expect_1 ⟨Nat.le_of_ble_eq_true rfl, Nat.le_of_ble_eq_true rfl⟩) hS (rg_up hS.1) (fun H locs hP _ _ hS => ?_)
  refine lv_aload_n (cx_x X) (cx_b X) dX5_expect_4 rfl (lv_at hl 0 rfl) ?_
  refine gf_X5_153 X hP dX5_expect_5 ?_
  obtain ⟨qt5, hm, hmt5⟩ := bnd hm
  have Jt5 : ∀ (F4 : (Nat → Int32)) , m5_expect_J49 R3 F4 = some (FF9, RR9) → ∀ (H : Heap) (locs : List Loc), va_P D vwCl (w5_s y A F4 R3) H → va_S (rg_s 7 A s.heap.size) s.heap H locs → ∀ ls, lv_has ls 2 [] → gw p l e rm_X5_expect s m args below meth c none (fun H => va_P D vwCl (w5_s y A FF9 RR9) H) (rg_s 7 A s.heap.size) 0 0 H locs (F0 m 49 ls []) := by
    intro F4 hm H locs hP hS ls hl
    unfold m5_expect_J49 at hm
    obtain ⟨rfl, rfl⟩ := oc_2 hm
    exact gw_v X hS hP dX5_expect_49
  refine lv_if_ne (tgt := 49) (cx_x X) (cx_b X) dX5_expect_8 (by decide) (fun c6 => ?_) (fun c6 => ?_)
  · replace hm := if_F c6 hm
    exact Jt5 _ (by cases hm; exact hmt5) _ _ hP hS _ (lv_sub hl [] rfl)
  · replace hm := if_T c6 hm
    refine lv_aload_n (cx_x X) (cx_b X) dX5_expect_11 rfl (lv_at hl 0 rfl) ?_
    refine lv_aload_n (cx_x X) (cx_b X) dX5_expect_12 rfl (lv_at hl 0 rfl) ?_
    obtain ⟨v8, h7, hm⟩ := bnd hm
    refine af_R (rn_V (As := []) (rest := [.ref (A 0)]) X (c_X5_here l D y A F2 R3  _ h7) vq_X5_147 ⟨rfl, rfl⟩ ⟨Nat.le_of_ble_eq_true rfl, Nat.le_of_ble_eq_true rfl⟩ (rec_5 X hP) hP rfl hl.1 rfl (Nat.le_of_ble_eq_true rfl) dX5_expect_13 ⟨Nat.le_of_ble_eq_true rfl, Nat.le_of_ble_eq_true rfl⟩) ?_
    refine lv_iload_n (cx_x X) (cx_b X) dX5_expect_16 rfl (lv_at hl 1 rfl) ?_
    obtain ⟨qt10, hm, hmt10⟩ := bnd hm
    have Jt10 : ∀ (v9 : Int32) , m5_expect_J25 F2 v9 = some qt5 → ∀ (H : Heap) (locs : List Loc), va_P D vwCl (w5_s y A F2 R3) H → va_S (rg_s 7 A s.heap.size) s.heap H locs → ∀ ls, lv_has ls 2 [(0, .ref (A 0))] → gw p l e rm_X5_expect s m args below meth c none (fun H => va_P D vwCl (w5_s y A FF9 RR9) H) (rg_s 7 A s.heap.size) 0 0 H locs (F0 m 25 ls [.int v9, .ref (A 0)]) := by
      intro v9 hm H locs hP hS ls hl
      unfold m5_expect_J25 at hm
      obtain ⟨h11, hm⟩ := ck_E hm
      refine pf_X5_153 X h11 hP hA hS dX5_expect_25 (fun H locs hP hS => ?_)
      refine lv_aload_n (cx_x X) (cx_b X) dX5_expect_28 rfl (lv_at hl 0 rfl) ?_
      refine lv_dup (cx_x X) (cx_b X) dX5_expect_29 rfl ?_
      refine gf_X5_144 X hP dX5_expect_30 ?_
      refine lv_aload_n (cx_x X) (cx_b X) dX5_expect_33 rfl (lv_at hl 0 rfl) ?_
      refine gf_X5_153 X hP dX5_expect_34 ?_
      obtain ⟨qt13, hm, hmt13⟩ := bnd hm
      have Jt13 : ∀ (v12 : Int32) , m5_expect_J45 F2 v9 v12 = some qt5 → ∀ (H : Heap) (locs : List Loc), va_P D vwCl (w5_s y A (va_up F2 10 v9) R3) H → va_S (rg_s 7 A s.heap.size) s.heap H locs → ∀ ls, lv_has ls 2 [] → gw p l e rm_X5_expect s m args below meth c none (fun H => va_P D vwCl (w5_s y A FF9 RR9) H) (rg_s 7 A s.heap.size) 0 0 H locs (F0 m 45 ls [.int v12, .int ((va_up F2 10 v9) 9), .ref (A 0)]) := by
        intro v12 hm H locs hP hS ls hl
        unfold m5_expect_J45 at hm
        refine lv_iadd (cx_x X) (cx_b X) dX5_expect_45 ?_
        refine pf_X5_144 X hP hA hS dX5_expect_46 (fun H locs hP hS => ?_)
        exact Jt5 _ (by cases hm; exact hmt5) _ _ hP hS _ (lv_sub hl [] rfl)
      refine lv_if_eq (tgt := 44) (cx_x X) (cx_b X) dX5_expect_37 (by decide) (fun c14 => ?_) (fun c14 => ?_)
      · replace hm := if_T c14 hm
        refine lv_iconst (v := (1 : Int32)) (cx_x X) (cx_b X) dX5_expect_44 (by decide) ?_
        exact Jt13 _ (by cases hm; exact hmt13) _ _ hP hS _ (lv_sub hl [] rfl)
      · replace hm := if_F c14 hm
        refine lv_iconst (v := (0 : Int32)) (cx_x X) (cx_b X) dX5_expect_40 (by decide) ?_
        refine lv_goto (tgt := 45) (cx_x X) (cx_b X) dX5_expect_41 (by decide) ?_
        exact Jt13 _ (by cases hm; exact hmt13) _ _ hP hS _ (lv_sub hl [] rfl)
    refine lv_icmp_eq (tgt := 24) (cx_x X) (cx_b X) dX5_expect_17 (by decide) (fun c15 => ?_) (fun c15 => ?_)
    · replace hm := if_T c15 hm
      refine lv_iconst (v := (0 : Int32)) (cx_x X) (cx_b X) dX5_expect_24 (by decide) ?_
      exact Jt10 _ (by cases hm; exact hmt10) _ _ hP hS _ (lv_sub hl [0] rfl)
    · replace hm := if_F c15 hm
      refine lv_iconst (v := (1 : Int32)) (cx_x X) (cx_b X) dX5_expect_20 (by decide) ?_
      refine lv_goto (tgt := 25) (cx_x X) (cx_b X) dX5_expect_21 (by decide) ?_
      exact Jt10 _ (by cases hm; exact hmt10) _ _ hP hS _ (lv_sub hl [0] rfl)
/-! X5_number -/
def m5_number_J98 (R3 : (Nat → Nat → Int32)) (v10 : Int32) (F11 : (Nat → Int32)) : Option (Int32 × (Nat → Int32) × (Nat → Nat → Int32)) :=
  some (v10, F11, R3)
def m5_number_J35 (F2 : (Nat → Int32)) (R3 : (Nat → Nat → Int32)) (v5 : Int32) (v6 : Int32) : Option (Int32 × (Nat → Int32) × (Nat → Nat → Int32)) :=
  if v6 &&& 1 = v6 then
  if ((va_up F2 10 v6) 10) = 0 then
  (if (v5 - (48 : Int32)) ≤ 0 then
  some ((v5 - (48 : Int32)), (va_up (va_up F2 10 v6) 9 (((va_up F2 10 v6) 9) + (1 : Int32))))
  else
  (m5_here (va_up (va_up F2 10 v6) 9 (((va_up F2 10 v6) 9) + (1 : Int32))) R3).bind fun v15 =>
  (m5_in v15 (48 : Int32) (57 : Int32)).bind fun v17 =>
  if v17 = 0 then
  some ((v5 - (48 : Int32)), (va_up (va_up F2 10 v6) 9 (((va_up F2 10 v6) 9) + (1 : Int32))))
  else
  (m5_here (va_up (va_up F2 10 v6) 9 (((va_up F2 10 v6) 9) + (1 : Int32))) R3).bind fun v20 =>
  lt_ ((((10 : Int32) * (v5 - (48 : Int32))) + v20) - (48 : Int32)) fun v21 =>
  some (v21, (va_up (va_up (va_up F2 10 v6) 9 (((va_up F2 10 v6) 9) + (1 : Int32))) 9 (((va_up (va_up F2 10 v6) 9 (((va_up F2 10 v6) 9) + (1 : Int32))) 9) + (1 : Int32))))).bind fun ⟨v10, F11⟩ => m5_number_J98 R3 v10 F11
  else
  some ((0 : Int32), (va_up F2 10 v6), R3) else none
def m5_number (F : (Nat → Int32)) (R : (Nat → Nat → Int32)) : Option (Int32 × (Nat → Int32) × (Nat → Nat → Int32)) :=
  (m5_skip F R).bind fun ⟨F2, R3⟩ =>
  (m5_here F2 R3).bind fun v5 =>
  (if (F2 10) = 0 then
  (m5_in (v5 - (48 : Int32)) (0 : Int32) (9 : Int32)).bind fun v24 =>
  if v24 = 0 then
  some (1 : Int32)
  else
  some (0 : Int32)
  else
  some (1 : Int32)).bind fun v6 => m5_number_J35 F2 R3 v5 v6
abbrev rm_X5_number : Room := { frames := 2, cells := 0, slots := 0, locals := 40 }
set_option maxHeartbeats 4000000 in
set_option maxRecDepth 100000 in
theorem c_X5_number (l : Launch) (D : va_G) (y : Nat → ClassId) (A : Nat → Nat) (F : (Nat → Int32)) (R : (Nat → Nat → Int32)) (rr9 : Int32) (FF9 : (Nat → Int32)) (RR9 : (Nat → Nat → Int32)) (sz : Nat) (hI : aj_s 7 A) (hm : m5_number F R = some (rr9, FF9, RR9)) : Met l yX5_number (wy_s yX5_number cX5_number 2 (some .int)) rm_X5_number (pc_R D y [.ref (A 0)] (fun H => H.size = sz ∧ va_P D vwCl (w5_s y A F R) H)) (qc_W (some (.int rr9)) (fun H => va_P D vwCl (w5_s y A FF9 RR9) H) (rg_s 7 A sz)) 0 0 (rg_s 7 A sz) := by
  refine met_W (by decide) (Nat.le_of_ble_eq_true rfl) ?_
  intro p e s m args below meth c X hnm h0 ls hl
  obtain ⟨hsz, hP⟩ := h0
  subst hsz
  have hA := ap_of (sz := s.heap.size) hI
  have hS : va_S (rg_s 7 A s.heap.size) s.heap s.heap [] := va_S.rf
  replace hl : lv_has ls 2 [(0, .ref (A 0))] := hl
  replace X : cx p s m args meth c cX5_number 2 (some .int) RX5 D y := X
  unfold m5_number at hm
  refine lv_aload_n (cx_x X) (cx_b X) dX5_number_0 rfl (lv_at hl 0 rfl) ?_
  obtain ⟨⟨F2, R3⟩, h1, hm⟩ := bnd hm
  try dsimp only at hm
  refine af_W (mc := 0) (ms := 0) (rn_V (As := []) (rest := []) X (c_X5_skip l D y A F R F2 R3 _ hI h1) vq_X5_150 ⟨rfl, rfl⟩ ⟨Nat.le_of_ble_eq_true rfl, Nat.le_of_ble_eq_true rfl⟩ (rec_5 X hP) ⟨rfl, hP⟩ rfl hl.1 rfl (Nat.le_of_ble_eq_true rfl) dX5_number_1 ⟨Nat.le_of_ble_eq_true rfl, Nat.le_of_ble_eq_true rfl⟩) hS (rg_up hS.1) (fun H locs hP _ _ hS => ?_)
  refine lv_aload_n (cx_x X) (cx_b X) dX5_number_4 rfl (lv_at hl 0 rfl) ?_
  obtain ⟨v5, h4, hm⟩ := bnd hm
  refine af_R (rn_V (As := []) (rest := []) X (c_X5_here l D y A F2 R3  _ h4) vq_X5_147 ⟨rfl, rfl⟩ ⟨Nat.le_of_ble_eq_true rfl, Nat.le_of_ble_eq_true rfl⟩ (rec_5 X hP) hP rfl hl.1 rfl (Nat.le_of_ble_eq_true rfl) dX5_number_5 ⟨Nat.le_of_ble_eq_true rfl, Nat.le_of_ble_eq_true rfl⟩) ?_
  refine lv_bipush (v := (48 : Int32)) (cx_x X) (cx_b X) dX5_number_8 (by decide) ?_
  refine lv_isub (cx_x X) (cx_b X) dX5_number_10 ?_
  refine lv_istore_n (lv' := [(1, .int (v5 - (48 : Int32))), (0, .ref (A 0))]) (cx_x X) (cx_b X) dX5_number_11 rfl hl (by decide) rfl (fun ls hl => ?_)
  refine lv_aload_n (cx_x X) (cx_b X) dX5_number_12 rfl (lv_at hl 1 rfl) ?_
  refine lv_aload_n (cx_x X) (cx_b X) dX5_number_13 rfl (lv_at hl 1 rfl) ?_
  refine gf_X5_153 X hP dX5_number_14 ?_
  obtain ⟨qt7, hm, hmt7⟩ := bnd hm
  have Jt7 : ∀ (v6 : Int32) , m5_number_J35 F2 R3 v5 v6 = some (rr9, FF9, RR9) → ∀ (H : Heap) (locs : List Loc), va_P D vwCl (w5_s y A F2 R3) H → va_S (rg_s 7 A s.heap.size) s.heap H locs → ∀ ls, lv_has ls 2 [(0, .ref (A 0)), (1, .int (v5 - (48 : Int32)))] → gw p l e rm_X5_number s m args below meth c (some (.int rr9)) (fun H => va_P D vwCl (w5_s y A FF9 RR9) H) (rg_s 7 A s.heap.size) 0 0 H locs (F0 m 35 ls [.int v6, .ref (A 0)]) := by
    intro v6 hm H locs hP hS ls hl
    unfold m5_number_J35 at hm
    obtain ⟨h8, hm⟩ := ck_E hm
    refine pf_X5_153 X h8 hP hA hS dX5_number_35 (fun H locs hP hS => ?_)
    refine lv_aload_n (cx_x X) (cx_b X) dX5_number_38 rfl (lv_at hl 0 rfl) ?_
    refine gf_X5_153 X hP dX5_number_39 ?_
    refine lv_if_eq (tgt := 47) (cx_x X) (cx_b X) dX5_number_42 (by decide) (fun c9 => ?_) (fun c9 => ?_)
    · replace hm := if_T c9 hm
      refine lv_aload_n (cx_x X) (cx_b X) dX5_number_47 rfl (lv_at hl 0 rfl) ?_
      refine lv_dup (cx_x X) (cx_b X) dX5_number_48 rfl ?_
      refine gf_X5_144 X hP dX5_number_49 ?_
      refine lv_iconst (v := (1 : Int32)) (cx_x X) (cx_b X) dX5_number_52 (by decide) ?_
      refine lv_iadd (cx_x X) (cx_b X) dX5_number_53 ?_
      refine pf_X5_144 X hP hA hS dX5_number_54 (fun H locs hP hS => ?_)
      refine lv_iload_n (cx_x X) (cx_b X) dX5_number_57 rfl (lv_at hl 1 rfl) ?_
      obtain ⟨qt12, hm, hmt12⟩ := bnd hm
      have Jt12 : ∀ (v10 : Int32) (F11 : (Nat → Int32)) , m5_number_J98 R3 v10 F11 = some (rr9, FF9, RR9) → ∀ (H : Heap) (locs : List Loc), va_P D vwCl (w5_s y A F11 R3) H → va_S (rg_s 7 A s.heap.size) s.heap H locs → ∀ ls, lv_has ls 2 [(1, .int v10)] → gw p l e rm_X5_number s m args below meth c (some (.int rr9)) (fun H => va_P D vwCl (w5_s y A FF9 RR9) H) (rg_s 7 A s.heap.size) 0 0 H locs (F0 m 98 ls []) := by
        intro v10 F11 hm H locs hP hS ls hl
        unfold m5_number_J98 at hm
        refine lv_iload_n (cx_x X) (cx_b X) dX5_number_98 rfl (lv_at hl 0 rfl) ?_
        obtain ⟨rfl, rfl, rfl⟩ := oc_3 hm
        exact gw_i X hS hP dX5_number_99
      refine lv_if_le (tgt := 98) (cx_x X) (cx_b X) dX5_number_58 (by decide) (fun c13 => ?_) (fun c13 => ?_)
      · replace hm := if_T c13 hm
        exact Jt12 _ _ (by cases hm; exact hmt12) _ _ hP hS _ (lv_sub hl [1] rfl)
      · replace hm := if_F c13 hm
        refine lv_aload_n (cx_x X) (cx_b X) dX5_number_61 rfl (lv_at hl 0 rfl) ?_
        obtain ⟨v15, h14, hm⟩ := bnd hm
        refine af_R (rn_V (As := []) (rest := []) X (c_X5_here l D y A (va_up (va_up F2 10 v6) 9 (((va_up F2 10 v6) 9) + (1 : Int32))) R3  _ h14) vq_X5_147 ⟨rfl, rfl⟩ ⟨Nat.le_of_ble_eq_true rfl, Nat.le_of_ble_eq_true rfl⟩ (rec_5 X hP) hP rfl hl.1 rfl (Nat.le_of_ble_eq_true rfl) dX5_number_62 ⟨Nat.le_of_ble_eq_true rfl, Nat.le_of_ble_eq_true rfl⟩) ?_
        refine lv_bipush (v := (48 : Int32)) (cx_x X) (cx_b X) dX5_number_65 (by decide) ?_
        refine lv_bipush (v := (57 : Int32)) (cx_x X) (cx_b X) dX5_number_67 (by decide) ?_
        obtain ⟨v17, h16, hm⟩ := bnd hm
        refine af_R (rn_S (As := [.int v15, .int (48 : Int32), .int (57 : Int32)]) (rest := []) X (c_X5_in l D y v15 (48 : Int32) (57 : Int32)  _ h16) sq_X5_34 ⟨rfl, rfl⟩ ⟨Nat.le_of_ble_eq_true rfl, Nat.le_of_ble_eq_true rfl⟩ trivial rfl hl.1 rfl (Nat.le_of_ble_eq_true rfl) dX5_number_69 ⟨Nat.le_of_ble_eq_true rfl, Nat.le_of_ble_eq_true rfl⟩) ?_
        refine lv_if_eq (tgt := 98) (cx_x X) (cx_b X) dX5_number_72 (by decide) (fun c18 => ?_) (fun c18 => ?_)
        · replace hm := if_T c18 hm
          exact Jt12 _ _ (by cases hm; exact hmt12) _ _ hP hS _ (lv_sub hl [1] rfl)
        · replace hm := if_F c18 hm
          refine lv_bipush (v := (10 : Int32)) (cx_x X) (cx_b X) dX5_number_75 (by decide) ?_
          refine lv_iload_n (cx_x X) (cx_b X) dX5_number_77 rfl (lv_at hl 1 rfl) ?_
          refine lv_imul (cx_x X) (cx_b X) dX5_number_78 ?_
          refine lv_aload_n (cx_x X) (cx_b X) dX5_number_79 rfl (lv_at hl 0 rfl) ?_
          obtain ⟨v20, h19, hm⟩ := bnd hm
          refine af_R (rn_V (As := []) (rest := [.int ((10 : Int32) * (v5 - (48 : Int32)))]) X (c_X5_here l D y A (va_up (va_up F2 10 v6) 9 (((va_up F2 10 v6) 9) + (1 : Int32))) R3  _ h19) vq_X5_147 ⟨rfl, rfl⟩ ⟨Nat.le_of_ble_eq_true rfl, Nat.le_of_ble_eq_true rfl⟩ (rec_5 X hP) hP rfl hl.1 rfl (Nat.le_of_ble_eq_true rfl) dX5_number_80 ⟨Nat.le_of_ble_eq_true rfl, Nat.le_of_ble_eq_true rfl⟩) ?_
          refine lv_iadd (cx_x X) (cx_b X) dX5_number_83 ?_
          refine lv_bipush (v := (48 : Int32)) (cx_x X) (cx_b X) dX5_number_84 (by decide) ?_
          refine lv_isub (cx_x X) (cx_b X) dX5_number_86 ?_
          obtain ⟨v21, ev21, hm⟩ := lt_E hm
          refine lv_eqi ev21 ?_
          refine lv_istore_n (lv' := [(1, .int v21), (0, .ref (A 0))]) (cx_x X) (cx_b X) dX5_number_87 rfl hl (by decide) rfl (fun ls hl => ?_)
          refine lv_aload_n (cx_x X) (cx_b X) dX5_number_88 rfl (lv_at hl 1 rfl) ?_
          refine lv_dup (cx_x X) (cx_b X) dX5_number_89 rfl ?_
          refine gf_X5_144 X hP dX5_number_90 ?_
          refine lv_iconst (v := (1 : Int32)) (cx_x X) (cx_b X) dX5_number_93 (by decide) ?_
          refine lv_iadd (cx_x X) (cx_b X) dX5_number_94 ?_
          refine pf_X5_144 X hP hA hS dX5_number_95 (fun H locs hP hS => ?_)
          exact Jt12 _ _ (by cases hm; exact hmt12) _ _ hP hS _ (lv_sub hl [0] rfl)
    · replace hm := if_F c9 hm
      refine lv_iconst (v := (0 : Int32)) (cx_x X) (cx_b X) dX5_number_45 (by decide) ?_
      obtain ⟨rfl, rfl, rfl⟩ := oc_3 hm
      exact gw_i X hS hP dX5_number_46
  refine lv_if_ne (tgt := 30) (cx_x X) (cx_b X) dX5_number_17 (by decide) (fun c22 => ?_) (fun c22 => ?_)
  · replace hm := if_F c22 hm
    refine lv_iconst (v := (1 : Int32)) (cx_x X) (cx_b X) dX5_number_30 (by decide) ?_
    refine lv_goto (tgt := 35) (cx_x X) (cx_b X) dX5_number_31 (by decide) ?_
    exact Jt7 _ (by cases hm; exact hmt7) _ _ hP hS _ (lv_sub hl [1, 0] rfl)
  · replace hm := if_T c22 hm
    refine lv_iload_n (cx_x X) (cx_b X) dX5_number_20 rfl (lv_at hl 0 rfl) ?_
    refine lv_iconst (v := (0 : Int32)) (cx_x X) (cx_b X) dX5_number_21 (by decide) ?_
    refine lv_bipush (v := (9 : Int32)) (cx_x X) (cx_b X) dX5_number_22 (by decide) ?_
    obtain ⟨v24, h23, hm⟩ := bnd hm
    refine af_R (rn_S (As := [.int (v5 - (48 : Int32)), .int (0 : Int32), .int (9 : Int32)]) (rest := [.ref (A 0)]) X (c_X5_in l D y (v5 - (48 : Int32)) (0 : Int32) (9 : Int32)  _ h23) sq_X5_34 ⟨rfl, rfl⟩ ⟨Nat.le_of_ble_eq_true rfl, Nat.le_of_ble_eq_true rfl⟩ trivial rfl hl.1 rfl (Nat.le_of_ble_eq_true rfl) dX5_number_24 ⟨Nat.le_of_ble_eq_true rfl, Nat.le_of_ble_eq_true rfl⟩) ?_
    refine lv_if_ne (tgt := 34) (cx_x X) (cx_b X) dX5_number_27 (by decide) (fun c25 => ?_) (fun c25 => ?_)
    · replace hm := if_F c25 hm
      refine lv_iconst (v := (0 : Int32)) (cx_x X) (cx_b X) dX5_number_34 (by decide) ?_
      exact Jt7 _ (by cases hm; exact hmt7) _ _ hP hS _ (lv_sub hl [1, 0] rfl)
    · replace hm := if_T c25 hm
      refine lv_iconst (v := (1 : Int32)) (cx_x X) (cx_b X) dX5_number_30 (by decide) ?_
      refine lv_goto (tgt := 35) (cx_x X) (cx_b X) dX5_number_31 (by decide) ?_
      exact Jt7 _ (by cases hm; exact hmt7) _ _ hP hS _ (lv_sub hl [1, 0] rfl)
/-! X5_script -/
def m5_script_X265  (v11 : Int32) (F12 : (Nat → Int32)) (R13 : (Nat → Nat → Int32)) : Option (Int32 × (Nat → Int32) × (Nat → Nat → Int32)) :=
  some (v11, F12, R13)
def m5_script_J262 (kkt7 : (Int32 × (Nat → Int32) × (Nat → Nat → Int32)) → Option (Int32 × (Nat → Int32) × (Nat → Nat → Int32))) (v23 : Int32) (F24 : (Nat → Int32)) (R25 : (Nat → Nat → Int32)) : Option (Int32 × (Nat → Int32) × (Nat → Nat → Int32)) :=
  kkt7 (v23, F24, R25)
def m5_script_J260 (v8 : Int32) (F46 : (Nat → Int32)) (R47 : (Nat → Nat → Int32)) (v49 : Int32) : Option (Int32 × (Nat → Int32) × (Nat → Nat → Int32)) :=
  some ((v8 + v49), F46, R47)
def m5_script_J240 (v8 : Int32) (v45 : Int32) (F46 : (Nat → Int32)) (R47 : (Nat → Nat → Int32)) : Option (Int32 × (Nat → Int32) × (Nat → Nat → Int32)) :=
  (if 0 ≤ v45 then
  some (1 : Int32)
  else
  if v45 = (-9 : Int32) then
  some (1 : Int32)
  else
  some (0 : Int32)).bind fun v49 => m5_script_J260 v8 F46 R47 v49
def m5_script_J196 (v8 : Int32) (v18 : Int32) (v31 : Int32) (v32 : Int32) (F40 : (Nat → Int32)) (R41 : (Nat → Nat → Int32)) (v42 : Int32) : Option (Int32 × (Nat → Int32) × (Nat → Nat → Int32)) :=
  if v42 = 0 then
  some (v8, F40, R41)
  else
  (if v18 = 0 then
  (m5_start F40 R41 v31).bind fun ⟨v66, F64, R65⟩ =>
  some (v66, F64, R65)
  else
  if v18 = (1 : Int32) then
  (m5_end F40 R41 v31).bind fun ⟨v62, F60, R61⟩ =>
  some (v62, F60, R61)
  else
  (m5_hand F40 R41 v31 v32).bind fun ⟨v58, F56, R57⟩ =>
  some (v58, F56, R57)).bind fun ⟨v45, F46, R47⟩ => m5_script_J240 v8 v45 F46 R47
def m5_script_J164 (a1 : Int32) (v8 : Int32) (v18 : Int32) (v31 : Int32) (v32 : Int32) (F33 : (Nat → Int32)) (R34 : (Nat → Nat → Int32)) : Option (Int32 × (Nat → Int32) × (Nat → Nat → Int32)) :=
  (m5_expect F33 R34 (59 : Int32)).bind fun ⟨F37, R38⟩ =>
  (m5_skip F37 R38).bind fun ⟨F40, R41⟩ =>
  (if a1 = 0 then
  some (0 : Int32)
  else
  (m5_isError F40 R41 v18 v31 v32).bind fun v69 =>
  if v69 = 0 then
  some (1 : Int32)
  else
  some (0 : Int32)).bind fun v42 => m5_script_J196 v8 v18 v31 v32 F40 R41 v42
def m5_script_J162  (v75 : Int32) (F76 : (Nat → Int32)) (R77 : (Nat → Nat → Int32)) : Option (Int32 × (Nat → Int32) × (Nat → Nat → Int32)) :=
  some (v75, F76, R77)
def m5_script_J106 (a1 : Int32) (kkt7 : (Int32 × (Nat → Int32) × (Nat → Nat → Int32)) → Option (Int32 × (Nat → Int32) × (Nat → Nat → Int32))) (v8 : Int32) (F9 : (Nat → Int32)) (R10 : (Nat → Nat → Int32)) (v18 : Int32) (v20 : Int32) : Option (Int32 × (Nat → Int32) × (Nat → Nat → Int32)) :=
  if v20 &&& 1 = v20 then
  (if ((va_up F9 10 v20) 10) = 0 then
  (m5_number (va_up (va_up F9 10 v20) 9 (((va_up F9 10 v20) 9) + (1 : Int32))) R10).bind fun ⟨v31, F29, R30⟩ =>
  (if v18 = (2 : Int32) then
  (m5_expect F29 R30 (44 : Int32)).bind fun ⟨F73, R74⟩ =>
  (if (F73 10) = 0 then
  (m5_number F73 R74).bind fun ⟨v83, F81, R82⟩ =>
  some (v83, F81, R82)
  else
  some ((0 : Int32), F73, R74)).bind fun ⟨v75, F76, R77⟩ => m5_script_J162 v75 F76 R77
  else
  some ((0 : Int32), F29, R30)).bind fun ⟨v32, F33, R34⟩ => m5_script_J164 a1 v8 v18 v31 v32 F33 R34
  else
  some (v8, (va_up F9 10 v20), R10)).bind fun ⟨v23, F24, R25⟩ => m5_script_J262 kkt7 v23 F24 R25 else none
def m5_script_J91 (a1 : Int32) (kkt7 : (Int32 × (Nat → Int32) × (Nat → Nat → Int32)) → Option (Int32 × (Nat → Int32) × (Nat → Nat → Int32))) (v8 : Int32) (F9 : (Nat → Int32)) (R10 : (Nat → Nat → Int32)) (v18 : Int32) : Option (Int32 × (Nat → Int32) × (Nat → Nat → Int32)) :=
  (if v18 = (-9 : Int32) then
  some (1 : Int32)
  else
  some (0 : Int32)).bind fun v20 => m5_script_J106 a1 kkt7 v8 F9 R10 v18 v20
def m5_script_L36 (a1 : Int32) (kkt7 : (Int32 × (Nat → Int32) × (Nat → Nat → Int32)) → Option (Int32 × (Nat → Int32) × (Nat → Nat → Int32))) (t0 : (Int32 × (Nat → Int32) × (Nat → Nat → Int32))) : Option (Int32 × (Nat → Int32) × (Nat → Nat → Int32)) :=
  if (t0.2.1 10) = 0 then
  if (t0.2.1 6) ≤ (t0.2.1 9) then
  some (t0.1, t0.2.1, t0.2.2)
  else
  (m5_here t0.2.1 t0.2.2).bind fun v17 =>
  (if v17 = (115 : Int32) then
  some (0 : Int32)
  else
  if v17 = (101 : Int32) then
  some (1 : Int32)
  else
  if v17 = (104 : Int32) then
  some (2 : Int32)
  else
  some (-9 : Int32)).bind fun v18 => m5_script_J91 a1 kkt7 t0.1 t0.2.1 t0.2.2 v18
  else
  some (t0.1, t0.2.1, t0.2.2)
def m5_script_J33 (a1 : Int32) (F2 : (Nat → Int32)) (R3 : (Nat → Nat → Int32)) (v4 : Int32) : Option (Int32 × (Nat → Int32) × (Nat → Nat → Int32)) :=
  if v4 &&& 1 = v4 then
  (wh (m5_script_L36 a1) 2000 ((0 : Int32), (va_up F2 10 v4), R3)).bind fun ⟨v11, F12, R13⟩ => m5_script_X265 v11 F12 R13 else none
def m5_script (F : (Nat → Int32)) (R : (Nat → Nat → Int32)) (a1 : Int32) : Option (Int32 × (Nat → Int32) × (Nat → Nat → Int32)) :=
  (m5_skip (va_up (va_up F 9 (0 : Int32)) 10 (0 : Int32)) R).bind fun ⟨F2, R3⟩ =>
  (if (F2 9) = (F2 6) then
  some (1 : Int32)
  else
  some (0 : Int32)).bind fun v4 => m5_script_J33 a1 F2 R3 v4
abbrev rm_X5_script : Room := { frames := 7, cells := 0, slots := 0, locals := 167 }
set_option maxHeartbeats 4000000 in
set_option maxRecDepth 100000 in
theorem c_X5_script (l : Launch) (D : va_G) (y : Nat → ClassId) (A : Nat → Nat) (F : (Nat → Int32)) (R : (Nat → Nat → Int32)) (a1 : Int32) (rr9 : Int32) (FF9 : (Nat → Int32)) (RR9 : (Nat → Nat → Int32)) (sz : Nat) (hI : aj_s 7 A) (hm : m5_script F R a1 = some (rr9, FF9, RR9)) : Met l yX5_script (wy_s yX5_script cX5_script 9 (some .int)) rm_X5_script (pc_R D y [.ref (A 0), .int a1] (fun H => H.size = sz ∧ va_P D vwCl (w5_s y A F R) H)) (qc_W (some (.int rr9)) (fun H => va_P D vwCl (w5_s y A FF9 RR9) H) (rg_s 7 A sz)) 0 0 (rg_s 7 A sz) := by
  refine met_W (by decide) (Nat.le_of_ble_eq_true rfl) ?_
  intro p e s m args below meth c X hnm h0 ls hl
  obtain ⟨hsz, hP⟩ := h0
  subst hsz
  have hA := ap_of (sz := s.heap.size) hI
  have hS : va_S (rg_s 7 A s.heap.size) s.heap s.heap [] := va_S.rf
  replace hl : lv_has ls 9 [(0, .ref (A 0)), (1, .int a1)] := hl
  replace X : cx p s m args meth c cX5_script 9 (some .int) RX5 D y := X
  unfold m5_script at hm
  refine lv_aload_n (cx_x X) (cx_b X) dX5_script_0 rfl (lv_at hl 0 rfl) ?_
  refine lv_iconst (v := (0 : Int32)) (cx_x X) (cx_b X) dX5_script_1 (by decide) ?_
  refine pf_X5_144 X hP hA hS dX5_script_2 (fun H locs hP hS => ?_)
  refine lv_aload_n (cx_x X) (cx_b X) dX5_script_5 rfl (lv_at hl 0 rfl) ?_
  refine lv_iconst (v := (0 : Int32)) (cx_x X) (cx_b X) dX5_script_6 (by decide) ?_
  refine pf_X5_153 X (by decide) hP hA hS dX5_script_7 (fun H locs hP hS => ?_)
  refine lv_iconst (v := (0 : Int32)) (cx_x X) (cx_b X) dX5_script_10 (by decide) ?_
  refine lv_istore_n (lv' := [(2, .int (0 : Int32)), (0, .ref (A 0)), (1, .int a1)]) (cx_x X) (cx_b X) dX5_script_11 rfl hl (by decide) rfl (fun ls hl => ?_)
  refine lv_aload_n (cx_x X) (cx_b X) dX5_script_12 rfl (lv_at hl 1 rfl) ?_
  obtain ⟨⟨F2, R3⟩, h1, hm⟩ := bnd hm
  try dsimp only at hm
  refine af_W (mc := 0) (ms := 0) (rn_V (As := []) (rest := []) X (c_X5_skip l D y A (va_up (va_up F 9 (0 : Int32)) 10 (0 : Int32)) R F2 R3 _ hI h1) vq_X5_150 ⟨rfl, rfl⟩ ⟨Nat.le_of_ble_eq_true rfl, Nat.le_of_ble_eq_true rfl⟩ (rec_5 X hP) ⟨rfl, hP⟩ rfl hl.1 rfl (Nat.le_of_ble_eq_true rfl) dX5_script_13 ⟨Nat.le_of_ble_eq_true rfl, Nat.le_of_ble_eq_true rfl⟩) hS (rg_up hS.1) (fun H locs hP _ _ hS => ?_)
  refine lv_aload_n (cx_x X) (cx_b X) dX5_script_16 rfl (lv_at hl 1 rfl) ?_
  refine lv_aload_n (cx_x X) (cx_b X) dX5_script_17 rfl (lv_at hl 1 rfl) ?_
  refine gf_X5_144 X hP dX5_script_18 ?_
  refine lv_aload_n (cx_x X) (cx_b X) dX5_script_21 rfl (lv_at hl 1 rfl) ?_
  refine gf_X5_141 X hP dX5_script_22 ?_
  obtain ⟨qt5, hm, hmt5⟩ := bnd hm
  have Jt5 : ∀ (v4 : Int32) , m5_script_J33 a1 F2 R3 v4 = some (rr9, FF9, RR9) → ∀ (H : Heap) (locs : List Loc), va_P D vwCl (w5_s y A F2 R3) H → va_S (rg_s 7 A s.heap.size) s.heap H locs → ∀ ls, lv_has ls 9 [(0, .ref (A 0)), (1, .int a1), (2, .int (0 : Int32))] → gw p l e rm_X5_script s m args below meth c (some (.int rr9)) (fun H => va_P D vwCl (w5_s y A FF9 RR9) H) (rg_s 7 A s.heap.size) 0 0 H locs (F0 m 33 ls [.int v4, .ref (A 0)]) := by
    intro v4 hm H locs hP hS ls hl
    unfold m5_script_J33 at hm
    obtain ⟨h6, hm⟩ := ck_E hm
    refine pf_X5_153 X h6 hP hA hS dX5_script_33 (fun H locs hP hS => ?_)
    obtain ⟨qt7, hm, hmt7⟩ := bnd hm
    have Xt7 : ∀ (v11 : Int32) (F12 : (Nat → Int32)) (R13 : (Nat → Nat → Int32)) , m5_script_X265 v11 F12 R13 = some (rr9, FF9, RR9) → ∀ (H : Heap) (locs : List Loc), va_P D vwCl (w5_s y A F12 R13) H → va_S (rg_s 7 A s.heap.size) s.heap H locs → ∀ ls, lv_has ls 9 [(2, .int v11)] → gw p l e rm_X5_script s m args below meth c (some (.int rr9)) (fun H => va_P D vwCl (w5_s y A FF9 RR9) H) (rg_s 7 A s.heap.size) 0 0 H locs (F0 m 265 ls []) := by
      intro v11 F12 R13 hm H locs hP hS ls hl
      unfold m5_script_X265 at hm
      refine lv_iload_n (cx_x X) (cx_b X) dX5_script_265 rfl (lv_at hl 0 rfl) ?_
      obtain ⟨rfl, rfl, rfl⟩ := oc_3 hm
      exact gw_i X hS hP dX5_script_266
    have Lt7 : ∀ (n : Nat) (v8 : Int32) (F9 : (Nat → Int32)) (R10 : (Nat → Nat → Int32)) , wh (m5_script_L36 a1) n (v8, F9, R10) = some qt7 → ∀ (H : Heap) (locs : List Loc), va_P D vwCl (w5_s y A F9 R10) H → va_S (rg_s 7 A s.heap.size) s.heap H locs → ∀ ls, lv_has ls 9 [(0, .ref (A 0)), (1, .int a1), (2, .int v8)] → gw p l e rm_X5_script s m args below meth c (some (.int rr9)) (fun H => va_P D vwCl (w5_s y A FF9 RR9) H) (rg_s 7 A s.heap.size) 0 0 H locs (F0 m 36 ls []) := by
      intro n
      induction n with
      | zero => intro v8 F9 R10 hm; cases hm
      | succ n ih =>
        intro v8 F9 R10 hm H locs hP hS ls hl
        replace hm : (m5_script_L36 a1) (wh (m5_script_L36 a1) n) (v8, F9, R10) = some qt7 := hm
        dsimp only [m5_script_L36] at hm
        refine lv_aload_n (cx_x X) (cx_b X) dX5_script_36 rfl (lv_at hl 0 rfl) ?_
        refine gf_X5_153 X hP dX5_script_37 ?_
        refine lv_if_ne (tgt := 265) (cx_x X) (cx_b X) dX5_script_40 (by decide) (fun c14 => ?_) (fun c14 => ?_)
        · replace hm := if_F c14 hm
          exact Xt7 _ _ _ (by cases hm; exact hmt7) _ _ hP hS _ (lv_sub hl [2] rfl)
        · replace hm := if_T c14 hm
          refine lv_aload_n (cx_x X) (cx_b X) dX5_script_43 rfl (lv_at hl 0 rfl) ?_
          refine gf_X5_144 X hP dX5_script_44 ?_
          refine lv_aload_n (cx_x X) (cx_b X) dX5_script_47 rfl (lv_at hl 0 rfl) ?_
          refine gf_X5_141 X hP dX5_script_48 ?_
          refine lv_icmp_ge (tgt := 265) (cx_x X) (cx_b X) dX5_script_51 (by decide) (fun c15 => ?_) (fun c15 => ?_)
          · replace hm := if_T c15 hm
            exact Xt7 _ _ _ (by cases hm; exact hmt7) _ _ hP hS _ (lv_sub hl [2] rfl)
          · replace hm := if_F c15 hm
            refine lv_aload_n (cx_x X) (cx_b X) dX5_script_54 rfl (lv_at hl 0 rfl) ?_
            obtain ⟨v17, h16, hm⟩ := bnd hm
            refine af_R (rn_V (As := []) (rest := []) X (c_X5_here l D y A F9 R10  _ h16) vq_X5_147 ⟨rfl, rfl⟩ ⟨Nat.le_of_ble_eq_true rfl, Nat.le_of_ble_eq_true rfl⟩ (rec_5 X hP) hP rfl hl.1 rfl (Nat.le_of_ble_eq_true rfl) dX5_script_55 ⟨Nat.le_of_ble_eq_true rfl, Nat.le_of_ble_eq_true rfl⟩) ?_
            refine lv_istore_n (lv' := [(3, .int v17), (0, .ref (A 0)), (1, .int a1), (2, .int v8)]) (cx_x X) (cx_b X) dX5_script_58 rfl hl (by decide) rfl (fun ls hl => ?_)
            refine lv_iload_n (cx_x X) (cx_b X) dX5_script_59 rfl (lv_at hl 0 rfl) ?_
            refine lv_bipush (v := (115 : Int32)) (cx_x X) (cx_b X) dX5_script_60 (by decide) ?_
            obtain ⟨qt19, hm, hmt19⟩ := bnd hm
            have Jt19 : ∀ (v18 : Int32) , m5_script_J91 a1 (wh (m5_script_L36 a1) n) v8 F9 R10 v18 = some qt7 → ∀ (H : Heap) (locs : List Loc), va_P D vwCl (w5_s y A F9 R10) H → va_S (rg_s 7 A s.heap.size) s.heap H locs → ∀ ls, lv_has ls 9 [(0, .ref (A 0)), (1, .int a1), (2, .int v8)] → gw p l e rm_X5_script s m args below meth c (some (.int rr9)) (fun H => va_P D vwCl (w5_s y A FF9 RR9) H) (rg_s 7 A s.heap.size) 0 0 H locs (F0 m 91 ls [.int v18]) := by
              intro v18 hm H locs hP hS ls hl
              unfold m5_script_J91 at hm
              refine lv_istore (lv' := [(4, .int v18), (0, .ref (A 0)), (1, .int a1), (2, .int v8)]) (cx_x X) (cx_b X) dX5_script_91 hl (by decide) rfl (fun ls hl => ?_)
              refine lv_aload_n (cx_x X) (cx_b X) dX5_script_93 rfl (lv_at hl 1 rfl) ?_
              refine lv_iload (cx_x X) (cx_b X) dX5_script_94 (lv_at hl 0 rfl) ?_
              refine lv_bipush (v := (-9 : Int32)) (cx_x X) (cx_b X) dX5_script_96 (by decide) ?_
              obtain ⟨qt21, hm, hmt21⟩ := bnd hm
              have Jt21 : ∀ (v20 : Int32) , m5_script_J106 a1 (wh (m5_script_L36 a1) n) v8 F9 R10 v18 v20 = some qt7 → ∀ (H : Heap) (locs : List Loc), va_P D vwCl (w5_s y A F9 R10) H → va_S (rg_s 7 A s.heap.size) s.heap H locs → ∀ ls, lv_has ls 9 [(0, .ref (A 0)), (1, .int a1), (2, .int v8), (4, .int v18)] → gw p l e rm_X5_script s m args below meth c (some (.int rr9)) (fun H => va_P D vwCl (w5_s y A FF9 RR9) H) (rg_s 7 A s.heap.size) 0 0 H locs (F0 m 106 ls [.int v20, .ref (A 0)]) := by
                intro v20 hm H locs hP hS ls hl
                unfold m5_script_J106 at hm
                obtain ⟨h22, hm⟩ := ck_E hm
                refine pf_X5_153 X h22 hP hA hS dX5_script_106 (fun H locs hP hS => ?_)
                refine lv_aload_n (cx_x X) (cx_b X) dX5_script_109 rfl (lv_at hl 0 rfl) ?_
                refine gf_X5_153 X hP dX5_script_110 ?_
                obtain ⟨qt26, hm, hmt26⟩ := bnd hm
                have Jt26 : ∀ (v23 : Int32) (F24 : (Nat → Int32)) (R25 : (Nat → Nat → Int32)) , m5_script_J262 (wh (m5_script_L36 a1) n) v23 F24 R25 = some qt7 → ∀ (H : Heap) (locs : List Loc), va_P D vwCl (w5_s y A F24 R25) H → va_S (rg_s 7 A s.heap.size) s.heap H locs → ∀ ls, lv_has ls 9 [(0, .ref (A 0)), (1, .int a1), (2, .int v23)] → gw p l e rm_X5_script s m args below meth c (some (.int rr9)) (fun H => va_P D vwCl (w5_s y A FF9 RR9) H) (rg_s 7 A s.heap.size) 0 0 H locs (F0 m 262 ls []) := by
                  intro v23 F24 R25 hm H locs hP hS ls hl
                  unfold m5_script_J262 at hm
                  refine lv_goto (tgt := 36) (cx_x X) (cx_b X) dX5_script_262 (by decide) ?_
                  exact ih _ _ _ hm _ _ hP hS _ (lv_sub hl [0, 1, 2] rfl)
                refine lv_if_ne (tgt := 262) (cx_x X) (cx_b X) dX5_script_113 (by decide) (fun c27 => ?_) (fun c27 => ?_)
                · replace hm := if_F c27 hm
                  exact Jt26 _ _ _ (by cases hm; exact hmt26) _ _ hP hS _ (lv_sub hl [0, 1, 2] rfl)
                · replace hm := if_T c27 hm
                  refine lv_aload_n (cx_x X) (cx_b X) dX5_script_116 rfl (lv_at hl 0 rfl) ?_
                  refine lv_dup (cx_x X) (cx_b X) dX5_script_117 rfl ?_
                  refine gf_X5_144 X hP dX5_script_118 ?_
                  refine lv_iconst (v := (1 : Int32)) (cx_x X) (cx_b X) dX5_script_121 (by decide) ?_
                  refine lv_iadd (cx_x X) (cx_b X) dX5_script_122 ?_
                  refine pf_X5_144 X hP hA hS dX5_script_123 (fun H locs hP hS => ?_)
                  refine lv_aload_n (cx_x X) (cx_b X) dX5_script_126 rfl (lv_at hl 0 rfl) ?_
                  obtain ⟨⟨v31, F29, R30⟩, h28, hm⟩ := bnd hm
                  try dsimp only at hm
                  refine af_W (mc := 0) (ms := 0) (rn_V (As := []) (rest := []) X (c_X5_number l D y A (va_up (va_up F9 10 v20) 9 (((va_up F9 10 v20) 9) + (1 : Int32))) R10 v31 F29 R30 _ hI h28) vq_X5_157 ⟨rfl, rfl⟩ ⟨Nat.le_of_ble_eq_true rfl, Nat.le_of_ble_eq_true rfl⟩ (rec_5 X hP) ⟨rfl, hP⟩ rfl hl.1 rfl (Nat.le_of_ble_eq_true rfl) dX5_script_127 ⟨Nat.le_of_ble_eq_true rfl, Nat.le_of_ble_eq_true rfl⟩) hS (rg_up hS.1) (fun H locs hP _ _ hS => ?_)
                  refine lv_istore (lv' := [(5, .int v31), (0, .ref (A 0)), (1, .int a1), (2, .int v8), (4, .int v18)]) (cx_x X) (cx_b X) dX5_script_130 hl (by decide) rfl (fun ls hl => ?_)
                  refine lv_iconst (v := (0 : Int32)) (cx_x X) (cx_b X) dX5_script_132 (by decide) ?_
                  refine lv_istore (lv' := [(6, .int (0 : Int32)), (5, .int v31), (0, .ref (A 0)), (1, .int a1), (2, .int v8), (4, .int v18)]) (cx_x X) (cx_b X) dX5_script_133 hl (by decide) rfl (fun ls hl => ?_)
                  refine lv_iload (cx_x X) (cx_b X) dX5_script_135 (lv_at hl 5 rfl) ?_
                  refine lv_iconst (v := (2 : Int32)) (cx_x X) (cx_b X) dX5_script_137 (by decide) ?_
                  obtain ⟨qt35, hm, hmt35⟩ := bnd hm
                  have Jt35 : ∀ (v32 : Int32) (F33 : (Nat → Int32)) (R34 : (Nat → Nat → Int32)) , m5_script_J164 a1 v8 v18 v31 v32 F33 R34 = some qt26 → ∀ (H : Heap) (locs : List Loc), va_P D vwCl (w5_s y A F33 R34) H → va_S (rg_s 7 A s.heap.size) s.heap H locs → ∀ ls, lv_has ls 9 [(0, .ref (A 0)), (1, .int a1), (2, .int v8), (4, .int v18), (5, .int v31), (6, .int v32)] → gw p l e rm_X5_script s m args below meth c (some (.int rr9)) (fun H => va_P D vwCl (w5_s y A FF9 RR9) H) (rg_s 7 A s.heap.size) 0 0 H locs (F0 m 164 ls []) := by
                    intro v32 F33 R34 hm H locs hP hS ls hl
                    unfold m5_script_J164 at hm
                    refine lv_aload_n (cx_x X) (cx_b X) dX5_script_164 rfl (lv_at hl 0 rfl) ?_
                    refine lv_bipush (v := (59 : Int32)) (cx_x X) (cx_b X) dX5_script_165 (by decide) ?_
                    obtain ⟨⟨F37, R38⟩, h36, hm⟩ := bnd hm
                    try dsimp only at hm
                    refine af_W (mc := 0) (ms := 0) (rn_V (As := [.int (59 : Int32)]) (rest := []) X (c_X5_expect l D y A F33 R34 (59 : Int32) F37 R38 _ hI h36) vq_X5_160 ⟨rfl, rfl⟩ ⟨Nat.le_of_ble_eq_true rfl, Nat.le_of_ble_eq_true rfl⟩ (rec_5 X hP) ⟨rfl, hP⟩ rfl hl.1 rfl (Nat.le_of_ble_eq_true rfl) dX5_script_167 ⟨Nat.le_of_ble_eq_true rfl, Nat.le_of_ble_eq_true rfl⟩) hS (rg_up hS.1) (fun H locs hP _ _ hS => ?_)
                    refine lv_aload_n (cx_x X) (cx_b X) dX5_script_170 rfl (lv_at hl 0 rfl) ?_
                    obtain ⟨⟨F40, R41⟩, h39, hm⟩ := bnd hm
                    try dsimp only at hm
                    refine af_W (mc := 0) (ms := 0) (rn_V (As := []) (rest := []) X (c_X5_skip l D y A F37 R38 F40 R41 _ hI h39) vq_X5_150 ⟨rfl, rfl⟩ ⟨Nat.le_of_ble_eq_true rfl, Nat.le_of_ble_eq_true rfl⟩ (rec_5 X hP) ⟨rfl, hP⟩ rfl hl.1 rfl (Nat.le_of_ble_eq_true rfl) dX5_script_171 ⟨Nat.le_of_ble_eq_true rfl, Nat.le_of_ble_eq_true rfl⟩) hS (rg_up hS.1) (fun H locs hP _ _ hS => ?_)
                    refine lv_iload_n (cx_x X) (cx_b X) dX5_script_174 rfl (lv_at hl 1 rfl) ?_
                    obtain ⟨qt43, hm, hmt43⟩ := bnd hm
                    have Jt43 : ∀ (v42 : Int32) , m5_script_J196 v8 v18 v31 v32 F40 R41 v42 = some qt26 → ∀ (H : Heap) (locs : List Loc), va_P D vwCl (w5_s y A F40 R41) H → va_S (rg_s 7 A s.heap.size) s.heap H locs → ∀ ls, lv_has ls 9 [(0, .ref (A 0)), (1, .int a1), (2, .int v8), (4, .int v18), (5, .int v31), (6, .int v32)] → gw p l e rm_X5_script s m args below meth c (some (.int rr9)) (fun H => va_P D vwCl (w5_s y A FF9 RR9) H) (rg_s 7 A s.heap.size) 0 0 H locs (F0 m 196 ls [.int v42]) := by
                      intro v42 hm H locs hP hS ls hl
                      unfold m5_script_J196 at hm
                      refine lv_istore (lv' := [(7, .int v42), (0, .ref (A 0)), (1, .int a1), (2, .int v8), (4, .int v18), (5, .int v31), (6, .int v32)]) (cx_x X) (cx_b X) dX5_script_196 hl (by decide) rfl (fun ls hl => ?_)
                      refine lv_iload (cx_x X) (cx_b X) dX5_script_198 (lv_at hl 0 rfl) ?_
                      refine lv_if_eq (tgt := 262) (cx_x X) (cx_b X) dX5_script_200 (by decide) (fun c44 => ?_) (fun c44 => ?_)
                      · replace hm := if_T c44 hm
                        exact Jt26 _ _ _ (by cases hm; exact hmt26) _ _ hP hS _ (lv_sub hl [1, 2, 3] rfl)
                      · replace hm := if_F c44 hm
                        refine lv_iload (cx_x X) (cx_b X) dX5_script_203 (lv_at hl 4 rfl) ?_
                        obtain ⟨qt48, hm, hmt48⟩ := bnd hm
                        have Jt48 : ∀ (v45 : Int32) (F46 : (Nat → Int32)) (R47 : (Nat → Nat → Int32)) , m5_script_J240 v8 v45 F46 R47 = some qt26 → ∀ (H : Heap) (locs : List Loc), va_P D vwCl (w5_s y A F46 R47) H → va_S (rg_s 7 A s.heap.size) s.heap H locs → ∀ ls, lv_has ls 9 [(0, .ref (A 0)), (1, .int a1), (2, .int v8)] → gw p l e rm_X5_script s m args below meth c (some (.int rr9)) (fun H => va_P D vwCl (w5_s y A FF9 RR9) H) (rg_s 7 A s.heap.size) 0 0 H locs (F0 m 240 ls [.int v45]) := by
                          intro v45 F46 R47 hm H locs hP hS ls hl
                          unfold m5_script_J240 at hm
                          refine lv_istore (lv' := [(8, .int v45), (0, .ref (A 0)), (1, .int a1), (2, .int v8)]) (cx_x X) (cx_b X) dX5_script_240 hl (by decide) rfl (fun ls hl => ?_)
                          refine lv_iload_n (cx_x X) (cx_b X) dX5_script_242 rfl (lv_at hl 3 rfl) ?_
                          refine lv_iload (cx_x X) (cx_b X) dX5_script_243 (lv_at hl 0 rfl) ?_
                          obtain ⟨qt50, hm, hmt50⟩ := bnd hm
                          have Jt50 : ∀ (v49 : Int32) , m5_script_J260 v8 F46 R47 v49 = some qt26 → ∀ (H : Heap) (locs : List Loc), va_P D vwCl (w5_s y A F46 R47) H → va_S (rg_s 7 A s.heap.size) s.heap H locs → ∀ ls, lv_has ls 9 [(0, .ref (A 0)), (1, .int a1)] → gw p l e rm_X5_script s m args below meth c (some (.int rr9)) (fun H => va_P D vwCl (w5_s y A FF9 RR9) H) (rg_s 7 A s.heap.size) 0 0 H locs (F0 m 260 ls [.int v49, .int v8]) := by
                            intro v49 hm H locs hP hS ls hl
                            unfold m5_script_J260 at hm
                            refine lv_iadd (cx_x X) (cx_b X) dX5_script_260 ?_
                            refine lv_istore_n (lv' := [(2, .int (v8 + v49)), (0, .ref (A 0)), (1, .int a1)]) (cx_x X) (cx_b X) dX5_script_261 rfl hl (by decide) rfl (fun ls hl => ?_)
                            exact Jt26 _ _ _ (by cases hm; exact hmt26) _ _ hP hS _ (lv_sub hl [1, 2, 0] rfl)
                          refine lv_if_ge (tgt := 255) (cx_x X) (cx_b X) dX5_script_245 (by decide) (fun c51 => ?_) (fun c51 => ?_)
                          · replace hm := if_T c51 hm
                            refine lv_iconst (v := (1 : Int32)) (cx_x X) (cx_b X) dX5_script_255 (by decide) ?_
                            refine lv_goto (tgt := 260) (cx_x X) (cx_b X) dX5_script_256 (by decide) ?_
                            exact Jt50 _ (by cases hm; exact hmt50) _ _ hP hS _ (lv_sub hl [1, 2] rfl)
                          · replace hm := if_F c51 hm
                            refine lv_iload (cx_x X) (cx_b X) dX5_script_248 (lv_at hl 0 rfl) ?_
                            refine lv_bipush (v := (-9 : Int32)) (cx_x X) (cx_b X) dX5_script_250 (by decide) ?_
                            refine lv_icmp_ne (tgt := 259) (cx_x X) (cx_b X) dX5_script_252 (by decide) (fun c52 => ?_) (fun c52 => ?_)
                            · replace hm := if_F c52 hm
                              refine lv_iconst (v := (0 : Int32)) (cx_x X) (cx_b X) dX5_script_259 (by decide) ?_
                              exact Jt50 _ (by cases hm; exact hmt50) _ _ hP hS _ (lv_sub hl [1, 2] rfl)
                            · replace hm := if_T c52 hm
                              refine lv_iconst (v := (1 : Int32)) (cx_x X) (cx_b X) dX5_script_255 (by decide) ?_
                              refine lv_goto (tgt := 260) (cx_x X) (cx_b X) dX5_script_256 (by decide) ?_
                              exact Jt50 _ (by cases hm; exact hmt50) _ _ hP hS _ (lv_sub hl [1, 2] rfl)
                        refine lv_if_ne (tgt := 217) (cx_x X) (cx_b X) dX5_script_205 (by decide) (fun c53 => ?_) (fun c53 => ?_)
                        · replace hm := if_F c53 hm
                          refine lv_iload (cx_x X) (cx_b X) dX5_script_217 (lv_at hl 4 rfl) ?_
                          refine lv_iconst (v := (1 : Int32)) (cx_x X) (cx_b X) dX5_script_219 (by decide) ?_
                          refine lv_icmp_ne (tgt := 232) (cx_x X) (cx_b X) dX5_script_220 (by decide) (fun c54 => ?_) (fun c54 => ?_)
                          · replace hm := if_F c54 hm
                            refine lv_aload_n (cx_x X) (cx_b X) dX5_script_232 rfl (lv_at hl 1 rfl) ?_
                            refine lv_iload (cx_x X) (cx_b X) dX5_script_233 (lv_at hl 5 rfl) ?_
                            refine lv_iload (cx_x X) (cx_b X) dX5_script_235 (lv_at hl 6 rfl) ?_
                            obtain ⟨⟨v58, F56, R57⟩, h55, hm⟩ := bnd hm
                            try dsimp only at hm
                            refine af_W (mc := 0) (ms := 0) (rn_V (As := [.int v31, .int v32]) (rest := []) X (c_X5_hand l D y A F40 R41 v31 v32 v58 F56 R57 _ hI h55) vq_X5_116 ⟨rfl, rfl⟩ ⟨Nat.le_of_ble_eq_true rfl, Nat.le_of_ble_eq_true rfl⟩ (rec_5 X hP) ⟨rfl, hP⟩ rfl hl.1 rfl (Nat.le_of_ble_eq_true rfl) dX5_script_237 ⟨Nat.le_of_ble_eq_true rfl, Nat.le_of_ble_eq_true rfl⟩) hS (rg_up hS.1) (fun H locs hP _ _ hS => ?_)
                            exact Jt48 _ _ _ (by cases hm; exact hmt48) _ _ hP hS _ (lv_sub hl [1, 2, 3] rfl)
                          · replace hm := if_T c54 hm
                            refine lv_aload_n (cx_x X) (cx_b X) dX5_script_223 rfl (lv_at hl 1 rfl) ?_
                            refine lv_iload (cx_x X) (cx_b X) dX5_script_224 (lv_at hl 5 rfl) ?_
                            obtain ⟨⟨v62, F60, R61⟩, h59, hm⟩ := bnd hm
                            try dsimp only at hm
                            refine af_W (mc := 0) (ms := 0) (rn_V (As := [.int v31]) (rest := []) X (c_X5_end l D y A F40 R41 v31 v62 F60 R61 _ hI h59) vq_X5_113 ⟨rfl, rfl⟩ ⟨Nat.le_of_ble_eq_true rfl, Nat.le_of_ble_eq_true rfl⟩ (rec_5 X hP) ⟨rfl, hP⟩ rfl hl.1 rfl (Nat.le_of_ble_eq_true rfl) dX5_script_226 ⟨Nat.le_of_ble_eq_true rfl, Nat.le_of_ble_eq_true rfl⟩) hS (rg_up hS.1) (fun H locs hP _ _ hS => ?_)
                            refine lv_goto (tgt := 240) (cx_x X) (cx_b X) dX5_script_229 (by decide) ?_
                            exact Jt48 _ _ _ (by cases hm; exact hmt48) _ _ hP hS _ (lv_sub hl [1, 2, 3] rfl)
                        · replace hm := if_T c53 hm
                          refine lv_aload_n (cx_x X) (cx_b X) dX5_script_208 rfl (lv_at hl 1 rfl) ?_
                          refine lv_iload (cx_x X) (cx_b X) dX5_script_209 (lv_at hl 5 rfl) ?_
                          obtain ⟨⟨v66, F64, R65⟩, h63, hm⟩ := bnd hm
                          try dsimp only at hm
                          refine af_W (mc := 0) (ms := 0) (rn_V (As := [.int v31]) (rest := []) X (c_X5_start l D y A F40 R41 v31 v66 F64 R65 _ hI h63) vq_X5_110 ⟨rfl, rfl⟩ ⟨Nat.le_of_ble_eq_true rfl, Nat.le_of_ble_eq_true rfl⟩ (rec_5 X hP) ⟨rfl, hP⟩ rfl hl.1 rfl (Nat.le_of_ble_eq_true rfl) dX5_script_211 ⟨Nat.le_of_ble_eq_true rfl, Nat.le_of_ble_eq_true rfl⟩) hS (rg_up hS.1) (fun H locs hP _ _ hS => ?_)
                          refine lv_goto (tgt := 240) (cx_x X) (cx_b X) dX5_script_214 (by decide) ?_
                          exact Jt48 _ _ _ (by cases hm; exact hmt48) _ _ hP hS _ (lv_sub hl [1, 2, 3] rfl)
                    refine lv_if_eq (tgt := 195) (cx_x X) (cx_b X) dX5_script_175 (by decide) (fun c67 => ?_) (fun c67 => ?_)
                    · replace hm := if_T c67 hm
                      refine lv_iconst (v := (0 : Int32)) (cx_x X) (cx_b X) dX5_script_195 (by decide) ?_
                      exact Jt43 _ (by cases hm; exact hmt43) _ _ hP hS _ (lv_sub hl [0, 1, 2, 3, 4, 5] rfl)
                    · replace hm := if_F c67 hm
                      refine lv_aload_n (cx_x X) (cx_b X) dX5_script_178 rfl (lv_at hl 0 rfl) ?_
                      refine lv_iload (cx_x X) (cx_b X) dX5_script_179 (lv_at hl 3 rfl) ?_
                      refine lv_iload (cx_x X) (cx_b X) dX5_script_181 (lv_at hl 4 rfl) ?_
                      refine lv_iload (cx_x X) (cx_b X) dX5_script_183 (lv_at hl 5 rfl) ?_
                      obtain ⟨v69, h68, hm⟩ := bnd hm
                      refine af_R (rn_V (As := [.int v18, .int v31, .int v32]) (rest := []) X (c_X5_isError l D y A F40 R41 v18 v31 v32  _ h68) vq_X5_125 ⟨rfl, rfl⟩ ⟨Nat.le_of_ble_eq_true rfl, Nat.le_of_ble_eq_true rfl⟩ (rec_5 X hP) hP rfl hl.1 rfl (Nat.le_of_ble_eq_true rfl) dX5_script_185 ⟨Nat.le_of_ble_eq_true rfl, Nat.le_of_ble_eq_true rfl⟩) ?_
                      refine lv_if_ne (tgt := 195) (cx_x X) (cx_b X) dX5_script_188 (by decide) (fun c70 => ?_) (fun c70 => ?_)
                      · replace hm := if_F c70 hm
                        refine lv_iconst (v := (0 : Int32)) (cx_x X) (cx_b X) dX5_script_195 (by decide) ?_
                        exact Jt43 _ (by cases hm; exact hmt43) _ _ hP hS _ (lv_sub hl [0, 1, 2, 3, 4, 5] rfl)
                      · replace hm := if_T c70 hm
                        refine lv_iconst (v := (1 : Int32)) (cx_x X) (cx_b X) dX5_script_191 (by decide) ?_
                        refine lv_goto (tgt := 196) (cx_x X) (cx_b X) dX5_script_192 (by decide) ?_
                        exact Jt43 _ (by cases hm; exact hmt43) _ _ hP hS _ (lv_sub hl [0, 1, 2, 3, 4, 5] rfl)
                  refine lv_icmp_ne (tgt := 164) (cx_x X) (cx_b X) dX5_script_138 (by decide) (fun c71 => ?_) (fun c71 => ?_)
                  · replace hm := if_F c71 hm
                    exact Jt35 _ _ _ (by cases hm; exact hmt35) _ _ hP hS _ (lv_sub hl [2, 3, 4, 5, 1, 0] rfl)
                  · replace hm := if_T c71 hm
                    refine lv_aload_n (cx_x X) (cx_b X) dX5_script_141 rfl (lv_at hl 2 rfl) ?_
                    refine lv_bipush (v := (44 : Int32)) (cx_x X) (cx_b X) dX5_script_142 (by decide) ?_
                    obtain ⟨⟨F73, R74⟩, h72, hm⟩ := bnd hm
                    try dsimp only at hm
                    refine af_W (mc := 0) (ms := 0) (rn_V (As := [.int (44 : Int32)]) (rest := []) X (c_X5_expect l D y A F29 R30 (44 : Int32) F73 R74 _ hI h72) vq_X5_160 ⟨rfl, rfl⟩ ⟨Nat.le_of_ble_eq_true rfl, Nat.le_of_ble_eq_true rfl⟩ (rec_5 X hP) ⟨rfl, hP⟩ rfl hl.1 rfl (Nat.le_of_ble_eq_true rfl) dX5_script_144 ⟨Nat.le_of_ble_eq_true rfl, Nat.le_of_ble_eq_true rfl⟩) hS (rg_up hS.1) (fun H locs hP _ _ hS => ?_)
                    refine lv_aload_n (cx_x X) (cx_b X) dX5_script_147 rfl (lv_at hl 2 rfl) ?_
                    refine gf_X5_153 X hP dX5_script_148 ?_
                    obtain ⟨qt78, hm, hmt78⟩ := bnd hm
                    have Jt78 : ∀ (v75 : Int32) (F76 : (Nat → Int32)) (R77 : (Nat → Nat → Int32)) , m5_script_J162 v75 F76 R77 = some qt35 → ∀ (H : Heap) (locs : List Loc), va_P D vwCl (w5_s y A F76 R77) H → va_S (rg_s 7 A s.heap.size) s.heap H locs → ∀ ls, lv_has ls 9 [(0, .ref (A 0)), (1, .int a1), (2, .int v8), (4, .int v18), (5, .int v31)] → gw p l e rm_X5_script s m args below meth c (some (.int rr9)) (fun H => va_P D vwCl (w5_s y A FF9 RR9) H) (rg_s 7 A s.heap.size) 0 0 H locs (F0 m 162 ls [.int v75]) := by
                      intro v75 F76 R77 hm H locs hP hS ls hl
                      unfold m5_script_J162 at hm
                      refine lv_istore (lv' := [(6, .int v75), (0, .ref (A 0)), (1, .int a1), (2, .int v8), (4, .int v18), (5, .int v31)]) (cx_x X) (cx_b X) dX5_script_162 hl (by decide) rfl (fun ls hl => ?_)
                      exact Jt35 _ _ _ (by cases hm; exact hmt35) _ _ hP hS _ (lv_sub hl [1, 2, 3, 4, 5, 0] rfl)
                    refine lv_if_eq (tgt := 158) (cx_x X) (cx_b X) dX5_script_151 (by decide) (fun c79 => ?_) (fun c79 => ?_)
                    · replace hm := if_T c79 hm
                      refine lv_aload_n (cx_x X) (cx_b X) dX5_script_158 rfl (lv_at hl 2 rfl) ?_
                      obtain ⟨⟨v83, F81, R82⟩, h80, hm⟩ := bnd hm
                      try dsimp only at hm
                      refine af_W (mc := 0) (ms := 0) (rn_V (As := []) (rest := []) X (c_X5_number l D y A F73 R74 v83 F81 R82 _ hI h80) vq_X5_157 ⟨rfl, rfl⟩ ⟨Nat.le_of_ble_eq_true rfl, Nat.le_of_ble_eq_true rfl⟩ (rec_5 X hP) ⟨rfl, hP⟩ rfl hl.1 rfl (Nat.le_of_ble_eq_true rfl) dX5_script_159 ⟨Nat.le_of_ble_eq_true rfl, Nat.le_of_ble_eq_true rfl⟩) hS (rg_up hS.1) (fun H locs hP _ _ hS => ?_)
                      exact Jt78 _ _ _ (by cases hm; exact hmt78) _ _ hP hS _ (lv_sub hl [2, 3, 4, 5, 1] rfl)
                    · replace hm := if_F c79 hm
                      refine lv_iconst (v := (0 : Int32)) (cx_x X) (cx_b X) dX5_script_154 (by decide) ?_
                      refine lv_goto (tgt := 162) (cx_x X) (cx_b X) dX5_script_155 (by decide) ?_
                      exact Jt78 _ _ _ (by cases hm; exact hmt78) _ _ hP hS _ (lv_sub hl [2, 3, 4, 5, 1] rfl)
              refine lv_icmp_ne (tgt := 105) (cx_x X) (cx_b X) dX5_script_98 (by decide) (fun c84 => ?_) (fun c84 => ?_)
              · replace hm := if_F c84 hm
                refine lv_iconst (v := (0 : Int32)) (cx_x X) (cx_b X) dX5_script_105 (by decide) ?_
                exact Jt21 _ (by cases hm; exact hmt21) _ _ hP hS _ (lv_sub hl [1, 2, 3, 0] rfl)
              · replace hm := if_T c84 hm
                refine lv_iconst (v := (1 : Int32)) (cx_x X) (cx_b X) dX5_script_101 (by decide) ?_
                refine lv_goto (tgt := 106) (cx_x X) (cx_b X) dX5_script_102 (by decide) ?_
                exact Jt21 _ (by cases hm; exact hmt21) _ _ hP hS _ (lv_sub hl [1, 2, 3, 0] rfl)
            refine lv_icmp_ne (tgt := 69) (cx_x X) (cx_b X) dX5_script_62 (by decide) (fun c85 => ?_) (fun c85 => ?_)
            · replace hm := if_F c85 hm
              refine lv_iload_n (cx_x X) (cx_b X) dX5_script_69 rfl (lv_at hl 0 rfl) ?_
              refine lv_bipush (v := (101 : Int32)) (cx_x X) (cx_b X) dX5_script_70 (by decide) ?_
              refine lv_icmp_ne (tgt := 79) (cx_x X) (cx_b X) dX5_script_72 (by decide) (fun c86 => ?_) (fun c86 => ?_)
              · replace hm := if_F c86 hm
                refine lv_iload_n (cx_x X) (cx_b X) dX5_script_79 rfl (lv_at hl 0 rfl) ?_
                refine lv_bipush (v := (104 : Int32)) (cx_x X) (cx_b X) dX5_script_80 (by decide) ?_
                refine lv_icmp_ne (tgt := 89) (cx_x X) (cx_b X) dX5_script_82 (by decide) (fun c87 => ?_) (fun c87 => ?_)
                · replace hm := if_F c87 hm
                  refine lv_bipush (v := (-9 : Int32)) (cx_x X) (cx_b X) dX5_script_89 (by decide) ?_
                  exact Jt19 _ (by cases hm; exact hmt19) _ _ hP hS _ (lv_sub hl [1, 2, 3] rfl)
                · replace hm := if_T c87 hm
                  refine lv_iconst (v := (2 : Int32)) (cx_x X) (cx_b X) dX5_script_85 (by decide) ?_
                  refine lv_goto (tgt := 91) (cx_x X) (cx_b X) dX5_script_86 (by decide) ?_
                  exact Jt19 _ (by cases hm; exact hmt19) _ _ hP hS _ (lv_sub hl [1, 2, 3] rfl)
              · replace hm := if_T c86 hm
                refine lv_iconst (v := (1 : Int32)) (cx_x X) (cx_b X) dX5_script_75 (by decide) ?_
                refine lv_goto (tgt := 91) (cx_x X) (cx_b X) dX5_script_76 (by decide) ?_
                exact Jt19 _ (by cases hm; exact hmt19) _ _ hP hS _ (lv_sub hl [1, 2, 3] rfl)
            · replace hm := if_T c85 hm
              refine lv_iconst (v := (0 : Int32)) (cx_x X) (cx_b X) dX5_script_65 (by decide) ?_
              refine lv_goto (tgt := 91) (cx_x X) (cx_b X) dX5_script_66 (by decide) ?_
              exact Jt19 _ (by cases hm; exact hmt19) _ _ hP hS _ (lv_sub hl [1, 2, 3] rfl)
    exact Lt7 _ _ _ _ hm _ _ hP hS _ (lv_sub hl [0, 1, 2] rfl)
  refine lv_icmp_ne (tgt := 32) (cx_x X) (cx_b X) dX5_script_25 (by decide) (fun c88 => ?_) (fun c88 => ?_)
  · replace hm := if_F c88 hm
    refine lv_iconst (v := (0 : Int32)) (cx_x X) (cx_b X) dX5_script_32 (by decide) ?_
    exact Jt5 _ (by cases hm; exact hmt5) _ _ hP hS _ (lv_sub hl [1, 2, 0] rfl)
  · replace hm := if_T c88 hm
    refine lv_iconst (v := (1 : Int32)) (cx_x X) (cx_b X) dX5_script_28 (by decide) ?_
    refine lv_goto (tgt := 33) (cx_x X) (cx_b X) dX5_script_29 (by decide) ?_
    exact Jt5 _ (by cases hm; exact hmt5) _ _ hP hS _ (lv_sub hl [1, 2, 0] rfl)
/-! X5_runScript -/
def m5_runScript (F : (Nat → Int32)) (R : (Nat → Nat → Int32)) : Option (Int32 × (Nat → Int32) × (Nat → Nat → Int32)) :=
  (m5_script F R (0 : Int32)).bind fun ⟨v4, F2, R3⟩ =>
  if (F2 10) = 0 then
  (m5_note F2 R3).bind fun ⟨F7, R8⟩ =>
  (m5_script F7 R8 (1 : Int32)).bind fun ⟨v12, F10, R11⟩ =>
  some (v12, (va_up F10 6 (0 : Int32)), R11)
  else
  some (((-10 : Int32) - (F2 9)), F2, R3)
abbrev rm_X5_runScript : Room := { frames := 8, cells := 0, slots := 0, locals := 195 }
set_option maxHeartbeats 4000000 in
set_option maxRecDepth 100000 in
theorem c_X5_runScript (l : Launch) (D : va_G) (y : Nat → ClassId) (A : Nat → Nat) (F : (Nat → Int32)) (R : (Nat → Nat → Int32)) (rr9 : Int32) (FF9 : (Nat → Int32)) (RR9 : (Nat → Nat → Int32)) (sz : Nat) (hI : aj_s 7 A) (hm : m5_runScript F R = some (rr9, FF9, RR9)) : Met l yX5_runScript (wy_s yX5_runScript cX5_runScript 2 (some .int)) rm_X5_runScript (pc_R D y [.ref (A 0)] (fun H => H.size = sz ∧ va_P D vwCl (w5_s y A F R) H)) (qc_W (some (.int rr9)) (fun H => va_P D vwCl (w5_s y A FF9 RR9) H) (rg_s 7 A sz)) 0 0 (rg_s 7 A sz) := by
  refine met_W (by decide) (Nat.le_of_ble_eq_true rfl) ?_
  intro p e s m args below meth c X hnm h0 ls hl
  obtain ⟨hsz, hP⟩ := h0
  subst hsz
  have hA := ap_of (sz := s.heap.size) hI
  have hS : va_S (rg_s 7 A s.heap.size) s.heap s.heap [] := va_S.rf
  replace hl : lv_has ls 2 [(0, .ref (A 0))] := hl
  replace X : cx p s m args meth c cX5_runScript 2 (some .int) RX5 D y := X
  unfold m5_runScript at hm
  refine lv_aload_n (cx_x X) (cx_b X) dX5_runScript_0 rfl (lv_at hl 0 rfl) ?_
  refine lv_iconst (v := (0 : Int32)) (cx_x X) (cx_b X) dX5_runScript_1 (by decide) ?_
  obtain ⟨⟨v4, F2, R3⟩, h1, hm⟩ := bnd hm
  try dsimp only at hm
  refine af_W (mc := 0) (ms := 0) (rn_V (As := [.int (0 : Int32)]) (rest := []) X (c_X5_script l D y A F R (0 : Int32) v4 F2 R3 _ hI h1) vq_X5_163 ⟨rfl, rfl⟩ ⟨Nat.le_of_ble_eq_true rfl, Nat.le_of_ble_eq_true rfl⟩ (rec_5 X hP) ⟨rfl, hP⟩ rfl hl.1 rfl (Nat.le_of_ble_eq_true rfl) dX5_runScript_2 ⟨Nat.le_of_ble_eq_true rfl, Nat.le_of_ble_eq_true rfl⟩) hS (rg_up hS.1) (fun H locs hP _ _ hS => ?_)
  refine lv_istore_n (lv' := [(1, .int v4), (0, .ref (A 0))]) (cx_x X) (cx_b X) dX5_runScript_5 rfl hl (by decide) rfl (fun ls hl => ?_)
  refine lv_aload_n (cx_x X) (cx_b X) dX5_runScript_6 rfl (lv_at hl 1 rfl) ?_
  refine gf_X5_153 X hP dX5_runScript_7 ?_
  refine lv_if_eq (tgt := 21) (cx_x X) (cx_b X) dX5_runScript_10 (by decide) (fun c5 => ?_) (fun c5 => ?_)
  · replace hm := if_T c5 hm
    refine lv_aload_n (cx_x X) (cx_b X) dX5_runScript_21 rfl (lv_at hl 1 rfl) ?_
    obtain ⟨⟨F7, R8⟩, h6, hm⟩ := bnd hm
    try dsimp only at hm
    refine af_W (mc := 0) (ms := 0) (rn_V (As := []) (rest := []) X (c_X5_note l D y A F2 R3 F7 R8 _ hI h6) vq_X5_107 ⟨rfl, rfl⟩ ⟨Nat.le_of_ble_eq_true rfl, Nat.le_of_ble_eq_true rfl⟩ (rec_5 X hP) ⟨rfl, hP⟩ rfl hl.1 rfl (Nat.le_of_ble_eq_true rfl) dX5_runScript_22 ⟨Nat.le_of_ble_eq_true rfl, Nat.le_of_ble_eq_true rfl⟩) hS (rg_up hS.1) (fun H locs hP _ _ hS => ?_)
    refine lv_aload_n (cx_x X) (cx_b X) dX5_runScript_25 rfl (lv_at hl 1 rfl) ?_
    refine lv_iconst (v := (1 : Int32)) (cx_x X) (cx_b X) dX5_runScript_26 (by decide) ?_
    obtain ⟨⟨v12, F10, R11⟩, h9, hm⟩ := bnd hm
    try dsimp only at hm
    refine af_W (mc := 0) (ms := 0) (rn_V (As := [.int (1 : Int32)]) (rest := []) X (c_X5_script l D y A F7 R8 (1 : Int32) v12 F10 R11 _ hI h9) vq_X5_163 ⟨rfl, rfl⟩ ⟨Nat.le_of_ble_eq_true rfl, Nat.le_of_ble_eq_true rfl⟩ (rec_5 X hP) ⟨rfl, hP⟩ rfl hl.1 rfl (Nat.le_of_ble_eq_true rfl) dX5_runScript_27 ⟨Nat.le_of_ble_eq_true rfl, Nat.le_of_ble_eq_true rfl⟩) hS (rg_up hS.1) (fun H locs hP _ _ hS => ?_)
    refine lv_istore_n (lv' := [(1, .int v12), (0, .ref (A 0))]) (cx_x X) (cx_b X) dX5_runScript_30 rfl hl (by decide) rfl (fun ls hl => ?_)
    refine lv_aload_n (cx_x X) (cx_b X) dX5_runScript_31 rfl (lv_at hl 1 rfl) ?_
    refine lv_iconst (v := (0 : Int32)) (cx_x X) (cx_b X) dX5_runScript_32 (by decide) ?_
    refine pf_X5_141 X hP hA hS dX5_runScript_33 (fun H locs hP hS => ?_)
    refine lv_iload_n (cx_x X) (cx_b X) dX5_runScript_36 rfl (lv_at hl 0 rfl) ?_
    obtain ⟨rfl, rfl, rfl⟩ := oc_3 hm
    exact gw_i X hS hP dX5_runScript_37
  · replace hm := if_F c5 hm
    refine lv_bipush (v := (-10 : Int32)) (cx_x X) (cx_b X) dX5_runScript_13 (by decide) ?_
    refine lv_aload_n (cx_x X) (cx_b X) dX5_runScript_15 rfl (lv_at hl 1 rfl) ?_
    refine gf_X5_144 X hP dX5_runScript_16 ?_
    refine lv_isub (cx_x X) (cx_b X) dX5_runScript_19 ?_
    obtain ⟨rfl, rfl, rfl⟩ := oc_3 hm
    exact gw_i X hS hP dX5_runScript_20
