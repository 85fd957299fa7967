/-! does -/
def m4_does (c0 : Nat) (k : Nat) (U : (Nat → Int32)) (V : (Nat → Nat → Int32)) (N : (Nat → ns_T)) (a1 : Int32) : Option (Int32 × Nat × Nat × (Nat → Int32) × (Nat → Nat → Int32) × (Nat → ns_T)) :=
  (m4_cellCount (N 0).1 (N 0).2.1 (N 0).2.2.1 (N 0).2.2.2).bind fun v2 =>
  if (a1 &&& (15 : Int32)) = (0 : Int32) then
  if ((a1 >>> ((4 : Int32) &&& 31)) &&& (3 : Int32)) = 0 then
  (mj_low (a1 >>> ((6 : Int32) &&& 31)) (6 : Int32)).bind fun v15 =>
  (mj_low (a1 >>> ((9 : Int32) &&& 31)) (5 : Int32)).bind fun v17 =>
  (mj_low (a1 >>> ((13 : Int32) &&& 31)) (4 : Int32)).bind fun v19 =>
  (m4_configure c0 k U V N v15 ((1 : Int32) + v17) ((2 : Int32) + ((a1 >>> ((12 : Int32) &&& 31)) &&& (1 : Int32))) ((1 : Int32) + v19)).bind fun ⟨x21, c22, k23, U24, V25, N26⟩ =>
  some (x21, c22, k23, U24, V25, N26)
  else
  (mj_low (a1 >>> ((6 : Int32) &&& 31)) (4 : Int32)).bind fun v6 =>
  (m4_setStrategy c0 k U V N v6).bind fun ⟨x8, c9, k10, U11, V12, N13⟩ =>
  some (x8, c9, k10, U11, V12, N13)
  else if (a1 &&& (15 : Int32)) = (1 : Int32) then
  (mj_low (a1 >>> ((4 : Int32) &&& 31)) (5 : Int32)).bind fun v29 =>
  (m4_setReserve c0 k U V N v29).bind fun ⟨x31, c32, k33, U34, V35, N36⟩ =>
  some (x31, c32, k33, U34, V35, N36)
  else if (a1 &&& (15 : Int32)) = (2 : Int32) then
  (mj_low (a1 >>> ((4 : Int32) &&& 31)) (3 : Int32)).bind fun v39 =>
  (m4_setReturning c0 k U V N v39).bind fun ⟨x41, c42, k43, U44, V45, N46⟩ =>
  some (x41, c42, k43, U44, V45, N46)
  else if (a1 &&& (15 : Int32)) = (3 : Int32) then
  (mj_low (a1 >>> ((4 : Int32) &&& 31)) (24 : Int32)).bind fun v49 =>
  (m4_endCall c0 k U V N v49).bind fun ⟨x51, c52, k53, U54, V55, N56⟩ =>
  some (x51, c52, k53, U54, V55, N56)
  else if (a1 &&& (15 : Int32)) = (4 : Int32) then
  (mj_low (a1 >>> ((4 : Int32) &&& 31)) (24 : Int32)).bind fun v59 =>
  (m4_endCall c0 k U V N v59).bind fun ⟨x61, c62, k63, U64, V65, N66⟩ =>
  some (x61, c62, k63, U64, V65, N66)
  else if (a1 &&& (15 : Int32)) = (5 : Int32) then
  (mj_low (a1 >>> ((4 : Int32) &&& 31)) (24 : Int32)).bind fun v69 =>
  (mj_low (a1 >>> ((9 : Int32) &&& 31)) (v2 + (1 : Int32))).bind fun v71 =>
  (m4_handOver c0 k U V N v69 v71).bind fun ⟨x73, c74, k75, U76, V77, N78⟩ =>
  some (x73, c74, k75, U76, V77, N78)
  else if (a1 &&& (15 : Int32)) = (6 : Int32) then
  (mj_low (a1 >>> ((4 : Int32) &&& 31)) (24 : Int32)).bind fun v81 =>
  (mj_low (a1 >>> ((9 : Int32) &&& 31)) (v2 + (1 : Int32))).bind fun v83 =>
  (m4_handOver c0 k U V N v81 v83).bind fun ⟨x85, c86, k87, U88, V89, N90⟩ =>
  some (x85, c86, k87, U88, V89, N90)
  else if (a1 &&& (15 : Int32)) = (7 : Int32) then
  (mj_low (a1 >>> ((4 : Int32) &&& 31)) (24 : Int32)).bind fun v93 =>
  (mj_low (a1 >>> ((9 : Int32) &&& 31)) (v2 + (1 : Int32))).bind fun v95 =>
  (m4_handOver c0 k U V N v93 v95).bind fun ⟨x97, c98, k99, U100, V101, N102⟩ =>
  some (x97, c98, k99, U100, V101, N102)
  else (mj_low (a1 >>> ((4 : Int32) &&& 31)) (v2 + (1 : Int32))).bind fun v104 =>
  (m4_startCall c0 k U V N v104).bind fun ⟨x106, c107, k108, U109, V110, N111⟩ =>
  some (x106, c107, k108, U109, V110, N111)
abbrev rm_does : Room := { frames := 7, cells := 6, slots := 133, locals := 167 }
set_option maxHeartbeats 4000000 in
set_option maxRecDepth 100000 in
theorem c_does (l : Launch) (D : va_G) (y : Nat → ClassId) (P : Nat → Prop) (ad NB : Nat → Nat → Nat) (p0 : Nat → Bool) (c0 : Nat) (k : Nat) (U : (Nat → Int32)) (V : (Nat → Nat → Int32)) (N : (Nat → ns_T)) (a1 : Int32) (rr : Int32) (c1 k1 : Nat) (U1 : (Nat → Int32)) (V1 : (Nat → Nat → Int32)) (N1 : Nat → ns_T) (sz : Nat) (hm : m4_does c0 k U V N a1 = some (rr, c1, k1, U1, V1, N1)) : Met l yL_does (wy_s yL_does cL_does 3 (some .int)) rm_does (pc_R D y [.ref (ad 9 0), .int a1] (fun H => H.size = sz ∧ tp_e D y P ad NB p0 (hh_s c0 k) U V N H)) (qc_W (some (.int rr)) (fun H => ∃ ad1 NB1 : Nat → Nat → Nat, ad1 9 0 = ad 9 0 ∧ tp_e D y (pu_s P sz) ad1 NB1 p0 (hh_s c1 k1) U1 V1 N1 H) (pu_s P sz)) 6 133 (pu_s P sz) := by
  refine met_W (by decide) (Nat.le_of_ble_eq_true rfl) ?_
  intro p e s m args below meth c X hnm h0 ls hl
  obtain ⟨hsz, hP⟩ := h0
  subst hsz
  obtain ⟨PP, hPP⟩ : ∃ PP, PP = pu_s P s.heap.size := ⟨_, rfl⟩
  rw [← hPP]
  replace hP : tp_e D y PP ad NB p0 (hh_s c0 k) U V N s.heap := tp_mono hP (by rw [hPP]; exact fun q h => Or.inl h)
  have hS : va_S PP s.heap s.heap [] := va_S.rf
  replace hl : lv_has ls 3 [(0, .ref (ad 9 0)), (1, .int a1)] := hl
  replace X : cx p s m args meth c cL_does 3 (some .int) RL D y := X
  unfold m4_does at hm
  refine lv_aload_n (cx_x X) (cx_b X) dL_does_0 rfl (lv_at hl 0 rfl) ?_
  obtain ⟨v2, h1, hm⟩ := bnd hm
  refine af_R (rn_V (As := []) (rest := []) X (c_X4_cellCount l D y (ad 9 0) (ad 9 1) (ad 9 3) (ad 10 0) (ad 0) (NB 0) (N 0).1 (N 0).2.1 (N 0).2.2.1 (N 0).2.2.2  _ h1) vq_L_8 ⟨rfl, rfl⟩ ⟨Nat.le_of_ble_eq_true rfl, Nat.le_of_ble_eq_true rfl⟩ (rec_4 X (tp_w hP)) ⟨(tp_w hP), (tp_n hP pz_0), (tp_l hP pz_0)⟩ rfl hl.1 rfl (Nat.le_of_ble_eq_true rfl) dL_does_1 ⟨Nat.le_of_ble_eq_true rfl, Nat.le_of_ble_eq_true rfl⟩) ?_
  refine lv_istore_n (lv' := [(2, .int v2), (0, .ref (ad 9 0)), (1, .int a1)]) (cx_x X) (cx_b X) dL_does_4 rfl hl (by decide) rfl (fun ls hl => ?_)
  refine lv_iload_n (cx_x X) (cx_b X) dL_does_5 rfl (lv_at hl 2 rfl) ?_
  refine lv_bipush (v := (15 : Int32)) (cx_x X) (cx_b X) dL_does_6 (by decide) ?_
  refine lv_iand (cx_x X) (cx_b X) dL_does_8 ?_
  by_cases c3 : (a1 &&& (15 : Int32)) = (0 : Int32)
  · replace hm := if_T c3 hm
    refine lv_tableIn (off := 47) (tgt := 56) (cx_x X) (cx_b X) dL_does_9 (by rw [c3]; decide) (by rw [c3]; decide) (by rw [c3]; decide) (by decide) ?_
    refine lv_iload_n (cx_x X) (cx_b X) dL_does_56 rfl (lv_at hl 2 rfl) ?_
    refine lv_iconst (v := (4 : Int32)) (cx_x X) (cx_b X) dL_does_57 (by decide) ?_
    refine lv_ishr (cx_x X) (cx_b X) dL_does_58 ?_
    refine lv_iconst (v := (3 : Int32)) (cx_x X) (cx_b X) dL_does_59 (by decide) ?_
    refine lv_iand (cx_x X) (cx_b X) dL_does_60 ?_
    refine lv_if_ne (tgt := 108) (cx_x X) (cx_b X) dL_does_61 (by decide) (fun c4 => ?_) (fun c4 => ?_)
    · replace hm := if_F c4 hm
      refine lv_aload_n (cx_x X) (cx_b X) dL_does_108 rfl (lv_at hl 1 rfl) ?_
      refine lv_iload_n (cx_x X) (cx_b X) dL_does_109 rfl (lv_at hl 2 rfl) ?_
      refine lv_bipush (v := (6 : Int32)) (cx_x X) (cx_b X) dL_does_110 (by decide) ?_
      refine lv_ishr (cx_x X) (cx_b X) dL_does_112 ?_
      refine lv_iconst (v := (4 : Int32)) (cx_x X) (cx_b X) dL_does_113 (by decide) ?_
      obtain ⟨v6, h5, hm⟩ := bnd hm
      refine af_R (rn_S (As := [.int (a1 >>> ((6 : Int32) &&& 31)), .int (4 : Int32)]) (rest := [.ref (ad 9 0)]) X (c_L_low l D y (a1 >>> ((6 : Int32) &&& 31)) (4 : Int32)  _ h5) sq_L_84 ⟨rfl, rfl⟩ ⟨Nat.le_of_ble_eq_true rfl, Nat.le_of_ble_eq_true rfl⟩ trivial rfl hl.1 rfl (Nat.le_of_ble_eq_true rfl) dL_does_114 ⟨Nat.le_of_ble_eq_true rfl, Nat.le_of_ble_eq_true rfl⟩) ?_
      obtain ⟨⟨x8, c9, k10, U11, V12, N13⟩, h7, hm⟩ := bnd hm
      try dsimp only at hm
      refine af_W (mc := 0) (ms := 0) (rn_V (As := [.int v6]) (rest := []) X (c_X4_setStrategy l D y PP ad NB p0 c0 k U V N v6 x8 c9 k10 U11 V12 N13 _ h7) vq_L_94 ⟨rfl, rfl⟩ ⟨Nat.le_of_ble_eq_true rfl, Nat.le_of_ble_eq_true rfl⟩ (rec_4 X (tp_w hP)) ⟨rfl, hP⟩ rfl hl.1 rfl (Nat.le_of_ble_eq_true rfl) dL_does_117 ⟨Nat.le_of_ble_eq_true rfl, Nat.le_of_ble_eq_true rfl⟩) hS (pu_in hPP hS.1) (fun H1 locs1 hW _ _ hS1 => ?_)
      obtain ⟨NB1, hT⟩ := hW
      obtain ⟨rfl, rfl, rfl, rfl, rfl, rfl⟩ := oc_6 hm
      exact gx_i X (Nat.le_of_ble_eq_true rfl) (Nat.le_of_ble_eq_true rfl) hS1 ⟨ad, NB1, rfl, tp_mono hT (pu_in hPP hS.1)⟩ dL_does_120
    · replace hm := if_T c4 hm
      refine lv_aload_n (cx_x X) (cx_b X) dL_does_64 rfl (lv_at hl 1 rfl) ?_
      refine lv_iload_n (cx_x X) (cx_b X) dL_does_65 rfl (lv_at hl 2 rfl) ?_
      refine lv_bipush (v := (6 : Int32)) (cx_x X) (cx_b X) dL_does_66 (by decide) ?_
      refine lv_ishr (cx_x X) (cx_b X) dL_does_68 ?_
      refine lv_bipush (v := (6 : Int32)) (cx_x X) (cx_b X) dL_does_69 (by decide) ?_
      obtain ⟨v15, h14, hm⟩ := bnd hm
      refine af_R (rn_S (As := [.int (a1 >>> ((6 : Int32) &&& 31)), .int (6 : Int32)]) (rest := [.ref (ad 9 0)]) X (c_L_low l D y (a1 >>> ((6 : Int32) &&& 31)) (6 : Int32)  _ h14) sq_L_84 ⟨rfl, rfl⟩ ⟨Nat.le_of_ble_eq_true rfl, Nat.le_of_ble_eq_true rfl⟩ trivial rfl hl.1 rfl (Nat.le_of_ble_eq_true rfl) dL_does_71 ⟨Nat.le_of_ble_eq_true rfl, Nat.le_of_ble_eq_true rfl⟩) ?_
      refine lv_iconst (v := (1 : Int32)) (cx_x X) (cx_b X) dL_does_74 (by decide) ?_
      refine lv_iload_n (cx_x X) (cx_b X) dL_does_75 rfl (lv_at hl 2 rfl) ?_
      refine lv_bipush (v := (9 : Int32)) (cx_x X) (cx_b X) dL_does_76 (by decide) ?_
      refine lv_ishr (cx_x X) (cx_b X) dL_does_78 ?_
      refine lv_iconst (v := (5 : Int32)) (cx_x X) (cx_b X) dL_does_79 (by decide) ?_
      obtain ⟨v17, h16, hm⟩ := bnd hm
      refine af_R (rn_S (As := [.int (a1 >>> ((9 : Int32) &&& 31)), .int (5 : Int32)]) (rest := [.int (1 : Int32), .int v15, .ref (ad 9 0)]) X (c_L_low l D y (a1 >>> ((9 : Int32) &&& 31)) (5 : Int32)  _ h16) sq_L_84 ⟨rfl, rfl⟩ ⟨Nat.le_of_ble_eq_true rfl, Nat.le_of_ble_eq_true rfl⟩ trivial rfl hl.1 rfl (Nat.le_of_ble_eq_true rfl) dL_does_80 ⟨Nat.le_of_ble_eq_true rfl, Nat.le_of_ble_eq_true rfl⟩) ?_
      refine lv_iadd (cx_x X) (cx_b X) dL_does_83 ?_
      refine lv_iconst (v := (2 : Int32)) (cx_x X) (cx_b X) dL_does_84 (by decide) ?_
      refine lv_iload_n (cx_x X) (cx_b X) dL_does_85 rfl (lv_at hl 2 rfl) ?_
      refine lv_bipush (v := (12 : Int32)) (cx_x X) (cx_b X) dL_does_86 (by decide) ?_
      refine lv_ishr (cx_x X) (cx_b X) dL_does_88 ?_
      refine lv_iconst (v := (1 : Int32)) (cx_x X) (cx_b X) dL_does_89 (by decide) ?_
      refine lv_iand (cx_x X) (cx_b X) dL_does_90 ?_
      refine lv_iadd (cx_x X) (cx_b X) dL_does_91 ?_
      refine lv_iconst (v := (1 : Int32)) (cx_x X) (cx_b X) dL_does_92 (by decide) ?_
      refine lv_iload_n (cx_x X) (cx_b X) dL_does_93 rfl (lv_at hl 2 rfl) ?_
      refine lv_bipush (v := (13 : Int32)) (cx_x X) (cx_b X) dL_does_94 (by decide) ?_
      refine lv_ishr (cx_x X) (cx_b X) dL_does_96 ?_
      refine lv_iconst (v := (4 : Int32)) (cx_x X) (cx_b X) dL_does_97 (by decide) ?_
      obtain ⟨v19, h18, hm⟩ := bnd hm
      refine af_R (rn_S (As := [.int (a1 >>> ((13 : Int32) &&& 31)), .int (4 : Int32)]) (rest := [.int (1 : Int32), .int ((2 : Int32) + ((a1 >>> ((12 : Int32) &&& 31)) &&& (1 : Int32))), .int ((1 : Int32) + v17), .int v15, .ref (ad 9 0)]) X (c_L_low l D y (a1 >>> ((13 : Int32) &&& 31)) (4 : Int32)  _ h18) sq_L_84 ⟨rfl, rfl⟩ ⟨Nat.le_of_ble_eq_true rfl, Nat.le_of_ble_eq_true rfl⟩ trivial rfl hl.1 rfl (Nat.le_of_ble_eq_true rfl) dL_does_98 ⟨Nat.le_of_ble_eq_true rfl, Nat.le_of_ble_eq_true rfl⟩) ?_
      refine lv_iadd (cx_x X) (cx_b X) dL_does_101 ?_
      obtain ⟨⟨x21, c22, k23, U24, V25, N26⟩, h20, hm⟩ := bnd hm
      try dsimp only at hm
      refine af_W (mc := 6) (ms := 133) (rn_V (As := [.int v15, .int ((1 : Int32) + v17), .int ((2 : Int32) + ((a1 >>> ((12 : Int32) &&& 31)) &&& (1 : Int32))), .int ((1 : Int32) + v19)]) (rest := []) X (c_configure l D y PP ad NB p0 c0 k U V N v15 ((1 : Int32) + v17) ((2 : Int32) + ((a1 >>> ((12 : Int32) &&& 31)) &&& (1 : Int32))) ((1 : Int32) + v19) x21 c22 k23 U24 V25 N26 _ h20) vq_L_90 ⟨rfl, rfl⟩ ⟨Nat.le_of_ble_eq_true rfl, Nat.le_of_ble_eq_true rfl⟩ (rec_4 X (tp_w hP)) ⟨rfl, hP⟩ rfl hl.1 rfl (Nat.le_of_ble_eq_true rfl) dL_does_102 ⟨Nat.le_of_ble_eq_true rfl, Nat.le_of_ble_eq_true rfl⟩) hS (pu_in hPP hS.1) (fun H1 locs1 hW _ _ hS1 => ?_)
      obtain ⟨ad1, NB1, e9, hT⟩ := hW
      refine lv_goto (tgt := 120) (cx_x X) (cx_b X) dL_does_105 (by decide) ?_
      obtain ⟨rfl, rfl, rfl, rfl, rfl, rfl⟩ := oc_6 hm
      exact gx_i X (Nat.le_of_ble_eq_true rfl) (Nat.le_of_ble_eq_true rfl) hS1 ⟨ad1, NB1, e9, tp_mono hT (pu_in hPP hS.1)⟩ dL_does_120
  · replace hm := if_F c3 hm
    by_cases c27 : (a1 &&& (15 : Int32)) = (1 : Int32)
    · replace hm := if_T c27 hm
      refine lv_tableIn (off := 112) (tgt := 121) (cx_x X) (cx_b X) dL_does_9 (by rw [c27]; decide) (by rw [c27]; decide) (by rw [c27]; decide) (by decide) ?_
      refine lv_aload_n (cx_x X) (cx_b X) dL_does_121 rfl (lv_at hl 1 rfl) ?_
      refine lv_iload_n (cx_x X) (cx_b X) dL_does_122 rfl (lv_at hl 2 rfl) ?_
      refine lv_iconst (v := (4 : Int32)) (cx_x X) (cx_b X) dL_does_123 (by decide) ?_
      refine lv_ishr (cx_x X) (cx_b X) dL_does_124 ?_
      refine lv_iconst (v := (5 : Int32)) (cx_x X) (cx_b X) dL_does_125 (by decide) ?_
      obtain ⟨v29, h28, hm⟩ := bnd hm
      refine af_R (rn_S (As := [.int (a1 >>> ((4 : Int32) &&& 31)), .int (5 : Int32)]) (rest := [.ref (ad 9 0)]) X (c_L_low l D y (a1 >>> ((4 : Int32) &&& 31)) (5 : Int32)  _ h28) sq_L_84 ⟨rfl, rfl⟩ ⟨Nat.le_of_ble_eq_true rfl, Nat.le_of_ble_eq_true rfl⟩ trivial rfl hl.1 rfl (Nat.le_of_ble_eq_true rfl) dL_does_126 ⟨Nat.le_of_ble_eq_true rfl, Nat.le_of_ble_eq_true rfl⟩) ?_
      obtain ⟨⟨x31, c32, k33, U34, V35, N36⟩, h30, hm⟩ := bnd hm
      try dsimp only at hm
      refine af_W (mc := 0) (ms := 0) (rn_V (As := [.int v29]) (rest := []) X (c_X4_setReserve l D y PP ad NB p0 c0 k U V N v29 x31 c32 k33 U34 V35 N36 _ h30) vq_L_97 ⟨rfl, rfl⟩ ⟨Nat.le_of_ble_eq_true rfl, Nat.le_of_ble_eq_true rfl⟩ (rec_4 X (tp_w hP)) ⟨rfl, hP⟩ rfl hl.1 rfl (Nat.le_of_ble_eq_true rfl) dL_does_129 ⟨Nat.le_of_ble_eq_true rfl, Nat.le_of_ble_eq_true rfl⟩) hS (pu_in hPP hS.1) (fun H1 locs1 hW _ _ hS1 => ?_)
      obtain ⟨NB1, hT⟩ := hW
      obtain ⟨rfl, rfl, rfl, rfl, rfl, rfl⟩ := oc_6 hm
      exact gx_i X (Nat.le_of_ble_eq_true rfl) (Nat.le_of_ble_eq_true rfl) hS1 ⟨ad, NB1, rfl, tp_mono hT (pu_in hPP hS.1)⟩ dL_does_132
    · replace hm := if_F c27 hm
      by_cases c37 : (a1 &&& (15 : Int32)) = (2 : Int32)
      · replace hm := if_T c37 hm
        refine lv_tableIn (off := 124) (tgt := 133) (cx_x X) (cx_b X) dL_does_9 (by rw [c37]; decide) (by rw [c37]; decide) (by rw [c37]; decide) (by decide) ?_
        refine lv_aload_n (cx_x X) (cx_b X) dL_does_133 rfl (lv_at hl 1 rfl) ?_
        refine lv_iload_n (cx_x X) (cx_b X) dL_does_134 rfl (lv_at hl 2 rfl) ?_
        refine lv_iconst (v := (4 : Int32)) (cx_x X) (cx_b X) dL_does_135 (by decide) ?_
        refine lv_ishr (cx_x X) (cx_b X) dL_does_136 ?_
        refine lv_iconst (v := (3 : Int32)) (cx_x X) (cx_b X) dL_does_137 (by decide) ?_
        obtain ⟨v39, h38, hm⟩ := bnd hm
        refine af_R (rn_S (As := [.int (a1 >>> ((4 : Int32) &&& 31)), .int (3 : Int32)]) (rest := [.ref (ad 9 0)]) X (c_L_low l D y (a1 >>> ((4 : Int32) &&& 31)) (3 : Int32)  _ h38) sq_L_84 ⟨rfl, rfl⟩ ⟨Nat.le_of_ble_eq_true rfl, Nat.le_of_ble_eq_true rfl⟩ trivial rfl hl.1 rfl (Nat.le_of_ble_eq_true rfl) dL_does_138 ⟨Nat.le_of_ble_eq_true rfl, Nat.le_of_ble_eq_true rfl⟩) ?_
        obtain ⟨⟨x41, c42, k43, U44, V45, N46⟩, h40, hm⟩ := bnd hm
        try dsimp only at hm
        refine af_W (mc := 0) (ms := 0) (rn_V (As := [.int v39]) (rest := []) X (c_X4_setReturning l D y PP ad NB p0 c0 k U V N v39 x41 c42 k43 U44 V45 N46 _ h40) vq_L_100 ⟨rfl, rfl⟩ ⟨Nat.le_of_ble_eq_true rfl, Nat.le_of_ble_eq_true rfl⟩ (rec_4 X (tp_w hP)) ⟨rfl, hP⟩ rfl hl.1 rfl (Nat.le_of_ble_eq_true rfl) dL_does_141 ⟨Nat.le_of_ble_eq_true rfl, Nat.le_of_ble_eq_true rfl⟩) hS (pu_in hPP hS.1) (fun H1 locs1 hW _ _ hS1 => ?_)
        obtain ⟨NB1, hT⟩ := hW
        obtain ⟨rfl, rfl, rfl, rfl, rfl, rfl⟩ := oc_6 hm
        exact gx_i X (Nat.le_of_ble_eq_true rfl) (Nat.le_of_ble_eq_true rfl) hS1 ⟨ad, NB1, rfl, tp_mono hT (pu_in hPP hS.1)⟩ dL_does_144
      · replace hm := if_F c37 hm
        by_cases c47 : (a1 &&& (15 : Int32)) = (3 : Int32)
        · replace hm := if_T c47 hm
          refine lv_tableIn (off := 136) (tgt := 145) (cx_x X) (cx_b X) dL_does_9 (by rw [c47]; decide) (by rw [c47]; decide) (by rw [c47]; decide) (by decide) ?_
          refine lv_aload_n (cx_x X) (cx_b X) dL_does_145 rfl (lv_at hl 1 rfl) ?_
          refine lv_iload_n (cx_x X) (cx_b X) dL_does_146 rfl (lv_at hl 2 rfl) ?_
          refine lv_iconst (v := (4 : Int32)) (cx_x X) (cx_b X) dL_does_147 (by decide) ?_
          refine lv_ishr (cx_x X) (cx_b X) dL_does_148 ?_
          refine lv_bipush (v := (24 : Int32)) (cx_x X) (cx_b X) dL_does_149 (by decide) ?_
          obtain ⟨v49, h48, hm⟩ := bnd hm
          refine af_R (rn_S (As := [.int (a1 >>> ((4 : Int32) &&& 31)), .int (24 : Int32)]) (rest := [.ref (ad 9 0)]) X (c_L_low l D y (a1 >>> ((4 : Int32) &&& 31)) (24 : Int32)  _ h48) sq_L_84 ⟨rfl, rfl⟩ ⟨Nat.le_of_ble_eq_true rfl, Nat.le_of_ble_eq_true rfl⟩ trivial rfl hl.1 rfl (Nat.le_of_ble_eq_true rfl) dL_does_151 ⟨Nat.le_of_ble_eq_true rfl, Nat.le_of_ble_eq_true rfl⟩) ?_
          obtain ⟨⟨x51, c52, k53, U54, V55, N56⟩, h50, hm⟩ := bnd hm
          try dsimp only at hm
          refine af_W (mc := 0) (ms := 0) (rn_V (As := [.int v49]) (rest := []) X (c_X4_endCall l D y PP ad NB p0 c0 k U V N v49 x51 c52 k53 U54 V55 N56 _ h50) vq_L_103 ⟨rfl, rfl⟩ ⟨Nat.le_of_ble_eq_true rfl, Nat.le_of_ble_eq_true rfl⟩ (rec_4 X (tp_w hP)) ⟨rfl, hP⟩ rfl hl.1 rfl (Nat.le_of_ble_eq_true rfl) dL_does_154 ⟨Nat.le_of_ble_eq_true rfl, Nat.le_of_ble_eq_true rfl⟩) hS (pu_in hPP hS.1) (fun H1 locs1 hW _ _ hS1 => ?_)
          obtain ⟨NB1, hT⟩ := hW
          obtain ⟨rfl, rfl, rfl, rfl, rfl, rfl⟩ := oc_6 hm
          exact gx_i X (Nat.le_of_ble_eq_true rfl) (Nat.le_of_ble_eq_true rfl) hS1 ⟨ad, NB1, rfl, tp_mono hT (pu_in hPP hS.1)⟩ dL_does_157
        · replace hm := if_F c47 hm
          by_cases c57 : (a1 &&& (15 : Int32)) = (4 : Int32)
          · replace hm := if_T c57 hm
            refine lv_tableIn (off := 136) (tgt := 145) (cx_x X) (cx_b X) dL_does_9 (by rw [c57]; decide) (by rw [c57]; decide) (by rw [c57]; decide) (by decide) ?_
            refine lv_aload_n (cx_x X) (cx_b X) dL_does_145 rfl (lv_at hl 1 rfl) ?_
            refine lv_iload_n (cx_x X) (cx_b X) dL_does_146 rfl (lv_at hl 2 rfl) ?_
            refine lv_iconst (v := (4 : Int32)) (cx_x X) (cx_b X) dL_does_147 (by decide) ?_
            refine lv_ishr (cx_x X) (cx_b X) dL_does_148 ?_
            refine lv_bipush (v := (24 : Int32)) (cx_x X) (cx_b X) dL_does_149 (by decide) ?_
            obtain ⟨v59, h58, hm⟩ := bnd hm
            refine af_R (rn_S (As := [.int (a1 >>> ((4 : Int32) &&& 31)), .int (24 : Int32)]) (rest := [.ref (ad 9 0)]) X (c_L_low l D y (a1 >>> ((4 : Int32) &&& 31)) (24 : Int32)  _ h58) sq_L_84 ⟨rfl, rfl⟩ ⟨Nat.le_of_ble_eq_true rfl, Nat.le_of_ble_eq_true rfl⟩ trivial rfl hl.1 rfl (Nat.le_of_ble_eq_true rfl) dL_does_151 ⟨Nat.le_of_ble_eq_true rfl, Nat.le_of_ble_eq_true rfl⟩) ?_
            obtain ⟨⟨x61, c62, k63, U64, V65, N66⟩, h60, hm⟩ := bnd hm
            try dsimp only at hm
            refine af_W (mc := 0) (ms := 0) (rn_V (As := [.int v59]) (rest := []) X (c_X4_endCall l D y PP ad NB p0 c0 k U V N v59 x61 c62 k63 U64 V65 N66 _ h60) vq_L_103 ⟨rfl, rfl⟩ ⟨Nat.le_of_ble_eq_true rfl, Nat.le_of_ble_eq_true rfl⟩ (rec_4 X (tp_w hP)) ⟨rfl, hP⟩ rfl hl.1 rfl (Nat.le_of_ble_eq_true rfl) dL_does_154 ⟨Nat.le_of_ble_eq_true rfl, Nat.le_of_ble_eq_true rfl⟩) hS (pu_in hPP hS.1) (fun H1 locs1 hW _ _ hS1 => ?_)
            obtain ⟨NB1, hT⟩ := hW
            obtain ⟨rfl, rfl, rfl, rfl, rfl, rfl⟩ := oc_6 hm
            exact gx_i X (Nat.le_of_ble_eq_true rfl) (Nat.le_of_ble_eq_true rfl) hS1 ⟨ad, NB1, rfl, tp_mono hT (pu_in hPP hS.1)⟩ dL_does_157
          · replace hm := if_F c57 hm
            by_cases c67 : (a1 &&& (15 : Int32)) = (5 : Int32)
            · replace hm := if_T c67 hm
              refine lv_tableIn (off := 149) (tgt := 158) (cx_x X) (cx_b X) dL_does_9 (by rw [c67]; decide) (by rw [c67]; decide) (by rw [c67]; decide) (by decide) ?_
              refine lv_aload_n (cx_x X) (cx_b X) dL_does_158 rfl (lv_at hl 1 rfl) ?_
              refine lv_iload_n (cx_x X) (cx_b X) dL_does_159 rfl (lv_at hl 2 rfl) ?_
              refine lv_iconst (v := (4 : Int32)) (cx_x X) (cx_b X) dL_does_160 (by decide) ?_
              refine lv_ishr (cx_x X) (cx_b X) dL_does_161 ?_
              refine lv_bipush (v := (24 : Int32)) (cx_x X) (cx_b X) dL_does_162 (by decide) ?_
              obtain ⟨v69, h68, hm⟩ := bnd hm
              refine af_R (rn_S (As := [.int (a1 >>> ((4 : Int32) &&& 31)), .int (24 : Int32)]) (rest := [.ref (ad 9 0)]) X (c_L_low l D y (a1 >>> ((4 : Int32) &&& 31)) (24 : Int32)  _ h68) sq_L_84 ⟨rfl, rfl⟩ ⟨Nat.le_of_ble_eq_true rfl, Nat.le_of_ble_eq_true rfl⟩ trivial rfl hl.1 rfl (Nat.le_of_ble_eq_true rfl) dL_does_164 ⟨Nat.le_of_ble_eq_true rfl, Nat.le_of_ble_eq_true rfl⟩) ?_
              refine lv_iload_n (cx_x X) (cx_b X) dL_does_167 rfl (lv_at hl 2 rfl) ?_
              refine lv_bipush (v := (9 : Int32)) (cx_x X) (cx_b X) dL_does_168 (by decide) ?_
              refine lv_ishr (cx_x X) (cx_b X) dL_does_170 ?_
              refine lv_iload_n (cx_x X) (cx_b X) dL_does_171 rfl (lv_at hl 0 rfl) ?_
              refine lv_iconst (v := (1 : Int32)) (cx_x X) (cx_b X) dL_does_172 (by decide) ?_
              refine lv_iadd (cx_x X) (cx_b X) dL_does_173 ?_
              obtain ⟨v71, h70, hm⟩ := bnd hm
              refine af_R (rn_S (As := [.int (a1 >>> ((9 : Int32) &&& 31)), .int (v2 + (1 : Int32))]) (rest := [.int v69, .ref (ad 9 0)]) X (c_L_low l D y (a1 >>> ((9 : Int32) &&& 31)) (v2 + (1 : Int32))  _ h70) sq_L_84 ⟨rfl, rfl⟩ ⟨Nat.le_of_ble_eq_true rfl, Nat.le_of_ble_eq_true rfl⟩ trivial rfl hl.1 rfl (Nat.le_of_ble_eq_true rfl) dL_does_174 ⟨Nat.le_of_ble_eq_true rfl, Nat.le_of_ble_eq_true rfl⟩) ?_
              obtain ⟨⟨x73, c74, k75, U76, V77, N78⟩, h72, hm⟩ := bnd hm
              try dsimp only at hm
              refine af_W (mc := 0) (ms := 0) (rn_V (As := [.int v69, .int v71]) (rest := []) X (c_X4_handOver l D y PP ad NB p0 c0 k U V N v69 v71 x73 c74 k75 U76 V77 N78 _ h72) vq_L_106 ⟨rfl, rfl⟩ ⟨Nat.le_of_ble_eq_true rfl, Nat.le_of_ble_eq_true rfl⟩ (rec_4 X (tp_w hP)) ⟨rfl, hP⟩ rfl hl.1 rfl (Nat.le_of_ble_eq_true rfl) dL_does_177 ⟨Nat.le_of_ble_eq_true rfl, Nat.le_of_ble_eq_true rfl⟩) hS (pu_in hPP hS.1) (fun H1 locs1 hW _ _ hS1 => ?_)
              obtain ⟨NB1, hT⟩ := hW
              obtain ⟨rfl, rfl, rfl, rfl, rfl, rfl⟩ := oc_6 hm
              exact gx_i X (Nat.le_of_ble_eq_true rfl) (Nat.le_of_ble_eq_true rfl) hS1 ⟨ad, NB1, rfl, tp_mono hT (pu_in hPP hS.1)⟩ dL_does_180
            · replace hm := if_F c67 hm
              by_cases c79 : (a1 &&& (15 : Int32)) = (6 : Int32)
              · replace hm := if_T c79 hm
                refine lv_tableIn (off := 149) (tgt := 158) (cx_x X) (cx_b X) dL_does_9 (by rw [c79]; decide) (by rw [c79]; decide) (by rw [c79]; decide) (by decide) ?_
                refine lv_aload_n (cx_x X) (cx_b X) dL_does_158 rfl (lv_at hl 1 rfl) ?_
                refine lv_iload_n (cx_x X) (cx_b X) dL_does_159 rfl (lv_at hl 2 rfl) ?_
                refine lv_iconst (v := (4 : Int32)) (cx_x X) (cx_b X) dL_does_160 (by decide) ?_
                refine lv_ishr (cx_x X) (cx_b X) dL_does_161 ?_
                refine lv_bipush (v := (24 : Int32)) (cx_x X) (cx_b X) dL_does_162 (by decide) ?_
                obtain ⟨v81, h80, hm⟩ := bnd hm
                refine af_R (rn_S (As := [.int (a1 >>> ((4 : Int32) &&& 31)), .int (24 : Int32)]) (rest := [.ref (ad 9 0)]) X (c_L_low l D y (a1 >>> ((4 : Int32) &&& 31)) (24 : Int32)  _ h80) sq_L_84 ⟨rfl, rfl⟩ ⟨Nat.le_of_ble_eq_true rfl, Nat.le_of_ble_eq_true rfl⟩ trivial rfl hl.1 rfl (Nat.le_of_ble_eq_true rfl) dL_does_164 ⟨Nat.le_of_ble_eq_true rfl, Nat.le_of_ble_eq_true rfl⟩) ?_
                refine lv_iload_n (cx_x X) (cx_b X) dL_does_167 rfl (lv_at hl 2 rfl) ?_
                refine lv_bipush (v := (9 : Int32)) (cx_x X) (cx_b X) dL_does_168 (by decide) ?_
                refine lv_ishr (cx_x X) (cx_b X) dL_does_170 ?_
                refine lv_iload_n (cx_x X) (cx_b X) dL_does_171 rfl (lv_at hl 0 rfl) ?_
                refine lv_iconst (v := (1 : Int32)) (cx_x X) (cx_b X) dL_does_172 (by decide) ?_
                refine lv_iadd (cx_x X) (cx_b X) dL_does_173 ?_
                obtain ⟨v83, h82, hm⟩ := bnd hm
                refine af_R (rn_S (As := [.int (a1 >>> ((9 : Int32) &&& 31)), .int (v2 + (1 : Int32))]) (rest := [.int v81, .ref (ad 9 0)]) X (c_L_low l D y (a1 >>> ((9 : Int32) &&& 31)) (v2 + (1 : Int32))  _ h82) sq_L_84 ⟨rfl, rfl⟩ ⟨Nat.le_of_ble_eq_true rfl, Nat.le_of_ble_eq_true rfl⟩ trivial rfl hl.1 rfl (Nat.le_of_ble_eq_true rfl) dL_does_174 ⟨Nat.le_of_ble_eq_true rfl, Nat.le_of_ble_eq_true rfl⟩) ?_
                obtain ⟨⟨x85, c86, k87, U88, V89, N90⟩, h84, hm⟩ := bnd hm
                try dsimp only at hm
                refine af_W (mc := 0) (ms := 0) (rn_V (As := [.int v81, .int v83]) (rest := []) X (c_X4_handOver l D y PP ad NB p0 c0 k U V N v81 v83 x85 c86 k87 U88 V89 N90 _ h84) vq_L_106 ⟨rfl, rfl⟩ ⟨Nat.le_of_ble_eq_true rfl, Nat.le_of_ble_eq_true rfl⟩ (rec_4 X (tp_w hP)) ⟨rfl, hP⟩ rfl hl.1 rfl (Nat.le_of_ble_eq_true rfl) dL_does_177 ⟨Nat.le_of_ble_eq_true rfl, Nat.le_of_ble_eq_true rfl⟩) hS (pu_in hPP hS.1) (fun H1 locs1 hW _ _ hS1 => ?_)
                obtain ⟨NB1, hT⟩ := hW
                obtain ⟨rfl, rfl, rfl, rfl, rfl, rfl⟩ := oc_6 hm
                exact gx_i X (Nat.le_of_ble_eq_true rfl) (Nat.le_of_ble_eq_true rfl) hS1 ⟨ad, NB1, rfl, tp_mono hT (pu_in hPP hS.1)⟩ dL_does_180
              · replace hm := if_F c79 hm
                by_cases c91 : (a1 &&& (15 : Int32)) = (7 : Int32)
                · replace hm := if_T c91 hm
                  refine lv_tableIn (off := 149) (tgt := 158) (cx_x X) (cx_b X) dL_does_9 (by rw [c91]; decide) (by rw [c91]; decide) (by rw [c91]; decide) (by decide) ?_
                  refine lv_aload_n (cx_x X) (cx_b X) dL_does_158 rfl (lv_at hl 1 rfl) ?_
                  refine lv_iload_n (cx_x X) (cx_b X) dL_does_159 rfl (lv_at hl 2 rfl) ?_
                  refine lv_iconst (v := (4 : Int32)) (cx_x X) (cx_b X) dL_does_160 (by decide) ?_
                  refine lv_ishr (cx_x X) (cx_b X) dL_does_161 ?_
                  refine lv_bipush (v := (24 : Int32)) (cx_x X) (cx_b X) dL_does_162 (by decide) ?_
                  obtain ⟨v93, h92, hm⟩ := bnd hm
                  refine af_R (rn_S (As := [.int (a1 >>> ((4 : Int32) &&& 31)), .int (24 : Int32)]) (rest := [.ref (ad 9 0)]) X (c_L_low l D y (a1 >>> ((4 : Int32) &&& 31)) (24 : Int32)  _ h92) sq_L_84 ⟨rfl, rfl⟩ ⟨Nat.le_of_ble_eq_true rfl, Nat.le_of_ble_eq_true rfl⟩ trivial rfl hl.1 rfl (Nat.le_of_ble_eq_true rfl) dL_does_164 ⟨Nat.le_of_ble_eq_true rfl, Nat.le_of_ble_eq_true rfl⟩) ?_
                  refine lv_iload_n (cx_x X) (cx_b X) dL_does_167 rfl (lv_at hl 2 rfl) ?_
                  refine lv_bipush (v := (9 : Int32)) (cx_x X) (cx_b X) dL_does_168 (by decide) ?_
                  refine lv_ishr (cx_x X) (cx_b X) dL_does_170 ?_
                  refine lv_iload_n (cx_x X) (cx_b X) dL_does_171 rfl (lv_at hl 0 rfl) ?_
                  refine lv_iconst (v := (1 : Int32)) (cx_x X) (cx_b X) dL_does_172 (by decide) ?_
                  refine lv_iadd (cx_x X) (cx_b X) dL_does_173 ?_
                  obtain ⟨v95, h94, hm⟩ := bnd hm
                  refine af_R (rn_S (As := [.int (a1 >>> ((9 : Int32) &&& 31)), .int (v2 + (1 : Int32))]) (rest := [.int v93, .ref (ad 9 0)]) X (c_L_low l D y (a1 >>> ((9 : Int32) &&& 31)) (v2 + (1 : Int32))  _ h94) sq_L_84 ⟨rfl, rfl⟩ ⟨Nat.le_of_ble_eq_true rfl, Nat.le_of_ble_eq_true rfl⟩ trivial rfl hl.1 rfl (Nat.le_of_ble_eq_true rfl) dL_does_174 ⟨Nat.le_of_ble_eq_true rfl, Nat.le_of_ble_eq_true rfl⟩) ?_
                  obtain ⟨⟨x97, c98, k99, U100, V101, N102⟩, h96, hm⟩ := bnd hm
                  try dsimp only at hm
                  refine af_W (mc := 0) (ms := 0) (rn_V (As := [.int v93, .int v95]) (rest := []) X (c_X4_handOver l D y PP ad NB p0 c0 k U V N v93 v95 x97 c98 k99 U100 V101 N102 _ h96) vq_L_106 ⟨rfl, rfl⟩ ⟨Nat.le_of_ble_eq_true rfl, Nat.le_of_ble_eq_true rfl⟩ (rec_4 X (tp_w hP)) ⟨rfl, hP⟩ rfl hl.1 rfl (Nat.le_of_ble_eq_true rfl) dL_does_177 ⟨Nat.le_of_ble_eq_true rfl, Nat.le_of_ble_eq_true rfl⟩) hS (pu_in hPP hS.1) (fun H1 locs1 hW _ _ hS1 => ?_)
                  obtain ⟨NB1, hT⟩ := hW
                  obtain ⟨rfl, rfl, rfl, rfl, rfl, rfl⟩ := oc_6 hm
                  exact gx_i X (Nat.le_of_ble_eq_true rfl) (Nat.le_of_ble_eq_true rfl) hS1 ⟨ad, NB1, rfl, tp_mono hT (pu_in hPP hS.1)⟩ dL_does_180
                · replace hm := if_F c91 hm
                  refine lv_tableOut (tgt := 181) (cx_x X) (cx_b X) dL_does_9 (ts_out c3 c27 c37 c47 c57 c67 c79 c91) (by decide) ?_
                  refine lv_aload_n (cx_x X) (cx_b X) dL_does_181 rfl (lv_at hl 1 rfl) ?_
                  refine lv_iload_n (cx_x X) (cx_b X) dL_does_182 rfl (lv_at hl 2 rfl) ?_
                  refine lv_iconst (v := (4 : Int32)) (cx_x X) (cx_b X) dL_does_183 (by decide) ?_
                  refine lv_ishr (cx_x X) (cx_b X) dL_does_184 ?_
                  refine lv_iload_n (cx_x X) (cx_b X) dL_does_185 rfl (lv_at hl 0 rfl) ?_
                  refine lv_iconst (v := (1 : Int32)) (cx_x X) (cx_b X) dL_does_186 (by decide) ?_
                  refine lv_iadd (cx_x X) (cx_b X) dL_does_187 ?_
                  obtain ⟨v104, h103, hm⟩ := bnd hm
                  refine af_R (rn_S (As := [.int (a1 >>> ((4 : Int32) &&& 31)), .int (v2 + (1 : Int32))]) (rest := [.ref (ad 9 0)]) X (c_L_low l D y (a1 >>> ((4 : Int32) &&& 31)) (v2 + (1 : Int32))  _ h103) sq_L_84 ⟨rfl, rfl⟩ ⟨Nat.le_of_ble_eq_true rfl, Nat.le_of_ble_eq_true rfl⟩ trivial rfl hl.1 rfl (Nat.le_of_ble_eq_true rfl) dL_does_188 ⟨Nat.le_of_ble_eq_true rfl, Nat.le_of_ble_eq_true rfl⟩) ?_
                  obtain ⟨⟨x106, c107, k108, U109, V110, N111⟩, h105, hm⟩ := bnd hm
                  try dsimp only at hm
                  refine af_W (mc := 0) (ms := 0) (rn_V (As := [.int v104]) (rest := []) X (c_X4_startCall l D y PP ad NB p0 c0 k U V N v104 x106 c107 k108 U109 V110 N111 _ h105) vq_L_109 ⟨rfl, rfl⟩ ⟨Nat.le_of_ble_eq_true rfl, Nat.le_of_ble_eq_true rfl⟩ (rec_4 X (tp_w hP)) ⟨rfl, hP⟩ rfl hl.1 rfl (Nat.le_of_ble_eq_true rfl) dL_does_191 ⟨Nat.le_of_ble_eq_true rfl, Nat.le_of_ble_eq_true rfl⟩) hS (pu_in hPP hS.1) (fun H1 locs1 hW _ _ hS1 => ?_)
                  obtain ⟨NB1, hT⟩ := hW
                  obtain ⟨rfl, rfl, rfl, rfl, rfl, rfl⟩ := oc_6 hm
                  exact gx_i X (Nat.le_of_ble_eq_true rfl) (Nat.le_of_ble_eq_true rfl) hS1 ⟨ad, NB1, rfl, tp_mono hT (pu_in hPP hS.1)⟩ dL_does_194
