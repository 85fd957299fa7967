/-! THE LAW'S OWN METHODS -/
abbrev qc_L (x : Int64) : Array Value → State → Outcome → State → Prop := vp_Sl (fun z => z = x)
section LK
variable {p : Program} {l : Launch} {e : Env} {R : Room} {s : State} {m : MethodId} {args : Array Value} {below : List Frame} {meth : Method} {c : Code} {H : Heap} {locs : List Loc} {cells slots : Nat} {Q : State → Prop}
variable {cc : ByteArray} {nL pc : Nat} {ret : Option FieldType} {own : String} {D : va_G} {y : Nat → ClassId} {ls : Array Slot} {rest st0 : List Value}
theorem lv_eql {x x' : Int64} (h : x' = x) (k : W p l e R s m args below meth c H locs cells slots Q (F0 m pc ls (.long x' :: rest))) : W p l e R s m args below meth c H locs cells slots Q (F0 m pc ls (.long x :: rest)) := h ▸ k
abbrev grl (p : Program) (l : Launch) (e : Env) (R : Room) (s : State) (m : MethodId) (args : Array Value) (below : List Frame) (meth : Method) (c : Code) (x : Int64) (g : JFrame) : Prop :=
  W p l e R s m args below meth c s.heap [] 0 0 (MQ below (qc_L x) args s 0 0 (fun _ => False)) g
theorem gr_l {v x : Int64} (X : cx p s m args meth c cc nL (some .long) own D y) (h : some v = some x) (hdg : decode cc pc = .ok (.lreturn, 1)) : grl p l e R s m args below meth c x (F0 m pc ls [.long v]) :=
  W.lret (cx_x X) (cx_b X) (cx_r X) (fun _ ht _ => ⟨v, rfl, Option.some.inj h, by rw [ht]⟩) (fun _ h => by cases h) hdg (cx_l X)
theorem af_L {x : Int64} {arr : Array Value} (h : va_Run p l e R s m args below meth c H locs cells slots 0 0 (F0 m pc ls st0) rest (qc_L x arr) (fun _ => False))
    (kk : W p l e R s m args below meth c H locs cells slots Q (F0 m (pc + 3) ls (.long x :: rest))) : W p l e R s m args below meth c H locs cells slots Q (F0 m pc ls st0) :=
  vp_callSl h.run (fun r e => by subst e; exact kk)
end LK
theorem met_L {l : Launch} {z : MethodName} {b : ByteArray} {n : Nat} {ret : Option FieldType} {rm : Room} {D : va_G} {y : Nat → ClassId} {av : List Value} {PH : Heap → Prop} {x : Int64} (hz : plainName z.cls = true) (hn : (lg_sl av).length ≤ n)
    (h : ∀ (p : Program) (e : Env) (s : State) (m : MethodId) (args : Array Value) (below : List Frame) (meth : Method) (c : Code), cx p s m args meth c b n ret z.cls D y → PH s.heap → ∀ ls, lv_has ls n (lv_args 0 av) → grl p l e rm s m args below meth c x (F0 m 0 ls [])) :
    Met l z (wy_s z b n ret) rm (pc_R D y av PH) (qc_L x) 0 0 (fun _ => False) := by
  refine Met.ofW (cc := b) (maxL := n) (ret := ret) hz rfl ?_
  intro p e s m args below meth c s₁ B hml hv
  obtain ⟨rfl, hP, hK⟩ := hv
  have hts := atoms_spec (ws := wy_s z b n ret) B.pre
  have hl := lv_entry av (n := n) hn
  rw [lg_entry_eq]
  exact h p e s m _ below meth c ⟨B.exec, B.bytes, hml, findClass_of_methodNamed B.named, fun w hw => hts w (List.mem_cons_of_mem _ hw), hK, B.returns, B.notSynchronized⟩ hP _ hl
theorem ts_out {x : Int32} (h0 : ¬ x = 0) (h1 : ¬ x = 1) (h2 : ¬ x = 2) (h3 : ¬ x = 3) (h4 : ¬ x = 4) (h5 : ¬ x = 5) (h6 : ¬ x = 6) (h7 : ¬ x = 7) : x.toInt < 0 ∨ 7 < x.toInt := by
  have e0 : ¬ x.toInt = 0 := fun z => h0 (Int32.toInt_inj.mp (z.trans (by decide)))
  have e1 : ¬ x.toInt = 1 := fun z => h1 (Int32.toInt_inj.mp (z.trans (by decide)))
  have e2 : ¬ x.toInt = 2 := fun z => h2 (Int32.toInt_inj.mp (z.trans (by decide)))
  have e3 : ¬ x.toInt = 3 := fun z => h3 (Int32.toInt_inj.mp (z.trans (by decide)))
  have e4 : ¬ x.toInt = 4 := fun z => h4 (Int32.toInt_inj.mp (z.trans (by decide)))
  have e5 : ¬ x.toInt = 5 := fun z => h5 (Int32.toInt_inj.mp (z.trans (by decide)))
  have e6 : ¬ x.toInt = 6 := fun z => h6 (Int32.toInt_inj.mp (z.trans (by decide)))
  have e7 : ¬ x.toInt = 7 := fun z => h7 (Int32.toInt_inj.mp (z.trans (by decide)))
  omega
theorem vq_L_8 : vq RL 8 RX4 yX4_cellCount cX4_cellCount 1 (some .int) 0 := ⟨qw_242, qw_243, qw_244, qw_2, qw_245, rfl, by decide, by decide, by decide +kernel⟩
theorem vq_L_16 : vq RL 16 RX4 yX4_channelCount cX4_channelCount 1 (some .int) 0 := ⟨qw_248, qw_249, qw_250, qw_2, qw_251, rfl, by decide, by decide, by decide +kernel⟩
theorem vq_L_19 : vq RL 19 RX4 yX4_callCount cX4_callCount 1 (some .int) 0 := ⟨qw_253, qw_254, qw_255, qw_2, qw_256, rfl, by decide, by decide, by decide +kernel⟩
theorem vq_L_24 : vq RL 24 RX4 yX4_attempts cX4_attempts 1 (some .int) 0 := ⟨qw_257, qw_258, qw_259, qw_2, qw_260, rfl, by decide, by decide, by decide +kernel⟩
theorem vq_L_29 : vq RL 29 RX4 yX4_blocked cX4_blocked 1 (some .int) 0 := ⟨qw_262, qw_263, qw_264, qw_2, qw_265, rfl, by decide, by decide, by decide +kernel⟩
theorem vq_L_34 : vq RL 34 RX4 yX4_blockedInFixedScheme cX4_blockedInFixedScheme 1 (some .int) 0 := ⟨qw_267, qw_268, qw_269, qw_2, qw_270, rfl, by decide, by decide, by decide +kernel⟩
theorem vq_L_39 : vq RL 39 RX4 yX4_dropped cX4_dropped 1 (some .int) 0 := ⟨qw_272, qw_273, qw_274, qw_2, qw_275, rfl, by decide, by decide, by decide +kernel⟩
theorem vq_L_42 : vq RL 42 RX4 yX4_droppedInFixedScheme cX4_droppedInFixedScheme 1 (some .int) 0 := ⟨qw_277, qw_278, qw_279, qw_2, qw_280, rfl, by decide, by decide, by decide +kernel⟩
theorem vq_L_45 : vq RL 45 RX4 yX4_borrowings cX4_borrowings 1 (some .int) 0 := ⟨qw_282, qw_283, qw_284, qw_2, qw_285, rfl, by decide, by decide, by decide +kernel⟩
theorem vq_L_48 : vq RL 48 RX4 yX4_returns cX4_returns 1 (some .int) 0 := ⟨qw_287, qw_288, qw_289, qw_2, qw_290, rfl, by decide, by decide, by decide +kernel⟩
theorem vq_L_53 : vq RL 53 RX4 yX4_cellOf cX4_cellOf 2 (some .int) 1 := ⟨qw_292, qw_293, qw_294, qw_2, qw_295, rfl, by decide, by decide, by decide +kernel⟩
theorem vq_L_59 : vq RL 59 RX4 yX4_channelOf cX4_channelOf 2 (some .int) 1 := ⟨qw_297, qw_298, qw_299, qw_2, qw_300, rfl, by decide, by decide, by decide +kernel⟩
theorem vq_L_62 : vq RL 62 RX4 yX4_isInFixedScheme cX4_isInFixedScheme 2 (some .int) 1 := ⟨qw_302, qw_303, qw_304, qw_2, qw_305, rfl, by decide, by decide, by decide +kernel⟩
theorem vq_L_67 : vq RL 67 RX4 yX4_nextChannel cX4_nextChannel 2 (some .int) 1 := ⟨qw_313, qw_314, qw_315, qw_2, qw_316, rfl, by decide, by decide, by decide +kernel⟩
theorem vq_L_70 : vq RL 70 RX4 yX4_availableCount cX4_availableCount 2 (some .int) 1 := ⟨qw_351, qw_352, qw_353, qw_2, qw_354, rfl, by decide, by decide, by decide +kernel⟩
theorem vq_L_73 : vq RL 73 RX4 yX4_lockedCount cX4_lockedCount 3 (some .int) 1 := ⟨qw_357, qw_358, qw_359, qw_2, qw_360, rfl, by decide, by decide, by decide +kernel⟩
theorem vq_L_76 : vq RL 76 RX4 yX4_usedCount cX4_usedCount 2 (some .int) 1 := ⟨qw_364, qw_365, qw_366, qw_2, qw_367, rfl, by decide, by decide, by decide +kernel⟩
theorem vq_L_79 : vq RL 79 RX4 yX4_nextDonor cX4_nextDonor 2 (some .int) 1 := ⟨qw_368, qw_369, qw_370, qw_2, qw_371, rfl, by decide, by decide, by decide +kernel⟩
theorem sq_L_84 : sq RL 84 yL_low cL_low 2 (some .int) 2 := ⟨qw_379, qw_380, qw_228, qw_381, by decide, by decide, by decide +kernel⟩
theorem vq_L_90 : vq RL 90 RX4 yX4_configure cX4_configure 6 (some .int) 4 := ⟨qw_383, qw_384, qw_385, qw_2, qw_386, rfl, by decide, by decide, by decide +kernel⟩
theorem vq_L_94 : vq RL 94 RX4 yX4_setStrategy cX4_setStrategy 3 (some .int) 1 := ⟨qw_388, qw_389, qw_390, qw_2, qw_391, rfl, by decide, by decide, by decide +kernel⟩
theorem vq_L_97 : vq RL 97 RX4 yX4_setReserve cX4_setReserve 3 (some .int) 1 := ⟨qw_393, qw_394, qw_395, qw_2, qw_396, rfl, by decide, by decide, by decide +kernel⟩
theorem vq_L_100 : vq RL 100 RX4 yX4_setReturning cX4_setReturning 2 (some .int) 1 := ⟨qw_398, qw_399, qw_400, qw_2, qw_401, rfl, by decide, by decide, by decide +kernel⟩
theorem vq_L_103 : vq RL 103 RX4 yX4_endCall cX4_endCall 2 (some .int) 1 := ⟨qw_145, qw_146, qw_147, qw_2, qw_148, rfl, by decide, by decide, by decide +kernel⟩
theorem vq_L_106 : vq RL 106 RX4 yX4_handOver cX4_handOver 4 (some .int) 2 := ⟨qw_404, qw_405, qw_406, qw_2, qw_407, rfl, by decide, by decide, by decide +kernel⟩
theorem vq_L_109 : vq RL 109 RX4 yX4_startCall cX4_startCall 3 (some .int) 1 := ⟨qw_426, qw_427, qw_428, qw_2, qw_429, rfl, by decide, by decide, by decide +kernel⟩
theorem vq_L_112 : vq RL 112 RX4 yX4_distance cX4_distance 3 (some .int) 2 := ⟨qw_445, qw_446, qw_447, qw_2, qw_448, rfl, by decide, by decide, by decide +kernel⟩
theorem vq_L_115 : vq RL 115 RX4 yX4_groupOf cX4_groupOf 2 (some .int) 1 := ⟨qw_450, qw_451, qw_452, qw_2, qw_453, rfl, by decide, by decide, by decide +kernel⟩
theorem vq_L_118 : vq RL 118 RX4 yX4_isAvailable cX4_isAvailable 3 (some .int) 2 := ⟨qw_455, qw_456, qw_457, qw_2, qw_458, rfl, by decide, by decide, by decide +kernel⟩
theorem vq_L_121 : vq RL 121 RX4 yX4_blockingCells cX4_blockingCells 3 (some .int) 0 := ⟨qw_464, qw_465, qw_466, qw_2, qw_467, rfl, by decide, by decide, by decide +kernel⟩
theorem iq_L_124 : iq RL 124 yX4_init cX4_init 2 0 := ⟨qw_3, qw_4, qw_2, qw_5, rfl, by decide, by decide, by decide +kernel⟩
theorem vq_L_125 : vq RL 125 RX4 yX4_undo cX4_undo 1 (some .int) 0 := ⟨qw_104, qw_105, qw_106, qw_2, qw_107, rfl, by decide, by decide, by decide +kernel⟩
theorem vq_L_128 : vq RL 128 RX4 yX4_restore cX4_restore 3 (some .int) 1 := ⟨qw_131, qw_132, qw_133, qw_2, qw_134, rfl, by decide, by decide, by decide +kernel⟩
theorem sq_L_131 : sq RL 131 yL_cell cL_cell 2 (some .int) 2 := ⟨qw_226, qw_227, qw_228, qw_229, by decide, by decide, by decide +kernel⟩
theorem sq_L_135 : sq RL 135 yL_tale cL_tale 4 (some .long) 1 := ⟨qw_230, qw_231, qw_228, qw_232, by decide, by decide, by decide +kernel⟩
theorem sq_L_139 : sq RL 139 yL_does cL_does 3 (some .int) 2 := ⟨qw_376, qw_377, qw_228, qw_378, by decide, by decide, by decide +kernel⟩
theorem sq_L_143 : sq RL 143 yL_holds cL_holds 9 (some .boolean) 2 := ⟨qw_442, qw_443, qw_228, qw_444, by decide, by decide, by decide +kernel⟩
theorem vq_L_147 : vq RL 147 RX4 yX4_save cX4_save 3 (some .int) 1 := ⟨qw_468, qw_469, qw_470, qw_2, qw_471, rfl, by decide, by decide, by decide +kernel⟩
/-! L_low -/
def mj_low (a0 : Int32) (a1 : Int32) : Option Int32 :=
  if ¬ a1 = 0 then
  some ((a0 &&& (2147483647 : Int32)) - (a0 &&& (2147483647 : Int32)) / a1 * a1) else none
abbrev rm_L_low : Room := { frames := 0, cells := 0, slots := 0, locals := 0 }
set_option maxHeartbeats 4000000 in
set_option maxRecDepth 100000 in
theorem c_L_low (l : Launch) (D : va_G) (y : Nat → ClassId) (a0 : Int32) (a1 : Int32) (r : Int32) (hm : mj_low a0 a1 = some r) : Met l yL_low (wy_s yL_low cL_low 2 (some .int)) rm_L_low (pc_R D y [.int a0, .int a1] (fun _ => True)) (qc_R r) 0 0 (fun _ => False) := by
  refine met_R (by decide) (Nat.le_of_ble_eq_true rfl) ?_
  intro p e s m args below meth c X h0 ls hl
  replace hl : lv_has ls 2 [(0, .int a0), (1, .int a1)] := hl
  replace X : cx p s m args meth c cL_low 2 (some .int) RL D y := X
  unfold mj_low at hm
  refine lv_iload_n (cx_x X) (cx_b X) dL_low_0 rfl (lv_at hl 0 rfl) ?_
  refine lv_ldc (v := (2147483647 : Int32)) (cx_x X) (cx_b X) (cx_o X) (cx_w X _ qw_382) dL_low_1 ?_
  refine lv_iand (cx_x X) (cx_b X) dL_low_3 ?_
  refine lv_iload_n (cx_x X) (cx_b X) dL_low_4 rfl (lv_at hl 1 rfl) ?_
  obtain ⟨h1, hm⟩ := ck_E hm
  refine lv_irem (cx_x X) (cx_b X) dL_low_5 h1 ?_
  exact gr_i X hm dL_low_6
/-! L_tale -/
def mj_tale_X230  (v31 : Int64) : Option Int64 :=
  some v31
def mj_tale_L159 (F : (Nat → Int32)) (R : (Nat → Nat → Int32)) (G : (Nat → Int32)) (Q : (Nat → Nat → Int32)) (kkt28 : (Int64 × Int32) → Option Int64) (t0 : (Int64 × Int32)) : Option Int64 :=
  (m4_cellCount F R G Q).bind fun v33 =>
  if v33 ≤ t0.2 then
  some t0.1
  else
  (m4_nextChannel F R G Q t0.2).bind fun v36 =>
  (m4_availableCount F R G Q t0.2).bind fun v38 =>
  (m4_lockedCount F R G Q t0.2).bind fun v40 =>
  (m4_usedCount F R G Q t0.2).bind fun v42 =>
  (m4_nextDonor F R G Q t0.2).bind fun v44 =>
  lt_ ((((((t0.1 * (41 : Int64)) + ((v36).toInt64 * (3 : Int64))) + ((v38).toInt64 * (5 : Int64))) + ((v40).toInt64 * (7 : Int64))) + (v42).toInt64) + ((v44).toInt64 * (17 : Int64))) fun v45 =>
  kkt28 (v45, (t0.2 + (1 : Int32)))
def mj_tale_X157 (F : (Nat → Int32)) (R : (Nat → Nat → Int32)) (G : (Nat → Int32)) (Q : (Nat → Nat → Int32)) (v27 : Int64) : Option Int64 :=
  (wh (mj_tale_L159 F R G Q) 2000 (v27, (0 : Int32))).bind fun v31 => mj_tale_X230 v31
def mj_tale_L110 (F : (Nat → Int32)) (R : (Nat → Nat → Int32)) (G : (Nat → Int32)) (Q : (Nat → Nat → Int32)) (kkt24 : (Int64 × Int32) → Option Int64) (t0 : (Int64 × Int32)) : Option Int64 :=
  if (60 : Int32) ≤ t0.2 then
  some t0.1
  else
  (m4_cellOf F R G Q t0.2).bind fun v48 =>
  (m4_channelOf F R G Q t0.2).bind fun v50 =>
  (m4_isInFixedScheme F R G Q t0.2).bind fun v52 =>
  lt_ ((((t0.1 * (37 : Int64)) + ((v48).toInt64 * (13 : Int64))) + ((v50).toInt64 * (3 : Int64))) + (v52).toInt64) fun v53 =>
  kkt24 (v53, (t0.2 + (1 : Int32)))
def mj_tale (F : (Nat → Int32)) (R : (Nat → Nat → Int32)) (G : (Nat → Int32)) (Q : (Nat → Nat → Int32)) : Option Int64 :=
  (m4_cellCount F R G Q).bind fun v2 =>
  (m4_channelCount F R G Q).bind fun v4 =>
  lt_ (((v2).toInt64 * (31 : Int64)) + (v4).toInt64) fun v5 =>
  (m4_callCount F R G Q).bind fun v7 =>
  (m4_attempts F R G Q).bind fun v9 =>
  (m4_blocked F R G Q).bind fun v11 =>
  (m4_blockedInFixedScheme F R G Q).bind fun v13 =>
  lt_ (((((v5 * (31 : Int64)) + ((v7).toInt64 * (3 : Int64))) + ((v9).toInt64 * (5 : Int64))) + ((v11).toInt64 * (7 : Int64))) + ((v13).toInt64 * (11 : Int64))) fun v14 =>
  (m4_dropped F R G Q).bind fun v16 =>
  (m4_droppedInFixedScheme F R G Q).bind fun v18 =>
  (m4_borrowings F R G Q).bind fun v20 =>
  (m4_returns F R G Q).bind fun v22 =>
  lt_ (((((v14 * (31 : Int64)) + ((v16).toInt64 * (3 : Int64))) + ((v18).toInt64 * (5 : Int64))) + ((v20).toInt64 * (7 : Int64))) + ((v22).toInt64 * (11 : Int64))) fun v23 =>
  (wh (mj_tale_L110 F R G Q) 2000 (v23, (0 : Int32))).bind fun v27 => mj_tale_X157 F R G Q v27
abbrev rm_L_tale : Room := { frames := 6, cells := 0, slots := 0, locals := 142 }
set_option maxHeartbeats 4000000 in
set_option maxRecDepth 100000 in
theorem c_L_tale (l : Launch) (D : va_G) (y : Nat → ClassId) (x hi sn sc : Nat) (A B : Nat → Nat) (F : (Nat → Int32)) (R : (Nat → Nat → Int32)) (G : (Nat → Int32)) (Q : (Nat → Nat → Int32)) (r : Int64) (hm : mj_tale F R G Q = some r) : Met l yL_tale (wy_s yL_tale cL_tale 4 (some .long)) rm_L_tale (pc_R D y [.ref x] (fun H => va_P D vwCl (w4_s x (A 0) hi sn sc) H ∧ va_P D vwCl (w2_s y (B 0) A F R) H ∧ va_P D vwCl (w1_s y B G Q) H)) (qc_L r) 0 0 (fun _ => False) := by
  refine met_L (by decide) (Nat.le_of_ble_eq_true rfl) ?_
  intro p e s m args below meth c X h0 ls hl
  obtain ⟨hP4, hP2, hP1⟩ := h0
  replace hl : lv_has ls 4 [(0, .ref x)] := hl
  replace X : cx p s m args meth c cL_tale 4 (some .long) RL D y := X
  unfold mj_tale at hm
  refine lv_aload_n (cx_x X) (cx_b X) dL_tale_0 rfl (lv_at hl 0 rfl) ?_
  obtain ⟨v2, h1, hm⟩ := bnd hm
  refine af_R (rn_V (As := []) (rest := []) X (c_X4_cellCount l D y x hi sn sc A B F R G Q  _ h1) vq_L_8 ⟨rfl, rfl⟩ ⟨Nat.le_of_ble_eq_true rfl, Nat.le_of_ble_eq_true rfl⟩ (rec_4 X hP4) ⟨hP4, hP2, hP1⟩ rfl hl.1 rfl (Nat.le_of_ble_eq_true rfl) dL_tale_1 ⟨Nat.le_refl _, Nat.le_refl _⟩) ?_
  refine lv_i2l (cx_x X) (cx_b X) dL_tale_4 rfl ?_
  refine lv_ldc2 (v := (31 : Int64)) (cx_x X) (cx_b X) (cx_o X) (cx_w X _ qw_233) dL_tale_5 ?_
  refine lv_lmul (cx_x X) (cx_b X) dL_tale_8 ?_
  refine lv_aload_n (cx_x X) (cx_b X) dL_tale_9 rfl (lv_at hl 0 rfl) ?_
  obtain ⟨v4, h3, hm⟩ := bnd hm
  refine af_R (rn_V (As := []) (rest := [.long ((v2).toInt64 * (31 : Int64))]) X (c_X4_channelCount l D y x hi sn sc A B F R G Q  _ h3) vq_L_16 ⟨rfl, rfl⟩ ⟨Nat.le_of_ble_eq_true rfl, Nat.le_of_ble_eq_true rfl⟩ (rec_4 X hP4) ⟨hP4, hP2, hP1⟩ rfl hl.1 rfl (Nat.le_of_ble_eq_true rfl) dL_tale_10 ⟨Nat.le_refl _, Nat.le_refl _⟩) ?_
  refine lv_i2l (cx_x X) (cx_b X) dL_tale_13 rfl ?_
  refine lv_ladd (cx_x X) (cx_b X) dL_tale_14 ?_
  obtain ⟨v5, ev5, hm⟩ := lt_E hm
  refine lv_eql ev5 ?_
  refine lv_lstore_n (lv' := [(1, .long v5), (0, .ref x)]) (cx_x X) (cx_b X) dL_tale_15 rfl hl (by decide) rfl (fun ls hl => ?_)
  refine lv_lload_n (cx_x X) (cx_b X) dL_tale_16 rfl (lv_at hl 0 rfl) ?_
  refine lv_ldc2 (v := (31 : Int64)) (cx_x X) (cx_b X) (cx_o X) (cx_w X _ qw_233) dL_tale_17 ?_
  refine lv_lmul (cx_x X) (cx_b X) dL_tale_20 ?_
  refine lv_aload_n (cx_x X) (cx_b X) dL_tale_21 rfl (lv_at hl 1 rfl) ?_
  obtain ⟨v7, h6, hm⟩ := bnd hm
  refine af_R (rn_V (As := []) (rest := [.long (v5 * (31 : Int64))]) X (c_X4_callCount l D y x hi sn sc A B F R G Q  _ h6) vq_L_19 ⟨rfl, rfl⟩ ⟨Nat.le_of_ble_eq_true rfl, Nat.le_of_ble_eq_true rfl⟩ (rec_4 X hP4) ⟨hP4, hP2, hP1⟩ rfl hl.1 rfl (Nat.le_of_ble_eq_true rfl) dL_tale_22 ⟨Nat.le_refl _, Nat.le_refl _⟩) ?_
  refine lv_i2l (cx_x X) (cx_b X) dL_tale_25 rfl ?_
  refine lv_ldc2 (v := (3 : Int64)) (cx_x X) (cx_b X) (cx_o X) (cx_w X _ qw_234) dL_tale_26 ?_
  refine lv_lmul (cx_x X) (cx_b X) dL_tale_29 ?_
  refine lv_ladd (cx_x X) (cx_b X) dL_tale_30 ?_
  refine lv_aload_n (cx_x X) (cx_b X) dL_tale_31 rfl (lv_at hl 1 rfl) ?_
  obtain ⟨v9, h8, hm⟩ := bnd hm
  refine af_R (rn_V (As := []) (rest := [.long ((v5 * (31 : Int64)) + ((v7).toInt64 * (3 : Int64)))]) X (c_X4_attempts l D y x hi sn sc A B F R G Q  _ h8) vq_L_24 ⟨rfl, rfl⟩ ⟨Nat.le_of_ble_eq_true rfl, Nat.le_of_ble_eq_true rfl⟩ (rec_4 X hP4) ⟨hP4, hP2, hP1⟩ rfl hl.1 rfl (Nat.le_of_ble_eq_true rfl) dL_tale_32 ⟨Nat.le_refl _, Nat.le_refl _⟩) ?_
  refine lv_i2l (cx_x X) (cx_b X) dL_tale_35 rfl ?_
  refine lv_ldc2 (v := (5 : Int64)) (cx_x X) (cx_b X) (cx_o X) (cx_w X _ qw_235) dL_tale_36 ?_
  refine lv_lmul (cx_x X) (cx_b X) dL_tale_39 ?_
  refine lv_ladd (cx_x X) (cx_b X) dL_tale_40 ?_
  refine lv_aload_n (cx_x X) (cx_b X) dL_tale_41 rfl (lv_at hl 1 rfl) ?_
  obtain ⟨v11, h10, hm⟩ := bnd hm
  refine af_R (rn_V (As := []) (rest := [.long (((v5 * (31 : Int64)) + ((v7).toInt64 * (3 : Int64))) + ((v9).toInt64 * (5 : Int64)))]) X (c_X4_blocked l D y x hi sn sc A B F R G Q  _ h10) vq_L_29 ⟨rfl, rfl⟩ ⟨Nat.le_of_ble_eq_true rfl, Nat.le_of_ble_eq_true rfl⟩ (rec_4 X hP4) ⟨hP4, hP2, hP1⟩ rfl hl.1 rfl (Nat.le_of_ble_eq_true rfl) dL_tale_42 ⟨Nat.le_refl _, Nat.le_refl _⟩) ?_
  refine lv_i2l (cx_x X) (cx_b X) dL_tale_45 rfl ?_
  refine lv_ldc2 (v := (7 : Int64)) (cx_x X) (cx_b X) (cx_o X) (cx_w X _ qw_236) dL_tale_46 ?_
  refine lv_lmul (cx_x X) (cx_b X) dL_tale_49 ?_
  refine lv_ladd (cx_x X) (cx_b X) dL_tale_50 ?_
  refine lv_aload_n (cx_x X) (cx_b X) dL_tale_51 rfl (lv_at hl 1 rfl) ?_
  obtain ⟨v13, h12, hm⟩ := bnd hm
  refine af_R (rn_V (As := []) (rest := [.long ((((v5 * (31 : Int64)) + ((v7).toInt64 * (3 : Int64))) + ((v9).toInt64 * (5 : Int64))) + ((v11).toInt64 * (7 : Int64)))]) X (c_X4_blockedInFixedScheme l D y x hi sn sc A B F R G Q  _ h12) vq_L_34 ⟨rfl, rfl⟩ ⟨Nat.le_of_ble_eq_true rfl, Nat.le_of_ble_eq_true rfl⟩ (rec_4 X hP4) ⟨hP4, hP2, hP1⟩ rfl hl.1 rfl (Nat.le_of_ble_eq_true rfl) dL_tale_52 ⟨Nat.le_refl _, Nat.le_refl _⟩) ?_
  refine lv_i2l (cx_x X) (cx_b X) dL_tale_55 rfl ?_
  refine lv_ldc2 (v := (11 : Int64)) (cx_x X) (cx_b X) (cx_o X) (cx_w X _ qw_237) dL_tale_56 ?_
  refine lv_lmul (cx_x X) (cx_b X) dL_tale_59 ?_
  refine lv_ladd (cx_x X) (cx_b X) dL_tale_60 ?_
  obtain ⟨v14, ev14, hm⟩ := lt_E hm
  refine lv_eql ev14 ?_
  refine lv_lstore_n (lv' := [(1, .long v14), (0, .ref x)]) (cx_x X) (cx_b X) dL_tale_61 rfl hl (by decide) rfl (fun ls hl => ?_)
  refine lv_lload_n (cx_x X) (cx_b X) dL_tale_62 rfl (lv_at hl 0 rfl) ?_
  refine lv_ldc2 (v := (31 : Int64)) (cx_x X) (cx_b X) (cx_o X) (cx_w X _ qw_233) dL_tale_63 ?_
  refine lv_lmul (cx_x X) (cx_b X) dL_tale_66 ?_
  refine lv_aload_n (cx_x X) (cx_b X) dL_tale_67 rfl (lv_at hl 1 rfl) ?_
  obtain ⟨v16, h15, hm⟩ := bnd hm
  refine af_R (rn_V (As := []) (rest := [.long (v14 * (31 : Int64))]) X (c_X4_dropped l D y x hi sn sc A B F R G Q  _ h15) vq_L_39 ⟨rfl, rfl⟩ ⟨Nat.le_of_ble_eq_true rfl, Nat.le_of_ble_eq_true rfl⟩ (rec_4 X hP4) ⟨hP4, hP2, hP1⟩ rfl hl.1 rfl (Nat.le_of_ble_eq_true rfl) dL_tale_68 ⟨Nat.le_refl _, Nat.le_refl _⟩) ?_
  refine lv_i2l (cx_x X) (cx_b X) dL_tale_71 rfl ?_
  refine lv_ldc2 (v := (3 : Int64)) (cx_x X) (cx_b X) (cx_o X) (cx_w X _ qw_234) dL_tale_72 ?_
  refine lv_lmul (cx_x X) (cx_b X) dL_tale_75 ?_
  refine lv_ladd (cx_x X) (cx_b X) dL_tale_76 ?_
  refine lv_aload_n (cx_x X) (cx_b X) dL_tale_77 rfl (lv_at hl 1 rfl) ?_
  obtain ⟨v18, h17, hm⟩ := bnd hm
  refine af_R (rn_V (As := []) (rest := [.long ((v14 * (31 : Int64)) + ((v16).toInt64 * (3 : Int64)))]) X (c_X4_droppedInFixedScheme l D y x hi sn sc A B F R G Q  _ h17) vq_L_42 ⟨rfl, rfl⟩ ⟨Nat.le_of_ble_eq_true rfl, Nat.le_of_ble_eq_true rfl⟩ (rec_4 X hP4) ⟨hP4, hP2, hP1⟩ rfl hl.1 rfl (Nat.le_of_ble_eq_true rfl) dL_tale_78 ⟨Nat.le_refl _, Nat.le_refl _⟩) ?_
  refine lv_i2l (cx_x X) (cx_b X) dL_tale_81 rfl ?_
  refine lv_ldc2 (v := (5 : Int64)) (cx_x X) (cx_b X) (cx_o X) (cx_w X _ qw_235) dL_tale_82 ?_
  refine lv_lmul (cx_x X) (cx_b X) dL_tale_85 ?_
  refine lv_ladd (cx_x X) (cx_b X) dL_tale_86 ?_
  refine lv_aload_n (cx_x X) (cx_b X) dL_tale_87 rfl (lv_at hl 1 rfl) ?_
  obtain ⟨v20, h19, hm⟩ := bnd hm
  refine af_R (rn_V (As := []) (rest := [.long (((v14 * (31 : Int64)) + ((v16).toInt64 * (3 : Int64))) + ((v18).toInt64 * (5 : Int64)))]) X (c_X4_borrowings l D y x hi sn sc A B F R G Q  _ h19) vq_L_45 ⟨rfl, rfl⟩ ⟨Nat.le_of_ble_eq_true rfl, Nat.le_of_ble_eq_true rfl⟩ (rec_4 X hP4) ⟨hP4, hP2, hP1⟩ rfl hl.1 rfl (Nat.le_of_ble_eq_true rfl) dL_tale_88 ⟨Nat.le_refl _, Nat.le_refl _⟩) ?_
  refine lv_i2l (cx_x X) (cx_b X) dL_tale_91 rfl ?_
  refine lv_ldc2 (v := (7 : Int64)) (cx_x X) (cx_b X) (cx_o X) (cx_w X _ qw_236) dL_tale_92 ?_
  refine lv_lmul (cx_x X) (cx_b X) dL_tale_95 ?_
  refine lv_ladd (cx_x X) (cx_b X) dL_tale_96 ?_
  refine lv_aload_n (cx_x X) (cx_b X) dL_tale_97 rfl (lv_at hl 1 rfl) ?_
  obtain ⟨v22, h21, hm⟩ := bnd hm
  refine af_R (rn_V (As := []) (rest := [.long ((((v14 * (31 : Int64)) + ((v16).toInt64 * (3 : Int64))) + ((v18).toInt64 * (5 : Int64))) + ((v20).toInt64 * (7 : Int64)))]) X (c_X4_returns l D y x hi sn sc A B F R G Q  _ h21) vq_L_48 ⟨rfl, rfl⟩ ⟨Nat.le_of_ble_eq_true rfl, Nat.le_of_ble_eq_true rfl⟩ (rec_4 X hP4) ⟨hP4, hP2, hP1⟩ rfl hl.1 rfl (Nat.le_of_ble_eq_true rfl) dL_tale_98 ⟨Nat.le_refl _, Nat.le_refl _⟩) ?_
  refine lv_i2l (cx_x X) (cx_b X) dL_tale_101 rfl ?_
  refine lv_ldc2 (v := (11 : Int64)) (cx_x X) (cx_b X) (cx_o X) (cx_w X _ qw_237) dL_tale_102 ?_
  refine lv_lmul (cx_x X) (cx_b X) dL_tale_105 ?_
  refine lv_ladd (cx_x X) (cx_b X) dL_tale_106 ?_
  obtain ⟨v23, ev23, hm⟩ := lt_E hm
  refine lv_eql ev23 ?_
  refine lv_lstore_n (lv' := [(1, .long v23), (0, .ref x)]) (cx_x X) (cx_b X) dL_tale_107 rfl hl (by decide) rfl (fun ls hl => ?_)
  refine lv_iconst (v := (0 : Int32)) (cx_x X) (cx_b X) dL_tale_108 (by decide) ?_
  refine lv_istore_n (lv' := [(3, .int (0 : Int32)), (1, .long v23), (0, .ref x)]) (cx_x X) (cx_b X) dL_tale_109 rfl hl (by decide) rfl (fun ls hl => ?_)
  obtain ⟨qt24, hm, hmt24⟩ := bnd hm
  have Xt24 : ∀ (v27 : Int64) , mj_tale_X157 F R G Q v27 = some r → ∀ ls, lv_has ls 4 [(0, .ref x), (1, .long v27)] → grl p l e rm_L_tale s m args below meth c r (F0 m 157 ls []) := by
    intro v27 hm ls hl
    unfold mj_tale_X157 at hm
    refine lv_iconst (v := (0 : Int32)) (cx_x X) (cx_b X) dL_tale_157 (by decide) ?_
    refine lv_istore_n (lv' := [(3, .int (0 : Int32)), (0, .ref x), (1, .long v27)]) (cx_x X) (cx_b X) dL_tale_158 rfl hl (by decide) rfl (fun ls hl => ?_)
    obtain ⟨qt28, hm, hmt28⟩ := bnd hm
    have Xt28 : ∀ (v31 : Int64) , mj_tale_X230 v31 = some r → ∀ ls, lv_has ls 4 [(1, .long v31)] → grl p l e rm_L_tale s m args below meth c r (F0 m 230 ls []) := by
      intro v31 hm ls hl
      unfold mj_tale_X230 at hm
      refine lv_lload_n (cx_x X) (cx_b X) dL_tale_230 rfl (lv_at hl 0 rfl) ?_
      exact gr_l X hm dL_tale_231
    have Lt28 : ∀ (nt28 : Nat) (v29 : Int64) (v30 : Int32) , wh (mj_tale_L159 F R G Q) nt28 (v29, v30) = some qt28 → ∀ ls, lv_has ls 4 [(0, .ref x), (1, .long v29), (3, .int v30)] → grl p l e rm_L_tale s m args below meth c r (F0 m 159 ls []) := by
      intro nt28
      induction nt28 with
      | zero => intro v29 v30 hm; cases hm
      | succ nt28 iht28 =>
        intro v29 v30 hm ls hl
        replace hm : (mj_tale_L159 F R G Q) (wh (mj_tale_L159 F R G Q) nt28) (v29, v30) = some qt28 := hm
        dsimp only [mj_tale_L159] at hm
        refine lv_iload_n (cx_x X) (cx_b X) dL_tale_159 rfl (lv_at hl 2 rfl) ?_
        refine lv_aload_n (cx_x X) (cx_b X) dL_tale_160 rfl (lv_at hl 0 rfl) ?_
        obtain ⟨v33, h32, hm⟩ := bnd hm
        refine af_R (rn_V (As := []) (rest := [.int v30]) X (c_X4_cellCount l D y x hi sn sc A B F R G Q  _ h32) vq_L_8 ⟨rfl, rfl⟩ ⟨Nat.le_of_ble_eq_true rfl, Nat.le_of_ble_eq_true rfl⟩ (rec_4 X hP4) ⟨hP4, hP2, hP1⟩ rfl hl.1 rfl (Nat.le_of_ble_eq_true rfl) dL_tale_161 ⟨Nat.le_refl _, Nat.le_refl _⟩) ?_
        refine lv_icmp_ge (tgt := 230) (cx_x X) (cx_b X) dL_tale_164 (by decide) (fun c34 => ?_) (fun c34 => ?_)
        · replace hm := if_T c34 hm
          exact Xt28 _ (by cases hm; exact hmt28) _ (lv_sub hl [1] rfl)
        · replace hm := if_F c34 hm
          refine lv_lload_n (cx_x X) (cx_b X) dL_tale_167 rfl (lv_at hl 1 rfl) ?_
          refine lv_ldc2 (v := (41 : Int64)) (cx_x X) (cx_b X) (cx_o X) (cx_w X _ qw_240) dL_tale_168 ?_
          refine lv_lmul (cx_x X) (cx_b X) dL_tale_171 ?_
          refine lv_aload_n (cx_x X) (cx_b X) dL_tale_172 rfl (lv_at hl 0 rfl) ?_
          refine lv_iload_n (cx_x X) (cx_b X) dL_tale_173 rfl (lv_at hl 2 rfl) ?_
          obtain ⟨v36, h35, hm⟩ := bnd hm
          refine af_R (rn_V (As := [.int v30]) (rest := [.long (v29 * (41 : Int64))]) X (c_X4_nextChannel l D y x hi sn sc A B F R G Q v30  _ h35) vq_L_67 ⟨rfl, rfl⟩ ⟨Nat.le_of_ble_eq_true rfl, Nat.le_of_ble_eq_true rfl⟩ (rec_4 X hP4) ⟨hP4, hP2, hP1⟩ rfl hl.1 rfl (Nat.le_of_ble_eq_true rfl) dL_tale_174 ⟨Nat.le_refl _, Nat.le_refl _⟩) ?_
          refine lv_i2l (cx_x X) (cx_b X) dL_tale_177 rfl ?_
          refine lv_ldc2 (v := (3 : Int64)) (cx_x X) (cx_b X) (cx_o X) (cx_w X _ qw_234) dL_tale_178 ?_
          refine lv_lmul (cx_x X) (cx_b X) dL_tale_181 ?_
          refine lv_ladd (cx_x X) (cx_b X) dL_tale_182 ?_
          refine lv_aload_n (cx_x X) (cx_b X) dL_tale_183 rfl (lv_at hl 0 rfl) ?_
          refine lv_iload_n (cx_x X) (cx_b X) dL_tale_184 rfl (lv_at hl 2 rfl) ?_
          obtain ⟨v38, h37, hm⟩ := bnd hm
          refine af_R (rn_V (As := [.int v30]) (rest := [.long ((v29 * (41 : Int64)) + ((v36).toInt64 * (3 : Int64)))]) X (c_X4_availableCount l D y x hi sn sc A B F R G Q v30  _ h37) vq_L_70 ⟨rfl, rfl⟩ ⟨Nat.le_of_ble_eq_true rfl, Nat.le_of_ble_eq_true rfl⟩ (rec_4 X hP4) ⟨hP4, hP2, hP1⟩ rfl hl.1 rfl (Nat.le_of_ble_eq_true rfl) dL_tale_185 ⟨Nat.le_refl _, Nat.le_refl _⟩) ?_
          refine lv_i2l (cx_x X) (cx_b X) dL_tale_188 rfl ?_
          refine lv_ldc2 (v := (5 : Int64)) (cx_x X) (cx_b X) (cx_o X) (cx_w X _ qw_235) dL_tale_189 ?_
          refine lv_lmul (cx_x X) (cx_b X) dL_tale_192 ?_
          refine lv_ladd (cx_x X) (cx_b X) dL_tale_193 ?_
          refine lv_aload_n (cx_x X) (cx_b X) dL_tale_194 rfl (lv_at hl 0 rfl) ?_
          refine lv_iload_n (cx_x X) (cx_b X) dL_tale_195 rfl (lv_at hl 2 rfl) ?_
          obtain ⟨v40, h39, hm⟩ := bnd hm
          refine af_R (rn_V (As := [.int v30]) (rest := [.long (((v29 * (41 : Int64)) + ((v36).toInt64 * (3 : Int64))) + ((v38).toInt64 * (5 : Int64)))]) X (c_X4_lockedCount l D y x hi sn sc A B F R G Q v30  _ h39) vq_L_73 ⟨rfl, rfl⟩ ⟨Nat.le_of_ble_eq_true rfl, Nat.le_of_ble_eq_true rfl⟩ (rec_4 X hP4) ⟨hP4, hP2, hP1⟩ rfl hl.1 rfl (Nat.le_of_ble_eq_true rfl) dL_tale_196 ⟨Nat.le_refl _, Nat.le_refl _⟩) ?_
          refine lv_i2l (cx_x X) (cx_b X) dL_tale_199 rfl ?_
          refine lv_ldc2 (v := (7 : Int64)) (cx_x X) (cx_b X) (cx_o X) (cx_w X _ qw_236) dL_tale_200 ?_
          refine lv_lmul (cx_x X) (cx_b X) dL_tale_203 ?_
          refine lv_ladd (cx_x X) (cx_b X) dL_tale_204 ?_
          refine lv_aload_n (cx_x X) (cx_b X) dL_tale_205 rfl (lv_at hl 0 rfl) ?_
          refine lv_iload_n (cx_x X) (cx_b X) dL_tale_206 rfl (lv_at hl 2 rfl) ?_
          obtain ⟨v42, h41, hm⟩ := bnd hm
          refine af_R (rn_V (As := [.int v30]) (rest := [.long ((((v29 * (41 : Int64)) + ((v36).toInt64 * (3 : Int64))) + ((v38).toInt64 * (5 : Int64))) + ((v40).toInt64 * (7 : Int64)))]) X (c_X4_usedCount l D y x hi sn sc A B F R G Q v30  _ h41) vq_L_76 ⟨rfl, rfl⟩ ⟨Nat.le_of_ble_eq_true rfl, Nat.le_of_ble_eq_true rfl⟩ (rec_4 X hP4) ⟨hP4, hP2, hP1⟩ rfl hl.1 rfl (Nat.le_of_ble_eq_true rfl) dL_tale_207 ⟨Nat.le_refl _, Nat.le_refl _⟩) ?_
          refine lv_i2l (cx_x X) (cx_b X) dL_tale_210 rfl ?_
          refine lv_ladd (cx_x X) (cx_b X) dL_tale_211 ?_
          refine lv_aload_n (cx_x X) (cx_b X) dL_tale_212 rfl (lv_at hl 0 rfl) ?_
          refine lv_iload_n (cx_x X) (cx_b X) dL_tale_213 rfl (lv_at hl 2 rfl) ?_
          obtain ⟨v44, h43, hm⟩ := bnd hm
          refine af_R (rn_V (As := [.int v30]) (rest := [.long (((((v29 * (41 : Int64)) + ((v36).toInt64 * (3 : Int64))) + ((v38).toInt64 * (5 : Int64))) + ((v40).toInt64 * (7 : Int64))) + (v42).toInt64)]) X (c_X4_nextDonor l D y x hi sn sc A B F R G Q v30  _ h43) vq_L_79 ⟨rfl, rfl⟩ ⟨Nat.le_of_ble_eq_true rfl, Nat.le_of_ble_eq_true rfl⟩ (rec_4 X hP4) ⟨hP4, hP2, hP1⟩ rfl hl.1 rfl (Nat.le_of_ble_eq_true rfl) dL_tale_214 ⟨Nat.le_refl _, Nat.le_refl _⟩) ?_
          refine lv_i2l (cx_x X) (cx_b X) dL_tale_217 rfl ?_
          refine lv_ldc2 (v := (17 : Int64)) (cx_x X) (cx_b X) (cx_o X) (cx_w X _ qw_241) dL_tale_218 ?_
          refine lv_lmul (cx_x X) (cx_b X) dL_tale_221 ?_
          refine lv_ladd (cx_x X) (cx_b X) dL_tale_222 ?_
          obtain ⟨v45, ev45, hm⟩ := lt_E hm
          refine lv_eql ev45 ?_
          refine lv_lstore_n (lv' := [(1, .long v45), (0, .ref x), (3, .int v30)]) (cx_x X) (cx_b X) dL_tale_223 rfl hl (by decide) rfl (fun ls hl => ?_)
          refine lv_iinc (v := (v30 + (1 : Int32))) (lv' := [(3, .int (v30 + (1 : Int32))), (1, .long v45), (0, .ref x)]) (cx_x X) (cx_b X) dL_tale_224 hl (k := 2) rfl (by rfl) (by decide) rfl (fun ls hl => ?_)
          refine lv_goto (tgt := 159) (cx_x X) (cx_b X) dL_tale_227 (by decide) ?_
          exact iht28 _ _ hm _ (lv_sub hl [2, 1, 0] rfl)
    exact Lt28 _ _ _ hm _ (lv_sub hl [1, 2, 0] rfl)
  have Lt24 : ∀ (nt24 : Nat) (v25 : Int64) (v26 : Int32) , wh (mj_tale_L110 F R G Q) nt24 (v25, v26) = some qt24 → ∀ ls, lv_has ls 4 [(0, .ref x), (1, .long v25), (3, .int v26)] → grl p l e rm_L_tale s m args below meth c r (F0 m 110 ls []) := by
    intro nt24
    induction nt24 with
    | zero => intro v25 v26 hm; cases hm
    | succ nt24 iht24 =>
      intro v25 v26 hm ls hl
      replace hm : (mj_tale_L110 F R G Q) (wh (mj_tale_L110 F R G Q) nt24) (v25, v26) = some qt24 := hm
      dsimp only [mj_tale_L110] at hm
      refine lv_iload_n (cx_x X) (cx_b X) dL_tale_110 rfl (lv_at hl 2 rfl) ?_
      refine lv_bipush (v := (60 : Int32)) (cx_x X) (cx_b X) dL_tale_111 (by decide) ?_
      refine lv_icmp_ge (tgt := 157) (cx_x X) (cx_b X) dL_tale_113 (by decide) (fun c46 => ?_) (fun c46 => ?_)
      · replace hm := if_T c46 hm
        exact Xt24 _ (by cases hm; exact hmt24) _ (lv_sub hl [0, 1] rfl)
      · replace hm := if_F c46 hm
        refine lv_lload_n (cx_x X) (cx_b X) dL_tale_116 rfl (lv_at hl 1 rfl) ?_
        refine lv_ldc2 (v := (37 : Int64)) (cx_x X) (cx_b X) (cx_o X) (cx_w X _ qw_238) dL_tale_117 ?_
        refine lv_lmul (cx_x X) (cx_b X) dL_tale_120 ?_
        refine lv_aload_n (cx_x X) (cx_b X) dL_tale_121 rfl (lv_at hl 0 rfl) ?_
        refine lv_iload_n (cx_x X) (cx_b X) dL_tale_122 rfl (lv_at hl 2 rfl) ?_
        obtain ⟨v48, h47, hm⟩ := bnd hm
        refine af_R (rn_V (As := [.int v26]) (rest := [.long (v25 * (37 : Int64))]) X (c_X4_cellOf l D y x hi sn sc A B F R G Q v26  _ h47) vq_L_53 ⟨rfl, rfl⟩ ⟨Nat.le_of_ble_eq_true rfl, Nat.le_of_ble_eq_true rfl⟩ (rec_4 X hP4) ⟨hP4, hP2, hP1⟩ rfl hl.1 rfl (Nat.le_of_ble_eq_true rfl) dL_tale_123 ⟨Nat.le_refl _, Nat.le_refl _⟩) ?_
        refine lv_i2l (cx_x X) (cx_b X) dL_tale_126 rfl ?_
        refine lv_ldc2 (v := (13 : Int64)) (cx_x X) (cx_b X) (cx_o X) (cx_w X _ qw_239) dL_tale_127 ?_
        refine lv_lmul (cx_x X) (cx_b X) dL_tale_130 ?_
        refine lv_ladd (cx_x X) (cx_b X) dL_tale_131 ?_
        refine lv_aload_n (cx_x X) (cx_b X) dL_tale_132 rfl (lv_at hl 0 rfl) ?_
        refine lv_iload_n (cx_x X) (cx_b X) dL_tale_133 rfl (lv_at hl 2 rfl) ?_
        obtain ⟨v50, h49, hm⟩ := bnd hm
        refine af_R (rn_V (As := [.int v26]) (rest := [.long ((v25 * (37 : Int64)) + ((v48).toInt64 * (13 : Int64)))]) X (c_X4_channelOf l D y x hi sn sc A B F R G Q v26  _ h49) vq_L_59 ⟨rfl, rfl⟩ ⟨Nat.le_of_ble_eq_true rfl, Nat.le_of_ble_eq_true rfl⟩ (rec_4 X hP4) ⟨hP4, hP2, hP1⟩ rfl hl.1 rfl (Nat.le_of_ble_eq_true rfl) dL_tale_134 ⟨Nat.le_refl _, Nat.le_refl _⟩) ?_
        refine lv_i2l (cx_x X) (cx_b X) dL_tale_137 rfl ?_
        refine lv_ldc2 (v := (3 : Int64)) (cx_x X) (cx_b X) (cx_o X) (cx_w X _ qw_234) dL_tale_138 ?_
        refine lv_lmul (cx_x X) (cx_b X) dL_tale_141 ?_
        refine lv_ladd (cx_x X) (cx_b X) dL_tale_142 ?_
        refine lv_aload_n (cx_x X) (cx_b X) dL_tale_143 rfl (lv_at hl 0 rfl) ?_
        refine lv_iload_n (cx_x X) (cx_b X) dL_tale_144 rfl (lv_at hl 2 rfl) ?_
        obtain ⟨v52, h51, hm⟩ := bnd hm
        refine af_R (rn_V (As := [.int v26]) (rest := [.long (((v25 * (37 : Int64)) + ((v48).toInt64 * (13 : Int64))) + ((v50).toInt64 * (3 : Int64)))]) X (c_X4_isInFixedScheme l D y x hi sn sc A B F R G Q v26  _ h51) vq_L_62 ⟨rfl, rfl⟩ ⟨Nat.le_of_ble_eq_true rfl, Nat.le_of_ble_eq_true rfl⟩ (rec_4 X hP4) ⟨hP4, hP2, hP1⟩ rfl hl.1 rfl (Nat.le_of_ble_eq_true rfl) dL_tale_145 ⟨Nat.le_refl _, Nat.le_refl _⟩) ?_
        refine lv_i2l (cx_x X) (cx_b X) dL_tale_148 rfl ?_
        refine lv_ladd (cx_x X) (cx_b X) dL_tale_149 ?_
        obtain ⟨v53, ev53, hm⟩ := lt_E hm
        refine lv_eql ev53 ?_
        refine lv_lstore_n (lv' := [(1, .long v53), (0, .ref x), (3, .int v26)]) (cx_x X) (cx_b X) dL_tale_150 rfl hl (by decide) rfl (fun ls hl => ?_)
        refine lv_iinc (v := (v26 + (1 : Int32))) (lv' := [(3, .int (v26 + (1 : Int32))), (1, .long v53), (0, .ref x)]) (cx_x X) (cx_b X) dL_tale_151 hl (k := 2) rfl (by rfl) (by decide) rfl (fun ls hl => ?_)
        refine lv_goto (tgt := 110) (cx_x X) (cx_b X) dL_tale_154 (by decide) ?_
        exact iht24 _ _ hm _ (lv_sub hl [2, 1, 0] rfl)
  exact Lt24 _ _ _ hm _ (lv_sub hl [2, 1, 0] rfl)
/-! L_holds -/
def mj_holds_X353 (F : (Nat → Int32)) (R : (Nat → Nat → Int32)) (G : (Nat → Int32)) (Q : (Nat → Nat → Int32)) (v4 : Int32) (v9 : Int32) (v10 : Int32) : Option Int32 :=
  if v9 = v4 then
  (m4_blockingCells F R G Q).bind fun v13 =>
  if v10 = v13 then
  (m4_blocked F R G Q).bind fun v16 =>
  (m4_attempts F R G Q).bind fun v18 =>
  if v18 < v16 then
  some (0 : Int32)
  else
  some (1 : Int32)
  else
  some (0 : Int32)
  else
  some (0 : Int32)
def mj_holds_J347 (kkt5 : (Int32 × Int32 × Int32) → Option Int32) (v6 : Int32) (v7 : Int32) (v8 : Int32) (v26 : Int32) (v27 : Int32)  : Option Int32 :=
  kkt5 ((v6 + v26), (v7 + v27), (v8 + (1 : Int32)))
def mj_holds_J320 (F : (Nat → Int32)) (R : (Nat → Nat → Int32)) (G : (Nat → Int32)) (Q : (Nat → Nat → Int32)) (kkt5 : (Int32 × Int32 × Int32) → Option Int32) (v6 : Int32) (v7 : Int32) (v8 : Int32) (v26 : Int32) (v27 : Int32)  : Option Int32 :=
  (m4_nextDonor F R G Q v8).bind fun v34 =>
  if v34 < 0 then
  mj_holds_J347 kkt5 v6 v7 v8 v26 v27 
  else
  (m4_nextDonor F R G Q v8).bind fun v38 =>
  (m4_distance F R G Q v8 v38).bind fun v40 =>
  if v40 = (1 : Int32) then
  mj_holds_J347 kkt5 v6 v7 v8 v26 v27 
  else
  some (0 : Int32)
def mj_holds_J300 (F : (Nat → Int32)) (R : (Nat → Nat → Int32)) (G : (Nat → Int32)) (Q : (Nat → Nat → Int32)) (kkt5 : (Int32 × Int32 × Int32) → Option Int32) (v6 : Int32) (v7 : Int32) (v8 : Int32) (v26 : Int32) (v27 : Int32)  : Option Int32 :=
  (m4_availableCount F R G Q v8).bind fun v31 =>
  if v31 ≤ 0 then
  mj_holds_J320 F R G Q kkt5 v6 v7 v8 v26 v27 
  else
  (m4_nextDonor F R G Q v8).bind fun v44 =>
  if v44 = (-9 : Int32) then
  mj_holds_J320 F R G Q kkt5 v6 v7 v8 v26 v27 
  else
  some (0 : Int32)
def mj_holds_J280 (F : (Nat → Int32)) (R : (Nat → Nat → Int32)) (G : (Nat → Int32)) (Q : (Nat → Nat → Int32)) (kkt5 : (Int32 × Int32 × Int32) → Option Int32) (v6 : Int32) (v7 : Int32) (v8 : Int32) (v24 : Int32) (v26 : Int32) (v27 : Int32) : Option Int32 :=
  if v24 < 0 then
  mj_holds_J300 F R G Q kkt5 v6 v7 v8 v26 v27 
  else
  (m4_isAvailable F R G Q v8 v24).bind fun v48 =>
  if v48 = (1 : Int32) then
  mj_holds_J300 F R G Q kkt5 v6 v7 v8 v26 v27 
  else
  some (0 : Int32)
def mj_holds_L242 (F : (Nat → Int32)) (R : (Nat → Nat → Int32)) (G : (Nat → Int32)) (Q : (Nat → Nat → Int32)) (v4 : Int32) (kkt5 : (Int32 × Int32 × Int32) → Option Int32) (t0 : (Int32 × Int32 × Int32)) : Option Int32 :=
  (m4_cellCount F R G Q).bind fun v21 =>
  if v21 ≤ t0.2.2 then
  mj_holds_X353 F R G Q v4 t0.1 t0.2.1
  else
  (m4_nextChannel F R G Q t0.2.2).bind fun v24 =>
  (m4_usedCount F R G Q t0.2.2).bind fun v26 =>
  if 0 ≤ v24 then
  mj_holds_J280 F R G Q kkt5 t0.1 t0.2.1 t0.2.2 v24 v26 (0 : Int32)
  else
  mj_holds_J280 F R G Q kkt5 t0.1 t0.2.1 t0.2.2 v24 v26 (1 : Int32)
def mj_holds_X236 (F : (Nat → Int32)) (R : (Nat → Nat → Int32)) (G : (Nat → Int32)) (Q : (Nat → Nat → Int32)) (v4 : Int32) : Option Int32 :=
  wh (mj_holds_L242 F R G Q v4) 2000 ((0 : Int32), (0 : Int32), (0 : Int32))
def mj_holds_J230 (kkt1 : (Int32 × Int32) → Option Int32) (v2 : Int32) (v3 : Int32) (v56 : Int32)  : Option Int32 :=
  kkt1 ((v2 + v56), (v3 + (1 : Int32)))
def mj_holds_X207 (F : (Nat → Int32)) (R : (Nat → Nat → Int32)) (G : (Nat → Int32)) (Q : (Nat → Nat → Int32)) (kkt1 : (Int32 × Int32) → Option Int32) (v2 : Int32) (v3 : Int32) (v53 : Int32) (v54 : Int32) (v56 : Int32) (v64 : Int32) : Option Int32 :=
  if v54 < 0 then
  mj_holds_J230 kkt1 v2 v3 v56 
  else
  if v64 = 0 then
  some (0 : Int32)
  else
  (m4_isAvailable F R G Q v53 v54).bind fun v69 =>
  if v69 = 0 then
  mj_holds_J230 kkt1 v2 v3 v56 
  else
  some (0 : Int32)
def mj_holds_J199 (kkt61 : (Int32 × Int32) → Option Int32) (v63 : Int32) (v75 : Int32) : Option Int32 :=
  kkt61 (v75, (v63 + (1 : Int32)))
def mj_holds_J184 (F : (Nat → Int32)) (R : (Nat → Nat → Int32)) (G : (Nat → Int32)) (Q : (Nat → Nat → Int32)) (v54 : Int32) (kkt61 : (Int32 × Int32) → Option Int32) (v63 : Int32) (v81 : Int32) : Option Int32 :=
  if ¬ v81 = 0 then
  (m4_groupOf F R G Q v63).bind fun v85 =>
  if (v54 - v54 / v81 * v81) = v85 then
  mj_holds_J199 kkt61 v63 (1 : Int32)
  else
  mj_holds_J199 kkt61 v63 (0 : Int32) else none
def mj_holds_L140 (F : (Nat → Int32)) (R : (Nat → Nat → Int32)) (G : (Nat → Int32)) (Q : (Nat → Nat → Int32)) (a1 : Int32) (v53 : Int32) (v54 : Int32) (kkt61 : (Int32 × Int32) → Option Int32) (t0 : (Int32 × Int32)) : Option Int32 :=
  (m4_cellCount F R G Q).bind fun v72 =>
  if v72 ≤ t0.2 then
  some t0.1
  else
  if v54 < 0 then
  some t0.1
  else
  if t0.1 = 0 then
  (m4_distance F R G Q t0.2 v53).bind fun v79 =>
  if (2 : Int32) ≤ v79 then
  mj_holds_J199 kkt61 t0.2 (0 : Int32)
  else
  if a1 = (2 : Int32) then
  mj_holds_J184 F R G Q v54 kkt61 t0.2 (3 : Int32)
  else
  mj_holds_J184 F R G Q v54 kkt61 t0.2 (7 : Int32)
  else
  mj_holds_J199 kkt61 t0.2 (1 : Int32)
def mj_holds_X134 (F : (Nat → Int32)) (R : (Nat → Nat → Int32)) (G : (Nat → Int32)) (Q : (Nat → Nat → Int32)) (a1 : Int32) (kkt1 : (Int32 × Int32) → Option Int32) (v2 : Int32) (v3 : Int32) (v53 : Int32) (v54 : Int32) (v56 : Int32)  : Option Int32 :=
  (wh (mj_holds_L140 F R G Q a1 v53 v54) 2000 ((0 : Int32), (0 : Int32))).bind fun v64 => mj_holds_X207 F R G Q kkt1 v2 v3 v53 v54 v56 v64
def mj_holds_J128 (kkt59 : Int32 → Option Int32) (v60 : Int32)  : Option Int32 :=
  kkt59 (v60 + (1 : Int32))
def mj_holds_L78 (F : (Nat → Int32)) (R : (Nat → Nat → Int32)) (G : (Nat → Int32)) (Q : (Nat → Nat → Int32)) (a1 : Int32) (kkt1 : (Int32 × Int32) → Option Int32) (v2 : Int32) (v3 : Int32) (v53 : Int32) (v54 : Int32) (v56 : Int32) (kkt59 : Int32 → Option Int32) (t0 : Int32) : Option Int32 :=
  if v3 ≤ t0 then
  mj_holds_X134 F R G Q a1 kkt1 v2 v3 v53 v54 v56 
  else
  if v54 < 0 then
  mj_holds_X134 F R G Q a1 kkt1 v2 v3 v53 v54 v56 
  else
  (m4_cellOf F R G Q t0).bind fun v91 =>
  if v91 < 0 then
  mj_holds_J128 kkt59 t0 
  else
  (m4_channelOf F R G Q t0).bind fun v95 =>
  if v95 = v54 then
  (m4_cellOf F R G Q t0).bind fun v98 =>
  (m4_distance F R G Q v53 v98).bind fun v100 =>
  if a1 ≤ v100 then
  mj_holds_J128 kkt59 t0 
  else
  some (0 : Int32)
  else
  mj_holds_J128 kkt59 t0 
def mj_holds_J75 (F : (Nat → Int32)) (R : (Nat → Nat → Int32)) (G : (Nat → Int32)) (Q : (Nat → Nat → Int32)) (a1 : Int32) (kkt1 : (Int32 × Int32) → Option Int32) (v2 : Int32) (v3 : Int32) (v53 : Int32) (v54 : Int32) (v56 : Int32)  : Option Int32 :=
  wh (mj_holds_L78 F R G Q a1 kkt1 v2 v3 v53 v54 v56) 2000 (0 : Int32)
def mj_holds_J51 (F : (Nat → Int32)) (R : (Nat → Nat → Int32)) (G : (Nat → Int32)) (Q : (Nat → Nat → Int32)) (a1 : Int32) (kkt1 : (Int32 × Int32) → Option Int32) (v2 : Int32) (v3 : Int32) (v53 : Int32) (v54 : Int32) (v56 : Int32) : Option Int32 :=
  if v53 < 0 then
  mj_holds_J75 F R G Q a1 kkt1 v2 v3 v53 v54 v56 
  else
  if 0 ≤ v54 then
  mj_holds_J75 F R G Q a1 kkt1 v2 v3 v53 v54 v56 
  else
  (m4_isInFixedScheme F R G Q v3).bind fun v105 =>
  if v105 = (1 : Int32) then
  mj_holds_J75 F R G Q a1 kkt1 v2 v3 v53 v54 v56 
  else
  some (0 : Int32)
def mj_holds_J38 (F : (Nat → Int32)) (R : (Nat → Nat → Int32)) (G : (Nat → Int32)) (Q : (Nat → Nat → Int32)) (a1 : Int32) (kkt1 : (Int32 × Int32) → Option Int32) (v2 : Int32) (v3 : Int32) (v53 : Int32) (v54 : Int32) : Option Int32 :=
  if v54 < 0 then
  mj_holds_J51 F R G Q a1 kkt1 v2 v3 v53 v54 (0 : Int32)
  else
  mj_holds_J51 F R G Q a1 kkt1 v2 v3 v53 v54 (1 : Int32)
def mj_holds_L7 (F : (Nat → Int32)) (R : (Nat → Nat → Int32)) (G : (Nat → Int32)) (Q : (Nat → Nat → Int32)) (a1 : Int32) (kkt1 : (Int32 × Int32) → Option Int32) (t0 : (Int32 × Int32)) : Option Int32 :=
  if (60 : Int32) ≤ t0.2 then
  mj_holds_X236 F R G Q t0.1
  else
  (m4_cellOf F R G Q t0.2).bind fun v53 =>
  if 0 ≤ v53 then
  (m4_channelOf F R G Q t0.2).bind fun v110 =>
  mj_holds_J38 F R G Q a1 kkt1 t0.1 t0.2 v53 v110
  else
  mj_holds_J38 F R G Q a1 kkt1 t0.1 t0.2 v53 (-9 : Int32)
def mj_holds (F : (Nat → Int32)) (R : (Nat → Nat → Int32)) (G : (Nat → Int32)) (Q : (Nat → Nat → Int32)) (a1 : Int32) : Option Int32 :=
  wh (mj_holds_L7 F R G Q a1) 2000 ((0 : Int32), (0 : Int32))
abbrev rm_L_holds : Room := { frames := 6, cells := 0, slots := 0, locals := 143 }
set_option maxHeartbeats 4000000 in
set_option maxRecDepth 100000 in
theorem c_L_holds (l : Launch) (D : va_G) (y : Nat → ClassId) (x hi sn sc : Nat) (A B : Nat → Nat) (F : (Nat → Int32)) (R : (Nat → Nat → Int32)) (G : (Nat → Int32)) (Q : (Nat → Nat → Int32)) (a1 : Int32) (r : Int32) (hm : mj_holds F R G Q a1 = some r) : Met l yL_holds (wy_s yL_holds cL_holds 9 (some .boolean)) rm_L_holds (pc_R D y [.ref x, .int a1] (fun H => va_P D vwCl (w4_s x (A 0) hi sn sc) H ∧ va_P D vwCl (w2_s y (B 0) A F R) H ∧ va_P D vwCl (w1_s y B G Q) H)) (qc_R r) 0 0 (fun _ => False) := by
  refine met_R (by decide) (Nat.le_of_ble_eq_true rfl) ?_
  intro p e s m args below meth c X h0 ls hl
  obtain ⟨hP4, hP2, hP1⟩ := h0
  replace hl : lv_has ls 9 [(0, .ref x), (1, .int a1)] := hl
  replace X : cx p s m args meth c cL_holds 9 (some .boolean) RL D y := X
  unfold mj_holds at hm
  refine lv_iconst (v := (0 : Int32)) (cx_x X) (cx_b X) dL_holds_0 (by decide) ?_
  refine lv_istore_n (lv' := [(2, .int (0 : Int32)), (0, .ref x), (1, .int a1)]) (cx_x X) (cx_b X) dL_holds_1 rfl hl (by decide) rfl (fun ls hl => ?_)
  refine lv_iconst (v := (0 : Int32)) (cx_x X) (cx_b X) dL_holds_2 (by decide) ?_
  refine lv_istore_n (lv' := [(3, .int (0 : Int32)), (2, .int (0 : Int32)), (0, .ref x), (1, .int a1)]) (cx_x X) (cx_b X) dL_holds_3 rfl hl (by decide) rfl (fun ls hl => ?_)
  refine lv_iconst (v := (0 : Int32)) (cx_x X) (cx_b X) dL_holds_4 (by decide) ?_
  refine lv_istore (lv' := [(4, .int (0 : Int32)), (3, .int (0 : Int32)), (2, .int (0 : Int32)), (0, .ref x), (1, .int a1)]) (cx_x X) (cx_b X) dL_holds_5 hl (by decide) rfl (fun ls hl => ?_)
  have Xt1 : ∀ (v4 : Int32) , mj_holds_X236 F R G Q v4 = some r → ∀ ls, lv_has ls 9 [(0, .ref x), (2, .int v4), (3, .int (0 : Int32))] → gr p l e rm_L_holds s m args below meth c r (F0 m 236 ls []) := by
    intro v4 hm ls hl
    unfold mj_holds_X236 at hm
    refine lv_iconst (v := (0 : Int32)) (cx_x X) (cx_b X) dL_holds_236 (by decide) ?_
    refine lv_istore (lv' := [(4, .int (0 : Int32)), (0, .ref x), (2, .int v4), (3, .int (0 : Int32))]) (cx_x X) (cx_b X) dL_holds_237 hl (by decide) rfl (fun ls hl => ?_)
    refine lv_iconst (v := (0 : Int32)) (cx_x X) (cx_b X) dL_holds_239 (by decide) ?_
    refine lv_istore (lv' := [(5, .int (0 : Int32)), (4, .int (0 : Int32)), (0, .ref x), (2, .int v4), (3, .int (0 : Int32))]) (cx_x X) (cx_b X) dL_holds_240 hl (by decide) rfl (fun ls hl => ?_)
    have Xt5 : ∀ (v9 : Int32) (v10 : Int32) , mj_holds_X353 F R G Q v4 v9 v10 = some r → ∀ ls, lv_has ls 9 [(0, .ref x), (2, .int v4), (3, .int v9), (4, .int v10)] → gr p l e rm_L_holds s m args below meth c r (F0 m 353 ls []) := by
      intro v9 v10 hm ls hl
      unfold mj_holds_X353 at hm
      refine lv_iload_n (cx_x X) (cx_b X) dL_holds_353 rfl (lv_at hl 2 rfl) ?_
      refine lv_iload_n (cx_x X) (cx_b X) dL_holds_354 rfl (lv_at hl 1 rfl) ?_
      refine lv_icmp_ne (tgt := 382) (cx_x X) (cx_b X) dL_holds_355 (by decide) (fun c11 => ?_) (fun c11 => ?_)
      · replace hm := if_F c11 hm
        refine lv_iconst (v := (0 : Int32)) (cx_x X) (cx_b X) dL_holds_382 (by decide) ?_
        exact gr_z X (by decide) hm dL_holds_383
      · replace hm := if_T c11 hm
        refine lv_iload (cx_x X) (cx_b X) dL_holds_358 (lv_at hl 3 rfl) ?_
        refine lv_aload_n (cx_x X) (cx_b X) dL_holds_360 rfl (lv_at hl 0 rfl) ?_
        obtain ⟨v13, h12, hm⟩ := bnd hm
        refine af_R (rn_V (As := []) (rest := [.int v10]) X (c_X4_blockingCells l D y x hi sn sc A B F R G Q  _ h12) vq_L_121 ⟨rfl, rfl⟩ ⟨Nat.le_of_ble_eq_true rfl, Nat.le_of_ble_eq_true rfl⟩ (rec_4 X hP4) ⟨hP4, hP2, hP1⟩ rfl hl.1 rfl (Nat.le_of_ble_eq_true rfl) dL_holds_361 ⟨Nat.le_refl _, Nat.le_refl _⟩) ?_
        refine lv_icmp_ne (tgt := 382) (cx_x X) (cx_b X) dL_holds_364 (by decide) (fun c14 => ?_) (fun c14 => ?_)
        · replace hm := if_F c14 hm
          refine lv_iconst (v := (0 : Int32)) (cx_x X) (cx_b X) dL_holds_382 (by decide) ?_
          exact gr_z X (by decide) hm dL_holds_383
        · replace hm := if_T c14 hm
          refine lv_aload_n (cx_x X) (cx_b X) dL_holds_367 rfl (lv_at hl 0 rfl) ?_
          obtain ⟨v16, h15, hm⟩ := bnd hm
          refine af_R (rn_V (As := []) (rest := []) X (c_X4_blocked l D y x hi sn sc A B F R G Q  _ h15) vq_L_29 ⟨rfl, rfl⟩ ⟨Nat.le_of_ble_eq_true rfl, Nat.le_of_ble_eq_true rfl⟩ (rec_4 X hP4) ⟨hP4, hP2, hP1⟩ rfl hl.1 rfl (Nat.le_of_ble_eq_true rfl) dL_holds_368 ⟨Nat.le_refl _, Nat.le_refl _⟩) ?_
          refine lv_aload_n (cx_x X) (cx_b X) dL_holds_371 rfl (lv_at hl 0 rfl) ?_
          obtain ⟨v18, h17, hm⟩ := bnd hm
          refine af_R (rn_V (As := []) (rest := [.int v16]) X (c_X4_attempts l D y x hi sn sc A B F R G Q  _ h17) vq_L_24 ⟨rfl, rfl⟩ ⟨Nat.le_of_ble_eq_true rfl, Nat.le_of_ble_eq_true rfl⟩ (rec_4 X hP4) ⟨hP4, hP2, hP1⟩ rfl hl.1 rfl (Nat.le_of_ble_eq_true rfl) dL_holds_372 ⟨Nat.le_refl _, Nat.le_refl _⟩) ?_
          refine lv_icmp_gt (tgt := 382) (cx_x X) (cx_b X) dL_holds_375 (by decide) (fun c19 => ?_) (fun c19 => ?_)
          · replace hm := if_T c19 hm
            refine lv_iconst (v := (0 : Int32)) (cx_x X) (cx_b X) dL_holds_382 (by decide) ?_
            exact gr_z X (by decide) hm dL_holds_383
          · replace hm := if_F c19 hm
            refine lv_iconst (v := (1 : Int32)) (cx_x X) (cx_b X) dL_holds_378 (by decide) ?_
            refine lv_goto (tgt := 383) (cx_x X) (cx_b X) dL_holds_379 (by decide) ?_
            exact gr_z X (by decide) hm dL_holds_383
    have Lt5 : ∀ (nt5 : Nat) (v6 : Int32) (v7 : Int32) (v8 : Int32) , wh (mj_holds_L242 F R G Q v4) nt5 (v6, v7, v8) = some r → ∀ ls, lv_has ls 9 [(0, .ref x), (2, .int v4), (3, .int v6), (4, .int v7), (5, .int v8)] → gr p l e rm_L_holds s m args below meth c r (F0 m 242 ls []) := by
      intro nt5
      induction nt5 with
      | zero => intro v6 v7 v8 hm; cases hm
      | succ nt5 iht5 =>
        intro v6 v7 v8 hm ls hl
        replace hm : (mj_holds_L242 F R G Q v4) (wh (mj_holds_L242 F R G Q v4) nt5) (v6, v7, v8) = some r := hm
        dsimp only [mj_holds_L242] at hm
        refine lv_iload (cx_x X) (cx_b X) dL_holds_242 (lv_at hl 4 rfl) ?_
        refine lv_aload_n (cx_x X) (cx_b X) dL_holds_244 rfl (lv_at hl 0 rfl) ?_
        obtain ⟨v21, h20, hm⟩ := bnd hm
        refine af_R (rn_V (As := []) (rest := [.int v8]) X (c_X4_cellCount l D y x hi sn sc A B F R G Q  _ h20) vq_L_8 ⟨rfl, rfl⟩ ⟨Nat.le_of_ble_eq_true rfl, Nat.le_of_ble_eq_true rfl⟩ (rec_4 X hP4) ⟨hP4, hP2, hP1⟩ rfl hl.1 rfl (Nat.le_of_ble_eq_true rfl) dL_holds_245 ⟨Nat.le_refl _, Nat.le_refl _⟩) ?_
        refine lv_icmp_ge (tgt := 353) (cx_x X) (cx_b X) dL_holds_248 (by decide) (fun c22 => ?_) (fun c22 => ?_)
        · replace hm := if_T c22 hm
          exact Xt5 _ _ hm _ (lv_sub hl [0, 1, 2, 3] rfl)
        · replace hm := if_F c22 hm
          refine lv_aload_n (cx_x X) (cx_b X) dL_holds_251 rfl (lv_at hl 0 rfl) ?_
          refine lv_iload (cx_x X) (cx_b X) dL_holds_252 (lv_at hl 4 rfl) ?_
          obtain ⟨v24, h23, hm⟩ := bnd hm
          refine af_R (rn_V (As := [.int v8]) (rest := []) X (c_X4_nextChannel l D y x hi sn sc A B F R G Q v8  _ h23) vq_L_67 ⟨rfl, rfl⟩ ⟨Nat.le_of_ble_eq_true rfl, Nat.le_of_ble_eq_true rfl⟩ (rec_4 X hP4) ⟨hP4, hP2, hP1⟩ rfl hl.1 rfl (Nat.le_of_ble_eq_true rfl) dL_holds_254 ⟨Nat.le_refl _, Nat.le_refl _⟩) ?_
          refine lv_istore (lv' := [(6, .int v24), (0, .ref x), (2, .int v4), (3, .int v6), (4, .int v7), (5, .int v8)]) (cx_x X) (cx_b X) dL_holds_257 hl (by decide) rfl (fun ls hl => ?_)
          refine lv_iload_n (cx_x X) (cx_b X) dL_holds_259 rfl (lv_at hl 3 rfl) ?_
          refine lv_aload_n (cx_x X) (cx_b X) dL_holds_260 rfl (lv_at hl 1 rfl) ?_
          refine lv_iload (cx_x X) (cx_b X) dL_holds_261 (lv_at hl 5 rfl) ?_
          obtain ⟨v26, h25, hm⟩ := bnd hm
          refine af_R (rn_V (As := [.int v8]) (rest := [.int v6]) X (c_X4_usedCount l D y x hi sn sc A B F R G Q v8  _ h25) vq_L_76 ⟨rfl, rfl⟩ ⟨Nat.le_of_ble_eq_true rfl, Nat.le_of_ble_eq_true rfl⟩ (rec_4 X hP4) ⟨hP4, hP2, hP1⟩ rfl hl.1 rfl (Nat.le_of_ble_eq_true rfl) dL_holds_263 ⟨Nat.le_refl _, Nat.le_refl _⟩) ?_
          refine lv_iadd (cx_x X) (cx_b X) dL_holds_266 ?_
          refine lv_istore_n (lv' := [(3, .int (v6 + v26)), (6, .int v24), (0, .ref x), (2, .int v4), (4, .int v7), (5, .int v8)]) (cx_x X) (cx_b X) dL_holds_267 rfl hl (by decide) rfl (fun ls hl => ?_)
          refine lv_iload (cx_x X) (cx_b X) dL_holds_268 (lv_at hl 4 rfl) ?_
          refine lv_iload (cx_x X) (cx_b X) dL_holds_270 (lv_at hl 1 rfl) ?_
          have Jt28 : ∀ (v27 : Int32) , mj_holds_J280 F R G Q (wh (mj_holds_L242 F R G Q v4) nt5) v6 v7 v8 v24 v26 v27 = some r → ∀ ls, lv_has ls 9 [(0, .ref x), (2, .int v4), (3, .int (v6 + v26)), (5, .int v8), (6, .int v24)] → gr p l e rm_L_holds s m args below meth c r (F0 m 280 ls [.int v27, .int v7]) := by
            intro v27 hm ls hl
            unfold mj_holds_J280 at hm
            refine lv_iadd (cx_x X) (cx_b X) dL_holds_280 ?_
            refine lv_istore (lv' := [(4, .int (v7 + v27)), (0, .ref x), (2, .int v4), (3, .int (v6 + v26)), (5, .int v8), (6, .int v24)]) (cx_x X) (cx_b X) dL_holds_281 hl (by decide) rfl (fun ls hl => ?_)
            refine lv_iload (cx_x X) (cx_b X) dL_holds_283 (lv_at hl 5 rfl) ?_
            have Jt29 : mj_holds_J300 F R G Q (wh (mj_holds_L242 F R G Q v4) nt5) v6 v7 v8 v26 v27  = some r → ∀ ls, lv_has ls 9 [(0, .ref x), (2, .int v4), (3, .int (v6 + v26)), (4, .int (v7 + v27)), (5, .int v8)] → gr p l e rm_L_holds s m args below meth c r (F0 m 300 ls []) := by
              intro hm ls hl
              unfold mj_holds_J300 at hm
              refine lv_aload_n (cx_x X) (cx_b X) dL_holds_300 rfl (lv_at hl 0 rfl) ?_
              refine lv_iload (cx_x X) (cx_b X) dL_holds_301 (lv_at hl 4 rfl) ?_
              obtain ⟨v31, h30, hm⟩ := bnd hm
              refine af_R (rn_V (As := [.int v8]) (rest := []) X (c_X4_availableCount l D y x hi sn sc A B F R G Q v8  _ h30) vq_L_70 ⟨rfl, rfl⟩ ⟨Nat.le_of_ble_eq_true rfl, Nat.le_of_ble_eq_true rfl⟩ (rec_4 X hP4) ⟨hP4, hP2, hP1⟩ rfl hl.1 rfl (Nat.le_of_ble_eq_true rfl) dL_holds_303 ⟨Nat.le_refl _, Nat.le_refl _⟩) ?_
              have Jt32 : mj_holds_J320 F R G Q (wh (mj_holds_L242 F R G Q v4) nt5) v6 v7 v8 v26 v27  = some r → ∀ ls, lv_has ls 9 [(0, .ref x), (2, .int v4), (3, .int (v6 + v26)), (4, .int (v7 + v27)), (5, .int v8)] → gr p l e rm_L_holds s m args below meth c r (F0 m 320 ls []) := by
                intro hm ls hl
                unfold mj_holds_J320 at hm
                refine lv_aload_n (cx_x X) (cx_b X) dL_holds_320 rfl (lv_at hl 0 rfl) ?_
                refine lv_iload (cx_x X) (cx_b X) dL_holds_321 (lv_at hl 4 rfl) ?_
                obtain ⟨v34, h33, hm⟩ := bnd hm
                refine af_R (rn_V (As := [.int v8]) (rest := []) X (c_X4_nextDonor l D y x hi sn sc A B F R G Q v8  _ h33) vq_L_79 ⟨rfl, rfl⟩ ⟨Nat.le_of_ble_eq_true rfl, Nat.le_of_ble_eq_true rfl⟩ (rec_4 X hP4) ⟨hP4, hP2, hP1⟩ rfl hl.1 rfl (Nat.le_of_ble_eq_true rfl) dL_holds_323 ⟨Nat.le_refl _, Nat.le_refl _⟩) ?_
                have Jt35 : mj_holds_J347 (wh (mj_holds_L242 F R G Q v4) nt5) v6 v7 v8 v26 v27  = some r → ∀ ls, lv_has ls 9 [(0, .ref x), (2, .int v4), (3, .int (v6 + v26)), (4, .int (v7 + v27)), (5, .int v8)] → gr p l e rm_L_holds s m args below meth c r (F0 m 347 ls []) := by
                  intro hm ls hl
                  unfold mj_holds_J347 at hm
                  refine lv_iinc (v := (v8 + (1 : Int32))) (lv' := [(5, .int (v8 + (1 : Int32))), (0, .ref x), (2, .int v4), (3, .int (v6 + v26)), (4, .int (v7 + v27))]) (cx_x X) (cx_b X) dL_holds_347 hl (k := 4) rfl (by rfl) (by decide) rfl (fun ls hl => ?_)
                  refine lv_goto (tgt := 242) (cx_x X) (cx_b X) dL_holds_350 (by decide) ?_
                  exact iht5 _ _ _ hm _ (lv_sub hl [1, 2, 3, 4, 0] rfl)
                refine lv_if_lt (tgt := 347) (cx_x X) (cx_b X) dL_holds_326 (by decide) (fun c36 => ?_) (fun c36 => ?_)
                · replace hm := if_T c36 hm
                  exact Jt35 hm _ (lv_sub hl [0, 1, 2, 3, 4] rfl)
                · replace hm := if_F c36 hm
                  refine lv_aload_n (cx_x X) (cx_b X) dL_holds_329 rfl (lv_at hl 0 rfl) ?_
                  refine lv_iload (cx_x X) (cx_b X) dL_holds_330 (lv_at hl 4 rfl) ?_
                  refine lv_aload_n (cx_x X) (cx_b X) dL_holds_332 rfl (lv_at hl 0 rfl) ?_
                  refine lv_iload (cx_x X) (cx_b X) dL_holds_333 (lv_at hl 4 rfl) ?_
                  obtain ⟨v38, h37, hm⟩ := bnd hm
                  refine af_R (rn_V (As := [.int v8]) (rest := [.int v8, .ref x]) X (c_X4_nextDonor l D y x hi sn sc A B F R G Q v8  _ h37) vq_L_79 ⟨rfl, rfl⟩ ⟨Nat.le_of_ble_eq_true rfl, Nat.le_of_ble_eq_true rfl⟩ (rec_4 X hP4) ⟨hP4, hP2, hP1⟩ rfl hl.1 rfl (Nat.le_of_ble_eq_true rfl) dL_holds_335 ⟨Nat.le_refl _, Nat.le_refl _⟩) ?_
                  obtain ⟨v40, h39, hm⟩ := bnd hm
                  refine af_R (rn_V (As := [.int v8, .int v38]) (rest := []) X (c_X4_distance l D y x hi sn sc A B F R G Q v8 v38  _ h39) vq_L_112 ⟨rfl, rfl⟩ ⟨Nat.le_of_ble_eq_true rfl, Nat.le_of_ble_eq_true rfl⟩ (rec_4 X hP4) ⟨hP4, hP2, hP1⟩ rfl hl.1 rfl (Nat.le_of_ble_eq_true rfl) dL_holds_338 ⟨Nat.le_refl _, Nat.le_refl _⟩) ?_
                  refine lv_iconst (v := (1 : Int32)) (cx_x X) (cx_b X) dL_holds_341 (by decide) ?_
                  refine lv_icmp_eq (tgt := 347) (cx_x X) (cx_b X) dL_holds_342 (by decide) (fun c41 => ?_) (fun c41 => ?_)
                  · replace hm := if_T c41 hm
                    exact Jt35 hm _ (lv_sub hl [0, 1, 2, 3, 4] rfl)
                  · replace hm := if_F c41 hm
                    refine lv_iconst (v := (0 : Int32)) (cx_x X) (cx_b X) dL_holds_345 (by decide) ?_
                    exact gr_z X (by decide) hm dL_holds_346
              refine lv_if_le (tgt := 320) (cx_x X) (cx_b X) dL_holds_306 (by decide) (fun c42 => ?_) (fun c42 => ?_)
              · replace hm := if_T c42 hm
                exact Jt32 hm _ (lv_sub hl [0, 1, 2, 3, 4] rfl)
              · replace hm := if_F c42 hm
                refine lv_aload_n (cx_x X) (cx_b X) dL_holds_309 rfl (lv_at hl 0 rfl) ?_
                refine lv_iload (cx_x X) (cx_b X) dL_holds_310 (lv_at hl 4 rfl) ?_
                obtain ⟨v44, h43, hm⟩ := bnd hm
                refine af_R (rn_V (As := [.int v8]) (rest := []) X (c_X4_nextDonor l D y x hi sn sc A B F R G Q v8  _ h43) vq_L_79 ⟨rfl, rfl⟩ ⟨Nat.le_of_ble_eq_true rfl, Nat.le_of_ble_eq_true rfl⟩ (rec_4 X hP4) ⟨hP4, hP2, hP1⟩ rfl hl.1 rfl (Nat.le_of_ble_eq_true rfl) dL_holds_312 ⟨Nat.le_refl _, Nat.le_refl _⟩) ?_
                refine lv_bipush (v := (-9 : Int32)) (cx_x X) (cx_b X) dL_holds_315 (by decide) ?_
                refine lv_icmp_ne (tgt := 345) (cx_x X) (cx_b X) dL_holds_317 (by decide) (fun c45 => ?_) (fun c45 => ?_)
                · replace hm := if_F c45 hm
                  refine lv_iconst (v := (0 : Int32)) (cx_x X) (cx_b X) dL_holds_345 (by decide) ?_
                  exact gr_z X (by decide) hm dL_holds_346
                · replace hm := if_T c45 hm
                  exact Jt32 hm _ (lv_sub hl [0, 1, 2, 3, 4] rfl)
            refine lv_if_lt (tgt := 300) (cx_x X) (cx_b X) dL_holds_285 (by decide) (fun c46 => ?_) (fun c46 => ?_)
            · replace hm := if_T c46 hm
              exact Jt29 hm _ (lv_sub hl [1, 2, 3, 0, 4] rfl)
            · replace hm := if_F c46 hm
              refine lv_aload_n (cx_x X) (cx_b X) dL_holds_288 rfl (lv_at hl 1 rfl) ?_
              refine lv_iload (cx_x X) (cx_b X) dL_holds_289 (lv_at hl 4 rfl) ?_
              refine lv_iload (cx_x X) (cx_b X) dL_holds_291 (lv_at hl 5 rfl) ?_
              obtain ⟨v48, h47, hm⟩ := bnd hm
              refine af_R (rn_V (As := [.int v8, .int v24]) (rest := []) X (c_X4_isAvailable l D y x hi sn sc A B F R G Q v8 v24  _ h47) vq_L_118 ⟨rfl, rfl⟩ ⟨Nat.le_of_ble_eq_true rfl, Nat.le_of_ble_eq_true rfl⟩ (rec_4 X hP4) ⟨hP4, hP2, hP1⟩ rfl hl.1 rfl (Nat.le_of_ble_eq_true rfl) dL_holds_293 ⟨Nat.le_refl _, Nat.le_refl _⟩) ?_
              refine lv_iconst (v := (1 : Int32)) (cx_x X) (cx_b X) dL_holds_296 (by decide) ?_
              refine lv_icmp_ne (tgt := 345) (cx_x X) (cx_b X) dL_holds_297 (by decide) (fun c49 => ?_) (fun c49 => ?_)
              · replace hm := if_F c49 hm
                refine lv_iconst (v := (0 : Int32)) (cx_x X) (cx_b X) dL_holds_345 (by decide) ?_
                exact gr_z X (by decide) hm dL_holds_346
              · replace hm := if_T c49 hm
                exact Jt29 hm _ (lv_sub hl [1, 2, 3, 0, 4] rfl)
          refine lv_if_ge (tgt := 279) (cx_x X) (cx_b X) dL_holds_272 (by decide) (fun c50 => ?_) (fun c50 => ?_)
          · replace hm := if_T c50 hm
            refine lv_iconst (v := (0 : Int32)) (cx_x X) (cx_b X) dL_holds_279 (by decide) ?_
            exact Jt28 _ hm _ (lv_sub hl [2, 3, 0, 5, 1] rfl)
          · replace hm := if_F c50 hm
            refine lv_iconst (v := (1 : Int32)) (cx_x X) (cx_b X) dL_holds_275 (by decide) ?_
            refine lv_goto (tgt := 280) (cx_x X) (cx_b X) dL_holds_276 (by decide) ?_
            exact Jt28 _ hm _ (lv_sub hl [2, 3, 0, 5, 1] rfl)
    exact Lt5 _ _ _ _ hm _ (lv_sub hl [2, 3, 4, 1, 0] rfl)
  have Lt1 : ∀ (nt1 : Nat) (v2 : Int32) (v3 : Int32) , wh (mj_holds_L7 F R G Q a1) nt1 (v2, v3) = some r → ∀ ls, lv_has ls 9 [(0, .ref x), (1, .int a1), (2, .int v2), (3, .int (0 : Int32)), (4, .int v3)] → gr p l e rm_L_holds s m args below meth c r (F0 m 7 ls []) := by
    intro nt1
    induction nt1 with
    | zero => intro v2 v3 hm; cases hm
    | succ nt1 iht1 =>
      intro v2 v3 hm ls hl
      replace hm : (mj_holds_L7 F R G Q a1) (wh (mj_holds_L7 F R G Q a1) nt1) (v2, v3) = some r := hm
      dsimp only [mj_holds_L7] at hm
      refine lv_iload (cx_x X) (cx_b X) dL_holds_7 (lv_at hl 4 rfl) ?_
      refine lv_bipush (v := (60 : Int32)) (cx_x X) (cx_b X) dL_holds_9 (by decide) ?_
      refine lv_icmp_ge (tgt := 236) (cx_x X) (cx_b X) dL_holds_11 (by decide) (fun c51 => ?_) (fun c51 => ?_)
      · replace hm := if_T c51 hm
        exact Xt1 _ hm _ (lv_sub hl [0, 2, 3] rfl)
      · replace hm := if_F c51 hm
        refine lv_aload_n (cx_x X) (cx_b X) dL_holds_14 rfl (lv_at hl 0 rfl) ?_
        refine lv_iload (cx_x X) (cx_b X) dL_holds_15 (lv_at hl 4 rfl) ?_
        obtain ⟨v53, h52, hm⟩ := bnd hm
        refine af_R (rn_V (As := [.int v3]) (rest := []) X (c_X4_cellOf l D y x hi sn sc A B F R G Q v3  _ h52) vq_L_53 ⟨rfl, rfl⟩ ⟨Nat.le_of_ble_eq_true rfl, Nat.le_of_ble_eq_true rfl⟩ (rec_4 X hP4) ⟨hP4, hP2, hP1⟩ rfl hl.1 rfl (Nat.le_of_ble_eq_true rfl) dL_holds_17 ⟨Nat.le_refl _, Nat.le_refl _⟩) ?_
        refine lv_istore (lv' := [(5, .int v53), (0, .ref x), (1, .int a1), (2, .int v2), (3, .int (0 : Int32)), (4, .int v3)]) (cx_x X) (cx_b X) dL_holds_20 hl (by decide) rfl (fun ls hl => ?_)
        refine lv_iload (cx_x X) (cx_b X) dL_holds_22 (lv_at hl 0 rfl) ?_
        have Jt55 : ∀ (v54 : Int32) , mj_holds_J38 F R G Q a1 (wh (mj_holds_L7 F R G Q a1) nt1) v2 v3 v53 v54 = some r → ∀ ls, lv_has ls 9 [(0, .ref x), (1, .int a1), (2, .int v2), (3, .int (0 : Int32)), (4, .int v3), (5, .int v53)] → gr p l e rm_L_holds s m args below meth c r (F0 m 38 ls [.int v54]) := by
          intro v54 hm ls hl
          unfold mj_holds_J38 at hm
          refine lv_istore (lv' := [(6, .int v54), (0, .ref x), (1, .int a1), (2, .int v2), (3, .int (0 : Int32)), (4, .int v3), (5, .int v53)]) (cx_x X) (cx_b X) dL_holds_38 hl (by decide) rfl (fun ls hl => ?_)
          refine lv_iload_n (cx_x X) (cx_b X) dL_holds_40 rfl (lv_at hl 3 rfl) ?_
          refine lv_iload (cx_x X) (cx_b X) dL_holds_41 (lv_at hl 0 rfl) ?_
          have Jt57 : ∀ (v56 : Int32) , mj_holds_J51 F R G Q a1 (wh (mj_holds_L7 F R G Q a1) nt1) v2 v3 v53 v54 v56 = some r → ∀ ls, lv_has ls 9 [(0, .ref x), (1, .int a1), (3, .int (0 : Int32)), (4, .int v3), (5, .int v53), (6, .int v54)] → gr p l e rm_L_holds s m args below meth c r (F0 m 51 ls [.int v56, .int v2]) := by
            intro v56 hm ls hl
            unfold mj_holds_J51 at hm
            refine lv_iadd (cx_x X) (cx_b X) dL_holds_51 ?_
            refine lv_istore_n (lv' := [(2, .int (v2 + v56)), (0, .ref x), (1, .int a1), (3, .int (0 : Int32)), (4, .int v3), (5, .int v53), (6, .int v54)]) (cx_x X) (cx_b X) dL_holds_52 rfl hl (by decide) rfl (fun ls hl => ?_)
            refine lv_iload (cx_x X) (cx_b X) dL_holds_53 (lv_at hl 5 rfl) ?_
            have Jt58 : mj_holds_J75 F R G Q a1 (wh (mj_holds_L7 F R G Q a1) nt1) v2 v3 v53 v54 v56  = some r → ∀ ls, lv_has ls 9 [(0, .ref x), (1, .int a1), (2, .int (v2 + v56)), (3, .int (0 : Int32)), (4, .int v3), (5, .int v53), (6, .int v54)] → gr p l e rm_L_holds s m args below meth c r (F0 m 75 ls []) := by
              intro hm ls hl
              unfold mj_holds_J75 at hm
              refine lv_iconst (v := (0 : Int32)) (cx_x X) (cx_b X) dL_holds_75 (by decide) ?_
              refine lv_istore (lv' := [(7, .int (0 : Int32)), (0, .ref x), (1, .int a1), (2, .int (v2 + v56)), (3, .int (0 : Int32)), (4, .int v3), (5, .int v53), (6, .int v54)]) (cx_x X) (cx_b X) dL_holds_76 hl (by decide) rfl (fun ls hl => ?_)
              have Xt59 : mj_holds_X134 F R G Q a1 (wh (mj_holds_L7 F R G Q a1) nt1) v2 v3 v53 v54 v56  = some r → ∀ ls, lv_has ls 9 [(0, .ref x), (1, .int a1), (2, .int (v2 + v56)), (3, .int (0 : Int32)), (4, .int v3), (5, .int v53), (6, .int v54)] → gr p l e rm_L_holds s m args below meth c r (F0 m 134 ls []) := by
                intro hm ls hl
                unfold mj_holds_X134 at hm
                refine lv_iconst (v := (0 : Int32)) (cx_x X) (cx_b X) dL_holds_134 (by decide) ?_
                refine lv_istore (lv' := [(7, .int (0 : Int32)), (0, .ref x), (1, .int a1), (2, .int (v2 + v56)), (3, .int (0 : Int32)), (4, .int v3), (5, .int v53), (6, .int v54)]) (cx_x X) (cx_b X) dL_holds_135 hl (by decide) rfl (fun ls hl => ?_)
                refine lv_iconst (v := (0 : Int32)) (cx_x X) (cx_b X) dL_holds_137 (by decide) ?_
                refine lv_istore (lv' := [(8, .int (0 : Int32)), (7, .int (0 : Int32)), (0, .ref x), (1, .int a1), (2, .int (v2 + v56)), (3, .int (0 : Int32)), (4, .int v3), (5, .int v53), (6, .int v54)]) (cx_x X) (cx_b X) dL_holds_138 hl (by decide) rfl (fun ls hl => ?_)
                obtain ⟨qt61, hm, hmt61⟩ := bnd hm
                have Xt61 : ∀ (v64 : Int32) , mj_holds_X207 F R G Q (wh (mj_holds_L7 F R G Q a1) nt1) v2 v3 v53 v54 v56 v64 = some r → ∀ ls, lv_has ls 9 [(0, .ref x), (1, .int a1), (2, .int (v2 + v56)), (3, .int (0 : Int32)), (4, .int v3), (5, .int v53), (6, .int v54), (7, .int v64)] → gr p l e rm_L_holds s m args below meth c r (F0 m 207 ls []) := by
                  intro v64 hm ls hl
                  unfold mj_holds_X207 at hm
                  refine lv_iload (cx_x X) (cx_b X) dL_holds_207 (lv_at hl 6 rfl) ?_
                  have Jt65 : mj_holds_J230 (wh (mj_holds_L7 F R G Q a1) nt1) v2 v3 v56  = some r → ∀ ls, lv_has ls 9 [(0, .ref x), (1, .int a1), (2, .int (v2 + v56)), (3, .int (0 : Int32)), (4, .int v3)] → gr p l e rm_L_holds s m args below meth c r (F0 m 230 ls []) := by
                    intro hm ls hl
                    unfold mj_holds_J230 at hm
                    refine lv_iinc (v := (v3 + (1 : Int32))) (lv' := [(4, .int (v3 + (1 : Int32))), (0, .ref x), (1, .int a1), (2, .int (v2 + v56)), (3, .int (0 : Int32))]) (cx_x X) (cx_b X) dL_holds_230 hl (k := 4) rfl (by rfl) (by decide) rfl (fun ls hl => ?_)
                    refine lv_goto (tgt := 7) (cx_x X) (cx_b X) dL_holds_233 (by decide) ?_
                    exact iht1 _ _ hm _ (lv_sub hl [1, 2, 3, 4, 0] rfl)
                  refine lv_if_lt (tgt := 230) (cx_x X) (cx_b X) dL_holds_209 (by decide) (fun c66 => ?_) (fun c66 => ?_)
                  · replace hm := if_T c66 hm
                    exact Jt65 hm _ (lv_sub hl [0, 1, 2, 3, 4] rfl)
                  · replace hm := if_F c66 hm
                    refine lv_iload (cx_x X) (cx_b X) dL_holds_212 (lv_at hl 7 rfl) ?_
                    refine lv_if_eq (tgt := 228) (cx_x X) (cx_b X) dL_holds_214 (by decide) (fun c67 => ?_) (fun c67 => ?_)
                    · replace hm := if_T c67 hm
                      refine lv_iconst (v := (0 : Int32)) (cx_x X) (cx_b X) dL_holds_228 (by decide) ?_
                      exact gr_z X (by decide) hm dL_holds_229
                    · replace hm := if_F c67 hm
                      refine lv_aload_n (cx_x X) (cx_b X) dL_holds_217 rfl (lv_at hl 0 rfl) ?_
                      refine lv_iload (cx_x X) (cx_b X) dL_holds_218 (lv_at hl 5 rfl) ?_
                      refine lv_iload (cx_x X) (cx_b X) dL_holds_220 (lv_at hl 6 rfl) ?_
                      obtain ⟨v69, h68, hm⟩ := bnd hm
                      refine af_R (rn_V (As := [.int v53, .int v54]) (rest := []) X (c_X4_isAvailable l D y x hi sn sc A B F R G Q v53 v54  _ h68) vq_L_118 ⟨rfl, rfl⟩ ⟨Nat.le_of_ble_eq_true rfl, Nat.le_of_ble_eq_true rfl⟩ (rec_4 X hP4) ⟨hP4, hP2, hP1⟩ rfl hl.1 rfl (Nat.le_of_ble_eq_true rfl) dL_holds_222 ⟨Nat.le_refl _, Nat.le_refl _⟩) ?_
                      refine lv_if_eq (tgt := 230) (cx_x X) (cx_b X) dL_holds_225 (by decide) (fun c70 => ?_) (fun c70 => ?_)
                      · replace hm := if_T c70 hm
                        exact Jt65 hm _ (lv_sub hl [0, 1, 2, 3, 4] rfl)
                      · replace hm := if_F c70 hm
                        refine lv_iconst (v := (0 : Int32)) (cx_x X) (cx_b X) dL_holds_228 (by decide) ?_
                        exact gr_z X (by decide) hm dL_holds_229
                have Lt61 : ∀ (nt61 : Nat) (v62 : Int32) (v63 : Int32) , wh (mj_holds_L140 F R G Q a1 v53 v54) nt61 (v62, v63) = some qt61 → ∀ ls, lv_has ls 9 [(0, .ref x), (1, .int a1), (2, .int (v2 + v56)), (3, .int (0 : Int32)), (4, .int v3), (5, .int v53), (6, .int v54), (7, .int v62), (8, .int v63)] → gr p l e rm_L_holds s m args below meth c r (F0 m 140 ls []) := by
                  intro nt61
                  induction nt61 with
                  | zero => intro v62 v63 hm; cases hm
                  | succ nt61 iht61 =>
                    intro v62 v63 hm ls hl
                    replace hm : (mj_holds_L140 F R G Q a1 v53 v54) (wh (mj_holds_L140 F R G Q a1 v53 v54) nt61) (v62, v63) = some qt61 := hm
                    dsimp only [mj_holds_L140] at hm
                    refine lv_iload (cx_x X) (cx_b X) dL_holds_140 (lv_at hl 8 rfl) ?_
                    refine lv_aload_n (cx_x X) (cx_b X) dL_holds_142 rfl (lv_at hl 0 rfl) ?_
                    obtain ⟨v72, h71, hm⟩ := bnd hm
                    refine af_R (rn_V (As := []) (rest := [.int v63]) X (c_X4_cellCount l D y x hi sn sc A B F R G Q  _ h71) vq_L_8 ⟨rfl, rfl⟩ ⟨Nat.le_of_ble_eq_true rfl, Nat.le_of_ble_eq_true rfl⟩ (rec_4 X hP4) ⟨hP4, hP2, hP1⟩ rfl hl.1 rfl (Nat.le_of_ble_eq_true rfl) dL_holds_143 ⟨Nat.le_refl _, Nat.le_refl _⟩) ?_
                    refine lv_icmp_ge (tgt := 207) (cx_x X) (cx_b X) dL_holds_146 (by decide) (fun c73 => ?_) (fun c73 => ?_)
                    · replace hm := if_T c73 hm
                      exact Xt61 _ (by cases hm; exact hmt61) _ (lv_sub hl [0, 1, 2, 3, 4, 5, 6, 7] rfl)
                    · replace hm := if_F c73 hm
                      refine lv_iload (cx_x X) (cx_b X) dL_holds_149 (lv_at hl 6 rfl) ?_
                      refine lv_if_lt (tgt := 207) (cx_x X) (cx_b X) dL_holds_151 (by decide) (fun c74 => ?_) (fun c74 => ?_)
                      · replace hm := if_T c74 hm
                        exact Xt61 _ (by cases hm; exact hmt61) _ (lv_sub hl [0, 1, 2, 3, 4, 5, 6, 7] rfl)
                      · replace hm := if_F c74 hm
                        refine lv_iload (cx_x X) (cx_b X) dL_holds_154 (lv_at hl 7 rfl) ?_
                        have Jt76 : ∀ (v75 : Int32) , mj_holds_J199 (wh (mj_holds_L140 F R G Q a1 v53 v54) nt61) v63 v75 = some qt61 → ∀ ls, lv_has ls 9 [(0, .ref x), (1, .int a1), (2, .int (v2 + v56)), (3, .int (0 : Int32)), (4, .int v3), (5, .int v53), (6, .int v54), (8, .int v63)] → gr p l e rm_L_holds s m args below meth c r (F0 m 199 ls [.int v75]) := by
                          intro v75 hm ls hl
                          unfold mj_holds_J199 at hm
                          refine lv_istore (lv' := [(7, .int v75), (0, .ref x), (1, .int a1), (2, .int (v2 + v56)), (3, .int (0 : Int32)), (4, .int v3), (5, .int v53), (6, .int v54), (8, .int v63)]) (cx_x X) (cx_b X) dL_holds_199 hl (by decide) rfl (fun ls hl => ?_)
                          refine lv_iinc (v := (v63 + (1 : Int32))) (lv' := [(8, .int (v63 + (1 : Int32))), (7, .int v75), (0, .ref x), (1, .int a1), (2, .int (v2 + v56)), (3, .int (0 : Int32)), (4, .int v3), (5, .int v53), (6, .int v54)]) (cx_x X) (cx_b X) dL_holds_201 hl (k := 8) rfl (by rfl) (by decide) rfl (fun ls hl => ?_)
                          refine lv_goto (tgt := 140) (cx_x X) (cx_b X) dL_holds_204 (by decide) ?_
                          exact iht61 _ _ hm _ (lv_sub hl [2, 3, 4, 5, 6, 7, 8, 1, 0] rfl)
                        refine lv_if_ne (tgt := 194) (cx_x X) (cx_b X) dL_holds_156 (by decide) (fun c77 => ?_) (fun c77 => ?_)
                        · replace hm := if_F c77 hm
                          refine lv_iconst (v := (1 : Int32)) (cx_x X) (cx_b X) dL_holds_194 (by decide) ?_
                          refine lv_goto (tgt := 199) (cx_x X) (cx_b X) dL_holds_195 (by decide) ?_
                          exact Jt76 _ hm _ (lv_sub hl [0, 1, 2, 3, 4, 5, 6, 8] rfl)
                        · replace hm := if_T c77 hm
                          refine lv_aload_n (cx_x X) (cx_b X) dL_holds_159 rfl (lv_at hl 0 rfl) ?_
                          refine lv_iload (cx_x X) (cx_b X) dL_holds_160 (lv_at hl 8 rfl) ?_
                          refine lv_iload (cx_x X) (cx_b X) dL_holds_162 (lv_at hl 5 rfl) ?_
                          obtain ⟨v79, h78, hm⟩ := bnd hm
                          refine af_R (rn_V (As := [.int v63, .int v53]) (rest := []) X (c_X4_distance l D y x hi sn sc A B F R G Q v63 v53  _ h78) vq_L_112 ⟨rfl, rfl⟩ ⟨Nat.le_of_ble_eq_true rfl, Nat.le_of_ble_eq_true rfl⟩ (rec_4 X hP4) ⟨hP4, hP2, hP1⟩ rfl hl.1 rfl (Nat.le_of_ble_eq_true rfl) dL_holds_164 ⟨Nat.le_refl _, Nat.le_refl _⟩) ?_
                          refine lv_iconst (v := (2 : Int32)) (cx_x X) (cx_b X) dL_holds_167 (by decide) ?_
                          refine lv_icmp_ge (tgt := 198) (cx_x X) (cx_b X) dL_holds_168 (by decide) (fun c80 => ?_) (fun c80 => ?_)
                          · replace hm := if_T c80 hm
                            refine lv_iconst (v := (0 : Int32)) (cx_x X) (cx_b X) dL_holds_198 (by decide) ?_
                            exact Jt76 _ hm _ (lv_sub hl [0, 1, 2, 3, 4, 5, 6, 8] rfl)
                          · replace hm := if_F c80 hm
                            refine lv_iload (cx_x X) (cx_b X) dL_holds_171 (lv_at hl 6 rfl) ?_
                            refine lv_iload_n (cx_x X) (cx_b X) dL_holds_173 rfl (lv_at hl 1 rfl) ?_
                            refine lv_iconst (v := (2 : Int32)) (cx_x X) (cx_b X) dL_holds_174 (by decide) ?_
                            have Jt82 : ∀ (v81 : Int32) , mj_holds_J184 F R G Q v54 (wh (mj_holds_L140 F R G Q a1 v53 v54) nt61) v63 v81 = some qt61 → ∀ ls, lv_has ls 9 [(0, .ref x), (1, .int a1), (2, .int (v2 + v56)), (3, .int (0 : Int32)), (4, .int v3), (5, .int v53), (6, .int v54), (8, .int v63)] → gr p l e rm_L_holds s m args below meth c r (F0 m 184 ls [.int v81, .int v54]) := by
                              intro v81 hm ls hl
                              unfold mj_holds_J184 at hm
                              obtain ⟨h83, hm⟩ := ck_E hm
                              refine lv_irem (cx_x X) (cx_b X) dL_holds_184 h83 ?_
                              refine lv_aload_n (cx_x X) (cx_b X) dL_holds_185 rfl (lv_at hl 0 rfl) ?_
                              refine lv_iload (cx_x X) (cx_b X) dL_holds_186 (lv_at hl 7 rfl) ?_
                              obtain ⟨v85, h84, hm⟩ := bnd hm
                              refine af_R (rn_V (As := [.int v63]) (rest := [.int (v54 - v54 / v81 * v81)]) X (c_X4_groupOf l D y x hi sn sc A B F R G Q v63  _ h84) vq_L_115 ⟨rfl, rfl⟩ ⟨Nat.le_of_ble_eq_true rfl, Nat.le_of_ble_eq_true rfl⟩ (rec_4 X hP4) ⟨hP4, hP2, hP1⟩ rfl hl.1 rfl (Nat.le_of_ble_eq_true rfl) dL_holds_188 ⟨Nat.le_refl _, Nat.le_refl _⟩) ?_
                              refine lv_icmp_ne (tgt := 198) (cx_x X) (cx_b X) dL_holds_191 (by decide) (fun c86 => ?_) (fun c86 => ?_)
                              · replace hm := if_F c86 hm
                                refine lv_iconst (v := (0 : Int32)) (cx_x X) (cx_b X) dL_holds_198 (by decide) ?_
                                exact Jt76 _ hm _ (lv_sub hl [0, 1, 2, 3, 4, 5, 6, 7] rfl)
                              · replace hm := if_T c86 hm
                                refine lv_iconst (v := (1 : Int32)) (cx_x X) (cx_b X) dL_holds_194 (by decide) ?_
                                refine lv_goto (tgt := 199) (cx_x X) (cx_b X) dL_holds_195 (by decide) ?_
                                exact Jt76 _ hm _ (lv_sub hl [0, 1, 2, 3, 4, 5, 6, 7] rfl)
                            refine lv_icmp_ne (tgt := 182) (cx_x X) (cx_b X) dL_holds_175 (by decide) (fun c87 => ?_) (fun c87 => ?_)
                            · replace hm := if_F c87 hm
                              refine lv_bipush (v := (7 : Int32)) (cx_x X) (cx_b X) dL_holds_182 (by decide) ?_
                              exact Jt82 _ hm _ (lv_sub hl [0, 1, 2, 3, 4, 5, 6, 8] rfl)
                            · replace hm := if_T c87 hm
                              refine lv_iconst (v := (3 : Int32)) (cx_x X) (cx_b X) dL_holds_178 (by decide) ?_
                              refine lv_goto (tgt := 184) (cx_x X) (cx_b X) dL_holds_179 (by decide) ?_
                              exact Jt82 _ hm _ (lv_sub hl [0, 1, 2, 3, 4, 5, 6, 8] rfl)
                exact Lt61 _ _ _ hm _ (lv_sub hl [2, 3, 4, 5, 6, 7, 8, 1, 0] rfl)
              have Lt59 : ∀ (nt59 : Nat) (v60 : Int32) , wh (mj_holds_L78 F R G Q a1 (wh (mj_holds_L7 F R G Q a1) nt1) v2 v3 v53 v54 v56) nt59 v60 = some r → ∀ ls, lv_has ls 9 [(0, .ref x), (1, .int a1), (2, .int (v2 + v56)), (3, .int (0 : Int32)), (4, .int v3), (5, .int v53), (6, .int v54), (7, .int v60)] → gr p l e rm_L_holds s m args below meth c r (F0 m 78 ls []) := by
                intro nt59
                induction nt59 with
                | zero => intro v60 hm; cases hm
                | succ nt59 iht59 =>
                  intro v60 hm ls hl
                  replace hm : (mj_holds_L78 F R G Q a1 (wh (mj_holds_L7 F R G Q a1) nt1) v2 v3 v53 v54 v56) (wh (mj_holds_L78 F R G Q a1 (wh (mj_holds_L7 F R G Q a1) nt1) v2 v3 v53 v54 v56) nt59) v60 = some r := hm
                  dsimp only [mj_holds_L78] at hm
                  refine lv_iload (cx_x X) (cx_b X) dL_holds_78 (lv_at hl 7 rfl) ?_
                  refine lv_iload (cx_x X) (cx_b X) dL_holds_80 (lv_at hl 4 rfl) ?_
                  refine lv_icmp_ge (tgt := 134) (cx_x X) (cx_b X) dL_holds_82 (by decide) (fun c88 => ?_) (fun c88 => ?_)
                  · replace hm := if_T c88 hm
                    exact Xt59 hm _ (lv_sub hl [0, 1, 2, 3, 4, 5, 6] rfl)
                  · replace hm := if_F c88 hm
                    refine lv_iload (cx_x X) (cx_b X) dL_holds_85 (lv_at hl 6 rfl) ?_
                    refine lv_if_lt (tgt := 134) (cx_x X) (cx_b X) dL_holds_87 (by decide) (fun c89 => ?_) (fun c89 => ?_)
                    · replace hm := if_T c89 hm
                      exact Xt59 hm _ (lv_sub hl [0, 1, 2, 3, 4, 5, 6] rfl)
                    · replace hm := if_F c89 hm
                      refine lv_aload_n (cx_x X) (cx_b X) dL_holds_90 rfl (lv_at hl 0 rfl) ?_
                      refine lv_iload (cx_x X) (cx_b X) dL_holds_91 (lv_at hl 7 rfl) ?_
                      obtain ⟨v91, h90, hm⟩ := bnd hm
                      refine af_R (rn_V (As := [.int v60]) (rest := []) X (c_X4_cellOf l D y x hi sn sc A B F R G Q v60  _ h90) vq_L_53 ⟨rfl, rfl⟩ ⟨Nat.le_of_ble_eq_true rfl, Nat.le_of_ble_eq_true rfl⟩ (rec_4 X hP4) ⟨hP4, hP2, hP1⟩ rfl hl.1 rfl (Nat.le_of_ble_eq_true rfl) dL_holds_93 ⟨Nat.le_refl _, Nat.le_refl _⟩) ?_
                      have Jt92 : mj_holds_J128 (wh (mj_holds_L78 F R G Q a1 (wh (mj_holds_L7 F R G Q a1) nt1) v2 v3 v53 v54 v56) nt59) v60  = some r → ∀ ls, lv_has ls 9 [(0, .ref x), (1, .int a1), (2, .int (v2 + v56)), (3, .int (0 : Int32)), (4, .int v3), (5, .int v53), (6, .int v54), (7, .int v60)] → gr p l e rm_L_holds s m args below meth c r (F0 m 128 ls []) := by
                        intro hm ls hl
                        unfold mj_holds_J128 at hm
                        refine lv_iinc (v := (v60 + (1 : Int32))) (lv' := [(7, .int (v60 + (1 : Int32))), (0, .ref x), (1, .int a1), (2, .int (v2 + v56)), (3, .int (0 : Int32)), (4, .int v3), (5, .int v53), (6, .int v54)]) (cx_x X) (cx_b X) dL_holds_128 hl (k := 7) rfl (by rfl) (by decide) rfl (fun ls hl => ?_)
                        refine lv_goto (tgt := 78) (cx_x X) (cx_b X) dL_holds_131 (by decide) ?_
                        exact iht59 _ hm _ (lv_sub hl [1, 2, 3, 4, 5, 6, 7, 0] rfl)
                      refine lv_if_lt (tgt := 128) (cx_x X) (cx_b X) dL_holds_96 (by decide) (fun c93 => ?_) (fun c93 => ?_)
                      · replace hm := if_T c93 hm
                        exact Jt92 hm _ (lv_sub hl [0, 1, 2, 3, 4, 5, 6, 7] rfl)
                      · replace hm := if_F c93 hm
                        refine lv_aload_n (cx_x X) (cx_b X) dL_holds_99 rfl (lv_at hl 0 rfl) ?_
                        refine lv_iload (cx_x X) (cx_b X) dL_holds_100 (lv_at hl 7 rfl) ?_
                        obtain ⟨v95, h94, hm⟩ := bnd hm
                        refine af_R (rn_V (As := [.int v60]) (rest := []) X (c_X4_channelOf l D y x hi sn sc A B F R G Q v60  _ h94) vq_L_59 ⟨rfl, rfl⟩ ⟨Nat.le_of_ble_eq_true rfl, Nat.le_of_ble_eq_true rfl⟩ (rec_4 X hP4) ⟨hP4, hP2, hP1⟩ rfl hl.1 rfl (Nat.le_of_ble_eq_true rfl) dL_holds_102 ⟨Nat.le_refl _, Nat.le_refl _⟩) ?_
                        refine lv_iload (cx_x X) (cx_b X) dL_holds_105 (lv_at hl 6 rfl) ?_
                        refine lv_icmp_ne (tgt := 128) (cx_x X) (cx_b X) dL_holds_107 (by decide) (fun c96 => ?_) (fun c96 => ?_)
                        · replace hm := if_F c96 hm
                          exact Jt92 hm _ (lv_sub hl [0, 1, 2, 3, 4, 5, 6, 7] rfl)
                        · replace hm := if_T c96 hm
                          refine lv_aload_n (cx_x X) (cx_b X) dL_holds_110 rfl (lv_at hl 0 rfl) ?_
                          refine lv_iload (cx_x X) (cx_b X) dL_holds_111 (lv_at hl 5 rfl) ?_
                          refine lv_aload_n (cx_x X) (cx_b X) dL_holds_113 rfl (lv_at hl 0 rfl) ?_
                          refine lv_iload (cx_x X) (cx_b X) dL_holds_114 (lv_at hl 7 rfl) ?_
                          obtain ⟨v98, h97, hm⟩ := bnd hm
                          refine af_R (rn_V (As := [.int v60]) (rest := [.int v53, .ref x]) X (c_X4_cellOf l D y x hi sn sc A B F R G Q v60  _ h97) vq_L_53 ⟨rfl, rfl⟩ ⟨Nat.le_of_ble_eq_true rfl, Nat.le_of_ble_eq_true rfl⟩ (rec_4 X hP4) ⟨hP4, hP2, hP1⟩ rfl hl.1 rfl (Nat.le_of_ble_eq_true rfl) dL_holds_116 ⟨Nat.le_refl _, Nat.le_refl _⟩) ?_
                          obtain ⟨v100, h99, hm⟩ := bnd hm
                          refine af_R (rn_V (As := [.int v53, .int v98]) (rest := []) X (c_X4_distance l D y x hi sn sc A B F R G Q v53 v98  _ h99) vq_L_112 ⟨rfl, rfl⟩ ⟨Nat.le_of_ble_eq_true rfl, Nat.le_of_ble_eq_true rfl⟩ (rec_4 X hP4) ⟨hP4, hP2, hP1⟩ rfl hl.1 rfl (Nat.le_of_ble_eq_true rfl) dL_holds_119 ⟨Nat.le_refl _, Nat.le_refl _⟩) ?_
                          refine lv_iload_n (cx_x X) (cx_b X) dL_holds_122 rfl (lv_at hl 1 rfl) ?_
                          refine lv_icmp_ge (tgt := 128) (cx_x X) (cx_b X) dL_holds_123 (by decide) (fun c101 => ?_) (fun c101 => ?_)
                          · replace hm := if_T c101 hm
                            exact Jt92 hm _ (lv_sub hl [0, 1, 2, 3, 4, 5, 6, 7] rfl)
                          · replace hm := if_F c101 hm
                            refine lv_iconst (v := (0 : Int32)) (cx_x X) (cx_b X) dL_holds_126 (by decide) ?_
                            exact gr_z X (by decide) hm dL_holds_127
              exact Lt59 _ _ hm _ (lv_sub hl [1, 2, 3, 4, 5, 6, 7, 0] rfl)
            refine lv_if_lt (tgt := 75) (cx_x X) (cx_b X) dL_holds_55 (by decide) (fun c102 => ?_) (fun c102 => ?_)
            · replace hm := if_T c102 hm
              exact Jt58 hm _ (lv_sub hl [1, 2, 0, 3, 4, 5, 6] rfl)
            · replace hm := if_F c102 hm
              refine lv_iload (cx_x X) (cx_b X) dL_holds_58 (lv_at hl 6 rfl) ?_
              refine lv_if_ge (tgt := 75) (cx_x X) (cx_b X) dL_holds_60 (by decide) (fun c103 => ?_) (fun c103 => ?_)
              · replace hm := if_T c103 hm
                exact Jt58 hm _ (lv_sub hl [1, 2, 0, 3, 4, 5, 6] rfl)
              · replace hm := if_F c103 hm
                refine lv_aload_n (cx_x X) (cx_b X) dL_holds_63 rfl (lv_at hl 1 rfl) ?_
                refine lv_iload (cx_x X) (cx_b X) dL_holds_64 (lv_at hl 4 rfl) ?_
                obtain ⟨v105, h104, hm⟩ := bnd hm
                refine af_R (rn_V (As := [.int v3]) (rest := []) X (c_X4_isInFixedScheme l D y x hi sn sc A B F R G Q v3  _ h104) vq_L_62 ⟨rfl, rfl⟩ ⟨Nat.le_of_ble_eq_true rfl, Nat.le_of_ble_eq_true rfl⟩ (rec_4 X hP4) ⟨hP4, hP2, hP1⟩ rfl hl.1 rfl (Nat.le_of_ble_eq_true rfl) dL_holds_66 ⟨Nat.le_refl _, Nat.le_refl _⟩) ?_
                refine lv_iconst (v := (1 : Int32)) (cx_x X) (cx_b X) dL_holds_69 (by decide) ?_
                refine lv_icmp_eq (tgt := 75) (cx_x X) (cx_b X) dL_holds_70 (by decide) (fun c106 => ?_) (fun c106 => ?_)
                · replace hm := if_T c106 hm
                  exact Jt58 hm _ (lv_sub hl [1, 2, 0, 3, 4, 5, 6] rfl)
                · replace hm := if_F c106 hm
                  refine lv_iconst (v := (0 : Int32)) (cx_x X) (cx_b X) dL_holds_73 (by decide) ?_
                  exact gr_z X (by decide) hm dL_holds_74
          refine lv_if_lt (tgt := 50) (cx_x X) (cx_b X) dL_holds_43 (by decide) (fun c107 => ?_) (fun c107 => ?_)
          · replace hm := if_T c107 hm
            refine lv_iconst (v := (0 : Int32)) (cx_x X) (cx_b X) dL_holds_50 (by decide) ?_
            exact Jt57 _ hm _ (lv_sub hl [1, 2, 4, 5, 6, 0] rfl)
          · replace hm := if_F c107 hm
            refine lv_iconst (v := (1 : Int32)) (cx_x X) (cx_b X) dL_holds_46 (by decide) ?_
            refine lv_goto (tgt := 51) (cx_x X) (cx_b X) dL_holds_47 (by decide) ?_
            exact Jt57 _ hm _ (lv_sub hl [1, 2, 4, 5, 6, 0] rfl)
        refine lv_if_ge (tgt := 32) (cx_x X) (cx_b X) dL_holds_24 (by decide) (fun c108 => ?_) (fun c108 => ?_)
        · replace hm := if_T c108 hm
          refine lv_aload_n (cx_x X) (cx_b X) dL_holds_32 rfl (lv_at hl 1 rfl) ?_
          refine lv_iload (cx_x X) (cx_b X) dL_holds_33 (lv_at hl 5 rfl) ?_
          obtain ⟨v110, h109, hm⟩ := bnd hm
          refine af_R (rn_V (As := [.int v3]) (rest := []) X (c_X4_channelOf l D y x hi sn sc A B F R G Q v3  _ h109) vq_L_59 ⟨rfl, rfl⟩ ⟨Nat.le_of_ble_eq_true rfl, Nat.le_of_ble_eq_true rfl⟩ (rec_4 X hP4) ⟨hP4, hP2, hP1⟩ rfl hl.1 rfl (Nat.le_of_ble_eq_true rfl) dL_holds_35 ⟨Nat.le_refl _, Nat.le_refl _⟩) ?_
          exact Jt55 _ hm _ (lv_sub hl [1, 2, 3, 4, 5, 0] rfl)
        · replace hm := if_F c108 hm
          refine lv_bipush (v := (-9 : Int32)) (cx_x X) (cx_b X) dL_holds_27 (by decide) ?_
          refine lv_goto (tgt := 38) (cx_x X) (cx_b X) dL_holds_29 (by decide) ?_
          exact Jt55 _ hm _ (lv_sub hl [1, 2, 3, 4, 5, 0] rfl)
  exact Lt1 _ _ _ hm _ (lv_sub hl [3, 4, 2, 1, 0] rfl)
