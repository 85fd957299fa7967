theorem iq_L_9 : iq RL 9 yX4_init cX4_init 2 0 := ⟨qw_6, qw_7, qw_2, qw_8, rfl, by decide, by decide, by decide +kernel⟩
theorem iq_L_12 : iq RL 12 yX5_init cX5_init 1 0 := ⟨qw_107, qw_108, qw_5, qw_109, rfl, by decide, by decide, by decide +kernel⟩
theorem vq_L_13 : vq RL 13 RX4 yX4_configure cX4_configure 6 (some .int) 4 := ⟨qw_119, qw_120, qw_121, qw_2, qw_122, rfl, by decide, by decide, by decide +kernel⟩
theorem vq_L_17 : vq RL 17 RX5 yX5_configure cX5_configure 6 (some .int) 4 := ⟨qw_152, qw_153, qw_154, qw_5, qw_155, rfl, by decide, by decide, by decide +kernel⟩
theorem vq_L_18 : vq RL 18 RX4 yX4_setStrategy cX4_setStrategy 3 (some .int) 1 := ⟨qw_172, qw_173, qw_174, qw_2, qw_175, rfl, by decide, by decide, by decide +kernel⟩
theorem vq_L_22 : vq RL 22 RX5 yX5_setStrategy cX5_setStrategy 2 (some .int) 1 := ⟨qw_177, qw_178, qw_179, qw_5, qw_180, rfl, by decide, by decide, by decide +kernel⟩
theorem vq_L_23 : vq RL 23 RX4 yX4_setReserve cX4_setReserve 3 (some .int) 1 := ⟨qw_185, qw_186, qw_187, qw_2, qw_188, rfl, by decide, by decide, by decide +kernel⟩
theorem vq_L_26 : vq RL 26 RX5 yX5_setReserve cX5_setReserve 2 (some .int) 1 := ⟨qw_190, qw_191, qw_192, qw_5, qw_193, rfl, by decide, by decide, by decide +kernel⟩
theorem vq_L_27 : vq RL 27 RX4 yX4_setReturning cX4_setReturning 2 (some .int) 1 := ⟨qw_194, qw_195, qw_196, qw_2, qw_197, rfl, by decide, by decide, by decide +kernel⟩
theorem vq_L_30 : vq RL 30 RX5 yX5_setReturning cX5_setReturning 2 (some .int) 1 := ⟨qw_268, qw_269, qw_270, qw_5, qw_271, rfl, by decide, by decide, by decide +kernel⟩
theorem vq_L_31 : vq RL 31 RX4 yX4_cellCount cX4_cellCount 1 (some .int) 0 := ⟨qw_319, qw_320, qw_321, qw_2, qw_322, rfl, by decide, by decide, by decide +kernel⟩
theorem vq_L_35 : vq RL 35 RX5 yX5_cellCount cX5_cellCount 1 (some .int) 0 := ⟨qw_324, qw_325, qw_326, qw_5, qw_327, rfl, by decide, by decide, by decide +kernel⟩
theorem vq_L_36 : vq RL 36 RX4 yX4_channelCount cX4_channelCount 1 (some .int) 0 := ⟨qw_328, qw_329, qw_330, qw_2, qw_331, rfl, by decide, by decide, by decide +kernel⟩
theorem vq_L_39 : vq RL 39 RX5 yX5_channelCount cX5_channelCount 1 (some .int) 0 := ⟨qw_332, qw_333, qw_334, qw_5, qw_335, rfl, by decide, by decide, by decide +kernel⟩
theorem vq_L_40 : vq RL 40 RX4 yX4_groupOf cX4_groupOf 2 (some .int) 1 := ⟨qw_336, qw_337, qw_338, qw_2, qw_339, rfl, by decide, by decide, by decide +kernel⟩
theorem vq_L_43 : vq RL 43 RX5 yX5_groupOf cX5_groupOf 2 (some .int) 1 := ⟨qw_349, qw_350, qw_351, qw_5, qw_352, rfl, by decide, by decide, by decide +kernel⟩
theorem vq_L_44 : vq RL 44 RX4 yX4_distance cX4_distance 3 (some .int) 2 := ⟨qw_357, qw_358, qw_359, qw_2, qw_360, rfl, by decide, by decide, by decide +kernel⟩
theorem vq_L_48 : vq RL 48 RX5 yX5_distance cX5_distance 3 (some .int) 2 := ⟨qw_362, qw_363, qw_364, qw_5, qw_365, rfl, by decide, by decide, by decide +kernel⟩
theorem vq_L_49 : vq RL 49 RX4 yX4_startCall cX4_startCall 3 (some .int) 1 := ⟨qw_366, qw_367, qw_368, qw_2, qw_369, rfl, by decide, by decide, by decide +kernel⟩
theorem vq_L_52 : vq RL 52 RX5 yX5_startCall cX5_startCall 2 (some .int) 1 := ⟨qw_419, qw_420, qw_421, qw_5, qw_422, rfl, by decide, by decide, by decide +kernel⟩
theorem vq_L_53 : vq RL 53 RX4 yX4_endCall cX4_endCall 2 (some .int) 1 := ⟨qw_476, qw_477, qw_478, qw_2, qw_479, rfl, by decide, by decide, by decide +kernel⟩
theorem vq_L_56 : vq RL 56 RX5 yX5_endCall cX5_endCall 2 (some .int) 1 := ⟨qw_486, qw_487, qw_488, qw_5, qw_489, rfl, by decide, by decide, by decide +kernel⟩
theorem vq_L_57 : vq RL 57 RX4 yX4_handOver cX4_handOver 4 (some .int) 2 := ⟨qw_490, qw_491, qw_492, qw_2, qw_493, rfl, by decide, by decide, by decide +kernel⟩
theorem vq_L_60 : vq RL 60 RX5 yX5_handOver cX5_handOver 3 (some .int) 2 := ⟨qw_502, qw_503, qw_504, qw_5, qw_505, rfl, by decide, by decide, by decide +kernel⟩
theorem vq_L_61 : vq RL 61 RX4 yX4_cellOf cX4_cellOf 2 (some .int) 1 := ⟨qw_506, qw_507, qw_508, qw_2, qw_509, rfl, by decide, by decide, by decide +kernel⟩
theorem vq_L_64 : vq RL 64 RX5 yX5_cellOf cX5_cellOf 2 (some .int) 1 := ⟨qw_511, qw_512, qw_513, qw_5, qw_514, rfl, by decide, by decide, by decide +kernel⟩
theorem vq_L_65 : vq RL 65 RX4 yX4_channelOf cX4_channelOf 2 (some .int) 1 := ⟨qw_515, qw_516, qw_517, qw_2, qw_518, rfl, by decide, by decide, by decide +kernel⟩
theorem vq_L_68 : vq RL 68 RX5 yX5_channelOf cX5_channelOf 2 (some .int) 1 := ⟨qw_520, qw_521, qw_522, qw_5, qw_523, rfl, by decide, by decide, by decide +kernel⟩
theorem vq_L_69 : vq RL 69 RX4 yX4_isBorrowed cX4_isBorrowed 2 (some .int) 1 := ⟨qw_524, qw_525, qw_526, qw_2, qw_527, rfl, by decide, by decide, by decide +kernel⟩
theorem vq_L_72 : vq RL 72 RX5 yX5_isBorrowed cX5_isBorrowed 2 (some .int) 1 := ⟨qw_530, qw_531, qw_532, qw_5, qw_533, rfl, by decide, by decide, by decide +kernel⟩
theorem vq_L_73 : vq RL 73 RX4 yX4_isInFixedScheme cX4_isInFixedScheme 2 (some .int) 1 := ⟨qw_534, qw_535, qw_536, qw_2, qw_537, rfl, by decide, by decide, by decide +kernel⟩
theorem vq_L_76 : vq RL 76 RX5 yX5_isInFixedScheme cX5_isInFixedScheme 2 (some .int) 1 := ⟨qw_542, qw_543, qw_544, qw_5, qw_545, rfl, by decide, by decide, by decide +kernel⟩
theorem vq_L_77 : vq RL 77 RX4 yX4_isAvailable cX4_isAvailable 3 (some .int) 2 := ⟨qw_546, qw_547, qw_548, qw_2, qw_549, rfl, by decide, by decide, by decide +kernel⟩
theorem vq_L_80 : vq RL 80 RX5 yX5_isAvailable cX5_isAvailable 3 (some .int) 2 := ⟨qw_556, qw_557, qw_558, qw_5, qw_559, rfl, by decide, by decide, by decide +kernel⟩
theorem vq_L_81 : vq RL 81 RX4 yX4_lockCount cX4_lockCount 3 (some .int) 2 := ⟨qw_564, qw_565, qw_566, qw_2, qw_567, rfl, by decide, by decide, by decide +kernel⟩
theorem vq_L_84 : vq RL 84 RX5 yX5_lockCount cX5_lockCount 3 (some .int) 2 := ⟨qw_572, qw_573, qw_574, qw_5, qw_575, rfl, by decide, by decide, by decide +kernel⟩
theorem vq_L_85 : vq RL 85 RX4 yX4_burden cX4_burden 3 (some .int) 2 := ⟨qw_576, qw_577, qw_578, qw_2, qw_579, rfl, by decide, by decide, by decide +kernel⟩
theorem vq_L_88 : vq RL 88 RX5 yX5_burden cX5_burden 3 (some .int) 2 := ⟨qw_581, qw_582, qw_583, qw_5, qw_584, rfl, by decide, by decide, by decide +kernel⟩
theorem vq_L_89 : vq RL 89 RX4 yX4_availableCount cX4_availableCount 2 (some .int) 1 := ⟨qw_585, qw_586, qw_587, qw_2, qw_588, rfl, by decide, by decide, by decide +kernel⟩
theorem vq_L_92 : vq RL 92 RX5 yX5_availableCount cX5_availableCount 2 (some .int) 1 := ⟨qw_591, qw_592, qw_593, qw_5, qw_594, rfl, by decide, by decide, by decide +kernel⟩
theorem vq_L_93 : vq RL 93 RX4 yX4_usedCount cX4_usedCount 2 (some .int) 1 := ⟨qw_595, qw_596, qw_597, qw_2, qw_598, rfl, by decide, by decide, by decide +kernel⟩
theorem vq_L_96 : vq RL 96 RX5 yX5_usedCount cX5_usedCount 4 (some .int) 1 := ⟨qw_600, qw_601, qw_602, qw_5, qw_603, rfl, by decide, by decide, by decide +kernel⟩
theorem vq_L_97 : vq RL 97 RX4 yX4_lockedCount cX4_lockedCount 3 (some .int) 1 := ⟨qw_604, qw_605, qw_606, qw_2, qw_607, rfl, by decide, by decide, by decide +kernel⟩
theorem vq_L_100 : vq RL 100 RX5 yX5_lockedCount cX5_lockedCount 4 (some .int) 1 := ⟨qw_609, qw_610, qw_611, qw_5, qw_612, rfl, by decide, by decide, by decide +kernel⟩
theorem vq_L_101 : vq RL 101 RX4 yX4_nextChannel cX4_nextChannel 2 (some .int) 1 := ⟨qw_613, qw_614, qw_615, qw_2, qw_616, rfl, by decide, by decide, by decide +kernel⟩
theorem vq_L_104 : vq RL 104 RX5 yX5_nextChannel cX5_nextChannel 2 (some .int) 1 := ⟨qw_618, qw_619, qw_620, qw_5, qw_621, rfl, by decide, by decide, by decide +kernel⟩
theorem vq_L_105 : vq RL 105 RX4 yX4_nextDonor cX4_nextDonor 2 (some .int) 1 := ⟨qw_622, qw_623, qw_624, qw_2, qw_625, rfl, by decide, by decide, by decide +kernel⟩
theorem vq_L_108 : vq RL 108 RX5 yX5_nextDonor cX5_nextDonor 3 (some .int) 1 := ⟨qw_630, qw_631, qw_632, qw_5, qw_633, rfl, by decide, by decide, by decide +kernel⟩
theorem vq_L_109 : vq RL 109 RX4 yX4_blockingCells cX4_blockingCells 3 (some .int) 0 := ⟨qw_634, qw_635, qw_636, qw_2, qw_637, rfl, by decide, by decide, by decide +kernel⟩
theorem vq_L_112 : vq RL 112 RX5 yX5_blockingCells cX5_blockingCells 3 (some .int) 0 := ⟨qw_638, qw_639, qw_640, qw_5, qw_641, rfl, by decide, by decide, by decide +kernel⟩
theorem vq_L_113 : vq RL 113 RX4 yX4_callCount cX4_callCount 1 (some .int) 0 := ⟨qw_642, qw_643, qw_644, qw_2, qw_645, rfl, by decide, by decide, by decide +kernel⟩
theorem vq_L_116 : vq RL 116 RX5 yX5_callCount cX5_callCount 1 (some .int) 0 := ⟨qw_650, qw_651, qw_652, qw_5, qw_653, rfl, by decide, by decide, by decide +kernel⟩
theorem vq_L_117 : vq RL 117 RX4 yX4_attempts cX4_attempts 1 (some .int) 0 := ⟨qw_654, qw_655, qw_656, qw_2, qw_657, rfl, by decide, by decide, by decide +kernel⟩
theorem vq_L_120 : vq RL 120 RX5 yX5_attempts cX5_attempts 1 (some .int) 0 := ⟨qw_659, qw_660, qw_661, qw_5, qw_662, rfl, by decide, by decide, by decide +kernel⟩
theorem vq_L_121 : vq RL 121 RX4 yX4_blocked cX4_blocked 1 (some .int) 0 := ⟨qw_663, qw_664, qw_665, qw_2, qw_666, rfl, by decide, by decide, by decide +kernel⟩
theorem vq_L_124 : vq RL 124 RX5 yX5_blocked cX5_blocked 1 (some .int) 0 := ⟨qw_668, qw_669, qw_670, qw_5, qw_671, rfl, by decide, by decide, by decide +kernel⟩
theorem vq_L_125 : vq RL 125 RX4 yX4_blockedInFixedScheme cX4_blockedInFixedScheme 1 (some .int) 0 := ⟨qw_672, qw_673, qw_674, qw_2, qw_675, rfl, by decide, by decide, by decide +kernel⟩
theorem vq_L_128 : vq RL 128 RX5 yX5_blockedInFixedScheme cX5_blockedInFixedScheme 1 (some .int) 0 := ⟨qw_677, qw_678, qw_679, qw_5, qw_680, rfl, by decide, by decide, by decide +kernel⟩
theorem vq_L_129 : vq RL 129 RX4 yX4_dropped cX4_dropped 1 (some .int) 0 := ⟨qw_681, qw_682, qw_683, qw_2, qw_684, rfl, by decide, by decide, by decide +kernel⟩
theorem vq_L_132 : vq RL 132 RX5 yX5_dropped cX5_dropped 1 (some .int) 0 := ⟨qw_686, qw_687, qw_688, qw_5, qw_689, rfl, by decide, by decide, by decide +kernel⟩
theorem vq_L_133 : vq RL 133 RX4 yX4_droppedInFixedScheme cX4_droppedInFixedScheme 1 (some .int) 0 := ⟨qw_690, qw_691, qw_692, qw_2, qw_693, rfl, by decide, by decide, by decide +kernel⟩
theorem vq_L_136 : vq RL 136 RX5 yX5_droppedInFixedScheme cX5_droppedInFixedScheme 1 (some .int) 0 := ⟨qw_695, qw_696, qw_697, qw_5, qw_698, rfl, by decide, by decide, by decide +kernel⟩
theorem vq_L_137 : vq RL 137 RX4 yX4_borrowings cX4_borrowings 1 (some .int) 0 := ⟨qw_699, qw_700, qw_701, qw_2, qw_702, rfl, by decide, by decide, by decide +kernel⟩
theorem vq_L_140 : vq RL 140 RX5 yX5_borrowings cX5_borrowings 1 (some .int) 0 := ⟨qw_704, qw_705, qw_706, qw_5, qw_707, rfl, by decide, by decide, by decide +kernel⟩
theorem vq_L_141 : vq RL 141 RX4 yX4_returns cX4_returns 1 (some .int) 0 := ⟨qw_708, qw_709, qw_710, qw_2, qw_711, rfl, by decide, by decide, by decide +kernel⟩
theorem vq_L_144 : vq RL 144 RX5 yX5_returns cX5_returns 1 (some .int) 0 := ⟨qw_713, qw_714, qw_715, qw_5, qw_716, rfl, by decide, by decide, by decide +kernel⟩
theorem vq_L_145 : vq RL 145 RX4 yX4_appendCharacter cX4_appendCharacter 2 (some .int) 1 := ⟨qw_717, qw_718, qw_719, qw_2, qw_720, rfl, by decide, by decide, by decide +kernel⟩
theorem vq_L_148 : vq RL 148 RX5 yX5_appendCharacter cX5_appendCharacter 2 (some .int) 1 := ⟨qw_727, qw_728, qw_729, qw_5, qw_730, rfl, by decide, by decide, by decide +kernel⟩
theorem vq_L_149 : vq RL 149 RX4 yX4_clearText cX4_clearText 2 (some .int) 0 := ⟨qw_732, qw_733, qw_734, qw_2, qw_735, rfl, by decide, by decide, by decide +kernel⟩
theorem vq_L_152 : vq RL 152 RX5 yX5_clearText cX5_clearText 2 (some .int) 0 := ⟨qw_736, qw_737, qw_738, qw_5, qw_739, rfl, by decide, by decide, by decide +kernel⟩
theorem vq_L_153 : vq RL 153 RX4 yX4_runScript cX4_runScript 6 (some .int) 0 := ⟨qw_740, qw_741, qw_742, qw_2, qw_743, rfl, by decide, by decide, by decide +kernel⟩
theorem vq_L_156 : vq RL 156 RX5 yX5_runScript cX5_runScript 2 (some .int) 0 := ⟨qw_787, qw_788, qw_789, qw_5, qw_790, rfl, by decide, by decide, by decide +kernel⟩
theorem vq_L_157 : vq RL 157 RX4 yX4_undo cX4_undo 1 (some .int) 0 := ⟨qw_813, qw_814, qw_815, qw_2, qw_816, rfl, by decide, by decide, by decide +kernel⟩
theorem vq_L_160 : vq RL 160 RX5 yX5_undo cX5_undo 2 (some .int) 0 := ⟨qw_822, qw_823, qw_824, qw_5, qw_825, rfl, by decide, by decide, by decide +kernel⟩
theorem vq_L_161 : vq RL 161 RX4 yX4_save cX4_save 3 (some .int) 1 := ⟨qw_826, qw_827, qw_828, qw_2, qw_829, rfl, by decide, by decide, by decide +kernel⟩
theorem vq_L_164 : vq RL 164 RX5 yX5_save cX5_save 3 (some .int) 1 := ⟨qw_831, qw_832, qw_833, qw_5, qw_834, rfl, by decide, by decide, by decide +kernel⟩
theorem vq_L_165 : vq RL 165 RX4 yX4_restore cX4_restore 3 (some .int) 1 := ⟨qw_835, qw_836, qw_837, qw_2, qw_838, rfl, by decide, by decide, by decide +kernel⟩
theorem vq_L_168 : vq RL 168 RX5 yX5_restore cX5_restore 3 (some .int) 1 := ⟨qw_839, qw_840, qw_841, qw_5, qw_842, rfl, by decide, by decide, by decide +kernel⟩
def xs_s (D : va_G) (y : Nat → ClassId) (s0 qx : Nat) (A : Nat → Nat) (p : Nat → Bool) (c k : Nat) (U : Nat → Int32) (V : Nat → Nat → Int32) (N : Nat → ns_T) (H : Heap) : Prop := ∃ (P : Nat → Prop) (ad NB : Nat → Nat → Nat), (∀ q, P q → s0 ≤ q) ∧ (∀ j, j < 7 → ¬ P (A j)) ∧ ad 9 0 = qx ∧ tp_e D y P ad NB p (hh_s c k) U V N H
theorem tp_f2 {D : va_G} {y : Nat → ClassId} {P : Nat → Prop} {ad NB : Nat → Nat → Nat} {p : Nat → Bool} {h : Nat → Int32} {U : Nat → Int32} {V : Nat → Nat → Int32} {N : Nat → ns_T} {H H1 : Heap} {A : Nat → Nat} (T : tp_e D y P ad NB p h U V N H) (hA : ∀ j, j < 7 → ¬ P (A j)) (hk : ∀ q : Nat, q < H.size → ¬ rg_s 7 A H.size q → H1[q]? = H[q]?) : tp_e D y P ad NB p h U V N H1 := by
  have no : ∀ q, P q → q < H.size → ¬ rg_s 7 A H.size q := by
    rintro q hq hlt (⟨j, hj, e⟩ | hge)
    · exact hA j hj (by rw [← e]; exact hq)
    · omega
  refine ⟨T.1, T.2.1, T.2.2.1, kp_P (n := 4) (A := ad 9) _ (tp_t T) rfl hk (fun j hj => no _ (T.2.1 9 j (vz_t hj)) (tp_lt T 9 j (vz_t hj))), kp_P (n := 5) (A := ad 10) _ (tp_s T) rfl hk (fun j hj => no _ (T.2.1 10 j (vz_s hj)) (tp_lt T 10 j (vz_s hj))), fun i hi => ⟨kp_P (n := 5) (A := ad i) _ (tp_n T hi) rfl hk (fun j hj => no _ (T.2.1 i j (vz_n hi hj)) (tp_lt T i j (vz_n hi hj))), kp_P (n := 6) (A := NB i) _ (tp_l T hi) rfl hk (fun k hk6 => no _ (T.2.2.1 i k hi hk6).1 (tp_ltB T i k hi hk6))⟩⟩
theorem xs_W {D : va_G} {y : Nat → ClassId} {P : Nat → Prop} {ad ad1 NB1 : Nat → Nat → Nat} {p1 : Nat → Bool} {c1 k1 : Nat} {U1 : Nat → Int32} {V1 : Nat → Nat → Int32} {N1 : Nat → ns_T} {H H1 : Heap} {A : Nat → Nat} {s0 : Nat} {F : Nat → Int32} {R : Nat → Nat → Int32} (h1 : ∀ q, P q → s0 ≤ q) (h2 : ∀ j, j < 7 → ¬ P (A j)) (hs : s0 ≤ H.size) (hM : va_P D vwCl (w5_s y A F R) H) (e : ad1 9 0 = ad 9 0) (T : tp_e D y (pu_s P H.size) ad1 NB1 p1 (hh_s c1 k1) U1 V1 N1 H1) : xs_s D y s0 (ad 9 0) A p1 c1 k1 U1 V1 N1 H1 := by
  refine ⟨pu_s P H.size, ad1, NB1, ?_, ?_, e, T⟩
  · rintro q (hq | hq)
    · exact h1 q hq
    · omega
  · rintro j hj (hq | hq)
    · exact h2 j hj hq
    · have := lt_of hM (B := A) (k := 7) rfl j hj
      omega
theorem xs_M {D : va_G} {y : Nat → ClassId} {P : Nat → Prop} {H H1 : Heap} {A : Nat → Nat} {F : Nat → Int32} {R : Nat → Nat → Int32} (h2 : ∀ j, j < 7 → ¬ P (A j)) (hM : va_P D vwCl (w5_s y A F R) H) (hk : ∀ q : Nat, q < H.size → ¬ pu_s P H.size q → H1[q]? = H[q]?) : va_P D vwCl (w5_s y A F R) H1 := by
  refine kp_P (n := 7) (A := A) _ hM rfl hk ?_
  rintro j hj (hq | hq)
  · exact h2 j hj hq
  · have := lt_of hM (B := A) (k := 7) rfl j hj
    omega
theorem in_P {P : Nat → Prop} {s0 sz : Nat} (h1 : ∀ q, P q → s0 ≤ q) (hs : s0 ≤ sz) : ∀ q, pu_s P sz q → s0 ≤ q := by
  rintro q (hq | hq)
  · exact h1 q hq
  · omega
theorem in_A {A : Nat → Nat} {s0 sz : Nat} (h1 : ∀ j, j < 7 → s0 ≤ A j) (hs : s0 ≤ sz) : ∀ q, rg_s 7 A sz q → s0 ≤ q := by
  rintro q (⟨j, hj, rfl⟩ | hq)
  · exact h1 j hj
  · omega

set_option maxHeartbeats 4000000 in
set_option maxRecDepth 100000 in
theorem lc_0 {p0 : Program} {l : Launch} {e : Env} {s : State} {m : MethodId} {args : Array Value} {below : List Frame} {meth : Method} {co : Code} {D : va_G} {y : Nat → ClassId} {b L : Nat} {xs : Nat → Int32} {rt : Option FieldType} {Q0 : State → Prop} {A : Nat → Nat} {qx t i : Nat} {x3 : Int32} (X : cx p0 s m args meth co cL_law 4 rt RL D y) (hX : va_X b L xs s s.heap) (hbl : b < s.heap.size) (hI : aj_s 7 A) (hAs : ∀ j, j < 7 → s.heap.size ≤ A j) (ht : t < 512) (ex3 : x3 = nI i) (hi : i + 5 ≤ L) (hL : L ≤ 2560) (K : ∀ (p : Nat → Bool) (c k : Nat) (U : Nat → Int32) (V : Nat → Nat → Int32) (N : Nat → ns_T) (F : Nat → Int32) (R : Nat → Nat → Int32) (H : Heap) (locs : List Loc), xs_s D y s.heap.size qx A p c k U V N H → va_P D vwCl (w5_s y A F R) H → rl_s p c k U V N F R → va_S (fun q : Nat => s.heap.size ≤ q) s.heap H locs → ∀ ls, lv_has ls 4 [(0, .ref b), (1, .ref qx), (2, .ref (A 0)), (3, .int x3)] → W p0 l e room_1 s m args below meth co H locs (100 + 6 * (t + 1)) (4000 + 220 * (t + 1)) Q0 (F0 m 1014 ls [])) {p : Nat → Bool} {c k : Nat} {U : Nat → Int32} {V : Nat → Nat → Int32} {N : Nat → ns_T} {F : Nat → Int32} {R : Nat → Nat → Int32} {H : Heap} {locs : List Loc} (hx : xs_s D y s.heap.size qx A p c k U V N H) (hM : va_P D vwCl (w5_s y A F R) H) (hrel : rl_s p c k U V N F R) (hS : va_S (fun q : Nat => s.heap.size ≤ q) s.heap H locs) {ls : Array Slot} (hl : lv_has ls 4 [(0, .ref b), (1, .ref qx), (2, .ref (A 0)), (3, .int x3)]) : W p0 l e room_1 s m args below meth co H locs (100 + 6 * t) (4000 + 220 * t) Q0 (F0 m 200 ls []) := by
  obtain ⟨P, ad, NB, hP1, hP2, rfl, hT⟩ := hx
  have hbA : ¬ (fun q : Nat => s.heap.size ≤ q) b := Nat.not_le.mpr hbl
  have hj1 : vp_in (x3 + (1 : Int32)) L := by rw [ex3, show nI i + (1 : Int32) = nI (i + 1) from nI_add i 1]; exact vp_in_nI (by omega) (by omega)
  have hj2 : vp_in (x3 + (2 : Int32)) L := by rw [ex3, show nI i + (2 : Int32) = nI (i + 2) from nI_add i 2]; exact vp_in_nI (by omega) (by omega)
  have hj3 : vp_in (x3 + (3 : Int32)) L := by rw [ex3, show nI i + (3 : Int32) = nI (i + 3) from nI_add i 3]; exact vp_in_nI (by omega) (by omega)
  have hj4 : vp_in (x3 + (4 : Int32)) L := by rw [ex3, show nI i + (4 : Int32) = nI (i + 4) from nI_add i 4]; exact vp_in_nI (by omega) (by omega)
  obtain ⟨r, c1, k1, U1, V1, N1, F1, R1, hx1, hm1, hrel⟩ := sim_configure hrel (xs (x3 + (1 : Int32)).toNatClampNeg) (xs (x3 + (2 : Int32)).toNatClampNeg) (xs (x3 + (3 : Int32)).toNatClampNeg) (xs (x3 + (4 : Int32)).toNatClampNeg)
  refine lv_aload_n (cx_x X) (cx_b X) dL_law_200 rfl (lv_at hl 1 rfl) ?_
  refine lv_aload_n (cx_x X) (cx_b X) dL_law_201 rfl (lv_at hl 0 rfl) ?_
  refine lv_iload_n (cx_x X) (cx_b X) dL_law_202 rfl (lv_at hl 3 rfl) ?_
  refine lv_iconst (v := (1 : Int32)) (cx_x X) (cx_b X) dL_law_203 (by decide) ?_
  refine lv_iadd (cx_x X) (cx_b X) dL_law_204 ?_
  refine va_sld (cx_x X) (cx_b X) hX hbl hbA hS hj1 dL_law_205 ?_
  refine lv_aload_n (cx_x X) (cx_b X) dL_law_206 rfl (lv_at hl 0 rfl) ?_
  refine lv_iload_n (cx_x X) (cx_b X) dL_law_207 rfl (lv_at hl 3 rfl) ?_
  refine lv_iconst (v := (2 : Int32)) (cx_x X) (cx_b X) dL_law_208 (by decide) ?_
  refine lv_iadd (cx_x X) (cx_b X) dL_law_209 ?_
  refine va_sld (cx_x X) (cx_b X) hX hbl hbA hS hj2 dL_law_210 ?_
  refine lv_aload_n (cx_x X) (cx_b X) dL_law_211 rfl (lv_at hl 0 rfl) ?_
  refine lv_iload_n (cx_x X) (cx_b X) dL_law_212 rfl (lv_at hl 3 rfl) ?_
  refine lv_iconst (v := (3 : Int32)) (cx_x X) (cx_b X) dL_law_213 (by decide) ?_
  refine lv_iadd (cx_x X) (cx_b X) dL_law_214 ?_
  refine va_sld (cx_x X) (cx_b X) hX hbl hbA hS hj3 dL_law_215 ?_
  refine lv_aload_n (cx_x X) (cx_b X) dL_law_216 rfl (lv_at hl 0 rfl) ?_
  refine lv_iload_n (cx_x X) (cx_b X) dL_law_217 rfl (lv_at hl 3 rfl) ?_
  refine lv_iconst (v := (4 : Int32)) (cx_x X) (cx_b X) dL_law_218 (by decide) ?_
  refine lv_iadd (cx_x X) (cx_b X) dL_law_219 ?_
  refine va_sld (cx_x X) (cx_b X) hX hbl hbA hS hj4 dL_law_220 ?_
  refine af_W (mc := 6) (ms := 133) (rn_V (As := [.int (xs (x3 + (1 : Int32)).toNatClampNeg), .int (xs (x3 + (2 : Int32)).toNatClampNeg), .int (xs (x3 + (3 : Int32)).toNatClampNeg), .int (xs (x3 + (4 : Int32)).toNatClampNeg)]) (rest := []) X (c_configure l D y P ad NB p c k U V N (xs (x3 + (1 : Int32)).toNatClampNeg) (xs (x3 + (2 : Int32)).toNatClampNeg) (xs (x3 + (3 : Int32)).toNatClampNeg) (xs (x3 + (4 : Int32)).toNatClampNeg) r c1 k1 U1 V1 N1 _ hx1) vq_L_13 ⟨rfl, rfl⟩ ⟨Nat.le_of_ble_eq_true rfl, Nat.le_of_ble_eq_true rfl⟩ (rec_4 X (tp_w hT)) ⟨rfl, hT⟩ rfl hl.1 rfl (Nat.le_of_ble_eq_true rfl) dL_law_221 ⟨by show 100 + 6 * t + 6 ≤ 600000; omega, by show 4000 + 220 * t + 133 ≤ 7302250; omega⟩) hS (in_P hP1 hS.1) (fun H1 locs1 hW hz1 hk1 hS1 => ?_)
  obtain ⟨ad1, NB1, e9, hT1⟩ := hW
  replace hx := xs_W hP1 hP2 hS.1 hM e9 hT1
  replace hM := xs_M hP2 hM hk1
  replace hS := hS1
  clear hS1
  refine lv_aload_n (cx_x X) (cx_b X) dL_law_224 rfl (lv_at hl 2 rfl) ?_
  refine lv_aload_n (cx_x X) (cx_b X) dL_law_225 rfl (lv_at hl 0 rfl) ?_
  refine lv_iload_n (cx_x X) (cx_b X) dL_law_226 rfl (lv_at hl 3 rfl) ?_
  refine lv_iconst (v := (1 : Int32)) (cx_x X) (cx_b X) dL_law_227 (by decide) ?_
  refine lv_iadd (cx_x X) (cx_b X) dL_law_228 ?_
  refine va_sld (cx_x X) (cx_b X) hX hbl hbA hS hj1 dL_law_229 ?_
  refine lv_aload_n (cx_x X) (cx_b X) dL_law_230 rfl (lv_at hl 0 rfl) ?_
  refine lv_iload_n (cx_x X) (cx_b X) dL_law_231 rfl (lv_at hl 3 rfl) ?_
  refine lv_iconst (v := (2 : Int32)) (cx_x X) (cx_b X) dL_law_232 (by decide) ?_
  refine lv_iadd (cx_x X) (cx_b X) dL_law_233 ?_
  refine va_sld (cx_x X) (cx_b X) hX hbl hbA hS hj2 dL_law_234 ?_
  refine lv_aload_n (cx_x X) (cx_b X) dL_law_235 rfl (lv_at hl 0 rfl) ?_
  refine lv_iload_n (cx_x X) (cx_b X) dL_law_236 rfl (lv_at hl 3 rfl) ?_
  refine lv_iconst (v := (3 : Int32)) (cx_x X) (cx_b X) dL_law_237 (by decide) ?_
  refine lv_iadd (cx_x X) (cx_b X) dL_law_238 ?_
  refine va_sld (cx_x X) (cx_b X) hX hbl hbA hS hj3 dL_law_239 ?_
  refine lv_aload_n (cx_x X) (cx_b X) dL_law_240 rfl (lv_at hl 0 rfl) ?_
  refine lv_iload_n (cx_x X) (cx_b X) dL_law_241 rfl (lv_at hl 3 rfl) ?_
  refine lv_iconst (v := (4 : Int32)) (cx_x X) (cx_b X) dL_law_242 (by decide) ?_
  refine lv_iadd (cx_x X) (cx_b X) dL_law_243 ?_
  refine va_sld (cx_x X) (cx_b X) hX hbl hbA hS hj4 dL_law_244 ?_
  refine af_W (mc := 0) (ms := 0) (rn_V (As := [.int (xs (x3 + (1 : Int32)).toNatClampNeg), .int (xs (x3 + (2 : Int32)).toNatClampNeg), .int (xs (x3 + (3 : Int32)).toNatClampNeg), .int (xs (x3 + (4 : Int32)).toNatClampNeg)]) (rest := [.int r]) X (c_X5_configure l D y A F R (xs (x3 + (1 : Int32)).toNatClampNeg) (xs (x3 + (2 : Int32)).toNatClampNeg) (xs (x3 + (3 : Int32)).toNatClampNeg) (xs (x3 + (4 : Int32)).toNatClampNeg) r F1 R1 _ hI hm1) vq_L_17 ⟨rfl, rfl⟩ ⟨Nat.le_of_ble_eq_true rfl, Nat.le_of_ble_eq_true rfl⟩ (rec_5 X hM) ⟨rfl, hM⟩ rfl hl.1 rfl (Nat.le_of_ble_eq_true rfl) dL_law_245 ⟨by show 100 + 6 * t + 6 + 0 ≤ 600000; omega, by show 4000 + 220 * t + 133 + 0 ≤ 7302250; omega⟩) hS (in_A hAs hS.1) (fun H2 locs2 hM2 hz2 hk2 hS => ?_)
  refine lv_icmp_eq (tgt := 1014) (cx_x X) (cx_b X) dL_law_248 (by decide) (fun _ => ?_) (fun hc => absurd rfl hc)
  refine W.widen (k := 100 + 6 * (t + 1)) (n := 4000 + 220 * (t + 1)) (by omega) (by omega) ?_
  obtain ⟨P1, ad1, NB1, g1, g2, g3, g4⟩ := hx
  exact K _ _ _ _ _ _ _ _ _ _ ⟨P1, ad1, NB1, g1, g2, g3, tp_f2 g4 g2 hk2⟩ hM2 hrel hS _ hl
set_option maxHeartbeats 4000000 in
set_option maxRecDepth 100000 in
theorem lc_1 {p0 : Program} {l : Launch} {e : Env} {s : State} {m : MethodId} {args : Array Value} {below : List Frame} {meth : Method} {co : Code} {D : va_G} {y : Nat → ClassId} {b L : Nat} {xs : Nat → Int32} {rt : Option FieldType} {Q0 : State → Prop} {A : Nat → Nat} {qx t i : Nat} {x3 : Int32} (X : cx p0 s m args meth co cL_law 4 rt RL D y) (hX : va_X b L xs s s.heap) (hbl : b < s.heap.size) (hI : aj_s 7 A) (hAs : ∀ j, j < 7 → s.heap.size ≤ A j) (ht : t < 512) (ex3 : x3 = nI i) (hi : i + 5 ≤ L) (hL : L ≤ 2560) (K : ∀ (p : Nat → Bool) (c k : Nat) (U : Nat → Int32) (V : Nat → Nat → Int32) (N : Nat → ns_T) (F : Nat → Int32) (R : Nat → Nat → Int32) (H : Heap) (locs : List Loc), xs_s D y s.heap.size qx A p c k U V N H → va_P D vwCl (w5_s y A F R) H → rl_s p c k U V N F R → va_S (fun q : Nat => s.heap.size ≤ q) s.heap H locs → ∀ ls, lv_has ls 4 [(0, .ref b), (1, .ref qx), (2, .ref (A 0)), (3, .int x3)] → W p0 l e room_1 s m args below meth co H locs (100 + 6 * (t + 1)) (4000 + 220 * (t + 1)) Q0 (F0 m 1014 ls [])) {p : Nat → Bool} {c k : Nat} {U : Nat → Int32} {V : Nat → Nat → Int32} {N : Nat → ns_T} {F : Nat → Int32} {R : Nat → Nat → Int32} {H : Heap} {locs : List Loc} (hx : xs_s D y s.heap.size qx A p c k U V N H) (hM : va_P D vwCl (w5_s y A F R) H) (hrel : rl_s p c k U V N F R) (hS : va_S (fun q : Nat => s.heap.size ≤ q) s.heap H locs) {ls : Array Slot} (hl : lv_has ls 4 [(0, .ref b), (1, .ref qx), (2, .ref (A 0)), (3, .int x3)]) : W p0 l e room_1 s m args below meth co H locs (100 + 6 * t) (4000 + 220 * t) Q0 (F0 m 253 ls []) := by
  obtain ⟨P, ad, NB, hP1, hP2, rfl, hT⟩ := hx
  have hbA : ¬ (fun q : Nat => s.heap.size ≤ q) b := Nat.not_le.mpr hbl
  have hj1 : vp_in (x3 + (1 : Int32)) L := by rw [ex3, show nI i + (1 : Int32) = nI (i + 1) from nI_add i 1]; exact vp_in_nI (by omega) (by omega)
  obtain ⟨r, c1, k1, U1, V1, N1, F1, R1, hx1, hm1, hrel⟩ := sim_setStrategy hrel (xs (x3 + (1 : Int32)).toNatClampNeg)
  refine lv_aload_n (cx_x X) (cx_b X) dL_law_253 rfl (lv_at hl 1 rfl) ?_
  refine lv_aload_n (cx_x X) (cx_b X) dL_law_254 rfl (lv_at hl 0 rfl) ?_
  refine lv_iload_n (cx_x X) (cx_b X) dL_law_255 rfl (lv_at hl 3 rfl) ?_
  refine lv_iconst (v := (1 : Int32)) (cx_x X) (cx_b X) dL_law_256 (by decide) ?_
  refine lv_iadd (cx_x X) (cx_b X) dL_law_257 ?_
  refine va_sld (cx_x X) (cx_b X) hX hbl hbA hS hj1 dL_law_258 ?_
  refine af_W (mc := 0) (ms := 0) (rn_V (As := [.int (xs (x3 + (1 : Int32)).toNatClampNeg)]) (rest := []) X (c_X4_setStrategy l D y P ad NB p c k U V N (xs (x3 + (1 : Int32)).toNatClampNeg) r c1 k1 U1 V1 N1 _ hx1) vq_L_18 ⟨rfl, rfl⟩ ⟨Nat.le_of_ble_eq_true rfl, Nat.le_of_ble_eq_true rfl⟩ (rec_4 X (tp_w hT)) ⟨rfl, hT⟩ rfl hl.1 rfl (Nat.le_of_ble_eq_true rfl) dL_law_259 ⟨by show 100 + 6 * t + 0 ≤ 600000; omega, by show 4000 + 220 * t + 0 ≤ 7302250; omega⟩) hS (in_P hP1 hS.1) (fun H1 locs1 hW hz1 hk1 hS1 => ?_)
  obtain ⟨NB1, hT1⟩ := hW
  replace hx := xs_W hP1 hP2 hS.1 hM rfl hT1
  replace hM := xs_M hP2 hM hk1
  replace hS := hS1
  clear hS1
  refine lv_aload_n (cx_x X) (cx_b X) dL_law_262 rfl (lv_at hl 2 rfl) ?_
  refine lv_aload_n (cx_x X) (cx_b X) dL_law_263 rfl (lv_at hl 0 rfl) ?_
  refine lv_iload_n (cx_x X) (cx_b X) dL_law_264 rfl (lv_at hl 3 rfl) ?_
  refine lv_iconst (v := (1 : Int32)) (cx_x X) (cx_b X) dL_law_265 (by decide) ?_
  refine lv_iadd (cx_x X) (cx_b X) dL_law_266 ?_
  refine va_sld (cx_x X) (cx_b X) hX hbl hbA hS hj1 dL_law_267 ?_
  refine af_W (mc := 0) (ms := 0) (rn_V (As := [.int (xs (x3 + (1 : Int32)).toNatClampNeg)]) (rest := [.int r]) X (c_X5_setStrategy l D y A F R (xs (x3 + (1 : Int32)).toNatClampNeg) r F1 R1 _ hI hm1) vq_L_22 ⟨rfl, rfl⟩ ⟨Nat.le_of_ble_eq_true rfl, Nat.le_of_ble_eq_true rfl⟩ (rec_5 X hM) ⟨rfl, hM⟩ rfl hl.1 rfl (Nat.le_of_ble_eq_true rfl) dL_law_268 ⟨by show 100 + 6 * t + 0 + 0 ≤ 600000; omega, by show 4000 + 220 * t + 0 + 0 ≤ 7302250; omega⟩) hS (in_A hAs hS.1) (fun H2 locs2 hM2 hz2 hk2 hS => ?_)
  refine lv_icmp_eq (tgt := 1014) (cx_x X) (cx_b X) dL_law_271 (by decide) (fun _ => ?_) (fun hc => absurd rfl hc)
  refine W.widen (k := 100 + 6 * (t + 1)) (n := 4000 + 220 * (t + 1)) (by omega) (by omega) ?_
  obtain ⟨P1, ad1, NB1, g1, g2, g3, g4⟩ := hx
  exact K _ _ _ _ _ _ _ _ _ _ ⟨P1, ad1, NB1, g1, g2, g3, tp_f2 g4 g2 hk2⟩ hM2 hrel hS _ hl
set_option maxHeartbeats 4000000 in
set_option maxRecDepth 100000 in
theorem lc_2 {p0 : Program} {l : Launch} {e : Env} {s : State} {m : MethodId} {args : Array Value} {below : List Frame} {meth : Method} {co : Code} {D : va_G} {y : Nat → ClassId} {b L : Nat} {xs : Nat → Int32} {rt : Option FieldType} {Q0 : State → Prop} {A : Nat → Nat} {qx t i : Nat} {x3 : Int32} (X : cx p0 s m args meth co cL_law 4 rt RL D y) (hX : va_X b L xs s s.heap) (hbl : b < s.heap.size) (hI : aj_s 7 A) (hAs : ∀ j, j < 7 → s.heap.size ≤ A j) (ht : t < 512) (ex3 : x3 = nI i) (hi : i + 5 ≤ L) (hL : L ≤ 2560) (K : ∀ (p : Nat → Bool) (c k : Nat) (U : Nat → Int32) (V : Nat → Nat → Int32) (N : Nat → ns_T) (F : Nat → Int32) (R : Nat → Nat → Int32) (H : Heap) (locs : List Loc), xs_s D y s.heap.size qx A p c k U V N H → va_P D vwCl (w5_s y A F R) H → rl_s p c k U V N F R → va_S (fun q : Nat => s.heap.size ≤ q) s.heap H locs → ∀ ls, lv_has ls 4 [(0, .ref b), (1, .ref qx), (2, .ref (A 0)), (3, .int x3)] → W p0 l e room_1 s m args below meth co H locs (100 + 6 * (t + 1)) (4000 + 220 * (t + 1)) Q0 (F0 m 1014 ls [])) {p : Nat → Bool} {c k : Nat} {U : Nat → Int32} {V : Nat → Nat → Int32} {N : Nat → ns_T} {F : Nat → Int32} {R : Nat → Nat → Int32} {H : Heap} {locs : List Loc} (hx : xs_s D y s.heap.size qx A p c k U V N H) (hM : va_P D vwCl (w5_s y A F R) H) (hrel : rl_s p c k U V N F R) (hS : va_S (fun q : Nat => s.heap.size ≤ q) s.heap H locs) {ls : Array Slot} (hl : lv_has ls 4 [(0, .ref b), (1, .ref qx), (2, .ref (A 0)), (3, .int x3)]) : W p0 l e room_1 s m args below meth co H locs (100 + 6 * t) (4000 + 220 * t) Q0 (F0 m 276 ls []) := by
  obtain ⟨P, ad, NB, hP1, hP2, rfl, hT⟩ := hx
  have hbA : ¬ (fun q : Nat => s.heap.size ≤ q) b := Nat.not_le.mpr hbl
  have hj1 : vp_in (x3 + (1 : Int32)) L := by rw [ex3, show nI i + (1 : Int32) = nI (i + 1) from nI_add i 1]; exact vp_in_nI (by omega) (by omega)
  obtain ⟨r, c1, k1, U1, V1, N1, F1, R1, hx1, hm1, hrel⟩ := sim_setReserve hrel (xs (x3 + (1 : Int32)).toNatClampNeg)
  refine lv_aload_n (cx_x X) (cx_b X) dL_law_276 rfl (lv_at hl 1 rfl) ?_
  refine lv_aload_n (cx_x X) (cx_b X) dL_law_277 rfl (lv_at hl 0 rfl) ?_
  refine lv_iload_n (cx_x X) (cx_b X) dL_law_278 rfl (lv_at hl 3 rfl) ?_
  refine lv_iconst (v := (1 : Int32)) (cx_x X) (cx_b X) dL_law_279 (by decide) ?_
  refine lv_iadd (cx_x X) (cx_b X) dL_law_280 ?_
  refine va_sld (cx_x X) (cx_b X) hX hbl hbA hS hj1 dL_law_281 ?_
  refine af_W (mc := 0) (ms := 0) (rn_V (As := [.int (xs (x3 + (1 : Int32)).toNatClampNeg)]) (rest := []) X (c_X4_setReserve l D y P ad NB p c k U V N (xs (x3 + (1 : Int32)).toNatClampNeg) r c1 k1 U1 V1 N1 _ hx1) vq_L_23 ⟨rfl, rfl⟩ ⟨Nat.le_of_ble_eq_true rfl, Nat.le_of_ble_eq_true rfl⟩ (rec_4 X (tp_w hT)) ⟨rfl, hT⟩ rfl hl.1 rfl (Nat.le_of_ble_eq_true rfl) dL_law_282 ⟨by show 100 + 6 * t + 0 ≤ 600000; omega, by show 4000 + 220 * t + 0 ≤ 7302250; omega⟩) hS (in_P hP1 hS.1) (fun H1 locs1 hW hz1 hk1 hS1 => ?_)
  obtain ⟨NB1, hT1⟩ := hW
  replace hx := xs_W hP1 hP2 hS.1 hM rfl hT1
  replace hM := xs_M hP2 hM hk1
  replace hS := hS1
  clear hS1
  refine lv_aload_n (cx_x X) (cx_b X) dL_law_285 rfl (lv_at hl 2 rfl) ?_
  refine lv_aload_n (cx_x X) (cx_b X) dL_law_286 rfl (lv_at hl 0 rfl) ?_
  refine lv_iload_n (cx_x X) (cx_b X) dL_law_287 rfl (lv_at hl 3 rfl) ?_
  refine lv_iconst (v := (1 : Int32)) (cx_x X) (cx_b X) dL_law_288 (by decide) ?_
  refine lv_iadd (cx_x X) (cx_b X) dL_law_289 ?_
  refine va_sld (cx_x X) (cx_b X) hX hbl hbA hS hj1 dL_law_290 ?_
  refine af_W (mc := 0) (ms := 0) (rn_V (As := [.int (xs (x3 + (1 : Int32)).toNatClampNeg)]) (rest := [.int r]) X (c_X5_setReserve l D y A F R (xs (x3 + (1 : Int32)).toNatClampNeg) r F1 R1 _ hI hm1) vq_L_26 ⟨rfl, rfl⟩ ⟨Nat.le_of_ble_eq_true rfl, Nat.le_of_ble_eq_true rfl⟩ (rec_5 X hM) ⟨rfl, hM⟩ rfl hl.1 rfl (Nat.le_of_ble_eq_true rfl) dL_law_291 ⟨by show 100 + 6 * t + 0 + 0 ≤ 600000; omega, by show 4000 + 220 * t + 0 + 0 ≤ 7302250; omega⟩) hS (in_A hAs hS.1) (fun H2 locs2 hM2 hz2 hk2 hS => ?_)
  refine lv_icmp_eq (tgt := 1014) (cx_x X) (cx_b X) dL_law_294 (by decide) (fun _ => ?_) (fun hc => absurd rfl hc)
  refine W.widen (k := 100 + 6 * (t + 1)) (n := 4000 + 220 * (t + 1)) (by omega) (by omega) ?_
  obtain ⟨P1, ad1, NB1, g1, g2, g3, g4⟩ := hx
  exact K _ _ _ _ _ _ _ _ _ _ ⟨P1, ad1, NB1, g1, g2, g3, tp_f2 g4 g2 hk2⟩ hM2 hrel hS _ hl
set_option maxHeartbeats 4000000 in
set_option maxRecDepth 100000 in
theorem lc_3 {p0 : Program} {l : Launch} {e : Env} {s : State} {m : MethodId} {args : Array Value} {below : List Frame} {meth : Method} {co : Code} {D : va_G} {y : Nat → ClassId} {b L : Nat} {xs : Nat → Int32} {rt : Option FieldType} {Q0 : State → Prop} {A : Nat → Nat} {qx t i : Nat} {x3 : Int32} (X : cx p0 s m args meth co cL_law 4 rt RL D y) (hX : va_X b L xs s s.heap) (hbl : b < s.heap.size) (hI : aj_s 7 A) (hAs : ∀ j, j < 7 → s.heap.size ≤ A j) (ht : t < 512) (ex3 : x3 = nI i) (hi : i + 5 ≤ L) (hL : L ≤ 2560) (K : ∀ (p : Nat → Bool) (c k : Nat) (U : Nat → Int32) (V : Nat → Nat → Int32) (N : Nat → ns_T) (F : Nat → Int32) (R : Nat → Nat → Int32) (H : Heap) (locs : List Loc), xs_s D y s.heap.size qx A p c k U V N H → va_P D vwCl (w5_s y A F R) H → rl_s p c k U V N F R → va_S (fun q : Nat => s.heap.size ≤ q) s.heap H locs → ∀ ls, lv_has ls 4 [(0, .ref b), (1, .ref qx), (2, .ref (A 0)), (3, .int x3)] → W p0 l e room_1 s m args below meth co H locs (100 + 6 * (t + 1)) (4000 + 220 * (t + 1)) Q0 (F0 m 1014 ls [])) {p : Nat → Bool} {c k : Nat} {U : Nat → Int32} {V : Nat → Nat → Int32} {N : Nat → ns_T} {F : Nat → Int32} {R : Nat → Nat → Int32} {H : Heap} {locs : List Loc} (hx : xs_s D y s.heap.size qx A p c k U V N H) (hM : va_P D vwCl (w5_s y A F R) H) (hrel : rl_s p c k U V N F R) (hS : va_S (fun q : Nat => s.heap.size ≤ q) s.heap H locs) {ls : Array Slot} (hl : lv_has ls 4 [(0, .ref b), (1, .ref qx), (2, .ref (A 0)), (3, .int x3)]) : W p0 l e room_1 s m args below meth co H locs (100 + 6 * t) (4000 + 220 * t) Q0 (F0 m 299 ls []) := by
  obtain ⟨P, ad, NB, hP1, hP2, rfl, hT⟩ := hx
  have hbA : ¬ (fun q : Nat => s.heap.size ≤ q) b := Nat.not_le.mpr hbl
  have hj1 : vp_in (x3 + (1 : Int32)) L := by rw [ex3, show nI i + (1 : Int32) = nI (i + 1) from nI_add i 1]; exact vp_in_nI (by omega) (by omega)
  obtain ⟨r, c1, k1, U1, V1, N1, F1, R1, hx1, hm1, hrel⟩ := sim_setReturning hrel (xs (x3 + (1 : Int32)).toNatClampNeg)
  refine lv_aload_n (cx_x X) (cx_b X) dL_law_299 rfl (lv_at hl 1 rfl) ?_
  refine lv_aload_n (cx_x X) (cx_b X) dL_law_300 rfl (lv_at hl 0 rfl) ?_
  refine lv_iload_n (cx_x X) (cx_b X) dL_law_301 rfl (lv_at hl 3 rfl) ?_
  refine lv_iconst (v := (1 : Int32)) (cx_x X) (cx_b X) dL_law_302 (by decide) ?_
  refine lv_iadd (cx_x X) (cx_b X) dL_law_303 ?_
  refine va_sld (cx_x X) (cx_b X) hX hbl hbA hS hj1 dL_law_304 ?_
  refine af_W (mc := 0) (ms := 0) (rn_V (As := [.int (xs (x3 + (1 : Int32)).toNatClampNeg)]) (rest := []) X (c_X4_setReturning l D y P ad NB p c k U V N (xs (x3 + (1 : Int32)).toNatClampNeg) r c1 k1 U1 V1 N1 _ hx1) vq_L_27 ⟨rfl, rfl⟩ ⟨Nat.le_of_ble_eq_true rfl, Nat.le_of_ble_eq_true rfl⟩ (rec_4 X (tp_w hT)) ⟨rfl, hT⟩ rfl hl.1 rfl (Nat.le_of_ble_eq_true rfl) dL_law_305 ⟨by show 100 + 6 * t + 0 ≤ 600000; omega, by show 4000 + 220 * t + 0 ≤ 7302250; omega⟩) hS (in_P hP1 hS.1) (fun H1 locs1 hW hz1 hk1 hS1 => ?_)
  obtain ⟨NB1, hT1⟩ := hW
  replace hx := xs_W hP1 hP2 hS.1 hM rfl hT1
  replace hM := xs_M hP2 hM hk1
  replace hS := hS1
  clear hS1
  refine lv_aload_n (cx_x X) (cx_b X) dL_law_308 rfl (lv_at hl 2 rfl) ?_
  refine lv_aload_n (cx_x X) (cx_b X) dL_law_309 rfl (lv_at hl 0 rfl) ?_
  refine lv_iload_n (cx_x X) (cx_b X) dL_law_310 rfl (lv_at hl 3 rfl) ?_
  refine lv_iconst (v := (1 : Int32)) (cx_x X) (cx_b X) dL_law_311 (by decide) ?_
  refine lv_iadd (cx_x X) (cx_b X) dL_law_312 ?_
  refine va_sld (cx_x X) (cx_b X) hX hbl hbA hS hj1 dL_law_313 ?_
  refine af_W (mc := 0) (ms := 0) (rn_V (As := [.int (xs (x3 + (1 : Int32)).toNatClampNeg)]) (rest := [.int r]) X (c_X5_setReturning l D y A F R (xs (x3 + (1 : Int32)).toNatClampNeg) r F1 R1 _ hI hm1) vq_L_30 ⟨rfl, rfl⟩ ⟨Nat.le_of_ble_eq_true rfl, Nat.le_of_ble_eq_true rfl⟩ (rec_5 X hM) ⟨rfl, hM⟩ rfl hl.1 rfl (Nat.le_of_ble_eq_true rfl) dL_law_314 ⟨by show 100 + 6 * t + 0 + 0 ≤ 600000; omega, by show 4000 + 220 * t + 0 + 0 ≤ 7302250; omega⟩) hS (in_A hAs hS.1) (fun H2 locs2 hM2 hz2 hk2 hS => ?_)
  refine lv_icmp_eq (tgt := 1014) (cx_x X) (cx_b X) dL_law_317 (by decide) (fun _ => ?_) (fun hc => absurd rfl hc)
  refine W.widen (k := 100 + 6 * (t + 1)) (n := 4000 + 220 * (t + 1)) (by omega) (by omega) ?_
  obtain ⟨P1, ad1, NB1, g1, g2, g3, g4⟩ := hx
  exact K _ _ _ _ _ _ _ _ _ _ ⟨P1, ad1, NB1, g1, g2, g3, tp_f2 g4 g2 hk2⟩ hM2 hrel hS _ hl
set_option maxHeartbeats 4000000 in
set_option maxRecDepth 100000 in
theorem lc_4 {p0 : Program} {l : Launch} {e : Env} {s : State} {m : MethodId} {args : Array Value} {below : List Frame} {meth : Method} {co : Code} {D : va_G} {y : Nat → ClassId} {b L : Nat} {xs : Nat → Int32} {rt : Option FieldType} {Q0 : State → Prop} {A : Nat → Nat} {qx t i : Nat} {x3 : Int32} (X : cx p0 s m args meth co cL_law 4 rt RL D y) (hX : va_X b L xs s s.heap) (hbl : b < s.heap.size) (hI : aj_s 7 A) (hAs : ∀ j, j < 7 → s.heap.size ≤ A j) (ht : t < 512) (ex3 : x3 = nI i) (hi : i + 5 ≤ L) (hL : L ≤ 2560) (K : ∀ (p : Nat → Bool) (c k : Nat) (U : Nat → Int32) (V : Nat → Nat → Int32) (N : Nat → ns_T) (F : Nat → Int32) (R : Nat → Nat → Int32) (H : Heap) (locs : List Loc), xs_s D y s.heap.size qx A p c k U V N H → va_P D vwCl (w5_s y A F R) H → rl_s p c k U V N F R → va_S (fun q : Nat => s.heap.size ≤ q) s.heap H locs → ∀ ls, lv_has ls 4 [(0, .ref b), (1, .ref qx), (2, .ref (A 0)), (3, .int x3)] → W p0 l e room_1 s m args below meth co H locs (100 + 6 * (t + 1)) (4000 + 220 * (t + 1)) Q0 (F0 m 1014 ls [])) {p : Nat → Bool} {c k : Nat} {U : Nat → Int32} {V : Nat → Nat → Int32} {N : Nat → ns_T} {F : Nat → Int32} {R : Nat → Nat → Int32} {H : Heap} {locs : List Loc} (hx : xs_s D y s.heap.size qx A p c k U V N H) (hM : va_P D vwCl (w5_s y A F R) H) (hrel : rl_s p c k U V N F R) (hS : va_S (fun q : Nat => s.heap.size ≤ q) s.heap H locs) {ls : Array Slot} (hl : lv_has ls 4 [(0, .ref b), (1, .ref qx), (2, .ref (A 0)), (3, .int x3)]) : W p0 l e room_1 s m args below meth co H locs (100 + 6 * t) (4000 + 220 * t) Q0 (F0 m 322 ls []) := by
  obtain ⟨P, ad, NB, hP1, hP2, rfl, hT⟩ := hx
  have hbA : ¬ (fun q : Nat => s.heap.size ≤ q) b := Nat.not_le.mpr hbl
  obtain ⟨r, hx1, hm1⟩ := sim_cellCount hrel
  refine lv_aload_n (cx_x X) (cx_b X) dL_law_322 rfl (lv_at hl 1 rfl) ?_
  refine af_R (rn_V (As := []) (rest := []) X (c_X4_cellCount l D y (ad 9 0) (ad 9 1) (ad 9 3) (ad 10 0) (ad 0) (NB 0) (N 0).1 (N 0).2.1 (N 0).2.2.1 (N 0).2.2.2  r hx1) vq_L_31 ⟨rfl, rfl⟩ ⟨Nat.le_of_ble_eq_true rfl, Nat.le_of_ble_eq_true rfl⟩ (rec_4 X (tp_w hT)) ⟨tp_w hT, tp_n hT pz_0, tp_l hT pz_0⟩ rfl hl.1 rfl (Nat.le_of_ble_eq_true rfl) dL_law_323 ⟨by show 100 + 6 * t ≤ 600000; omega, by show 4000 + 220 * t ≤ 7302250; omega⟩) ?_
  refine lv_aload_n (cx_x X) (cx_b X) dL_law_326 rfl (lv_at hl 2 rfl) ?_
  refine af_R (rn_V (As := []) (rest := [.int r]) X (c_X5_cellCount l D y A F R  r hm1) vq_L_35 ⟨rfl, rfl⟩ ⟨Nat.le_of_ble_eq_true rfl, Nat.le_of_ble_eq_true rfl⟩ (rec_5 X hM) hM rfl hl.1 rfl (Nat.le_of_ble_eq_true rfl) dL_law_327 ⟨by show 100 + 6 * t ≤ 600000; omega, by show 4000 + 220 * t ≤ 7302250; omega⟩) ?_
  refine lv_icmp_eq (tgt := 1014) (cx_x X) (cx_b X) dL_law_330 (by decide) (fun _ => ?_) (fun hc => absurd rfl hc)
  refine W.widen (k := 100 + 6 * (t + 1)) (n := 4000 + 220 * (t + 1)) (by omega) (by omega) ?_
  exact K _ _ _ _ _ _ _ _ _ _ ⟨P, ad, NB, hP1, hP2, rfl, hT⟩ hM hrel hS _ hl
set_option maxHeartbeats 4000000 in
set_option maxRecDepth 100000 in
theorem lc_5 {p0 : Program} {l : Launch} {e : Env} {s : State} {m : MethodId} {args : Array Value} {below : List Frame} {meth : Method} {co : Code} {D : va_G} {y : Nat → ClassId} {b L : Nat} {xs : Nat → Int32} {rt : Option FieldType} {Q0 : State → Prop} {A : Nat → Nat} {qx t i : Nat} {x3 : Int32} (X : cx p0 s m args meth co cL_law 4 rt RL D y) (hX : va_X b L xs s s.heap) (hbl : b < s.heap.size) (hI : aj_s 7 A) (hAs : ∀ j, j < 7 → s.heap.size ≤ A j) (ht : t < 512) (ex3 : x3 = nI i) (hi : i + 5 ≤ L) (hL : L ≤ 2560) (K : ∀ (p : Nat → Bool) (c k : Nat) (U : Nat → Int32) (V : Nat → Nat → Int32) (N : Nat → ns_T) (F : Nat → Int32) (R : Nat → Nat → Int32) (H : Heap) (locs : List Loc), xs_s D y s.heap.size qx A p c k U V N H → va_P D vwCl (w5_s y A F R) H → rl_s p c k U V N F R → va_S (fun q : Nat => s.heap.size ≤ q) s.heap H locs → ∀ ls, lv_has ls 4 [(0, .ref b), (1, .ref qx), (2, .ref (A 0)), (3, .int x3)] → W p0 l e room_1 s m args below meth co H locs (100 + 6 * (t + 1)) (4000 + 220 * (t + 1)) Q0 (F0 m 1014 ls [])) {p : Nat → Bool} {c k : Nat} {U : Nat → Int32} {V : Nat → Nat → Int32} {N : Nat → ns_T} {F : Nat → Int32} {R : Nat → Nat → Int32} {H : Heap} {locs : List Loc} (hx : xs_s D y s.heap.size qx A p c k U V N H) (hM : va_P D vwCl (w5_s y A F R) H) (hrel : rl_s p c k U V N F R) (hS : va_S (fun q : Nat => s.heap.size ≤ q) s.heap H locs) {ls : Array Slot} (hl : lv_has ls 4 [(0, .ref b), (1, .ref qx), (2, .ref (A 0)), (3, .int x3)]) : W p0 l e room_1 s m args below meth co H locs (100 + 6 * t) (4000 + 220 * t) Q0 (F0 m 335 ls []) := by
  obtain ⟨P, ad, NB, hP1, hP2, rfl, hT⟩ := hx
  have hbA : ¬ (fun q : Nat => s.heap.size ≤ q) b := Nat.not_le.mpr hbl
  obtain ⟨r, hx1, hm1⟩ := sim_channelCount hrel
  refine lv_aload_n (cx_x X) (cx_b X) dL_law_335 rfl (lv_at hl 1 rfl) ?_
  refine af_R (rn_V (As := []) (rest := []) X (c_X4_channelCount l D y (ad 9 0) (ad 9 1) (ad 9 3) (ad 10 0) (ad 0) (NB 0) (N 0).1 (N 0).2.1 (N 0).2.2.1 (N 0).2.2.2  r hx1) vq_L_36 ⟨rfl, rfl⟩ ⟨Nat.le_of_ble_eq_true rfl, Nat.le_of_ble_eq_true rfl⟩ (rec_4 X (tp_w hT)) ⟨tp_w hT, tp_n hT pz_0, tp_l hT pz_0⟩ rfl hl.1 rfl (Nat.le_of_ble_eq_true rfl) dL_law_336 ⟨by show 100 + 6 * t ≤ 600000; omega, by show 4000 + 220 * t ≤ 7302250; omega⟩) ?_
  refine lv_aload_n (cx_x X) (cx_b X) dL_law_339 rfl (lv_at hl 2 rfl) ?_
  refine af_R (rn_V (As := []) (rest := [.int r]) X (c_X5_channelCount l D y A F R  r hm1) vq_L_39 ⟨rfl, rfl⟩ ⟨Nat.le_of_ble_eq_true rfl, Nat.le_of_ble_eq_true rfl⟩ (rec_5 X hM) hM rfl hl.1 rfl (Nat.le_of_ble_eq_true rfl) dL_law_340 ⟨by show 100 + 6 * t ≤ 600000; omega, by show 4000 + 220 * t ≤ 7302250; omega⟩) ?_
  refine lv_icmp_eq (tgt := 1014) (cx_x X) (cx_b X) dL_law_343 (by decide) (fun _ => ?_) (fun hc => absurd rfl hc)
  refine W.widen (k := 100 + 6 * (t + 1)) (n := 4000 + 220 * (t + 1)) (by omega) (by omega) ?_
  exact K _ _ _ _ _ _ _ _ _ _ ⟨P, ad, NB, hP1, hP2, rfl, hT⟩ hM hrel hS _ hl
set_option maxHeartbeats 4000000 in
set_option maxRecDepth 100000 in
theorem lc_6 {p0 : Program} {l : Launch} {e : Env} {s : State} {m : MethodId} {args : Array Value} {below : List Frame} {meth : Method} {co : Code} {D : va_G} {y : Nat → ClassId} {b L : Nat} {xs : Nat → Int32} {rt : Option FieldType} {Q0 : State → Prop} {A : Nat → Nat} {qx t i : Nat} {x3 : Int32} (X : cx p0 s m args meth co cL_law 4 rt RL D y) (hX : va_X b L xs s s.heap) (hbl : b < s.heap.size) (hI : aj_s 7 A) (hAs : ∀ j, j < 7 → s.heap.size ≤ A j) (ht : t < 512) (ex3 : x3 = nI i) (hi : i + 5 ≤ L) (hL : L ≤ 2560) (K : ∀ (p : Nat → Bool) (c k : Nat) (U : Nat → Int32) (V : Nat → Nat → Int32) (N : Nat → ns_T) (F : Nat → Int32) (R : Nat → Nat → Int32) (H : Heap) (locs : List Loc), xs_s D y s.heap.size qx A p c k U V N H → va_P D vwCl (w5_s y A F R) H → rl_s p c k U V N F R → va_S (fun q : Nat => s.heap.size ≤ q) s.heap H locs → ∀ ls, lv_has ls 4 [(0, .ref b), (1, .ref qx), (2, .ref (A 0)), (3, .int x3)] → W p0 l e room_1 s m args below meth co H locs (100 + 6 * (t + 1)) (4000 + 220 * (t + 1)) Q0 (F0 m 1014 ls [])) {p : Nat → Bool} {c k : Nat} {U : Nat → Int32} {V : Nat → Nat → Int32} {N : Nat → ns_T} {F : Nat → Int32} {R : Nat → Nat → Int32} {H : Heap} {locs : List Loc} (hx : xs_s D y s.heap.size qx A p c k U V N H) (hM : va_P D vwCl (w5_s y A F R) H) (hrel : rl_s p c k U V N F R) (hS : va_S (fun q : Nat => s.heap.size ≤ q) s.heap H locs) {ls : Array Slot} (hl : lv_has ls 4 [(0, .ref b), (1, .ref qx), (2, .ref (A 0)), (3, .int x3)]) : W p0 l e room_1 s m args below meth co H locs (100 + 6 * t) (4000 + 220 * t) Q0 (F0 m 348 ls []) := by
  obtain ⟨P, ad, NB, hP1, hP2, rfl, hT⟩ := hx
  have hbA : ¬ (fun q : Nat => s.heap.size ≤ q) b := Nat.not_le.mpr hbl
  have hj1 : vp_in (x3 + (1 : Int32)) L := by rw [ex3, show nI i + (1 : Int32) = nI (i + 1) from nI_add i 1]; exact vp_in_nI (by omega) (by omega)
  obtain ⟨r, hx1, hm1⟩ := sim_groupOf hrel (xs (x3 + (1 : Int32)).toNatClampNeg)
  refine lv_aload_n (cx_x X) (cx_b X) dL_law_348 rfl (lv_at hl 1 rfl) ?_
  refine lv_aload_n (cx_x X) (cx_b X) dL_law_349 rfl (lv_at hl 0 rfl) ?_
  refine lv_iload_n (cx_x X) (cx_b X) dL_law_350 rfl (lv_at hl 3 rfl) ?_
  refine lv_iconst (v := (1 : Int32)) (cx_x X) (cx_b X) dL_law_351 (by decide) ?_
  refine lv_iadd (cx_x X) (cx_b X) dL_law_352 ?_
  refine va_sld (cx_x X) (cx_b X) hX hbl hbA hS hj1 dL_law_353 ?_
  refine af_R (rn_V (As := [.int (xs (x3 + (1 : Int32)).toNatClampNeg)]) (rest := []) X (c_X4_groupOf l D y (ad 9 0) (ad 9 1) (ad 9 3) (ad 10 0) (ad 0) (NB 0) (N 0).1 (N 0).2.1 (N 0).2.2.1 (N 0).2.2.2 (xs (x3 + (1 : Int32)).toNatClampNeg) r hx1) vq_L_40 ⟨rfl, rfl⟩ ⟨Nat.le_of_ble_eq_true rfl, Nat.le_of_ble_eq_true rfl⟩ (rec_4 X (tp_w hT)) ⟨tp_w hT, tp_n hT pz_0, tp_l hT pz_0⟩ rfl hl.1 rfl (Nat.le_of_ble_eq_true rfl) dL_law_354 ⟨by show 100 + 6 * t ≤ 600000; omega, by show 4000 + 220 * t ≤ 7302250; omega⟩) ?_
  refine lv_aload_n (cx_x X) (cx_b X) dL_law_357 rfl (lv_at hl 2 rfl) ?_
  refine lv_aload_n (cx_x X) (cx_b X) dL_law_358 rfl (lv_at hl 0 rfl) ?_
  refine lv_iload_n (cx_x X) (cx_b X) dL_law_359 rfl (lv_at hl 3 rfl) ?_
  refine lv_iconst (v := (1 : Int32)) (cx_x X) (cx_b X) dL_law_360 (by decide) ?_
  refine lv_iadd (cx_x X) (cx_b X) dL_law_361 ?_
  refine va_sld (cx_x X) (cx_b X) hX hbl hbA hS hj1 dL_law_362 ?_
  refine af_R (rn_V (As := [.int (xs (x3 + (1 : Int32)).toNatClampNeg)]) (rest := [.int r]) X (c_X5_groupOf l D y A F R (xs (x3 + (1 : Int32)).toNatClampNeg) r hm1) vq_L_43 ⟨rfl, rfl⟩ ⟨Nat.le_of_ble_eq_true rfl, Nat.le_of_ble_eq_true rfl⟩ (rec_5 X hM) hM rfl hl.1 rfl (Nat.le_of_ble_eq_true rfl) dL_law_363 ⟨by show 100 + 6 * t ≤ 600000; omega, by show 4000 + 220 * t ≤ 7302250; omega⟩) ?_
  refine lv_icmp_eq (tgt := 1014) (cx_x X) (cx_b X) dL_law_366 (by decide) (fun _ => ?_) (fun hc => absurd rfl hc)
  refine W.widen (k := 100 + 6 * (t + 1)) (n := 4000 + 220 * (t + 1)) (by omega) (by omega) ?_
  exact K _ _ _ _ _ _ _ _ _ _ ⟨P, ad, NB, hP1, hP2, rfl, hT⟩ hM hrel hS _ hl
set_option maxHeartbeats 4000000 in
set_option maxRecDepth 100000 in
theorem lc_7 {p0 : Program} {l : Launch} {e : Env} {s : State} {m : MethodId} {args : Array Value} {below : List Frame} {meth : Method} {co : Code} {D : va_G} {y : Nat → ClassId} {b L : Nat} {xs : Nat → Int32} {rt : Option FieldType} {Q0 : State → Prop} {A : Nat → Nat} {qx t i : Nat} {x3 : Int32} (X : cx p0 s m args meth co cL_law 4 rt RL D y) (hX : va_X b L xs s s.heap) (hbl : b < s.heap.size) (hI : aj_s 7 A) (hAs : ∀ j, j < 7 → s.heap.size ≤ A j) (ht : t < 512) (ex3 : x3 = nI i) (hi : i + 5 ≤ L) (hL : L ≤ 2560) (K : ∀ (p : Nat → Bool) (c k : Nat) (U : Nat → Int32) (V : Nat → Nat → Int32) (N : Nat → ns_T) (F : Nat → Int32) (R : Nat → Nat → Int32) (H : Heap) (locs : List Loc), xs_s D y s.heap.size qx A p c k U V N H → va_P D vwCl (w5_s y A F R) H → rl_s p c k U V N F R → va_S (fun q : Nat => s.heap.size ≤ q) s.heap H locs → ∀ ls, lv_has ls 4 [(0, .ref b), (1, .ref qx), (2, .ref (A 0)), (3, .int x3)] → W p0 l e room_1 s m args below meth co H locs (100 + 6 * (t + 1)) (4000 + 220 * (t + 1)) Q0 (F0 m 1014 ls [])) {p : Nat → Bool} {c k : Nat} {U : Nat → Int32} {V : Nat → Nat → Int32} {N : Nat → ns_T} {F : Nat → Int32} {R : Nat → Nat → Int32} {H : Heap} {locs : List Loc} (hx : xs_s D y s.heap.size qx A p c k U V N H) (hM : va_P D vwCl (w5_s y A F R) H) (hrel : rl_s p c k U V N F R) (hS : va_S (fun q : Nat => s.heap.size ≤ q) s.heap H locs) {ls : Array Slot} (hl : lv_has ls 4 [(0, .ref b), (1, .ref qx), (2, .ref (A 0)), (3, .int x3)]) : W p0 l e room_1 s m args below meth co H locs (100 + 6 * t) (4000 + 220 * t) Q0 (F0 m 371 ls []) := by
  obtain ⟨P, ad, NB, hP1, hP2, rfl, hT⟩ := hx
  have hbA : ¬ (fun q : Nat => s.heap.size ≤ q) b := Nat.not_le.mpr hbl
  have hj1 : vp_in (x3 + (1 : Int32)) L := by rw [ex3, show nI i + (1 : Int32) = nI (i + 1) from nI_add i 1]; exact vp_in_nI (by omega) (by omega)
  have hj2 : vp_in (x3 + (2 : Int32)) L := by rw [ex3, show nI i + (2 : Int32) = nI (i + 2) from nI_add i 2]; exact vp_in_nI (by omega) (by omega)
  obtain ⟨r, hx1, hm1⟩ := sim_distance hrel (xs (x3 + (1 : Int32)).toNatClampNeg) (xs (x3 + (2 : Int32)).toNatClampNeg)
  refine lv_aload_n (cx_x X) (cx_b X) dL_law_371 rfl (lv_at hl 1 rfl) ?_
  refine lv_aload_n (cx_x X) (cx_b X) dL_law_372 rfl (lv_at hl 0 rfl) ?_
  refine lv_iload_n (cx_x X) (cx_b X) dL_law_373 rfl (lv_at hl 3 rfl) ?_
  refine lv_iconst (v := (1 : Int32)) (cx_x X) (cx_b X) dL_law_374 (by decide) ?_
  refine lv_iadd (cx_x X) (cx_b X) dL_law_375 ?_
  refine va_sld (cx_x X) (cx_b X) hX hbl hbA hS hj1 dL_law_376 ?_
  refine lv_aload_n (cx_x X) (cx_b X) dL_law_377 rfl (lv_at hl 0 rfl) ?_
  refine lv_iload_n (cx_x X) (cx_b X) dL_law_378 rfl (lv_at hl 3 rfl) ?_
  refine lv_iconst (v := (2 : Int32)) (cx_x X) (cx_b X) dL_law_379 (by decide) ?_
  refine lv_iadd (cx_x X) (cx_b X) dL_law_380 ?_
  refine va_sld (cx_x X) (cx_b X) hX hbl hbA hS hj2 dL_law_381 ?_
  refine af_R (rn_V (As := [.int (xs (x3 + (1 : Int32)).toNatClampNeg), .int (xs (x3 + (2 : Int32)).toNatClampNeg)]) (rest := []) X (c_X4_distance l D y (ad 9 0) (ad 9 1) (ad 9 3) (ad 10 0) (ad 0) (NB 0) (N 0).1 (N 0).2.1 (N 0).2.2.1 (N 0).2.2.2 (xs (x3 + (1 : Int32)).toNatClampNeg) (xs (x3 + (2 : Int32)).toNatClampNeg) r hx1) vq_L_44 ⟨rfl, rfl⟩ ⟨Nat.le_of_ble_eq_true rfl, Nat.le_of_ble_eq_true rfl⟩ (rec_4 X (tp_w hT)) ⟨tp_w hT, tp_n hT pz_0, tp_l hT pz_0⟩ rfl hl.1 rfl (Nat.le_of_ble_eq_true rfl) dL_law_382 ⟨by show 100 + 6 * t ≤ 600000; omega, by show 4000 + 220 * t ≤ 7302250; omega⟩) ?_
  refine lv_aload_n (cx_x X) (cx_b X) dL_law_385 rfl (lv_at hl 2 rfl) ?_
  refine lv_aload_n (cx_x X) (cx_b X) dL_law_386 rfl (lv_at hl 0 rfl) ?_
  refine lv_iload_n (cx_x X) (cx_b X) dL_law_387 rfl (lv_at hl 3 rfl) ?_
  refine lv_iconst (v := (1 : Int32)) (cx_x X) (cx_b X) dL_law_388 (by decide) ?_
  refine lv_iadd (cx_x X) (cx_b X) dL_law_389 ?_
  refine va_sld (cx_x X) (cx_b X) hX hbl hbA hS hj1 dL_law_390 ?_
  refine lv_aload_n (cx_x X) (cx_b X) dL_law_391 rfl (lv_at hl 0 rfl) ?_
  refine lv_iload_n (cx_x X) (cx_b X) dL_law_392 rfl (lv_at hl 3 rfl) ?_
  refine lv_iconst (v := (2 : Int32)) (cx_x X) (cx_b X) dL_law_393 (by decide) ?_
  refine lv_iadd (cx_x X) (cx_b X) dL_law_394 ?_
  refine va_sld (cx_x X) (cx_b X) hX hbl hbA hS hj2 dL_law_395 ?_
  refine af_R (rn_V (As := [.int (xs (x3 + (1 : Int32)).toNatClampNeg), .int (xs (x3 + (2 : Int32)).toNatClampNeg)]) (rest := [.int r]) X (c_X5_distance l D y A F R (xs (x3 + (1 : Int32)).toNatClampNeg) (xs (x3 + (2 : Int32)).toNatClampNeg) r hm1) vq_L_48 ⟨rfl, rfl⟩ ⟨Nat.le_of_ble_eq_true rfl, Nat.le_of_ble_eq_true rfl⟩ (rec_5 X hM) hM rfl hl.1 rfl (Nat.le_of_ble_eq_true rfl) dL_law_396 ⟨by show 100 + 6 * t ≤ 600000; omega, by show 4000 + 220 * t ≤ 7302250; omega⟩) ?_
  refine lv_icmp_eq (tgt := 1014) (cx_x X) (cx_b X) dL_law_399 (by decide) (fun _ => ?_) (fun hc => absurd rfl hc)
  refine W.widen (k := 100 + 6 * (t + 1)) (n := 4000 + 220 * (t + 1)) (by omega) (by omega) ?_
  exact K _ _ _ _ _ _ _ _ _ _ ⟨P, ad, NB, hP1, hP2, rfl, hT⟩ hM hrel hS _ hl
set_option maxHeartbeats 4000000 in
set_option maxRecDepth 100000 in
theorem lc_8 {p0 : Program} {l : Launch} {e : Env} {s : State} {m : MethodId} {args : Array Value} {below : List Frame} {meth : Method} {co : Code} {D : va_G} {y : Nat → ClassId} {b L : Nat} {xs : Nat → Int32} {rt : Option FieldType} {Q0 : State → Prop} {A : Nat → Nat} {qx t i : Nat} {x3 : Int32} (X : cx p0 s m args meth co cL_law 4 rt RL D y) (hX : va_X b L xs s s.heap) (hbl : b < s.heap.size) (hI : aj_s 7 A) (hAs : ∀ j, j < 7 → s.heap.size ≤ A j) (ht : t < 512) (ex3 : x3 = nI i) (hi : i + 5 ≤ L) (hL : L ≤ 2560) (K : ∀ (p : Nat → Bool) (c k : Nat) (U : Nat → Int32) (V : Nat → Nat → Int32) (N : Nat → ns_T) (F : Nat → Int32) (R : Nat → Nat → Int32) (H : Heap) (locs : List Loc), xs_s D y s.heap.size qx A p c k U V N H → va_P D vwCl (w5_s y A F R) H → rl_s p c k U V N F R → va_S (fun q : Nat => s.heap.size ≤ q) s.heap H locs → ∀ ls, lv_has ls 4 [(0, .ref b), (1, .ref qx), (2, .ref (A 0)), (3, .int x3)] → W p0 l e room_1 s m args below meth co H locs (100 + 6 * (t + 1)) (4000 + 220 * (t + 1)) Q0 (F0 m 1014 ls [])) {p : Nat → Bool} {c k : Nat} {U : Nat → Int32} {V : Nat → Nat → Int32} {N : Nat → ns_T} {F : Nat → Int32} {R : Nat → Nat → Int32} {H : Heap} {locs : List Loc} (hx : xs_s D y s.heap.size qx A p c k U V N H) (hM : va_P D vwCl (w5_s y A F R) H) (hrel : rl_s p c k U V N F R) (hS : va_S (fun q : Nat => s.heap.size ≤ q) s.heap H locs) {ls : Array Slot} (hl : lv_has ls 4 [(0, .ref b), (1, .ref qx), (2, .ref (A 0)), (3, .int x3)]) : W p0 l e room_1 s m args below meth co H locs (100 + 6 * t) (4000 + 220 * t) Q0 (F0 m 404 ls []) := by
  obtain ⟨P, ad, NB, hP1, hP2, rfl, hT⟩ := hx
  have hbA : ¬ (fun q : Nat => s.heap.size ≤ q) b := Nat.not_le.mpr hbl
  have hj1 : vp_in (x3 + (1 : Int32)) L := by rw [ex3, show nI i + (1 : Int32) = nI (i + 1) from nI_add i 1]; exact vp_in_nI (by omega) (by omega)
  obtain ⟨r, c1, k1, U1, V1, N1, F1, R1, hx1, hm1, hrel⟩ := sim_startCall hrel (xs (x3 + (1 : Int32)).toNatClampNeg)
  refine lv_aload_n (cx_x X) (cx_b X) dL_law_404 rfl (lv_at hl 1 rfl) ?_
  refine lv_aload_n (cx_x X) (cx_b X) dL_law_405 rfl (lv_at hl 0 rfl) ?_
  refine lv_iload_n (cx_x X) (cx_b X) dL_law_406 rfl (lv_at hl 3 rfl) ?_
  refine lv_iconst (v := (1 : Int32)) (cx_x X) (cx_b X) dL_law_407 (by decide) ?_
  refine lv_iadd (cx_x X) (cx_b X) dL_law_408 ?_
  refine va_sld (cx_x X) (cx_b X) hX hbl hbA hS hj1 dL_law_409 ?_
  refine af_W (mc := 0) (ms := 0) (rn_V (As := [.int (xs (x3 + (1 : Int32)).toNatClampNeg)]) (rest := []) X (c_X4_startCall l D y P ad NB p c k U V N (xs (x3 + (1 : Int32)).toNatClampNeg) r c1 k1 U1 V1 N1 _ hx1) vq_L_49 ⟨rfl, rfl⟩ ⟨Nat.le_of_ble_eq_true rfl, Nat.le_of_ble_eq_true rfl⟩ (rec_4 X (tp_w hT)) ⟨rfl, hT⟩ rfl hl.1 rfl (Nat.le_of_ble_eq_true rfl) dL_law_410 ⟨by show 100 + 6 * t + 0 ≤ 600000; omega, by show 4000 + 220 * t + 0 ≤ 7302250; omega⟩) hS (in_P hP1 hS.1) (fun H1 locs1 hW hz1 hk1 hS1 => ?_)
  obtain ⟨NB1, hT1⟩ := hW
  replace hx := xs_W hP1 hP2 hS.1 hM rfl hT1
  replace hM := xs_M hP2 hM hk1
  replace hS := hS1
  clear hS1
  refine lv_aload_n (cx_x X) (cx_b X) dL_law_413 rfl (lv_at hl 2 rfl) ?_
  refine lv_aload_n (cx_x X) (cx_b X) dL_law_414 rfl (lv_at hl 0 rfl) ?_
  refine lv_iload_n (cx_x X) (cx_b X) dL_law_415 rfl (lv_at hl 3 rfl) ?_
  refine lv_iconst (v := (1 : Int32)) (cx_x X) (cx_b X) dL_law_416 (by decide) ?_
  refine lv_iadd (cx_x X) (cx_b X) dL_law_417 ?_
  refine va_sld (cx_x X) (cx_b X) hX hbl hbA hS hj1 dL_law_418 ?_
  refine af_W (mc := 0) (ms := 0) (rn_V (As := [.int (xs (x3 + (1 : Int32)).toNatClampNeg)]) (rest := [.int r]) X (c_X5_startCall l D y A F R (xs (x3 + (1 : Int32)).toNatClampNeg) r F1 R1 _ hI hm1) vq_L_52 ⟨rfl, rfl⟩ ⟨Nat.le_of_ble_eq_true rfl, Nat.le_of_ble_eq_true rfl⟩ (rec_5 X hM) ⟨rfl, hM⟩ rfl hl.1 rfl (Nat.le_of_ble_eq_true rfl) dL_law_419 ⟨by show 100 + 6 * t + 0 + 0 ≤ 600000; omega, by show 4000 + 220 * t + 0 + 0 ≤ 7302250; omega⟩) hS (in_A hAs hS.1) (fun H2 locs2 hM2 hz2 hk2 hS => ?_)
  refine lv_icmp_eq (tgt := 1014) (cx_x X) (cx_b X) dL_law_422 (by decide) (fun _ => ?_) (fun hc => absurd rfl hc)
  refine W.widen (k := 100 + 6 * (t + 1)) (n := 4000 + 220 * (t + 1)) (by omega) (by omega) ?_
  obtain ⟨P1, ad1, NB1, g1, g2, g3, g4⟩ := hx
  exact K _ _ _ _ _ _ _ _ _ _ ⟨P1, ad1, NB1, g1, g2, g3, tp_f2 g4 g2 hk2⟩ hM2 hrel hS _ hl
set_option maxHeartbeats 4000000 in
set_option maxRecDepth 100000 in
theorem lc_9 {p0 : Program} {l : Launch} {e : Env} {s : State} {m : MethodId} {args : Array Value} {below : List Frame} {meth : Method} {co : Code} {D : va_G} {y : Nat → ClassId} {b L : Nat} {xs : Nat → Int32} {rt : Option FieldType} {Q0 : State → Prop} {A : Nat → Nat} {qx t i : Nat} {x3 : Int32} (X : cx p0 s m args meth co cL_law 4 rt RL D y) (hX : va_X b L xs s s.heap) (hbl : b < s.heap.size) (hI : aj_s 7 A) (hAs : ∀ j, j < 7 → s.heap.size ≤ A j) (ht : t < 512) (ex3 : x3 = nI i) (hi : i + 5 ≤ L) (hL : L ≤ 2560) (K : ∀ (p : Nat → Bool) (c k : Nat) (U : Nat → Int32) (V : Nat → Nat → Int32) (N : Nat → ns_T) (F : Nat → Int32) (R : Nat → Nat → Int32) (H : Heap) (locs : List Loc), xs_s D y s.heap.size qx A p c k U V N H → va_P D vwCl (w5_s y A F R) H → rl_s p c k U V N F R → va_S (fun q : Nat => s.heap.size ≤ q) s.heap H locs → ∀ ls, lv_has ls 4 [(0, .ref b), (1, .ref qx), (2, .ref (A 0)), (3, .int x3)] → W p0 l e room_1 s m args below meth co H locs (100 + 6 * (t + 1)) (4000 + 220 * (t + 1)) Q0 (F0 m 1014 ls [])) {p : Nat → Bool} {c k : Nat} {U : Nat → Int32} {V : Nat → Nat → Int32} {N : Nat → ns_T} {F : Nat → Int32} {R : Nat → Nat → Int32} {H : Heap} {locs : List Loc} (hx : xs_s D y s.heap.size qx A p c k U V N H) (hM : va_P D vwCl (w5_s y A F R) H) (hrel : rl_s p c k U V N F R) (hS : va_S (fun q : Nat => s.heap.size ≤ q) s.heap H locs) {ls : Array Slot} (hl : lv_has ls 4 [(0, .ref b), (1, .ref qx), (2, .ref (A 0)), (3, .int x3)]) : W p0 l e room_1 s m args below meth co H locs (100 + 6 * t) (4000 + 220 * t) Q0 (F0 m 427 ls []) := by
  obtain ⟨P, ad, NB, hP1, hP2, rfl, hT⟩ := hx
  have hbA : ¬ (fun q : Nat => s.heap.size ≤ q) b := Nat.not_le.mpr hbl
  have hj1 : vp_in (x3 + (1 : Int32)) L := by rw [ex3, show nI i + (1 : Int32) = nI (i + 1) from nI_add i 1]; exact vp_in_nI (by omega) (by omega)
  obtain ⟨r, c1, k1, U1, V1, N1, F1, R1, hx1, hm1, hrel⟩ := sim_endCall hrel (xs (x3 + (1 : Int32)).toNatClampNeg)
  refine lv_aload_n (cx_x X) (cx_b X) dL_law_427 rfl (lv_at hl 1 rfl) ?_
  refine lv_aload_n (cx_x X) (cx_b X) dL_law_428 rfl (lv_at hl 0 rfl) ?_
  refine lv_iload_n (cx_x X) (cx_b X) dL_law_429 rfl (lv_at hl 3 rfl) ?_
  refine lv_iconst (v := (1 : Int32)) (cx_x X) (cx_b X) dL_law_430 (by decide) ?_
  refine lv_iadd (cx_x X) (cx_b X) dL_law_431 ?_
  refine va_sld (cx_x X) (cx_b X) hX hbl hbA hS hj1 dL_law_432 ?_
  refine af_W (mc := 0) (ms := 0) (rn_V (As := [.int (xs (x3 + (1 : Int32)).toNatClampNeg)]) (rest := []) X (c_X4_endCall l D y P ad NB p c k U V N (xs (x3 + (1 : Int32)).toNatClampNeg) r c1 k1 U1 V1 N1 _ hx1) vq_L_53 ⟨rfl, rfl⟩ ⟨Nat.le_of_ble_eq_true rfl, Nat.le_of_ble_eq_true rfl⟩ (rec_4 X (tp_w hT)) ⟨rfl, hT⟩ rfl hl.1 rfl (Nat.le_of_ble_eq_true rfl) dL_law_433 ⟨by show 100 + 6 * t + 0 ≤ 600000; omega, by show 4000 + 220 * t + 0 ≤ 7302250; omega⟩) hS (in_P hP1 hS.1) (fun H1 locs1 hW hz1 hk1 hS1 => ?_)
  obtain ⟨NB1, hT1⟩ := hW
  replace hx := xs_W hP1 hP2 hS.1 hM rfl hT1
  replace hM := xs_M hP2 hM hk1
  replace hS := hS1
  clear hS1
  refine lv_aload_n (cx_x X) (cx_b X) dL_law_436 rfl (lv_at hl 2 rfl) ?_
  refine lv_aload_n (cx_x X) (cx_b X) dL_law_437 rfl (lv_at hl 0 rfl) ?_
  refine lv_iload_n (cx_x X) (cx_b X) dL_law_438 rfl (lv_at hl 3 rfl) ?_
  refine lv_iconst (v := (1 : Int32)) (cx_x X) (cx_b X) dL_law_439 (by decide) ?_
  refine lv_iadd (cx_x X) (cx_b X) dL_law_440 ?_
  refine va_sld (cx_x X) (cx_b X) hX hbl hbA hS hj1 dL_law_441 ?_
  refine af_W (mc := 0) (ms := 0) (rn_V (As := [.int (xs (x3 + (1 : Int32)).toNatClampNeg)]) (rest := [.int r]) X (c_X5_endCall l D y A F R (xs (x3 + (1 : Int32)).toNatClampNeg) r F1 R1 _ hI hm1) vq_L_56 ⟨rfl, rfl⟩ ⟨Nat.le_of_ble_eq_true rfl, Nat.le_of_ble_eq_true rfl⟩ (rec_5 X hM) ⟨rfl, hM⟩ rfl hl.1 rfl (Nat.le_of_ble_eq_true rfl) dL_law_442 ⟨by show 100 + 6 * t + 0 + 0 ≤ 600000; omega, by show 4000 + 220 * t + 0 + 0 ≤ 7302250; omega⟩) hS (in_A hAs hS.1) (fun H2 locs2 hM2 hz2 hk2 hS => ?_)
  refine lv_icmp_eq (tgt := 1014) (cx_x X) (cx_b X) dL_law_445 (by decide) (fun _ => ?_) (fun hc => absurd rfl hc)
  refine W.widen (k := 100 + 6 * (t + 1)) (n := 4000 + 220 * (t + 1)) (by omega) (by omega) ?_
  obtain ⟨P1, ad1, NB1, g1, g2, g3, g4⟩ := hx
  exact K _ _ _ _ _ _ _ _ _ _ ⟨P1, ad1, NB1, g1, g2, g3, tp_f2 g4 g2 hk2⟩ hM2 hrel hS _ hl
set_option maxHeartbeats 4000000 in
set_option maxRecDepth 100000 in
theorem lc_10 {p0 : Program} {l : Launch} {e : Env} {s : State} {m : MethodId} {args : Array Value} {below : List Frame} {meth : Method} {co : Code} {D : va_G} {y : Nat → ClassId} {b L : Nat} {xs : Nat → Int32} {rt : Option FieldType} {Q0 : State → Prop} {A : Nat → Nat} {qx t i : Nat} {x3 : Int32} (X : cx p0 s m args meth co cL_law 4 rt RL D y) (hX : va_X b L xs s s.heap) (hbl : b < s.heap.size) (hI : aj_s 7 A) (hAs : ∀ j, j < 7 → s.heap.size ≤ A j) (ht : t < 512) (ex3 : x3 = nI i) (hi : i + 5 ≤ L) (hL : L ≤ 2560) (K : ∀ (p : Nat → Bool) (c k : Nat) (U : Nat → Int32) (V : Nat → Nat → Int32) (N : Nat → ns_T) (F : Nat → Int32) (R : Nat → Nat → Int32) (H : Heap) (locs : List Loc), xs_s D y s.heap.size qx A p c k U V N H → va_P D vwCl (w5_s y A F R) H → rl_s p c k U V N F R → va_S (fun q : Nat => s.heap.size ≤ q) s.heap H locs → ∀ ls, lv_has ls 4 [(0, .ref b), (1, .ref qx), (2, .ref (A 0)), (3, .int x3)] → W p0 l e room_1 s m args below meth co H locs (100 + 6 * (t + 1)) (4000 + 220 * (t + 1)) Q0 (F0 m 1014 ls [])) {p : Nat → Bool} {c k : Nat} {U : Nat → Int32} {V : Nat → Nat → Int32} {N : Nat → ns_T} {F : Nat → Int32} {R : Nat → Nat → Int32} {H : Heap} {locs : List Loc} (hx : xs_s D y s.heap.size qx A p c k U V N H) (hM : va_P D vwCl (w5_s y A F R) H) (hrel : rl_s p c k U V N F R) (hS : va_S (fun q : Nat => s.heap.size ≤ q) s.heap H locs) {ls : Array Slot} (hl : lv_has ls 4 [(0, .ref b), (1, .ref qx), (2, .ref (A 0)), (3, .int x3)]) : W p0 l e room_1 s m args below meth co H locs (100 + 6 * t) (4000 + 220 * t) Q0 (F0 m 450 ls []) := by
  obtain ⟨P, ad, NB, hP1, hP2, rfl, hT⟩ := hx
  have hbA : ¬ (fun q : Nat => s.heap.size ≤ q) b := Nat.not_le.mpr hbl
  have hj1 : vp_in (x3 + (1 : Int32)) L := by rw [ex3, show nI i + (1 : Int32) = nI (i + 1) from nI_add i 1]; exact vp_in_nI (by omega) (by omega)
  have hj2 : vp_in (x3 + (2 : Int32)) L := by rw [ex3, show nI i + (2 : Int32) = nI (i + 2) from nI_add i 2]; exact vp_in_nI (by omega) (by omega)
  obtain ⟨r, c1, k1, U1, V1, N1, F1, R1, hx1, hm1, hrel⟩ := sim_handOver hrel (xs (x3 + (1 : Int32)).toNatClampNeg) (xs (x3 + (2 : Int32)).toNatClampNeg)
  refine lv_aload_n (cx_x X) (cx_b X) dL_law_450 rfl (lv_at hl 1 rfl) ?_
  refine lv_aload_n (cx_x X) (cx_b X) dL_law_451 rfl (lv_at hl 0 rfl) ?_
  refine lv_iload_n (cx_x X) (cx_b X) dL_law_452 rfl (lv_at hl 3 rfl) ?_
  refine lv_iconst (v := (1 : Int32)) (cx_x X) (cx_b X) dL_law_453 (by decide) ?_
  refine lv_iadd (cx_x X) (cx_b X) dL_law_454 ?_
  refine va_sld (cx_x X) (cx_b X) hX hbl hbA hS hj1 dL_law_455 ?_
  refine lv_aload_n (cx_x X) (cx_b X) dL_law_456 rfl (lv_at hl 0 rfl) ?_
  refine lv_iload_n (cx_x X) (cx_b X) dL_law_457 rfl (lv_at hl 3 rfl) ?_
  refine lv_iconst (v := (2 : Int32)) (cx_x X) (cx_b X) dL_law_458 (by decide) ?_
  refine lv_iadd (cx_x X) (cx_b X) dL_law_459 ?_
  refine va_sld (cx_x X) (cx_b X) hX hbl hbA hS hj2 dL_law_460 ?_
  refine af_W (mc := 0) (ms := 0) (rn_V (As := [.int (xs (x3 + (1 : Int32)).toNatClampNeg), .int (xs (x3 + (2 : Int32)).toNatClampNeg)]) (rest := []) X (c_X4_handOver l D y P ad NB p c k U V N (xs (x3 + (1 : Int32)).toNatClampNeg) (xs (x3 + (2 : Int32)).toNatClampNeg) r c1 k1 U1 V1 N1 _ hx1) vq_L_57 ⟨rfl, rfl⟩ ⟨Nat.le_of_ble_eq_true rfl, Nat.le_of_ble_eq_true rfl⟩ (rec_4 X (tp_w hT)) ⟨rfl, hT⟩ rfl hl.1 rfl (Nat.le_of_ble_eq_true rfl) dL_law_461 ⟨by show 100 + 6 * t + 0 ≤ 600000; omega, by show 4000 + 220 * t + 0 ≤ 7302250; omega⟩) hS (in_P hP1 hS.1) (fun H1 locs1 hW hz1 hk1 hS1 => ?_)
  obtain ⟨NB1, hT1⟩ := hW
  replace hx := xs_W hP1 hP2 hS.1 hM rfl hT1
  replace hM := xs_M hP2 hM hk1
  replace hS := hS1
  clear hS1
  refine lv_aload_n (cx_x X) (cx_b X) dL_law_464 rfl (lv_at hl 2 rfl) ?_
  refine lv_aload_n (cx_x X) (cx_b X) dL_law_465 rfl (lv_at hl 0 rfl) ?_
  refine lv_iload_n (cx_x X) (cx_b X) dL_law_466 rfl (lv_at hl 3 rfl) ?_
  refine lv_iconst (v := (1 : Int32)) (cx_x X) (cx_b X) dL_law_467 (by decide) ?_
  refine lv_iadd (cx_x X) (cx_b X) dL_law_468 ?_
  refine va_sld (cx_x X) (cx_b X) hX hbl hbA hS hj1 dL_law_469 ?_
  refine lv_aload_n (cx_x X) (cx_b X) dL_law_470 rfl (lv_at hl 0 rfl) ?_
  refine lv_iload_n (cx_x X) (cx_b X) dL_law_471 rfl (lv_at hl 3 rfl) ?_
  refine lv_iconst (v := (2 : Int32)) (cx_x X) (cx_b X) dL_law_472 (by decide) ?_
  refine lv_iadd (cx_x X) (cx_b X) dL_law_473 ?_
  refine va_sld (cx_x X) (cx_b X) hX hbl hbA hS hj2 dL_law_474 ?_
  refine af_W (mc := 0) (ms := 0) (rn_V (As := [.int (xs (x3 + (1 : Int32)).toNatClampNeg), .int (xs (x3 + (2 : Int32)).toNatClampNeg)]) (rest := [.int r]) X (c_X5_handOver l D y A F R (xs (x3 + (1 : Int32)).toNatClampNeg) (xs (x3 + (2 : Int32)).toNatClampNeg) r F1 R1 _ hI hm1) vq_L_60 ⟨rfl, rfl⟩ ⟨Nat.le_of_ble_eq_true rfl, Nat.le_of_ble_eq_true rfl⟩ (rec_5 X hM) ⟨rfl, hM⟩ rfl hl.1 rfl (Nat.le_of_ble_eq_true rfl) dL_law_475 ⟨by show 100 + 6 * t + 0 + 0 ≤ 600000; omega, by show 4000 + 220 * t + 0 + 0 ≤ 7302250; omega⟩) hS (in_A hAs hS.1) (fun H2 locs2 hM2 hz2 hk2 hS => ?_)
  refine lv_icmp_eq (tgt := 1014) (cx_x X) (cx_b X) dL_law_478 (by decide) (fun _ => ?_) (fun hc => absurd rfl hc)
  refine W.widen (k := 100 + 6 * (t + 1)) (n := 4000 + 220 * (t + 1)) (by omega) (by omega) ?_
  obtain ⟨P1, ad1, NB1, g1, g2, g3, g4⟩ := hx
  exact K _ _ _ _ _ _ _ _ _ _ ⟨P1, ad1, NB1, g1, g2, g3, tp_f2 g4 g2 hk2⟩ hM2 hrel hS _ hl
set_option maxHeartbeats 4000000 in
set_option maxRecDepth 100000 in
theorem lc_11 {p0 : Program} {l : Launch} {e : Env} {s : State} {m : MethodId} {args : Array Value} {below : List Frame} {meth : Method} {co : Code} {D : va_G} {y : Nat → ClassId} {b L : Nat} {xs : Nat → Int32} {rt : Option FieldType} {Q0 : State → Prop} {A : Nat → Nat} {qx t i : Nat} {x3 : Int32} (X : cx p0 s m args meth co cL_law 4 rt RL D y) (hX : va_X b L xs s s.heap) (hbl : b < s.heap.size) (hI : aj_s 7 A) (hAs : ∀ j, j < 7 → s.heap.size ≤ A j) (ht : t < 512) (ex3 : x3 = nI i) (hi : i + 5 ≤ L) (hL : L ≤ 2560) (K : ∀ (p : Nat → Bool) (c k : Nat) (U : Nat → Int32) (V : Nat → Nat → Int32) (N : Nat → ns_T) (F : Nat → Int32) (R : Nat → Nat → Int32) (H : Heap) (locs : List Loc), xs_s D y s.heap.size qx A p c k U V N H → va_P D vwCl (w5_s y A F R) H → rl_s p c k U V N F R → va_S (fun q : Nat => s.heap.size ≤ q) s.heap H locs → ∀ ls, lv_has ls 4 [(0, .ref b), (1, .ref qx), (2, .ref (A 0)), (3, .int x3)] → W p0 l e room_1 s m args below meth co H locs (100 + 6 * (t + 1)) (4000 + 220 * (t + 1)) Q0 (F0 m 1014 ls [])) {p : Nat → Bool} {c k : Nat} {U : Nat → Int32} {V : Nat → Nat → Int32} {N : Nat → ns_T} {F : Nat → Int32} {R : Nat → Nat → Int32} {H : Heap} {locs : List Loc} (hx : xs_s D y s.heap.size qx A p c k U V N H) (hM : va_P D vwCl (w5_s y A F R) H) (hrel : rl_s p c k U V N F R) (hS : va_S (fun q : Nat => s.heap.size ≤ q) s.heap H locs) {ls : Array Slot} (hl : lv_has ls 4 [(0, .ref b), (1, .ref qx), (2, .ref (A 0)), (3, .int x3)]) : W p0 l e room_1 s m args below meth co H locs (100 + 6 * t) (4000 + 220 * t) Q0 (F0 m 483 ls []) := by
  obtain ⟨P, ad, NB, hP1, hP2, rfl, hT⟩ := hx
  have hbA : ¬ (fun q : Nat => s.heap.size ≤ q) b := Nat.not_le.mpr hbl
  have hj1 : vp_in (x3 + (1 : Int32)) L := by rw [ex3, show nI i + (1 : Int32) = nI (i + 1) from nI_add i 1]; exact vp_in_nI (by omega) (by omega)
  obtain ⟨r, hx1, hm1⟩ := sim_cellOf hrel (xs (x3 + (1 : Int32)).toNatClampNeg)
  refine lv_aload_n (cx_x X) (cx_b X) dL_law_483 rfl (lv_at hl 1 rfl) ?_
  refine lv_aload_n (cx_x X) (cx_b X) dL_law_484 rfl (lv_at hl 0 rfl) ?_
  refine lv_iload_n (cx_x X) (cx_b X) dL_law_485 rfl (lv_at hl 3 rfl) ?_
  refine lv_iconst (v := (1 : Int32)) (cx_x X) (cx_b X) dL_law_486 (by decide) ?_
  refine lv_iadd (cx_x X) (cx_b X) dL_law_487 ?_
  refine va_sld (cx_x X) (cx_b X) hX hbl hbA hS hj1 dL_law_488 ?_
  refine af_R (rn_V (As := [.int (xs (x3 + (1 : Int32)).toNatClampNeg)]) (rest := []) X (c_X4_cellOf l D y (ad 9 0) (ad 9 1) (ad 9 3) (ad 10 0) (ad 0) (NB 0) (N 0).1 (N 0).2.1 (N 0).2.2.1 (N 0).2.2.2 (xs (x3 + (1 : Int32)).toNatClampNeg) r hx1) vq_L_61 ⟨rfl, rfl⟩ ⟨Nat.le_of_ble_eq_true rfl, Nat.le_of_ble_eq_true rfl⟩ (rec_4 X (tp_w hT)) ⟨tp_w hT, tp_n hT pz_0, tp_l hT pz_0⟩ rfl hl.1 rfl (Nat.le_of_ble_eq_true rfl) dL_law_489 ⟨by show 100 + 6 * t ≤ 600000; omega, by show 4000 + 220 * t ≤ 7302250; omega⟩) ?_
  refine lv_aload_n (cx_x X) (cx_b X) dL_law_492 rfl (lv_at hl 2 rfl) ?_
  refine lv_aload_n (cx_x X) (cx_b X) dL_law_493 rfl (lv_at hl 0 rfl) ?_
  refine lv_iload_n (cx_x X) (cx_b X) dL_law_494 rfl (lv_at hl 3 rfl) ?_
  refine lv_iconst (v := (1 : Int32)) (cx_x X) (cx_b X) dL_law_495 (by decide) ?_
  refine lv_iadd (cx_x X) (cx_b X) dL_law_496 ?_
  refine va_sld (cx_x X) (cx_b X) hX hbl hbA hS hj1 dL_law_497 ?_
  refine af_R (rn_V (As := [.int (xs (x3 + (1 : Int32)).toNatClampNeg)]) (rest := [.int r]) X (c_X5_cellOf l D y A F R (xs (x3 + (1 : Int32)).toNatClampNeg) r hm1) vq_L_64 ⟨rfl, rfl⟩ ⟨Nat.le_of_ble_eq_true rfl, Nat.le_of_ble_eq_true rfl⟩ (rec_5 X hM) hM rfl hl.1 rfl (Nat.le_of_ble_eq_true rfl) dL_law_498 ⟨by show 100 + 6 * t ≤ 600000; omega, by show 4000 + 220 * t ≤ 7302250; omega⟩) ?_
  refine lv_icmp_eq (tgt := 1014) (cx_x X) (cx_b X) dL_law_501 (by decide) (fun _ => ?_) (fun hc => absurd rfl hc)
  refine W.widen (k := 100 + 6 * (t + 1)) (n := 4000 + 220 * (t + 1)) (by omega) (by omega) ?_
  exact K _ _ _ _ _ _ _ _ _ _ ⟨P, ad, NB, hP1, hP2, rfl, hT⟩ hM hrel hS _ hl
set_option maxHeartbeats 4000000 in
set_option maxRecDepth 100000 in
theorem lc_12 {p0 : Program} {l : Launch} {e : Env} {s : State} {m : MethodId} {args : Array Value} {below : List Frame} {meth : Method} {co : Code} {D : va_G} {y : Nat → ClassId} {b L : Nat} {xs : Nat → Int32} {rt : Option FieldType} {Q0 : State → Prop} {A : Nat → Nat} {qx t i : Nat} {x3 : Int32} (X : cx p0 s m args meth co cL_law 4 rt RL D y) (hX : va_X b L xs s s.heap) (hbl : b < s.heap.size) (hI : aj_s 7 A) (hAs : ∀ j, j < 7 → s.heap.size ≤ A j) (ht : t < 512) (ex3 : x3 = nI i) (hi : i + 5 ≤ L) (hL : L ≤ 2560) (K : ∀ (p : Nat → Bool) (c k : Nat) (U : Nat → Int32) (V : Nat → Nat → Int32) (N : Nat → ns_T) (F : Nat → Int32) (R : Nat → Nat → Int32) (H : Heap) (locs : List Loc), xs_s D y s.heap.size qx A p c k U V N H → va_P D vwCl (w5_s y A F R) H → rl_s p c k U V N F R → va_S (fun q : Nat => s.heap.size ≤ q) s.heap H locs → ∀ ls, lv_has ls 4 [(0, .ref b), (1, .ref qx), (2, .ref (A 0)), (3, .int x3)] → W p0 l e room_1 s m args below meth co H locs (100 + 6 * (t + 1)) (4000 + 220 * (t + 1)) Q0 (F0 m 1014 ls [])) {p : Nat → Bool} {c k : Nat} {U : Nat → Int32} {V : Nat → Nat → Int32} {N : Nat → ns_T} {F : Nat → Int32} {R : Nat → Nat → Int32} {H : Heap} {locs : List Loc} (hx : xs_s D y s.heap.size qx A p c k U V N H) (hM : va_P D vwCl (w5_s y A F R) H) (hrel : rl_s p c k U V N F R) (hS : va_S (fun q : Nat => s.heap.size ≤ q) s.heap H locs) {ls : Array Slot} (hl : lv_has ls 4 [(0, .ref b), (1, .ref qx), (2, .ref (A 0)), (3, .int x3)]) : W p0 l e room_1 s m args below meth co H locs (100 + 6 * t) (4000 + 220 * t) Q0 (F0 m 506 ls []) := by
  obtain ⟨P, ad, NB, hP1, hP2, rfl, hT⟩ := hx
  have hbA : ¬ (fun q : Nat => s.heap.size ≤ q) b := Nat.not_le.mpr hbl
  have hj1 : vp_in (x3 + (1 : Int32)) L := by rw [ex3, show nI i + (1 : Int32) = nI (i + 1) from nI_add i 1]; exact vp_in_nI (by omega) (by omega)
  obtain ⟨r, hx1, hm1⟩ := sim_channelOf hrel (xs (x3 + (1 : Int32)).toNatClampNeg)
  refine lv_aload_n (cx_x X) (cx_b X) dL_law_506 rfl (lv_at hl 1 rfl) ?_
  refine lv_aload_n (cx_x X) (cx_b X) dL_law_507 rfl (lv_at hl 0 rfl) ?_
  refine lv_iload_n (cx_x X) (cx_b X) dL_law_508 rfl (lv_at hl 3 rfl) ?_
  refine lv_iconst (v := (1 : Int32)) (cx_x X) (cx_b X) dL_law_509 (by decide) ?_
  refine lv_iadd (cx_x X) (cx_b X) dL_law_510 ?_
  refine va_sld (cx_x X) (cx_b X) hX hbl hbA hS hj1 dL_law_511 ?_
  refine af_R (rn_V (As := [.int (xs (x3 + (1 : Int32)).toNatClampNeg)]) (rest := []) X (c_X4_channelOf l D y (ad 9 0) (ad 9 1) (ad 9 3) (ad 10 0) (ad 0) (NB 0) (N 0).1 (N 0).2.1 (N 0).2.2.1 (N 0).2.2.2 (xs (x3 + (1 : Int32)).toNatClampNeg) r hx1) vq_L_65 ⟨rfl, rfl⟩ ⟨Nat.le_of_ble_eq_true rfl, Nat.le_of_ble_eq_true rfl⟩ (rec_4 X (tp_w hT)) ⟨tp_w hT, tp_n hT pz_0, tp_l hT pz_0⟩ rfl hl.1 rfl (Nat.le_of_ble_eq_true rfl) dL_law_512 ⟨by show 100 + 6 * t ≤ 600000; omega, by show 4000 + 220 * t ≤ 7302250; omega⟩) ?_
  refine lv_aload_n (cx_x X) (cx_b X) dL_law_515 rfl (lv_at hl 2 rfl) ?_
  refine lv_aload_n (cx_x X) (cx_b X) dL_law_516 rfl (lv_at hl 0 rfl) ?_
  refine lv_iload_n (cx_x X) (cx_b X) dL_law_517 rfl (lv_at hl 3 rfl) ?_
  refine lv_iconst (v := (1 : Int32)) (cx_x X) (cx_b X) dL_law_518 (by decide) ?_
  refine lv_iadd (cx_x X) (cx_b X) dL_law_519 ?_
  refine va_sld (cx_x X) (cx_b X) hX hbl hbA hS hj1 dL_law_520 ?_
  refine af_R (rn_V (As := [.int (xs (x3 + (1 : Int32)).toNatClampNeg)]) (rest := [.int r]) X (c_X5_channelOf l D y A F R (xs (x3 + (1 : Int32)).toNatClampNeg) r hm1) vq_L_68 ⟨rfl, rfl⟩ ⟨Nat.le_of_ble_eq_true rfl, Nat.le_of_ble_eq_true rfl⟩ (rec_5 X hM) hM rfl hl.1 rfl (Nat.le_of_ble_eq_true rfl) dL_law_521 ⟨by show 100 + 6 * t ≤ 600000; omega, by show 4000 + 220 * t ≤ 7302250; omega⟩) ?_
  refine lv_icmp_eq (tgt := 1014) (cx_x X) (cx_b X) dL_law_524 (by decide) (fun _ => ?_) (fun hc => absurd rfl hc)
  refine W.widen (k := 100 + 6 * (t + 1)) (n := 4000 + 220 * (t + 1)) (by omega) (by omega) ?_
  exact K _ _ _ _ _ _ _ _ _ _ ⟨P, ad, NB, hP1, hP2, rfl, hT⟩ hM hrel hS _ hl
set_option maxHeartbeats 4000000 in
set_option maxRecDepth 100000 in
theorem lc_13 {p0 : Program} {l : Launch} {e : Env} {s : State} {m : MethodId} {args : Array Value} {below : List Frame} {meth : Method} {co : Code} {D : va_G} {y : Nat → ClassId} {b L : Nat} {xs : Nat → Int32} {rt : Option FieldType} {Q0 : State → Prop} {A : Nat → Nat} {qx t i : Nat} {x3 : Int32} (X : cx p0 s m args meth co cL_law 4 rt RL D y) (hX : va_X b L xs s s.heap) (hbl : b < s.heap.size) (hI : aj_s 7 A) (hAs : ∀ j, j < 7 → s.heap.size ≤ A j) (ht : t < 512) (ex3 : x3 = nI i) (hi : i + 5 ≤ L) (hL : L ≤ 2560) (K : ∀ (p : Nat → Bool) (c k : Nat) (U : Nat → Int32) (V : Nat → Nat → Int32) (N : Nat → ns_T) (F : Nat → Int32) (R : Nat → Nat → Int32) (H : Heap) (locs : List Loc), xs_s D y s.heap.size qx A p c k U V N H → va_P D vwCl (w5_s y A F R) H → rl_s p c k U V N F R → va_S (fun q : Nat => s.heap.size ≤ q) s.heap H locs → ∀ ls, lv_has ls 4 [(0, .ref b), (1, .ref qx), (2, .ref (A 0)), (3, .int x3)] → W p0 l e room_1 s m args below meth co H locs (100 + 6 * (t + 1)) (4000 + 220 * (t + 1)) Q0 (F0 m 1014 ls [])) {p : Nat → Bool} {c k : Nat} {U : Nat → Int32} {V : Nat → Nat → Int32} {N : Nat → ns_T} {F : Nat → Int32} {R : Nat → Nat → Int32} {H : Heap} {locs : List Loc} (hx : xs_s D y s.heap.size qx A p c k U V N H) (hM : va_P D vwCl (w5_s y A F R) H) (hrel : rl_s p c k U V N F R) (hS : va_S (fun q : Nat => s.heap.size ≤ q) s.heap H locs) {ls : Array Slot} (hl : lv_has ls 4 [(0, .ref b), (1, .ref qx), (2, .ref (A 0)), (3, .int x3)]) : W p0 l e room_1 s m args below meth co H locs (100 + 6 * t) (4000 + 220 * t) Q0 (F0 m 529 ls []) := by
  obtain ⟨P, ad, NB, hP1, hP2, rfl, hT⟩ := hx
  have hbA : ¬ (fun q : Nat => s.heap.size ≤ q) b := Nat.not_le.mpr hbl
  have hj1 : vp_in (x3 + (1 : Int32)) L := by rw [ex3, show nI i + (1 : Int32) = nI (i + 1) from nI_add i 1]; exact vp_in_nI (by omega) (by omega)
  obtain ⟨r, hx1, hm1⟩ := sim_isBorrowed hrel (xs (x3 + (1 : Int32)).toNatClampNeg)
  refine lv_aload_n (cx_x X) (cx_b X) dL_law_529 rfl (lv_at hl 1 rfl) ?_
  refine lv_aload_n (cx_x X) (cx_b X) dL_law_530 rfl (lv_at hl 0 rfl) ?_
  refine lv_iload_n (cx_x X) (cx_b X) dL_law_531 rfl (lv_at hl 3 rfl) ?_
  refine lv_iconst (v := (1 : Int32)) (cx_x X) (cx_b X) dL_law_532 (by decide) ?_
  refine lv_iadd (cx_x X) (cx_b X) dL_law_533 ?_
  refine va_sld (cx_x X) (cx_b X) hX hbl hbA hS hj1 dL_law_534 ?_
  refine af_R (rn_V (As := [.int (xs (x3 + (1 : Int32)).toNatClampNeg)]) (rest := []) X (c_X4_isBorrowed l D y (ad 9 0) (ad 9 1) (ad 9 3) (ad 10 0) (ad 0) (NB 0) (N 0).1 (N 0).2.1 (N 0).2.2.1 (N 0).2.2.2 (xs (x3 + (1 : Int32)).toNatClampNeg) r hx1) vq_L_69 ⟨rfl, rfl⟩ ⟨Nat.le_of_ble_eq_true rfl, Nat.le_of_ble_eq_true rfl⟩ (rec_4 X (tp_w hT)) ⟨tp_w hT, tp_n hT pz_0, tp_l hT pz_0⟩ rfl hl.1 rfl (Nat.le_of_ble_eq_true rfl) dL_law_535 ⟨by show 100 + 6 * t ≤ 600000; omega, by show 4000 + 220 * t ≤ 7302250; omega⟩) ?_
  refine lv_aload_n (cx_x X) (cx_b X) dL_law_538 rfl (lv_at hl 2 rfl) ?_
  refine lv_aload_n (cx_x X) (cx_b X) dL_law_539 rfl (lv_at hl 0 rfl) ?_
  refine lv_iload_n (cx_x X) (cx_b X) dL_law_540 rfl (lv_at hl 3 rfl) ?_
  refine lv_iconst (v := (1 : Int32)) (cx_x X) (cx_b X) dL_law_541 (by decide) ?_
  refine lv_iadd (cx_x X) (cx_b X) dL_law_542 ?_
  refine va_sld (cx_x X) (cx_b X) hX hbl hbA hS hj1 dL_law_543 ?_
  refine af_R (rn_V (As := [.int (xs (x3 + (1 : Int32)).toNatClampNeg)]) (rest := [.int r]) X (c_X5_isBorrowed l D y A F R (xs (x3 + (1 : Int32)).toNatClampNeg) r hm1) vq_L_72 ⟨rfl, rfl⟩ ⟨Nat.le_of_ble_eq_true rfl, Nat.le_of_ble_eq_true rfl⟩ (rec_5 X hM) hM rfl hl.1 rfl (Nat.le_of_ble_eq_true rfl) dL_law_544 ⟨by show 100 + 6 * t ≤ 600000; omega, by show 4000 + 220 * t ≤ 7302250; omega⟩) ?_
  refine lv_icmp_eq (tgt := 1014) (cx_x X) (cx_b X) dL_law_547 (by decide) (fun _ => ?_) (fun hc => absurd rfl hc)
  refine W.widen (k := 100 + 6 * (t + 1)) (n := 4000 + 220 * (t + 1)) (by omega) (by omega) ?_
  exact K _ _ _ _ _ _ _ _ _ _ ⟨P, ad, NB, hP1, hP2, rfl, hT⟩ hM hrel hS _ hl
set_option maxHeartbeats 4000000 in
set_option maxRecDepth 100000 in
theorem lc_14 {p0 : Program} {l : Launch} {e : Env} {s : State} {m : MethodId} {args : Array Value} {below : List Frame} {meth : Method} {co : Code} {D : va_G} {y : Nat → ClassId} {b L : Nat} {xs : Nat → Int32} {rt : Option FieldType} {Q0 : State → Prop} {A : Nat → Nat} {qx t i : Nat} {x3 : Int32} (X : cx p0 s m args meth co cL_law 4 rt RL D y) (hX : va_X b L xs s s.heap) (hbl : b < s.heap.size) (hI : aj_s 7 A) (hAs : ∀ j, j < 7 → s.heap.size ≤ A j) (ht : t < 512) (ex3 : x3 = nI i) (hi : i + 5 ≤ L) (hL : L ≤ 2560) (K : ∀ (p : Nat → Bool) (c k : Nat) (U : Nat → Int32) (V : Nat → Nat → Int32) (N : Nat → ns_T) (F : Nat → Int32) (R : Nat → Nat → Int32) (H : Heap) (locs : List Loc), xs_s D y s.heap.size qx A p c k U V N H → va_P D vwCl (w5_s y A F R) H → rl_s p c k U V N F R → va_S (fun q : Nat => s.heap.size ≤ q) s.heap H locs → ∀ ls, lv_has ls 4 [(0, .ref b), (1, .ref qx), (2, .ref (A 0)), (3, .int x3)] → W p0 l e room_1 s m args below meth co H locs (100 + 6 * (t + 1)) (4000 + 220 * (t + 1)) Q0 (F0 m 1014 ls [])) {p : Nat → Bool} {c k : Nat} {U : Nat → Int32} {V : Nat → Nat → Int32} {N : Nat → ns_T} {F : Nat → Int32} {R : Nat → Nat → Int32} {H : Heap} {locs : List Loc} (hx : xs_s D y s.heap.size qx A p c k U V N H) (hM : va_P D vwCl (w5_s y A F R) H) (hrel : rl_s p c k U V N F R) (hS : va_S (fun q : Nat => s.heap.size ≤ q) s.heap H locs) {ls : Array Slot} (hl : lv_has ls 4 [(0, .ref b), (1, .ref qx), (2, .ref (A 0)), (3, .int x3)]) : W p0 l e room_1 s m args below meth co H locs (100 + 6 * t) (4000 + 220 * t) Q0 (F0 m 552 ls []) := by
  obtain ⟨P, ad, NB, hP1, hP2, rfl, hT⟩ := hx
  have hbA : ¬ (fun q : Nat => s.heap.size ≤ q) b := Nat.not_le.mpr hbl
  have hj1 : vp_in (x3 + (1 : Int32)) L := by rw [ex3, show nI i + (1 : Int32) = nI (i + 1) from nI_add i 1]; exact vp_in_nI (by omega) (by omega)
  obtain ⟨r, hx1, hm1⟩ := sim_isInFixedScheme hrel (xs (x3 + (1 : Int32)).toNatClampNeg)
  refine lv_aload_n (cx_x X) (cx_b X) dL_law_552 rfl (lv_at hl 1 rfl) ?_
  refine lv_aload_n (cx_x X) (cx_b X) dL_law_553 rfl (lv_at hl 0 rfl) ?_
  refine lv_iload_n (cx_x X) (cx_b X) dL_law_554 rfl (lv_at hl 3 rfl) ?_
  refine lv_iconst (v := (1 : Int32)) (cx_x X) (cx_b X) dL_law_555 (by decide) ?_
  refine lv_iadd (cx_x X) (cx_b X) dL_law_556 ?_
  refine va_sld (cx_x X) (cx_b X) hX hbl hbA hS hj1 dL_law_557 ?_
  refine af_R (rn_V (As := [.int (xs (x3 + (1 : Int32)).toNatClampNeg)]) (rest := []) X (c_X4_isInFixedScheme l D y (ad 9 0) (ad 9 1) (ad 9 3) (ad 10 0) (ad 0) (NB 0) (N 0).1 (N 0).2.1 (N 0).2.2.1 (N 0).2.2.2 (xs (x3 + (1 : Int32)).toNatClampNeg) r hx1) vq_L_73 ⟨rfl, rfl⟩ ⟨Nat.le_of_ble_eq_true rfl, Nat.le_of_ble_eq_true rfl⟩ (rec_4 X (tp_w hT)) ⟨tp_w hT, tp_n hT pz_0, tp_l hT pz_0⟩ rfl hl.1 rfl (Nat.le_of_ble_eq_true rfl) dL_law_558 ⟨by show 100 + 6 * t ≤ 600000; omega, by show 4000 + 220 * t ≤ 7302250; omega⟩) ?_
  refine lv_aload_n (cx_x X) (cx_b X) dL_law_561 rfl (lv_at hl 2 rfl) ?_
  refine lv_aload_n (cx_x X) (cx_b X) dL_law_562 rfl (lv_at hl 0 rfl) ?_
  refine lv_iload_n (cx_x X) (cx_b X) dL_law_563 rfl (lv_at hl 3 rfl) ?_
  refine lv_iconst (v := (1 : Int32)) (cx_x X) (cx_b X) dL_law_564 (by decide) ?_
  refine lv_iadd (cx_x X) (cx_b X) dL_law_565 ?_
  refine va_sld (cx_x X) (cx_b X) hX hbl hbA hS hj1 dL_law_566 ?_
  refine af_R (rn_V (As := [.int (xs (x3 + (1 : Int32)).toNatClampNeg)]) (rest := [.int r]) X (c_X5_isInFixedScheme l D y A F R (xs (x3 + (1 : Int32)).toNatClampNeg) r hm1) vq_L_76 ⟨rfl, rfl⟩ ⟨Nat.le_of_ble_eq_true rfl, Nat.le_of_ble_eq_true rfl⟩ (rec_5 X hM) hM rfl hl.1 rfl (Nat.le_of_ble_eq_true rfl) dL_law_567 ⟨by show 100 + 6 * t ≤ 600000; omega, by show 4000 + 220 * t ≤ 7302250; omega⟩) ?_
  refine lv_icmp_eq (tgt := 1014) (cx_x X) (cx_b X) dL_law_570 (by decide) (fun _ => ?_) (fun hc => absurd rfl hc)
  refine W.widen (k := 100 + 6 * (t + 1)) (n := 4000 + 220 * (t + 1)) (by omega) (by omega) ?_
  exact K _ _ _ _ _ _ _ _ _ _ ⟨P, ad, NB, hP1, hP2, rfl, hT⟩ hM hrel hS _ hl
set_option maxHeartbeats 4000000 in
set_option maxRecDepth 100000 in
theorem lc_15 {p0 : Program} {l : Launch} {e : Env} {s : State} {m : MethodId} {args : Array Value} {below : List Frame} {meth : Method} {co : Code} {D : va_G} {y : Nat → ClassId} {b L : Nat} {xs : Nat → Int32} {rt : Option FieldType} {Q0 : State → Prop} {A : Nat → Nat} {qx t i : Nat} {x3 : Int32} (X : cx p0 s m args meth co cL_law 4 rt RL D y) (hX : va_X b L xs s s.heap) (hbl : b < s.heap.size) (hI : aj_s 7 A) (hAs : ∀ j, j < 7 → s.heap.size ≤ A j) (ht : t < 512) (ex3 : x3 = nI i) (hi : i + 5 ≤ L) (hL : L ≤ 2560) (K : ∀ (p : Nat → Bool) (c k : Nat) (U : Nat → Int32) (V : Nat → Nat → Int32) (N : Nat → ns_T) (F : Nat → Int32) (R : Nat → Nat → Int32) (H : Heap) (locs : List Loc), xs_s D y s.heap.size qx A p c k U V N H → va_P D vwCl (w5_s y A F R) H → rl_s p c k U V N F R → va_S (fun q : Nat => s.heap.size ≤ q) s.heap H locs → ∀ ls, lv_has ls 4 [(0, .ref b), (1, .ref qx), (2, .ref (A 0)), (3, .int x3)] → W p0 l e room_1 s m args below meth co H locs (100 + 6 * (t + 1)) (4000 + 220 * (t + 1)) Q0 (F0 m 1014 ls [])) {p : Nat → Bool} {c k : Nat} {U : Nat → Int32} {V : Nat → Nat → Int32} {N : Nat → ns_T} {F : Nat → Int32} {R : Nat → Nat → Int32} {H : Heap} {locs : List Loc} (hx : xs_s D y s.heap.size qx A p c k U V N H) (hM : va_P D vwCl (w5_s y A F R) H) (hrel : rl_s p c k U V N F R) (hS : va_S (fun q : Nat => s.heap.size ≤ q) s.heap H locs) {ls : Array Slot} (hl : lv_has ls 4 [(0, .ref b), (1, .ref qx), (2, .ref (A 0)), (3, .int x3)]) : W p0 l e room_1 s m args below meth co H locs (100 + 6 * t) (4000 + 220 * t) Q0 (F0 m 575 ls []) := by
  obtain ⟨P, ad, NB, hP1, hP2, rfl, hT⟩ := hx
  have hbA : ¬ (fun q : Nat => s.heap.size ≤ q) b := Nat.not_le.mpr hbl
  have hj1 : vp_in (x3 + (1 : Int32)) L := by rw [ex3, show nI i + (1 : Int32) = nI (i + 1) from nI_add i 1]; exact vp_in_nI (by omega) (by omega)
  have hj2 : vp_in (x3 + (2 : Int32)) L := by rw [ex3, show nI i + (2 : Int32) = nI (i + 2) from nI_add i 2]; exact vp_in_nI (by omega) (by omega)
  obtain ⟨r, hx1, hm1⟩ := sim_isAvailable hrel (xs (x3 + (1 : Int32)).toNatClampNeg) (xs (x3 + (2 : Int32)).toNatClampNeg)
  refine lv_aload_n (cx_x X) (cx_b X) dL_law_575 rfl (lv_at hl 1 rfl) ?_
  refine lv_aload_n (cx_x X) (cx_b X) dL_law_576 rfl (lv_at hl 0 rfl) ?_
  refine lv_iload_n (cx_x X) (cx_b X) dL_law_577 rfl (lv_at hl 3 rfl) ?_
  refine lv_iconst (v := (1 : Int32)) (cx_x X) (cx_b X) dL_law_578 (by decide) ?_
  refine lv_iadd (cx_x X) (cx_b X) dL_law_579 ?_
  refine va_sld (cx_x X) (cx_b X) hX hbl hbA hS hj1 dL_law_580 ?_
  refine lv_aload_n (cx_x X) (cx_b X) dL_law_581 rfl (lv_at hl 0 rfl) ?_
  refine lv_iload_n (cx_x X) (cx_b X) dL_law_582 rfl (lv_at hl 3 rfl) ?_
  refine lv_iconst (v := (2 : Int32)) (cx_x X) (cx_b X) dL_law_583 (by decide) ?_
  refine lv_iadd (cx_x X) (cx_b X) dL_law_584 ?_
  refine va_sld (cx_x X) (cx_b X) hX hbl hbA hS hj2 dL_law_585 ?_
  refine af_R (rn_V (As := [.int (xs (x3 + (1 : Int32)).toNatClampNeg), .int (xs (x3 + (2 : Int32)).toNatClampNeg)]) (rest := []) X (c_X4_isAvailable l D y (ad 9 0) (ad 9 1) (ad 9 3) (ad 10 0) (ad 0) (NB 0) (N 0).1 (N 0).2.1 (N 0).2.2.1 (N 0).2.2.2 (xs (x3 + (1 : Int32)).toNatClampNeg) (xs (x3 + (2 : Int32)).toNatClampNeg) r hx1) vq_L_77 ⟨rfl, rfl⟩ ⟨Nat.le_of_ble_eq_true rfl, Nat.le_of_ble_eq_true rfl⟩ (rec_4 X (tp_w hT)) ⟨tp_w hT, tp_n hT pz_0, tp_l hT pz_0⟩ rfl hl.1 rfl (Nat.le_of_ble_eq_true rfl) dL_law_586 ⟨by show 100 + 6 * t ≤ 600000; omega, by show 4000 + 220 * t ≤ 7302250; omega⟩) ?_
  refine lv_aload_n (cx_x X) (cx_b X) dL_law_589 rfl (lv_at hl 2 rfl) ?_
  refine lv_aload_n (cx_x X) (cx_b X) dL_law_590 rfl (lv_at hl 0 rfl) ?_
  refine lv_iload_n (cx_x X) (cx_b X) dL_law_591 rfl (lv_at hl 3 rfl) ?_
  refine lv_iconst (v := (1 : Int32)) (cx_x X) (cx_b X) dL_law_592 (by decide) ?_
  refine lv_iadd (cx_x X) (cx_b X) dL_law_593 ?_
  refine va_sld (cx_x X) (cx_b X) hX hbl hbA hS hj1 dL_law_594 ?_
  refine lv_aload_n (cx_x X) (cx_b X) dL_law_595 rfl (lv_at hl 0 rfl) ?_
  refine lv_iload_n (cx_x X) (cx_b X) dL_law_596 rfl (lv_at hl 3 rfl) ?_
  refine lv_iconst (v := (2 : Int32)) (cx_x X) (cx_b X) dL_law_597 (by decide) ?_
  refine lv_iadd (cx_x X) (cx_b X) dL_law_598 ?_
  refine va_sld (cx_x X) (cx_b X) hX hbl hbA hS hj2 dL_law_599 ?_
  refine af_R (rn_V (As := [.int (xs (x3 + (1 : Int32)).toNatClampNeg), .int (xs (x3 + (2 : Int32)).toNatClampNeg)]) (rest := [.int r]) X (c_X5_isAvailable l D y A F R (xs (x3 + (1 : Int32)).toNatClampNeg) (xs (x3 + (2 : Int32)).toNatClampNeg) r hm1) vq_L_80 ⟨rfl, rfl⟩ ⟨Nat.le_of_ble_eq_true rfl, Nat.le_of_ble_eq_true rfl⟩ (rec_5 X hM) hM rfl hl.1 rfl (Nat.le_of_ble_eq_true rfl) dL_law_600 ⟨by show 100 + 6 * t ≤ 600000; omega, by show 4000 + 220 * t ≤ 7302250; omega⟩) ?_
  refine lv_icmp_eq (tgt := 1014) (cx_x X) (cx_b X) dL_law_603 (by decide) (fun _ => ?_) (fun hc => absurd rfl hc)
  refine W.widen (k := 100 + 6 * (t + 1)) (n := 4000 + 220 * (t + 1)) (by omega) (by omega) ?_
  exact K _ _ _ _ _ _ _ _ _ _ ⟨P, ad, NB, hP1, hP2, rfl, hT⟩ hM hrel hS _ hl
set_option maxHeartbeats 4000000 in
set_option maxRecDepth 100000 in
theorem lc_16 {p0 : Program} {l : Launch} {e : Env} {s : State} {m : MethodId} {args : Array Value} {below : List Frame} {meth : Method} {co : Code} {D : va_G} {y : Nat → ClassId} {b L : Nat} {xs : Nat → Int32} {rt : Option FieldType} {Q0 : State → Prop} {A : Nat → Nat} {qx t i : Nat} {x3 : Int32} (X : cx p0 s m args meth co cL_law 4 rt RL D y) (hX : va_X b L xs s s.heap) (hbl : b < s.heap.size) (hI : aj_s 7 A) (hAs : ∀ j, j < 7 → s.heap.size ≤ A j) (ht : t < 512) (ex3 : x3 = nI i) (hi : i + 5 ≤ L) (hL : L ≤ 2560) (K : ∀ (p : Nat → Bool) (c k : Nat) (U : Nat → Int32) (V : Nat → Nat → Int32) (N : Nat → ns_T) (F : Nat → Int32) (R : Nat → Nat → Int32) (H : Heap) (locs : List Loc), xs_s D y s.heap.size qx A p c k U V N H → va_P D vwCl (w5_s y A F R) H → rl_s p c k U V N F R → va_S (fun q : Nat => s.heap.size ≤ q) s.heap H locs → ∀ ls, lv_has ls 4 [(0, .ref b), (1, .ref qx), (2, .ref (A 0)), (3, .int x3)] → W p0 l e room_1 s m args below meth co H locs (100 + 6 * (t + 1)) (4000 + 220 * (t + 1)) Q0 (F0 m 1014 ls [])) {p : Nat → Bool} {c k : Nat} {U : Nat → Int32} {V : Nat → Nat → Int32} {N : Nat → ns_T} {F : Nat → Int32} {R : Nat → Nat → Int32} {H : Heap} {locs : List Loc} (hx : xs_s D y s.heap.size qx A p c k U V N H) (hM : va_P D vwCl (w5_s y A F R) H) (hrel : rl_s p c k U V N F R) (hS : va_S (fun q : Nat => s.heap.size ≤ q) s.heap H locs) {ls : Array Slot} (hl : lv_has ls 4 [(0, .ref b), (1, .ref qx), (2, .ref (A 0)), (3, .int x3)]) : W p0 l e room_1 s m args below meth co H locs (100 + 6 * t) (4000 + 220 * t) Q0 (F0 m 608 ls []) := by
  obtain ⟨P, ad, NB, hP1, hP2, rfl, hT⟩ := hx
  have hbA : ¬ (fun q : Nat => s.heap.size ≤ q) b := Nat.not_le.mpr hbl
  have hj1 : vp_in (x3 + (1 : Int32)) L := by rw [ex3, show nI i + (1 : Int32) = nI (i + 1) from nI_add i 1]; exact vp_in_nI (by omega) (by omega)
  have hj2 : vp_in (x3 + (2 : Int32)) L := by rw [ex3, show nI i + (2 : Int32) = nI (i + 2) from nI_add i 2]; exact vp_in_nI (by omega) (by omega)
  obtain ⟨r, hx1, hm1⟩ := sim_lockCount hrel (xs (x3 + (1 : Int32)).toNatClampNeg) (xs (x3 + (2 : Int32)).toNatClampNeg)
  refine lv_aload_n (cx_x X) (cx_b X) dL_law_608 rfl (lv_at hl 1 rfl) ?_
  refine lv_aload_n (cx_x X) (cx_b X) dL_law_609 rfl (lv_at hl 0 rfl) ?_
  refine lv_iload_n (cx_x X) (cx_b X) dL_law_610 rfl (lv_at hl 3 rfl) ?_
  refine lv_iconst (v := (1 : Int32)) (cx_x X) (cx_b X) dL_law_611 (by decide) ?_
  refine lv_iadd (cx_x X) (cx_b X) dL_law_612 ?_
  refine va_sld (cx_x X) (cx_b X) hX hbl hbA hS hj1 dL_law_613 ?_
  refine lv_aload_n (cx_x X) (cx_b X) dL_law_614 rfl (lv_at hl 0 rfl) ?_
  refine lv_iload_n (cx_x X) (cx_b X) dL_law_615 rfl (lv_at hl 3 rfl) ?_
  refine lv_iconst (v := (2 : Int32)) (cx_x X) (cx_b X) dL_law_616 (by decide) ?_
  refine lv_iadd (cx_x X) (cx_b X) dL_law_617 ?_
  refine va_sld (cx_x X) (cx_b X) hX hbl hbA hS hj2 dL_law_618 ?_
  refine af_R (rn_V (As := [.int (xs (x3 + (1 : Int32)).toNatClampNeg), .int (xs (x3 + (2 : Int32)).toNatClampNeg)]) (rest := []) X (c_X4_lockCount l D y (ad 9 0) (ad 9 1) (ad 9 3) (ad 10 0) (ad 0) (NB 0) (N 0).1 (N 0).2.1 (N 0).2.2.1 (N 0).2.2.2 (xs (x3 + (1 : Int32)).toNatClampNeg) (xs (x3 + (2 : Int32)).toNatClampNeg) r hx1) vq_L_81 ⟨rfl, rfl⟩ ⟨Nat.le_of_ble_eq_true rfl, Nat.le_of_ble_eq_true rfl⟩ (rec_4 X (tp_w hT)) ⟨tp_w hT, tp_n hT pz_0, tp_l hT pz_0⟩ rfl hl.1 rfl (Nat.le_of_ble_eq_true rfl) dL_law_619 ⟨by show 100 + 6 * t ≤ 600000; omega, by show 4000 + 220 * t ≤ 7302250; omega⟩) ?_
  refine lv_aload_n (cx_x X) (cx_b X) dL_law_622 rfl (lv_at hl 2 rfl) ?_
  refine lv_aload_n (cx_x X) (cx_b X) dL_law_623 rfl (lv_at hl 0 rfl) ?_
  refine lv_iload_n (cx_x X) (cx_b X) dL_law_624 rfl (lv_at hl 3 rfl) ?_
  refine lv_iconst (v := (1 : Int32)) (cx_x X) (cx_b X) dL_law_625 (by decide) ?_
  refine lv_iadd (cx_x X) (cx_b X) dL_law_626 ?_
  refine va_sld (cx_x X) (cx_b X) hX hbl hbA hS hj1 dL_law_627 ?_
  refine lv_aload_n (cx_x X) (cx_b X) dL_law_628 rfl (lv_at hl 0 rfl) ?_
  refine lv_iload_n (cx_x X) (cx_b X) dL_law_629 rfl (lv_at hl 3 rfl) ?_
  refine lv_iconst (v := (2 : Int32)) (cx_x X) (cx_b X) dL_law_630 (by decide) ?_
  refine lv_iadd (cx_x X) (cx_b X) dL_law_631 ?_
  refine va_sld (cx_x X) (cx_b X) hX hbl hbA hS hj2 dL_law_632 ?_
  refine af_R (rn_V (As := [.int (xs (x3 + (1 : Int32)).toNatClampNeg), .int (xs (x3 + (2 : Int32)).toNatClampNeg)]) (rest := [.int r]) X (c_X5_lockCount l D y A F R (xs (x3 + (1 : Int32)).toNatClampNeg) (xs (x3 + (2 : Int32)).toNatClampNeg) r hm1) vq_L_84 ⟨rfl, rfl⟩ ⟨Nat.le_of_ble_eq_true rfl, Nat.le_of_ble_eq_true rfl⟩ (rec_5 X hM) hM rfl hl.1 rfl (Nat.le_of_ble_eq_true rfl) dL_law_633 ⟨by show 100 + 6 * t ≤ 600000; omega, by show 4000 + 220 * t ≤ 7302250; omega⟩) ?_
  refine lv_icmp_eq (tgt := 1014) (cx_x X) (cx_b X) dL_law_636 (by decide) (fun _ => ?_) (fun hc => absurd rfl hc)
  refine W.widen (k := 100 + 6 * (t + 1)) (n := 4000 + 220 * (t + 1)) (by omega) (by omega) ?_
  exact K _ _ _ _ _ _ _ _ _ _ ⟨P, ad, NB, hP1, hP2, rfl, hT⟩ hM hrel hS _ hl
set_option maxHeartbeats 4000000 in
set_option maxRecDepth 100000 in
theorem lc_17 {p0 : Program} {l : Launch} {e : Env} {s : State} {m : MethodId} {args : Array Value} {below : List Frame} {meth : Method} {co : Code} {D : va_G} {y : Nat → ClassId} {b L : Nat} {xs : Nat → Int32} {rt : Option FieldType} {Q0 : State → Prop} {A : Nat → Nat} {qx t i : Nat} {x3 : Int32} (X : cx p0 s m args meth co cL_law 4 rt RL D y) (hX : va_X b L xs s s.heap) (hbl : b < s.heap.size) (hI : aj_s 7 A) (hAs : ∀ j, j < 7 → s.heap.size ≤ A j) (ht : t < 512) (ex3 : x3 = nI i) (hi : i + 5 ≤ L) (hL : L ≤ 2560) (K : ∀ (p : Nat → Bool) (c k : Nat) (U : Nat → Int32) (V : Nat → Nat → Int32) (N : Nat → ns_T) (F : Nat → Int32) (R : Nat → Nat → Int32) (H : Heap) (locs : List Loc), xs_s D y s.heap.size qx A p c k U V N H → va_P D vwCl (w5_s y A F R) H → rl_s p c k U V N F R → va_S (fun q : Nat => s.heap.size ≤ q) s.heap H locs → ∀ ls, lv_has ls 4 [(0, .ref b), (1, .ref qx), (2, .ref (A 0)), (3, .int x3)] → W p0 l e room_1 s m args below meth co H locs (100 + 6 * (t + 1)) (4000 + 220 * (t + 1)) Q0 (F0 m 1014 ls [])) {p : Nat → Bool} {c k : Nat} {U : Nat → Int32} {V : Nat → Nat → Int32} {N : Nat → ns_T} {F : Nat → Int32} {R : Nat → Nat → Int32} {H : Heap} {locs : List Loc} (hx : xs_s D y s.heap.size qx A p c k U V N H) (hM : va_P D vwCl (w5_s y A F R) H) (hrel : rl_s p c k U V N F R) (hS : va_S (fun q : Nat => s.heap.size ≤ q) s.heap H locs) {ls : Array Slot} (hl : lv_has ls 4 [(0, .ref b), (1, .ref qx), (2, .ref (A 0)), (3, .int x3)]) : W p0 l e room_1 s m args below meth co H locs (100 + 6 * t) (4000 + 220 * t) Q0 (F0 m 641 ls []) := by
  obtain ⟨P, ad, NB, hP1, hP2, rfl, hT⟩ := hx
  have hbA : ¬ (fun q : Nat => s.heap.size ≤ q) b := Nat.not_le.mpr hbl
  have hj1 : vp_in (x3 + (1 : Int32)) L := by rw [ex3, show nI i + (1 : Int32) = nI (i + 1) from nI_add i 1]; exact vp_in_nI (by omega) (by omega)
  have hj2 : vp_in (x3 + (2 : Int32)) L := by rw [ex3, show nI i + (2 : Int32) = nI (i + 2) from nI_add i 2]; exact vp_in_nI (by omega) (by omega)
  obtain ⟨r, hx1, hm1⟩ := sim_burden hrel (xs (x3 + (1 : Int32)).toNatClampNeg) (xs (x3 + (2 : Int32)).toNatClampNeg)
  refine lv_aload_n (cx_x X) (cx_b X) dL_law_641 rfl (lv_at hl 1 rfl) ?_
  refine lv_aload_n (cx_x X) (cx_b X) dL_law_642 rfl (lv_at hl 0 rfl) ?_
  refine lv_iload_n (cx_x X) (cx_b X) dL_law_643 rfl (lv_at hl 3 rfl) ?_
  refine lv_iconst (v := (1 : Int32)) (cx_x X) (cx_b X) dL_law_644 (by decide) ?_
  refine lv_iadd (cx_x X) (cx_b X) dL_law_645 ?_
  refine va_sld (cx_x X) (cx_b X) hX hbl hbA hS hj1 dL_law_646 ?_
  refine lv_aload_n (cx_x X) (cx_b X) dL_law_647 rfl (lv_at hl 0 rfl) ?_
  refine lv_iload_n (cx_x X) (cx_b X) dL_law_648 rfl (lv_at hl 3 rfl) ?_
  refine lv_iconst (v := (2 : Int32)) (cx_x X) (cx_b X) dL_law_649 (by decide) ?_
  refine lv_iadd (cx_x X) (cx_b X) dL_law_650 ?_
  refine va_sld (cx_x X) (cx_b X) hX hbl hbA hS hj2 dL_law_651 ?_
  refine af_R (rn_V (As := [.int (xs (x3 + (1 : Int32)).toNatClampNeg), .int (xs (x3 + (2 : Int32)).toNatClampNeg)]) (rest := []) X (c_X4_burden l D y (ad 9 0) (ad 9 1) (ad 9 3) (ad 10 0) (ad 0) (NB 0) (N 0).1 (N 0).2.1 (N 0).2.2.1 (N 0).2.2.2 (xs (x3 + (1 : Int32)).toNatClampNeg) (xs (x3 + (2 : Int32)).toNatClampNeg) r hx1) vq_L_85 ⟨rfl, rfl⟩ ⟨Nat.le_of_ble_eq_true rfl, Nat.le_of_ble_eq_true rfl⟩ (rec_4 X (tp_w hT)) ⟨tp_w hT, tp_n hT pz_0, tp_l hT pz_0⟩ rfl hl.1 rfl (Nat.le_of_ble_eq_true rfl) dL_law_652 ⟨by show 100 + 6 * t ≤ 600000; omega, by show 4000 + 220 * t ≤ 7302250; omega⟩) ?_
  refine lv_aload_n (cx_x X) (cx_b X) dL_law_655 rfl (lv_at hl 2 rfl) ?_
  refine lv_aload_n (cx_x X) (cx_b X) dL_law_656 rfl (lv_at hl 0 rfl) ?_
  refine lv_iload_n (cx_x X) (cx_b X) dL_law_657 rfl (lv_at hl 3 rfl) ?_
  refine lv_iconst (v := (1 : Int32)) (cx_x X) (cx_b X) dL_law_658 (by decide) ?_
  refine lv_iadd (cx_x X) (cx_b X) dL_law_659 ?_
  refine va_sld (cx_x X) (cx_b X) hX hbl hbA hS hj1 dL_law_660 ?_
  refine lv_aload_n (cx_x X) (cx_b X) dL_law_661 rfl (lv_at hl 0 rfl) ?_
  refine lv_iload_n (cx_x X) (cx_b X) dL_law_662 rfl (lv_at hl 3 rfl) ?_
  refine lv_iconst (v := (2 : Int32)) (cx_x X) (cx_b X) dL_law_663 (by decide) ?_
  refine lv_iadd (cx_x X) (cx_b X) dL_law_664 ?_
  refine va_sld (cx_x X) (cx_b X) hX hbl hbA hS hj2 dL_law_665 ?_
  refine af_R (rn_V (As := [.int (xs (x3 + (1 : Int32)).toNatClampNeg), .int (xs (x3 + (2 : Int32)).toNatClampNeg)]) (rest := [.int r]) X (c_X5_burden l D y A F R (xs (x3 + (1 : Int32)).toNatClampNeg) (xs (x3 + (2 : Int32)).toNatClampNeg) r hm1) vq_L_88 ⟨rfl, rfl⟩ ⟨Nat.le_of_ble_eq_true rfl, Nat.le_of_ble_eq_true rfl⟩ (rec_5 X hM) hM rfl hl.1 rfl (Nat.le_of_ble_eq_true rfl) dL_law_666 ⟨by show 100 + 6 * t ≤ 600000; omega, by show 4000 + 220 * t ≤ 7302250; omega⟩) ?_
  refine lv_icmp_eq (tgt := 1014) (cx_x X) (cx_b X) dL_law_669 (by decide) (fun _ => ?_) (fun hc => absurd rfl hc)
  refine W.widen (k := 100 + 6 * (t + 1)) (n := 4000 + 220 * (t + 1)) (by omega) (by omega) ?_
  exact K _ _ _ _ _ _ _ _ _ _ ⟨P, ad, NB, hP1, hP2, rfl, hT⟩ hM hrel hS _ hl
set_option maxHeartbeats 4000000 in
set_option maxRecDepth 100000 in
theorem lc_18 {p0 : Program} {l : Launch} {e : Env} {s : State} {m : MethodId} {args : Array Value} {below : List Frame} {meth : Method} {co : Code} {D : va_G} {y : Nat → ClassId} {b L : Nat} {xs : Nat → Int32} {rt : Option FieldType} {Q0 : State → Prop} {A : Nat → Nat} {qx t i : Nat} {x3 : Int32} (X : cx p0 s m args meth co cL_law 4 rt RL D y) (hX : va_X b L xs s s.heap) (hbl : b < s.heap.size) (hI : aj_s 7 A) (hAs : ∀ j, j < 7 → s.heap.size ≤ A j) (ht : t < 512) (ex3 : x3 = nI i) (hi : i + 5 ≤ L) (hL : L ≤ 2560) (K : ∀ (p : Nat → Bool) (c k : Nat) (U : Nat → Int32) (V : Nat → Nat → Int32) (N : Nat → ns_T) (F : Nat → Int32) (R : Nat → Nat → Int32) (H : Heap) (locs : List Loc), xs_s D y s.heap.size qx A p c k U V N H → va_P D vwCl (w5_s y A F R) H → rl_s p c k U V N F R → va_S (fun q : Nat => s.heap.size ≤ q) s.heap H locs → ∀ ls, lv_has ls 4 [(0, .ref b), (1, .ref qx), (2, .ref (A 0)), (3, .int x3)] → W p0 l e room_1 s m args below meth co H locs (100 + 6 * (t + 1)) (4000 + 220 * (t + 1)) Q0 (F0 m 1014 ls [])) {p : Nat → Bool} {c k : Nat} {U : Nat → Int32} {V : Nat → Nat → Int32} {N : Nat → ns_T} {F : Nat → Int32} {R : Nat → Nat → Int32} {H : Heap} {locs : List Loc} (hx : xs_s D y s.heap.size qx A p c k U V N H) (hM : va_P D vwCl (w5_s y A F R) H) (hrel : rl_s p c k U V N F R) (hS : va_S (fun q : Nat => s.heap.size ≤ q) s.heap H locs) {ls : Array Slot} (hl : lv_has ls 4 [(0, .ref b), (1, .ref qx), (2, .ref (A 0)), (3, .int x3)]) : W p0 l e room_1 s m args below meth co H locs (100 + 6 * t) (4000 + 220 * t) Q0 (F0 m 674 ls []) := by
  obtain ⟨P, ad, NB, hP1, hP2, rfl, hT⟩ := hx
  have hbA : ¬ (fun q : Nat => s.heap.size ≤ q) b := Nat.not_le.mpr hbl
  have hj1 : vp_in (x3 + (1 : Int32)) L := by rw [ex3, show nI i + (1 : Int32) = nI (i + 1) from nI_add i 1]; exact vp_in_nI (by omega) (by omega)
  obtain ⟨r, hx1, hm1⟩ := sim_availableCount hrel (xs (x3 + (1 : Int32)).toNatClampNeg)
  refine lv_aload_n (cx_x X) (cx_b X) dL_law_674 rfl (lv_at hl 1 rfl) ?_
  refine lv_aload_n (cx_x X) (cx_b X) dL_law_675 rfl (lv_at hl 0 rfl) ?_
  refine lv_iload_n (cx_x X) (cx_b X) dL_law_676 rfl (lv_at hl 3 rfl) ?_
  refine lv_iconst (v := (1 : Int32)) (cx_x X) (cx_b X) dL_law_677 (by decide) ?_
  refine lv_iadd (cx_x X) (cx_b X) dL_law_678 ?_
  refine va_sld (cx_x X) (cx_b X) hX hbl hbA hS hj1 dL_law_679 ?_
  refine af_R (rn_V (As := [.int (xs (x3 + (1 : Int32)).toNatClampNeg)]) (rest := []) X (c_X4_availableCount l D y (ad 9 0) (ad 9 1) (ad 9 3) (ad 10 0) (ad 0) (NB 0) (N 0).1 (N 0).2.1 (N 0).2.2.1 (N 0).2.2.2 (xs (x3 + (1 : Int32)).toNatClampNeg) r hx1) vq_L_89 ⟨rfl, rfl⟩ ⟨Nat.le_of_ble_eq_true rfl, Nat.le_of_ble_eq_true rfl⟩ (rec_4 X (tp_w hT)) ⟨tp_w hT, tp_n hT pz_0, tp_l hT pz_0⟩ rfl hl.1 rfl (Nat.le_of_ble_eq_true rfl) dL_law_680 ⟨by show 100 + 6 * t ≤ 600000; omega, by show 4000 + 220 * t ≤ 7302250; omega⟩) ?_
  refine lv_aload_n (cx_x X) (cx_b X) dL_law_683 rfl (lv_at hl 2 rfl) ?_
  refine lv_aload_n (cx_x X) (cx_b X) dL_law_684 rfl (lv_at hl 0 rfl) ?_
  refine lv_iload_n (cx_x X) (cx_b X) dL_law_685 rfl (lv_at hl 3 rfl) ?_
  refine lv_iconst (v := (1 : Int32)) (cx_x X) (cx_b X) dL_law_686 (by decide) ?_
  refine lv_iadd (cx_x X) (cx_b X) dL_law_687 ?_
  refine va_sld (cx_x X) (cx_b X) hX hbl hbA hS hj1 dL_law_688 ?_
  refine af_R (rn_V (As := [.int (xs (x3 + (1 : Int32)).toNatClampNeg)]) (rest := [.int r]) X (c_X5_availableCount l D y A F R (xs (x3 + (1 : Int32)).toNatClampNeg) r hm1) vq_L_92 ⟨rfl, rfl⟩ ⟨Nat.le_of_ble_eq_true rfl, Nat.le_of_ble_eq_true rfl⟩ (rec_5 X hM) hM rfl hl.1 rfl (Nat.le_of_ble_eq_true rfl) dL_law_689 ⟨by show 100 + 6 * t ≤ 600000; omega, by show 4000 + 220 * t ≤ 7302250; omega⟩) ?_
  refine lv_icmp_eq (tgt := 1014) (cx_x X) (cx_b X) dL_law_692 (by decide) (fun _ => ?_) (fun hc => absurd rfl hc)
  refine W.widen (k := 100 + 6 * (t + 1)) (n := 4000 + 220 * (t + 1)) (by omega) (by omega) ?_
  exact K _ _ _ _ _ _ _ _ _ _ ⟨P, ad, NB, hP1, hP2, rfl, hT⟩ hM hrel hS _ hl
set_option maxHeartbeats 4000000 in
set_option maxRecDepth 100000 in
theorem lc_19 {p0 : Program} {l : Launch} {e : Env} {s : State} {m : MethodId} {args : Array Value} {below : List Frame} {meth : Method} {co : Code} {D : va_G} {y : Nat → ClassId} {b L : Nat} {xs : Nat → Int32} {rt : Option FieldType} {Q0 : State → Prop} {A : Nat → Nat} {qx t i : Nat} {x3 : Int32} (X : cx p0 s m args meth co cL_law 4 rt RL D y) (hX : va_X b L xs s s.heap) (hbl : b < s.heap.size) (hI : aj_s 7 A) (hAs : ∀ j, j < 7 → s.heap.size ≤ A j) (ht : t < 512) (ex3 : x3 = nI i) (hi : i + 5 ≤ L) (hL : L ≤ 2560) (K : ∀ (p : Nat → Bool) (c k : Nat) (U : Nat → Int32) (V : Nat → Nat → Int32) (N : Nat → ns_T) (F : Nat → Int32) (R : Nat → Nat → Int32) (H : Heap) (locs : List Loc), xs_s D y s.heap.size qx A p c k U V N H → va_P D vwCl (w5_s y A F R) H → rl_s p c k U V N F R → va_S (fun q : Nat => s.heap.size ≤ q) s.heap H locs → ∀ ls, lv_has ls 4 [(0, .ref b), (1, .ref qx), (2, .ref (A 0)), (3, .int x3)] → W p0 l e room_1 s m args below meth co H locs (100 + 6 * (t + 1)) (4000 + 220 * (t + 1)) Q0 (F0 m 1014 ls [])) {p : Nat → Bool} {c k : Nat} {U : Nat → Int32} {V : Nat → Nat → Int32} {N : Nat → ns_T} {F : Nat → Int32} {R : Nat → Nat → Int32} {H : Heap} {locs : List Loc} (hx : xs_s D y s.heap.size qx A p c k U V N H) (hM : va_P D vwCl (w5_s y A F R) H) (hrel : rl_s p c k U V N F R) (hS : va_S (fun q : Nat => s.heap.size ≤ q) s.heap H locs) {ls : Array Slot} (hl : lv_has ls 4 [(0, .ref b), (1, .ref qx), (2, .ref (A 0)), (3, .int x3)]) : W p0 l e room_1 s m args below meth co H locs (100 + 6 * t) (4000 + 220 * t) Q0 (F0 m 697 ls []) := by
  obtain ⟨P, ad, NB, hP1, hP2, rfl, hT⟩ := hx
  have hbA : ¬ (fun q : Nat => s.heap.size ≤ q) b := Nat.not_le.mpr hbl
  have hj1 : vp_in (x3 + (1 : Int32)) L := by rw [ex3, show nI i + (1 : Int32) = nI (i + 1) from nI_add i 1]; exact vp_in_nI (by omega) (by omega)
  obtain ⟨r, hx1, hm1⟩ := sim_usedCount hrel (xs (x3 + (1 : Int32)).toNatClampNeg)
  refine lv_aload_n (cx_x X) (cx_b X) dL_law_697 rfl (lv_at hl 1 rfl) ?_
  refine lv_aload_n (cx_x X) (cx_b X) dL_law_698 rfl (lv_at hl 0 rfl) ?_
  refine lv_iload_n (cx_x X) (cx_b X) dL_law_699 rfl (lv_at hl 3 rfl) ?_
  refine lv_iconst (v := (1 : Int32)) (cx_x X) (cx_b X) dL_law_700 (by decide) ?_
  refine lv_iadd (cx_x X) (cx_b X) dL_law_701 ?_
  refine va_sld (cx_x X) (cx_b X) hX hbl hbA hS hj1 dL_law_702 ?_
  refine af_R (rn_V (As := [.int (xs (x3 + (1 : Int32)).toNatClampNeg)]) (rest := []) X (c_X4_usedCount l D y (ad 9 0) (ad 9 1) (ad 9 3) (ad 10 0) (ad 0) (NB 0) (N 0).1 (N 0).2.1 (N 0).2.2.1 (N 0).2.2.2 (xs (x3 + (1 : Int32)).toNatClampNeg) r hx1) vq_L_93 ⟨rfl, rfl⟩ ⟨Nat.le_of_ble_eq_true rfl, Nat.le_of_ble_eq_true rfl⟩ (rec_4 X (tp_w hT)) ⟨tp_w hT, tp_n hT pz_0, tp_l hT pz_0⟩ rfl hl.1 rfl (Nat.le_of_ble_eq_true rfl) dL_law_703 ⟨by show 100 + 6 * t ≤ 600000; omega, by show 4000 + 220 * t ≤ 7302250; omega⟩) ?_
  refine lv_aload_n (cx_x X) (cx_b X) dL_law_706 rfl (lv_at hl 2 rfl) ?_
  refine lv_aload_n (cx_x X) (cx_b X) dL_law_707 rfl (lv_at hl 0 rfl) ?_
  refine lv_iload_n (cx_x X) (cx_b X) dL_law_708 rfl (lv_at hl 3 rfl) ?_
  refine lv_iconst (v := (1 : Int32)) (cx_x X) (cx_b X) dL_law_709 (by decide) ?_
  refine lv_iadd (cx_x X) (cx_b X) dL_law_710 ?_
  refine va_sld (cx_x X) (cx_b X) hX hbl hbA hS hj1 dL_law_711 ?_
  refine af_R (rn_V (As := [.int (xs (x3 + (1 : Int32)).toNatClampNeg)]) (rest := [.int r]) X (c_X5_usedCount l D y A F R (xs (x3 + (1 : Int32)).toNatClampNeg) r hm1) vq_L_96 ⟨rfl, rfl⟩ ⟨Nat.le_of_ble_eq_true rfl, Nat.le_of_ble_eq_true rfl⟩ (rec_5 X hM) hM rfl hl.1 rfl (Nat.le_of_ble_eq_true rfl) dL_law_712 ⟨by show 100 + 6 * t ≤ 600000; omega, by show 4000 + 220 * t ≤ 7302250; omega⟩) ?_
  refine lv_icmp_eq (tgt := 1014) (cx_x X) (cx_b X) dL_law_715 (by decide) (fun _ => ?_) (fun hc => absurd rfl hc)
  refine W.widen (k := 100 + 6 * (t + 1)) (n := 4000 + 220 * (t + 1)) (by omega) (by omega) ?_
  exact K _ _ _ _ _ _ _ _ _ _ ⟨P, ad, NB, hP1, hP2, rfl, hT⟩ hM hrel hS _ hl
set_option maxHeartbeats 4000000 in
set_option maxRecDepth 100000 in
theorem lc_20 {p0 : Program} {l : Launch} {e : Env} {s : State} {m : MethodId} {args : Array Value} {below : List Frame} {meth : Method} {co : Code} {D : va_G} {y : Nat → ClassId} {b L : Nat} {xs : Nat → Int32} {rt : Option FieldType} {Q0 : State → Prop} {A : Nat → Nat} {qx t i : Nat} {x3 : Int32} (X : cx p0 s m args meth co cL_law 4 rt RL D y) (hX : va_X b L xs s s.heap) (hbl : b < s.heap.size) (hI : aj_s 7 A) (hAs : ∀ j, j < 7 → s.heap.size ≤ A j) (ht : t < 512) (ex3 : x3 = nI i) (hi : i + 5 ≤ L) (hL : L ≤ 2560) (K : ∀ (p : Nat → Bool) (c k : Nat) (U : Nat → Int32) (V : Nat → Nat → Int32) (N : Nat → ns_T) (F : Nat → Int32) (R : Nat → Nat → Int32) (H : Heap) (locs : List Loc), xs_s D y s.heap.size qx A p c k U V N H → va_P D vwCl (w5_s y A F R) H → rl_s p c k U V N F R → va_S (fun q : Nat => s.heap.size ≤ q) s.heap H locs → ∀ ls, lv_has ls 4 [(0, .ref b), (1, .ref qx), (2, .ref (A 0)), (3, .int x3)] → W p0 l e room_1 s m args below meth co H locs (100 + 6 * (t + 1)) (4000 + 220 * (t + 1)) Q0 (F0 m 1014 ls [])) {p : Nat → Bool} {c k : Nat} {U : Nat → Int32} {V : Nat → Nat → Int32} {N : Nat → ns_T} {F : Nat → Int32} {R : Nat → Nat → Int32} {H : Heap} {locs : List Loc} (hx : xs_s D y s.heap.size qx A p c k U V N H) (hM : va_P D vwCl (w5_s y A F R) H) (hrel : rl_s p c k U V N F R) (hS : va_S (fun q : Nat => s.heap.size ≤ q) s.heap H locs) {ls : Array Slot} (hl : lv_has ls 4 [(0, .ref b), (1, .ref qx), (2, .ref (A 0)), (3, .int x3)]) : W p0 l e room_1 s m args below meth co H locs (100 + 6 * t) (4000 + 220 * t) Q0 (F0 m 720 ls []) := by
  obtain ⟨P, ad, NB, hP1, hP2, rfl, hT⟩ := hx
  have hbA : ¬ (fun q : Nat => s.heap.size ≤ q) b := Nat.not_le.mpr hbl
  have hj1 : vp_in (x3 + (1 : Int32)) L := by rw [ex3, show nI i + (1 : Int32) = nI (i + 1) from nI_add i 1]; exact vp_in_nI (by omega) (by omega)
  obtain ⟨r, hx1, hm1⟩ := sim_lockedCount hrel (xs (x3 + (1 : Int32)).toNatClampNeg)
  refine lv_aload_n (cx_x X) (cx_b X) dL_law_720 rfl (lv_at hl 1 rfl) ?_
  refine lv_aload_n (cx_x X) (cx_b X) dL_law_721 rfl (lv_at hl 0 rfl) ?_
  refine lv_iload_n (cx_x X) (cx_b X) dL_law_722 rfl (lv_at hl 3 rfl) ?_
  refine lv_iconst (v := (1 : Int32)) (cx_x X) (cx_b X) dL_law_723 (by decide) ?_
  refine lv_iadd (cx_x X) (cx_b X) dL_law_724 ?_
  refine va_sld (cx_x X) (cx_b X) hX hbl hbA hS hj1 dL_law_725 ?_
  refine af_R (rn_V (As := [.int (xs (x3 + (1 : Int32)).toNatClampNeg)]) (rest := []) X (c_X4_lockedCount l D y (ad 9 0) (ad 9 1) (ad 9 3) (ad 10 0) (ad 0) (NB 0) (N 0).1 (N 0).2.1 (N 0).2.2.1 (N 0).2.2.2 (xs (x3 + (1 : Int32)).toNatClampNeg) r hx1) vq_L_97 ⟨rfl, rfl⟩ ⟨Nat.le_of_ble_eq_true rfl, Nat.le_of_ble_eq_true rfl⟩ (rec_4 X (tp_w hT)) ⟨tp_w hT, tp_n hT pz_0, tp_l hT pz_0⟩ rfl hl.1 rfl (Nat.le_of_ble_eq_true rfl) dL_law_726 ⟨by show 100 + 6 * t ≤ 600000; omega, by show 4000 + 220 * t ≤ 7302250; omega⟩) ?_
  refine lv_aload_n (cx_x X) (cx_b X) dL_law_729 rfl (lv_at hl 2 rfl) ?_
  refine lv_aload_n (cx_x X) (cx_b X) dL_law_730 rfl (lv_at hl 0 rfl) ?_
  refine lv_iload_n (cx_x X) (cx_b X) dL_law_731 rfl (lv_at hl 3 rfl) ?_
  refine lv_iconst (v := (1 : Int32)) (cx_x X) (cx_b X) dL_law_732 (by decide) ?_
  refine lv_iadd (cx_x X) (cx_b X) dL_law_733 ?_
  refine va_sld (cx_x X) (cx_b X) hX hbl hbA hS hj1 dL_law_734 ?_
  refine af_R (rn_V (As := [.int (xs (x3 + (1 : Int32)).toNatClampNeg)]) (rest := [.int r]) X (c_X5_lockedCount l D y A F R (xs (x3 + (1 : Int32)).toNatClampNeg) r hm1) vq_L_100 ⟨rfl, rfl⟩ ⟨Nat.le_of_ble_eq_true rfl, Nat.le_of_ble_eq_true rfl⟩ (rec_5 X hM) hM rfl hl.1 rfl (Nat.le_of_ble_eq_true rfl) dL_law_735 ⟨by show 100 + 6 * t ≤ 600000; omega, by show 4000 + 220 * t ≤ 7302250; omega⟩) ?_
  refine lv_icmp_eq (tgt := 1014) (cx_x X) (cx_b X) dL_law_738 (by decide) (fun _ => ?_) (fun hc => absurd rfl hc)
  refine W.widen (k := 100 + 6 * (t + 1)) (n := 4000 + 220 * (t + 1)) (by omega) (by omega) ?_
  exact K _ _ _ _ _ _ _ _ _ _ ⟨P, ad, NB, hP1, hP2, rfl, hT⟩ hM hrel hS _ hl
set_option maxHeartbeats 4000000 in
set_option maxRecDepth 100000 in
theorem lc_21 {p0 : Program} {l : Launch} {e : Env} {s : State} {m : MethodId} {args : Array Value} {below : List Frame} {meth : Method} {co : Code} {D : va_G} {y : Nat → ClassId} {b L : Nat} {xs : Nat → Int32} {rt : Option FieldType} {Q0 : State → Prop} {A : Nat → Nat} {qx t i : Nat} {x3 : Int32} (X : cx p0 s m args meth co cL_law 4 rt RL D y) (hX : va_X b L xs s s.heap) (hbl : b < s.heap.size) (hI : aj_s 7 A) (hAs : ∀ j, j < 7 → s.heap.size ≤ A j) (ht : t < 512) (ex3 : x3 = nI i) (hi : i + 5 ≤ L) (hL : L ≤ 2560) (K : ∀ (p : Nat → Bool) (c k : Nat) (U : Nat → Int32) (V : Nat → Nat → Int32) (N : Nat → ns_T) (F : Nat → Int32) (R : Nat → Nat → Int32) (H : Heap) (locs : List Loc), xs_s D y s.heap.size qx A p c k U V N H → va_P D vwCl (w5_s y A F R) H → rl_s p c k U V N F R → va_S (fun q : Nat => s.heap.size ≤ q) s.heap H locs → ∀ ls, lv_has ls 4 [(0, .ref b), (1, .ref qx), (2, .ref (A 0)), (3, .int x3)] → W p0 l e room_1 s m args below meth co H locs (100 + 6 * (t + 1)) (4000 + 220 * (t + 1)) Q0 (F0 m 1014 ls [])) {p : Nat → Bool} {c k : Nat} {U : Nat → Int32} {V : Nat → Nat → Int32} {N : Nat → ns_T} {F : Nat → Int32} {R : Nat → Nat → Int32} {H : Heap} {locs : List Loc} (hx : xs_s D y s.heap.size qx A p c k U V N H) (hM : va_P D vwCl (w5_s y A F R) H) (hrel : rl_s p c k U V N F R) (hS : va_S (fun q : Nat => s.heap.size ≤ q) s.heap H locs) {ls : Array Slot} (hl : lv_has ls 4 [(0, .ref b), (1, .ref qx), (2, .ref (A 0)), (3, .int x3)]) : W p0 l e room_1 s m args below meth co H locs (100 + 6 * t) (4000 + 220 * t) Q0 (F0 m 743 ls []) := by
  obtain ⟨P, ad, NB, hP1, hP2, rfl, hT⟩ := hx
  have hbA : ¬ (fun q : Nat => s.heap.size ≤ q) b := Nat.not_le.mpr hbl
  have hj1 : vp_in (x3 + (1 : Int32)) L := by rw [ex3, show nI i + (1 : Int32) = nI (i + 1) from nI_add i 1]; exact vp_in_nI (by omega) (by omega)
  obtain ⟨r, F1, R1, hx1, hm1, hrel⟩ := sim_nextChannel hrel (xs (x3 + (1 : Int32)).toNatClampNeg)
  refine lv_aload_n (cx_x X) (cx_b X) dL_law_743 rfl (lv_at hl 1 rfl) ?_
  refine lv_aload_n (cx_x X) (cx_b X) dL_law_744 rfl (lv_at hl 0 rfl) ?_
  refine lv_iload_n (cx_x X) (cx_b X) dL_law_745 rfl (lv_at hl 3 rfl) ?_
  refine lv_iconst (v := (1 : Int32)) (cx_x X) (cx_b X) dL_law_746 (by decide) ?_
  refine lv_iadd (cx_x X) (cx_b X) dL_law_747 ?_
  refine va_sld (cx_x X) (cx_b X) hX hbl hbA hS hj1 dL_law_748 ?_
  refine af_R (rn_V (As := [.int (xs (x3 + (1 : Int32)).toNatClampNeg)]) (rest := []) X (c_X4_nextChannel l D y (ad 9 0) (ad 9 1) (ad 9 3) (ad 10 0) (ad 0) (NB 0) (N 0).1 (N 0).2.1 (N 0).2.2.1 (N 0).2.2.2 (xs (x3 + (1 : Int32)).toNatClampNeg) r hx1) vq_L_101 ⟨rfl, rfl⟩ ⟨Nat.le_of_ble_eq_true rfl, Nat.le_of_ble_eq_true rfl⟩ (rec_4 X (tp_w hT)) ⟨tp_w hT, tp_n hT pz_0, tp_l hT pz_0⟩ rfl hl.1 rfl (Nat.le_of_ble_eq_true rfl) dL_law_749 ⟨by show 100 + 6 * t + 0 ≤ 600000; omega, by show 4000 + 220 * t + 0 ≤ 7302250; omega⟩) ?_
  refine lv_aload_n (cx_x X) (cx_b X) dL_law_752 rfl (lv_at hl 2 rfl) ?_
  refine lv_aload_n (cx_x X) (cx_b X) dL_law_753 rfl (lv_at hl 0 rfl) ?_
  refine lv_iload_n (cx_x X) (cx_b X) dL_law_754 rfl (lv_at hl 3 rfl) ?_
  refine lv_iconst (v := (1 : Int32)) (cx_x X) (cx_b X) dL_law_755 (by decide) ?_
  refine lv_iadd (cx_x X) (cx_b X) dL_law_756 ?_
  refine va_sld (cx_x X) (cx_b X) hX hbl hbA hS hj1 dL_law_757 ?_
  refine af_W (mc := 0) (ms := 0) (rn_V (As := [.int (xs (x3 + (1 : Int32)).toNatClampNeg)]) (rest := [.int r]) X (c_X5_nextChannel l D y A F R (xs (x3 + (1 : Int32)).toNatClampNeg) r F1 R1 _ hI hm1) vq_L_104 ⟨rfl, rfl⟩ ⟨Nat.le_of_ble_eq_true rfl, Nat.le_of_ble_eq_true rfl⟩ (rec_5 X hM) ⟨rfl, hM⟩ rfl hl.1 rfl (Nat.le_of_ble_eq_true rfl) dL_law_758 ⟨by show 100 + 6 * t + 0 ≤ 600000; omega, by show 4000 + 220 * t + 0 ≤ 7302250; omega⟩) hS (in_A hAs hS.1) (fun H2 locs2 hM2 hz2 hk2 hS => ?_)
  refine lv_icmp_eq (tgt := 1014) (cx_x X) (cx_b X) dL_law_761 (by decide) (fun _ => ?_) (fun hc => absurd rfl hc)
  refine W.widen (k := 100 + 6 * (t + 1)) (n := 4000 + 220 * (t + 1)) (by omega) (by omega) ?_
  exact K _ _ _ _ _ _ _ _ _ _ ⟨P, ad, NB, hP1, hP2, rfl, tp_f2 hT hP2 hk2⟩ hM2 hrel hS _ hl
set_option maxHeartbeats 4000000 in
set_option maxRecDepth 100000 in
theorem lc_22 {p0 : Program} {l : Launch} {e : Env} {s : State} {m : MethodId} {args : Array Value} {below : List Frame} {meth : Method} {co : Code} {D : va_G} {y : Nat → ClassId} {b L : Nat} {xs : Nat → Int32} {rt : Option FieldType} {Q0 : State → Prop} {A : Nat → Nat} {qx t i : Nat} {x3 : Int32} (X : cx p0 s m args meth co cL_law 4 rt RL D y) (hX : va_X b L xs s s.heap) (hbl : b < s.heap.size) (hI : aj_s 7 A) (hAs : ∀ j, j < 7 → s.heap.size ≤ A j) (ht : t < 512) (ex3 : x3 = nI i) (hi : i + 5 ≤ L) (hL : L ≤ 2560) (K : ∀ (p : Nat → Bool) (c k : Nat) (U : Nat → Int32) (V : Nat → Nat → Int32) (N : Nat → ns_T) (F : Nat → Int32) (R : Nat → Nat → Int32) (H : Heap) (locs : List Loc), xs_s D y s.heap.size qx A p c k U V N H → va_P D vwCl (w5_s y A F R) H → rl_s p c k U V N F R → va_S (fun q : Nat => s.heap.size ≤ q) s.heap H locs → ∀ ls, lv_has ls 4 [(0, .ref b), (1, .ref qx), (2, .ref (A 0)), (3, .int x3)] → W p0 l e room_1 s m args below meth co H locs (100 + 6 * (t + 1)) (4000 + 220 * (t + 1)) Q0 (F0 m 1014 ls [])) {p : Nat → Bool} {c k : Nat} {U : Nat → Int32} {V : Nat → Nat → Int32} {N : Nat → ns_T} {F : Nat → Int32} {R : Nat → Nat → Int32} {H : Heap} {locs : List Loc} (hx : xs_s D y s.heap.size qx A p c k U V N H) (hM : va_P D vwCl (w5_s y A F R) H) (hrel : rl_s p c k U V N F R) (hS : va_S (fun q : Nat => s.heap.size ≤ q) s.heap H locs) {ls : Array Slot} (hl : lv_has ls 4 [(0, .ref b), (1, .ref qx), (2, .ref (A 0)), (3, .int x3)]) : W p0 l e room_1 s m args below meth co H locs (100 + 6 * t) (4000 + 220 * t) Q0 (F0 m 766 ls []) := by
  obtain ⟨P, ad, NB, hP1, hP2, rfl, hT⟩ := hx
  have hbA : ¬ (fun q : Nat => s.heap.size ≤ q) b := Nat.not_le.mpr hbl
  have hj1 : vp_in (x3 + (1 : Int32)) L := by rw [ex3, show nI i + (1 : Int32) = nI (i + 1) from nI_add i 1]; exact vp_in_nI (by omega) (by omega)
  obtain ⟨r, F1, R1, hx1, hm1, hrel⟩ := sim_nextDonor hrel (xs (x3 + (1 : Int32)).toNatClampNeg)
  refine lv_aload_n (cx_x X) (cx_b X) dL_law_766 rfl (lv_at hl 1 rfl) ?_
  refine lv_aload_n (cx_x X) (cx_b X) dL_law_767 rfl (lv_at hl 0 rfl) ?_
  refine lv_iload_n (cx_x X) (cx_b X) dL_law_768 rfl (lv_at hl 3 rfl) ?_
  refine lv_iconst (v := (1 : Int32)) (cx_x X) (cx_b X) dL_law_769 (by decide) ?_
  refine lv_iadd (cx_x X) (cx_b X) dL_law_770 ?_
  refine va_sld (cx_x X) (cx_b X) hX hbl hbA hS hj1 dL_law_771 ?_
  refine af_R (rn_V (As := [.int (xs (x3 + (1 : Int32)).toNatClampNeg)]) (rest := []) X (c_X4_nextDonor l D y (ad 9 0) (ad 9 1) (ad 9 3) (ad 10 0) (ad 0) (NB 0) (N 0).1 (N 0).2.1 (N 0).2.2.1 (N 0).2.2.2 (xs (x3 + (1 : Int32)).toNatClampNeg) r hx1) vq_L_105 ⟨rfl, rfl⟩ ⟨Nat.le_of_ble_eq_true rfl, Nat.le_of_ble_eq_true rfl⟩ (rec_4 X (tp_w hT)) ⟨tp_w hT, tp_n hT pz_0, tp_l hT pz_0⟩ rfl hl.1 rfl (Nat.le_of_ble_eq_true rfl) dL_law_772 ⟨by show 100 + 6 * t + 0 ≤ 600000; omega, by show 4000 + 220 * t + 0 ≤ 7302250; omega⟩) ?_
  refine lv_aload_n (cx_x X) (cx_b X) dL_law_775 rfl (lv_at hl 2 rfl) ?_
  refine lv_aload_n (cx_x X) (cx_b X) dL_law_776 rfl (lv_at hl 0 rfl) ?_
  refine lv_iload_n (cx_x X) (cx_b X) dL_law_777 rfl (lv_at hl 3 rfl) ?_
  refine lv_iconst (v := (1 : Int32)) (cx_x X) (cx_b X) dL_law_778 (by decide) ?_
  refine lv_iadd (cx_x X) (cx_b X) dL_law_779 ?_
  refine va_sld (cx_x X) (cx_b X) hX hbl hbA hS hj1 dL_law_780 ?_
  refine af_W (mc := 0) (ms := 0) (rn_V (As := [.int (xs (x3 + (1 : Int32)).toNatClampNeg)]) (rest := [.int r]) X (c_X5_nextDonor l D y A F R (xs (x3 + (1 : Int32)).toNatClampNeg) r F1 R1 _ hI hm1) vq_L_108 ⟨rfl, rfl⟩ ⟨Nat.le_of_ble_eq_true rfl, Nat.le_of_ble_eq_true rfl⟩ (rec_5 X hM) ⟨rfl, hM⟩ rfl hl.1 rfl (Nat.le_of_ble_eq_true rfl) dL_law_781 ⟨by show 100 + 6 * t + 0 ≤ 600000; omega, by show 4000 + 220 * t + 0 ≤ 7302250; omega⟩) hS (in_A hAs hS.1) (fun H2 locs2 hM2 hz2 hk2 hS => ?_)
  refine lv_icmp_eq (tgt := 1014) (cx_x X) (cx_b X) dL_law_784 (by decide) (fun _ => ?_) (fun hc => absurd rfl hc)
  refine W.widen (k := 100 + 6 * (t + 1)) (n := 4000 + 220 * (t + 1)) (by omega) (by omega) ?_
  exact K _ _ _ _ _ _ _ _ _ _ ⟨P, ad, NB, hP1, hP2, rfl, tp_f2 hT hP2 hk2⟩ hM2 hrel hS _ hl
set_option maxHeartbeats 4000000 in
set_option maxRecDepth 100000 in
theorem lc_23 {p0 : Program} {l : Launch} {e : Env} {s : State} {m : MethodId} {args : Array Value} {below : List Frame} {meth : Method} {co : Code} {D : va_G} {y : Nat → ClassId} {b L : Nat} {xs : Nat → Int32} {rt : Option FieldType} {Q0 : State → Prop} {A : Nat → Nat} {qx t i : Nat} {x3 : Int32} (X : cx p0 s m args meth co cL_law 4 rt RL D y) (hX : va_X b L xs s s.heap) (hbl : b < s.heap.size) (hI : aj_s 7 A) (hAs : ∀ j, j < 7 → s.heap.size ≤ A j) (ht : t < 512) (ex3 : x3 = nI i) (hi : i + 5 ≤ L) (hL : L ≤ 2560) (K : ∀ (p : Nat → Bool) (c k : Nat) (U : Nat → Int32) (V : Nat → Nat → Int32) (N : Nat → ns_T) (F : Nat → Int32) (R : Nat → Nat → Int32) (H : Heap) (locs : List Loc), xs_s D y s.heap.size qx A p c k U V N H → va_P D vwCl (w5_s y A F R) H → rl_s p c k U V N F R → va_S (fun q : Nat => s.heap.size ≤ q) s.heap H locs → ∀ ls, lv_has ls 4 [(0, .ref b), (1, .ref qx), (2, .ref (A 0)), (3, .int x3)] → W p0 l e room_1 s m args below meth co H locs (100 + 6 * (t + 1)) (4000 + 220 * (t + 1)) Q0 (F0 m 1014 ls [])) {p : Nat → Bool} {c k : Nat} {U : Nat → Int32} {V : Nat → Nat → Int32} {N : Nat → ns_T} {F : Nat → Int32} {R : Nat → Nat → Int32} {H : Heap} {locs : List Loc} (hx : xs_s D y s.heap.size qx A p c k U V N H) (hM : va_P D vwCl (w5_s y A F R) H) (hrel : rl_s p c k U V N F R) (hS : va_S (fun q : Nat => s.heap.size ≤ q) s.heap H locs) {ls : Array Slot} (hl : lv_has ls 4 [(0, .ref b), (1, .ref qx), (2, .ref (A 0)), (3, .int x3)]) : W p0 l e room_1 s m args below meth co H locs (100 + 6 * t) (4000 + 220 * t) Q0 (F0 m 789 ls []) := by
  obtain ⟨P, ad, NB, hP1, hP2, rfl, hT⟩ := hx
  have hbA : ¬ (fun q : Nat => s.heap.size ≤ q) b := Nat.not_le.mpr hbl
  obtain ⟨r, F1, R1, hx1, hm1, hrel⟩ := sim_blockingCells hrel
  refine lv_aload_n (cx_x X) (cx_b X) dL_law_789 rfl (lv_at hl 1 rfl) ?_
  refine af_R (rn_V (As := []) (rest := []) X (c_X4_blockingCells l D y (ad 9 0) (ad 9 1) (ad 9 3) (ad 10 0) (ad 0) (NB 0) (N 0).1 (N 0).2.1 (N 0).2.2.1 (N 0).2.2.2  r hx1) vq_L_109 ⟨rfl, rfl⟩ ⟨Nat.le_of_ble_eq_true rfl, Nat.le_of_ble_eq_true rfl⟩ (rec_4 X (tp_w hT)) ⟨tp_w hT, tp_n hT pz_0, tp_l hT pz_0⟩ rfl hl.1 rfl (Nat.le_of_ble_eq_true rfl) dL_law_790 ⟨by show 100 + 6 * t + 0 ≤ 600000; omega, by show 4000 + 220 * t + 0 ≤ 7302250; omega⟩) ?_
  refine lv_aload_n (cx_x X) (cx_b X) dL_law_793 rfl (lv_at hl 2 rfl) ?_
  refine af_W (mc := 0) (ms := 0) (rn_V (As := []) (rest := [.int r]) X (c_X5_blockingCells l D y A F R  r F1 R1 _ hI hm1) vq_L_112 ⟨rfl, rfl⟩ ⟨Nat.le_of_ble_eq_true rfl, Nat.le_of_ble_eq_true rfl⟩ (rec_5 X hM) ⟨rfl, hM⟩ rfl hl.1 rfl (Nat.le_of_ble_eq_true rfl) dL_law_794 ⟨by show 100 + 6 * t + 0 ≤ 600000; omega, by show 4000 + 220 * t + 0 ≤ 7302250; omega⟩) hS (in_A hAs hS.1) (fun H2 locs2 hM2 hz2 hk2 hS => ?_)
  refine lv_icmp_eq (tgt := 1014) (cx_x X) (cx_b X) dL_law_797 (by decide) (fun _ => ?_) (fun hc => absurd rfl hc)
  refine W.widen (k := 100 + 6 * (t + 1)) (n := 4000 + 220 * (t + 1)) (by omega) (by omega) ?_
  exact K _ _ _ _ _ _ _ _ _ _ ⟨P, ad, NB, hP1, hP2, rfl, tp_f2 hT hP2 hk2⟩ hM2 hrel hS _ hl
set_option maxHeartbeats 4000000 in
set_option maxRecDepth 100000 in
theorem lc_24 {p0 : Program} {l : Launch} {e : Env} {s : State} {m : MethodId} {args : Array Value} {below : List Frame} {meth : Method} {co : Code} {D : va_G} {y : Nat → ClassId} {b L : Nat} {xs : Nat → Int32} {rt : Option FieldType} {Q0 : State → Prop} {A : Nat → Nat} {qx t i : Nat} {x3 : Int32} (X : cx p0 s m args meth co cL_law 4 rt RL D y) (hX : va_X b L xs s s.heap) (hbl : b < s.heap.size) (hI : aj_s 7 A) (hAs : ∀ j, j < 7 → s.heap.size ≤ A j) (ht : t < 512) (ex3 : x3 = nI i) (hi : i + 5 ≤ L) (hL : L ≤ 2560) (K : ∀ (p : Nat → Bool) (c k : Nat) (U : Nat → Int32) (V : Nat → Nat → Int32) (N : Nat → ns_T) (F : Nat → Int32) (R : Nat → Nat → Int32) (H : Heap) (locs : List Loc), xs_s D y s.heap.size qx A p c k U V N H → va_P D vwCl (w5_s y A F R) H → rl_s p c k U V N F R → va_S (fun q : Nat => s.heap.size ≤ q) s.heap H locs → ∀ ls, lv_has ls 4 [(0, .ref b), (1, .ref qx), (2, .ref (A 0)), (3, .int x3)] → W p0 l e room_1 s m args below meth co H locs (100 + 6 * (t + 1)) (4000 + 220 * (t + 1)) Q0 (F0 m 1014 ls [])) {p : Nat → Bool} {c k : Nat} {U : Nat → Int32} {V : Nat → Nat → Int32} {N : Nat → ns_T} {F : Nat → Int32} {R : Nat → Nat → Int32} {H : Heap} {locs : List Loc} (hx : xs_s D y s.heap.size qx A p c k U V N H) (hM : va_P D vwCl (w5_s y A F R) H) (hrel : rl_s p c k U V N F R) (hS : va_S (fun q : Nat => s.heap.size ≤ q) s.heap H locs) {ls : Array Slot} (hl : lv_has ls 4 [(0, .ref b), (1, .ref qx), (2, .ref (A 0)), (3, .int x3)]) : W p0 l e room_1 s m args below meth co H locs (100 + 6 * t) (4000 + 220 * t) Q0 (F0 m 802 ls []) := by
  obtain ⟨P, ad, NB, hP1, hP2, rfl, hT⟩ := hx
  have hbA : ¬ (fun q : Nat => s.heap.size ≤ q) b := Nat.not_le.mpr hbl
  obtain ⟨r, hx1, hm1⟩ := sim_callCount hrel
  refine lv_aload_n (cx_x X) (cx_b X) dL_law_802 rfl (lv_at hl 1 rfl) ?_
  refine af_R (rn_V (As := []) (rest := []) X (c_X4_callCount l D y (ad 9 0) (ad 9 1) (ad 9 3) (ad 10 0) (ad 0) (NB 0) (N 0).1 (N 0).2.1 (N 0).2.2.1 (N 0).2.2.2  r hx1) vq_L_113 ⟨rfl, rfl⟩ ⟨Nat.le_of_ble_eq_true rfl, Nat.le_of_ble_eq_true rfl⟩ (rec_4 X (tp_w hT)) ⟨tp_w hT, tp_n hT pz_0, tp_l hT pz_0⟩ rfl hl.1 rfl (Nat.le_of_ble_eq_true rfl) dL_law_803 ⟨by show 100 + 6 * t ≤ 600000; omega, by show 4000 + 220 * t ≤ 7302250; omega⟩) ?_
  refine lv_aload_n (cx_x X) (cx_b X) dL_law_806 rfl (lv_at hl 2 rfl) ?_
  refine af_R (rn_V (As := []) (rest := [.int r]) X (c_X5_callCount l D y A F R  r hm1) vq_L_116 ⟨rfl, rfl⟩ ⟨Nat.le_of_ble_eq_true rfl, Nat.le_of_ble_eq_true rfl⟩ (rec_5 X hM) hM rfl hl.1 rfl (Nat.le_of_ble_eq_true rfl) dL_law_807 ⟨by show 100 + 6 * t ≤ 600000; omega, by show 4000 + 220 * t ≤ 7302250; omega⟩) ?_
  refine lv_icmp_eq (tgt := 1014) (cx_x X) (cx_b X) dL_law_810 (by decide) (fun _ => ?_) (fun hc => absurd rfl hc)
  refine W.widen (k := 100 + 6 * (t + 1)) (n := 4000 + 220 * (t + 1)) (by omega) (by omega) ?_
  exact K _ _ _ _ _ _ _ _ _ _ ⟨P, ad, NB, hP1, hP2, rfl, hT⟩ hM hrel hS _ hl
set_option maxHeartbeats 4000000 in
set_option maxRecDepth 100000 in
theorem lc_25 {p0 : Program} {l : Launch} {e : Env} {s : State} {m : MethodId} {args : Array Value} {below : List Frame} {meth : Method} {co : Code} {D : va_G} {y : Nat → ClassId} {b L : Nat} {xs : Nat → Int32} {rt : Option FieldType} {Q0 : State → Prop} {A : Nat → Nat} {qx t i : Nat} {x3 : Int32} (X : cx p0 s m args meth co cL_law 4 rt RL D y) (hX : va_X b L xs s s.heap) (hbl : b < s.heap.size) (hI : aj_s 7 A) (hAs : ∀ j, j < 7 → s.heap.size ≤ A j) (ht : t < 512) (ex3 : x3 = nI i) (hi : i + 5 ≤ L) (hL : L ≤ 2560) (K : ∀ (p : Nat → Bool) (c k : Nat) (U : Nat → Int32) (V : Nat → Nat → Int32) (N : Nat → ns_T) (F : Nat → Int32) (R : Nat → Nat → Int32) (H : Heap) (locs : List Loc), xs_s D y s.heap.size qx A p c k U V N H → va_P D vwCl (w5_s y A F R) H → rl_s p c k U V N F R → va_S (fun q : Nat => s.heap.size ≤ q) s.heap H locs → ∀ ls, lv_has ls 4 [(0, .ref b), (1, .ref qx), (2, .ref (A 0)), (3, .int x3)] → W p0 l e room_1 s m args below meth co H locs (100 + 6 * (t + 1)) (4000 + 220 * (t + 1)) Q0 (F0 m 1014 ls [])) {p : Nat → Bool} {c k : Nat} {U : Nat → Int32} {V : Nat → Nat → Int32} {N : Nat → ns_T} {F : Nat → Int32} {R : Nat → Nat → Int32} {H : Heap} {locs : List Loc} (hx : xs_s D y s.heap.size qx A p c k U V N H) (hM : va_P D vwCl (w5_s y A F R) H) (hrel : rl_s p c k U V N F R) (hS : va_S (fun q : Nat => s.heap.size ≤ q) s.heap H locs) {ls : Array Slot} (hl : lv_has ls 4 [(0, .ref b), (1, .ref qx), (2, .ref (A 0)), (3, .int x3)]) : W p0 l e room_1 s m args below meth co H locs (100 + 6 * t) (4000 + 220 * t) Q0 (F0 m 815 ls []) := by
  obtain ⟨P, ad, NB, hP1, hP2, rfl, hT⟩ := hx
  have hbA : ¬ (fun q : Nat => s.heap.size ≤ q) b := Nat.not_le.mpr hbl
  obtain ⟨r, hx1, hm1⟩ := sim_attempts hrel
  refine lv_aload_n (cx_x X) (cx_b X) dL_law_815 rfl (lv_at hl 1 rfl) ?_
  refine af_R (rn_V (As := []) (rest := []) X (c_X4_attempts l D y (ad 9 0) (ad 9 1) (ad 9 3) (ad 10 0) (ad 0) (NB 0) (N 0).1 (N 0).2.1 (N 0).2.2.1 (N 0).2.2.2  r hx1) vq_L_117 ⟨rfl, rfl⟩ ⟨Nat.le_of_ble_eq_true rfl, Nat.le_of_ble_eq_true rfl⟩ (rec_4 X (tp_w hT)) ⟨tp_w hT, tp_n hT pz_0, tp_l hT pz_0⟩ rfl hl.1 rfl (Nat.le_of_ble_eq_true rfl) dL_law_816 ⟨by show 100 + 6 * t ≤ 600000; omega, by show 4000 + 220 * t ≤ 7302250; omega⟩) ?_
  refine lv_aload_n (cx_x X) (cx_b X) dL_law_819 rfl (lv_at hl 2 rfl) ?_
  refine af_R (rn_V (As := []) (rest := [.int r]) X (c_X5_attempts l D y A F R  r hm1) vq_L_120 ⟨rfl, rfl⟩ ⟨Nat.le_of_ble_eq_true rfl, Nat.le_of_ble_eq_true rfl⟩ (rec_5 X hM) hM rfl hl.1 rfl (Nat.le_of_ble_eq_true rfl) dL_law_820 ⟨by show 100 + 6 * t ≤ 600000; omega, by show 4000 + 220 * t ≤ 7302250; omega⟩) ?_
  refine lv_icmp_eq (tgt := 1014) (cx_x X) (cx_b X) dL_law_823 (by decide) (fun _ => ?_) (fun hc => absurd rfl hc)
  refine W.widen (k := 100 + 6 * (t + 1)) (n := 4000 + 220 * (t + 1)) (by omega) (by omega) ?_
  exact K _ _ _ _ _ _ _ _ _ _ ⟨P, ad, NB, hP1, hP2, rfl, hT⟩ hM hrel hS _ hl
set_option maxHeartbeats 4000000 in
set_option maxRecDepth 100000 in
theorem lc_26 {p0 : Program} {l : Launch} {e : Env} {s : State} {m : MethodId} {args : Array Value} {below : List Frame} {meth : Method} {co : Code} {D : va_G} {y : Nat → ClassId} {b L : Nat} {xs : Nat → Int32} {rt : Option FieldType} {Q0 : State → Prop} {A : Nat → Nat} {qx t i : Nat} {x3 : Int32} (X : cx p0 s m args meth co cL_law 4 rt RL D y) (hX : va_X b L xs s s.heap) (hbl : b < s.heap.size) (hI : aj_s 7 A) (hAs : ∀ j, j < 7 → s.heap.size ≤ A j) (ht : t < 512) (ex3 : x3 = nI i) (hi : i + 5 ≤ L) (hL : L ≤ 2560) (K : ∀ (p : Nat → Bool) (c k : Nat) (U : Nat → Int32) (V : Nat → Nat → Int32) (N : Nat → ns_T) (F : Nat → Int32) (R : Nat → Nat → Int32) (H : Heap) (locs : List Loc), xs_s D y s.heap.size qx A p c k U V N H → va_P D vwCl (w5_s y A F R) H → rl_s p c k U V N F R → va_S (fun q : Nat => s.heap.size ≤ q) s.heap H locs → ∀ ls, lv_has ls 4 [(0, .ref b), (1, .ref qx), (2, .ref (A 0)), (3, .int x3)] → W p0 l e room_1 s m args below meth co H locs (100 + 6 * (t + 1)) (4000 + 220 * (t + 1)) Q0 (F0 m 1014 ls [])) {p : Nat → Bool} {c k : Nat} {U : Nat → Int32} {V : Nat → Nat → Int32} {N : Nat → ns_T} {F : Nat → Int32} {R : Nat → Nat → Int32} {H : Heap} {locs : List Loc} (hx : xs_s D y s.heap.size qx A p c k U V N H) (hM : va_P D vwCl (w5_s y A F R) H) (hrel : rl_s p c k U V N F R) (hS : va_S (fun q : Nat => s.heap.size ≤ q) s.heap H locs) {ls : Array Slot} (hl : lv_has ls 4 [(0, .ref b), (1, .ref qx), (2, .ref (A 0)), (3, .int x3)]) : W p0 l e room_1 s m args below meth co H locs (100 + 6 * t) (4000 + 220 * t) Q0 (F0 m 828 ls []) := by
  obtain ⟨P, ad, NB, hP1, hP2, rfl, hT⟩ := hx
  have hbA : ¬ (fun q : Nat => s.heap.size ≤ q) b := Nat.not_le.mpr hbl
  obtain ⟨r, hx1, hm1⟩ := sim_blocked hrel
  refine lv_aload_n (cx_x X) (cx_b X) dL_law_828 rfl (lv_at hl 1 rfl) ?_
  refine af_R (rn_V (As := []) (rest := []) X (c_X4_blocked l D y (ad 9 0) (ad 9 1) (ad 9 3) (ad 10 0) (ad 0) (NB 0) (N 0).1 (N 0).2.1 (N 0).2.2.1 (N 0).2.2.2  r hx1) vq_L_121 ⟨rfl, rfl⟩ ⟨Nat.le_of_ble_eq_true rfl, Nat.le_of_ble_eq_true rfl⟩ (rec_4 X (tp_w hT)) ⟨tp_w hT, tp_n hT pz_0, tp_l hT pz_0⟩ rfl hl.1 rfl (Nat.le_of_ble_eq_true rfl) dL_law_829 ⟨by show 100 + 6 * t ≤ 600000; omega, by show 4000 + 220 * t ≤ 7302250; omega⟩) ?_
  refine lv_aload_n (cx_x X) (cx_b X) dL_law_832 rfl (lv_at hl 2 rfl) ?_
  refine af_R (rn_V (As := []) (rest := [.int r]) X (c_X5_blocked l D y A F R  r hm1) vq_L_124 ⟨rfl, rfl⟩ ⟨Nat.le_of_ble_eq_true rfl, Nat.le_of_ble_eq_true rfl⟩ (rec_5 X hM) hM rfl hl.1 rfl (Nat.le_of_ble_eq_true rfl) dL_law_833 ⟨by show 100 + 6 * t ≤ 600000; omega, by show 4000 + 220 * t ≤ 7302250; omega⟩) ?_
  refine lv_icmp_eq (tgt := 1014) (cx_x X) (cx_b X) dL_law_836 (by decide) (fun _ => ?_) (fun hc => absurd rfl hc)
  refine W.widen (k := 100 + 6 * (t + 1)) (n := 4000 + 220 * (t + 1)) (by omega) (by omega) ?_
  exact K _ _ _ _ _ _ _ _ _ _ ⟨P, ad, NB, hP1, hP2, rfl, hT⟩ hM hrel hS _ hl
set_option maxHeartbeats 4000000 in
set_option maxRecDepth 100000 in
theorem lc_27 {p0 : Program} {l : Launch} {e : Env} {s : State} {m : MethodId} {args : Array Value} {below : List Frame} {meth : Method} {co : Code} {D : va_G} {y : Nat → ClassId} {b L : Nat} {xs : Nat → Int32} {rt : Option FieldType} {Q0 : State → Prop} {A : Nat → Nat} {qx t i : Nat} {x3 : Int32} (X : cx p0 s m args meth co cL_law 4 rt RL D y) (hX : va_X b L xs s s.heap) (hbl : b < s.heap.size) (hI : aj_s 7 A) (hAs : ∀ j, j < 7 → s.heap.size ≤ A j) (ht : t < 512) (ex3 : x3 = nI i) (hi : i + 5 ≤ L) (hL : L ≤ 2560) (K : ∀ (p : Nat → Bool) (c k : Nat) (U : Nat → Int32) (V : Nat → Nat → Int32) (N : Nat → ns_T) (F : Nat → Int32) (R : Nat → Nat → Int32) (H : Heap) (locs : List Loc), xs_s D y s.heap.size qx A p c k U V N H → va_P D vwCl (w5_s y A F R) H → rl_s p c k U V N F R → va_S (fun q : Nat => s.heap.size ≤ q) s.heap H locs → ∀ ls, lv_has ls 4 [(0, .ref b), (1, .ref qx), (2, .ref (A 0)), (3, .int x3)] → W p0 l e room_1 s m args below meth co H locs (100 + 6 * (t + 1)) (4000 + 220 * (t + 1)) Q0 (F0 m 1014 ls [])) {p : Nat → Bool} {c k : Nat} {U : Nat → Int32} {V : Nat → Nat → Int32} {N : Nat → ns_T} {F : Nat → Int32} {R : Nat → Nat → Int32} {H : Heap} {locs : List Loc} (hx : xs_s D y s.heap.size qx A p c k U V N H) (hM : va_P D vwCl (w5_s y A F R) H) (hrel : rl_s p c k U V N F R) (hS : va_S (fun q : Nat => s.heap.size ≤ q) s.heap H locs) {ls : Array Slot} (hl : lv_has ls 4 [(0, .ref b), (1, .ref qx), (2, .ref (A 0)), (3, .int x3)]) : W p0 l e room_1 s m args below meth co H locs (100 + 6 * t) (4000 + 220 * t) Q0 (F0 m 841 ls []) := by
  obtain ⟨P, ad, NB, hP1, hP2, rfl, hT⟩ := hx
  have hbA : ¬ (fun q : Nat => s.heap.size ≤ q) b := Nat.not_le.mpr hbl
  obtain ⟨r, hx1, hm1⟩ := sim_blockedInFixedScheme hrel
  refine lv_aload_n (cx_x X) (cx_b X) dL_law_841 rfl (lv_at hl 1 rfl) ?_
  refine af_R (rn_V (As := []) (rest := []) X (c_X4_blockedInFixedScheme l D y (ad 9 0) (ad 9 1) (ad 9 3) (ad 10 0) (ad 0) (NB 0) (N 0).1 (N 0).2.1 (N 0).2.2.1 (N 0).2.2.2  r hx1) vq_L_125 ⟨rfl, rfl⟩ ⟨Nat.le_of_ble_eq_true rfl, Nat.le_of_ble_eq_true rfl⟩ (rec_4 X (tp_w hT)) ⟨tp_w hT, tp_n hT pz_0, tp_l hT pz_0⟩ rfl hl.1 rfl (Nat.le_of_ble_eq_true rfl) dL_law_842 ⟨by show 100 + 6 * t ≤ 600000; omega, by show 4000 + 220 * t ≤ 7302250; omega⟩) ?_
  refine lv_aload_n (cx_x X) (cx_b X) dL_law_845 rfl (lv_at hl 2 rfl) ?_
  refine af_R (rn_V (As := []) (rest := [.int r]) X (c_X5_blockedInFixedScheme l D y A F R  r hm1) vq_L_128 ⟨rfl, rfl⟩ ⟨Nat.le_of_ble_eq_true rfl, Nat.le_of_ble_eq_true rfl⟩ (rec_5 X hM) hM rfl hl.1 rfl (Nat.le_of_ble_eq_true rfl) dL_law_846 ⟨by show 100 + 6 * t ≤ 600000; omega, by show 4000 + 220 * t ≤ 7302250; omega⟩) ?_
  refine lv_icmp_eq (tgt := 1014) (cx_x X) (cx_b X) dL_law_849 (by decide) (fun _ => ?_) (fun hc => absurd rfl hc)
  refine W.widen (k := 100 + 6 * (t + 1)) (n := 4000 + 220 * (t + 1)) (by omega) (by omega) ?_
  exact K _ _ _ _ _ _ _ _ _ _ ⟨P, ad, NB, hP1, hP2, rfl, hT⟩ hM hrel hS _ hl
set_option maxHeartbeats 4000000 in
set_option maxRecDepth 100000 in
theorem lc_28 {p0 : Program} {l : Launch} {e : Env} {s : State} {m : MethodId} {args : Array Value} {below : List Frame} {meth : Method} {co : Code} {D : va_G} {y : Nat → ClassId} {b L : Nat} {xs : Nat → Int32} {rt : Option FieldType} {Q0 : State → Prop} {A : Nat → Nat} {qx t i : Nat} {x3 : Int32} (X : cx p0 s m args meth co cL_law 4 rt RL D y) (hX : va_X b L xs s s.heap) (hbl : b < s.heap.size) (hI : aj_s 7 A) (hAs : ∀ j, j < 7 → s.heap.size ≤ A j) (ht : t < 512) (ex3 : x3 = nI i) (hi : i + 5 ≤ L) (hL : L ≤ 2560) (K : ∀ (p : Nat → Bool) (c k : Nat) (U : Nat → Int32) (V : Nat → Nat → Int32) (N : Nat → ns_T) (F : Nat → Int32) (R : Nat → Nat → Int32) (H : Heap) (locs : List Loc), xs_s D y s.heap.size qx A p c k U V N H → va_P D vwCl (w5_s y A F R) H → rl_s p c k U V N F R → va_S (fun q : Nat => s.heap.size ≤ q) s.heap H locs → ∀ ls, lv_has ls 4 [(0, .ref b), (1, .ref qx), (2, .ref (A 0)), (3, .int x3)] → W p0 l e room_1 s m args below meth co H locs (100 + 6 * (t + 1)) (4000 + 220 * (t + 1)) Q0 (F0 m 1014 ls [])) {p : Nat → Bool} {c k : Nat} {U : Nat → Int32} {V : Nat → Nat → Int32} {N : Nat → ns_T} {F : Nat → Int32} {R : Nat → Nat → Int32} {H : Heap} {locs : List Loc} (hx : xs_s D y s.heap.size qx A p c k U V N H) (hM : va_P D vwCl (w5_s y A F R) H) (hrel : rl_s p c k U V N F R) (hS : va_S (fun q : Nat => s.heap.size ≤ q) s.heap H locs) {ls : Array Slot} (hl : lv_has ls 4 [(0, .ref b), (1, .ref qx), (2, .ref (A 0)), (3, .int x3)]) : W p0 l e room_1 s m args below meth co H locs (100 + 6 * t) (4000 + 220 * t) Q0 (F0 m 854 ls []) := by
  obtain ⟨P, ad, NB, hP1, hP2, rfl, hT⟩ := hx
  have hbA : ¬ (fun q : Nat => s.heap.size ≤ q) b := Nat.not_le.mpr hbl
  obtain ⟨r, hx1, hm1⟩ := sim_dropped hrel
  refine lv_aload_n (cx_x X) (cx_b X) dL_law_854 rfl (lv_at hl 1 rfl) ?_
  refine af_R (rn_V (As := []) (rest := []) X (c_X4_dropped l D y (ad 9 0) (ad 9 1) (ad 9 3) (ad 10 0) (ad 0) (NB 0) (N 0).1 (N 0).2.1 (N 0).2.2.1 (N 0).2.2.2  r hx1) vq_L_129 ⟨rfl, rfl⟩ ⟨Nat.le_of_ble_eq_true rfl, Nat.le_of_ble_eq_true rfl⟩ (rec_4 X (tp_w hT)) ⟨tp_w hT, tp_n hT pz_0, tp_l hT pz_0⟩ rfl hl.1 rfl (Nat.le_of_ble_eq_true rfl) dL_law_855 ⟨by show 100 + 6 * t ≤ 600000; omega, by show 4000 + 220 * t ≤ 7302250; omega⟩) ?_
  refine lv_aload_n (cx_x X) (cx_b X) dL_law_858 rfl (lv_at hl 2 rfl) ?_
  refine af_R (rn_V (As := []) (rest := [.int r]) X (c_X5_dropped l D y A F R  r hm1) vq_L_132 ⟨rfl, rfl⟩ ⟨Nat.le_of_ble_eq_true rfl, Nat.le_of_ble_eq_true rfl⟩ (rec_5 X hM) hM rfl hl.1 rfl (Nat.le_of_ble_eq_true rfl) dL_law_859 ⟨by show 100 + 6 * t ≤ 600000; omega, by show 4000 + 220 * t ≤ 7302250; omega⟩) ?_
  refine lv_icmp_eq (tgt := 1014) (cx_x X) (cx_b X) dL_law_862 (by decide) (fun _ => ?_) (fun hc => absurd rfl hc)
  refine W.widen (k := 100 + 6 * (t + 1)) (n := 4000 + 220 * (t + 1)) (by omega) (by omega) ?_
  exact K _ _ _ _ _ _ _ _ _ _ ⟨P, ad, NB, hP1, hP2, rfl, hT⟩ hM hrel hS _ hl
set_option maxHeartbeats 4000000 in
set_option maxRecDepth 100000 in
theorem lc_29 {p0 : Program} {l : Launch} {e : Env} {s : State} {m : MethodId} {args : Array Value} {below : List Frame} {meth : Method} {co : Code} {D : va_G} {y : Nat → ClassId} {b L : Nat} {xs : Nat → Int32} {rt : Option FieldType} {Q0 : State → Prop} {A : Nat → Nat} {qx t i : Nat} {x3 : Int32} (X : cx p0 s m args meth co cL_law 4 rt RL D y) (hX : va_X b L xs s s.heap) (hbl : b < s.heap.size) (hI : aj_s 7 A) (hAs : ∀ j, j < 7 → s.heap.size ≤ A j) (ht : t < 512) (ex3 : x3 = nI i) (hi : i + 5 ≤ L) (hL : L ≤ 2560) (K : ∀ (p : Nat → Bool) (c k : Nat) (U : Nat → Int32) (V : Nat → Nat → Int32) (N : Nat → ns_T) (F : Nat → Int32) (R : Nat → Nat → Int32) (H : Heap) (locs : List Loc), xs_s D y s.heap.size qx A p c k U V N H → va_P D vwCl (w5_s y A F R) H → rl_s p c k U V N F R → va_S (fun q : Nat => s.heap.size ≤ q) s.heap H locs → ∀ ls, lv_has ls 4 [(0, .ref b), (1, .ref qx), (2, .ref (A 0)), (3, .int x3)] → W p0 l e room_1 s m args below meth co H locs (100 + 6 * (t + 1)) (4000 + 220 * (t + 1)) Q0 (F0 m 1014 ls [])) {p : Nat → Bool} {c k : Nat} {U : Nat → Int32} {V : Nat → Nat → Int32} {N : Nat → ns_T} {F : Nat → Int32} {R : Nat → Nat → Int32} {H : Heap} {locs : List Loc} (hx : xs_s D y s.heap.size qx A p c k U V N H) (hM : va_P D vwCl (w5_s y A F R) H) (hrel : rl_s p c k U V N F R) (hS : va_S (fun q : Nat => s.heap.size ≤ q) s.heap H locs) {ls : Array Slot} (hl : lv_has ls 4 [(0, .ref b), (1, .ref qx), (2, .ref (A 0)), (3, .int x3)]) : W p0 l e room_1 s m args below meth co H locs (100 + 6 * t) (4000 + 220 * t) Q0 (F0 m 867 ls []) := by
  obtain ⟨P, ad, NB, hP1, hP2, rfl, hT⟩ := hx
  have hbA : ¬ (fun q : Nat => s.heap.size ≤ q) b := Nat.not_le.mpr hbl
  obtain ⟨r, hx1, hm1⟩ := sim_droppedInFixedScheme hrel
  refine lv_aload_n (cx_x X) (cx_b X) dL_law_867 rfl (lv_at hl 1 rfl) ?_
  refine af_R (rn_V (As := []) (rest := []) X (c_X4_droppedInFixedScheme l D y (ad 9 0) (ad 9 1) (ad 9 3) (ad 10 0) (ad 0) (NB 0) (N 0).1 (N 0).2.1 (N 0).2.2.1 (N 0).2.2.2  r hx1) vq_L_133 ⟨rfl, rfl⟩ ⟨Nat.le_of_ble_eq_true rfl, Nat.le_of_ble_eq_true rfl⟩ (rec_4 X (tp_w hT)) ⟨tp_w hT, tp_n hT pz_0, tp_l hT pz_0⟩ rfl hl.1 rfl (Nat.le_of_ble_eq_true rfl) dL_law_868 ⟨by show 100 + 6 * t ≤ 600000; omega, by show 4000 + 220 * t ≤ 7302250; omega⟩) ?_
  refine lv_aload_n (cx_x X) (cx_b X) dL_law_871 rfl (lv_at hl 2 rfl) ?_
  refine af_R (rn_V (As := []) (rest := [.int r]) X (c_X5_droppedInFixedScheme l D y A F R  r hm1) vq_L_136 ⟨rfl, rfl⟩ ⟨Nat.le_of_ble_eq_true rfl, Nat.le_of_ble_eq_true rfl⟩ (rec_5 X hM) hM rfl hl.1 rfl (Nat.le_of_ble_eq_true rfl) dL_law_872 ⟨by show 100 + 6 * t ≤ 600000; omega, by show 4000 + 220 * t ≤ 7302250; omega⟩) ?_
  refine lv_icmp_eq (tgt := 1014) (cx_x X) (cx_b X) dL_law_875 (by decide) (fun _ => ?_) (fun hc => absurd rfl hc)
  refine W.widen (k := 100 + 6 * (t + 1)) (n := 4000 + 220 * (t + 1)) (by omega) (by omega) ?_
  exact K _ _ _ _ _ _ _ _ _ _ ⟨P, ad, NB, hP1, hP2, rfl, hT⟩ hM hrel hS _ hl
set_option maxHeartbeats 4000000 in
set_option maxRecDepth 100000 in
theorem lc_30 {p0 : Program} {l : Launch} {e : Env} {s : State} {m : MethodId} {args : Array Value} {below : List Frame} {meth : Method} {co : Code} {D : va_G} {y : Nat → ClassId} {b L : Nat} {xs : Nat → Int32} {rt : Option FieldType} {Q0 : State → Prop} {A : Nat → Nat} {qx t i : Nat} {x3 : Int32} (X : cx p0 s m args meth co cL_law 4 rt RL D y) (hX : va_X b L xs s s.heap) (hbl : b < s.heap.size) (hI : aj_s 7 A) (hAs : ∀ j, j < 7 → s.heap.size ≤ A j) (ht : t < 512) (ex3 : x3 = nI i) (hi : i + 5 ≤ L) (hL : L ≤ 2560) (K : ∀ (p : Nat → Bool) (c k : Nat) (U : Nat → Int32) (V : Nat → Nat → Int32) (N : Nat → ns_T) (F : Nat → Int32) (R : Nat → Nat → Int32) (H : Heap) (locs : List Loc), xs_s D y s.heap.size qx A p c k U V N H → va_P D vwCl (w5_s y A F R) H → rl_s p c k U V N F R → va_S (fun q : Nat => s.heap.size ≤ q) s.heap H locs → ∀ ls, lv_has ls 4 [(0, .ref b), (1, .ref qx), (2, .ref (A 0)), (3, .int x3)] → W p0 l e room_1 s m args below meth co H locs (100 + 6 * (t + 1)) (4000 + 220 * (t + 1)) Q0 (F0 m 1014 ls [])) {p : Nat → Bool} {c k : Nat} {U : Nat → Int32} {V : Nat → Nat → Int32} {N : Nat → ns_T} {F : Nat → Int32} {R : Nat → Nat → Int32} {H : Heap} {locs : List Loc} (hx : xs_s D y s.heap.size qx A p c k U V N H) (hM : va_P D vwCl (w5_s y A F R) H) (hrel : rl_s p c k U V N F R) (hS : va_S (fun q : Nat => s.heap.size ≤ q) s.heap H locs) {ls : Array Slot} (hl : lv_has ls 4 [(0, .ref b), (1, .ref qx), (2, .ref (A 0)), (3, .int x3)]) : W p0 l e room_1 s m args below meth co H locs (100 + 6 * t) (4000 + 220 * t) Q0 (F0 m 880 ls []) := by
  obtain ⟨P, ad, NB, hP1, hP2, rfl, hT⟩ := hx
  have hbA : ¬ (fun q : Nat => s.heap.size ≤ q) b := Nat.not_le.mpr hbl
  obtain ⟨r, hx1, hm1⟩ := sim_borrowings hrel
  refine lv_aload_n (cx_x X) (cx_b X) dL_law_880 rfl (lv_at hl 1 rfl) ?_
  refine af_R (rn_V (As := []) (rest := []) X (c_X4_borrowings l D y (ad 9 0) (ad 9 1) (ad 9 3) (ad 10 0) (ad 0) (NB 0) (N 0).1 (N 0).2.1 (N 0).2.2.1 (N 0).2.2.2  r hx1) vq_L_137 ⟨rfl, rfl⟩ ⟨Nat.le_of_ble_eq_true rfl, Nat.le_of_ble_eq_true rfl⟩ (rec_4 X (tp_w hT)) ⟨tp_w hT, tp_n hT pz_0, tp_l hT pz_0⟩ rfl hl.1 rfl (Nat.le_of_ble_eq_true rfl) dL_law_881 ⟨by show 100 + 6 * t ≤ 600000; omega, by show 4000 + 220 * t ≤ 7302250; omega⟩) ?_
  refine lv_aload_n (cx_x X) (cx_b X) dL_law_884 rfl (lv_at hl 2 rfl) ?_
  refine af_R (rn_V (As := []) (rest := [.int r]) X (c_X5_borrowings l D y A F R  r hm1) vq_L_140 ⟨rfl, rfl⟩ ⟨Nat.le_of_ble_eq_true rfl, Nat.le_of_ble_eq_true rfl⟩ (rec_5 X hM) hM rfl hl.1 rfl (Nat.le_of_ble_eq_true rfl) dL_law_885 ⟨by show 100 + 6 * t ≤ 600000; omega, by show 4000 + 220 * t ≤ 7302250; omega⟩) ?_
  refine lv_icmp_eq (tgt := 1014) (cx_x X) (cx_b X) dL_law_888 (by decide) (fun _ => ?_) (fun hc => absurd rfl hc)
  refine W.widen (k := 100 + 6 * (t + 1)) (n := 4000 + 220 * (t + 1)) (by omega) (by omega) ?_
  exact K _ _ _ _ _ _ _ _ _ _ ⟨P, ad, NB, hP1, hP2, rfl, hT⟩ hM hrel hS _ hl
set_option maxHeartbeats 4000000 in
set_option maxRecDepth 100000 in
theorem lc_31 {p0 : Program} {l : Launch} {e : Env} {s : State} {m : MethodId} {args : Array Value} {below : List Frame} {meth : Method} {co : Code} {D : va_G} {y : Nat → ClassId} {b L : Nat} {xs : Nat → Int32} {rt : Option FieldType} {Q0 : State → Prop} {A : Nat → Nat} {qx t i : Nat} {x3 : Int32} (X : cx p0 s m args meth co cL_law 4 rt RL D y) (hX : va_X b L xs s s.heap) (hbl : b < s.heap.size) (hI : aj_s 7 A) (hAs : ∀ j, j < 7 → s.heap.size ≤ A j) (ht : t < 512) (ex3 : x3 = nI i) (hi : i + 5 ≤ L) (hL : L ≤ 2560) (K : ∀ (p : Nat → Bool) (c k : Nat) (U : Nat → Int32) (V : Nat → Nat → Int32) (N : Nat → ns_T) (F : Nat → Int32) (R : Nat → Nat → Int32) (H : Heap) (locs : List Loc), xs_s D y s.heap.size qx A p c k U V N H → va_P D vwCl (w5_s y A F R) H → rl_s p c k U V N F R → va_S (fun q : Nat => s.heap.size ≤ q) s.heap H locs → ∀ ls, lv_has ls 4 [(0, .ref b), (1, .ref qx), (2, .ref (A 0)), (3, .int x3)] → W p0 l e room_1 s m args below meth co H locs (100 + 6 * (t + 1)) (4000 + 220 * (t + 1)) Q0 (F0 m 1014 ls [])) {p : Nat → Bool} {c k : Nat} {U : Nat → Int32} {V : Nat → Nat → Int32} {N : Nat → ns_T} {F : Nat → Int32} {R : Nat → Nat → Int32} {H : Heap} {locs : List Loc} (hx : xs_s D y s.heap.size qx A p c k U V N H) (hM : va_P D vwCl (w5_s y A F R) H) (hrel : rl_s p c k U V N F R) (hS : va_S (fun q : Nat => s.heap.size ≤ q) s.heap H locs) {ls : Array Slot} (hl : lv_has ls 4 [(0, .ref b), (1, .ref qx), (2, .ref (A 0)), (3, .int x3)]) : W p0 l e room_1 s m args below meth co H locs (100 + 6 * t) (4000 + 220 * t) Q0 (F0 m 893 ls []) := by
  obtain ⟨P, ad, NB, hP1, hP2, rfl, hT⟩ := hx
  have hbA : ¬ (fun q : Nat => s.heap.size ≤ q) b := Nat.not_le.mpr hbl
  obtain ⟨r, hx1, hm1⟩ := sim_returns hrel
  refine lv_aload_n (cx_x X) (cx_b X) dL_law_893 rfl (lv_at hl 1 rfl) ?_
  refine af_R (rn_V (As := []) (rest := []) X (c_X4_returns l D y (ad 9 0) (ad 9 1) (ad 9 3) (ad 10 0) (ad 0) (NB 0) (N 0).1 (N 0).2.1 (N 0).2.2.1 (N 0).2.2.2  r hx1) vq_L_141 ⟨rfl, rfl⟩ ⟨Nat.le_of_ble_eq_true rfl, Nat.le_of_ble_eq_true rfl⟩ (rec_4 X (tp_w hT)) ⟨tp_w hT, tp_n hT pz_0, tp_l hT pz_0⟩ rfl hl.1 rfl (Nat.le_of_ble_eq_true rfl) dL_law_894 ⟨by show 100 + 6 * t ≤ 600000; omega, by show 4000 + 220 * t ≤ 7302250; omega⟩) ?_
  refine lv_aload_n (cx_x X) (cx_b X) dL_law_897 rfl (lv_at hl 2 rfl) ?_
  refine af_R (rn_V (As := []) (rest := [.int r]) X (c_X5_returns l D y A F R  r hm1) vq_L_144 ⟨rfl, rfl⟩ ⟨Nat.le_of_ble_eq_true rfl, Nat.le_of_ble_eq_true rfl⟩ (rec_5 X hM) hM rfl hl.1 rfl (Nat.le_of_ble_eq_true rfl) dL_law_898 ⟨by show 100 + 6 * t ≤ 600000; omega, by show 4000 + 220 * t ≤ 7302250; omega⟩) ?_
  refine lv_icmp_eq (tgt := 1014) (cx_x X) (cx_b X) dL_law_901 (by decide) (fun _ => ?_) (fun hc => absurd rfl hc)
  refine W.widen (k := 100 + 6 * (t + 1)) (n := 4000 + 220 * (t + 1)) (by omega) (by omega) ?_
  exact K _ _ _ _ _ _ _ _ _ _ ⟨P, ad, NB, hP1, hP2, rfl, hT⟩ hM hrel hS _ hl
set_option maxHeartbeats 4000000 in
set_option maxRecDepth 100000 in
theorem lc_32 {p0 : Program} {l : Launch} {e : Env} {s : State} {m : MethodId} {args : Array Value} {below : List Frame} {meth : Method} {co : Code} {D : va_G} {y : Nat → ClassId} {b L : Nat} {xs : Nat → Int32} {rt : Option FieldType} {Q0 : State → Prop} {A : Nat → Nat} {qx t i : Nat} {x3 : Int32} (X : cx p0 s m args meth co cL_law 4 rt RL D y) (hX : va_X b L xs s s.heap) (hbl : b < s.heap.size) (hI : aj_s 7 A) (hAs : ∀ j, j < 7 → s.heap.size ≤ A j) (ht : t < 512) (ex3 : x3 = nI i) (hi : i + 5 ≤ L) (hL : L ≤ 2560) (K : ∀ (p : Nat → Bool) (c k : Nat) (U : Nat → Int32) (V : Nat → Nat → Int32) (N : Nat → ns_T) (F : Nat → Int32) (R : Nat → Nat → Int32) (H : Heap) (locs : List Loc), xs_s D y s.heap.size qx A p c k U V N H → va_P D vwCl (w5_s y A F R) H → rl_s p c k U V N F R → va_S (fun q : Nat => s.heap.size ≤ q) s.heap H locs → ∀ ls, lv_has ls 4 [(0, .ref b), (1, .ref qx), (2, .ref (A 0)), (3, .int x3)] → W p0 l e room_1 s m args below meth co H locs (100 + 6 * (t + 1)) (4000 + 220 * (t + 1)) Q0 (F0 m 1014 ls [])) {p : Nat → Bool} {c k : Nat} {U : Nat → Int32} {V : Nat → Nat → Int32} {N : Nat → ns_T} {F : Nat → Int32} {R : Nat → Nat → Int32} {H : Heap} {locs : List Loc} (hx : xs_s D y s.heap.size qx A p c k U V N H) (hM : va_P D vwCl (w5_s y A F R) H) (hrel : rl_s p c k U V N F R) (hS : va_S (fun q : Nat => s.heap.size ≤ q) s.heap H locs) {ls : Array Slot} (hl : lv_has ls 4 [(0, .ref b), (1, .ref qx), (2, .ref (A 0)), (3, .int x3)]) : W p0 l e room_1 s m args below meth co H locs (100 + 6 * t) (4000 + 220 * t) Q0 (F0 m 906 ls []) := by
  obtain ⟨P, ad, NB, hP1, hP2, rfl, hT⟩ := hx
  have hbA : ¬ (fun q : Nat => s.heap.size ≤ q) b := Nat.not_le.mpr hbl
  have hj1 : vp_in (x3 + (1 : Int32)) L := by rw [ex3, show nI i + (1 : Int32) = nI (i + 1) from nI_add i 1]; exact vp_in_nI (by omega) (by omega)
  obtain ⟨r, c1, k1, U1, V1, N1, F1, R1, hx1, hm1, hrel⟩ := sim_appendCharacter hrel (xs (x3 + (1 : Int32)).toNatClampNeg)
  refine lv_aload_n (cx_x X) (cx_b X) dL_law_906 rfl (lv_at hl 1 rfl) ?_
  refine lv_aload_n (cx_x X) (cx_b X) dL_law_907 rfl (lv_at hl 0 rfl) ?_
  refine lv_iload_n (cx_x X) (cx_b X) dL_law_908 rfl (lv_at hl 3 rfl) ?_
  refine lv_iconst (v := (1 : Int32)) (cx_x X) (cx_b X) dL_law_909 (by decide) ?_
  refine lv_iadd (cx_x X) (cx_b X) dL_law_910 ?_
  refine va_sld (cx_x X) (cx_b X) hX hbl hbA hS hj1 dL_law_911 ?_
  refine af_W (mc := 0) (ms := 0) (rn_V (As := [.int (xs (x3 + (1 : Int32)).toNatClampNeg)]) (rest := []) X (c_X4_appendCharacter l D y P ad NB p c k U V N (xs (x3 + (1 : Int32)).toNatClampNeg) r c1 k1 U1 V1 N1 _ hx1) vq_L_145 ⟨rfl, rfl⟩ ⟨Nat.le_of_ble_eq_true rfl, Nat.le_of_ble_eq_true rfl⟩ (rec_4 X (tp_w hT)) ⟨rfl, hT⟩ rfl hl.1 rfl (Nat.le_of_ble_eq_true rfl) dL_law_912 ⟨by show 100 + 6 * t + 0 ≤ 600000; omega, by show 4000 + 220 * t + 0 ≤ 7302250; omega⟩) hS (in_P hP1 hS.1) (fun H1 locs1 hW hz1 hk1 hS1 => ?_)
  obtain ⟨NB1, hT1⟩ := hW
  replace hx := xs_W hP1 hP2 hS.1 hM rfl hT1
  replace hM := xs_M hP2 hM hk1
  replace hS := hS1
  clear hS1
  refine lv_aload_n (cx_x X) (cx_b X) dL_law_915 rfl (lv_at hl 2 rfl) ?_
  refine lv_aload_n (cx_x X) (cx_b X) dL_law_916 rfl (lv_at hl 0 rfl) ?_
  refine lv_iload_n (cx_x X) (cx_b X) dL_law_917 rfl (lv_at hl 3 rfl) ?_
  refine lv_iconst (v := (1 : Int32)) (cx_x X) (cx_b X) dL_law_918 (by decide) ?_
  refine lv_iadd (cx_x X) (cx_b X) dL_law_919 ?_
  refine va_sld (cx_x X) (cx_b X) hX hbl hbA hS hj1 dL_law_920 ?_
  refine af_W (mc := 0) (ms := 0) (rn_V (As := [.int (xs (x3 + (1 : Int32)).toNatClampNeg)]) (rest := [.int r]) X (c_X5_appendCharacter l D y A F R (xs (x3 + (1 : Int32)).toNatClampNeg) r F1 R1 _ hI hm1) vq_L_148 ⟨rfl, rfl⟩ ⟨Nat.le_of_ble_eq_true rfl, Nat.le_of_ble_eq_true rfl⟩ (rec_5 X hM) ⟨rfl, hM⟩ rfl hl.1 rfl (Nat.le_of_ble_eq_true rfl) dL_law_921 ⟨by show 100 + 6 * t + 0 + 0 ≤ 600000; omega, by show 4000 + 220 * t + 0 + 0 ≤ 7302250; omega⟩) hS (in_A hAs hS.1) (fun H2 locs2 hM2 hz2 hk2 hS => ?_)
  refine lv_icmp_eq (tgt := 1014) (cx_x X) (cx_b X) dL_law_924 (by decide) (fun _ => ?_) (fun hc => absurd rfl hc)
  refine W.widen (k := 100 + 6 * (t + 1)) (n := 4000 + 220 * (t + 1)) (by omega) (by omega) ?_
  obtain ⟨P1, ad1, NB1, g1, g2, g3, g4⟩ := hx
  exact K _ _ _ _ _ _ _ _ _ _ ⟨P1, ad1, NB1, g1, g2, g3, tp_f2 g4 g2 hk2⟩ hM2 hrel hS _ hl
set_option maxHeartbeats 4000000 in
set_option maxRecDepth 100000 in
theorem lc_33 {p0 : Program} {l : Launch} {e : Env} {s : State} {m : MethodId} {args : Array Value} {below : List Frame} {meth : Method} {co : Code} {D : va_G} {y : Nat → ClassId} {b L : Nat} {xs : Nat → Int32} {rt : Option FieldType} {Q0 : State → Prop} {A : Nat → Nat} {qx t i : Nat} {x3 : Int32} (X : cx p0 s m args meth co cL_law 4 rt RL D y) (hX : va_X b L xs s s.heap) (hbl : b < s.heap.size) (hI : aj_s 7 A) (hAs : ∀ j, j < 7 → s.heap.size ≤ A j) (ht : t < 512) (ex3 : x3 = nI i) (hi : i + 5 ≤ L) (hL : L ≤ 2560) (K : ∀ (p : Nat → Bool) (c k : Nat) (U : Nat → Int32) (V : Nat → Nat → Int32) (N : Nat → ns_T) (F : Nat → Int32) (R : Nat → Nat → Int32) (H : Heap) (locs : List Loc), xs_s D y s.heap.size qx A p c k U V N H → va_P D vwCl (w5_s y A F R) H → rl_s p c k U V N F R → va_S (fun q : Nat => s.heap.size ≤ q) s.heap H locs → ∀ ls, lv_has ls 4 [(0, .ref b), (1, .ref qx), (2, .ref (A 0)), (3, .int x3)] → W p0 l e room_1 s m args below meth co H locs (100 + 6 * (t + 1)) (4000 + 220 * (t + 1)) Q0 (F0 m 1014 ls [])) {p : Nat → Bool} {c k : Nat} {U : Nat → Int32} {V : Nat → Nat → Int32} {N : Nat → ns_T} {F : Nat → Int32} {R : Nat → Nat → Int32} {H : Heap} {locs : List Loc} (hx : xs_s D y s.heap.size qx A p c k U V N H) (hM : va_P D vwCl (w5_s y A F R) H) (hrel : rl_s p c k U V N F R) (hS : va_S (fun q : Nat => s.heap.size ≤ q) s.heap H locs) {ls : Array Slot} (hl : lv_has ls 4 [(0, .ref b), (1, .ref qx), (2, .ref (A 0)), (3, .int x3)]) : W p0 l e room_1 s m args below meth co H locs (100 + 6 * t) (4000 + 220 * t) Q0 (F0 m 929 ls []) := by
  obtain ⟨P, ad, NB, hP1, hP2, rfl, hT⟩ := hx
  have hbA : ¬ (fun q : Nat => s.heap.size ≤ q) b := Nat.not_le.mpr hbl
  obtain ⟨r, c1, k1, U1, V1, N1, F1, R1, hx1, hm1, hrel⟩ := sim_clearText hrel 
  refine lv_aload_n (cx_x X) (cx_b X) dL_law_929 rfl (lv_at hl 1 rfl) ?_
  refine af_W (mc := 0) (ms := 0) (rn_V (As := []) (rest := []) X (c_X4_clearText l D y P ad NB p c k U V N  r c1 k1 U1 V1 N1 _ hx1) vq_L_149 ⟨rfl, rfl⟩ ⟨Nat.le_of_ble_eq_true rfl, Nat.le_of_ble_eq_true rfl⟩ (rec_4 X (tp_w hT)) ⟨rfl, hT⟩ rfl hl.1 rfl (Nat.le_of_ble_eq_true rfl) dL_law_930 ⟨by show 100 + 6 * t + 0 ≤ 600000; omega, by show 4000 + 220 * t + 0 ≤ 7302250; omega⟩) hS (in_P hP1 hS.1) (fun H1 locs1 hW hz1 hk1 hS1 => ?_)
  obtain ⟨NB1, hT1⟩ := hW
  replace hx := xs_W hP1 hP2 hS.1 hM rfl hT1
  replace hM := xs_M hP2 hM hk1
  replace hS := hS1
  clear hS1
  refine lv_aload_n (cx_x X) (cx_b X) dL_law_933 rfl (lv_at hl 2 rfl) ?_
  refine af_W (mc := 0) (ms := 0) (rn_V (As := []) (rest := [.int r]) X (c_X5_clearText l D y A F R  r F1 R1 _ hI hm1) vq_L_152 ⟨rfl, rfl⟩ ⟨Nat.le_of_ble_eq_true rfl, Nat.le_of_ble_eq_true rfl⟩ (rec_5 X hM) ⟨rfl, hM⟩ rfl hl.1 rfl (Nat.le_of_ble_eq_true rfl) dL_law_934 ⟨by show 100 + 6 * t + 0 + 0 ≤ 600000; omega, by show 4000 + 220 * t + 0 + 0 ≤ 7302250; omega⟩) hS (in_A hAs hS.1) (fun H2 locs2 hM2 hz2 hk2 hS => ?_)
  refine lv_icmp_eq (tgt := 1014) (cx_x X) (cx_b X) dL_law_937 (by decide) (fun _ => ?_) (fun hc => absurd rfl hc)
  refine W.widen (k := 100 + 6 * (t + 1)) (n := 4000 + 220 * (t + 1)) (by omega) (by omega) ?_
  obtain ⟨P1, ad1, NB1, g1, g2, g3, g4⟩ := hx
  exact K _ _ _ _ _ _ _ _ _ _ ⟨P1, ad1, NB1, g1, g2, g3, tp_f2 g4 g2 hk2⟩ hM2 hrel hS _ hl
set_option maxHeartbeats 4000000 in
set_option maxRecDepth 100000 in
theorem lc_34 {p0 : Program} {l : Launch} {e : Env} {s : State} {m : MethodId} {args : Array Value} {below : List Frame} {meth : Method} {co : Code} {D : va_G} {y : Nat → ClassId} {b L : Nat} {xs : Nat → Int32} {rt : Option FieldType} {Q0 : State → Prop} {A : Nat → Nat} {qx t i : Nat} {x3 : Int32} (X : cx p0 s m args meth co cL_law 4 rt RL D y) (hX : va_X b L xs s s.heap) (hbl : b < s.heap.size) (hI : aj_s 7 A) (hAs : ∀ j, j < 7 → s.heap.size ≤ A j) (ht : t < 512) (ex3 : x3 = nI i) (hi : i + 5 ≤ L) (hL : L ≤ 2560) (K : ∀ (p : Nat → Bool) (c k : Nat) (U : Nat → Int32) (V : Nat → Nat → Int32) (N : Nat → ns_T) (F : Nat → Int32) (R : Nat → Nat → Int32) (H : Heap) (locs : List Loc), xs_s D y s.heap.size qx A p c k U V N H → va_P D vwCl (w5_s y A F R) H → rl_s p c k U V N F R → va_S (fun q : Nat => s.heap.size ≤ q) s.heap H locs → ∀ ls, lv_has ls 4 [(0, .ref b), (1, .ref qx), (2, .ref (A 0)), (3, .int x3)] → W p0 l e room_1 s m args below meth co H locs (100 + 6 * (t + 1)) (4000 + 220 * (t + 1)) Q0 (F0 m 1014 ls [])) {p : Nat → Bool} {c k : Nat} {U : Nat → Int32} {V : Nat → Nat → Int32} {N : Nat → ns_T} {F : Nat → Int32} {R : Nat → Nat → Int32} {H : Heap} {locs : List Loc} (hx : xs_s D y s.heap.size qx A p c k U V N H) (hM : va_P D vwCl (w5_s y A F R) H) (hrel : rl_s p c k U V N F R) (hS : va_S (fun q : Nat => s.heap.size ≤ q) s.heap H locs) {ls : Array Slot} (hl : lv_has ls 4 [(0, .ref b), (1, .ref qx), (2, .ref (A 0)), (3, .int x3)]) : W p0 l e room_1 s m args below meth co H locs (100 + 6 * t) (4000 + 220 * t) Q0 (F0 m 942 ls []) := by
  obtain ⟨P, ad, NB, hP1, hP2, rfl, hT⟩ := hx
  have hbA : ¬ (fun q : Nat => s.heap.size ≤ q) b := Nat.not_le.mpr hbl
  obtain ⟨r, c1, k1, U1, V1, N1, F1, R1, hx1, hm1, hrel⟩ := sim_runScript hrel 
  refine lv_aload_n (cx_x X) (cx_b X) dL_law_942 rfl (lv_at hl 1 rfl) ?_
  refine af_W (mc := 0) (ms := 0) (rn_V (As := []) (rest := []) X (c_X4_runScript l D y P ad NB p c k U V N  r c1 k1 U1 V1 N1 _ hx1) vq_L_153 ⟨rfl, rfl⟩ ⟨Nat.le_of_ble_eq_true rfl, Nat.le_of_ble_eq_true rfl⟩ (rec_4 X (tp_w hT)) ⟨rfl, hT⟩ rfl hl.1 rfl (Nat.le_of_ble_eq_true rfl) dL_law_943 ⟨by show 100 + 6 * t + 0 ≤ 600000; omega, by show 4000 + 220 * t + 0 ≤ 7302250; omega⟩) hS (in_P hP1 hS.1) (fun H1 locs1 hW hz1 hk1 hS1 => ?_)
  obtain ⟨NB1, hT1⟩ := hW
  replace hx := xs_W hP1 hP2 hS.1 hM rfl hT1
  replace hM := xs_M hP2 hM hk1
  replace hS := hS1
  clear hS1
  refine lv_aload_n (cx_x X) (cx_b X) dL_law_946 rfl (lv_at hl 2 rfl) ?_
  refine af_W (mc := 0) (ms := 0) (rn_V (As := []) (rest := [.int r]) X (c_X5_runScript l D y A F R  r F1 R1 _ hI hm1) vq_L_156 ⟨rfl, rfl⟩ ⟨Nat.le_of_ble_eq_true rfl, Nat.le_of_ble_eq_true rfl⟩ (rec_5 X hM) ⟨rfl, hM⟩ rfl hl.1 rfl (Nat.le_of_ble_eq_true rfl) dL_law_947 ⟨by show 100 + 6 * t + 0 + 0 ≤ 600000; omega, by show 4000 + 220 * t + 0 + 0 ≤ 7302250; omega⟩) hS (in_A hAs hS.1) (fun H2 locs2 hM2 hz2 hk2 hS => ?_)
  refine lv_icmp_eq (tgt := 1014) (cx_x X) (cx_b X) dL_law_950 (by decide) (fun _ => ?_) (fun hc => absurd rfl hc)
  refine W.widen (k := 100 + 6 * (t + 1)) (n := 4000 + 220 * (t + 1)) (by omega) (by omega) ?_
  obtain ⟨P1, ad1, NB1, g1, g2, g3, g4⟩ := hx
  exact K _ _ _ _ _ _ _ _ _ _ ⟨P1, ad1, NB1, g1, g2, g3, tp_f2 g4 g2 hk2⟩ hM2 hrel hS _ hl
set_option maxHeartbeats 4000000 in
set_option maxRecDepth 100000 in
theorem lc_35 {p0 : Program} {l : Launch} {e : Env} {s : State} {m : MethodId} {args : Array Value} {below : List Frame} {meth : Method} {co : Code} {D : va_G} {y : Nat → ClassId} {b L : Nat} {xs : Nat → Int32} {rt : Option FieldType} {Q0 : State → Prop} {A : Nat → Nat} {qx t i : Nat} {x3 : Int32} (X : cx p0 s m args meth co cL_law 4 rt RL D y) (hX : va_X b L xs s s.heap) (hbl : b < s.heap.size) (hI : aj_s 7 A) (hAs : ∀ j, j < 7 → s.heap.size ≤ A j) (ht : t < 512) (ex3 : x3 = nI i) (hi : i + 5 ≤ L) (hL : L ≤ 2560) (K : ∀ (p : Nat → Bool) (c k : Nat) (U : Nat → Int32) (V : Nat → Nat → Int32) (N : Nat → ns_T) (F : Nat → Int32) (R : Nat → Nat → Int32) (H : Heap) (locs : List Loc), xs_s D y s.heap.size qx A p c k U V N H → va_P D vwCl (w5_s y A F R) H → rl_s p c k U V N F R → va_S (fun q : Nat => s.heap.size ≤ q) s.heap H locs → ∀ ls, lv_has ls 4 [(0, .ref b), (1, .ref qx), (2, .ref (A 0)), (3, .int x3)] → W p0 l e room_1 s m args below meth co H locs (100 + 6 * (t + 1)) (4000 + 220 * (t + 1)) Q0 (F0 m 1014 ls [])) {p : Nat → Bool} {c k : Nat} {U : Nat → Int32} {V : Nat → Nat → Int32} {N : Nat → ns_T} {F : Nat → Int32} {R : Nat → Nat → Int32} {H : Heap} {locs : List Loc} (hx : xs_s D y s.heap.size qx A p c k U V N H) (hM : va_P D vwCl (w5_s y A F R) H) (hrel : rl_s p c k U V N F R) (hS : va_S (fun q : Nat => s.heap.size ≤ q) s.heap H locs) {ls : Array Slot} (hl : lv_has ls 4 [(0, .ref b), (1, .ref qx), (2, .ref (A 0)), (3, .int x3)]) : W p0 l e room_1 s m args below meth co H locs (100 + 6 * t) (4000 + 220 * t) Q0 (F0 m 955 ls []) := by
  obtain ⟨P, ad, NB, hP1, hP2, rfl, hT⟩ := hx
  have hbA : ¬ (fun q : Nat => s.heap.size ≤ q) b := Nat.not_le.mpr hbl
  rcases sim_undo hrel with ⟨rfl, r, c1, k1, U1, V1, N1, F1, R1, hx1, hm1, hrel⟩ | ⟨c0, rfl, r, c1, k1, U1, V1, N1, F1, R1, hx1, hm1, hrel⟩
  · refine lv_aload_n (cx_x X) (cx_b X) dL_law_955 rfl (lv_at hl 1 rfl) ?_
    refine af_W (mc := 0) (ms := 0) (rn_V (As := []) (rest := []) X (c_undo0 l D y P ad NB p k U V N r c1 k1 U1 V1 N1 _ hx1) vq_L_157 ⟨rfl, rfl⟩ ⟨Nat.le_of_ble_eq_true rfl, Nat.le_of_ble_eq_true rfl⟩ (rec_4 X (tp_w hT)) ⟨rfl, hT⟩ rfl hl.1 rfl (Nat.le_of_ble_eq_true rfl) dL_law_956 ⟨by show 100 + 6 * t + 0 ≤ 600000; omega, by show 4000 + 220 * t + 0 ≤ 7302250; omega⟩) hS (in_P hP1 hS.1) (fun H1 locs1 hW hz1 hk1 hS1 => ?_)
    obtain ⟨ad1, NB1, e9, hT1⟩ := hW
    have hx := xs_W hP1 hP2 hS.1 hM e9 hT1
    replace hM := xs_M hP2 hM hk1
    replace hS := hS1
    clear hS1
    refine lv_aload_n (cx_x X) (cx_b X) dL_law_959 rfl (lv_at hl 2 rfl) ?_
    refine af_W (mc := 0) (ms := 0) (rn_V (As := []) (rest := [.int r]) X (c_X5_undo l D y A F R  r F1 R1 _ hI hm1) vq_L_160 ⟨rfl, rfl⟩ ⟨Nat.le_of_ble_eq_true rfl, Nat.le_of_ble_eq_true rfl⟩ (rec_5 X hM) ⟨rfl, hM⟩ rfl hl.1 rfl (Nat.le_of_ble_eq_true rfl) dL_law_960 ⟨by show 100 + 6 * t + 0 + 0 ≤ 600000; omega, by show 4000 + 220 * t + 0 + 0 ≤ 7302250; omega⟩) hS (in_A hAs hS.1) (fun H2 locs2 hM2 hz2 hk2 hS => ?_)
    refine lv_icmp_eq (tgt := 1014) (cx_x X) (cx_b X) dL_law_963 (by decide) (fun _ => ?_) (fun hc => absurd rfl hc)
    refine W.widen (k := 100 + 6 * (t + 1)) (n := 4000 + 220 * (t + 1)) (by omega) (by omega) ?_
    obtain ⟨P1, ad1, NB1, g1, g2, g3, g4⟩ := hx
    exact K _ _ _ _ _ _ _ _ _ _ ⟨P1, ad1, NB1, g1, g2, g3, tp_f2 g4 g2 hk2⟩ hM2 hrel hS _ hl
  · refine lv_aload_n (cx_x X) (cx_b X) dL_law_955 rfl (lv_at hl 1 rfl) ?_
    refine af_W (mc := 0) (ms := 0) (rn_V (As := []) (rest := []) X (c_undo1 l D y P ad NB p c0 k U V N r c1 k1 U1 V1 N1 _ hx1) vq_L_157 ⟨rfl, rfl⟩ ⟨Nat.le_of_ble_eq_true rfl, Nat.le_of_ble_eq_true rfl⟩ (rec_4 X (tp_w hT)) ⟨rfl, hT⟩ rfl hl.1 rfl (Nat.le_of_ble_eq_true rfl) dL_law_956 ⟨by show 100 + 6 * t + 0 ≤ 600000; omega, by show 4000 + 220 * t + 0 ≤ 7302250; omega⟩) hS (in_P hP1 hS.1) (fun H1 locs1 hW hz1 hk1 hS1 => ?_)
    obtain ⟨ad1, NB1, e9, hT1⟩ := hW
    have hx := xs_W hP1 hP2 hS.1 hM e9 hT1
    replace hM := xs_M hP2 hM hk1
    replace hS := hS1
    clear hS1
    refine lv_aload_n (cx_x X) (cx_b X) dL_law_959 rfl (lv_at hl 2 rfl) ?_
    refine af_W (mc := 0) (ms := 0) (rn_V (As := []) (rest := [.int r]) X (c_X5_undo l D y A F R  r F1 R1 _ hI hm1) vq_L_160 ⟨rfl, rfl⟩ ⟨Nat.le_of_ble_eq_true rfl, Nat.le_of_ble_eq_true rfl⟩ (rec_5 X hM) ⟨rfl, hM⟩ rfl hl.1 rfl (Nat.le_of_ble_eq_true rfl) dL_law_960 ⟨by show 100 + 6 * t + 0 + 0 ≤ 600000; omega, by show 4000 + 220 * t + 0 + 0 ≤ 7302250; omega⟩) hS (in_A hAs hS.1) (fun H2 locs2 hM2 hz2 hk2 hS => ?_)
    refine lv_icmp_eq (tgt := 1014) (cx_x X) (cx_b X) dL_law_963 (by decide) (fun _ => ?_) (fun hc => absurd rfl hc)
    refine W.widen (k := 100 + 6 * (t + 1)) (n := 4000 + 220 * (t + 1)) (by omega) (by omega) ?_
    obtain ⟨P1, ad1, NB1, g1, g2, g3, g4⟩ := hx
    exact K _ _ _ _ _ _ _ _ _ _ ⟨P1, ad1, NB1, g1, g2, g3, tp_f2 g4 g2 hk2⟩ hM2 hrel hS _ hl
set_option maxHeartbeats 4000000 in
set_option maxRecDepth 100000 in
theorem lc_36 {p0 : Program} {l : Launch} {e : Env} {s : State} {m : MethodId} {args : Array Value} {below : List Frame} {meth : Method} {co : Code} {D : va_G} {y : Nat → ClassId} {b L : Nat} {xs : Nat → Int32} {rt : Option FieldType} {Q0 : State → Prop} {A : Nat → Nat} {qx t i : Nat} {x3 : Int32} (X : cx p0 s m args meth co cL_law 4 rt RL D y) (hX : va_X b L xs s s.heap) (hbl : b < s.heap.size) (hI : aj_s 7 A) (hAs : ∀ j, j < 7 → s.heap.size ≤ A j) (ht : t < 512) (ex3 : x3 = nI i) (hi : i + 5 ≤ L) (hL : L ≤ 2560) (K : ∀ (p : Nat → Bool) (c k : Nat) (U : Nat → Int32) (V : Nat → Nat → Int32) (N : Nat → ns_T) (F : Nat → Int32) (R : Nat → Nat → Int32) (H : Heap) (locs : List Loc), xs_s D y s.heap.size qx A p c k U V N H → va_P D vwCl (w5_s y A F R) H → rl_s p c k U V N F R → va_S (fun q : Nat => s.heap.size ≤ q) s.heap H locs → ∀ ls, lv_has ls 4 [(0, .ref b), (1, .ref qx), (2, .ref (A 0)), (3, .int x3)] → W p0 l e room_1 s m args below meth co H locs (100 + 6 * (t + 1)) (4000 + 220 * (t + 1)) Q0 (F0 m 1014 ls [])) {p : Nat → Bool} {c k : Nat} {U : Nat → Int32} {V : Nat → Nat → Int32} {N : Nat → ns_T} {F : Nat → Int32} {R : Nat → Nat → Int32} {H : Heap} {locs : List Loc} (hx : xs_s D y s.heap.size qx A p c k U V N H) (hM : va_P D vwCl (w5_s y A F R) H) (hrel : rl_s p c k U V N F R) (hS : va_S (fun q : Nat => s.heap.size ≤ q) s.heap H locs) {ls : Array Slot} (hl : lv_has ls 4 [(0, .ref b), (1, .ref qx), (2, .ref (A 0)), (3, .int x3)]) : W p0 l e room_1 s m args below meth co H locs (100 + 6 * t) (4000 + 220 * t) Q0 (F0 m 968 ls []) := by
  obtain ⟨P, ad, NB, hP1, hP2, rfl, hT⟩ := hx
  have hbA : ¬ (fun q : Nat => s.heap.size ≤ q) b := Nat.not_le.mpr hbl
  have hj1 : vp_in (x3 + (1 : Int32)) L := by rw [ex3, show nI i + (1 : Int32) = nI (i + 1) from nI_add i 1]; exact vp_in_nI (by omega) (by omega)
  rcases sim_save hrel (xs (x3 + (1 : Int32)).toNatClampNeg) with ⟨hb, r, c1, k1, U1, V1, N1, F1, R1, hx1, hm1, hrel⟩ | ⟨ea, hp, r, c1, k1, U1, V1, N1, F1, R1, hx1, hm1, hrel⟩ | ⟨ea, hp, r, c1, k1, U1, V1, N1, F1, R1, hx1, hm1, hrel⟩ | ⟨ea, hp, r, c1, k1, U1, V1, N1, F1, R1, hx1, hm1, hrel⟩ | ⟨ea, hp, r, c1, k1, U1, V1, N1, F1, R1, hx1, hm1, hrel⟩
  · refine lv_aload_n (cx_x X) (cx_b X) dL_law_968 rfl (lv_at hl 1 rfl) ?_
    refine lv_aload_n (cx_x X) (cx_b X) dL_law_969 rfl (lv_at hl 0 rfl) ?_
    refine lv_iload_n (cx_x X) (cx_b X) dL_law_970 rfl (lv_at hl 3 rfl) ?_
    refine lv_iconst (v := (1 : Int32)) (cx_x X) (cx_b X) dL_law_971 (by decide) ?_
    refine lv_iadd (cx_x X) (cx_b X) dL_law_972 ?_
    refine va_sld (cx_x X) (cx_b X) hX hbl hbA hS hj1 dL_law_973 ?_
    refine af_W (mc := 5) (ms := 220) (rn_V (As := [.int (xs (x3 + (1 : Int32)).toNatClampNeg)]) (rest := []) X (c_saveE l D y P ad NB p c k U V N (xs (x3 + (1 : Int32)).toNatClampNeg) r c1 k1 U1 V1 N1 _ hb hx1) vq_L_161 ⟨rfl, rfl⟩ ⟨Nat.le_of_ble_eq_true rfl, Nat.le_of_ble_eq_true rfl⟩ (rec_4 X (tp_w hT)) ⟨rfl, hT⟩ rfl hl.1 rfl (Nat.le_of_ble_eq_true rfl) dL_law_974 ⟨by show 100 + 6 * t + 5 ≤ 600000; omega, by show 4000 + 220 * t + 220 ≤ 7302250; omega⟩) hS (in_P hP1 hS.1) (fun H1 locs1 hW hz1 hk1 hS1 => ?_)
    obtain ⟨ad1, NB1, e9, hT1⟩ := hW
    have hx := xs_W hP1 hP2 hS.1 hM e9 hT1
    replace hM := xs_M hP2 hM hk1
    replace hS := hS1
    clear hS1
    refine lv_aload_n (cx_x X) (cx_b X) dL_law_977 rfl (lv_at hl 2 rfl) ?_
    refine lv_aload_n (cx_x X) (cx_b X) dL_law_978 rfl (lv_at hl 0 rfl) ?_
    refine lv_iload_n (cx_x X) (cx_b X) dL_law_979 rfl (lv_at hl 3 rfl) ?_
    refine lv_iconst (v := (1 : Int32)) (cx_x X) (cx_b X) dL_law_980 (by decide) ?_
    refine lv_iadd (cx_x X) (cx_b X) dL_law_981 ?_
    refine va_sld (cx_x X) (cx_b X) hX hbl hbA hS hj1 dL_law_982 ?_
    refine af_W (mc := 0) (ms := 0) (rn_V (As := [.int (xs (x3 + (1 : Int32)).toNatClampNeg)]) (rest := [.int r]) X (c_X5_save l D y A F R (xs (x3 + (1 : Int32)).toNatClampNeg) r F1 R1 _ hI hm1) vq_L_164 ⟨rfl, rfl⟩ ⟨Nat.le_of_ble_eq_true rfl, Nat.le_of_ble_eq_true rfl⟩ (rec_5 X hM) ⟨rfl, hM⟩ rfl hl.1 rfl (Nat.le_of_ble_eq_true rfl) dL_law_983 ⟨by show 100 + 6 * t + 5 + 0 ≤ 600000; omega, by show 4000 + 220 * t + 220 + 0 ≤ 7302250; omega⟩) hS (in_A hAs hS.1) (fun H2 locs2 hM2 hz2 hk2 hS => ?_)
    refine lv_icmp_eq (tgt := 1014) (cx_x X) (cx_b X) dL_law_986 (by decide) (fun _ => ?_) (fun hc => absurd rfl hc)
    refine W.widen (k := 100 + 6 * (t + 1)) (n := 4000 + 220 * (t + 1)) (by omega) (by omega) ?_
    obtain ⟨P1, ad1, NB1, g1, g2, g3, g4⟩ := hx
    exact K _ _ _ _ _ _ _ _ _ _ ⟨P1, ad1, NB1, g1, g2, g3, tp_f2 g4 g2 hk2⟩ hM2 hrel hS _ hl
  · refine lv_aload_n (cx_x X) (cx_b X) dL_law_968 rfl (lv_at hl 1 rfl) ?_
    refine lv_aload_n (cx_x X) (cx_b X) dL_law_969 rfl (lv_at hl 0 rfl) ?_
    refine lv_iload_n (cx_x X) (cx_b X) dL_law_970 rfl (lv_at hl 3 rfl) ?_
    refine lv_iconst (v := (1 : Int32)) (cx_x X) (cx_b X) dL_law_971 (by decide) ?_
    refine lv_iadd (cx_x X) (cx_b X) dL_law_972 ?_
    refine va_sld (cx_x X) (cx_b X) hX hbl hbA hS hj1 dL_law_973 ?_
    rw [ea]
    refine af_W (mc := 5) (ms := 220) (rn_V (As := [.int (0 : Int32)]) (rest := []) X (c_saveN0 l D y P ad NB p c k U V N r c1 k1 U1 V1 N1 _ hp hx1) vq_L_161 ⟨rfl, rfl⟩ ⟨Nat.le_of_ble_eq_true rfl, Nat.le_of_ble_eq_true rfl⟩ (rec_4 X (tp_w hT)) ⟨rfl, hT⟩ rfl hl.1 rfl (Nat.le_of_ble_eq_true rfl) dL_law_974 ⟨by show 100 + 6 * t + 5 ≤ 600000; omega, by show 4000 + 220 * t + 220 ≤ 7302250; omega⟩) hS (in_P hP1 hS.1) (fun H1 locs1 hW hz1 hk1 hS1 => ?_)
    obtain ⟨ad1, NB1, e9, hT1⟩ := hW
    have hx := xs_W hP1 hP2 hS.1 hM e9 hT1
    replace hM := xs_M hP2 hM hk1
    replace hS := hS1
    clear hS1
    refine lv_aload_n (cx_x X) (cx_b X) dL_law_977 rfl (lv_at hl 2 rfl) ?_
    refine lv_aload_n (cx_x X) (cx_b X) dL_law_978 rfl (lv_at hl 0 rfl) ?_
    refine lv_iload_n (cx_x X) (cx_b X) dL_law_979 rfl (lv_at hl 3 rfl) ?_
    refine lv_iconst (v := (1 : Int32)) (cx_x X) (cx_b X) dL_law_980 (by decide) ?_
    refine lv_iadd (cx_x X) (cx_b X) dL_law_981 ?_
    refine va_sld (cx_x X) (cx_b X) hX hbl hbA hS hj1 dL_law_982 ?_
    refine af_W (mc := 0) (ms := 0) (rn_V (As := [.int (xs (x3 + (1 : Int32)).toNatClampNeg)]) (rest := [.int r]) X (c_X5_save l D y A F R (xs (x3 + (1 : Int32)).toNatClampNeg) r F1 R1 _ hI hm1) vq_L_164 ⟨rfl, rfl⟩ ⟨Nat.le_of_ble_eq_true rfl, Nat.le_of_ble_eq_true rfl⟩ (rec_5 X hM) ⟨rfl, hM⟩ rfl hl.1 rfl (Nat.le_of_ble_eq_true rfl) dL_law_983 ⟨by show 100 + 6 * t + 5 + 0 ≤ 600000; omega, by show 4000 + 220 * t + 220 + 0 ≤ 7302250; omega⟩) hS (in_A hAs hS.1) (fun H2 locs2 hM2 hz2 hk2 hS => ?_)
    refine lv_icmp_eq (tgt := 1014) (cx_x X) (cx_b X) dL_law_986 (by decide) (fun _ => ?_) (fun hc => absurd rfl hc)
    refine W.widen (k := 100 + 6 * (t + 1)) (n := 4000 + 220 * (t + 1)) (by omega) (by omega) ?_
    obtain ⟨P1, ad1, NB1, g1, g2, g3, g4⟩ := hx
    exact K _ _ _ _ _ _ _ _ _ _ ⟨P1, ad1, NB1, g1, g2, g3, tp_f2 g4 g2 hk2⟩ hM2 hrel hS _ hl
  · refine lv_aload_n (cx_x X) (cx_b X) dL_law_968 rfl (lv_at hl 1 rfl) ?_
    refine lv_aload_n (cx_x X) (cx_b X) dL_law_969 rfl (lv_at hl 0 rfl) ?_
    refine lv_iload_n (cx_x X) (cx_b X) dL_law_970 rfl (lv_at hl 3 rfl) ?_
    refine lv_iconst (v := (1 : Int32)) (cx_x X) (cx_b X) dL_law_971 (by decide) ?_
    refine lv_iadd (cx_x X) (cx_b X) dL_law_972 ?_
    refine va_sld (cx_x X) (cx_b X) hX hbl hbA hS hj1 dL_law_973 ?_
    rw [ea]
    refine af_W (mc := 5) (ms := 220) (rn_V (As := [.int (0 : Int32)]) (rest := []) X (c_saveS0 l D y P ad NB p c k U V N r c1 k1 U1 V1 N1 _ hp hx1) vq_L_161 ⟨rfl, rfl⟩ ⟨Nat.le_of_ble_eq_true rfl, Nat.le_of_ble_eq_true rfl⟩ (rec_4 X (tp_w hT)) ⟨rfl, hT⟩ rfl hl.1 rfl (Nat.le_of_ble_eq_true rfl) dL_law_974 ⟨by show 100 + 6 * t + 5 ≤ 600000; omega, by show 4000 + 220 * t + 220 ≤ 7302250; omega⟩) hS (in_P hP1 hS.1) (fun H1 locs1 hW hz1 hk1 hS1 => ?_)
    obtain ⟨ad1, NB1, e9, hT1⟩ := hW
    have hx := xs_W hP1 hP2 hS.1 hM e9 hT1
    replace hM := xs_M hP2 hM hk1
    replace hS := hS1
    clear hS1
    refine lv_aload_n (cx_x X) (cx_b X) dL_law_977 rfl (lv_at hl 2 rfl) ?_
    refine lv_aload_n (cx_x X) (cx_b X) dL_law_978 rfl (lv_at hl 0 rfl) ?_
    refine lv_iload_n (cx_x X) (cx_b X) dL_law_979 rfl (lv_at hl 3 rfl) ?_
    refine lv_iconst (v := (1 : Int32)) (cx_x X) (cx_b X) dL_law_980 (by decide) ?_
    refine lv_iadd (cx_x X) (cx_b X) dL_law_981 ?_
    refine va_sld (cx_x X) (cx_b X) hX hbl hbA hS hj1 dL_law_982 ?_
    refine af_W (mc := 0) (ms := 0) (rn_V (As := [.int (xs (x3 + (1 : Int32)).toNatClampNeg)]) (rest := [.int r]) X (c_X5_save l D y A F R (xs (x3 + (1 : Int32)).toNatClampNeg) r F1 R1 _ hI hm1) vq_L_164 ⟨rfl, rfl⟩ ⟨Nat.le_of_ble_eq_true rfl, Nat.le_of_ble_eq_true rfl⟩ (rec_5 X hM) ⟨rfl, hM⟩ rfl hl.1 rfl (Nat.le_of_ble_eq_true rfl) dL_law_983 ⟨by show 100 + 6 * t + 5 + 0 ≤ 600000; omega, by show 4000 + 220 * t + 220 + 0 ≤ 7302250; omega⟩) hS (in_A hAs hS.1) (fun H2 locs2 hM2 hz2 hk2 hS => ?_)
    refine lv_icmp_eq (tgt := 1014) (cx_x X) (cx_b X) dL_law_986 (by decide) (fun _ => ?_) (fun hc => absurd rfl hc)
    refine W.widen (k := 100 + 6 * (t + 1)) (n := 4000 + 220 * (t + 1)) (by omega) (by omega) ?_
    obtain ⟨P1, ad1, NB1, g1, g2, g3, g4⟩ := hx
    exact K _ _ _ _ _ _ _ _ _ _ ⟨P1, ad1, NB1, g1, g2, g3, tp_f2 g4 g2 hk2⟩ hM2 hrel hS _ hl
  · refine lv_aload_n (cx_x X) (cx_b X) dL_law_968 rfl (lv_at hl 1 rfl) ?_
    refine lv_aload_n (cx_x X) (cx_b X) dL_law_969 rfl (lv_at hl 0 rfl) ?_
    refine lv_iload_n (cx_x X) (cx_b X) dL_law_970 rfl (lv_at hl 3 rfl) ?_
    refine lv_iconst (v := (1 : Int32)) (cx_x X) (cx_b X) dL_law_971 (by decide) ?_
    refine lv_iadd (cx_x X) (cx_b X) dL_law_972 ?_
    refine va_sld (cx_x X) (cx_b X) hX hbl hbA hS hj1 dL_law_973 ?_
    rw [ea]
    refine af_W (mc := 5) (ms := 220) (rn_V (As := [.int (1 : Int32)]) (rest := []) X (c_saveN1 l D y P ad NB p c k U V N r c1 k1 U1 V1 N1 _ hp hx1) vq_L_161 ⟨rfl, rfl⟩ ⟨Nat.le_of_ble_eq_true rfl, Nat.le_of_ble_eq_true rfl⟩ (rec_4 X (tp_w hT)) ⟨rfl, hT⟩ rfl hl.1 rfl (Nat.le_of_ble_eq_true rfl) dL_law_974 ⟨by show 100 + 6 * t + 5 ≤ 600000; omega, by show 4000 + 220 * t + 220 ≤ 7302250; omega⟩) hS (in_P hP1 hS.1) (fun H1 locs1 hW hz1 hk1 hS1 => ?_)
    obtain ⟨ad1, NB1, e9, hT1⟩ := hW
    have hx := xs_W hP1 hP2 hS.1 hM e9 hT1
    replace hM := xs_M hP2 hM hk1
    replace hS := hS1
    clear hS1
    refine lv_aload_n (cx_x X) (cx_b X) dL_law_977 rfl (lv_at hl 2 rfl) ?_
    refine lv_aload_n (cx_x X) (cx_b X) dL_law_978 rfl (lv_at hl 0 rfl) ?_
    refine lv_iload_n (cx_x X) (cx_b X) dL_law_979 rfl (lv_at hl 3 rfl) ?_
    refine lv_iconst (v := (1 : Int32)) (cx_x X) (cx_b X) dL_law_980 (by decide) ?_
    refine lv_iadd (cx_x X) (cx_b X) dL_law_981 ?_
    refine va_sld (cx_x X) (cx_b X) hX hbl hbA hS hj1 dL_law_982 ?_
    refine af_W (mc := 0) (ms := 0) (rn_V (As := [.int (xs (x3 + (1 : Int32)).toNatClampNeg)]) (rest := [.int r]) X (c_X5_save l D y A F R (xs (x3 + (1 : Int32)).toNatClampNeg) r F1 R1 _ hI hm1) vq_L_164 ⟨rfl, rfl⟩ ⟨Nat.le_of_ble_eq_true rfl, Nat.le_of_ble_eq_true rfl⟩ (rec_5 X hM) ⟨rfl, hM⟩ rfl hl.1 rfl (Nat.le_of_ble_eq_true rfl) dL_law_983 ⟨by show 100 + 6 * t + 5 + 0 ≤ 600000; omega, by show 4000 + 220 * t + 220 + 0 ≤ 7302250; omega⟩) hS (in_A hAs hS.1) (fun H2 locs2 hM2 hz2 hk2 hS => ?_)
    refine lv_icmp_eq (tgt := 1014) (cx_x X) (cx_b X) dL_law_986 (by decide) (fun _ => ?_) (fun hc => absurd rfl hc)
    refine W.widen (k := 100 + 6 * (t + 1)) (n := 4000 + 220 * (t + 1)) (by omega) (by omega) ?_
    obtain ⟨P1, ad1, NB1, g1, g2, g3, g4⟩ := hx
    exact K _ _ _ _ _ _ _ _ _ _ ⟨P1, ad1, NB1, g1, g2, g3, tp_f2 g4 g2 hk2⟩ hM2 hrel hS _ hl
  · refine lv_aload_n (cx_x X) (cx_b X) dL_law_968 rfl (lv_at hl 1 rfl) ?_
    refine lv_aload_n (cx_x X) (cx_b X) dL_law_969 rfl (lv_at hl 0 rfl) ?_
    refine lv_iload_n (cx_x X) (cx_b X) dL_law_970 rfl (lv_at hl 3 rfl) ?_
    refine lv_iconst (v := (1 : Int32)) (cx_x X) (cx_b X) dL_law_971 (by decide) ?_
    refine lv_iadd (cx_x X) (cx_b X) dL_law_972 ?_
    refine va_sld (cx_x X) (cx_b X) hX hbl hbA hS hj1 dL_law_973 ?_
    rw [ea]
    refine af_W (mc := 5) (ms := 220) (rn_V (As := [.int (1 : Int32)]) (rest := []) X (c_saveS1 l D y P ad NB p c k U V N r c1 k1 U1 V1 N1 _ hp hx1) vq_L_161 ⟨rfl, rfl⟩ ⟨Nat.le_of_ble_eq_true rfl, Nat.le_of_ble_eq_true rfl⟩ (rec_4 X (tp_w hT)) ⟨rfl, hT⟩ rfl hl.1 rfl (Nat.le_of_ble_eq_true rfl) dL_law_974 ⟨by show 100 + 6 * t + 5 ≤ 600000; omega, by show 4000 + 220 * t + 220 ≤ 7302250; omega⟩) hS (in_P hP1 hS.1) (fun H1 locs1 hW hz1 hk1 hS1 => ?_)
    obtain ⟨ad1, NB1, e9, hT1⟩ := hW
    have hx := xs_W hP1 hP2 hS.1 hM e9 hT1
    replace hM := xs_M hP2 hM hk1
    replace hS := hS1
    clear hS1
    refine lv_aload_n (cx_x X) (cx_b X) dL_law_977 rfl (lv_at hl 2 rfl) ?_
    refine lv_aload_n (cx_x X) (cx_b X) dL_law_978 rfl (lv_at hl 0 rfl) ?_
    refine lv_iload_n (cx_x X) (cx_b X) dL_law_979 rfl (lv_at hl 3 rfl) ?_
    refine lv_iconst (v := (1 : Int32)) (cx_x X) (cx_b X) dL_law_980 (by decide) ?_
    refine lv_iadd (cx_x X) (cx_b X) dL_law_981 ?_
    refine va_sld (cx_x X) (cx_b X) hX hbl hbA hS hj1 dL_law_982 ?_
    refine af_W (mc := 0) (ms := 0) (rn_V (As := [.int (xs (x3 + (1 : Int32)).toNatClampNeg)]) (rest := [.int r]) X (c_X5_save l D y A F R (xs (x3 + (1 : Int32)).toNatClampNeg) r F1 R1 _ hI hm1) vq_L_164 ⟨rfl, rfl⟩ ⟨Nat.le_of_ble_eq_true rfl, Nat.le_of_ble_eq_true rfl⟩ (rec_5 X hM) ⟨rfl, hM⟩ rfl hl.1 rfl (Nat.le_of_ble_eq_true rfl) dL_law_983 ⟨by show 100 + 6 * t + 5 + 0 ≤ 600000; omega, by show 4000 + 220 * t + 220 + 0 ≤ 7302250; omega⟩) hS (in_A hAs hS.1) (fun H2 locs2 hM2 hz2 hk2 hS => ?_)
    refine lv_icmp_eq (tgt := 1014) (cx_x X) (cx_b X) dL_law_986 (by decide) (fun _ => ?_) (fun hc => absurd rfl hc)
    refine W.widen (k := 100 + 6 * (t + 1)) (n := 4000 + 220 * (t + 1)) (by omega) (by omega) ?_
    obtain ⟨P1, ad1, NB1, g1, g2, g3, g4⟩ := hx
    exact K _ _ _ _ _ _ _ _ _ _ ⟨P1, ad1, NB1, g1, g2, g3, tp_f2 g4 g2 hk2⟩ hM2 hrel hS _ hl
set_option maxHeartbeats 4000000 in
set_option maxRecDepth 100000 in
theorem lc_37 {p0 : Program} {l : Launch} {e : Env} {s : State} {m : MethodId} {args : Array Value} {below : List Frame} {meth : Method} {co : Code} {D : va_G} {y : Nat → ClassId} {b L : Nat} {xs : Nat → Int32} {rt : Option FieldType} {Q0 : State → Prop} {A : Nat → Nat} {qx t i : Nat} {x3 : Int32} (X : cx p0 s m args meth co cL_law 4 rt RL D y) (hX : va_X b L xs s s.heap) (hbl : b < s.heap.size) (hI : aj_s 7 A) (hAs : ∀ j, j < 7 → s.heap.size ≤ A j) (ht : t < 512) (ex3 : x3 = nI i) (hi : i + 5 ≤ L) (hL : L ≤ 2560) (K : ∀ (p : Nat → Bool) (c k : Nat) (U : Nat → Int32) (V : Nat → Nat → Int32) (N : Nat → ns_T) (F : Nat → Int32) (R : Nat → Nat → Int32) (H : Heap) (locs : List Loc), xs_s D y s.heap.size qx A p c k U V N H → va_P D vwCl (w5_s y A F R) H → rl_s p c k U V N F R → va_S (fun q : Nat => s.heap.size ≤ q) s.heap H locs → ∀ ls, lv_has ls 4 [(0, .ref b), (1, .ref qx), (2, .ref (A 0)), (3, .int x3)] → W p0 l e room_1 s m args below meth co H locs (100 + 6 * (t + 1)) (4000 + 220 * (t + 1)) Q0 (F0 m 1014 ls [])) {p : Nat → Bool} {c k : Nat} {U : Nat → Int32} {V : Nat → Nat → Int32} {N : Nat → ns_T} {F : Nat → Int32} {R : Nat → Nat → Int32} {H : Heap} {locs : List Loc} (hx : xs_s D y s.heap.size qx A p c k U V N H) (hM : va_P D vwCl (w5_s y A F R) H) (hrel : rl_s p c k U V N F R) (hS : va_S (fun q : Nat => s.heap.size ≤ q) s.heap H locs) {ls : Array Slot} (hl : lv_has ls 4 [(0, .ref b), (1, .ref qx), (2, .ref (A 0)), (3, .int x3)]) : W p0 l e room_1 s m args below meth co H locs (100 + 6 * t) (4000 + 220 * t) Q0 (F0 m 991 ls []) := by
  obtain ⟨P, ad, NB, hP1, hP2, rfl, hT⟩ := hx
  have hbA : ¬ (fun q : Nat => s.heap.size ≤ q) b := Nat.not_le.mpr hbl
  have hj1 : vp_in (x3 + (1 : Int32)) L := by rw [ex3, show nI i + (1 : Int32) = nI (i + 1) from nI_add i 1]; exact vp_in_nI (by omega) (by omega)
  rcases sim_restore hrel (xs (x3 + (1 : Int32)).toNatClampNeg) with ⟨hb, r, c1, k1, U1, V1, N1, F1, R1, hx1, hm1, hrel⟩ | ⟨ea, hp, r, c1, k1, U1, V1, N1, F1, R1, hx1, hm1, hrel⟩ | ⟨ea, hp, r, c1, k1, U1, V1, N1, F1, R1, hx1, hm1, hrel⟩ | ⟨ea, hp, r, c1, k1, U1, V1, N1, F1, R1, hx1, hm1, hrel⟩ | ⟨ea, hp, r, c1, k1, U1, V1, N1, F1, R1, hx1, hm1, hrel⟩
  · refine lv_aload_n (cx_x X) (cx_b X) dL_law_991 rfl (lv_at hl 1 rfl) ?_
    refine lv_aload_n (cx_x X) (cx_b X) dL_law_992 rfl (lv_at hl 0 rfl) ?_
    refine lv_iload_n (cx_x X) (cx_b X) dL_law_993 rfl (lv_at hl 3 rfl) ?_
    refine lv_iconst (v := (1 : Int32)) (cx_x X) (cx_b X) dL_law_994 (by decide) ?_
    refine lv_iadd (cx_x X) (cx_b X) dL_law_995 ?_
    refine va_sld (cx_x X) (cx_b X) hX hbl hbA hS hj1 dL_law_996 ?_
    refine af_W (mc := 0) (ms := 0) (rn_V (As := [.int (xs (x3 + (1 : Int32)).toNatClampNeg)]) (rest := []) X (c_restoreE l D y P ad NB p c k U V N (xs (x3 + (1 : Int32)).toNatClampNeg) r c1 k1 U1 V1 N1 _ hb hx1) vq_L_165 ⟨rfl, rfl⟩ ⟨Nat.le_of_ble_eq_true rfl, Nat.le_of_ble_eq_true rfl⟩ (rec_4 X (tp_w hT)) ⟨rfl, hT⟩ rfl hl.1 rfl (Nat.le_of_ble_eq_true rfl) dL_law_997 ⟨by show 100 + 6 * t + 0 ≤ 600000; omega, by show 4000 + 220 * t + 0 ≤ 7302250; omega⟩) hS (in_P hP1 hS.1) (fun H1 locs1 hW hz1 hk1 hS1 => ?_)
    obtain ⟨ad1, NB1, e9, hT1⟩ := hW
    have hx := xs_W hP1 hP2 hS.1 hM e9 hT1
    replace hM := xs_M hP2 hM hk1
    replace hS := hS1
    clear hS1
    refine lv_aload_n (cx_x X) (cx_b X) dL_law_1000 rfl (lv_at hl 2 rfl) ?_
    refine lv_aload_n (cx_x X) (cx_b X) dL_law_1001 rfl (lv_at hl 0 rfl) ?_
    refine lv_iload_n (cx_x X) (cx_b X) dL_law_1002 rfl (lv_at hl 3 rfl) ?_
    refine lv_iconst (v := (1 : Int32)) (cx_x X) (cx_b X) dL_law_1003 (by decide) ?_
    refine lv_iadd (cx_x X) (cx_b X) dL_law_1004 ?_
    refine va_sld (cx_x X) (cx_b X) hX hbl hbA hS hj1 dL_law_1005 ?_
    refine af_W (mc := 0) (ms := 0) (rn_V (As := [.int (xs (x3 + (1 : Int32)).toNatClampNeg)]) (rest := [.int r]) X (c_X5_restore l D y A F R (xs (x3 + (1 : Int32)).toNatClampNeg) r F1 R1 _ hI hm1) vq_L_168 ⟨rfl, rfl⟩ ⟨Nat.le_of_ble_eq_true rfl, Nat.le_of_ble_eq_true rfl⟩ (rec_5 X hM) ⟨rfl, hM⟩ rfl hl.1 rfl (Nat.le_of_ble_eq_true rfl) dL_law_1006 ⟨by show 100 + 6 * t + 0 + 0 ≤ 600000; omega, by show 4000 + 220 * t + 0 + 0 ≤ 7302250; omega⟩) hS (in_A hAs hS.1) (fun H2 locs2 hM2 hz2 hk2 hS => ?_)
    refine lv_icmp_eq (tgt := 1014) (cx_x X) (cx_b X) dL_law_1009 (by decide) (fun _ => ?_) (fun hc => absurd rfl hc)
    refine W.widen (k := 100 + 6 * (t + 1)) (n := 4000 + 220 * (t + 1)) (by omega) (by omega) ?_
    obtain ⟨P1, ad1, NB1, g1, g2, g3, g4⟩ := hx
    exact K _ _ _ _ _ _ _ _ _ _ ⟨P1, ad1, NB1, g1, g2, g3, tp_f2 g4 g2 hk2⟩ hM2 hrel hS _ hl
  · refine lv_aload_n (cx_x X) (cx_b X) dL_law_991 rfl (lv_at hl 1 rfl) ?_
    refine lv_aload_n (cx_x X) (cx_b X) dL_law_992 rfl (lv_at hl 0 rfl) ?_
    refine lv_iload_n (cx_x X) (cx_b X) dL_law_993 rfl (lv_at hl 3 rfl) ?_
    refine lv_iconst (v := (1 : Int32)) (cx_x X) (cx_b X) dL_law_994 (by decide) ?_
    refine lv_iadd (cx_x X) (cx_b X) dL_law_995 ?_
    refine va_sld (cx_x X) (cx_b X) hX hbl hbA hS hj1 dL_law_996 ?_
    rw [ea]
    refine af_W (mc := 0) (ms := 0) (rn_V (As := [.int (0 : Int32)]) (rest := []) X (c_restoreN0 l D y P ad NB p c k U V N r c1 k1 U1 V1 N1 _ hp hx1) vq_L_165 ⟨rfl, rfl⟩ ⟨Nat.le_of_ble_eq_true rfl, Nat.le_of_ble_eq_true rfl⟩ (rec_4 X (tp_w hT)) ⟨rfl, hT⟩ rfl hl.1 rfl (Nat.le_of_ble_eq_true rfl) dL_law_997 ⟨by show 100 + 6 * t + 0 ≤ 600000; omega, by show 4000 + 220 * t + 0 ≤ 7302250; omega⟩) hS (in_P hP1 hS.1) (fun H1 locs1 hW hz1 hk1 hS1 => ?_)
    obtain ⟨ad1, NB1, e9, hT1⟩ := hW
    have hx := xs_W hP1 hP2 hS.1 hM e9 hT1
    replace hM := xs_M hP2 hM hk1
    replace hS := hS1
    clear hS1
    refine lv_aload_n (cx_x X) (cx_b X) dL_law_1000 rfl (lv_at hl 2 rfl) ?_
    refine lv_aload_n (cx_x X) (cx_b X) dL_law_1001 rfl (lv_at hl 0 rfl) ?_
    refine lv_iload_n (cx_x X) (cx_b X) dL_law_1002 rfl (lv_at hl 3 rfl) ?_
    refine lv_iconst (v := (1 : Int32)) (cx_x X) (cx_b X) dL_law_1003 (by decide) ?_
    refine lv_iadd (cx_x X) (cx_b X) dL_law_1004 ?_
    refine va_sld (cx_x X) (cx_b X) hX hbl hbA hS hj1 dL_law_1005 ?_
    refine af_W (mc := 0) (ms := 0) (rn_V (As := [.int (xs (x3 + (1 : Int32)).toNatClampNeg)]) (rest := [.int r]) X (c_X5_restore l D y A F R (xs (x3 + (1 : Int32)).toNatClampNeg) r F1 R1 _ hI hm1) vq_L_168 ⟨rfl, rfl⟩ ⟨Nat.le_of_ble_eq_true rfl, Nat.le_of_ble_eq_true rfl⟩ (rec_5 X hM) ⟨rfl, hM⟩ rfl hl.1 rfl (Nat.le_of_ble_eq_true rfl) dL_law_1006 ⟨by show 100 + 6 * t + 0 + 0 ≤ 600000; omega, by show 4000 + 220 * t + 0 + 0 ≤ 7302250; omega⟩) hS (in_A hAs hS.1) (fun H2 locs2 hM2 hz2 hk2 hS => ?_)
    refine lv_icmp_eq (tgt := 1014) (cx_x X) (cx_b X) dL_law_1009 (by decide) (fun _ => ?_) (fun hc => absurd rfl hc)
    refine W.widen (k := 100 + 6 * (t + 1)) (n := 4000 + 220 * (t + 1)) (by omega) (by omega) ?_
    obtain ⟨P1, ad1, NB1, g1, g2, g3, g4⟩ := hx
    exact K _ _ _ _ _ _ _ _ _ _ ⟨P1, ad1, NB1, g1, g2, g3, tp_f2 g4 g2 hk2⟩ hM2 hrel hS _ hl
  · refine lv_aload_n (cx_x X) (cx_b X) dL_law_991 rfl (lv_at hl 1 rfl) ?_
    refine lv_aload_n (cx_x X) (cx_b X) dL_law_992 rfl (lv_at hl 0 rfl) ?_
    refine lv_iload_n (cx_x X) (cx_b X) dL_law_993 rfl (lv_at hl 3 rfl) ?_
    refine lv_iconst (v := (1 : Int32)) (cx_x X) (cx_b X) dL_law_994 (by decide) ?_
    refine lv_iadd (cx_x X) (cx_b X) dL_law_995 ?_
    refine va_sld (cx_x X) (cx_b X) hX hbl hbA hS hj1 dL_law_996 ?_
    rw [ea]
    refine af_W (mc := 0) (ms := 0) (rn_V (As := [.int (0 : Int32)]) (rest := []) X (c_restoreS0 l D y P ad NB p c k U V N r c1 k1 U1 V1 N1 _ hp hx1) vq_L_165 ⟨rfl, rfl⟩ ⟨Nat.le_of_ble_eq_true rfl, Nat.le_of_ble_eq_true rfl⟩ (rec_4 X (tp_w hT)) ⟨rfl, hT⟩ rfl hl.1 rfl (Nat.le_of_ble_eq_true rfl) dL_law_997 ⟨by show 100 + 6 * t + 0 ≤ 600000; omega, by show 4000 + 220 * t + 0 ≤ 7302250; omega⟩) hS (in_P hP1 hS.1) (fun H1 locs1 hW hz1 hk1 hS1 => ?_)
    obtain ⟨ad1, NB1, e9, hT1⟩ := hW
    have hx := xs_W hP1 hP2 hS.1 hM e9 hT1
    replace hM := xs_M hP2 hM hk1
    replace hS := hS1
    clear hS1
    refine lv_aload_n (cx_x X) (cx_b X) dL_law_1000 rfl (lv_at hl 2 rfl) ?_
    refine lv_aload_n (cx_x X) (cx_b X) dL_law_1001 rfl (lv_at hl 0 rfl) ?_
    refine lv_iload_n (cx_x X) (cx_b X) dL_law_1002 rfl (lv_at hl 3 rfl) ?_
    refine lv_iconst (v := (1 : Int32)) (cx_x X) (cx_b X) dL_law_1003 (by decide) ?_
    refine lv_iadd (cx_x X) (cx_b X) dL_law_1004 ?_
    refine va_sld (cx_x X) (cx_b X) hX hbl hbA hS hj1 dL_law_1005 ?_
    refine af_W (mc := 0) (ms := 0) (rn_V (As := [.int (xs (x3 + (1 : Int32)).toNatClampNeg)]) (rest := [.int r]) X (c_X5_restore l D y A F R (xs (x3 + (1 : Int32)).toNatClampNeg) r F1 R1 _ hI hm1) vq_L_168 ⟨rfl, rfl⟩ ⟨Nat.le_of_ble_eq_true rfl, Nat.le_of_ble_eq_true rfl⟩ (rec_5 X hM) ⟨rfl, hM⟩ rfl hl.1 rfl (Nat.le_of_ble_eq_true rfl) dL_law_1006 ⟨by show 100 + 6 * t + 0 + 0 ≤ 600000; omega, by show 4000 + 220 * t + 0 + 0 ≤ 7302250; omega⟩) hS (in_A hAs hS.1) (fun H2 locs2 hM2 hz2 hk2 hS => ?_)
    refine lv_icmp_eq (tgt := 1014) (cx_x X) (cx_b X) dL_law_1009 (by decide) (fun _ => ?_) (fun hc => absurd rfl hc)
    refine W.widen (k := 100 + 6 * (t + 1)) (n := 4000 + 220 * (t + 1)) (by omega) (by omega) ?_
    obtain ⟨P1, ad1, NB1, g1, g2, g3, g4⟩ := hx
    exact K _ _ _ _ _ _ _ _ _ _ ⟨P1, ad1, NB1, g1, g2, g3, tp_f2 g4 g2 hk2⟩ hM2 hrel hS _ hl
  · refine lv_aload_n (cx_x X) (cx_b X) dL_law_991 rfl (lv_at hl 1 rfl) ?_
    refine lv_aload_n (cx_x X) (cx_b X) dL_law_992 rfl (lv_at hl 0 rfl) ?_
    refine lv_iload_n (cx_x X) (cx_b X) dL_law_993 rfl (lv_at hl 3 rfl) ?_
    refine lv_iconst (v := (1 : Int32)) (cx_x X) (cx_b X) dL_law_994 (by decide) ?_
    refine lv_iadd (cx_x X) (cx_b X) dL_law_995 ?_
    refine va_sld (cx_x X) (cx_b X) hX hbl hbA hS hj1 dL_law_996 ?_
    rw [ea]
    refine af_W (mc := 0) (ms := 0) (rn_V (As := [.int (1 : Int32)]) (rest := []) X (c_restoreN1 l D y P ad NB p c k U V N r c1 k1 U1 V1 N1 _ hp hx1) vq_L_165 ⟨rfl, rfl⟩ ⟨Nat.le_of_ble_eq_true rfl, Nat.le_of_ble_eq_true rfl⟩ (rec_4 X (tp_w hT)) ⟨rfl, hT⟩ rfl hl.1 rfl (Nat.le_of_ble_eq_true rfl) dL_law_997 ⟨by show 100 + 6 * t + 0 ≤ 600000; omega, by show 4000 + 220 * t + 0 ≤ 7302250; omega⟩) hS (in_P hP1 hS.1) (fun H1 locs1 hW hz1 hk1 hS1 => ?_)
    obtain ⟨ad1, NB1, e9, hT1⟩ := hW
    have hx := xs_W hP1 hP2 hS.1 hM e9 hT1
    replace hM := xs_M hP2 hM hk1
    replace hS := hS1
    clear hS1
    refine lv_aload_n (cx_x X) (cx_b X) dL_law_1000 rfl (lv_at hl 2 rfl) ?_
    refine lv_aload_n (cx_x X) (cx_b X) dL_law_1001 rfl (lv_at hl 0 rfl) ?_
    refine lv_iload_n (cx_x X) (cx_b X) dL_law_1002 rfl (lv_at hl 3 rfl) ?_
    refine lv_iconst (v := (1 : Int32)) (cx_x X) (cx_b X) dL_law_1003 (by decide) ?_
    refine lv_iadd (cx_x X) (cx_b X) dL_law_1004 ?_
    refine va_sld (cx_x X) (cx_b X) hX hbl hbA hS hj1 dL_law_1005 ?_
    refine af_W (mc := 0) (ms := 0) (rn_V (As := [.int (xs (x3 + (1 : Int32)).toNatClampNeg)]) (rest := [.int r]) X (c_X5_restore l D y A F R (xs (x3 + (1 : Int32)).toNatClampNeg) r F1 R1 _ hI hm1) vq_L_168 ⟨rfl, rfl⟩ ⟨Nat.le_of_ble_eq_true rfl, Nat.le_of_ble_eq_true rfl⟩ (rec_5 X hM) ⟨rfl, hM⟩ rfl hl.1 rfl (Nat.le_of_ble_eq_true rfl) dL_law_1006 ⟨by show 100 + 6 * t + 0 + 0 ≤ 600000; omega, by show 4000 + 220 * t + 0 + 0 ≤ 7302250; omega⟩) hS (in_A hAs hS.1) (fun H2 locs2 hM2 hz2 hk2 hS => ?_)
    refine lv_icmp_eq (tgt := 1014) (cx_x X) (cx_b X) dL_law_1009 (by decide) (fun _ => ?_) (fun hc => absurd rfl hc)
    refine W.widen (k := 100 + 6 * (t + 1)) (n := 4000 + 220 * (t + 1)) (by omega) (by omega) ?_
    obtain ⟨P1, ad1, NB1, g1, g2, g3, g4⟩ := hx
    exact K _ _ _ _ _ _ _ _ _ _ ⟨P1, ad1, NB1, g1, g2, g3, tp_f2 g4 g2 hk2⟩ hM2 hrel hS _ hl
  · refine lv_aload_n (cx_x X) (cx_b X) dL_law_991 rfl (lv_at hl 1 rfl) ?_
    refine lv_aload_n (cx_x X) (cx_b X) dL_law_992 rfl (lv_at hl 0 rfl) ?_
    refine lv_iload_n (cx_x X) (cx_b X) dL_law_993 rfl (lv_at hl 3 rfl) ?_
    refine lv_iconst (v := (1 : Int32)) (cx_x X) (cx_b X) dL_law_994 (by decide) ?_
    refine lv_iadd (cx_x X) (cx_b X) dL_law_995 ?_
    refine va_sld (cx_x X) (cx_b X) hX hbl hbA hS hj1 dL_law_996 ?_
    rw [ea]
    refine af_W (mc := 0) (ms := 0) (rn_V (As := [.int (1 : Int32)]) (rest := []) X (c_restoreS1 l D y P ad NB p c k U V N r c1 k1 U1 V1 N1 _ hp hx1) vq_L_165 ⟨rfl, rfl⟩ ⟨Nat.le_of_ble_eq_true rfl, Nat.le_of_ble_eq_true rfl⟩ (rec_4 X (tp_w hT)) ⟨rfl, hT⟩ rfl hl.1 rfl (Nat.le_of_ble_eq_true rfl) dL_law_997 ⟨by show 100 + 6 * t + 0 ≤ 600000; omega, by show 4000 + 220 * t + 0 ≤ 7302250; omega⟩) hS (in_P hP1 hS.1) (fun H1 locs1 hW hz1 hk1 hS1 => ?_)
    obtain ⟨ad1, NB1, e9, hT1⟩ := hW
    have hx := xs_W hP1 hP2 hS.1 hM e9 hT1
    replace hM := xs_M hP2 hM hk1
    replace hS := hS1
    clear hS1
    refine lv_aload_n (cx_x X) (cx_b X) dL_law_1000 rfl (lv_at hl 2 rfl) ?_
    refine lv_aload_n (cx_x X) (cx_b X) dL_law_1001 rfl (lv_at hl 0 rfl) ?_
    refine lv_iload_n (cx_x X) (cx_b X) dL_law_1002 rfl (lv_at hl 3 rfl) ?_
    refine lv_iconst (v := (1 : Int32)) (cx_x X) (cx_b X) dL_law_1003 (by decide) ?_
    refine lv_iadd (cx_x X) (cx_b X) dL_law_1004 ?_
    refine va_sld (cx_x X) (cx_b X) hX hbl hbA hS hj1 dL_law_1005 ?_
    refine af_W (mc := 0) (ms := 0) (rn_V (As := [.int (xs (x3 + (1 : Int32)).toNatClampNeg)]) (rest := [.int r]) X (c_X5_restore l D y A F R (xs (x3 + (1 : Int32)).toNatClampNeg) r F1 R1 _ hI hm1) vq_L_168 ⟨rfl, rfl⟩ ⟨Nat.le_of_ble_eq_true rfl, Nat.le_of_ble_eq_true rfl⟩ (rec_5 X hM) ⟨rfl, hM⟩ rfl hl.1 rfl (Nat.le_of_ble_eq_true rfl) dL_law_1006 ⟨by show 100 + 6 * t + 0 + 0 ≤ 600000; omega, by show 4000 + 220 * t + 0 + 0 ≤ 7302250; omega⟩) hS (in_A hAs hS.1) (fun H2 locs2 hM2 hz2 hk2 hS => ?_)
    refine lv_icmp_eq (tgt := 1014) (cx_x X) (cx_b X) dL_law_1009 (by decide) (fun _ => ?_) (fun hc => absurd rfl hc)
    refine W.widen (k := 100 + 6 * (t + 1)) (n := 4000 + 220 * (t + 1)) (by omega) (by omega) ?_
    obtain ⟨P1, ad1, NB1, g1, g2, g3, g4⟩ := hx
    exact K _ _ _ _ _ _ _ _ _ _ ⟨P1, ad1, NB1, g1, g2, g3, tp_f2 g4 g2 hk2⟩ hM2 hrel hS _ hl
