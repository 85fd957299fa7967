/-! THE METHOD runScript, SIMULATED -/
theorem by_255 : ∀ b, b < 256 → (nI b).toInt8.toInt32 &&& 255 = nI b := by decide +kernel
theorem script_ {tb : Nat → Nat} {len : Nat} (ht : tbl_ tb len) {F : Nat → Int32} {R : Nat → Nat → Int32} (hF : F 6 = nI len) (hR : ∀ i, i < len → R 4 i &&& 255 = nI (tb i)) (a1 : Int32) (hi : sk_ tb len 0 < len) {v : Int32} {F' : Nat → Int32} {R' : Nat → Nat → Int32} (h : wh (m5_script_L36 a1) 2000 ((0 : Int32), fs_ F (sk_ tb len 0) 0, R) = some (v, F', R')) : m5_script F R a1 = some (v, F', R') := by
  have hl := ht.1
  have e0 : va_up (va_up F 9 (0 : Int32)) 10 (0 : Int32) = fs_ F 0 0 := rfl
  have q : ¬ fs_ F (sk_ tb len 0) 0 9 = fs_ F (sk_ tb len 0) 0 6 := by
    rw [fs_9, fs_x F _ 0 (by decide) (by decide), hF]
    exact fun z => absurd ((nI_eq (by omega) (by omega)).mp z) (by omega)
  unfold m5_script
  rw [e0, skip_r hF ht hR (Nat.zero_le _), bd_s]
  dsimp only
  rw [if_neg q, bd_s]
  unfold m5_script_J33
  rw [if_pos (by decide), fs_u10, h, bd_s]
  rfl
theorem script_0 {tb : Nat → Nat} {len : Nat} (ht : tbl_ tb len) {F : Nat → Int32} {R : Nat → Nat → Int32} (hF : F 6 = nI len) (hR : ∀ i, i < len → R 4 i &&& 255 = nI (tb i)) (hi : sk_ tb len 0 = len) : m5_script F R 0 = some (0, fs_ F len 1, R) := by
  have hl := ht.1
  have e0 : va_up (va_up F 9 (0 : Int32)) 10 (0 : Int32) = fs_ F 0 0 := rfl
  have q : fs_ F len 0 9 = fs_ F len 0 6 := by
    rw [fs_9, fs_x F _ 0 (by decide) (by decide), hF]
  unfold m5_script
  rw [e0, skip_r hF ht hR (Nat.zero_le _), bd_s]
  dsimp only
  rw [hi, if_pos q, bd_s]
  unfold m5_script_J33
  rw [if_pos (by decide), fs_u10, st_end hl hF (fun z => absurd z (by decide)), bd_s]
  rfl
/-- a text that is not a script -/
theorem rl_no {p : Nat → Bool} {c k : Nat} {U U1 : Nat → Int32} {V V1 : Nat → Nat → Int32} {N : Nat → ns_T} {F F1 : Nat → Int32} {R : Nat → Nat → Int32} (h : rl_s p c k U V N F R) {len : Nat} {tb : Nat → Nat} (ht : tbl_ tb len) (hU : U1 0 = nI len) (hV : ∀ i, i < len → V1 3 i = nI (tb i)) (h2 : F1 2 = F 2) (h6 : F1 6 = nI len) (hR : ∀ i, i < len → R 4 i = (nI (tb i)).toInt8.toInt32) : rl_s p c k U1 V1 N F1 R :=
  ⟨h.1, h.2.1, h.2.2.1, hs_cg h.2.2.2.1 (fun _ _ => rfl) h2 rfl rfl rfl, len, ht.1, hU, h6, fun j hj => ⟨tb j, ht.2.1 j hj, hV j hj, hR j hj⟩⟩
theorem sim_runScript {p : Nat → Bool} {c k : Nat} {U : Nat → Int32} {V : Nat → Nat → Int32} {N : Nat → ns_T} {F : Nat → Int32} {R : Nat → Nat → Int32} (h : rl_s p c k U V N F R) : ∃ (r : Int32) (c1 k1 : Nat) (U1 : Nat → Int32) (V1 : Nat → Nat → Int32) (N1 : Nat → ns_T) (F1 : Nat → Int32) (R1 : Nat → Nat → Int32), m4_runScript c k U V N = some (r, c1, k1, U1, V1, N1) ∧ m5_runScript F R = some (r, F1, R1) ∧ rl_s p c1 k1 U1 V1 N1 F1 R1 := by
  have h0 := h
  obtain ⟨hk, hc, hl, hh, len, t1, t2, t3, t4⟩ := h
  obtain ⟨tb, ht, hV, hR0⟩ : ∃ tb : Nat → Nat, tbl_ tb len ∧ (∀ i, i < len → V 3 i = nI (tb i)) ∧ ∀ i, i < len → R 4 i = (nI (tb i)).toInt8.toInt32 := by
    have key : ∀ i, i < len → (V 3 i).toNatClampNeg < 256 ∧ V 3 i = nI (V 3 i).toNatClampNeg ∧ R 4 i = (nI (V 3 i).toNatClampNeg).toInt8.toInt32 := fun i hi => by
      obtain ⟨b, hb, e1, e2⟩ := t4 i hi
      have e : (V 3 i).toNatClampNeg = b := by rw [e1]; exact nI_clamp (by omega)
      rw [e]; exact ⟨hb, e1, e2⟩
    refine ⟨fun i => if i < len then (V 3 i).toNatClampNeg else 256, ⟨t1, fun i hi => ?_, fun i hi => if_neg (by omega)⟩, fun i hi => ?_, fun i hi => ?_⟩
    · dsimp only
      rw [if_pos hi]; exact (key i hi).1
    · dsimp only
      rw [if_pos hi]; exact (key i hi).2.1
    · dsimp only
      rw [if_pos hi]; exact (key i hi).2.2
  have hR : ∀ i, i < len → R 4 i &&& 255 = nI (tb i) := fun i hi => by rw [hR0 i hi]; exact by_255 _ (ht.2.1 i hi)
  have hsp := sk_p ht (Nat.zero_le len)
  have eU : va_up (va_up U 1 (0 : Int32)) 2 (0 : Int32) = us_U U 0 0 := rfl
  unfold m4_runScript m5_runScript m3_read
  rw [eU]
  by_cases q : sk_ tb len 0 = len
  · have hrd : wh m3_read_L12 2000 ((0 : Int32), us_U U 0 0, V) = some (0, us_U U len 0, V) := rd_end ht (m := 1999) (n := 0) (i0 := 0) (Nat.le_refl _) (Nat.zero_le _) q t2 hV
    refine ⟨-10 - nI len, c, k, us_U U len 0, V, N, fs_ F len 1, R, ?_, ?_, rl_no h0 ht (by rw [uu_x U len 0 (by decide) (by decide)]; exact t2) hV (fs_x F _ _ (by decide) (by decide)) (by rw [fs_x F _ _ (by decide) (by decide)]; exact t3) hR0⟩
    · rw [hrd, bd_s]
      dsimp only
      rw [if_pos rfl, uu_1]
    · rw [script_0 ht t3 hR q, bd_s]
      dsimp only
      rw [if_neg (show ¬ fs_ F len 1 10 = 0 by rw [fs_10]; decide), fs_9]
  · have hil : sk_ tb len 0 < len := by omega
    rcases all_ ht 34 (sk_ tb len 0) hsp.2.1 (by omega) with ⟨j, hj, hE1, hE2⟩ | ⟨kc, C, hkc, hk0, hR1, hS1, hX1⟩
    · obtain ⟨n', V', e1, e2⟩ := hE1 2000 0 0 U V (by decide) (Nat.le_refl _) (Nat.zero_le _) rfl t2 hV
      replace e1 : wh m3_read_L12 2000 ((0 : Int32), us_U U 0 0, V) = some (0, us_U U j n', V') := e1
      refine ⟨-10 - nI j, c, k, us_U U j n', V', N, fs_ F j 1, R, ?_, ?_, rl_no h0 ht (by rw [uu_x U j n' (by decide) (by decide)]; exact t2) e2 (fs_x F _ _ (by decide) (by decide)) (by rw [fs_x F _ _ (by decide) (by decide)]; exact t3) hR0⟩
      · rw [e1, bd_s]
        dsimp only
        rw [if_pos rfl, uu_1]
      · rw [script_ ht t3 hR 0 hil (hE2 2000 F R (by decide) t3 hR), bd_s]
        dsimp only
        rw [if_neg (show ¬ fs_ F j 1 10 = 0 by rw [fs_10]; decide), fs_9]
    · have hkp := hk0 hil
      obtain ⟨V', e1, e2, e3⟩ := hR1 2000 0 0 U V (by decide) (Nat.le_refl _) (Nat.zero_le _) rfl t2 hV
      rw [Nat.zero_add, decide_eq_true hkp] at e1
      replace e1 : wh m3_read_L12 2000 ((0 : Int32), us_U U 0 0, V) = some (1, us_U U len kc, V') := e1
      obtain ⟨F1, R1, g0, g1, g2, g3⟩ := hs_note (F := fs_ F len 0) hk hc hl (hs_cg hh (fun _ _ => rfl) (fs_x F _ _ (by decide) (by decide)) rfl rfl rfl)
      have hF1 : F1 6 = nI len := by rw [g1 6 (by decide), fs_x F _ _ (by decide) (by decide)]; exact t3
      have hRR : ∀ i, i < len → R1 4 i &&& 255 = nI (tb i) := fun i hi => by rw [g2 4 (by decide)]; exact hR i hi
      have hr := g2 0 (by decide)
      obtain ⟨r, N', F', R', x1, x2, x3, x4, x5, x6⟩ := hX1 2000 2000 0 0 (us_U U len kc) V' F1 R1 (va_up N (kn_s k + 1) (N 0)) (by decide) (by decide) (by rw [uu_2, Nat.zero_add]) (by omega) e3 hF1 hRR (by rw [ne_k, hr]; exact hl)
      replace x1 : wh (m4_runScript_L36 (us_U U len kc) V') 2000 ((0 : Int32), (0 : Int32), va_up N (kn_s k + 1) (N 0)) = some (r, N') := x1
      refine ⟨r, cn_s c, kn_s k, va_up (us_U U len kc) 0 0, V', N', va_up F' 6 0, R', ?_, ?_, ?_⟩
      · rw [e1, bd_s]
        dsimp only
        rw [if_neg (by decide), if_pos ⟨hk, hc, nt_1 hl⟩, lt_rw, x1, bd_s]
        rfl
      · rw [script_ ht t3 hR 0 hil (hS1 2000 F R (by decide) t3 hR), bd_s]
        dsimp only
        rw [if_pos (show fs_ F len 0 10 = 0 from fs_10 _ _ _), g0, bd_s]
        dsimp only
        rw [script_ ht hF1 hRR 1 hil x2, bd_s]
      · exact ⟨by unfold kn_s; split <;> omega, by unfold cn_s; split <;> omega, x3, hs_cg g3 x4 (by rw [va_up_ne _ _ (by decide)]; exact x5 2 (by decide) (by decide) (by decide)) (x6 1 (by decide) (by decide)) (x6 2 (by decide) (by decide)) (x6 3 (by decide) (by decide)), 0, Nat.zero_le _, va_up_self _ _ _, va_up_self _ _ _, fun j hj => absurd hj (Nat.not_lt_zero j)⟩
