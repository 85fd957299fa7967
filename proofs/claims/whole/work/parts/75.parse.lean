/-! THE TEXT, READ ON BOTH SIDES -/
def tbl_ (tb : Nat → Nat) (len : Nat) : Prop := len ≤ 100 ∧ (∀ i, i < len → tb i < 256) ∧ ∀ i, len ≤ i → tb i = 256
def sk_ (tb : Nat → Nat) (len i : Nat) : Nat := i + fi (fun m => decide (tb (i + m) ≠ 32)) (len - i)
def dg_ (t : Nat) : Bool := decide (48 ≤ t ∧ t ≤ 57)
def nu_ (tb : Nat → Nat) (len i : Nat) : Sum Nat (Nat × Nat) :=
  if dg_ (tb (sk_ tb len i)) then (if tb (sk_ tb len i) ≠ 48 ∧ dg_ (tb (sk_ tb len i + 1)) = true then .inr (10 * (tb (sk_ tb len i) - 48) + (tb (sk_ tb len i + 1) - 48), sk_ tb len i + 2) else .inr (tb (sk_ tb len i) - 48, sk_ tb len i + 1)) else .inl (sk_ tb len i)
def sg_ (tb : Nat → Nat) (len s i : Nat) : Sum Nat Nat := if tb (sk_ tb len i) = s then .inr (sk_ tb len i + 1) else .inl (sk_ tb len i)
def fs_ (F : Nat → Int32) (i : Nat) (w : Int32) : Nat → Int32 := va_up (va_up F 9 (nI i)) 10 w
def us_U (U : Nat → Int32) (i n : Nat) : Nat → Int32 := va_up (va_up U 1 (nI i)) 2 (nI n)
theorem fs_9 (F : Nat → Int32) (i : Nat) (w : Int32) : fs_ F i w 9 = nI i := by unfold fs_; rw [va_up_ne _ _ (by decide), va_up_self]
theorem fs_10 (F : Nat → Int32) (i : Nat) (w : Int32) : fs_ F i w 10 = w := va_up_self _ _ _
theorem fs_x (F : Nat → Int32) (i : Nat) (w : Int32) {x : Nat} (h : x ≠ 9) (h2 : x ≠ 10) : fs_ F i w x = F x := by unfold fs_; rw [va_up_ne _ _ h2, va_up_ne _ _ h]
theorem fs_u9 (F : Nat → Int32) (i j : Nat) (w : Int32) : va_up (fs_ F i w) 9 (nI j) = fs_ F j w := funext fun x => by
  unfold fs_ va_up
  by_cases h1 : x = 9
  · rw [h1]; simp
  · by_cases h2 : x = 10
    · rw [h2]; simp
    · simp [h1, h2]
theorem fs_u10 (F : Nat → Int32) (i : Nat) (w w' : Int32) : va_up (fs_ F i w) 10 w' = fs_ F i w' := bx_uu _ _ _ _
theorem uu_1 (U : Nat → Int32) (i n : Nat) : us_U U i n 1 = nI i := by unfold us_U; rw [va_up_ne _ _ (by decide), va_up_self]
theorem uu_2 (U : Nat → Int32) (i n : Nat) : us_U U i n 2 = nI n := va_up_self _ _ _
theorem uu_x (U : Nat → Int32) (i n : Nat) {x : Nat} (h : x ≠ 1) (h2 : x ≠ 2) : us_U U i n x = U x := by unfold us_U; rw [va_up_ne _ _ h2, va_up_ne _ _ h]
theorem uu_u1 (U : Nat → Int32) (i j n : Nat) : va_up (us_U U i n) 1 (nI j) = us_U U j n := funext fun x => by
  unfold us_U va_up
  by_cases h1 : x = 1
  · rw [h1]; simp
  · by_cases h2 : x = 2
    · rw [h2]; simp
    · simp [h1, h2]
theorem uu_u2 (U : Nat → Int32) (i n m : Nat) : va_up (us_U U i n) 2 (nI m) = us_U U i m := bx_uu _ _ _ _
section PR
variable {tb : Nat → Nat} {len : Nat} {F U : Nat → Int32} {R V : Nat → Nat → Int32}
theorem sk_p (ht : tbl_ tb len) {i : Nat} (hi : i ≤ len) : i ≤ sk_ tb len i ∧ sk_ tb len i ≤ len ∧ tb (sk_ tb len i) ≠ 32 ∧ ∀ m, i ≤ m → m < sk_ tb len i → tb m = 32 := by
  have hle := fi_le (fun m => decide (tb (i + m) ≠ 32)) (len - i)
  unfold sk_
  refine ⟨by omega, by omega, ?_, fun m h1 h2 => ?_⟩
  · by_cases q : fi (fun m => decide (tb (i + m) ≠ 32)) (len - i) < len - i
    · exact of_decide_eq_true (fi_yes _ _ q)
    · rw [ht.2.2 _ (by omega)]; decide
  · have := fi_no _ _ (m - i) (show m - i < fi (fun m => decide (tb (i + m) ≠ 32)) (len - i) by omega)
    rw [show i + (m - i) = m by omega] at this
    exact Decidable.not_not.mp (of_decide_eq_false this)
theorem sk_id (ht : tbl_ tb len) {i : Nat} (hi : i ≤ len) (h : tb i ≠ 32) : sk_ tb len i = i := by
  have hp := sk_p ht hi
  by_cases q : sk_ tb len i = i
  · exact q
  · exact absurd (hp.2.2.2 i (Nat.le_refl _) (by omega)) h
theorem here_ (hF : F 6 = nI len) (ht : tbl_ tb len) (hR : ∀ i, i < len → R 4 i &&& 255 = nI (tb i)) {i : Nat} (hi : i ≤ len) (w : Int32) : m5_here (fs_ F i w) R = some (if i < len then nI (tb i) else -1) := by
  have hl := ht.1
  unfold m5_here m5_here_J28
  rw [fs_x F i w (by decide) (by decide), hF, fs_9]
  by_cases q : i < len
  · rw [if_neg (nI_ge q (by omega)), if_pos (in_n (by omega) (by decide)), nI_clamp (by omega), hR i q, if_pos q]; rfl
  · rw [if_pos (nI_le (by omega) (by omega)), if_neg q]; rfl
theorem char_ (hU : U 0 = nI len) (ht : tbl_ tb len) (hV : ∀ i, i < len → V 3 i = nI (tb i)) {i n : Nat} (hi : i ≤ len) : m3_character (us_U U i n) V = some (if i < len then nI (tb i) else -9) := by
  have hl := ht.1
  unfold m3_character
  rw [uu_1, uu_x U i n (by decide) (by decide), hU, if_neg (nI_pos (by omega))]
  by_cases q : i < len
  · have e3 : ¬ (100 : Int32) ≤ nI i := nI_ge (b := 100) (by omega) (by decide)
    rw [if_neg (nI_ge q (by omega)), if_neg e3, bd_s]
    unfold m3_character_J32
    rw [if_neg (by decide), uu_1, if_pos (in_n (by omega) (by decide)), nI_clamp (by omega), hV i q, if_pos q]; rfl
  · rw [if_pos (nI_le (by omega) (by omega)), if_neg q, bd_s]; rfl
/-- what stands at a place, against a character -/
theorem cmp_r (ht : tbl_ tb len) {i s : Nat} (hs : s < 256) : (if i < len then nI (tb i) else (-1 : Int32)) = nI s ↔ tb i = s := by
  by_cases q : i < len
  · rw [if_pos q]; exact nI_eq (by have := ht.2.1 i q; omega) (by omega)
  · rw [if_neg q, ht.2.2 i (by omega)]
    have : ∀ s, s < 256 → ¬ (-1 : Int32) = nI s := by decide +kernel
    exact ⟨fun z => absurd z (this s hs), fun z => by omega⟩
theorem cmp_c (ht : tbl_ tb len) {i s : Nat} (hs : s < 256) : (if i < len then nI (tb i) else (-9 : Int32)) = nI s ↔ tb i = s := by
  by_cases q : i < len
  · rw [if_pos q]; exact nI_eq (by have := ht.2.1 i q; omega) (by omega)
  · rw [if_neg q, ht.2.2 i (by omega)]
    have : ∀ s, s < 256 → ¬ (-9 : Int32) = nI s := by decide +kernel
    exact ⟨fun z => absurd z (this s hs), fun z => by omega⟩
theorem dg_lt (ht : tbl_ tb len) {i : Nat} (h : dg_ (tb i) = true) : i < len := by
  have := of_decide_eq_true h
  by_cases q : i < len
  · exact q
  · rw [ht.2.2 i (by omega)] at this; omega
theorem dig_r (ht : tbl_ tb len) (i : Nat) : decide ((0 : Int32) ≤ (if i < len then nI (tb i) else (-1 : Int32)) - 48 ∧ (if i < len then nI (tb i) else (-1 : Int32)) - 48 ≤ 9) = dg_ (tb i) ∧ decide ((48 : Int32) ≤ (if i < len then nI (tb i) else (-1 : Int32)) ∧ (if i < len then nI (tb i) else (-1 : Int32)) ≤ 57) = dg_ (tb i) := by
  by_cases q : i < len
  · rw [if_pos q]
    have : ∀ t, t < 256 → decide ((0 : Int32) ≤ nI t - 48 ∧ nI t - 48 ≤ 9) = dg_ t ∧ decide ((48 : Int32) ≤ nI t ∧ nI t ≤ 57) = dg_ t := by decide +kernel
    exact this _ (ht.2.1 i q)
  · rw [if_neg q, ht.2.2 i (by omega)]; decide +kernel
theorem dig_c (hU : U 0 = nI len) (ht : tbl_ tb len) (hV : ∀ i, i < len → V 3 i = nI (tb i)) {i n : Nat} (hi : i ≤ len) : m3_digit (us_U U i n) V = some (if dg_ (tb i) then nI (tb i - 48) else -9) := by
  unfold m3_digit
  rw [char_ hU ht hV hi, bd_s, m4_isB, bd_s]
  by_cases q : i < len
  · rw [if_pos q]
    have : ∀ t, t < 256 → decide ((48 : Int32) ≤ nI t ∧ nI t ≤ 57) = dg_ t := by decide +kernel
    rw [this _ (ht.2.1 i q)]
    cases hd : dg_ (tb i) with
    | false => rfl
    | true =>
      have := of_decide_eq_true hd
      rw [if_neg (by decide), show nI (tb i) - 48 = nI (tb i - 48) from pk_sub (b := 48) (by omega)]; rfl
  · rw [if_neg q, ht.2.2 i (by omega)]; decide +kernel
theorem skip_r (hF : F 6 = nI len) (ht : tbl_ tb len) (hR : ∀ i, i < len → R 4 i &&& 255 = nI (tb i)) {i : Nat} (hi : i ≤ len) (w : Int32) : m5_skip (fs_ F i w) R = some (fs_ F (sk_ tb len i) w, R) := by
  have hl := ht.1
  have hp := sk_p ht hi
  unfold m5_skip
  have e : wh (m5_skip_L0 R) 2000 (fs_ F i w) = some (fs_ F (sk_ tb len i) w) := by
    refine wh_eq (fun t F' => F' = fs_ F (i + t) w) _ (sk_ tb len i - i) (by omega) rfl (fun t F' h1 h2 => ?_) (fun F' h2 kk => ?_)
    · subst h2
      refine Or.inl ⟨fs_ F (i + (t + 1)) w, rfl, fun kk => ?_⟩
      unfold m5_skip_L0
      have c32 : (if i + t < len then nI (tb (i + t)) else (-1 : Int32)) = 32 := (cmp_r ht (s := 32) (by decide)).mpr (hp.2.2.2 (i + t) (by omega) (by omega))
      rw [here_ hF ht hR (by omega), bd_s, if_pos c32, fs_9, nI_1, fs_u9]
      rfl
    · subst h2
      unfold m5_skip_L0
      have c32 : ¬ (if sk_ tb len i < len then nI (tb (sk_ tb len i)) else (-1 : Int32)) = 32 := fun z => hp.2.2.1 ((cmp_r ht (s := 32) (by decide)).mp z)
      rw [show i + (sk_ tb len i - i) = sk_ tb len i by omega, here_ hF ht hR hp.2.1, bd_s, if_neg c32]
  rw [e]; rfl
theorem skip_c (hU : U 0 = nI len) (ht : tbl_ tb len) (hV : ∀ i, i < len → V 3 i = nI (tb i)) {i n : Nat} (hi : i ≤ len) : m3_skipSpaces (us_U U i n) V = some (us_U U (sk_ tb len i) n, V) := by
  have hl := ht.1
  have hp := sk_p ht hi
  unfold m3_skipSpaces
  have e : wh (m3_skipSpaces_L2 V) 2000 ((0 : Int32), us_U U i n) = some (us_U U (sk_ tb len i) n) := by
    refine wh_eq (fun t T => T = (nI t, us_U U (i + t) n)) _ (sk_ tb len i - i) (by omega) rfl (fun t T h1 h2 => ?_) (fun T h2 kk => ?_)
    · subst h2
      refine Or.inl ⟨(nI (t + 1), us_U U (i + (t + 1)) n), rfl, fun kk => ?_⟩
      have e1 : ¬ (100 : Int32) ≤ nI t := nI_ge (b := 100) (by omega) (by decide)
      unfold m3_skipSpaces_L2
      dsimp only
      have c32 : (if i + t < len then nI (tb (i + t)) else (-9 : Int32)) = 32 := (cmp_c ht (s := 32) (by decide)).mpr (hp.2.2.2 (i + t) (by omega) (by omega))
      rw [if_neg e1, char_ hU ht hV (by omega), bd_s, if_pos c32, uu_1, nI_1, nI_1, uu_u1]
      rfl
    · subst h2
      unfold m3_skipSpaces_L2
      dsimp only
      rw [show i + (sk_ tb len i - i) = sk_ tb len i by omega]
      split
      · rfl
      · have c32 : ¬ (if sk_ tb len i < len then nI (tb (sk_ tb len i)) else (-9 : Int32)) = 32 := fun z => hp.2.2.1 ((cmp_c ht (s := 32) (by decide)).mp z)
        rw [char_ hU ht hV hp.2.1, bd_s, if_neg c32]
  rw [e]; rfl
theorem exp_r (hF : F 6 = nI len) (ht : tbl_ tb len) (hR : ∀ i, i < len → R 4 i &&& 255 = nI (tb i)) {i s : Nat} (hi : i ≤ len) (hs : s < 256) : m5_expect (fs_ F i 0) R (nI s) = (match sg_ tb len s i with | .inl j => some (fs_ F j 1, R) | .inr p => some (fs_ F p 0, R)) := by
  have hp := sk_p ht hi
  unfold m5_expect sg_
  rw [skip_r hF ht hR hi, bd_s]
  show ((if fs_ F (sk_ tb len i) 0 10 = 0 then (m5_here (fs_ F (sk_ tb len i) 0) R).bind fun v8 => (if v8 = nI s then some (0 : Int32) else some (1 : Int32)).bind fun v9 => m5_expect_J25 (fs_ F (sk_ tb len i) 0) v9 else some (fs_ F (sk_ tb len i) 0)).bind fun F4 => m5_expect_J49 R F4) = _
  rw [fs_10, if_pos rfl, here_ hF ht hR hp.2.1, bd_s]
  by_cases q : tb (sk_ tb len i) = s
  · rw [if_pos ((cmp_r ht hs).mpr q), if_pos q, bd_s]
    unfold m5_expect_J25 m5_expect_J45
    rw [fs_u10, fs_10, if_pos (by decide), if_pos rfl, bd_s, fs_9, nI_1, fs_u9, bd_s]; rfl
  · rw [if_neg (fun z => q ((cmp_r ht hs).mp z)), if_neg q, bd_s]
    unfold m5_expect_J25 m5_expect_J45
    rw [fs_u10, fs_10, if_pos (by decide), if_neg (by decide), bd_s, fs_9, Int32.add_zero, fs_u9, bd_s]; rfl
theorem exp_w (hF : F 6 = nI len) (ht : tbl_ tb len) (hR : ∀ i, i < len → R 4 i &&& 255 = nI (tb i)) {i : Nat} (hi : i ≤ len) (c : Int32) : m5_expect (fs_ F i 1) R c = some (fs_ F (sk_ tb len i) 1, R) := by
  unfold m5_expect
  rw [skip_r hF ht hR hi, bd_s]
  show ((if fs_ F (sk_ tb len i) 1 10 = 0 then _ else some (fs_ F (sk_ tb len i) 1)).bind fun F4 => m5_expect_J49 R F4) = _
  rw [fs_10, if_neg (by decide), bd_s]; rfl
theorem nu_0 {i j : Nat} (hj : sk_ tb len i = j) (hd : dg_ (tb j) = false) : nu_ tb len i = .inl j := by
  unfold nu_
  rw [hj, hd, if_neg (by decide)]
theorem nu_1 {i j : Nat} (hj : sk_ tb len i = j) (hd : dg_ (tb j) = true) (h : ¬ (tb j ≠ 48 ∧ dg_ (tb (j + 1)) = true)) : nu_ tb len i = .inr (tb j - 48, j + 1) := by
  unfold nu_
  rw [hj, if_pos hd, if_neg h]
theorem nu_2 {i j : Nat} (hj : sk_ tb len i = j) (hd : dg_ (tb j) = true) (h : tb j ≠ 48 ∧ dg_ (tb (j + 1)) = true) : nu_ tb len i = .inr (10 * (tb j - 48) + (tb (j + 1) - 48), j + 2) := by
  unfold nu_
  rw [hj, if_pos hd, if_pos h]
theorem dig_t (hU : U 0 = nI len) (ht : tbl_ tb len) (hV : ∀ i, i < len → V 3 i = nI (tb i)) {i n : Nat} (hi : i ≤ len) (hd : dg_ (tb i) = true) : m3_digit (us_U U i n) V = some (nI (tb i - 48)) := by
  rw [dig_c hU ht hV hi, if_pos hd]
theorem dig_f (hU : U 0 = nI len) (ht : tbl_ tb len) (hV : ∀ i, i < len → V 3 i = nI (tb i)) {i n : Nat} (hi : i ≤ len) (hd : dg_ (tb i) = false) : m3_digit (us_U U i n) V = some (-9) := by
  rw [dig_c hU ht hV hi, hd]; rfl
theorem num_r (hF : F 6 = nI len) (ht : tbl_ tb len) (hR : ∀ i, i < len → R 4 i &&& 255 = nI (tb i)) {i : Nat} (hi : i ≤ len) : m5_number (fs_ F i 0) R = (match nu_ tb len i with | .inl j => some (0, fs_ F j 1, R) | .inr (v, p) => some (nI v, fs_ F p 0, R)) := by
  have hp := sk_p ht hi
  have hl := ht.1
  unfold m5_number
  rw [skip_r hF ht hR hi, bd_s]
  dsimp only
  generalize hj : sk_ tb len i = j at *
  have hdr := (dig_r ht j).1
  rw [here_ hF ht hR hp.2.1, bd_s, fs_10, if_pos rfl, m5_inE, bd_s, hdr]
  cases hd : dg_ (tb j) with
  | false =>
    rw [if_pos bi_f, bd_s, nu_0 hj hd]
    unfold m5_number_J35
    rw [if_pos (by decide), fs_u10, fs_10, if_neg (by decide)]
  | true =>
    have hjl := dg_lt ht hd
    have hdd := of_decide_eq_true hd
    have e48 : nI (tb j) - 48 = nI (tb j - 48) := pk_sub (b := 48) (by omega)
    rw [if_neg (by decide), bd_s, if_pos hjl]
    unfold m5_number_J35 m5_number_J98
    rw [if_pos (by decide), fs_u10, fs_10, if_pos rfl, fs_9, nI_1, fs_u9, e48]
    by_cases h48 : tb j = 48
    · have h0 : nI (tb j - 48) ≤ 0 := by rw [h48]; decide
      rw [if_pos h0, bd_s, nu_1 hj hd (fun z => z.1 h48)]
    · rw [if_neg (nI_nle (by omega) (by omega)), here_ hF ht hR (by omega), bd_s, m5_inE, bd_s, (dig_r ht (j + 1)).2]
      cases hd2 : dg_ (tb (j + 1)) with
      | false =>
        rw [if_pos bi_f, bd_s, nu_1 hj hd (fun z => by rw [hd2] at z; cases z.2)]
      | true =>
        have hjl2 := dg_lt ht hd2
        have hdd2 := of_decide_eq_true hd2
        rw [if_neg (by decide), bd_s, if_pos hjl2]
        unfold lt_
        rw [bd_s, fs_9, nI_1, fs_u9, nu_2 hj hd ⟨h48, hd2⟩]
        have e : (((10 : Int32) * nI (tb j - 48)) + nI (tb (j + 1))) - 48 = nI (10 * (tb j - 48) + (tb (j + 1) - 48)) := by
          rw [show (10 : Int32) * nI (tb j - 48) = nI (10 * (tb j - 48)) from pk_mul 10 _, nI_add, show nI (10 * (tb j - 48) + tb (j + 1)) - 48 = nI (10 * (tb j - 48) + tb (j + 1) - 48) from pk_sub (b := 48) (by omega), show 10 * (tb j - 48) + tb (j + 1) - 48 = 10 * (tb j - 48) + (tb (j + 1) - 48) by omega]
        rw [e]
theorem num_c (hU : U 0 = nI len) (ht : tbl_ tb len) (hV : ∀ i, i < len → V 3 i = nI (tb i)) {i n : Nat} (hi : i ≤ len) : m3_readNumber (us_U U i n) V = (match nu_ tb len i with | .inl j => some (-9, us_U U j n, V) | .inr (v, p) => some (nI v, us_U U p n, V)) := by
  have hp := sk_p ht hi
  have hl := ht.1
  unfold m3_readNumber
  rw [skip_c hU ht hV hi, bd_s]
  dsimp only
  generalize hj : sk_ tb len i = j at *
  cases hd : dg_ (tb j) with
  | false => rw [dig_f hU ht hV hp.2.1 hd, bd_s, if_pos rfl, nu_0 hj hd]
  | true =>
    have hjl := dg_lt ht hd
    have hdd := of_decide_eq_true hd
    rw [dig_t hU ht hV hp.2.1 hd, bd_s, if_neg (n9 (by omega)), uu_1, nI_1, uu_u1]
    by_cases h48 : tb j = 48
    · have h0 : nI (tb j - 48) = 0 := by rw [h48]; decide
      rw [nu_1 hj hd (fun z => z.1 h48), dig_c hU ht hV hjl, bd_s, if_pos h0]
    · have h0 : ¬ nI (tb j - 48) = 0 := nI_ne0 (by omega) (by omega)
      cases hd2 : dg_ (tb (j + 1)) with
      | false =>
        rw [nu_1 hj hd (fun z => by rw [hd2] at z; cases z.2), dig_f hU ht hV (show j + 1 ≤ len from hjl) hd2, bd_s, if_neg h0, if_pos rfl]
      | true =>
        have hdd2 := of_decide_eq_true hd2
        have e : nI (tb j - 48) * (10 : Int32) + nI (tb (j + 1) - 48) = nI (10 * (tb j - 48) + (tb (j + 1) - 48)) := by
          rw [show nI (tb j - 48) * (10 : Int32) = nI ((tb j - 48) * 10) from pk_mul _ 10, nI_add, Nat.mul_comm]
        rw [nu_2 hj hd ⟨h48, hd2⟩, dig_t hU ht hV (show j + 1 ≤ len from hjl) hd2, bd_s, if_neg h0, if_neg (n9 (by omega)), uu_1, nI_1, uu_u1, e]
theorem sign_c (hU : U 0 = nI len) (ht : tbl_ tb len) (hV : ∀ i, i < len → V 3 i = nI (tb i)) {i n s : Nat} (hi : i ≤ len) (hs : s < 256) : m3_readSign (us_U U i n) V (nI s) = (match sg_ tb len s i with | .inl j => some (0, us_U U j n, V) | .inr p => some (1, us_U U p n, V)) := by
  have hp := sk_p ht hi
  unfold m3_readSign sg_
  rw [skip_c hU ht hV hi, bd_s]
  show ((m3_character (us_U U (sk_ tb len i) n) V).bind _) = _
  rw [char_ hU ht hV hp.2.1, bd_s]
  by_cases q : tb (sk_ tb len i) = s
  · rw [if_pos ((cmp_c ht hs).mpr q), if_pos q, uu_1, nI_1, uu_u1]
  · rw [if_neg (fun z => q ((cmp_c ht hs).mp z)), if_neg q]
end PR
