/-! ONE COMMAND OF THE TEXT, ON BOTH SIDES -/
section CO
variable {tb : Nat → Nat} {len : Nat}
theorem nu_p (ht : tbl_ tb len) {i : Nat} (hi : i ≤ len) : (∃ j, nu_ tb len i = .inl j ∧ j ≤ len ∧ tb j ≠ 32) ∨ ∃ a p, nu_ tb len i = .inr (a, p) ∧ a < 100 ∧ i < p ∧ p ≤ len := by
  have hp := sk_p ht hi
  unfold nu_
  generalize sk_ tb len i = j at *
  cases hd : dg_ (tb j) with
  | false => exact Or.inl ⟨j, if_neg (by decide), hp.2.1, hp.2.2.1⟩
  | true =>
    have hjl := dg_lt ht hd
    have hdd := of_decide_eq_true hd
    rw [if_pos rfl]
    by_cases g : tb j ≠ 48 ∧ dg_ (tb (j + 1)) = true
    · have hjl2 := dg_lt ht g.2
      have hdd2 := of_decide_eq_true g.2
      exact Or.inr ⟨_, _, if_pos g, by omega, by omega, by omega⟩
    · exact Or.inr ⟨_, _, if_neg g, by omega, by omega, by omega⟩
theorem sg_p (ht : tbl_ tb len) {i s : Nat} (hi : i ≤ len) (hs : s < 256) : (∃ j, sg_ tb len s i = .inl j ∧ j ≤ len ∧ tb j ≠ 32) ∨ ∃ q, sg_ tb len s i = .inr q ∧ i < q ∧ q ≤ len := by
  have hp := sk_p ht hi
  unfold sg_
  generalize sk_ tb len i = j at *
  by_cases g : tb j = s
  · have hjl : j < len := by
      by_cases h : j < len
      · exact h
      · have := ht.2.2 j (by omega)
        omega
    exact Or.inr ⟨j + 1, if_pos g, by omega, by omega⟩
  · exact Or.inl ⟨j, if_neg g, hp.2.1, hp.2.2.1⟩
def kp_ (V : Nat → Nat → Int32) (n : Nat) (x y z : Int32) : Nat → Nat → Int32 := va_up (va_up (va_up V 0 (upd (V 0) n x)) 1 (upd (V 1) n y)) 2 (upd (V 2) n z)
theorem kp_0 (V : Nat → Nat → Int32) (n : Nat) (x y z : Int32) : kp_ V n x y z 0 = upd (V 0) n x := by unfold kp_; rw [va_up_ne _ _ (by decide), va_up_ne _ _ (by decide), va_up_self]
theorem kp_1 (V : Nat → Nat → Int32) (n : Nat) (x y z : Int32) : kp_ V n x y z 1 = upd (V 1) n y := by unfold kp_; rw [va_up_ne _ _ (by decide), va_up_self]
theorem kp_2 (V : Nat → Nat → Int32) (n : Nat) (x y z : Int32) : kp_ V n x y z 2 = upd (V 2) n z := va_up_self _ _ _
theorem kp_3 (V : Nat → Nat → Int32) (n : Nat) (x y z : Int32) : kp_ V n x y z 3 = V 3 := by unfold kp_; rw [va_up_ne _ _ (by decide), va_up_ne _ _ (by decide), va_up_ne _ _ (by decide)]
end CO
section CC
variable {tb : Nat → Nat} {len : Nat} {U : Nat → Int32} {V : Nat → Nat → Int32}
theorem num_cl (hU : U 0 = nI len) (ht : tbl_ tb len) (hV : ∀ i, i < len → V 3 i = nI (tb i)) {i n j : Nat} (hi : i ≤ len) (e : nu_ tb len i = .inl j) : m3_readNumber (us_U U i n) V = some (-9, us_U U j n, V) := by
  have h := num_c hU ht hV (n := n) hi
  rw [e] at h
  exact h
theorem num_cr (hU : U 0 = nI len) (ht : tbl_ tb len) (hV : ∀ i, i < len → V 3 i = nI (tb i)) {i n a p : Nat} (hi : i ≤ len) (e : nu_ tb len i = .inr (a, p)) : m3_readNumber (us_U U i n) V = some (nI a, us_U U p n, V) := by
  have h := num_c hU ht hV (n := n) hi
  rw [e] at h
  exact h
theorem sign_cl (hU : U 0 = nI len) (ht : tbl_ tb len) (hV : ∀ i, i < len → V 3 i = nI (tb i)) {i n s j : Nat} (hi : i ≤ len) (hs : s < 256) (e : sg_ tb len s i = .inl j) : m3_readSign (us_U U i n) V (nI s) = some (0, us_U U j n, V) := by
  have h := sign_c hU ht hV (n := n) hi hs
  rw [e] at h
  exact h
theorem sign_cr (hU : U 0 = nI len) (ht : tbl_ tb len) (hV : ∀ i, i < len → V 3 i = nI (tb i)) {i n s q : Nat} (hi : i ≤ len) (hs : s < 256) (e : sg_ tb len s i = .inr q) : m3_readSign (us_U U i n) V (nI s) = some (1, us_U U q n, V) := by
  have h := sign_c hU ht hV (n := n) hi hs
  rw [e] at h
  exact h
theorem keep_c {i n : Nat} (hn : n < 33) (x y z : Int32) : m3_keep (us_U U i n) V x y z = some (1, us_U U i (n + 1), kp_ V n x y z) := by
  have hd : decide ((0 : Int32) ≤ nI n ∧ nI n ≤ 32) = true := decide_eq_true ⟨nI_pos' (by omega), nI_le (b := 32) (by omega) (by decide)⟩
  have i1 : inb (nI n) 33 := in_n hn (by decide)
  unfold m3_keep
  rw [uu_2, m4_isB, hd, bd_s, if_neg (by decide), if_pos i1, if_pos i1, if_pos i1, nI_1, uu_u2, nI_clamp (by omega)]
  rfl
theorem j75_l (hU : U 0 = nI len) (ht : tbl_ tb len) (hV : ∀ i, i < len → V 3 i = nI (tb i)) {i n j : Nat} (hi : i ≤ len) (e : sg_ tb len 59 i = .inl j) (x y : Int32) {b : Nat} (hb : b < 100) : m3_readCommand_J75 x y (nI b) (us_U U i n) V = some (0, us_U U j n, V) := by
  have h : m3_readSign (us_U U i n) V (59 : Int32) = some (0, us_U U j n, V) := sign_cl hU ht hV hi (s := 59) (by decide) e
  unfold m3_readCommand_J75
  rw [if_neg (n9 hb), h, bd_s]
  rfl
theorem j75_r (hU : U 0 = nI len) (ht : tbl_ tb len) (hV : ∀ i, i < len → V 3 i = nI (tb i)) {i n q : Nat} (hi : i ≤ len) (hn : n < 33) (e : sg_ tb len 59 i = .inr q) (x y : Int32) {b : Nat} (hb : b < 100) : m3_readCommand_J75 x y (nI b) (us_U U i n) V = some (1, us_U U q (n + 1), kp_ V n x y (nI b)) := by
  have h : m3_readSign (us_U U i n) V (59 : Int32) = some (1, us_U U q n, V) := sign_cr hU ht hV hi (s := 59) (by decide) e
  unfold m3_readCommand_J75
  rw [if_neg (n9 hb), h, bd_s]
  dsimp only
  rw [if_neg (by decide), keep_c hn, bd_s]
  exact if_pos (show (1 : Int32) &&& 1 = 1 by decide)
theorem j75_2 (x y z : Int32) (F : Nat → Int32) (R : Nat → Nat → Int32) : m3_readCommand_J75_2 x y z F R = m3_readCommand_J75 x y z F R := rfl
theorem j75_3 (x y z : Int32) (F : Nat → Int32) (R : Nat → Nat → Int32) : m3_readCommand_J75_3 x y z F R = m3_readCommand_J75 x y z F R := rfl
theorem ltr_ (hU : U 0 = nI len) (ht : tbl_ tb len) (hV : ∀ i, i < len → V 3 i = nI (tb i)) {i n : Nat} (hi : i < len) : m3_character (us_U U i n) V = some (nI (tb i)) := by
  rw [char_ hU ht hV (Nat.le_of_lt hi), if_pos hi]
/-- no letter -/
theorem rc_0 (hU : U 0 = nI len) (ht : tbl_ tb len) (hV : ∀ i, i < len → V 3 i = nI (tb i)) {i n : Nat} (hi : i < len) (h1 : tb i ≠ 115) (h2 : tb i ≠ 101) (h3 : tb i ≠ 104) : m3_readCommand (us_U U i n) V = some (0, us_U U i n, V) := by
  have hb := ht.2.1 i hi
  have q1 : ¬ nI (tb i) = (115 : Int32) := fun z => h1 ((nI_eq (b := 115) (by omega) (by decide)).mp z)
  have q2 : ¬ nI (tb i) = (101 : Int32) := fun z => h2 ((nI_eq (b := 101) (by omega) (by decide)).mp z)
  have q3 : ¬ nI (tb i) = (104 : Int32) := fun z => h3 ((nI_eq (b := 104) (by omega) (by decide)).mp z)
  unfold m3_readCommand
  rw [ltr_ hU ht hV hi, bd_s, if_neg q1, if_neg q2, if_neg q3]
/-- a letter, and no number -/
theorem rc_1 (hU : U 0 = nI len) (ht : tbl_ tb len) (hV : ∀ i, i < len → V 3 i = nI (tb i)) {i n j : Nat} (hi : i < len) (hl : tb i = 115 ∨ tb i = 101 ∨ tb i = 104) (e : nu_ tb len (i + 1) = .inl j) : m3_readCommand (us_U U i n) V = some (0, us_U U j n, V) := by
  have hn := num_cl hU ht hV (n := n) hi e
  unfold m3_readCommand
  rw [ltr_ hU ht hV hi, bd_s, uu_1, nI_1, uu_u1, hn]
  rcases hl with h | h | h
  · rw [h, if_pos (by decide), bd_s]; rfl
  · rw [h, if_neg (by decide), if_pos (by decide), bd_s]; rfl
  · rw [h, if_neg (by decide), if_neg (by decide), if_pos (by decide), bd_s]; rfl
/-- a start or an end, and its number -/
theorem rc_2 (hU : U 0 = nI len) (ht : tbl_ tb len) (hV : ∀ i, i < len → V 3 i = nI (tb i)) {i n a p : Nat} (hi : i < len) (hl : tb i = 115 ∨ tb i = 101) (e : nu_ tb len (i + 1) = .inr (a, p)) (ha : a < 100) : m3_readCommand (us_U U i n) V = m3_readCommand_J75 (nI (tb i)) (nI a) (nI 0) (us_U U p n) V := by
  have hn := num_cr hU ht hV (n := n) hi e
  unfold m3_readCommand
  rw [ltr_ hU ht hV hi, bd_s, uu_1, nI_1, uu_u1, hn]
  rcases hl with h | h
  · rw [h, if_pos (by decide), bd_s]
    dsimp only
    rw [if_neg (n9 ha), if_neg (by decide)]
    rfl
  · rw [h, if_neg (by decide), if_pos (by decide), bd_s]
    dsimp only
    rw [if_neg (n9 ha), if_neg (by decide)]
    rfl
/-- a handover: its number, and no comma -/
theorem rc_3 (hU : U 0 = nI len) (ht : tbl_ tb len) (hV : ∀ i, i < len → V 3 i = nI (tb i)) {i n a p j : Nat} (hi : i < len) (hl : tb i = 104) (e : nu_ tb len (i + 1) = .inr (a, p)) (ha : a < 100) (hp : p ≤ len) (e2 : sg_ tb len 44 p = .inl j) : m3_readCommand (us_U U i n) V = some (0, us_U U j n, V) := by
  have hn := num_cr hU ht hV (n := n) hi e
  have h2 : m3_readSign (us_U U p n) V (44 : Int32) = some (0, us_U U j n, V) := sign_cl hU ht hV hp (s := 44) (by decide) e2
  unfold m3_readCommand
  rw [ltr_ hU ht hV hi, bd_s, uu_1, nI_1, uu_u1, hn, hl, if_neg (by decide), if_neg (by decide), if_pos (by decide), bd_s]
  dsimp only
  rw [if_neg (n9 ha), if_pos (by decide), h2, bd_s]
  rfl
/-- a handover: its number, its comma -/
theorem rc_4 (hU : U 0 = nI len) (ht : tbl_ tb len) (hV : ∀ i, i < len → V 3 i = nI (tb i)) {i n a p q : Nat} (hi : i < len) (hl : tb i = 104) (e : nu_ tb len (i + 1) = .inr (a, p)) (ha : a < 100) (hp : p ≤ len) (e2 : sg_ tb len 44 p = .inr q) {w : Int32} {U1 : Nat → Int32} (h3 : m3_readNumber (us_U U q n) V = some (w, U1, V)) : m3_readCommand (us_U U i n) V = m3_readCommand_J75 (nI (tb i)) (nI a) w U1 V := by
  have hn := num_cr hU ht hV (n := n) hi e
  have h2 : m3_readSign (us_U U p n) V (44 : Int32) = some (1, us_U U q n, V) := sign_cr hU ht hV hp (s := 44) (by decide) e2
  unfold m3_readCommand
  rw [ltr_ hU ht hV hi, bd_s, uu_1, nI_1, uu_u1, hn, hl, if_neg (by decide), if_neg (by decide), if_pos (by decide), bd_s]
  dsimp only
  rw [if_neg (n9 ha), if_pos (by decide), h2, bd_s]
  dsimp only
  rw [if_neg (by decide), h3, bd_s]
  rfl
theorem j75_9 (x y : Int32) (F : Nat → Int32) (R : Nat → Nat → Int32) : m3_readCommand_J75 x y (-9) F R = some (0, F, R) := by
  unfold m3_readCommand_J75
  rw [if_pos rfl]
end CC
section RR
variable {tb : Nat → Nat} {len : Nat} {F : Nat → Int32} {R : Nat → Nat → Int32}
theorem num_rl (hF : F 6 = nI len) (ht : tbl_ tb len) (hR : ∀ i, i < len → R 4 i &&& 255 = nI (tb i)) {i j : Nat} (hi : i ≤ len) (e : nu_ tb len i = .inl j) : m5_number (fs_ F i 0) R = some (0, fs_ F j 1, R) := by
  have h := num_r hF ht hR hi
  rw [e] at h
  exact h
theorem num_rr (hF : F 6 = nI len) (ht : tbl_ tb len) (hR : ∀ i, i < len → R 4 i &&& 255 = nI (tb i)) {i a p : Nat} (hi : i ≤ len) (e : nu_ tb len i = .inr (a, p)) : m5_number (fs_ F i 0) R = some (nI a, fs_ F p 0, R) := by
  have h := num_r hF ht hR hi
  rw [e] at h
  exact h
theorem exp_rl (hF : F 6 = nI len) (ht : tbl_ tb len) (hR : ∀ i, i < len → R 4 i &&& 255 = nI (tb i)) {i s j : Nat} (hi : i ≤ len) (hs : s < 256) (e : sg_ tb len s i = .inl j) : m5_expect (fs_ F i 0) R (nI s) = some (fs_ F j 1, R) := by
  have h := exp_r hF ht hR hi hs
  rw [e] at h
  exact h
theorem exp_rr (hF : F 6 = nI len) (ht : tbl_ tb len) (hR : ∀ i, i < len → R 4 i &&& 255 = nI (tb i)) {i s q : Nat} (hi : i ≤ len) (hs : s < 256) (e : sg_ tb len s i = .inr q) : m5_expect (fs_ F i 0) R (nI s) = some (fs_ F q 0, R) := by
  have h := exp_r hF ht hR hi hs
  rw [e] at h
  exact h
def ts_ (a1 v w a b : Int32) (F : Nat → Int32) (R : Nat → Nat → Int32) : Option (Int32 × (Nat → Int32) × (Nat → Nat → Int32)) :=
  (if a1 = 0 then some (0 : Int32) else (m5_isError F R w a b).bind fun v69 => if v69 = 0 then some (1 : Int32) else some (0 : Int32)).bind fun v42 => m5_script_J196 v w a b F R v42
theorem ts_0 (v w a b : Int32) (F : Nat → Int32) (R : Nat → Nat → Int32) : ts_ 0 v w a b F R = some (v, F, R) := by
  unfold ts_ m5_script_J196
  rw [if_pos rfl, bd_s, if_pos rfl]
/-- something was wrong before: all that is left of a command changes nothing -/
theorem j164_w (hF : F 6 = nI len) (ht : tbl_ tb len) (hR : ∀ i, i < len → R 4 i &&& 255 = nI (tb i)) {j : Nat} (hj : j ≤ len) (h32 : tb j ≠ 32) (v w a b : Int32) : m5_script_J164 0 v w a b (fs_ F j 1) R = some (v, fs_ F j 1, R) := by
  have e := sk_id ht hj h32
  unfold m5_script_J164 m5_script_J196
  rw [exp_w hF ht hR hj, bd_s]
  dsimp only
  rw [e, skip_r hF ht hR hj, bd_s]
  dsimp only
  rw [e, if_pos rfl, bd_s, if_pos rfl]
theorem j164_l (hF : F 6 = nI len) (ht : tbl_ tb len) (hR : ∀ i, i < len → R 4 i &&& 255 = nI (tb i)) {i j : Nat} (hi : i ≤ len) (hj : j ≤ len) (h32 : tb j ≠ 32) (e : sg_ tb len 59 i = .inl j) (v w a b : Int32) : m5_script_J164 0 v w a b (fs_ F i 0) R = some (v, fs_ F j 1, R) := by
  have e2 := sk_id ht hj h32
  have h : m5_expect (fs_ F i 0) R (59 : Int32) = some (fs_ F j 1, R) := exp_rl hF ht hR hi (s := 59) (by decide) e
  unfold m5_script_J164 m5_script_J196
  rw [h, bd_s]
  dsimp only
  rw [skip_r hF ht hR hj, bd_s]
  dsimp only
  rw [e2, if_pos rfl, bd_s, if_pos rfl]
theorem j164_r (hF : F 6 = nI len) (ht : tbl_ tb len) (hR : ∀ i, i < len → R 4 i &&& 255 = nI (tb i)) {i q : Nat} (hi : i ≤ len) (hq : q ≤ len) (e : sg_ tb len 59 i = .inr q) (a1 v w a b : Int32) : m5_script_J164 a1 v w a b (fs_ F i 0) R = ts_ a1 v w a b (fs_ F (sk_ tb len q) 0) R := by
  have h : m5_expect (fs_ F i 0) R (59 : Int32) = some (fs_ F q 0, R) := exp_rr hF ht hR hi (s := 59) (by decide) e
  unfold m5_script_J164 ts_
  rw [h, bd_s]
  dsimp only
  rw [skip_r hF ht hR hq, bd_s]
theorem s36_ (hF : F 6 = nI len) (ht : tbl_ tb len) (hR : ∀ i, i < len → R 4 i &&& 255 = nI (tb i)) {i : Nat} (hi : i < len) {a1 v w : Int32} {kk : (Int32 × (Nat → Int32) × (Nat → Nat → Int32)) → Option (Int32 × (Nat → Int32) × (Nat → Nat → Int32))} (hw : (if nI (tb i) = (115 : Int32) then some (0 : Int32) else if nI (tb i) = (101 : Int32) then some (1 : Int32) else if nI (tb i) = (104 : Int32) then some (2 : Int32) else some (-9 : Int32)) = some w) : m5_script_L36 a1 kk (v, fs_ F i 0, R) = m5_script_J91 a1 kk v (fs_ F i 0) R w := by
  have hl := ht.1
  unfold m5_script_L36
  dsimp only
  rw [if_pos (show fs_ F i 0 10 = 0 from fs_10 _ _ _), if_neg (show ¬ fs_ F i 0 6 ≤ fs_ F i 0 9 by rw [fs_x F i 0 (by decide) (by decide), hF, fs_9]; exact nI_ge hi (by omega)), here_ hF ht hR (Nat.le_of_lt hi), bd_s, if_pos hi, hw, bd_s]
theorem s36_0 (hF : F 6 = nI len) (ht : tbl_ tb len) (hR : ∀ i, i < len → R 4 i &&& 255 = nI (tb i)) {i : Nat} (hi : i < len) (h1 : tb i ≠ 115) (h2 : tb i ≠ 101) (h3 : tb i ≠ 104) {a1 v : Int32} {kk : (Int32 × (Nat → Int32) × (Nat → Nat → Int32)) → Option (Int32 × (Nat → Int32) × (Nat → Nat → Int32))} : m5_script_L36 a1 kk (v, fs_ F i 0, R) = kk (v, fs_ F i 1, R) := by
  have hb := ht.2.1 i hi
  have q1 : ¬ nI (tb i) = (115 : Int32) := fun z => h1 ((nI_eq (b := 115) (by omega) (by decide)).mp z)
  have q2 : ¬ nI (tb i) = (101 : Int32) := fun z => h2 ((nI_eq (b := 101) (by omega) (by decide)).mp z)
  have q3 : ¬ nI (tb i) = (104 : Int32) := fun z => h3 ((nI_eq (b := 104) (by omega) (by decide)).mp z)
  rw [s36_ hF ht hR hi (w := -9) (by rw [if_neg q1, if_neg q2, if_neg q3])]
  unfold m5_script_J91 m5_script_J106
  rw [if_pos rfl, bd_s, if_pos (by decide), fs_u10, fs_10, if_neg (by decide), bd_s]
  rfl
def wt_ (l : Nat) : Int32 := if l = 115 then 0 else if l = 101 then 1 else 2
theorem s36_1 (hF : F 6 = nI len) (ht : tbl_ tb len) (hR : ∀ i, i < len → R 4 i &&& 255 = nI (tb i)) {i : Nat} (hi : i < len) (hl : tb i = 115 ∨ tb i = 101 ∨ tb i = 104) {a1 v : Int32} {kk : (Int32 × (Nat → Int32) × (Nat → Nat → Int32)) → Option (Int32 × (Nat → Int32) × (Nat → Nat → Int32))} : m5_script_L36 a1 kk (v, fs_ F i 0, R) = m5_script_J106 a1 kk v (fs_ F i 0) R (wt_ (tb i)) 0 := by
  rw [s36_ hF ht hR hi (w := wt_ (tb i)) (by rcases hl with h | h | h <;> rw [h] <;> decide)]
  unfold m5_script_J91
  rw [if_neg (by rcases hl with h | h | h <;> rw [h] <;> decide), bd_s]
/-- a letter, and no number -/
theorem sc_1 (hF : F 6 = nI len) (ht : tbl_ tb len) (hR : ∀ i, i < len → R 4 i &&& 255 = nI (tb i)) {i j : Nat} (hi : i < len) (hj : j ≤ len) (h32 : tb j ≠ 32) (hl : tb i = 115 ∨ tb i = 101 ∨ tb i = 104) (e : nu_ tb len (i + 1) = .inl j) {v : Int32} {kk : (Int32 × (Nat → Int32) × (Nat → Nat → Int32)) → Option (Int32 × (Nat → Int32) × (Nat → Nat → Int32))} : m5_script_L36 0 kk (v, fs_ F i 0, R) = kk (v, fs_ F j 1, R) := by
  have h := num_rl hF ht hR hi e
  have e2 := sk_id ht hj h32
  rw [s36_1 hF ht hR hi hl]
  unfold m5_script_J106
  rw [if_pos (by decide), fs_u10, fs_10, if_pos rfl, fs_9, nI_1, fs_u9, h, bd_s]
  dsimp only
  rcases hl with h | h | h
  · rw [h, if_neg (by decide), bd_s]
    dsimp only
    rw [j164_w hF ht hR hj h32, bd_s]
    rfl
  · rw [h, if_neg (by decide), bd_s]
    dsimp only
    rw [j164_w hF ht hR hj h32, bd_s]
    rfl
  · rw [h, if_pos (by decide), exp_w hF ht hR hj, bd_s]
    dsimp only
    rw [if_neg (show ¬ fs_ F (sk_ tb len j) 1 10 = 0 by rw [fs_10]; decide), bd_s]
    dsimp only
    unfold m5_script_J162
    rw [bd_s]
    dsimp only
    rw [e2, j164_w hF ht hR hj h32, bd_s]
    rfl
/-- a start or an end, and its number -/
theorem sc_2 (hF : F 6 = nI len) (ht : tbl_ tb len) (hR : ∀ i, i < len → R 4 i &&& 255 = nI (tb i)) {i a p : Nat} (hi : i < len) (hl : tb i = 115 ∨ tb i = 101) (e : nu_ tb len (i + 1) = .inr (a, p)) {a1 v v' : Int32} {F' : Nat → Int32} {R' : Nat → Nat → Int32} {kk : (Int32 × (Nat → Int32) × (Nat → Nat → Int32)) → Option (Int32 × (Nat → Int32) × (Nat → Nat → Int32))} (h2 : m5_script_J164 a1 v (wt_ (tb i)) (nI a) (nI 0) (fs_ F p 0) R = some (v', F', R')) : m5_script_L36 a1 kk (v, fs_ F i 0, R) = kk (v', F', R') := by
  have h := num_rr hF ht hR hi e
  replace h2 : m5_script_J164 a1 v (wt_ (tb i)) (nI a) (0 : Int32) (fs_ F p 0) R = some (v', F', R') := h2
  rw [s36_1 hF ht hR hi (hl.imp id Or.inl)]
  unfold m5_script_J106
  rw [if_pos (by decide), fs_u10, fs_10, if_pos rfl, fs_9, nI_1, fs_u9, h, bd_s]
  dsimp only
  rw [if_neg (by rcases hl with h | h <;> rw [h] <;> decide), bd_s]
  dsimp only
  rw [h2, bd_s]
  rfl
/-- a handover: its number, and no comma -/
theorem sc_3 (hF : F 6 = nI len) (ht : tbl_ tb len) (hR : ∀ i, i < len → R 4 i &&& 255 = nI (tb i)) {i a p j : Nat} (hi : i < len) (hj : j ≤ len) (h32 : tb j ≠ 32) (hl : tb i = 104) (e : nu_ tb len (i + 1) = .inr (a, p)) (hp : p ≤ len) (e2 : sg_ tb len 44 p = .inl j) {v : Int32} {kk : (Int32 × (Nat → Int32) × (Nat → Nat → Int32)) → Option (Int32 × (Nat → Int32) × (Nat → Nat → Int32))} : m5_script_L36 0 kk (v, fs_ F i 0, R) = kk (v, fs_ F j 1, R) := by
  have h := num_rr hF ht hR hi e
  have h2 : m5_expect (fs_ F p 0) R (44 : Int32) = some (fs_ F j 1, R) := exp_rl hF ht hR hp (s := 44) (by decide) e2
  rw [s36_1 hF ht hR hi (Or.inr (Or.inr hl))]
  unfold m5_script_J106
  rw [if_pos (by decide), fs_u10, fs_10, if_pos rfl, fs_9, nI_1, fs_u9, h, bd_s]
  dsimp only
  rw [if_pos (by rw [hl]; decide), h2, bd_s]
  dsimp only
  rw [if_neg (show ¬ fs_ F j 1 10 = 0 by rw [fs_10]; decide), bd_s]
  dsimp only
  unfold m5_script_J162
  rw [bd_s]
  dsimp only
  rw [j164_w hF ht hR hj h32, bd_s]
  rfl
/-- a handover: its number, its comma -/
theorem sc_4 (hF : F 6 = nI len) (ht : tbl_ tb len) (hR : ∀ i, i < len → R 4 i &&& 255 = nI (tb i)) {i a p q : Nat} (hi : i < len) (hl : tb i = 104) (e : nu_ tb len (i + 1) = .inr (a, p)) (hp : p ≤ len) (e2 : sg_ tb len 44 p = .inr q) {a1 v v' w : Int32} {F1 F' : Nat → Int32} {R' : Nat → Nat → Int32} {kk : (Int32 × (Nat → Int32) × (Nat → Nat → Int32)) → Option (Int32 × (Nat → Int32) × (Nat → Nat → Int32))} (h3 : m5_number (fs_ F q 0) R = some (w, F1, R)) (h4 : m5_script_J164 a1 v (wt_ (tb i)) (nI a) w F1 R = some (v', F', R')) : m5_script_L36 a1 kk (v, fs_ F i 0, R) = kk (v', F', R') := by
  have h := num_rr hF ht hR hi e
  have h2 : m5_expect (fs_ F p 0) R (44 : Int32) = some (fs_ F q 0, R) := exp_rr hF ht hR hp (s := 44) (by decide) e2
  rw [s36_1 hF ht hR hi (Or.inr (Or.inr hl))]
  unfold m5_script_J106
  rw [if_pos (by decide), fs_u10, fs_10, if_pos rfl, fs_9, nI_1, fs_u9, h, bd_s]
  dsimp only
  rw [if_pos (by rw [hl]; decide), h2, bd_s]
  dsimp only
  rw [if_pos (show fs_ F q 0 10 = 0 from fs_10 _ _ _), h3, bd_s]
  dsimp only
  rw [bd_s]
  dsimp only
  unfold m5_script_J162
  rw [bd_s]
  dsimp only
  rw [h4, bd_s]
  rfl
end RR
/-- what a wrong command does, on both sides -/
def ce_ (tb : Nat → Nat) (len i j : Nat) : Prop :=
  (∀ (U : Nat → Int32) (V : Nat → Nat → Int32) (n : Nat), U 0 = nI len → (∀ i, i < len → V 3 i = nI (tb i)) → m3_readCommand (us_U U i n) V = some (0, us_U U j n, V)) ∧ ∀ (F : Nat → Int32) (R : Nat → Nat → Int32) (v : Int32) (kk : (Int32 × (Nat → Int32) × (Nat → Nat → Int32)) → Option (Int32 × (Nat → Int32) × (Nat → Nat → Int32))), F 6 = nI len → (∀ i, i < len → R 4 i &&& 255 = nI (tb i)) → m5_script_L36 0 kk (v, fs_ F i 0, R) = kk (v, fs_ F j 1, R)
/-- what a right command does, on both sides -/
def cg_ (tb : Nat → Nat) (len i l a b q : Nat) : Prop :=
  (∀ (U : Nat → Int32) (V : Nat → Nat → Int32) (n : Nat), n < 33 → U 0 = nI len → (∀ i, i < len → V 3 i = nI (tb i)) → m3_readCommand (us_U U i n) V = some (1, us_U U q (n + 1), kp_ V n (nI l) (nI a) (nI b))) ∧ ∀ (F : Nat → Int32) (R : Nat → Nat → Int32) (a1 v v' : Int32) (F' : Nat → Int32) (R' : Nat → Nat → Int32) (kk : (Int32 × (Nat → Int32) × (Nat → Nat → Int32)) → Option (Int32 × (Nat → Int32) × (Nat → Nat → Int32))), F 6 = nI len → (∀ i, i < len → R 4 i &&& 255 = nI (tb i)) → ts_ a1 v (wt_ l) (nI a) (nI b) (fs_ F (sk_ tb len q) 0) R = some (v', F', R') → m5_script_L36 a1 kk (v, fs_ F i 0, R) = kk (v', F', R')
theorem cmd_ {tb : Nat → Nat} {len i : Nat} (ht : tbl_ tb len) (hi : i < len) : (∃ j, j ≤ len ∧ ce_ tb len i j) ∨ ∃ l a b q, (l = 115 ∨ l = 101 ∨ l = 104) ∧ a < 100 ∧ b < 100 ∧ i + 3 ≤ q ∧ q ≤ len ∧ cg_ tb len i l a b q := by
  by_cases h1 : tb i = 104
  · rcases nu_p ht (i := i + 1) hi with ⟨j, e, hj, h32⟩ | ⟨a, p, e, ha, hip, hp⟩
    · exact Or.inl ⟨j, hj, fun U V n hU hV => rc_1 hU ht hV hi (Or.inr (Or.inr h1)) e, fun F R v kk hF hR => sc_1 hF ht hR hi hj h32 (Or.inr (Or.inr h1)) e⟩
    · rcases sg_p ht (s := 44) hp (by decide) with ⟨j, e2, hj, h32⟩ | ⟨q, e2, hpq, hq⟩
      · exact Or.inl ⟨j, hj, fun U V n hU hV => rc_3 hU ht hV hi h1 e ha hp e2, fun F R v kk hF hR => sc_3 hF ht hR hi hj h32 h1 e hp e2⟩
      · rcases nu_p ht hq with ⟨j, e3, hj, h32⟩ | ⟨b, p2, e3, hb, hqp2, hp2⟩
        · refine Or.inl ⟨j, hj, fun U V n hU hV => ?_, fun F R v kk hF hR => ?_⟩
          · rw [rc_4 hU ht hV hi h1 e ha hp e2 (num_cl hU ht hV hq e3), j75_9]
          · exact sc_4 hF ht hR hi h1 e hp e2 (num_rl hF ht hR hq e3) (j164_w hF ht hR hj h32 _ _ _ _)
        · rcases sg_p ht (s := 59) hp2 (by decide) with ⟨j, e4, hj, h32⟩ | ⟨q2, e4, hpq2, hq2⟩
          · refine Or.inl ⟨j, hj, fun U V n hU hV => ?_, fun F R v kk hF hR => ?_⟩
            · rw [rc_4 hU ht hV hi h1 e ha hp e2 (num_cr hU ht hV hq e3), j75_l hU ht hV hp2 e4 _ _ hb]
            · exact sc_4 hF ht hR hi h1 e hp e2 (num_rr hF ht hR hq e3) (j164_l hF ht hR hp2 hj h32 e4 _ _ _ _)
          · refine Or.inr ⟨104, a, b, q2, Or.inr (Or.inr rfl), ha, hb, by omega, hq2, fun U V n hn hU hV => ?_, fun F R a1 v v' F' R' kk hF hR hts => ?_⟩
            · rw [rc_4 hU ht hV hi h1 e ha hp e2 (num_cr hU ht hV hq e3), j75_r hU ht hV hp2 hn e4 _ _ hb, h1]
            · exact sc_4 hF ht hR hi h1 e hp e2 (num_rr hF ht hR hq e3) (by rw [j164_r hF ht hR hp2 hq2 e4, h1]; exact hts)
  · by_cases h2 : tb i = 115 ∨ tb i = 101
    · have h3 : tb i = 115 ∨ tb i = 101 ∨ tb i = 104 := h2.imp id Or.inl
      rcases nu_p ht (i := i + 1) hi with ⟨j, e, hj, h32⟩ | ⟨a, p, e, ha, hip, hp⟩
      · exact Or.inl ⟨j, hj, fun U V n hU hV => rc_1 hU ht hV hi h3 e, fun F R v kk hF hR => sc_1 hF ht hR hi hj h32 h3 e⟩
      · rcases sg_p ht (s := 59) hp (by decide) with ⟨j, e4, hj, h32⟩ | ⟨q2, e4, hpq2, hq2⟩
        · refine Or.inl ⟨j, hj, fun U V n hU hV => ?_, fun F R v kk hF hR => ?_⟩
          · rw [rc_2 hU ht hV hi h2 e ha, j75_l hU ht hV hp e4 _ _ (by decide)]
          · exact sc_2 hF ht hR hi h2 e (j164_l hF ht hR hp hj h32 e4 _ _ _ _)
        · refine Or.inr ⟨tb i, a, 0, q2, h3, ha, by decide, by omega, hq2, fun U V n hn hU hV => ?_, fun F R a1 v v' F' R' kk hF hR hts => ?_⟩
          · rw [rc_2 hU ht hV hi h2 e ha, j75_r hU ht hV hp hn e4 _ _ (by decide)]
          · exact sc_2 hF ht hR hi h2 e (by rw [j164_r hF ht hR hp hq2 e4]; exact hts)
    · have q1 : tb i ≠ 115 := fun z => h2 (Or.inl z)
      have q2 : tb i ≠ 101 := fun z => h2 (Or.inr z)
      exact Or.inl ⟨i, Nat.le_of_lt hi, fun U V n hU hV => rc_0 hU ht hV hi q1 q2 h1, fun F R v kk hF hR => s36_0 hF ht hR hi q1 q2 h1⟩
