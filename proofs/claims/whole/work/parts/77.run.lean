/-! THE WHOLE TEXT, READ AND RUN ON BOTH SIDES -/
/-- a text that is wrong from here, at j -/
def wE_ (tb : Nat → Nat) (len f i j : Nat) : Prop :=
  (∀ (m n i0 : Nat) (U : Nat → Int32) (V : Nat → Nat → Int32), f < m → 3 * n ≤ i0 → i0 ≤ len → sk_ tb len i0 = i → U 0 = nI len → (∀ i, i < len → V 3 i = nI (tb i)) → ∃ (n' : Nat) (V' : Nat → Nat → Int32), wh m3_read_L12 m (nI n, us_U U i0 n, V) = some (0, us_U U j n', V') ∧ ∀ i, i < len → V' 3 i = nI (tb i)) ∧
  ∀ (m : Nat) (F : Nat → Int32) (R : Nat → Nat → Int32), f < m → F 6 = nI len → (∀ i, i < len → R 4 i &&& 255 = nI (tb i)) → wh (m5_script_L36 0) m ((0 : Int32), fs_ F i 0, R) = some ((0 : Int32), fs_ F j 1, R)
/-- a text that is right from here: the class reads it -/
def wR_ (tb : Nat → Nat) (len f i k : Nat) (C : Nat → Nat → Nat) : Prop :=
  ∀ (m n i0 : Nat) (U : Nat → Int32) (V : Nat → Nat → Int32), f < m → 3 * n ≤ i0 → i0 ≤ len → sk_ tb len i0 = i → U 0 = nI len → (∀ i, i < len → V 3 i = nI (tb i)) → ∃ V' : Nat → Nat → Int32, wh m3_read_L12 m (nI n, us_U U i0 n, V) = some (bi (decide (0 < n + k)), us_U U len (n + k), V') ∧ (∀ j t, j < 3 → t < n → V' j t = V j t) ∧ ∀ j t, j < 3 → t < k → V' j (n + t) = nI (C j t)
/-- the reference reads it -/
def wS_ (tb : Nat → Nat) (len f i : Nat) : Prop :=
  ∀ (m : Nat) (F : Nat → Int32) (R : Nat → Nat → Int32), f < m → F 6 = nI len → (∀ i, i < len → R 4 i &&& 255 = nI (tb i)) → wh (m5_script_L36 0) m ((0 : Int32), fs_ F i 0, R) = some ((0 : Int32), fs_ F len 0, R)
/-- both run it -/
def wX_ (tb : Nat → Nat) (len f i k : Nat) (C : Nat → Nat → Nat) : Prop :=
  ∀ (m1 m2 n : Nat) (ex : Int32) (U : Nat → Int32) (V : Nat → Nat → Int32) (F : Nat → Int32) (R : Nat → Nat → Int32) (N : Nat → ns_T), f < m1 → f < m2 → U 2 = nI (n + k) → n + k ≤ 33 → (∀ j t, j < 3 → t < k → V j (n + t) = nI (C j t)) → F 6 = nI len → (∀ i, i < len → R 4 i &&& 255 = nI (tb i)) → nt_ (R 0) (N 0) → ∃ (r : Int32) (N' : Nat → ns_T) (F' : Nat → Int32) (R' : Nat → Nat → Int32), wh (m4_runScript_L36 U V) m1 (ex, nI n, N) = some (r, N') ∧ wh (m5_script_L36 1) m2 (ex, fs_ F i 0, R) = some (r, F', R') ∧ nt_ (R' 0) (N' 0) ∧ (∀ j, j ≠ 0 → N' j = N j) ∧ (∀ x, x ≠ 7 → x ≠ 9 → x ≠ 10 → F' x = F x) ∧ ∀ j, j ≠ 0 → j ≠ 5 → R' j = R j
theorem fs_self {F : Nat → Int32} {i : Nat} {w : Int32} (h9 : F 9 = nI i) (h10 : F 10 = w) : fs_ F i w = F := funext fun x => by
  by_cases h1 : x = 10
  · rw [h1, fs_10, h10]
  · by_cases h2 : x = 9
    · rw [h2, fs_9, h9]
    · exact fs_x F i w h2 h1
section EX
variable {U : Nat → Int32} {V : Nat → Nat → Int32} {F5 : Nat → Int32} {R : Nat → Nat → Int32} {N : Nat → ns_T}
/-- the loop of the class, up to the command -/
theorem l36_ {n k : Nat} (hU : U 2 = nI (n + (k + 1))) (hk : n + (k + 1) ≤ 33) {x y z e d : Int32} (h0 : V 0 n = x) (h1 : V 1 n = y) (h2 : V 2 n = z) {ex : Int32} {N' : Nat → ns_T} {kk : (Int32 × Int32 × (Nat → ns_T)) → Option (Int32 × (Nat → ns_T))} (he : m4_commandError (N 0).1 (N 0).2.1 (N 0).2.2.1 (N 0).2.2.2 x y z = some e) (hd : (if e = 0 then
  if x = (101 : Int32) then
  (m2_end (N 0).1 (N 0).2.1 (N 0).2.2.1 (N 0).2.2.2 y).bind fun v =>
  some ((ex + (1 : Int32)), va_up N 0 (v.2.1, v.2.2, (N 0).2.2))
  else if x = (115 : Int32) then
  (m2_start (N 0).1 (N 0).2.1 (N 0).2.2.1 (N 0).2.2.2 y).bind fun v =>
  some ((ex + (1 : Int32)), va_up N 0 (v.2.1, v.2.2, (N 0).2.2))
  else (m2_move (N 0).1 (N 0).2.1 (N 0).2.2.1 (N 0).2.2.2 y z).bind fun v =>
  some ((ex + (1 : Int32)), va_up N 0 (v.2.1, v.2.2, (N 0).2.2))
  else
  some (ex, N)) = some (d, N')) : m4_runScript_L36 U V kk (ex, nI n, N) = kk (d, nI (n + 1), N') := by
  have i1 : inb (nI n) 33 := in_n (by omega) (by decide)
  have q1 : ¬ nI (n + (k + 1)) ≤ nI n := nI_ge (by omega) (by omega)
  have q2 : ¬ (33 : Int32) ≤ nI n := nI_ge (b := 33) (by omega) (by decide)
  unfold m4_runScript_L36
  dsimp only
  rw [hU, if_neg q1, if_neg q2, if_pos i1, if_pos i1, if_pos i1, nI_clamp (by omega), h0, h1, h2, he, bd_s]
  refine Eq.trans (congrArg (fun o => Option.bind o _) hd) ?_
  rw [bd_s]
  unfold m4_runScript_J166
  rw [← nI_1]
theorem cnt_ {v : Int32} (h : 0 ≤ v ∨ v = -9) (ex : Int32) (F : Nat → Int32) (R : Nat → Nat → Int32) : m5_script_J240 ex v F R = some (ex + 1, F, R) := by
  unfold m5_script_J240 m5_script_J260
  by_cases q : 0 ≤ v
  · rw [if_pos q, bd_s]
  · rw [if_neg q, if_pos (h.resolve_left q), bd_s]
/-- one command run on both sides -/
theorem ex_ {n k : Nat} (hU : U 2 = nI (n + (k + 1))) (hk : n + (k + 1) ≤ 33) {l a b : Nat} (hl : l = 115 ∨ l = 101 ∨ l = 104) (h0 : V 0 n = nI l) (h1 : V 1 n = nI a) (h2 : V 2 n = nI b) (hN : nt_ (R 0) (N 0)) (ex : Int32) : ∃ (d : Int32) (N' : Nat → ns_T) (F' : Nat → Int32) (R' : Nat → Nat → Int32), (∀ kk, m4_runScript_L36 U V kk (ex, nI n, N) = kk (d, nI (n + 1), N')) ∧ ts_ 1 ex (wt_ l) (nI a) (nI b) F5 R = some (d, F', R') ∧ nt_ (R' 0) (N' 0) ∧ (∀ j, j ≠ 0 → N' j = N j) ∧ (∀ x, x ≠ 7 → F' x = F5 x) ∧ ∀ j, j ≠ 0 → j ≠ 5 → R' j = R j := by
  have hN0 := hN
  obtain ⟨rw, cl, ru, sz, X, Y, Z, hn, hcn⟩ := hN
  rcases hl with rfl | rfl | rfl
  · obtain ⟨e, e1, e2, e3⟩ := err_s (F5 := F5) hn (nI a)
    have he : m4_commandError (N 0).1 (N 0).2.1 (N 0).2.2.1 (N 0).2.2.2 (nI 115) (nI a) (nI b) = some e := by
      unfold m4_commandError
      rw [if_neg (by decide), if_pos (by decide), e1, bd_s]
    have hw : wt_ 115 = 0 := rfl
    by_cases q : e = 0
    · obtain ⟨⟨x, hx, hax⟩, hf, hi⟩ := e2 q
      obtain ⟨v, F', R', F5', Rr', o1, o2, o3, o4, o5, o6⟩ := op_start (F5 := F5) (Rr := R) hn hcn hx hf
      rw [← hax] at o1 o2
      refine ⟨ex + 1, va_up N 0 (F', R', (N 0).2.2), F5', Rr', fun kk => l36_ hU hk h0 h1 h2 he ?_, ?_, by rw [va_up_self]; exact o3, fun j hj => va_up_ne _ _ hj, o5, o4⟩
      · rw [if_pos q, if_neg (by decide), if_pos (by decide), o1, bd_s]
      · unfold ts_
        rw [if_neg (by decide), hw, hi, bd_s, if_pos rfl, bd_s]
        unfold m5_script_J196
        rw [if_neg (by decide), if_pos rfl, o2, bd_s]
        dsimp only
        rw [bd_s]
        dsimp only
        rw [cnt_ o6]
    · refine ⟨ex, N, F5, R, fun kk => l36_ hU hk h0 h1 h2 he (by rw [if_neg q]), ?_, hN0, fun _ _ => rfl, fun _ _ => rfl, fun _ _ _ => rfl⟩
      unfold ts_
      rw [if_neg (by decide), hw, (e3 q _).1, bd_s, if_neg (by decide), bd_s]
      unfold m5_script_J196
      rw [if_pos rfl]
  · obtain ⟨e1, e2⟩ := err_e (F5 := F5) hn (nI a) (nI b)
    have hw : wt_ 101 = 1 := rfl
    cases hx : ic_ X (nI a) with
    | true =>
      have he : m4_commandError (N 0).1 (N 0).2.1 (N 0).2.2.1 (N 0).2.2.2 (nI 101) (nI a) (nI b) = some 0 := by
        unfold m4_commandError
        rw [if_pos (by decide), p2_present hn, bd_s, hx, if_neg (by decide), bd_s]; rfl
      obtain ⟨x, hx60, hax, hX⟩ := ic_t hx
      obtain ⟨v, F', R', F5', Rr', o1, o2, o3, o4, o5, o6⟩ := op_end (F5 := F5) (Rr := R) hn hcn hx60
      rw [← hax] at o1 o2
      refine ⟨ex + 1, va_up N 0 (F', R', (N 0).2.2), F5', Rr', fun kk => l36_ hU hk h0 h1 h2 he ?_, ?_, by rw [va_up_self]; exact o3, fun j hj => va_up_ne _ _ hj, o5, o4⟩
      · rw [if_pos rfl, if_pos (by decide), o1, bd_s]
      · unfold ts_
        rw [if_neg (by decide), hw, e1, bd_s, hx, if_pos (by decide), bd_s]
        unfold m5_script_J196
        rw [if_neg (by decide), if_neg (by decide), if_pos rfl, o2, bd_s]
        dsimp only
        rw [bd_s]
        dsimp only
        rw [cnt_ o6]
    | false =>
      have he : m4_commandError (N 0).1 (N 0).2.1 (N 0).2.2.1 (N 0).2.2.2 (nI 101) (nI a) (nI b) = some (-4) := by
        unfold m4_commandError
        rw [if_pos (by decide), p2_present hn, bd_s, hx, if_pos (by decide), bd_s]; rfl
      refine ⟨ex, N, F5, R, fun kk => l36_ hU hk h0 h1 h2 he (by rw [if_neg (by decide)]), ?_, hN0, fun _ _ => rfl, fun _ _ => rfl, fun _ _ _ => rfl⟩
      unfold ts_
      rw [if_neg (by decide), hw, e1, bd_s, hx, if_neg (by decide), bd_s]
      unfold m5_script_J196
      rw [if_pos rfl]
  · obtain ⟨e, e1, e2, e3⟩ := err_m (F5 := F5) hn (nI a) (nI b)
    have he : m4_commandError (N 0).1 (N 0).2.1 (N 0).2.2.1 (N 0).2.2.2 (nI 104) (nI a) (nI b) = some e := by
      unfold m4_commandError
      rw [if_neg (by decide), if_neg (by decide), e1, bd_s]
    have hw : wt_ 104 = 2 := rfl
    by_cases q : e = 0
    · obtain ⟨x, y, hx, hax, hX, hy, hby, hi⟩ := e2 q
      obtain ⟨v, F', R', F5', Rr', o1, o2, o3, o4, o5, o6⟩ := op_move (F5 := F5) (Rr := R) hn hcn hx hX hy
      rw [← hax, ← hby] at o1 o2
      refine ⟨ex + 1, va_up N 0 (F', R', (N 0).2.2), F5', Rr', fun kk => l36_ hU hk h0 h1 h2 he ?_, ?_, by rw [va_up_self]; exact o3, fun j hj => va_up_ne _ _ hj, o5, o4⟩
      · rw [if_pos q, if_neg (by decide), if_neg (by decide), o1, bd_s]
      · unfold ts_
        rw [if_neg (by decide), hw, hi, bd_s, if_pos rfl, bd_s]
        unfold m5_script_J196
        rw [if_neg (by decide), if_neg (by decide), if_neg (by decide), o2, bd_s]
        dsimp only
        rw [bd_s]
        dsimp only
        rw [cnt_ o6]
    · refine ⟨ex, N, F5, R, fun kk => l36_ hU hk h0 h1 h2 he (by rw [if_neg q]), ?_, hN0, fun _ _ => rfl, fun _ _ => rfl, fun _ _ _ => rfl⟩
      unfold ts_
      rw [if_neg (by decide), hw, (e3 q).1, bd_s, if_neg (by decide), bd_s]
      unfold m5_script_J196
      rw [if_pos rfl]
end EX
section AL
variable {tb : Nat → Nat} {len : Nat}
/-- the class at the end of the text -/
theorem rd_end (ht : tbl_ tb len) {m n i0 : Nat} {U : Nat → Int32} {V : Nat → Nat → Int32} (h3 : 3 * n ≤ i0) (hi0 : i0 ≤ len) (hsk : sk_ tb len i0 = len) (hU : U 0 = nI len) (hV : ∀ i, i < len → V 3 i = nI (tb i)) : wh m3_read_L12 (m + 1) (nI n, us_U U i0 n, V) = some (bi (decide (0 < n)), us_U U len n, V) := by
  have hl := ht.1
  have q1 : ¬ (33 : Int32) < nI n := nI_nlt (a := 33) (by omega) (by decide)
  show m3_read_L12 (wh m3_read_L12 m) (nI n, us_U U i0 n, V) = _
  generalize wh m3_read_L12 m = kk
  have q2 : ¬ us_U U len n 1 < us_U U len n 0 := by
    rw [uu_1, uu_x U len n (by decide) (by decide), hU]; exact nI_nlt (Nat.le_refl _) (by omega)
  unfold m3_read_L12
  dsimp only
  rw [if_neg q1, skip_c hU ht hV hi0, bd_s]
  dsimp only
  rw [hsk, if_neg q2]
  by_cases g : 0 < n
  · rw [if_neg (show ¬ us_U U len n 2 ≤ 0 by rw [uu_2]; exact nI_nle g (by omega)), decide_eq_true g]; rfl
  · have g0 : n = 0 := by omega
    subst g0
    rw [if_pos (show us_U U len 0 2 ≤ 0 by rw [uu_2]; decide)]; rfl
/-- the class at a command -/
theorem rd_step (ht : tbl_ tb len) {m n i0 i : Nat} {U : Nat → Int32} {V : Nat → Nat → Int32} (h3 : 3 * n ≤ i0) (hi0 : i0 ≤ len) (hsk : sk_ tb len i0 = i) (hil : i < len) (hU : U 0 = nI len) (hV : ∀ i, i < len → V 3 i = nI (tb i)) {c : Int32} {U1 : Nat → Int32} {V1 : Nat → Nat → Int32} (hc : m3_readCommand (us_U U i n) V = some (c, U1, V1)) : wh m3_read_L12 (m + 1) (nI n, us_U U i0 n, V) = if c = 0 then some (0, U1, V1) else wh m3_read_L12 m (nI (n + 1), U1, V1) := by
  have hl := ht.1
  have q1 : ¬ (33 : Int32) < nI n := nI_nlt (a := 33) (by omega) (by decide)
  show m3_read_L12 (wh m3_read_L12 m) (nI n, us_U U i0 n, V) = _
  generalize wh m3_read_L12 m = kk
  have q2 : us_U U i n 1 < us_U U i n 0 := by
    rw [uu_1, uu_x U i n (by decide) (by decide), hU]; exact nI_lt hil (by omega)
  unfold m3_read_L12
  dsimp only
  rw [if_neg q1, skip_c hU ht hV hi0, bd_s]
  dsimp only
  rw [hsk, if_pos q2, hc, bd_s]
  dsimp only
  rw [nI_1]
theorem st_end {a1 v w : Int32} {F : Nat → Int32} {R : Nat → Nat → Int32} {i m : Nat} (hl : len ≤ 100) (hF : F 6 = nI len) (h : w = 0 → i = len) : wh (m5_script_L36 a1) (m + 1) (v, fs_ F i w, R) = some (v, fs_ F i w, R) := by
  show m5_script_L36 a1 (wh (m5_script_L36 a1) m) (v, fs_ F i w, R) = _
  generalize wh (m5_script_L36 a1) m = kk
  unfold m5_script_L36
  dsimp only
  by_cases q : w = 0
  · rw [if_pos (show fs_ F i w 10 = 0 by rw [fs_10]; exact q), if_pos (show fs_ F i w 6 ≤ fs_ F i w 9 by rw [fs_x F i w (by decide) (by decide), hF, fs_9, h q]; exact nI_le (Nat.le_refl _) (by omega))]
  · rw [if_neg (show ¬ fs_ F i w 10 = 0 by rw [fs_10]; exact q)]
theorem all_ (ht : tbl_ tb len) : ∀ f i, i ≤ len → len < 3 * f + i → (∃ j, j ≤ len ∧ wE_ tb len f i j) ∨ ∃ k C, i + 3 * k ≤ len ∧ (i < len → 0 < k) ∧ wR_ tb len f i k C ∧ wS_ tb len f i ∧ wX_ tb len f i k C := by
  have hl := ht.1
  intro f
  induction f with
  | zero => intro i h1 h2; omega
  | succ f ih =>
    intro i hi hf
    by_cases q : i = len
    · subst q
      refine Or.inr ⟨0, fun _ _ => 0, Nat.le_refl _, fun z => absurd z (Nat.lt_irrefl _), ?_, ?_, ?_⟩
      · intro m n i0 U V hm h3 hi0 hsk hU hV
        obtain ⟨m, rfl⟩ : ∃ m', m = m' + 1 := ⟨m - 1, by omega⟩
        exact ⟨V, rd_end ht h3 hi0 hsk hU hV, fun _ _ _ _ => rfl, fun j t _ h => absurd h (Nat.not_lt_zero _)⟩
      · intro m F R hm hF hR
        obtain ⟨m, rfl⟩ : ∃ m', m = m' + 1 := ⟨m - 1, by omega⟩
        exact st_end hl hF (fun _ => rfl)
      · intro m1 m2 n ex U V F R N hm1 hm2 hU hk hrow hF hR hN
        obtain ⟨m1, rfl⟩ : ∃ m', m1 = m' + 1 := ⟨m1 - 1, by omega⟩
        obtain ⟨m2, rfl⟩ : ∃ m', m2 = m' + 1 := ⟨m2 - 1, by omega⟩
        refine ⟨ex, N, fs_ F i 0, R, ?_, st_end hl hF (fun _ => rfl), hN, fun _ _ => rfl, fun x h7 h9 h10 => fs_x F i 0 h9 h10, fun _ _ _ => rfl⟩
        show m4_runScript_L36 U V (wh (m4_runScript_L36 U V) m1) (ex, nI n, N) = _
        generalize wh (m4_runScript_L36 U V) m1 = kk
        unfold m4_runScript_L36
        dsimp only
        rw [if_pos (show U 2 ≤ nI n by rw [hU]; exact nI_le (Nat.le_refl _) (by omega))]
    · have hil : i < len := by omega
      rcases cmd_ ht hil with ⟨j, hj, hc1, hc2⟩ | ⟨l, a, b, q2, hlt, ha, hb, h3q, hq2, hg1, hg2⟩
      · refine Or.inl ⟨j, hj, ?_, ?_⟩
        · intro m n i0 U V hm h3 hi0 hsk hU hV
          obtain ⟨m, rfl⟩ : ∃ m', m = m' + 1 := ⟨m - 1, by omega⟩
          refine ⟨n, V, ?_, hV⟩
          rw [rd_step ht h3 hi0 hsk hil hU hV (hc1 U V n hU hV), if_pos rfl]
        · intro m F R hm hF hR
          obtain ⟨m, rfl⟩ : ∃ m', m = m' + 2 := ⟨m - 2, by omega⟩
          show m5_script_L36 0 (wh (m5_script_L36 0) (m + 1)) ((0 : Int32), fs_ F i 0, R) = _
          rw [hc2 F R 0 _ hF hR]
          exact st_end hl hF (fun z => absurd z (by decide))
      · have hsp := sk_p ht hq2
        have hn33 : ∀ n i0, 3 * n ≤ i0 → i0 ≤ len → sk_ tb len i0 = i → n < 33 ∧ 3 * (n + 1) ≤ q2 := fun n i0 h1 h2 h4 => by
          have := (sk_p ht h2).1
          omega
        rcases ih (sk_ tb len q2) hsp.2.1 (by omega) with ⟨j, hj, hE1, hE2⟩ | ⟨k, C, hk, hk0, hR1, hS1, hX1⟩
        · refine Or.inl ⟨j, hj, ?_, ?_⟩
          · intro m n i0 U V hm h3 hi0 hsk hU hV
            obtain ⟨m, rfl⟩ : ∃ m', m = m' + 1 := ⟨m - 1, by omega⟩
            have hn := hn33 n i0 h3 hi0 hsk
            rw [rd_step ht h3 hi0 hsk hil hU hV (hg1 U V n hn.1 hU hV), if_neg (by decide)]
            exact hE1 m (n + 1) q2 U _ (by omega) hn.2 hq2 rfl hU (fun x hx => by rw [kp_3]; exact hV x hx)
          · intro m F R hm hF hR
            obtain ⟨m, rfl⟩ : ∃ m', m = m' + 1 := ⟨m - 1, by omega⟩
            show m5_script_L36 0 (wh (m5_script_L36 0) m) ((0 : Int32), fs_ F i 0, R) = _
            rw [hg2 F R 0 0 0 _ R _ hF hR (ts_0 _ _ _ _ _ _)]
            exact hE2 m F R (by omega) hF hR
        · refine Or.inr ⟨k + 1, fun j t => match t with | 0 => (if j = 0 then l else if j = 1 then a else b) | t + 1 => C j t, by omega, fun _ => Nat.succ_pos _, ?_, ?_, ?_⟩
          · intro m n i0 U V hm h3 hi0 hsk hU hV
            obtain ⟨m, rfl⟩ : ∃ m', m = m' + 1 := ⟨m - 1, by omega⟩
            have hn := hn33 n i0 h3 hi0 hsk
            rw [rd_step ht h3 hi0 hsk hil hU hV (hg1 U V n hn.1 hU hV), if_neg (by decide)]
            obtain ⟨V', v1, v2, v3⟩ := hR1 m (n + 1) q2 U (kp_ V n (nI l) (nI a) (nI b)) (by omega) hn.2 hq2 rfl hU (fun x hx => by rw [kp_3]; exact hV x hx)
            have hkp : ∀ j t, j < 3 → kp_ V n (nI l) (nI a) (nI b) j t = if t = n then nI (if j = 0 then l else if j = 1 then a else b) else V j t := fun j t hj => by
              rcases (by omega : j = 0 ∨ j = 1 ∨ j = 2) with rfl | rfl | rfl
              · rw [kp_0]
                by_cases g : t = n
                · rw [g, pk_us, if_pos rfl]; rfl
                · rw [pk_un g, if_neg g]
              · rw [kp_1]
                by_cases g : t = n
                · rw [g, pk_us, if_pos rfl]; rfl
                · rw [pk_un g, if_neg g]
              · rw [kp_2]
                by_cases g : t = n
                · rw [g, pk_us, if_pos rfl]; rfl
                · rw [pk_un g, if_neg g]
            refine ⟨V', ?_, fun j t hj ht' => ?_, fun j t hj ht' => ?_⟩
            · rw [v1, show n + 1 + k = n + (k + 1) by omega]
            · rw [v2 j t hj (by omega), hkp j t hj, if_neg (by omega)]
            · cases t with
              | zero => rw [Nat.add_zero, v2 j n hj (by omega), hkp j n hj, if_pos rfl]
              | succ t => rw [show n + (t + 1) = n + 1 + t by omega]; exact v3 j t hj (by omega)
          · intro m F R hm hF hR
            obtain ⟨m, rfl⟩ : ∃ m', m = m' + 1 := ⟨m - 1, by omega⟩
            show m5_script_L36 0 (wh (m5_script_L36 0) m) ((0 : Int32), fs_ F i 0, R) = _
            rw [hg2 F R 0 0 0 _ R _ hF hR (ts_0 _ _ _ _ _ _)]
            exact hS1 m F R (by omega) hF hR
          · intro m1 m2 n ex U V F R N hm1 hm2 hU hk33 hrow hF hR hN
            obtain ⟨m1, rfl⟩ : ∃ m', m1 = m' + 1 := ⟨m1 - 1, by omega⟩
            obtain ⟨m2, rfl⟩ : ∃ m', m2 = m' + 1 := ⟨m2 - 1, by omega⟩
            have r0 : V 0 n = nI l := hrow 0 0 (by decide) (Nat.succ_pos _)
            have r1 : V 1 n = nI a := hrow 1 0 (by decide) (Nat.succ_pos _)
            have r2 : V 2 n = nI b := hrow 2 0 (by decide) (Nat.succ_pos _)
            obtain ⟨d, N1, F1, R1, x1, x2, x3, x4, x5, x6⟩ := ex_ (F5 := fs_ F (sk_ tb len q2) 0) hU hk33 hlt r0 r1 r2 hN ex
            have f1 : fs_ F1 (sk_ tb len q2) 0 = F1 := fs_self (by rw [x5 9 (by decide), fs_9]) (by rw [x5 10 (by decide), fs_10])
            obtain ⟨r, N2, F2, R2, y1, y2, y3, y4, y5, y6⟩ := hX1 m1 m2 (n + 1) d U V F1 R1 N1 (by omega) (by omega) (by rw [hU]; exact congrArg nI (by omega)) (by omega) (fun j t hj ht' => by
              rw [show n + 1 + t = n + (t + 1) by omega]; exact hrow j (t + 1) hj (by omega)) (by rw [x5 6 (by decide), fs_x F _ 0 (by decide) (by decide)]; exact hF) (fun x hx => by rw [x6 4 (by decide) (by decide)]; exact hR x hx) x3
            rw [f1] at y2
            refine ⟨r, N2, F2, R2, ?_, ?_, y3, fun j hj => (y4 j hj).trans (x4 j hj), fun x h7 h9 h10 => by rw [y5 x h7 h9 h10, x5 x h7, fs_x F _ 0 h9 h10], fun j h0 h5 => (y6 j h0 h5).trans (x6 j h0 h5)⟩
            · show m4_runScript_L36 U V (wh (m4_runScript_L36 U V) m1) (ex, nI n, N) = _
              rw [x1]; exact y1
            · show m5_script_L36 1 (wh (m5_script_L36 1) m2) (ex, fs_ F i 0, R) = _
              rw [hg2 F R 1 ex d F1 R1 _ hF hR x2]; exact y2
end AL
