/-! THE CLASS'S READINGS, in the same numbers -/
def lo_s (rw cl ru sz : Nat) (G : Nat → Int32) (Q : Nat → Nat → Int32) : Prop := G 0 = nI (rw * cl) ∧ G 1 = nI (gs ru * sz) ∧ G 2 = nI sz ∧ ∀ c, c < rw * cl → Q 0 c = nI (c / cl) ∧ Q 1 c = nI (c % cl) ∧ Q 2 c = nI (gp_ cl ru c) ∧ (∀ h, h < 32 → bt (Q 3 c) h = (decide (h < gs ru * sz) && nm cl ru c h)) ∧ (∀ d, d < 32 → bt (Q 4 c) d = (decide (d < rw * cl) && ne_ cl ru c d))
/-- q in the cell c is no near call's, and nominal for the cell or a neighbour -/
def ok_ (rw cl ru : Nat) (X Y : Nat → Nat) (k c q : Nat) : Prop := (∀ j, j < 60 → j ≠ k → Y j = q + 1 → ¬ ds cl (X j - 1) c < ru) ∧ ∃ d, d < rw * cl ∧ ds cl d c < 2 ∧ nm cl ru d q = true
def jj_ (rw cl ru : Nat) (X Y : Nat → Nat) : Prop := ∀ k, k < 60 → Y k ≠ 0 → ok_ rw cl ru X Y k (X k - 1) (Y k - 1)
def nr_c (rw cl ru sz : Nat) (X Y : Nat → Nat) (Z : Nat → Bool) (s F : Nat → Int32) (R : Nat → Nat → Int32) (G : Nat → Int32) (Q : Nat → Nat → Int32) : Prop :=
  cs_s rw cl ru sz s ∧ wf_ (rw * cl) (gs ru * sz) X Y Z s ∧ (un_ X Y ∧ jj_ rw cl ru X Y) ∧ lo_s rw cl ru sz G Q ∧ (∀ k, k < 60 → (X k ≠ 0 → R 0 k = nI (X k - 1)) ∧ R 1 k = chv (Y k) ∧ R 2 k = bi (Z k)) ∧ (∀ c, c < rw * cl → ∀ h, h < 32 → bt (R 3 c) h = us s c h) ∧ F 1 = s 4 ∧ F 2 = s 5 ∧ F 3 = s 6 ∧ ((s 6 = 0 ∨ s 6 = 1) ∧ ¬ s 4 < 0) ∧ ¬ s 5 < 0
/-- the greatest place below n -/
def la (p : Nat → Bool) : Nat → Int32
  | 0 => -9
  | n + 1 => if p n then nI n else la p n
def dw : Nat → Int32
  | 0 => -1
  | n + 1 => nI n
theorem dw_m (n : Nat) : dw (n + 1) + (-1) = dw n := by
  cases n with
  | zero => decide
  | succ n => exact pk_m1 n
theorem dw_e (n : Nat) : nI n - 1 = dw n := by
  cases n with
  | zero => decide
  | succ n => exact pk_sub (b := 1) (by omega)
theorem cn_ext {p : Nat → Bool} {e : Nat} : ∀ {n : Nat}, e ≤ n → (∀ k, e ≤ k → k < n → p k = false) → cn p n = cn p e
  | 0, h, _ => by rw [show e = 0 by omega]
  | n + 1, h, hp => by
    by_cases q : e = n + 1
    · rw [q]
    · rw [cn, hp n (by omega) (by omega), cn_ext (by omega) (fun k h1 h2 => hp k h1 (by omega))]; rfl
theorem an_ext {p : Nat → Bool} {e : Nat} : ∀ {n : Nat}, e ≤ n → (∀ k, e ≤ k → k < n → p k = false) → an p n = an p e
  | 0, h, _ => by rw [show e = 0 by omega]
  | n + 1, h, hp => by
    by_cases q : e = n + 1
    · rw [q]
    · rw [an, hp n (by omega) (by omega), an_ext (by omega) (fun k h1 h2 => hp k h1 (by omega)), Bool.or_false]
/-- a loop that goes the recursion of its result -/
theorem wh_rec {σ ρ : Type} {b : (σ → Option ρ) → σ → Option ρ} (st : Nat → σ) (res : Nat → ρ) (e : Nat) (hs : ∀ m, m < e → (∀ kk, b kk (st (m + 1)) = some (res (m + 1))) ∨ (res (m + 1) = res m ∧ ∀ kk, b kk (st (m + 1)) = kk (st m))) (h0 : ∀ kk, b kk (st 0) = some (res 0)) : ∀ n m, m ≤ e → m < n → wh b n (st m) = some (res m) := by
  intro n
  induction n with
  | zero => intro m h1 h2; omega
  | succ n ih =>
    intro m h1 h2
    cases m with
    | zero => exact h0 _
    | succ m =>
      rcases hs m (by omega) with h | ⟨h3, h4⟩
      · exact h _
      · rw [h3]
        exact (h4 _).trans (ih m (by omega) (by omega))
def spx (x y : Int32) : Option Int32 :=
  lt_ x fun v9 =>
  lt_ y fun v12 =>
  lt_ (if 0 ≤ (v9 + v12) then (v9 + v12) else 0 - (v9 + v12)) fun v13 =>
  lt_ (if 0 ≤ v9 then v9 else 0 - v9) fun v14 =>
  lt_ (if 0 ≤ v12 then v12 else 0 - v12) fun v15 =>
  lt_ (if v14 < v15 then v15 else v14) fun v16 =>
  lt_ (if v13 < v16 then v16 else v13) fun v17 =>
  some v17
theorem d1_sp : ∀ r1, r1 < 5 → ∀ r2, r2 < 5 → ∀ c1, c1 < 5 → ∀ c2, c2 < 5 → spx (nI r1 - nI r2) (nI c1 - nI c2) = some (nI (max ((r1 : Int) - (r2 : Nat) + ((c1 : Int) - (c2 : Nat))).natAbs (max ((r1 : Int) - (r2 : Nat)).natAbs ((c1 : Int) - (c2 : Nat)).natAbs))) := by decide +kernel
theorem d1_all : ∀ n, n < 29 → ∀ h, h < 32 → bt (((1 : Int32) <<< (nI n &&& 31)) - 1) h = decide (h < n) := by decide +kernel
theorem ds_comm (cl a b : Nat) : ds cl a b = ds cl b a := by
  unfold ds
  generalize a / cl = x1
  generalize b / cl = x2
  generalize a % cl = x3
  generalize b % cl = x4
  rw [show ((x2 : Int) - (x1 : Nat) + ((x4 : Int) - (x3 : Nat))).natAbs = ((x1 : Int) - (x2 : Nat) + ((x3 : Int) - (x4 : Nat))).natAbs by omega, show ((x2 : Int) - (x1 : Nat)).natAbs = ((x1 : Int) - (x2 : Nat)).natAbs by omega, show ((x4 : Int) - (x3 : Nat)).natAbs = ((x3 : Int) - (x4 : Nat)).natAbs by omega]
section NC
variable {rw cl ru sz : Nat} {F s : Nat → Int32} {R : Nat → Nat → Int32} {G : Nat → Int32} {Q : Nat → Nat → Int32} {X Y : Nat → Nat} {Z : Nat → Bool}
theorem q1_hasCell {n : Nat} (hG : G 0 = nI n) (hn : n ≤ 25) (x : Int32) : m1_hasCell G Q x = some (bi (isC n x)) := by
  unfold m1_hasCell
  rw [hG]
  cases hx : isC n x with
  | true =>
    obtain ⟨j, hj, rfl⟩ := isC_t (by omega) hx
    have e1 : ¬ nI j < 0 := nI_pos (by omega)
    have e2 : ¬ nI n ≤ nI j := nI_ge hj (by omega)
    have e3 : ¬ (25 : Int32) ≤ nI j := nI_ge (b := 25) (by omega) (by decide)
    rw [if_neg e1, if_neg e2, if_neg e3]
    rfl
  | false =>
    by_cases e1 : x < 0
    · rw [if_pos e1]; rfl
    · have e2 : nI n ≤ x := by
        have h1 := of_decide_eq_false hx
        rw [Int32.lt_iff_toInt_lt] at e1
        rw [Int32.le_iff_toInt_le, nI_toInt (by omega)]
        have e0 : ((0 : Int32).toInt) = 0 := by decide
        rw [e0] at e1
        omega
      rw [if_neg e1, if_pos e2]; rfl
theorem q1_at {c : Nat} (hc : c < 25) : m1_groupAt G Q (nI c) = some (Q 2 c) ∧ m1_nominalsOf G Q (nI c) = some (Q 3 c) ∧ m1_near G Q (nI c) = some (Q 4 c) ∧ m2_usedIn F R G Q (nI c) = some (R 3 c) := by
  have e1 : ¬ nI c < 0 := nI_pos (by omega)
  have e3 : ¬ (25 : Int32) ≤ nI c := nI_ge (b := 25) (by omega) (by decide)
  have e4 : inb (nI c) 25 := in_n hc (by decide)
  unfold m1_groupAt m1_nominalsOf m1_near m2_usedIn
  rw [if_neg e1, if_neg e3, if_pos e4, if_neg e1, if_neg e3, if_pos e4, if_neg e1, if_neg e3, if_pos e4, if_neg e1, if_neg e3, if_pos e4, nI_clamp (by omega)]
  exact ⟨rfl, rfl, rfl, rfl⟩
theorem q1_sep (hf : cf_ok rw cl ru sz) (hG : G 0 = nI (rw * cl)) {a b : Nat} (ha : a < rw * cl) (hb : b < rw * cl) (qa : Q 0 a = nI (a / cl) ∧ Q 1 a = nI (a % cl)) (qb : Q 0 b = nI (b / cl) ∧ Q 1 b = nI (b % cl)) : m1_separation G Q (nI a) (nI b) = some (nI (ds cl a b)) := by
  have hce := cf_ce hf
  unfold cf_ok at hf
  have i1 : inb (nI a) 25 := in_n (by omega) (by decide)
  have i2 : inb (nI b) 25 := in_n (by omega) (by decide)
  unfold m1_separation
  rw [q1_hasCell hG hce.2, bd_s, isC_n (by omega) ha, if_neg (by decide), q1_hasCell hG hce.2, bd_s, isC_n (by omega) hb, if_neg (by decide)]
  simp only [if_pos i1, if_pos i2]
  rw [nI_clamp (by omega), nI_clamp (by omega), qa.1, qb.1, qa.2, qb.2]
  have h1 : a / cl < 5 := Nat.lt_of_lt_of_le (Nat.div_lt_of_lt_mul (by rw [Nat.mul_comm]; exact ha)) hf.2.1
  have h2 : b / cl < 5 := Nat.lt_of_lt_of_le (Nat.div_lt_of_lt_mul (by rw [Nat.mul_comm]; exact hb)) hf.2.1
  have h3 : a % cl < 5 := Nat.lt_of_lt_of_le (Nat.mod_lt _ hf.2.2.1) hf.2.2.2.1
  have h4 : b % cl < 5 := Nat.lt_of_lt_of_le (Nat.mod_lt _ hf.2.2.1) hf.2.2.2.1
  have e := d1_sp _ h1 _ h2 _ h3 _ h4
  unfold ds
  unfold spx at e
  exact e
theorem p1_sep (h : nr_c rw cl ru sz X Y Z s F R G Q) {a b : Nat} (ha : a < rw * cl) (hb : b < rw * cl) : m1_separation G Q (nI a) (nI b) = some (nI (ds cl a b)) := by
  have hl := h.2.2.2.1
  have la' := hl.2.2.2 a ha
  have lb' := hl.2.2.2 b hb
  exact q1_sep h.1.1 hl.1 ha hb ⟨la'.1, la'.2.1⟩ ⟨lb'.1, lb'.2.1⟩
theorem p1_hasCell (h : nr_c rw cl ru sz X Y Z s F R G Q) (x : Int32) : m1_hasCell G Q x = some (bi (isC (rw * cl) x)) := q1_hasCell h.2.2.2.1.1 (cf_ce h.1.1).2 x
/-- a count over the near cells -/
theorem p1_burden (h : nr_c rw cl ru sz X Y Z s F R G Q) {c q : Nat} (hc : c < rw * cl) (hq : q < gs ru * sz) : m1_burdenIn G Q (nI c) (nI q) = some (nI (bd rw cl ru c q)) := by
  have hce := cf_ce h.1.1
  have hch := cf_ch h.1.1
  have hl := h.2.2.2.1.2.2.2
  unfold m1_burdenIn
  rw [(q1_at (F := F) (R := R) (by omega)).2.2.1, bd_s]
  have e : wh (m1_burdenIn_L12 Q (nI q) (Q 4 c)) 2000 ((0 : Int32), (0 : Int32)) = some (nI (cn (fun k => bt (Q 4 c) k && bt (Q 3 k) q) 25)) := by
    refine wh_st (fun i => (nI (cn (fun k => bt (Q 4 c) k && bt (Q 3 k) q) i), nI i)) 25 _ (by decide) (fun i hi kk => ?_) (fun kk => ?_)
    · have e1 : ¬ (25 : Int32) ≤ nI i := nI_ge hi (by decide)
      have e2 : inb (nI i) 25 := in_n (by omega) (by decide)
      unfold m1_burdenIn_L12 m1_burdenIn_J45
      dsimp only
      rw [if_neg e1, m4_con _ (by omega), bd_s, if_pos e2, m4_con _ (by omega), bd_s, nI_clamp (by omega), nI_1, nI_1, cn]
      cases bt (Q 4 c) i <;> cases bt (Q 3 i) q <;> rfl
    · rfl
  rw [e]
  have g : cn (fun k => bt (Q 4 c) k && bt (Q 3 k) q) 25 = bd rw cl ru c q := by
    rw [cn_ext hce.2 (fun k h1 h2 => by rw [(hl c hc).2.2.2.2 k (by omega), decide_eq_false (by omega)]; rfl)]
    exact cn_cong (fun k hk => by rw [(hl c hc).2.2.2.2 k (by omega), (hl k hk).2.2.2.1 q (by omega), decide_eq_true hk, decide_eq_true hq]; rfl)
  rw [g]; rfl
/-- the set of the available channels -/
theorem p2_avail (h : nr_c rw cl ru sz X Y Z s F R G Q) {c : Nat} (hc : c < rw * cl) : ∃ V, m2_availableIn F R G Q (nI c) = some V ∧ ∀ q, q < 32 → bt V q = (decide (q < gs ru * sz) && av rw cl ru s c q) := by
  have hce := cf_ce h.1.1
  have hch := cf_ch h.1.1
  have hl := h.2.2.2.1.2.2.2
  unfold m2_availableIn
  rw [(q1_at (G := G) (Q := Q) (by omega)).2.2.2, bd_s, (q1_at (F := F) (R := R) (by omega)).2.2.1, bd_s]
  obtain ⟨T, hT, hw⟩ := wh_iv (b := m2_availableIn_L18 R (Q 4 c)) (t0 := (R 3 c, (0 : Int32))) (fun i t => t.2 = nI i ∧ ∀ q, q < 32 → bt t.1 q = (us s c q || an (fun k => bt (Q 4 c) k && bt (R 3 k) q) i)) (fun T => ∀ q, q < 32 → bt T q = (us s c q || an (fun k => bt (Q 4 c) k && bt (R 3 k) q) 25)) 25 (by decide) ⟨rfl, fun q hq => by rw [h.2.2.2.2.2.1 c hc q hq, an, Bool.or_false]⟩ (fun i t hi ht => by
      obtain ⟨t1, t2⟩ := t
      obtain ⟨ht1, ht2⟩ := ht
      dsimp only at ht1 ht2
      subst ht1
      have e1 : ¬ (25 : Int32) ≤ nI i := nI_ge hi (by decide)
      have e2 : inb (nI i) 25 := in_n (by omega) (by decide)
      refine Or.inl ⟨(if bt (Q 4 c) i then t1 ||| R 3 i else t1, nI (i + 1)), ⟨rfl, fun q hq => ?_⟩, fun kk => ?_⟩
      · dsimp only
        rw [an]
        cases hb : bt (Q 4 c) i with
        | false =>
          show bt t1 q = _
          rw [ht2 q hq, Bool.false_and, Bool.or_false]
        | true =>
          show bt (t1 ||| R 3 i) q = _
          rw [b_or, ht2 q hq, Bool.true_and, Bool.or_assoc]
      · unfold m2_availableIn_L18 m2_availableIn_J44
        dsimp only
        rw [if_neg e1, m4_con _ (by omega), bd_s, if_pos e2, nI_clamp (by omega), nI_1]
        cases bt (Q 4 c) i <;> rfl) (fun t ht => by
      obtain ⟨t1, t2⟩ := t
      obtain ⟨ht1, ht2⟩ := ht
      dsimp only at ht1 ht2
      subst ht1
      exact ⟨t1, ht2, fun kk => rfl⟩)
  rw [hw, bd_s]
  unfold m2_availableIn_X50
  refine ⟨_, rfl, fun q hq => ?_⟩
  rw [b_and, b_xor, b_m1 q hq, h.2.2.2.1.2.1, d1_all _ (by omega) q hq, hT q hq]
  have g : an (fun k => bt (Q 4 c) k && bt (R 3 k) q) 25 = !decide (lk rw cl ru s c q = 0) := by
    rw [an_ext hce.2 (fun k h1 h2 => by rw [(hl c hc).2.2.2.2 k (by omega), decide_eq_false (by omega)]; rfl)]
    rw [an_cong (q := fun k => ne_ cl ru c k && us s k q) (fun k hk => by rw [(hl c hc).2.2.2.2 k (by omega), h.2.2.2.2.2.1 k hk q (by omega), decide_eq_true hk]; rfl)]
    unfold lk
    cases hb : an (fun k => ne_ cl ru c k && us s k q) (rw * cl) with
    | false => rw [decide_eq_true (cn_0.mpr (an_no.mp hb))]; rfl
    | true =>
      rw [decide_eq_false]; · rfl
      intro z
      rw [an_no.mpr (cn_0.mp z)] at hb; cases hb
  rw [g]
  unfold av
  cases us s c q <;> cases decide (lk rw cl ru s c q = 0) <;> rfl
theorem p2_low {n : Nat} (hG : G 1 = nI n) (hn : n ≤ 28) (S : Int32) : m2_lowestOf F R G Q S = some (nv n (fi (bt S) n)) := by
  unfold m2_lowestOf
  refine wh_eq (fun i t => t = nI i ∧ ∀ k, k < i → bt S k = false) _ n (by omega) ⟨rfl, fun k hk => absurd hk (Nat.not_lt_zero k)⟩ (fun i t hi ht => ?_) (fun t ht kk => ?_)
  · obtain ⟨rfl, hno⟩ := ht
    have e1 : ¬ nI n ≤ nI i := nI_ge hi (by omega)
    cases hb : bt S i with
    | false =>
      refine Or.inl ⟨nI (i + 1), ⟨rfl, fun k hk => ?_⟩, fun kk => ?_⟩
      · by_cases hki : k = i
        · rw [hki]; exact hb
        · exact hno k (by omega)
      · unfold m2_lowestOf_L2
        rw [hG, if_neg e1, m4_con _ (by omega), bd_s, hb, if_pos bi_f, nI_1]
    | true =>
      refine Or.inr (fun kk => ?_)
      unfold m2_lowestOf_L2 nv
      rw [hG, if_neg e1, m4_con _ (by omega), bd_s, hb, if_neg (by decide), fi_is hi hb hno, if_pos hi]
  · obtain ⟨rfl, hno⟩ := ht
    unfold m2_lowestOf_L2 nv
    rw [hG, if_pos (nI_le (Nat.le_refl _) (by omega)), if_neg]
    intro hlt
    have h2 := fi_yes _ _ hlt
    rw [hno _ hlt] at h2; cases h2
theorem p2_great {n : Nat} (hG : G 1 = nI n) (hn : n ≤ 28) (S : Int32) : m2_greatestOf F R G Q S = some (la (bt S) n) := by
  unfold m2_greatestOf
  rw [hG, dw_e]
  refine wh_rec (b := m2_greatestOf_L10 S) dw (la (bt S)) n (fun m hm => ?_) (fun kk => ?_) 2000 n (Nat.le_refl _) (by omega)
  · unfold m2_greatestOf_L10
    have e1 : ¬ nI m < 0 := nI_pos (by omega)
    cases hb : bt S m with
    | true =>
      refine Or.inl (fun kk => ?_)
      show (if nI m < 0 then _ else (m4_contains S (nI m)).bind _) = _
      rw [if_neg e1, m4_con _ (by omega), bd_s, hb, if_neg (by decide), la, hb]
      rfl
    | false =>
      refine Or.inr ⟨by rw [la, hb]; rfl, fun kk => ?_⟩
      show (if nI m < 0 then _ else (m4_contains S (nI m)).bind _) = _
      rw [if_neg e1, m4_con _ (by omega), bd_s, hb, if_pos bi_f]
      exact congrArg kk (dw_m m)
  · unfold m2_greatestOf_L10
    rw [if_pos (by decide)]; rfl
theorem p2_availNom (h : nr_c rw cl ru sz X Y Z s F R G Q) {c : Nat} (hc : c < rw * cl) : ∃ V, m2_availableNominals F R G Q (nI c) = some V ∧ ∀ q, q < 32 → bt V q = (decide (q < gs ru * sz) && na_ rw cl ru s c q) := by
  have hce := cf_ce h.1.1
  obtain ⟨V, h1, h2⟩ := p2_avail h hc
  unfold m2_availableNominals
  rw [h1, bd_s, (q1_at (F := F) (R := R) (by omega)).2.1, bd_s]
  refine ⟨_, rfl, fun q hq => ?_⟩
  rw [b_and, h2 q hq, (h.2.2.2.1.2.2.2 c hc).2.2.2.1 q hq]
  unfold na_
  cases decide (q < gs ru * sz) <;> cases nm cl ru c q <;> cases av rw cl ru s c q <;> rfl
/-- the calls -/
theorem p2_present (h : nr_c rw cl ru sz X Y Z s F R G Q) (x : Int32) : m2_isPresent F R G Q x = some (bi (ic_ X x)) := by
  unfold m2_isPresent ic_
  cases hx : isC 60 x with
  | false =>
    have e : x < 0 ∨ (60 : Int32) ≤ x := by
      have h1 := of_decide_eq_false hx
      rw [Int32.lt_iff_toInt_lt, Int32.le_iff_toInt_le]
      have e0 : ((0 : Int32).toInt) = 0 := by decide
      have e6 : ((60 : Int32).toInt) = 60 := by decide
      rw [e0, e6]
      omega
    by_cases e1 : x < 0
    · rw [if_pos e1]; rfl
    · rw [if_neg e1, if_pos (e.resolve_left e1)]; rfl
  | true =>
    obtain ⟨k, hk, rfl⟩ := isC_t (by decide) hx
    have w := h.2.1.2.2 k hk
    have c' := h.2.2.2.2.1 k hk
    have hch := h.2.1.2.1
    have e1 : ¬ nI k < 0 := nI_pos (by omega)
    have e2 : ¬ (60 : Int32) ≤ nI k := nI_ge (b := 60) hk (by decide)
    have e3 : inb (nI k) 60 := in_n hk (by decide)
    rw [if_neg e1, if_neg e2, if_pos e3, if_pos e3, nI_clamp (by omega), c'.2.1, c'.2.2]
    by_cases q : Y k = 0
    · rw [if_pos ((chv_0 (by omega)).mpr q)]
      cases hz : Z k with
      | false => rw [w.2.2.2.2.2.2 q hz]; rfl
      | true =>
        have : X k ≠ 0 := fun z => by rw [(w.2.2.2.2.2.1 z).2] at hz; cases hz
        rw [if_pos bi_t]; simp [this]; rfl
    · have : X k ≠ 0 := fun z => q (w.2.2.2.2.2.1 z).1
      rw [if_neg (fun z => q ((chv_0 (by omega)).mp z))]; simp [this]; rfl
theorem ic_n {k : Nat} (hk : k < 60) : ic_ X (nI k) = decide (X k ≠ 0) := by
  unfold ic_
  rw [isC_n (by decide) hk, nI_clamp (by omega), Bool.true_and]
theorem p2_cellAt (h : nr_c rw cl ru sz X Y Z s F R G Q) {k : Nat} (hk : k < 60) (hx : X k ≠ 0) : m2_cellAt F R G Q (nI k) = some (nI (X k - 1)) := by
  have e3 : inb (nI k) 60 := in_n hk (by decide)
  unfold m2_cellAt
  rw [p2_present h, bd_s, ic_n hk, decide_eq_true hx, if_neg (by decide), if_pos e3, nI_clamp (by omega), (h.2.2.2.2.1 k hk).1 hx]; rfl
theorem p2_cellAt0 (h : nr_c rw cl ru sz X Y Z s F R G Q) {k : Nat} (hk : k < 60) (hx : X k = 0) : m2_cellAt F R G Q (nI k) = some (-9) := by
  unfold m2_cellAt
  rw [p2_present h, bd_s, ic_n hk, decide_eq_false (fun z => z hx), if_pos bi_f]; rfl
theorem p2_channelAt (h : nr_c rw cl ru sz X Y Z s F R G Q) {k : Nat} (hk : k < 60) : m2_channelAt F R G Q (nI k) = some (chv (Y k)) := by
  have e3 : inb (nI k) 60 := in_n hk (by decide)
  unfold m2_channelAt
  rw [p2_present h, bd_s, ic_n hk]
  by_cases hx : X k = 0
  · rw [decide_eq_false (fun z => z hx), if_pos bi_f, ((h.2.1.2.2 k hk).2.2.2.2.2.1 hx).1]; rfl
  · rw [decide_eq_true hx, if_neg (by decide), if_pos e3, nI_clamp (by omega), (h.2.2.2.2.1 k hk).2.1]; rfl
theorem p2_isFixed (h : nr_c rw cl ru sz X Y Z s F R G Q) {k : Nat} (hk : k < 60) : m2_isFixed F R G Q (nI k) = some (bi (Z k)) := by
  have e3 : inb (nI k) 60 := in_n hk (by decide)
  unfold m2_isFixed
  rw [p2_present h, bd_s, ic_n hk]
  by_cases hx : X k = 0
  · rw [decide_eq_false (fun z => z hx), if_pos bi_f, ((h.2.1.2.2 k hk).2.2.2.2.2.1 hx).2]; rfl
  · rw [decide_eq_true hx, if_neg (by decide), if_pos e3, nI_clamp (by omega), (h.2.2.2.2.1 k hk).2.2]
    cases Z k <;> rfl
theorem p2_isNominal (h : nr_c rw cl ru sz X Y Z s F R G Q) {c q : Nat} (hc : c < rw * cl) (hq : q < gs ru * sz) : m2_isNominal F R G Q (nI c) (nI q) = some (bi (nm cl ru c q)) := by
  have hce := cf_ce h.1.1
  have hch := cf_ch h.1.1
  unfold m2_isNominal
  rw [(q1_at (F := F) (R := R) (by omega)).2.1, bd_s, m4_con _ (by omega), bd_s, (h.2.2.2.1.2.2.2 c hc).2.2.2.1 q (by omega), decide_eq_true hq, Bool.true_and, if_pos (bi_1 _)]
theorem p2_borrows (h : nr_c rw cl ru sz X Y Z s F R G Q) {k : Nat} (hk : k < 60) : m2_borrows F R G Q (nI k) = some (bi (bo_ cl ru X Y k)) := by
  have w := h.2.1.2.2 k hk
  have hch := h.2.1.2.1
  unfold m2_borrows bo_
  rw [p2_channelAt h hk, bd_s]
  by_cases q : Y k = 0
  · rw [if_pos ((chv_0 (by omega)).mpr q)]; simp [q]; rfl
  · have hx : X k ≠ 0 := fun z => q (w.2.2.2.2.2.1 z).1
    rw [if_neg (fun z => q ((chv_0 (by omega)).mp z)), p2_cellAt h hk hx, bd_s]
    unfold chv
    rw [if_neg q, p2_isNominal h (by omega) (by omega), bd_s]
    cases nm cl ru (X k - 1) (Y k - 1) <;> simp [q] <;> rfl
theorem p2_presentCalls (h : nr_c rw cl ru sz X Y Z s F R G Q) : m2_presentCalls F R G Q = some (nI (cls X)) := by
  unfold m2_presentCalls
  have e : wh (m2_presentCalls_L4 F R G Q) 2000 ((0 : Int32), (0 : Int32)) = some (nI (cls X)) := by
    refine wh_st (fun i => (nI (cn (fun k => decide (X k ≠ 0)) i), nI i)) 60 _ (by decide) (fun i hi kk => ?_) (fun kk => ?_)
    · have e1 : ¬ (60 : Int32) ≤ nI i := nI_ge hi (by decide)
      unfold m2_presentCalls_L4 m2_presentCalls_J21
      dsimp only
      rw [if_neg e1, p2_present h, bd_s, ic_n hi, nI_1, nI_1, cn]
      cases decide (X i ≠ 0) <;> rfl
    · rfl
  rw [e]; rfl
def fr_ (X : Nat → Nat) : Nat := fi (fun k => decide (X k = 0)) 60
theorem p2_free (h : nr_c rw cl ru sz X Y Z s F R G Q) : m2_lowestFreeNumber F R G Q = some (nv 60 (fr_ X)) := by
  unfold m2_lowestFreeNumber
  refine wh_eq (fun i t => t = nI i ∧ ∀ k, k < i → decide (X k = 0) = false) _ 60 (by omega) ⟨rfl, fun k hk => absurd hk (Nat.not_lt_zero k)⟩ (fun i t hi ht => ?_) (fun t ht kk => ?_)
  · obtain ⟨rfl, hno⟩ := ht
    have e1 : ¬ (60 : Int32) ≤ nI i := nI_ge hi (by decide)
    by_cases hb : X i = 0
    · refine Or.inr (fun kk => ?_)
      unfold m2_lowestFreeNumber_L2 nv fr_
      rw [if_neg e1, p2_present h, bd_s, ic_n hi, decide_eq_false (fun z => z hb), if_pos bi_f, fi_is hi (decide_eq_true hb) hno, if_pos hi]
    · refine Or.inl ⟨nI (i + 1), ⟨rfl, fun k hk => ?_⟩, fun kk => ?_⟩
      · by_cases hki : k = i
        · rw [hki]; exact decide_eq_false hb
        · exact hno k (by omega)
      · unfold m2_lowestFreeNumber_L2
        rw [if_neg e1, p2_present h, bd_s, ic_n hi, decide_eq_true hb, if_neg (by decide), nI_1]
  · obtain ⟨rfl, hno⟩ := ht
    unfold m2_lowestFreeNumber_L2 nv fr_
    rw [if_pos (by decide), if_neg]
    intro hlt
    have h2 := fi_yes _ _ hlt
    rw [hno _ hlt] at h2; cases h2
theorem p2_fixed (h : nr_c rw cl ru sz X Y Z s F R G Q) (c : Nat) (hc : c < 25) : m2_fixedAccepts F R G Q (nI c) = some (bi (decide (fxn X Z c < sz))) := by
  have hf := h.1.1
  unfold cf_ok at hf
  unfold m2_fixedAccepts
  have e : wh (m2_fixedAccepts_L4 R (nI c)) 2000 ((0 : Int32), (0 : Int32)) = some (nI (fxn X Z c)) := by
    refine wh_st (fun i => (nI (cn (fun k => decide (X k = c + 1) && Z k) i), nI i)) 60 _ (by decide) (fun i hi kk => ?_) (fun kk => ?_)
    · have e1 : ¬ (60 : Int32) ≤ nI i := nI_ge hi (by decide)
      have e3 : inb (nI i) 60 := in_n hi (by decide)
      have w := h.2.1.2.2 i hi
      have c' := h.2.2.2.2.1 i hi
      have hce := h.2.1.1
      unfold m2_fixedAccepts_L4 m2_fixedAccepts_J33
      dsimp only
      rw [if_neg e1, if_pos e3, if_pos e3, nI_clamp (by omega), c'.2.2, nI_1, nI_1, cn]
      cases hz : Z i with
      | false => rw [Bool.and_false]; rfl
      | true =>
        have hx : X i ≠ 0 := fun z => by rw [(w.2.2.2.2.2.1 z).2] at hz; cases hz
        rw [if_pos bi_t, c'.1 hx, Bool.and_true]
        by_cases q : X i = c + 1
        · rw [if_pos (by rw [q]; rfl), decide_eq_true q]; rfl
        · rw [if_neg (fun z => q (by have := (nI_eq (by omega) (by omega)).mp z; omega)), decide_eq_false q]; rfl
    · rfl
  rw [e, bd_s]
  unfold m2_fixedAccepts_X39
  have hn : fxn X Z c ≤ 60 := cn_le _ _
  rw [h.2.2.2.1.2.2.1]
  by_cases q : sz ≤ fxn X Z c
  · rw [if_pos ((nI_leI (by omega) (by omega)).mpr q), decide_eq_false (Nat.not_lt.mpr q)]; rfl
  · rw [if_neg (fun z => q ((nI_leI (by omega) (by omega)).mp z)), decide_eq_true (Nat.lt_of_not_le q)]; rfl
end NC
