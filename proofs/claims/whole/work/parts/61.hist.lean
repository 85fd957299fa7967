/-! THE RELATION, AND WHAT IS KEPT OF EARLIER STATES -/
def nt_ (s : Nat → Int32) (n : ns_T) : Prop := nr_s s n.1 n.2.1 n.2.2.1 n.2.2.2
def hs_s (p : Nat → Bool) (c k : Nat) (N : Nat → ns_T) (F : Nat → Int32) (R : Nat → Nat → Int32) : Prop :=
  F 2 = nI c ∧ (∀ t, t < c → nt_ (fun j => R 1 (194 * t + j)) (N ((k + 6 - (c - 1 - t)) % 6 + 1))) ∧ ∀ i, i < 2 → R 3 i = bi (p (7 + i)) ∧ (p (7 + i) = true → nt_ (fun j => R 2 (194 * i + j)) (N (7 + i)))
def tx_s (U : Nat → Int32) (V : Nat → Nat → Int32) (F : Nat → Int32) (R : Nat → Nat → Int32) : Prop :=
  ∃ len, len ≤ 100 ∧ U 0 = nI len ∧ F 6 = nI len ∧ ∀ j, j < len → ∃ b, b < 256 ∧ V 3 j = nI b ∧ R 4 j = (nI b).toInt8.toInt32
def rl_s (p : Nat → Bool) (c k : Nat) (U : Nat → Int32) (V : Nat → Nat → Int32) (N : Nat → ns_T) (F : Nat → Int32) (R : Nat → Nat → Int32) : Prop :=
  k < 6 ∧ c ≤ 6 ∧ nt_ (R 0) (N 0) ∧ hs_s p c k N F R ∧ tx_s U V F R
theorem nt_cg {s s' : Nat → Int32} {n : ns_T} (h : nt_ s n) (hs : ∀ i, i < 194 → s' i = s i) : nt_ s' n := by
  obtain ⟨rw, cl, ru, sz, X, Y, Z, ⟨c1, c2, c3, c4, c5, c6, c7, c8, c9, c10, c11⟩, hcn⟩ := h
  have hw : wf_ (rw * cl) (gs ru * sz) X Y Z s' := ⟨c2.1, c2.2.1, fun j hj => by
    rw [hs _ (by omega), hs _ (by omega), hs _ (by omega)]; exact c2.2.2 j hj⟩
  refine ⟨rw, cl, ru, sz, X, Y, Z, ⟨⟨c1.1, ?_, ?_, ?_, ?_⟩, hw, c3, c4, c5, fun c hc q hq => ?_, ?_, ?_, ?_, ?_, ?_⟩, fun i hi => ?_⟩
  · rw [hs 0 (by decide)]; exact c1.2.1
  · rw [hs 1 (by decide)]; exact c1.2.2.1
  · rw [hs 2 (by decide)]; exact c1.2.2.2.1
  · rw [hs 3 (by decide)]; exact c1.2.2.2.2
  · rw [c6 c hc q hq]
    unfold us
    exact an_cong (fun j hj => by rw [hs _ (by omega), hs _ (by omega)])
  · rw [hs 4 (by decide)]; exact c7
  · rw [hs 5 (by decide)]; exact c8
  · rw [hs 6 (by decide)]; exact c9
  · rw [hs 6 (by decide)]; exact c10
  · rw [hs 5 (by decide)]; exact c11
  · rw [hs _ (by omega)]; exact hcn i hi
theorem nt_1 {s : Nat → Int32} {n : ns_T} (h : nt_ s n) : n.1 3 &&& 1 = n.1 3 := by
  obtain ⟨rw, cl, ru, sz, X, Y, Z, ⟨c1, c2, c3, c4, c5, c6, c7, c8, c9, c10, c11⟩, hcn⟩ := h
  rw [c9]
  rcases c10 with h | h <;> rw [h] <;> decide
theorem hs_cg {p : Nat → Bool} {c k : Nat} {N N' : Nat → ns_T} {F F' : Nat → Int32} {R R' : Nat → Nat → Int32} (h : hs_s p c k N F R) (hN : ∀ i, i ≠ 0 → N' i = N i) (h2 : F' 2 = F 2) (r1 : R' 1 = R 1) (r2 : R' 2 = R 2) (r3 : R' 3 = R 3) : hs_s p c k N' F' R' := by
  refine ⟨by rw [h2]; exact h.1, fun t ht => ?_, fun i hi => ?_⟩
  · rw [r1, hN _ (by omega)]; exact h.2.1 t ht
  · rw [r2, r3, hN _ (by omega)]; exact h.2.2 i hi
theorem tx_cg {U : Nat → Int32} {V : Nat → Nat → Int32} {F F' : Nat → Int32} {R R' : Nat → Nat → Int32} (h : tx_s U V F R) (h6 : F' 6 = F 6) (r4 : R' 4 = R 4) : tx_s U V F' R' := by
  obtain ⟨len, a, b, c, d⟩ := h
  exact ⟨len, a, b, by rw [h6]; exact c, fun j hj => by rw [r4]; exact d j hj⟩
section NO
variable {F : Nat → Int32} {R : Nat → Nat → Int32}
theorem r5_cpy {c : Nat} (hc : c < 6) (hF : F 2 = nI c) : ∃ R', wh (m5_note_L52 F) 2000 ((0 : Int32), R) = some R' ∧ (∀ j, j ≠ 1 → R' j = R j) ∧ ∀ i, R' 1 i = if 194 * c ≤ i ∧ i < 194 * c + 194 then R 0 (i - 194 * c) else R 1 i := by
  obtain ⟨R', h, hw⟩ := wh_iv (b := m5_note_L52 F) (t0 := ((0 : Int32), R)) (fun i t => t.1 = nI i ∧ (∀ j, j ≠ 1 → t.2 j = R j) ∧ ∀ x, t.2 1 x = if 194 * c ≤ x ∧ x < 194 * c + i then R 0 (x - 194 * c) else R 1 x) (fun T => (∀ j, j ≠ 1 → T j = R j) ∧ ∀ x, T 1 x = if 194 * c ≤ x ∧ x < 194 * c + 194 then R 0 (x - 194 * c) else R 1 x) 194 (by decide) ⟨rfl, fun _ _ => rfl, fun x => by rw [if_neg (by omega)]⟩ (fun i t hi ht => by
      obtain ⟨t1, t2⟩ := t
      obtain ⟨h1, h2, h3⟩ := ht
      dsimp only at h1 h2 h3
      subst h1
      have e1 : ¬ (194 : Int32) ≤ nI i := nI_ge (b := 194) hi (by decide)
      have e2 : inb (nI i) 194 := in_n hi (by decide)
      have e0 : ((194 : Int32) * (F 2)) + nI i = nI (194 * c + i) := by rw [hF, show (194 : Int32) = nI 194 from rfl, pk_mul, nI_add]
      have e3 : inb (nI (194 * c + i)) 1164 := in_n (by omega) (by decide)
      refine Or.inl ⟨(nI (i + 1), va_up t2 1 (upd (t2 1) (194 * c + i) (R 0 i))), ⟨rfl, fun j hj => ?_, fun x => ?_⟩, fun kk => ?_⟩
      · dsimp only
        rw [va_up_ne _ _ hj]; exact h2 j hj
      · dsimp only
        rw [va_up_self]
        by_cases q : x = 194 * c + i
        · rw [q, pk_us, if_pos (by omega), Nat.add_sub_cancel_left]
        · rw [pk_un q, h3 x]
          by_cases g : 194 * c ≤ x ∧ x < 194 * c + i
          · rw [if_pos g, if_pos (by omega)]
          · rw [if_neg g, if_neg (by omega)]
      · unfold m5_note_L52
        dsimp only
        rw [e0, if_neg e1, if_pos e2, if_pos e3, nI_clamp (by omega), nI_clamp (by omega), nI_1, h2 0 (by decide)]) (fun t ht => by
      obtain ⟨t1, t2⟩ := t
      obtain ⟨h1, h2⟩ := ht
      dsimp only at h1 h2
      subst h1
      exact ⟨t2, h2, fun kk => rfl⟩)
  exact ⟨R', hw, h.1, h.2⟩
theorem r5_shift : ∃ R', wh (m5_note_L11) 2000 ((0 : Int32), R) = some R' ∧ (∀ j, j ≠ 1 → R' j = R j) ∧ ∀ i, R' 1 i = if i < 970 then R 1 (i + 194) else R 1 i := by
  obtain ⟨R', h, hw⟩ := wh_iv (b := m5_note_L11) (t0 := ((0 : Int32), R)) (fun i t => t.1 = nI i ∧ (∀ j, j ≠ 1 → t.2 j = R j) ∧ ∀ x, t.2 1 x = if x < i then R 1 (x + 194) else R 1 x) (fun T => (∀ j, j ≠ 1 → T j = R j) ∧ ∀ x, T 1 x = if x < 970 then R 1 (x + 194) else R 1 x) 970 (by decide) ⟨rfl, fun _ _ => rfl, fun x => by rw [if_neg (by omega)]⟩ (fun i t hi ht => by
      obtain ⟨t1, t2⟩ := t
      obtain ⟨h1, h2, h3⟩ := ht
      dsimp only at h1 h2 h3
      subst h1
      have e1 : ¬ (970 : Int32) ≤ nI i := nI_ge (b := 970) hi (by decide)
      have e0 : nI i + (194 : Int32) = nI (i + 194) := nI_add i 194
      have e2 : inb (nI (i + 194)) 1164 := in_n (by omega) (by decide)
      have e3 : inb (nI i) 1164 := in_n (by omega) (by decide)
      refine Or.inl ⟨(nI (i + 1), va_up t2 1 (upd (t2 1) i (R 1 (i + 194)))), ⟨rfl, fun j hj => ?_, fun x => ?_⟩, fun kk => ?_⟩
      · dsimp only
        rw [va_up_ne _ _ hj]; exact h2 j hj
      · dsimp only
        rw [va_up_self]
        by_cases q : x = i
        · rw [q, pk_us, if_pos (by omega)]
        · rw [pk_un q, h3 x]
          by_cases g : x < i
          · rw [if_pos g, if_pos (by omega)]
          · rw [if_neg g, if_neg (by omega)]
      · unfold m5_note_L11
        dsimp only
        rw [e0, if_neg e1, if_pos e2, if_pos e3, nI_clamp (by omega), nI_clamp (by omega), nI_1, h3 (i + 194), if_neg (by omega)]) (fun t ht => by
      obtain ⟨t1, t2⟩ := t
      obtain ⟨h1, h2⟩ := ht
      dsimp only at h1 h2
      subst h1
      exact ⟨t2, h2, fun kk => rfl⟩)
  exact ⟨R', hw, h.1, h.2⟩
theorem r5_note {c : Nat} (hc : c ≤ 6) (hF : F 2 = nI c) : ∃ F' R', m5_note F R = some (F', R') ∧ F' 2 = nI (cn_s c) ∧ (∀ i, i ≠ 2 → F' i = F i) ∧ (∀ j, j ≠ 1 → R' j = R j) ∧ ∀ t j, t < cn_s c → j < 194 → R' 1 (194 * t + j) = if t + 1 = cn_s c then R 0 j else if c = 6 then R 1 (194 * (t + 1) + j) else R 1 (194 * t + j) := by
  by_cases q : c = 6
  · obtain ⟨R1, a1, a2, a3⟩ := r5_shift (R := R)
    obtain ⟨R2, b1, b2, b3⟩ := r5_cpy (F := va_up F 2 (F 2 - 1)) (R := R1) (c := 5) (by decide) (by rw [va_up_self, hF, q]; decide)
    have e : m5_note F R = m5_note_J50 (va_up F 2 (F 2 - 1)) R1 := by
      unfold m5_note
      rw [if_pos (by rw [hF, q]; decide), a1, bd_s]; rfl
    have hcn : cn_s c = 6 := by unfold cn_s; rw [if_neg (by omega)]
    rw [hcn]
    refine ⟨va_up (va_up F 2 (F 2 - 1)) 2 ((va_up F 2 (F 2 - 1)) 2 + 1), R2, ?_, ?_, ?_, ?_, ?_⟩
    · rw [e]
      unfold m5_note_J50
      rw [b1, bd_s]; rfl
    · rw [va_up_self, va_up_self, hF, q]; decide
    · exact fun i hi => by rw [va_up_ne _ _ hi, va_up_ne _ _ hi]
    · exact fun j hj => by rw [b2 j hj, a2 j hj]
    · intro t j ht hj
      rw [b3]
      by_cases g : t + 1 = 6
      · rw [if_pos g, if_pos (by omega), a2 0 (by decide)]
        exact congrArg (R 0) (by omega)
      · rw [if_neg g, if_pos q, if_neg (by omega), a3, if_pos (by omega)]
        exact congrArg (R 1) (by omega)
  · obtain ⟨R2, b1, b2, b3⟩ := r5_cpy (F := F) (R := R) (c := c) (by omega) hF
    have e : m5_note F R = m5_note_J50 F R := by
      unfold m5_note
      rw [if_neg (by rw [hF]; exact fun z => q ((nI_eq (b := 6) (by omega) (by decide)).mp z)), bd_s]
    have hcn : cn_s c = c + 1 := by unfold cn_s; rw [if_pos (by omega)]
    rw [hcn]
    refine ⟨va_up F 2 (F 2 + 1), R2, ?_, ?_, ?_, b2, ?_⟩
    · rw [e]
      unfold m5_note_J50
      rw [b1, bd_s]; rfl
    · rw [va_up_self, hF, nI_1]
    · exact fun i hi => va_up_ne _ _ hi
    · intro t j ht hj
      rw [b3]
      by_cases g : t + 1 = c + 1
      · rw [if_pos g, if_pos (by omega)]
        exact congrArg (R 0) (by omega)
      · rw [if_neg g, if_neg q, if_neg (by omega)]
/-- the state ahead of an operation is kept, on both sides -/
theorem hs_note {p : Nat → Bool} {c k : Nat} {N : Nat → ns_T} (hk : k < 6) (hc : c ≤ 6) (hl : nt_ (R 0) (N 0)) (h : hs_s p c k N F R) : ∃ F' R', m5_note F R = some (F', R') ∧ (∀ i, i ≠ 2 → F' i = F i) ∧ (∀ j, j ≠ 1 → R' j = R j) ∧ hs_s p (cn_s c) (kn_s k) (va_up N (kn_s k + 1) (N 0)) F' R' := by
  obtain ⟨F', R', a1, a2, a3, a4, a5⟩ := r5_note (R := R) hc h.1
  refine ⟨F', R', a1, a3, a4, a2, fun t ht => ?_, fun i hi => ?_⟩
  · have hcl : cn_s c ≤ 6 := by unfold cn_s; split <;> omega
    have hkn : kn_s k < 6 := by unfold kn_s; split <;> omega
    have hmod : kn_s k % 6 = (k + 1) % 6 := by unfold kn_s; split <;> omega
    by_cases q : t + 1 = cn_s c
    · have e : (kn_s k + 6 - (cn_s c - 1 - t)) % 6 + 1 = kn_s k + 1 := by omega
      rw [e, va_up_self]
      exact nt_cg hl (fun j hj => by rw [a5 t j ht hj, if_pos q])
    · by_cases g : c = 6
      · have e0 : cn_s c = 6 := by unfold cn_s; rw [if_neg (by omega)]
        have e : (kn_s k + 6 - (cn_s c - 1 - t)) % 6 + 1 = (k + 6 - (c - 1 - (t + 1))) % 6 + 1 := by omega
        rw [e, va_up_ne _ _ (by omega)]
        exact nt_cg (h.2.1 (t + 1) (by omega)) (fun j hj => by rw [a5 t j ht hj, if_neg q, if_pos g])
      · have e0 : cn_s c = c + 1 := by unfold cn_s; rw [if_pos (by omega)]
        have e : (kn_s k + 6 - (cn_s c - 1 - t)) % 6 + 1 = (k + 6 - (c - 1 - t)) % 6 + 1 := by omega
        rw [e, va_up_ne _ _ (by omega)]
        exact nt_cg (h.2.1 t (by omega)) (fun j hj => by rw [a5 t j ht hj, if_neg q, if_neg g])
  · have hkn : kn_s k < 6 := by unfold kn_s; split <;> omega
    rw [a4 3 (by decide), a4 2 (by decide), va_up_ne _ _ (by omega)]
    exact h.2.2 i hi
end NO
