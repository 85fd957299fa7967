/-! THE RETURNING PASS -/
def can_ (rw cl ru sz : Nat) (s : Nat → Int32) (X Y : Nat → Nat) (k : Nat) : Bool := bo_ cl ru X Y k && decide (no_ rw cl ru sz s (X k - 1) < gs ru * sz)
def bu_ (rw cl ru : Nat) (X Y : Nat → Nat) (k : Nat) : Nat := bd rw cl ru (X k - 1) (Y k - 1)
def nx_ (p : Nat → Bool) (m : Nat → Nat) : Nat → Nat × Nat
  | 0 => (0, 0)
  | k + 1 => if p k && (decide ((nx_ p m k).1 = 0) || decide ((nx_ p m k).2 < m k)) then (k + 1, m k) else nx_ p m k
theorem nx_p {p : Nat → Bool} {m : Nat → Nat} (hm : ∀ k, m k ≤ 25) : ∀ n, (nx_ p m n).1 ≤ n ∧ (nx_ p m n).2 ≤ 25 ∧ ((nx_ p m n).1 ≠ 0 → p ((nx_ p m n).1 - 1) = true) ∧ ((nx_ p m n).1 = 0 → ∀ k, k < n → p k = false)
  | 0 => ⟨Nat.le_refl 0, Nat.zero_le _, fun h => absurd rfl h, fun _ k hk => absurd hk (Nat.not_lt_zero k)⟩
  | n + 1 => by
    have ih := nx_p (p := p) hm n
    rw [nx_]
    by_cases q : (p n && (decide ((nx_ p m n).1 = 0) || decide ((nx_ p m n).2 < m n))) = true
    · rw [if_pos q]
      rw [Bool.and_eq_true] at q
      exact ⟨Nat.le_refl _, hm n, fun _ => q.1, fun z => by cases z⟩
    · rw [if_neg q]
      refine ⟨by omega, ih.2.1, ih.2.2.1, fun z k hk => ?_⟩
      by_cases g : k = n
      · rw [g]
        cases hp : p n with
        | false => rfl
        | true => rw [hp, decide_eq_true z] at q; exact absurd rfl q
      · exact ih.2.2.2 z k (by omega)
theorem chv_60 {n : Nat} (h : n ≤ 60) : chv n = -9 ↔ n = 0 := by
  unfold chv
  by_cases q : n = 0
  · rw [if_pos q]; exact ⟨fun _ => q, fun _ => rfl⟩
  · rw [if_neg q]
    exact ⟨fun w => absurd w (n9 (by omega)), fun w => absurd w q⟩
theorem cn_dec {p q : Nat → Bool} {k : Nat} (h1 : p k = true) (h2 : q k = false) (h3 : ∀ j, j ≠ k → q j = p j) : ∀ {n : Nat}, k < n → cn q n + 1 = cn p n
  | 0, h => absurd h (Nat.not_lt_zero k)
  | n + 1, h => by
    rw [cn, cn]
    by_cases g : k = n
    · rw [← g, h1, h2, cn_cong (p := q) (q := p) (fun j hj => h3 j (by omega))]; rfl
    · have := cn_dec h1 h2 h3 (show k < n by omega)
      rw [h3 n (by omega)]
      omega
section PA
variable {rw cl ru sz : Nat} {F F5 s : Nat → Int32} {R : Nat → Nat → Int32} {G : Nat → Int32} {Q : Nat → Nat → Int32} {X Y : Nat → Nat} {Z : Nat → Bool}
theorem bd_25 (hf : cf_ok rw cl ru sz) (c q : Nat) : bd rw cl ru c q ≤ 25 := Nat.le_trans (cn_le _ _) (cf_ce hf).2
theorem bo_y {k : Nat} (h : bo_ cl ru X Y k = true) : Y k ≠ 0 := fun z => by
  unfold bo_ at h
  rw [z] at h; cases h
theorem p2_next (h : nr_c rw cl ru sz X Y Z s F R G Q) : m2_nextToReturn F R G Q = some (chv (nx_ (can_ rw cl ru sz s X Y) (bu_ rw cl ru X Y) 60).1) := by
  have hce := cf_ce h.1.1
  have hch := cf_ch h.1.1
  unfold m2_nextToReturn
  have e : wh (m2_nextToReturn_L7 F R G Q) 2000 ((-9 : Int32), (0 : Int32), (0 : Int32)) = some (chv (nx_ (can_ rw cl ru sz s X Y) (bu_ rw cl ru X Y) 60).1) := by
    refine wh_st (fun k => (chv (nx_ (can_ rw cl ru sz s X Y) (bu_ rw cl ru X Y) k).1, nI (nx_ (can_ rw cl ru sz s X Y) (bu_ rw cl ru X Y) k).2, nI k)) 60 _ (by decide) (fun k hk kk => ?_) (fun kk => ?_)
    · have e1 : ¬ (60 : Int32) ≤ nI k := nI_ge hk (by decide)
      have ih := nx_p (p := can_ rw cl ru sz s X Y) (m := bu_ rw cl ru X Y) (fun k => bd_25 h.1.1 _ _) k
      have hbu : bu_ rw cl ru X Y k ≤ 25 := bd_25 h.1.1 _ _
      have w := h.2.1.2.2 k hk
      rw [show nx_ (can_ rw cl ru sz s X Y) (bu_ rw cl ru X Y) (k + 1) = if can_ rw cl ru sz s X Y k && (decide ((nx_ (can_ rw cl ru sz s X Y) (bu_ rw cl ru X Y) k).1 = 0) || decide ((nx_ (can_ rw cl ru sz s X Y) (bu_ rw cl ru X Y) k).2 < bu_ rw cl ru X Y k)) then (k + 1, bu_ rw cl ru X Y k) else nx_ (can_ rw cl ru sz s X Y) (bu_ rw cl ru X Y) k from rfl]
      generalize hb : (nx_ (can_ rw cl ru sz s X Y) (bu_ rw cl ru X Y) k) = P at *
      obtain ⟨b, m⟩ := P
      dsimp only at ih ⊢
      have hcan : can_ rw cl ru sz s X Y k = (bo_ cl ru X Y k && decide (no_ rw cl ru sz s (X k - 1) < gs ru * sz)) := rfl
      unfold m2_nextToReturn_L7 m2_nextToReturn_J69
      dsimp only
      rw [if_neg e1, p2_borrows h hk, bd_s, nI_1, hcan]
      cases hbo : bo_ cl ru X Y k with
      | false => rw [if_pos bi_f, bd_s, Bool.false_and, Bool.false_and]; rfl
      | true =>
        have hy := bo_y hbo
        have hx : X k ≠ 0 := fun z => hy (w.2.2.2.2.2.1 z).1
        obtain ⟨V, hV1, hV⟩ := p2_availNom h (show X k - 1 < rw * cl by omega)
        have hz : V = 0 ↔ ¬ no_ rw cl ru sz s (X k - 1) < gs ru * sz := by
          rw [b_nz (by omega) hV, no_an]
          exact ⟨fun q w => (by rw [q] at w; cases w), fun q => Bool.eq_false_iff.mpr q⟩
        rw [if_neg (by decide), p2_cellAt h hk hx, bd_s, hV1, bd_s, Bool.true_and]
        by_cases g : no_ rw cl ru sz s (X k - 1) < gs ru * sz
        · have hch' : chv (Y k) = nI (Y k - 1) := if_neg hy
          rw [if_neg (fun z => hz.mp z g), bd_s, p2_channelAt h hk, bd_s, hch', p1_burden h (by omega) (by omega), bd_s, decide_eq_true g, Bool.true_and]
          show ((if chv b = -9 then some (nI k, nI (bu_ rw cl ru X Y k)) else if nI (bu_ rw cl ru X Y k) ≤ nI m then some (chv b, nI m) else some (nI k, nI (bu_ rw cl ru X Y k))).bind _) = _
          by_cases g1 : b = 0
          · rw [if_pos ((chv_60 (by omega)).mpr g1), decide_eq_true g1, Bool.true_or, if_pos rfl]; rfl
          · rw [if_neg (fun z => g1 ((chv_60 (by omega)).mp z)), decide_eq_false g1, Bool.false_or]
            by_cases g2 : m < bu_ rw cl ru X Y k
            · rw [if_neg (fun z => by have := (nI_leI (by omega) (by omega)).mp z; omega), decide_eq_true g2, if_pos rfl]; rfl
            · rw [if_pos (nI_le (by omega) (by omega)), decide_eq_false g2, if_neg (by decide)]; rfl
        · rw [if_pos (hz.mpr g), bd_s, decide_eq_false g, Bool.false_and, if_neg (by decide)]
    · rfl
  rw [e]; rfl
end PA
