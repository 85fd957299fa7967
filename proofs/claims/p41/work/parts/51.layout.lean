/-! THE LAYOUT THAT IS MADE -/
theorem div_next {cl i : Nat} (h1 : 1 ≤ cl) (h5 : cl ≤ 5) : (i % cl + 1 = cl → (i + 1) / cl = i / cl + 1 ∧ (i + 1) % cl = 0) ∧ (i % cl + 1 ≠ cl → (i + 1) / cl = i / cl ∧ (i + 1) % cl = i % cl + 1) := by
  have : cl = 1 ∨ cl = 2 ∨ cl = 3 ∨ cl = 4 ∨ cl = 5 := by omega
  rcases this with rfl | rfl | rfl | rfl | rfl <;> omega
theorem cg_3 : ∀ g, g < 3 → ∀ sz, sz < 5 → ∀ h, h < 32 → an (fun m => decide (h = g + m * 3)) sz = (decide (h < 3 * sz) && decide (h % 3 = g)) := by decide +kernel
theorem cg_7 : ∀ g, g < 7 → ∀ sz, sz < 5 → ∀ h, h < 32 → an (fun m => decide (h = g + m * 7)) sz = (decide (h < 7 * sz) && decide (h % 7 = g)) := by decide +kernel
section LA
variable {rw cl ru sz : Nat} {G : Nat → Int32} {Q : Nat → Nat → Int32}
theorem la_place (hf : cf_ok rw cl ru sz) (hG : G 0 = nI (rw * cl)) : ∃ Q' : Nat → Nat → Int32, m1_placeCells G Q (nI cl) (nI ru) = some (G, Q') ∧ ∀ c, c < rw * cl → Q' 0 c = nI (c / cl) ∧ Q' 1 c = nI (c % cl) ∧ Q' 2 c = nI (gp_ cl ru c) := by
  have hce := cf_ce hf
  have hf' := hf
  unfold cf_ok at hf'
  obtain ⟨Q', hQ, hw⟩ := wh_iv (b := m1_placeCells_L8 G (nI cl) (nI ru)) (t0 := ((0 : Int32), (0 : Int32), (0 : Int32), Q)) (fun i t => t.1 = nI (i / cl) ∧ t.2.1 = nI (i % cl) ∧ t.2.2.1 = nI i ∧ ∀ c, c < i → t.2.2.2 0 c = nI (c / cl) ∧ t.2.2.2 1 c = nI (c % cl) ∧ t.2.2.2 2 c = nI (gp_ cl ru c)) (fun Q' => ∀ c, c < rw * cl → Q' 0 c = nI (c / cl) ∧ Q' 1 c = nI (c % cl) ∧ Q' 2 c = nI (gp_ cl ru c)) (rw * cl) (by omega) ⟨by rw [Nat.zero_div]; rfl, by rw [Nat.zero_mod]; rfl, rfl, fun c hc => absurd hc (Nat.not_lt_zero c)⟩ (fun i t hi ht => by
      obtain ⟨t1, t2, t3, t4⟩ := t
      obtain ⟨h1, h2, h3, h4⟩ := ht
      dsimp only at h1 h2 h3 h4
      subst h1; subst h2; subst h3
      have e1 : ¬ nI (rw * cl) ≤ nI i := nI_ge hi (by omega)
      have e2 : ¬ (25 : Int32) ≤ nI i := nI_ge (b := 25) (by omega) (by decide)
      have e3 : inb (nI i) 25 := in_n (by omega) (by decide)
      have hdl : i / cl ≤ i := Nat.div_le_self _ _
      have hml : i % cl ≤ i := Nat.mod_le _ _
      have hg : (if nI ru = (2 : Int32) then some ((nI (i / cl) + ((2 : Int32) * nI (i % cl))) - (nI (i / cl) + ((2 : Int32) * nI (i % cl))) / (3 : Int32) * (3 : Int32)) else some ((nI (i / cl) + ((3 : Int32) * nI (i % cl))) - (nI (i / cl) + ((3 : Int32) * nI (i % cl))) / (7 : Int32) * (7 : Int32))) = some (nI (gp_ cl ru i)) := by
        have m2 : (2 : Int32) * nI (i % cl) = nI (2 * (i % cl)) := pk_mul 2 _
        have m3 : (3 : Int32) * nI (i % cl) = nI (3 * (i % cl)) := pk_mul 3 _
        unfold gp_
        rw [m2, m3, nI_add, nI_add]
        rcases hf'.2.2.2.2.1 with rfl | rfl
        · rw [if_pos (by decide : nI 2 = 2)]
          exact congrArg some (pk_rem (d := 3) (by omega) (by decide) (by decide))
        · rw [if_neg (by decide : ¬ nI 3 = 2)]
          exact congrArg some (pk_rem (d := 7) (by omega) (by decide) (by decide))
      obtain ⟨n1, n2⟩ := div_next (i := i) hf'.2.2.1 hf'.2.2.2.1
      have hn : (if nI (i % cl) + (1 : Int32) = nI cl then some (nI (i / cl) + (1 : Int32), (0 : Int32)) else some (nI (i / cl), nI (i % cl) + (1 : Int32))) = some (nI ((i + 1) / cl), nI ((i + 1) % cl)) := by
        rw [nI_1, nI_1]
        by_cases q : i % cl + 1 = cl
        · rw [if_pos (by rw [q]), (n1 q).1, (n1 q).2]; rfl
        · rw [if_neg (fun z => q ((nI_eq (by omega) (by omega)).mp z)), (n2 q).1, (n2 q).2]
      refine Or.inl ⟨(nI ((i + 1) / cl), nI ((i + 1) % cl), nI (i + 1), va_up (va_up (va_up t4 0 (upd (t4 0) i (nI (i / cl)))) 1 (upd (t4 1) i (nI (i % cl)))) 2 (upd (t4 2) i (nI (gp_ cl ru i)))), ⟨rfl, rfl, rfl, fun c hc => ?_⟩, fun kk => ?_⟩
      · dsimp only
        rw [va_up_ne _ _ (by decide), va_up_ne _ _ (by decide), va_up_self, va_up_ne _ _ (by decide), va_up_self, va_up_self]
        by_cases q : c = i
        · rw [q, pk_us, pk_us, pk_us]; exact ⟨rfl, rfl, rfl⟩
        · rw [pk_un q, pk_un q, pk_un q]; exact h4 c (by omega)
      · unfold m1_placeCells_L8
        dsimp only
        rw [hG, if_neg e1, if_neg e2, if_pos e3, if_pos e3]
        refine Eq.trans (congrArg (fun t => Option.bind t _) hg) ?_
        rw [bd_s]
        unfold m1_placeCells_J72
        rw [if_pos e3]
        refine Eq.trans (congrArg (fun t => Option.bind t _) hn) ?_
        rw [bd_s]
        show m1_placeCells_J88 kk (nI (i / cl)) (nI (i % cl)) (nI i) t4 (nI (gp_ cl ru i)) (nI ((i + 1) / cl)) (nI ((i + 1) % cl)) = _
        unfold m1_placeCells_J88
        rw [nI_1, nI_clamp (by omega), va_up_ne _ _ (by decide), va_up_ne _ _ (by decide), va_up_ne _ _ (by decide)]) (fun t ht => by
      obtain ⟨t1, t2, t3, t4⟩ := t
      obtain ⟨h1, h2, h3, h4⟩ := ht
      dsimp only at h1 h2 h3 h4
      subst h3
      refine ⟨t4, h4, fun kk => ?_⟩
      unfold m1_placeCells_L8
      dsimp only
      rw [hG, if_pos (nI_le (Nat.le_refl _) (by omega))])
  refine ⟨Q', ?_, hQ⟩
  unfold m1_placeCells
  rw [hw]; rfl
theorem la_group (hf : cf_ok rw cl ru sz) (hG : G 2 = nI sz) {g : Nat} (hg : g < gs ru) : ∃ V, m1_channelsOfGroup G Q (nI g) (nI (gs ru)) = some V ∧ ∀ h, h < 32 → bt V h = (decide (h < gs ru * sz) && decide (h % gs ru = g)) := by
  have hf' := hf
  unfold cf_ok at hf'
  have hgs := cf_gs hf
  obtain ⟨V, hV, hw⟩ := wh_iv (b := m1_channelsOfGroup_L5 G (nI g) (nI (gs ru))) (t0 := ((0 : Int32), (0 : Int32))) (fun i t => t.2 = nI i ∧ ∀ h, h < 32 → bt t.1 h = an (fun m => decide (h = g + m * gs ru)) i) (fun V => ∀ h, h < 32 → bt V h = an (fun m => decide (h = g + m * gs ru)) sz) sz (by omega) ⟨rfl, fun h hh => b_0 h⟩ (fun i t hi ht => by
      obtain ⟨t1, t2⟩ := t
      obtain ⟨h1, h2⟩ := ht
      dsimp only at h1 h2
      subst h1
      have e1 : ¬ nI sz ≤ nI i := nI_ge hi (by omega)
      have hb : g + i * gs ru < 32 := by
        rcases hf'.2.2.2.2.1 with rfl | rfl
        · simp only [gs, if_true] at *; omega
        · simp only [gs, show ¬ (3 : Nat) = 2 by decide, if_false] at *; omega
      refine Or.inl ⟨(t1 ||| ((1 : Int32) <<< (nI (g + i * gs ru) &&& 31)), nI (i + 1)), ⟨rfl, fun h hh => ?_⟩, fun kk => ?_⟩
      · dsimp only
        rw [b_or, h2 h hh, b_one hb hh, an]
      · unfold m1_channelsOfGroup_L5 lt_
        dsimp only
        rw [hG, if_neg e1, pk_mul, nI_add, nI_1]) (fun t ht => by
      obtain ⟨t1, t2⟩ := t
      obtain ⟨h1, h2⟩ := ht
      dsimp only at h1 h2
      subst h1
      refine ⟨t1, h2, fun kk => ?_⟩
      unfold m1_channelsOfGroup_L5
      dsimp only
      rw [hG, if_pos (nI_le (Nat.le_refl _) (by omega))])
  refine ⟨V, ?_, fun h hh => ?_⟩
  · unfold m1_channelsOfGroup
    rw [hw]; rfl
  · rw [hV h hh]
    rcases hf'.2.2.2.2.1 with rfl | rfl
    · exact cg_3 g hg sz (by omega) h hh
    · exact cg_7 g hg sz (by omega) h hh
theorem la_near (hf : cf_ok rw cl ru sz) (hG : G 0 = nI (rw * cl)) (hQ : ∀ c, c < rw * cl → Q 0 c = nI (c / cl) ∧ Q 1 c = nI (c % cl)) {c : Nat} (hc : c < rw * cl) : ∃ V, m1_cellsWithin G Q (nI c) (nI ru) = some V ∧ ∀ d, d < 32 → bt V d = (decide (d < rw * cl) && ne_ cl ru c d) := by
  have hf' := hf
  unfold cf_ok at hf'
  have hce := cf_ce hf
  obtain ⟨V, hV, hw⟩ := wh_iv (b := m1_cellsWithin_L5 G Q (nI c) (nI ru)) (t0 := ((0 : Int32), (0 : Int32))) (fun i t => t.2 = nI i ∧ ∀ h, h < 32 → bt t.1 h = (decide (h < i) && ne_ cl ru c h)) (fun V => ∀ h, h < 32 → bt V h = (decide (h < rw * cl) && ne_ cl ru c h)) (rw * cl) (by omega) ⟨rfl, fun h hh => by rw [b_0]; rfl⟩ (fun i t hi ht => by
      obtain ⟨t1, t2⟩ := t
      obtain ⟨h1, h2⟩ := ht
      dsimp only at h1 h2
      subst h1
      have e1 : ¬ nI (rw * cl) ≤ nI i := nI_ge hi (by omega)
      have hds : ds cl c i < 2 ^ 31 := ds_lt (by omega) (by omega)
      have hst : (if nI i = nI c then some t1 else (m1_separation G Q (nI c) (nI i)).bind fun v10 => if nI ru ≤ v10 then some t1 else some (t1 ||| ((1 : Int32) <<< (nI i &&& 31)))) = some (if ne_ cl ru c i then t1 ||| ((1 : Int32) <<< (nI i &&& 31)) else t1) := by
        unfold ne_
        by_cases q : i = c
        · rw [if_pos (by rw [q]), decide_eq_false (fun z => z q), Bool.false_and, if_neg (by decide)]
        · rw [if_neg (fun z => q ((nI_eq (by omega) (by omega)).mp z)), decide_eq_true q, Bool.true_and, q1_sep hf hG hc hi (hQ c hc) (hQ i hi), bd_s, ds_comm cl i c]
          by_cases g : ds cl c i < ru
          · rw [if_neg (fun z => by have := (nI_leI (by omega) hds).mp z; omega), decide_eq_true g, if_pos rfl]
          · rw [if_pos (nI_le (by omega) hds), decide_eq_false g, if_neg (by decide)]
      refine Or.inl ⟨(if ne_ cl ru c i then t1 ||| ((1 : Int32) <<< (nI i &&& 31)) else t1, nI (i + 1)), ⟨rfl, fun h hh => ?_⟩, fun kk => ?_⟩
      · dsimp only
        cases hne : ne_ cl ru c i with
        | true =>
          rw [if_pos rfl, b_or, h2 h hh, b_one (by omega) hh]
          by_cases q : h = i
          · rw [q, decide_eq_true (show i < i + 1 by omega), decide_eq_true rfl, hne]; simp
          · rw [decide_eq_false q, Bool.or_false]
            congr 1
            exact decide_eq_decide.mpr (by omega)
        | false =>
          rw [if_neg (by decide), h2 h hh]
          by_cases q : h = i
          · rw [q, hne, Bool.and_false, Bool.and_false]
          · congr 1
            exact decide_eq_decide.mpr (by omega)
      · unfold m1_cellsWithin_L5
        dsimp only
        rw [hG, if_neg e1]
        refine Eq.trans (congrArg (fun t => Option.bind t _) hst) ?_
        rw [bd_s]
        unfold m1_cellsWithin_J38
        rw [nI_1]) (fun t ht => by
      obtain ⟨t1, t2⟩ := t
      obtain ⟨h1, h2⟩ := ht
      dsimp only at h1 h2
      subst h1
      refine ⟨t1, h2, fun kk => ?_⟩
      unfold m1_cellsWithin_L5
      dsimp only
      rw [hG, if_pos (nI_le (Nat.le_refl _) (by omega))])
  refine ⟨V, ?_, hV⟩
  unfold m1_cellsWithin
  rw [hw]; rfl
theorem la_init (hf : cf_ok rw cl ru sz) (G0 : Nat → Int32) (Q0 : Nat → Nat → Int32) : ∃ G Q, m1_init G0 Q0 (nI rw) (nI cl) (nI ru) (nI sz) = some (G, Q) ∧ lo_s rw cl ru sz G Q := by
  have hf' := hf
  unfold cf_ok at hf'
  have hce := cf_ce hf
  have hv1 : (if nI ru = (2 : Int32) then some (3 : Int32) else some (7 : Int32)) = some (nI (gs ru)) := by
    rcases hf'.2.2.2.2.1 with rfl | rfl <;> rfl
  generalize hG : va_up (va_up (va_up G0 0 (nI rw * nI cl)) 1 (nI (gs ru) * nI sz)) 2 (nI sz) = G
  have g0 : G 0 = nI (rw * cl) := by rw [← hG, va_up_ne _ _ (by decide), va_up_ne _ _ (by decide), va_up_self, pk_mul]
  have g1 : G 1 = nI (gs ru * sz) := by rw [← hG, va_up_ne _ _ (by decide), va_up_self, pk_mul]
  have g2 : G 2 = nI sz := by rw [← hG, va_up_self]
  obtain ⟨Q1, p1, p2⟩ := la_place (Q := Q0) hf g0
  obtain ⟨Q2, hQ2, hw⟩ := wh_iv (b := m1_init_L88 (nI ru) (nI (gs ru)) G) (t0 := ((0 : Int32), Q1)) (fun i t => t.1 = nI i ∧ t.2 0 = Q1 0 ∧ t.2 1 = Q1 1 ∧ t.2 2 = Q1 2 ∧ ∀ c, c < i → (∀ h, h < 32 → bt (t.2 3 c) h = (decide (h < gs ru * sz) && nm cl ru c h)) ∧ (∀ d, d < 32 → bt (t.2 4 c) d = (decide (d < rw * cl) && ne_ cl ru c d))) (fun T => T 0 = Q1 0 ∧ T 1 = Q1 1 ∧ T 2 = Q1 2 ∧ ∀ c, c < rw * cl → (∀ h, h < 32 → bt (T 3 c) h = (decide (h < gs ru * sz) && nm cl ru c h)) ∧ (∀ d, d < 32 → bt (T 4 c) d = (decide (d < rw * cl) && ne_ cl ru c d))) (rw * cl) (by omega) ⟨rfl, rfl, rfl, rfl, fun c hc => absurd hc (Nat.not_lt_zero c)⟩ (fun i t hi ht => by
      obtain ⟨t1, t2⟩ := t
      obtain ⟨h1, h2, h3, h4, h5⟩ := ht
      dsimp only at h1 h2 h3 h4 h5
      subst h1
      have e1 : ¬ nI (rw * cl) ≤ nI i := nI_ge hi (by omega)
      have e2 : ¬ (25 : Int32) ≤ nI i := nI_ge (b := 25) (by omega) (by decide)
      have e3 : inb (nI i) 25 := in_n (by omega) (by decide)
      obtain ⟨V, v1, v2⟩ := la_group (Q := t2) hf g2 (gp_lt hf i)
      obtain ⟨W, w1, w2⟩ := la_near (Q := va_up t2 3 (upd (t2 3) i V)) hf g0 (fun c hc => by
        rw [va_up_ne _ _ (by decide), va_up_ne _ _ (by decide), h2, h3]; exact ⟨(p2 c hc).1, (p2 c hc).2.1⟩) hi
      refine Or.inl ⟨(nI (i + 1), va_up (va_up t2 3 (upd (t2 3) i V)) 4 (upd (t2 4) i W)), ⟨rfl, ?_, ?_, ?_, fun c hc => ?_⟩, fun kk => ?_⟩
      · dsimp only
        rw [va_up_ne _ _ (by decide), va_up_ne _ _ (by decide)]; exact h2
      · dsimp only
        rw [va_up_ne _ _ (by decide), va_up_ne _ _ (by decide)]; exact h3
      · dsimp only
        rw [va_up_ne _ _ (by decide), va_up_ne _ _ (by decide)]; exact h4
      · dsimp only
        rw [va_up_ne _ _ (by decide), va_up_self, va_up_self]
        by_cases q : c = i
        · rw [q, pk_us, pk_us]
          exact ⟨v2, w2⟩
        · rw [pk_un q, pk_un q]; exact h5 c (by omega)
      · unfold m1_init_L88
        dsimp only
        have hq2 : t2 2 (nI i).toNatClampNeg = nI (gp_ cl ru i) := by rw [nI_clamp (by omega), h4]; exact (p2 i hi).2.2
        have w1' : m1_cellsWithin G (va_up t2 3 (upd (t2 3) (nI i).toNatClampNeg V)) (nI i) (nI ru) = some W := by rw [nI_clamp (by omega)]; exact w1
        rw [g0, if_neg e1, if_neg e2, if_pos e3, hq2, v1, bd_s, if_pos e3, w1', bd_s, if_pos e3, nI_clamp (by omega), nI_1, va_up_ne _ _ (by decide)]) (fun t ht => by
      obtain ⟨t1, t2⟩ := t
      obtain ⟨h1, h2⟩ := ht
      dsimp only at h1 h2
      subst h1
      refine ⟨t2, h2, fun kk => ?_⟩
      unfold m1_init_L88
      dsimp only
      rw [g0, if_pos (nI_le (Nat.le_refl _) (by omega))])
  refine ⟨G, Q2, ?_, g0, g1, g2, fun c hc => ?_⟩
  · unfold m1_init
    rw [hv1, bd_s]
    unfold m1_init_J55
    rw [hG, p1, bd_s]
    show (wh (m1_init_L88 (nI ru) (nI (gs ru)) G) 2000 ((0 : Int32), Q1)).bind _ = _
    rw [hw]; rfl
  · obtain ⟨q0, q1, q2, q3⟩ := hQ2
    rw [q0, q1, q2]
    exact ⟨(p2 c hc).1, (p2 c hc).2.1, (p2 c hc).2.2, (q3 c hc).1, (q3 c hc).2⟩
end LA
