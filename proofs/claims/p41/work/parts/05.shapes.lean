/-! shapes of the worlds, and rows for each field, array, call -/
def ap_s (n : Nat) (P : Nat → Prop) (A : Nat → Nat) : Prop := (∀ i j, i < n → j < n → A i = A j → i = j) ∧ ∀ i, i < n → P (A i)
def aj_s (n : Nat) (A : Nat → Nat) : Prop := ∀ i j, i < n → j < n → A i = A j → i = j
def ax_s (n : Nat) (A : Nat → Nat) (k : Nat) (B : Nat → Nat) : Prop := ∀ i j, i < n → j < k → A i ≠ B j
def rg_s (n : Nat) (A : Nat → Nat) (sz : Nat) : Nat → Prop := fun q => (∃ i, i < n ∧ q = A i) ∨ sz ≤ q
theorem ap_of {n : Nat} {A : Nat → Nat} {sz : Nat} (h : aj_s n A) : ap_s n (rg_s n A sz) A := ⟨h, fun i hi => Or.inl ⟨i, hi, rfl⟩⟩
theorem rg_up {n : Nat} {A : Nat → Nat} {sz sz' : Nat} (h : sz ≤ sz') : ∀ q, rg_s n A sz' q → rg_s n A sz q := fun q hq => hq.imp id (fun k => Nat.le_trans h k)
theorem ws_at {ws : va_W} {n : Nat} {A : Nat → Nat} (hw : ws.map (fun q => q.1) = (List.range n).map A) {k : Nat} {q : Nat × va_E} (hk : ws[k]? = some q) : k < n ∧ q.1 = A k := by
  have h1 : (ws.map (fun q => q.1))[k]? = some q.1 := by rw [List.getElem?_map, hk]; rfl
  rw [hw, List.getElem?_map] at h1
  by_cases hn : k < n
  · rw [List.getElem?_range hn] at h1
    exact ⟨hn, (Option.some.inj h1).symm⟩
  · rw [List.getElem?_eq_none (by rw [List.length_range]; omega)] at h1
    cases h1
theorem ap_D {ws : va_W} {n : Nat} {P : Nat → Prop} {A : Nat → Nat} (h : ap_s n P A) (hw : ws.map (fun q => q.1) = (List.range n).map A) : va_D P ws := by
  refine ⟨fun i j p q hi hj he => ?_, fun k q hk => ?_⟩
  · obtain ⟨h1, e1⟩ := ws_at hw hi
    obtain ⟨h2, e2⟩ := ws_at hw hj
    exact h.1 i j h1 h2 (by rw [← e1, ← e2]; exact he)
  · obtain ⟨h1, e1⟩ := ws_at hw hk
    rw [e1]; exact h.2 k h1
theorem ro_P {D : va_G} {cl : List vw_C} {ws : va_W} {P : Nat → Prop} {H0 H : Heap} {locs : List Loc} (h : va_P D cl ws H0) (hS : va_S P H0 H locs) (hn : ∀ q ∈ ws.map (fun q => q.1), ¬ P q) : va_P D cl ws H :=
  h.kept (fun k q hk => hS.2.1 q.1 (h k q hk).lt (hn _ (List.mem_map.mpr ⟨q, List.mem_of_getElem? hk, rfl⟩)))
theorem lt_of {D : va_G} {cl : List vw_C} {ws : va_W} {H : Heap} {k : Nat} {B : Nat → Nat} (h : va_P D cl ws H) (hw : ws.map (fun q => q.1) = (List.range k).map B) (i : Nat) (hi : i < k) : B i < H.size := by
  have h1 : (ws.map (fun q => q.1))[i]? = some (B i) := by rw [hw, List.getElem?_map, List.getElem?_range hi]; rfl
  rw [List.getElem?_map] at h1
  cases hq : ws[i]? with
  | none => rw [hq] at h1; cases h1
  | some q =>
    rw [hq] at h1
    have e : q.1 = B i := Option.some.inj h1
    rw [← e]; exact (h i q hq).lt
theorem ax_of {n : Nat} {A : Nat → Nat} {k : Nat} {B : Nat → Nat} {sz : Nat} {ws : va_W} (h : ax_s n A k B) (hl : ∀ i, i < k → B i < sz) (hw : ws.map (fun q => q.1) = (List.range k).map B) : ∀ q ∈ ws.map (fun q => q.1), ¬ rg_s n A sz q := by
  intro q hq hr
  rw [hw] at hq
  obtain ⟨j, hj, rfl⟩ := List.mem_map.mp hq
  have hj2 := List.mem_range.mp hj
  rcases hr with ⟨i, hi, e⟩ | h2
  · exact h i j hi hj2 e.symm
  · exact absurd (hl j hj2) (Nat.not_lt.mpr h2)
abbrev w1_s (y : Nat → ClassId) (A : Nat → Nat) (F : Nat → Int32) (R : Nat → Nat → Int32) : va_W := [(A 0, .inr (1, [.int (F 0), .int (F 1), .int (F 2), .ref (A 1), .ref (A 2), .ref (A 3), .ref (A 4), .ref (A 5)])), (A 1, .inl (y 0, 25, .inl (R 0))), (A 2, .inl (y 0, 25, .inl (R 1))), (A 3, .inl (y 0, 25, .inl (R 2))), (A 4, .inl (y 0, 25, .inl (R 3))), (A 5, .inl (y 0, 25, .inl (R 4)))]
abbrev w2_s (y : Nat → ClassId) (lay : Nat) (A : Nat → Nat) (F : Nat → Int32) (R : Nat → Nat → Int32) : va_W := [(A 0, .inr (2, [.ref lay, .int (F 1), .int (F 2), .int (F 3), .int (F 4), .int (F 5), .int (F 6), .int (F 7), .int (F 8), .int (F 9), .int (F 10), .ref (A 1), .ref (A 2), .ref (A 3), .ref (A 4)])), (A 1, .inl (y 0, 60, .inl (R 0))), (A 2, .inl (y 0, 60, .inl (R 1))), (A 3, .inl (y 0, 60, .inl (R 2))), (A 4, .inl (y 0, 25, .inl (R 3)))]
abbrev w3_s (y : Nat → ClassId) (A : Nat → Nat) (F : Nat → Int32) (R : Nat → Nat → Int32) : va_W := [(A 0, .inr (3, [.int (F 0), .int (F 1), .int (F 2), .ref (A 1), .ref (A 2), .ref (A 3), .ref (A 4)])), (A 1, .inl (y 0, 33, .inl (R 0))), (A 2, .inl (y 0, 33, .inl (R 1))), (A 3, .inl (y 0, 33, .inl (R 2))), (A 4, .inl (y 0, 100, .inl (R 3)))]
