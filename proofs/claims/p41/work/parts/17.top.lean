section FRAMES
variable {p : Program} {l : Launch} {e : Env} {RM : Room} {s : State} {m : MethodId} {args : Array Value} {below : List Frame} {meth : Method} {c : Code} {H H0 : Heap} {locs : List Loc} {cells slots : Nat} {Q : State → Prop}
variable {cc : ByteArray} {nL pc : Nat} {ret : Option FieldType} {own : String} {D : va_G} {y : Nat → ClassId} {ls : Array Slot} {rest : List Value} {P : Nat → Prop} {ws : va_W} {a : Nat} {fs : List Value}
/-- a field is set; all else stays, told address by address -/
theorem fx_put (X : cx p s m args meth c cc nL ret own D y) {ref C : String} {T : u_T} {N ci index : Nat} (hin : ∀ w ∈ u_ws C T N, w ∈ wsL_law) {ty0 : Nat → FieldType} (hty : ∀ k, k < N → parseFieldDescriptor (T k).2.2.1 = some (ty0 k)) (hnm : ∀ a, a < N → ∀ b, b < N → a ≠ b → (T a).2.1 ≠ (T b).2.1) (hP : va_at D vwCl (a, .inr (ci, fs)) H) (hc : vwCl[ci]? = some (C, T, N)) (k : Nat) (hk : k < N) (hlink : Cond.fieldLink own index ref (T k).2.1 (T k).2.2.1 ∈ wsL_law) (hsame : ∀ x, s.fieldFound? (T k).1 (T k).2.1 (T k).2.2.1 = some x → s.fieldFound? ref (T k).2.1 (T k).2.2.1 = some x) (hfin : (T k).2.2.2 = false) {ty : FieldType} {v : Value} (hd : parseFieldDescriptor (T k).2.2.1 = some ty) (hn : narrow ty v = v) (hfit : fits ty v = true) (hl : k < fs.length) (hS : va_S P H0 H locs) (ha : P a) (hdg : decode cc pc = .ok (.putfield index, 3))
    (kk : ∀ (H1 : Heap) (locs1 : List Loc), va_at D vwCl (a, .inr (ci, fs.set k v)) H1 → H1.size = H.size → (∀ q : Nat, q ≠ a → H1[q]? = H[q]?) → va_S P H0 H1 locs1 → W p l e RM s m args below meth c H1 locs1 cells slots Q (F0 m (pc + 3) ls rest)) : W p l e RM s m args below meth c H locs cells slots Q (F0 m pc ls (v :: .ref a :: rest)) := by
  have hts := cx_w X
  have hK := (cx_K X).1
  have hap := va_apart (own := own) hts hin ty0 hty hnm hK hc
  obtain ⟨r, h1, cell, q1, q2, q3, q4⟩ := hP
  obtain rfl : r = (C, T, N) := Option.some.inj (h1.symm.trans hc)
  obtain ⟨hSl, hfc, kC, hkC, hkind⟩ := hK.1 ci _ hc
  obtain ⟨cf, kf, fi, f, hi, hsl⟩ := hSl k hk
  have hlay := hts _ (hin _ (u_in_lay hk))
  rw [u_lay, if_neg (by rw [hfin]; decide)] at hlay
  refine W.putK (cx_x X) (cx_b X) (f := f) ⟨cx_o X, hts _ hlink, ⟨_, _, _, hsame _ hi⟩, (u_facts hfc hkC (u_lays hts hin hk) hi).1⟩ (by rw [q2]; exact u_store hfc hkC hkind hlay hi hd hn hfit) q1 q3 (by rw [hsl]; exact k2_hasslot (q4 k hk)) rfl rfl hdg fun H' e1 e2 e3 => ?_
  rw [hsl] at e1 ⊢
  exact kk H' _ ⟨_, hc, t_OB.to (V := updV (vp_V fs) k v) ⟨_, e1, q2, q3, t_set q4 hap hk v⟩ (fun j _ => vp_updV_set hl v j)⟩ e2 e3 (hS.put e2 e3 ha)
/-- a new object -/
theorem fx_new (X : cx p s m args meth c cc nL ret own D y) {C : String} {T : u_T} {N ci index : Nat} (hin : ∀ w ∈ u_ws C T N, w ∈ wsL_law) {ty : Nat → FieldType} (hty : ∀ k, k < N → parseFieldDescriptor (T k).2.2.1 = some (ty k)) (hcl : Cond.classLink own index C ∈ wsL_law) (hinst : Cond.instantiable C N ∈ wsL_law) (hini : Cond.initialized C ∈ wsL_law) (hS : va_S P H0 H locs) (hc : vwCl[ci]? = some (C, T, N)) (fs : List Value) (hfs : ∀ j, j < N → defaultValue (ty j) = vp_V fs j) (hcells : cells + 1 ≤ RM.cells) (hslots : slots + N ≤ RM.slots) (hdg : decode cc pc = .ok (.new index, 3))
    (kk : ∀ H1 : Heap, va_P D vwCl [(H.size, .inr (ci, fs))] H1 → H1.size = H.size + 1 → (∀ q : Nat, q < H.size → H1[q]? = H[q]?) → va_S P H0 H1 locs → W p l e RM s m args below meth c H1 locs (cells + 1) (slots + N) Q (F0 m (pc + 3) ls (.ref H.size :: rest))) : W p l e RM s m args below meth c H locs cells slots Q (F0 m pc ls rest) := by
  have hKn := (cx_K X).1.1 ci _ hc
  refine W.newcK (cx_x X) (cx_b X) (cx_o X) (cx_w X _ hcl) (cx_w X _ hinst) (cx_w X _ hini) rfl hdg hcells hslots hKn.2.1 rfl fun H1 kC hkC e1 z1 o1 => ?_
  refine kk H1 (fun k x hx => ?_) z1 o1 ⟨Nat.le_trans hS.1 (by omega), fun x h1 h2 => (o1 x (Nat.lt_of_lt_of_le h1 hS.1)).trans (hS.2.1 x h1 h2), hS.2.2⟩
  have hz : k < 1 := (List.getElem?_eq_some_iff.mp hx).1
  obtain rfl : k = 0 := by omega
  cases hx
  exact ⟨_, hc, (u_born ty (cx_w X) hin hKn hkC e1 hty).to hfs⟩
/-- a network goes into an array of networks -/
theorem fx_ast (X : cx p s m args meth c cc nL ret own D y) {n v : Nat} {vs : List Value} {f : Nat → Option Nat} (ha : va_at D vwCl (a, .inl (y 3, n, .inr (.inr (.inr (.inr f))))) H) (hv : va_at D vwCl (v, .inr (2, vs)) H) {i : Int32} (hin : inb i n) (hS : va_S P H0 H locs) (hp : P a) (hdg : decode cc pc = .ok (.aastore, 1))
    (kk : ∀ (H1 : Heap) (locs1 : List Loc), va_at D vwCl (a, .inl (y 3, n, .inr (.inr (.inr (.inr (va_up f i.toNatClampNeg (some v))))))) H1 → H1.size = H.size → (∀ q : Nat, q ≠ a → H1[q]? = H[q]?) → va_S P H0 H1 locs1 → W p l e RM s m args below meth c H1 locs1 cells slots Q (F0 m (pc + 1) ls rest)) : W p l e RM s m args below meth c H locs cells slots Q (F0 m pc ls (.ref v :: .int i :: .ref a :: rest)) := by
  have hK := (cx_K X).1
  obtain ⟨r', hr', cellV, g1, g2, g3, -⟩ := hv
  have hcls := (hK.1 2 _ (rfl : vwCl[2]? = some (RX2, TX2, 15))).2
  obtain ⟨kA, comp, k1, k2, k3, -⟩ := (hK.2 3 _ (rfl : (kk_t y)[3]? = some (y 3, .object "ChannelBorrower$Network"))).2
  have hcomp : comp = D.1 2 := Option.some.inj (k3.symm.trans hcls.1)
  subst hcomp
  obtain ⟨kC, hkC, -⟩ := hcls.2
  refine W.aast (cx_x X) (cx_b X) ha (fun q h => by cases h) (fun h => by cases h) k1 k2 rfl hkC ⟨fun q => hin (Or.inl q), by show _ < (arrV _ _ _).slots.size; rw [arrV_size]; exact Nat.not_le.mp fun q => hin (Or.inr q)⟩ g1 (fun q h => by rw [g3] at h; cases h) (by rw [g2]; exact hkC) (by rw [g2]; exact va_assign hcls) rfl rfl hdg fun H1 e1 z oq => ?_
  refine kk H1 _ ?_ z oq (hS.put z oq hp)
  show H1[a]? = some (vp_cell _ _)
  rw [e1, vp_cell_q, vp_cell_q, arrV_store]
  congr 2
  funext q
  by_cases hq : q = i.toNatClampNeg
  · subst hq
    simp [updV, va_up, va_rf]
  · simp [updV, va_up, hq]
end FRAMES
/-! the whole system's world: nets 0 (the live one), 1..6 (the saved states), 7, 8 (the snapshots, where they are); 9: the four cells of the top; 10: the script -/
abbrev ns_T : Type := (Nat → Int32) × (Nat → Nat → Int32) × (Nat → Int32) × (Nat → Nat → Int32)
def pz (p : Nat → Bool) (i : Nat) : Prop := i < 7 ∨ (i < 9 ∧ p i = true)
def vz (p : Nat → Bool) (i j : Nat) : Prop := (pz p i ∧ j < 5) ∨ (i = 9 ∧ j < 4) ∨ (i = 10 ∧ j < 5)
def sf_s (p : Nat → Bool) (ad : Nat → Nat → Nat) : Nat → Option Nat := fun k => if p (k + 7) = true then some (ad (k + 7) 0) else none
abbrev wt_s (y : Nat → ClassId) (p : Nat → Bool) (ad : Nat → Nat → Nat) (h : Nat → Int32) : va_W := [(ad 9 0, .inr (4, [.ref (ad 0 0), .ref (ad 9 1), .ref (ad 9 3), .ref (ad 10 0)])), (ad 9 1, .inr (0, [.int (h 0), .int (h 1), .ref (ad 9 2)])), (ad 9 2, .inl (y 3, 6, .inr (.inr (.inr (.inr (fun i => some (ad (i + 1) 0))))))), (ad 9 3, .inl (y 3, 2, .inr (.inr (.inr (.inr (sf_s p ad))))))]
def tp_e (D : va_G) (y : Nat → ClassId) (P : Nat → Prop) (ad NB : Nat → Nat → Nat) (p : Nat → Bool) (h : Nat → Int32) (U : Nat → Int32) (V : Nat → Nat → Int32) (N : Nat → ns_T) (H : Heap) : Prop :=
  (∀ i j i' j', vz p i j → vz p i' j' → ad i j = ad i' j' → i = i' ∧ j = j') ∧ (∀ i j, vz p i j → P (ad i j)) ∧
  (∀ i k, pz p i → k < 6 → P (NB i k) ∧ ∀ i' j', vz p i' j' → NB i k ≠ ad i' j') ∧
  va_P D vwCl (wt_s y p ad h) H ∧ va_P D vwCl (w3_s y (ad 10) U V) H ∧
  ∀ i, pz p i → va_P D vwCl (w2_s y (NB i 0) (ad i) (N i).1 (N i).2.1) H ∧ va_P D vwCl (w1_s y (NB i) (N i).2.2.1 (N i).2.2.2) H
theorem kp_P {D : va_G} {ws : va_W} {n : Nat} {A : Nat → Nat} {H H1 : Heap} (X : Nat → Prop) (hP : va_P D vwCl ws H) (hw : ws.map (fun q => q.1) = (List.range n).map A) (hk : ∀ q : Nat, q < H.size → ¬ X q → H1[q]? = H[q]?) (hX : ∀ i, i < n → ¬ X (A i)) : va_P D vwCl ws H1 :=
  hP.kept (fun k q hq => by
    obtain ⟨h1, h2⟩ := ws_at hw hq
    exact hk q.1 (hP k q hq).lt (by rw [h2]; exact hX k h1))
section TP
variable {D : va_G} {y : Nat → ClassId} {P P' : Nat → Prop} {ad NB : Nat → Nat → Nat} {p : Nat → Bool} {h : Nat → Int32} {U : Nat → Int32} {V : Nat → Nat → Int32} {N : Nat → ns_T} {H H1 : Heap}
theorem tp_t (T : tp_e D y P ad NB p h U V N H) : va_P D vwCl (wt_s y p ad h) H := T.2.2.2.1
theorem tp_s (T : tp_e D y P ad NB p h U V N H) : va_P D vwCl (w3_s y (ad 10) U V) H := T.2.2.2.2.1
theorem tp_n (T : tp_e D y P ad NB p h U V N H) {i : Nat} (hi : pz p i) : va_P D vwCl (w2_s y (NB i 0) (ad i) (N i).1 (N i).2.1) H := (T.2.2.2.2.2 i hi).1
theorem tp_l (T : tp_e D y P ad NB p h U V N H) {i : Nat} (hi : pz p i) : va_P D vwCl (w1_s y (NB i) (N i).2.2.1 (N i).2.2.2) H := (T.2.2.2.2.2 i hi).2
theorem tp_w (T : tp_e D y P ad NB p h U V N H) : va_P D vwCl (w4_s (ad 9 0) (ad 0 0) (ad 9 1) (ad 9 3) (ad 10 0)) H := (tp_t T).sub [0] rfl
theorem pz_0 : pz p 0 := Or.inl (by decide)
theorem vz_n {i j : Nat} (hi : pz p i) (hj : j < 5) : vz p i j := Or.inl ⟨hi, hj⟩
theorem vz_t {j : Nat} (hj : j < 4) : vz p 9 j := Or.inr (Or.inl ⟨rfl, hj⟩)
theorem vz_s {j : Nat} (hj : j < 5) : vz p 10 j := Or.inr (Or.inr ⟨rfl, hj⟩)
theorem pz_9 {i : Nat} (hi : pz p i) : i < 9 := by rcases hi with h | h <;> omega
theorem tp_aj (T : tp_e D y P ad NB p h U V N H) {i : Nat} (hi : pz p i) : aj_s 5 (ad i) := fun j k hj hk e => (T.1 i j i k (vz_n hi hj) (vz_n hi hk) e).2
theorem tp_as (T : tp_e D y P ad NB p h U V N H) : aj_s 5 (ad 10) := fun j k hj hk e => (T.1 10 j 10 k (vz_s hj) (vz_s hk) e).2
theorem tp_ax (T : tp_e D y P ad NB p h U V N H) {i i' : Nat} (hi : pz p i) (hi' : pz p i') : ax_s 5 (ad i) 6 (NB i') := fun j k hj hk e => (T.2.2.1 i' k hi' hk).2 i j (vz_n hi hj) e.symm
/-- one net has changed, and its layout -/
theorem tp_N (T : tp_e D y P ad NB p h U V N H) {i0 : Nat} (hi : pz p i0) (B : Nat → Nat) (v : ns_T) (hPP : ∀ q, P q → P' q) (X : Nat → Prop) (hX : ∀ i j, vz p i j → i ≠ i0 → ¬ X (ad i j)) (hXB : ∀ i k, pz p i → k < 6 → ¬ X (NB i k)) (hk : ∀ q : Nat, q < H.size → ¬ X q → H1[q]? = H[q]?)
    (hN : va_P D vwCl (w2_s y (B 0) (ad i0) v.1 v.2.1) H1) (hL : va_P D vwCl (w1_s y B v.2.2.1 v.2.2.2) H1) (hB : ∀ k, k < 6 → P' (B k) ∧ ∀ i' j', vz p i' j' → B k ≠ ad i' j') : tp_e D y P' ad (va_up NB i0 B) p h U V (va_up N i0 v) H1 := by
  have hi9 := pz_9 hi
  refine ⟨T.1, fun i j hv => hPP _ (T.2.1 i j hv), fun i k hp hk6 => ?_, ?_, ?_, fun i hp => ?_⟩
  · by_cases hii : i = i0
    · subst hii
      rw [show va_up NB i B i = B from if_pos rfl]
      exact hB k hk6
    · rw [show va_up NB i0 B i = NB i from if_neg hii]
      exact ⟨hPP _ (T.2.2.1 i k hp hk6).1, (T.2.2.1 i k hp hk6).2⟩
  · exact kp_P (n := 4) (A := ad 9) X (tp_t T) rfl hk (fun j hj => hX 9 j (vz_t hj) (by omega))
  · exact kp_P (n := 5) (A := ad 10) X (tp_s T) rfl hk (fun j hj => hX 10 j (vz_s hj) (by omega))
  · by_cases hii : i = i0
    · subst hii
      rw [show va_up NB i B i = B from if_pos rfl, show va_up N i v i = v from if_pos rfl]
      exact ⟨hN, hL⟩
    · rw [show va_up NB i0 B i = NB i from if_neg hii, show va_up N i0 v i = N i from if_neg hii]
      exact ⟨kp_P (n := 5) (A := ad i) X (tp_n T hp) rfl hk (fun j hj => hX i j (vz_n hp hj) hii), kp_P (n := 6) (A := NB i) X (tp_l T hp) rfl hk (fun k hk6 => hXB i k hp hk6)⟩
end TP
