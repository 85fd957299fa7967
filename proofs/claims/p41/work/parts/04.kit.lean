/-! THE WALK'S OWN KIT: one word list for all methods, one context, two kinds of contract (a method that only reads; a method that writes one world) -/
def nw_l : List Cond := [.methodLinkNest RX4 36 yX3_init RX4, .methodLinkNest RX0 41 yX4_isBetween RX4, .methodLinkNest RX2 154 yX4_contains RX4, .methodLinkNest RX1 67 yX4_contains RX4, .methodLinkNest RX2 106 yX4_isBetween RX4, .methodLinkNest RX2 110 yX4_asNumber RX4]
def nw_K (U : State) : Prop := (∀ w ∈ nw_l, va_Nw w U) ∧ va_AO "ChannelBorrower$Network" U
theorem nw_warm {s U : State} (hW : s.WarmedH U.vm) (h : nw_K s) : nw_K U := by
  refine ⟨?_, va_AO.moved hW.alike h.2⟩
  intro w hw
  have h1 := h.1 w hw
  simp only [nw_l, List.mem_cons, List.not_mem_nil, or_false] at hw
  rcases hw with rfl | rfl | rfl | rfl | rfl | rfl <;> exact va_Nw.warmM hW h1
theorem nw_same {u U : State} (hv : u.vm = U.vm) (h : nw_K u) : nw_K U := by
  refine ⟨?_, va_AO.moved (by rw [hv]; exact Vm.Alike.refl U.vm) h.2⟩
  intro w hw
  have h1 := h.1 w hw
  simp only [nw_l, List.mem_cons, List.not_mem_nil, or_false] at hw
  rcases hw with rfl | rfl | rfl | rfl | rfl | rfl <;> exact va_Nw.same rfl hv h1
abbrev kk_t (y : Nat → ClassId) : List (ClassId × FieldType) := [(y 0, .int), (y 1, .int), (y 2, .int), (y 3, .object "ChannelBorrower$Network")]
/-- what the tables say: classes, arrays, nest mates -/
def kk_K (D : va_G) (y : Nat → ClassId) (U : State) : Prop := va_K D vwCl (kk_t y) U ∧ nw_K U
theorem kk_warm {D : va_G} {y : Nat → ClassId} {s U : State} (hW : s.WarmedH U.vm) (h : kk_K D y s) : kk_K D y U := ⟨va_K.moved hW.alike h.1, nw_warm hW h.2⟩
theorem kk_call {D : va_G} {y : Nat → ClassId} {U : State} (g : JFrame) (mk : MethodId) (a : Array Value) (h : kk_K D y U) : kk_K D y (U.calling g mk a) := ⟨va_K.moved (u := U) (U := U.calling g mk a) (Vm.Alike.refl U.vm) h.1, nw_same (u := U) (U := U.calling g mk a) rfl h.2⟩
/-- a method's words: its own code, and all words -/
def wy_s (z : MethodName) (b : ByteArray) (n : Nat) (r : Option FieldType) : List Cond := Cond.code z b n r :: wsL_law
set_option maxRecDepth 20000 in
theorem wy_all : wsL_law.all goodWord = true := by decide +kernel
theorem wy_in {z : MethodName} {b : ByteArray} {n : Nat} {r : Option FieldType} (h : Cond.code z b n r ∈ wsL_law) : GoodIn wsL_law (wy_s z b n r) := by
  intro w hw
  rcases List.mem_cons.mp hw with rfl | h1
  · exact ⟨h, good_of_word (List.all_eq_true.mp wy_all _ h)⟩
  · exact ⟨h1, good_of_word (List.all_eq_true.mp wy_all _ h1)⟩
theorem wy_app {a b : List Cond} (ha : ∀ w ∈ a, w ∈ wsL_law) (hb : GoodIn wsL_law b) : GoodIn wsL_law (a ++ b) := fun w h => (List.mem_append.mp h).elim (fun h => ⟨ha w h, good_of_word (List.all_eq_true.mp wy_all _ (ha w h))⟩) (hb w)
/-- a contract's start -/
def pc_R (D : va_G) (y : Nat → ClassId) (av : List Value) (PH : Heap → Prop) : Array Value → State → Prop := fun v U => v = av.toArray ∧ PH U.heap ∧ kk_K D y U
theorem pc_blind {D : va_G} {y : Nat → ClassId} {av : List Value} {PH : Heap → Prop} : FrameBlind (pc_R D y av PH) := fun a _ g mk h => ⟨h.1, h.2.1, kk_call g mk a h.2.2⟩
/-- the end of a method that writes -/
def qc_W (ov : Option Value) (PH : Heap → Prop) (A : Nat → Prop) : Array Value → State → Outcome → State → Prop := fun _ st oc t => oc = .returned ov ∧ PH t.heap ∧ va_F A st t
abbrev qc_R (x : Int32) : Array Value → State → Outcome → State → Prop := vp_Si (fun z => z = x)
/-- what a walk has at hand -/
def cx (p : Program) (s : State) (m : MethodId) (args : Array Value) (meth : Method) (c : Code) (cc : ByteArray) (nL : Nat) (ret : Option FieldType) (own : String) (D : va_G) (y : Nat → ClassId) : Prop :=
  p.tables.exec = Jvm.exec ∧ c.code = cc ∧ c.maxLocals = nL ∧ s.vm.findClass own = some m.cls ∧ (∀ w ∈ wsL_law, w.before args s = true) ∧ kk_K D y s ∧ meth.sig.returnType = ret ∧ meth.locks = false
section CX
variable {p : Program} {s : State} {m : MethodId} {args : Array Value} {meth : Method} {c : Code} {cc : ByteArray} {nL : Nat} {ret : Option FieldType} {own : String} {D : va_G} {y : Nat → ClassId}
theorem cx_x (X : cx p s m args meth c cc nL ret own D y) : p.tables.exec = Jvm.exec := X.1
theorem cx_b (X : cx p s m args meth c cc nL ret own D y) : c.code = cc := X.2.1
theorem cx_m (X : cx p s m args meth c cc nL ret own D y) : c.maxLocals = nL := X.2.2.1
theorem cx_o (X : cx p s m args meth c cc nL ret own D y) : s.vm.findClass own = some m.cls := X.2.2.2.1
theorem cx_w (X : cx p s m args meth c cc nL ret own D y) : ∀ w ∈ wsL_law, w.before args s = true := X.2.2.2.2.1
theorem cx_K (X : cx p s m args meth c cc nL ret own D y) : kk_K D y s := X.2.2.2.2.2.1
theorem cx_r (X : cx p s m args meth c cc nL ret own D y) : meth.sig.returnType = ret := X.2.2.2.2.2.2.1
theorem cx_l (X : cx p s m args meth c cc nL ret own D y) : meth.locks = false := X.2.2.2.2.2.2.2
theorem cx_F (X : cx p s m args meth c cc nL ret own D y) : CallFix p m c cc nL s args wsL_law own := ⟨X.1, X.2.1, X.2.2.1, X.2.2.2.1, X.2.2.2.2.1⟩
end CX
/-- partial reckoning -/
def wh {σ ρ : Type} (b : (σ → Option ρ) → σ → Option ρ) : Nat → σ → Option ρ
  | 0, _ => none
  | n + 1, x => b (wh b n) x
def lt_ {α β : Type} (e : α) (f : α → Option β) : Option β := f e
abbrev inb (i : Int32) (n : Nat) : Prop := ¬ (i < 0 ∨ n ≤ i.toNatClampNeg)
theorem bnd {α β : Type} {a : Option α} {f : α → Option β} {r : β} (h : a.bind f = some r) : ∃ x, a = some x ∧ f x = some r := Option.bind_eq_some_iff.mp h
theorem lt_E {α β : Type} {e : α} {f : α → Option β} {r : β} (h : lt_ e f = some r) : ∃ x, x = e ∧ f x = some r := ⟨e, rfl, h⟩
theorem if_T {c : Prop} [Decidable c] {α : Type} {a b r : α} (hc : c) (h : (if c then a else b) = r) : a = r := by rw [if_pos hc] at h; exact h
theorem if_F {c : Prop} [Decidable c] {α : Type} {a b r : α} (hc : ¬ c) (h : (if c then a else b) = r) : b = r := by rw [if_neg hc] at h; exact h
theorem ck_E {c : Prop} [Decidable c] {α : Type} {a : Option α} {r : α} (h : (if c then a else none) = some r) : c ∧ a = some r := by
  by_cases hc : c
  · rw [if_pos hc] at h; exact ⟨hc, h⟩
  · rw [if_neg hc] at h; cases h
section RW
variable {p : Program} {l : Launch} {e : Env} {R : Room} {s : State} {m : MethodId} {args : Array Value} {below : List Frame} {meth : Method} {c : Code} {H : Heap} {locs : List Loc} {cells slots : Nat} {Q : State → Prop}
variable {cc : ByteArray} {nL pc : Nat} {ret : Option FieldType} {own : String} {D : va_G} {y : Nat → ClassId} {ls : Array Slot} {rest st0 : List Value}
theorem lv_eqi {x x' : Int32} (h : x' = x) (k : W p l e R s m args below meth c H locs cells slots Q (F0 m pc ls (.int x' :: rest))) : W p l e R s m args below meth c H locs cells slots Q (F0 m pc ls (.int x :: rest)) := h ▸ k
/-- the goal of a walk of a method that only reads -/
abbrev gr (p : Program) (l : Launch) (e : Env) (R : Room) (s : State) (m : MethodId) (args : Array Value) (below : List Frame) (meth : Method) (c : Code) (x : Int32) (g : JFrame) : Prop :=
  W p l e R s m args below meth c s.heap [] 0 0 (MQ below (qc_R x) args s 0 0 (fun _ => False)) g
theorem gr_i {v x : Int32} (X : cx p s m args meth c cc nL (some .int) own D y) (h : some v = some x) (hdg : decode cc pc = .ok (.ireturn, 1)) : gr p l e R s m args below meth c x (F0 m pc ls [.int v]) :=
  W.iret (cx_x X) (cx_b X) (cx_r X) (fun _ ht _ => ⟨v, rfl, Option.some.inj h, ht⟩) (fun _ h => by cases h) hdg (cx_l X)
theorem gr_z {v x : Int32} (X : cx p s m args meth c cc nL (some .boolean) own D y) (hv : v &&& 1 = v) (h : some v = some x) (hdg : decode cc pc = .ok (.ireturn, 1)) : gr p l e R s m args below meth c x (F0 m pc ls [.int v]) :=
  W.zret (cx_x X) (cx_b X) (cx_r X) (by show Value.int (v &&& 1) = _; rw [hv]) (fun _ ht _ => ⟨v, rfl, Option.some.inj h, ht⟩) (fun _ h => by cases h) hdg (cx_l X)
/-- the goal of a walk of a method that writes: H, locs are the heap and what was written as it stands -/
abbrev gw (p : Program) (l : Launch) (e : Env) (R : Room) (s : State) (m : MethodId) (args : Array Value) (below : List Frame) (meth : Method) (c : Code) (ov : Option Value) (PH : Heap → Prop) (A : Nat → Prop) (mc ms : Nat) (H : Heap) (locs : List Loc) (g : JFrame) : Prop :=
  W p l e R s m args below meth c H locs mc ms (MQ below (qc_W ov PH A) args s mc ms A) g
theorem gw_i {v : Int32} {PH : Heap → Prop} {A : Nat → Prop} {mc ms : Nat} (X : cx p s m args meth c cc nL (some .int) own D y) (hS : va_S A s.heap H locs) (hP : PH H) (hdg : decode cc pc = .ok (.ireturn, 1)) : gw p l e R s m args below meth c (some (.int v)) PH A mc ms H locs (F0 m pc ls [.int v]) :=
  W.iret (cx_x X) (cx_b X) (cx_r X) (fun _ ht _ => ⟨rfl, by rw [ht]; exact hP, hS.F ht⟩) hS.2.2 hdg (cx_l X)
theorem gw_z {v : Int32} {PH : Heap → Prop} {A : Nat → Prop} {mc ms : Nat} (X : cx p s m args meth c cc nL (some .boolean) own D y) (hv : v &&& 1 = v) (hS : va_S A s.heap H locs) (hP : PH H) (hdg : decode cc pc = .ok (.ireturn, 1)) : gw p l e R s m args below meth c (some (.int v)) PH A mc ms H locs (F0 m pc ls [.int v]) :=
  W.zret (cx_x X) (cx_b X) (cx_r X) (by show Value.int (v &&& 1) = _; rw [hv]) (fun _ ht _ => ⟨rfl, by rw [ht]; exact hP, hS.F ht⟩) hS.2.2 hdg (cx_l X)
theorem gw_v {PH : Heap → Prop} {A : Nat → Prop} {mc ms : Nat} (X : cx p s m args meth c cc nL none own D y) (hS : va_S A s.heap H locs) (hP : PH H) (hdg : decode cc pc = .ok (.return_, 1)) : gw p l e R s m args below meth c none PH A mc ms H locs (F0 m pc ls []) :=
  W.vret (cx_x X) (cx_b X) (cx_r X) (fun _ ht _ => ⟨rfl, by rw [ht]; exact hP, hS.F ht⟩) hS.2.2 hdg (cx_l X)
end RW
/-- what a call's link words are, in the one list -/
def vq (own : String) (idx : Nat) (C : String) (z : MethodName) (b : ByteArray) (n : Nat) (r : Option FieldType) (k : Nat) : Prop :=
  Cond.methodLink own idx z ∈ wsL_law ∧ Cond.instanceMethod z ∈ wsL_law ∧ Cond.selects C z z ∈ wsL_law ∧ Cond.initialized C ∈ wsL_law ∧ Cond.code z b n r ∈ wsL_law ∧ z.cls = C ∧ z.cls ≠ "java/lang/invoke/MethodHandle" ∧ z.cls ≠ "java/lang/invoke/VarHandle" ∧ (parseMethodDescriptor z.desc).map (fun d => d.parameters.length) = some k
def sq (own : String) (idx : Nat) (z : MethodName) (b : ByteArray) (n : Nat) (r : Option FieldType) (k : Nat) : Prop :=
  Cond.methodLink own idx z ∈ wsL_law ∧ Cond.static z ∈ wsL_law ∧ Cond.initialized z.cls ∈ wsL_law ∧ Cond.code z b n r ∈ wsL_law ∧ z.cls ≠ "java/lang/invoke/MethodHandle" ∧ z.cls ≠ "java/lang/invoke/VarHandle" ∧ (parseMethodDescriptor z.desc).map (fun d => d.parameters.length) = some k
def nq (own : String) (idx : Nat) (z : MethodName) (host : String) (b : ByteArray) (n : Nat) (r : Option FieldType) (k : Nat) : Prop :=
  Cond.methodLinkNest own idx z host ∈ nw_l ∧ Cond.static z ∈ wsL_law ∧ Cond.initialized z.cls ∈ wsL_law ∧ Cond.code z b n r ∈ wsL_law ∧ z.cls ≠ "java/lang/invoke/MethodHandle" ∧ z.cls ≠ "java/lang/invoke/VarHandle" ∧ (parseMethodDescriptor z.desc).map (fun d => d.parameters.length) = some k
section CALLS
variable {p : Program} {l : Launch} {e : Env} {R : Room} {s : State} {m : MethodId} {args : Array Value} {below : List Frame} {meth : Method} {c : Code} {H : Heap} {locs : List Loc} {cells slots : Nat} {Q : State → Prop}
variable {cc : ByteArray} {nL pc : Nat} {ret : Option FieldType} {own : String} {D : va_G} {y : Nat → ClassId} {ls : Array Slot} {rest st0 : List Value}
variable {idx n k mc ms : Nat} {C : String} {z : MethodName} {b : ByteArray} {r : Option FieldType} {rm : Room} {a : Nat} {As : List Value} {PH : Heap → Prop} {Qc : Array Value → State → Outcome → State → Prop} {free : Addr → Prop}
/-- a virtual call on an object of C -/
theorem rn_V (X : cx p s m args meth c cc nL ret own D y) (hM : Met l z (wy_s z b n r) rm (pc_R D y (.ref a :: As) PH) Qc mc ms free) (q : vq own idx C z b n r k) (h0 : rm.cells = mc ∧ rm.slots = ms) (hR : rm.frames + 1 ≤ R.frames ∧ 8 + (n + 11) + rm.locals ≤ R.locals)
    (hrec : ∃ cell : Cell, H[a]? = some cell ∧ cell.vm.isStatics = false ∧ s.vm.findClass C = some cell.cls) (hPH : PH H) (hk : As.length = k) (hl : ls.size = nL) (hst : st0 = As.reverse ++ .ref a :: rest) (hW : (rest.map fun v => v.category).sum ≤ 8) (hdg : decode cc pc = .ok (.invokevirtual idx, 3)) (hc : cells + mc ≤ R.cells ∧ slots + ms ≤ R.slots) :
    va_Run p l e R s m args below meth c H locs cells slots mc ms (F0 m pc ls st0) rest (Qc (Value.ref a :: As).toArray) free := by
  subst hst
  have hG : GoodIn wsL_law (wsV own idx C z (wy_s z b n r)) := wy_app (fun w h => by
    simp only [List.mem_cons, List.not_mem_nil, or_false] at h
    rcases h with rfl | rfl | rfl | rfl
    · exact q.1
    · exact q.2.1
    · exact q.2.2.1
    · exact q.2.2.2.1) (wy_in q.2.2.2.2.1)
  exact va_runV (cx_F X) hM (cwV k (cx_w X) hG rfl h0.1 h0.2 q.2.2.2.2.2 hR) ⟨pc_blind, hrec, fun U hU hW => ⟨rfl, by rw [hU]; exact hPH, kk_warm hW (cx_K X)⟩⟩ rfl hk hl rfl (lv_room hW) hdg hc
theorem rn_S (X : cx p s m args meth c cc nL ret own D y) (hM : Met l z (wy_s z b n r) rm (pc_R D y As PH) Qc mc ms free) (q : sq own idx z b n r k) (h0 : rm.cells = mc ∧ rm.slots = ms) (hR : rm.frames + 1 ≤ R.frames ∧ 8 + (n + 11) + rm.locals ≤ R.locals)
    (hPH : PH H) (hk : As.length = k) (hl : ls.size = nL) (hst : st0 = As.reverse ++ rest) (hW : (rest.map fun v => v.category).sum ≤ 8) (hdg : decode cc pc = .ok (.invokestatic idx, 3)) (hc : cells + mc ≤ R.cells ∧ slots + ms ≤ R.slots) :
    va_Run p l e R s m args below meth c H locs cells slots mc ms (F0 m pc ls st0) rest (Qc As.toArray) free := by
  subst hst
  have hG : GoodIn wsL_law (va_wsS own idx z (wy_s z b n r)) := wy_app (fun w h => by
    simp only [List.mem_cons, List.not_mem_nil, or_false] at h
    rcases h with rfl | rfl | rfl
    · exact q.1
    · exact q.2.1
    · exact q.2.2.1) (wy_in q.2.2.2.1)
  exact va_runS (cx_F X) hM (va_cwS k (cx_w X) hG rfl h0.1 h0.2 q.2.2.2.2 hR) ⟨pc_blind, fun U hU hW => ⟨rfl, by rw [hU]; exact hPH, kk_warm hW (cx_K X)⟩⟩ rfl hk hl rfl (lv_room hW) hdg hc
theorem rn_N {host : String} (X : cx p s m args meth c cc nL ret own D y) (hM : Met l z (wy_s z b n r) rm (pc_R D y As PH) Qc mc ms free) (q : nq own idx z host b n r k) (h0 : rm.cells = mc ∧ rm.slots = ms) (hR : rm.frames + 1 ≤ R.frames ∧ 8 + (n + 11) + rm.locals ≤ R.locals)
    (hPH : PH H) (hk : As.length = k) (hl : ls.size = nL) (hst : st0 = As.reverse ++ rest) (hW : (rest.map fun v => v.category).sum ≤ 8) (hdg : decode cc pc = .ok (.invokestatic idx, 3)) (hc : cells + mc ≤ R.cells ∧ slots + ms ≤ R.slots) :
    va_Run p l e R s m args below meth c H locs cells slots mc ms (F0 m pc ls st0) rest (Qc As.toArray) free := by
  subst hst
  exact va_runSN (cx_F X) hM ⟨va_cnB k (cx_w X) (wy_in q.2.2.2.1) rfl h0.1 h0.2 ((cx_K X).2.1 _ q.1) (cx_w X _ q.2.2.1) q.2.2.2.2 hR, cx_w X _ q.2.1, trivial⟩ ⟨pc_blind, fun U hU hW => ⟨rfl, by rw [hU]; exact hPH, kk_warm hW (cx_K X)⟩⟩ rfl hk hl rfl (lv_room hW) hdg hc
/-- behind a call of a reader -/
theorem af_R {x : Int32} {arr : Array Value} (h : va_Run p l e R s m args below meth c H locs cells slots 0 0 (F0 m pc ls st0) rest (qc_R x arr) (fun _ => False))
    (kk : W p l e R s m args below meth c H locs cells slots Q (F0 m (pc + 3) ls (.int x :: rest))) : W p l e R s m args below meth c H locs cells slots Q (F0 m pc ls st0) :=
  vp_callSi h.run (fun r e => by subst e; exact kk)
/-- behind a call of a writer -/
theorem af_W {A0 A1 : Nat → Prop} {H0 : Heap} {ov : Option Value} {PH1 : Heap → Prop} {arr : Array Value} (h : va_Run p l e R s m args below meth c H locs cells slots mc ms (F0 m pc ls st0) rest (qc_W ov PH1 A1 arr) A1) (hS : va_S A0 H0 H locs) (hA : ∀ q, A1 q → A0 q)
    (kk : ∀ (H1 : Heap) (locs1 : List Loc), PH1 H1 → H.size ≤ H1.size → (∀ q : Nat, q < H.size → ¬ A1 q → H1[q]? = H[q]?) → va_S A0 H0 H1 locs1 → W p l e R s m args below meth c H1 locs1 (cells + mc) (slots + ms) Q (F0 m (pc + 3) ls (ov.toList ++ rest))) : W p l e R s m args below meth c H locs cells slots Q (F0 m pc ls st0) := by
  intro T hT X
  obtain ⟨v, st₀, t, T', L, h0, X', hL, e1, e2, ⟨hv, hb, hz, hk⟩, st⟩ := h T hT X
  cases hv
  rw [h0] at hz hk
  obtain ⟨t2, a1, b1⟩ := kk T'.heap (locs ++ L) (by rw [e1]; exact hb) (by rw [e1]; exact hz) (fun q h1 h2 => by rw [e1]; exact hk q h1 h2)
    ⟨Nat.le_trans hS.1 (by rw [e1]; exact hz), fun q h1 h2 => by rw [e1, hk q (Nat.lt_of_lt_of_le h1 hS.1) (fun z => h2 (hA q z))]; exact hS.2.1 q h1 h2, fun q hq => by
      rcases List.mem_append.mp hq with h | h
      · exact hS.2.2 q h
      · exact hA _ (hL q h)⟩ T' rfl X'
  exact ⟨t2, st t2 a1, b1⟩
end CALLS
/-- a contract out of a walk: a method that only reads -/
theorem met_R {l : Launch} {z : MethodName} {b : ByteArray} {n : Nat} {ret : Option FieldType} {rm : Room} {D : va_G} {y : Nat → ClassId} {av : List Value} {PH : Heap → Prop} {x : Int32} (hz : plainName z.cls = true) (hn : (lg_sl av).length ≤ n)
    (h : ∀ (p : Program) (e : Env) (s : State) (m : MethodId) (args : Array Value) (below : List Frame) (meth : Method) (c : Code), cx p s m args meth c b n ret z.cls D y → PH s.heap → ∀ ls, lv_has ls n (lv_args 0 av) → gr p l e rm s m args below meth c x (F0 m 0 ls [])) :
    Met l z (wy_s z b n ret) rm (pc_R D y av PH) (qc_R x) 0 0 (fun _ => False) := by
  refine Met.ofW (cc := b) (maxL := n) (ret := ret) hz rfl ?_
  intro p e s m args below meth c s₁ B hml hv
  obtain ⟨rfl, hP, hK⟩ := hv
  have hts := atoms_spec (ws := wy_s z b n ret) B.pre
  have hl := lv_entry av (n := n) hn
  rw [lg_entry_eq]
  exact h p e s m _ below meth c ⟨B.exec, B.bytes, hml, findClass_of_methodNamed B.named, fun w hw => hts w (List.mem_cons_of_mem _ hw), hK, B.returns, B.notSynchronized⟩ hP _ hl
/-- a contract out of a walk: a method that writes -/
theorem met_W {l : Launch} {z : MethodName} {b : ByteArray} {n : Nat} {ret : Option FieldType} {rm : Room} {D : va_G} {y : Nat → ClassId} {av : List Value} {PH PH1 : Heap → Prop} {ov : Option Value} {A : Nat → Prop} {mc ms : Nat} (hz : plainName z.cls = true) (hn : (lg_sl av).length ≤ n)
    (h : ∀ (p : Program) (e : Env) (s : State) (m : MethodId) (args : Array Value) (below : List Frame) (meth : Method) (c : Code), cx p s m args meth c b n ret z.cls D y → (meth.name = z.name) → PH s.heap → ∀ ls, lv_has ls n (lv_args 0 av) → W p l e rm s m args below meth c s.heap [] 0 0 (MQ below (qc_W ov PH1 A) args s mc ms A) (F0 m 0 ls [])) :
    Met l z (wy_s z b n ret) rm (pc_R D y av PH) (qc_W ov PH1 A) mc ms A := by
  refine Met.ofW (cc := b) (maxL := n) (ret := ret) hz rfl ?_
  intro p e s m args below meth c s₁ B hml hv
  obtain ⟨rfl, hP, hK⟩ := hv
  have hts := atoms_spec (ws := wy_s z b n ret) B.pre
  have hl := lv_entry av (n := n) hn
  rw [lg_entry_eq]
  exact h p e s m _ below meth c ⟨B.exec, B.bytes, hml, findClass_of_methodNamed B.named, fun w hw => hts w (List.mem_cons_of_mem _ hw), hK, B.returns, B.notSynchronized⟩ (name_of_methodNamed B.named B.method).1 hP _ hl
