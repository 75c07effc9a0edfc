/-! A logic of my own over the kit's W: the heap is seen as a pure store. A cell of the store: an array (number of its kind, its places) or an object (number of its class, its fields). The store: cells by address, and the next free address. Everything below speaks of am_cl (classes), am_ak (kinds of arrays), am_wz (words), am_nF, am_nM, am_nC, am_nO (words that the calls can't carry), which part 01 gives. -/
abbrev am_K : Type := (Nat × List Value) ⊕ (Nat × List Value)
/-- cells by address, each with a ghost tag (0: never written again); the next free address; how many slots were made -/
abbrev am_S : Type := (Nat → Option (Nat × am_K)) × Nat × Nat
/-- fixed for a run: the launch, the layout of objects, the classes of arrays, the heap at the start, what static fields hold, the class object of Object[], and which arrays were there at the start -/
abbrev am_G : Type := Launch × va_G × (Nat → ClassId) × Heap × List (String × String × String × Value) × Nat × List (Nat × Nat)
abbrev am_G.lay (g : am_G) : va_G := g.2.1
abbrev am_G.arr (g : am_G) : Nat → ClassId := g.2.2.1
abbrev am_G.old (g : am_G) : Heap := g.2.2.2.1
abbrev am_G.sta (g : am_G) : List (String × String × String × Value) := g.2.2.2.2.1
abbrev am_G.mir (g : am_G) : Nat := g.2.2.2.2.2.1
abbrev am_G.ods (g : am_G) : List (Nat × Nat) := g.2.2.2.2.2.2
def am_cell (cA : ClassId) (vs : List Value) : Cell := { cls := cA, slots := vs.toArray, vm := .none }
/-- an array that was there at the start and is as it was -/
def am_od (g : am_G) (a : Nat) (r : Nat × List Value) (H : Heap) : Prop := a < g.old.size ∧ (a, r.1) ∈ g.ods ∧ ∃ cell : Cell, g.old[a]? = some cell ∧ H[a]? = some cell ∧ cell.slots = r.2.toArray
def am_at (g : am_G) (a : Nat) (x : am_K) (H : Heap) : Prop := match x with
  | .inl r => H[a]? = some (am_cell (g.arr r.1) r.2) ∨ am_od g a r H
  | .inr o => ∃ q : vw_C, am_cl[o.1]? = some q ∧ o.2.length = q.2.2 ∧ t_OB a (g.lay.1 o.1) q.2.2 (g.lay.2 o.1) H (vp_V o.2)
def am_R (g : am_G) (S : am_S) (H : Heap) : Prop := H.size = S.2.1 ∧ g.old.size ≤ H.size ∧ (∀ q : Nat, q < g.old.size → H[q]? = g.old[q]?) ∧ (∀ (a t : Nat) (x : am_K), S.1 a = some (t, x) → am_at g a x H) ∧ ∀ (a t : Nat) (x : am_K), S.1 a = some (t, x) → t ≠ 0 → g.old.size ≤ a
def am_up (S : am_S) (a t : Nat) (x : am_K) : am_S := (fun q => if q = a then some (t, x) else S.1 q, S.2)
def am_mk (S : am_S) (t z : Nat) (x : am_K) : am_S := (fun q => if q = S.2.1 then some (t, x) else S.1 q, S.2.1 + 1, S.2.2 + z)
theorem am_up_at (S : am_S) (a t : Nat) (x : am_K) : (am_up S a t x).1 a = some (t, x) := by simp [am_up]
theorem am_up_ne (S : am_S) {a q : Nat} (t : Nat) (x : am_K) (h : q ≠ a) : (am_up S a t x).1 q = S.1 q := by simp [am_up, h]
theorem am_mk_at (S : am_S) (t z : Nat) (x : am_K) : (am_mk S t z x).1 S.2.1 = some (t, x) := by simp [am_mk]
theorem am_mk_ne (S : am_S) {q : Nat} (t z : Nat) (x : am_K) (h : q ≠ S.2.1) : (am_mk S t z x).1 q = S.1 q := by simp [am_mk, h]
theorem am_at.lt {g : am_G} {a : Nat} {x : am_K} {H : Heap} (h : am_at g a x H) : a < H.size := by
  cases x with
  | inl r =>
    rcases h with h | ⟨-, -, cell, -, h, -⟩
    · exact (Array.getElem?_eq_some_iff.mp h).1
    · exact (Array.getElem?_eq_some_iff.mp h).1
  | inr o =>
    obtain ⟨q, -, -, cell, h1, -⟩ := h
    exact (Array.getElem?_eq_some_iff.mp h1).1
theorem am_at.kept {g : am_G} {a : Nat} {x : am_K} {H H1 : Heap} (h : am_at g a x H) (e : H1[a]? = H[a]?) : am_at g a x H1 := by
  cases x with
  | inl r =>
    rcases h with h | ⟨h1, h2, cell, h3, h4, h5⟩
    · exact Or.inl (e.trans h)
    · exact Or.inr ⟨h1, h2, cell, h3, e.trans h4, h5⟩
  | inr o =>
    obtain ⟨q, h1, h2, h3⟩ := h
    exact ⟨q, h1, h2, h3.kept e⟩
/-- one cell has changed -/
theorem am_R.put {g : am_G} {S : am_S} {H H1 : Heap} {a : Nat} (t : Nat) {x : am_K} (h : am_R g S H) (ha : g.old.size ≤ a) (z : H1.size = H.size) (hq : ∀ q : Nat, q ≠ a → H1[q]? = H[q]?) (hx : am_at g a x H1) : am_R g (am_up S a t x) H1 := by
  obtain ⟨h1, h2, h3, h4, h5⟩ := h
  refine ⟨by rw [z]; exact h1, by rw [z]; exact h2, fun q hl => ?_, fun q u y hy => ?_, fun q u y hy hu => ?_⟩
  · rw [hq q (by omega)]; exact h3 q hl
  · by_cases e : q = a
    · subst e
      rw [am_up_at] at hy
      cases hy
      exact hx
    · rw [am_up_ne S t x e] at hy
      exact (h4 q u y hy).kept (hq q e)
  · by_cases e : q = a
    · subst e; exact ha
    · rw [am_up_ne S t x e] at hy
      exact h5 q u y hy hu
/-- one cell is new -/
theorem am_R.push {g : am_G} {S : am_S} {H H1 : Heap} (t n : Nat) {x : am_K} (h : am_R g S H) (z : H1.size = H.size + 1) (hq : ∀ q : Nat, q < H.size → H1[q]? = H[q]?) (hx : am_at g S.2.1 x H1) : am_R g (am_mk S t n x) H1 := by
  obtain ⟨h1, h2, h3, h4, h5⟩ := h
  refine ⟨by rw [z, h1]; rfl, by omega, fun q hl => ?_, fun q u y hy => ?_, fun q u y hy hu => ?_⟩
  · rw [hq q (by omega)]; exact h3 q hl
  · by_cases e : q = S.2.1
    · subst e
      rw [am_mk_at] at hy
      cases hy
      exact hx
    · rw [am_mk_ne S t n x e] at hy
      exact (h4 q u y hy).kept (hq q (h4 q u y hy).lt)
  · by_cases e : q = S.2.1
    · subst e; rw [← h1]; exact h2
    · rw [am_mk_ne S t n x e] at hy
      exact h5 q u y hy hu
/-- another tag -/
theorem am_R.tag {g : am_G} {S : am_S} {H : Heap} {a t : Nat} (t' : Nat) {x : am_K} (h : am_R g S H) (ha : S.1 a = some (t, x)) (ht : t ≠ 0) : am_R g (am_up S a t' x) H :=
  h.put t' (h.2.2.2.2 a t x ha ht) rfl (fun _ _ => rfl) (h.2.2.2.1 a t x ha)
/-- the arrays of the start are arrays -/
def am_TO (g : am_G) (U : State) : Prop := ∀ (a t : Nat) (cell : Cell) (ty : FieldType), (a, t) ∈ g.ods → g.old[a]? = some cell → am_ak[t]? = some ty → U.isArrayOf cell ty ∧ cell.vm ≠ .unknown
theorem am_TO.moved {g : am_G} {u U : State} (hvm : u.vm.Alike U.vm) (h : am_TO g u) : am_TO g U := fun a t cell ty h1 h2 h3 => ⟨State.isArrayOf_alike hvm (h a t cell ty h1 h2 h3).1, (h a t cell ty h1 h2 h3).2⟩
/-- what is known of the tables at a state -/
def am_T (g : am_G) (U : State) : Prop :=
  (∀ w ∈ am_wz, va_Nw w U) ∧ (∀ x ∈ am_nF, va_Nw (.fieldLinkNest x.1 x.2.1 x.2.2.1 x.2.2.2.1 x.2.2.2.2.1 x.2.2.2.2.2) U) ∧ (∀ x ∈ am_nM, va_Nw (.methodLinkNest x.1 x.2.1 x.2.2.1 x.2.2.2) U) ∧ (∀ x ∈ am_nC, va_Nw (.castable x.1 x.2) U) ∧ (∀ x ∈ am_nO, va_AO x U) ∧
  (∀ (c : Nat) (q : vw_C), am_cl[c]? = some q → u_Kn U q.1 q.2.1 q.2.2 (g.lay.1 c) (g.lay.2 c)) ∧ (∀ (t : Nat) (ty : FieldType), am_ak[t]? = some ty → ArrOfT U (g.arr t) ty ∧ va_RA U (g.arr t) ty) ∧
  (∀ x ∈ g.sta, va_Z x.1 x.2.1 x.2.2.1 x.2.2.2 (fun q => g.old.size ≤ q) U g.old) ∧ va_Mi "[Ljava/lang/Object;" g.mir U ∧ va_Dc U ∧ am_TO g U
theorem am_T.warm {g : am_G} {s U : State} (hW : s.WarmedH U.vm) (h : am_T g s) : am_T g U := by
  obtain ⟨h1, h2, h3, h4, h5, h6, h7, h8, h9, h10⟩ := h
  refine ⟨fun w hw => ?_, fun x hx => (h2 x hx).warmF hW, fun x hx => (h3 x hx).warmM hW, fun x hx => (h4 x hx).warmC hW, fun x hx => (h5 x hx).moved hW.alike, fun c q hc => u_Kn_moved hW.alike (h6 c q hc), fun t ty ht => ⟨arrOfT_moved hW.alike (h7 t ty ht).1, (h7 t ty ht).2.moved hW.alike⟩, fun x hx => (h8 x hx).moved hW.alike, h9.moved hW.alike, h10.1.moved hW.alike, h10.2.moved hW.alike⟩
  exact word_at (args := #[]) (a' := #[]) hW (Or.inl (am_wz_good w hw)) (h1 w hw)
theorem am_T.calling {g : am_G} {U : State} (h : am_T g U) (f : JFrame) (mk : MethodId) (a : Array Value) : am_T g (U.calling f mk a) := by
  obtain ⟨h1, h2, h3, h4, h5, h6, h7, h8, h9, h10⟩ := h
  have hA : U.vm.Alike (U.calling f mk a).vm := Vm.Alike.refl U.vm
  refine ⟨fun w hw => ?_, fun x hx => va_Nw.same rfl rfl (h2 x hx), fun x hx => va_Nw.same rfl rfl (h3 x hx), fun x hx => va_Nw.same rfl rfl (h4 x hx), fun x hx => (h5 x hx).moved hA, fun c q hc => u_Kn_moved hA (h6 c q hc), fun t ty ht => ⟨arrOfT_moved hA (h7 t ty ht).1, (h7 t ty ht).2.moved hA⟩, fun x hx => (h8 x hx).moved hA, h9.moved hA, h10.1.moved hA, h10.2.moved hA⟩
  have hg := am_wz_good w hw
  simp only [Bool.and_eq_true] at hg
  exact va_Nw.same (u := U) hg.1 rfl (h1 w hw)
theorem am_T.word {g : am_G} {s : State} (h : am_T g s) (args : Array Value) {w : Cond} (hw : w ∈ am_wz) : w.before args s = true := by
  have hg := am_wz_good w hw
  simp only [Bool.and_eq_true] at hg
  exact va_Nw.use hg.1 (h.1 w hw)
/-! locals: a list, a place for each -/
def am_L (ls : Array Slot) (nL : Nat) (L : List (Option Value)) : Prop := ls.size = nL ∧ lv_wf ls ∧ L.length = nL ∧ ∀ (i : Nat) (v : Value), L[i]? = some (some v) → ls[i]? = some (.val v) ∧ v.category = 1
def am_al (L : List (Option Value)) : List (Nat × Value) := (List.range L.length).filterMap (fun j => (L[j]?.join).map (fun v => (j, v)))
theorem am_al_mem {L : List (Option Value)} {j : Nat} {v : Value} : (j, v) ∈ am_al L ↔ L[j]? = some (some v) := by
  unfold am_al
  rw [List.mem_filterMap]
  constructor
  · rintro ⟨i, -, h⟩
    rw [Option.map_eq_some_iff] at h
    obtain ⟨w, h1, h2⟩ := h
    have e1 : i = j := congrArg Prod.fst h2
    have e2 : w = v := congrArg Prod.snd h2
    subst e1
    subst e2
    cases h3 : L[i]? with
    | none => rw [h3] at h1; cases h1
    | some o => rw [h3] at h1; exact congrArg some h1
  · intro h
    refine ⟨j, List.mem_range.mpr (List.getElem?_eq_some_iff.mp h).1, ?_⟩
    rw [h]; rfl
theorem am_L.has {ls : Array Slot} {nL : Nat} {L : List (Option Value)} (h : am_L ls nL L) : lv_has ls nL (am_al L) :=
  ⟨h.1, h.2.1, fun q hq => (h.2.2.2 q.1 q.2 (am_al_mem.mp hq)).1⟩
theorem am_L.st {ls ls' : Array Slot} {nL : Nat} {L : List (Option Value)} {i : Nat} {v : Value} (h : am_L ls nL L) (hi : i < nL) (hc : v.category = 1)
    (h' : lv_has ls' nL ((i, v) :: (am_al L).filter (fun q => !(q.1 == i) && !(q.1 + 1 == i && q.2.category == 2)))) : am_L ls' nL (L.set i (some v)) := by
  refine ⟨h'.1, h'.2.1, by rw [List.length_set]; exact h.2.2.1, fun j w hj => ?_⟩
  by_cases e : j = i
  · subst e
    rw [List.getElem?_set_self (by rw [h.2.2.1]; exact hi)] at hj
    cases hj
    exact ⟨h'.2.2 (j, v) List.mem_cons_self, hc⟩
  · rw [List.getElem?_set_ne (Ne.symm e)] at hj
    have hw := (h.2.2.2 j w hj).2
    refine ⟨h'.2.2 (j, w) (List.mem_cons_of_mem _ (List.mem_filter.mpr ⟨am_al_mem.mpr hj, ?_⟩)), hw⟩
    simp [e, hw]
/-- a reference or null -/
def am_rv (v : Value) : Prop := v = .null ∨ ∃ a, v = .ref a
theorem am_rvN : am_rv .null := Or.inl rfl
theorem am_rvR (a : Nat) : am_rv (.ref a) := Or.inr ⟨a, rfl⟩
/-- the end of a method -/
def am_Q (g : am_G) (v : Option Value) (S' : am_S) : Array Value → State → Outcome → State → Prop := fun _ _ o t => o = .returned v ∧ am_R g S' t.heap
/-- a method's constants: class, name, code, locals, answer -/
abbrev am_N : Type := String × String × ByteArray × Nat × Option FieldType
/-- all that a row knows: hexec, code, maxLocals, answer, no lock, own class, name; the tables; the budgets; what was written; the store; the locals -/
def am_Y (g : am_G) (y : am_N) (k n : Nat) (L : List (Option Value)) (S : am_S) (p : Program) (s : State) (m : MethodId) (meth : Method) (c : Code) (H : Heap) (locs : List Loc) (cells slots mc ms : Nat) (ls : Array Slot) : Prop :=
  p.tables.exec = Jvm.exec ∧ c.code = y.2.2.1 ∧ c.maxLocals = y.2.2.2.1 ∧ meth.sig.returnType = y.2.2.2.2 ∧ meth.locks = false ∧ s.vm.findClass y.1 = some m.cls ∧ meth.name = y.2.1 ∧ am_T g s ∧ cells + k ≤ mc ∧ slots + n ≤ ms ∧ (∀ q ∈ locs, g.old.size ≤ q.base) ∧ am_R g S H ∧ am_L ls y.2.2.2.1 L
/-- from here the method ends with this answer and this store, within k cells and n slots -/
def am_V (g : am_G) (y : am_N) (d lo k n : Nat) (v : Option Value) (S' : am_S) (pc : Nat) (L : List (Option Value)) (st : List Value) (S : am_S) : Prop :=
  ∀ (p : Program) (e : Env) (s : State) (m : MethodId) (args : Array Value) (below : List Frame) (meth : Method) (c : Code) (H : Heap) (locs : List Loc) (cells slots mc ms : Nat) (ls : Array Slot), am_Y g y k n L S p s m meth c H locs cells slots mc ms ls →
    W p g.1 e { frames := d, cells := mc, slots := ms, locals := lo } s m args below meth c H locs cells slots (MQ below (am_Q g v S') args s mc ms (fun q => g.old.size ≤ q)) (F0 m pc ls st)
/-- a method's contract at these arguments and this store: this answer, this store, within k cells and n slots -/
def am_N0 (g : am_G) (y : am_N) (desc : String) (d lo k n : Nat) (vs : List Value) (S : am_S) (v : Option Value) (S' : am_S) : Prop :=
  Met g.1 ⟨y.1, y.2.1, desc⟩ [.code ⟨y.1, y.2.1, desc⟩ y.2.2.1 y.2.2.2.1 y.2.2.2.2] { frames := d, cells := k, slots := n, locals := lo } (va_Pc vs (fun U => am_T g U ∧ am_R g S U.heap)) (am_Q g v S') k n (fun q => g.old.size ≤ q)
/-- the judgement: from here the method ends, with 'post' of its answer and of the store; what it makes is what the store's counters say -/
def am_W (g : am_G) (y : am_N) (d lo : Nat) (post : Option Value → am_S → Prop) (pc : Nat) (L : List (Option Value)) (st : List Value) (S : am_S) : Prop :=
  ∃ (v : Option Value) (S' : am_S), S.2.1 ≤ S'.2.1 ∧ S.2.2 ≤ S'.2.2 ∧ am_V g y d lo (S'.2.1 - S.2.1) (S'.2.2 - S.2.2) v S' pc L st S ∧ post v S'
def am_M (g : am_G) (y : am_N) (desc : String) (d lo : Nat) (vs : List Value) (S : am_S) (post : Option Value → am_S → Prop) : Prop :=
  ∃ (v : Option Value) (S' : am_S), S.2.1 ≤ S'.2.1 ∧ S.2.2 ≤ S'.2.2 ∧ am_N0 g y desc d lo (S'.2.1 - S.2.1) (S'.2.2 - S.2.2) vs S v S' ∧ post v S'
/-- the locals as a method begins -/
def am_L0 (vs : List Value) (nL : Nat) : List (Option Value) := vs.map some ++ List.replicate (nL - vs.length) none
theorem am_L.entry (vs : List Value) {nL : Nat} (hc : ∀ v ∈ vs, v.category = 1) (h : vs.length ≤ nL) : am_L ((vs.map Slot.val ++ List.replicate (nL - vs.length) Slot.unset).toArray) nL (am_L0 vs nL) := by
  have e : lg_sl vs = vs.map Slot.val := by
    unfold lg_sl
    induction vs with
    | nil => rfl
    | cons v vs ih =>
      have h1 : ¬ v.category = 2 := by rw [hc v List.mem_cons_self]; decide
      rw [List.flatMap_cons, if_neg h1, ih (fun w hw => hc w (List.mem_cons_of_mem _ hw)) (by simp at h; omega)]
      rfl
  have hl : (lg_sl vs).length ≤ nL := by rw [e, List.length_map]; exact h
  obtain ⟨h1, h2, -⟩ := lv_entry vs hl
  rw [e, List.length_map] at h1 h2
  refine ⟨h1, h2, by simp [am_L0]; omega, fun i v hi => ?_⟩
  unfold am_L0 at hi
  by_cases hlt : i < vs.length
  · rw [List.getElem?_append_left (by simpa using hlt), List.getElem?_map] at hi
    cases hv : vs[i]? with
    | none => rw [hv] at hi; cases hi
    | some w =>
      rw [hv] at hi
      cases hi
      refine ⟨?_, hc _ (List.mem_of_getElem? hv)⟩
      rw [List.getElem?_toArray, List.getElem?_append_left (by simpa using hlt), List.getElem?_map, hv]
      rfl
  · rw [List.getElem?_append_right (by simpa using Nat.not_lt.mp hlt)] at hi
    have := List.mem_of_getElem? hi
    rw [List.mem_replicate] at this
    cases this.2
theorem am_M.of {g : am_G} {y : am_N} {desc : String} {d lo : Nat} {vs : List Value} {S : am_S} {post : Option Value → am_S → Prop} (hy : plainName y.1 = true) (hc : ∀ v ∈ vs, v.category = 1) (hl : vs.length ≤ y.2.2.2.1)
    (h : am_W g y d lo post 0 (am_L0 vs y.2.2.2.1) [] S) : am_M g y desc d lo vs S post := by
  obtain ⟨v, S', h1, h2, h3, h4⟩ := h
  refine ⟨v, S', h1, h2, ?_, h4⟩
  unfold am_N0
  refine Met.ofW (cc := y.2.2.1) (maxL := y.2.2.2.1) (ret := y.2.2.2.2) hy rfl ?_
  intro p e s m args below meth c s₁ B hml hv
  obtain ⟨rfl, hT, hR⟩ := hv
  rw [entry_eq m vs hc]
  exact h3 p e s m _ below meth c s.heap [] 0 0 _ _ _ ⟨B.exec, B.bytes, hml, B.returns, B.notSynchronized, findClass_of_methodNamed B.named, (name_of_methodNamed B.named B.method).1, hT, by omega, by omega, (fun _ h => by cases h), hR, am_L.entry vs hc hl⟩
theorem am_M.post {g : am_G} {y : am_N} {desc : String} {d lo : Nat} {vs : List Value} {S : am_S} {post post' : Option Value → am_S → Prop} (hp : ∀ v S', post v S' → post' v S') (h : am_M g y desc d lo vs S post) : am_M g y desc d lo vs S post' := by
  obtain ⟨v, S', h1, h2, h3, h4⟩ := h
  exact ⟨v, S', h1, h2, h3, hp v S' h4⟩
section AML
variable {g : am_G} {y : am_N} {d lo : Nat} {post post' : Option Value → am_S → Prop} {pc pc1 : Nat} {L L1 : List (Option Value)} {st st1 : List Value} {S S1 : am_S}
theorem am_post (hp : ∀ v S', post v S' → post' v S') (h : am_W g y d lo post pc L st S) : am_W g y d lo post' pc L st S := by
  obtain ⟨v, S', h1, h2, h3, h4⟩ := h
  exact ⟨v, S', h1, h2, h3, hp v S' h4⟩
/-- a row that makes nothing -/
theorem am_lift (e : S1.2 = S.2) (f : ∀ k n v S', am_V g y d lo k n v S' pc1 L1 st1 S1 → am_V g y d lo k n v S' pc L st S) (h : am_W g y d lo post pc1 L1 st1 S1) : am_W g y d lo post pc L st S := by
  obtain ⟨v, S', h1, h2, h3, h4⟩ := h
  rw [e] at h1 h2 h3
  exact ⟨v, S', h1, h2, f _ _ _ _ h3, h4⟩
/-- a row that makes a cell of z slots -/
theorem am_liftN {z : Nat} (e1 : S1.2.1 = S.2.1 + 1) (e2 : S1.2.2 = S.2.2 + z) (f : ∀ k n v S', am_V g y d lo k n v S' pc1 L1 st1 S1 → am_V g y d lo (k + 1) (n + z) v S' pc L st S) (h : am_W g y d lo post pc1 L1 st1 S1) : am_W g y d lo post pc L st S := by
  obtain ⟨v, S', h1, h2, h3, h4⟩ := h
  have h5 := f _ _ _ _ h3
  have a1 : S'.2.1 - S1.2.1 + 1 = S'.2.1 - S.2.1 := by omega
  have a2 : S'.2.2 - S1.2.2 + z = S'.2.2 - S.2.2 := by omega
  rw [a1, a2] at h5
  exact ⟨v, S', by omega, by omega, h5, h4⟩
/-- the end -/
theorem am_end {v : Option Value} (h : am_V g y d lo 0 0 v S pc L st S) (hp : post v S) : am_W g y d lo post pc L st S := by
  refine ⟨v, S, Nat.le_refl _, Nat.le_refl _, ?_, hp⟩
  rw [Nat.sub_self, Nat.sub_self]
  exact h
/-- what is forgotten of the locals -/
theorem am_drop (hl : L1.length = L.length) (hL : ∀ (i : Nat) (v : Value), L1[i]? = some (some v) → L[i]? = some (some v)) (h : am_W g y d lo post pc L1 st S) : am_W g y d lo post pc L st S := by
  refine am_lift rfl (fun k n v S' h => ?_) h
  intro p e s m args below meth c H locs cells slots mc ms ls Y
  obtain ⟨y1, y2, y3, y4, y5, y6, y7, y8, y9, y10, y11, y12, z1, z2, z3, z4⟩ := Y
  exact h p e s m args below meth c H locs cells slots mc ms ls ⟨y1, y2, y3, y4, y5, y6, y7, y8, y9, y10, y11, y12, z1, z2, by rw [hl]; exact z3, fun i v hi => z4 i v (hL i v hi)⟩
/-- a cell gets another tag -/
theorem am_retag {a t : Nat} {x : am_K} (t' : Nat) (ha : S.1 a = some (t, x)) (ht : t ≠ 0) (h : am_W g y d lo post pc L st (am_up S a t' x)) : am_W g y d lo post pc L st S := by
  refine am_lift (S1 := am_up S a t' x) rfl (fun k n v S' h => ?_) h
  intro p e s m args below meth c H locs cells slots mc ms ls Y
  obtain ⟨y1, y2, y3, y4, y5, y6, y7, y8, y9, y10, y11, y12, z⟩ := Y
  exact h p e s m args below meth c H locs cells slots mc ms ls ⟨y1, y2, y3, y4, y5, y6, y7, y8, y9, y10, y11, y12.tag t' ha ht, z⟩
end AML
/-- the instruction at a place, its length, and the place behind it -/
def am_D (c : ByteArray) (pc : Nat) (i : Instr) (len pc1 : Nat) : Prop := decode c pc = .ok (i, len) ∧ pc + len = pc1
section AMR
variable {g : am_G} {y : am_N} {d lo : Nat} {post : Option Value → am_S → Prop} {pc pc1 : Nat} {L L1 : List (Option Value)} {st : List Value} {S : am_S}
theorem am_iconst {z : Int} {v : Int32} (hd : am_D y.2.2.1 pc (.iconst z) 1 pc1) (hv : Int32.ofInt z = v) (h : am_W g y d lo post pc1 L (.int v :: st) S) : am_W g y d lo post pc L (st) S := by
  obtain ⟨hd, rfl⟩ := hd
  refine am_lift rfl (fun k n rv RS h => ?_) h
  intro p e s m args below meth c H locs cells slots mc ms ls Y
  exact lv_iconst Y.1 Y.2.1 hd hv (h p e s m args below meth c H locs cells slots mc ms ls Y)
theorem am_bipush {z : Int} {v : Int32} (hd : am_D y.2.2.1 pc (.bipush z) 2 pc1) (hv : (Int8.ofInt z).toInt32 = v) (h : am_W g y d lo post pc1 L (.int v :: st) S) : am_W g y d lo post pc L (st) S := by
  obtain ⟨hd, rfl⟩ := hd
  refine am_lift rfl (fun k n rv RS h => ?_) h
  intro p e s m args below meth c H locs cells slots mc ms ls Y
  exact lv_bipush Y.1 Y.2.1 hd hv (h p e s m args below meth c H locs cells slots mc ms ls Y)
theorem am_sipush {z : Int} {v : Int32} (hd : am_D y.2.2.1 pc (.sipush z) 3 pc1) (hv : (Int16.ofInt z).toInt32 = v) (h : am_W g y d lo post pc1 L (.int v :: st) S) : am_W g y d lo post pc L (st) S := by
  obtain ⟨hd, rfl⟩ := hd
  refine am_lift rfl (fun k n rv RS h => ?_) h
  intro p e s m args below meth c H locs cells slots mc ms ls Y
  exact lv_sipush Y.1 Y.2.1 hd hv (h p e s m args below meth c H locs cells slots mc ms ls Y)
theorem am_null (hd : am_D y.2.2.1 pc (.aconst_null) 1 pc1) (h : am_W g y d lo post pc1 L (.null :: st) S) : am_W g y d lo post pc L (st) S := by
  obtain ⟨hd, rfl⟩ := hd
  refine am_lift rfl (fun k n rv RS h => ?_) h
  intro p e s m args below meth c H locs cells slots mc ms ls Y
  exact lv_null Y.1 Y.2.1 hd (h p e s m args below meth c H locs cells slots mc ms ls Y)
theorem am_iload_n {j : Fin 4} {x : Int32} (hd : am_D y.2.2.1 pc (.iload_n j) 1 pc1) (hl : L[(j : Nat)]? = some (some (.int x))) (h : am_W g y d lo post pc1 L (.int x :: st) S) : am_W g y d lo post pc L st S := by
  obtain ⟨hd, rfl⟩ := hd
  refine am_lift rfl (fun k n rv RS h => ?_) h
  intro p e s m args below meth c H locs cells slots mc ms ls Y
  exact lv_iload_n Y.1 Y.2.1 hd rfl (Y.2.2.2.2.2.2.2.2.2.2.2.2.2.2.2 _ _ hl).1 (h p e s m args below meth c H locs cells slots mc ms ls Y)
theorem am_iload {j : Nat} {x : Int32} (hd : am_D y.2.2.1 pc (.iload j) 2 pc1) (hl : L[j]? = some (some (.int x))) (h : am_W g y d lo post pc1 L (.int x :: st) S) : am_W g y d lo post pc L st S := by
  obtain ⟨hd, rfl⟩ := hd
  refine am_lift rfl (fun k n rv RS h => ?_) h
  intro p e s m args below meth c H locs cells slots mc ms ls Y
  exact lv_iload Y.1 Y.2.1 hd (Y.2.2.2.2.2.2.2.2.2.2.2.2.2.2.2 _ _ hl).1 (h p e s m args below meth c H locs cells slots mc ms ls Y)
theorem am_aload_n {j : Fin 4} {v : Value} (hd : am_D y.2.2.1 pc (.aload_n j) 1 pc1) (hl : L[(j : Nat)]? = some (some v)) (hv : am_rv v) (h : am_W g y d lo post pc1 L (v :: st) S) : am_W g y d lo post pc L st S := by
  obtain ⟨hd, rfl⟩ := hd
  refine am_lift rfl (fun k n rv RS h => ?_) h
  intro p e s m args below meth c H locs cells slots mc ms ls Y
  rcases hv with rfl | ⟨a, rfl⟩
  · exact lv_aload_nN Y.1 Y.2.1 hd rfl (Y.2.2.2.2.2.2.2.2.2.2.2.2.2.2.2 _ _ hl).1 (h p e s m args below meth c H locs cells slots mc ms ls Y)
  · exact lv_aload_n Y.1 Y.2.1 hd rfl (Y.2.2.2.2.2.2.2.2.2.2.2.2.2.2.2 _ _ hl).1 (h p e s m args below meth c H locs cells slots mc ms ls Y)
theorem am_aload {j : Nat} {v : Value} (hd : am_D y.2.2.1 pc (.aload j) 2 pc1) (hl : L[j]? = some (some v)) (hv : am_rv v) (h : am_W g y d lo post pc1 L (v :: st) S) : am_W g y d lo post pc L st S := by
  obtain ⟨hd, rfl⟩ := hd
  refine am_lift rfl (fun k n rv RS h => ?_) h
  intro p e s m args below meth c H locs cells slots mc ms ls Y
  rcases hv with rfl | ⟨a, rfl⟩
  · exact lv_aloadN Y.1 Y.2.1 hd (Y.2.2.2.2.2.2.2.2.2.2.2.2.2.2.2 _ _ hl).1 (h p e s m args below meth c H locs cells slots mc ms ls Y)
  · exact lv_aload Y.1 Y.2.1 hd (Y.2.2.2.2.2.2.2.2.2.2.2.2.2.2.2 _ _ hl).1 (h p e s m args below meth c H locs cells slots mc ms ls Y)
theorem am_istore_n {j : Fin 4} {x : Int32} (hd : am_D y.2.2.1 pc (.istore_n j) 1 pc1) (hj : (j : Nat) < y.2.2.2.1) (hL : L.set (j : Nat) (some (.int x)) = L1) (h : am_W g y d lo post pc1 L1 st S) : am_W g y d lo post pc L (.int x :: st) S := by
  obtain ⟨hd, rfl⟩ := hd
  subst hL
  refine am_lift rfl (fun k n rv RS h => ?_) h
  intro p e s m args below meth c H locs cells slots mc ms ls Y
  refine lv_istore_n Y.1 Y.2.1 hd rfl Y.2.2.2.2.2.2.2.2.2.2.2.2.has hj rfl (fun ls' h' => ?_)
  exact h p e s m args below meth c H locs cells slots mc ms ls' ⟨Y.1, Y.2.1, Y.2.2.1, Y.2.2.2.1, Y.2.2.2.2.1, Y.2.2.2.2.2.1, Y.2.2.2.2.2.2.1, Y.2.2.2.2.2.2.2.1, Y.2.2.2.2.2.2.2.2.1, Y.2.2.2.2.2.2.2.2.2.1, Y.2.2.2.2.2.2.2.2.2.2.1, Y.2.2.2.2.2.2.2.2.2.2.2.1, (Y.2.2.2.2.2.2.2.2.2.2.2.2.st hj rfl h')⟩
theorem am_istore {j : Nat} {x : Int32} (hd : am_D y.2.2.1 pc (.istore j) 2 pc1) (hj : j < y.2.2.2.1) (hL : L.set j (some (.int x)) = L1) (h : am_W g y d lo post pc1 L1 st S) : am_W g y d lo post pc L (.int x :: st) S := by
  obtain ⟨hd, rfl⟩ := hd
  subst hL
  refine am_lift rfl (fun k n rv RS h => ?_) h
  intro p e s m args below meth c H locs cells slots mc ms ls Y
  refine lv_istore Y.1 Y.2.1 hd Y.2.2.2.2.2.2.2.2.2.2.2.2.has hj rfl (fun ls' h' => ?_)
  exact h p e s m args below meth c H locs cells slots mc ms ls' ⟨Y.1, Y.2.1, Y.2.2.1, Y.2.2.2.1, Y.2.2.2.2.1, Y.2.2.2.2.2.1, Y.2.2.2.2.2.2.1, Y.2.2.2.2.2.2.2.1, Y.2.2.2.2.2.2.2.2.1, Y.2.2.2.2.2.2.2.2.2.1, Y.2.2.2.2.2.2.2.2.2.2.1, Y.2.2.2.2.2.2.2.2.2.2.2.1, (Y.2.2.2.2.2.2.2.2.2.2.2.2.st hj rfl h')⟩
theorem am_astore_n {j : Fin 4} {v : Value} (hd : am_D y.2.2.1 pc (.astore_n j) 1 pc1) (hj : (j : Nat) < y.2.2.2.1) (hv : am_rv v) (hL : L.set (j : Nat) (some v) = L1) (h : am_W g y d lo post pc1 L1 st S) : am_W g y d lo post pc L (v :: st) S := by
  obtain ⟨hd, rfl⟩ := hd
  subst hL
  refine am_lift rfl (fun k n rv RS h => ?_) h
  intro p e s m args below meth c H locs cells slots mc ms ls Y
  rcases hv with rfl | ⟨a, rfl⟩
  · refine lv_astore_nN Y.1 Y.2.1 hd rfl Y.2.2.2.2.2.2.2.2.2.2.2.2.has hj rfl (fun ls' h' => ?_)
    exact h p e s m args below meth c H locs cells slots mc ms ls' ⟨Y.1, Y.2.1, Y.2.2.1, Y.2.2.2.1, Y.2.2.2.2.1, Y.2.2.2.2.2.1, Y.2.2.2.2.2.2.1, Y.2.2.2.2.2.2.2.1, Y.2.2.2.2.2.2.2.2.1, Y.2.2.2.2.2.2.2.2.2.1, Y.2.2.2.2.2.2.2.2.2.2.1, Y.2.2.2.2.2.2.2.2.2.2.2.1, (Y.2.2.2.2.2.2.2.2.2.2.2.2.st hj rfl h')⟩
  · refine lv_astore_n Y.1 Y.2.1 hd rfl Y.2.2.2.2.2.2.2.2.2.2.2.2.has hj rfl (fun ls' h' => ?_)
    exact h p e s m args below meth c H locs cells slots mc ms ls' ⟨Y.1, Y.2.1, Y.2.2.1, Y.2.2.2.1, Y.2.2.2.2.1, Y.2.2.2.2.2.1, Y.2.2.2.2.2.2.1, Y.2.2.2.2.2.2.2.1, Y.2.2.2.2.2.2.2.2.1, Y.2.2.2.2.2.2.2.2.2.1, Y.2.2.2.2.2.2.2.2.2.2.1, Y.2.2.2.2.2.2.2.2.2.2.2.1, (Y.2.2.2.2.2.2.2.2.2.2.2.2.st hj rfl h')⟩
theorem am_astore {j : Nat} {v : Value} (hd : am_D y.2.2.1 pc (.astore j) 2 pc1) (hj : j < y.2.2.2.1) (hv : am_rv v) (hL : L.set j (some v) = L1) (h : am_W g y d lo post pc1 L1 st S) : am_W g y d lo post pc L (v :: st) S := by
  obtain ⟨hd, rfl⟩ := hd
  subst hL
  refine am_lift rfl (fun k n rv RS h => ?_) h
  intro p e s m args below meth c H locs cells slots mc ms ls Y
  rcases hv with rfl | ⟨a, rfl⟩
  · refine lv_astoreN Y.1 Y.2.1 hd Y.2.2.2.2.2.2.2.2.2.2.2.2.has hj rfl (fun ls' h' => ?_)
    exact h p e s m args below meth c H locs cells slots mc ms ls' ⟨Y.1, Y.2.1, Y.2.2.1, Y.2.2.2.1, Y.2.2.2.2.1, Y.2.2.2.2.2.1, Y.2.2.2.2.2.2.1, Y.2.2.2.2.2.2.2.1, Y.2.2.2.2.2.2.2.2.1, Y.2.2.2.2.2.2.2.2.2.1, Y.2.2.2.2.2.2.2.2.2.2.1, Y.2.2.2.2.2.2.2.2.2.2.2.1, (Y.2.2.2.2.2.2.2.2.2.2.2.2.st hj rfl h')⟩
  · refine lv_astore Y.1 Y.2.1 hd Y.2.2.2.2.2.2.2.2.2.2.2.2.has hj rfl (fun ls' h' => ?_)
    exact h p e s m args below meth c H locs cells slots mc ms ls' ⟨Y.1, Y.2.1, Y.2.2.1, Y.2.2.2.1, Y.2.2.2.2.1, Y.2.2.2.2.2.1, Y.2.2.2.2.2.2.1, Y.2.2.2.2.2.2.2.1, Y.2.2.2.2.2.2.2.2.1, Y.2.2.2.2.2.2.2.2.2.1, Y.2.2.2.2.2.2.2.2.2.2.1, Y.2.2.2.2.2.2.2.2.2.2.2.1, (Y.2.2.2.2.2.2.2.2.2.2.2.2.st hj rfl h')⟩
theorem am_iinc {j : Nat} {z : Int} {x v : Int32} (hd : am_D y.2.2.1 pc (.iinc j z) 3 pc1) (hl : L[j]? = some (some (.int x))) (hv : x + Int32.ofInt z = v) (hj : j < y.2.2.2.1) (hL : L.set j (some (.int v)) = L1) (h : am_W g y d lo post pc1 L1 st S) : am_W g y d lo post pc L st S := by
  obtain ⟨hd, rfl⟩ := hd
  subst hL
  refine am_lift rfl (fun k n rv RS h => ?_) h
  intro p e s m args below meth c H locs cells slots mc ms ls Y
  obtain ⟨i, hi⟩ := List.getElem?_of_mem (am_al_mem.mpr hl)
  refine lv_iinc Y.1 Y.2.1 hd Y.2.2.2.2.2.2.2.2.2.2.2.2.has hi hv hj rfl (fun ls' h' => ?_)
  exact h p e s m args below meth c H locs cells slots mc ms ls' ⟨Y.1, Y.2.1, Y.2.2.1, Y.2.2.2.1, Y.2.2.2.2.1, Y.2.2.2.2.2.1, Y.2.2.2.2.2.2.1, Y.2.2.2.2.2.2.2.1, Y.2.2.2.2.2.2.2.2.1, Y.2.2.2.2.2.2.2.2.2.1, Y.2.2.2.2.2.2.2.2.2.2.1, Y.2.2.2.2.2.2.2.2.2.2.2.1, (Y.2.2.2.2.2.2.2.2.2.2.2.2.st hj rfl h')⟩
theorem am_iadd {x z : Int32} (hd : am_D y.2.2.1 pc (.iadd) 1 pc1) (h : am_W g y d lo post pc1 L (.int (x + z) :: st) S) : am_W g y d lo post pc L (.int z :: .int x :: st) S := by
  obtain ⟨hd, rfl⟩ := hd
  refine am_lift rfl (fun k n rv RS h => ?_) h
  intro p e s m args below meth c H locs cells slots mc ms ls Y
  exact lv_iadd Y.1 Y.2.1 hd (h p e s m args below meth c H locs cells slots mc ms ls Y)
theorem am_isub {x z : Int32} (hd : am_D y.2.2.1 pc (.isub) 1 pc1) (h : am_W g y d lo post pc1 L (.int (x - z) :: st) S) : am_W g y d lo post pc L (.int z :: .int x :: st) S := by
  obtain ⟨hd, rfl⟩ := hd
  refine am_lift rfl (fun k n rv RS h => ?_) h
  intro p e s m args below meth c H locs cells slots mc ms ls Y
  exact lv_isub Y.1 Y.2.1 hd (h p e s m args below meth c H locs cells slots mc ms ls Y)
theorem am_imul {x z : Int32} (hd : am_D y.2.2.1 pc (.imul) 1 pc1) (h : am_W g y d lo post pc1 L (.int (x * z) :: st) S) : am_W g y d lo post pc L (.int z :: .int x :: st) S := by
  obtain ⟨hd, rfl⟩ := hd
  refine am_lift rfl (fun k n rv RS h => ?_) h
  intro p e s m args below meth c H locs cells slots mc ms ls Y
  exact lv_imul Y.1 Y.2.1 hd (h p e s m args below meth c H locs cells slots mc ms ls Y)
theorem am_iand {x z : Int32} (hd : am_D y.2.2.1 pc (.iand) 1 pc1) (h : am_W g y d lo post pc1 L (.int (x &&& z) :: st) S) : am_W g y d lo post pc L (.int z :: .int x :: st) S := by
  obtain ⟨hd, rfl⟩ := hd
  refine am_lift rfl (fun k n rv RS h => ?_) h
  intro p e s m args below meth c H locs cells slots mc ms ls Y
  exact lv_iand Y.1 Y.2.1 hd (h p e s m args below meth c H locs cells slots mc ms ls Y)
theorem am_ior {x z : Int32} (hd : am_D y.2.2.1 pc (.ior) 1 pc1) (h : am_W g y d lo post pc1 L (.int (x ||| z) :: st) S) : am_W g y d lo post pc L (.int z :: .int x :: st) S := by
  obtain ⟨hd, rfl⟩ := hd
  refine am_lift rfl (fun k n rv RS h => ?_) h
  intro p e s m args below meth c H locs cells slots mc ms ls Y
  exact lv_ior Y.1 Y.2.1 hd (h p e s m args below meth c H locs cells slots mc ms ls Y)
theorem am_ixor {x z : Int32} (hd : am_D y.2.2.1 pc (.ixor) 1 pc1) (h : am_W g y d lo post pc1 L (.int (x ^^^ z) :: st) S) : am_W g y d lo post pc L (.int z :: .int x :: st) S := by
  obtain ⟨hd, rfl⟩ := hd
  refine am_lift rfl (fun k n rv RS h => ?_) h
  intro p e s m args below meth c H locs cells slots mc ms ls Y
  exact lv_ixor Y.1 Y.2.1 hd (h p e s m args below meth c H locs cells slots mc ms ls Y)
theorem am_ishl {x z : Int32} (hd : am_D y.2.2.1 pc (.ishl) 1 pc1) (h : am_W g y d lo post pc1 L (.int (x <<< (z &&& 31)) :: st) S) : am_W g y d lo post pc L (.int z :: .int x :: st) S := by
  obtain ⟨hd, rfl⟩ := hd
  refine am_lift rfl (fun k n rv RS h => ?_) h
  intro p e s m args below meth c H locs cells slots mc ms ls Y
  exact lv_ishl Y.1 Y.2.1 hd (h p e s m args below meth c H locs cells slots mc ms ls Y)
theorem am_ishr {x z : Int32} (hd : am_D y.2.2.1 pc (.ishr) 1 pc1) (h : am_W g y d lo post pc1 L (.int (x >>> (z &&& 31)) :: st) S) : am_W g y d lo post pc L (.int z :: .int x :: st) S := by
  obtain ⟨hd, rfl⟩ := hd
  refine am_lift rfl (fun k n rv RS h => ?_) h
  intro p e s m args below meth c H locs cells slots mc ms ls Y
  exact lv_ishr Y.1 Y.2.1 hd (h p e s m args below meth c H locs cells slots mc ms ls Y)
theorem am_idiv {x z : Int32} (hd : am_D y.2.2.1 pc (.idiv) 1 pc1) (hz : ¬ z = 0) (h : am_W g y d lo post pc1 L (.int (x / z) :: st) S) : am_W g y d lo post pc L (.int z :: .int x :: st) S := by
  obtain ⟨hd, rfl⟩ := hd
  refine am_lift rfl (fun k n rv RS h => ?_) h
  intro p e s m args below meth c H locs cells slots mc ms ls Y
  exact lv_idiv Y.1 Y.2.1 hd hz (h p e s m args below meth c H locs cells slots mc ms ls Y)
theorem am_irem {x z : Int32} (hd : am_D y.2.2.1 pc (.irem) 1 pc1) (hz : ¬ z = 0) (h : am_W g y d lo post pc1 L (.int (x - x / z * z) :: st) S) : am_W g y d lo post pc L (.int z :: .int x :: st) S := by
  obtain ⟨hd, rfl⟩ := hd
  refine am_lift rfl (fun k n rv RS h => ?_) h
  intro p e s m args below meth c H locs cells slots mc ms ls Y
  exact lv_irem Y.1 Y.2.1 hd hz (h p e s m args below meth c H locs cells slots mc ms ls Y)
theorem am_iushr {x z v : Int32} (hd : am_D y.2.2.1 pc (.iushr) 1 pc1) (hv : (x.toUInt32 >>> (z.toUInt32 &&& Int32.toUInt32 31)).toInt32 = v) (h : am_W g y d lo post pc1 L (.int v :: st) S) : am_W g y d lo post pc L (.int z :: .int x :: st) S := by
  obtain ⟨hd, rfl⟩ := hd
  refine am_lift rfl (fun k n rv RS h => ?_) h
  intro p e s m args below meth c H locs cells slots mc ms ls Y
  exact lv_iushr Y.1 Y.2.1 hd hv (h p e s m args below meth c H locs cells slots mc ms ls Y)
theorem am_ineg {x : Int32} (hd : am_D y.2.2.1 pc (.ineg) 1 pc1) (h : am_W g y d lo post pc1 L (.int (-x) :: st) S) : am_W g y d lo post pc L (.int x :: st) S := by
  obtain ⟨hd, rfl⟩ := hd
  refine am_lift rfl (fun k n rv RS h => ?_) h
  intro p e s m args below meth c H locs cells slots mc ms ls Y
  exact lv_ineg Y.1 Y.2.1 hd (h p e s m args below meth c H locs cells slots mc ms ls Y)
theorem am_dup {v : Value} (hd : am_D y.2.2.1 pc (.dup) 1 pc1) (hv : v.category = 1) (h : am_W g y d lo post pc1 L (v :: v :: st) S) : am_W g y d lo post pc L (v :: st) S := by
  obtain ⟨hd, rfl⟩ := hd
  refine am_lift rfl (fun k n rv RS h => ?_) h
  intro p e s m args below meth c H locs cells slots mc ms ls Y
  exact lv_dup Y.1 Y.2.1 hd hv (h p e s m args below meth c H locs cells slots mc ms ls Y)
theorem am_pop {v : Value} (hd : am_D y.2.2.1 pc (.pop) 1 pc1) (hv : v.category = 1) (h : am_W g y d lo post pc1 L (st) S) : am_W g y d lo post pc L (v :: st) S := by
  obtain ⟨hd, rfl⟩ := hd
  refine am_lift rfl (fun k n rv RS h => ?_) h
  intro p e s m args below meth c H locs cells slots mc ms ls Y
  exact lv_pop Y.1 Y.2.1 hd hv (h p e s m args below meth c H locs cells slots mc ms ls Y)
theorem am_dup_x1 {v u : Value} (hd : am_D y.2.2.1 pc (.dup_x1) 1 pc1) (hv : v.category = 1) (hu : u.category = 1) (h : am_W g y d lo post pc1 L (v :: u :: v :: st) S) : am_W g y d lo post pc L (v :: u :: st) S := by
  obtain ⟨hd, rfl⟩ := hd
  refine am_lift rfl (fun k n rv RS h => ?_) h
  intro p e s m args below meth c H locs cells slots mc ms ls Y
  exact lv_dup_x1 Y.1 Y.2.1 hd hv hu (h p e s m args below meth c H locs cells slots mc ms ls Y)
theorem am_dup_x2 {v u t : Value} (hd : am_D y.2.2.1 pc (.dup_x2) 1 pc1) (hv : v.category = 1) (hu : u.category = 1) (ht : t.category = 1) (h : am_W g y d lo post pc1 L (v :: u :: t :: v :: st) S) : am_W g y d lo post pc L (v :: u :: t :: st) S := by
  obtain ⟨hd, rfl⟩ := hd
  refine am_lift rfl (fun k n rv RS h => ?_) h
  intro p e s m args below meth c H locs cells slots mc ms ls Y
  exact lv_dup_x2 Y.1 Y.2.1 hd hv hu ht (h p e s m args below meth c H locs cells slots mc ms ls Y)
theorem am_dup2 {v u : Value} (hd : am_D y.2.2.1 pc (.dup2) 1 pc1) (hv : v.category = 1) (hu : u.category = 1) (h : am_W g y d lo post pc1 L (v :: u :: v :: u :: st) S) : am_W g y d lo post pc L (v :: u :: st) S := by
  obtain ⟨hd, rfl⟩ := hd
  refine am_lift rfl (fun k n rv RS h => ?_) h
  intro p e s m args below meth c H locs cells slots mc ms ls Y
  exact lv_dup2_11 Y.1 Y.2.1 hd hv hu (h p e s m args below meth c H locs cells slots mc ms ls Y)
theorem am_if_eq {x : Int32} {off : Int} {tgt : Nat} (hd : am_D y.2.2.1 pc (.ifCond .eq off) 3 pc1) (ht : (pc : Int) + off = (tgt : Int)) (kt : x = 0 → am_W g y d lo post tgt L st S) (kf : ¬ x = 0 → am_W g y d lo post pc1 L st S) : am_W g y d lo post pc L (.int x :: st) S := by
  obtain ⟨hd, rfl⟩ := hd
  by_cases q : x = 0
  · refine am_lift rfl (fun k n rv RS h => ?_) (kt q)
    intro p e s m args below meth c H locs cells slots mc ms ls Y
    exact lv_if_eq Y.1 Y.2.1 hd ht (fun _ => h p e s m args below meth c H locs cells slots mc ms ls Y) (fun z => absurd q z)
  · refine am_lift rfl (fun k n rv RS h => ?_) (kf q)
    intro p e s m args below meth c H locs cells slots mc ms ls Y
    exact lv_if_eq Y.1 Y.2.1 hd ht (fun z => absurd z q) (fun _ => h p e s m args below meth c H locs cells slots mc ms ls Y)
theorem am_icmp_eq {x z : Int32} {off : Int} {tgt : Nat} (hd : am_D y.2.2.1 pc (.if_icmp .eq off) 3 pc1) (ht : (pc : Int) + off = (tgt : Int)) (kt : x = z → am_W g y d lo post tgt L st S) (kf : ¬ x = z → am_W g y d lo post pc1 L st S) : am_W g y d lo post pc L (.int z :: .int x :: st) S := by
  obtain ⟨hd, rfl⟩ := hd
  by_cases q : x = z
  · refine am_lift rfl (fun k n rv RS h => ?_) (kt q)
    intro p e s m args below meth c H locs cells slots mc ms ls Y
    exact lv_icmp_eq Y.1 Y.2.1 hd ht (fun _ => h p e s m args below meth c H locs cells slots mc ms ls Y) (fun z => absurd q z)
  · refine am_lift rfl (fun k n rv RS h => ?_) (kf q)
    intro p e s m args below meth c H locs cells slots mc ms ls Y
    exact lv_icmp_eq Y.1 Y.2.1 hd ht (fun z => absurd z q) (fun _ => h p e s m args below meth c H locs cells slots mc ms ls Y)
theorem am_if_ne {x : Int32} {off : Int} {tgt : Nat} (hd : am_D y.2.2.1 pc (.ifCond .ne off) 3 pc1) (ht : (pc : Int) + off = (tgt : Int)) (kt : ¬ x = 0 → am_W g y d lo post tgt L st S) (kf : x = 0 → am_W g y d lo post pc1 L st S) : am_W g y d lo post pc L (.int x :: st) S := by
  obtain ⟨hd, rfl⟩ := hd
  by_cases q : ¬ x = 0
  · refine am_lift rfl (fun k n rv RS h => ?_) (kt q)
    intro p e s m args below meth c H locs cells slots mc ms ls Y
    exact lv_if_ne Y.1 Y.2.1 hd ht (fun _ => h p e s m args below meth c H locs cells slots mc ms ls Y) (fun z => absurd z q)
  · refine am_lift rfl (fun k n rv RS h => ?_) (kf (Classical.not_not.mp q))
    intro p e s m args below meth c H locs cells slots mc ms ls Y
    exact lv_if_ne Y.1 Y.2.1 hd ht (fun z => absurd z q) (fun _ => h p e s m args below meth c H locs cells slots mc ms ls Y)
theorem am_icmp_ne {x z : Int32} {off : Int} {tgt : Nat} (hd : am_D y.2.2.1 pc (.if_icmp .ne off) 3 pc1) (ht : (pc : Int) + off = (tgt : Int)) (kt : ¬ x = z → am_W g y d lo post tgt L st S) (kf : x = z → am_W g y d lo post pc1 L st S) : am_W g y d lo post pc L (.int z :: .int x :: st) S := by
  obtain ⟨hd, rfl⟩ := hd
  by_cases q : ¬ x = z
  · refine am_lift rfl (fun k n rv RS h => ?_) (kt q)
    intro p e s m args below meth c H locs cells slots mc ms ls Y
    exact lv_icmp_ne Y.1 Y.2.1 hd ht (fun _ => h p e s m args below meth c H locs cells slots mc ms ls Y) (fun z => absurd z q)
  · refine am_lift rfl (fun k n rv RS h => ?_) (kf (Classical.not_not.mp q))
    intro p e s m args below meth c H locs cells slots mc ms ls Y
    exact lv_icmp_ne Y.1 Y.2.1 hd ht (fun z => absurd z q) (fun _ => h p e s m args below meth c H locs cells slots mc ms ls Y)
theorem am_if_lt {x : Int32} {off : Int} {tgt : Nat} (hd : am_D y.2.2.1 pc (.ifCond .lt off) 3 pc1) (ht : (pc : Int) + off = (tgt : Int)) (kt : x < 0 → am_W g y d lo post tgt L st S) (kf : ¬ x < 0 → am_W g y d lo post pc1 L st S) : am_W g y d lo post pc L (.int x :: st) S := by
  obtain ⟨hd, rfl⟩ := hd
  by_cases q : x < 0
  · refine am_lift rfl (fun k n rv RS h => ?_) (kt q)
    intro p e s m args below meth c H locs cells slots mc ms ls Y
    exact lv_if_lt Y.1 Y.2.1 hd ht (fun _ => h p e s m args below meth c H locs cells slots mc ms ls Y) (fun z => absurd q z)
  · refine am_lift rfl (fun k n rv RS h => ?_) (kf q)
    intro p e s m args below meth c H locs cells slots mc ms ls Y
    exact lv_if_lt Y.1 Y.2.1 hd ht (fun z => absurd z q) (fun _ => h p e s m args below meth c H locs cells slots mc ms ls Y)
theorem am_icmp_lt {x z : Int32} {off : Int} {tgt : Nat} (hd : am_D y.2.2.1 pc (.if_icmp .lt off) 3 pc1) (ht : (pc : Int) + off = (tgt : Int)) (kt : x < z → am_W g y d lo post tgt L st S) (kf : ¬ x < z → am_W g y d lo post pc1 L st S) : am_W g y d lo post pc L (.int z :: .int x :: st) S := by
  obtain ⟨hd, rfl⟩ := hd
  by_cases q : x < z
  · refine am_lift rfl (fun k n rv RS h => ?_) (kt q)
    intro p e s m args below meth c H locs cells slots mc ms ls Y
    exact lv_icmp_lt Y.1 Y.2.1 hd ht (fun _ => h p e s m args below meth c H locs cells slots mc ms ls Y) (fun z => absurd q z)
  · refine am_lift rfl (fun k n rv RS h => ?_) (kf q)
    intro p e s m args below meth c H locs cells slots mc ms ls Y
    exact lv_icmp_lt Y.1 Y.2.1 hd ht (fun z => absurd z q) (fun _ => h p e s m args below meth c H locs cells slots mc ms ls Y)
theorem am_if_ge {x : Int32} {off : Int} {tgt : Nat} (hd : am_D y.2.2.1 pc (.ifCond .ge off) 3 pc1) (ht : (pc : Int) + off = (tgt : Int)) (kt : 0 ≤ x → am_W g y d lo post tgt L st S) (kf : ¬ 0 ≤ x → am_W g y d lo post pc1 L st S) : am_W g y d lo post pc L (.int x :: st) S := by
  obtain ⟨hd, rfl⟩ := hd
  by_cases q : 0 ≤ x
  · refine am_lift rfl (fun k n rv RS h => ?_) (kt q)
    intro p e s m args below meth c H locs cells slots mc ms ls Y
    exact lv_if_ge Y.1 Y.2.1 hd ht (fun _ => h p e s m args below meth c H locs cells slots mc ms ls Y) (fun z => absurd q z)
  · refine am_lift rfl (fun k n rv RS h => ?_) (kf q)
    intro p e s m args below meth c H locs cells slots mc ms ls Y
    exact lv_if_ge Y.1 Y.2.1 hd ht (fun z => absurd z q) (fun _ => h p e s m args below meth c H locs cells slots mc ms ls Y)
theorem am_icmp_ge {x z : Int32} {off : Int} {tgt : Nat} (hd : am_D y.2.2.1 pc (.if_icmp .ge off) 3 pc1) (ht : (pc : Int) + off = (tgt : Int)) (kt : z ≤ x → am_W g y d lo post tgt L st S) (kf : ¬ z ≤ x → am_W g y d lo post pc1 L st S) : am_W g y d lo post pc L (.int z :: .int x :: st) S := by
  obtain ⟨hd, rfl⟩ := hd
  by_cases q : z ≤ x
  · refine am_lift rfl (fun k n rv RS h => ?_) (kt q)
    intro p e s m args below meth c H locs cells slots mc ms ls Y
    exact lv_icmp_ge Y.1 Y.2.1 hd ht (fun _ => h p e s m args below meth c H locs cells slots mc ms ls Y) (fun z => absurd q z)
  · refine am_lift rfl (fun k n rv RS h => ?_) (kf q)
    intro p e s m args below meth c H locs cells slots mc ms ls Y
    exact lv_icmp_ge Y.1 Y.2.1 hd ht (fun z => absurd z q) (fun _ => h p e s m args below meth c H locs cells slots mc ms ls Y)
theorem am_if_gt {x : Int32} {off : Int} {tgt : Nat} (hd : am_D y.2.2.1 pc (.ifCond .gt off) 3 pc1) (ht : (pc : Int) + off = (tgt : Int)) (kt : 0 < x → am_W g y d lo post tgt L st S) (kf : ¬ 0 < x → am_W g y d lo post pc1 L st S) : am_W g y d lo post pc L (.int x :: st) S := by
  obtain ⟨hd, rfl⟩ := hd
  by_cases q : 0 < x
  · refine am_lift rfl (fun k n rv RS h => ?_) (kt q)
    intro p e s m args below meth c H locs cells slots mc ms ls Y
    exact lv_if_gt Y.1 Y.2.1 hd ht (fun _ => h p e s m args below meth c H locs cells slots mc ms ls Y) (fun z => absurd q z)
  · refine am_lift rfl (fun k n rv RS h => ?_) (kf q)
    intro p e s m args below meth c H locs cells slots mc ms ls Y
    exact lv_if_gt Y.1 Y.2.1 hd ht (fun z => absurd z q) (fun _ => h p e s m args below meth c H locs cells slots mc ms ls Y)
theorem am_icmp_gt {x z : Int32} {off : Int} {tgt : Nat} (hd : am_D y.2.2.1 pc (.if_icmp .gt off) 3 pc1) (ht : (pc : Int) + off = (tgt : Int)) (kt : z < x → am_W g y d lo post tgt L st S) (kf : ¬ z < x → am_W g y d lo post pc1 L st S) : am_W g y d lo post pc L (.int z :: .int x :: st) S := by
  obtain ⟨hd, rfl⟩ := hd
  by_cases q : z < x
  · refine am_lift rfl (fun k n rv RS h => ?_) (kt q)
    intro p e s m args below meth c H locs cells slots mc ms ls Y
    exact lv_icmp_gt Y.1 Y.2.1 hd ht (fun _ => h p e s m args below meth c H locs cells slots mc ms ls Y) (fun z => absurd q z)
  · refine am_lift rfl (fun k n rv RS h => ?_) (kf q)
    intro p e s m args below meth c H locs cells slots mc ms ls Y
    exact lv_icmp_gt Y.1 Y.2.1 hd ht (fun z => absurd z q) (fun _ => h p e s m args below meth c H locs cells slots mc ms ls Y)
theorem am_if_le {x : Int32} {off : Int} {tgt : Nat} (hd : am_D y.2.2.1 pc (.ifCond .le off) 3 pc1) (ht : (pc : Int) + off = (tgt : Int)) (kt : x ≤ 0 → am_W g y d lo post tgt L st S) (kf : ¬ x ≤ 0 → am_W g y d lo post pc1 L st S) : am_W g y d lo post pc L (.int x :: st) S := by
  obtain ⟨hd, rfl⟩ := hd
  by_cases q : x ≤ 0
  · refine am_lift rfl (fun k n rv RS h => ?_) (kt q)
    intro p e s m args below meth c H locs cells slots mc ms ls Y
    exact lv_if_le Y.1 Y.2.1 hd ht (fun _ => h p e s m args below meth c H locs cells slots mc ms ls Y) (fun z => absurd q z)
  · refine am_lift rfl (fun k n rv RS h => ?_) (kf q)
    intro p e s m args below meth c H locs cells slots mc ms ls Y
    exact lv_if_le Y.1 Y.2.1 hd ht (fun z => absurd z q) (fun _ => h p e s m args below meth c H locs cells slots mc ms ls Y)
theorem am_icmp_le {x z : Int32} {off : Int} {tgt : Nat} (hd : am_D y.2.2.1 pc (.if_icmp .le off) 3 pc1) (ht : (pc : Int) + off = (tgt : Int)) (kt : x ≤ z → am_W g y d lo post tgt L st S) (kf : ¬ x ≤ z → am_W g y d lo post pc1 L st S) : am_W g y d lo post pc L (.int z :: .int x :: st) S := by
  obtain ⟨hd, rfl⟩ := hd
  by_cases q : x ≤ z
  · refine am_lift rfl (fun k n rv RS h => ?_) (kt q)
    intro p e s m args below meth c H locs cells slots mc ms ls Y
    exact lv_icmp_le Y.1 Y.2.1 hd ht (fun _ => h p e s m args below meth c H locs cells slots mc ms ls Y) (fun z => absurd q z)
  · refine am_lift rfl (fun k n rv RS h => ?_) (kf q)
    intro p e s m args below meth c H locs cells slots mc ms ls Y
    exact lv_icmp_le Y.1 Y.2.1 hd ht (fun z => absurd z q) (fun _ => h p e s m args below meth c H locs cells slots mc ms ls Y)
theorem am_acmp_eq {rx ry : Option Nat} {off : Int} {tgt : Nat} (hd : am_D y.2.2.1 pc (.if_acmp .eq off) 3 pc1) (ht : (pc : Int) + off = (tgt : Int)) (kt : rx = ry → am_W g y d lo post tgt L st S) (kf : ¬ rx = ry → am_W g y d lo post pc1 L st S) : am_W g y d lo post pc L (va_rf ry :: va_rf rx :: st) S := by
  obtain ⟨hd, rfl⟩ := hd
  by_cases q : rx = ry
  · refine am_lift rfl (fun k n rv RS h => ?_) (kt q)
    intro p e s m args below meth c H locs cells slots mc ms ls Y
    exact lv_acmp_eq Y.1 Y.2.1 hd ht (fun _ => h p e s m args below meth c H locs cells slots mc ms ls Y) (fun z => absurd q z)
  · refine am_lift rfl (fun k n rv RS h => ?_) (kf q)
    intro p e s m args below meth c H locs cells slots mc ms ls Y
    exact lv_acmp_eq Y.1 Y.2.1 hd ht (fun z => absurd z q) (fun _ => h p e s m args below meth c H locs cells slots mc ms ls Y)
theorem am_acmp_ne {rx ry : Option Nat} {off : Int} {tgt : Nat} (hd : am_D y.2.2.1 pc (.if_acmp .ne off) 3 pc1) (ht : (pc : Int) + off = (tgt : Int)) (kt : ¬ rx = ry → am_W g y d lo post tgt L st S) (kf : rx = ry → am_W g y d lo post pc1 L st S) : am_W g y d lo post pc L (va_rf ry :: va_rf rx :: st) S := by
  obtain ⟨hd, rfl⟩ := hd
  by_cases q : ¬ rx = ry
  · refine am_lift rfl (fun k n rv RS h => ?_) (kt q)
    intro p e s m args below meth c H locs cells slots mc ms ls Y
    exact lv_acmp_ne Y.1 Y.2.1 hd ht (fun _ => h p e s m args below meth c H locs cells slots mc ms ls Y) (fun z => absurd z q)
  · refine am_lift rfl (fun k n rv RS h => ?_) (kf (Classical.not_not.mp q))
    intro p e s m args below meth c H locs cells slots mc ms ls Y
    exact lv_acmp_ne Y.1 Y.2.1 hd ht (fun z => absurd z q) (fun _ => h p e s m args below meth c H locs cells slots mc ms ls Y)
theorem am_ifnonnull {a : Nat} {off : Int} {tgt : Nat} (hd : am_D y.2.2.1 pc (.ifnonnull off) 3 pc1) (ht : (pc : Int) + off = (tgt : Int)) (h : am_W g y d lo post tgt L st S) : am_W g y d lo post pc L (.ref a :: st) S := by
  obtain ⟨hd, rfl⟩ := hd
  refine am_lift rfl (fun k n rv RS h => ?_) h
  intro p e s m args below meth c H locs cells slots mc ms ls Y
  exact lv_ifnonnull Y.1 Y.2.1 hd ht (h p e s m args below meth c H locs cells slots mc ms ls Y)
theorem am_ifnonnullN {off : Int} (hd : am_D y.2.2.1 pc (.ifnonnull off) 3 pc1) (h : am_W g y d lo post pc1 L st S) : am_W g y d lo post pc L (.null :: st) S := by
  obtain ⟨hd, rfl⟩ := hd
  refine am_lift rfl (fun k n rv RS h => ?_) h
  intro p e s m args below meth c H locs cells slots mc ms ls Y
  exact lv_ifnonnullN Y.1 Y.2.1 hd (h p e s m args below meth c H locs cells slots mc ms ls Y)
theorem am_ifnull {a : Nat} {off : Int} (hd : am_D y.2.2.1 pc (.ifnull off) 3 pc1) (h : am_W g y d lo post pc1 L st S) : am_W g y d lo post pc L (.ref a :: st) S := by
  obtain ⟨hd, rfl⟩ := hd
  refine am_lift rfl (fun k n rv RS h => ?_) h
  intro p e s m args below meth c H locs cells slots mc ms ls Y
  exact lv_ifnull Y.1 Y.2.1 hd (h p e s m args below meth c H locs cells slots mc ms ls Y)
theorem am_ifnullN {off : Int} {tgt : Nat} (hd : am_D y.2.2.1 pc (.ifnull off) 3 pc1) (ht : (pc : Int) + off = (tgt : Int)) (h : am_W g y d lo post tgt L st S) : am_W g y d lo post pc L (.null :: st) S := by
  obtain ⟨hd, rfl⟩ := hd
  refine am_lift rfl (fun k n rv RS h => ?_) h
  intro p e s m args below meth c H locs cells slots mc ms ls Y
  exact lv_ifnullN Y.1 Y.2.1 hd ht (h p e s m args below meth c H locs cells slots mc ms ls Y)
theorem am_goto {off : Int} {tgt : Nat} (hd : am_D y.2.2.1 pc (.goto off) 3 pc1) (ht : (pc : Int) + off = (tgt : Int)) (h : am_W g y d lo post tgt L st S) : am_W g y d lo post pc L (st) S := by
  obtain ⟨hd, rfl⟩ := hd
  refine am_lift rfl (fun k n rv RS h => ?_) h
  intro p e s m args below meth c H locs cells slots mc ms ls Y
  exact lv_goto Y.1 Y.2.1 hd ht (h p e s m args below meth c H locs cells slots mc ms ls Y)
theorem am_lookup {dflt : Int} {ps : Array (Int × Int)} {len : Nat} {x : Int32} {off : Int} {tgt : Nat} (hd : am_D y.2.2.1 pc (.lookupswitch dflt ps) len pc1) (hp : (ps.toList.zip (ps.toList.drop 1)).all (fun (a, next) => a.1 < next.1) = true) (ho : Op.lookupswitch.offset ps.toList dflt x.toInt = off) (ht : (pc : Int) + off = (tgt : Int)) (h : am_W g y d lo post tgt L st S) : am_W g y d lo post pc L (.int x :: st) S := by
  obtain ⟨hd, rfl⟩ := hd
  refine am_lift rfl (fun k n rv RS h => ?_) h
  intro p e s m args below meth c H locs cells slots mc ms ls Y
  exact lv_lookup Y.1 Y.2.1 hd hp ho ht (h p e s m args below meth c H locs cells slots mc ms ls Y)
theorem am_tableOut {dflt tl th : Int} {offs : Array Int} {len : Nat} {x : Int32} {tgt : Nat} (hd : am_D y.2.2.1 pc (.tableswitch dflt tl th offs) len pc1) (hx : x.toInt < tl ∨ th < x.toInt) (ht : (pc : Int) + dflt = (tgt : Int)) (h : am_W g y d lo post tgt L st S) : am_W g y d lo post pc L (.int x :: st) S := by
  obtain ⟨hd, rfl⟩ := hd
  refine am_lift rfl (fun k n rv RS h => ?_) h
  intro p e s m args below meth c H locs cells slots mc ms ls Y
  exact lv_tableOut Y.1 Y.2.1 hd hx ht (h p e s m args below meth c H locs cells slots mc ms ls Y)
theorem am_tableIn {dflt tl th : Int} {offs : Array Int} {len : Nat} {x : Int32} {off : Int} {tgt : Nat} (hd : am_D y.2.2.1 pc (.tableswitch dflt tl th offs) len pc1) (h1 : ¬ x.toInt < tl) (h2 : ¬ th < x.toInt) (ho : offs[(x.toInt - tl).toNat]? = some off) (ht : (pc : Int) + off = (tgt : Int)) (h : am_W g y d lo post tgt L st S) : am_W g y d lo post pc L (.int x :: st) S := by
  obtain ⟨hd, rfl⟩ := hd
  refine am_lift rfl (fun k n rv RS h => ?_) h
  intro p e s m args below meth c H locs cells slots mc ms ls Y
  exact lv_tableIn Y.1 Y.2.1 hd h1 h2 ho ht (h p e s m args below meth c H locs cells slots mc ms ls Y)
theorem am_iaddN {a b : Nat} (hd : am_D y.2.2.1 pc (.iadd) 1 pc1) (h : am_W g y d lo post pc1 L (.int (nI (a + b)) :: st) S) : am_W g y d lo post pc L (.int (nI b) :: .int (nI a) :: st) S := am_iadd hd (by rw [nI_add]; exact h)
theorem am_imulN {a b : Nat} (hd : am_D y.2.2.1 pc (.imul) 1 pc1) (h : am_W g y d lo post pc1 L (.int (nI (a * b)) :: st) S) : am_W g y d lo post pc L (.int (nI b) :: .int (nI a) :: st) S := am_imul hd (by rw [pk_mul]; exact h)
theorem am_isubN {a b : Nat} (hd : am_D y.2.2.1 pc (.isub) 1 pc1) (hb : b ≤ a) (h : am_W g y d lo post pc1 L (.int (nI (a - b)) :: st) S) : am_W g y d lo post pc L (.int (nI b) :: .int (nI a) :: st) S := am_isub hd (by rw [pk_sub hb]; exact h)
theorem am_idivN {a b : Nat} (hd : am_D y.2.2.1 pc (.idiv) 1 pc1) (ha : a < 2 ^ 31) (h0 : 0 < b) (hb : b < 2 ^ 31) (h : am_W g y d lo post pc1 L (.int (nI (a / b)) :: st) S) : am_W g y d lo post pc L (.int (nI b) :: .int (nI a) :: st) S := am_idiv hd (nI_ne0 h0 hb) (by rw [pk_div ha h0 hb]; exact h)
theorem am_iremN {a b : Nat} (hd : am_D y.2.2.1 pc (.irem) 1 pc1) (ha : a < 2 ^ 31) (h0 : 0 < b) (hb : b < 2 ^ 31) (h : am_W g y d lo post pc1 L (.int (nI (a % b)) :: st) S) : am_W g y d lo post pc L (.int (nI b) :: .int (nI a) :: st) S := am_irem hd (nI_ne0 h0 hb) (by rw [pk_rem ha h0 hb]; exact h)
theorem am_iincN {j a b : Nat} {z : Int} (hd : am_D y.2.2.1 pc (.iinc j z) 3 pc1) (hl : L[j]? = some (some (.int (nI a)))) (hz : Int32.ofInt z = nI b) (hj : j < y.2.2.2.1) (hL : L.set j (some (.int (nI (a + b)))) = L1) (h : am_W g y d lo post pc1 L1 st S) : am_W g y d lo post pc L st S := am_iinc hd hl (by rw [hz, nI_add]) hj hL h
theorem am_icmp_eqN {a b : Nat} {off : Int} {tgt : Nat} (hd : am_D y.2.2.1 pc (.if_icmp .eq off) 3 pc1) (ht : (pc : Int) + off = (tgt : Int)) (ha : a < 2 ^ 31) (hb : b < 2 ^ 31) (kt : a = b → am_W g y d lo post tgt L st S) (kf : a ≠ b → am_W g y d lo post pc1 L st S) : am_W g y d lo post pc L (.int (nI b) :: .int (nI a) :: st) S := by
  have e := nI_eq ha hb
  refine am_icmp_eq hd ht (fun q => kt ?_) (fun q => kf ?_)
  · rw [e] at q; omega
  · rw [e] at q; omega
theorem am_if_eqN {a : Nat} {off : Int} {tgt : Nat} (hd : am_D y.2.2.1 pc (.ifCond .eq off) 3 pc1) (ht : (pc : Int) + off = (tgt : Int)) (ha : a < 2 ^ 31) (kt : a = 0 → am_W g y d lo post tgt L st S) (kf : a ≠ 0 → am_W g y d lo post pc1 L st S) : am_W g y d lo post pc L (.int (nI a) :: st) S := by
  have e := nI_eq ha (by decide : 0 < 2 ^ 31)
  rw [nI_0] at e
  refine am_if_eq hd ht (fun q => kt ?_) (fun q => kf ?_)
  · rw [e] at q; omega
  · rw [e] at q; omega
theorem am_icmp_neN {a b : Nat} {off : Int} {tgt : Nat} (hd : am_D y.2.2.1 pc (.if_icmp .ne off) 3 pc1) (ht : (pc : Int) + off = (tgt : Int)) (ha : a < 2 ^ 31) (hb : b < 2 ^ 31) (kt : a ≠ b → am_W g y d lo post tgt L st S) (kf : a = b → am_W g y d lo post pc1 L st S) : am_W g y d lo post pc L (.int (nI b) :: .int (nI a) :: st) S := by
  have e := nI_eq ha hb
  refine am_icmp_ne hd ht (fun q => kt ?_) (fun q => kf ?_)
  · rw [e] at q; omega
  · rw [e] at q; omega
theorem am_if_neN {a : Nat} {off : Int} {tgt : Nat} (hd : am_D y.2.2.1 pc (.ifCond .ne off) 3 pc1) (ht : (pc : Int) + off = (tgt : Int)) (ha : a < 2 ^ 31) (kt : a ≠ 0 → am_W g y d lo post tgt L st S) (kf : a = 0 → am_W g y d lo post pc1 L st S) : am_W g y d lo post pc L (.int (nI a) :: st) S := by
  have e := nI_eq ha (by decide : 0 < 2 ^ 31)
  rw [nI_0] at e
  refine am_if_ne hd ht (fun q => kt ?_) (fun q => kf ?_)
  · rw [e] at q; omega
  · rw [e] at q; omega
theorem am_icmp_ltN {a b : Nat} {off : Int} {tgt : Nat} (hd : am_D y.2.2.1 pc (.if_icmp .lt off) 3 pc1) (ht : (pc : Int) + off = (tgt : Int)) (ha : a < 2 ^ 31) (hb : b < 2 ^ 31) (kt : a < b → am_W g y d lo post tgt L st S) (kf : b ≤ a → am_W g y d lo post pc1 L st S) : am_W g y d lo post pc L (.int (nI b) :: .int (nI a) :: st) S := by
  have e := nI_ltI ha hb
  refine am_icmp_lt hd ht (fun q => kt ?_) (fun q => kf ?_)
  · rw [e] at q; omega
  · rw [e] at q; omega
theorem am_if_ltN {a : Nat} {off : Int} {tgt : Nat} (hd : am_D y.2.2.1 pc (.ifCond .lt off) 3 pc1) (ht : (pc : Int) + off = (tgt : Int)) (ha : a < 2 ^ 31) (kt : a < 0 → am_W g y d lo post tgt L st S) (kf : 0 ≤ a → am_W g y d lo post pc1 L st S) : am_W g y d lo post pc L (.int (nI a) :: st) S := by
  have e := nI_ltI ha (by decide : 0 < 2 ^ 31)
  rw [nI_0] at e
  refine am_if_lt hd ht (fun q => kt ?_) (fun q => kf ?_)
  · rw [e] at q; omega
  · rw [e] at q; omega
theorem am_icmp_geN {a b : Nat} {off : Int} {tgt : Nat} (hd : am_D y.2.2.1 pc (.if_icmp .ge off) 3 pc1) (ht : (pc : Int) + off = (tgt : Int)) (ha : a < 2 ^ 31) (hb : b < 2 ^ 31) (kt : b ≤ a → am_W g y d lo post tgt L st S) (kf : a < b → am_W g y d lo post pc1 L st S) : am_W g y d lo post pc L (.int (nI b) :: .int (nI a) :: st) S := by
  have e := nI_leI hb ha
  refine am_icmp_ge hd ht (fun q => kt ?_) (fun q => kf ?_)
  · rw [e] at q; omega
  · rw [e] at q; omega
theorem am_if_geN {a : Nat} {off : Int} {tgt : Nat} (hd : am_D y.2.2.1 pc (.ifCond .ge off) 3 pc1) (ht : (pc : Int) + off = (tgt : Int)) (ha : a < 2 ^ 31) (kt : 0 ≤ a → am_W g y d lo post tgt L st S) (kf : a < 0 → am_W g y d lo post pc1 L st S) : am_W g y d lo post pc L (.int (nI a) :: st) S := by
  have e := nI_leI (by decide : 0 < 2 ^ 31) ha
  rw [nI_0] at e
  refine am_if_ge hd ht (fun q => kt ?_) (fun q => kf ?_)
  · rw [e] at q; omega
  · rw [e] at q; omega
theorem am_icmp_gtN {a b : Nat} {off : Int} {tgt : Nat} (hd : am_D y.2.2.1 pc (.if_icmp .gt off) 3 pc1) (ht : (pc : Int) + off = (tgt : Int)) (ha : a < 2 ^ 31) (hb : b < 2 ^ 31) (kt : b < a → am_W g y d lo post tgt L st S) (kf : a ≤ b → am_W g y d lo post pc1 L st S) : am_W g y d lo post pc L (.int (nI b) :: .int (nI a) :: st) S := by
  have e := nI_ltI hb ha
  refine am_icmp_gt hd ht (fun q => kt ?_) (fun q => kf ?_)
  · rw [e] at q; omega
  · rw [e] at q; omega
theorem am_if_gtN {a : Nat} {off : Int} {tgt : Nat} (hd : am_D y.2.2.1 pc (.ifCond .gt off) 3 pc1) (ht : (pc : Int) + off = (tgt : Int)) (ha : a < 2 ^ 31) (kt : 0 < a → am_W g y d lo post tgt L st S) (kf : a ≤ 0 → am_W g y d lo post pc1 L st S) : am_W g y d lo post pc L (.int (nI a) :: st) S := by
  have e := nI_ltI (by decide : 0 < 2 ^ 31) ha
  rw [nI_0] at e
  refine am_if_gt hd ht (fun q => kt ?_) (fun q => kf ?_)
  · rw [e] at q; omega
  · rw [e] at q; omega
theorem am_icmp_leN {a b : Nat} {off : Int} {tgt : Nat} (hd : am_D y.2.2.1 pc (.if_icmp .le off) 3 pc1) (ht : (pc : Int) + off = (tgt : Int)) (ha : a < 2 ^ 31) (hb : b < 2 ^ 31) (kt : a ≤ b → am_W g y d lo post tgt L st S) (kf : b < a → am_W g y d lo post pc1 L st S) : am_W g y d lo post pc L (.int (nI b) :: .int (nI a) :: st) S := by
  have e := nI_leI ha hb
  refine am_icmp_le hd ht (fun q => kt ?_) (fun q => kf ?_)
  · rw [e] at q; omega
  · rw [e] at q; omega
theorem am_if_leN {a : Nat} {off : Int} {tgt : Nat} (hd : am_D y.2.2.1 pc (.ifCond .le off) 3 pc1) (ht : (pc : Int) + off = (tgt : Int)) (ha : a < 2 ^ 31) (kt : a ≤ 0 → am_W g y d lo post tgt L st S) (kf : 0 < a → am_W g y d lo post pc1 L st S) : am_W g y d lo post pc L (.int (nI a) :: st) S := by
  have e := nI_leI ha (by decide : 0 < 2 ^ 31)
  rw [nI_0] at e
  refine am_if_le hd ht (fun q => kt ?_) (fun q => kf ?_)
  · rw [e] at q; omega
  · rw [e] at q; omega
/-- a truth value as a number -/
def am_b (c : Bool) : Int32 := if c = true then 1 else 0
theorem am_b_t : am_b true = 1 := rfl
theorem am_b_f : am_b false = 0 := rfl
theorem am_b_nar (c : Bool) : narrow .boolean (.int (am_b c)) = .int (am_b c) := by cases c <;> rfl
theorem am_b_fit (c : Bool) : fits .boolean (.int (am_b c)) = true := by cases c <;> rfl
theorem am_if_eqB {c : Bool} {off : Int} {tgt : Nat} (hd : am_D y.2.2.1 pc (.ifCond .eq off) 3 pc1) (ht : (pc : Int) + off = (tgt : Int)) (kt : c = false → am_W g y d lo post tgt L st S) (kf : c = true → am_W g y d lo post pc1 L st S) : am_W g y d lo post pc L (.int (am_b c) :: st) S := by
  cases c
  · exact am_if_eq hd ht (fun _ => kt rfl) (fun q => absurd rfl q)
  · exact am_if_eq hd ht (fun q => absurd q (by decide)) (fun _ => kf rfl)
theorem am_if_neB {c : Bool} {off : Int} {tgt : Nat} (hd : am_D y.2.2.1 pc (.ifCond .ne off) 3 pc1) (ht : (pc : Int) + off = (tgt : Int)) (kt : c = true → am_W g y d lo post tgt L st S) (kf : c = false → am_W g y d lo post pc1 L st S) : am_W g y d lo post pc L (.int (am_b c) :: st) S := by
  cases c
  · exact am_if_ne hd ht (fun q => absurd rfl q) (fun _ => kf rfl)
  · exact am_if_ne hd ht (fun _ => kt rfl) (fun q => absurd q (by decide))
end AMR
/-! the store: what stays -/
def am_ok (S : am_S) : Prop := ∀ (a : Nat) (c : Nat × am_K), S.1 a = some c → a < S.2.1
/-- but for cells whose tag is in X, what lies there stays -/
def am_fr (X : Nat → Prop) (S S' : am_S) : Prop := (∀ (a t : Nat) (x : am_K), S.1 a = some (t, x) → ¬ X t → S'.1 a = some (t, x)) ∧ S.2.1 ≤ S'.2.1 ∧ S.2.2 ≤ S'.2.2 ∧ (am_ok S → am_ok S')
/-- at most c cells and n slots are new -/
def am_co (c n : Nat) (S S' : am_S) : Prop := S'.2.1 ≤ S.2.1 + c ∧ S'.2.2 ≤ S.2.2 + n
theorem am_fr.refl (X : Nat → Prop) (S : am_S) : am_fr X S S := ⟨fun _ _ _ h _ => h, Nat.le_refl _, Nat.le_refl _, fun h => h⟩
theorem am_fr.trans {X : Nat → Prop} {S S1 S2 : am_S} (h : am_fr X S S1) (h' : am_fr X S1 S2) : am_fr X S S2 :=
  ⟨fun a t x hx ht => h'.1 a t x (h.1 a t x hx ht) ht, Nat.le_trans h.2.1 h'.2.1, Nat.le_trans h.2.2.1 h'.2.2.1, fun o => h'.2.2.2 (h.2.2.2 o)⟩
theorem am_fr.mono {X Y : Nat → Prop} {S S1 : am_S} (h : am_fr X S S1) (hX : ∀ t, X t → Y t) : am_fr Y S S1 :=
  ⟨fun a t x hx ht => h.1 a t x hx (fun q => ht (hX t q)), h.2⟩
theorem am_fr.keep {X : Nat → Prop} {S S1 : am_S} (h : am_fr X S S1) {a t : Nat} {x : am_K} (hx : S.1 a = some (t, x)) (ht : ¬ X t) : S1.1 a = some (t, x) := h.1 a t x hx ht
theorem am_ok.up {S : am_S} {a t t' : Nat} {x x' : am_K} (h : am_ok S) (ha : S.1 a = some (t, x)) : am_ok (am_up S a t' x') := by
  intro q c hq
  by_cases e : q = a
  · subst e; exact h q _ ha
  · rw [am_up_ne S t' x' e] at hq
    exact h q c hq
theorem am_ok.mk {S : am_S} (t z : Nat) (x : am_K) (h : am_ok S) : am_ok (am_mk S t z x) := by
  intro q c hq
  show q < S.2.1 + 1
  by_cases e : q = S.2.1
  · omega
  · rw [am_mk_ne S t z x e] at hq
    have := h q c hq
    omega
theorem am_fr.up {X : Nat → Prop} {S : am_S} {a t t' : Nat} {x x' : am_K} (ha : S.1 a = some (t, x)) (hX : X t) : am_fr X S (am_up S a t' x') :=
  ⟨fun q u z hq hu => by
    by_cases e : q = a
    · subst e
      rw [ha] at hq
      cases hq
      exact absurd hX hu
    · rw [am_up_ne S t' x' e]; exact hq, Nat.le_refl _, Nat.le_refl _, fun o => o.up ha⟩
theorem am_fr.mk (X : Nat → Prop) {S : am_S} (t z : Nat) (x : am_K) (o : am_ok S) : am_fr X S (am_mk S t z x) :=
  ⟨fun q u w hq _ => by rw [am_mk_ne S t z x (Nat.ne_of_lt (o q _ hq))]; exact hq, Nat.le_succ _, Nat.le_add_right _ _, fun o => o.mk t z x⟩
theorem am_co.refl (S : am_S) : am_co 0 0 S S := ⟨Nat.le_refl _, Nat.le_refl _⟩
theorem am_co.trans {c n c' n' : Nat} {S S1 S2 : am_S} (h : am_co c n S S1) (h' : am_co c' n' S1 S2) : am_co (c + c') (n + n') S S2 := by
  obtain ⟨h1, h2⟩ := h
  obtain ⟨h3, h4⟩ := h'
  exact ⟨by omega, by omega⟩
theorem am_co.mono {c n c' n' : Nat} {S S1 : am_S} (h : am_co c n S S1) (hc : c ≤ c') (hn : n ≤ n') : am_co c' n' S S1 := by
  obtain ⟨h1, h2⟩ := h
  exact ⟨by omega, by omega⟩
theorem am_co.up (S : am_S) (a t : Nat) (x : am_K) : am_co 0 0 S (am_up S a t x) := ⟨Nat.le_refl _, Nat.le_refl _⟩
theorem am_co.mk (S : am_S) (t z : Nat) (x : am_K) : am_co 1 z S (am_mk S t z x) := ⟨Nat.le_refl _, Nat.le_refl _⟩
/-- cells of different tags lie apart -/
theorem am_ne {S : am_S} {a b t u : Nat} {x z : am_K} (ha : S.1 a = some (t, x)) (hb : S.1 b = some (u, z)) (h : t ≠ u) : b ≠ a := by
  intro e
  subst e
  rw [ha] at hb
  cases hb
  exact h rfl
theorem am_up_tag {S : am_S} {a b t t' u : Nat} {x x' z : am_K} (hb : S.1 b = some (u, z)) (ha : S.1 a = some (t, x)) (h : t ≠ u) : (am_up S a t' x').1 b = some (u, z) := by
  rw [am_up_ne S t' x' (am_ne ha hb h)]
  exact hb
theorem am_mk_old {S : am_S} {b u t n : Nat} {x z : am_K} (hb : S.1 b = some (u, z)) (o : am_ok S) : (am_mk S t n x).1 b = some (u, z) := by
  rw [am_mk_ne S t n x (Nat.ne_of_lt (o b _ hb))]
  exact hb
theorem am_up_up (S : am_S) (a t t' : Nat) (x x' : am_K) : am_up (am_up S a t x) a t' x' = am_up S a t' x' := by
  unfold am_up
  congr 1
  funext q
  by_cases e : q = a <;> simp [e]
theorem am_up_mk (S : am_S) (t t' n : Nat) (x x' : am_K) : am_up (am_mk S t n x) S.2.1 t' x' = am_mk S t' n x' := by
  unfold am_up am_mk
  congr 1
  funext q
  by_cases e : q = S.2.1 <;> simp [e]
