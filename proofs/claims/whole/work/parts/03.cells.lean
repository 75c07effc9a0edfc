/-! rows of the logic that read or write cells -/
/-- the field that an instruction names: class number, place -/
def am_F (own : String) (idx ci j : Nat) : Prop := ∃ (q : vw_C) (ref : String), am_cl[ci]? = some q ∧ j < q.2.2 ∧ ((Cond.fieldLink own idx ref (q.2.1 j).2.1 (q.2.1 j).2.2.1 ∈ am_wz) ∨ ∃ host, (own, idx, ref, (q.2.1 j).2.1, (q.2.1 j).2.2.1, host) ∈ am_nF) ∧ (ref = (q.2.1 j).1 ∨ Cond.sameField ref (q.2.1 j).1 (q.2.1 j).2.1 (q.2.1 j).2.2.1 ∈ am_wz)
theorem am_same {g : am_G} {s : State} (hT : am_T g s) {q : vw_C} {j : Nat} {ref : String} (h : ref = (q.2.1 j).1 ∨ Cond.sameField ref (q.2.1 j).1 (q.2.1 j).2.1 (q.2.1 j).2.2.1 ∈ am_wz) (x : ClassId × Class × Nat × Field) (hx : s.fieldFound? (q.2.1 j).1 (q.2.1 j).2.1 (q.2.1 j).2.2.1 = some x) : s.fieldFound? ref (q.2.1 j).2.1 (q.2.1 j).2.2.1 = some x := by
  rcases h with rfl | h
  · exact hx
  · exact u_same (hT.word #[] h) x hx
theorem am_apart {g : am_G} {s : State} (hT : am_T g s) {ci : Nat} {q : vw_C} (hc : am_cl[ci]? = some q) (hq : am_clOK q) : ∀ x z, x < q.2.2 → z < q.2.2 → x ≠ z → (g.lay.2 ci) x ≠ (g.lay.2 ci) z := by
  intro x z hx hz hne
  obtain ⟨hS, -⟩ := hT.2.2.2.2.2.1 ci q hc
  obtain ⟨_, _, _, fa, hia, ea⟩ := hS x hx
  obtain ⟨_, _, _, fb, hib, eb⟩ := hS z hz
  have hts : ∀ w ∈ am_wz, w.before #[] s = true := fun w hw => hT.word #[] hw
  rw [← ea, ← eb]
  refine u_apart (u_lays hts hq.1 hx) (u_lays hts hq.1 hz) hia hib ?_
  obtain ⟨tx, htx⟩ := Option.isSome_iff_exists.mp (hq.2.1 x hx)
  obtain ⟨tz, htz⟩ := Option.isSome_iff_exists.mp (hq.2.1 z hz)
  rw [(State.fieldFound?_type hia htx).1, (State.fieldFound?_type hib htz).1]
  exact hq.2.2 x hx z hz hne
/-- what a write of a field must know: its type; it is not final, or this is the constructor of its class -/
def am_P (own nm : String) (ci j : Nat) (ty : FieldType) : Prop := ∃ q : vw_C, am_cl[ci]? = some q ∧ parseFieldDescriptor (q.2.1 j).2.2.1 = some ty ∧ ((q.2.1 j).2.2.2 = false ∨ ((q.2.1 j).2.2.2 = true ∧ (q.2.1 j).1 = own ∧ nm = "<init>"))
section AMH
variable {g : am_G} {y : am_N} {d lo : Nat} {post : Option Value → am_S → Prop} {pc pc1 : Nat} {L : List (Option Value)} {st : List Value} {S : am_S}
theorem am_get {idx ci j a t : Nat} {fs : List Value} {v : Value} (hd : am_D y.2.2.1 pc (.getfield idx) 3 pc1) (hF : am_F y.1 idx ci j) (ha : S.1 a = some (t, .inr (ci, fs))) (hv : fs[j]? = some v) (h : am_W g y d lo post pc1 L (v :: st) S) : am_W g y d lo post pc L (.ref a :: st) S := by
  obtain ⟨hd, rfl⟩ := hd
  refine am_lift (by rfl) (fun k n rv RS h => ?_) h
  intro p e s m args below meth c H locs cells slots mc ms ls Y
  have W1 := h p e s m args below meth c H locs cells slots mc ms ls Y
  obtain ⟨y1, y2, -, -, -, y6, -, hT, -, -, -, hR, -⟩ := Y
  obtain ⟨q, ref, hc, hj, hlink, hsame⟩ := hF
  have hq := am_cl_ok ci q hc
  obtain ⟨q', h1, hlen, cell, q1, q2, q3, q4⟩ := hR.2.2.2.1 a _ _ ha
  cases h1.symm.trans hc
  obtain ⟨hS, hfc, kC, hkC, hkind⟩ := hT.2.2.2.2.2.1 ci q hc
  obtain ⟨cf, kf, fi, f, hi, hsl⟩ := hS j hj
  have hts : ∀ w ∈ am_wz, w.before args s = true := fun w hw => hT.word args hw
  have hst := (u_facts hfc hkC (u_lays hts hq.1 hj) hi).1
  have hval : cell.slots[f.slot]? = some v := by
    rw [hsl, q4 j hj]
    simp [vp_V, hv]
  rcases hlink with hl | ⟨host, hl⟩
  · exact W.getf y1 y2 y6 (hts _ hl) (am_same hT hsame _ hi) hst q1 (by rw [q3]; exact fun z => by cases z) hval rfl rfl hd W1
  · exact va_Wgetf y1 y2 y6 (va_Nw.use rfl (hT.2.1 _ hl)) (am_same hT hsame _ hi) hst q1 (by rw [q3]; exact fun z => by cases z) hval rfl rfl hd W1
/-- the field is written: it isn't final, or it is and this is its class's constructor -/
theorem am_put {idx ci j a t : Nat} {fs : List Value} {v : Value} (ty : FieldType) (hd : am_D y.2.2.1 pc (.putfield idx) 3 pc1) (hF : am_F y.1 idx ci j) (hP : am_P y.1 y.2.1 ci j ty) (ha : S.1 a = some (t, .inr (ci, fs))) (ht0 : t ≠ 0) (hn : narrow ty v = v) (hfit : fits ty v = true) (h : am_W g y d lo post pc1 L st (am_up S a t (.inr (ci, fs.set j v)))) : am_W g y d lo post pc L (v :: .ref a :: st) S := by
  obtain ⟨hd, rfl⟩ := hd
  refine am_lift (by rfl) (fun k n rv RS h => ?_) h
  intro p e s m args below meth c H locs cells slots mc ms ls Y
  obtain ⟨y1, y2, y3, y4, y5, y6, y7, hT, y9, y10, y11, hR, hL⟩ := Y
  obtain ⟨q, ref, hc, hj, hlink, hsame⟩ := hF
  obtain ⟨q2', hc2, hty, hfin⟩ := hP
  have ho := hR.2.2.2.2 a _ _ ha ht0
  cases hc2.symm.trans hc
  have hq := am_cl_ok ci q hc
  have hap := am_apart hT hc hq
  obtain ⟨q', h1, hlen, cell, q1, q2, q3, q4⟩ := hR.2.2.2.1 a _ _ ha
  cases h1.symm.trans hc
  obtain ⟨hS, hfc, kC, hkC, hkind⟩ := hT.2.2.2.2.2.1 ci q hc
  obtain ⟨cf, kf, fi, f, hi, hsl⟩ := hS j hj
  have hts : ∀ w ∈ am_wz, w.before args s = true := fun w hw => hT.word args hw
  have hst := (u_facts hfc hkC (u_lays hts hq.1 hj) hi).1
  have hft := u_fits hfc hkC hkind (u_lays hts hq.1 hj) hi hty hn hfit
  have hlay := hts _ (hq.1 _ (u_in_lay hj))
  have hf2 : hasFlag f.accessFlags Acc.final = false ∨ (m.cls = cf ∧ meth.name = "<init>") := by
    unfold u_lay at hlay
    rcases hfin with hf | ⟨hf, hown, hin⟩
    · rw [if_neg (by rw [hf]; decide)] at hlay
      exact Or.inl (u_store hfc hkC hkind hlay hi hty hn hfit).1
    · rw [if_pos hf] at hlay
      refine Or.inr ⟨?_, by rw [y7]; exact hin⟩
      obtain ⟨_, _, c', _, _, _, -, -, hf', -, -, -, hown2, -⟩ := Cond.laysFinal_spec hlay
      have e1 : c' = cf := by have := hi.symm.trans hf'; simp at this; exact this.1.symm
      rw [hown] at hown2
      rw [← e1]; exact Option.some.inj (y6.symm.trans hown2)
  have hlt : f.slot < cell.slots.size := by rw [hsl]; exact k2_hasslot (q4 j hj)
  have hA : a < H.size := (Array.getElem?_eq_some_iff.mp q1).1
  have key : W p g.1 e { frames := d, cells := mc, slots := ms, locals := lo } s m args below meth c (H.setIfInBounds a (cell.setSlot f.slot v)) (locs ++ [⟨a, f.slot⟩]) cells slots (MQ below (am_Q g rv RS) args s mc ms (fun q => g.old.size ≤ q)) (F0 m (pc + 3) ls st) := by
    refine h p e s m args below meth c _ _ cells slots mc ms ls ⟨y1, y2, y3, y4, y5, y6, y7, hT, y9, y10, ?_, ?_, hL⟩
    · intro x hx
      rcases List.mem_append.mp hx with hx | hx
      · exact y11 x hx
      · rw [List.mem_singleton.mp hx]; exact ho
    · refine hR.put t ho (by simp) (fun q hq => by simp [Array.getElem?_setIfInBounds, Ne.symm hq]) ?_
      refine ⟨q, hc, by rw [List.length_set]; exact hlen, t_OB.to (V := updV (vp_V fs) j v) ⟨cell.setSlot f.slot v, by simp [Array.getElem?_setIfInBounds, hA], q2, q3, ?_⟩ (fun i _ => vp_updV_set (by rw [hlen]; exact hj) v i)⟩
      rw [hsl]
      exact t_set q4 hap hj v
  rcases hlink with hl | ⟨host, hl⟩
  · exact W.putf y1 y2 y6 (hts _ hl) (am_same hT hsame _ hi) hst hf2 q1 (by rw [q3]; exact fun z => by cases z) hlt hft.1 (by rw [q2, q3]; exact hft.2) rfl rfl hd key
  · exact va_Wputf y1 y2 y6 (va_Nw.use rfl (hT.2.1 _ hl)) (am_same hT hsame _ hi) hst hf2 q1 (by rw [q3]; exact fun z => by cases z) hlt hft.1 (by rw [q2, q3]; exact hft.2) rfl rfl hd key
/-- a static field that nobody writes -/
theorem am_gets {idx : Nat} {C nm ds ref : String} {v : Value} (hd : am_D y.2.2.1 pc (.getstatic idx) 3 pc1) (hl : Cond.fieldLink y.1 idx ref nm ds ∈ am_wz) (hs : ref = C ∨ Cond.sameField ref C nm ds ∈ am_wz) (hz : (C, nm, ds, v) ∈ g.sta) (h : am_W g y d lo post pc1 L (v :: st) S) : am_W g y d lo post pc L st S := by
  obtain ⟨hd, rfl⟩ := hd
  refine am_lift (by rfl) (fun k n rv RS h => ?_) h
  intro p e s m args below meth c H locs cells slots mc ms ls Y
  have W1 := h p e s m args below meth c H locs cells slots mc ms ls Y
  obtain ⟨y1, y2, -, -, -, y6, -, hT, -, -, -, hR, -⟩ := Y
  obtain ⟨cf, kf, fi, f, a, cell, h1, h2, h3, h4, h5, h6, h7, h8⟩ := hT.2.2.2.2.2.2.2.1 _ hz
  have hsame : s.fieldFound? ref nm ds = some (cf, kf, fi, f) := by
    rcases hs with rfl | hs
    · exact h1
    · exact u_same (hT.word #[] hs) _ h1
  exact W.gets y1 y2 y6 (hT.word args hl) hsame h2 h3 h4 (by rw [hR.2.2.1 a (Nat.not_le.mp h8)]; exact h5) (fun z => by rw [z] at h6; cases h6) h7 rfl hd W1
/-- a new object -/
theorem am_new {idx ci : Nat} (t : Nat) {q : vw_C} {fs : List Value} (hd : am_D y.2.2.1 pc (.new idx) 3 pc1) (hc : am_cl[ci]? = some q) (hl : Cond.classLink y.1 idx q.1 ∈ am_wz) (hi : Cond.instantiable q.1 q.2.2 ∈ am_wz) (hini : Cond.initialized q.1 ∈ am_wz) (hlen : fs.length = q.2.2) (hfs : ∀ j, j < q.2.2 → ∃ ty, parseFieldDescriptor (q.2.1 j).2.2.1 = some ty ∧ defaultValue ty = vp_V fs j)
    (h : am_W g y d lo post pc1 L (.ref S.2.1 :: st) (am_mk S t q.2.2 (.inr (ci, fs)))) : am_W g y d lo post pc L st S := by
  obtain ⟨hd, rfl⟩ := hd
  refine am_liftN (by rfl) (by rfl) (fun k n rv RS h => ?_) h
  intro p e s m args below meth c H locs cells slots mc ms ls Y
  obtain ⟨y1, y2, y3, y4, y5, y6, y7, hT, y9, y10, y11, hR, hL⟩ := Y
  have hts : ∀ w ∈ am_wz, w.before args s = true := fun w hw => hT.word args hw
  have hq := am_cl_ok ci q hc
  have hKn := hT.2.2.2.2.2.1 ci q hc
  refine W.newcK y1 y2 y6 (hts _ hl) (hts _ hi) (hts _ hini) rfl hd (by show cells + 1 ≤ mc; omega) (by show slots + q.2.2 ≤ ms; omega) hKn.2.1 (h := S.2.1) hR.1 fun H1 kC hkC e1 z1 o1 => ?_
  refine h p e s m args below meth c H1 locs (cells + 1) (slots + q.2.2) mc ms ls ⟨y1, y2, y3, y4, y5, y6, y7, hT, by omega, by omega, y11, ?_, hL⟩
  refine hR.push _ _ (by rw [hR.1]; exact z1) (fun x hx => o1 x (by rw [← hR.1]; exact hx)) ⟨q, hc, hlen, ?_⟩
  have hty : ∀ j, j < q.2.2 → parseFieldDescriptor (q.2.1 j).2.2.1 = some ((parseFieldDescriptor (q.2.1 j).2.2.1).getD .int) := fun j hj => by
    obtain ⟨ty, h1, -⟩ := hfs j hj
    rw [h1]; rfl
  refine (u_born (fun j => (parseFieldDescriptor (q.2.1 j).2.2.1).getD .int) hts hq.1 hKn hkC e1 hty).to (fun j hj => ?_)
  obtain ⟨ty, h1, h2⟩ := hfs j hj
  rw [h1]; exact h2
theorem am_newcell (cA : ClassId) (N : Nat) (v : Value) : arrV cA N (fun _ => v) = am_cell cA (List.replicate N v) := by
  rw [← arrV_new]
  unfold am_cell
  rw [List.toArray_replicate]
/-- a new array of numbers -/
theorem am_newa {t : Nat} (tg : Nat) {atype : ArrayType} {x : Int32} {N : Nat} {v : Value} (hd : am_D y.2.2.1 pc (.newarray atype) 2 pc1) (ht : am_ak[t]? = some (newarray.typeOf atype)) (hw : Cond.arrayClass (newarray.typeOf atype) ∈ am_wz) (hx : ¬ x < 0) (hN : x.toNatClampNeg = N) (hbytes : N * componentBytes (newarray.typeOf atype) ≤ 536870912) (hv : defaultValue (newarray.typeOf atype) = v)
    (h : am_W g y d lo post pc1 L (.ref S.2.1 :: st) (am_mk S tg N (.inl (t, List.replicate N v)))) : am_W g y d lo post pc L (.int x :: st) S := by
  obtain ⟨hd, rfl⟩ := hd
  refine am_liftN (by rfl) (by rfl) (fun k n rv RS h => ?_) h
  intro p e s m args below meth c H locs cells slots mc ms ls Y
  obtain ⟨y1, y2, y3, y4, y5, y6, y7, hT, y9, y10, y11, hR, hL⟩ := Y
  subst hv
  refine va_newaK y1 y2 (hT.word args hw) rfl hd rfl hx hN hbytes (by show cells + 1 ≤ mc; omega) (by show slots + N ≤ ms; omega) (h := S.2.1) hR.1 fun H1 cA e1 z1 o1 hAr hNm => ?_
  have hcA : cA = g.arr t := by
    have h1 := (hT.2.2.2.2.2.2.1 t _ ht).2
    have h2 : s.vm.findClass ("[" ++ (newarray.typeOf atype).toString) = some (g.arr t) := by cases atype <;> exact h1
    exact Option.some.inj (hNm.symm.trans h2)
  refine h p e s m args below meth c H1 locs (cells + 1) (slots + N) mc ms ls ⟨y1, y2, y3, y4, y5, y6, y7, hT, by omega, by omega, y11, ?_, hL⟩
  refine hR.push _ _ (by rw [hR.1]; exact z1) (fun x hx => o1 x (by rw [← hR.1]; exact hx)) ?_
  refine Or.inl ?_
  show H1[S.2.1]? = some (am_cell (g.arr t) (List.replicate N _))
  rw [← hcA, ← am_newcell]
  exact e1
/-- a new array of references -/
theorem am_newq {idx t : Nat} (tg : Nat) {C : String} {x : Int32} {N : Nat} (hd : am_D y.2.2.1 pc (.anewarray idx) 3 pc1) (ht : am_ak[t]? = some (.object C)) (hl : Cond.classLink y.1 idx C ∈ am_wz) (hO : C ∈ am_nO) (hx : ¬ x < 0) (hN : x.toNatClampNeg = N) (hbytes : N * 4 ≤ 536870912)
    (h : am_W g y d lo post pc1 L (.ref S.2.1 :: st) (am_mk S tg N (.inl (t, List.replicate N .null)))) : am_W g y d lo post pc L (.int x :: st) S := by
  obtain ⟨hd, rfl⟩ := hd
  refine am_liftN (by rfl) (by rfl) (fun k n rv RS h => ?_) h
  intro p e s m args below meth c H locs cells slots mc ms ls Y
  obtain ⟨y1, y2, y3, y4, y5, y6, y7, hT, y9, y10, y11, hR, hL⟩ := Y
  subst hN
  refine W.anew y1 y2 y6 (hT.word args hl) (va_AO.use (hT.2.2.2.2.1 _ hO)) rfl hd rfl hx hbytes (by show cells + 1 ≤ mc; omega) (by show slots + _ ≤ ms; omega) fun cA kA comp f1 f2 f3 f4 => ?_
  have hcA : cA = g.arr t := by
    obtain ⟨kA', comp', k1, k2, k3, k4⟩ := (hT.2.2.2.2.2.2.1 t _ ht).2
    exact Option.some.inj (f1.symm.trans k4)
  subst hcA
  have e2 : (.ref H.size : Value) = .ref S.2.1 := by rw [hR.1]
  rw [e2]
  refine h p e s m args below meth c _ locs (cells + 1) _ mc ms ls ⟨y1, y2, y3, y4, y5, y6, y7, hT, by omega, by omega, y11, ?_, hL⟩
  refine hR.push _ _ (Array.size_push _) (fun x hx => by rw [Array.getElem?_push, if_neg (Nat.ne_of_lt hx)]) ?_
  refine Or.inl ?_
  show (H.push _)[S.2.1]? = some (am_cell (g.arr t) (List.replicate _ _))
  rw [← hR.1, Array.getElem?_push_size]
  unfold am_cell
  rw [List.toArray_replicate]
theorem am_isArr {s : State} {cA : ClassId} {ty : FieldType} (h : ArrOfT s cA ty) (vs : List Value) : s.isArrayOf (am_cell cA vs) ty := by
  have e : am_cell cA vs = arrV cA vs.length (fun j => vs.getD j .null) := by
    unfold am_cell arrV
    congr 1
    apply Array.ext
    · simp
    · intro i h1 h2
      simp at h1
      simp [h1]
  rw [e]
  exact h _ _
/-- an array of the store lies in the heap -/
theorem am_arr {s : State} {H : Heap} {tg t a : Nat} {vs : List Value} {ty : FieldType} (hT : am_T g s) (hR : am_R g S H) (ht : am_ak[t]? = some ty) (ha : S.1 a = some (tg, .inl (t, vs))) : ∃ cell : Cell, H[a]? = some cell ∧ s.isArrayOf cell ty ∧ cell.vm ≠ .unknown ∧ cell.slots = vs.toArray := by
  rcases hR.2.2.2.1 a _ _ ha with h | ⟨-, h2, cell, h3, h4, h5⟩
  · exact ⟨_, h, am_isArr (hT.2.2.2.2.2.2.1 t _ ht).1 vs, (fun z => by cases z), rfl⟩
  · obtain ⟨k1, k2⟩ := hT.2.2.2.2.2.2.2.2.2.2 a t cell ty h2 h3 ht
    exact ⟨cell, h4, k1, k2, h5⟩
theorem am_arr1 {H : Heap} {tg t a : Nat} {vs : List Value} (hR : am_R g S H) (ha : S.1 a = some (tg, .inl (t, vs))) (ht0 : tg ≠ 0) : H[a]? = some (am_cell (g.arr t) vs) := by
  rcases hR.2.2.2.1 a _ _ ha with h | ⟨h, -⟩
  · exact h
  · have := hR.2.2.2.2 a _ _ ha ht0
    omega
theorem am_alen {tg t a : Nat} {vs : List Value} {v : Int32} {ty : FieldType} (hd : am_D y.2.2.1 pc (.arraylength) 1 pc1) (ht : am_ak[t]? = some ty) (ha : S.1 a = some (tg, .inl (t, vs))) (hv : Int32.ofNat vs.length = v) (h : am_W g y d lo post pc1 L (.int v :: st) S) : am_W g y d lo post pc L (.ref a :: st) S := by
  obtain ⟨hd, rfl⟩ := hd
  refine am_lift (by rfl) (fun k n rv RS h => ?_) h
  intro p e s m args below meth c H locs cells slots mc ms ls Y
  have W1 := h p e s m args below meth c H locs cells slots mc ms ls Y
  obtain ⟨y1, y2, -, -, -, y6, -, hT, -, -, -, hR, -⟩ := Y
  obtain ⟨cell, c1, c2, c3, c4⟩ := am_arr hT hR ht ha
  exact W.alen (n := v) y1 y2 c1 c2 (by rw [← hv, c4]; simp) rfl rfl hd W1
/-- reading: int, boolean, reference -/
theorem am_inb {cA : ClassId} {vs : List Value} {x : Int32} {j : Nat} (hx : x = nI j) (hj : j < vs.length) (hl : vs.length < 2 ^ 31) : ¬ (x < 0 ∨ (am_cell cA vs).slots.size ≤ x.toNatClampNeg) ∧ x.toNatClampNeg = j := by
  subst hx
  have e := nI_clamp (n := j) (by omega)
  refine ⟨fun h => ?_, e⟩
  rcases h with h | h
  · exact nI_pos (by omega) h
  · rw [e] at h
    simp [am_cell] at h
    omega
theorem am_inc {cell : Cell} {vs : List Value} {x : Int32} {j : Nat} (hs : cell.slots = vs.toArray) (hx : x = nI j) (hj : j < vs.length) (hl : vs.length < 2 ^ 31) : ¬ (x < 0 ∨ cell.slots.size ≤ x.toNatClampNeg) ∧ x.toNatClampNeg = j := by
  subst hx
  have e := nI_clamp (n := j) (by omega)
  refine ⟨fun h => ?_, e⟩
  rcases h with h | h
  · exact nI_pos (by omega) h
  · rw [e, hs] at h
    simp at h
    omega
theorem am_iald {tg t a j : Nat} {vs : List Value} {x : Int32} {v : Value} (hd : am_D y.2.2.1 pc (.iaload) 1 pc1) (ht : am_ak[t]? = some .int) (ha : S.1 a = some (tg, .inl (t, vs))) (hx : x = nI j) (hv : vs[j]? = some v) (hl : vs.length < 2 ^ 31) (h : am_W g y d lo post pc1 L (v :: st) S) : am_W g y d lo post pc L (.int x :: .ref a :: st) S := by
  obtain ⟨hd, rfl⟩ := hd
  refine am_lift (by rfl) (fun k n rv RS h => ?_) h
  intro p e s m args below meth c H locs cells slots mc ms ls Y
  have W1 := h p e s m args below meth c H locs cells slots mc ms ls Y
  obtain ⟨y1, y2, -, -, -, y6, -, hT, -, -, -, hR, -⟩ := Y
  obtain ⟨cell, c1, c2, c3, c4⟩ := am_arr hT hR ht ha
  obtain ⟨hin, hc⟩ := am_inc c4 hx (List.getElem?_eq_some_iff.mp hv).1 hl
  exact W.iald (v := v) y1 y2 c1 c2 c3 hin (by rw [hc, c4]; simpa using hv) rfl rfl hd W1
theorem am_zald {tg t a j : Nat} {vs : List Value} {x : Int32} {v : Value} (hd : am_D y.2.2.1 pc (.baload) 1 pc1) (ht : am_ak[t]? = some .boolean) (ha : S.1 a = some (tg, .inl (t, vs))) (hx : x = nI j) (hv : vs[j]? = some v) (hl : vs.length < 2 ^ 31) (h : am_W g y d lo post pc1 L (v :: st) S) : am_W g y d lo post pc L (.int x :: .ref a :: st) S := by
  obtain ⟨hd, rfl⟩ := hd
  refine am_lift (by rfl) (fun k n rv RS h => ?_) h
  intro p e s m args below meth c H locs cells slots mc ms ls Y
  have W1 := h p e s m args below meth c H locs cells slots mc ms ls Y
  obtain ⟨y1, y2, -, -, -, y6, -, hT, -, -, -, hR, -⟩ := Y
  obtain ⟨cell, c1, c2, c3, c4⟩ := am_arr hT hR ht ha
  obtain ⟨hin, hc⟩ := am_inc c4 hx (List.getElem?_eq_some_iff.mp hv).1 hl
  exact W.zald (v := v) y1 y2 c1 c2 c3 hin (by rw [hc, c4]; simpa using hv) rfl rfl hd W1
theorem am_aald {tg t a j : Nat} {vs : List Value} {x : Int32} {v : Value} {ty : FieldType} (hd : am_D y.2.2.1 pc (.aaload) 1 pc1) (ht : am_ak[t]? = some ty) (hr : ty.isReference = true) (ha : S.1 a = some (tg, .inl (t, vs))) (hx : x = nI j) (hv : vs[j]? = some v) (hl : vs.length < 2 ^ 31) (h : am_W g y d lo post pc1 L (v :: st) S) : am_W g y d lo post pc L (.int x :: .ref a :: st) S := by
  obtain ⟨hd, rfl⟩ := hd
  refine am_lift (by rfl) (fun k n rv RS h => ?_) h
  intro p e s m args below meth c H locs cells slots mc ms ls Y
  have W1 := h p e s m args below meth c H locs cells slots mc ms ls Y
  obtain ⟨y1, y2, -, -, -, y6, -, hT, -, -, -, hR, -⟩ := Y
  obtain ⟨cell, c1, c2, c3, c4⟩ := am_arr hT hR ht ha
  obtain ⟨hin, hc⟩ := am_inc c4 hx (List.getElem?_eq_some_iff.mp hv).1 hl
  exact W.aald (v := v) y1 y2 c1 c2 hr c3 hin (by rw [hc, c4]; simpa using hv) rfl rfl hd W1
theorem am_cellset (cA : ClassId) (vs : List Value) (j : Nat) (v : Value) : (am_cell cA vs).setSlot j v = am_cell cA (vs.set j v) := by
  simp [am_cell, Cell.setSlot]
/-- what is common to writes into an array -/
theorem am_wrote {k n : Nat} {rv : Option Value} {RS : am_S} {tg t a j : Nat} {vs : List Value} {v : Value} {p : Program} {e : Env} {s : State} {m : MethodId} {args : Array Value} {below : List Frame} {meth : Method} {c : Code} {H H1 : Heap} {locs : List Loc} {cells slots mc ms : Nat} {ls : Array Slot} (Y : am_Y g y k n L S p s m meth c H locs cells slots mc ms ls) (ho : g.old.size ≤ a) (h : am_V g y d lo k n rv RS pc L st (am_up S a tg (.inl (t, vs.set j v))))
    (e1 : H1[a]? = some ((am_cell (g.arr t) vs).setSlot j v)) (z : H1.size = H.size) (oq : ∀ q : Nat, q ≠ a → H1[q]? = H[q]?) :
    W p g.1 e { frames := d, cells := mc, slots := ms, locals := lo } s m args below meth c H1 (locs ++ [⟨a, j⟩]) cells slots (MQ below (am_Q g rv RS) args s mc ms (fun q => g.old.size ≤ q)) (F0 m pc ls st) := by
  obtain ⟨y1, y2, y3, y4, y5, y6, y7, hT, y9, y10, y11, hR, hL⟩ := Y
  refine h p e s m args below meth c H1 _ cells slots mc ms ls ⟨y1, y2, y3, y4, y5, y6, y7, hT, y9, y10, ?_, hR.put tg ho z oq ?_, hL⟩
  · intro x hx
    rcases List.mem_append.mp hx with hx | hx
    · exact y11 x hx
    · rw [List.mem_singleton.mp hx]; exact ho
  · refine Or.inl ?_
    show H1[a]? = some (am_cell (g.arr t) (vs.set j v))
    rw [e1, am_cellset]
theorem am_iast {tg t a j : Nat} {vs : List Value} {x v : Int32} (hd : am_D y.2.2.1 pc (.iastore) 1 pc1) (ht : am_ak[t]? = some .int) (ha : S.1 a = some (tg, .inl (t, vs))) (ht0 : tg ≠ 0) (hx : x = nI j) (hj : j < vs.length) (hl : vs.length < 2 ^ 31) (h : am_W g y d lo post pc1 L st (am_up S a tg (.inl (t, vs.set j (.int v))))) : am_W g y d lo post pc L (.int v :: .int x :: .ref a :: st) S := by
  obtain ⟨hd, rfl⟩ := hd
  refine am_lift (by rfl) (fun k n rv RS h => ?_) h
  intro p e s m args below meth c H locs cells slots mc ms ls Y
  obtain ⟨hin, hc⟩ := am_inb (cA := g.arr t) hx hj hl
  refine W.iast Y.1 Y.2.1 (am_arr1 Y.2.2.2.2.2.2.2.2.2.2.2.1 ha ht0) (am_isArr (Y.2.2.2.2.2.2.2.1.2.2.2.2.2.2.1 t _ ht).1 vs) (fun z => by cases z) hin rfl rfl hd fun H1 e1 z oq => ?_
  rw [hc] at e1 ⊢
  exact am_wrote Y (Y.2.2.2.2.2.2.2.2.2.2.2.1.2.2.2.2 a _ _ ha ht0) h e1 z oq
theorem am_aastN {tg t a j : Nat} {vs : List Value} {x : Int32} {C : String} (hd : am_D y.2.2.1 pc (.aastore) 1 pc1) (ht : am_ak[t]? = some (.object C)) (ha : S.1 a = some (tg, .inl (t, vs))) (ht0 : tg ≠ 0) (hx : x = nI j) (hj : j < vs.length) (hl : vs.length < 2 ^ 31) (h : am_W g y d lo post pc1 L st (am_up S a tg (.inl (t, vs.set j .null)))) : am_W g y d lo post pc L (.null :: .int x :: .ref a :: st) S := by
  obtain ⟨hd, rfl⟩ := hd
  refine am_lift (by rfl) (fun k n rv RS h => ?_) h
  intro p e s m args below meth c H locs cells slots mc ms ls Y
  obtain ⟨hin, hc⟩ := am_inb (cA := g.arr t) hx hj hl
  refine va_WaastN (C := C) Y.1 Y.2.1 (am_arr1 Y.2.2.2.2.2.2.2.2.2.2.2.1 ha ht0) (am_isArr (Y.2.2.2.2.2.2.2.1.2.2.2.2.2.2.1 t _ ht).1 vs) (fun z => by cases z) hin rfl rfl hd fun H1 e1 z oq => ?_
  rw [hc] at e1 ⊢
  exact am_wrote Y (Y.2.2.2.2.2.2.2.2.2.2.2.1.2.2.2.2 a _ _ ha ht0) h e1 z oq
end AMH
/-! rows of the logic: ends of methods, calls -/
section AME
variable {g : am_G} {y : am_N} {d lo : Nat} {post : Option Value → am_S → Prop} {pc pc1 : Nat} {L : List (Option Value)} {st : List Value} {S : am_S}
theorem am_iret {x : Int32} {ty : FieldType} (hd : am_D y.2.2.1 pc (.ireturn) 1 pc1) (hr : y.2.2.2.2 = some ty) (hn : narrow ty (.int x) = .int x) (hp : post (some (.int x)) S) : am_W g y d lo post pc L [.int x] S := by
  obtain ⟨hd, rfl⟩ := hd
  refine am_end ?_ hp
  intro p e s m args below meth c H locs cells slots mc ms ls Y
  obtain ⟨y1, y2, y3, y4, y5, y6, y7, hT, y9, y10, y11, hR, hL⟩ := Y
  refine W.widen (k := mc) (n := ms) (by omega) (by omega) ?_
  exact W.zret y1 y2 (y4.trans hr) hn (fun t ht _ => ⟨rfl, by rw [ht]; exact hR⟩) y11 hd y5
theorem am_vret (hd : am_D y.2.2.1 pc (.return_) 1 pc1) (hr : y.2.2.2.2 = none) (hp : post none S) : am_W g y d lo post pc L [] S := by
  obtain ⟨hd, rfl⟩ := hd
  refine am_end ?_ hp
  intro p e s m args below meth c H locs cells slots mc ms ls Y
  obtain ⟨y1, y2, y3, y4, y5, y6, y7, hT, y9, y10, y11, hR, hL⟩ := Y
  refine W.widen (k := mc) (n := ms) (by omega) (by omega) ?_
  exact W.vret y1 y2 (y4.trans hr) (fun t ht _ => ⟨rfl, by rw [ht]; exact hR⟩) y11 hd y5
theorem am_aret {v : Value} {ty : FieldType} (hd : am_D y.2.2.1 pc (.areturn) 1 pc1) (hr : y.2.2.2.2 = some ty) (hrt : (∃ nm, ty = .object nm) ∨ ∃ t, ty = .array t) (hv : am_rv v) (hp : post (some v) S) : am_W g y d lo post pc L [v] S := by
  obtain ⟨hd, rfl⟩ := hd
  refine am_end ?_ hp
  intro p e s m args below meth c H locs cells slots mc ms ls Y
  obtain ⟨y1, y2, y3, y4, y5, y6, y7, hT, y9, y10, y11, hR, hL⟩ := Y
  refine W.widen (k := mc) (n := ms) (by omega) (by omega) ?_
  exact W.aret y1 y2 (y4.trans hr) hrt hv (fun t ht _ => ⟨rfl, by rw [ht]; exact hR⟩) y11 hd y5
/-- the link of a call, plain or across the nest -/
def am_ML (own : String) (idx : Nat) (x : MethodName) : Prop := Cond.methodLink own idx x ∈ am_wz ∨ ∃ host, (own, idx, x, host) ∈ am_nM
/-- what every call asks of the callee's name: its code's word, its class, the number of its parameters -/
def am_CY (yc : am_N) (desc : String) (np : Nat) : Prop := Cond.code ⟨yc.1, yc.2.1, desc⟩ yc.2.2.1 yc.2.2.2.1 yc.2.2.2.2 ∈ am_wz ∧ Cond.initialized yc.1 ∈ am_wz ∧ yc.1 ≠ "java/lang/invoke/MethodHandle" ∧ yc.1 ≠ "java/lang/invoke/VarHandle" ∧ (parseMethodDescriptor desc).map (fun x => x.parameters.length) = some np
theorem am_blind (g : am_G) (vs : List Value) (S : am_S) : FrameBlind (va_Pc vs (fun U => am_T g U ∧ am_R g S U.heap)) := fun a _ f mk q => ⟨q.1, q.2.1.calling f mk a, q.2.2⟩
theorem am_preS {s : State} {H : Heap} (hT : am_T g s) (hR : am_R g S H) (vs : List Value) : PreS s H (va_Pc vs (fun U => am_T g U ∧ am_R g S U.heap)) vs :=
  ⟨am_blind g vs S, fun U hU hW => ⟨rfl, hT.warm hW, by rw [hU]; exact hR⟩⟩
/-- behind a call -/
theorem am_after {p : Program} {e : Env} {R : Room} {s : State} {m : MethodId} {args A : Array Value} {below : List Frame} {meth : Method} {c : Code} {H : Heap} {locs : List Loc} {cells slots kc nc : Nat} {ls : Array Slot} {st0 rest : List Value} {Q : State → Prop} {v : Option Value} {S1 : am_S} (y11 : ∀ q ∈ locs, g.old.size ≤ q.base)
    (hr : va_Run p g.1 e R s m args below meth c H locs cells slots kc nc (F0 m pc ls st0) rest (am_Q g v S1 A) (fun q => g.old.size ≤ q))
    (kk : ∀ (H1 : Heap) (locs1 : List Loc), am_R g S1 H1 → (∀ q ∈ locs1, g.old.size ≤ q.base) → W p g.1 e R s m args below meth c H1 locs1 (cells + kc) (slots + nc) Q (F0 m (pc + 3) ls (v.toList ++ rest))) : W p g.1 e R s m args below meth c H locs cells slots Q (F0 m pc ls st0) := by
  intro T hT X
  obtain ⟨v', st₀, t, T', L', h0, X', hL, e1, e2, ⟨hv, hR⟩, stp⟩ := hr T hT X
  cases hv
  obtain ⟨t2, a1, b1⟩ := kk T'.heap (locs ++ L') (by rw [e1]; exact hR) (fun q hq => by
    rcases List.mem_append.mp hq with h | h
    · exact y11 q h
    · exact hL q h) T' rfl X'
  exact ⟨t2, stp t2 a1, b1⟩
/-- a call, as the judgement sees it -/
theorem am_liftC {dc lc : Nat} {yc : am_N} {desc : String} {vs stk : List Value} {postc : Option Value → am_S → Prop} (hc : am_M g yc desc dc lc vs S postc)
    (f : ∀ k n kc nc v S1 rv RS, am_N0 g yc desc dc lc kc nc vs S v S1 → am_V g y d lo k n rv RS (pc + 3) L (v.toList ++ st) S1 → am_V g y d lo (k + kc) (n + nc) rv RS pc L stk S)
    (h : ∀ v S', postc v S' → am_W g y d lo post (pc + 3) L (v.toList ++ st) S') : am_W g y d lo post pc L stk S := by
  obtain ⟨v, S1, m1, m2, hN, hp⟩ := hc
  obtain ⟨rv, RS, w1, w2, w3, w4⟩ := h v S1 hp
  have h5 := f _ _ _ _ _ _ _ _ hN w3
  have a1 : RS.2.1 - S1.2.1 + (S1.2.1 - S.2.1) = RS.2.1 - S.2.1 := by omega
  have a2 : RS.2.2 - S1.2.2 + (S1.2.2 - S.2.2) = RS.2.2 - S.2.2 := by omega
  rw [a1, a2] at h5
  exact ⟨rv, RS, by omega, by omega, h5, w4⟩
theorem am_rest {m : MethodId} {ls : Array Slot} {st0 rest : List Value} (h : (rest.map fun v => v.category).sum ≤ 8) : 2 * (F0 m pc ls st0).monitorRoom + (rest.map fun v => v.category).sum ≤ 8 := by
  show 2 * 0 + _ ≤ 8
  omega
section
variable {idx np dc lc : Nat} {yc : am_N} {desc : String} {vs stk : List Value} {postc : Option Value → am_S → Prop}
theorem am_warmC {s : State} {np : Nat} {yc : am_N} {desc : String} (hT : am_T g s) (hC : am_CY yc desc np) : ∀ w ∈ [Cond.code ⟨yc.1, yc.2.1, desc⟩ yc.2.2.1 yc.2.2.2.1 yc.2.2.2.2], ∀ (a' : Array Value) (U : State), s.WarmedH U.vm → w.before a' U = true := fun w hw a' U hW => by
  rw [List.mem_singleton.mp hw]
  exact (hT.warm hW).word a' hC.1
theorem am_np (hC : am_CY yc desc np) : ∀ sig, parseMethodDescriptor desc = some sig → np = sig.parameters.length := fun sig h => by
  have h2 := hC.2.2.2.2
  rw [h] at h2
  exact (Option.some.inj h2).symm
/-- a call of a static method -/
theorem am_callS (hd : am_D y.2.2.1 pc (.invokestatic idx) 3 pc1) (hC : am_CY yc desc np) (hM : am_ML y.1 idx ⟨yc.1, yc.2.1, desc⟩) (hs : Cond.static ⟨yc.1, yc.2.1, desc⟩ ∈ am_wz) (hst : stk = vs.reverse ++ st) (hn : vs.length = np) (hc : am_M g yc desc dc lc vs S postc) (hr : dc + 1 ≤ d ∧ 8 + (yc.2.2.2.1 + 11) + lc ≤ lo) (h8 : (st.map fun v => v.category).sum ≤ 8)
    (h : ∀ v S', postc v S' → am_W g y d lo post pc1 L (v.toList ++ st) S') : am_W g y d lo post pc L stk S := by
  obtain ⟨hd, rfl⟩ := hd
  refine am_liftC hc (fun k n kc nc v S1 rv RS hc h => ?_) h
  intro p e s m args below meth c H locs cells slots mc ms ls Y
  obtain ⟨y1, y2, y3, y4, y5, y6, y7, hT, y9, y10, y11, hR, hL⟩ := Y
  refine am_after (A := vs.toArray) (rest := st) (kc := kc) (nc := nc) y11 ?_ (fun H1 locs1 hR' hl' => h p e s m args below meth c H1 locs1 (cells + kc) (slots + nc) mc ms ls ⟨y1, y2, y3, y4, y5, y6, y7, hT, by omega, by omega, hl', hR', hL⟩)
  have hfix : CallFix p m c y.2.2.1 y.2.2.2.1 s args am_wz y.1 := ⟨y1, y2, y3, y6, fun w hw => hT.word args hw⟩
  rcases hM with hl | ⟨host, hl⟩
  · exact va_runS (n := np) hfix hc ⟨⟨rfl, rfl, hr.1, hr.2, am_warmC hT hC, List.mem_singleton_self _, hT.word args hC.1, hT.word args hC.2.1, ⟨hC.2.2.1, hC.2.2.2.1⟩, am_np hC, hT.word args hl⟩, hT.word args hs⟩ (am_preS hT hR vs) rfl hn hL.1 hst (am_rest h8) hd ⟨by show cells + kc ≤ mc; omega, by show slots + nc ≤ ms; omega⟩
  · exact va_runSN (n := np) hfix hc ⟨⟨⟨rfl, rfl, hr.1, hr.2, am_warmC hT hC, List.mem_singleton_self _⟩, hT.word args hC.1, hT.word args hC.2.1, ⟨hC.2.2.1, hC.2.2.2.1⟩, am_np hC, va_Nw.use rfl (hT.2.2.1 _ hl)⟩, hT.word args hs, trivial⟩ (am_preS hT hR vs) rfl hn hL.1 hst (am_rest h8) hd ⟨by show cells + kc ≤ mc; omega, by show slots + nc ≤ ms; omega⟩
/-- a call of a constructor -/
theorem am_callI {b : Nat} (hd : am_D y.2.2.1 pc (.invokespecial idx) 3 pc1) (hC : am_CY yc desc np) (hin : yc.2.1 = "<init>") (hre : yc.2.2.2.2 = none) (hM : am_ML y.1 idx ⟨yc.1, yc.2.1, desc⟩) (hs : Cond.instanceMethod ⟨yc.1, yc.2.1, desc⟩ ∈ am_wz) (hst : stk = vs.reverse ++ .ref b :: st) (hn : vs.length = np) (hc : am_M g yc desc dc lc (.ref b :: vs) S postc) (hr : dc + 1 ≤ d ∧ 8 + (yc.2.2.2.1 + 11) + lc ≤ lo) (h8 : (st.map fun v => v.category).sum ≤ 8)
    (h : ∀ v S', postc v S' → am_W g y d lo post pc1 L (v.toList ++ st) S') : am_W g y d lo post pc L stk S := by
  obtain ⟨hd, rfl⟩ := hd
  refine am_liftC hc (fun k n kc nc v S1 rv RS hc h => ?_) h
  intro p e s m args below meth c H locs cells slots mc ms ls Y
  obtain ⟨y1, y2, y3, y4, y5, y6, y7, hT, y9, y10, y11, hR, hL⟩ := Y
  obtain ⟨ycl, ynm, ybt, yml, yrt⟩ := yc
  simp only at hre hin
  subst hre
  refine am_after (A := (Value.ref b :: vs).toArray) (rest := st) (kc := kc) (nc := nc) y11 ?_ (fun H1 locs1 hR' hl' => h p e s m args below meth c H1 locs1 (cells + kc) (slots + nc) mc ms ls ⟨y1, y2, y3, y4, y5, y6, y7, hT, by omega, by omega, hl', hR', hL⟩)
  have hfix : CallFix p m c y.2.2.1 y.2.2.2.1 s args am_wz y.1 := ⟨y1, y2, y3, y6, fun w hw => hT.word args hw⟩
  rcases hM with hl | ⟨host, hl⟩
  · exact va_runI (n := np) hfix hc ⟨⟨rfl, rfl, hr.1, hr.2, am_warmC hT hC, List.mem_singleton_self _, hT.word args hC.1, hT.word args hC.2.1, ⟨hC.2.2.1, hC.2.2.2.1⟩, am_np hC, hT.word args hl⟩, hin, hT.word args hs⟩ (am_preS hT hR (.ref b :: vs)) rfl hn hL.1 hst (am_rest h8) hd ⟨by show cells + kc ≤ mc; omega, by show slots + nc ≤ ms; omega⟩
  · exact va_runIN (n := np) hfix hc ⟨⟨⟨rfl, rfl, hr.1, hr.2, am_warmC hT hC, List.mem_singleton_self _⟩, hT.word args hC.1, hT.word args hC.2.1, ⟨hC.2.2.1, hC.2.2.2.1⟩, am_np hC, va_Nw.use rfl (hT.2.2.1 _ hl)⟩, hin, hT.word args hs⟩ (am_preS hT hR (.ref b :: vs)) rfl hn hL.1 hst (am_rest h8) hd ⟨by show cells + kc ≤ mc; omega, by show slots + nc ≤ ms; omega⟩
/-- the object at an address, as calls and casts ask for it -/
theorem am_recv {s : State} {H : Heap} {b ci tb : Nat} {q : vw_C} {fs : List Value} (hT : am_T g s) (hR : am_R g S H) (hb : S.1 b = some (tb, .inr (ci, fs))) (hq : am_cl[ci]? = some q) : ∃ cell : Cell, H[b]? = some cell ∧ cell.vm.isStatics = false ∧ s.vm.findClass q.1 = some cell.cls := by
  obtain ⟨q', h1, -, cell, q1, q2, q3, -⟩ := hR.2.2.2.1 b _ _ hb
  cases h1.symm.trans hq
  exact ⟨cell, q1, by rw [q3]; rfl, by rw [q2]; exact (hT.2.2.2.2.2.1 ci q hq).2.1⟩
/-- a call of an object's method -/
theorem am_callV {b ci tb : Nat} {q : vw_C} {fs : List Value} (hd : am_D y.2.2.1 pc (.invokevirtual idx) 3 pc1) (hC : am_CY yc desc np) (hM : am_ML y.1 idx ⟨yc.1, yc.2.1, desc⟩) (hs : Cond.instanceMethod ⟨yc.1, yc.2.1, desc⟩ ∈ am_wz) (hq : am_cl[ci]? = some q) (hsel : Cond.selects q.1 ⟨yc.1, yc.2.1, desc⟩ ⟨yc.1, yc.2.1, desc⟩ ∈ am_wz) (hb : S.1 b = some (tb, .inr (ci, fs))) (hst : stk = vs.reverse ++ .ref b :: st) (hn : vs.length = np) (hc : am_M g yc desc dc lc (.ref b :: vs) S postc) (hr : dc + 1 ≤ d ∧ 8 + (yc.2.2.2.1 + 11) + lc ≤ lo) (h8 : (st.map fun v => v.category).sum ≤ 8)
    (h : ∀ v S', postc v S' → am_W g y d lo post pc1 L (v.toList ++ st) S') : am_W g y d lo post pc L stk S := by
  obtain ⟨hd, rfl⟩ := hd
  refine am_liftC hc (fun k n kc nc v S1 rv RS hc h => ?_) h
  intro p e s m args below meth c H locs cells slots mc ms ls Y
  obtain ⟨y1, y2, y3, y4, y5, y6, y7, hT, y9, y10, y11, hR, hL⟩ := Y
  refine am_after (A := (Value.ref b :: vs).toArray) (rest := st) (kc := kc) (nc := nc) y11 ?_ (fun H1 locs1 hR' hl' => h p e s m args below meth c H1 locs1 (cells + kc) (slots + nc) mc ms ls ⟨y1, y2, y3, y4, y5, y6, y7, hT, by omega, by omega, hl', hR', hL⟩)
  have hfix : CallFix p m c y.2.2.1 y.2.2.2.1 s args am_wz y.1 := ⟨y1, y2, y3, y6, fun w hw => hT.word args hw⟩
  have hpre : PreV s H q.1 b (va_Pc (.ref b :: vs) (fun U => am_T g U ∧ am_R g S U.heap)) vs := ⟨am_blind g _ S, am_recv hT hR hb hq, (am_preS hT hR (.ref b :: vs)).2⟩
  rcases hM with hl | ⟨host, hl⟩
  · exact va_runV (C := q.1) (n := np) hfix hc ⟨⟨rfl, rfl, hr.1, hr.2, am_warmC hT hC, List.mem_singleton_self _, hT.word args hC.1, hT.word args hC.2.1, ⟨hC.2.2.1, hC.2.2.2.1⟩, am_np hC, hT.word args hl⟩, hT.word args hs, hT.word args hsel⟩ hpre rfl hn hL.1 hst (am_rest h8) hd ⟨by show cells + kc ≤ mc; omega, by show slots + nc ≤ ms; omega⟩
  · exact va_runVN (C := q.1) (n := np) hfix hc ⟨⟨⟨rfl, rfl, hr.1, hr.2, am_warmC hT hC, List.mem_singleton_self _⟩, hT.word args hC.1, hT.word args hC.2.1, ⟨hC.2.2.1, hC.2.2.2.1⟩, am_np hC, va_Nw.use rfl (hT.2.2.1 _ hl)⟩, hT.word args hs, hT.word args hsel⟩ hpre rfl hn hL.1 hst (am_rest h8) hd ⟨by show cells + kc ≤ mc; omega, by show slots + nc ≤ ms; omega⟩
end
/-- Object's constructor -/
theorem am_objInit {idx b : Nat} (hd : am_D y.2.2.1 pc (.invokespecial idx) 3 pc1) (hl : Cond.methodLink y.1 idx Lib.objectInit ∈ am_wz) (hi : Cond.instanceMethod Lib.objectInit ∈ am_wz) (hc : Cond.code Lib.objectInit ⟨#[0xb1]⟩ 1 none ∈ am_wz) (h1 : 1 ≤ d) (h8 : (st.map fun v => v.category).sum + 12 ≤ lo) (h : am_W g y d lo post pc1 L st S) : am_W g y d lo post pc L (.ref b :: st) S := by
  obtain ⟨hd, rfl⟩ := hd
  refine am_lift (by rfl) (fun k n rv RS h => ?_) h
  intro p e s m args below meth c H locs cells slots mc ms ls Y
  have W1 := h p e s m args below meth c H locs cells slots mc ms ls Y
  obtain ⟨y1, y2, y3, y4, y5, y6, y7, hT, y9, y10, y11, hR, hL⟩ := Y
  refine W.objInit y1 y2 y6 (hT.word args hl) (hT.word args hi) (hT.word args hc) rfl (by rw [y3]; exact hL.1) rfl hd h1 ?_ W1
  show 2 * 0 + _ + 12 ≤ lo
  omega
/-- casts -/
theorem am_castN {idx : Nat} (hd : am_D y.2.2.1 pc (.checkcast idx) 3 pc1) (h : am_W g y d lo post pc1 L (.null :: st) S) : am_W g y d lo post pc L (.null :: st) S := by
  obtain ⟨hd, rfl⟩ := hd
  refine am_lift (by rfl) (fun k n rv RS h => ?_) h
  intro p e s m args below meth c H locs cells slots mc ms ls Y
  exact lv_castN Y.1 Y.2.1 hd (h p e s m args below meth c H locs cells slots mc ms ls Y)
theorem am_cast {idx b ci tb : Nat} {q : vw_C} {fs : List Value} {nm : String} (hd : am_D y.2.2.1 pc (.checkcast idx) 3 pc1) (hl : Cond.classLink y.1 idx nm ∈ am_wz) (hq : am_cl[ci]? = some q) (hn : q.1 = nm ∨ (q.1, nm) ∈ am_nC) (hb : S.1 b = some (tb, .inr (ci, fs))) (h : am_W g y d lo post pc1 L (.ref b :: st) S) : am_W g y d lo post pc L (.ref b :: st) S := by
  obtain ⟨hd, rfl⟩ := hd
  refine am_lift (by rfl) (fun k n rv RS h => ?_) h
  intro p e s m args below meth c H locs cells slots mc ms ls Y
  have W1 := h p e s m args below meth c H locs cells slots mc ms ls Y
  obtain ⟨y1, y2, y3, y4, y5, y6, y7, hT, y9, y10, y11, hR, hL⟩ := Y
  have hr := am_recv hT hR hb hq
  rcases hn with rfl | hn
  · exact va_castS y1 y2 y6 (hT.word args hl) (hT.2.2.2.2.2.1 ci q hq).2 hr hd W1
  · exact va_castY y1 y2 y6 (hT.word args hl) (hT.2.2.2.1 _ hn) hr hd W1
/-- a reference is written into an array: the object's class is the array's, or may stand for it -/
theorem am_aast {tg t a j b ci tb : Nat} {vs : List Value} {x : Int32} {C : String} {q : vw_C} {fs : List Value} (hd : am_D y.2.2.1 pc (.aastore) 1 pc1) (ht : am_ak[t]? = some (.object C)) (ha : S.1 a = some (tg, .inl (t, vs))) (ht0 : tg ≠ 0) (hb : S.1 b = some (tb, .inr (ci, fs))) (hq : am_cl[ci]? = some q) (hn : q.1 = C ∨ (q.1, C) ∈ am_nC) (hx : x = nI j) (hj : j < vs.length) (hl : vs.length < 2 ^ 31) (h : am_W g y d lo post pc1 L st (am_up S a tg (.inl (t, vs.set j (.ref b))))) : am_W g y d lo post pc L (.ref b :: .int x :: .ref a :: st) S := by
  obtain ⟨hd, rfl⟩ := hd
  refine am_lift (by rfl) (fun k n rv RS h => ?_) h
  intro p e s m args below meth c H locs cells slots mc ms ls Y
  have hT := Y.2.2.2.2.2.2.2.1
  have hR := Y.2.2.2.2.2.2.2.2.2.2.2.1
  obtain ⟨cellV, g1, g3, g2⟩ := am_recv hT hR hb hq
  obtain ⟨kA, comp, k1, k2, k3, -⟩ := (hT.2.2.2.2.2.2.1 t _ ht).2
  obtain ⟨kE, hkE, -⟩ := Vm.findClass_spec k3
  obtain ⟨kC, hkC, -⟩ := Vm.findClass_spec g2
  have hasg : s.vm.assignable cellV.cls comp = true := by
    rcases hn with hn | hn
    · exact vb_asgS comp cellV.cls k3 (by rw [← hn]; exact g2)
    · exact vb_asgC (hT.2.2.2.1 _ hn) comp cellV.cls k3 g2
  obtain ⟨hin, hc⟩ := am_inb (cA := g.arr t) hx hj hl
  refine W.aast Y.1 Y.2.1 (am_arr1 hR ha ht0) (fun q h => by cases h) (fun h => by cases h) k1 k2 rfl hkE ⟨fun z => hin (Or.inl z), Nat.not_le.mp fun z => hin (Or.inr z)⟩ g1 (fun q h => by rw [h] at g3; cases g3) hkC hasg rfl rfl hd fun H1 e1 z oq => ?_
  rw [hc] at e1 ⊢
  exact am_wrote Y (hR.2.2.2.2 a _ _ ha ht0) h e1 z oq
end AME
/-! more rows: a boolean's write, copies, class objects, constants -/
section AMM
variable {g : am_G} {y : am_N} {d lo : Nat} {post : Option Value → am_S → Prop} {pc pc1 : Nat} {L : List (Option Value)} {st : List Value} {S : am_S}
theorem am_zast {tg t a j : Nat} {vs : List Value} {x v : Int32} (hd : am_D y.2.2.1 pc (.bastore) 1 pc1) (ht : am_ak[t]? = some .boolean) (ha : S.1 a = some (tg, .inl (t, vs))) (ht0 : tg ≠ 0) (hx : x = nI j) (hj : j < vs.length) (hl : vs.length < 2 ^ 31) (hv : narrow .boolean (.int v) = .int v) (h : am_W g y d lo post pc1 L st (am_up S a tg (.inl (t, vs.set j (.int v))))) : am_W g y d lo post pc L (.int v :: .int x :: .ref a :: st) S := by
  obtain ⟨hd, rfl⟩ := hd
  refine am_lift (by rfl) (fun k n rv RS h => ?_) h
  intro p e s m args below meth c H locs cells slots mc ms ls Y
  obtain ⟨hin, hc⟩ := am_inb (cA := g.arr t) hx hj hl
  refine W.zast Y.1 Y.2.1 (am_arr1 Y.2.2.2.2.2.2.2.2.2.2.2.1 ha ht0) (am_isArr (Y.2.2.2.2.2.2.2.1.2.2.2.2.2.2.1 t _ ht).1 vs) (fun z => by cases z) hin rfl rfl hd fun H1 e1 z oq => ?_
  rw [hc, hv] at e1
  rw [hc]
  exact am_wrote Y (Y.2.2.2.2.2.2.2.2.2.2.2.1.2.2.2.2 a _ _ ha ht0) h e1 z oq
theorem am_ldc {idx : Nat} {v : Int32} (hd : am_D y.2.2.1 pc (.ldc idx) 2 pc1) (hl : Cond.constant y.1 idx v ∈ am_wz) (h : am_W g y d lo post pc1 L (.int v :: st) S) : am_W g y d lo post pc L st S := by
  obtain ⟨hd, rfl⟩ := hd
  refine am_lift (by rfl) (fun k n rv RS h => ?_) h
  intro p e s m args below meth c H locs cells slots mc ms ls Y
  exact lv_ldc Y.1 Y.2.1 Y.2.2.2.2.2.1 (Y.2.2.2.2.2.2.2.1.word args hl) hd (h p e s m args below meth c H locs cells slots mc ms ls Y)
theorem am_ldcM {idx : Nat} (hd : am_D y.2.2.1 pc (.ldc idx) 2 pc1) (hl : Cond.classLink y.1 idx "[Ljava/lang/Object;" ∈ am_wz) (h : am_W g y d lo post pc1 L (.ref g.mir :: st) S) : am_W g y d lo post pc L st S := by
  obtain ⟨hd, rfl⟩ := hd
  refine am_lift (by rfl) (fun k n rv RS h => ?_) h
  intro p e s m args below meth c H locs cells slots mc ms ls Y
  exact va_ldcM Y.1 Y.2.1 Y.2.2.2.2.2.1 (Y.2.2.2.2.2.2.2.1.word args hl) Y.2.2.2.2.2.2.2.1.2.2.2.2.2.2.2.2.1 hd (h p e s m args below meth c H locs cells slots mc ms ls Y)
/-- the class of an array of objects -/
theorem am_getC {idx a tg t : Nat} {vs : List Value} (hd : am_D y.2.2.1 pc (.invokevirtual idx) 3 pc1) (hl : Cond.methodLink y.1 idx ⟨"java/lang/Object", "getClass", "()Ljava/lang/Class;"⟩ ∈ am_wz)
    (hsel : Cond.selects "[Ljava/lang/Object;" ⟨"java/lang/Object", "getClass", "()Ljava/lang/Class;"⟩ ⟨"java/lang/Object", "getClass", "()Ljava/lang/Class;"⟩ ∈ am_wz) (hinst : Cond.instanceMethod ⟨"java/lang/Object", "getClass", "()Ljava/lang/Class;"⟩ ∈ am_wz) (hnat : Cond.native ⟨"java/lang/Object", "getClass", "()Ljava/lang/Class;"⟩ ∈ am_wz)
    (ht : am_ak[t]? = some (.object "java/lang/Object")) (ha : S.1 a = some (tg, .inl (t, vs))) (ht0 : tg ≠ 0) (h1 : 1 ≤ d) (h8 : (st.map fun v => v.category).sum + 14 ≤ lo) (h : am_W g y d lo post pc1 L (.ref g.mir :: st) S) : am_W g y d lo post pc L (.ref a :: st) S := by
  obtain ⟨hd, rfl⟩ := hd
  refine am_lift (by rfl) (fun k n rv RS h => ?_) h
  intro p e s m args below meth c H locs cells slots mc ms ls Y
  have W1 := h p e s m args below meth c H locs cells slots mc ms ls Y
  obtain ⟨y1, y2, y3, y4, y5, y6, y7, hT, y9, y10, y11, hR, hL⟩ := Y
  refine va_getC (C := "[Ljava/lang/Object;") y1 y2 (y3.trans hL.1.symm) y6 (hT.word args hl) hT.2.2.2.2.2.2.2.2.2.1.use (hT.word args hsel) (hT.word args hinst) (hT.word args hnat) hT.2.2.2.2.2.2.2.2.1 ⟨_, am_arr1 hR ha ht0, rfl, ?_⟩ h1 h8 hd W1
  exact va_nmO (hT.2.2.2.2.2.2.1 t _ ht).2 rfl
/-- n places of xs from sp on, laid into ys from dp on -/
def am_cpy (xs ys : List Value) (sp dp n : Nat) : List Value := (List.range ys.length).map (fun k => if dp ≤ k ∧ k < dp + n then xs.getD (sp + (k - dp)) .null else ys.getD k .null)
theorem am_cpy_len (xs ys : List Value) (sp dp n : Nat) : (am_cpy xs ys sp dp n).length = ys.length := by simp [am_cpy]
theorem am_cellV (cA : ClassId) (vs : List Value) : am_cell cA vs = arrV cA vs.length (fun j => vs.getD j .null) := by
  unfold am_cell arrV
  congr 1
  apply Array.ext
  · simp
  · intro i h1 h2
    simp at h1
    simp [h1]
/-- null, or an object that may stand in an array of objects -/
def am_obj (S : am_S) (v : Value) : Prop := v = .null ∨ ∃ (b tb ci : Nat) (q : vw_C) (fs : List Value), v = .ref b ∧ S.1 b = some (tb, .inr (ci, fs)) ∧ am_cl[ci]? = some q ∧ (q.1, "java/lang/Object") ∈ am_nC
theorem am_copy {idx a0 a1 t tg0 tg1 sp dp N : Nat} {xs ys : List Value} (hd : am_D y.2.2.1 pc (.invokestatic idx) 3 pc1)
    (hl : Cond.methodLink y.1 idx arraycopyName ∈ am_wz) (hnat : Cond.native arraycopyName ∈ am_wz) (hstat : Cond.static arraycopyName ∈ am_wz) (hini : Cond.initialized "java/lang/System" ∈ am_wz)
    (ht : am_ak[t]? = some (.object "java/lang/Object")) (h0 : S.1 a0 = some (tg0, .inl (t, xs))) (h1 : S.1 a1 = some (tg1, .inl (t, ys))) (ht0 : tg0 ≠ 0) (ht1 : tg1 ≠ 0) (hs : sp + N ≤ xs.length) (hdd : dp + N ≤ ys.length) (hxs : xs.length < 2 ^ 31) (hys : ys.length < 2 ^ 31)
    (hel : ∀ i, i < N → am_obj S (xs.getD (sp + i) .null)) (hfr : 1 ≤ d) (h8 : (st.map fun v => v.category).sum + 18 ≤ lo)
    (h : am_W g y d lo post pc1 L st (am_up S a1 tg1 (.inl (t, am_cpy xs ys sp dp N)))) : am_W g y d lo post pc L (.int (nI N) :: .int (nI dp) :: .ref a1 :: .int (nI sp) :: .ref a0 :: st) S := by
  obtain ⟨hd, rfl⟩ := hd
  refine am_lift (by rfl) (fun k n rv RS h => ?_) h
  intro p e s m args below meth c H locs cells slots mc ms ls Y
  obtain ⟨y1, y2, y3, y4, y5, y6, y7, hT, y9, y10, y11, hR, hL⟩ := Y
  have hc0 : H[a0]? = some (am_cell (g.arr t) xs) := am_arr1 hR h0 ht0
  have hc1 : H[a1]? = some (am_cell (g.arr t) ys) := am_arr1 hR h1 ht1
  obtain ⟨-, k0, hk0, cm0, hkk0⟩ := am_isArr (hT.2.2.2.2.2.2.1 t _ ht).1 xs
  have e1 : copied (am_cell (g.arr t) xs) (am_cell (g.arr t) ys) (nI sp) (nI dp) (nI N) = am_cell (g.arr t) (am_cpy xs ys sp dp N) := by
    have h2 := va_copied (fun z : Value => z) (g.arr t) (g.arr t) (n0 := xs.length) (n1 := ys.length) (sp := sp) (dp := dp) (n := N) (fun j => xs.getD j .null) (fun j => ys.getD j .null) hs
    unfold copied
    rw [nI_clamp (by omega : sp < 2 ^ 31), nI_clamp (by omega : dp < 2 ^ 31), nI_clamp (by omega : N < 2 ^ 31), am_cellV, am_cellV, am_cellV, am_cpy_len]
    refine h2.trans ?_
    unfold arrV
    congr 1
    apply Array.ext
    · simp
    · intro i i1 i2
      simp at i1
      simp [am_cpy, va_cpy, i1]
  have hl1 : a1 < H.size := (Array.getElem?_eq_some_iff.mp hc1).1
  intro T hTh X
  obtain ⟨vm', X', step⟩ := X.arraycopy y1 y6 (hT.word args hl) (hT.word args hnat) (hT.word args hstat) (hT.word args hini) (src := a0) (dst := a1) (cs := am_cell (g.arr t) xs) (cd := am_cell (g.arr t) ys) (srcPos := nI sp) (destPos := nI dp) (n := nI N) (by rw [hTh]; exact hc0) (by rw [hTh]; exact hc1)
    (fun _ h => by cases h) (fun _ h => by cases h) (fun h => by cases h) (fun h => by cases h) hk0 hk0 hkk0 hkk0 rfl (nI_pos (by omega)) (nI_pos (by omega)) (nI_pos (by omega))
    (by rw [nI_toInt (by omega), nI_toInt (by omega)]; simp [am_cell]; omega)
    (by rw [nI_toInt (by omega), nI_toInt (by omega)]; simp [am_cell]; omega)
    (fun vm₁ hal i hi => by
      rw [nI_clamp (by omega : N < 2 ^ 31)] at hi
      have e : (am_cell (g.arr t) xs).slots.getD ((nI sp).toNatClampNeg + i) .null = xs.getD (sp + i) .null := by
        rw [nI_clamp (by omega : sp < 2 ^ 31)]
        simp [am_cell]
      rw [e]
      rcases hel i hi with hn | ⟨b, tb, ci, q, fs, hb, hb2, hq, hca⟩
      · rw [hn]; exact ⟨rfl, trivial⟩
      · rw [hb]
        obtain ⟨cellV, g1, g2, g3⟩ := am_recv hT hR hb2 hq
        obtain ⟨kC, hkC, -⟩ := Vm.findClass_spec g3
        obtain ⟨kA, comp, r1, r2, r3, -⟩ := (hT.2.2.2.2.2.2.1 t _ ht).2
        cases hk0.symm.trans r1
        cases hkk0.symm.trans r2
        obtain ⟨kE, hkE, -⟩ := Vm.findClass_spec r3
        obtain ⟨kC', hkC', -⟩ := hal.2.2 _ _ hkC
        obtain ⟨kE', hkE', -⟩ := hal.2.2 _ _ hkE
        refine ⟨rfl, cellV, (show T.heap[b]? = some cellV by rw [hTh]; exact g1), (fun q h => by rw [h] at g2; cases g2), ⟨kC', hkC'⟩, ?_, ?_⟩
        · exact ⟨kE', hkE'⟩
        · show vm₁.assignable _ _ = true
          rw [hal.assignable]
          exact vb_asgC (hT.2.2.2.1 _ hca) _ _ r3 g3)
    (g := F0 m pc ls (.int (nI N) :: .int (nI dp) :: .ref a1 :: .int (nI sp) :: .ref a0 :: st)) rfl (by rw [y3]; exact hL.1) (rest := st) rfl (by rw [y2]; exact hd) hfr (by
      have hw : nativeFrameWords "java/lang/System" "arraycopy" 5 = 7 := by decide
      show 2 * 0 + _ + _ ≤ lo
      omega)
  rw [e1] at X' step
  have hheap : ((T.setVm vm').setCell a1 (am_cell (g.arr t) (am_cpy xs ys sp dp N))).heap = H.setIfInBounds a1 (am_cell (g.arr t) (am_cpy xs ys sp dp N)) := by rw [← hTh]; rfl
  obtain ⟨t', a1', b1⟩ := h p e s m args below meth c (H.setIfInBounds a1 (am_cell (g.arr t) (am_cpy xs ys sp dp N))) _ cells slots mc ms ls ⟨y1, y2, y3, y4, y5, y6, y7, hT, y9, y10, (fun q hq => by
      rcases List.mem_append.mp hq with h | h
      · exact y11 q h
      · obtain ⟨z, -, hz⟩ := List.mem_map.mp h
        rw [← hz]
        exact hR.2.2.2.2 a1 _ _ h1 ht1), hR.put tg1 (hR.2.2.2.2 a1 _ _ h1 ht1) (by simp) (fun q hq => by simp [Array.getElem?_setIfInBounds, Ne.symm hq]) (Or.inl (show (H.setIfInBounds a1 _)[a1]? = some (am_cell (g.arr t) (am_cpy xs ys sp dp N)) by simp [Array.getElem?_setIfInBounds, hl1])), hL⟩ _ hheap X'
  exact ⟨t', step t' a1', b1⟩
end AMM
