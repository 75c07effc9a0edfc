/-! the class's cells. A state: the rows, the addresses of the objects that hold them, and how many cells and slots there are at most -/
abbrev cl_S : Type := fc_S × (Nat → List Nat) × Nat × Nat
/-- what never changes: the shared empty arrays, the array of switches, the switches, their arrays of ports -/
def cl_F (e nw ns room : Nat) (A : Nat → Nat) (S : am_S) : Prop := S.1 e = some (0, .inl (am_kO, [])) ∧ S.1 nw = some (0, .inl (am_kI, [])) ∧ S.1 (A 8) = some (0, .inl (am_kN, (List.range ns).map (fun i => Value.ref (A (50 + i))))) ∧ ∀ i, i < ns →
  S.1 (A (50 + i)) = some (0, .inr (am_cNd, [.int (nI i), .int (nI room), .ref (A (60 + i)), .ref (A (10 + i)), .ref (A (20 + i)), .ref (A (30 + i)), .ref (A (40 + i))])) ∧ S.1 (A (60 + i)) = some (0, .inl (am_kP, [.ref (A (100 + (4 * i + 0))), .ref (A (100 + (4 * i + 1))), .ref (A (100 + (4 * i + 2))), .ref (A (100 + (4 * i + 3)))]))
/-- a frame, a course -/
def cl_fr (a : Nat) (row : List Int32) (S : am_S) : Prop := row.length = 3 ∧ ((row.getD 0 0 = -1 ∧ S.1 a = some (0, .inr (am_cFr, [.null, .int (row.getD 1 0)]))) ∨ (row.getD 0 0 ≠ -1 ∧ ∃ b, S.1 a = some (0, .inr (am_cFr, [.ref b, .int (-1)])) ∧ S.1 b = some (0, .inr (am_cDg, row.map Value.int))))
def cl_co (a : Nat) (row : List Int32) (S : am_S) : Prop := 8 ≤ row.length ∧ ∃ (w : Nat) (kv : Value), S.1 a = some (73, .inr (am_cCo, [.int (row.getD 0 0), .int (row.getD 1 0), .int (row.getD 2 0), .ref w, kv, .int (row.getD 3 0), .int (row.getD 4 0), .int (row.getD 5 0)])) ∧ S.1 w = some (0, .inl (am_kI, (row.drop 8).map Value.int)) ∧
  ((row.getD 6 0 = 0 ∧ kv = .null) ∨ (row.getD 6 0 ≠ 0 ∧ ∃ b, kv = .ref b ∧ S.1 b = some (0, .inr (am_cDg, [.int (row.getD 0 0), .int (row.getD 1 0), .int (row.getD 7 0)]))))
/-- the object at a holds a row of the rows c -/
def cl_el (c a : Nat) (row : List Int32) (S : am_S) : Prop :=
  if c = 1 then S.1 a = some (13, .inr (am_cHo, row.map Value.int)) ∧ row.length = 6
  else if c = 7 then cl_co a row S
  else if c < 20 then S.1 a = some (10 * c + 3, .inr (am_cGd, row.map Value.int)) ∧ row.length = 4
  else if c < 30 then S.1 a = some (10 * c + 3, .inr (am_cRl, row.map Value.int)) ∧ row.length = 6
  else if c < 100 then S.1 a = some (0, .inr (am_cMs, row.map Value.int)) ∧ row.length = 5
  else cl_fr a row S
def cl_isL (ns c : Nat) : Prop := c = 7 ∨ (10 ≤ c ∧ c < 10 + ns) ∨ (20 ≤ c ∧ c < 20 + ns) ∨ (30 ≤ c ∧ c < 30 + ns) ∨ (40 ≤ c ∧ c < 40 + ns) ∨ (200 ≤ c ∧ c < 200 + 4 * ns)
def cl_els (s : cl_S) (c : Nat) (S : am_S) : Prop := (s.2.1 c).length = (s.1 c).length ∧ (c < 30 → (s.2.1 c).Nodup) ∧ ∀ (j a : Nat) (row : List Int32), (s.2.1 c)[j]? = some a → (s.1 c)[j]? = some row → cl_el c a row S
def cl_L (e : Nat) (A : Nat → Nat) (s : cl_S) (c : Nat) (S : am_S) : Prop := am_li e S (10 * c + 1) (A c) (s.2.1 c) ∧ cl_els s c S
/-- the host that a port shows -/
def cl_hv (s : cl_S) (h : Int32) : Value := if h = -1 then .null else .ref ((s.2.1 1).getD h.toNatClampNeg 0)
def cl_pt (A : Nat → Nat) (s : cl_S) (q : Nat) (S : am_S) : Prop := S.1 (A (100 + q)) = some (10 * (100 + q) + 1, .inr (am_cPt, [.ref (A (200 + q)), cl_hv s (fc_get s.1 (100 + q) 0 0), .int (fc_get s.1 (100 + q) 0 1), .int (fc_get s.1 (100 + q) 0 2)]))
def cl_arr (A : Nat → Nat) (s : cl_S) (c k : Nat) (S : am_S) : Prop := S.1 (A c) = some (10 * c + 1, .inl (k, ((s.1 c).getD 0 []).map Value.int))
/-- the cells of the rows c -/
def cl_comp (e ns idle : Nat) (A : Nat → Nat) (s : cl_S) (c : Nat) (S : am_S) : Prop :=
  (c = 0 → S.1 (A 0) = some (1, .inr (am_cFF, [.int (nI idle), .ref (A 8), .ref (A 1), .ref (A 2), .int (fc_get s.1 0 0 1), .int (fc_get s.1 0 0 0)]))) ∧
  (c = 1 → S.1 (A 1) = some (11, .inl (am_kH, (s.2.1 1).map Value.ref ++ List.replicate (6 - (s.2.1 1).length) .null)) ∧ (s.2.1 1).length ≤ 6 ∧ cl_els s 1 S) ∧
  (c = 2 → S.1 (A 2) = some (21, .inr (am_cCt, [.ref (A 8), .ref (A 3), .ref (A 4), .ref (A 5), .ref (A 7), .ref (A 6), .int (fc_get s.1 2 0 0)]))) ∧
  (c = 3 → cl_arr A s 3 am_kI S) ∧ (c = 4 → cl_arr A s 4 am_kZ S) ∧ (c = 5 → cl_arr A s 5 am_kI S) ∧ (c = 6 → ∃ f : Nat → Int32, S.1 (A 6) = some (61, .inl (am_kI, fr_ls ns f))) ∧
  (∀ q, q < 4 * ns → c = 100 + q → cl_pt A s q S) ∧ (cl_isL ns c → cl_L e A s c S)
def cl_P (e nw ns room idle : Nat) (A : Nat → Nat) (s : cl_S) (S : am_S) : Prop := (am_ok S ∧ S.2.1 ≤ s.2.2.1 ∧ S.2.2 ≤ s.2.2.2) ∧ cl_F e nw ns room A S ∧ ∀ c, cl_comp e ns idle A s c S
def cl_X (t : Nat) : Prop := 1 ≤ t ∧ t < 10000
/-- only cells of the rows c change -/
def cl_Xc (c : Nat) (t : Nat) : Prop := 10 * c + 1 ≤ t ∧ t ≤ 10 * c + 3
theorem cl_F.fr {e nw ns room : Nat} {A : Nat → Nat} {S S' : am_S} {X : Nat → Prop} (h : cl_F e nw ns room A S) (hf : am_fr X S S') (hX : ¬ X 0) : cl_F e nw ns room A S' :=
  ⟨hf.keep h.1 hX, hf.keep h.2.1 hX, hf.keep h.2.2.1 hX, fun i hi => ⟨hf.keep (h.2.2.2 i hi).1 hX, hf.keep (h.2.2.2 i hi).2 hX⟩⟩
theorem cl_fr.fr {a : Nat} {row : List Int32} {S S' : am_S} {X : Nat → Prop} (h : cl_fr a row S) (hf : am_fr X S S') (hX : ¬ X 0) : cl_fr a row S' := by
  obtain ⟨h1, ⟨h2, h3⟩ | ⟨h2, b, h3, h4⟩⟩ := h
  · exact ⟨h1, Or.inl ⟨h2, hf.keep h3 hX⟩⟩
  · exact ⟨h1, Or.inr ⟨h2, b, hf.keep h3 hX, hf.keep h4 hX⟩⟩
theorem cl_co.fr {a : Nat} {row : List Int32} {S S' : am_S} {X : Nat → Prop} (h : cl_co a row S) (hf : am_fr X S S') (hX : ¬ X 0) (hX7 : ¬ X 73) : cl_co a row S' := by
  obtain ⟨h1, w, kv, h2, h3, ⟨h4, h5⟩ | ⟨h4, b, h5, h6⟩⟩ := h
  · exact ⟨h1, w, kv, hf.keep h2 hX7, hf.keep h3 hX, Or.inl ⟨h4, h5⟩⟩
  · exact ⟨h1, w, kv, hf.keep h2 hX7, hf.keep h3 hX, Or.inr ⟨h4, b, h5, hf.keep h6 hX⟩⟩
theorem cl_el.fr {c a : Nat} {row : List Int32} {S S' : am_S} {X : Nat → Prop} (h : cl_el c a row S) (hf : am_fr X S S') (hX : ¬ X 0) (hc : ¬ X (10 * c + 3)) : cl_el c a row S' := by
  unfold cl_el at h ⊢
  by_cases c1 : c = 1
  · subst c1
    rw [if_pos rfl] at h ⊢
    exact ⟨hf.keep h.1 hc, h.2⟩
  rw [if_neg c1] at h ⊢
  by_cases c7 : c = 7
  · subst c7
    rw [if_pos rfl] at h ⊢
    exact h.fr hf hX hc
  rw [if_neg c7] at h ⊢
  by_cases c20 : c < 20
  · rw [if_pos c20] at h ⊢
    exact ⟨hf.keep h.1 hc, h.2⟩
  rw [if_neg c20] at h ⊢
  by_cases c30 : c < 30
  · rw [if_pos c30] at h ⊢
    exact ⟨hf.keep h.1 hc, h.2⟩
  rw [if_neg c30] at h ⊢
  by_cases c100 : c < 100
  · rw [if_pos c100] at h ⊢
    exact ⟨hf.keep h.1 hX, h.2⟩
  rw [if_neg c100] at h ⊢
  exact h.fr hf hX
theorem am_li.fr {e t w : Nat} {as : List Nat} {S S' : am_S} {X : Nat → Prop} (h : am_li e S t w as) (hf : am_fr X S S') (hX : ¬ X 0) (h1 : ¬ X t) (h2 : ¬ X (t + 1)) : am_li e S' t w as := by
  obtain ⟨mc, ea, ta, vs, k1, k2, k3, k4, k5⟩ := h
  refine ⟨mc, ea, ta, vs, hf.keep k1 h1, hf.keep k2 ?_, k3, k4, k5⟩
  rcases k5 with k5 | k5
  · rw [k5.1]; exact h2
  · rw [k5.1]; exact hX
theorem cl_els.fr {s s' : cl_S} {c : Nat} {S S' : am_S} {X : Nat → Prop} (h : cl_els s c S) (e1 : s'.1 c = s.1 c) (e2 : s'.2.1 c = s.2.1 c) (hf : am_fr X S S') (hX : ¬ X 0) (hc : ¬ X (10 * c + 3)) : cl_els s' c S' := by
  refine ⟨by rw [e1, e2]; exact h.1, by rw [e2]; exact h.2.1, fun j a row ha hr => ?_⟩
  rw [e2] at ha
  rw [e1] at hr
  exact (h.2.2 j a row ha hr).fr hf hX hc
/-- cells of other rows change: these stay -/
theorem cl_comp.fr {e ns idle c : Nat} {A : Nat → Nat} {s s' : cl_S} {S S' : am_S} {X : Nat → Prop} (h : cl_comp e ns idle A s c S) (e1 : s'.1 c = s.1 c) (e2 : s'.2.1 c = s.2.1 c) (hh : ∀ q, q < 4 * ns → c = 100 + q → cl_hv s' (fc_get s.1 (100 + q) 0 0) = cl_hv s (fc_get s.1 (100 + q) 0 0)) (hf : am_fr X S S') (hX : ¬ X 0) (hc : ∀ j, 1 ≤ j → j ≤ 3 → ¬ X (10 * c + j)) : cl_comp e ns idle A s' c S' := by
  obtain ⟨h0, h1, h2, h3, h4, h5, h6, h7, h8⟩ := h
  have g : ∀ k j, fc_get s'.1 c k j = fc_get s.1 c k j := fun k j => by unfold fc_get; rw [e1]
  refine ⟨?_, ?_, ?_, ?_, ?_, ?_, ?_, ?_, ?_⟩
  · rintro rfl
    rw [g, g]
    exact hf.keep (h0 rfl) (hc 1 (by omega) (by omega))
  · rintro rfl
    obtain ⟨k1, k2, k3⟩ := h1 rfl
    refine ⟨?_, by rw [e2]; exact k2, k3.fr e1 e2 hf hX (hc 3 (by omega) (by omega))⟩
    rw [e2]
    exact hf.keep k1 (hc 1 (by omega) (by omega))
  · rintro rfl
    rw [g]
    exact hf.keep (h2 rfl) (hc 1 (by omega) (by omega))
  · rintro rfl
    unfold cl_arr
    rw [e1]
    exact hf.keep (h3 rfl) (hc 1 (by omega) (by omega))
  · rintro rfl
    unfold cl_arr
    rw [e1]
    exact hf.keep (h4 rfl) (hc 1 (by omega) (by omega))
  · rintro rfl
    unfold cl_arr
    rw [e1]
    exact hf.keep (h5 rfl) (hc 1 (by omega) (by omega))
  · rintro rfl
    obtain ⟨f, k⟩ := h6 rfl
    exact ⟨f, hf.keep k (hc 1 (by omega) (by omega))⟩
  · rintro q hq rfl
    have k := h7 q hq rfl
    unfold cl_pt at k ⊢
    rw [g, g, g, hh q hq rfl]
    exact hf.keep k (hc 1 (by omega) (by omega))
  · intro hl
    obtain ⟨k1, k2⟩ := h8 hl
    refine ⟨?_, k2.fr e1 e2 hf hX (hc 3 (by omega) (by omega))⟩
    rw [e2]
    exact k1.fr hf hX (hc 1 (by omega) (by omega)) (hc 2 (by omega) (by omega))
/-- the rows c0 alone have changed -/
theorem cl_P.upd {e nw ns room idle : Nat} {A : Nat → Nat} {s s' : cl_S} {S S' : am_S} (c0 : Nat) (h : cl_P e nw ns room idle A s S) (hf : am_fr (cl_Xc c0) S S') (b1 : S'.2.1 ≤ s'.2.2.1) (b2 : S'.2.2 ≤ s'.2.2.2)
    (ho : ∀ c, c ≠ c0 → s'.1 c = s.1 c ∧ s'.2.1 c = s.2.1 c) (hh : ∀ q, q < 4 * ns → 100 + q ≠ c0 → cl_hv s' (fc_get s.1 (100 + q) 0 0) = cl_hv s (fc_get s.1 (100 + q) 0 0)) (hc : cl_comp e ns idle A s' c0 S') : cl_P e nw ns room idle A s' S' := by
  obtain ⟨⟨o, -, -⟩, hF, hC⟩ := h
  have hX : ¬ cl_Xc c0 0 := fun z => by unfold cl_Xc at z; omega
  refine ⟨⟨hf.2.2.2 o, b1, b2⟩, hF.fr hf hX, fun c => ?_⟩
  by_cases ec : c = c0
  · subst ec; exact hc
  · refine (hC c).fr (ho c ec).1 (ho c ec).2 (fun q hq he => hh q hq (by rw [← he]; exact ec)) hf hX (fun j j1 j2 z => ?_)
    unfold cl_Xc at z
    omega
