/-! one number of the rows changes -/
theorem fc_up_at (s : fc_S) (c : Nat) (rows : List (List Int32)) (q : Nat) : fc_up s c rows q = if q = c then rows else s q := rfl
theorem fc_up_same (s : fc_S) (c : Nat) (rows : List (List Int32)) : fc_up s c rows c = rows := if_pos rfl
theorem fc_up_ne {s : fc_S} {c q : Nat} (rows : List (List Int32)) (h : q ≠ c) : fc_up s c rows q = s q := if_neg h
theorem fc_put_ne {s : fc_S} {c q : Nat} (k j : Nat) (x : Int32) (h : q ≠ c) : fc_put s c k j x q = s q := if_neg h
theorem fc_get_ne {s : fc_S} {c q : Nat} (k j : Nat) (x : Int32) (h : q ≠ c) (k' j' : Nat) : fc_get (fc_put s c k j x) q k' j' = fc_get s q k' j' := by
  unfold fc_get
  rw [fc_put_ne k j x h]
theorem fc_put_len (s : fc_S) (c k j : Nat) (x : Int32) (q : Nat) : (fc_put s c k j x q).length = (s q).length := by
  unfold fc_put
  rw [fc_up_at]
  split
  · next h => subst h; simp
  · rfl
theorem fc_get_put {s : fc_S} {c k : Nat} {row : List Int32} (hk : (s c)[k]? = some row) (j : Nat) (x : Int32) (hj : j < row.length) (j' : Nat) : fc_get (fc_put s c k j x) c k j' = if j' = j then x else fc_get s c k j' := by
  have h1 := (List.getElem?_eq_some_iff.mp hk).1
  unfold fc_get fc_put
  rw [fc_up_same]
  simp only [List.getD_eq_getElem?_getD, List.getElem?_set_self h1, hk, Option.getD_some]
  by_cases e : j' = j
  · subst e; simp [hj]
  · rw [List.getElem?_set_ne (Ne.symm e), if_neg e]
theorem am_nd {as : List Nat} {j k a : Nat} (h : as.Nodup) (hj : as[j]? = some a) (hk : as[k]? = some a) : j = k := by
  induction as generalizing j k with
  | nil => simp at hj
  | cons x xs ih =>
    rw [List.nodup_cons] at h
    cases j with
    | zero =>
      cases k with
      | zero => rfl
      | succ k =>
        simp at hj hk
        subst hj
        exact absurd (List.mem_of_getElem? hk) h.1
    | succ j =>
      cases k with
      | zero =>
        simp at hj hk
        subst hk
        exact absurd (List.mem_of_getElem? hj) h.1
      | succ k =>
        simp at hj hk
        rw [ih h.2 hj hk]
section CLP
variable {g : am_G} {e nw ns room idle : Nat} {A : Nat → Nat} {s : cl_S} {S : am_S}
def cl_st (s : cl_S) (ps : fc_S) : cl_S := (ps, s.2)
/-- the end of a call that changes the fabric -/
def cl_Q (e nw ns room idle : Nat) (A : Nat → Nat) (s : cl_S) (S : am_S) (ps : fc_S) (kc kn : Nat) (S' : am_S) : Prop := ∃ s' : cl_S, s'.1 = ps ∧ (s'.2.2.1 ≤ s.2.2.1 + kc ∧ s'.2.2.2 ≤ s.2.2.2 + kn) ∧ cl_P e nw ns room idle A s' S' ∧ am_fr cl_X S S'
theorem cl_Q.id (hS : cl_P e nw ns room idle A s S) : cl_Q e nw ns room idle A s S s.1 0 0 S := ⟨s, rfl, ⟨Nat.le_refl _, Nat.le_refl _⟩, hS, am_fr.refl _ _⟩
/-- a port's number: the other end, or whether it is up -/
theorem cl_putP (hn : ns ≤ 5) (hS : cl_P e nw ns room idle A s S) {q : Nat} (hq : q < 4 * ns) {h o u : Int32} (hr : s.1 (100 + q) = [[h, o, u]]) (j : Nat) (hj : j = 1 ∨ j = 2) (x : Int32) :
    cl_P e nw ns room idle A (cl_st s (fc_put s.1 (100 + q) 0 j x)) (am_up S (A (100 + q)) (10 * (100 + q) + 1) (.inr (am_cPt, [Value.ref (A (200 + q)), cl_hv s h, .int o, .int u].set (j + 1) (.int x)))) ∧ am_fr cl_X S (am_up S (A (100 + q)) (10 * (100 + q) + 1) (.inr (am_cPt, [Value.ref (A (200 + q)), cl_hv s h, .int o, .int u].set (j + 1) (.int x)))) := by
  have hp := cl_port hS hq
  have g0 : ∀ j', fc_get s.1 (100 + q) 0 j' = ([h, o, u] : List Int32).getD j' 0 := fun j' => by unfold fc_get; rw [hr]; rfl
  have gp : ∀ j', fc_get (fc_put s.1 (100 + q) 0 j x) (100 + q) 0 j' = if j' = j then x else ([h, o, u] : List Int32).getD j' 0 := fun j' => by
    rw [fc_get_put (row := [h, o, u]) (by rw [hr]; rfl) j x (by show j < 3; omega), g0]
  refine ⟨?_, am_fr.up hp (by unfold cl_X; omega)⟩
  refine cl_P.upd (100 + q) hS (am_fr.up hp (by unfold cl_Xc; omega)) hS.1.2.1 hS.1.2.2 (fun c hc => ⟨fc_put_ne _ _ _ hc, rfl⟩) (fun _ _ _ => rfl) ?_
  refine ⟨fun z => ?_, fun z => ?_, fun z => ?_, fun z => ?_, fun z => ?_, fun z => ?_, fun z => ?_, fun q' hq' z => ?_, fun z => ?_⟩
  rotate_left 7
  · have e1 : q' = q := by omega
    subst e1
    show (am_up S _ _ _).1 (A (100 + q')) = _
    rw [am_up_at]
    show _ = some (_, Sum.inr (am_cPt, [_, cl_hv (cl_st s _) (fc_get (fc_put s.1 (100 + q') 0 j x) (100 + q') 0 0), .int (fc_get (fc_put s.1 (100 + q') 0 j x) (100 + q') 0 1), .int (fc_get (fc_put s.1 (100 + q') 0 j x) (100 + q') 0 2)]))
    rw [gp, gp, gp]
    rcases hj with rfl | rfl <;> rfl
  · unfold cl_isL at z
    have hn : ¬ (200 ≤ 100 + q ∧ 100 + q < 200 + 4 * ns) ∨ True := Or.inr trivial
    have hl : cl_L e A s (100 + q) S := cl_list hS z
    exact absurd z (by
      intro z
      obtain ⟨mc, ea, ta, vs, k1, -⟩ := hl.1
      rw [show S.1 (A (100 + q)) = _ from hp] at k1
      cases k1)
  all_goals omega
def cl_cls (c : Nat) : Nat := if c = 1 then am_cHo else if c < 20 then am_cGd else am_cRl
def cl_dir (ns c : Nat) : Prop := c = 1 ∨ (10 ≤ c ∧ c < 10 + ns) ∨ (20 ≤ c ∧ c < 20 + ns)
def cl_wid (c : Nat) : Nat := if c = 1 then 6 else if c < 20 then 4 else 6
theorem cl_eldir {c a : Nat} {row : List Int32} {S : am_S} (hn : ns ≤ 5) (hc : cl_dir ns c) : cl_el c a row S ↔ S.1 a = some (10 * c + 3, .inr (cl_cls c, row.map Value.int)) ∧ row.length = cl_wid c := by
  unfold cl_dir at hc
  unfold cl_el cl_cls cl_wid
  by_cases c1 : c = 1
  · subst c1; simp
  · by_cases c20 : c < 20
    · simp [c1, c20, show c ≠ 7 by omega]
    · simp [c1, c20, show c ≠ 7 by omega, show c < 30 by omega]
/-- an object of a list (a guard, a rule, a host) changes -/
theorem cl_setel (hn : ns ≤ 5) (hS : cl_P e nw ns room idle A s S) {c k a : Nat} {row row' : List Int32} (hc : cl_dir ns c) (ha : (s.2.1 c)[k]? = some a) (hr : (s.1 c)[k]? = some row) (hl : row'.length = row.length) :
    cl_P e nw ns room idle A (cl_st s (fc_up s.1 c ((s.1 c).set k row'))) (am_up S a (10 * c + 3) (.inr (cl_cls c, row'.map Value.int))) ∧ am_fr cl_X S (am_up S a (10 * c + 3) (.inr (cl_cls c, row'.map Value.int))) := by
  have hels : cl_els s c S := by
    rcases hc with rfl | hc | hc
    · exact (cl_hosts hS).2.2
    · exact (cl_list hS (c := c) (by unfold cl_isL; omega)).2
    · exact (cl_list hS (c := c) (by unfold cl_isL; omega)).2
  obtain ⟨h1, h2⟩ := (cl_eldir hn hc).mp (hels.2.2 k a row ha hr)
  have hc30 : c < 30 := by unfold cl_dir at hc; omega
  have hX : cl_X (10 * c + 3) := by unfold cl_X; omega
  have hf : am_fr (fun t => t = 10 * c + 3) S (am_up S a (10 * c + 3) (.inr (cl_cls c, row'.map Value.int))) := am_fr.up h1 rfl
  refine ⟨?_, am_fr.up h1 hX⟩
  have hels' : cl_els (cl_st s (fc_up s.1 c ((s.1 c).set k row'))) c (am_up S a (10 * c + 3) (.inr (cl_cls c, row'.map Value.int))) := by
    refine ⟨?_, hels.2.1, fun j b r hb hrr => ?_⟩
    · show (s.2.1 c).length = (fc_up s.1 c ((s.1 c).set k row') c).length
      rw [fc_up_same, List.length_set]
      exact hels.1
    · have hrr' : ((s.1 c).set k row')[j]? = some r := by
        have : (fc_up s.1 c ((s.1 c).set k row') c)[j]? = some r := hrr
        rw [fc_up_same] at this
        exact this
      by_cases ej : j = k
      · subst ej
        have eb : b = a := Option.some.inj (hb.symm.trans ha)
        subst eb
        rw [List.getElem?_set_self (List.getElem?_eq_some_iff.mp hr).1] at hrr'
        cases hrr'
        exact (cl_eldir hn hc).mpr ⟨am_up_at _ _ _ _, by rw [hl]; exact h2⟩
      · rw [List.getElem?_set_ne (Ne.symm ej)] at hrr'
        have hb' : (s.2.1 c)[j]? = some b := hb
        have hne : b ≠ a := by
          rintro rfl
          have hnd := hels.2.1 hc30
          exact ej (am_nd hnd hb' ha)
        obtain ⟨g1, g2⟩ := (cl_eldir hn hc).mp (hels.2.2 j b r hb' hrr')
        exact (cl_eldir hn hc).mpr ⟨by rw [am_up_ne _ _ _ hne]; exact g1, g2⟩
  refine cl_P.upd c hS (hf.mono (fun t ht => by unfold cl_Xc; omega)) hS.1.2.1 hS.1.2.2 (fun q hq => ⟨fc_up_ne _ hq, rfl⟩) (fun _ _ _ => rfl) ?_
  unfold cl_dir at hc
  refine ⟨fun z => ?_, fun z => ?_, fun z => ?_, fun z => ?_, fun z => ?_, fun z => ?_, fun z => ?_, fun q' hq' z => ?_, fun z => ?_⟩
  rotate_left 1
  · subst z
    exact ⟨hf.keep (cl_hosts hS).1 (by omega), (cl_hosts hS).2.1, hels'⟩
  rotate_left 6
  · have h0 := (cl_list hS z).1
    refine ⟨?_, hels'⟩
    exact h0.fr hf (by omega) (by omega) (by omega)
  all_goals omega
end CLP
