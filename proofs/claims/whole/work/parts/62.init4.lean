/-! the class: the first rows -/
section CID
variable {g : am_G} {e nw ns room idle : Nat} {A : Nat → Nat} {s : cl_S} {S : am_S}
/-- where the cells of the rows lie at the start -/
def ci_A (a z0 ns c : Nat) : Nat :=
  if c = 0 then a else if c = 8 then z0 else if c = 1 then z0 + 1 + 14 * ns else if c = 2 then z0 + 2 + 14 * ns else if c = 3 then z0 + 3 + 14 * ns else if c = 4 then z0 + 4 + 14 * ns else if c = 5 then z0 + 5 + 14 * ns else if c = 7 then z0 + 6 + 14 * ns else if c = 6 then z0 + 7 + 14 * ns
  else if c < 20 then z0 + 2 + 14 * (c - 10) + 9 else if c < 30 then z0 + 2 + 14 * (c - 20) + 10 else if c < 40 then z0 + 2 + 14 * (c - 30) + 11 else if c < 50 then z0 + 2 + 14 * (c - 40) + 12
  else if c < 60 then z0 + 1 + 14 * (c - 50) else if c < 100 then z0 + 2 + 14 * (c - 60) else if c < 200 then z0 + 2 + 14 * ((c - 100) / 4) + 1 + 2 * ((c - 100) % 4) else z0 + 2 + 14 * ((c - 200) / 4) + 2 + 2 * ((c - 200) % 4)
/-- the first rows -/
def fc_0 (ns c : Nat) : List (List Int32) :=
  if c = 0 then [[0, 0]] else if c = 2 then [[0]] else if c = 3 then [List.replicate (4 * ns) (-1)] else if c = 4 then [List.replicate (4 * ns) 0] else if c = 5 then [List.replicate 6 (-1)] else if 100 ≤ c ∧ c < 200 then [[-1, -1, 0]] else []
theorem fc_0_nil {ns c : Nat} (h0 : c ≠ 0) (h2 : c ≠ 2) (h3 : c ≠ 3) (h4 : c ≠ 4) (h5 : c ≠ 5) (h : ¬ (100 ≤ c ∧ c < 200)) : fc_0 ns c = [] := by
  unfold fc_0
  rw [if_neg h0, if_neg h2, if_neg h3, if_neg h4, if_neg h5, if_neg h]
def cl_s0 (ns : Nat) (S : am_S) : cl_S := (fc_0 ns, (fun _ => []), S.2.1, S.2.2)
theorem cl_start {a z0 : Nat} (hn : ns ≤ 5) (o : am_ok S) (hE : S.1 e = some (0, .inl (am_kO, []))) (hNW : S.1 nw = some (0, .inl (am_kI, []))) (h8 : S.1 z0 = some (0, .inl (am_kN, ci_row z0 ns ns)))
    (hnd : ∀ j, j < ns → S.1 (z0 + 1 + 14 * j) = some (0, .inr (am_cNd, [.int (nI j), .int (nI room), .ref (z0 + 2 + 14 * j), .ref (z0 + 2 + 14 * j + 9), .ref (z0 + 2 + 14 * j + 10), .ref (z0 + 2 + 14 * j + 11), .ref (z0 + 2 + 14 * j + 12)])) ∧ ci_nd e j (z0 + 2 + 14 * j) S)
    (h0 : S.1 a = some (1, .inr (am_cFF, [.int (nI idle), .ref z0, .ref (z0 + 1 + 14 * ns), .ref (z0 + 2 + 14 * ns), .int 0, .int 0]))) (h1 : S.1 (z0 + 1 + 14 * ns) = some (11, .inl (am_kH, List.replicate 6 Value.null)))
    (h2 : S.1 (z0 + 2 + 14 * ns) = some (21, .inr (am_cCt, [.ref z0, .ref (z0 + 3 + 14 * ns), .ref (z0 + 4 + 14 * ns), .ref (z0 + 5 + 14 * ns), .ref (z0 + 6 + 14 * ns), .ref (z0 + 7 + 14 * ns), .int 0])))
    (h3 : S.1 (z0 + 3 + 14 * ns) = some (31, .inl (am_kI, List.replicate (4 * ns) (.int (-1))))) (h4 : S.1 (z0 + 4 + 14 * ns) = some (41, .inl (am_kZ, List.replicate (4 * ns) (.int 0)))) (h5 : S.1 (z0 + 5 + 14 * ns) = some (51, .inl (am_kI, List.replicate 6 (.int (-1)))))
    (h7 : S.1 (z0 + 6 + 14 * ns) = some (71, (.inr (am_cAL, [.int 0, .ref e, .int 0])))) (h6 : S.1 (z0 + 7 + 14 * ns) = some (61, .inl (am_kI, List.replicate ns (.int 0)))) : cl_P e nw ns room idle (ci_A a z0 ns) (cl_s0 ns S) S := by
  have A50 : ∀ j, j < ns → ci_A a z0 ns (50 + j) = z0 + 1 + 14 * j := fun j hj => by unfold ci_A; rw [if_neg (show ¬ 50 + j = 0 by omega), if_neg (show ¬ 50 + j = 8 by omega), if_neg (show ¬ 50 + j = 1 by omega), if_neg (show ¬ 50 + j = 2 by omega), if_neg (show ¬ 50 + j = 3 by omega), if_neg (show ¬ 50 + j = 4 by omega), if_neg (show ¬ 50 + j = 5 by omega), if_neg (show ¬ 50 + j = 7 by omega), if_neg (show ¬ 50 + j = 6 by omega), if_neg (show ¬ 50 + j < 20 by omega), if_neg (show ¬ 50 + j < 30 by omega), if_neg (show ¬ 50 + j < 40 by omega), if_neg (show ¬ 50 + j < 50 by omega), if_pos (show 50 + j < 60 by omega)]; omega
  have A60 : ∀ j, j < ns → ci_A a z0 ns (60 + j) = z0 + 2 + 14 * j := fun j hj => by unfold ci_A; rw [if_neg (show ¬ 60 + j = 0 by omega), if_neg (show ¬ 60 + j = 8 by omega), if_neg (show ¬ 60 + j = 1 by omega), if_neg (show ¬ 60 + j = 2 by omega), if_neg (show ¬ 60 + j = 3 by omega), if_neg (show ¬ 60 + j = 4 by omega), if_neg (show ¬ 60 + j = 5 by omega), if_neg (show ¬ 60 + j = 7 by omega), if_neg (show ¬ 60 + j = 6 by omega), if_neg (show ¬ 60 + j < 20 by omega), if_neg (show ¬ 60 + j < 30 by omega), if_neg (show ¬ 60 + j < 40 by omega), if_neg (show ¬ 60 + j < 50 by omega), if_neg (show ¬ 60 + j < 60 by omega), if_pos (show 60 + j < 100 by omega)]; omega
  have A10 : ∀ j, j < ns → ci_A a z0 ns (10 + j) = z0 + 2 + 14 * j + 9 := fun j hj => by unfold ci_A; rw [if_neg (show ¬ 10 + j = 0 by omega), if_neg (show ¬ 10 + j = 8 by omega), if_neg (show ¬ 10 + j = 1 by omega), if_neg (show ¬ 10 + j = 2 by omega), if_neg (show ¬ 10 + j = 3 by omega), if_neg (show ¬ 10 + j = 4 by omega), if_neg (show ¬ 10 + j = 5 by omega), if_neg (show ¬ 10 + j = 7 by omega), if_neg (show ¬ 10 + j = 6 by omega), if_pos (show 10 + j < 20 by omega)]; omega
  have A20 : ∀ j, j < ns → ci_A a z0 ns (20 + j) = z0 + 2 + 14 * j + 10 := fun j hj => by unfold ci_A; rw [if_neg (show ¬ 20 + j = 0 by omega), if_neg (show ¬ 20 + j = 8 by omega), if_neg (show ¬ 20 + j = 1 by omega), if_neg (show ¬ 20 + j = 2 by omega), if_neg (show ¬ 20 + j = 3 by omega), if_neg (show ¬ 20 + j = 4 by omega), if_neg (show ¬ 20 + j = 5 by omega), if_neg (show ¬ 20 + j = 7 by omega), if_neg (show ¬ 20 + j = 6 by omega), if_neg (show ¬ 20 + j < 20 by omega), if_pos (show 20 + j < 30 by omega)]; omega
  have A30 : ∀ j, j < ns → ci_A a z0 ns (30 + j) = z0 + 2 + 14 * j + 11 := fun j hj => by unfold ci_A; rw [if_neg (show ¬ 30 + j = 0 by omega), if_neg (show ¬ 30 + j = 8 by omega), if_neg (show ¬ 30 + j = 1 by omega), if_neg (show ¬ 30 + j = 2 by omega), if_neg (show ¬ 30 + j = 3 by omega), if_neg (show ¬ 30 + j = 4 by omega), if_neg (show ¬ 30 + j = 5 by omega), if_neg (show ¬ 30 + j = 7 by omega), if_neg (show ¬ 30 + j = 6 by omega), if_neg (show ¬ 30 + j < 20 by omega), if_neg (show ¬ 30 + j < 30 by omega), if_pos (show 30 + j < 40 by omega)]; omega
  have A40 : ∀ j, j < ns → ci_A a z0 ns (40 + j) = z0 + 2 + 14 * j + 12 := fun j hj => by unfold ci_A; rw [if_neg (show ¬ 40 + j = 0 by omega), if_neg (show ¬ 40 + j = 8 by omega), if_neg (show ¬ 40 + j = 1 by omega), if_neg (show ¬ 40 + j = 2 by omega), if_neg (show ¬ 40 + j = 3 by omega), if_neg (show ¬ 40 + j = 4 by omega), if_neg (show ¬ 40 + j = 5 by omega), if_neg (show ¬ 40 + j = 7 by omega), if_neg (show ¬ 40 + j = 6 by omega), if_neg (show ¬ 40 + j < 20 by omega), if_neg (show ¬ 40 + j < 30 by omega), if_neg (show ¬ 40 + j < 40 by omega), if_pos (show 40 + j < 50 by omega)]; omega
  have A100 : ∀ j p, j < ns → p < 4 → ci_A a z0 ns (100 + (4 * j + p)) = z0 + 2 + 14 * j + 1 + 2 * p := fun j p hj hp => by unfold ci_A; rw [if_neg (show ¬ 100 + (4 * j + p) = 0 by omega), if_neg (show ¬ 100 + (4 * j + p) = 8 by omega), if_neg (show ¬ 100 + (4 * j + p) = 1 by omega), if_neg (show ¬ 100 + (4 * j + p) = 2 by omega), if_neg (show ¬ 100 + (4 * j + p) = 3 by omega), if_neg (show ¬ 100 + (4 * j + p) = 4 by omega), if_neg (show ¬ 100 + (4 * j + p) = 5 by omega), if_neg (show ¬ 100 + (4 * j + p) = 7 by omega), if_neg (show ¬ 100 + (4 * j + p) = 6 by omega), if_neg (show ¬ 100 + (4 * j + p) < 20 by omega), if_neg (show ¬ 100 + (4 * j + p) < 30 by omega), if_neg (show ¬ 100 + (4 * j + p) < 40 by omega), if_neg (show ¬ 100 + (4 * j + p) < 50 by omega), if_neg (show ¬ 100 + (4 * j + p) < 60 by omega), if_neg (show ¬ 100 + (4 * j + p) < 100 by omega), if_pos (show 100 + (4 * j + p) < 200 by omega)]; omega
  have A200 : ∀ j p, j < ns → p < 4 → ci_A a z0 ns (200 + (4 * j + p)) = z0 + 2 + 14 * j + 2 + 2 * p := fun j p hj hp => by unfold ci_A; rw [if_neg (show ¬ 200 + (4 * j + p) = 0 by omega), if_neg (show ¬ 200 + (4 * j + p) = 8 by omega), if_neg (show ¬ 200 + (4 * j + p) = 1 by omega), if_neg (show ¬ 200 + (4 * j + p) = 2 by omega), if_neg (show ¬ 200 + (4 * j + p) = 3 by omega), if_neg (show ¬ 200 + (4 * j + p) = 4 by omega), if_neg (show ¬ 200 + (4 * j + p) = 5 by omega), if_neg (show ¬ 200 + (4 * j + p) = 7 by omega), if_neg (show ¬ 200 + (4 * j + p) = 6 by omega), if_neg (show ¬ 200 + (4 * j + p) < 20 by omega), if_neg (show ¬ 200 + (4 * j + p) < 30 by omega), if_neg (show ¬ 200 + (4 * j + p) < 40 by omega), if_neg (show ¬ 200 + (4 * j + p) < 50 by omega), if_neg (show ¬ 200 + (4 * j + p) < 60 by omega), if_neg (show ¬ 200 + (4 * j + p) < 100 by omega), if_neg (show ¬ 200 + (4 * j + p) < 200 by omega)]; omega
  have e0 : ci_A a z0 ns 0 = a := rfl
  have e8 : ci_A a z0 ns 8 = z0 := rfl
  have e1 : ci_A a z0 ns 1 = z0 + 1 + 14 * ns := rfl
  have e2 : ci_A a z0 ns 2 = z0 + 2 + 14 * ns := rfl
  have e3 : ci_A a z0 ns 3 = z0 + 3 + 14 * ns := rfl
  have e4 : ci_A a z0 ns 4 = z0 + 4 + 14 * ns := rfl
  have e5 : ci_A a z0 ns 5 = z0 + 5 + 14 * ns := rfl
  have e6 : ci_A a z0 ns 6 = z0 + 7 + 14 * ns := rfl
  have e7 : ci_A a z0 ns 7 = z0 + 6 + 14 * ns := rfl
  have els : ∀ c, fc_0 ns c = [] → cl_els (cl_s0 ns S) c S := fun c hc => ⟨by show 0 = (fc_0 ns c).length; rw [hc]; rfl, fun _ => List.nodup_nil, fun j b r hb => by cases hb⟩
  have li : ∀ c, S.1 (ci_A a z0 ns c) = some (10 * c + 1, (.inr (am_cAL, [.int 0, .ref e, .int 0]))) → am_li e S (10 * c + 1) (ci_A a z0 ns c) [] := fun c hc => ⟨0, e, 0, [], hc, hE, by decide, by decide, Or.inr ⟨rfl, rfl, rfl, rfl⟩⟩
  refine ⟨⟨o, Nat.le_refl _, Nat.le_refl _⟩, ⟨hE, hNW, ?_, fun i hi => ⟨?_, ?_⟩⟩, fun c => ⟨fun z => ?_, fun z => ⟨?_, ?_, ?_⟩, fun z => ?_, fun z => ?_, fun z => ?_, fun z => ?_, fun z => ?_, fun q hq z => ?_, fun z => ?_⟩⟩
  · rw [e8, h8]
    unfold ci_row
    rw [Nat.sub_self, List.replicate_zero, List.append_nil]
    congr 4
    apply List.map_congr_left
    intro j hj
    rw [A50 j (List.mem_range.mp hj)]
  · rw [A50 i hi, A60 i hi, A10 i hi, A20 i hi, A30 i hi, A40 i hi]
    exact (hnd i hi).1
  · rw [A60 i hi, A100 i 0 hi (by omega), A100 i 1 hi (by omega), A100 i 2 hi (by omega), A100 i 3 hi (by omega)]
    exact (hnd i hi).2.1
  · subst z; exact h0
  · subst z; exact h1
  · subst z; exact Nat.zero_le _
  · subst z; exact els 1 rfl
  · subst z; exact h2
  · subst z
    show S.1 (ci_A a z0 ns 3) = some (31, .inl (am_kI, (List.replicate (4 * ns) (-1 : Int32)).map Value.int))
    rw [List.map_replicate]; exact h3
  · subst z
    show S.1 (ci_A a z0 ns 4) = some (41, .inl (am_kZ, (List.replicate (4 * ns) (0 : Int32)).map Value.int))
    rw [List.map_replicate]; exact h4
  · subst z
    show S.1 (ci_A a z0 ns 5) = some (51, .inl (am_kI, (List.replicate 6 (-1 : Int32)).map Value.int))
    rw [List.map_replicate]; exact h5
  · subst z
    refine ⟨fun _ => 0, ?_⟩
    rw [e6, h6]
    unfold fr_ls
    congr 4
    apply List.ext_getElem?
    intro j
    by_cases hj : j < ns <;> simp [hj]
  · have hq4 : q = 4 * (q / 4) + q % 4 := by omega
    have hi : q / 4 < ns := by omega
    have hp : q % 4 < 4 := by omega
    have e9 : fc_0 ns (100 + q) = [[-1, -1, 0]] := by unfold fc_0; rw [if_neg (show ¬ 100 + q = 0 by omega), if_neg (show ¬ 100 + q = 2 by omega), if_neg (show ¬ 100 + q = 3 by omega), if_neg (show ¬ 100 + q = 4 by omega), if_neg (show ¬ 100 + q = 5 by omega), if_pos (show 100 ≤ 100 + q ∧ 100 + q < 200 by omega)]
    have h := ((hnd _ hi).2.2.1 _ hp).1
    show S.1 (ci_A a z0 ns (100 + q)) = some (10 * (100 + q) + 1, .inr (am_cPt, [.ref (ci_A a z0 ns (200 + q)), cl_hv (cl_s0 ns S) (fc_get (fc_0 ns) (100 + q) 0 0), .int (fc_get (fc_0 ns) (100 + q) 0 1), .int (fc_get (fc_0 ns) (100 + q) 0 2)]))
    unfold fc_get
    rw [e9]
    have a1 := A100 _ _ hi hp
    have a2 := A200 _ _ hi hp
    rw [← hq4] at a1 a2 h
    rw [a1, a2]
    exact h
  · refine ⟨li c ?_, els c (fc_0_nil (by unfold cl_isL at z; omega) (by unfold cl_isL at z; omega) (by unfold cl_isL at z; omega) (by unfold cl_isL at z; omega) (by unfold cl_isL at z; omega) (by unfold cl_isL at z; omega))⟩
    rcases z with rfl | ⟨z1, z2⟩ | ⟨z1, z2⟩ | ⟨z1, z2⟩ | ⟨z1, z2⟩ | ⟨z1, z2⟩
    · exact h7
    · obtain ⟨j, rfl⟩ : ∃ j, c = 10 + j := ⟨c - 10, by omega⟩
      rw [A10 j (by omega)]; exact (hnd j (by omega)).2.2.2.1
    · obtain ⟨j, rfl⟩ : ∃ j, c = 20 + j := ⟨c - 20, by omega⟩
      rw [A20 j (by omega)]; exact (hnd j (by omega)).2.2.2.2.1
    · obtain ⟨j, rfl⟩ : ∃ j, c = 30 + j := ⟨c - 30, by omega⟩
      rw [A30 j (by omega)]; exact (hnd j (by omega)).2.2.2.2.2.1
    · obtain ⟨j, rfl⟩ : ∃ j, c = 40 + j := ⟨c - 40, by omega⟩
      rw [A40 j (by omega)]; exact (hnd j (by omega)).2.2.2.2.2.2
    · obtain ⟨q, rfl⟩ : ∃ q, c = 200 + q := ⟨c - 200, by omega⟩
      have hq4 : q = 4 * (q / 4) + q % 4 := by omega
      have hi : q / 4 < ns := by omega
      have hp : q % 4 < 4 := by omega
      have h := ((hnd _ hi).2.2.1 _ hp).2
      have a2 := A200 _ _ hi hp
      rw [← hq4] at a2 h
      rw [a2]
      exact h
end CID
