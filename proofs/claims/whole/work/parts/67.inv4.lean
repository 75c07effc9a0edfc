/-! what always holds: a course is laid -/
section IND
variable {g : am_G} {e nw ns room idle : Nat} {A : Nat → Nat} {s : cl_S} {S : am_S}
def fc_kOk (ns : Nat) (row : List Int32) : Prop := ∃ (f t l : Nat) (st wv aw kp kn : Int32) (way : List Int32), f < 6 ∧ t < 6 ∧ row = [nI f, nI t, st, wv, aw, nI l, kp, kn] ++ way ∧ (st = 1 ∨ st = 2 ∨ st = 3) ∧ (kp = 0 ∨ kp = 1) ∧ 1 ≤ way.length ∧ way.length ≤ 5 ∧ l < way.length ∧ ∀ e ∈ way, ∃ m, m < 4 * ns ∧ e = nI m
/-- all courses but one -/
def fc_iKx (ns : Nat) (s : fc_S) (k : Nat) : Prop := (s 7).length ≤ 6 ∧ ∀ (j : Nat) (row : List Int32), j ≠ k → (s 7)[j]? = some row → fc_kOk ns row
theorem fc_iK.but {s : fc_S} (I : fc_iK ns s) (k : Nat) : fc_iKx ns s k := ⟨I.1, fun _ _ _ h => I.2 _ (List.mem_of_getElem? h)⟩
theorem fc_iKx.set {s s' : fc_S} {k : Nat} {row : List Int32} (I : fc_iKx ns s k) (h : fc_kOk ns row) (e : s' 7 = (s 7).set k row) : fc_iK ns s' := by
  unfold fc_iK
  rw [e]
  refine ⟨by rw [List.length_set]; exact I.1, fun r hr => ?_⟩
  obtain ⟨j, hj⟩ := List.mem_iff_getElem?.mp hr
  by_cases ej : j = k
  · subst ej
    have hk : j < (s 7).length := by have := (List.getElem?_eq_some_iff.mp hj).1; rw [List.length_set] at this; exact this
    rw [List.getElem?_set_self hk] at hj
    cases hj
    exact h
  · rw [List.getElem?_set_ne (Ne.symm ej)] at hj
    exact I.2 j r ej hj
theorem fc_lay_ok {s : fc_S} (hn : ns ≤ 5) {k f t : Nat} {st wv aw ld kp kn : Int32} {way0 : List Int32} (I : fc_iKx ns s k) (Io : fc_iO ns s) (hr : (s 7)[k]? = some ([nI f, nI t, st, wv, aw, ld, kp, kn] ++ way0)) (hf : f < 6) (ht : t < 6) (hkp : kp = 0 ∨ kp = 1) {way : List Int32} (hne : way.length ≠ 0) (hw5 : way.length ≤ 5) (hwe : ∀ x ∈ way, ∃ m, m < 4 * ns ∧ x = nI m) : fc_iK ns (fc_lay s k way) ∧ fc_iO ns (fc_lay s k way) := by
  have hk := (List.getElem?_eq_some_iff.mp hr).1
  obtain ⟨⟨x0, h2⟩, -⟩ := id Io
  obtain ⟨m, hm, hx⟩ := fc_last hne hwe
  have hr4 : ((fc_up s 7 ((s 7).set k ([nI f, nI t, 2, wv, aw, nI way.length, kp, kn] ++ way))) 7)[k]? = some ([nI f, nI t, 2, wv, aw, nI (way.length - 1 + 1), kp, kn] ++ way) := by rw [fc_up_same, List.getElem?_set_self hk, show way.length - 1 + 1 = way.length by omega]
  have h24 : (fc_up s 7 ((s 7).set k ([nI f, nI t, 2, wv, aw, nI way.length, kp, kn] ++ way))) 2 = [[x0]] := by rw [fc_up_ne _ (by omega), h2]
  rw [fc_lay_row hr, fc_lead_eq hr4 h24 (by omega) (by omega) hx]
  constructor
  · refine I.set (row := [nI f, nI t, 2, x0 + 1, aw, nI (way.length - 1), kp, kn] ++ way) ⟨f, t, way.length - 1, 2, x0 + 1, aw, kp, kn, way, hf, ht, rfl, Or.inr (Or.inl rfl), hkp, by omega, hw5, by omega, hwe⟩ ?_
    unfold fc_add
    rw [fc_up_ne _ (by omega), fc_up_ne _ (by omega), fc_up_same, fc_up_same, List.set_set]
  · obtain ⟨-, g3, g4, g5⟩ := Io
    have e : ∀ c, c < 30 → c ≠ 7 → c ≠ 2 → (fc_add (fc_add (fc_up (fc_put (fc_up s 7 ((s 7).set k ([nI f, nI t, 2, wv, aw, nI way.length, kp, kn] ++ way))) 2 0 0 (x0 + 1)) 7 (((fc_up s 7 ((s 7).set k ([nI f, nI t, 2, wv, aw, nI way.length, kp, kn] ++ way))) 7).set k ([nI f, nI t, 2, x0 + 1, aw, nI (way.length - 1), kp, kn] ++ way))) (30 + m / 4) [0, nI (m % 4), nI f, nI t, 0]) (30 + m / 4) [2, x0 + 1, -1, -1, 0]) c = s c := fun c h1 h7 h2' => by
      unfold fc_add
      rw [fc_up_ne _ (by omega), fc_up_ne _ (by omega), fc_up_ne _ h7, fc_put_ne _ _ _ h2', fc_up_ne _ h7]
    refine ⟨⟨x0 + 1, ?_⟩, by rw [e 3 (by omega) (by omega) (by omega)]; exact g3, by rw [e 4 (by omega) (by omega) (by omega)]; exact g4, by rw [e 5 (by omega) (by omega) (by omega)]; exact g5⟩
    unfold fc_add
    rw [fc_up_ne _ (by omega), fc_up_ne _ (by omega), fc_up_ne _ (by omega)]
    unfold fc_put
    rw [fc_up_same, h24]
    rfl
end IND
