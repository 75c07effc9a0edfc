/-! what always holds, at the start -/
section INA
variable {g : am_G} {e nw ns room idle : Nat} {A : Nat → Nat} {s : cl_S} {S : am_S}
theorem fc_iD.zero (h2 : 2 ≤ ns) (hn : ns ≤ 5) (hr : 1 ≤ room) (hr8 : room ≤ 8) : fc_iD ns room (fc_0 ns) := by
  have nil : ∀ c, c ≠ 0 → c ≠ 2 → c ≠ 3 → c ≠ 4 → c ≠ 5 → ¬ (100 ≤ c ∧ c < 200) → fc_0 ns c = [] := fun c a0 a2 a3 a4 a5 a => fc_0_nil a0 a2 a3 a4 a5 a
  refine ⟨⟨h2, hn, hr, hr8⟩, ⟨⟨0, rfl⟩, Nat.zero_le _, fun h row z => by cases z⟩, fun q hq => ⟨-1, -1, 0, ?_, Or.inl rfl, Or.inl rfl, Or.inl rfl, Or.inl rfl⟩, fun q hq => ?_, fun i hi => ?_, fun i hi => ?_, fun i hi => ⟨⟨?_, ?_⟩, ?_, ?_⟩, ⟨⟨0, rfl⟩, ⟨_, rfl, List.length_replicate, fun x hx => Or.inl (List.eq_of_mem_replicate hx)⟩, ⟨_, rfl, List.length_replicate, fun x hx => Or.inl (List.eq_of_mem_replicate hx)⟩, ⟨_, rfl, List.length_replicate, fun x hx => Or.inl (List.eq_of_mem_replicate hx)⟩⟩, ⟨Nat.zero_le _, fun row z => by cases z⟩⟩
  · unfold fc_0
    rw [if_neg (show ¬ 100 + q = 0 by omega), if_neg (show ¬ 100 + q = 2 by omega), if_neg (show ¬ 100 + q = 3 by omega), if_neg (show ¬ 100 + q = 4 by omega), if_neg (show ¬ 100 + q = 5 by omega), if_pos (show 100 ≤ 100 + q ∧ 100 + q < 200 by omega)]
  · rw [nil _ (by omega) (by omega) (by omega) (by omega) (by omega) (by omega)]
    exact ⟨Nat.zero_le _, fun row z => by cases z⟩
  · rw [nil _ (by omega) (by omega) (by omega) (by omega) (by omega) (by omega)]
    exact ⟨Nat.zero_le _, fun row z => by cases z⟩
  · rw [nil _ (by omega) (by omega) (by omega) (by omega) (by omega) (by omega)]
    exact ⟨Nat.zero_le _, fun row z => by cases z⟩
  · rw [nil _ (by omega) (by omega) (by omega) (by omega) (by omega) (by omega)]
    exact Nat.zero_le _
  · rw [nil _ (by omega) (by omega) (by omega) (by omega) (by omega) (by omega)]
    exact fun row z => by cases z
  · rw [nil _ (by omega) (by omega) (by omega) (by omega) (by omega) (by omega)]
    exact Nat.zero_le _
  · rw [nil _ (by omega) (by omega) (by omega) (by omega) (by omega) (by omega)]
    exact fun row z => by cases z
end INA
