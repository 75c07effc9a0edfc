/-! the bits of a match -/
section INR
variable {ns room idle : Nat}
theorem am_bits : ∀ k, k < 512 → nI k &&& nI 7 = nI (k % 8) ∧ nI k >>> (nI 3 &&& 31) &&& nI 7 = nI (k / 8 % 8) ∧ nI k >>> (nI 6 &&& 31) = nI (k / 64) ∧ nI k &&& 7 = nI (k % 8) ∧ nI k >>> 3 &&& 7 = nI (k / 8 % 8) ∧ nI k >>> 6 &&& 7 = nI (k / 64) := by decide +kernel
theorem fc_guard_bad {s : fc_S} {x pr m v : Int32} (h : ¬ (fc_sw ns x = true ∧ 0 ≤ pr ∧ pr ≤ 9 ∧ 0 ≤ v ∧ v ≤ 6 ∧ 0 ≤ m ∧ m ≤ 511)) : fc_guard ns s x pr m v = (-1, s) := by
  unfold fc_guard fc_mt
  rw [if_neg]
  intro z
  simp only [Bool.and_eq_true, decide_eq_true_eq] at z
  exact h ⟨z.1, z.2.1, z.2.2.1, z.2.2.2.1, z.2.2.2.2.1, z.2.2.2.2.2.1, z.2.2.2.2.2.2.1⟩
theorem fc_guard_eq {s : fc_S} {i pr m v : Nat} (n5 : ns ≤ 5) (hi : i < ns) (h : fc_sw ns (nI i) = true) (hp : pr ≤ 9) (hv : v ≤ 6) (hm : m ≤ 511) : fc_guard ns s (nI i) (nI pr) (nI m) (nI v) = if m % 8 ≤ 4 ∧ m / 8 % 8 ≤ 6 ∧ m / 64 ≤ 6 then (if 4 ≤ (s (10 + i)).length then (-2, s) else (nI (s (10 + i)).length, fc_add s (10 + i) [nI pr, nI m, nI v, 0])) else (-1, s) := by
  obtain ⟨-, -, -, b1, b2, b3⟩ := am_bits m (by omega)
  have c1 : (nI (m % 8) ≤ 4) ↔ m % 8 ≤ 4 := nI_leI (a := m % 8) (b := 4) (by omega) (by omega)
  have c2 : (nI (m / 8 % 8) ≤ 6) ↔ m / 8 % 8 ≤ 6 := nI_leI (a := m / 8 % 8) (b := 6) (by omega) (by omega)
  have c3 : (nI (m / 64) ≤ 6) ↔ m / 64 ≤ 6 := nI_leI (a := m / 64) (b := 6) (by omega) (by omega)
  have p0 : (0 : Int32) ≤ nI pr := nI_pos' (by omega)
  have p9 : nI pr ≤ 9 := nI_le (a := pr) (b := 9) hp (by omega)
  have v0 : (0 : Int32) ≤ nI v := nI_pos' (by omega)
  have v6 : nI v ≤ 6 := nI_le (a := v) (b := 6) hv (by omega)
  have m0 : (0 : Int32) ≤ nI m := nI_pos' (by omega)
  have m5 : nI m ≤ 511 := nI_le (a := m) (b := 511) hm (by omega)
  unfold fc_guard fc_mt fc_len
  rw [b1, b2, b3, nI_clamp (by omega)]
  by_cases e : m % 8 ≤ 4 ∧ m / 8 % 8 ≤ 6 ∧ m / 64 ≤ 6
  · rw [if_pos e, if_pos]
    simp only [Bool.and_eq_true, decide_eq_true_eq]
    exact ⟨h, p0, p9, v0, v6, m0, m5, c1.mpr e.1, c2.mpr e.2.1, c3.mpr e.2.2⟩
  · rw [if_neg e, if_neg]
    intro z
    simp only [Bool.and_eq_true, decide_eq_true_eq] at z
    obtain ⟨-, -, -, -, -, -, -, z1, z2, z3⟩ := z
    exact e ⟨c1.mp z1, c2.mp z2, c3.mp z3⟩
theorem fc_fit_nat {w v : Nat} (hw : w < 1000) (hv : v < 1000) : fc_fit (nI w) (nI v) = (decide (w = 0) || decide (w = v + 1)) := by
  unfold fc_fit
  rw [nI_1]
  congr 1
  · rw [Bool.eq_iff_iff, beq_iff_eq, decide_eq_true_eq, ← nI_0, nI_eq (by omega) (by omega)]
  · rw [Bool.eq_iff_iff, beq_iff_eq, decide_eq_true_eq, nI_eq (by omega) (by omega)]
theorem fc_mch_nat {m p f t : Nat} (hm : m ≤ 511) (hp : p < 1000) (hf : f < 1000) (ht : t < 1000) : fc_mch (nI m) (nI p) (nI f) (nI t) = (decide (m % 8 = 0 ∨ m % 8 = p + 1) && (decide (m / 8 % 8 = 0 ∨ m / 8 % 8 = f + 1) && decide (m / 64 = 0 ∨ m / 64 = t + 1))) := by
  obtain ⟨-, -, -, b1, b2, b3⟩ := am_bits m (by omega)
  unfold fc_mch
  rw [b1, b2, b3, fc_fit_nat (by omega) hp, fc_fit_nat (by omega) hf, fc_fit_nat (by omega) ht]
  simp only [Bool.decide_or]
end INR
