/-! courses move up one place -/
section IOC
variable {ns room idle : Nat}
theorem fr_up_of {r r' : fr_S} (h1 : r'.1 = r.1) (h2 : ∀ q j, r'.2 q j = r.2 q j) : r' = r := Prod.ext h1 (funext fun q => funext fun j => h2 q j)
theorem fr_drp_s8 (r0 : fr_S) (c k M : Nat) : fr_up (fr_up (fr_up (fr_up (fr_up (fr_up (fr_up (fr_up (fr_sh (fr_sh r0 [33, 34, 35, 36, 37, 38, 40, 41] c k 1) [39] (5 * c) M 5) 33 (c + k) (r0.2 33 (c + k + 1))) 34 (c + k) (r0.2 34 (c + k + 1))) 35 (c + k) (r0.2 35 (c + k + 1))) 36 (c + k) (r0.2 36 (c + k + 1))) 37 (c + k) (r0.2 37 (c + k + 1))) 38 (c + k) (r0.2 38 (c + k + 1))) 40 (c + k) (r0.2 40 (c + k + 1))) 41 (c + k) (r0.2 41 (c + k + 1)) = fr_sh (fr_sh r0 [33, 34, 35, 36, 37, 38, 40, 41] c (k + 1) 1) [39] (5 * c) M 5 := by
  refine fr_up_of rfl (fun q j => ?_)
  have up : ∀ (r : fr_S) (f i : Nat) (x : Int32) (q j : Nat), (fr_up r f i x).2 q j = if q = f ∧ j = i then x else r.2 q j := fun _ _ _ _ _ _ => rfl
  by_cases hq : q ∈ [33, 34, 35, 36, 37, 38, 40, 41]
  · have h39 : q ∉ [39] := fun z => by rw [List.mem_singleton] at z; subst z; exact absurd hq (by decide)
    rw [fr_sh_not (q := q) h39, fr_sh_hit hq]
    have base : (fr_sh (fr_sh r0 [33, 34, 35, 36, 37, 38, 40, 41] c k 1) [39] (5 * c) M 5).2 q j = if c ≤ j ∧ j < c + k then r0.2 q (j + 1) else r0.2 q j := by rw [fr_sh_not (q := q) h39, fr_sh_hit hq]
    by_cases e : j = c + k
    · subst e
      rw [if_pos (by omega)]
      simp only [List.mem_cons, List.not_mem_nil, or_false] at hq
      rcases hq with rfl | rfl | rfl | rfl | rfl | rfl | rfl | rfl <;> simp only [up, and_true, Nat.reduceEqDiff, if_true, if_false, reduceIte]
    · simp only [up, e, and_false, if_false]
      rw [base]
      by_cases h : c ≤ j ∧ j < c + k
      · rw [if_pos h, if_pos (by omega)]
      · rw [if_neg h, if_neg (by omega)]
  · have hne : ∀ f ∈ [33, 34, 35, 36, 37, 38, 40, 41], q ≠ f := fun f hf e => hq (e ▸ hf)
    simp only [up, hne 33 (by decide), hne 34 (by decide), hne 35 (by decide), hne 36 (by decide), hne 37 (by decide), hne 38 (by decide), hne 40 (by decide), hne 41 (by decide), false_and, if_false]
    have b : ∀ k, (fr_sh (fr_sh r0 [33, 34, 35, 36, 37, 38, 40, 41] c k 1) [39] (5 * c) M 5).2 q j = if q ∈ [39] ∧ 5 * c ≤ j ∧ j < 5 * c + M then r0.2 q (j + 5) else r0.2 q j := fun k => by
      show (if q ∈ [39] ∧ 5 * c ≤ j ∧ j < 5 * c + M then (fr_sh r0 [33, 34, 35, 36, 37, 38, 40, 41] c k 1).2 q (j + 5) else (fr_sh r0 [33, 34, 35, 36, 37, 38, 40, 41] c k 1).2 q j) = _
      rw [fr_sh_not hq, fr_sh_not hq]
    rw [b k, b (k + 1)]
end IOC
