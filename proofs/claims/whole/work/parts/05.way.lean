/-! walks in a small graph: the shortest way that is first in the order of numbers, and the way that a count of steps gives -/
/-- a walk of k steps from u to v over switches below n -/
def pw_wk (n : Nat) (E : Nat → Nat → Bool) : Nat → Nat → Nat → Bool
  | 0, u, v => decide (u = v)
  | k + 1, u, v => (List.range n).any (fun w => E u w && pw_wk n E k w v)
theorem pw_wk_succ {n : Nat} {E : Nat → Nat → Bool} {k u v : Nat} : pw_wk n E (k + 1) u v = true ↔ ∃ w, w < n ∧ E u w = true ∧ pw_wk n E k w v = true := by
  simp [pw_wk]
theorem pw_wk_zero {n : Nat} {E : Nat → Nat → Bool} {u v : Nat} : pw_wk n E 0 u v = true ↔ u = v := by
  simp [pw_wk]
/-- the least w below n with P w, or n -/
def pw_least (P : Nat → Bool) : Nat → Nat
  | 0 => 0
  | n + 1 => let r := pw_least P n; if r < n then r else if P n = true then n else n + 1
theorem pw_least_le (P : Nat → Bool) (n : Nat) : pw_least P n ≤ n := by
  induction n with
  | zero => exact Nat.le_refl _
  | succ n ih =>
    show (if pw_least P n < n then pw_least P n else if P n = true then n else n + 1) ≤ n + 1
    split
    · omega
    · split <;> omega
theorem pw_least_spec (P : Nat → Bool) (n : Nat) : (pw_least P n < n → P (pw_least P n) = true) ∧ ∀ w, w < pw_least P n → P w = false := by
  induction n with
  | zero => exact ⟨fun h => absurd h (Nat.not_lt_zero _), fun w h => absurd h (Nat.not_lt_zero _)⟩
  | succ n ih =>
    have hle := pw_least_le P n
    have e : pw_least P (n + 1) = (if pw_least P n < n then pw_least P n else if P n = true then n else n + 1) := rfl
    rw [e]
    split
    · next h => exact ⟨fun _ => ih.1 h, ih.2⟩
    · next h =>
      have e2 : pw_least P n = n := by omega
      rw [e2] at ih
      split
      · next h2 => exact ⟨fun _ => h2, ih.2⟩
      · next h2 =>
        refine ⟨fun h => absurd h (Nat.lt_irrefl _), fun w hw => ?_⟩
        by_cases e3 : w = n
        · subst e3; simpa using h2
        · exact ih.2 w (by omega)
theorem pw_least_lt {P : Nat → Bool} {n w : Nat} (hw : w < n) (h : P w = true) : pw_least P n ≤ w := by
  apply Nat.le_of_not_lt
  intro q
  have := (pw_least_spec P n).2 w q
  rw [h] at this
  cases this
/-- the next switch of the way: the least that a way of k steps leads on from -/
def pw_nx (n : Nat) (E : Nat → Nat → Bool) (k u v : Nat) : Nat := pw_least (fun w => E u w && pw_wk n E k w v) n
theorem pw_nx_ok {n : Nat} {E : Nat → Nat → Bool} {k u v : Nat} (h : pw_wk n E (k + 1) u v = true) : pw_nx n E k u v < n ∧ E u (pw_nx n E k u v) = true ∧ pw_wk n E k (pw_nx n E k u v) v = true := by
  obtain ⟨w, hw, h1, h2⟩ := pw_wk_succ.mp h
  have hl : pw_nx n E k u v ≤ w := pw_least_lt hw (by simp [h1, h2])
  have hs := (pw_least_spec (fun w => E u w && pw_wk n E k w v) n).1 (show pw_nx n E k u v < n by omega)
  simp only [Bool.and_eq_true] at hs
  exact ⟨by omega, hs.1, hs.2⟩
theorem pw_nx_least {n : Nat} {E : Nat → Nat → Bool} {k u v w : Nat} (hw : w < n) (h1 : E u w = true) (h2 : pw_wk n E k w v = true) : pw_nx n E k u v ≤ w := pw_least_lt hw (by simp [h1, h2])
/-- the i-th switch of the way of k steps from u to v -/
def pw_at (n : Nat) (E : Nat → Nat → Bool) (v : Nat) : Nat → Nat → Nat → Nat
  | _, u, 0 => u
  | 0, u, _ + 1 => u
  | k + 1, u, i + 1 => pw_at n E v k (pw_nx n E k u v) i
theorem pw_at_last {n : Nat} {E : Nat → Nat → Bool} {v : Nat} : ∀ {k u : Nat}, pw_wk n E k u v = true → pw_at n E v k u k = v
  | 0, u, h => by rw [pw_wk_zero] at h; rw [← h]; rfl
  | k + 1, u, h => by
    show pw_at n E v k (pw_nx n E k u v) k = v
    exact pw_at_last (pw_nx_ok h).2.2
theorem pw_at_edge {n : Nat} {E : Nat → Nat → Bool} {v : Nat} : ∀ {k u i : Nat}, pw_wk n E k u v = true → i < k → E (pw_at n E v k u i) (pw_at n E v k u (i + 1)) = true
  | 0, _, _, _, hi => absurd hi (Nat.not_lt_zero _)
  | k + 1, u, 0, h, _ => by
    have h1 := (pw_nx_ok h).2.1
    cases k <;> exact h1
  | k + 1, u, i + 1, h, hi => by
    show E (pw_at n E v k (pw_nx n E k u v) i) (pw_at n E v k (pw_nx n E k u v) (i + 1)) = true
    exact pw_at_edge (pw_nx_ok h).2.2 (by omega)
theorem pw_at_lt {n : Nat} {E : Nat → Nat → Bool} {v : Nat} : ∀ {k u i : Nat}, u < n → pw_wk n E k u v = true → i ≤ k → pw_at n E v k u i < n
  | _, u, 0, hu, _, _ => by
    show pw_at n E v _ u 0 < n
    unfold pw_at
    exact hu
  | 0, _, _ + 1, _, _, hi => absurd hi (by omega)
  | k + 1, u, i + 1, hu, h, hi => by
    show pw_at n E v k (pw_nx n E k u v) i < n
    exact pw_at_lt (pw_nx_ok h).1 (pw_nx_ok h).2.2 (by omega)
/-- the digits of x, m of them, the first the greatest: is that a way from u to v? -/
def pw_ch (n : Nat) (E : Nat → Nat → Bool) (v : Nat) : Nat → Nat → Nat → Bool
  | 0, u, _ => E u v
  | m + 1, u, x => E u (x / n ^ m % n) && pw_ch n E v m (x / n ^ m % n) (x % n ^ m)
/-- the number of the way -/
def pw_num (n : Nat) (E : Nat → Nat → Bool) (v : Nat) : Nat → Nat → Nat
  | 0, _ => 0
  | m + 1, u => pw_nx n E (m + 1) u v * n ^ m + pw_num n E v m (pw_nx n E (m + 1) u v)
theorem pw_num_lt {n : Nat} {E : Nat → Nat → Bool} {v : Nat} : ∀ {m u : Nat}, pw_wk n E (m + 1) u v = true → pw_num n E v m u < n ^ m
  | 0, _, _ => by show 0 < n ^ 0; simp
  | m + 1, u, h => by
    have h1 := pw_nx_ok h
    have h2 := pw_num_lt (m := m) h1.2.2
    show pw_nx n E (m + 1) u v * n ^ m + pw_num n E v m (pw_nx n E (m + 1) u v) < n ^ (m + 1)
    have h3 : (pw_nx n E (m + 1) u v + 1) * n ^ m ≤ n * n ^ m := Nat.mul_le_mul_right _ h1.1
    rw [Nat.pow_succ, Nat.mul_comm (n ^ m) n]
    rw [Nat.add_mul, Nat.one_mul] at h3
    omega
theorem pw_dig {n m w r : Nat} (hw : w < n) (hr : r < n ^ m) : (w * n ^ m + r) / n ^ m % n = w ∧ (w * n ^ m + r) % n ^ m = r := by
  have hp : 0 < n ^ m := by omega
  constructor
  · rw [Nat.mul_comm, Nat.mul_add_div hp, Nat.div_eq_of_lt hr, Nat.add_zero, Nat.mod_eq_of_lt hw]
  · rw [Nat.mul_comm, Nat.mul_add_mod, Nat.mod_eq_of_lt hr]
theorem pw_ch_num {n : Nat} {E : Nat → Nat → Bool} {v : Nat} (hv : v < n) : ∀ {m u : Nat}, pw_wk n E (m + 1) u v = true → pw_ch n E v m u (pw_num n E v m u) = true
  | 0, u, h => by
    obtain ⟨w, _, h1, h2⟩ := pw_wk_succ.mp h
    rw [pw_wk_zero] at h2
    subst h2
    exact h1
  | m + 1, u, h => by
    have h1 := pw_nx_ok h
    have h2 := pw_num_lt (m := m) h1.2.2
    obtain ⟨e1, e2⟩ := pw_dig h1.1 h2
    show (E u ((pw_nx n E (m + 1) u v * n ^ m + pw_num n E v m (pw_nx n E (m + 1) u v)) / n ^ m % n) && pw_ch n E v m ((pw_nx n E (m + 1) u v * n ^ m + pw_num n E v m (pw_nx n E (m + 1) u v)) / n ^ m % n) ((pw_nx n E (m + 1) u v * n ^ m + pw_num n E v m (pw_nx n E (m + 1) u v)) % n ^ m)) = true
    rw [e1, e2, h1.2.1, pw_ch_num hv h1.2.2]
    rfl
theorem pw_ch_wk {n : Nat} {E : Nat → Nat → Bool} {v : Nat} (hv : v < n) : ∀ {m u x : Nat}, pw_ch n E v m u x = true → pw_wk n E (m + 1) u v = true
  | 0, u, _, h => pw_wk_succ.mpr ⟨v, hv, h, pw_wk_zero.mpr rfl⟩
  | m + 1, u, x, h => by
    have h' : (E u (x / n ^ m % n) && pw_ch n E v m (x / n ^ m % n) (x % n ^ m)) = true := h
    rw [Bool.and_eq_true] at h'
    exact pw_wk_succ.mpr ⟨x / n ^ m % n, Nat.mod_lt _ (by omega), h'.1, pw_ch_wk hv h'.2⟩
/-- it is the first number that is a way -/
theorem pw_ch_least {n : Nat} {E : Nat → Nat → Bool} {v : Nat} (hv : v < n) : ∀ {m u x : Nat}, x < n ^ m → pw_ch n E v m u x = true → pw_num n E v m u ≤ x
  | 0, _, _, _, _ => Nat.zero_le _
  | m + 1, u, x, hx, h => by
    have h' : (E u (x / n ^ m % n) && pw_ch n E v m (x / n ^ m % n) (x % n ^ m)) = true := h
    rw [Bool.and_eq_true] at h'
    have hp : 0 < n ^ m := Nat.pow_pos (by omega)
    have hd : x / n ^ m < n := by
      rw [Nat.div_lt_iff_lt_mul hp]
      rw [Nat.pow_succ, Nat.mul_comm] at hx
      exact hx
    have hmod : x / n ^ m % n = x / n ^ m := Nat.mod_eq_of_lt hd
    rw [hmod] at h'
    have hle : pw_nx n E (m + 1) u v ≤ x / n ^ m := pw_nx_least hd h'.1 (pw_ch_wk hv h'.2)
    have hx2 : x = n ^ m * (x / n ^ m) + x % n ^ m := (Nat.div_add_mod x (n ^ m)).symm
    have hwk : pw_wk n E (m + 2) u v = true := pw_wk_succ.mpr ⟨x / n ^ m, hd, h'.1, pw_ch_wk hv h'.2⟩
    show pw_nx n E (m + 1) u v * n ^ m + pw_num n E v m (pw_nx n E (m + 1) u v) ≤ x
    by_cases e : pw_nx n E (m + 1) u v = x / n ^ m
    · rw [e]
      have := pw_ch_least hv (Nat.mod_lt x hp) h'.2
      rw [Nat.mul_comm]
      omega
    · have h2 := pw_num_lt (m := m) (pw_nx_ok hwk).2.2
      have h3 : (pw_nx n E (m + 1) u v + 1) * n ^ m ≤ x / n ^ m * n ^ m := Nat.mul_le_mul_right _ (by omega)
      rw [Nat.add_mul, Nat.one_mul, Nat.mul_comm (x / n ^ m)] at h3
      have h4 : n ^ m * (x / n ^ m) ≤ x := Nat.mul_div_le x (n ^ m)
      omega
/-- the k-th switch that the number's digits give -/
theorem pw_num_at {n : Nat} {E : Nat → Nat → Bool} {v : Nat} : ∀ {m u i : Nat}, pw_wk n E (m + 1) u v = true → i < m → pw_num n E v m u / n ^ (m - 1 - i) % n = pw_at n E v (m + 1) u (i + 1)
  | 0, _, _, _, hi => absurd hi (Nat.not_lt_zero _)
  | m + 1, u, i, h, hi => by
    have h1 := pw_nx_ok h
    have h2 := pw_num_lt (m := m) h1.2.2
    show (pw_nx n E (m + 1) u v * n ^ m + pw_num n E v m (pw_nx n E (m + 1) u v)) / n ^ (m - i) % n = pw_at n E v (m + 1) (pw_nx n E (m + 1) u v) i
    cases i with
    | zero =>
      rw [Nat.sub_zero, (pw_dig h1.1 h2).1]
      unfold pw_at
      rfl
    | succ i =>
      have h3 := pw_num_at (m := m) (i := i) h1.2.2 (by omega)
      rw [← h3]
      have e1 : n ^ m = n ^ (m - 1 - i) * (n * n ^ i) := by
        rw [← Nat.pow_succ', ← Nat.pow_add]
        congr 1
        omega
      have e2 : m - (i + 1) = m - 1 - i := by omega
      have hp : 0 < n ^ (m - 1 - i) := Nat.pow_pos (by omega)
      rw [e2, e1, ← Nat.mul_assoc, Nat.mul_comm _ (n ^ (m - 1 - i)), Nat.mul_assoc, Nat.mul_add_div hp]
      have e3 : pw_nx n E (m + 1) u v * (n * n ^ i) = n * (pw_nx n E (m + 1) u v * n ^ i) := by
        rw [Nat.mul_comm n (n ^ i), ← Nat.mul_assoc, Nat.mul_comm _ n]
      rw [e3, Nat.mul_add_mod]
/-- how many steps from u to v, seen r rounds deep -/
def pw_L (n : Nat) (E : Nat → Nat → Bool) (v r u : Nat) : Option Nat := (List.range (r + 1)).find? (fun k => pw_wk n E k u v)
theorem pw_L_some {n : Nat} {E : Nat → Nat → Bool} {v r u k : Nat} : pw_L n E v r u = some k ↔ k ≤ r ∧ pw_wk n E k u v = true ∧ ∀ j, j < k → pw_wk n E j u v = false := by
  unfold pw_L
  rw [List.find?_range_eq_some]
  constructor
  · rintro ⟨h1, h2, h3⟩
    rw [List.mem_range] at h2
    exact ⟨by omega, h1, fun j hj => by simpa using h3 j hj⟩
  · rintro ⟨h1, h2, h3⟩
    exact ⟨h2, List.mem_range.mpr (by omega), fun j hj => by simpa using h3 j hj⟩
theorem pw_L_none {n : Nat} {E : Nat → Nat → Bool} {v r u : Nat} : pw_L n E v r u = none ↔ ∀ j, j ≤ r → pw_wk n E j u v = false := by
  unfold pw_L
  rw [List.find?_range_eq_none]
  constructor
  · intro h j hj
    simpa using h j (by omega)
  · intro h j hj
    simpa using h j (by omega)
/-- one round more -/
theorem pw_L_succ {n : Nat} {E : Nat → Nat → Bool} {v r u : Nat} (hn : pw_L n E v r u = none) : (∃ w, w < n ∧ E u w = true ∧ pw_L n E v r w = some r) ↔ pw_L n E v (r + 1) u = some (r + 1) := by
  rw [pw_L_none] at hn
  constructor
  · rintro ⟨w, hw, h1, h2⟩
    rw [pw_L_some] at h2 ⊢
    exact ⟨Nat.le_refl _, pw_wk_succ.mpr ⟨w, hw, h1, h2.2.1⟩, fun j hj => hn j (by omega)⟩
  · intro h
    rw [pw_L_some] at h
    obtain ⟨w, hw, h1, h2⟩ := pw_wk_succ.mp h.2.1
    refine ⟨w, hw, h1, pw_L_some.mpr ⟨Nat.le_refl _, h2, fun j hj => ?_⟩⟩
    cases hj2 : pw_wk n E j w v with
    | false => rfl
    | true =>
      have := hn (j + 1) (by omega)
      rw [pw_wk_succ.mpr ⟨w, hw, h1, hj2⟩] at this
      cases this
theorem pw_L_keep {n : Nat} {E : Nat → Nat → Bool} {v r u k : Nat} (h : pw_L n E v r u = some k) : pw_L n E v (r + 1) u = some k := by
  rw [pw_L_some] at h ⊢
  exact ⟨by omega, h.2⟩
theorem pw_L_still {n : Nat} {E : Nat → Nat → Bool} {v r u : Nat} (h : pw_L n E v r u = none) (h' : ¬ ∃ w, w < n ∧ E u w = true ∧ pw_L n E v r w = some r) : pw_L n E v (r + 1) u = none := by
  have hn := pw_L_none.mp h
  rw [pw_L_none]
  intro j hj
  by_cases e : j = r + 1
  · subst e
    cases hj2 : pw_wk n E (r + 1) u v with
    | false => rfl
    | true => exact absurd ((pw_L_succ h).mpr (pw_L_some.mpr ⟨Nat.le_refl _, hj2, fun j hj => hn j (by omega)⟩)) h'
  · exact hn j (by omega)
/-- the nearer neighbours are those from which a way of one step less leads on -/
theorem pw_near {n : Nat} {E : Nat → Nat → Bool} {v r u k w : Nat} (hu : pw_L n E v r u = some (k + 1)) (hw : w < n) (he : E u w = true) : pw_L n E v r w = some k ↔ pw_wk n E k w v = true := by
  rw [pw_L_some] at hu ⊢
  constructor
  · exact fun h => h.2.1
  · intro h
    refine ⟨by omega, h, fun j hj => ?_⟩
    cases hj2 : pw_wk n E j w v with
    | false => rfl
    | true =>
      have := hu.2.2 (j + 1) (by omega)
      rw [pw_wk_succ.mpr ⟨w, hw, he, hj2⟩] at this
      cases this
/-- a count that grows -/
theorem pw_count {p q : Nat → Bool} (hpq : ∀ a, p a = true → q a = true) : ∀ {l : List Nat} {a : Nat}, a ∈ l → p a = false → q a = true → l.countP p + 1 ≤ l.countP q
  | [], a, ha, _, _ => by cases ha
  | b :: l, a, ha, h1, h2 => by
    have hm : l.countP p ≤ l.countP q := List.countP_mono_left (fun x _ h => hpq x h)
    rw [List.countP_cons, List.countP_cons]
    by_cases e : a = b
    · subst e
      rw [if_neg (by rw [h1]; decide), if_pos h2]
      omega
    · have ha' : a ∈ l := by
        cases ha with
        | head => exact absurd rfl e
        | tail _ h => exact h
      have ih := pw_count hpq ha' h1 h2
      by_cases hp : p b = true
      · rw [if_pos hp, if_pos (hpq b hp)]; omega
      · rw [if_neg hp]; omega
/-- a switch that is k steps away has one before it that is j steps away -/
theorem pw_layer {n : Nat} {E : Nat → Nat → Bool} {v : Nat} : ∀ {k u : Nat}, u < n → pw_wk n E k u v = true → (∀ j, j < k → pw_wk n E j u v = false) → ∀ j, j ≤ k → ∃ w, w < n ∧ pw_wk n E j w v = true ∧ ∀ i, i < j → pw_wk n E i w v = false
  | 0, u, hu, h, hl, j, hj => ⟨u, hu, (by have e : j = 0 := (by omega); subst e; exact h), fun i hi => by omega⟩
  | k + 1, u, hu, h, hl, j, hj => by
    by_cases e : j = k + 1
    · subst e; exact ⟨u, hu, h, hl⟩
    · obtain ⟨w, hw, h1, h2⟩ := pw_wk_succ.mp h
      refine pw_layer hw h2 (fun i hi => ?_) j (by omega)
      cases hi2 : pw_wk n E i w v with
      | false => rfl
      | true =>
        have := hl (i + 1) (by omega)
        rw [pw_wk_succ.mpr ⟨w, hw, h1, hi2⟩] at this
        cases this
/-- within j steps of v -/
def pw_in (n : Nat) (E : Nat → Nat → Bool) (v j w : Nat) : Bool := (List.range (j + 1)).any (fun i => pw_wk n E i w v)
theorem pw_in_iff {n : Nat} {E : Nat → Nat → Bool} {v j w : Nat} : pw_in n E v j w = true ↔ ∃ i, i ≤ j ∧ pw_wk n E i w v = true := by
  unfold pw_in
  rw [List.any_eq_true]
  constructor
  · rintro ⟨i, h1, h2⟩
    rw [List.mem_range] at h1
    exact ⟨i, by omega, h2⟩
  · rintro ⟨i, h1, h2⟩
    exact ⟨i, List.mem_range.mpr (by omega), h2⟩
/-- the shortest way is shorter than there are switches -/
theorem pw_short {n : Nat} {E : Nat → Nat → Bool} {v k u : Nat} (hu : u < n) (h : pw_wk n E k u v = true) (hl : ∀ j, j < k → pw_wk n E j u v = false) : k < n := by
  have key : ∀ j, j ≤ k → j + 1 ≤ (List.range n).countP (pw_in n E v j) := by
    intro j
    induction j with
    | zero =>
      intro _
      obtain ⟨w, hw, h1, -⟩ := pw_layer hu h hl 0 (Nat.zero_le _)
      exact List.countP_pos_iff.mpr ⟨w, List.mem_range.mpr hw, pw_in_iff.mpr ⟨0, Nat.le_refl _, h1⟩⟩
    | succ j ih =>
      intro hj
      have h0 := ih (by omega)
      obtain ⟨w, hw, h1, h2⟩ := pw_layer hu h hl (j + 1) hj
      have := pw_count (p := pw_in n E v j) (q := pw_in n E v (j + 1)) (fun a ha => by
        rw [pw_in_iff] at ha ⊢
        obtain ⟨i, hi, h⟩ := ha
        exact ⟨i, by omega, h⟩) (List.mem_range.mpr hw) (by
        cases hq : pw_in n E v j w with
        | false => rfl
        | true =>
          obtain ⟨i, hi, hh⟩ := pw_in_iff.mp hq
          rw [h2 i (by omega)] at hh
          cases hh) (pw_in_iff.mpr ⟨j + 1, Nat.le_refl _, h1⟩)
      omega
  have h1 := key k (Nat.le_refl _)
  have h2 : (List.range n).countP (pw_in n E v k) ≤ (List.range n).length := List.countP_le_length
  rw [List.length_range] at h2
  omega
