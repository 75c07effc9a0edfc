/-! the way that the reference searches -/
section INZ
variable {ns room idle : Nat}
theorem fr_rel.scr {s : fc_S} {r r' : fr_S} (H : fr_rel ns room idle s r) (m : fr_sm [42, 43] r r') : fr_rel ns room idle s r' := ⟨H.S m (by decide) rfl, H.H m (by decide) rfl, H.P m (by decide) (fun _ _ => rfl), H.W m (by decide) (fun _ _ => rfl), H.G m (by decide) (fun _ _ => rfl), H.R m (by decide) (fun _ _ => rfl), H.L m (by decide) (fun _ _ => rfl), H.O m (by decide) rfl rfl rfl, H.K m (by decide) rfl rfl⟩
def fr_lp (s : fc_S) (u w p : Nat) : Bool := (fc_oth s (4 * u + p)).any (fun e => e / 4 == w)
def fr_ldv (s : fc_S) (u w : Nat) : Int32 := if fc_E s u w = true then nI (fc_ld s u w) else -1
theorem pw_least_eq {P : Nat → Bool} {n k : Nat} (hk : k < n) (h : ∀ j, j < k → P j = false) (hp : P k = true) : pw_least P n = k := by
  have h1 := pw_least_lt hk hp
  rcases Nat.lt_or_ge (pw_least P n) k with h2 | h2
  · have h3 := (pw_least_spec P n).1 (by omega)
    rw [h _ h2] at h3
    cases h3
  · omega
theorem fr_ldv_yes {s : fc_S} {u w k : Nat} (hk : k < 4) (h : ∀ j, j < k → fr_lp s u w j = false) (hp : fr_lp s u w k = true) : fr_ldv s u w = nI k := by
  have hE : fc_E s u w = true := by
    unfold fc_E
    rw [List.any_eq_true]
    exact ⟨k, List.mem_range.mpr hk, hp⟩
  unfold fr_ldv
  rw [if_pos hE]
  exact congrArg nI (pw_least_eq (P := fr_lp s u w) hk h hp)
theorem fr_ldv_no {s : fc_S} {u w : Nat} (h : ∀ j, j < 4 → fr_lp s u w j = false) : fr_ldv s u w = -1 := by
  have hE : ¬ fc_E s u w = true := fun z => by
    unfold fc_E at z
    rw [List.any_eq_true] at z
    obtain ⟨j, hj, z⟩ := z
    have := h j (List.mem_range.mp hj)
    unfold fr_lp at this
    rw [this] at z
    cases z
  unfold fr_ldv
  rw [if_neg hE]
theorem fr_other {s : fc_S} {r : fr_S} (h28 : ∀ x, x < 4 * ns → r.2 28 x = fc_get s 3 0 x + nI 1) (n5 : ns ≤ 5) (Io : fc_iO ns s) {x : Nat} (hx : x < 4 * ns) : (r.2 28 x = nI 0 ∧ fc_oth s x = none) ∨ ∃ m, m < 4 * ns ∧ r.2 28 x = nI (m + 1) ∧ fc_oth s x = some m := by
  have h := h28 x hx
  obtain ⟨-, ⟨o, h3, h3l, h3e⟩, -⟩ := Io
  have hg : fc_get s 3 0 x = o.getD x 0 := by unfold fc_get; rw [h3]; rfl
  have hm : o.getD x 0 ∈ o := by
    rw [List.getD_eq_getElem?_getD, List.getElem?_eq_getElem (by omega)]
    exact List.getElem_mem _
  rcases h3e _ hm with e | ⟨m, hm, e⟩
  · exact Or.inl ⟨by rw [h, hg, e]; decide, fc_oth_no (by rw [hg, e])⟩
  · exact Or.inr ⟨m, hm, by rw [h, hg, e, nI_add], fc_oth_yes (by omega) (by rw [hg, e])⟩
theorem fr_rel.h28 {s : fc_S} {r : fr_S} (H : fr_rel ns room idle s r) : ∀ x, x < 4 * ns → r.2 28 x = fc_get s 3 0 x + nI 1 := fun x hx => (H.2.2.2.2.2.2.2.1.1 x hx).1
/-- the switches of a row of numbers -/
def fr_dg (n x size u v i : Nat) : Nat := if i = 0 then u else if i + 1 = size then v else x / n ^ (size - 2 - i) % n
theorem fr_dg_lt {n x size u v i : Nat} (hn : 0 < n) (hu : u < n) (hv : v < n) : fr_dg n x size u v i < n := by
  unfold fr_dg
  split
  · exact hu
  · split
    · exact hv
    · exact Nat.mod_lt _ hn
/-- whether all neighbours are linked -/
def fr_ok (E : Nat → Nat → Bool) (A : Nat → Nat) : Nat → Bool
  | 0 => true
  | k + 1 => fr_ok E A k && E (A k) (A (k + 1))
theorem fr_ok_iff {E : Nat → Nat → Bool} {A : Nat → Nat} : ∀ {k : Nat}, fr_ok E A k = true ↔ ∀ j, j < k → E (A j) (A (j + 1)) = true
  | 0 => ⟨fun _ j hj => by omega, fun _ => rfl⟩
  | k + 1 => by
    show (fr_ok E A k && E (A k) (A (k + 1))) = true ↔ _
    rw [Bool.and_eq_true, fr_ok_iff]
    constructor
    · rintro ⟨h1, h2⟩ j hj
      by_cases e : j = k
      · subst e; exact h2
      · exact h1 j (by omega)
    · exact fun h => ⟨fun j hj => h j (by omega), h k (by omega)⟩
theorem fr_dg_ch {n : Nat} {E : Nat → Nat → Bool} {v : Nat} : ∀ {m u x : Nat}, x < n ^ m → (pw_ch n E v m u x = true ↔ ∀ j, j < m + 1 → E (fr_dg n x (m + 2) u v j) (fr_dg n x (m + 2) u v (j + 1)) = true)
  | 0, u, x, hx => by
    constructor
    · intro h j hj
      have e : j = 0 := by omega
      subst e
      exact h
    · intro h
      exact h 0 (by omega)
  | m + 1, u, x, hx => by
    have hn : 0 < n := by
      rcases Nat.eq_zero_or_pos n with h | h
      · subst h; simp at hx
      · exact h
    have hpos : 0 < n ^ m := Nat.pow_pos hn
    have hlt : x / n ^ m < n := by
      rw [Nat.div_lt_iff_lt_mul hpos]
      rw [Nat.pow_succ, Nat.mul_comm] at hx
      exact hx
    have e0 : x / n ^ m % n = x / n ^ m := Nat.mod_eq_of_lt hlt
    have hr : x % n ^ m < n ^ m := Nat.mod_lt _ hpos
    have ih := fr_dg_ch (n := n) (E := E) (v := v) (m := m) (u := x / n ^ m % n) (x := x % n ^ m) hr
    have step : ∀ j, j < m + 2 → fr_dg n (x % n ^ m) (m + 2) (x / n ^ m % n) v j = fr_dg n x (m + 3) u v (j + 1) := fun j hjm => by
      unfold fr_dg
      rw [if_neg (show ¬ j + 1 = 0 by omega)]
      by_cases j0 : j = 0
      · subst j0
        rw [if_pos rfl, if_neg (by omega)]
        rfl
      · rw [if_neg j0]
        by_cases jl : j + 1 = m + 2
        · rw [if_pos jl, if_pos (by omega)]
        · rw [if_neg jl, if_neg (by omega)]
          rw [show m + 3 - 2 - (j + 1) = m + 2 - 2 - j by omega]
          have hd : n ^ m = n ^ (m + 2 - 2 - j) * n ^ j := by rw [← Nat.pow_add]; congr 1; omega
          have hj1 : n ^ j = n * n ^ (j - 1) := by
            have e : j = j - 1 + 1 := by omega
            conv => lhs; rw [e]
            rw [Nat.pow_succ, Nat.mul_comm]
          rw [hd, Nat.mod_mul_right_div_self, hj1, Nat.mod_mul_right_mod]
    have d1 : fr_dg n x (m + 3) u v 1 = x / n ^ m % n := by
      unfold fr_dg
      rw [if_neg (by omega), if_neg (by omega)]
      rfl
    show (E u (x / n ^ m % n) && pw_ch n E v m (x / n ^ m % n) (x % n ^ m)) = true ↔ _
    rw [Bool.and_eq_true, ih]
    constructor
    · rintro ⟨h1, h2⟩ j hj
      by_cases j0 : j = 0
      · subst j0
        rw [show fr_dg n x (m + 1 + 2) u v (0 + 1) = x / n ^ m % n from d1]
        exact h1
      · have := h2 (j - 1) (by omega)
        rw [step _ (by omega), step _ (by omega), show j - 1 + 1 = j by omega] at this
        exact this
    · intro h
      refine ⟨?_, fun j hj => ?_⟩
      · have := h 0 (by omega)
        rw [show fr_dg n x (m + 1 + 2) u v (0 + 1) = x / n ^ m % n from d1] at this
        exact this
      · rw [step _ (by omega), step _ (by omega)]
        exact h (j + 1) (by omega)
/-- the way found, as switches -/
theorem fr_dg_num {n : Nat} {E : Nat → Nat → Bool} {v m u i : Nat} (h : pw_wk n E (m + 1) u v = true) (hi : i < m + 2) : fr_dg n (pw_num n E v m u) (m + 2) u v i = pw_at n E v (m + 1) u i := by
  unfold fr_dg
  by_cases i0 : i = 0
  · subst i0; rw [if_pos rfl, pw_at_z]
  · rw [if_neg i0]
    by_cases il : i + 1 = m + 2
    · rw [if_pos il, show i = m + 1 by omega, pw_at_last h]
    · rw [if_neg il]
      have := pw_num_at h (show i - 1 < m by omega)
      rw [show i - 1 + 1 = i by omega, show m - 1 - (i - 1) = m + 2 - 2 - i by omega] at this
      exact this
theorem fc_wayOf_d {s : fc_S} {f t a b d : Nat} (hf : f < 1000) (ht : t < 1000) (ha : a < 1000) (hb : b < 1000) (h5f : fc_get s 5 0 f = nI a) (h5t : fc_get s 5 0 t = nI b) (hL : pw_L ns (fc_E s) (b / 4) ns (a / 4) = some d) : fc_wayOf ns s (nI f) (nI t) = (List.range d).map (fc_wF ns s (b / 4) d (a / 4)) ++ [nI b] := by
  rw [fc_wayOf_yes hf ht ha hb h5f h5t, hL]
theorem fc_wayOf_n {s : fc_S} {f t a b : Nat} (hf : f < 1000) (ht : t < 1000) (ha : a < 1000) (hb : b < 1000) (h5f : fc_get s 5 0 f = nI a) (h5t : fc_get s 5 0 t = nI b) (hL : pw_L ns (fc_E s) (b / 4) ns (a / 4) = none) : fc_wayOf ns s (nI f) (nI t) = [] := by
  rw [fc_wayOf_yes hf ht ha hb h5f h5t, hL]
/-- what search leaves behind: found and way say the way -/
def fr_fd (way : List Int32) (r : fr_S) : Prop := r.1 42 = nI way.length ∧ ∀ (i : Nat) (x : Int32), way[i]? = some x → r.2 43 i = nI (fz_sw x)
theorem fr_fd_of {s : fc_S} {r : fr_S} {a b d : Nat} (n5 : ns ≤ 5) (ha : a < 4 * ns) (hb : b < 4 * ns) (hL : pw_L ns (fc_E s) (b / 4) ns (a / 4) = some d) (h42 : r.1 42 = nI (d + 1)) (h43 : ∀ i, i < d + 1 → r.2 43 i = nI (pw_at ns (fc_E s) (b / 4) d (a / 4) i)) : fr_fd ((List.range d).map (fc_wF ns s (b / 4) d (a / 4)) ++ [nI b]) r := by
  have hw := (pw_L_some.mp hL).2.1
  refine ⟨by rw [h42]; simp, fun i x hx => ?_⟩
  have hi := (List.getElem?_eq_some_iff.mp hx).1
  have hi' : i < d + 1 := by simpa using hi
  rw [h43 i hi']
  congr 1
  by_cases e : i < d
  · rw [List.getElem?_append_left (by simpa using e)] at hx
    have hx2 : fc_wF ns s (b / 4) d (a / 4) i = x := by simpa [e] using hx
    rw [← hx2]
    have hlt := pw_at_lt (i := i) (show a / 4 < ns by omega) hw (by omega)
    have := (fc_ld_ok (pw_at_edge hw e)).1
    unfold fz_sw fc_wF
    rw [nI_clamp (by omega)]
    omega
  · have ed : i = d := by omega
    subst ed
    rw [List.getElem?_append_right (by simp)] at hx
    simp at hx
    rw [← hx, pw_at_last hw]
    unfold fz_sw
    rw [nI_clamp (by omega)]
theorem fr_L0 {s : fc_S} {v : Nat} : pw_L ns (fc_E s) v ns v = some 0 := pw_L_some.mpr ⟨Nat.zero_le _, pw_wk_zero.mpr rfl, fun j hj => absurd hj (Nat.not_lt_zero _)⟩
theorem fr_Lno {s : fc_S} {u v : Nat} (hu : u < ns) (h : ∀ j, j < ns → pw_wk ns (fc_E s) j u v = false) : pw_L ns (fc_E s) v ns u = none := by
  refine pw_L_none.mpr (fun j hj => ?_)
  by_cases e : j < ns
  · exact h j e
  · have ej : j = ns := by omega
    subst ej
    cases hw : pw_wk j (fc_E s) j u v with
    | false => rfl
    | true => exact absurd (pw_short hu hw h) (Nat.lt_irrefl _)
theorem fr_Lyes {s : fc_S} {u v m : Nat} (hm : m + 1 ≤ ns) (h : ∀ j, j < m + 1 → pw_wk ns (fc_E s) j u v = false) (hw : pw_wk ns (fc_E s) (m + 1) u v = true) : pw_L ns (fc_E s) v ns u = some (m + 1) := pw_L_some.mpr ⟨hm, hw, h⟩
end INZ
