/-! the reference's cells: scalars and arrays by the number of their field -/
abbrev fr_S : Type := (Nat → Int32) × (Nat → Nat → Int32)
def fr_zl : List Nat := [0, 0, 0, 0, 20, 20, 20, 0, 6, 6, 6, 6, 20, 360, 5, 20, 20, 20, 20, 5, 40, 40, 40, 40, 40, 10, 3000, 5, 20, 20, 6, 0, 0, 6, 6, 6, 6, 6, 6, 30, 6, 6, 0, 5]
/-- how many places the array of a field has; 0: the field is a number -/
def fr_z (f : Nat) : Nat := fr_zl.getD f 0
theorem fr_z_lt (f : Nat) : fr_z f < 2 ^ 31 := by
  unfold fr_z
  rw [List.getD_eq_getElem?_getD]
  by_cases h : f < fr_zl.length
  · rw [List.getElem?_eq_getElem h]
    have : ∀ x ∈ fr_zl, x < 2 ^ 31 := by decide
    exact this _ (List.getElem_mem h)
  · rw [List.getElem?_eq_none (by omega)]
    decide
def fr_B (f : Nat) : Bool := f == 6 || f == 29 || f == 40
def fr_k (f : Nat) : Nat := if fr_B f = true then am_kZ else am_kI
def fr_ls (N : Nat) (h : Nat → Int32) : List Value := (List.range N).map (fun j => Value.int (h j))
def fr_fs (A : Nat → Nat) (r : fr_S) : List Value := (List.range 44).map (fun f => if fr_z f = 0 then Value.int (r.1 f) else .ref (A f))
def fr_P (A : Nat → Nat) (r : fr_S) (S : am_S) : Prop := am_ok S ∧ S.1 (A 44) = some (10441, .inr (am_cM, fr_fs A r)) ∧ (∀ f, f < 44 → 0 < fr_z f → S.1 (A f) = some (10001 + 10 * f, .inl (fr_k f, fr_ls (fr_z f) (r.2 f)))) ∧ S.2.1 = A 45 ∧ S.2.2 = A 46
def fr_X (t : Nat) : Prop := 10000 ≤ t
def fr_sc (r : fr_S) (f : Nat) (x : Int32) : fr_S := (fun q => if q = f then x else r.1 q, r.2)
def fr_up (r : fr_S) (f j : Nat) (x : Int32) : fr_S := (r.1, fun q i => if q = f ∧ i = j then x else r.2 q i)
theorem fr_ls_len (N : Nat) (h : Nat → Int32) : (fr_ls N h).length = N := by simp [fr_ls]
theorem fr_ls_get {N j : Nat} (h : Nat → Int32) (hj : j < N) : (fr_ls N h)[j]? = some (.int (h j)) := by simp [fr_ls, hj]
theorem fr_ls_set {N j : Nat} (h : Nat → Int32) (x : Int32) : (fr_ls N h).set j (.int x) = fr_ls N (fun i => if i = j then x else h i) := by
  apply List.ext_getElem
  · simp [fr_ls]
  · intro i h1 h2
    simp [fr_ls] at h1
    simp only [fr_ls, List.getElem_set, List.getElem_map, List.getElem_range]
    by_cases e : j = i
    · subst e; simp
    · rw [if_neg e, if_neg (fun q => e q.symm)]
theorem fr_fs_len (A : Nat → Nat) (r : fr_S) : (fr_fs A r).length = 44 := by simp [fr_fs]
theorem fr_fs_get {A : Nat → Nat} {r : fr_S} {f : Nat} (hf : f < 44) : (fr_fs A r)[f]? = some (if fr_z f = 0 then Value.int (r.1 f) else .ref (A f)) := by simp [fr_fs, hf]
theorem fr_fs_set {A : Nat → Nat} {r : fr_S} {f : Nat} (x : Int32) (hz : fr_z f = 0) : (fr_fs A r).set f (.int x) = fr_fs A (fr_sc r f x) := by
  apply List.ext_getElem
  · simp [fr_fs]
  · intro i h1 h2
    simp [fr_fs] at h1
    simp only [fr_fs, List.getElem_set, List.getElem_map, List.getElem_range, fr_sc]
    by_cases e : f = i
    · subst e; simp [hz]
    · rw [if_neg e]
      simp [show ¬ i = f from fun q => e q.symm]
theorem fr_up_at (s : fr_S) (f j : Nat) (x : Int32) (q i : Nat) : (fr_up s f j x).2 q i = if q = f ∧ i = j then x else s.2 q i := rfl
theorem fr_up_s (s : fr_S) (f j : Nat) (x : Int32) : (fr_up s f j x).1 = s.1 := rfl
theorem fr_sc_at (s : fr_S) (f : Nat) (x : Int32) (q : Nat) : (fr_sc s f x).1 q = if q = f then x else s.1 q := rfl
theorem fr_sc_a (s : fr_S) (f : Nat) (x : Int32) : (fr_sc s f x).2 = s.2 := rfl
section FRR
variable {g : am_G} {y : am_N} {d lo : Nat} {post : Option Value → fr_S → Prop} {pc pc1 : Nat} {L : List (Option Value)} {st : List Value} {s : fr_S} {A : Nat → Nat}
theorem fr_gS {idx : Nat} (f : Nat) (hd : am_D y.2.2.1 pc (.getfield idx) 3 pc1) (hF : am_F y.1 idx am_cM f) (hf : f < 44) (hz : fr_z f = 0) (h : gm_W (fr_P A) fr_X g y d lo post pc1 L (.int (s.1 f) :: st) s) : gm_W (fr_P A) fr_X g y d lo post pc L (.ref (A 44) :: st) s := fun S hS => am_get hd hF hS.2.1 (by rw [fr_fs_get hf, if_pos hz]) (h S hS)
theorem fr_gA {idx : Nat} (f : Nat) (hd : am_D y.2.2.1 pc (.getfield idx) 3 pc1) (hF : am_F y.1 idx am_cM f) (hf : f < 44) (hz : 0 < fr_z f) (h : gm_W (fr_P A) fr_X g y d lo post pc1 L (.ref (A f) :: st) s) : gm_W (fr_P A) fr_X g y d lo post pc L (.ref (A 44) :: st) s := fun S hS => am_get hd hF hS.2.1 (by rw [fr_fs_get hf, if_neg (by omega)]) (h S hS)
theorem fr_pS {idx : Nat} (f : Nat) {x : Int32} (hd : am_D y.2.2.1 pc (.putfield idx) 3 pc1) (hF : am_F y.1 idx am_cM f) (hP : am_P y.1 y.2.1 am_cM f .int) (hf : f < 44) (hz : fr_z f = 0) (h : gm_W (fr_P A) fr_X g y d lo post pc1 L st (fr_sc s f x)) : gm_W (fr_P A) fr_X g y d lo post pc L (.int x :: .ref (A 44) :: st) s := fun S hS => by
  refine am_put .int hd hF hP hS.2.1 (by decide) rfl rfl ?_
  rw [fr_fs_set x hz]
  refine gm_cont (am_fr.up hS.2.1 (show 10000 ≤ 10441 by decide)) ⟨hS.1.up hS.2.1, am_up_at _ _ _ _, fun q hq hz => ?_, hS.2.2.2⟩ h
  exact am_up_tag (hS.2.2.1 q hq hz) hS.2.1 (by omega)
theorem fr_stored {r : fr_S} {S : am_S} {f j : Nat} (x : Int32) (hS : fr_P A r S) (hf : f < 44) (hz : 0 < fr_z f) : fr_P A (fr_up r f j x) (am_up S (A f) (10001 + 10 * f) (.inl (fr_k f, (fr_ls (fr_z f) (r.2 f)).set j (.int x)))) := by
  have hc := hS.2.2.1 f hf hz
  refine ⟨hS.1.up hc, am_up_tag hS.2.1 hc (by omega), fun q hq hz' => ?_, hS.2.2.2⟩
  by_cases e : q = f
  · subst e
    rw [am_up_at, fr_ls_set]
    congr 5
    funext i
    simp [fr_up]
  · have h1 : (fr_up r f j x).2 q = r.2 q := by
      funext i
      simp [fr_up, e]
    rw [h1]
    exact am_up_tag (hS.2.2.1 q hq hz') hc (by omega)
theorem fr_ald {f j : Nat} (hd : am_D y.2.2.1 pc .iaload 1 pc1) (hf : f < 44) (hb : fr_B f = false) (hj : j < fr_z f) (h : gm_W (fr_P A) fr_X g y d lo post pc1 L (.int (s.2 f j) :: st) s) : gm_W (fr_P A) fr_X g y d lo post pc L (.int (nI j) :: .ref (A f) :: st) s := fun S hS => by
  have hc := hS.2.2.1 f hf (by omega)
  have hk : fr_k f = am_kI := by simp [fr_k, hb]
  rw [hk] at hc
  exact am_iald hd am_kI_ok hc rfl (fr_ls_get _ hj) (by rw [fr_ls_len]; exact fr_z_lt f) (h S hS)
theorem fr_zld {f j : Nat} (hd : am_D y.2.2.1 pc .baload 1 pc1) (hf : f < 44) (hb : fr_B f = true) (hj : j < fr_z f) (h : gm_W (fr_P A) fr_X g y d lo post pc1 L (.int (s.2 f j) :: st) s) : gm_W (fr_P A) fr_X g y d lo post pc L (.int (nI j) :: .ref (A f) :: st) s := fun S hS => by
  have hc := hS.2.2.1 f hf (by omega)
  have hk : fr_k f = am_kZ := by simp [fr_k, hb]
  rw [hk] at hc
  exact am_zald hd am_kZ_ok hc rfl (fr_ls_get _ hj) (by rw [fr_ls_len]; exact fr_z_lt f) (h S hS)
theorem fr_ast {f j : Nat} {x : Int32} (hd : am_D y.2.2.1 pc .iastore 1 pc1) (hf : f < 44) (hb : fr_B f = false) (hj : j < fr_z f) (h : gm_W (fr_P A) fr_X g y d lo post pc1 L st (fr_up s f j x)) : gm_W (fr_P A) fr_X g y d lo post pc L (.int x :: .int (nI j) :: .ref (A f) :: st) s := fun S hS => by
  have hc := hS.2.2.1 f hf (by omega)
  have hp := fr_stored (j := j) x hS hf (by omega)
  have hk : fr_k f = am_kI := by simp [fr_k, hb]
  rw [hk] at hc hp
  exact am_iast hd am_kI_ok hc (by omega) rfl (by rw [fr_ls_len]; exact hj) (by rw [fr_ls_len]; exact fr_z_lt f) (gm_cont (am_fr.up hc (show 10000 ≤ _ by omega)) hp h)
theorem fr_zst {f j : Nat} {x : Int32} (hd : am_D y.2.2.1 pc .bastore 1 pc1) (hf : f < 44) (hb : fr_B f = true) (hj : j < fr_z f) (hx : narrow .boolean (.int x) = .int x) (h : gm_W (fr_P A) fr_X g y d lo post pc1 L st (fr_up s f j x)) : gm_W (fr_P A) fr_X g y d lo post pc L (.int x :: .int (nI j) :: .ref (A f) :: st) s := fun S hS => by
  have hc := hS.2.2.1 f hf (by omega)
  have hp := fr_stored (j := j) x hS hf (by omega)
  have hk : fr_k f = am_kZ := by simp [fr_k, hb]
  rw [hk] at hc hp
  exact am_zast hd am_kZ_ok hc (by omega) rfl (by rw [fr_ls_len]; exact hj) (by rw [fr_ls_len]; exact fr_z_lt f) hx (gm_cont (am_fr.up hc (show 10000 ≤ _ by omega)) hp h)
theorem fr_aldv {f j : Nat} {v : Int32} (hd : am_D y.2.2.1 pc .iaload 1 pc1) (hf : f < 44) (hb : fr_B f = false) (hj : j < fr_z f) (hv : s.2 f j = v) (h : gm_W (fr_P A) fr_X g y d lo post pc1 L (.int v :: st) s) : gm_W (fr_P A) fr_X g y d lo post pc L (.int (nI j) :: .ref (A f) :: st) s := fr_ald hd hf hb hj (by rw [hv]; exact h)
theorem fr_zldv {f j : Nat} {v : Int32} (hd : am_D y.2.2.1 pc .baload 1 pc1) (hf : f < 44) (hb : fr_B f = true) (hj : j < fr_z f) (hv : s.2 f j = v) (h : gm_W (fr_P A) fr_X g y d lo post pc1 L (.int v :: st) s) : gm_W (fr_P A) fr_X g y d lo post pc L (.int (nI j) :: .ref (A f) :: st) s := fr_zld hd hf hb hj (by rw [hv]; exact h)
theorem fr_gSv {idx : Nat} (f : Nat) {v : Int32} (hd : am_D y.2.2.1 pc (.getfield idx) 3 pc1) (hF : am_F y.1 idx am_cM f) (hf : f < 44) (hz : fr_z f = 0) (hv : s.1 f = v) (h : gm_W (fr_P A) fr_X g y d lo post pc1 L (.int v :: st) s) : gm_W (fr_P A) fr_X g y d lo post pc L (.ref (A 44) :: st) s := fr_gS f hd hF hf hz (by rw [hv]; exact h)
theorem fr_at (s : fr_S) (S : am_S) (h : fr_P A s S) : ∃ tb fs, S.1 (A 44) = some (tb, .inr (am_cM, fs)) := ⟨_, _, h.2.1⟩
end FRR
