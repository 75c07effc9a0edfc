/-! frames: what comes of them -/
section INT
variable {ns room idle : Nat}
theorem fc_out_h {s : fc_S} {e k : Nat} {row : List Int32} (hh : fc_get s (100 + e) 0 0 = nI k) (hk : k < 1000) : fc_out s e row = if row.getD 0 0 ≠ -1 ∧ row.getD 1 0 = nI k then fc_take s k row else s := by
  unfold fc_out
  have hne : (nI k != -1) = true := by rw [bne_iff_ne]; exact cl_ix_ne (by omega)
  rw [hh, if_pos hne, nI_clamp (by omega)]
  by_cases q : row.getD 0 0 ≠ -1 ∧ row.getD 1 0 = nI k
  · rw [if_pos q, if_pos]
    rw [Bool.and_eq_true, bne_iff_ne, beq_iff_eq]
    exact q
  · rw [if_neg q, if_neg]
    rw [Bool.and_eq_true, bne_iff_ne, beq_iff_eq]
    exact q
theorem fc_out_n {s : fc_S} {e : Nat} {row : List Int32} (hh : fc_get s (100 + e) 0 0 = -1) : fc_out s e row = if fc_get s (100 + e) 0 2 ≠ 0 ∧ (s (200 + e)).length < 6 then fc_add s (200 + e) row else s := by
  unfold fc_out fc_len
  rw [hh, if_neg (by decide)]
  by_cases q : fc_get s (100 + e) 0 2 ≠ 0 ∧ (s (200 + e)).length < 6
  · rw [if_pos q, if_pos]
    rw [Bool.and_eq_true, bne_iff_ne, decide_eq_true_eq]
    exact q
  · rw [if_neg q, if_neg]
    rw [Bool.and_eq_true, bne_iff_ne, decide_eq_true_eq]
    exact q
theorem fc_frm_neg {x0 x1 x2 : Int32} (hf : fc_frm ns [x0, x1, x2]) : x0 < 0 ↔ x0 = -1 := by
  rcases hf with ⟨f, t, n, h1, h2, e⟩ | ⟨o, ho, e⟩
  · simp only [List.cons.injEq] at e
    obtain ⟨rfl, rfl, rfl, -⟩ := e
    exact ⟨fun z => absurd z (nI_pos (by omega)), fun z => absurd z (cl_ix_ne (by omega))⟩
  · simp only [List.cons.injEq] at e
    obtain ⟨rfl, -⟩ := e
    exact ⟨fun _ => rfl, fun _ => by decide⟩
theorem fr_out_took {s : fc_S} {r : fr_S} (H : fr_rel ns room idle s r) (D : fc_iD ns room s) {e k : Nat} (hk : k < (s 1).length) (hh : fc_get s (100 + e) 0 0 = nI k) {x0 x2 a : Int32} (h0 : ¬ x0 < 0) (hf : fc_frm ns [x0, nI k, x2]) (ha : r.2 9 k = a) : fr_rel ns room idle (fc_out s e [x0, nI k, x2]) (fr_up (fr_up (fr_up r 9 k (a + nI 1)) 10 k x2) 11 k x0) := by
  have h6 := D.2.1.2.1
  rw [fc_out_h hh (by omega), if_pos ⟨fun z => h0 ((fc_frm_neg hf).mpr z), rfl⟩]
  have hr := List.getElem?_eq_getElem hk
  obtain ⟨i, p, b1, b2, b3, h1, h2, he⟩ := D.2.1.2.2 k _ hr
  rw [he] at hr
  rw [fc_take_eq hr]
  have h9 := (H.2.1.2.1 k _ hr).2.1
  have eb : b1 + 1 = a + nI 1 := by rw [← ha, h9]; rfl
  rw [eb]
  exact H.htake D.1.2.1 hr _ _ _
theorem fc_out_s {s : fc_S} {e k : Nat} {row : List Int32} (hh : fc_get s (100 + e) 0 0 = nI k) (hk : k < 1000) (h : ¬ (row.getD 0 0 ≠ -1 ∧ row.getD 1 0 = nI k)) : fc_out s e row = s := by rw [fc_out_h hh hk, if_neg h]
theorem fc_mate_up {s : fc_S} (U : fc_iU ns s) {e : Nat} (he : e < 4 * ns) (h : ¬ fc_get s (100 + e) 0 1 ≠ -1) : fc_get s (100 + e) 0 2 = 0 := (U e he).1 (Classical.byContradiction h)
theorem fr_slight {s : fc_S} {i : Nat} {row : List Int32} : (if (0 ≠ 0 ∧ 0 ≠ 1) ∨ (s (40 + i)).length < 8 then fc_add s (40 + i) row else s) = fc_slight s i row := by
  unfold fc_slight fc_len
  by_cases q : (s (40 + i)).length < 8
  · rw [if_pos (Or.inr q), if_pos q]
  · rw [if_neg (fun z => q (z.resolve_left (fun w => w.1 rfl))), if_neg q]
theorem fr_slight1 {s : fc_S} {i : Nat} {row : List Int32} : (if (1 ≠ 0 ∧ 1 ≠ 1) ∨ (s (40 + i)).length < 8 then fc_add s (40 + i) row else s) = fc_slight s i row := by
  unfold fc_slight fc_len
  by_cases q : (s (40 + i)).length < 8
  · rw [if_pos (Or.inr q), if_pos q]
  · rw [if_neg (fun z => q (z.resolve_left (fun w => w.2 rfl))), if_neg q]
theorem fr_rel.port {s : fc_S} {r : fr_S} (H : fr_rel ns room idle s r) (D : fc_iD ns room s) {f : Nat} (hf : f < (s 1).length) : ∃ i p, i < ns ∧ p < 4 ∧ r.2 8 f = nI (4 * i + p) ∧ fc_get s 1 f 1 = nI i ∧ fc_get s 1 f 2 = nI p := by
  have hr := List.getElem?_eq_getElem hf
  obtain ⟨i, p, b1, b2, b3, h1, h2, he⟩ := D.2.1.2.2 f _ hr
  rw [he] at hr
  refine ⟨i, p, h1, h2, ?_, by rw [fc_get_row hr]; rfl, by rw [fc_get_row hr]; rfl⟩
  rw [(H.2.1.2.1 f _ hr).1]
  show nI 4 * nI i + nI p = _
  rw [pk_mul, nI_add]
end INT
