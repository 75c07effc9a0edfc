/-! the reference at the start -/
section REW
variable {g : am_G} {S : am_S}
/-- how many arrays the fields before f hold, how many places -/
def fm_rk (f : Nat) : Nat := ((List.range f).filter (fun q => decide (0 < fr_z q))).length
def fm_sl (f : Nat) : Nat := ((List.range f).map fr_z).sum
theorem fm_rk_s (f : Nat) : fm_rk (f + 1) = fm_rk f + if 0 < fr_z f then 1 else 0 := by
  unfold fm_rk
  rw [List.range_succ, List.filter_append, List.length_append]
  congr 1
  by_cases h : 0 < fr_z f
  · rw [if_pos h, List.filter_cons, if_pos (decide_eq_true h)]; rfl
  · rw [if_neg h, List.filter_cons, if_neg (by simpa using h)]; rfl
theorem fm_sl_s (f : Nat) : fm_sl (f + 1) = fm_sl f + fr_z f := by
  unfold fm_sl
  rw [List.range_succ, List.map_append, List.sum_append]
  simp
theorem fm_rk_le {f k : Nat} (h : f ≤ k) : fm_rk f ≤ fm_rk k := by
  induction h with
  | refl => exact Nat.le_refl _
  | step h ih => rw [fm_rk_s]; omega
theorem fm_rk_lt {f k : Nat} (h : f < k) (hz : 0 < fr_z f) : fm_rk f < fm_rk k := by
  have := fm_rk_le (show f + 1 ≤ k from h)
  rw [fm_rk_s, if_pos hz] at this
  omega
def fm_A (a n0 f : Nat) : Nat := if f = 44 then a else n0 + fm_rk f
def fm_fs (a n0 K : Nat) : List Value := (List.range 44).map (fun f => if fr_z f = 0 then Value.int 0 else if f < K then .ref (fm_A a n0 f) else .null)
def fm_P (S0 : am_S) (a K : Nat) (S : am_S) : Prop := am_ok S ∧ (S.2.1 = S0.2.1 + fm_rk K ∧ S.2.2 = S0.2.2 + fm_sl K) ∧ S.1 a = some (10441, .inr (am_cM, fm_fs a S0.2.1 K)) ∧ (∀ f, f < K → f < 44 → 0 < fr_z f → S.1 (fm_A a S0.2.1 f) = some (10001 + 10 * f, .inl (fr_k f, List.replicate (fr_z f) (.int 0)))) ∧ ∀ (b : Nat) (c : Nat × am_K), S0.1 b = some c → b ≠ a → S.1 b = some c
theorem fm_fs_set {a n0 f : Nat} (hf : f < 44) (hz : 0 < fr_z f) : (fm_fs a n0 f).set f (.ref (n0 + fm_rk f)) = fm_fs a n0 (f + 1) := by
  apply List.ext_getElem
  · simp [fm_fs]
  · intro i h1 h2
    simp [fm_fs] at h1
    simp only [fm_fs, List.getElem_set, List.getElem_map, List.getElem_range]
    by_cases e : f = i
    · subst e
      rw [if_pos rfl, if_neg (by omega), if_pos (by omega)]
      unfold fm_A
      rw [if_neg (by omega)]
    · rw [if_neg e]
      by_cases z : fr_z i = 0
      · rw [if_pos z, if_pos z]
      · rw [if_neg z, if_neg z]
        by_cases l : i < f
        · rw [if_pos l, if_pos (by omega)]
        · rw [if_neg l, if_neg (by omega)]
theorem fm_skip {S0 : am_S} {a f : Nat} (hz : fr_z f = 0) (h : fm_P S0 a f S) : fm_P S0 a (f + 1) S := by
  obtain ⟨o, n, c, ar, old⟩ := h
  have ef : fm_fs a S0.2.1 (f + 1) = fm_fs a S0.2.1 f := by
    unfold fm_fs
    refine List.map_congr_left (fun i _ => ?_)
    by_cases z : fr_z i = 0
    · rw [if_pos z, if_pos z]
    · rw [if_neg z, if_neg z]
      have hne : i ≠ f := fun e => z (e ▸ hz)
      by_cases l : i < f
      · rw [if_pos l, if_pos (by omega)]
      · rw [if_neg l, if_neg (by omega)]
  refine ⟨o, ⟨by rw [fm_rk_s, if_neg (by omega)]; exact n.1, by rw [fm_sl_s, hz]; exact n.2⟩, by rw [ef]; exact c, fun q hq hq2 hq3 => ar q (by (have : q ≠ f := fun e => by rw [e, hz] at hq3; exact absurd hq3 (Nat.lt_irrefl _)); omega) hq2 hq3, old⟩
theorem fm_step {S0 : am_S} {a f : Nat} (ha : a < S0.2.1) (o0 : am_ok S0) (hf : f < 44) (hz : 0 < fr_z f) (h : fm_P S0 a f S) : fm_P S0 a (f + 1) (am_up (am_mk S (10001 + 10 * f) (fr_z f) (.inl (fr_k f, List.replicate (fr_z f) (.int 0)))) a 10441 (.inr (am_cM, (fm_fs a S0.2.1 f).set f (.ref S.2.1)))) := by
  obtain ⟨o, n, c, ar, old⟩ := h
  have c1 : (am_mk S (10001 + 10 * f) (fr_z f) (.inl (fr_k f, List.replicate (fr_z f) (.int 0)))).1 a = some (10441, .inr (am_cM, fm_fs a S0.2.1 f)) := am_mk_old c o
  have o1 := o.mk (10001 + 10 * f) (fr_z f) (.inl (fr_k f, List.replicate (fr_z f) (.int 0)))
  refine ⟨o1.up c1, ⟨?_, ?_⟩, ?_, fun q hq hq2 hq3 => ?_, fun b cc hb hne => ?_⟩
  · show S.2.1 + 1 = _
    rw [fm_rk_s, if_pos hz, n.1]
    omega
  · show S.2.2 + fr_z f = _
    rw [fm_sl_s, n.2]
    omega
  · rw [am_up_at, n.1, fm_fs_set hf hz]
  · by_cases e : q = f
    · subst e
      have hA : fm_A a S0.2.1 q = S.2.1 := by unfold fm_A; rw [if_neg (by omega), n.1]
      rw [hA]
      refine am_up_tag (am_mk_at _ _ _ _) c1 (by omega)
    · exact am_up_tag (am_mk_old (ar q (by omega) hq2 hq3) o) c1 (by omega)
  · have h1 := am_mk_old (t := 10001 + 10 * f) (n := fr_z f) (x := .inl (fr_k f, List.replicate (fr_z f) (.int 0))) (old b cc hb hne) o
    show (if b = a then _ else _) = _
    rw [if_neg hne]
    exact h1
theorem fm_new {S0 : am_S} {a f idx : Nat} {y : am_N} {d lo pc pc1 pc2 : Nat} {post : Option Value → am_S → Prop} {L : List (Option Value)} {st : List Value} {atype : ArrayType} {ty : FieldType} {x : Int32} (ha : a < S0.2.1) (o0 : am_ok S0) (hf : f < 44) (hz : 0 < fr_z f) (h : fm_P S0 a f S) (hd : am_D y.2.2.1 pc (.newarray atype) 2 pc1) (ht : am_ak[fr_k f]? = some (newarray.typeOf atype)) (hx : ¬ x < 0) (hN : x.toNatClampNeg = fr_z f) (hb : fr_z f * componentBytes (newarray.typeOf atype) ≤ 536870912) (hv : defaultValue (newarray.typeOf atype) = .int 0) (hd2 : am_D y.2.2.1 pc1 (.putfield idx) 3 pc2) (hF : am_F y.1 idx am_cM f) (hP : am_P y.1 y.2.1 am_cM f ty) (hn : ∀ q, narrow ty (.ref q) = .ref q) (hfit : ∀ q, fits ty (.ref q) = true) (k : ∀ S', fm_P S0 a (f + 1) S' → am_W g y d lo post pc2 L st S') : am_W g y d lo post pc L (.int x :: .ref a :: st) S := by
  refine am_newi (10001 + 10 * f) hd ht hx hN hb hv ?_
  exact am_put ty hd2 hF hP (am_mk_old h.2.2.1 h.1) (by decide) (hn _) (hfit _) (k _ (fm_step ha o0 hf hz h))
def fm_r (x z u : Int32) : fr_S := (fun q => if q = 0 then x else if q = 1 then z else if q = 2 then u else 0, fun _ _ => 0)
def fm_B (S0 : am_S) (a : Nat) : Nat → Nat := fun f => if f = 45 then S0.2.1 + 36 else if f = 46 then S0.2.2 + 3898 else fm_A a S0.2.1 f
theorem fm_rk44 : fm_rk 44 = 36 := by decide +kernel
theorem fm_sl44 : fm_sl 44 = 3898 := by decide +kernel
theorem fm_done {S0 : am_S} {a : Nat} (h : fm_P S0 a 44 S) : fr_P (fm_B S0 a) (fm_r 0 0 0) S := by
  obtain ⟨o, n, c, ar, old⟩ := h
  have hB : ∀ f, f ≤ 44 → fm_B S0 a f = fm_A a S0.2.1 f := fun f hf => by unfold fm_B; rw [if_neg (by omega), if_neg (by omega)]
  have e44 : fm_B S0 a 44 = a := by rw [hB 44 (by omega)]; unfold fm_A; rw [if_pos rfl]
  refine ⟨o, ?_, fun f hf hz => ?_, by rw [n.1, fm_rk44]; rfl, by rw [n.2, fm_sl44]; rfl⟩
  · have hfs : fm_fs a S0.2.1 44 = fr_fs (fm_B S0 a) (fm_r 0 0 0) := ?_
    · rw [e44, c, hfs]
    unfold fm_fs fr_fs
    refine List.map_congr_left (fun f hf => ?_)
    have hf := List.mem_range.mp hf
    by_cases z : fr_z f = 0
    · rw [if_pos z, if_pos z]
      show Value.int 0 = Value.int (if f = 0 then 0 else if f = 1 then 0 else if f = 2 then 0 else 0)
      congr 1
      split <;> (try split) <;> (try split) <;> rfl
    · rw [if_neg z, if_neg z, if_pos hf, hB f (by omega)]
  · rw [hB f (by omega), ar f hf hf hz]
    congr 4
    unfold fr_ls
    refine List.ext_getElem (by simp) (fun i h1 h2 => ?_)
    simp [fm_r]
theorem fm_r_up (x z u : Int32) : (fr_sc (fr_sc (fr_sc (fm_r 0 0 0) 0 x) 1 z) 2 u) = fm_r x z u := by
  refine Prod.ext ?_ rfl
  funext q
  show (if q = 2 then _ else if q = 1 then _ else if q = 0 then _ else _) = (if q = 0 then _ else if q = 1 then _ else if q = 2 then _ else _)
  by_cases q0 : q = 0
  · subst q0; rfl
  · by_cases q1 : q = 1
    · subst q1; rfl
    · by_cases q2 : q = 2
      · subst q2; rfl
      · rw [if_neg q2, if_neg q1, if_neg q0, if_neg q0, if_neg q1, if_neg q2]
        show (if q = 0 then _ else if q = 1 then _ else if q = 2 then _ else _) = _
        rw [if_neg q0, if_neg q1, if_neg q2]
theorem fm_rk0 : fm_rk 0 = 0 := rfl
theorem fm_sl0 : fm_sl 0 = 0 := rfl
theorem fm_z0 : fr_z 0 = 0 := rfl
theorem fm_z1 : fr_z 1 = 0 := rfl
theorem fm_z2 : fr_z 2 = 0 := rfl
theorem fm_z3 : fr_z 3 = 0 := rfl
theorem fm_P4 {a : Nat} (o : am_ok S) (ha : S.1 a = some (10441, .inr (am_cM, fm_fs a S.2.1 0))) : fm_P S a 4 S := by
  have P0 : fm_P S a 0 S := ⟨o, ⟨by rw [fm_rk0, Nat.add_zero], by rw [fm_sl0, Nat.add_zero]⟩, ha, fun f hf => absurd hf (Nat.not_lt_zero _), fun b c hb _ => hb⟩
  exact fm_skip fm_z3 (fm_skip fm_z2 (fm_skip fm_z1 (fm_skip fm_z0 P0)))
theorem fm_B44 (S : am_S) (a : Nat) : fm_B S a 44 = a := by unfold fm_B fm_A; rw [if_neg (by decide), if_neg (by decide), if_pos rfl]
theorem mk_Mk {A : Nat → Nat} (xx yy zz : Int32) : gm_W (fr_P A) fr_X g y_M_new 1 22 (fun v r' => v = none ∧ r' = (fm_r (if xx < nI 2 then nI 2 else if nI 5 < xx then nI 5 else xx) (if yy < nI 1 then nI 1 else if nI 8 < yy then nI 8 else yy) (if zz < nI 1 then nI 1 else if nI 9 < zz then nI 9 else zz))) 290 [some (.ref (A 44)), some (.int xx), some (.int yy), some (.int zz)] [] (fm_r 0 0 0) := by
  refine gm_aload_n d_M_new_290 rfl (by first | exact am_rvR _ | exact am_rvN | assumption) ?_
  refine gm_iload_n d_M_new_291 rfl ?_
  refine gm_iconst (v := nI 2) d_M_new_292 (by decide) ?_
  refine gm_iconst (v := nI 5) d_M_new_293 (by decide) ?_
  refine gm_cS d_M_new_294 s_M_119 (vs := [.int xx, .int (nI 2), .int (nI 5)]) (st := [.ref (A 44)]) rfl rfl (by decide) (Nat.le_of_ble_eq_true rfl) (rf_between xx (nI 2) (nI 5)) ?_
  rintro v r1 ⟨rfl, hr1⟩
  subst hr1
  refine fr_pS 0 d_M_new_297 f_M_123 p_M_123 (by decide) rfl ?_
  refine gm_aload_n d_M_new_300 rfl (by first | exact am_rvR _ | exact am_rvN | assumption) ?_
  refine gm_iload_n d_M_new_301 rfl ?_
  refine gm_iconst (v := nI 1) d_M_new_302 (by decide) ?_
  refine gm_bipush (v := nI 8) d_M_new_303 (by decide) ?_
  refine gm_cS d_M_new_305 s_M_119 (vs := [.int yy, .int (nI 1), .int (nI 8)]) (st := [.ref (A 44)]) rfl rfl (by decide) (Nat.le_of_ble_eq_true rfl) (rf_between yy (nI 1) (nI 8)) ?_
  rintro v r1 ⟨rfl, hr1⟩
  subst hr1
  refine fr_pS 1 d_M_new_308 f_M_127 p_M_127 (by decide) rfl ?_
  refine gm_aload_n d_M_new_311 rfl (by first | exact am_rvR _ | exact am_rvN | assumption) ?_
  refine gm_iload_n d_M_new_312 rfl ?_
  refine gm_iconst (v := nI 1) d_M_new_313 (by decide) ?_
  refine gm_bipush (v := nI 9) d_M_new_314 (by decide) ?_
  refine gm_cS d_M_new_316 s_M_119 (vs := [.int zz, .int (nI 1), .int (nI 9)]) (st := [.ref (A 44)]) rfl rfl (by decide) (Nat.le_of_ble_eq_true rfl) (rf_between zz (nI 1) (nI 9)) ?_
  rintro v r1 ⟨rfl, hr1⟩
  subst hr1
  refine fr_pS 2 d_M_new_319 f_M_130 p_M_130 (by decide) rfl ?_
  refine gm_vret d_M_new_322 rfl ?_
  exact ⟨rfl, fm_r_up _ _ _⟩
theorem mk_M0 {a : Nat} {xx yy zz : Int32} {S0 : am_S} {post : Option Value → am_S → Prop} (hal : a < S0.2.1) (o : am_ok S0) (P4 : fm_P S0 a 4 S) (K : ∀ S', fm_P S0 a 14 S' → am_W g y_M_new 1 22 post 77 [some (.ref a), some (.int xx), some (.int yy), some (.int zz)] [] S') : am_W g y_M_new 1 22 post 4 [some (.ref a), some (.int xx), some (.int yy), some (.int zz)] [] S := by
  refine am_aload_n d_M_new_4 rfl (by first | exact am_rvR _ | exact am_rvN | assumption) ?_
  refine am_bipush (v := nI 20) d_M_new_5 (by decide) ?_
  refine fm_new (f := 4) hal o (by decide) (by decide) P4 d_M_new_7 (by rfl) (by decide) (by decide) (by decide) rfl d_M_new_9 f_M_7 p_M_7 (fun _ => rfl) (fun _ => rfl) (fun S4 P5 => ?_)
  clear P4
  refine am_aload_n d_M_new_12 rfl (by first | exact am_rvR _ | exact am_rvN | assumption) ?_
  refine am_bipush (v := nI 20) d_M_new_13 (by decide) ?_
  refine fm_new (f := 5) hal o (by decide) (by decide) P5 d_M_new_15 (by rfl) (by decide) (by decide) (by decide) rfl d_M_new_17 f_M_13 p_M_13 (fun _ => rfl) (fun _ => rfl) (fun S5 P6 => ?_)
  clear P5
  refine am_aload_n d_M_new_20 rfl (by first | exact am_rvR _ | exact am_rvN | assumption) ?_
  refine am_bipush (v := nI 20) d_M_new_21 (by decide) ?_
  refine fm_new (f := 6) hal o (by decide) (by decide) P6 d_M_new_23 (by rfl) (by decide) (by decide) (by decide) rfl d_M_new_25 f_M_16 p_M_16 (fun _ => rfl) (fun _ => rfl) (fun S6 P7 => ?_)
  clear P6
  refine am_aload_n d_M_new_28 rfl (by first | exact am_rvR _ | exact am_rvN | assumption) ?_
  refine am_bipush (v := nI 6) d_M_new_29 (by decide) ?_
  have P8 := fm_skip (f := 7) rfl P7
  refine fm_new (f := 8) hal o (by decide) (by decide) P8 d_M_new_31 (by rfl) (by decide) (by decide) (by decide) rfl d_M_new_33 f_M_20 p_M_20 (fun _ => rfl) (fun _ => rfl) (fun S8 P9 => ?_)
  clear P8
  refine am_aload_n d_M_new_36 rfl (by first | exact am_rvR _ | exact am_rvN | assumption) ?_
  refine am_bipush (v := nI 6) d_M_new_37 (by decide) ?_
  refine fm_new (f := 9) hal o (by decide) (by decide) P9 d_M_new_39 (by rfl) (by decide) (by decide) (by decide) rfl d_M_new_41 f_M_23 p_M_23 (fun _ => rfl) (fun _ => rfl) (fun S9 P10 => ?_)
  clear P9
  refine am_aload_n d_M_new_44 rfl (by first | exact am_rvR _ | exact am_rvN | assumption) ?_
  refine am_bipush (v := nI 6) d_M_new_45 (by decide) ?_
  refine fm_new (f := 10) hal o (by decide) (by decide) P10 d_M_new_47 (by rfl) (by decide) (by decide) (by decide) rfl d_M_new_49 f_M_26 p_M_26 (fun _ => rfl) (fun _ => rfl) (fun S10 P11 => ?_)
  clear P10
  refine am_aload_n d_M_new_52 rfl (by first | exact am_rvR _ | exact am_rvN | assumption) ?_
  refine am_bipush (v := nI 6) d_M_new_53 (by decide) ?_
  refine fm_new (f := 11) hal o (by decide) (by decide) P11 d_M_new_55 (by rfl) (by decide) (by decide) (by decide) rfl d_M_new_57 f_M_29 p_M_29 (fun _ => rfl) (fun _ => rfl) (fun S11 P12 => ?_)
  clear P11
  refine am_aload_n d_M_new_60 rfl (by first | exact am_rvR _ | exact am_rvN | assumption) ?_
  refine am_bipush (v := nI 20) d_M_new_61 (by decide) ?_
  refine fm_new (f := 12) hal o (by decide) (by decide) P12 d_M_new_63 (by rfl) (by decide) (by decide) (by decide) rfl d_M_new_65 f_M_32 p_M_32 (fun _ => rfl) (fun _ => rfl) (fun S12 P13 => ?_)
  clear P12
  refine am_aload_n d_M_new_68 rfl (by first | exact am_rvR _ | exact am_rvN | assumption) ?_
  refine am_sipush (v := nI 360) d_M_new_69 (by decide) ?_
  refine fm_new (f := 13) hal o (by decide) (by decide) P13 d_M_new_72 (by rfl) (by decide) (by decide) (by decide) rfl d_M_new_74 f_M_35 p_M_35 (fun _ => rfl) (fun _ => rfl) (fun S13 P14 => ?_)
  clear P13
  exact K _ P14
theorem mk_M1 {a : Nat} {xx yy zz : Int32} {S0 : am_S} {post : Option Value → am_S → Prop} (hal : a < S0.2.1) (o : am_ok S0) (P14 : fm_P S0 a 14 S) (K : ∀ S', fm_P S0 a 23 S' → am_W g y_M_new 1 22 post 147 [some (.ref a), some (.int xx), some (.int yy), some (.int zz)] [] S') : am_W g y_M_new 1 22 post 77 [some (.ref a), some (.int xx), some (.int yy), some (.int zz)] [] S := by
  refine am_aload_n d_M_new_77 rfl (by first | exact am_rvR _ | exact am_rvN | assumption) ?_
  refine am_iconst (v := nI 5) d_M_new_78 (by decide) ?_
  refine fm_new (f := 14) hal o (by decide) (by decide) P14 d_M_new_79 (by rfl) (by decide) (by decide) (by decide) rfl d_M_new_81 f_M_38 p_M_38 (fun _ => rfl) (fun _ => rfl) (fun S14 P15 => ?_)
  clear P14
  refine am_aload_n d_M_new_84 rfl (by first | exact am_rvR _ | exact am_rvN | assumption) ?_
  refine am_bipush (v := nI 20) d_M_new_85 (by decide) ?_
  refine fm_new (f := 15) hal o (by decide) (by decide) P15 d_M_new_87 (by rfl) (by decide) (by decide) (by decide) rfl d_M_new_89 f_M_41 p_M_41 (fun _ => rfl) (fun _ => rfl) (fun S15 P16 => ?_)
  clear P15
  refine am_aload_n d_M_new_92 rfl (by first | exact am_rvR _ | exact am_rvN | assumption) ?_
  refine am_bipush (v := nI 20) d_M_new_93 (by decide) ?_
  refine fm_new (f := 16) hal o (by decide) (by decide) P16 d_M_new_95 (by rfl) (by decide) (by decide) (by decide) rfl d_M_new_97 f_M_44 p_M_44 (fun _ => rfl) (fun _ => rfl) (fun S16 P17 => ?_)
  clear P16
  refine am_aload_n d_M_new_100 rfl (by first | exact am_rvR _ | exact am_rvN | assumption) ?_
  refine am_bipush (v := nI 20) d_M_new_101 (by decide) ?_
  refine fm_new (f := 17) hal o (by decide) (by decide) P17 d_M_new_103 (by rfl) (by decide) (by decide) (by decide) rfl d_M_new_105 f_M_47 p_M_47 (fun _ => rfl) (fun _ => rfl) (fun S17 P18 => ?_)
  clear P17
  refine am_aload_n d_M_new_108 rfl (by first | exact am_rvR _ | exact am_rvN | assumption) ?_
  refine am_bipush (v := nI 20) d_M_new_109 (by decide) ?_
  refine fm_new (f := 18) hal o (by decide) (by decide) P18 d_M_new_111 (by rfl) (by decide) (by decide) (by decide) rfl d_M_new_113 f_M_50 p_M_50 (fun _ => rfl) (fun _ => rfl) (fun S18 P19 => ?_)
  clear P18
  refine am_aload_n d_M_new_116 rfl (by first | exact am_rvR _ | exact am_rvN | assumption) ?_
  refine am_iconst (v := nI 5) d_M_new_117 (by decide) ?_
  refine fm_new (f := 19) hal o (by decide) (by decide) P19 d_M_new_118 (by rfl) (by decide) (by decide) (by decide) rfl d_M_new_120 f_M_53 p_M_53 (fun _ => rfl) (fun _ => rfl) (fun S19 P20 => ?_)
  clear P19
  refine am_aload_n d_M_new_123 rfl (by first | exact am_rvR _ | exact am_rvN | assumption) ?_
  refine am_bipush (v := nI 40) d_M_new_124 (by decide) ?_
  refine fm_new (f := 20) hal o (by decide) (by decide) P20 d_M_new_126 (by rfl) (by decide) (by decide) (by decide) rfl d_M_new_128 f_M_56 p_M_56 (fun _ => rfl) (fun _ => rfl) (fun S20 P21 => ?_)
  clear P20
  refine am_aload_n d_M_new_131 rfl (by first | exact am_rvR _ | exact am_rvN | assumption) ?_
  refine am_bipush (v := nI 40) d_M_new_132 (by decide) ?_
  refine fm_new (f := 21) hal o (by decide) (by decide) P21 d_M_new_134 (by rfl) (by decide) (by decide) (by decide) rfl d_M_new_136 f_M_59 p_M_59 (fun _ => rfl) (fun _ => rfl) (fun S21 P22 => ?_)
  clear P21
  refine am_aload_n d_M_new_139 rfl (by first | exact am_rvR _ | exact am_rvN | assumption) ?_
  refine am_bipush (v := nI 40) d_M_new_140 (by decide) ?_
  refine fm_new (f := 22) hal o (by decide) (by decide) P22 d_M_new_142 (by rfl) (by decide) (by decide) (by decide) rfl d_M_new_144 f_M_62 p_M_62 (fun _ => rfl) (fun _ => rfl) (fun S22 P23 => ?_)
  clear P22
  exact K _ P23
theorem mk_M2 {a : Nat} {xx yy zz : Int32} {S0 : am_S} {post : Option Value → am_S → Prop} (hal : a < S0.2.1) (o : am_ok S0) (P23 : fm_P S0 a 23 S) (K : ∀ S', fm_P S0 a 34 S' → am_W g y_M_new 1 22 post 219 [some (.ref a), some (.int xx), some (.int yy), some (.int zz)] [] S') : am_W g y_M_new 1 22 post 147 [some (.ref a), some (.int xx), some (.int yy), some (.int zz)] [] S := by
  refine am_aload_n d_M_new_147 rfl (by first | exact am_rvR _ | exact am_rvN | assumption) ?_
  refine am_bipush (v := nI 40) d_M_new_148 (by decide) ?_
  refine fm_new (f := 23) hal o (by decide) (by decide) P23 d_M_new_150 (by rfl) (by decide) (by decide) (by decide) rfl d_M_new_152 f_M_65 p_M_65 (fun _ => rfl) (fun _ => rfl) (fun S23 P24 => ?_)
  clear P23
  refine am_aload_n d_M_new_155 rfl (by first | exact am_rvR _ | exact am_rvN | assumption) ?_
  refine am_bipush (v := nI 40) d_M_new_156 (by decide) ?_
  refine fm_new (f := 24) hal o (by decide) (by decide) P24 d_M_new_158 (by rfl) (by decide) (by decide) (by decide) rfl d_M_new_160 f_M_68 p_M_68 (fun _ => rfl) (fun _ => rfl) (fun S24 P25 => ?_)
  clear P24
  refine am_aload_n d_M_new_163 rfl (by first | exact am_rvR _ | exact am_rvN | assumption) ?_
  refine am_bipush (v := nI 10) d_M_new_164 (by decide) ?_
  refine fm_new (f := 25) hal o (by decide) (by decide) P25 d_M_new_166 (by rfl) (by decide) (by decide) (by decide) rfl d_M_new_168 f_M_71 p_M_71 (fun _ => rfl) (fun _ => rfl) (fun S25 P26 => ?_)
  clear P25
  refine am_aload_n d_M_new_171 rfl (by first | exact am_rvR _ | exact am_rvN | assumption) ?_
  refine am_sipush (v := nI 3000) d_M_new_172 (by decide) ?_
  refine fm_new (f := 26) hal o (by decide) (by decide) P26 d_M_new_175 (by rfl) (by decide) (by decide) (by decide) rfl d_M_new_177 f_M_74 p_M_74 (fun _ => rfl) (fun _ => rfl) (fun S26 P27 => ?_)
  clear P26
  refine am_aload_n d_M_new_180 rfl (by first | exact am_rvR _ | exact am_rvN | assumption) ?_
  refine am_iconst (v := nI 5) d_M_new_181 (by decide) ?_
  refine fm_new (f := 27) hal o (by decide) (by decide) P27 d_M_new_182 (by rfl) (by decide) (by decide) (by decide) rfl d_M_new_184 f_M_77 p_M_77 (fun _ => rfl) (fun _ => rfl) (fun S27 P28 => ?_)
  clear P27
  refine am_aload_n d_M_new_187 rfl (by first | exact am_rvR _ | exact am_rvN | assumption) ?_
  refine am_bipush (v := nI 20) d_M_new_188 (by decide) ?_
  refine fm_new (f := 28) hal o (by decide) (by decide) P28 d_M_new_190 (by rfl) (by decide) (by decide) (by decide) rfl d_M_new_192 f_M_80 p_M_80 (fun _ => rfl) (fun _ => rfl) (fun S28 P29 => ?_)
  clear P28
  refine am_aload_n d_M_new_195 rfl (by first | exact am_rvR _ | exact am_rvN | assumption) ?_
  refine am_bipush (v := nI 20) d_M_new_196 (by decide) ?_
  refine fm_new (f := 29) hal o (by decide) (by decide) P29 d_M_new_198 (by rfl) (by decide) (by decide) (by decide) rfl d_M_new_200 f_M_83 p_M_83 (fun _ => rfl) (fun _ => rfl) (fun S29 P30 => ?_)
  clear P29
  refine am_aload_n d_M_new_203 rfl (by first | exact am_rvR _ | exact am_rvN | assumption) ?_
  refine am_bipush (v := nI 6) d_M_new_204 (by decide) ?_
  refine fm_new (f := 30) hal o (by decide) (by decide) P30 d_M_new_206 (by rfl) (by decide) (by decide) (by decide) rfl d_M_new_208 f_M_86 p_M_86 (fun _ => rfl) (fun _ => rfl) (fun S30 P31 => ?_)
  clear P30
  refine am_aload_n d_M_new_211 rfl (by first | exact am_rvR _ | exact am_rvN | assumption) ?_
  refine am_bipush (v := nI 6) d_M_new_212 (by decide) ?_
  have P32 := fm_skip (f := 31) rfl P31
  have P33 := fm_skip (f := 32) rfl P32
  refine fm_new (f := 33) hal o (by decide) (by decide) P33 d_M_new_214 (by rfl) (by decide) (by decide) (by decide) rfl d_M_new_216 f_M_89 p_M_89 (fun _ => rfl) (fun _ => rfl) (fun S33 P34 => ?_)
  clear P33
  exact K _ P34
theorem mk_M3 {a : Nat} {xx yy zz : Int32} {S0 : am_S} {post : Option Value → am_S → Prop} (hal : a < S0.2.1) (o : am_ok S0) (P34 : fm_P S0 a 34 S) (K : ∀ S', fm_P S0 a 44 S' → am_W g y_M_new 1 22 post 290 [some (.ref a), some (.int xx), some (.int yy), some (.int zz)] [] S') : am_W g y_M_new 1 22 post 219 [some (.ref a), some (.int xx), some (.int yy), some (.int zz)] [] S := by
  refine am_aload_n d_M_new_219 rfl (by first | exact am_rvR _ | exact am_rvN | assumption) ?_
  refine am_bipush (v := nI 6) d_M_new_220 (by decide) ?_
  refine fm_new (f := 34) hal o (by decide) (by decide) P34 d_M_new_222 (by rfl) (by decide) (by decide) (by decide) rfl d_M_new_224 f_M_92 p_M_92 (fun _ => rfl) (fun _ => rfl) (fun S34 P35 => ?_)
  clear P34
  refine am_aload_n d_M_new_227 rfl (by first | exact am_rvR _ | exact am_rvN | assumption) ?_
  refine am_bipush (v := nI 6) d_M_new_228 (by decide) ?_
  refine fm_new (f := 35) hal o (by decide) (by decide) P35 d_M_new_230 (by rfl) (by decide) (by decide) (by decide) rfl d_M_new_232 f_M_95 p_M_95 (fun _ => rfl) (fun _ => rfl) (fun S35 P36 => ?_)
  clear P35
  refine am_aload_n d_M_new_235 rfl (by first | exact am_rvR _ | exact am_rvN | assumption) ?_
  refine am_bipush (v := nI 6) d_M_new_236 (by decide) ?_
  refine fm_new (f := 36) hal o (by decide) (by decide) P36 d_M_new_238 (by rfl) (by decide) (by decide) (by decide) rfl d_M_new_240 f_M_98 p_M_98 (fun _ => rfl) (fun _ => rfl) (fun S36 P37 => ?_)
  clear P36
  refine am_aload_n d_M_new_243 rfl (by first | exact am_rvR _ | exact am_rvN | assumption) ?_
  refine am_bipush (v := nI 6) d_M_new_244 (by decide) ?_
  refine fm_new (f := 37) hal o (by decide) (by decide) P37 d_M_new_246 (by rfl) (by decide) (by decide) (by decide) rfl d_M_new_248 f_M_101 p_M_101 (fun _ => rfl) (fun _ => rfl) (fun S37 P38 => ?_)
  clear P37
  refine am_aload_n d_M_new_251 rfl (by first | exact am_rvR _ | exact am_rvN | assumption) ?_
  refine am_bipush (v := nI 6) d_M_new_252 (by decide) ?_
  refine fm_new (f := 38) hal o (by decide) (by decide) P38 d_M_new_254 (by rfl) (by decide) (by decide) (by decide) rfl d_M_new_256 f_M_104 p_M_104 (fun _ => rfl) (fun _ => rfl) (fun S38 P39 => ?_)
  clear P38
  refine am_aload_n d_M_new_259 rfl (by first | exact am_rvR _ | exact am_rvN | assumption) ?_
  refine am_bipush (v := nI 30) d_M_new_260 (by decide) ?_
  refine fm_new (f := 39) hal o (by decide) (by decide) P39 d_M_new_262 (by rfl) (by decide) (by decide) (by decide) rfl d_M_new_264 f_M_107 p_M_107 (fun _ => rfl) (fun _ => rfl) (fun S39 P40 => ?_)
  clear P39
  refine am_aload_n d_M_new_267 rfl (by first | exact am_rvR _ | exact am_rvN | assumption) ?_
  refine am_bipush (v := nI 6) d_M_new_268 (by decide) ?_
  refine fm_new (f := 40) hal o (by decide) (by decide) P40 d_M_new_270 (by rfl) (by decide) (by decide) (by decide) rfl d_M_new_272 f_M_110 p_M_110 (fun _ => rfl) (fun _ => rfl) (fun S40 P41 => ?_)
  clear P40
  refine am_aload_n d_M_new_275 rfl (by first | exact am_rvR _ | exact am_rvN | assumption) ?_
  refine am_bipush (v := nI 6) d_M_new_276 (by decide) ?_
  refine fm_new (f := 41) hal o (by decide) (by decide) P41 d_M_new_278 (by rfl) (by decide) (by decide) (by decide) rfl d_M_new_280 f_M_113 p_M_113 (fun _ => rfl) (fun _ => rfl) (fun S41 P42 => ?_)
  clear P41
  refine am_aload_n d_M_new_283 rfl (by first | exact am_rvR _ | exact am_rvN | assumption) ?_
  refine am_iconst (v := nI 5) d_M_new_284 (by decide) ?_
  have P43 := fm_skip (f := 42) rfl P42
  refine fm_new (f := 43) hal o (by decide) (by decide) P43 d_M_new_285 (by rfl) (by decide) (by decide) (by decide) rfl d_M_new_287 f_M_116 p_M_116 (fun _ => rfl) (fun _ => rfl) (fun S43 P44 => ?_)
  clear P43
  exact K _ P44
theorem mk_M {a : Nat} (xx yy zz : Int32) (o : am_ok S) (ha : S.1 a = some (10441, .inr (am_cM, fm_fs a S.2.1 0))) : am_M g y_M_new "(III)V" 1 22 [.ref a, .int xx, .int yy, .int zz] S (fun v S' => v = none ∧ fr_P (fm_B S a) (fm_r (if xx < nI 2 then nI 2 else if nI 5 < xx then nI 5 else xx) (if yy < nI 1 then nI 1 else if nI 8 < yy then nI 8 else yy) (if zz < nI 1 then nI 1 else if nI 9 < zz then nI 9 else zz)) S' ∧ ∀ (b u : Nat) (x : am_K), S.1 b = some (u, x) → b ≠ a → ¬ fr_X u → S'.1 b = some (u, x)) := by
  have hal : a < S.2.1 := o _ _ ha
  have P4 : fm_P S a 4 S := fm_P4 o ha
  refine am_Mof (L0 := [some (.ref a), some (.int xx), some (.int yy), some (.int zz)]) pl_M_new (am_k1 rfl (am_k1 rfl (am_k1 rfl (am_k1 rfl am_k0)))) (Nat.le_of_ble_eq_true rfl) rfl ?_
  refine am_aload_n d_M_new_0 rfl (by first | exact am_rvR _ | exact am_rvN | assumption) ?_
  refine am_objInit d_M_new_1 o_M_1 o_hi o_hc (by decide) (Nat.le_of_ble_eq_true rfl) ?_
  refine mk_M0 hal o P4 (fun S5 P5 => ?_)
  refine mk_M1 hal o P5 (fun S6 P6 => ?_)
  refine mk_M2 hal o P6 (fun S7 P7 => ?_)
  refine mk_M3 hal o P7 (fun S8 P44 => ?_)
  have F0 := fm_done P44
  have hold := P44.2.2.2.2
  have key := mk_Mk (g := g) (A := fm_B S a) xx yy zz
  rw [fm_B44] at key
  refine am_post (fun v S' hv => ?_) (key _ F0)
  obtain ⟨s', h1, h2, h3, h4⟩ := hv
  subst h4
  exact ⟨h3, h1, fun b u x hb hne hu => h2.1 b u x (hold b _ hb hne) hu⟩
end REW
