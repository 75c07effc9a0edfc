/-! the class: what is asked of courses -/
section CFH
variable {g : am_G} {e nw ns room idle : Nat} {A : Nat → Nat} {s : cl_S} {S : am_S}
theorem am_nlt {a b : Nat} (ha : a < 2 ^ 31) (hb : b < 2 ^ 31) : nI a < nI b ↔ a < b := by
  rw [Int32.lt_iff_toInt_lt, nI_toInt ha, nI_toInt hb]
  omega
theorem ff_course (hS : cl_P e nw ns room idle A s S) (hn : ns ≤ 5) (I : fc_iK ns s.1) (x z kk : Int32) : am_M g y_FF_course "(III)I" 4 88 [.ref (A 0), .int x, .int z, .int kk] S (fun v' S' => v' = some (.int (fc_course s.1 x z kk)) ∧ S' = S) := by
  refine am_Mof (L0 := [some (.ref (A 0)), some (.int x), some (.int z), some (.int kk), none]) pl_FF_course (am_k1 rfl (am_k1 rfl (am_k1 rfl (am_k1 rfl am_k0)))) (Nat.le_of_ble_eq_true rfl) rfl ?_
  refine am_aload_n d_FF_course_0 rfl (by first | exact am_rvR _ | exact am_rvN | assumption) ?_
  refine am_get d_FF_course_1 f_FF_37 (cl_fab hS) (by rfl) ?_
  refine am_iload_n d_FF_course_4 rfl ?_
  refine am_iload_n d_FF_course_5 rfl ?_
  refine am_cV (b := A 2) d_FF_course_6 v_FF_222 (vs := [.int x, .int z]) (st := []) rfl rfl (by decide) (Nat.le_of_ble_eq_true rfl) (cl_ctl hS) (ct_courseOf hS I x z) ?_
  rintro v S9 ⟨rfl, hS9⟩
  rw [hS9]
  skip
  cases hx : fc_cix s.1 x z with
  | none =>
    refine am_astore (L1 := [_, _, _, _, _]) d_FF_course_9 (by decide) am_rvN rfl ?_
    refine am_aload d_FF_course_11 rfl (by first | exact am_rvR _ | exact am_rvN | assumption) ?_
    refine am_ifnonnullN d_FF_course_13 ?_
    refine am_iconst (v := (-1)) d_FF_course_16 (by decide) ?_
    refine am_iret d_FF_course_17 rfl (by first | rfl | exact am_b_nar _) ?_
    exact ⟨by unfold fc_course; rw [hx], rfl⟩
  | some k =>
    have hk := fc_cix_some hx
    obtain ⟨a, w, f', t', l, kv, st, wv, aw, kp, kn, way, ha, hr, ho, hw, hkv, hf6, ht6, hst, hkp, hw1, hw5, hlw, hway⟩ := cl_cr hS I hk
    have hgv : cl_cv s (some k) = Value.ref a := by
      show Value.ref ((s.2.1 7).getD k 0) = _
      rw [List.getD_eq_getElem?_getD, ha]
      rfl
    rw [hgv]
    have ho0 : S.1 a = some (73, .inr (am_cCo, [.int (nI f'), .int (nI t'), .int st, .ref w, kv, .int wv, .int aw, .int (nI l)])) := ho
    have ec : fc_course s.1 x z kk = if decide (0 ≤ kk) && decide (kk < nI way.length) then way.getD kk.toNatClampNeg 0 / 4 else if kk = -1 then st else if kk = -2 then (if kp = 0 then 0 else kn) else -1 := by
      unfold fc_course
      rw [hx]
      simp only [fc_get_row hr, fc_way_row hr]
      rfl
    have tail : (decide (0 ≤ kk) && decide (kk < nI way.length)) = false → am_W g y_FF_course 4 88 (fun v' S' => v' = some (.int (fc_course s.1 x z kk)) ∧ S' = S) 43 [some (.ref (A 0)), some (.int x), some (.int z), some (.int kk), some (.ref a)] [] S := by
      intro hno
      rw [hno] at ec
      rw [ec, if_neg (by decide)]
      refine am_iload_n d_FF_course_43 rfl ?_
      by_cases k1 : kk = -1
      · subst k1
        refine am_lookup (off := 28) (tgt := 72) d_FF_course_44 (by decide) (by decide) (by decide) ?_
        refine am_aload d_FF_course_72 rfl (by first | exact am_rvR _ | exact am_rvN | assumption) ?_
        refine am_get d_FF_course_74 f_FF_231 ho0 (by rfl) ?_
        refine am_iret d_FF_course_77 rfl (by first | rfl | exact am_b_nar _) ?_
        exact ⟨by rw [if_pos rfl], rfl⟩
      by_cases k2 : kk = -2
      · subst k2
        refine am_lookup (off := 34) (tgt := 78) d_FF_course_44 (by decide) (by decide) (by decide) ?_
        rcases hkv with ⟨hkp0, rfl⟩ | ⟨hkp0, b, rfl, hb⟩
        · refine am_aload d_FF_course_78 rfl (by first | exact am_rvR _ | exact am_rvN | assumption) ?_
          refine am_get d_FF_course_80 f_FF_234 ho0 (by rfl) ?_
          refine am_ifnonnullN d_FF_course_83 ?_
          refine am_iconst (v := (0 : Int32)) d_FF_course_86 (by decide) ?_
          refine am_goto (tgt := 98) d_FF_course_87 (by decide) ?_
          refine am_iret d_FF_course_98 rfl (by first | rfl | exact am_b_nar _) ?_
          exact ⟨by rw [if_neg (by decide), if_pos rfl, if_pos hkp0], rfl⟩
        · refine am_aload d_FF_course_78 rfl (by first | exact am_rvR _ | exact am_rvN | assumption) ?_
          refine am_get d_FF_course_80 f_FF_234 ho0 (by rfl) ?_
          refine am_ifnonnull (tgt := 90) d_FF_course_83 (by decide) ?_
          refine am_aload d_FF_course_90 rfl (by first | exact am_rvR _ | exact am_rvN | assumption) ?_
          refine am_get d_FF_course_92 f_FF_234 ho0 (by rfl) ?_
          refine am_get d_FF_course_95 f_FF_238 hb (by rfl) ?_
          refine am_iret d_FF_course_98 rfl (by first | rfl | exact am_b_nar _) ?_
          exact ⟨by rw [if_neg (by decide), if_pos rfl, if_neg hkp0], rfl⟩
      refine am_lookup (off := 55) (tgt := 99) d_FF_course_44 (by decide) (by rw [show #[((-2 : Int), (34 : Int)), (-1, 28)].toList = [(-2, 34), (-1, 28)] from rfl, lv_osw k2 (by decide), lv_osw k1 (by decide)]; rfl) (by decide) ?_
      refine am_iconst (v := (-1)) d_FF_course_99 (by decide) ?_
      refine am_iret d_FF_course_100 rfl (by first | rfl | exact am_b_nar _) ?_
      exact ⟨by rw [if_neg k1, if_neg k2], rfl⟩
    by_cases h0 : kk < 0
    · refine am_astore (L1 := [_, _, _, _, _]) d_FF_course_9 (by decide) (am_rvR _) rfl ?_
      refine am_aload d_FF_course_11 rfl (by first | exact am_rvR _ | exact am_rvN | assumption) ?_
      refine am_ifnonnull (tgt := 18) d_FF_course_13 (by decide) ?_
      refine am_iload_n d_FF_course_18 rfl ?_
      refine am_if_lt (tgt := 43) d_FF_course_19 (by decide) (fun _ => ?_) (fun z => absurd h0 z)
      exact tail (by rw [Bool.and_eq_false_iff, decide_eq_false_iff_not]; exact Or.inl (Int32.not_le.mpr h0))
    obtain ⟨j, hj31, hj⟩ := nI_of h0
    have hlt : nI j < nI way.length ↔ j < way.length := am_nlt hj31 (by omega)
    by_cases hl : j < way.length
    · obtain ⟨y, hy4, hy⟩ := hway _ (List.getElem_mem hl)
      have hym : way.getD j 0 = nI y := by rw [List.getD_eq_getElem?_getD, List.getElem?_eq_getElem hl]; exact hy
      refine am_astore (L1 := [_, _, _, _, _]) d_FF_course_9 (by decide) (am_rvR _) rfl ?_
      refine am_aload d_FF_course_11 rfl (by first | exact am_rvR _ | exact am_rvN | assumption) ?_
      refine am_ifnonnull (tgt := 18) d_FF_course_13 (by decide) ?_
      refine am_iload_n d_FF_course_18 rfl ?_
      refine am_if_lt (tgt := 43) d_FF_course_19 (by decide) (fun z => absurd z h0) (fun _ => ?_)
      refine am_iload_n d_FF_course_22 rfl ?_
      refine am_aload d_FF_course_23 rfl (by first | exact am_rvR _ | exact am_rvN | assumption) ?_
      refine am_get d_FF_course_25 f_FF_226 ho0 (by rfl) ?_
      refine am_alen (v := nI way.length) d_FF_course_28 am_kI_ok hw (by rw [List.length_map]; rfl) ?_
      refine am_icmp_ge (tgt := 43) d_FF_course_29 (by decide) (fun z => absurd (hlt.mpr hl) (hj ▸ Int32.not_lt.mpr z)) (fun _ => ?_)
      refine am_aload d_FF_course_32 rfl (by first | exact am_rvR _ | exact am_rvN | assumption) ?_
      refine am_get d_FF_course_34 f_FF_226 ho0 (by rfl) ?_
      refine am_iload_n d_FF_course_37 rfl ?_
      refine am_iald (j := j) d_FF_course_38 am_kI_ok hw hj (cl_fld hl) (by simp; omega) ?_
      rw [hym]
      refine am_cS d_FF_course_39 s_FF_89 (vs := [.int (nI y)]) (st := []) rfl rfl (by decide) (Nat.le_of_ble_eq_true rfl) (ff_switchOf (by omega)) ?_
      rintro v S9 ⟨rfl, hS9⟩
      rw [hS9]
      refine am_iret d_FF_course_42 rfl (by first | rfl | exact am_b_nar _) ?_
      refine ⟨?_, rfl⟩
      rw [ec, hj, nI_clamp (by omega), if_pos (by rw [Bool.and_eq_true, decide_eq_true_iff, decide_eq_true_iff]; exact ⟨Int32.not_lt.mp (hj ▸ h0), hlt.mpr hl⟩), hym, show (4 : Int32) = nI 4 from rfl, pk_div (by omega) (by omega) (by omega)]
    · refine am_astore (L1 := [_, _, _, _, _]) d_FF_course_9 (by decide) (am_rvR _) rfl ?_
      refine am_aload d_FF_course_11 rfl (by first | exact am_rvR _ | exact am_rvN | assumption) ?_
      refine am_ifnonnull (tgt := 18) d_FF_course_13 (by decide) ?_
      refine am_iload_n d_FF_course_18 rfl ?_
      refine am_if_lt (tgt := 43) d_FF_course_19 (by decide) (fun z => absurd z h0) (fun _ => ?_)
      refine am_iload_n d_FF_course_22 rfl ?_
      refine am_aload d_FF_course_23 rfl (by first | exact am_rvR _ | exact am_rvN | assumption) ?_
      refine am_get d_FF_course_25 f_FF_226 ho0 (by rfl) ?_
      refine am_alen (v := nI way.length) d_FF_course_28 am_kI_ok hw (by rw [List.length_map]; rfl) ?_
      refine am_icmp_ge (tgt := 43) d_FF_course_29 (by decide) (fun _ => ?_) (fun z => absurd (Int32.not_lt.mp (fun q => hl (hlt.mp (hj ▸ q)))) z)
      exact tail (by rw [Bool.and_eq_false_iff, decide_eq_false_iff_not, decide_eq_false_iff_not]; exact Or.inr (fun q => hl (hlt.mp (hj ▸ q))))
end CFH
