/-! the reference: lists, frames -/
section REJ
variable {g : am_G} {A : Nat → Nat} {r : fr_S} {ns room idle : Nat} {s : fc_S}
theorem rf_tellR {i c : Nat} {row : List Int32} {x1 x2 x3 x4 : Int32} (H : fr_rel ns room idle s r) (n5 : ns ≤ 5) (L : ∀ l, l < 2 * ns → (s (fr_lc l)).length ≤ 60) (hi : i < ns) (h60 : (s (40 + i)).length < 60) (hc : c < 100) (he : fr_er row = [nI c, x1, x2, x3, x4]) : gm_M (fr_P A) fr_X g y_M_tell "(IIIIII)V" 1 27 [.ref (A 44), .int (nI i), .int (nI c), .int x1, .int x2, .int x3, .int x4] (fun v r' => v = none ∧ fr_rel ns room idle (if (c ≠ 0 ∧ c ≠ 1) ∨ (s (40 + i)).length < 8 then fc_add s (40 + i) row else s) r') r := by
  refine gm_Mpost (fun v r' h => ⟨h.1, ?_⟩) (rf_tell (by omega) (H.nq hi) h60 hc x1 x2 x3 x4)
  rw [h.2]
  split
  · have := H.ladd n5 L (l := 2 * i + 1) (by omega) (by rw [fr_lc_q]; exact h60) (row := row) (by rw [fr_en_q]; exact he)
    rw [fr_lc_q] at this
    exact this
  · exact H
theorem rf_orderR {i c : Nat} {row : List Int32} {x1 x2 x3 x4 : Int32} (H : fr_rel ns room idle s r) (n5 : ns ≤ 5) (L : ∀ l, l < 2 * ns → (s (fr_lc l)).length ≤ 60) (hi : i < ns) (h60 : (s (30 + i)).length < 60) (hc : c < 100) (he : fr_eo row = [nI c, x1, x2, x3, x4]) : gm_M (fr_P A) fr_X g y_M_order "(IIIIII)V" 1 27 [.ref (A 44), .int (nI i), .int (nI c), .int x1, .int x2, .int x3, .int x4] (fun v r' => v = none ∧ fr_rel ns room idle (if c ≠ 3 ∨ (s (30 + i)).length < 16 then fc_add s (30 + i) row else s) r') r := by
  refine gm_Mpost (fun v r' h => ⟨h.1, ?_⟩) (rf_order (by omega) (H.no hi) h60 hc x1 x2 x3 x4)
  rw [h.2]
  split
  · have := H.ladd n5 L (l := 2 * i) (by omega) (by rw [fr_lc_o]; exact h60) (row := row) (by rw [fr_en_o]; exact he)
    rw [fr_lc_o] at this
    exact this
  · exact H
theorem rf_out3 (H : fr_rel ns room idle s r) (D : fc_iD ns room s) (U : fc_iU ns s) {e : Nat} (he : e < 4 * ns) (x0 x1 x2 : Int32) (hf : fc_frm ns [x0, x1, x2]) : gm_M (fr_P A) fr_X g y_M_out "(IIII)V" 0 0 [.ref (A 44), .int (nI e), .int x0, .int x1, .int x2] (fun v r' => v = none ∧ fr_rel ns room idle (fc_out s e [x0, x1, x2]) r' ∧ r'.2 27 = r.2 27) r := by
  obtain ⟨u, hu2, h4, hu0, hu2i, hu1, hu2m, hun⟩ := fr_use H D he
  have n5 := D.1.2.1
  have h6 : r.2 6 e = fc_get s (100 + e) 0 2 := (H.2.2.1 e he).1
  have h12 : r.2 12 e = nI (s (200 + e)).length := (H.2.2.2.1 e he).1
  have w6 := D.w6 e he
  have hx0 := fc_frm_neg hf
  have hh6 := D.2.1.2.1
  refine gm_Mof (L0 := [some (.ref (A 44)), some (.int (nI e)), some (.int x0), some (.int x1), some (.int x2), none]) pl_M_out (am_k1 rfl (am_k1 rfl (am_k1 rfl (am_k1 rfl (am_k1 rfl am_k0))))) (Nat.le_of_ble_eq_true rfl) rfl ?_
  refine gm_aload_n d_M_out_0 rfl (by first | exact am_rvR _ | exact am_rvN | assumption) ?_
  refine fr_gA 4 d_M_out_1 f_M_7 (by decide) (by decide) ?_
  refine gm_iload_n d_M_out_4 rfl ?_
  refine fr_aldv d_M_out_5 (by decide) rfl (show _ < 20 by omega) (by first | assumption | (simp only [fr_up_at, fr_up_s, fr_sc_at, fr_sc_a, Nat.reduceEqDiff, false_and, if_false, ite_false, reduceCtorEq]; first | assumption | rfl) | rfl) ?_
  refine gm_iconst (v := nI 1) d_M_out_6 (by decide) ?_
  first | refine gm_icmp_neN (tgt := 49) d_M_out_7 (by decide) (by omega) (by omega) (fun q7 => ?_) (fun q7 => ?_) | refine gm_icmp_ne (tgt := 49) d_M_out_7 (by decide) (fun q7 => ?_) (fun q7 => ?_)
  · refine gm_aload_n d_M_out_49 rfl (by first | exact am_rvR _ | exact am_rvN | assumption) ?_
    refine fr_gA 4 d_M_out_50 f_M_7 (by decide) (by decide) ?_
    refine gm_iload_n d_M_out_53 rfl ?_
    refine fr_aldv d_M_out_54 (by decide) rfl (show _ < 20 by omega) (by first | assumption | (simp only [fr_up_at, fr_up_s, fr_sc_at, fr_sc_a, Nat.reduceEqDiff, false_and, if_false, ite_false, reduceCtorEq]; first | assumption | rfl) | rfl) ?_
    refine gm_iconst (v := nI 2) d_M_out_55 (by decide) ?_
    first | refine gm_icmp_neN (tgt := 133) d_M_out_56 (by decide) (by omega) (by omega) (fun q56 => ?_) (fun q56 => ?_) | refine gm_icmp_ne (tgt := 133) d_M_out_56 (by decide) (fun q56 => ?_) (fun q56 => ?_)
    · refine gm_vret d_M_out_133 rfl ?_
      first | (exfalso; omega) | (refine ⟨rfl, ?_, rfl⟩; (rw [fc_out_s (row := [x0, x1, x2]) hh (show k < 1000 by omega) (show ¬ (x0 ≠ -1 ∧ x1 = nI k) from fun z => z.1 (hx0.mp q11))]; exact H)) | (refine ⟨rfl, ?_, rfl⟩; (rw [fc_out_s (row := [x0, x1, x2]) hh (show k < 1000 by omega) (show ¬ (x0 ≠ -1 ∧ x1 = nI k) from fun z => q21 z.2.symm)]; exact H)) | exact ⟨rfl, fr_out_took H D hk hh q11 hf h9, rfl⟩ | (refine ⟨rfl, ?_, rfl⟩; (rw [fc_out_n (row := [x0, x1, x2]) (hun (show u ≠ 1 by omega)), if_neg (show ¬ (fc_get s (100 + e) 0 2 ≠ 0 ∧ (s (200 + e)).length < 6) from fun z => z.1 (fc_mate_up U he (fun w => absurd (hu2i.mpr w) (show u ≠ 2 from q56))))]; exact H)) | (refine ⟨rfl, ?_, rfl⟩; (rw [fc_out_n (row := [x0, x1, x2]) (hun (show u ≠ 1 by omega)), if_neg (show ¬ (fc_get s (100 + e) 0 2 ≠ 0 ∧ (s (200 + e)).length < 6) from fun z => z.1 q65)]; exact H)) | (refine ⟨rfl, ?_, rfl⟩; (rw [fc_out_n (row := [x0, x1, x2]) (hun (show u ≠ 1 by omega)), if_neg (show ¬ (fc_get s (100 + e) 0 2 ≠ 0 ∧ (s (200 + e)).length < 6) from fun z => Nat.not_lt.mpr q76 z.2)]; exact H)) | (refine ⟨rfl, ?_, rfl⟩; (rw [fc_out_n (row := [x0, x1, x2]) (hun (show u ≠ 1 by omega)), if_pos (show (fc_get s (100 + e) 0 2 ≠ 0 ∧ (s (200 + e)).length < 6) from ⟨q65, q76⟩)]; exact H.wadd D he q76 _ _ _))
    · refine gm_aload_n d_M_out_59 rfl (by first | exact am_rvR _ | exact am_rvN | assumption) ?_
      refine fr_gA 6 d_M_out_60 f_M_16 (by decide) (by decide) ?_
      refine gm_iload_n d_M_out_63 rfl ?_
      refine fr_zldv d_M_out_64 (by decide) rfl (show _ < 20 by omega) (by first | assumption | (simp only [fr_up_at, fr_up_s, fr_sc_at, fr_sc_a, Nat.reduceEqDiff, false_and, if_false, ite_false, reduceCtorEq]; first | assumption | rfl) | rfl) ?_
      first | refine gm_if_eqB (tgt := 133) d_M_out_65 (by decide) (fun q65 => ?_) (fun q65 => ?_) | refine gm_if_eqN (tgt := 133) d_M_out_65 (by decide) (by omega) (fun q65 => ?_) (fun q65 => ?_) | refine gm_if_eq (tgt := 133) d_M_out_65 (by decide) (fun q65 => ?_) (fun q65 => ?_)
      · refine gm_vret d_M_out_133 rfl ?_
        first | (exfalso; omega) | (refine ⟨rfl, ?_, rfl⟩; (rw [fc_out_s (row := [x0, x1, x2]) hh (show k < 1000 by omega) (show ¬ (x0 ≠ -1 ∧ x1 = nI k) from fun z => z.1 (hx0.mp q11))]; exact H)) | (refine ⟨rfl, ?_, rfl⟩; (rw [fc_out_s (row := [x0, x1, x2]) hh (show k < 1000 by omega) (show ¬ (x0 ≠ -1 ∧ x1 = nI k) from fun z => q21 z.2.symm)]; exact H)) | exact ⟨rfl, fr_out_took H D hk hh q11 hf h9, rfl⟩ | (refine ⟨rfl, ?_, rfl⟩; (rw [fc_out_n (row := [x0, x1, x2]) (hun (show u ≠ 1 by omega)), if_neg (show ¬ (fc_get s (100 + e) 0 2 ≠ 0 ∧ (s (200 + e)).length < 6) from fun z => z.1 (fc_mate_up U he (fun w => absurd (hu2i.mpr w) (show u ≠ 2 from q56))))]; exact H)) | (refine ⟨rfl, ?_, rfl⟩; (rw [fc_out_n (row := [x0, x1, x2]) (hun (show u ≠ 1 by omega)), if_neg (show ¬ (fc_get s (100 + e) 0 2 ≠ 0 ∧ (s (200 + e)).length < 6) from fun z => z.1 q65)]; exact H)) | (refine ⟨rfl, ?_, rfl⟩; (rw [fc_out_n (row := [x0, x1, x2]) (hun (show u ≠ 1 by omega)), if_neg (show ¬ (fc_get s (100 + e) 0 2 ≠ 0 ∧ (s (200 + e)).length < 6) from fun z => Nat.not_lt.mpr q76 z.2)]; exact H)) | (refine ⟨rfl, ?_, rfl⟩; (rw [fc_out_n (row := [x0, x1, x2]) (hun (show u ≠ 1 by omega)), if_pos (show (fc_get s (100 + e) 0 2 ≠ 0 ∧ (s (200 + e)).length < 6) from ⟨q65, q76⟩)]; exact H.wadd D he q76 _ _ _))
      · refine gm_aload_n d_M_out_68 rfl (by first | exact am_rvR _ | exact am_rvN | assumption) ?_
        refine fr_gA 12 d_M_out_69 f_M_32 (by decide) (by decide) ?_
        refine gm_iload_n d_M_out_72 rfl ?_
        refine fr_aldv d_M_out_73 (by decide) rfl (show _ < 20 by omega) (by first | assumption | (simp only [fr_up_at, fr_up_s, fr_sc_at, fr_sc_a, Nat.reduceEqDiff, false_and, if_false, ite_false, reduceCtorEq]; first | assumption | rfl) | rfl) ?_
        refine gm_bipush (v := nI 6) d_M_out_74 (by decide) ?_
        first | refine gm_icmp_geN (tgt := 133) d_M_out_76 (by decide) (by omega) (by omega) (fun q76 => ?_) (fun q76 => ?_) | refine gm_icmp_ge (tgt := 133) d_M_out_76 (by decide) (fun q76 => ?_) (fun q76 => ?_)
        · refine gm_vret d_M_out_133 rfl ?_
          first | (exfalso; omega) | (refine ⟨rfl, ?_, rfl⟩; (rw [fc_out_s (row := [x0, x1, x2]) hh (show k < 1000 by omega) (show ¬ (x0 ≠ -1 ∧ x1 = nI k) from fun z => z.1 (hx0.mp q11))]; exact H)) | (refine ⟨rfl, ?_, rfl⟩; (rw [fc_out_s (row := [x0, x1, x2]) hh (show k < 1000 by omega) (show ¬ (x0 ≠ -1 ∧ x1 = nI k) from fun z => q21 z.2.symm)]; exact H)) | exact ⟨rfl, fr_out_took H D hk hh q11 hf h9, rfl⟩ | (refine ⟨rfl, ?_, rfl⟩; (rw [fc_out_n (row := [x0, x1, x2]) (hun (show u ≠ 1 by omega)), if_neg (show ¬ (fc_get s (100 + e) 0 2 ≠ 0 ∧ (s (200 + e)).length < 6) from fun z => z.1 (fc_mate_up U he (fun w => absurd (hu2i.mpr w) (show u ≠ 2 from q56))))]; exact H)) | (refine ⟨rfl, ?_, rfl⟩; (rw [fc_out_n (row := [x0, x1, x2]) (hun (show u ≠ 1 by omega)), if_neg (show ¬ (fc_get s (100 + e) 0 2 ≠ 0 ∧ (s (200 + e)).length < 6) from fun z => z.1 q65)]; exact H)) | (refine ⟨rfl, ?_, rfl⟩; (rw [fc_out_n (row := [x0, x1, x2]) (hun (show u ≠ 1 by omega)), if_neg (show ¬ (fc_get s (100 + e) 0 2 ≠ 0 ∧ (s (200 + e)).length < 6) from fun z => Nat.not_lt.mpr q76 z.2)]; exact H)) | (refine ⟨rfl, ?_, rfl⟩; (rw [fc_out_n (row := [x0, x1, x2]) (hun (show u ≠ 1 by omega)), if_pos (show (fc_get s (100 + e) 0 2 ≠ 0 ∧ (s (200 + e)).length < 6) from ⟨q65, q76⟩)]; exact H.wadd D he q76 _ _ _))
        · refine gm_bipush (v := nI 18) d_M_out_79 (by decide) ?_
          refine gm_iload_n d_M_out_81 rfl ?_
          first | refine gm_imulN d_M_out_82 ?_ | refine gm_imul d_M_out_82 ?_
          refine gm_iconst (v := nI 3) d_M_out_83 (by decide) ?_
          refine gm_aload_n d_M_out_84 rfl (by first | exact am_rvR _ | exact am_rvN | assumption) ?_
          refine fr_gA 12 d_M_out_85 f_M_32 (by decide) (by decide) ?_
          refine gm_iload_n d_M_out_88 rfl ?_
          refine fr_aldv d_M_out_89 (by decide) rfl (show _ < 20 by omega) (by first | assumption | (simp only [fr_up_at, fr_up_s, fr_sc_at, fr_sc_a, Nat.reduceEqDiff, false_and, if_false, ite_false, reduceCtorEq]; first | assumption | rfl) | rfl) ?_
          first | refine gm_imulN d_M_out_90 ?_ | refine gm_imul d_M_out_90 ?_
          first | refine gm_iaddN d_M_out_91 ?_ | refine gm_iadd d_M_out_91 ?_
          refine gm_istore (L1 := [_, _, _, _, _, _]) d_M_out_92 (by decide) rfl ?_
          refine gm_aload_n d_M_out_94 rfl (by first | exact am_rvR _ | exact am_rvN | assumption) ?_
          refine fr_gA 13 d_M_out_95 f_M_35 (by decide) (by decide) ?_
          refine gm_iload d_M_out_98 rfl ?_
          refine gm_iload_n d_M_out_100 rfl ?_
          refine fr_ast d_M_out_101 (by decide) rfl (show _ < 360 by omega) ?_
          refine gm_aload_n d_M_out_102 rfl (by first | exact am_rvR _ | exact am_rvN | assumption) ?_
          refine fr_gA 13 d_M_out_103 f_M_35 (by decide) (by decide) ?_
          refine gm_iload d_M_out_106 rfl ?_
          refine gm_iconst (v := nI 1) d_M_out_108 (by decide) ?_
          first | refine gm_iaddN d_M_out_109 ?_ | refine gm_iadd d_M_out_109 ?_
          refine gm_iload_n d_M_out_110 rfl ?_
          refine fr_ast d_M_out_111 (by decide) rfl (show _ < 360 by omega) ?_
          refine gm_aload_n d_M_out_112 rfl (by first | exact am_rvR _ | exact am_rvN | assumption) ?_
          refine fr_gA 13 d_M_out_113 f_M_35 (by decide) (by decide) ?_
          refine gm_iload d_M_out_116 rfl ?_
          refine gm_iconst (v := nI 2) d_M_out_118 (by decide) ?_
          first | refine gm_iaddN d_M_out_119 ?_ | refine gm_iadd d_M_out_119 ?_
          refine gm_iload d_M_out_120 rfl ?_
          refine fr_ast d_M_out_122 (by decide) rfl (show _ < 360 by omega) ?_
          refine gm_aload_n d_M_out_123 rfl (by first | exact am_rvR _ | exact am_rvN | assumption) ?_
          refine fr_gA 12 d_M_out_124 f_M_32 (by decide) (by decide) ?_
          refine gm_iload_n d_M_out_127 rfl ?_
          refine gm_dup2 d_M_out_128 rfl rfl ?_
          refine fr_aldv d_M_out_129 (by decide) rfl (show _ < 20 by omega) (by first | assumption | (simp only [fr_up_at, fr_up_s, fr_sc_at, fr_sc_a, Nat.reduceEqDiff, false_and, if_false, ite_false, reduceCtorEq]; first | assumption | rfl) | rfl) ?_
          refine gm_iconst (v := nI 1) d_M_out_130 (by decide) ?_
          first | refine gm_iaddN d_M_out_131 ?_ | refine gm_iadd d_M_out_131 ?_
          refine fr_ast d_M_out_132 (by decide) rfl (show _ < 20 by omega) ?_
          refine gm_vret d_M_out_133 rfl ?_
          first | (exfalso; omega) | (refine ⟨rfl, ?_, rfl⟩; (rw [fc_out_s (row := [x0, x1, x2]) hh (show k < 1000 by omega) (show ¬ (x0 ≠ -1 ∧ x1 = nI k) from fun z => z.1 (hx0.mp q11))]; exact H)) | (refine ⟨rfl, ?_, rfl⟩; (rw [fc_out_s (row := [x0, x1, x2]) hh (show k < 1000 by omega) (show ¬ (x0 ≠ -1 ∧ x1 = nI k) from fun z => q21 z.2.symm)]; exact H)) | exact ⟨rfl, fr_out_took H D hk hh q11 hf h9, rfl⟩ | (refine ⟨rfl, ?_, rfl⟩; (rw [fc_out_n (row := [x0, x1, x2]) (hun (show u ≠ 1 by omega)), if_neg (show ¬ (fc_get s (100 + e) 0 2 ≠ 0 ∧ (s (200 + e)).length < 6) from fun z => z.1 (fc_mate_up U he (fun w => absurd (hu2i.mpr w) (show u ≠ 2 from q56))))]; exact H)) | (refine ⟨rfl, ?_, rfl⟩; (rw [fc_out_n (row := [x0, x1, x2]) (hun (show u ≠ 1 by omega)), if_neg (show ¬ (fc_get s (100 + e) 0 2 ≠ 0 ∧ (s (200 + e)).length < 6) from fun z => z.1 q65)]; exact H)) | (refine ⟨rfl, ?_, rfl⟩; (rw [fc_out_n (row := [x0, x1, x2]) (hun (show u ≠ 1 by omega)), if_neg (show ¬ (fc_get s (100 + e) 0 2 ≠ 0 ∧ (s (200 + e)).length < 6) from fun z => Nat.not_lt.mpr q76 z.2)]; exact H)) | (refine ⟨rfl, ?_, rfl⟩; (rw [fc_out_n (row := [x0, x1, x2]) (hun (show u ≠ 1 by omega)), if_pos (show (fc_get s (100 + e) 0 2 ≠ 0 ∧ (s (200 + e)).length < 6) from ⟨q65, q76⟩)]; exact H.wadd D he q76 _ _ _))
  · obtain ⟨k, hk, hh, h5⟩ := hu1 q7
    refine gm_iload_n d_M_out_10 rfl ?_
    first | refine gm_if_ltN (tgt := 49) d_M_out_11 (by decide) (by omega) (fun q11 => ?_) (fun q11 => ?_) | refine gm_if_lt (tgt := 49) d_M_out_11 (by decide) (fun q11 => ?_) (fun q11 => ?_)
    · refine gm_aload_n d_M_out_49 rfl (by first | exact am_rvR _ | exact am_rvN | assumption) ?_
      refine fr_gA 4 d_M_out_50 f_M_7 (by decide) (by decide) ?_
      refine gm_iload_n d_M_out_53 rfl ?_
      refine fr_aldv d_M_out_54 (by decide) rfl (show _ < 20 by omega) (by first | assumption | (simp only [fr_up_at, fr_up_s, fr_sc_at, fr_sc_a, Nat.reduceEqDiff, false_and, if_false, ite_false, reduceCtorEq]; first | assumption | rfl) | rfl) ?_
      refine gm_iconst (v := nI 2) d_M_out_55 (by decide) ?_
      first | refine gm_icmp_neN (tgt := 133) d_M_out_56 (by decide) (by omega) (by omega) (fun q56 => ?_) (fun q56 => ?_) | refine gm_icmp_ne (tgt := 133) d_M_out_56 (by decide) (fun q56 => ?_) (fun q56 => ?_)
      · refine gm_vret d_M_out_133 rfl ?_
        first | (exfalso; omega) | (refine ⟨rfl, ?_, rfl⟩; (rw [fc_out_s (row := [x0, x1, x2]) hh (show k < 1000 by omega) (show ¬ (x0 ≠ -1 ∧ x1 = nI k) from fun z => z.1 (hx0.mp q11))]; exact H)) | (refine ⟨rfl, ?_, rfl⟩; (rw [fc_out_s (row := [x0, x1, x2]) hh (show k < 1000 by omega) (show ¬ (x0 ≠ -1 ∧ x1 = nI k) from fun z => q21 z.2.symm)]; exact H)) | exact ⟨rfl, fr_out_took H D hk hh q11 hf h9, rfl⟩ | (refine ⟨rfl, ?_, rfl⟩; (rw [fc_out_n (row := [x0, x1, x2]) (hun (show u ≠ 1 by omega)), if_neg (show ¬ (fc_get s (100 + e) 0 2 ≠ 0 ∧ (s (200 + e)).length < 6) from fun z => z.1 (fc_mate_up U he (fun w => absurd (hu2i.mpr w) (show u ≠ 2 from q56))))]; exact H)) | (refine ⟨rfl, ?_, rfl⟩; (rw [fc_out_n (row := [x0, x1, x2]) (hun (show u ≠ 1 by omega)), if_neg (show ¬ (fc_get s (100 + e) 0 2 ≠ 0 ∧ (s (200 + e)).length < 6) from fun z => z.1 q65)]; exact H)) | (refine ⟨rfl, ?_, rfl⟩; (rw [fc_out_n (row := [x0, x1, x2]) (hun (show u ≠ 1 by omega)), if_neg (show ¬ (fc_get s (100 + e) 0 2 ≠ 0 ∧ (s (200 + e)).length < 6) from fun z => Nat.not_lt.mpr q76 z.2)]; exact H)) | (refine ⟨rfl, ?_, rfl⟩; (rw [fc_out_n (row := [x0, x1, x2]) (hun (show u ≠ 1 by omega)), if_pos (show (fc_get s (100 + e) 0 2 ≠ 0 ∧ (s (200 + e)).length < 6) from ⟨q65, q76⟩)]; exact H.wadd D he q76 _ _ _))
      · refine gm_aload_n d_M_out_59 rfl (by first | exact am_rvR _ | exact am_rvN | assumption) ?_
        refine fr_gA 6 d_M_out_60 f_M_16 (by decide) (by decide) ?_
        refine gm_iload_n d_M_out_63 rfl ?_
        refine fr_zldv d_M_out_64 (by decide) rfl (show _ < 20 by omega) (by first | assumption | (simp only [fr_up_at, fr_up_s, fr_sc_at, fr_sc_a, Nat.reduceEqDiff, false_and, if_false, ite_false, reduceCtorEq]; first | assumption | rfl) | rfl) ?_
        first | refine gm_if_eqB (tgt := 133) d_M_out_65 (by decide) (fun q65 => ?_) (fun q65 => ?_) | refine gm_if_eqN (tgt := 133) d_M_out_65 (by decide) (by omega) (fun q65 => ?_) (fun q65 => ?_) | refine gm_if_eq (tgt := 133) d_M_out_65 (by decide) (fun q65 => ?_) (fun q65 => ?_)
        · refine gm_vret d_M_out_133 rfl ?_
          first | (exfalso; omega) | (refine ⟨rfl, ?_, rfl⟩; (rw [fc_out_s (row := [x0, x1, x2]) hh (show k < 1000 by omega) (show ¬ (x0 ≠ -1 ∧ x1 = nI k) from fun z => z.1 (hx0.mp q11))]; exact H)) | (refine ⟨rfl, ?_, rfl⟩; (rw [fc_out_s (row := [x0, x1, x2]) hh (show k < 1000 by omega) (show ¬ (x0 ≠ -1 ∧ x1 = nI k) from fun z => q21 z.2.symm)]; exact H)) | exact ⟨rfl, fr_out_took H D hk hh q11 hf h9, rfl⟩ | (refine ⟨rfl, ?_, rfl⟩; (rw [fc_out_n (row := [x0, x1, x2]) (hun (show u ≠ 1 by omega)), if_neg (show ¬ (fc_get s (100 + e) 0 2 ≠ 0 ∧ (s (200 + e)).length < 6) from fun z => z.1 (fc_mate_up U he (fun w => absurd (hu2i.mpr w) (show u ≠ 2 from q56))))]; exact H)) | (refine ⟨rfl, ?_, rfl⟩; (rw [fc_out_n (row := [x0, x1, x2]) (hun (show u ≠ 1 by omega)), if_neg (show ¬ (fc_get s (100 + e) 0 2 ≠ 0 ∧ (s (200 + e)).length < 6) from fun z => z.1 q65)]; exact H)) | (refine ⟨rfl, ?_, rfl⟩; (rw [fc_out_n (row := [x0, x1, x2]) (hun (show u ≠ 1 by omega)), if_neg (show ¬ (fc_get s (100 + e) 0 2 ≠ 0 ∧ (s (200 + e)).length < 6) from fun z => Nat.not_lt.mpr q76 z.2)]; exact H)) | (refine ⟨rfl, ?_, rfl⟩; (rw [fc_out_n (row := [x0, x1, x2]) (hun (show u ≠ 1 by omega)), if_pos (show (fc_get s (100 + e) 0 2 ≠ 0 ∧ (s (200 + e)).length < 6) from ⟨q65, q76⟩)]; exact H.wadd D he q76 _ _ _))
        · refine gm_aload_n d_M_out_68 rfl (by first | exact am_rvR _ | exact am_rvN | assumption) ?_
          refine fr_gA 12 d_M_out_69 f_M_32 (by decide) (by decide) ?_
          refine gm_iload_n d_M_out_72 rfl ?_
          refine fr_aldv d_M_out_73 (by decide) rfl (show _ < 20 by omega) (by first | assumption | (simp only [fr_up_at, fr_up_s, fr_sc_at, fr_sc_a, Nat.reduceEqDiff, false_and, if_false, ite_false, reduceCtorEq]; first | assumption | rfl) | rfl) ?_
          refine gm_bipush (v := nI 6) d_M_out_74 (by decide) ?_
          first | refine gm_icmp_geN (tgt := 133) d_M_out_76 (by decide) (by omega) (by omega) (fun q76 => ?_) (fun q76 => ?_) | refine gm_icmp_ge (tgt := 133) d_M_out_76 (by decide) (fun q76 => ?_) (fun q76 => ?_)
          · refine gm_vret d_M_out_133 rfl ?_
            first | (exfalso; omega) | (refine ⟨rfl, ?_, rfl⟩; (rw [fc_out_s (row := [x0, x1, x2]) hh (show k < 1000 by omega) (show ¬ (x0 ≠ -1 ∧ x1 = nI k) from fun z => z.1 (hx0.mp q11))]; exact H)) | (refine ⟨rfl, ?_, rfl⟩; (rw [fc_out_s (row := [x0, x1, x2]) hh (show k < 1000 by omega) (show ¬ (x0 ≠ -1 ∧ x1 = nI k) from fun z => q21 z.2.symm)]; exact H)) | exact ⟨rfl, fr_out_took H D hk hh q11 hf h9, rfl⟩ | (refine ⟨rfl, ?_, rfl⟩; (rw [fc_out_n (row := [x0, x1, x2]) (hun (show u ≠ 1 by omega)), if_neg (show ¬ (fc_get s (100 + e) 0 2 ≠ 0 ∧ (s (200 + e)).length < 6) from fun z => z.1 (fc_mate_up U he (fun w => absurd (hu2i.mpr w) (show u ≠ 2 from q56))))]; exact H)) | (refine ⟨rfl, ?_, rfl⟩; (rw [fc_out_n (row := [x0, x1, x2]) (hun (show u ≠ 1 by omega)), if_neg (show ¬ (fc_get s (100 + e) 0 2 ≠ 0 ∧ (s (200 + e)).length < 6) from fun z => z.1 q65)]; exact H)) | (refine ⟨rfl, ?_, rfl⟩; (rw [fc_out_n (row := [x0, x1, x2]) (hun (show u ≠ 1 by omega)), if_neg (show ¬ (fc_get s (100 + e) 0 2 ≠ 0 ∧ (s (200 + e)).length < 6) from fun z => Nat.not_lt.mpr q76 z.2)]; exact H)) | (refine ⟨rfl, ?_, rfl⟩; (rw [fc_out_n (row := [x0, x1, x2]) (hun (show u ≠ 1 by omega)), if_pos (show (fc_get s (100 + e) 0 2 ≠ 0 ∧ (s (200 + e)).length < 6) from ⟨q65, q76⟩)]; exact H.wadd D he q76 _ _ _))
          · refine gm_bipush (v := nI 18) d_M_out_79 (by decide) ?_
            refine gm_iload_n d_M_out_81 rfl ?_
            first | refine gm_imulN d_M_out_82 ?_ | refine gm_imul d_M_out_82 ?_
            refine gm_iconst (v := nI 3) d_M_out_83 (by decide) ?_
            refine gm_aload_n d_M_out_84 rfl (by first | exact am_rvR _ | exact am_rvN | assumption) ?_
            refine fr_gA 12 d_M_out_85 f_M_32 (by decide) (by decide) ?_
            refine gm_iload_n d_M_out_88 rfl ?_
            refine fr_aldv d_M_out_89 (by decide) rfl (show _ < 20 by omega) (by first | assumption | (simp only [fr_up_at, fr_up_s, fr_sc_at, fr_sc_a, Nat.reduceEqDiff, false_and, if_false, ite_false, reduceCtorEq]; first | assumption | rfl) | rfl) ?_
            first | refine gm_imulN d_M_out_90 ?_ | refine gm_imul d_M_out_90 ?_
            first | refine gm_iaddN d_M_out_91 ?_ | refine gm_iadd d_M_out_91 ?_
            refine gm_istore (L1 := [_, _, _, _, _, _]) d_M_out_92 (by decide) rfl ?_
            refine gm_aload_n d_M_out_94 rfl (by first | exact am_rvR _ | exact am_rvN | assumption) ?_
            refine fr_gA 13 d_M_out_95 f_M_35 (by decide) (by decide) ?_
            refine gm_iload d_M_out_98 rfl ?_
            refine gm_iload_n d_M_out_100 rfl ?_
            refine fr_ast d_M_out_101 (by decide) rfl (show _ < 360 by omega) ?_
            refine gm_aload_n d_M_out_102 rfl (by first | exact am_rvR _ | exact am_rvN | assumption) ?_
            refine fr_gA 13 d_M_out_103 f_M_35 (by decide) (by decide) ?_
            refine gm_iload d_M_out_106 rfl ?_
            refine gm_iconst (v := nI 1) d_M_out_108 (by decide) ?_
            first | refine gm_iaddN d_M_out_109 ?_ | refine gm_iadd d_M_out_109 ?_
            refine gm_iload_n d_M_out_110 rfl ?_
            refine fr_ast d_M_out_111 (by decide) rfl (show _ < 360 by omega) ?_
            refine gm_aload_n d_M_out_112 rfl (by first | exact am_rvR _ | exact am_rvN | assumption) ?_
            refine fr_gA 13 d_M_out_113 f_M_35 (by decide) (by decide) ?_
            refine gm_iload d_M_out_116 rfl ?_
            refine gm_iconst (v := nI 2) d_M_out_118 (by decide) ?_
            first | refine gm_iaddN d_M_out_119 ?_ | refine gm_iadd d_M_out_119 ?_
            refine gm_iload d_M_out_120 rfl ?_
            refine fr_ast d_M_out_122 (by decide) rfl (show _ < 360 by omega) ?_
            refine gm_aload_n d_M_out_123 rfl (by first | exact am_rvR _ | exact am_rvN | assumption) ?_
            refine fr_gA 12 d_M_out_124 f_M_32 (by decide) (by decide) ?_
            refine gm_iload_n d_M_out_127 rfl ?_
            refine gm_dup2 d_M_out_128 rfl rfl ?_
            refine fr_aldv d_M_out_129 (by decide) rfl (show _ < 20 by omega) (by first | assumption | (simp only [fr_up_at, fr_up_s, fr_sc_at, fr_sc_a, Nat.reduceEqDiff, false_and, if_false, ite_false, reduceCtorEq]; first | assumption | rfl) | rfl) ?_
            refine gm_iconst (v := nI 1) d_M_out_130 (by decide) ?_
            first | refine gm_iaddN d_M_out_131 ?_ | refine gm_iadd d_M_out_131 ?_
            refine fr_ast d_M_out_132 (by decide) rfl (show _ < 20 by omega) ?_
            refine gm_vret d_M_out_133 rfl ?_
            first | (exfalso; omega) | (refine ⟨rfl, ?_, rfl⟩; (rw [fc_out_s (row := [x0, x1, x2]) hh (show k < 1000 by omega) (show ¬ (x0 ≠ -1 ∧ x1 = nI k) from fun z => z.1 (hx0.mp q11))]; exact H)) | (refine ⟨rfl, ?_, rfl⟩; (rw [fc_out_s (row := [x0, x1, x2]) hh (show k < 1000 by omega) (show ¬ (x0 ≠ -1 ∧ x1 = nI k) from fun z => q21 z.2.symm)]; exact H)) | exact ⟨rfl, fr_out_took H D hk hh q11 hf h9, rfl⟩ | (refine ⟨rfl, ?_, rfl⟩; (rw [fc_out_n (row := [x0, x1, x2]) (hun (show u ≠ 1 by omega)), if_neg (show ¬ (fc_get s (100 + e) 0 2 ≠ 0 ∧ (s (200 + e)).length < 6) from fun z => z.1 (fc_mate_up U he (fun w => absurd (hu2i.mpr w) (show u ≠ 2 from q56))))]; exact H)) | (refine ⟨rfl, ?_, rfl⟩; (rw [fc_out_n (row := [x0, x1, x2]) (hun (show u ≠ 1 by omega)), if_neg (show ¬ (fc_get s (100 + e) 0 2 ≠ 0 ∧ (s (200 + e)).length < 6) from fun z => z.1 q65)]; exact H)) | (refine ⟨rfl, ?_, rfl⟩; (rw [fc_out_n (row := [x0, x1, x2]) (hun (show u ≠ 1 by omega)), if_neg (show ¬ (fc_get s (100 + e) 0 2 ≠ 0 ∧ (s (200 + e)).length < 6) from fun z => Nat.not_lt.mpr q76 z.2)]; exact H)) | (refine ⟨rfl, ?_, rfl⟩; (rw [fc_out_n (row := [x0, x1, x2]) (hun (show u ≠ 1 by omega)), if_pos (show (fc_get s (100 + e) 0 2 ≠ 0 ∧ (s (200 + e)).length < 6) from ⟨q65, q76⟩)]; exact H.wadd D he q76 _ _ _))
    · refine gm_aload_n d_M_out_14 rfl (by first | exact am_rvR _ | exact am_rvN | assumption) ?_
      refine fr_gA 5 d_M_out_15 f_M_13 (by decide) (by decide) ?_
      refine gm_iload_n d_M_out_18 rfl ?_
      refine fr_aldv d_M_out_19 (by decide) rfl (show _ < 20 by omega) (by first | assumption | (simp only [fr_up_at, fr_up_s, fr_sc_at, fr_sc_a, Nat.reduceEqDiff, false_and, if_false, ite_false, reduceCtorEq]; first | assumption | rfl) | rfl) ?_
      refine gm_iload_n d_M_out_20 rfl ?_
      first | refine gm_icmp_neN (tgt := 49) d_M_out_21 (by decide) (by omega) (by omega) (fun q21 => ?_) (fun q21 => ?_) | refine gm_icmp_ne (tgt := 49) d_M_out_21 (by decide) (fun q21 => ?_) (fun q21 => ?_)
      · refine gm_aload_n d_M_out_49 rfl (by first | exact am_rvR _ | exact am_rvN | assumption) ?_
        refine fr_gA 4 d_M_out_50 f_M_7 (by decide) (by decide) ?_
        refine gm_iload_n d_M_out_53 rfl ?_
        refine fr_aldv d_M_out_54 (by decide) rfl (show _ < 20 by omega) (by first | assumption | (simp only [fr_up_at, fr_up_s, fr_sc_at, fr_sc_a, Nat.reduceEqDiff, false_and, if_false, ite_false, reduceCtorEq]; first | assumption | rfl) | rfl) ?_
        refine gm_iconst (v := nI 2) d_M_out_55 (by decide) ?_
        first | refine gm_icmp_neN (tgt := 133) d_M_out_56 (by decide) (by omega) (by omega) (fun q56 => ?_) (fun q56 => ?_) | refine gm_icmp_ne (tgt := 133) d_M_out_56 (by decide) (fun q56 => ?_) (fun q56 => ?_)
        · refine gm_vret d_M_out_133 rfl ?_
          first | (exfalso; omega) | (refine ⟨rfl, ?_, rfl⟩; (rw [fc_out_s (row := [x0, x1, x2]) hh (show k < 1000 by omega) (show ¬ (x0 ≠ -1 ∧ x1 = nI k) from fun z => z.1 (hx0.mp q11))]; exact H)) | (refine ⟨rfl, ?_, rfl⟩; (rw [fc_out_s (row := [x0, x1, x2]) hh (show k < 1000 by omega) (show ¬ (x0 ≠ -1 ∧ x1 = nI k) from fun z => q21 z.2.symm)]; exact H)) | exact ⟨rfl, fr_out_took H D hk hh q11 hf h9, rfl⟩ | (refine ⟨rfl, ?_, rfl⟩; (rw [fc_out_n (row := [x0, x1, x2]) (hun (show u ≠ 1 by omega)), if_neg (show ¬ (fc_get s (100 + e) 0 2 ≠ 0 ∧ (s (200 + e)).length < 6) from fun z => z.1 (fc_mate_up U he (fun w => absurd (hu2i.mpr w) (show u ≠ 2 from q56))))]; exact H)) | (refine ⟨rfl, ?_, rfl⟩; (rw [fc_out_n (row := [x0, x1, x2]) (hun (show u ≠ 1 by omega)), if_neg (show ¬ (fc_get s (100 + e) 0 2 ≠ 0 ∧ (s (200 + e)).length < 6) from fun z => z.1 q65)]; exact H)) | (refine ⟨rfl, ?_, rfl⟩; (rw [fc_out_n (row := [x0, x1, x2]) (hun (show u ≠ 1 by omega)), if_neg (show ¬ (fc_get s (100 + e) 0 2 ≠ 0 ∧ (s (200 + e)).length < 6) from fun z => Nat.not_lt.mpr q76 z.2)]; exact H)) | (refine ⟨rfl, ?_, rfl⟩; (rw [fc_out_n (row := [x0, x1, x2]) (hun (show u ≠ 1 by omega)), if_pos (show (fc_get s (100 + e) 0 2 ≠ 0 ∧ (s (200 + e)).length < 6) from ⟨q65, q76⟩)]; exact H.wadd D he q76 _ _ _))
        · refine gm_aload_n d_M_out_59 rfl (by first | exact am_rvR _ | exact am_rvN | assumption) ?_
          refine fr_gA 6 d_M_out_60 f_M_16 (by decide) (by decide) ?_
          refine gm_iload_n d_M_out_63 rfl ?_
          refine fr_zldv d_M_out_64 (by decide) rfl (show _ < 20 by omega) (by first | assumption | (simp only [fr_up_at, fr_up_s, fr_sc_at, fr_sc_a, Nat.reduceEqDiff, false_and, if_false, ite_false, reduceCtorEq]; first | assumption | rfl) | rfl) ?_
          first | refine gm_if_eqB (tgt := 133) d_M_out_65 (by decide) (fun q65 => ?_) (fun q65 => ?_) | refine gm_if_eqN (tgt := 133) d_M_out_65 (by decide) (by omega) (fun q65 => ?_) (fun q65 => ?_) | refine gm_if_eq (tgt := 133) d_M_out_65 (by decide) (fun q65 => ?_) (fun q65 => ?_)
          · refine gm_vret d_M_out_133 rfl ?_
            first | (exfalso; omega) | (refine ⟨rfl, ?_, rfl⟩; (rw [fc_out_s (row := [x0, x1, x2]) hh (show k < 1000 by omega) (show ¬ (x0 ≠ -1 ∧ x1 = nI k) from fun z => z.1 (hx0.mp q11))]; exact H)) | (refine ⟨rfl, ?_, rfl⟩; (rw [fc_out_s (row := [x0, x1, x2]) hh (show k < 1000 by omega) (show ¬ (x0 ≠ -1 ∧ x1 = nI k) from fun z => q21 z.2.symm)]; exact H)) | exact ⟨rfl, fr_out_took H D hk hh q11 hf h9, rfl⟩ | (refine ⟨rfl, ?_, rfl⟩; (rw [fc_out_n (row := [x0, x1, x2]) (hun (show u ≠ 1 by omega)), if_neg (show ¬ (fc_get s (100 + e) 0 2 ≠ 0 ∧ (s (200 + e)).length < 6) from fun z => z.1 (fc_mate_up U he (fun w => absurd (hu2i.mpr w) (show u ≠ 2 from q56))))]; exact H)) | (refine ⟨rfl, ?_, rfl⟩; (rw [fc_out_n (row := [x0, x1, x2]) (hun (show u ≠ 1 by omega)), if_neg (show ¬ (fc_get s (100 + e) 0 2 ≠ 0 ∧ (s (200 + e)).length < 6) from fun z => z.1 q65)]; exact H)) | (refine ⟨rfl, ?_, rfl⟩; (rw [fc_out_n (row := [x0, x1, x2]) (hun (show u ≠ 1 by omega)), if_neg (show ¬ (fc_get s (100 + e) 0 2 ≠ 0 ∧ (s (200 + e)).length < 6) from fun z => Nat.not_lt.mpr q76 z.2)]; exact H)) | (refine ⟨rfl, ?_, rfl⟩; (rw [fc_out_n (row := [x0, x1, x2]) (hun (show u ≠ 1 by omega)), if_pos (show (fc_get s (100 + e) 0 2 ≠ 0 ∧ (s (200 + e)).length < 6) from ⟨q65, q76⟩)]; exact H.wadd D he q76 _ _ _))
          · refine gm_aload_n d_M_out_68 rfl (by first | exact am_rvR _ | exact am_rvN | assumption) ?_
            refine fr_gA 12 d_M_out_69 f_M_32 (by decide) (by decide) ?_
            refine gm_iload_n d_M_out_72 rfl ?_
            refine fr_aldv d_M_out_73 (by decide) rfl (show _ < 20 by omega) (by first | assumption | (simp only [fr_up_at, fr_up_s, fr_sc_at, fr_sc_a, Nat.reduceEqDiff, false_and, if_false, ite_false, reduceCtorEq]; first | assumption | rfl) | rfl) ?_
            refine gm_bipush (v := nI 6) d_M_out_74 (by decide) ?_
            first | refine gm_icmp_geN (tgt := 133) d_M_out_76 (by decide) (by omega) (by omega) (fun q76 => ?_) (fun q76 => ?_) | refine gm_icmp_ge (tgt := 133) d_M_out_76 (by decide) (fun q76 => ?_) (fun q76 => ?_)
            · refine gm_vret d_M_out_133 rfl ?_
              first | (exfalso; omega) | (refine ⟨rfl, ?_, rfl⟩; (rw [fc_out_s (row := [x0, x1, x2]) hh (show k < 1000 by omega) (show ¬ (x0 ≠ -1 ∧ x1 = nI k) from fun z => z.1 (hx0.mp q11))]; exact H)) | (refine ⟨rfl, ?_, rfl⟩; (rw [fc_out_s (row := [x0, x1, x2]) hh (show k < 1000 by omega) (show ¬ (x0 ≠ -1 ∧ x1 = nI k) from fun z => q21 z.2.symm)]; exact H)) | exact ⟨rfl, fr_out_took H D hk hh q11 hf h9, rfl⟩ | (refine ⟨rfl, ?_, rfl⟩; (rw [fc_out_n (row := [x0, x1, x2]) (hun (show u ≠ 1 by omega)), if_neg (show ¬ (fc_get s (100 + e) 0 2 ≠ 0 ∧ (s (200 + e)).length < 6) from fun z => z.1 (fc_mate_up U he (fun w => absurd (hu2i.mpr w) (show u ≠ 2 from q56))))]; exact H)) | (refine ⟨rfl, ?_, rfl⟩; (rw [fc_out_n (row := [x0, x1, x2]) (hun (show u ≠ 1 by omega)), if_neg (show ¬ (fc_get s (100 + e) 0 2 ≠ 0 ∧ (s (200 + e)).length < 6) from fun z => z.1 q65)]; exact H)) | (refine ⟨rfl, ?_, rfl⟩; (rw [fc_out_n (row := [x0, x1, x2]) (hun (show u ≠ 1 by omega)), if_neg (show ¬ (fc_get s (100 + e) 0 2 ≠ 0 ∧ (s (200 + e)).length < 6) from fun z => Nat.not_lt.mpr q76 z.2)]; exact H)) | (refine ⟨rfl, ?_, rfl⟩; (rw [fc_out_n (row := [x0, x1, x2]) (hun (show u ≠ 1 by omega)), if_pos (show (fc_get s (100 + e) 0 2 ≠ 0 ∧ (s (200 + e)).length < 6) from ⟨q65, q76⟩)]; exact H.wadd D he q76 _ _ _))
            · refine gm_bipush (v := nI 18) d_M_out_79 (by decide) ?_
              refine gm_iload_n d_M_out_81 rfl ?_
              first | refine gm_imulN d_M_out_82 ?_ | refine gm_imul d_M_out_82 ?_
              refine gm_iconst (v := nI 3) d_M_out_83 (by decide) ?_
              refine gm_aload_n d_M_out_84 rfl (by first | exact am_rvR _ | exact am_rvN | assumption) ?_
              refine fr_gA 12 d_M_out_85 f_M_32 (by decide) (by decide) ?_
              refine gm_iload_n d_M_out_88 rfl ?_
              refine fr_aldv d_M_out_89 (by decide) rfl (show _ < 20 by omega) (by first | assumption | (simp only [fr_up_at, fr_up_s, fr_sc_at, fr_sc_a, Nat.reduceEqDiff, false_and, if_false, ite_false, reduceCtorEq]; first | assumption | rfl) | rfl) ?_
              first | refine gm_imulN d_M_out_90 ?_ | refine gm_imul d_M_out_90 ?_
              first | refine gm_iaddN d_M_out_91 ?_ | refine gm_iadd d_M_out_91 ?_
              refine gm_istore (L1 := [_, _, _, _, _, _]) d_M_out_92 (by decide) rfl ?_
              refine gm_aload_n d_M_out_94 rfl (by first | exact am_rvR _ | exact am_rvN | assumption) ?_
              refine fr_gA 13 d_M_out_95 f_M_35 (by decide) (by decide) ?_
              refine gm_iload d_M_out_98 rfl ?_
              refine gm_iload_n d_M_out_100 rfl ?_
              refine fr_ast d_M_out_101 (by decide) rfl (show _ < 360 by omega) ?_
              refine gm_aload_n d_M_out_102 rfl (by first | exact am_rvR _ | exact am_rvN | assumption) ?_
              refine fr_gA 13 d_M_out_103 f_M_35 (by decide) (by decide) ?_
              refine gm_iload d_M_out_106 rfl ?_
              refine gm_iconst (v := nI 1) d_M_out_108 (by decide) ?_
              first | refine gm_iaddN d_M_out_109 ?_ | refine gm_iadd d_M_out_109 ?_
              refine gm_iload_n d_M_out_110 rfl ?_
              refine fr_ast d_M_out_111 (by decide) rfl (show _ < 360 by omega) ?_
              refine gm_aload_n d_M_out_112 rfl (by first | exact am_rvR _ | exact am_rvN | assumption) ?_
              refine fr_gA 13 d_M_out_113 f_M_35 (by decide) (by decide) ?_
              refine gm_iload d_M_out_116 rfl ?_
              refine gm_iconst (v := nI 2) d_M_out_118 (by decide) ?_
              first | refine gm_iaddN d_M_out_119 ?_ | refine gm_iadd d_M_out_119 ?_
              refine gm_iload d_M_out_120 rfl ?_
              refine fr_ast d_M_out_122 (by decide) rfl (show _ < 360 by omega) ?_
              refine gm_aload_n d_M_out_123 rfl (by first | exact am_rvR _ | exact am_rvN | assumption) ?_
              refine fr_gA 12 d_M_out_124 f_M_32 (by decide) (by decide) ?_
              refine gm_iload_n d_M_out_127 rfl ?_
              refine gm_dup2 d_M_out_128 rfl rfl ?_
              refine fr_aldv d_M_out_129 (by decide) rfl (show _ < 20 by omega) (by first | assumption | (simp only [fr_up_at, fr_up_s, fr_sc_at, fr_sc_a, Nat.reduceEqDiff, false_and, if_false, ite_false, reduceCtorEq]; first | assumption | rfl) | rfl) ?_
              refine gm_iconst (v := nI 1) d_M_out_130 (by decide) ?_
              first | refine gm_iaddN d_M_out_131 ?_ | refine gm_iadd d_M_out_131 ?_
              refine fr_ast d_M_out_132 (by decide) rfl (show _ < 20 by omega) ?_
              refine gm_vret d_M_out_133 rfl ?_
              first | (exfalso; omega) | (refine ⟨rfl, ?_, rfl⟩; (rw [fc_out_s (row := [x0, x1, x2]) hh (show k < 1000 by omega) (show ¬ (x0 ≠ -1 ∧ x1 = nI k) from fun z => z.1 (hx0.mp q11))]; exact H)) | (refine ⟨rfl, ?_, rfl⟩; (rw [fc_out_s (row := [x0, x1, x2]) hh (show k < 1000 by omega) (show ¬ (x0 ≠ -1 ∧ x1 = nI k) from fun z => q21 z.2.symm)]; exact H)) | exact ⟨rfl, fr_out_took H D hk hh q11 hf h9, rfl⟩ | (refine ⟨rfl, ?_, rfl⟩; (rw [fc_out_n (row := [x0, x1, x2]) (hun (show u ≠ 1 by omega)), if_neg (show ¬ (fc_get s (100 + e) 0 2 ≠ 0 ∧ (s (200 + e)).length < 6) from fun z => z.1 (fc_mate_up U he (fun w => absurd (hu2i.mpr w) (show u ≠ 2 from q56))))]; exact H)) | (refine ⟨rfl, ?_, rfl⟩; (rw [fc_out_n (row := [x0, x1, x2]) (hun (show u ≠ 1 by omega)), if_neg (show ¬ (fc_get s (100 + e) 0 2 ≠ 0 ∧ (s (200 + e)).length < 6) from fun z => z.1 q65)]; exact H)) | (refine ⟨rfl, ?_, rfl⟩; (rw [fc_out_n (row := [x0, x1, x2]) (hun (show u ≠ 1 by omega)), if_neg (show ¬ (fc_get s (100 + e) 0 2 ≠ 0 ∧ (s (200 + e)).length < 6) from fun z => Nat.not_lt.mpr q76 z.2)]; exact H)) | (refine ⟨rfl, ?_, rfl⟩; (rw [fc_out_n (row := [x0, x1, x2]) (hun (show u ≠ 1 by omega)), if_pos (show (fc_get s (100 + e) 0 2 ≠ 0 ∧ (s (200 + e)).length < 6) from ⟨q65, q76⟩)]; exact H.wadd D he q76 _ _ _))
      · subst q21
        obtain ⟨a, h9⟩ : ∃ a, r.2 9 k = a := ⟨_, rfl⟩
        refine gm_aload_n d_M_out_24 rfl (by first | exact am_rvR _ | exact am_rvN | assumption) ?_
        refine fr_gA 9 d_M_out_25 f_M_23 (by decide) (by decide) ?_
        refine gm_iload_n d_M_out_28 rfl ?_
        refine gm_dup2 d_M_out_29 rfl rfl ?_
        refine fr_aldv d_M_out_30 (by decide) rfl (show _ < 6 by omega) (by first | assumption | (simp only [fr_up_at, fr_up_s, fr_sc_at, fr_sc_a, Nat.reduceEqDiff, false_and, if_false, ite_false, reduceCtorEq]; first | assumption | rfl) | rfl) ?_
        refine gm_iconst (v := nI 1) d_M_out_31 (by decide) ?_
        first | refine gm_iaddN d_M_out_32 ?_ | refine gm_iadd d_M_out_32 ?_
        refine fr_ast d_M_out_33 (by decide) rfl (show _ < 6 by omega) ?_
        refine gm_aload_n d_M_out_34 rfl (by first | exact am_rvR _ | exact am_rvN | assumption) ?_
        refine fr_gA 10 d_M_out_35 f_M_26 (by decide) (by decide) ?_
        refine gm_iload_n d_M_out_38 rfl ?_
        refine gm_iload d_M_out_39 rfl ?_
        refine fr_ast d_M_out_41 (by decide) rfl (show _ < 6 by omega) ?_
        refine gm_aload_n d_M_out_42 rfl (by first | exact am_rvR _ | exact am_rvN | assumption) ?_
        refine fr_gA 11 d_M_out_43 f_M_29 (by decide) (by decide) ?_
        refine gm_iload_n d_M_out_46 rfl ?_
        refine gm_iload_n d_M_out_47 rfl ?_
        refine fr_ast d_M_out_48 (by decide) rfl (show _ < 6 by omega) ?_
        refine gm_aload_n d_M_out_49 rfl (by first | exact am_rvR _ | exact am_rvN | assumption) ?_
        refine fr_gA 4 d_M_out_50 f_M_7 (by decide) (by decide) ?_
        refine gm_iload_n d_M_out_53 rfl ?_
        refine fr_aldv d_M_out_54 (by decide) rfl (show _ < 20 by omega) (by first | assumption | (simp only [fr_up_at, fr_up_s, fr_sc_at, fr_sc_a, Nat.reduceEqDiff, false_and, if_false, ite_false, reduceCtorEq]; first | assumption | rfl) | rfl) ?_
        refine gm_iconst (v := nI 2) d_M_out_55 (by decide) ?_
        first | refine gm_icmp_neN (tgt := 133) d_M_out_56 (by decide) (by omega) (by omega) (fun q56 => ?_) (fun q56 => ?_) | refine gm_icmp_ne (tgt := 133) d_M_out_56 (by decide) (fun q56 => ?_) (fun q56 => ?_)
        · refine gm_vret d_M_out_133 rfl ?_
          first | (exfalso; omega) | (refine ⟨rfl, ?_, rfl⟩; (rw [fc_out_s (row := [x0, x1, x2]) hh (show k < 1000 by omega) (show ¬ (x0 ≠ -1 ∧ x1 = nI k) from fun z => z.1 (hx0.mp q11))]; exact H)) | (refine ⟨rfl, ?_, rfl⟩; (rw [fc_out_s (row := [x0, x1, x2]) hh (show k < 1000 by omega) (show ¬ (x0 ≠ -1 ∧ x1 = nI k) from fun z => q21 z.2.symm)]; exact H)) | exact ⟨rfl, fr_out_took H D hk hh q11 hf h9, rfl⟩ | (refine ⟨rfl, ?_, rfl⟩; (rw [fc_out_n (row := [x0, x1, x2]) (hun (show u ≠ 1 by omega)), if_neg (show ¬ (fc_get s (100 + e) 0 2 ≠ 0 ∧ (s (200 + e)).length < 6) from fun z => z.1 (fc_mate_up U he (fun w => absurd (hu2i.mpr w) (show u ≠ 2 from q56))))]; exact H)) | (refine ⟨rfl, ?_, rfl⟩; (rw [fc_out_n (row := [x0, x1, x2]) (hun (show u ≠ 1 by omega)), if_neg (show ¬ (fc_get s (100 + e) 0 2 ≠ 0 ∧ (s (200 + e)).length < 6) from fun z => z.1 q65)]; exact H)) | (refine ⟨rfl, ?_, rfl⟩; (rw [fc_out_n (row := [x0, x1, x2]) (hun (show u ≠ 1 by omega)), if_neg (show ¬ (fc_get s (100 + e) 0 2 ≠ 0 ∧ (s (200 + e)).length < 6) from fun z => Nat.not_lt.mpr q76 z.2)]; exact H)) | (refine ⟨rfl, ?_, rfl⟩; (rw [fc_out_n (row := [x0, x1, x2]) (hun (show u ≠ 1 by omega)), if_pos (show (fc_get s (100 + e) 0 2 ≠ 0 ∧ (s (200 + e)).length < 6) from ⟨q65, q76⟩)]; exact H.wadd D he q76 _ _ _))
        · refine gm_aload_n d_M_out_59 rfl (by first | exact am_rvR _ | exact am_rvN | assumption) ?_
          refine fr_gA 6 d_M_out_60 f_M_16 (by decide) (by decide) ?_
          refine gm_iload_n d_M_out_63 rfl ?_
          refine fr_zldv d_M_out_64 (by decide) rfl (show _ < 20 by omega) (by first | assumption | (simp only [fr_up_at, fr_up_s, fr_sc_at, fr_sc_a, Nat.reduceEqDiff, false_and, if_false, ite_false, reduceCtorEq]; first | assumption | rfl) | rfl) ?_
          first | refine gm_if_eqB (tgt := 133) d_M_out_65 (by decide) (fun q65 => ?_) (fun q65 => ?_) | refine gm_if_eqN (tgt := 133) d_M_out_65 (by decide) (by omega) (fun q65 => ?_) (fun q65 => ?_) | refine gm_if_eq (tgt := 133) d_M_out_65 (by decide) (fun q65 => ?_) (fun q65 => ?_)
          · refine gm_vret d_M_out_133 rfl ?_
            first | (exfalso; omega) | (refine ⟨rfl, ?_, rfl⟩; (rw [fc_out_s (row := [x0, x1, x2]) hh (show k < 1000 by omega) (show ¬ (x0 ≠ -1 ∧ x1 = nI k) from fun z => z.1 (hx0.mp q11))]; exact H)) | (refine ⟨rfl, ?_, rfl⟩; (rw [fc_out_s (row := [x0, x1, x2]) hh (show k < 1000 by omega) (show ¬ (x0 ≠ -1 ∧ x1 = nI k) from fun z => q21 z.2.symm)]; exact H)) | exact ⟨rfl, fr_out_took H D hk hh q11 hf h9, rfl⟩ | (refine ⟨rfl, ?_, rfl⟩; (rw [fc_out_n (row := [x0, x1, x2]) (hun (show u ≠ 1 by omega)), if_neg (show ¬ (fc_get s (100 + e) 0 2 ≠ 0 ∧ (s (200 + e)).length < 6) from fun z => z.1 (fc_mate_up U he (fun w => absurd (hu2i.mpr w) (show u ≠ 2 from q56))))]; exact H)) | (refine ⟨rfl, ?_, rfl⟩; (rw [fc_out_n (row := [x0, x1, x2]) (hun (show u ≠ 1 by omega)), if_neg (show ¬ (fc_get s (100 + e) 0 2 ≠ 0 ∧ (s (200 + e)).length < 6) from fun z => z.1 q65)]; exact H)) | (refine ⟨rfl, ?_, rfl⟩; (rw [fc_out_n (row := [x0, x1, x2]) (hun (show u ≠ 1 by omega)), if_neg (show ¬ (fc_get s (100 + e) 0 2 ≠ 0 ∧ (s (200 + e)).length < 6) from fun z => Nat.not_lt.mpr q76 z.2)]; exact H)) | (refine ⟨rfl, ?_, rfl⟩; (rw [fc_out_n (row := [x0, x1, x2]) (hun (show u ≠ 1 by omega)), if_pos (show (fc_get s (100 + e) 0 2 ≠ 0 ∧ (s (200 + e)).length < 6) from ⟨q65, q76⟩)]; exact H.wadd D he q76 _ _ _))
          · refine gm_aload_n d_M_out_68 rfl (by first | exact am_rvR _ | exact am_rvN | assumption) ?_
            refine fr_gA 12 d_M_out_69 f_M_32 (by decide) (by decide) ?_
            refine gm_iload_n d_M_out_72 rfl ?_
            refine fr_aldv d_M_out_73 (by decide) rfl (show _ < 20 by omega) (by first | assumption | (simp only [fr_up_at, fr_up_s, fr_sc_at, fr_sc_a, Nat.reduceEqDiff, false_and, if_false, ite_false, reduceCtorEq]; first | assumption | rfl) | rfl) ?_
            refine gm_bipush (v := nI 6) d_M_out_74 (by decide) ?_
            first | refine gm_icmp_geN (tgt := 133) d_M_out_76 (by decide) (by omega) (by omega) (fun q76 => ?_) (fun q76 => ?_) | refine gm_icmp_ge (tgt := 133) d_M_out_76 (by decide) (fun q76 => ?_) (fun q76 => ?_)
            · refine gm_vret d_M_out_133 rfl ?_
              first | (exfalso; omega) | (refine ⟨rfl, ?_, rfl⟩; (rw [fc_out_s (row := [x0, x1, x2]) hh (show k < 1000 by omega) (show ¬ (x0 ≠ -1 ∧ x1 = nI k) from fun z => z.1 (hx0.mp q11))]; exact H)) | (refine ⟨rfl, ?_, rfl⟩; (rw [fc_out_s (row := [x0, x1, x2]) hh (show k < 1000 by omega) (show ¬ (x0 ≠ -1 ∧ x1 = nI k) from fun z => q21 z.2.symm)]; exact H)) | exact ⟨rfl, fr_out_took H D hk hh q11 hf h9, rfl⟩ | (refine ⟨rfl, ?_, rfl⟩; (rw [fc_out_n (row := [x0, x1, x2]) (hun (show u ≠ 1 by omega)), if_neg (show ¬ (fc_get s (100 + e) 0 2 ≠ 0 ∧ (s (200 + e)).length < 6) from fun z => z.1 (fc_mate_up U he (fun w => absurd (hu2i.mpr w) (show u ≠ 2 from q56))))]; exact H)) | (refine ⟨rfl, ?_, rfl⟩; (rw [fc_out_n (row := [x0, x1, x2]) (hun (show u ≠ 1 by omega)), if_neg (show ¬ (fc_get s (100 + e) 0 2 ≠ 0 ∧ (s (200 + e)).length < 6) from fun z => z.1 q65)]; exact H)) | (refine ⟨rfl, ?_, rfl⟩; (rw [fc_out_n (row := [x0, x1, x2]) (hun (show u ≠ 1 by omega)), if_neg (show ¬ (fc_get s (100 + e) 0 2 ≠ 0 ∧ (s (200 + e)).length < 6) from fun z => Nat.not_lt.mpr q76 z.2)]; exact H)) | (refine ⟨rfl, ?_, rfl⟩; (rw [fc_out_n (row := [x0, x1, x2]) (hun (show u ≠ 1 by omega)), if_pos (show (fc_get s (100 + e) 0 2 ≠ 0 ∧ (s (200 + e)).length < 6) from ⟨q65, q76⟩)]; exact H.wadd D he q76 _ _ _))
            · refine gm_bipush (v := nI 18) d_M_out_79 (by decide) ?_
              refine gm_iload_n d_M_out_81 rfl ?_
              first | refine gm_imulN d_M_out_82 ?_ | refine gm_imul d_M_out_82 ?_
              refine gm_iconst (v := nI 3) d_M_out_83 (by decide) ?_
              refine gm_aload_n d_M_out_84 rfl (by first | exact am_rvR _ | exact am_rvN | assumption) ?_
              refine fr_gA 12 d_M_out_85 f_M_32 (by decide) (by decide) ?_
              refine gm_iload_n d_M_out_88 rfl ?_
              refine fr_aldv d_M_out_89 (by decide) rfl (show _ < 20 by omega) (by first | assumption | (simp only [fr_up_at, fr_up_s, fr_sc_at, fr_sc_a, Nat.reduceEqDiff, false_and, if_false, ite_false, reduceCtorEq]; first | assumption | rfl) | rfl) ?_
              first | refine gm_imulN d_M_out_90 ?_ | refine gm_imul d_M_out_90 ?_
              first | refine gm_iaddN d_M_out_91 ?_ | refine gm_iadd d_M_out_91 ?_
              refine gm_istore (L1 := [_, _, _, _, _, _]) d_M_out_92 (by decide) rfl ?_
              refine gm_aload_n d_M_out_94 rfl (by first | exact am_rvR _ | exact am_rvN | assumption) ?_
              refine fr_gA 13 d_M_out_95 f_M_35 (by decide) (by decide) ?_
              refine gm_iload d_M_out_98 rfl ?_
              refine gm_iload_n d_M_out_100 rfl ?_
              refine fr_ast d_M_out_101 (by decide) rfl (show _ < 360 by omega) ?_
              refine gm_aload_n d_M_out_102 rfl (by first | exact am_rvR _ | exact am_rvN | assumption) ?_
              refine fr_gA 13 d_M_out_103 f_M_35 (by decide) (by decide) ?_
              refine gm_iload d_M_out_106 rfl ?_
              refine gm_iconst (v := nI 1) d_M_out_108 (by decide) ?_
              first | refine gm_iaddN d_M_out_109 ?_ | refine gm_iadd d_M_out_109 ?_
              refine gm_iload_n d_M_out_110 rfl ?_
              refine fr_ast d_M_out_111 (by decide) rfl (show _ < 360 by omega) ?_
              refine gm_aload_n d_M_out_112 rfl (by first | exact am_rvR _ | exact am_rvN | assumption) ?_
              refine fr_gA 13 d_M_out_113 f_M_35 (by decide) (by decide) ?_
              refine gm_iload d_M_out_116 rfl ?_
              refine gm_iconst (v := nI 2) d_M_out_118 (by decide) ?_
              first | refine gm_iaddN d_M_out_119 ?_ | refine gm_iadd d_M_out_119 ?_
              refine gm_iload d_M_out_120 rfl ?_
              refine fr_ast d_M_out_122 (by decide) rfl (show _ < 360 by omega) ?_
              refine gm_aload_n d_M_out_123 rfl (by first | exact am_rvR _ | exact am_rvN | assumption) ?_
              refine fr_gA 12 d_M_out_124 f_M_32 (by decide) (by decide) ?_
              refine gm_iload_n d_M_out_127 rfl ?_
              refine gm_dup2 d_M_out_128 rfl rfl ?_
              refine fr_aldv d_M_out_129 (by decide) rfl (show _ < 20 by omega) (by first | assumption | (simp only [fr_up_at, fr_up_s, fr_sc_at, fr_sc_a, Nat.reduceEqDiff, false_and, if_false, ite_false, reduceCtorEq]; first | assumption | rfl) | rfl) ?_
              refine gm_iconst (v := nI 1) d_M_out_130 (by decide) ?_
              first | refine gm_iaddN d_M_out_131 ?_ | refine gm_iadd d_M_out_131 ?_
              refine fr_ast d_M_out_132 (by decide) rfl (show _ < 20 by omega) ?_
              refine gm_vret d_M_out_133 rfl ?_
              first | (exfalso; omega) | (refine ⟨rfl, ?_, rfl⟩; (rw [fc_out_s (row := [x0, x1, x2]) hh (show k < 1000 by omega) (show ¬ (x0 ≠ -1 ∧ x1 = nI k) from fun z => z.1 (hx0.mp q11))]; exact H)) | (refine ⟨rfl, ?_, rfl⟩; (rw [fc_out_s (row := [x0, x1, x2]) hh (show k < 1000 by omega) (show ¬ (x0 ≠ -1 ∧ x1 = nI k) from fun z => q21 z.2.symm)]; exact H)) | exact ⟨rfl, fr_out_took H D hk hh q11 hf h9, rfl⟩ | (refine ⟨rfl, ?_, rfl⟩; (rw [fc_out_n (row := [x0, x1, x2]) (hun (show u ≠ 1 by omega)), if_neg (show ¬ (fc_get s (100 + e) 0 2 ≠ 0 ∧ (s (200 + e)).length < 6) from fun z => z.1 (fc_mate_up U he (fun w => absurd (hu2i.mpr w) (show u ≠ 2 from q56))))]; exact H)) | (refine ⟨rfl, ?_, rfl⟩; (rw [fc_out_n (row := [x0, x1, x2]) (hun (show u ≠ 1 by omega)), if_neg (show ¬ (fc_get s (100 + e) 0 2 ≠ 0 ∧ (s (200 + e)).length < 6) from fun z => z.1 q65)]; exact H)) | (refine ⟨rfl, ?_, rfl⟩; (rw [fc_out_n (row := [x0, x1, x2]) (hun (show u ≠ 1 by omega)), if_neg (show ¬ (fc_get s (100 + e) 0 2 ≠ 0 ∧ (s (200 + e)).length < 6) from fun z => Nat.not_lt.mpr q76 z.2)]; exact H)) | (refine ⟨rfl, ?_, rfl⟩; (rw [fc_out_n (row := [x0, x1, x2]) (hun (show u ≠ 1 by omega)), if_pos (show (fc_get s (100 + e) 0 2 ≠ 0 ∧ (s (200 + e)).length < 6) from ⟨q65, q76⟩)]; exact H.wadd D he q76 _ _ _))
theorem rf_out (H : fr_rel ns room idle s r) (D : fc_iD ns room s) (U : fc_iU ns s) {e : Nat} (he : e < 4 * ns) (x0 x1 x2 : Int32) (hf : fc_frm ns [x0, x1, x2]) : gm_M (fr_P A) fr_X g y_M_out "(IIII)V" 0 0 [.ref (A 44), .int (nI e), .int x0, .int x1, .int x2] (fun v r' => v = none ∧ fr_rel ns room idle (fc_out s e [x0, x1, x2]) r') r := gm_Mpost (fun v r' h => ⟨h.1, h.2.1⟩) (rf_out3 H D U he x0 x1 x2 hf)
end REJ
