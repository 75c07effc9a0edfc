/-! the reference: turn, probe, tick -/
section REN
variable {g : am_G} {A : Nat → Nat} {r : fr_S} {ns room idle : Nat} {s : fc_S} {own : Int32 → Int32 × Int32} {W : Nat}
theorem am_b1 {b : Bool} (h : b = true) : ¬ am_b b = 0 := by subst h; decide
theorem rf_turn (H : fr_rel ns room idle s r) (J : fz_J own W ns room s) (U : fc_iU ns s) (x p : Int32) (b : Bool) : gm_M (fr_P A) fr_X g y_M_turn "(IIZ)Z" 2 54 [.ref (A 44), .int x, .int p, .int (am_b b)] (fun v r' => v = some (.int (am_b (fc_turn ns s x p (am_b b)).1)) ∧ fr_rel ns room idle (fc_turn ns s x p (am_b b)).2 r') r := by
  have D := J.1
  have n5 := D.1.2.1
  refine gm_Mof (L0 := [some (.ref (A 44)), some (.int x), some (.int p), some (.int (am_b b)), none]) pl_M_turn (am_k1 rfl (am_k1 rfl (am_k1 rfl (am_k1 rfl am_k0)))) (Nat.le_of_ble_eq_true rfl) rfl ?_
  refine gm_aload_n d_M_turn_0 rfl (by first | exact am_rvR _ | exact am_rvN | assumption) ?_
  refine gm_iload_n d_M_turn_1 rfl ?_
  refine gm_iload_n d_M_turn_2 rfl ?_
  refine gm_cV (b := A 44) d_M_turn_3 v_M_140 (vs := [.int x, .int p]) (st := []) rfl rfl (by decide) (Nat.le_of_ble_eq_true rfl) (fr_at _) (rf_isPort H.1.1 x p) ?_
  rintro v r1 ⟨rfl, hr1⟩
  subst r1
  first | refine gm_if_eqB (tgt := 31) d_M_turn_6 (by decide) (fun q6 => ?_) (fun q6 => ?_) | refine gm_if_eqN (tgt := 31) d_M_turn_6 (by decide) (by omega) (fun q6 => ?_) (fun q6 => ?_) | refine gm_if_eq (tgt := 31) d_M_turn_6 (by decide) (fun q6 => ?_) (fun q6 => ?_)
  · refine gm_iconst (v := (-1)) d_M_turn_31 (by decide) ?_
    refine gm_istore (L1 := [_, _, _, _, _]) d_M_turn_32 (by decide) rfl ?_
    refine gm_iload d_M_turn_34 rfl ?_
    refine gm_if_lt (tgt := 88) d_M_turn_36 (by decide) (fun _ => ?_) (fun q => absurd (by decide) q)
    refine gm_iconst (v := nI 0) d_M_turn_88 (by decide) ?_
    refine gm_iret d_M_turn_89 rfl (by first | rfl | exact am_b_nar _) ?_
    first | (refine ⟨?_, ?_⟩; (focus (rw [fc_turn_b1 q6]; try rfl)); (focus (rw [fc_turn_b1 q6]; exact H))) | (refine ⟨?_, ?_⟩; (focus (rw [fc_turn_eq n5 hi hp q6 he, if_neg (show ¬ (fc_get s (100 + e) 0 1 ≠ -1 ∧ fc_get s (100 + e) 0 2 ≠ am_b b ∧ (s (40 + i)).length < 20 ∧ (s (40 + fc_mate s e / 4)).length < 20) from fun z => absurd (hu2i.mpr z.1) q20)]; try rfl)); (focus (rw [fc_turn_eq n5 hi hp q6 he, if_neg (show ¬ (fc_get s (100 + e) 0 1 ≠ -1 ∧ fc_get s (100 + e) 0 2 ≠ am_b b ∧ (s (40 + i)).length < 20 ∧ (s (40 + fc_mate s e / 4)).length < 20) from fun z => absurd (hu2i.mpr z.1) q20)]; exact H)))
  · obtain ⟨i, p', hi, hp, rfl, rfl⟩ := fc_pt_nat n5 q6
    obtain ⟨e, he⟩ : ∃ e, e = 4 * i + p' := ⟨_, rfl⟩
    have he4 : e < 4 * ns := by omega
    obtain ⟨u, hu2, h4, hu0, hu2i, hu1, hu2m, hun⟩ := fr_use H D he4
    refine gm_aload_n d_M_turn_9 rfl (by first | exact am_rvR _ | exact am_rvN | assumption) ?_
    refine fr_gA 4 d_M_turn_10 f_M_7 (by decide) (by decide) ?_
    refine gm_iconst (v := nI 4) d_M_turn_13 (by decide) ?_
    refine gm_iload_n d_M_turn_14 rfl ?_
    first | refine gm_imulN d_M_turn_15 ?_ | refine gm_imul d_M_turn_15 ?_
    refine gm_iload_n d_M_turn_16 rfl ?_
    first | refine gm_iaddN d_M_turn_17 ?_ | refine gm_iadd d_M_turn_17 ?_
    rw [← he]
    refine fr_aldv d_M_turn_18 (by decide) rfl (show _ < 20 by omega) (by first | assumption | (simp only [fr_up_at, fr_up_s, fr_sc_at, fr_sc_a, Nat.reduceEqDiff, false_and, if_false, ite_false, reduceCtorEq]; first | assumption | rfl) | rfl) ?_
    refine gm_iconst (v := nI 2) d_M_turn_19 (by decide) ?_
    first | refine gm_icmp_neN (tgt := 31) d_M_turn_20 (by decide) (by omega) (by omega) (fun q20 => ?_) (fun q20 => ?_) | refine gm_icmp_ne (tgt := 31) d_M_turn_20 (by decide) (fun q20 => ?_) (fun q20 => ?_)
    · refine gm_iconst (v := (-1)) d_M_turn_31 (by decide) ?_
      refine gm_istore (L1 := [_, _, _, _, _]) d_M_turn_32 (by decide) rfl ?_
      refine gm_iload d_M_turn_34 rfl ?_
      refine gm_if_lt (tgt := 88) d_M_turn_36 (by decide) (fun _ => ?_) (fun q => absurd (by decide) q)
      refine gm_iconst (v := nI 0) d_M_turn_88 (by decide) ?_
      refine gm_iret d_M_turn_89 rfl (by first | rfl | exact am_b_nar _) ?_
      first | (refine ⟨?_, ?_⟩; (focus (rw [fc_turn_b1 q6]; try rfl)); (focus (rw [fc_turn_b1 q6]; exact H))) | (refine ⟨?_, ?_⟩; (focus (rw [fc_turn_eq n5 hi hp q6 he, if_neg (show ¬ (fc_get s (100 + e) 0 1 ≠ -1 ∧ fc_get s (100 + e) 0 2 ≠ am_b b ∧ (s (40 + i)).length < 20 ∧ (s (40 + fc_mate s e / 4)).length < 20) from fun z => absurd (hu2i.mpr z.1) q20)]; try rfl)); (focus (rw [fc_turn_eq n5 hi hp q6 he, if_neg (show ¬ (fc_get s (100 + e) 0 1 ≠ -1 ∧ fc_get s (100 + e) 0 2 ≠ am_b b ∧ (s (40 + i)).length < 20 ∧ (s (40 + fc_mate s e / 4)).length < 20) from fun z => absurd (hu2i.mpr z.1) q20)]; exact H)))
    · refine gm_iconst (v := nI 4) d_M_turn_23 (by decide) ?_
      refine gm_iload_n d_M_turn_24 rfl ?_
      first | refine gm_imulN d_M_turn_25 ?_ | refine gm_imul d_M_turn_25 ?_
      refine gm_iload_n d_M_turn_26 rfl ?_
      first | refine gm_iaddN d_M_turn_27 ?_ | refine gm_iadd d_M_turn_27 ?_
      rw [← he]
      refine gm_goto (tgt := 32) d_M_turn_28 (by decide) ?_
      refine gm_istore (L1 := [_, _, _, _, _]) d_M_turn_32 (by decide) rfl ?_
      refine gm_iload d_M_turn_34 rfl ?_
      refine gm_if_ltN (tgt := 88) d_M_turn_36 (by decide) (by omega) (fun q => absurd q (by omega)) (fun _ => ?_)
      obtain ⟨mt, hm, hgm, h5, hmt⟩ := hu2m q20
      have h00 := hun (show u ≠ 1 by omega)
      have h6 : r.2 6 e = fc_get s (100 + e) 0 2 := (H.2.2.1 e he4).1
      have h25 : r.2 25 (2 * i + 1) = nI (s (40 + i)).length := H.nq hi
      have h25' : r.2 25 (2 * (mt / 4) + 1) = nI (s (40 + mt / 4)).length := H.nq (show mt / 4 < ns by omega)
      have l1 := D.q59 hi
      have l2 := D.q59 (show mt / 4 < ns by omega)
      refine gm_aload_n d_M_turn_39 rfl (by first | exact am_rvR _ | exact am_rvN | assumption) ?_
      refine fr_gA 6 d_M_turn_40 f_M_16 (by decide) (by decide) ?_
      refine gm_iload d_M_turn_43 rfl ?_
      refine fr_zldv d_M_turn_45 (by decide) rfl (show _ < 20 by omega) (by first | assumption | (simp only [fr_up_at, fr_up_s, fr_sc_at, fr_sc_a, Nat.reduceEqDiff, false_and, if_false, ite_false, reduceCtorEq]; first | assumption | rfl) | rfl) ?_
      refine gm_iload_n d_M_turn_46 rfl ?_
      first | refine gm_icmp_eqN (tgt := 88) d_M_turn_47 (by decide) (by omega) (by omega) (fun q47 => ?_) (fun q47 => ?_) | refine gm_icmp_eq (tgt := 88) d_M_turn_47 (by decide) (fun q47 => ?_) (fun q47 => ?_)
      · refine gm_iconst (v := nI 0) d_M_turn_88 (by decide) ?_
        refine gm_iret d_M_turn_89 rfl (by first | rfl | exact am_b_nar _) ?_
        first | (refine ⟨?_, ?_⟩; (focus (rw [fc_turn_eq n5 hi hp q6 he, if_neg (show ¬ (fc_get s (100 + e) 0 1 ≠ -1 ∧ fc_get s (100 + e) 0 2 ≠ am_b b ∧ (s (40 + i)).length < 20 ∧ (s (40 + fc_mate s e / 4)).length < 20) from fun z => z.2.1 q47)]; try rfl)); (focus (rw [fc_turn_eq n5 hi hp q6 he, if_neg (show ¬ (fc_get s (100 + e) 0 1 ≠ -1 ∧ fc_get s (100 + e) 0 2 ≠ am_b b ∧ (s (40 + i)).length < 20 ∧ (s (40 + fc_mate s e / 4)).length < 20) from fun z => z.2.1 q47)]; exact H))) | (refine ⟨?_, ?_⟩; (focus (rw [fc_turn_eq n5 hi hp q6 he, if_neg (show ¬ (fc_get s (100 + e) 0 1 ≠ -1 ∧ fc_get s (100 + e) 0 2 ≠ am_b b ∧ (s (40 + i)).length < 20 ∧ (s (40 + fc_mate s e / 4)).length < 20) from fun z => Nat.not_lt.mpr q62 z.2.2.1)]; try rfl)); (focus (rw [fc_turn_eq n5 hi hp q6 he, if_neg (show ¬ (fc_get s (100 + e) 0 1 ≠ -1 ∧ fc_get s (100 + e) 0 2 ≠ am_b b ∧ (s (40 + i)).length < 20 ∧ (s (40 + fc_mate s e / 4)).length < 20) from fun z => Nat.not_lt.mpr q62 z.2.2.1)]; exact H))) | (refine ⟨?_, ?_⟩; (focus (rw [fc_turn_eq n5 hi hp q6 he, if_neg (show ¬ (fc_get s (100 + e) 0 1 ≠ -1 ∧ fc_get s (100 + e) 0 2 ≠ am_b b ∧ (s (40 + i)).length < 20 ∧ (s (40 + fc_mate s e / 4)).length < 20) from fun z => Nat.not_lt.mpr q85 (by rw [← hmt]; exact z.2.2.2))]; try rfl)); (focus (rw [fc_turn_eq n5 hi hp q6 he, if_neg (show ¬ (fc_get s (100 + e) 0 1 ≠ -1 ∧ fc_get s (100 + e) 0 2 ≠ am_b b ∧ (s (40 + i)).length < 20 ∧ (s (40 + fc_mate s e / 4)).length < 20) from fun z => Nat.not_lt.mpr q85 (by rw [← hmt]; exact z.2.2.2))]; exact H))) | (refine ⟨?_, ?_⟩; (focus (rw [fc_turn_eq n5 hi hp q6 he, if_pos (show (fc_get s (100 + e) 0 1 ≠ -1 ∧ fc_get s (100 + e) 0 2 ≠ am_b b ∧ (s (40 + i)).length < 20 ∧ (s (40 + fc_mate s e / 4)).length < 20) from ⟨hu2i.mp q20, q47, q62, by rw [hmt]; exact q85⟩), hmt]; try rfl)); (focus (rw [fc_turn_eq n5 hi hp q6 he, if_pos (show (fc_get s (100 + e) 0 1 ≠ -1 ∧ fc_get s (100 + e) 0 2 ≠ am_b b ∧ (s (40 + i)).length < 20 ∧ (s (40 + fc_mate s e / 4)).length < 20) from ⟨hu2i.mp q20, q47, q62, by rw [hmt]; exact q85⟩), hmt]; (rw [fc_tp1 (show ¬ am_b b = 0 from am_b1 q112)]; exact H2)))) | (refine ⟨?_, ?_⟩; (focus (rw [fc_turn_eq n5 hi hp q6 he, if_pos (show (fc_get s (100 + e) 0 1 ≠ -1 ∧ fc_get s (100 + e) 0 2 ≠ am_b b ∧ (s (40 + i)).length < 20 ∧ (s (40 + fc_mate s e / 4)).length < 20) from ⟨hu2i.mp q20, q47, q62, by rw [hmt]; exact q85⟩), hmt]; try rfl)); (focus (rw [fc_turn_eq n5 hi hp q6 he, if_pos (show (fc_get s (100 + e) 0 1 ≠ -1 ∧ fc_get s (100 + e) 0 2 ≠ am_b b ∧ (s (40 + i)).length < 20 ∧ (s (40 + fc_mate s e / 4)).length < 20) from ⟨hu2i.mp q20, q47, q62, by rw [hmt]; exact q85⟩), hmt]; (rw [ee]; exact H6))))
      · refine gm_aload_n d_M_turn_50 rfl (by first | exact am_rvR _ | exact am_rvN | assumption) ?_
        refine fr_gA 25 d_M_turn_51 f_M_71 (by decide) (by decide) ?_
        refine gm_iconst (v := nI 2) d_M_turn_54 (by decide) ?_
        refine gm_iload_n d_M_turn_55 rfl ?_
        first | refine gm_imulN d_M_turn_56 ?_ | refine gm_imul d_M_turn_56 ?_
        refine gm_iconst (v := nI 1) d_M_turn_57 (by decide) ?_
        first | refine gm_iaddN d_M_turn_58 ?_ | refine gm_iadd d_M_turn_58 ?_
        refine fr_aldv d_M_turn_59 (by decide) rfl (show _ < 10 by omega) (by first | assumption | (simp only [fr_up_at, fr_up_s, fr_sc_at, fr_sc_a, Nat.reduceEqDiff, false_and, if_false, ite_false, reduceCtorEq]; first | assumption | rfl) | rfl) ?_
        refine gm_bipush (v := nI 20) d_M_turn_60 (by decide) ?_
        first | refine gm_icmp_geN (tgt := 88) d_M_turn_62 (by decide) (by omega) (by omega) (fun q62 => ?_) (fun q62 => ?_) | refine gm_icmp_ge (tgt := 88) d_M_turn_62 (by decide) (fun q62 => ?_) (fun q62 => ?_)
        · refine gm_iconst (v := nI 0) d_M_turn_88 (by decide) ?_
          refine gm_iret d_M_turn_89 rfl (by first | rfl | exact am_b_nar _) ?_
          first | (refine ⟨?_, ?_⟩; (focus (rw [fc_turn_eq n5 hi hp q6 he, if_neg (show ¬ (fc_get s (100 + e) 0 1 ≠ -1 ∧ fc_get s (100 + e) 0 2 ≠ am_b b ∧ (s (40 + i)).length < 20 ∧ (s (40 + fc_mate s e / 4)).length < 20) from fun z => z.2.1 q47)]; try rfl)); (focus (rw [fc_turn_eq n5 hi hp q6 he, if_neg (show ¬ (fc_get s (100 + e) 0 1 ≠ -1 ∧ fc_get s (100 + e) 0 2 ≠ am_b b ∧ (s (40 + i)).length < 20 ∧ (s (40 + fc_mate s e / 4)).length < 20) from fun z => z.2.1 q47)]; exact H))) | (refine ⟨?_, ?_⟩; (focus (rw [fc_turn_eq n5 hi hp q6 he, if_neg (show ¬ (fc_get s (100 + e) 0 1 ≠ -1 ∧ fc_get s (100 + e) 0 2 ≠ am_b b ∧ (s (40 + i)).length < 20 ∧ (s (40 + fc_mate s e / 4)).length < 20) from fun z => Nat.not_lt.mpr q62 z.2.2.1)]; try rfl)); (focus (rw [fc_turn_eq n5 hi hp q6 he, if_neg (show ¬ (fc_get s (100 + e) 0 1 ≠ -1 ∧ fc_get s (100 + e) 0 2 ≠ am_b b ∧ (s (40 + i)).length < 20 ∧ (s (40 + fc_mate s e / 4)).length < 20) from fun z => Nat.not_lt.mpr q62 z.2.2.1)]; exact H))) | (refine ⟨?_, ?_⟩; (focus (rw [fc_turn_eq n5 hi hp q6 he, if_neg (show ¬ (fc_get s (100 + e) 0 1 ≠ -1 ∧ fc_get s (100 + e) 0 2 ≠ am_b b ∧ (s (40 + i)).length < 20 ∧ (s (40 + fc_mate s e / 4)).length < 20) from fun z => Nat.not_lt.mpr q85 (by rw [← hmt]; exact z.2.2.2))]; try rfl)); (focus (rw [fc_turn_eq n5 hi hp q6 he, if_neg (show ¬ (fc_get s (100 + e) 0 1 ≠ -1 ∧ fc_get s (100 + e) 0 2 ≠ am_b b ∧ (s (40 + i)).length < 20 ∧ (s (40 + fc_mate s e / 4)).length < 20) from fun z => Nat.not_lt.mpr q85 (by rw [← hmt]; exact z.2.2.2))]; exact H))) | (refine ⟨?_, ?_⟩; (focus (rw [fc_turn_eq n5 hi hp q6 he, if_pos (show (fc_get s (100 + e) 0 1 ≠ -1 ∧ fc_get s (100 + e) 0 2 ≠ am_b b ∧ (s (40 + i)).length < 20 ∧ (s (40 + fc_mate s e / 4)).length < 20) from ⟨hu2i.mp q20, q47, q62, by rw [hmt]; exact q85⟩), hmt]; try rfl)); (focus (rw [fc_turn_eq n5 hi hp q6 he, if_pos (show (fc_get s (100 + e) 0 1 ≠ -1 ∧ fc_get s (100 + e) 0 2 ≠ am_b b ∧ (s (40 + i)).length < 20 ∧ (s (40 + fc_mate s e / 4)).length < 20) from ⟨hu2i.mp q20, q47, q62, by rw [hmt]; exact q85⟩), hmt]; (rw [fc_tp1 (show ¬ am_b b = 0 from am_b1 q112)]; exact H2)))) | (refine ⟨?_, ?_⟩; (focus (rw [fc_turn_eq n5 hi hp q6 he, if_pos (show (fc_get s (100 + e) 0 1 ≠ -1 ∧ fc_get s (100 + e) 0 2 ≠ am_b b ∧ (s (40 + i)).length < 20 ∧ (s (40 + fc_mate s e / 4)).length < 20) from ⟨hu2i.mp q20, q47, q62, by rw [hmt]; exact q85⟩), hmt]; try rfl)); (focus (rw [fc_turn_eq n5 hi hp q6 he, if_pos (show (fc_get s (100 + e) 0 1 ≠ -1 ∧ fc_get s (100 + e) 0 2 ≠ am_b b ∧ (s (40 + i)).length < 20 ∧ (s (40 + fc_mate s e / 4)).length < 20) from ⟨hu2i.mp q20, q47, q62, by rw [hmt]; exact q85⟩), hmt]; (rw [ee]; exact H6))))
        · refine gm_aload_n d_M_turn_65 rfl (by first | exact am_rvR _ | exact am_rvN | assumption) ?_
          refine fr_gA 25 d_M_turn_66 f_M_71 (by decide) (by decide) ?_
          refine gm_iconst (v := nI 2) d_M_turn_69 (by decide) ?_
          refine gm_aload_n d_M_turn_70 rfl (by first | exact am_rvR _ | exact am_rvN | assumption) ?_
          refine fr_gA 5 d_M_turn_71 f_M_13 (by decide) (by decide) ?_
          refine gm_iload d_M_turn_74 rfl ?_
          refine fr_aldv d_M_turn_76 (by decide) rfl (show _ < 20 by omega) (by first | assumption | (simp only [fr_up_at, fr_up_s, fr_sc_at, fr_sc_a, Nat.reduceEqDiff, false_and, if_false, ite_false, reduceCtorEq]; first | assumption | rfl) | rfl) ?_
          refine gm_iconst (v := nI 4) d_M_turn_77 (by decide) ?_
          first | refine gm_idivN d_M_turn_78 (by omega) (by omega) (by omega) ?_ | refine gm_idiv d_M_turn_78 (by decide) ?_
          first | refine gm_imulN d_M_turn_79 ?_ | refine gm_imul d_M_turn_79 ?_
          refine gm_iconst (v := nI 1) d_M_turn_80 (by decide) ?_
          first | refine gm_iaddN d_M_turn_81 ?_ | refine gm_iadd d_M_turn_81 ?_
          refine fr_aldv d_M_turn_82 (by decide) rfl (show _ < 10 by omega) (by first | assumption | (simp only [fr_up_at, fr_up_s, fr_sc_at, fr_sc_a, Nat.reduceEqDiff, false_and, if_false, ite_false, reduceCtorEq]; first | assumption | rfl) | rfl) ?_
          refine gm_bipush (v := nI 20) d_M_turn_83 (by decide) ?_
          first | refine gm_icmp_ltN (tgt := 90) d_M_turn_85 (by decide) (by omega) (by omega) (fun q85 => ?_) (fun q85 => ?_) | refine gm_icmp_lt (tgt := 90) d_M_turn_85 (by decide) (fun q85 => ?_) (fun q85 => ?_)
          · refine gm_aload_n d_M_turn_90 rfl (by first | exact am_rvR _ | exact am_rvN | assumption) ?_
            refine fr_gA 6 d_M_turn_91 f_M_16 (by decide) (by decide) ?_
            refine gm_iload d_M_turn_94 rfl ?_
            refine gm_iload_n d_M_turn_96 rfl ?_
            refine fr_zst d_M_turn_97 (by decide) rfl (show _ < 20 by omega) (by first | rfl | exact am_b_nar _) ?_
            refine gm_aload_n d_M_turn_98 rfl (by first | exact am_rvR _ | exact am_rvN | assumption) ?_
            refine fr_gA 6 d_M_turn_99 f_M_16 (by decide) (by decide) ?_
            refine gm_aload_n d_M_turn_102 rfl (by first | exact am_rvR _ | exact am_rvN | assumption) ?_
            refine fr_gA 5 d_M_turn_103 f_M_13 (by decide) (by decide) ?_
            refine gm_iload d_M_turn_106 rfl ?_
            refine fr_aldv d_M_turn_108 (by decide) rfl (show _ < 20 by omega) (by first | assumption | (simp only [fr_up_at, fr_up_s, fr_sc_at, fr_sc_a, Nat.reduceEqDiff, false_and, if_false, ite_false, reduceCtorEq]; first | assumption | rfl) | rfl) ?_
            refine gm_iload_n d_M_turn_109 rfl ?_
            refine fr_zst d_M_turn_110 (by decide) rfl (show _ < 20 by omega) (by first | rfl | exact am_b_nar _) ?_
            have H2 := (H.pup D he4 (am_b b)).pup (D.up he4 (by cases b; exact Or.inl rfl; exact Or.inr rfl)) hm (am_b b)
            refine gm_iload_n d_M_turn_111 rfl ?_
            first | refine gm_if_neB (tgt := 172) d_M_turn_112 (by decide) (fun q112 => ?_) (fun q112 => ?_) | refine gm_if_neN (tgt := 172) d_M_turn_112 (by decide) (by omega) (fun q112 => ?_) (fun q112 => ?_) | refine gm_if_ne (tgt := 172) d_M_turn_112 (by decide) (fun q112 => ?_) (fun q112 => ?_)
            · refine gm_iconst (v := nI 1) d_M_turn_172 (by decide) ?_
              refine gm_iret d_M_turn_173 rfl (by first | rfl | exact am_b_nar _) ?_
              first | (refine ⟨?_, ?_⟩; (focus (rw [fc_turn_eq n5 hi hp q6 he, if_neg (show ¬ (fc_get s (100 + e) 0 1 ≠ -1 ∧ fc_get s (100 + e) 0 2 ≠ am_b b ∧ (s (40 + i)).length < 20 ∧ (s (40 + fc_mate s e / 4)).length < 20) from fun z => z.2.1 q47)]; try rfl)); (focus (rw [fc_turn_eq n5 hi hp q6 he, if_neg (show ¬ (fc_get s (100 + e) 0 1 ≠ -1 ∧ fc_get s (100 + e) 0 2 ≠ am_b b ∧ (s (40 + i)).length < 20 ∧ (s (40 + fc_mate s e / 4)).length < 20) from fun z => z.2.1 q47)]; exact H))) | (refine ⟨?_, ?_⟩; (focus (rw [fc_turn_eq n5 hi hp q6 he, if_neg (show ¬ (fc_get s (100 + e) 0 1 ≠ -1 ∧ fc_get s (100 + e) 0 2 ≠ am_b b ∧ (s (40 + i)).length < 20 ∧ (s (40 + fc_mate s e / 4)).length < 20) from fun z => Nat.not_lt.mpr q62 z.2.2.1)]; try rfl)); (focus (rw [fc_turn_eq n5 hi hp q6 he, if_neg (show ¬ (fc_get s (100 + e) 0 1 ≠ -1 ∧ fc_get s (100 + e) 0 2 ≠ am_b b ∧ (s (40 + i)).length < 20 ∧ (s (40 + fc_mate s e / 4)).length < 20) from fun z => Nat.not_lt.mpr q62 z.2.2.1)]; exact H))) | (refine ⟨?_, ?_⟩; (focus (rw [fc_turn_eq n5 hi hp q6 he, if_neg (show ¬ (fc_get s (100 + e) 0 1 ≠ -1 ∧ fc_get s (100 + e) 0 2 ≠ am_b b ∧ (s (40 + i)).length < 20 ∧ (s (40 + fc_mate s e / 4)).length < 20) from fun z => Nat.not_lt.mpr q85 (by rw [← hmt]; exact z.2.2.2))]; try rfl)); (focus (rw [fc_turn_eq n5 hi hp q6 he, if_neg (show ¬ (fc_get s (100 + e) 0 1 ≠ -1 ∧ fc_get s (100 + e) 0 2 ≠ am_b b ∧ (s (40 + i)).length < 20 ∧ (s (40 + fc_mate s e / 4)).length < 20) from fun z => Nat.not_lt.mpr q85 (by rw [← hmt]; exact z.2.2.2))]; exact H))) | (refine ⟨?_, ?_⟩; (focus (rw [fc_turn_eq n5 hi hp q6 he, if_pos (show (fc_get s (100 + e) 0 1 ≠ -1 ∧ fc_get s (100 + e) 0 2 ≠ am_b b ∧ (s (40 + i)).length < 20 ∧ (s (40 + fc_mate s e / 4)).length < 20) from ⟨hu2i.mp q20, q47, q62, by rw [hmt]; exact q85⟩), hmt]; try rfl)); (focus (rw [fc_turn_eq n5 hi hp q6 he, if_pos (show (fc_get s (100 + e) 0 1 ≠ -1 ∧ fc_get s (100 + e) 0 2 ≠ am_b b ∧ (s (40 + i)).length < 20 ∧ (s (40 + fc_mate s e / 4)).length < 20) from ⟨hu2i.mp q20, q47, q62, by rw [hmt]; exact q85⟩), hmt]; (rw [fc_tp1 (show ¬ am_b b = 0 from am_b1 q112)]; exact H2)))) | (refine ⟨?_, ?_⟩; (focus (rw [fc_turn_eq n5 hi hp q6 he, if_pos (show (fc_get s (100 + e) 0 1 ≠ -1 ∧ fc_get s (100 + e) 0 2 ≠ am_b b ∧ (s (40 + i)).length < 20 ∧ (s (40 + fc_mate s e / 4)).length < 20) from ⟨hu2i.mp q20, q47, q62, by rw [hmt]; exact q85⟩), hmt]; try rfl)); (focus (rw [fc_turn_eq n5 hi hp q6 he, if_pos (show (fc_get s (100 + e) 0 1 ≠ -1 ∧ fc_get s (100 + e) 0 2 ≠ am_b b ∧ (s (40 + i)).length < 20 ∧ (s (40 + fc_mate s e / 4)).length < 20) from ⟨hu2i.mp q20, q47, q62, by rw [hmt]; exact q85⟩), hmt]; (rw [ee]; exact H6))))
            · have hb0 : am_b b = 0 := by rw [q112]; rfl
              have H4 := (H2.wclr n5 he4).wclr n5 hm
              have row40 : ∀ c, 30 ≤ c → c < 45 → fc_up (fc_up (fc_put (fc_put s (100 + e) 0 2 (am_b b)) (100 + mt) 0 2 (am_b b)) (200 + e) []) (200 + mt) [] c = s c := fun c h1 h2 => by rw [fc_up_ne _ (by omega), fc_up_ne _ (by omega), fc_put_ne _ _ _ (by omega), fc_put_ne _ _ _ (by omega)]
              have L4 : ∀ l, l < 2 * ns → (fc_up (fc_up (fc_put (fc_put s (100 + e) 0 2 (am_b b)) (100 + mt) 0 2 (am_b b)) (200 + e) []) (200 + mt) [] (fr_lc l)).length ≤ 60 := fun l hl => by rw [row40 _ (by unfold fr_lc; split <;> omega) (by unfold fr_lc; split <;> omega)]; exact D.l60 l hl
              refine gm_aload_n d_M_turn_115 rfl (by first | exact am_rvR _ | exact am_rvN | assumption) ?_
              refine fr_gA 12 d_M_turn_116 f_M_32 (by decide) (by decide) ?_
              refine gm_iload d_M_turn_119 rfl ?_
              refine gm_iconst (v := nI 0) d_M_turn_121 (by decide) ?_
              refine fr_ast d_M_turn_122 (by decide) rfl (show _ < 20 by omega) ?_
              refine gm_aload_n d_M_turn_123 rfl (by first | exact am_rvR _ | exact am_rvN | assumption) ?_
              refine fr_gA 12 d_M_turn_124 f_M_32 (by decide) (by decide) ?_
              refine gm_aload_n d_M_turn_127 rfl (by first | exact am_rvR _ | exact am_rvN | assumption) ?_
              refine fr_gA 5 d_M_turn_128 f_M_13 (by decide) (by decide) ?_
              refine gm_iload d_M_turn_131 rfl ?_
              refine fr_aldv d_M_turn_133 (by decide) rfl (show _ < 20 by omega) (by first | assumption | (simp only [fr_up_at, fr_up_s, fr_sc_at, fr_sc_a, Nat.reduceEqDiff, false_and, if_false, ite_false, reduceCtorEq]; first | assumption | rfl) | rfl) ?_
              refine gm_iconst (v := nI 0) d_M_turn_134 (by decide) ?_
              refine fr_ast d_M_turn_135 (by decide) rfl (show _ < 20 by omega) ?_
              refine gm_aload_n d_M_turn_136 rfl (by first | exact am_rvR _ | exact am_rvN | assumption) ?_
              refine gm_iload_n d_M_turn_137 rfl ?_
              refine gm_iconst (v := nI 5) d_M_turn_138 (by decide) ?_
              refine gm_iload_n d_M_turn_139 rfl ?_
              refine gm_iconst (v := nI 0) d_M_turn_140 (by decide) ?_
              refine gm_iconst (v := nI 0) d_M_turn_141 (by decide) ?_
              refine gm_iconst (v := nI 0) d_M_turn_142 (by decide) ?_
              refine gm_cV (b := A 44) d_M_turn_143 v_M_148 (vs := [.int (nI i), .int (nI 5), (.int (nI p')), .int (nI 0), .int (nI 0), .int (nI 0)]) (st := []) rfl rfl (by decide) (Nat.le_of_ble_eq_true rfl) (fr_at _) (rf_tellR (row := [5, nI p', -1, -1, 0]) H4 n5 L4 hi (by rw [row40 _ (by omega) (by omega)]; exact l1) (by omega) rfl) ?_
              rintro v r1 ⟨rfl, H5⟩
              rw [if_pos (Or.inl ⟨by decide, by decide⟩)] at H5
              have g5 : ∀ j, j < 2 → fc_get (fc_add (fc_up (fc_up (fc_put (fc_put s (100 + e) 0 2 (am_b b)) (100 + mt) 0 2 (am_b b)) (200 + e) []) (200 + mt) []) (40 + i) [5, nI p', -1, -1, 0]) (100 + e) 0 j = fc_get s (100 + e) 0 j := fun j hj => by
                rw [← fc_put2_get D he4 hm (am_b b) hj he4]
                unfold fc_get
                rw [fc_add_ne _ (by omega), fc_up_ne _ (by omega), fc_up_ne _ (by omega)]
              have h5' : r1.2 5 e = nI mt := H5.mate he4 (by rw [g5 0 (by omega)]; exact h00) (by rw [g5 1 (by omega)]; exact hgm) (by omega)
              have L5 : ∀ l, l < 2 * ns → (fc_add (fc_up (fc_up (fc_put (fc_put s (100 + e) 0 2 (am_b b)) (100 + mt) 0 2 (am_b b)) (200 + e) []) (200 + mt) []) (40 + i) [5, nI p', -1, -1, 0] (fr_lc l)).length ≤ 60 := fun l hl => by
                by_cases q : fr_lc l = 40 + i
                · rw [q, fc_add_same, List.length_append, List.length_singleton, row40 _ (by omega) (by omega)]; omega
                · rw [fc_add_ne _ q]; exact L4 l hl
              have l5 : (fc_add (fc_up (fc_up (fc_put (fc_put s (100 + e) 0 2 (am_b b)) (100 + mt) 0 2 (am_b b)) (200 + e) []) (200 + mt) []) (40 + i) [5, nI p', -1, -1, 0] (40 + mt / 4)).length < 60 := by
                by_cases q : mt / 4 = i
                · rw [q, fc_add_same, List.length_append, List.length_singleton, row40 _ (by omega) (by omega)]; omega
                · rw [fc_add_ne _ (by omega), row40 _ (by omega) (by omega)]; exact l2
              refine gm_aload_n d_M_turn_146 rfl (by first | exact am_rvR _ | exact am_rvN | assumption) ?_
              refine gm_aload_n d_M_turn_147 rfl (by first | exact am_rvR _ | exact am_rvN | assumption) ?_
              refine fr_gA 5 d_M_turn_148 f_M_13 (by decide) (by decide) ?_
              refine gm_iload d_M_turn_151 rfl ?_
              refine fr_aldv d_M_turn_153 (by decide) rfl (show _ < 20 by omega) (by first | assumption | (simp only [fr_up_at, fr_up_s, fr_sc_at, fr_sc_a, Nat.reduceEqDiff, false_and, if_false, ite_false, reduceCtorEq]; first | assumption | rfl) | rfl) ?_
              refine gm_iconst (v := nI 4) d_M_turn_154 (by decide) ?_
              first | refine gm_idivN d_M_turn_155 (by omega) (by omega) (by omega) ?_ | refine gm_idiv d_M_turn_155 (by decide) ?_
              refine gm_iconst (v := nI 5) d_M_turn_156 (by decide) ?_
              refine gm_aload_n d_M_turn_157 rfl (by first | exact am_rvR _ | exact am_rvN | assumption) ?_
              refine fr_gA 5 d_M_turn_158 f_M_13 (by decide) (by decide) ?_
              refine gm_iload d_M_turn_161 rfl ?_
              refine fr_aldv d_M_turn_163 (by decide) rfl (show _ < 20 by omega) (by first | assumption | (simp only [fr_up_at, fr_up_s, fr_sc_at, fr_sc_a, Nat.reduceEqDiff, false_and, if_false, ite_false, reduceCtorEq]; first | assumption | rfl) | rfl) ?_
              refine gm_iconst (v := nI 4) d_M_turn_164 (by decide) ?_
              first | refine gm_iremN d_M_turn_165 (by omega) (by omega) (by omega) ?_ | refine gm_irem d_M_turn_165 (by decide) ?_
              refine gm_iconst (v := nI 0) d_M_turn_166 (by decide) ?_
              refine gm_iconst (v := nI 0) d_M_turn_167 (by decide) ?_
              refine gm_iconst (v := nI 0) d_M_turn_168 (by decide) ?_
              refine gm_cV (b := A 44) d_M_turn_169 v_M_148 (vs := [.int (nI (mt / 4)), .int (nI 5), .int (nI (mt % 4)), .int (nI 0), .int (nI 0), .int (nI 0)]) (st := []) rfl rfl (by decide) (Nat.le_of_ble_eq_true rfl) (fr_at _) (rf_tellR (row := [5, nI (mt % 4), -1, -1, 0]) H5 n5 L5 (show mt / 4 < ns by omega) l5 (by omega) rfl) ?_
              rintro v r2 ⟨rfl, H6⟩
              rw [if_pos (Or.inl ⟨by decide, by decide⟩)] at H6
              have ee := fc_tp2 (s := s) hb0 (show e < 20 by omega) (show mt < 20 by omega)
              rw [show e / 4 = i by omega, show e % 4 = p' by omega] at ee
              refine gm_iconst (v := nI 1) d_M_turn_172 (by decide) ?_
              refine gm_iret d_M_turn_173 rfl (by first | rfl | exact am_b_nar _) ?_
              first | (refine ⟨?_, ?_⟩; (focus (rw [fc_turn_eq n5 hi hp q6 he, if_neg (show ¬ (fc_get s (100 + e) 0 1 ≠ -1 ∧ fc_get s (100 + e) 0 2 ≠ am_b b ∧ (s (40 + i)).length < 20 ∧ (s (40 + fc_mate s e / 4)).length < 20) from fun z => z.2.1 q47)]; try rfl)); (focus (rw [fc_turn_eq n5 hi hp q6 he, if_neg (show ¬ (fc_get s (100 + e) 0 1 ≠ -1 ∧ fc_get s (100 + e) 0 2 ≠ am_b b ∧ (s (40 + i)).length < 20 ∧ (s (40 + fc_mate s e / 4)).length < 20) from fun z => z.2.1 q47)]; exact H))) | (refine ⟨?_, ?_⟩; (focus (rw [fc_turn_eq n5 hi hp q6 he, if_neg (show ¬ (fc_get s (100 + e) 0 1 ≠ -1 ∧ fc_get s (100 + e) 0 2 ≠ am_b b ∧ (s (40 + i)).length < 20 ∧ (s (40 + fc_mate s e / 4)).length < 20) from fun z => Nat.not_lt.mpr q62 z.2.2.1)]; try rfl)); (focus (rw [fc_turn_eq n5 hi hp q6 he, if_neg (show ¬ (fc_get s (100 + e) 0 1 ≠ -1 ∧ fc_get s (100 + e) 0 2 ≠ am_b b ∧ (s (40 + i)).length < 20 ∧ (s (40 + fc_mate s e / 4)).length < 20) from fun z => Nat.not_lt.mpr q62 z.2.2.1)]; exact H))) | (refine ⟨?_, ?_⟩; (focus (rw [fc_turn_eq n5 hi hp q6 he, if_neg (show ¬ (fc_get s (100 + e) 0 1 ≠ -1 ∧ fc_get s (100 + e) 0 2 ≠ am_b b ∧ (s (40 + i)).length < 20 ∧ (s (40 + fc_mate s e / 4)).length < 20) from fun z => Nat.not_lt.mpr q85 (by rw [← hmt]; exact z.2.2.2))]; try rfl)); (focus (rw [fc_turn_eq n5 hi hp q6 he, if_neg (show ¬ (fc_get s (100 + e) 0 1 ≠ -1 ∧ fc_get s (100 + e) 0 2 ≠ am_b b ∧ (s (40 + i)).length < 20 ∧ (s (40 + fc_mate s e / 4)).length < 20) from fun z => Nat.not_lt.mpr q85 (by rw [← hmt]; exact z.2.2.2))]; exact H))) | (refine ⟨?_, ?_⟩; (focus (rw [fc_turn_eq n5 hi hp q6 he, if_pos (show (fc_get s (100 + e) 0 1 ≠ -1 ∧ fc_get s (100 + e) 0 2 ≠ am_b b ∧ (s (40 + i)).length < 20 ∧ (s (40 + fc_mate s e / 4)).length < 20) from ⟨hu2i.mp q20, q47, q62, by rw [hmt]; exact q85⟩), hmt]; try rfl)); (focus (rw [fc_turn_eq n5 hi hp q6 he, if_pos (show (fc_get s (100 + e) 0 1 ≠ -1 ∧ fc_get s (100 + e) 0 2 ≠ am_b b ∧ (s (40 + i)).length < 20 ∧ (s (40 + fc_mate s e / 4)).length < 20) from ⟨hu2i.mp q20, q47, q62, by rw [hmt]; exact q85⟩), hmt]; (rw [fc_tp1 (show ¬ am_b b = 0 from am_b1 q112)]; exact H2)))) | (refine ⟨?_, ?_⟩; (focus (rw [fc_turn_eq n5 hi hp q6 he, if_pos (show (fc_get s (100 + e) 0 1 ≠ -1 ∧ fc_get s (100 + e) 0 2 ≠ am_b b ∧ (s (40 + i)).length < 20 ∧ (s (40 + fc_mate s e / 4)).length < 20) from ⟨hu2i.mp q20, q47, q62, by rw [hmt]; exact q85⟩), hmt]; try rfl)); (focus (rw [fc_turn_eq n5 hi hp q6 he, if_pos (show (fc_get s (100 + e) 0 1 ≠ -1 ∧ fc_get s (100 + e) 0 2 ≠ am_b b ∧ (s (40 + i)).length < 20 ∧ (s (40 + fc_mate s e / 4)).length < 20) from ⟨hu2i.mp q20, q47, q62, by rw [hmt]; exact q85⟩), hmt]; (rw [ee]; exact H6))))
          · refine gm_iconst (v := nI 0) d_M_turn_88 (by decide) ?_
            refine gm_iret d_M_turn_89 rfl (by first | rfl | exact am_b_nar _) ?_
            first | (refine ⟨?_, ?_⟩; (focus (rw [fc_turn_eq n5 hi hp q6 he, if_neg (show ¬ (fc_get s (100 + e) 0 1 ≠ -1 ∧ fc_get s (100 + e) 0 2 ≠ am_b b ∧ (s (40 + i)).length < 20 ∧ (s (40 + fc_mate s e / 4)).length < 20) from fun z => z.2.1 q47)]; try rfl)); (focus (rw [fc_turn_eq n5 hi hp q6 he, if_neg (show ¬ (fc_get s (100 + e) 0 1 ≠ -1 ∧ fc_get s (100 + e) 0 2 ≠ am_b b ∧ (s (40 + i)).length < 20 ∧ (s (40 + fc_mate s e / 4)).length < 20) from fun z => z.2.1 q47)]; exact H))) | (refine ⟨?_, ?_⟩; (focus (rw [fc_turn_eq n5 hi hp q6 he, if_neg (show ¬ (fc_get s (100 + e) 0 1 ≠ -1 ∧ fc_get s (100 + e) 0 2 ≠ am_b b ∧ (s (40 + i)).length < 20 ∧ (s (40 + fc_mate s e / 4)).length < 20) from fun z => Nat.not_lt.mpr q62 z.2.2.1)]; try rfl)); (focus (rw [fc_turn_eq n5 hi hp q6 he, if_neg (show ¬ (fc_get s (100 + e) 0 1 ≠ -1 ∧ fc_get s (100 + e) 0 2 ≠ am_b b ∧ (s (40 + i)).length < 20 ∧ (s (40 + fc_mate s e / 4)).length < 20) from fun z => Nat.not_lt.mpr q62 z.2.2.1)]; exact H))) | (refine ⟨?_, ?_⟩; (focus (rw [fc_turn_eq n5 hi hp q6 he, if_neg (show ¬ (fc_get s (100 + e) 0 1 ≠ -1 ∧ fc_get s (100 + e) 0 2 ≠ am_b b ∧ (s (40 + i)).length < 20 ∧ (s (40 + fc_mate s e / 4)).length < 20) from fun z => Nat.not_lt.mpr q85 (by rw [← hmt]; exact z.2.2.2))]; try rfl)); (focus (rw [fc_turn_eq n5 hi hp q6 he, if_neg (show ¬ (fc_get s (100 + e) 0 1 ≠ -1 ∧ fc_get s (100 + e) 0 2 ≠ am_b b ∧ (s (40 + i)).length < 20 ∧ (s (40 + fc_mate s e / 4)).length < 20) from fun z => Nat.not_lt.mpr q85 (by rw [← hmt]; exact z.2.2.2))]; exact H))) | (refine ⟨?_, ?_⟩; (focus (rw [fc_turn_eq n5 hi hp q6 he, if_pos (show (fc_get s (100 + e) 0 1 ≠ -1 ∧ fc_get s (100 + e) 0 2 ≠ am_b b ∧ (s (40 + i)).length < 20 ∧ (s (40 + fc_mate s e / 4)).length < 20) from ⟨hu2i.mp q20, q47, q62, by rw [hmt]; exact q85⟩), hmt]; try rfl)); (focus (rw [fc_turn_eq n5 hi hp q6 he, if_pos (show (fc_get s (100 + e) 0 1 ≠ -1 ∧ fc_get s (100 + e) 0 2 ≠ am_b b ∧ (s (40 + i)).length < 20 ∧ (s (40 + fc_mate s e / 4)).length < 20) from ⟨hu2i.mp q20, q47, q62, by rw [hmt]; exact q85⟩), hmt]; (rw [fc_tp1 (show ¬ am_b b = 0 from am_b1 q112)]; exact H2)))) | (refine ⟨?_, ?_⟩; (focus (rw [fc_turn_eq n5 hi hp q6 he, if_pos (show (fc_get s (100 + e) 0 1 ≠ -1 ∧ fc_get s (100 + e) 0 2 ≠ am_b b ∧ (s (40 + i)).length < 20 ∧ (s (40 + fc_mate s e / 4)).length < 20) from ⟨hu2i.mp q20, q47, q62, by rw [hmt]; exact q85⟩), hmt]; try rfl)); (focus (rw [fc_turn_eq n5 hi hp q6 he, if_pos (show (fc_get s (100 + e) 0 1 ≠ -1 ∧ fc_get s (100 + e) 0 2 ≠ am_b b ∧ (s (40 + i)).length < 20 ∧ (s (40 + fc_mate s e / 4)).length < 20) from ⟨hu2i.mp q20, q47, q62, by rw [hmt]; exact q85⟩), hmt]; (rw [ee]; exact H6))))
theorem rf_probe (H : fr_rel ns room idle s r) (J : fz_J own W ns room s) (U : fc_iU ns s) : gm_M (fr_P A) fr_X g y_M_probe "()Z" 2 53 [.ref (A 44)] (fun v r' => v = some (.int (am_b (fc_probe ns s).1)) ∧ fr_rel ns room idle (fc_probe ns s).2 r') r := by
  have D := J.1
  have n5 := D.1.2.1
  have h0 : r.1 0 = nI ns := H.1.1
  have key2 : (∀ k, k < ns → (s (30 + k)).length < 16) → ∀ (m k : Nat) (r1 : fr_S), k + m = ns → fr_rel ns room idle (fc_all k s [5, -1, -1, -1, 0]) r1 → gm_W (fr_P A) fr_X g y_M_probe 2 53 (fun v r' => v = some (.int (am_b (fc_probe ns s).1)) ∧ fr_rel ns room idle (fc_probe ns s).2 r') 33 [some (.ref (A 44)), some (.int (nI k))] [] r1 := by
    intro hall m
    induction m with
    | zero =>
      intro k r1 hk H1
      have e1 : k = ns := by omega
      subst e1
      have h01 : r1.1 0 = nI k := H1.1.1
      refine gm_iload_n d_M_probe_33 rfl ?_
      refine gm_aload_n d_M_probe_34 rfl (by first | exact am_rvR _ | exact am_rvN | assumption) ?_
      refine fr_gSv 0 d_M_probe_35 f_M_123 (by decide) rfl (by first | assumption | (simp only [fr_up_at, fr_up_s, fr_sc_at, fr_sc_a, Nat.reduceEqDiff, false_and, if_false, ite_false, reduceCtorEq]; first | assumption | rfl) | rfl) ?_
      refine gm_icmp_geN (tgt := 57) d_M_probe_38 (by decide) (by omega) (by omega) (fun _ => ?_) (fun q => absurd q (by omega))
      refine gm_iconst (v := nI 1) d_M_probe_57 (by decide) ?_
      refine gm_iret d_M_probe_58 rfl (by first | rfl | exact am_b_nar _) ?_
      first | (refine ⟨?_, ?_⟩; (focus (rw [fc_probe_yes hall]; try rfl)); (focus (rw [fc_probe_yes hall]; exact H1)))
    | succ m ih =>
      intro k r1 hk H1
      have h01 : r1.1 0 = nI ns := H1.1.1
      have Jk := J.all hall k (by omega)
      have ek : fc_all k s [5, -1, -1, -1, 0] (30 + k) = s (30 + k) := by rw [fc_all_at, if_neg (by omega)]
      have hk16 := hall k (by omega)
      refine gm_iload_n d_M_probe_33 rfl ?_
      refine gm_aload_n d_M_probe_34 rfl (by first | exact am_rvR _ | exact am_rvN | assumption) ?_
      refine fr_gSv 0 d_M_probe_35 f_M_123 (by decide) rfl (by first | assumption | (simp only [fr_up_at, fr_up_s, fr_sc_at, fr_sc_a, Nat.reduceEqDiff, false_and, if_false, ite_false, reduceCtorEq]; first | assumption | rfl) | rfl) ?_
      refine gm_icmp_geN (tgt := 57) d_M_probe_38 (by decide) (by omega) (by omega) (fun q => absurd q (by omega)) (fun _ => ?_)
      refine gm_aload_n d_M_probe_41 rfl (by first | exact am_rvR _ | exact am_rvN | assumption) ?_
      refine gm_iload_n d_M_probe_42 rfl ?_
      refine gm_iconst (v := nI 5) d_M_probe_43 (by decide) ?_
      refine gm_iconst (v := nI 0) d_M_probe_44 (by decide) ?_
      refine gm_iconst (v := nI 0) d_M_probe_45 (by decide) ?_
      refine gm_iconst (v := nI 0) d_M_probe_46 (by decide) ?_
      refine gm_iconst (v := nI 0) d_M_probe_47 (by decide) ?_
      refine gm_cV (b := A 44) d_M_probe_48 v_M_194 (vs := [.int (nI k), .int (nI 5), .int (nI 0), .int (nI 0), .int (nI 0), .int (nI 0)]) (st := []) rfl rfl (by decide) (Nat.le_of_ble_eq_true rfl) (fr_at _) (rf_orderR (row := [5, -1, -1, -1, 0]) H1 n5 Jk.1.l60 (show k < ns by omega) (by rw [ek]; omega) (by omega) rfl) ?_
      rintro v r2 ⟨rfl, H2⟩
      rw [if_pos (Or.inl (by decide)), ← fc_all_s] at H2
      first | refine gm_iincN (b := 1) (L1 := [_, _]) d_M_probe_51 rfl (by decide) (by decide) rfl ?_ | refine gm_iinc (L1 := [_, _]) d_M_probe_51 rfl rfl (by decide) rfl ?_
      refine gm_goto (tgt := 33) d_M_probe_54 (by decide) ?_
      exact ih (k + 1) _ (by omega) H2
  have key1 : ∀ (m k : Nat), k + m = ns → (∀ j, j < k → (s (30 + j)).length < 16) → gm_W (fr_P A) fr_X g y_M_probe 2 53 (fun v r' => v = some (.int (am_b (fc_probe ns s).1)) ∧ fr_rel ns room idle (fc_probe ns s).2 r') 2 [some (.ref (A 44)), some (.int (nI k))] [] r := by
    intro m
    induction m with
    | zero =>
      intro k hk hj
      refine gm_iload_n d_M_probe_2 rfl ?_
      refine gm_aload_n d_M_probe_3 rfl (by first | exact am_rvR _ | exact am_rvN | assumption) ?_
      refine fr_gSv 0 d_M_probe_4 f_M_123 (by decide) rfl (by first | assumption | (simp only [fr_up_at, fr_up_s, fr_sc_at, fr_sc_a, Nat.reduceEqDiff, false_and, if_false, ite_false, reduceCtorEq]; first | assumption | rfl) | rfl) ?_
      refine gm_icmp_geN (tgt := 31) d_M_probe_7 (by decide) (by omega) (by omega) (fun _ => ?_) (fun q => absurd q (by omega))
      refine gm_iconst (v := nI 0) d_M_probe_31 (by decide) ?_
      refine gm_istore_n (L1 := [_, _]) d_M_probe_32 (by decide) rfl ?_
      exact key2 (fun j h => hj j (by omega)) ns 0 r (by omega) (by rw [fc_all_0]; exact H)
    | succ m ih =>
      intro k hk hj
      have h25 : r.2 25 (2 * k) = nI (s (30 + k)).length := H.no (show k < ns by omega)
      have l59 := D.o59 (show k < ns by omega)
      refine gm_iload_n d_M_probe_2 rfl ?_
      refine gm_aload_n d_M_probe_3 rfl (by first | exact am_rvR _ | exact am_rvN | assumption) ?_
      refine fr_gSv 0 d_M_probe_4 f_M_123 (by decide) rfl (by first | assumption | (simp only [fr_up_at, fr_up_s, fr_sc_at, fr_sc_a, Nat.reduceEqDiff, false_and, if_false, ite_false, reduceCtorEq]; first | assumption | rfl) | rfl) ?_
      refine gm_icmp_geN (tgt := 31) d_M_probe_7 (by decide) (by omega) (by omega) (fun q => absurd q (by omega)) (fun _ => ?_)
      refine gm_aload_n d_M_probe_10 rfl (by first | exact am_rvR _ | exact am_rvN | assumption) ?_
      refine fr_gA 25 d_M_probe_11 f_M_71 (by decide) (by decide) ?_
      refine gm_iconst (v := nI 2) d_M_probe_14 (by decide) ?_
      refine gm_iload_n d_M_probe_15 rfl ?_
      first | refine gm_imulN d_M_probe_16 ?_ | refine gm_imul d_M_probe_16 ?_
      refine fr_aldv d_M_probe_17 (by decide) rfl (show _ < 10 by omega) (by first | assumption | (simp only [fr_up_at, fr_up_s, fr_sc_at, fr_sc_a, Nat.reduceEqDiff, false_and, if_false, ite_false, reduceCtorEq]; first | assumption | rfl) | rfl) ?_
      refine gm_bipush (v := nI 16) d_M_probe_18 (by decide) ?_
      first | refine gm_icmp_ltN (tgt := 25) d_M_probe_20 (by decide) (by omega) (by omega) (fun q20 => ?_) (fun q20 => ?_) | refine gm_icmp_lt (tgt := 25) d_M_probe_20 (by decide) (fun q20 => ?_) (fun q20 => ?_)
      · first | refine gm_iincN (b := 1) (L1 := [_, _]) d_M_probe_25 rfl (by decide) (by decide) rfl ?_ | refine gm_iinc (L1 := [_, _]) d_M_probe_25 rfl rfl (by decide) rfl ?_
        refine gm_goto (tgt := 2) d_M_probe_28 (by decide) ?_
        exact ih (k + 1) (by omega) (fun j h => by
          by_cases e : j = k
          · subst e; exact q20
          · exact hj j (by omega))
      · refine gm_iconst (v := nI 0) d_M_probe_23 (by decide) ?_
        refine gm_iret d_M_probe_24 rfl (by first | rfl | exact am_b_nar _) ?_
        first | (refine ⟨?_, ?_⟩; (focus (rw [fc_probe_no (show k < ns by omega) q20]; try rfl)); (focus (rw [fc_probe_no (show k < ns by omega) q20]; exact H)))
  refine gm_Mof (L0 := [some (.ref (A 44)), none]) pl_M_probe (am_k1 rfl am_k0) (Nat.le_of_ble_eq_true rfl) rfl ?_
  refine gm_iconst (v := nI 0) d_M_probe_0 (by decide) ?_
  refine gm_istore_n (L1 := [_, _]) d_M_probe_1 (by decide) rfl ?_
  exact key1 ns 0 (by omega) (fun j h => absurd h (Nat.not_lt_zero _))
theorem rf_tick (H : fr_rel ns room idle s r) (J : fz_J own W ns room s) (U : fc_iU ns s) : gm_M (fr_P A) fr_X g y_M_tick "()I" 2 54 [.ref (A 44)] (fun v r' => v = some (.int ((fc_tick ns idle s).1)) ∧ fr_rel ns room idle (fc_tick ns idle s).2 r') r := by
  have D := J.1
  have n5 := D.1.2.1
  have h3 : r.1 3 = fc_get s 0 0 0 := H.1.2.2.2
  obtain ⟨s0, hs0⟩ : ∃ s0, s0 = fc_put s 0 0 0 (fc_get s 0 0 0 + nI 1) := ⟨_, rfl⟩
  have H0 : fr_rel ns room idle s0 (fr_sc r 3 (fc_get s 0 0 0 + nI 1)) := by rw [hs0]; exact H.tk D _
  have J0 : fz_J own W ns room s0 := by
    rw [hs0]
    exact J.same (J.1.now _) (fc_put_ne _ _ _ (by omega)) (fc_put_ne _ _ _ (by omega)) (fun j hj => ⟨fc_put_ne _ _ _ (by omega), fc_put_ne _ _ _ (by omega), fc_put_ne _ _ _ (by omega)⟩)
  have et : fc_tick ns idle s = (nI (fc_gone idle s0 ns), fc_drops idle s0 ns) := by rw [hs0]; rfl
  have gl := fc_gone_le (idle := idle) s0 J0.1.r8
  rw [et]
  have outer : ∀ (m i : Nat) (x3 : Option Value) (r1 : fr_S), i + m = ns → fr_rel ns room idle (fc_drops idle s0 i) r1 → gm_W (fr_P A) fr_X g y_M_tick 2 54 (fun v r' => v = some (.int (nI (fc_gone idle s0 ns), fc_drops idle s0 ns).1) ∧ fr_rel ns room idle (nI (fc_gone idle s0 ns), fc_drops idle s0 ns).2 r') 14 [some (.ref (A 44)), some (.int (nI (fc_gone idle s0 i))), some (.int (nI i)), x3] [] r1 := by
    intro m
    induction m with
    | zero =>
      intro i x3 r1 hi H1
      have e1 : i = ns := by omega
      subst e1
      have h01 : r1.1 0 = nI i := H1.1.1
      refine gm_iload_n d_M_tick_14 rfl ?_
      refine gm_aload_n d_M_tick_15 rfl (by first | exact am_rvR _ | exact am_rvN | assumption) ?_
      refine fr_gSv 0 d_M_tick_16 f_M_123 (by decide) rfl (by first | assumption | (simp only [fr_up_at, fr_up_s, fr_sc_at, fr_sc_a, Nat.reduceEqDiff, false_and, if_false, ite_false, reduceCtorEq]; first | assumption | rfl) | rfl) ?_
      refine gm_icmp_geN (tgt := 119) d_M_tick_19 (by decide) (by omega) (by omega) (fun _ => ?_) (fun q => absurd q (by omega))
      refine gm_iload_n d_M_tick_119 rfl ?_
      refine gm_iret d_M_tick_120 rfl rfl ?_
      exact ⟨rfl, H1⟩
    | succ m ih =>
      intro i x3 r1 him H1
      have hi : i < ns := by omega
      have h01 : r1.1 0 = nI ns := H1.1.1
      obtain ⟨T, hT⟩ : ∃ T, T = fc_drops idle s0 i := ⟨_, rfl⟩
      rw [← hT] at H1
      have JT : fz_J own W ns room T := by rw [hT]; exact J0.drops i (by omega)
      have eT : T (20 + i) = s0 (20 + i) := by rw [hT]; exact fc_drops_ne (fun j hj => ⟨by omega, by omega⟩)
      have enow : fc_now T = fc_now s0 := by rw [hT]; exact fc_drops_now i
      have t8 := JT.1.r8 i hi
      have hgl := gl i (by omega)
      have inner : ∀ (m2 j : Nat) (r2 : fr_S), j + m2 = (T (20 + i)).length → fr_rel ns room idle (fc_dj idle T i j) r2 → gm_W (fr_P A) fr_X g y_M_tick 2 54 (fun v r' => v = some (.int (nI (fc_gone idle s0 ns), fc_drops idle s0 ns).1) ∧ fr_rel ns room idle (nI (fc_gone idle s0 ns), fc_drops idle s0 ns).2 r') 27 [some (.ref (A 44)), some (.int (nI (fc_gone idle s0 i + (j - fc_kj idle T i j)))), some (.int (nI i)), some (.int (nI (8 * i + fc_kj idle T i j)))] [] r2 := by
        intro m2
        induction m2 with
        | zero =>
          intro j r2 hj H2
          have e1 : j = (T (20 + i)).length := by omega
          subst e1
          have h19 : r2.2 19 i = nI (fc_kj idle T i (T (20 + i)).length) := by
            rw [(H2.2.2.2.2.2.1 i hi).1, fc_dj_len (Nat.le_refl _), Nat.sub_self, Nat.add_zero]
          have kl := fc_kj_le idle T i (T (20 + i)).length
          have eg : fc_gone idle s0 (i + 1) = fc_gone idle s0 i + ((T (20 + i)).length - fc_kj idle T i (T (20 + i)).length) := by rw [fc_kj_n, fc_gone_s, eT, enow]
          rw [fc_dj_n] at H2
          refine gm_iload_n d_M_tick_27 rfl ?_
          refine gm_bipush (v := nI 8) d_M_tick_28 (by decide) ?_
          refine gm_iload_n d_M_tick_30 rfl ?_
          first | refine gm_imulN d_M_tick_31 ?_ | refine gm_imul d_M_tick_31 ?_
          refine gm_aload_n d_M_tick_32 rfl (by first | exact am_rvR _ | exact am_rvN | assumption) ?_
          refine fr_gA 19 d_M_tick_33 f_M_53 (by decide) (by decide) ?_
          refine gm_iload_n d_M_tick_36 rfl ?_
          refine fr_aldv d_M_tick_37 (by decide) rfl (show _ < 5 by omega) (by first | assumption | (simp only [fr_up_at, fr_up_s, fr_sc_at, fr_sc_a, Nat.reduceEqDiff, false_and, if_false, ite_false, reduceCtorEq]; first | assumption | rfl) | rfl) ?_
          first | refine gm_iaddN d_M_tick_38 ?_ | refine gm_iadd d_M_tick_38 ?_
          refine gm_icmp_geN (tgt := 113) d_M_tick_39 (by decide) (by omega) (by omega) (fun _ => ?_) (fun q => absurd q (by omega))
          first | refine gm_iincN (b := 1) (L1 := [_, _, _, _]) d_M_tick_113 rfl (by decide) (by decide) rfl ?_ | refine gm_iinc (L1 := [_, _, _, _]) d_M_tick_113 rfl rfl (by decide) rfl ?_
          refine gm_goto (tgt := 14) d_M_tick_116 (by decide) ?_
          have h9 := ih (i + 1) (some (.int (nI (8 * i + fc_kj idle T i (T (20 + i)).length)))) r2 (by omega) (show fr_rel ns room idle (fc_drops idle s0 (i + 1)) _ by rw [fc_drops_s, ← hT]; exact H2)
          rw [eg] at h9
          exact h9
        | succ m2 ih2 =>
          intro j r2 hj H2
          have hjl : j < (T (20 + i)).length := by omega
          obtain ⟨f, t, p, mm, l, u, hf, ht, hp, hr⟩ := JT.1.rr hi hjl
          have hr2 := fc_dj_at (idle := idle) hr
          have kl := fc_kj_le idle T i j
          have dl := fc_dj_len (idle := idle) (show j ≤ (T (20 + i)).length by omega)
          have h19 : r2.2 19 i = nI (fc_dj idle T i j (20 + i)).length := (H2.2.2.2.2.2.1 i hi).1
          have d8 := fc_dj_r8 (idle := idle) (j := j) (i := i) JT.1 i hi
          have hkl : fc_kj idle T i j < (fc_dj idle T i j (20 + i)).length := (List.getElem?_eq_some_iff.mp hr2).1
          obtain ⟨h20, -, -, h23, h24⟩ := (H2.2.2.2.2.2.1 i hi).2 _ _ hr2
          replace h20 : r2.2 20 (8 * i + fc_kj idle T i j) = nI (6 * f + t) := h20.trans (fr_pairE f t)
          replace h23 : r2.2 23 (8 * i + fc_kj idle T i j) = mm := h23
          replace h24 : r2.2 24 (8 * i + fc_kj idle T i j) = l := h24
          have h2i : r2.1 2 = nI idle := H2.1.2.2.1
          have h2n : r2.1 3 = fc_now T := by
            rw [H2.1.2.2.2]
            show fc_get _ 0 0 0 = fc_get T 0 0 0
            unfold fc_get
            rw [fc_dj_ne (by omega) (by omega)]
          obtain ⟨lL, l60⟩ := fc_dj_l60 (idle := idle) (j := j) JT hi
          refine gm_iload_n d_M_tick_27 rfl ?_
          refine gm_bipush (v := nI 8) d_M_tick_28 (by decide) ?_
          refine gm_iload_n d_M_tick_30 rfl ?_
          first | refine gm_imulN d_M_tick_31 ?_ | refine gm_imul d_M_tick_31 ?_
          refine gm_aload_n d_M_tick_32 rfl (by first | exact am_rvR _ | exact am_rvN | assumption) ?_
          refine fr_gA 19 d_M_tick_33 f_M_53 (by decide) (by decide) ?_
          refine gm_iload_n d_M_tick_36 rfl ?_
          refine fr_aldv d_M_tick_37 (by decide) rfl (show _ < 5 by omega) (by first | assumption | (simp only [fr_up_at, fr_up_s, fr_sc_at, fr_sc_a, Nat.reduceEqDiff, false_and, if_false, ite_false, reduceCtorEq]; first | assumption | rfl) | rfl) ?_
          first | refine gm_iaddN d_M_tick_38 ?_ | refine gm_iadd d_M_tick_38 ?_
          refine gm_icmp_geN (tgt := 113) d_M_tick_39 (by decide) (by omega) (by omega) (fun q => absurd q (by omega)) (fun _ => ?_)
          refine gm_aload_n d_M_tick_42 rfl (by first | exact am_rvR _ | exact am_rvN | assumption) ?_
          refine fr_gSv 3 d_M_tick_43 f_M_174 (by decide) rfl (by first | assumption | (simp only [fr_up_at, fr_up_s, fr_sc_at, fr_sc_a, Nat.reduceEqDiff, false_and, if_false, ite_false, reduceCtorEq]; first | assumption | rfl) | rfl) ?_
          refine gm_aload_n d_M_tick_46 rfl (by first | exact am_rvR _ | exact am_rvN | assumption) ?_
          refine fr_gA 24 d_M_tick_47 f_M_68 (by decide) (by decide) ?_
          refine gm_iload_n d_M_tick_50 rfl ?_
          refine fr_aldv d_M_tick_51 (by decide) rfl (show _ < 40 by omega) (by first | assumption | (simp only [fr_up_at, fr_up_s, fr_sc_at, fr_sc_a, Nat.reduceEqDiff, false_and, if_false, ite_false, reduceCtorEq]; first | assumption | rfl) | rfl) ?_
          first | refine gm_isubN d_M_tick_52 (by omega) ?_ | refine gm_isub d_M_tick_52 ?_
          refine gm_aload_n d_M_tick_53 rfl (by first | exact am_rvR _ | exact am_rvN | assumption) ?_
          refine fr_gSv 2 d_M_tick_54 f_M_130 (by decide) rfl (by first | assumption | (simp only [fr_up_at, fr_up_s, fr_sc_at, fr_sc_a, Nat.reduceEqDiff, false_and, if_false, ite_false, reduceCtorEq]; first | assumption | rfl) | rfl) ?_
          first | refine gm_icmp_geN (tgt := 80) d_M_tick_57 (by decide) (by omega) (by omega) (fun q57 => ?_) (fun q57 => ?_) | refine gm_icmp_ge (tgt := 80) d_M_tick_57 (by decide) (fun q57 => ?_) (fun q57 => ?_)
          · have ho : fc_old idle (fc_now T) [nI f, nI t, nI p, mm, l, u] = true := fc_old_iff.mpr (by first | exact Or.inl q57 | exact Or.inr (Classical.byContradiction fun z => q77 (by rw [Int32.lt_iff_toInt_lt]; rw [Int32.le_iff_toInt_le] at z; omega)))
            refine gm_aload_n d_M_tick_80 rfl (by first | exact am_rvR _ | exact am_rvN | assumption) ?_
            refine gm_iload_n d_M_tick_81 rfl ?_
            refine gm_iconst (v := nI 4) d_M_tick_82 (by decide) ?_
            refine gm_aload_n d_M_tick_83 rfl (by first | exact am_rvR _ | exact am_rvN | assumption) ?_
            refine fr_gA 20 d_M_tick_84 f_M_56 (by decide) (by decide) ?_
            refine gm_iload_n d_M_tick_87 rfl ?_
            refine fr_aldv d_M_tick_88 (by decide) rfl (show _ < 40 by omega) (by first | assumption | (simp only [fr_up_at, fr_up_s, fr_sc_at, fr_sc_a, Nat.reduceEqDiff, false_and, if_false, ite_false, reduceCtorEq]; first | assumption | rfl) | rfl) ?_
            refine gm_iconst (v := nI 0) d_M_tick_89 (by decide) ?_
            refine gm_iconst (v := nI 0) d_M_tick_90 (by decide) ?_
            refine gm_iconst (v := nI 0) d_M_tick_91 (by decide) ?_
            refine gm_cV (b := A 44) d_M_tick_92 v_M_148 (vs := [.int (nI i), .int (nI 4), .int (nI (6 * f + t)), .int (nI 0), .int (nI 0), .int (nI 0)]) (st := []) rfl rfl (by decide) (Nat.le_of_ble_eq_true rfl) (fr_at _) (rf_tellR (row := [4, -1, nI f, nI t, 0]) H2 n5 lL hi l60 (by omega) (by rw [← fr_pairE]; rfl)) ?_
            rintro v r3 ⟨rfl, H3⟩
            rw [if_pos (Or.inl ⟨by decide, by decide⟩)] at H3
            have e20 : ∀ q, fc_add (fc_dj idle T i j) (40 + i) [4, -1, nI f, nI t, 0] (20 + q) = fc_dj idle T i j (20 + q) ∨ ns ≤ q := fun q => by
              by_cases z : q < ns
              · exact Or.inl (fc_add_ne _ (by omega))
              · exact Or.inr (by omega)
            have e20i : fc_add (fc_dj idle T i j) (40 + i) [4, -1, nI f, nI t, 0] (20 + i) = fc_dj idle T i j (20 + i) := fc_add_ne _ (by omega)
            have h19' : r3.2 19 i = nI (fc_dj idle T i j (20 + i)).length := by rw [← e20i]; exact (H3.2.2.2.2.2.1 i hi).1
            refine gm_aload_n d_M_tick_95 rfl (by first | exact am_rvR _ | exact am_rvN | assumption) ?_
            refine gm_iload_n d_M_tick_96 rfl ?_
            refine gm_iload_n d_M_tick_97 rfl ?_
            refine gm_cV (b := A 44) d_M_tick_98 v_M_183 (vs := [.int (nI i), .int (nI (8 * i + fc_kj idle T i j))]) (st := []) rfl rfl (by decide) (Nat.le_of_ble_eq_true rfl) (fr_at _) (rf_rmr (by omega) h19' d8 hkl) ?_
            rintro v r4 ⟨rfl, hr4⟩
            subst hr4
            have H4 := H3.rdl n5 (fun q hq => by rcases e20 q with z | z; rw [z]; exact fc_dj_r8 JT.1 q hq; omega) hi (by rw [e20i]; exact hkl)
            rw [e20i] at H4
            obtain ⟨d1, d2⟩ := fc_dj_drop (idle := idle) hr ho
            have H5 : fr_rel ns room idle (fc_dj idle T i (j + 1)) (fr_rmr r3 i (fc_dj idle T i j (20 + i)).length (fc_kj idle T i j)) := by
              rw [d1, fc_del_add (by omega)]
              exact H4
            have h9 := ih2 (j + 1) _ (by omega) H5
            rw [d2, show fc_gone idle s0 i + (j + 1 - fc_kj idle T i j) = fc_gone idle s0 i + (j - fc_kj idle T i j) + 1 by omega] at h9
            first | refine gm_iincN (b := 1) (L1 := [_, _, _, _]) d_M_tick_101 rfl (by decide) (by decide) rfl ?_ | refine gm_iinc (L1 := [_, _, _, _]) d_M_tick_101 rfl rfl (by decide) rfl ?_
            refine gm_goto (tgt := 27) d_M_tick_104 (by decide) ?_
            exact h9
          · refine gm_aload_n d_M_tick_60 rfl (by first | exact am_rvR _ | exact am_rvN | assumption) ?_
            refine fr_gSv 3 d_M_tick_61 f_M_174 (by decide) rfl (by first | assumption | (simp only [fr_up_at, fr_up_s, fr_sc_at, fr_sc_a, Nat.reduceEqDiff, false_and, if_false, ite_false, reduceCtorEq]; first | assumption | rfl) | rfl) ?_
            refine gm_aload_n d_M_tick_64 rfl (by first | exact am_rvR _ | exact am_rvN | assumption) ?_
            refine fr_gA 23 d_M_tick_65 f_M_65 (by decide) (by decide) ?_
            refine gm_iload_n d_M_tick_68 rfl ?_
            refine fr_aldv d_M_tick_69 (by decide) rfl (show _ < 40 by omega) (by first | assumption | (simp only [fr_up_at, fr_up_s, fr_sc_at, fr_sc_a, Nat.reduceEqDiff, false_and, if_false, ite_false, reduceCtorEq]; first | assumption | rfl) | rfl) ?_
            first | refine gm_isubN d_M_tick_70 (by omega) ?_ | refine gm_isub d_M_tick_70 ?_
            refine gm_iconst (v := nI 4) d_M_tick_71 (by decide) ?_
            refine gm_aload_n d_M_tick_72 rfl (by first | exact am_rvR _ | exact am_rvN | assumption) ?_
            refine fr_gSv 2 d_M_tick_73 f_M_130 (by decide) rfl (by first | assumption | (simp only [fr_up_at, fr_up_s, fr_sc_at, fr_sc_a, Nat.reduceEqDiff, false_and, if_false, ite_false, reduceCtorEq]; first | assumption | rfl) | rfl) ?_
            first | refine gm_imulN d_M_tick_76 ?_ | refine gm_imul d_M_tick_76 ?_
            first | refine gm_icmp_ltN (tgt := 107) d_M_tick_77 (by decide) (by omega) (by omega) (fun q77 => ?_) (fun q77 => ?_) | refine gm_icmp_lt (tgt := 107) d_M_tick_77 (by decide) (fun q77 => ?_) (fun q77 => ?_)
            · have ho : fc_old idle (fc_now T) [nI f, nI t, nI p, mm, l, u] = false := Bool.eq_false_iff.mpr (fun z => by
                rcases fc_old_iff.mp z with z | z
                · exact q57 z
                · rw [Int32.lt_iff_toInt_lt] at q77
                  rw [Int32.le_iff_toInt_le] at z
                  omega)
              first | refine gm_iincN (b := 1) (L1 := [_, _, _, _]) d_M_tick_107 rfl (by decide) (by decide) rfl ?_ | refine gm_iinc (L1 := [_, _, _, _]) d_M_tick_107 rfl rfl (by decide) rfl ?_
              refine gm_goto (tgt := 27) d_M_tick_110 (by decide) ?_
              obtain ⟨d1, d2⟩ := fc_dj_keep (idle := idle) hr ho
              have h9 := ih2 (j + 1) r2 (by omega) (by rw [d1]; exact H2)
              rw [d2, show fc_gone idle s0 i + (j + 1 - (fc_kj idle T i j + 1)) = fc_gone idle s0 i + (j - fc_kj idle T i j) by omega, ← Nat.add_assoc] at h9
              exact h9
            · have ho : fc_old idle (fc_now T) [nI f, nI t, nI p, mm, l, u] = true := fc_old_iff.mpr (by first | exact Or.inl q57 | exact Or.inr (Classical.byContradiction fun z => q77 (by rw [Int32.lt_iff_toInt_lt]; rw [Int32.le_iff_toInt_le] at z; omega)))
              refine gm_aload_n d_M_tick_80 rfl (by first | exact am_rvR _ | exact am_rvN | assumption) ?_
              refine gm_iload_n d_M_tick_81 rfl ?_
              refine gm_iconst (v := nI 4) d_M_tick_82 (by decide) ?_
              refine gm_aload_n d_M_tick_83 rfl (by first | exact am_rvR _ | exact am_rvN | assumption) ?_
              refine fr_gA 20 d_M_tick_84 f_M_56 (by decide) (by decide) ?_
              refine gm_iload_n d_M_tick_87 rfl ?_
              refine fr_aldv d_M_tick_88 (by decide) rfl (show _ < 40 by omega) (by first | assumption | (simp only [fr_up_at, fr_up_s, fr_sc_at, fr_sc_a, Nat.reduceEqDiff, false_and, if_false, ite_false, reduceCtorEq]; first | assumption | rfl) | rfl) ?_
              refine gm_iconst (v := nI 0) d_M_tick_89 (by decide) ?_
              refine gm_iconst (v := nI 0) d_M_tick_90 (by decide) ?_
              refine gm_iconst (v := nI 0) d_M_tick_91 (by decide) ?_
              refine gm_cV (b := A 44) d_M_tick_92 v_M_148 (vs := [.int (nI i), .int (nI 4), .int (nI (6 * f + t)), .int (nI 0), .int (nI 0), .int (nI 0)]) (st := []) rfl rfl (by decide) (Nat.le_of_ble_eq_true rfl) (fr_at _) (rf_tellR (row := [4, -1, nI f, nI t, 0]) H2 n5 lL hi l60 (by omega) (by rw [← fr_pairE]; rfl)) ?_
              rintro v r3 ⟨rfl, H3⟩
              rw [if_pos (Or.inl ⟨by decide, by decide⟩)] at H3
              have e20 : ∀ q, fc_add (fc_dj idle T i j) (40 + i) [4, -1, nI f, nI t, 0] (20 + q) = fc_dj idle T i j (20 + q) ∨ ns ≤ q := fun q => by
                by_cases z : q < ns
                · exact Or.inl (fc_add_ne _ (by omega))
                · exact Or.inr (by omega)
              have e20i : fc_add (fc_dj idle T i j) (40 + i) [4, -1, nI f, nI t, 0] (20 + i) = fc_dj idle T i j (20 + i) := fc_add_ne _ (by omega)
              have h19' : r3.2 19 i = nI (fc_dj idle T i j (20 + i)).length := by rw [← e20i]; exact (H3.2.2.2.2.2.1 i hi).1
              refine gm_aload_n d_M_tick_95 rfl (by first | exact am_rvR _ | exact am_rvN | assumption) ?_
              refine gm_iload_n d_M_tick_96 rfl ?_
              refine gm_iload_n d_M_tick_97 rfl ?_
              refine gm_cV (b := A 44) d_M_tick_98 v_M_183 (vs := [.int (nI i), .int (nI (8 * i + fc_kj idle T i j))]) (st := []) rfl rfl (by decide) (Nat.le_of_ble_eq_true rfl) (fr_at _) (rf_rmr (by omega) h19' d8 hkl) ?_
              rintro v r4 ⟨rfl, hr4⟩
              subst hr4
              have H4 := H3.rdl n5 (fun q hq => by rcases e20 q with z | z; rw [z]; exact fc_dj_r8 JT.1 q hq; omega) hi (by rw [e20i]; exact hkl)
              rw [e20i] at H4
              obtain ⟨d1, d2⟩ := fc_dj_drop (idle := idle) hr ho
              have H5 : fr_rel ns room idle (fc_dj idle T i (j + 1)) (fr_rmr r3 i (fc_dj idle T i j (20 + i)).length (fc_kj idle T i j)) := by
                rw [d1, fc_del_add (by omega)]
                exact H4
              have h9 := ih2 (j + 1) _ (by omega) H5
              rw [d2, show fc_gone idle s0 i + (j + 1 - fc_kj idle T i j) = fc_gone idle s0 i + (j - fc_kj idle T i j) + 1 by omega] at h9
              first | refine gm_iincN (b := 1) (L1 := [_, _, _, _]) d_M_tick_101 rfl (by decide) (by decide) rfl ?_ | refine gm_iinc (L1 := [_, _, _, _]) d_M_tick_101 rfl rfl (by decide) rfl ?_
              refine gm_goto (tgt := 27) d_M_tick_104 (by decide) ?_
              exact h9
      refine gm_iload_n d_M_tick_14 rfl ?_
      refine gm_aload_n d_M_tick_15 rfl (by first | exact am_rvR _ | exact am_rvN | assumption) ?_
      refine fr_gSv 0 d_M_tick_16 f_M_123 (by decide) rfl (by first | assumption | (simp only [fr_up_at, fr_up_s, fr_sc_at, fr_sc_a, Nat.reduceEqDiff, false_and, if_false, ite_false, reduceCtorEq]; first | assumption | rfl) | rfl) ?_
      refine gm_icmp_geN (tgt := 119) d_M_tick_19 (by decide) (by omega) (by omega) (fun q => absurd q (by omega)) (fun _ => ?_)
      refine gm_bipush (v := nI 8) d_M_tick_22 (by decide) ?_
      refine gm_iload_n d_M_tick_24 rfl ?_
      first | refine gm_imulN d_M_tick_25 ?_ | refine gm_imul d_M_tick_25 ?_
      refine gm_istore_n (L1 := [_, _, _, _]) d_M_tick_26 (by decide) rfl ?_
      have h9 := inner (T (20 + i)).length 0 r1 (by omega) (by rw [fc_dj_0]; exact H1)
      have k0 : fc_kj idle T i 0 = 0 := Nat.le_zero.mp (fc_kj_le idle T i 0)
      rw [k0] at h9
      exact h9
  refine gm_Mof (L0 := [some (.ref (A 44)), none, none, none]) pl_M_tick (am_k1 rfl am_k0) (Nat.le_of_ble_eq_true rfl) rfl ?_
  refine gm_aload_n d_M_tick_0 rfl (by first | exact am_rvR _ | exact am_rvN | assumption) ?_
  refine gm_dup d_M_tick_1 rfl ?_
  refine fr_gSv 3 d_M_tick_2 f_M_174 (by decide) rfl (by first | assumption | (simp only [fr_up_at, fr_up_s, fr_sc_at, fr_sc_a, Nat.reduceEqDiff, false_and, if_false, ite_false, reduceCtorEq]; first | assumption | rfl) | rfl) ?_
  refine gm_iconst (v := nI 1) d_M_tick_5 (by decide) ?_
  first | refine gm_iaddN d_M_tick_6 ?_ | refine gm_iadd d_M_tick_6 ?_
  refine fr_pS 3 d_M_tick_7 f_M_174 (p_M_174 _) (by decide) rfl ?_
  refine gm_iconst (v := nI 0) d_M_tick_10 (by decide) ?_
  refine gm_istore_n (L1 := [_, _, _, _]) d_M_tick_11 (by decide) rfl ?_
  refine gm_iconst (v := nI 0) d_M_tick_12 (by decide) ?_
  refine gm_istore_n (L1 := [_, _, _, _]) d_M_tick_13 (by decide) rfl ?_
  exact outer ns 0 none _ (by omega) H0
end REN
