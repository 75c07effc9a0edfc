/-! the reference: a switch obeys -/
section REM
variable {g : am_G} {A : Nat → Nat} {r : fr_S} {ns room idle : Nat} {s : fc_S} {own : Int32 → Int32 × Int32} {W : Nat}
theorem rf_put {i p f t : Nat} (H : fr_rel ns room idle s r) (D : fc_iD ns room s) (hi : i < ns) (hp : p < 4) (hf : f < 6) (ht : t < 6) : gm_M (fr_P A) fr_X g y_M_put "(III)V" 2 54 [.ref (A 44), .int (nI i), .int (nI (6 * f + t)), .int (nI p)] (fun v r' => v = none ∧ fr_rel ns room idle (fc_putr room s i (nI f) (nI t) (nI p)) r') r := by
  have n5 := D.1.2.1
  have r8 := D.r8 i hi
  have rm := D.1.2.2.2
  have hrm : (s (20 + i)).length ≤ room := (D.2.2.2.2.2.1 i hi).1
  have h19 : r.2 19 i = nI (s (20 + i)).length := (H.2.2.2.2.2.1 i hi).1
  have h1 : r.1 1 = nI room := H.1.2.1
  have h3 : r.1 3 = fc_get s 0 0 0 := H.1.2.2.2
  refine gm_Mof (L0 := [some (.ref (A 44)), some (.int (nI i)), some (.int (nI (6 * f + t))), some (.int (nI p)), none, none]) pl_M_put (am_k1 rfl (am_k1 rfl (am_k1 rfl (am_k1 rfl am_k0)))) (Nat.le_of_ble_eq_true rfl) rfl ?_
  refine gm_aload_n d_M_put_0 rfl (by first | exact am_rvR _ | exact am_rvN | assumption) ?_
  refine gm_iload_n d_M_put_1 rfl ?_
  refine gm_iload_n d_M_put_2 rfl ?_
  refine gm_cV (b := A 44) d_M_put_3 v_M_170 (vs := [.int (nI i), .int (nI (6 * f + t))]) (st := []) rfl rfl (by decide) (Nat.le_of_ble_eq_true rfl) (fr_at _) (rf_ruleAt (by omega) h19 r8 (nI (6 * f + t))) ?_
  rintro v r1 ⟨rfl, hr1⟩
  subst r1
  rw [H.2.2.2.2.2.1.find D.2.2.2.2.2.1 hi hf ht]
  cases hx : fc_rix s i (nI f) (nI t) with
  | none =>
    rw [show fr_pos none (8 * i) = -1 from rfl]
    refine gm_istore (L1 := [_, _, _, _, _, _]) d_M_put_6 (by decide) rfl ?_
    refine gm_iload d_M_put_8 rfl ?_
    refine gm_if_ge (tgt := 37) d_M_put_10 (by decide) (fun q => absurd q (by decide)) (fun _ => ?_)
    refine gm_aload_n d_M_put_13 rfl (by first | exact am_rvR _ | exact am_rvN | assumption) ?_
    refine fr_gA 19 d_M_put_14 f_M_53 (by decide) (by decide) ?_
    refine gm_iload_n d_M_put_17 rfl ?_
    refine fr_aldv d_M_put_18 (by decide) rfl (show _ < 5 by omega) (by first | assumption | (simp only [fr_up_at, fr_up_s, fr_sc_at, fr_sc_a, Nat.reduceEqDiff, false_and, if_false, ite_false, reduceCtorEq]; first | assumption | rfl) | rfl) ?_
    refine gm_aload_n d_M_put_19 rfl (by first | exact am_rvR _ | exact am_rvN | assumption) ?_
    refine fr_gSv 1 d_M_put_20 f_M_127 (by decide) rfl (by first | assumption | (simp only [fr_up_at, fr_up_s, fr_sc_at, fr_sc_a, Nat.reduceEqDiff, false_and, if_false, ite_false, reduceCtorEq]; first | assumption | rfl) | rfl) ?_
    first | refine gm_icmp_neN (tgt := 37) d_M_put_23 (by decide) (by omega) (by omega) (fun q23 => ?_) (fun q23 => ?_) | refine gm_icmp_ne (tgt := 37) d_M_put_23 (by decide) (fun q23 => ?_) (fun q23 => ?_)
    · refine gm_iload d_M_put_37 rfl ?_
      refine gm_if_lt (tgt := 49) d_M_put_39 (by decide) (fun _ => ?_) (fun q => absurd (by decide) q)
      refine gm_bipush (v := nI 8) d_M_put_49 (by decide) ?_
      refine gm_iload_n d_M_put_51 rfl ?_
      first | refine gm_imulN d_M_put_52 ?_ | refine gm_imul d_M_put_52 ?_
      refine gm_aload_n d_M_put_53 rfl (by first | exact am_rvR _ | exact am_rvN | assumption) ?_
      refine fr_gA 19 d_M_put_54 f_M_53 (by decide) (by decide) ?_
      refine gm_iload_n d_M_put_57 rfl ?_
      refine fr_aldv d_M_put_58 (by decide) rfl (show _ < 5 by omega) (by first | assumption | (simp only [fr_up_at, fr_up_s, fr_sc_at, fr_sc_a, Nat.reduceEqDiff, false_and, if_false, ite_false, reduceCtorEq]; first | assumption | rfl) | rfl) ?_
      first | refine gm_iaddN d_M_put_59 ?_ | refine gm_iadd d_M_put_59 ?_
      refine gm_istore (L1 := [_, _, _, _, _, _]) d_M_put_60 (by decide) rfl ?_
      refine gm_aload_n d_M_put_62 rfl (by first | exact am_rvR _ | exact am_rvN | assumption) ?_
      refine fr_gA 20 d_M_put_63 f_M_56 (by decide) (by decide) ?_
      refine gm_iload d_M_put_66 rfl ?_
      refine gm_iload_n d_M_put_68 rfl ?_
      refine fr_ast d_M_put_69 (by decide) rfl (show _ < 40 by omega) ?_
      refine gm_aload_n d_M_put_70 rfl (by first | exact am_rvR _ | exact am_rvN | assumption) ?_
      refine fr_gA 21 d_M_put_71 f_M_59 (by decide) (by decide) ?_
      refine gm_iload d_M_put_74 rfl ?_
      refine gm_iload_n d_M_put_76 rfl ?_
      refine fr_ast d_M_put_77 (by decide) rfl (show _ < 40 by omega) ?_
      refine gm_aload_n d_M_put_78 rfl (by first | exact am_rvR _ | exact am_rvN | assumption) ?_
      refine fr_gA 22 d_M_put_79 f_M_62 (by decide) (by decide) ?_
      refine gm_iload d_M_put_82 rfl ?_
      refine gm_iconst (v := nI 0) d_M_put_84 (by decide) ?_
      refine fr_ast d_M_put_85 (by decide) rfl (show _ < 40 by omega) ?_
      refine gm_aload_n d_M_put_86 rfl (by first | exact am_rvR _ | exact am_rvN | assumption) ?_
      refine fr_gA 23 d_M_put_87 f_M_65 (by decide) (by decide) ?_
      refine gm_iload d_M_put_90 rfl ?_
      refine gm_aload_n d_M_put_92 rfl (by first | exact am_rvR _ | exact am_rvN | assumption) ?_
      refine fr_gSv 3 d_M_put_93 f_M_174 (by decide) rfl (by first | assumption | (simp only [fr_up_at, fr_up_s, fr_sc_at, fr_sc_a, Nat.reduceEqDiff, false_and, if_false, ite_false, reduceCtorEq]; first | assumption | rfl) | rfl) ?_
      refine fr_ast d_M_put_96 (by decide) rfl (show _ < 40 by omega) ?_
      refine gm_aload_n d_M_put_97 rfl (by first | exact am_rvR _ | exact am_rvN | assumption) ?_
      refine fr_gA 24 d_M_put_98 f_M_68 (by decide) (by decide) ?_
      refine gm_iload d_M_put_101 rfl ?_
      refine gm_aload_n d_M_put_103 rfl (by first | exact am_rvR _ | exact am_rvN | assumption) ?_
      refine fr_gSv 3 d_M_put_104 f_M_174 (by decide) rfl (by first | assumption | (simp only [fr_up_at, fr_up_s, fr_sc_at, fr_sc_a, Nat.reduceEqDiff, false_and, if_false, ite_false, reduceCtorEq]; first | assumption | rfl) | rfl) ?_
      refine fr_ast d_M_put_107 (by decide) rfl (show _ < 40 by omega) ?_
      refine gm_aload_n d_M_put_108 rfl (by first | exact am_rvR _ | exact am_rvN | assumption) ?_
      refine fr_gA 19 d_M_put_109 f_M_53 (by decide) (by decide) ?_
      refine gm_iload_n d_M_put_112 rfl ?_
      refine gm_dup2 d_M_put_113 rfl rfl ?_
      refine fr_aldv d_M_put_114 (by decide) rfl (show _ < 5 by omega) (by first | assumption | (simp only [fr_up_at, fr_up_s, fr_sc_at, fr_sc_a, Nat.reduceEqDiff, false_and, if_false, ite_false, reduceCtorEq]; first | assumption | rfl) | rfl) ?_
      refine gm_iconst (v := nI 1) d_M_put_115 (by decide) ?_
      first | refine gm_iaddN d_M_put_116 ?_ | refine gm_iadd d_M_put_116 ?_
      refine fr_ast d_M_put_117 (by decide) rfl (show _ < 5 by omega) ?_
      refine gm_vret d_M_put_118 rfl ?_
      first | (refine ⟨rfl, ?_⟩; rw [fc_putr_full hx (show room ≤ (s (20 + i)).length by omega)]; rw [if_pos (Or.inl ⟨by decide, by decide⟩)] at h9; exact h9) | (refine ⟨rfl, ?_⟩; rw [fc_putr_new hx (show ¬ room ≤ (s (20 + i)).length by omega)]; (have H2 := H.radd D hi (show (s (20 + i)).length < 8 by omega) (nI f) (nI t) (nI p) (fc_get s 0 0 0)); rw [fr_pairE] at H2; exact H2)
    · refine gm_aload_n d_M_put_26 rfl (by first | exact am_rvR _ | exact am_rvN | assumption) ?_
      refine gm_iload_n d_M_put_27 rfl ?_
      refine gm_iconst (v := nI 3) d_M_put_28 (by decide) ?_
      refine gm_iload_n d_M_put_29 rfl ?_
      refine gm_iconst (v := nI 0) d_M_put_30 (by decide) ?_
      refine gm_iconst (v := nI 0) d_M_put_31 (by decide) ?_
      refine gm_iconst (v := nI 0) d_M_put_32 (by decide) ?_
      refine gm_cV (b := A 44) d_M_put_33 v_M_148 (vs := [.int (nI i), .int (nI 3), .int (nI (6 * f + t)), .int (nI 0), .int (nI 0), .int (nI 0)]) (st := []) rfl rfl (by decide) (Nat.le_of_ble_eq_true rfl) (fr_at _) (rf_tellR (row := [3, -1, nI f, nI t, 0]) H n5 D.l60 hi (D.q59 hi) (by omega) (by rw [← fr_pairE]; rfl)) ?_
      rintro v r1 ⟨rfl, h9⟩
      refine gm_vret d_M_put_36 rfl ?_
      first | (refine ⟨rfl, ?_⟩; rw [fc_putr_full hx (show room ≤ (s (20 + i)).length by omega)]; rw [if_pos (Or.inl ⟨by decide, by decide⟩)] at h9; exact h9) | (refine ⟨rfl, ?_⟩; rw [fc_putr_new hx (show ¬ room ≤ (s (20 + i)).length by omega)]; (have H2 := H.radd D hi (show (s (20 + i)).length < 8 by omega) (nI f) (nI t) (nI p) (fc_get s 0 0 0)); rw [fr_pairE] at H2; exact H2)
  | some k =>
    rw [show fr_pos (some k) (8 * i) = nI (8 * i + k) from rfl]
    have hk := fc_rix_some hx
    refine gm_istore (L1 := [_, _, _, _, _, _]) d_M_put_6 (by decide) rfl ?_
    refine gm_iload d_M_put_8 rfl ?_
    refine gm_if_geN (tgt := 37) d_M_put_10 (by decide) (by omega) (fun _ => ?_) (fun q => absurd q (by omega))
    refine gm_iload d_M_put_37 rfl ?_
    refine gm_if_ltN (tgt := 49) d_M_put_39 (by decide) (by omega) (fun q => absurd q (by omega)) (fun _ => ?_)
    refine gm_aload_n d_M_put_42 rfl (by first | exact am_rvR _ | exact am_rvN | assumption) ?_
    refine gm_iload_n d_M_put_43 rfl ?_
    refine gm_iload d_M_put_44 rfl ?_
    refine gm_cV (b := A 44) d_M_put_46 v_M_183 (vs := [.int (nI i), .int (nI (8 * i + k))]) (st := []) rfl rfl (by decide) (Nat.le_of_ble_eq_true rfl) (fr_at _) (rf_rmr (by omega) h19 r8 hk) ?_
    rintro v r1 ⟨rfl, hr1⟩
    subst hr1
    have H1 := H.rdel D hi hk
    have D1 : fc_iD ns room (fc_del s (20 + i) k) := fc_cut_some hx ▸ D.cut hi (nI f) (nI t)
    have el : (fc_del s (20 + i) k (20 + i)).length = (s (20 + i)).length - 1 := by rw [fc_del_same, List.length_eraseIdx, if_pos hk]
    have h19a : (fr_rmr r i (s (20 + i)).length k).2 19 i = nI ((s (20 + i)).length - 1) := by rw [← el]; exact (H1.2.2.2.2.2.1 i hi).1
    have h3a : (fr_rmr r i (s (20 + i)).length k).1 3 = fc_get s 0 0 0 := h3
    have H2 := H1.radd D1 hi (by omega) (nI f) (nI t) (nI p) (fc_get s 0 0 0)
    rw [el, fr_pairE] at H2
    refine gm_bipush (v := nI 8) d_M_put_49 (by decide) ?_
    refine gm_iload_n d_M_put_51 rfl ?_
    first | refine gm_imulN d_M_put_52 ?_ | refine gm_imul d_M_put_52 ?_
    refine gm_aload_n d_M_put_53 rfl (by first | exact am_rvR _ | exact am_rvN | assumption) ?_
    refine fr_gA 19 d_M_put_54 f_M_53 (by decide) (by decide) ?_
    refine gm_iload_n d_M_put_57 rfl ?_
    refine fr_aldv d_M_put_58 (by decide) rfl (show _ < 5 by omega) (by first | assumption | (simp only [fr_up_at, fr_up_s, fr_sc_at, fr_sc_a, Nat.reduceEqDiff, false_and, if_false, ite_false, reduceCtorEq]; first | assumption | rfl) | rfl) ?_
    first | refine gm_iaddN d_M_put_59 ?_ | refine gm_iadd d_M_put_59 ?_
    refine gm_istore (L1 := [_, _, _, _, _, _]) d_M_put_60 (by decide) rfl ?_
    refine gm_aload_n d_M_put_62 rfl (by first | exact am_rvR _ | exact am_rvN | assumption) ?_
    refine fr_gA 20 d_M_put_63 f_M_56 (by decide) (by decide) ?_
    refine gm_iload d_M_put_66 rfl ?_
    refine gm_iload_n d_M_put_68 rfl ?_
    refine fr_ast d_M_put_69 (by decide) rfl (show _ < 40 by omega) ?_
    refine gm_aload_n d_M_put_70 rfl (by first | exact am_rvR _ | exact am_rvN | assumption) ?_
    refine fr_gA 21 d_M_put_71 f_M_59 (by decide) (by decide) ?_
    refine gm_iload d_M_put_74 rfl ?_
    refine gm_iload_n d_M_put_76 rfl ?_
    refine fr_ast d_M_put_77 (by decide) rfl (show _ < 40 by omega) ?_
    refine gm_aload_n d_M_put_78 rfl (by first | exact am_rvR _ | exact am_rvN | assumption) ?_
    refine fr_gA 22 d_M_put_79 f_M_62 (by decide) (by decide) ?_
    refine gm_iload d_M_put_82 rfl ?_
    refine gm_iconst (v := nI 0) d_M_put_84 (by decide) ?_
    refine fr_ast d_M_put_85 (by decide) rfl (show _ < 40 by omega) ?_
    refine gm_aload_n d_M_put_86 rfl (by first | exact am_rvR _ | exact am_rvN | assumption) ?_
    refine fr_gA 23 d_M_put_87 f_M_65 (by decide) (by decide) ?_
    refine gm_iload d_M_put_90 rfl ?_
    refine gm_aload_n d_M_put_92 rfl (by first | exact am_rvR _ | exact am_rvN | assumption) ?_
    refine fr_gSv 3 d_M_put_93 f_M_174 (by decide) rfl (by first | assumption | (simp only [fr_up_at, fr_up_s, fr_sc_at, fr_sc_a, Nat.reduceEqDiff, false_and, if_false, ite_false, reduceCtorEq]; first | assumption | rfl) | rfl) ?_
    refine fr_ast d_M_put_96 (by decide) rfl (show _ < 40 by omega) ?_
    refine gm_aload_n d_M_put_97 rfl (by first | exact am_rvR _ | exact am_rvN | assumption) ?_
    refine fr_gA 24 d_M_put_98 f_M_68 (by decide) (by decide) ?_
    refine gm_iload d_M_put_101 rfl ?_
    refine gm_aload_n d_M_put_103 rfl (by first | exact am_rvR _ | exact am_rvN | assumption) ?_
    refine fr_gSv 3 d_M_put_104 f_M_174 (by decide) rfl (by first | assumption | (simp only [fr_up_at, fr_up_s, fr_sc_at, fr_sc_a, Nat.reduceEqDiff, false_and, if_false, ite_false, reduceCtorEq]; first | assumption | rfl) | rfl) ?_
    refine fr_ast d_M_put_107 (by decide) rfl (show _ < 40 by omega) ?_
    refine gm_aload_n d_M_put_108 rfl (by first | exact am_rvR _ | exact am_rvN | assumption) ?_
    refine fr_gA 19 d_M_put_109 f_M_53 (by decide) (by decide) ?_
    refine gm_iload_n d_M_put_112 rfl ?_
    refine gm_dup2 d_M_put_113 rfl rfl ?_
    refine fr_aldv d_M_put_114 (by decide) rfl (show _ < 5 by omega) (by first | assumption | (simp only [fr_up_at, fr_up_s, fr_sc_at, fr_sc_a, Nat.reduceEqDiff, false_and, if_false, ite_false, reduceCtorEq]; first | assumption | rfl) | rfl) ?_
    refine gm_iconst (v := nI 1) d_M_put_115 (by decide) ?_
    first | refine gm_iaddN d_M_put_116 ?_ | refine gm_iadd d_M_put_116 ?_
    refine fr_ast d_M_put_117 (by decide) rfl (show _ < 5 by omega) ?_
    refine gm_vret d_M_put_118 rfl ?_
    exact ⟨rfl, by rw [fc_putr_old hx hrm]; exact H2⟩
theorem rf_ob_put {i n : Nat} {p f t : Nat} (hp : p < 4) (hf : f < 6) (ht : t < 6) {rest : List (List Int32)} (H : fr_rel ns room idle s r) (J : fz_J own W ns room s) (U : fc_iU ns s) (hi : i < ns) (hr : s (30 + i) = [0, nI p, nI f, nI t, 0] :: rest) (hn : n = (s (30 + i)).length) : gm_W (fr_P A) fr_X g y_M_obey 3 80 (fun v r' => v = some (.int ([0, nI p, nI f, nI t, 0].getD 0 0)) ∧ fr_rel ns room idle (fc_does room (fc_del s (30 + i) 0) i [0, nI p, nI f, nI t, 0]) r') 28 [some (.ref (A 44)), some (.int (nI i)), none, none, none, none] [] (fr_take r (2 * i) n) := by
  have D := J.1
  have n5 := D.1.2.1
  have H1 := H.otake D hi
  have D1 : fc_iD ns room (fc_del s (30 + i) 0) := D.delL 0 (Or.inl ⟨by omega, by omega⟩)
  have U1 : fc_iU ns (fc_del s (30 + i) 0) := U.same n5 (fc_sP.up _ (by omega))
  rw [← hn] at H1
  have i0 : (fr_take r (2 * i) n).2 27 0 = nI 0 := H.oitem hi hr n (show 0 < 5 by decide)
  have i1 : (fr_take r (2 * i) n).2 27 1 = nI (6 * f + t) := (H.oitem hi hr n (show 1 < 5 by decide)).trans (fr_pairE f t)
  have i2 : (fr_take r (2 * i) n).2 27 2 = nI p := H.oitem hi hr n (show 2 < 5 by decide)
  refine gm_aload_n d_M_obey_28 rfl (by first | exact am_rvR _ | exact am_rvN | assumption) ?_
  refine fr_gA 27 d_M_obey_29 f_M_77 (by decide) (by decide) ?_
  refine gm_iconst (v := nI 0) d_M_obey_32 (by decide) ?_
  refine fr_aldv d_M_obey_33 (by decide) rfl (show _ < 5 by omega) (by first | assumption | (simp only [fr_up_at, fr_up_s, fr_sc_at, fr_sc_a, Nat.reduceEqDiff, false_and, if_false, ite_false, reduceCtorEq]; first | assumption | rfl) | rfl) ?_
  refine gm_istore_n (L1 := [_, _, _, _, _, _]) d_M_obey_34 (by decide) rfl ?_
  refine gm_aload_n d_M_obey_35 rfl (by first | exact am_rvR _ | exact am_rvN | assumption) ?_
  refine fr_gA 27 d_M_obey_36 f_M_77 (by decide) (by decide) ?_
  refine gm_iconst (v := nI 1) d_M_obey_39 (by decide) ?_
  refine fr_aldv d_M_obey_40 (by decide) rfl (show _ < 5 by omega) (by first | assumption | (simp only [fr_up_at, fr_up_s, fr_sc_at, fr_sc_a, Nat.reduceEqDiff, false_and, if_false, ite_false, reduceCtorEq]; first | assumption | rfl) | rfl) ?_
  refine gm_istore_n (L1 := [_, _, _, _, _, _]) d_M_obey_41 (by decide) rfl ?_
  refine gm_iload_n d_M_obey_42 rfl ?_
  refine gm_if_neN (tgt := 61) d_M_obey_43 (by decide) (by omega) (fun q => absurd q (by omega)) (fun _ => ?_)
  refine gm_aload_n d_M_obey_46 rfl (by first | exact am_rvR _ | exact am_rvN | assumption) ?_
  refine gm_iload_n d_M_obey_47 rfl ?_
  refine gm_iload_n d_M_obey_48 rfl ?_
  refine gm_aload_n d_M_obey_49 rfl (by first | exact am_rvR _ | exact am_rvN | assumption) ?_
  refine fr_gA 27 d_M_obey_50 f_M_77 (by decide) (by decide) ?_
  refine gm_iconst (v := nI 2) d_M_obey_53 (by decide) ?_
  refine fr_aldv d_M_obey_54 (by decide) rfl (show _ < 5 by omega) (by first | assumption | (simp only [fr_up_at, fr_up_s, fr_sc_at, fr_sc_a, Nat.reduceEqDiff, false_and, if_false, ite_false, reduceCtorEq]; first | assumption | rfl) | rfl) ?_
  refine gm_cV (b := A 44) d_M_obey_55 v_M_190 (vs := [.int (nI i), .int (nI (6 * f + t)), .int (nI p)]) (st := []) rfl rfl (by decide) (Nat.le_of_ble_eq_true rfl) (fr_at _) (rf_put H1 D1 hi hp hf ht) ?_
  rintro v r1 ⟨rfl, h9⟩
  refine gm_goto (tgt := 222) d_M_obey_58 (by decide) ?_
  refine gm_iload_n d_M_obey_222 rfl ?_
  refine gm_iret d_M_obey_223 rfl rfl ?_
  exact ⟨rfl, by rw [fc_d0]; exact h9⟩
theorem rf_ob_cut {i n : Nat} {f t : Nat} (hf : f < 6) (ht : t < 6) {rest : List (List Int32)} (H : fr_rel ns room idle s r) (J : fz_J own W ns room s) (U : fc_iU ns s) (hi : i < ns) (hr : s (30 + i) = [1, -1, nI f, nI t, 0] :: rest) (hn : n = (s (30 + i)).length) : gm_W (fr_P A) fr_X g y_M_obey 3 80 (fun v r' => v = some (.int ([1, -1, nI f, nI t, 0].getD 0 0)) ∧ fr_rel ns room idle (fc_does room (fc_del s (30 + i) 0) i [1, -1, nI f, nI t, 0]) r') 28 [some (.ref (A 44)), some (.int (nI i)), none, none, none, none] [] (fr_take r (2 * i) n) := by
  have D := J.1
  have n5 := D.1.2.1
  have H1 := H.otake D hi
  have D1 : fc_iD ns room (fc_del s (30 + i) 0) := D.delL 0 (Or.inl ⟨by omega, by omega⟩)
  have U1 : fc_iU ns (fc_del s (30 + i) 0) := U.same n5 (fc_sP.up _ (by omega))
  rw [← hn] at H1
  have i0 : (fr_take r (2 * i) n).2 27 0 = nI 1 := H.oitem hi hr n (show 0 < 5 by decide)
  have i1 : (fr_take r (2 * i) n).2 27 1 = nI (6 * f + t) := (H.oitem hi hr n (show 1 < 5 by decide)).trans (fr_pairE f t)
  refine gm_aload_n d_M_obey_28 rfl (by first | exact am_rvR _ | exact am_rvN | assumption) ?_
  refine fr_gA 27 d_M_obey_29 f_M_77 (by decide) (by decide) ?_
  refine gm_iconst (v := nI 0) d_M_obey_32 (by decide) ?_
  refine fr_aldv d_M_obey_33 (by decide) rfl (show _ < 5 by omega) (by first | assumption | (simp only [fr_up_at, fr_up_s, fr_sc_at, fr_sc_a, Nat.reduceEqDiff, false_and, if_false, ite_false, reduceCtorEq]; first | assumption | rfl) | rfl) ?_
  refine gm_istore_n (L1 := [_, _, _, _, _, _]) d_M_obey_34 (by decide) rfl ?_
  refine gm_aload_n d_M_obey_35 rfl (by first | exact am_rvR _ | exact am_rvN | assumption) ?_
  refine fr_gA 27 d_M_obey_36 f_M_77 (by decide) (by decide) ?_
  refine gm_iconst (v := nI 1) d_M_obey_39 (by decide) ?_
  refine fr_aldv d_M_obey_40 (by decide) rfl (show _ < 5 by omega) (by first | assumption | (simp only [fr_up_at, fr_up_s, fr_sc_at, fr_sc_a, Nat.reduceEqDiff, false_and, if_false, ite_false, reduceCtorEq]; first | assumption | rfl) | rfl) ?_
  refine gm_istore_n (L1 := [_, _, _, _, _, _]) d_M_obey_41 (by decide) rfl ?_
  refine gm_iload_n d_M_obey_42 rfl ?_
  refine gm_if_neN (tgt := 61) d_M_obey_43 (by decide) (by omega) (fun _ => ?_) (fun q => absurd q (by omega))
  refine gm_iload_n d_M_obey_61 rfl ?_
  refine gm_iconst (v := nI 1) d_M_obey_62 (by decide) ?_
  refine gm_icmp_neN (tgt := 89) d_M_obey_63 (by decide) (by omega) (by omega) (fun q => absurd q (by omega)) (fun _ => ?_)
  refine gm_aload_n d_M_obey_66 rfl (by first | exact am_rvR _ | exact am_rvN | assumption) ?_
  refine gm_iload_n d_M_obey_67 rfl ?_
  refine gm_iload_n d_M_obey_68 rfl ?_
  refine gm_cV (b := A 44) d_M_obey_69 v_M_170 (vs := [.int (nI i), .int (nI (6 * f + t))]) (st := []) rfl rfl (by decide) (Nat.le_of_ble_eq_true rfl) (fr_at _) (rf_ruleAt (by omega) (H1.2.2.2.2.2.1 i hi).1 (D1.r8 i hi) (nI (6 * f + t))) ?_
  rintro v r1 ⟨rfl, hr1⟩
  subst hr1
  rw [H1.2.2.2.2.2.1.find D1.2.2.2.2.2.1 hi hf ht]
  cases hx : fc_rix (fc_del s (30 + i) 0) i (nI f) (nI t) with
  | none =>
    rw [show fr_pos none (8 * i) = -1 from rfl]
    refine gm_istore (L1 := [_, _, _, _, _, _]) d_M_obey_72 (by decide) rfl ?_
    refine gm_iload d_M_obey_74 rfl ?_
    refine gm_if_lt (tgt := 86) d_M_obey_76 (by decide) (fun _ => ?_) (fun q => absurd (by decide) q)
    refine gm_goto (tgt := 222) d_M_obey_86 (by decide) ?_
    refine gm_iload_n d_M_obey_222 rfl ?_
    refine gm_iret d_M_obey_223 rfl rfl ?_
    exact ⟨rfl, by rw [fc_d1, fc_cut_none hx]; exact H1⟩
  | some k =>
    rw [show fr_pos (some k) (8 * i) = nI (8 * i + k) from rfl]
    have hk := fc_rix_some hx
    have rk8 := D1.r8 i hi
    refine gm_istore (L1 := [_, _, _, _, _, _]) d_M_obey_72 (by decide) rfl ?_
    refine gm_iload d_M_obey_74 rfl ?_
    refine gm_if_ltN (tgt := 86) d_M_obey_76 (by decide) (by omega) (fun q => absurd q (by omega)) (fun _ => ?_)
    refine gm_aload_n d_M_obey_79 rfl (by first | exact am_rvR _ | exact am_rvN | assumption) ?_
    refine gm_iload_n d_M_obey_80 rfl ?_
    refine gm_iload d_M_obey_81 rfl ?_
    refine gm_cV (b := A 44) d_M_obey_83 v_M_183 (vs := [.int (nI i), .int (nI (8 * i + k))]) (st := []) rfl rfl (by decide) (Nat.le_of_ble_eq_true rfl) (fr_at _) (rf_rmr (by omega) (H1.2.2.2.2.2.1 i hi).1 (D1.r8 i hi) hk) ?_
    rintro v r1 ⟨rfl, hr1⟩
    subst hr1
    refine gm_goto (tgt := 222) d_M_obey_86 (by decide) ?_
    refine gm_iload_n d_M_obey_222 rfl ?_
    refine gm_iret d_M_obey_223 rfl rfl ?_
    exact ⟨rfl, by rw [fc_d1, fc_cut_some hx]; exact H1.rdel D1 hi hk⟩
theorem rf_ob_bar {i n : Nat} {wv : Int32} {rest : List (List Int32)} (H : fr_rel ns room idle s r) (J : fz_J own W ns room s) (U : fc_iU ns s) (hi : i < ns) (hr : s (30 + i) = [2, wv, -1, -1, 0] :: rest) (hn : n = (s (30 + i)).length) : gm_W (fr_P A) fr_X g y_M_obey 3 80 (fun v r' => v = some (.int ([2, wv, -1, -1, 0].getD 0 0)) ∧ fr_rel ns room idle (fc_does room (fc_del s (30 + i) 0) i [2, wv, -1, -1, 0]) r') 28 [some (.ref (A 44)), some (.int (nI i)), none, none, none, none] [] (fr_take r (2 * i) n) := by
  have D := J.1
  have n5 := D.1.2.1
  have H1 := H.otake D hi
  have D1 : fc_iD ns room (fc_del s (30 + i) 0) := D.delL 0 (Or.inl ⟨by omega, by omega⟩)
  have U1 : fc_iU ns (fc_del s (30 + i) 0) := U.same n5 (fc_sP.up _ (by omega))
  rw [← hn] at H1
  have i0 : (fr_take r (2 * i) n).2 27 0 = nI 2 := H.oitem hi hr n (show 0 < 5 by decide)
  have i1 : (fr_take r (2 * i) n).2 27 1 = wv := H.oitem hi hr n (show 1 < 5 by decide)
  refine gm_aload_n d_M_obey_28 rfl (by first | exact am_rvR _ | exact am_rvN | assumption) ?_
  refine fr_gA 27 d_M_obey_29 f_M_77 (by decide) (by decide) ?_
  refine gm_iconst (v := nI 0) d_M_obey_32 (by decide) ?_
  refine fr_aldv d_M_obey_33 (by decide) rfl (show _ < 5 by omega) (by first | assumption | (simp only [fr_up_at, fr_up_s, fr_sc_at, fr_sc_a, Nat.reduceEqDiff, false_and, if_false, ite_false, reduceCtorEq]; first | assumption | rfl) | rfl) ?_
  refine gm_istore_n (L1 := [_, _, _, _, _, _]) d_M_obey_34 (by decide) rfl ?_
  refine gm_aload_n d_M_obey_35 rfl (by first | exact am_rvR _ | exact am_rvN | assumption) ?_
  refine fr_gA 27 d_M_obey_36 f_M_77 (by decide) (by decide) ?_
  refine gm_iconst (v := nI 1) d_M_obey_39 (by decide) ?_
  refine fr_aldv d_M_obey_40 (by decide) rfl (show _ < 5 by omega) (by first | assumption | (simp only [fr_up_at, fr_up_s, fr_sc_at, fr_sc_a, Nat.reduceEqDiff, false_and, if_false, ite_false, reduceCtorEq]; first | assumption | rfl) | rfl) ?_
  refine gm_istore_n (L1 := [_, _, _, _, _, _]) d_M_obey_41 (by decide) rfl ?_
  refine gm_iload_n d_M_obey_42 rfl ?_
  refine gm_if_neN (tgt := 61) d_M_obey_43 (by decide) (by omega) (fun _ => ?_) (fun q => absurd q (by omega))
  refine gm_iload_n d_M_obey_61 rfl ?_
  refine gm_iconst (v := nI 1) d_M_obey_62 (by decide) ?_
  refine gm_icmp_neN (tgt := 89) d_M_obey_63 (by decide) (by omega) (by omega) (fun _ => ?_) (fun q => absurd q (by omega))
  refine gm_iload_n d_M_obey_89 rfl ?_
  refine gm_iconst (v := nI 2) d_M_obey_90 (by decide) ?_
  refine gm_icmp_neN (tgt := 107) d_M_obey_91 (by decide) (by omega) (by omega) (fun q => absurd q (by omega)) (fun _ => ?_)
  refine gm_aload_n d_M_obey_94 rfl (by first | exact am_rvR _ | exact am_rvN | assumption) ?_
  refine gm_iload_n d_M_obey_95 rfl ?_
  refine gm_iconst (v := nI 2) d_M_obey_96 (by decide) ?_
  refine gm_iload_n d_M_obey_97 rfl ?_
  refine gm_iconst (v := nI 0) d_M_obey_98 (by decide) ?_
  refine gm_iconst (v := nI 0) d_M_obey_99 (by decide) ?_
  refine gm_iconst (v := nI 0) d_M_obey_100 (by decide) ?_
  refine gm_cV (b := A 44) d_M_obey_101 v_M_148 (vs := [.int (nI i), .int (nI 2), .int wv, .int (nI 0), .int (nI 0), .int (nI 0)]) (st := []) rfl rfl (by decide) (Nat.le_of_ble_eq_true rfl) (fr_at _) (rf_tellR (row := [2, wv, -1, -1, 0]) H1 n5 D1.l60 hi (D1.q59 hi) (by omega) rfl) ?_
  rintro v r1 ⟨rfl, h9⟩
  rw [if_pos (Or.inl ⟨by decide, by decide⟩)] at h9
  refine gm_goto (tgt := 222) d_M_obey_104 (by decide) ?_
  refine gm_iload_n d_M_obey_222 rfl ?_
  refine gm_iret d_M_obey_223 rfl rfl ?_
  exact ⟨rfl, by rw [fc_d2]; exact h9⟩
theorem rf_ob_out {i n : Nat} {bits nr : Int32} {f t : Nat} (hf : f < 6) (ht : t < 6) {rest : List (List Int32)} (H : fr_rel ns room idle s r) (J : fz_J own W ns room s) (U : fc_iU ns s) (hi : i < ns) (hr : s (30 + i) = [3, bits, nI f, nI t, nr] :: rest) (hn : n = (s (30 + i)).length) : gm_W (fr_P A) fr_X g y_M_obey 3 80 (fun v r' => v = some (.int ([3, bits, nI f, nI t, nr].getD 0 0)) ∧ fr_rel ns room idle (fc_does room (fc_del s (30 + i) 0) i [3, bits, nI f, nI t, nr]) r') 28 [some (.ref (A 44)), some (.int (nI i)), none, none, none, none] [] (fr_take r (2 * i) n) := by
  have D := J.1
  have n5 := D.1.2.1
  have H1 := H.otake D hi
  have D1 : fc_iD ns room (fc_del s (30 + i) 0) := D.delL 0 (Or.inl ⟨by omega, by omega⟩)
  have U1 : fc_iU ns (fc_del s (30 + i) 0) := U.same n5 (fc_sP.up _ (by omega))
  rw [← hn] at H1
  have i0 : (fr_take r (2 * i) n).2 27 0 = nI 3 := H.oitem hi hr n (show 0 < 5 by decide)
  have i1 : (fr_take r (2 * i) n).2 27 1 = bits := H.oitem hi hr n (show 1 < 5 by decide)
  have i2 : (fr_take r (2 * i) n).2 27 2 = nI f := H.oitem hi hr n (show 2 < 5 by decide)
  have i3 : (fr_take r (2 * i) n).2 27 3 = nI t := H.oitem hi hr n (show 3 < 5 by decide)
  have i4 : (fr_take r (2 * i) n).2 27 4 = nr := H.oitem hi hr n (show 4 < 5 by decide)
  refine gm_aload_n d_M_obey_28 rfl (by first | exact am_rvR _ | exact am_rvN | assumption) ?_
  refine fr_gA 27 d_M_obey_29 f_M_77 (by decide) (by decide) ?_
  refine gm_iconst (v := nI 0) d_M_obey_32 (by decide) ?_
  refine fr_aldv d_M_obey_33 (by decide) rfl (show _ < 5 by omega) (by first | assumption | (simp only [fr_up_at, fr_up_s, fr_sc_at, fr_sc_a, Nat.reduceEqDiff, false_and, if_false, ite_false, reduceCtorEq]; first | assumption | rfl) | rfl) ?_
  refine gm_istore_n (L1 := [_, _, _, _, _, _]) d_M_obey_34 (by decide) rfl ?_
  refine gm_aload_n d_M_obey_35 rfl (by first | exact am_rvR _ | exact am_rvN | assumption) ?_
  refine fr_gA 27 d_M_obey_36 f_M_77 (by decide) (by decide) ?_
  refine gm_iconst (v := nI 1) d_M_obey_39 (by decide) ?_
  refine fr_aldv d_M_obey_40 (by decide) rfl (show _ < 5 by omega) (by first | assumption | (simp only [fr_up_at, fr_up_s, fr_sc_at, fr_sc_a, Nat.reduceEqDiff, false_and, if_false, ite_false, reduceCtorEq]; first | assumption | rfl) | rfl) ?_
  refine gm_istore_n (L1 := [_, _, _, _, _, _]) d_M_obey_41 (by decide) rfl ?_
  refine gm_iload_n d_M_obey_42 rfl ?_
  refine gm_if_neN (tgt := 61) d_M_obey_43 (by decide) (by omega) (fun _ => ?_) (fun q => absurd q (by omega))
  refine gm_iload_n d_M_obey_61 rfl ?_
  refine gm_iconst (v := nI 1) d_M_obey_62 (by decide) ?_
  refine gm_icmp_neN (tgt := 89) d_M_obey_63 (by decide) (by omega) (by omega) (fun _ => ?_) (fun q => absurd q (by omega))
  refine gm_iload_n d_M_obey_89 rfl ?_
  refine gm_iconst (v := nI 2) d_M_obey_90 (by decide) ?_
  refine gm_icmp_neN (tgt := 107) d_M_obey_91 (by decide) (by omega) (by omega) (fun _ => ?_) (fun q => absurd q (by omega))
  refine gm_iload_n d_M_obey_107 rfl ?_
  refine gm_iconst (v := nI 4) d_M_obey_108 (by decide) ?_
  refine gm_icmp_neN (tgt := 134) d_M_obey_109 (by decide) (by omega) (by omega) (fun _ => ?_) (fun q => absurd q (by omega))
  have Jl := J.less hi hr (by show (3 : Int32) ≠ 1; decide) (by show (3 : Int32) ≠ 2; decide)
  have Jo : ∀ k, k ≤ 4 → fz_J own W ns room (fc_outs (fc_del s (30 + i) 0) i bits [nI f, nI t, nr] k) := fun k hk => Jl.outs hi bits (Or.inl ⟨f, t, nr, hf, ht, rfl⟩) k hk
  have Uo : ∀ k, fc_iU ns (fc_outs (fc_del s (30 + i) 0) i bits [nI f, nI t, nr] k) := fun k => U1.same n5 (fc_sP.outs _ _ _ _ k)
  have key : ∀ (m k : Nat) (x5 : Option Value) (r1 : fr_S), k + m = 4 → fr_rel ns room idle (fc_outs (fc_del s (30 + i) 0) i bits [nI f, nI t, nr] k) r1 → r1.2 27 = (fr_take r (2 * i) n).2 27 → gm_W (fr_P A) fr_X g y_M_obey 3 80 (fun v r' => v = some (.int (nI 3)) ∧ fr_rel ns room idle (fc_outs (fc_del s (30 + i) 0) i bits [nI f, nI t, nr] 4) r') 137 [some (.ref (A 44)), some (.int (nI i)), some (.int (nI 3)), some (.int bits), some (.int (nI k)), x5] [] r1 := by
    intro m
    induction m with
    | zero =>
      intro k x5 r1 hk h9 h27
      have e4 : k = 4 := by omega
      subst e4
      refine gm_iload d_M_obey_137 rfl ?_
      refine gm_iconst (v := nI 4) d_M_obey_139 (by decide) ?_
      refine gm_icmp_geN (tgt := 222) d_M_obey_140 (by decide) (by omega) (by omega) (fun _ => ?_) (fun q => absurd q (by omega))
      refine gm_iload_n d_M_obey_222 rfl ?_
      refine gm_iret d_M_obey_223 rfl rfl ?_
      exact ⟨rfl, h9⟩
    | succ m ih =>
      intro k x5 r1 hk h9 h27
      have j2 : r1.2 27 2 = nI f := by rw [h27]; exact i2
      have j3 : r1.2 27 3 = nI t := by rw [h27]; exact i3
      have j4 : r1.2 27 4 = nr := by rw [h27]; exact i4
      refine gm_iload d_M_obey_137 rfl ?_
      refine gm_iconst (v := nI 4) d_M_obey_139 (by decide) ?_
      refine gm_icmp_geN (tgt := 222) d_M_obey_140 (by decide) (by omega) (by omega) (fun q => absurd q (by omega)) (fun _ => ?_)
      refine gm_iconst (v := nI 4) d_M_obey_143 (by decide) ?_
      refine gm_iload_n d_M_obey_144 rfl ?_
      first | refine gm_imulN d_M_obey_145 ?_ | refine gm_imul d_M_obey_145 ?_
      refine gm_iload d_M_obey_146 rfl ?_
      first | refine gm_iaddN d_M_obey_148 ?_ | refine gm_iadd d_M_obey_148 ?_
      refine gm_istore (L1 := [_, _, _, _, _, _]) d_M_obey_149 (by decide) rfl ?_
      refine gm_iload_n d_M_obey_151 rfl ?_
      refine gm_iconst (v := nI 3) d_M_obey_152 (by decide) ?_
      refine gm_icmp_neN (tgt := 190) d_M_obey_153 (by decide) (by omega) (by omega) (fun q => absurd q (by omega)) (fun _ => ?_)
      refine gm_iload_n d_M_obey_156 rfl ?_
      refine gm_iload d_M_obey_157 rfl ?_
      refine gm_ishr d_M_obey_159 ?_
      rw [am_sh4 (show k < 4 by omega)]
      refine gm_iconst (v := nI 1) d_M_obey_160 (by decide) ?_
      refine gm_iand d_M_obey_161 ?_
      refine gm_iconst (v := nI 1) d_M_obey_162 (by decide) ?_
      first | refine gm_icmp_neN (tgt := 190) d_M_obey_163 (by decide) (by omega) (by omega) (fun q163 => ?_) (fun q163 => ?_) | refine gm_icmp_ne (tgt := 190) d_M_obey_163 (by decide) (fun q163 => ?_) (fun q163 => ?_)
      · refine gm_iload_n d_M_obey_190 rfl ?_
        refine gm_iconst (v := nI 5) d_M_obey_191 (by decide) ?_
        refine gm_icmp_neN (tgt := 216) d_M_obey_192 (by decide) (by omega) (by omega) (fun _ => ?_) (fun q => absurd q (by omega))
        first | refine gm_iincN (b := 1) (L1 := [_, _, _, _, _, _]) d_M_obey_216 rfl (by decide) (by decide) rfl ?_ | refine gm_iinc (L1 := [_, _, _, _, _, _]) d_M_obey_216 rfl rfl (by decide) rfl ?_
        refine gm_goto (tgt := 137) d_M_obey_219 (by decide) ?_
        exact ih (k + 1) _ _ (by omega) (by rw [fc_outs_s, if_neg (show ¬ bits >>> nI k &&& 1 = 1 from q163)]; exact h9) (h27)
      · refine gm_aload_n d_M_obey_166 rfl (by first | exact am_rvR _ | exact am_rvN | assumption) ?_
        refine gm_iload d_M_obey_167 rfl ?_
        refine gm_aload_n d_M_obey_169 rfl (by first | exact am_rvR _ | exact am_rvN | assumption) ?_
        refine fr_gA 27 d_M_obey_170 f_M_77 (by decide) (by decide) ?_
        refine gm_iconst (v := nI 2) d_M_obey_173 (by decide) ?_
        refine fr_aldv d_M_obey_174 (by decide) rfl (show _ < 5 by omega) (by first | assumption | (simp only [fr_up_at, fr_up_s, fr_sc_at, fr_sc_a, Nat.reduceEqDiff, false_and, if_false, ite_false, reduceCtorEq]; first | assumption | rfl) | rfl) ?_
        refine gm_aload_n d_M_obey_175 rfl (by first | exact am_rvR _ | exact am_rvN | assumption) ?_
        refine fr_gA 27 d_M_obey_176 f_M_77 (by decide) (by decide) ?_
        refine gm_iconst (v := nI 3) d_M_obey_179 (by decide) ?_
        refine fr_aldv d_M_obey_180 (by decide) rfl (show _ < 5 by omega) (by first | assumption | (simp only [fr_up_at, fr_up_s, fr_sc_at, fr_sc_a, Nat.reduceEqDiff, false_and, if_false, ite_false, reduceCtorEq]; first | assumption | rfl) | rfl) ?_
        refine gm_aload_n d_M_obey_181 rfl (by first | exact am_rvR _ | exact am_rvN | assumption) ?_
        refine fr_gA 27 d_M_obey_182 f_M_77 (by decide) (by decide) ?_
        refine gm_iconst (v := nI 4) d_M_obey_185 (by decide) ?_
        refine fr_aldv d_M_obey_186 (by decide) rfl (show _ < 5 by omega) (by first | assumption | (simp only [fr_up_at, fr_up_s, fr_sc_at, fr_sc_a, Nat.reduceEqDiff, false_and, if_false, ite_false, reduceCtorEq]; first | assumption | rfl) | rfl) ?_
        refine gm_cV (b := A 44) d_M_obey_187 v_M_162 (vs := [(.int (nI (4 * i + k))), .int (nI f), .int (nI t), .int nr]) (st := []) rfl rfl (by decide) (Nat.le_of_ble_eq_true rfl) (fr_at _) (rf_out3 h9 (Jo k (by omega)).1 (Uo k) (show 4 * i + k < 4 * ns by omega) _ _ _ (Or.inl ⟨f, t, nr, hf, ht, rfl⟩)) ?_
        rintro v r2 ⟨rfl, h10, h11⟩
        refine gm_iload_n d_M_obey_190 rfl ?_
        refine gm_iconst (v := nI 5) d_M_obey_191 (by decide) ?_
        refine gm_icmp_neN (tgt := 216) d_M_obey_192 (by decide) (by omega) (by omega) (fun _ => ?_) (fun q => absurd q (by omega))
        first | refine gm_iincN (b := 1) (L1 := [_, _, _, _, _, _]) d_M_obey_216 rfl (by decide) (by decide) rfl ?_ | refine gm_iinc (L1 := [_, _, _, _, _, _]) d_M_obey_216 rfl rfl (by decide) rfl ?_
        refine gm_goto (tgt := 137) d_M_obey_219 (by decide) ?_
        exact ih (k + 1) _ _ (by omega) (by rw [fc_outs_s, if_pos (show bits >>> nI k &&& 1 = 1 from q163)]; exact h10) (by rw [h11]; exact h27)
  refine gm_iconst (v := nI 0) d_M_obey_134 (by decide) ?_
  refine gm_istore (L1 := [_, _, _, _, _, _]) d_M_obey_135 (by decide) rfl ?_
  refine gm_post (fun v r' hv => ?_) (key 4 0 _ _ rfl H1 rfl)
  exact ⟨hv.1, by rw [fc_d3]; exact hv.2⟩
theorem rf_ob_go {i n : Nat} {nr : Int32} {f t : Nat} (hf : f < 6) (ht : t < 6) {rest : List (List Int32)} (H : fr_rel ns room idle s r) (J : fz_J own W ns room s) (U : fc_iU ns s) (hi : i < ns) (hr : s (30 + i) = [4, -1, nI f, nI t, nr] :: rest) (hn : n = (s (30 + i)).length) : gm_W (fr_P A) fr_X g y_M_obey 3 80 (fun v r' => v = some (.int ([4, -1, nI f, nI t, nr].getD 0 0)) ∧ fr_rel ns room idle (fc_does room (fc_del s (30 + i) 0) i [4, -1, nI f, nI t, nr]) r') 28 [some (.ref (A 44)), some (.int (nI i)), none, none, none, none] [] (fr_take r (2 * i) n) := by
  have D := J.1
  have n5 := D.1.2.1
  have H1 := H.otake D hi
  have D1 : fc_iD ns room (fc_del s (30 + i) 0) := D.delL 0 (Or.inl ⟨by omega, by omega⟩)
  have U1 : fc_iU ns (fc_del s (30 + i) 0) := U.same n5 (fc_sP.up _ (by omega))
  rw [← hn] at H1
  have i0 : (fr_take r (2 * i) n).2 27 0 = nI 4 := H.oitem hi hr n (show 0 < 5 by decide)
  have i1 : (fr_take r (2 * i) n).2 27 1 = nI f := H.oitem hi hr n (show 1 < 5 by decide)
  have i2 : (fr_take r (2 * i) n).2 27 2 = nI t := H.oitem hi hr n (show 2 < 5 by decide)
  have i3 : (fr_take r (2 * i) n).2 27 3 = nr := H.oitem hi hr n (show 3 < 5 by decide)
  refine gm_aload_n d_M_obey_28 rfl (by first | exact am_rvR _ | exact am_rvN | assumption) ?_
  refine fr_gA 27 d_M_obey_29 f_M_77 (by decide) (by decide) ?_
  refine gm_iconst (v := nI 0) d_M_obey_32 (by decide) ?_
  refine fr_aldv d_M_obey_33 (by decide) rfl (show _ < 5 by omega) (by first | assumption | (simp only [fr_up_at, fr_up_s, fr_sc_at, fr_sc_a, Nat.reduceEqDiff, false_and, if_false, ite_false, reduceCtorEq]; first | assumption | rfl) | rfl) ?_
  refine gm_istore_n (L1 := [_, _, _, _, _, _]) d_M_obey_34 (by decide) rfl ?_
  refine gm_aload_n d_M_obey_35 rfl (by first | exact am_rvR _ | exact am_rvN | assumption) ?_
  refine fr_gA 27 d_M_obey_36 f_M_77 (by decide) (by decide) ?_
  refine gm_iconst (v := nI 1) d_M_obey_39 (by decide) ?_
  refine fr_aldv d_M_obey_40 (by decide) rfl (show _ < 5 by omega) (by first | assumption | (simp only [fr_up_at, fr_up_s, fr_sc_at, fr_sc_a, Nat.reduceEqDiff, false_and, if_false, ite_false, reduceCtorEq]; first | assumption | rfl) | rfl) ?_
  refine gm_istore_n (L1 := [_, _, _, _, _, _]) d_M_obey_41 (by decide) rfl ?_
  refine gm_iload_n d_M_obey_42 rfl ?_
  refine gm_if_neN (tgt := 61) d_M_obey_43 (by decide) (by omega) (fun _ => ?_) (fun q => absurd q (by omega))
  refine gm_iload_n d_M_obey_61 rfl ?_
  refine gm_iconst (v := nI 1) d_M_obey_62 (by decide) ?_
  refine gm_icmp_neN (tgt := 89) d_M_obey_63 (by decide) (by omega) (by omega) (fun _ => ?_) (fun q => absurd q (by omega))
  refine gm_iload_n d_M_obey_89 rfl ?_
  refine gm_iconst (v := nI 2) d_M_obey_90 (by decide) ?_
  refine gm_icmp_neN (tgt := 107) d_M_obey_91 (by decide) (by omega) (by omega) (fun _ => ?_) (fun q => absurd q (by omega))
  refine gm_iload_n d_M_obey_107 rfl ?_
  refine gm_iconst (v := nI 4) d_M_obey_108 (by decide) ?_
  refine gm_icmp_neN (tgt := 134) d_M_obey_109 (by decide) (by omega) (by omega) (fun q => absurd q (by omega)) (fun _ => ?_)
  refine gm_aload_n d_M_obey_112 rfl (by first | exact am_rvR _ | exact am_rvN | assumption) ?_
  refine gm_iload_n d_M_obey_113 rfl ?_
  refine gm_iconst (v := nI 4) d_M_obey_114 (by decide) ?_
  refine gm_iload_n d_M_obey_115 rfl ?_
  refine gm_aload_n d_M_obey_116 rfl (by first | exact am_rvR _ | exact am_rvN | assumption) ?_
  refine fr_gA 27 d_M_obey_117 f_M_77 (by decide) (by decide) ?_
  refine gm_iconst (v := nI 2) d_M_obey_120 (by decide) ?_
  refine fr_aldv d_M_obey_121 (by decide) rfl (show _ < 5 by omega) (by first | assumption | (simp only [fr_up_at, fr_up_s, fr_sc_at, fr_sc_a, Nat.reduceEqDiff, false_and, if_false, ite_false, reduceCtorEq]; first | assumption | rfl) | rfl) ?_
  refine gm_aload_n d_M_obey_122 rfl (by first | exact am_rvR _ | exact am_rvN | assumption) ?_
  refine fr_gA 27 d_M_obey_123 f_M_77 (by decide) (by decide) ?_
  refine gm_iconst (v := nI 3) d_M_obey_126 (by decide) ?_
  refine fr_aldv d_M_obey_127 (by decide) rfl (show _ < 5 by omega) (by first | assumption | (simp only [fr_up_at, fr_up_s, fr_sc_at, fr_sc_a, Nat.reduceEqDiff, false_and, if_false, ite_false, reduceCtorEq]; first | assumption | rfl) | rfl) ?_
  refine gm_cV (b := A 44) d_M_obey_128 v_M_166 (vs := [.int (nI i), .int (nI 4), .int (nI f), .int (nI t), .int nr]) (st := []) rfl rfl (by decide) (Nat.le_of_ble_eq_true rfl) (fr_at _) (rf_toRules H1 (J.less hi hr (by show (4 : Int32) ≠ 1; decide) (by show (4 : Int32) ≠ 2; decide)) U1 hi (Nat.le_refl 4) hf ht nr) ?_
  rintro v r1 ⟨rfl, h9⟩
  refine gm_goto (tgt := 222) d_M_obey_131 (by decide) ?_
  refine gm_iload_n d_M_obey_222 rfl ?_
  refine gm_iret d_M_obey_223 rfl rfl ?_
  exact ⟨rfl, by rw [fc_d4]; exact h9⟩
theorem rf_ob_prb {i n : Nat}  {rest : List (List Int32)} (H : fr_rel ns room idle s r) (J : fz_J own W ns room s) (U : fc_iU ns s) (hi : i < ns) (hr : s (30 + i) = [5, -1, -1, -1, 0] :: rest) (hn : n = (s (30 + i)).length) : gm_W (fr_P A) fr_X g y_M_obey 3 80 (fun v r' => v = some (.int ([5, -1, -1, -1, 0].getD 0 0)) ∧ fr_rel ns room idle (fc_does room (fc_del s (30 + i) 0) i [5, -1, -1, -1, 0]) r') 28 [some (.ref (A 44)), some (.int (nI i)), none, none, none, none] [] (fr_take r (2 * i) n) := by
  have D := J.1
  have n5 := D.1.2.1
  have H1 := H.otake D hi
  have D1 : fc_iD ns room (fc_del s (30 + i) 0) := D.delL 0 (Or.inl ⟨by omega, by omega⟩)
  have U1 : fc_iU ns (fc_del s (30 + i) 0) := U.same n5 (fc_sP.up _ (by omega))
  rw [← hn] at H1
  have i0 : (fr_take r (2 * i) n).2 27 0 = nI 5 := H.oitem hi hr n (show 0 < 5 by decide)
  have i1 : (fr_take r (2 * i) n).2 27 1 = nI 0 := H.oitem hi hr n (show 1 < 5 by decide)
  refine gm_aload_n d_M_obey_28 rfl (by first | exact am_rvR _ | exact am_rvN | assumption) ?_
  refine fr_gA 27 d_M_obey_29 f_M_77 (by decide) (by decide) ?_
  refine gm_iconst (v := nI 0) d_M_obey_32 (by decide) ?_
  refine fr_aldv d_M_obey_33 (by decide) rfl (show _ < 5 by omega) (by first | assumption | (simp only [fr_up_at, fr_up_s, fr_sc_at, fr_sc_a, Nat.reduceEqDiff, false_and, if_false, ite_false, reduceCtorEq]; first | assumption | rfl) | rfl) ?_
  refine gm_istore_n (L1 := [_, _, _, _, _, _]) d_M_obey_34 (by decide) rfl ?_
  refine gm_aload_n d_M_obey_35 rfl (by first | exact am_rvR _ | exact am_rvN | assumption) ?_
  refine fr_gA 27 d_M_obey_36 f_M_77 (by decide) (by decide) ?_
  refine gm_iconst (v := nI 1) d_M_obey_39 (by decide) ?_
  refine fr_aldv d_M_obey_40 (by decide) rfl (show _ < 5 by omega) (by first | assumption | (simp only [fr_up_at, fr_up_s, fr_sc_at, fr_sc_a, Nat.reduceEqDiff, false_and, if_false, ite_false, reduceCtorEq]; first | assumption | rfl) | rfl) ?_
  refine gm_istore_n (L1 := [_, _, _, _, _, _]) d_M_obey_41 (by decide) rfl ?_
  refine gm_iload_n d_M_obey_42 rfl ?_
  refine gm_if_neN (tgt := 61) d_M_obey_43 (by decide) (by omega) (fun _ => ?_) (fun q => absurd q (by omega))
  refine gm_iload_n d_M_obey_61 rfl ?_
  refine gm_iconst (v := nI 1) d_M_obey_62 (by decide) ?_
  refine gm_icmp_neN (tgt := 89) d_M_obey_63 (by decide) (by omega) (by omega) (fun _ => ?_) (fun q => absurd q (by omega))
  refine gm_iload_n d_M_obey_89 rfl ?_
  refine gm_iconst (v := nI 2) d_M_obey_90 (by decide) ?_
  refine gm_icmp_neN (tgt := 107) d_M_obey_91 (by decide) (by omega) (by omega) (fun _ => ?_) (fun q => absurd q (by omega))
  refine gm_iload_n d_M_obey_107 rfl ?_
  refine gm_iconst (v := nI 4) d_M_obey_108 (by decide) ?_
  refine gm_icmp_neN (tgt := 134) d_M_obey_109 (by decide) (by omega) (by omega) (fun _ => ?_) (fun q => absurd q (by omega))
  have Jl := J.less hi hr (by show (5 : Int32) ≠ 1; decide) (by show (5 : Int32) ≠ 2; decide)
  have Jo : ∀ k, k ≤ 4 → fz_J own W ns room (fc_prbs (fc_del s (30 + i) 0) i k) := fun k hk => Jl.prbs hi k hk
  have Uo : ∀ k, fc_iU ns (fc_prbs (fc_del s (30 + i) 0) i k) := fun k => U1.same n5 (fc_sP.prbs _ _ k)
  have key : ∀ (m k : Nat) (x5 : Option Value) (r1 : fr_S), k + m = 4 → fr_rel ns room idle (fc_prbs (fc_del s (30 + i) 0) i k) r1 → r1.2 27 = (fr_take r (2 * i) n).2 27 → gm_W (fr_P A) fr_X g y_M_obey 3 80 (fun v r' => v = some (.int (nI 5)) ∧ fr_rel ns room idle (fc_prbs (fc_del s (30 + i) 0) i 4) r') 137 [some (.ref (A 44)), some (.int (nI i)), some (.int (nI 5)), some (.int (nI 0)), some (.int (nI k)), x5] [] r1 := by
    intro m
    induction m with
    | zero =>
      intro k x5 r1 hk h9 h27
      have e4 : k = 4 := by omega
      subst e4
      refine gm_iload d_M_obey_137 rfl ?_
      refine gm_iconst (v := nI 4) d_M_obey_139 (by decide) ?_
      refine gm_icmp_geN (tgt := 222) d_M_obey_140 (by decide) (by omega) (by omega) (fun _ => ?_) (fun q => absurd q (by omega))
      refine gm_iload_n d_M_obey_222 rfl ?_
      refine gm_iret d_M_obey_223 rfl rfl ?_
      exact ⟨rfl, h9⟩
    | succ m ih =>
      intro k x5 r1 hk h9 h27
      obtain ⟨u, hu2, h4, hu0, hu2i, hu1, hu2m, hun⟩ := fr_use h9 (Jo k (by omega)).1 (show 4 * i + k < 4 * ns by omega)
      refine gm_iload d_M_obey_137 rfl ?_
      refine gm_iconst (v := nI 4) d_M_obey_139 (by decide) ?_
      refine gm_icmp_geN (tgt := 222) d_M_obey_140 (by decide) (by omega) (by omega) (fun q => absurd q (by omega)) (fun _ => ?_)
      refine gm_iconst (v := nI 4) d_M_obey_143 (by decide) ?_
      refine gm_iload_n d_M_obey_144 rfl ?_
      first | refine gm_imulN d_M_obey_145 ?_ | refine gm_imul d_M_obey_145 ?_
      refine gm_iload d_M_obey_146 rfl ?_
      first | refine gm_iaddN d_M_obey_148 ?_ | refine gm_iadd d_M_obey_148 ?_
      refine gm_istore (L1 := [_, _, _, _, _, _]) d_M_obey_149 (by decide) rfl ?_
      refine gm_iload_n d_M_obey_151 rfl ?_
      refine gm_iconst (v := nI 3) d_M_obey_152 (by decide) ?_
      refine gm_icmp_neN (tgt := 190) d_M_obey_153 (by decide) (by omega) (by omega) (fun _ => ?_) (fun q => absurd q (by omega))
      refine gm_iload_n d_M_obey_190 rfl ?_
      refine gm_iconst (v := nI 5) d_M_obey_191 (by decide) ?_
      refine gm_icmp_neN (tgt := 216) d_M_obey_192 (by decide) (by omega) (by omega) (fun q => absurd q (by omega)) (fun _ => ?_)
      refine gm_aload_n d_M_obey_195 rfl (by first | exact am_rvR _ | exact am_rvN | assumption) ?_
      refine fr_gA 4 d_M_obey_196 f_M_7 (by decide) (by decide) ?_
      refine gm_iload d_M_obey_199 rfl ?_
      refine fr_aldv d_M_obey_201 (by decide) rfl (show _ < 20 by omega) (by first | assumption | (simp only [fr_up_at, fr_up_s, fr_sc_at, fr_sc_a, Nat.reduceEqDiff, false_and, if_false, ite_false, reduceCtorEq]; first | assumption | rfl) | rfl) ?_
      refine gm_iconst (v := nI 2) d_M_obey_202 (by decide) ?_
      first | refine gm_icmp_neN (tgt := 216) d_M_obey_203 (by decide) (by omega) (by omega) (fun q203 => ?_) (fun q203 => ?_) | refine gm_icmp_ne (tgt := 216) d_M_obey_203 (by decide) (fun q203 => ?_) (fun q203 => ?_)
      · first | refine gm_iincN (b := 1) (L1 := [_, _, _, _, _, _]) d_M_obey_216 rfl (by decide) (by decide) rfl ?_ | refine gm_iinc (L1 := [_, _, _, _, _, _]) d_M_obey_216 rfl rfl (by decide) rfl ?_
        refine gm_goto (tgt := 137) d_M_obey_219 (by decide) ?_
        exact ih (k + 1) _ _ (by omega) (by rw [fc_prbs_s, if_neg (fun z => q203 (hu2i.mpr z))]; exact h9) (h27)
      · refine gm_aload_n d_M_obey_206 rfl (by first | exact am_rvR _ | exact am_rvN | assumption) ?_
        refine gm_iload d_M_obey_207 rfl ?_
        refine gm_iconst (v := (-1)) d_M_obey_209 (by decide) ?_
        refine gm_iload d_M_obey_210 rfl ?_
        refine gm_iconst (v := nI 0) d_M_obey_212 (by decide) ?_
        refine gm_cV (b := A 44) d_M_obey_213 v_M_162 (vs := [(.int (nI (4 * i + k))), .int (-1), (.int (nI (4 * i + k))), .int (nI 0)]) (st := []) rfl rfl (by decide) (Nat.le_of_ble_eq_true rfl) (fr_at _) (rf_out3 h9 (Jo k (by omega)).1 (Uo k) (show 4 * i + k < 4 * ns by omega) (-1) (nI (4 * i + k)) (nI 0) (Or.inr ⟨4 * i + k, by omega, rfl⟩)) ?_
        rintro v r2 ⟨rfl, h10, h11⟩
        first | refine gm_iincN (b := 1) (L1 := [_, _, _, _, _, _]) d_M_obey_216 rfl (by decide) (by decide) rfl ?_ | refine gm_iinc (L1 := [_, _, _, _, _, _]) d_M_obey_216 rfl rfl (by decide) rfl ?_
        refine gm_goto (tgt := 137) d_M_obey_219 (by decide) ?_
        exact ih (k + 1) _ _ (by omega) (by rw [fc_prbs_s, if_pos (hu2i.mp q203)]; exact h10) (by rw [h11]; exact h27)
  refine gm_iconst (v := nI 0) d_M_obey_134 (by decide) ?_
  refine gm_istore (L1 := [_, _, _, _, _, _]) d_M_obey_135 (by decide) rfl ?_
  refine gm_post (fun v r' hv => ?_) (key 4 0 _ _ rfl H1 rfl)
  exact ⟨hv.1, by rw [fc_d5]; exact hv.2⟩
theorem rf_obey (H : fr_rel ns room idle s r) (J : fz_J own W ns room s) (U : fc_iU ns s) (x : Int32) : gm_M (fr_P A) fr_X g y_M_obey "(I)I" 3 80 [.ref (A 44), .int x] (fun v r' => v = some (.int ((fc_obey ns room s x).1)) ∧ fr_rel ns room idle (fc_obey ns room s x).2 r') r := by
  have D := J.1
  have n5 := D.1.2.1
  refine gm_Mof (L0 := [some (.ref (A 44)), some (.int x), none, none, none, none]) pl_M_obey (am_k1 rfl (am_k1 rfl am_k0)) (Nat.le_of_ble_eq_true rfl) rfl ?_
  refine gm_aload_n d_M_obey_0 rfl (by first | exact am_rvR _ | exact am_rvN | assumption) ?_
  refine gm_iload_n d_M_obey_1 rfl ?_
  refine gm_cV (b := A 44) d_M_obey_2 v_M_133 (vs := [.int x]) (st := []) rfl rfl (by decide) (Nat.le_of_ble_eq_true rfl) (fr_at _) (rf_isSwitch H.1.1 x) ?_
  rintro v r1 ⟨rfl, hr1⟩
  subst r1
  first | refine gm_if_eqB (tgt := 19) d_M_obey_5 (by decide) (fun q5 => ?_) (fun q5 => ?_) | refine gm_if_eqN (tgt := 19) d_M_obey_5 (by decide) (by omega) (fun q5 => ?_) (fun q5 => ?_) | refine gm_if_eq (tgt := 19) d_M_obey_5 (by decide) (fun q5 => ?_) (fun q5 => ?_)
  · refine gm_iconst (v := (-1)) d_M_obey_19 (by decide) ?_
    refine gm_iret d_M_obey_20 rfl rfl ?_
    first | (refine ⟨?_, ?_⟩; (focus (rw [fc_obey_no q5]; try rfl)); (focus (rw [fc_obey_no q5]; exact H))) | (refine ⟨?_, ?_⟩; (focus (rw [fc_obey_nil n5 hi q5 q16]; try rfl)); (focus (rw [fc_obey_nil n5 hi q5 q16]; exact H)))
  · obtain ⟨i, hi, rfl⟩ := fc_sw_nat n5 q5
    have h25 : r.2 25 (2 * i) = nI (s (30 + i)).length := H.no hi
    have l59 := D.o59 hi
    refine gm_aload_n d_M_obey_8 rfl (by first | exact am_rvR _ | exact am_rvN | assumption) ?_
    refine fr_gA 25 d_M_obey_9 f_M_71 (by decide) (by decide) ?_
    refine gm_iconst (v := nI 2) d_M_obey_12 (by decide) ?_
    refine gm_iload_n d_M_obey_13 rfl ?_
    first | refine gm_imulN d_M_obey_14 ?_ | refine gm_imul d_M_obey_14 ?_
    refine fr_aldv d_M_obey_15 (by decide) rfl (show _ < 10 by omega) (by first | assumption | (simp only [fr_up_at, fr_up_s, fr_sc_at, fr_sc_a, Nat.reduceEqDiff, false_and, if_false, ite_false, reduceCtorEq]; first | assumption | rfl) | rfl) ?_
    first | refine gm_if_neB (tgt := 21) d_M_obey_16 (by decide) (fun q16 => ?_) (fun q16 => ?_) | refine gm_if_neN (tgt := 21) d_M_obey_16 (by decide) (by omega) (fun q16 => ?_) (fun q16 => ?_) | refine gm_if_ne (tgt := 21) d_M_obey_16 (by decide) (fun q16 => ?_) (fun q16 => ?_)
    · refine gm_aload_n d_M_obey_21 rfl (by first | exact am_rvR _ | exact am_rvN | assumption) ?_
      refine gm_iconst (v := nI 2) d_M_obey_22 (by decide) ?_
      refine gm_iload_n d_M_obey_23 rfl ?_
      first | refine gm_imulN d_M_obey_24 ?_ | refine gm_imul d_M_obey_24 ?_
      refine gm_cV (b := A 44) d_M_obey_25 v_M_186 (vs := [.int (nI (2 * i))]) (st := []) rfl rfl (by decide) (Nat.le_of_ble_eq_true rfl) (fr_at _) (rf_take (by omega) h25 (by omega) (by omega)) ?_
      rintro v r1 ⟨rfl, hr1⟩
      subst hr1
      obtain ⟨row, rest, hr⟩ : ∃ row rest, s (30 + i) = row :: rest := by
        cases hs : s (30 + i) with
        | nil => rw [hs] at q16; exact absurd rfl q16
        | cons a b => exact ⟨a, b, rfl⟩
      have hok := (D.2.2.2.2.2.2.1 i hi).1.2 row (by rw [hr]; exact List.mem_cons_self ..)
      obtain ⟨n, hn⟩ : ∃ n, n = (s (30 + i)).length := ⟨_, rfl⟩
      rw [← hn]
      rcases hok with ⟨p, f, t, hp, hf, ht, rfl⟩ | ⟨f, t, hf, ht, rfl⟩ | ⟨wv, rfl⟩ | ⟨bits, nr, f, t, hf, ht, rfl⟩ | ⟨nr, f, t, hf, ht, rfl⟩ | rfl
      · refine gm_post (fun v r1 hv => ?_) (rf_ob_put hp hf ht H J U hi hr hn)
        rw [fc_obey_1 n5 hi q5 hr, fc_obey_2 n5 hi q5 hr]
        exact hv
      · refine gm_post (fun v r1 hv => ?_) (rf_ob_cut hf ht H J U hi hr hn)
        rw [fc_obey_1 n5 hi q5 hr, fc_obey_2 n5 hi q5 hr]
        exact hv
      · refine gm_post (fun v r1 hv => ?_) (rf_ob_bar  H J U hi hr hn)
        rw [fc_obey_1 n5 hi q5 hr, fc_obey_2 n5 hi q5 hr]
        exact hv
      · refine gm_post (fun v r1 hv => ?_) (rf_ob_out hf ht H J U hi hr hn)
        rw [fc_obey_1 n5 hi q5 hr, fc_obey_2 n5 hi q5 hr]
        exact hv
      · refine gm_post (fun v r1 hv => ?_) (rf_ob_go hf ht H J U hi hr hn)
        rw [fc_obey_1 n5 hi q5 hr, fc_obey_2 n5 hi q5 hr]
        exact hv
      · refine gm_post (fun v r1 hv => ?_) (rf_ob_prb  H J U hi hr hn)
        rw [fc_obey_1 n5 hi q5 hr, fc_obey_2 n5 hi q5 hr]
        exact hv
    · refine gm_iconst (v := (-1)) d_M_obey_19 (by decide) ?_
      refine gm_iret d_M_obey_20 rfl rfl ?_
      first | (refine ⟨?_, ?_⟩; (focus (rw [fc_obey_no q5]; try rfl)); (focus (rw [fc_obey_no q5]; exact H))) | (refine ⟨?_, ?_⟩; (focus (rw [fc_obey_nil n5 hi q5 q16]; try rfl)); (focus (rw [fc_obey_nil n5 hi q5 q16]; exact H)))
end REM
