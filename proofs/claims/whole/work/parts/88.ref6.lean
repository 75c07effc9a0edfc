/-! the reference: a frame comes in -/
section REK
variable {g : am_G} {A : Nat → Nat} {r : fr_S} {ns room idle : Nat} {s : fc_S} {own : Int32 → Int32 × Int32} {W : Nat}
theorem rf_toRules {i p f t : Nat} (H : fr_rel ns room idle s r) (J : fz_J own W ns room s) (U : fc_iU ns s) (hi : i < ns) (hp : p ≤ 4) (hf : f < 6) (ht : t < 6) (nr : Int32) : gm_M (fr_P A) fr_X g y_M_toRules "(IIIII)V" 2 54 [.ref (A 44), .int (nI i), .int (nI p), .int (nI f), .int (nI t), .int nr] (fun v r' => v = none ∧ fr_rel ns room idle (fc_rules s i (nI p) (nI f) (nI t) nr) r') r := by
  have D := J.1
  have n5 := D.1.2.1
  have r8 := D.r8 i hi
  refine gm_Mof (L0 := [some (.ref (A 44)), some (.int (nI i)), some (.int (nI p)), some (.int (nI f)), some (.int (nI t)), some (.int nr), none]) pl_M_toRules (am_k1 rfl (am_k1 rfl (am_k1 rfl (am_k1 rfl (am_k1 rfl (am_k1 rfl am_k0)))))) (Nat.le_of_ble_eq_true rfl) rfl ?_
  refine gm_aload_n d_M_toRules_0 rfl (by first | exact am_rvR _ | exact am_rvN | assumption) ?_
  refine gm_iload_n d_M_toRules_1 rfl ?_
  refine gm_bipush (v := nI 6) d_M_toRules_2 (by decide) ?_
  refine gm_iload_n d_M_toRules_4 rfl ?_
  first | refine gm_imulN d_M_toRules_5 ?_ | refine gm_imul d_M_toRules_5 ?_
  refine gm_iload d_M_toRules_6 rfl ?_
  first | refine gm_iaddN d_M_toRules_8 ?_ | refine gm_iadd d_M_toRules_8 ?_
  refine gm_cV (b := A 44) d_M_toRules_9 v_M_170 (vs := [.int (nI i), .int (nI (6 * f + t))]) (st := []) rfl rfl (by decide) (Nat.le_of_ble_eq_true rfl) (fr_at _) (rf_ruleAt (by omega) (H.2.2.2.2.2.1 i hi).1 r8 (nI (6 * f + t))) ?_
  rintro v r1 ⟨rfl, hr1⟩
  subst r1
  rw [H.2.2.2.2.2.1.find D.2.2.2.2.2.1 hi hf ht]
  cases hx : fc_rix s i (nI f) (nI t) with
  | none =>
    rw [show fr_pos none (8 * i) = -1 from rfl]
    refine gm_istore (L1 := [_, _, _, _, _, _, _]) d_M_toRules_12 (by decide) rfl ?_
    refine gm_iload d_M_toRules_14 rfl ?_
    refine gm_if_ge (tgt := 32) d_M_toRules_16 (by decide) (fun q => absurd q (by decide)) (fun _ => ?_)
    refine gm_aload_n d_M_toRules_19 rfl (by first | exact am_rvR _ | exact am_rvN | assumption) ?_
    refine gm_iload_n d_M_toRules_20 rfl ?_
    refine gm_iconst (v := nI 0) d_M_toRules_21 (by decide) ?_
    refine gm_iload_n d_M_toRules_22 rfl ?_
    refine gm_iload_n d_M_toRules_23 rfl ?_
    refine gm_iload d_M_toRules_24 rfl ?_
    refine gm_iload d_M_toRules_26 rfl ?_
    refine gm_cV (b := A 44) d_M_toRules_28 v_M_148 (vs := [.int (nI i), .int (nI 0), .int (nI p), .int (nI f), .int (nI t), .int nr]) (st := []) rfl rfl (by decide) (Nat.le_of_ble_eq_true rfl) (fr_at _) (rf_tellR (row := [0, nI p, nI f, nI t, nr]) H n5 D.l60 hi (D.q59 hi) (by omega) rfl) ?_
    rintro v r1 ⟨rfl, h1⟩
    refine gm_vret d_M_toRules_31 rfl ?_
    exact ⟨rfl, by rw [fc_rules_none hx, ← fr_slight]; exact h1⟩
  | some k =>
    rw [show fr_pos (some k) (8 * i) = nI (8 * i + k) from rfl]
    have hk := fc_rix_some hx
    obtain ⟨f', t', p', mm, l, u, hf', ht', hp', hr⟩ := D.rr hi hk
    obtain ⟨-, h21, h22, -, -⟩ := (H.2.2.2.2.2.1 i hi).2 k _ hr
    replace h21 : r.2 21 (8 * i + k) = nI p' := h21
    replace h22 : r.2 22 (8 * i + k) = u := h22
    have h3 : r.1 3 = fc_get s 0 0 0 := H.1.2.2.2
    refine gm_istore (L1 := [_, _, _, _, _, _, _]) d_M_toRules_12 (by decide) rfl ?_
    refine gm_iload d_M_toRules_14 rfl ?_
    refine gm_if_geN (tgt := 32) d_M_toRules_16 (by decide) (by omega) (fun _ => ?_) (fun q => absurd q (by omega))
    refine gm_aload_n d_M_toRules_32 rfl (by first | exact am_rvR _ | exact am_rvN | assumption) ?_
    refine fr_gA 22 d_M_toRules_33 f_M_62 (by decide) (by decide) ?_
    refine gm_iload d_M_toRules_36 rfl ?_
    refine gm_dup2 d_M_toRules_38 rfl rfl ?_
    refine fr_aldv d_M_toRules_39 (by decide) rfl (show _ < 40 by omega) (by first | assumption | (simp only [fr_up_at, fr_up_s, fr_sc_at, fr_sc_a, Nat.reduceEqDiff, false_and, if_false, ite_false, reduceCtorEq]; first | assumption | rfl) | rfl) ?_
    refine gm_iconst (v := nI 1) d_M_toRules_40 (by decide) ?_
    first | refine gm_iaddN d_M_toRules_41 ?_ | refine gm_iadd d_M_toRules_41 ?_
    refine fr_ast d_M_toRules_42 (by decide) rfl (show _ < 40 by omega) ?_
    refine gm_aload_n d_M_toRules_43 rfl (by first | exact am_rvR _ | exact am_rvN | assumption) ?_
    refine fr_gA 24 d_M_toRules_44 f_M_68 (by decide) (by decide) ?_
    refine gm_iload d_M_toRules_47 rfl ?_
    refine gm_aload_n d_M_toRules_49 rfl (by first | exact am_rvR _ | exact am_rvN | assumption) ?_
    refine fr_gSv 3 d_M_toRules_50 f_M_174 (by decide) rfl (by first | assumption | (simp only [fr_up_at, fr_up_s, fr_sc_at, fr_sc_a, Nat.reduceEqDiff, false_and, if_false, ite_false, reduceCtorEq]; first | assumption | rfl) | rfl) ?_
    refine fr_ast d_M_toRules_53 (by decide) rfl (show _ < 40 by omega) ?_
    refine gm_aload_n d_M_toRules_54 rfl (by first | exact am_rvR _ | exact am_rvN | assumption) ?_
    refine gm_iconst (v := nI 4) d_M_toRules_55 (by decide) ?_
    refine gm_iload_n d_M_toRules_56 rfl ?_
    first | refine gm_imulN d_M_toRules_57 ?_ | refine gm_imul d_M_toRules_57 ?_
    refine gm_aload_n d_M_toRules_58 rfl (by first | exact am_rvR _ | exact am_rvN | assumption) ?_
    refine fr_gA 21 d_M_toRules_59 f_M_59 (by decide) (by decide) ?_
    refine gm_iload d_M_toRules_62 rfl ?_
    refine fr_aldv d_M_toRules_64 (by decide) rfl (show _ < 40 by omega) (by first | assumption | (simp only [fr_up_at, fr_up_s, fr_sc_at, fr_sc_a, Nat.reduceEqDiff, false_and, if_false, ite_false, reduceCtorEq]; first | assumption | rfl) | rfl) ?_
    first | refine gm_iaddN d_M_toRules_65 ?_ | refine gm_iadd d_M_toRules_65 ?_
    refine gm_iload_n d_M_toRules_66 rfl ?_
    refine gm_iload d_M_toRules_67 rfl ?_
    refine gm_iload d_M_toRules_69 rfl ?_
    refine gm_cV (b := A 44) d_M_toRules_71 v_M_162 (vs := [(.int (nI (4 * i + p'))), .int (nI f), .int (nI t), .int nr]) (st := []) rfl rfl (by decide) (Nat.le_of_ble_eq_true rfl) (fr_at _) (rf_out (H.ruse D hi hr (u + nI 1) (fc_get s 0 0 0)) (J.use hi hf' ht' hp' hr (u + nI 1) (fc_get s 0 0 0)).1 (U.same n5 (fc_sP.up _ (by omega))) (show 4 * i + p' < 4 * ns by omega) _ _ _ (Or.inl ⟨f, t, nr, hf, ht, rfl⟩)) ?_
    rintro v r1 ⟨rfl, h1⟩
    refine gm_vret d_M_toRules_74 rfl ?_
    exact ⟨rfl, by rw [fc_rules_some hx hr (by omega)]; exact h1⟩
theorem rf_comesIn {i p f t : Nat} (H : fr_rel ns room idle s r) (J : fz_J own W ns room s) (U : fc_iU ns s) (hi : i < ns) (hp : p ≤ 4) (hf : f < 6) (ht : t < 6) (nr : Int32) : gm_M (fr_P A) fr_X g y_M_comesIn "(IIIII)V" 3 80 [.ref (A 44), .int (nI i), .int (nI p), .int (nI f), .int (nI t), .int nr] (fun v r' => v = none ∧ fr_rel ns room idle (fc_in s i (nI p) (nI f) (nI t) nr) r') r := by
  have D := J.1
  have n5 := D.1.2.1
  have g4 := D.g4 i hi
  have h14 : r.2 14 i = nI (s (10 + i)).length := (H.2.2.2.2.1 i hi).1
  have key : ∀ (m k : Nat) (x8 : Option Value), k + m = (s (10 + i)).length → gm_W (fr_P A) fr_X g y_M_comesIn 3 80 (fun v r' => v = none ∧ fr_rel ns room idle (fc_in s i (nI p) (nI f) (nI t) nr) r') 8 [some (.ref (A 44)), some (.int (nI i)), some (.int (nI p)), some (.int (nI f)), some (.int (nI t)), some (.int nr), some (.int (fr_pos (fc_bst (s (10 + i)) (nI p) (nI f) (nI t) (k)) (4 * i))), some (.int (nI (4 * i + k))), x8] [] r := by
    intro m
    induction m with
    | zero =>
      intro k x8 hk
      have e1 : k = (s (10 + i)).length := by omega
      subst e1
      refine gm_iload d_M_comesIn_8 rfl ?_
      refine gm_iconst (v := nI 4) d_M_comesIn_10 (by decide) ?_
      refine gm_iload_n d_M_comesIn_11 rfl ?_
      first | refine gm_imulN d_M_comesIn_12 ?_ | refine gm_imul d_M_comesIn_12 ?_
      refine gm_aload_n d_M_comesIn_13 rfl (by first | exact am_rvR _ | exact am_rvN | assumption) ?_
      refine fr_gA 14 d_M_comesIn_14 f_M_38 (by decide) (by decide) ?_
      refine gm_iload_n d_M_comesIn_17 rfl ?_
      refine fr_aldv d_M_comesIn_18 (by decide) rfl (show _ < 5 by omega) (by first | assumption | (simp only [fr_up_at, fr_up_s, fr_sc_at, fr_sc_a, Nat.reduceEqDiff, false_and, if_false, ite_false, reduceCtorEq]; first | assumption | rfl) | rfl) ?_
      first | refine gm_iaddN d_M_comesIn_19 ?_ | refine gm_iadd d_M_comesIn_19 ?_
      refine gm_icmp_geN (tgt := 89) d_M_comesIn_20 (by decide) (by omega) (by omega) (fun _ => ?_) (fun q => absurd q (by omega))
      cases hb : fc_bst (s (10 + i)) (nI p) (nI f) (nI t) ((s (10 + i)).length) with
      | none =>
        rw [show fr_pos none (4 * i) = -1 from rfl]
        refine gm_iconst (v := nI 5) d_M_comesIn_89 (by decide) ?_
        refine gm_istore (L1 := [_, _, _, _, _, _, _, _, _]) d_M_comesIn_90 (by decide) rfl ?_
        refine gm_iload d_M_comesIn_92 rfl ?_
        refine gm_if_lt (tgt := 117) d_M_comesIn_94 (by decide) (fun _ => ?_) (fun q => absurd (by decide) q)
        refine gm_iload d_M_comesIn_117 rfl ?_
        refine gm_iconst (v := nI 4) d_M_comesIn_119 (by decide) ?_
        refine gm_icmp_geN (tgt := 141) d_M_comesIn_120 (by decide) (by omega) (by omega) (fun _ => ?_) (fun q => absurd q (by omega))
        refine gm_iload d_M_comesIn_141 rfl ?_
        refine gm_iconst (v := nI 5) d_M_comesIn_143 (by decide) ?_
        refine gm_icmp_neN (tgt := 161) d_M_comesIn_144 (by decide) (by omega) (by omega) (fun q => absurd q (by omega)) (fun _ => ?_)
        refine gm_aload_n d_M_comesIn_147 rfl (by first | exact am_rvR _ | exact am_rvN | assumption) ?_
        refine gm_iload_n d_M_comesIn_148 rfl ?_
        refine gm_iload_n d_M_comesIn_149 rfl ?_
        refine gm_iload_n d_M_comesIn_150 rfl ?_
        refine gm_iload d_M_comesIn_151 rfl ?_
        refine gm_iload d_M_comesIn_153 rfl ?_
        refine gm_cV (b := A 44) d_M_comesIn_155 v_M_166 (vs := [.int (nI i), .int (nI p), .int (nI f), .int (nI t), .int nr]) (st := []) rfl rfl (by decide) (Nat.le_of_ble_eq_true rfl) (fr_at _) (rf_toRules H J U hi hp hf ht nr) ?_
        rintro v r1 ⟨rfl, h1⟩
        refine gm_goto (tgt := 180) d_M_comesIn_158 (by decide) ?_
        refine gm_vret d_M_comesIn_180 rfl ?_
        exact ⟨rfl, by rw [fc_in_none hb]; exact h1⟩
      | some b =>
        rw [show fr_pos (some b) (4 * i) = nI (4 * i + b) from rfl]
        have hbl := fc_bst_lt hb
        obtain ⟨pb, mb, v0, y, hpb, hmb, hvb, hr⟩ := D.gr hi hbl
        obtain ⟨-, -, h17, h18⟩ := (H.2.2.2.2.1 i hi).2 b _ hr
        replace h17 : r.2 17 (4 * i + b) = nI v0 := h17
        replace h18 : r.2 18 (4 * i + b) = y := h18
        refine gm_iconst (v := nI 5) d_M_comesIn_89 (by decide) ?_
        refine gm_istore (L1 := [_, _, _, _, _, _, _, _, _]) d_M_comesIn_90 (by decide) rfl ?_
        refine gm_iload d_M_comesIn_92 rfl ?_
        refine gm_if_ltN (tgt := 117) d_M_comesIn_94 (by decide) (by omega) (fun q => absurd q (by omega)) (fun _ => ?_)
        refine gm_aload_n d_M_comesIn_97 rfl (by first | exact am_rvR _ | exact am_rvN | assumption) ?_
        refine fr_gA 18 d_M_comesIn_98 f_M_50 (by decide) (by decide) ?_
        refine gm_iload d_M_comesIn_101 rfl ?_
        refine gm_dup2 d_M_comesIn_103 rfl rfl ?_
        refine fr_aldv d_M_comesIn_104 (by decide) rfl (show _ < 20 by omega) (by first | assumption | (simp only [fr_up_at, fr_up_s, fr_sc_at, fr_sc_a, Nat.reduceEqDiff, false_and, if_false, ite_false, reduceCtorEq]; first | assumption | rfl) | rfl) ?_
        refine gm_iconst (v := nI 1) d_M_comesIn_105 (by decide) ?_
        first | refine gm_iaddN d_M_comesIn_106 ?_ | refine gm_iadd d_M_comesIn_106 ?_
        refine fr_ast d_M_comesIn_107 (by decide) rfl (show _ < 20 by omega) ?_
        refine gm_aload_n d_M_comesIn_108 rfl (by first | exact am_rvR _ | exact am_rvN | assumption) ?_
        refine fr_gA 17 d_M_comesIn_109 f_M_47 (by decide) (by decide) ?_
        refine gm_iload d_M_comesIn_112 rfl ?_
        refine fr_aldv d_M_comesIn_114 (by decide) rfl (show _ < 20 by omega) (by first | assumption | (simp only [fr_up_at, fr_up_s, fr_sc_at, fr_sc_a, Nat.reduceEqDiff, false_and, if_false, ite_false, reduceCtorEq]; first | assumption | rfl) | rfl) ?_
        refine gm_istore (L1 := [_, _, _, _, _, _, _, _, _]) d_M_comesIn_115 (by decide) rfl ?_
        refine gm_iload d_M_comesIn_117 rfl ?_
        refine gm_iconst (v := nI 4) d_M_comesIn_119 (by decide) ?_
        first | refine gm_icmp_geN (tgt := 141) d_M_comesIn_120 (by decide) (by omega) (by omega) (fun q120 => ?_) (fun q120 => ?_) | refine gm_icmp_ge (tgt := 141) d_M_comesIn_120 (by decide) (fun q120 => ?_) (fun q120 => ?_)
        · refine gm_iload d_M_comesIn_141 rfl ?_
          refine gm_iconst (v := nI 5) d_M_comesIn_143 (by decide) ?_
          first | refine gm_icmp_neN (tgt := 161) d_M_comesIn_144 (by decide) (by omega) (by omega) (fun q144 => ?_) (fun q144 => ?_) | refine gm_icmp_ne (tgt := 161) d_M_comesIn_144 (by decide) (fun q144 => ?_) (fun q144 => ?_)
          · refine gm_iload d_M_comesIn_161 rfl ?_
            refine gm_bipush (v := nI 6) d_M_comesIn_163 (by decide) ?_
            first | refine gm_icmp_neN (tgt := 180) d_M_comesIn_165 (by decide) (by omega) (by omega) (fun q165 => ?_) (fun q165 => ?_) | refine gm_icmp_ne (tgt := 180) d_M_comesIn_165 (by decide) (fun q165 => ?_) (fun q165 => ?_)
            · refine gm_vret d_M_comesIn_180 rfl ?_
              first | (refine ⟨rfl, ?_⟩; rw [fc_in_some hb hr (show v0 < 1000 by omega), if_pos (show v0 < 4 by omega)]; exact h1) | (refine ⟨rfl, ?_⟩; rw [fc_in_some hb hr (show v0 < 1000 by omega), if_neg (show ¬ v0 < 4 by omega), if_pos (show v0 = 5 by omega)]; exact h1) | (refine ⟨rfl, ?_⟩; rw [fc_in_some hb hr (show v0 < 1000 by omega), if_neg (show ¬ v0 < 4 by omega), if_neg (show ¬ v0 = 5 by omega), if_pos (show v0 = 6 by omega), ← fr_slight]; exact h1) | (refine ⟨rfl, ?_⟩; rw [fc_in_some hb hr (show v0 < 1000 by omega), if_neg (show ¬ v0 < 4 by omega), if_neg (show ¬ v0 = 5 by omega), if_neg (show ¬ v0 = 6 by omega)]; exact (H.ghit D hi hr (y + nI 1)))
            · refine gm_aload_n d_M_comesIn_168 rfl (by first | exact am_rvR _ | exact am_rvN | assumption) ?_
              refine gm_iload_n d_M_comesIn_169 rfl ?_
              refine gm_iconst (v := nI 0) d_M_comesIn_170 (by decide) ?_
              refine gm_iload_n d_M_comesIn_171 rfl ?_
              refine gm_iload_n d_M_comesIn_172 rfl ?_
              refine gm_iload d_M_comesIn_173 rfl ?_
              refine gm_iload d_M_comesIn_175 rfl ?_
              refine gm_cV (b := A 44) d_M_comesIn_177 v_M_148 (vs := [.int (nI i), .int (nI 0), .int (nI p), .int (nI f), .int (nI t), .int nr]) (st := []) rfl rfl (by decide) (Nat.le_of_ble_eq_true rfl) (fr_at _) (rf_tellR (row := [0, nI p, nI f, nI t, nr]) (H.ghit D hi hr (y + nI 1)) n5 (J.hits hi hr (y + nI 1)).1.l60 hi ((J.hits hi hr (y + nI 1)).1.q59 hi) (by omega) rfl) ?_
              rintro v r1 ⟨rfl, h1⟩
              refine gm_vret d_M_comesIn_180 rfl ?_
              first | (refine ⟨rfl, ?_⟩; rw [fc_in_some hb hr (show v0 < 1000 by omega), if_pos (show v0 < 4 by omega)]; exact h1) | (refine ⟨rfl, ?_⟩; rw [fc_in_some hb hr (show v0 < 1000 by omega), if_neg (show ¬ v0 < 4 by omega), if_pos (show v0 = 5 by omega)]; exact h1) | (refine ⟨rfl, ?_⟩; rw [fc_in_some hb hr (show v0 < 1000 by omega), if_neg (show ¬ v0 < 4 by omega), if_neg (show ¬ v0 = 5 by omega), if_pos (show v0 = 6 by omega), ← fr_slight]; exact h1) | (refine ⟨rfl, ?_⟩; rw [fc_in_some hb hr (show v0 < 1000 by omega), if_neg (show ¬ v0 < 4 by omega), if_neg (show ¬ v0 = 5 by omega), if_neg (show ¬ v0 = 6 by omega)]; exact (H.ghit D hi hr (y + nI 1)))
          · refine gm_aload_n d_M_comesIn_147 rfl (by first | exact am_rvR _ | exact am_rvN | assumption) ?_
            refine gm_iload_n d_M_comesIn_148 rfl ?_
            refine gm_iload_n d_M_comesIn_149 rfl ?_
            refine gm_iload_n d_M_comesIn_150 rfl ?_
            refine gm_iload d_M_comesIn_151 rfl ?_
            refine gm_iload d_M_comesIn_153 rfl ?_
            refine gm_cV (b := A 44) d_M_comesIn_155 v_M_166 (vs := [.int (nI i), .int (nI p), .int (nI f), .int (nI t), .int nr]) (st := []) rfl rfl (by decide) (Nat.le_of_ble_eq_true rfl) (fr_at _) (rf_toRules (H.ghit D hi hr (y + nI 1)) (J.hits hi hr (y + nI 1)) (U.same n5 (fc_sP.up _ (by omega))) hi hp hf ht nr) ?_
            rintro v r1 ⟨rfl, h1⟩
            refine gm_goto (tgt := 180) d_M_comesIn_158 (by decide) ?_
            refine gm_vret d_M_comesIn_180 rfl ?_
            first | (refine ⟨rfl, ?_⟩; rw [fc_in_some hb hr (show v0 < 1000 by omega), if_pos (show v0 < 4 by omega)]; exact h1) | (refine ⟨rfl, ?_⟩; rw [fc_in_some hb hr (show v0 < 1000 by omega), if_neg (show ¬ v0 < 4 by omega), if_pos (show v0 = 5 by omega)]; exact h1) | (refine ⟨rfl, ?_⟩; rw [fc_in_some hb hr (show v0 < 1000 by omega), if_neg (show ¬ v0 < 4 by omega), if_neg (show ¬ v0 = 5 by omega), if_pos (show v0 = 6 by omega), ← fr_slight]; exact h1) | (refine ⟨rfl, ?_⟩; rw [fc_in_some hb hr (show v0 < 1000 by omega), if_neg (show ¬ v0 < 4 by omega), if_neg (show ¬ v0 = 5 by omega), if_neg (show ¬ v0 = 6 by omega)]; exact (H.ghit D hi hr (y + nI 1)))
        · refine gm_aload_n d_M_comesIn_123 rfl (by first | exact am_rvR _ | exact am_rvN | assumption) ?_
          refine gm_iconst (v := nI 4) d_M_comesIn_124 (by decide) ?_
          refine gm_iload_n d_M_comesIn_125 rfl ?_
          first | refine gm_imulN d_M_comesIn_126 ?_ | refine gm_imul d_M_comesIn_126 ?_
          refine gm_iload d_M_comesIn_127 rfl ?_
          first | refine gm_iaddN d_M_comesIn_129 ?_ | refine gm_iadd d_M_comesIn_129 ?_
          refine gm_iload_n d_M_comesIn_130 rfl ?_
          refine gm_iload d_M_comesIn_131 rfl ?_
          refine gm_iload d_M_comesIn_133 rfl ?_
          refine gm_cV (b := A 44) d_M_comesIn_135 v_M_162 (vs := [(.int (nI (4 * i + v0))), .int (nI f), .int (nI t), .int nr]) (st := []) rfl rfl (by decide) (Nat.le_of_ble_eq_true rfl) (fr_at _) (rf_out (H.ghit D hi hr (y + nI 1)) (J.hits hi hr (y + nI 1)).1 (U.same n5 (fc_sP.up _ (by omega))) (show 4 * i + v0 < 4 * ns by omega) _ _ _ (Or.inl ⟨f, t, nr, hf, ht, rfl⟩)) ?_
          rintro v r1 ⟨rfl, h1⟩
          refine gm_goto (tgt := 180) d_M_comesIn_138 (by decide) ?_
          refine gm_vret d_M_comesIn_180 rfl ?_
          first | (refine ⟨rfl, ?_⟩; rw [fc_in_some hb hr (show v0 < 1000 by omega), if_pos (show v0 < 4 by omega)]; exact h1) | (refine ⟨rfl, ?_⟩; rw [fc_in_some hb hr (show v0 < 1000 by omega), if_neg (show ¬ v0 < 4 by omega), if_pos (show v0 = 5 by omega)]; exact h1) | (refine ⟨rfl, ?_⟩; rw [fc_in_some hb hr (show v0 < 1000 by omega), if_neg (show ¬ v0 < 4 by omega), if_neg (show ¬ v0 = 5 by omega), if_pos (show v0 = 6 by omega), ← fr_slight]; exact h1) | (refine ⟨rfl, ?_⟩; rw [fc_in_some hb hr (show v0 < 1000 by omega), if_neg (show ¬ v0 < 4 by omega), if_neg (show ¬ v0 = 5 by omega), if_neg (show ¬ v0 = 6 by omega)]; exact (H.ghit D hi hr (y + nI 1)))
    | succ m ih =>
      intro k x8 hk
      obtain ⟨pk, mk, vk, yk, hpk, hmk, hvk, hrk⟩ := D.gr hi (show k < (s (10 + i)).length by omega)
      obtain ⟨h15, h16, -, -⟩ := (H.2.2.2.2.1 i hi).2 k _ hrk
      replace h15 : r.2 15 (4 * i + k) = nI pk := h15
      replace h16 : r.2 16 (4 * i + k) = nI mk := h16
      cases hb : fc_bst (s (10 + i)) (nI p) (nI f) (nI t) (k) with
      | none =>
        rw [show fr_pos none (4 * i) = -1 from rfl]
        refine gm_iload d_M_comesIn_8 rfl ?_
        refine gm_iconst (v := nI 4) d_M_comesIn_10 (by decide) ?_
        refine gm_iload_n d_M_comesIn_11 rfl ?_
        first | refine gm_imulN d_M_comesIn_12 ?_ | refine gm_imul d_M_comesIn_12 ?_
        refine gm_aload_n d_M_comesIn_13 rfl (by first | exact am_rvR _ | exact am_rvN | assumption) ?_
        refine fr_gA 14 d_M_comesIn_14 f_M_38 (by decide) (by decide) ?_
        refine gm_iload_n d_M_comesIn_17 rfl ?_
        refine fr_aldv d_M_comesIn_18 (by decide) rfl (show _ < 5 by omega) (by first | assumption | (simp only [fr_up_at, fr_up_s, fr_sc_at, fr_sc_a, Nat.reduceEqDiff, false_and, if_false, ite_false, reduceCtorEq]; first | assumption | rfl) | rfl) ?_
        first | refine gm_iaddN d_M_comesIn_19 ?_ | refine gm_iadd d_M_comesIn_19 ?_
        refine gm_icmp_geN (tgt := 89) d_M_comesIn_20 (by decide) (by omega) (by omega) (fun q => absurd q (by omega)) (fun _ => ?_)
        refine gm_aload_n d_M_comesIn_23 rfl (by first | exact am_rvR _ | exact am_rvN | assumption) ?_
        refine fr_gA 16 d_M_comesIn_24 f_M_44 (by decide) (by decide) ?_
        refine gm_iload d_M_comesIn_27 rfl ?_
        refine fr_aldv d_M_comesIn_29 (by decide) rfl (show _ < 20 by omega) (by first | assumption | (simp only [fr_up_at, fr_up_s, fr_sc_at, fr_sc_a, Nat.reduceEqDiff, false_and, if_false, ite_false, reduceCtorEq]; first | assumption | rfl) | rfl) ?_
        refine gm_iload_n d_M_comesIn_30 rfl ?_
        refine gm_iload_n d_M_comesIn_31 rfl ?_
        refine gm_iload d_M_comesIn_32 rfl ?_
        refine gm_cS d_M_comesIn_34 s_M_158 (vs := [.int (nI mk), .int (nI p), .int (nI f), .int (nI t)]) (st := []) rfl rfl (by decide) (Nat.le_of_ble_eq_true rfl) (rf_matches hmk (by omega) (by omega) (by omega)) ?_
        rintro v r1 ⟨rfl, hr1⟩
        subst r1
        first | refine gm_if_eqB (tgt := 66) d_M_comesIn_37 (by decide) (fun q37 => ?_) (fun q37 => ?_) | refine gm_if_eqN (tgt := 66) d_M_comesIn_37 (by decide) (by omega) (fun q37 => ?_) (fun q37 => ?_) | refine gm_if_eq (tgt := 66) d_M_comesIn_37 (by decide) (fun q37 => ?_) (fun q37 => ?_)
        · refine gm_iconst (v := nI 0) d_M_comesIn_66 (by decide) ?_
          refine gm_istore (L1 := [_, _, _, _, _, _, _, _, _]) d_M_comesIn_67 (by decide) rfl ?_
          refine gm_iload d_M_comesIn_69 rfl ?_
          refine gm_if_eqN (tgt := 79) d_M_comesIn_71 (by decide) (by omega) (fun _ => ?_) (fun q => absurd q (by omega))
          refine gm_iload d_M_comesIn_79 rfl ?_
          refine gm_istore (L1 := [_, _, _, _, _, _, _, _, _]) d_M_comesIn_81 (by decide) rfl ?_
          first | refine gm_iincN (b := 1) (L1 := [_, _, _, _, _, _, _, _, _]) d_M_comesIn_83 rfl (by decide) (by decide) rfl ?_ | refine gm_iinc (L1 := [_, _, _, _, _, _, _, _, _]) d_M_comesIn_83 rfl rfl (by decide) rfl ?_
          refine gm_goto (tgt := 8) d_M_comesIn_86 (by decide) ?_
          have e9 : fc_bst (s (10 + i)) (nI p) (nI f) (nI t) (k + 1) = none := fc_bst_n0 hrk rfl hb q37
          have h9 := ih (k + 1) (some (.int (nI 0))) (by omega)
          rw [e9] at h9
          exact h9
        · refine gm_iload d_M_comesIn_40 rfl ?_
          refine gm_if_lt (tgt := 62) d_M_comesIn_42 (by decide) (fun _ => ?_) (fun q => absurd (by decide) q)
          refine gm_iconst (v := nI 1) d_M_comesIn_62 (by decide) ?_
          refine gm_goto (tgt := 67) d_M_comesIn_63 (by decide) ?_
          refine gm_istore (L1 := [_, _, _, _, _, _, _, _, _]) d_M_comesIn_67 (by decide) rfl ?_
          refine gm_iload d_M_comesIn_69 rfl ?_
          refine gm_if_eqN (tgt := 79) d_M_comesIn_71 (by decide) (by omega) (fun q => absurd q (by omega)) (fun _ => ?_)
          refine gm_iload d_M_comesIn_74 rfl ?_
          refine gm_goto (tgt := 81) d_M_comesIn_76 (by decide) ?_
          refine gm_istore (L1 := [_, _, _, _, _, _, _, _, _]) d_M_comesIn_81 (by decide) rfl ?_
          first | refine gm_iincN (b := 1) (L1 := [_, _, _, _, _, _, _, _, _]) d_M_comesIn_83 rfl (by decide) (by decide) rfl ?_ | refine gm_iinc (L1 := [_, _, _, _, _, _, _, _, _]) d_M_comesIn_83 rfl rfl (by decide) rfl ?_
          refine gm_goto (tgt := 8) d_M_comesIn_86 (by decide) ?_
          have e9 : fc_bst (s (10 + i)) (nI p) (nI f) (nI t) (k + 1) = some k := fc_bst_n1 hrk rfl hb q37
          have h9 := ih (k + 1) (some (.int (nI 1))) (by omega)
          rw [e9] at h9
          exact h9
      | some b =>
        rw [show fr_pos (some b) (4 * i) = nI (4 * i + b) from rfl]
        have hbl := fc_bst_lt hb
        obtain ⟨pb, mb, vb, yb, hpb, hmb, hvb, hrb⟩ := D.gr hi (show b < (s (10 + i)).length by omega)
        have h15b : r.2 15 (4 * i + b) = nI pb := ((H.2.2.2.2.1 i hi).2 b _ hrb).1
        refine gm_iload d_M_comesIn_8 rfl ?_
        refine gm_iconst (v := nI 4) d_M_comesIn_10 (by decide) ?_
        refine gm_iload_n d_M_comesIn_11 rfl ?_
        first | refine gm_imulN d_M_comesIn_12 ?_ | refine gm_imul d_M_comesIn_12 ?_
        refine gm_aload_n d_M_comesIn_13 rfl (by first | exact am_rvR _ | exact am_rvN | assumption) ?_
        refine fr_gA 14 d_M_comesIn_14 f_M_38 (by decide) (by decide) ?_
        refine gm_iload_n d_M_comesIn_17 rfl ?_
        refine fr_aldv d_M_comesIn_18 (by decide) rfl (show _ < 5 by omega) (by first | assumption | (simp only [fr_up_at, fr_up_s, fr_sc_at, fr_sc_a, Nat.reduceEqDiff, false_and, if_false, ite_false, reduceCtorEq]; first | assumption | rfl) | rfl) ?_
        first | refine gm_iaddN d_M_comesIn_19 ?_ | refine gm_iadd d_M_comesIn_19 ?_
        refine gm_icmp_geN (tgt := 89) d_M_comesIn_20 (by decide) (by omega) (by omega) (fun q => absurd q (by omega)) (fun _ => ?_)
        refine gm_aload_n d_M_comesIn_23 rfl (by first | exact am_rvR _ | exact am_rvN | assumption) ?_
        refine fr_gA 16 d_M_comesIn_24 f_M_44 (by decide) (by decide) ?_
        refine gm_iload d_M_comesIn_27 rfl ?_
        refine fr_aldv d_M_comesIn_29 (by decide) rfl (show _ < 20 by omega) (by first | assumption | (simp only [fr_up_at, fr_up_s, fr_sc_at, fr_sc_a, Nat.reduceEqDiff, false_and, if_false, ite_false, reduceCtorEq]; first | assumption | rfl) | rfl) ?_
        refine gm_iload_n d_M_comesIn_30 rfl ?_
        refine gm_iload_n d_M_comesIn_31 rfl ?_
        refine gm_iload d_M_comesIn_32 rfl ?_
        refine gm_cS d_M_comesIn_34 s_M_158 (vs := [.int (nI mk), .int (nI p), .int (nI f), .int (nI t)]) (st := []) rfl rfl (by decide) (Nat.le_of_ble_eq_true rfl) (rf_matches hmk (by omega) (by omega) (by omega)) ?_
        rintro v r1 ⟨rfl, hr1⟩
        subst r1
        first | refine gm_if_eqB (tgt := 66) d_M_comesIn_37 (by decide) (fun q37 => ?_) (fun q37 => ?_) | refine gm_if_eqN (tgt := 66) d_M_comesIn_37 (by decide) (by omega) (fun q37 => ?_) (fun q37 => ?_) | refine gm_if_eq (tgt := 66) d_M_comesIn_37 (by decide) (fun q37 => ?_) (fun q37 => ?_)
        · refine gm_iconst (v := nI 0) d_M_comesIn_66 (by decide) ?_
          refine gm_istore (L1 := [_, _, _, _, _, _, _, _, _]) d_M_comesIn_67 (by decide) rfl ?_
          refine gm_iload d_M_comesIn_69 rfl ?_
          refine gm_if_eqN (tgt := 79) d_M_comesIn_71 (by decide) (by omega) (fun _ => ?_) (fun q => absurd q (by omega))
          refine gm_iload d_M_comesIn_79 rfl ?_
          refine gm_istore (L1 := [_, _, _, _, _, _, _, _, _]) d_M_comesIn_81 (by decide) rfl ?_
          first | refine gm_iincN (b := 1) (L1 := [_, _, _, _, _, _, _, _, _]) d_M_comesIn_83 rfl (by decide) (by decide) rfl ?_ | refine gm_iinc (L1 := [_, _, _, _, _, _, _, _, _]) d_M_comesIn_83 rfl rfl (by decide) rfl ?_
          refine gm_goto (tgt := 8) d_M_comesIn_86 (by decide) ?_
          have e9 : fc_bst (s (10 + i)) (nI p) (nI f) (nI t) (k + 1) = some b := fc_bst_s0 hrk rfl hb hrb rfl rfl (by omega) (by omega) (by first | exact Or.inl q37 | exact Or.inr q59)
          have h9 := ih (k + 1) (some (.int (nI 0))) (by omega)
          rw [e9] at h9
          exact h9
        · refine gm_iload d_M_comesIn_40 rfl ?_
          refine gm_if_ltN (tgt := 62) d_M_comesIn_42 (by decide) (by omega) (fun q => absurd q (by omega)) (fun _ => ?_)
          refine gm_aload_n d_M_comesIn_45 rfl (by first | exact am_rvR _ | exact am_rvN | assumption) ?_
          refine fr_gA 15 d_M_comesIn_46 f_M_41 (by decide) (by decide) ?_
          refine gm_iload d_M_comesIn_49 rfl ?_
          refine fr_aldv d_M_comesIn_51 (by decide) rfl (show _ < 20 by omega) (by first | assumption | (simp only [fr_up_at, fr_up_s, fr_sc_at, fr_sc_a, Nat.reduceEqDiff, false_and, if_false, ite_false, reduceCtorEq]; first | assumption | rfl) | rfl) ?_
          refine gm_aload_n d_M_comesIn_52 rfl (by first | exact am_rvR _ | exact am_rvN | assumption) ?_
          refine fr_gA 15 d_M_comesIn_53 f_M_41 (by decide) (by decide) ?_
          refine gm_iload d_M_comesIn_56 rfl ?_
          refine fr_aldv d_M_comesIn_58 (by decide) rfl (show _ < 20 by omega) (by first | assumption | (simp only [fr_up_at, fr_up_s, fr_sc_at, fr_sc_a, Nat.reduceEqDiff, false_and, if_false, ite_false, reduceCtorEq]; first | assumption | rfl) | rfl) ?_
          first | refine gm_icmp_leN (tgt := 66) d_M_comesIn_59 (by decide) (by omega) (by omega) (fun q59 => ?_) (fun q59 => ?_) | refine gm_icmp_le (tgt := 66) d_M_comesIn_59 (by decide) (fun q59 => ?_) (fun q59 => ?_)
          · refine gm_iconst (v := nI 0) d_M_comesIn_66 (by decide) ?_
            refine gm_istore (L1 := [_, _, _, _, _, _, _, _, _]) d_M_comesIn_67 (by decide) rfl ?_
            refine gm_iload d_M_comesIn_69 rfl ?_
            refine gm_if_eqN (tgt := 79) d_M_comesIn_71 (by decide) (by omega) (fun _ => ?_) (fun q => absurd q (by omega))
            refine gm_iload d_M_comesIn_79 rfl ?_
            refine gm_istore (L1 := [_, _, _, _, _, _, _, _, _]) d_M_comesIn_81 (by decide) rfl ?_
            first | refine gm_iincN (b := 1) (L1 := [_, _, _, _, _, _, _, _, _]) d_M_comesIn_83 rfl (by decide) (by decide) rfl ?_ | refine gm_iinc (L1 := [_, _, _, _, _, _, _, _, _]) d_M_comesIn_83 rfl rfl (by decide) rfl ?_
            refine gm_goto (tgt := 8) d_M_comesIn_86 (by decide) ?_
            have e9 : fc_bst (s (10 + i)) (nI p) (nI f) (nI t) (k + 1) = some b := fc_bst_s0 hrk rfl hb hrb rfl rfl (by omega) (by omega) (by first | exact Or.inl q37 | exact Or.inr q59)
            have h9 := ih (k + 1) (some (.int (nI 0))) (by omega)
            rw [e9] at h9
            exact h9
          · refine gm_iconst (v := nI 1) d_M_comesIn_62 (by decide) ?_
            refine gm_goto (tgt := 67) d_M_comesIn_63 (by decide) ?_
            refine gm_istore (L1 := [_, _, _, _, _, _, _, _, _]) d_M_comesIn_67 (by decide) rfl ?_
            refine gm_iload d_M_comesIn_69 rfl ?_
            refine gm_if_eqN (tgt := 79) d_M_comesIn_71 (by decide) (by omega) (fun q => absurd q (by omega)) (fun _ => ?_)
            refine gm_iload d_M_comesIn_74 rfl ?_
            refine gm_goto (tgt := 81) d_M_comesIn_76 (by decide) ?_
            refine gm_istore (L1 := [_, _, _, _, _, _, _, _, _]) d_M_comesIn_81 (by decide) rfl ?_
            first | refine gm_iincN (b := 1) (L1 := [_, _, _, _, _, _, _, _, _]) d_M_comesIn_83 rfl (by decide) (by decide) rfl ?_ | refine gm_iinc (L1 := [_, _, _, _, _, _, _, _, _]) d_M_comesIn_83 rfl rfl (by decide) rfl ?_
            refine gm_goto (tgt := 8) d_M_comesIn_86 (by decide) ?_
            have e9 : fc_bst (s (10 + i)) (nI p) (nI f) (nI t) (k + 1) = some k := fc_bst_s1 hrk rfl hb hrb rfl rfl (by omega) (by omega) q37 q59
            have h9 := ih (k + 1) (some (.int (nI 1))) (by omega)
            rw [e9] at h9
            exact h9
  refine gm_Mof (L0 := [some (.ref (A 44)), some (.int (nI i)), some (.int (nI p)), some (.int (nI f)), some (.int (nI t)), some (.int nr), none, none, none]) pl_M_comesIn (am_k1 rfl (am_k1 rfl (am_k1 rfl (am_k1 rfl (am_k1 rfl (am_k1 rfl am_k0)))))) (Nat.le_of_ble_eq_true rfl) rfl ?_
  refine gm_iconst (v := (-1)) d_M_comesIn_0 (by decide) ?_
  refine gm_istore (L1 := [_, _, _, _, _, _, _, _, _]) d_M_comesIn_1 (by decide) rfl ?_
  refine gm_iconst (v := nI 4) d_M_comesIn_3 (by decide) ?_
  refine gm_iload_n d_M_comesIn_4 rfl ?_
  first | refine gm_imulN d_M_comesIn_5 ?_ | refine gm_imul d_M_comesIn_5 ?_
  refine gm_istore (L1 := [_, _, _, _, _, _, _, _, _]) d_M_comesIn_6 (by decide) rfl ?_
  exact key (s (10 + i)).length 0 none (by omega)
end REK
