/-! the reference: a link down, a MISS -/
section REU
variable {g : am_G} {A : Nat → Nat} {r : fr_S} {ns room idle : Nat} {s : fc_S} {own : Int32 → Int32 × Int32} {W : Nat}
theorem rf_down {e : Nat} (H : fr_rel ns room idle s r) (J : fz_J own W ns room s) (hW : W + 6 < 2 ^ 31) (he : e < 4 * ns) : gm_M (fr_P A) fr_X g y_M_down "(I)V" 3 76 [.ref (A 44), .int (nI e)] (fun v r' => v = none ∧ fr_rel ns room idle (fc_down s e) r') r := by
  have n5 := J.1.1.2.1
  have Io := J.1.2.2.2.2.2.2.2.1
  have IK := J.1.2.2.2.2.2.2.2.2
  have k6 := IK.1
  obtain ⟨-, ⟨ot, h3, h3l, h3e⟩, -⟩ := id Io
  rcases fr_other H.h28 n5 Io he with ⟨h28, hot⟩ | ⟨o, ho, h28, hot⟩
  · have hg : fc_get s 3 0 e = -1 := by
      unfold fc_oth at hot
      by_cases z : fc_get s 3 0 e = -1
      · exact z
      · rw [if_neg z] at hot; cases hot
    refine gm_Mof (L0 := [some (.ref (A 44)), some (.int (nI e)), none, none, none, none, none]) pl_M_down (am_k1 rfl (am_k1 rfl am_k0)) (Nat.le_of_ble_eq_true rfl) rfl ?_
    refine gm_aload_n d_M_down_0 rfl (by first | exact am_rvR _ | exact am_rvN | assumption) ?_
    refine fr_gA 28 d_M_down_1 f_M_80 (by decide) (by decide) ?_
    refine gm_iload_n d_M_down_4 rfl ?_
    refine fr_aldv d_M_down_5 (by decide) rfl (show _ < 20 by omega) (by first | assumption | (simp only [fr_up_at, fr_up_s, fr_sc_at, fr_sc_a, Nat.reduceEqDiff, false_and, if_false, ite_false, reduceCtorEq]; first | assumption | rfl) | rfl) ?_
    refine gm_if_neN (tgt := 10) d_M_down_6 (by decide) (by omega) (fun q => absurd q (by omega)) (fun _ => ?_)
    refine gm_vret d_M_down_9 rfl ?_
    exact ⟨rfl, by rw [fc_down_no hg]; exact H⟩
  have hg : fc_get s 3 0 e = nI o := (fc_oth_lt n5 Io he hot).2
  obtain ⟨s1, es1⟩ : ∃ s1, s1 = (fc_up s 3 [(ot.set e (-1)).set o (-1)]) := ⟨_, rfl⟩
  have Io' : fc_iO ns s1 := by rw [es1]; exact Io.up3 (by rw [List.length_set, List.length_set]; exact h3l) (am_set2 h3e (Or.inl rfl) (Or.inl rfl))
  have ne : ∀ c, c ≠ 3 → c ≠ 4 → c ≠ 5 → s1 c = s c := fun c a _ _ => by rw [es1, fc_up_ne _ a]
  have e7 : s1 7 = s 7 := ne 7 (by omega) (by omega) (by omega)
  have J1 := J.ctl Io' ne
  have IK1 : fc_iK ns s1 := IK.same e7
  have H1 : fr_rel ns room idle s1 (fr_up (fr_up r 28 e (nI 0)) 28 o (nI 0)) := by rw [es1]; exact H.dwn n5 h3 h3l he ho
  rw [fc_down_yes h3 hg (by omega), ← es1]
  have outer : ∀ (q c : Nat) (x4 x5 x6 : Option Value) (r1 : fr_S), c + q = (s 7).length → fr_rel ns room idle (fc_hurt s1 (fun w => w.any (fun x => x == nI e) || w.any (fun x => x == nI o)) c) r1 → gm_W (fr_P A) fr_X g y_M_down 3 76 (fun v r' => v = none ∧ fr_rel ns room idle (fc_hurt s1 (fun w => w.any (fun x => x == nI e) || w.any (fun x => x == nI o)) (s 7).length) r') 35 [some (.ref (A 44)), some (.int (nI e)), some (.int (nI o)), some (.int (nI c)), x4, x5, x6] [] r1 := by
    intro q
    induction q with
    | zero =>
      intro c x4 x5 x6 r1 hc H1
      have h32 : r1.1 32 = nI (s 7).length := by rw [H1.2.2.2.2.2.2.2.2.2.1, (fc_hurt_ok IK1 Io' _ c (by rw [e7]; omega)).2.2.1, e7]
      have ec : c = (s 7).length := by omega
      rw [ec] at H1
      refine gm_iload_n d_M_down_35 rfl ?_
      refine gm_aload_n d_M_down_36 rfl (by first | exact am_rvR _ | exact am_rvN | assumption) ?_
      refine fr_gSv 32 d_M_down_37 f_M_206 (by decide) rfl (by first | assumption | (simp only [fr_up_at, fr_up_s, fr_sc_at, fr_sc_a, Nat.reduceEqDiff, false_and, if_false, ite_false, reduceCtorEq]; first | assumption | rfl) | rfl) ?_
      refine gm_icmp_geN (tgt := 125) d_M_down_40 (by decide) (by omega) (by omega) (fun _ => ?_) (fun q => absurd q (by omega))
      refine gm_vret d_M_down_125 rfl ?_
      exact ⟨rfl, H1⟩
    | succ q ih =>
      intro c x4 x5 x6 r1 hc H1
      have hcl : c < (s1 7).length := by rw [e7]; omega
      obtain ⟨IKc, Ioc, hl, hj⟩ := fc_hurt_ok IK1 Io' (fun w => w.any (fun x => x == nI e) || w.any (fun x => x == nI o)) c (by omega)
      have h32 : r1.1 32 = nI (s 7).length := by rw [H1.2.2.2.2.2.2.2.2.2.1, hl, e7]
      obtain ⟨f, t, l, st, wv, aw, kp, kn, way, hr, h1, h2', h4', h5', h6, h7, h8, h9⟩ := IK1.row hcl
      have hrc : (fc_hurt s1 (fun w => w.any (fun x => x == nI e) || w.any (fun x => x == nI o)) c 7)[c]? = some ([nI f, nI t, st, wv, aw, nI l, kp, kn] ++ way) := by rw [hj c (Nat.le_refl _)]; exact hr
      have hrow := H1.2.2.2.2.2.2.2.2.row hrc
      have h38 : r1.2 38 c = nI way.length := hrow.2.2.2.2.2.1
      have h34 : r1.2 34 c = st := hrow.2.1
      obtain ⟨own', W', hW', Jc⟩ := J1.hurt (fun w => w.any (fun x => x == nI e) || w.any (fun x => x == nI o)) c (by omega) (by omega)
      have inner : ∀ (q2 k : Nat) (b : Bool) (y6 : Option Value), k + q2 = way.length → b = (way.take k).any (fun x => x == nI e || x == nI o) → gm_W (fr_P A) fr_X g y_M_down 3 76 (fun v r' => v = none ∧ fr_rel ns room idle (fc_hurt s1 (fun w => w.any (fun x => x == nI e) || w.any (fun x => x == nI o)) (s 7).length) r') 49 [some (.ref (A 44)), some (.int (nI e)), some (.int (nI o)), some (.int (nI c)), some (.int (am_b b)), some (.int (nI k)), y6] [] r1 := by
        intro q2
        induction q2 with
        | zero =>
          intro k b y6 hk hb
          have ek : k = way.length := by omega
          rw [ek, List.take_length, ← fc_any_or] at hb
          refine gm_iload d_M_down_49 rfl ?_
          refine gm_aload_n d_M_down_51 rfl (by first | exact am_rvR _ | exact am_rvN | assumption) ?_
          refine fr_gA 38 d_M_down_52 f_M_104 (by decide) (by decide) ?_
          refine gm_iload_n d_M_down_55 rfl ?_
          refine fr_aldv d_M_down_56 (by decide) rfl (show _ < 6 by omega) (by first | assumption | (simp only [fr_up_at, fr_up_s, fr_sc_at, fr_sc_a, Nat.reduceEqDiff, false_and, if_false, ite_false, reduceCtorEq]; first | assumption | rfl) | rfl) ?_
          refine gm_icmp_geN (tgt := 99) d_M_down_57 (by decide) (by omega) (by omega) (fun _ => ?_) (fun q => absurd q (by omega))
          refine gm_iload d_M_down_99 rfl ?_
          first | refine gm_if_eqB (tgt := 119) d_M_down_101 (by decide) (fun q101 => ?_) (fun q101 => ?_) | refine gm_if_eqN (tgt := 119) d_M_down_101 (by decide) (by omega) (fun q101 => ?_) (fun q101 => ?_) | refine gm_if_eq (tgt := 119) d_M_down_101 (by decide) (fun q101 => ?_) (fun q101 => ?_)
          · first | refine gm_iincN (b := 1) (L1 := [_, _, _, _, _, _, _]) d_M_down_119 rfl (by decide) (by decide) rfl ?_ | refine gm_iinc (L1 := [_, _, _, _, _, _, _]) d_M_down_119 rfl rfl (by decide) rfl ?_
            refine gm_goto (tgt := 35) d_M_down_122 (by decide) ?_
            exact ih (c + 1) _ _ _ _ (by omega) (by rw [fc_hurt_no hr (by first | exact Or.inr q111 | exact Or.inl (hb.symm.trans q101))]; exact H1)
          · refine gm_aload_n d_M_down_104 rfl (by first | exact am_rvR _ | exact am_rvN | assumption) ?_
            refine fr_gA 34 d_M_down_105 f_M_92 (by decide) (by decide) ?_
            refine gm_iload_n d_M_down_108 rfl ?_
            refine fr_aldv d_M_down_109 (by decide) rfl (show _ < 6 by omega) (by first | assumption | (simp only [fr_up_at, fr_up_s, fr_sc_at, fr_sc_a, Nat.reduceEqDiff, false_and, if_false, ite_false, reduceCtorEq]; first | assumption | rfl) | rfl) ?_
            refine gm_iconst (v := nI 1) d_M_down_110 (by decide) ?_
            first | refine gm_icmp_eqN (tgt := 119) d_M_down_111 (by decide) (by omega) (by omega) (fun q111 => ?_) (fun q111 => ?_) | refine gm_icmp_eq (tgt := 119) d_M_down_111 (by decide) (fun q111 => ?_) (fun q111 => ?_)
            · first | refine gm_iincN (b := 1) (L1 := [_, _, _, _, _, _, _]) d_M_down_119 rfl (by decide) (by decide) rfl ?_ | refine gm_iinc (L1 := [_, _, _, _, _, _, _]) d_M_down_119 rfl rfl (by decide) rfl ?_
              refine gm_goto (tgt := 35) d_M_down_122 (by decide) ?_
              exact ih (c + 1) _ _ _ _ (by omega) (by rw [fc_hurt_no hr (by first | exact Or.inr q111 | exact Or.inl (hb.symm.trans q101))]; exact H1)
            · refine gm_aload_n d_M_down_114 rfl (by first | exact am_rvR _ | exact am_rvN | assumption) ?_
              refine gm_iload_n d_M_down_115 rfl ?_
              refine gm_cV (b := A 44) d_M_down_116 v_M_231 (vs := [.int (nI c)]) (st := []) rfl rfl (by decide) (Nat.le_of_ble_eq_true rfl) (fr_at _) (rf_clearK H1 Jc (by rw [hl]; exact hcl)) ?_
              rintro v r2 ⟨rfl, H2⟩
              first | refine gm_iincN (b := 1) (L1 := [_, _, _, _, _, _, _]) d_M_down_119 rfl (by decide) (by decide) rfl ?_ | refine gm_iinc (L1 := [_, _, _, _, _, _, _]) d_M_down_119 rfl rfl (by decide) rfl ?_
              refine gm_goto (tgt := 35) d_M_down_122 (by decide) ?_
              exact ih (c + 1) _ _ _ _ (by omega) (by rw [fc_hurt_yes hr (hb.symm.trans q101) h4' q111]; exact H2)
        | succ q2 ih2 =>
          intro k b y6 hk hb
          have hkl : k < way.length := by omega
          obtain ⟨mt, hm, hx⟩ := h9 _ (List.getElem_mem hkl)
          have hx' : way[k]? = some (nI mt) := by rw [List.getElem?_eq_getElem hkl, hx]
          have h39 : r1.2 39 (5 * c + k) = nI (5 * (mt / 4) + mt % 4) := hrow.way hx' (by omega)
          have eb : (way.take (k + 1)).any (fun x => x == nI e || x == nI o) = (b || (decide (mt = e) || decide (mt = o))) := by
            rw [List.take_add_one, hx', List.any_append, ← hb]
            show (b || ((nI mt == nI e || nI mt == nI o) || false)) = _
            rw [Bool.or_false, show (nI mt == nI e) = decide (mt = e) by rw [Bool.eq_iff_iff, beq_iff_eq, decide_eq_true_eq, nI_eq (by omega) (by omega)], show (nI mt == nI o) = decide (mt = o) by rw [Bool.eq_iff_iff, beq_iff_eq, decide_eq_true_eq, nI_eq (by omega) (by omega)]]
          refine gm_iload d_M_down_49 rfl ?_
          refine gm_aload_n d_M_down_51 rfl (by first | exact am_rvR _ | exact am_rvN | assumption) ?_
          refine fr_gA 38 d_M_down_52 f_M_104 (by decide) (by decide) ?_
          refine gm_iload_n d_M_down_55 rfl ?_
          refine fr_aldv d_M_down_56 (by decide) rfl (show _ < 6 by omega) (by first | assumption | (simp only [fr_up_at, fr_up_s, fr_sc_at, fr_sc_a, Nat.reduceEqDiff, false_and, if_false, ite_false, reduceCtorEq]; first | assumption | rfl) | rfl) ?_
          refine gm_icmp_geN (tgt := 99) d_M_down_57 (by decide) (by omega) (by omega) (fun q => absurd q (by omega)) (fun _ => ?_)
          refine gm_aload_n d_M_down_60 rfl (by first | exact am_rvR _ | exact am_rvN | assumption) ?_
          refine gm_iload_n d_M_down_61 rfl ?_
          refine gm_iload d_M_down_62 rfl ?_
          refine gm_cV (b := A 44) d_M_down_64 v_M_249 (vs := [.int (nI c), .int (nI k)]) (st := []) rfl rfl (by decide) (Nat.le_of_ble_eq_true rfl) (fr_at _) (rf_portOf (by omega) h39 (by omega)) ?_
          rintro v r2 ⟨rfl, hr2⟩
          subst r2
          refine gm_istore (L1 := [_, _, _, _, _, _, _]) d_M_down_67 (by decide) rfl ?_
          refine gm_iload d_M_down_69 rfl ?_
          first | refine gm_if_neB (tgt := 86) d_M_down_71 (by decide) (fun q71 => ?_) (fun q71 => ?_) | refine gm_if_neN (tgt := 86) d_M_down_71 (by decide) (by omega) (fun q71 => ?_) (fun q71 => ?_) | refine gm_if_ne (tgt := 86) d_M_down_71 (by decide) (fun q71 => ?_) (fun q71 => ?_)
          · refine gm_iconst (v := nI 1) d_M_down_86 (by decide) ?_
            refine gm_goto (tgt := 91) d_M_down_87 (by decide) ?_
            refine gm_istore (L1 := [_, _, _, _, _, _, _]) d_M_down_91 (by decide) rfl ?_
            first | refine gm_iincN (b := 1) (L1 := [_, _, _, _, _, _, _]) d_M_down_93 rfl (by decide) (by decide) rfl ?_ | refine gm_iinc (L1 := [_, _, _, _, _, _, _]) d_M_down_93 rfl rfl (by decide) rfl ?_
            refine gm_goto (tgt := 49) d_M_down_96 (by decide) ?_
            exact ih2 (k + 1) true _ (by omega) (by rw [eb]; first | (rw [q71]; rfl) | (rw [decide_eq_true q77, Bool.true_or, Bool.or_true]) | (rw [decide_eq_true q83, Bool.or_true, Bool.or_true]))
          · refine gm_iload d_M_down_74 rfl ?_
            refine gm_iload_n d_M_down_76 rfl ?_
            first | refine gm_icmp_eqN (tgt := 86) d_M_down_77 (by decide) (by omega) (by omega) (fun q77 => ?_) (fun q77 => ?_) | refine gm_icmp_eq (tgt := 86) d_M_down_77 (by decide) (fun q77 => ?_) (fun q77 => ?_)
            · refine gm_iconst (v := nI 1) d_M_down_86 (by decide) ?_
              refine gm_goto (tgt := 91) d_M_down_87 (by decide) ?_
              refine gm_istore (L1 := [_, _, _, _, _, _, _]) d_M_down_91 (by decide) rfl ?_
              first | refine gm_iincN (b := 1) (L1 := [_, _, _, _, _, _, _]) d_M_down_93 rfl (by decide) (by decide) rfl ?_ | refine gm_iinc (L1 := [_, _, _, _, _, _, _]) d_M_down_93 rfl rfl (by decide) rfl ?_
              refine gm_goto (tgt := 49) d_M_down_96 (by decide) ?_
              exact ih2 (k + 1) true _ (by omega) (by rw [eb]; first | (rw [q71]; rfl) | (rw [decide_eq_true q77, Bool.true_or, Bool.or_true]) | (rw [decide_eq_true q83, Bool.or_true, Bool.or_true]))
            · refine gm_iload d_M_down_80 rfl ?_
              refine gm_iload_n d_M_down_82 rfl ?_
              first | refine gm_icmp_neN (tgt := 90) d_M_down_83 (by decide) (by omega) (by omega) (fun q83 => ?_) (fun q83 => ?_) | refine gm_icmp_ne (tgt := 90) d_M_down_83 (by decide) (fun q83 => ?_) (fun q83 => ?_)
              · refine gm_iconst (v := nI 0) d_M_down_90 (by decide) ?_
                refine gm_istore (L1 := [_, _, _, _, _, _, _]) d_M_down_91 (by decide) rfl ?_
                first | refine gm_iincN (b := 1) (L1 := [_, _, _, _, _, _, _]) d_M_down_93 rfl (by decide) (by decide) rfl ?_ | refine gm_iinc (L1 := [_, _, _, _, _, _, _]) d_M_down_93 rfl rfl (by decide) rfl ?_
                refine gm_goto (tgt := 49) d_M_down_96 (by decide) ?_
                exact ih2 (k + 1) false _ (by omega) (by rw [eb, q71, decide_eq_false q77, decide_eq_false q83]; rfl)
              · refine gm_iconst (v := nI 1) d_M_down_86 (by decide) ?_
                refine gm_goto (tgt := 91) d_M_down_87 (by decide) ?_
                refine gm_istore (L1 := [_, _, _, _, _, _, _]) d_M_down_91 (by decide) rfl ?_
                first | refine gm_iincN (b := 1) (L1 := [_, _, _, _, _, _, _]) d_M_down_93 rfl (by decide) (by decide) rfl ?_ | refine gm_iinc (L1 := [_, _, _, _, _, _, _]) d_M_down_93 rfl rfl (by decide) rfl ?_
                refine gm_goto (tgt := 49) d_M_down_96 (by decide) ?_
                exact ih2 (k + 1) true _ (by omega) (by rw [eb]; first | (rw [q71]; rfl) | (rw [decide_eq_true q77, Bool.true_or, Bool.or_true]) | (rw [decide_eq_true q83, Bool.or_true, Bool.or_true]))
      refine gm_iload_n d_M_down_35 rfl ?_
      refine gm_aload_n d_M_down_36 rfl (by first | exact am_rvR _ | exact am_rvN | assumption) ?_
      refine fr_gSv 32 d_M_down_37 f_M_206 (by decide) rfl (by first | assumption | (simp only [fr_up_at, fr_up_s, fr_sc_at, fr_sc_a, Nat.reduceEqDiff, false_and, if_false, ite_false, reduceCtorEq]; first | assumption | rfl) | rfl) ?_
      refine gm_icmp_geN (tgt := 125) d_M_down_40 (by decide) (by omega) (by omega) (fun q => absurd q (by omega)) (fun _ => ?_)
      refine gm_iconst (v := nI 0) d_M_down_43 (by decide) ?_
      refine gm_istore (L1 := [_, _, _, _, _, _, _]) d_M_down_44 (by decide) rfl ?_
      refine gm_iconst (v := nI 0) d_M_down_46 (by decide) ?_
      refine gm_istore (L1 := [_, _, _, _, _, _, _]) d_M_down_47 (by decide) rfl ?_
      exact inner way.length 0 false _ (by omega) rfl
  refine gm_Mof (L0 := [some (.ref (A 44)), some (.int (nI e)), none, none, none, none, none]) pl_M_down (am_k1 rfl (am_k1 rfl am_k0)) (Nat.le_of_ble_eq_true rfl) rfl ?_
  refine gm_aload_n d_M_down_0 rfl (by first | exact am_rvR _ | exact am_rvN | assumption) ?_
  refine fr_gA 28 d_M_down_1 f_M_80 (by decide) (by decide) ?_
  refine gm_iload_n d_M_down_4 rfl ?_
  refine fr_aldv d_M_down_5 (by decide) rfl (show _ < 20 by omega) (by first | assumption | (simp only [fr_up_at, fr_up_s, fr_sc_at, fr_sc_a, Nat.reduceEqDiff, false_and, if_false, ite_false, reduceCtorEq]; first | assumption | rfl) | rfl) ?_
  refine gm_if_neN (tgt := 10) d_M_down_6 (by decide) (by omega) (fun _ => ?_) (fun q => absurd q (by omega))
  refine gm_aload_n d_M_down_10 rfl (by first | exact am_rvR _ | exact am_rvN | assumption) ?_
  refine fr_gA 28 d_M_down_11 f_M_80 (by decide) (by decide) ?_
  refine gm_iload_n d_M_down_14 rfl ?_
  refine fr_aldv d_M_down_15 (by decide) rfl (show _ < 20 by omega) (by first | assumption | (simp only [fr_up_at, fr_up_s, fr_sc_at, fr_sc_a, Nat.reduceEqDiff, false_and, if_false, ite_false, reduceCtorEq]; first | assumption | rfl) | rfl) ?_
  refine gm_iconst (v := nI 1) d_M_down_16 (by decide) ?_
  first | refine gm_isubN d_M_down_17 (by omega) ?_ | refine gm_isub d_M_down_17 ?_
  rw [Nat.add_sub_cancel]
  refine gm_istore_n (L1 := [_, _, _, _, _, _, _]) d_M_down_18 (by decide) rfl ?_
  refine gm_aload_n d_M_down_19 rfl (by first | exact am_rvR _ | exact am_rvN | assumption) ?_
  refine fr_gA 28 d_M_down_20 f_M_80 (by decide) (by decide) ?_
  refine gm_iload_n d_M_down_23 rfl ?_
  refine gm_iconst (v := nI 0) d_M_down_24 (by decide) ?_
  refine fr_ast d_M_down_25 (by decide) rfl (show _ < 20 by omega) ?_
  refine gm_aload_n d_M_down_26 rfl (by first | exact am_rvR _ | exact am_rvN | assumption) ?_
  refine fr_gA 28 d_M_down_27 f_M_80 (by decide) (by decide) ?_
  refine gm_iload_n d_M_down_30 rfl ?_
  refine gm_iconst (v := nI 0) d_M_down_31 (by decide) ?_
  refine fr_ast d_M_down_32 (by decide) rfl (show _ < 20 by omega) ?_
  refine gm_iconst (v := nI 0) d_M_down_33 (by decide) ?_
  refine gm_istore_n (L1 := [_, _, _, _, _, _, _]) d_M_down_34 (by decide) rfl ?_
  exact outer (s 7).length 0 none none none _ (by omega) H1
theorem rf_mis2 {i p f t : Nat} (H : fr_rel ns room idle s r) (J : fz_J own W ns room s) (hi : i < ns) (hp : p ≤ 4) (hf : f < 6) (ht : t < 6) (nr : Int32) : gm_W (fr_P A) fr_X g y_M_missed 4 99 (fun v r' => v = none ∧ fr_rel ns room idle (fc_mis2 ns s i (nI p) (nI f) (nI t) nr) r') 31 [some (.ref (A 44)), some (.int (nI i)), some (.int (nI p)), some (.int (nI f)), some (.int (nI t)), some (.int nr), none, none] [] r := by
  have n5 := J.1.1.2.1
  have D := J.1
  have Io := J.1.2.2.2.2.2.2.2.1
  have IK := J.1.2.2.2.2.2.2.2.2
  have k6 := IK.1
  have h32 : r.1 32 = nI (s 7).length := H.2.2.2.2.2.2.2.2.2.1
  have h30 := H.2.2.2.2.2.2.2.1.2 t ht
  obtain ⟨⟨x0, h2⟩, -⟩ := id Io
  refine gm_bipush (v := nI 6) d_M_missed_31 (by decide) ?_
  refine gm_iload_n d_M_missed_33 rfl ?_
  first | refine gm_imulN d_M_missed_34 ?_ | refine gm_imul d_M_missed_34 ?_
  refine gm_iload d_M_missed_35 rfl ?_
  first | refine gm_iaddN d_M_missed_37 ?_ | refine gm_iadd d_M_missed_37 ?_
  refine gm_istore (L1 := [_, _, _, _, _, _, _, _]) d_M_missed_38 (by decide) rfl ?_
  refine gm_aload_n d_M_missed_40 rfl (by first | exact am_rvR _ | exact am_rvN | assumption) ?_
  refine gm_iload d_M_missed_41 rfl ?_
  refine gm_cV (b := A 44) d_M_missed_43 v_M_227 (vs := [.int (nI (6 * f + t))]) (st := []) rfl rfl (by decide) (Nat.le_of_ble_eq_true rfl) (fr_at _) (rf_courseOf h32 k6 (nI (6 * f + t))) ?_
  rintro v r1 ⟨rfl, hr1⟩
  subst r1
  rw [H.2.2.2.2.2.2.2.2.find IK hf ht]
  cases hx : fc_cix s (nI f) (nI t) with
  | none =>
    rw [show fr_pos none 0 = -1 from rfl]
    rcases fc_plc Io ht with e5 | ⟨b, hb, e5⟩
    · rw [e5, show (-1 : Int32) + nI 1 = nI 0 by decide] at h30
      refine gm_istore (L1 := [_, _, _, _, _, _, _, _]) d_M_missed_46 (by decide) rfl ?_
      refine gm_iload d_M_missed_48 rfl ?_
      refine gm_if_lt (tgt := 81) d_M_missed_50 (by decide) (fun _ => ?_) (fun q => absurd (by decide) q)
      refine gm_aload_n d_M_missed_81 rfl (by first | exact am_rvR _ | exact am_rvN | assumption) ?_
      refine fr_gA 30 d_M_missed_82 f_M_86 (by decide) (by decide) ?_
      refine gm_iload d_M_missed_85 rfl ?_
      refine fr_aldv d_M_missed_87 (by decide) rfl (show _ < 6 by omega) (by first | assumption | (simp only [fr_up_at, fr_up_s, fr_sc_at, fr_sc_a, Nat.reduceEqDiff, false_and, if_false, ite_false, reduceCtorEq]; first | assumption | rfl) | rfl) ?_
      refine gm_if_neN (tgt := 105) d_M_missed_88 (by decide) (by omega) (fun q => absurd q (by omega)) (fun _ => ?_)
      refine gm_aload_n d_M_missed_91 rfl (by first | exact am_rvR _ | exact am_rvN | assumption) ?_
      refine gm_iload_n d_M_missed_92 rfl ?_
      refine gm_iload_n d_M_missed_93 rfl ?_
      refine gm_iload_n d_M_missed_94 rfl ?_
      refine gm_iload d_M_missed_95 rfl ?_
      refine gm_iload d_M_missed_97 rfl ?_
      refine gm_cV (b := A 44) d_M_missed_99 v_M_240 (vs := [.int (nI i), .int (nI p), .int (nI f), .int (nI t), .int nr]) (st := []) rfl rfl (by decide) (Nat.le_of_ble_eq_true rfl) (fr_at _) (rf_flood H J hi hp hf ht nr) ?_
      rintro v r2 ⟨rfl, H1⟩
      refine gm_goto (tgt := 164) d_M_missed_102 (by decide) ?_
      refine gm_vret d_M_missed_164 rfl ?_
      exact ⟨rfl, by rw [fc_mis2_flood (by omega) hx e5]; exact H1⟩
    · rw [e5, nI_add] at h30
      refine gm_istore (L1 := [_, _, _, _, _, _, _, _]) d_M_missed_46 (by decide) rfl ?_
      refine gm_iload d_M_missed_48 rfl ?_
      refine gm_if_lt (tgt := 81) d_M_missed_50 (by decide) (fun _ => ?_) (fun q => absurd (by decide) q)
      refine gm_aload_n d_M_missed_81 rfl (by first | exact am_rvR _ | exact am_rvN | assumption) ?_
      refine fr_gA 30 d_M_missed_82 f_M_86 (by decide) (by decide) ?_
      refine gm_iload d_M_missed_85 rfl ?_
      refine fr_aldv d_M_missed_87 (by decide) rfl (show _ < 6 by omega) (by first | assumption | (simp only [fr_up_at, fr_up_s, fr_sc_at, fr_sc_a, Nat.reduceEqDiff, false_and, if_false, ite_false, reduceCtorEq]; first | assumption | rfl) | rfl) ?_
      refine gm_if_neN (tgt := 105) d_M_missed_88 (by decide) (by omega) (fun _ => ?_) (fun q => absurd q (by omega))
      refine gm_aload_n d_M_missed_105 rfl (by first | exact am_rvR _ | exact am_rvN | assumption) ?_
      refine fr_gSv 32 d_M_missed_106 f_M_206 (by decide) rfl (by first | assumption | (simp only [fr_up_at, fr_up_s, fr_sc_at, fr_sc_a, Nat.reduceEqDiff, false_and, if_false, ite_false, reduceCtorEq]; first | assumption | rfl) | rfl) ?_
      refine gm_bipush (v := nI 6) d_M_missed_109 (by decide) ?_
      first | refine gm_icmp_geN (tgt := 164) d_M_missed_111 (by decide) (by omega) (by omega) (fun q111 => ?_) (fun q111 => ?_) | refine gm_icmp_ge (tgt := 164) d_M_missed_111 (by decide) (fun q111 => ?_) (fun q111 => ?_)
      · refine gm_vret d_M_missed_164 rfl ?_
        first | (refine ⟨rfl, ?_⟩; rw [fc_mis2_make (show t < 1000 by omega) hx (show ¬ fc_get s 5 0 t = -1 by rw [e5]; exact cl_ix_ne (by omega)), fc_make_full (show 6 ≤ (s 7).length from q111)]; exact H) | (refine ⟨rfl, ?_⟩; rw [fc_mis2_make (show t < 1000 by omega) hx (show ¬ fc_get s 5 0 t = -1 by rw [e5]; exact cl_ix_ne (by omega)), fc_make_no (show (fc_wayOf ns s (nI f) (nI t)).isEmpty = true by simpa using q120)]; exact H2) | (refine ⟨rfl, ?_⟩; rw [fc_mis2_make (show t < 1000 by omega) hx (show ¬ fc_get s 5 0 t = -1 by rw [e5]; exact cl_ix_ne (by omega)), fc_make_yes (show ¬ 6 ≤ (s 7).length by omega) (fun z => hwne (List.isEmpty_iff.mp z))]; exact H5)
      · refine gm_aload_n d_M_missed_114 rfl (by first | exact am_rvR _ | exact am_rvN | assumption) ?_
        refine gm_iload d_M_missed_115 rfl ?_
        refine gm_cV (b := A 44) d_M_missed_117 v_M_243 (vs := [.int (nI (6 * f + t))]) (st := []) rfl rfl (by decide) (Nat.le_of_ble_eq_true rfl) (fr_at _) (rf_search H D hf ht) ?_
        rintro v r2 ⟨rfl, hs2, hfd⟩
        have H2 := H.scr hs2
        have h32b : r2.1 32 = nI (s 7).length := H2.2.2.2.2.2.2.2.2.2.1
        first | refine gm_if_eqB (tgt := 164) d_M_missed_120 (by decide) (fun q120 => ?_) (fun q120 => ?_) | refine gm_if_eqN (tgt := 164) d_M_missed_120 (by decide) (by omega) (fun q120 => ?_) (fun q120 => ?_) | refine gm_if_eq (tgt := 164) d_M_missed_120 (by decide) (fun q120 => ?_) (fun q120 => ?_)
        · refine gm_vret d_M_missed_164 rfl ?_
          first | (refine ⟨rfl, ?_⟩; rw [fc_mis2_make (show t < 1000 by omega) hx (show ¬ fc_get s 5 0 t = -1 by rw [e5]; exact cl_ix_ne (by omega)), fc_make_full (show 6 ≤ (s 7).length from q111)]; exact H) | (refine ⟨rfl, ?_⟩; rw [fc_mis2_make (show t < 1000 by omega) hx (show ¬ fc_get s 5 0 t = -1 by rw [e5]; exact cl_ix_ne (by omega)), fc_make_no (show (fc_wayOf ns s (nI f) (nI t)).isEmpty = true by simpa using q120)]; exact H2) | (refine ⟨rfl, ?_⟩; rw [fc_mis2_make (show t < 1000 by omega) hx (show ¬ fc_get s 5 0 t = -1 by rw [e5]; exact cl_ix_ne (by omega)), fc_make_yes (show ¬ 6 ≤ (s 7).length by omega) (fun z => hwne (List.isEmpty_iff.mp z))]; exact H5)
        · refine gm_aload_n d_M_missed_123 rfl (by first | exact am_rvR _ | exact am_rvN | assumption) ?_
          refine fr_gA 33 d_M_missed_124 f_M_89 (by decide) (by decide) ?_
          refine gm_aload_n d_M_missed_127 rfl (by first | exact am_rvR _ | exact am_rvN | assumption) ?_
          refine fr_gSv 32 d_M_missed_128 f_M_206 (by decide) rfl (by first | assumption | (simp only [fr_up_at, fr_up_s, fr_sc_at, fr_sc_a, Nat.reduceEqDiff, false_and, if_false, ite_false, reduceCtorEq]; first | assumption | rfl) | rfl) ?_
          refine gm_iload d_M_missed_131 rfl ?_
          refine fr_ast d_M_missed_133 (by decide) rfl (show _ < 6 by omega) ?_
          refine gm_aload_n d_M_missed_134 rfl (by first | exact am_rvR _ | exact am_rvN | assumption) ?_
          refine gm_aload_n d_M_missed_135 rfl (by first | exact am_rvR _ | exact am_rvN | assumption) ?_
          refine fr_gSv 32 d_M_missed_136 f_M_206 (by decide) rfl (by first | assumption | (simp only [fr_up_at, fr_up_s, fr_sc_at, fr_sc_a, Nat.reduceEqDiff, false_and, if_false, ite_false, reduceCtorEq]; first | assumption | rfl) | rfl) ?_
          refine gm_iload d_M_missed_139 rfl ?_
          refine gm_cV (b := A 44) d_M_missed_141 v_M_237 (vs := [.int (nI (s 7).length), .int nr]) (st := []) rfl rfl (by decide) (Nat.le_of_ble_eq_true rfl) (fr_at _) (rf_keep nr (by omega)) ?_
          rintro v r3 ⟨rfl, hr3⟩
          subst hr3
          have h32c : (fr_keep (fr_up r2 33 (s 7).length (nI (6 * f + t))) (s 7).length nr).1 32 = nI (s 7).length := h32b
          refine gm_aload_n d_M_missed_144 rfl (by first | exact am_rvR _ | exact am_rvN | assumption) ?_
          refine gm_dup d_M_missed_145 rfl ?_
          refine fr_gSv 32 d_M_missed_146 f_M_206 (by decide) rfl (by first | assumption | (simp only [fr_up_at, fr_up_s, fr_sc_at, fr_sc_a, Nat.reduceEqDiff, false_and, if_false, ite_false, reduceCtorEq]; first | assumption | rfl) | rfl) ?_
          refine gm_iconst (v := nI 1) d_M_missed_149 (by decide) ?_
          first | refine gm_iaddN d_M_missed_150 ?_ | refine gm_iadd d_M_missed_150 ?_
          refine fr_pS 32 d_M_missed_151 f_M_206 (p_M_206 _) (by decide) rfl ?_
          have hwne : fc_wayOf ns s (nI f) (nI t) ≠ [] := fun z => by rw [z] at q120; cases q120
          have m4 : fr_sm [32, 33, 40, 41, 42, 43] r2 (fr_sc (fr_keep (fr_up r2 33 (s 7).length (nI (6 * f + t))) (s 7).length nr) 32 (nI ((s 7).length + 1))) := ((((fr_sm.refl _ r2).up (by decide) _ _).up (by decide) _ _).up (by decide) _ _).sc (by decide) _
          have g33 : ∀ j, (fr_sc (fr_keep (fr_up r2 33 (s 7).length (nI (6 * f + t))) (s 7).length nr) 32 (nI ((s 7).length + 1))).2 33 j = if j = (s 7).length then nI (6 * f + t) else r2.2 33 j := fun j => by
            rw [fr_sc_a]
            unfold fr_keep
            rw [fr_up_ne (by decide), fr_up_ne (by decide), fr_up_hit]
          have g40 : ∀ j, (fr_sc (fr_keep (fr_up r2 33 (s 7).length (nI (6 * f + t))) (s 7).length nr) 32 (nI ((s 7).length + 1))).2 40 j = if j = (s 7).length then nI 1 else r2.2 40 j := fun j => by
            rw [fr_sc_a]
            unfold fr_keep
            rw [fr_up_ne (by decide), fr_up_hit, fr_up_ne (by decide)]
          have g41 : ∀ j, (fr_sc (fr_keep (fr_up r2 33 (s 7).length (nI (6 * f + t))) (s 7).length nr) 32 (nI ((s 7).length + 1))).2 41 j = if j = (s 7).length then nr else r2.2 41 j := fun j => by
            rw [fr_sc_a]
            unfold fr_keep
            rw [fr_up_hit, fr_up_ne (by decide), fr_up_ne (by decide)]
          have X4 : fr_rx ns room idle (fc_add s 7 [nI f, nI t, 2, 0, 0, 0, 1, nr]) (fr_sc (fr_keep (fr_up r2 33 (s 7).length (nI (6 * f + t))) (s 7).length nr) 32 (nI ((s 7).length + 1))) (s 7).length := H2.krow n5 (IK.w5 _) m4 (by rw [fr_sc_at, if_pos rfl]) (fun j hj => ⟨by rw [g33, if_neg hj], by rw [g40, if_neg hj], by rw [g41, if_neg hj]⟩)
          have eway : fc_wayOf ns (fc_add s 7 [nI f, nI t, 2, 0, 0, 0, 1, nr]) (nI f) (nI t) = fc_wayOf ns s (nI f) (nI t) := fc_wayOf_same (fc_add_ne _ (by omega)) (fc_add_ne _ (by omega)) _ _
          have hrA : ((fc_add s 7 [nI f, nI t, 2, 0, 0, 0, 1, nr]) 7)[(s 7).length]? = some ([nI f, nI t, 2, 0, 0, 0, 1, nr] ++ []) := by rw [fc_add_same, List.getElem?_append_right (Nat.le_refl _), Nat.sub_self]; rfl
          have hfd4 : fr_fd (fc_wayOf ns s (nI f) (nI t)) (fr_sc (fr_keep (fr_up r2 33 (s 7).length (nI (6 * f + t))) (s 7).length nr) 32 (nI ((s 7).length + 1))) := hfd hwne
          have h32d : (fr_sc (fr_keep (fr_up r2 33 (s 7).length (nI (6 * f + t))) (s 7).length nr) 32 (nI ((s 7).length + 1))).1 32 = nI ((s 7).length + 1) := by rw [fr_sc_at, if_pos rfl]
          refine gm_aload_n d_M_missed_154 rfl (by first | exact am_rvR _ | exact am_rvN | assumption) ?_
          refine gm_aload_n d_M_missed_155 rfl (by first | exact am_rvR _ | exact am_rvN | assumption) ?_
          refine fr_gSv 32 d_M_missed_156 f_M_206 (by decide) rfl (by first | assumption | (simp only [fr_up_at, fr_up_s, fr_sc_at, fr_sc_a, Nat.reduceEqDiff, false_and, if_false, ite_false, reduceCtorEq]; first | assumption | rfl) | rfl) ?_
          refine gm_iconst (v := nI 1) d_M_missed_159 (by decide) ?_
          first | refine gm_isubN d_M_missed_160 (by omega) ?_ | refine gm_isub d_M_missed_160 ?_
          refine gm_cV (b := A 44) d_M_missed_161 v_M_246 (vs := [.int (nI ((s 7).length + 1 - 1))]) (st := []) rfl rfl (by decide) (Nat.le_of_ble_eq_true rfl) (fr_at _) (rf_lay (c := (s 7).length) (way := fc_wayOf ns s (nI f) (nI t)) X4 n5 (J.rm46.same (fun j hj => ⟨fc_add_ne _ (by omega), fc_add_ne _ (by omega)⟩)) (by omega) (show (fc_add s 7 [nI f, nI t, 2, 0, 0, 0, 1, nr]) 2 = [[x0]] by rw [fc_add_ne _ (by omega)]; exact h2) hrA (fun j row hj hj2 => by rw [fc_add_same] at hj2; have hlt := (List.getElem?_eq_some_iff.mp hj2).1; rw [List.length_append, List.length_singleton] at hlt; rw [List.getElem?_append_left (by omega)] at hj2; exact IK.w5 _ j row hj hj2) hf ht (Io.same (fun c a b => fc_add_ne _ (by omega))) (by rw [g33, if_pos rfl]) (by rw [g40, if_pos rfl]; rfl) (by rw [g41, if_pos rfl]) eway.symm hwne hfd4) ?_
          rintro v r5 ⟨rfl, H5⟩
          refine gm_vret d_M_missed_164 rfl ?_
          first | (refine ⟨rfl, ?_⟩; rw [fc_mis2_make (show t < 1000 by omega) hx (show ¬ fc_get s 5 0 t = -1 by rw [e5]; exact cl_ix_ne (by omega)), fc_make_full (show 6 ≤ (s 7).length from q111)]; exact H) | (refine ⟨rfl, ?_⟩; rw [fc_mis2_make (show t < 1000 by omega) hx (show ¬ fc_get s 5 0 t = -1 by rw [e5]; exact cl_ix_ne (by omega)), fc_make_no (show (fc_wayOf ns s (nI f) (nI t)).isEmpty = true by simpa using q120)]; exact H2) | (refine ⟨rfl, ?_⟩; rw [fc_mis2_make (show t < 1000 by omega) hx (show ¬ fc_get s 5 0 t = -1 by rw [e5]; exact cl_ix_ne (by omega)), fc_make_yes (show ¬ 6 ≤ (s 7).length by omega) (fun z => hwne (List.isEmpty_iff.mp z))]; exact H5)
  | some c =>
    have hc := fc_cix_some hx
    rw [show fr_pos (some c) 0 = nI c from congrArg nI (Nat.zero_add c)]
    obtain ⟨f', t', l, st, wv, aw, kp, kn, way, hr, h1, h2', h4, h5, h6, h7, h8, h9⟩ := IK.row hc
    have e34 : r.2 34 c = st := (H.2.2.2.2.2.2.2.2.row hr).2.1
    refine gm_istore (L1 := [_, _, _, _, _, _, _, _]) d_M_missed_46 (by decide) rfl ?_
    refine gm_iload d_M_missed_48 rfl ?_
    refine gm_if_ltN (tgt := 81) d_M_missed_50 (by decide) (by omega) (fun q => absurd q (by omega)) (fun _ => ?_)
    refine gm_aload_n d_M_missed_53 rfl (by first | exact am_rvR _ | exact am_rvN | assumption) ?_
    refine gm_iload d_M_missed_54 rfl ?_
    refine gm_iload d_M_missed_56 rfl ?_
    refine gm_cV (b := A 44) d_M_missed_58 v_M_237 (vs := [.int (nI c), .int nr]) (st := []) rfl rfl (by decide) (Nat.le_of_ble_eq_true rfl) (fr_at _) (rf_keep nr (by omega)) ?_
    rintro v r2 ⟨rfl, hr2⟩
    subst hr2
    have H1 := H.keep n5 hr (IK.w5 c) nr
    have J1 := J.keep (kp' := 1) (kn' := nr) hr (Or.inr rfl)
    have h34b : (fr_keep r c nr).2 34 c = st := e34
    refine gm_aload_n d_M_missed_61 rfl (by first | exact am_rvR _ | exact am_rvN | assumption) ?_
    refine fr_gA 34 d_M_missed_62 f_M_92 (by decide) (by decide) ?_
    refine gm_iload d_M_missed_65 rfl ?_
    refine fr_aldv d_M_missed_67 (by decide) rfl (show _ < 6 by omega) (by first | assumption | (simp only [fr_up_at, fr_up_s, fr_sc_at, fr_sc_a, Nat.reduceEqDiff, false_and, if_false, ite_false, reduceCtorEq]; first | assumption | rfl) | rfl) ?_
    refine gm_iconst (v := nI 3) d_M_missed_68 (by decide) ?_
    first | refine gm_icmp_neN (tgt := 164) d_M_missed_69 (by decide) (by omega) (by omega) (fun q69 => ?_) (fun q69 => ?_) | refine gm_icmp_ne (tgt := 164) d_M_missed_69 (by decide) (fun q69 => ?_) (fun q69 => ?_)
    · refine gm_vret d_M_missed_164 rfl ?_
      first | (refine ⟨rfl, ?_⟩; rw [fc_mis2_some hx hr, if_pos (show st = 3 from q69)]; exact H2) | (refine ⟨rfl, ?_⟩; rw [fc_mis2_some hx hr, if_neg (show ¬ st = 3 from q69)]; exact H1)
    · refine gm_aload_n d_M_missed_72 rfl (by first | exact am_rvR _ | exact am_rvN | assumption) ?_
      refine gm_iload d_M_missed_73 rfl ?_
      refine gm_cV (b := A 44) d_M_missed_75 v_M_231 (vs := [.int (nI c)]) (st := []) rfl rfl (by decide) (Nat.le_of_ble_eq_true rfl) (fr_at _) (rf_clearK H1 J1 (by rw [fc_up_same, List.length_set]; exact hc)) ?_
      rintro v r3 ⟨rfl, H2⟩
      refine gm_goto (tgt := 164) d_M_missed_78 (by decide) ?_
      refine gm_vret d_M_missed_164 rfl ?_
      first | (refine ⟨rfl, ?_⟩; rw [fc_mis2_some hx hr, if_pos (show st = 3 from q69)]; exact H2) | (refine ⟨rfl, ?_⟩; rw [fc_mis2_some hx hr, if_neg (show ¬ st = 3 from q69)]; exact H1)
theorem rf_missed {i p f t : Nat} (H : fr_rel ns room idle s r) (J : fz_J own W ns room s) (hi : i < ns) (hp : p ≤ 4) (hf : f < 6) (ht : t < 6) (nr : Int32) : gm_M (fr_P A) fr_X g y_M_missed "(IIIII)V" 4 99 [.ref (A 44), .int (nI i), .int (nI p), .int (nI f), .int (nI t), .int nr] (fun v r' => v = none ∧ fr_rel ns room idle (fc_miss ns s i (nI p) (nI f) (nI t) nr) r') r := by
  have n5 := J.1.1.2.1
  have Io := J.1.2.2.2.2.2.2.2.1
  refine gm_Mof (L0 := [some (.ref (A 44)), some (.int (nI i)), some (.int (nI p)), some (.int (nI f)), some (.int (nI t)), some (.int nr), none, none]) pl_M_missed (am_k1 rfl (am_k1 rfl (am_k1 rfl (am_k1 rfl (am_k1 rfl (am_k1 rfl am_k0)))))) (Nat.le_of_ble_eq_true rfl) rfl ?_
  refine gm_iload_n d_M_missed_0 rfl ?_
  refine gm_iconst (v := nI 4) d_M_missed_1 (by decide) ?_
  first | refine gm_icmp_eqN (tgt := 31) d_M_missed_2 (by decide) (by omega) (by omega) (fun q2 => ?_) (fun q2 => ?_) | refine gm_icmp_eq (tgt := 31) d_M_missed_2 (by decide) (fun q2 => ?_) (fun q2 => ?_)
  · refine gm_post (fun v r1 hv => ?_) (rf_mis2 H J hi hp hf ht nr)
    rw [fc_miss_a (by omega) (by omega) (by first | exact fun z => z.1 q2 | exact fun z => q15 z.2)]
    exact hv
  · have h29 : r.2 29 (4 * i + p) = fc_get s 4 0 (4 * i + p) := (H.2.2.2.2.2.2.2.1.1 _ (by omega)).2
    refine gm_aload_n d_M_missed_5 rfl (by first | exact am_rvR _ | exact am_rvN | assumption) ?_
    refine fr_gA 29 d_M_missed_6 f_M_83 (by decide) (by decide) ?_
    refine gm_iconst (v := nI 4) d_M_missed_9 (by decide) ?_
    refine gm_iload_n d_M_missed_10 rfl ?_
    first | refine gm_imulN d_M_missed_11 ?_ | refine gm_imul d_M_missed_11 ?_
    refine gm_iload_n d_M_missed_12 rfl ?_
    first | refine gm_iaddN d_M_missed_13 ?_ | refine gm_iadd d_M_missed_13 ?_
    refine fr_zldv d_M_missed_14 (by decide) rfl (show _ < 20 by omega) (by first | assumption | (simp only [fr_up_at, fr_up_s, fr_sc_at, fr_sc_a, Nat.reduceEqDiff, false_and, if_false, ite_false, reduceCtorEq]; first | assumption | rfl) | rfl) ?_
    first | refine gm_if_neB (tgt := 31) d_M_missed_15 (by decide) (fun q15 => ?_) (fun q15 => ?_) | refine gm_if_neN (tgt := 31) d_M_missed_15 (by decide) (by omega) (fun q15 => ?_) (fun q15 => ?_) | refine gm_if_ne (tgt := 31) d_M_missed_15 (by decide) (fun q15 => ?_) (fun q15 => ?_)
    · refine gm_post (fun v r1 hv => ?_) (rf_mis2 H J hi hp hf ht nr)
      rw [fc_miss_a (by omega) (by omega) (by first | exact fun z => z.1 q2 | exact fun z => q15 z.2)]
      exact hv
    · refine gm_aload_n d_M_missed_18 rfl (by first | exact am_rvR _ | exact am_rvN | assumption) ?_
      refine fr_gA 30 d_M_missed_19 f_M_86 (by decide) (by decide) ?_
      refine gm_iload_n d_M_missed_22 rfl ?_
      refine gm_iconst (v := nI 4) d_M_missed_23 (by decide) ?_
      refine gm_iload_n d_M_missed_24 rfl ?_
      first | refine gm_imulN d_M_missed_25 ?_ | refine gm_imul d_M_missed_25 ?_
      refine gm_iload_n d_M_missed_26 rfl ?_
      first | refine gm_iaddN d_M_missed_27 ?_ | refine gm_iadd d_M_missed_27 ?_
      refine gm_iconst (v := nI 1) d_M_missed_28 (by decide) ?_
      first | refine gm_iaddN d_M_missed_29 ?_ | refine gm_iadd d_M_missed_29 ?_
      refine fr_ast d_M_missed_30 (by decide) rfl (show _ < 6 by omega) ?_
      refine gm_post (fun v r1 hv => ?_) (rf_mis2 (H.place n5 Io hf) (J.place (show 4 * i + p < 4 * ns by omega)) hi hp hf ht nr)
      rw [fc_miss_b (by omega) (by omega) q2 q15]
      exact hv
end REU
