/-! the reference: flood, links seen and down -/
section RET
variable {g : am_G} {A : Nat → Nat} {r : fr_S} {ns room idle : Nat} {s : fc_S} {own : Int32 → Int32 × Int32} {W : Nat}
theorem rf_flood {i p f t : Nat} (H : fr_rel ns room idle s r) (J : fz_J own W ns room s) (hi : i < ns) (hp : p ≤ 4) (hf : f < 6) (ht : t < 6) (nr : Int32) : gm_M (fr_P A) fr_X g y_M_flood "(IIIII)V" 2 53 [.ref (A 44), .int (nI i), .int (nI p), .int (nI f), .int (nI t), .int nr] (fun v r' => v = none ∧ fr_rel ns room idle (fc_flood s i (nI p) (nI f) (nI t) nr ns) r') r := by
  have n5 := J.1.1.2.1
  have outer : ∀ (q u : Nat) (x7 x8 x9 : Option Value) (r1 : fr_S), u + q = ns → fr_rel ns room idle (fc_flood s i (nI p) (nI f) (nI t) nr u) r1 → gm_W (fr_P A) fr_X g y_M_flood 2 53 (fun v r' => v = none ∧ fr_rel ns room idle (fc_flood s i (nI p) (nI f) (nI t) nr ns) r') 3 [some (.ref (A 44)), some (.int (nI i)), some (.int (nI p)), some (.int (nI f)), some (.int (nI t)), some (.int nr), some (.int (nI u)), x7, x8, x9] [] r1 := by
    intro q
    induction q with
    | zero =>
      intro u x7 x8 x9 r1 hu H1
      have eu : u = ns := by omega
      subst eu
      have h0 : r1.1 0 = nI u := H1.1.1
      refine gm_iload d_M_flood_3 rfl ?_
      refine gm_aload_n d_M_flood_5 rfl (by first | exact am_rvR _ | exact am_rvN | assumption) ?_
      refine fr_gSv 0 d_M_flood_6 f_M_123 (by decide) rfl (by first | assumption | (simp only [fr_up_at, fr_up_s, fr_sc_at, fr_sc_a, Nat.reduceEqDiff, false_and, if_false, ite_false, reduceCtorEq]; first | assumption | rfl) | rfl) ?_
      refine gm_icmp_geN (tgt := 108) d_M_flood_9 (by decide) (by omega) (by omega) (fun _ => ?_) (fun q => absurd q (by omega))
      refine gm_vret d_M_flood_108 rfl ?_
      exact ⟨rfl, H1⟩
    | succ q ih =>
      intro u x7 x8 x9 r1 hu H1
      have hun : u < ns := by omega
      have h0 : r1.1 0 = nI ns := H1.1.1
      have Ju := J.flood i (nI p) hf ht nr u (by omega)
      have e30 : (fc_flood s i (nI p) (nI f) (nI t) nr u) (30 + u) = s (30 + u) := fc_flood_ne (by omega)
      have l59 := J.1.o59 hun
      have inner : ∀ (q2 k : Nat) (y9 : Option Value), k + q2 = 4 → gm_W (fr_P A) fr_X g y_M_flood 2 53 (fun v r' => v = none ∧ fr_rel ns room idle (fc_flood s i (nI p) (nI f) (nI t) nr ns) r') 18 [some (.ref (A 44)), some (.int (nI i)), some (.int (nI p)), some (.int (nI f)), some (.int (nI t)), some (.int nr), some (.int (nI u)), some (.int (fc_bits s i (nI p) u k)), some (.int (nI k)), y9] [] r1 := by
        intro q2
        induction q2 with
        | zero =>
          intro k y9 hk
          have ek : k = 4 := by omega
          subst ek
          refine gm_iload d_M_flood_18 rfl ?_
          refine gm_iconst (v := nI 4) d_M_flood_20 (by decide) ?_
          refine gm_icmp_geN (tgt := 83) d_M_flood_21 (by decide) (by omega) (by omega) (fun _ => ?_) (fun q => absurd q (by omega))
          refine gm_iload d_M_flood_83 rfl ?_
          first | refine gm_if_eqB (tgt := 102) d_M_flood_85 (by decide) (fun q85 => ?_) (fun q85 => ?_) | refine gm_if_eqN (tgt := 102) d_M_flood_85 (by decide) (by omega) (fun q85 => ?_) (fun q85 => ?_) | refine gm_if_eq (tgt := 102) d_M_flood_85 (by decide) (fun q85 => ?_) (fun q85 => ?_)
          · first | refine gm_iincN (b := 1) (L1 := [_, _, _, _, _, _, _, _, _, _]) d_M_flood_102 rfl (by decide) (by decide) rfl ?_ | refine gm_iinc (L1 := [_, _, _, _, _, _, _, _, _, _]) d_M_flood_102 rfl rfl (by decide) rfl ?_
            refine gm_goto (tgt := 3) d_M_flood_105 (by decide) ?_
            refine ih (u + 1) _ _ _ _ (by omega) ?_
            rw [fc_flood_s, if_neg (fun z => z.1 q85)]
            exact H1
          · refine gm_aload_n d_M_flood_88 rfl (by first | exact am_rvR _ | exact am_rvN | assumption) ?_
            refine gm_iload d_M_flood_89 rfl ?_
            refine gm_iconst (v := nI 3) d_M_flood_91 (by decide) ?_
            refine gm_iload d_M_flood_92 rfl ?_
            refine gm_iload_n d_M_flood_94 rfl ?_
            refine gm_iload d_M_flood_95 rfl ?_
            refine gm_iload d_M_flood_97 rfl ?_
            refine gm_cV (b := A 44) d_M_flood_99 v_M_194 (vs := [.int (nI u), .int (nI 3), .int (fc_bits s i (nI p) u 4), .int (nI f), .int (nI t), .int nr]) (st := []) rfl rfl (by decide) (Nat.le_of_ble_eq_true rfl) (fr_at _) (rf_orderR (row := [3, fc_bits s i (nI p) u 4, nI f, nI t, nr]) H1 n5 Ju.1.l60 hun (by rw [e30]; exact l59) (by omega) rfl) ?_
            rintro v r2 ⟨rfl, H2⟩
            first | refine gm_iincN (b := 1) (L1 := [_, _, _, _, _, _, _, _, _, _]) d_M_flood_102 rfl (by decide) (by decide) rfl ?_ | refine gm_iinc (L1 := [_, _, _, _, _, _, _, _, _, _]) d_M_flood_102 rfl rfl (by decide) rfl ?_
            refine gm_goto (tgt := 3) d_M_flood_105 (by decide) ?_
            refine ih (u + 1) _ _ _ _ (by omega) ?_
            rw [fc_flood_s]
            unfold fc_len
            by_cases h16 : (s (30 + u)).length < 16
            · rw [if_pos ⟨q85, h16⟩]
              rw [if_pos (Or.inr (by rw [e30]; exact h16))] at H2
              exact H2
            · rw [if_neg (fun z => h16 z.2)]
              rw [if_neg (fun z => z.elim (fun z => z rfl) (fun z => h16 (by rw [e30] at z; exact z)))] at H2
              exact H2
        | succ q2 ih2 =>
          intro k y9 hk
          have h29 : r1.2 29 (4 * u + k) = fc_get s 4 0 (4 * u + k) := by
            rw [(H1.2.2.2.2.2.2.2.1.1 _ (show 4 * u + k < 4 * ns by omega)).2]
            unfold fc_get
            rw [fc_flood_ne (by omega)]
          refine gm_iload d_M_flood_18 rfl ?_
          refine gm_iconst (v := nI 4) d_M_flood_20 (by decide) ?_
          refine gm_icmp_geN (tgt := 83) d_M_flood_21 (by decide) (by omega) (by omega) (fun q => absurd q (by omega)) (fun _ => ?_)
          refine gm_aload_n d_M_flood_24 rfl (by first | exact am_rvR _ | exact am_rvN | assumption) ?_
          refine fr_gA 29 d_M_flood_25 f_M_83 (by decide) (by decide) ?_
          refine gm_iconst (v := nI 4) d_M_flood_28 (by decide) ?_
          refine gm_iload d_M_flood_29 rfl ?_
          first | refine gm_imulN d_M_flood_31 ?_ | refine gm_imul d_M_flood_31 ?_
          refine gm_iload d_M_flood_32 rfl ?_
          first | refine gm_iaddN d_M_flood_34 ?_ | refine gm_iadd d_M_flood_34 ?_
          refine fr_zldv d_M_flood_35 (by decide) rfl (show _ < 20 by omega) (by first | assumption | (simp only [fr_up_at, fr_up_s, fr_sc_at, fr_sc_a, Nat.reduceEqDiff, false_and, if_false, ite_false, reduceCtorEq]; first | assumption | rfl) | rfl) ?_
          first | refine gm_if_neB (tgt := 55) d_M_flood_36 (by decide) (fun q36 => ?_) (fun q36 => ?_) | refine gm_if_neN (tgt := 55) d_M_flood_36 (by decide) (by omega) (fun q36 => ?_) (fun q36 => ?_) | refine gm_if_ne (tgt := 55) d_M_flood_36 (by decide) (fun q36 => ?_) (fun q36 => ?_)
          · refine gm_iconst (v := nI 0) d_M_flood_55 (by decide) ?_
            refine gm_istore (L1 := [_, _, _, _, _, _, _, _, _, _]) d_M_flood_56 (by decide) rfl ?_
            refine gm_iload d_M_flood_58 rfl ?_
            refine gm_if_eqN (tgt := 73) d_M_flood_60 (by decide) (by omega) (fun _ => ?_) (fun q => absurd q (by omega))
            refine gm_iload d_M_flood_73 rfl ?_
            refine gm_istore (L1 := [_, _, _, _, _, _, _, _, _, _]) d_M_flood_75 (by decide) rfl ?_
            first | refine gm_iincN (b := 1) (L1 := [_, _, _, _, _, _, _, _, _, _]) d_M_flood_77 rfl (by decide) (by decide) rfl ?_ | refine gm_iinc (L1 := [_, _, _, _, _, _, _, _, _, _]) d_M_flood_77 rfl rfl (by decide) rfl ?_
            refine gm_goto (tgt := 18) d_M_flood_80 (by decide) ?_
            have h9 := ih2 (k + 1) (some (.int (nI 0))) (by omega)
            rw [fc_bits_s, if_neg (show ¬ (fc_get s 4 0 (4 * u + k) = 0 ∧ ¬ (u = i ∧ nI k = nI p)) from by first | exact fun z => q36 z.1 | exact fun z => z.2 ⟨q42, by rw [q48]⟩)] at h9
            exact h9
          · refine gm_iload d_M_flood_39 rfl ?_
            refine gm_iload_n d_M_flood_41 rfl ?_
            first | refine gm_icmp_neN (tgt := 51) d_M_flood_42 (by decide) (by omega) (by omega) (fun q42 => ?_) (fun q42 => ?_) | refine gm_icmp_ne (tgt := 51) d_M_flood_42 (by decide) (fun q42 => ?_) (fun q42 => ?_)
            · refine gm_iconst (v := nI 1) d_M_flood_51 (by decide) ?_
              refine gm_goto (tgt := 56) d_M_flood_52 (by decide) ?_
              refine gm_istore (L1 := [_, _, _, _, _, _, _, _, _, _]) d_M_flood_56 (by decide) rfl ?_
              refine gm_iload d_M_flood_58 rfl ?_
              refine gm_if_eqN (tgt := 73) d_M_flood_60 (by decide) (by omega) (fun q => absurd q (by omega)) (fun _ => ?_)
              refine gm_iload d_M_flood_63 rfl ?_
              refine gm_iconst (v := nI 1) d_M_flood_65 (by decide) ?_
              refine gm_iload d_M_flood_66 rfl ?_
              refine gm_ishl d_M_flood_68 ?_
              rw [am_sh4 (show k < 4 by omega)]
              refine gm_ior d_M_flood_69 ?_
              refine gm_goto (tgt := 75) d_M_flood_70 (by decide) ?_
              refine gm_istore (L1 := [_, _, _, _, _, _, _, _, _, _]) d_M_flood_75 (by decide) rfl ?_
              first | refine gm_iincN (b := 1) (L1 := [_, _, _, _, _, _, _, _, _, _]) d_M_flood_77 rfl (by decide) (by decide) rfl ?_ | refine gm_iinc (L1 := [_, _, _, _, _, _, _, _, _, _]) d_M_flood_77 rfl rfl (by decide) rfl ?_
              refine gm_goto (tgt := 18) d_M_flood_80 (by decide) ?_
              have h9 := ih2 (k + 1) (some (.int (nI 1))) (by omega)
              rw [fc_bits_s, if_pos (show fc_get s 4 0 (4 * u + k) = 0 ∧ ¬ (u = i ∧ nI k = nI p) from ⟨q36, by first | exact fun z => q42 z.1 | exact fun z => q48 ((nI_eq (by omega) (by omega)).mp z.2)⟩)] at h9
              exact h9
            · refine gm_iload d_M_flood_45 rfl ?_
              refine gm_iload_n d_M_flood_47 rfl ?_
              first | refine gm_icmp_eqN (tgt := 55) d_M_flood_48 (by decide) (by omega) (by omega) (fun q48 => ?_) (fun q48 => ?_) | refine gm_icmp_eq (tgt := 55) d_M_flood_48 (by decide) (fun q48 => ?_) (fun q48 => ?_)
              · refine gm_iconst (v := nI 0) d_M_flood_55 (by decide) ?_
                refine gm_istore (L1 := [_, _, _, _, _, _, _, _, _, _]) d_M_flood_56 (by decide) rfl ?_
                refine gm_iload d_M_flood_58 rfl ?_
                refine gm_if_eqN (tgt := 73) d_M_flood_60 (by decide) (by omega) (fun _ => ?_) (fun q => absurd q (by omega))
                refine gm_iload d_M_flood_73 rfl ?_
                refine gm_istore (L1 := [_, _, _, _, _, _, _, _, _, _]) d_M_flood_75 (by decide) rfl ?_
                first | refine gm_iincN (b := 1) (L1 := [_, _, _, _, _, _, _, _, _, _]) d_M_flood_77 rfl (by decide) (by decide) rfl ?_ | refine gm_iinc (L1 := [_, _, _, _, _, _, _, _, _, _]) d_M_flood_77 rfl rfl (by decide) rfl ?_
                refine gm_goto (tgt := 18) d_M_flood_80 (by decide) ?_
                have h9 := ih2 (k + 1) (some (.int (nI 0))) (by omega)
                rw [fc_bits_s, if_neg (show ¬ (fc_get s 4 0 (4 * u + k) = 0 ∧ ¬ (u = i ∧ nI k = nI p)) from by first | exact fun z => q36 z.1 | exact fun z => z.2 ⟨q42, by rw [q48]⟩)] at h9
                exact h9
              · refine gm_iconst (v := nI 1) d_M_flood_51 (by decide) ?_
                refine gm_goto (tgt := 56) d_M_flood_52 (by decide) ?_
                refine gm_istore (L1 := [_, _, _, _, _, _, _, _, _, _]) d_M_flood_56 (by decide) rfl ?_
                refine gm_iload d_M_flood_58 rfl ?_
                refine gm_if_eqN (tgt := 73) d_M_flood_60 (by decide) (by omega) (fun q => absurd q (by omega)) (fun _ => ?_)
                refine gm_iload d_M_flood_63 rfl ?_
                refine gm_iconst (v := nI 1) d_M_flood_65 (by decide) ?_
                refine gm_iload d_M_flood_66 rfl ?_
                refine gm_ishl d_M_flood_68 ?_
                rw [am_sh4 (show k < 4 by omega)]
                refine gm_ior d_M_flood_69 ?_
                refine gm_goto (tgt := 75) d_M_flood_70 (by decide) ?_
                refine gm_istore (L1 := [_, _, _, _, _, _, _, _, _, _]) d_M_flood_75 (by decide) rfl ?_
                first | refine gm_iincN (b := 1) (L1 := [_, _, _, _, _, _, _, _, _, _]) d_M_flood_77 rfl (by decide) (by decide) rfl ?_ | refine gm_iinc (L1 := [_, _, _, _, _, _, _, _, _, _]) d_M_flood_77 rfl rfl (by decide) rfl ?_
                refine gm_goto (tgt := 18) d_M_flood_80 (by decide) ?_
                have h9 := ih2 (k + 1) (some (.int (nI 1))) (by omega)
                rw [fc_bits_s, if_pos (show fc_get s 4 0 (4 * u + k) = 0 ∧ ¬ (u = i ∧ nI k = nI p) from ⟨q36, by first | exact fun z => q42 z.1 | exact fun z => q48 ((nI_eq (by omega) (by omega)).mp z.2)⟩)] at h9
                exact h9
      refine gm_iload d_M_flood_3 rfl ?_
      refine gm_aload_n d_M_flood_5 rfl (by first | exact am_rvR _ | exact am_rvN | assumption) ?_
      refine fr_gSv 0 d_M_flood_6 f_M_123 (by decide) rfl (by first | assumption | (simp only [fr_up_at, fr_up_s, fr_sc_at, fr_sc_a, Nat.reduceEqDiff, false_and, if_false, ite_false, reduceCtorEq]; first | assumption | rfl) | rfl) ?_
      refine gm_icmp_geN (tgt := 108) d_M_flood_9 (by decide) (by omega) (by omega) (fun q => absurd q (by omega)) (fun _ => ?_)
      refine gm_iconst (v := nI 0) d_M_flood_12 (by decide) ?_
      refine gm_istore (L1 := [_, _, _, _, _, _, _, _, _, _]) d_M_flood_13 (by decide) rfl ?_
      refine gm_iconst (v := nI 0) d_M_flood_15 (by decide) ?_
      refine gm_istore (L1 := [_, _, _, _, _, _, _, _, _, _]) d_M_flood_16 (by decide) rfl ?_
      exact inner 4 0 x9 (by omega)
  refine gm_Mof (L0 := [some (.ref (A 44)), some (.int (nI i)), some (.int (nI p)), some (.int (nI f)), some (.int (nI t)), some (.int nr), none, none, none, none]) pl_M_flood (am_k1 rfl (am_k1 rfl (am_k1 rfl (am_k1 rfl (am_k1 rfl (am_k1 rfl am_k0)))))) (Nat.le_of_ble_eq_true rfl) rfl ?_
  refine gm_iconst (v := nI 0) d_M_flood_0 (by decide) ?_
  refine gm_istore (L1 := [_, _, _, _, _, _, _, _, _, _]) d_M_flood_1 (by decide) rfl ?_
  exact outer ns 0 none none none r (by omega) H
theorem rf_clearK {c : Nat} (H : fr_rel ns room idle s r) (J : fz_J own W ns room s) (hc : c < (s 7).length) : gm_M (fr_P A) fr_X g y_M_clear "(I)V" 2 53 [.ref (A 44), .int (nI c)] (fun v r' => v = none ∧ fr_rel ns room idle (fc_clr s c) r') r := by
  have IK := J.1.2.2.2.2.2.2.2.2
  have k6 := IK.1
  obtain ⟨⟨x0, h2⟩, -⟩ := J.1.2.2.2.2.2.2.2.1
  obtain ⟨f, t, l, st, wv, aw, kp, kn, way, hr, h1, h2', h4, h5, h6, h7, h8, h9⟩ := IK.row hc
  exact rf_clear H J.1.1.2.1 J.rm46 (by omega) h2 hr (IK.w5 c) h1 h2' h7 h9
theorem fr_nbeq {x y : Nat} (h : x ≠ y) (hx : x < 1000) (hy : y < 1000) : (some (nI x) == some (nI y)) = false := by
  rw [Bool.eq_false_iff]
  intro z
  exact h ((nI_eq (by omega) (by omega)).mp (Option.some.inj (beq_iff_eq.mp z)))
theorem rf_seen {e o : Nat} (H : fr_rel ns room idle s r) (J : fz_J own W ns room s) (hW : W + 6 < 2 ^ 31) (he : e < 4 * ns) (ho : o < 4 * ns) : gm_M (fr_P A) fr_X g y_M_seen "(II)V" 3 76 [.ref (A 44), .int (nI e), .int (nI o)] (fun v r' => v = none ∧ fr_rel ns room idle (fc_seen s e o) r') r := by
  have n5 := J.1.1.2.1
  have Io := J.1.2.2.2.2.2.2.2.1
  have IK := J.1.2.2.2.2.2.2.2.2
  have k6 := IK.1
  obtain ⟨-, ⟨ot, h3, h3l, h3e⟩, ⟨mk, h4, h4l, h4e⟩, ⟨p0, h5, h5l, h5e⟩⟩ := id Io
  obtain ⟨s1, es1⟩ : ∃ s1, s1 = fc_up (fc_up (fc_up s 4 [(mk.set e 1).set o 1]) 3 [(ot.set e (nI o)).set o (nI e)]) 5 [p0.map (fun x => if x = nI e ∨ x = nI o then -1 else x)] := ⟨_, rfl⟩
  have esn : fc_seen s e o = fc_hurt s1 (fun w => w.getLast? == some (nI e) || w.getLast? == some (nI o)) (s 7).length := by
    unfold fc_seen fc_len
    rw [h3, h4, h5, es1]
    rfl
  have Io' : fc_iO ns s1 := by
    rw [es1]
    refine ((Io.up4 (by rw [List.length_set, List.length_set]; exact h4l) (am_set2 h4e (Or.inr rfl) (Or.inr rfl))).up3 (by rw [List.length_set, List.length_set]; exact h3l) (am_set2 h3e (Or.inr ⟨o, ho, rfl⟩) (Or.inr ⟨e, he, rfl⟩))).up5 (by rw [List.length_map]; exact h5l) (fun x hx => ?_)
    obtain ⟨y, hy, rfl⟩ := List.mem_map.mp hx
    show fc_end ns (if y = nI e ∨ y = nI o then -1 else y)
    split
    · exact Or.inl rfl
    · exact h5e y hy
  have ne : ∀ c, c ≠ 3 → c ≠ 4 → c ≠ 5 → s1 c = s c := fun c a b d => by rw [es1, fc_up_ne _ d, fc_up_ne _ a, fc_up_ne _ b]
  have e7 : s1 7 = s 7 := ne 7 (by omega) (by omega) (by omega)
  have J1 := J.ctl Io' ne
  have IK1 : fc_iK ns s1 := IK.same e7
  rw [esn]
  have key2 : ∀ (q c : Nat) (x4 : Option Value) (r1 : fr_S), c + q = (s 7).length → fr_rel ns room idle (fc_hurt s1 (fun w => w.getLast? == some (nI e) || w.getLast? == some (nI o)) c) r1 → gm_W (fr_P A) fr_X g y_M_seen 3 76 (fun v r' => v = none ∧ fr_rel ns room idle (fc_hurt s1 (fun w => w.getLast? == some (nI e) || w.getLast? == some (nI o)) (s 7).length) r') 88 [some (.ref (A 44)), some (.int (nI e)), some (.int (nI o)), some (.int (nI c)), x4] [] r1 := by
    intro q
    induction q with
    | zero =>
      intro c x4 r1 hc H1
      have ec : c = (s 7).length := by omega
      have h32 : r1.1 32 = nI (s 7).length := by rw [H1.2.2.2.2.2.2.2.2.2.1, (fc_hurt_ok IK1 Io' _ c (by rw [e7]; omega)).2.2.1, e7]
      rw [ec] at H1
      refine gm_iload_n d_M_seen_88 rfl ?_
      refine gm_aload_n d_M_seen_89 rfl (by first | exact am_rvR _ | exact am_rvN | assumption) ?_
      refine fr_gSv 32 d_M_seen_90 f_M_206 (by decide) rfl (by first | assumption | (simp only [fr_up_at, fr_up_s, fr_sc_at, fr_sc_a, Nat.reduceEqDiff, false_and, if_false, ite_false, reduceCtorEq]; first | assumption | rfl) | rfl) ?_
      refine gm_icmp_geN (tgt := 144) d_M_seen_93 (by decide) (by omega) (by omega) (fun _ => ?_) (fun q => absurd q (by omega))
      refine gm_vret d_M_seen_144 rfl ?_
      exact ⟨rfl, H1⟩
    | succ q ih =>
      intro c x4 r1 hc H1
      have hcl : c < (s1 7).length := by rw [e7]; omega
      obtain ⟨IKc, Ioc, hl, hj⟩ := fc_hurt_ok IK1 Io' (fun w => w.getLast? == some (nI e) || w.getLast? == some (nI o)) c (by omega)
      have h32 : r1.1 32 = nI (s 7).length := by rw [H1.2.2.2.2.2.2.2.2.2.1, hl, e7]
      obtain ⟨f, t, l, st, wv, aw, kp, kn, way, hr, h1, h2', h4', h5', h6, h7, h8, h9⟩ := IK1.row hcl
      have hrc : (fc_hurt s1 (fun w => w.getLast? == some (nI e) || w.getLast? == some (nI o)) c 7)[c]? = some ([nI f, nI t, st, wv, aw, nI l, kp, kn] ++ way) := by rw [hj c (Nat.le_refl _)]; exact hr
      have hrow := H1.2.2.2.2.2.2.2.2.row hrc
      have h38 : r1.2 38 c = nI way.length := hrow.2.2.2.2.2.1
      have h34 : r1.2 34 c = st := hrow.2.1
      obtain ⟨mt, hm, hx⟩ := fc_last (show way.length ≠ 0 by omega) h9
      have h39 : r1.2 39 (5 * c + (way.length - 1)) = nI (5 * (mt / 4) + mt % 4) := hrow.way hx (by omega)
      have hlast := fc_last_eq (show 0 < way.length by omega) hx
      obtain ⟨own', W', hW', Jc⟩ := J1.hurt (fun w => w.getLast? == some (nI e) || w.getLast? == some (nI o)) c (by omega) (by omega)
      refine gm_iload_n d_M_seen_88 rfl ?_
      refine gm_aload_n d_M_seen_89 rfl (by first | exact am_rvR _ | exact am_rvN | assumption) ?_
      refine fr_gSv 32 d_M_seen_90 f_M_206 (by decide) rfl (by first | assumption | (simp only [fr_up_at, fr_up_s, fr_sc_at, fr_sc_a, Nat.reduceEqDiff, false_and, if_false, ite_false, reduceCtorEq]; first | assumption | rfl) | rfl) ?_
      refine gm_icmp_geN (tgt := 144) d_M_seen_93 (by decide) (by omega) (by omega) (fun q => absurd q (by omega)) (fun _ => ?_)
      refine gm_aload_n d_M_seen_96 rfl (by first | exact am_rvR _ | exact am_rvN | assumption) ?_
      refine gm_iload_n d_M_seen_97 rfl ?_
      refine gm_aload_n d_M_seen_98 rfl (by first | exact am_rvR _ | exact am_rvN | assumption) ?_
      refine fr_gA 38 d_M_seen_99 f_M_104 (by decide) (by decide) ?_
      refine gm_iload_n d_M_seen_102 rfl ?_
      refine fr_aldv d_M_seen_103 (by decide) rfl (show _ < 6 by omega) (by first | assumption | (simp only [fr_up_at, fr_up_s, fr_sc_at, fr_sc_a, Nat.reduceEqDiff, false_and, if_false, ite_false, reduceCtorEq]; first | assumption | rfl) | rfl) ?_
      refine gm_iconst (v := nI 1) d_M_seen_104 (by decide) ?_
      first | refine gm_isubN d_M_seen_105 (by omega) ?_ | refine gm_isub d_M_seen_105 ?_
      refine gm_cV (b := A 44) d_M_seen_106 v_M_249 (vs := [.int (nI c), .int (nI (way.length - 1))]) (st := []) rfl rfl (by decide) (Nat.le_of_ble_eq_true rfl) (fr_at _) (rf_portOf (by omega) h39 (by omega)) ?_
      rintro v r2 ⟨rfl, hr2⟩
      subst r2
      refine gm_istore (L1 := [_, _, _, _, _]) d_M_seen_109 (by decide) rfl ?_
      refine gm_aload_n d_M_seen_111 rfl (by first | exact am_rvR _ | exact am_rvN | assumption) ?_
      refine fr_gA 34 d_M_seen_112 f_M_92 (by decide) (by decide) ?_
      refine gm_iload_n d_M_seen_115 rfl ?_
      refine fr_aldv d_M_seen_116 (by decide) rfl (show _ < 6 by omega) (by first | assumption | (simp only [fr_up_at, fr_up_s, fr_sc_at, fr_sc_a, Nat.reduceEqDiff, false_and, if_false, ite_false, reduceCtorEq]; first | assumption | rfl) | rfl) ?_
      refine gm_iconst (v := nI 1) d_M_seen_117 (by decide) ?_
      first | refine gm_icmp_eqN (tgt := 138) d_M_seen_118 (by decide) (by omega) (by omega) (fun q118 => ?_) (fun q118 => ?_) | refine gm_icmp_eq (tgt := 138) d_M_seen_118 (by decide) (fun q118 => ?_) (fun q118 => ?_)
      · first | refine gm_iincN (b := 1) (L1 := [_, _, _, _, _]) d_M_seen_138 rfl (by decide) (by decide) rfl ?_ | refine gm_iinc (L1 := [_, _, _, _, _]) d_M_seen_138 rfl rfl (by decide) rfl ?_
        refine gm_goto (tgt := 88) d_M_seen_141 (by decide) ?_
        exact ih (c + 1) _ _ (by omega) (by rw [fc_hurt_no hr (by first | exact Or.inr q118 | exact Or.inl (show ((way.getLast? == some (nI e)) || (way.getLast? == some (nI o))) = false by rw [hlast, fr_nbeq q124 (by omega) (by omega), fr_nbeq q130 (by omega) (by omega)]; rfl))]; exact H1)
      · refine gm_iload d_M_seen_121 rfl ?_
        refine gm_iload_n d_M_seen_123 rfl ?_
        first | refine gm_icmp_eqN (tgt := 133) d_M_seen_124 (by decide) (by omega) (by omega) (fun q124 => ?_) (fun q124 => ?_) | refine gm_icmp_eq (tgt := 133) d_M_seen_124 (by decide) (fun q124 => ?_) (fun q124 => ?_)
        · refine gm_aload_n d_M_seen_133 rfl (by first | exact am_rvR _ | exact am_rvN | assumption) ?_
          refine gm_iload_n d_M_seen_134 rfl ?_
          refine gm_cV (b := A 44) d_M_seen_135 v_M_231 (vs := [.int (nI c)]) (st := []) rfl rfl (by decide) (Nat.le_of_ble_eq_true rfl) (fr_at _) (rf_clearK H1 Jc (by rw [hl]; exact hcl)) ?_
          rintro v r2 ⟨rfl, H2⟩
          first | refine gm_iincN (b := 1) (L1 := [_, _, _, _, _]) d_M_seen_138 rfl (by decide) (by decide) rfl ?_ | refine gm_iinc (L1 := [_, _, _, _, _]) d_M_seen_138 rfl rfl (by decide) rfl ?_
          refine gm_goto (tgt := 88) d_M_seen_141 (by decide) ?_
          exact ih (c + 1) _ _ (by omega) (by rw [fc_hurt_yes hr (show ((way.getLast? == some (nI e)) || (way.getLast? == some (nI o))) = true by rw [hlast]; first | (rw [q124]; simp) | (rw [q130]; simp)) h4' q118]; exact H2)
        · refine gm_iload d_M_seen_127 rfl ?_
          refine gm_iload_n d_M_seen_129 rfl ?_
          first | refine gm_icmp_neN (tgt := 138) d_M_seen_130 (by decide) (by omega) (by omega) (fun q130 => ?_) (fun q130 => ?_) | refine gm_icmp_ne (tgt := 138) d_M_seen_130 (by decide) (fun q130 => ?_) (fun q130 => ?_)
          · first | refine gm_iincN (b := 1) (L1 := [_, _, _, _, _]) d_M_seen_138 rfl (by decide) (by decide) rfl ?_ | refine gm_iinc (L1 := [_, _, _, _, _]) d_M_seen_138 rfl rfl (by decide) rfl ?_
            refine gm_goto (tgt := 88) d_M_seen_141 (by decide) ?_
            exact ih (c + 1) _ _ (by omega) (by rw [fc_hurt_no hr (by first | exact Or.inr q118 | exact Or.inl (show ((way.getLast? == some (nI e)) || (way.getLast? == some (nI o))) = false by rw [hlast, fr_nbeq q124 (by omega) (by omega), fr_nbeq q130 (by omega) (by omega)]; rfl))]; exact H1)
          · refine gm_aload_n d_M_seen_133 rfl (by first | exact am_rvR _ | exact am_rvN | assumption) ?_
            refine gm_iload_n d_M_seen_134 rfl ?_
            refine gm_cV (b := A 44) d_M_seen_135 v_M_231 (vs := [.int (nI c)]) (st := []) rfl rfl (by decide) (Nat.le_of_ble_eq_true rfl) (fr_at _) (rf_clearK H1 Jc (by rw [hl]; exact hcl)) ?_
            rintro v r2 ⟨rfl, H2⟩
            first | refine gm_iincN (b := 1) (L1 := [_, _, _, _, _]) d_M_seen_138 rfl (by decide) (by decide) rfl ?_ | refine gm_iinc (L1 := [_, _, _, _, _]) d_M_seen_138 rfl rfl (by decide) rfl ?_
            refine gm_goto (tgt := 88) d_M_seen_141 (by decide) ?_
            exact ih (c + 1) _ _ (by omega) (by rw [fc_hurt_yes hr (show ((way.getLast? == some (nI e)) || (way.getLast? == some (nI o))) = true by rw [hlast]; first | (rw [q124]; simp) | (rw [q130]; simp)) h4' q118]; exact H2)
  have key1 : ∀ (q h : Nat) (r1 : fr_S), h + q = 6 → fr_sm [30] (fr_sn1 r e o) r1 → (∀ j, j < h → r1.2 30 j = (if p0.getD j 0 = nI e ∨ p0.getD j 0 = nI o then -1 else p0.getD j 0) + nI 1) → (∀ j, h ≤ j → j < 6 → r1.2 30 j = p0.getD j 0 + nI 1) → gm_W (fr_P A) fr_X g y_M_seen 3 76 (fun v r' => v = none ∧ fr_rel ns room idle (fc_hurt s1 (fun w => w.getLast? == some (nI e) || w.getLast? == some (nI o)) (s 7).length) r') 34 [some (.ref (A 44)), some (.int (nI e)), some (.int (nI o)), some (.int (nI h)), none] [] r1 := by
    intro q
    induction q with
    | zero =>
      intro h r1 hh hs1 hlo hhi
      have H1 : fr_rel ns room idle s1 r1 := by rw [es1]; exact H.seen n5 h3 h4 h5 h3l h4l h5l he ho hs1 (fun j hj => hlo j (by omega))
      refine gm_iload_n d_M_seen_34 rfl ?_
      refine gm_bipush (v := nI 6) d_M_seen_35 (by decide) ?_
      refine gm_icmp_geN (tgt := 86) d_M_seen_37 (by decide) (by omega) (by omega) (fun _ => ?_) (fun q => absurd q (by omega))
      refine gm_iconst (v := nI 0) d_M_seen_86 (by decide) ?_
      refine gm_istore_n (L1 := [_, _, _, _, _]) d_M_seen_87 (by decide) rfl ?_
      exact key2 (s 7).length 0 none r1 (by omega) H1
    | succ q ih =>
      intro h r1 hh hs1 hlo hhi
      obtain ⟨x, hx⟩ : ∃ x, p0.getD h 0 = x := ⟨_, rfl⟩
      have h30 : r1.2 30 h = x + nI 1 := by rw [← hx]; exact hhi h (Nat.le_refl _) (by omega)
      have xe : ∀ y : Nat, x + nI 1 = nI (y + 1) ↔ x = nI y := fun y => by
        rw [← nI_add y 1]
        refine ⟨fun z => ?_, fun z => by rw [z]⟩
        have h9 := congrArg (fun q => q - nI 1) z
        simp only [Int32.add_sub_cancel] at h9
        exact h9
      have go : ∀ y : Int32, y = (if x = nI e ∨ x = nI o then -1 else x) + nI 1 → fr_sm [30] (fr_sn1 r e o) (fr_up r1 30 h y) ∧ (∀ j, j < h + 1 → (fr_up r1 30 h y).2 30 j = (if p0.getD j 0 = nI e ∨ p0.getD j 0 = nI o then -1 else p0.getD j 0) + nI 1) ∧ (∀ j, h + 1 ≤ j → j < 6 → (fr_up r1 30 h y).2 30 j = p0.getD j 0 + nI 1) := fun y hy => by
        refine ⟨hs1.up (by decide) _ _, fun j hj => ?_, fun j hj hj6 => ?_⟩
        · rw [fr_up_hit]
          by_cases z : j = h
          · subst z; rw [if_pos rfl, hx]; exact hy
          · rw [if_neg z]; exact hlo j (by omega)
        · rw [fr_up_hit, if_neg (by omega)]; exact hhi j (by omega) hj6
      refine gm_iload_n d_M_seen_34 rfl ?_
      refine gm_bipush (v := nI 6) d_M_seen_35 (by decide) ?_
      refine gm_icmp_geN (tgt := 86) d_M_seen_37 (by decide) (by omega) (by omega) (fun q => absurd q (by omega)) (fun _ => ?_)
      refine gm_aload_n d_M_seen_40 rfl (by first | exact am_rvR _ | exact am_rvN | assumption) ?_
      refine fr_gA 30 d_M_seen_41 f_M_86 (by decide) (by decide) ?_
      refine gm_iload_n d_M_seen_44 rfl ?_
      refine gm_aload_n d_M_seen_45 rfl (by first | exact am_rvR _ | exact am_rvN | assumption) ?_
      refine fr_gA 30 d_M_seen_46 f_M_86 (by decide) (by decide) ?_
      refine gm_iload_n d_M_seen_49 rfl ?_
      refine fr_aldv d_M_seen_50 (by decide) rfl (show _ < 6 by omega) (by first | assumption | (simp only [fr_up_at, fr_up_s, fr_sc_at, fr_sc_a, Nat.reduceEqDiff, false_and, if_false, ite_false, reduceCtorEq]; first | assumption | rfl) | rfl) ?_
      refine gm_iload_n d_M_seen_51 rfl ?_
      refine gm_iconst (v := nI 1) d_M_seen_52 (by decide) ?_
      first | refine gm_iaddN d_M_seen_53 ?_ | refine gm_iadd d_M_seen_53 ?_
      first | refine gm_icmp_eqN (tgt := 69) d_M_seen_54 (by decide) (by omega) (by omega) (fun q54 => ?_) (fun q54 => ?_) | refine gm_icmp_eq (tgt := 69) d_M_seen_54 (by decide) (fun q54 => ?_) (fun q54 => ?_)
      · refine gm_iconst (v := nI 0) d_M_seen_69 (by decide) ?_
        refine gm_goto (tgt := 79) d_M_seen_70 (by decide) ?_
        refine fr_ast d_M_seen_79 (by decide) rfl (show _ < 6 by omega) ?_
        first | refine gm_iincN (b := 1) (L1 := [_, _, _, _, _]) d_M_seen_80 rfl (by decide) (by decide) rfl ?_ | refine gm_iinc (L1 := [_, _, _, _, _]) d_M_seen_80 rfl rfl (by decide) rfl ?_
        refine gm_goto (tgt := 34) d_M_seen_83 (by decide) ?_
        obtain ⟨g1, g2, g3⟩ := go _ (by rw [if_pos (by first | exact Or.inl ((xe e).mp q54) | exact Or.inr ((xe o).mp q66))])
        exact ih (h + 1) _ (by omega) g1 g2 g3
      · refine gm_aload_n d_M_seen_57 rfl (by first | exact am_rvR _ | exact am_rvN | assumption) ?_
        refine fr_gA 30 d_M_seen_58 f_M_86 (by decide) (by decide) ?_
        refine gm_iload_n d_M_seen_61 rfl ?_
        refine fr_aldv d_M_seen_62 (by decide) rfl (show _ < 6 by omega) (by first | assumption | (simp only [fr_up_at, fr_up_s, fr_sc_at, fr_sc_a, Nat.reduceEqDiff, false_and, if_false, ite_false, reduceCtorEq]; first | assumption | rfl) | rfl) ?_
        refine gm_iload_n d_M_seen_63 rfl ?_
        refine gm_iconst (v := nI 1) d_M_seen_64 (by decide) ?_
        first | refine gm_iaddN d_M_seen_65 ?_ | refine gm_iadd d_M_seen_65 ?_
        first | refine gm_icmp_neN (tgt := 73) d_M_seen_66 (by decide) (by omega) (by omega) (fun q66 => ?_) (fun q66 => ?_) | refine gm_icmp_ne (tgt := 73) d_M_seen_66 (by decide) (fun q66 => ?_) (fun q66 => ?_)
        · refine gm_aload_n d_M_seen_73 rfl (by first | exact am_rvR _ | exact am_rvN | assumption) ?_
          refine fr_gA 30 d_M_seen_74 f_M_86 (by decide) (by decide) ?_
          refine gm_iload_n d_M_seen_77 rfl ?_
          refine fr_aldv d_M_seen_78 (by decide) rfl (show _ < 6 by omega) (by first | assumption | (simp only [fr_up_at, fr_up_s, fr_sc_at, fr_sc_a, Nat.reduceEqDiff, false_and, if_false, ite_false, reduceCtorEq]; first | assumption | rfl) | rfl) ?_
          refine fr_ast d_M_seen_79 (by decide) rfl (show _ < 6 by omega) ?_
          first | refine gm_iincN (b := 1) (L1 := [_, _, _, _, _]) d_M_seen_80 rfl (by decide) (by decide) rfl ?_ | refine gm_iinc (L1 := [_, _, _, _, _]) d_M_seen_80 rfl rfl (by decide) rfl ?_
          refine gm_goto (tgt := 34) d_M_seen_83 (by decide) ?_
          obtain ⟨g1, g2, g3⟩ := go _ (by rw [if_neg (fun z => z.elim (fun z => q54 ((xe e).mpr z)) (fun z => q66 ((xe o).mpr z)))])
          exact ih (h + 1) _ (by omega) g1 g2 g3
        · refine gm_iconst (v := nI 0) d_M_seen_69 (by decide) ?_
          refine gm_goto (tgt := 79) d_M_seen_70 (by decide) ?_
          refine fr_ast d_M_seen_79 (by decide) rfl (show _ < 6 by omega) ?_
          first | refine gm_iincN (b := 1) (L1 := [_, _, _, _, _]) d_M_seen_80 rfl (by decide) (by decide) rfl ?_ | refine gm_iinc (L1 := [_, _, _, _, _]) d_M_seen_80 rfl rfl (by decide) rfl ?_
          refine gm_goto (tgt := 34) d_M_seen_83 (by decide) ?_
          obtain ⟨g1, g2, g3⟩ := go _ (by rw [if_pos (by first | exact Or.inl ((xe e).mp q54) | exact Or.inr ((xe o).mp q66))])
          exact ih (h + 1) _ (by omega) g1 g2 g3
  refine gm_Mof (L0 := [some (.ref (A 44)), some (.int (nI e)), some (.int (nI o)), none, none]) pl_M_seen (am_k1 rfl (am_k1 rfl (am_k1 rfl am_k0))) (Nat.le_of_ble_eq_true rfl) rfl ?_
  refine gm_aload_n d_M_seen_0 rfl (by first | exact am_rvR _ | exact am_rvN | assumption) ?_
  refine fr_gA 28 d_M_seen_1 f_M_80 (by decide) (by decide) ?_
  refine gm_iload_n d_M_seen_4 rfl ?_
  refine gm_iload_n d_M_seen_5 rfl ?_
  refine gm_iconst (v := nI 1) d_M_seen_6 (by decide) ?_
  first | refine gm_iaddN d_M_seen_7 ?_ | refine gm_iadd d_M_seen_7 ?_
  refine fr_ast d_M_seen_8 (by decide) rfl (show _ < 20 by omega) ?_
  refine gm_aload_n d_M_seen_9 rfl (by first | exact am_rvR _ | exact am_rvN | assumption) ?_
  refine fr_gA 28 d_M_seen_10 f_M_80 (by decide) (by decide) ?_
  refine gm_iload_n d_M_seen_13 rfl ?_
  refine gm_iload_n d_M_seen_14 rfl ?_
  refine gm_iconst (v := nI 1) d_M_seen_15 (by decide) ?_
  first | refine gm_iaddN d_M_seen_16 ?_ | refine gm_iadd d_M_seen_16 ?_
  refine fr_ast d_M_seen_17 (by decide) rfl (show _ < 20 by omega) ?_
  refine gm_aload_n d_M_seen_18 rfl (by first | exact am_rvR _ | exact am_rvN | assumption) ?_
  refine fr_gA 29 d_M_seen_19 f_M_83 (by decide) (by decide) ?_
  refine gm_iload_n d_M_seen_22 rfl ?_
  refine gm_iconst (v := nI 1) d_M_seen_23 (by decide) ?_
  refine fr_zst d_M_seen_24 (by decide) rfl (show _ < 20 by omega) (by first | rfl | exact am_b_nar _) ?_
  refine gm_aload_n d_M_seen_25 rfl (by first | exact am_rvR _ | exact am_rvN | assumption) ?_
  refine fr_gA 29 d_M_seen_26 f_M_83 (by decide) (by decide) ?_
  refine gm_iload_n d_M_seen_29 rfl ?_
  refine gm_iconst (v := nI 1) d_M_seen_30 (by decide) ?_
  refine fr_zst d_M_seen_31 (by decide) rfl (show _ < 20 by omega) (by first | rfl | exact am_b_nar _) ?_
  refine gm_iconst (v := nI 0) d_M_seen_32 (by decide) ?_
  refine gm_istore_n (L1 := [_, _, _, _, _]) d_M_seen_33 (by decide) rfl ?_
  exact key1 6 0 _ (by omega) (fr_sm.refl _ _) (fun j hj => absurd hj (Nat.not_lt_zero _)) (fun j _ hj => by
    have h9 := H.2.2.2.2.2.2.2.1.2 j hj
    unfold fc_get at h9
    rw [h5] at h9
    exact h9)
end RET
